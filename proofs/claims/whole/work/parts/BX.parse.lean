section
/-! HOW A TEXT IS READ: what a SUM or TEST means, without code -/
abbrev Den : Type := (Nat → Int32) → Option Int64
abbrev PR : Type := Nat × Option (Nat × Den)
def bnD (o : Int32) (A B : Den) : Den := fun st => match A st with
  | none => none
  | some x => match B st with
    | none => none
    | some y => rk o x y
def ntD (A : Den) : Den := fun st => match A st with
  | none => none
  | some v => some (1 - v)
def anD (A B : Den) : Den := fun st => match A st with
  | none => none
  | some v => if v = 0 then some v else B st
def orD (A B : Den) : Den := fun st => match A st with
  | none => none
  | some v => if v = 1 then some v else B st
def is01 (A : Den) : Prop := ∀ st v, A st = some v → v = 0 ∨ v = 1
def prSq (L : Nat) (tp : Nat → Int32) (S : Nat → Nat → PR) (b np : Nat) : PR := match S b np with
  | (b1, none) => (b1, none)
  | (b1, some (n1, D)) => if isS L tp b1 93 = true then (nxt L tp b1, some (n1, D)) else (b1, none)
def prLm2 (L : Nat) (tp : Nat → Int32) (S : Nat → Nat → PR) (q b np : Nat) (D1 : Den) : PR := match S b np with
  | (b2, none) => (b2, none)
  | (b2, some (n2, D2)) => if isS L tp b2 93 = true then (nxt L tp b2, some (n2, bnD (if q = 0 then 15 else 16) D1 D2)) else (b2, none)
def prLm1 (L : Nat) (tp : Nat → Int32) (S : Nat → Nat → PR) (q b np : Nat) : PR := match S b np with
  | (b1, none) => (b1, none)
  | (b1, some (n1, D1)) => if isS L tp b1 44 = true then prLm2 L tp S q (nxt L tp b1) n1 D1 else (b1, none)
def prLm (L : Nat) (tp : Nat → Int32) (S : Nat → Nat → PR) (q b np : Nat) : PR := if isS L tp b 91 = true then prLm1 L tp S q (nxt L tp b) np else (b, none)
def prPart (L : Nat) (tp : Nat → Int32) (S : Nat → Nat → PR) (ok : Bool) (b np : Nat) : PR :=
  if tkT L tp b = 2 then (if tkN L tp b ≤ 10000 ∧ np < 60 then (nxt L tp b, some (np + 1, fun _ => some (lN (tkN L tp b)))) else (b, none))
  else match ixQ L tp b (wL 6) 0 with
    | some q => if np < 60 then (nxt L tp b, some (np + 1, fun st => some (st q).toInt64)) else (b, none)
    | none => if ok = true then (if isS L tp b 91 = true then prSq L tp S (nxt L tp b) np else match ixQ L tp b (wL 7) 0 with
      | none => (b, none)
      | some q => prLm L tp S q (nxt L tp b) np) else (b, none)
def prLoop (L : Nat) (tp : Nat → Int32) (x y o p : Int32) (P : Nat → Nat → PR) : Nat → Nat → Nat → Den → PR := fun f => match f with
  | 0 => fun b np D => (b, some (np, D))
  | f + 1 => fun b np D => if isS L tp b x = true ∨ isS L tp b y = true then (match P (nxt L tp b) np with
    | (b1, none) => (b1, none)
    | (b1, some (n1, D1)) => prLoop L tp x y o p P f b1 n1 (bnD (if isS L tp b x = true then o else p) D D1)) else (b, some (np, D))
def prRow (L : Nat) (tp : Nat → Int32) (x y o p : Int32) (P : Nat → Nat → PR) (b np : Nat) : PR := match P b np with
  | (b1, none) => (b1, none)
  | (b1, some (n1, D)) => prLoop L tp x y o p P 401 b1 n1 D
def prSm (L : Nat) (tp : Nat → Int32) : Nat → Nat → Nat → PR := fun k => match k with
  | 0 => prRow L tp 43 45 8 9 (prRow L tp 42 47 10 11 (prPart L tp (fun b _ => (b, none)) false))
  | k + 1 => prRow L tp 43 45 8 9 (prRow L tp 42 47 10 11 (prPart L tp (prSm L tp k) true))
def cmO (L : Nat) (tp : Nat → Int32) (b : Nat) : Option Int32 := if isS L tp b 60 = true then some 12 else if isS L tp b 62 = true then some 13 else if isS L tp b 61 = true then some 14 else none
def prCm2 (S : Nat → Nat → PR) (o : Int32) (b np : Nat) (D1 : Den) : PR := match S b np with
  | (b2, none) => (b2, none)
  | (b2, some (n2, D2)) => (b2, some (n2, bnD o D1 D2))
def prCm (L : Nat) (tp : Nat → Int32) (S : Nat → Nat → PR) (b np : Nat) : PR := match S b np with
  | (b1, none) => (b1, none)
  | (b1, some (n1, D1)) => match cmO L tp b1 with
    | none => (b1, none)
    | some o => prCm2 S o (nxt L tp b1) n1 D1
def prBr (L : Nat) (tp : Nat → Int32) (T : Nat → Nat → PR) (ok : Bool) (b np : Nat) : PR := if ok = true then (match T (nxt L tp b) np with
  | (b1, none) => (b1, none)
  | (b1, some (n1, D)) => if isS L tp b1 41 = true then (nxt L tp b1, some (n1, D)) else (b1, none)) else (b, none)
def wNot : List Int32 := [110, 111, 116]
def wAnd : List Int32 := [97, 110, 100]
def wOr : List Int32 := [111, 114]
def prPl0 (L : Nat) (tp : Nat → Int32) (C B : Nat → Nat → PR) (t : Bool) (b np : Nat) : PR := match (if isS L tp b 40 = true then B b np else C b np) with
  | (b1, none) => (b1, none)
  | (b1, some (n1, D)) => (b1, some (n1, if t = true then ntD D else D))
def prPl (L : Nat) (tp : Nat → Int32) (C B : Nat → Nat → PR) : Nat → Bool → Nat → Nat → PR := fun f => match f with
  | 0 => fun t b np => prPl0 L tp C B t b np
  | f + 1 => fun t b np => if isW L tp b wNot = true then prPl L tp C B f (!t) (nxt L tp b) np else prPl0 L tp C B t b np
def prAo (L : Nat) (tp : Nat → Int32) (w : List Int32) (op : Den → Den → Den) (P : Nat → Nat → PR) : Nat → Nat → Nat → Den → PR := fun f => match f with
  | 0 => fun b np D => (b, some (np, D))
  | f + 1 => fun b np D => if isW L tp b w = true then (match P (nxt L tp b) np with
    | (b1, none) => (b1, none)
    | (b1, some (n1, D1)) => prAo L tp w op P f b1 n1 (op D D1)) else (b, some (np, D))
def prAr (L : Nat) (tp : Nat → Int32) (w : List Int32) (op : Den → Den → Den) (P : Nat → Nat → PR) (b np : Nat) : PR := match P b np with
  | (b1, none) => (b1, none)
  | (b1, some (n1, D)) => prAo L tp w op P 401 b1 n1 D
def prTs (L : Nat) (tp : Nat → Int32) : Nat → Nat → Nat → PR := fun k => match k with
  | 0 => prAr L tp wOr orD (prAr L tp wAnd anD (prPl L tp (prCm L tp (prSm L tp 0)) (prBr L tp (fun b _ => (b, none)) false) 401 false))
  | k + 1 => prAr L tp wOr orD (prAr L tp wAnd anD (prPl L tp (prCm L tp (prSm L tp (k + 1))) (prBr L tp (prTs L tp k) true) 401 false))
theorem prLoop_s {L : Nat} {tp : Nat → Int32} {x y o p : Int32} {P : Nat → Nat → PR} {f b np : Nat} {D : Den} : prLoop L tp x y o p P (f + 1) b np D = if isS L tp b x = true ∨ isS L tp b y = true then (match P (nxt L tp b) np with
    | (b1, none) => (b1, none)
    | (b1, some (n1, D1)) => prLoop L tp x y o p P f b1 n1 (bnD (if isS L tp b x = true then o else p) D D1)) else (b, some (np, D)) := rfl
theorem prPl_s {L : Nat} {tp : Nat → Int32} {C B : Nat → Nat → PR} {f b np : Nat} {t : Bool} : prPl L tp C B (f + 1) t b np = if isW L tp b wNot = true then prPl L tp C B f (!t) (nxt L tp b) np else prPl0 L tp C B t b np := rfl
theorem prAo_s {L : Nat} {tp : Nat → Int32} {w : List Int32} {op : Den → Den → Den} {P : Nat → Nat → PR} {f b np : Nat} {D : Den} : prAo L tp w op P (f + 1) b np D = if isW L tp b w = true then (match P (nxt L tp b) np with
    | (b1, none) => (b1, none)
    | (b1, some (n1, D1)) => prAo L tp w op P f b1 n1 (op D D1)) else (b, some (np, D)) := rfl
theorem prSm_s {L : Nat} {tp : Nat → Int32} {k : Nat} : prSm L tp (k + 1) = prRow L tp 43 45 8 9 (prRow L tp 42 47 10 11 (prPart L tp (prSm L tp k) true)) := rfl
theorem prSm_z {L : Nat} {tp : Nat → Int32} : prSm L tp 0 = prRow L tp 43 45 8 9 (prRow L tp 42 47 10 11 (prPart L tp (fun b _ => (b, none)) false)) := rfl
theorem prTs_s {L : Nat} {tp : Nat → Int32} {k : Nat} : prTs L tp (k + 1) = prAr L tp wOr orD (prAr L tp wAnd anD (prPl L tp (prCm L tp (prSm L tp (k + 1))) (prBr L tp (prTs L tp k) true) 401 false)) := rfl
theorem prTs_z {L : Nat} {tp : Nat → Int32} : prTs L tp 0 = prAr L tp wOr orD (prAr L tp wAnd anD (prPl L tp (prCm L tp (prSm L tp 0)) (prBr L tp (fun b _ => (b, none)) false) 401 false)) := rfl
/-! TESTS are 0 or 1 -/
theorem is01_bn {o : Int32} {A B : Den} (h : o = 12 ∨ o = 13 ∨ o = 14) : is01 (bnD o A B) := fun st v e => by
  unfold bnD at e
  cases a : A st with
  | none => rw [a] at e; cases e
  | some x =>
    rw [a] at e
    cases b : B st with
    | none => rw [b] at e; cases e
    | some y =>
      rw [b] at e
      have c0 : chk 0 = some 0 := by decide
      have c1 : chk 1 = some 1 := by decide
      have e' : rk o x y = some v := e
      unfold rk at e'
      rcases h with rfl | rfl | rfl
      · simp at e'
        by_cases q : y ≤ x
        · rw [if_pos q, c0] at e'; cases e'; exact Or.inl rfl
        · rw [if_neg q, c1] at e'; cases e'; exact Or.inr rfl
      · simp at e'
        by_cases q : x ≤ y
        · rw [if_pos q, c0] at e'; cases e'; exact Or.inl rfl
        · rw [if_neg q, c1] at e'; cases e'; exact Or.inr rfl
      · simp at e'
        by_cases q : x = y
        · rw [if_pos q, c1] at e'; cases e'; exact Or.inr rfl
        · rw [if_neg q, c0] at e'; cases e'; exact Or.inl rfl
theorem is01_nt {A : Den} (h : is01 A) : is01 (ntD A) := fun st v e => by
  unfold ntD at e
  cases a : A st with
  | none => rw [a] at e; cases e
  | some x =>
    rw [a] at e
    have e' : some (1 - x) = some v := e
    rcases h st x a with z | z
    · rw [z] at e'; cases e'; exact Or.inr (by decide)
    · rw [z] at e'; cases e'; exact Or.inl (by decide)
theorem is01_an {A B : Den} (h : is01 A) (g : is01 B) : is01 (anD A B) := fun st v e => by
  unfold anD at e
  cases a : A st with
  | none => rw [a] at e; cases e
  | some x =>
    rw [a] at e
    have e' : (if x = 0 then some x else B st) = some v := e
    by_cases c : x = 0
    · rw [if_pos c] at e'
      injection e' with e''
      rw [← e'']; exact h st x a
    · rw [if_neg c] at e'; exact g st v e'
theorem is01_or {A B : Den} (h : is01 A) (g : is01 B) : is01 (orD A B) := fun st v e => by
  unfold orD at e
  cases a : A st with
  | none => rw [a] at e; cases e
  | some x =>
    rw [a] at e
    have e' : (if x = 1 then some x else B st) = some v := e
    by_cases c : x = 1
    · rw [if_pos c] at e'
      injection e' with e''
      rw [← e'']; exact h st x a
    · rw [if_neg c] at e'; exact g st v e'
/-! code of the class -/
theorem jn_rk {o p : Nat} {a b : Int64} (h : (o = 2 ∧ p = 8) ∨ (o = 3 ∧ p = 9) ∨ (o = 4 ∧ p = 10) ∨ (o = 5 ∧ p = 11) ∨ (o = 6 ∧ p = 15) ∨ (o = 7 ∧ p = 16) ∨ (o = 8 ∧ p = 12) ∨ (o = 9 ∧ p = 13) ∨ (o = 10 ∧ p = 14)) : jn (nI o) a b = rk (nI p) a b := by
  rcases h with ⟨rfl, rfl⟩ | ⟨rfl, rfl⟩ | ⟨rfl, rfl⟩ | ⟨rfl, rfl⟩ | ⟨rfl, rfl⟩ | ⟨rfl, rfl⟩ | ⟨rfl, rfl⟩ | ⟨rfl, rfl⟩ | ⟨rfl, rfl⟩
  · show jn 2 a b = rk 8 a b
    simp [jn, rk, jnv]
  · show jn 3 a b = rk 9 a b
    simp [jn, rk, jnv]
  · show jn 4 a b = rk 10 a b
    simp [jn, rk, jnv]
  · show jn 5 a b = rk 11 a b
    by_cases c : b = 0
    · simp [jn, rk, jnv, c]
    · simp [jn, rk, jnv, c]
  · show jn 6 a b = rk 15 a b
    simp [jn, rk, jnv]
  · show jn 7 a b = rk 16 a b
    simp [jn, rk, jnv]
  · show jn 8 a b = rk 12 a b
    simp [jn, rk, jnv]
  · show jn 9 a b = rk 13 a b
    simp [jn, rk, jnv]
  · show jn 10 a b = rk 14 a b
    simp [jn, rk, jnv]
theorem code_lo {c r : Nat} (hc : c < 16) (hr : r < 2 ^ 20) : nI (c + 16 * r) &&& 15 = nI c := by
  rw [pk_andN (by omega) 4 (by decide)]
  congr 1
  omega
theorem code_hi {c r : Nat} (hc : c < 16) (hr : r < 2 ^ 20) : nI (c + 16 * r) >>> ((4 : Int32) &&& 31) = nI r := by
  rw [pk_shrN (by omega) _ 4 (by decide)]
  congr 1
  omega
theorem code_or {c r : Nat} (hc : c < 16) (hr : r < 2 ^ 20) : nI c ||| (nI r <<< ((4 : Int32) &&& 31)) = nI (c + 16 * r) := by
  rw [pk_shlN (n := r) _ 4 (by decide) (by omega), fa_or]
  have := Nat.shiftLeft_add_eq_or_of_lt (i := 4) (b := c) (by omega) r
  rw [Nat.shiftLeft_eq] at this
  rw [Nat.or_comm, ← this]
  congr 1
  omega
theorem crun_s {cd st : Nat → Int32} {L f i : Nat} {s : List Int64} : crun cd st L (f + 1) i s =
    if L ≤ i then some none
    else if (1 : Int32) < cd i &&& 15 then
      (if (11 : Int32) ≤ cd i &&& 15 then (match s with
        | [] => some none
        | a :: t => if cd i &&& 15 = 15 then some (some (bot (a :: t)))
          else if cd i &&& 15 = 11 then crun cd st L f (i + 1) ((1 - a) :: t)
          else if cd i &&& 15 = 14 then (if a = 0 then some none else crun cd st L f (i + 1) t)
          else if decide (a = 0) = decide (cd i &&& 15 = 13) then crun cd st L f (i + 1) t
          else if inB (cd i >>> ((4 : Int32) &&& 31)) 401 = true then (if cd i >>> ((4 : Int32) &&& 31) ≤ nI i then crun cd st L f (i + 1) (a :: t) else crun cd st L f (cd i >>> ((4 : Int32) &&& 31)).toNatClampNeg (a :: t)) else none)
      else (match s with
        | b :: a :: t => (match jn (cd i &&& 15) a b with | none => some none | some v => crun cd st L f (i + 1) (v :: t))
        | _ => some none))
    else if s.length < 64 then (if cd i &&& 15 = 0 then crun cd st L f (i + 1) ((cd i >>> ((4 : Int32) &&& 31)).toInt64 :: s)
      else if inB (cd i >>> ((4 : Int32) &&& 31)) 7 = true then crun cd st L f (i + 1) ((st (cd i >>> ((4 : Int32) &&& 31)).toNatClampNeg).toInt64 :: s) else none)
    else some none := rfl
theorem cr_num {cd st : Nat → Int32} {L f i r : Nat} {s : List Int64} (hi : i < L) (hc : cd i = nI (0 + 16 * r)) (hr : r < 2 ^ 20) (hs : s.length < 64) : crun cd st L (f + 1) i s = crun cd st L f (i + 1) (lN r :: s) := by
  rw [crun_s, if_neg (by omega), hc, code_lo (by decide) hr, code_hi (by decide) hr, if_neg (show ¬ (1 : Int32) < nI 0 by decide), if_pos hs, if_pos (show nI 0 = (0 : Int32) from rfl), nI_l (by omega)]
theorem cr_set {cd st : Nat → Int32} {L f i q : Nat} {s : List Int64} (hi : i < L) (hc : cd i = nI (1 + 16 * q)) (hq : q < 7) (hs : s.length < 64) : crun cd st L (f + 1) i s = crun cd st L f (i + 1) ((st q).toInt64 :: s) := by
  rw [crun_s, if_neg (by omega), hc, code_lo (by decide) (by omega), code_hi (by decide) (by omega), if_neg (show ¬ (1 : Int32) < nI 1 by decide), if_pos hs, if_neg (show ¬ nI 1 = (0 : Int32) by decide), if_pos (inB_n hq (by decide)), nI_clamp (by omega)]
theorem cr_bin {cd st : Nat → Int32} {L f i o : Nat} {x y : Int64} {s : List Int64} (hi : i < L) (hc : cd i = nI (o + 16 * 0)) (ho : 2 ≤ o ∧ o ≤ 10) : crun cd st L (f + 1) i (y :: x :: s) = match jn (nI o) x y with | none => some none | some v => crun cd st L f (i + 1) (v :: s) := by
  rw [crun_s, if_neg (by omega), hc, code_lo (by omega) (by decide), if_pos (show (1 : Int32) < nI o from nI_lt (a := 1) (by omega) (by omega)), if_neg (show ¬ (11 : Int32) ≤ nI o from nI_ge (b := 11) (by omega) (by decide))]
theorem cr_not {cd st : Nat → Int32} {L f i : Nat} {x : Int64} {s : List Int64} (hi : i < L) (hc : cd i = nI (11 + 16 * 0)) : crun cd st L (f + 1) i (x :: s) = crun cd st L f (i + 1) ((1 - x) :: s) := by
  rw [crun_s, if_neg (by omega), hc, code_lo (by decide) (by decide), if_pos (by decide), if_pos (by decide)]
  show (if nI 11 = (15 : Int32) then _ else if nI 11 = (11 : Int32) then _ else _) = _
  rw [if_neg (by decide), if_pos (show nI 11 = (11 : Int32) from rfl)]
theorem cr_ao {cd st : Nat → Int32} {L f i c j : Nat} {x : Int64} {s : List Int64} (hi : i < L) (hc : c = 12 ∨ c = 13) (hcd : cd i = nI (c + 16 * j)) (hj : j ≤ 400) (hij : i < j) : crun cd st L (f + 1) i (x :: s) = if decide (x = 0) = decide (c = 13) then crun cd st L f (i + 1) s else crun cd st L f j (x :: s) := by
  have e13 : decide (nI c = (13 : Int32)) = decide (c = 13) := by rcases hc with z | z <;> rw [z] <;> decide
  have n15 : ¬ nI c = (15 : Int32) := by rcases hc with z | z <;> rw [z] <;> decide
  have n11 : ¬ nI c = (11 : Int32) := by rcases hc with z | z <;> rw [z] <;> decide
  have n14 : ¬ nI c = (14 : Int32) := by rcases hc with z | z <;> rw [z] <;> decide
  have p1 : (1 : Int32) < nI c := by rcases hc with z | z <;> rw [z] <;> decide
  have p11 : (11 : Int32) ≤ nI c := by rcases hc with z | z <;> rw [z] <;> decide
  rw [crun_s, if_neg (by omega), hcd, code_lo (by omega) (by omega), code_hi (by omega) (by omega), if_pos p1, if_pos p11]
  show (if nI c = (15 : Int32) then _ else if nI c = (11 : Int32) then _ else if nI c = (14 : Int32) then _ else if decide (x = 0) = decide (nI c = 13) then _ else if inB (nI j) 401 = true then (if nI j ≤ nI i then _ else _) else _) = _
  rw [if_neg n15, if_neg n11, if_neg n14, e13, if_pos (inB_n (by omega) (by decide)), if_neg (nI_ge hij (by omega)), nI_clamp (by omega)]
/-- code from i to j means D: k NUMBERS and settings are in it -/
def SgC (cd : Nat → Int32) (i j k : Nat) (D : Den) : Prop := ∀ cd' : Nat → Int32, (∀ t, i ≤ t → t < j → cd' t = cd t) → ∀ (st : Nat → Int32) (N : Nat) (s : List Int64) (f : Nat), j ≤ N → s.length + k ≤ 64 → j - i ≤ f → ∃ f', f ≤ f' + (j - i) ∧ crun cd' st N f i s = match D st with | none => some none | some v => crun cd' st N f' j (v :: s)
theorem SgC.cg {cd cd' : Nat → Int32} {i j k : Nat} {D : Den} (h : SgC cd i j k D) (e : ∀ t, i ≤ t → t < j → cd' t = cd t) : SgC cd' i j k D := fun cd2 e2 => h cd2 (fun t h1 h2 => by rw [e2 t h1 h2, e t h1 h2])
theorem SgC.num {cd : Nat → Int32} {i r : Nat} (hc : cd i = nI (0 + 16 * r)) (hr : r < 2 ^ 20) : SgC cd i (i + 1) 1 (fun _ => some (lN r)) := fun cd' e st N s f h1 h2 h3 => by
  obtain ⟨g, rfl⟩ : ∃ g, f = g + 1 := ⟨f - 1, by omega⟩
  exact ⟨g, by omega, cr_num (by omega) (by rw [e i (Nat.le_refl _) (by omega)]; exact hc) hr (by omega)⟩
theorem SgC.set {cd : Nat → Int32} {i q : Nat} (hc : cd i = nI (1 + 16 * q)) (hq : q < 7) : SgC cd i (i + 1) 1 (fun st => some (st q).toInt64) := fun cd' e st N s f h1 h2 h3 => by
  obtain ⟨g, rfl⟩ : ∃ g, f = g + 1 := ⟨f - 1, by omega⟩
  exact ⟨g, by omega, cr_set (by omega) (by rw [e i (Nat.le_refl _) (by omega)]; exact hc) hq (by omega)⟩
theorem SgC.bin {cd : Nat → Int32} {i m j k1 k2 o p : Nat} {A B : Den} (hA : SgC cd i m k1 A) (hB : SgC cd m j k2 B) (him : i ≤ m) (hmj : m ≤ j) (hk : 1 ≤ k1) (hc : cd j = nI (o + 16 * 0)) (ho : 2 ≤ o ∧ o ≤ 10) (hp : ∀ a b, jn (nI o) a b = rk (nI p) a b) : SgC cd i (j + 1) (k1 + k2) (bnD (nI p) A B) := fun cd' e st N s f h1 h2 h3 => by
  obtain ⟨f1, a1, a2⟩ := hA cd' (fun t t1 t2 => e t t1 (by omega)) st N s f (by omega) (by omega) (by omega)
  unfold bnD
  cases a : A st with
  | none => rw [a] at a2; exact ⟨f, by omega, a2⟩
  | some x =>
    rw [a] at a2
    obtain ⟨f2, b1, b2'⟩ := hB cd' (fun t t1 t2 => e t (by omega) (by omega)) st N (x :: s) f1 (by omega) (by rw [List.length_cons]; omega) (by omega)
    have a2' : crun cd' st N f i s = crun cd' st N f1 m (x :: s) := a2
    rw [a2']
    cases b : B st with
    | none => rw [b] at b2'; exact ⟨f, by omega, b2'⟩
    | some y =>
      rw [b] at b2'
      have b2'' : crun cd' st N f1 m (x :: s) = crun cd' st N f2 j (y :: x :: s) := b2'
      obtain ⟨g, rfl⟩ : ∃ g, f2 = g + 1 := ⟨f2 - 1, by omega⟩
      rw [b2'', cr_bin (by omega) (by rw [e j (by omega) (by omega)]; exact hc) ho, hp]
      exact ⟨g, by omega, rfl⟩
theorem SgC.nt {cd : Nat → Int32} {i j k : Nat} {A : Den} (hA : SgC cd i j k A) (hij : i ≤ j) (hc : cd j = nI (11 + 16 * 0)) : SgC cd i (j + 1) k (ntD A) := fun cd' e st N s f h1 h2 h3 => by
  obtain ⟨f1, a1, a2⟩ := hA cd' (fun t t1 t2 => e t t1 (by omega)) st N s f (by omega) (by omega) (by omega)
  unfold ntD
  cases a : A st with
  | none => rw [a] at a2; exact ⟨f, by omega, a2⟩
  | some x =>
    rw [a] at a2
    have a2' : crun cd' st N f i s = crun cd' st N f1 j (x :: s) := a2
    obtain ⟨g, rfl⟩ : ∃ g, f1 = g + 1 := ⟨f1 - 1, by omega⟩
    rw [a2', cr_not (by omega) (by rw [e j hij (by omega)]; exact hc)]
    exact ⟨g, by omega, rfl⟩
theorem SgC.an {cd : Nat → Int32} {i a j k1 k2 : Nat} {A B : Den} (hA : SgC cd i a k1 A) (hB : SgC cd (a + 1) j k2 B) (hia : i ≤ a) (haj : a + 1 ≤ j) (hj : j ≤ 400) (hc : cd a = nI (12 + 16 * j)) : SgC cd i j (k1 + k2) (anD A B) := fun cd' e st N s f h1 h2 h3 => by
  obtain ⟨f1, a1, a2⟩ := hA cd' (fun t t1 t2 => e t t1 (by omega)) st N s f (by omega) (by omega) (by omega)
  unfold anD
  cases q : A st with
  | none => rw [q] at a2; exact ⟨f, by omega, a2⟩
  | some x =>
    rw [q] at a2
    have a2' : crun cd' st N f i s = crun cd' st N f1 a (x :: s) := a2
    obtain ⟨g, rfl⟩ : ∃ g, f1 = g + 1 := ⟨f1 - 1, by omega⟩
    rw [a2', cr_ao (c := 12) (by omega) (Or.inl rfl) (by rw [e a hia (by omega)]; exact hc) hj (by omega)]
    show ∃ f', _ ∧ _ = (match (if x = 0 then some x else B st) with | none => some none | some v => crun cd' st N f' j (v :: s))
    by_cases c : x = 0
    · rw [if_neg (by rw [decide_eq_true c]; decide), if_pos c]
      exact ⟨g, by omega, rfl⟩
    · rw [if_pos (by rw [decide_eq_false c]; decide), if_neg c]
      obtain ⟨f2, b1, b2'⟩ := hB cd' (fun t t1 t2 => e t (by omega) t2) st N s g (by omega) (by omega) (by omega)
      exact ⟨f2, by omega, b2'⟩
theorem SgC.or {cd : Nat → Int32} {i a j k1 k2 : Nat} {A B : Den} (hA : SgC cd i a k1 A) (h01 : is01 A) (hB : SgC cd (a + 1) j k2 B) (hia : i ≤ a) (haj : a + 1 ≤ j) (hj : j ≤ 400) (hc : cd a = nI (13 + 16 * j)) : SgC cd i j (k1 + k2) (orD A B) := fun cd' e st N s f h1 h2 h3 => by
  obtain ⟨f1, a1, a2⟩ := hA cd' (fun t t1 t2 => e t t1 (by omega)) st N s f (by omega) (by omega) (by omega)
  unfold orD
  cases q : A st with
  | none => rw [q] at a2; exact ⟨f, by omega, a2⟩
  | some x =>
    rw [q] at a2
    have a2' : crun cd' st N f i s = crun cd' st N f1 a (x :: s) := a2
    obtain ⟨g, rfl⟩ : ∃ g, f1 = g + 1 := ⟨f1 - 1, by omega⟩
    rw [a2', cr_ao (c := 13) (by omega) (Or.inr rfl) (by rw [e a hia (by omega)]; exact hc) hj (by omega)]
    show ∃ f', _ ∧ _ = (match (if x = 1 then some x else B st) with | none => some none | some v => crun cd' st N f' j (v :: s))
    rcases h01 st x q with c | c
    · rw [if_pos (by rw [decide_eq_true c]; decide), if_neg (by rw [c]; decide)]
      obtain ⟨f2, b1, b2'⟩ := hB cd' (fun t t1 t2 => e t (by omega) t2) st N s g (by omega) (by omega) (by omega)
      exact ⟨f2, by omega, b2'⟩
    · rw [if_neg (by rw [decide_eq_false (by rw [c]; decide)]; decide), if_pos c]
      exact ⟨g, by omega, rfl⟩
end
