section
/-! the reference reads: states -/
def RRc : List Nat := [130, 131, 132, 133]
def RRf : List (Nat × Nat) := [(124, 7), (124, 8), (124, 9), (124, 10), (124, 11), (124, 12), (124, 15), (124, 18), (124, 21), (124, 22)]
def TpG (L : Nat) (tp : Nat → Int32) (σ : AH) : Prop := gI σ 124 6 = nI L ∧ L ≤ 400 ∧ (∀ i, i < L → gI σ 128 i = tp i) ∧ gI σ 124 11 = -1
theorem TpG.r {L : Nat} {tp : Nat → Int32} {σ : AH} (h : TpG L tp σ) : TpR L tp σ := ⟨h.1, h.2.1, h.2.2.1⟩
theorem TpG.ch {L : Nat} {tp : Nat → Int32} {σ τ : AH} {cs : List Nat} {fs : List (Nat × Nat)} (h : TpG L tp σ) (c : Ch cs fs σ τ) (h1 : 124 ∉ cs ∧ 128 ∉ cs) (h2 : ∀ q ∈ fs, q ≠ (124, 6) ∧ q.1 ≠ 128 ∧ q ≠ (124, 11)) : TpG L tp τ :=
  ⟨by rw [c.pI h1.1 (fun z => (h2 _ z).1 rfl)]; exact h.1, h.2.1, fun i hi => by rw [c.rI h1.2 (fun q hq => (h2 q hq).2.1)]; exact h.2.2.1 i hi, by rw [c.pI h1.1 (fun z => (h2 _ z).2.2 rfl)]; exact h.2.2.2⟩
def RgS (L : Nat) (tp : Nat → Int32) (b m np o : Nat) (P : List (Nat × Nat)) (σ : AH) : Prop := TpG L tp σ ∧ TkR L tp b σ ∧ gI σ 124 12 = 0 ∧ gI σ 124 15 = nI m ∧ gI σ 124 18 = nI np ∧ gI σ 124 22 = nI o ∧ PlR P σ ∧ m + P.length ≤ b ∧ np ≤ 60 ∧ o ≤ 8 ∧ PV P
def RgX (L : Nat) (tp : Nat → Int32) (b m : Nat) (P : List (Nat × Nat)) (σ : AH) : Prop := TpR L tp σ ∧ gI σ 124 12 = 1 ∧ gI σ 124 11 = nI b ∧ gI σ 124 15 = nI m ∧ PlR P σ ∧ m + P.length ≤ 400 ∧ PV P ∧ b ≤ L
theorem RgS.b {L b m np o : Nat} {tp : Nat → Int32} {P : List (Nat × Nat)} {σ : AH} (h : RgS L tp b m np o P σ) : b ≤ L ∧ L ≤ 400 ∧ m + P.length ≤ b := ⟨h.2.1.2.2.2.2, h.1.2.1, h.2.2.2.2.2.2.2.1⟩
/-- going on to the next TOKEN -/
theorem RgS.next {L b m np o : Nat} {tp : Nat → Int32} {P : List (Nat × Nat)} {σ : AH} (h : RgS L tp b m np o P σ) : ∃ τ, F_X12_next σ = some τ ∧ RgS L tp (nxt L tp b) m np o P τ ∧ gI τ 130 = gI σ 130 ∧ gI τ 131 = gI σ 131 ∧ Ch RRc RRf σ τ := by
  obtain ⟨h1, h2, h3, h4, h5, h6, h7, h8, h9, h10, h11⟩ := h
  obtain ⟨τ, t1, t2, t3⟩ := F_next1 h1.r h2
  have nb := nxt_b (tp := tp) h2.2.2.2.2
  refine ⟨τ, t1, ⟨h1.ch t3 (by simp) (by simp [TNf]), t2, by rw [t3.pI (by simp) (by simp [TNf])]; exact h3, by rw [t3.pI (by simp) (by simp [TNf])]; exact h4, by rw [t3.pI (by simp) (by simp [TNf])]; exact h5, by rw [t3.pI (by simp) (by simp [TNf])]; exact h6, h7.ch t3 (by simp) (by simp [TNf]), by omega, h9, h10, h11⟩, t3.rI (by simp) (by simp [TNf]), t3.rI (by simp) (by simp [TNf]), t3.mono (by simp) (by simp [TNf, RRf])⟩
theorem F_must1 {L b m np o : Nat} {tp : Nat → Int32} {P : List (Nat × Nat)} {σ : AH} {v : Int32} (h : RgS L tp b m np o P σ) (hv : v ≠ 0) : ∃ τ, F_X12_must v σ = some τ ∧ RgS L tp (nxt L tp b) m np o P τ ∧ gI τ 130 = gI σ 130 ∧ gI τ 131 = gI σ 131 ∧ Ch RRc RRf σ τ := by
  obtain ⟨τ, t1, t2, t3, t4, t5⟩ := h.next
  refine ⟨τ, ?_, t2, t3, t4, t5⟩
  unfold F_X12_must F_X12_must_24
  rw [if_pos h.2.2.1, if_neg hv, if_pos h.2.2.1, t1, bv_some]
theorem F_must0 {L b m np o : Nat} {tp : Nat → Int32} {P : List (Nat × Nat)} {σ : AH} (h : RgS L tp b m np o P σ) : ∃ τ, F_X12_must (0 : Int32) σ = some τ ∧ RgX L tp b m P τ ∧ Ch RRc RRf σ τ := by
  obtain ⟨h1, h2, h3, h4, h5, h6, h7, h8, h9, h10, h11⟩ := h
  unfold F_X12_must F_X12_must_24
  have e7 : gI (sI σ 124 12 1) 124 7 = nI b := by rw [gI_sI_ne (by decide)]; exact h2.1
  have e12 : gI (sI (sI σ 124 12 1) 124 11 (nI b)) 124 12 = 1 := by rw [gI_sI_ne (by decide), gI_sI_at]
  rw [if_pos h3, if_pos rfl, e7, e12, if_neg (show ¬ (1 : Int32) = 0 by decide)]
  have k : Ch [] [(124, 11), (124, 12)] σ (sI (sI σ 124 12 1) 124 11 (nI b)) := (Ch.sI1 (Or.inl (by simp))).trans (Ch.sI1 (Or.inl (by simp)))
  have L4 := h1.2.1
  have bL := h2.2.2.2.2
  exact ⟨_, rfl, ⟨h1.r.ch k (by simp) (by simp), e12, gI_sI_at, by rw [k.pI (by simp) (by simp)]; exact h4, h7.ch k (by simp) (by simp), by omega, h11, bL⟩, k.mono (by simp) (by simp [RRf])⟩
/-- must when it is bad already -/
theorem F_mustX {v : Int32} {σ : AH} (h : gI σ 124 12 = 1) : F_X12_must v σ = some σ := by
  unfold F_X12_must F_X12_must_24
  rw [h, if_neg (show ¬ (1 : Int32) = 0 by decide), if_neg (show ¬ (1 : Int32) = 0 by decide)]
def innr : List (Nat × Nat) → Option Nat := fun P => match P with
  | [] => none
  | q :: P => if 30 ≤ q.1 then some q.1 else innr P
theorem innr_c {q : Nat × Nat} {P : List (Nat × Nat)} : innr (q :: P) = if 30 ≤ q.1 then some q.1 else innr P := rfl
/-- of the lowest n elements of the pile -/
theorem inner_loop {P : List (Nat × Nat)} {g : Nat} {σ : AH} (h : PlR P σ) (hV : PV P) (hl : P.length ≤ 400) : ∀ (j i : Nat), i + j = P.length → F_X12_inner_4 (j + 1 + g) (oI (innr (P.drop j))) (nI i) σ = some (oI (innr P), σ) := by
  intro j
  induction j with
  | zero =>
    intro i hi
    rw [show 0 + 1 + g = g + 1 by omega]
    show B_X12_inner_4 (F_X12_inner_4 g) (oI (innr (P.drop 0))) (nI i) σ = _
    unfold B_X12_inner_4
    rw [h.1, if_pos (nI_le (by omega) (by omega))]; rfl
  | succ j ih =>
    intro i hi
    rw [show j + 1 + 1 + g = (j + 1 + g) + 1 by omega]
    show B_X12_inner_4 (F_X12_inner_4 (j + 1 + g)) (oI (innr (P.drop (j + 1)))) (nI i) σ = _
    unfold B_X12_inner_4 F_X12_inner_33
    have lj : j < P.length := by omega
    have dr : P.drop j = P[j] :: P.drop (j + 1) := List.drop_eq_getElem_cons lj
    have e := (h.2 i (by omega)).1
    have ej : P.length - 1 - i = j := by omega
    rw [ej, List.getD_eq_getElem?_getD, List.getElem?_eq_getElem lj] at e
    have e' : gI σ 132 i = nI (P[j]).1 := e
    have v := (hV P[j] (List.getElem_mem lj)).1
    have ih' := ih (i + 1) (by omega)
    rw [dr, innr_c] at ih'
    rw [h.1, if_neg (nI_ge (by omega) (by omega)), if_pos (inB_n (by omega) (by omega)), nI_clamp (by omega), e', nI_1, if_pos (inB_n (by omega) (by omega))]
    by_cases c : 30 ≤ (P[j]).1
    · rw [if_pos c] at ih'
      rw [if_neg (show ¬ nI (P[j]).1 < (30 : Int32) from fun z => by rw [Int32.lt_iff_toInt_lt, nI_toInt (by omega)] at z; have : (30 : Int32).toInt = 30 := (by decide); omega)]
      exact ih'
    · rw [if_neg c] at ih'
      rw [if_pos (show nI (P[j]).1 < (30 : Int32) from nI_lt (b := 30) (by omega) (by decide))]
      exact ih'
theorem F_innerR {P : List (Nat × Nat)} {σ : AH} (h : PlR P σ) (hV : PV P) (hl : P.length ≤ 400) : F_X12_inner σ = some (oI (innr P), σ) := by
  obtain ⟨g, hg⟩ := BIGe P.length (by omega)
  have := inner_loop (g := g) h hV hl P.length 0 (by omega)
  rw [List.drop_length] at this
  unfold F_X12_inner
  rw [hg]
  exact this
def cmpd : List (Nat × Nat) → Bool := fun P => match P with
  | [] => false
  | q :: P => if 8 ≤ q.1 ∧ q.1 ≤ 11 then cmpd P else decide (12 ≤ q.1 ∧ q.1 ≤ 14)
theorem cmpd_c {q : Nat × Nat} {P : List (Nat × Nat)} : cmpd (q :: P) = if 8 ≤ q.1 ∧ q.1 ≤ 11 then cmpd P else decide (12 ≤ q.1 ∧ q.1 ≤ 14) := rfl
theorem rgB_n {a b n : Nat} (h : n < 2 ^ 31) : rgB a b (nI n) = decide (a ≤ n ∧ n ≤ b) := by
  unfold rgB
  rw [nI_toInt h]
  apply decide_eq_decide.mpr
  omega
theorem cmp_loop {P : List (Nat × Nat)} {g : Nat} {σ : AH} (h : PlR P σ) (hV : PV P) (hl : P.length ≤ 400) : ∀ (j : Nat), j ≤ P.length → F_X12_isCompared_7 (j + 1 + g) (nI j - 1) σ = some (b2 (cmpd (P.drop (P.length - j))), σ) := by
  intro j
  induction j with
  | zero =>
    intro _
    rw [show 0 + 1 + g = g + 1 by omega]
    show B_X12_isCompared_7 (F_X12_isCompared_7 g) (nI 0 - 1) σ = _
    unfold B_X12_isCompared_7 F_X12_isCompared_36
    rw [if_pos (show nI 0 - 1 < (0 : Int32) by decide), if_pos (show nI 0 - 1 < (0 : Int32) by decide), Nat.sub_zero, List.drop_length]; rfl
  | succ j ih =>
    intro hj
    rw [show j + 1 + 1 + g = (j + 1 + g) + 1 by omega]
    show B_X12_isCompared_7 (F_X12_isCompared_7 (j + 1 + g)) (nI (j + 1) - 1) σ = _
    unfold B_X12_isCompared_7 F_X12_isCompared_36
    have lj : P.length - (j + 1) < P.length := by omega
    have dr : P.drop (P.length - (j + 1)) = P[P.length - (j + 1)] :: P.drop (P.length - (j + 1) + 1) := List.drop_eq_getElem_cons lj
    have e := (h.2 j (by omega)).1
    rw [show P.length - 1 - j = P.length - (j + 1) by omega, List.getD_eq_getElem?_getD, List.getElem?_eq_getElem lj] at e
    have e' : gI σ 132 j = nI (P[P.length - (j + 1)]).1 := e
    have v := (hV _ (List.getElem_mem lj)).1
    obtain ⟨x, hx⟩ : ∃ x, x = (P[P.length - (j + 1)]).1 := ⟨_, rfl⟩
    rw [← hx] at e' v
    have ih' := ih (by omega)
    have i1 : F_X12_in (nI x).toInt64 (8 : Int64) (11 : Int64) σ = some (if rgB 8 11 (nI x) = true then 1 else 0, σ) := F_in (a := 8) (b := 11) (by decide) (by decide)
    have i2 : F_X12_in (nI x).toInt64 (12 : Int64) (14 : Int64) σ = some (if rgB 12 14 (nI x) = true then 1 else 0, σ) := F_in (a := 12) (b := 14) (by decide) (by decide)
    have r1 : rgB 8 11 (nI x) = decide (8 ≤ x ∧ x ≤ 11) := rgB_n (a := 8) (b := 11) (by omega)
    have r2 : rgB 12 14 (nI x) = decide (12 ≤ x ∧ x ≤ 14) := rgB_n (a := 12) (b := 14) (by omega)
    have bk : nI (j + 1) - (1 : Int32) = nI j := nI_back
    rw [bk, if_neg (nI_pos (by omega)), if_pos (inB_n (by omega) (by omega)), nI_clamp (by omega), e', i1, bd_b (α := Int32), if_neg (nI_pos (by omega)), if_pos (inB_n (by omega) (by omega)), e', i2, bd_b (α := Int32), dr, cmpd_c, ← hx, r1, r2, ← m1_eq]
    by_cases c : 8 ≤ x ∧ x ≤ 11
    · rw [if_pos (decide_eq_true c), if_pos c, show P.length - (j + 1) + 1 = P.length - j by omega]
      exact ih'
    · rw [if_neg (fun z => c (of_decide_eq_true z)), if_neg c]
      by_cases c2 : 12 ≤ x ∧ x ≤ 14
      · rw [if_pos (decide_eq_true c2), decide_eq_true c2]; rfl
      · rw [if_neg (fun z => c2 (of_decide_eq_true z)), decide_eq_false c2]; rfl
theorem F_isComparedR {P : List (Nat × Nat)} {σ : AH} (h : PlR P σ) (hV : PV P) (hl : P.length ≤ 400) : F_X12_isCompared σ = some (b2 (cmpd P), σ) := by
  obtain ⟨g, hg⟩ := BIGe P.length (by omega)
  have := cmp_loop (g := g) h hV hl P.length (Nat.le_refl _)
  rw [Nat.sub_self, List.drop_zero] at this
  unfold F_X12_isCompared
  rw [hg, h.1]
  exact this
/-! code of the reference -/
theorem rrun_s {op ar st : Nat → Int32} {L f k : Nat} {s : List Int64} : rrun op ar st L (f + 1) k s =
    if L ≤ k then some (some (bot s))
    else if op k < 8 then (if s.length < 400 then (if op k = 0 then rrun op ar st L f (k + 1) ((ar k).toInt64 :: s) else if inB (op k) 8 = true then rrun op ar st L f (k + 1) ((st (op k).toNatClampNeg).toInt64 :: s) else none) else none)
    else if op k < 17 then (match s with
      | b :: a :: t => (match rk (op k) a b with | none => some none | some v => rrun op ar st L f (k + 1) (v :: t))
      | _ => none)
    else match s with
      | a :: t => if op k = 17 then rrun op ar st L f (k + 1) ((1 - a) :: t) else if a = (if op k = 18 then 0 else 1) then (if inB (ar k) 401 = true then rrun op ar st L f (ar k).toNatClampNeg s else none) else rrun op ar st L f (k + 1) t
      | _ => none := rfl
theorem rr_num {op ar st : Nat → Int32} {L f i r : Nat} {s : List Int64} (hi : i < L) (ho : op i = nI 0) (ha : ar i = nI r) (hr : r < 2 ^ 20) (hs : s.length < 400) : rrun op ar st L (f + 1) i s = rrun op ar st L f (i + 1) (lN r :: s) := by
  rw [rrun_s, if_neg (by omega), ho, if_pos (show nI 0 < (8 : Int32) by decide), if_pos hs, if_pos (show nI 0 = (0 : Int32) from rfl), ha, nI_l (by omega)]
theorem rr_set {op ar st : Nat → Int32} {L f i q : Nat} {s : List Int64} (hi : i < L) (ho : op i = nI (q + 1)) (hq : q < 7) (hs : s.length < 400) : rrun op ar (st8 st) L (f + 1) i s = rrun op ar (st8 st) L f (i + 1) ((st q).toInt64 :: s) := by
  have e : st8 st (q + 1) = st q := by unfold st8; rw [if_neg (by omega), Nat.add_sub_cancel]
  rw [rrun_s, if_neg (by omega), ho, if_pos (show nI (q + 1) < (8 : Int32) from nI_lt (b := 8) (by omega) (by decide)), if_pos hs, if_neg (show ¬ nI (q + 1) = (0 : Int32) from fun z => by have := (nI_eq (b := 0) (by omega) (by decide)).mp z; omega), if_pos (inB_n (by omega) (by decide)), nI_clamp (by omega), e]
theorem rr_bin {op ar st : Nat → Int32} {L f i o : Nat} {x y : Int64} {s : List Int64} (hi : i < L) (ho : op i = nI o) (h : 8 ≤ o ∧ o ≤ 16) : rrun op ar st L (f + 1) i (y :: x :: s) = match rk (nI o) x y with | none => some none | some v => rrun op ar st L f (i + 1) (v :: s) := by
  rw [rrun_s, if_neg (by omega), ho, if_neg (show ¬ nI o < (8 : Int32) from fun z => by rw [Int32.lt_iff_toInt_lt, nI_toInt (by omega)] at z; have : (8 : Int32).toInt = 8 := (by decide); omega), if_pos (show nI o < (17 : Int32) from nI_lt (b := 17) (by omega) (by decide))]
theorem rr_not {op ar st : Nat → Int32} {L f i : Nat} {x : Int64} {s : List Int64} (hi : i < L) (ho : op i = nI 17) : rrun op ar st L (f + 1) i (x :: s) = rrun op ar st L f (i + 1) ((1 - x) :: s) := by
  rw [rrun_s, if_neg (by omega), ho, if_neg (show ¬ nI 17 < (8 : Int32) by decide), if_neg (show ¬ nI 17 < (17 : Int32) by decide)]
  show (if nI 17 = (17 : Int32) then _ else _) = _
  rw [if_pos (show nI 17 = (17 : Int32) from rfl)]
theorem rr_ao {op ar st : Nat → Int32} {L f i c j : Nat} {x : Int64} {s : List Int64} (hi : i < L) (hc : c = 18 ∨ c = 19) (ho : op i = nI c) (ha : ar i = nI j) (hj : j ≤ 400) : rrun op ar st L (f + 1) i (x :: s) = if x = (if c = 18 then 0 else 1) then rrun op ar st L f j (x :: s) else rrun op ar st L f (i + 1) s := by
  have e18 : (if nI c = (18 : Int32) then (0 : Int64) else 1) = if c = 18 then 0 else 1 := by rcases hc with z | z <;> rw [z] <;> decide
  have n8 : ¬ nI c < (8 : Int32) := by rcases hc with z | z <;> rw [z] <;> decide
  have n17 : ¬ nI c < (17 : Int32) := by rcases hc with z | z <;> rw [z] <;> decide
  have e17 : ¬ nI c = (17 : Int32) := by rcases hc with z | z <;> rw [z] <;> decide
  rw [rrun_s, if_neg (by omega), ho, if_neg n8, if_neg n17]
  show (if nI c = (17 : Int32) then _ else if x = (if nI c = (18 : Int32) then 0 else 1) then (if inB (ar i) 401 = true then _ else _) else _) = _
  rw [if_neg e17, e18, ha, if_pos (inB_n (by omega) (by decide)), nI_clamp (by omega)]
def SgR (op ar : Nat → Int32) (i j k : Nat) (D : Den) : Prop := ∀ op' ar' : Nat → Int32, (∀ t, i ≤ t → t < j → op' t = op t ∧ ar' t = ar t) → ∀ (st : Nat → Int32) (N : Nat) (s : List Int64) (f : Nat), j ≤ N → s.length + k ≤ 400 → j - i ≤ f → ∃ f', f ≤ f' + (j - i) ∧ rrun op' ar' (st8 st) N f i s = match D st with | none => some none | some v => rrun op' ar' (st8 st) N f' j (v :: s)
theorem SgR.cg {op ar op' ar' : Nat → Int32} {i j k : Nat} {D : Den} (h : SgR op ar i j k D) (e : ∀ t, i ≤ t → t < j → op' t = op t ∧ ar' t = ar t) : SgR op' ar' i j k D := fun o2 a2 e2 => h o2 a2 (fun t h1 h2 => ⟨by rw [(e2 t h1 h2).1, (e t h1 h2).1], by rw [(e2 t h1 h2).2, (e t h1 h2).2]⟩)
theorem SgR.num {op ar : Nat → Int32} {i r : Nat} (ho : op i = nI 0) (ha : ar i = nI r) (hr : r < 2 ^ 20) : SgR op ar i (i + 1) 1 (fun _ => some (lN r)) := fun op' ar' e st N s f h1 h2 h3 => by
  obtain ⟨g, rfl⟩ : ∃ g, f = g + 1 := ⟨f - 1, by omega⟩
  have ee := e i (Nat.le_refl _) (by omega)
  exact ⟨g, by omega, rr_num (by omega) (by rw [ee.1]; exact ho) (by rw [ee.2]; exact ha) hr (by omega)⟩
theorem SgR.set {op ar : Nat → Int32} {i q : Nat} (ho : op i = nI (q + 1)) (hq : q < 7) : SgR op ar i (i + 1) 1 (fun st => some (st q).toInt64) := fun op' ar' e st N s f h1 h2 h3 => by
  obtain ⟨g, rfl⟩ : ∃ g, f = g + 1 := ⟨f - 1, by omega⟩
  have ee := e i (Nat.le_refl _) (by omega)
  exact ⟨g, by omega, rr_set (by omega) (by rw [ee.1]; exact ho) hq (by omega)⟩
theorem SgR.bin {op ar : Nat → Int32} {i m j k1 k2 o : Nat} {A B : Den} (hA : SgR op ar i m k1 A) (hB : SgR op ar m j k2 B) (him : i ≤ m) (hmj : m ≤ j) (hk : 1 ≤ k1) (ho : op j = nI o) (h8 : 8 ≤ o ∧ o ≤ 16) : SgR op ar i (j + 1) (k1 + k2) (bnD (nI o) A B) := fun op' ar' e st N s f h1 h2 h3 => by
  obtain ⟨f1, a1, a2⟩ := hA op' ar' (fun t t1 t2 => e t t1 (by omega)) st N s f (by omega) (by omega) (by omega)
  unfold bnD
  cases a : A st with
  | none => rw [a] at a2; exact ⟨f, by omega, a2⟩
  | some x =>
    rw [a] at a2
    obtain ⟨f2, b1, b2'⟩ := hB op' ar' (fun t t1 t2 => e t (by omega) (by omega)) st N (x :: s) f1 (by omega) (by rw [List.length_cons]; omega) (by omega)
    have a2' : rrun op' ar' (st8 st) N f i s = rrun op' ar' (st8 st) N f1 m (x :: s) := a2
    rw [a2']
    cases b : B st with
    | none => rw [b] at b2'; exact ⟨f, by omega, b2'⟩
    | some y =>
      rw [b] at b2'
      have b2'' : rrun op' ar' (st8 st) N f1 m (x :: s) = rrun op' ar' (st8 st) N f2 j (y :: x :: s) := b2'
      obtain ⟨g, rfl⟩ : ∃ g, f2 = g + 1 := ⟨f2 - 1, by omega⟩
      rw [b2'', rr_bin (by omega) (by rw [(e j (by omega) (by omega)).1]; exact ho) h8]
      exact ⟨g, by omega, rfl⟩
theorem SgR.nt {op ar : Nat → Int32} {i j k : Nat} {A : Den} (hA : SgR op ar i j k A) (hij : i ≤ j) (ho : op j = nI 17) : SgR op ar i (j + 1) k (ntD A) := fun op' ar' e st N s f h1 h2 h3 => by
  obtain ⟨f1, a1, a2⟩ := hA op' ar' (fun t t1 t2 => e t t1 (by omega)) st N s f (by omega) (by omega) (by omega)
  unfold ntD
  cases a : A st with
  | none => rw [a] at a2; exact ⟨f, by omega, a2⟩
  | some x =>
    rw [a] at a2
    have a2' : rrun op' ar' (st8 st) N f i s = rrun op' ar' (st8 st) N f1 j (x :: s) := a2
    obtain ⟨g, rfl⟩ : ∃ g, f1 = g + 1 := ⟨f1 - 1, by omega⟩
    rw [a2', rr_not (by omega) (by rw [(e j hij (by omega)).1]; exact ho)]
    exact ⟨g, by omega, rfl⟩
theorem SgR.an {op ar : Nat → Int32} {i a j k1 k2 : Nat} {A B : Den} (hA : SgR op ar i a k1 A) (hB : SgR op ar (a + 1) j k2 B) (hia : i ≤ a) (haj : a + 1 ≤ j) (hj : j ≤ 400) (ho : op a = nI 18) (ha : ar a = nI j) : SgR op ar i j (k1 + k2) (anD A B) := fun op' ar' e st N s f h1 h2 h3 => by
  obtain ⟨f1, a1, a2⟩ := hA op' ar' (fun t t1 t2 => e t t1 (by omega)) st N s f (by omega) (by omega) (by omega)
  unfold anD
  cases q : A st with
  | none => rw [q] at a2; exact ⟨f, by omega, a2⟩
  | some x =>
    rw [q] at a2
    have a2' : rrun op' ar' (st8 st) N f i s = rrun op' ar' (st8 st) N f1 a (x :: s) := a2
    have ee := e a hia (by omega)
    obtain ⟨g, rfl⟩ : ∃ g, f1 = g + 1 := ⟨f1 - 1, by omega⟩
    rw [a2', rr_ao (c := 18) (by omega) (Or.inl rfl) (by rw [ee.1]; exact ho) (by rw [ee.2]; exact ha) hj, if_pos rfl]
    show ∃ f', _ ∧ _ = (match (if x = 0 then some x else B st) with | none => some none | some v => rrun op' ar' (st8 st) N f' j (v :: s))
    by_cases c : x = 0
    · rw [if_pos c, if_pos c]
      exact ⟨g, by omega, rfl⟩
    · rw [if_neg c, if_neg c]
      obtain ⟨f2, b1, b2'⟩ := hB op' ar' (fun t t1 t2 => e t (by omega) t2) st N s g (by omega) (by omega) (by omega)
      exact ⟨f2, by omega, b2'⟩
theorem SgR.or {op ar : Nat → Int32} {i a j k1 k2 : Nat} {A B : Den} (hA : SgR op ar i a k1 A) (hB : SgR op ar (a + 1) j k2 B) (hia : i ≤ a) (haj : a + 1 ≤ j) (hj : j ≤ 400) (ho : op a = nI 19) (ha : ar a = nI j) : SgR op ar i j (k1 + k2) (orD A B) := fun op' ar' e st N s f h1 h2 h3 => by
  obtain ⟨f1, a1, a2⟩ := hA op' ar' (fun t t1 t2 => e t t1 (by omega)) st N s f (by omega) (by omega) (by omega)
  unfold orD
  cases q : A st with
  | none => rw [q] at a2; exact ⟨f, by omega, a2⟩
  | some x =>
    rw [q] at a2
    have a2' : rrun op' ar' (st8 st) N f i s = rrun op' ar' (st8 st) N f1 a (x :: s) := a2
    have ee := e a hia (by omega)
    obtain ⟨g, rfl⟩ : ∃ g, f1 = g + 1 := ⟨f1 - 1, by omega⟩
    rw [a2', rr_ao (c := 19) (by omega) (Or.inr rfl) (by rw [ee.1]; exact ho) (by rw [ee.2]; exact ha) hj, if_neg (show ¬ (19 : Nat) = 18 by decide)]
    show ∃ f', _ ∧ _ = (match (if x = 1 then some x else B st) with | none => some none | some v => rrun op' ar' (st8 st) N f' j (v :: s))
    by_cases c : x = 1
    · rw [if_pos c, if_pos c]
      exact ⟨g, by omega, rfl⟩
    · rw [if_neg c, if_neg c]
      obtain ⟨f2, b1, b2'⟩ := hB op' ar' (fun t t1 t2 => e t (by omega) t2) st N s g (by omega) (by omega) (by omega)
      exact ⟨f2, by omega, b2'⟩
theorem nt2 {D : Den} : ntD (ntD D) = D := by
  funext st
  unfold ntD
  cases D st with
  | none => rfl
  | some v =>
    show some (1 - (1 - v)) = some v
    congr 1
    apply Int64.toBitVec_inj.mp
    show 1#64 - (1#64 - v.toBitVec) = v.toBitVec
    bv_omega
end
