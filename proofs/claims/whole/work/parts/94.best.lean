section
/-! best, bound, judge, chosen of the reference -/
theorem sC_at {s : Nat → Option Nat} {wi : Nat → Nat} {q : Nat} {cs : Nat → Nat} : ∀ n, (∀ i j, i < n → j < n → wi i = wi j → i = j) → ∀ k, k < n → sC s wi q cs n (wi k) = chW q (cs k) := by
  intro n
  induction n with
  | zero => intro _ k hk; omega
  | succ n ih =>
    intro hd k hk
    unfold sC upS
    by_cases e : wi k = wi n
    · rw [if_pos e, hd k n hk (by omega) e]
    · rw [if_neg e]
      exact ih (fun i j hi hj => hd i j (by omega) (by omega)) k (by
        rcases Nat.lt_or_ge k n with z | z
        · exact z
        · exact absurd (by rw [show k = n by omega]) e)
theorem sC_off {s : Nat → Option Nat} {wi : Nat → Nat} {q : Nat} {cs : Nat → Nat} {p : Nat} : ∀ n, (∀ k, k < n → wi k ≠ p) → sC s wi q cs n p = s p := by
  intro n
  induction n with
  | zero => intro _; rfl
  | succ n ih =>
    intro h
    unfold sC upS
    rw [if_neg (fun e => h n (by omega) e.symm)]
    exact ih (fun k hk => h k (by omega))
theorem sC_again {s : Nat → Option Nat} {wi : Nat → Nat} {q : Nat} {cs cs' : Nat → Nat} {n : Nat} (hd : ∀ i j, i < n → j < n → wi i = wi j → i = j) : sC (sC s wi q cs' n) wi q cs n = sC s wi q cs n := by
  funext p
  by_cases c : ∃ k, k < n ∧ wi k = p
  · obtain ⟨k, hk, e⟩ := c
    rw [← e, sC_at n hd k hk, sC_at n hd k hk]
  · have h : ∀ k, k < n → wi k ≠ p := fun k hk e => c ⟨k, hk, e⟩
    rw [sC_off n h, sC_off n h, sC_off n h]
theorem sC_congr {s : Nat → Option Nat} {wi : Nat → Nat} {q : Nat} {cs cs' : Nat → Nat} : ∀ n, (∀ k, k < n → cs k = cs' k) → sC s wi q cs n = sC s wi q cs' n := by
  intro n
  induction n with
  | zero => intro _; rfl
  | succ n ih => intro h; unfold sC; rw [ih (fun k hk => h k (by omega)), h n (by omega)]
/-- the QUARTER played with choices cs -/
def cR (row : Nat → Int32) (q n : Nat) (wi cs : Nat → Nat) : Nat → Nat → Int32 := qR row q (sC (sw row (kQ q)) wi q cs n)
def hoC (row : Nat → Int32) (q n : Nat) (wi cs : Nat → Nat) : Nat := hoN row wi (cR row q n wi cs) n
def shC (row : Nat → Int32) (q n : Nat) (wi cs : Nat → Nat) : Nat := shN wi (cR row q n wi cs) n
/-- WISHES as they can be -/
def WiV (row : Nat → Int32) (n : Nat) (wi : Nat → Nat) : Prop := n ≤ 6 ∧ (∀ i, i < n → wi i < nP row) ∧ (∀ i j, i < n → j < n → wi i = wi j → i = j) ∧ ∀ i, i < n → ∀ d, d < nS row → cl (sa row d 0) ≠ wi i
/-- ready to try: the STARTS of the last ROW tried stand in the state -/
def TrJ (row : Nat → Int32) (q n : Nat) (wi : Nat → Nat) (σ : AH) : Prop := ∃ s, (∀ p w, s p = some w → w < 260) ∧ (∀ cs, sC s wi q cs n = sC (sw row (kQ q)) wi q cs n) ∧ TrI row q n wi s σ
theorem tryJ {row : Nat → Int32} {q n X : Nat} {wi : Nat → Nat} {σ : AH} (hV : AV row) (hB : BV row) (hq : q < 20) (hW : WiV row n wi) (hX : X < 4096) (hR : RV_ (bfR row q)) (h : TrJ row q n wi σ) :
    ∃ τ, F_X12_tryRow (nI q) (nI X) σ = some τ ∧ TrJ row q n wi τ ∧ gI τ 124 60 = nI (hoC row q n wi (dg n X)) ∧ gI τ 124 61 = nI (shC row q n wi (dg n X)) ∧ Ch RNc TRf σ τ := by
  obtain ⟨s, h1, h2, h3⟩ := h
  obtain ⟨τ, t1, t2, t3, t4, t5⟩ := F_tryRow hV hB hq hW.1 hX hW.2.1 h1 hR h3
  rw [h2] at t3 t4
  refine ⟨τ, t1, ⟨sC s wi q (dg n X) n, sC_lt h1 hq (fun i => dg_lt) n, fun cs => ?_, t2⟩, t3, t4, t5⟩
  rw [sC_again hW.2.2.1, h2]
theorem aheadJ {row : Nat → Int32} {q n : Nat} {wi : Nat → Nat} {σ : AH} (hV : AV row) (hB : BV row) (hq : q < 20) (hr : gI σ 125 = row) (hw : WsI n wi σ) :
    ∃ τ, F_X12_goAhead (nI q) σ = some τ ∧ TrJ row q n wi τ ∧ RV_ (bfR row q) ∧ Ch GAc RNf σ τ := by
  obtain ⟨τ, t1, t2, t3, t4, t5, t6, t7⟩ := F_goAhead hV hB hq hr
  refine ⟨τ, t1, ⟨sw row (kQ q), fun p w h => sw_lt hB h, fun _ => rfl, t2, t3, t6, ?_, t5⟩, t4, t7⟩
  unfold WsI; rw [t7.pI (by simp [GAc, RNc]) (by simp [RNf]), t7.rI (by simp [GAc, RNc]) (by simp [RNf])]; exact hw
/-- the first of the best among the first c -/
def bsI (h s : Nat → Nat) : Nat → Nat := fun c => match c with
  | 0 => 0
  | c + 1 => if c = 0 then 0 else if h (bsI h s c) < h c ∨ (h c = h (bsI h s c) ∧ s c < s (bsI h s c)) then c else bsI h s c
theorem bsI_lt {h s : Nat → Nat} : ∀ c, 0 < c → bsI h s c < c := by
  intro c
  induction c with
  | zero => intro h; omega
  | succ c ih =>
    intro _
    unfold bsI
    split
    · omega
    · split
      · omega
      · have := ih (by omega); omega
theorem bsI_best {h s : Nat → Nat} : ∀ c x, x < c → h x < h (bsI h s c) ∨ (h x = h (bsI h s c) ∧ (s (bsI h s c) < s x ∨ (s (bsI h s c) = s x ∧ bsI h s c ≤ x))) := by
  intro c
  induction c with
  | zero => intro x hx; omega
  | succ c ih =>
    intro x hx
    have e : bsI h s (c + 1) = if c = 0 then 0 else if h (bsI h s c) < h c ∨ (h c = h (bsI h s c) ∧ s c < s (bsI h s c)) then c else bsI h s c := rfl
    by_cases z : c = 0
    · subst z
      rw [e, if_pos rfl, show x = 0 by omega]
      exact Or.inr ⟨rfl, Or.inr ⟨rfl, Nat.le_refl _⟩⟩
    · have lt := bsI_lt (h := h) (s := s) c (by omega)
      rw [e, if_neg z]
      by_cases y : h (bsI h s c) < h c ∨ (h c = h (bsI h s c) ∧ s c < s (bsI h s c))
      · rw [if_pos y]
        by_cases xc : x = c
        · subst xc; exact Or.inr ⟨rfl, Or.inr ⟨rfl, Nat.le_refl _⟩⟩
        · have := ih x (by omega); omega
      · rw [if_neg y]
        by_cases xc : x = c
        · subst xc; omega
        · exact ih x (by omega)
theorem pow4_le {n : Nat} (h : n ≤ 6) : 4 ^ n ≤ 4096 := by
  have : 4 ^ n ≤ 4 ^ 6 := Nat.pow_le_pow_right (by decide) h
  exact this
theorem sh2n {n : Nat} (h : n ≤ 6) : (1 : Int32) <<< (((2 : Int32) * nI n) &&& 31) = nI (4 ^ n) := by
  have e : (2 : Int32) * nI n = nI (2 * n) := by simp only [fa_lit, pk_mul]
  rw [e, sh1 (by omega), Nat.pow_mul]
def bestX (row : Nat → Int32) (q n : Nat) (wi : Nat → Nat) : Nat := bsI (fun X => hoC row q n wi (dg n X)) (fun X => shC row q n wi (dg n X)) (4 ^ n)
def BEc : List Nat := 153 :: GAc
def BEf : List (Nat × Nat) := [(124, 0), (124, 23), (124, 24), (124, 29), (124, 30), (124, 31), (124, 32), (124, 45), (124, 50), (124, 51), (124, 53), (124, 60), (124, 61)]
theorem TrJ.ch {row : Nat → Int32} {q n : Nat} {wi : Nat → Nat} {σ τ : AH} {cs : List Nat} {fs : List (Nat × Nat)} (h : TrJ row q n wi σ) (c : Ch cs fs σ τ) (h1 : ∀ i ∈ cs, i = 153) (h2 : ∀ q ∈ fs, q.1 = 124 ∧ q.2 ≠ 23 ∧ q.2 ≠ 24 ∧ q.2 ≠ 45 ∧ q.2 ≠ 48) : TrJ row q n wi τ := by
  obtain ⟨s, a1, a2, a3, a4, a5, ⟨a6, a7⟩, a8⟩ := h
  have e : ∀ i, i ≠ 124 → i ≠ 153 → gI τ i = gI σ i := fun i n1 n2 => c.rI (fun z => n2 (h1 i z)) (fun q hq e => n1 (by rw [← e, (h2 q hq).1]))
  have e4 : ∀ k, (k = 23 ∨ k = 24 ∨ k = 45 ∨ k = 48) → gI τ 124 k = gI σ 124 k := fun k hk => c.pI (fun z => by have := h1 _ z; omega) (fun z => by have := h2 _ z; simp at this; omega)
  refine ⟨s, a1, a2, a3.many c (fun i hi => by have := h1 i hi; omega) (fun q hq => ⟨(h2 q hq).1, (h2 q hq).2.1, (h2 q hq).2.2.1⟩), a4.ch c (fun i hi => by have := h1 i hi; omega) (fun q hq => by have := (h2 q hq).1; omega), ?_, ⟨?_, ?_⟩, ?_⟩
  · rw [e4 45 (by simp)]; exact a5
  · rw [e4 48 (by simp)]; exact a6
  · rw [e 152 (by decide) (by decide)]; exact a7
  · rw [e 140 (by decide) (by decide)]; exact a8
theorem best_84 {row : Nat → Int32} {q n X : Nat} {wi : Nat → Nat} {x2 : Int32} {K : Int32 → Int32 → Int32 → AH → Option (Int32 × AH)} {σ : AH} (hW : WiV row n wi) (hX : X < 4096) (h : TrJ row q n wi σ) :
    ∃ τ, F_X12_best_84 K BIG (nI q) x2 (nI X) (0 : Int32) σ = K (nI q) x2 (nI (X + 1)) τ ∧ (∀ k, k < n → gI τ 153 k = nI (dg n X k)) ∧ Ch [153] [] σ τ := by
  have hn := hW.1
  obtain ⟨g, hg⟩ := BIGe n (by omega)
  rw [hg]
  obtain ⟨τ, t1, t2, t3⟩ := loop_inv (N := n) (g := g) (cs := [153]) (fs := []) (G := fun f x s => F_X12_best_84 K f (nI q) x2 (nI X) x s) (E := fun s => K (nI q) x2 (nI (X + 1)) s) (P := fun i t => gI t 124 48 = nI n ∧ ∀ k, k < i → gI t 153 k = nI (dg n X k)) (fun f i t hi h => by
    refine ⟨sI t 153 i (nI (dg n X i)), ?_, ⟨?_, fun k hk => ?_⟩, Ch.sI1 (Or.inr (by simp))⟩
    · show B_X12_best_84 K (F_X12_best_84 K f) (nI q) x2 (nI X) (nI i) t = _
      unfold B_X12_best_84
      rw [h.1, if_neg (nI_ge hi (by omega)), if_pos (inB_n (by omega) (by omega)), nI_clamp (by omega), dg_sh hX hn hi, nI_1]
    · rw [gI_sI_row (by decide)]; exact h.1
    · by_cases e : k = i
      · subst e; rw [gI_sI_at]
      · rw [gI_sI_ne e]; exact h.2 k (by omega)) (fun f t h => by
    show B_X12_best_84 K (F_X12_best_84 K f) (nI q) x2 (nI X) (nI n) t = _
    unfold B_X12_best_84 F_X12_best_121
    rw [h.1, if_pos (nI_le (Nat.le_refl _) (by omega)), nI_1]) n 0 σ (by omega) ⟨by obtain ⟨s, _, _, _, _, _, ⟨a, _⟩, _⟩ := h; exact a, fun k hk => absurd hk (Nat.not_lt_zero k)⟩
  exact ⟨τ, t1, t2.2, t3⟩
theorem hoC_le {row : Nat → Int32} {q n : Nat} {wi cs : Nat → Nat} (hB : BV row) (hW : WiV row n wi) : hoC row q n wi cs ≤ 36 := by
  have : ∀ m, m ≤ n → hoN row wi (cR row q n wi cs) m ≤ 6 * m := by
    intro m
    induction m with
    | zero => intro _; exact Nat.le_refl _
    | succ m ih =>
      intro hm
      unfold hoN
      have h6 : pR row (wi m) < 7 := (hB.p.2.2 (wi m) (hW.2.1 m (by omega))).2.2.1.1.2
      have := ih (by omega)
      split <;> omega
  have := this n (Nat.le_refl _)
  have := hW.1
  unfold hoC; omega
theorem shC_le {row : Nat → Int32} {q n : Nat} {wi cs : Nat → Nat} (hW : WiV row n wi) : shC row q n wi cs ≤ 6 := by
  have := shN_le (wi := wi) (R := cR row q n wi cs) n
  have := hW.1
  unfold shC; omega
theorem best_loop {row : Nat → Int32} {q n g : Nat} {wi : Nat → Nat} (hV : AV row) (hB : BV row) (hq : q < 20) (hW : WiV row n wi) (hR : RV_ (bfR row q)) : ∀ (j X : Nat) (x2 : Int32) (σ : AH), X + j = 4 ^ n → TrJ row q n wi σ →
    ((X = 0 ∧ x2 = -1) ∨ (0 < X ∧ x2 = nI (hoC row q n wi (dg n (bsI (fun X => hoC row q n wi (dg n X)) (fun X => shC row q n wi (dg n X)) X))) ∧ gI σ 124 53 = nI (shC row q n wi (dg n (bsI (fun X => hoC row q n wi (dg n X)) (fun X => shC row q n wi (dg n X)) X))) ∧ ∀ k, k < n → gI σ 153 k = nI (dg n (bsI (fun X => hoC row q n wi (dg n X)) (fun X => shC row q n wi (dg n X)) X) k))) →
    ∃ τ, F_X12_best_23 (j + 1 + g) (nI q) x2 (nI X) σ = some (nI (hoC row q n wi (dg n (bestX row q n wi))), τ) ∧ gI τ 124 50 = 1 ∧ gI τ 124 51 = nI n ∧ gI τ 124 53 = nI (shC row q n wi (dg n (bestX row q n wi))) ∧ (∀ k, k < n → gI τ 153 k = nI (dg n (bestX row q n wi) k)) ∧ Ch BEc BEf σ τ := by
  have p4 := pow4_le hW.1
  have hn := hW.1
  intro j
  induction j with
  | zero =>
    intro X x2 σ hX hT hb
    have eX : X = 4 ^ n := by omega
    have pos : 0 < X := by rw [eX]; exact Nat.pow_pos (by decide)
    rcases hb with ⟨z, _⟩ | ⟨_, b1, b2', b3⟩
    · omega
    · rw [eX] at b1 b2' b3
      have a48 : gI σ 124 48 = nI n := by obtain ⟨s, _, _, _, _, _, ⟨a, _⟩, _⟩ := hT; exact a
      rw [show 0 + 1 + g = g + 1 by omega]
      show ∃ τ, B_X12_best_23 (F_X12_best_23 g) (nI q) x2 (nI X) σ = _ ∧ _
      unfold B_X12_best_23
      rw [a48, sh2n hn, if_pos (nI_le (by omega) (by omega)), gI_sI_ne (j := 48) (by decide), a48, b1]
      refine ⟨_, rfl, ?_, gI_sI_at, ?_, fun k hk => ?_, (Ch.sI1 (Or.inl (by simp [BEf]))).trans (Ch.sI1 (Or.inl (by simp [BEf])))⟩
      · rw [gI_sI_ne (by decide), gI_sI_at]
      · rw [gI_sI_ne (by decide), gI_sI_ne (by decide)]; exact b2'
      · rw [gI_sI_row (by decide), gI_sI_row (by decide)]; exact b3 k hk
  | succ j ih =>
    intro X x2 σ hX hT hb
    have a48 : gI σ 124 48 = nI n := by obtain ⟨s, _, _, _, _, _, ⟨a, _⟩, _⟩ := hT; exact a
    rw [show j + 1 + 1 + g = (j + 1 + g) + 1 by omega]
    show ∃ τ, B_X12_best_23 (F_X12_best_23 (j + 1 + g)) (nI q) x2 (nI X) σ = _ ∧ _
    unfold B_X12_best_23
    obtain ⟨τ, t1, t2, t3, t4, t5⟩ := tryJ hV hB hq hW (X := X) (by omega) hR hT
    have cc : Ch BEc BEf σ τ := t5.mono (by simp [RNc, GAc, BEc]) (by simp [TRf, NDf, BEf])
    have e53 : gI τ 124 53 = gI σ 124 53 := t5.pI (by simp [RNc]) (by simp [TRf, NDf])
    have e153 : gI τ 153 = gI σ 153 := t5.rI (by simp [RNc]) (by simp [TRf, NDf])
    rw [a48, sh2n hn, if_neg (nI_ge (by omega) (by omega)), t1, bv_some, t3, t4]
    obtain ⟨H, hH⟩ : ∃ H : Nat → Nat, H = fun X => hoC row q n wi (dg n X) := ⟨_, rfl⟩
    obtain ⟨S, hS⟩ : ∃ S : Nat → Nat, S = fun X => shC row q n wi (dg n X) := ⟨_, rfl⟩
    have lH : ∀ X, H X ≤ 36 := fun X => by rw [hH]; exact hoC_le hB hW
    have lS : ∀ X, S X ≤ 6 := fun X => by rw [hS]; exact shC_le hW
    have eH : ∀ X, hoC row q n wi (dg n X) = H X := fun X => by rw [hH]
    have eS : ∀ X, shC row q n wi (dg n X) = S X := fun X => by rw [hS]
    rw [← hH, ← hS] at hb
    simp only [eH, eS] at hb ⊢
    rw [← hH, ← hS] at ih
    simp only [eH, eS] at ih
    have st : bsI H S (X + 1) = if X = 0 then 0 else if H (bsI H S X) < H X ∨ (H X = H (bsI H S X) ∧ S X < S (bsI H S X)) then X else bsI H S X := rfl
    have new : bsI H S (X + 1) = X → ∃ τ', F_X12_best_68 (F_X12_best_23 (j + 1 + g)) (nI q) (nI X) τ = some (nI (H (bestX row q n wi)), τ') ∧ gI τ' 124 50 = 1 ∧ gI τ' 124 51 = nI n ∧ gI τ' 124 53 = nI (S (bestX row q n wi)) ∧ (∀ k, k < n → gI τ' 153 k = nI (dg n (bestX row q n wi) k)) ∧ Ch BEc BEf σ τ' := fun eb => by
      unfold F_X12_best_68
      have c1 : Ch [] [(124, 53)] τ (sI τ 124 53 (gI τ 124 61)) := Ch.sI1 (Or.inl (by simp))
      have T1 : TrJ row q n wi (sI τ 124 53 (gI τ 124 61)) := t2.ch c1 (by simp) (by simp)
      obtain ⟨τ2, u1, u2, u3⟩ := best_84 (x2 := gI τ 124 60) (K := F_X12_best_23 (j + 1 + g)) hW (X := X) (by omega) T1
      have T2 : TrJ row q n wi τ2 := T1.ch u3 (by simp) (by simp)
      rw [u1, t3, eH]
      obtain ⟨τ3, v1, v2, v3, v4, v5, v6⟩ := ih (X + 1) (nI (H X)) τ2 (by omega) T2 (Or.inr ⟨by omega, by rw [eb], by rw [eb, u3.rI (by simp) (by simp), gI_sI_at, t4, eS], fun k hk => by rw [eb]; exact u2 k hk⟩)
      exact ⟨τ3, v1, v2, v3, v4, v5, ((cc.trans (c1.mono (by simp) (by simp [BEf]))).trans (u3.mono (by simp [BEc]) (by simp))).trans v6⟩
    have old : 0 < X → bsI H S (X + 1) = bsI H S X → ∃ τ', F_X12_best_121 (F_X12_best_23 (j + 1 + g)) (nI q) x2 (nI X) τ = some (nI (H (bestX row q n wi)), τ') ∧ gI τ' 124 50 = 1 ∧ gI τ' 124 51 = nI n ∧ gI τ' 124 53 = nI (S (bestX row q n wi)) ∧ (∀ k, k < n → gI τ' 153 k = nI (dg n (bestX row q n wi) k)) ∧ Ch BEc BEf σ τ' := fun hp eb => by
      unfold F_X12_best_121
      rw [nI_1]
      rcases hb with ⟨z, _⟩ | ⟨_, b1, b2', b3⟩
      · omega
      · obtain ⟨τ3, v1, v2, v3, v4, v5, v6⟩ := ih (X + 1) x2 τ (by omega) t2 (Or.inr ⟨by omega, by rw [eb]; exact b1, by rw [eb, e53]; exact b2', fun k hk => by rw [eb, e153]; exact b3 k hk⟩)
        exact ⟨τ3, v1, v2, v3, v4, v5, cc.trans v6⟩
    have hHX := lH X
    have hSX := lS X
    rcases hb with ⟨z, b1⟩ | ⟨hp, b1, b2', b3⟩
    · rw [b1, if_pos (by rw [Int32.lt_iff_toInt_lt, nI_toInt (by omega)]; have : (-1 : Int32).toInt = -1 := by decide
                         omega)]
      exact new (by rw [st, if_pos z, z])
    · have lb := lH (bsI H S X)
      have lsb := lS (bsI H S X)
      have nz : ¬ X = 0 := by omega
      rw [e53, b2']
      by_cases c1 : H (bsI H S X) < H X
      · rw [if_pos (by rw [b1]; exact nI_lt c1 (by omega))]
        exact new (by rw [st, if_neg nz, if_pos (Or.inl c1)])
      · rw [if_neg (by rw [b1]; exact nI_nlt (by omega) (by omega))]
        by_cases c2 : H X = H (bsI H S X)
        · rw [if_pos (by rw [b1, c2])]
          by_cases c3 : S X < S (bsI H S X)
          · rw [if_neg (nI_ge c3 (by omega))]
            exact new (by rw [st, if_neg nz, if_pos (Or.inr ⟨c2, c3⟩)])
          · rw [if_pos (nI_le (by omega) (by omega))]
            exact old hp (by rw [st, if_neg nz, if_neg (fun q => by rcases q with q | q; exact c1 q; exact c3 q.2)])
        · rw [if_neg (by rw [b1]; exact fun q => c2 ((nI_eq (by omega) (by omega)).mp q))]
          exact old hp (by rw [st, if_neg nz, if_neg (fun q => by rcases q with q | q; exact c1 q; exact c2 q.1)])
end
