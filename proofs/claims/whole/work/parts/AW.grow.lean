section
/-! a table grows -/
/-- the lengths (in rows) that a table of at most m rows can have; what all up to one of them come to; how many they are -/
def wdT (t : Nat) : Nat := if t = 5 then 8 else if t = 11 then 3 else if t = 13 then 10 else if t = 17 then 7 else 4
def msT (t : Nat) : Nat := if t = 3 then 120 else if t = 5 then 8 else if t = 9 then 30 else if t = 15 then 40 else if t = 17 then 7830 else 60
def chT (m : Nat) : List Nat := ([8, 18, 38, 78, 158, 318, 638, 1278, 2558, 5118].filter (fun c => decide (c < m))) ++ [m]
def usR (m c : Nat) : Nat := ((chT m).filter (fun x => decide (x ≤ c))).sum
def ctR (m c : Nat) : Nat := ((chT m).filter (fun x => decide (x ≤ c))).length
def msL : List Nat := [120, 8, 60, 30, 40, 7830]
theorem msT_mem (t : Nat) : msT t ∈ msL := by
  unfold msT
  by_cases h1 : t = 3
  · rw [if_pos h1]; decide
  · rw [if_neg h1]
    by_cases h2 : t = 5
    · rw [if_pos h2]; decide
    · rw [if_neg h2]
      by_cases h3 : t = 9
      · rw [if_pos h3]; decide
      · rw [if_neg h3]
        by_cases h4 : t = 15
        · rw [if_pos h4]; decide
        · rw [if_neg h4]
          by_cases h5 : t = 17
          · rw [if_pos h5]; decide
          · rw [if_neg h5]; decide
theorem gw_tab : ∀ m ∈ msL, ∀ c ∈ chT m, ∀ c' ∈ chT m, c < c' → usR m c + c' ≤ usR m c' ∧ ctR m c + 1 ≤ ctR m c' := by decide +kernel
theorem gw_nxt : ∀ m ∈ msL, ∀ c ∈ chT m, c < m → min m ((c + 1) * 2) ∈ chT m ∧ c < min m ((c + 1) * 2) := by decide +kernel
/-- how table t grows: slots and cells that it takes -/
def GwR (t : Nat) (σ τ : AH) : Prop := ∀ b c, gR σ t 2 = some b → kd σ b = (100, c * wdT t) → b < nx σ → c ∈ chT (msT t) → ∃ b' c', gR τ t 2 = some b' ∧ kd τ b' = (100, c' * wdT t) ∧ b' < nx τ ∧ c' ∈ chT (msT t) ∧ c ≤ c' ∧ sl τ + usR (msT t) c * wdT t ≤ sl σ + usR (msT t) c' * wdT t ∧ nx τ + ctR (msT t) c ≤ nx σ + ctR (msT t) c'
theorem GwR.same {t : Nat} {σ τ : AH} (e1 : kd τ = kd σ) (e2 : nx τ = nx σ) (e3 : sl τ = sl σ) (e4 : gR τ t 2 = gR σ t 2) : GwR t σ τ := fun b c h1 h2 h3 h4 =>
  ⟨b, c, by rw [e4]; exact h1, by rw [e1]; exact h2, by rw [e2]; exact h3, h4, Nat.le_refl _, by rw [e3]; exact Nat.le_refl _, by rw [e2]; exact Nat.le_refl _⟩
theorem GwR.trans {t : Nat} {a b c : AH} (h : GwR t a b) (g : GwR t b c) : GwR t a c := fun x n h1 h2 h3 h4 => by
  obtain ⟨y, m, y1, y2, y3, y4, y5, y6, y7⟩ := h x n h1 h2 h3 h4
  obtain ⟨z, k, z1, z2, z3, z4, z5, z6, z7⟩ := g y m y1 y2 y3 y4
  exact ⟨z, k, z1, z2, z3, z4, by omega, by omega, by omega⟩
/-- only table t may get another array; the cells that there are stay, but for cs and fs -/
def ChX (t : Nat) (cs : List Nat) (fs : List (Nat × Nat)) (σ τ : AH) : Prop :=
  nx σ ≤ nx τ ∧ (∀ i, i < nx σ → kd τ i = kd σ i) ∧ (∀ o k, o < nx σ → ¬ (o = t ∧ k = 2) → gR τ o k = gR σ o k) ∧ (gR τ t 2 = gR σ t 2 ∨ ∃ b, gR τ t 2 = some b ∧ nx σ ≤ b ∧ b < nx τ) ∧ (∀ i, i < nx σ → i ∉ cs → (∀ k, (i, k) ∉ fs → gI τ i k = gI σ i k ∧ gL τ i k = gL σ i k)) ∧ GwR t σ τ
theorem Ch.x {t : Nat} {cs : List Nat} {fs : List (Nat × Nat)} {σ τ : AH} (h : Ch cs fs σ τ) : ChX t cs fs σ τ :=
  ⟨by rw [h.2.1]; exact Nat.le_refl _, fun i _ => by rw [h.1], fun o k _ _ => by rw [h.2.2.2.1], Or.inl (by rw [h.2.2.2.1]), fun i _ hi k hk => h.2.2.2.2 i hi k hk, GwR.same h.1 h.2.1 h.2.2.1 (by rw [h.2.2.2.1])⟩
theorem ChX.trans {t : Nat} {cs : List Nat} {fs : List (Nat × Nat)} {a b c : AH} (h : ChX t cs fs a b) (g : ChX t cs fs b c) : ChX t cs fs a c := by
  obtain ⟨h1, h2, h3, h4, h5, h6⟩ := h
  obtain ⟨g1, g2, g3, g4, g5, g6⟩ := g
  refine ⟨by omega, fun i hi => by rw [g2 i (by omega), h2 i hi], fun o k ho hk => by rw [g3 o k (by omega) hk, h3 o k ho hk], ?_, fun i hi hc k hk => ?_, h6.trans g6⟩
  · rcases g4 with z | ⟨y, y1, y2, y3⟩
    · rcases h4 with x | ⟨y, y1, y2, y3⟩
      · exact Or.inl (by rw [z, x])
      · exact Or.inr ⟨y, by rw [z]; exact y1, y2, by omega⟩
    · exact Or.inr ⟨y, y1, by omega, y3⟩
  · have p := g5 i (by omega) hc k hk
    have q := h5 i hi hc k hk
    exact ⟨by rw [p.1, q.1], by rw [p.2, q.2]⟩
theorem ChX.mono {t : Nat} {cs ds : List Nat} {fs gs : List (Nat × Nat)} {a b : AH} (h : ChX t cs fs a b) (h1 : ∀ i ∈ cs, i ∈ ds) (h2 : ∀ q ∈ fs, q ∈ gs ∨ q.1 ∈ ds) : ChX t ds gs a b := by
  obtain ⟨a1, a2, a3, a4, a5, a6⟩ := h
  refine ⟨a1, a2, a3, a4, fun i hi hc k hk => a5 i hi (fun z => hc (h1 i z)) k (fun z => ?_), a6⟩
  rcases h2 _ z with y | y
  · exact hk y
  · exact hc y
theorem F_addG {σ : AH} {t wd mst n : Nat} {C : Nat → Nat → Int32} (h : TbG σ t wd mst n C) (hn : n < mst) (ht : t < 166) (hx : 166 ≤ nx σ) (ha : alB m_X8_add t = true) (hs : shOK t 2 = true) (hm : mst * wd ≤ 2000000) (hm2 : 2 * mst < 2 ^ 31 ∧ wd = wdT t ∧ mst = msT t) : ∃ τ C', F_X8_add t σ = some (nI n, τ) ∧ TbG τ t wd mst (n + 1) C' ∧ (∀ s j, s < n → j < wd → C' s j = C s j) ∧ ChX t [] [(t, 3)] σ τ := by
  obtain ⟨⟨a1, a2⟩, ⟨b1, b2', b3, b4⟩, b, L, c1, ⟨c2, c3⟩, ⟨c4, c5⟩, c6, c7⟩ := h
  obtain ⟨hm2, hwd, hms⟩ := hm2
  have nb : t ≠ b := by omega
  have m1 : (n + 1) * wd ≤ mst * wd := Nat.mul_le_mul_right wd hn
  have m2 : (n + 1) * wd = n * wd + wd := Nat.succ_mul n wd
  -- the number of rows goes up
  have fin : ∀ (s1 : AH) (b0 L0 : Nat) (C' : Nat → Nat → Int32), kd s1 t = (8, NO 8) → t < nx s1 → gI s1 t 0 = nI wd → gI s1 t 1 = nI mst → gI s1 t 3 = nI n → gR s1 t 2 = some b0 → kd s1 b0 = (100, L0) → b0 < nx s1 → (n + 1) * wd ≤ L0 → L0 ≤ mst * wd → (b0 = t + 1 ∨ 166 ≤ b0) → (∀ s j, s < n + 1 → j < wd → gI s1 b0 (s * wd + j) = C' s j) →
      F_X8_add_63 t s1 = some (nI n, sI s1 t 3 (nI (n + 1))) ∧ TbG (sI s1 t 3 (nI (n + 1))) t wd mst (n + 1) C' := fun s1 b0 L0 C' k1 k2 g0 g1 g3 r2 k3 k4 l1 l2 k5 k6 => by
    have nb0 : b0 ≠ t := by omega
    refine ⟨?_, ⟨k1, k2⟩, ⟨?_, ?_, ?_, hn⟩, b0, L0, r2, ⟨k3, k4⟩, ⟨l1, l2⟩, k5, fun s j hs hj => ?_⟩
    · unfold F_X8_add_63
      rw [if_pos k1, if_pos k2, if_pos ha, g3, nI_1, gI_sI_at, m1_eq, nI_m1 (by omega)]; rfl
    · rw [gI_sI_ne (by decide)]; exact g0
    · rw [gI_sI_ne (by decide)]; exact g1
    · exact gI_sI_at
    · rw [gI_sI_row nb0]; exact k6 s j hs hj
  unfold F_X8_add
  have e1 : (nI n + (1 : Int32)) * nI wd = nI ((n + 1) * wd) := by rw [nI_1, pk_mul]
  rw [if_pos a1, if_pos a2, b3, b2', if_pos (nI_lt hn (by omega)), c1, bo_some, if_pos ⟨by rw [c2], c3⟩, c2, b1, e1, show Int32.ofNat (100, L).2 = nI L from rfl]
  by_cases c : (n + 1) * wd ≤ L
  · rw [if_pos (nI_le c (by omega))]
    obtain ⟨x1, x2⟩ := fin σ b L (fun s j => gI σ b (s * wd + j)) a1 a2 b1 b2' b3 c1 c2 c3 c c5 c6 (fun _ _ _ _ => rfl)
    refine ⟨_, _, x1, x2, fun s j hs hj => c7 s j hs hj, ?_⟩
    exact Ch.x (Ch.sI1 (Or.inl (by simp)))
  · rw [if_neg (nI_ge (by omega) (by omega)), bo_some, if_pos ⟨by rw [c2], c3⟩]
    obtain ⟨M, hM⟩ : ∃ M, M = min mst ((n + 1) * 2) := ⟨_, rfl⟩
    have hM1 : n + 1 ≤ M := by omega
    have hM2 : M ≤ mst := by omega
    have e2 : imin (nI mst) ((nI n + (1 : Int32)) * (2 : Int32)) = nI M := by
      have : (nI n + (1 : Int32)) * (2 : Int32) = nI ((n + 1) * 2) := by rw [nI_1, fa_lit 2, pk_mul]
      rw [this, imin_n (by omega) (by omega), hM]
    have m3 : (n + 1) * wd ≤ M * wd := Nat.mul_le_mul_right wd hM1
    have m4 : M * wd ≤ mst * wd := Nat.mul_le_mul_right wd hM2
    rw [e2, pk_mul]
    unfold F_J7_copyOf_59c91
    rw [if_pos ⟨by rw [c2], c3⟩, nI_clamp (by omega), if_pos ⟨nI_pos (by omega), by omega, by rw [c2]; show L ≤ 2000000; omega, hx⟩, bd_some, c2]
    obtain ⟨s1, hs1⟩ : ∃ s, s = sA (aw σ 100 (M * wd)) (nx σ) (fun j => if j < (100, L).2 ∧ j < M * wd then gI σ b j else 0) := ⟨_, rfl⟩
    rw [← hs1]
    have kn : kd s1 (nx σ) = (100, M * wd) := by rw [hs1]; exact kd_aw_new
    have xn : nx s1 = nx σ + 1 := by rw [hs1]; rfl
    have ko : ∀ i, i < nx σ → kd s1 i = kd σ i := fun i hi => by rw [hs1]; exact kd_aw_old (by omega)
    have ro : ∀ i, i < nx σ → gR s1 i = gR σ i := fun i hi => by rw [hs1]; exact gR_aw_old (t := 100) (n := M * wd) (by omega)
    have io : ∀ i, i < nx σ → gI s1 i = gI σ i := fun i hi => by rw [hs1, gI_sA_row (by omega)]; exact gI_aw_old (by omega)
    have lo_ : ∀ i, i < nx σ → gL s1 i = gL σ i := fun i hi => by rw [hs1]; exact gL_aw_old (t := 100) (n := M * wd) (by omega)
    have inw : gI s1 (nx σ) = fun j => if j < L ∧ j < M * wd then gI σ b j else 0 := by rw [hs1]; exact gI_sA_own
    rw [if_pos ⟨by rw [kn], by rw [xn]; omega⟩, if_pos ha, if_pos hs, lt_e]
    obtain ⟨s2, hs2⟩ : ∃ s, s = sR s1 t 2 (some (nx σ)) := ⟨_, rfl⟩
    rw [← hs2]
    have k2 : kd s2 = kd s1 := by rw [hs2]; rfl
    have x2 : nx s2 = nx s1 := by rw [hs2]; rfl
    have i2 : gI s2 = gI s1 := by rw [hs2]; rfl
    have l2 : gL s2 = gL s1 := by rw [hs2]; rfl
    have r2 : gR s2 t 2 = some (nx σ) := by rw [hs2]; show va_up (gR s1) t (va_up (gR s1 t) 2 _) t 2 = _; rw [up_same, up_same]
    have r3 : ∀ o k, ¬ (o = t ∧ k = 2) → gR s2 o k = gR s1 o k := fun o k hk => by
      rw [hs2]; show va_up (gR s1) t (va_up (gR s1 t) 2 _) o k = _
      by_cases z : o = t
      · rw [z, up_same, up_ne _ _ _ (fun y => hk ⟨z, y⟩)]
      · rw [up_ne _ _ _ z]
    obtain ⟨y1, y2⟩ := fin s2 (nx σ) (M * wd) (fun s j => gI s2 (nx σ) (s * wd + j)) (by rw [k2, ko t a2]; exact a1) (by rw [x2, xn]; omega) (by rw [i2, io t a2]; exact b1) (by rw [i2, io t a2]; exact b2') (by rw [i2, io t a2]; exact b3) r2 (by rw [k2]; exact kn) (by rw [x2, xn]; omega) m3 m4 (Or.inr hx) (fun _ _ _ _ => rfl)
    refine ⟨_, _, y1, y2, fun s j hs' hj => ?_, ?_⟩
    · show gI s2 (nx σ) (s * wd + j) = _
      have : (s + 1) * wd ≤ n * wd := Nat.mul_le_mul_right wd hs'
      have e : (s + 1) * wd = s * wd + wd := Nat.succ_mul s wd
      rw [i2, inw]
      show (if s * wd + j < L ∧ s * wd + j < M * wd then gI σ b (s * wd + j) else 0) = _
      rw [if_pos ⟨by omega, by omega⟩]; exact c7 s j hs' hj
    · have g1 : ChX t [] [(t, 3)] σ s2 := ⟨by omega, fun i hi => by rw [k2, ko i hi], fun o k ho hk => by rw [r3 o k hk, ro o ho], Or.inr ⟨nx σ, r2, Nat.le_refl _, by omega⟩, fun i hi _ k _ => ⟨by rw [i2, io i hi], by rw [l2, lo_ i hi]⟩, fun b0 cc e1 e2 e3 e4 => by
        rw [c1] at e1; cases e1
        rw [c2, ← hwd] at e2
        have eL : L = cc * wd := by cases e2; rfl
        have w0 : 0 < wd := Nat.pos_of_ne_zero (fun z => by rw [z] at c; simp at c)
        have n1 : n ≤ cc := Nat.le_of_mul_le_mul_right (by omega) w0
        have n2 : cc < n + 1 := Nat.lt_of_mul_lt_mul_right (a := wd) (by omega)
        have en : cc = n := by omega
        subst en
        rw [← hms] at e4
        have hmem : mst ∈ msL := by rw [hms]; exact msT_mem t
        obtain ⟨x1, x2'⟩ := gw_nxt mst hmem cc e4 hn
        rw [← hM] at x1 x2'
        obtain ⟨y1', y2'⟩ := gw_tab mst hmem cc e4 M x1 x2'
        have sl2 : sl s2 = sl σ + M * wd := by rw [hs2, hs1]; rfl
        have mm : (usR mst cc + M) * wd ≤ usR mst M * wd := Nat.mul_le_mul_right wd y1'
        have mm2 : (usR mst cc + M) * wd = usR mst cc * wd + M * wd := Nat.add_mul _ _ _
        refine ⟨nx σ, M, r2, by rw [k2, ← hwd]; exact kn, by omega, by rw [← hms]; exact x1, by omega, ?_, ?_⟩
        · rw [← hms, ← hwd, sl2]; omega
        · rw [← hms, x2, xn]; omega⟩
      exact g1.trans (Ch.x (Ch.sI1 (Or.inl (by simp))))
end
