section
/-! a table grows -/
/-- only table t may get another array; the cells that there are stay, but for cs and fs -/
def ChX (t : Nat) (cs : List Nat) (fs : List (Nat × Nat)) (σ τ : AH) : Prop :=
  nx σ ≤ nx τ ∧ (∀ i, i < nx σ → kd τ i = kd σ i) ∧ (∀ o k, o < nx σ → ¬ (o = t ∧ k = 2) → gR τ o k = gR σ o k) ∧ (gR τ t 2 = gR σ t 2 ∨ ∃ b, gR τ t 2 = some b ∧ nx σ ≤ b ∧ b < nx τ) ∧ ∀ i, i < nx σ → i ∉ cs → ∀ k, (i, k) ∉ fs → gI τ i k = gI σ i k ∧ gL τ i k = gL σ i k
theorem Ch.x {t : Nat} {cs : List Nat} {fs : List (Nat × Nat)} {σ τ : AH} (h : Ch cs fs σ τ) : ChX t cs fs σ τ :=
  ⟨by rw [h.2.1]; exact Nat.le_refl _, fun i _ => by rw [h.1], fun o k _ _ => by rw [h.2.2.2.1], Or.inl (by rw [h.2.2.2.1]), fun i _ hi k hk => h.2.2.2.2 i hi k hk⟩
theorem ChX.trans {t : Nat} {cs : List Nat} {fs : List (Nat × Nat)} {a b c : AH} (h : ChX t cs fs a b) (g : ChX t cs fs b c) : ChX t cs fs a c := by
  obtain ⟨h1, h2, h3, h4, h5⟩ := h
  obtain ⟨g1, g2, g3, g4, g5⟩ := g
  refine ⟨by omega, fun i hi => by rw [g2 i (by omega), h2 i hi], fun o k ho hk => by rw [g3 o k (by omega) hk, h3 o k ho hk], ?_, fun i hi hc k hk => ?_⟩
  · rcases g4 with z | ⟨y, y1, y2, y3⟩
    · rcases h4 with x | ⟨y, y1, y2, y3⟩
      · exact Or.inl (by rw [z, x])
      · exact Or.inr ⟨y, by rw [z]; exact y1, y2, by omega⟩
    · exact Or.inr ⟨y, y1, by omega, y3⟩
  · have p := g5 i (by omega) hc k hk
    have q := h5 i hi hc k hk
    exact ⟨by rw [p.1, q.1], by rw [p.2, q.2]⟩
theorem ChX.mono {t : Nat} {cs ds : List Nat} {fs gs : List (Nat × Nat)} {a b : AH} (h : ChX t cs fs a b) (h1 : ∀ i ∈ cs, i ∈ ds) (h2 : ∀ q ∈ fs, q ∈ gs ∨ q.1 ∈ ds) : ChX t ds gs a b := by
  obtain ⟨a1, a2, a3, a4, a5⟩ := h
  refine ⟨a1, a2, a3, a4, fun i hi hc k hk => a5 i hi (fun z => hc (h1 i z)) k (fun z => ?_)⟩
  rcases h2 _ z with y | y
  · exact hk y
  · exact hc y
theorem F_addG {σ : AH} {t wd mst n : Nat} {C : Nat → Nat → Int32} (h : TbG σ t wd mst n C) (hn : n < mst) (ht : t < 166) (hx : 166 ≤ nx σ) (ha : alB m_X8_add t = true) (hs : shOK t 2 = true) (hm : mst * wd ≤ 2000000) (hm2 : 2 * mst < 2 ^ 31) : ∃ τ C', F_X8_add t σ = some (nI n, τ) ∧ TbG τ t wd mst (n + 1) C' ∧ (∀ s j, s < n → j < wd → C' s j = C s j) ∧ ChX t [] [(t, 3)] σ τ := by
  obtain ⟨⟨a1, a2⟩, ⟨b1, b2', b3, b4⟩, b, L, c1, ⟨c2, c3⟩, ⟨c4, c5⟩, c6, c7⟩ := h
  have nb : t ≠ b := by omega
  have m1 : (n + 1) * wd ≤ mst * wd := Nat.mul_le_mul_right wd hn
  have m2 : (n + 1) * wd = n * wd + wd := Nat.succ_mul n wd
  -- the number of rows goes up
  have fin : ∀ (s1 : AH) (b0 L0 : Nat) (C' : Nat → Nat → Int32), kd s1 t = (8, NO 8) → t < nx s1 → gI s1 t 0 = nI wd → gI s1 t 1 = nI mst → gI s1 t 3 = nI n → gR s1 t 2 = some b0 → kd s1 b0 = (100, L0) → b0 < nx s1 → (n + 1) * wd ≤ L0 → L0 ≤ mst * wd → (b0 = t + 1 ∨ 166 ≤ b0) → (∀ s j, s < n + 1 → j < wd → gI s1 b0 (s * wd + j) = C' s j) →
      F_X8_add_63 t s1 = some (nI n, sI s1 t 3 (nI (n + 1))) ∧ TbG (sI s1 t 3 (nI (n + 1))) t wd mst (n + 1) C' := fun s1 b0 L0 C' k1 k2 g0 g1 g3 r2 k3 k4 l1 l2 k5 k6 => by
    have nb0 : b0 ≠ t := by omega
    refine ⟨?_, ⟨k1, k2⟩, ⟨?_, ?_, ?_, hn⟩, b0, L0, r2, ⟨k3, k4⟩, ⟨l1, l2⟩, k5, fun s j hs hj => ?_⟩
    · unfold F_X8_add_63
      rw [if_pos k1, if_pos k2, if_pos ha, g3, nI_1, gI_sI_at, m1_eq, nI_m1 (by omega)]; rfl
    · rw [gI_sI_ne (by decide)]; exact g0
    · rw [gI_sI_ne (by decide)]; exact g1
    · exact gI_sI_at
    · rw [gI_sI_row nb0]; exact k6 s j hs hj
  unfold F_X8_add
  have e1 : (nI n + (1 : Int32)) * nI wd = nI ((n + 1) * wd) := by rw [nI_1, pk_mul]
  rw [if_pos a1, if_pos a2, b3, b2', if_pos (nI_lt hn (by omega)), c1, bo_some, if_pos ⟨by rw [c2], c3⟩, c2, b1, e1, show Int32.ofNat (100, L).2 = nI L from rfl]
  by_cases c : (n + 1) * wd ≤ L
  · rw [if_pos (nI_le c (by omega))]
    obtain ⟨x1, x2⟩ := fin σ b L (fun s j => gI σ b (s * wd + j)) a1 a2 b1 b2' b3 c1 c2 c3 c c5 c6 (fun _ _ _ _ => rfl)
    refine ⟨_, _, x1, x2, fun s j hs hj => c7 s j hs hj, ?_⟩
    exact Ch.x (Ch.sI1 (Or.inl (by simp)))
  · rw [if_neg (nI_ge (by omega) (by omega)), bo_some, if_pos ⟨by rw [c2], c3⟩]
    obtain ⟨M, hM⟩ : ∃ M, M = min mst ((n + 1) * 2) := ⟨_, rfl⟩
    have hM1 : n + 1 ≤ M := by omega
    have hM2 : M ≤ mst := by omega
    have e2 : imin (nI mst) ((nI n + (1 : Int32)) * (2 : Int32)) = nI M := by
      have : (nI n + (1 : Int32)) * (2 : Int32) = nI ((n + 1) * 2) := by rw [nI_1, fa_lit 2, pk_mul]
      rw [this, imin_n (by omega) (by omega), hM]
    have m3 : (n + 1) * wd ≤ M * wd := Nat.mul_le_mul_right wd hM1
    have m4 : M * wd ≤ mst * wd := Nat.mul_le_mul_right wd hM2
    rw [e2, pk_mul]
    unfold F_J7_copyOf_59c91
    rw [if_pos ⟨by rw [c2], c3⟩, nI_clamp (by omega), if_pos ⟨nI_pos (by omega), by omega⟩, bd_some, c2]
    obtain ⟨s1, hs1⟩ : ∃ s, s = sA (aw σ 100 (M * wd)) (nx σ) (fun j => if j < (100, L).2 ∧ j < M * wd then gI σ b j else 0) := ⟨_, rfl⟩
    rw [← hs1]
    have kn : kd s1 (nx σ) = (100, M * wd) := by rw [hs1]; exact kd_aw_new
    have xn : nx s1 = nx σ + 1 := by rw [hs1]; rfl
    have ko : ∀ i, i < nx σ → kd s1 i = kd σ i := fun i hi => by rw [hs1]; exact kd_aw_old (by omega)
    have ro : ∀ i, i < nx σ → gR s1 i = gR σ i := fun i hi => by rw [hs1]; exact gR_aw_old (t := 100) (n := M * wd) (by omega)
    have io : ∀ i, i < nx σ → gI s1 i = gI σ i := fun i hi => by rw [hs1, gI_sA_row (by omega)]; exact gI_aw_old (by omega)
    have lo_ : ∀ i, i < nx σ → gL s1 i = gL σ i := fun i hi => by rw [hs1]; exact gL_aw_old (t := 100) (n := M * wd) (by omega)
    have inw : gI s1 (nx σ) = fun j => if j < L ∧ j < M * wd then gI σ b j else 0 := by rw [hs1]; exact gI_sA_own
    rw [if_pos ⟨by rw [kn], by rw [xn]; omega⟩, if_pos ha, if_pos hs, lt_e]
    obtain ⟨s2, hs2⟩ : ∃ s, s = sR s1 t 2 (some (nx σ)) := ⟨_, rfl⟩
    rw [← hs2]
    have k2 : kd s2 = kd s1 := by rw [hs2]; rfl
    have x2 : nx s2 = nx s1 := by rw [hs2]; rfl
    have i2 : gI s2 = gI s1 := by rw [hs2]; rfl
    have l2 : gL s2 = gL s1 := by rw [hs2]; rfl
    have r2 : gR s2 t 2 = some (nx σ) := by rw [hs2]; show va_up (gR s1) t (va_up (gR s1 t) 2 _) t 2 = _; rw [up_same, up_same]
    have r3 : ∀ o k, ¬ (o = t ∧ k = 2) → gR s2 o k = gR s1 o k := fun o k hk => by
      rw [hs2]; show va_up (gR s1) t (va_up (gR s1 t) 2 _) o k = _
      by_cases z : o = t
      · rw [z, up_same, up_ne _ _ _ (fun y => hk ⟨z, y⟩)]
      · rw [up_ne _ _ _ z]
    obtain ⟨y1, y2⟩ := fin s2 (nx σ) (M * wd) (fun s j => gI s2 (nx σ) (s * wd + j)) (by rw [k2, ko t a2]; exact a1) (by rw [x2, xn]; omega) (by rw [i2, io t a2]; exact b1) (by rw [i2, io t a2]; exact b2') (by rw [i2, io t a2]; exact b3) r2 (by rw [k2]; exact kn) (by rw [x2, xn]; omega) m3 m4 (Or.inr hx) (fun _ _ _ _ => rfl)
    refine ⟨_, _, y1, y2, fun s j hs' hj => ?_, ?_⟩
    · show gI s2 (nx σ) (s * wd + j) = _
      have : (s + 1) * wd ≤ n * wd := Nat.mul_le_mul_right wd hs'
      have e : (s + 1) * wd = s * wd + wd := Nat.succ_mul s wd
      rw [i2, inw]
      show (if s * wd + j < L ∧ s * wd + j < M * wd then gI σ b (s * wd + j) else 0) = _
      rw [if_pos ⟨by omega, by omega⟩]; exact c7 s j hs' hj
    · have g1 : ChX t [] [(t, 3)] σ s2 := ⟨by omega, fun i hi => by rw [k2, ko i hi], fun o k ho hk => by rw [r3 o k hk, ro o ho], Or.inr ⟨nx σ, r2, Nat.le_refl _, by omega⟩, fun i hi _ k _ => ⟨by rw [i2, io i hi], by rw [l2, lo_ i hi]⟩⟩
      exact g1.trans (Ch.x (Ch.sI1 (Or.inl (by simp))))
end
