section
/-! one table's copy -/
def TsI (σ : AH) (t wd mst b L : Nat) : Prop := (kd σ t = (8, NO 8) ∧ t < nx σ) ∧ (gI σ t 0 = nI wd ∧ gI σ t 1 = nI mst) ∧ gR σ t 2 = some b ∧ (kd σ b = (100, L) ∧ b < nx σ)
theorem al_cp8 {i : Nat} (h : (3 ≤ i ∧ i ≤ 18) ∨ 166 ≤ i) : alB m_X8_copyFrom i = true := by
  rcases h with h | h
  · have : i = 3 ∨ i = 4 ∨ i = 5 ∨ i = 6 ∨ i = 7 ∨ i = 8 ∨ i = 9 ∨ i = 10 ∨ i = 11 ∨ i = 12 ∨ i = 13 ∨ i = 14 ∨ i = 15 ∨ i = 16 ∨ i = 17 ∨ i = 18 := by omega
    rcases this with h | h | h | h | h | h | h | h | h | h | h | h | h | h | h | h <;> subst h <;> decide
  · exact al_new rfl h
theorem cp28 {σ : AH} {t t' n wd b b' L L' : Nat} (k1 : kd σ t = (8, NO 8)) (k2 : t < nx σ) (k3 : kd σ t' = (8, NO 8)) (k4 : t' < nx σ) (r1 : gR σ t 2 = some b) (r2 : gR σ t' 2 = some b') (d1 : kd σ b = (100, L)) (d2 : b < nx σ) (d3 : kd σ b' = (100, L')) (d4 : b' < nx σ) (g3 : gI σ t' 3 = nI n) (g0 : gI σ t 0 = nI wd) (hL : n * wd ≤ L) (hL' : n * wd ≤ L') (hb : n * wd < 2 ^ 31) (ne : t' ≠ b) (at_ : alB m_X8_copyFrom t = true) (ab : alB m_X8_copyFrom b = true) : F_X8_copyFrom_28 t t' σ = some (sI (sA σ b (va_cpy (gI σ b') (gI σ b) 0 0 (n * wd))) t 3 (nI n)) := by
  unfold F_X8_copyFrom_28
  have e0 : gI σ t' 3 * gI σ t 0 = nI (n * wd) := by rw [g3, g0, pk_mul]
  rw [if_pos k1, if_pos k2, if_pos k3, if_pos k4, r2, bo_some, if_pos ⟨by rw [d3], d4⟩, r1, bo_some, if_pos ⟨by rw [d1], d2⟩, e0, nI_clamp hb, if_pos (nI_pos hb), if_pos (by rw [d3]; show 0 + n * wd ≤ L'; omega), if_pos (by rw [d1]; show 0 + n * wd ≤ L; omega), if_pos ab, lt_e, if_pos at_]
  have : gI (sA σ b (va_cpy (gI σ b') (gI σ b) 0 0 (n * wd))) t' 3 = nI n := by rw [gI_sA_row ne]; exact g3
  rw [this]
theorem F_copyTab {σ : AH} {t t' wd mst n b0 L0 : Nat} {C : Nat → Nat → Int32} (d : TsI σ t wd mst b0 L0) (h : TbG σ t' wd mst n C) (hm : mst * wd ≤ 2000000) (hL0 : L0 ≤ mst * wd) (hb0 : b0 = t + 1 ∨ 166 ≤ b0) (ne : ∀ b', gR σ t' 2 = some b' → b0 ≠ b' ∧ t ≠ b') (ne1 : t ≠ t') (ne3 : b0 ≠ t') (ne5 : b0 ≠ t) (ht : (3 ≤ t ∧ t ≤ 17) ∨ 166 ≤ t) (hs : shOK t 2 = true) (hx : 166 ≤ nx σ) :
    ∃ τ b1 L1, F_X8_copyFrom t t' σ = some τ ∧ TbG τ t wd mst n C ∧ TsI τ t wd mst b1 L1 ∧ ((b1 = b0 ∧ L1 = L0 ∧ nx τ = nx σ ∧ sl τ = sl σ) ∨ (b1 = nx σ ∧ L0 < L1 ∧ nx τ = nx σ + 1 ∧ sl τ = sl σ + L1 ∧ ∃ b', gR σ t' 2 = some b' ∧ kd σ b' = (100, L1))) ∧ Gf (fun i => i = t ∨ i = b0) σ τ := by
  obtain ⟨⟨k1, k2⟩, ⟨g0, g1⟩, r1, ⟨d1, d2⟩⟩ := d
  obtain ⟨⟨k3, k4⟩, ⟨c1, c2, c3, c4⟩, b', L', r2, ⟨d3, d4⟩, ⟨l1, l2⟩, _, hc⟩ := h
  obtain ⟨n1, n2⟩ := ne b' r2
  have at_ : alB m_X8_copyFrom t = true := al_cp8 (by omega)
  have ab0 : alB m_X8_copyFrom b0 = true := al_cp8 (by omega)
  -- what comes out, whichever array stands there
  have fin : ∀ (s : AH) (b L : Nat), kd s t = (8, NO 8) → t < nx s → kd s t' = (8, NO 8) → t' < nx s → gR s t 2 = some b → gR s t' 2 = some b' → kd s b = (100, L) → b < nx s → kd s b' = (100, L') → b' < nx s → gI s t = gI σ t → gI s t' = gI σ t' → gI s b' = gI σ b' → n * wd ≤ L → L ≤ mst * wd → b ≠ t → b ≠ t' → b ≠ b' → (b = t + 1 ∨ 166 ≤ b) → alB m_X8_copyFrom b = true → ∃ τ, F_X8_copyFrom_28 t t' s = some τ ∧ TbG τ t wd mst n C ∧ TsI τ t wd mst b L ∧ nx τ = nx s ∧ sl τ = sl s ∧ kd τ = kd s ∧ gR τ = gR s ∧ gL τ = gL s ∧ (∀ i, i ≠ t → i ≠ b → gI τ i = gI s i) := by
    intro s b L q1 q2 q3 q4 q5 q6 q7 q8 q9 q10 q11 q12 q13 q14 q15 q16 q17 q18 q19 q20
    refine ⟨_, cp28 (n := n) (wd := wd) q1 q2 q3 q4 q5 q6 q7 q8 q9 q10 (by rw [q12]; exact c3) (by rw [q11]; exact g0) q14 l1 (by omega) (fun z => q17 z.symm) at_ q20, ⟨⟨q1, q2⟩, ⟨?_, ?_, gI_sI_at, c4⟩, b, L, q5, ⟨q7, q8⟩, ⟨q14, q15⟩, q19, fun x j hx' hj => ?_⟩, ⟨⟨q1, q2⟩, ⟨?_, ?_⟩, q5, ⟨q7, q8⟩⟩, rfl, rfl, rfl, rfl, rfl, fun i h1 h2 => by rw [gI_sI_row h1, gI_sA_row h2]⟩
    · rw [gI_sI_ne (by decide), gI_sA_row (fun z => q16 z.symm), q11]; exact g0
    · rw [gI_sI_ne (by decide), gI_sA_row (fun z => q16 z.symm), q11]; exact g1
    · have m1 : (x + 1) * wd ≤ n * wd := Nat.mul_le_mul_right wd hx'
      have m2 : (x + 1) * wd = x * wd + wd := Nat.succ_mul x wd
      rw [gI_sI_row q16, gI_sA_own]
      unfold va_cpy
      rw [if_pos (by omega), Nat.zero_add, Nat.sub_zero, q13]; exact hc x j hx' hj
    · rw [gI_sI_ne (by decide), gI_sA_row (fun z => q16 z.symm), q11]; exact g0
    · rw [gI_sI_ne (by decide), gI_sA_row (fun z => q16 z.symm), q11]; exact g1
  unfold F_X8_copyFrom
  have e0 : gI σ t' 3 * gI σ t 0 = nI (n * wd) := by rw [c3, g0, pk_mul]
  rw [if_pos k1, if_pos k2, if_pos k3, if_pos k4, r1, bo_some, if_pos ⟨by rw [d1], d2⟩, e0, d1, show Int32.ofNat (100, L0).2 = nI L0 from rfl]
  by_cases c : n * wd ≤ L0
  · rw [if_pos (nI_le c (by omega))]
    obtain ⟨τ, t1, t2, t3, t4, t5, t6, t7, t8, t9⟩ := fin σ b0 L0 k1 k2 k3 k4 r1 r2 d1 d2 d3 d4 rfl rfl rfl c hL0 ne5 ne3 n1 hb0 ab0
    exact ⟨τ, b0, L0, t1, t2, t3, Or.inl ⟨rfl, rfl, t4, t5⟩, by rw [t4]; exact Nat.le_refl _, fun i _ => by rw [t6], fun i _ hp => ⟨t9 i (fun z => hp (Or.inl z)) (fun z => hp (Or.inr z)), by rw [t8], by rw [t7]⟩⟩
  · rw [if_neg (nI_ge (by omega) (by omega)), r2, bo_some, if_pos ⟨by rw [d3], d4⟩, d3, show Int32.ofNat (100, L').2 = nI L' from rfl, nI_clamp (by omega), if_pos (nI_pos (by omega)), if_pos (by omega), lt_e, if_pos at_, if_pos hs, lt_e]
    obtain ⟨s, hs'⟩ : ∃ s, s = sR (aw σ 100 L') t 2 (some (nx σ)) := ⟨_, rfl⟩
    rw [← hs']
    have xs : nx s = nx σ + 1 := by rw [hs']; rfl
    have ks : ∀ i, i < nx σ → kd s i = kd σ i := fun i hi => by rw [hs', kd_sR]; exact kd_aw_old (by omega)
    have kn : kd s (nx σ) = (100, L') := by rw [hs', kd_sR]; exact kd_aw_new
    have is_ : ∀ i, i < nx σ → gI s i = gI σ i := fun i hi => by rw [hs', gI_sR]; exact gI_aw_old (by omega)
    have ls : ∀ i, i < nx σ → gL s i = gL σ i := fun i hi => by rw [hs', gL_sR]; exact gL_aw_old (by omega)
    have rs : ∀ i, i < nx σ → i ≠ t → gR s i = gR σ i := fun i hi h => by rw [hs', gR_sR_row h]; exact gR_aw_old (by omega)
    have rt : gR s t 2 = some (nx σ) := by rw [hs', gR_sR_own, up_same]
    obtain ⟨τ, t1, t2, t3, t4, t5, t6, t7, t8, t9⟩ := fin s (nx σ) L' (by rw [ks t k2]; exact k1) (by omega) (by rw [ks t' k4]; exact k3) (by omega) rt (by rw [rs t' k4 (fun z => ne1 z.symm)]; exact r2) kn (by omega) (by rw [ks b' d4]; exact d3) (by omega) (is_ t k2) (is_ t' k4) (is_ b' d4) l1 l2 (by omega) (by omega) (by omega) (Or.inr hx) (al_cp8 (Or.inr hx))
    refine ⟨τ, nx σ, L', t1, t2, t3, Or.inr ⟨rfl, by omega, by omega, by rw [t5, hs']; rfl, b', rfl, d3⟩, by omega, fun i hi => by rw [t6, ks i hi], fun i hi hp => ⟨?_, by rw [t8, ls i hi], by rw [t7, rs i hi (fun z => hp (Or.inl z))]⟩⟩
    rw [t9 i (fun z => hp (Or.inl z)) (by omega), is_ i hi]
end
