section
/-! act in the class -/
theorem cpB {σ : AH} {b k w o f : Nat} {K : AH → Option AH} {m : MI} (hb : kd σ b = (100, w)) (hn : b < nx σ) (hk : k ≤ 2000000) (hw : w ≤ 2000000) (hx : 166 ≤ nx σ) (al : alB m o = true) (sh : shOK o f = true) : (bd (F_J7_copyOf_59c91 b (nI k) σ) fun b9 σ5 => if (kd σ5 b9).1 = 100 ∧ b9 < nx σ5 then (if alB m o = true then (if shOK o f = true then (lt (sR σ5 o f (some b9)) K) else none) else none) else none) = K (cpS σ b w k o f) := by
  rw [cpO hb hn hk hw hx, bd_some, if_pos ⟨by rw [kd_sA, kd_aw_new], by rw [nx_sA, nx_aw]; omega⟩, if_pos al, if_pos sh, lt_e]; rfl
def NewA (n k sz : Nat) (x1 x2 : Int32) (σ τ : AH) : Prop := nx τ = n + 5 ∧ sl τ = sl σ + (k + k + k + sz) ∧ (∀ i, i < n → kd τ i = kd σ i ∧ gI τ i = gI σ i ∧ gL τ i = gL σ i ∧ gR τ i = gR σ i) ∧ kd τ n = (0, NO 0) ∧ (gI τ n 0 = x1 ∧ gI τ n 1 = x2 ∧ gI τ n 2 = nI k) ∧ arrC τ n 3 k (n + 1) ∧ arrC τ n 4 k (n + 2) ∧ arrC τ n 5 k (n + 3) ∧ arrC τ n 6 sz (n + 4) ∧ (gI τ (n + 1) = cpF 16 k (gI σ 24) ∧ gI τ (n + 2) = cpF 16 k (gI σ 25) ∧ gI τ (n + 3) = cpF 16 k (gI σ 26) ∧ gI τ (n + 4) = cpF 400 sz (gI σ 27)) ∧ (∀ j h, gR τ n j = some h → n < h ∧ h < n + 5)
theorem F_newAct {σ : AH} {n k sz : Nat} {x1 x2 : Int32} (hn : nx σ = n + 1) (hk : kd σ n = (0, NO 0)) (h166 : 166 ≤ n) (k24 : kd σ 24 = (100, 16)) (k25 : kd σ 25 = (100, 16)) (k26 : kd σ 26 = (100, 16)) (k27 : kd σ 27 = (100, 400)) (e2 : gI σ 22 2 = nI k) (hk16 : k ≤ 16) (e7 : gI σ 22 7 = nI sz) (hsz : sz ≤ 400) (hz : gR σ n = fun _ => none) : ∃ τ, F_X0_init n x1 x2 σ = some τ ∧ NewA n k sz x1 x2 σ τ := by
  have al : alB m_X0_init n = true := al_new rfl h166
  have s3 : ∀ f, shOK n f = true := fun f => shOK_new h166
  obtain ⟨a, ha⟩ : ∃ a, a = sI (sI (sI σ n 0 x1) n 1 x2) n 2 (nI k) := ⟨_, rfl⟩
  have aK : kd a = kd σ := by rw [ha]; rfl
  have aN : nx a = n + 1 := by rw [ha]; exact hn
  have aR : gR a = gR σ := by rw [ha]; rfl
  have aL : gL a = gL σ := by rw [ha]; rfl
  have aI : ∀ i, i ≠ n → gI a i = gI σ i := fun i hi => by rw [ha, gI_sI_row hi, gI_sI_row hi, gI_sI_row hi]
  obtain ⟨c1, h1⟩ : ∃ c, c = cpS a 24 16 k n 3 := ⟨_, rfl⟩
  obtain ⟨c2, h2⟩ : ∃ c, c = cpS c1 25 16 k n 4 := ⟨_, rfl⟩
  obtain ⟨c3, h3⟩ : ∃ c, c = cpS c2 26 16 k n 5 := ⟨_, rfl⟩
  obtain ⟨c4, h4⟩ : ∃ c, c = cpS c3 27 400 sz n 6 := ⟨_, rfl⟩
  have n1 : nx c1 = n + 2 := by rw [h1, cpS_nx, aN]
  have n2 : nx c2 = n + 3 := by rw [h2, cpS_nx, n1]
  have n3 : nx c3 = n + 4 := by rw [h3, cpS_nx, n2]
  have n4 : nx c4 = n + 5 := by rw [h4, cpS_nx, n3]
  have K1 : ∀ i, i ≤ n → kd c1 i = kd σ i := fun i hi => by rw [h1, cpS_kd (by omega), aK]
  have K2 : ∀ i, i ≤ n + 1 → kd c2 i = kd c1 i := fun i hi => by rw [h2, cpS_kd (by omega)]
  have K3 : ∀ i, i ≤ n + 2 → kd c3 i = kd c2 i := fun i hi => by rw [h3, cpS_kd (by omega)]
  have K4 : ∀ i, i ≤ n + 3 → kd c4 i = kd c3 i := fun i hi => by rw [h4, cpS_kd (by omega)]
  have I1 : ∀ i, i ≤ n → gI c1 i = gI a i := fun i hi => by rw [h1, cpS_gI (by omega)]
  have I2 : ∀ i, i ≤ n + 1 → gI c2 i = gI c1 i := fun i hi => by rw [h2, cpS_gI (by omega)]
  have I3 : ∀ i, i ≤ n + 2 → gI c3 i = gI c2 i := fun i hi => by rw [h3, cpS_gI (by omega)]
  have I4 : ∀ i, i ≤ n + 3 → gI c4 i = gI c3 i := fun i hi => by rw [h4, cpS_gI (by omega)]
  have L4 : ∀ i, i ≤ n → gL c4 i = gL σ i := fun i hi => by rw [h4, cpS_gL (by omega), h3, cpS_gL (by omega), h2, cpS_gL (by omega), h1, cpS_gL (by omega), aL]
  have R4 : ∀ i, i < n → gR c4 i = gR σ i := fun i hi => by rw [h4, cpS_gR (by omega) (by omega), h3, cpS_gR (by omega) (by omega), h2, cpS_gR (by omega) (by omega), h1, cpS_gR (by omega) (by omega), aR]
  have RN : ∀ j, gR c4 n j = if j = 6 then some (n + 4) else if j = 5 then some (n + 3) else if j = 4 then some (n + 2) else if j = 3 then some (n + 1) else none := fun j => by
    rw [h4, cpS_go (by omega), n3, h3, cpS_go (by omega), n2, h2, cpS_go (by omega), n1, h1, cpS_go (by omega), aN, aR, hz]
  have g22 : ∀ j, gI a 22 j = gI σ 22 j := fun j => by rw [aI 22 (by omega)]
  have b1 : gI c4 (n + 1) = cpF 16 k (gI σ 24) := by rw [I4 _ (by omega), I3 _ (by omega), I2 _ (by omega), h1, ← aN, cpS_gn, aI 24 (by omega)]
  have b2 : gI c4 (n + 2) = cpF 16 k (gI σ 25) := by rw [I4 _ (by omega), I3 _ (by omega), h2, ← n1, cpS_gn, I1 25 (by omega), aI 25 (by omega)]
  have b3 : gI c4 (n + 3) = cpF 16 k (gI σ 26) := by rw [I4 _ (by omega), h3, ← n2, cpS_gn, I2 26 (by omega), I1 26 (by omega), aI 26 (by omega)]
  have b4 : gI c4 (n + 4) = cpF 400 sz (gI σ 27) := by rw [h4, ← n3, cpS_gn, I3 27 (by omega), I2 27 (by omega), I1 27 (by omega), aI 27 (by omega)]
  refine ⟨c4, ?_, n4, ?_, fun i hi => ⟨?_, ?_, L4 i (by omega), R4 i hi⟩, ?_, ⟨?_, ?_, ?_⟩, ⟨?_, ?_, by omega, by omega⟩, ⟨?_, ?_, by omega, by omega⟩, ⟨?_, ?_, by omega, by omega⟩, ⟨?_, ?_, by omega, by omega⟩, ⟨b1, b2, b3, b4⟩, fun j h e => ?_⟩
  · unfold F_X0_init
    rw [if_pos hk, if_pos (by omega), if_pos al, if_pos al, if_pos al]
    have q : gI (sI (sI σ n 0 x1) n 1 x2) 22 2 = nI k := by rw [gI_sI_row (by omega), gI_sI_row (by omega), e2]
    rw [q, ← ha, g22, e2, cpB (w := 16) (by rw [aK]; exact k24) (by omega) (by omega) (by decide) (by omega) al (s3 3), ← h1]
    rw [I1 22 (by omega), g22, e2, cpB (w := 16) (by rw [K1 _ (by omega)]; exact k25) (by omega) (by omega) (by decide) (by omega) al (s3 4), ← h2]
    rw [I2 22 (by omega), I1 22 (by omega), g22, e2, cpB (w := 16) (by rw [K2 _ (by omega), K1 _ (by omega)]; exact k26) (by omega) (by omega) (by decide) (by omega) al (s3 5), ← h3]
    rw [I3 22 (by omega), I2 22 (by omega), I1 22 (by omega), g22, e7, cpB (w := 400) (by rw [K3 _ (by omega), K2 _ (by omega), K1 _ (by omega)]; exact k27) (by omega) (by omega) (by decide) (by omega) al (s3 6), ← h4]
  · rw [h4, cpS_sl, h3, cpS_sl, h2, cpS_sl, h1, cpS_sl, ha]
    show sl σ + k + k + k + sz = _
    omega
  · rw [K4 i (by omega), K3 i (by omega), K2 i (by omega), K1 i (by omega)]
  · rw [I4 i (by omega), I3 i (by omega), I2 i (by omega), I1 i (by omega), aI i (by omega)]
  · rw [K4 n (by omega), K3 n (by omega), K2 n (by omega), K1 n (by omega), hk]
  · rw [I4 n (by omega), I3 n (by omega), I2 n (by omega), I1 n (by omega), ha, gI_sI_ne (by decide), gI_sI_ne (by decide), gI_sI_at]
  · rw [I4 n (by omega), I3 n (by omega), I2 n (by omega), I1 n (by omega), ha, gI_sI_ne (by decide), gI_sI_at]
  · rw [I4 n (by omega), I3 n (by omega), I2 n (by omega), I1 n (by omega), ha, gI_sI_at]
  · rw [RN]; rfl
  · rw [K4 _ (by omega), K3 _ (by omega), K2 _ (by omega), h1, ← aN, cpS_kn]
  · rw [RN]; rfl
  · rw [K4 _ (by omega), K3 _ (by omega), h2, ← n1, cpS_kn]
  · rw [RN]; rfl
  · rw [K4 _ (by omega), h3, ← n2, cpS_kn]
  · rw [RN]; rfl
  · rw [h4, ← n3, cpS_kn]
  · rw [RN] at e
    by_cases z6 : j = 6
    · rw [if_pos z6] at e; cases e; omega
    · rw [if_neg z6] at e
      by_cases z5 : j = 5
      · rw [if_pos z5] at e; cases e; omega
      · rw [if_neg z5] at e
        by_cases z4 : j = 4
        · rw [if_pos z4] at e; cases e; omega
        · rw [if_neg z4] at e
          by_cases z3 : j = 3
          · rw [if_pos z3] at e; cases e; omega
          · rw [if_neg z3] at e; cases e
theorem shOK_2 {k : Nat} : shOK 2 k = true := List.all_eq_true.mpr fun q hq => by
  have h : q.1 ≠ 2 := (by decide +kernel : ∀ q ∈ shRL, q.1 ≠ 2) q hq
  have h2 : (q.1 == 2) = false := by simp [h]
  simp [h2]
theorem shOK_21 {k : Nat} : shOK 21 k = true := List.all_eq_true.mpr fun q hq => by
  have h : q.1 ≠ 21 := (by decide +kernel : ∀ q ∈ shRL, q.1 ≠ 21) q hq
  have h2 : (q.1 == 21) = false := by simp [h]
  simp [h2]
/-- wide frame: all cells that were there are as they were, but those of P -/
def Gf (P : Nat → Prop) (σ τ : AH) : Prop := nx σ ≤ nx τ ∧ (∀ i, i < nx σ → kd τ i = kd σ i) ∧ ∀ i, i < nx σ → ¬ P i → gI τ i = gI σ i ∧ gL τ i = gL σ i ∧ gR τ i = gR σ i
theorem Gf.rf {P : Nat → Prop} {σ : AH} : Gf P σ σ := ⟨Nat.le_refl _, fun _ _ => rfl, fun _ _ _ => ⟨rfl, rfl, rfl⟩⟩
theorem Gf.trans {P : Nat → Prop} {a b c : AH} (h : Gf P a b) (g : Gf P b c) : Gf P a c := ⟨Nat.le_trans h.1 g.1, fun i hi => (g.2.1 i (Nat.lt_of_lt_of_le hi h.1)).trans (h.2.1 i hi), fun i hi hp => by
  have q := g.2.2 i (Nat.lt_of_lt_of_le hi h.1) hp
  have r := h.2.2 i hi hp
  exact ⟨q.1.trans r.1, q.2.1.trans r.2.1, q.2.2.trans r.2.2⟩⟩
theorem Gf.mono {P Q : Nat → Prop} {a b : AH} (h : Gf P a b) (hq : ∀ i, P i → Q i) : Gf Q a b := ⟨h.1, h.2.1, fun i hi hp => h.2.2 i hi (fun z => hp (hq i z))⟩
theorem Ch.gf {cs : List Nat} {fs : List (Nat × Nat)} {σ τ : AH} (h : Ch cs fs σ τ) : Gf (fun i => i ∈ cs ∨ ∃ k, (i, k) ∈ fs) σ τ := ⟨Nat.le_of_eq h.2.1.symm, fun i _ => by rw [h.1], fun i _ hp => ⟨funext fun k => (h.2.2.2.2 i (fun z => hp (Or.inl z)) k (fun z => hp (Or.inr ⟨k, z⟩))).1, funext fun k => (h.2.2.2.2 i (fun z => hp (Or.inl z)) k (fun z => hp (Or.inr ⟨k, z⟩))).2, by rw [h.2.2.2.1]⟩⟩
theorem ChX.gf {t : Nat} {cs : List Nat} {fs : List (Nat × Nat)} {σ τ : AH} (h : ChX t cs fs σ τ) : Gf (fun i => i = t ∨ i ∈ cs ∨ ∃ k, (i, k) ∈ fs) σ τ := ⟨h.1, h.2.1, fun i hi hp => ⟨funext fun k => (h.2.2.2.2.1 i hi (fun z => hp (Or.inr (Or.inl z))) k (fun z => hp (Or.inr (Or.inr ⟨k, z⟩)))).1, funext fun k => (h.2.2.2.2.1 i hi (fun z => hp (Or.inr (Or.inl z))) k (fun z => hp (Or.inr (Or.inr ⟨k, z⟩)))).2, funext fun k => h.2.2.1 i k hi (fun z => hp (Or.inl z.1))⟩⟩
end
