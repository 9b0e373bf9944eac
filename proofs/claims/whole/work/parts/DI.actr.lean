section
/-! ACT in the reference -/
theorem ClsR.cg {g op ar g' op' ar' : Nat → Int32} : ∀ (Cs : List Cls) (cn m m' : Nat), ClsR g op ar Cs cn m m' → (∀ t, t < 9 * (cn + Cs.length) → g' t = g t) → (∀ t, t < m' → op' t = op t ∧ ar' t = ar t) → ClsR g' op' ar' Cs cn m m' := by
  intro Cs
  induction Cs with
  | nil => intro cn m m' h _ _; exact h
  | cons C Cs ih =>
    intro cn m m' h e1 e2
    rw [ClsR_c] at h ⊢
    obtain ⟨m1, h1, h2, h3, h4⟩ := h
    rw [List.length_cons] at e1
    exact ⟨m1, h1, h2, h3.cg (fun t t1 t2 => e1 t (by omega)) (fun t ht => e2 t (by omega)), ih (cn + 1) m1 m' h4 (fun t ht => e1 t (by omega)) e2⟩
def AcR (row row' : Nat → Int32) (x1 x2 : Int32) (Cs : List Cls) : Prop := row' 0 = nI (nA row + 1) ∧ row' (20 + 947 * nA row) = x1 ∧ row' (20 + 947 * nA row + 1) = x2 ∧ row' (20 + 947 * nA row + 2) = nI Cs.length ∧ Cs.length ≤ 16 ∧ (∃ m, m ≤ 400 ∧ ClsR (fun i => row' (20 + 947 * nA row + 3 + i)) (opA row' (nA row)) (arA row' (nA row)) Cs 0 0 m) ∧ ∀ i, i ≠ 0 → (i < 20 + 947 * nA row ∨ 20 + 947 * nA row + 947 ≤ i) → row' i = row i
theorem cp193 {B n g : Nat} (hn : n ≤ 16) (hB : B ≤ 21801) (x : Int32 → Int32 → AH → Option (Int32 × AH)) : ∀ (j i : Nat) (σ : AH), i + j = 9 * n → gI σ 124 13 = nI n → ∃ τ, F_X12_act_193 (j + 1 + g) (nI B) (nI i) σ = F_X12_act_233 BIG (nI B) (0 : Int32) τ ∧ (∀ t, i ≤ t → t < 9 * n → gI τ 125 (B + 3 + t) = gI σ 129 t) ∧ (∀ t, t < B + 3 + i ∨ B + 3 + 9 * n ≤ t → gI τ 125 t = gI σ 125 t) ∧ Ch [125] [] σ τ := by
  intro j
  induction j with
  | zero =>
    intro i σ hi h13
    rw [show 0 + 1 + g = g + 1 by omega]
    refine ⟨σ, ?_, fun t t1 t2 => by omega, fun _ _ => rfl, Ch.rf _⟩
    show B_X12_act_193 (F_X12_act_193 g) (nI B) (nI i) σ = _
    unfold B_X12_act_193
    rw [h13, show (9 : Int32) * nI n = nI (9 * n) from pk_mul _ _, if_pos (nI_le (by omega) (by omega))]
  | succ j ih =>
    intro i σ hi h13
    rw [show j + 1 + 1 + g = (j + 1 + g) + 1 by omega]
    obtain ⟨s1, hs1⟩ : ∃ s1, s1 = sI σ 125 (B + 3 + i) (gI σ 129 i) := ⟨_, rfl⟩
    have k1 : Ch [125] [] σ s1 := by rw [hs1]; exact Ch.sI1 (Or.inr (by simp))
    obtain ⟨τ, t1, t2, t3, t4⟩ := ih (i + 1) s1 (by omega) (by rw [k1.pI (by simp) (by simp)]; exact h13)
    refine ⟨τ, ?_, fun t a1 a2 => ?_, fun t ht => ?_, k1.trans t4⟩
    · show B_X12_act_193 (F_X12_act_193 (j + 1 + g)) (nI B) (nI i) σ = _
      unfold B_X12_act_193
      rw [h13, show (9 : Int32) * nI n = nI (9 * n) from pk_mul _ _, if_neg (nI_ge (by omega) (by omega)), if_pos (inB_n (by omega) (by decide)), show nI B + (3 : Int32) = nI (B + 3) from nI_add _ _, nI_add, if_pos (inB_n (by omega) (by decide)), nI_clamp (by omega), nI_clamp (by omega), nI_1, ← hs1, t1]
    · by_cases z : t = i
      · rw [z, t3 _ (by omega), hs1, gI_sI_at]
      · rw [t2 t (by omega) a2, k1.rI (by simp) (by simp)]
    · rw [t3 t (by omega), hs1, gI_sI_ne (by omega)]
def end233 (σ : AH) : Option (Int32 × AH) := (bd (F_X12_told ((gI (sI σ 125 0 ((gI σ 125 0) + (1 : Int32))) 125 0) - (1 : Int32)) (sI σ 125 0 ((gI σ 125 0) + (1 : Int32)))) fun v75 σ71 => (some (v75, σ71)))
theorem cp233 {B m g : Nat} (hm : m ≤ 400) (hB : B ≤ 21801) : ∀ (j i : Nat) (σ : AH), i + j = m → gI σ 124 15 = nI m → ∃ τ, F_X12_act_233 (j + 1 + g) (nI B) (nI i) σ = end233 τ ∧ (∀ t, i ≤ t → t < m → gI τ 125 (B + 147 + 2 * t) = gI σ 130 t ∧ gI τ 125 (B + 147 + 2 * t + 1) = gI σ 131 t) ∧ (∀ t, t < B + 147 + 2 * i ∨ B + 147 + 2 * m ≤ t → gI τ 125 t = gI σ 125 t) ∧ Ch [125] [] σ τ := by
  intro j
  induction j with
  | zero =>
    intro i σ hi h15
    rw [show 0 + 1 + g = g + 1 by omega]
    refine ⟨σ, ?_, fun t t1 t2 => by omega, fun _ _ => rfl, Ch.rf _⟩
    show B_X12_act_233 (F_X12_act_233 g) (nI B) (nI i) σ = _
    unfold B_X12_act_233 end233
    rw [h15, if_pos (nI_le (by omega) (by omega))]
  | succ j ih =>
    intro i σ hi h15
    rw [show j + 1 + 1 + g = (j + 1 + g) + 1 by omega]
    obtain ⟨s0, hs0⟩ : ∃ s0, s0 = sI σ 125 (B + 147 + 2 * i) (gI σ 130 i) := ⟨_, rfl⟩
    obtain ⟨s1, hs1⟩ : ∃ s1, s1 = sI s0 125 (B + 147 + 2 * i + 1) (gI σ 131 i) := ⟨_, rfl⟩
    have k0 : Ch [125] [] σ s0 := by rw [hs0]; exact Ch.sI1 (Or.inr (by simp))
    have k1 : Ch [125] [] σ s1 := by rw [hs1]; exact k0.trans (Ch.sI1 (Or.inr (by simp)))
    have e131 : gI s0 131 = gI σ 131 := k0.rI (by simp) (by simp)
    obtain ⟨τ, t1, t2, t3, t4⟩ := ih (i + 1) s1 (by omega) (by rw [k1.pI (by simp) (by simp)]; exact h15)
    refine ⟨τ, ?_, fun t a1 a2 => ?_, fun t ht => ?_, k1.trans t4⟩
    · show B_X12_act_233 (F_X12_act_233 (j + 1 + g)) (nI B) (nI i) σ = _
      unfold B_X12_act_233
      have ei : nI B + (147 : Int32) + (2 : Int32) * nI i = nI (B + 147 + 2 * i) := by
        rw [show (147 : Int32) = nI 147 from rfl, show (2 : Int32) = nI 2 from rfl, pk_mul, nI_add, nI_add]
      rw [h15, if_neg (nI_ge (by omega) (by omega)), if_pos (inB_n (by omega) (by decide)), ei, if_pos (inB_n (by omega) (by decide)), if_pos (inB_n (by omega) (by decide)), show nI (B + 147 + 2 * i) + (1 : Int32) = nI (B + 147 + 2 * i + 1) from nI_add _ _, if_pos (inB_n (by omega) (by decide)), lt_e, nI_clamp (by omega), nI_clamp (by omega), nI_clamp (by omega), nI_1, ← hs0, e131, ← hs1, t1]
    · by_cases z : t = i
      · rw [z]
        refine ⟨?_, ?_⟩
        · rw [t3 _ (by omega), hs1, gI_sI_ne (by omega), hs0, gI_sI_at]
        · rw [t3 _ (by omega), hs1, gI_sI_at]
      · have y := t2 t (by omega) a2
        rw [y.1, y.2, k1.rI (by simp) (by simp), k1.rI (by simp) (by simp)]; exact ⟨rfl, rfl⟩
    · rw [t3 t (by omega), hs1, gI_sI_ne (by omega), hs0, gI_sI_ne (by omega)]
def ACf : List (Nat × Nat) := [(124, 0), (124, 1), (124, 6), (124, 7), (124, 8), (124, 9), (124, 10), (124, 11), (124, 12), (124, 13), (124, 15), (124, 18), (124, 21), (124, 22)]
theorem RC_AC {σ τ : AH} (c : Ch RCc RCf σ τ) : Ch (125 :: RCc) ACf σ τ := c.mono (by simp [RCc]) (by simp [RCf, ACf])
/-- the TEXT is read: it is put down, or the fault is told -/
theorem act129_b {L b : Nat} {tp : Nat → Int32} {x1 x2 : Int32} {σ : AH} (h : RgB L tp b σ) : ∃ τ, F_X12_act_129 x1 x2 σ = some (-6, τ) ∧ gI τ 124 6 = 0 ∧ gI τ 124 1 = -6 ∧ gI τ 124 11 = nI b ∧ Ch [] [(124, 1), (124, 6)] σ τ := by
  unfold F_X12_act_129 F_X12_told F_X12_told_10
  have e12 : gI (sI σ 124 6 0) 124 12 = 1 := by rw [gI_sI_ne (by decide)]; exact h.2.1
  rw [e12, if_neg (show ¬ (1 : Int32) = 0 by decide), if_neg (show ¬ (0 : Int32) ≤ -6 by decide), bd_some]
  have k : Ch [] [(124, 1), (124, 6)] σ (sI (sI σ 124 6 0) 124 1 (-6)) := (Ch.sI1 (Or.inl (by simp))).trans (Ch.sI1 (Or.inl (by simp)))
  exact ⟨_, rfl, by rw [gI_sI_ne (by decide), gI_sI_at], gI_sI_at, by rw [k.pI (by simp) (by simp)]; exact h.2.2.1, k⟩
theorem act129_g {L b m np : Nat} {tp : Nat → Int32} {x1 x2 : Int32} {σ : AH} {row : Nat → Int32} {Cs : List Cls} (h : RgQ L tp b m np σ) (hr : gI σ 125 = row) (h0 : row 0 = nI (nA row)) (hA : nA row < 24) (h13 : gI σ 124 13 = nI Cs.length) (h16 : Cs.length ≤ 16) (hC : ClsR (gI σ 129) (gI σ 130) (gI σ 131) Cs 0 0 m) : ∃ τ, F_X12_act_129 x1 x2 σ = some (nI (nA row), τ) ∧ gI τ 124 6 = 0 ∧ gI τ 124 1 = 0 ∧ AcR row (gI τ 125) x1 x2 Cs ∧ gI τ 124 11 = gI σ 124 11 ∧ Ch (125 :: RCc) ACf σ τ := by
  have m4 : m ≤ 400 := by have := h.2.1.2.2.2.2; have := h.1.2.1; have := h.2.2.2.2.2.1; omega
  obtain ⟨s0, hs0⟩ : ∃ s0, s0 = sI σ 124 6 0 := ⟨_, rfl⟩
  have k0 : Ch [] [(124, 6)] σ s0 := by rw [hs0]; exact Ch.sI1 (Or.inl (by simp))
  have r0 : gI s0 125 = row := by rw [k0.rI (by simp) (by simp)]; exact hr
  have e12 : gI s0 124 12 = 0 := by rw [k0.pI (by simp) (by simp)]; exact h.2.2.1
  have e13 : gI s0 124 13 = nI Cs.length := by rw [k0.pI (by simp) (by simp)]; exact h13
  obtain ⟨B, hB⟩ : ∃ B, B = 20 + 947 * nA row := ⟨_, rfl⟩
  obtain ⟨s1, hs1⟩ : ∃ s1, s1 = sI (sI (sI s0 125 B x1) 125 (B + 1) x2) 125 (B + 2) (nI Cs.length) := ⟨_, rfl⟩
  have k1 : Ch [125] [] s0 s1 := by rw [hs1]; exact ((Ch.sI1 (Or.inr (by simp))).trans (Ch.sI1 (Or.inr (by simp)))).trans (Ch.sI1 (Or.inr (by simp)))
  obtain ⟨g, hg⟩ := BIGe (9 * Cs.length) (by omega)
  obtain ⟨g2, hg2⟩ := BIGe m (by omega)
  obtain ⟨s2, a1, a2, a3, a4⟩ := cp193 (B := B) (n := Cs.length) (g := g) h16 (by omega) (fun _ _ _ => none) (9 * Cs.length) 0 s1 (by omega) (by rw [k1.pI (by simp) (by simp)]; exact e13)
  obtain ⟨s3, c1, c2, c3, c4⟩ := cp233 (B := B) (g := g2) m4 (by omega) m 0 s2 (by omega) (by rw [a4.pI (by simp) (by simp), k1.pI (by simp) (by simp), k0.pI (by simp) (by simp)]; exact h.2.2.2.1)
  have e193 : F_X12_act_193 BIG (nI B) (0 : Int32) s1 = end233 s3 := by
    rw [hg]
    have a1' : F_X12_act_193 (9 * Cs.length + 1 + g) (nI B) (0 : Int32) s1 = F_X12_act_233 BIG (nI B) (0 : Int32) s2 := a1
    have c1' : F_X12_act_233 (m + 1 + g2) (nI B) (0 : Int32) s2 = end233 s3 := c1
    rw [a1', hg2, c1']
  have lo3 : ∀ t, t < B + 147 → gI s3 125 t = gI s2 125 t := fun t ht => c3 t (by omega)
  have z0 : gI s3 125 0 = nI (nA row) := by
    rw [lo3 0 (by omega), a3 0 (by omega), hs1, gI_sI_ne (by omega), gI_sI_ne (by omega), gI_sI_ne (by omega), r0]; exact h0
  obtain ⟨s4, hs4⟩ : ∃ s4, s4 = sI (sI s3 125 0 (nI (nA row + 1))) 124 1 0 := ⟨_, rfl⟩
  have k4 : Ch [125] [(124, 1)] s3 s4 := by rw [hs4]; exact (Ch.sI1 (Or.inr (by simp))).trans (Ch.sI1 (Or.inl (by simp)))
  have ee : end233 s3 = some (nI (nA row), s4) := by
    unfold end233 F_X12_told F_X12_told_10
    rw [z0, nI_1, gI_sI_at, show nI (nA row + 1) - (1 : Int32) = nI (nA row) from nI_back, if_pos (show (0 : Int32) ≤ nI (nA row) from nI_le (a := 0) (by omega) (by omega)), bd_some, hs4]
  have q4 : ∀ t, t ≠ 0 → gI s4 125 t = gI s3 125 t := fun t ht => by rw [hs4, gI_sI_row (by decide), gI_sI_ne ht]
  refine ⟨s4, ?_, ?_, by rw [hs4, gI_sI_at], ⟨?_, ?_, ?_, ?_, h16, ⟨m, m4, ClsR.cg Cs 0 0 m hC (fun t ht => ?_) (fun t ht => ?_)⟩, fun i hi ht => ?_⟩, ?_, ?_⟩
  · unfold F_X12_act_129
    have ea : F_X12_actAt (gI s0 125 0) s0 = some (nI B, s0) := by rw [r0, h0, hB]; exact F_actAt
    have eq13 : gI (sI (sI s0 125 B x1) 125 (B + 1) x2) 124 13 = nI Cs.length := by rw [gI_sI_row (by decide), gI_sI_row (by decide)]; exact e13
    rw [← hs0, if_pos e12, ea, bd_some, if_pos (inB_n (by omega) (by decide)), show nI B + (1 : Int32) = nI (B + 1) from nI_add _ _, show nI B + (2 : Int32) = nI (B + 2) from nI_add _ _, if_pos (inB_n (by omega) (by decide)), if_pos (inB_n (by omega) (by decide)), lt_e, nI_clamp (by omega), nI_clamp (by omega), nI_clamp (by omega), eq13, ← hs1, e193, ee]
  · rw [hs4, gI_sI_ne (by decide), gI_sI_row (by decide), c4.pI (by simp) (by simp), a4.pI (by simp) (by simp), k1.pI (by simp) (by simp), hs0, gI_sI_at]
  · rw [hs4, gI_sI_row (by decide), gI_sI_at]
  · rw [← hB, q4 _ (by omega), lo3 _ (by omega), a3 _ (by omega), hs1, gI_sI_ne (by omega), gI_sI_ne (by omega), gI_sI_at]
  · rw [← hB, q4 _ (by omega), lo3 _ (by omega), a3 _ (by omega), hs1, gI_sI_ne (by omega), gI_sI_at]
  · rw [← hB, q4 _ (by omega), lo3 _ (by omega), a3 _ (by omega), hs1, gI_sI_at]
  · rw [Nat.zero_add] at ht
    show gI s4 125 (20 + 947 * nA row + 3 + t) = _
    rw [← hB, q4 _ (by omega), lo3 _ (by omega), a2 t (by omega) ht, k1.rI (by simp) (by simp), k0.rI (by simp) (by simp)]
  · have y := c2 t (by omega) ht
    unfold opA arA
    rw [← hB, q4 _ (by omega), q4 _ (by omega), y.1, y.2, a4.rI (by simp) (by simp), a4.rI (by simp) (by simp), k1.rI (by simp) (by simp), k1.rI (by simp) (by simp), k0.rI (by simp) (by simp), k0.rI (by simp) (by simp)]; exact ⟨rfl, rfl⟩
  · rw [← hB] at ht
    rw [q4 i hi, c3 i (by omega), a3 i (by omega), hs1, gI_sI_ne (by omega), gI_sI_ne (by omega), gI_sI_ne (by omega), r0]
  · rw [hs4, gI_sI_ne (by decide), gI_sI_row (by decide), c4.pI (by simp) (by simp), a4.pI (by simp) (by simp), k1.pI (by simp) (by simp), k0.pI (by simp) (by simp)]
  · exact ((((k0.mono (by simp) (by simp [ACf])).trans (k1.mono (by simp) (by simp))).trans (a4.mono (by simp) (by simp))).trans (c4.mono (by simp) (by simp))).trans (k4.mono (by simp) (by simp [ACf]))
end
