section
theorem cpy0 {f g : Nat → Int32} {n i : Nat} (h : i < n) : va_cpy f g 0 0 n i = f i := by
  unfold va_cpy
  rw [if_pos ⟨by omega, by omega⟩, Nat.sub_zero, Nat.zero_add]
/-- a SITE like another -/
theorem SiI_like {row : Nat → Int32} {k : Int32} {s : Nat → Option Nat} {b c w : Nat} {R : Nat → Nat → Int32} {σ τ : AH} (h : SiI row k s c w R σ) (h37 : gI τ 37 = gI σ 37) (h1 : ∀ i, i < 5 → gI τ (b + 1) i = gI σ (c + 1) i) (h0 : gI τ b 2 = gI σ c 2)
    (h2 : ∀ i, i < (lin (nP row) s (lic row k s) w 0).length → gI τ (b + 2) i = gI σ (c + 2) i) (h3 : ∀ i, i < 18 → gI τ (b + 3) i = gI σ (c + 3) i) (h4 : ∀ i, i < nP row → gI τ (b + 4) i = gI σ (c + 4) i) (h5 : ∀ i, i < nP row → gI τ (b + 5) i = gI σ (c + 5) i) (h6 : ∀ i, i < nP row → gI τ (b + 6) i = gI σ (c + 6) i)
    (h7 : ∀ i, i < 3 * nP row → gI τ (b + 7) i = gI σ (c + 7) i) (h8 : ∀ i, i < 3 * nP row → gI τ (b + 8) i = gI σ (c + 8) i) (h9 : ∀ i, i < 3 * nP row → gI τ (b + 9) i = gI σ (c + 9) i) : SiI row k s b w R τ := by
  obtain ⟨⟨s1, s2, s3, s4, s5, s6⟩, a2, a3, a4, ⟨l1, l2, l3⟩, l4⟩ := h
  refine ⟨⟨?_, ?_, ?_, ?_, ?_, ?_⟩, a2, a3, ?_, ⟨?_, ?_, ?_⟩, ?_⟩
  · intro m hm; rw [h37, h1 m hm]; exact s1 m hm
  · intro m hm; rw [h37]; exact s2 m hm
  · intro m hm; rw [h37, h5 m hm]; exact s3 m hm
  · intro m hm; rw [h37, h6 m hm]; exact s4 m hm
  · intro m hm; rw [h37, h8 m hm]; exact s5 m hm
  · intro m hm; rw [h37, h9 m hm]; exact s6 m hm
  · intro q hq s hs hc; rw [h7 _ (by omega)]; exact a4 q hq s hs hc
  · rw [h0]; exact l1
  · intro i hi; rw [h2 i hi]; exact l2 i hi
  · intro p hp; rw [h4 p hp]; exact l3 p hp
  · rcases l4 with z | z
    · exact Or.inl z
    · exact Or.inr (fun c' kn hc hk => by rw [h3 _ (by omega)]; exact z c' kn hc hk)
def CFc (b : Nat) : List Nat := [b + 1, b + 2, b + 3, b + 4, b + 5, b + 6, b + 7, b + 8, b + 9]
theorem F_copyFrom {row : Nat → Int32} {k : Int32} {s : Nat → Option Nat} {b c w : Nat} {R : Nat → Nat → Int32} {σ : AH} (hN : nP row ≤ 30) (hb : 44 < b ∧ b + 9 < 124) (hbc : c + 9 < b ∨ b + 9 < c) (h : SiI row k s c w R σ) : ∃ τ, F_X7_copyFrom b c (nI (nP row)) σ = some τ ∧ SiI row k s b w R τ ∧ Ch (CFc b) [(b, 2)] σ τ := by
  obtain ⟨L, hL⟩ : ∃ L, L = (lin (nP row) s (lic row k s) w 0).length := ⟨_, rfl⟩
  have lenL : L ≤ 30 := by
    have := lin_len (s := s) (lc := lic row k s) w 0 (Nat.zero_le (nP row))
    rw [← hL] at this
    have l2 := cnt_le (f := stB s (lic row k s) w 0) (nP row)
    omega
  have e2 : gI σ c 2 = nI L := by rw [hL]; exact h.2.2.2.2.1.1
  have m3 : nI (nP row) * (3 : Int32) = nI (3 * nP row) := by simp only [fa_lit, pk_mul]; rw [Nat.mul_comm]
  have nn : (nI (nP row)).toNatClampNeg = nP row := nI_clamp (by omega)
  have n3 : (nI (3 * nP row)).toNatClampNeg = 3 * nP row := nI_clamp (by omega)
  have nl : (nI L).toNatClampNeg = L := nI_clamp (by omega)
  have z1 : ¬ nI (nP row) < 0 := nI_pos (by omega)
  have z3 : ¬ nI (3 * nP row) < 0 := nI_pos (by omega)
  have zl : ¬ nI L < 0 := nI_pos (by omega)
  have b1 : 0 + nP row ≤ 30 := by omega
  have b3 : 0 + 3 * nP row ≤ 90 := by omega
  have bl : 0 + L ≤ 30 := by omega
  have b5 : 0 + 5 ≤ 5 := Nat.le_refl _
  have b18 : 0 + 18 ≤ 18 := Nat.le_refl _
  unfold F_X7_copyFrom
  simp only [m3, nn, n3, z1, z3, b1, b3, b5, b18, lt_e, if_true, not_false_eq_true]
  obtain ⟨τ1, h1⟩ : ∃ τ, τ = sA σ (b + 1) (va_cpy (gI σ (c + 1)) (gI σ (b + 1)) 0 0 5) := ⟨_, rfl⟩
  rw [← h1]
  have c1 : Ch [b + 1] [] σ τ1 := by rw [h1]; exact Ch.sA1 (by simp)
  have r1 : gI τ1 c 2 = nI L := by rw [c1.rI (by simp; omega) (by simp)]; exact e2
  simp only [r1, nl, zl, bl, if_true, not_false_eq_true]
  obtain ⟨τ2, h2⟩ : ∃ τ, τ = sA τ1 (b + 2) (va_cpy (gI τ1 (c + 2)) (gI τ1 (b + 2)) 0 0 L) := ⟨_, rfl⟩
  rw [← h2]
  have c2 : Ch [b + 2] [] τ1 τ2 := by rw [h2]; exact Ch.sA1 (by simp)
  have r2 : gI τ2 c 2 = nI L := by rw [c2.rI (by simp; omega) (by simp)]; exact r1
  simp only [r2]
  obtain ⟨τ3, h3⟩ : ∃ τ, τ = sI τ2 b 2 (nI L) := ⟨_, rfl⟩
  rw [← h3]
  have c3 : Ch [] [(b, 2)] τ2 τ3 := by rw [h3]; exact Ch.sI1 (Or.inl (by simp))
  obtain ⟨τ4, h4⟩ : ∃ τ, τ = sA τ3 (b + 3) (va_cpy (gI τ3 (c + 3)) (gI τ3 (b + 3)) 0 0 18) := ⟨_, rfl⟩
  rw [← h4]
  have c4 : Ch [b + 3] [] τ3 τ4 := by rw [h4]; exact Ch.sA1 (by simp)
  obtain ⟨τ5, h5⟩ : ∃ τ, τ = sA τ4 (b + 4) (va_cpy (gI τ4 (c + 4)) (gI τ4 (b + 4)) 0 0 (nP row)) := ⟨_, rfl⟩
  rw [← h5]
  have c5 : Ch [b + 4] [] τ4 τ5 := by rw [h5]; exact Ch.sA1 (by simp)
  obtain ⟨τ6, h6⟩ : ∃ τ, τ = sA τ5 (b + 5) (va_cpy (gI τ5 (c + 5)) (gI τ5 (b + 5)) 0 0 (nP row)) := ⟨_, rfl⟩
  rw [← h6]
  have c6 : Ch [b + 5] [] τ5 τ6 := by rw [h6]; exact Ch.sA1 (by simp)
  obtain ⟨τ7, h7⟩ : ∃ τ, τ = sA τ6 (b + 6) (va_cpy (gI τ6 (c + 6)) (gI τ6 (b + 6)) 0 0 (nP row)) := ⟨_, rfl⟩
  rw [← h7]
  have c7 : Ch [b + 6] [] τ6 τ7 := by rw [h7]; exact Ch.sA1 (by simp)
  obtain ⟨τ8, h8⟩ : ∃ τ, τ = sA τ7 (b + 7) (va_cpy (gI τ7 (c + 7)) (gI τ7 (b + 7)) 0 0 (3 * nP row)) := ⟨_, rfl⟩
  rw [← h8]
  have c8 : Ch [b + 7] [] τ7 τ8 := by rw [h8]; exact Ch.sA1 (by simp)
  obtain ⟨τ9, h9⟩ : ∃ τ, τ = sA τ8 (b + 8) (va_cpy (gI τ8 (c + 8)) (gI τ8 (b + 8)) 0 0 (3 * nP row)) := ⟨_, rfl⟩
  rw [← h9]
  have c9 : Ch [b + 8] [] τ8 τ9 := by rw [h9]; exact Ch.sA1 (by simp)
  obtain ⟨τX, hX⟩ : ∃ τ, τ = sA τ9 (b + 9) (va_cpy (gI τ9 (c + 9)) (gI τ9 (b + 9)) 0 0 (3 * nP row)) := ⟨_, rfl⟩
  rw [← hX]
  have cX : Ch [b + 9] [] τ9 τX := by rw [hX]; exact Ch.sA1 (by simp)
  -- what is left of each as it goes on
  have d9 : Ch [b + 9] [(b, 2)] τ9 τX := cX.mono (by simp) (by simp)
  have d8 : Ch [b + 8, b + 9] [(b, 2)] τ8 τX := (c9.mono (by simp) (by simp)).trans (d9.mono (by simp) (by simp))
  have d7 : Ch [b + 7, b + 8, b + 9] [(b, 2)] τ7 τX := (c8.mono (by simp) (by simp)).trans (d8.mono (by simp) (by simp))
  have d6 : Ch [b + 6, b + 7, b + 8, b + 9] [(b, 2)] τ6 τX := (c7.mono (by simp) (by simp)).trans (d7.mono (by simp) (by simp))
  have d5 : Ch [b + 5, b + 6, b + 7, b + 8, b + 9] [(b, 2)] τ5 τX := (c6.mono (by simp) (by simp)).trans (d6.mono (by simp) (by simp))
  have d4 : Ch [b + 4, b + 5, b + 6, b + 7, b + 8, b + 9] [(b, 2)] τ4 τX := (c5.mono (by simp) (by simp)).trans (d5.mono (by simp) (by simp))
  have d3' : Ch [b + 3, b + 4, b + 5, b + 6, b + 7, b + 8, b + 9] [] τ3 τX := by
    have x5 := (cX.mono (ds := [b + 3, b + 4, b + 5, b + 6, b + 7, b + 8, b + 9]) (gs := []) (by simp) (by simp))
    exact ((((((c4.mono (by simp) (by simp)).trans (c5.mono (by simp) (by simp))).trans (c6.mono (by simp) (by simp))).trans (c7.mono (by simp) (by simp))).trans (c8.mono (by simp) (by simp))).trans (c9.mono (by simp) (by simp))).trans x5
  have d2 : Ch [b + 3, b + 4, b + 5, b + 6, b + 7, b + 8, b + 9] [(b, 2)] τ2 τX := (c3.mono (by simp) (by simp)).trans (d3'.mono (by simp) (by simp))
  have d1 : Ch [b + 2, b + 3, b + 4, b + 5, b + 6, b + 7, b + 8, b + 9] [(b, 2)] τ1 τX := (c2.mono (by simp) (by simp)).trans (d2.mono (by simp) (by simp))
  have d0 : Ch (CFc b) [(b, 2)] σ τX := (c1.mono (by simp [CFc]) (by simp)).trans (d1.mono (by simp [CFc]) (by simp))
  have p1 : Ch (CFc b) [(b, 2)] σ τ1 := c1.mono (by simp [CFc]) (by simp)
  have p2 : Ch (CFc b) [(b, 2)] σ τ2 := p1.trans (c2.mono (by simp [CFc]) (by simp))
  have p3 : Ch (CFc b) [(b, 2)] σ τ3 := p2.trans (c3.mono (by simp) (by simp))
  have p4 : Ch (CFc b) [(b, 2)] σ τ4 := p3.trans (c4.mono (by simp [CFc]) (by simp))
  have p5 : Ch (CFc b) [(b, 2)] σ τ5 := p4.trans (c5.mono (by simp [CFc]) (by simp))
  have p6 : Ch (CFc b) [(b, 2)] σ τ6 := p5.trans (c6.mono (by simp [CFc]) (by simp))
  have p7 : Ch (CFc b) [(b, 2)] σ τ7 := p6.trans (c7.mono (by simp [CFc]) (by simp))
  have p8 : Ch (CFc b) [(b, 2)] σ τ8 := p7.trans (c8.mono (by simp [CFc]) (by simp))
  have p9 : Ch (CFc b) [(b, 2)] σ τ9 := p8.trans (c9.mono (by simp [CFc]) (by simp))
  have far : ∀ {τ : AH}, Ch (CFc b) [(b, 2)] σ τ → ∀ j, 1 ≤ j → j ≤ 9 → gI τ (c + j) = gI σ (c + j) := fun p j j1 j2 => p.rI (by simp [CFc]; omega) (by simp; omega)
  refine ⟨τX, rfl, SiI_like h ?_ ?_ ?_ ?_ ?_ ?_ ?_ ?_ ?_ ?_ ?_, d0⟩
  · exact d0.rI (by simp [CFc]; omega) (by simp; omega)
  · intro i hi; rw [d1.rI (by simp) (by simp), h1, gI_sA_own, cpy0 hi]
  · rw [d3'.rI (by simp) (by simp), h3, gI_sI_at, e2]
  · intro i hi
    rw [← hL] at hi
    rw [d2.rI (by simp) (by simp), h2, gI_sA_own, cpy0 hi, far p1 2 (by decide) (by decide)]
  · intro i hi; rw [d4.rI (by simp) (by simp), h4, gI_sA_own, cpy0 hi, far p3 3 (by decide) (by decide)]
  · intro i hi; rw [d5.rI (by simp) (by simp), h5, gI_sA_own, cpy0 hi, far p4 4 (by decide) (by decide)]
  · intro i hi; rw [d6.rI (by simp) (by simp), h6, gI_sA_own, cpy0 hi, far p5 5 (by decide) (by decide)]
  · intro i hi; rw [d7.rI (by simp) (by simp), h7, gI_sA_own, cpy0 hi, far p6 6 (by decide) (by decide)]
  · intro i hi; rw [d8.rI (by simp) (by simp), h8, gI_sA_own, cpy0 hi, far p7 7 (by decide) (by decide)]
  · intro i hi; rw [d9.rI (by simp) (by simp), h9, gI_sA_own, cpy0 hi, far p8 8 (by decide) (by decide)]
  · intro i hi; rw [hX, gI_sA_own, cpy0 hi, far p9 9 (by decide) (by decide)]
end
