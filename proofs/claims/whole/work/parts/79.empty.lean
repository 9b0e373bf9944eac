section
/-! an empty SITE, and the stocks that a RUN keeps -/
def STc (b : Nat) : List Nat := [b + 1, b + 3, b + 4, b + 5, b + 6, b + 7, b + 8, b + 9]
theorem F_empty {row : Nat → Int32} {k : Int32} {s : Nat → Option Nat} {b : Nat} {σ : AH} (hB : BV row) (hb : 44 < b ∧ b + 9 < 124) : ∃ τ, F_X7_empty b σ = some τ ∧ SiI row k s b 0 R0 τ ∧ (∀ i, i < 90 → gI τ (b + 7) i = -1) ∧ Ch (STc b) [(b, 2)] σ τ := by
  have p1 := hB.p.2.1
  unfold F_X7_empty
  simp only [lt_e]
  obtain ⟨τ1, h1⟩ : ∃ τ, τ = sA σ (b + 1) (filln (gI σ (b + 1)) 5 0) := ⟨_, rfl⟩
  rw [← h1]
  obtain ⟨τ2, h2⟩ : ∃ τ, τ = sI τ1 b 2 0 := ⟨_, rfl⟩
  rw [← h2]
  obtain ⟨τ3, h3⟩ : ∃ τ, τ = sA τ2 (b + 3) (filln (gI τ2 (b + 3)) 18 0) := ⟨_, rfl⟩
  rw [← h3]
  obtain ⟨τ4, h4⟩ : ∃ τ, τ = sA τ3 (b + 4) (filln (gI τ3 (b + 4)) 30 0) := ⟨_, rfl⟩
  rw [← h4]
  obtain ⟨τ5, h5⟩ : ∃ τ, τ = sA τ4 (b + 5) (filln (gI τ4 (b + 5)) 30 0) := ⟨_, rfl⟩
  rw [← h5]
  obtain ⟨τ6, h6⟩ : ∃ τ, τ = sA τ5 (b + 6) (filln (gI τ5 (b + 6)) 30 (-1)) := ⟨_, rfl⟩
  rw [← h6]
  obtain ⟨τ7, h7⟩ : ∃ τ, τ = sA τ6 (b + 7) (filln (gI τ6 (b + 7)) 90 (-1)) := ⟨_, rfl⟩
  rw [← h7]
  obtain ⟨τ8, h8⟩ : ∃ τ, τ = sA τ7 (b + 8) (filln (gI τ7 (b + 8)) 90 (-1)) := ⟨_, rfl⟩
  rw [← h8]
  obtain ⟨τ9, h9⟩ : ∃ τ, τ = sA τ8 (b + 9) (filln (gI τ8 (b + 9)) 90 (-1)) := ⟨_, rfl⟩
  rw [← h9]
  have c1 : Ch [b + 1] [] σ τ1 := by rw [h1]; exact Ch.sA1 (by simp)
  have c2 : Ch [] [(b, 2)] τ1 τ2 := by rw [h2]; exact Ch.sI1 (Or.inl (by simp))
  have c3 : Ch [b + 3] [] τ2 τ3 := by rw [h3]; exact Ch.sA1 (by simp)
  have c4 : Ch [b + 4] [] τ3 τ4 := by rw [h4]; exact Ch.sA1 (by simp)
  have c5 : Ch [b + 5] [] τ4 τ5 := by rw [h5]; exact Ch.sA1 (by simp)
  have c6 : Ch [b + 6] [] τ5 τ6 := by rw [h6]; exact Ch.sA1 (by simp)
  have c7 : Ch [b + 7] [] τ6 τ7 := by rw [h7]; exact Ch.sA1 (by simp)
  have c8 : Ch [b + 8] [] τ7 τ8 := by rw [h8]; exact Ch.sA1 (by simp)
  have c9 : Ch [b + 9] [] τ8 τ9 := by rw [h9]; exact Ch.sA1 (by simp)
  have m : ∀ {c : Nat} {x y : AH}, Ch [c] [] x y → c ∈ STc b → Ch (STc b) [(b, 2)] x y := fun {c x y} h hc => h.mono (fun i hi => by rw [List.mem_singleton.mp hi]; exact hc) (by simp)
  have cc : Ch (STc b) [(b, 2)] σ τ9 := ((((((((m c1 (by simp [STc])).trans (c2.mono (by simp) (by simp))).trans (m c3 (by simp [STc]))).trans (m c4 (by simp [STc]))).trans (m c5 (by simp [STc]))).trans (m c6 (by simp [STc]))).trans (m c7 (by simp [STc]))).trans (m c8 (by simp [STc]))).trans (m c9 (by simp [STc]))
  have v9 : ∀ i, i < 90 → gI τ9 (b + 9) i = -1 := fun i hi => by rw [h9, gI_sA_own]; exact if_pos hi
  have v8 : ∀ i, i < 90 → gI τ9 (b + 8) i = -1 := fun i hi => by rw [c9.rI (by simp) (by simp), h8, gI_sA_own]; exact if_pos hi
  have v7 : ∀ i, i < 90 → gI τ9 (b + 7) i = -1 := fun i hi => by rw [c9.rI (by simp) (by simp), c8.rI (by simp) (by simp), h7, gI_sA_own]; exact if_pos hi
  have v6 : ∀ i, i < 30 → gI τ9 (b + 6) i = -1 := fun i hi => by rw [c9.rI (by simp) (by simp), c8.rI (by simp) (by simp), c7.rI (by simp) (by simp), h6, gI_sA_own]; exact if_pos hi
  have v5 : ∀ i, i < 30 → gI τ9 (b + 5) i = 0 := fun i hi => by rw [c9.rI (by simp) (by simp), c8.rI (by simp) (by simp), c7.rI (by simp) (by simp), c6.rI (by simp) (by simp), h5, gI_sA_own]; exact if_pos hi
  have v4 : ∀ i, i < 30 → gI τ9 (b + 4) i = 0 := fun i hi => by rw [c9.rI (by simp) (by simp), c8.rI (by simp) (by simp), c7.rI (by simp) (by simp), c6.rI (by simp) (by simp), c5.rI (by simp) (by simp), h4, gI_sA_own]; exact if_pos hi
  have v2 : gI τ9 b 2 = 0 := by rw [c9.rI (by simp) (by simp), c8.rI (by simp) (by simp), c7.rI (by simp) (by simp), c6.rI (by simp) (by simp), c5.rI (by simp) (by simp), c4.rI (by simp) (by simp), c3.rI (by simp) (by simp), h2, gI_sI_at]
  have v1 : ∀ i, i < 5 → gI τ9 (b + 1) i = 0 := fun i hi => by rw [c9.rI (by simp) (by simp), c8.rI (by simp) (by simp), c7.rI (by simp) (by simp), c6.rI (by simp) (by simp), c5.rI (by simp) (by simp), c4.rI (by simp) (by simp), c3.rI (by simp) (by simp), c2.rI (by simp) (by simp), h1, gI_sA_own]; exact if_pos hi
  have st0 : ∀ p, stB s (lic row k s) 0 0 p = false := fun p => by
    unfold stB
    cases s p with
    | none => rfl
    | some a => show (_ && _) = false; rw [decide_eq_false (by omega), Bool.and_false]
  refine ⟨τ9, rfl, ⟨⟨?_, ?_, ?_, ?_, ?_, ?_⟩, ?_, ?_, ?_, ⟨?_, ?_, ?_⟩, Or.inl rfl⟩, v7, cc⟩
  · intro m hm; rw [v1 m hm, up_ne _ _ _ (by decide)]; rfl
  · intro c hc; rw [up_same]
  · intro p hp; rw [v5 p (by omega), up_ne _ _ _ (by decide)]; rfl
  · intro p hp; rw [v6 p (by omega), up_ne _ _ _ (by decide)]; exact (if_pos rfl).symm
  · intro i hi; rw [v8 i (by omega), up_ne _ _ _ (by decide)]; rfl
  · intro i hi; rw [v9 i (by omega), up_ne _ _ _ (by decide)]; rfl
  · intro p hp; exact ⟨isN_nI (j := 0) (by decide) (by decide), Or.inl rfl⟩
  · intro p hp; exact Or.inl rfl
  · intro q hq s hs hc; exact v7 _ (by omega)
  · rw [v2]; rfl
  · intro i hi; exact absurd hi (Nat.not_lt_zero i)
  · intro p hp; rw [v4 p (by omega), st0]; rfl
theorem F_keepStock {a w : Nat} {σ : AH} (hw : w < 260) : ∃ τ, F_X6_keepStock a (nI w) σ = some τ ∧ (∀ m, m < 5 → gI τ (a + 11) (w * 5 + m) = gI σ (a + 1 + 1) m) ∧ (∀ i, (i < w * 5 ∨ w * 5 + 5 ≤ i) → gI τ (a + 11) i = gI σ (a + 11) i) ∧ Ch [a + 11] [] σ τ := by
  unfold F_X6_keepStock
  have i5 : nI w * (5 : Int32) = nI (w * 5) := by simp only [fa_lit, pk_mul]
  have n5 : (nI (w * 5)).toNatClampNeg = w * 5 := nI_clamp (by omega)
  have nn : ¬ nI (w * 5) < 0 := fun q => by
    have h := Int32.lt_iff_toInt_lt.mp q
    rw [nI_toInt (by omega)] at h
    have e0 : (0 : Int32).toInt = 0 := by decide
    omega
  rw [i5, n5, if_pos nn, if_pos (by decide), if_pos (by omega), lt_e]
  refine ⟨_, rfl, fun m hm => ?_, fun i hi => ?_, Ch.sA1 (by simp)⟩
  · rw [gI_sA_own]; unfold va_cpy
    rw [if_pos ⟨by omega, by omega⟩, show 0 + (w * 5 + m - w * 5) = m by omega]
  · rw [gI_sA_own]; unfold va_cpy
    rw [if_neg (by omega)]
end
