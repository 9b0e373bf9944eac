section
/-! a RUN that is kept stays while others go on -/
theorem SiI.keep {row : Nat → Int32} {k : Int32} {s : Nat → Option Nat} {b w : Nat} {R : Nat → Nat → Int32} {σ τ : AH} {cs : List Nat} {fs : List (Nat × Nat)} (h : SiI row k s b w R σ) (c : Ch cs fs σ τ) (h1 : ∀ i ∈ cs, i < b ∨ b + 9 < i) (h2 : ∀ q ∈ fs, q.1 < b ∨ b + 9 < q.1) : SiI row k s b w R τ := by
  obtain ⟨a1, a2, a3, a4, a5⟩ := h
  have no : ∀ i, b ≤ i → i ≤ b + 9 → gI τ i = gI σ i := fun i l1 l2 => c.rI (fun q => by have := h1 i q; omega) (fun q hq e => by have := h2 q hq; omega)
  refine ⟨?_, a2, a3, ?_, ?_⟩
  · refine StR_of a1 (fun m hm => ?_) (fun c hc => ?_) (fun c hc => no _ (by omega) (by omega)) (fun c h1 h2 => ?_)
    · rw [no _ (by omega) (by omega), a1.1 m hm, up_ne _ _ _ (by decide), up_ne _ _ _ (by decide)]
    · rw [up_same]
    · rw [up_ne _ _ _ (by omega), up_ne _ _ _ (by omega)]
  · exact a4.of (fun q hq => Nat.le_refl _) (fun q hq s hs hc => by rw [no _ (by omega) (by omega)])
  · exact a5.ch c ⟨fun q => by have := h1 _ q; omega, fun q => by have := h1 _ q; omega, fun q => by have := h1 _ q; omega, fun q => by have := h1 _ q; omega⟩ (fun q hq => by have := h2 q hq; omega)
theorem RnI.keep {row : Nat → Int32} {k : Int32} {l : Nat} {s : Nat → Option Nat} {a n : Nat} {σ τ : AH} {cs : List Nat} {fs : List (Nat × Nat)} (h : RnI row k l s a n σ) (c : Ch cs fs σ τ) (h1 : ∀ i ∈ cs, i ≤ a ∨ a + 11 < i) (h2 : ∀ q ∈ fs, q.1 ≤ a ∨ a + 11 < q.1) : RnI row k l s a n τ := by
  obtain ⟨a1, a2, a3, a4⟩ := h
  have no : ∀ i, a < i → i ≤ a + 11 → gI τ i = gI σ i := fun i l1 l2 => c.rI (fun q => by have := h1 i q; omega) (fun q hq e => by have := h2 q hq; omega)
  have e7 : gI τ (a + 1 + 7) = gI σ (a + 1 + 7) := no _ (by omega) (by omega)
  refine ⟨a1.keep c (fun i hi => by have := h1 i hi; omega) (fun q hq => by have := h2 q hq; omega), ?_, ?_, ?_⟩
  · rw [no _ (by omega) (by omega)]; exact a2
  · rw [e7]; exact a3
  · rw [e7]; exact a4
theorem RcI.keep {row : Nat → Int32} {a : Nat} {σ τ : AH} {cs : List Nat} {fs : List (Nat × Nat)} (h : RcI row a σ) (c : Ch cs fs σ τ) (h1 : ∀ i ∈ cs, i ≠ 0 ∧ (i < a ∨ a + 11 < i)) (h2 : ∀ q ∈ fs, q.1 ≠ 0 ∧ (q.1 < a ∨ a + 11 < q.1)) : RcI row a τ := by
  have ea : gI τ a = gI σ a := c.rI (fun q => by have := h1 _ q; omega) (fun q hq e => by have := h2 q hq; omega)
  have e0 : gI τ 0 = gI σ 0 := c.rI (fun q => (h1 _ q).1 rfl) (fun q hq => (h2 q hq).1)
  refine ⟨by rw [ea, e0]; exact h.1, fun z l' hl' e => ?_⟩
  rw [ea, e0] at z
  rw [ea] at e ⊢
  exact (h.2 z l' hl' e).keep c (fun i hi => by have := h1 i hi; omega) (fun q hq => by have := h2 q hq; omega)
end
