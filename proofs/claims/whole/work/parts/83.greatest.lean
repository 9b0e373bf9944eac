section
/-! the greatest of a column that a WEEK knows -/
def gtS (x : Nat → Int32) (k : Int32) : Nat → Int32 := fun d => match d with
  | 0 => 0
  | d + 1 => if k < x d then gtS x k d else if x d ≤ gtS x k d then gtS x k d else x d
theorem gtS_spec {x : Nat → Int32} {k : Int32} (hk : 0 ≤ k) : ∀ n, (0 ≤ gtS x k n ∧ gtS x k n ≤ k) ∧ ∀ d, d < n → ¬ k < x d → x d ≤ gtS x k n := by
  intro n
  induction n with
  | zero => exact ⟨⟨Int32.le_refl _, hk⟩, fun d h => absurd h (Nat.not_lt_zero d)⟩
  | succ n ih =>
    obtain ⟨⟨a1, a2⟩, a3⟩ := ih
    unfold gtS
    by_cases c : k < x n
    · rw [if_pos c]
      refine ⟨⟨a1, a2⟩, fun d hd hn => ?_⟩
      by_cases e : d = n
      · subst e; exact absurd c hn
      · exact a3 d (by omega) hn
    · rw [if_neg c]
      by_cases c2 : x n ≤ gtS x k n
      · rw [if_pos c2]
        refine ⟨⟨a1, a2⟩, fun d hd hn => ?_⟩
        by_cases e : d = n
        · subst e; exact c2
        · exact a3 d (by omega) hn
      · rw [if_neg c2]
        have lt := Int32.not_le.mp c2
        refine ⟨⟨Int32.le_of_lt (Int32.lt_of_le_of_lt a1 lt), Int32.not_lt.mp c⟩, fun d hd hn => ?_⟩
        by_cases e : d = n
        · subst e; exact Int32.le_refl _
        · exact Int32.le_of_lt (Int32.lt_of_le_of_lt (a3 d (by omega) hn) lt)
theorem great_loop {row : Nat → Int32} {σ : AH} {t nb B wd mst c g : Nat} {k : Int32} (h : Tb row σ t nb B wd mst) (hc : c < wd) (hm : mst * wd < 2 ^ 30) (hm1 : mst < 2 ^ 30) : ∀ (j d : Nat), d + j = cl (row nb) →
    F_X8_greatest_5 (j + 1 + g) t (nI c) k (gtS (fun d => row (B + (d * wd + c))) k d) (nI d) σ = some (gtS (fun d => row (B + (d * wd + c))) k (cl (row nb)), σ) := by
  have h' := h
  obtain ⟨⟨a1, a2⟩, ⟨b1, b2', b3, b4⟩, _⟩ := h'
  have bn := b4.2
  have en := b4.1
  intro j
  induction j with
  | zero =>
    intro d hd
    have e : F_X8_greatest_5 (0 + 1 + g) = B_X8_greatest_5 (F_X8_greatest_5 g) := by rw [show 0 + 1 + g = g + 1 by omega]; rfl
    have : d = cl (row nb) := by omega
    subst this
    rw [e]; unfold B_X8_greatest_5
    rw [if_pos a1, if_pos a2, b3, if_pos]
    rw [← en]; exact Int32.le_refl _
  | succ j ih =>
    intro d hd
    have e : F_X8_greatest_5 (j + 1 + 1 + g) = B_X8_greatest_5 (F_X8_greatest_5 (j + 1 + g)) := by rw [show j + 1 + 1 + g = (j + 1 + g) + 1 by omega]; rfl
    have step : gtS (fun d => row (B + (d * wd + c))) k (d + 1) = if k < row (B + (d * wd + c)) then gtS (fun d => row (B + (d * wd + c))) k d else if row (B + (d * wd + c)) ≤ gtS (fun d => row (B + (d * wd + c))) k d then gtS (fun d => row (B + (d * wd + c))) k d else row (B + (d * wd + c)) := rfl
    have nle : ¬ row nb ≤ nI d := by rw [en]; exact nI_ge (by omega) (by omega)
    have nx_ := ih (d + 1) (by omega)
    rw [e]; unfold B_X8_greatest_5 F_X8_greatest_38
    rw [if_pos a1, if_pos a2, b3, if_neg nle, F_at h (by omega) hc hm, bd_some, if_pos a1, if_pos a2, nI_1]
    by_cases c1 : k < row (B + (d * wd + c))
    · rw [if_pos c1]; rw [step, if_pos c1] at nx_; exact nx_
    · rw [if_neg c1]; rw [step, if_neg c1] at nx_
      by_cases c2 : row (B + (d * wd + c)) ≤ gtS (fun d => row (B + (d * wd + c))) k d
      · rw [if_pos c2]; rw [if_pos c2] at nx_; exact nx_
      · rw [if_neg c2]; rw [if_neg c2] at nx_; rw [if_pos a1, if_pos a2]; exact nx_
theorem F_greatest {row : Nat → Int32} {σ : AH} {t nb B wd mst c : Nat} {k : Int32} (h : Tb row σ t nb B wd mst) (hc : c < wd) (hm : mst * wd < 2 ^ 30) (hm1 : mst < 200) : F_X8_greatest t (nI c) k σ = some (gtS (fun d => row (B + (d * wd + c))) k (cl (row nb)), σ) := by
  have bn := h.2.1.2.2.2.2
  obtain ⟨g, hg⟩ := BIGe (cl (row nb)) (by omega)
  unfold F_X8_greatest
  rw [if_pos h.1.1, if_pos h.1.2, hg]
  exact great_loop h hc hm (by omega) _ 0 (by omega)
end
