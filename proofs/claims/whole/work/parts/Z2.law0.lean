section
/-! THE LAW, FROM THE EMPTY HEAP -/
theorem nx_mid : nx Zmid = 124 := by decide +kernel
theorem law0 {X : Sx} {l : Launch} (hL : X.1 ≤ 4608) : ∃ σf, nx σf ≤ 600000 ∧ sl σf ≤ 7302250 ∧ E X l m_LW 100 0 [(0, .ref 1000000)] [] E0 (some (.int 1)) σf := by
  obtain ⟨σf, r1, r2, e⟩ := law_loop (l := l) hL 512 0 Zend rfl inv0
  have z : nI (9 * 0) = (0 : Int32) := rfl
  rw [z] at e
  refine ⟨σf, r1, r2, w_L_law_0 ?_⟩
  unfold W_L_law_0
  intro τ1 h1
  refine ⟨3, Zmid, by decide, by rw [h1]; exact f_X11_init ini_a, ?_⟩
  intro τ13 h13
  refine ⟨1, Zend, by decide, by rw [h13]; exact f_X12_init ini_b, ?_⟩
  rw [nx_mid]
  exact e
end
