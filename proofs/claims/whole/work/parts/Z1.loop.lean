section
/-! THE LAW'S LOOP -/
def InS (X : Sx) (x : Int32) : Prop := vp_in (x + (1 : Int32)) X.1 ∧ vp_in (x + (2 : Int32)) X.1 ∧ vp_in (x + (3 : Int32)) X.1 ∧ vp_in (x + (4 : Int32)) X.1 ∧ vp_in (x + (5 : Int32)) X.1 ∧ vp_in (x + (6 : Int32)) X.1 ∧ vp_in (x + (7 : Int32)) X.1 ∧ vp_in (x + (8 : Int32)) X.1
theorem O_224 {m : Nat} {X : Sx} {l : Launch} {x3 : Int32} {σ : AH} (h : Inv m σ) (hx : InS X x3) : ∃ τ', Inv (m + 1) τ' ∧ ∀ r σ', W_L_law_2038 X l 100 x3 τ' r σ' → W_L_law_224 X l 100 x3 σ r σ' := by
  obtain ⟨v, τ, τ', f, g, inv⟩ := S_feed (x1 := X.2 (x3 + (1 : Int32)).toNatClampNeg) (x2 := X.2 (x3 + (2 : Int32)).toNatClampNeg) (x3 := X.2 (x3 + (3 : Int32)).toNatClampNeg) (x4 := X.2 (x3 + (4 : Int32)).toNatClampNeg) (x5 := X.2 (x3 + (5 : Int32)).toNatClampNeg) h
  refine ⟨τ', inv, fun r σ' k => ?_⟩
  have c1 := f_X11_feed (X := X) (l := l) h.1 f
  have s1 : Sh τ := c1.1.2.2.2.1 h.1
  have c2 := f_X12_feed (X := X) (l := l) s1 g
  unfold W_L_law_224
  exact ⟨hx.1, hx.2.1, hx.2.2.1, hx.2.2.2.1, hx.2.2.2.2.1, _, _, _, by decide, c1, hx.1, hx.2.1, hx.2.2.1, hx.2.2.2.1, hx.2.2.2.2.1, _, _, _, by decide, c2, by rw [if_pos rfl]; exact k⟩
theorem O_287 {m : Nat} {X : Sx} {l : Launch} {x3 : Int32} {σ : AH} (h : Inv m σ) (hx : InS X x3) : ∃ τ', Inv (m + 1) τ' ∧ ∀ r σ', W_L_law_2038 X l 100 x3 τ' r σ' → W_L_law_287 X l 100 x3 σ r σ' := by
  obtain ⟨v, τ, τ', f, g, inv⟩ := S_end (x1 := X.2 (x3 + (1 : Int32)).toNatClampNeg) h
  refine ⟨τ', inv, fun r σ' k => ?_⟩
  have c1 := f_X11_end (X := X) (l := l) h.1 f
  have s1 : Sh τ := c1.1.2.2.2.1 h.1
  have c2 := f_X12_end (X := X) (l := l) s1 g
  unfold W_L_law_287
  exact ⟨hx.1, _, _, _, by decide, c1, hx.1, _, _, _, by decide, c2, by rw [if_pos rfl]; exact k⟩
theorem O_310 {m : Nat} {X : Sx} {l : Launch} {x3 : Int32} {σ : AH} (hm : m < 1000) (h : Inv m σ) (hx : InS X x3) : ∃ τ', Inv (m + 1) τ' ∧ ∀ r σ', W_L_law_2038 X l 100 x3 τ' r σ' → W_L_law_310 X l 100 x3 σ r σ' := by
  obtain ⟨v, τ, τ', f, g, inv⟩ := S_act (x1 := X.2 (x3 + (1 : Int32)).toNatClampNeg) (x2 := X.2 (x3 + (2 : Int32)).toNatClampNeg) hm h
  refine ⟨τ', inv, fun r σ' k => ?_⟩
  have c1 := f_X11_act (X := X) (l := l) h.1 f
  have s1 : Sh τ := c1.1.2.2.2.1 h.1
  have c2 := f_X12_act (X := X) (l := l) s1 g
  unfold W_L_law_310
  exact ⟨hx.1, hx.2.1, _, _, _, by decide, c1, hx.1, hx.2.1, _, _, _, by decide, c2, by rw [if_pos rfl]; exact k⟩
theorem O_343 {m : Nat} {X : Sx} {l : Launch} {x3 : Int32} {σ : AH} (h : Inv m σ) (hx : InS X x3) : ∃ τ', Inv (m + 1) τ' ∧ ∀ r σ', W_L_law_2038 X l 100 x3 τ' r σ' → W_L_law_343 X l 100 x3 σ r σ' := by
  obtain ⟨v, τ, τ', f, g, inv⟩ := S_fault  h
  refine ⟨τ', inv, fun r σ' k => ?_⟩
  have c1 := f_X11_fault (X := X) (l := l) h.1 f
  have s1 : Sh τ := c1.1.2.2.2.1 h.1
  have c2 := f_X12_fault (X := X) (l := l) s1 g
  unfold W_L_law_343
  exact ⟨_, _, _, by decide, c1, _, _, _, by decide, c2, by rw [if_pos rfl]; exact k⟩
theorem O_356 {m : Nat} {X : Sx} {l : Launch} {x3 : Int32} {σ : AH} (h : Inv m σ) (hx : InS X x3) : ∃ τ', Inv (m + 1) τ' ∧ ∀ r σ', W_L_law_2038 X l 100 x3 τ' r σ' → W_L_law_356 X l 100 x3 σ r σ' := by
  obtain ⟨v, τ, τ', f, g, inv⟩ := S_force (x1 := X.2 (x3 + (1 : Int32)).toNatClampNeg) (x2 := X.2 (x3 + (2 : Int32)).toNatClampNeg) (x3 := X.2 (x3 + (3 : Int32)).toNatClampNeg) (x4 := X.2 (x3 + (4 : Int32)).toNatClampNeg) h
  refine ⟨τ', inv, fun r σ' k => ?_⟩
  have c1 := f_X11_force (X := X) (l := l) h.1 f
  have s1 : Sh τ := c1.1.2.2.2.1 h.1
  have c2 := f_X12_force (X := X) (l := l) s1 g
  unfold W_L_law_356
  exact ⟨hx.1, hx.2.1, hx.2.2.1, hx.2.2.2.1, _, _, _, by decide, c1, hx.1, hx.2.1, hx.2.2.1, hx.2.2.2.1, _, _, _, by decide, c2, by rw [if_pos rfl]; exact k⟩
theorem O_409 {m : Nat} {X : Sx} {l : Launch} {x3 : Int32} {σ : AH} (h : Inv m σ) (hx : InS X x3) : ∃ τ', Inv (m + 1) τ' ∧ ∀ r σ', W_L_law_2038 X l 100 x3 τ' r σ' → W_L_law_409 X l 100 x3 σ r σ' := by
  obtain ⟨v, τ, τ', f, g, inv⟩ := S_counts (x1 := X.2 (x3 + (1 : Int32)).toNatClampNeg) (x2 := X.2 (x3 + (2 : Int32)).toNatClampNeg) (x3 := X.2 (x3 + (3 : Int32)).toNatClampNeg) h
  refine ⟨τ', inv, fun r σ' k => ?_⟩
  have c1 := f_X11_counts (X := X) (l := l) h.1 f
  have s1 : Sh τ := c1.1.2.2.2.1 h.1
  have c2 := f_X12_counts (X := X) (l := l) s1 g
  unfold W_L_law_409
  exact ⟨hx.1, hx.2.1, hx.2.2.1, _, _, _, by decide, c1, hx.1, hx.2.1, hx.2.2.1, _, _, _, by decide, c2, by rw [if_pos rfl]; exact k⟩
theorem O_452 {m : Nat} {X : Sx} {l : Launch} {x3 : Int32} {σ : AH} (h : Inv m σ) (hx : InS X x3) : ∃ τ', Inv (m + 1) τ' ∧ ∀ r σ', W_L_law_2038 X l 100 x3 τ' r σ' → W_L_law_452 X l 100 x3 σ r σ' := by
  obtain ⟨v, τ, τ', f, g, inv⟩ := S_need (x1 := X.2 (x3 + (1 : Int32)).toNatClampNeg) (x2 := X.2 (x3 + (2 : Int32)).toNatClampNeg) (x3 := X.2 (x3 + (3 : Int32)).toNatClampNeg) (x4 := X.2 (x3 + (4 : Int32)).toNatClampNeg) (x5 := X.2 (x3 + (5 : Int32)).toNatClampNeg) (x6 := X.2 (x3 + (6 : Int32)).toNatClampNeg) h
  refine ⟨τ', inv, fun r σ' k => ?_⟩
  have c1 := f_X11_need (X := X) (l := l) h.1 f
  have s1 : Sh τ := c1.1.2.2.2.1 h.1
  have c2 := f_X12_need (X := X) (l := l) s1 g
  unfold W_L_law_452
  exact ⟨hx.1, hx.2.1, hx.2.2.1, hx.2.2.2.1, hx.2.2.2.2.1, hx.2.2.2.2.2.1, _, _, _, by decide, c1, hx.1, hx.2.1, hx.2.2.1, hx.2.2.2.1, hx.2.2.2.2.1, hx.2.2.2.2.2.1, _, _, _, by decide, c2, by rw [if_pos rfl]; exact k⟩
theorem O_527 {m : Nat} {X : Sx} {l : Launch} {x3 : Int32} {σ : AH} (hm : m < 1000) (h : Inv m σ) (hx : InS X x3) : ∃ τ', Inv (m + 1) τ' ∧ ∀ r σ', W_L_law_2038 X l 100 x3 τ' r σ' → W_L_law_527 X l 100 x3 σ r σ' := by
  obtain ⟨v, τ, τ', f, g, inv⟩ := S_deliver (x1 := X.2 (x3 + (1 : Int32)).toNatClampNeg) (x2 := X.2 (x3 + (2 : Int32)).toNatClampNeg) (x3 := X.2 (x3 + (3 : Int32)).toNatClampNeg) (x4 := X.2 (x3 + (4 : Int32)).toNatClampNeg) hm h
  refine ⟨τ', inv, fun r σ' k => ?_⟩
  have c1 := f_X11_deliver (X := X) (l := l) h.1 f
  have s1 : Sh τ := c1.1.2.2.2.1 h.1
  have c2 := f_X12_deliver (X := X) (l := l) s1 g
  unfold W_L_law_527
  exact ⟨hx.1, hx.2.1, hx.2.2.1, hx.2.2.2.1, _, _, _, by decide, c1, hx.1, hx.2.1, hx.2.2.1, hx.2.2.2.1, _, _, _, by decide, c2, by rw [if_pos rfl]; exact k⟩
theorem O_580 {m : Nat} {X : Sx} {l : Launch} {x3 : Int32} {σ : AH} (hm : m < 1000) (h : Inv m σ) (hx : InS X x3) : ∃ τ', Inv (m + 1) τ' ∧ ∀ r σ', W_L_law_2038 X l 100 x3 τ' r σ' → W_L_law_580 X l 100 x3 σ r σ' := by
  obtain ⟨v, τ, τ', f, g, inv⟩ := S_works (x1 := X.2 (x3 + (1 : Int32)).toNatClampNeg) (x2 := X.2 (x3 + (2 : Int32)).toNatClampNeg) (x3 := X.2 (x3 + (3 : Int32)).toNatClampNeg) (x4 := X.2 (x3 + (4 : Int32)).toNatClampNeg) (x5 := X.2 (x3 + (5 : Int32)).toNatClampNeg) (x6 := X.2 (x3 + (6 : Int32)).toNatClampNeg) (x7 := X.2 (x3 + (7 : Int32)).toNatClampNeg) (x8 := X.2 (x3 + (8 : Int32)).toNatClampNeg) hm h
  refine ⟨τ', inv, fun r σ' k => ?_⟩
  have c1 := f_X11_works (X := X) (l := l) h.1 f
  have s1 : Sh τ := c1.1.2.2.2.1 h.1
  have c2 := f_X12_works (X := X) (l := l) s1 g
  unfold W_L_law_580
  exact ⟨hx.1, hx.2.1, hx.2.2.1, hx.2.2.2.1, hx.2.2.2.2.1, hx.2.2.2.2.2.1, hx.2.2.2.2.2.2.1, hx.2.2.2.2.2.2.2, _, _, _, by decide, c1, hx.1, hx.2.1, hx.2.2.1, hx.2.2.2.1, hx.2.2.2.2.1, hx.2.2.2.2.2.1, hx.2.2.2.2.2.2.1, hx.2.2.2.2.2.2.2, _, _, _, by decide, c2, by rw [if_pos rfl]; exact k⟩
theorem O_679 {m : Nat} {X : Sx} {l : Launch} {x3 : Int32} {σ : AH} (hm : m < 1000) (h : Inv m σ) (hx : InS X x3) : ∃ τ', Inv (m + 1) τ' ∧ ∀ r σ', W_L_law_2038 X l 100 x3 τ' r σ' → W_L_law_679 X l 100 x3 σ r σ' := by
  obtain ⟨v, τ, τ', f, g, inv⟩ := S_gangs (x1 := X.2 (x3 + (1 : Int32)).toNatClampNeg) (x2 := X.2 (x3 + (2 : Int32)).toNatClampNeg) (x3 := X.2 (x3 + (3 : Int32)).toNatClampNeg) (x4 := X.2 (x3 + (4 : Int32)).toNatClampNeg) hm h
  refine ⟨τ', inv, fun r σ' k => ?_⟩
  have c1 := f_X11_gangs (X := X) (l := l) h.1 f
  have s1 : Sh τ := c1.1.2.2.2.1 h.1
  have c2 := f_X12_gangs (X := X) (l := l) s1 g
  unfold W_L_law_679
  exact ⟨hx.1, hx.2.1, hx.2.2.1, hx.2.2.2.1, _, _, _, by decide, c1, hx.1, hx.2.1, hx.2.2.1, hx.2.2.2.1, _, _, _, by decide, c2, by rw [if_pos rfl]; exact k⟩
theorem O_732 {m : Nat} {X : Sx} {l : Launch} {x3 : Int32} {σ : AH} (hm : m < 1000) (h : Inv m σ) (hx : InS X x3) : ∃ τ', Inv (m + 1) τ' ∧ ∀ r σ', W_L_law_2038 X l 100 x3 τ' r σ' → W_L_law_732 X l 100 x3 σ r σ' := by
  obtain ⟨v, τ, τ', f, g, inv⟩ := S_plot (x1 := X.2 (x3 + (1 : Int32)).toNatClampNeg) (x2 := X.2 (x3 + (2 : Int32)).toNatClampNeg) (x3 := X.2 (x3 + (3 : Int32)).toNatClampNeg) (x4 := X.2 (x3 + (4 : Int32)).toNatClampNeg) hm h
  refine ⟨τ', inv, fun r σ' k => ?_⟩
  have c1 := f_X11_plot (X := X) (l := l) h.1 f
  have s1 : Sh τ := c1.1.2.2.2.1 h.1
  have c2 := f_X12_plot (X := X) (l := l) s1 g
  unfold W_L_law_732
  exact ⟨hx.1, hx.2.1, hx.2.2.1, hx.2.2.2.1, _, _, _, by decide, c1, hx.1, hx.2.1, hx.2.2.1, hx.2.2.2.1, _, _, _, by decide, c2, by rw [if_pos rfl]; exact k⟩
theorem O_785 {m : Nat} {X : Sx} {l : Launch} {x3 : Int32} {σ : AH} (hm : m < 1000) (h : Inv m σ) (hx : InS X x3) : ∃ τ', Inv (m + 1) τ' ∧ ∀ r σ', W_L_law_2038 X l 100 x3 τ' r σ' → W_L_law_785 X l 100 x3 σ r σ' := by
  obtain ⟨v, τ, τ', f, g, inv⟩ := S_start (x1 := X.2 (x3 + (1 : Int32)).toNatClampNeg) (x2 := X.2 (x3 + (2 : Int32)).toNatClampNeg) (x3 := X.2 (x3 + (3 : Int32)).toNatClampNeg) hm h
  refine ⟨τ', inv, fun r σ' k => ?_⟩
  have c1 := f_X11_start (X := X) (l := l) h.1 f
  have s1 : Sh τ := c1.1.2.2.2.1 h.1
  have c2 := f_X12_start (X := X) (l := l) s1 g
  unfold W_L_law_785
  exact ⟨hx.1, hx.2.1, hx.2.2.1, _, _, _, by decide, c1, hx.1, hx.2.1, hx.2.2.1, _, _, _, by decide, c2, by rw [if_pos rfl]; exact k⟩
theorem O_828 {m : Nat} {X : Sx} {l : Launch} {x3 : Int32} {σ : AH} (h : Inv m σ) (hx : InS X x3) : ∃ τ', Inv (m + 1) τ' ∧ ∀ r σ', W_L_law_2038 X l 100 x3 τ' r σ' → W_L_law_828 X l 100 x3 σ r σ' := by
  obtain ⟨v, τ, τ', f, g, inv⟩ := S_stock (x1 := X.2 (x3 + (1 : Int32)).toNatClampNeg) (x2 := X.2 (x3 + (2 : Int32)).toNatClampNeg) (x3 := X.2 (x3 + (3 : Int32)).toNatClampNeg) (x4 := X.2 (x3 + (4 : Int32)).toNatClampNeg) h
  refine ⟨τ', inv, fun r σ' k => ?_⟩
  have c1 := f_X11_stock (X := X) (l := l) h.1 f
  have s1 : Sh τ := c1.1.2.2.2.1 h.1
  have c2 := f_X12_stock (X := X) (l := l) s1 g
  unfold W_L_law_828
  exact ⟨hx.1, hx.2.1, hx.2.2.1, hx.2.2.2.1, _, _, _, by decide, c1, hx.1, hx.2.1, hx.2.2.1, hx.2.2.2.1, _, _, _, by decide, c2, by rw [if_pos rfl]; exact k⟩
theorem O_881 {m : Nat} {X : Sx} {l : Launch} {x3 : Int32} {σ : AH} (h : Inv m σ) (hx : InS X x3) : ∃ τ', Inv (m + 1) τ' ∧ ∀ r σ', W_L_law_2038 X l 100 x3 τ' r σ' → W_L_law_881 X l 100 x3 σ r σ' := by
  obtain ⟨v, τ, τ', f, g, inv⟩ := S_built (x1 := X.2 (x3 + (1 : Int32)).toNatClampNeg) (x2 := X.2 (x3 + (2 : Int32)).toNatClampNeg) (x3 := X.2 (x3 + (3 : Int32)).toNatClampNeg) (x4 := X.2 (x3 + (4 : Int32)).toNatClampNeg) h
  refine ⟨τ', inv, fun r σ' k => ?_⟩
  have c1 := f_X11_built (X := X) (l := l) h.1 f
  have s1 : Sh τ := c1.1.2.2.2.1 h.1
  have c2 := f_X12_built (X := X) (l := l) s1 g
  unfold W_L_law_881
  exact ⟨hx.1, hx.2.1, hx.2.2.1, hx.2.2.2.1, _, _, _, by decide, c1, hx.1, hx.2.1, hx.2.2.1, hx.2.2.2.1, _, _, _, by decide, c2, by rw [if_pos rfl]; exact k⟩
theorem O_934 {m : Nat} {X : Sx} {l : Launch} {x3 : Int32} {σ : AH} (h : Inv m σ) (hx : InS X x3) : ∃ τ', Inv (m + 1) τ' ∧ ∀ r σ', W_L_law_2038 X l 100 x3 τ' r σ' → W_L_law_934 X l 100 x3 σ r σ' := by
  obtain ⟨v, τ, τ', f, g, inv⟩ := S_lacks (x1 := X.2 (x3 + (1 : Int32)).toNatClampNeg) (x2 := X.2 (x3 + (2 : Int32)).toNatClampNeg) (x3 := X.2 (x3 + (3 : Int32)).toNatClampNeg) h
  refine ⟨τ', inv, fun r σ' k => ?_⟩
  have c1 := f_X11_lacks (X := X) (l := l) h.1 f
  have s1 : Sh τ := c1.1.2.2.2.1 h.1
  have c2 := f_X12_lacks (X := X) (l := l) s1 g
  unfold W_L_law_934
  exact ⟨hx.1, hx.2.1, hx.2.2.1, _, _, _, by decide, c1, hx.1, hx.2.1, hx.2.2.1, _, _, _, by decide, c2, by rw [if_pos rfl]; exact k⟩
theorem O_977 {m : Nat} {X : Sx} {l : Launch} {x3 : Int32} {σ : AH} (h : Inv m σ) (hx : InS X x3) : ∃ τ', Inv (m + 1) τ' ∧ ∀ r σ', W_L_law_2038 X l 100 x3 τ' r σ' → W_L_law_977 X l 100 x3 σ r σ' := by
  obtain ⟨v, τ, τ', f, g, inv⟩ := S_knock (x1 := X.2 (x3 + (1 : Int32)).toNatClampNeg) (x2 := X.2 (x3 + (2 : Int32)).toNatClampNeg) h
  refine ⟨τ', inv, fun r σ' k => ?_⟩
  have c1 := f_X11_knock (X := X) (l := l) h.1 f
  have s1 : Sh τ := c1.1.2.2.2.1 h.1
  have c2 := f_X12_knock (X := X) (l := l) s1 g
  unfold W_L_law_977
  exact ⟨hx.1, hx.2.1, _, _, _, by decide, c1, hx.1, hx.2.1, _, _, _, by decide, c2, by rw [if_pos rfl]; exact k⟩
theorem O_1010 {m : Nat} {X : Sx} {l : Launch} {x3 : Int32} {σ : AH} (h : Inv m σ) (hx : InS X x3) : ∃ τ', Inv (m + 1) τ' ∧ ∀ r σ', W_L_law_2038 X l 100 x3 τ' r σ' → W_L_law_1010 X l 100 x3 σ r σ' := by
  obtain ⟨v, τ, τ', f, g, inv⟩ := S_wish (x1 := X.2 (x3 + (1 : Int32)).toNatClampNeg) h
  refine ⟨τ', inv, fun r σ' k => ?_⟩
  have c1 := f_X11_wish (X := X) (l := l) h.1 f
  have s1 : Sh τ := c1.1.2.2.2.1 h.1
  have c2 := f_X12_wish (X := X) (l := l) s1 g
  unfold W_L_law_1010
  exact ⟨hx.1, _, _, _, by decide, c1, hx.1, _, _, _, by decide, c2, by rw [if_pos rfl]; exact k⟩
theorem O_1033 {m : Nat} {X : Sx} {l : Launch} {x3 : Int32} {σ : AH} (h : Inv m σ) (hx : InS X x3) : ∃ τ', Inv (m + 1) τ' ∧ ∀ r σ', W_L_law_2038 X l 100 x3 τ' r σ' → W_L_law_1033 X l 100 x3 σ r σ' := by
  obtain ⟨v, τ, τ', f, g, inv⟩ := S_clear  h
  refine ⟨τ', inv, fun r σ' k => ?_⟩
  have c1 := f_X11_clear (X := X) (l := l) h.1 f
  have s1 : Sh τ := c1.1.2.2.2.1 h.1
  have c2 := f_X12_clear (X := X) (l := l) s1 g
  unfold W_L_law_1033
  exact ⟨_, _, _, by decide, c1, _, _, _, by decide, c2, by rw [if_pos rfl]; exact k⟩
theorem O_1046 {m : Nat} {X : Sx} {l : Launch} {x3 : Int32} {σ : AH} (h : Inv m σ) (hx : InS X x3) : ∃ τ', Inv (m + 1) τ' ∧ ∀ r σ', W_L_law_2038 X l 100 x3 τ' r σ' → W_L_law_1046 X l 100 x3 σ r σ' := by
  obtain ⟨v, τ, τ', f, g, inv⟩ := S_best (x1 := X.2 (x3 + (1 : Int32)).toNatClampNeg) h
  refine ⟨τ', inv, fun r σ' k => ?_⟩
  have c1 := f_X11_best (X := X) (l := l) h.1 f
  have s1 : Sh τ := c1.1.2.2.2.1 h.1
  have c2 := f_X12_best (X := X) (l := l) s1 g
  unfold W_L_law_1046
  exact ⟨hx.1, _, _, _, by decide, c1, hx.1, _, _, _, by decide, c2, by rw [if_pos rfl]; exact k⟩
theorem O_1069 {m : Nat} {X : Sx} {l : Launch} {x3 : Int32} {σ : AH} (h : Inv m σ) (hx : InS X x3) : ∃ τ', Inv (m + 1) τ' ∧ ∀ r σ', W_L_law_2038 X l 100 x3 τ' r σ' → W_L_law_1069 X l 100 x3 σ r σ' := by
  obtain ⟨v, τ, τ', f, g, inv⟩ := S_chosen (x1 := X.2 (x3 + (1 : Int32)).toNatClampNeg) h
  refine ⟨τ', inv, fun r σ' k => ?_⟩
  have c1 := f_X11_chosen (X := X) (l := l) h.1 f
  have s1 : Sh τ := c1.1.2.2.2.1 h.1
  have c2 := f_X12_chosen (X := X) (l := l) s1 g
  unfold W_L_law_1069
  exact ⟨hx.1, _, _, _, by decide, c1, hx.1, _, _, _, by decide, c2, by rw [if_pos rfl]; exact k⟩
theorem O_1092 {m : Nat} {X : Sx} {l : Launch} {x3 : Int32} {σ : AH} (h : Inv m σ) (hx : InS X x3) : ∃ τ', Inv (m + 1) τ' ∧ ∀ r σ', W_L_law_2038 X l 100 x3 τ' r σ' → W_L_law_1092 X l 100 x3 σ r σ' := by
  obtain ⟨v, τ, τ', f, g, inv⟩ := S_bound (x1 := X.2 (x3 + (1 : Int32)).toNatClampNeg) h
  refine ⟨τ', inv, fun r σ' k => ?_⟩
  have c1 := f_X11_bound (X := X) (l := l) h.1 f
  have s1 : Sh τ := c1.1.2.2.2.1 h.1
  have c2 := f_X12_bound (X := X) (l := l) s1 g
  unfold W_L_law_1092
  exact ⟨hx.1, _, _, _, by decide, c1, hx.1, _, _, _, by decide, c2, by rw [if_pos rfl]; exact k⟩
theorem O_1115 {m : Nat} {X : Sx} {l : Launch} {x3 : Int32} {σ : AH} (h : Inv m σ) (hx : InS X x3) : ∃ τ', Inv (m + 1) τ' ∧ ∀ r σ', W_L_law_2038 X l 100 x3 τ' r σ' → W_L_law_1115 X l 100 x3 σ r σ' := by
  obtain ⟨v, τ, τ', f, g, inv⟩ := S_judge (x1 := X.2 (x3 + (1 : Int32)).toNatClampNeg) (x2 := X.2 (x3 + (2 : Int32)).toNatClampNeg) h
  refine ⟨τ', inv, fun r σ' k => ?_⟩
  have c1 := f_X11_judge (X := X) (l := l) h.1 f
  have s1 : Sh τ := c1.1.2.2.2.1 h.1
  have c2 := f_X12_judge (X := X) (l := l) s1 g
  unfold W_L_law_1115
  exact ⟨hx.1, hx.2.1, _, _, _, by decide, c1, hx.1, hx.2.1, _, _, _, by decide, c2, by rw [if_pos rfl]; exact k⟩
theorem O_1148 {m : Nat} {X : Sx} {l : Launch} {x3 : Int32} {σ : AH} (hm : m < 1000) (h : Inv m σ) (hx : InS X x3) : ∃ τ', Inv (m + 1) τ' ∧ ∀ r σ', W_L_law_2038 X l 100 x3 τ' r σ' → W_L_law_1148 X l 100 x3 σ r σ' := by
  obtain ⟨v, τ, τ', f, g, inv⟩ := S_entry (x1 := X.2 (x3 + (1 : Int32)).toNatClampNeg) (x2 := X.2 (x3 + (2 : Int32)).toNatClampNeg) (x3 := X.2 (x3 + (3 : Int32)).toNatClampNeg) (x4 := X.2 (x3 + (4 : Int32)).toNatClampNeg) (x5 := X.2 (x3 + (5 : Int32)).toNatClampNeg) (x6 := X.2 (x3 + (6 : Int32)).toNatClampNeg) (x7 := X.2 (x3 + (7 : Int32)).toNatClampNeg) hm h
  refine ⟨τ', inv, fun r σ' k => ?_⟩
  have c1 := f_X11_entry (X := X) (l := l) h.1 f
  have s1 : Sh τ := c1.1.2.2.2.1 h.1
  have c2 := f_X12_entry (X := X) (l := l) s1 g
  unfold W_L_law_1148
  exact ⟨hx.1, hx.2.1, hx.2.2.1, hx.2.2.2.1, hx.2.2.2.2.1, hx.2.2.2.2.2.1, hx.2.2.2.2.2.2.1, _, _, _, by decide, c1, hx.1, hx.2.1, hx.2.2.1, hx.2.2.2.1, hx.2.2.2.2.1, hx.2.2.2.2.2.1, hx.2.2.2.2.2.2.1, _, _, _, by decide, c2, by rw [if_pos rfl]; exact k⟩
theorem O_1235 {m : Nat} {X : Sx} {l : Launch} {x3 : Int32} {σ : AH} (hm : m < 1000) (h : Inv m σ) (hx : InS X x3) : ∃ τ', Inv (m + 1) τ' ∧ ∀ r σ', W_L_law_2038 X l 100 x3 τ' r σ' → W_L_law_1235 X l 100 x3 σ r σ' := by
  obtain ⟨v, τ, τ', f, g, inv⟩ := S_mark (x1 := X.2 (x3 + (1 : Int32)).toNatClampNeg) (x2 := X.2 (x3 + (2 : Int32)).toNatClampNeg) (x3 := X.2 (x3 + (3 : Int32)).toNatClampNeg) hm h
  refine ⟨τ', inv, fun r σ' k => ?_⟩
  have c1 := f_X11_mark (X := X) (l := l) h.1 f
  have s1 : Sh τ := c1.1.2.2.2.1 h.1
  have c2 := f_X12_mark (X := X) (l := l) s1 g
  unfold W_L_law_1235
  exact ⟨hx.1, hx.2.1, hx.2.2.1, _, _, _, by decide, c1, hx.1, hx.2.1, hx.2.2.1, _, _, _, by decide, c2, by rw [if_pos rfl]; exact k⟩
theorem O_1278 {m : Nat} {X : Sx} {l : Launch} {x3 : Int32} {σ : AH} (h : Inv m σ) (hx : InS X x3) : ∃ τ', Inv (m + 1) τ' ∧ ∀ r σ', W_L_law_2038 X l 100 x3 τ' r σ' → W_L_law_1278 X l 100 x3 σ r σ' := by
  obtain ⟨v, τ, τ', f, g, inv⟩ := S_family (x1 := X.2 (x3 + (1 : Int32)).toNatClampNeg) (x2 := X.2 (x3 + (2 : Int32)).toNatClampNeg) h
  refine ⟨τ', inv, fun r σ' k => ?_⟩
  have c1 := f_X11_family (X := X) (l := l) h.1 f
  have s1 : Sh τ := c1.1.2.2.2.1 h.1
  have c2 := f_X12_family (X := X) (l := l) s1 g
  unfold W_L_law_1278
  exact ⟨hx.1, hx.2.1, _, _, _, by decide, c1, hx.1, hx.2.1, _, _, _, by decide, c2, by rw [if_pos rfl]; exact k⟩
theorem O_1311 {m : Nat} {X : Sx} {l : Launch} {x3 : Int32} {σ : AH} (h : Inv m σ) (hx : InS X x3) : ∃ τ', Inv (m + 1) τ' ∧ ∀ r σ', W_L_law_2038 X l 100 x3 τ' r σ' → W_L_law_1311 X l 100 x3 σ r σ' := by
  obtain ⟨v, τ, τ', f, g, inv⟩ := S_points (x1 := X.2 (x3 + (1 : Int32)).toNatClampNeg) (x2 := X.2 (x3 + (2 : Int32)).toNatClampNeg) (x3 := X.2 (x3 + (3 : Int32)).toNatClampNeg) h
  refine ⟨τ', inv, fun r σ' k => ?_⟩
  have c1 := f_X11_points (X := X) (l := l) h.1 f
  have s1 : Sh τ := c1.1.2.2.2.1 h.1
  have c2 := f_X12_points (X := X) (l := l) s1 g
  unfold W_L_law_1311
  exact ⟨hx.1, hx.2.1, hx.2.2.1, _, _, _, by decide, c1, hx.1, hx.2.1, hx.2.2.1, _, _, _, by decide, c2, by rw [if_pos rfl]; exact k⟩
theorem O_1354 {m : Nat} {X : Sx} {l : Launch} {x3 : Int32} {σ : AH} (h : Inv m σ) (hx : InS X x3) : ∃ τ', Inv (m + 1) τ' ∧ ∀ r σ', W_L_law_2038 X l 100 x3 τ' r σ' → W_L_law_1354 X l 100 x3 σ r σ' := by
  obtain ⟨v, τ, τ', f, g, inv⟩ := S_order (x1 := X.2 (x3 + (1 : Int32)).toNatClampNeg) (x2 := X.2 (x3 + (2 : Int32)).toNatClampNeg) (x3 := X.2 (x3 + (3 : Int32)).toNatClampNeg) (x4 := X.2 (x3 + (4 : Int32)).toNatClampNeg) h
  refine ⟨τ', inv, fun r σ' k => ?_⟩
  have c1 := f_X11_order (X := X) (l := l) h.1 f
  have s1 : Sh τ := c1.1.2.2.2.1 h.1
  have c2 := f_X12_order (X := X) (l := l) s1 g
  unfold W_L_law_1354
  exact ⟨hx.1, hx.2.1, hx.2.2.1, hx.2.2.2.1, _, _, _, by decide, c1, hx.1, hx.2.1, hx.2.2.1, hx.2.2.2.1, _, _, _, by decide, c2, by rw [if_pos rfl]; exact k⟩
theorem O_1407 {m : Nat} {X : Sx} {l : Launch} {x3 : Int32} {σ : AH} (h : Inv m σ) (hx : InS X x3) : ∃ τ', Inv (m + 1) τ' ∧ ∀ r σ', W_L_law_2038 X l 100 x3 τ' r σ' → W_L_law_1407 X l 100 x3 σ r σ' := by
  obtain ⟨v, τ, τ', f, g, inv⟩ := S_beside (x1 := X.2 (x3 + (1 : Int32)).toNatClampNeg) (x2 := X.2 (x3 + (2 : Int32)).toNatClampNeg) (x3 := X.2 (x3 + (3 : Int32)).toNatClampNeg) (x4 := X.2 (x3 + (4 : Int32)).toNatClampNeg) h
  refine ⟨τ', inv, fun r σ' k => ?_⟩
  have c1 := f_X11_beside (X := X) (l := l) h.1 f
  have s1 : Sh τ := c1.1.2.2.2.1 h.1
  have c2 := f_X12_beside (X := X) (l := l) s1 g
  unfold W_L_law_1407
  exact ⟨hx.1, hx.2.1, hx.2.2.1, hx.2.2.2.1, _, _, _, by decide, c1, hx.1, hx.2.1, hx.2.2.1, hx.2.2.2.1, _, _, _, by decide, c2, by rw [if_pos rfl]; exact k⟩
theorem O_1460 {m : Nat} {X : Sx} {l : Launch} {x3 : Int32} {σ : AH} (hm : m < 1000) (h : Inv m σ) (hx : InS X x3) : ∃ τ', Inv (m + 1) τ' ∧ ∀ r σ', W_L_law_2038 X l 100 x3 τ' r σ' → W_L_law_1460 X l 100 x3 σ r σ' := by
  obtain ⟨v, τ, τ', f, g, inv⟩ := S_offer (x1 := X.2 (x3 + (1 : Int32)).toNatClampNeg) hm h
  refine ⟨τ', inv, fun r σ' k => ?_⟩
  have c1 := f_X11_offer (X := X) (l := l) h.1 f
  have s1 : Sh τ := c1.1.2.2.2.1 h.1
  have c2 := f_X12_offer (X := X) (l := l) s1 g
  unfold W_L_law_1460
  exact ⟨hx.1, _, _, _, by decide, c1, hx.1, _, _, _, by decide, c2, by rw [if_pos rfl]; exact k⟩
theorem O_1483 {m : Nat} {X : Sx} {l : Launch} {x3 : Int32} {σ : AH} (h : Inv m σ) (hx : InS X x3) : ∃ τ', Inv (m + 1) τ' ∧ ∀ r σ', W_L_law_2038 X l 100 x3 τ' r σ' → W_L_law_1483 X l 100 x3 σ r σ' := by
  obtain ⟨v, τ, τ', f, g, inv⟩ := S_lives (x1 := X.2 (x3 + (1 : Int32)).toNatClampNeg) (x2 := X.2 (x3 + (2 : Int32)).toNatClampNeg) (x3 := X.2 (x3 + (3 : Int32)).toNatClampNeg) h
  refine ⟨τ', inv, fun r σ' k => ?_⟩
  have c1 := f_X11_lives (X := X) (l := l) h.1 f
  have s1 : Sh τ := c1.1.2.2.2.1 h.1
  have c2 := f_X12_lives (X := X) (l := l) s1 g
  unfold W_L_law_1483
  exact ⟨hx.1, hx.2.1, hx.2.2.1, _, _, _, by decide, c1, hx.1, hx.2.1, hx.2.2.1, _, _, _, by decide, c2, by rw [if_pos rfl]; exact k⟩
theorem O_1526 {m : Nat} {X : Sx} {l : Launch} {x3 : Int32} {σ : AH} (h : Inv m σ) (hx : InS X x3) : ∃ τ', Inv (m + 1) τ' ∧ ∀ r σ', W_L_law_2038 X l 100 x3 τ' r σ' → W_L_law_1526 X l 100 x3 σ r σ' := by
  obtain ⟨v, τ, τ', f, g, inv⟩ := S_roof (x1 := X.2 (x3 + (1 : Int32)).toNatClampNeg) (x2 := X.2 (x3 + (2 : Int32)).toNatClampNeg) h
  refine ⟨τ', inv, fun r σ' k => ?_⟩
  have c1 := f_X11_roof (X := X) (l := l) h.1 f
  have s1 : Sh τ := c1.1.2.2.2.1 h.1
  have c2 := f_X12_roof (X := X) (l := l) s1 g
  unfold W_L_law_1526
  exact ⟨hx.1, hx.2.1, _, _, _, by decide, c1, hx.1, hx.2.1, _, _, _, by decide, c2, by rw [if_pos rfl]; exact k⟩
theorem O_1559 {m : Nat} {X : Sx} {l : Launch} {x3 : Int32} {σ : AH} (hm : m < 1000) (h : Inv m σ) (hx : InS X x3) : ∃ τ', Inv (m + 1) τ' ∧ ∀ r σ', W_L_law_2038 X l 100 x3 τ' r σ' → W_L_law_1559 X l 100 x3 σ r σ' := by
  obtain ⟨v, τ, τ', f, g, inv⟩ := S_squat (x1 := X.2 (x3 + (1 : Int32)).toNatClampNeg) (x2 := X.2 (x3 + (2 : Int32)).toNatClampNeg) (x3 := X.2 (x3 + (3 : Int32)).toNatClampNeg) hm h
  refine ⟨τ', inv, fun r σ' k => ?_⟩
  have c1 := f_X11_squat (X := X) (l := l) h.1 f
  have s1 : Sh τ := c1.1.2.2.2.1 h.1
  have c2 := f_X12_squat (X := X) (l := l) s1 g
  unfold W_L_law_1559
  exact ⟨hx.1, hx.2.1, hx.2.2.1, _, _, _, by decide, c1, hx.1, hx.2.1, hx.2.2.1, _, _, _, by decide, c2, by rw [if_pos rfl]; exact k⟩
theorem O_1602 {m : Nat} {X : Sx} {l : Launch} {x3 : Int32} {σ : AH} (hm : m < 1000) (h : Inv m σ) (hx : InS X x3) : ∃ τ', Inv (m + 1) τ' ∧ ∀ r σ', W_L_law_2038 X l 100 x3 τ' r σ' → W_L_law_1602 X l 100 x3 σ r σ' := by
  obtain ⟨v, τ, τ', f, g, inv⟩ := S_out (x1 := X.2 (x3 + (1 : Int32)).toNatClampNeg) (x2 := X.2 (x3 + (2 : Int32)).toNatClampNeg) hm h
  refine ⟨τ', inv, fun r σ' k => ?_⟩
  have c1 := f_X11_out (X := X) (l := l) h.1 f
  have s1 : Sh τ := c1.1.2.2.2.1 h.1
  have c2 := f_X12_out (X := X) (l := l) s1 g
  unfold W_L_law_1602
  exact ⟨hx.1, hx.2.1, _, _, _, by decide, c1, hx.1, hx.2.1, _, _, _, by decide, c2, by rw [if_pos rfl]; exact k⟩
theorem O_1635 {m : Nat} {X : Sx} {l : Launch} {x3 : Int32} {σ : AH} (h : Inv m σ) (hx : InS X x3) : ∃ τ', Inv (m + 1) τ' ∧ ∀ r σ', W_L_law_2038 X l 100 x3 τ' r σ' → W_L_law_1635 X l 100 x3 σ r σ' := by
  obtain ⟨v, τ, τ', f, g, inv⟩ := S_rent (x1 := X.2 (x3 + (1 : Int32)).toNatClampNeg) (x2 := X.2 (x3 + (2 : Int32)).toNatClampNeg) (x3 := X.2 (x3 + (3 : Int32)).toNatClampNeg) h
  refine ⟨τ', inv, fun r σ' k => ?_⟩
  have c1 := f_X11_rent (X := X) (l := l) h.1 f
  have s1 : Sh τ := c1.1.2.2.2.1 h.1
  have c2 := f_X12_rent (X := X) (l := l) s1 g
  unfold W_L_law_1635
  exact ⟨hx.1, hx.2.1, hx.2.2.1, _, _, _, by decide, c1, hx.1, hx.2.1, hx.2.2.1, _, _, _, by decide, c2, by rw [if_pos rfl]; exact k⟩
theorem O_1678 {m : Nat} {X : Sx} {l : Launch} {x3 : Int32} {σ : AH} (hm : m < 1000) (h : Inv m σ) (hx : InS X x3) : ∃ τ', Inv (m + 1) τ' ∧ ∀ r σ', W_L_law_2038 X l 100 x3 τ' r σ' → W_L_law_1678 X l 100 x3 σ r σ' := by
  obtain ⟨v, τ, τ', f, g, inv⟩ := S_lodge (x1 := X.2 (x3 + (1 : Int32)).toNatClampNeg) (x2 := X.2 (x3 + (2 : Int32)).toNatClampNeg) (x3 := X.2 (x3 + (3 : Int32)).toNatClampNeg) (x4 := X.2 (x3 + (4 : Int32)).toNatClampNeg) hm h
  refine ⟨τ', inv, fun r σ' k => ?_⟩
  have c1 := f_X11_lodge (X := X) (l := l) h.1 f
  have s1 : Sh τ := c1.1.2.2.2.1 h.1
  have c2 := f_X12_lodge (X := X) (l := l) s1 g
  unfold W_L_law_1678
  exact ⟨hx.1, hx.2.1, hx.2.2.1, hx.2.2.2.1, _, _, _, by decide, c1, hx.1, hx.2.1, hx.2.2.1, hx.2.2.2.1, _, _, _, by decide, c2, by rw [if_pos rfl]; exact k⟩
theorem O_1731 {m : Nat} {X : Sx} {l : Launch} {x3 : Int32} {σ : AH} (h : Inv m σ) (hx : InS X x3) : ∃ τ', Inv (m + 1) τ' ∧ ∀ r σ', W_L_law_2038 X l 100 x3 τ' r σ' → W_L_law_1731 X l 100 x3 σ r σ' := by
  obtain ⟨v, τ, τ', f, g, inv⟩ := S_under (x1 := X.2 (x3 + (1 : Int32)).toNatClampNeg) (x2 := X.2 (x3 + (2 : Int32)).toNatClampNeg) h
  refine ⟨τ', inv, fun r σ' k => ?_⟩
  have c1 := f_X11_under (X := X) (l := l) h.1 f
  have s1 : Sh τ := c1.1.2.2.2.1 h.1
  have c2 := f_X12_under (X := X) (l := l) s1 g
  unfold W_L_law_1731
  exact ⟨hx.1, hx.2.1, _, _, _, by decide, c1, hx.1, hx.2.1, _, _, _, by decide, c2, by rw [if_pos rfl]; exact k⟩
theorem O_1764 {m : Nat} {X : Sx} {l : Launch} {x3 : Int32} {σ : AH} (hm : m < 1000) (h : Inv m σ) (hx : InS X x3) : ∃ τ', Inv (m + 1) τ' ∧ ∀ r σ', W_L_law_2038 X l 100 x3 τ' r σ' → W_L_law_1764 X l 100 x3 σ r σ' := by
  obtain ⟨v, τ, τ', f, g, inv⟩ := S_target (x1 := X.2 (x3 + (1 : Int32)).toNatClampNeg) (x2 := X.2 (x3 + (2 : Int32)).toNatClampNeg) (x3 := X.2 (x3 + (3 : Int32)).toNatClampNeg) hm h
  refine ⟨τ', inv, fun r σ' k => ?_⟩
  have c1 := f_X11_target (X := X) (l := l) h.1 f
  have s1 : Sh τ := c1.1.2.2.2.1 h.1
  have c2 := f_X12_target (X := X) (l := l) s1 g
  unfold W_L_law_1764
  exact ⟨hx.1, hx.2.1, hx.2.2.1, _, _, _, by decide, c1, hx.1, hx.2.1, hx.2.2.1, _, _, _, by decide, c2, by rw [if_pos rfl]; exact k⟩
theorem O_1807 {m : Nat} {X : Sx} {l : Launch} {x3 : Int32} {σ : AH} (hm : m < 1000) (h : Inv m σ) (hx : InS X x3) : ∃ τ', Inv (m + 1) τ' ∧ ∀ r σ', W_L_law_2038 X l 100 x3 τ' r σ' → W_L_law_1807 X l 100 x3 σ r σ' := by
  obtain ⟨v, τ, τ', f, g, inv⟩ := S_claim (x1 := X.2 (x3 + (1 : Int32)).toNatClampNeg) (x2 := X.2 (x3 + (2 : Int32)).toNatClampNeg) (x3 := X.2 (x3 + (3 : Int32)).toNatClampNeg) (x4 := X.2 (x3 + (4 : Int32)).toNatClampNeg) hm h
  refine ⟨τ', inv, fun r σ' k => ?_⟩
  have c1 := f_X11_claim (X := X) (l := l) h.1 f
  have s1 : Sh τ := c1.1.2.2.2.1 h.1
  have c2 := f_X12_claim (X := X) (l := l) s1 g
  unfold W_L_law_1807
  exact ⟨hx.1, hx.2.1, hx.2.2.1, hx.2.2.2.1, _, _, _, by decide, c1, hx.1, hx.2.1, hx.2.2.1, hx.2.2.2.1, _, _, _, by decide, c2, by rw [if_pos rfl]; exact k⟩
theorem O_1860 {m : Nat} {X : Sx} {l : Launch} {x3 : Int32} {σ : AH} (hm : m < 1000) (h : Inv m σ) (hx : InS X x3) : ∃ τ', Inv (m + 1) τ' ∧ ∀ r σ', W_L_law_2038 X l 100 x3 τ' r σ' → W_L_law_1860 X l 100 x3 σ r σ' := by
  obtain ⟨v, τ, τ', f, g, inv⟩ := S_look (x1 := X.2 (x3 + (1 : Int32)).toNatClampNeg) (x2 := X.2 (x3 + (2 : Int32)).toNatClampNeg) (x3 := X.2 (x3 + (3 : Int32)).toNatClampNeg) (x4 := X.2 (x3 + (4 : Int32)).toNatClampNeg) hm h
  refine ⟨τ', inv, fun r σ' k => ?_⟩
  have c1 := f_X11_look (X := X) (l := l) h.1 f
  have s1 : Sh τ := c1.1.2.2.2.1 h.1
  have c2 := f_X12_look (X := X) (l := l) s1 g
  unfold W_L_law_1860
  exact ⟨hx.1, hx.2.1, hx.2.2.1, hx.2.2.2.1, _, _, _, by decide, c1, hx.1, hx.2.1, hx.2.2.1, hx.2.2.2.1, _, _, _, by decide, c2, by rw [if_pos rfl]; exact k⟩
theorem O_1913 {m : Nat} {X : Sx} {l : Launch} {x3 : Int32} {σ : AH} (h : Inv m σ) (hx : InS X x3) : ∃ τ', Inv (m + 1) τ' ∧ ∀ r σ', W_L_law_2038 X l 100 x3 τ' r σ' → W_L_law_1913 X l 100 x3 σ r σ' := by
  obtain ⟨v, τ, τ', f, g, inv⟩ := S_truth (x1 := X.2 (x3 + (1 : Int32)).toNatClampNeg) (x2 := X.2 (x3 + (2 : Int32)).toNatClampNeg) (x3 := X.2 (x3 + (3 : Int32)).toNatClampNeg) h
  refine ⟨τ', inv, fun r σ' k => ?_⟩
  have c1 := f_X11_truth (X := X) (l := l) h.1 f
  have s1 : Sh τ := c1.1.2.2.2.1 h.1
  have c2 := f_X12_truth (X := X) (l := l) s1 g
  unfold W_L_law_1913
  exact ⟨hx.1, hx.2.1, hx.2.2.1, _, _, _, by decide, c1, hx.1, hx.2.1, hx.2.2.1, _, _, _, by decide, c2, by rw [if_pos rfl]; exact k⟩
theorem O_1956 {m : Nat} {X : Sx} {l : Launch} {x3 : Int32} {σ : AH} (h : Inv m σ) (hx : InS X x3) : ∃ τ', Inv (m + 1) τ' ∧ ∀ r σ', W_L_law_2038 X l 100 x3 τ' r σ' → W_L_law_1956 X l 100 x3 σ r σ' := by
  obtain ⟨v, τ, τ', f, g, inv⟩ := S_image (x1 := X.2 (x3 + (1 : Int32)).toNatClampNeg) h
  refine ⟨τ', inv, fun r σ' k => ?_⟩
  have c1 := f_X11_image (X := X) (l := l) h.1 f
  have s1 : Sh τ := c1.1.2.2.2.1 h.1
  have c2 := f_X12_image (X := X) (l := l) s1 g
  unfold W_L_law_1956
  exact ⟨hx.1, _, _, _, by decide, c1, hx.1, _, _, _, by decide, c2, by rw [if_pos rfl]; exact k⟩
theorem O_1979 {m : Nat} {X : Sx} {l : Launch} {x3 : Int32} {σ : AH} (hm : m < 1000) (h : Inv m σ) (hx : InS X x3) : ∃ τ', Inv (m + 1) τ' ∧ ∀ r σ', W_L_law_2038 X l 100 x3 τ' r σ' → W_L_law_1979 X l 100 x3 σ r σ' := by
  obtain ⟨v, τ, τ', f, g, inv⟩ := S_back (x1 := X.2 (x3 + (1 : Int32)).toNatClampNeg) hm h
  refine ⟨τ', inv, fun r σ' k => ?_⟩
  have c1 := f_X11_back (X := X) (l := l) h.1 f
  have s1 : Sh τ := c1.1.2.2.2.1 h.1
  have c2 := f_X12_back (X := X) (l := l) s1 g
  unfold W_L_law_1979
  exact ⟨hx.1, _, _, _, by decide, c1, hx.1, _, _, _, by decide, c2, by rw [if_pos rfl]; exact k⟩
theorem O_2002 {m : Nat} {X : Sx} {l : Launch} {x3 : Int32} {σ : AH} (h : Inv m σ) (hx : InS X x3) : ∃ τ', Inv (m + 1) τ' ∧ ∀ r σ', W_L_law_2038 X l 100 x3 τ' r σ' → W_L_law_2002 X l 100 x3 σ r σ' := by
  obtain ⟨v, τ, τ', f, g, inv⟩ := S_count (x1 := X.2 (x3 + (1 : Int32)).toNatClampNeg) h
  refine ⟨τ', inv, fun r σ' k => ?_⟩
  have c1 := f_X11_count (X := X) (l := l) h.1 f
  have s1 : Sh τ := c1.1.2.2.2.1 h.1
  have c2 := f_X12_count (X := X) (l := l) s1 g
  unfold W_L_law_2002
  exact ⟨hx.1, _, _, _, by decide, c1, hx.1, _, _, _, by decide, c2, by rw [if_pos rfl]; exact k⟩
theorem O_2025 {m : Nat} {X : Sx} {l : Launch} {x3 : Int32} {σ : AH} (h : Inv m σ) (hx : InS X x3) : ∃ τ', Inv (m + 1) τ' ∧ ∀ r σ', W_L_law_2038 X l 100 x3 τ' r σ' → W_L_law_2025 X l 100 x3 σ r σ' := by
  obtain ⟨v, τ, τ', f, g, inv⟩ := S_status  h
  refine ⟨τ', inv, fun r σ' k => ?_⟩
  have c1 := f_X11_status (X := X) (l := l) h.1 f
  have s1 : Sh τ := c1.1.2.2.2.1 h.1
  have c2 := f_X12_status (X := X) (l := l) s1 g
  unfold W_L_law_2025
  exact ⟨_, _, _, by decide, c1, _, _, _, by decide, c2, by rw [if_pos rfl]; exact k⟩
theorem it_n {c : Prop} [Decidable c] {a b : Prop} (h : ¬ c) (hb : b) : if c then a else b := by rw [if_neg h]; exact hb
theorem it_p {c : Prop} [Decidable c] {a b : Prop} (h : c) (ha : a) : if c then a else b := by rw [if_pos h]; exact ha
theorem Inv.mo {m m' : Nat} {σ : AH} (h : Inv m σ) (hm : m ≤ m') : Inv m' σ := by
  obtain ⟨hS, hR, hX, O, row, oc, W, ns, no, mv, n, C, nw, wi, L, tp, hV, hY, hW, hC, hI, hM⟩ := h
  exact ⟨hS, hR.mo hm, hX, O, row, oc, W, ns, no, mv, n, C, nw, wi, L, tp, hV, hY, hW, hC.mo hm, hI, hM⟩
theorem law_step {m : Nat} {X : Sx} {l : Launch} {x3 : Int32} {σ : AH} (hm : m < 1000) (h : Inv m σ) (hv : vp_in x3 X.1) (hx : InS X x3) (c : ¬ ((Int32.ofNat X.1) - (9 : Int32)) < x3) : ∃ τ', Inv (m + 1) τ' ∧ ∀ r σ', W_L_law_2038 X l 100 x3 τ' r σ' → W_L_law_18 X l 100 x3 σ r σ' := by
  by_cases c0 : ((X.2 x3.toNatClampNeg) &&& (63 : Int32)) = 0
  · obtain ⟨τ', inv, k⟩ := O_224 (l := l) h hx
    exact ⟨τ', inv, fun r σ' w => by unfold W_L_law_18; exact it_n c ⟨hv, (it_p c0 (k r σ' w))⟩⟩
  by_cases c1 : ((X.2 x3.toNatClampNeg) &&& (63 : Int32)) = 1
  · obtain ⟨τ', inv, k⟩ := O_287 (l := l) h hx
    exact ⟨τ', inv, fun r σ' w => by unfold W_L_law_18; exact it_n c ⟨hv, (it_n c0 (it_p c1 (k r σ' w)))⟩⟩
  by_cases c2 : ((X.2 x3.toNatClampNeg) &&& (63 : Int32)) = 2
  · obtain ⟨τ', inv, k⟩ := O_310 (l := l) hm h hx
    exact ⟨τ', inv, fun r σ' w => by unfold W_L_law_18; exact it_n c ⟨hv, (it_n c0 (it_n c1 (it_p c2 (k r σ' w))))⟩⟩
  by_cases c3 : ((X.2 x3.toNatClampNeg) &&& (63 : Int32)) = 3
  · obtain ⟨τ', inv, k⟩ := O_343 (l := l) h hx
    exact ⟨τ', inv, fun r σ' w => by unfold W_L_law_18; exact it_n c ⟨hv, (it_n c0 (it_n c1 (it_n c2 (it_p c3 (k r σ' w)))))⟩⟩
  by_cases c4 : ((X.2 x3.toNatClampNeg) &&& (63 : Int32)) = 4
  · obtain ⟨τ', inv, k⟩ := O_356 (l := l) h hx
    exact ⟨τ', inv, fun r σ' w => by unfold W_L_law_18; exact it_n c ⟨hv, (it_n c0 (it_n c1 (it_n c2 (it_n c3 (it_p c4 (k r σ' w))))))⟩⟩
  by_cases c5 : ((X.2 x3.toNatClampNeg) &&& (63 : Int32)) = 5
  · obtain ⟨τ', inv, k⟩ := O_409 (l := l) h hx
    exact ⟨τ', inv, fun r σ' w => by unfold W_L_law_18; exact it_n c ⟨hv, (it_n c0 (it_n c1 (it_n c2 (it_n c3 (it_n c4 (it_p c5 (k r σ' w)))))))⟩⟩
  by_cases c6 : ((X.2 x3.toNatClampNeg) &&& (63 : Int32)) = 6
  · obtain ⟨τ', inv, k⟩ := O_452 (l := l) h hx
    exact ⟨τ', inv, fun r σ' w => by unfold W_L_law_18; exact it_n c ⟨hv, (it_n c0 (it_n c1 (it_n c2 (it_n c3 (it_n c4 (it_n c5 (it_p c6 (k r σ' w))))))))⟩⟩
  by_cases c7 : ((X.2 x3.toNatClampNeg) &&& (63 : Int32)) = 7
  · obtain ⟨τ', inv, k⟩ := O_527 (l := l) hm h hx
    exact ⟨τ', inv, fun r σ' w => by unfold W_L_law_18; exact it_n c ⟨hv, (it_n c0 (it_n c1 (it_n c2 (it_n c3 (it_n c4 (it_n c5 (it_n c6 (it_p c7 (k r σ' w)))))))))⟩⟩
  by_cases c8 : ((X.2 x3.toNatClampNeg) &&& (63 : Int32)) = 8
  · obtain ⟨τ', inv, k⟩ := O_580 (l := l) hm h hx
    exact ⟨τ', inv, fun r σ' w => by unfold W_L_law_18; exact it_n c ⟨hv, (it_n c0 (it_n c1 (it_n c2 (it_n c3 (it_n c4 (it_n c5 (it_n c6 (it_n c7 (it_p c8 (k r σ' w))))))))))⟩⟩
  by_cases c9 : ((X.2 x3.toNatClampNeg) &&& (63 : Int32)) = 9
  · obtain ⟨τ', inv, k⟩ := O_679 (l := l) hm h hx
    exact ⟨τ', inv, fun r σ' w => by unfold W_L_law_18; exact it_n c ⟨hv, (it_n c0 (it_n c1 (it_n c2 (it_n c3 (it_n c4 (it_n c5 (it_n c6 (it_n c7 (it_n c8 (it_p c9 (k r σ' w)))))))))))⟩⟩
  by_cases c10 : ((X.2 x3.toNatClampNeg) &&& (63 : Int32)) = 10
  · obtain ⟨τ', inv, k⟩ := O_732 (l := l) hm h hx
    exact ⟨τ', inv, fun r σ' w => by unfold W_L_law_18; exact it_n c ⟨hv, (it_n c0 (it_n c1 (it_n c2 (it_n c3 (it_n c4 (it_n c5 (it_n c6 (it_n c7 (it_n c8 (it_n c9 (it_p c10 (k r σ' w))))))))))))⟩⟩
  by_cases c11 : ((X.2 x3.toNatClampNeg) &&& (63 : Int32)) = 11
  · obtain ⟨τ', inv, k⟩ := O_785 (l := l) hm h hx
    exact ⟨τ', inv, fun r σ' w => by unfold W_L_law_18; exact it_n c ⟨hv, (it_n c0 (it_n c1 (it_n c2 (it_n c3 (it_n c4 (it_n c5 (it_n c6 (it_n c7 (it_n c8 (it_n c9 (it_n c10 (it_p c11 (k r σ' w)))))))))))))⟩⟩
  by_cases c12 : ((X.2 x3.toNatClampNeg) &&& (63 : Int32)) = 12
  · obtain ⟨τ', inv, k⟩ := O_828 (l := l) h hx
    exact ⟨τ', inv, fun r σ' w => by unfold W_L_law_18; exact it_n c ⟨hv, (it_n c0 (it_n c1 (it_n c2 (it_n c3 (it_n c4 (it_n c5 (it_n c6 (it_n c7 (it_n c8 (it_n c9 (it_n c10 (it_n c11 (it_p c12 (k r σ' w))))))))))))))⟩⟩
  by_cases c13 : ((X.2 x3.toNatClampNeg) &&& (63 : Int32)) = 13
  · obtain ⟨τ', inv, k⟩ := O_881 (l := l) h hx
    exact ⟨τ', inv, fun r σ' w => by unfold W_L_law_18; exact it_n c ⟨hv, (it_n c0 (it_n c1 (it_n c2 (it_n c3 (it_n c4 (it_n c5 (it_n c6 (it_n c7 (it_n c8 (it_n c9 (it_n c10 (it_n c11 (it_n c12 (it_p c13 (k r σ' w)))))))))))))))⟩⟩
  by_cases c14 : ((X.2 x3.toNatClampNeg) &&& (63 : Int32)) = 14
  · obtain ⟨τ', inv, k⟩ := O_934 (l := l) h hx
    exact ⟨τ', inv, fun r σ' w => by unfold W_L_law_18; exact it_n c ⟨hv, (it_n c0 (it_n c1 (it_n c2 (it_n c3 (it_n c4 (it_n c5 (it_n c6 (it_n c7 (it_n c8 (it_n c9 (it_n c10 (it_n c11 (it_n c12 (it_n c13 (it_p c14 (k r σ' w))))))))))))))))⟩⟩
  by_cases c15 : ((X.2 x3.toNatClampNeg) &&& (63 : Int32)) = 15
  · obtain ⟨τ', inv, k⟩ := O_977 (l := l) h hx
    exact ⟨τ', inv, fun r σ' w => by unfold W_L_law_18; exact it_n c ⟨hv, (it_n c0 (it_n c1 (it_n c2 (it_n c3 (it_n c4 (it_n c5 (it_n c6 (it_n c7 (it_n c8 (it_n c9 (it_n c10 (it_n c11 (it_n c12 (it_n c13 (it_n c14 (it_p c15 (k r σ' w)))))))))))))))))⟩⟩
  by_cases c16 : ((X.2 x3.toNatClampNeg) &&& (63 : Int32)) = 16
  · obtain ⟨τ', inv, k⟩ := O_1010 (l := l) h hx
    exact ⟨τ', inv, fun r σ' w => by unfold W_L_law_18; exact it_n c ⟨hv, (it_n c0 (it_n c1 (it_n c2 (it_n c3 (it_n c4 (it_n c5 (it_n c6 (it_n c7 (it_n c8 (it_n c9 (it_n c10 (it_n c11 (it_n c12 (it_n c13 (it_n c14 (it_n c15 (it_p c16 (k r σ' w))))))))))))))))))⟩⟩
  by_cases c17 : ((X.2 x3.toNatClampNeg) &&& (63 : Int32)) = 17
  · obtain ⟨τ', inv, k⟩ := O_1033 (l := l) h hx
    exact ⟨τ', inv, fun r σ' w => by unfold W_L_law_18; exact it_n c ⟨hv, (it_n c0 (it_n c1 (it_n c2 (it_n c3 (it_n c4 (it_n c5 (it_n c6 (it_n c7 (it_n c8 (it_n c9 (it_n c10 (it_n c11 (it_n c12 (it_n c13 (it_n c14 (it_n c15 (it_n c16 (it_p c17 (k r σ' w)))))))))))))))))))⟩⟩
  by_cases c18 : ((X.2 x3.toNatClampNeg) &&& (63 : Int32)) = 18
  · obtain ⟨τ', inv, k⟩ := O_1046 (l := l) h hx
    exact ⟨τ', inv, fun r σ' w => by unfold W_L_law_18; exact it_n c ⟨hv, (it_n c0 (it_n c1 (it_n c2 (it_n c3 (it_n c4 (it_n c5 (it_n c6 (it_n c7 (it_n c8 (it_n c9 (it_n c10 (it_n c11 (it_n c12 (it_n c13 (it_n c14 (it_n c15 (it_n c16 (it_n c17 (it_p c18 (k r σ' w))))))))))))))))))))⟩⟩
  by_cases c19 : ((X.2 x3.toNatClampNeg) &&& (63 : Int32)) = 19
  · obtain ⟨τ', inv, k⟩ := O_1069 (l := l) h hx
    exact ⟨τ', inv, fun r σ' w => by unfold W_L_law_18; exact it_n c ⟨hv, (it_n c0 (it_n c1 (it_n c2 (it_n c3 (it_n c4 (it_n c5 (it_n c6 (it_n c7 (it_n c8 (it_n c9 (it_n c10 (it_n c11 (it_n c12 (it_n c13 (it_n c14 (it_n c15 (it_n c16 (it_n c17 (it_n c18 (it_p c19 (k r σ' w)))))))))))))))))))))⟩⟩
  by_cases c20 : ((X.2 x3.toNatClampNeg) &&& (63 : Int32)) = 20
  · obtain ⟨τ', inv, k⟩ := O_1092 (l := l) h hx
    exact ⟨τ', inv, fun r σ' w => by unfold W_L_law_18; exact it_n c ⟨hv, (it_n c0 (it_n c1 (it_n c2 (it_n c3 (it_n c4 (it_n c5 (it_n c6 (it_n c7 (it_n c8 (it_n c9 (it_n c10 (it_n c11 (it_n c12 (it_n c13 (it_n c14 (it_n c15 (it_n c16 (it_n c17 (it_n c18 (it_n c19 (it_p c20 (k r σ' w))))))))))))))))))))))⟩⟩
  by_cases c21 : ((X.2 x3.toNatClampNeg) &&& (63 : Int32)) = 21
  · obtain ⟨τ', inv, k⟩ := O_1115 (l := l) h hx
    exact ⟨τ', inv, fun r σ' w => by unfold W_L_law_18; exact it_n c ⟨hv, (it_n c0 (it_n c1 (it_n c2 (it_n c3 (it_n c4 (it_n c5 (it_n c6 (it_n c7 (it_n c8 (it_n c9 (it_n c10 (it_n c11 (it_n c12 (it_n c13 (it_n c14 (it_n c15 (it_n c16 (it_n c17 (it_n c18 (it_n c19 (it_n c20 (it_p c21 (k r σ' w)))))))))))))))))))))))⟩⟩
  by_cases c22 : ((X.2 x3.toNatClampNeg) &&& (63 : Int32)) = 22
  · obtain ⟨τ', inv, k⟩ := O_1148 (l := l) hm h hx
    exact ⟨τ', inv, fun r σ' w => by unfold W_L_law_18; exact it_n c ⟨hv, (it_n c0 (it_n c1 (it_n c2 (it_n c3 (it_n c4 (it_n c5 (it_n c6 (it_n c7 (it_n c8 (it_n c9 (it_n c10 (it_n c11 (it_n c12 (it_n c13 (it_n c14 (it_n c15 (it_n c16 (it_n c17 (it_n c18 (it_n c19 (it_n c20 (it_n c21 (it_p c22 (k r σ' w))))))))))))))))))))))))⟩⟩
  by_cases c23 : ((X.2 x3.toNatClampNeg) &&& (63 : Int32)) = 23
  · obtain ⟨τ', inv, k⟩ := O_1235 (l := l) hm h hx
    exact ⟨τ', inv, fun r σ' w => by unfold W_L_law_18; exact it_n c ⟨hv, (it_n c0 (it_n c1 (it_n c2 (it_n c3 (it_n c4 (it_n c5 (it_n c6 (it_n c7 (it_n c8 (it_n c9 (it_n c10 (it_n c11 (it_n c12 (it_n c13 (it_n c14 (it_n c15 (it_n c16 (it_n c17 (it_n c18 (it_n c19 (it_n c20 (it_n c21 (it_n c22 (it_p c23 (k r σ' w)))))))))))))))))))))))))⟩⟩
  by_cases c24 : ((X.2 x3.toNatClampNeg) &&& (63 : Int32)) = 24
  · obtain ⟨τ', inv, k⟩ := O_1278 (l := l) h hx
    exact ⟨τ', inv, fun r σ' w => by unfold W_L_law_18; exact it_n c ⟨hv, (it_n c0 (it_n c1 (it_n c2 (it_n c3 (it_n c4 (it_n c5 (it_n c6 (it_n c7 (it_n c8 (it_n c9 (it_n c10 (it_n c11 (it_n c12 (it_n c13 (it_n c14 (it_n c15 (it_n c16 (it_n c17 (it_n c18 (it_n c19 (it_n c20 (it_n c21 (it_n c22 (it_n c23 (it_p c24 (k r σ' w))))))))))))))))))))))))))⟩⟩
  by_cases c25 : ((X.2 x3.toNatClampNeg) &&& (63 : Int32)) = 25
  · obtain ⟨τ', inv, k⟩ := O_1311 (l := l) h hx
    exact ⟨τ', inv, fun r σ' w => by unfold W_L_law_18; exact it_n c ⟨hv, (it_n c0 (it_n c1 (it_n c2 (it_n c3 (it_n c4 (it_n c5 (it_n c6 (it_n c7 (it_n c8 (it_n c9 (it_n c10 (it_n c11 (it_n c12 (it_n c13 (it_n c14 (it_n c15 (it_n c16 (it_n c17 (it_n c18 (it_n c19 (it_n c20 (it_n c21 (it_n c22 (it_n c23 (it_n c24 (it_p c25 (k r σ' w)))))))))))))))))))))))))))⟩⟩
  by_cases c26 : ((X.2 x3.toNatClampNeg) &&& (63 : Int32)) = 26
  · obtain ⟨τ', inv, k⟩ := O_1354 (l := l) h hx
    exact ⟨τ', inv, fun r σ' w => by unfold W_L_law_18; exact it_n c ⟨hv, (it_n c0 (it_n c1 (it_n c2 (it_n c3 (it_n c4 (it_n c5 (it_n c6 (it_n c7 (it_n c8 (it_n c9 (it_n c10 (it_n c11 (it_n c12 (it_n c13 (it_n c14 (it_n c15 (it_n c16 (it_n c17 (it_n c18 (it_n c19 (it_n c20 (it_n c21 (it_n c22 (it_n c23 (it_n c24 (it_n c25 (it_p c26 (k r σ' w))))))))))))))))))))))))))))⟩⟩
  by_cases c27 : ((X.2 x3.toNatClampNeg) &&& (63 : Int32)) = 27
  · obtain ⟨τ', inv, k⟩ := O_1407 (l := l) h hx
    exact ⟨τ', inv, fun r σ' w => by unfold W_L_law_18; exact it_n c ⟨hv, (it_n c0 (it_n c1 (it_n c2 (it_n c3 (it_n c4 (it_n c5 (it_n c6 (it_n c7 (it_n c8 (it_n c9 (it_n c10 (it_n c11 (it_n c12 (it_n c13 (it_n c14 (it_n c15 (it_n c16 (it_n c17 (it_n c18 (it_n c19 (it_n c20 (it_n c21 (it_n c22 (it_n c23 (it_n c24 (it_n c25 (it_n c26 (it_p c27 (k r σ' w)))))))))))))))))))))))))))))⟩⟩
  by_cases c28 : ((X.2 x3.toNatClampNeg) &&& (63 : Int32)) = 28
  · obtain ⟨τ', inv, k⟩ := O_1460 (l := l) hm h hx
    exact ⟨τ', inv, fun r σ' w => by unfold W_L_law_18; exact it_n c ⟨hv, (it_n c0 (it_n c1 (it_n c2 (it_n c3 (it_n c4 (it_n c5 (it_n c6 (it_n c7 (it_n c8 (it_n c9 (it_n c10 (it_n c11 (it_n c12 (it_n c13 (it_n c14 (it_n c15 (it_n c16 (it_n c17 (it_n c18 (it_n c19 (it_n c20 (it_n c21 (it_n c22 (it_n c23 (it_n c24 (it_n c25 (it_n c26 (it_n c27 (it_p c28 (k r σ' w))))))))))))))))))))))))))))))⟩⟩
  by_cases c29 : ((X.2 x3.toNatClampNeg) &&& (63 : Int32)) = 29
  · obtain ⟨τ', inv, k⟩ := O_1483 (l := l) h hx
    exact ⟨τ', inv, fun r σ' w => by unfold W_L_law_18; exact it_n c ⟨hv, (it_n c0 (it_n c1 (it_n c2 (it_n c3 (it_n c4 (it_n c5 (it_n c6 (it_n c7 (it_n c8 (it_n c9 (it_n c10 (it_n c11 (it_n c12 (it_n c13 (it_n c14 (it_n c15 (it_n c16 (it_n c17 (it_n c18 (it_n c19 (it_n c20 (it_n c21 (it_n c22 (it_n c23 (it_n c24 (it_n c25 (it_n c26 (it_n c27 (it_n c28 (it_p c29 (k r σ' w)))))))))))))))))))))))))))))))⟩⟩
  by_cases c30 : ((X.2 x3.toNatClampNeg) &&& (63 : Int32)) = 30
  · obtain ⟨τ', inv, k⟩ := O_1526 (l := l) h hx
    exact ⟨τ', inv, fun r σ' w => by unfold W_L_law_18; exact it_n c ⟨hv, (it_n c0 (it_n c1 (it_n c2 (it_n c3 (it_n c4 (it_n c5 (it_n c6 (it_n c7 (it_n c8 (it_n c9 (it_n c10 (it_n c11 (it_n c12 (it_n c13 (it_n c14 (it_n c15 (it_n c16 (it_n c17 (it_n c18 (it_n c19 (it_n c20 (it_n c21 (it_n c22 (it_n c23 (it_n c24 (it_n c25 (it_n c26 (it_n c27 (it_n c28 (it_n c29 (it_p c30 (k r σ' w))))))))))))))))))))))))))))))))⟩⟩
  by_cases c31 : ((X.2 x3.toNatClampNeg) &&& (63 : Int32)) = 31
  · obtain ⟨τ', inv, k⟩ := O_1559 (l := l) hm h hx
    exact ⟨τ', inv, fun r σ' w => by unfold W_L_law_18; exact it_n c ⟨hv, (it_n c0 (it_n c1 (it_n c2 (it_n c3 (it_n c4 (it_n c5 (it_n c6 (it_n c7 (it_n c8 (it_n c9 (it_n c10 (it_n c11 (it_n c12 (it_n c13 (it_n c14 (it_n c15 (it_n c16 (it_n c17 (it_n c18 (it_n c19 (it_n c20 (it_n c21 (it_n c22 (it_n c23 (it_n c24 (it_n c25 (it_n c26 (it_n c27 (it_n c28 (it_n c29 (it_n c30 (it_p c31 (k r σ' w)))))))))))))))))))))))))))))))))⟩⟩
  by_cases c32 : ((X.2 x3.toNatClampNeg) &&& (63 : Int32)) = 32
  · obtain ⟨τ', inv, k⟩ := O_1602 (l := l) hm h hx
    exact ⟨τ', inv, fun r σ' w => by unfold W_L_law_18; exact it_n c ⟨hv, (it_n c0 (it_n c1 (it_n c2 (it_n c3 (it_n c4 (it_n c5 (it_n c6 (it_n c7 (it_n c8 (it_n c9 (it_n c10 (it_n c11 (it_n c12 (it_n c13 (it_n c14 (it_n c15 (it_n c16 (it_n c17 (it_n c18 (it_n c19 (it_n c20 (it_n c21 (it_n c22 (it_n c23 (it_n c24 (it_n c25 (it_n c26 (it_n c27 (it_n c28 (it_n c29 (it_n c30 (it_n c31 (it_p c32 (k r σ' w))))))))))))))))))))))))))))))))))⟩⟩
  by_cases c33 : ((X.2 x3.toNatClampNeg) &&& (63 : Int32)) = 33
  · obtain ⟨τ', inv, k⟩ := O_1635 (l := l) h hx
    exact ⟨τ', inv, fun r σ' w => by unfold W_L_law_18; exact it_n c ⟨hv, (it_n c0 (it_n c1 (it_n c2 (it_n c3 (it_n c4 (it_n c5 (it_n c6 (it_n c7 (it_n c8 (it_n c9 (it_n c10 (it_n c11 (it_n c12 (it_n c13 (it_n c14 (it_n c15 (it_n c16 (it_n c17 (it_n c18 (it_n c19 (it_n c20 (it_n c21 (it_n c22 (it_n c23 (it_n c24 (it_n c25 (it_n c26 (it_n c27 (it_n c28 (it_n c29 (it_n c30 (it_n c31 (it_n c32 (it_p c33 (k r σ' w)))))))))))))))))))))))))))))))))))⟩⟩
  by_cases c34 : ((X.2 x3.toNatClampNeg) &&& (63 : Int32)) = 34
  · obtain ⟨τ', inv, k⟩ := O_1678 (l := l) hm h hx
    exact ⟨τ', inv, fun r σ' w => by unfold W_L_law_18; exact it_n c ⟨hv, (it_n c0 (it_n c1 (it_n c2 (it_n c3 (it_n c4 (it_n c5 (it_n c6 (it_n c7 (it_n c8 (it_n c9 (it_n c10 (it_n c11 (it_n c12 (it_n c13 (it_n c14 (it_n c15 (it_n c16 (it_n c17 (it_n c18 (it_n c19 (it_n c20 (it_n c21 (it_n c22 (it_n c23 (it_n c24 (it_n c25 (it_n c26 (it_n c27 (it_n c28 (it_n c29 (it_n c30 (it_n c31 (it_n c32 (it_n c33 (it_p c34 (k r σ' w))))))))))))))))))))))))))))))))))))⟩⟩
  by_cases c35 : ((X.2 x3.toNatClampNeg) &&& (63 : Int32)) = 35
  · obtain ⟨τ', inv, k⟩ := O_1731 (l := l) h hx
    exact ⟨τ', inv, fun r σ' w => by unfold W_L_law_18; exact it_n c ⟨hv, (it_n c0 (it_n c1 (it_n c2 (it_n c3 (it_n c4 (it_n c5 (it_n c6 (it_n c7 (it_n c8 (it_n c9 (it_n c10 (it_n c11 (it_n c12 (it_n c13 (it_n c14 (it_n c15 (it_n c16 (it_n c17 (it_n c18 (it_n c19 (it_n c20 (it_n c21 (it_n c22 (it_n c23 (it_n c24 (it_n c25 (it_n c26 (it_n c27 (it_n c28 (it_n c29 (it_n c30 (it_n c31 (it_n c32 (it_n c33 (it_n c34 (it_p c35 (k r σ' w)))))))))))))))))))))))))))))))))))))⟩⟩
  by_cases c36 : ((X.2 x3.toNatClampNeg) &&& (63 : Int32)) = 36
  · obtain ⟨τ', inv, k⟩ := O_1764 (l := l) hm h hx
    exact ⟨τ', inv, fun r σ' w => by unfold W_L_law_18; exact it_n c ⟨hv, (it_n c0 (it_n c1 (it_n c2 (it_n c3 (it_n c4 (it_n c5 (it_n c6 (it_n c7 (it_n c8 (it_n c9 (it_n c10 (it_n c11 (it_n c12 (it_n c13 (it_n c14 (it_n c15 (it_n c16 (it_n c17 (it_n c18 (it_n c19 (it_n c20 (it_n c21 (it_n c22 (it_n c23 (it_n c24 (it_n c25 (it_n c26 (it_n c27 (it_n c28 (it_n c29 (it_n c30 (it_n c31 (it_n c32 (it_n c33 (it_n c34 (it_n c35 (it_p c36 (k r σ' w))))))))))))))))))))))))))))))))))))))⟩⟩
  by_cases c37 : ((X.2 x3.toNatClampNeg) &&& (63 : Int32)) = 37
  · obtain ⟨τ', inv, k⟩ := O_1807 (l := l) hm h hx
    exact ⟨τ', inv, fun r σ' w => by unfold W_L_law_18; exact it_n c ⟨hv, (it_n c0 (it_n c1 (it_n c2 (it_n c3 (it_n c4 (it_n c5 (it_n c6 (it_n c7 (it_n c8 (it_n c9 (it_n c10 (it_n c11 (it_n c12 (it_n c13 (it_n c14 (it_n c15 (it_n c16 (it_n c17 (it_n c18 (it_n c19 (it_n c20 (it_n c21 (it_n c22 (it_n c23 (it_n c24 (it_n c25 (it_n c26 (it_n c27 (it_n c28 (it_n c29 (it_n c30 (it_n c31 (it_n c32 (it_n c33 (it_n c34 (it_n c35 (it_n c36 (it_p c37 (k r σ' w)))))))))))))))))))))))))))))))))))))))⟩⟩
  by_cases c38 : ((X.2 x3.toNatClampNeg) &&& (63 : Int32)) = 38
  · obtain ⟨τ', inv, k⟩ := O_1860 (l := l) hm h hx
    exact ⟨τ', inv, fun r σ' w => by unfold W_L_law_18; exact it_n c ⟨hv, (it_n c0 (it_n c1 (it_n c2 (it_n c3 (it_n c4 (it_n c5 (it_n c6 (it_n c7 (it_n c8 (it_n c9 (it_n c10 (it_n c11 (it_n c12 (it_n c13 (it_n c14 (it_n c15 (it_n c16 (it_n c17 (it_n c18 (it_n c19 (it_n c20 (it_n c21 (it_n c22 (it_n c23 (it_n c24 (it_n c25 (it_n c26 (it_n c27 (it_n c28 (it_n c29 (it_n c30 (it_n c31 (it_n c32 (it_n c33 (it_n c34 (it_n c35 (it_n c36 (it_n c37 (it_p c38 (k r σ' w))))))))))))))))))))))))))))))))))))))))⟩⟩
  by_cases c39 : ((X.2 x3.toNatClampNeg) &&& (63 : Int32)) = 39
  · obtain ⟨τ', inv, k⟩ := O_1913 (l := l) h hx
    exact ⟨τ', inv, fun r σ' w => by unfold W_L_law_18; exact it_n c ⟨hv, (it_n c0 (it_n c1 (it_n c2 (it_n c3 (it_n c4 (it_n c5 (it_n c6 (it_n c7 (it_n c8 (it_n c9 (it_n c10 (it_n c11 (it_n c12 (it_n c13 (it_n c14 (it_n c15 (it_n c16 (it_n c17 (it_n c18 (it_n c19 (it_n c20 (it_n c21 (it_n c22 (it_n c23 (it_n c24 (it_n c25 (it_n c26 (it_n c27 (it_n c28 (it_n c29 (it_n c30 (it_n c31 (it_n c32 (it_n c33 (it_n c34 (it_n c35 (it_n c36 (it_n c37 (it_n c38 (it_p c39 (k r σ' w)))))))))))))))))))))))))))))))))))))))))⟩⟩
  by_cases c40 : ((X.2 x3.toNatClampNeg) &&& (63 : Int32)) = 40
  · obtain ⟨τ', inv, k⟩ := O_1956 (l := l) h hx
    exact ⟨τ', inv, fun r σ' w => by unfold W_L_law_18; exact it_n c ⟨hv, (it_n c0 (it_n c1 (it_n c2 (it_n c3 (it_n c4 (it_n c5 (it_n c6 (it_n c7 (it_n c8 (it_n c9 (it_n c10 (it_n c11 (it_n c12 (it_n c13 (it_n c14 (it_n c15 (it_n c16 (it_n c17 (it_n c18 (it_n c19 (it_n c20 (it_n c21 (it_n c22 (it_n c23 (it_n c24 (it_n c25 (it_n c26 (it_n c27 (it_n c28 (it_n c29 (it_n c30 (it_n c31 (it_n c32 (it_n c33 (it_n c34 (it_n c35 (it_n c36 (it_n c37 (it_n c38 (it_n c39 (it_p c40 (k r σ' w))))))))))))))))))))))))))))))))))))))))))⟩⟩
  by_cases c41 : ((X.2 x3.toNatClampNeg) &&& (63 : Int32)) = 41
  · obtain ⟨τ', inv, k⟩ := O_1979 (l := l) hm h hx
    exact ⟨τ', inv, fun r σ' w => by unfold W_L_law_18; exact it_n c ⟨hv, (it_n c0 (it_n c1 (it_n c2 (it_n c3 (it_n c4 (it_n c5 (it_n c6 (it_n c7 (it_n c8 (it_n c9 (it_n c10 (it_n c11 (it_n c12 (it_n c13 (it_n c14 (it_n c15 (it_n c16 (it_n c17 (it_n c18 (it_n c19 (it_n c20 (it_n c21 (it_n c22 (it_n c23 (it_n c24 (it_n c25 (it_n c26 (it_n c27 (it_n c28 (it_n c29 (it_n c30 (it_n c31 (it_n c32 (it_n c33 (it_n c34 (it_n c35 (it_n c36 (it_n c37 (it_n c38 (it_n c39 (it_n c40 (it_p c41 (k r σ' w)))))))))))))))))))))))))))))))))))))))))))⟩⟩
  by_cases c42 : ((X.2 x3.toNatClampNeg) &&& (63 : Int32)) = 42
  · obtain ⟨τ', inv, k⟩ := O_2002 (l := l) h hx
    exact ⟨τ', inv, fun r σ' w => by unfold W_L_law_18; exact it_n c ⟨hv, (it_n c0 (it_n c1 (it_n c2 (it_n c3 (it_n c4 (it_n c5 (it_n c6 (it_n c7 (it_n c8 (it_n c9 (it_n c10 (it_n c11 (it_n c12 (it_n c13 (it_n c14 (it_n c15 (it_n c16 (it_n c17 (it_n c18 (it_n c19 (it_n c20 (it_n c21 (it_n c22 (it_n c23 (it_n c24 (it_n c25 (it_n c26 (it_n c27 (it_n c28 (it_n c29 (it_n c30 (it_n c31 (it_n c32 (it_n c33 (it_n c34 (it_n c35 (it_n c36 (it_n c37 (it_n c38 (it_n c39 (it_n c40 (it_n c41 (it_p c42 (k r σ' w))))))))))))))))))))))))))))))))))))))))))))⟩⟩
  by_cases c43 : ((X.2 x3.toNatClampNeg) &&& (63 : Int32)) = 43
  · obtain ⟨τ', inv, k⟩ := O_2025 (l := l) h hx
    exact ⟨τ', inv, fun r σ' w => by unfold W_L_law_18; exact it_n c ⟨hv, (it_n c0 (it_n c1 (it_n c2 (it_n c3 (it_n c4 (it_n c5 (it_n c6 (it_n c7 (it_n c8 (it_n c9 (it_n c10 (it_n c11 (it_n c12 (it_n c13 (it_n c14 (it_n c15 (it_n c16 (it_n c17 (it_n c18 (it_n c19 (it_n c20 (it_n c21 (it_n c22 (it_n c23 (it_n c24 (it_n c25 (it_n c26 (it_n c27 (it_n c28 (it_n c29 (it_n c30 (it_n c31 (it_n c32 (it_n c33 (it_n c34 (it_n c35 (it_n c36 (it_n c37 (it_n c38 (it_n c39 (it_n c40 (it_n c41 (it_n c42 (it_p c43 (k r σ' w)))))))))))))))))))))))))))))))))))))))))))))⟩⟩
  exact ⟨σ, h.mo (Nat.le_succ m), fun r σ' w => by unfold W_L_law_18; exact it_n c ⟨hv, (it_n c0 (it_n c1 (it_n c2 (it_n c3 (it_n c4 (it_n c5 (it_n c6 (it_n c7 (it_n c8 (it_n c9 (it_n c10 (it_n c11 (it_n c12 (it_n c13 (it_n c14 (it_n c15 (it_n c16 (it_n c17 (it_n c18 (it_n c19 (it_n c20 (it_n c21 (it_n c22 (it_n c23 (it_n c24 (it_n c25 (it_n c26 (it_n c27 (it_n c28 (it_n c29 (it_n c30 (it_n c31 (it_n c32 (it_n c33 (it_n c34 (it_n c35 (it_n c36 (it_n c37 (it_n c38 (it_n c39 (it_n c40 (it_n c41 (it_n c42 (it_n c43 w))))))))))))))))))))))))))))))))))))))))))))⟩⟩
/-! room at the end -/
theorem sum_flt {p : Nat → Bool} : ∀ L : List Nat, (L.filter p).sum ≤ L.sum
  | [] => Nat.le_refl _
  | x :: L => by
    have := sum_flt (p := p) L
    rw [List.filter_cons]
    by_cases c : p x = true
    · rw [if_pos c, List.sum_cons, List.sum_cons]; omega
    · rw [if_neg c, List.sum_cons]; omega
theorem len_flt {p : Nat → Bool} (L : List Nat) : (L.filter p).length ≤ L.length := List.length_filter_le _ _
def usM (j : Nat) : Nat := (chT (msJ j)).sum * wdJ j
def ctM (j : Nat) : Nat := (chT (msJ j)).length
theorem us_M : sum8 usM ≤ 400000 ∧ sum8 ctM ≤ 1000 := by decide +kernel
theorem sum8_le {f g : Nat → Nat} (h : ∀ j, f j ≤ g j) : sum8 f ≤ sum8 g := by
  have a0 := h 0
  have a1 := h 1
  have a2 := h 2
  have a3 := h 3
  have a4 := h 4
  have a5 := h 5
  have a6 := h 6
  have a7 := h 7
  unfold sum8; omega
theorem us_le {σ : AH} {o : Nat} : us σ o ≤ 400000 ∧ ct σ o ≤ 1000 := ⟨Nat.le_trans (sum8_le (g := usM) (fun j => Nat.mul_le_mul_right _ (sum_flt _))) us_M.1, Nat.le_trans (sum8_le (g := ctM) (fun j => len_flt _)) us_M.2⟩
theorem usI_le {σ : AH} {k : Nat} : usI σ k ≤ 400000 ∧ ctI σ k ≤ 1000 := by
  unfold usI ctI
  cases gR σ 21 k with
  | none => exact ⟨Nat.zero_le _, Nat.zero_le _⟩
  | some o => exact us_le
theorem Inv.room {m : Nat} {σ : AH} (h : Inv m σ) (hm : m ≤ 512) : nx σ ≤ 600000 ∧ sl σ ≤ 7302250 := by
  obtain ⟨a, b⟩ := h.2.1
  have h1 := us_le (σ := σ) (o := 1)
  have i0 := usI_le (σ := σ) (k := 0)
  have i1 := usI_le (σ := σ) (k := 1)
  have i2 := usI_le (σ := σ) (k := 2)
  unfold usA at a
  unfold ctA at b
  exact ⟨by omega, by omega⟩
theorem vp_n {i n : Nat} (h : i < n) (hn : n ≤ 4608) : vp_in (nI i) n := by
  unfold vp_in
  intro z
  rcases z with z | z
  · exact nI_pos (show i < 2 ^ 31 by omega) z
  · have : (nI i).toNatClampNeg = i := nI_clamp (by omega)
    omega
theorem law_loop {X : Sx} {l : Launch} (hL : X.1 ≤ 4608) : ∀ (k i : Nat) (σ : AH), k + i = 512 → Inv i σ → ∃ σ', nx σ' ≤ 600000 ∧ sl σ' ≤ 7302250 ∧ E X l m_LW 100 18 [(0, .ref 1000000), (1, .ref 0), (2, .ref 124), (3, .int (nI (9 * i)))] [] σ (some (.int 1)) σ' := by
  have cmp : ∀ i, i ≤ 512 → (((Int32.ofNat X.1) - (9 : Int32)) < nI (9 * i) ↔ X.1 < 9 * i + 9) := fun i hi => by
    have e1 : ((Int32.ofNat X.1) - (9 : Int32)).toInt = (X.1 : Int) - 9 := by
      rw [Int32.toInt_sub]
      have a : (Int32.ofNat X.1).toInt = X.1 := nI_toInt (show X.1 < 2 ^ 31 by omega)
      rw [a, show (9 : Int32).toInt = 9 from rfl, Int.bmod_eq_of_le_mul_two (by omega) (by omega)]
    have e2 : (nI (9 * i)).toInt = ((9 * i : Nat) : Int) := nI_toInt (by omega)
    rw [Int32.lt_iff_toInt_lt, e1, e2]
    omega
  intro k
  induction k with
  | zero =>
    intro i σ hk h
    have c : ((Int32.ofNat X.1) - (9 : Int32)) < nI (9 * i) := (cmp i (by omega)).mpr (by omega)
    obtain ⟨r1, r2⟩ := h.room (by omega)
    exact ⟨σ, r1, r2, w_L_law_18 h.1 (by unfold W_L_law_18; exact it_p c ⟨rfl, rfl⟩)⟩
  | succ k ih =>
    intro i σ hk h
    by_cases c : ((Int32.ofNat X.1) - (9 : Int32)) < nI (9 * i)
    · obtain ⟨r1, r2⟩ := h.room (by omega)
      exact ⟨σ, r1, r2, w_L_law_18 h.1 (by unfold W_L_law_18; exact it_p c ⟨rfl, rfl⟩)⟩
    · have lt9 : 9 * i + 9 ≤ X.1 := Nat.not_lt.mp (fun z => c ((cmp i (by omega)).mpr z))
      have ix : ∀ j, j ≤ 8 → vp_in (nI (9 * i) + nI j) X.1 := fun j hj => by rw [nI_add]; exact vp_n (by omega) hL
      obtain ⟨τ', inv, st⟩ := law_step (l := l) (by omega) h (vp_n (by omega) hL) ⟨ix 1 (by decide), ix 2 (by decide), ix 3 (by decide), ix 4 (by decide), ix 5 (by decide), ix 6 (by decide), ix 7 (by decide), ix 8 (by decide)⟩ c
      obtain ⟨σ', r1, r2, e⟩ := ih (i + 1) τ' (by omega) inv
      refine ⟨σ', r1, r2, w_L_law_18 h.1 (st _ _ ?_)⟩
      unfold W_L_law_2038
      rw [show nI (9 * i) + (9 : Int32) = nI (9 * (i + 1)) from nI_add (9 * i) 9]
      exact e
end
