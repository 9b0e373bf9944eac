section
def F_X2_findRoofs_109 (k_X2_findRoofs_29 : Int32 → Int32 → AH → Option AH) (x1 : Int32) (x2 : Int32) (σ : AH) : Option AH := (k_X2_findRoofs_29 x1 (x2 + (-1)) σ)
def F_X2_findRoofs_72 (k_X2_findRoofs_29 : Int32 → Int32 → AH → Option AH) (x1 : Int32) (x2 : Int32) (y0 : Int32) (σ : AH) : Option AH := (if y0 = (-1 : Int32) then (F_X2_findRoofs_109 k_X2_findRoofs_29 x1 x2 σ) else (if inB x2 30 = true then (bd (F_X2_isLived (gI σ 121 x2.toNatClampNeg) x1 σ) fun v30 σ26 => (if v30 = 0 then (if inB y0 60 = true then (F_X2_findRoofs_109 k_X2_findRoofs_29 x1 x2 (sI σ26 123 y0.toNatClampNeg x2)) else none) else (if inB y0 60 = true then (F_X2_findRoofs_109 k_X2_findRoofs_29 x1 x2 (sI σ26 122 y0.toNatClampNeg x2)) else none))) else none))
def B_X2_findRoofs_29 (k_X2_findRoofs_29 : Int32 → Int32 → AH → Option AH) (x1 : Int32) (x2 : Int32) (σ : AH) : Option AH := (if x2 < 0 then (some σ) else (if inB x2 30 = true then (if (gI σ 121 x2.toNatClampNeg) = (-1 : Int32) then (F_X2_findRoofs_72 k_X2_findRoofs_29 x1 x2 (-1 : Int32) σ) else (if inB x2 30 = true then (bd (F_X8_at 17 (gI σ 121 x2.toNatClampNeg) (1 : Int32) σ) fun v22 σ18 => (if inB v22 60 = true then (F_X2_findRoofs_72 k_X2_findRoofs_29 x1 x2 (gI σ18 114 v22.toNatClampNeg) σ18) else none)) else none)) else none))
def F_X2_findRoofs_29 : Nat → Int32 → Int32 → AH → Option AH := fun k => match k with | 0 => fun _ _ _ => none | k + 1 => B_X2_findRoofs_29 (F_X2_findRoofs_29 k)
def F_X2_findRoofs (x1 : Int32) (σ : AH) : Option AH := (lt (sA σ 122 (filln (gI σ 122) 60 (-1 : Int32))) fun τ2 => (lt (sA τ2 123 (filln (gI τ2 123) 60 (-1 : Int32))) fun τ6 => (bd (F_X8_rows 9 τ6) fun v14 σ10 => (F_X2_findRoofs_29 BIG x1 (v14 - (1 : Int32)) σ10))))
set_option maxRecDepth 100000 in
theorem t_X2_findRoofs_109 {X : Sx} {l : Launch} {D : Nat} {k_X2_findRoofs_29 : Int32 → Int32 → AH → Option AH} {x1 : Int32} {x2 : Int32} {σ : AH} {σ' : AH} (hD : 2 ≤ D) (hk_X2_findRoofs_29 : ∀ (x1 : Int32) (x2 : Int32) (σ : AH) (σ' : AH), Sh σ → k_X2_findRoofs_29 x1 x2 σ = some σ' → E X l m_X2_findRoofs D 29 [(0, .ref 119), (1, .int x1), (2, .int x2)] [] σ none σ') (hs : Sh σ) (h : F_X2_findRoofs_109 k_X2_findRoofs_29 x1 x2 σ = some σ') : W_X2_findRoofs_109 X l D x1 x2 σ none σ' := by
  unfold F_X2_findRoofs_109 at h
  unfold W_X2_findRoofs_109
  exact hk_X2_findRoofs_29 _ _ _ _ hs  h
set_option maxRecDepth 100000 in
theorem t_X2_findRoofs_72 {X : Sx} {l : Launch} {D : Nat} {k_X2_findRoofs_29 : Int32 → Int32 → AH → Option AH} {x1 : Int32} {x2 : Int32} {y0 : Int32} {σ : AH} {σ' : AH} (hD : 2 ≤ D) (hk_X2_findRoofs_29 : ∀ (x1 : Int32) (x2 : Int32) (σ : AH) (σ' : AH), Sh σ → k_X2_findRoofs_29 x1 x2 σ = some σ' → E X l m_X2_findRoofs D 29 [(0, .ref 119), (1, .int x1), (2, .int x2)] [] σ none σ') (hs : Sh σ) (h : F_X2_findRoofs_72 k_X2_findRoofs_29 x1 x2 y0 σ = some σ') : W_X2_findRoofs_72 X l D x1 x2 y0 σ none σ' := by
  unfold F_X2_findRoofs_72 at h
  unfold W_X2_findRoofs_72
  refine ite_i (fun c1 => ?_) (fun c1 => ?_)
  · replace h := of_ifp h c1
    exact t_X2_findRoofs_109 hD hk_X2_findRoofs_29 hs  h
  · replace h := of_ifn h c1
    obtain ⟨g2, h⟩ := of_gd h
    refine ⟨(inB_mp g2), ?_⟩
    obtain ⟨v30, σ26, q3, h⟩ := of_bd h
    have hC4 := f_X2_isLived (σ := σ) hs  q3 (X := X) (l := l)
    have hs5 := hC4.1.2.2.2.1 hs
    refine ⟨1, v30, σ26, (Nat.le_trans (by decide) hD), hC4, ?_⟩
    refine ite_i (fun c6 => ?_) (fun c6 => ?_)
    · replace h := of_ifp h c6
      obtain ⟨g7, h⟩ := of_gd h
      refine ⟨(inB_mp g7), ?_⟩
      exact t_X2_findRoofs_109 hD hk_X2_findRoofs_29 hs5  h
    · replace h := of_ifn h c6
      obtain ⟨g8, h⟩ := of_gd h
      refine ⟨(inB_mp g8), ?_⟩
      exact t_X2_findRoofs_109 hD hk_X2_findRoofs_29 hs5  h
set_option maxRecDepth 100000 in
theorem t_X2_findRoofs_29 {X : Sx} {l : Launch} {D : Nat} {k_X2_findRoofs_29 : Int32 → Int32 → AH → Option AH} {x1 : Int32} {x2 : Int32} {σ : AH} {σ' : AH} (hD : 2 ≤ D) (hk_X2_findRoofs_29 : ∀ (x1 : Int32) (x2 : Int32) (σ : AH) (σ' : AH), Sh σ → k_X2_findRoofs_29 x1 x2 σ = some σ' → E X l m_X2_findRoofs D 29 [(0, .ref 119), (1, .int x1), (2, .int x2)] [] σ none σ') (hs : Sh σ) (h : B_X2_findRoofs_29 k_X2_findRoofs_29 x1 x2 σ = some σ') : W_X2_findRoofs_29 X l D x1 x2 σ none σ' := by
  unfold B_X2_findRoofs_29 at h
  unfold W_X2_findRoofs_29
  refine ite_i (fun c1 => ?_) (fun c1 => ?_)
  · replace h := of_ifp h c1
    exact ret_v h
  · replace h := of_ifn h c1
    obtain ⟨g2, h⟩ := of_gd h
    refine ⟨(inB_mp g2), ?_⟩
    refine ite_i (fun c3 => ?_) (fun c3 => ?_)
    · replace h := of_ifp h c3
      exact t_X2_findRoofs_72 hD hk_X2_findRoofs_29 hs  h
    · replace h := of_ifn h c3
      obtain ⟨g4, h⟩ := of_gd h
      refine ⟨(inB_mp g4), ?_⟩
      obtain ⟨v22, σ18, q5, h⟩ := of_bd h
      have hC6 := f_X8_at  q5 (X := X) (l := l)
      have hs7 := hC6.1.2.2.2.1 hs
      refine ⟨0, v22, σ18, (Nat.le_trans (by decide) hD), hC6, ?_⟩
      obtain ⟨g8, h⟩ := of_gd h
      refine ⟨(inB_mp g8), ?_⟩
      exact t_X2_findRoofs_72 hD hk_X2_findRoofs_29 hs7  h
theorem e_X2_findRoofs_29 {X : Sx} {l : Launch} {D : Nat} (hD : 2 ≤ D) : ∀ (k : Nat) (x1 : Int32) (x2 : Int32) (σ : AH) (σ' : AH), Sh σ → F_X2_findRoofs_29 k x1 x2 σ = some σ' → E X l m_X2_findRoofs D 29 [(0, .ref 119), (1, .int x1), (2, .int x2)] [] σ none σ' := by
  intro k
  induction k with
  | zero => intro x1 x2 σ σ' hs h; cases h
  | succ k ih =>
    intro x1 x2 σ σ' hs h
    exact w_X2_findRoofs_29 hs  (t_X2_findRoofs_29 hD ih hs  h)
set_option maxRecDepth 100000 in
theorem t_X2_findRoofs_0 {X : Sx} {l : Launch} {D : Nat} {x1 : Int32} {σ : AH} {σ' : AH} (hD : 2 ≤ D) (hs : Sh σ) (h : F_X2_findRoofs x1 σ = some σ') : W_X2_findRoofs_0 X l D x1 σ none σ' := by
  unfold F_X2_findRoofs at h
  unfold W_X2_findRoofs_0
  refine ⟨Nat.le_trans (by decide) hD, ?_⟩
  intro τ2 e1
  replace h := of_lt h e1
  have hs2 : Sh τ2 := by rw [e1]; exact hs
  refine ⟨Nat.le_trans (by decide) hD, ?_⟩
  intro τ6 e3
  replace h := of_lt h e3
  have hs4 : Sh τ6 := by rw [e3]; exact hs2
  obtain ⟨v14, σ10, q5, h⟩ := of_bd h
  have hC6 := f_X8_rows  q5 (X := X) (l := l)
  have hs7 := hC6.1.2.2.2.1 hs4
  refine ⟨0, v14, σ10, (Nat.le_trans (by decide) hD), hC6, ?_⟩
  exact e_X2_findRoofs_29 hD  _ _ _ _ _ hs7  h
theorem f_X2_findRoofs {X : Sx} {l : Launch} {x1 : Int32} {σ : AH} {σ' : AH} (hs : Sh σ) (h : F_X2_findRoofs x1 σ = some σ') : Call X l m_X2_findRoofs 2 [.ref 119, .int x1] σ none σ' :=
  Call.ofE ok_X2_findRoofs rfl (Nat.le_of_ble_eq_true rfl) (w_X2_findRoofs_0 hs  (t_X2_findRoofs_0 (Nat.le_refl _) hs  h))
def F_X6_isDoneBy (x0 : Nat) (x1 : Int32) (x2 : Int32) (σ : AH) : Option (Int32 × AH) := (bd (F_X6_doneWeek x0 x1 σ) fun v6 σ2 => (if v6 = (-1 : Int32) then (some ((0 : Int32), σ2)) else (bd (F_X6_doneWeek x0 x1 σ2) fun v12 σ8 => (if x2 < v12 then (some ((0 : Int32), σ8)) else (some ((1 : Int32), σ8))))))
set_option maxRecDepth 100000 in
theorem t_X6_isDoneBy_0 {X : Sx} {l : Launch} {D : Nat} {x0 : Nat} {x1 : Int32} {x2 : Int32} {σ : AH} {v : Int32} {σ' : AH} (hD : 1 ≤ D) (hs : Sh σ) (hmx0 : x0 ∈ runIds) (h : F_X6_isDoneBy x0 x1 x2 σ = some (v, σ')) : W_X6_isDoneBy_0 X l D x0 x1 x2 σ (some (.int v)) σ' := by
  unfold F_X6_isDoneBy at h
  unfold W_X6_isDoneBy_0
  obtain ⟨v6, σ2, q1, h⟩ := of_bd h
  have hC2 := f_X6_doneWeek (σ := σ) hs (by first | assumption | exact st_stock (by assumption) | exact rn_site (by assumption) | decide) q1 (X := X) (l := l)
  have hs3 := hC2.1.2.2.2.1 hs
  refine ⟨0, v6, σ2, (Nat.le_trans (by decide) hD), hC2, ?_⟩
  refine ite_i (fun c4 => ?_) (fun c4 => ?_)
  · replace h := of_ifp h c4
    exact ret_i h
  · replace h := of_ifn h c4
    obtain ⟨v12, σ8, q5, h⟩ := of_bd h
    have hC6 := f_X6_doneWeek (σ := σ2) hs3 (by first | assumption | exact st_stock (by assumption) | exact rn_site (by assumption) | decide) q5 (X := X) (l := l)
    have hs7 := hC6.1.2.2.2.1 hs3
    refine ⟨0, v12, σ8, (Nat.le_trans (by decide) hD), hC6, ?_⟩
    refine ite_i (fun c8 => ?_) (fun c8 => ?_)
    · replace h := of_ifp h c8
      exact ret_i h
    · replace h := of_ifn h c8
      exact ret_i h
theorem f_X6_isDoneBy {X : Sx} {l : Launch} {x0 : Nat} {x1 : Int32} {x2 : Int32} {σ : AH} {v : Int32} {σ' : AH} (hs : Sh σ) (hmx0 : x0 ∈ runIds) (h : F_X6_isDoneBy x0 x1 x2 σ = some (v, σ')) : Call X l m_X6_isDoneBy 1 [.ref x0, .int x1, .int x2] σ (some (.int v)) σ' :=
  Call.ofE ok_X6_isDoneBy rfl (Nat.le_of_ble_eq_true rfl) (w_X6_isDoneBy_0 hs hmx0 (t_X6_isDoneBy_0 (Nat.le_refl _) hs hmx0 h))
def F_X2_lookRound_55 (k_X2_lookRound_2 : Int32 → Nat → Int32 → AH → Option AH) (x1 : Int32) (x2 : Nat) (x3 : Int32) (y0 : Int32) (y1 : Int32) (σ : AH) : Option AH := (if inB y1 30 = true then (bd (F_X2_stayIn x3 x1 (sI σ 120 y1.toNatClampNeg y0)) fun v30 σ26 => (if inB x3 30 = true then (k_X2_lookRound_2 x1 x2 (x3 + 1) (sI σ26 121 x3.toNatClampNeg v30)) else none)) else none)
def F_X2_lookRound_36 (k_X2_lookRound_2 : Int32 → Nat → Int32 → AH → Option AH) (x1 : Int32) (x2 : Nat) (x3 : Int32) (y0 : Int32) (σ : AH) : Option AH := (if y0 ≤ x1 then (F_X2_lookRound_55 k_X2_lookRound_2 x1 x2 x3 (0 : Int32) x3 σ) else (F_X2_lookRound_55 k_X2_lookRound_2 x1 x2 x3 y0 x3 σ))
def B_X2_lookRound_2 (k_X2_lookRound_2 : Int32 → Nat → Int32 → AH → Option AH) (x1 : Int32) (x2 : Nat) (x3 : Int32) (σ : AH) : Option AH := (bd (F_X8_rows 9 σ) fun v6 σ2 => (if v6 ≤ x3 then (bv (F_X2_findRoofs x1 σ2) fun σ8 => (some σ8)) else (bd (F_X6_isDoneBy x2 x3 x1 σ2) fun v17 σ13 => (if v17 = 0 then (F_X2_lookRound_36 k_X2_lookRound_2 x1 x2 x3 (0 : Int32) σ13) else (bd (F_X2_endOf x3 x2 x1 σ13) fun v23 σ19 => (F_X2_lookRound_36 k_X2_lookRound_2 x1 x2 x3 v23 σ19))))))
def F_X2_lookRound_2 : Nat → Int32 → Nat → Int32 → AH → Option AH := fun k => match k with | 0 => fun _ _ _ _ => none | k + 1 => B_X2_lookRound_2 (F_X2_lookRound_2 k)
def F_X2_lookRound (x1 : Int32) (x2 : Nat) (σ : AH) : Option AH := (F_X2_lookRound_2 BIG x1 x2 (0 : Int32) σ)
set_option maxRecDepth 100000 in
theorem t_X2_lookRound_55 {X : Sx} {l : Launch} {D : Nat} {k_X2_lookRound_2 : Int32 → Nat → Int32 → AH → Option AH} {x1 : Int32} {x2 : Nat} {x3 : Int32} {y0 : Int32} {y1 : Int32} {σ : AH} {σ' : AH} (hD : 4 ≤ D) (hk_X2_lookRound_2 : ∀ (x1 : Int32) (x2 : Nat) (x3 : Int32) (σ : AH) (σ' : AH), Sh σ → x2 ∈ runIds → k_X2_lookRound_2 x1 x2 x3 σ = some σ' → E X l m_X2_lookRound D 2 [(0, .ref 119), (1, .int x1), (2, .ref x2), (3, .int x3)] [] σ none σ') (hs : Sh σ) (hmx2 : x2 ∈ runIds) (h : F_X2_lookRound_55 k_X2_lookRound_2 x1 x2 x3 y0 y1 σ = some σ') : W_X2_lookRound_55 X l D x1 x2 x3 y0 y1 σ none σ' := by
  unfold F_X2_lookRound_55 at h
  unfold W_X2_lookRound_55
  obtain ⟨g1, h⟩ := of_gd h
  refine ⟨(inB_mp g1), ?_⟩
  obtain ⟨v30, σ26, q2, h⟩ := of_bd h
  have hC3 := f_X2_stayIn (σ := (sI σ 120 y1.toNatClampNeg y0)) hs  q2 (X := X) (l := l)
  have hs4 := hC3.1.2.2.2.1 hs
  refine ⟨1, v30, σ26, (Nat.le_trans (by decide) hD), hC3, ?_⟩
  obtain ⟨g5, h⟩ := of_gd h
  refine ⟨(inB_mp g5), ?_⟩
  exact hk_X2_lookRound_2 _ _ _ _ _ hs4 (by first | assumption | exact st_stock (by assumption) | exact rn_site (by assumption) | decide) h
set_option maxRecDepth 100000 in
theorem t_X2_lookRound_36 {X : Sx} {l : Launch} {D : Nat} {k_X2_lookRound_2 : Int32 → Nat → Int32 → AH → Option AH} {x1 : Int32} {x2 : Nat} {x3 : Int32} {y0 : Int32} {σ : AH} {σ' : AH} (hD : 4 ≤ D) (hk_X2_lookRound_2 : ∀ (x1 : Int32) (x2 : Nat) (x3 : Int32) (σ : AH) (σ' : AH), Sh σ → x2 ∈ runIds → k_X2_lookRound_2 x1 x2 x3 σ = some σ' → E X l m_X2_lookRound D 2 [(0, .ref 119), (1, .int x1), (2, .ref x2), (3, .int x3)] [] σ none σ') (hs : Sh σ) (hmx2 : x2 ∈ runIds) (h : F_X2_lookRound_36 k_X2_lookRound_2 x1 x2 x3 y0 σ = some σ') : W_X2_lookRound_36 X l D x1 x2 x3 y0 σ none σ' := by
  unfold F_X2_lookRound_36 at h
  unfold W_X2_lookRound_36
  refine ite_i (fun c1 => ?_) (fun c1 => ?_)
  · replace h := of_ifp h c1
    exact t_X2_lookRound_55 hD hk_X2_lookRound_2 hs (by first | assumption | exact st_stock (by assumption) | exact rn_site (by assumption) | decide) h
  · replace h := of_ifn h c1
    exact t_X2_lookRound_55 hD hk_X2_lookRound_2 hs (by first | assumption | exact st_stock (by assumption) | exact rn_site (by assumption) | decide) h
set_option maxRecDepth 100000 in
theorem t_X2_lookRound_2 {X : Sx} {l : Launch} {D : Nat} {k_X2_lookRound_2 : Int32 → Nat → Int32 → AH → Option AH} {x1 : Int32} {x2 : Nat} {x3 : Int32} {σ : AH} {σ' : AH} (hD : 4 ≤ D) (hk_X2_lookRound_2 : ∀ (x1 : Int32) (x2 : Nat) (x3 : Int32) (σ : AH) (σ' : AH), Sh σ → x2 ∈ runIds → k_X2_lookRound_2 x1 x2 x3 σ = some σ' → E X l m_X2_lookRound D 2 [(0, .ref 119), (1, .int x1), (2, .ref x2), (3, .int x3)] [] σ none σ') (hs : Sh σ) (hmx2 : x2 ∈ runIds) (h : B_X2_lookRound_2 k_X2_lookRound_2 x1 x2 x3 σ = some σ') : W_X2_lookRound_2 X l D x1 x2 x3 σ none σ' := by
  unfold B_X2_lookRound_2 at h
  unfold W_X2_lookRound_2
  obtain ⟨v6, σ2, q1, h⟩ := of_bd h
  have hC2 := f_X8_rows  q1 (X := X) (l := l)
  have hs3 := hC2.1.2.2.2.1 hs
  refine ⟨0, v6, σ2, (Nat.le_trans (by decide) hD), hC2, ?_⟩
  refine ite_i (fun c4 => ?_) (fun c4 => ?_)
  · replace h := of_ifp h c4
    obtain ⟨σ8, q5, h⟩ := of_bv h
    have hC6 := f_X2_findRoofs (σ := σ2) hs3  q5 (X := X) (l := l)
    have hs7 := hC6.1.2.2.2.1 hs3
    refine ⟨2, σ8, (Nat.le_trans (by decide) hD), hC6, ?_⟩
    exact ret_v h
  · replace h := of_ifn h c4
    obtain ⟨v17, σ13, q8, h⟩ := of_bd h
    have hC9 := f_X6_isDoneBy (σ := σ2) hs3 (by first | assumption | exact st_stock (by assumption) | exact rn_site (by assumption) | decide) q8 (X := X) (l := l)
    have hs10 := hC9.1.2.2.2.1 hs3
    refine ⟨1, v17, σ13, (Nat.le_trans (by decide) hD), hC9, ?_⟩
    refine ite_i (fun c11 => ?_) (fun c11 => ?_)
    · replace h := of_ifp h c11
      exact t_X2_lookRound_36 hD hk_X2_lookRound_2 hs10 (by first | assumption | exact st_stock (by assumption) | exact rn_site (by assumption) | decide) h
    · replace h := of_ifn h c11
      obtain ⟨v23, σ19, q12, h⟩ := of_bd h
      have hC13 := f_X2_endOf (σ := σ13) hs10 (by first | assumption | exact st_stock (by assumption) | exact rn_site (by assumption) | decide) q12 (X := X) (l := l)
      have hs14 := hC13.1.2.2.2.1 hs10
      refine ⟨3, v23, σ19, (Nat.le_trans (by decide) hD), hC13, ?_⟩
      exact t_X2_lookRound_36 hD hk_X2_lookRound_2 hs14 (by first | assumption | exact st_stock (by assumption) | exact rn_site (by assumption) | decide) h
theorem e_X2_lookRound_2 {X : Sx} {l : Launch} {D : Nat} (hD : 4 ≤ D) : ∀ (k : Nat) (x1 : Int32) (x2 : Nat) (x3 : Int32) (σ : AH) (σ' : AH), Sh σ → x2 ∈ runIds → F_X2_lookRound_2 k x1 x2 x3 σ = some σ' → E X l m_X2_lookRound D 2 [(0, .ref 119), (1, .int x1), (2, .ref x2), (3, .int x3)] [] σ none σ' := by
  intro k
  induction k with
  | zero => intro x1 x2 x3 σ σ' hs hmx2 h; cases h
  | succ k ih =>
    intro x1 x2 x3 σ σ' hs hmx2 h
    exact w_X2_lookRound_2 hs hmx2 (t_X2_lookRound_2 hD ih hs hmx2 h)
set_option maxRecDepth 100000 in
theorem t_X2_lookRound_0 {X : Sx} {l : Launch} {D : Nat} {x1 : Int32} {x2 : Nat} {σ : AH} {σ' : AH} (hD : 4 ≤ D) (hs : Sh σ) (hmx2 : x2 ∈ runIds) (h : F_X2_lookRound x1 x2 σ = some σ') : W_X2_lookRound_0 X l D x1 x2 σ none σ' := by
  unfold F_X2_lookRound at h
  unfold W_X2_lookRound_0
  exact e_X2_lookRound_2 hD  _ _ _ _ _ _ hs (by first | assumption | exact st_stock (by assumption) | exact rn_site (by assumption) | decide) h
theorem f_X2_lookRound {X : Sx} {l : Launch} {x1 : Int32} {x2 : Nat} {σ : AH} {σ' : AH} (hs : Sh σ) (hmx2 : x2 ∈ runIds) (h : F_X2_lookRound x1 x2 σ = some σ') : Call X l m_X2_lookRound 4 [.ref 119, .int x1, .ref x2] σ none σ' :=
  Call.ofE ok_X2_lookRound rfl (Nat.le_of_ble_eq_true rfl) (w_X2_lookRound_0 hs hmx2 (t_X2_lookRound_0 (Nat.le_refl _) hs hmx2 h))
def F_X2_isFree (x1 : Int32) (σ : AH) : Option (Int32 × AH) := (if inB x1 30 = true then (if (gI σ 120 x1.toNatClampNeg) ≤ 0 then (some ((0 : Int32), σ)) else (if inB x1 30 = true then (if (gI σ 121 x1.toNatClampNeg) = (-1 : Int32) then (some ((1 : Int32), σ)) else (some ((0 : Int32), σ))) else none)) else none)
set_option maxRecDepth 100000 in
theorem t_X2_isFree_0 {X : Sx} {l : Launch} {D : Nat} {x1 : Int32} {σ : AH} {v : Int32} {σ' : AH} (hD : 0 ≤ D) (hs : Sh σ) (h : F_X2_isFree x1 σ = some (v, σ')) : W_X2_isFree_0 X l D x1 σ (some (.int v)) σ' := by
  unfold F_X2_isFree at h
  unfold W_X2_isFree_0
  obtain ⟨g1, h⟩ := of_gd h
  refine ⟨(inB_mp g1), ?_⟩
  refine ite_i (fun c2 => ?_) (fun c2 => ?_)
  · replace h := of_ifp h c2
    exact ret_i h
  · replace h := of_ifn h c2
    obtain ⟨g3, h⟩ := of_gd h
    refine ⟨(inB_mp g3), ?_⟩
    refine ite_i (fun c4 => ?_) (fun c4 => ?_)
    · replace h := of_ifp h c4
      exact ret_i h
    · replace h := of_ifn h c4
      exact ret_i h
theorem f_X2_isFree {X : Sx} {l : Launch} {x1 : Int32} {σ : AH} {v : Int32} {σ' : AH} (hs : Sh σ) (h : F_X2_isFree x1 σ = some (v, σ')) : Call X l m_X2_isFree 0 [.ref 119, .int x1] σ (some (.int v)) σ' :=
  Call.ofE ok_X2_isFree rfl (Nat.le_of_ble_eq_true rfl) (w_X2_isFree_0 hs  (t_X2_isFree_0 (Nat.le_refl _) hs  h))
def F_X2_isRoofless (x1 : Int32) (σ : AH) : Option (Int32 × AH) := (if inB x1 60 = true then (if (gI σ 122 x1.toNatClampNeg) = (-1 : Int32) then (if inB x1 60 = true then (if (gI σ 123 x1.toNatClampNeg) = (-1 : Int32) then (some ((1 : Int32), σ)) else (some ((0 : Int32), σ))) else none) else (some ((0 : Int32), σ))) else none)
set_option maxRecDepth 100000 in
theorem t_X2_isRoofless_0 {X : Sx} {l : Launch} {D : Nat} {x1 : Int32} {σ : AH} {v : Int32} {σ' : AH} (hD : 0 ≤ D) (hs : Sh σ) (h : F_X2_isRoofless x1 σ = some (v, σ')) : W_X2_isRoofless_0 X l D x1 σ (some (.int v)) σ' := by
  unfold F_X2_isRoofless at h
  unfold W_X2_isRoofless_0
  obtain ⟨g1, h⟩ := of_gd h
  refine ⟨(inB_mp g1), ?_⟩
  refine ite_i (fun c2 => ?_) (fun c2 => ?_)
  · replace h := of_ifp h c2
    obtain ⟨g3, h⟩ := of_gd h
    refine ⟨(inB_mp g3), ?_⟩
    refine ite_i (fun c4 => ?_) (fun c4 => ?_)
    · replace h := of_ifp h c4
      exact ret_i h
    · replace h := of_ifn h c4
      exact ret_i h
  · replace h := of_ifn h c2
    exact ret_i h
theorem f_X2_isRoofless {X : Sx} {l : Launch} {x1 : Int32} {σ : AH} {v : Int32} {σ' : AH} (hs : Sh σ) (h : F_X2_isRoofless x1 σ = some (v, σ')) : Call X l m_X2_isRoofless 0 [.ref 119, .int x1] σ (some (.int v)) σ' :=
  Call.ofE ok_X2_isRoofless rfl (Nat.le_of_ble_eq_true rfl) (w_X2_isRoofless_0 hs  (t_X2_isRoofless_0 (Nat.le_refl _) hs  h))
def F_X8_put (x0 : Nat) (x1 : Int32) (x2 : Int32) (x3 : Int32) (σ : AH) : Option AH := (if kd σ x0 = (8, NO 8) then (if x0 < nx σ then (if ((x1 * (gI σ x0 0)) + x2) < 0 then (some σ) else (bo (gR σ x0 2) fun b1 => if (kd σ b1).1 = 100 ∧ b1 < nx σ then (if (Int32.ofNat (kd σ b1).2) ≤ ((x1 * (gI σ x0 0)) + x2) then (some σ) else (bo (gR σ x0 2) fun b6 => if (kd σ b6).1 = 100 ∧ b6 < nx σ then (if alB m_X8_put b6 = true then (if inB ((x1 * (gI σ x0 0)) + x2) (kd σ b6).2 = true then (some (sI σ b6 (((x1 * (gI σ x0 0)) + x2).toNatClampNeg) x3)) else none) else none) else none)) else none)) else none) else none)
set_option maxRecDepth 100000 in
theorem t_X8_put_0 {X : Sx} {l : Launch} {D : Nat} {x0 : Nat} {x1 : Int32} {x2 : Int32} {x3 : Int32} {σ : AH} {σ' : AH} (hD : 0 ≤ D) (h : F_X8_put x0 x1 x2 x3 σ = some σ') : W_X8_put_0 X l D x0 x1 x2 x3 σ none σ' := by
  unfold F_X8_put at h
  unfold W_X8_put_0
  obtain ⟨g1, h⟩ := of_gd h
  refine ⟨g1, ?_⟩
  obtain ⟨g2, h⟩ := of_gd h
  refine ⟨g2, ?_⟩
  refine ite_i (fun c3 => ?_) (fun c3 => ?_)
  · replace h := of_ifp h c3
    exact ret_v h
  · replace h := of_ifn h c3
    obtain ⟨b1, e5, h⟩ := of_bo h
    obtain ⟨g4, h⟩ := of_gd h
    refine ⟨b1, _, e5, Prod.ext g4.1 rfl, g4.2, ?_⟩
    refine ite_i (fun c6 => ?_) (fun c6 => ?_)
    · replace h := of_ifp h c6
      exact ret_v h
    · replace h := of_ifn h c6
      obtain ⟨b6, e8, h⟩ := of_bo h
      obtain ⟨g7, h⟩ := of_gd h
      refine ⟨b6, _, e8, Prod.ext g7.1 rfl, g7.2, ?_⟩
      obtain ⟨g9, h⟩ := of_gd h
      refine ⟨(alB_mp g9), ?_⟩
      obtain ⟨g10, h⟩ := of_gd h
      refine ⟨(inB_mp g10), ?_⟩
      exact ret_v h
theorem f_X8_put {X : Sx} {l : Launch} {x0 : Nat} {x1 : Int32} {x2 : Int32} {x3 : Int32} {σ : AH} {σ' : AH} (h : F_X8_put x0 x1 x2 x3 σ = some σ') : Call X l m_X8_put 0 [.ref x0, .int x1, .int x2, .int x3] σ none σ' :=
  Call.ofE ok_X8_put rfl (Nat.le_of_ble_eq_true rfl) (w_X8_put_0  (t_X8_put_0 (Nat.le_refl _)  h))
def F_X2_leave (x1 : Int32) (x2 : Int32) (σ : AH) : Option AH := (if x1 = (-1 : Int32) then (some σ) else (if inB x1 30 = true then (bv (F_X8_put 17 (gI σ 121 x1.toNatClampNeg) (5 : Int32) x2 σ) fun σ3 => (if inB x1 30 = true then (some (sI σ3 121 x1.toNatClampNeg (-1 : Int32))) else none)) else none))
set_option maxRecDepth 100000 in
theorem t_X2_leave_0 {X : Sx} {l : Launch} {D : Nat} {x1 : Int32} {x2 : Int32} {σ : AH} {σ' : AH} (hD : 1 ≤ D) (hs : Sh σ) (h : F_X2_leave x1 x2 σ = some σ') : W_X2_leave_0 X l D x1 x2 σ none σ' := by
  unfold F_X2_leave at h
  unfold W_X2_leave_0
  refine ite_i (fun c1 => ?_) (fun c1 => ?_)
  · replace h := of_ifp h c1
    exact ret_v h
  · replace h := of_ifn h c1
    obtain ⟨g2, h⟩ := of_gd h
    refine ⟨(inB_mp g2), ?_⟩
    obtain ⟨σ3, q3, h⟩ := of_bv h
    have hC4 := f_X8_put  q3 (X := X) (l := l)
    have hs5 := hC4.1.2.2.2.1 hs
    refine ⟨0, σ3, (Nat.le_trans (by decide) hD), hC4, ?_⟩
    obtain ⟨g6, h⟩ := of_gd h
    refine ⟨(inB_mp g6), ?_⟩
    exact ret_v h
theorem f_X2_leave {X : Sx} {l : Launch} {x1 : Int32} {x2 : Int32} {σ : AH} {σ' : AH} (hs : Sh σ) (h : F_X2_leave x1 x2 σ = some σ') : Call X l m_X2_leave 1 [.ref 119, .int x1, .int x2] σ none σ' :=
  Call.ofE ok_X2_leave rfl (Nat.le_of_ble_eq_true rfl) (w_X2_leave_0 hs  (t_X2_leave_0 (Nat.le_refl _) hs  h))
def F_X8_add_63 (x0 : Nat) (σ : AH) : Option (Int32 × AH) := (if kd σ x0 = (8, NO 8) then (if x0 < nx σ then (if alB m_X8_add x0 = true then (some (((gI (sI σ x0 3 ((gI σ x0 3) + (1 : Int32))) x0 3) - (1 : Int32)), (sI σ x0 3 ((gI σ x0 3) + (1 : Int32))))) else none) else none) else none)
def F_X8_add (x0 : Nat) (σ : AH) : Option (Int32 × AH) := (if kd σ x0 = (8, NO 8) then (if x0 < nx σ then (if (gI σ x0 3) < (gI σ x0 1) then (bo (gR σ x0 2) fun b1 => if (kd σ b1).1 = 100 ∧ b1 < nx σ then (if (((gI σ x0 3) + (1 : Int32)) * (gI σ x0 0)) ≤ (Int32.ofNat (kd σ b1).2) then (F_X8_add_63 x0 σ) else (bo (gR σ x0 2) fun b6 => if (kd σ b6).1 = 100 ∧ b6 < nx σ then (bd (F_J7_copyOf_59c91 b6 ((imin (gI σ x0 1) (((gI σ x0 3) + (1 : Int32)) * (2 : Int32))) * (gI σ x0 0)) σ) fun b17 σ13 => if (kd σ13 b17).1 = 100 ∧ b17 < nx σ13 then (if alB m_X8_add x0 = true then (if shOK x0 2 = true then (lt (sR σ13 x0 2 (some b17)) fun τ25 => (F_X8_add_63 x0 τ25)) else none) else none) else none) else none)) else none) else (some ((-1 : Int32), σ))) else none) else none)
set_option maxRecDepth 100000 in
theorem t_X8_add_63 {X : Sx} {l : Launch} {D : Nat} {x0 : Nat} {σ : AH} {v : Int32} {σ' : AH} (hD : 5 ≤ D) (h : F_X8_add_63 x0 σ = some (v, σ')) : W_X8_add_63 X l D x0 σ (some (.int v)) σ' := by
  unfold F_X8_add_63 at h
  unfold W_X8_add_63
  obtain ⟨g1, h⟩ := of_gd h
  refine ⟨g1, ?_⟩
  obtain ⟨g2, h⟩ := of_gd h
  refine ⟨g2, ?_⟩
  obtain ⟨g3, h⟩ := of_gd h
  refine ⟨(alB_mp g3), ?_⟩
  exact ret_i h
set_option maxRecDepth 100000 in
theorem t_X8_add_0 {X : Sx} {l : Launch} {D : Nat} {x0 : Nat} {σ : AH} {v : Int32} {σ' : AH} (hD : 5 ≤ D) (h : F_X8_add x0 σ = some (v, σ')) : W_X8_add_0 X l D x0 σ (some (.int v)) σ' := by
  unfold F_X8_add at h
  unfold W_X8_add_0
  obtain ⟨g1, h⟩ := of_gd h
  refine ⟨g1, ?_⟩
  obtain ⟨g2, h⟩ := of_gd h
  refine ⟨g2, ?_⟩
  refine ite_i (fun c3 => ?_) (fun c3 => ?_)
  · replace h := of_ifp h c3
    obtain ⟨b1, e5, h⟩ := of_bo h
    obtain ⟨g4, h⟩ := of_gd h
    refine ⟨b1, _, e5, Prod.ext g4.1 rfl, g4.2, ?_⟩
    refine ite_i (fun c6 => ?_) (fun c6 => ?_)
    · replace h := of_ifp h c6
      exact t_X8_add_63 hD    h
    · replace h := of_ifn h c6
      obtain ⟨b6, e8, h⟩ := of_bo h
      obtain ⟨g7, h⟩ := of_gd h
      refine ⟨b6, _, e8, Prod.ext g7.1 rfl, g7.2, ?_⟩
      refine ⟨Nat.le_trans (by decide) hD, ?_⟩
      obtain ⟨b17, σ13, q9, h⟩ := of_bd h
      have hC10 := f_J7_copyOf_59c91  q9 (X := X) (l := l)
      obtain ⟨g12, h⟩ := of_gd h
      refine ⟨4, b17, _, σ13, (Nat.le_trans (by decide) hD), hC10, Prod.ext g12.1 rfl, g12.2, ?_⟩
      obtain ⟨g13, h⟩ := of_gd h
      refine ⟨(alB_mp g13), ?_⟩
      obtain ⟨g14, h⟩ := of_gd h
      refine ⟨(fun q => shOK_mp g14 q), ?_⟩
      intro τ25 e15
      replace h := of_lt h e15
      exact t_X8_add_63 hD    h
  · replace h := of_ifn h c3
    exact ret_i h
theorem f_X8_add {X : Sx} {l : Launch} {x0 : Nat} {σ : AH} {v : Int32} {σ' : AH} (h : F_X8_add x0 σ = some (v, σ')) : Call X l m_X8_add 5 [.ref x0] σ (some (.int v)) σ' :=
  Call.ofE ok_X8_add rfl (Nat.le_of_ble_eq_true rfl) (w_X8_add_0  (t_X8_add_0 (Nat.le_refl _)  h))
def B_X2_emptyStay_2 (k_X2_emptyStay_2 : Int32 → AH → Option (Int32 × AH)) (x1 : Int32) (σ : AH) : Option (Int32 × AH) := (bd (F_X8_rows 17 σ) fun v6 σ2 => (if v6 ≤ x1 then (bd (F_X8_add 17 σ2) fun v12 σ8 => (some (v12, σ8))) else (bd (F_X8_at 17 x1 (2 : Int32) σ2) fun v18 σ14 => (bd (F_X8_at 17 x1 (5 : Int32) σ14) fun v24 σ20 => (if v18 = v24 then (some (x1, σ20)) else (k_X2_emptyStay_2 (x1 + 1) σ20))))))
def F_X2_emptyStay_2 : Nat → Int32 → AH → Option (Int32 × AH) := fun k => match k with | 0 => fun _ _ => none | k + 1 => B_X2_emptyStay_2 (F_X2_emptyStay_2 k)
def F_X2_emptyStay (σ : AH) : Option (Int32 × AH) := (F_X2_emptyStay_2 BIG (0 : Int32) σ)
set_option maxRecDepth 100000 in
theorem t_X2_emptyStay_2 {X : Sx} {l : Launch} {D : Nat} {k_X2_emptyStay_2 : Int32 → AH → Option (Int32 × AH)} {x1 : Int32} {σ : AH} {v : Int32} {σ' : AH} (hD : 6 ≤ D) (hk_X2_emptyStay_2 : ∀ (x1 : Int32) (σ : AH) (v : Int32) (σ' : AH), Sh σ → k_X2_emptyStay_2 x1 σ = some (v, σ') → E X l m_X2_emptyStay D 2 [(0, .ref 119), (1, .int x1)] [] σ (some (.int v)) σ') (hs : Sh σ) (h : B_X2_emptyStay_2 k_X2_emptyStay_2 x1 σ = some (v, σ')) : W_X2_emptyStay_2 X l D x1 σ (some (.int v)) σ' := by
  unfold B_X2_emptyStay_2 at h
  unfold W_X2_emptyStay_2
  obtain ⟨v6, σ2, q1, h⟩ := of_bd h
  have hC2 := f_X8_rows  q1 (X := X) (l := l)
  have hs3 := hC2.1.2.2.2.1 hs
  refine ⟨0, v6, σ2, (Nat.le_trans (by decide) hD), hC2, ?_⟩
  refine ite_i (fun c4 => ?_) (fun c4 => ?_)
  · replace h := of_ifp h c4
    obtain ⟨v12, σ8, q5, h⟩ := of_bd h
    have hC6 := f_X8_add  q5 (X := X) (l := l)
    have hs7 := hC6.1.2.2.2.1 hs3
    refine ⟨5, v12, σ8, (Nat.le_trans (by decide) hD), hC6, ?_⟩
    exact ret_i h
  · replace h := of_ifn h c4
    obtain ⟨v18, σ14, q8, h⟩ := of_bd h
    have hC9 := f_X8_at  q8 (X := X) (l := l)
    have hs10 := hC9.1.2.2.2.1 hs3
    refine ⟨0, v18, σ14, (Nat.le_trans (by decide) hD), hC9, ?_⟩
    obtain ⟨v24, σ20, q11, h⟩ := of_bd h
    have hC12 := f_X8_at  q11 (X := X) (l := l)
    have hs13 := hC12.1.2.2.2.1 hs10
    refine ⟨0, v24, σ20, (Nat.le_trans (by decide) hD), hC12, ?_⟩
    refine ite_i (fun c14 => ?_) (fun c14 => ?_)
    · replace h := of_ifp h c14
      exact ret_i h
    · replace h := of_ifn h c14
      exact hk_X2_emptyStay_2 _ _ _ _ hs13  h
theorem e_X2_emptyStay_2 {X : Sx} {l : Launch} {D : Nat} (hD : 6 ≤ D) : ∀ (k : Nat) (x1 : Int32) (σ : AH) (v : Int32) (σ' : AH), Sh σ → F_X2_emptyStay_2 k x1 σ = some (v, σ') → E X l m_X2_emptyStay D 2 [(0, .ref 119), (1, .int x1)] [] σ (some (.int v)) σ' := by
  intro k
  induction k with
  | zero => intro x1 σ v σ' hs h; cases h
  | succ k ih =>
    intro x1 σ v σ' hs h
    exact w_X2_emptyStay_2 hs  (t_X2_emptyStay_2 hD ih hs  h)
set_option maxRecDepth 100000 in
theorem t_X2_emptyStay_0 {X : Sx} {l : Launch} {D : Nat} {σ : AH} {v : Int32} {σ' : AH} (hD : 6 ≤ D) (hs : Sh σ) (h : F_X2_emptyStay σ = some (v, σ')) : W_X2_emptyStay_0 X l D σ (some (.int v)) σ' := by
  unfold F_X2_emptyStay at h
  unfold W_X2_emptyStay_0
  exact e_X2_emptyStay_2 hD  _ _ _ _ _ hs  h
theorem f_X2_emptyStay {X : Sx} {l : Launch} {σ : AH} {v : Int32} {σ' : AH} (hs : Sh σ) (h : F_X2_emptyStay σ = some (v, σ')) : Call X l m_X2_emptyStay 6 [.ref 119] σ (some (.int v)) σ' :=
  Call.ofE ok_X2_emptyStay rfl (Nat.le_of_ble_eq_true rfl) (w_X2_emptyStay_0 hs  (t_X2_emptyStay_0 (Nat.le_refl _) hs  h))
def F_X2_goIn (x1 : Int32) (x2 : Int32) (x3 : Int32) (x4 : Int32) (x5 : Int32) (σ : AH) : Option AH := (bd (F_X2_emptyStay σ) fun v6 σ2 => (bv (F_X8_put 17 v6 (0 : Int32) x2 σ2) fun σ8 => (bv (F_X8_put 17 v6 (1 : Int32) x1 σ8) fun σ13 => (bv (F_X8_put 17 v6 (2 : Int32) x3 σ13) fun σ18 => (bv (F_X8_put 17 v6 (3 : Int32) x4 σ18) fun σ23 => (if inB x2 30 = true then (bv (F_X8_put 17 v6 (4 : Int32) (gI σ23 120 x2.toNatClampNeg) σ23) fun σ29 => (bv (F_X8_put 17 v6 (5 : Int32) (2000000000 : Int32) σ29) fun σ34 => (bv (F_X8_put 17 v6 (6 : Int32) x5 σ34) fun σ39 => (if inB x2 30 = true then (some (sI σ39 121 x2.toNatClampNeg v6)) else none)))) else none))))))
set_option maxRecDepth 100000 in
theorem t_X2_goIn_0 {X : Sx} {l : Launch} {D : Nat} {x1 : Int32} {x2 : Int32} {x3 : Int32} {x4 : Int32} {x5 : Int32} {σ : AH} {σ' : AH} (hD : 7 ≤ D) (hs : Sh σ) (h : F_X2_goIn x1 x2 x3 x4 x5 σ = some σ') : W_X2_goIn_0 X l D x1 x2 x3 x4 x5 σ none σ' := by
  unfold F_X2_goIn at h
  unfold W_X2_goIn_0
  obtain ⟨v6, σ2, q1, h⟩ := of_bd h
  have hC2 := f_X2_emptyStay (σ := σ) hs  q1 (X := X) (l := l)
  have hs3 := hC2.1.2.2.2.1 hs
  refine ⟨6, v6, σ2, (Nat.le_trans (by decide) hD), hC2, ?_⟩
  obtain ⟨σ8, q4, h⟩ := of_bv h
  have hC5 := f_X8_put  q4 (X := X) (l := l)
  have hs6 := hC5.1.2.2.2.1 hs3
  refine ⟨0, σ8, (Nat.le_trans (by decide) hD), hC5, ?_⟩
  obtain ⟨σ13, q7, h⟩ := of_bv h
  have hC8 := f_X8_put  q7 (X := X) (l := l)
  have hs9 := hC8.1.2.2.2.1 hs6
  refine ⟨0, σ13, (Nat.le_trans (by decide) hD), hC8, ?_⟩
  obtain ⟨σ18, q10, h⟩ := of_bv h
  have hC11 := f_X8_put  q10 (X := X) (l := l)
  have hs12 := hC11.1.2.2.2.1 hs9
  refine ⟨0, σ18, (Nat.le_trans (by decide) hD), hC11, ?_⟩
  obtain ⟨σ23, q13, h⟩ := of_bv h
  have hC14 := f_X8_put  q13 (X := X) (l := l)
  have hs15 := hC14.1.2.2.2.1 hs12
  refine ⟨0, σ23, (Nat.le_trans (by decide) hD), hC14, ?_⟩
  obtain ⟨g16, h⟩ := of_gd h
  refine ⟨(inB_mp g16), ?_⟩
  obtain ⟨σ29, q17, h⟩ := of_bv h
  have hC18 := f_X8_put  q17 (X := X) (l := l)
  have hs19 := hC18.1.2.2.2.1 hs15
  refine ⟨0, σ29, (Nat.le_trans (by decide) hD), hC18, ?_⟩
  obtain ⟨σ34, q20, h⟩ := of_bv h
  have hC21 := f_X8_put  q20 (X := X) (l := l)
  have hs22 := hC21.1.2.2.2.1 hs19
  refine ⟨0, σ34, (Nat.le_trans (by decide) hD), hC21, ?_⟩
  obtain ⟨σ39, q23, h⟩ := of_bv h
  have hC24 := f_X8_put  q23 (X := X) (l := l)
  have hs25 := hC24.1.2.2.2.1 hs22
  refine ⟨0, σ39, (Nat.le_trans (by decide) hD), hC24, ?_⟩
  obtain ⟨g26, h⟩ := of_gd h
  refine ⟨(inB_mp g26), ?_⟩
  exact ret_v h
theorem f_X2_goIn {X : Sx} {l : Launch} {x1 : Int32} {x2 : Int32} {x3 : Int32} {x4 : Int32} {x5 : Int32} {σ : AH} {σ' : AH} (hs : Sh σ) (h : F_X2_goIn x1 x2 x3 x4 x5 σ = some σ') : Call X l m_X2_goIn 7 [.ref 119, .int x1, .int x2, .int x3, .int x4, .int x5] σ none σ' :=
  Call.ofE ok_X2_goIn rfl (Nat.le_of_ble_eq_true rfl) (w_X2_goIn_0 hs  (t_X2_goIn_0 (Nat.le_refl _) hs  h))
def F_X2_firstFor_154 (k_X2_firstFor_29 : Int32 → Int32 → Int32 → AH → Option (Int32 × AH)) (x2 : Int32) (x3 : Int32) (x4 : Int32) (σ : AH) : Option (Int32 × AH) := (k_X2_firstFor_29 x2 x3 (x4 + 1) σ)
def F_X2_firstFor_119 (k_X2_firstFor_29 : Int32 → Int32 → Int32 → AH → Option (Int32 × AH)) (x2 : Int32) (x3 : Int32) (x4 : Int32) (x5 : Int32) (x6 : Int32) (y0 : Int32) (σ : AH) : Option (Int32 × AH) := (if x6 = (-1 : Int32) then (F_X2_firstFor_154 k_X2_firstFor_29 x2 x3 x4 σ) else (if y0 = 0 then (F_X2_firstFor_154 k_X2_firstFor_29 x2 x3 x4 σ) else (bd (F_X8_at 13 x5 (2 : Int32) σ) fun v28 σ24 => (if ((2 : Int32) * x2) < v28 then (F_X2_firstFor_154 k_X2_firstFor_29 x2 x3 x4 σ24) else (some (x5, σ24))))))
def F_X2_firstFor_114 (k_X2_firstFor_29 : Int32 → Int32 → Int32 → AH → Option (Int32 × AH)) (x2 : Int32) (x3 : Int32) (x4 : Int32) (x5 : Int32) (x6 : Int32) (σ : AH) : Option (Int32 × AH) := (F_X2_firstFor_119 k_X2_firstFor_29 x2 x3 x4 x5 x6 (1 : Int32) σ)
def F_X2_firstFor_89 (k_X2_firstFor_29 : Int32 → Int32 → Int32 → AH → Option (Int32 × AH)) (x2 : Int32) (x3 : Int32) (x4 : Int32) (x5 : Int32) (x6 : Int32) (y0 : Int32) (σ : AH) : Option (Int32 × AH) := (if y0 = (-1 : Int32) then (F_X2_firstFor_114 k_X2_firstFor_29 x2 x3 x4 x5 x6 σ) else (bd (F_X8_at 9 y0 (2 : Int32) σ) fun v22 σ18 => (if x2 ≤ v22 then (F_X2_firstFor_119 k_X2_firstFor_29 x2 x3 x4 x5 x6 (0 : Int32) σ18) else (F_X2_firstFor_114 k_X2_firstFor_29 x2 x3 x4 x5 x6 σ18))))
def B_X2_firstFor_29 (k_X2_firstFor_29 : Int32 → Int32 → Int32 → AH → Option (Int32 × AH)) (x2 : Int32) (x3 : Int32) (x4 : Int32) (σ : AH) : Option (Int32 × AH) := (if inB x3 6 = true then (if (gI σ 116 x3.toNatClampNeg) ≤ x4 then (some ((-1 : Int32), σ)) else (if inB ((x3 * (60 : Int32)) + x4) 360 = true then (if inB (gI σ 115 ((x3 * (60 : Int32)) + x4).toNatClampNeg) 60 = true then (if (gI σ 114 (gI σ 115 ((x3 * (60 : Int32)) + x4).toNatClampNeg).toNatClampNeg) = (-1 : Int32) then (F_X2_firstFor_89 k_X2_firstFor_29 x2 x3 x4 (gI σ 115 ((x3 * (60 : Int32)) + x4).toNatClampNeg) (gI σ 114 (gI σ 115 ((x3 * (60 : Int32)) + x4).toNatClampNeg).toNatClampNeg) (-1 : Int32) σ) else (if inB (gI σ 114 (gI σ 115 ((x3 * (60 : Int32)) + x4).toNatClampNeg).toNatClampNeg) 60 = true then (F_X2_firstFor_89 k_X2_firstFor_29 x2 x3 x4 (gI σ 115 ((x3 * (60 : Int32)) + x4).toNatClampNeg) (gI σ 114 (gI σ 115 ((x3 * (60 : Int32)) + x4).toNatClampNeg).toNatClampNeg) (gI σ 122 (gI σ 114 (gI σ 115 ((x3 * (60 : Int32)) + x4).toNatClampNeg).toNatClampNeg).toNatClampNeg) σ) else none)) else none) else none)) else none)
def F_X2_firstFor_29 : Nat → Int32 → Int32 → Int32 → AH → Option (Int32 × AH) := fun k => match k with | 0 => fun _ _ _ _ => none | k + 1 => B_X2_firstFor_29 (F_X2_firstFor_29 k)
def F_X2_firstFor (x1 : Int32) (σ : AH) : Option (Int32 × AH) := (bd (F_X8_at 9 x1 (2 : Int32) σ) fun v6 σ2 => (bd (F_X8_at 9 x1 (0 : Int32) σ2) fun v12 σ8 => (F_X2_firstFor_29 BIG v6 v12 (0 : Int32) σ8)))
set_option maxRecDepth 100000 in
theorem t_X2_firstFor_154 {X : Sx} {l : Launch} {D : Nat} {k_X2_firstFor_29 : Int32 → Int32 → Int32 → AH → Option (Int32 × AH)} {x2 : Int32} {x3 : Int32} {x4 : Int32} {σ : AH} {v : Int32} {σ' : AH} (hD : 1 ≤ D) (hk_X2_firstFor_29 : ∀ (x2 : Int32) (x3 : Int32) (x4 : Int32) (σ : AH) (v : Int32) (σ' : AH), Sh σ → k_X2_firstFor_29 x2 x3 x4 σ = some (v, σ') → E X l m_X2_firstFor D 29 [(0, .ref 119), (2, .int x2), (3, .int x3), (4, .int x4)] [] σ (some (.int v)) σ') (hs : Sh σ) (h : F_X2_firstFor_154 k_X2_firstFor_29 x2 x3 x4 σ = some (v, σ')) : W_X2_firstFor_154 X l D x2 x3 x4 σ (some (.int v)) σ' := by
  unfold F_X2_firstFor_154 at h
  unfold W_X2_firstFor_154
  exact hk_X2_firstFor_29 _ _ _ _ _ _ hs  h
set_option maxRecDepth 100000 in
theorem t_X2_firstFor_119 {X : Sx} {l : Launch} {D : Nat} {k_X2_firstFor_29 : Int32 → Int32 → Int32 → AH → Option (Int32 × AH)} {x2 : Int32} {x3 : Int32} {x4 : Int32} {x5 : Int32} {x6 : Int32} {y0 : Int32} {σ : AH} {v : Int32} {σ' : AH} (hD : 1 ≤ D) (hk_X2_firstFor_29 : ∀ (x2 : Int32) (x3 : Int32) (x4 : Int32) (σ : AH) (v : Int32) (σ' : AH), Sh σ → k_X2_firstFor_29 x2 x3 x4 σ = some (v, σ') → E X l m_X2_firstFor D 29 [(0, .ref 119), (2, .int x2), (3, .int x3), (4, .int x4)] [] σ (some (.int v)) σ') (hs : Sh σ) (h : F_X2_firstFor_119 k_X2_firstFor_29 x2 x3 x4 x5 x6 y0 σ = some (v, σ')) : W_X2_firstFor_119 X l D x2 x3 x4 x5 x6 y0 σ (some (.int v)) σ' := by
  unfold F_X2_firstFor_119 at h
  unfold W_X2_firstFor_119
  refine ite_i (fun c1 => ?_) (fun c1 => ?_)
  · replace h := of_ifp h c1
    exact t_X2_firstFor_154 hD hk_X2_firstFor_29 hs  h
  · replace h := of_ifn h c1
    refine ite_i (fun c2 => ?_) (fun c2 => ?_)
    · replace h := of_ifp h c2
      exact t_X2_firstFor_154 hD hk_X2_firstFor_29 hs  h
    · replace h := of_ifn h c2
      obtain ⟨v28, σ24, q3, h⟩ := of_bd h
      have hC4 := f_X8_at  q3 (X := X) (l := l)
      have hs5 := hC4.1.2.2.2.1 hs
      refine ⟨0, v28, σ24, (Nat.le_trans (by decide) hD), hC4, ?_⟩
      refine ite_i (fun c6 => ?_) (fun c6 => ?_)
      · replace h := of_ifp h c6
        exact t_X2_firstFor_154 hD hk_X2_firstFor_29 hs5  h
      · replace h := of_ifn h c6
        exact ret_i h
set_option maxRecDepth 100000 in
theorem t_X2_firstFor_114 {X : Sx} {l : Launch} {D : Nat} {k_X2_firstFor_29 : Int32 → Int32 → Int32 → AH → Option (Int32 × AH)} {x2 : Int32} {x3 : Int32} {x4 : Int32} {x5 : Int32} {x6 : Int32} {σ : AH} {v : Int32} {σ' : AH} (hD : 1 ≤ D) (hk_X2_firstFor_29 : ∀ (x2 : Int32) (x3 : Int32) (x4 : Int32) (σ : AH) (v : Int32) (σ' : AH), Sh σ → k_X2_firstFor_29 x2 x3 x4 σ = some (v, σ') → E X l m_X2_firstFor D 29 [(0, .ref 119), (2, .int x2), (3, .int x3), (4, .int x4)] [] σ (some (.int v)) σ') (hs : Sh σ) (h : F_X2_firstFor_114 k_X2_firstFor_29 x2 x3 x4 x5 x6 σ = some (v, σ')) : W_X2_firstFor_114 X l D x2 x3 x4 x5 x6 σ (some (.int v)) σ' := by
  unfold F_X2_firstFor_114 at h
  unfold W_X2_firstFor_114
  exact t_X2_firstFor_119 hD hk_X2_firstFor_29 hs  h
set_option maxRecDepth 100000 in
theorem t_X2_firstFor_89 {X : Sx} {l : Launch} {D : Nat} {k_X2_firstFor_29 : Int32 → Int32 → Int32 → AH → Option (Int32 × AH)} {x2 : Int32} {x3 : Int32} {x4 : Int32} {x5 : Int32} {x6 : Int32} {y0 : Int32} {σ : AH} {v : Int32} {σ' : AH} (hD : 1 ≤ D) (hk_X2_firstFor_29 : ∀ (x2 : Int32) (x3 : Int32) (x4 : Int32) (σ : AH) (v : Int32) (σ' : AH), Sh σ → k_X2_firstFor_29 x2 x3 x4 σ = some (v, σ') → E X l m_X2_firstFor D 29 [(0, .ref 119), (2, .int x2), (3, .int x3), (4, .int x4)] [] σ (some (.int v)) σ') (hs : Sh σ) (h : F_X2_firstFor_89 k_X2_firstFor_29 x2 x3 x4 x5 x6 y0 σ = some (v, σ')) : W_X2_firstFor_89 X l D x2 x3 x4 x5 x6 y0 σ (some (.int v)) σ' := by
  unfold F_X2_firstFor_89 at h
  unfold W_X2_firstFor_89
  refine ite_i (fun c1 => ?_) (fun c1 => ?_)
  · replace h := of_ifp h c1
    exact t_X2_firstFor_114 hD hk_X2_firstFor_29 hs  h
  · replace h := of_ifn h c1
    obtain ⟨v22, σ18, q2, h⟩ := of_bd h
    have hC3 := f_X8_at  q2 (X := X) (l := l)
    have hs4 := hC3.1.2.2.2.1 hs
    refine ⟨0, v22, σ18, (Nat.le_trans (by decide) hD), hC3, ?_⟩
    refine ite_i (fun c5 => ?_) (fun c5 => ?_)
    · replace h := of_ifp h c5
      exact t_X2_firstFor_119 hD hk_X2_firstFor_29 hs4  h
    · replace h := of_ifn h c5
      exact t_X2_firstFor_114 hD hk_X2_firstFor_29 hs4  h
set_option maxRecDepth 100000 in
theorem t_X2_firstFor_29 {X : Sx} {l : Launch} {D : Nat} {k_X2_firstFor_29 : Int32 → Int32 → Int32 → AH → Option (Int32 × AH)} {x2 : Int32} {x3 : Int32} {x4 : Int32} {σ : AH} {v : Int32} {σ' : AH} (hD : 1 ≤ D) (hk_X2_firstFor_29 : ∀ (x2 : Int32) (x3 : Int32) (x4 : Int32) (σ : AH) (v : Int32) (σ' : AH), Sh σ → k_X2_firstFor_29 x2 x3 x4 σ = some (v, σ') → E X l m_X2_firstFor D 29 [(0, .ref 119), (2, .int x2), (3, .int x3), (4, .int x4)] [] σ (some (.int v)) σ') (hs : Sh σ) (h : B_X2_firstFor_29 k_X2_firstFor_29 x2 x3 x4 σ = some (v, σ')) : W_X2_firstFor_29 X l D x2 x3 x4 σ (some (.int v)) σ' := by
  unfold B_X2_firstFor_29 at h
  unfold W_X2_firstFor_29
  obtain ⟨g1, h⟩ := of_gd h
  refine ⟨(inB_mp g1), ?_⟩
  refine ite_i (fun c2 => ?_) (fun c2 => ?_)
  · replace h := of_ifp h c2
    exact ret_i h
  · replace h := of_ifn h c2
    obtain ⟨g3, h⟩ := of_gd h
    refine ⟨(inB_mp g3), ?_⟩
    obtain ⟨g4, h⟩ := of_gd h
    refine ⟨(inB_mp g4), ?_⟩
    refine ite_i (fun c5 => ?_) (fun c5 => ?_)
    · replace h := of_ifp h c5
      exact t_X2_firstFor_89 hD hk_X2_firstFor_29 hs  h
    · replace h := of_ifn h c5
      obtain ⟨g6, h⟩ := of_gd h
      refine ⟨(inB_mp g6), ?_⟩
      exact t_X2_firstFor_89 hD hk_X2_firstFor_29 hs  h
theorem e_X2_firstFor_29 {X : Sx} {l : Launch} {D : Nat} (hD : 1 ≤ D) : ∀ (k : Nat) (x2 : Int32) (x3 : Int32) (x4 : Int32) (σ : AH) (v : Int32) (σ' : AH), Sh σ → F_X2_firstFor_29 k x2 x3 x4 σ = some (v, σ') → E X l m_X2_firstFor D 29 [(0, .ref 119), (2, .int x2), (3, .int x3), (4, .int x4)] [] σ (some (.int v)) σ' := by
  intro k
  induction k with
  | zero => intro x2 x3 x4 σ v σ' hs h; cases h
  | succ k ih =>
    intro x2 x3 x4 σ v σ' hs h
    exact w_X2_firstFor_29 hs  (t_X2_firstFor_29 hD ih hs  h)
set_option maxRecDepth 100000 in
theorem t_X2_firstFor_0 {X : Sx} {l : Launch} {D : Nat} {x1 : Int32} {σ : AH} {v : Int32} {σ' : AH} (hD : 1 ≤ D) (hs : Sh σ) (h : F_X2_firstFor x1 σ = some (v, σ')) : W_X2_firstFor_0 X l D x1 σ (some (.int v)) σ' := by
  unfold F_X2_firstFor at h
  unfold W_X2_firstFor_0
  obtain ⟨v6, σ2, q1, h⟩ := of_bd h
  have hC2 := f_X8_at  q1 (X := X) (l := l)
  have hs3 := hC2.1.2.2.2.1 hs
  refine ⟨0, v6, σ2, (Nat.le_trans (by decide) hD), hC2, ?_⟩
  obtain ⟨v12, σ8, q4, h⟩ := of_bd h
  have hC5 := f_X8_at  q4 (X := X) (l := l)
  have hs6 := hC5.1.2.2.2.1 hs3
  refine ⟨0, v12, σ8, (Nat.le_trans (by decide) hD), hC5, ?_⟩
  exact e_X2_firstFor_29 hD  _ _ _ _ _ _ _ hs6  h
theorem f_X2_firstFor {X : Sx} {l : Launch} {x1 : Int32} {σ : AH} {v : Int32} {σ' : AH} (hs : Sh σ) (h : F_X2_firstFor x1 σ = some (v, σ')) : Call X l m_X2_firstFor 1 [.ref 119, .int x1] σ (some (.int v)) σ' :=
  Call.ofE ok_X2_firstFor rfl (Nat.le_of_ble_eq_true rfl) (w_X2_firstFor_0 hs  (t_X2_firstFor_0 (Nat.le_refl _) hs  h))
def F_X2_giveInChain_85 (k_X2_giveInChain_5 : Int32 → Int32 → Int32 → AH → Option (Int32 × AH)) (x2 : Int32) (x3 : Int32) (x4 : Int32) (x5 : Int32) (x6 : Int32) (y0 : Int32) (σ : AH) : Option (Int32 × AH) := (if inB x6 60 = true then (bv (F_X2_leave (gI σ 122 x6.toNatClampNeg) x2 σ) fun σ19 => (if inB x6 60 = true then (bv (F_X2_leave (gI σ19 123 x6.toNatClampNeg) x2 σ19) fun σ25 => (bv (F_X2_goIn x5 x3 x2 x2 x4 σ25) fun σ30 => (bv (F_X2_findRoofs x2 σ30) fun σ35 => (k_X2_giveInChain_5 x2 y0 (x4 + 1) σ35)))) else none)) else none)
def F_X2_giveInChain_34 (k_X2_giveInChain_5 : Int32 → Int32 → Int32 → AH → Option (Int32 × AH)) (x2 : Int32) (x3 : Int32) (x4 : Int32) (y0 : Int32) (σ : AH) : Option (Int32 × AH) := (if y0 = (-1 : Int32) then (some (x4, σ)) else (if inB y0 60 = true then (if inB (gI σ 114 y0.toNatClampNeg) 60 = true then (if (gI σ 122 (gI σ 114 y0.toNatClampNeg).toNatClampNeg) = (-1 : Int32) then (if inB (gI σ 114 y0.toNatClampNeg) 60 = true then (F_X2_giveInChain_85 k_X2_giveInChain_5 x2 x3 x4 y0 (gI σ 114 y0.toNatClampNeg) (gI σ 123 (gI σ 114 y0.toNatClampNeg).toNatClampNeg) σ) else none) else (if inB (gI σ 114 y0.toNatClampNeg) 60 = true then (F_X2_giveInChain_85 k_X2_giveInChain_5 x2 x3 x4 y0 (gI σ 114 y0.toNatClampNeg) (gI σ 122 (gI σ 114 y0.toNatClampNeg).toNatClampNeg) σ) else none)) else none) else none))
def F_X2_giveInChain_33 (k_X2_giveInChain_5 : Int32 → Int32 → Int32 → AH → Option (Int32 × AH)) (x2 : Int32) (x3 : Int32) (x4 : Int32) (σ : AH) : Option (Int32 × AH) := (F_X2_giveInChain_34 k_X2_giveInChain_5 x2 x3 x4 (-1 : Int32) σ)
def B_X2_giveInChain_5 (k_X2_giveInChain_5 : Int32 → Int32 → Int32 → AH → Option (Int32 × AH)) (x2 : Int32) (x3 : Int32) (x4 : Int32) (σ : AH) : Option (Int32 × AH) := (if (10 : Int32) ≤ x4 then (some ((10 : Int32), σ)) else (if x3 = (-1 : Int32) then (F_X2_giveInChain_33 k_X2_giveInChain_5 x2 x3 x4 σ) else (bd (F_X2_isFree x3 σ) fun v6 σ2 => (if v6 = 0 then (F_X2_giveInChain_33 k_X2_giveInChain_5 x2 x3 x4 σ2) else (bd (F_X2_firstFor x3 σ2) fun v12 σ8 => (F_X2_giveInChain_34 k_X2_giveInChain_5 x2 x3 x4 v12 σ8))))))
def F_X2_giveInChain_5 : Nat → Int32 → Int32 → Int32 → AH → Option (Int32 × AH) := fun k => match k with | 0 => fun _ _ _ _ => none | k + 1 => B_X2_giveInChain_5 (F_X2_giveInChain_5 k)
def F_X2_giveInChain (x1 : Int32) (x2 : Int32) (σ : AH) : Option (Int32 × AH) := (F_X2_giveInChain_5 BIG x2 x1 (0 : Int32) σ)
set_option maxRecDepth 100000 in
theorem t_X2_giveInChain_85 {X : Sx} {l : Launch} {D : Nat} {k_X2_giveInChain_5 : Int32 → Int32 → Int32 → AH → Option (Int32 × AH)} {x2 : Int32} {x3 : Int32} {x4 : Int32} {x5 : Int32} {x6 : Int32} {y0 : Int32} {σ : AH} {v : Int32} {σ' : AH} (hD : 8 ≤ D) (hk_X2_giveInChain_5 : ∀ (x2 : Int32) (x3 : Int32) (x4 : Int32) (σ : AH) (v : Int32) (σ' : AH), Sh σ → k_X2_giveInChain_5 x2 x3 x4 σ = some (v, σ') → E X l m_X2_giveInChain D 5 [(0, .ref 119), (2, .int x2), (3, .int x3), (4, .int x4)] [] σ (some (.int v)) σ') (hs : Sh σ) (h : F_X2_giveInChain_85 k_X2_giveInChain_5 x2 x3 x4 x5 x6 y0 σ = some (v, σ')) : W_X2_giveInChain_85 X l D x2 x3 x4 x5 x6 y0 σ (some (.int v)) σ' := by
  unfold F_X2_giveInChain_85 at h
  unfold W_X2_giveInChain_85
  obtain ⟨g1, h⟩ := of_gd h
  refine ⟨(inB_mp g1), ?_⟩
  obtain ⟨σ19, q2, h⟩ := of_bv h
  have hC3 := f_X2_leave (σ := σ) hs  q2 (X := X) (l := l)
  have hs4 := hC3.1.2.2.2.1 hs
  refine ⟨1, σ19, (Nat.le_trans (by decide) hD), hC3, ?_⟩
  obtain ⟨g5, h⟩ := of_gd h
  refine ⟨(inB_mp g5), ?_⟩
  obtain ⟨σ25, q6, h⟩ := of_bv h
  have hC7 := f_X2_leave (σ := σ19) hs4  q6 (X := X) (l := l)
  have hs8 := hC7.1.2.2.2.1 hs4
  refine ⟨1, σ25, (Nat.le_trans (by decide) hD), hC7, ?_⟩
  obtain ⟨σ30, q9, h⟩ := of_bv h
  have hC10 := f_X2_goIn (σ := σ25) hs8  q9 (X := X) (l := l)
  have hs11 := hC10.1.2.2.2.1 hs8
  refine ⟨7, σ30, (Nat.le_trans (by decide) hD), hC10, ?_⟩
  obtain ⟨σ35, q12, h⟩ := of_bv h
  have hC13 := f_X2_findRoofs (σ := σ30) hs11  q12 (X := X) (l := l)
  have hs14 := hC13.1.2.2.2.1 hs11
  refine ⟨2, σ35, (Nat.le_trans (by decide) hD), hC13, ?_⟩
  exact hk_X2_giveInChain_5 _ _ _ _ _ _ hs14  h
set_option maxRecDepth 100000 in
theorem t_X2_giveInChain_34 {X : Sx} {l : Launch} {D : Nat} {k_X2_giveInChain_5 : Int32 → Int32 → Int32 → AH → Option (Int32 × AH)} {x2 : Int32} {x3 : Int32} {x4 : Int32} {y0 : Int32} {σ : AH} {v : Int32} {σ' : AH} (hD : 8 ≤ D) (hk_X2_giveInChain_5 : ∀ (x2 : Int32) (x3 : Int32) (x4 : Int32) (σ : AH) (v : Int32) (σ' : AH), Sh σ → k_X2_giveInChain_5 x2 x3 x4 σ = some (v, σ') → E X l m_X2_giveInChain D 5 [(0, .ref 119), (2, .int x2), (3, .int x3), (4, .int x4)] [] σ (some (.int v)) σ') (hs : Sh σ) (h : F_X2_giveInChain_34 k_X2_giveInChain_5 x2 x3 x4 y0 σ = some (v, σ')) : W_X2_giveInChain_34 X l D x2 x3 x4 y0 σ (some (.int v)) σ' := by
  unfold F_X2_giveInChain_34 at h
  unfold W_X2_giveInChain_34
  refine ite_i (fun c1 => ?_) (fun c1 => ?_)
  · replace h := of_ifp h c1
    exact ret_i h
  · replace h := of_ifn h c1
    obtain ⟨g2, h⟩ := of_gd h
    refine ⟨(inB_mp g2), ?_⟩
    obtain ⟨g3, h⟩ := of_gd h
    refine ⟨(inB_mp g3), ?_⟩
    refine ite_i (fun c4 => ?_) (fun c4 => ?_)
    · replace h := of_ifp h c4
      obtain ⟨g5, h⟩ := of_gd h
      refine ⟨(inB_mp g5), ?_⟩
      exact t_X2_giveInChain_85 hD hk_X2_giveInChain_5 hs  h
    · replace h := of_ifn h c4
      obtain ⟨g6, h⟩ := of_gd h
      refine ⟨(inB_mp g6), ?_⟩
      exact t_X2_giveInChain_85 hD hk_X2_giveInChain_5 hs  h
set_option maxRecDepth 100000 in
theorem t_X2_giveInChain_33 {X : Sx} {l : Launch} {D : Nat} {k_X2_giveInChain_5 : Int32 → Int32 → Int32 → AH → Option (Int32 × AH)} {x2 : Int32} {x3 : Int32} {x4 : Int32} {σ : AH} {v : Int32} {σ' : AH} (hD : 8 ≤ D) (hk_X2_giveInChain_5 : ∀ (x2 : Int32) (x3 : Int32) (x4 : Int32) (σ : AH) (v : Int32) (σ' : AH), Sh σ → k_X2_giveInChain_5 x2 x3 x4 σ = some (v, σ') → E X l m_X2_giveInChain D 5 [(0, .ref 119), (2, .int x2), (3, .int x3), (4, .int x4)] [] σ (some (.int v)) σ') (hs : Sh σ) (h : F_X2_giveInChain_33 k_X2_giveInChain_5 x2 x3 x4 σ = some (v, σ')) : W_X2_giveInChain_33 X l D x2 x3 x4 σ (some (.int v)) σ' := by
  unfold F_X2_giveInChain_33 at h
  unfold W_X2_giveInChain_33
  exact t_X2_giveInChain_34 hD hk_X2_giveInChain_5 hs  h
set_option maxRecDepth 100000 in
theorem t_X2_giveInChain_5 {X : Sx} {l : Launch} {D : Nat} {k_X2_giveInChain_5 : Int32 → Int32 → Int32 → AH → Option (Int32 × AH)} {x2 : Int32} {x3 : Int32} {x4 : Int32} {σ : AH} {v : Int32} {σ' : AH} (hD : 8 ≤ D) (hk_X2_giveInChain_5 : ∀ (x2 : Int32) (x3 : Int32) (x4 : Int32) (σ : AH) (v : Int32) (σ' : AH), Sh σ → k_X2_giveInChain_5 x2 x3 x4 σ = some (v, σ') → E X l m_X2_giveInChain D 5 [(0, .ref 119), (2, .int x2), (3, .int x3), (4, .int x4)] [] σ (some (.int v)) σ') (hs : Sh σ) (h : B_X2_giveInChain_5 k_X2_giveInChain_5 x2 x3 x4 σ = some (v, σ')) : W_X2_giveInChain_5 X l D x2 x3 x4 σ (some (.int v)) σ' := by
  unfold B_X2_giveInChain_5 at h
  unfold W_X2_giveInChain_5
  refine ite_i (fun c1 => ?_) (fun c1 => ?_)
  · replace h := of_ifp h c1
    exact ret_i h
  · replace h := of_ifn h c1
    refine ite_i (fun c2 => ?_) (fun c2 => ?_)
    · replace h := of_ifp h c2
      exact t_X2_giveInChain_33 hD hk_X2_giveInChain_5 hs  h
    · replace h := of_ifn h c2
      obtain ⟨v6, σ2, q3, h⟩ := of_bd h
      have hC4 := f_X2_isFree (σ := σ) hs  q3 (X := X) (l := l)
      have hs5 := hC4.1.2.2.2.1 hs
      refine ⟨0, v6, σ2, (Nat.le_trans (by decide) hD), hC4, ?_⟩
      refine ite_i (fun c6 => ?_) (fun c6 => ?_)
      · replace h := of_ifp h c6
        exact t_X2_giveInChain_33 hD hk_X2_giveInChain_5 hs5  h
      · replace h := of_ifn h c6
        obtain ⟨v12, σ8, q7, h⟩ := of_bd h
        have hC8 := f_X2_firstFor (σ := σ2) hs5  q7 (X := X) (l := l)
        have hs9 := hC8.1.2.2.2.1 hs5
        refine ⟨1, v12, σ8, (Nat.le_trans (by decide) hD), hC8, ?_⟩
        exact t_X2_giveInChain_34 hD hk_X2_giveInChain_5 hs9  h
theorem e_X2_giveInChain_5 {X : Sx} {l : Launch} {D : Nat} (hD : 8 ≤ D) : ∀ (k : Nat) (x2 : Int32) (x3 : Int32) (x4 : Int32) (σ : AH) (v : Int32) (σ' : AH), Sh σ → F_X2_giveInChain_5 k x2 x3 x4 σ = some (v, σ') → E X l m_X2_giveInChain D 5 [(0, .ref 119), (2, .int x2), (3, .int x3), (4, .int x4)] [] σ (some (.int v)) σ' := by
  intro k
  induction k with
  | zero => intro x2 x3 x4 σ v σ' hs h; cases h
  | succ k ih =>
    intro x2 x3 x4 σ v σ' hs h
    exact w_X2_giveInChain_5 hs  (t_X2_giveInChain_5 hD ih hs  h)
set_option maxRecDepth 100000 in
theorem t_X2_giveInChain_0 {X : Sx} {l : Launch} {D : Nat} {x1 : Int32} {x2 : Int32} {σ : AH} {v : Int32} {σ' : AH} (hD : 8 ≤ D) (hs : Sh σ) (h : F_X2_giveInChain x1 x2 σ = some (v, σ')) : W_X2_giveInChain_0 X l D x1 x2 σ (some (.int v)) σ' := by
  unfold F_X2_giveInChain at h
  unfold W_X2_giveInChain_0
  exact e_X2_giveInChain_5 hD  _ _ _ _ _ _ _ hs  h
theorem f_X2_giveInChain {X : Sx} {l : Launch} {x1 : Int32} {x2 : Int32} {σ : AH} {v : Int32} {σ' : AH} (hs : Sh σ) (h : F_X2_giveInChain x1 x2 σ = some (v, σ')) : Call X l m_X2_giveInChain 8 [.ref 119, .int x1, .int x2] σ (some (.int v)) σ' :=
  Call.ofE ok_X2_giveInChain rfl (Nat.le_of_ble_eq_true rfl) (w_X2_giveInChain_0 hs  (t_X2_giveInChain_0 (Nat.le_refl _) hs  h))
def B_X2_giveAll_4 (k_X2_giveAll_4 : Int32 → Int32 → Int32 → AH → Option (Int32 × AH)) (x1 : Int32) (x2 : Int32) (x3 : Int32) (σ : AH) : Option (Int32 × AH) := (bd (F_X8_rows 9 σ) fun v6 σ2 => (if v6 ≤ x3 then (some (x2, σ2)) else (bd (F_X2_giveInChain x3 x1 σ2) fun v12 σ8 => (k_X2_giveAll_4 x1 (x2 + v12) (x3 + 1) σ8))))
def F_X2_giveAll_4 : Nat → Int32 → Int32 → Int32 → AH → Option (Int32 × AH) := fun k => match k with | 0 => fun _ _ _ _ => none | k + 1 => B_X2_giveAll_4 (F_X2_giveAll_4 k)
def F_X2_giveAll (x1 : Int32) (σ : AH) : Option (Int32 × AH) := (F_X2_giveAll_4 BIG x1 (0 : Int32) (0 : Int32) σ)
set_option maxRecDepth 100000 in
theorem t_X2_giveAll_4 {X : Sx} {l : Launch} {D : Nat} {k_X2_giveAll_4 : Int32 → Int32 → Int32 → AH → Option (Int32 × AH)} {x1 : Int32} {x2 : Int32} {x3 : Int32} {σ : AH} {v : Int32} {σ' : AH} (hD : 9 ≤ D) (hk_X2_giveAll_4 : ∀ (x1 : Int32) (x2 : Int32) (x3 : Int32) (σ : AH) (v : Int32) (σ' : AH), Sh σ → k_X2_giveAll_4 x1 x2 x3 σ = some (v, σ') → E X l m_X2_giveAll D 4 [(0, .ref 119), (1, .int x1), (2, .int x2), (3, .int x3)] [] σ (some (.int v)) σ') (hs : Sh σ) (h : B_X2_giveAll_4 k_X2_giveAll_4 x1 x2 x3 σ = some (v, σ')) : W_X2_giveAll_4 X l D x1 x2 x3 σ (some (.int v)) σ' := by
  unfold B_X2_giveAll_4 at h
  unfold W_X2_giveAll_4
  obtain ⟨v6, σ2, q1, h⟩ := of_bd h
  have hC2 := f_X8_rows  q1 (X := X) (l := l)
  have hs3 := hC2.1.2.2.2.1 hs
  refine ⟨0, v6, σ2, (Nat.le_trans (by decide) hD), hC2, ?_⟩
  refine ite_i (fun c4 => ?_) (fun c4 => ?_)
  · replace h := of_ifp h c4
    exact ret_i h
  · replace h := of_ifn h c4
    obtain ⟨v12, σ8, q5, h⟩ := of_bd h
    have hC6 := f_X2_giveInChain (σ := σ2) hs3  q5 (X := X) (l := l)
    have hs7 := hC6.1.2.2.2.1 hs3
    refine ⟨8, v12, σ8, (Nat.le_trans (by decide) hD), hC6, ?_⟩
    exact hk_X2_giveAll_4 _ _ _ _ _ _ hs7  h
theorem e_X2_giveAll_4 {X : Sx} {l : Launch} {D : Nat} (hD : 9 ≤ D) : ∀ (k : Nat) (x1 : Int32) (x2 : Int32) (x3 : Int32) (σ : AH) (v : Int32) (σ' : AH), Sh σ → F_X2_giveAll_4 k x1 x2 x3 σ = some (v, σ') → E X l m_X2_giveAll D 4 [(0, .ref 119), (1, .int x1), (2, .int x2), (3, .int x3)] [] σ (some (.int v)) σ' := by
  intro k
  induction k with
  | zero => intro x1 x2 x3 σ v σ' hs h; cases h
  | succ k ih =>
    intro x1 x2 x3 σ v σ' hs h
    exact w_X2_giveAll_4 hs  (t_X2_giveAll_4 hD ih hs  h)
set_option maxRecDepth 100000 in
theorem t_X2_giveAll_0 {X : Sx} {l : Launch} {D : Nat} {x1 : Int32} {σ : AH} {v : Int32} {σ' : AH} (hD : 9 ≤ D) (hs : Sh σ) (h : F_X2_giveAll x1 σ = some (v, σ')) : W_X2_giveAll_0 X l D x1 σ (some (.int v)) σ' := by
  unfold F_X2_giveAll at h
  unfold W_X2_giveAll_0
  exact e_X2_giveAll_4 hD  _ _ _ _ _ _ _ hs  h
theorem f_X2_giveAll {X : Sx} {l : Launch} {x1 : Int32} {σ : AH} {v : Int32} {σ' : AH} (hs : Sh σ) (h : F_X2_giveAll x1 σ = some (v, σ')) : Call X l m_X2_giveAll 9 [.ref 119, .int x1] σ (some (.int v)) σ' :=
  Call.ofE ok_X2_giveAll rfl (Nat.le_of_ble_eq_true rfl) (w_X2_giveAll_0 hs  (t_X2_giveAll_0 (Nat.le_refl _) hs  h))
def F_X3_init (x0 : Nat) (x1 : Nat) (σ : AH) : Option AH := (if kd σ x0 = (3, NO 3) then (if x0 < nx σ then (if kd σ x1 = (9, NO 9) then (if x1 < nx σ then (lt (aw σ 100 63) fun τ1 => (if alB m_X3_init x0 = true then (if shOX τ1 x0 1 = true then (lt (sR τ1 x0 1 (some (nx σ))) fun τ12 => (lt (aw τ12 100 384) fun τ19 => (if alB m_X3_init x0 = true then (if shOX τ19 x0 2 = true then (lt (sR τ19 x0 2 (some (nx τ12))) fun τ30 => (lt (aw τ30 100 24) fun τ37 => (if alB m_X3_init x0 = true then (if shOX τ37 x0 3 = true then (lt (sR τ37 x0 3 (some (nx τ30))) fun τ48 => (lt (aw τ48 100 7) fun τ55 => (if alB m_X3_init x0 = true then (if shOX τ55 x0 4 = true then (lt (sR τ55 x0 4 (some (nx τ48))) fun τ66 => (lt (aw τ66 102 64) fun τ73 => (if alB m_X3_init x0 = true then (if shOX τ73 x0 5 = true then (lt (sR τ73 x0 5 (some (nx τ66))) fun τ84 => (if alB m_X3_init x0 = true then (if alB m_X3_init x0 = true then (if shOX (sI τ84 x0 6 (-1 : Int32)) x0 0 = true then (lt (sR (sI τ84 x0 6 (-1 : Int32)) x0 0 (some x1)) fun τ94 => (bo (gR τ94 x0 1) fun b101 => if (kd τ94 b101).1 = 100 ∧ b101 < nx τ94 then (if alB m_X3_init b101 = true then (if (kd τ94 b101).2 < 2 ^ 31 then (lt (sA τ94 b101 (filln (gI τ94 b101) (kd τ94 b101).2 (-1 : Int32))) fun τ108 => (some τ108)) else none) else none) else none)) else none) else none) else none)) else none) else none))) else none) else none))) else none) else none))) else none) else none))) else none) else none)) else none) else none) else none) else none)
set_option maxRecDepth 100000 in
theorem t_X3_init_0 {X : Sx} {l : Launch} {D : Nat} {x0 : Nat} {x1 : Nat} {σ : AH} {σ' : AH} (hD : 1 ≤ D) (h : F_X3_init x0 x1 σ = some σ') : W_X3_init_0 X l D x0 x1 σ none σ' := by
  unfold F_X3_init at h
  unfold W_X3_init_0
  obtain ⟨g1, h⟩ := of_gd h
  refine ⟨g1, ?_⟩
  obtain ⟨g2, h⟩ := of_gd h
  refine ⟨g2, ?_⟩
  obtain ⟨g3, h⟩ := of_gd h
  refine ⟨g3, ?_⟩
  obtain ⟨g4, h⟩ := of_gd h
  refine ⟨g4, ?_⟩
  refine ⟨Nat.le_trans (by decide) hD, ?_⟩
  intro τ1 e5
  replace h := of_lt h e5
  obtain ⟨g6, h⟩ := of_gd h
  refine ⟨(alB_mp g6), ?_⟩
  obtain ⟨g7, h⟩ := of_gd h
  refine ⟨(fun q => shOX_mp g7 q), ?_⟩
  intro τ12 e8
  replace h := of_lt h e8
  intro τ19 e9
  replace h := of_lt h e9
  obtain ⟨g10, h⟩ := of_gd h
  refine ⟨(alB_mp g10), ?_⟩
  obtain ⟨g11, h⟩ := of_gd h
  refine ⟨(fun q => shOX_mp g11 q), ?_⟩
  intro τ30 e12
  replace h := of_lt h e12
  intro τ37 e13
  replace h := of_lt h e13
  obtain ⟨g14, h⟩ := of_gd h
  refine ⟨(alB_mp g14), ?_⟩
  obtain ⟨g15, h⟩ := of_gd h
  refine ⟨(fun q => shOX_mp g15 q), ?_⟩
  intro τ48 e16
  replace h := of_lt h e16
  intro τ55 e17
  replace h := of_lt h e17
  obtain ⟨g18, h⟩ := of_gd h
  refine ⟨(alB_mp g18), ?_⟩
  obtain ⟨g19, h⟩ := of_gd h
  refine ⟨(fun q => shOX_mp g19 q), ?_⟩
  intro τ66 e20
  replace h := of_lt h e20
  intro τ73 e21
  replace h := of_lt h e21
  obtain ⟨g22, h⟩ := of_gd h
  refine ⟨(alB_mp g22), ?_⟩
  obtain ⟨g23, h⟩ := of_gd h
  refine ⟨(fun q => shOX_mp g23 q), ?_⟩
  intro τ84 e24
  replace h := of_lt h e24
  obtain ⟨g25, h⟩ := of_gd h
  refine ⟨(alB_mp g25), ?_⟩
  obtain ⟨g26, h⟩ := of_gd h
  refine ⟨(alB_mp g26), ?_⟩
  obtain ⟨g27, h⟩ := of_gd h
  refine ⟨(fun q => shOX_mp g27 q), ?_⟩
  intro τ94 e28
  replace h := of_lt h e28
  obtain ⟨b101, e30, h⟩ := of_bo h
  obtain ⟨g29, h⟩ := of_gd h
  refine ⟨b101, _, e30, Prod.ext g29.1 rfl, g29.2, ?_⟩
  obtain ⟨g31, h⟩ := of_gd h
  refine ⟨(alB_mp g31), ?_⟩
  refine ⟨Nat.le_trans (by decide) hD, ?_⟩
  obtain ⟨g32, h⟩ := of_gd h
  refine ⟨g32, ?_⟩
  intro τ108 e33
  replace h := of_lt h e33
  exact ret_v h
theorem f_X3_init {X : Sx} {l : Launch} {x0 : Nat} {x1 : Nat} {σ : AH} {σ' : AH} (h : F_X3_init x0 x1 σ = some σ') : Call X l m_X3_init 1 [.ref x0, .ref x1] σ none σ' :=
  Call.ofE ok_X3_init rfl (Nat.le_of_ble_eq_true rfl) (w_X3_init_0  (t_X3_init_0 (Nat.le_refl _)  h))
def F_X3_reread_90 (k_X3_reread_10 : Int32 → AH → Option AH) (x1 : Int32) (σ : AH) : Option AH := (k_X3_reread_10 (x1 + 1) σ)
def B_X3_reread_33b (k_X3_reread_10 : Int32 → AH → Option AH) (k_X3_reread_33b : Int32 → Int32 → AH → Option AH) (x1 : Int32) (x3 : Int32) (σ : AH) : Option AH := (F_X3_reread_90 k_X3_reread_10 x1 σ)
def F_X3_reread_33b (k_X3_reread_10 : Int32 → AH → Option AH) : Nat → Int32 → Int32 → AH → Option AH := fun k => match k with | 0 => fun _ _ _ => none | k + 1 => B_X3_reread_33b k_X3_reread_10 (F_X3_reread_33b k_X3_reread_10 k)
def B_X3_reread_33 (k_X3_reread_10 : Int32 → AH → Option AH) (k_X3_reread_33 : Int32 → Nat → Int32 → AH → Option AH) (x1 : Int32) (x2 : Nat) (x3 : Int32) (σ : AH) : Option AH := (if kd σ x2 = (0, NO 0) then (if x2 < nx σ then (if (gI σ x2 2) ≤ x3 then (F_X3_reread_90 k_X3_reread_10 x1 σ) else (bo (gR σ x2 3) fun b11 => if (kd σ b11).1 = 100 ∧ b11 < nx σ then (if inB x3 (kd σ b11).2 = true then (if inB (gI σ b11 x3.toNatClampNeg) 63 = true then (if inB ((x1 * (16 : Int32)) + x3) 384 = true then (bo (gR (sI σ 30 (((x1 * (16 : Int32)) + x3).toNatClampNeg) (gI σ 29 (gI σ b11 x3.toNatClampNeg).toNatClampNeg)) x2 3) fun b19 => if (kd (sI σ 30 (((x1 * (16 : Int32)) + x3).toNatClampNeg) (gI σ 29 (gI σ b11 x3.toNatClampNeg).toNatClampNeg)) b19).1 = 100 ∧ b19 < nx (sI σ 30 (((x1 * (16 : Int32)) + x3).toNatClampNeg) (gI σ 29 (gI σ b11 x3.toNatClampNeg).toNatClampNeg)) then (if inB x3 (kd (sI σ 30 (((x1 * (16 : Int32)) + x3).toNatClampNeg) (gI σ 29 (gI σ b11 x3.toNatClampNeg).toNatClampNeg)) b19).2 = true then (if inB (gI (sI σ 30 (((x1 * (16 : Int32)) + x3).toNatClampNeg) (gI σ 29 (gI σ b11 x3.toNatClampNeg).toNatClampNeg)) b19 x3.toNatClampNeg) 63 = true then (lt (sI (sI σ 30 (((x1 * (16 : Int32)) + x3).toNatClampNeg) (gI σ 29 (gI σ b11 x3.toNatClampNeg).toNatClampNeg)) 29 ((gI (sI σ 30 (((x1 * (16 : Int32)) + x3).toNatClampNeg) (gI σ 29 (gI σ b11 x3.toNatClampNeg).toNatClampNeg)) b19 x3.toNatClampNeg).toNatClampNeg) ((x1 * (16 : Int32)) + x3)) fun τ26 => (k_X3_reread_33 x1 x2 (x3 + 1) τ26)) else none) else none) else none) else none) else none) else none) else none)) else none) else none)
def F_X3_reread_33 (k_X3_reread_10 : Int32 → AH → Option AH) : Nat → Int32 → Nat → Int32 → AH → Option AH := fun k => match k with | 0 => fun _ _ _ _ => none | k + 1 => B_X3_reread_33 k_X3_reread_10 (F_X3_reread_33 k_X3_reread_10 k)
def B_X3_reread_10 (k_X3_reread_10 : Int32 → AH → Option AH) (x1 : Int32) (σ : AH) : Option AH := (if (gI σ 1 1) ≤ x1 then (some (sI σ 28 6 (-1 : Int32))) else (if inB x1 24 = true then (on (gR σ 2 x1.toNatClampNeg) (F_X3_reread_33b k_X3_reread_10 BIG x1 (0 : Int32) σ) fun b5 => if kd σ b5 = (0, NO 0) ∧ b5 < nx σ then (F_X3_reread_33 k_X3_reread_10 BIG x1 b5 (0 : Int32) σ) else none) else none))
def F_X3_reread_10 : Nat → Int32 → AH → Option AH := fun k => match k with | 0 => fun _ _ => none | k + 1 => B_X3_reread_10 (F_X3_reread_10 k)
def F_X3_reread (σ : AH) : Option AH := (lt (sA σ 29 (filln (gI σ 29) 63 (-1 : Int32))) fun τ2 => (F_X3_reread_10 BIG (0 : Int32) τ2))
set_option maxRecDepth 100000 in
theorem t_X3_reread_90 {X : Sx} {l : Launch} {D : Nat} {k_X3_reread_10 : Int32 → AH → Option AH} {x1 : Int32} {σ : AH} {σ' : AH} (hD : 1 ≤ D) (hk_X3_reread_10 : ∀ (x1 : Int32) (σ : AH) (σ' : AH), Sh σ → k_X3_reread_10 x1 σ = some σ' → E X l m_X3_reread D 10 [(0, .ref 28), (1, .int x1)] [] σ none σ') (hs : Sh σ) (h : F_X3_reread_90 k_X3_reread_10 x1 σ = some σ') : W_X3_reread_90 X l D x1 σ none σ' := by
  unfold F_X3_reread_90 at h
  unfold W_X3_reread_90
  exact hk_X3_reread_10 _ _ _ hs  h
set_option maxRecDepth 100000 in
theorem t_X3_reread_33b {X : Sx} {l : Launch} {D : Nat} {k_X3_reread_10 : Int32 → AH → Option AH} {k_X3_reread_33b : Int32 → Int32 → AH → Option AH} {x1 : Int32} {x3 : Int32} {σ : AH} {σ' : AH} (hD : 1 ≤ D) (hk_X3_reread_10 : ∀ (x1 : Int32) (σ : AH) (σ' : AH), Sh σ → k_X3_reread_10 x1 σ = some σ' → E X l m_X3_reread D 10 [(0, .ref 28), (1, .int x1)] [] σ none σ') (hk_X3_reread_33b : ∀ (x1 : Int32) (x3 : Int32) (σ : AH) (σ' : AH), Sh σ → k_X3_reread_33b x1 x3 σ = some σ' → E X l m_X3_reread D 33 [(0, .ref 28), (1, .int x1), (2, .null), (3, .int x3)] [] σ none σ') (hs : Sh σ) (h : B_X3_reread_33b k_X3_reread_10 k_X3_reread_33b x1 x3 σ = some σ') : W_X3_reread_33b X l D x1 x3 σ none σ' := by
  unfold B_X3_reread_33b at h
  unfold W_X3_reread_33b
  exact t_X3_reread_90 hD hk_X3_reread_10 hs  h
theorem e_X3_reread_33b {X : Sx} {l : Launch} {D : Nat} {k_X3_reread_10 : Int32 → AH → Option AH} (hD : 1 ≤ D) (hk_X3_reread_10 : ∀ (x1 : Int32) (σ : AH) (σ' : AH), Sh σ → k_X3_reread_10 x1 σ = some σ' → E X l m_X3_reread D 10 [(0, .ref 28), (1, .int x1)] [] σ none σ') : ∀ (k : Nat) (x1 : Int32) (x3 : Int32) (σ : AH) (σ' : AH), Sh σ → F_X3_reread_33b k_X3_reread_10 k x1 x3 σ = some σ' → E X l m_X3_reread D 33 [(0, .ref 28), (1, .int x1), (2, .null), (3, .int x3)] [] σ none σ' := by
  intro k
  induction k with
  | zero => intro x1 x3 σ σ' hs h; cases h
  | succ k ih =>
    intro x1 x3 σ σ' hs h
    exact w_X3_reread_33b hs  (t_X3_reread_33b hD hk_X3_reread_10 ih hs  h)
set_option maxRecDepth 100000 in
theorem t_X3_reread_33 {X : Sx} {l : Launch} {D : Nat} {k_X3_reread_10 : Int32 → AH → Option AH} {k_X3_reread_33 : Int32 → Nat → Int32 → AH → Option AH} {x1 : Int32} {x2 : Nat} {x3 : Int32} {σ : AH} {σ' : AH} (hD : 1 ≤ D) (hk_X3_reread_10 : ∀ (x1 : Int32) (σ : AH) (σ' : AH), Sh σ → k_X3_reread_10 x1 σ = some σ' → E X l m_X3_reread D 10 [(0, .ref 28), (1, .int x1)] [] σ none σ') (hk_X3_reread_33 : ∀ (x1 : Int32) (x2 : Nat) (x3 : Int32) (σ : AH) (σ' : AH), Sh σ → k_X3_reread_33 x1 x2 x3 σ = some σ' → E X l m_X3_reread D 33 [(0, .ref 28), (1, .int x1), (2, .ref x2), (3, .int x3)] [] σ none σ') (hs : Sh σ) (h : B_X3_reread_33 k_X3_reread_10 k_X3_reread_33 x1 x2 x3 σ = some σ') : W_X3_reread_33 X l D x1 x2 x3 σ none σ' := by
  unfold B_X3_reread_33 at h
  unfold W_X3_reread_33
  obtain ⟨g1, h⟩ := of_gd h
  refine ⟨g1, ?_⟩
  obtain ⟨g2, h⟩ := of_gd h
  refine ⟨g2, ?_⟩
  refine ite_i (fun c3 => ?_) (fun c3 => ?_)
  · replace h := of_ifp h c3
    exact t_X3_reread_90 hD hk_X3_reread_10 hs  h
  · replace h := of_ifn h c3
    obtain ⟨b11, e5, h⟩ := of_bo h
    obtain ⟨g4, h⟩ := of_gd h
    refine ⟨b11, _, e5, Prod.ext g4.1 rfl, g4.2, ?_⟩
    obtain ⟨g6, h⟩ := of_gd h
    refine ⟨(inB_mp g6), ?_⟩
    obtain ⟨g7, h⟩ := of_gd h
    refine ⟨(inB_mp g7), ?_⟩
    obtain ⟨g8, h⟩ := of_gd h
    refine ⟨(inB_mp g8), ?_⟩
    obtain ⟨b19, e10, h⟩ := of_bo h
    obtain ⟨g9, h⟩ := of_gd h
    refine ⟨b19, _, e10, Prod.ext g9.1 rfl, g9.2, ?_⟩
    obtain ⟨g11, h⟩ := of_gd h
    refine ⟨(inB_mp g11), ?_⟩
    obtain ⟨g12, h⟩ := of_gd h
    refine ⟨(inB_mp g12), ?_⟩
    intro τ26 e13
    replace h := of_lt h e13
    have hs14 : Sh τ26 := by rw [e13]; exact hs
    exact hk_X3_reread_33 _ _ _ _ _ hs14  h
theorem e_X3_reread_33 {X : Sx} {l : Launch} {D : Nat} {k_X3_reread_10 : Int32 → AH → Option AH} (hD : 1 ≤ D) (hk_X3_reread_10 : ∀ (x1 : Int32) (σ : AH) (σ' : AH), Sh σ → k_X3_reread_10 x1 σ = some σ' → E X l m_X3_reread D 10 [(0, .ref 28), (1, .int x1)] [] σ none σ') : ∀ (k : Nat) (x1 : Int32) (x2 : Nat) (x3 : Int32) (σ : AH) (σ' : AH), Sh σ → F_X3_reread_33 k_X3_reread_10 k x1 x2 x3 σ = some σ' → E X l m_X3_reread D 33 [(0, .ref 28), (1, .int x1), (2, .ref x2), (3, .int x3)] [] σ none σ' := by
  intro k
  induction k with
  | zero => intro x1 x2 x3 σ σ' hs h; cases h
  | succ k ih =>
    intro x1 x2 x3 σ σ' hs h
    exact w_X3_reread_33 hs  (t_X3_reread_33 hD hk_X3_reread_10 ih hs  h)
set_option maxRecDepth 100000 in
theorem t_X3_reread_10 {X : Sx} {l : Launch} {D : Nat} {k_X3_reread_10 : Int32 → AH → Option AH} {x1 : Int32} {σ : AH} {σ' : AH} (hD : 1 ≤ D) (hk_X3_reread_10 : ∀ (x1 : Int32) (σ : AH) (σ' : AH), Sh σ → k_X3_reread_10 x1 σ = some σ' → E X l m_X3_reread D 10 [(0, .ref 28), (1, .int x1)] [] σ none σ') (hs : Sh σ) (h : B_X3_reread_10 k_X3_reread_10 x1 σ = some σ') : W_X3_reread_10 X l D x1 σ none σ' := by
  unfold B_X3_reread_10 at h
  unfold W_X3_reread_10
  refine ite_i (fun c1 => ?_) (fun c1 => ?_)
  · replace h := of_ifp h c1
    exact ret_v h
  · replace h := of_ifn h c1
    obtain ⟨g2, h⟩ := of_gd h
    refine ⟨(inB_mp g2), ?_⟩
    refine ⟨?_, ?_⟩
    · intro e4
      replace h := of_on0 h e4
      exact e_X3_reread_33b hD hk_X3_reread_10 _ _ _ _ _ hs  h
    · intro b5 e4
      replace h := of_on1 h e4
      obtain ⟨g3, h⟩ := of_gd h
      refine ⟨g3.1, g3.2, ?_⟩
      exact e_X3_reread_33 hD hk_X3_reread_10 _ _ _ _ _ _ hs  h
theorem e_X3_reread_10 {X : Sx} {l : Launch} {D : Nat} (hD : 1 ≤ D) : ∀ (k : Nat) (x1 : Int32) (σ : AH) (σ' : AH), Sh σ → F_X3_reread_10 k x1 σ = some σ' → E X l m_X3_reread D 10 [(0, .ref 28), (1, .int x1)] [] σ none σ' := by
  intro k
  induction k with
  | zero => intro x1 σ σ' hs h; cases h
  | succ k ih =>
    intro x1 σ σ' hs h
    exact w_X3_reread_10 hs  (t_X3_reread_10 hD ih hs  h)
set_option maxRecDepth 100000 in
theorem t_X3_reread_0 {X : Sx} {l : Launch} {D : Nat} {σ : AH} {σ' : AH} (hD : 1 ≤ D) (hs : Sh σ) (h : F_X3_reread σ = some σ') : W_X3_reread_0 X l D σ none σ' := by
  unfold F_X3_reread at h
  unfold W_X3_reread_0
  refine ⟨Nat.le_trans (by decide) hD, ?_⟩
  intro τ2 e1
  replace h := of_lt h e1
  have hs2 : Sh τ2 := by rw [e1]; exact hs
  exact e_X3_reread_10 hD  _ _ _ _ hs2  h
theorem f_X3_reread {X : Sx} {l : Launch} {σ : AH} {σ' : AH} (hs : Sh σ) (h : F_X3_reread σ = some σ') : Call X l m_X3_reread 1 [.ref 28] σ none σ' :=
  Call.ofE ok_X3_reread rfl (Nat.le_of_ble_eq_true rfl) (w_X3_reread_0 hs  (t_X3_reread_0 (Nat.le_refl _) hs  h))
def F_X3_askOf (x1 : Int32) (x2 : Int32) (σ : AH) : Option AH := (bd (F_X8_at 13 x1 (2 : Int32) σ) fun v6 σ2 => (bd (F_X8_at 13 x1 (3 : Int32) (sI σ2 32 1 v6)) fun v12 σ8 => (bd (F_X8_at 13 x1 (5 : Int32) (sI σ8 32 2 v12)) fun v18 σ14 => (bd (F_X8_at 13 x1 (4 : Int32) (sI σ14 32 3 v18)) fun v24 σ20 => (some (sI (sI σ20 32 5 v24) 32 4 x2))))))
set_option maxRecDepth 100000 in
theorem t_X3_askOf_0 {X : Sx} {l : Launch} {D : Nat} {x1 : Int32} {x2 : Int32} {σ : AH} {σ' : AH} (hD : 1 ≤ D) (hs : Sh σ) (h : F_X3_askOf x1 x2 σ = some σ') : W_X3_askOf_0 X l D x1 x2 σ none σ' := by
  unfold F_X3_askOf at h
  unfold W_X3_askOf_0
  obtain ⟨v6, σ2, q1, h⟩ := of_bd h
  have hC2 := f_X8_at  q1 (X := X) (l := l)
  have hs3 := hC2.1.2.2.2.1 hs
  refine ⟨0, v6, σ2, (Nat.le_trans (by decide) hD), hC2, ?_⟩
  obtain ⟨v12, σ8, q4, h⟩ := of_bd h
  have hC5 := f_X8_at  q4 (X := X) (l := l)
  have hs6 := hC5.1.2.2.2.1 hs3
  refine ⟨0, v12, σ8, (Nat.le_trans (by decide) hD), hC5, ?_⟩
  obtain ⟨v18, σ14, q7, h⟩ := of_bd h
  have hC8 := f_X8_at  q7 (X := X) (l := l)
  have hs9 := hC8.1.2.2.2.1 hs6
  refine ⟨0, v18, σ14, (Nat.le_trans (by decide) hD), hC8, ?_⟩
  obtain ⟨v24, σ20, q10, h⟩ := of_bd h
  have hC11 := f_X8_at  q10 (X := X) (l := l)
  have hs12 := hC11.1.2.2.2.1 hs9
  refine ⟨0, v24, σ20, (Nat.le_trans (by decide) hD), hC11, ?_⟩
  exact ret_v h
theorem f_X3_askOf {X : Sx} {l : Launch} {x1 : Int32} {x2 : Int32} {σ : AH} {σ' : AH} (hs : Sh σ) (h : F_X3_askOf x1 x2 σ = some σ') : Call X l m_X3_askOf 1 [.ref 28, .int x1, .int x2] σ none σ' :=
  Call.ofE ok_X3_askOf rfl (Nat.le_of_ble_eq_true rfl) (w_X3_askOf_0 hs  (t_X3_askOf_0 (Nat.le_refl _) hs  h))
def F_X3_total_50 (k_X3_total_13 : Int64 → Int32 → Int32 → AH → Option (Int64 × AH)) (x2 : Int64) (x4 : Int32) (x5 : Int32) (σ : AH) : Option (Int64 × AH) := (if inB x4 384 = true then (k_X3_total_13 x2 (gI σ 30 x4.toNatClampNeg) (x5 + 1) σ) else none)
def B_X3_total_13 (k_X3_total_13 : Int64 → Int32 → Int32 → AH → Option (Int64 × AH)) (x2 : Int64) (x4 : Int32) (x5 : Int32) (σ : AH) : Option (Int64 × AH) := (if (384 : Int32) ≤ x5 then (some (x2, σ)) else (if x4 < 0 then (some (x2, σ)) else (bd (F_X3_evaluate x4 σ) fun v7 σ3 => (if v7 = BRK then (F_X3_total_50 k_X3_total_13 x2 x4 x5 σ3) else (F_X3_total_50 k_X3_total_13 (x2 + v7) x4 x5 σ3)))))
def F_X3_total_13 : Nat → Int64 → Int32 → Int32 → AH → Option (Int64 × AH) := fun k => match k with | 0 => fun _ _ _ _ => none | k + 1 => B_X3_total_13 (F_X3_total_13 k)
def F_X3_total (x1 : Int32) (σ : AH) : Option (Int64 × AH) := (if inB x1 63 = true then (F_X3_total_13 BIG (0 : Int64) (gI σ 29 x1.toNatClampNeg) (0 : Int32) σ) else none)
set_option maxRecDepth 100000 in
theorem t_X3_total_50 {X : Sx} {l : Launch} {D : Nat} {k_X3_total_13 : Int64 → Int32 → Int32 → AH → Option (Int64 × AH)} {x2 : Int64} {x4 : Int32} {x5 : Int32} {σ : AH} {v : Int64} {σ' : AH} (hD : 2 ≤ D) (hk_X3_total_13 : ∀ (x2 : Int64) (x4 : Int32) (x5 : Int32) (σ : AH) (v : Int64) (σ' : AH), Sh σ → k_X3_total_13 x2 x4 x5 σ = some (v, σ') → E X l m_X3_total D 13 [(0, .ref 28), (2, .long x2), (4, .int x4), (5, .int x5)] [] σ (some (.long v)) σ') (hs : Sh σ) (h : F_X3_total_50 k_X3_total_13 x2 x4 x5 σ = some (v, σ')) : W_X3_total_50 X l D x2 x4 x5 σ (some (.long v)) σ' := by
  unfold F_X3_total_50 at h
  unfold W_X3_total_50
  obtain ⟨g1, h⟩ := of_gd h
  refine ⟨(inB_mp g1), ?_⟩
  exact hk_X3_total_13 _ _ _ _ _ _ hs  h
set_option maxRecDepth 100000 in
theorem t_X3_total_13 {X : Sx} {l : Launch} {D : Nat} {k_X3_total_13 : Int64 → Int32 → Int32 → AH → Option (Int64 × AH)} {x2 : Int64} {x4 : Int32} {x5 : Int32} {σ : AH} {v : Int64} {σ' : AH} (hD : 2 ≤ D) (hk_X3_total_13 : ∀ (x2 : Int64) (x4 : Int32) (x5 : Int32) (σ : AH) (v : Int64) (σ' : AH), Sh σ → k_X3_total_13 x2 x4 x5 σ = some (v, σ') → E X l m_X3_total D 13 [(0, .ref 28), (2, .long x2), (4, .int x4), (5, .int x5)] [] σ (some (.long v)) σ') (hs : Sh σ) (h : B_X3_total_13 k_X3_total_13 x2 x4 x5 σ = some (v, σ')) : W_X3_total_13 X l D x2 x4 x5 σ (some (.long v)) σ' := by
  unfold B_X3_total_13 at h
  unfold W_X3_total_13
  refine ite_i (fun c1 => ?_) (fun c1 => ?_)
  · replace h := of_ifp h c1
    exact ret_l h
  · replace h := of_ifn h c1
    refine ite_i (fun c2 => ?_) (fun c2 => ?_)
    · replace h := of_ifp h c2
      exact ret_l h
    · replace h := of_ifn h c2
      obtain ⟨v7, σ3, q3, h⟩ := of_bd h
      have hC4 := f_X3_evaluate (σ := σ) hs  q3 (X := X) (l := l)
      have hs5 := hC4.1.2.2.2.1 hs
      refine ⟨1, v7, σ3, (Nat.le_trans (by decide) hD), hC4, ?_⟩
      refine bif_i (fun c6 => ?_) (fun c6 => ?_)
      · replace h := of_ifp h c6
        exact t_X3_total_50 hD hk_X3_total_13 hs5  h
      · replace h := of_ifn h c6
        exact t_X3_total_50 hD hk_X3_total_13 hs5  h
theorem e_X3_total_13 {X : Sx} {l : Launch} {D : Nat} (hD : 2 ≤ D) : ∀ (k : Nat) (x2 : Int64) (x4 : Int32) (x5 : Int32) (σ : AH) (v : Int64) (σ' : AH), Sh σ → F_X3_total_13 k x2 x4 x5 σ = some (v, σ') → E X l m_X3_total D 13 [(0, .ref 28), (2, .long x2), (4, .int x4), (5, .int x5)] [] σ (some (.long v)) σ' := by
  intro k
  induction k with
  | zero => intro x2 x4 x5 σ v σ' hs h; cases h
  | succ k ih =>
    intro x2 x4 x5 σ v σ' hs h
    exact w_X3_total_13 hs  (t_X3_total_13 hD ih hs  h)
set_option maxRecDepth 100000 in
theorem t_X3_total_0 {X : Sx} {l : Launch} {D : Nat} {x1 : Int32} {σ : AH} {v : Int64} {σ' : AH} (hD : 2 ≤ D) (hs : Sh σ) (h : F_X3_total x1 σ = some (v, σ')) : W_X3_total_0 X l D x1 σ (some (.long v)) σ' := by
  unfold F_X3_total at h
  unfold W_X3_total_0
  obtain ⟨g1, h⟩ := of_gd h
  refine ⟨(inB_mp g1), ?_⟩
  exact e_X3_total_13 hD  _ _ _ _ _ _ _ hs  h
theorem f_X3_total {X : Sx} {l : Launch} {x1 : Int32} {σ : AH} {v : Int64} {σ' : AH} (hs : Sh σ) (h : F_X3_total x1 σ = some (v, σ')) : Call X l m_X3_total 2 [.ref 28, .int x1] σ (some (.long v)) σ' :=
  Call.ofE ok_X3_total rfl (Nat.le_of_ble_eq_true rfl) (w_X3_total_0 hs  (t_X3_total_0 (Nat.le_refl _) hs  h))
def F_X4_init (x0 : Nat) (x1 : Nat) (x2 : Nat) (σ : AH) : Option AH := (if kd σ x0 = (4, NO 4) then (if x0 < nx σ then (if kd σ x1 = (9, NO 9) then (if x1 < nx σ then (lt (aw σ 100 60) fun τ1 => (if alB m_X4_init x0 = true then (if shOX τ1 x0 2 = true then (lt (sR τ1 x0 2 (some (nx σ))) fun τ12 => (if alB m_X4_init x0 = true then (if alB m_X4_init x0 = true then (lt (aw (sI (sI τ12 x0 3 (-1 : Int32)) x0 4 (-1 : Int32)) 100 360) fun τ21 => (if alB m_X4_init x0 = true then (if shOX τ21 x0 5 = true then (lt (sR τ21 x0 5 (some (nx (sI (sI τ12 x0 3 (-1 : Int32)) x0 4 (-1 : Int32))))) fun τ32 => (lt (aw τ32 100 6) fun τ39 => (if alB m_X4_init x0 = true then (if shOX τ39 x0 6 = true then (lt (sR τ39 x0 6 (some (nx τ32))) fun τ50 => (lt (aw τ50 102 60) fun τ57 => (if alB m_X4_init x0 = true then (if shOX τ57 x0 7 = true then (lt (sR τ57 x0 7 (some (nx τ50))) fun τ68 => (lt (aw τ68 100 60) fun τ75 => (if alB m_X4_init x0 = true then (if shOX τ75 x0 8 = true then (lt (sR τ75 x0 8 (some (nx τ68))) fun τ86 => (if alB m_X4_init x0 = true then (if shOX τ86 x0 0 = true then (lt (sR τ86 x0 0 (some x1)) fun τ95 => (if alB m_X4_init x0 = true then (if shOX τ95 x0 1 = true then (lt (sR τ95 x0 1 (some x2)) fun τ104 => (some τ104)) else none) else none)) else none) else none)) else none) else none))) else none) else none))) else none) else none))) else none) else none)) else none) else none)) else none) else none)) else none) else none) else none) else none)
set_option maxRecDepth 100000 in
theorem t_X4_init_0 {X : Sx} {l : Launch} {D : Nat} {x0 : Nat} {x1 : Nat} {x2 : Nat} {σ : AH} {σ' : AH} (hD : 1 ≤ D) (h : F_X4_init x0 x1 x2 σ = some σ') : W_X4_init_0 X l D x0 x1 x2 σ none σ' := by
  unfold F_X4_init at h
  unfold W_X4_init_0
  obtain ⟨g1, h⟩ := of_gd h
  refine ⟨g1, ?_⟩
  obtain ⟨g2, h⟩ := of_gd h
  refine ⟨g2, ?_⟩
  obtain ⟨g3, h⟩ := of_gd h
  refine ⟨g3, ?_⟩
  obtain ⟨g4, h⟩ := of_gd h
  refine ⟨g4, ?_⟩
  refine ⟨Nat.le_trans (by decide) hD, ?_⟩
  intro τ1 e5
  replace h := of_lt h e5
  obtain ⟨g6, h⟩ := of_gd h
  refine ⟨(alB_mp g6), ?_⟩
  obtain ⟨g7, h⟩ := of_gd h
  refine ⟨(fun q => shOX_mp g7 q), ?_⟩
  intro τ12 e8
  replace h := of_lt h e8
  obtain ⟨g9, h⟩ := of_gd h
  refine ⟨(alB_mp g9), ?_⟩
  obtain ⟨g10, h⟩ := of_gd h
  refine ⟨(alB_mp g10), ?_⟩
  intro τ21 e11
  replace h := of_lt h e11
  obtain ⟨g12, h⟩ := of_gd h
  refine ⟨(alB_mp g12), ?_⟩
  obtain ⟨g13, h⟩ := of_gd h
  refine ⟨(fun q => shOX_mp g13 q), ?_⟩
  intro τ32 e14
  replace h := of_lt h e14
  intro τ39 e15
  replace h := of_lt h e15
  obtain ⟨g16, h⟩ := of_gd h
  refine ⟨(alB_mp g16), ?_⟩
  obtain ⟨g17, h⟩ := of_gd h
  refine ⟨(fun q => shOX_mp g17 q), ?_⟩
  intro τ50 e18
  replace h := of_lt h e18
  intro τ57 e19
  replace h := of_lt h e19
  obtain ⟨g20, h⟩ := of_gd h
  refine ⟨(alB_mp g20), ?_⟩
  obtain ⟨g21, h⟩ := of_gd h
  refine ⟨(fun q => shOX_mp g21 q), ?_⟩
  intro τ68 e22
  replace h := of_lt h e22
  intro τ75 e23
  replace h := of_lt h e23
  obtain ⟨g24, h⟩ := of_gd h
  refine ⟨(alB_mp g24), ?_⟩
  obtain ⟨g25, h⟩ := of_gd h
  refine ⟨(fun q => shOX_mp g25 q), ?_⟩
  intro τ86 e26
  replace h := of_lt h e26
  obtain ⟨g27, h⟩ := of_gd h
  refine ⟨(alB_mp g27), ?_⟩
  obtain ⟨g28, h⟩ := of_gd h
  refine ⟨(fun q => shOX_mp g28 q), ?_⟩
  intro τ95 e29
  replace h := of_lt h e29
  obtain ⟨g30, h⟩ := of_gd h
  refine ⟨(alB_mp g30), ?_⟩
  obtain ⟨g31, h⟩ := of_gd h
  refine ⟨(fun q => shOX_mp g31 q), ?_⟩
  intro τ104 e32
  replace h := of_lt h e32
  exact ret_v h
theorem f_X4_init {X : Sx} {l : Launch} {x0 : Nat} {x1 : Nat} {x2 : Nat} {σ : AH} {σ' : AH} (h : F_X4_init x0 x1 x2 σ = some σ') : Call X l m_X4_init 1 [.ref x0, .ref x1, .ref x2] σ none σ' :=
  Call.ofE ok_X4_init rfl (Nat.le_of_ble_eq_true rfl) (w_X4_init_0  (t_X4_init_0 (Nat.le_refl _)  h))
def F_X4_isAlike_67 (k_X4_isAlike_6 : Int32 → Int32 → Int32 → Int32 → AH → Option (Int32 × AH)) (x1 : Int32) (x2 : Int32) (x3 : Int32) (x4 : Int32) (σ : AH) : Option (Int32 × AH) := (k_X4_isAlike_6 x1 x2 x3 (x4 + 1) σ)
def B_X4_isAlike_6 (k_X4_isAlike_6 : Int32 → Int32 → Int32 → Int32 → AH → Option (Int32 × AH)) (x1 : Int32) (x2 : Int32) (x3 : Int32) (x4 : Int32) (σ : AH) : Option (Int32 × AH) := (if (10 : Int32) ≤ x4 then (if x3 < (2 : Int32) then (some ((0 : Int32), σ)) else (some ((1 : Int32), σ))) else (bd (F_X8_at 13 x1 x4 σ) fun v6 σ2 => (bd (F_X8_at 13 x2 x4 σ2) fun v12 σ8 => (if v6 = (-1 : Int32) then (F_X4_isAlike_67 k_X4_isAlike_6 x1 x2 x3 x4 σ8) else (if v12 = (-1 : Int32) then (F_X4_isAlike_67 k_X4_isAlike_6 x1 x2 x3 x4 σ8) else (if v6 = v12 then (F_X4_isAlike_67 k_X4_isAlike_6 x1 x2 (x3 + 1) x4 σ8) else (some ((0 : Int32), σ8))))))))
def F_X4_isAlike_6 : Nat → Int32 → Int32 → Int32 → Int32 → AH → Option (Int32 × AH) := fun k => match k with | 0 => fun _ _ _ _ _ => none | k + 1 => B_X4_isAlike_6 (F_X4_isAlike_6 k)
def F_X4_isAlike (x1 : Int32) (x2 : Int32) (σ : AH) : Option (Int32 × AH) := (F_X4_isAlike_6 BIG x1 x2 (0 : Int32) (7 : Int32) σ)
set_option maxRecDepth 100000 in
theorem t_X4_isAlike_67 {X : Sx} {l : Launch} {D : Nat} {k_X4_isAlike_6 : Int32 → Int32 → Int32 → Int32 → AH → Option (Int32 × AH)} {x1 : Int32} {x2 : Int32} {x3 : Int32} {x4 : Int32} {σ : AH} {v : Int32} {σ' : AH} (hD : 1 ≤ D) (hk_X4_isAlike_6 : ∀ (x1 : Int32) (x2 : Int32) (x3 : Int32) (x4 : Int32) (σ : AH) (v : Int32) (σ' : AH), Sh σ → k_X4_isAlike_6 x1 x2 x3 x4 σ = some (v, σ') → E X l m_X4_isAlike D 6 [(0, .ref 113), (1, .int x1), (2, .int x2), (3, .int x3), (4, .int x4)] [] σ (some (.int v)) σ') (hs : Sh σ) (h : F_X4_isAlike_67 k_X4_isAlike_6 x1 x2 x3 x4 σ = some (v, σ')) : W_X4_isAlike_67 X l D x1 x2 x3 x4 σ (some (.int v)) σ' := by
  unfold F_X4_isAlike_67 at h
  unfold W_X4_isAlike_67
  exact hk_X4_isAlike_6 _ _ _ _ _ _ _ hs  h
set_option maxRecDepth 100000 in
theorem t_X4_isAlike_6 {X : Sx} {l : Launch} {D : Nat} {k_X4_isAlike_6 : Int32 → Int32 → Int32 → Int32 → AH → Option (Int32 × AH)} {x1 : Int32} {x2 : Int32} {x3 : Int32} {x4 : Int32} {σ : AH} {v : Int32} {σ' : AH} (hD : 1 ≤ D) (hk_X4_isAlike_6 : ∀ (x1 : Int32) (x2 : Int32) (x3 : Int32) (x4 : Int32) (σ : AH) (v : Int32) (σ' : AH), Sh σ → k_X4_isAlike_6 x1 x2 x3 x4 σ = some (v, σ') → E X l m_X4_isAlike D 6 [(0, .ref 113), (1, .int x1), (2, .int x2), (3, .int x3), (4, .int x4)] [] σ (some (.int v)) σ') (hs : Sh σ) (h : B_X4_isAlike_6 k_X4_isAlike_6 x1 x2 x3 x4 σ = some (v, σ')) : W_X4_isAlike_6 X l D x1 x2 x3 x4 σ (some (.int v)) σ' := by
  unfold B_X4_isAlike_6 at h
  unfold W_X4_isAlike_6
  refine ite_i (fun c1 => ?_) (fun c1 => ?_)
  · replace h := of_ifp h c1
    refine ite_i (fun c2 => ?_) (fun c2 => ?_)
    · replace h := of_ifp h c2
      exact ret_i h
    · replace h := of_ifn h c2
      exact ret_i h
  · replace h := of_ifn h c1
    obtain ⟨v6, σ2, q3, h⟩ := of_bd h
    have hC4 := f_X8_at  q3 (X := X) (l := l)
    have hs5 := hC4.1.2.2.2.1 hs
    refine ⟨0, v6, σ2, (Nat.le_trans (by decide) hD), hC4, ?_⟩
    obtain ⟨v12, σ8, q6, h⟩ := of_bd h
    have hC7 := f_X8_at  q6 (X := X) (l := l)
    have hs8 := hC7.1.2.2.2.1 hs5
    refine ⟨0, v12, σ8, (Nat.le_trans (by decide) hD), hC7, ?_⟩
    refine ite_i (fun c9 => ?_) (fun c9 => ?_)
    · replace h := of_ifp h c9
      exact t_X4_isAlike_67 hD hk_X4_isAlike_6 hs8  h
    · replace h := of_ifn h c9
      refine ite_i (fun c10 => ?_) (fun c10 => ?_)
      · replace h := of_ifp h c10
        exact t_X4_isAlike_67 hD hk_X4_isAlike_6 hs8  h
      · replace h := of_ifn h c10
        refine ite_i (fun c11 => ?_) (fun c11 => ?_)
        · replace h := of_ifp h c11
          exact t_X4_isAlike_67 hD hk_X4_isAlike_6 hs8  h
        · replace h := of_ifn h c11
          exact ret_i h
theorem e_X4_isAlike_6 {X : Sx} {l : Launch} {D : Nat} (hD : 1 ≤ D) : ∀ (k : Nat) (x1 : Int32) (x2 : Int32) (x3 : Int32) (x4 : Int32) (σ : AH) (v : Int32) (σ' : AH), Sh σ → F_X4_isAlike_6 k x1 x2 x3 x4 σ = some (v, σ') → E X l m_X4_isAlike D 6 [(0, .ref 113), (1, .int x1), (2, .int x2), (3, .int x3), (4, .int x4)] [] σ (some (.int v)) σ' := by
  intro k
  induction k with
  | zero => intro x1 x2 x3 x4 σ v σ' hs h; cases h
  | succ k ih =>
    intro x1 x2 x3 x4 σ v σ' hs h
    exact w_X4_isAlike_6 hs  (t_X4_isAlike_6 hD ih hs  h)
set_option maxRecDepth 100000 in
theorem t_X4_isAlike_0 {X : Sx} {l : Launch} {D : Nat} {x1 : Int32} {x2 : Int32} {σ : AH} {v : Int32} {σ' : AH} (hD : 1 ≤ D) (hs : Sh σ) (h : F_X4_isAlike x1 x2 σ = some (v, σ')) : W_X4_isAlike_0 X l D x1 x2 σ (some (.int v)) σ' := by
  unfold F_X4_isAlike at h
  unfold W_X4_isAlike_0
  exact e_X4_isAlike_6 hD  _ _ _ _ _ _ _ _ hs  h
theorem f_X4_isAlike {X : Sx} {l : Launch} {x1 : Int32} {x2 : Int32} {σ : AH} {v : Int32} {σ' : AH} (hs : Sh σ) (h : F_X4_isAlike x1 x2 σ = some (v, σ')) : Call X l m_X4_isAlike 1 [.ref 113, .int x1, .int x2] σ (some (.int v)) σ' :=
  Call.ofE ok_X4_isAlike rfl (Nat.le_of_ble_eq_true rfl) (w_X4_isAlike_0 hs  (t_X4_isAlike_0 (Nat.le_refl _) hs  h))
def F_X4_makeOne_47 (k_X4_makeOne_10 : Int32 → Int32 → Int32 → Int32 → Int32 → AH → Option AH) (x1 : Int32) (x2 : Int32) (x3 : Int32) (x4 : Int32) (x5 : Int32) (σ : AH) : Option AH := (k_X4_makeOne_10 x1 x2 x3 x4 (x5 + 1) σ)
def F_X4_makeOne_38 (k_X4_makeOne_10 : Int32 → Int32 → Int32 → Int32 → Int32 → AH → Option AH) (x1 : Int32) (x2 : Int32) (x3 : Int32) (x4 : Int32) (x5 : Int32) (σ : AH) : Option AH := (if inB x5 60 = true then (F_X4_makeOne_47 k_X4_makeOne_10 x1 x2 x3 x4 x5 (sI σ 114 x5.toNatClampNeg x4)) else none)
def B_X4_makeOne_10 (k_X4_makeOne_10 : Int32 → Int32 → Int32 → Int32 → Int32 → AH → Option AH) (x1 : Int32) (x2 : Int32) (x3 : Int32) (x4 : Int32) (x5 : Int32) (σ : AH) : Option AH := (if x3 < x5 then (some σ) else (if inB x5 60 = true then (if (gI σ 114 x5.toNatClampNeg) = x1 then (F_X4_makeOne_38 k_X4_makeOne_10 x1 x2 x3 x4 x5 σ) else (if inB x5 60 = true then (if (gI σ 114 x5.toNatClampNeg) = x2 then (F_X4_makeOne_38 k_X4_makeOne_10 x1 x2 x3 x4 x5 σ) else (F_X4_makeOne_47 k_X4_makeOne_10 x1 x2 x3 x4 x5 σ)) else none)) else none))
def F_X4_makeOne_10 : Nat → Int32 → Int32 → Int32 → Int32 → Int32 → AH → Option AH := fun k => match k with | 0 => fun _ _ _ _ _ _ => none | k + 1 => B_X4_makeOne_10 (F_X4_makeOne_10 k)
def F_X4_makeOne (x1 : Int32) (x2 : Int32) (x3 : Int32) (σ : AH) : Option AH := (F_X4_makeOne_10 BIG x1 x2 x3 (imin x1 x2) (0 : Int32) σ)
set_option maxRecDepth 100000 in
theorem t_X4_makeOne_47 {X : Sx} {l : Launch} {D : Nat} {k_X4_makeOne_10 : Int32 → Int32 → Int32 → Int32 → Int32 → AH → Option AH} {x1 : Int32} {x2 : Int32} {x3 : Int32} {x4 : Int32} {x5 : Int32} {σ : AH} {σ' : AH} (hD : 1 ≤ D) (hk_X4_makeOne_10 : ∀ (x1 : Int32) (x2 : Int32) (x3 : Int32) (x4 : Int32) (x5 : Int32) (σ : AH) (σ' : AH), Sh σ → k_X4_makeOne_10 x1 x2 x3 x4 x5 σ = some σ' → E X l m_X4_makeOne D 10 [(0, .ref 113), (1, .int x1), (2, .int x2), (3, .int x3), (4, .int x4), (5, .int x5)] [] σ none σ') (hs : Sh σ) (h : F_X4_makeOne_47 k_X4_makeOne_10 x1 x2 x3 x4 x5 σ = some σ') : W_X4_makeOne_47 X l D x1 x2 x3 x4 x5 σ none σ' := by
  unfold F_X4_makeOne_47 at h
  unfold W_X4_makeOne_47
  exact hk_X4_makeOne_10 _ _ _ _ _ _ _ hs  h
set_option maxRecDepth 100000 in
theorem t_X4_makeOne_38 {X : Sx} {l : Launch} {D : Nat} {k_X4_makeOne_10 : Int32 → Int32 → Int32 → Int32 → Int32 → AH → Option AH} {x1 : Int32} {x2 : Int32} {x3 : Int32} {x4 : Int32} {x5 : Int32} {σ : AH} {σ' : AH} (hD : 1 ≤ D) (hk_X4_makeOne_10 : ∀ (x1 : Int32) (x2 : Int32) (x3 : Int32) (x4 : Int32) (x5 : Int32) (σ : AH) (σ' : AH), Sh σ → k_X4_makeOne_10 x1 x2 x3 x4 x5 σ = some σ' → E X l m_X4_makeOne D 10 [(0, .ref 113), (1, .int x1), (2, .int x2), (3, .int x3), (4, .int x4), (5, .int x5)] [] σ none σ') (hs : Sh σ) (h : F_X4_makeOne_38 k_X4_makeOne_10 x1 x2 x3 x4 x5 σ = some σ') : W_X4_makeOne_38 X l D x1 x2 x3 x4 x5 σ none σ' := by
  unfold F_X4_makeOne_38 at h
  unfold W_X4_makeOne_38
  obtain ⟨g1, h⟩ := of_gd h
  refine ⟨(inB_mp g1), ?_⟩
  exact t_X4_makeOne_47 hD hk_X4_makeOne_10 hs  h
set_option maxRecDepth 100000 in
theorem t_X4_makeOne_10 {X : Sx} {l : Launch} {D : Nat} {k_X4_makeOne_10 : Int32 → Int32 → Int32 → Int32 → Int32 → AH → Option AH} {x1 : Int32} {x2 : Int32} {x3 : Int32} {x4 : Int32} {x5 : Int32} {σ : AH} {σ' : AH} (hD : 1 ≤ D) (hk_X4_makeOne_10 : ∀ (x1 : Int32) (x2 : Int32) (x3 : Int32) (x4 : Int32) (x5 : Int32) (σ : AH) (σ' : AH), Sh σ → k_X4_makeOne_10 x1 x2 x3 x4 x5 σ = some σ' → E X l m_X4_makeOne D 10 [(0, .ref 113), (1, .int x1), (2, .int x2), (3, .int x3), (4, .int x4), (5, .int x5)] [] σ none σ') (hs : Sh σ) (h : B_X4_makeOne_10 k_X4_makeOne_10 x1 x2 x3 x4 x5 σ = some σ') : W_X4_makeOne_10 X l D x1 x2 x3 x4 x5 σ none σ' := by
  unfold B_X4_makeOne_10 at h
  unfold W_X4_makeOne_10
  refine ite_i (fun c1 => ?_) (fun c1 => ?_)
  · replace h := of_ifp h c1
    exact ret_v h
  · replace h := of_ifn h c1
    obtain ⟨g2, h⟩ := of_gd h
    refine ⟨(inB_mp g2), ?_⟩
    refine ite_i (fun c3 => ?_) (fun c3 => ?_)
    · replace h := of_ifp h c3
      exact t_X4_makeOne_38 hD hk_X4_makeOne_10 hs  h
    · replace h := of_ifn h c3
      obtain ⟨g4, h⟩ := of_gd h
      refine ⟨(inB_mp g4), ?_⟩
      refine ite_i (fun c5 => ?_) (fun c5 => ?_)
      · replace h := of_ifp h c5
        exact t_X4_makeOne_38 hD hk_X4_makeOne_10 hs  h
      · replace h := of_ifn h c5
        exact t_X4_makeOne_47 hD hk_X4_makeOne_10 hs  h
theorem e_X4_makeOne_10 {X : Sx} {l : Launch} {D : Nat} (hD : 1 ≤ D) : ∀ (k : Nat) (x1 : Int32) (x2 : Int32) (x3 : Int32) (x4 : Int32) (x5 : Int32) (σ : AH) (σ' : AH), Sh σ → F_X4_makeOne_10 k x1 x2 x3 x4 x5 σ = some σ' → E X l m_X4_makeOne D 10 [(0, .ref 113), (1, .int x1), (2, .int x2), (3, .int x3), (4, .int x4), (5, .int x5)] [] σ none σ' := by
  intro k
  induction k with
  | zero => intro x1 x2 x3 x4 x5 σ σ' hs h; cases h
  | succ k ih =>
    intro x1 x2 x3 x4 x5 σ σ' hs h
    exact w_X4_makeOne_10 hs  (t_X4_makeOne_10 hD ih hs  h)
set_option maxRecDepth 100000 in
theorem t_X4_makeOne_0 {X : Sx} {l : Launch} {D : Nat} {x1 : Int32} {x2 : Int32} {x3 : Int32} {σ : AH} {σ' : AH} (hD : 1 ≤ D) (hs : Sh σ) (h : F_X4_makeOne x1 x2 x3 σ = some σ') : W_X4_makeOne_0 X l D x1 x2 x3 σ none σ' := by
  unfold F_X4_makeOne at h
  unfold W_X4_makeOne_0
  refine ⟨Nat.le_trans (by decide) hD, ?_⟩
  exact e_X4_makeOne_10 hD  _ _ _ _ _ _ _ _ hs  h
theorem f_X4_makeOne {X : Sx} {l : Launch} {x1 : Int32} {x2 : Int32} {x3 : Int32} {σ : AH} {σ' : AH} (hs : Sh σ) (h : F_X4_makeOne x1 x2 x3 σ = some σ') : Call X l m_X4_makeOne 1 [.ref 113, .int x1, .int x2, .int x3] σ none σ' :=
  Call.ofE ok_X4_makeOne rfl (Nat.le_of_ble_eq_true rfl) (w_X4_makeOne_0 hs  (t_X4_makeOne_0 (Nat.le_refl _) hs  h))
def F_X4_join_151 (k_X4_join_29 : Int32 → Int32 → AH → Option AH) (x1 : Int32) (x3 : Int32) (σ : AH) : Option AH := (k_X4_join_29 x1 (x3 + 1) σ)
def F_X4_join_145 (k_X4_join_29 : Int32 → Int32 → AH → Option AH) (k_X4_join_74 : Int32 → Int32 → Int32 → AH → Option AH) (x1 : Int32) (x3 : Int32) (x4 : Int32) (σ : AH) : Option AH := (k_X4_join_74 x1 x3 (x4 + 1) σ)
def B_X4_join_74 (k_X4_join_29 : Int32 → Int32 → AH → Option AH) (k_X4_join_74 : Int32 → Int32 → Int32 → AH → Option AH) (x1 : Int32) (x3 : Int32) (x4 : Int32) (σ : AH) : Option AH := (if x3 ≤ x4 then (F_X4_join_151 k_X4_join_29 x1 x3 σ) else (if inB x3 60 = true then (if (gI σ 114 x3.toNatClampNeg) = (-1 : Int32) then (F_X4_join_151 k_X4_join_29 x1 x3 σ) else (if inB x4 60 = true then (if (gI σ 114 x4.toNatClampNeg) = (-1 : Int32) then (F_X4_join_145 k_X4_join_29 k_X4_join_74 x1 x3 x4 σ) else (if inB x4 60 = true then (if inB x3 60 = true then (if (gI σ 114 x4.toNatClampNeg) = (gI σ 114 x3.toNatClampNeg) then (F_X4_join_145 k_X4_join_29 k_X4_join_74 x1 x3 x4 σ) else (bd (F_X4_isAlike x3 x4 σ) fun v23 σ19 => (if v23 = 0 then (F_X4_join_145 k_X4_join_29 k_X4_join_74 x1 x3 x4 σ19) else (if inB x4 60 = true then (if inB x3 60 = true then (bv (F_X4_makeOne (gI σ19 114 x4.toNatClampNeg) (gI σ19 114 x3.toNatClampNeg) x3 σ19) fun σ27 => (F_X4_join_145 k_X4_join_29 k_X4_join_74 x1 x3 x4 σ27)) else none) else none)))) else none) else none)) else none)) else none))
def F_X4_join_74 (k_X4_join_29 : Int32 → Int32 → AH → Option AH) : Nat → Int32 → Int32 → Int32 → AH → Option AH := fun k => match k with | 0 => fun _ _ _ _ => none | k + 1 => B_X4_join_74 k_X4_join_29 (F_X4_join_74 k_X4_join_29 k)
def F_X4_join_70 (k_X4_join_29 : Int32 → Int32 → AH → Option AH) (x1 : Int32) (x3 : Int32) (y0 : Int32) (y1 : Int32) (σ : AH) : Option AH := (if inB y1 60 = true then (F_X4_join_74 k_X4_join_29 BIG x1 x3 (0 : Int32) (sI σ 114 y1.toNatClampNeg y0)) else none)
def B_X4_join_29 (k_X4_join_29 : Int32 → Int32 → AH → Option AH) (x1 : Int32) (x3 : Int32) (σ : AH) : Option AH := (bd (F_X8_rows 13 σ) fun v6 σ2 => (if v6 ≤ x3 then (some σ2) else (bd (F_X8_at 13 x3 (6 : Int32) σ2) fun v12 σ8 => (if x1 < v12 then (F_X4_join_70 k_X4_join_29 x1 x3 (-1 : Int32) x3 σ8) else (F_X4_join_70 k_X4_join_29 x1 x3 x3 x3 σ8)))))
def F_X4_join_29 : Nat → Int32 → Int32 → AH → Option AH := fun k => match k with | 0 => fun _ _ _ => none | k + 1 => B_X4_join_29 (F_X4_join_29 k)
def F_X4_join_17 (x1 : Int32) (x2 : Int32) (σ : AH) : Option AH := (F_X4_join_29 BIG x1 (0 : Int32) (sI (sI σ 113 3 x1) 113 4 x2))
def F_X4_join (x1 : Int32) (x2 : Int32) (σ : AH) : Option AH := (if (gI σ 113 3) = x1 then (if (gI σ 113 4) = x2 then (some σ) else (F_X4_join_17 x1 x2 σ)) else (F_X4_join_17 x1 x2 σ))
set_option maxRecDepth 100000 in
theorem t_X4_join_151 {X : Sx} {l : Launch} {D : Nat} {k_X4_join_29 : Int32 → Int32 → AH → Option AH} {x1 : Int32} {x3 : Int32} {σ : AH} {σ' : AH} (hD : 2 ≤ D) (hk_X4_join_29 : ∀ (x1 : Int32) (x3 : Int32) (σ : AH) (σ' : AH), Sh σ → k_X4_join_29 x1 x3 σ = some σ' → E X l m_X4_join D 29 [(0, .ref 113), (1, .int x1), (3, .int x3)] [] σ none σ') (hs : Sh σ) (h : F_X4_join_151 k_X4_join_29 x1 x3 σ = some σ') : W_X4_join_151 X l D x1 x3 σ none σ' := by
  unfold F_X4_join_151 at h
  unfold W_X4_join_151
  exact hk_X4_join_29 _ _ _ _ hs  h
set_option maxRecDepth 100000 in
theorem t_X4_join_145 {X : Sx} {l : Launch} {D : Nat} {k_X4_join_29 : Int32 → Int32 → AH → Option AH} {k_X4_join_74 : Int32 → Int32 → Int32 → AH → Option AH} {x1 : Int32} {x3 : Int32} {x4 : Int32} {σ : AH} {σ' : AH} (hD : 2 ≤ D) (hk_X4_join_29 : ∀ (x1 : Int32) (x3 : Int32) (σ : AH) (σ' : AH), Sh σ → k_X4_join_29 x1 x3 σ = some σ' → E X l m_X4_join D 29 [(0, .ref 113), (1, .int x1), (3, .int x3)] [] σ none σ') (hk_X4_join_74 : ∀ (x1 : Int32) (x3 : Int32) (x4 : Int32) (σ : AH) (σ' : AH), Sh σ → k_X4_join_74 x1 x3 x4 σ = some σ' → E X l m_X4_join D 74 [(0, .ref 113), (1, .int x1), (3, .int x3), (4, .int x4)] [] σ none σ') (hs : Sh σ) (h : F_X4_join_145 k_X4_join_29 k_X4_join_74 x1 x3 x4 σ = some σ') : W_X4_join_145 X l D x1 x3 x4 σ none σ' := by
  unfold F_X4_join_145 at h
  unfold W_X4_join_145
  exact hk_X4_join_74 _ _ _ _ _ hs  h
set_option maxRecDepth 100000 in
theorem t_X4_join_74 {X : Sx} {l : Launch} {D : Nat} {k_X4_join_29 : Int32 → Int32 → AH → Option AH} {k_X4_join_74 : Int32 → Int32 → Int32 → AH → Option AH} {x1 : Int32} {x3 : Int32} {x4 : Int32} {σ : AH} {σ' : AH} (hD : 2 ≤ D) (hk_X4_join_29 : ∀ (x1 : Int32) (x3 : Int32) (σ : AH) (σ' : AH), Sh σ → k_X4_join_29 x1 x3 σ = some σ' → E X l m_X4_join D 29 [(0, .ref 113), (1, .int x1), (3, .int x3)] [] σ none σ') (hk_X4_join_74 : ∀ (x1 : Int32) (x3 : Int32) (x4 : Int32) (σ : AH) (σ' : AH), Sh σ → k_X4_join_74 x1 x3 x4 σ = some σ' → E X l m_X4_join D 74 [(0, .ref 113), (1, .int x1), (3, .int x3), (4, .int x4)] [] σ none σ') (hs : Sh σ) (h : B_X4_join_74 k_X4_join_29 k_X4_join_74 x1 x3 x4 σ = some σ') : W_X4_join_74 X l D x1 x3 x4 σ none σ' := by
  unfold B_X4_join_74 at h
  unfold W_X4_join_74
  refine ite_i (fun c1 => ?_) (fun c1 => ?_)
  · replace h := of_ifp h c1
    exact t_X4_join_151 hD hk_X4_join_29 hs  h
  · replace h := of_ifn h c1
    obtain ⟨g2, h⟩ := of_gd h
    refine ⟨(inB_mp g2), ?_⟩
    refine ite_i (fun c3 => ?_) (fun c3 => ?_)
    · replace h := of_ifp h c3
      exact t_X4_join_151 hD hk_X4_join_29 hs  h
    · replace h := of_ifn h c3
      obtain ⟨g4, h⟩ := of_gd h
      refine ⟨(inB_mp g4), ?_⟩
      refine ite_i (fun c5 => ?_) (fun c5 => ?_)
      · replace h := of_ifp h c5
        exact t_X4_join_145 hD hk_X4_join_29 hk_X4_join_74 hs  h
      · replace h := of_ifn h c5
        obtain ⟨g6, h⟩ := of_gd h
        refine ⟨(inB_mp g6), ?_⟩
        obtain ⟨g7, h⟩ := of_gd h
        refine ⟨(inB_mp g7), ?_⟩
        refine ite_i (fun c8 => ?_) (fun c8 => ?_)
        · replace h := of_ifp h c8
          exact t_X4_join_145 hD hk_X4_join_29 hk_X4_join_74 hs  h
        · replace h := of_ifn h c8
          obtain ⟨v23, σ19, q9, h⟩ := of_bd h
          have hC10 := f_X4_isAlike (σ := σ) hs  q9 (X := X) (l := l)
          have hs11 := hC10.1.2.2.2.1 hs
          refine ⟨1, v23, σ19, (Nat.le_trans (by decide) hD), hC10, ?_⟩
          refine ite_i (fun c12 => ?_) (fun c12 => ?_)
          · replace h := of_ifp h c12
            exact t_X4_join_145 hD hk_X4_join_29 hk_X4_join_74 hs11  h
          · replace h := of_ifn h c12
            obtain ⟨g13, h⟩ := of_gd h
            refine ⟨(inB_mp g13), ?_⟩
            obtain ⟨g14, h⟩ := of_gd h
            refine ⟨(inB_mp g14), ?_⟩
            obtain ⟨σ27, q15, h⟩ := of_bv h
            have hC16 := f_X4_makeOne (σ := σ19) hs11  q15 (X := X) (l := l)
            have hs17 := hC16.1.2.2.2.1 hs11
            refine ⟨1, σ27, (Nat.le_trans (by decide) hD), hC16, ?_⟩
            exact t_X4_join_145 hD hk_X4_join_29 hk_X4_join_74 hs17  h
theorem e_X4_join_74 {X : Sx} {l : Launch} {D : Nat} {k_X4_join_29 : Int32 → Int32 → AH → Option AH} (hD : 2 ≤ D) (hk_X4_join_29 : ∀ (x1 : Int32) (x3 : Int32) (σ : AH) (σ' : AH), Sh σ → k_X4_join_29 x1 x3 σ = some σ' → E X l m_X4_join D 29 [(0, .ref 113), (1, .int x1), (3, .int x3)] [] σ none σ') : ∀ (k : Nat) (x1 : Int32) (x3 : Int32) (x4 : Int32) (σ : AH) (σ' : AH), Sh σ → F_X4_join_74 k_X4_join_29 k x1 x3 x4 σ = some σ' → E X l m_X4_join D 74 [(0, .ref 113), (1, .int x1), (3, .int x3), (4, .int x4)] [] σ none σ' := by
  intro k
  induction k with
  | zero => intro x1 x3 x4 σ σ' hs h; cases h
  | succ k ih =>
    intro x1 x3 x4 σ σ' hs h
    exact w_X4_join_74 hs  (t_X4_join_74 hD hk_X4_join_29 ih hs  h)
set_option maxRecDepth 100000 in
theorem t_X4_join_70 {X : Sx} {l : Launch} {D : Nat} {k_X4_join_29 : Int32 → Int32 → AH → Option AH} {x1 : Int32} {x3 : Int32} {y0 : Int32} {y1 : Int32} {σ : AH} {σ' : AH} (hD : 2 ≤ D) (hk_X4_join_29 : ∀ (x1 : Int32) (x3 : Int32) (σ : AH) (σ' : AH), Sh σ → k_X4_join_29 x1 x3 σ = some σ' → E X l m_X4_join D 29 [(0, .ref 113), (1, .int x1), (3, .int x3)] [] σ none σ') (hs : Sh σ) (h : F_X4_join_70 k_X4_join_29 x1 x3 y0 y1 σ = some σ') : W_X4_join_70 X l D x1 x3 y0 y1 σ none σ' := by
  unfold F_X4_join_70 at h
  unfold W_X4_join_70
  obtain ⟨g1, h⟩ := of_gd h
  refine ⟨(inB_mp g1), ?_⟩
  exact e_X4_join_74 hD hk_X4_join_29 _ _ _ _ _ _ hs  h
set_option maxRecDepth 100000 in
theorem t_X4_join_29 {X : Sx} {l : Launch} {D : Nat} {k_X4_join_29 : Int32 → Int32 → AH → Option AH} {x1 : Int32} {x3 : Int32} {σ : AH} {σ' : AH} (hD : 2 ≤ D) (hk_X4_join_29 : ∀ (x1 : Int32) (x3 : Int32) (σ : AH) (σ' : AH), Sh σ → k_X4_join_29 x1 x3 σ = some σ' → E X l m_X4_join D 29 [(0, .ref 113), (1, .int x1), (3, .int x3)] [] σ none σ') (hs : Sh σ) (h : B_X4_join_29 k_X4_join_29 x1 x3 σ = some σ') : W_X4_join_29 X l D x1 x3 σ none σ' := by
  unfold B_X4_join_29 at h
  unfold W_X4_join_29
  obtain ⟨v6, σ2, q1, h⟩ := of_bd h
  have hC2 := f_X8_rows  q1 (X := X) (l := l)
  have hs3 := hC2.1.2.2.2.1 hs
  refine ⟨0, v6, σ2, (Nat.le_trans (by decide) hD), hC2, ?_⟩
  refine ite_i (fun c4 => ?_) (fun c4 => ?_)
  · replace h := of_ifp h c4
    exact ret_v h
  · replace h := of_ifn h c4
    obtain ⟨v12, σ8, q5, h⟩ := of_bd h
    have hC6 := f_X8_at  q5 (X := X) (l := l)
    have hs7 := hC6.1.2.2.2.1 hs3
    refine ⟨0, v12, σ8, (Nat.le_trans (by decide) hD), hC6, ?_⟩
    refine ite_i (fun c8 => ?_) (fun c8 => ?_)
    · replace h := of_ifp h c8
      exact t_X4_join_70 hD hk_X4_join_29 hs7  h
    · replace h := of_ifn h c8
      exact t_X4_join_70 hD hk_X4_join_29 hs7  h
theorem e_X4_join_29 {X : Sx} {l : Launch} {D : Nat} (hD : 2 ≤ D) : ∀ (k : Nat) (x1 : Int32) (x3 : Int32) (σ : AH) (σ' : AH), Sh σ → F_X4_join_29 k x1 x3 σ = some σ' → E X l m_X4_join D 29 [(0, .ref 113), (1, .int x1), (3, .int x3)] [] σ none σ' := by
  intro k
  induction k with
  | zero => intro x1 x3 σ σ' hs h; cases h
  | succ k ih =>
    intro x1 x3 σ σ' hs h
    exact w_X4_join_29 hs  (t_X4_join_29 hD ih hs  h)
set_option maxRecDepth 100000 in
theorem t_X4_join_17 {X : Sx} {l : Launch} {D : Nat} {x1 : Int32} {x2 : Int32} {σ : AH} {σ' : AH} (hD : 2 ≤ D) (hs : Sh σ) (h : F_X4_join_17 x1 x2 σ = some σ') : W_X4_join_17 X l D x1 x2 σ none σ' := by
  unfold F_X4_join_17 at h
  unfold W_X4_join_17
  exact e_X4_join_29 hD  _ _ _ _ _ hs  h
set_option maxRecDepth 100000 in
theorem t_X4_join_0 {X : Sx} {l : Launch} {D : Nat} {x1 : Int32} {x2 : Int32} {σ : AH} {σ' : AH} (hD : 2 ≤ D) (hs : Sh σ) (h : F_X4_join x1 x2 σ = some σ') : W_X4_join_0 X l D x1 x2 σ none σ' := by
  unfold F_X4_join at h
  unfold W_X4_join_0
  refine ite_i (fun c1 => ?_) (fun c1 => ?_)
  · replace h := of_ifp h c1
    refine ite_i (fun c2 => ?_) (fun c2 => ?_)
    · replace h := of_ifp h c2
      exact ret_v h
    · replace h := of_ifn h c2
      exact t_X4_join_17 hD  hs  h
  · replace h := of_ifn h c1
    exact t_X4_join_17 hD  hs  h
theorem f_X4_join {X : Sx} {l : Launch} {x1 : Int32} {x2 : Int32} {σ : AH} {σ' : AH} (hs : Sh σ) (h : F_X4_join x1 x2 σ = some σ') : Call X l m_X4_join 2 [.ref 113, .int x1, .int x2] σ none σ' :=
  Call.ofE ok_X4_join rfl (Nat.le_of_ble_eq_true rfl) (w_X4_join_0 hs  (t_X4_join_0 (Nat.le_refl _) hs  h))
def F_X4_weightOf (x1 : Int32) (x2 : Int32) (σ : AH) : Option (Int64 × AH) := (bv (F_X3_ask (0 : Int32) x2 σ) fun σ2 => (bd (F_X8_at 13 x1 (1 : Int32) σ2) fun v11 σ7 => (bv (F_X3_askOf x1 (imax (0 : Int32) (x2 - v11)) σ7) fun σ14 => (bd (F_X3_total (54 : Int32) σ14) fun v23 σ19 => (some (v23, σ19))))))
set_option maxRecDepth 100000 in
theorem t_X4_weightOf_0 {X : Sx} {l : Launch} {D : Nat} {x1 : Int32} {x2 : Int32} {σ : AH} {v : Int64} {σ' : AH} (hD : 3 ≤ D) (hs : Sh σ) (h : F_X4_weightOf x1 x2 σ = some (v, σ')) : W_X4_weightOf_0 X l D x1 x2 σ (some (.long v)) σ' := by
  unfold F_X4_weightOf at h
  unfold W_X4_weightOf_0
  obtain ⟨σ2, q1, h⟩ := of_bv h
  have hC2 := f_X3_ask (σ := σ) hs  q1 (X := X) (l := l)
  have hs3 := hC2.1.2.2.2.1 hs
  refine ⟨1, σ2, (Nat.le_trans (by decide) hD), hC2, ?_⟩
  obtain ⟨v11, σ7, q4, h⟩ := of_bd h
  have hC5 := f_X8_at  q4 (X := X) (l := l)
  have hs6 := hC5.1.2.2.2.1 hs3
  refine ⟨0, v11, σ7, (Nat.le_trans (by decide) hD), hC5, ?_⟩
  refine ⟨Nat.le_trans (by decide) hD, ?_⟩
  obtain ⟨σ14, q7, h⟩ := of_bv h
  have hC8 := f_X3_askOf (σ := σ7) hs6  q7 (X := X) (l := l)
  have hs9 := hC8.1.2.2.2.1 hs6
  refine ⟨1, σ14, (Nat.le_trans (by decide) hD), hC8, ?_⟩
  obtain ⟨v23, σ19, q10, h⟩ := of_bd h
  have hC11 := f_X3_total (σ := σ14) hs9  q10 (X := X) (l := l)
  have hs12 := hC11.1.2.2.2.1 hs9
  refine ⟨2, v23, σ19, (Nat.le_trans (by decide) hD), hC11, ?_⟩
  exact ret_l h
theorem f_X4_weightOf {X : Sx} {l : Launch} {x1 : Int32} {x2 : Int32} {σ : AH} {v : Int64} {σ' : AH} (hs : Sh σ) (h : F_X4_weightOf x1 x2 σ = some (v, σ')) : Call X l m_X4_weightOf 3 [.ref 113, .int x1, .int x2] σ (some (.long v)) σ' :=
  Call.ofE ok_X4_weightOf rfl (Nat.le_of_ble_eq_true rfl) (w_X4_weightOf_0 hs  (t_X4_weightOf_0 (Nat.le_refl _) hs  h))
def F_X4_isAhead (x1 : Int32) (x2 : Int32) (σ : AH) : Option (Int32 × AH) := (if inB x1 60 = true then (if inB x2 60 = true then (if (gL σ 117 x1.toNatClampNeg) = (gL σ 117 x2.toNatClampNeg) then (bd (F_X8_at 13 x1 (1 : Int32) σ) fun v8 σ4 => (bd (F_X8_at 13 x2 (1 : Int32) σ4) fun v14 σ10 => (if v8 = v14 then (if x2 ≤ x1 then (some ((0 : Int32), σ10)) else (some ((1 : Int32), σ10))) else (if v14 ≤ v8 then (some ((0 : Int32), σ10)) else (some ((1 : Int32), σ10)))))) else (if inB x1 60 = true then (if inB x2 60 = true then (if (gL σ 117 x1.toNatClampNeg) ≤ (gL σ 117 x2.toNatClampNeg) then (some ((0 : Int32), σ)) else (some ((1 : Int32), σ))) else none) else none)) else none) else none)
set_option maxRecDepth 100000 in
theorem t_X4_isAhead_0 {X : Sx} {l : Launch} {D : Nat} {x1 : Int32} {x2 : Int32} {σ : AH} {v : Int32} {σ' : AH} (hD : 1 ≤ D) (hs : Sh σ) (h : F_X4_isAhead x1 x2 σ = some (v, σ')) : W_X4_isAhead_0 X l D x1 x2 σ (some (.int v)) σ' := by
  unfold F_X4_isAhead at h
  unfold W_X4_isAhead_0
  obtain ⟨g1, h⟩ := of_gd h
  refine ⟨(inB_mp g1), ?_⟩
  obtain ⟨g2, h⟩ := of_gd h
  refine ⟨(inB_mp g2), ?_⟩
  refine ite_i (fun c3 => ?_) (fun c3 => ?_)
  · replace h := of_ifp h c3
    obtain ⟨v8, σ4, q4, h⟩ := of_bd h
    have hC5 := f_X8_at  q4 (X := X) (l := l)
    have hs6 := hC5.1.2.2.2.1 hs
    refine ⟨0, v8, σ4, (Nat.le_trans (by decide) hD), hC5, ?_⟩
    obtain ⟨v14, σ10, q7, h⟩ := of_bd h
    have hC8 := f_X8_at  q7 (X := X) (l := l)
    have hs9 := hC8.1.2.2.2.1 hs6
    refine ⟨0, v14, σ10, (Nat.le_trans (by decide) hD), hC8, ?_⟩
    refine ite_i (fun c10 => ?_) (fun c10 => ?_)
    · replace h := of_ifp h c10
      refine ite_i (fun c11 => ?_) (fun c11 => ?_)
      · replace h := of_ifp h c11
        exact ret_i h
      · replace h := of_ifn h c11
        exact ret_i h
    · replace h := of_ifn h c10
      refine ite_i (fun c12 => ?_) (fun c12 => ?_)
      · replace h := of_ifp h c12
        exact ret_i h
      · replace h := of_ifn h c12
        exact ret_i h
  · replace h := of_ifn h c3
    obtain ⟨g13, h⟩ := of_gd h
    refine ⟨(inB_mp g13), ?_⟩
    obtain ⟨g14, h⟩ := of_gd h
    refine ⟨(inB_mp g14), ?_⟩
    refine ite_i (fun c15 => ?_) (fun c15 => ?_)
    · replace h := of_ifp h c15
      exact ret_i h
    · replace h := of_ifn h c15
      exact ret_i h
theorem f_X4_isAhead {X : Sx} {l : Launch} {x1 : Int32} {x2 : Int32} {σ : AH} {v : Int32} {σ' : AH} (hs : Sh σ) (h : F_X4_isAhead x1 x2 σ = some (v, σ')) : Call X l m_X4_isAhead 1 [.ref 113, .int x1, .int x2] σ (some (.int v)) σ' :=
  Call.ofE ok_X4_isAhead rfl (Nat.le_of_ble_eq_true rfl) (w_X4_isAhead_0 hs  (t_X4_isAhead_0 (Nat.le_refl _) hs  h))
def F_X4_sort_168 (k_X4_sort_21 : Int32 → Int32 → Int32 → Int32 → Int32 → Int32 → AH → Option AH) (x1 : Int32) (x2 : Int32) (x3 : Int32) (x4 : Int32) (x5 : Int32) (x6 : Int32) (σ : AH) : Option AH := (k_X4_sort_21 x1 x2 x3 x4 x5 (x6 + 1) σ)
def F_X4_sort_156 (k_X4_sort_21 : Int32 → Int32 → Int32 → Int32 → Int32 → Int32 → AH → Option AH) (x1 : Int32) (x2 : Int32) (x3 : Int32) (x4 : Int32) (x5 : Int32) (x6 : Int32) (x7 : Int32) (σ : AH) : Option AH := (if inB x7 360 = true then (F_X4_sort_168 k_X4_sort_21 x1 x2 x3 x4 (x5 + 1) x6 (sI σ 115 x7.toNatClampNeg x6)) else none)
def B_X4_sort_109 (k_X4_sort_21 : Int32 → Int32 → Int32 → Int32 → Int32 → Int32 → AH → Option AH) (k_X4_sort_109 : Int32 → Int32 → Int32 → Int32 → Int32 → Int32 → Int32 → AH → Option AH) (x1 : Int32) (x2 : Int32) (x3 : Int32) (x4 : Int32) (x5 : Int32) (x6 : Int32) (x7 : Int32) (σ : AH) : Option AH := (if x7 ≤ x4 then (F_X4_sort_156 k_X4_sort_21 x1 x2 x3 x4 x5 x6 x7 σ) else (if inB (x7 - (1 : Int32)) 360 = true then (bd (F_X4_isAhead x6 (gI σ 115 (x7 - (1 : Int32)).toNatClampNeg) σ) fun v44 σ40 => (if v44 = 0 then (F_X4_sort_156 k_X4_sort_21 x1 x2 x3 x4 x5 x6 x7 σ40) else (if inB (x7 - (1 : Int32)) 360 = true then (if inB x7 360 = true then (k_X4_sort_109 x1 x2 x3 x4 x5 x6 (x7 + (-1)) (sI σ40 115 x7.toNatClampNeg (gI σ40 115 (x7 - (1 : Int32)).toNatClampNeg))) else none) else none))) else none))
def F_X4_sort_109 (k_X4_sort_21 : Int32 → Int32 → Int32 → Int32 → Int32 → Int32 → AH → Option AH) : Nat → Int32 → Int32 → Int32 → Int32 → Int32 → Int32 → Int32 → AH → Option AH := fun k => match k with | 0 => fun _ _ _ _ _ _ _ _ => none | k + 1 => B_X4_sort_109 k_X4_sort_21 (F_X4_sort_109 k_X4_sort_21 k)
def B_X4_sort_21 (k_X4_sort_21 : Int32 → Int32 → Int32 → Int32 → Int32 → Int32 → AH → Option AH) (x1 : Int32) (x2 : Int32) (x3 : Int32) (x4 : Int32) (x5 : Int32) (x6 : Int32) (σ : AH) : Option AH := (bd (F_X8_rows 13 σ) fun v11 σ7 => (if v11 ≤ x6 then (if inB x1 6 = true then (some (sI σ7 116 x1.toNatClampNeg x5)) else none) else (bd (F_X8_at 13 x6 (0 : Int32) σ7) fun v18 σ14 => (if v18 = x1 then (bd (F_X8_at 13 x6 (1 : Int32) σ14) fun v24 σ20 => (if x2 < v24 then (F_X4_sort_168 k_X4_sort_21 x1 x2 x3 x4 x5 x6 σ20) else (bd (F_X8_at 13 x6 (6 : Int32) σ20) fun v30 σ26 => (if x3 < v30 then (F_X4_sort_168 k_X4_sort_21 x1 x2 x3 x4 x5 x6 σ26) else (bd (F_X4_weightOf x6 x2 σ26) fun v36 σ32 => (if inB x6 60 = true then (F_X4_sort_109 k_X4_sort_21 BIG x1 x2 x3 x4 x5 x6 (x4 + x5) (sL σ32 117 x6.toNatClampNeg v36)) else none)))))) else (F_X4_sort_168 k_X4_sort_21 x1 x2 x3 x4 x5 x6 σ14)))))
def F_X4_sort_21 : Nat → Int32 → Int32 → Int32 → Int32 → Int32 → Int32 → AH → Option AH := fun k => match k with | 0 => fun _ _ _ _ _ _ _ => none | k + 1 => B_X4_sort_21 (F_X4_sort_21 k)
def F_X4_sort (x1 : Int32) (x2 : Int32) (x3 : Int32) (σ : AH) : Option AH := (bv (F_X3_settle x2 x3 σ) fun σ2 => (F_X4_sort_21 BIG x1 x2 x3 (x1 * (60 : Int32)) (0 : Int32) (0 : Int32) σ2))
set_option maxRecDepth 100000 in
theorem t_X4_sort_168 {X : Sx} {l : Launch} {D : Nat} {k_X4_sort_21 : Int32 → Int32 → Int32 → Int32 → Int32 → Int32 → AH → Option AH} {x1 : Int32} {x2 : Int32} {x3 : Int32} {x4 : Int32} {x5 : Int32} {x6 : Int32} {σ : AH} {σ' : AH} (hD : 4 ≤ D) (hk_X4_sort_21 : ∀ (x1 : Int32) (x2 : Int32) (x3 : Int32) (x4 : Int32) (x5 : Int32) (x6 : Int32) (σ : AH) (σ' : AH), Sh σ → k_X4_sort_21 x1 x2 x3 x4 x5 x6 σ = some σ' → E X l m_X4_sort D 21 [(0, .ref 113), (1, .int x1), (2, .int x2), (3, .int x3), (4, .int x4), (5, .int x5), (6, .int x6)] [] σ none σ') (hs : Sh σ) (h : F_X4_sort_168 k_X4_sort_21 x1 x2 x3 x4 x5 x6 σ = some σ') : W_X4_sort_168 X l D x1 x2 x3 x4 x5 x6 σ none σ' := by
  unfold F_X4_sort_168 at h
  unfold W_X4_sort_168
  exact hk_X4_sort_21 _ _ _ _ _ _ _ _ hs  h
set_option maxRecDepth 100000 in
theorem t_X4_sort_156 {X : Sx} {l : Launch} {D : Nat} {k_X4_sort_21 : Int32 → Int32 → Int32 → Int32 → Int32 → Int32 → AH → Option AH} {x1 : Int32} {x2 : Int32} {x3 : Int32} {x4 : Int32} {x5 : Int32} {x6 : Int32} {x7 : Int32} {σ : AH} {σ' : AH} (hD : 4 ≤ D) (hk_X4_sort_21 : ∀ (x1 : Int32) (x2 : Int32) (x3 : Int32) (x4 : Int32) (x5 : Int32) (x6 : Int32) (σ : AH) (σ' : AH), Sh σ → k_X4_sort_21 x1 x2 x3 x4 x5 x6 σ = some σ' → E X l m_X4_sort D 21 [(0, .ref 113), (1, .int x1), (2, .int x2), (3, .int x3), (4, .int x4), (5, .int x5), (6, .int x6)] [] σ none σ') (hs : Sh σ) (h : F_X4_sort_156 k_X4_sort_21 x1 x2 x3 x4 x5 x6 x7 σ = some σ') : W_X4_sort_156 X l D x1 x2 x3 x4 x5 x6 x7 σ none σ' := by
  unfold F_X4_sort_156 at h
  unfold W_X4_sort_156
  obtain ⟨g1, h⟩ := of_gd h
  refine ⟨(inB_mp g1), ?_⟩
  exact t_X4_sort_168 hD hk_X4_sort_21 hs  h
set_option maxRecDepth 100000 in
theorem t_X4_sort_109 {X : Sx} {l : Launch} {D : Nat} {k_X4_sort_21 : Int32 → Int32 → Int32 → Int32 → Int32 → Int32 → AH → Option AH} {k_X4_sort_109 : Int32 → Int32 → Int32 → Int32 → Int32 → Int32 → Int32 → AH → Option AH} {x1 : Int32} {x2 : Int32} {x3 : Int32} {x4 : Int32} {x5 : Int32} {x6 : Int32} {x7 : Int32} {σ : AH} {σ' : AH} (hD : 4 ≤ D) (hk_X4_sort_21 : ∀ (x1 : Int32) (x2 : Int32) (x3 : Int32) (x4 : Int32) (x5 : Int32) (x6 : Int32) (σ : AH) (σ' : AH), Sh σ → k_X4_sort_21 x1 x2 x3 x4 x5 x6 σ = some σ' → E X l m_X4_sort D 21 [(0, .ref 113), (1, .int x1), (2, .int x2), (3, .int x3), (4, .int x4), (5, .int x5), (6, .int x6)] [] σ none σ') (hk_X4_sort_109 : ∀ (x1 : Int32) (x2 : Int32) (x3 : Int32) (x4 : Int32) (x5 : Int32) (x6 : Int32) (x7 : Int32) (σ : AH) (σ' : AH), Sh σ → k_X4_sort_109 x1 x2 x3 x4 x5 x6 x7 σ = some σ' → E X l m_X4_sort D 109 [(0, .ref 113), (1, .int x1), (2, .int x2), (3, .int x3), (4, .int x4), (5, .int x5), (6, .int x6), (7, .int x7)] [] σ none σ') (hs : Sh σ) (h : B_X4_sort_109 k_X4_sort_21 k_X4_sort_109 x1 x2 x3 x4 x5 x6 x7 σ = some σ') : W_X4_sort_109 X l D x1 x2 x3 x4 x5 x6 x7 σ none σ' := by
  unfold B_X4_sort_109 at h
  unfold W_X4_sort_109
  refine ite_i (fun c1 => ?_) (fun c1 => ?_)
  · replace h := of_ifp h c1
    exact t_X4_sort_156 hD hk_X4_sort_21 hs  h
  · replace h := of_ifn h c1
    obtain ⟨g2, h⟩ := of_gd h
    refine ⟨(inB_mp g2), ?_⟩
    obtain ⟨v44, σ40, q3, h⟩ := of_bd h
    have hC4 := f_X4_isAhead (σ := σ) hs  q3 (X := X) (l := l)
    have hs5 := hC4.1.2.2.2.1 hs
    refine ⟨1, v44, σ40, (Nat.le_trans (by decide) hD), hC4, ?_⟩
    refine ite_i (fun c6 => ?_) (fun c6 => ?_)
    · replace h := of_ifp h c6
      exact t_X4_sort_156 hD hk_X4_sort_21 hs5  h
    · replace h := of_ifn h c6
      obtain ⟨g7, h⟩ := of_gd h
      refine ⟨(inB_mp g7), ?_⟩
      obtain ⟨g8, h⟩ := of_gd h
      refine ⟨(inB_mp g8), ?_⟩
      exact hk_X4_sort_109 _ _ _ _ _ _ _ _ _ hs5  h
theorem e_X4_sort_109 {X : Sx} {l : Launch} {D : Nat} {k_X4_sort_21 : Int32 → Int32 → Int32 → Int32 → Int32 → Int32 → AH → Option AH} (hD : 4 ≤ D) (hk_X4_sort_21 : ∀ (x1 : Int32) (x2 : Int32) (x3 : Int32) (x4 : Int32) (x5 : Int32) (x6 : Int32) (σ : AH) (σ' : AH), Sh σ → k_X4_sort_21 x1 x2 x3 x4 x5 x6 σ = some σ' → E X l m_X4_sort D 21 [(0, .ref 113), (1, .int x1), (2, .int x2), (3, .int x3), (4, .int x4), (5, .int x5), (6, .int x6)] [] σ none σ') : ∀ (k : Nat) (x1 : Int32) (x2 : Int32) (x3 : Int32) (x4 : Int32) (x5 : Int32) (x6 : Int32) (x7 : Int32) (σ : AH) (σ' : AH), Sh σ → F_X4_sort_109 k_X4_sort_21 k x1 x2 x3 x4 x5 x6 x7 σ = some σ' → E X l m_X4_sort D 109 [(0, .ref 113), (1, .int x1), (2, .int x2), (3, .int x3), (4, .int x4), (5, .int x5), (6, .int x6), (7, .int x7)] [] σ none σ' := by
  intro k
  induction k with
  | zero => intro x1 x2 x3 x4 x5 x6 x7 σ σ' hs h; cases h
  | succ k ih =>
    intro x1 x2 x3 x4 x5 x6 x7 σ σ' hs h
    exact w_X4_sort_109 hs  (t_X4_sort_109 hD hk_X4_sort_21 ih hs  h)
set_option maxRecDepth 100000 in
theorem t_X4_sort_21 {X : Sx} {l : Launch} {D : Nat} {k_X4_sort_21 : Int32 → Int32 → Int32 → Int32 → Int32 → Int32 → AH → Option AH} {x1 : Int32} {x2 : Int32} {x3 : Int32} {x4 : Int32} {x5 : Int32} {x6 : Int32} {σ : AH} {σ' : AH} (hD : 4 ≤ D) (hk_X4_sort_21 : ∀ (x1 : Int32) (x2 : Int32) (x3 : Int32) (x4 : Int32) (x5 : Int32) (x6 : Int32) (σ : AH) (σ' : AH), Sh σ → k_X4_sort_21 x1 x2 x3 x4 x5 x6 σ = some σ' → E X l m_X4_sort D 21 [(0, .ref 113), (1, .int x1), (2, .int x2), (3, .int x3), (4, .int x4), (5, .int x5), (6, .int x6)] [] σ none σ') (hs : Sh σ) (h : B_X4_sort_21 k_X4_sort_21 x1 x2 x3 x4 x5 x6 σ = some σ') : W_X4_sort_21 X l D x1 x2 x3 x4 x5 x6 σ none σ' := by
  unfold B_X4_sort_21 at h
  unfold W_X4_sort_21
  obtain ⟨v11, σ7, q1, h⟩ := of_bd h
  have hC2 := f_X8_rows  q1 (X := X) (l := l)
  have hs3 := hC2.1.2.2.2.1 hs
  refine ⟨0, v11, σ7, (Nat.le_trans (by decide) hD), hC2, ?_⟩
  refine ite_i (fun c4 => ?_) (fun c4 => ?_)
  · replace h := of_ifp h c4
    obtain ⟨g5, h⟩ := of_gd h
    refine ⟨(inB_mp g5), ?_⟩
    exact ret_v h
  · replace h := of_ifn h c4
    obtain ⟨v18, σ14, q6, h⟩ := of_bd h
    have hC7 := f_X8_at  q6 (X := X) (l := l)
    have hs8 := hC7.1.2.2.2.1 hs3
    refine ⟨0, v18, σ14, (Nat.le_trans (by decide) hD), hC7, ?_⟩
    refine ite_i (fun c9 => ?_) (fun c9 => ?_)
    · replace h := of_ifp h c9
      obtain ⟨v24, σ20, q10, h⟩ := of_bd h
      have hC11 := f_X8_at  q10 (X := X) (l := l)
      have hs12 := hC11.1.2.2.2.1 hs8
      refine ⟨0, v24, σ20, (Nat.le_trans (by decide) hD), hC11, ?_⟩
      refine ite_i (fun c13 => ?_) (fun c13 => ?_)
      · replace h := of_ifp h c13
        exact t_X4_sort_168 hD hk_X4_sort_21 hs12  h
      · replace h := of_ifn h c13
        obtain ⟨v30, σ26, q14, h⟩ := of_bd h
        have hC15 := f_X8_at  q14 (X := X) (l := l)
        have hs16 := hC15.1.2.2.2.1 hs12
        refine ⟨0, v30, σ26, (Nat.le_trans (by decide) hD), hC15, ?_⟩
        refine ite_i (fun c17 => ?_) (fun c17 => ?_)
        · replace h := of_ifp h c17
          exact t_X4_sort_168 hD hk_X4_sort_21 hs16  h
        · replace h := of_ifn h c17
          obtain ⟨v36, σ32, q18, h⟩ := of_bd h
          have hC19 := f_X4_weightOf (σ := σ26) hs16  q18 (X := X) (l := l)
          have hs20 := hC19.1.2.2.2.1 hs16
          refine ⟨3, v36, σ32, (Nat.le_trans (by decide) hD), hC19, ?_⟩
          obtain ⟨g21, h⟩ := of_gd h
          refine ⟨(inB_mp g21), ?_⟩
          exact e_X4_sort_109 hD hk_X4_sort_21 _ _ _ _ _ _ _ _ _ _ hs20  h
    · replace h := of_ifn h c9
      exact t_X4_sort_168 hD hk_X4_sort_21 hs8  h
theorem e_X4_sort_21 {X : Sx} {l : Launch} {D : Nat} (hD : 4 ≤ D) : ∀ (k : Nat) (x1 : Int32) (x2 : Int32) (x3 : Int32) (x4 : Int32) (x5 : Int32) (x6 : Int32) (σ : AH) (σ' : AH), Sh σ → F_X4_sort_21 k x1 x2 x3 x4 x5 x6 σ = some σ' → E X l m_X4_sort D 21 [(0, .ref 113), (1, .int x1), (2, .int x2), (3, .int x3), (4, .int x4), (5, .int x5), (6, .int x6)] [] σ none σ' := by
  intro k
  induction k with
  | zero => intro x1 x2 x3 x4 x5 x6 σ σ' hs h; cases h
  | succ k ih =>
    intro x1 x2 x3 x4 x5 x6 σ σ' hs h
    exact w_X4_sort_21 hs  (t_X4_sort_21 hD ih hs  h)
set_option maxRecDepth 100000 in
theorem t_X4_sort_0 {X : Sx} {l : Launch} {D : Nat} {x1 : Int32} {x2 : Int32} {x3 : Int32} {σ : AH} {σ' : AH} (hD : 4 ≤ D) (hs : Sh σ) (h : F_X4_sort x1 x2 x3 σ = some σ') : W_X4_sort_0 X l D x1 x2 x3 σ none σ' := by
  unfold F_X4_sort at h
  unfold W_X4_sort_0
  obtain ⟨σ2, q1, h⟩ := of_bv h
  have hC2 := f_X3_settle (σ := σ) hs  q1 (X := X) (l := l)
  have hs3 := hC2.1.2.2.2.1 hs
  refine ⟨2, σ2, (Nat.le_trans (by decide) hD), hC2, ?_⟩
  exact e_X4_sort_21 hD  _ _ _ _ _ _ _ _ _ hs3  h
theorem f_X4_sort {X : Sx} {l : Launch} {x1 : Int32} {x2 : Int32} {x3 : Int32} {σ : AH} {σ' : AH} (hs : Sh σ) (h : F_X4_sort x1 x2 x3 σ = some σ') : Call X l m_X4_sort 4 [.ref 113, .int x1, .int x2, .int x3] σ none σ' :=
  Call.ofE ok_X4_sort rfl (Nat.le_of_ble_eq_true rfl) (w_X4_sort_0 hs  (t_X4_sort_0 (Nat.le_refl _) hs  h))
def B_X4_sortAll_2 (k_X4_sortAll_2 : Int32 → Int32 → AH → Option AH) (x1 : Int32) (x2 : Int32) (σ : AH) : Option AH := (if (6 : Int32) ≤ x2 then (some σ) else (bv (F_X4_sort x2 x1 x1 σ) fun σ2 => (k_X4_sortAll_2 x1 (x2 + 1) σ2)))
def F_X4_sortAll_2 : Nat → Int32 → Int32 → AH → Option AH := fun k => match k with | 0 => fun _ _ _ => none | k + 1 => B_X4_sortAll_2 (F_X4_sortAll_2 k)
def F_X4_sortAll (x1 : Int32) (σ : AH) : Option AH := (F_X4_sortAll_2 BIG x1 (0 : Int32) σ)
set_option maxRecDepth 100000 in
theorem t_X4_sortAll_2 {X : Sx} {l : Launch} {D : Nat} {k_X4_sortAll_2 : Int32 → Int32 → AH → Option AH} {x1 : Int32} {x2 : Int32} {σ : AH} {σ' : AH} (hD : 5 ≤ D) (hk_X4_sortAll_2 : ∀ (x1 : Int32) (x2 : Int32) (σ : AH) (σ' : AH), Sh σ → k_X4_sortAll_2 x1 x2 σ = some σ' → E X l m_X4_sortAll D 2 [(0, .ref 113), (1, .int x1), (2, .int x2)] [] σ none σ') (hs : Sh σ) (h : B_X4_sortAll_2 k_X4_sortAll_2 x1 x2 σ = some σ') : W_X4_sortAll_2 X l D x1 x2 σ none σ' := by
  unfold B_X4_sortAll_2 at h
  unfold W_X4_sortAll_2
  refine ite_i (fun c1 => ?_) (fun c1 => ?_)
  · replace h := of_ifp h c1
    exact ret_v h
  · replace h := of_ifn h c1
    obtain ⟨σ2, q2, h⟩ := of_bv h
    have hC3 := f_X4_sort (σ := σ) hs  q2 (X := X) (l := l)
    have hs4 := hC3.1.2.2.2.1 hs
    refine ⟨4, σ2, (Nat.le_trans (by decide) hD), hC3, ?_⟩
    exact hk_X4_sortAll_2 _ _ _ _ hs4  h
theorem e_X4_sortAll_2 {X : Sx} {l : Launch} {D : Nat} (hD : 5 ≤ D) : ∀ (k : Nat) (x1 : Int32) (x2 : Int32) (σ : AH) (σ' : AH), Sh σ → F_X4_sortAll_2 k x1 x2 σ = some σ' → E X l m_X4_sortAll D 2 [(0, .ref 113), (1, .int x1), (2, .int x2)] [] σ none σ' := by
  intro k
  induction k with
  | zero => intro x1 x2 σ σ' hs h; cases h
  | succ k ih =>
    intro x1 x2 σ σ' hs h
    exact w_X4_sortAll_2 hs  (t_X4_sortAll_2 hD ih hs  h)
set_option maxRecDepth 100000 in
theorem t_X4_sortAll_0 {X : Sx} {l : Launch} {D : Nat} {x1 : Int32} {σ : AH} {σ' : AH} (hD : 5 ≤ D) (hs : Sh σ) (h : F_X4_sortAll x1 σ = some σ') : W_X4_sortAll_0 X l D x1 σ none σ' := by
  unfold F_X4_sortAll at h
  unfold W_X4_sortAll_0
  exact e_X4_sortAll_2 hD  _ _ _ _ _ hs  h
theorem f_X4_sortAll {X : Sx} {l : Launch} {x1 : Int32} {σ : AH} {σ' : AH} (hs : Sh σ) (h : F_X4_sortAll x1 σ = some σ') : Call X l m_X4_sortAll 5 [.ref 113, .int x1] σ none σ' :=
  Call.ofE ok_X4_sortAll rfl (Nat.le_of_ble_eq_true rfl) (w_X4_sortAll_0 hs  (t_X4_sortAll_0 (Nat.le_refl _) hs  h))
def F_X4_turned_145 (k_X4_turned_72 : Int32 → Int32 → Int32 → Int32 → AH → Option (Int32 × AH)) (x1 : Int32) (x5 : Int32) (x6 : Int32) (x7 : Int32) (σ : AH) : Option (Int32 × AH) := (k_X4_turned_72 x1 x5 x6 (x7 + 1) σ)
def F_X4_turned_139 (k_X4_turned_72 : Int32 → Int32 → Int32 → Int32 → AH → Option (Int32 × AH)) (k_X4_turned_103 : Int32 → Int32 → Int32 → Int32 → Int32 → Int32 → AH → Option (Int32 × AH)) (x1 : Int32) (x5 : Int32) (x6 : Int32) (x7 : Int32) (x8 : Int32) (x9 : Int32) (σ : AH) : Option (Int32 × AH) := (k_X4_turned_103 x1 x5 x6 x7 x8 (x9 + 1) σ)
def B_X4_turned_103 (k_X4_turned_72 : Int32 → Int32 → Int32 → Int32 → AH → Option (Int32 × AH)) (k_X4_turned_103 : Int32 → Int32 → Int32 → Int32 → Int32 → Int32 → AH → Option (Int32 × AH)) (x1 : Int32) (x5 : Int32) (x6 : Int32) (x7 : Int32) (x8 : Int32) (x9 : Int32) (σ : AH) : Option (Int32 × AH) := (if x7 ≤ x9 then (F_X4_turned_145 k_X4_turned_72 x1 x5 x6 x7 σ) else (if x8 = (-1 : Int32) then (F_X4_turned_145 k_X4_turned_72 x1 x5 x6 x7 σ) else (if inB (x5 + x9) 360 = true then (if inB (gI σ 115 (x5 + x9).toNatClampNeg) 60 = true then (if (gI σ 118 (gI σ 115 (x5 + x9).toNatClampNeg).toNatClampNeg) ≤ x8 then (F_X4_turned_139 k_X4_turned_72 k_X4_turned_103 x1 x5 x6 x7 x8 x9 σ) else (F_X4_turned_139 k_X4_turned_72 k_X4_turned_103 x1 x5 (x6 + 1) x7 x8 x9 σ)) else none) else none)))
def F_X4_turned_103 (k_X4_turned_72 : Int32 → Int32 → Int32 → Int32 → AH → Option (Int32 × AH)) : Nat → Int32 → Int32 → Int32 → Int32 → Int32 → Int32 → AH → Option (Int32 × AH) := fun k => match k with | 0 => fun _ _ _ _ _ _ _ => none | k + 1 => B_X4_turned_103 k_X4_turned_72 (F_X4_turned_103 k_X4_turned_72 k)
def B_X4_turned_72 (k_X4_turned_72 : Int32 → Int32 → Int32 → Int32 → AH → Option (Int32 × AH)) (x1 : Int32) (x5 : Int32) (x6 : Int32) (x7 : Int32) (σ : AH) : Option (Int32 × AH) := (if inB x1 6 = true then (if (gI σ 116 x1.toNatClampNeg) ≤ x7 then (some (x6, σ)) else (if inB (x5 + x7) 360 = true then (if inB (gI σ 115 (x5 + x7).toNatClampNeg) 60 = true then (F_X4_turned_103 k_X4_turned_72 BIG x1 x5 x6 x7 (gI σ 118 (gI σ 115 (x5 + x7).toNatClampNeg).toNatClampNeg) (0 : Int32) σ) else none) else none)) else none)
def F_X4_turned_72 : Nat → Int32 → Int32 → Int32 → Int32 → AH → Option (Int32 × AH) := fun k => match k with | 0 => fun _ _ _ _ _ => none | k + 1 => B_X4_turned_72 (F_X4_turned_72 k)
def B_X4_turned_24 (k_X4_turned_24 : Int32 → Int32 → Int32 → Int32 → Int32 → AH → Option (Int32 × AH)) (x1 : Int32) (x2 : Int32) (x4 : Int32) (x5 : Int32) (x6 : Int32) (σ : AH) : Option (Int32 × AH) := (if inB x1 6 = true then (if (gI σ 116 x1.toNatClampNeg) ≤ x6 then (bv (F_X4_sort x1 x2 x4 σ) fun σ12 => (F_X4_turned_72 BIG x1 x5 (0 : Int32) (0 : Int32) σ12)) else (if inB (x5 + x6) 360 = true then (if inB (gI σ 115 (x5 + x6).toNatClampNeg) 60 = true then (k_X4_turned_24 x1 x2 x4 x5 (x6 + 1) (sI σ 118 ((gI σ 115 (x5 + x6).toNatClampNeg).toNatClampNeg) x6)) else none) else none)) else none)
def F_X4_turned_24 : Nat → Int32 → Int32 → Int32 → Int32 → Int32 → AH → Option (Int32 × AH) := fun k => match k with | 0 => fun _ _ _ _ _ _ => none | k + 1 => B_X4_turned_24 (F_X4_turned_24 k)
def F_X4_turned (x1 : Int32) (x2 : Int32) (x3 : Int32) (x4 : Int32) (σ : AH) : Option (Int32 × AH) := (bv (F_X4_sort x1 x2 x3 σ) fun σ2 => (lt (sA σ2 118 (filln (gI σ2 118) 60 (-1 : Int32))) fun τ7 => (F_X4_turned_24 BIG x1 x2 x4 (x1 * (60 : Int32)) (0 : Int32) τ7)))
set_option maxRecDepth 100000 in
theorem t_X4_turned_145 {X : Sx} {l : Launch} {D : Nat} {k_X4_turned_72 : Int32 → Int32 → Int32 → Int32 → AH → Option (Int32 × AH)} {x1 : Int32} {x5 : Int32} {x6 : Int32} {x7 : Int32} {σ : AH} {v : Int32} {σ' : AH} (hD : 5 ≤ D) (hk_X4_turned_72 : ∀ (x1 : Int32) (x5 : Int32) (x6 : Int32) (x7 : Int32) (σ : AH) (v : Int32) (σ' : AH), Sh σ → k_X4_turned_72 x1 x5 x6 x7 σ = some (v, σ') → E X l m_X4_turned D 72 [(0, .ref 113), (1, .int x1), (5, .int x5), (6, .int x6), (7, .int x7)] [] σ (some (.int v)) σ') (hs : Sh σ) (h : F_X4_turned_145 k_X4_turned_72 x1 x5 x6 x7 σ = some (v, σ')) : W_X4_turned_145 X l D x1 x5 x6 x7 σ (some (.int v)) σ' := by
  unfold F_X4_turned_145 at h
  unfold W_X4_turned_145
  exact hk_X4_turned_72 _ _ _ _ _ _ _ hs  h
set_option maxRecDepth 100000 in
theorem t_X4_turned_139 {X : Sx} {l : Launch} {D : Nat} {k_X4_turned_72 : Int32 → Int32 → Int32 → Int32 → AH → Option (Int32 × AH)} {k_X4_turned_103 : Int32 → Int32 → Int32 → Int32 → Int32 → Int32 → AH → Option (Int32 × AH)} {x1 : Int32} {x5 : Int32} {x6 : Int32} {x7 : Int32} {x8 : Int32} {x9 : Int32} {σ : AH} {v : Int32} {σ' : AH} (hD : 5 ≤ D) (hk_X4_turned_72 : ∀ (x1 : Int32) (x5 : Int32) (x6 : Int32) (x7 : Int32) (σ : AH) (v : Int32) (σ' : AH), Sh σ → k_X4_turned_72 x1 x5 x6 x7 σ = some (v, σ') → E X l m_X4_turned D 72 [(0, .ref 113), (1, .int x1), (5, .int x5), (6, .int x6), (7, .int x7)] [] σ (some (.int v)) σ') (hk_X4_turned_103 : ∀ (x1 : Int32) (x5 : Int32) (x6 : Int32) (x7 : Int32) (x8 : Int32) (x9 : Int32) (σ : AH) (v : Int32) (σ' : AH), Sh σ → k_X4_turned_103 x1 x5 x6 x7 x8 x9 σ = some (v, σ') → E X l m_X4_turned D 103 [(0, .ref 113), (1, .int x1), (5, .int x5), (6, .int x6), (7, .int x7), (8, .int x8), (9, .int x9)] [] σ (some (.int v)) σ') (hs : Sh σ) (h : F_X4_turned_139 k_X4_turned_72 k_X4_turned_103 x1 x5 x6 x7 x8 x9 σ = some (v, σ')) : W_X4_turned_139 X l D x1 x5 x6 x7 x8 x9 σ (some (.int v)) σ' := by
  unfold F_X4_turned_139 at h
  unfold W_X4_turned_139
  exact hk_X4_turned_103 _ _ _ _ _ _ _ _ _ hs  h
set_option maxRecDepth 100000 in
theorem t_X4_turned_103 {X : Sx} {l : Launch} {D : Nat} {k_X4_turned_72 : Int32 → Int32 → Int32 → Int32 → AH → Option (Int32 × AH)} {k_X4_turned_103 : Int32 → Int32 → Int32 → Int32 → Int32 → Int32 → AH → Option (Int32 × AH)} {x1 : Int32} {x5 : Int32} {x6 : Int32} {x7 : Int32} {x8 : Int32} {x9 : Int32} {σ : AH} {v : Int32} {σ' : AH} (hD : 5 ≤ D) (hk_X4_turned_72 : ∀ (x1 : Int32) (x5 : Int32) (x6 : Int32) (x7 : Int32) (σ : AH) (v : Int32) (σ' : AH), Sh σ → k_X4_turned_72 x1 x5 x6 x7 σ = some (v, σ') → E X l m_X4_turned D 72 [(0, .ref 113), (1, .int x1), (5, .int x5), (6, .int x6), (7, .int x7)] [] σ (some (.int v)) σ') (hk_X4_turned_103 : ∀ (x1 : Int32) (x5 : Int32) (x6 : Int32) (x7 : Int32) (x8 : Int32) (x9 : Int32) (σ : AH) (v : Int32) (σ' : AH), Sh σ → k_X4_turned_103 x1 x5 x6 x7 x8 x9 σ = some (v, σ') → E X l m_X4_turned D 103 [(0, .ref 113), (1, .int x1), (5, .int x5), (6, .int x6), (7, .int x7), (8, .int x8), (9, .int x9)] [] σ (some (.int v)) σ') (hs : Sh σ) (h : B_X4_turned_103 k_X4_turned_72 k_X4_turned_103 x1 x5 x6 x7 x8 x9 σ = some (v, σ')) : W_X4_turned_103 X l D x1 x5 x6 x7 x8 x9 σ (some (.int v)) σ' := by
  unfold B_X4_turned_103 at h
  unfold W_X4_turned_103
  refine ite_i (fun c1 => ?_) (fun c1 => ?_)
  · replace h := of_ifp h c1
    exact t_X4_turned_145 hD hk_X4_turned_72 hs  h
  · replace h := of_ifn h c1
    refine ite_i (fun c2 => ?_) (fun c2 => ?_)
    · replace h := of_ifp h c2
      exact t_X4_turned_145 hD hk_X4_turned_72 hs  h
    · replace h := of_ifn h c2
      obtain ⟨g3, h⟩ := of_gd h
      refine ⟨(inB_mp g3), ?_⟩
      obtain ⟨g4, h⟩ := of_gd h
      refine ⟨(inB_mp g4), ?_⟩
      refine ite_i (fun c5 => ?_) (fun c5 => ?_)
      · replace h := of_ifp h c5
        exact t_X4_turned_139 hD hk_X4_turned_72 hk_X4_turned_103 hs  h
      · replace h := of_ifn h c5
        exact t_X4_turned_139 hD hk_X4_turned_72 hk_X4_turned_103 hs  h
theorem e_X4_turned_103 {X : Sx} {l : Launch} {D : Nat} {k_X4_turned_72 : Int32 → Int32 → Int32 → Int32 → AH → Option (Int32 × AH)} (hD : 5 ≤ D) (hk_X4_turned_72 : ∀ (x1 : Int32) (x5 : Int32) (x6 : Int32) (x7 : Int32) (σ : AH) (v : Int32) (σ' : AH), Sh σ → k_X4_turned_72 x1 x5 x6 x7 σ = some (v, σ') → E X l m_X4_turned D 72 [(0, .ref 113), (1, .int x1), (5, .int x5), (6, .int x6), (7, .int x7)] [] σ (some (.int v)) σ') : ∀ (k : Nat) (x1 : Int32) (x5 : Int32) (x6 : Int32) (x7 : Int32) (x8 : Int32) (x9 : Int32) (σ : AH) (v : Int32) (σ' : AH), Sh σ → F_X4_turned_103 k_X4_turned_72 k x1 x5 x6 x7 x8 x9 σ = some (v, σ') → E X l m_X4_turned D 103 [(0, .ref 113), (1, .int x1), (5, .int x5), (6, .int x6), (7, .int x7), (8, .int x8), (9, .int x9)] [] σ (some (.int v)) σ' := by
  intro k
  induction k with
  | zero => intro x1 x5 x6 x7 x8 x9 σ v σ' hs h; cases h
  | succ k ih =>
    intro x1 x5 x6 x7 x8 x9 σ v σ' hs h
    exact w_X4_turned_103 hs  (t_X4_turned_103 hD hk_X4_turned_72 ih hs  h)
set_option maxRecDepth 100000 in
theorem t_X4_turned_72 {X : Sx} {l : Launch} {D : Nat} {k_X4_turned_72 : Int32 → Int32 → Int32 → Int32 → AH → Option (Int32 × AH)} {x1 : Int32} {x5 : Int32} {x6 : Int32} {x7 : Int32} {σ : AH} {v : Int32} {σ' : AH} (hD : 5 ≤ D) (hk_X4_turned_72 : ∀ (x1 : Int32) (x5 : Int32) (x6 : Int32) (x7 : Int32) (σ : AH) (v : Int32) (σ' : AH), Sh σ → k_X4_turned_72 x1 x5 x6 x7 σ = some (v, σ') → E X l m_X4_turned D 72 [(0, .ref 113), (1, .int x1), (5, .int x5), (6, .int x6), (7, .int x7)] [] σ (some (.int v)) σ') (hs : Sh σ) (h : B_X4_turned_72 k_X4_turned_72 x1 x5 x6 x7 σ = some (v, σ')) : W_X4_turned_72 X l D x1 x5 x6 x7 σ (some (.int v)) σ' := by
  unfold B_X4_turned_72 at h
  unfold W_X4_turned_72
  obtain ⟨g1, h⟩ := of_gd h
  refine ⟨(inB_mp g1), ?_⟩
  refine ite_i (fun c2 => ?_) (fun c2 => ?_)
  · replace h := of_ifp h c2
    exact ret_i h
  · replace h := of_ifn h c2
    obtain ⟨g3, h⟩ := of_gd h
    refine ⟨(inB_mp g3), ?_⟩
    obtain ⟨g4, h⟩ := of_gd h
    refine ⟨(inB_mp g4), ?_⟩
    exact e_X4_turned_103 hD hk_X4_turned_72 _ _ _ _ _ _ _ _ _ _ hs  h
theorem e_X4_turned_72 {X : Sx} {l : Launch} {D : Nat} (hD : 5 ≤ D) : ∀ (k : Nat) (x1 : Int32) (x5 : Int32) (x6 : Int32) (x7 : Int32) (σ : AH) (v : Int32) (σ' : AH), Sh σ → F_X4_turned_72 k x1 x5 x6 x7 σ = some (v, σ') → E X l m_X4_turned D 72 [(0, .ref 113), (1, .int x1), (5, .int x5), (6, .int x6), (7, .int x7)] [] σ (some (.int v)) σ' := by
  intro k
  induction k with
  | zero => intro x1 x5 x6 x7 σ v σ' hs h; cases h
  | succ k ih =>
    intro x1 x5 x6 x7 σ v σ' hs h
    exact w_X4_turned_72 hs  (t_X4_turned_72 hD ih hs  h)
set_option maxRecDepth 100000 in
theorem t_X4_turned_24 {X : Sx} {l : Launch} {D : Nat} {k_X4_turned_24 : Int32 → Int32 → Int32 → Int32 → Int32 → AH → Option (Int32 × AH)} {x1 : Int32} {x2 : Int32} {x4 : Int32} {x5 : Int32} {x6 : Int32} {σ : AH} {v : Int32} {σ' : AH} (hD : 5 ≤ D) (hk_X4_turned_24 : ∀ (x1 : Int32) (x2 : Int32) (x4 : Int32) (x5 : Int32) (x6 : Int32) (σ : AH) (v : Int32) (σ' : AH), Sh σ → k_X4_turned_24 x1 x2 x4 x5 x6 σ = some (v, σ') → E X l m_X4_turned D 24 [(0, .ref 113), (1, .int x1), (2, .int x2), (4, .int x4), (5, .int x5), (6, .int x6)] [] σ (some (.int v)) σ') (hs : Sh σ) (h : B_X4_turned_24 k_X4_turned_24 x1 x2 x4 x5 x6 σ = some (v, σ')) : W_X4_turned_24 X l D x1 x2 x4 x5 x6 σ (some (.int v)) σ' := by
  unfold B_X4_turned_24 at h
  unfold W_X4_turned_24
  obtain ⟨g1, h⟩ := of_gd h
  refine ⟨(inB_mp g1), ?_⟩
  refine ite_i (fun c2 => ?_) (fun c2 => ?_)
  · replace h := of_ifp h c2
    obtain ⟨σ12, q3, h⟩ := of_bv h
    have hC4 := f_X4_sort (σ := σ) hs  q3 (X := X) (l := l)
    have hs5 := hC4.1.2.2.2.1 hs
    refine ⟨4, σ12, (Nat.le_trans (by decide) hD), hC4, ?_⟩
    exact e_X4_turned_72 hD  _ _ _ _ _ _ _ _ hs5  h
  · replace h := of_ifn h c2
    obtain ⟨g6, h⟩ := of_gd h
    refine ⟨(inB_mp g6), ?_⟩
    obtain ⟨g7, h⟩ := of_gd h
    refine ⟨(inB_mp g7), ?_⟩
    exact hk_X4_turned_24 _ _ _ _ _ _ _ _ hs  h
theorem e_X4_turned_24 {X : Sx} {l : Launch} {D : Nat} (hD : 5 ≤ D) : ∀ (k : Nat) (x1 : Int32) (x2 : Int32) (x4 : Int32) (x5 : Int32) (x6 : Int32) (σ : AH) (v : Int32) (σ' : AH), Sh σ → F_X4_turned_24 k x1 x2 x4 x5 x6 σ = some (v, σ') → E X l m_X4_turned D 24 [(0, .ref 113), (1, .int x1), (2, .int x2), (4, .int x4), (5, .int x5), (6, .int x6)] [] σ (some (.int v)) σ' := by
  intro k
  induction k with
  | zero => intro x1 x2 x4 x5 x6 σ v σ' hs h; cases h
  | succ k ih =>
    intro x1 x2 x4 x5 x6 σ v σ' hs h
    exact w_X4_turned_24 hs  (t_X4_turned_24 hD ih hs  h)
set_option maxRecDepth 100000 in
theorem t_X4_turned_0 {X : Sx} {l : Launch} {D : Nat} {x1 : Int32} {x2 : Int32} {x3 : Int32} {x4 : Int32} {σ : AH} {v : Int32} {σ' : AH} (hD : 5 ≤ D) (hs : Sh σ) (h : F_X4_turned x1 x2 x3 x4 σ = some (v, σ')) : W_X4_turned_0 X l D x1 x2 x3 x4 σ (some (.int v)) σ' := by
  unfold F_X4_turned at h
  unfold W_X4_turned_0
  obtain ⟨σ2, q1, h⟩ := of_bv h
  have hC2 := f_X4_sort (σ := σ) hs  q1 (X := X) (l := l)
  have hs3 := hC2.1.2.2.2.1 hs
  refine ⟨4, σ2, (Nat.le_trans (by decide) hD), hC2, ?_⟩
  refine ⟨Nat.le_trans (by decide) hD, ?_⟩
  intro τ7 e4
  replace h := of_lt h e4
  have hs5 : Sh τ7 := by rw [e4]; exact hs3
  exact e_X4_turned_24 hD  _ _ _ _ _ _ _ _ _ hs5  h
theorem f_X4_turned {X : Sx} {l : Launch} {x1 : Int32} {x2 : Int32} {x3 : Int32} {x4 : Int32} {σ : AH} {v : Int32} {σ' : AH} (hs : Sh σ) (h : F_X4_turned x1 x2 x3 x4 σ = some (v, σ')) : Call X l m_X4_turned 5 [.ref 113, .int x1, .int x2, .int x3, .int x4] σ (some (.int v)) σ' :=
  Call.ofE ok_X4_turned rfl (Nat.le_of_ble_eq_true rfl) (w_X4_turned_0 hs  (t_X4_turned_0 (Nat.le_refl _) hs  h))
def F_X5_init (x0 : Nat) (σ : AH) : Option AH := (if kd σ x0 = (5, NO 5) then (if x0 < nx σ then (lt (aw σ 100 400) fun τ1 => (if alB m_X5_init x0 = true then (if shOX τ1 x0 0 = true then (lt (sR τ1 x0 0 (some (nx σ))) fun τ10 => (lt (aw τ10 100 16) fun τ15 => (if alB m_X5_init x0 = true then (if shOX τ15 x0 3 = true then (lt (sR τ15 x0 3 (some (nx τ10))) fun τ24 => (lt (aw τ24 100 16) fun τ29 => (if alB m_X5_init x0 = true then (if shOX τ29 x0 4 = true then (lt (sR τ29 x0 4 (some (nx τ24))) fun τ38 => (lt (aw τ38 100 16) fun τ43 => (if alB m_X5_init x0 = true then (if shOX τ43 x0 5 = true then (lt (sR τ43 x0 5 (some (nx τ38))) fun τ52 => (lt (aw τ52 100 400) fun τ57 => (if alB m_X5_init x0 = true then (if shOX τ57 x0 6 = true then (lt (sR τ57 x0 6 (some (nx τ52))) fun τ66 => (some τ66)) else none) else none))) else none) else none))) else none) else none))) else none) else none))) else none) else none)) else none) else none)
set_option maxRecDepth 100000 in
theorem t_X5_init_0 {X : Sx} {l : Launch} {D : Nat} {x0 : Nat} {σ : AH} {σ' : AH} (hD : 1 ≤ D) (h : F_X5_init x0 σ = some σ') : W_X5_init_0 X l D x0 σ none σ' := by
  unfold F_X5_init at h
  unfold W_X5_init_0
  obtain ⟨g1, h⟩ := of_gd h
  refine ⟨g1, ?_⟩
  obtain ⟨g2, h⟩ := of_gd h
  refine ⟨g2, ?_⟩
  refine ⟨Nat.le_trans (by decide) hD, ?_⟩
  intro τ1 e3
  replace h := of_lt h e3
  obtain ⟨g4, h⟩ := of_gd h
  refine ⟨(alB_mp g4), ?_⟩
  obtain ⟨g5, h⟩ := of_gd h
  refine ⟨(fun q => shOX_mp g5 q), ?_⟩
  intro τ10 e6
  replace h := of_lt h e6
  intro τ15 e7
  replace h := of_lt h e7
  obtain ⟨g8, h⟩ := of_gd h
  refine ⟨(alB_mp g8), ?_⟩
  obtain ⟨g9, h⟩ := of_gd h
  refine ⟨(fun q => shOX_mp g9 q), ?_⟩
  intro τ24 e10
  replace h := of_lt h e10
  intro τ29 e11
  replace h := of_lt h e11
  obtain ⟨g12, h⟩ := of_gd h
  refine ⟨(alB_mp g12), ?_⟩
  obtain ⟨g13, h⟩ := of_gd h
  refine ⟨(fun q => shOX_mp g13 q), ?_⟩
  intro τ38 e14
  replace h := of_lt h e14
  intro τ43 e15
  replace h := of_lt h e15
  obtain ⟨g16, h⟩ := of_gd h
  refine ⟨(alB_mp g16), ?_⟩
  obtain ⟨g17, h⟩ := of_gd h
  refine ⟨(fun q => shOX_mp g17 q), ?_⟩
  intro τ52 e18
  replace h := of_lt h e18
  intro τ57 e19
  replace h := of_lt h e19
  obtain ⟨g20, h⟩ := of_gd h
  refine ⟨(alB_mp g20), ?_⟩
  obtain ⟨g21, h⟩ := of_gd h
  refine ⟨(fun q => shOX_mp g21 q), ?_⟩
  intro τ66 e22
  replace h := of_lt h e22
  exact ret_v h
theorem f_X5_init {X : Sx} {l : Launch} {x0 : Nat} {σ : AH} {σ' : AH} (h : F_X5_init x0 σ = some σ') : Call X l m_X5_init 1 [.ref x0] σ none σ' :=
  Call.ofE ok_X5_init rfl (Nat.le_of_ble_eq_true rfl) (w_X5_init_0  (t_X5_init_0 (Nat.le_refl _)  h))
def F_X5_hasRoom (x1 : Int32) (σ : AH) : Option (Int32 × AH) := (if (400 : Int32) < ((gI σ 22 1) + x1) then (some ((0 : Int32), σ)) else (some ((1 : Int32), σ)))
set_option maxRecDepth 100000 in
theorem t_X5_hasRoom_0 {X : Sx} {l : Launch} {D : Nat} {x1 : Int32} {σ : AH} {v : Int32} {σ' : AH} (hD : 0 ≤ D) (hs : Sh σ) (h : F_X5_hasRoom x1 σ = some (v, σ')) : W_X5_hasRoom_0 X l D x1 σ (some (.int v)) σ' := by
  unfold F_X5_hasRoom at h
  unfold W_X5_hasRoom_0
  refine ite_i (fun c1 => ?_) (fun c1 => ?_)
  · replace h := of_ifp h c1
    exact ret_i h
  · replace h := of_ifn h c1
    exact ret_i h
theorem f_X5_hasRoom {X : Sx} {l : Launch} {x1 : Int32} {σ : AH} {v : Int32} {σ' : AH} (hs : Sh σ) (h : F_X5_hasRoom x1 σ = some (v, σ')) : Call X l m_X5_hasRoom 0 [.ref 22, .int x1] σ (some (.int v)) σ' :=
  Call.ofE ok_X5_hasRoom rfl (Nat.le_of_ble_eq_true rfl) (w_X5_hasRoom_0 hs  (t_X5_hasRoom_0 (Nat.le_refl _) hs  h))
def B_X5_write_3 (k_X5_write_3 : Int32 → Int32 → AH → Option AH) (x1 : Int32) (x2 : Int32) (σ : AH) : Option AH := (if x2 < 0 then (some σ) else (if (400 : Int32) ≤ (gI σ 22 1) then (some σ) else (if inB (gI σ 22 1) 400 = true then (lt (sI (sI σ 23 ((gI σ 22 1).toNatClampNeg) ((x1 >>> (x2 &&& 31)) &&& (255 : Int32))) 22 1 ((gI (sI σ 23 ((gI σ 22 1).toNatClampNeg) ((x1 >>> (x2 &&& 31)) &&& (255 : Int32))) 22 1) + (1 : Int32))) fun τ2 => (k_X5_write_3 x1 (x2 + (-8)) τ2)) else none)))
def F_X5_write_3 : Nat → Int32 → Int32 → AH → Option AH := fun k => match k with | 0 => fun _ _ _ => none | k + 1 => B_X5_write_3 (F_X5_write_3 k)
def F_X5_write (x1 : Int32) (σ : AH) : Option AH := (F_X5_write_3 BIG x1 (24 : Int32) σ)
set_option maxRecDepth 100000 in
theorem t_X5_write_3 {X : Sx} {l : Launch} {D : Nat} {k_X5_write_3 : Int32 → Int32 → AH → Option AH} {x1 : Int32} {x2 : Int32} {σ : AH} {σ' : AH} (hD : 0 ≤ D) (hk_X5_write_3 : ∀ (x1 : Int32) (x2 : Int32) (σ : AH) (σ' : AH), Sh σ → k_X5_write_3 x1 x2 σ = some σ' → E X l m_X5_write D 3 [(0, .ref 22), (1, .int x1), (2, .int x2)] [] σ none σ') (hs : Sh σ) (h : B_X5_write_3 k_X5_write_3 x1 x2 σ = some σ') : W_X5_write_3 X l D x1 x2 σ none σ' := by
  unfold B_X5_write_3 at h
  unfold W_X5_write_3
  refine ite_i (fun c1 => ?_) (fun c1 => ?_)
  · replace h := of_ifp h c1
    exact ret_v h
  · replace h := of_ifn h c1
    refine ite_i (fun c2 => ?_) (fun c2 => ?_)
    · replace h := of_ifp h c2
      exact ret_v h
    · replace h := of_ifn h c2
      obtain ⟨g3, h⟩ := of_gd h
      refine ⟨(inB_mp g3), ?_⟩
      intro τ2 e4
      replace h := of_lt h e4
      have hs5 : Sh τ2 := by rw [e4]; exact hs
      exact hk_X5_write_3 _ _ _ _ hs5  h
theorem e_X5_write_3 {X : Sx} {l : Launch} {D : Nat} (hD : 0 ≤ D) : ∀ (k : Nat) (x1 : Int32) (x2 : Int32) (σ : AH) (σ' : AH), Sh σ → F_X5_write_3 k x1 x2 σ = some σ' → E X l m_X5_write D 3 [(0, .ref 22), (1, .int x1), (2, .int x2)] [] σ none σ' := by
  intro k
  induction k with
  | zero => intro x1 x2 σ σ' hs h; cases h
  | succ k ih =>
    intro x1 x2 σ σ' hs h
    exact w_X5_write_3 hs  (t_X5_write_3 hD ih hs  h)
set_option maxRecDepth 100000 in
theorem t_X5_write_0 {X : Sx} {l : Launch} {D : Nat} {x1 : Int32} {σ : AH} {σ' : AH} (hD : 0 ≤ D) (hs : Sh σ) (h : F_X5_write x1 σ = some σ') : W_X5_write_0 X l D x1 σ none σ' := by
  unfold F_X5_write at h
  unfold W_X5_write_0
  exact e_X5_write_3 hD  _ _ _ _ _ hs  h
theorem f_X5_write {X : Sx} {l : Launch} {x1 : Int32} {σ : AH} {σ' : AH} (hs : Sh σ) (h : F_X5_write x1 σ = some σ') : Call X l m_X5_write 0 [.ref 22, .int x1] σ none σ' :=
  Call.ofE ok_X5_write rfl (Nat.le_of_ble_eq_true rfl) (w_X5_write_0 hs  (t_X5_write_0 (Nat.le_refl _) hs  h))
def F_X5_isLetter (x0 : Int32) (σ : AH) : Option (Int32 × AH) := (if x0 < (97 : Int32) then (some ((0 : Int32), σ)) else (if (122 : Int32) < x0 then (some ((0 : Int32), σ)) else (some ((1 : Int32), σ))))
set_option maxRecDepth 100000 in
theorem t_X5_isLetter_0 {X : Sx} {l : Launch} {D : Nat} {x0 : Int32} {σ : AH} {v : Int32} {σ' : AH} (hD : 0 ≤ D) (hs : Sh σ) (h : F_X5_isLetter x0 σ = some (v, σ')) : W_X5_isLetter_0 X l D x0 σ (some (.int v)) σ' := by
  unfold F_X5_isLetter at h
  unfold W_X5_isLetter_0
  refine ite_i (fun c1 => ?_) (fun c1 => ?_)
  · replace h := of_ifp h c1
    exact ret_i h
  · replace h := of_ifn h c1
    refine ite_i (fun c2 => ?_) (fun c2 => ?_)
    · replace h := of_ifp h c2
      exact ret_i h
    · replace h := of_ifn h c2
      exact ret_i h
theorem f_X5_isLetter {X : Sx} {l : Launch} {x0 : Int32} {σ : AH} {v : Int32} {σ' : AH} (hs : Sh σ) (h : F_X5_isLetter x0 σ = some (v, σ')) : Call X l m_X5_isLetter 0 [.int x0] σ (some (.int v)) σ' :=
  Call.ofE ok_X5_isLetter rfl (Nat.le_of_ble_eq_true rfl) (w_X5_isLetter_0 hs  (t_X5_isLetter_0 (Nat.le_refl _) hs  h))
def F_X5_isDigit (x0 : Int32) (σ : AH) : Option (Int32 × AH) := (if x0 < (48 : Int32) then (some ((0 : Int32), σ)) else (if (57 : Int32) < x0 then (some ((0 : Int32), σ)) else (some ((1 : Int32), σ))))
set_option maxRecDepth 100000 in
theorem t_X5_isDigit_0 {X : Sx} {l : Launch} {D : Nat} {x0 : Int32} {σ : AH} {v : Int32} {σ' : AH} (hD : 0 ≤ D) (hs : Sh σ) (h : F_X5_isDigit x0 σ = some (v, σ')) : W_X5_isDigit_0 X l D x0 σ (some (.int v)) σ' := by
  unfold F_X5_isDigit at h
  unfold W_X5_isDigit_0
  refine ite_i (fun c1 => ?_) (fun c1 => ?_)
  · replace h := of_ifp h c1
    exact ret_i h
  · replace h := of_ifn h c1
    refine ite_i (fun c2 => ?_) (fun c2 => ?_)
    · replace h := of_ifp h c2
      exact ret_i h
    · replace h := of_ifn h c2
      exact ret_i h
theorem f_X5_isDigit {X : Sx} {l : Launch} {x0 : Int32} {σ : AH} {v : Int32} {σ' : AH} (hs : Sh σ) (h : F_X5_isDigit x0 σ = some (v, σ')) : Call X l m_X5_isDigit 0 [.int x0] σ (some (.int v)) σ' :=
  Call.ofE ok_X5_isDigit rfl (Nat.le_of_ble_eq_true rfl) (w_X5_isDigit_0 hs  (t_X5_isDigit_0 (Nat.le_refl _) hs  h))
def F_X5_step_176 (x1 : Int32) (σ : AH) : Option AH := (some (sI σ 22 10 x1))
def B_X5_step_116 (k_X5_step_116 : Int32 → AH → Option AH) (x1 : Int32) (σ : AH) : Option AH := (if (gI σ 22 1) ≤ x1 then (F_X5_step_176 x1 σ) else (if inB x1 400 = true then (bd (F_X5_isDigit (gI σ 23 x1.toNatClampNeg) σ) fun v22 σ18 => (if v22 = 0 then (F_X5_step_176 x1 σ18) else (if inB x1 400 = true then (k_X5_step_116 (x1 + 1) (sI σ18 22 12 (imin (1000000 : Int32) ((((gI σ18 22 12) * (10 : Int32)) + (gI σ18 23 x1.toNatClampNeg)) - (48 : Int32))))) else none))) else none))
def F_X5_step_116 : Nat → Int32 → AH → Option AH := fun k => match k with | 0 => fun _ _ => none | k + 1 => B_X5_step_116 (F_X5_step_116 k)
def B_X5_step_73 (k_X5_step_73 : Int32 → AH → Option AH) (x1 : Int32) (σ : AH) : Option AH := (if (gI σ 22 1) ≤ x1 then (F_X5_step_176 x1 σ) else (if inB x1 400 = true then (bd (F_X5_isLetter (gI σ 23 x1.toNatClampNeg) σ) fun v31 σ27 => (if v31 = 0 then (F_X5_step_176 x1 σ27) else (k_X5_step_73 (x1 + 1) σ27))) else none))
def F_X5_step_73 : Nat → Int32 → AH → Option AH := fun k => match k with | 0 => fun _ _ => none | k + 1 => B_X5_step_73 (F_X5_step_73 k)
def F_X5_step_30 (x1 : Int32) (σ : AH) : Option AH := (if x1 < (gI (sI (sI σ 22 9 x1) 22 12 (0 : Int32)) 22 1) then (if inB x1 400 = true then (bd (F_X5_isLetter (gI (sI (sI σ 22 9 x1) 22 12 (0 : Int32)) 23 x1.toNatClampNeg) (sI (sI σ 22 9 x1) 22 12 (0 : Int32))) fun v8 σ4 => (if v8 = 0 then (if inB x1 400 = true then (bd (F_X5_isDigit (gI σ4 23 x1.toNatClampNeg) σ4) fun v15 σ11 => (if v15 = 0 then (F_X5_step_176 (x1 + 1) (sI σ11 22 11 (3 : Int32))) else (F_X5_step_116 BIG x1 (sI σ11 22 11 (2 : Int32))))) else none) else (F_X5_step_73 BIG x1 (sI σ4 22 11 (1 : Int32))))) else none) else (F_X5_step_176 x1 (sI (sI (sI σ 22 9 x1) 22 12 (0 : Int32)) 22 11 (0 : Int32))))
def B_X5_step_5 (k_X5_step_5 : Int32 → AH → Option AH) (x1 : Int32) (σ : AH) : Option AH := (if (gI σ 22 1) ≤ x1 then (F_X5_step_30 x1 σ) else (if inB x1 400 = true then (if (gI σ 23 x1.toNatClampNeg) = (32 : Int32) then (k_X5_step_5 (x1 + 1) σ) else (F_X5_step_30 x1 σ)) else none))
def F_X5_step_5 : Nat → Int32 → AH → Option AH := fun k => match k with | 0 => fun _ _ => none | k + 1 => B_X5_step_5 (F_X5_step_5 k)
def F_X5_step (σ : AH) : Option AH := (F_X5_step_5 BIG (gI σ 22 10) σ)
set_option maxRecDepth 100000 in
theorem t_X5_step_176 {X : Sx} {l : Launch} {D : Nat} {x1 : Int32} {σ : AH} {σ' : AH} (hD : 1 ≤ D) (hs : Sh σ) (h : F_X5_step_176 x1 σ = some σ') : W_X5_step_176 X l D x1 σ none σ' := by
  unfold F_X5_step_176 at h
  unfold W_X5_step_176
  exact ret_v h
set_option maxRecDepth 100000 in
theorem t_X5_step_116 {X : Sx} {l : Launch} {D : Nat} {k_X5_step_116 : Int32 → AH → Option AH} {x1 : Int32} {σ : AH} {σ' : AH} (hD : 1 ≤ D) (hk_X5_step_116 : ∀ (x1 : Int32) (σ : AH) (σ' : AH), Sh σ → k_X5_step_116 x1 σ = some σ' → E X l m_X5_step D 116 [(0, .ref 22), (1, .int x1)] [] σ none σ') (hs : Sh σ) (h : B_X5_step_116 k_X5_step_116 x1 σ = some σ') : W_X5_step_116 X l D x1 σ none σ' := by
  unfold B_X5_step_116 at h
  unfold W_X5_step_116
  refine ite_i (fun c1 => ?_) (fun c1 => ?_)
  · replace h := of_ifp h c1
    exact t_X5_step_176 hD  hs  h
  · replace h := of_ifn h c1
    obtain ⟨g2, h⟩ := of_gd h
    refine ⟨(inB_mp g2), ?_⟩
    obtain ⟨v22, σ18, q3, h⟩ := of_bd h
    have hC4 := f_X5_isDigit (σ := σ) hs  q3 (X := X) (l := l)
    have hs5 := hC4.1.2.2.2.1 hs
    refine ⟨0, v22, σ18, (Nat.le_trans (by decide) hD), hC4, ?_⟩
    refine ite_i (fun c6 => ?_) (fun c6 => ?_)
    · replace h := of_ifp h c6
      exact t_X5_step_176 hD  hs5  h
    · replace h := of_ifn h c6
      obtain ⟨g7, h⟩ := of_gd h
      refine ⟨(inB_mp g7), ?_⟩
      refine ⟨Nat.le_trans (by decide) hD, ?_⟩
      exact hk_X5_step_116 _ _ _ hs5  h
theorem e_X5_step_116 {X : Sx} {l : Launch} {D : Nat} (hD : 1 ≤ D) : ∀ (k : Nat) (x1 : Int32) (σ : AH) (σ' : AH), Sh σ → F_X5_step_116 k x1 σ = some σ' → E X l m_X5_step D 116 [(0, .ref 22), (1, .int x1)] [] σ none σ' := by
  intro k
  induction k with
  | zero => intro x1 σ σ' hs h; cases h
  | succ k ih =>
    intro x1 σ σ' hs h
    exact w_X5_step_116 hs  (t_X5_step_116 hD ih hs  h)
set_option maxRecDepth 100000 in
theorem t_X5_step_73 {X : Sx} {l : Launch} {D : Nat} {k_X5_step_73 : Int32 → AH → Option AH} {x1 : Int32} {σ : AH} {σ' : AH} (hD : 1 ≤ D) (hk_X5_step_73 : ∀ (x1 : Int32) (σ : AH) (σ' : AH), Sh σ → k_X5_step_73 x1 σ = some σ' → E X l m_X5_step D 73 [(0, .ref 22), (1, .int x1)] [] σ none σ') (hs : Sh σ) (h : B_X5_step_73 k_X5_step_73 x1 σ = some σ') : W_X5_step_73 X l D x1 σ none σ' := by
  unfold B_X5_step_73 at h
  unfold W_X5_step_73
  refine ite_i (fun c1 => ?_) (fun c1 => ?_)
  · replace h := of_ifp h c1
    exact t_X5_step_176 hD  hs  h
  · replace h := of_ifn h c1
    obtain ⟨g2, h⟩ := of_gd h
    refine ⟨(inB_mp g2), ?_⟩
    obtain ⟨v31, σ27, q3, h⟩ := of_bd h
    have hC4 := f_X5_isLetter (σ := σ) hs  q3 (X := X) (l := l)
    have hs5 := hC4.1.2.2.2.1 hs
    refine ⟨0, v31, σ27, (Nat.le_trans (by decide) hD), hC4, ?_⟩
    refine ite_i (fun c6 => ?_) (fun c6 => ?_)
    · replace h := of_ifp h c6
      exact t_X5_step_176 hD  hs5  h
    · replace h := of_ifn h c6
      exact hk_X5_step_73 _ _ _ hs5  h
theorem e_X5_step_73 {X : Sx} {l : Launch} {D : Nat} (hD : 1 ≤ D) : ∀ (k : Nat) (x1 : Int32) (σ : AH) (σ' : AH), Sh σ → F_X5_step_73 k x1 σ = some σ' → E X l m_X5_step D 73 [(0, .ref 22), (1, .int x1)] [] σ none σ' := by
  intro k
  induction k with
  | zero => intro x1 σ σ' hs h; cases h
  | succ k ih =>
    intro x1 σ σ' hs h
    exact w_X5_step_73 hs  (t_X5_step_73 hD ih hs  h)
set_option maxRecDepth 100000 in
theorem t_X5_step_30 {X : Sx} {l : Launch} {D : Nat} {x1 : Int32} {σ : AH} {σ' : AH} (hD : 1 ≤ D) (hs : Sh σ) (h : F_X5_step_30 x1 σ = some σ') : W_X5_step_30 X l D x1 σ none σ' := by
  unfold F_X5_step_30 at h
  unfold W_X5_step_30
  refine ite_i (fun c1 => ?_) (fun c1 => ?_)
  · replace h := of_ifp h c1
    obtain ⟨g2, h⟩ := of_gd h
    refine ⟨(inB_mp g2), ?_⟩
    obtain ⟨v8, σ4, q3, h⟩ := of_bd h
    have hC4 := f_X5_isLetter (σ := (sI (sI σ 22 9 x1) 22 12 (0 : Int32))) hs  q3 (X := X) (l := l)
    have hs5 := hC4.1.2.2.2.1 hs
    refine ⟨0, v8, σ4, (Nat.le_trans (by decide) hD), hC4, ?_⟩
    refine ite_i (fun c6 => ?_) (fun c6 => ?_)
    · replace h := of_ifp h c6
      obtain ⟨g7, h⟩ := of_gd h
      refine ⟨(inB_mp g7), ?_⟩
      obtain ⟨v15, σ11, q8, h⟩ := of_bd h
      have hC9 := f_X5_isDigit (σ := σ4) hs5  q8 (X := X) (l := l)
      have hs10 := hC9.1.2.2.2.1 hs5
      refine ⟨0, v15, σ11, (Nat.le_trans (by decide) hD), hC9, ?_⟩
      refine ite_i (fun c11 => ?_) (fun c11 => ?_)
      · replace h := of_ifp h c11
        exact t_X5_step_176 hD  hs10  h
      · replace h := of_ifn h c11
        exact e_X5_step_116 hD  _ _ _ _ hs10  h
    · replace h := of_ifn h c6
      exact e_X5_step_73 hD  _ _ _ _ hs5  h
  · replace h := of_ifn h c1
    exact t_X5_step_176 hD  hs  h
set_option maxRecDepth 100000 in
theorem t_X5_step_5 {X : Sx} {l : Launch} {D : Nat} {k_X5_step_5 : Int32 → AH → Option AH} {x1 : Int32} {σ : AH} {σ' : AH} (hD : 1 ≤ D) (hk_X5_step_5 : ∀ (x1 : Int32) (σ : AH) (σ' : AH), Sh σ → k_X5_step_5 x1 σ = some σ' → E X l m_X5_step D 5 [(0, .ref 22), (1, .int x1)] [] σ none σ') (hs : Sh σ) (h : B_X5_step_5 k_X5_step_5 x1 σ = some σ') : W_X5_step_5 X l D x1 σ none σ' := by
  unfold B_X5_step_5 at h
  unfold W_X5_step_5
  refine ite_i (fun c1 => ?_) (fun c1 => ?_)
  · replace h := of_ifp h c1
    exact t_X5_step_30 hD  hs  h
  · replace h := of_ifn h c1
    obtain ⟨g2, h⟩ := of_gd h
    refine ⟨(inB_mp g2), ?_⟩
    refine ite_i (fun c3 => ?_) (fun c3 => ?_)
    · replace h := of_ifp h c3
      exact hk_X5_step_5 _ _ _ hs  h
    · replace h := of_ifn h c3
      exact t_X5_step_30 hD  hs  h
theorem e_X5_step_5 {X : Sx} {l : Launch} {D : Nat} (hD : 1 ≤ D) : ∀ (k : Nat) (x1 : Int32) (σ : AH) (σ' : AH), Sh σ → F_X5_step_5 k x1 σ = some σ' → E X l m_X5_step D 5 [(0, .ref 22), (1, .int x1)] [] σ none σ' := by
  intro k
  induction k with
  | zero => intro x1 σ σ' hs h; cases h
  | succ k ih =>
    intro x1 σ σ' hs h
    exact w_X5_step_5 hs  (t_X5_step_5 hD ih hs  h)
set_option maxRecDepth 100000 in
theorem t_X5_step_0 {X : Sx} {l : Launch} {D : Nat} {σ : AH} {σ' : AH} (hD : 1 ≤ D) (hs : Sh σ) (h : F_X5_step σ = some σ') : W_X5_step_0 X l D σ none σ' := by
  unfold F_X5_step at h
  unfold W_X5_step_0
  exact e_X5_step_5 hD  _ _ _ _ hs  h
theorem f_X5_step {X : Sx} {l : Launch} {σ : AH} {σ' : AH} (hs : Sh σ) (h : F_X5_step σ = some σ') : Call X l m_X5_step 1 [.ref 22] σ none σ' :=
  Call.ofE ok_X5_step rfl (Nat.le_of_ble_eq_true rfl) (w_X5_step_0 hs  (t_X5_step_0 (Nat.le_refl _) hs  h))
def F_X5_emit (x1 : Int32) (x2 : Int32) (σ : AH) : Option AH := (if (400 : Int32) ≤ (gI σ 22 7) then (some σ) else (if inB (gI σ 22 7) 400 = true then (lt (sI (sI σ 27 ((gI σ 22 7).toNatClampNeg) (x1 ||| (x2 <<< ((4 : Int32) &&& 31)))) 22 7 ((gI (sI σ 27 ((gI σ 22 7).toNatClampNeg) (x1 ||| (x2 <<< ((4 : Int32) &&& 31)))) 22 7) + (1 : Int32))) fun τ2 => (some τ2)) else none))
set_option maxRecDepth 100000 in
theorem t_X5_emit_0 {X : Sx} {l : Launch} {D : Nat} {x1 : Int32} {x2 : Int32} {σ : AH} {σ' : AH} (hD : 0 ≤ D) (hs : Sh σ) (h : F_X5_emit x1 x2 σ = some σ') : W_X5_emit_0 X l D x1 x2 σ none σ' := by
  unfold F_X5_emit at h
  unfold W_X5_emit_0
  refine ite_i (fun c1 => ?_) (fun c1 => ?_)
  · replace h := of_ifp h c1
    exact ret_v h
  · replace h := of_ifn h c1
    obtain ⟨g2, h⟩ := of_gd h
    refine ⟨(inB_mp g2), ?_⟩
    intro τ2 e3
    replace h := of_lt h e3
    have hs4 : Sh τ2 := by rw [e3]; exact hs
    exact ret_v h
theorem f_X5_emit {X : Sx} {l : Launch} {x1 : Int32} {x2 : Int32} {σ : AH} {σ' : AH} (hs : Sh σ) (h : F_X5_emit x1 x2 σ = some σ') : Call X l m_X5_emit 0 [.ref 22, .int x1, .int x2] σ none σ' :=
  Call.ofE ok_X5_emit rfl (Nat.le_of_ble_eq_true rfl) (w_X5_emit_0 hs  (t_X5_emit_0 (Nat.le_refl _) hs  h))
def B_X5_isSpelled_28 (k_X5_isSpelled_28 : Nat → Int32 → Int32 → Int32 → AH → Option (Int32 × AH)) (x1 : Nat) (x2 : Int32) (x3 : Int32) (x4 : Int32) (σ : AH) : Option (Int32 × AH) := (if x3 ≤ x4 then (some ((1 : Int32), σ)) else (if inB (((gI σ 22 9) + x4) - x2) 400 = true then (bd (F_J0_charAt_5068e x1 x4 σ) fun v7 σ3 => (if (gI σ 23 (((gI σ 22 9) + x4) - x2).toNatClampNeg) = v7 then (k_X5_isSpelled_28 x1 x2 x3 (x4 + 1) σ3) else (some ((0 : Int32), σ3)))) else none))
def F_X5_isSpelled_28 : Nat → Nat → Int32 → Int32 → Int32 → AH → Option (Int32 × AH) := fun k => match k with | 0 => fun _ _ _ _ _ => none | k + 1 => B_X5_isSpelled_28 (F_X5_isSpelled_28 k)
def F_X5_isSpelled (x1 : Nat) (x2 : Int32) (x3 : Int32) (σ : AH) : Option (Int32 × AH) := (if (gI σ 22 11) = (1 : Int32) then (if ((gI σ 22 10) - (gI σ 22 9)) = (x3 - x2) then (F_X5_isSpelled_28 BIG x1 x2 x3 x2 σ) else (some ((0 : Int32), σ))) else (some ((0 : Int32), σ)))
set_option maxRecDepth 100000 in
theorem t_X5_isSpelled_28 {X : Sx} {l : Launch} {D : Nat} {k_X5_isSpelled_28 : Nat → Int32 → Int32 → Int32 → AH → Option (Int32 × AH)} {x1 : Nat} {x2 : Int32} {x3 : Int32} {x4 : Int32} {σ : AH} {v : Int32} {σ' : AH} (hD : 7 ≤ D) (hk_X5_isSpelled_28 : ∀ (x1 : Nat) (x2 : Int32) (x3 : Int32) (x4 : Int32) (σ : AH) (v : Int32) (σ' : AH), Sh σ → x1 < 12 → k_X5_isSpelled_28 x1 x2 x3 x4 σ = some (v, σ') → E X l m_X5_isSpelled D 28 [(0, .ref 22), (1, .ref (1000001 + x1)), (2, .int x2), (3, .int x3), (4, .int x4)] [] σ (some (.int v)) σ') (hs : Sh σ) (hmx1 : x1 < 12) (h : B_X5_isSpelled_28 k_X5_isSpelled_28 x1 x2 x3 x4 σ = some (v, σ')) : W_X5_isSpelled_28 X l D x1 x2 x3 x4 σ (some (.int v)) σ' := by
  unfold B_X5_isSpelled_28 at h
  unfold W_X5_isSpelled_28
  refine ite_i (fun c1 => ?_) (fun c1 => ?_)
  · replace h := of_ifp h c1
    exact ret_i h
  · replace h := of_ifn h c1
    obtain ⟨g2, h⟩ := of_gd h
    refine ⟨(inB_mp g2), ?_⟩
    obtain ⟨v7, σ3, q3, h⟩ := of_bd h
    have hC4 := f_J0_charAt_5068e (by first | assumption | exact st_stock (by assumption) | exact rn_site (by assumption) | decide) q3 (X := X) (l := l)
    have hs5 := hC4.1.2.2.2.1 hs
    refine ⟨6, v7, σ3, (Nat.le_trans (by decide) hD), hC4, ?_⟩
    refine ite_i (fun c6 => ?_) (fun c6 => ?_)
    · replace h := of_ifp h c6
      exact hk_X5_isSpelled_28 _ _ _ _ _ _ _ hs5 (by first | assumption | exact st_stock (by assumption) | exact rn_site (by assumption) | decide) h
    · replace h := of_ifn h c6
      exact ret_i h
theorem e_X5_isSpelled_28 {X : Sx} {l : Launch} {D : Nat} (hD : 7 ≤ D) : ∀ (k : Nat) (x1 : Nat) (x2 : Int32) (x3 : Int32) (x4 : Int32) (σ : AH) (v : Int32) (σ' : AH), Sh σ → x1 < 12 → F_X5_isSpelled_28 k x1 x2 x3 x4 σ = some (v, σ') → E X l m_X5_isSpelled D 28 [(0, .ref 22), (1, .ref (1000001 + x1)), (2, .int x2), (3, .int x3), (4, .int x4)] [] σ (some (.int v)) σ' := by
  intro k
  induction k with
  | zero => intro x1 x2 x3 x4 σ v σ' hs hmx1 h; cases h
  | succ k ih =>
    intro x1 x2 x3 x4 σ v σ' hs hmx1 h
    exact w_X5_isSpelled_28 hs hmx1 (t_X5_isSpelled_28 hD ih hs hmx1 h)
set_option maxRecDepth 100000 in
theorem t_X5_isSpelled_0 {X : Sx} {l : Launch} {D : Nat} {x1 : Nat} {x2 : Int32} {x3 : Int32} {σ : AH} {v : Int32} {σ' : AH} (hD : 7 ≤ D) (hs : Sh σ) (hmx1 : x1 < 12) (h : F_X5_isSpelled x1 x2 x3 σ = some (v, σ')) : W_X5_isSpelled_0 X l D x1 x2 x3 σ (some (.int v)) σ' := by
  unfold F_X5_isSpelled at h
  unfold W_X5_isSpelled_0
  refine ite_i (fun c1 => ?_) (fun c1 => ?_)
  · replace h := of_ifp h c1
    refine ite_i (fun c2 => ?_) (fun c2 => ?_)
    · replace h := of_ifp h c2
      exact e_X5_isSpelled_28 hD  _ _ _ _ _ _ _ _ hs (by first | assumption | exact st_stock (by assumption) | exact rn_site (by assumption) | decide) h
    · replace h := of_ifn h c2
      exact ret_i h
  · replace h := of_ifn h c1
    exact ret_i h
theorem f_X5_isSpelled {X : Sx} {l : Launch} {x1 : Nat} {x2 : Int32} {x3 : Int32} {σ : AH} {v : Int32} {σ' : AH} (hs : Sh σ) (hmx1 : x1 < 12) (h : F_X5_isSpelled x1 x2 x3 σ = some (v, σ')) : Call X l m_X5_isSpelled 7 [.ref 22, .ref (1000001 + x1), .int x2, .int x3] σ (some (.int v)) σ' :=
  Call.ofE ok_X5_isSpelled rfl (Nat.le_of_ble_eq_true rfl) (w_X5_isSpelled_0 hs hmx1 (t_X5_isSpelled_0 (Nat.le_refl _) hs hmx1 h))
def F_X5_wordIn_57 (k_X5_wordIn_7 : Nat → Int32 → Int32 → Int32 → AH → Option (Int32 × AH)) (x1 : Nat) (x2 : Int32) (x3 : Int32) (x4 : Int32) (σ : AH) : Option (Int32 × AH) := (k_X5_wordIn_7 x1 x2 x3 (x4 + 1) σ)
def F_X5_wordIn_36 (k_X5_wordIn_7 : Nat → Int32 → Int32 → Int32 → AH → Option (Int32 × AH)) (x1 : Nat) (x2 : Int32) (x3 : Int32) (x4 : Int32) (σ : AH) : Option (Int32 × AH) := (bd (F_X5_isSpelled x1 x3 x4 σ) fun v24 σ20 => (if v24 = 0 then (F_X5_wordIn_57 k_X5_wordIn_7 x1 (x2 + 1) (x4 + (1 : Int32)) x4 σ20) else (some (x2, σ20))))
def B_X5_wordIn_7 (k_X5_wordIn_7 : Nat → Int32 → Int32 → Int32 → AH → Option (Int32 × AH)) (x1 : Nat) (x2 : Int32) (x3 : Int32) (x4 : Int32) (σ : AH) : Option (Int32 × AH) := (bd (F_J0_length_8abf5 x1 σ) fun v6 σ2 => (if v6 < x4 then (some ((-1 : Int32), σ2)) else (bd (F_J0_length_8abf5 x1 σ2) fun v12 σ8 => (if x4 = v12 then (F_X5_wordIn_36 k_X5_wordIn_7 x1 x2 x3 x4 σ8) else (bd (F_J0_charAt_5068e x1 x4 σ8) fun v18 σ14 => (if v18 = (32 : Int32) then (F_X5_wordIn_36 k_X5_wordIn_7 x1 x2 x3 x4 σ14) else (F_X5_wordIn_57 k_X5_wordIn_7 x1 x2 x3 x4 σ14)))))))
def F_X5_wordIn_7 : Nat → Nat → Int32 → Int32 → Int32 → AH → Option (Int32 × AH) := fun k => match k with | 0 => fun _ _ _ _ _ => none | k + 1 => B_X5_wordIn_7 (F_X5_wordIn_7 k)
def F_X5_wordIn (x1 : Nat) (σ : AH) : Option (Int32 × AH) := (F_X5_wordIn_7 BIG x1 (0 : Int32) (0 : Int32) (0 : Int32) σ)
set_option maxRecDepth 100000 in
theorem t_X5_wordIn_57 {X : Sx} {l : Launch} {D : Nat} {k_X5_wordIn_7 : Nat → Int32 → Int32 → Int32 → AH → Option (Int32 × AH)} {x1 : Nat} {x2 : Int32} {x3 : Int32} {x4 : Int32} {σ : AH} {v : Int32} {σ' : AH} (hD : 8 ≤ D) (hk_X5_wordIn_7 : ∀ (x1 : Nat) (x2 : Int32) (x3 : Int32) (x4 : Int32) (σ : AH) (v : Int32) (σ' : AH), Sh σ → x1 < 12 → k_X5_wordIn_7 x1 x2 x3 x4 σ = some (v, σ') → E X l m_X5_wordIn D 7 [(0, .ref 22), (1, .ref (1000001 + x1)), (2, .int x2), (3, .int x3), (4, .int x4)] [] σ (some (.int v)) σ') (hs : Sh σ) (hmx1 : x1 < 12) (h : F_X5_wordIn_57 k_X5_wordIn_7 x1 x2 x3 x4 σ = some (v, σ')) : W_X5_wordIn_57 X l D x1 x2 x3 x4 σ (some (.int v)) σ' := by
  unfold F_X5_wordIn_57 at h
  unfold W_X5_wordIn_57
  exact hk_X5_wordIn_7 _ _ _ _ _ _ _ hs (by first | assumption | exact st_stock (by assumption) | exact rn_site (by assumption) | decide) h
set_option maxRecDepth 100000 in
theorem t_X5_wordIn_36 {X : Sx} {l : Launch} {D : Nat} {k_X5_wordIn_7 : Nat → Int32 → Int32 → Int32 → AH → Option (Int32 × AH)} {x1 : Nat} {x2 : Int32} {x3 : Int32} {x4 : Int32} {σ : AH} {v : Int32} {σ' : AH} (hD : 8 ≤ D) (hk_X5_wordIn_7 : ∀ (x1 : Nat) (x2 : Int32) (x3 : Int32) (x4 : Int32) (σ : AH) (v : Int32) (σ' : AH), Sh σ → x1 < 12 → k_X5_wordIn_7 x1 x2 x3 x4 σ = some (v, σ') → E X l m_X5_wordIn D 7 [(0, .ref 22), (1, .ref (1000001 + x1)), (2, .int x2), (3, .int x3), (4, .int x4)] [] σ (some (.int v)) σ') (hs : Sh σ) (hmx1 : x1 < 12) (h : F_X5_wordIn_36 k_X5_wordIn_7 x1 x2 x3 x4 σ = some (v, σ')) : W_X5_wordIn_36 X l D x1 x2 x3 x4 σ (some (.int v)) σ' := by
  unfold F_X5_wordIn_36 at h
  unfold W_X5_wordIn_36
  obtain ⟨v24, σ20, q1, h⟩ := of_bd h
  have hC2 := f_X5_isSpelled (σ := σ) hs (by first | assumption | exact st_stock (by assumption) | exact rn_site (by assumption) | decide) q1 (X := X) (l := l)
  have hs3 := hC2.1.2.2.2.1 hs
  refine ⟨7, v24, σ20, (Nat.le_trans (by decide) hD), hC2, ?_⟩
  refine ite_i (fun c4 => ?_) (fun c4 => ?_)
  · replace h := of_ifp h c4
    exact t_X5_wordIn_57 hD hk_X5_wordIn_7 hs3 (by first | assumption | exact st_stock (by assumption) | exact rn_site (by assumption) | decide) h
  · replace h := of_ifn h c4
    exact ret_i h
set_option maxRecDepth 100000 in
theorem t_X5_wordIn_7 {X : Sx} {l : Launch} {D : Nat} {k_X5_wordIn_7 : Nat → Int32 → Int32 → Int32 → AH → Option (Int32 × AH)} {x1 : Nat} {x2 : Int32} {x3 : Int32} {x4 : Int32} {σ : AH} {v : Int32} {σ' : AH} (hD : 8 ≤ D) (hk_X5_wordIn_7 : ∀ (x1 : Nat) (x2 : Int32) (x3 : Int32) (x4 : Int32) (σ : AH) (v : Int32) (σ' : AH), Sh σ → x1 < 12 → k_X5_wordIn_7 x1 x2 x3 x4 σ = some (v, σ') → E X l m_X5_wordIn D 7 [(0, .ref 22), (1, .ref (1000001 + x1)), (2, .int x2), (3, .int x3), (4, .int x4)] [] σ (some (.int v)) σ') (hs : Sh σ) (hmx1 : x1 < 12) (h : B_X5_wordIn_7 k_X5_wordIn_7 x1 x2 x3 x4 σ = some (v, σ')) : W_X5_wordIn_7 X l D x1 x2 x3 x4 σ (some (.int v)) σ' := by
  unfold B_X5_wordIn_7 at h
  unfold W_X5_wordIn_7
  obtain ⟨v6, σ2, q1, h⟩ := of_bd h
  have hC2 := f_J0_length_8abf5 (by first | assumption | exact st_stock (by assumption) | exact rn_site (by assumption) | decide) q1 (X := X) (l := l)
  have hs3 := hC2.1.2.2.2.1 hs
  refine ⟨3, v6, σ2, (Nat.le_trans (by decide) hD), hC2, ?_⟩
  refine ite_i (fun c4 => ?_) (fun c4 => ?_)
  · replace h := of_ifp h c4
    exact ret_i h
  · replace h := of_ifn h c4
    obtain ⟨v12, σ8, q5, h⟩ := of_bd h
    have hC6 := f_J0_length_8abf5 (by first | assumption | exact st_stock (by assumption) | exact rn_site (by assumption) | decide) q5 (X := X) (l := l)
    have hs7 := hC6.1.2.2.2.1 hs3
    refine ⟨3, v12, σ8, (Nat.le_trans (by decide) hD), hC6, ?_⟩
    refine ite_i (fun c8 => ?_) (fun c8 => ?_)
    · replace h := of_ifp h c8
      exact t_X5_wordIn_36 hD hk_X5_wordIn_7 hs7 (by first | assumption | exact st_stock (by assumption) | exact rn_site (by assumption) | decide) h
    · replace h := of_ifn h c8
      obtain ⟨v18, σ14, q9, h⟩ := of_bd h
      have hC10 := f_J0_charAt_5068e (by first | assumption | exact st_stock (by assumption) | exact rn_site (by assumption) | decide) q9 (X := X) (l := l)
      have hs11 := hC10.1.2.2.2.1 hs7
      refine ⟨6, v18, σ14, (Nat.le_trans (by decide) hD), hC10, ?_⟩
      refine ite_i (fun c12 => ?_) (fun c12 => ?_)
      · replace h := of_ifp h c12
        exact t_X5_wordIn_36 hD hk_X5_wordIn_7 hs11 (by first | assumption | exact st_stock (by assumption) | exact rn_site (by assumption) | decide) h
      · replace h := of_ifn h c12
        exact t_X5_wordIn_57 hD hk_X5_wordIn_7 hs11 (by first | assumption | exact st_stock (by assumption) | exact rn_site (by assumption) | decide) h
theorem e_X5_wordIn_7 {X : Sx} {l : Launch} {D : Nat} (hD : 8 ≤ D) : ∀ (k : Nat) (x1 : Nat) (x2 : Int32) (x3 : Int32) (x4 : Int32) (σ : AH) (v : Int32) (σ' : AH), Sh σ → x1 < 12 → F_X5_wordIn_7 k x1 x2 x3 x4 σ = some (v, σ') → E X l m_X5_wordIn D 7 [(0, .ref 22), (1, .ref (1000001 + x1)), (2, .int x2), (3, .int x3), (4, .int x4)] [] σ (some (.int v)) σ' := by
  intro k
  induction k with
  | zero => intro x1 x2 x3 x4 σ v σ' hs hmx1 h; cases h
  | succ k ih =>
    intro x1 x2 x3 x4 σ v σ' hs hmx1 h
    exact w_X5_wordIn_7 hs hmx1 (t_X5_wordIn_7 hD ih hs hmx1 h)
set_option maxRecDepth 100000 in
theorem t_X5_wordIn_0 {X : Sx} {l : Launch} {D : Nat} {x1 : Nat} {σ : AH} {v : Int32} {σ' : AH} (hD : 8 ≤ D) (hs : Sh σ) (hmx1 : x1 < 12) (h : F_X5_wordIn x1 σ = some (v, σ')) : W_X5_wordIn_0 X l D x1 σ (some (.int v)) σ' := by
  unfold F_X5_wordIn at h
  unfold W_X5_wordIn_0
  exact e_X5_wordIn_7 hD  _ _ _ _ _ _ _ _ hs (by first | assumption | exact st_stock (by assumption) | exact rn_site (by assumption) | decide) h
theorem f_X5_wordIn {X : Sx} {l : Launch} {x1 : Nat} {σ : AH} {v : Int32} {σ' : AH} (hs : Sh σ) (hmx1 : x1 < 12) (h : F_X5_wordIn x1 σ = some (v, σ')) : Call X l m_X5_wordIn 8 [.ref 22, .ref (1000001 + x1)] σ (some (.int v)) σ' :=
  Call.ofE ok_X5_wordIn rfl (Nat.le_of_ble_eq_true rfl) (w_X5_wordIn_0 hs hmx1 (t_X5_wordIn_0 (Nat.le_refl _) hs hmx1 h))
def F_X5_isWord (x1 : Nat) (σ : AH) : Option (Int32 × AH) := (bd (F_X5_wordIn x1 σ) fun v6 σ2 => (if v6 = 0 then (some ((1 : Int32), σ2)) else (some ((0 : Int32), σ2))))
set_option maxRecDepth 100000 in
theorem t_X5_isWord_0 {X : Sx} {l : Launch} {D : Nat} {x1 : Nat} {σ : AH} {v : Int32} {σ' : AH} (hD : 9 ≤ D) (hs : Sh σ) (hmx1 : x1 < 12) (h : F_X5_isWord x1 σ = some (v, σ')) : W_X5_isWord_0 X l D x1 σ (some (.int v)) σ' := by
  unfold F_X5_isWord at h
  unfold W_X5_isWord_0
  obtain ⟨v6, σ2, q1, h⟩ := of_bd h
  have hC2 := f_X5_wordIn (σ := σ) hs (by first | assumption | exact st_stock (by assumption) | exact rn_site (by assumption) | decide) q1 (X := X) (l := l)
  have hs3 := hC2.1.2.2.2.1 hs
  refine ⟨8, v6, σ2, (Nat.le_trans (by decide) hD), hC2, ?_⟩
  refine ite_i (fun c4 => ?_) (fun c4 => ?_)
  · replace h := of_ifp h c4
    exact ret_i h
  · replace h := of_ifn h c4
    exact ret_i h
theorem f_X5_isWord {X : Sx} {l : Launch} {x1 : Nat} {σ : AH} {v : Int32} {σ' : AH} (hs : Sh σ) (hmx1 : x1 < 12) (h : F_X5_isWord x1 σ = some (v, σ')) : Call X l m_X5_isWord 9 [.ref 22, .ref (1000001 + x1)] σ (some (.int v)) σ' :=
  Call.ofE ok_X5_isWord rfl (Nat.le_of_ble_eq_true rfl) (w_X5_isWord_0 hs hmx1 (t_X5_isWord_0 (Nat.le_refl _) hs hmx1 h))
def B_X5_readTest_12 (c_X5_readBoth : Int32 → AH → Option (Int32 × AH)) (k_X5_readTest_12 : Int32 → Int32 → AH → Option (Int32 × AH)) (x1 : Int32) (x2 : Int32) (σ : AH) : Option (Int32 × AH) := (if (400 : Int32) ≤ x2 then (some ((1 : Int32), σ)) else (bd (F_X5_isWord 11 σ) fun v12 σ8 => (if v12 = 0 then (some ((1 : Int32), σ8)) else (bv (F_X5_step σ8) fun σ14 => (bv (F_X5_emit (13 : Int32) (0 : Int32) σ14) fun σ19 => (bd (c_X5_readBoth x1 σ19) fun v28 σ24 => (if v28 = 0 then (some ((0 : Int32), σ24)) else (if inB (gI σ14 22 7) 400 = true then (k_X5_readTest_12 x1 (x2 + 1) (sI σ24 27 ((gI σ14 22 7).toNatClampNeg) ((13 : Int32) ||| ((gI σ24 22 7) <<< ((4 : Int32) &&& 31))))) else none))))))))
def F_X5_readTest_12 (c_X5_readBoth : Int32 → AH → Option (Int32 × AH)) : Nat → Int32 → Int32 → AH → Option (Int32 × AH) := fun k => match k with | 0 => fun _ _ _ => none | k + 1 => B_X5_readTest_12 c_X5_readBoth (F_X5_readTest_12 c_X5_readBoth k)
def F_X5_readTest (c_X5_readBoth : Int32 → AH → Option (Int32 × AH)) (x1 : Int32) (σ : AH) : Option (Int32 × AH) := (bd (c_X5_readBoth x1 σ) fun v6 σ2 => (if v6 = 0 then (some ((0 : Int32), σ2)) else (F_X5_readTest_12 c_X5_readBoth BIG x1 (0 : Int32) σ2)))
set_option maxRecDepth 100000 in
theorem t_X5_readTest_12 {X : Sx} {l : Launch} {D : Nat} {c_X5_readBoth : Int32 → AH → Option (Int32 × AH)} {k_X5_readTest_12 : Int32 → Int32 → AH → Option (Int32 × AH)} {x1 : Int32} {x2 : Int32} {σ : AH} {v : Int32} {σ' : AH} (hD : 10 ≤ D) {d : Nat} (hd : d + 1 ≤ D) (hc_X5_readBoth : ∀ (x1 : Int32) (σ : AH) (v : Int32) (σ' : AH), Sh σ → c_X5_readBoth x1 σ = some (v, σ') → Call X l m_X5_readBoth d [.ref 22, .int x1] σ (some (.int v)) σ') (hk_X5_readTest_12 : ∀ (x1 : Int32) (x2 : Int32) (σ : AH) (v : Int32) (σ' : AH), Sh σ → k_X5_readTest_12 x1 x2 σ = some (v, σ') → E X l m_X5_readTest D 12 [(0, .ref 22), (1, .int x1), (2, .int x2)] [] σ (some (.int v)) σ') (hs : Sh σ) (h : B_X5_readTest_12 c_X5_readBoth k_X5_readTest_12 x1 x2 σ = some (v, σ')) : W_X5_readTest_12 X l D x1 x2 σ (some (.int v)) σ' := by
  unfold B_X5_readTest_12 at h
  unfold W_X5_readTest_12
  refine ite_i (fun c1 => ?_) (fun c1 => ?_)
  · replace h := of_ifp h c1
    exact ret_i h
  · replace h := of_ifn h c1
    obtain ⟨v12, σ8, q2, h⟩ := of_bd h
    have hC3 := f_X5_isWord (σ := σ) hs (by first | assumption | exact st_stock (by assumption) | exact rn_site (by assumption) | decide) q2 (X := X) (l := l)
    have hs4 := hC3.1.2.2.2.1 hs
    refine ⟨9, v12, σ8, (Nat.le_trans (by decide) hD), hC3, ?_⟩
    refine ite_i (fun c5 => ?_) (fun c5 => ?_)
    · replace h := of_ifp h c5
      exact ret_i h
    · replace h := of_ifn h c5
      obtain ⟨σ14, q6, h⟩ := of_bv h
      have hC7 := f_X5_step (σ := σ8) hs4  q6 (X := X) (l := l)
      have hs8 := hC7.1.2.2.2.1 hs4
      refine ⟨1, σ14, (Nat.le_trans (by decide) hD), hC7, ?_⟩
      obtain ⟨σ19, q9, h⟩ := of_bv h
      have hC10 := f_X5_emit (σ := σ14) hs8  q9 (X := X) (l := l)
      have hs11 := hC10.1.2.2.2.1 hs8
      refine ⟨0, σ19, (Nat.le_trans (by decide) hD), hC10, ?_⟩
      obtain ⟨v28, σ24, q12, h⟩ := of_bd h
      have hC13 := hc_X5_readBoth _ _ _ _ hs11  q12
      have hs14 := hC13.1.2.2.2.1 hs11
      refine ⟨d, v28, σ24, hd, hC13, ?_⟩
      refine ite_i (fun c15 => ?_) (fun c15 => ?_)
      · replace h := of_ifp h c15
        exact ret_i h
      · replace h := of_ifn h c15
        obtain ⟨g16, h⟩ := of_gd h
        refine ⟨(inB_mp g16), ?_⟩
        exact hk_X5_readTest_12 _ _ _ _ _ hs14  h
theorem e_X5_readTest_12 {X : Sx} {l : Launch} {D : Nat} {c_X5_readBoth : Int32 → AH → Option (Int32 × AH)} (hD : 10 ≤ D) {d : Nat} (hd : d + 1 ≤ D) (hc_X5_readBoth : ∀ (x1 : Int32) (σ : AH) (v : Int32) (σ' : AH), Sh σ → c_X5_readBoth x1 σ = some (v, σ') → Call X l m_X5_readBoth d [.ref 22, .int x1] σ (some (.int v)) σ') : ∀ (k : Nat) (x1 : Int32) (x2 : Int32) (σ : AH) (v : Int32) (σ' : AH), Sh σ → F_X5_readTest_12 c_X5_readBoth k x1 x2 σ = some (v, σ') → E X l m_X5_readTest D 12 [(0, .ref 22), (1, .int x1), (2, .int x2)] [] σ (some (.int v)) σ' := by
  intro k
  induction k with
  | zero => intro x1 x2 σ v σ' hs h; cases h
  | succ k ih =>
    intro x1 x2 σ v σ' hs h
    exact w_X5_readTest_12 hs  (t_X5_readTest_12 hD hd hc_X5_readBoth ih hs  h)
set_option maxRecDepth 100000 in
theorem t_X5_readTest_0 {X : Sx} {l : Launch} {D : Nat} {c_X5_readBoth : Int32 → AH → Option (Int32 × AH)} {x1 : Int32} {σ : AH} {v : Int32} {σ' : AH} (hD : 10 ≤ D) {d : Nat} (hd : d + 1 ≤ D) (hc_X5_readBoth : ∀ (x1 : Int32) (σ : AH) (v : Int32) (σ' : AH), Sh σ → c_X5_readBoth x1 σ = some (v, σ') → Call X l m_X5_readBoth d [.ref 22, .int x1] σ (some (.int v)) σ') (hs : Sh σ) (h : F_X5_readTest c_X5_readBoth x1 σ = some (v, σ')) : W_X5_readTest_0 X l D x1 σ (some (.int v)) σ' := by
  unfold F_X5_readTest at h
  unfold W_X5_readTest_0
  obtain ⟨v6, σ2, q1, h⟩ := of_bd h
  have hC2 := hc_X5_readBoth _ _ _ _ hs  q1
  have hs3 := hC2.1.2.2.2.1 hs
  refine ⟨d, v6, σ2, hd, hC2, ?_⟩
  refine ite_i (fun c4 => ?_) (fun c4 => ?_)
  · replace h := of_ifp h c4
    exact ret_i h
  · replace h := of_ifn h c4
    exact e_X5_readTest_12 hD hd hc_X5_readBoth _ _ _ _ _ _ hs3  h
theorem f_X5_readTest {X : Sx} {l : Launch} {D : Nat} {c_X5_readBoth : Int32 → AH → Option (Int32 × AH)} {x1 : Int32} {σ : AH} {v : Int32} {σ' : AH} (hD : 10 ≤ D) {d : Nat} (hd : d + 1 ≤ D) (hc_X5_readBoth : ∀ (x1 : Int32) (σ : AH) (v : Int32) (σ' : AH), Sh σ → c_X5_readBoth x1 σ = some (v, σ') → Call X l m_X5_readBoth d [.ref 22, .int x1] σ (some (.int v)) σ') (hs : Sh σ) (h : F_X5_readTest c_X5_readBoth x1 σ = some (v, σ')) : Call X l m_X5_readTest D [.ref 22, .int x1] σ (some (.int v)) σ' :=
  Call.ofE ok_X5_readTest rfl (Nat.le_of_ble_eq_true rfl) (w_X5_readTest_0 hs  (t_X5_readTest_0 hD hd hc_X5_readBoth hs  h))
def B_X5_readBoth_12 (c_X5_readPlain : Int32 → AH → Option (Int32 × AH)) (k_X5_readBoth_12 : Int32 → Int32 → AH → Option (Int32 × AH)) (x1 : Int32) (x2 : Int32) (σ : AH) : Option (Int32 × AH) := (if (400 : Int32) ≤ x2 then (some ((1 : Int32), σ)) else (bd (F_X5_isWord 10 σ) fun v12 σ8 => (if v12 = 0 then (some ((1 : Int32), σ8)) else (bv (F_X5_step σ8) fun σ14 => (bv (F_X5_emit (12 : Int32) (0 : Int32) σ14) fun σ19 => (bd (c_X5_readPlain x1 σ19) fun v28 σ24 => (if v28 = 0 then (some ((0 : Int32), σ24)) else (if inB (gI σ14 22 7) 400 = true then (k_X5_readBoth_12 x1 (x2 + 1) (sI σ24 27 ((gI σ14 22 7).toNatClampNeg) ((12 : Int32) ||| ((gI σ24 22 7) <<< ((4 : Int32) &&& 31))))) else none))))))))
def F_X5_readBoth_12 (c_X5_readPlain : Int32 → AH → Option (Int32 × AH)) : Nat → Int32 → Int32 → AH → Option (Int32 × AH) := fun k => match k with | 0 => fun _ _ _ => none | k + 1 => B_X5_readBoth_12 c_X5_readPlain (F_X5_readBoth_12 c_X5_readPlain k)
def F_X5_readBoth (c_X5_readPlain : Int32 → AH → Option (Int32 × AH)) (x1 : Int32) (σ : AH) : Option (Int32 × AH) := (bd (c_X5_readPlain x1 σ) fun v6 σ2 => (if v6 = 0 then (some ((0 : Int32), σ2)) else (F_X5_readBoth_12 c_X5_readPlain BIG x1 (0 : Int32) σ2)))
set_option maxRecDepth 100000 in
theorem t_X5_readBoth_12 {X : Sx} {l : Launch} {D : Nat} {c_X5_readPlain : Int32 → AH → Option (Int32 × AH)} {k_X5_readBoth_12 : Int32 → Int32 → AH → Option (Int32 × AH)} {x1 : Int32} {x2 : Int32} {σ : AH} {v : Int32} {σ' : AH} (hD : 10 ≤ D) {d : Nat} (hd : d + 1 ≤ D) (hc_X5_readPlain : ∀ (x1 : Int32) (σ : AH) (v : Int32) (σ' : AH), Sh σ → c_X5_readPlain x1 σ = some (v, σ') → Call X l m_X5_readPlain d [.ref 22, .int x1] σ (some (.int v)) σ') (hk_X5_readBoth_12 : ∀ (x1 : Int32) (x2 : Int32) (σ : AH) (v : Int32) (σ' : AH), Sh σ → k_X5_readBoth_12 x1 x2 σ = some (v, σ') → E X l m_X5_readBoth D 12 [(0, .ref 22), (1, .int x1), (2, .int x2)] [] σ (some (.int v)) σ') (hs : Sh σ) (h : B_X5_readBoth_12 c_X5_readPlain k_X5_readBoth_12 x1 x2 σ = some (v, σ')) : W_X5_readBoth_12 X l D x1 x2 σ (some (.int v)) σ' := by
  unfold B_X5_readBoth_12 at h
  unfold W_X5_readBoth_12
  refine ite_i (fun c1 => ?_) (fun c1 => ?_)
  · replace h := of_ifp h c1
    exact ret_i h
  · replace h := of_ifn h c1
    obtain ⟨v12, σ8, q2, h⟩ := of_bd h
    have hC3 := f_X5_isWord (σ := σ) hs (by first | assumption | exact st_stock (by assumption) | exact rn_site (by assumption) | decide) q2 (X := X) (l := l)
    have hs4 := hC3.1.2.2.2.1 hs
    refine ⟨9, v12, σ8, (Nat.le_trans (by decide) hD), hC3, ?_⟩
    refine ite_i (fun c5 => ?_) (fun c5 => ?_)
    · replace h := of_ifp h c5
      exact ret_i h
    · replace h := of_ifn h c5
      obtain ⟨σ14, q6, h⟩ := of_bv h
      have hC7 := f_X5_step (σ := σ8) hs4  q6 (X := X) (l := l)
      have hs8 := hC7.1.2.2.2.1 hs4
      refine ⟨1, σ14, (Nat.le_trans (by decide) hD), hC7, ?_⟩
      obtain ⟨σ19, q9, h⟩ := of_bv h
      have hC10 := f_X5_emit (σ := σ14) hs8  q9 (X := X) (l := l)
      have hs11 := hC10.1.2.2.2.1 hs8
      refine ⟨0, σ19, (Nat.le_trans (by decide) hD), hC10, ?_⟩
      obtain ⟨v28, σ24, q12, h⟩ := of_bd h
      have hC13 := hc_X5_readPlain _ _ _ _ hs11  q12
      have hs14 := hC13.1.2.2.2.1 hs11
      refine ⟨d, v28, σ24, hd, hC13, ?_⟩
      refine ite_i (fun c15 => ?_) (fun c15 => ?_)
      · replace h := of_ifp h c15
        exact ret_i h
      · replace h := of_ifn h c15
        obtain ⟨g16, h⟩ := of_gd h
        refine ⟨(inB_mp g16), ?_⟩
        exact hk_X5_readBoth_12 _ _ _ _ _ hs14  h
theorem e_X5_readBoth_12 {X : Sx} {l : Launch} {D : Nat} {c_X5_readPlain : Int32 → AH → Option (Int32 × AH)} (hD : 10 ≤ D) {d : Nat} (hd : d + 1 ≤ D) (hc_X5_readPlain : ∀ (x1 : Int32) (σ : AH) (v : Int32) (σ' : AH), Sh σ → c_X5_readPlain x1 σ = some (v, σ') → Call X l m_X5_readPlain d [.ref 22, .int x1] σ (some (.int v)) σ') : ∀ (k : Nat) (x1 : Int32) (x2 : Int32) (σ : AH) (v : Int32) (σ' : AH), Sh σ → F_X5_readBoth_12 c_X5_readPlain k x1 x2 σ = some (v, σ') → E X l m_X5_readBoth D 12 [(0, .ref 22), (1, .int x1), (2, .int x2)] [] σ (some (.int v)) σ' := by
  intro k
  induction k with
  | zero => intro x1 x2 σ v σ' hs h; cases h
  | succ k ih =>
    intro x1 x2 σ v σ' hs h
    exact w_X5_readBoth_12 hs  (t_X5_readBoth_12 hD hd hc_X5_readPlain ih hs  h)
set_option maxRecDepth 100000 in
theorem t_X5_readBoth_0 {X : Sx} {l : Launch} {D : Nat} {c_X5_readPlain : Int32 → AH → Option (Int32 × AH)} {x1 : Int32} {σ : AH} {v : Int32} {σ' : AH} (hD : 10 ≤ D) {d : Nat} (hd : d + 1 ≤ D) (hc_X5_readPlain : ∀ (x1 : Int32) (σ : AH) (v : Int32) (σ' : AH), Sh σ → c_X5_readPlain x1 σ = some (v, σ') → Call X l m_X5_readPlain d [.ref 22, .int x1] σ (some (.int v)) σ') (hs : Sh σ) (h : F_X5_readBoth c_X5_readPlain x1 σ = some (v, σ')) : W_X5_readBoth_0 X l D x1 σ (some (.int v)) σ' := by
  unfold F_X5_readBoth at h
  unfold W_X5_readBoth_0
  obtain ⟨v6, σ2, q1, h⟩ := of_bd h
  have hC2 := hc_X5_readPlain _ _ _ _ hs  q1
  have hs3 := hC2.1.2.2.2.1 hs
  refine ⟨d, v6, σ2, hd, hC2, ?_⟩
  refine ite_i (fun c4 => ?_) (fun c4 => ?_)
  · replace h := of_ifp h c4
    exact ret_i h
  · replace h := of_ifn h c4
    exact e_X5_readBoth_12 hD hd hc_X5_readPlain _ _ _ _ _ _ hs3  h
theorem f_X5_readBoth {X : Sx} {l : Launch} {D : Nat} {c_X5_readPlain : Int32 → AH → Option (Int32 × AH)} {x1 : Int32} {σ : AH} {v : Int32} {σ' : AH} (hD : 10 ≤ D) {d : Nat} (hd : d + 1 ≤ D) (hc_X5_readPlain : ∀ (x1 : Int32) (σ : AH) (v : Int32) (σ' : AH), Sh σ → c_X5_readPlain x1 σ = some (v, σ') → Call X l m_X5_readPlain d [.ref 22, .int x1] σ (some (.int v)) σ') (hs : Sh σ) (h : F_X5_readBoth c_X5_readPlain x1 σ = some (v, σ')) : Call X l m_X5_readBoth D [.ref 22, .int x1] σ (some (.int v)) σ' :=
  Call.ofE ok_X5_readBoth rfl (Nat.le_of_ble_eq_true rfl) (w_X5_readBoth_0 hs  (t_X5_readBoth_0 hD hd hc_X5_readPlain hs  h))
def F_X5_isSign (x1 : Int32) (σ : AH) : Option (Int32 × AH) := (if (gI σ 22 11) = (3 : Int32) then (if inB (gI σ 22 9) 400 = true then (if (gI σ 23 (gI σ 22 9).toNatClampNeg) = x1 then (some ((1 : Int32), σ)) else (some ((0 : Int32), σ))) else none) else (some ((0 : Int32), σ)))
set_option maxRecDepth 100000 in
theorem t_X5_isSign_0 {X : Sx} {l : Launch} {D : Nat} {x1 : Int32} {σ : AH} {v : Int32} {σ' : AH} (hD : 0 ≤ D) (hs : Sh σ) (h : F_X5_isSign x1 σ = some (v, σ')) : W_X5_isSign_0 X l D x1 σ (some (.int v)) σ' := by
  unfold F_X5_isSign at h
  unfold W_X5_isSign_0
  refine ite_i (fun c1 => ?_) (fun c1 => ?_)
  · replace h := of_ifp h c1
    obtain ⟨g2, h⟩ := of_gd h
    refine ⟨(inB_mp g2), ?_⟩
    refine ite_i (fun c3 => ?_) (fun c3 => ?_)
    · replace h := of_ifp h c3
      exact ret_i h
    · replace h := of_ifn h c3
      exact ret_i h
  · replace h := of_ifn h c1
    exact ret_i h
theorem f_X5_isSign {X : Sx} {l : Launch} {x1 : Int32} {σ : AH} {v : Int32} {σ' : AH} (hs : Sh σ) (h : F_X5_isSign x1 σ = some (v, σ')) : Call X l m_X5_isSign 0 [.ref 22, .int x1] σ (some (.int v)) σ' :=
  Call.ofE ok_X5_isSign rfl (Nat.le_of_ble_eq_true rfl) (w_X5_isSign_0 hs  (t_X5_isSign_0 (Nat.le_refl _) hs  h))
def F_X5_readPlain_140 (c_X5_readSum : Int32 → AH → Option (Int32 × AH)) (c_X5_readBracket : Int32 → AH → Option (Int32 × AH)) (x2 : Int32) (σ : AH) : Option (Int32 × AH) := (if x2 = 0 then (some ((1 : Int32), σ)) else (bv (F_X5_emit (11 : Int32) (0 : Int32) σ) fun σ65 => (some ((1 : Int32), σ65))))
def F_X5_readPlain_112 (c_X5_readSum : Int32 → AH → Option (Int32 × AH)) (c_X5_readBracket : Int32 → AH → Option (Int32 × AH)) (x1 : Int32) (x2 : Int32) (y0 : Int32) (σ : AH) : Option (Int32 × AH) := (if y0 = (-1 : Int32) then (some ((0 : Int32), σ)) else (bv (F_X5_step σ) fun σ49 => (bd (c_X5_readSum x1 σ49) fun v58 σ54 => (if v58 = 0 then (some ((0 : Int32), σ54)) else (bv (F_X5_emit y0 (0 : Int32) σ54) fun σ60 => (F_X5_readPlain_140 c_X5_readSum c_X5_readBracket x2 σ60))))))
def F_X5_readPlain_40 (c_X5_readSum : Int32 → AH → Option (Int32 × AH)) (c_X5_readBracket : Int32 → AH → Option (Int32 × AH)) (x1 : Int32) (x2 : Int32) (σ : AH) : Option (Int32 × AH) := (bd (F_X5_isSign (40 : Int32) σ) fun v17 σ13 => (if v17 = 0 then (bd (c_X5_readSum x1 σ13) fun v23 σ19 => (if v23 = 0 then (some ((0 : Int32), σ19)) else (bd (F_X5_isSign (60 : Int32) σ19) fun v29 σ25 => (if v29 = 0 then (bd (F_X5_isSign (62 : Int32) σ25) fun v35 σ31 => (if v35 = 0 then (bd (F_X5_isSign (61 : Int32) σ31) fun v41 σ37 => (if v41 = 0 then (F_X5_readPlain_112 c_X5_readSum c_X5_readBracket x1 x2 (-1 : Int32) σ37) else (F_X5_readPlain_112 c_X5_readSum c_X5_readBracket x1 x2 (10 : Int32) σ37))) else (F_X5_readPlain_112 c_X5_readSum c_X5_readBracket x1 x2 (9 : Int32) σ31))) else (F_X5_readPlain_112 c_X5_readSum c_X5_readBracket x1 x2 (8 : Int32) σ25))))) else (bd (c_X5_readBracket x1 σ13) fun v47 σ43 => (if v47 = 0 then (some ((0 : Int32), σ43)) else (F_X5_readPlain_140 c_X5_readSum c_X5_readBracket x2 σ43)))))
def F_X5_readPlain_33 (c_X5_readSum : Int32 → AH → Option (Int32 × AH)) (c_X5_readBracket : Int32 → AH → Option (Int32 × AH)) (k_X5_readPlain_4 : Int32 → Int32 → Int32 → AH → Option (Int32 × AH)) (x1 : Int32) (x3 : Int32) (y0 : Int32) (σ : AH) : Option (Int32 × AH) := (k_X5_readPlain_4 x1 y0 (x3 + 1) σ)
def B_X5_readPlain_4 (c_X5_readSum : Int32 → AH → Option (Int32 × AH)) (c_X5_readBracket : Int32 → AH → Option (Int32 × AH)) (k_X5_readPlain_4 : Int32 → Int32 → Int32 → AH → Option (Int32 × AH)) (x1 : Int32) (x2 : Int32) (x3 : Int32) (σ : AH) : Option (Int32 × AH) := (if (400 : Int32) ≤ x3 then (F_X5_readPlain_40 c_X5_readSum c_X5_readBracket x1 x2 σ) else (bd (F_X5_isWord 9 σ) fun v6 σ2 => (if v6 = 0 then (F_X5_readPlain_40 c_X5_readSum c_X5_readBracket x1 x2 σ2) else (bv (F_X5_step σ2) fun σ8 => (if x2 = 0 then (F_X5_readPlain_33 c_X5_readSum c_X5_readBracket k_X5_readPlain_4 x1 x3 (1 : Int32) σ8) else (F_X5_readPlain_33 c_X5_readSum c_X5_readBracket k_X5_readPlain_4 x1 x3 (0 : Int32) σ8))))))
def F_X5_readPlain_4 (c_X5_readSum : Int32 → AH → Option (Int32 × AH)) (c_X5_readBracket : Int32 → AH → Option (Int32 × AH)) : Nat → Int32 → Int32 → Int32 → AH → Option (Int32 × AH) := fun k => match k with | 0 => fun _ _ _ _ => none | k + 1 => B_X5_readPlain_4 c_X5_readSum c_X5_readBracket (F_X5_readPlain_4 c_X5_readSum c_X5_readBracket k)
def F_X5_readPlain (c_X5_readSum : Int32 → AH → Option (Int32 × AH)) (c_X5_readBracket : Int32 → AH → Option (Int32 × AH)) (x1 : Int32) (σ : AH) : Option (Int32 × AH) := (F_X5_readPlain_4 c_X5_readSum c_X5_readBracket BIG x1 (0 : Int32) (0 : Int32) σ)
set_option maxRecDepth 100000 in
theorem t_X5_readPlain_140 {X : Sx} {l : Launch} {D : Nat} {c_X5_readSum : Int32 → AH → Option (Int32 × AH)} {c_X5_readBracket : Int32 → AH → Option (Int32 × AH)} {x2 : Int32} {σ : AH} {v : Int32} {σ' : AH} (hD : 10 ≤ D) {d : Nat} (hd : d + 1 ≤ D) (hc_X5_readSum : ∀ (x1 : Int32) (σ : AH) (v : Int32) (σ' : AH), Sh σ → c_X5_readSum x1 σ = some (v, σ') → Call X l m_X5_readSum d [.ref 22, .int x1] σ (some (.int v)) σ') (hc_X5_readBracket : ∀ (x1 : Int32) (σ : AH) (v : Int32) (σ' : AH), Sh σ → c_X5_readBracket x1 σ = some (v, σ') → Call X l m_X5_readBracket d [.ref 22, .int x1] σ (some (.int v)) σ') (hs : Sh σ) (h : F_X5_readPlain_140 c_X5_readSum c_X5_readBracket x2 σ = some (v, σ')) : W_X5_readPlain_140 X l D x2 σ (some (.int v)) σ' := by
  unfold F_X5_readPlain_140 at h
  unfold W_X5_readPlain_140
  refine ite_i (fun c1 => ?_) (fun c1 => ?_)
  · replace h := of_ifp h c1
    exact ret_i h
  · replace h := of_ifn h c1
    obtain ⟨σ65, q2, h⟩ := of_bv h
    have hC3 := f_X5_emit (σ := σ) hs  q2 (X := X) (l := l)
    have hs4 := hC3.1.2.2.2.1 hs
    refine ⟨0, σ65, (Nat.le_trans (by decide) hD), hC3, ?_⟩
    exact ret_i h
set_option maxRecDepth 100000 in
theorem t_X5_readPlain_112 {X : Sx} {l : Launch} {D : Nat} {c_X5_readSum : Int32 → AH → Option (Int32 × AH)} {c_X5_readBracket : Int32 → AH → Option (Int32 × AH)} {x1 : Int32} {x2 : Int32} {y0 : Int32} {σ : AH} {v : Int32} {σ' : AH} (hD : 10 ≤ D) {d : Nat} (hd : d + 1 ≤ D) (hc_X5_readSum : ∀ (x1 : Int32) (σ : AH) (v : Int32) (σ' : AH), Sh σ → c_X5_readSum x1 σ = some (v, σ') → Call X l m_X5_readSum d [.ref 22, .int x1] σ (some (.int v)) σ') (hc_X5_readBracket : ∀ (x1 : Int32) (σ : AH) (v : Int32) (σ' : AH), Sh σ → c_X5_readBracket x1 σ = some (v, σ') → Call X l m_X5_readBracket d [.ref 22, .int x1] σ (some (.int v)) σ') (hs : Sh σ) (h : F_X5_readPlain_112 c_X5_readSum c_X5_readBracket x1 x2 y0 σ = some (v, σ')) : W_X5_readPlain_112 X l D x1 x2 y0 σ (some (.int v)) σ' := by
  unfold F_X5_readPlain_112 at h
  unfold W_X5_readPlain_112
  refine ite_i (fun c1 => ?_) (fun c1 => ?_)
  · replace h := of_ifp h c1
    exact ret_i h
  · replace h := of_ifn h c1
    obtain ⟨σ49, q2, h⟩ := of_bv h
    have hC3 := f_X5_step (σ := σ) hs  q2 (X := X) (l := l)
    have hs4 := hC3.1.2.2.2.1 hs
    refine ⟨1, σ49, (Nat.le_trans (by decide) hD), hC3, ?_⟩
    obtain ⟨v58, σ54, q5, h⟩ := of_bd h
    have hC6 := hc_X5_readSum _ _ _ _ hs4  q5
    have hs7 := hC6.1.2.2.2.1 hs4
    refine ⟨d, v58, σ54, hd, hC6, ?_⟩
    refine ite_i (fun c8 => ?_) (fun c8 => ?_)
    · replace h := of_ifp h c8
      exact ret_i h
    · replace h := of_ifn h c8
      obtain ⟨σ60, q9, h⟩ := of_bv h
      have hC10 := f_X5_emit (σ := σ54) hs7  q9 (X := X) (l := l)
      have hs11 := hC10.1.2.2.2.1 hs7
      refine ⟨0, σ60, (Nat.le_trans (by decide) hD), hC10, ?_⟩
      exact t_X5_readPlain_140 hD hd hc_X5_readSum hc_X5_readBracket hs11  h
set_option maxRecDepth 100000 in
theorem t_X5_readPlain_40 {X : Sx} {l : Launch} {D : Nat} {c_X5_readSum : Int32 → AH → Option (Int32 × AH)} {c_X5_readBracket : Int32 → AH → Option (Int32 × AH)} {x1 : Int32} {x2 : Int32} {σ : AH} {v : Int32} {σ' : AH} (hD : 10 ≤ D) {d : Nat} (hd : d + 1 ≤ D) (hc_X5_readSum : ∀ (x1 : Int32) (σ : AH) (v : Int32) (σ' : AH), Sh σ → c_X5_readSum x1 σ = some (v, σ') → Call X l m_X5_readSum d [.ref 22, .int x1] σ (some (.int v)) σ') (hc_X5_readBracket : ∀ (x1 : Int32) (σ : AH) (v : Int32) (σ' : AH), Sh σ → c_X5_readBracket x1 σ = some (v, σ') → Call X l m_X5_readBracket d [.ref 22, .int x1] σ (some (.int v)) σ') (hs : Sh σ) (h : F_X5_readPlain_40 c_X5_readSum c_X5_readBracket x1 x2 σ = some (v, σ')) : W_X5_readPlain_40 X l D x1 x2 σ (some (.int v)) σ' := by
  unfold F_X5_readPlain_40 at h
  unfold W_X5_readPlain_40
  obtain ⟨v17, σ13, q1, h⟩ := of_bd h
  have hC2 := f_X5_isSign (σ := σ) hs  q1 (X := X) (l := l)
  have hs3 := hC2.1.2.2.2.1 hs
  refine ⟨0, v17, σ13, (Nat.le_trans (by decide) hD), hC2, ?_⟩
  refine ite_i (fun c4 => ?_) (fun c4 => ?_)
  · replace h := of_ifp h c4
    obtain ⟨v23, σ19, q5, h⟩ := of_bd h
    have hC6 := hc_X5_readSum _ _ _ _ hs3  q5
    have hs7 := hC6.1.2.2.2.1 hs3
    refine ⟨d, v23, σ19, hd, hC6, ?_⟩
    refine ite_i (fun c8 => ?_) (fun c8 => ?_)
    · replace h := of_ifp h c8
      exact ret_i h
    · replace h := of_ifn h c8
      obtain ⟨v29, σ25, q9, h⟩ := of_bd h
      have hC10 := f_X5_isSign (σ := σ19) hs7  q9 (X := X) (l := l)
      have hs11 := hC10.1.2.2.2.1 hs7
      refine ⟨0, v29, σ25, (Nat.le_trans (by decide) hD), hC10, ?_⟩
      refine ite_i (fun c12 => ?_) (fun c12 => ?_)
      · replace h := of_ifp h c12
        obtain ⟨v35, σ31, q13, h⟩ := of_bd h
        have hC14 := f_X5_isSign (σ := σ25) hs11  q13 (X := X) (l := l)
        have hs15 := hC14.1.2.2.2.1 hs11
        refine ⟨0, v35, σ31, (Nat.le_trans (by decide) hD), hC14, ?_⟩
        refine ite_i (fun c16 => ?_) (fun c16 => ?_)
        · replace h := of_ifp h c16
          obtain ⟨v41, σ37, q17, h⟩ := of_bd h
          have hC18 := f_X5_isSign (σ := σ31) hs15  q17 (X := X) (l := l)
          have hs19 := hC18.1.2.2.2.1 hs15
          refine ⟨0, v41, σ37, (Nat.le_trans (by decide) hD), hC18, ?_⟩
          refine ite_i (fun c20 => ?_) (fun c20 => ?_)
          · replace h := of_ifp h c20
            exact t_X5_readPlain_112 hD hd hc_X5_readSum hc_X5_readBracket hs19  h
          · replace h := of_ifn h c20
            exact t_X5_readPlain_112 hD hd hc_X5_readSum hc_X5_readBracket hs19  h
        · replace h := of_ifn h c16
          exact t_X5_readPlain_112 hD hd hc_X5_readSum hc_X5_readBracket hs15  h
      · replace h := of_ifn h c12
        exact t_X5_readPlain_112 hD hd hc_X5_readSum hc_X5_readBracket hs11  h
  · replace h := of_ifn h c4
    obtain ⟨v47, σ43, q21, h⟩ := of_bd h
    have hC22 := hc_X5_readBracket _ _ _ _ hs3  q21
    have hs23 := hC22.1.2.2.2.1 hs3
    refine ⟨d, v47, σ43, hd, hC22, ?_⟩
    refine ite_i (fun c24 => ?_) (fun c24 => ?_)
    · replace h := of_ifp h c24
      exact ret_i h
    · replace h := of_ifn h c24
      exact t_X5_readPlain_140 hD hd hc_X5_readSum hc_X5_readBracket hs23  h
set_option maxRecDepth 100000 in
theorem t_X5_readPlain_33 {X : Sx} {l : Launch} {D : Nat} {c_X5_readSum : Int32 → AH → Option (Int32 × AH)} {c_X5_readBracket : Int32 → AH → Option (Int32 × AH)} {k_X5_readPlain_4 : Int32 → Int32 → Int32 → AH → Option (Int32 × AH)} {x1 : Int32} {x3 : Int32} {y0 : Int32} {σ : AH} {v : Int32} {σ' : AH} (hD : 10 ≤ D) {d : Nat} (hd : d + 1 ≤ D) (hc_X5_readSum : ∀ (x1 : Int32) (σ : AH) (v : Int32) (σ' : AH), Sh σ → c_X5_readSum x1 σ = some (v, σ') → Call X l m_X5_readSum d [.ref 22, .int x1] σ (some (.int v)) σ') (hc_X5_readBracket : ∀ (x1 : Int32) (σ : AH) (v : Int32) (σ' : AH), Sh σ → c_X5_readBracket x1 σ = some (v, σ') → Call X l m_X5_readBracket d [.ref 22, .int x1] σ (some (.int v)) σ') (hk_X5_readPlain_4 : ∀ (x1 : Int32) (x2 : Int32) (x3 : Int32) (σ : AH) (v : Int32) (σ' : AH), Sh σ → k_X5_readPlain_4 x1 x2 x3 σ = some (v, σ') → E X l m_X5_readPlain D 4 [(0, .ref 22), (1, .int x1), (2, .int x2), (3, .int x3)] [] σ (some (.int v)) σ') (hs : Sh σ) (h : F_X5_readPlain_33 c_X5_readSum c_X5_readBracket k_X5_readPlain_4 x1 x3 y0 σ = some (v, σ')) : W_X5_readPlain_33 X l D x1 x3 y0 σ (some (.int v)) σ' := by
  unfold F_X5_readPlain_33 at h
  unfold W_X5_readPlain_33
  exact hk_X5_readPlain_4 _ _ _ _ _ _ hs  h
set_option maxRecDepth 100000 in
theorem t_X5_readPlain_4 {X : Sx} {l : Launch} {D : Nat} {c_X5_readSum : Int32 → AH → Option (Int32 × AH)} {c_X5_readBracket : Int32 → AH → Option (Int32 × AH)} {k_X5_readPlain_4 : Int32 → Int32 → Int32 → AH → Option (Int32 × AH)} {x1 : Int32} {x2 : Int32} {x3 : Int32} {σ : AH} {v : Int32} {σ' : AH} (hD : 10 ≤ D) {d : Nat} (hd : d + 1 ≤ D) (hc_X5_readSum : ∀ (x1 : Int32) (σ : AH) (v : Int32) (σ' : AH), Sh σ → c_X5_readSum x1 σ = some (v, σ') → Call X l m_X5_readSum d [.ref 22, .int x1] σ (some (.int v)) σ') (hc_X5_readBracket : ∀ (x1 : Int32) (σ : AH) (v : Int32) (σ' : AH), Sh σ → c_X5_readBracket x1 σ = some (v, σ') → Call X l m_X5_readBracket d [.ref 22, .int x1] σ (some (.int v)) σ') (hk_X5_readPlain_4 : ∀ (x1 : Int32) (x2 : Int32) (x3 : Int32) (σ : AH) (v : Int32) (σ' : AH), Sh σ → k_X5_readPlain_4 x1 x2 x3 σ = some (v, σ') → E X l m_X5_readPlain D 4 [(0, .ref 22), (1, .int x1), (2, .int x2), (3, .int x3)] [] σ (some (.int v)) σ') (hs : Sh σ) (h : B_X5_readPlain_4 c_X5_readSum c_X5_readBracket k_X5_readPlain_4 x1 x2 x3 σ = some (v, σ')) : W_X5_readPlain_4 X l D x1 x2 x3 σ (some (.int v)) σ' := by
  unfold B_X5_readPlain_4 at h
  unfold W_X5_readPlain_4
  refine ite_i (fun c1 => ?_) (fun c1 => ?_)
  · replace h := of_ifp h c1
    exact t_X5_readPlain_40 hD hd hc_X5_readSum hc_X5_readBracket hs  h
  · replace h := of_ifn h c1
    obtain ⟨v6, σ2, q2, h⟩ := of_bd h
    have hC3 := f_X5_isWord (σ := σ) hs (by first | assumption | exact st_stock (by assumption) | exact rn_site (by assumption) | decide) q2 (X := X) (l := l)
    have hs4 := hC3.1.2.2.2.1 hs
    refine ⟨9, v6, σ2, (Nat.le_trans (by decide) hD), hC3, ?_⟩
    refine ite_i (fun c5 => ?_) (fun c5 => ?_)
    · replace h := of_ifp h c5
      exact t_X5_readPlain_40 hD hd hc_X5_readSum hc_X5_readBracket hs4  h
    · replace h := of_ifn h c5
      obtain ⟨σ8, q6, h⟩ := of_bv h
      have hC7 := f_X5_step (σ := σ2) hs4  q6 (X := X) (l := l)
      have hs8 := hC7.1.2.2.2.1 hs4
      refine ⟨1, σ8, (Nat.le_trans (by decide) hD), hC7, ?_⟩
      refine ite_i (fun c9 => ?_) (fun c9 => ?_)
      · replace h := of_ifp h c9
        exact t_X5_readPlain_33 hD hd hc_X5_readSum hc_X5_readBracket hk_X5_readPlain_4 hs8  h
      · replace h := of_ifn h c9
        exact t_X5_readPlain_33 hD hd hc_X5_readSum hc_X5_readBracket hk_X5_readPlain_4 hs8  h
theorem e_X5_readPlain_4 {X : Sx} {l : Launch} {D : Nat} {c_X5_readSum : Int32 → AH → Option (Int32 × AH)} {c_X5_readBracket : Int32 → AH → Option (Int32 × AH)} (hD : 10 ≤ D) {d : Nat} (hd : d + 1 ≤ D) (hc_X5_readSum : ∀ (x1 : Int32) (σ : AH) (v : Int32) (σ' : AH), Sh σ → c_X5_readSum x1 σ = some (v, σ') → Call X l m_X5_readSum d [.ref 22, .int x1] σ (some (.int v)) σ') (hc_X5_readBracket : ∀ (x1 : Int32) (σ : AH) (v : Int32) (σ' : AH), Sh σ → c_X5_readBracket x1 σ = some (v, σ') → Call X l m_X5_readBracket d [.ref 22, .int x1] σ (some (.int v)) σ') : ∀ (k : Nat) (x1 : Int32) (x2 : Int32) (x3 : Int32) (σ : AH) (v : Int32) (σ' : AH), Sh σ → F_X5_readPlain_4 c_X5_readSum c_X5_readBracket k x1 x2 x3 σ = some (v, σ') → E X l m_X5_readPlain D 4 [(0, .ref 22), (1, .int x1), (2, .int x2), (3, .int x3)] [] σ (some (.int v)) σ' := by
  intro k
  induction k with
  | zero => intro x1 x2 x3 σ v σ' hs h; cases h
  | succ k ih =>
    intro x1 x2 x3 σ v σ' hs h
    exact w_X5_readPlain_4 hs  (t_X5_readPlain_4 hD hd hc_X5_readSum hc_X5_readBracket ih hs  h)
set_option maxRecDepth 100000 in
theorem t_X5_readPlain_0 {X : Sx} {l : Launch} {D : Nat} {c_X5_readSum : Int32 → AH → Option (Int32 × AH)} {c_X5_readBracket : Int32 → AH → Option (Int32 × AH)} {x1 : Int32} {σ : AH} {v : Int32} {σ' : AH} (hD : 10 ≤ D) {d : Nat} (hd : d + 1 ≤ D) (hc_X5_readSum : ∀ (x1 : Int32) (σ : AH) (v : Int32) (σ' : AH), Sh σ → c_X5_readSum x1 σ = some (v, σ') → Call X l m_X5_readSum d [.ref 22, .int x1] σ (some (.int v)) σ') (hc_X5_readBracket : ∀ (x1 : Int32) (σ : AH) (v : Int32) (σ' : AH), Sh σ → c_X5_readBracket x1 σ = some (v, σ') → Call X l m_X5_readBracket d [.ref 22, .int x1] σ (some (.int v)) σ') (hs : Sh σ) (h : F_X5_readPlain c_X5_readSum c_X5_readBracket x1 σ = some (v, σ')) : W_X5_readPlain_0 X l D x1 σ (some (.int v)) σ' := by
  unfold F_X5_readPlain at h
  unfold W_X5_readPlain_0
  exact e_X5_readPlain_4 hD hd hc_X5_readSum hc_X5_readBracket _ _ _ _ _ _ _ hs  h
theorem f_X5_readPlain {X : Sx} {l : Launch} {D : Nat} {c_X5_readSum : Int32 → AH → Option (Int32 × AH)} {c_X5_readBracket : Int32 → AH → Option (Int32 × AH)} {x1 : Int32} {σ : AH} {v : Int32} {σ' : AH} (hD : 10 ≤ D) {d : Nat} (hd : d + 1 ≤ D) (hc_X5_readSum : ∀ (x1 : Int32) (σ : AH) (v : Int32) (σ' : AH), Sh σ → c_X5_readSum x1 σ = some (v, σ') → Call X l m_X5_readSum d [.ref 22, .int x1] σ (some (.int v)) σ') (hc_X5_readBracket : ∀ (x1 : Int32) (σ : AH) (v : Int32) (σ' : AH), Sh σ → c_X5_readBracket x1 σ = some (v, σ') → Call X l m_X5_readBracket d [.ref 22, .int x1] σ (some (.int v)) σ') (hs : Sh σ) (h : F_X5_readPlain c_X5_readSum c_X5_readBracket x1 σ = some (v, σ')) : Call X l m_X5_readPlain D [.ref 22, .int x1] σ (some (.int v)) σ' :=
  Call.ofE ok_X5_readPlain rfl (Nat.le_of_ble_eq_true rfl) (w_X5_readPlain_0 hs  (t_X5_readPlain_0 hD hd hc_X5_readSum hc_X5_readBracket hs  h))
def F_X5_takeSign (x1 : Int32) (σ : AH) : Option (Int32 × AH) := (bd (F_X5_isSign x1 σ) fun v6 σ2 => (if v6 = 0 then (some ((0 : Int32), σ2)) else (bv (F_X5_step σ2) fun σ8 => (some ((1 : Int32), σ8)))))
set_option maxRecDepth 100000 in
theorem t_X5_takeSign_0 {X : Sx} {l : Launch} {D : Nat} {x1 : Int32} {σ : AH} {v : Int32} {σ' : AH} (hD : 2 ≤ D) (hs : Sh σ) (h : F_X5_takeSign x1 σ = some (v, σ')) : W_X5_takeSign_0 X l D x1 σ (some (.int v)) σ' := by
  unfold F_X5_takeSign at h
  unfold W_X5_takeSign_0
  obtain ⟨v6, σ2, q1, h⟩ := of_bd h
  have hC2 := f_X5_isSign (σ := σ) hs  q1 (X := X) (l := l)
  have hs3 := hC2.1.2.2.2.1 hs
  refine ⟨0, v6, σ2, (Nat.le_trans (by decide) hD), hC2, ?_⟩
  refine ite_i (fun c4 => ?_) (fun c4 => ?_)
  · replace h := of_ifp h c4
    exact ret_i h
  · replace h := of_ifn h c4
    obtain ⟨σ8, q5, h⟩ := of_bv h
    have hC6 := f_X5_step (σ := σ2) hs3  q5 (X := X) (l := l)
    have hs7 := hC6.1.2.2.2.1 hs3
    refine ⟨1, σ8, (Nat.le_trans (by decide) hD), hC6, ?_⟩
    exact ret_i h
theorem f_X5_takeSign {X : Sx} {l : Launch} {x1 : Int32} {σ : AH} {v : Int32} {σ' : AH} (hs : Sh σ) (h : F_X5_takeSign x1 σ = some (v, σ')) : Call X l m_X5_takeSign 2 [.ref 22, .int x1] σ (some (.int v)) σ' :=
  Call.ofE ok_X5_takeSign rfl (Nat.le_of_ble_eq_true rfl) (w_X5_takeSign_0 hs  (t_X5_takeSign_0 (Nat.le_refl _) hs  h))
def F_X5_readBracket (c_X5_readTest : Int32 → AH → Option (Int32 × AH)) (x1 : Int32) (σ : AH) : Option (Int32 × AH) := (if x1 < (8 : Int32) then (bv (F_X5_step σ) fun σ2 => (bd (c_X5_readTest (x1 + (1 : Int32)) σ2) fun v11 σ7 => (if v11 = 0 then (some ((0 : Int32), σ7)) else (bd (F_X5_takeSign (41 : Int32) σ7) fun v17 σ13 => (if v17 = 0 then (some ((0 : Int32), σ13)) else (some ((1 : Int32), σ13))))))) else (some ((0 : Int32), σ)))
set_option maxRecDepth 100000 in
theorem t_X5_readBracket_0 {X : Sx} {l : Launch} {D : Nat} {c_X5_readTest : Int32 → AH → Option (Int32 × AH)} {x1 : Int32} {σ : AH} {v : Int32} {σ' : AH} (hD : 3 ≤ D) {d : Nat} (hd : d + 1 ≤ D) (hc_X5_readTest : ∀ (x1 : Int32) (σ : AH) (v : Int32) (σ' : AH), Sh σ → c_X5_readTest x1 σ = some (v, σ') → Call X l m_X5_readTest d [.ref 22, .int x1] σ (some (.int v)) σ') (hs : Sh σ) (h : F_X5_readBracket c_X5_readTest x1 σ = some (v, σ')) : W_X5_readBracket_0 X l D x1 σ (some (.int v)) σ' := by
  unfold F_X5_readBracket at h
  unfold W_X5_readBracket_0
  refine ite_i (fun c1 => ?_) (fun c1 => ?_)
  · replace h := of_ifp h c1
    obtain ⟨σ2, q2, h⟩ := of_bv h
    have hC3 := f_X5_step (σ := σ) hs  q2 (X := X) (l := l)
    have hs4 := hC3.1.2.2.2.1 hs
    refine ⟨1, σ2, (Nat.le_trans (by decide) hD), hC3, ?_⟩
    obtain ⟨v11, σ7, q5, h⟩ := of_bd h
    have hC6 := hc_X5_readTest _ _ _ _ hs4  q5
    have hs7 := hC6.1.2.2.2.1 hs4
    refine ⟨d, v11, σ7, hd, hC6, ?_⟩
    refine ite_i (fun c8 => ?_) (fun c8 => ?_)
    · replace h := of_ifp h c8
      exact ret_i h
    · replace h := of_ifn h c8
      obtain ⟨v17, σ13, q9, h⟩ := of_bd h
      have hC10 := f_X5_takeSign (σ := σ7) hs7  q9 (X := X) (l := l)
      have hs11 := hC10.1.2.2.2.1 hs7
      refine ⟨2, v17, σ13, (Nat.le_trans (by decide) hD), hC10, ?_⟩
      refine ite_i (fun c12 => ?_) (fun c12 => ?_)
      · replace h := of_ifp h c12
        exact ret_i h
      · replace h := of_ifn h c12
        exact ret_i h
  · replace h := of_ifn h c1
    exact ret_i h
theorem f_X5_readBracket {X : Sx} {l : Launch} {D : Nat} {c_X5_readTest : Int32 → AH → Option (Int32 × AH)} {x1 : Int32} {σ : AH} {v : Int32} {σ' : AH} (hD : 3 ≤ D) {d : Nat} (hd : d + 1 ≤ D) (hc_X5_readTest : ∀ (x1 : Int32) (σ : AH) (v : Int32) (σ' : AH), Sh σ → c_X5_readTest x1 σ = some (v, σ') → Call X l m_X5_readTest d [.ref 22, .int x1] σ (some (.int v)) σ') (hs : Sh σ) (h : F_X5_readBracket c_X5_readTest x1 σ = some (v, σ')) : Call X l m_X5_readBracket D [.ref 22, .int x1] σ (some (.int v)) σ' :=
  Call.ofE ok_X5_readBracket rfl (Nat.le_of_ble_eq_true rfl) (w_X5_readBracket_0 hs  (t_X5_readBracket_0 hD hd hc_X5_readTest hs  h))
def F_X5_readSum_51 (c_X5_readTerm : Int32 → AH → Option (Int32 × AH)) (k_X5_readSum_12 : Int32 → Int32 → AH → Option (Int32 × AH)) (x1 : Int32) (x2 : Int32) (y0 : Int32) (σ : AH) : Option (Int32 × AH) := (bv (F_X5_step σ) fun σ26 => (bd (c_X5_readTerm x1 σ26) fun v35 σ31 => (if v35 = 0 then (some ((0 : Int32), σ31)) else (bv (F_X5_emit y0 (0 : Int32) σ31) fun σ37 => (k_X5_readSum_12 x1 (x2 + 1) σ37)))))
def F_X5_readSum_37 (c_X5_readTerm : Int32 → AH → Option (Int32 × AH)) (k_X5_readSum_12 : Int32 → Int32 → AH → Option (Int32 × AH)) (x1 : Int32) (x2 : Int32) (σ : AH) : Option (Int32 × AH) := (bd (F_X5_isSign (43 : Int32) σ) fun v24 σ20 => (if v24 = 0 then (F_X5_readSum_51 c_X5_readTerm k_X5_readSum_12 x1 x2 (3 : Int32) σ20) else (F_X5_readSum_51 c_X5_readTerm k_X5_readSum_12 x1 x2 (2 : Int32) σ20)))
def B_X5_readSum_12 (c_X5_readTerm : Int32 → AH → Option (Int32 × AH)) (k_X5_readSum_12 : Int32 → Int32 → AH → Option (Int32 × AH)) (x1 : Int32) (x2 : Int32) (σ : AH) : Option (Int32 × AH) := (if (400 : Int32) ≤ x2 then (some ((1 : Int32), σ)) else (bd (F_X5_isSign (43 : Int32) σ) fun v12 σ8 => (if v12 = 0 then (bd (F_X5_isSign (45 : Int32) σ8) fun v18 σ14 => (if v18 = 0 then (some ((1 : Int32), σ14)) else (F_X5_readSum_37 c_X5_readTerm k_X5_readSum_12 x1 x2 σ14))) else (F_X5_readSum_37 c_X5_readTerm k_X5_readSum_12 x1 x2 σ8))))
def F_X5_readSum_12 (c_X5_readTerm : Int32 → AH → Option (Int32 × AH)) : Nat → Int32 → Int32 → AH → Option (Int32 × AH) := fun k => match k with | 0 => fun _ _ _ => none | k + 1 => B_X5_readSum_12 c_X5_readTerm (F_X5_readSum_12 c_X5_readTerm k)
def F_X5_readSum (c_X5_readTerm : Int32 → AH → Option (Int32 × AH)) (x1 : Int32) (σ : AH) : Option (Int32 × AH) := (bd (c_X5_readTerm x1 σ) fun v6 σ2 => (if v6 = 0 then (some ((0 : Int32), σ2)) else (F_X5_readSum_12 c_X5_readTerm BIG x1 (0 : Int32) σ2)))
set_option maxRecDepth 100000 in
theorem t_X5_readSum_51 {X : Sx} {l : Launch} {D : Nat} {c_X5_readTerm : Int32 → AH → Option (Int32 × AH)} {k_X5_readSum_12 : Int32 → Int32 → AH → Option (Int32 × AH)} {x1 : Int32} {x2 : Int32} {y0 : Int32} {σ : AH} {v : Int32} {σ' : AH} (hD : 2 ≤ D) {d : Nat} (hd : d + 1 ≤ D) (hc_X5_readTerm : ∀ (x1 : Int32) (σ : AH) (v : Int32) (σ' : AH), Sh σ → c_X5_readTerm x1 σ = some (v, σ') → Call X l m_X5_readTerm d [.ref 22, .int x1] σ (some (.int v)) σ') (hk_X5_readSum_12 : ∀ (x1 : Int32) (x2 : Int32) (σ : AH) (v : Int32) (σ' : AH), Sh σ → k_X5_readSum_12 x1 x2 σ = some (v, σ') → E X l m_X5_readSum D 12 [(0, .ref 22), (1, .int x1), (2, .int x2)] [] σ (some (.int v)) σ') (hs : Sh σ) (h : F_X5_readSum_51 c_X5_readTerm k_X5_readSum_12 x1 x2 y0 σ = some (v, σ')) : W_X5_readSum_51 X l D x1 x2 y0 σ (some (.int v)) σ' := by
  unfold F_X5_readSum_51 at h
  unfold W_X5_readSum_51
  obtain ⟨σ26, q1, h⟩ := of_bv h
  have hC2 := f_X5_step (σ := σ) hs  q1 (X := X) (l := l)
  have hs3 := hC2.1.2.2.2.1 hs
  refine ⟨1, σ26, (Nat.le_trans (by decide) hD), hC2, ?_⟩
  obtain ⟨v35, σ31, q4, h⟩ := of_bd h
  have hC5 := hc_X5_readTerm _ _ _ _ hs3  q4
  have hs6 := hC5.1.2.2.2.1 hs3
  refine ⟨d, v35, σ31, hd, hC5, ?_⟩
  refine ite_i (fun c7 => ?_) (fun c7 => ?_)
  · replace h := of_ifp h c7
    exact ret_i h
  · replace h := of_ifn h c7
    obtain ⟨σ37, q8, h⟩ := of_bv h
    have hC9 := f_X5_emit (σ := σ31) hs6  q8 (X := X) (l := l)
    have hs10 := hC9.1.2.2.2.1 hs6
    refine ⟨0, σ37, (Nat.le_trans (by decide) hD), hC9, ?_⟩
    exact hk_X5_readSum_12 _ _ _ _ _ hs10  h
set_option maxRecDepth 100000 in
theorem t_X5_readSum_37 {X : Sx} {l : Launch} {D : Nat} {c_X5_readTerm : Int32 → AH → Option (Int32 × AH)} {k_X5_readSum_12 : Int32 → Int32 → AH → Option (Int32 × AH)} {x1 : Int32} {x2 : Int32} {σ : AH} {v : Int32} {σ' : AH} (hD : 2 ≤ D) {d : Nat} (hd : d + 1 ≤ D) (hc_X5_readTerm : ∀ (x1 : Int32) (σ : AH) (v : Int32) (σ' : AH), Sh σ → c_X5_readTerm x1 σ = some (v, σ') → Call X l m_X5_readTerm d [.ref 22, .int x1] σ (some (.int v)) σ') (hk_X5_readSum_12 : ∀ (x1 : Int32) (x2 : Int32) (σ : AH) (v : Int32) (σ' : AH), Sh σ → k_X5_readSum_12 x1 x2 σ = some (v, σ') → E X l m_X5_readSum D 12 [(0, .ref 22), (1, .int x1), (2, .int x2)] [] σ (some (.int v)) σ') (hs : Sh σ) (h : F_X5_readSum_37 c_X5_readTerm k_X5_readSum_12 x1 x2 σ = some (v, σ')) : W_X5_readSum_37 X l D x1 x2 σ (some (.int v)) σ' := by
  unfold F_X5_readSum_37 at h
  unfold W_X5_readSum_37
  obtain ⟨v24, σ20, q1, h⟩ := of_bd h
  have hC2 := f_X5_isSign (σ := σ) hs  q1 (X := X) (l := l)
  have hs3 := hC2.1.2.2.2.1 hs
  refine ⟨0, v24, σ20, (Nat.le_trans (by decide) hD), hC2, ?_⟩
  refine ite_i (fun c4 => ?_) (fun c4 => ?_)
  · replace h := of_ifp h c4
    exact t_X5_readSum_51 hD hd hc_X5_readTerm hk_X5_readSum_12 hs3  h
  · replace h := of_ifn h c4
    exact t_X5_readSum_51 hD hd hc_X5_readTerm hk_X5_readSum_12 hs3  h
set_option maxRecDepth 100000 in
theorem t_X5_readSum_12 {X : Sx} {l : Launch} {D : Nat} {c_X5_readTerm : Int32 → AH → Option (Int32 × AH)} {k_X5_readSum_12 : Int32 → Int32 → AH → Option (Int32 × AH)} {x1 : Int32} {x2 : Int32} {σ : AH} {v : Int32} {σ' : AH} (hD : 2 ≤ D) {d : Nat} (hd : d + 1 ≤ D) (hc_X5_readTerm : ∀ (x1 : Int32) (σ : AH) (v : Int32) (σ' : AH), Sh σ → c_X5_readTerm x1 σ = some (v, σ') → Call X l m_X5_readTerm d [.ref 22, .int x1] σ (some (.int v)) σ') (hk_X5_readSum_12 : ∀ (x1 : Int32) (x2 : Int32) (σ : AH) (v : Int32) (σ' : AH), Sh σ → k_X5_readSum_12 x1 x2 σ = some (v, σ') → E X l m_X5_readSum D 12 [(0, .ref 22), (1, .int x1), (2, .int x2)] [] σ (some (.int v)) σ') (hs : Sh σ) (h : B_X5_readSum_12 c_X5_readTerm k_X5_readSum_12 x1 x2 σ = some (v, σ')) : W_X5_readSum_12 X l D x1 x2 σ (some (.int v)) σ' := by
  unfold B_X5_readSum_12 at h
  unfold W_X5_readSum_12
  refine ite_i (fun c1 => ?_) (fun c1 => ?_)
  · replace h := of_ifp h c1
    exact ret_i h
  · replace h := of_ifn h c1
    obtain ⟨v12, σ8, q2, h⟩ := of_bd h
    have hC3 := f_X5_isSign (σ := σ) hs  q2 (X := X) (l := l)
    have hs4 := hC3.1.2.2.2.1 hs
    refine ⟨0, v12, σ8, (Nat.le_trans (by decide) hD), hC3, ?_⟩
    refine ite_i (fun c5 => ?_) (fun c5 => ?_)
    · replace h := of_ifp h c5
      obtain ⟨v18, σ14, q6, h⟩ := of_bd h
      have hC7 := f_X5_isSign (σ := σ8) hs4  q6 (X := X) (l := l)
      have hs8 := hC7.1.2.2.2.1 hs4
      refine ⟨0, v18, σ14, (Nat.le_trans (by decide) hD), hC7, ?_⟩
      refine ite_i (fun c9 => ?_) (fun c9 => ?_)
      · replace h := of_ifp h c9
        exact ret_i h
      · replace h := of_ifn h c9
        exact t_X5_readSum_37 hD hd hc_X5_readTerm hk_X5_readSum_12 hs8  h
    · replace h := of_ifn h c5
      exact t_X5_readSum_37 hD hd hc_X5_readTerm hk_X5_readSum_12 hs4  h
theorem e_X5_readSum_12 {X : Sx} {l : Launch} {D : Nat} {c_X5_readTerm : Int32 → AH → Option (Int32 × AH)} (hD : 2 ≤ D) {d : Nat} (hd : d + 1 ≤ D) (hc_X5_readTerm : ∀ (x1 : Int32) (σ : AH) (v : Int32) (σ' : AH), Sh σ → c_X5_readTerm x1 σ = some (v, σ') → Call X l m_X5_readTerm d [.ref 22, .int x1] σ (some (.int v)) σ') : ∀ (k : Nat) (x1 : Int32) (x2 : Int32) (σ : AH) (v : Int32) (σ' : AH), Sh σ → F_X5_readSum_12 c_X5_readTerm k x1 x2 σ = some (v, σ') → E X l m_X5_readSum D 12 [(0, .ref 22), (1, .int x1), (2, .int x2)] [] σ (some (.int v)) σ' := by
  intro k
  induction k with
  | zero => intro x1 x2 σ v σ' hs h; cases h
  | succ k ih =>
    intro x1 x2 σ v σ' hs h
    exact w_X5_readSum_12 hs  (t_X5_readSum_12 hD hd hc_X5_readTerm ih hs  h)
set_option maxRecDepth 100000 in
theorem t_X5_readSum_0 {X : Sx} {l : Launch} {D : Nat} {c_X5_readTerm : Int32 → AH → Option (Int32 × AH)} {x1 : Int32} {σ : AH} {v : Int32} {σ' : AH} (hD : 2 ≤ D) {d : Nat} (hd : d + 1 ≤ D) (hc_X5_readTerm : ∀ (x1 : Int32) (σ : AH) (v : Int32) (σ' : AH), Sh σ → c_X5_readTerm x1 σ = some (v, σ') → Call X l m_X5_readTerm d [.ref 22, .int x1] σ (some (.int v)) σ') (hs : Sh σ) (h : F_X5_readSum c_X5_readTerm x1 σ = some (v, σ')) : W_X5_readSum_0 X l D x1 σ (some (.int v)) σ' := by
  unfold F_X5_readSum at h
  unfold W_X5_readSum_0
  obtain ⟨v6, σ2, q1, h⟩ := of_bd h
  have hC2 := hc_X5_readTerm _ _ _ _ hs  q1
  have hs3 := hC2.1.2.2.2.1 hs
  refine ⟨d, v6, σ2, hd, hC2, ?_⟩
  refine ite_i (fun c4 => ?_) (fun c4 => ?_)
  · replace h := of_ifp h c4
    exact ret_i h
  · replace h := of_ifn h c4
    exact e_X5_readSum_12 hD hd hc_X5_readTerm _ _ _ _ _ _ hs3  h
theorem f_X5_readSum {X : Sx} {l : Launch} {D : Nat} {c_X5_readTerm : Int32 → AH → Option (Int32 × AH)} {x1 : Int32} {σ : AH} {v : Int32} {σ' : AH} (hD : 2 ≤ D) {d : Nat} (hd : d + 1 ≤ D) (hc_X5_readTerm : ∀ (x1 : Int32) (σ : AH) (v : Int32) (σ' : AH), Sh σ → c_X5_readTerm x1 σ = some (v, σ') → Call X l m_X5_readTerm d [.ref 22, .int x1] σ (some (.int v)) σ') (hs : Sh σ) (h : F_X5_readSum c_X5_readTerm x1 σ = some (v, σ')) : Call X l m_X5_readSum D [.ref 22, .int x1] σ (some (.int v)) σ' :=
  Call.ofE ok_X5_readSum rfl (Nat.le_of_ble_eq_true rfl) (w_X5_readSum_0 hs  (t_X5_readSum_0 hD hd hc_X5_readTerm hs  h))
def F_X5_readTerm_51 (c_X5_readPart : Int32 → AH → Option (Int32 × AH)) (k_X5_readTerm_12 : Int32 → Int32 → AH → Option (Int32 × AH)) (x1 : Int32) (x2 : Int32) (y0 : Int32) (σ : AH) : Option (Int32 × AH) := (bv (F_X5_step σ) fun σ26 => (bd (c_X5_readPart x1 σ26) fun v35 σ31 => (if v35 = 0 then (some ((0 : Int32), σ31)) else (bv (F_X5_emit y0 (0 : Int32) σ31) fun σ37 => (k_X5_readTerm_12 x1 (x2 + 1) σ37)))))
def F_X5_readTerm_37 (c_X5_readPart : Int32 → AH → Option (Int32 × AH)) (k_X5_readTerm_12 : Int32 → Int32 → AH → Option (Int32 × AH)) (x1 : Int32) (x2 : Int32) (σ : AH) : Option (Int32 × AH) := (bd (F_X5_isSign (42 : Int32) σ) fun v24 σ20 => (if v24 = 0 then (F_X5_readTerm_51 c_X5_readPart k_X5_readTerm_12 x1 x2 (5 : Int32) σ20) else (F_X5_readTerm_51 c_X5_readPart k_X5_readTerm_12 x1 x2 (4 : Int32) σ20)))
def B_X5_readTerm_12 (c_X5_readPart : Int32 → AH → Option (Int32 × AH)) (k_X5_readTerm_12 : Int32 → Int32 → AH → Option (Int32 × AH)) (x1 : Int32) (x2 : Int32) (σ : AH) : Option (Int32 × AH) := (if (400 : Int32) ≤ x2 then (some ((1 : Int32), σ)) else (bd (F_X5_isSign (42 : Int32) σ) fun v12 σ8 => (if v12 = 0 then (bd (F_X5_isSign (47 : Int32) σ8) fun v18 σ14 => (if v18 = 0 then (some ((1 : Int32), σ14)) else (F_X5_readTerm_37 c_X5_readPart k_X5_readTerm_12 x1 x2 σ14))) else (F_X5_readTerm_37 c_X5_readPart k_X5_readTerm_12 x1 x2 σ8))))
def F_X5_readTerm_12 (c_X5_readPart : Int32 → AH → Option (Int32 × AH)) : Nat → Int32 → Int32 → AH → Option (Int32 × AH) := fun k => match k with | 0 => fun _ _ _ => none | k + 1 => B_X5_readTerm_12 c_X5_readPart (F_X5_readTerm_12 c_X5_readPart k)
def F_X5_readTerm (c_X5_readPart : Int32 → AH → Option (Int32 × AH)) (x1 : Int32) (σ : AH) : Option (Int32 × AH) := (bd (c_X5_readPart x1 σ) fun v6 σ2 => (if v6 = 0 then (some ((0 : Int32), σ2)) else (F_X5_readTerm_12 c_X5_readPart BIG x1 (0 : Int32) σ2)))
set_option maxRecDepth 100000 in
theorem t_X5_readTerm_51 {X : Sx} {l : Launch} {D : Nat} {c_X5_readPart : Int32 → AH → Option (Int32 × AH)} {k_X5_readTerm_12 : Int32 → Int32 → AH → Option (Int32 × AH)} {x1 : Int32} {x2 : Int32} {y0 : Int32} {σ : AH} {v : Int32} {σ' : AH} (hD : 2 ≤ D) {d : Nat} (hd : d + 1 ≤ D) (hc_X5_readPart : ∀ (x1 : Int32) (σ : AH) (v : Int32) (σ' : AH), Sh σ → c_X5_readPart x1 σ = some (v, σ') → Call X l m_X5_readPart d [.ref 22, .int x1] σ (some (.int v)) σ') (hk_X5_readTerm_12 : ∀ (x1 : Int32) (x2 : Int32) (σ : AH) (v : Int32) (σ' : AH), Sh σ → k_X5_readTerm_12 x1 x2 σ = some (v, σ') → E X l m_X5_readTerm D 12 [(0, .ref 22), (1, .int x1), (2, .int x2)] [] σ (some (.int v)) σ') (hs : Sh σ) (h : F_X5_readTerm_51 c_X5_readPart k_X5_readTerm_12 x1 x2 y0 σ = some (v, σ')) : W_X5_readTerm_51 X l D x1 x2 y0 σ (some (.int v)) σ' := by
  unfold F_X5_readTerm_51 at h
  unfold W_X5_readTerm_51
  obtain ⟨σ26, q1, h⟩ := of_bv h
  have hC2 := f_X5_step (σ := σ) hs  q1 (X := X) (l := l)
  have hs3 := hC2.1.2.2.2.1 hs
  refine ⟨1, σ26, (Nat.le_trans (by decide) hD), hC2, ?_⟩
  obtain ⟨v35, σ31, q4, h⟩ := of_bd h
  have hC5 := hc_X5_readPart _ _ _ _ hs3  q4
  have hs6 := hC5.1.2.2.2.1 hs3
  refine ⟨d, v35, σ31, hd, hC5, ?_⟩
  refine ite_i (fun c7 => ?_) (fun c7 => ?_)
  · replace h := of_ifp h c7
    exact ret_i h
  · replace h := of_ifn h c7
    obtain ⟨σ37, q8, h⟩ := of_bv h
    have hC9 := f_X5_emit (σ := σ31) hs6  q8 (X := X) (l := l)
    have hs10 := hC9.1.2.2.2.1 hs6
    refine ⟨0, σ37, (Nat.le_trans (by decide) hD), hC9, ?_⟩
    exact hk_X5_readTerm_12 _ _ _ _ _ hs10  h
set_option maxRecDepth 100000 in
theorem t_X5_readTerm_37 {X : Sx} {l : Launch} {D : Nat} {c_X5_readPart : Int32 → AH → Option (Int32 × AH)} {k_X5_readTerm_12 : Int32 → Int32 → AH → Option (Int32 × AH)} {x1 : Int32} {x2 : Int32} {σ : AH} {v : Int32} {σ' : AH} (hD : 2 ≤ D) {d : Nat} (hd : d + 1 ≤ D) (hc_X5_readPart : ∀ (x1 : Int32) (σ : AH) (v : Int32) (σ' : AH), Sh σ → c_X5_readPart x1 σ = some (v, σ') → Call X l m_X5_readPart d [.ref 22, .int x1] σ (some (.int v)) σ') (hk_X5_readTerm_12 : ∀ (x1 : Int32) (x2 : Int32) (σ : AH) (v : Int32) (σ' : AH), Sh σ → k_X5_readTerm_12 x1 x2 σ = some (v, σ') → E X l m_X5_readTerm D 12 [(0, .ref 22), (1, .int x1), (2, .int x2)] [] σ (some (.int v)) σ') (hs : Sh σ) (h : F_X5_readTerm_37 c_X5_readPart k_X5_readTerm_12 x1 x2 σ = some (v, σ')) : W_X5_readTerm_37 X l D x1 x2 σ (some (.int v)) σ' := by
  unfold F_X5_readTerm_37 at h
  unfold W_X5_readTerm_37
  obtain ⟨v24, σ20, q1, h⟩ := of_bd h
  have hC2 := f_X5_isSign (σ := σ) hs  q1 (X := X) (l := l)
  have hs3 := hC2.1.2.2.2.1 hs
  refine ⟨0, v24, σ20, (Nat.le_trans (by decide) hD), hC2, ?_⟩
  refine ite_i (fun c4 => ?_) (fun c4 => ?_)
  · replace h := of_ifp h c4
    exact t_X5_readTerm_51 hD hd hc_X5_readPart hk_X5_readTerm_12 hs3  h
  · replace h := of_ifn h c4
    exact t_X5_readTerm_51 hD hd hc_X5_readPart hk_X5_readTerm_12 hs3  h
set_option maxRecDepth 100000 in
theorem t_X5_readTerm_12 {X : Sx} {l : Launch} {D : Nat} {c_X5_readPart : Int32 → AH → Option (Int32 × AH)} {k_X5_readTerm_12 : Int32 → Int32 → AH → Option (Int32 × AH)} {x1 : Int32} {x2 : Int32} {σ : AH} {v : Int32} {σ' : AH} (hD : 2 ≤ D) {d : Nat} (hd : d + 1 ≤ D) (hc_X5_readPart : ∀ (x1 : Int32) (σ : AH) (v : Int32) (σ' : AH), Sh σ → c_X5_readPart x1 σ = some (v, σ') → Call X l m_X5_readPart d [.ref 22, .int x1] σ (some (.int v)) σ') (hk_X5_readTerm_12 : ∀ (x1 : Int32) (x2 : Int32) (σ : AH) (v : Int32) (σ' : AH), Sh σ → k_X5_readTerm_12 x1 x2 σ = some (v, σ') → E X l m_X5_readTerm D 12 [(0, .ref 22), (1, .int x1), (2, .int x2)] [] σ (some (.int v)) σ') (hs : Sh σ) (h : B_X5_readTerm_12 c_X5_readPart k_X5_readTerm_12 x1 x2 σ = some (v, σ')) : W_X5_readTerm_12 X l D x1 x2 σ (some (.int v)) σ' := by
  unfold B_X5_readTerm_12 at h
  unfold W_X5_readTerm_12
  refine ite_i (fun c1 => ?_) (fun c1 => ?_)
  · replace h := of_ifp h c1
    exact ret_i h
  · replace h := of_ifn h c1
    obtain ⟨v12, σ8, q2, h⟩ := of_bd h
    have hC3 := f_X5_isSign (σ := σ) hs  q2 (X := X) (l := l)
    have hs4 := hC3.1.2.2.2.1 hs
    refine ⟨0, v12, σ8, (Nat.le_trans (by decide) hD), hC3, ?_⟩
    refine ite_i (fun c5 => ?_) (fun c5 => ?_)
    · replace h := of_ifp h c5
      obtain ⟨v18, σ14, q6, h⟩ := of_bd h
      have hC7 := f_X5_isSign (σ := σ8) hs4  q6 (X := X) (l := l)
      have hs8 := hC7.1.2.2.2.1 hs4
      refine ⟨0, v18, σ14, (Nat.le_trans (by decide) hD), hC7, ?_⟩
      refine ite_i (fun c9 => ?_) (fun c9 => ?_)
      · replace h := of_ifp h c9
        exact ret_i h
      · replace h := of_ifn h c9
        exact t_X5_readTerm_37 hD hd hc_X5_readPart hk_X5_readTerm_12 hs8  h
    · replace h := of_ifn h c5
      exact t_X5_readTerm_37 hD hd hc_X5_readPart hk_X5_readTerm_12 hs4  h
theorem e_X5_readTerm_12 {X : Sx} {l : Launch} {D : Nat} {c_X5_readPart : Int32 → AH → Option (Int32 × AH)} (hD : 2 ≤ D) {d : Nat} (hd : d + 1 ≤ D) (hc_X5_readPart : ∀ (x1 : Int32) (σ : AH) (v : Int32) (σ' : AH), Sh σ → c_X5_readPart x1 σ = some (v, σ') → Call X l m_X5_readPart d [.ref 22, .int x1] σ (some (.int v)) σ') : ∀ (k : Nat) (x1 : Int32) (x2 : Int32) (σ : AH) (v : Int32) (σ' : AH), Sh σ → F_X5_readTerm_12 c_X5_readPart k x1 x2 σ = some (v, σ') → E X l m_X5_readTerm D 12 [(0, .ref 22), (1, .int x1), (2, .int x2)] [] σ (some (.int v)) σ' := by
  intro k
  induction k with
  | zero => intro x1 x2 σ v σ' hs h; cases h
  | succ k ih =>
    intro x1 x2 σ v σ' hs h
    exact w_X5_readTerm_12 hs  (t_X5_readTerm_12 hD hd hc_X5_readPart ih hs  h)
set_option maxRecDepth 100000 in
theorem t_X5_readTerm_0 {X : Sx} {l : Launch} {D : Nat} {c_X5_readPart : Int32 → AH → Option (Int32 × AH)} {x1 : Int32} {σ : AH} {v : Int32} {σ' : AH} (hD : 2 ≤ D) {d : Nat} (hd : d + 1 ≤ D) (hc_X5_readPart : ∀ (x1 : Int32) (σ : AH) (v : Int32) (σ' : AH), Sh σ → c_X5_readPart x1 σ = some (v, σ') → Call X l m_X5_readPart d [.ref 22, .int x1] σ (some (.int v)) σ') (hs : Sh σ) (h : F_X5_readTerm c_X5_readPart x1 σ = some (v, σ')) : W_X5_readTerm_0 X l D x1 σ (some (.int v)) σ' := by
  unfold F_X5_readTerm at h
  unfold W_X5_readTerm_0
  obtain ⟨v6, σ2, q1, h⟩ := of_bd h
  have hC2 := hc_X5_readPart _ _ _ _ hs  q1
  have hs3 := hC2.1.2.2.2.1 hs
  refine ⟨d, v6, σ2, hd, hC2, ?_⟩
  refine ite_i (fun c4 => ?_) (fun c4 => ?_)
  · replace h := of_ifp h c4
    exact ret_i h
  · replace h := of_ifn h c4
    exact e_X5_readTerm_12 hD hd hc_X5_readPart _ _ _ _ _ _ hs3  h
theorem f_X5_readTerm {X : Sx} {l : Launch} {D : Nat} {c_X5_readPart : Int32 → AH → Option (Int32 × AH)} {x1 : Int32} {σ : AH} {v : Int32} {σ' : AH} (hD : 2 ≤ D) {d : Nat} (hd : d + 1 ≤ D) (hc_X5_readPart : ∀ (x1 : Int32) (σ : AH) (v : Int32) (σ' : AH), Sh σ → c_X5_readPart x1 σ = some (v, σ') → Call X l m_X5_readPart d [.ref 22, .int x1] σ (some (.int v)) σ') (hs : Sh σ) (h : F_X5_readTerm c_X5_readPart x1 σ = some (v, σ')) : Call X l m_X5_readTerm D [.ref 22, .int x1] σ (some (.int v)) σ' :=
  Call.ofE ok_X5_readTerm rfl (Nat.le_of_ble_eq_true rfl) (w_X5_readTerm_0 hs  (t_X5_readTerm_0 hD hd hc_X5_readPart hs  h))
def F_X5_takeLeaf (x1 : Int32) (x2 : Int32) (σ : AH) : Option (Int32 × AH) := (if (gI σ 22 8) < (60 : Int32) then (bv (F_X5_emit x1 x2 (sI σ 22 8 ((gI σ 22 8) + (1 : Int32)))) fun σ2 => (bv (F_X5_step σ2) fun σ7 => (some ((1 : Int32), σ7)))) else (some ((0 : Int32), σ)))
set_option maxRecDepth 100000 in
theorem t_X5_takeLeaf_0 {X : Sx} {l : Launch} {D : Nat} {x1 : Int32} {x2 : Int32} {σ : AH} {v : Int32} {σ' : AH} (hD : 2 ≤ D) (hs : Sh σ) (h : F_X5_takeLeaf x1 x2 σ = some (v, σ')) : W_X5_takeLeaf_0 X l D x1 x2 σ (some (.int v)) σ' := by
  unfold F_X5_takeLeaf at h
  unfold W_X5_takeLeaf_0
  refine ite_i (fun c1 => ?_) (fun c1 => ?_)
  · replace h := of_ifp h c1
    obtain ⟨σ2, q2, h⟩ := of_bv h
    have hC3 := f_X5_emit (σ := (sI σ 22 8 ((gI σ 22 8) + (1 : Int32)))) hs  q2 (X := X) (l := l)
    have hs4 := hC3.1.2.2.2.1 hs
    refine ⟨0, σ2, (Nat.le_trans (by decide) hD), hC3, ?_⟩
    obtain ⟨σ7, q5, h⟩ := of_bv h
    have hC6 := f_X5_step (σ := σ2) hs4  q5 (X := X) (l := l)
    have hs7 := hC6.1.2.2.2.1 hs4
    refine ⟨1, σ7, (Nat.le_trans (by decide) hD), hC6, ?_⟩
    exact ret_i h
  · replace h := of_ifn h c1
    exact ret_i h
theorem f_X5_takeLeaf {X : Sx} {l : Launch} {x1 : Int32} {x2 : Int32} {σ : AH} {v : Int32} {σ' : AH} (hs : Sh σ) (h : F_X5_takeLeaf x1 x2 σ = some (v, σ')) : Call X l m_X5_takeLeaf 2 [.ref 22, .int x1, .int x2] σ (some (.int v)) σ' :=
  Call.ofE ok_X5_takeLeaf rfl (Nat.le_of_ble_eq_true rfl) (w_X5_takeLeaf_0 hs  (t_X5_takeLeaf_0 (Nat.le_refl _) hs  h))
def F_X5_takeWord (x1 : Nat) (σ : AH) : Option (Int32 × AH) := (bd (F_X5_wordIn x1 σ) fun v6 σ2 => (if v6 = (-1 : Int32) then (some (v6, σ2)) else (bv (F_X5_step σ2) fun σ8 => (some (v6, σ8)))))
set_option maxRecDepth 100000 in
theorem t_X5_takeWord_0 {X : Sx} {l : Launch} {D : Nat} {x1 : Nat} {σ : AH} {v : Int32} {σ' : AH} (hD : 9 ≤ D) (hs : Sh σ) (hmx1 : x1 < 12) (h : F_X5_takeWord x1 σ = some (v, σ')) : W_X5_takeWord_0 X l D x1 σ (some (.int v)) σ' := by
  unfold F_X5_takeWord at h
  unfold W_X5_takeWord_0
  obtain ⟨v6, σ2, q1, h⟩ := of_bd h
  have hC2 := f_X5_wordIn (σ := σ) hs (by first | assumption | exact st_stock (by assumption) | exact rn_site (by assumption) | decide) q1 (X := X) (l := l)
  have hs3 := hC2.1.2.2.2.1 hs
  refine ⟨8, v6, σ2, (Nat.le_trans (by decide) hD), hC2, ?_⟩
  refine ite_i (fun c4 => ?_) (fun c4 => ?_)
  · replace h := of_ifp h c4
    exact ret_i h
  · replace h := of_ifn h c4
    obtain ⟨σ8, q5, h⟩ := of_bv h
    have hC6 := f_X5_step (σ := σ2) hs3  q5 (X := X) (l := l)
    have hs7 := hC6.1.2.2.2.1 hs3
    refine ⟨1, σ8, (Nat.le_trans (by decide) hD), hC6, ?_⟩
    exact ret_i h
theorem f_X5_takeWord {X : Sx} {l : Launch} {x1 : Nat} {σ : AH} {v : Int32} {σ' : AH} (hs : Sh σ) (hmx1 : x1 < 12) (h : F_X5_takeWord x1 σ = some (v, σ')) : Call X l m_X5_takeWord 9 [.ref 22, .ref (1000001 + x1)] σ (some (.int v)) σ' :=
  Call.ofE ok_X5_takeWord rfl (Nat.le_of_ble_eq_true rfl) (w_X5_takeWord_0 hs hmx1 (t_X5_takeWord_0 (Nat.le_refl _) hs hmx1 h))
def F_X5_readPart_156 (c_X5_readSum : Int32 → AH → Option (Int32 × AH)) (σ : AH) : Option (Int32 × AH) := (some ((0 : Int32), σ))
def F_X5_readPart_170 (c_X5_readSum : Int32 → AH → Option (Int32 × AH)) (y0 : Int32) (σ : AH) : Option (Int32 × AH) := (bv (F_X5_emit y0 (0 : Int32) σ) fun σ74 => (some ((1 : Int32), σ74)))
def F_X5_readPart_137 (c_X5_readSum : Int32 → AH → Option (Int32 × AH)) (x1 : Int32) (x3 : Int32) (σ : AH) : Option (Int32 × AH) := (bd (c_X5_readSum (x1 + (1 : Int32)) σ) fun v66 σ62 => (if v66 = 0 then (F_X5_readPart_156 c_X5_readSum σ62) else (bd (F_X5_takeSign (93 : Int32) σ62) fun v72 σ68 => (if v72 = 0 then (F_X5_readPart_156 c_X5_readSum σ68) else (if x3 = 0 then (F_X5_readPart_170 c_X5_readSum (6 : Int32) σ68) else (F_X5_readPart_170 c_X5_readSum (7 : Int32) σ68))))))
def F_X5_readPart (c_X5_readSum : Int32 → AH → Option (Int32 × AH)) (x1 : Int32) (σ : AH) : Option (Int32 × AH) := (if (gI σ 22 11) = (2 : Int32) then (if (10000 : Int32) < (gI σ 22 12) then (some ((0 : Int32), σ)) else (bd (F_X5_takeLeaf (0 : Int32) (gI σ 22 12) σ) fun v60 σ56 => (if v60 = 0 then (some ((0 : Int32), σ56)) else (some ((1 : Int32), σ56))))) else (bd (F_X5_wordIn 6 σ) fun v6 σ2 => (if v6 = (-1 : Int32) then (if x1 < (8 : Int32) then (bd (F_X5_takeSign (91 : Int32) σ2) fun v12 σ8 => (if v12 = 0 then (bd (F_X5_takeWord 7 σ8) fun v18 σ14 => (if v18 = (-1 : Int32) then (some ((0 : Int32), σ14)) else (bd (F_X5_takeSign (91 : Int32) σ14) fun v24 σ20 => (if v24 = 0 then (some ((0 : Int32), σ20)) else (bd (c_X5_readSum (x1 + (1 : Int32)) σ20) fun v30 σ26 => (if v30 = 0 then (some ((0 : Int32), σ26)) else (bd (F_X5_takeSign (44 : Int32) σ26) fun v36 σ32 => (if v36 = 0 then (F_X5_readPart_156 c_X5_readSum σ32) else (F_X5_readPart_137 c_X5_readSum x1 v18 σ32))))))))) else (bd (c_X5_readSum (x1 + (1 : Int32)) σ8) fun v42 σ38 => (if v42 = 0 then (some ((0 : Int32), σ38)) else (bd (F_X5_takeSign (93 : Int32) σ38) fun v48 σ44 => (if v48 = 0 then (some ((0 : Int32), σ44)) else (some ((1 : Int32), σ44)))))))) else (some ((0 : Int32), σ2))) else (bd (F_X5_takeLeaf (1 : Int32) v6 σ2) fun v54 σ50 => (if v54 = 0 ∨ v54 = 1 then some (v54, σ50) else none)))))
set_option maxRecDepth 100000 in
theorem t_X5_readPart_156 {X : Sx} {l : Launch} {D : Nat} {c_X5_readSum : Int32 → AH → Option (Int32 × AH)} {σ : AH} {v : Int32} {σ' : AH} (hD : 10 ≤ D) {d : Nat} (hd : d + 1 ≤ D) (hc_X5_readSum : ∀ (x1 : Int32) (σ : AH) (v : Int32) (σ' : AH), Sh σ → c_X5_readSum x1 σ = some (v, σ') → Call X l m_X5_readSum d [.ref 22, .int x1] σ (some (.int v)) σ') (hs : Sh σ) (h : F_X5_readPart_156 c_X5_readSum σ = some (v, σ')) : W_X5_readPart_156 X l D σ (some (.int v)) σ' := by
  unfold F_X5_readPart_156 at h
  unfold W_X5_readPart_156
  exact ret_i h
set_option maxRecDepth 100000 in
theorem t_X5_readPart_170 {X : Sx} {l : Launch} {D : Nat} {c_X5_readSum : Int32 → AH → Option (Int32 × AH)} {y0 : Int32} {σ : AH} {v : Int32} {σ' : AH} (hD : 10 ≤ D) {d : Nat} (hd : d + 1 ≤ D) (hc_X5_readSum : ∀ (x1 : Int32) (σ : AH) (v : Int32) (σ' : AH), Sh σ → c_X5_readSum x1 σ = some (v, σ') → Call X l m_X5_readSum d [.ref 22, .int x1] σ (some (.int v)) σ') (hs : Sh σ) (h : F_X5_readPart_170 c_X5_readSum y0 σ = some (v, σ')) : W_X5_readPart_170 X l D y0 σ (some (.int v)) σ' := by
  unfold F_X5_readPart_170 at h
  unfold W_X5_readPart_170
  obtain ⟨σ74, q1, h⟩ := of_bv h
  have hC2 := f_X5_emit (σ := σ) hs  q1 (X := X) (l := l)
  have hs3 := hC2.1.2.2.2.1 hs
  refine ⟨0, σ74, (Nat.le_trans (by decide) hD), hC2, ?_⟩
  exact ret_i h
set_option maxRecDepth 100000 in
theorem t_X5_readPart_137 {X : Sx} {l : Launch} {D : Nat} {c_X5_readSum : Int32 → AH → Option (Int32 × AH)} {x1 : Int32} {x3 : Int32} {σ : AH} {v : Int32} {σ' : AH} (hD : 10 ≤ D) {d : Nat} (hd : d + 1 ≤ D) (hc_X5_readSum : ∀ (x1 : Int32) (σ : AH) (v : Int32) (σ' : AH), Sh σ → c_X5_readSum x1 σ = some (v, σ') → Call X l m_X5_readSum d [.ref 22, .int x1] σ (some (.int v)) σ') (hs : Sh σ) (h : F_X5_readPart_137 c_X5_readSum x1 x3 σ = some (v, σ')) : W_X5_readPart_137 X l D x1 x3 σ (some (.int v)) σ' := by
  unfold F_X5_readPart_137 at h
  unfold W_X5_readPart_137
  obtain ⟨v66, σ62, q1, h⟩ := of_bd h
  have hC2 := hc_X5_readSum _ _ _ _ hs  q1
  have hs3 := hC2.1.2.2.2.1 hs
  refine ⟨d, v66, σ62, hd, hC2, ?_⟩
  refine ite_i (fun c4 => ?_) (fun c4 => ?_)
  · replace h := of_ifp h c4
    exact t_X5_readPart_156 hD hd hc_X5_readSum hs3  h
  · replace h := of_ifn h c4
    obtain ⟨v72, σ68, q5, h⟩ := of_bd h
    have hC6 := f_X5_takeSign (σ := σ62) hs3  q5 (X := X) (l := l)
    have hs7 := hC6.1.2.2.2.1 hs3
    refine ⟨2, v72, σ68, (Nat.le_trans (by decide) hD), hC6, ?_⟩
    refine ite_i (fun c8 => ?_) (fun c8 => ?_)
    · replace h := of_ifp h c8
      exact t_X5_readPart_156 hD hd hc_X5_readSum hs7  h
    · replace h := of_ifn h c8
      refine ite_i (fun c9 => ?_) (fun c9 => ?_)
      · replace h := of_ifp h c9
        exact t_X5_readPart_170 hD hd hc_X5_readSum hs7  h
      · replace h := of_ifn h c9
        exact t_X5_readPart_170 hD hd hc_X5_readSum hs7  h
set_option maxRecDepth 100000 in
theorem t_X5_readPart_0 {X : Sx} {l : Launch} {D : Nat} {c_X5_readSum : Int32 → AH → Option (Int32 × AH)} {x1 : Int32} {σ : AH} {v : Int32} {σ' : AH} (hD : 10 ≤ D) {d : Nat} (hd : d + 1 ≤ D) (hc_X5_readSum : ∀ (x1 : Int32) (σ : AH) (v : Int32) (σ' : AH), Sh σ → c_X5_readSum x1 σ = some (v, σ') → Call X l m_X5_readSum d [.ref 22, .int x1] σ (some (.int v)) σ') (hs : Sh σ) (h : F_X5_readPart c_X5_readSum x1 σ = some (v, σ')) : W_X5_readPart_0 X l D x1 σ (some (.int v)) σ' := by
  unfold F_X5_readPart at h
  unfold W_X5_readPart_0
  refine ite_i (fun c1 => ?_) (fun c1 => ?_)
  · replace h := of_ifp h c1
    refine ite_i (fun c2 => ?_) (fun c2 => ?_)
    · replace h := of_ifp h c2
      exact ret_i h
    · replace h := of_ifn h c2
      obtain ⟨v60, σ56, q3, h⟩ := of_bd h
      have hC4 := f_X5_takeLeaf (σ := σ) hs  q3 (X := X) (l := l)
      have hs5 := hC4.1.2.2.2.1 hs
      refine ⟨2, v60, σ56, (Nat.le_trans (by decide) hD), hC4, ?_⟩
      refine ite_i (fun c6 => ?_) (fun c6 => ?_)
      · replace h := of_ifp h c6
        exact ret_i h
      · replace h := of_ifn h c6
        exact ret_i h
  · replace h := of_ifn h c1
    obtain ⟨v6, σ2, q7, h⟩ := of_bd h
    have hC8 := f_X5_wordIn (σ := σ) hs (by first | assumption | exact st_stock (by assumption) | exact rn_site (by assumption) | decide) q7 (X := X) (l := l)
    have hs9 := hC8.1.2.2.2.1 hs
    refine ⟨8, v6, σ2, (Nat.le_trans (by decide) hD), hC8, ?_⟩
    refine ite_i (fun c10 => ?_) (fun c10 => ?_)
    · replace h := of_ifp h c10
      refine ite_i (fun c11 => ?_) (fun c11 => ?_)
      · replace h := of_ifp h c11
        obtain ⟨v12, σ8, q12, h⟩ := of_bd h
        have hC13 := f_X5_takeSign (σ := σ2) hs9  q12 (X := X) (l := l)
        have hs14 := hC13.1.2.2.2.1 hs9
        refine ⟨2, v12, σ8, (Nat.le_trans (by decide) hD), hC13, ?_⟩
        refine ite_i (fun c15 => ?_) (fun c15 => ?_)
        · replace h := of_ifp h c15
          obtain ⟨v18, σ14, q16, h⟩ := of_bd h
          have hC17 := f_X5_takeWord (σ := σ8) hs14 (by first | assumption | exact st_stock (by assumption) | exact rn_site (by assumption) | decide) q16 (X := X) (l := l)
          have hs18 := hC17.1.2.2.2.1 hs14
          refine ⟨9, v18, σ14, (Nat.le_trans (by decide) hD), hC17, ?_⟩
          refine ite_i (fun c19 => ?_) (fun c19 => ?_)
          · replace h := of_ifp h c19
            exact ret_i h
          · replace h := of_ifn h c19
            obtain ⟨v24, σ20, q20, h⟩ := of_bd h
            have hC21 := f_X5_takeSign (σ := σ14) hs18  q20 (X := X) (l := l)
            have hs22 := hC21.1.2.2.2.1 hs18
            refine ⟨2, v24, σ20, (Nat.le_trans (by decide) hD), hC21, ?_⟩
            refine ite_i (fun c23 => ?_) (fun c23 => ?_)
            · replace h := of_ifp h c23
              exact ret_i h
            · replace h := of_ifn h c23
              obtain ⟨v30, σ26, q24, h⟩ := of_bd h
              have hC25 := hc_X5_readSum _ _ _ _ hs22  q24
              have hs26 := hC25.1.2.2.2.1 hs22
              refine ⟨d, v30, σ26, hd, hC25, ?_⟩
              refine ite_i (fun c27 => ?_) (fun c27 => ?_)
              · replace h := of_ifp h c27
                exact ret_i h
              · replace h := of_ifn h c27
                obtain ⟨v36, σ32, q28, h⟩ := of_bd h
                have hC29 := f_X5_takeSign (σ := σ26) hs26  q28 (X := X) (l := l)
                have hs30 := hC29.1.2.2.2.1 hs26
                refine ⟨2, v36, σ32, (Nat.le_trans (by decide) hD), hC29, ?_⟩
                refine ite_i (fun c31 => ?_) (fun c31 => ?_)
                · replace h := of_ifp h c31
                  exact t_X5_readPart_156 hD hd hc_X5_readSum hs30  h
                · replace h := of_ifn h c31
                  exact t_X5_readPart_137 hD hd hc_X5_readSum hs30  h
        · replace h := of_ifn h c15
          obtain ⟨v42, σ38, q32, h⟩ := of_bd h
          have hC33 := hc_X5_readSum _ _ _ _ hs14  q32
          have hs34 := hC33.1.2.2.2.1 hs14
          refine ⟨d, v42, σ38, hd, hC33, ?_⟩
          refine ite_i (fun c35 => ?_) (fun c35 => ?_)
          · replace h := of_ifp h c35
            exact ret_i h
          · replace h := of_ifn h c35
            obtain ⟨v48, σ44, q36, h⟩ := of_bd h
            have hC37 := f_X5_takeSign (σ := σ38) hs34  q36 (X := X) (l := l)
            have hs38 := hC37.1.2.2.2.1 hs34
            refine ⟨2, v48, σ44, (Nat.le_trans (by decide) hD), hC37, ?_⟩
            refine ite_i (fun c39 => ?_) (fun c39 => ?_)
            · replace h := of_ifp h c39
              exact ret_i h
            · replace h := of_ifn h c39
              exact ret_i h
      · replace h := of_ifn h c11
        exact ret_i h
    · replace h := of_ifn h c10
      obtain ⟨v54, σ50, q40, h⟩ := of_bd h
      have hC41 := f_X5_takeLeaf (σ := σ2) hs9  q40 (X := X) (l := l)
      have hs42 := hC41.1.2.2.2.1 hs9
      refine ⟨2, v54, σ50, (Nat.le_trans (by decide) hD), hC41, ?_⟩
      exact ⟨(of_gd h).1, ret_i (of_gd h).2⟩
theorem f_X5_readPart {X : Sx} {l : Launch} {D : Nat} {c_X5_readSum : Int32 → AH → Option (Int32 × AH)} {x1 : Int32} {σ : AH} {v : Int32} {σ' : AH} (hD : 10 ≤ D) {d : Nat} (hd : d + 1 ≤ D) (hc_X5_readSum : ∀ (x1 : Int32) (σ : AH) (v : Int32) (σ' : AH), Sh σ → c_X5_readSum x1 σ = some (v, σ') → Call X l m_X5_readSum d [.ref 22, .int x1] σ (some (.int v)) σ') (hs : Sh σ) (h : F_X5_readPart c_X5_readSum x1 σ = some (v, σ')) : Call X l m_X5_readPart D [.ref 22, .int x1] σ (some (.int v)) σ' :=
  Call.ofE ok_X5_readPart rfl (Nat.le_of_ble_eq_true rfl) (w_X5_readPart_0 hs  (t_X5_readPart_0 hD hd hc_X5_readSum hs  h))
def RK : Nat → Nat → Int32 → AH → Option (Int32 × AH) := fun k => match k with | 0 => fun _ _ _ => none | k + 1 => fun j => match j with | 0 => F_X5_readTest (RK k 1) | 1 => F_X5_readBoth (RK k 2) | 2 => F_X5_readPlain (RK k 4) (RK k 3) | 3 => F_X5_readBracket (RK k 0) | 4 => F_X5_readSum (RK k 5) | 5 => F_X5_readTerm (RK k 6) | _ => F_X5_readPart (RK k 4)
theorem RK_0 (k : Nat) : RK (k + 1) 0 = F_X5_readTest (RK k 1) := by
  rw [RK]
  try rfl
theorem RK_1 (k : Nat) : RK (k + 1) 1 = F_X5_readBoth (RK k 2) := by
  rw [RK]
  try rfl
theorem RK_2 (k : Nat) : RK (k + 1) 2 = F_X5_readPlain (RK k 4) (RK k 3) := by
  rw [RK]
  try rfl
theorem RK_3 (k : Nat) : RK (k + 1) 3 = F_X5_readBracket (RK k 0) := by
  rw [RK]
  try rfl
theorem RK_4 (k : Nat) : RK (k + 1) 4 = F_X5_readSum (RK k 5) := by
  rw [RK]
  try rfl
theorem RK_5 (k : Nat) : RK (k + 1) 5 = F_X5_readTerm (RK k 6) := by
  rw [RK]
  try rfl
theorem RK_6 (k : Nat) : RK (k + 1) 6 = F_X5_readPart (RK k 4) := by
  rw [RK]
  try rfl
def G_X5_readTest : Int32 → AH → Option (Int32 × AH) := RK 64 0
def G_X5_readBoth : Int32 → AH → Option (Int32 × AH) := RK 64 1
def G_X5_readPlain : Int32 → AH → Option (Int32 × AH) := RK 64 2
def G_X5_readBracket : Int32 → AH → Option (Int32 × AH) := RK 64 3
def G_X5_readSum : Int32 → AH → Option (Int32 × AH) := RK 64 4
def G_X5_readTerm : Int32 → AH → Option (Int32 × AH) := RK 64 5
def G_X5_readPart : Int32 → AH → Option (Int32 × AH) := RK 64 6
theorem g_RK {X : Sx} {l : Launch} (k : Nat) : (∀ (x1 : Int32) (σ : AH) (v : Int32) (σ' : AH), Sh σ → RK k 0 x1 σ = some (v, σ') → Call X l m_X5_readTest (k + 10) [.ref 22, .int x1] σ (some (.int v)) σ') ∧ (∀ (x1 : Int32) (σ : AH) (v : Int32) (σ' : AH), Sh σ → RK k 1 x1 σ = some (v, σ') → Call X l m_X5_readBoth (k + 10) [.ref 22, .int x1] σ (some (.int v)) σ') ∧ (∀ (x1 : Int32) (σ : AH) (v : Int32) (σ' : AH), Sh σ → RK k 2 x1 σ = some (v, σ') → Call X l m_X5_readPlain (k + 10) [.ref 22, .int x1] σ (some (.int v)) σ') ∧ (∀ (x1 : Int32) (σ : AH) (v : Int32) (σ' : AH), Sh σ → RK k 3 x1 σ = some (v, σ') → Call X l m_X5_readBracket (k + 10) [.ref 22, .int x1] σ (some (.int v)) σ') ∧ (∀ (x1 : Int32) (σ : AH) (v : Int32) (σ' : AH), Sh σ → RK k 4 x1 σ = some (v, σ') → Call X l m_X5_readSum (k + 10) [.ref 22, .int x1] σ (some (.int v)) σ') ∧ (∀ (x1 : Int32) (σ : AH) (v : Int32) (σ' : AH), Sh σ → RK k 5 x1 σ = some (v, σ') → Call X l m_X5_readTerm (k + 10) [.ref 22, .int x1] σ (some (.int v)) σ') ∧ (∀ (x1 : Int32) (σ : AH) (v : Int32) (σ' : AH), Sh σ → RK k 6 x1 σ = some (v, σ') → Call X l m_X5_readPart (k + 10) [.ref 22, .int x1] σ (some (.int v)) σ') := by
  induction k with
  | zero => exact ⟨(fun _ _ _ _ _ h => by cases h), (fun _ _ _ _ _ h => by cases h), (fun _ _ _ _ _ h => by cases h), (fun _ _ _ _ _ h => by cases h), (fun _ _ _ _ _ h => by cases h), (fun _ _ _ _ _ h => by cases h), (fun _ _ _ _ _ h => by cases h)⟩
  | succ k ih =>
    obtain ⟨i0, i1, i2, i3, i4, i5, i6⟩ := ih
    refine ⟨fun x1 σ v σ' hs h => f_X5_readTest (by omega) (d := k + 10) (by omega) i1 hs (by rw [RK_0] at h; exact h), fun x1 σ v σ' hs h => f_X5_readBoth (by omega) (d := k + 10) (by omega) i2 hs (by rw [RK_1] at h; exact h), fun x1 σ v σ' hs h => f_X5_readPlain (by omega) (d := k + 10) (by omega) i4 i3 hs (by rw [RK_2] at h; exact h), fun x1 σ v σ' hs h => f_X5_readBracket (by omega) (d := k + 10) (by omega) i0 hs (by rw [RK_3] at h; exact h), fun x1 σ v σ' hs h => f_X5_readSum (by omega) (d := k + 10) (by omega) i5 hs (by rw [RK_4] at h; exact h), fun x1 σ v σ' hs h => f_X5_readTerm (by omega) (d := k + 10) (by omega) i6 hs (by rw [RK_5] at h; exact h), fun x1 σ v σ' hs h => f_X5_readPart (by omega) (d := k + 10) (by omega) i4 hs (by rw [RK_6] at h; exact h)⟩
theorem g_X5_readTest {X : Sx} {l : Launch} {x1 : Int32} {σ : AH} {v : Int32} {σ' : AH} (hs : Sh σ) (h : G_X5_readTest x1 σ = some (v, σ')) : Call X l m_X5_readTest 74 [.ref 22, .int x1] σ (some (.int v)) σ' := (g_RK 64).1 _ _ _ _ hs h
theorem g_X5_readBoth {X : Sx} {l : Launch} {x1 : Int32} {σ : AH} {v : Int32} {σ' : AH} (hs : Sh σ) (h : G_X5_readBoth x1 σ = some (v, σ')) : Call X l m_X5_readBoth 74 [.ref 22, .int x1] σ (some (.int v)) σ' := (g_RK 64).2.1 _ _ _ _ hs h
theorem g_X5_readPlain {X : Sx} {l : Launch} {x1 : Int32} {σ : AH} {v : Int32} {σ' : AH} (hs : Sh σ) (h : G_X5_readPlain x1 σ = some (v, σ')) : Call X l m_X5_readPlain 74 [.ref 22, .int x1] σ (some (.int v)) σ' := (g_RK 64).2.2.1 _ _ _ _ hs h
theorem g_X5_readBracket {X : Sx} {l : Launch} {x1 : Int32} {σ : AH} {v : Int32} {σ' : AH} (hs : Sh σ) (h : G_X5_readBracket x1 σ = some (v, σ')) : Call X l m_X5_readBracket 74 [.ref 22, .int x1] σ (some (.int v)) σ' := (g_RK 64).2.2.2.1 _ _ _ _ hs h
theorem g_X5_readSum {X : Sx} {l : Launch} {x1 : Int32} {σ : AH} {v : Int32} {σ' : AH} (hs : Sh σ) (h : G_X5_readSum x1 σ = some (v, σ')) : Call X l m_X5_readSum 74 [.ref 22, .int x1] σ (some (.int v)) σ' := (g_RK 64).2.2.2.2.1 _ _ _ _ hs h
theorem g_X5_readTerm {X : Sx} {l : Launch} {x1 : Int32} {σ : AH} {v : Int32} {σ' : AH} (hs : Sh σ) (h : G_X5_readTerm x1 σ = some (v, σ')) : Call X l m_X5_readTerm 74 [.ref 22, .int x1] σ (some (.int v)) σ' := (g_RK 64).2.2.2.2.2.1 _ _ _ _ hs h
theorem g_X5_readPart {X : Sx} {l : Launch} {x1 : Int32} {σ : AH} {v : Int32} {σ' : AH} (hs : Sh σ) (h : G_X5_readPart x1 σ = some (v, σ')) : Call X l m_X5_readPart 74 [.ref 22, .int x1] σ (some (.int v)) σ' := (g_RK 64).2.2.2.2.2.2 _ _ _ _ hs h
def F_X5_headOf (x0 : Int32) (x1 : Int32) (σ : AH) : Option (Int32 × AH) := (if x0 = 2 then (some ((54 : Int32), σ)) else (if x0 = 3 then (some (((55 : Int32) + x1), σ)) else (if x0 = 4 then (some ((58 : Int32), σ)) else (if x0 = 5 then (some ((59 : Int32), σ)) else (if x0 = 6 then (some ((60 : Int32), σ)) else (some ((61 : Int32), σ)))))))
set_option maxRecDepth 100000 in
theorem t_X5_headOf_0 {X : Sx} {l : Launch} {D : Nat} {x0 : Int32} {x1 : Int32} {σ : AH} {v : Int32} {σ' : AH} (hD : 0 ≤ D) (hs : Sh σ) (h : F_X5_headOf x0 x1 σ = some (v, σ')) : W_X5_headOf_0 X l D x0 x1 σ (some (.int v)) σ' := by
  unfold F_X5_headOf at h
  unfold W_X5_headOf_0
  refine ite_i (fun c1 => ?_) (fun c1 => ?_)
  · replace h := of_ifp h c1
    exact ret_i h
  · replace h := of_ifn h c1
    refine ite_i (fun c2 => ?_) (fun c2 => ?_)
    · replace h := of_ifp h c2
      exact ret_i h
    · replace h := of_ifn h c2
      refine ite_i (fun c3 => ?_) (fun c3 => ?_)
      · replace h := of_ifp h c3
        exact ret_i h
      · replace h := of_ifn h c3
        refine ite_i (fun c4 => ?_) (fun c4 => ?_)
        · replace h := of_ifp h c4
          exact ret_i h
        · replace h := of_ifn h c4
          refine ite_i (fun c5 => ?_) (fun c5 => ?_)
          · replace h := of_ifp h c5
            exact ret_i h
          · replace h := of_ifn h c5
            exact ret_i h
theorem f_X5_headOf {X : Sx} {l : Launch} {x0 : Int32} {x1 : Int32} {σ : AH} {v : Int32} {σ' : AH} (hs : Sh σ) (h : F_X5_headOf x0 x1 σ = some (v, σ')) : Call X l m_X5_headOf 0 [.int x0, .int x1] σ (some (.int v)) σ' :=
  Call.ofE ok_X5_headOf rfl (Nat.le_of_ble_eq_true rfl) (w_X5_headOf_0 hs  (t_X5_headOf_0 (Nat.le_refl _) hs  h))
def F_X5_readHead_150 (x1 : Int32) (x4 : Int32) (y0 : Int32) (y1 : Int32) (σ : AH) : Option (Int32 × AH) := (if inB y1 16 = true then (if x1 = (7 : Int32) then (bv (F_X5_emit (0 : Int32) x4 (sI σ 24 y1.toNatClampNeg y0)) fun σ45 => (some ((1 : Int32), σ45))) else (bd (G_X5_readSum (0 : Int32) (sI σ 24 y1.toNatClampNeg y0)) fun v43 σ39 => (if v43 = 0 ∨ v43 = 1 then some (v43, σ39) else none))) else none)
def F_X5_readHead_110 (x1 : Int32) (x2 : Int32) (x4 : Int32) (x5 : Int32) (y0 : Int32) (σ : AH) : Option (Int32 × AH) := (if y0 = (-1 : Int32) then (some ((0 : Int32), σ)) else (if x2 = 0 then (bd (F_X5_headOf x1 x4 σ) fun v30 σ26 => (F_X5_readHead_150 x1 x4 v30 (gI σ 22 2) σ26)) else (bd (F_X11_needHead x4 x5 y0 σ) fun v36 σ32 => (F_X5_readHead_150 x1 x4 v36 (gI σ 22 2) σ32))))
def F_X5_readHead_86 (x1 : Int32) (x2 : Int32) (x4 : Int32) (y0 : Int32) (σ : AH) : Option (Int32 × AH) := (if y0 = (-1 : Int32) then (some ((0 : Int32), σ)) else (if x1 = 0 then (bd (F_X5_takeWord 5 σ) fun v24 σ20 => (F_X5_readHead_110 x1 x2 x4 y0 v24 σ20)) else (F_X5_readHead_110 x1 x2 x4 y0 (5 : Int32) σ)))
def F_X5_readHead_57 (x1 : Int32) (x2 : Int32) (y0 : Int32) (σ : AH) : Option (Int32 × AH) := (if x1 = (-1 : Int32) then (some ((0 : Int32), σ)) else (if y0 = (-1 : Int32) then (some ((0 : Int32), σ)) else (if x2 = 0 then (F_X5_readHead_86 x1 x2 y0 (0 : Int32) σ) else (bd (F_X5_takeWord 4 σ) fun v18 σ14 => (F_X5_readHead_86 x1 x2 y0 v18 σ14)))))
def F_X5_readHead_42 (x1 : Int32) (x2 : Int32) (y0 : Int32) (σ : AH) : Option (Int32 × AH) := (if y0 = 0 then (F_X5_readHead_57 x1 x2 (0 : Int32) σ) else (bd (F_X5_takeWord 3 σ) fun v12 σ8 => (F_X5_readHead_57 x1 x2 v12 σ8)))
def F_X5_readHead_37 (x1 : Int32) (x2 : Int32) (σ : AH) : Option (Int32 × AH) := (F_X5_readHead_42 x1 x2 (1 : Int32) σ)
def F_X5_readHead_21 (x1 : Int32) (y0 : Int32) (σ : AH) : Option (Int32 × AH) := (if y0 = 0 then (if x1 = (3 : Int32) then (F_X5_readHead_37 x1 y0 σ) else (if x1 = (7 : Int32) then (F_X5_readHead_37 x1 y0 σ) else (F_X5_readHead_42 x1 y0 (0 : Int32) σ))) else (F_X5_readHead_37 x1 y0 σ))
def F_X5_readHead_16 (x1 : Int32) (σ : AH) : Option (Int32 × AH) := (F_X5_readHead_21 x1 (1 : Int32) σ)
def F_X5_readHead (σ : AH) : Option (Int32 × AH) := (bd (F_X5_takeWord 2 σ) fun v6 σ2 => (if v6 = 0 then (F_X5_readHead_16 v6 σ2) else (if v6 = (1 : Int32) then (F_X5_readHead_16 v6 σ2) else (F_X5_readHead_21 v6 (0 : Int32) σ2))))
set_option maxRecDepth 100000 in
theorem t_X5_readHead_150 {X : Sx} {l : Launch} {D : Nat} {x1 : Int32} {x4 : Int32} {y0 : Int32} {y1 : Int32} {σ : AH} {v : Int32} {σ' : AH} (hD : 75 ≤ D) (hs : Sh σ) (h : F_X5_readHead_150 x1 x4 y0 y1 σ = some (v, σ')) : W_X5_readHead_150 X l D x1 x4 y0 y1 σ (some (.int v)) σ' := by
  unfold F_X5_readHead_150 at h
  unfold W_X5_readHead_150
  obtain ⟨g1, h⟩ := of_gd h
  refine ⟨(inB_mp g1), ?_⟩
  refine ite_i (fun c2 => ?_) (fun c2 => ?_)
  · replace h := of_ifp h c2
    obtain ⟨σ45, q3, h⟩ := of_bv h
    have hC4 := f_X5_emit (σ := (sI σ 24 y1.toNatClampNeg y0)) hs  q3 (X := X) (l := l)
    have hs5 := hC4.1.2.2.2.1 hs
    refine ⟨0, σ45, (Nat.le_trans (by decide) hD), hC4, ?_⟩
    exact ret_i h
  · replace h := of_ifn h c2
    obtain ⟨v43, σ39, q6, h⟩ := of_bd h
    have hC7 := g_X5_readSum (σ := (sI σ 24 y1.toNatClampNeg y0)) hs  q6 (X := X) (l := l)
    have hs8 := hC7.1.2.2.2.1 hs
    refine ⟨74, v43, σ39, (Nat.le_trans (by decide) hD), hC7, ?_⟩
    exact ⟨(of_gd h).1, ret_i (of_gd h).2⟩
set_option maxRecDepth 100000 in
theorem t_X5_readHead_110 {X : Sx} {l : Launch} {D : Nat} {x1 : Int32} {x2 : Int32} {x4 : Int32} {x5 : Int32} {y0 : Int32} {σ : AH} {v : Int32} {σ' : AH} (hD : 75 ≤ D) (hs : Sh σ) (h : F_X5_readHead_110 x1 x2 x4 x5 y0 σ = some (v, σ')) : W_X5_readHead_110 X l D x1 x2 x4 x5 y0 σ (some (.int v)) σ' := by
  unfold F_X5_readHead_110 at h
  unfold W_X5_readHead_110
  refine ite_i (fun c1 => ?_) (fun c1 => ?_)
  · replace h := of_ifp h c1
    exact ret_i h
  · replace h := of_ifn h c1
    refine ite_i (fun c2 => ?_) (fun c2 => ?_)
    · replace h := of_ifp h c2
      obtain ⟨v30, σ26, q3, h⟩ := of_bd h
      have hC4 := f_X5_headOf (σ := σ) hs  q3 (X := X) (l := l)
      have hs5 := hC4.1.2.2.2.1 hs
      refine ⟨0, v30, σ26, (Nat.le_trans (by decide) hD), hC4, ?_⟩
      exact t_X5_readHead_150 hD  hs5  h
    · replace h := of_ifn h c2
      obtain ⟨v36, σ32, q6, h⟩ := of_bd h
      have hC7 := f_X11_needHead (σ := σ) hs  q6 (X := X) (l := l)
      have hs8 := hC7.1.2.2.2.1 hs
      refine ⟨0, v36, σ32, (Nat.le_trans (by decide) hD), hC7, ?_⟩
      exact t_X5_readHead_150 hD  hs8  h
set_option maxRecDepth 100000 in
theorem t_X5_readHead_86 {X : Sx} {l : Launch} {D : Nat} {x1 : Int32} {x2 : Int32} {x4 : Int32} {y0 : Int32} {σ : AH} {v : Int32} {σ' : AH} (hD : 75 ≤ D) (hs : Sh σ) (h : F_X5_readHead_86 x1 x2 x4 y0 σ = some (v, σ')) : W_X5_readHead_86 X l D x1 x2 x4 y0 σ (some (.int v)) σ' := by
  unfold F_X5_readHead_86 at h
  unfold W_X5_readHead_86
  refine ite_i (fun c1 => ?_) (fun c1 => ?_)
  · replace h := of_ifp h c1
    exact ret_i h
  · replace h := of_ifn h c1
    refine ite_i (fun c2 => ?_) (fun c2 => ?_)
    · replace h := of_ifp h c2
      obtain ⟨v24, σ20, q3, h⟩ := of_bd h
      have hC4 := f_X5_takeWord (σ := σ) hs (by first | assumption | exact st_stock (by assumption) | exact rn_site (by assumption) | decide) q3 (X := X) (l := l)
      have hs5 := hC4.1.2.2.2.1 hs
      refine ⟨9, v24, σ20, (Nat.le_trans (by decide) hD), hC4, ?_⟩
      exact t_X5_readHead_110 hD  hs5  h
    · replace h := of_ifn h c2
      exact t_X5_readHead_110 hD  hs  h
set_option maxRecDepth 100000 in
theorem t_X5_readHead_57 {X : Sx} {l : Launch} {D : Nat} {x1 : Int32} {x2 : Int32} {y0 : Int32} {σ : AH} {v : Int32} {σ' : AH} (hD : 75 ≤ D) (hs : Sh σ) (h : F_X5_readHead_57 x1 x2 y0 σ = some (v, σ')) : W_X5_readHead_57 X l D x1 x2 y0 σ (some (.int v)) σ' := by
  unfold F_X5_readHead_57 at h
  unfold W_X5_readHead_57
  refine ite_i (fun c1 => ?_) (fun c1 => ?_)
  · replace h := of_ifp h c1
    exact ret_i h
  · replace h := of_ifn h c1
    refine ite_i (fun c2 => ?_) (fun c2 => ?_)
    · replace h := of_ifp h c2
      exact ret_i h
    · replace h := of_ifn h c2
      refine ite_i (fun c3 => ?_) (fun c3 => ?_)
      · replace h := of_ifp h c3
        exact t_X5_readHead_86 hD  hs  h
      · replace h := of_ifn h c3
        obtain ⟨v18, σ14, q4, h⟩ := of_bd h
        have hC5 := f_X5_takeWord (σ := σ) hs (by first | assumption | exact st_stock (by assumption) | exact rn_site (by assumption) | decide) q4 (X := X) (l := l)
        have hs6 := hC5.1.2.2.2.1 hs
        refine ⟨9, v18, σ14, (Nat.le_trans (by decide) hD), hC5, ?_⟩
        exact t_X5_readHead_86 hD  hs6  h
set_option maxRecDepth 100000 in
theorem t_X5_readHead_42 {X : Sx} {l : Launch} {D : Nat} {x1 : Int32} {x2 : Int32} {y0 : Int32} {σ : AH} {v : Int32} {σ' : AH} (hD : 75 ≤ D) (hs : Sh σ) (h : F_X5_readHead_42 x1 x2 y0 σ = some (v, σ')) : W_X5_readHead_42 X l D x1 x2 y0 σ (some (.int v)) σ' := by
  unfold F_X5_readHead_42 at h
  unfold W_X5_readHead_42
  refine ite_i (fun c1 => ?_) (fun c1 => ?_)
  · replace h := of_ifp h c1
    exact t_X5_readHead_57 hD  hs  h
  · replace h := of_ifn h c1
    obtain ⟨v12, σ8, q2, h⟩ := of_bd h
    have hC3 := f_X5_takeWord (σ := σ) hs (by first | assumption | exact st_stock (by assumption) | exact rn_site (by assumption) | decide) q2 (X := X) (l := l)
    have hs4 := hC3.1.2.2.2.1 hs
    refine ⟨9, v12, σ8, (Nat.le_trans (by decide) hD), hC3, ?_⟩
    exact t_X5_readHead_57 hD  hs4  h
set_option maxRecDepth 100000 in
theorem t_X5_readHead_37 {X : Sx} {l : Launch} {D : Nat} {x1 : Int32} {x2 : Int32} {σ : AH} {v : Int32} {σ' : AH} (hD : 75 ≤ D) (hs : Sh σ) (h : F_X5_readHead_37 x1 x2 σ = some (v, σ')) : W_X5_readHead_37 X l D x1 x2 σ (some (.int v)) σ' := by
  unfold F_X5_readHead_37 at h
  unfold W_X5_readHead_37
  exact t_X5_readHead_42 hD  hs  h
set_option maxRecDepth 100000 in
theorem t_X5_readHead_21 {X : Sx} {l : Launch} {D : Nat} {x1 : Int32} {y0 : Int32} {σ : AH} {v : Int32} {σ' : AH} (hD : 75 ≤ D) (hs : Sh σ) (h : F_X5_readHead_21 x1 y0 σ = some (v, σ')) : W_X5_readHead_21 X l D x1 y0 σ (some (.int v)) σ' := by
  unfold F_X5_readHead_21 at h
  unfold W_X5_readHead_21
  refine ite_i (fun c1 => ?_) (fun c1 => ?_)
  · replace h := of_ifp h c1
    refine ite_i (fun c2 => ?_) (fun c2 => ?_)
    · replace h := of_ifp h c2
      exact t_X5_readHead_37 hD  hs  h
    · replace h := of_ifn h c2
      refine ite_i (fun c3 => ?_) (fun c3 => ?_)
      · replace h := of_ifp h c3
        exact t_X5_readHead_37 hD  hs  h
      · replace h := of_ifn h c3
        exact t_X5_readHead_42 hD  hs  h
  · replace h := of_ifn h c1
    exact t_X5_readHead_37 hD  hs  h
set_option maxRecDepth 100000 in
theorem t_X5_readHead_16 {X : Sx} {l : Launch} {D : Nat} {x1 : Int32} {σ : AH} {v : Int32} {σ' : AH} (hD : 75 ≤ D) (hs : Sh σ) (h : F_X5_readHead_16 x1 σ = some (v, σ')) : W_X5_readHead_16 X l D x1 σ (some (.int v)) σ' := by
  unfold F_X5_readHead_16 at h
  unfold W_X5_readHead_16
  exact t_X5_readHead_21 hD  hs  h
set_option maxRecDepth 100000 in
theorem t_X5_readHead_0 {X : Sx} {l : Launch} {D : Nat} {σ : AH} {v : Int32} {σ' : AH} (hD : 75 ≤ D) (hs : Sh σ) (h : F_X5_readHead σ = some (v, σ')) : W_X5_readHead_0 X l D σ (some (.int v)) σ' := by
  unfold F_X5_readHead at h
  unfold W_X5_readHead_0
  obtain ⟨v6, σ2, q1, h⟩ := of_bd h
  have hC2 := f_X5_takeWord (σ := σ) hs (by first | assumption | exact st_stock (by assumption) | exact rn_site (by assumption) | decide) q1 (X := X) (l := l)
  have hs3 := hC2.1.2.2.2.1 hs
  refine ⟨9, v6, σ2, (Nat.le_trans (by decide) hD), hC2, ?_⟩
  refine ite_i (fun c4 => ?_) (fun c4 => ?_)
  · replace h := of_ifp h c4
    exact t_X5_readHead_16 hD  hs3  h
  · replace h := of_ifn h c4
    refine ite_i (fun c5 => ?_) (fun c5 => ?_)
    · replace h := of_ifp h c5
      exact t_X5_readHead_16 hD  hs3  h
    · replace h := of_ifn h c5
      exact t_X5_readHead_21 hD  hs3  h
theorem f_X5_readHead {X : Sx} {l : Launch} {σ : AH} {v : Int32} {σ' : AH} (hs : Sh σ) (h : F_X5_readHead σ = some (v, σ')) : Call X l m_X5_readHead 75 [.ref 22] σ (some (.int v)) σ' :=
  Call.ofE ok_X5_readHead rfl (Nat.le_of_ble_eq_true rfl) (w_X5_readHead_0 hs  (t_X5_readHead_0 (Nat.le_refl _) hs  h))
def F_X5_readStrike (σ : AH) : Option (Int32 × AH) := (if (gI σ 22 11) = (2 : Int32) then (if (gI σ 22 12) < (24 : Int32) then (bv (F_X5_step σ) fun σ2 => (bd (F_X5_isWord 1 σ2) fun v11 σ7 => (if v11 = 0 then (some ((0 : Int32), σ7)) else (bv (F_X5_step σ7) fun σ13 => (if (gI σ13 22 11) = (2 : Int32) then (if (gI σ13 22 12) < (16 : Int32) then (if inB (gI σ13 22 2) 16 = true then (if inB (gI (sI σ13 24 ((gI σ13 22 2).toNatClampNeg) (62 : Int32)) 22 2) 16 = true then (lt (sI (sI σ13 24 ((gI σ13 22 2).toNatClampNeg) (62 : Int32)) 25 ((gI (sI σ13 24 ((gI σ13 22 2).toNatClampNeg) (62 : Int32)) 22 2).toNatClampNeg) (((gI σ 22 12) * (16 : Int32)) + (gI (sI σ13 24 ((gI σ13 22 2).toNatClampNeg) (62 : Int32)) 22 12))) fun τ19 => (bv (F_X5_step τ19) fun σ23 => (some ((1 : Int32), σ23)))) else none) else none) else (some ((0 : Int32), σ13))) else (some ((0 : Int32), σ13))))))) else (some ((0 : Int32), σ))) else (some ((0 : Int32), σ)))
set_option maxRecDepth 100000 in
theorem t_X5_readStrike_0 {X : Sx} {l : Launch} {D : Nat} {σ : AH} {v : Int32} {σ' : AH} (hD : 10 ≤ D) (hs : Sh σ) (h : F_X5_readStrike σ = some (v, σ')) : W_X5_readStrike_0 X l D σ (some (.int v)) σ' := by
  unfold F_X5_readStrike at h
  unfold W_X5_readStrike_0
  refine ite_i (fun c1 => ?_) (fun c1 => ?_)
  · replace h := of_ifp h c1
    refine ite_i (fun c2 => ?_) (fun c2 => ?_)
    · replace h := of_ifp h c2
      obtain ⟨σ2, q3, h⟩ := of_bv h
      have hC4 := f_X5_step (σ := σ) hs  q3 (X := X) (l := l)
      have hs5 := hC4.1.2.2.2.1 hs
      refine ⟨1, σ2, (Nat.le_trans (by decide) hD), hC4, ?_⟩
      obtain ⟨v11, σ7, q6, h⟩ := of_bd h
      have hC7 := f_X5_isWord (σ := σ2) hs5 (by first | assumption | exact st_stock (by assumption) | exact rn_site (by assumption) | decide) q6 (X := X) (l := l)
      have hs8 := hC7.1.2.2.2.1 hs5
      refine ⟨9, v11, σ7, (Nat.le_trans (by decide) hD), hC7, ?_⟩
      refine ite_i (fun c9 => ?_) (fun c9 => ?_)
      · replace h := of_ifp h c9
        exact ret_i h
      · replace h := of_ifn h c9
        obtain ⟨σ13, q10, h⟩ := of_bv h
        have hC11 := f_X5_step (σ := σ7) hs8  q10 (X := X) (l := l)
        have hs12 := hC11.1.2.2.2.1 hs8
        refine ⟨1, σ13, (Nat.le_trans (by decide) hD), hC11, ?_⟩
        refine ite_i (fun c13 => ?_) (fun c13 => ?_)
        · replace h := of_ifp h c13
          refine ite_i (fun c14 => ?_) (fun c14 => ?_)
          · replace h := of_ifp h c14
            obtain ⟨g15, h⟩ := of_gd h
            refine ⟨(inB_mp g15), ?_⟩
            obtain ⟨g16, h⟩ := of_gd h
            refine ⟨(inB_mp g16), ?_⟩
            intro τ19 e17
            replace h := of_lt h e17
            have hs18 : Sh τ19 := by rw [e17]; exact hs12
            obtain ⟨σ23, q19, h⟩ := of_bv h
            have hC20 := f_X5_step (σ := τ19) hs18  q19 (X := X) (l := l)
            have hs21 := hC20.1.2.2.2.1 hs18
            refine ⟨1, σ23, (Nat.le_trans (by decide) hD), hC20, ?_⟩
            exact ret_i h
          · replace h := of_ifn h c14
            exact ret_i h
        · replace h := of_ifn h c13
          exact ret_i h
    · replace h := of_ifn h c2
      exact ret_i h
  · replace h := of_ifn h c1
    exact ret_i h
theorem f_X5_readStrike {X : Sx} {l : Launch} {σ : AH} {v : Int32} {σ' : AH} (hs : Sh σ) (h : F_X5_readStrike σ = some (v, σ')) : Call X l m_X5_readStrike 10 [.ref 22] σ (some (.int v)) σ' :=
  Call.ofE ok_X5_readStrike rfl (Nat.le_of_ble_eq_true rfl) (w_X5_readStrike_0 hs  (t_X5_readStrike_0 (Nat.le_refl _) hs  h))
def F_X5_readClause_80 (σ : AH) : Option (Int32 × AH) := (bv (F_X5_emit (15 : Int32) (0 : Int32) σ) fun σ49 => (some ((1 : Int32), σ49)))
def F_X5_readClause (σ : AH) : Option (Int32 × AH) := (if inB (gI σ 22 2) 16 = true then (if inB (gI (sI σ 26 ((gI σ 22 2).toNatClampNeg) (gI σ 22 7)) 22 2) 16 = true then (bd (F_X5_isWord 0 (sI (sI σ 26 ((gI σ 22 2).toNatClampNeg) (gI σ 22 7)) 25 ((gI (sI σ 26 ((gI σ 22 2).toNatClampNeg) (gI σ 22 7)) 22 2).toNatClampNeg) (0 : Int32))) fun v8 σ4 => (if v8 = 0 then (bd (F_X5_readHead σ4) fun v14 σ10 => (if v14 = 0 then (some ((0 : Int32), σ10)) else (bd (F_X5_isWord 8 σ10) fun v20 σ16 => (if v20 = 0 then (F_X5_readClause_80 σ16) else (bv (F_X5_step σ16) fun σ22 => (bd (G_X5_readTest (0 : Int32) σ22) fun v31 σ27 => (if v31 = 0 then (some ((0 : Int32), σ27)) else (bv (F_X5_emit (14 : Int32) (0 : Int32) σ27) fun σ33 => (F_X5_readClause_80 σ33))))))))) else (bv (F_X5_step σ4) fun σ38 => (bd (F_X5_readStrike σ38) fun v47 σ43 => (if v47 = 0 ∨ v47 = 1 then some (v47, σ43) else none))))) else none) else none)
set_option maxRecDepth 100000 in
theorem t_X5_readClause_80 {X : Sx} {l : Launch} {D : Nat} {σ : AH} {v : Int32} {σ' : AH} (hD : 76 ≤ D) (hs : Sh σ) (h : F_X5_readClause_80 σ = some (v, σ')) : W_X5_readClause_80 X l D σ (some (.int v)) σ' := by
  unfold F_X5_readClause_80 at h
  unfold W_X5_readClause_80
  obtain ⟨σ49, q1, h⟩ := of_bv h
  have hC2 := f_X5_emit (σ := σ) hs  q1 (X := X) (l := l)
  have hs3 := hC2.1.2.2.2.1 hs
  refine ⟨0, σ49, (Nat.le_trans (by decide) hD), hC2, ?_⟩
  exact ret_i h
set_option maxRecDepth 100000 in
theorem t_X5_readClause_0 {X : Sx} {l : Launch} {D : Nat} {σ : AH} {v : Int32} {σ' : AH} (hD : 76 ≤ D) (hs : Sh σ) (h : F_X5_readClause σ = some (v, σ')) : W_X5_readClause_0 X l D σ (some (.int v)) σ' := by
  unfold F_X5_readClause at h
  unfold W_X5_readClause_0
  obtain ⟨g1, h⟩ := of_gd h
  refine ⟨(inB_mp g1), ?_⟩
  obtain ⟨g2, h⟩ := of_gd h
  refine ⟨(inB_mp g2), ?_⟩
  obtain ⟨v8, σ4, q3, h⟩ := of_bd h
  have hC4 := f_X5_isWord (σ := (sI (sI σ 26 ((gI σ 22 2).toNatClampNeg) (gI σ 22 7)) 25 ((gI (sI σ 26 ((gI σ 22 2).toNatClampNeg) (gI σ 22 7)) 22 2).toNatClampNeg) (0 : Int32))) hs (by first | assumption | exact st_stock (by assumption) | exact rn_site (by assumption) | decide) q3 (X := X) (l := l)
  have hs5 := hC4.1.2.2.2.1 hs
  refine ⟨9, v8, σ4, (Nat.le_trans (by decide) hD), hC4, ?_⟩
  refine ite_i (fun c6 => ?_) (fun c6 => ?_)
  · replace h := of_ifp h c6
    obtain ⟨v14, σ10, q7, h⟩ := of_bd h
    have hC8 := f_X5_readHead (σ := σ4) hs5  q7 (X := X) (l := l)
    have hs9 := hC8.1.2.2.2.1 hs5
    refine ⟨75, v14, σ10, (Nat.le_trans (by decide) hD), hC8, ?_⟩
    refine ite_i (fun c10 => ?_) (fun c10 => ?_)
    · replace h := of_ifp h c10
      exact ret_i h
    · replace h := of_ifn h c10
      obtain ⟨v20, σ16, q11, h⟩ := of_bd h
      have hC12 := f_X5_isWord (σ := σ10) hs9 (by first | assumption | exact st_stock (by assumption) | exact rn_site (by assumption) | decide) q11 (X := X) (l := l)
      have hs13 := hC12.1.2.2.2.1 hs9
      refine ⟨9, v20, σ16, (Nat.le_trans (by decide) hD), hC12, ?_⟩
      refine ite_i (fun c14 => ?_) (fun c14 => ?_)
      · replace h := of_ifp h c14
        exact t_X5_readClause_80 hD  hs13  h
      · replace h := of_ifn h c14
        obtain ⟨σ22, q15, h⟩ := of_bv h
        have hC16 := f_X5_step (σ := σ16) hs13  q15 (X := X) (l := l)
        have hs17 := hC16.1.2.2.2.1 hs13
        refine ⟨1, σ22, (Nat.le_trans (by decide) hD), hC16, ?_⟩
        obtain ⟨v31, σ27, q18, h⟩ := of_bd h
        have hC19 := g_X5_readTest (σ := σ22) hs17  q18 (X := X) (l := l)
        have hs20 := hC19.1.2.2.2.1 hs17
        refine ⟨74, v31, σ27, (Nat.le_trans (by decide) hD), hC19, ?_⟩
        refine ite_i (fun c21 => ?_) (fun c21 => ?_)
        · replace h := of_ifp h c21
          exact ret_i h
        · replace h := of_ifn h c21
          obtain ⟨σ33, q22, h⟩ := of_bv h
          have hC23 := f_X5_emit (σ := σ27) hs20  q22 (X := X) (l := l)
          have hs24 := hC23.1.2.2.2.1 hs20
          refine ⟨0, σ33, (Nat.le_trans (by decide) hD), hC23, ?_⟩
          exact t_X5_readClause_80 hD  hs24  h
  · replace h := of_ifn h c6
    obtain ⟨σ38, q25, h⟩ := of_bv h
    have hC26 := f_X5_step (σ := σ4) hs5  q25 (X := X) (l := l)
    have hs27 := hC26.1.2.2.2.1 hs5
    refine ⟨1, σ38, (Nat.le_trans (by decide) hD), hC26, ?_⟩
    obtain ⟨v47, σ43, q28, h⟩ := of_bd h
    have hC29 := f_X5_readStrike (σ := σ38) hs27  q28 (X := X) (l := l)
    have hs30 := hC29.1.2.2.2.1 hs27
    refine ⟨10, v47, σ43, (Nat.le_trans (by decide) hD), hC29, ?_⟩
    exact ⟨(of_gd h).1, ret_i (of_gd h).2⟩
theorem f_X5_readClause {X : Sx} {l : Launch} {σ : AH} {v : Int32} {σ' : AH} (hs : Sh σ) (h : F_X5_readClause σ = some (v, σ')) : Call X l m_X5_readClause 76 [.ref 22] σ (some (.int v)) σ' :=
  Call.ofE ok_X5_readClause rfl (Nat.le_of_ble_eq_true rfl) (w_X5_readClause_0 hs  (t_X5_readClause_0 (Nat.le_refl _) hs  h))
def F_X5_read_73 (σ : AH) : Option (Int32 × AH) := (some ((gI σ 22 9), σ))
def B_X5_read_24 (k_X5_read_24 : AH → Option (Int32 × AH)) (σ : AH) : Option (Int32 × AH) := (if (16 : Int32) ≤ (gI σ 22 2) then (F_X5_read_73 σ) else (bd (F_X5_readClause σ) fun v11 σ7 => (if v11 = 0 then (F_X5_read_73 σ7) else (if (gI (sI σ7 22 2 ((gI σ7 22 2) + (1 : Int32))) 22 11) = 0 then (some ((-1 : Int32), (sI σ7 22 2 ((gI σ7 22 2) + (1 : Int32))))) else (bd (F_X5_takeSign (59 : Int32) (sI σ7 22 2 ((gI σ7 22 2) + (1 : Int32)))) fun v17 σ13 => (if v17 = 0 then (some ((gI σ13 22 9), σ13)) else (k_X5_read_24 σ13)))))))
def F_X5_read_24 : Nat → AH → Option (Int32 × AH) := fun k => match k with | 0 => fun  _ => none | k + 1 => B_X5_read_24 (F_X5_read_24 k)
def F_X5_read (σ : AH) : Option (Int32 × AH) := (bv (F_X5_step (sI (sI (sI (sI σ 22 2 (0 : Int32)) 22 7 (0 : Int32)) 22 8 (0 : Int32)) 22 10 (0 : Int32))) fun σ2 => (F_X5_read_24 BIG σ2))
set_option maxRecDepth 100000 in
theorem t_X5_read_73 {X : Sx} {l : Launch} {D : Nat} {σ : AH} {v : Int32} {σ' : AH} (hD : 77 ≤ D) (hs : Sh σ) (h : F_X5_read_73 σ = some (v, σ')) : W_X5_read_73 X l D σ (some (.int v)) σ' := by
  unfold F_X5_read_73 at h
  unfold W_X5_read_73
  exact ret_i h
set_option maxRecDepth 100000 in
theorem t_X5_read_24 {X : Sx} {l : Launch} {D : Nat} {k_X5_read_24 : AH → Option (Int32 × AH)} {σ : AH} {v : Int32} {σ' : AH} (hD : 77 ≤ D) (hk_X5_read_24 : ∀ (σ : AH) (v : Int32) (σ' : AH), Sh σ → k_X5_read_24 σ = some (v, σ') → E X l m_X5_read D 24 [(0, .ref 22)] [] σ (some (.int v)) σ') (hs : Sh σ) (h : B_X5_read_24 k_X5_read_24 σ = some (v, σ')) : W_X5_read_24 X l D σ (some (.int v)) σ' := by
  unfold B_X5_read_24 at h
  unfold W_X5_read_24
  refine ite_i (fun c1 => ?_) (fun c1 => ?_)
  · replace h := of_ifp h c1
    exact t_X5_read_73 hD  hs  h
  · replace h := of_ifn h c1
    obtain ⟨v11, σ7, q2, h⟩ := of_bd h
    have hC3 := f_X5_readClause (σ := σ) hs  q2 (X := X) (l := l)
    have hs4 := hC3.1.2.2.2.1 hs
    refine ⟨76, v11, σ7, (Nat.le_trans (by decide) hD), hC3, ?_⟩
    refine ite_i (fun c5 => ?_) (fun c5 => ?_)
    · replace h := of_ifp h c5
      exact t_X5_read_73 hD  hs4  h
    · replace h := of_ifn h c5
      refine ite_i (fun c6 => ?_) (fun c6 => ?_)
      · replace h := of_ifp h c6
        exact ret_i h
      · replace h := of_ifn h c6
        obtain ⟨v17, σ13, q7, h⟩ := of_bd h
        have hC8 := f_X5_takeSign (σ := (sI σ7 22 2 ((gI σ7 22 2) + (1 : Int32)))) hs4  q7 (X := X) (l := l)
        have hs9 := hC8.1.2.2.2.1 hs4
        refine ⟨2, v17, σ13, (Nat.le_trans (by decide) hD), hC8, ?_⟩
        refine ite_i (fun c10 => ?_) (fun c10 => ?_)
        · replace h := of_ifp h c10
          exact ret_i h
        · replace h := of_ifn h c10
          exact hk_X5_read_24  _ _ _ hs9  h
theorem e_X5_read_24 {X : Sx} {l : Launch} {D : Nat} (hD : 77 ≤ D) : ∀ (k : Nat) (σ : AH) (v : Int32) (σ' : AH), Sh σ → F_X5_read_24 k σ = some (v, σ') → E X l m_X5_read D 24 [(0, .ref 22)] [] σ (some (.int v)) σ' := by
  intro k
  induction k with
  | zero => intro σ v σ' hs h; cases h
  | succ k ih =>
    intro σ v σ' hs h
    exact w_X5_read_24 hs  (t_X5_read_24 hD ih hs  h)
set_option maxRecDepth 100000 in
theorem t_X5_read_0 {X : Sx} {l : Launch} {D : Nat} {σ : AH} {v : Int32} {σ' : AH} (hD : 77 ≤ D) (hs : Sh σ) (h : F_X5_read σ = some (v, σ')) : W_X5_read_0 X l D σ (some (.int v)) σ' := by
  unfold F_X5_read at h
  unfold W_X5_read_0
  obtain ⟨σ2, q1, h⟩ := of_bv h
  have hC2 := f_X5_step (σ := (sI (sI (sI (sI σ 22 2 (0 : Int32)) 22 7 (0 : Int32)) 22 8 (0 : Int32)) 22 10 (0 : Int32))) hs  q1 (X := X) (l := l)
  have hs3 := hC2.1.2.2.2.1 hs
  refine ⟨1, σ2, (Nat.le_trans (by decide) hD), hC2, ?_⟩
  exact e_X5_read_24 hD  _  _ _ _ hs3  h
theorem f_X5_read {X : Sx} {l : Launch} {σ : AH} {v : Int32} {σ' : AH} (hs : Sh σ) (h : F_X5_read σ = some (v, σ')) : Call X l m_X5_read 77 [.ref 22] σ (some (.int v)) σ' :=
  Call.ofE ok_X5_read rfl (Nat.le_of_ble_eq_true rfl) (w_X5_read_0 hs  (t_X5_read_0 (Nat.le_refl _) hs  h))
def F_X6_init (x0 : Nat) (σ : AH) : Option AH := (if kd σ x0 = (6, NO 6) then (if x0 < nx σ then (lt (aw σ 7 (NO 7)) fun τ1 => (bv (F_X7_init (nx σ) τ1) fun σ9 => (if alB m_X6_init x0 = true then (if shOX σ9 x0 0 = true then (lt (sR σ9 x0 0 (some (nx σ))) fun τ19 => (lt (aw τ19 100 1300) fun τ24 => (if alB m_X6_init x0 = true then (if shOX τ24 x0 1 = true then (lt (sR τ24 x0 1 (some (nx τ19))) fun τ33 => (if alB m_X6_init x0 = true then (if alB m_X6_init x0 = true then (if alB m_X6_init x0 = true then (some (sI (sI (sI τ33 x0 2 (-1 : Int32)) x0 3 (-1 : Int32)) x0 4 (-1 : Int32))) else none) else none) else none)) else none) else none))) else none) else none))) else none) else none)
set_option maxRecDepth 100000 in
theorem t_X6_init_0 {X : Sx} {l : Launch} {D : Nat} {x0 : Nat} {σ : AH} {σ' : AH} (hD : 2 ≤ D) (h : F_X6_init x0 σ = some σ') : W_X6_init_0 X l D x0 σ none σ' := by
  unfold F_X6_init at h
  unfold W_X6_init_0
  obtain ⟨g1, h⟩ := of_gd h
  refine ⟨g1, ?_⟩
  obtain ⟨g2, h⟩ := of_gd h
  refine ⟨g2, ?_⟩
  refine ⟨Nat.le_trans (by decide) hD, ?_⟩
  intro τ1 e3
  replace h := of_lt h e3
  obtain ⟨σ9, q4, h⟩ := of_bv h
  have hC5 := f_X7_init  q4 (X := X) (l := l)
  refine ⟨1, σ9, (Nat.le_trans (by decide) hD), hC5, ?_⟩
  obtain ⟨g7, h⟩ := of_gd h
  refine ⟨(alB_mp g7), ?_⟩
  obtain ⟨g8, h⟩ := of_gd h
  refine ⟨(fun q => shOX_mp g8 q), ?_⟩
  intro τ19 e9
  replace h := of_lt h e9
  intro τ24 e10
  replace h := of_lt h e10
  obtain ⟨g11, h⟩ := of_gd h
  refine ⟨(alB_mp g11), ?_⟩
  obtain ⟨g12, h⟩ := of_gd h
  refine ⟨(fun q => shOX_mp g12 q), ?_⟩
  intro τ33 e13
  replace h := of_lt h e13
  obtain ⟨g14, h⟩ := of_gd h
  refine ⟨(alB_mp g14), ?_⟩
  obtain ⟨g15, h⟩ := of_gd h
  refine ⟨(alB_mp g15), ?_⟩
  obtain ⟨g16, h⟩ := of_gd h
  refine ⟨(alB_mp g16), ?_⟩
  exact ret_v h
theorem f_X6_init {X : Sx} {l : Launch} {x0 : Nat} {σ : AH} {σ' : AH} (h : F_X6_init x0 σ = some σ') : Call X l m_X6_init 2 [.ref x0] σ none σ' :=
  Call.ofE ok_X6_init rfl (Nat.le_of_ble_eq_true rfl) (w_X6_init_0  (t_X6_init_0 (Nat.le_refl _)  h))
def F_X6_isOf (x0 : Nat) (x1 : Int32) (x2 : Int32) (x3 : Int32) (σ : AH) : Option (Int32 × AH) := (if (gI σ x0 2) = x1 then (if (gI σ x0 3) = x2 then (if (gI σ x0 4) = x3 then (some ((1 : Int32), σ)) else (some ((0 : Int32), σ))) else (some ((0 : Int32), σ))) else (some ((0 : Int32), σ)))
set_option maxRecDepth 100000 in
theorem t_X6_isOf_0 {X : Sx} {l : Launch} {D : Nat} {x0 : Nat} {x1 : Int32} {x2 : Int32} {x3 : Int32} {σ : AH} {v : Int32} {σ' : AH} (hD : 0 ≤ D) (hs : Sh σ) (hmx0 : x0 ∈ runIds) (h : F_X6_isOf x0 x1 x2 x3 σ = some (v, σ')) : W_X6_isOf_0 X l D x0 x1 x2 x3 σ (some (.int v)) σ' := by
  unfold F_X6_isOf at h
  unfold W_X6_isOf_0
  refine ite_i (fun c1 => ?_) (fun c1 => ?_)
  · replace h := of_ifp h c1
    refine ite_i (fun c2 => ?_) (fun c2 => ?_)
    · replace h := of_ifp h c2
      refine ite_i (fun c3 => ?_) (fun c3 => ?_)
      · replace h := of_ifp h c3
        exact ret_i h
      · replace h := of_ifn h c3
        exact ret_i h
    · replace h := of_ifn h c2
      exact ret_i h
  · replace h := of_ifn h c1
    exact ret_i h
theorem f_X6_isOf {X : Sx} {l : Launch} {x0 : Nat} {x1 : Int32} {x2 : Int32} {x3 : Int32} {σ : AH} {v : Int32} {σ' : AH} (hs : Sh σ) (hmx0 : x0 ∈ runIds) (h : F_X6_isOf x0 x1 x2 x3 σ = some (v, σ')) : Call X l m_X6_isOf 0 [.ref x0, .int x1, .int x2, .int x3] σ (some (.int v)) σ' :=
  Call.ofE ok_X6_isOf rfl (Nat.le_of_ble_eq_true rfl) (w_X6_isOf_0 hs hmx0 (t_X6_isOf_0 (Nat.le_refl _) hs hmx0 h))
def F_X6_open (x0 : Nat) (x1 : Int32) (x2 : Int32) (x3 : Int32) (σ : AH) : Option AH := (bv (F_X7_empty (x0 + 1) (sI (sI (sI σ x0 2 x1) x0 3 x2) x0 4 x3)) fun σ2 => (some σ2))
set_option maxRecDepth 100000 in
theorem t_X6_open_0 {X : Sx} {l : Launch} {D : Nat} {x0 : Nat} {x1 : Int32} {x2 : Int32} {x3 : Int32} {σ : AH} {σ' : AH} (hD : 2 ≤ D) (hs : Sh σ) (hmx0 : x0 ∈ runIds) (h : F_X6_open x0 x1 x2 x3 σ = some σ') : W_X6_open_0 X l D x0 x1 x2 x3 σ none σ' := by
  unfold F_X6_open at h
  unfold W_X6_open_0
  obtain ⟨σ2, q1, h⟩ := of_bv h
  have hC2 := f_X7_empty (σ := (sI (sI (sI σ x0 2 x1) x0 3 x2) x0 4 x3)) hs (by first | assumption | exact st_stock (by assumption) | exact rn_site (by assumption) | decide) q1 (X := X) (l := l)
  have hs3 := hC2.1.2.2.2.1 hs
  refine ⟨1, σ2, (Nat.le_trans (by decide) hD), hC2, ?_⟩
  exact ret_v h
theorem f_X6_open {X : Sx} {l : Launch} {x0 : Nat} {x1 : Int32} {x2 : Int32} {x3 : Int32} {σ : AH} {σ' : AH} (hs : Sh σ) (hmx0 : x0 ∈ runIds) (h : F_X6_open x0 x1 x2 x3 σ = some σ') : Call X l m_X6_open 2 [.ref x0, .int x1, .int x2, .int x3] σ none σ' :=
  Call.ofE ok_X6_open rfl (Nat.le_of_ble_eq_true rfl) (w_X6_open_0 hs hmx0 (t_X6_open_0 (Nat.le_refl _) hs hmx0 h))
end
