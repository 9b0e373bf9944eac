section
def F_X6_keepStock (x0 : Nat) (x1 : Int32) (σ : AH) : Option AH := (if ¬ (x1 * (5 : Int32)) < 0 then (if 0 + 5 ≤ 5 then (if (x1 * (5 : Int32)).toNatClampNeg + 5 ≤ 1300 then (lt (sA σ (x0 + 11) (va_cpy (gI σ ((x0 + 1) + 1)) (gI σ (x0 + 11)) 0 ((x1 * (5 : Int32)).toNatClampNeg) 5)) fun τ7 => (some τ7)) else none) else none) else none)
set_option maxRecDepth 100000 in
theorem t_X6_keepStock_0 {X : Sx} {l : Launch} {D : Nat} {x0 : Nat} {x1 : Int32} {σ : AH} {σ' : AH} (hD : 1 ≤ D) (hs : Sh σ) (hmx0 : x0 ∈ runIds) (h : F_X6_keepStock x0 x1 σ = some σ') : W_X6_keepStock_0 X l D x0 x1 σ none σ' := by
  unfold F_X6_keepStock at h
  unfold W_X6_keepStock_0
  obtain ⟨g1, h⟩ := of_gd h
  refine ⟨g1, ?_⟩
  obtain ⟨g2, h⟩ := of_gd h
  refine ⟨g2, ?_⟩
  obtain ⟨g3, h⟩ := of_gd h
  refine ⟨g3, ?_⟩
  refine ⟨Nat.le_trans (by decide) hD, ?_⟩
  intro τ7 e4
  replace h := of_lt h e4
  have hs5 : Sh τ7 := by rw [e4]; exact hs
  exact ret_v h
theorem f_X6_keepStock {X : Sx} {l : Launch} {x0 : Nat} {x1 : Int32} {σ : AH} {σ' : AH} (hs : Sh σ) (hmx0 : x0 ∈ runIds) (h : F_X6_keepStock x0 x1 σ = some σ') : Call X l m_X6_keepStock 1 [.ref x0, .int x1] σ none σ' :=
  Call.ofE ok_X6_keepStock rfl (Nat.le_of_ble_eq_true rfl) (w_X6_keepStock_0 hs hmx0 (t_X6_keepStock_0 (Nat.le_refl _) hs hmx0 h))
def F_X7_waitsForNeeds_85 (σ : AH) : Option (Int32 × AH) := (some ((1 : Int32), σ))
def F_X7_waitsForNeeds_58 (x0 : Nat) (x2 : Int32) (x3 : Int32) (y0 : Int32) (σ : AH) : Option (Int32 × AH) := (if y0 = 0 then (some ((0 : Int32), σ)) else (if inB x3 90 = true then (if (gI σ (x0 + 8) x3.toNatClampNeg) = (-1 : Int32) then (F_X7_waitsForNeeds_85 σ) else (if inB x3 90 = true then (if (gI σ (x0 + 8) x3.toNatClampNeg) ≤ x2 then (some ((0 : Int32), σ)) else (F_X7_waitsForNeeds_85 σ)) else none)) else none))
def F_X7_waitsForNeeds_57 (x0 : Nat) (x2 : Int32) (x3 : Int32) (σ : AH) : Option (Int32 × AH) := (F_X7_waitsForNeeds_58 x0 x2 x3 (0 : Int32) σ)
def F_X7_waitsForNeeds_33 (x0 : Nat) (x2 : Int32) (x3 : Int32) (σ : AH) : Option (Int32 × AH) := (if inB x3 90 = true then (if (gI σ (x0 + 7) x3.toNatClampNeg) = (-1 : Int32) then (F_X7_waitsForNeeds_57 x0 x2 x3 σ) else (if inB x3 90 = true then (if x2 < (gI σ (x0 + 7) x3.toNatClampNeg) then (F_X7_waitsForNeeds_57 x0 x2 x3 σ) else (F_X7_waitsForNeeds_58 x0 x2 x3 (1 : Int32) σ)) else none)) else none)
def B_X7_waitsForNeeds_4 (k_X7_waitsForNeeds_4 : Nat → Int32 → Int32 → Int32 → AH → Option (Int32 × AH)) (x0 : Nat) (x1 : Int32) (x2 : Int32) (x3 : Int32) (σ : AH) : Option (Int32 × AH) := (if ((x1 + (1 : Int32)) * (3 : Int32)) ≤ x3 then (some ((0 : Int32), σ)) else (if inB x3 90 = true then (if (gI σ (x0 + 9) x3.toNatClampNeg) = (-1 : Int32) then (F_X7_waitsForNeeds_33 x0 x2 x3 σ) else (if inB x3 90 = true then (if (gI σ (x0 + 9) x3.toNatClampNeg) ≤ x2 then (k_X7_waitsForNeeds_4 x0 x1 x2 (x3 + 1) σ) else (F_X7_waitsForNeeds_33 x0 x2 x3 σ)) else none)) else none))
def F_X7_waitsForNeeds_4 : Nat → Nat → Int32 → Int32 → Int32 → AH → Option (Int32 × AH) := fun k => match k with | 0 => fun _ _ _ _ _ => none | k + 1 => B_X7_waitsForNeeds_4 (F_X7_waitsForNeeds_4 k)
def F_X7_waitsForNeeds (x0 : Nat) (x1 : Int32) (x2 : Int32) (σ : AH) : Option (Int32 × AH) := (F_X7_waitsForNeeds_4 BIG x0 x1 x2 (x1 * (3 : Int32)) σ)
set_option maxRecDepth 100000 in
theorem t_X7_waitsForNeeds_85 {X : Sx} {l : Launch} {D : Nat} {σ : AH} {v : Int32} {σ' : AH} (hD : 0 ≤ D) (hs : Sh σ) (h : F_X7_waitsForNeeds_85 σ = some (v, σ')) : W_X7_waitsForNeeds_85 X l D σ (some (.int v)) σ' := by
  unfold F_X7_waitsForNeeds_85 at h
  unfold W_X7_waitsForNeeds_85
  exact ret_i h
set_option maxRecDepth 100000 in
theorem t_X7_waitsForNeeds_58 {X : Sx} {l : Launch} {D : Nat} {x0 : Nat} {x2 : Int32} {x3 : Int32} {y0 : Int32} {σ : AH} {v : Int32} {σ' : AH} (hD : 0 ≤ D) (hs : Sh σ) (hmx0 : x0 ∈ siteIds) (h : F_X7_waitsForNeeds_58 x0 x2 x3 y0 σ = some (v, σ')) : W_X7_waitsForNeeds_58 X l D x0 x2 x3 y0 σ (some (.int v)) σ' := by
  unfold F_X7_waitsForNeeds_58 at h
  unfold W_X7_waitsForNeeds_58
  refine ite_i (fun c1 => ?_) (fun c1 => ?_)
  · replace h := of_ifp h c1
    exact ret_i h
  · replace h := of_ifn h c1
    obtain ⟨g2, h⟩ := of_gd h
    refine ⟨(inB_mp g2), ?_⟩
    refine ite_i (fun c3 => ?_) (fun c3 => ?_)
    · replace h := of_ifp h c3
      exact t_X7_waitsForNeeds_85 hD  hs  h
    · replace h := of_ifn h c3
      obtain ⟨g4, h⟩ := of_gd h
      refine ⟨(inB_mp g4), ?_⟩
      refine ite_i (fun c5 => ?_) (fun c5 => ?_)
      · replace h := of_ifp h c5
        exact ret_i h
      · replace h := of_ifn h c5
        exact t_X7_waitsForNeeds_85 hD  hs  h
set_option maxRecDepth 100000 in
theorem t_X7_waitsForNeeds_57 {X : Sx} {l : Launch} {D : Nat} {x0 : Nat} {x2 : Int32} {x3 : Int32} {σ : AH} {v : Int32} {σ' : AH} (hD : 0 ≤ D) (hs : Sh σ) (hmx0 : x0 ∈ siteIds) (h : F_X7_waitsForNeeds_57 x0 x2 x3 σ = some (v, σ')) : W_X7_waitsForNeeds_57 X l D x0 x2 x3 σ (some (.int v)) σ' := by
  unfold F_X7_waitsForNeeds_57 at h
  unfold W_X7_waitsForNeeds_57
  exact t_X7_waitsForNeeds_58 hD  hs (by first | assumption | exact st_stock (by assumption) | exact rn_site (by assumption) | decide) h
set_option maxRecDepth 100000 in
theorem t_X7_waitsForNeeds_33 {X : Sx} {l : Launch} {D : Nat} {x0 : Nat} {x2 : Int32} {x3 : Int32} {σ : AH} {v : Int32} {σ' : AH} (hD : 0 ≤ D) (hs : Sh σ) (hmx0 : x0 ∈ siteIds) (h : F_X7_waitsForNeeds_33 x0 x2 x3 σ = some (v, σ')) : W_X7_waitsForNeeds_33 X l D x0 x2 x3 σ (some (.int v)) σ' := by
  unfold F_X7_waitsForNeeds_33 at h
  unfold W_X7_waitsForNeeds_33
  obtain ⟨g1, h⟩ := of_gd h
  refine ⟨(inB_mp g1), ?_⟩
  refine ite_i (fun c2 => ?_) (fun c2 => ?_)
  · replace h := of_ifp h c2
    exact t_X7_waitsForNeeds_57 hD  hs (by first | assumption | exact st_stock (by assumption) | exact rn_site (by assumption) | decide) h
  · replace h := of_ifn h c2
    obtain ⟨g3, h⟩ := of_gd h
    refine ⟨(inB_mp g3), ?_⟩
    refine ite_i (fun c4 => ?_) (fun c4 => ?_)
    · replace h := of_ifp h c4
      exact t_X7_waitsForNeeds_57 hD  hs (by first | assumption | exact st_stock (by assumption) | exact rn_site (by assumption) | decide) h
    · replace h := of_ifn h c4
      exact t_X7_waitsForNeeds_58 hD  hs (by first | assumption | exact st_stock (by assumption) | exact rn_site (by assumption) | decide) h
set_option maxRecDepth 100000 in
theorem t_X7_waitsForNeeds_4 {X : Sx} {l : Launch} {D : Nat} {k_X7_waitsForNeeds_4 : Nat → Int32 → Int32 → Int32 → AH → Option (Int32 × AH)} {x0 : Nat} {x1 : Int32} {x2 : Int32} {x3 : Int32} {σ : AH} {v : Int32} {σ' : AH} (hD : 0 ≤ D) (hk_X7_waitsForNeeds_4 : ∀ (x0 : Nat) (x1 : Int32) (x2 : Int32) (x3 : Int32) (σ : AH) (v : Int32) (σ' : AH), Sh σ → x0 ∈ siteIds → k_X7_waitsForNeeds_4 x0 x1 x2 x3 σ = some (v, σ') → E X l m_X7_waitsForNeeds D 4 [(0, .ref x0), (1, .int x1), (2, .int x2), (3, .int x3)] [] σ (some (.int v)) σ') (hs : Sh σ) (hmx0 : x0 ∈ siteIds) (h : B_X7_waitsForNeeds_4 k_X7_waitsForNeeds_4 x0 x1 x2 x3 σ = some (v, σ')) : W_X7_waitsForNeeds_4 X l D x0 x1 x2 x3 σ (some (.int v)) σ' := by
  unfold B_X7_waitsForNeeds_4 at h
  unfold W_X7_waitsForNeeds_4
  refine ite_i (fun c1 => ?_) (fun c1 => ?_)
  · replace h := of_ifp h c1
    exact ret_i h
  · replace h := of_ifn h c1
    obtain ⟨g2, h⟩ := of_gd h
    refine ⟨(inB_mp g2), ?_⟩
    refine ite_i (fun c3 => ?_) (fun c3 => ?_)
    · replace h := of_ifp h c3
      exact t_X7_waitsForNeeds_33 hD  hs (by first | assumption | exact st_stock (by assumption) | exact rn_site (by assumption) | decide) h
    · replace h := of_ifn h c3
      obtain ⟨g4, h⟩ := of_gd h
      refine ⟨(inB_mp g4), ?_⟩
      refine ite_i (fun c5 => ?_) (fun c5 => ?_)
      · replace h := of_ifp h c5
        exact hk_X7_waitsForNeeds_4 _ _ _ _ _ _ _ hs (by first | assumption | exact st_stock (by assumption) | exact rn_site (by assumption) | decide) h
      · replace h := of_ifn h c5
        exact t_X7_waitsForNeeds_33 hD  hs (by first | assumption | exact st_stock (by assumption) | exact rn_site (by assumption) | decide) h
theorem e_X7_waitsForNeeds_4 {X : Sx} {l : Launch} {D : Nat} (hD : 0 ≤ D) : ∀ (k : Nat) (x0 : Nat) (x1 : Int32) (x2 : Int32) (x3 : Int32) (σ : AH) (v : Int32) (σ' : AH), Sh σ → x0 ∈ siteIds → F_X7_waitsForNeeds_4 k x0 x1 x2 x3 σ = some (v, σ') → E X l m_X7_waitsForNeeds D 4 [(0, .ref x0), (1, .int x1), (2, .int x2), (3, .int x3)] [] σ (some (.int v)) σ' := by
  intro k
  induction k with
  | zero => intro x0 x1 x2 x3 σ v σ' hs hmx0 h; cases h
  | succ k ih =>
    intro x0 x1 x2 x3 σ v σ' hs hmx0 h
    exact w_X7_waitsForNeeds_4 hs hmx0 (t_X7_waitsForNeeds_4 hD ih hs hmx0 h)
set_option maxRecDepth 100000 in
theorem t_X7_waitsForNeeds_0 {X : Sx} {l : Launch} {D : Nat} {x0 : Nat} {x1 : Int32} {x2 : Int32} {σ : AH} {v : Int32} {σ' : AH} (hD : 0 ≤ D) (hs : Sh σ) (hmx0 : x0 ∈ siteIds) (h : F_X7_waitsForNeeds x0 x1 x2 σ = some (v, σ')) : W_X7_waitsForNeeds_0 X l D x0 x1 x2 σ (some (.int v)) σ' := by
  unfold F_X7_waitsForNeeds at h
  unfold W_X7_waitsForNeeds_0
  exact e_X7_waitsForNeeds_4 hD  _ _ _ _ _ _ _ _ hs (by first | assumption | exact st_stock (by assumption) | exact rn_site (by assumption) | decide) h
theorem f_X7_waitsForNeeds {X : Sx} {l : Launch} {x0 : Nat} {x1 : Int32} {x2 : Int32} {σ : AH} {v : Int32} {σ' : AH} (hs : Sh σ) (hmx0 : x0 ∈ siteIds) (h : F_X7_waitsForNeeds x0 x1 x2 σ = some (v, σ')) : Call X l m_X7_waitsForNeeds 0 [.ref x0, .int x1, .int x2] σ (some (.int v)) σ' :=
  Call.ofE ok_X7_waitsForNeeds rfl (Nat.le_of_ble_eq_true rfl) (w_X7_waitsForNeeds_0 hs hmx0 (t_X7_waitsForNeeds_0 (Nat.le_refl _) hs hmx0 h))
def F_X8_init (x0 : Nat) (x1 : Int32) (x2 : Int32) (σ : AH) : Option AH := (if kd σ x0 = (8, NO 8) then (if x0 < nx σ then (if alB m_X8_init x0 = true then (if alB m_X8_init x0 = true then (if ¬ (x1 * (imin x2 (8 : Int32))) < 0 then (if (x1 * (imin x2 (8 : Int32))).toNatClampNeg ≤ 2000000 then (lt (aw (sI (sI σ x0 0 x1) x0 1 x2) 100 (x1 * (imin x2 (8 : Int32))).toNatClampNeg) fun τ6 => (if alB m_X8_init x0 = true then (if shOX τ6 x0 2 = true then (lt (sR τ6 x0 2 (some (nx (sI (sI σ x0 0 x1) x0 1 x2)))) fun τ15 => (some τ15)) else none) else none)) else none) else none) else none) else none) else none) else none)
set_option maxRecDepth 100000 in
theorem t_X8_init_0 {X : Sx} {l : Launch} {D : Nat} {x0 : Nat} {x1 : Int32} {x2 : Int32} {σ : AH} {σ' : AH} (hD : 1 ≤ D) (h : F_X8_init x0 x1 x2 σ = some σ') : W_X8_init_0 X l D x0 x1 x2 σ none σ' := by
  unfold F_X8_init at h
  unfold W_X8_init_0
  obtain ⟨g1, h⟩ := of_gd h
  refine ⟨g1, ?_⟩
  obtain ⟨g2, h⟩ := of_gd h
  refine ⟨g2, ?_⟩
  refine ⟨Nat.le_trans (by decide) hD, ?_⟩
  obtain ⟨g3, h⟩ := of_gd h
  refine ⟨(alB_mp g3), ?_⟩
  obtain ⟨g4, h⟩ := of_gd h
  refine ⟨(alB_mp g4), ?_⟩
  refine ⟨Nat.le_trans (by decide) hD, ?_⟩
  obtain ⟨g5, h⟩ := of_gd h
  refine ⟨g5, ?_⟩
  obtain ⟨g6, h⟩ := of_gd h
  refine ⟨g6, ?_⟩
  intro τ6 e7
  replace h := of_lt h e7
  obtain ⟨g8, h⟩ := of_gd h
  refine ⟨(alB_mp g8), ?_⟩
  obtain ⟨g9, h⟩ := of_gd h
  refine ⟨(fun q => shOX_mp g9 q), ?_⟩
  intro τ15 e10
  replace h := of_lt h e10
  exact ret_v h
theorem f_X8_init {X : Sx} {l : Launch} {x0 : Nat} {x1 : Int32} {x2 : Int32} {σ : AH} {σ' : AH} (h : F_X8_init x0 x1 x2 σ = some σ') : Call X l m_X8_init 1 [.ref x0, .int x1, .int x2] σ none σ' :=
  Call.ofE ok_X8_init rfl (Nat.le_of_ble_eq_true rfl) (w_X8_init_0  (t_X8_init_0 (Nat.le_refl _)  h))
def F_X8_isFull (x0 : Nat) (σ : AH) : Option (Int32 × AH) := (if kd σ x0 = (8, NO 8) then (if x0 < nx σ then (if (gI σ x0 3) < (gI σ x0 1) then (some ((0 : Int32), σ)) else (some ((1 : Int32), σ))) else none) else none)
set_option maxRecDepth 100000 in
theorem t_X8_isFull_0 {X : Sx} {l : Launch} {D : Nat} {x0 : Nat} {σ : AH} {v : Int32} {σ' : AH} (hD : 0 ≤ D) (h : F_X8_isFull x0 σ = some (v, σ')) : W_X8_isFull_0 X l D x0 σ (some (.int v)) σ' := by
  unfold F_X8_isFull at h
  unfold W_X8_isFull_0
  obtain ⟨g1, h⟩ := of_gd h
  refine ⟨g1, ?_⟩
  obtain ⟨g2, h⟩ := of_gd h
  refine ⟨g2, ?_⟩
  refine ite_i (fun c3 => ?_) (fun c3 => ?_)
  · replace h := of_ifp h c3
    exact ret_i h
  · replace h := of_ifn h c3
    exact ret_i h
theorem f_X8_isFull {X : Sx} {l : Launch} {x0 : Nat} {σ : AH} {v : Int32} {σ' : AH} (h : F_X8_isFull x0 σ = some (v, σ')) : Call X l m_X8_isFull 0 [.ref x0] σ (some (.int v)) σ' :=
  Call.ofE ok_X8_isFull rfl (Nat.le_of_ble_eq_true rfl) (w_X8_isFull_0  (t_X8_isFull_0 (Nat.le_refl _)  h))
def F_X8_greatest_38 (k_X8_greatest_5 : Nat → Int32 → Int32 → Int32 → Int32 → AH → Option (Int32 × AH)) (x0 : Nat) (x1 : Int32) (x2 : Int32) (x3 : Int32) (x4 : Int32) (σ : AH) : Option (Int32 × AH) := (if kd σ x0 = (8, NO 8) then (if x0 < nx σ then (k_X8_greatest_5 x0 x1 x2 x3 (x4 + 1) σ) else none) else none)
def B_X8_greatest_5 (k_X8_greatest_5 : Nat → Int32 → Int32 → Int32 → Int32 → AH → Option (Int32 × AH)) (x0 : Nat) (x1 : Int32) (x2 : Int32) (x3 : Int32) (x4 : Int32) (σ : AH) : Option (Int32 × AH) := (if kd σ x0 = (8, NO 8) then (if x0 < nx σ then (if (gI σ x0 3) ≤ x4 then (some (x3, σ)) else (bd (F_X8_at x0 x4 x1 σ) fun v6 σ2 => (if x2 < v6 then (F_X8_greatest_38 k_X8_greatest_5 x0 x1 x2 x3 x4 σ2) else (if v6 ≤ x3 then (F_X8_greatest_38 k_X8_greatest_5 x0 x1 x2 x3 x4 σ2) else (F_X8_greatest_38 k_X8_greatest_5 x0 x1 x2 v6 x4 σ2))))) else none) else none)
def F_X8_greatest_5 : Nat → Nat → Int32 → Int32 → Int32 → Int32 → AH → Option (Int32 × AH) := fun k => match k with | 0 => fun _ _ _ _ _ _ => none | k + 1 => B_X8_greatest_5 (F_X8_greatest_5 k)
def F_X8_greatest (x0 : Nat) (x1 : Int32) (x2 : Int32) (σ : AH) : Option (Int32 × AH) := (if kd σ x0 = (8, NO 8) then (if x0 < nx σ then (F_X8_greatest_5 BIG x0 x1 x2 (0 : Int32) (0 : Int32) σ) else none) else none)
set_option maxRecDepth 100000 in
theorem t_X8_greatest_38 {X : Sx} {l : Launch} {D : Nat} {k_X8_greatest_5 : Nat → Int32 → Int32 → Int32 → Int32 → AH → Option (Int32 × AH)} {x0 : Nat} {x1 : Int32} {x2 : Int32} {x3 : Int32} {x4 : Int32} {σ : AH} {v : Int32} {σ' : AH} (hD : 1 ≤ D) (hk_X8_greatest_5 : ∀ (x0 : Nat) (x1 : Int32) (x2 : Int32) (x3 : Int32) (x4 : Int32) (σ : AH) (v : Int32) (σ' : AH), k_X8_greatest_5 x0 x1 x2 x3 x4 σ = some (v, σ') → E X l m_X8_greatest D 5 [(0, .ref x0), (1, .int x1), (2, .int x2), (3, .int x3), (4, .int x4)] [] σ (some (.int v)) σ') (h : F_X8_greatest_38 k_X8_greatest_5 x0 x1 x2 x3 x4 σ = some (v, σ')) : W_X8_greatest_38 X l D x0 x1 x2 x3 x4 σ (some (.int v)) σ' := by
  unfold F_X8_greatest_38 at h
  unfold W_X8_greatest_38
  obtain ⟨g1, h⟩ := of_gd h
  refine ⟨g1, ?_⟩
  obtain ⟨g2, h⟩ := of_gd h
  refine ⟨g2, ?_⟩
  exact hk_X8_greatest_5 _ _ _ _ _ _ _ _   h
set_option maxRecDepth 100000 in
theorem t_X8_greatest_5 {X : Sx} {l : Launch} {D : Nat} {k_X8_greatest_5 : Nat → Int32 → Int32 → Int32 → Int32 → AH → Option (Int32 × AH)} {x0 : Nat} {x1 : Int32} {x2 : Int32} {x3 : Int32} {x4 : Int32} {σ : AH} {v : Int32} {σ' : AH} (hD : 1 ≤ D) (hk_X8_greatest_5 : ∀ (x0 : Nat) (x1 : Int32) (x2 : Int32) (x3 : Int32) (x4 : Int32) (σ : AH) (v : Int32) (σ' : AH), k_X8_greatest_5 x0 x1 x2 x3 x4 σ = some (v, σ') → E X l m_X8_greatest D 5 [(0, .ref x0), (1, .int x1), (2, .int x2), (3, .int x3), (4, .int x4)] [] σ (some (.int v)) σ') (h : B_X8_greatest_5 k_X8_greatest_5 x0 x1 x2 x3 x4 σ = some (v, σ')) : W_X8_greatest_5 X l D x0 x1 x2 x3 x4 σ (some (.int v)) σ' := by
  unfold B_X8_greatest_5 at h
  unfold W_X8_greatest_5
  obtain ⟨g1, h⟩ := of_gd h
  refine ⟨g1, ?_⟩
  obtain ⟨g2, h⟩ := of_gd h
  refine ⟨g2, ?_⟩
  refine ite_i (fun c3 => ?_) (fun c3 => ?_)
  · replace h := of_ifp h c3
    exact ret_i h
  · replace h := of_ifn h c3
    obtain ⟨v6, σ2, q4, h⟩ := of_bd h
    have hC5 := f_X8_at  q4 (X := X) (l := l)
    refine ⟨0, v6, σ2, (Nat.le_trans (by decide) hD), hC5, ?_⟩
    refine ite_i (fun c7 => ?_) (fun c7 => ?_)
    · replace h := of_ifp h c7
      exact t_X8_greatest_38 hD hk_X8_greatest_5   h
    · replace h := of_ifn h c7
      refine ite_i (fun c8 => ?_) (fun c8 => ?_)
      · replace h := of_ifp h c8
        exact t_X8_greatest_38 hD hk_X8_greatest_5   h
      · replace h := of_ifn h c8
        exact t_X8_greatest_38 hD hk_X8_greatest_5   h
theorem e_X8_greatest_5 {X : Sx} {l : Launch} {D : Nat} (hD : 1 ≤ D) : ∀ (k : Nat) (x0 : Nat) (x1 : Int32) (x2 : Int32) (x3 : Int32) (x4 : Int32) (σ : AH) (v : Int32) (σ' : AH), F_X8_greatest_5 k x0 x1 x2 x3 x4 σ = some (v, σ') → E X l m_X8_greatest D 5 [(0, .ref x0), (1, .int x1), (2, .int x2), (3, .int x3), (4, .int x4)] [] σ (some (.int v)) σ' := by
  intro k
  induction k with
  | zero => intro x0 x1 x2 x3 x4 σ v σ' h; cases h
  | succ k ih =>
    intro x0 x1 x2 x3 x4 σ v σ' h
    exact w_X8_greatest_5  (t_X8_greatest_5 hD ih  h)
set_option maxRecDepth 100000 in
theorem t_X8_greatest_0 {X : Sx} {l : Launch} {D : Nat} {x0 : Nat} {x1 : Int32} {x2 : Int32} {σ : AH} {v : Int32} {σ' : AH} (hD : 1 ≤ D) (h : F_X8_greatest x0 x1 x2 σ = some (v, σ')) : W_X8_greatest_0 X l D x0 x1 x2 σ (some (.int v)) σ' := by
  unfold F_X8_greatest at h
  unfold W_X8_greatest_0
  obtain ⟨g1, h⟩ := of_gd h
  refine ⟨g1, ?_⟩
  obtain ⟨g2, h⟩ := of_gd h
  refine ⟨g2, ?_⟩
  exact e_X8_greatest_5 hD  _ _ _ _ _ _ _ _ _   h
theorem f_X8_greatest {X : Sx} {l : Launch} {x0 : Nat} {x1 : Int32} {x2 : Int32} {σ : AH} {v : Int32} {σ' : AH} (h : F_X8_greatest x0 x1 x2 σ = some (v, σ')) : Call X l m_X8_greatest 1 [.ref x0, .int x1, .int x2] σ (some (.int v)) σ' :=
  Call.ofE ok_X8_greatest rfl (Nat.le_of_ble_eq_true rfl) (w_X8_greatest_0  (t_X8_greatest_0 (Nat.le_refl _)  h))
def F_X8_copyFrom_28 (x0 : Nat) (x1 : Nat) (σ : AH) : Option AH := (if kd σ x0 = (8, NO 8) then (if x0 < nx σ then (if kd σ x1 = (8, NO 8) then (if x1 < nx σ then (bo (gR σ x1 2) fun b31 => if (kd σ b31).1 = 100 ∧ b31 < nx σ then (bo (gR σ x0 2) fun b36 => if (kd σ b36).1 = 100 ∧ b36 < nx σ then (if ¬ ((gI σ x1 3) * (gI σ x0 0)) < 0 then (if 0 + ((gI σ x1 3) * (gI σ x0 0)).toNatClampNeg ≤ (kd σ b31).2 then (if 0 + ((gI σ x1 3) * (gI σ x0 0)).toNatClampNeg ≤ (kd σ b36).2 then (if alB m_X8_copyFrom b36 = true then (lt (sA σ b36 (va_cpy (gI σ b31) (gI σ b36) 0 0 (((gI σ x1 3) * (gI σ x0 0)).toNatClampNeg))) fun τ48 => (if alB m_X8_copyFrom x0 = true then (some (sI τ48 x0 3 (gI τ48 x1 3))) else none)) else none) else none) else none) else none) else none) else none) else none) else none) else none) else none)
def F_X8_copyFrom (x0 : Nat) (x1 : Nat) (σ : AH) : Option AH := (if kd σ x0 = (8, NO 8) then (if x0 < nx σ then (if kd σ x1 = (8, NO 8) then (if x1 < nx σ then (bo (gR σ x0 2) fun b1 => if (kd σ b1).1 = 100 ∧ b1 < nx σ then (if ((gI σ x1 3) * (gI σ x0 0)) ≤ (Int32.ofNat (kd σ b1).2) then (F_X8_copyFrom_28 x0 x1 σ) else (bo (gR σ x1 2) fun b6 => if (kd σ b6).1 = 100 ∧ b6 < nx σ then (if ¬ (Int32.ofNat (kd σ b6).2) < 0 then (if (Int32.ofNat (kd σ b6).2).toNatClampNeg ≤ 2000000 then (lt (aw σ 100 (Int32.ofNat (kd σ b6).2).toNatClampNeg) fun τ13 => (if alB m_X8_copyFrom x0 = true then (if shOK x0 2 = true then (lt (sR τ13 x0 2 (some (nx σ))) fun τ24 => (F_X8_copyFrom_28 x0 x1 τ24)) else none) else none)) else none) else none) else none)) else none) else none) else none) else none) else none)
set_option maxRecDepth 100000 in
theorem t_X8_copyFrom_28 {X : Sx} {l : Launch} {D : Nat} {x0 : Nat} {x1 : Nat} {σ : AH} {σ' : AH} (hD : 1 ≤ D) (h : F_X8_copyFrom_28 x0 x1 σ = some σ') : W_X8_copyFrom_28 X l D x0 x1 σ none σ' := by
  unfold F_X8_copyFrom_28 at h
  unfold W_X8_copyFrom_28
  obtain ⟨g1, h⟩ := of_gd h
  refine ⟨g1, ?_⟩
  obtain ⟨g2, h⟩ := of_gd h
  refine ⟨g2, ?_⟩
  obtain ⟨g3, h⟩ := of_gd h
  refine ⟨g3, ?_⟩
  obtain ⟨g4, h⟩ := of_gd h
  refine ⟨g4, ?_⟩
  obtain ⟨b31, e6, h⟩ := of_bo h
  obtain ⟨g5, h⟩ := of_gd h
  refine ⟨b31, _, e6, Prod.ext g5.1 rfl, g5.2, ?_⟩
  obtain ⟨b36, e8, h⟩ := of_bo h
  obtain ⟨g7, h⟩ := of_gd h
  refine ⟨b36, _, e8, Prod.ext g7.1 rfl, g7.2, ?_⟩
  obtain ⟨g9, h⟩ := of_gd h
  refine ⟨g9, ?_⟩
  obtain ⟨g10, h⟩ := of_gd h
  refine ⟨g10, ?_⟩
  obtain ⟨g11, h⟩ := of_gd h
  refine ⟨g11, ?_⟩
  refine ⟨Nat.le_trans (by decide) hD, ?_⟩
  obtain ⟨g12, h⟩ := of_gd h
  refine ⟨(alB_mp g12), ?_⟩
  intro τ48 e13
  replace h := of_lt h e13
  obtain ⟨g14, h⟩ := of_gd h
  refine ⟨(alB_mp g14), ?_⟩
  exact ret_v h
set_option maxRecDepth 100000 in
theorem t_X8_copyFrom_0 {X : Sx} {l : Launch} {D : Nat} {x0 : Nat} {x1 : Nat} {σ : AH} {σ' : AH} (hD : 1 ≤ D) (h : F_X8_copyFrom x0 x1 σ = some σ') : W_X8_copyFrom_0 X l D x0 x1 σ none σ' := by
  unfold F_X8_copyFrom at h
  unfold W_X8_copyFrom_0
  obtain ⟨g1, h⟩ := of_gd h
  refine ⟨g1, ?_⟩
  obtain ⟨g2, h⟩ := of_gd h
  refine ⟨g2, ?_⟩
  obtain ⟨g3, h⟩ := of_gd h
  refine ⟨g3, ?_⟩
  obtain ⟨g4, h⟩ := of_gd h
  refine ⟨g4, ?_⟩
  obtain ⟨b1, e6, h⟩ := of_bo h
  obtain ⟨g5, h⟩ := of_gd h
  refine ⟨b1, _, e6, Prod.ext g5.1 rfl, g5.2, ?_⟩
  refine ite_i (fun c7 => ?_) (fun c7 => ?_)
  · replace h := of_ifp h c7
    exact t_X8_copyFrom_28 hD    h
  · replace h := of_ifn h c7
    obtain ⟨b6, e9, h⟩ := of_bo h
    obtain ⟨g8, h⟩ := of_gd h
    refine ⟨b6, _, e9, Prod.ext g8.1 rfl, g8.2, ?_⟩
    obtain ⟨g10, h⟩ := of_gd h
    refine ⟨g10, ?_⟩
    obtain ⟨g11, h⟩ := of_gd h
    refine ⟨g11, ?_⟩
    intro τ13 e12
    replace h := of_lt h e12
    obtain ⟨g13, h⟩ := of_gd h
    refine ⟨(alB_mp g13), ?_⟩
    obtain ⟨g14, h⟩ := of_gd h
    refine ⟨(fun q => shOK_mp g14 q), ?_⟩
    intro τ24 e15
    replace h := of_lt h e15
    exact t_X8_copyFrom_28 hD    h
theorem f_X8_copyFrom {X : Sx} {l : Launch} {x0 : Nat} {x1 : Nat} {σ : AH} {σ' : AH} (h : F_X8_copyFrom x0 x1 σ = some σ') : Call X l m_X8_copyFrom 1 [.ref x0, .ref x1] σ none σ' :=
  Call.ofE ok_X8_copyFrom rfl (Nat.le_of_ble_eq_true rfl) (w_X8_copyFrom_0  (t_X8_copyFrom_0 (Nat.le_refl _)  h))
def F_X9_init (x0 : Nat) (σ : AH) : Option AH := (if kd σ x0 = (9, NO 9) then (if x0 < nx σ then (lt (aw σ 103 24) fun τ1 => (if alB m_X9_init x0 = true then (if shOX τ1 x0 0 = true then (lt (sR τ1 x0 0 (some (nx σ))) fun τ10 => (lt (aw τ10 8 (NO 8)) fun τ15 => (bv (F_X8_init (nx τ10) (4 : Int32) (120 : Int32) τ15) fun σ23 => (if alB m_X9_init x0 = true then (if shOX σ23 x0 2 = true then (lt (sR σ23 x0 2 (some (nx τ10))) fun τ33 => (lt (aw τ33 8 (NO 8)) fun τ38 => (bv (F_X8_init (nx τ33) (8 : Int32) (8 : Int32) τ38) fun σ46 => (if alB m_X9_init x0 = true then (if shOX σ46 x0 3 = true then (lt (sR σ46 x0 3 (some (nx τ33))) fun τ56 => (lt (aw τ56 8 (NO 8)) fun τ61 => (bv (F_X8_init (nx τ56) (4 : Int32) (60 : Int32) τ61) fun σ69 => (if alB m_X9_init x0 = true then (if shOX σ69 x0 4 = true then (lt (sR σ69 x0 4 (some (nx τ56))) fun τ79 => (lt (aw τ79 8 (NO 8)) fun τ84 => (bv (F_X8_init (nx τ79) (4 : Int32) (30 : Int32) τ84) fun σ92 => (if alB m_X9_init x0 = true then (if shOX σ92 x0 5 = true then (lt (sR σ92 x0 5 (some (nx τ79))) fun τ102 => (lt (aw τ102 8 (NO 8)) fun τ107 => (bv (F_X8_init (nx τ102) (3 : Int32) (60 : Int32) τ107) fun σ115 => (if alB m_X9_init x0 = true then (if shOX σ115 x0 6 = true then (lt (sR σ115 x0 6 (some (nx τ102))) fun τ125 => (lt (aw τ125 8 (NO 8)) fun τ130 => (bv (F_X8_init (nx τ125) (10 : Int32) (60 : Int32) τ130) fun σ138 => (if alB m_X9_init x0 = true then (if shOX σ138 x0 7 = true then (lt (sR σ138 x0 7 (some (nx τ125))) fun τ148 => (lt (aw τ148 8 (NO 8)) fun τ153 => (bv (F_X8_init (nx τ148) (4 : Int32) (40 : Int32) τ153) fun σ161 => (if alB m_X9_init x0 = true then (if shOX σ161 x0 8 = true then (lt (sR σ161 x0 8 (some (nx τ148))) fun τ171 => (lt (aw τ171 8 (NO 8)) fun τ176 => (bv (F_X8_init (nx τ171) (7 : Int32) (7830 : Int32) τ176) fun σ184 => (if alB m_X9_init x0 = true then (if shOX σ184 x0 9 = true then (lt (sR σ184 x0 9 (some (nx τ171))) fun τ194 => (lt (aw τ194 100 120) fun τ199 => (if alB m_X9_init x0 = true then (if shOX τ199 x0 10 = true then (lt (sR τ199 x0 10 (some (nx τ194))) fun τ208 => (lt (aw τ208 100 2400) fun τ213 => (if alB m_X9_init x0 = true then (if shOX τ213 x0 11 = true then (lt (sR τ213 x0 11 (some (nx τ208))) fun τ222 => (some τ222)) else none) else none))) else none) else none))) else none) else none)))) else none) else none)))) else none) else none)))) else none) else none)))) else none) else none)))) else none) else none)))) else none) else none)))) else none) else none)))) else none) else none)) else none) else none)
set_option maxRecDepth 100000 in
theorem t_X9_init_0 {X : Sx} {l : Launch} {D : Nat} {x0 : Nat} {σ : AH} {σ' : AH} (hD : 2 ≤ D) (h : F_X9_init x0 σ = some σ') : W_X9_init_0 X l D x0 σ none σ' := by
  unfold F_X9_init at h
  unfold W_X9_init_0
  obtain ⟨g1, h⟩ := of_gd h
  refine ⟨g1, ?_⟩
  obtain ⟨g2, h⟩ := of_gd h
  refine ⟨g2, ?_⟩
  refine ⟨Nat.le_trans (by decide) hD, ?_⟩
  intro τ1 e3
  replace h := of_lt h e3
  obtain ⟨g4, h⟩ := of_gd h
  refine ⟨(alB_mp g4), ?_⟩
  obtain ⟨g5, h⟩ := of_gd h
  refine ⟨(fun q => shOX_mp g5 q), ?_⟩
  intro τ10 e6
  replace h := of_lt h e6
  intro τ15 e7
  replace h := of_lt h e7
  obtain ⟨σ23, q8, h⟩ := of_bv h
  have hC9 := f_X8_init  q8 (X := X) (l := l)
  refine ⟨1, σ23, (Nat.le_trans (by decide) hD), hC9, ?_⟩
  obtain ⟨g11, h⟩ := of_gd h
  refine ⟨(alB_mp g11), ?_⟩
  obtain ⟨g12, h⟩ := of_gd h
  refine ⟨(fun q => shOX_mp g12 q), ?_⟩
  intro τ33 e13
  replace h := of_lt h e13
  intro τ38 e14
  replace h := of_lt h e14
  obtain ⟨σ46, q15, h⟩ := of_bv h
  have hC16 := f_X8_init  q15 (X := X) (l := l)
  refine ⟨1, σ46, (Nat.le_trans (by decide) hD), hC16, ?_⟩
  obtain ⟨g18, h⟩ := of_gd h
  refine ⟨(alB_mp g18), ?_⟩
  obtain ⟨g19, h⟩ := of_gd h
  refine ⟨(fun q => shOX_mp g19 q), ?_⟩
  intro τ56 e20
  replace h := of_lt h e20
  intro τ61 e21
  replace h := of_lt h e21
  obtain ⟨σ69, q22, h⟩ := of_bv h
  have hC23 := f_X8_init  q22 (X := X) (l := l)
  refine ⟨1, σ69, (Nat.le_trans (by decide) hD), hC23, ?_⟩
  obtain ⟨g25, h⟩ := of_gd h
  refine ⟨(alB_mp g25), ?_⟩
  obtain ⟨g26, h⟩ := of_gd h
  refine ⟨(fun q => shOX_mp g26 q), ?_⟩
  intro τ79 e27
  replace h := of_lt h e27
  intro τ84 e28
  replace h := of_lt h e28
  obtain ⟨σ92, q29, h⟩ := of_bv h
  have hC30 := f_X8_init  q29 (X := X) (l := l)
  refine ⟨1, σ92, (Nat.le_trans (by decide) hD), hC30, ?_⟩
  obtain ⟨g32, h⟩ := of_gd h
  refine ⟨(alB_mp g32), ?_⟩
  obtain ⟨g33, h⟩ := of_gd h
  refine ⟨(fun q => shOX_mp g33 q), ?_⟩
  intro τ102 e34
  replace h := of_lt h e34
  intro τ107 e35
  replace h := of_lt h e35
  obtain ⟨σ115, q36, h⟩ := of_bv h
  have hC37 := f_X8_init  q36 (X := X) (l := l)
  refine ⟨1, σ115, (Nat.le_trans (by decide) hD), hC37, ?_⟩
  obtain ⟨g39, h⟩ := of_gd h
  refine ⟨(alB_mp g39), ?_⟩
  obtain ⟨g40, h⟩ := of_gd h
  refine ⟨(fun q => shOX_mp g40 q), ?_⟩
  intro τ125 e41
  replace h := of_lt h e41
  intro τ130 e42
  replace h := of_lt h e42
  obtain ⟨σ138, q43, h⟩ := of_bv h
  have hC44 := f_X8_init  q43 (X := X) (l := l)
  refine ⟨1, σ138, (Nat.le_trans (by decide) hD), hC44, ?_⟩
  obtain ⟨g46, h⟩ := of_gd h
  refine ⟨(alB_mp g46), ?_⟩
  obtain ⟨g47, h⟩ := of_gd h
  refine ⟨(fun q => shOX_mp g47 q), ?_⟩
  intro τ148 e48
  replace h := of_lt h e48
  intro τ153 e49
  replace h := of_lt h e49
  obtain ⟨σ161, q50, h⟩ := of_bv h
  have hC51 := f_X8_init  q50 (X := X) (l := l)
  refine ⟨1, σ161, (Nat.le_trans (by decide) hD), hC51, ?_⟩
  obtain ⟨g53, h⟩ := of_gd h
  refine ⟨(alB_mp g53), ?_⟩
  obtain ⟨g54, h⟩ := of_gd h
  refine ⟨(fun q => shOX_mp g54 q), ?_⟩
  intro τ171 e55
  replace h := of_lt h e55
  intro τ176 e56
  replace h := of_lt h e56
  obtain ⟨σ184, q57, h⟩ := of_bv h
  have hC58 := f_X8_init  q57 (X := X) (l := l)
  refine ⟨1, σ184, (Nat.le_trans (by decide) hD), hC58, ?_⟩
  obtain ⟨g60, h⟩ := of_gd h
  refine ⟨(alB_mp g60), ?_⟩
  obtain ⟨g61, h⟩ := of_gd h
  refine ⟨(fun q => shOX_mp g61 q), ?_⟩
  intro τ194 e62
  replace h := of_lt h e62
  intro τ199 e63
  replace h := of_lt h e63
  obtain ⟨g64, h⟩ := of_gd h
  refine ⟨(alB_mp g64), ?_⟩
  obtain ⟨g65, h⟩ := of_gd h
  refine ⟨(fun q => shOX_mp g65 q), ?_⟩
  intro τ208 e66
  replace h := of_lt h e66
  intro τ213 e67
  replace h := of_lt h e67
  obtain ⟨g68, h⟩ := of_gd h
  refine ⟨(alB_mp g68), ?_⟩
  obtain ⟨g69, h⟩ := of_gd h
  refine ⟨(fun q => shOX_mp g69 q), ?_⟩
  intro τ222 e70
  replace h := of_lt h e70
  exact ret_v h
theorem f_X9_init {X : Sx} {l : Launch} {x0 : Nat} {σ : AH} {σ' : AH} (h : F_X9_init x0 σ = some σ') : Call X l m_X9_init 2 [.ref x0] σ none σ' :=
  Call.ofE ok_X9_init rfl (Nat.le_of_ble_eq_true rfl) (w_X9_init_0  (t_X9_init_0 (Nat.le_refl _)  h))
def F_X9_tellClaimed (x0 : Nat) (x1 : Int32) (x2 : Int32) (σ : AH) : Option AH := (if kd σ x0 = (9, NO 9) then (if x0 < nx σ then (bo (gR σ x0 11) fun b1 => if (kd σ b1).1 = 100 ∧ b1 < nx σ then (bo (gR σ x0 11) fun b6 => if (kd σ b6).1 = 100 ∧ b6 < nx σ then (if inB x1 (kd σ b6).2 = true then (if alB m_X9_tellClaimed b1 = true then (if inB x1 (kd σ b1).2 = true then (some (sI σ b1 x1.toNatClampNeg (((gI σ b6 x1.toNatClampNeg) &&& (-65536 : Int32)) ||| x2))) else none) else none) else none) else none) else none) else none) else none)
set_option maxRecDepth 100000 in
theorem t_X9_tellClaimed_0 {X : Sx} {l : Launch} {D : Nat} {x0 : Nat} {x1 : Int32} {x2 : Int32} {σ : AH} {σ' : AH} (hD : 0 ≤ D) (h : F_X9_tellClaimed x0 x1 x2 σ = some σ') : W_X9_tellClaimed_0 X l D x0 x1 x2 σ none σ' := by
  unfold F_X9_tellClaimed at h
  unfold W_X9_tellClaimed_0
  obtain ⟨g1, h⟩ := of_gd h
  refine ⟨g1, ?_⟩
  obtain ⟨g2, h⟩ := of_gd h
  refine ⟨g2, ?_⟩
  obtain ⟨b1, e4, h⟩ := of_bo h
  obtain ⟨g3, h⟩ := of_gd h
  refine ⟨b1, _, e4, Prod.ext g3.1 rfl, g3.2, ?_⟩
  obtain ⟨b6, e6, h⟩ := of_bo h
  obtain ⟨g5, h⟩ := of_gd h
  refine ⟨b6, _, e6, Prod.ext g5.1 rfl, g5.2, ?_⟩
  obtain ⟨g7, h⟩ := of_gd h
  refine ⟨(inB_mp g7), ?_⟩
  obtain ⟨g8, h⟩ := of_gd h
  refine ⟨(alB_mp g8), ?_⟩
  obtain ⟨g9, h⟩ := of_gd h
  refine ⟨(inB_mp g9), ?_⟩
  exact ret_v h
theorem f_X9_tellClaimed {X : Sx} {l : Launch} {x0 : Nat} {x1 : Int32} {x2 : Int32} {σ : AH} {σ' : AH} (h : F_X9_tellClaimed x0 x1 x2 σ = some σ') : Call X l m_X9_tellClaimed 0 [.ref x0, .int x1, .int x2] σ none σ' :=
  Call.ofE ok_X9_tellClaimed rfl (Nat.le_of_ble_eq_true rfl) (w_X9_tellClaimed_0  (t_X9_tellClaimed_0 (Nat.le_refl _)  h))
def F_X9_tellSeen (x0 : Nat) (x1 : Int32) (x2 : Int32) (σ : AH) : Option AH := (if kd σ x0 = (9, NO 9) then (if x0 < nx σ then (bo (gR σ x0 11) fun b1 => if (kd σ b1).1 = 100 ∧ b1 < nx σ then (bo (gR σ x0 11) fun b6 => if (kd σ b6).1 = 100 ∧ b6 < nx σ then (if inB x1 (kd σ b6).2 = true then (if alB m_X9_tellSeen b1 = true then (if inB x1 (kd σ b1).2 = true then (some (sI σ b1 x1.toNatClampNeg (((gI σ b6 x1.toNatClampNeg) &&& (65535 : Int32)) ||| ((x2 + (1 : Int32)) <<< ((16 : Int32) &&& 31))))) else none) else none) else none) else none) else none) else none) else none)
set_option maxRecDepth 100000 in
theorem t_X9_tellSeen_0 {X : Sx} {l : Launch} {D : Nat} {x0 : Nat} {x1 : Int32} {x2 : Int32} {σ : AH} {σ' : AH} (hD : 0 ≤ D) (h : F_X9_tellSeen x0 x1 x2 σ = some σ') : W_X9_tellSeen_0 X l D x0 x1 x2 σ none σ' := by
  unfold F_X9_tellSeen at h
  unfold W_X9_tellSeen_0
  obtain ⟨g1, h⟩ := of_gd h
  refine ⟨g1, ?_⟩
  obtain ⟨g2, h⟩ := of_gd h
  refine ⟨g2, ?_⟩
  obtain ⟨b1, e4, h⟩ := of_bo h
  obtain ⟨g3, h⟩ := of_gd h
  refine ⟨b1, _, e4, Prod.ext g3.1 rfl, g3.2, ?_⟩
  obtain ⟨b6, e6, h⟩ := of_bo h
  obtain ⟨g5, h⟩ := of_gd h
  refine ⟨b6, _, e6, Prod.ext g5.1 rfl, g5.2, ?_⟩
  obtain ⟨g7, h⟩ := of_gd h
  refine ⟨(inB_mp g7), ?_⟩
  obtain ⟨g8, h⟩ := of_gd h
  refine ⟨(alB_mp g8), ?_⟩
  obtain ⟨g9, h⟩ := of_gd h
  refine ⟨(inB_mp g9), ?_⟩
  exact ret_v h
theorem f_X9_tellSeen {X : Sx} {l : Launch} {x0 : Nat} {x1 : Int32} {x2 : Int32} {σ : AH} {σ' : AH} (h : F_X9_tellSeen x0 x1 x2 σ = some σ') : Call X l m_X9_tellSeen 0 [.ref x0, .int x1, .int x2] σ none σ' :=
  Call.ofE ok_X9_tellSeen rfl (Nat.le_of_ble_eq_true rfl) (w_X9_tellSeen_0  (t_X9_tellSeen_0 (Nat.le_refl _)  h))
def F_X9_claimedIn (x0 : Nat) (x1 : Int32) (σ : AH) : Option (Int32 × AH) := (if kd σ x0 = (9, NO 9) then (if x0 < nx σ then (bo (gR σ x0 11) fun b1 => if (kd σ b1).1 = 100 ∧ b1 < nx σ then (if inB x1 (kd σ b1).2 = true then (some (((gI σ b1 x1.toNatClampNeg) &&& (65535 : Int32)), σ)) else none) else none) else none) else none)
set_option maxRecDepth 100000 in
theorem t_X9_claimedIn_0 {X : Sx} {l : Launch} {D : Nat} {x0 : Nat} {x1 : Int32} {σ : AH} {v : Int32} {σ' : AH} (hD : 0 ≤ D) (h : F_X9_claimedIn x0 x1 σ = some (v, σ')) : W_X9_claimedIn_0 X l D x0 x1 σ (some (.int v)) σ' := by
  unfold F_X9_claimedIn at h
  unfold W_X9_claimedIn_0
  obtain ⟨g1, h⟩ := of_gd h
  refine ⟨g1, ?_⟩
  obtain ⟨g2, h⟩ := of_gd h
  refine ⟨g2, ?_⟩
  obtain ⟨b1, e4, h⟩ := of_bo h
  obtain ⟨g3, h⟩ := of_gd h
  refine ⟨b1, _, e4, Prod.ext g3.1 rfl, g3.2, ?_⟩
  obtain ⟨g5, h⟩ := of_gd h
  refine ⟨(inB_mp g5), ?_⟩
  exact ret_i h
theorem f_X9_claimedIn {X : Sx} {l : Launch} {x0 : Nat} {x1 : Int32} {σ : AH} {v : Int32} {σ' : AH} (h : F_X9_claimedIn x0 x1 σ = some (v, σ')) : Call X l m_X9_claimedIn 0 [.ref x0, .int x1] σ (some (.int v)) σ' :=
  Call.ofE ok_X9_claimedIn rfl (Nat.le_of_ble_eq_true rfl) (w_X9_claimedIn_0  (t_X9_claimedIn_0 (Nat.le_refl _)  h))
def F_X9_seenIn (x0 : Nat) (x1 : Int32) (σ : AH) : Option (Int32 × AH) := (if kd σ x0 = (9, NO 9) then (if x0 < nx σ then (bo (gR σ x0 11) fun b1 => if (kd σ b1).1 = 100 ∧ b1 < nx σ then (if inB x1 (kd σ b1).2 = true then (some ((((gI σ b1 x1.toNatClampNeg) >>> ((16 : Int32) &&& 31)) - (1 : Int32)), σ)) else none) else none) else none) else none)
set_option maxRecDepth 100000 in
theorem t_X9_seenIn_0 {X : Sx} {l : Launch} {D : Nat} {x0 : Nat} {x1 : Int32} {σ : AH} {v : Int32} {σ' : AH} (hD : 0 ≤ D) (h : F_X9_seenIn x0 x1 σ = some (v, σ')) : W_X9_seenIn_0 X l D x0 x1 σ (some (.int v)) σ' := by
  unfold F_X9_seenIn at h
  unfold W_X9_seenIn_0
  obtain ⟨g1, h⟩ := of_gd h
  refine ⟨g1, ?_⟩
  obtain ⟨g2, h⟩ := of_gd h
  refine ⟨g2, ?_⟩
  obtain ⟨b1, e4, h⟩ := of_bo h
  obtain ⟨g3, h⟩ := of_gd h
  refine ⟨b1, _, e4, Prod.ext g3.1 rfl, g3.2, ?_⟩
  obtain ⟨g5, h⟩ := of_gd h
  refine ⟨(inB_mp g5), ?_⟩
  exact ret_i h
theorem f_X9_seenIn {X : Sx} {l : Launch} {x0 : Nat} {x1 : Int32} {σ : AH} {v : Int32} {σ' : AH} (h : F_X9_seenIn x0 x1 σ = some (v, σ')) : Call X l m_X9_seenIn 0 [.ref x0, .int x1] σ (some (.int v)) σ' :=
  Call.ofE ok_X9_seenIn rfl (Nat.le_of_ble_eq_true rfl) (w_X9_seenIn_0  (t_X9_seenIn_0 (Nat.le_refl _)  h))
set_option maxRecDepth 100000 in
def B_X9_copyFrom_2 (k_X9_copyFrom_2 : Nat → Nat → Int32 → AH → Option AH) (x0 : Nat) (x1 : Nat) (x2 : Int32) (σ : AH) : Option AH := (if kd σ x0 = (9, NO 9) then (if x0 < nx σ then (if kd σ x1 = (9, NO 9) then (if x1 < nx σ then (if (24 : Int32) ≤ x2 then (if alB m_X9_copyFrom x0 = true then (bo (gR (sI σ x0 1 (gI σ x1 1)) x0 2) fun b2 => if kd (sI σ x0 1 (gI σ x1 1)) b2 = (8, NO 8) ∧ b2 < nx (sI σ x0 1 (gI σ x1 1)) then (bo (gR (sI σ x0 1 (gI σ x1 1)) x1 2) fun b6 => if kd (sI σ x0 1 (gI σ x1 1)) b6 = (8, NO 8) ∧ b6 < nx (sI σ x0 1 (gI σ x1 1)) then (bv (F_X8_copyFrom b2 b6 (sI σ x0 1 (gI σ x1 1))) fun σ11 => (bo (gR σ11 x0 3) fun b19 => if kd σ11 b19 = (8, NO 8) ∧ b19 < nx σ11 then (bo (gR σ11 x1 3) fun b23 => if kd σ11 b23 = (8, NO 8) ∧ b23 < nx σ11 then (bv (F_X8_copyFrom b19 b23 σ11) fun σ28 => (bo (gR σ28 x0 4) fun b36 => if kd σ28 b36 = (8, NO 8) ∧ b36 < nx σ28 then (bo (gR σ28 x1 4) fun b40 => if kd σ28 b40 = (8, NO 8) ∧ b40 < nx σ28 then (bv (F_X8_copyFrom b36 b40 σ28) fun σ45 => (bo (gR σ45 x0 5) fun b53 => if kd σ45 b53 = (8, NO 8) ∧ b53 < nx σ45 then (bo (gR σ45 x1 5) fun b57 => if kd σ45 b57 = (8, NO 8) ∧ b57 < nx σ45 then (bv (F_X8_copyFrom b53 b57 σ45) fun σ62 => (bo (gR σ62 x0 6) fun b70 => if kd σ62 b70 = (8, NO 8) ∧ b70 < nx σ62 then (bo (gR σ62 x1 6) fun b74 => if kd σ62 b74 = (8, NO 8) ∧ b74 < nx σ62 then (bv (F_X8_copyFrom b70 b74 σ62) fun σ79 => (bo (gR σ79 x0 7) fun b87 => if kd σ79 b87 = (8, NO 8) ∧ b87 < nx σ79 then (bo (gR σ79 x1 7) fun b91 => if kd σ79 b91 = (8, NO 8) ∧ b91 < nx σ79 then (bv (F_X8_copyFrom b87 b91 σ79) fun σ96 => (bo (gR σ96 x0 8) fun b104 => if kd σ96 b104 = (8, NO 8) ∧ b104 < nx σ96 then (bo (gR σ96 x1 8) fun b108 => if kd σ96 b108 = (8, NO 8) ∧ b108 < nx σ96 then (bv (F_X8_copyFrom b104 b108 σ96) fun σ113 => (bo (gR σ113 x0 9) fun b121 => if kd σ113 b121 = (8, NO 8) ∧ b121 < nx σ113 then (bo (gR σ113 x1 9) fun b125 => if kd σ113 b125 = (8, NO 8) ∧ b125 < nx σ113 then (bv (F_X8_copyFrom b121 b125 σ113) fun σ130 => (bo (gR σ130 x1 10) fun b138 => if (kd σ130 b138).1 = 100 ∧ b138 < nx σ130 then (bo (gR σ130 x0 10) fun b143 => if (kd σ130 b143).1 = 100 ∧ b143 < nx σ130 then (bo (gR σ130 x0 10) fun b148 => if (kd σ130 b148).1 = 100 ∧ b148 < nx σ130 then (if ¬ (Int32.ofNat (kd σ130 b148).2) < 0 then (if 0 + (Int32.ofNat (kd σ130 b148).2).toNatClampNeg ≤ (kd σ130 b138).2 then (if 0 + (Int32.ofNat (kd σ130 b148).2).toNatClampNeg ≤ (kd σ130 b143).2 then (if alB m_X9_copyFrom b143 = true then (lt (sA σ130 b143 (va_cpy (gI σ130 b138) (gI σ130 b143) 0 0 ((Int32.ofNat (kd σ130 b148).2).toNatClampNeg))) fun τ160 => (bo (gR τ160 x1 11) fun b167 => if (kd τ160 b167).1 = 100 ∧ b167 < nx τ160 then (bo (gR τ160 x0 11) fun b172 => if (kd τ160 b172).1 = 100 ∧ b172 < nx τ160 then (bo (gR τ160 x0 11) fun b177 => if (kd τ160 b177).1 = 100 ∧ b177 < nx τ160 then (if ¬ (Int32.ofNat (kd τ160 b177).2) < 0 then (if 0 + (Int32.ofNat (kd τ160 b177).2).toNatClampNeg ≤ (kd τ160 b167).2 then (if 0 + (Int32.ofNat (kd τ160 b177).2).toNatClampNeg ≤ (kd τ160 b172).2 then (if alB m_X9_copyFrom b172 = true then (lt (sA τ160 b172 (va_cpy (gI τ160 b167) (gI τ160 b172) 0 0 ((Int32.ofNat (kd τ160 b177).2).toNatClampNeg))) fun τ189 => (if alB m_X9_copyFrom x0 = true then (if alB m_X9_copyFrom x0 = true then (if alB m_X9_copyFrom x0 = true then (lt (sI (sI (sI τ189 x0 12 (gI τ189 x1 12)) x0 13 (gI (sI τ189 x0 12 (gI τ189 x1 12)) x1 13)) x0 14 (gI (sI (sI τ189 x0 12 (gI τ189 x1 12)) x0 13 (gI (sI τ189 x0 12 (gI τ189 x1 12)) x1 13)) x1 14)) fun τ199 => (if alB m_X9_copyFrom x0 = true then (some (sI τ199 x0 15 (gI τ199 x1 15))) else none)) else none) else none) else none)) else none) else none) else none) else none) else none) else none) else none)) else none) else none) else none) else none) else none) else none) else none)) else none) else none)) else none) else none)) else none) else none)) else none) else none)) else none) else none)) else none) else none)) else none) else none)) else none) else none) else none) else (bo (gR σ x0 0) fun b207 => if (kd σ b207).1 = 103 ∧ b207 < nx σ then (bo (gR σ x1 0) fun b212 => if (kd σ b212).1 = 103 ∧ b212 < nx σ then (if inB x2 (kd σ b212).2 = true then (on (gR σ b212 x2.toNatClampNeg) (if alB m_X9_copyFrom b207 = true then (if inB x2 (kd σ b207).2 = true then (if shOK b207 x2.toNatClampNeg = true then (lt (sR σ b207 x2.toNatClampNeg none) fun τ236 => (k_X9_copyFrom_2 x0 x1 (x2 + 1) τ236)) else none) else none) else none) fun b217 => if kd σ b217 = (0, NO 0) ∧ b217 < nx σ then (if alB m_X9_copyFrom b207 = true then (if inB x2 (kd σ b207).2 = true then (if shOK b207 x2.toNatClampNeg = true then (lt (sR σ b207 x2.toNatClampNeg (some b217)) fun τ226 => (k_X9_copyFrom_2 x0 x1 (x2 + 1) τ226)) else none) else none) else none) else none) else none) else none) else none)) else none) else none) else none) else none)
def F_X9_copyFrom_2 : Nat → Nat → Nat → Int32 → AH → Option AH := fun k => match k with | 0 => fun _ _ _ _ => none | k + 1 => B_X9_copyFrom_2 (F_X9_copyFrom_2 k)
def F_X9_copyFrom (x0 : Nat) (x1 : Nat) (σ : AH) : Option AH := (if kd σ x0 = (9, NO 9) then (if x0 < nx σ then (if kd σ x1 = (9, NO 9) then (if x1 < nx σ then (F_X9_copyFrom_2 BIG x0 x1 (0 : Int32) σ) else none) else none) else none) else none)
set_option maxRecDepth 100000 in
theorem t_X9_copyFrom_2 {X : Sx} {l : Launch} {D : Nat} {k_X9_copyFrom_2 : Nat → Nat → Int32 → AH → Option AH} {x0 : Nat} {x1 : Nat} {x2 : Int32} {σ : AH} {σ' : AH} (hD : 2 ≤ D) (hk_X9_copyFrom_2 : ∀ (x0 : Nat) (x1 : Nat) (x2 : Int32) (σ : AH) (σ' : AH), k_X9_copyFrom_2 x0 x1 x2 σ = some σ' → E X l m_X9_copyFrom D 2 [(0, .ref x0), (1, .ref x1), (2, .int x2)] [] σ none σ') (h : B_X9_copyFrom_2 k_X9_copyFrom_2 x0 x1 x2 σ = some σ') : W_X9_copyFrom_2 X l D x0 x1 x2 σ none σ' := by
  unfold B_X9_copyFrom_2 at h
  unfold W_X9_copyFrom_2
  obtain ⟨g1, h⟩ := of_gd h
  refine ⟨g1, ?_⟩
  obtain ⟨g2, h⟩ := of_gd h
  refine ⟨g2, ?_⟩
  obtain ⟨g3, h⟩ := of_gd h
  refine ⟨g3, ?_⟩
  obtain ⟨g4, h⟩ := of_gd h
  refine ⟨g4, ?_⟩
  refine ite_i (fun c5 => ?_) (fun c5 => ?_)
  · replace h := of_ifp h c5
    obtain ⟨g6, h⟩ := of_gd h
    refine ⟨(alB_mp g6), ?_⟩
    obtain ⟨b2, e8, h⟩ := of_bo h
    obtain ⟨g7, h⟩ := of_gd h
    refine ⟨b2, e8, g7.1, g7.2, ?_⟩
    obtain ⟨b6, e10, h⟩ := of_bo h
    obtain ⟨g9, h⟩ := of_gd h
    refine ⟨b6, e10, g9.1, g9.2, ?_⟩
    obtain ⟨σ11, q11, h⟩ := of_bv h
    have hC12 := f_X8_copyFrom  q11 (X := X) (l := l)
    refine ⟨1, σ11, (Nat.le_trans (by decide) hD), hC12, ?_⟩
    obtain ⟨b19, e15, h⟩ := of_bo h
    obtain ⟨g14, h⟩ := of_gd h
    refine ⟨b19, e15, g14.1, g14.2, ?_⟩
    obtain ⟨b23, e17, h⟩ := of_bo h
    obtain ⟨g16, h⟩ := of_gd h
    refine ⟨b23, e17, g16.1, g16.2, ?_⟩
    obtain ⟨σ28, q18, h⟩ := of_bv h
    have hC19 := f_X8_copyFrom  q18 (X := X) (l := l)
    refine ⟨1, σ28, (Nat.le_trans (by decide) hD), hC19, ?_⟩
    obtain ⟨b36, e22, h⟩ := of_bo h
    obtain ⟨g21, h⟩ := of_gd h
    refine ⟨b36, e22, g21.1, g21.2, ?_⟩
    obtain ⟨b40, e24, h⟩ := of_bo h
    obtain ⟨g23, h⟩ := of_gd h
    refine ⟨b40, e24, g23.1, g23.2, ?_⟩
    obtain ⟨σ45, q25, h⟩ := of_bv h
    have hC26 := f_X8_copyFrom  q25 (X := X) (l := l)
    refine ⟨1, σ45, (Nat.le_trans (by decide) hD), hC26, ?_⟩
    obtain ⟨b53, e29, h⟩ := of_bo h
    obtain ⟨g28, h⟩ := of_gd h
    refine ⟨b53, e29, g28.1, g28.2, ?_⟩
    obtain ⟨b57, e31, h⟩ := of_bo h
    obtain ⟨g30, h⟩ := of_gd h
    refine ⟨b57, e31, g30.1, g30.2, ?_⟩
    obtain ⟨σ62, q32, h⟩ := of_bv h
    have hC33 := f_X8_copyFrom  q32 (X := X) (l := l)
    refine ⟨1, σ62, (Nat.le_trans (by decide) hD), hC33, ?_⟩
    obtain ⟨b70, e36, h⟩ := of_bo h
    obtain ⟨g35, h⟩ := of_gd h
    refine ⟨b70, e36, g35.1, g35.2, ?_⟩
    obtain ⟨b74, e38, h⟩ := of_bo h
    obtain ⟨g37, h⟩ := of_gd h
    refine ⟨b74, e38, g37.1, g37.2, ?_⟩
    obtain ⟨σ79, q39, h⟩ := of_bv h
    have hC40 := f_X8_copyFrom  q39 (X := X) (l := l)
    refine ⟨1, σ79, (Nat.le_trans (by decide) hD), hC40, ?_⟩
    obtain ⟨b87, e43, h⟩ := of_bo h
    obtain ⟨g42, h⟩ := of_gd h
    refine ⟨b87, e43, g42.1, g42.2, ?_⟩
    obtain ⟨b91, e45, h⟩ := of_bo h
    obtain ⟨g44, h⟩ := of_gd h
    refine ⟨b91, e45, g44.1, g44.2, ?_⟩
    obtain ⟨σ96, q46, h⟩ := of_bv h
    have hC47 := f_X8_copyFrom  q46 (X := X) (l := l)
    refine ⟨1, σ96, (Nat.le_trans (by decide) hD), hC47, ?_⟩
    obtain ⟨b104, e50, h⟩ := of_bo h
    obtain ⟨g49, h⟩ := of_gd h
    refine ⟨b104, e50, g49.1, g49.2, ?_⟩
    obtain ⟨b108, e52, h⟩ := of_bo h
    obtain ⟨g51, h⟩ := of_gd h
    refine ⟨b108, e52, g51.1, g51.2, ?_⟩
    obtain ⟨σ113, q53, h⟩ := of_bv h
    have hC54 := f_X8_copyFrom  q53 (X := X) (l := l)
    refine ⟨1, σ113, (Nat.le_trans (by decide) hD), hC54, ?_⟩
    obtain ⟨b121, e57, h⟩ := of_bo h
    obtain ⟨g56, h⟩ := of_gd h
    refine ⟨b121, e57, g56.1, g56.2, ?_⟩
    obtain ⟨b125, e59, h⟩ := of_bo h
    obtain ⟨g58, h⟩ := of_gd h
    refine ⟨b125, e59, g58.1, g58.2, ?_⟩
    obtain ⟨σ130, q60, h⟩ := of_bv h
    have hC61 := f_X8_copyFrom  q60 (X := X) (l := l)
    refine ⟨1, σ130, (Nat.le_trans (by decide) hD), hC61, ?_⟩
    obtain ⟨b138, e64, h⟩ := of_bo h
    obtain ⟨g63, h⟩ := of_gd h
    refine ⟨b138, _, e64, Prod.ext g63.1 rfl, g63.2, ?_⟩
    obtain ⟨b143, e66, h⟩ := of_bo h
    obtain ⟨g65, h⟩ := of_gd h
    refine ⟨b143, _, e66, Prod.ext g65.1 rfl, g65.2, ?_⟩
    obtain ⟨b148, e68, h⟩ := of_bo h
    obtain ⟨g67, h⟩ := of_gd h
    refine ⟨b148, _, e68, Prod.ext g67.1 rfl, g67.2, ?_⟩
    obtain ⟨g69, h⟩ := of_gd h
    refine ⟨g69, ?_⟩
    obtain ⟨g70, h⟩ := of_gd h
    refine ⟨g70, ?_⟩
    obtain ⟨g71, h⟩ := of_gd h
    refine ⟨g71, ?_⟩
    refine ⟨Nat.le_trans (by decide) hD, ?_⟩
    obtain ⟨g72, h⟩ := of_gd h
    refine ⟨(alB_mp g72), ?_⟩
    intro τ160 e73
    replace h := of_lt h e73
    obtain ⟨b167, e75, h⟩ := of_bo h
    obtain ⟨g74, h⟩ := of_gd h
    refine ⟨b167, _, e75, Prod.ext g74.1 rfl, g74.2, ?_⟩
    obtain ⟨b172, e77, h⟩ := of_bo h
    obtain ⟨g76, h⟩ := of_gd h
    refine ⟨b172, _, e77, Prod.ext g76.1 rfl, g76.2, ?_⟩
    obtain ⟨b177, e79, h⟩ := of_bo h
    obtain ⟨g78, h⟩ := of_gd h
    refine ⟨b177, _, e79, Prod.ext g78.1 rfl, g78.2, ?_⟩
    obtain ⟨g80, h⟩ := of_gd h
    refine ⟨g80, ?_⟩
    obtain ⟨g81, h⟩ := of_gd h
    refine ⟨g81, ?_⟩
    obtain ⟨g82, h⟩ := of_gd h
    refine ⟨g82, ?_⟩
    refine ⟨Nat.le_trans (by decide) hD, ?_⟩
    obtain ⟨g83, h⟩ := of_gd h
    refine ⟨(alB_mp g83), ?_⟩
    intro τ189 e84
    replace h := of_lt h e84
    obtain ⟨g85, h⟩ := of_gd h
    refine ⟨(alB_mp g85), ?_⟩
    obtain ⟨g86, h⟩ := of_gd h
    refine ⟨(alB_mp g86), ?_⟩
    obtain ⟨g87, h⟩ := of_gd h
    refine ⟨(alB_mp g87), ?_⟩
    intro τ199 e88
    replace h := of_lt h e88
    obtain ⟨g89, h⟩ := of_gd h
    refine ⟨(alB_mp g89), ?_⟩
    exact ret_v h
  · replace h := of_ifn h c5
    obtain ⟨b207, e91, h⟩ := of_bo h
    obtain ⟨g90, h⟩ := of_gd h
    refine ⟨b207, _, e91, Prod.ext g90.1 rfl, g90.2, ?_⟩
    obtain ⟨b212, e93, h⟩ := of_bo h
    obtain ⟨g92, h⟩ := of_gd h
    refine ⟨b212, _, e93, Prod.ext g92.1 rfl, g92.2, ?_⟩
    obtain ⟨g94, h⟩ := of_gd h
    refine ⟨(inB_mp g94), ?_⟩
    refine ⟨?_, ?_⟩
    · intro e96
      replace h := of_on0 h e96
      obtain ⟨g97, h⟩ := of_gd h
      refine ⟨(alB_mp g97), ?_⟩
      obtain ⟨g98, h⟩ := of_gd h
      refine ⟨(inB_mp g98), ?_⟩
      obtain ⟨g99, h⟩ := of_gd h
      refine ⟨(fun q => shOK_mp g99 q), ?_⟩
      intro τ236 e100
      replace h := of_lt h e100
      exact hk_X9_copyFrom_2 _ _ _ _ _   h
    · intro b217 e96
      replace h := of_on1 h e96
      obtain ⟨g95, h⟩ := of_gd h
      refine ⟨g95.1, g95.2, ?_⟩
      obtain ⟨g101, h⟩ := of_gd h
      refine ⟨(alB_mp g101), ?_⟩
      obtain ⟨g102, h⟩ := of_gd h
      refine ⟨(inB_mp g102), ?_⟩
      obtain ⟨g103, h⟩ := of_gd h
      refine ⟨(fun q => shOK_mp g103 q), ?_⟩
      intro τ226 e104
      replace h := of_lt h e104
      exact hk_X9_copyFrom_2 _ _ _ _ _   h
theorem e_X9_copyFrom_2 {X : Sx} {l : Launch} {D : Nat} (hD : 2 ≤ D) : ∀ (k : Nat) (x0 : Nat) (x1 : Nat) (x2 : Int32) (σ : AH) (σ' : AH), F_X9_copyFrom_2 k x0 x1 x2 σ = some σ' → E X l m_X9_copyFrom D 2 [(0, .ref x0), (1, .ref x1), (2, .int x2)] [] σ none σ' := by
  intro k
  induction k with
  | zero => intro x0 x1 x2 σ σ' h; cases h
  | succ k ih =>
    intro x0 x1 x2 σ σ' h
    exact w_X9_copyFrom_2  (t_X9_copyFrom_2 hD ih  h)
set_option maxRecDepth 100000 in
theorem t_X9_copyFrom_0 {X : Sx} {l : Launch} {D : Nat} {x0 : Nat} {x1 : Nat} {σ : AH} {σ' : AH} (hD : 2 ≤ D) (h : F_X9_copyFrom x0 x1 σ = some σ') : W_X9_copyFrom_0 X l D x0 x1 σ none σ' := by
  unfold F_X9_copyFrom at h
  unfold W_X9_copyFrom_0
  obtain ⟨g1, h⟩ := of_gd h
  refine ⟨g1, ?_⟩
  obtain ⟨g2, h⟩ := of_gd h
  refine ⟨g2, ?_⟩
  obtain ⟨g3, h⟩ := of_gd h
  refine ⟨g3, ?_⟩
  obtain ⟨g4, h⟩ := of_gd h
  refine ⟨g4, ?_⟩
  exact e_X9_copyFrom_2 hD  _ _ _ _ _ _   h
theorem f_X9_copyFrom {X : Sx} {l : Launch} {x0 : Nat} {x1 : Nat} {σ : AH} {σ' : AH} (h : F_X9_copyFrom x0 x1 σ = some σ') : Call X l m_X9_copyFrom 2 [.ref x0, .ref x1] σ none σ' :=
  Call.ofE ok_X9_copyFrom rfl (Nat.le_of_ble_eq_true rfl) (w_X9_copyFrom_0  (t_X9_copyFrom_0 (Nat.le_refl _)  h))
def F_X10_init (x0 : Nat) (x1 : Nat) (x2 : Nat) (σ : AH) : Option AH := (if kd σ x0 = (10, NO 10) then (if x0 < nx σ then (if kd σ x1 = (9, NO 9) then (if x1 < nx σ then (if alB m_X10_init x0 = true then (if alB m_X10_init x0 = true then (if alB m_X10_init x0 = true then (lt (aw (sI (sI (sI σ x0 2 (-1 : Int32)) x0 3 (-1 : Int32)) x0 4 (-1 : Int32)) 100 1300) fun τ4 => (if alB m_X10_init x0 = true then (if shOX τ4 x0 5 = true then (lt (sR τ4 x0 5 (some (nx (sI (sI (sI σ x0 2 (-1 : Int32)) x0 3 (-1 : Int32)) x0 4 (-1 : Int32))))) fun τ15 => (lt (aw τ15 100 1560) fun τ22 => (if alB m_X10_init x0 = true then (if shOX τ22 x0 6 = true then (lt (sR τ22 x0 6 (some (nx τ15))) fun τ33 => (lt (aw τ33 100 6) fun τ40 => (if alB m_X10_init x0 = true then (if shOX τ40 x0 7 = true then (lt (sR τ40 x0 7 (some (nx τ33))) fun τ51 => (lt (aw τ51 100 30) fun τ58 => (if alB m_X10_init x0 = true then (if shOX τ58 x0 8 = true then (lt (sR τ58 x0 8 (some (nx τ51))) fun τ69 => (lt (aw τ69 100 260) fun τ76 => (if alB m_X10_init x0 = true then (if shOX τ76 x0 9 = true then (lt (sR τ76 x0 9 (some (nx τ69))) fun τ87 => (lt (aw τ87 100 60) fun τ94 => (if alB m_X10_init x0 = true then (if shOX τ94 x0 10 = true then (lt (sR τ94 x0 10 (some (nx τ87))) fun τ105 => (lt (aw τ105 100 260) fun τ112 => (if alB m_X10_init x0 = true then (if shOX τ112 x0 11 = true then (lt (sR τ112 x0 11 (some (nx τ105))) fun τ123 => (lt (aw τ123 100 4212) fun τ130 => (if alB m_X10_init x0 = true then (if shOX τ130 x0 12 = true then (lt (sR τ130 x0 12 (some (nx τ123))) fun τ141 => (lt (aw τ141 100 702) fun τ148 => (if alB m_X10_init x0 = true then (if shOX τ148 x0 13 = true then (lt (sR τ148 x0 13 (some (nx τ141))) fun τ159 => (if alB m_X10_init x0 = true then (if shOX τ159 x0 0 = true then (lt (sR τ159 x0 0 (some x1)) fun τ168 => (if alB m_X10_init x0 = true then (if shOX τ168 x0 1 = true then (lt (sR τ168 x0 1 (some x2)) fun τ177 => (some τ177)) else none) else none)) else none) else none)) else none) else none))) else none) else none))) else none) else none))) else none) else none))) else none) else none))) else none) else none))) else none) else none))) else none) else none))) else none) else none)) else none) else none) else none) else none) else none) else none) else none)
set_option maxRecDepth 100000 in
theorem t_X10_init_0 {X : Sx} {l : Launch} {D : Nat} {x0 : Nat} {x1 : Nat} {x2 : Nat} {σ : AH} {σ' : AH} (hD : 1 ≤ D) (h : F_X10_init x0 x1 x2 σ = some σ') : W_X10_init_0 X l D x0 x1 x2 σ none σ' := by
  unfold F_X10_init at h
  unfold W_X10_init_0
  obtain ⟨g1, h⟩ := of_gd h
  refine ⟨g1, ?_⟩
  obtain ⟨g2, h⟩ := of_gd h
  refine ⟨g2, ?_⟩
  obtain ⟨g3, h⟩ := of_gd h
  refine ⟨g3, ?_⟩
  obtain ⟨g4, h⟩ := of_gd h
  refine ⟨g4, ?_⟩
  refine ⟨Nat.le_trans (by decide) hD, ?_⟩
  obtain ⟨g5, h⟩ := of_gd h
  refine ⟨(alB_mp g5), ?_⟩
  obtain ⟨g6, h⟩ := of_gd h
  refine ⟨(alB_mp g6), ?_⟩
  obtain ⟨g7, h⟩ := of_gd h
  refine ⟨(alB_mp g7), ?_⟩
  intro τ4 e8
  replace h := of_lt h e8
  obtain ⟨g9, h⟩ := of_gd h
  refine ⟨(alB_mp g9), ?_⟩
  obtain ⟨g10, h⟩ := of_gd h
  refine ⟨(fun q => shOX_mp g10 q), ?_⟩
  intro τ15 e11
  replace h := of_lt h e11
  intro τ22 e12
  replace h := of_lt h e12
  obtain ⟨g13, h⟩ := of_gd h
  refine ⟨(alB_mp g13), ?_⟩
  obtain ⟨g14, h⟩ := of_gd h
  refine ⟨(fun q => shOX_mp g14 q), ?_⟩
  intro τ33 e15
  replace h := of_lt h e15
  intro τ40 e16
  replace h := of_lt h e16
  obtain ⟨g17, h⟩ := of_gd h
  refine ⟨(alB_mp g17), ?_⟩
  obtain ⟨g18, h⟩ := of_gd h
  refine ⟨(fun q => shOX_mp g18 q), ?_⟩
  intro τ51 e19
  replace h := of_lt h e19
  intro τ58 e20
  replace h := of_lt h e20
  obtain ⟨g21, h⟩ := of_gd h
  refine ⟨(alB_mp g21), ?_⟩
  obtain ⟨g22, h⟩ := of_gd h
  refine ⟨(fun q => shOX_mp g22 q), ?_⟩
  intro τ69 e23
  replace h := of_lt h e23
  intro τ76 e24
  replace h := of_lt h e24
  obtain ⟨g25, h⟩ := of_gd h
  refine ⟨(alB_mp g25), ?_⟩
  obtain ⟨g26, h⟩ := of_gd h
  refine ⟨(fun q => shOX_mp g26 q), ?_⟩
  intro τ87 e27
  replace h := of_lt h e27
  intro τ94 e28
  replace h := of_lt h e28
  obtain ⟨g29, h⟩ := of_gd h
  refine ⟨(alB_mp g29), ?_⟩
  obtain ⟨g30, h⟩ := of_gd h
  refine ⟨(fun q => shOX_mp g30 q), ?_⟩
  intro τ105 e31
  replace h := of_lt h e31
  intro τ112 e32
  replace h := of_lt h e32
  obtain ⟨g33, h⟩ := of_gd h
  refine ⟨(alB_mp g33), ?_⟩
  obtain ⟨g34, h⟩ := of_gd h
  refine ⟨(fun q => shOX_mp g34 q), ?_⟩
  intro τ123 e35
  replace h := of_lt h e35
  intro τ130 e36
  replace h := of_lt h e36
  obtain ⟨g37, h⟩ := of_gd h
  refine ⟨(alB_mp g37), ?_⟩
  obtain ⟨g38, h⟩ := of_gd h
  refine ⟨(fun q => shOX_mp g38 q), ?_⟩
  intro τ141 e39
  replace h := of_lt h e39
  intro τ148 e40
  replace h := of_lt h e40
  obtain ⟨g41, h⟩ := of_gd h
  refine ⟨(alB_mp g41), ?_⟩
  obtain ⟨g42, h⟩ := of_gd h
  refine ⟨(fun q => shOX_mp g42 q), ?_⟩
  intro τ159 e43
  replace h := of_lt h e43
  obtain ⟨g44, h⟩ := of_gd h
  refine ⟨(alB_mp g44), ?_⟩
  obtain ⟨g45, h⟩ := of_gd h
  refine ⟨(fun q => shOX_mp g45 q), ?_⟩
  intro τ168 e46
  replace h := of_lt h e46
  obtain ⟨g47, h⟩ := of_gd h
  refine ⟨(alB_mp g47), ?_⟩
  obtain ⟨g48, h⟩ := of_gd h
  refine ⟨(fun q => shOX_mp g48 q), ?_⟩
  intro τ177 e49
  replace h := of_lt h e49
  exact ret_v h
theorem f_X10_init {X : Sx} {l : Launch} {x0 : Nat} {x1 : Nat} {x2 : Nat} {σ : AH} {σ' : AH} (h : F_X10_init x0 x1 x2 σ = some σ') : Call X l m_X10_init 1 [.ref x0, .ref x1, .ref x2] σ none σ' :=
  Call.ofE ok_X10_init rfl (Nat.le_of_ble_eq_true rfl) (w_X10_init_0  (t_X10_init_0 (Nat.le_refl _)  h))
set_option maxRecDepth 100000 in
def F_X11_init (x0 : Nat) (σ : AH) : Option AH := (if kd σ x0 = (11, NO 11) then (if x0 < nx σ then (lt (aw σ 9 (NO 9)) fun τ1 => (bv (F_X9_init (nx σ) τ1) fun σ9 => (if alB m_X11_init x0 = true then (if shOX σ9 x0 0 = true then (lt (sR σ9 x0 0 (some (nx σ))) fun τ19 => (lt (aw τ19 104 3) fun τ24 => (if alB m_X11_init x0 = true then (if shOX τ24 x0 1 = true then (lt (sR τ24 x0 1 (some (nx τ19))) fun τ33 => (lt (aw τ33 5 (NO 5)) fun τ38 => (bv (F_X5_init (nx τ33) τ38) fun σ46 => (if alB m_X11_init x0 = true then (if shOX σ46 x0 2 = true then (lt (sR σ46 x0 2 (some (nx τ33))) fun τ56 => (lt (aw τ56 3 (NO 3)) fun τ61 => (bo (gR τ61 x0 0) fun b68 => if kd τ61 b68 = (9, NO 9) ∧ b68 < nx τ61 then (bv (F_X3_init (nx τ56) b68 τ61) fun σ73 => (if alB m_X11_init x0 = true then (if shOX σ73 x0 3 = true then (lt (sR σ73 x0 3 (some (nx τ56))) fun τ83 => (lt (aw τ83 10 (NO 10)) fun τ88 => (bo (gR τ88 x0 0) fun b95 => if kd τ88 b95 = (9, NO 9) ∧ b95 < nx τ88 then (bo (gR τ88 x0 3) fun b99 => if kd τ88 b99 = (3, NO 3) ∧ b99 < nx τ88 then (bv (F_X10_init (nx τ83) b95 b99 τ88) fun σ104 => (if alB m_X11_init x0 = true then (if shOX σ104 x0 4 = true then (lt (sR σ104 x0 4 (some (nx τ83))) fun τ114 => (lt (aw τ114 6 (NO 6)) fun τ119 => (bv (F_X6_init (nx τ114) τ119) fun σ127 => (if alB m_X11_init x0 = true then (if shOX σ127 x0 5 = true then (lt (sR σ127 x0 5 (some (nx τ114))) fun τ137 => (lt (aw τ137 6 (NO 6)) fun τ142 => (bv (F_X6_init (nx τ137) τ142) fun σ150 => (if alB m_X11_init x0 = true then (if shOX σ150 x0 6 = true then (lt (sR σ150 x0 6 (some (nx τ137))) fun τ160 => (lt (aw τ160 1 (NO 1)) fun τ165 => (bo (gR τ165 x0 0) fun b172 => if kd τ165 b172 = (9, NO 9) ∧ b172 < nx τ165 then (bo (gR τ165 x0 4) fun b176 => if kd τ165 b176 = (10, NO 10) ∧ b176 < nx τ165 then (bv (F_X1_init (nx τ160) b172 b176 τ165) fun σ181 => (if alB m_X11_init x0 = true then (if shOX σ181 x0 7 = true then (lt (sR σ181 x0 7 (some (nx τ160))) fun τ191 => (lt (aw τ191 4 (NO 4)) fun τ196 => (bo (gR τ196 x0 0) fun b203 => if kd τ196 b203 = (9, NO 9) ∧ b203 < nx τ196 then (bo (gR τ196 x0 3) fun b207 => if kd τ196 b207 = (3, NO 3) ∧ b207 < nx τ196 then (bv (F_X4_init (nx τ191) b203 b207 τ196) fun σ212 => (if alB m_X11_init x0 = true then (if shOX σ212 x0 8 = true then (lt (sR σ212 x0 8 (some (nx τ191))) fun τ222 => (lt (aw τ222 2 (NO 2)) fun τ227 => (bo (gR τ227 x0 0) fun b234 => if kd τ227 b234 = (9, NO 9) ∧ b234 < nx τ227 then (bo (gR τ227 x0 3) fun b238 => if kd τ227 b238 = (3, NO 3) ∧ b238 < nx τ227 then (bo (gR τ227 x0 8) fun b242 => if kd τ227 b242 = (4, NO 4) ∧ b242 < nx τ227 then (bv (F_X2_init (nx τ222) b234 b238 b242 τ227) fun σ247 => (if alB m_X11_init x0 = true then (if shOX σ247 x0 9 = true then (lt (sR σ247 x0 9 (some (nx τ222))) fun τ257 => (if alB m_X11_init x0 = true then (some (sI τ257 x0 11 (-1 : Int32))) else none)) else none) else none)) else none) else none) else none))) else none) else none)) else none) else none))) else none) else none)) else none) else none))) else none) else none)))) else none) else none)))) else none) else none)) else none) else none))) else none) else none)) else none))) else none) else none)))) else none) else none))) else none) else none))) else none) else none)
set_option maxRecDepth 100000 in
theorem t_X11_init_0 {X : Sx} {l : Launch} {D : Nat} {x0 : Nat} {σ : AH} {σ' : AH} (hD : 3 ≤ D) (h : F_X11_init x0 σ = some σ') : W_X11_init_0 X l D x0 σ none σ' := by
  unfold F_X11_init at h
  unfold W_X11_init_0
  obtain ⟨g1, h⟩ := of_gd h
  refine ⟨g1, ?_⟩
  obtain ⟨g2, h⟩ := of_gd h
  refine ⟨g2, ?_⟩
  refine ⟨Nat.le_trans (by decide) hD, ?_⟩
  intro τ1 e3
  replace h := of_lt h e3
  obtain ⟨σ9, q4, h⟩ := of_bv h
  have hC5 := f_X9_init  q4 (X := X) (l := l)
  refine ⟨2, σ9, (Nat.le_trans (by decide) hD), hC5, ?_⟩
  obtain ⟨g7, h⟩ := of_gd h
  refine ⟨(alB_mp g7), ?_⟩
  obtain ⟨g8, h⟩ := of_gd h
  refine ⟨(fun q => shOX_mp g8 q), ?_⟩
  intro τ19 e9
  replace h := of_lt h e9
  intro τ24 e10
  replace h := of_lt h e10
  obtain ⟨g11, h⟩ := of_gd h
  refine ⟨(alB_mp g11), ?_⟩
  obtain ⟨g12, h⟩ := of_gd h
  refine ⟨(fun q => shOX_mp g12 q), ?_⟩
  intro τ33 e13
  replace h := of_lt h e13
  intro τ38 e14
  replace h := of_lt h e14
  obtain ⟨σ46, q15, h⟩ := of_bv h
  have hC16 := f_X5_init  q15 (X := X) (l := l)
  refine ⟨1, σ46, (Nat.le_trans (by decide) hD), hC16, ?_⟩
  obtain ⟨g18, h⟩ := of_gd h
  refine ⟨(alB_mp g18), ?_⟩
  obtain ⟨g19, h⟩ := of_gd h
  refine ⟨(fun q => shOX_mp g19 q), ?_⟩
  intro τ56 e20
  replace h := of_lt h e20
  intro τ61 e21
  replace h := of_lt h e21
  obtain ⟨b68, e23, h⟩ := of_bo h
  obtain ⟨g22, h⟩ := of_gd h
  refine ⟨b68, e23, g22.1, g22.2, ?_⟩
  obtain ⟨σ73, q24, h⟩ := of_bv h
  have hC25 := f_X3_init  q24 (X := X) (l := l)
  refine ⟨1, σ73, (Nat.le_trans (by decide) hD), hC25, ?_⟩
  obtain ⟨g27, h⟩ := of_gd h
  refine ⟨(alB_mp g27), ?_⟩
  obtain ⟨g28, h⟩ := of_gd h
  refine ⟨(fun q => shOX_mp g28 q), ?_⟩
  intro τ83 e29
  replace h := of_lt h e29
  intro τ88 e30
  replace h := of_lt h e30
  obtain ⟨b95, e32, h⟩ := of_bo h
  obtain ⟨g31, h⟩ := of_gd h
  refine ⟨b95, e32, g31.1, g31.2, ?_⟩
  obtain ⟨b99, e34, h⟩ := of_bo h
  obtain ⟨g33, h⟩ := of_gd h
  refine ⟨b99, e34, g33.1, g33.2, ?_⟩
  obtain ⟨σ104, q35, h⟩ := of_bv h
  have hC36 := f_X10_init  q35 (X := X) (l := l)
  refine ⟨1, σ104, (Nat.le_trans (by decide) hD), hC36, ?_⟩
  obtain ⟨g38, h⟩ := of_gd h
  refine ⟨(alB_mp g38), ?_⟩
  obtain ⟨g39, h⟩ := of_gd h
  refine ⟨(fun q => shOX_mp g39 q), ?_⟩
  intro τ114 e40
  replace h := of_lt h e40
  intro τ119 e41
  replace h := of_lt h e41
  obtain ⟨σ127, q42, h⟩ := of_bv h
  have hC43 := f_X6_init  q42 (X := X) (l := l)
  refine ⟨2, σ127, (Nat.le_trans (by decide) hD), hC43, ?_⟩
  obtain ⟨g45, h⟩ := of_gd h
  refine ⟨(alB_mp g45), ?_⟩
  obtain ⟨g46, h⟩ := of_gd h
  refine ⟨(fun q => shOX_mp g46 q), ?_⟩
  intro τ137 e47
  replace h := of_lt h e47
  intro τ142 e48
  replace h := of_lt h e48
  obtain ⟨σ150, q49, h⟩ := of_bv h
  have hC50 := f_X6_init  q49 (X := X) (l := l)
  refine ⟨2, σ150, (Nat.le_trans (by decide) hD), hC50, ?_⟩
  obtain ⟨g52, h⟩ := of_gd h
  refine ⟨(alB_mp g52), ?_⟩
  obtain ⟨g53, h⟩ := of_gd h
  refine ⟨(fun q => shOX_mp g53 q), ?_⟩
  intro τ160 e54
  replace h := of_lt h e54
  intro τ165 e55
  replace h := of_lt h e55
  obtain ⟨b172, e57, h⟩ := of_bo h
  obtain ⟨g56, h⟩ := of_gd h
  refine ⟨b172, e57, g56.1, g56.2, ?_⟩
  obtain ⟨b176, e59, h⟩ := of_bo h
  obtain ⟨g58, h⟩ := of_gd h
  refine ⟨b176, e59, g58.1, g58.2, ?_⟩
  obtain ⟨σ181, q60, h⟩ := of_bv h
  have hC61 := f_X1_init  q60 (X := X) (l := l)
  refine ⟨2, σ181, (Nat.le_trans (by decide) hD), hC61, ?_⟩
  obtain ⟨g63, h⟩ := of_gd h
  refine ⟨(alB_mp g63), ?_⟩
  obtain ⟨g64, h⟩ := of_gd h
  refine ⟨(fun q => shOX_mp g64 q), ?_⟩
  intro τ191 e65
  replace h := of_lt h e65
  intro τ196 e66
  replace h := of_lt h e66
  obtain ⟨b203, e68, h⟩ := of_bo h
  obtain ⟨g67, h⟩ := of_gd h
  refine ⟨b203, e68, g67.1, g67.2, ?_⟩
  obtain ⟨b207, e70, h⟩ := of_bo h
  obtain ⟨g69, h⟩ := of_gd h
  refine ⟨b207, e70, g69.1, g69.2, ?_⟩
  obtain ⟨σ212, q71, h⟩ := of_bv h
  have hC72 := f_X4_init  q71 (X := X) (l := l)
  refine ⟨1, σ212, (Nat.le_trans (by decide) hD), hC72, ?_⟩
  obtain ⟨g74, h⟩ := of_gd h
  refine ⟨(alB_mp g74), ?_⟩
  obtain ⟨g75, h⟩ := of_gd h
  refine ⟨(fun q => shOX_mp g75 q), ?_⟩
  intro τ222 e76
  replace h := of_lt h e76
  intro τ227 e77
  replace h := of_lt h e77
  obtain ⟨b234, e79, h⟩ := of_bo h
  obtain ⟨g78, h⟩ := of_gd h
  refine ⟨b234, e79, g78.1, g78.2, ?_⟩
  obtain ⟨b238, e81, h⟩ := of_bo h
  obtain ⟨g80, h⟩ := of_gd h
  refine ⟨b238, e81, g80.1, g80.2, ?_⟩
  obtain ⟨b242, e83, h⟩ := of_bo h
  obtain ⟨g82, h⟩ := of_gd h
  refine ⟨b242, e83, g82.1, g82.2, ?_⟩
  obtain ⟨σ247, q84, h⟩ := of_bv h
  have hC85 := f_X2_init  q84 (X := X) (l := l)
  refine ⟨1, σ247, (Nat.le_trans (by decide) hD), hC85, ?_⟩
  obtain ⟨g87, h⟩ := of_gd h
  refine ⟨(alB_mp g87), ?_⟩
  obtain ⟨g88, h⟩ := of_gd h
  refine ⟨(fun q => shOX_mp g88 q), ?_⟩
  intro τ257 e89
  replace h := of_lt h e89
  obtain ⟨g90, h⟩ := of_gd h
  refine ⟨(alB_mp g90), ?_⟩
  exact ret_v h
theorem f_X11_init {X : Sx} {l : Launch} {x0 : Nat} {σ : AH} {σ' : AH} (h : F_X11_init x0 σ = some σ') : Call X l m_X11_init 3 [.ref x0] σ none σ' :=
  Call.ofE ok_X11_init rfl (Nat.le_of_ble_eq_true rfl) (w_X11_init_0  (t_X11_init_0 (Nat.le_refl _)  h))
def F_X11_feed (x1 : Int32) (x2 : Int32) (x3 : Int32) (x4 : Int32) (x5 : Int32) (σ : AH) : Option (Int32 × AH) := (bd (F_X5_hasRoom (20 : Int32) σ) fun v6 σ2 => (if v6 = 0 then (some ((-1 : Int32), σ2)) else (bv (F_X5_write x1 σ2) fun σ8 => (bv (F_X5_write x2 σ8) fun σ13 => (bv (F_X5_write x3 σ13) fun σ18 => (bv (F_X5_write x4 σ18) fun σ23 => (bv (F_X5_write x5 σ23) fun σ28 => (some ((gI σ28 22 1), σ28)))))))))
set_option maxRecDepth 100000 in
theorem t_X11_feed_0 {X : Sx} {l : Launch} {D : Nat} {x1 : Int32} {x2 : Int32} {x3 : Int32} {x4 : Int32} {x5 : Int32} {σ : AH} {v : Int32} {σ' : AH} (hD : 1 ≤ D) (hs : Sh σ) (h : F_X11_feed x1 x2 x3 x4 x5 σ = some (v, σ')) : W_X11_feed_0 X l D x1 x2 x3 x4 x5 σ (some (.int v)) σ' := by
  unfold F_X11_feed at h
  unfold W_X11_feed_0
  obtain ⟨v6, σ2, q1, h⟩ := of_bd h
  have hC2 := f_X5_hasRoom (σ := σ) hs  q1 (X := X) (l := l)
  have hs3 := hC2.1.2.2.2.1 hs
  refine ⟨0, v6, σ2, (Nat.le_trans (by decide) hD), hC2, ?_⟩
  refine ite_i (fun c4 => ?_) (fun c4 => ?_)
  · replace h := of_ifp h c4
    exact ret_i h
  · replace h := of_ifn h c4
    obtain ⟨σ8, q5, h⟩ := of_bv h
    have hC6 := f_X5_write (σ := σ2) hs3  q5 (X := X) (l := l)
    have hs7 := hC6.1.2.2.2.1 hs3
    refine ⟨0, σ8, (Nat.le_trans (by decide) hD), hC6, ?_⟩
    obtain ⟨σ13, q8, h⟩ := of_bv h
    have hC9 := f_X5_write (σ := σ8) hs7  q8 (X := X) (l := l)
    have hs10 := hC9.1.2.2.2.1 hs7
    refine ⟨0, σ13, (Nat.le_trans (by decide) hD), hC9, ?_⟩
    obtain ⟨σ18, q11, h⟩ := of_bv h
    have hC12 := f_X5_write (σ := σ13) hs10  q11 (X := X) (l := l)
    have hs13 := hC12.1.2.2.2.1 hs10
    refine ⟨0, σ18, (Nat.le_trans (by decide) hD), hC12, ?_⟩
    obtain ⟨σ23, q14, h⟩ := of_bv h
    have hC15 := f_X5_write (σ := σ18) hs13  q14 (X := X) (l := l)
    have hs16 := hC15.1.2.2.2.1 hs13
    refine ⟨0, σ23, (Nat.le_trans (by decide) hD), hC15, ?_⟩
    obtain ⟨σ28, q17, h⟩ := of_bv h
    have hC18 := f_X5_write (σ := σ23) hs16  q17 (X := X) (l := l)
    have hs19 := hC18.1.2.2.2.1 hs16
    refine ⟨0, σ28, (Nat.le_trans (by decide) hD), hC18, ?_⟩
    exact ret_i h
theorem f_X11_feed {X : Sx} {l : Launch} {x1 : Int32} {x2 : Int32} {x3 : Int32} {x4 : Int32} {x5 : Int32} {σ : AH} {v : Int32} {σ' : AH} (hs : Sh σ) (h : F_X11_feed x1 x2 x3 x4 x5 σ = some (v, σ')) : Call X l m_X11_feed 1 [.ref 0, .int x1, .int x2, .int x3, .int x4, .int x5] σ (some (.int v)) σ' :=
  Call.ofE ok_X11_feed rfl (Nat.le_of_ble_eq_true rfl) (w_X11_feed_0 hs  (t_X11_feed_0 (Nat.le_refl _) hs  h))
def F_X11_end (x1 : Int32) (σ : AH) : Option (Int32 × AH) := (if x1 < 0 then (some ((-1 : Int32), σ)) else (if x1 ≤ (gI σ 22 1) then (some (x1, (sI σ 22 1 x1))) else (some ((-1 : Int32), σ))))
set_option maxRecDepth 100000 in
theorem t_X11_end_0 {X : Sx} {l : Launch} {D : Nat} {x1 : Int32} {σ : AH} {v : Int32} {σ' : AH} (hD : 0 ≤ D) (hs : Sh σ) (h : F_X11_end x1 σ = some (v, σ')) : W_X11_end_0 X l D x1 σ (some (.int v)) σ' := by
  unfold F_X11_end at h
  unfold W_X11_end_0
  refine ite_i (fun c1 => ?_) (fun c1 => ?_)
  · replace h := of_ifp h c1
    exact ret_i h
  · replace h := of_ifn h c1
    refine ite_i (fun c2 => ?_) (fun c2 => ?_)
    · replace h := of_ifp h c2
      exact ret_i h
    · replace h := of_ifn h c2
      exact ret_i h
theorem f_X11_end {X : Sx} {l : Launch} {x1 : Int32} {σ : AH} {v : Int32} {σ' : AH} (hs : Sh σ) (h : F_X11_end x1 σ = some (v, σ')) : Call X l m_X11_end 0 [.ref 0, .int x1] σ (some (.int v)) σ' :=
  Call.ofE ok_X11_end rfl (Nat.le_of_ble_eq_true rfl) (w_X11_end_0 hs  (t_X11_end_0 (Nat.le_refl _) hs  h))
def F_X11_answer (x1 : Int32) (σ : AH) : Option (Int32 × AH) := (some (x1, (sI σ 0 10 (imin x1 (0 : Int32)))))
set_option maxRecDepth 100000 in
theorem t_X11_answer_0 {X : Sx} {l : Launch} {D : Nat} {x1 : Int32} {σ : AH} {v : Int32} {σ' : AH} (hD : 1 ≤ D) (hs : Sh σ) (h : F_X11_answer x1 σ = some (v, σ')) : W_X11_answer_0 X l D x1 σ (some (.int v)) σ' := by
  unfold F_X11_answer at h
  unfold W_X11_answer_0
  refine ⟨Nat.le_trans (by decide) hD, ?_⟩
  exact ret_i h
theorem f_X11_answer {X : Sx} {l : Launch} {x1 : Int32} {σ : AH} {v : Int32} {σ' : AH} (hs : Sh σ) (h : F_X11_answer x1 σ = some (v, σ')) : Call X l m_X11_answer 1 [.ref 0, .int x1] σ (some (.int v)) σ' :=
  Call.ofE ok_X11_answer rfl (Nat.le_of_ble_eq_true rfl) (w_X11_answer_0 hs  (t_X11_answer_0 (Nat.le_refl _) hs  h))
def F_X11_isIn (x0 : Int32) (x1 : Int32) (x2 : Int32) (σ : AH) : Option (Int32 × AH) := (if x0 < x1 then (some ((0 : Int32), σ)) else (if x2 < x0 then (some ((0 : Int32), σ)) else (some ((1 : Int32), σ))))
set_option maxRecDepth 100000 in
theorem t_X11_isIn_0 {X : Sx} {l : Launch} {D : Nat} {x0 : Int32} {x1 : Int32} {x2 : Int32} {σ : AH} {v : Int32} {σ' : AH} (hD : 0 ≤ D) (hs : Sh σ) (h : F_X11_isIn x0 x1 x2 σ = some (v, σ')) : W_X11_isIn_0 X l D x0 x1 x2 σ (some (.int v)) σ' := by
  unfold F_X11_isIn at h
  unfold W_X11_isIn_0
  refine ite_i (fun c1 => ?_) (fun c1 => ?_)
  · replace h := of_ifp h c1
    exact ret_i h
  · replace h := of_ifn h c1
    refine ite_i (fun c2 => ?_) (fun c2 => ?_)
    · replace h := of_ifp h c2
      exact ret_i h
    · replace h := of_ifn h c2
      exact ret_i h
theorem f_X11_isIn {X : Sx} {l : Launch} {x0 : Int32} {x1 : Int32} {x2 : Int32} {σ : AH} {v : Int32} {σ' : AH} (hs : Sh σ) (h : F_X11_isIn x0 x1 x2 σ = some (v, σ')) : Call X l m_X11_isIn 0 [.int x0, .int x1, .int x2] σ (some (.int v)) σ' :=
  Call.ofE ok_X11_isIn rfl (Nat.le_of_ble_eq_true rfl) (w_X11_isIn_0 hs  (t_X11_isIn_0 (Nat.le_refl _) hs  h))
def F_X11_isWeek (x0 : Int32) (σ : AH) : Option (Int32 × AH) := (bd (F_X11_isIn x0 (0 : Int32) (259 : Int32) σ) fun v6 σ2 => (if v6 = 0 ∨ v6 = 1 then some (v6, σ2) else none))
set_option maxRecDepth 100000 in
theorem t_X11_isWeek_0 {X : Sx} {l : Launch} {D : Nat} {x0 : Int32} {σ : AH} {v : Int32} {σ' : AH} (hD : 1 ≤ D) (hs : Sh σ) (h : F_X11_isWeek x0 σ = some (v, σ')) : W_X11_isWeek_0 X l D x0 σ (some (.int v)) σ' := by
  unfold F_X11_isWeek at h
  unfold W_X11_isWeek_0
  obtain ⟨v6, σ2, q1, h⟩ := of_bd h
  have hC2 := f_X11_isIn (σ := σ) hs  q1 (X := X) (l := l)
  have hs3 := hC2.1.2.2.2.1 hs
  refine ⟨0, v6, σ2, (Nat.le_trans (by decide) hD), hC2, ?_⟩
  exact ⟨(of_gd h).1, ret_i (of_gd h).2⟩
theorem f_X11_isWeek {X : Sx} {l : Launch} {x0 : Int32} {σ : AH} {v : Int32} {σ' : AH} (hs : Sh σ) (h : F_X11_isWeek x0 σ = some (v, σ')) : Call X l m_X11_isWeek 1 [.int x0] σ (some (.int v)) σ' :=
  Call.ofE ok_X11_isWeek rfl (Nat.le_of_ble_eq_true rfl) (w_X11_isWeek_0 hs  (t_X11_isWeek_0 (Nat.le_refl _) hs  h))
def F_X11_act_67 (x1 : Int32) (x2 : Int32) (x3 : Int32) (σ : AH) : Option (Int32 × AH) := (if x3 = 0 then (lt (aw (sI σ 22 1 (0 : Int32)) 0 (NO 0)) fun τ19 => (bv (F_X0_init (nx (sI σ 22 1 (0 : Int32))) x1 x2 τ19) fun σ25 => (if inB (gI (sI σ 22 1 (0 : Int32)) 1 1) 24 = true then (if shOK 2 (gI (sI σ 22 1 (0 : Int32)) 1 1).toNatClampNeg = true then (lt (sR σ25 2 (gI (sI σ 22 1 (0 : Int32)) 1 1).toNatClampNeg (some (nx (sI σ 22 1 (0 : Int32))))) fun τ33 => (bv (F_X3_reread (sI τ33 1 1 ((gI (sI σ 22 1 (0 : Int32)) 1 1) + (1 : Int32)))) fun σ37 => (bd (F_X11_answer (gI (sI σ 22 1 (0 : Int32)) 1 1) (sI σ37 0 12 ((gI σ37 0 12) + (1 : Int32)))) fun v46 σ42 => (some (v46, σ42))))) else none) else none))) else (bd (F_X11_answer x3 (sI σ 22 1 (0 : Int32))) fun v52 σ48 => (some (v52, σ48))))
def F_X11_act_66 (x1 : Int32) (x2 : Int32) (y0 : Int32) (σ : AH) : Option (Int32 × AH) := (F_X11_act_67 x1 x2 y0 σ)
def F_X11_act_36 (x1 : Int32) (x2 : Int32) (y0 : Int32) (σ : AH) : Option (Int32 × AH) := (if y0 = 0 then (bd (F_X5_read σ) fun v18 σ14 => (if (gI (sI σ14 0 11 v18) 0 11) = (-1 : Int32) then (F_X11_act_66 x1 x2 (0 : Int32) (sI σ14 0 11 v18)) else (F_X11_act_66 x1 x2 (-6 : Int32) (sI σ14 0 11 v18)))) else (F_X11_act_67 x1 x2 y0 σ))
def F_X11_act_14 (x1 : Int32) (x2 : Int32) (σ : AH) : Option (Int32 × AH) := (F_X11_act_36 x1 x2 (-1 : Int32) σ)
def F_X11_act (x1 : Int32) (x2 : Int32) (σ : AH) : Option (Int32 × AH) := (bd (F_X11_isWeek x1 σ) fun v6 σ2 => (if v6 = 0 then (F_X11_act_14 x1 x2 σ2) else (bd (F_X11_isWeek x2 σ2) fun v12 σ8 => (if v12 = 0 then (F_X11_act_14 x1 x2 σ8) else (if (gI σ8 1 1) < (24 : Int32) then (F_X11_act_36 x1 x2 (0 : Int32) σ8) else (F_X11_act_36 x1 x2 (-5 : Int32) σ8))))))
set_option maxRecDepth 100000 in
theorem t_X11_act_67 {X : Sx} {l : Launch} {D : Nat} {x1 : Int32} {x2 : Int32} {x3 : Int32} {σ : AH} {v : Int32} {σ' : AH} (hD : 78 ≤ D) (hs : Sh σ) (h : F_X11_act_67 x1 x2 x3 σ = some (v, σ')) : W_X11_act_67 X l D x1 x2 x3 σ (some (.int v)) σ' := by
  unfold F_X11_act_67 at h
  unfold W_X11_act_67
  refine ite_i (fun c1 => ?_) (fun c1 => ?_)
  · replace h := of_ifp h c1
    intro τ19 e2
    replace h := of_lt h e2
    have hs3 : Sh τ19 := by rw [e2]; exact Sh_aw hs
    obtain ⟨σ25, q4, h⟩ := of_bv h
    have hC5 := f_X0_init (σ := τ19) hs3  q4 (X := X) (l := l)
    have hs6 := hC5.1.2.2.2.1 hs3
    refine ⟨5, σ25, (Nat.le_trans (by decide) hD), hC5, ?_⟩
    obtain ⟨g7, h⟩ := of_gd h
    refine ⟨(inB_mp g7), ?_⟩
    obtain ⟨g8, h⟩ := of_gd h
    refine ⟨(fun q => shOK_mp g8 q), ?_⟩
    intro τ33 e9
    replace h := of_lt h e9
    have hs10 : Sh τ33 := by rw [e9]; exact (fun q => shOK_mp g8 q) hs6
    obtain ⟨σ37, q11, h⟩ := of_bv h
    have hC12 := f_X3_reread (σ := (sI τ33 1 1 ((gI (sI σ 22 1 (0 : Int32)) 1 1) + (1 : Int32)))) hs10  q11 (X := X) (l := l)
    have hs13 := hC12.1.2.2.2.1 hs10
    refine ⟨1, σ37, (Nat.le_trans (by decide) hD), hC12, ?_⟩
    obtain ⟨v46, σ42, q14, h⟩ := of_bd h
    have hC15 := f_X11_answer (σ := (sI σ37 0 12 ((gI σ37 0 12) + (1 : Int32)))) hs13  q14 (X := X) (l := l)
    have hs16 := hC15.1.2.2.2.1 hs13
    refine ⟨1, v46, σ42, (Nat.le_trans (by decide) hD), hC15, ?_⟩
    exact ret_i h
  · replace h := of_ifn h c1
    obtain ⟨v52, σ48, q17, h⟩ := of_bd h
    have hC18 := f_X11_answer (σ := (sI σ 22 1 (0 : Int32))) hs  q17 (X := X) (l := l)
    have hs19 := hC18.1.2.2.2.1 hs
    refine ⟨1, v52, σ48, (Nat.le_trans (by decide) hD), hC18, ?_⟩
    exact ret_i h
set_option maxRecDepth 100000 in
theorem t_X11_act_66 {X : Sx} {l : Launch} {D : Nat} {x1 : Int32} {x2 : Int32} {y0 : Int32} {σ : AH} {v : Int32} {σ' : AH} (hD : 78 ≤ D) (hs : Sh σ) (h : F_X11_act_66 x1 x2 y0 σ = some (v, σ')) : W_X11_act_66 X l D x1 x2 y0 σ (some (.int v)) σ' := by
  unfold F_X11_act_66 at h
  unfold W_X11_act_66
  exact t_X11_act_67 hD  hs  h
set_option maxRecDepth 100000 in
theorem t_X11_act_36 {X : Sx} {l : Launch} {D : Nat} {x1 : Int32} {x2 : Int32} {y0 : Int32} {σ : AH} {v : Int32} {σ' : AH} (hD : 78 ≤ D) (hs : Sh σ) (h : F_X11_act_36 x1 x2 y0 σ = some (v, σ')) : W_X11_act_36 X l D x1 x2 y0 σ (some (.int v)) σ' := by
  unfold F_X11_act_36 at h
  unfold W_X11_act_36
  refine ite_i (fun c1 => ?_) (fun c1 => ?_)
  · replace h := of_ifp h c1
    obtain ⟨v18, σ14, q2, h⟩ := of_bd h
    have hC3 := f_X5_read (σ := σ) hs  q2 (X := X) (l := l)
    have hs4 := hC3.1.2.2.2.1 hs
    refine ⟨77, v18, σ14, (Nat.le_trans (by decide) hD), hC3, ?_⟩
    refine ite_i (fun c5 => ?_) (fun c5 => ?_)
    · replace h := of_ifp h c5
      exact t_X11_act_66 hD  hs4  h
    · replace h := of_ifn h c5
      exact t_X11_act_66 hD  hs4  h
  · replace h := of_ifn h c1
    exact t_X11_act_67 hD  hs  h
set_option maxRecDepth 100000 in
theorem t_X11_act_14 {X : Sx} {l : Launch} {D : Nat} {x1 : Int32} {x2 : Int32} {σ : AH} {v : Int32} {σ' : AH} (hD : 78 ≤ D) (hs : Sh σ) (h : F_X11_act_14 x1 x2 σ = some (v, σ')) : W_X11_act_14 X l D x1 x2 σ (some (.int v)) σ' := by
  unfold F_X11_act_14 at h
  unfold W_X11_act_14
  exact t_X11_act_36 hD  hs  h
set_option maxRecDepth 100000 in
theorem t_X11_act_0 {X : Sx} {l : Launch} {D : Nat} {x1 : Int32} {x2 : Int32} {σ : AH} {v : Int32} {σ' : AH} (hD : 78 ≤ D) (hs : Sh σ) (h : F_X11_act x1 x2 σ = some (v, σ')) : W_X11_act_0 X l D x1 x2 σ (some (.int v)) σ' := by
  unfold F_X11_act at h
  unfold W_X11_act_0
  obtain ⟨v6, σ2, q1, h⟩ := of_bd h
  have hC2 := f_X11_isWeek (σ := σ) hs  q1 (X := X) (l := l)
  have hs3 := hC2.1.2.2.2.1 hs
  refine ⟨1, v6, σ2, (Nat.le_trans (by decide) hD), hC2, ?_⟩
  refine ite_i (fun c4 => ?_) (fun c4 => ?_)
  · replace h := of_ifp h c4
    exact t_X11_act_14 hD  hs3  h
  · replace h := of_ifn h c4
    obtain ⟨v12, σ8, q5, h⟩ := of_bd h
    have hC6 := f_X11_isWeek (σ := σ2) hs3  q5 (X := X) (l := l)
    have hs7 := hC6.1.2.2.2.1 hs3
    refine ⟨1, v12, σ8, (Nat.le_trans (by decide) hD), hC6, ?_⟩
    refine ite_i (fun c8 => ?_) (fun c8 => ?_)
    · replace h := of_ifp h c8
      exact t_X11_act_14 hD  hs7  h
    · replace h := of_ifn h c8
      refine ite_i (fun c9 => ?_) (fun c9 => ?_)
      · replace h := of_ifp h c9
        exact t_X11_act_36 hD  hs7  h
      · replace h := of_ifn h c9
        exact t_X11_act_36 hD  hs7  h
theorem f_X11_act {X : Sx} {l : Launch} {x1 : Int32} {x2 : Int32} {σ : AH} {v : Int32} {σ' : AH} (hs : Sh σ) (h : F_X11_act x1 x2 σ = some (v, σ')) : Call X l m_X11_act 78 [.ref 0, .int x1, .int x2] σ (some (.int v)) σ' :=
  Call.ofE ok_X11_act rfl (Nat.le_of_ble_eq_true rfl) (w_X11_act_0 hs  (t_X11_act_0 (Nat.le_refl _) hs  h))
def F_X11_fault (σ : AH) : Option (Int32 × AH) := (some ((gI σ 0 11), σ))
set_option maxRecDepth 100000 in
theorem t_X11_fault_0 {X : Sx} {l : Launch} {D : Nat} {σ : AH} {v : Int32} {σ' : AH} (hD : 0 ≤ D) (hs : Sh σ) (h : F_X11_fault σ = some (v, σ')) : W_X11_fault_0 X l D σ (some (.int v)) σ' := by
  unfold F_X11_fault at h
  unfold W_X11_fault_0
  exact ret_i h
theorem f_X11_fault {X : Sx} {l : Launch} {σ : AH} {v : Int32} {σ' : AH} (hs : Sh σ) (h : F_X11_fault σ = some (v, σ')) : Call X l m_X11_fault 0 [.ref 0] σ (some (.int v)) σ' :=
  Call.ofE ok_X11_fault rfl (Nat.le_of_ble_eq_true rfl) (w_X11_fault_0 hs  (t_X11_fault_0 (Nat.le_refl _) hs  h))
def F_X11_force (x1 : Int32) (x2 : Int32) (x3 : Int32) (x4 : Int32) (σ : AH) : Option (Int32 × AH) := (bd (F_X11_isIn x1 (0 : Int32) ((gI σ 1 1) - (1 : Int32)) σ) fun v6 σ2 => (if v6 = 0 then (some ((-1 : Int32), σ2)) else (bd (F_X11_isWeek x3 σ2) fun v12 σ8 => (if v12 = 0 then (some ((-1 : Int32), σ8)) else (bd (F_X11_isWeek x4 σ8) fun v18 σ14 => (if v18 = 0 then (some ((-1 : Int32), σ14)) else (if inB x1 24 = true then (on (gR σ14 2 x1.toNatClampNeg) (some ((-1 : Int32), σ14)) fun b19 => if kd σ14 b19 = (0, NO 0) ∧ b19 < nx σ14 then (bd (F_X11_isIn x2 (0 : Int32) ((gI σ14 b19 2) - (1 : Int32)) σ14) fun v30 σ26 => (if v30 = 0 then (some ((-1 : Int32), σ26)) else (bv (F_X3_settle x3 x4 σ26) fun σ34 => (bd (F_X3_isForced x1 x2 σ34) fun v45 σ41 => (if v45 = 0 then (some ((0 : Int32), σ41)) else (some ((1 : Int32), σ41))))))) else none) else none)))))))
set_option maxRecDepth 100000 in
theorem t_X11_force_0 {X : Sx} {l : Launch} {D : Nat} {x1 : Int32} {x2 : Int32} {x3 : Int32} {x4 : Int32} {σ : AH} {v : Int32} {σ' : AH} (hD : 3 ≤ D) (hs : Sh σ) (h : F_X11_force x1 x2 x3 x4 σ = some (v, σ')) : W_X11_force_0 X l D x1 x2 x3 x4 σ (some (.int v)) σ' := by
  unfold F_X11_force at h
  unfold W_X11_force_0
  obtain ⟨v6, σ2, q1, h⟩ := of_bd h
  have hC2 := f_X11_isIn (σ := σ) hs  q1 (X := X) (l := l)
  have hs3 := hC2.1.2.2.2.1 hs
  refine ⟨0, v6, σ2, (Nat.le_trans (by decide) hD), hC2, ?_⟩
  refine ite_i (fun c4 => ?_) (fun c4 => ?_)
  · replace h := of_ifp h c4
    exact ret_i h
  · replace h := of_ifn h c4
    obtain ⟨v12, σ8, q5, h⟩ := of_bd h
    have hC6 := f_X11_isWeek (σ := σ2) hs3  q5 (X := X) (l := l)
    have hs7 := hC6.1.2.2.2.1 hs3
    refine ⟨1, v12, σ8, (Nat.le_trans (by decide) hD), hC6, ?_⟩
    refine ite_i (fun c8 => ?_) (fun c8 => ?_)
    · replace h := of_ifp h c8
      exact ret_i h
    · replace h := of_ifn h c8
      obtain ⟨v18, σ14, q9, h⟩ := of_bd h
      have hC10 := f_X11_isWeek (σ := σ8) hs7  q9 (X := X) (l := l)
      have hs11 := hC10.1.2.2.2.1 hs7
      refine ⟨1, v18, σ14, (Nat.le_trans (by decide) hD), hC10, ?_⟩
      refine ite_i (fun c12 => ?_) (fun c12 => ?_)
      · replace h := of_ifp h c12
        exact ret_i h
      · replace h := of_ifn h c12
        obtain ⟨g13, h⟩ := of_gd h
        refine ⟨(inB_mp g13), ?_⟩
        refine ⟨?_, ?_⟩
        · intro e15
          replace h := of_on0 h e15
          exact ret_i h
        · intro b19 e15
          replace h := of_on1 h e15
          obtain ⟨g14, h⟩ := of_gd h
          refine ⟨g14.1, g14.2, ?_⟩
          obtain ⟨v30, σ26, q16, h⟩ := of_bd h
          have hC17 := f_X11_isIn (σ := σ14) hs11  q16 (X := X) (l := l)
          have hs18 := hC17.1.2.2.2.1 hs11
          refine ⟨0, v30, σ26, (Nat.le_trans (by decide) hD), hC17, ?_⟩
          refine ite_i (fun c19 => ?_) (fun c19 => ?_)
          · replace h := of_ifp h c19
            exact ret_i h
          · replace h := of_ifn h c19
            obtain ⟨σ34, q20, h⟩ := of_bv h
            have hC21 := f_X3_settle (σ := σ26) hs18  q20 (X := X) (l := l)
            have hs22 := hC21.1.2.2.2.1 hs18
            refine ⟨2, σ34, (Nat.le_trans (by decide) hD), hC21, ?_⟩
            obtain ⟨v45, σ41, q23, h⟩ := of_bd h
            have hC24 := f_X3_isForced (σ := σ34) hs22  q23 (X := X) (l := l)
            have hs25 := hC24.1.2.2.2.1 hs22
            refine ⟨0, v45, σ41, (Nat.le_trans (by decide) hD), hC24, ?_⟩
            refine ite_i (fun c26 => ?_) (fun c26 => ?_)
            · replace h := of_ifp h c26
              exact ret_i h
            · replace h := of_ifn h c26
              exact ret_i h
theorem f_X11_force {X : Sx} {l : Launch} {x1 : Int32} {x2 : Int32} {x3 : Int32} {x4 : Int32} {σ : AH} {v : Int32} {σ' : AH} (hs : Sh σ) (h : F_X11_force x1 x2 x3 x4 σ = some (v, σ')) : Call X l m_X11_force 3 [.ref 0, .int x1, .int x2, .int x3, .int x4] σ (some (.int v)) σ' :=
  Call.ofE ok_X11_force rfl (Nat.le_of_ble_eq_true rfl) (w_X11_force_0 hs  (t_X11_force_0 (Nat.le_refl _) hs  h))
def F_X11_counts_86 (y0 : Int32) (σ : AH) : Option (Int32 × AH) := (bd (F_X3_counted y0 σ) fun v40 σ36 => (some (v40, σ36)))
def F_X11_counts (x1 : Int32) (x2 : Int32) (x3 : Int32) (σ : AH) : Option (Int32 × AH) := (bd (F_X11_isIn x1 (0 : Int32) (5 : Int32) σ) fun v6 σ2 => (if v6 = 0 then (some ((-1 : Int32), σ2)) else (bd (F_X11_isWeek x2 σ2) fun v12 σ8 => (if v12 = 0 then (some ((-1 : Int32), σ8)) else (bd (F_X11_isWeek x3 σ8) fun v18 σ14 => (if v18 = 0 then (some ((-1 : Int32), σ14)) else (bv (F_X3_settle x2 x3 σ14) fun σ20 => (bv (F_X3_ask (0 : Int32) x2 σ20) fun σ25 => (if (3 : Int32) ≤ x1 then (if x1 = (3 : Int32) then (F_X11_counts_86 (59 : Int32) σ25) else (if x1 = (4 : Int32) then (F_X11_counts_86 (60 : Int32) σ25) else (F_X11_counts_86 (61 : Int32) σ25))) else (bd (F_X3_counted ((55 : Int32) + x1) σ25) fun v34 σ30 => (some (v34, σ30))))))))))))
set_option maxRecDepth 100000 in
theorem t_X11_counts_86 {X : Sx} {l : Launch} {D : Nat} {y0 : Int32} {σ : AH} {v : Int32} {σ' : AH} (hD : 3 ≤ D) (hs : Sh σ) (h : F_X11_counts_86 y0 σ = some (v, σ')) : W_X11_counts_86 X l D y0 σ (some (.int v)) σ' := by
  unfold F_X11_counts_86 at h
  unfold W_X11_counts_86
  obtain ⟨v40, σ36, q1, h⟩ := of_bd h
  have hC2 := f_X3_counted (σ := σ) hs  q1 (X := X) (l := l)
  have hs3 := hC2.1.2.2.2.1 hs
  refine ⟨2, v40, σ36, (Nat.le_trans (by decide) hD), hC2, ?_⟩
  exact ret_i h
set_option maxRecDepth 100000 in
theorem t_X11_counts_0 {X : Sx} {l : Launch} {D : Nat} {x1 : Int32} {x2 : Int32} {x3 : Int32} {σ : AH} {v : Int32} {σ' : AH} (hD : 3 ≤ D) (hs : Sh σ) (h : F_X11_counts x1 x2 x3 σ = some (v, σ')) : W_X11_counts_0 X l D x1 x2 x3 σ (some (.int v)) σ' := by
  unfold F_X11_counts at h
  unfold W_X11_counts_0
  obtain ⟨v6, σ2, q1, h⟩ := of_bd h
  have hC2 := f_X11_isIn (σ := σ) hs  q1 (X := X) (l := l)
  have hs3 := hC2.1.2.2.2.1 hs
  refine ⟨0, v6, σ2, (Nat.le_trans (by decide) hD), hC2, ?_⟩
  refine ite_i (fun c4 => ?_) (fun c4 => ?_)
  · replace h := of_ifp h c4
    exact ret_i h
  · replace h := of_ifn h c4
    obtain ⟨v12, σ8, q5, h⟩ := of_bd h
    have hC6 := f_X11_isWeek (σ := σ2) hs3  q5 (X := X) (l := l)
    have hs7 := hC6.1.2.2.2.1 hs3
    refine ⟨1, v12, σ8, (Nat.le_trans (by decide) hD), hC6, ?_⟩
    refine ite_i (fun c8 => ?_) (fun c8 => ?_)
    · replace h := of_ifp h c8
      exact ret_i h
    · replace h := of_ifn h c8
      obtain ⟨v18, σ14, q9, h⟩ := of_bd h
      have hC10 := f_X11_isWeek (σ := σ8) hs7  q9 (X := X) (l := l)
      have hs11 := hC10.1.2.2.2.1 hs7
      refine ⟨1, v18, σ14, (Nat.le_trans (by decide) hD), hC10, ?_⟩
      refine ite_i (fun c12 => ?_) (fun c12 => ?_)
      · replace h := of_ifp h c12
        exact ret_i h
      · replace h := of_ifn h c12
        obtain ⟨σ20, q13, h⟩ := of_bv h
        have hC14 := f_X3_settle (σ := σ14) hs11  q13 (X := X) (l := l)
        have hs15 := hC14.1.2.2.2.1 hs11
        refine ⟨2, σ20, (Nat.le_trans (by decide) hD), hC14, ?_⟩
        obtain ⟨σ25, q16, h⟩ := of_bv h
        have hC17 := f_X3_ask (σ := σ20) hs15  q16 (X := X) (l := l)
        have hs18 := hC17.1.2.2.2.1 hs15
        refine ⟨1, σ25, (Nat.le_trans (by decide) hD), hC17, ?_⟩
        refine ite_i (fun c19 => ?_) (fun c19 => ?_)
        · replace h := of_ifp h c19
          refine ite_i (fun c20 => ?_) (fun c20 => ?_)
          · replace h := of_ifp h c20
            exact t_X11_counts_86 hD  hs18  h
          · replace h := of_ifn h c20
            refine ite_i (fun c21 => ?_) (fun c21 => ?_)
            · replace h := of_ifp h c21
              exact t_X11_counts_86 hD  hs18  h
            · replace h := of_ifn h c21
              exact t_X11_counts_86 hD  hs18  h
        · replace h := of_ifn h c19
          obtain ⟨v34, σ30, q22, h⟩ := of_bd h
          have hC23 := f_X3_counted (σ := σ25) hs18  q22 (X := X) (l := l)
          have hs24 := hC23.1.2.2.2.1 hs18
          refine ⟨2, v34, σ30, (Nat.le_trans (by decide) hD), hC23, ?_⟩
          exact ret_i h
theorem f_X11_counts {X : Sx} {l : Launch} {x1 : Int32} {x2 : Int32} {x3 : Int32} {σ : AH} {v : Int32} {σ' : AH} (hs : Sh σ) (h : F_X11_counts x1 x2 x3 σ = some (v, σ')) : Call X l m_X11_counts 3 [.ref 0, .int x1, .int x2, .int x3] σ (some (.int v)) σ' :=
  Call.ofE ok_X11_counts rfl (Nat.le_of_ble_eq_true rfl) (w_X11_counts_0 hs  (t_X11_counts_0 (Nat.le_refl _) hs  h))
def F_X11_need (x1 : Int32) (x2 : Int32) (x3 : Int32) (x4 : Int32) (x5 : Int32) (x6 : Int32) (σ : AH) : Option (Int32 × AH) := (bd (F_X11_isIn x1 (0 : Int32) (2 : Int32) σ) fun v6 σ2 => (if v6 = 0 then (some ((-1 : Int32), σ2)) else (bd (F_X11_isIn x2 (0 : Int32) (2 : Int32) σ2) fun v12 σ8 => (if v12 = 0 then (some ((-1 : Int32), σ8)) else (bd (F_X11_isIn x3 (0 : Int32) (5 : Int32) σ8) fun v18 σ14 => (if v18 = 0 then (some ((-1 : Int32), σ14)) else (bd (F_X11_isIn x4 (1 : Int32) (6 : Int32) σ14) fun v24 σ20 => (if v24 = 0 then (some ((-1 : Int32), σ20)) else (bd (F_X11_isWeek x5 σ20) fun v30 σ26 => (if v30 = 0 then (some ((-1 : Int32), σ26)) else (bd (F_X11_isWeek x6 σ26) fun v36 σ32 => (if v36 = 0 then (some ((-1 : Int32), σ32)) else (bv (F_X3_settle x5 x6 σ32) fun σ38 => (bv (F_X3_ask x4 x5 σ38) fun σ43 => (bd (F_X11_needHead x1 x2 x3 σ43) fun v52 σ48 => (bd (F_X3_counted v52 σ48) fun v58 σ54 => (some ((imax (0 : Int32) v58), σ54))))))))))))))))))
set_option maxRecDepth 100000 in
theorem t_X11_need_0 {X : Sx} {l : Launch} {D : Nat} {x1 : Int32} {x2 : Int32} {x3 : Int32} {x4 : Int32} {x5 : Int32} {x6 : Int32} {σ : AH} {v : Int32} {σ' : AH} (hD : 3 ≤ D) (hs : Sh σ) (h : F_X11_need x1 x2 x3 x4 x5 x6 σ = some (v, σ')) : W_X11_need_0 X l D x1 x2 x3 x4 x5 x6 σ (some (.int v)) σ' := by
  unfold F_X11_need at h
  unfold W_X11_need_0
  obtain ⟨v6, σ2, q1, h⟩ := of_bd h
  have hC2 := f_X11_isIn (σ := σ) hs  q1 (X := X) (l := l)
  have hs3 := hC2.1.2.2.2.1 hs
  refine ⟨0, v6, σ2, (Nat.le_trans (by decide) hD), hC2, ?_⟩
  refine ite_i (fun c4 => ?_) (fun c4 => ?_)
  · replace h := of_ifp h c4
    exact ret_i h
  · replace h := of_ifn h c4
    obtain ⟨v12, σ8, q5, h⟩ := of_bd h
    have hC6 := f_X11_isIn (σ := σ2) hs3  q5 (X := X) (l := l)
    have hs7 := hC6.1.2.2.2.1 hs3
    refine ⟨0, v12, σ8, (Nat.le_trans (by decide) hD), hC6, ?_⟩
    refine ite_i (fun c8 => ?_) (fun c8 => ?_)
    · replace h := of_ifp h c8
      exact ret_i h
    · replace h := of_ifn h c8
      obtain ⟨v18, σ14, q9, h⟩ := of_bd h
      have hC10 := f_X11_isIn (σ := σ8) hs7  q9 (X := X) (l := l)
      have hs11 := hC10.1.2.2.2.1 hs7
      refine ⟨0, v18, σ14, (Nat.le_trans (by decide) hD), hC10, ?_⟩
      refine ite_i (fun c12 => ?_) (fun c12 => ?_)
      · replace h := of_ifp h c12
        exact ret_i h
      · replace h := of_ifn h c12
        obtain ⟨v24, σ20, q13, h⟩ := of_bd h
        have hC14 := f_X11_isIn (σ := σ14) hs11  q13 (X := X) (l := l)
        have hs15 := hC14.1.2.2.2.1 hs11
        refine ⟨0, v24, σ20, (Nat.le_trans (by decide) hD), hC14, ?_⟩
        refine ite_i (fun c16 => ?_) (fun c16 => ?_)
        · replace h := of_ifp h c16
          exact ret_i h
        · replace h := of_ifn h c16
          obtain ⟨v30, σ26, q17, h⟩ := of_bd h
          have hC18 := f_X11_isWeek (σ := σ20) hs15  q17 (X := X) (l := l)
          have hs19 := hC18.1.2.2.2.1 hs15
          refine ⟨1, v30, σ26, (Nat.le_trans (by decide) hD), hC18, ?_⟩
          refine ite_i (fun c20 => ?_) (fun c20 => ?_)
          · replace h := of_ifp h c20
            exact ret_i h
          · replace h := of_ifn h c20
            obtain ⟨v36, σ32, q21, h⟩ := of_bd h
            have hC22 := f_X11_isWeek (σ := σ26) hs19  q21 (X := X) (l := l)
            have hs23 := hC22.1.2.2.2.1 hs19
            refine ⟨1, v36, σ32, (Nat.le_trans (by decide) hD), hC22, ?_⟩
            refine ite_i (fun c24 => ?_) (fun c24 => ?_)
            · replace h := of_ifp h c24
              exact ret_i h
            · replace h := of_ifn h c24
              obtain ⟨σ38, q25, h⟩ := of_bv h
              have hC26 := f_X3_settle (σ := σ32) hs23  q25 (X := X) (l := l)
              have hs27 := hC26.1.2.2.2.1 hs23
              refine ⟨2, σ38, (Nat.le_trans (by decide) hD), hC26, ?_⟩
              obtain ⟨σ43, q28, h⟩ := of_bv h
              have hC29 := f_X3_ask (σ := σ38) hs27  q28 (X := X) (l := l)
              have hs30 := hC29.1.2.2.2.1 hs27
              refine ⟨1, σ43, (Nat.le_trans (by decide) hD), hC29, ?_⟩
              obtain ⟨v52, σ48, q31, h⟩ := of_bd h
              have hC32 := f_X11_needHead (σ := σ43) hs30  q31 (X := X) (l := l)
              have hs33 := hC32.1.2.2.2.1 hs30
              refine ⟨0, v52, σ48, (Nat.le_trans (by decide) hD), hC32, ?_⟩
              obtain ⟨v58, σ54, q34, h⟩ := of_bd h
              have hC35 := f_X3_counted (σ := σ48) hs33  q34 (X := X) (l := l)
              have hs36 := hC35.1.2.2.2.1 hs33
              refine ⟨2, v58, σ54, (Nat.le_trans (by decide) hD), hC35, ?_⟩
              refine ⟨Nat.le_trans (by decide) hD, ?_⟩
              exact ret_i h
theorem f_X11_need {X : Sx} {l : Launch} {x1 : Int32} {x2 : Int32} {x3 : Int32} {x4 : Int32} {x5 : Int32} {x6 : Int32} {σ : AH} {v : Int32} {σ' : AH} (hs : Sh σ) (h : F_X11_need x1 x2 x3 x4 x5 x6 σ = some (v, σ')) : Call X l m_X11_need 3 [.ref 0, .int x1, .int x2, .int x3, .int x4, .int x5, .int x6] σ (some (.int v)) σ' :=
  Call.ofE ok_X11_need rfl (Nat.le_of_ble_eq_true rfl) (w_X11_need_0 hs  (t_X11_need_0 (Nat.le_refl _) hs  h))
def F_X11_deliver_34 (σ : AH) : Option (Int32 × AH) := (bd (F_X11_answer (-1 : Int32) σ) fun v80 σ76 => (some (v80, σ76)))
def F_X11_deliver (x1 : Int32) (x2 : Int32) (x3 : Int32) (x4 : Int32) (σ : AH) : Option (Int32 × AH) := (bd (F_X11_isIn x1 (0 : Int32) (4 : Int32) σ) fun v6 σ2 => (if v6 = 0 then (F_X11_deliver_34 σ2) else (bd (F_X11_isWeek x2 σ2) fun v12 σ8 => (if v12 = 0 then (F_X11_deliver_34 σ8) else (bd (F_X11_isIn x3 (1 : Int32) (100000 : Int32) σ8) fun v18 σ14 => (if v18 = 0 then (F_X11_deliver_34 σ14) else (bd (F_X11_isWeek x4 σ14) fun v24 σ20 => (if v24 = 0 then (F_X11_deliver_34 σ20) else (bd (F_X8_isFull 3 σ20) fun v30 σ26 => (if v30 = 0 then (bd (F_X8_add 3 σ26) fun v36 σ32 => (bv (F_X8_put 3 v36 (0 : Int32) x1 σ32) fun σ38 => (bv (F_X8_put 3 v36 (1 : Int32) x2 σ38) fun σ43 => (bv (F_X8_put 3 v36 (2 : Int32) x3 σ43) fun σ48 => (bv (F_X8_put 3 v36 (3 : Int32) x4 σ48) fun σ53 => (bd (F_X8_rows 3 (sI σ53 0 12 ((gI σ53 0 12) + (1 : Int32)))) fun v62 σ58 => (bd (F_X11_answer v62 σ58) fun v68 σ64 => (some (v68, σ64))))))))) else (bd (F_X11_answer (-5 : Int32) σ26) fun v74 σ70 => (some (v74, σ70)))))))))))))
set_option maxRecDepth 100000 in
theorem t_X11_deliver_34 {X : Sx} {l : Launch} {D : Nat} {σ : AH} {v : Int32} {σ' : AH} (hD : 6 ≤ D) (hs : Sh σ) (h : F_X11_deliver_34 σ = some (v, σ')) : W_X11_deliver_34 X l D σ (some (.int v)) σ' := by
  unfold F_X11_deliver_34 at h
  unfold W_X11_deliver_34
  obtain ⟨v80, σ76, q1, h⟩ := of_bd h
  have hC2 := f_X11_answer (σ := σ) hs  q1 (X := X) (l := l)
  have hs3 := hC2.1.2.2.2.1 hs
  refine ⟨1, v80, σ76, (Nat.le_trans (by decide) hD), hC2, ?_⟩
  exact ret_i h
set_option maxRecDepth 100000 in
theorem t_X11_deliver_0 {X : Sx} {l : Launch} {D : Nat} {x1 : Int32} {x2 : Int32} {x3 : Int32} {x4 : Int32} {σ : AH} {v : Int32} {σ' : AH} (hD : 6 ≤ D) (hs : Sh σ) (h : F_X11_deliver x1 x2 x3 x4 σ = some (v, σ')) : W_X11_deliver_0 X l D x1 x2 x3 x4 σ (some (.int v)) σ' := by
  unfold F_X11_deliver at h
  unfold W_X11_deliver_0
  obtain ⟨v6, σ2, q1, h⟩ := of_bd h
  have hC2 := f_X11_isIn (σ := σ) hs  q1 (X := X) (l := l)
  have hs3 := hC2.1.2.2.2.1 hs
  refine ⟨0, v6, σ2, (Nat.le_trans (by decide) hD), hC2, ?_⟩
  refine ite_i (fun c4 => ?_) (fun c4 => ?_)
  · replace h := of_ifp h c4
    exact t_X11_deliver_34 hD  hs3  h
  · replace h := of_ifn h c4
    obtain ⟨v12, σ8, q5, h⟩ := of_bd h
    have hC6 := f_X11_isWeek (σ := σ2) hs3  q5 (X := X) (l := l)
    have hs7 := hC6.1.2.2.2.1 hs3
    refine ⟨1, v12, σ8, (Nat.le_trans (by decide) hD), hC6, ?_⟩
    refine ite_i (fun c8 => ?_) (fun c8 => ?_)
    · replace h := of_ifp h c8
      exact t_X11_deliver_34 hD  hs7  h
    · replace h := of_ifn h c8
      obtain ⟨v18, σ14, q9, h⟩ := of_bd h
      have hC10 := f_X11_isIn (σ := σ8) hs7  q9 (X := X) (l := l)
      have hs11 := hC10.1.2.2.2.1 hs7
      refine ⟨0, v18, σ14, (Nat.le_trans (by decide) hD), hC10, ?_⟩
      refine ite_i (fun c12 => ?_) (fun c12 => ?_)
      · replace h := of_ifp h c12
        exact t_X11_deliver_34 hD  hs11  h
      · replace h := of_ifn h c12
        obtain ⟨v24, σ20, q13, h⟩ := of_bd h
        have hC14 := f_X11_isWeek (σ := σ14) hs11  q13 (X := X) (l := l)
        have hs15 := hC14.1.2.2.2.1 hs11
        refine ⟨1, v24, σ20, (Nat.le_trans (by decide) hD), hC14, ?_⟩
        refine ite_i (fun c16 => ?_) (fun c16 => ?_)
        · replace h := of_ifp h c16
          exact t_X11_deliver_34 hD  hs15  h
        · replace h := of_ifn h c16
          obtain ⟨v30, σ26, q17, h⟩ := of_bd h
          have hC18 := f_X8_isFull  q17 (X := X) (l := l)
          have hs19 := hC18.1.2.2.2.1 hs15
          refine ⟨0, v30, σ26, (Nat.le_trans (by decide) hD), hC18, ?_⟩
          refine ite_i (fun c20 => ?_) (fun c20 => ?_)
          · replace h := of_ifp h c20
            obtain ⟨v36, σ32, q21, h⟩ := of_bd h
            have hC22 := f_X8_add  q21 (X := X) (l := l)
            have hs23 := hC22.1.2.2.2.1 hs19
            refine ⟨5, v36, σ32, (Nat.le_trans (by decide) hD), hC22, ?_⟩
            obtain ⟨σ38, q24, h⟩ := of_bv h
            have hC25 := f_X8_put  q24 (X := X) (l := l)
            have hs26 := hC25.1.2.2.2.1 hs23
            refine ⟨0, σ38, (Nat.le_trans (by decide) hD), hC25, ?_⟩
            obtain ⟨σ43, q27, h⟩ := of_bv h
            have hC28 := f_X8_put  q27 (X := X) (l := l)
            have hs29 := hC28.1.2.2.2.1 hs26
            refine ⟨0, σ43, (Nat.le_trans (by decide) hD), hC28, ?_⟩
            obtain ⟨σ48, q30, h⟩ := of_bv h
            have hC31 := f_X8_put  q30 (X := X) (l := l)
            have hs32 := hC31.1.2.2.2.1 hs29
            refine ⟨0, σ48, (Nat.le_trans (by decide) hD), hC31, ?_⟩
            obtain ⟨σ53, q33, h⟩ := of_bv h
            have hC34 := f_X8_put  q33 (X := X) (l := l)
            have hs35 := hC34.1.2.2.2.1 hs32
            refine ⟨0, σ53, (Nat.le_trans (by decide) hD), hC34, ?_⟩
            obtain ⟨v62, σ58, q36, h⟩ := of_bd h
            have hC37 := f_X8_rows  q36 (X := X) (l := l)
            have hs38 := hC37.1.2.2.2.1 hs35
            refine ⟨0, v62, σ58, (Nat.le_trans (by decide) hD), hC37, ?_⟩
            obtain ⟨v68, σ64, q39, h⟩ := of_bd h
            have hC40 := f_X11_answer (σ := σ58) hs38  q39 (X := X) (l := l)
            have hs41 := hC40.1.2.2.2.1 hs38
            refine ⟨1, v68, σ64, (Nat.le_trans (by decide) hD), hC40, ?_⟩
            exact ret_i h
          · replace h := of_ifn h c20
            obtain ⟨v74, σ70, q42, h⟩ := of_bd h
            have hC43 := f_X11_answer (σ := σ26) hs19  q42 (X := X) (l := l)
            have hs44 := hC43.1.2.2.2.1 hs19
            refine ⟨1, v74, σ70, (Nat.le_trans (by decide) hD), hC43, ?_⟩
            exact ret_i h
theorem f_X11_deliver {X : Sx} {l : Launch} {x1 : Int32} {x2 : Int32} {x3 : Int32} {x4 : Int32} {σ : AH} {v : Int32} {σ' : AH} (hs : Sh σ) (h : F_X11_deliver x1 x2 x3 x4 σ = some (v, σ')) : Call X l m_X11_deliver 6 [.ref 0, .int x1, .int x2, .int x3, .int x4] σ (some (.int v)) σ' :=
  Call.ofE ok_X11_deliver rfl (Nat.le_of_ble_eq_true rfl) (w_X11_deliver_0 hs  (t_X11_deliver_0 (Nat.le_refl _) hs  h))
def F_X11_works_82 (σ : AH) : Option (Int32 × AH) := (bd (F_X11_answer (-1 : Int32) σ) fun v54 σ50 => (some (v54, σ50)))
def F_X11_works_88 (x1 : Int32) (x2 : Int32) (x3 : Int32) (x4 : Int32) (x5 : Int32) (x6 : Int32) (x7 : Int32) (x8 : Int32) (σ : AH) : Option (Int32 × AH) := (bd (F_X8_isFull 5 σ) fun v60 σ56 => (if v60 = 0 then (bd (F_X8_add 5 σ56) fun v66 σ62 => (bv (F_X8_put 5 v66 (0 : Int32) x1 σ62) fun σ68 => (bv (F_X8_put 5 v66 (1 : Int32) x2 σ68) fun σ73 => (bv (F_X8_put 5 v66 (2 : Int32) x3 σ73) fun σ78 => (bv (F_X8_put 5 v66 (3 : Int32) x4 σ78) fun σ83 => (bv (F_X8_put 5 v66 (4 : Int32) x5 σ83) fun σ88 => (bv (F_X8_put 5 v66 (5 : Int32) x6 σ88) fun σ93 => (bv (F_X8_put 5 v66 (6 : Int32) x7 σ93) fun σ98 => (bv (F_X8_put 5 v66 (7 : Int32) x8 σ98) fun σ103 => (bd (F_X11_answer v66 (sI σ103 0 12 ((gI σ103 0 12) + (1 : Int32)))) fun v112 σ108 => (some (v112, σ108)))))))))))) else (bd (F_X11_answer (-5 : Int32) σ56) fun v118 σ114 => (some (v118, σ114)))))
def F_X11_works (x1 : Int32) (x2 : Int32) (x3 : Int32) (x4 : Int32) (x5 : Int32) (x6 : Int32) (x7 : Int32) (x8 : Int32) (σ : AH) : Option (Int32 × AH) := (bd (F_X11_isIn x1 (0 : Int32) (4 : Int32) σ) fun v6 σ2 => (if v6 = 0 then (F_X11_works_82 σ2) else (bd (F_X11_isIn x2 (0 : Int32) (1000 : Int32) σ2) fun v12 σ8 => (if v12 = 0 then (F_X11_works_82 σ8) else (bd (F_X11_isIn x3 (0 : Int32) (4 : Int32) σ8) fun v18 σ14 => (if v18 = 0 then (F_X11_works_82 σ14) else (bd (F_X11_isIn x4 (0 : Int32) (1000 : Int32) σ14) fun v24 σ20 => (if v24 = 0 then (F_X11_works_82 σ20) else (bd (F_X11_isIn x5 (0 : Int32) (4 : Int32) σ20) fun v30 σ26 => (if v30 = 0 then (F_X11_works_82 σ26) else (bd (F_X11_isIn x6 (1 : Int32) (10000 : Int32) σ26) fun v36 σ32 => (if v36 = 0 then (F_X11_works_82 σ32) else (bd (F_X11_isIn x7 (0 : Int32) (100 : Int32) σ32) fun v42 σ38 => (if v42 = 0 then (F_X11_works_82 σ38) else (bd (F_X11_isWeek x8 σ38) fun v48 σ44 => (if v48 = 0 then (F_X11_works_82 σ44) else (F_X11_works_88 x1 x2 x3 x4 x5 x6 x7 x8 σ44)))))))))))))))))
set_option maxRecDepth 100000 in
theorem t_X11_works_82 {X : Sx} {l : Launch} {D : Nat} {σ : AH} {v : Int32} {σ' : AH} (hD : 6 ≤ D) (hs : Sh σ) (h : F_X11_works_82 σ = some (v, σ')) : W_X11_works_82 X l D σ (some (.int v)) σ' := by
  unfold F_X11_works_82 at h
  unfold W_X11_works_82
  obtain ⟨v54, σ50, q1, h⟩ := of_bd h
  have hC2 := f_X11_answer (σ := σ) hs  q1 (X := X) (l := l)
  have hs3 := hC2.1.2.2.2.1 hs
  refine ⟨1, v54, σ50, (Nat.le_trans (by decide) hD), hC2, ?_⟩
  exact ret_i h
set_option maxRecDepth 100000 in
theorem t_X11_works_88 {X : Sx} {l : Launch} {D : Nat} {x1 : Int32} {x2 : Int32} {x3 : Int32} {x4 : Int32} {x5 : Int32} {x6 : Int32} {x7 : Int32} {x8 : Int32} {σ : AH} {v : Int32} {σ' : AH} (hD : 6 ≤ D) (hs : Sh σ) (h : F_X11_works_88 x1 x2 x3 x4 x5 x6 x7 x8 σ = some (v, σ')) : W_X11_works_88 X l D x1 x2 x3 x4 x5 x6 x7 x8 σ (some (.int v)) σ' := by
  unfold F_X11_works_88 at h
  unfold W_X11_works_88
  obtain ⟨v60, σ56, q1, h⟩ := of_bd h
  have hC2 := f_X8_isFull  q1 (X := X) (l := l)
  have hs3 := hC2.1.2.2.2.1 hs
  refine ⟨0, v60, σ56, (Nat.le_trans (by decide) hD), hC2, ?_⟩
  refine ite_i (fun c4 => ?_) (fun c4 => ?_)
  · replace h := of_ifp h c4
    obtain ⟨v66, σ62, q5, h⟩ := of_bd h
    have hC6 := f_X8_add  q5 (X := X) (l := l)
    have hs7 := hC6.1.2.2.2.1 hs3
    refine ⟨5, v66, σ62, (Nat.le_trans (by decide) hD), hC6, ?_⟩
    obtain ⟨σ68, q8, h⟩ := of_bv h
    have hC9 := f_X8_put  q8 (X := X) (l := l)
    have hs10 := hC9.1.2.2.2.1 hs7
    refine ⟨0, σ68, (Nat.le_trans (by decide) hD), hC9, ?_⟩
    obtain ⟨σ73, q11, h⟩ := of_bv h
    have hC12 := f_X8_put  q11 (X := X) (l := l)
    have hs13 := hC12.1.2.2.2.1 hs10
    refine ⟨0, σ73, (Nat.le_trans (by decide) hD), hC12, ?_⟩
    obtain ⟨σ78, q14, h⟩ := of_bv h
    have hC15 := f_X8_put  q14 (X := X) (l := l)
    have hs16 := hC15.1.2.2.2.1 hs13
    refine ⟨0, σ78, (Nat.le_trans (by decide) hD), hC15, ?_⟩
    obtain ⟨σ83, q17, h⟩ := of_bv h
    have hC18 := f_X8_put  q17 (X := X) (l := l)
    have hs19 := hC18.1.2.2.2.1 hs16
    refine ⟨0, σ83, (Nat.le_trans (by decide) hD), hC18, ?_⟩
    obtain ⟨σ88, q20, h⟩ := of_bv h
    have hC21 := f_X8_put  q20 (X := X) (l := l)
    have hs22 := hC21.1.2.2.2.1 hs19
    refine ⟨0, σ88, (Nat.le_trans (by decide) hD), hC21, ?_⟩
    obtain ⟨σ93, q23, h⟩ := of_bv h
    have hC24 := f_X8_put  q23 (X := X) (l := l)
    have hs25 := hC24.1.2.2.2.1 hs22
    refine ⟨0, σ93, (Nat.le_trans (by decide) hD), hC24, ?_⟩
    obtain ⟨σ98, q26, h⟩ := of_bv h
    have hC27 := f_X8_put  q26 (X := X) (l := l)
    have hs28 := hC27.1.2.2.2.1 hs25
    refine ⟨0, σ98, (Nat.le_trans (by decide) hD), hC27, ?_⟩
    obtain ⟨σ103, q29, h⟩ := of_bv h
    have hC30 := f_X8_put  q29 (X := X) (l := l)
    have hs31 := hC30.1.2.2.2.1 hs28
    refine ⟨0, σ103, (Nat.le_trans (by decide) hD), hC30, ?_⟩
    obtain ⟨v112, σ108, q32, h⟩ := of_bd h
    have hC33 := f_X11_answer (σ := (sI σ103 0 12 ((gI σ103 0 12) + (1 : Int32)))) hs31  q32 (X := X) (l := l)
    have hs34 := hC33.1.2.2.2.1 hs31
    refine ⟨1, v112, σ108, (Nat.le_trans (by decide) hD), hC33, ?_⟩
    exact ret_i h
  · replace h := of_ifn h c4
    obtain ⟨v118, σ114, q35, h⟩ := of_bd h
    have hC36 := f_X11_answer (σ := σ56) hs3  q35 (X := X) (l := l)
    have hs37 := hC36.1.2.2.2.1 hs3
    refine ⟨1, v118, σ114, (Nat.le_trans (by decide) hD), hC36, ?_⟩
    exact ret_i h
set_option maxRecDepth 100000 in
theorem t_X11_works_0 {X : Sx} {l : Launch} {D : Nat} {x1 : Int32} {x2 : Int32} {x3 : Int32} {x4 : Int32} {x5 : Int32} {x6 : Int32} {x7 : Int32} {x8 : Int32} {σ : AH} {v : Int32} {σ' : AH} (hD : 6 ≤ D) (hs : Sh σ) (h : F_X11_works x1 x2 x3 x4 x5 x6 x7 x8 σ = some (v, σ')) : W_X11_works_0 X l D x1 x2 x3 x4 x5 x6 x7 x8 σ (some (.int v)) σ' := by
  unfold F_X11_works at h
  unfold W_X11_works_0
  obtain ⟨v6, σ2, q1, h⟩ := of_bd h
  have hC2 := f_X11_isIn (σ := σ) hs  q1 (X := X) (l := l)
  have hs3 := hC2.1.2.2.2.1 hs
  refine ⟨0, v6, σ2, (Nat.le_trans (by decide) hD), hC2, ?_⟩
  refine ite_i (fun c4 => ?_) (fun c4 => ?_)
  · replace h := of_ifp h c4
    exact t_X11_works_82 hD  hs3  h
  · replace h := of_ifn h c4
    obtain ⟨v12, σ8, q5, h⟩ := of_bd h
    have hC6 := f_X11_isIn (σ := σ2) hs3  q5 (X := X) (l := l)
    have hs7 := hC6.1.2.2.2.1 hs3
    refine ⟨0, v12, σ8, (Nat.le_trans (by decide) hD), hC6, ?_⟩
    refine ite_i (fun c8 => ?_) (fun c8 => ?_)
    · replace h := of_ifp h c8
      exact t_X11_works_82 hD  hs7  h
    · replace h := of_ifn h c8
      obtain ⟨v18, σ14, q9, h⟩ := of_bd h
      have hC10 := f_X11_isIn (σ := σ8) hs7  q9 (X := X) (l := l)
      have hs11 := hC10.1.2.2.2.1 hs7
      refine ⟨0, v18, σ14, (Nat.le_trans (by decide) hD), hC10, ?_⟩
      refine ite_i (fun c12 => ?_) (fun c12 => ?_)
      · replace h := of_ifp h c12
        exact t_X11_works_82 hD  hs11  h
      · replace h := of_ifn h c12
        obtain ⟨v24, σ20, q13, h⟩ := of_bd h
        have hC14 := f_X11_isIn (σ := σ14) hs11  q13 (X := X) (l := l)
        have hs15 := hC14.1.2.2.2.1 hs11
        refine ⟨0, v24, σ20, (Nat.le_trans (by decide) hD), hC14, ?_⟩
        refine ite_i (fun c16 => ?_) (fun c16 => ?_)
        · replace h := of_ifp h c16
          exact t_X11_works_82 hD  hs15  h
        · replace h := of_ifn h c16
          obtain ⟨v30, σ26, q17, h⟩ := of_bd h
          have hC18 := f_X11_isIn (σ := σ20) hs15  q17 (X := X) (l := l)
          have hs19 := hC18.1.2.2.2.1 hs15
          refine ⟨0, v30, σ26, (Nat.le_trans (by decide) hD), hC18, ?_⟩
          refine ite_i (fun c20 => ?_) (fun c20 => ?_)
          · replace h := of_ifp h c20
            exact t_X11_works_82 hD  hs19  h
          · replace h := of_ifn h c20
            obtain ⟨v36, σ32, q21, h⟩ := of_bd h
            have hC22 := f_X11_isIn (σ := σ26) hs19  q21 (X := X) (l := l)
            have hs23 := hC22.1.2.2.2.1 hs19
            refine ⟨0, v36, σ32, (Nat.le_trans (by decide) hD), hC22, ?_⟩
            refine ite_i (fun c24 => ?_) (fun c24 => ?_)
            · replace h := of_ifp h c24
              exact t_X11_works_82 hD  hs23  h
            · replace h := of_ifn h c24
              obtain ⟨v42, σ38, q25, h⟩ := of_bd h
              have hC26 := f_X11_isIn (σ := σ32) hs23  q25 (X := X) (l := l)
              have hs27 := hC26.1.2.2.2.1 hs23
              refine ⟨0, v42, σ38, (Nat.le_trans (by decide) hD), hC26, ?_⟩
              refine ite_i (fun c28 => ?_) (fun c28 => ?_)
              · replace h := of_ifp h c28
                exact t_X11_works_82 hD  hs27  h
              · replace h := of_ifn h c28
                obtain ⟨v48, σ44, q29, h⟩ := of_bd h
                have hC30 := f_X11_isWeek (σ := σ38) hs27  q29 (X := X) (l := l)
                have hs31 := hC30.1.2.2.2.1 hs27
                refine ⟨1, v48, σ44, (Nat.le_trans (by decide) hD), hC30, ?_⟩
                refine ite_i (fun c32 => ?_) (fun c32 => ?_)
                · replace h := of_ifp h c32
                  exact t_X11_works_82 hD  hs31  h
                · replace h := of_ifn h c32
                  exact t_X11_works_88 hD  hs31  h
theorem f_X11_works {X : Sx} {l : Launch} {x1 : Int32} {x2 : Int32} {x3 : Int32} {x4 : Int32} {x5 : Int32} {x6 : Int32} {x7 : Int32} {x8 : Int32} {σ : AH} {v : Int32} {σ' : AH} (hs : Sh σ) (h : F_X11_works x1 x2 x3 x4 x5 x6 x7 x8 σ = some (v, σ')) : Call X l m_X11_works 6 [.ref 0, .int x1, .int x2, .int x3, .int x4, .int x5, .int x6, .int x7, .int x8] σ (some (.int v)) σ' :=
  Call.ofE ok_X11_works rfl (Nat.le_of_ble_eq_true rfl) (w_X11_works_0 hs  (t_X11_works_0 (Nat.le_refl _) hs  h))
def F_X11_gangs_34 (σ : AH) : Option (Int32 × AH) := (bd (F_X11_answer (-1 : Int32) σ) fun v80 σ76 => (some (v80, σ76)))
def F_X11_gangs (x1 : Int32) (x2 : Int32) (x3 : Int32) (x4 : Int32) (σ : AH) : Option (Int32 × AH) := (bd (F_X11_isIn x1 (0 : Int32) (5 : Int32) σ) fun v6 σ2 => (if v6 = 0 then (F_X11_gangs_34 σ2) else (bd (F_X11_isIn x2 (0 : Int32) (50 : Int32) σ2) fun v12 σ8 => (if v12 = 0 then (F_X11_gangs_34 σ8) else (bd (F_X11_isWeek x3 σ8) fun v18 σ14 => (if v18 = 0 then (F_X11_gangs_34 σ14) else (bd (F_X11_isWeek x4 σ14) fun v24 σ20 => (if v24 = 0 then (F_X11_gangs_34 σ20) else (bd (F_X8_isFull 7 σ20) fun v30 σ26 => (if v30 = 0 then (bd (F_X8_add 7 σ26) fun v36 σ32 => (bv (F_X8_put 7 v36 (0 : Int32) x1 σ32) fun σ38 => (bv (F_X8_put 7 v36 (1 : Int32) x2 σ38) fun σ43 => (bv (F_X8_put 7 v36 (2 : Int32) x3 σ43) fun σ48 => (bv (F_X8_put 7 v36 (3 : Int32) x4 σ48) fun σ53 => (bd (F_X8_rows 7 (sI σ53 0 12 ((gI σ53 0 12) + (1 : Int32)))) fun v62 σ58 => (bd (F_X11_answer v62 σ58) fun v68 σ64 => (some (v68, σ64))))))))) else (bd (F_X11_answer (-5 : Int32) σ26) fun v74 σ70 => (some (v74, σ70)))))))))))))
set_option maxRecDepth 100000 in
theorem t_X11_gangs_34 {X : Sx} {l : Launch} {D : Nat} {σ : AH} {v : Int32} {σ' : AH} (hD : 6 ≤ D) (hs : Sh σ) (h : F_X11_gangs_34 σ = some (v, σ')) : W_X11_gangs_34 X l D σ (some (.int v)) σ' := by
  unfold F_X11_gangs_34 at h
  unfold W_X11_gangs_34
  obtain ⟨v80, σ76, q1, h⟩ := of_bd h
  have hC2 := f_X11_answer (σ := σ) hs  q1 (X := X) (l := l)
  have hs3 := hC2.1.2.2.2.1 hs
  refine ⟨1, v80, σ76, (Nat.le_trans (by decide) hD), hC2, ?_⟩
  exact ret_i h
set_option maxRecDepth 100000 in
theorem t_X11_gangs_0 {X : Sx} {l : Launch} {D : Nat} {x1 : Int32} {x2 : Int32} {x3 : Int32} {x4 : Int32} {σ : AH} {v : Int32} {σ' : AH} (hD : 6 ≤ D) (hs : Sh σ) (h : F_X11_gangs x1 x2 x3 x4 σ = some (v, σ')) : W_X11_gangs_0 X l D x1 x2 x3 x4 σ (some (.int v)) σ' := by
  unfold F_X11_gangs at h
  unfold W_X11_gangs_0
  obtain ⟨v6, σ2, q1, h⟩ := of_bd h
  have hC2 := f_X11_isIn (σ := σ) hs  q1 (X := X) (l := l)
  have hs3 := hC2.1.2.2.2.1 hs
  refine ⟨0, v6, σ2, (Nat.le_trans (by decide) hD), hC2, ?_⟩
  refine ite_i (fun c4 => ?_) (fun c4 => ?_)
  · replace h := of_ifp h c4
    exact t_X11_gangs_34 hD  hs3  h
  · replace h := of_ifn h c4
    obtain ⟨v12, σ8, q5, h⟩ := of_bd h
    have hC6 := f_X11_isIn (σ := σ2) hs3  q5 (X := X) (l := l)
    have hs7 := hC6.1.2.2.2.1 hs3
    refine ⟨0, v12, σ8, (Nat.le_trans (by decide) hD), hC6, ?_⟩
    refine ite_i (fun c8 => ?_) (fun c8 => ?_)
    · replace h := of_ifp h c8
      exact t_X11_gangs_34 hD  hs7  h
    · replace h := of_ifn h c8
      obtain ⟨v18, σ14, q9, h⟩ := of_bd h
      have hC10 := f_X11_isWeek (σ := σ8) hs7  q9 (X := X) (l := l)
      have hs11 := hC10.1.2.2.2.1 hs7
      refine ⟨1, v18, σ14, (Nat.le_trans (by decide) hD), hC10, ?_⟩
      refine ite_i (fun c12 => ?_) (fun c12 => ?_)
      · replace h := of_ifp h c12
        exact t_X11_gangs_34 hD  hs11  h
      · replace h := of_ifn h c12
        obtain ⟨v24, σ20, q13, h⟩ := of_bd h
        have hC14 := f_X11_isWeek (σ := σ14) hs11  q13 (X := X) (l := l)
        have hs15 := hC14.1.2.2.2.1 hs11
        refine ⟨1, v24, σ20, (Nat.le_trans (by decide) hD), hC14, ?_⟩
        refine ite_i (fun c16 => ?_) (fun c16 => ?_)
        · replace h := of_ifp h c16
          exact t_X11_gangs_34 hD  hs15  h
        · replace h := of_ifn h c16
          obtain ⟨v30, σ26, q17, h⟩ := of_bd h
          have hC18 := f_X8_isFull  q17 (X := X) (l := l)
          have hs19 := hC18.1.2.2.2.1 hs15
          refine ⟨0, v30, σ26, (Nat.le_trans (by decide) hD), hC18, ?_⟩
          refine ite_i (fun c20 => ?_) (fun c20 => ?_)
          · replace h := of_ifp h c20
            obtain ⟨v36, σ32, q21, h⟩ := of_bd h
            have hC22 := f_X8_add  q21 (X := X) (l := l)
            have hs23 := hC22.1.2.2.2.1 hs19
            refine ⟨5, v36, σ32, (Nat.le_trans (by decide) hD), hC22, ?_⟩
            obtain ⟨σ38, q24, h⟩ := of_bv h
            have hC25 := f_X8_put  q24 (X := X) (l := l)
            have hs26 := hC25.1.2.2.2.1 hs23
            refine ⟨0, σ38, (Nat.le_trans (by decide) hD), hC25, ?_⟩
            obtain ⟨σ43, q27, h⟩ := of_bv h
            have hC28 := f_X8_put  q27 (X := X) (l := l)
            have hs29 := hC28.1.2.2.2.1 hs26
            refine ⟨0, σ43, (Nat.le_trans (by decide) hD), hC28, ?_⟩
            obtain ⟨σ48, q30, h⟩ := of_bv h
            have hC31 := f_X8_put  q30 (X := X) (l := l)
            have hs32 := hC31.1.2.2.2.1 hs29
            refine ⟨0, σ48, (Nat.le_trans (by decide) hD), hC31, ?_⟩
            obtain ⟨σ53, q33, h⟩ := of_bv h
            have hC34 := f_X8_put  q33 (X := X) (l := l)
            have hs35 := hC34.1.2.2.2.1 hs32
            refine ⟨0, σ53, (Nat.le_trans (by decide) hD), hC34, ?_⟩
            obtain ⟨v62, σ58, q36, h⟩ := of_bd h
            have hC37 := f_X8_rows  q36 (X := X) (l := l)
            have hs38 := hC37.1.2.2.2.1 hs35
            refine ⟨0, v62, σ58, (Nat.le_trans (by decide) hD), hC37, ?_⟩
            obtain ⟨v68, σ64, q39, h⟩ := of_bd h
            have hC40 := f_X11_answer (σ := σ58) hs38  q39 (X := X) (l := l)
            have hs41 := hC40.1.2.2.2.1 hs38
            refine ⟨1, v68, σ64, (Nat.le_trans (by decide) hD), hC40, ?_⟩
            exact ret_i h
          · replace h := of_ifn h c20
            obtain ⟨v74, σ70, q42, h⟩ := of_bd h
            have hC43 := f_X11_answer (σ := σ26) hs19  q42 (X := X) (l := l)
            have hs44 := hC43.1.2.2.2.1 hs19
            refine ⟨1, v74, σ70, (Nat.le_trans (by decide) hD), hC43, ?_⟩
            exact ret_i h
theorem f_X11_gangs {X : Sx} {l : Launch} {x1 : Int32} {x2 : Int32} {x3 : Int32} {x4 : Int32} {σ : AH} {v : Int32} {σ' : AH} (hs : Sh σ) (h : F_X11_gangs x1 x2 x3 x4 σ = some (v, σ')) : Call X l m_X11_gangs 6 [.ref 0, .int x1, .int x2, .int x3, .int x4] σ (some (.int v)) σ' :=
  Call.ofE ok_X11_gangs rfl (Nat.le_of_ble_eq_true rfl) (w_X11_gangs_0 hs  (t_X11_gangs_0 (Nat.le_refl _) hs  h))
def F_X11_plot_36 (σ : AH) : Option (Int32 × AH) := (bd (F_X11_answer (-1 : Int32) σ) fun v74 σ70 => (some (v74, σ70)))
def F_X11_plot (x1 : Int32) (x2 : Int32) (x3 : Int32) (x4 : Int32) (σ : AH) : Option (Int32 × AH) := (bd (F_X11_isIn x1 (0 : Int32) (5 : Int32) σ) fun v6 σ2 => (if v6 = 0 then (F_X11_plot_36 σ2) else (bd (F_X11_isIn x2 (0 : Int32) (2 : Int32) σ2) fun v12 σ8 => (if v12 = 0 then (F_X11_plot_36 σ8) else (bd (F_X11_isIn x3 (1 : Int32) (6 : Int32) σ8) fun v18 σ14 => (if v18 = 0 then (F_X11_plot_36 σ14) else (bd (F_X11_isWeek x4 σ14) fun v24 σ20 => (if v24 = 0 then (F_X11_plot_36 σ20) else (bd (F_X8_isFull 9 σ20) fun v30 σ26 => (if v30 = 0 then (bd (F_X8_add 9 σ26) fun v36 σ32 => (bv (F_X8_put 9 v36 (0 : Int32) x1 σ32) fun σ38 => (bv (F_X8_put 9 v36 (1 : Int32) x2 σ38) fun σ43 => (bv (F_X8_put 9 v36 (2 : Int32) x3 σ43) fun σ48 => (bv (F_X8_put 9 v36 (3 : Int32) x4 σ48) fun σ53 => (bd (F_X11_answer v36 (sI σ53 0 12 ((gI σ53 0 12) + (1 : Int32)))) fun v62 σ58 => (some (v62, σ58)))))))) else (bd (F_X11_answer (-5 : Int32) σ26) fun v68 σ64 => (some (v68, σ64)))))))))))))
set_option maxRecDepth 100000 in
theorem t_X11_plot_36 {X : Sx} {l : Launch} {D : Nat} {σ : AH} {v : Int32} {σ' : AH} (hD : 6 ≤ D) (hs : Sh σ) (h : F_X11_plot_36 σ = some (v, σ')) : W_X11_plot_36 X l D σ (some (.int v)) σ' := by
  unfold F_X11_plot_36 at h
  unfold W_X11_plot_36
  obtain ⟨v74, σ70, q1, h⟩ := of_bd h
  have hC2 := f_X11_answer (σ := σ) hs  q1 (X := X) (l := l)
  have hs3 := hC2.1.2.2.2.1 hs
  refine ⟨1, v74, σ70, (Nat.le_trans (by decide) hD), hC2, ?_⟩
  exact ret_i h
set_option maxRecDepth 100000 in
theorem t_X11_plot_0 {X : Sx} {l : Launch} {D : Nat} {x1 : Int32} {x2 : Int32} {x3 : Int32} {x4 : Int32} {σ : AH} {v : Int32} {σ' : AH} (hD : 6 ≤ D) (hs : Sh σ) (h : F_X11_plot x1 x2 x3 x4 σ = some (v, σ')) : W_X11_plot_0 X l D x1 x2 x3 x4 σ (some (.int v)) σ' := by
  unfold F_X11_plot at h
  unfold W_X11_plot_0
  obtain ⟨v6, σ2, q1, h⟩ := of_bd h
  have hC2 := f_X11_isIn (σ := σ) hs  q1 (X := X) (l := l)
  have hs3 := hC2.1.2.2.2.1 hs
  refine ⟨0, v6, σ2, (Nat.le_trans (by decide) hD), hC2, ?_⟩
  refine ite_i (fun c4 => ?_) (fun c4 => ?_)
  · replace h := of_ifp h c4
    exact t_X11_plot_36 hD  hs3  h
  · replace h := of_ifn h c4
    obtain ⟨v12, σ8, q5, h⟩ := of_bd h
    have hC6 := f_X11_isIn (σ := σ2) hs3  q5 (X := X) (l := l)
    have hs7 := hC6.1.2.2.2.1 hs3
    refine ⟨0, v12, σ8, (Nat.le_trans (by decide) hD), hC6, ?_⟩
    refine ite_i (fun c8 => ?_) (fun c8 => ?_)
    · replace h := of_ifp h c8
      exact t_X11_plot_36 hD  hs7  h
    · replace h := of_ifn h c8
      obtain ⟨v18, σ14, q9, h⟩ := of_bd h
      have hC10 := f_X11_isIn (σ := σ8) hs7  q9 (X := X) (l := l)
      have hs11 := hC10.1.2.2.2.1 hs7
      refine ⟨0, v18, σ14, (Nat.le_trans (by decide) hD), hC10, ?_⟩
      refine ite_i (fun c12 => ?_) (fun c12 => ?_)
      · replace h := of_ifp h c12
        exact t_X11_plot_36 hD  hs11  h
      · replace h := of_ifn h c12
        obtain ⟨v24, σ20, q13, h⟩ := of_bd h
        have hC14 := f_X11_isWeek (σ := σ14) hs11  q13 (X := X) (l := l)
        have hs15 := hC14.1.2.2.2.1 hs11
        refine ⟨1, v24, σ20, (Nat.le_trans (by decide) hD), hC14, ?_⟩
        refine ite_i (fun c16 => ?_) (fun c16 => ?_)
        · replace h := of_ifp h c16
          exact t_X11_plot_36 hD  hs15  h
        · replace h := of_ifn h c16
          obtain ⟨v30, σ26, q17, h⟩ := of_bd h
          have hC18 := f_X8_isFull  q17 (X := X) (l := l)
          have hs19 := hC18.1.2.2.2.1 hs15
          refine ⟨0, v30, σ26, (Nat.le_trans (by decide) hD), hC18, ?_⟩
          refine ite_i (fun c20 => ?_) (fun c20 => ?_)
          · replace h := of_ifp h c20
            obtain ⟨v36, σ32, q21, h⟩ := of_bd h
            have hC22 := f_X8_add  q21 (X := X) (l := l)
            have hs23 := hC22.1.2.2.2.1 hs19
            refine ⟨5, v36, σ32, (Nat.le_trans (by decide) hD), hC22, ?_⟩
            obtain ⟨σ38, q24, h⟩ := of_bv h
            have hC25 := f_X8_put  q24 (X := X) (l := l)
            have hs26 := hC25.1.2.2.2.1 hs23
            refine ⟨0, σ38, (Nat.le_trans (by decide) hD), hC25, ?_⟩
            obtain ⟨σ43, q27, h⟩ := of_bv h
            have hC28 := f_X8_put  q27 (X := X) (l := l)
            have hs29 := hC28.1.2.2.2.1 hs26
            refine ⟨0, σ43, (Nat.le_trans (by decide) hD), hC28, ?_⟩
            obtain ⟨σ48, q30, h⟩ := of_bv h
            have hC31 := f_X8_put  q30 (X := X) (l := l)
            have hs32 := hC31.1.2.2.2.1 hs29
            refine ⟨0, σ48, (Nat.le_trans (by decide) hD), hC31, ?_⟩
            obtain ⟨σ53, q33, h⟩ := of_bv h
            have hC34 := f_X8_put  q33 (X := X) (l := l)
            have hs35 := hC34.1.2.2.2.1 hs32
            refine ⟨0, σ53, (Nat.le_trans (by decide) hD), hC34, ?_⟩
            obtain ⟨v62, σ58, q36, h⟩ := of_bd h
            have hC37 := f_X11_answer (σ := (sI σ53 0 12 ((gI σ53 0 12) + (1 : Int32)))) hs35  q36 (X := X) (l := l)
            have hs38 := hC37.1.2.2.2.1 hs35
            refine ⟨1, v62, σ58, (Nat.le_trans (by decide) hD), hC37, ?_⟩
            exact ret_i h
          · replace h := of_ifn h c20
            obtain ⟨v68, σ64, q39, h⟩ := of_bd h
            have hC40 := f_X11_answer (σ := σ26) hs19  q39 (X := X) (l := l)
            have hs41 := hC40.1.2.2.2.1 hs19
            refine ⟨1, v68, σ64, (Nat.le_trans (by decide) hD), hC40, ?_⟩
            exact ret_i h
theorem f_X11_plot {X : Sx} {l : Launch} {x1 : Int32} {x2 : Int32} {x3 : Int32} {x4 : Int32} {σ : AH} {v : Int32} {σ' : AH} (hs : Sh σ) (h : F_X11_plot x1 x2 x3 x4 σ = some (v, σ')) : Call X l m_X11_plot 6 [.ref 0, .int x1, .int x2, .int x3, .int x4] σ (some (.int v)) σ' :=
  Call.ofE ok_X11_plot rfl (Nat.le_of_ble_eq_true rfl) (w_X11_plot_0 hs  (t_X11_plot_0 (Nat.le_refl _) hs  h))
def F_X11_isPlot (x1 : Int32) (σ : AH) : Option (Int32 × AH) := (bd (F_X8_rows 9 σ) fun v6 σ2 => (bd (F_X11_isIn x1 (0 : Int32) (v6 - (1 : Int32)) σ2) fun v12 σ8 => (if v12 = 0 ∨ v12 = 1 then some (v12, σ8) else none)))
set_option maxRecDepth 100000 in
theorem t_X11_isPlot_0 {X : Sx} {l : Launch} {D : Nat} {x1 : Int32} {σ : AH} {v : Int32} {σ' : AH} (hD : 1 ≤ D) (hs : Sh σ) (h : F_X11_isPlot x1 σ = some (v, σ')) : W_X11_isPlot_0 X l D x1 σ (some (.int v)) σ' := by
  unfold F_X11_isPlot at h
  unfold W_X11_isPlot_0
  obtain ⟨v6, σ2, q1, h⟩ := of_bd h
  have hC2 := f_X8_rows  q1 (X := X) (l := l)
  have hs3 := hC2.1.2.2.2.1 hs
  refine ⟨0, v6, σ2, (Nat.le_trans (by decide) hD), hC2, ?_⟩
  obtain ⟨v12, σ8, q4, h⟩ := of_bd h
  have hC5 := f_X11_isIn (σ := σ2) hs3  q4 (X := X) (l := l)
  have hs6 := hC5.1.2.2.2.1 hs3
  refine ⟨0, v12, σ8, (Nat.le_trans (by decide) hD), hC5, ?_⟩
  exact ⟨(of_gd h).1, ret_i (of_gd h).2⟩
theorem f_X11_isPlot {X : Sx} {l : Launch} {x1 : Int32} {σ : AH} {v : Int32} {σ' : AH} (hs : Sh σ) (h : F_X11_isPlot x1 σ = some (v, σ')) : Call X l m_X11_isPlot 1 [.ref 0, .int x1] σ (some (.int v)) σ' :=
  Call.ofE ok_X11_isPlot rfl (Nat.le_of_ble_eq_true rfl) (w_X11_isPlot_0 hs  (t_X11_isPlot_0 (Nat.le_refl _) hs  h))
def F_X11_start_14 (σ : AH) : Option (Int32 × AH) := (bd (F_X11_answer (-1 : Int32) σ) fun v87 σ83 => (some (v87, σ83)))
def F_X11_start (x1 : Int32) (x2 : Int32) (x3 : Int32) (σ : AH) : Option (Int32 × AH) := (bd (F_X11_isWeek x2 σ) fun v6 σ2 => (if v6 = 0 then (F_X11_start_14 σ2) else (bd (F_X11_isWeek x3 σ2) fun v12 σ8 => (if v12 = 0 then (F_X11_start_14 σ8) else (bd (F_X11_isPlot x1 σ8) fun v18 σ14 => (if v18 = 0 then (bd (F_X11_answer (-2 : Int32) σ14) fun v81 σ77 => (some (v81, σ77))) else (bd (F_X1_isWished x1 σ14) fun v24 σ20 => (if v24 = 0 then (bd (F_X8_isFull 11 σ20) fun v30 σ26 => (if v30 = 0 then (bd (F_X8_add 11 σ26) fun v36 σ32 => (bv (F_X8_put 11 v36 (0 : Int32) x1 σ32) fun σ38 => (bv (F_X8_put 11 v36 (1 : Int32) x2 σ38) fun σ43 => (bv (F_X8_put 11 v36 (2 : Int32) x3 σ43) fun σ48 => (bd (F_X8_rows 11 (sI σ48 0 12 ((gI σ48 0 12) + (1 : Int32)))) fun v57 σ53 => (bd (F_X11_answer v57 σ53) fun v63 σ59 => (some (v63, σ59)))))))) else (bd (F_X11_answer (-5 : Int32) σ26) fun v69 σ65 => (some (v69, σ65))))) else (bd (F_X11_answer (-3 : Int32) σ20) fun v75 σ71 => (some (v75, σ71)))))))))))
set_option maxRecDepth 100000 in
theorem t_X11_start_14 {X : Sx} {l : Launch} {D : Nat} {σ : AH} {v : Int32} {σ' : AH} (hD : 6 ≤ D) (hs : Sh σ) (h : F_X11_start_14 σ = some (v, σ')) : W_X11_start_14 X l D σ (some (.int v)) σ' := by
  unfold F_X11_start_14 at h
  unfold W_X11_start_14
  obtain ⟨v87, σ83, q1, h⟩ := of_bd h
  have hC2 := f_X11_answer (σ := σ) hs  q1 (X := X) (l := l)
  have hs3 := hC2.1.2.2.2.1 hs
  refine ⟨1, v87, σ83, (Nat.le_trans (by decide) hD), hC2, ?_⟩
  exact ret_i h
set_option maxRecDepth 100000 in
theorem t_X11_start_0 {X : Sx} {l : Launch} {D : Nat} {x1 : Int32} {x2 : Int32} {x3 : Int32} {σ : AH} {v : Int32} {σ' : AH} (hD : 6 ≤ D) (hs : Sh σ) (h : F_X11_start x1 x2 x3 σ = some (v, σ')) : W_X11_start_0 X l D x1 x2 x3 σ (some (.int v)) σ' := by
  unfold F_X11_start at h
  unfold W_X11_start_0
  obtain ⟨v6, σ2, q1, h⟩ := of_bd h
  have hC2 := f_X11_isWeek (σ := σ) hs  q1 (X := X) (l := l)
  have hs3 := hC2.1.2.2.2.1 hs
  refine ⟨1, v6, σ2, (Nat.le_trans (by decide) hD), hC2, ?_⟩
  refine ite_i (fun c4 => ?_) (fun c4 => ?_)
  · replace h := of_ifp h c4
    exact t_X11_start_14 hD  hs3  h
  · replace h := of_ifn h c4
    obtain ⟨v12, σ8, q5, h⟩ := of_bd h
    have hC6 := f_X11_isWeek (σ := σ2) hs3  q5 (X := X) (l := l)
    have hs7 := hC6.1.2.2.2.1 hs3
    refine ⟨1, v12, σ8, (Nat.le_trans (by decide) hD), hC6, ?_⟩
    refine ite_i (fun c8 => ?_) (fun c8 => ?_)
    · replace h := of_ifp h c8
      exact t_X11_start_14 hD  hs7  h
    · replace h := of_ifn h c8
      obtain ⟨v18, σ14, q9, h⟩ := of_bd h
      have hC10 := f_X11_isPlot (σ := σ8) hs7  q9 (X := X) (l := l)
      have hs11 := hC10.1.2.2.2.1 hs7
      refine ⟨1, v18, σ14, (Nat.le_trans (by decide) hD), hC10, ?_⟩
      refine ite_i (fun c12 => ?_) (fun c12 => ?_)
      · replace h := of_ifp h c12
        obtain ⟨v81, σ77, q13, h⟩ := of_bd h
        have hC14 := f_X11_answer (σ := σ14) hs11  q13 (X := X) (l := l)
        have hs15 := hC14.1.2.2.2.1 hs11
        refine ⟨1, v81, σ77, (Nat.le_trans (by decide) hD), hC14, ?_⟩
        exact ret_i h
      · replace h := of_ifn h c12
        obtain ⟨v24, σ20, q16, h⟩ := of_bd h
        have hC17 := f_X1_isWished (σ := σ14) hs11  q16 (X := X) (l := l)
        have hs18 := hC17.1.2.2.2.1 hs11
        refine ⟨0, v24, σ20, (Nat.le_trans (by decide) hD), hC17, ?_⟩
        refine ite_i (fun c19 => ?_) (fun c19 => ?_)
        · replace h := of_ifp h c19
          obtain ⟨v30, σ26, q20, h⟩ := of_bd h
          have hC21 := f_X8_isFull  q20 (X := X) (l := l)
          have hs22 := hC21.1.2.2.2.1 hs18
          refine ⟨0, v30, σ26, (Nat.le_trans (by decide) hD), hC21, ?_⟩
          refine ite_i (fun c23 => ?_) (fun c23 => ?_)
          · replace h := of_ifp h c23
            obtain ⟨v36, σ32, q24, h⟩ := of_bd h
            have hC25 := f_X8_add  q24 (X := X) (l := l)
            have hs26 := hC25.1.2.2.2.1 hs22
            refine ⟨5, v36, σ32, (Nat.le_trans (by decide) hD), hC25, ?_⟩
            obtain ⟨σ38, q27, h⟩ := of_bv h
            have hC28 := f_X8_put  q27 (X := X) (l := l)
            have hs29 := hC28.1.2.2.2.1 hs26
            refine ⟨0, σ38, (Nat.le_trans (by decide) hD), hC28, ?_⟩
            obtain ⟨σ43, q30, h⟩ := of_bv h
            have hC31 := f_X8_put  q30 (X := X) (l := l)
            have hs32 := hC31.1.2.2.2.1 hs29
            refine ⟨0, σ43, (Nat.le_trans (by decide) hD), hC31, ?_⟩
            obtain ⟨σ48, q33, h⟩ := of_bv h
            have hC34 := f_X8_put  q33 (X := X) (l := l)
            have hs35 := hC34.1.2.2.2.1 hs32
            refine ⟨0, σ48, (Nat.le_trans (by decide) hD), hC34, ?_⟩
            obtain ⟨v57, σ53, q36, h⟩ := of_bd h
            have hC37 := f_X8_rows  q36 (X := X) (l := l)
            have hs38 := hC37.1.2.2.2.1 hs35
            refine ⟨0, v57, σ53, (Nat.le_trans (by decide) hD), hC37, ?_⟩
            obtain ⟨v63, σ59, q39, h⟩ := of_bd h
            have hC40 := f_X11_answer (σ := σ53) hs38  q39 (X := X) (l := l)
            have hs41 := hC40.1.2.2.2.1 hs38
            refine ⟨1, v63, σ59, (Nat.le_trans (by decide) hD), hC40, ?_⟩
            exact ret_i h
          · replace h := of_ifn h c23
            obtain ⟨v69, σ65, q42, h⟩ := of_bd h
            have hC43 := f_X11_answer (σ := σ26) hs22  q42 (X := X) (l := l)
            have hs44 := hC43.1.2.2.2.1 hs22
            refine ⟨1, v69, σ65, (Nat.le_trans (by decide) hD), hC43, ?_⟩
            exact ret_i h
        · replace h := of_ifn h c19
          obtain ⟨v75, σ71, q45, h⟩ := of_bd h
          have hC46 := f_X11_answer (σ := σ20) hs18  q45 (X := X) (l := l)
          have hs47 := hC46.1.2.2.2.1 hs18
          refine ⟨1, v75, σ71, (Nat.le_trans (by decide) hD), hC46, ?_⟩
          exact ret_i h
theorem f_X11_start {X : Sx} {l : Launch} {x1 : Int32} {x2 : Int32} {x3 : Int32} {σ : AH} {v : Int32} {σ' : AH} (hs : Sh σ) (h : F_X11_start x1 x2 x3 σ = some (v, σ')) : Call X l m_X11_start 6 [.ref 0, .int x1, .int x2, .int x3] σ (some (.int v)) σ' :=
  Call.ofE ok_X11_start rfl (Nat.le_of_ble_eq_true rfl) (w_X11_start_0 hs  (t_X11_start_0 (Nat.le_refl _) hs  h))
def F_X11_knowing_60 (k_X11_knowing_4 : Int32 → Int32 → Int32 → AH → Option (Int32 × AH)) (x1 : Int32) (x2 : Int32) (x3 : Int32) (σ : AH) : Option (Int32 × AH) := (k_X11_knowing_4 x1 x2 (x3 + 1) σ)
def B_X11_knowing_4 (k_X11_knowing_4 : Int32 → Int32 → Int32 → AH → Option (Int32 × AH)) (x1 : Int32) (x2 : Int32) (x3 : Int32) (σ : AH) : Option (Int32 × AH) := (if (gI σ 1 1) ≤ x3 then (bd (F_X8_greatest 3 (3 : Int32) x1 σ) fun v6 σ2 => (bd (F_X8_greatest 7 (3 : Int32) x1 σ2) fun v13 σ9 => (bd (F_X8_greatest 11 (2 : Int32) x1 σ9) fun v20 σ16 => (some ((imax (imax (imax x2 v6) v13) v20), σ16))))) else (if inB x3 24 = true then (on (gR σ 2 x3.toNatClampNeg) (F_X11_knowing_60 k_X11_knowing_4 x1 x2 x3 σ) fun b22 => if kd σ b22 = (0, NO 0) ∧ b22 < nx σ then (if inB x3 24 = true then (on (gR σ 2 x3.toNatClampNeg) none fun b28 => if kd σ b28 = (0, NO 0) ∧ b28 < nx σ then (if x1 < (gI σ b28 1) then (F_X11_knowing_60 k_X11_knowing_4 x1 x2 x3 σ) else (if inB x3 24 = true then (on (gR σ 2 x3.toNatClampNeg) none fun b34 => if kd σ b34 = (0, NO 0) ∧ b34 < nx σ then (F_X11_knowing_60 k_X11_knowing_4 x1 (imax x2 (gI σ b34 1)) x3 σ) else none) else none)) else none) else none) else none) else none))
def F_X11_knowing_4 : Nat → Int32 → Int32 → Int32 → AH → Option (Int32 × AH) := fun k => match k with | 0 => fun _ _ _ _ => none | k + 1 => B_X11_knowing_4 (F_X11_knowing_4 k)
def F_X11_knowing (x1 : Int32) (σ : AH) : Option (Int32 × AH) := (F_X11_knowing_4 BIG x1 (0 : Int32) (0 : Int32) σ)
set_option maxRecDepth 100000 in
theorem t_X11_knowing_60 {X : Sx} {l : Launch} {D : Nat} {k_X11_knowing_4 : Int32 → Int32 → Int32 → AH → Option (Int32 × AH)} {x1 : Int32} {x2 : Int32} {x3 : Int32} {σ : AH} {v : Int32} {σ' : AH} (hD : 2 ≤ D) (hk_X11_knowing_4 : ∀ (x1 : Int32) (x2 : Int32) (x3 : Int32) (σ : AH) (v : Int32) (σ' : AH), Sh σ → k_X11_knowing_4 x1 x2 x3 σ = some (v, σ') → E X l m_X11_knowing D 4 [(0, .ref 0), (1, .int x1), (2, .int x2), (3, .int x3)] [] σ (some (.int v)) σ') (hs : Sh σ) (h : F_X11_knowing_60 k_X11_knowing_4 x1 x2 x3 σ = some (v, σ')) : W_X11_knowing_60 X l D x1 x2 x3 σ (some (.int v)) σ' := by
  unfold F_X11_knowing_60 at h
  unfold W_X11_knowing_60
  exact hk_X11_knowing_4 _ _ _ _ _ _ hs  h
set_option maxRecDepth 100000 in
theorem t_X11_knowing_4 {X : Sx} {l : Launch} {D : Nat} {k_X11_knowing_4 : Int32 → Int32 → Int32 → AH → Option (Int32 × AH)} {x1 : Int32} {x2 : Int32} {x3 : Int32} {σ : AH} {v : Int32} {σ' : AH} (hD : 2 ≤ D) (hk_X11_knowing_4 : ∀ (x1 : Int32) (x2 : Int32) (x3 : Int32) (σ : AH) (v : Int32) (σ' : AH), Sh σ → k_X11_knowing_4 x1 x2 x3 σ = some (v, σ') → E X l m_X11_knowing D 4 [(0, .ref 0), (1, .int x1), (2, .int x2), (3, .int x3)] [] σ (some (.int v)) σ') (hs : Sh σ) (h : B_X11_knowing_4 k_X11_knowing_4 x1 x2 x3 σ = some (v, σ')) : W_X11_knowing_4 X l D x1 x2 x3 σ (some (.int v)) σ' := by
  unfold B_X11_knowing_4 at h
  unfold W_X11_knowing_4
  refine ite_i (fun c1 => ?_) (fun c1 => ?_)
  · replace h := of_ifp h c1
    obtain ⟨v6, σ2, q2, h⟩ := of_bd h
    have hC3 := f_X8_greatest  q2 (X := X) (l := l)
    have hs4 := hC3.1.2.2.2.1 hs
    refine ⟨1, v6, σ2, (Nat.le_trans (by decide) hD), hC3, ?_⟩
    refine ⟨Nat.le_trans (by decide) hD, ?_⟩
    obtain ⟨v13, σ9, q5, h⟩ := of_bd h
    have hC6 := f_X8_greatest  q5 (X := X) (l := l)
    have hs7 := hC6.1.2.2.2.1 hs4
    refine ⟨1, v13, σ9, (Nat.le_trans (by decide) hD), hC6, ?_⟩
    refine ⟨Nat.le_trans (by decide) hD, ?_⟩
    obtain ⟨v20, σ16, q8, h⟩ := of_bd h
    have hC9 := f_X8_greatest  q8 (X := X) (l := l)
    have hs10 := hC9.1.2.2.2.1 hs7
    refine ⟨1, v20, σ16, (Nat.le_trans (by decide) hD), hC9, ?_⟩
    refine ⟨Nat.le_trans (by decide) hD, ?_⟩
    exact ret_i h
  · replace h := of_ifn h c1
    obtain ⟨g11, h⟩ := of_gd h
    refine ⟨(inB_mp g11), ?_⟩
    refine ⟨?_, ?_⟩
    · intro e13
      replace h := of_on0 h e13
      exact t_X11_knowing_60 hD hk_X11_knowing_4 hs  h
    · intro b22 e13
      replace h := of_on1 h e13
      obtain ⟨g12, h⟩ := of_gd h
      refine ⟨g12.1, g12.2, ?_⟩
      obtain ⟨g14, h⟩ := of_gd h
      refine ⟨(inB_mp g14), ?_⟩
      refine ⟨?_, ?_⟩
      · intro e16
        replace h := of_on0 h e16
        cases h
      · intro b28 e16
        replace h := of_on1 h e16
        obtain ⟨g15, h⟩ := of_gd h
        refine ⟨g15.1, g15.2, ?_⟩
        refine ite_i (fun c17 => ?_) (fun c17 => ?_)
        · replace h := of_ifp h c17
          exact t_X11_knowing_60 hD hk_X11_knowing_4 hs  h
        · replace h := of_ifn h c17
          obtain ⟨g18, h⟩ := of_gd h
          refine ⟨(inB_mp g18), ?_⟩
          refine ⟨?_, ?_⟩
          · intro e20
            replace h := of_on0 h e20
            cases h
          · intro b34 e20
            replace h := of_on1 h e20
            obtain ⟨g19, h⟩ := of_gd h
            refine ⟨g19.1, g19.2, ?_⟩
            refine ⟨Nat.le_trans (by decide) hD, ?_⟩
            exact t_X11_knowing_60 hD hk_X11_knowing_4 hs  h
theorem e_X11_knowing_4 {X : Sx} {l : Launch} {D : Nat} (hD : 2 ≤ D) : ∀ (k : Nat) (x1 : Int32) (x2 : Int32) (x3 : Int32) (σ : AH) (v : Int32) (σ' : AH), Sh σ → F_X11_knowing_4 k x1 x2 x3 σ = some (v, σ') → E X l m_X11_knowing D 4 [(0, .ref 0), (1, .int x1), (2, .int x2), (3, .int x3)] [] σ (some (.int v)) σ' := by
  intro k
  induction k with
  | zero => intro x1 x2 x3 σ v σ' hs h; cases h
  | succ k ih =>
    intro x1 x2 x3 σ v σ' hs h
    exact w_X11_knowing_4 hs  (t_X11_knowing_4 hD ih hs  h)
set_option maxRecDepth 100000 in
theorem t_X11_knowing_0 {X : Sx} {l : Launch} {D : Nat} {x1 : Int32} {σ : AH} {v : Int32} {σ' : AH} (hD : 2 ≤ D) (hs : Sh σ) (h : F_X11_knowing x1 σ = some (v, σ')) : W_X11_knowing_0 X l D x1 σ (some (.int v)) σ' := by
  unfold F_X11_knowing at h
  unfold W_X11_knowing_0
  exact e_X11_knowing_4 hD  _ _ _ _ _ _ _ hs  h
theorem f_X11_knowing {X : Sx} {l : Launch} {x1 : Int32} {σ : AH} {v : Int32} {σ' : AH} (hs : Sh σ) (h : F_X11_knowing x1 σ = some (v, σ')) : Call X l m_X11_knowing 2 [.ref 0, .int x1] σ (some (.int v)) σ' :=
  Call.ofE ok_X11_knowing rfl (Nat.le_of_ble_eq_true rfl) (w_X11_knowing_0 hs  (t_X11_knowing_0 (Nat.le_refl _) hs  h))
def B_X11_runFor_64b (k_X11_runFor_64b : Int32 → AH → Option (Nat × AH)) (x5 : Int32) (σ : AH) : Option (Nat × AH) := (if (260 : Int32) ≤ x5 then (some (44, σ)) else (bv (F_X10_passWeek 45 x5 σ) fun σ50 => (bv (F_X6_keepStock 44 x5 σ50) fun σ55 => (k_X11_runFor_64b (x5 + 1) σ55))))
def F_X11_runFor_64b : Nat → Int32 → AH → Option (Nat × AH) := fun k => match k with | 0 => fun _ _ => none | k + 1 => B_X11_runFor_64b (F_X11_runFor_64b k)
def F_X11_runFor_21b (x2 : Int32) (x3 : Int32) (σ : AH) : Option (Nat × AH) := (bd (F_X6_isOf 44 x3 x2 (gI σ 0 12) σ) fun v28 σ24 => (if v28 = 0 then (bv (F_X10_prepare x3 x2 (gI σ24 0 12) σ24) fun σ30 => (bv (F_X6_open 44 x3 x2 (gI σ30 0 12) σ30) fun σ35 => (F_X11_runFor_64b BIG (0 : Int32) σ35))) else (some (44, σ24))))
def B_X11_runFor_64 (k_X11_runFor_64 : Int32 → AH → Option (Nat × AH)) (x5 : Int32) (σ : AH) : Option (Nat × AH) := (if (260 : Int32) ≤ x5 then (some (56, σ)) else (bv (F_X10_passWeek 57 x5 σ) fun σ40 => (bv (F_X6_keepStock 56 x5 σ40) fun σ45 => (k_X11_runFor_64 (x5 + 1) σ45))))
def F_X11_runFor_64 : Nat → Int32 → AH → Option (Nat × AH) := fun k => match k with | 0 => fun _ _ => none | k + 1 => B_X11_runFor_64 (F_X11_runFor_64 k)
def F_X11_runFor_21 (x2 : Int32) (x3 : Int32) (σ : AH) : Option (Nat × AH) := (bd (F_X6_isOf 56 x3 x2 (gI σ 0 12) σ) fun v12 σ8 => (if v12 = 0 then (bv (F_X10_prepare x3 x2 (gI σ8 0 12) σ8) fun σ14 => (bv (F_X6_open 56 x3 x2 (gI σ14 0 12) σ14) fun σ19 => (F_X11_runFor_64 BIG (0 : Int32) σ19))) else (some (56, σ8))))
def F_X11_runFor (x1 : Int32) (x2 : Int32) (σ : AH) : Option (Nat × AH) := (bd (F_X11_knowing x1 σ) fun v6 σ2 => (if x2 = 0 then (F_X11_runFor_21b x2 v6 σ2) else (F_X11_runFor_21 x2 v6 σ2)))
set_option maxRecDepth 100000 in
theorem t_X11_runFor_64b {X : Sx} {l : Launch} {D : Nat} {k_X11_runFor_64b : Int32 → AH → Option (Nat × AH)} {x5 : Int32} {σ : AH} {v : Nat} {σ' : AH} (hD : 6 ≤ D) (hk_X11_runFor_64b : ∀ (x5 : Int32) (σ : AH) (v : Nat) (σ' : AH), Sh σ → k_X11_runFor_64b x5 σ = some (v, σ') → E X l m_X11_runFor D 64 [(0, .ref 0), (4, .ref 44), (5, .int x5)] [] σ (some (.ref v)) σ') (hs : Sh σ) (h : B_X11_runFor_64b k_X11_runFor_64b x5 σ = some (v, σ')) : W_X11_runFor_64b X l D x5 σ (some (.ref v)) σ' := by
  unfold B_X11_runFor_64b at h
  unfold W_X11_runFor_64b
  refine ite_i (fun c1 => ?_) (fun c1 => ?_)
  · replace h := of_ifp h c1
    exact ret_r h
  · replace h := of_ifn h c1
    obtain ⟨σ50, q2, h⟩ := of_bv h
    have hC3 := f_X10_passWeek (σ := σ) hs (by first | assumption | exact st_stock (by assumption) | exact rn_site (by assumption) | decide) q2 (X := X) (l := l)
    have hs4 := hC3.1.2.2.2.1 hs
    refine ⟨5, σ50, (Nat.le_trans (by decide) hD), hC3, ?_⟩
    obtain ⟨σ55, q5, h⟩ := of_bv h
    have hC6 := f_X6_keepStock (σ := σ50) hs4 (by first | assumption | exact st_stock (by assumption) | exact rn_site (by assumption) | decide) q5 (X := X) (l := l)
    have hs7 := hC6.1.2.2.2.1 hs4
    refine ⟨1, σ55, (Nat.le_trans (by decide) hD), hC6, ?_⟩
    exact hk_X11_runFor_64b _ _ _ _ hs7  h
theorem e_X11_runFor_64b {X : Sx} {l : Launch} {D : Nat} (hD : 6 ≤ D) : ∀ (k : Nat) (x5 : Int32) (σ : AH) (v : Nat) (σ' : AH), Sh σ → F_X11_runFor_64b k x5 σ = some (v, σ') → E X l m_X11_runFor D 64 [(0, .ref 0), (4, .ref 44), (5, .int x5)] [] σ (some (.ref v)) σ' := by
  intro k
  induction k with
  | zero => intro x5 σ v σ' hs h; cases h
  | succ k ih =>
    intro x5 σ v σ' hs h
    exact w_X11_runFor_64b hs  (t_X11_runFor_64b hD ih hs  h)
set_option maxRecDepth 100000 in
theorem t_X11_runFor_21b {X : Sx} {l : Launch} {D : Nat} {x2 : Int32} {x3 : Int32} {σ : AH} {v : Nat} {σ' : AH} (hD : 6 ≤ D) (hs : Sh σ) (h : F_X11_runFor_21b x2 x3 σ = some (v, σ')) : W_X11_runFor_21b X l D x2 x3 σ (some (.ref v)) σ' := by
  unfold F_X11_runFor_21b at h
  unfold W_X11_runFor_21b
  obtain ⟨v28, σ24, q1, h⟩ := of_bd h
  have hC2 := f_X6_isOf (σ := σ) hs (by first | assumption | exact st_stock (by assumption) | exact rn_site (by assumption) | decide) q1 (X := X) (l := l)
  have hs3 := hC2.1.2.2.2.1 hs
  refine ⟨0, v28, σ24, (Nat.le_trans (by decide) hD), hC2, ?_⟩
  refine ite_i (fun c4 => ?_) (fun c4 => ?_)
  · replace h := of_ifp h c4
    obtain ⟨σ30, q5, h⟩ := of_bv h
    have hC6 := f_X10_prepare (σ := σ24) hs3  q5 (X := X) (l := l)
    have hs7 := hC6.1.2.2.2.1 hs3
    refine ⟨2, σ30, (Nat.le_trans (by decide) hD), hC6, ?_⟩
    obtain ⟨σ35, q8, h⟩ := of_bv h
    have hC9 := f_X6_open (σ := σ30) hs7 (by first | assumption | exact st_stock (by assumption) | exact rn_site (by assumption) | decide) q8 (X := X) (l := l)
    have hs10 := hC9.1.2.2.2.1 hs7
    refine ⟨2, σ35, (Nat.le_trans (by decide) hD), hC9, ?_⟩
    exact e_X11_runFor_64b hD  _ _ _ _ _ hs10  h
  · replace h := of_ifn h c4
    exact ret_r h
set_option maxRecDepth 100000 in
theorem t_X11_runFor_64 {X : Sx} {l : Launch} {D : Nat} {k_X11_runFor_64 : Int32 → AH → Option (Nat × AH)} {x5 : Int32} {σ : AH} {v : Nat} {σ' : AH} (hD : 6 ≤ D) (hk_X11_runFor_64 : ∀ (x5 : Int32) (σ : AH) (v : Nat) (σ' : AH), Sh σ → k_X11_runFor_64 x5 σ = some (v, σ') → E X l m_X11_runFor D 64 [(0, .ref 0), (4, .ref 56), (5, .int x5)] [] σ (some (.ref v)) σ') (hs : Sh σ) (h : B_X11_runFor_64 k_X11_runFor_64 x5 σ = some (v, σ')) : W_X11_runFor_64 X l D x5 σ (some (.ref v)) σ' := by
  unfold B_X11_runFor_64 at h
  unfold W_X11_runFor_64
  refine ite_i (fun c1 => ?_) (fun c1 => ?_)
  · replace h := of_ifp h c1
    exact ret_r h
  · replace h := of_ifn h c1
    obtain ⟨σ40, q2, h⟩ := of_bv h
    have hC3 := f_X10_passWeek (σ := σ) hs (by first | assumption | exact st_stock (by assumption) | exact rn_site (by assumption) | decide) q2 (X := X) (l := l)
    have hs4 := hC3.1.2.2.2.1 hs
    refine ⟨5, σ40, (Nat.le_trans (by decide) hD), hC3, ?_⟩
    obtain ⟨σ45, q5, h⟩ := of_bv h
    have hC6 := f_X6_keepStock (σ := σ40) hs4 (by first | assumption | exact st_stock (by assumption) | exact rn_site (by assumption) | decide) q5 (X := X) (l := l)
    have hs7 := hC6.1.2.2.2.1 hs4
    refine ⟨1, σ45, (Nat.le_trans (by decide) hD), hC6, ?_⟩
    exact hk_X11_runFor_64 _ _ _ _ hs7  h
theorem e_X11_runFor_64 {X : Sx} {l : Launch} {D : Nat} (hD : 6 ≤ D) : ∀ (k : Nat) (x5 : Int32) (σ : AH) (v : Nat) (σ' : AH), Sh σ → F_X11_runFor_64 k x5 σ = some (v, σ') → E X l m_X11_runFor D 64 [(0, .ref 0), (4, .ref 56), (5, .int x5)] [] σ (some (.ref v)) σ' := by
  intro k
  induction k with
  | zero => intro x5 σ v σ' hs h; cases h
  | succ k ih =>
    intro x5 σ v σ' hs h
    exact w_X11_runFor_64 hs  (t_X11_runFor_64 hD ih hs  h)
set_option maxRecDepth 100000 in
theorem t_X11_runFor_21 {X : Sx} {l : Launch} {D : Nat} {x2 : Int32} {x3 : Int32} {σ : AH} {v : Nat} {σ' : AH} (hD : 6 ≤ D) (hs : Sh σ) (h : F_X11_runFor_21 x2 x3 σ = some (v, σ')) : W_X11_runFor_21 X l D x2 x3 σ (some (.ref v)) σ' := by
  unfold F_X11_runFor_21 at h
  unfold W_X11_runFor_21
  obtain ⟨v12, σ8, q1, h⟩ := of_bd h
  have hC2 := f_X6_isOf (σ := σ) hs (by first | assumption | exact st_stock (by assumption) | exact rn_site (by assumption) | decide) q1 (X := X) (l := l)
  have hs3 := hC2.1.2.2.2.1 hs
  refine ⟨0, v12, σ8, (Nat.le_trans (by decide) hD), hC2, ?_⟩
  refine ite_i (fun c4 => ?_) (fun c4 => ?_)
  · replace h := of_ifp h c4
    obtain ⟨σ14, q5, h⟩ := of_bv h
    have hC6 := f_X10_prepare (σ := σ8) hs3  q5 (X := X) (l := l)
    have hs7 := hC6.1.2.2.2.1 hs3
    refine ⟨2, σ14, (Nat.le_trans (by decide) hD), hC6, ?_⟩
    obtain ⟨σ19, q8, h⟩ := of_bv h
    have hC9 := f_X6_open (σ := σ14) hs7 (by first | assumption | exact st_stock (by assumption) | exact rn_site (by assumption) | decide) q8 (X := X) (l := l)
    have hs10 := hC9.1.2.2.2.1 hs7
    refine ⟨2, σ19, (Nat.le_trans (by decide) hD), hC9, ?_⟩
    exact e_X11_runFor_64 hD  _ _ _ _ _ hs10  h
  · replace h := of_ifn h c4
    exact ret_r h
set_option maxRecDepth 100000 in
theorem t_X11_runFor_0 {X : Sx} {l : Launch} {D : Nat} {x1 : Int32} {x2 : Int32} {σ : AH} {v : Nat} {σ' : AH} (hD : 6 ≤ D) (hs : Sh σ) (h : F_X11_runFor x1 x2 σ = some (v, σ')) : W_X11_runFor_0 X l D x1 x2 σ (some (.ref v)) σ' := by
  unfold F_X11_runFor at h
  unfold W_X11_runFor_0
  obtain ⟨v6, σ2, q1, h⟩ := of_bd h
  have hC2 := f_X11_knowing (σ := σ) hs  q1 (X := X) (l := l)
  have hs3 := hC2.1.2.2.2.1 hs
  refine ⟨2, v6, σ2, (Nat.le_trans (by decide) hD), hC2, ?_⟩
  refine ite_i (fun c4 => ?_) (fun c4 => ?_)
  · replace h := of_ifp h c4
    exact t_X11_runFor_21b hD  hs3  h
  · replace h := of_ifn h c4
    exact t_X11_runFor_21 hD  hs3  h
theorem f_X11_runFor {X : Sx} {l : Launch} {x1 : Int32} {x2 : Int32} {σ : AH} {v : Nat} {σ' : AH} (hs : Sh σ) (h : F_X11_runFor x1 x2 σ = some (v, σ')) : Call X l m_X11_runFor 6 [.ref 0, .int x1, .int x2] σ (some (.ref v)) σ' :=
  Call.ofE ok_X11_runFor rfl (Nat.le_of_ble_eq_true rfl) (w_X11_runFor_0 hs  (t_X11_runFor_0 (Nat.le_refl _) hs  h))
def F_X11_stock (x1 : Int32) (x2 : Int32) (x3 : Int32) (x4 : Int32) (σ : AH) : Option (Int32 × AH) := (bd (F_X11_isIn x1 (0 : Int32) (4 : Int32) σ) fun v6 σ2 => (if v6 = 0 then (some ((-1 : Int32), σ2)) else (bd (F_X11_isWeek x2 σ2) fun v12 σ8 => (if v12 = 0 then (some ((-1 : Int32), σ8)) else (bd (F_X11_isWeek x3 σ8) fun v18 σ14 => (if v18 = 0 then (some ((-1 : Int32), σ14)) else (bd (F_X11_isIn x4 (0 : Int32) (26 : Int32) σ14) fun v24 σ20 => (if v24 = 0 then (some ((-1 : Int32), σ20)) else (bd (F_X11_runFor x3 x4 σ20) fun b30 σ26 => if b30 ∈ runIds then (if inB ((x2 * (5 : Int32)) + x1) 1300 = true then (some ((gI σ26 (b30 + 11) ((x2 * (5 : Int32)) + x1).toNatClampNeg), σ26)) else none) else none)))))))))
set_option maxRecDepth 100000 in
theorem t_X11_stock_0 {X : Sx} {l : Launch} {D : Nat} {x1 : Int32} {x2 : Int32} {x3 : Int32} {x4 : Int32} {σ : AH} {v : Int32} {σ' : AH} (hD : 7 ≤ D) (hs : Sh σ) (h : F_X11_stock x1 x2 x3 x4 σ = some (v, σ')) : W_X11_stock_0 X l D x1 x2 x3 x4 σ (some (.int v)) σ' := by
  unfold F_X11_stock at h
  unfold W_X11_stock_0
  obtain ⟨v6, σ2, q1, h⟩ := of_bd h
  have hC2 := f_X11_isIn (σ := σ) hs  q1 (X := X) (l := l)
  have hs3 := hC2.1.2.2.2.1 hs
  refine ⟨0, v6, σ2, (Nat.le_trans (by decide) hD), hC2, ?_⟩
  refine ite_i (fun c4 => ?_) (fun c4 => ?_)
  · replace h := of_ifp h c4
    exact ret_i h
  · replace h := of_ifn h c4
    obtain ⟨v12, σ8, q5, h⟩ := of_bd h
    have hC6 := f_X11_isWeek (σ := σ2) hs3  q5 (X := X) (l := l)
    have hs7 := hC6.1.2.2.2.1 hs3
    refine ⟨1, v12, σ8, (Nat.le_trans (by decide) hD), hC6, ?_⟩
    refine ite_i (fun c8 => ?_) (fun c8 => ?_)
    · replace h := of_ifp h c8
      exact ret_i h
    · replace h := of_ifn h c8
      obtain ⟨v18, σ14, q9, h⟩ := of_bd h
      have hC10 := f_X11_isWeek (σ := σ8) hs7  q9 (X := X) (l := l)
      have hs11 := hC10.1.2.2.2.1 hs7
      refine ⟨1, v18, σ14, (Nat.le_trans (by decide) hD), hC10, ?_⟩
      refine ite_i (fun c12 => ?_) (fun c12 => ?_)
      · replace h := of_ifp h c12
        exact ret_i h
      · replace h := of_ifn h c12
        obtain ⟨v24, σ20, q13, h⟩ := of_bd h
        have hC14 := f_X11_isIn (σ := σ14) hs11  q13 (X := X) (l := l)
        have hs15 := hC14.1.2.2.2.1 hs11
        refine ⟨0, v24, σ20, (Nat.le_trans (by decide) hD), hC14, ?_⟩
        refine ite_i (fun c16 => ?_) (fun c16 => ?_)
        · replace h := of_ifp h c16
          exact ret_i h
        · replace h := of_ifn h c16
          obtain ⟨b30, σ26, q17, h⟩ := of_bd h
          have hC18 := f_X11_runFor (σ := σ20) hs15  q17 (X := X) (l := l)
          have hs19 := hC18.1.2.2.2.1 hs15
          obtain ⟨g20, h⟩ := of_gd h
          refine ⟨6, b30, σ26, (Nat.le_trans (by decide) hD), hC18, g20, ?_⟩
          obtain ⟨g21, h⟩ := of_gd h
          refine ⟨(inB_mp g21), ?_⟩
          exact ret_i h
theorem f_X11_stock {X : Sx} {l : Launch} {x1 : Int32} {x2 : Int32} {x3 : Int32} {x4 : Int32} {σ : AH} {v : Int32} {σ' : AH} (hs : Sh σ) (h : F_X11_stock x1 x2 x3 x4 σ = some (v, σ')) : Call X l m_X11_stock 7 [.ref 0, .int x1, .int x2, .int x3, .int x4] σ (some (.int v)) σ' :=
  Call.ofE ok_X11_stock rfl (Nat.le_of_ble_eq_true rfl) (w_X11_stock_0 hs  (t_X11_stock_0 (Nat.le_refl _) hs  h))
def F_X11_built (x1 : Int32) (x2 : Int32) (x3 : Int32) (x4 : Int32) (σ : AH) : Option (Int32 × AH) := (bd (F_X11_isPlot x1 σ) fun v6 σ2 => (if v6 = 0 then (some ((-1 : Int32), σ2)) else (bd (F_X11_isWeek x2 σ2) fun v12 σ8 => (if v12 = 0 then (some ((-1 : Int32), σ8)) else (bd (F_X11_isIn x3 (0 : Int32) (26 : Int32) σ8) fun v18 σ14 => (if v18 = 0 then (some ((-1 : Int32), σ14)) else (bd (F_X11_isIn x4 (0 : Int32) (6 : Int32) σ14) fun v24 σ20 => (if v24 = 0 then (some ((-1 : Int32), σ20)) else (bd (F_X11_runFor x2 x3 σ20) fun b30 σ26 => if b30 ∈ runIds then (if x4 = (6 : Int32) then (if inB x1 30 = true then (some ((gI σ26 ((b30 + 1) + 4) x1.toNatClampNeg), σ26)) else none) else (if (3 : Int32) ≤ x4 then (if inB (((x1 * (3 : Int32)) + x4) - (3 : Int32)) 90 = true then (some ((gI σ26 ((b30 + 1) + 8) (((x1 * (3 : Int32)) + x4) - (3 : Int32)).toNatClampNeg), σ26)) else none) else (if inB ((x1 * (3 : Int32)) + x4) 90 = true then (some ((gI σ26 ((b30 + 1) + 9) ((x1 * (3 : Int32)) + x4).toNatClampNeg), σ26)) else none))) else none)))))))))
set_option maxRecDepth 100000 in
theorem t_X11_built_0 {X : Sx} {l : Launch} {D : Nat} {x1 : Int32} {x2 : Int32} {x3 : Int32} {x4 : Int32} {σ : AH} {v : Int32} {σ' : AH} (hD : 7 ≤ D) (hs : Sh σ) (h : F_X11_built x1 x2 x3 x4 σ = some (v, σ')) : W_X11_built_0 X l D x1 x2 x3 x4 σ (some (.int v)) σ' := by
  unfold F_X11_built at h
  unfold W_X11_built_0
  obtain ⟨v6, σ2, q1, h⟩ := of_bd h
  have hC2 := f_X11_isPlot (σ := σ) hs  q1 (X := X) (l := l)
  have hs3 := hC2.1.2.2.2.1 hs
  refine ⟨1, v6, σ2, (Nat.le_trans (by decide) hD), hC2, ?_⟩
  refine ite_i (fun c4 => ?_) (fun c4 => ?_)
  · replace h := of_ifp h c4
    exact ret_i h
  · replace h := of_ifn h c4
    obtain ⟨v12, σ8, q5, h⟩ := of_bd h
    have hC6 := f_X11_isWeek (σ := σ2) hs3  q5 (X := X) (l := l)
    have hs7 := hC6.1.2.2.2.1 hs3
    refine ⟨1, v12, σ8, (Nat.le_trans (by decide) hD), hC6, ?_⟩
    refine ite_i (fun c8 => ?_) (fun c8 => ?_)
    · replace h := of_ifp h c8
      exact ret_i h
    · replace h := of_ifn h c8
      obtain ⟨v18, σ14, q9, h⟩ := of_bd h
      have hC10 := f_X11_isIn (σ := σ8) hs7  q9 (X := X) (l := l)
      have hs11 := hC10.1.2.2.2.1 hs7
      refine ⟨0, v18, σ14, (Nat.le_trans (by decide) hD), hC10, ?_⟩
      refine ite_i (fun c12 => ?_) (fun c12 => ?_)
      · replace h := of_ifp h c12
        exact ret_i h
      · replace h := of_ifn h c12
        obtain ⟨v24, σ20, q13, h⟩ := of_bd h
        have hC14 := f_X11_isIn (σ := σ14) hs11  q13 (X := X) (l := l)
        have hs15 := hC14.1.2.2.2.1 hs11
        refine ⟨0, v24, σ20, (Nat.le_trans (by decide) hD), hC14, ?_⟩
        refine ite_i (fun c16 => ?_) (fun c16 => ?_)
        · replace h := of_ifp h c16
          exact ret_i h
        · replace h := of_ifn h c16
          obtain ⟨b30, σ26, q17, h⟩ := of_bd h
          have hC18 := f_X11_runFor (σ := σ20) hs15  q17 (X := X) (l := l)
          have hs19 := hC18.1.2.2.2.1 hs15
          obtain ⟨g20, h⟩ := of_gd h
          refine ⟨6, b30, σ26, (Nat.le_trans (by decide) hD), hC18, g20, ?_⟩
          refine ite_i (fun c21 => ?_) (fun c21 => ?_)
          · replace h := of_ifp h c21
            obtain ⟨g22, h⟩ := of_gd h
            refine ⟨(inB_mp g22), ?_⟩
            exact ret_i h
          · replace h := of_ifn h c21
            refine ite_i (fun c23 => ?_) (fun c23 => ?_)
            · replace h := of_ifp h c23
              obtain ⟨g24, h⟩ := of_gd h
              refine ⟨(inB_mp g24), ?_⟩
              exact ret_i h
            · replace h := of_ifn h c23
              obtain ⟨g25, h⟩ := of_gd h
              refine ⟨(inB_mp g25), ?_⟩
              exact ret_i h
theorem f_X11_built {X : Sx} {l : Launch} {x1 : Int32} {x2 : Int32} {x3 : Int32} {x4 : Int32} {σ : AH} {v : Int32} {σ' : AH} (hs : Sh σ) (h : F_X11_built x1 x2 x3 x4 σ = some (v, σ')) : Call X l m_X11_built 7 [.ref 0, .int x1, .int x2, .int x3, .int x4] σ (some (.int v)) σ' :=
  Call.ofE ok_X11_built rfl (Nat.le_of_ble_eq_true rfl) (w_X11_built_0 hs  (t_X11_built_0 (Nat.le_refl _) hs  h))
def F_X11_firstStart_61 (k_X11_firstStart_2 : Int32 → Int32 → Int32 → AH → Option (Int32 × AH)) (x1 : Int32) (x2 : Int32) (x3 : Int32) (σ : AH) : Option (Int32 × AH) := (k_X11_firstStart_2 x1 x2 (x3 + 1) σ)
def B_X11_firstStart_2 (k_X11_firstStart_2 : Int32 → Int32 → Int32 → AH → Option (Int32 × AH)) (x1 : Int32) (x2 : Int32) (x3 : Int32) (σ : AH) : Option (Int32 × AH) := (bd (F_X8_rows 11 σ) fun v6 σ2 => (if v6 ≤ x3 then (some ((-1 : Int32), σ2)) else (bd (F_X8_at 11 x3 (0 : Int32) σ2) fun v12 σ8 => (if v12 = x1 then (bd (F_X8_at 11 x3 (2 : Int32) σ8) fun v18 σ14 => (if x2 < v18 then (F_X11_firstStart_61 k_X11_firstStart_2 x1 x2 x3 σ14) else (bd (F_X8_at 11 x3 (1 : Int32) σ14) fun v24 σ20 => (some (v24, σ20))))) else (F_X11_firstStart_61 k_X11_firstStart_2 x1 x2 x3 σ8)))))
def F_X11_firstStart_2 : Nat → Int32 → Int32 → Int32 → AH → Option (Int32 × AH) := fun k => match k with | 0 => fun _ _ _ _ => none | k + 1 => B_X11_firstStart_2 (F_X11_firstStart_2 k)
def F_X11_firstStart (x1 : Int32) (x2 : Int32) (σ : AH) : Option (Int32 × AH) := (F_X11_firstStart_2 BIG x1 x2 (0 : Int32) σ)
set_option maxRecDepth 100000 in
theorem t_X11_firstStart_61 {X : Sx} {l : Launch} {D : Nat} {k_X11_firstStart_2 : Int32 → Int32 → Int32 → AH → Option (Int32 × AH)} {x1 : Int32} {x2 : Int32} {x3 : Int32} {σ : AH} {v : Int32} {σ' : AH} (hD : 1 ≤ D) (hk_X11_firstStart_2 : ∀ (x1 : Int32) (x2 : Int32) (x3 : Int32) (σ : AH) (v : Int32) (σ' : AH), Sh σ → k_X11_firstStart_2 x1 x2 x3 σ = some (v, σ') → E X l m_X11_firstStart D 2 [(0, .ref 0), (1, .int x1), (2, .int x2), (3, .int x3)] [] σ (some (.int v)) σ') (hs : Sh σ) (h : F_X11_firstStart_61 k_X11_firstStart_2 x1 x2 x3 σ = some (v, σ')) : W_X11_firstStart_61 X l D x1 x2 x3 σ (some (.int v)) σ' := by
  unfold F_X11_firstStart_61 at h
  unfold W_X11_firstStart_61
  exact hk_X11_firstStart_2 _ _ _ _ _ _ hs  h
set_option maxRecDepth 100000 in
theorem t_X11_firstStart_2 {X : Sx} {l : Launch} {D : Nat} {k_X11_firstStart_2 : Int32 → Int32 → Int32 → AH → Option (Int32 × AH)} {x1 : Int32} {x2 : Int32} {x3 : Int32} {σ : AH} {v : Int32} {σ' : AH} (hD : 1 ≤ D) (hk_X11_firstStart_2 : ∀ (x1 : Int32) (x2 : Int32) (x3 : Int32) (σ : AH) (v : Int32) (σ' : AH), Sh σ → k_X11_firstStart_2 x1 x2 x3 σ = some (v, σ') → E X l m_X11_firstStart D 2 [(0, .ref 0), (1, .int x1), (2, .int x2), (3, .int x3)] [] σ (some (.int v)) σ') (hs : Sh σ) (h : B_X11_firstStart_2 k_X11_firstStart_2 x1 x2 x3 σ = some (v, σ')) : W_X11_firstStart_2 X l D x1 x2 x3 σ (some (.int v)) σ' := by
  unfold B_X11_firstStart_2 at h
  unfold W_X11_firstStart_2
  obtain ⟨v6, σ2, q1, h⟩ := of_bd h
  have hC2 := f_X8_rows  q1 (X := X) (l := l)
  have hs3 := hC2.1.2.2.2.1 hs
  refine ⟨0, v6, σ2, (Nat.le_trans (by decide) hD), hC2, ?_⟩
  refine ite_i (fun c4 => ?_) (fun c4 => ?_)
  · replace h := of_ifp h c4
    exact ret_i h
  · replace h := of_ifn h c4
    obtain ⟨v12, σ8, q5, h⟩ := of_bd h
    have hC6 := f_X8_at  q5 (X := X) (l := l)
    have hs7 := hC6.1.2.2.2.1 hs3
    refine ⟨0, v12, σ8, (Nat.le_trans (by decide) hD), hC6, ?_⟩
    refine ite_i (fun c8 => ?_) (fun c8 => ?_)
    · replace h := of_ifp h c8
      obtain ⟨v18, σ14, q9, h⟩ := of_bd h
      have hC10 := f_X8_at  q9 (X := X) (l := l)
      have hs11 := hC10.1.2.2.2.1 hs7
      refine ⟨0, v18, σ14, (Nat.le_trans (by decide) hD), hC10, ?_⟩
      refine ite_i (fun c12 => ?_) (fun c12 => ?_)
      · replace h := of_ifp h c12
        exact t_X11_firstStart_61 hD hk_X11_firstStart_2 hs11  h
      · replace h := of_ifn h c12
        obtain ⟨v24, σ20, q13, h⟩ := of_bd h
        have hC14 := f_X8_at  q13 (X := X) (l := l)
        have hs15 := hC14.1.2.2.2.1 hs11
        refine ⟨0, v24, σ20, (Nat.le_trans (by decide) hD), hC14, ?_⟩
        exact ret_i h
    · replace h := of_ifn h c8
      exact t_X11_firstStart_61 hD hk_X11_firstStart_2 hs7  h
theorem e_X11_firstStart_2 {X : Sx} {l : Launch} {D : Nat} (hD : 1 ≤ D) : ∀ (k : Nat) (x1 : Int32) (x2 : Int32) (x3 : Int32) (σ : AH) (v : Int32) (σ' : AH), Sh σ → F_X11_firstStart_2 k x1 x2 x3 σ = some (v, σ') → E X l m_X11_firstStart D 2 [(0, .ref 0), (1, .int x1), (2, .int x2), (3, .int x3)] [] σ (some (.int v)) σ' := by
  intro k
  induction k with
  | zero => intro x1 x2 x3 σ v σ' hs h; cases h
  | succ k ih =>
    intro x1 x2 x3 σ v σ' hs h
    exact w_X11_firstStart_2 hs  (t_X11_firstStart_2 hD ih hs  h)
set_option maxRecDepth 100000 in
theorem t_X11_firstStart_0 {X : Sx} {l : Launch} {D : Nat} {x1 : Int32} {x2 : Int32} {σ : AH} {v : Int32} {σ' : AH} (hD : 1 ≤ D) (hs : Sh σ) (h : F_X11_firstStart x1 x2 σ = some (v, σ')) : W_X11_firstStart_0 X l D x1 x2 σ (some (.int v)) σ' := by
  unfold F_X11_firstStart at h
  unfold W_X11_firstStart_0
  exact e_X11_firstStart_2 hD  _ _ _ _ _ _ _ hs  h
theorem f_X11_firstStart {X : Sx} {l : Launch} {x1 : Int32} {x2 : Int32} {σ : AH} {v : Int32} {σ' : AH} (hs : Sh σ) (h : F_X11_firstStart x1 x2 σ = some (v, σ')) : Call X l m_X11_firstStart 1 [.ref 0, .int x1, .int x2] σ (some (.int v)) σ' :=
  Call.ofE ok_X11_firstStart rfl (Nat.le_of_ble_eq_true rfl) (w_X11_firstStart_0 hs  (t_X11_firstStart_0 (Nat.le_refl _) hs  h))
def F_X11_lacks_99 (x1 : Int32) (x2 : Int32) (x4 : Nat) (σ : AH) : Option (Int32 × AH) := (bd (F_X7_waitsForNeeds (x4 + 1) x1 x2 σ) fun v50 σ46 => (if v50 = 0 then (some ((5 : Int32), σ46)) else (some ((4 : Int32), σ46))))
def F_X11_lacks_97 (σ : AH) : Option (Int32 × AH) := (some ((3 : Int32), σ))
def F_X11_lacks (x1 : Int32) (x2 : Int32) (x3 : Int32) (σ : AH) : Option (Int32 × AH) := (bd (F_X11_isPlot x1 σ) fun v6 σ2 => (if v6 = 0 then (some ((-1 : Int32), σ2)) else (bd (F_X11_isWeek x2 σ2) fun v12 σ8 => (if v12 = 0 then (some ((-1 : Int32), σ8)) else (bd (F_X11_isWeek x3 σ8) fun v18 σ14 => (if v18 = 0 then (some ((-1 : Int32), σ14)) else (bd (F_X11_runFor x3 (0 : Int32) σ14) fun b24 σ20 => if b24 ∈ runIds then (bd (F_X6_isDoneBy b24 x1 x2 σ20) fun v31 σ27 => (if v31 = 0 then (bd (F_X11_firstStart x1 x3 σ27) fun v37 σ33 => (if v37 = (-1 : Int32) then (some ((1 : Int32), σ33)) else (if v37 ≤ x2 then (if inB x1 30 = true then (if (gI σ33 ((b24 + 1) + 4) x1.toNatClampNeg) = 0 then (some ((2 : Int32), σ33)) else (bd (F_X8_at 9 x1 (3 : Int32) σ33) fun v44 σ40 => (if v44 ≤ x2 then (F_X11_lacks_99 x1 x2 b24 σ40) else (F_X11_lacks_97 σ40)))) else none) else (some ((1 : Int32), σ33))))) else (some ((0 : Int32), σ27)))) else none)))))))
set_option maxRecDepth 100000 in
theorem t_X11_lacks_99 {X : Sx} {l : Launch} {D : Nat} {x1 : Int32} {x2 : Int32} {x4 : Nat} {σ : AH} {v : Int32} {σ' : AH} (hD : 7 ≤ D) (hs : Sh σ) (hmx4 : x4 ∈ runIds) (h : F_X11_lacks_99 x1 x2 x4 σ = some (v, σ')) : W_X11_lacks_99 X l D x1 x2 x4 σ (some (.int v)) σ' := by
  unfold F_X11_lacks_99 at h
  unfold W_X11_lacks_99
  obtain ⟨v50, σ46, q1, h⟩ := of_bd h
  have hC2 := f_X7_waitsForNeeds (σ := σ) hs (by first | assumption | exact st_stock (by assumption) | exact rn_site (by assumption) | decide) q1 (X := X) (l := l)
  have hs3 := hC2.1.2.2.2.1 hs
  refine ⟨0, v50, σ46, (Nat.le_trans (by decide) hD), hC2, ?_⟩
  refine ite_i (fun c4 => ?_) (fun c4 => ?_)
  · replace h := of_ifp h c4
    exact ret_i h
  · replace h := of_ifn h c4
    exact ret_i h
set_option maxRecDepth 100000 in
theorem t_X11_lacks_97 {X : Sx} {l : Launch} {D : Nat} {σ : AH} {v : Int32} {σ' : AH} (hD : 7 ≤ D) (hs : Sh σ) (h : F_X11_lacks_97 σ = some (v, σ')) : W_X11_lacks_97 X l D σ (some (.int v)) σ' := by
  unfold F_X11_lacks_97 at h
  unfold W_X11_lacks_97
  exact ret_i h
set_option maxRecDepth 100000 in
theorem t_X11_lacks_0 {X : Sx} {l : Launch} {D : Nat} {x1 : Int32} {x2 : Int32} {x3 : Int32} {σ : AH} {v : Int32} {σ' : AH} (hD : 7 ≤ D) (hs : Sh σ) (h : F_X11_lacks x1 x2 x3 σ = some (v, σ')) : W_X11_lacks_0 X l D x1 x2 x3 σ (some (.int v)) σ' := by
  unfold F_X11_lacks at h
  unfold W_X11_lacks_0
  obtain ⟨v6, σ2, q1, h⟩ := of_bd h
  have hC2 := f_X11_isPlot (σ := σ) hs  q1 (X := X) (l := l)
  have hs3 := hC2.1.2.2.2.1 hs
  refine ⟨1, v6, σ2, (Nat.le_trans (by decide) hD), hC2, ?_⟩
  refine ite_i (fun c4 => ?_) (fun c4 => ?_)
  · replace h := of_ifp h c4
    exact ret_i h
  · replace h := of_ifn h c4
    obtain ⟨v12, σ8, q5, h⟩ := of_bd h
    have hC6 := f_X11_isWeek (σ := σ2) hs3  q5 (X := X) (l := l)
    have hs7 := hC6.1.2.2.2.1 hs3
    refine ⟨1, v12, σ8, (Nat.le_trans (by decide) hD), hC6, ?_⟩
    refine ite_i (fun c8 => ?_) (fun c8 => ?_)
    · replace h := of_ifp h c8
      exact ret_i h
    · replace h := of_ifn h c8
      obtain ⟨v18, σ14, q9, h⟩ := of_bd h
      have hC10 := f_X11_isWeek (σ := σ8) hs7  q9 (X := X) (l := l)
      have hs11 := hC10.1.2.2.2.1 hs7
      refine ⟨1, v18, σ14, (Nat.le_trans (by decide) hD), hC10, ?_⟩
      refine ite_i (fun c12 => ?_) (fun c12 => ?_)
      · replace h := of_ifp h c12
        exact ret_i h
      · replace h := of_ifn h c12
        obtain ⟨b24, σ20, q13, h⟩ := of_bd h
        have hC14 := f_X11_runFor (σ := σ14) hs11  q13 (X := X) (l := l)
        have hs15 := hC14.1.2.2.2.1 hs11
        obtain ⟨g16, h⟩ := of_gd h
        refine ⟨6, b24, σ20, (Nat.le_trans (by decide) hD), hC14, g16, ?_⟩
        obtain ⟨v31, σ27, q17, h⟩ := of_bd h
        have hC18 := f_X6_isDoneBy (σ := σ20) hs15 (by first | assumption | exact st_stock (by assumption) | exact rn_site (by assumption) | decide) q17 (X := X) (l := l)
        have hs19 := hC18.1.2.2.2.1 hs15
        refine ⟨1, v31, σ27, (Nat.le_trans (by decide) hD), hC18, ?_⟩
        refine ite_i (fun c20 => ?_) (fun c20 => ?_)
        · replace h := of_ifp h c20
          obtain ⟨v37, σ33, q21, h⟩ := of_bd h
          have hC22 := f_X11_firstStart (σ := σ27) hs19  q21 (X := X) (l := l)
          have hs23 := hC22.1.2.2.2.1 hs19
          refine ⟨1, v37, σ33, (Nat.le_trans (by decide) hD), hC22, ?_⟩
          refine ite_i (fun c24 => ?_) (fun c24 => ?_)
          · replace h := of_ifp h c24
            exact ret_i h
          · replace h := of_ifn h c24
            refine ite_i (fun c25 => ?_) (fun c25 => ?_)
            · replace h := of_ifp h c25
              obtain ⟨g26, h⟩ := of_gd h
              refine ⟨(inB_mp g26), ?_⟩
              refine ite_i (fun c27 => ?_) (fun c27 => ?_)
              · replace h := of_ifp h c27
                exact ret_i h
              · replace h := of_ifn h c27
                obtain ⟨v44, σ40, q28, h⟩ := of_bd h
                have hC29 := f_X8_at  q28 (X := X) (l := l)
                have hs30 := hC29.1.2.2.2.1 hs23
                refine ⟨0, v44, σ40, (Nat.le_trans (by decide) hD), hC29, ?_⟩
                refine ite_i (fun c31 => ?_) (fun c31 => ?_)
                · replace h := of_ifp h c31
                  exact t_X11_lacks_99 hD  hs30 (by first | assumption | exact st_stock (by assumption) | exact rn_site (by assumption) | decide) h
                · replace h := of_ifn h c31
                  exact t_X11_lacks_97 hD  hs30  h
            · replace h := of_ifn h c25
              exact ret_i h
        · replace h := of_ifn h c20
          exact ret_i h
theorem f_X11_lacks {X : Sx} {l : Launch} {x1 : Int32} {x2 : Int32} {x3 : Int32} {σ : AH} {v : Int32} {σ' : AH} (hs : Sh σ) (h : F_X11_lacks x1 x2 x3 σ = some (v, σ')) : Call X l m_X11_lacks 7 [.ref 0, .int x1, .int x2, .int x3] σ (some (.int v)) σ' :=
  Call.ofE ok_X11_lacks rfl (Nat.le_of_ble_eq_true rfl) (w_X11_lacks_0 hs  (t_X11_lacks_0 (Nat.le_refl _) hs  h))
def F_X11_knock_101 (k_X11_knock_41 : Nat → Nat → Int32 → Int32 → AH → Option (Int32 × AH)) (x3 : Nat) (x4 : Nat) (x5 : Int32) (x6 : Int32) (σ : AH) : Option (Int32 × AH) := (k_X11_knock_41 x3 x4 x5 (x6 + 1) σ)
def F_X11_knock_95 (k_X11_knock_41 : Nat → Nat → Int32 → Int32 → AH → Option (Int32 × AH)) (x3 : Nat) (x4 : Nat) (x6 : Int32) (x7 : Int32) (y0 : Int32) (y1 : Int32) (σ : AH) : Option (Int32 × AH) := (F_X11_knock_101 k_X11_knock_41 x3 x4 (y1 + (y0 - x7)) x6 σ)
def B_X11_knock_41 (k_X11_knock_41 : Nat → Nat → Int32 → Int32 → AH → Option (Int32 × AH)) (x3 : Nat) (x4 : Nat) (x5 : Int32) (x6 : Int32) (σ : AH) : Option (Int32 × AH) := (bd (F_X8_rows 9 σ) fun v32 σ28 => (if v32 ≤ x6 then (some (x5, σ28)) else (bd (F_X6_doneWeek x3 x6 σ28) fun v38 σ34 => (if v38 = (-1 : Int32) then (F_X11_knock_101 k_X11_knock_41 x3 x4 x5 x6 σ34) else (bd (F_X6_doneWeek x4 x6 σ34) fun v44 σ40 => (if v44 = (-1 : Int32) then (F_X11_knock_95 k_X11_knock_41 x3 x4 x6 v38 (260 : Int32) x5 σ40) else (F_X11_knock_95 k_X11_knock_41 x3 x4 x6 v38 v44 x5 σ40)))))))
def F_X11_knock_41 : Nat → Nat → Nat → Int32 → Int32 → AH → Option (Int32 × AH) := fun k => match k with | 0 => fun _ _ _ _ _ => none | k + 1 => B_X11_knock_41 (F_X11_knock_41 k)
def F_X11_knock (x1 : Int32) (x2 : Int32) (σ : AH) : Option (Int32 × AH) := (bd (F_X11_isWeek x1 σ) fun v6 σ2 => (if v6 = 0 then (some ((-2000000000 : Int32), σ2)) else (bd (F_X11_isIn x2 (1 : Int32) (26 : Int32) σ2) fun v12 σ8 => (if v12 = 0 then (some ((-2000000000 : Int32), σ8)) else (bd (F_X11_runFor x1 (0 : Int32) σ8) fun b18 σ14 => if b18 ∈ runIds then (bd (F_X11_runFor x1 x2 σ14) fun b25 σ21 => if b25 ∈ runIds then (F_X11_knock_41 BIG b18 b25 (0 : Int32) (0 : Int32) σ21) else none) else none)))))
set_option maxRecDepth 100000 in
theorem t_X11_knock_101 {X : Sx} {l : Launch} {D : Nat} {k_X11_knock_41 : Nat → Nat → Int32 → Int32 → AH → Option (Int32 × AH)} {x3 : Nat} {x4 : Nat} {x5 : Int32} {x6 : Int32} {σ : AH} {v : Int32} {σ' : AH} (hD : 7 ≤ D) (hk_X11_knock_41 : ∀ (x3 : Nat) (x4 : Nat) (x5 : Int32) (x6 : Int32) (σ : AH) (v : Int32) (σ' : AH), Sh σ → x3 ∈ runIds → x4 ∈ runIds → k_X11_knock_41 x3 x4 x5 x6 σ = some (v, σ') → E X l m_X11_knock D 41 [(0, .ref 0), (3, .ref x3), (4, .ref x4), (5, .int x5), (6, .int x6)] [] σ (some (.int v)) σ') (hs : Sh σ) (hmx3 : x3 ∈ runIds) (hmx4 : x4 ∈ runIds) (h : F_X11_knock_101 k_X11_knock_41 x3 x4 x5 x6 σ = some (v, σ')) : W_X11_knock_101 X l D x3 x4 x5 x6 σ (some (.int v)) σ' := by
  unfold F_X11_knock_101 at h
  unfold W_X11_knock_101
  exact hk_X11_knock_41 _ _ _ _ _ _ _ hs (by first | assumption | exact st_stock (by assumption) | exact rn_site (by assumption) | decide) (by first | assumption | exact st_stock (by assumption) | exact rn_site (by assumption) | decide) h
set_option maxRecDepth 100000 in
theorem t_X11_knock_95 {X : Sx} {l : Launch} {D : Nat} {k_X11_knock_41 : Nat → Nat → Int32 → Int32 → AH → Option (Int32 × AH)} {x3 : Nat} {x4 : Nat} {x6 : Int32} {x7 : Int32} {y0 : Int32} {y1 : Int32} {σ : AH} {v : Int32} {σ' : AH} (hD : 7 ≤ D) (hk_X11_knock_41 : ∀ (x3 : Nat) (x4 : Nat) (x5 : Int32) (x6 : Int32) (σ : AH) (v : Int32) (σ' : AH), Sh σ → x3 ∈ runIds → x4 ∈ runIds → k_X11_knock_41 x3 x4 x5 x6 σ = some (v, σ') → E X l m_X11_knock D 41 [(0, .ref 0), (3, .ref x3), (4, .ref x4), (5, .int x5), (6, .int x6)] [] σ (some (.int v)) σ') (hs : Sh σ) (hmx3 : x3 ∈ runIds) (hmx4 : x4 ∈ runIds) (h : F_X11_knock_95 k_X11_knock_41 x3 x4 x6 x7 y0 y1 σ = some (v, σ')) : W_X11_knock_95 X l D x3 x4 x6 x7 y0 y1 σ (some (.int v)) σ' := by
  unfold F_X11_knock_95 at h
  unfold W_X11_knock_95
  exact t_X11_knock_101 hD hk_X11_knock_41 hs (by first | assumption | exact st_stock (by assumption) | exact rn_site (by assumption) | decide) (by first | assumption | exact st_stock (by assumption) | exact rn_site (by assumption) | decide) h
set_option maxRecDepth 100000 in
theorem t_X11_knock_41 {X : Sx} {l : Launch} {D : Nat} {k_X11_knock_41 : Nat → Nat → Int32 → Int32 → AH → Option (Int32 × AH)} {x3 : Nat} {x4 : Nat} {x5 : Int32} {x6 : Int32} {σ : AH} {v : Int32} {σ' : AH} (hD : 7 ≤ D) (hk_X11_knock_41 : ∀ (x3 : Nat) (x4 : Nat) (x5 : Int32) (x6 : Int32) (σ : AH) (v : Int32) (σ' : AH), Sh σ → x3 ∈ runIds → x4 ∈ runIds → k_X11_knock_41 x3 x4 x5 x6 σ = some (v, σ') → E X l m_X11_knock D 41 [(0, .ref 0), (3, .ref x3), (4, .ref x4), (5, .int x5), (6, .int x6)] [] σ (some (.int v)) σ') (hs : Sh σ) (hmx3 : x3 ∈ runIds) (hmx4 : x4 ∈ runIds) (h : B_X11_knock_41 k_X11_knock_41 x3 x4 x5 x6 σ = some (v, σ')) : W_X11_knock_41 X l D x3 x4 x5 x6 σ (some (.int v)) σ' := by
  unfold B_X11_knock_41 at h
  unfold W_X11_knock_41
  obtain ⟨v32, σ28, q1, h⟩ := of_bd h
  have hC2 := f_X8_rows  q1 (X := X) (l := l)
  have hs3 := hC2.1.2.2.2.1 hs
  refine ⟨0, v32, σ28, (Nat.le_trans (by decide) hD), hC2, ?_⟩
  refine ite_i (fun c4 => ?_) (fun c4 => ?_)
  · replace h := of_ifp h c4
    exact ret_i h
  · replace h := of_ifn h c4
    obtain ⟨v38, σ34, q5, h⟩ := of_bd h
    have hC6 := f_X6_doneWeek (σ := σ28) hs3 (by first | assumption | exact st_stock (by assumption) | exact rn_site (by assumption) | decide) q5 (X := X) (l := l)
    have hs7 := hC6.1.2.2.2.1 hs3
    refine ⟨0, v38, σ34, (Nat.le_trans (by decide) hD), hC6, ?_⟩
    refine ite_i (fun c8 => ?_) (fun c8 => ?_)
    · replace h := of_ifp h c8
      exact t_X11_knock_101 hD hk_X11_knock_41 hs7 (by first | assumption | exact st_stock (by assumption) | exact rn_site (by assumption) | decide) (by first | assumption | exact st_stock (by assumption) | exact rn_site (by assumption) | decide) h
    · replace h := of_ifn h c8
      obtain ⟨v44, σ40, q9, h⟩ := of_bd h
      have hC10 := f_X6_doneWeek (σ := σ34) hs7 (by first | assumption | exact st_stock (by assumption) | exact rn_site (by assumption) | decide) q9 (X := X) (l := l)
      have hs11 := hC10.1.2.2.2.1 hs7
      refine ⟨0, v44, σ40, (Nat.le_trans (by decide) hD), hC10, ?_⟩
      refine ite_i (fun c12 => ?_) (fun c12 => ?_)
      · replace h := of_ifp h c12
        exact t_X11_knock_95 hD hk_X11_knock_41 hs11 (by first | assumption | exact st_stock (by assumption) | exact rn_site (by assumption) | decide) (by first | assumption | exact st_stock (by assumption) | exact rn_site (by assumption) | decide) h
      · replace h := of_ifn h c12
        exact t_X11_knock_95 hD hk_X11_knock_41 hs11 (by first | assumption | exact st_stock (by assumption) | exact rn_site (by assumption) | decide) (by first | assumption | exact st_stock (by assumption) | exact rn_site (by assumption) | decide) h
theorem e_X11_knock_41 {X : Sx} {l : Launch} {D : Nat} (hD : 7 ≤ D) : ∀ (k : Nat) (x3 : Nat) (x4 : Nat) (x5 : Int32) (x6 : Int32) (σ : AH) (v : Int32) (σ' : AH), Sh σ → x3 ∈ runIds → x4 ∈ runIds → F_X11_knock_41 k x3 x4 x5 x6 σ = some (v, σ') → E X l m_X11_knock D 41 [(0, .ref 0), (3, .ref x3), (4, .ref x4), (5, .int x5), (6, .int x6)] [] σ (some (.int v)) σ' := by
  intro k
  induction k with
  | zero => intro x3 x4 x5 x6 σ v σ' hs hmx3 hmx4 h; cases h
  | succ k ih =>
    intro x3 x4 x5 x6 σ v σ' hs hmx3 hmx4 h
    exact w_X11_knock_41 hs hmx3 hmx4 (t_X11_knock_41 hD ih hs hmx3 hmx4 h)
set_option maxRecDepth 100000 in
theorem t_X11_knock_0 {X : Sx} {l : Launch} {D : Nat} {x1 : Int32} {x2 : Int32} {σ : AH} {v : Int32} {σ' : AH} (hD : 7 ≤ D) (hs : Sh σ) (h : F_X11_knock x1 x2 σ = some (v, σ')) : W_X11_knock_0 X l D x1 x2 σ (some (.int v)) σ' := by
  unfold F_X11_knock at h
  unfold W_X11_knock_0
  obtain ⟨v6, σ2, q1, h⟩ := of_bd h
  have hC2 := f_X11_isWeek (σ := σ) hs  q1 (X := X) (l := l)
  have hs3 := hC2.1.2.2.2.1 hs
  refine ⟨1, v6, σ2, (Nat.le_trans (by decide) hD), hC2, ?_⟩
  refine ite_i (fun c4 => ?_) (fun c4 => ?_)
  · replace h := of_ifp h c4
    exact ret_i h
  · replace h := of_ifn h c4
    obtain ⟨v12, σ8, q5, h⟩ := of_bd h
    have hC6 := f_X11_isIn (σ := σ2) hs3  q5 (X := X) (l := l)
    have hs7 := hC6.1.2.2.2.1 hs3
    refine ⟨0, v12, σ8, (Nat.le_trans (by decide) hD), hC6, ?_⟩
    refine ite_i (fun c8 => ?_) (fun c8 => ?_)
    · replace h := of_ifp h c8
      exact ret_i h
    · replace h := of_ifn h c8
      obtain ⟨b18, σ14, q9, h⟩ := of_bd h
      have hC10 := f_X11_runFor (σ := σ8) hs7  q9 (X := X) (l := l)
      have hs11 := hC10.1.2.2.2.1 hs7
      obtain ⟨g12, h⟩ := of_gd h
      refine ⟨6, b18, σ14, (Nat.le_trans (by decide) hD), hC10, g12, ?_⟩
      obtain ⟨b25, σ21, q13, h⟩ := of_bd h
      have hC14 := f_X11_runFor (σ := σ14) hs11  q13 (X := X) (l := l)
      have hs15 := hC14.1.2.2.2.1 hs11
      obtain ⟨g16, h⟩ := of_gd h
      refine ⟨6, b25, σ21, (Nat.le_trans (by decide) hD), hC14, g16, ?_⟩
      exact e_X11_knock_41 hD  _ _ _ _ _ _ _ _ hs15 (by first | assumption | exact st_stock (by assumption) | exact rn_site (by assumption) | decide) (by first | assumption | exact st_stock (by assumption) | exact rn_site (by assumption) | decide) h
theorem f_X11_knock {X : Sx} {l : Launch} {x1 : Int32} {x2 : Int32} {σ : AH} {v : Int32} {σ' : AH} (hs : Sh σ) (h : F_X11_knock x1 x2 σ = some (v, σ')) : Call X l m_X11_knock 7 [.ref 0, .int x1, .int x2] σ (some (.int v)) σ' :=
  Call.ofE ok_X11_knock rfl (Nat.le_of_ble_eq_true rfl) (w_X11_knock_0 hs  (t_X11_knock_0 (Nat.le_refl _) hs  h))
def F_X11_wish (x1 : Int32) (σ : AH) : Option (Int32 × AH) := (bd (F_X11_isPlot x1 σ) fun v6 σ2 => (if v6 = 0 then (bd (F_X11_answer (-2 : Int32) σ2) fun v49 σ45 => (some (v49, σ45))) else (bd (F_X11_firstStart x1 (260 : Int32) σ2) fun v12 σ8 => (if v12 = (-1 : Int32) then (bd (F_X1_isWished x1 σ8) fun v18 σ14 => (if v18 = 0 then (if (gI σ14 68 3) < (6 : Int32) then (if inB (gI σ14 68 3) 6 = true then (bd (F_X11_answer (gI (sI (sI σ14 69 ((gI σ14 68 3).toNatClampNeg) x1) 68 3 ((gI (sI σ14 69 ((gI σ14 68 3).toNatClampNeg) x1) 68 3) + (1 : Int32))) 68 3) (sI (sI σ14 69 ((gI σ14 68 3).toNatClampNeg) x1) 68 3 ((gI (sI σ14 69 ((gI σ14 68 3).toNatClampNeg) x1) 68 3) + (1 : Int32)))) fun v25 σ21 => (some (v25, σ21))) else none) else (bd (F_X11_answer (-5 : Int32) σ14) fun v31 σ27 => (some (v31, σ27)))) else (bd (F_X11_answer (-4 : Int32) σ14) fun v37 σ33 => (some (v37, σ33))))) else (bd (F_X11_answer (-3 : Int32) σ8) fun v43 σ39 => (some (v43, σ39)))))))
set_option maxRecDepth 100000 in
theorem t_X11_wish_0 {X : Sx} {l : Launch} {D : Nat} {x1 : Int32} {σ : AH} {v : Int32} {σ' : AH} (hD : 2 ≤ D) (hs : Sh σ) (h : F_X11_wish x1 σ = some (v, σ')) : W_X11_wish_0 X l D x1 σ (some (.int v)) σ' := by
  unfold F_X11_wish at h
  unfold W_X11_wish_0
  obtain ⟨v6, σ2, q1, h⟩ := of_bd h
  have hC2 := f_X11_isPlot (σ := σ) hs  q1 (X := X) (l := l)
  have hs3 := hC2.1.2.2.2.1 hs
  refine ⟨1, v6, σ2, (Nat.le_trans (by decide) hD), hC2, ?_⟩
  refine ite_i (fun c4 => ?_) (fun c4 => ?_)
  · replace h := of_ifp h c4
    obtain ⟨v49, σ45, q5, h⟩ := of_bd h
    have hC6 := f_X11_answer (σ := σ2) hs3  q5 (X := X) (l := l)
    have hs7 := hC6.1.2.2.2.1 hs3
    refine ⟨1, v49, σ45, (Nat.le_trans (by decide) hD), hC6, ?_⟩
    exact ret_i h
  · replace h := of_ifn h c4
    obtain ⟨v12, σ8, q8, h⟩ := of_bd h
    have hC9 := f_X11_firstStart (σ := σ2) hs3  q8 (X := X) (l := l)
    have hs10 := hC9.1.2.2.2.1 hs3
    refine ⟨1, v12, σ8, (Nat.le_trans (by decide) hD), hC9, ?_⟩
    refine ite_i (fun c11 => ?_) (fun c11 => ?_)
    · replace h := of_ifp h c11
      obtain ⟨v18, σ14, q12, h⟩ := of_bd h
      have hC13 := f_X1_isWished (σ := σ8) hs10  q12 (X := X) (l := l)
      have hs14 := hC13.1.2.2.2.1 hs10
      refine ⟨0, v18, σ14, (Nat.le_trans (by decide) hD), hC13, ?_⟩
      refine ite_i (fun c15 => ?_) (fun c15 => ?_)
      · replace h := of_ifp h c15
        refine ite_i (fun c16 => ?_) (fun c16 => ?_)
        · replace h := of_ifp h c16
          obtain ⟨g17, h⟩ := of_gd h
          refine ⟨(inB_mp g17), ?_⟩
          obtain ⟨v25, σ21, q18, h⟩ := of_bd h
          have hC19 := f_X11_answer (σ := (sI (sI σ14 69 ((gI σ14 68 3).toNatClampNeg) x1) 68 3 ((gI (sI σ14 69 ((gI σ14 68 3).toNatClampNeg) x1) 68 3) + (1 : Int32)))) hs14  q18 (X := X) (l := l)
          have hs20 := hC19.1.2.2.2.1 hs14
          refine ⟨1, v25, σ21, (Nat.le_trans (by decide) hD), hC19, ?_⟩
          exact ret_i h
        · replace h := of_ifn h c16
          obtain ⟨v31, σ27, q21, h⟩ := of_bd h
          have hC22 := f_X11_answer (σ := σ14) hs14  q21 (X := X) (l := l)
          have hs23 := hC22.1.2.2.2.1 hs14
          refine ⟨1, v31, σ27, (Nat.le_trans (by decide) hD), hC22, ?_⟩
          exact ret_i h
      · replace h := of_ifn h c15
        obtain ⟨v37, σ33, q24, h⟩ := of_bd h
        have hC25 := f_X11_answer (σ := σ14) hs14  q24 (X := X) (l := l)
        have hs26 := hC25.1.2.2.2.1 hs14
        refine ⟨1, v37, σ33, (Nat.le_trans (by decide) hD), hC25, ?_⟩
        exact ret_i h
    · replace h := of_ifn h c11
      obtain ⟨v43, σ39, q27, h⟩ := of_bd h
      have hC28 := f_X11_answer (σ := σ8) hs10  q27 (X := X) (l := l)
      have hs29 := hC28.1.2.2.2.1 hs10
      refine ⟨1, v43, σ39, (Nat.le_trans (by decide) hD), hC28, ?_⟩
      exact ret_i h
theorem f_X11_wish {X : Sx} {l : Launch} {x1 : Int32} {σ : AH} {v : Int32} {σ' : AH} (hs : Sh σ) (h : F_X11_wish x1 σ = some (v, σ')) : Call X l m_X11_wish 2 [.ref 0, .int x1] σ (some (.int v)) σ' :=
  Call.ofE ok_X11_wish rfl (Nat.le_of_ble_eq_true rfl) (w_X11_wish_0 hs  (t_X11_wish_0 (Nat.le_refl _) hs  h))
def F_X11_clear (σ : AH) : Option (Int32 × AH) := (some ((gI σ 68 3), (sI σ 68 3 (0 : Int32))))
set_option maxRecDepth 100000 in
theorem t_X11_clear_0 {X : Sx} {l : Launch} {D : Nat} {σ : AH} {v : Int32} {σ' : AH} (hD : 0 ≤ D) (hs : Sh σ) (h : F_X11_clear σ = some (v, σ')) : W_X11_clear_0 X l D σ (some (.int v)) σ' := by
  unfold F_X11_clear at h
  unfold W_X11_clear_0
  exact ret_i h
theorem f_X11_clear {X : Sx} {l : Launch} {σ : AH} {v : Int32} {σ' : AH} (hs : Sh σ) (h : F_X11_clear σ = some (v, σ')) : Call X l m_X11_clear 0 [.ref 0] σ (some (.int v)) σ' :=
  Call.ofE ok_X11_clear rfl (Nat.le_of_ble_eq_true rfl) (w_X11_clear_0 hs  (t_X11_clear_0 (Nat.le_refl _) hs  h))
def F_X11_best_161 (k_X11_best_53 : Int32 → Int32 → AH → Option (Int32 × AH)) (k_X11_best_69 : Int32 → Int32 → Int32 → AH → Option (Int32 × AH)) (x2 : Int32) (x3 : Int32) (x4 : Int32) (σ : AH) : Option (Int32 × AH) := (k_X11_best_69 x2 x3 (x4 + (-1)) σ)
def F_X11_best_155 (k_X11_best_53 : Int32 → Int32 → AH → Option (Int32 × AH)) (k_X11_best_69 : Int32 → Int32 → Int32 → AH → Option (Int32 × AH)) (k_X11_best_103 : Int32 → Int32 → Int32 → Int32 → Int32 → AH → Option (Int32 × AH)) (x2 : Int32) (x3 : Int32) (x4 : Int32) (x5 : Int32) (x6 : Int32) (σ : AH) : Option (Int32 × AH) := (k_X11_best_103 x2 x3 x4 x5 (x6 + (-1)) σ)
def B_X11_best_103 (k_X11_best_53 : Int32 → Int32 → AH → Option (Int32 × AH)) (k_X11_best_69 : Int32 → Int32 → Int32 → AH → Option (Int32 × AH)) (k_X11_best_103 : Int32 → Int32 → Int32 → Int32 → Int32 → AH → Option (Int32 × AH)) (x2 : Int32) (x3 : Int32) (x4 : Int32) (x5 : Int32) (x6 : Int32) (σ : AH) : Option (Int32 × AH) := (if x6 < 0 then (F_X11_best_161 k_X11_best_53 k_X11_best_69 x2 x3 x4 σ) else (if (x6 &&& x5) = 0 then (bd (F_X1_roomsOfAll (x5 ||| x6) σ) fun v38 σ34 => (if v38 < (gI σ34 68 12) then (F_X11_best_155 k_X11_best_53 k_X11_best_69 k_X11_best_103 x2 x3 x4 x5 x6 σ34) else (bv (F_X1_playTime (2 : Int32) x6 σ34) fun σ40 => (bv (F_X1_keepIfBetter σ40) fun σ45 => (F_X11_best_155 k_X11_best_53 k_X11_best_69 k_X11_best_103 x2 x3 x4 x5 x6 σ45))))) else (F_X11_best_155 k_X11_best_53 k_X11_best_69 k_X11_best_103 x2 x3 x4 x5 x6 σ)))
def F_X11_best_103 (k_X11_best_53 : Int32 → Int32 → AH → Option (Int32 × AH)) (k_X11_best_69 : Int32 → Int32 → Int32 → AH → Option (Int32 × AH)) : Nat → Int32 → Int32 → Int32 → Int32 → Int32 → AH → Option (Int32 × AH) := fun k => match k with | 0 => fun _ _ _ _ _ _ => none | k + 1 => B_X11_best_103 k_X11_best_53 k_X11_best_69 (F_X11_best_103 k_X11_best_53 k_X11_best_69 k)
def B_X11_best_69 (k_X11_best_53 : Int32 → Int32 → AH → Option (Int32 × AH)) (k_X11_best_69 : Int32 → Int32 → Int32 → AH → Option (Int32 × AH)) (x2 : Int32) (x3 : Int32) (x4 : Int32) (σ : AH) : Option (Int32 × AH) := (if x4 < 0 then (k_X11_best_53 x2 (x3 + (-1)) σ) else (if (x4 &&& x3) = 0 then (bv (F_X1_playTime (1 : Int32) x4 σ) fun σ29 => (F_X11_best_103 k_X11_best_53 k_X11_best_69 BIG x2 x3 x4 (x3 ||| x4) x2 σ29)) else (F_X11_best_161 k_X11_best_53 k_X11_best_69 x2 x3 x4 σ)))
def F_X11_best_69 (k_X11_best_53 : Int32 → Int32 → AH → Option (Int32 × AH)) : Nat → Int32 → Int32 → Int32 → AH → Option (Int32 × AH) := fun k => match k with | 0 => fun _ _ _ _ => none | k + 1 => B_X11_best_69 k_X11_best_53 (F_X11_best_69 k_X11_best_53 k)
def B_X11_best_53 (k_X11_best_53 : Int32 → Int32 → AH → Option (Int32 × AH)) (x2 : Int32) (x3 : Int32) (σ : AH) : Option (Int32 × AH) := (if x3 < 0 then (some ((gI σ 68 12), σ)) else (bv (F_X1_playTime (0 : Int32) x3 σ) fun σ24 => (F_X11_best_69 k_X11_best_53 BIG x2 x3 x2 σ24)))
def F_X11_best_53 : Nat → Int32 → Int32 → AH → Option (Int32 × AH) := fun k => match k with | 0 => fun _ _ _ => none | k + 1 => B_X11_best_53 (F_X11_best_53 k)
def F_X11_best (x1 : Int32) (σ : AH) : Option (Int32 × AH) := (bd (F_X11_isIn x1 (0 : Int32) (19 : Int32) σ) fun v6 σ2 => (if v6 = 0 then (some ((-1 : Int32), σ2)) else (bd (F_X11_knowing (x1 * (13 : Int32)) σ2) fun v12 σ8 => (bv (F_X1_openQuarter x1 v12 (gI σ8 0 12) σ8) fun σ14 => (bv (F_X1_forget σ14) fun σ19 => (F_X11_best_53 BIG (((1 : Int32) <<< ((gI σ19 68 3) &&& 31)) - (1 : Int32)) (((1 : Int32) <<< ((gI σ19 68 3) &&& 31)) - (1 : Int32)) σ19))))))
set_option maxRecDepth 100000 in
theorem t_X11_best_161 {X : Sx} {l : Launch} {D : Nat} {k_X11_best_53 : Int32 → Int32 → AH → Option (Int32 × AH)} {k_X11_best_69 : Int32 → Int32 → Int32 → AH → Option (Int32 × AH)} {x2 : Int32} {x3 : Int32} {x4 : Int32} {σ : AH} {v : Int32} {σ' : AH} (hD : 7 ≤ D) (hk_X11_best_53 : ∀ (x2 : Int32) (x3 : Int32) (σ : AH) (v : Int32) (σ' : AH), Sh σ → k_X11_best_53 x2 x3 σ = some (v, σ') → E X l m_X11_best D 53 [(0, .ref 0), (2, .int x2), (3, .int x3)] [] σ (some (.int v)) σ') (hk_X11_best_69 : ∀ (x2 : Int32) (x3 : Int32) (x4 : Int32) (σ : AH) (v : Int32) (σ' : AH), Sh σ → k_X11_best_69 x2 x3 x4 σ = some (v, σ') → E X l m_X11_best D 69 [(0, .ref 0), (2, .int x2), (3, .int x3), (4, .int x4)] [] σ (some (.int v)) σ') (hs : Sh σ) (h : F_X11_best_161 k_X11_best_53 k_X11_best_69 x2 x3 x4 σ = some (v, σ')) : W_X11_best_161 X l D x2 x3 x4 σ (some (.int v)) σ' := by
  unfold F_X11_best_161 at h
  unfold W_X11_best_161
  exact hk_X11_best_69 _ _ _ _ _ _ hs  h
set_option maxRecDepth 100000 in
theorem t_X11_best_155 {X : Sx} {l : Launch} {D : Nat} {k_X11_best_53 : Int32 → Int32 → AH → Option (Int32 × AH)} {k_X11_best_69 : Int32 → Int32 → Int32 → AH → Option (Int32 × AH)} {k_X11_best_103 : Int32 → Int32 → Int32 → Int32 → Int32 → AH → Option (Int32 × AH)} {x2 : Int32} {x3 : Int32} {x4 : Int32} {x5 : Int32} {x6 : Int32} {σ : AH} {v : Int32} {σ' : AH} (hD : 7 ≤ D) (hk_X11_best_53 : ∀ (x2 : Int32) (x3 : Int32) (σ : AH) (v : Int32) (σ' : AH), Sh σ → k_X11_best_53 x2 x3 σ = some (v, σ') → E X l m_X11_best D 53 [(0, .ref 0), (2, .int x2), (3, .int x3)] [] σ (some (.int v)) σ') (hk_X11_best_69 : ∀ (x2 : Int32) (x3 : Int32) (x4 : Int32) (σ : AH) (v : Int32) (σ' : AH), Sh σ → k_X11_best_69 x2 x3 x4 σ = some (v, σ') → E X l m_X11_best D 69 [(0, .ref 0), (2, .int x2), (3, .int x3), (4, .int x4)] [] σ (some (.int v)) σ') (hk_X11_best_103 : ∀ (x2 : Int32) (x3 : Int32) (x4 : Int32) (x5 : Int32) (x6 : Int32) (σ : AH) (v : Int32) (σ' : AH), Sh σ → k_X11_best_103 x2 x3 x4 x5 x6 σ = some (v, σ') → E X l m_X11_best D 103 [(0, .ref 0), (2, .int x2), (3, .int x3), (4, .int x4), (5, .int x5), (6, .int x6)] [] σ (some (.int v)) σ') (hs : Sh σ) (h : F_X11_best_155 k_X11_best_53 k_X11_best_69 k_X11_best_103 x2 x3 x4 x5 x6 σ = some (v, σ')) : W_X11_best_155 X l D x2 x3 x4 x5 x6 σ (some (.int v)) σ' := by
  unfold F_X11_best_155 at h
  unfold W_X11_best_155
  exact hk_X11_best_103 _ _ _ _ _ _ _ _ hs  h
set_option maxRecDepth 100000 in
theorem t_X11_best_103 {X : Sx} {l : Launch} {D : Nat} {k_X11_best_53 : Int32 → Int32 → AH → Option (Int32 × AH)} {k_X11_best_69 : Int32 → Int32 → Int32 → AH → Option (Int32 × AH)} {k_X11_best_103 : Int32 → Int32 → Int32 → Int32 → Int32 → AH → Option (Int32 × AH)} {x2 : Int32} {x3 : Int32} {x4 : Int32} {x5 : Int32} {x6 : Int32} {σ : AH} {v : Int32} {σ' : AH} (hD : 7 ≤ D) (hk_X11_best_53 : ∀ (x2 : Int32) (x3 : Int32) (σ : AH) (v : Int32) (σ' : AH), Sh σ → k_X11_best_53 x2 x3 σ = some (v, σ') → E X l m_X11_best D 53 [(0, .ref 0), (2, .int x2), (3, .int x3)] [] σ (some (.int v)) σ') (hk_X11_best_69 : ∀ (x2 : Int32) (x3 : Int32) (x4 : Int32) (σ : AH) (v : Int32) (σ' : AH), Sh σ → k_X11_best_69 x2 x3 x4 σ = some (v, σ') → E X l m_X11_best D 69 [(0, .ref 0), (2, .int x2), (3, .int x3), (4, .int x4)] [] σ (some (.int v)) σ') (hk_X11_best_103 : ∀ (x2 : Int32) (x3 : Int32) (x4 : Int32) (x5 : Int32) (x6 : Int32) (σ : AH) (v : Int32) (σ' : AH), Sh σ → k_X11_best_103 x2 x3 x4 x5 x6 σ = some (v, σ') → E X l m_X11_best D 103 [(0, .ref 0), (2, .int x2), (3, .int x3), (4, .int x4), (5, .int x5), (6, .int x6)] [] σ (some (.int v)) σ') (hs : Sh σ) (h : B_X11_best_103 k_X11_best_53 k_X11_best_69 k_X11_best_103 x2 x3 x4 x5 x6 σ = some (v, σ')) : W_X11_best_103 X l D x2 x3 x4 x5 x6 σ (some (.int v)) σ' := by
  unfold B_X11_best_103 at h
  unfold W_X11_best_103
  refine ite_i (fun c1 => ?_) (fun c1 => ?_)
  · replace h := of_ifp h c1
    exact t_X11_best_161 hD hk_X11_best_53 hk_X11_best_69 hs  h
  · replace h := of_ifn h c1
    refine ite_i (fun c2 => ?_) (fun c2 => ?_)
    · replace h := of_ifp h c2
      obtain ⟨v38, σ34, q3, h⟩ := of_bd h
      have hC4 := f_X1_roomsOfAll (σ := σ) hs  q3 (X := X) (l := l)
      have hs5 := hC4.1.2.2.2.1 hs
      refine ⟨2, v38, σ34, (Nat.le_trans (by decide) hD), hC4, ?_⟩
      refine ite_i (fun c6 => ?_) (fun c6 => ?_)
      · replace h := of_ifp h c6
        exact t_X11_best_155 hD hk_X11_best_53 hk_X11_best_69 hk_X11_best_103 hs5  h
      · replace h := of_ifn h c6
        obtain ⟨σ40, q7, h⟩ := of_bv h
        have hC8 := f_X1_playTime (σ := σ34) hs5  q7 (X := X) (l := l)
        have hs9 := hC8.1.2.2.2.1 hs5
        refine ⟨6, σ40, (Nat.le_trans (by decide) hD), hC8, ?_⟩
        obtain ⟨σ45, q10, h⟩ := of_bv h
        have hC11 := f_X1_keepIfBetter (σ := σ40) hs9  q10 (X := X) (l := l)
        have hs12 := hC11.1.2.2.2.1 hs9
        refine ⟨3, σ45, (Nat.le_trans (by decide) hD), hC11, ?_⟩
        exact t_X11_best_155 hD hk_X11_best_53 hk_X11_best_69 hk_X11_best_103 hs12  h
    · replace h := of_ifn h c2
      exact t_X11_best_155 hD hk_X11_best_53 hk_X11_best_69 hk_X11_best_103 hs  h
theorem e_X11_best_103 {X : Sx} {l : Launch} {D : Nat} {k_X11_best_53 : Int32 → Int32 → AH → Option (Int32 × AH)} {k_X11_best_69 : Int32 → Int32 → Int32 → AH → Option (Int32 × AH)} (hD : 7 ≤ D) (hk_X11_best_53 : ∀ (x2 : Int32) (x3 : Int32) (σ : AH) (v : Int32) (σ' : AH), Sh σ → k_X11_best_53 x2 x3 σ = some (v, σ') → E X l m_X11_best D 53 [(0, .ref 0), (2, .int x2), (3, .int x3)] [] σ (some (.int v)) σ') (hk_X11_best_69 : ∀ (x2 : Int32) (x3 : Int32) (x4 : Int32) (σ : AH) (v : Int32) (σ' : AH), Sh σ → k_X11_best_69 x2 x3 x4 σ = some (v, σ') → E X l m_X11_best D 69 [(0, .ref 0), (2, .int x2), (3, .int x3), (4, .int x4)] [] σ (some (.int v)) σ') : ∀ (k : Nat) (x2 : Int32) (x3 : Int32) (x4 : Int32) (x5 : Int32) (x6 : Int32) (σ : AH) (v : Int32) (σ' : AH), Sh σ → F_X11_best_103 k_X11_best_53 k_X11_best_69 k x2 x3 x4 x5 x6 σ = some (v, σ') → E X l m_X11_best D 103 [(0, .ref 0), (2, .int x2), (3, .int x3), (4, .int x4), (5, .int x5), (6, .int x6)] [] σ (some (.int v)) σ' := by
  intro k
  induction k with
  | zero => intro x2 x3 x4 x5 x6 σ v σ' hs h; cases h
  | succ k ih =>
    intro x2 x3 x4 x5 x6 σ v σ' hs h
    exact w_X11_best_103 hs  (t_X11_best_103 hD hk_X11_best_53 hk_X11_best_69 ih hs  h)
set_option maxRecDepth 100000 in
theorem t_X11_best_69 {X : Sx} {l : Launch} {D : Nat} {k_X11_best_53 : Int32 → Int32 → AH → Option (Int32 × AH)} {k_X11_best_69 : Int32 → Int32 → Int32 → AH → Option (Int32 × AH)} {x2 : Int32} {x3 : Int32} {x4 : Int32} {σ : AH} {v : Int32} {σ' : AH} (hD : 7 ≤ D) (hk_X11_best_53 : ∀ (x2 : Int32) (x3 : Int32) (σ : AH) (v : Int32) (σ' : AH), Sh σ → k_X11_best_53 x2 x3 σ = some (v, σ') → E X l m_X11_best D 53 [(0, .ref 0), (2, .int x2), (3, .int x3)] [] σ (some (.int v)) σ') (hk_X11_best_69 : ∀ (x2 : Int32) (x3 : Int32) (x4 : Int32) (σ : AH) (v : Int32) (σ' : AH), Sh σ → k_X11_best_69 x2 x3 x4 σ = some (v, σ') → E X l m_X11_best D 69 [(0, .ref 0), (2, .int x2), (3, .int x3), (4, .int x4)] [] σ (some (.int v)) σ') (hs : Sh σ) (h : B_X11_best_69 k_X11_best_53 k_X11_best_69 x2 x3 x4 σ = some (v, σ')) : W_X11_best_69 X l D x2 x3 x4 σ (some (.int v)) σ' := by
  unfold B_X11_best_69 at h
  unfold W_X11_best_69
  refine ite_i (fun c1 => ?_) (fun c1 => ?_)
  · replace h := of_ifp h c1
    exact hk_X11_best_53 _ _ _ _ _ hs  h
  · replace h := of_ifn h c1
    refine ite_i (fun c2 => ?_) (fun c2 => ?_)
    · replace h := of_ifp h c2
      obtain ⟨σ29, q3, h⟩ := of_bv h
      have hC4 := f_X1_playTime (σ := σ) hs  q3 (X := X) (l := l)
      have hs5 := hC4.1.2.2.2.1 hs
      refine ⟨6, σ29, (Nat.le_trans (by decide) hD), hC4, ?_⟩
      exact e_X11_best_103 hD hk_X11_best_53 hk_X11_best_69 _ _ _ _ _ _ _ _ _ hs5  h
    · replace h := of_ifn h c2
      exact t_X11_best_161 hD hk_X11_best_53 hk_X11_best_69 hs  h
theorem e_X11_best_69 {X : Sx} {l : Launch} {D : Nat} {k_X11_best_53 : Int32 → Int32 → AH → Option (Int32 × AH)} (hD : 7 ≤ D) (hk_X11_best_53 : ∀ (x2 : Int32) (x3 : Int32) (σ : AH) (v : Int32) (σ' : AH), Sh σ → k_X11_best_53 x2 x3 σ = some (v, σ') → E X l m_X11_best D 53 [(0, .ref 0), (2, .int x2), (3, .int x3)] [] σ (some (.int v)) σ') : ∀ (k : Nat) (x2 : Int32) (x3 : Int32) (x4 : Int32) (σ : AH) (v : Int32) (σ' : AH), Sh σ → F_X11_best_69 k_X11_best_53 k x2 x3 x4 σ = some (v, σ') → E X l m_X11_best D 69 [(0, .ref 0), (2, .int x2), (3, .int x3), (4, .int x4)] [] σ (some (.int v)) σ' := by
  intro k
  induction k with
  | zero => intro x2 x3 x4 σ v σ' hs h; cases h
  | succ k ih =>
    intro x2 x3 x4 σ v σ' hs h
    exact w_X11_best_69 hs  (t_X11_best_69 hD hk_X11_best_53 ih hs  h)
set_option maxRecDepth 100000 in
theorem t_X11_best_53 {X : Sx} {l : Launch} {D : Nat} {k_X11_best_53 : Int32 → Int32 → AH → Option (Int32 × AH)} {x2 : Int32} {x3 : Int32} {σ : AH} {v : Int32} {σ' : AH} (hD : 7 ≤ D) (hk_X11_best_53 : ∀ (x2 : Int32) (x3 : Int32) (σ : AH) (v : Int32) (σ' : AH), Sh σ → k_X11_best_53 x2 x3 σ = some (v, σ') → E X l m_X11_best D 53 [(0, .ref 0), (2, .int x2), (3, .int x3)] [] σ (some (.int v)) σ') (hs : Sh σ) (h : B_X11_best_53 k_X11_best_53 x2 x3 σ = some (v, σ')) : W_X11_best_53 X l D x2 x3 σ (some (.int v)) σ' := by
  unfold B_X11_best_53 at h
  unfold W_X11_best_53
  refine ite_i (fun c1 => ?_) (fun c1 => ?_)
  · replace h := of_ifp h c1
    exact ret_i h
  · replace h := of_ifn h c1
    obtain ⟨σ24, q2, h⟩ := of_bv h
    have hC3 := f_X1_playTime (σ := σ) hs  q2 (X := X) (l := l)
    have hs4 := hC3.1.2.2.2.1 hs
    refine ⟨6, σ24, (Nat.le_trans (by decide) hD), hC3, ?_⟩
    exact e_X11_best_69 hD hk_X11_best_53 _ _ _ _ _ _ _ hs4  h
theorem e_X11_best_53 {X : Sx} {l : Launch} {D : Nat} (hD : 7 ≤ D) : ∀ (k : Nat) (x2 : Int32) (x3 : Int32) (σ : AH) (v : Int32) (σ' : AH), Sh σ → F_X11_best_53 k x2 x3 σ = some (v, σ') → E X l m_X11_best D 53 [(0, .ref 0), (2, .int x2), (3, .int x3)] [] σ (some (.int v)) σ' := by
  intro k
  induction k with
  | zero => intro x2 x3 σ v σ' hs h; cases h
  | succ k ih =>
    intro x2 x3 σ v σ' hs h
    exact w_X11_best_53 hs  (t_X11_best_53 hD ih hs  h)
set_option maxRecDepth 100000 in
theorem t_X11_best_0 {X : Sx} {l : Launch} {D : Nat} {x1 : Int32} {σ : AH} {v : Int32} {σ' : AH} (hD : 7 ≤ D) (hs : Sh σ) (h : F_X11_best x1 σ = some (v, σ')) : W_X11_best_0 X l D x1 σ (some (.int v)) σ' := by
  unfold F_X11_best at h
  unfold W_X11_best_0
  obtain ⟨v6, σ2, q1, h⟩ := of_bd h
  have hC2 := f_X11_isIn (σ := σ) hs  q1 (X := X) (l := l)
  have hs3 := hC2.1.2.2.2.1 hs
  refine ⟨0, v6, σ2, (Nat.le_trans (by decide) hD), hC2, ?_⟩
  refine ite_i (fun c4 => ?_) (fun c4 => ?_)
  · replace h := of_ifp h c4
    exact ret_i h
  · replace h := of_ifn h c4
    obtain ⟨v12, σ8, q5, h⟩ := of_bd h
    have hC6 := f_X11_knowing (σ := σ2) hs3  q5 (X := X) (l := l)
    have hs7 := hC6.1.2.2.2.1 hs3
    refine ⟨2, v12, σ8, (Nat.le_trans (by decide) hD), hC6, ?_⟩
    obtain ⟨σ14, q8, h⟩ := of_bv h
    have hC9 := f_X1_openQuarter (σ := σ8) hs7  q8 (X := X) (l := l)
    have hs10 := hC9.1.2.2.2.1 hs7
    refine ⟨6, σ14, (Nat.le_trans (by decide) hD), hC9, ?_⟩
    obtain ⟨σ19, q11, h⟩ := of_bv h
    have hC12 := f_X1_forget (σ := σ14) hs10  q11 (X := X) (l := l)
    have hs13 := hC12.1.2.2.2.1 hs10
    refine ⟨1, σ19, (Nat.le_trans (by decide) hD), hC12, ?_⟩
    exact e_X11_best_53 hD  _ _ _ _ _ _ hs13  h
theorem f_X11_best {X : Sx} {l : Launch} {x1 : Int32} {σ : AH} {v : Int32} {σ' : AH} (hs : Sh σ) (h : F_X11_best x1 σ = some (v, σ')) : Call X l m_X11_best 7 [.ref 0, .int x1] σ (some (.int v)) σ' :=
  Call.ofE ok_X11_best rfl (Nat.le_of_ble_eq_true rfl) (w_X11_best_0 hs  (t_X11_best_0 (Nat.le_refl _) hs  h))
def F_X11_chosen (x1 : Int32) (σ : AH) : Option (Int32 × AH) := (if x1 = (-1 : Int32) then (some ((gI σ 68 13), σ)) else (bd (F_X11_isIn x1 (0 : Int32) ((gI σ 68 11) - (1 : Int32)) σ) fun v6 σ2 => (if v6 = 0 then (some ((-1 : Int32), σ2)) else (if inB x1 6 = true then (some ((gI σ2 82 x1.toNatClampNeg), σ2)) else none))))
set_option maxRecDepth 100000 in
theorem t_X11_chosen_0 {X : Sx} {l : Launch} {D : Nat} {x1 : Int32} {σ : AH} {v : Int32} {σ' : AH} (hD : 1 ≤ D) (hs : Sh σ) (h : F_X11_chosen x1 σ = some (v, σ')) : W_X11_chosen_0 X l D x1 σ (some (.int v)) σ' := by
  unfold F_X11_chosen at h
  unfold W_X11_chosen_0
  refine ite_i (fun c1 => ?_) (fun c1 => ?_)
  · replace h := of_ifp h c1
    exact ret_i h
  · replace h := of_ifn h c1
    obtain ⟨v6, σ2, q2, h⟩ := of_bd h
    have hC3 := f_X11_isIn (σ := σ) hs  q2 (X := X) (l := l)
    have hs4 := hC3.1.2.2.2.1 hs
    refine ⟨0, v6, σ2, (Nat.le_trans (by decide) hD), hC3, ?_⟩
    refine ite_i (fun c5 => ?_) (fun c5 => ?_)
    · replace h := of_ifp h c5
      exact ret_i h
    · replace h := of_ifn h c5
      obtain ⟨g6, h⟩ := of_gd h
      refine ⟨(inB_mp g6), ?_⟩
      exact ret_i h
theorem f_X11_chosen {X : Sx} {l : Launch} {x1 : Int32} {σ : AH} {v : Int32} {σ' : AH} (hs : Sh σ) (h : F_X11_chosen x1 σ = some (v, σ')) : Call X l m_X11_chosen 1 [.ref 0, .int x1] σ (some (.int v)) σ' :=
  Call.ofE ok_X11_chosen rfl (Nat.le_of_ble_eq_true rfl) (w_X11_chosen_0 hs  (t_X11_chosen_0 (Nat.le_refl _) hs  h))
def F_X11_bound_125 (k_X11_bound_36 : Int32 → Int32 → AH → Option (Int32 × AH)) (x3 : Int32) (y0 : Int32) (y1 : Int32) (σ : AH) : Option (Int32 × AH) := (k_X11_bound_36 (y1 + y0) (x3 + 1) σ)
def F_X11_bound_107 (k_X11_bound_36 : Int32 → Int32 → AH → Option (Int32 × AH)) (x2 : Int32) (x3 : Int32) (x4 : Int32) (σ : AH) : Option (Int32 × AH) := (if x4 = 0 then (F_X11_bound_125 k_X11_bound_36 x3 (0 : Int32) x2 σ) else (bd (F_X1_roomsOf x3 σ) fun v41 σ37 => (F_X11_bound_125 k_X11_bound_36 x3 v41 x2 σ37)))
def F_X11_bound_99 (k_X11_bound_36 : Int32 → Int32 → AH → Option (Int32 × AH)) (k_X11_bound_53 : Int32 → Int32 → Int32 → Int32 → AH → Option (Int32 × AH)) (x2 : Int32) (x3 : Int32) (x5 : Int32) (y0 : Int32) (σ : AH) : Option (Int32 × AH) := (k_X11_bound_53 x2 x3 y0 (x5 + 1) σ)
def B_X11_bound_53 (k_X11_bound_36 : Int32 → Int32 → AH → Option (Int32 × AH)) (k_X11_bound_53 : Int32 → Int32 → Int32 → Int32 → AH → Option (Int32 × AH)) (x2 : Int32) (x3 : Int32) (x4 : Int32) (x5 : Int32) (σ : AH) : Option (Int32 × AH) := (if (3 : Int32) < x5 then (F_X11_bound_107 k_X11_bound_36 x2 x3 x4 σ) else (if x4 = 0 then (bv (F_X1_tell (x5 <<< (((2 : Int32) * x3) &&& 31)) σ) fun σ19 => (bd (F_X1_playRow σ19) fun b28 σ24 => if b28 ∈ siteIds then (bd (F_X1_housedIn b28 σ24) fun v35 σ31 => (if v35 ≤ 0 then (F_X11_bound_99 k_X11_bound_36 k_X11_bound_53 x2 x3 x5 (0 : Int32) σ31) else (F_X11_bound_99 k_X11_bound_36 k_X11_bound_53 x2 x3 x5 (1 : Int32) σ31))) else none)) else (F_X11_bound_107 k_X11_bound_36 x2 x3 x4 σ)))
def F_X11_bound_53 (k_X11_bound_36 : Int32 → Int32 → AH → Option (Int32 × AH)) : Nat → Int32 → Int32 → Int32 → Int32 → AH → Option (Int32 × AH) := fun k => match k with | 0 => fun _ _ _ _ _ => none | k + 1 => B_X11_bound_53 k_X11_bound_36 (F_X11_bound_53 k_X11_bound_36 k)
def B_X11_bound_36 (k_X11_bound_36 : Int32 → Int32 → AH → Option (Int32 × AH)) (x2 : Int32) (x3 : Int32) (σ : AH) : Option (Int32 × AH) := (if (gI σ 68 3) ≤ x3 then (some (x2, σ)) else (F_X11_bound_53 k_X11_bound_36 BIG x2 x3 (0 : Int32) (1 : Int32) σ))
def F_X11_bound_36 : Nat → Int32 → Int32 → AH → Option (Int32 × AH) := fun k => match k with | 0 => fun _ _ _ => none | k + 1 => B_X11_bound_36 (F_X11_bound_36 k)
def F_X11_bound (x1 : Int32) (σ : AH) : Option (Int32 × AH) := (bd (F_X11_isIn x1 (0 : Int32) (19 : Int32) σ) fun v6 σ2 => (if v6 = 0 then (some ((-1 : Int32), σ2)) else (bd (F_X11_knowing (x1 * (13 : Int32)) σ2) fun v12 σ8 => (bv (F_X1_openQuarter x1 v12 (gI σ8 0 12) σ8) fun σ14 => (F_X11_bound_36 BIG (0 : Int32) (0 : Int32) σ14)))))
set_option maxRecDepth 100000 in
theorem t_X11_bound_125 {X : Sx} {l : Launch} {D : Nat} {k_X11_bound_36 : Int32 → Int32 → AH → Option (Int32 × AH)} {x3 : Int32} {y0 : Int32} {y1 : Int32} {σ : AH} {v : Int32} {σ' : AH} (hD : 7 ≤ D) (hk_X11_bound_36 : ∀ (x2 : Int32) (x3 : Int32) (σ : AH) (v : Int32) (σ' : AH), Sh σ → k_X11_bound_36 x2 x3 σ = some (v, σ') → E X l m_X11_bound D 36 [(0, .ref 0), (2, .int x2), (3, .int x3)] [] σ (some (.int v)) σ') (hs : Sh σ) (h : F_X11_bound_125 k_X11_bound_36 x3 y0 y1 σ = some (v, σ')) : W_X11_bound_125 X l D x3 y0 y1 σ (some (.int v)) σ' := by
  unfold F_X11_bound_125 at h
  unfold W_X11_bound_125
  exact hk_X11_bound_36 _ _ _ _ _ hs  h
set_option maxRecDepth 100000 in
theorem t_X11_bound_107 {X : Sx} {l : Launch} {D : Nat} {k_X11_bound_36 : Int32 → Int32 → AH → Option (Int32 × AH)} {x2 : Int32} {x3 : Int32} {x4 : Int32} {σ : AH} {v : Int32} {σ' : AH} (hD : 7 ≤ D) (hk_X11_bound_36 : ∀ (x2 : Int32) (x3 : Int32) (σ : AH) (v : Int32) (σ' : AH), Sh σ → k_X11_bound_36 x2 x3 σ = some (v, σ') → E X l m_X11_bound D 36 [(0, .ref 0), (2, .int x2), (3, .int x3)] [] σ (some (.int v)) σ') (hs : Sh σ) (h : F_X11_bound_107 k_X11_bound_36 x2 x3 x4 σ = some (v, σ')) : W_X11_bound_107 X l D x2 x3 x4 σ (some (.int v)) σ' := by
  unfold F_X11_bound_107 at h
  unfold W_X11_bound_107
  refine ite_i (fun c1 => ?_) (fun c1 => ?_)
  · replace h := of_ifp h c1
    exact t_X11_bound_125 hD hk_X11_bound_36 hs  h
  · replace h := of_ifn h c1
    obtain ⟨v41, σ37, q2, h⟩ := of_bd h
    have hC3 := f_X1_roomsOf (σ := σ) hs  q2 (X := X) (l := l)
    have hs4 := hC3.1.2.2.2.1 hs
    refine ⟨1, v41, σ37, (Nat.le_trans (by decide) hD), hC3, ?_⟩
    exact t_X11_bound_125 hD hk_X11_bound_36 hs4  h
set_option maxRecDepth 100000 in
theorem t_X11_bound_99 {X : Sx} {l : Launch} {D : Nat} {k_X11_bound_36 : Int32 → Int32 → AH → Option (Int32 × AH)} {k_X11_bound_53 : Int32 → Int32 → Int32 → Int32 → AH → Option (Int32 × AH)} {x2 : Int32} {x3 : Int32} {x5 : Int32} {y0 : Int32} {σ : AH} {v : Int32} {σ' : AH} (hD : 7 ≤ D) (hk_X11_bound_36 : ∀ (x2 : Int32) (x3 : Int32) (σ : AH) (v : Int32) (σ' : AH), Sh σ → k_X11_bound_36 x2 x3 σ = some (v, σ') → E X l m_X11_bound D 36 [(0, .ref 0), (2, .int x2), (3, .int x3)] [] σ (some (.int v)) σ') (hk_X11_bound_53 : ∀ (x2 : Int32) (x3 : Int32) (x4 : Int32) (x5 : Int32) (σ : AH) (v : Int32) (σ' : AH), Sh σ → k_X11_bound_53 x2 x3 x4 x5 σ = some (v, σ') → E X l m_X11_bound D 53 [(0, .ref 0), (2, .int x2), (3, .int x3), (4, .int x4), (5, .int x5)] [] σ (some (.int v)) σ') (hs : Sh σ) (h : F_X11_bound_99 k_X11_bound_36 k_X11_bound_53 x2 x3 x5 y0 σ = some (v, σ')) : W_X11_bound_99 X l D x2 x3 x5 y0 σ (some (.int v)) σ' := by
  unfold F_X11_bound_99 at h
  unfold W_X11_bound_99
  exact hk_X11_bound_53 _ _ _ _ _ _ _ hs  h
set_option maxRecDepth 100000 in
theorem t_X11_bound_53 {X : Sx} {l : Launch} {D : Nat} {k_X11_bound_36 : Int32 → Int32 → AH → Option (Int32 × AH)} {k_X11_bound_53 : Int32 → Int32 → Int32 → Int32 → AH → Option (Int32 × AH)} {x2 : Int32} {x3 : Int32} {x4 : Int32} {x5 : Int32} {σ : AH} {v : Int32} {σ' : AH} (hD : 7 ≤ D) (hk_X11_bound_36 : ∀ (x2 : Int32) (x3 : Int32) (σ : AH) (v : Int32) (σ' : AH), Sh σ → k_X11_bound_36 x2 x3 σ = some (v, σ') → E X l m_X11_bound D 36 [(0, .ref 0), (2, .int x2), (3, .int x3)] [] σ (some (.int v)) σ') (hk_X11_bound_53 : ∀ (x2 : Int32) (x3 : Int32) (x4 : Int32) (x5 : Int32) (σ : AH) (v : Int32) (σ' : AH), Sh σ → k_X11_bound_53 x2 x3 x4 x5 σ = some (v, σ') → E X l m_X11_bound D 53 [(0, .ref 0), (2, .int x2), (3, .int x3), (4, .int x4), (5, .int x5)] [] σ (some (.int v)) σ') (hs : Sh σ) (h : B_X11_bound_53 k_X11_bound_36 k_X11_bound_53 x2 x3 x4 x5 σ = some (v, σ')) : W_X11_bound_53 X l D x2 x3 x4 x5 σ (some (.int v)) σ' := by
  unfold B_X11_bound_53 at h
  unfold W_X11_bound_53
  refine ite_i (fun c1 => ?_) (fun c1 => ?_)
  · replace h := of_ifp h c1
    exact t_X11_bound_107 hD hk_X11_bound_36 hs  h
  · replace h := of_ifn h c1
    refine ite_i (fun c2 => ?_) (fun c2 => ?_)
    · replace h := of_ifp h c2
      obtain ⟨σ19, q3, h⟩ := of_bv h
      have hC4 := f_X1_tell (σ := σ) hs  q3 (X := X) (l := l)
      have hs5 := hC4.1.2.2.2.1 hs
      refine ⟨0, σ19, (Nat.le_trans (by decide) hD), hC4, ?_⟩
      obtain ⟨b28, σ24, q6, h⟩ := of_bd h
      have hC7 := f_X1_playRow (σ := σ19) hs5  q6 (X := X) (l := l)
      have hs8 := hC7.1.2.2.2.1 hs5
      obtain ⟨g9, h⟩ := of_gd h
      refine ⟨6, b28, σ24, (Nat.le_trans (by decide) hD), hC7, g9, ?_⟩
      obtain ⟨v35, σ31, q10, h⟩ := of_bd h
      have hC11 := f_X1_housedIn (σ := σ24) hs8 (by first | assumption | exact st_stock (by assumption) | exact rn_site (by assumption) | decide) q10 (X := X) (l := l)
      have hs12 := hC11.1.2.2.2.1 hs8
      refine ⟨2, v35, σ31, (Nat.le_trans (by decide) hD), hC11, ?_⟩
      refine ite_i (fun c13 => ?_) (fun c13 => ?_)
      · replace h := of_ifp h c13
        exact t_X11_bound_99 hD hk_X11_bound_36 hk_X11_bound_53 hs12  h
      · replace h := of_ifn h c13
        exact t_X11_bound_99 hD hk_X11_bound_36 hk_X11_bound_53 hs12  h
    · replace h := of_ifn h c2
      exact t_X11_bound_107 hD hk_X11_bound_36 hs  h
theorem e_X11_bound_53 {X : Sx} {l : Launch} {D : Nat} {k_X11_bound_36 : Int32 → Int32 → AH → Option (Int32 × AH)} (hD : 7 ≤ D) (hk_X11_bound_36 : ∀ (x2 : Int32) (x3 : Int32) (σ : AH) (v : Int32) (σ' : AH), Sh σ → k_X11_bound_36 x2 x3 σ = some (v, σ') → E X l m_X11_bound D 36 [(0, .ref 0), (2, .int x2), (3, .int x3)] [] σ (some (.int v)) σ') : ∀ (k : Nat) (x2 : Int32) (x3 : Int32) (x4 : Int32) (x5 : Int32) (σ : AH) (v : Int32) (σ' : AH), Sh σ → F_X11_bound_53 k_X11_bound_36 k x2 x3 x4 x5 σ = some (v, σ') → E X l m_X11_bound D 53 [(0, .ref 0), (2, .int x2), (3, .int x3), (4, .int x4), (5, .int x5)] [] σ (some (.int v)) σ' := by
  intro k
  induction k with
  | zero => intro x2 x3 x4 x5 σ v σ' hs h; cases h
  | succ k ih =>
    intro x2 x3 x4 x5 σ v σ' hs h
    exact w_X11_bound_53 hs  (t_X11_bound_53 hD hk_X11_bound_36 ih hs  h)
set_option maxRecDepth 100000 in
theorem t_X11_bound_36 {X : Sx} {l : Launch} {D : Nat} {k_X11_bound_36 : Int32 → Int32 → AH → Option (Int32 × AH)} {x2 : Int32} {x3 : Int32} {σ : AH} {v : Int32} {σ' : AH} (hD : 7 ≤ D) (hk_X11_bound_36 : ∀ (x2 : Int32) (x3 : Int32) (σ : AH) (v : Int32) (σ' : AH), Sh σ → k_X11_bound_36 x2 x3 σ = some (v, σ') → E X l m_X11_bound D 36 [(0, .ref 0), (2, .int x2), (3, .int x3)] [] σ (some (.int v)) σ') (hs : Sh σ) (h : B_X11_bound_36 k_X11_bound_36 x2 x3 σ = some (v, σ')) : W_X11_bound_36 X l D x2 x3 σ (some (.int v)) σ' := by
  unfold B_X11_bound_36 at h
  unfold W_X11_bound_36
  refine ite_i (fun c1 => ?_) (fun c1 => ?_)
  · replace h := of_ifp h c1
    exact ret_i h
  · replace h := of_ifn h c1
    exact e_X11_bound_53 hD hk_X11_bound_36 _ _ _ _ _ _ _ _ hs  h
theorem e_X11_bound_36 {X : Sx} {l : Launch} {D : Nat} (hD : 7 ≤ D) : ∀ (k : Nat) (x2 : Int32) (x3 : Int32) (σ : AH) (v : Int32) (σ' : AH), Sh σ → F_X11_bound_36 k x2 x3 σ = some (v, σ') → E X l m_X11_bound D 36 [(0, .ref 0), (2, .int x2), (3, .int x3)] [] σ (some (.int v)) σ' := by
  intro k
  induction k with
  | zero => intro x2 x3 σ v σ' hs h; cases h
  | succ k ih =>
    intro x2 x3 σ v σ' hs h
    exact w_X11_bound_36 hs  (t_X11_bound_36 hD ih hs  h)
set_option maxRecDepth 100000 in
theorem t_X11_bound_0 {X : Sx} {l : Launch} {D : Nat} {x1 : Int32} {σ : AH} {v : Int32} {σ' : AH} (hD : 7 ≤ D) (hs : Sh σ) (h : F_X11_bound x1 σ = some (v, σ')) : W_X11_bound_0 X l D x1 σ (some (.int v)) σ' := by
  unfold F_X11_bound at h
  unfold W_X11_bound_0
  obtain ⟨v6, σ2, q1, h⟩ := of_bd h
  have hC2 := f_X11_isIn (σ := σ) hs  q1 (X := X) (l := l)
  have hs3 := hC2.1.2.2.2.1 hs
  refine ⟨0, v6, σ2, (Nat.le_trans (by decide) hD), hC2, ?_⟩
  refine ite_i (fun c4 => ?_) (fun c4 => ?_)
  · replace h := of_ifp h c4
    exact ret_i h
  · replace h := of_ifn h c4
    obtain ⟨v12, σ8, q5, h⟩ := of_bd h
    have hC6 := f_X11_knowing (σ := σ2) hs3  q5 (X := X) (l := l)
    have hs7 := hC6.1.2.2.2.1 hs3
    refine ⟨2, v12, σ8, (Nat.le_trans (by decide) hD), hC6, ?_⟩
    obtain ⟨σ14, q8, h⟩ := of_bv h
    have hC9 := f_X1_openQuarter (σ := σ8) hs7  q8 (X := X) (l := l)
    have hs10 := hC9.1.2.2.2.1 hs7
    refine ⟨6, σ14, (Nat.le_trans (by decide) hD), hC9, ?_⟩
    exact e_X11_bound_36 hD  _ _ _ _ _ _ hs10  h
theorem f_X11_bound {X : Sx} {l : Launch} {x1 : Int32} {σ : AH} {v : Int32} {σ' : AH} (hs : Sh σ) (h : F_X11_bound x1 σ = some (v, σ')) : Call X l m_X11_bound 7 [.ref 0, .int x1] σ (some (.int v)) σ' :=
  Call.ofE ok_X11_bound rfl (Nat.le_of_ble_eq_true rfl) (w_X11_bound_0 hs  (t_X11_bound_0 (Nat.le_refl _) hs  h))
def F_X11_judge (x1 : Int32) (x2 : Int32) (σ : AH) : Option (Int32 × AH) := (bd (F_X11_isIn x1 (0 : Int32) (19 : Int32) σ) fun v6 σ2 => (if v6 = 0 then (some ((-1 : Int32), σ2)) else (bd (F_X11_isIn x2 (0 : Int32) (((1 : Int32) <<< (((2 : Int32) * (gI σ2 68 3)) &&& 31)) - (1 : Int32)) σ2) fun v12 σ8 => (if v12 = 0 then (some ((-1 : Int32), σ8)) else (bd (F_X11_knowing (x1 * (13 : Int32)) σ8) fun v18 σ14 => (bv (F_X1_openQuarter x1 v18 (gI σ14 0 12) σ14) fun σ20 => (bv (F_X1_tell x2 σ20) fun σ25 => (bd (F_X1_playRow σ25) fun b34 σ30 => if b34 ∈ siteIds then (bd (F_X1_housedIn b34 σ30) fun v41 σ37 => (bd (F_X1_shellsIn b34 σ37) fun v47 σ43 => (some (((v41 * (10 : Int32)) + v47), σ43)))) else none))))))))
set_option maxRecDepth 100000 in
theorem t_X11_judge_0 {X : Sx} {l : Launch} {D : Nat} {x1 : Int32} {x2 : Int32} {σ : AH} {v : Int32} {σ' : AH} (hD : 7 ≤ D) (hs : Sh σ) (h : F_X11_judge x1 x2 σ = some (v, σ')) : W_X11_judge_0 X l D x1 x2 σ (some (.int v)) σ' := by
  unfold F_X11_judge at h
  unfold W_X11_judge_0
  obtain ⟨v6, σ2, q1, h⟩ := of_bd h
  have hC2 := f_X11_isIn (σ := σ) hs  q1 (X := X) (l := l)
  have hs3 := hC2.1.2.2.2.1 hs
  refine ⟨0, v6, σ2, (Nat.le_trans (by decide) hD), hC2, ?_⟩
  refine ite_i (fun c4 => ?_) (fun c4 => ?_)
  · replace h := of_ifp h c4
    exact ret_i h
  · replace h := of_ifn h c4
    obtain ⟨v12, σ8, q5, h⟩ := of_bd h
    have hC6 := f_X11_isIn (σ := σ2) hs3  q5 (X := X) (l := l)
    have hs7 := hC6.1.2.2.2.1 hs3
    refine ⟨0, v12, σ8, (Nat.le_trans (by decide) hD), hC6, ?_⟩
    refine ite_i (fun c8 => ?_) (fun c8 => ?_)
    · replace h := of_ifp h c8
      exact ret_i h
    · replace h := of_ifn h c8
      obtain ⟨v18, σ14, q9, h⟩ := of_bd h
      have hC10 := f_X11_knowing (σ := σ8) hs7  q9 (X := X) (l := l)
      have hs11 := hC10.1.2.2.2.1 hs7
      refine ⟨2, v18, σ14, (Nat.le_trans (by decide) hD), hC10, ?_⟩
      obtain ⟨σ20, q12, h⟩ := of_bv h
      have hC13 := f_X1_openQuarter (σ := σ14) hs11  q12 (X := X) (l := l)
      have hs14 := hC13.1.2.2.2.1 hs11
      refine ⟨6, σ20, (Nat.le_trans (by decide) hD), hC13, ?_⟩
      obtain ⟨σ25, q15, h⟩ := of_bv h
      have hC16 := f_X1_tell (σ := σ20) hs14  q15 (X := X) (l := l)
      have hs17 := hC16.1.2.2.2.1 hs14
      refine ⟨0, σ25, (Nat.le_trans (by decide) hD), hC16, ?_⟩
      obtain ⟨b34, σ30, q18, h⟩ := of_bd h
      have hC19 := f_X1_playRow (σ := σ25) hs17  q18 (X := X) (l := l)
      have hs20 := hC19.1.2.2.2.1 hs17
      obtain ⟨g21, h⟩ := of_gd h
      refine ⟨6, b34, σ30, (Nat.le_trans (by decide) hD), hC19, g21, ?_⟩
      obtain ⟨v41, σ37, q22, h⟩ := of_bd h
      have hC23 := f_X1_housedIn (σ := σ30) hs20 (by first | assumption | exact st_stock (by assumption) | exact rn_site (by assumption) | decide) q22 (X := X) (l := l)
      have hs24 := hC23.1.2.2.2.1 hs20
      refine ⟨2, v41, σ37, (Nat.le_trans (by decide) hD), hC23, ?_⟩
      obtain ⟨v47, σ43, q25, h⟩ := of_bd h
      have hC26 := f_X1_shellsIn (σ := σ37) hs24 (by first | assumption | exact st_stock (by assumption) | exact rn_site (by assumption) | decide) q25 (X := X) (l := l)
      have hs27 := hC26.1.2.2.2.1 hs24
      refine ⟨2, v47, σ43, (Nat.le_trans (by decide) hD), hC26, ?_⟩
      exact ret_i h
theorem f_X11_judge {X : Sx} {l : Launch} {x1 : Int32} {x2 : Int32} {σ : AH} {v : Int32} {σ' : AH} (hs : Sh σ) (h : F_X11_judge x1 x2 σ = some (v, σ')) : Call X l m_X11_judge 7 [.ref 0, .int x1, .int x2] σ (some (.int v)) σ' :=
  Call.ofE ok_X11_judge rfl (Nat.le_of_ble_eq_true rfl) (w_X11_judge_0 hs  (t_X11_judge_0 (Nat.le_refl _) hs  h))
def F_X11_entry_67 (σ : AH) : Option (Int32 × AH) := (bd (F_X11_answer (-1 : Int32) σ) fun v54 σ50 => (some (v54, σ50)))
def B_X11_entry_211 (k_X11_entry_211 : Int32 → Int32 → AH → Option (Int32 × AH)) (x8 : Int32) (x9 : Int32) (σ : AH) : Option (Int32 × AH) := (if (3 : Int32) ≤ x9 then (bd (F_X11_answer x8 (sI σ 0 13 ((gI σ 0 13) + (1 : Int32)))) fun v107 σ103 => (some (v107, σ103))) else (bv (F_X8_put 13 x8 ((7 : Int32) + x9) (-1 : Int32) σ) fun σ109 => (k_X11_entry_211 x8 (x9 + 1) σ109)))
def F_X11_entry_211 : Nat → Int32 → Int32 → AH → Option (Int32 × AH) := fun k => match k with | 0 => fun _ _ _ => none | k + 1 => B_X11_entry_211 (F_X11_entry_211 k)
def F_X11_entry_93 (x1 : Int32) (x2 : Int32) (x3 : Int32) (x4 : Int32) (x5 : Int32) (x6 : Int32) (x7 : Int32) (σ : AH) : Option (Int32 × AH) := (bd (F_X8_add 13 σ) fun v60 σ56 => (bv (F_X8_put 13 v60 (0 : Int32) x1 σ56) fun σ62 => (bv (F_X8_put 13 v60 (1 : Int32) x2 σ62) fun σ67 => (bv (F_X8_put 13 v60 (2 : Int32) x3 σ67) fun σ72 => (bv (F_X8_put 13 v60 (3 : Int32) x4 σ72) fun σ77 => (bv (F_X8_put 13 v60 (4 : Int32) x5 σ77) fun σ82 => (bv (F_X8_put 13 v60 (5 : Int32) x6 σ82) fun σ87 => (bv (F_X8_put 13 v60 (6 : Int32) x7 σ87) fun σ92 => (F_X11_entry_211 BIG v60 (0 : Int32) σ92)))))))))
def F_X11_entry_86 (σ : AH) : Option (Int32 × AH) := (bd (F_X11_answer (-5 : Int32) σ) fun v101 σ97 => (some (v101, σ97)))
def F_X11_entry (x1 : Int32) (x2 : Int32) (x3 : Int32) (x4 : Int32) (x5 : Int32) (x6 : Int32) (x7 : Int32) (σ : AH) : Option (Int32 × AH) := (bd (F_X11_isIn x1 (0 : Int32) (5 : Int32) σ) fun v6 σ2 => (if v6 = 0 then (F_X11_entry_67 σ2) else (bd (F_X11_isWeek x2 σ2) fun v12 σ8 => (if v12 = 0 then (F_X11_entry_67 σ8) else (bd (F_X11_isIn x3 (1 : Int32) (20 : Int32) σ8) fun v18 σ14 => (if v18 = 0 then (F_X11_entry_67 σ14) else (bd (F_X11_isIn x4 (0 : Int32) (x3 - (1 : Int32)) σ14) fun v24 σ20 => (if v24 = 0 then (F_X11_entry_67 σ20) else (bd (F_X11_isIn x5 (0 : Int32) (9 : Int32) σ20) fun v30 σ26 => (if v30 = 0 then (F_X11_entry_67 σ26) else (bd (F_X11_isIn x6 (0 : Int32) (1 : Int32) σ26) fun v36 σ32 => (if v36 = 0 then (F_X11_entry_67 σ32) else (bd (F_X11_isWeek x7 σ32) fun v42 σ38 => (if v42 = 0 then (F_X11_entry_67 σ38) else (bd (F_X8_isFull 13 σ38) fun v48 σ44 => (if v48 = 0 then (F_X11_entry_93 x1 x2 x3 x4 x5 x6 x7 σ44) else (F_X11_entry_86 σ44)))))))))))))))))
set_option maxRecDepth 100000 in
theorem t_X11_entry_67 {X : Sx} {l : Launch} {D : Nat} {σ : AH} {v : Int32} {σ' : AH} (hD : 6 ≤ D) (hs : Sh σ) (h : F_X11_entry_67 σ = some (v, σ')) : W_X11_entry_67 X l D σ (some (.int v)) σ' := by
  unfold F_X11_entry_67 at h
  unfold W_X11_entry_67
  obtain ⟨v54, σ50, q1, h⟩ := of_bd h
  have hC2 := f_X11_answer (σ := σ) hs  q1 (X := X) (l := l)
  have hs3 := hC2.1.2.2.2.1 hs
  refine ⟨1, v54, σ50, (Nat.le_trans (by decide) hD), hC2, ?_⟩
  exact ret_i h
set_option maxRecDepth 100000 in
theorem t_X11_entry_211 {X : Sx} {l : Launch} {D : Nat} {k_X11_entry_211 : Int32 → Int32 → AH → Option (Int32 × AH)} {x8 : Int32} {x9 : Int32} {σ : AH} {v : Int32} {σ' : AH} (hD : 6 ≤ D) (hk_X11_entry_211 : ∀ (x8 : Int32) (x9 : Int32) (σ : AH) (v : Int32) (σ' : AH), Sh σ → k_X11_entry_211 x8 x9 σ = some (v, σ') → E X l m_X11_entry D 211 [(0, .ref 0), (8, .int x8), (9, .int x9)] [] σ (some (.int v)) σ') (hs : Sh σ) (h : B_X11_entry_211 k_X11_entry_211 x8 x9 σ = some (v, σ')) : W_X11_entry_211 X l D x8 x9 σ (some (.int v)) σ' := by
  unfold B_X11_entry_211 at h
  unfold W_X11_entry_211
  refine ite_i (fun c1 => ?_) (fun c1 => ?_)
  · replace h := of_ifp h c1
    obtain ⟨v107, σ103, q2, h⟩ := of_bd h
    have hC3 := f_X11_answer (σ := (sI σ 0 13 ((gI σ 0 13) + (1 : Int32)))) hs  q2 (X := X) (l := l)
    have hs4 := hC3.1.2.2.2.1 hs
    refine ⟨1, v107, σ103, (Nat.le_trans (by decide) hD), hC3, ?_⟩
    exact ret_i h
  · replace h := of_ifn h c1
    obtain ⟨σ109, q5, h⟩ := of_bv h
    have hC6 := f_X8_put  q5 (X := X) (l := l)
    have hs7 := hC6.1.2.2.2.1 hs
    refine ⟨0, σ109, (Nat.le_trans (by decide) hD), hC6, ?_⟩
    exact hk_X11_entry_211 _ _ _ _ _ hs7  h
theorem e_X11_entry_211 {X : Sx} {l : Launch} {D : Nat} (hD : 6 ≤ D) : ∀ (k : Nat) (x8 : Int32) (x9 : Int32) (σ : AH) (v : Int32) (σ' : AH), Sh σ → F_X11_entry_211 k x8 x9 σ = some (v, σ') → E X l m_X11_entry D 211 [(0, .ref 0), (8, .int x8), (9, .int x9)] [] σ (some (.int v)) σ' := by
  intro k
  induction k with
  | zero => intro x8 x9 σ v σ' hs h; cases h
  | succ k ih =>
    intro x8 x9 σ v σ' hs h
    exact w_X11_entry_211 hs  (t_X11_entry_211 hD ih hs  h)
set_option maxRecDepth 100000 in
theorem t_X11_entry_93 {X : Sx} {l : Launch} {D : Nat} {x1 : Int32} {x2 : Int32} {x3 : Int32} {x4 : Int32} {x5 : Int32} {x6 : Int32} {x7 : Int32} {σ : AH} {v : Int32} {σ' : AH} (hD : 6 ≤ D) (hs : Sh σ) (h : F_X11_entry_93 x1 x2 x3 x4 x5 x6 x7 σ = some (v, σ')) : W_X11_entry_93 X l D x1 x2 x3 x4 x5 x6 x7 σ (some (.int v)) σ' := by
  unfold F_X11_entry_93 at h
  unfold W_X11_entry_93
  obtain ⟨v60, σ56, q1, h⟩ := of_bd h
  have hC2 := f_X8_add  q1 (X := X) (l := l)
  have hs3 := hC2.1.2.2.2.1 hs
  refine ⟨5, v60, σ56, (Nat.le_trans (by decide) hD), hC2, ?_⟩
  obtain ⟨σ62, q4, h⟩ := of_bv h
  have hC5 := f_X8_put  q4 (X := X) (l := l)
  have hs6 := hC5.1.2.2.2.1 hs3
  refine ⟨0, σ62, (Nat.le_trans (by decide) hD), hC5, ?_⟩
  obtain ⟨σ67, q7, h⟩ := of_bv h
  have hC8 := f_X8_put  q7 (X := X) (l := l)
  have hs9 := hC8.1.2.2.2.1 hs6
  refine ⟨0, σ67, (Nat.le_trans (by decide) hD), hC8, ?_⟩
  obtain ⟨σ72, q10, h⟩ := of_bv h
  have hC11 := f_X8_put  q10 (X := X) (l := l)
  have hs12 := hC11.1.2.2.2.1 hs9
  refine ⟨0, σ72, (Nat.le_trans (by decide) hD), hC11, ?_⟩
  obtain ⟨σ77, q13, h⟩ := of_bv h
  have hC14 := f_X8_put  q13 (X := X) (l := l)
  have hs15 := hC14.1.2.2.2.1 hs12
  refine ⟨0, σ77, (Nat.le_trans (by decide) hD), hC14, ?_⟩
  obtain ⟨σ82, q16, h⟩ := of_bv h
  have hC17 := f_X8_put  q16 (X := X) (l := l)
  have hs18 := hC17.1.2.2.2.1 hs15
  refine ⟨0, σ82, (Nat.le_trans (by decide) hD), hC17, ?_⟩
  obtain ⟨σ87, q19, h⟩ := of_bv h
  have hC20 := f_X8_put  q19 (X := X) (l := l)
  have hs21 := hC20.1.2.2.2.1 hs18
  refine ⟨0, σ87, (Nat.le_trans (by decide) hD), hC20, ?_⟩
  obtain ⟨σ92, q22, h⟩ := of_bv h
  have hC23 := f_X8_put  q22 (X := X) (l := l)
  have hs24 := hC23.1.2.2.2.1 hs21
  refine ⟨0, σ92, (Nat.le_trans (by decide) hD), hC23, ?_⟩
  exact e_X11_entry_211 hD  _ _ _ _ _ _ hs24  h
set_option maxRecDepth 100000 in
theorem t_X11_entry_86 {X : Sx} {l : Launch} {D : Nat} {σ : AH} {v : Int32} {σ' : AH} (hD : 6 ≤ D) (hs : Sh σ) (h : F_X11_entry_86 σ = some (v, σ')) : W_X11_entry_86 X l D σ (some (.int v)) σ' := by
  unfold F_X11_entry_86 at h
  unfold W_X11_entry_86
  obtain ⟨v101, σ97, q1, h⟩ := of_bd h
  have hC2 := f_X11_answer (σ := σ) hs  q1 (X := X) (l := l)
  have hs3 := hC2.1.2.2.2.1 hs
  refine ⟨1, v101, σ97, (Nat.le_trans (by decide) hD), hC2, ?_⟩
  exact ret_i h
set_option maxRecDepth 100000 in
theorem t_X11_entry_0 {X : Sx} {l : Launch} {D : Nat} {x1 : Int32} {x2 : Int32} {x3 : Int32} {x4 : Int32} {x5 : Int32} {x6 : Int32} {x7 : Int32} {σ : AH} {v : Int32} {σ' : AH} (hD : 6 ≤ D) (hs : Sh σ) (h : F_X11_entry x1 x2 x3 x4 x5 x6 x7 σ = some (v, σ')) : W_X11_entry_0 X l D x1 x2 x3 x4 x5 x6 x7 σ (some (.int v)) σ' := by
  unfold F_X11_entry at h
  unfold W_X11_entry_0
  obtain ⟨v6, σ2, q1, h⟩ := of_bd h
  have hC2 := f_X11_isIn (σ := σ) hs  q1 (X := X) (l := l)
  have hs3 := hC2.1.2.2.2.1 hs
  refine ⟨0, v6, σ2, (Nat.le_trans (by decide) hD), hC2, ?_⟩
  refine ite_i (fun c4 => ?_) (fun c4 => ?_)
  · replace h := of_ifp h c4
    exact t_X11_entry_67 hD  hs3  h
  · replace h := of_ifn h c4
    obtain ⟨v12, σ8, q5, h⟩ := of_bd h
    have hC6 := f_X11_isWeek (σ := σ2) hs3  q5 (X := X) (l := l)
    have hs7 := hC6.1.2.2.2.1 hs3
    refine ⟨1, v12, σ8, (Nat.le_trans (by decide) hD), hC6, ?_⟩
    refine ite_i (fun c8 => ?_) (fun c8 => ?_)
    · replace h := of_ifp h c8
      exact t_X11_entry_67 hD  hs7  h
    · replace h := of_ifn h c8
      obtain ⟨v18, σ14, q9, h⟩ := of_bd h
      have hC10 := f_X11_isIn (σ := σ8) hs7  q9 (X := X) (l := l)
      have hs11 := hC10.1.2.2.2.1 hs7
      refine ⟨0, v18, σ14, (Nat.le_trans (by decide) hD), hC10, ?_⟩
      refine ite_i (fun c12 => ?_) (fun c12 => ?_)
      · replace h := of_ifp h c12
        exact t_X11_entry_67 hD  hs11  h
      · replace h := of_ifn h c12
        obtain ⟨v24, σ20, q13, h⟩ := of_bd h
        have hC14 := f_X11_isIn (σ := σ14) hs11  q13 (X := X) (l := l)
        have hs15 := hC14.1.2.2.2.1 hs11
        refine ⟨0, v24, σ20, (Nat.le_trans (by decide) hD), hC14, ?_⟩
        refine ite_i (fun c16 => ?_) (fun c16 => ?_)
        · replace h := of_ifp h c16
          exact t_X11_entry_67 hD  hs15  h
        · replace h := of_ifn h c16
          obtain ⟨v30, σ26, q17, h⟩ := of_bd h
          have hC18 := f_X11_isIn (σ := σ20) hs15  q17 (X := X) (l := l)
          have hs19 := hC18.1.2.2.2.1 hs15
          refine ⟨0, v30, σ26, (Nat.le_trans (by decide) hD), hC18, ?_⟩
          refine ite_i (fun c20 => ?_) (fun c20 => ?_)
          · replace h := of_ifp h c20
            exact t_X11_entry_67 hD  hs19  h
          · replace h := of_ifn h c20
            obtain ⟨v36, σ32, q21, h⟩ := of_bd h
            have hC22 := f_X11_isIn (σ := σ26) hs19  q21 (X := X) (l := l)
            have hs23 := hC22.1.2.2.2.1 hs19
            refine ⟨0, v36, σ32, (Nat.le_trans (by decide) hD), hC22, ?_⟩
            refine ite_i (fun c24 => ?_) (fun c24 => ?_)
            · replace h := of_ifp h c24
              exact t_X11_entry_67 hD  hs23  h
            · replace h := of_ifn h c24
              obtain ⟨v42, σ38, q25, h⟩ := of_bd h
              have hC26 := f_X11_isWeek (σ := σ32) hs23  q25 (X := X) (l := l)
              have hs27 := hC26.1.2.2.2.1 hs23
              refine ⟨1, v42, σ38, (Nat.le_trans (by decide) hD), hC26, ?_⟩
              refine ite_i (fun c28 => ?_) (fun c28 => ?_)
              · replace h := of_ifp h c28
                exact t_X11_entry_67 hD  hs27  h
              · replace h := of_ifn h c28
                obtain ⟨v48, σ44, q29, h⟩ := of_bd h
                have hC30 := f_X8_isFull  q29 (X := X) (l := l)
                have hs31 := hC30.1.2.2.2.1 hs27
                refine ⟨0, v48, σ44, (Nat.le_trans (by decide) hD), hC30, ?_⟩
                refine ite_i (fun c32 => ?_) (fun c32 => ?_)
                · replace h := of_ifp h c32
                  exact t_X11_entry_93 hD  hs31  h
                · replace h := of_ifn h c32
                  exact t_X11_entry_86 hD  hs31  h
theorem f_X11_entry {X : Sx} {l : Launch} {x1 : Int32} {x2 : Int32} {x3 : Int32} {x4 : Int32} {x5 : Int32} {x6 : Int32} {x7 : Int32} {σ : AH} {v : Int32} {σ' : AH} (hs : Sh σ) (h : F_X11_entry x1 x2 x3 x4 x5 x6 x7 σ = some (v, σ')) : Call X l m_X11_entry 6 [.ref 0, .int x1, .int x2, .int x3, .int x4, .int x5, .int x6, .int x7] σ (some (.int v)) σ' :=
  Call.ofE ok_X11_entry rfl (Nat.le_of_ble_eq_true rfl) (w_X11_entry_0 hs  (t_X11_entry_0 (Nat.le_refl _) hs  h))
def F_X11_isEntry (x1 : Int32) (σ : AH) : Option (Int32 × AH) := (bd (F_X8_rows 13 σ) fun v6 σ2 => (bd (F_X11_isIn x1 (0 : Int32) (v6 - (1 : Int32)) σ2) fun v12 σ8 => (if v12 = 0 ∨ v12 = 1 then some (v12, σ8) else none)))
set_option maxRecDepth 100000 in
theorem t_X11_isEntry_0 {X : Sx} {l : Launch} {D : Nat} {x1 : Int32} {σ : AH} {v : Int32} {σ' : AH} (hD : 1 ≤ D) (hs : Sh σ) (h : F_X11_isEntry x1 σ = some (v, σ')) : W_X11_isEntry_0 X l D x1 σ (some (.int v)) σ' := by
  unfold F_X11_isEntry at h
  unfold W_X11_isEntry_0
  obtain ⟨v6, σ2, q1, h⟩ := of_bd h
  have hC2 := f_X8_rows  q1 (X := X) (l := l)
  have hs3 := hC2.1.2.2.2.1 hs
  refine ⟨0, v6, σ2, (Nat.le_trans (by decide) hD), hC2, ?_⟩
  obtain ⟨v12, σ8, q4, h⟩ := of_bd h
  have hC5 := f_X11_isIn (σ := σ2) hs3  q4 (X := X) (l := l)
  have hs6 := hC5.1.2.2.2.1 hs3
  refine ⟨0, v12, σ8, (Nat.le_trans (by decide) hD), hC5, ?_⟩
  exact ⟨(of_gd h).1, ret_i (of_gd h).2⟩
theorem f_X11_isEntry {X : Sx} {l : Launch} {x1 : Int32} {σ : AH} {v : Int32} {σ' : AH} (hs : Sh σ) (h : F_X11_isEntry x1 σ = some (v, σ')) : Call X l m_X11_isEntry 1 [.ref 0, .int x1] σ (some (.int v)) σ' :=
  Call.ofE ok_X11_isEntry rfl (Nat.le_of_ble_eq_true rfl) (w_X11_isEntry_0 hs  (t_X11_isEntry_0 (Nat.le_refl _) hs  h))
def F_X11_mark_20 (σ : AH) : Option (Int32 × AH) := (bd (F_X11_answer (-1 : Int32) σ) fun v53 σ49 => (some (v53, σ49)))
def F_X11_mark (x1 : Int32) (x2 : Int32) (x3 : Int32) (σ : AH) : Option (Int32 × AH) := (bd (F_X11_isIn x2 (0 : Int32) (2 : Int32) σ) fun v6 σ2 => (if v6 = 0 then (F_X11_mark_20 σ2) else (bd (F_X11_isIn x3 (0 : Int32) (9999 : Int32) σ2) fun v12 σ8 => (if v12 = 0 then (F_X11_mark_20 σ8) else (bd (F_X11_isEntry x1 σ8) fun v18 σ14 => (if v18 = 0 then (bd (F_X11_answer (-2 : Int32) σ14) fun v47 σ43 => (some (v47, σ43))) else (bd (F_X8_at 13 x1 ((7 : Int32) + x2) σ14) fun v24 σ20 => (if v24 = (-1 : Int32) then (bv (F_X8_put 13 x1 ((7 : Int32) + x2) x3 σ20) fun σ26 => (bd (F_X11_answer (0 : Int32) (sI σ26 0 13 ((gI σ26 0 13) + (1 : Int32)))) fun v35 σ31 => (some (v35, σ31)))) else (bd (F_X11_answer (-4 : Int32) σ20) fun v41 σ37 => (some (v41, σ37)))))))))))
set_option maxRecDepth 100000 in
theorem t_X11_mark_20 {X : Sx} {l : Launch} {D : Nat} {σ : AH} {v : Int32} {σ' : AH} (hD : 2 ≤ D) (hs : Sh σ) (h : F_X11_mark_20 σ = some (v, σ')) : W_X11_mark_20 X l D σ (some (.int v)) σ' := by
  unfold F_X11_mark_20 at h
  unfold W_X11_mark_20
  obtain ⟨v53, σ49, q1, h⟩ := of_bd h
  have hC2 := f_X11_answer (σ := σ) hs  q1 (X := X) (l := l)
  have hs3 := hC2.1.2.2.2.1 hs
  refine ⟨1, v53, σ49, (Nat.le_trans (by decide) hD), hC2, ?_⟩
  exact ret_i h
set_option maxRecDepth 100000 in
theorem t_X11_mark_0 {X : Sx} {l : Launch} {D : Nat} {x1 : Int32} {x2 : Int32} {x3 : Int32} {σ : AH} {v : Int32} {σ' : AH} (hD : 2 ≤ D) (hs : Sh σ) (h : F_X11_mark x1 x2 x3 σ = some (v, σ')) : W_X11_mark_0 X l D x1 x2 x3 σ (some (.int v)) σ' := by
  unfold F_X11_mark at h
  unfold W_X11_mark_0
  obtain ⟨v6, σ2, q1, h⟩ := of_bd h
  have hC2 := f_X11_isIn (σ := σ) hs  q1 (X := X) (l := l)
  have hs3 := hC2.1.2.2.2.1 hs
  refine ⟨0, v6, σ2, (Nat.le_trans (by decide) hD), hC2, ?_⟩
  refine ite_i (fun c4 => ?_) (fun c4 => ?_)
  · replace h := of_ifp h c4
    exact t_X11_mark_20 hD  hs3  h
  · replace h := of_ifn h c4
    obtain ⟨v12, σ8, q5, h⟩ := of_bd h
    have hC6 := f_X11_isIn (σ := σ2) hs3  q5 (X := X) (l := l)
    have hs7 := hC6.1.2.2.2.1 hs3
    refine ⟨0, v12, σ8, (Nat.le_trans (by decide) hD), hC6, ?_⟩
    refine ite_i (fun c8 => ?_) (fun c8 => ?_)
    · replace h := of_ifp h c8
      exact t_X11_mark_20 hD  hs7  h
    · replace h := of_ifn h c8
      obtain ⟨v18, σ14, q9, h⟩ := of_bd h
      have hC10 := f_X11_isEntry (σ := σ8) hs7  q9 (X := X) (l := l)
      have hs11 := hC10.1.2.2.2.1 hs7
      refine ⟨1, v18, σ14, (Nat.le_trans (by decide) hD), hC10, ?_⟩
      refine ite_i (fun c12 => ?_) (fun c12 => ?_)
      · replace h := of_ifp h c12
        obtain ⟨v47, σ43, q13, h⟩ := of_bd h
        have hC14 := f_X11_answer (σ := σ14) hs11  q13 (X := X) (l := l)
        have hs15 := hC14.1.2.2.2.1 hs11
        refine ⟨1, v47, σ43, (Nat.le_trans (by decide) hD), hC14, ?_⟩
        exact ret_i h
      · replace h := of_ifn h c12
        obtain ⟨v24, σ20, q16, h⟩ := of_bd h
        have hC17 := f_X8_at  q16 (X := X) (l := l)
        have hs18 := hC17.1.2.2.2.1 hs11
        refine ⟨0, v24, σ20, (Nat.le_trans (by decide) hD), hC17, ?_⟩
        refine ite_i (fun c19 => ?_) (fun c19 => ?_)
        · replace h := of_ifp h c19
          obtain ⟨σ26, q20, h⟩ := of_bv h
          have hC21 := f_X8_put  q20 (X := X) (l := l)
          have hs22 := hC21.1.2.2.2.1 hs18
          refine ⟨0, σ26, (Nat.le_trans (by decide) hD), hC21, ?_⟩
          obtain ⟨v35, σ31, q23, h⟩ := of_bd h
          have hC24 := f_X11_answer (σ := (sI σ26 0 13 ((gI σ26 0 13) + (1 : Int32)))) hs22  q23 (X := X) (l := l)
          have hs25 := hC24.1.2.2.2.1 hs22
          refine ⟨1, v35, σ31, (Nat.le_trans (by decide) hD), hC24, ?_⟩
          exact ret_i h
        · replace h := of_ifn h c19
          obtain ⟨v41, σ37, q26, h⟩ := of_bd h
          have hC27 := f_X11_answer (σ := σ20) hs18  q26 (X := X) (l := l)
          have hs28 := hC27.1.2.2.2.1 hs18
          refine ⟨1, v41, σ37, (Nat.le_trans (by decide) hD), hC27, ?_⟩
          exact ret_i h
theorem f_X11_mark {X : Sx} {l : Launch} {x1 : Int32} {x2 : Int32} {x3 : Int32} {σ : AH} {v : Int32} {σ' : AH} (hs : Sh σ) (h : F_X11_mark x1 x2 x3 σ = some (v, σ')) : Call X l m_X11_mark 2 [.ref 0, .int x1, .int x2, .int x3] σ (some (.int v)) σ' :=
  Call.ofE ok_X11_mark rfl (Nat.le_of_ble_eq_true rfl) (w_X11_mark_0 hs  (t_X11_mark_0 (Nat.le_refl _) hs  h))
def F_X11_isKnownEntry (x1 : Int32) (x2 : Int32) (σ : AH) : Option (Int32 × AH) := (bd (F_X11_isEntry x1 σ) fun v6 σ2 => (if v6 = 0 then (some ((0 : Int32), σ2)) else (bd (F_X8_at 13 x1 (6 : Int32) σ2) fun v12 σ8 => (if x2 < v12 then (some ((0 : Int32), σ8)) else (some ((1 : Int32), σ8))))))
set_option maxRecDepth 100000 in
theorem t_X11_isKnownEntry_0 {X : Sx} {l : Launch} {D : Nat} {x1 : Int32} {x2 : Int32} {σ : AH} {v : Int32} {σ' : AH} (hD : 2 ≤ D) (hs : Sh σ) (h : F_X11_isKnownEntry x1 x2 σ = some (v, σ')) : W_X11_isKnownEntry_0 X l D x1 x2 σ (some (.int v)) σ' := by
  unfold F_X11_isKnownEntry at h
  unfold W_X11_isKnownEntry_0
  obtain ⟨v6, σ2, q1, h⟩ := of_bd h
  have hC2 := f_X11_isEntry (σ := σ) hs  q1 (X := X) (l := l)
  have hs3 := hC2.1.2.2.2.1 hs
  refine ⟨1, v6, σ2, (Nat.le_trans (by decide) hD), hC2, ?_⟩
  refine ite_i (fun c4 => ?_) (fun c4 => ?_)
  · replace h := of_ifp h c4
    exact ret_i h
  · replace h := of_ifn h c4
    obtain ⟨v12, σ8, q5, h⟩ := of_bd h
    have hC6 := f_X8_at  q5 (X := X) (l := l)
    have hs7 := hC6.1.2.2.2.1 hs3
    refine ⟨0, v12, σ8, (Nat.le_trans (by decide) hD), hC6, ?_⟩
    refine ite_i (fun c8 => ?_) (fun c8 => ?_)
    · replace h := of_ifp h c8
      exact ret_i h
    · replace h := of_ifn h c8
      exact ret_i h
theorem f_X11_isKnownEntry {X : Sx} {l : Launch} {x1 : Int32} {x2 : Int32} {σ : AH} {v : Int32} {σ' : AH} (hs : Sh σ) (h : F_X11_isKnownEntry x1 x2 σ = some (v, σ')) : Call X l m_X11_isKnownEntry 2 [.ref 0, .int x1, .int x2] σ (some (.int v)) σ' :=
  Call.ofE ok_X11_isKnownEntry rfl (Nat.le_of_ble_eq_true rfl) (w_X11_isKnownEntry_0 hs  (t_X11_isKnownEntry_0 (Nat.le_refl _) hs  h))
def F_X11_family (x1 : Int32) (x2 : Int32) (σ : AH) : Option (Int32 × AH) := (bd (F_X11_isWeek x2 σ) fun v6 σ2 => (if v6 = 0 then (some ((-1 : Int32), σ2)) else (bd (F_X11_isKnownEntry x1 x2 σ2) fun v12 σ8 => (if v12 = 0 then (some ((-1 : Int32), σ8)) else (bv (F_X4_join x2 (gI σ8 0 13) σ8) fun σ14 => (if inB x1 60 = true then (some ((gI σ14 114 x1.toNatClampNeg), σ14)) else none))))))
set_option maxRecDepth 100000 in
theorem t_X11_family_0 {X : Sx} {l : Launch} {D : Nat} {x1 : Int32} {x2 : Int32} {σ : AH} {v : Int32} {σ' : AH} (hD : 3 ≤ D) (hs : Sh σ) (h : F_X11_family x1 x2 σ = some (v, σ')) : W_X11_family_0 X l D x1 x2 σ (some (.int v)) σ' := by
  unfold F_X11_family at h
  unfold W_X11_family_0
  obtain ⟨v6, σ2, q1, h⟩ := of_bd h
  have hC2 := f_X11_isWeek (σ := σ) hs  q1 (X := X) (l := l)
  have hs3 := hC2.1.2.2.2.1 hs
  refine ⟨1, v6, σ2, (Nat.le_trans (by decide) hD), hC2, ?_⟩
  refine ite_i (fun c4 => ?_) (fun c4 => ?_)
  · replace h := of_ifp h c4
    exact ret_i h
  · replace h := of_ifn h c4
    obtain ⟨v12, σ8, q5, h⟩ := of_bd h
    have hC6 := f_X11_isKnownEntry (σ := σ2) hs3  q5 (X := X) (l := l)
    have hs7 := hC6.1.2.2.2.1 hs3
    refine ⟨2, v12, σ8, (Nat.le_trans (by decide) hD), hC6, ?_⟩
    refine ite_i (fun c8 => ?_) (fun c8 => ?_)
    · replace h := of_ifp h c8
      exact ret_i h
    · replace h := of_ifn h c8
      obtain ⟨σ14, q9, h⟩ := of_bv h
      have hC10 := f_X4_join (σ := σ8) hs7  q9 (X := X) (l := l)
      have hs11 := hC10.1.2.2.2.1 hs7
      refine ⟨2, σ14, (Nat.le_trans (by decide) hD), hC10, ?_⟩
      obtain ⟨g12, h⟩ := of_gd h
      refine ⟨(inB_mp g12), ?_⟩
      exact ret_i h
theorem f_X11_family {X : Sx} {l : Launch} {x1 : Int32} {x2 : Int32} {σ : AH} {v : Int32} {σ' : AH} (hs : Sh σ) (h : F_X11_family x1 x2 σ = some (v, σ')) : Call X l m_X11_family 3 [.ref 0, .int x1, .int x2] σ (some (.int v)) σ' :=
  Call.ofE ok_X11_family rfl (Nat.le_of_ble_eq_true rfl) (w_X11_family_0 hs  (t_X11_family_0 (Nat.le_refl _) hs  h))
def F_X11_points (x1 : Int32) (x2 : Int32) (x3 : Int32) (σ : AH) : Option (Int32 × AH) := (bd (F_X11_isWeek x2 σ) fun v6 σ2 => (if v6 = 0 then (some ((-2000000000 : Int32), σ2)) else (bd (F_X11_isWeek x3 σ2) fun v12 σ8 => (if v12 = 0 then (some ((-2000000000 : Int32), σ8)) else (bd (F_X11_isKnownEntry x1 x3 σ8) fun v18 σ14 => (if v18 = 0 then (some ((-2000000000 : Int32), σ14)) else (bv (F_X3_settle x2 x3 σ14) fun σ20 => (bd (F_X4_weightOf x1 x2 σ20) fun v29 σ25 => (some (((lmax (-1000000000 : Int64) (lmin (1000000000 : Int64) v29))).toInt32, σ25))))))))))
set_option maxRecDepth 100000 in
theorem t_X11_points_0 {X : Sx} {l : Launch} {D : Nat} {x1 : Int32} {x2 : Int32} {x3 : Int32} {σ : AH} {v : Int32} {σ' : AH} (hD : 4 ≤ D) (hs : Sh σ) (h : F_X11_points x1 x2 x3 σ = some (v, σ')) : W_X11_points_0 X l D x1 x2 x3 σ (some (.int v)) σ' := by
  unfold F_X11_points at h
  unfold W_X11_points_0
  obtain ⟨v6, σ2, q1, h⟩ := of_bd h
  have hC2 := f_X11_isWeek (σ := σ) hs  q1 (X := X) (l := l)
  have hs3 := hC2.1.2.2.2.1 hs
  refine ⟨1, v6, σ2, (Nat.le_trans (by decide) hD), hC2, ?_⟩
  refine ite_i (fun c4 => ?_) (fun c4 => ?_)
  · replace h := of_ifp h c4
    exact ret_i h
  · replace h := of_ifn h c4
    obtain ⟨v12, σ8, q5, h⟩ := of_bd h
    have hC6 := f_X11_isWeek (σ := σ2) hs3  q5 (X := X) (l := l)
    have hs7 := hC6.1.2.2.2.1 hs3
    refine ⟨1, v12, σ8, (Nat.le_trans (by decide) hD), hC6, ?_⟩
    refine ite_i (fun c8 => ?_) (fun c8 => ?_)
    · replace h := of_ifp h c8
      exact ret_i h
    · replace h := of_ifn h c8
      obtain ⟨v18, σ14, q9, h⟩ := of_bd h
      have hC10 := f_X11_isKnownEntry (σ := σ8) hs7  q9 (X := X) (l := l)
      have hs11 := hC10.1.2.2.2.1 hs7
      refine ⟨2, v18, σ14, (Nat.le_trans (by decide) hD), hC10, ?_⟩
      refine ite_i (fun c12 => ?_) (fun c12 => ?_)
      · replace h := of_ifp h c12
        exact ret_i h
      · replace h := of_ifn h c12
        obtain ⟨σ20, q13, h⟩ := of_bv h
        have hC14 := f_X3_settle (σ := σ14) hs11  q13 (X := X) (l := l)
        have hs15 := hC14.1.2.2.2.1 hs11
        refine ⟨2, σ20, (Nat.le_trans (by decide) hD), hC14, ?_⟩
        obtain ⟨v29, σ25, q16, h⟩ := of_bd h
        have hC17 := f_X4_weightOf (σ := σ20) hs15  q16 (X := X) (l := l)
        have hs18 := hC17.1.2.2.2.1 hs15
        refine ⟨3, v29, σ25, (Nat.le_trans (by decide) hD), hC17, ?_⟩
        refine ⟨Nat.le_trans (by decide) hD, ?_⟩
        refine ⟨Nat.le_trans (by decide) hD, ?_⟩
        exact ret_i h
theorem f_X11_points {X : Sx} {l : Launch} {x1 : Int32} {x2 : Int32} {x3 : Int32} {σ : AH} {v : Int32} {σ' : AH} (hs : Sh σ) (h : F_X11_points x1 x2 x3 σ = some (v, σ')) : Call X l m_X11_points 4 [.ref 0, .int x1, .int x2, .int x3] σ (some (.int v)) σ' :=
  Call.ofE ok_X11_points rfl (Nat.le_of_ble_eq_true rfl) (w_X11_points_0 hs  (t_X11_points_0 (Nat.le_refl _) hs  h))
def F_X11_order (x1 : Int32) (x2 : Int32) (x3 : Int32) (x4 : Int32) (σ : AH) : Option (Int32 × AH) := (bd (F_X11_isIn x1 (0 : Int32) (5 : Int32) σ) fun v6 σ2 => (if v6 = 0 then (some ((-1 : Int32), σ2)) else (bd (F_X11_isWeek x2 σ2) fun v12 σ8 => (if v12 = 0 then (some ((-1 : Int32), σ8)) else (bd (F_X11_isWeek x3 σ8) fun v18 σ14 => (if v18 = 0 then (some ((-1 : Int32), σ14)) else (bv (F_X4_sort x1 x2 x3 σ14) fun σ20 => (if x4 = (-1 : Int32) then (if inB x1 6 = true then (some ((gI σ20 116 x1.toNatClampNeg), σ20)) else none) else (if inB x1 6 = true then (bd (F_X11_isIn x4 (0 : Int32) ((gI σ20 116 x1.toNatClampNeg) - (1 : Int32)) σ20) fun v30 σ26 => (if v30 = 0 then (some ((-1 : Int32), σ26)) else (if inB ((x1 * (60 : Int32)) + x4) 360 = true then (some ((gI σ26 115 ((x1 * (60 : Int32)) + x4).toNatClampNeg), σ26)) else none))) else none)))))))))
set_option maxRecDepth 100000 in
theorem t_X11_order_0 {X : Sx} {l : Launch} {D : Nat} {x1 : Int32} {x2 : Int32} {x3 : Int32} {x4 : Int32} {σ : AH} {v : Int32} {σ' : AH} (hD : 5 ≤ D) (hs : Sh σ) (h : F_X11_order x1 x2 x3 x4 σ = some (v, σ')) : W_X11_order_0 X l D x1 x2 x3 x4 σ (some (.int v)) σ' := by
  unfold F_X11_order at h
  unfold W_X11_order_0
  obtain ⟨v6, σ2, q1, h⟩ := of_bd h
  have hC2 := f_X11_isIn (σ := σ) hs  q1 (X := X) (l := l)
  have hs3 := hC2.1.2.2.2.1 hs
  refine ⟨0, v6, σ2, (Nat.le_trans (by decide) hD), hC2, ?_⟩
  refine ite_i (fun c4 => ?_) (fun c4 => ?_)
  · replace h := of_ifp h c4
    exact ret_i h
  · replace h := of_ifn h c4
    obtain ⟨v12, σ8, q5, h⟩ := of_bd h
    have hC6 := f_X11_isWeek (σ := σ2) hs3  q5 (X := X) (l := l)
    have hs7 := hC6.1.2.2.2.1 hs3
    refine ⟨1, v12, σ8, (Nat.le_trans (by decide) hD), hC6, ?_⟩
    refine ite_i (fun c8 => ?_) (fun c8 => ?_)
    · replace h := of_ifp h c8
      exact ret_i h
    · replace h := of_ifn h c8
      obtain ⟨v18, σ14, q9, h⟩ := of_bd h
      have hC10 := f_X11_isWeek (σ := σ8) hs7  q9 (X := X) (l := l)
      have hs11 := hC10.1.2.2.2.1 hs7
      refine ⟨1, v18, σ14, (Nat.le_trans (by decide) hD), hC10, ?_⟩
      refine ite_i (fun c12 => ?_) (fun c12 => ?_)
      · replace h := of_ifp h c12
        exact ret_i h
      · replace h := of_ifn h c12
        obtain ⟨σ20, q13, h⟩ := of_bv h
        have hC14 := f_X4_sort (σ := σ14) hs11  q13 (X := X) (l := l)
        have hs15 := hC14.1.2.2.2.1 hs11
        refine ⟨4, σ20, (Nat.le_trans (by decide) hD), hC14, ?_⟩
        refine ite_i (fun c16 => ?_) (fun c16 => ?_)
        · replace h := of_ifp h c16
          obtain ⟨g17, h⟩ := of_gd h
          refine ⟨(inB_mp g17), ?_⟩
          exact ret_i h
        · replace h := of_ifn h c16
          obtain ⟨g18, h⟩ := of_gd h
          refine ⟨(inB_mp g18), ?_⟩
          obtain ⟨v30, σ26, q19, h⟩ := of_bd h
          have hC20 := f_X11_isIn (σ := σ20) hs15  q19 (X := X) (l := l)
          have hs21 := hC20.1.2.2.2.1 hs15
          refine ⟨0, v30, σ26, (Nat.le_trans (by decide) hD), hC20, ?_⟩
          refine ite_i (fun c22 => ?_) (fun c22 => ?_)
          · replace h := of_ifp h c22
            exact ret_i h
          · replace h := of_ifn h c22
            obtain ⟨g23, h⟩ := of_gd h
            refine ⟨(inB_mp g23), ?_⟩
            exact ret_i h
theorem f_X11_order {X : Sx} {l : Launch} {x1 : Int32} {x2 : Int32} {x3 : Int32} {x4 : Int32} {σ : AH} {v : Int32} {σ' : AH} (hs : Sh σ) (h : F_X11_order x1 x2 x3 x4 σ = some (v, σ')) : Call X l m_X11_order 5 [.ref 0, .int x1, .int x2, .int x3, .int x4] σ (some (.int v)) σ' :=
  Call.ofE ok_X11_order rfl (Nat.le_of_ble_eq_true rfl) (w_X11_order_0 hs  (t_X11_order_0 (Nat.le_refl _) hs  h))
def F_X11_beside (x1 : Int32) (x2 : Int32) (x3 : Int32) (x4 : Int32) (σ : AH) : Option (Int32 × AH) := (bd (F_X11_isIn x1 (0 : Int32) (5 : Int32) σ) fun v6 σ2 => (if v6 = 0 then (some ((-1 : Int32), σ2)) else (bd (F_X11_isWeek x2 σ2) fun v12 σ8 => (if v12 = 0 then (some ((-1 : Int32), σ8)) else (bd (F_X11_isWeek x3 σ8) fun v18 σ14 => (if v18 = 0 then (some ((-1 : Int32), σ14)) else (bd (F_X11_isWeek x4 σ14) fun v24 σ20 => (if v24 = 0 then (some ((-1 : Int32), σ20)) else (bd (F_X4_turned x1 x2 x3 x4 σ20) fun v30 σ26 => (some (v30, σ26)))))))))))
set_option maxRecDepth 100000 in
theorem t_X11_beside_0 {X : Sx} {l : Launch} {D : Nat} {x1 : Int32} {x2 : Int32} {x3 : Int32} {x4 : Int32} {σ : AH} {v : Int32} {σ' : AH} (hD : 6 ≤ D) (hs : Sh σ) (h : F_X11_beside x1 x2 x3 x4 σ = some (v, σ')) : W_X11_beside_0 X l D x1 x2 x3 x4 σ (some (.int v)) σ' := by
  unfold F_X11_beside at h
  unfold W_X11_beside_0
  obtain ⟨v6, σ2, q1, h⟩ := of_bd h
  have hC2 := f_X11_isIn (σ := σ) hs  q1 (X := X) (l := l)
  have hs3 := hC2.1.2.2.2.1 hs
  refine ⟨0, v6, σ2, (Nat.le_trans (by decide) hD), hC2, ?_⟩
  refine ite_i (fun c4 => ?_) (fun c4 => ?_)
  · replace h := of_ifp h c4
    exact ret_i h
  · replace h := of_ifn h c4
    obtain ⟨v12, σ8, q5, h⟩ := of_bd h
    have hC6 := f_X11_isWeek (σ := σ2) hs3  q5 (X := X) (l := l)
    have hs7 := hC6.1.2.2.2.1 hs3
    refine ⟨1, v12, σ8, (Nat.le_trans (by decide) hD), hC6, ?_⟩
    refine ite_i (fun c8 => ?_) (fun c8 => ?_)
    · replace h := of_ifp h c8
      exact ret_i h
    · replace h := of_ifn h c8
      obtain ⟨v18, σ14, q9, h⟩ := of_bd h
      have hC10 := f_X11_isWeek (σ := σ8) hs7  q9 (X := X) (l := l)
      have hs11 := hC10.1.2.2.2.1 hs7
      refine ⟨1, v18, σ14, (Nat.le_trans (by decide) hD), hC10, ?_⟩
      refine ite_i (fun c12 => ?_) (fun c12 => ?_)
      · replace h := of_ifp h c12
        exact ret_i h
      · replace h := of_ifn h c12
        obtain ⟨v24, σ20, q13, h⟩ := of_bd h
        have hC14 := f_X11_isWeek (σ := σ14) hs11  q13 (X := X) (l := l)
        have hs15 := hC14.1.2.2.2.1 hs11
        refine ⟨1, v24, σ20, (Nat.le_trans (by decide) hD), hC14, ?_⟩
        refine ite_i (fun c16 => ?_) (fun c16 => ?_)
        · replace h := of_ifp h c16
          exact ret_i h
        · replace h := of_ifn h c16
          obtain ⟨v30, σ26, q17, h⟩ := of_bd h
          have hC18 := f_X4_turned (σ := σ20) hs15  q17 (X := X) (l := l)
          have hs19 := hC18.1.2.2.2.1 hs15
          refine ⟨5, v30, σ26, (Nat.le_trans (by decide) hD), hC18, ?_⟩
          exact ret_i h
theorem f_X11_beside {X : Sx} {l : Launch} {x1 : Int32} {x2 : Int32} {x3 : Int32} {x4 : Int32} {σ : AH} {v : Int32} {σ' : AH} (hs : Sh σ) (h : F_X11_beside x1 x2 x3 x4 σ = some (v, σ')) : Call X l m_X11_beside 6 [.ref 0, .int x1, .int x2, .int x3, .int x4] σ (some (.int v)) σ' :=
  Call.ofE ok_X11_beside rfl (Nat.le_of_ble_eq_true rfl) (w_X11_beside_0 hs  (t_X11_beside_0 (Nat.le_refl _) hs  h))
def F_X11_isMoveWeek (x1 : Int32) (σ : AH) : Option (Int32 × AH) := (bd (F_X11_isWeek x1 σ) fun v6 σ2 => (if v6 = 0 then (some ((0 : Int32), σ2)) else (if x1 < (gI σ2 1 15) then (some ((0 : Int32), σ2)) else (some ((1 : Int32), σ2)))))
set_option maxRecDepth 100000 in
theorem t_X11_isMoveWeek_0 {X : Sx} {l : Launch} {D : Nat} {x1 : Int32} {σ : AH} {v : Int32} {σ' : AH} (hD : 2 ≤ D) (hs : Sh σ) (h : F_X11_isMoveWeek x1 σ = some (v, σ')) : W_X11_isMoveWeek_0 X l D x1 σ (some (.int v)) σ' := by
  unfold F_X11_isMoveWeek at h
  unfold W_X11_isMoveWeek_0
  obtain ⟨v6, σ2, q1, h⟩ := of_bd h
  have hC2 := f_X11_isWeek (σ := σ) hs  q1 (X := X) (l := l)
  have hs3 := hC2.1.2.2.2.1 hs
  refine ⟨1, v6, σ2, (Nat.le_trans (by decide) hD), hC2, ?_⟩
  refine ite_i (fun c4 => ?_) (fun c4 => ?_)
  · replace h := of_ifp h c4
    exact ret_i h
  · replace h := of_ifn h c4
    refine ite_i (fun c5 => ?_) (fun c5 => ?_)
    · replace h := of_ifp h c5
      exact ret_i h
    · replace h := of_ifn h c5
      exact ret_i h
theorem f_X11_isMoveWeek {X : Sx} {l : Launch} {x1 : Int32} {σ : AH} {v : Int32} {σ' : AH} (hs : Sh σ) (h : F_X11_isMoveWeek x1 σ = some (v, σ')) : Call X l m_X11_isMoveWeek 2 [.ref 0, .int x1] σ (some (.int v)) σ' :=
  Call.ofE ok_X11_isMoveWeek rfl (Nat.le_of_ble_eq_true rfl) (w_X11_isMoveWeek_0 hs  (t_X11_isMoveWeek_0 (Nat.le_refl _) hs  h))
def F_X11_offer (x1 : Int32) (σ : AH) : Option (Int32 × AH) := (bd (F_X11_isMoveWeek x1 σ) fun v6 σ2 => (if v6 = 0 then (bd (F_X11_answer (-1 : Int32) σ2) fun v52 σ48 => (some (v52, σ48))) else (if (gI σ2 1 12) < (100 : Int32) then (bd (F_X11_runFor x1 (0 : Int32) σ2) fun b12 σ8 => if b12 ∈ runIds then (bv (F_X4_join x1 (gI σ8 0 13) σ8) fun σ15 => (bv (F_X4_sortAll x1 σ15) fun σ20 => (bv (F_X2_lookRound x1 b12 σ20) fun σ25 => (bd (F_X2_giveAll x1 σ25) fun v34 σ30 => (bd (F_X11_answer v34 (sI (sI (sI σ30 1 12 ((gI σ30 1 12) + (1 : Int32))) 1 13 ((gI (sI σ30 1 12 ((gI σ30 1 12) + (1 : Int32))) 1 13) + v34)) 1 15 x1)) fun v40 σ36 => (some (v40, σ36))))))) else none) else (bd (F_X11_answer (-5 : Int32) σ2) fun v46 σ42 => (some (v46, σ42))))))
set_option maxRecDepth 100000 in
theorem t_X11_offer_0 {X : Sx} {l : Launch} {D : Nat} {x1 : Int32} {σ : AH} {v : Int32} {σ' : AH} (hD : 10 ≤ D) (hs : Sh σ) (h : F_X11_offer x1 σ = some (v, σ')) : W_X11_offer_0 X l D x1 σ (some (.int v)) σ' := by
  unfold F_X11_offer at h
  unfold W_X11_offer_0
  obtain ⟨v6, σ2, q1, h⟩ := of_bd h
  have hC2 := f_X11_isMoveWeek (σ := σ) hs  q1 (X := X) (l := l)
  have hs3 := hC2.1.2.2.2.1 hs
  refine ⟨2, v6, σ2, (Nat.le_trans (by decide) hD), hC2, ?_⟩
  refine ite_i (fun c4 => ?_) (fun c4 => ?_)
  · replace h := of_ifp h c4
    obtain ⟨v52, σ48, q5, h⟩ := of_bd h
    have hC6 := f_X11_answer (σ := σ2) hs3  q5 (X := X) (l := l)
    have hs7 := hC6.1.2.2.2.1 hs3
    refine ⟨1, v52, σ48, (Nat.le_trans (by decide) hD), hC6, ?_⟩
    exact ret_i h
  · replace h := of_ifn h c4
    refine ite_i (fun c8 => ?_) (fun c8 => ?_)
    · replace h := of_ifp h c8
      obtain ⟨b12, σ8, q9, h⟩ := of_bd h
      have hC10 := f_X11_runFor (σ := σ2) hs3  q9 (X := X) (l := l)
      have hs11 := hC10.1.2.2.2.1 hs3
      obtain ⟨g12, h⟩ := of_gd h
      refine ⟨6, b12, σ8, (Nat.le_trans (by decide) hD), hC10, g12, ?_⟩
      obtain ⟨σ15, q13, h⟩ := of_bv h
      have hC14 := f_X4_join (σ := σ8) hs11  q13 (X := X) (l := l)
      have hs15 := hC14.1.2.2.2.1 hs11
      refine ⟨2, σ15, (Nat.le_trans (by decide) hD), hC14, ?_⟩
      obtain ⟨σ20, q16, h⟩ := of_bv h
      have hC17 := f_X4_sortAll (σ := σ15) hs15  q16 (X := X) (l := l)
      have hs18 := hC17.1.2.2.2.1 hs15
      refine ⟨5, σ20, (Nat.le_trans (by decide) hD), hC17, ?_⟩
      obtain ⟨σ25, q19, h⟩ := of_bv h
      have hC20 := f_X2_lookRound (σ := σ20) hs18 (by first | assumption | exact st_stock (by assumption) | exact rn_site (by assumption) | decide) q19 (X := X) (l := l)
      have hs21 := hC20.1.2.2.2.1 hs18
      refine ⟨4, σ25, (Nat.le_trans (by decide) hD), hC20, ?_⟩
      obtain ⟨v34, σ30, q22, h⟩ := of_bd h
      have hC23 := f_X2_giveAll (σ := σ25) hs21  q22 (X := X) (l := l)
      have hs24 := hC23.1.2.2.2.1 hs21
      refine ⟨9, v34, σ30, (Nat.le_trans (by decide) hD), hC23, ?_⟩
      obtain ⟨v40, σ36, q25, h⟩ := of_bd h
      have hC26 := f_X11_answer (σ := (sI (sI (sI σ30 1 12 ((gI σ30 1 12) + (1 : Int32))) 1 13 ((gI (sI σ30 1 12 ((gI σ30 1 12) + (1 : Int32))) 1 13) + v34)) 1 15 x1)) hs24  q25 (X := X) (l := l)
      have hs27 := hC26.1.2.2.2.1 hs24
      refine ⟨1, v40, σ36, (Nat.le_trans (by decide) hD), hC26, ?_⟩
      exact ret_i h
    · replace h := of_ifn h c8
      obtain ⟨v46, σ42, q28, h⟩ := of_bd h
      have hC29 := f_X11_answer (σ := σ2) hs3  q28 (X := X) (l := l)
      have hs30 := hC29.1.2.2.2.1 hs3
      refine ⟨1, v46, σ42, (Nat.le_trans (by decide) hD), hC29, ?_⟩
      exact ret_i h
theorem f_X11_offer {X : Sx} {l : Launch} {x1 : Int32} {σ : AH} {v : Int32} {σ' : AH} (hs : Sh σ) (h : F_X11_offer x1 σ = some (v, σ')) : Call X l m_X11_offer 10 [.ref 0, .int x1] σ (some (.int v)) σ' :=
  Call.ofE ok_X11_offer rfl (Nat.le_of_ble_eq_true rfl) (w_X11_offer_0 hs  (t_X11_offer_0 (Nat.le_refl _) hs  h))
def F_X11_lives_73 (y0 : Int32) (y1 : Int32) (σ : AH) : Option (Int32 × AH) := (bd (F_X8_at 17 y1 y0 σ) fun v30 σ26 => (some (v30, σ26)))
def F_X11_lives (x1 : Int32) (x2 : Int32) (x3 : Int32) (σ : AH) : Option (Int32 × AH) := (bd (F_X11_isPlot x1 σ) fun v6 σ2 => (if v6 = 0 then (some ((-1 : Int32), σ2)) else (bd (F_X11_isWeek x2 σ2) fun v12 σ8 => (if v12 = 0 then (some ((-1 : Int32), σ8)) else (bd (F_X11_isIn x3 (0 : Int32) (2 : Int32) σ8) fun v18 σ14 => (if v18 = 0 then (some ((-1 : Int32), σ14)) else (bd (F_X2_livedStay x1 x2 σ14) fun v24 σ20 => (if v24 = (-1 : Int32) then (some ((-1 : Int32), σ20)) else (if x3 = 0 then (F_X11_lives_73 (1 : Int32) v24 σ20) else (if x3 = (1 : Int32) then (F_X11_lives_73 (2 : Int32) v24 σ20) else (F_X11_lives_73 (6 : Int32) v24 σ20)))))))))))
set_option maxRecDepth 100000 in
theorem t_X11_lives_73 {X : Sx} {l : Launch} {D : Nat} {y0 : Int32} {y1 : Int32} {σ : AH} {v : Int32} {σ' : AH} (hD : 3 ≤ D) (hs : Sh σ) (h : F_X11_lives_73 y0 y1 σ = some (v, σ')) : W_X11_lives_73 X l D y0 y1 σ (some (.int v)) σ' := by
  unfold F_X11_lives_73 at h
  unfold W_X11_lives_73
  obtain ⟨v30, σ26, q1, h⟩ := of_bd h
  have hC2 := f_X8_at  q1 (X := X) (l := l)
  have hs3 := hC2.1.2.2.2.1 hs
  refine ⟨0, v30, σ26, (Nat.le_trans (by decide) hD), hC2, ?_⟩
  exact ret_i h
set_option maxRecDepth 100000 in
theorem t_X11_lives_0 {X : Sx} {l : Launch} {D : Nat} {x1 : Int32} {x2 : Int32} {x3 : Int32} {σ : AH} {v : Int32} {σ' : AH} (hD : 3 ≤ D) (hs : Sh σ) (h : F_X11_lives x1 x2 x3 σ = some (v, σ')) : W_X11_lives_0 X l D x1 x2 x3 σ (some (.int v)) σ' := by
  unfold F_X11_lives at h
  unfold W_X11_lives_0
  obtain ⟨v6, σ2, q1, h⟩ := of_bd h
  have hC2 := f_X11_isPlot (σ := σ) hs  q1 (X := X) (l := l)
  have hs3 := hC2.1.2.2.2.1 hs
  refine ⟨1, v6, σ2, (Nat.le_trans (by decide) hD), hC2, ?_⟩
  refine ite_i (fun c4 => ?_) (fun c4 => ?_)
  · replace h := of_ifp h c4
    exact ret_i h
  · replace h := of_ifn h c4
    obtain ⟨v12, σ8, q5, h⟩ := of_bd h
    have hC6 := f_X11_isWeek (σ := σ2) hs3  q5 (X := X) (l := l)
    have hs7 := hC6.1.2.2.2.1 hs3
    refine ⟨1, v12, σ8, (Nat.le_trans (by decide) hD), hC6, ?_⟩
    refine ite_i (fun c8 => ?_) (fun c8 => ?_)
    · replace h := of_ifp h c8
      exact ret_i h
    · replace h := of_ifn h c8
      obtain ⟨v18, σ14, q9, h⟩ := of_bd h
      have hC10 := f_X11_isIn (σ := σ8) hs7  q9 (X := X) (l := l)
      have hs11 := hC10.1.2.2.2.1 hs7
      refine ⟨0, v18, σ14, (Nat.le_trans (by decide) hD), hC10, ?_⟩
      refine ite_i (fun c12 => ?_) (fun c12 => ?_)
      · replace h := of_ifp h c12
        exact ret_i h
      · replace h := of_ifn h c12
        obtain ⟨v24, σ20, q13, h⟩ := of_bd h
        have hC14 := f_X2_livedStay (σ := σ14) hs11  q13 (X := X) (l := l)
        have hs15 := hC14.1.2.2.2.1 hs11
        refine ⟨2, v24, σ20, (Nat.le_trans (by decide) hD), hC14, ?_⟩
        refine ite_i (fun c16 => ?_) (fun c16 => ?_)
        · replace h := of_ifp h c16
          exact ret_i h
        · replace h := of_ifn h c16
          refine ite_i (fun c17 => ?_) (fun c17 => ?_)
          · replace h := of_ifp h c17
            exact t_X11_lives_73 hD  hs15  h
          · replace h := of_ifn h c17
            refine ite_i (fun c18 => ?_) (fun c18 => ?_)
            · replace h := of_ifp h c18
              exact t_X11_lives_73 hD  hs15  h
            · replace h := of_ifn h c18
              exact t_X11_lives_73 hD  hs15  h
theorem f_X11_lives {X : Sx} {l : Launch} {x1 : Int32} {x2 : Int32} {x3 : Int32} {σ : AH} {v : Int32} {σ' : AH} (hs : Sh σ) (h : F_X11_lives x1 x2 x3 σ = some (v, σ')) : Call X l m_X11_lives 3 [.ref 0, .int x1, .int x2, .int x3] σ (some (.int v)) σ' :=
  Call.ofE ok_X11_lives rfl (Nat.le_of_ble_eq_true rfl) (w_X11_lives_0 hs  (t_X11_lives_0 (Nat.le_refl _) hs  h))
def F_X11_roof (x1 : Int32) (x2 : Int32) (σ : AH) : Option (Int32 × AH) := (bd (F_X11_isWeek x2 σ) fun v6 σ2 => (if v6 = 0 then (some ((-1 : Int32), σ2)) else (bd (F_X11_isKnownEntry x1 x2 σ2) fun v12 σ8 => (if v12 = 0 then (some ((-1 : Int32), σ8)) else (bv (F_X4_join x2 (gI σ8 0 13) σ8) fun σ14 => (if inB x1 60 = true then (bd (F_X2_roofOf (gI σ14 114 x1.toNatClampNeg) x2 σ14) fun v24 σ20 => (some (v24, σ20))) else none))))))
set_option maxRecDepth 100000 in
theorem t_X11_roof_0 {X : Sx} {l : Launch} {D : Nat} {x1 : Int32} {x2 : Int32} {σ : AH} {v : Int32} {σ' : AH} (hD : 4 ≤ D) (hs : Sh σ) (h : F_X11_roof x1 x2 σ = some (v, σ')) : W_X11_roof_0 X l D x1 x2 σ (some (.int v)) σ' := by
  unfold F_X11_roof at h
  unfold W_X11_roof_0
  obtain ⟨v6, σ2, q1, h⟩ := of_bd h
  have hC2 := f_X11_isWeek (σ := σ) hs  q1 (X := X) (l := l)
  have hs3 := hC2.1.2.2.2.1 hs
  refine ⟨1, v6, σ2, (Nat.le_trans (by decide) hD), hC2, ?_⟩
  refine ite_i (fun c4 => ?_) (fun c4 => ?_)
  · replace h := of_ifp h c4
    exact ret_i h
  · replace h := of_ifn h c4
    obtain ⟨v12, σ8, q5, h⟩ := of_bd h
    have hC6 := f_X11_isKnownEntry (σ := σ2) hs3  q5 (X := X) (l := l)
    have hs7 := hC6.1.2.2.2.1 hs3
    refine ⟨2, v12, σ8, (Nat.le_trans (by decide) hD), hC6, ?_⟩
    refine ite_i (fun c8 => ?_) (fun c8 => ?_)
    · replace h := of_ifp h c8
      exact ret_i h
    · replace h := of_ifn h c8
      obtain ⟨σ14, q9, h⟩ := of_bv h
      have hC10 := f_X4_join (σ := σ8) hs7  q9 (X := X) (l := l)
      have hs11 := hC10.1.2.2.2.1 hs7
      refine ⟨2, σ14, (Nat.le_trans (by decide) hD), hC10, ?_⟩
      obtain ⟨g12, h⟩ := of_gd h
      refine ⟨(inB_mp g12), ?_⟩
      obtain ⟨v24, σ20, q13, h⟩ := of_bd h
      have hC14 := f_X2_roofOf (σ := σ14) hs11  q13 (X := X) (l := l)
      have hs15 := hC14.1.2.2.2.1 hs11
      refine ⟨3, v24, σ20, (Nat.le_trans (by decide) hD), hC14, ?_⟩
      exact ret_i h
theorem f_X11_roof {X : Sx} {l : Launch} {x1 : Int32} {x2 : Int32} {σ : AH} {v : Int32} {σ' : AH} (hs : Sh σ) (h : F_X11_roof x1 x2 σ = some (v, σ')) : Call X l m_X11_roof 4 [.ref 0, .int x1, .int x2] σ (some (.int v)) σ' :=
  Call.ofE ok_X11_roof rfl (Nat.le_of_ble_eq_true rfl) (w_X11_roof_0 hs  (t_X11_roof_0 (Nat.le_refl _) hs  h))
def F_X11_squat_31 (σ : AH) : Option (Int32 × AH) := (bd (F_X11_answer (-2 : Int32) σ) fun v82 σ78 => (some (v82, σ78)))
def F_X11_squat_98 (σ : AH) : Option (Int32 × AH) := (bd (F_X11_answer (-3 : Int32) σ) fun v88 σ84 => (some (v88, σ84)))
def F_X11_squat_176 (x3 : Int32) (y0 : Int32) (y1 : Int32) (y2 : Int32) (y3 : Int32) (σ : AH) : Option (Int32 × AH) := (bv (F_X2_goIn y3 y2 y1 y0 (0 : Int32) σ) fun σ90 => (bd (F_X11_answer (gI (sI (sI σ90 1 14 ((gI σ90 1 14) + (1 : Int32))) 1 15 x3) 1 14) (sI (sI σ90 1 14 ((gI σ90 1 14) + (1 : Int32))) 1 15 x3)) fun v99 σ95 => (some (v99, σ95))))
def F_X11_squat (x1 : Int32) (x2 : Int32) (x3 : Int32) (σ : AH) : Option (Int32 × AH) := (bd (F_X11_isMoveWeek x3 σ) fun v6 σ2 => (if v6 = 0 then (bd (F_X11_answer (-1 : Int32) σ2) fun v76 σ72 => (some (v76, σ72))) else (bd (F_X11_isPlot x2 σ2) fun v12 σ8 => (if v12 = 0 then (F_X11_squat_31 σ8) else (bd (F_X11_isKnownEntry x1 x3 σ8) fun v18 σ14 => (if v18 = 0 then (F_X11_squat_31 σ14) else (bd (F_X11_runFor x3 (0 : Int32) σ14) fun b24 σ20 => if b24 ∈ runIds then (bv (F_X4_join x3 (gI σ20 0 13) σ20) fun σ27 => (bv (F_X2_lookRound x3 b24 σ27) fun σ32 => (bd (F_X2_isFree x2 σ32) fun v41 σ37 => (if v41 = 0 then (F_X11_squat_98 σ37) else (if inB x1 60 = true then (bd (F_X2_isRoofless (gI σ37 114 x1.toNatClampNeg) σ37) fun v48 σ44 => (if v48 = 0 then (F_X11_squat_98 σ44) else (if (gI σ44 1 14) < (40 : Int32) then (bv (F_X3_settle x3 x3 σ44) fun σ50 => (bv (F_X3_ask (0 : Int32) x3 σ50) fun σ55 => (bd (F_X3_counted (60 : Int32) σ55) fun v64 σ60 => (if v64 = (-1 : Int32) then (F_X11_squat_176 x3 (2000000000 : Int32) x3 x2 x1 σ60) else (F_X11_squat_176 x3 (x3 + v64) x3 x2 x1 σ60))))) else (bd (F_X11_answer (-5 : Int32) σ44) fun v70 σ66 => (some (v70, σ66)))))) else none))))) else none)))))))
set_option maxRecDepth 100000 in
theorem t_X11_squat_31 {X : Sx} {l : Launch} {D : Nat} {σ : AH} {v : Int32} {σ' : AH} (hD : 8 ≤ D) (hs : Sh σ) (h : F_X11_squat_31 σ = some (v, σ')) : W_X11_squat_31 X l D σ (some (.int v)) σ' := by
  unfold F_X11_squat_31 at h
  unfold W_X11_squat_31
  obtain ⟨v82, σ78, q1, h⟩ := of_bd h
  have hC2 := f_X11_answer (σ := σ) hs  q1 (X := X) (l := l)
  have hs3 := hC2.1.2.2.2.1 hs
  refine ⟨1, v82, σ78, (Nat.le_trans (by decide) hD), hC2, ?_⟩
  exact ret_i h
set_option maxRecDepth 100000 in
theorem t_X11_squat_98 {X : Sx} {l : Launch} {D : Nat} {σ : AH} {v : Int32} {σ' : AH} (hD : 8 ≤ D) (hs : Sh σ) (h : F_X11_squat_98 σ = some (v, σ')) : W_X11_squat_98 X l D σ (some (.int v)) σ' := by
  unfold F_X11_squat_98 at h
  unfold W_X11_squat_98
  obtain ⟨v88, σ84, q1, h⟩ := of_bd h
  have hC2 := f_X11_answer (σ := σ) hs  q1 (X := X) (l := l)
  have hs3 := hC2.1.2.2.2.1 hs
  refine ⟨1, v88, σ84, (Nat.le_trans (by decide) hD), hC2, ?_⟩
  exact ret_i h
set_option maxRecDepth 100000 in
theorem t_X11_squat_176 {X : Sx} {l : Launch} {D : Nat} {x3 : Int32} {y0 : Int32} {y1 : Int32} {y2 : Int32} {y3 : Int32} {σ : AH} {v : Int32} {σ' : AH} (hD : 8 ≤ D) (hs : Sh σ) (h : F_X11_squat_176 x3 y0 y1 y2 y3 σ = some (v, σ')) : W_X11_squat_176 X l D x3 y0 y1 y2 y3 σ (some (.int v)) σ' := by
  unfold F_X11_squat_176 at h
  unfold W_X11_squat_176
  obtain ⟨σ90, q1, h⟩ := of_bv h
  have hC2 := f_X2_goIn (σ := σ) hs  q1 (X := X) (l := l)
  have hs3 := hC2.1.2.2.2.1 hs
  refine ⟨7, σ90, (Nat.le_trans (by decide) hD), hC2, ?_⟩
  obtain ⟨v99, σ95, q4, h⟩ := of_bd h
  have hC5 := f_X11_answer (σ := (sI (sI σ90 1 14 ((gI σ90 1 14) + (1 : Int32))) 1 15 x3)) hs3  q4 (X := X) (l := l)
  have hs6 := hC5.1.2.2.2.1 hs3
  refine ⟨1, v99, σ95, (Nat.le_trans (by decide) hD), hC5, ?_⟩
  exact ret_i h
set_option maxRecDepth 100000 in
theorem t_X11_squat_0 {X : Sx} {l : Launch} {D : Nat} {x1 : Int32} {x2 : Int32} {x3 : Int32} {σ : AH} {v : Int32} {σ' : AH} (hD : 8 ≤ D) (hs : Sh σ) (h : F_X11_squat x1 x2 x3 σ = some (v, σ')) : W_X11_squat_0 X l D x1 x2 x3 σ (some (.int v)) σ' := by
  unfold F_X11_squat at h
  unfold W_X11_squat_0
  obtain ⟨v6, σ2, q1, h⟩ := of_bd h
  have hC2 := f_X11_isMoveWeek (σ := σ) hs  q1 (X := X) (l := l)
  have hs3 := hC2.1.2.2.2.1 hs
  refine ⟨2, v6, σ2, (Nat.le_trans (by decide) hD), hC2, ?_⟩
  refine ite_i (fun c4 => ?_) (fun c4 => ?_)
  · replace h := of_ifp h c4
    obtain ⟨v76, σ72, q5, h⟩ := of_bd h
    have hC6 := f_X11_answer (σ := σ2) hs3  q5 (X := X) (l := l)
    have hs7 := hC6.1.2.2.2.1 hs3
    refine ⟨1, v76, σ72, (Nat.le_trans (by decide) hD), hC6, ?_⟩
    exact ret_i h
  · replace h := of_ifn h c4
    obtain ⟨v12, σ8, q8, h⟩ := of_bd h
    have hC9 := f_X11_isPlot (σ := σ2) hs3  q8 (X := X) (l := l)
    have hs10 := hC9.1.2.2.2.1 hs3
    refine ⟨1, v12, σ8, (Nat.le_trans (by decide) hD), hC9, ?_⟩
    refine ite_i (fun c11 => ?_) (fun c11 => ?_)
    · replace h := of_ifp h c11
      exact t_X11_squat_31 hD  hs10  h
    · replace h := of_ifn h c11
      obtain ⟨v18, σ14, q12, h⟩ := of_bd h
      have hC13 := f_X11_isKnownEntry (σ := σ8) hs10  q12 (X := X) (l := l)
      have hs14 := hC13.1.2.2.2.1 hs10
      refine ⟨2, v18, σ14, (Nat.le_trans (by decide) hD), hC13, ?_⟩
      refine ite_i (fun c15 => ?_) (fun c15 => ?_)
      · replace h := of_ifp h c15
        exact t_X11_squat_31 hD  hs14  h
      · replace h := of_ifn h c15
        obtain ⟨b24, σ20, q16, h⟩ := of_bd h
        have hC17 := f_X11_runFor (σ := σ14) hs14  q16 (X := X) (l := l)
        have hs18 := hC17.1.2.2.2.1 hs14
        obtain ⟨g19, h⟩ := of_gd h
        refine ⟨6, b24, σ20, (Nat.le_trans (by decide) hD), hC17, g19, ?_⟩
        obtain ⟨σ27, q20, h⟩ := of_bv h
        have hC21 := f_X4_join (σ := σ20) hs18  q20 (X := X) (l := l)
        have hs22 := hC21.1.2.2.2.1 hs18
        refine ⟨2, σ27, (Nat.le_trans (by decide) hD), hC21, ?_⟩
        obtain ⟨σ32, q23, h⟩ := of_bv h
        have hC24 := f_X2_lookRound (σ := σ27) hs22 (by first | assumption | exact st_stock (by assumption) | exact rn_site (by assumption) | decide) q23 (X := X) (l := l)
        have hs25 := hC24.1.2.2.2.1 hs22
        refine ⟨4, σ32, (Nat.le_trans (by decide) hD), hC24, ?_⟩
        obtain ⟨v41, σ37, q26, h⟩ := of_bd h
        have hC27 := f_X2_isFree (σ := σ32) hs25  q26 (X := X) (l := l)
        have hs28 := hC27.1.2.2.2.1 hs25
        refine ⟨0, v41, σ37, (Nat.le_trans (by decide) hD), hC27, ?_⟩
        refine ite_i (fun c29 => ?_) (fun c29 => ?_)
        · replace h := of_ifp h c29
          exact t_X11_squat_98 hD  hs28  h
        · replace h := of_ifn h c29
          obtain ⟨g30, h⟩ := of_gd h
          refine ⟨(inB_mp g30), ?_⟩
          obtain ⟨v48, σ44, q31, h⟩ := of_bd h
          have hC32 := f_X2_isRoofless (σ := σ37) hs28  q31 (X := X) (l := l)
          have hs33 := hC32.1.2.2.2.1 hs28
          refine ⟨0, v48, σ44, (Nat.le_trans (by decide) hD), hC32, ?_⟩
          refine ite_i (fun c34 => ?_) (fun c34 => ?_)
          · replace h := of_ifp h c34
            exact t_X11_squat_98 hD  hs33  h
          · replace h := of_ifn h c34
            refine ite_i (fun c35 => ?_) (fun c35 => ?_)
            · replace h := of_ifp h c35
              obtain ⟨σ50, q36, h⟩ := of_bv h
              have hC37 := f_X3_settle (σ := σ44) hs33  q36 (X := X) (l := l)
              have hs38 := hC37.1.2.2.2.1 hs33
              refine ⟨2, σ50, (Nat.le_trans (by decide) hD), hC37, ?_⟩
              obtain ⟨σ55, q39, h⟩ := of_bv h
              have hC40 := f_X3_ask (σ := σ50) hs38  q39 (X := X) (l := l)
              have hs41 := hC40.1.2.2.2.1 hs38
              refine ⟨1, σ55, (Nat.le_trans (by decide) hD), hC40, ?_⟩
              obtain ⟨v64, σ60, q42, h⟩ := of_bd h
              have hC43 := f_X3_counted (σ := σ55) hs41  q42 (X := X) (l := l)
              have hs44 := hC43.1.2.2.2.1 hs41
              refine ⟨2, v64, σ60, (Nat.le_trans (by decide) hD), hC43, ?_⟩
              refine ite_i (fun c45 => ?_) (fun c45 => ?_)
              · replace h := of_ifp h c45
                exact t_X11_squat_176 hD  hs44  h
              · replace h := of_ifn h c45
                exact t_X11_squat_176 hD  hs44  h
            · replace h := of_ifn h c35
              obtain ⟨v70, σ66, q46, h⟩ := of_bd h
              have hC47 := f_X11_answer (σ := σ44) hs33  q46 (X := X) (l := l)
              have hs48 := hC47.1.2.2.2.1 hs33
              refine ⟨1, v70, σ66, (Nat.le_trans (by decide) hD), hC47, ?_⟩
              exact ret_i h
theorem f_X11_squat {X : Sx} {l : Launch} {x1 : Int32} {x2 : Int32} {x3 : Int32} {σ : AH} {v : Int32} {σ' : AH} (hs : Sh σ) (h : F_X11_squat x1 x2 x3 σ = some (v, σ')) : Call X l m_X11_squat 8 [.ref 0, .int x1, .int x2, .int x3] σ (some (.int v)) σ' :=
  Call.ofE ok_X11_squat rfl (Nat.le_of_ble_eq_true rfl) (w_X11_squat_0 hs  (t_X11_squat_0 (Nat.le_refl _) hs  h))
def F_X11_out_56 (σ : AH) : Option (Int32 × AH) := (bd (F_X11_answer (-3 : Int32) σ) fun v53 σ49 => (some (v53, σ49)))
def F_X11_out (x1 : Int32) (x2 : Int32) (σ : AH) : Option (Int32 × AH) := (bd (F_X11_isMoveWeek x2 σ) fun v6 σ2 => (if v6 = 0 then (bd (F_X11_answer (-1 : Int32) σ2) fun v47 σ43 => (some (v47, σ43))) else (bd (F_X11_isPlot x1 σ2) fun v12 σ8 => (if v12 = 0 then (bd (F_X11_answer (-2 : Int32) σ8) fun v41 σ37 => (some (v41, σ37))) else (bd (F_X2_stayIn x1 x2 σ8) fun v18 σ14 => (if v18 = (-1 : Int32) then (F_X11_out_56 σ14) else (bd (F_X2_isLived v18 x2 σ14) fun v24 σ20 => (if v24 = 0 then (bv (F_X8_put 17 v18 (5 : Int32) x2 σ20) fun σ26 => (bd (F_X11_answer (0 : Int32) (sI σ26 1 15 x2)) fun v35 σ31 => (some (v35, σ31)))) else (F_X11_out_56 σ20)))))))))
set_option maxRecDepth 100000 in
theorem t_X11_out_56 {X : Sx} {l : Launch} {D : Nat} {σ : AH} {v : Int32} {σ' : AH} (hD : 3 ≤ D) (hs : Sh σ) (h : F_X11_out_56 σ = some (v, σ')) : W_X11_out_56 X l D σ (some (.int v)) σ' := by
  unfold F_X11_out_56 at h
  unfold W_X11_out_56
  obtain ⟨v53, σ49, q1, h⟩ := of_bd h
  have hC2 := f_X11_answer (σ := σ) hs  q1 (X := X) (l := l)
  have hs3 := hC2.1.2.2.2.1 hs
  refine ⟨1, v53, σ49, (Nat.le_trans (by decide) hD), hC2, ?_⟩
  exact ret_i h
set_option maxRecDepth 100000 in
theorem t_X11_out_0 {X : Sx} {l : Launch} {D : Nat} {x1 : Int32} {x2 : Int32} {σ : AH} {v : Int32} {σ' : AH} (hD : 3 ≤ D) (hs : Sh σ) (h : F_X11_out x1 x2 σ = some (v, σ')) : W_X11_out_0 X l D x1 x2 σ (some (.int v)) σ' := by
  unfold F_X11_out at h
  unfold W_X11_out_0
  obtain ⟨v6, σ2, q1, h⟩ := of_bd h
  have hC2 := f_X11_isMoveWeek (σ := σ) hs  q1 (X := X) (l := l)
  have hs3 := hC2.1.2.2.2.1 hs
  refine ⟨2, v6, σ2, (Nat.le_trans (by decide) hD), hC2, ?_⟩
  refine ite_i (fun c4 => ?_) (fun c4 => ?_)
  · replace h := of_ifp h c4
    obtain ⟨v47, σ43, q5, h⟩ := of_bd h
    have hC6 := f_X11_answer (σ := σ2) hs3  q5 (X := X) (l := l)
    have hs7 := hC6.1.2.2.2.1 hs3
    refine ⟨1, v47, σ43, (Nat.le_trans (by decide) hD), hC6, ?_⟩
    exact ret_i h
  · replace h := of_ifn h c4
    obtain ⟨v12, σ8, q8, h⟩ := of_bd h
    have hC9 := f_X11_isPlot (σ := σ2) hs3  q8 (X := X) (l := l)
    have hs10 := hC9.1.2.2.2.1 hs3
    refine ⟨1, v12, σ8, (Nat.le_trans (by decide) hD), hC9, ?_⟩
    refine ite_i (fun c11 => ?_) (fun c11 => ?_)
    · replace h := of_ifp h c11
      obtain ⟨v41, σ37, q12, h⟩ := of_bd h
      have hC13 := f_X11_answer (σ := σ8) hs10  q12 (X := X) (l := l)
      have hs14 := hC13.1.2.2.2.1 hs10
      refine ⟨1, v41, σ37, (Nat.le_trans (by decide) hD), hC13, ?_⟩
      exact ret_i h
    · replace h := of_ifn h c11
      obtain ⟨v18, σ14, q15, h⟩ := of_bd h
      have hC16 := f_X2_stayIn (σ := σ8) hs10  q15 (X := X) (l := l)
      have hs17 := hC16.1.2.2.2.1 hs10
      refine ⟨1, v18, σ14, (Nat.le_trans (by decide) hD), hC16, ?_⟩
      refine ite_i (fun c18 => ?_) (fun c18 => ?_)
      · replace h := of_ifp h c18
        exact t_X11_out_56 hD  hs17  h
      · replace h := of_ifn h c18
        obtain ⟨v24, σ20, q19, h⟩ := of_bd h
        have hC20 := f_X2_isLived (σ := σ14) hs17  q19 (X := X) (l := l)
        have hs21 := hC20.1.2.2.2.1 hs17
        refine ⟨1, v24, σ20, (Nat.le_trans (by decide) hD), hC20, ?_⟩
        refine ite_i (fun c22 => ?_) (fun c22 => ?_)
        · replace h := of_ifp h c22
          obtain ⟨σ26, q23, h⟩ := of_bv h
          have hC24 := f_X8_put  q23 (X := X) (l := l)
          have hs25 := hC24.1.2.2.2.1 hs21
          refine ⟨0, σ26, (Nat.le_trans (by decide) hD), hC24, ?_⟩
          obtain ⟨v35, σ31, q26, h⟩ := of_bd h
          have hC27 := f_X11_answer (σ := (sI σ26 1 15 x2)) hs25  q26 (X := X) (l := l)
          have hs28 := hC27.1.2.2.2.1 hs25
          refine ⟨1, v35, σ31, (Nat.le_trans (by decide) hD), hC27, ?_⟩
          exact ret_i h
        · replace h := of_ifn h c22
          exact t_X11_out_56 hD  hs21  h
theorem f_X11_out {X : Sx} {l : Launch} {x1 : Int32} {x2 : Int32} {σ : AH} {v : Int32} {σ' : AH} (hs : Sh σ) (h : F_X11_out x1 x2 σ = some (v, σ')) : Call X l m_X11_out 3 [.ref 0, .int x1, .int x2] σ (some (.int v)) σ' :=
  Call.ofE ok_X11_out rfl (Nat.le_of_ble_eq_true rfl) (w_X11_out_0 hs  (t_X11_out_0 (Nat.le_refl _) hs  h))
end
