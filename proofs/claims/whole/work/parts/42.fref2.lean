section
def F_X12_findFamilies_124 (k_X12_findFamilies_45 : Int32 → Int32 → AH → Option AH) (k_X12_findFamilies_54 : Int32 → Int32 → Int32 → AH → Option AH) (k_X12_findFamilies_63 : Int32 → Int32 → Int32 → Int32 → AH → Option AH) (x2 : Int32) (x3 : Int32) (x4 : Int32) (x5 : Int32) (σ : AH) : Option AH := (k_X12_findFamilies_63 x2 x3 x4 (x5 + 1) σ)
def B_X12_findFamilies_63 (k_X12_findFamilies_45 : Int32 → Int32 → AH → Option AH) (k_X12_findFamilies_54 : Int32 → Int32 → Int32 → AH → Option AH) (k_X12_findFamilies_63 : Int32 → Int32 → Int32 → Int32 → AH → Option AH) (x2 : Int32) (x3 : Int32) (x4 : Int32) (x5 : Int32) (σ : AH) : Option AH := (if x2 ≤ x5 then (k_X12_findFamilies_54 x2 x3 (x4 + 1) σ) else (if inB x4 60 = true then (if (gI σ 160 x4.toNatClampNeg) = (-1 : Int32) then (F_X12_findFamilies_124 k_X12_findFamilies_45 k_X12_findFamilies_54 k_X12_findFamilies_63 x2 x3 x4 x5 σ) else (if inB x5 60 = true then (if inB x4 60 = true then (if (gI σ 160 x5.toNatClampNeg) ≤ (gI σ 160 x4.toNatClampNeg) then (F_X12_findFamilies_124 k_X12_findFamilies_45 k_X12_findFamilies_54 k_X12_findFamilies_63 x2 x3 x4 x5 σ) else (bd (F_X12_areOne x4 x5 σ) fun v16 σ12 => (if v16 = 0 then (F_X12_findFamilies_124 k_X12_findFamilies_45 k_X12_findFamilies_54 k_X12_findFamilies_63 x2 x3 x4 x5 σ12) else (if inB x4 60 = true then (if inB x5 60 = true then (F_X12_findFamilies_124 k_X12_findFamilies_45 k_X12_findFamilies_54 k_X12_findFamilies_63 x2 (1 : Int32) x4 x5 (sI σ12 160 x5.toNatClampNeg (gI σ12 160 x4.toNatClampNeg))) else none) else none)))) else none) else none)) else none))
def F_X12_findFamilies_63 (k_X12_findFamilies_45 : Int32 → Int32 → AH → Option AH) (k_X12_findFamilies_54 : Int32 → Int32 → Int32 → AH → Option AH) : Nat → Int32 → Int32 → Int32 → Int32 → AH → Option AH := fun k => match k with | 0 => fun _ _ _ _ _ => none | k + 1 => B_X12_findFamilies_63 k_X12_findFamilies_45 k_X12_findFamilies_54 (F_X12_findFamilies_63 k_X12_findFamilies_45 k_X12_findFamilies_54 k)
def B_X12_findFamilies_54 (k_X12_findFamilies_45 : Int32 → Int32 → AH → Option AH) (k_X12_findFamilies_54 : Int32 → Int32 → Int32 → AH → Option AH) (x2 : Int32) (x3 : Int32) (x4 : Int32) (σ : AH) : Option AH := (if x2 ≤ x4 then (k_X12_findFamilies_45 x2 x3 σ) else (F_X12_findFamilies_63 k_X12_findFamilies_45 k_X12_findFamilies_54 BIG x2 x3 x4 (0 : Int32) σ))
def F_X12_findFamilies_54 (k_X12_findFamilies_45 : Int32 → Int32 → AH → Option AH) : Nat → Int32 → Int32 → Int32 → AH → Option AH := fun k => match k with | 0 => fun _ _ _ _ => none | k + 1 => B_X12_findFamilies_54 k_X12_findFamilies_45 (F_X12_findFamilies_54 k_X12_findFamilies_45 k)
def B_X12_findFamilies_45 (k_X12_findFamilies_45 : Int32 → Int32 → AH → Option AH) (x2 : Int32) (x3 : Int32) (σ : AH) : Option AH := (if x3 = 0 then (some σ) else (F_X12_findFamilies_54 k_X12_findFamilies_45 BIG x2 (0 : Int32) (0 : Int32) σ))
def F_X12_findFamilies_45 : Nat → Int32 → Int32 → AH → Option AH := fun k => match k with | 0 => fun _ _ _ => none | k + 1 => B_X12_findFamilies_45 (F_X12_findFamilies_45 k)
def F_X12_findFamilies_36 (k_X12_findFamilies_10 : Int32 → Int32 → Int32 → AH → Option AH) (x1 : Int32) (x2 : Int32) (x3 : Int32) (y0 : Int32) (y1 : Int32) (σ : AH) : Option AH := (if inB y1 60 = true then (k_X12_findFamilies_10 x1 x2 (x3 + 1) (sI σ 160 y1.toNatClampNeg y0)) else none)
def B_X12_findFamilies_10 (k_X12_findFamilies_10 : Int32 → Int32 → Int32 → AH → Option AH) (x1 : Int32) (x2 : Int32) (x3 : Int32) (σ : AH) : Option AH := (if x2 ≤ x3 then (F_X12_findFamilies_45 BIG x2 (1 : Int32) σ) else (bd (F_X12_entryAt x3 (6 : Int32) σ) fun v6 σ2 => (if x1 < v6 then (F_X12_findFamilies_36 k_X12_findFamilies_10 x1 x2 x3 (-1 : Int32) x3 σ2) else (F_X12_findFamilies_36 k_X12_findFamilies_10 x1 x2 x3 x3 x3 σ2))))
def F_X12_findFamilies_10 : Nat → Int32 → Int32 → Int32 → AH → Option AH := fun k => match k with | 0 => fun _ _ _ _ => none | k + 1 => B_X12_findFamilies_10 (F_X12_findFamilies_10 k)
def F_X12_findFamilies (x1 : Int32) (σ : AH) : Option AH := (F_X12_findFamilies_10 BIG x1 (gI σ 125 6) (0 : Int32) σ)
set_option maxRecDepth 100000 in
theorem t_X12_findFamilies_124 {X : Sx} {l : Launch} {D : Nat} {k_X12_findFamilies_45 : Int32 → Int32 → AH → Option AH} {k_X12_findFamilies_54 : Int32 → Int32 → Int32 → AH → Option AH} {k_X12_findFamilies_63 : Int32 → Int32 → Int32 → Int32 → AH → Option AH} {x2 : Int32} {x3 : Int32} {x4 : Int32} {x5 : Int32} {σ : AH} {σ' : AH} (hD : 2 ≤ D) (hk_X12_findFamilies_45 : ∀ (x2 : Int32) (x3 : Int32) (σ : AH) (σ' : AH), Sh σ → k_X12_findFamilies_45 x2 x3 σ = some σ' → E X l m_X12_findFamilies D 45 [(0, .ref 124), (2, .int x2), (3, .int x3)] [] σ none σ') (hk_X12_findFamilies_54 : ∀ (x2 : Int32) (x3 : Int32) (x4 : Int32) (σ : AH) (σ' : AH), Sh σ → k_X12_findFamilies_54 x2 x3 x4 σ = some σ' → E X l m_X12_findFamilies D 54 [(0, .ref 124), (2, .int x2), (3, .int x3), (4, .int x4)] [] σ none σ') (hk_X12_findFamilies_63 : ∀ (x2 : Int32) (x3 : Int32) (x4 : Int32) (x5 : Int32) (σ : AH) (σ' : AH), Sh σ → k_X12_findFamilies_63 x2 x3 x4 x5 σ = some σ' → E X l m_X12_findFamilies D 63 [(0, .ref 124), (2, .int x2), (3, .int x3), (4, .int x4), (5, .int x5)] [] σ none σ') (hs : Sh σ) (h : F_X12_findFamilies_124 k_X12_findFamilies_45 k_X12_findFamilies_54 k_X12_findFamilies_63 x2 x3 x4 x5 σ = some σ') : W_X12_findFamilies_124 X l D x2 x3 x4 x5 σ none σ' := by
  unfold F_X12_findFamilies_124 at h
  unfold W_X12_findFamilies_124
  exact hk_X12_findFamilies_63 _ _ _ _ _ _ hs  h
set_option maxRecDepth 100000 in
theorem t_X12_findFamilies_63 {X : Sx} {l : Launch} {D : Nat} {k_X12_findFamilies_45 : Int32 → Int32 → AH → Option AH} {k_X12_findFamilies_54 : Int32 → Int32 → Int32 → AH → Option AH} {k_X12_findFamilies_63 : Int32 → Int32 → Int32 → Int32 → AH → Option AH} {x2 : Int32} {x3 : Int32} {x4 : Int32} {x5 : Int32} {σ : AH} {σ' : AH} (hD : 2 ≤ D) (hk_X12_findFamilies_45 : ∀ (x2 : Int32) (x3 : Int32) (σ : AH) (σ' : AH), Sh σ → k_X12_findFamilies_45 x2 x3 σ = some σ' → E X l m_X12_findFamilies D 45 [(0, .ref 124), (2, .int x2), (3, .int x3)] [] σ none σ') (hk_X12_findFamilies_54 : ∀ (x2 : Int32) (x3 : Int32) (x4 : Int32) (σ : AH) (σ' : AH), Sh σ → k_X12_findFamilies_54 x2 x3 x4 σ = some σ' → E X l m_X12_findFamilies D 54 [(0, .ref 124), (2, .int x2), (3, .int x3), (4, .int x4)] [] σ none σ') (hk_X12_findFamilies_63 : ∀ (x2 : Int32) (x3 : Int32) (x4 : Int32) (x5 : Int32) (σ : AH) (σ' : AH), Sh σ → k_X12_findFamilies_63 x2 x3 x4 x5 σ = some σ' → E X l m_X12_findFamilies D 63 [(0, .ref 124), (2, .int x2), (3, .int x3), (4, .int x4), (5, .int x5)] [] σ none σ') (hs : Sh σ) (h : B_X12_findFamilies_63 k_X12_findFamilies_45 k_X12_findFamilies_54 k_X12_findFamilies_63 x2 x3 x4 x5 σ = some σ') : W_X12_findFamilies_63 X l D x2 x3 x4 x5 σ none σ' := by
  unfold B_X12_findFamilies_63 at h
  unfold W_X12_findFamilies_63
  refine ite_i (fun c1 => ?_) (fun c1 => ?_)
  · replace h := of_ifp h c1
    exact hk_X12_findFamilies_54 _ _ _ _ _ hs  h
  · replace h := of_ifn h c1
    obtain ⟨g2, h⟩ := of_gd h
    refine ⟨(inB_mp g2), ?_⟩
    refine ite_i (fun c3 => ?_) (fun c3 => ?_)
    · replace h := of_ifp h c3
      exact t_X12_findFamilies_124 hD hk_X12_findFamilies_45 hk_X12_findFamilies_54 hk_X12_findFamilies_63 hs  h
    · replace h := of_ifn h c3
      obtain ⟨g4, h⟩ := of_gd h
      refine ⟨(inB_mp g4), ?_⟩
      obtain ⟨g5, h⟩ := of_gd h
      refine ⟨(inB_mp g5), ?_⟩
      refine ite_i (fun c6 => ?_) (fun c6 => ?_)
      · replace h := of_ifp h c6
        exact t_X12_findFamilies_124 hD hk_X12_findFamilies_45 hk_X12_findFamilies_54 hk_X12_findFamilies_63 hs  h
      · replace h := of_ifn h c6
        obtain ⟨v16, σ12, q7, h⟩ := of_bd h
        have hC8 := f_X12_areOne (σ := σ) hs  q7 (X := X) (l := l)
        have hs9 := hC8.1.2.2.2.1 hs
        refine ⟨1, v16, σ12, (Nat.le_trans (by decide) hD), hC8, ?_⟩
        refine ite_i (fun c10 => ?_) (fun c10 => ?_)
        · replace h := of_ifp h c10
          exact t_X12_findFamilies_124 hD hk_X12_findFamilies_45 hk_X12_findFamilies_54 hk_X12_findFamilies_63 hs9  h
        · replace h := of_ifn h c10
          obtain ⟨g11, h⟩ := of_gd h
          refine ⟨(inB_mp g11), ?_⟩
          obtain ⟨g12, h⟩ := of_gd h
          refine ⟨(inB_mp g12), ?_⟩
          exact t_X12_findFamilies_124 hD hk_X12_findFamilies_45 hk_X12_findFamilies_54 hk_X12_findFamilies_63 hs9  h
theorem e_X12_findFamilies_63 {X : Sx} {l : Launch} {D : Nat} {k_X12_findFamilies_45 : Int32 → Int32 → AH → Option AH} {k_X12_findFamilies_54 : Int32 → Int32 → Int32 → AH → Option AH} (hD : 2 ≤ D) (hk_X12_findFamilies_45 : ∀ (x2 : Int32) (x3 : Int32) (σ : AH) (σ' : AH), Sh σ → k_X12_findFamilies_45 x2 x3 σ = some σ' → E X l m_X12_findFamilies D 45 [(0, .ref 124), (2, .int x2), (3, .int x3)] [] σ none σ') (hk_X12_findFamilies_54 : ∀ (x2 : Int32) (x3 : Int32) (x4 : Int32) (σ : AH) (σ' : AH), Sh σ → k_X12_findFamilies_54 x2 x3 x4 σ = some σ' → E X l m_X12_findFamilies D 54 [(0, .ref 124), (2, .int x2), (3, .int x3), (4, .int x4)] [] σ none σ') : ∀ (k : Nat) (x2 : Int32) (x3 : Int32) (x4 : Int32) (x5 : Int32) (σ : AH) (σ' : AH), Sh σ → F_X12_findFamilies_63 k_X12_findFamilies_45 k_X12_findFamilies_54 k x2 x3 x4 x5 σ = some σ' → E X l m_X12_findFamilies D 63 [(0, .ref 124), (2, .int x2), (3, .int x3), (4, .int x4), (5, .int x5)] [] σ none σ' := by
  intro k
  induction k with
  | zero => intro x2 x3 x4 x5 σ σ' hs h; cases h
  | succ k ih =>
    intro x2 x3 x4 x5 σ σ' hs h
    exact w_X12_findFamilies_63 hs  (t_X12_findFamilies_63 hD hk_X12_findFamilies_45 hk_X12_findFamilies_54 ih hs  h)
set_option maxRecDepth 100000 in
theorem t_X12_findFamilies_54 {X : Sx} {l : Launch} {D : Nat} {k_X12_findFamilies_45 : Int32 → Int32 → AH → Option AH} {k_X12_findFamilies_54 : Int32 → Int32 → Int32 → AH → Option AH} {x2 : Int32} {x3 : Int32} {x4 : Int32} {σ : AH} {σ' : AH} (hD : 2 ≤ D) (hk_X12_findFamilies_45 : ∀ (x2 : Int32) (x3 : Int32) (σ : AH) (σ' : AH), Sh σ → k_X12_findFamilies_45 x2 x3 σ = some σ' → E X l m_X12_findFamilies D 45 [(0, .ref 124), (2, .int x2), (3, .int x3)] [] σ none σ') (hk_X12_findFamilies_54 : ∀ (x2 : Int32) (x3 : Int32) (x4 : Int32) (σ : AH) (σ' : AH), Sh σ → k_X12_findFamilies_54 x2 x3 x4 σ = some σ' → E X l m_X12_findFamilies D 54 [(0, .ref 124), (2, .int x2), (3, .int x3), (4, .int x4)] [] σ none σ') (hs : Sh σ) (h : B_X12_findFamilies_54 k_X12_findFamilies_45 k_X12_findFamilies_54 x2 x3 x4 σ = some σ') : W_X12_findFamilies_54 X l D x2 x3 x4 σ none σ' := by
  unfold B_X12_findFamilies_54 at h
  unfold W_X12_findFamilies_54
  refine ite_i (fun c1 => ?_) (fun c1 => ?_)
  · replace h := of_ifp h c1
    exact hk_X12_findFamilies_45 _ _ _ _ hs  h
  · replace h := of_ifn h c1
    exact e_X12_findFamilies_63 hD hk_X12_findFamilies_45 hk_X12_findFamilies_54 _ _ _ _ _ _ _ hs  h
theorem e_X12_findFamilies_54 {X : Sx} {l : Launch} {D : Nat} {k_X12_findFamilies_45 : Int32 → Int32 → AH → Option AH} (hD : 2 ≤ D) (hk_X12_findFamilies_45 : ∀ (x2 : Int32) (x3 : Int32) (σ : AH) (σ' : AH), Sh σ → k_X12_findFamilies_45 x2 x3 σ = some σ' → E X l m_X12_findFamilies D 45 [(0, .ref 124), (2, .int x2), (3, .int x3)] [] σ none σ') : ∀ (k : Nat) (x2 : Int32) (x3 : Int32) (x4 : Int32) (σ : AH) (σ' : AH), Sh σ → F_X12_findFamilies_54 k_X12_findFamilies_45 k x2 x3 x4 σ = some σ' → E X l m_X12_findFamilies D 54 [(0, .ref 124), (2, .int x2), (3, .int x3), (4, .int x4)] [] σ none σ' := by
  intro k
  induction k with
  | zero => intro x2 x3 x4 σ σ' hs h; cases h
  | succ k ih =>
    intro x2 x3 x4 σ σ' hs h
    exact w_X12_findFamilies_54 hs  (t_X12_findFamilies_54 hD hk_X12_findFamilies_45 ih hs  h)
set_option maxRecDepth 100000 in
theorem t_X12_findFamilies_45 {X : Sx} {l : Launch} {D : Nat} {k_X12_findFamilies_45 : Int32 → Int32 → AH → Option AH} {x2 : Int32} {x3 : Int32} {σ : AH} {σ' : AH} (hD : 2 ≤ D) (hk_X12_findFamilies_45 : ∀ (x2 : Int32) (x3 : Int32) (σ : AH) (σ' : AH), Sh σ → k_X12_findFamilies_45 x2 x3 σ = some σ' → E X l m_X12_findFamilies D 45 [(0, .ref 124), (2, .int x2), (3, .int x3)] [] σ none σ') (hs : Sh σ) (h : B_X12_findFamilies_45 k_X12_findFamilies_45 x2 x3 σ = some σ') : W_X12_findFamilies_45 X l D x2 x3 σ none σ' := by
  unfold B_X12_findFamilies_45 at h
  unfold W_X12_findFamilies_45
  refine ite_i (fun c1 => ?_) (fun c1 => ?_)
  · replace h := of_ifp h c1
    exact ret_v h
  · replace h := of_ifn h c1
    exact e_X12_findFamilies_54 hD hk_X12_findFamilies_45 _ _ _ _ _ _ hs  h
theorem e_X12_findFamilies_45 {X : Sx} {l : Launch} {D : Nat} (hD : 2 ≤ D) : ∀ (k : Nat) (x2 : Int32) (x3 : Int32) (σ : AH) (σ' : AH), Sh σ → F_X12_findFamilies_45 k x2 x3 σ = some σ' → E X l m_X12_findFamilies D 45 [(0, .ref 124), (2, .int x2), (3, .int x3)] [] σ none σ' := by
  intro k
  induction k with
  | zero => intro x2 x3 σ σ' hs h; cases h
  | succ k ih =>
    intro x2 x3 σ σ' hs h
    exact w_X12_findFamilies_45 hs  (t_X12_findFamilies_45 hD ih hs  h)
set_option maxRecDepth 100000 in
theorem t_X12_findFamilies_36 {X : Sx} {l : Launch} {D : Nat} {k_X12_findFamilies_10 : Int32 → Int32 → Int32 → AH → Option AH} {x1 : Int32} {x2 : Int32} {x3 : Int32} {y0 : Int32} {y1 : Int32} {σ : AH} {σ' : AH} (hD : 2 ≤ D) (hk_X12_findFamilies_10 : ∀ (x1 : Int32) (x2 : Int32) (x3 : Int32) (σ : AH) (σ' : AH), Sh σ → k_X12_findFamilies_10 x1 x2 x3 σ = some σ' → E X l m_X12_findFamilies D 10 [(0, .ref 124), (1, .int x1), (2, .int x2), (3, .int x3)] [] σ none σ') (hs : Sh σ) (h : F_X12_findFamilies_36 k_X12_findFamilies_10 x1 x2 x3 y0 y1 σ = some σ') : W_X12_findFamilies_36 X l D x1 x2 x3 y0 y1 σ none σ' := by
  unfold F_X12_findFamilies_36 at h
  unfold W_X12_findFamilies_36
  obtain ⟨g1, h⟩ := of_gd h
  refine ⟨(inB_mp g1), ?_⟩
  exact hk_X12_findFamilies_10 _ _ _ _ _ hs  h
set_option maxRecDepth 100000 in
theorem t_X12_findFamilies_10 {X : Sx} {l : Launch} {D : Nat} {k_X12_findFamilies_10 : Int32 → Int32 → Int32 → AH → Option AH} {x1 : Int32} {x2 : Int32} {x3 : Int32} {σ : AH} {σ' : AH} (hD : 2 ≤ D) (hk_X12_findFamilies_10 : ∀ (x1 : Int32) (x2 : Int32) (x3 : Int32) (σ : AH) (σ' : AH), Sh σ → k_X12_findFamilies_10 x1 x2 x3 σ = some σ' → E X l m_X12_findFamilies D 10 [(0, .ref 124), (1, .int x1), (2, .int x2), (3, .int x3)] [] σ none σ') (hs : Sh σ) (h : B_X12_findFamilies_10 k_X12_findFamilies_10 x1 x2 x3 σ = some σ') : W_X12_findFamilies_10 X l D x1 x2 x3 σ none σ' := by
  unfold B_X12_findFamilies_10 at h
  unfold W_X12_findFamilies_10
  refine ite_i (fun c1 => ?_) (fun c1 => ?_)
  · replace h := of_ifp h c1
    exact e_X12_findFamilies_45 hD  _ _ _ _ _ hs  h
  · replace h := of_ifn h c1
    obtain ⟨v6, σ2, q2, h⟩ := of_bd h
    have hC3 := f_X12_entryAt (σ := σ) hs  q2 (X := X) (l := l)
    have hs4 := hC3.1.2.2.2.1 hs
    refine ⟨0, v6, σ2, (Nat.le_trans (by decide) hD), hC3, ?_⟩
    refine ite_i (fun c5 => ?_) (fun c5 => ?_)
    · replace h := of_ifp h c5
      exact t_X12_findFamilies_36 hD hk_X12_findFamilies_10 hs4  h
    · replace h := of_ifn h c5
      exact t_X12_findFamilies_36 hD hk_X12_findFamilies_10 hs4  h
theorem e_X12_findFamilies_10 {X : Sx} {l : Launch} {D : Nat} (hD : 2 ≤ D) : ∀ (k : Nat) (x1 : Int32) (x2 : Int32) (x3 : Int32) (σ : AH) (σ' : AH), Sh σ → F_X12_findFamilies_10 k x1 x2 x3 σ = some σ' → E X l m_X12_findFamilies D 10 [(0, .ref 124), (1, .int x1), (2, .int x2), (3, .int x3)] [] σ none σ' := by
  intro k
  induction k with
  | zero => intro x1 x2 x3 σ σ' hs h; cases h
  | succ k ih =>
    intro x1 x2 x3 σ σ' hs h
    exact w_X12_findFamilies_10 hs  (t_X12_findFamilies_10 hD ih hs  h)
set_option maxRecDepth 100000 in
theorem t_X12_findFamilies_0 {X : Sx} {l : Launch} {D : Nat} {x1 : Int32} {σ : AH} {σ' : AH} (hD : 2 ≤ D) (hs : Sh σ) (h : F_X12_findFamilies x1 σ = some σ') : W_X12_findFamilies_0 X l D x1 σ none σ' := by
  unfold F_X12_findFamilies at h
  unfold W_X12_findFamilies_0
  exact e_X12_findFamilies_10 hD  _ _ _ _ _ _ hs  h
theorem f_X12_findFamilies {X : Sx} {l : Launch} {x1 : Int32} {σ : AH} {σ' : AH} (hs : Sh σ) (h : F_X12_findFamilies x1 σ = some σ') : Call X l m_X12_findFamilies 2 [.ref 124, .int x1] σ none σ' :=
  Call.ofE ok_X12_findFamilies rfl (Nat.le_of_ble_eq_true rfl) (w_X12_findFamilies_0 hs  (t_X12_findFamilies_0 (Nat.le_refl _) hs  h))
def F_X12_family (x1 : Int32) (x2 : Int32) (σ : AH) : Option (Int32 × AH) := (bd (F_X12_isEntry x1 (sI σ 124 0 (0 : Int32))) fun v6 σ2 => (if v6 = 0 then (some ((-1 : Int32), σ2)) else (bd (F_X12_isWeek x2 σ2) fun v12 σ8 => (if v12 = 0 then (some ((-1 : Int32), σ8)) else (bv (F_X12_findFamilies x2 σ8) fun σ14 => (if inB x1 60 = true then (some ((gI σ14 160 x1.toNatClampNeg), σ14)) else none))))))
set_option maxRecDepth 100000 in
theorem t_X12_family_0 {X : Sx} {l : Launch} {D : Nat} {x1 : Int32} {x2 : Int32} {σ : AH} {v : Int32} {σ' : AH} (hD : 3 ≤ D) (hs : Sh σ) (h : F_X12_family x1 x2 σ = some (v, σ')) : W_X12_family_0 X l D x1 x2 σ (some (.int v)) σ' := by
  unfold F_X12_family at h
  unfold W_X12_family_0
  obtain ⟨v6, σ2, q1, h⟩ := of_bd h
  have hC2 := f_X12_isEntry (σ := (sI σ 124 0 (0 : Int32))) hs  q1 (X := X) (l := l)
  have hs3 := hC2.1.2.2.2.1 hs
  refine ⟨1, v6, σ2, (Nat.le_trans (by decide) hD), hC2, ?_⟩
  refine ite_i (fun c4 => ?_) (fun c4 => ?_)
  · replace h := of_ifp h c4
    exact ret_i h
  · replace h := of_ifn h c4
    obtain ⟨v12, σ8, q5, h⟩ := of_bd h
    have hC6 := f_X12_isWeek (σ := σ2) hs3  q5 (X := X) (l := l)
    have hs7 := hC6.1.2.2.2.1 hs3
    refine ⟨1, v12, σ8, (Nat.le_trans (by decide) hD), hC6, ?_⟩
    refine ite_i (fun c8 => ?_) (fun c8 => ?_)
    · replace h := of_ifp h c8
      exact ret_i h
    · replace h := of_ifn h c8
      obtain ⟨σ14, q9, h⟩ := of_bv h
      have hC10 := f_X12_findFamilies (σ := σ8) hs7  q9 (X := X) (l := l)
      have hs11 := hC10.1.2.2.2.1 hs7
      refine ⟨2, σ14, (Nat.le_trans (by decide) hD), hC10, ?_⟩
      obtain ⟨g12, h⟩ := of_gd h
      refine ⟨(inB_mp g12), ?_⟩
      exact ret_i h
theorem f_X12_family {X : Sx} {l : Launch} {x1 : Int32} {x2 : Int32} {σ : AH} {v : Int32} {σ' : AH} (hs : Sh σ) (h : F_X12_family x1 x2 σ = some (v, σ')) : Call X l m_X12_family 3 [.ref 124, .int x1, .int x2] σ (some (.int v)) σ' :=
  Call.ofE ok_X12_family rfl (Nat.le_of_ble_eq_true rfl) (w_X12_family_0 hs  (t_X12_family_0 (Nat.le_refl _) hs  h))
def F_X12_setEntry (x1 : Int32) (x2 : Int32) (σ : AH) : Option AH := (bv (F_X12_setOnly (0 : Int32) x2 σ) fun σ2 => (bd (F_X12_entryAt x1 (2 : Int32) σ2) fun v11 σ7 => (bd (F_X12_entryAt x1 (3 : Int32) (sI σ7 136 2 v11)) fun v17 σ13 => (bd (F_X12_entryAt x1 (5 : Int32) (sI σ13 136 3 v17)) fun v23 σ19 => (bd (F_X12_entryAt x1 (4 : Int32) (sI σ19 136 4 v23)) fun v29 σ25 => (some (sI σ25 136 6 v29)))))))
set_option maxRecDepth 100000 in
theorem t_X12_setEntry_0 {X : Sx} {l : Launch} {D : Nat} {x1 : Int32} {x2 : Int32} {σ : AH} {σ' : AH} (hD : 1 ≤ D) (hs : Sh σ) (h : F_X12_setEntry x1 x2 σ = some σ') : W_X12_setEntry_0 X l D x1 x2 σ none σ' := by
  unfold F_X12_setEntry at h
  unfold W_X12_setEntry_0
  obtain ⟨σ2, q1, h⟩ := of_bv h
  have hC2 := f_X12_setOnly (σ := σ) hs  q1 (X := X) (l := l)
  have hs3 := hC2.1.2.2.2.1 hs
  refine ⟨0, σ2, (Nat.le_trans (by decide) hD), hC2, ?_⟩
  obtain ⟨v11, σ7, q4, h⟩ := of_bd h
  have hC5 := f_X12_entryAt (σ := σ2) hs3  q4 (X := X) (l := l)
  have hs6 := hC5.1.2.2.2.1 hs3
  refine ⟨0, v11, σ7, (Nat.le_trans (by decide) hD), hC5, ?_⟩
  obtain ⟨v17, σ13, q7, h⟩ := of_bd h
  have hC8 := f_X12_entryAt (σ := (sI σ7 136 2 v11)) hs6  q7 (X := X) (l := l)
  have hs9 := hC8.1.2.2.2.1 hs6
  refine ⟨0, v17, σ13, (Nat.le_trans (by decide) hD), hC8, ?_⟩
  obtain ⟨v23, σ19, q10, h⟩ := of_bd h
  have hC11 := f_X12_entryAt (σ := (sI σ13 136 3 v17)) hs9  q10 (X := X) (l := l)
  have hs12 := hC11.1.2.2.2.1 hs9
  refine ⟨0, v23, σ19, (Nat.le_trans (by decide) hD), hC11, ?_⟩
  obtain ⟨v29, σ25, q13, h⟩ := of_bd h
  have hC14 := f_X12_entryAt (σ := (sI σ19 136 4 v23)) hs12  q13 (X := X) (l := l)
  have hs15 := hC14.1.2.2.2.1 hs12
  refine ⟨0, v29, σ25, (Nat.le_trans (by decide) hD), hC14, ?_⟩
  exact ret_v h
theorem f_X12_setEntry {X : Sx} {l : Launch} {x1 : Int32} {x2 : Int32} {σ : AH} {σ' : AH} (hs : Sh σ) (h : F_X12_setEntry x1 x2 σ = some σ') : Call X l m_X12_setEntry 1 [.ref 124, .int x1, .int x2] σ none σ' :=
  Call.ofE ok_X12_setEntry rfl (Nat.le_of_ble_eq_true rfl) (w_X12_setEntry_0 hs  (t_X12_setEntry_0 (Nat.le_refl _) hs  h))
def F_X12_reckonPoints_33 (x2 : Int32) (y0 : Int32) (y1 : Int32) (σ : AH) : Option (Int64 × AH) := (if inB y1 8 = true then (bd (F_X12_find (3 : Int32) (0 : Int32) (0 : Int32) (0 : Int32) x2 (sI σ 136 y1.toNatClampNeg y0)) fun v24 σ20 => (some ((gL σ20 124 32), σ20))) else none)
def F_X12_reckonPoints (x1 : Int32) (x2 : Int32) (σ : AH) : Option (Int64 × AH) := (bv (F_X12_setEntry x1 x2 σ) fun σ2 => (bd (F_X12_entryAt x1 (1 : Int32) σ2) fun v11 σ7 => (if v11 ≤ x2 then (bd (F_X12_entryAt x1 (1 : Int32) σ7) fun v17 σ13 => (F_X12_reckonPoints_33 x2 (x2 - v17) (5 : Int32) σ13)) else (F_X12_reckonPoints_33 x2 (0 : Int32) (5 : Int32) σ7))))
set_option maxRecDepth 100000 in
theorem t_X12_reckonPoints_33 {X : Sx} {l : Launch} {D : Nat} {x2 : Int32} {y0 : Int32} {y1 : Int32} {σ : AH} {v : Int64} {σ' : AH} (hD : 5 ≤ D) (hs : Sh σ) (h : F_X12_reckonPoints_33 x2 y0 y1 σ = some (v, σ')) : W_X12_reckonPoints_33 X l D x2 y0 y1 σ (some (.long v)) σ' := by
  unfold F_X12_reckonPoints_33 at h
  unfold W_X12_reckonPoints_33
  obtain ⟨g1, h⟩ := of_gd h
  refine ⟨(inB_mp g1), ?_⟩
  obtain ⟨v24, σ20, q2, h⟩ := of_bd h
  have hC3 := f_X12_find (σ := (sI σ 136 y1.toNatClampNeg y0)) hs  q2 (X := X) (l := l)
  have hs4 := hC3.1.2.2.2.1 hs
  refine ⟨4, v24, σ20, (Nat.le_trans (by decide) hD), hC3, ?_⟩
  exact ret_l h
set_option maxRecDepth 100000 in
theorem t_X12_reckonPoints_0 {X : Sx} {l : Launch} {D : Nat} {x1 : Int32} {x2 : Int32} {σ : AH} {v : Int64} {σ' : AH} (hD : 5 ≤ D) (hs : Sh σ) (h : F_X12_reckonPoints x1 x2 σ = some (v, σ')) : W_X12_reckonPoints_0 X l D x1 x2 σ (some (.long v)) σ' := by
  unfold F_X12_reckonPoints at h
  unfold W_X12_reckonPoints_0
  obtain ⟨σ2, q1, h⟩ := of_bv h
  have hC2 := f_X12_setEntry (σ := σ) hs  q1 (X := X) (l := l)
  have hs3 := hC2.1.2.2.2.1 hs
  refine ⟨1, σ2, (Nat.le_trans (by decide) hD), hC2, ?_⟩
  obtain ⟨v11, σ7, q4, h⟩ := of_bd h
  have hC5 := f_X12_entryAt (σ := σ2) hs3  q4 (X := X) (l := l)
  have hs6 := hC5.1.2.2.2.1 hs3
  refine ⟨0, v11, σ7, (Nat.le_trans (by decide) hD), hC5, ?_⟩
  refine ite_i (fun c7 => ?_) (fun c7 => ?_)
  · replace h := of_ifp h c7
    obtain ⟨v17, σ13, q8, h⟩ := of_bd h
    have hC9 := f_X12_entryAt (σ := σ7) hs6  q8 (X := X) (l := l)
    have hs10 := hC9.1.2.2.2.1 hs6
    refine ⟨0, v17, σ13, (Nat.le_trans (by decide) hD), hC9, ?_⟩
    exact t_X12_reckonPoints_33 hD  hs10  h
  · replace h := of_ifn h c7
    exact t_X12_reckonPoints_33 hD  hs6  h
theorem f_X12_reckonPoints {X : Sx} {l : Launch} {x1 : Int32} {x2 : Int32} {σ : AH} {v : Int64} {σ' : AH} (hs : Sh σ) (h : F_X12_reckonPoints x1 x2 σ = some (v, σ')) : Call X l m_X12_reckonPoints 5 [.ref 124, .int x1, .int x2] σ (some (.long v)) σ' :=
  Call.ofE ok_X12_reckonPoints rfl (Nat.le_of_ble_eq_true rfl) (w_X12_reckonPoints_0 hs  (t_X12_reckonPoints_0 (Nat.le_refl _) hs  h))
def F_X12_shown (x0 : Int64) (σ : AH) : Option (Int32 × AH) := (if x0 ≤ (1000000000 : Int64) then (if (-1000000000 : Int64) ≤ x0 then (some ((x0).toInt32, σ)) else (some ((-1000000000 : Int32), σ))) else (some ((1000000000 : Int32), σ)))
set_option maxRecDepth 100000 in
theorem t_X12_shown_0 {X : Sx} {l : Launch} {D : Nat} {x0 : Int64} {σ : AH} {v : Int32} {σ' : AH} (hD : 0 ≤ D) (hs : Sh σ) (h : F_X12_shown x0 σ = some (v, σ')) : W_X12_shown_0 X l D x0 σ (some (.int v)) σ' := by
  unfold F_X12_shown at h
  unfold W_X12_shown_0
  refine ite_i (fun c1 => ?_) (fun c1 => ?_)
  · replace h := of_ifp h c1
    refine ite_i (fun c2 => ?_) (fun c2 => ?_)
    · replace h := of_ifp h c2
      exact ret_i h
    · replace h := of_ifn h c2
      exact ret_i h
  · replace h := of_ifn h c1
    exact ret_i h
theorem f_X12_shown {X : Sx} {l : Launch} {x0 : Int64} {σ : AH} {v : Int32} {σ' : AH} (hs : Sh σ) (h : F_X12_shown x0 σ = some (v, σ')) : Call X l m_X12_shown 0 [.long x0] σ (some (.int v)) σ' :=
  Call.ofE ok_X12_shown rfl (Nat.le_of_ble_eq_true rfl) (w_X12_shown_0 hs  (t_X12_shown_0 (Nat.le_refl _) hs  h))
def F_X12_points (x1 : Int32) (x2 : Int32) (x3 : Int32) (σ : AH) : Option (Int32 × AH) := (bd (F_X12_isEntry x1 (sI σ 124 0 (0 : Int32))) fun v6 σ2 => (if v6 = 0 then (some ((-2000000000 : Int32), σ2)) else (bd (F_X12_isWeek x2 σ2) fun v12 σ8 => (if v12 = 0 then (some ((-2000000000 : Int32), σ8)) else (bd (F_X12_isWeek x3 σ8) fun v18 σ14 => (if v18 = 0 then (some ((-2000000000 : Int32), σ14)) else (bd (F_X12_entryAt x1 (6 : Int32) σ14) fun v24 σ20 => (if v24 ≤ x3 then (bv (F_X12_knowBy x3 σ20) fun σ26 => (bd (F_X12_reckonPoints x1 x2 σ26) fun v35 σ31 => (bd (F_X12_shown v35 σ31) fun v41 σ37 => (some (v41, σ37))))) else (some ((-2000000000 : Int32), σ20))))))))))
set_option maxRecDepth 100000 in
theorem t_X12_points_0 {X : Sx} {l : Launch} {D : Nat} {x1 : Int32} {x2 : Int32} {x3 : Int32} {σ : AH} {v : Int32} {σ' : AH} (hD : 6 ≤ D) (hs : Sh σ) (h : F_X12_points x1 x2 x3 σ = some (v, σ')) : W_X12_points_0 X l D x1 x2 x3 σ (some (.int v)) σ' := by
  unfold F_X12_points at h
  unfold W_X12_points_0
  obtain ⟨v6, σ2, q1, h⟩ := of_bd h
  have hC2 := f_X12_isEntry (σ := (sI σ 124 0 (0 : Int32))) hs  q1 (X := X) (l := l)
  have hs3 := hC2.1.2.2.2.1 hs
  refine ⟨1, v6, σ2, (Nat.le_trans (by decide) hD), hC2, ?_⟩
  refine ite_i (fun c4 => ?_) (fun c4 => ?_)
  · replace h := of_ifp h c4
    exact ret_i h
  · replace h := of_ifn h c4
    obtain ⟨v12, σ8, q5, h⟩ := of_bd h
    have hC6 := f_X12_isWeek (σ := σ2) hs3  q5 (X := X) (l := l)
    have hs7 := hC6.1.2.2.2.1 hs3
    refine ⟨1, v12, σ8, (Nat.le_trans (by decide) hD), hC6, ?_⟩
    refine ite_i (fun c8 => ?_) (fun c8 => ?_)
    · replace h := of_ifp h c8
      exact ret_i h
    · replace h := of_ifn h c8
      obtain ⟨v18, σ14, q9, h⟩ := of_bd h
      have hC10 := f_X12_isWeek (σ := σ8) hs7  q9 (X := X) (l := l)
      have hs11 := hC10.1.2.2.2.1 hs7
      refine ⟨1, v18, σ14, (Nat.le_trans (by decide) hD), hC10, ?_⟩
      refine ite_i (fun c12 => ?_) (fun c12 => ?_)
      · replace h := of_ifp h c12
        exact ret_i h
      · replace h := of_ifn h c12
        obtain ⟨v24, σ20, q13, h⟩ := of_bd h
        have hC14 := f_X12_entryAt (σ := σ14) hs11  q13 (X := X) (l := l)
        have hs15 := hC14.1.2.2.2.1 hs11
        refine ⟨0, v24, σ20, (Nat.le_trans (by decide) hD), hC14, ?_⟩
        refine ite_i (fun c16 => ?_) (fun c16 => ?_)
        · replace h := of_ifp h c16
          obtain ⟨σ26, q17, h⟩ := of_bv h
          have hC18 := f_X12_knowBy (σ := σ20) hs15  q17 (X := X) (l := l)
          have hs19 := hC18.1.2.2.2.1 hs15
          refine ⟨0, σ26, (Nat.le_trans (by decide) hD), hC18, ?_⟩
          obtain ⟨v35, σ31, q20, h⟩ := of_bd h
          have hC21 := f_X12_reckonPoints (σ := σ26) hs19  q20 (X := X) (l := l)
          have hs22 := hC21.1.2.2.2.1 hs19
          refine ⟨5, v35, σ31, (Nat.le_trans (by decide) hD), hC21, ?_⟩
          obtain ⟨v41, σ37, q23, h⟩ := of_bd h
          have hC24 := f_X12_shown (σ := σ31) hs22  q23 (X := X) (l := l)
          have hs25 := hC24.1.2.2.2.1 hs22
          refine ⟨0, v41, σ37, (Nat.le_trans (by decide) hD), hC24, ?_⟩
          exact ret_i h
        · replace h := of_ifn h c16
          exact ret_i h
theorem f_X12_points {X : Sx} {l : Launch} {x1 : Int32} {x2 : Int32} {x3 : Int32} {σ : AH} {v : Int32} {σ' : AH} (hs : Sh σ) (h : F_X12_points x1 x2 x3 σ = some (v, σ')) : Call X l m_X12_points 6 [.ref 124, .int x1, .int x2, .int x3] σ (some (.int v)) σ' :=
  Call.ofE ok_X12_points rfl (Nat.le_of_ble_eq_true rfl) (w_X12_points_0 hs  (t_X12_points_0 (Nat.le_refl _) hs  h))
def F_X12_standsAhead (x1 : Int32) (x2 : Int32) (σ : AH) : Option (Int32 × AH) := (if inB x1 60 = true then (if inB x2 60 = true then (if (gL σ 161 x1.toNatClampNeg) = (gL σ 161 x2.toNatClampNeg) then (bd (F_X12_entryAt x1 (1 : Int32) σ) fun v8 σ4 => (bd (F_X12_entryAt x2 (1 : Int32) σ4) fun v14 σ10 => (if v8 = v14 then (if x2 ≤ x1 then (some ((0 : Int32), σ10)) else (some ((1 : Int32), σ10))) else (bd (F_X12_entryAt x1 (1 : Int32) σ10) fun v20 σ16 => (bd (F_X12_entryAt x2 (1 : Int32) σ16) fun v26 σ22 => (if v26 ≤ v20 then (some ((0 : Int32), σ22)) else (some ((1 : Int32), σ22)))))))) else (if inB x1 60 = true then (if inB x2 60 = true then (if (gL σ 161 x1.toNatClampNeg) ≤ (gL σ 161 x2.toNatClampNeg) then (some ((0 : Int32), σ)) else (some ((1 : Int32), σ))) else none) else none)) else none) else none)
set_option maxRecDepth 100000 in
theorem t_X12_standsAhead_0 {X : Sx} {l : Launch} {D : Nat} {x1 : Int32} {x2 : Int32} {σ : AH} {v : Int32} {σ' : AH} (hD : 1 ≤ D) (hs : Sh σ) (h : F_X12_standsAhead x1 x2 σ = some (v, σ')) : W_X12_standsAhead_0 X l D x1 x2 σ (some (.int v)) σ' := by
  unfold F_X12_standsAhead at h
  unfold W_X12_standsAhead_0
  obtain ⟨g1, h⟩ := of_gd h
  refine ⟨(inB_mp g1), ?_⟩
  obtain ⟨g2, h⟩ := of_gd h
  refine ⟨(inB_mp g2), ?_⟩
  refine ite_i (fun c3 => ?_) (fun c3 => ?_)
  · replace h := of_ifp h c3
    obtain ⟨v8, σ4, q4, h⟩ := of_bd h
    have hC5 := f_X12_entryAt (σ := σ) hs  q4 (X := X) (l := l)
    have hs6 := hC5.1.2.2.2.1 hs
    refine ⟨0, v8, σ4, (Nat.le_trans (by decide) hD), hC5, ?_⟩
    obtain ⟨v14, σ10, q7, h⟩ := of_bd h
    have hC8 := f_X12_entryAt (σ := σ4) hs6  q7 (X := X) (l := l)
    have hs9 := hC8.1.2.2.2.1 hs6
    refine ⟨0, v14, σ10, (Nat.le_trans (by decide) hD), hC8, ?_⟩
    refine ite_i (fun c10 => ?_) (fun c10 => ?_)
    · replace h := of_ifp h c10
      refine ite_i (fun c11 => ?_) (fun c11 => ?_)
      · replace h := of_ifp h c11
        exact ret_i h
      · replace h := of_ifn h c11
        exact ret_i h
    · replace h := of_ifn h c10
      obtain ⟨v20, σ16, q12, h⟩ := of_bd h
      have hC13 := f_X12_entryAt (σ := σ10) hs9  q12 (X := X) (l := l)
      have hs14 := hC13.1.2.2.2.1 hs9
      refine ⟨0, v20, σ16, (Nat.le_trans (by decide) hD), hC13, ?_⟩
      obtain ⟨v26, σ22, q15, h⟩ := of_bd h
      have hC16 := f_X12_entryAt (σ := σ16) hs14  q15 (X := X) (l := l)
      have hs17 := hC16.1.2.2.2.1 hs14
      refine ⟨0, v26, σ22, (Nat.le_trans (by decide) hD), hC16, ?_⟩
      refine ite_i (fun c18 => ?_) (fun c18 => ?_)
      · replace h := of_ifp h c18
        exact ret_i h
      · replace h := of_ifn h c18
        exact ret_i h
  · replace h := of_ifn h c3
    obtain ⟨g19, h⟩ := of_gd h
    refine ⟨(inB_mp g19), ?_⟩
    obtain ⟨g20, h⟩ := of_gd h
    refine ⟨(inB_mp g20), ?_⟩
    refine ite_i (fun c21 => ?_) (fun c21 => ?_)
    · replace h := of_ifp h c21
      exact ret_i h
    · replace h := of_ifn h c21
      exact ret_i h
theorem f_X12_standsAhead {X : Sx} {l : Launch} {x1 : Int32} {x2 : Int32} {σ : AH} {v : Int32} {σ' : AH} (hs : Sh σ) (h : F_X12_standsAhead x1 x2 σ = some (v, σ')) : Call X l m_X12_standsAhead 1 [.ref 124, .int x1, .int x2] σ (some (.int v)) σ' :=
  Call.ofE ok_X12_standsAhead rfl (Nat.le_of_ble_eq_true rfl) (w_X12_standsAhead_0 hs  (t_X12_standsAhead_0 (Nat.le_refl _) hs  h))
def F_X12_findList_132 (k_X12_findList_7 : Int32 → Int32 → Int32 → AH → Option AH) (x1 : Int32) (x2 : Int32) (x3 : Int32) (σ : AH) : Option AH := (k_X12_findList_7 x1 x2 (x3 + 1) σ)
def F_X12_findList_114 (k_X12_findList_7 : Int32 → Int32 → Int32 → AH → Option AH) (x1 : Int32) (x2 : Int32) (x3 : Int32) (x4 : Int32) (σ : AH) : Option AH := (if inB x4 60 = true then (F_X12_findList_132 k_X12_findList_7 x1 x2 x3 (sI (sI σ 162 x4.toNatClampNeg x3) 124 65 ((gI (sI σ 162 x4.toNatClampNeg x3) 124 65) + (1 : Int32)))) else none)
def B_X12_findList_70 (k_X12_findList_7 : Int32 → Int32 → Int32 → AH → Option AH) (k_X12_findList_70 : Int32 → Int32 → Int32 → Int32 → AH → Option AH) (x1 : Int32) (x2 : Int32) (x3 : Int32) (x4 : Int32) (σ : AH) : Option AH := (if x4 ≤ 0 then (F_X12_findList_114 k_X12_findList_7 x1 x2 x3 x4 σ) else (if inB (x4 - (1 : Int32)) 60 = true then (bd (F_X12_standsAhead x3 (gI σ 162 (x4 - (1 : Int32)).toNatClampNeg) σ) fun v32 σ28 => (if v32 = 0 then (F_X12_findList_114 k_X12_findList_7 x1 x2 x3 x4 σ28) else (if inB (x4 - (1 : Int32)) 60 = true then (if inB x4 60 = true then (k_X12_findList_70 x1 x2 x3 (x4 + (-1)) (sI σ28 162 x4.toNatClampNeg (gI σ28 162 (x4 - (1 : Int32)).toNatClampNeg))) else none) else none))) else none))
def F_X12_findList_70 (k_X12_findList_7 : Int32 → Int32 → Int32 → AH → Option AH) : Nat → Int32 → Int32 → Int32 → Int32 → AH → Option AH := fun k => match k with | 0 => fun _ _ _ _ _ => none | k + 1 => B_X12_findList_70 k_X12_findList_7 (F_X12_findList_70 k_X12_findList_7 k)
def B_X12_findList_7 (k_X12_findList_7 : Int32 → Int32 → Int32 → AH → Option AH) (x1 : Int32) (x2 : Int32) (x3 : Int32) (σ : AH) : Option AH := (if (gI σ 125 6) ≤ x3 then (some σ) else (bd (F_X12_entryAt x3 (0 : Int32) σ) fun v6 σ2 => (if v6 = x1 then (bd (F_X12_entryAt x3 (6 : Int32) σ2) fun v12 σ8 => (if (gI σ8 124 23) < v12 then (F_X12_findList_132 k_X12_findList_7 x1 x2 x3 σ8) else (bd (F_X12_entryAt x3 (1 : Int32) σ8) fun v18 σ14 => (if x2 < v18 then (F_X12_findList_132 k_X12_findList_7 x1 x2 x3 σ14) else (bd (F_X12_reckonPoints x3 x2 σ14) fun v24 σ20 => (if inB x3 60 = true then (F_X12_findList_70 k_X12_findList_7 BIG x1 x2 x3 (gI (sL σ20 161 x3.toNatClampNeg v24) 124 65) (sL σ20 161 x3.toNatClampNeg v24)) else none)))))) else (F_X12_findList_132 k_X12_findList_7 x1 x2 x3 σ2))))
def F_X12_findList_7 : Nat → Int32 → Int32 → Int32 → AH → Option AH := fun k => match k with | 0 => fun _ _ _ _ => none | k + 1 => B_X12_findList_7 (F_X12_findList_7 k)
def F_X12_findList (x1 : Int32) (x2 : Int32) (σ : AH) : Option AH := (F_X12_findList_7 BIG x1 x2 (0 : Int32) (sI σ 124 65 (0 : Int32)))
set_option maxRecDepth 100000 in
theorem t_X12_findList_132 {X : Sx} {l : Launch} {D : Nat} {k_X12_findList_7 : Int32 → Int32 → Int32 → AH → Option AH} {x1 : Int32} {x2 : Int32} {x3 : Int32} {σ : AH} {σ' : AH} (hD : 6 ≤ D) (hk_X12_findList_7 : ∀ (x1 : Int32) (x2 : Int32) (x3 : Int32) (σ : AH) (σ' : AH), Sh σ → k_X12_findList_7 x1 x2 x3 σ = some σ' → E X l m_X12_findList D 7 [(0, .ref 124), (1, .int x1), (2, .int x2), (3, .int x3)] [] σ none σ') (hs : Sh σ) (h : F_X12_findList_132 k_X12_findList_7 x1 x2 x3 σ = some σ') : W_X12_findList_132 X l D x1 x2 x3 σ none σ' := by
  unfold F_X12_findList_132 at h
  unfold W_X12_findList_132
  exact hk_X12_findList_7 _ _ _ _ _ hs  h
set_option maxRecDepth 100000 in
theorem t_X12_findList_114 {X : Sx} {l : Launch} {D : Nat} {k_X12_findList_7 : Int32 → Int32 → Int32 → AH → Option AH} {x1 : Int32} {x2 : Int32} {x3 : Int32} {x4 : Int32} {σ : AH} {σ' : AH} (hD : 6 ≤ D) (hk_X12_findList_7 : ∀ (x1 : Int32) (x2 : Int32) (x3 : Int32) (σ : AH) (σ' : AH), Sh σ → k_X12_findList_7 x1 x2 x3 σ = some σ' → E X l m_X12_findList D 7 [(0, .ref 124), (1, .int x1), (2, .int x2), (3, .int x3)] [] σ none σ') (hs : Sh σ) (h : F_X12_findList_114 k_X12_findList_7 x1 x2 x3 x4 σ = some σ') : W_X12_findList_114 X l D x1 x2 x3 x4 σ none σ' := by
  unfold F_X12_findList_114 at h
  unfold W_X12_findList_114
  obtain ⟨g1, h⟩ := of_gd h
  refine ⟨(inB_mp g1), ?_⟩
  exact t_X12_findList_132 hD hk_X12_findList_7 hs  h
set_option maxRecDepth 100000 in
theorem t_X12_findList_70 {X : Sx} {l : Launch} {D : Nat} {k_X12_findList_7 : Int32 → Int32 → Int32 → AH → Option AH} {k_X12_findList_70 : Int32 → Int32 → Int32 → Int32 → AH → Option AH} {x1 : Int32} {x2 : Int32} {x3 : Int32} {x4 : Int32} {σ : AH} {σ' : AH} (hD : 6 ≤ D) (hk_X12_findList_7 : ∀ (x1 : Int32) (x2 : Int32) (x3 : Int32) (σ : AH) (σ' : AH), Sh σ → k_X12_findList_7 x1 x2 x3 σ = some σ' → E X l m_X12_findList D 7 [(0, .ref 124), (1, .int x1), (2, .int x2), (3, .int x3)] [] σ none σ') (hk_X12_findList_70 : ∀ (x1 : Int32) (x2 : Int32) (x3 : Int32) (x4 : Int32) (σ : AH) (σ' : AH), Sh σ → k_X12_findList_70 x1 x2 x3 x4 σ = some σ' → E X l m_X12_findList D 70 [(0, .ref 124), (1, .int x1), (2, .int x2), (3, .int x3), (4, .int x4)] [] σ none σ') (hs : Sh σ) (h : B_X12_findList_70 k_X12_findList_7 k_X12_findList_70 x1 x2 x3 x4 σ = some σ') : W_X12_findList_70 X l D x1 x2 x3 x4 σ none σ' := by
  unfold B_X12_findList_70 at h
  unfold W_X12_findList_70
  refine ite_i (fun c1 => ?_) (fun c1 => ?_)
  · replace h := of_ifp h c1
    exact t_X12_findList_114 hD hk_X12_findList_7 hs  h
  · replace h := of_ifn h c1
    obtain ⟨g2, h⟩ := of_gd h
    refine ⟨(inB_mp g2), ?_⟩
    obtain ⟨v32, σ28, q3, h⟩ := of_bd h
    have hC4 := f_X12_standsAhead (σ := σ) hs  q3 (X := X) (l := l)
    have hs5 := hC4.1.2.2.2.1 hs
    refine ⟨1, v32, σ28, (Nat.le_trans (by decide) hD), hC4, ?_⟩
    refine ite_i (fun c6 => ?_) (fun c6 => ?_)
    · replace h := of_ifp h c6
      exact t_X12_findList_114 hD hk_X12_findList_7 hs5  h
    · replace h := of_ifn h c6
      obtain ⟨g7, h⟩ := of_gd h
      refine ⟨(inB_mp g7), ?_⟩
      obtain ⟨g8, h⟩ := of_gd h
      refine ⟨(inB_mp g8), ?_⟩
      exact hk_X12_findList_70 _ _ _ _ _ _ hs5  h
theorem e_X12_findList_70 {X : Sx} {l : Launch} {D : Nat} {k_X12_findList_7 : Int32 → Int32 → Int32 → AH → Option AH} (hD : 6 ≤ D) (hk_X12_findList_7 : ∀ (x1 : Int32) (x2 : Int32) (x3 : Int32) (σ : AH) (σ' : AH), Sh σ → k_X12_findList_7 x1 x2 x3 σ = some σ' → E X l m_X12_findList D 7 [(0, .ref 124), (1, .int x1), (2, .int x2), (3, .int x3)] [] σ none σ') : ∀ (k : Nat) (x1 : Int32) (x2 : Int32) (x3 : Int32) (x4 : Int32) (σ : AH) (σ' : AH), Sh σ → F_X12_findList_70 k_X12_findList_7 k x1 x2 x3 x4 σ = some σ' → E X l m_X12_findList D 70 [(0, .ref 124), (1, .int x1), (2, .int x2), (3, .int x3), (4, .int x4)] [] σ none σ' := by
  intro k
  induction k with
  | zero => intro x1 x2 x3 x4 σ σ' hs h; cases h
  | succ k ih =>
    intro x1 x2 x3 x4 σ σ' hs h
    exact w_X12_findList_70 hs  (t_X12_findList_70 hD hk_X12_findList_7 ih hs  h)
set_option maxRecDepth 100000 in
theorem t_X12_findList_7 {X : Sx} {l : Launch} {D : Nat} {k_X12_findList_7 : Int32 → Int32 → Int32 → AH → Option AH} {x1 : Int32} {x2 : Int32} {x3 : Int32} {σ : AH} {σ' : AH} (hD : 6 ≤ D) (hk_X12_findList_7 : ∀ (x1 : Int32) (x2 : Int32) (x3 : Int32) (σ : AH) (σ' : AH), Sh σ → k_X12_findList_7 x1 x2 x3 σ = some σ' → E X l m_X12_findList D 7 [(0, .ref 124), (1, .int x1), (2, .int x2), (3, .int x3)] [] σ none σ') (hs : Sh σ) (h : B_X12_findList_7 k_X12_findList_7 x1 x2 x3 σ = some σ') : W_X12_findList_7 X l D x1 x2 x3 σ none σ' := by
  unfold B_X12_findList_7 at h
  unfold W_X12_findList_7
  refine ite_i (fun c1 => ?_) (fun c1 => ?_)
  · replace h := of_ifp h c1
    exact ret_v h
  · replace h := of_ifn h c1
    obtain ⟨v6, σ2, q2, h⟩ := of_bd h
    have hC3 := f_X12_entryAt (σ := σ) hs  q2 (X := X) (l := l)
    have hs4 := hC3.1.2.2.2.1 hs
    refine ⟨0, v6, σ2, (Nat.le_trans (by decide) hD), hC3, ?_⟩
    refine ite_i (fun c5 => ?_) (fun c5 => ?_)
    · replace h := of_ifp h c5
      obtain ⟨v12, σ8, q6, h⟩ := of_bd h
      have hC7 := f_X12_entryAt (σ := σ2) hs4  q6 (X := X) (l := l)
      have hs8 := hC7.1.2.2.2.1 hs4
      refine ⟨0, v12, σ8, (Nat.le_trans (by decide) hD), hC7, ?_⟩
      refine ite_i (fun c9 => ?_) (fun c9 => ?_)
      · replace h := of_ifp h c9
        exact t_X12_findList_132 hD hk_X12_findList_7 hs8  h
      · replace h := of_ifn h c9
        obtain ⟨v18, σ14, q10, h⟩ := of_bd h
        have hC11 := f_X12_entryAt (σ := σ8) hs8  q10 (X := X) (l := l)
        have hs12 := hC11.1.2.2.2.1 hs8
        refine ⟨0, v18, σ14, (Nat.le_trans (by decide) hD), hC11, ?_⟩
        refine ite_i (fun c13 => ?_) (fun c13 => ?_)
        · replace h := of_ifp h c13
          exact t_X12_findList_132 hD hk_X12_findList_7 hs12  h
        · replace h := of_ifn h c13
          obtain ⟨v24, σ20, q14, h⟩ := of_bd h
          have hC15 := f_X12_reckonPoints (σ := σ14) hs12  q14 (X := X) (l := l)
          have hs16 := hC15.1.2.2.2.1 hs12
          refine ⟨5, v24, σ20, (Nat.le_trans (by decide) hD), hC15, ?_⟩
          obtain ⟨g17, h⟩ := of_gd h
          refine ⟨(inB_mp g17), ?_⟩
          exact e_X12_findList_70 hD hk_X12_findList_7 _ _ _ _ _ _ _ hs16  h
    · replace h := of_ifn h c5
      exact t_X12_findList_132 hD hk_X12_findList_7 hs4  h
theorem e_X12_findList_7 {X : Sx} {l : Launch} {D : Nat} (hD : 6 ≤ D) : ∀ (k : Nat) (x1 : Int32) (x2 : Int32) (x3 : Int32) (σ : AH) (σ' : AH), Sh σ → F_X12_findList_7 k x1 x2 x3 σ = some σ' → E X l m_X12_findList D 7 [(0, .ref 124), (1, .int x1), (2, .int x2), (3, .int x3)] [] σ none σ' := by
  intro k
  induction k with
  | zero => intro x1 x2 x3 σ σ' hs h; cases h
  | succ k ih =>
    intro x1 x2 x3 σ σ' hs h
    exact w_X12_findList_7 hs  (t_X12_findList_7 hD ih hs  h)
set_option maxRecDepth 100000 in
theorem t_X12_findList_0 {X : Sx} {l : Launch} {D : Nat} {x1 : Int32} {x2 : Int32} {σ : AH} {σ' : AH} (hD : 6 ≤ D) (hs : Sh σ) (h : F_X12_findList x1 x2 σ = some σ') : W_X12_findList_0 X l D x1 x2 σ none σ' := by
  unfold F_X12_findList at h
  unfold W_X12_findList_0
  exact e_X12_findList_7 hD  _ _ _ _ _ _ hs  h
theorem f_X12_findList {X : Sx} {l : Launch} {x1 : Int32} {x2 : Int32} {σ : AH} {σ' : AH} (hs : Sh σ) (h : F_X12_findList x1 x2 σ = some σ') : Call X l m_X12_findList 6 [.ref 124, .int x1, .int x2] σ none σ' :=
  Call.ofE ok_X12_findList rfl (Nat.le_of_ble_eq_true rfl) (w_X12_findList_0 hs  (t_X12_findList_0 (Nat.le_refl _) hs  h))
def F_X12_order (x1 : Int32) (x2 : Int32) (x3 : Int32) (x4 : Int32) (σ : AH) : Option (Int32 × AH) := (bd (F_X12_isCouncil x1 (sI σ 124 0 (0 : Int32))) fun v6 σ2 => (if v6 = 0 then (some ((-1 : Int32), σ2)) else (bd (F_X12_isWeek x2 σ2) fun v12 σ8 => (if v12 = 0 then (some ((-1 : Int32), σ8)) else (bd (F_X12_isWeek x3 σ8) fun v18 σ14 => (if v18 = 0 then (some ((-1 : Int32), σ14)) else (bv (F_X12_knowBy x3 σ14) fun σ20 => (bv (F_X12_findList x1 x2 σ20) fun σ25 => (if x4 = (-1 : Int32) then (some ((gI σ25 124 65), σ25)) else (bd (F_X12_in (x4).toInt64 (0 : Int64) (((gI σ25 124 65)).toInt64 - (1 : Int64)) σ25) fun v34 σ30 => (if v34 = 0 then (some ((-1 : Int32), σ30)) else (if inB x4 60 = true then (some ((gI σ30 162 x4.toNatClampNeg), σ30)) else none))))))))))))
set_option maxRecDepth 100000 in
theorem t_X12_order_0 {X : Sx} {l : Launch} {D : Nat} {x1 : Int32} {x2 : Int32} {x3 : Int32} {x4 : Int32} {σ : AH} {v : Int32} {σ' : AH} (hD : 7 ≤ D) (hs : Sh σ) (h : F_X12_order x1 x2 x3 x4 σ = some (v, σ')) : W_X12_order_0 X l D x1 x2 x3 x4 σ (some (.int v)) σ' := by
  unfold F_X12_order at h
  unfold W_X12_order_0
  obtain ⟨v6, σ2, q1, h⟩ := of_bd h
  have hC2 := f_X12_isCouncil (σ := (sI σ 124 0 (0 : Int32))) hs  q1 (X := X) (l := l)
  have hs3 := hC2.1.2.2.2.1 hs
  refine ⟨1, v6, σ2, (Nat.le_trans (by decide) hD), hC2, ?_⟩
  refine ite_i (fun c4 => ?_) (fun c4 => ?_)
  · replace h := of_ifp h c4
    exact ret_i h
  · replace h := of_ifn h c4
    obtain ⟨v12, σ8, q5, h⟩ := of_bd h
    have hC6 := f_X12_isWeek (σ := σ2) hs3  q5 (X := X) (l := l)
    have hs7 := hC6.1.2.2.2.1 hs3
    refine ⟨1, v12, σ8, (Nat.le_trans (by decide) hD), hC6, ?_⟩
    refine ite_i (fun c8 => ?_) (fun c8 => ?_)
    · replace h := of_ifp h c8
      exact ret_i h
    · replace h := of_ifn h c8
      obtain ⟨v18, σ14, q9, h⟩ := of_bd h
      have hC10 := f_X12_isWeek (σ := σ8) hs7  q9 (X := X) (l := l)
      have hs11 := hC10.1.2.2.2.1 hs7
      refine ⟨1, v18, σ14, (Nat.le_trans (by decide) hD), hC10, ?_⟩
      refine ite_i (fun c12 => ?_) (fun c12 => ?_)
      · replace h := of_ifp h c12
        exact ret_i h
      · replace h := of_ifn h c12
        obtain ⟨σ20, q13, h⟩ := of_bv h
        have hC14 := f_X12_knowBy (σ := σ14) hs11  q13 (X := X) (l := l)
        have hs15 := hC14.1.2.2.2.1 hs11
        refine ⟨0, σ20, (Nat.le_trans (by decide) hD), hC14, ?_⟩
        obtain ⟨σ25, q16, h⟩ := of_bv h
        have hC17 := f_X12_findList (σ := σ20) hs15  q16 (X := X) (l := l)
        have hs18 := hC17.1.2.2.2.1 hs15
        refine ⟨6, σ25, (Nat.le_trans (by decide) hD), hC17, ?_⟩
        refine ite_i (fun c19 => ?_) (fun c19 => ?_)
        · replace h := of_ifp h c19
          exact ret_i h
        · replace h := of_ifn h c19
          obtain ⟨v34, σ30, q20, h⟩ := of_bd h
          have hC21 := f_X12_in (σ := σ25) hs18  q20 (X := X) (l := l)
          have hs22 := hC21.1.2.2.2.1 hs18
          refine ⟨0, v34, σ30, (Nat.le_trans (by decide) hD), hC21, ?_⟩
          refine ite_i (fun c23 => ?_) (fun c23 => ?_)
          · replace h := of_ifp h c23
            exact ret_i h
          · replace h := of_ifn h c23
            obtain ⟨g24, h⟩ := of_gd h
            refine ⟨(inB_mp g24), ?_⟩
            exact ret_i h
theorem f_X12_order {X : Sx} {l : Launch} {x1 : Int32} {x2 : Int32} {x3 : Int32} {x4 : Int32} {σ : AH} {v : Int32} {σ' : AH} (hs : Sh σ) (h : F_X12_order x1 x2 x3 x4 σ = some (v, σ')) : Call X l m_X12_order 7 [.ref 124, .int x1, .int x2, .int x3, .int x4] σ (some (.int v)) σ' :=
  Call.ofE ok_X12_order rfl (Nat.le_of_ble_eq_true rfl) (w_X12_order_0 hs  (t_X12_order_0 (Nat.le_refl _) hs  h))
def F_X12_beside_218 (k_X12_beside_121 : Int32 → Int32 → AH → Option (Int32 × AH)) (k_X12_beside_133 : Int32 → Int32 → Int32 → AH → Option (Int32 × AH)) (x6 : Int32) (x7 : Int32) (y0 : Int32) (y1 : Int32) (σ : AH) : Option (Int32 × AH) := (k_X12_beside_133 (y1 + y0) x6 (x7 + 1) σ)
def F_X12_beside_217 (k_X12_beside_121 : Int32 → Int32 → AH → Option (Int32 × AH)) (k_X12_beside_133 : Int32 → Int32 → Int32 → AH → Option (Int32 × AH)) (x6 : Int32) (x7 : Int32) (y0 : Int32) (σ : AH) : Option (Int32 × AH) := (F_X12_beside_218 k_X12_beside_121 k_X12_beside_133 x6 x7 (0 : Int32) y0 σ)
def F_X12_beside_177 (k_X12_beside_121 : Int32 → Int32 → AH → Option (Int32 × AH)) (k_X12_beside_133 : Int32 → Int32 → Int32 → AH → Option (Int32 × AH)) (x5 : Int32) (x6 : Int32) (x7 : Int32) (y0 : Int32) (σ : AH) : Option (Int32 × AH) := (if y0 = 0 then (F_X12_beside_217 k_X12_beside_121 k_X12_beside_133 x6 x7 x5 σ) else (if inB x6 60 = true then (if inB (gI σ 162 x6.toNatClampNeg) 60 = true then (if inB x7 60 = true then (if inB (gI σ 162 x7.toNatClampNeg) 60 = true then (if (gI σ 163 (gI σ 162 x7.toNatClampNeg).toNatClampNeg) ≤ (gI σ 163 (gI σ 162 x6.toNatClampNeg).toNatClampNeg) then (F_X12_beside_217 k_X12_beside_121 k_X12_beside_133 x6 x7 x5 σ) else (F_X12_beside_218 k_X12_beside_121 k_X12_beside_133 x6 x7 (1 : Int32) x5 σ)) else none) else none) else none) else none))
def F_X12_beside_176 (k_X12_beside_121 : Int32 → Int32 → AH → Option (Int32 × AH)) (k_X12_beside_133 : Int32 → Int32 → Int32 → AH → Option (Int32 × AH)) (x5 : Int32) (x6 : Int32) (x7 : Int32) (σ : AH) : Option (Int32 × AH) := (F_X12_beside_177 k_X12_beside_121 k_X12_beside_133 x5 x6 x7 (0 : Int32) σ)
def B_X12_beside_133 (k_X12_beside_121 : Int32 → Int32 → AH → Option (Int32 × AH)) (k_X12_beside_133 : Int32 → Int32 → Int32 → AH → Option (Int32 × AH)) (x5 : Int32) (x6 : Int32) (x7 : Int32) (σ : AH) : Option (Int32 × AH) := (if x6 ≤ x7 then (k_X12_beside_121 x5 (x6 + 1) σ) else (if inB x6 60 = true then (if inB (gI σ 162 x6.toNatClampNeg) 60 = true then (if (gI σ 163 (gI σ 162 x6.toNatClampNeg).toNatClampNeg) = (-1 : Int32) then (F_X12_beside_176 k_X12_beside_121 k_X12_beside_133 x5 x6 x7 σ) else (if inB x7 60 = true then (if inB (gI σ 162 x7.toNatClampNeg) 60 = true then (if (gI σ 163 (gI σ 162 x7.toNatClampNeg).toNatClampNeg) = (-1 : Int32) then (F_X12_beside_176 k_X12_beside_121 k_X12_beside_133 x5 x6 x7 σ) else (F_X12_beside_177 k_X12_beside_121 k_X12_beside_133 x5 x6 x7 (1 : Int32) σ)) else none) else none)) else none) else none))
def F_X12_beside_133 (k_X12_beside_121 : Int32 → Int32 → AH → Option (Int32 × AH)) : Nat → Int32 → Int32 → Int32 → AH → Option (Int32 × AH) := fun k => match k with | 0 => fun _ _ _ _ => none | k + 1 => B_X12_beside_133 k_X12_beside_121 (F_X12_beside_133 k_X12_beside_121 k)
def B_X12_beside_121 (k_X12_beside_121 : Int32 → Int32 → AH → Option (Int32 × AH)) (x5 : Int32) (x6 : Int32) (σ : AH) : Option (Int32 × AH) := (if (gI σ 124 65) ≤ x6 then (some (x5, σ)) else (F_X12_beside_133 k_X12_beside_121 BIG x5 x6 (0 : Int32) σ))
def F_X12_beside_121 : Nat → Int32 → Int32 → AH → Option (Int32 × AH) := fun k => match k with | 0 => fun _ _ _ => none | k + 1 => B_X12_beside_121 (F_X12_beside_121 k)
def B_X12_beside_74 (k_X12_beside_74 : Int32 → Int32 → Int32 → Int32 → AH → Option (Int32 × AH)) (x1 : Int32) (x2 : Int32) (x4 : Int32) (x5 : Int32) (σ : AH) : Option (Int32 × AH) := (if (gI σ 124 65) ≤ x5 then (bv (F_X12_knowBy x4 σ) fun σ37 => (bv (F_X12_findList x1 x2 σ37) fun σ42 => (F_X12_beside_121 BIG (0 : Int32) (0 : Int32) σ42))) else (if inB x5 60 = true then (if inB (gI σ 162 x5.toNatClampNeg) 60 = true then (k_X12_beside_74 x1 x2 x4 (x5 + 1) (sI σ 163 ((gI σ 162 x5.toNatClampNeg).toNatClampNeg) x5)) else none) else none))
def F_X12_beside_74 : Nat → Int32 → Int32 → Int32 → Int32 → AH → Option (Int32 × AH) := fun k => match k with | 0 => fun _ _ _ _ _ => none | k + 1 => B_X12_beside_74 (F_X12_beside_74 k)
def B_X12_beside_39 (k_X12_beside_39 : Int32 → Int32 → Int32 → Int32 → Int32 → AH → Option (Int32 × AH)) (x1 : Int32) (x2 : Int32) (x3 : Int32) (x4 : Int32) (x5 : Int32) (σ : AH) : Option (Int32 × AH) := (if (60 : Int32) ≤ x5 then (bv (F_X12_knowBy x3 σ) fun σ26 => (bv (F_X12_findList x1 x2 σ26) fun σ31 => (F_X12_beside_74 BIG x1 x2 x4 (0 : Int32) σ31))) else (if inB x5 60 = true then (k_X12_beside_39 x1 x2 x3 x4 (x5 + 1) (sI σ 163 x5.toNatClampNeg (-1 : Int32))) else none))
def F_X12_beside_39 : Nat → Int32 → Int32 → Int32 → Int32 → Int32 → AH → Option (Int32 × AH) := fun k => match k with | 0 => fun _ _ _ _ _ _ => none | k + 1 => B_X12_beside_39 (F_X12_beside_39 k)
def F_X12_beside (x1 : Int32) (x2 : Int32) (x3 : Int32) (x4 : Int32) (σ : AH) : Option (Int32 × AH) := (bd (F_X12_isCouncil x1 (sI σ 124 0 (0 : Int32))) fun v6 σ2 => (if v6 = 0 then (some ((-1 : Int32), σ2)) else (bd (F_X12_isWeek x2 σ2) fun v12 σ8 => (if v12 = 0 then (some ((-1 : Int32), σ8)) else (bd (F_X12_isWeek x3 σ8) fun v18 σ14 => (if v18 = 0 then (some ((-1 : Int32), σ14)) else (bd (F_X12_isWeek x4 σ14) fun v24 σ20 => (if v24 = 0 then (some ((-1 : Int32), σ20)) else (F_X12_beside_39 BIG x1 x2 x3 x4 (0 : Int32) σ20)))))))))
set_option maxRecDepth 100000 in
theorem t_X12_beside_218 {X : Sx} {l : Launch} {D : Nat} {k_X12_beside_121 : Int32 → Int32 → AH → Option (Int32 × AH)} {k_X12_beside_133 : Int32 → Int32 → Int32 → AH → Option (Int32 × AH)} {x6 : Int32} {x7 : Int32} {y0 : Int32} {y1 : Int32} {σ : AH} {v : Int32} {σ' : AH} (hD : 7 ≤ D) (hk_X12_beside_121 : ∀ (x5 : Int32) (x6 : Int32) (σ : AH) (v : Int32) (σ' : AH), Sh σ → k_X12_beside_121 x5 x6 σ = some (v, σ') → E X l m_X12_beside D 121 [(0, .ref 124), (5, .int x5), (6, .int x6)] [] σ (some (.int v)) σ') (hk_X12_beside_133 : ∀ (x5 : Int32) (x6 : Int32) (x7 : Int32) (σ : AH) (v : Int32) (σ' : AH), Sh σ → k_X12_beside_133 x5 x6 x7 σ = some (v, σ') → E X l m_X12_beside D 133 [(0, .ref 124), (5, .int x5), (6, .int x6), (7, .int x7)] [] σ (some (.int v)) σ') (hs : Sh σ) (h : F_X12_beside_218 k_X12_beside_121 k_X12_beside_133 x6 x7 y0 y1 σ = some (v, σ')) : W_X12_beside_218 X l D x6 x7 y0 y1 σ (some (.int v)) σ' := by
  unfold F_X12_beside_218 at h
  unfold W_X12_beside_218
  exact hk_X12_beside_133 _ _ _ _ _ _ hs  h
set_option maxRecDepth 100000 in
theorem t_X12_beside_217 {X : Sx} {l : Launch} {D : Nat} {k_X12_beside_121 : Int32 → Int32 → AH → Option (Int32 × AH)} {k_X12_beside_133 : Int32 → Int32 → Int32 → AH → Option (Int32 × AH)} {x6 : Int32} {x7 : Int32} {y0 : Int32} {σ : AH} {v : Int32} {σ' : AH} (hD : 7 ≤ D) (hk_X12_beside_121 : ∀ (x5 : Int32) (x6 : Int32) (σ : AH) (v : Int32) (σ' : AH), Sh σ → k_X12_beside_121 x5 x6 σ = some (v, σ') → E X l m_X12_beside D 121 [(0, .ref 124), (5, .int x5), (6, .int x6)] [] σ (some (.int v)) σ') (hk_X12_beside_133 : ∀ (x5 : Int32) (x6 : Int32) (x7 : Int32) (σ : AH) (v : Int32) (σ' : AH), Sh σ → k_X12_beside_133 x5 x6 x7 σ = some (v, σ') → E X l m_X12_beside D 133 [(0, .ref 124), (5, .int x5), (6, .int x6), (7, .int x7)] [] σ (some (.int v)) σ') (hs : Sh σ) (h : F_X12_beside_217 k_X12_beside_121 k_X12_beside_133 x6 x7 y0 σ = some (v, σ')) : W_X12_beside_217 X l D x6 x7 y0 σ (some (.int v)) σ' := by
  unfold F_X12_beside_217 at h
  unfold W_X12_beside_217
  exact t_X12_beside_218 hD hk_X12_beside_121 hk_X12_beside_133 hs  h
set_option maxRecDepth 100000 in
theorem t_X12_beside_177 {X : Sx} {l : Launch} {D : Nat} {k_X12_beside_121 : Int32 → Int32 → AH → Option (Int32 × AH)} {k_X12_beside_133 : Int32 → Int32 → Int32 → AH → Option (Int32 × AH)} {x5 : Int32} {x6 : Int32} {x7 : Int32} {y0 : Int32} {σ : AH} {v : Int32} {σ' : AH} (hD : 7 ≤ D) (hk_X12_beside_121 : ∀ (x5 : Int32) (x6 : Int32) (σ : AH) (v : Int32) (σ' : AH), Sh σ → k_X12_beside_121 x5 x6 σ = some (v, σ') → E X l m_X12_beside D 121 [(0, .ref 124), (5, .int x5), (6, .int x6)] [] σ (some (.int v)) σ') (hk_X12_beside_133 : ∀ (x5 : Int32) (x6 : Int32) (x7 : Int32) (σ : AH) (v : Int32) (σ' : AH), Sh σ → k_X12_beside_133 x5 x6 x7 σ = some (v, σ') → E X l m_X12_beside D 133 [(0, .ref 124), (5, .int x5), (6, .int x6), (7, .int x7)] [] σ (some (.int v)) σ') (hs : Sh σ) (h : F_X12_beside_177 k_X12_beside_121 k_X12_beside_133 x5 x6 x7 y0 σ = some (v, σ')) : W_X12_beside_177 X l D x5 x6 x7 y0 σ (some (.int v)) σ' := by
  unfold F_X12_beside_177 at h
  unfold W_X12_beside_177
  refine ite_i (fun c1 => ?_) (fun c1 => ?_)
  · replace h := of_ifp h c1
    exact t_X12_beside_217 hD hk_X12_beside_121 hk_X12_beside_133 hs  h
  · replace h := of_ifn h c1
    obtain ⟨g2, h⟩ := of_gd h
    refine ⟨(inB_mp g2), ?_⟩
    obtain ⟨g3, h⟩ := of_gd h
    refine ⟨(inB_mp g3), ?_⟩
    obtain ⟨g4, h⟩ := of_gd h
    refine ⟨(inB_mp g4), ?_⟩
    obtain ⟨g5, h⟩ := of_gd h
    refine ⟨(inB_mp g5), ?_⟩
    refine ite_i (fun c6 => ?_) (fun c6 => ?_)
    · replace h := of_ifp h c6
      exact t_X12_beside_217 hD hk_X12_beside_121 hk_X12_beside_133 hs  h
    · replace h := of_ifn h c6
      exact t_X12_beside_218 hD hk_X12_beside_121 hk_X12_beside_133 hs  h
set_option maxRecDepth 100000 in
theorem t_X12_beside_176 {X : Sx} {l : Launch} {D : Nat} {k_X12_beside_121 : Int32 → Int32 → AH → Option (Int32 × AH)} {k_X12_beside_133 : Int32 → Int32 → Int32 → AH → Option (Int32 × AH)} {x5 : Int32} {x6 : Int32} {x7 : Int32} {σ : AH} {v : Int32} {σ' : AH} (hD : 7 ≤ D) (hk_X12_beside_121 : ∀ (x5 : Int32) (x6 : Int32) (σ : AH) (v : Int32) (σ' : AH), Sh σ → k_X12_beside_121 x5 x6 σ = some (v, σ') → E X l m_X12_beside D 121 [(0, .ref 124), (5, .int x5), (6, .int x6)] [] σ (some (.int v)) σ') (hk_X12_beside_133 : ∀ (x5 : Int32) (x6 : Int32) (x7 : Int32) (σ : AH) (v : Int32) (σ' : AH), Sh σ → k_X12_beside_133 x5 x6 x7 σ = some (v, σ') → E X l m_X12_beside D 133 [(0, .ref 124), (5, .int x5), (6, .int x6), (7, .int x7)] [] σ (some (.int v)) σ') (hs : Sh σ) (h : F_X12_beside_176 k_X12_beside_121 k_X12_beside_133 x5 x6 x7 σ = some (v, σ')) : W_X12_beside_176 X l D x5 x6 x7 σ (some (.int v)) σ' := by
  unfold F_X12_beside_176 at h
  unfold W_X12_beside_176
  exact t_X12_beside_177 hD hk_X12_beside_121 hk_X12_beside_133 hs  h
set_option maxRecDepth 100000 in
theorem t_X12_beside_133 {X : Sx} {l : Launch} {D : Nat} {k_X12_beside_121 : Int32 → Int32 → AH → Option (Int32 × AH)} {k_X12_beside_133 : Int32 → Int32 → Int32 → AH → Option (Int32 × AH)} {x5 : Int32} {x6 : Int32} {x7 : Int32} {σ : AH} {v : Int32} {σ' : AH} (hD : 7 ≤ D) (hk_X12_beside_121 : ∀ (x5 : Int32) (x6 : Int32) (σ : AH) (v : Int32) (σ' : AH), Sh σ → k_X12_beside_121 x5 x6 σ = some (v, σ') → E X l m_X12_beside D 121 [(0, .ref 124), (5, .int x5), (6, .int x6)] [] σ (some (.int v)) σ') (hk_X12_beside_133 : ∀ (x5 : Int32) (x6 : Int32) (x7 : Int32) (σ : AH) (v : Int32) (σ' : AH), Sh σ → k_X12_beside_133 x5 x6 x7 σ = some (v, σ') → E X l m_X12_beside D 133 [(0, .ref 124), (5, .int x5), (6, .int x6), (7, .int x7)] [] σ (some (.int v)) σ') (hs : Sh σ) (h : B_X12_beside_133 k_X12_beside_121 k_X12_beside_133 x5 x6 x7 σ = some (v, σ')) : W_X12_beside_133 X l D x5 x6 x7 σ (some (.int v)) σ' := by
  unfold B_X12_beside_133 at h
  unfold W_X12_beside_133
  refine ite_i (fun c1 => ?_) (fun c1 => ?_)
  · replace h := of_ifp h c1
    exact hk_X12_beside_121 _ _ _ _ _ hs  h
  · replace h := of_ifn h c1
    obtain ⟨g2, h⟩ := of_gd h
    refine ⟨(inB_mp g2), ?_⟩
    obtain ⟨g3, h⟩ := of_gd h
    refine ⟨(inB_mp g3), ?_⟩
    refine ite_i (fun c4 => ?_) (fun c4 => ?_)
    · replace h := of_ifp h c4
      exact t_X12_beside_176 hD hk_X12_beside_121 hk_X12_beside_133 hs  h
    · replace h := of_ifn h c4
      obtain ⟨g5, h⟩ := of_gd h
      refine ⟨(inB_mp g5), ?_⟩
      obtain ⟨g6, h⟩ := of_gd h
      refine ⟨(inB_mp g6), ?_⟩
      refine ite_i (fun c7 => ?_) (fun c7 => ?_)
      · replace h := of_ifp h c7
        exact t_X12_beside_176 hD hk_X12_beside_121 hk_X12_beside_133 hs  h
      · replace h := of_ifn h c7
        exact t_X12_beside_177 hD hk_X12_beside_121 hk_X12_beside_133 hs  h
theorem e_X12_beside_133 {X : Sx} {l : Launch} {D : Nat} {k_X12_beside_121 : Int32 → Int32 → AH → Option (Int32 × AH)} (hD : 7 ≤ D) (hk_X12_beside_121 : ∀ (x5 : Int32) (x6 : Int32) (σ : AH) (v : Int32) (σ' : AH), Sh σ → k_X12_beside_121 x5 x6 σ = some (v, σ') → E X l m_X12_beside D 121 [(0, .ref 124), (5, .int x5), (6, .int x6)] [] σ (some (.int v)) σ') : ∀ (k : Nat) (x5 : Int32) (x6 : Int32) (x7 : Int32) (σ : AH) (v : Int32) (σ' : AH), Sh σ → F_X12_beside_133 k_X12_beside_121 k x5 x6 x7 σ = some (v, σ') → E X l m_X12_beside D 133 [(0, .ref 124), (5, .int x5), (6, .int x6), (7, .int x7)] [] σ (some (.int v)) σ' := by
  intro k
  induction k with
  | zero => intro x5 x6 x7 σ v σ' hs h; cases h
  | succ k ih =>
    intro x5 x6 x7 σ v σ' hs h
    exact w_X12_beside_133 hs  (t_X12_beside_133 hD hk_X12_beside_121 ih hs  h)
set_option maxRecDepth 100000 in
theorem t_X12_beside_121 {X : Sx} {l : Launch} {D : Nat} {k_X12_beside_121 : Int32 → Int32 → AH → Option (Int32 × AH)} {x5 : Int32} {x6 : Int32} {σ : AH} {v : Int32} {σ' : AH} (hD : 7 ≤ D) (hk_X12_beside_121 : ∀ (x5 : Int32) (x6 : Int32) (σ : AH) (v : Int32) (σ' : AH), Sh σ → k_X12_beside_121 x5 x6 σ = some (v, σ') → E X l m_X12_beside D 121 [(0, .ref 124), (5, .int x5), (6, .int x6)] [] σ (some (.int v)) σ') (hs : Sh σ) (h : B_X12_beside_121 k_X12_beside_121 x5 x6 σ = some (v, σ')) : W_X12_beside_121 X l D x5 x6 σ (some (.int v)) σ' := by
  unfold B_X12_beside_121 at h
  unfold W_X12_beside_121
  refine ite_i (fun c1 => ?_) (fun c1 => ?_)
  · replace h := of_ifp h c1
    exact ret_i h
  · replace h := of_ifn h c1
    exact e_X12_beside_133 hD hk_X12_beside_121 _ _ _ _ _ _ _ hs  h
theorem e_X12_beside_121 {X : Sx} {l : Launch} {D : Nat} (hD : 7 ≤ D) : ∀ (k : Nat) (x5 : Int32) (x6 : Int32) (σ : AH) (v : Int32) (σ' : AH), Sh σ → F_X12_beside_121 k x5 x6 σ = some (v, σ') → E X l m_X12_beside D 121 [(0, .ref 124), (5, .int x5), (6, .int x6)] [] σ (some (.int v)) σ' := by
  intro k
  induction k with
  | zero => intro x5 x6 σ v σ' hs h; cases h
  | succ k ih =>
    intro x5 x6 σ v σ' hs h
    exact w_X12_beside_121 hs  (t_X12_beside_121 hD ih hs  h)
set_option maxRecDepth 100000 in
theorem t_X12_beside_74 {X : Sx} {l : Launch} {D : Nat} {k_X12_beside_74 : Int32 → Int32 → Int32 → Int32 → AH → Option (Int32 × AH)} {x1 : Int32} {x2 : Int32} {x4 : Int32} {x5 : Int32} {σ : AH} {v : Int32} {σ' : AH} (hD : 7 ≤ D) (hk_X12_beside_74 : ∀ (x1 : Int32) (x2 : Int32) (x4 : Int32) (x5 : Int32) (σ : AH) (v : Int32) (σ' : AH), Sh σ → k_X12_beside_74 x1 x2 x4 x5 σ = some (v, σ') → E X l m_X12_beside D 74 [(0, .ref 124), (1, .int x1), (2, .int x2), (4, .int x4), (5, .int x5)] [] σ (some (.int v)) σ') (hs : Sh σ) (h : B_X12_beside_74 k_X12_beside_74 x1 x2 x4 x5 σ = some (v, σ')) : W_X12_beside_74 X l D x1 x2 x4 x5 σ (some (.int v)) σ' := by
  unfold B_X12_beside_74 at h
  unfold W_X12_beside_74
  refine ite_i (fun c1 => ?_) (fun c1 => ?_)
  · replace h := of_ifp h c1
    obtain ⟨σ37, q2, h⟩ := of_bv h
    have hC3 := f_X12_knowBy (σ := σ) hs  q2 (X := X) (l := l)
    have hs4 := hC3.1.2.2.2.1 hs
    refine ⟨0, σ37, (Nat.le_trans (by decide) hD), hC3, ?_⟩
    obtain ⟨σ42, q5, h⟩ := of_bv h
    have hC6 := f_X12_findList (σ := σ37) hs4  q5 (X := X) (l := l)
    have hs7 := hC6.1.2.2.2.1 hs4
    refine ⟨6, σ42, (Nat.le_trans (by decide) hD), hC6, ?_⟩
    exact e_X12_beside_121 hD  _ _ _ _ _ _ hs7  h
  · replace h := of_ifn h c1
    obtain ⟨g8, h⟩ := of_gd h
    refine ⟨(inB_mp g8), ?_⟩
    obtain ⟨g9, h⟩ := of_gd h
    refine ⟨(inB_mp g9), ?_⟩
    exact hk_X12_beside_74 _ _ _ _ _ _ _ hs  h
theorem e_X12_beside_74 {X : Sx} {l : Launch} {D : Nat} (hD : 7 ≤ D) : ∀ (k : Nat) (x1 : Int32) (x2 : Int32) (x4 : Int32) (x5 : Int32) (σ : AH) (v : Int32) (σ' : AH), Sh σ → F_X12_beside_74 k x1 x2 x4 x5 σ = some (v, σ') → E X l m_X12_beside D 74 [(0, .ref 124), (1, .int x1), (2, .int x2), (4, .int x4), (5, .int x5)] [] σ (some (.int v)) σ' := by
  intro k
  induction k with
  | zero => intro x1 x2 x4 x5 σ v σ' hs h; cases h
  | succ k ih =>
    intro x1 x2 x4 x5 σ v σ' hs h
    exact w_X12_beside_74 hs  (t_X12_beside_74 hD ih hs  h)
set_option maxRecDepth 100000 in
theorem t_X12_beside_39 {X : Sx} {l : Launch} {D : Nat} {k_X12_beside_39 : Int32 → Int32 → Int32 → Int32 → Int32 → AH → Option (Int32 × AH)} {x1 : Int32} {x2 : Int32} {x3 : Int32} {x4 : Int32} {x5 : Int32} {σ : AH} {v : Int32} {σ' : AH} (hD : 7 ≤ D) (hk_X12_beside_39 : ∀ (x1 : Int32) (x2 : Int32) (x3 : Int32) (x4 : Int32) (x5 : Int32) (σ : AH) (v : Int32) (σ' : AH), Sh σ → k_X12_beside_39 x1 x2 x3 x4 x5 σ = some (v, σ') → E X l m_X12_beside D 39 [(0, .ref 124), (1, .int x1), (2, .int x2), (3, .int x3), (4, .int x4), (5, .int x5)] [] σ (some (.int v)) σ') (hs : Sh σ) (h : B_X12_beside_39 k_X12_beside_39 x1 x2 x3 x4 x5 σ = some (v, σ')) : W_X12_beside_39 X l D x1 x2 x3 x4 x5 σ (some (.int v)) σ' := by
  unfold B_X12_beside_39 at h
  unfold W_X12_beside_39
  refine ite_i (fun c1 => ?_) (fun c1 => ?_)
  · replace h := of_ifp h c1
    obtain ⟨σ26, q2, h⟩ := of_bv h
    have hC3 := f_X12_knowBy (σ := σ) hs  q2 (X := X) (l := l)
    have hs4 := hC3.1.2.2.2.1 hs
    refine ⟨0, σ26, (Nat.le_trans (by decide) hD), hC3, ?_⟩
    obtain ⟨σ31, q5, h⟩ := of_bv h
    have hC6 := f_X12_findList (σ := σ26) hs4  q5 (X := X) (l := l)
    have hs7 := hC6.1.2.2.2.1 hs4
    refine ⟨6, σ31, (Nat.le_trans (by decide) hD), hC6, ?_⟩
    exact e_X12_beside_74 hD  _ _ _ _ _ _ _ _ hs7  h
  · replace h := of_ifn h c1
    obtain ⟨g8, h⟩ := of_gd h
    refine ⟨(inB_mp g8), ?_⟩
    exact hk_X12_beside_39 _ _ _ _ _ _ _ _ hs  h
theorem e_X12_beside_39 {X : Sx} {l : Launch} {D : Nat} (hD : 7 ≤ D) : ∀ (k : Nat) (x1 : Int32) (x2 : Int32) (x3 : Int32) (x4 : Int32) (x5 : Int32) (σ : AH) (v : Int32) (σ' : AH), Sh σ → F_X12_beside_39 k x1 x2 x3 x4 x5 σ = some (v, σ') → E X l m_X12_beside D 39 [(0, .ref 124), (1, .int x1), (2, .int x2), (3, .int x3), (4, .int x4), (5, .int x5)] [] σ (some (.int v)) σ' := by
  intro k
  induction k with
  | zero => intro x1 x2 x3 x4 x5 σ v σ' hs h; cases h
  | succ k ih =>
    intro x1 x2 x3 x4 x5 σ v σ' hs h
    exact w_X12_beside_39 hs  (t_X12_beside_39 hD ih hs  h)
set_option maxRecDepth 100000 in
theorem t_X12_beside_0 {X : Sx} {l : Launch} {D : Nat} {x1 : Int32} {x2 : Int32} {x3 : Int32} {x4 : Int32} {σ : AH} {v : Int32} {σ' : AH} (hD : 7 ≤ D) (hs : Sh σ) (h : F_X12_beside x1 x2 x3 x4 σ = some (v, σ')) : W_X12_beside_0 X l D x1 x2 x3 x4 σ (some (.int v)) σ' := by
  unfold F_X12_beside at h
  unfold W_X12_beside_0
  obtain ⟨v6, σ2, q1, h⟩ := of_bd h
  have hC2 := f_X12_isCouncil (σ := (sI σ 124 0 (0 : Int32))) hs  q1 (X := X) (l := l)
  have hs3 := hC2.1.2.2.2.1 hs
  refine ⟨1, v6, σ2, (Nat.le_trans (by decide) hD), hC2, ?_⟩
  refine ite_i (fun c4 => ?_) (fun c4 => ?_)
  · replace h := of_ifp h c4
    exact ret_i h
  · replace h := of_ifn h c4
    obtain ⟨v12, σ8, q5, h⟩ := of_bd h
    have hC6 := f_X12_isWeek (σ := σ2) hs3  q5 (X := X) (l := l)
    have hs7 := hC6.1.2.2.2.1 hs3
    refine ⟨1, v12, σ8, (Nat.le_trans (by decide) hD), hC6, ?_⟩
    refine ite_i (fun c8 => ?_) (fun c8 => ?_)
    · replace h := of_ifp h c8
      exact ret_i h
    · replace h := of_ifn h c8
      obtain ⟨v18, σ14, q9, h⟩ := of_bd h
      have hC10 := f_X12_isWeek (σ := σ8) hs7  q9 (X := X) (l := l)
      have hs11 := hC10.1.2.2.2.1 hs7
      refine ⟨1, v18, σ14, (Nat.le_trans (by decide) hD), hC10, ?_⟩
      refine ite_i (fun c12 => ?_) (fun c12 => ?_)
      · replace h := of_ifp h c12
        exact ret_i h
      · replace h := of_ifn h c12
        obtain ⟨v24, σ20, q13, h⟩ := of_bd h
        have hC14 := f_X12_isWeek (σ := σ14) hs11  q13 (X := X) (l := l)
        have hs15 := hC14.1.2.2.2.1 hs11
        refine ⟨1, v24, σ20, (Nat.le_trans (by decide) hD), hC14, ?_⟩
        refine ite_i (fun c16 => ?_) (fun c16 => ?_)
        · replace h := of_ifp h c16
          exact ret_i h
        · replace h := of_ifn h c16
          exact e_X12_beside_39 hD  _ _ _ _ _ _ _ _ _ hs15  h
theorem f_X12_beside {X : Sx} {l : Launch} {x1 : Int32} {x2 : Int32} {x3 : Int32} {x4 : Int32} {σ : AH} {v : Int32} {σ' : AH} (hs : Sh σ) (h : F_X12_beside x1 x2 x3 x4 σ = some (v, σ')) : Call X l m_X12_beside 7 [.ref 124, .int x1, .int x2, .int x3, .int x4] σ (some (.int v)) σ' :=
  Call.ofE ok_X12_beside rfl (Nat.le_of_ble_eq_true rfl) (w_X12_beside_0 hs  (t_X12_beside_0 (Nat.le_refl _) hs  h))
def F_X12_findHomes_107 (k_X12_findHomes_8 : Int32 → AH → Option AH) (x2 : Int32) (σ : AH) : Option AH := (k_X12_findHomes_8 (x2 + 1) σ)
def F_X12_findHomes_106 (k_X12_findHomes_8 : Int32 → AH → Option AH) (x2 : Int32) (y0 : Int32) (y1 : Int32) (σ : AH) : Option AH := (if inB y1 30 = true then (F_X12_findHomes_107 k_X12_findHomes_8 x2 (sI σ 165 y1.toNatClampNeg y0)) else none)
def F_X12_findHomes_46 (k_X12_findHomes_8 : Int32 → AH → Option AH) (x2 : Int32) (x3 : Int32) (y0 : Int32) (y1 : Int32) (σ : AH) : Option AH := (if inB y1 30 = true then (if inB x2 30 = true then (if x3 = (-1 : Int32) then (F_X12_findHomes_107 k_X12_findHomes_8 x2 (sI (sI σ 164 y1.toNatClampNeg y0) 165 x2.toNatClampNeg (1000000 : Int32))) else (bd (F_X12_kindOf x2 (sI (sI σ 164 y1.toNatClampNeg y0) 165 x2.toNatClampNeg (1000000 : Int32))) fun v14 σ10 => (if v14 = (2 : Int32) then (bv (F_X12_setOnly (0 : Int32) x3 σ10) fun σ16 => (bd (F_X12_find (6 : Int32) (0 : Int32) (0 : Int32) (0 : Int32) x3 σ16) fun v25 σ21 => (if v25 = 0 then (F_X12_findHomes_106 k_X12_findHomes_8 x2 (1000000 : Int32) x2 σ21) else (bd (F_X12_atLeastNought σ21) fun v31 σ27 => (F_X12_findHomes_106 k_X12_findHomes_8 x2 (x3 + v31) x2 σ27))))) else (F_X12_findHomes_107 k_X12_findHomes_8 x2 σ10)))) else none) else none)
def B_X12_findHomes_8 (k_X12_findHomes_8 : Int32 → AH → Option AH) (x2 : Int32) (σ : AH) : Option AH := (if (gI σ 125 4) ≤ x2 then (some σ) else (if inB (((3 : Int32) * x2) + (2 : Int32)) 90 = true then (if (gI σ 149 (((3 : Int32) * x2) + (2 : Int32)).toNatClampNeg) = (-1 : Int32) then (F_X12_findHomes_46 k_X12_findHomes_8 x2 (gI σ 149 (((3 : Int32) * x2) + (2 : Int32)).toNatClampNeg) (1000000 : Int32) x2 σ) else (F_X12_findHomes_46 k_X12_findHomes_8 x2 (gI σ 149 (((3 : Int32) * x2) + (2 : Int32)).toNatClampNeg) (gI σ 149 (((3 : Int32) * x2) + (2 : Int32)).toNatClampNeg) x2 σ)) else none))
def F_X12_findHomes_8 : Nat → Int32 → AH → Option AH := fun k => match k with | 0 => fun _ _ => none | k + 1 => B_X12_findHomes_8 (F_X12_findHomes_8 k)
def F_X12_findHomes (x1 : Int32) (σ : AH) : Option AH := (bv (F_X12_runAll x1 (0 : Int32) σ) fun σ2 => (F_X12_findHomes_8 BIG (0 : Int32) σ2))
set_option maxRecDepth 100000 in
theorem t_X12_findHomes_107 {X : Sx} {l : Launch} {D : Nat} {k_X12_findHomes_8 : Int32 → AH → Option AH} {x2 : Int32} {σ : AH} {σ' : AH} (hD : 11 ≤ D) (hk_X12_findHomes_8 : ∀ (x2 : Int32) (σ : AH) (σ' : AH), Sh σ → k_X12_findHomes_8 x2 σ = some σ' → E X l m_X12_findHomes D 8 [(0, .ref 124), (2, .int x2)] [] σ none σ') (hs : Sh σ) (h : F_X12_findHomes_107 k_X12_findHomes_8 x2 σ = some σ') : W_X12_findHomes_107 X l D x2 σ none σ' := by
  unfold F_X12_findHomes_107 at h
  unfold W_X12_findHomes_107
  exact hk_X12_findHomes_8 _ _ _ hs  h
set_option maxRecDepth 100000 in
theorem t_X12_findHomes_106 {X : Sx} {l : Launch} {D : Nat} {k_X12_findHomes_8 : Int32 → AH → Option AH} {x2 : Int32} {y0 : Int32} {y1 : Int32} {σ : AH} {σ' : AH} (hD : 11 ≤ D) (hk_X12_findHomes_8 : ∀ (x2 : Int32) (σ : AH) (σ' : AH), Sh σ → k_X12_findHomes_8 x2 σ = some σ' → E X l m_X12_findHomes D 8 [(0, .ref 124), (2, .int x2)] [] σ none σ') (hs : Sh σ) (h : F_X12_findHomes_106 k_X12_findHomes_8 x2 y0 y1 σ = some σ') : W_X12_findHomes_106 X l D x2 y0 y1 σ none σ' := by
  unfold F_X12_findHomes_106 at h
  unfold W_X12_findHomes_106
  obtain ⟨g1, h⟩ := of_gd h
  refine ⟨(inB_mp g1), ?_⟩
  exact t_X12_findHomes_107 hD hk_X12_findHomes_8 hs  h
set_option maxRecDepth 100000 in
theorem t_X12_findHomes_46 {X : Sx} {l : Launch} {D : Nat} {k_X12_findHomes_8 : Int32 → AH → Option AH} {x2 : Int32} {x3 : Int32} {y0 : Int32} {y1 : Int32} {σ : AH} {σ' : AH} (hD : 11 ≤ D) (hk_X12_findHomes_8 : ∀ (x2 : Int32) (σ : AH) (σ' : AH), Sh σ → k_X12_findHomes_8 x2 σ = some σ' → E X l m_X12_findHomes D 8 [(0, .ref 124), (2, .int x2)] [] σ none σ') (hs : Sh σ) (h : F_X12_findHomes_46 k_X12_findHomes_8 x2 x3 y0 y1 σ = some σ') : W_X12_findHomes_46 X l D x2 x3 y0 y1 σ none σ' := by
  unfold F_X12_findHomes_46 at h
  unfold W_X12_findHomes_46
  obtain ⟨g1, h⟩ := of_gd h
  refine ⟨(inB_mp g1), ?_⟩
  obtain ⟨g2, h⟩ := of_gd h
  refine ⟨(inB_mp g2), ?_⟩
  refine ite_i (fun c3 => ?_) (fun c3 => ?_)
  · replace h := of_ifp h c3
    exact t_X12_findHomes_107 hD hk_X12_findHomes_8 hs  h
  · replace h := of_ifn h c3
    obtain ⟨v14, σ10, q4, h⟩ := of_bd h
    have hC5 := f_X12_kindOf (σ := (sI (sI σ 164 y1.toNatClampNeg y0) 165 x2.toNatClampNeg (1000000 : Int32))) hs  q4 (X := X) (l := l)
    have hs6 := hC5.1.2.2.2.1 hs
    refine ⟨0, v14, σ10, (Nat.le_trans (by decide) hD), hC5, ?_⟩
    refine ite_i (fun c7 => ?_) (fun c7 => ?_)
    · replace h := of_ifp h c7
      obtain ⟨σ16, q8, h⟩ := of_bv h
      have hC9 := f_X12_setOnly (σ := σ10) hs6  q8 (X := X) (l := l)
      have hs10 := hC9.1.2.2.2.1 hs6
      refine ⟨0, σ16, (Nat.le_trans (by decide) hD), hC9, ?_⟩
      obtain ⟨v25, σ21, q11, h⟩ := of_bd h
      have hC12 := f_X12_find (σ := σ16) hs10  q11 (X := X) (l := l)
      have hs13 := hC12.1.2.2.2.1 hs10
      refine ⟨4, v25, σ21, (Nat.le_trans (by decide) hD), hC12, ?_⟩
      refine ite_i (fun c14 => ?_) (fun c14 => ?_)
      · replace h := of_ifp h c14
        exact t_X12_findHomes_106 hD hk_X12_findHomes_8 hs13  h
      · replace h := of_ifn h c14
        obtain ⟨v31, σ27, q15, h⟩ := of_bd h
        have hC16 := f_X12_atLeastNought (σ := σ21) hs13  q15 (X := X) (l := l)
        have hs17 := hC16.1.2.2.2.1 hs13
        refine ⟨0, v31, σ27, (Nat.le_trans (by decide) hD), hC16, ?_⟩
        exact t_X12_findHomes_106 hD hk_X12_findHomes_8 hs17  h
    · replace h := of_ifn h c7
      exact t_X12_findHomes_107 hD hk_X12_findHomes_8 hs6  h
set_option maxRecDepth 100000 in
theorem t_X12_findHomes_8 {X : Sx} {l : Launch} {D : Nat} {k_X12_findHomes_8 : Int32 → AH → Option AH} {x2 : Int32} {σ : AH} {σ' : AH} (hD : 11 ≤ D) (hk_X12_findHomes_8 : ∀ (x2 : Int32) (σ : AH) (σ' : AH), Sh σ → k_X12_findHomes_8 x2 σ = some σ' → E X l m_X12_findHomes D 8 [(0, .ref 124), (2, .int x2)] [] σ none σ') (hs : Sh σ) (h : B_X12_findHomes_8 k_X12_findHomes_8 x2 σ = some σ') : W_X12_findHomes_8 X l D x2 σ none σ' := by
  unfold B_X12_findHomes_8 at h
  unfold W_X12_findHomes_8
  refine ite_i (fun c1 => ?_) (fun c1 => ?_)
  · replace h := of_ifp h c1
    exact ret_v h
  · replace h := of_ifn h c1
    obtain ⟨g2, h⟩ := of_gd h
    refine ⟨(inB_mp g2), ?_⟩
    refine ite_i (fun c3 => ?_) (fun c3 => ?_)
    · replace h := of_ifp h c3
      exact t_X12_findHomes_46 hD hk_X12_findHomes_8 hs  h
    · replace h := of_ifn h c3
      exact t_X12_findHomes_46 hD hk_X12_findHomes_8 hs  h
theorem e_X12_findHomes_8 {X : Sx} {l : Launch} {D : Nat} (hD : 11 ≤ D) : ∀ (k : Nat) (x2 : Int32) (σ : AH) (σ' : AH), Sh σ → F_X12_findHomes_8 k x2 σ = some σ' → E X l m_X12_findHomes D 8 [(0, .ref 124), (2, .int x2)] [] σ none σ' := by
  intro k
  induction k with
  | zero => intro x2 σ σ' hs h; cases h
  | succ k ih =>
    intro x2 σ σ' hs h
    exact w_X12_findHomes_8 hs  (t_X12_findHomes_8 hD ih hs  h)
set_option maxRecDepth 100000 in
theorem t_X12_findHomes_0 {X : Sx} {l : Launch} {D : Nat} {x1 : Int32} {σ : AH} {σ' : AH} (hD : 11 ≤ D) (hs : Sh σ) (h : F_X12_findHomes x1 σ = some σ') : W_X12_findHomes_0 X l D x1 σ none σ' := by
  unfold F_X12_findHomes at h
  unfold W_X12_findHomes_0
  obtain ⟨σ2, q1, h⟩ := of_bv h
  have hC2 := f_X12_runAll (σ := σ) hs  q1 (X := X) (l := l)
  have hs3 := hC2.1.2.2.2.1 hs
  refine ⟨10, σ2, (Nat.le_trans (by decide) hD), hC2, ?_⟩
  exact e_X12_findHomes_8 hD  _ _ _ _ hs3  h
theorem f_X12_findHomes {X : Sx} {l : Launch} {x1 : Int32} {σ : AH} {σ' : AH} (hs : Sh σ) (h : F_X12_findHomes x1 σ = some σ') : Call X l m_X12_findHomes 11 [.ref 124, .int x1] σ none σ' :=
  Call.ofE ok_X12_findHomes rfl (Nat.le_of_ble_eq_true rfl) (w_X12_findHomes_0 hs  (t_X12_findHomes_0 (Nat.le_refl _) hs  h))
def F_X12_isHome (x1 : Int32) (x2 : Int32) (σ : AH) : Option (Int32 × AH) := (if inB x1 30 = true then (if x2 < (gI σ 164 x1.toNatClampNeg) then (some ((0 : Int32), σ)) else (if inB x1 30 = true then (if (gI σ 165 x1.toNatClampNeg) ≤ x2 then (some ((0 : Int32), σ)) else (some ((1 : Int32), σ))) else none)) else none)
set_option maxRecDepth 100000 in
theorem t_X12_isHome_0 {X : Sx} {l : Launch} {D : Nat} {x1 : Int32} {x2 : Int32} {σ : AH} {v : Int32} {σ' : AH} (hD : 0 ≤ D) (hs : Sh σ) (h : F_X12_isHome x1 x2 σ = some (v, σ')) : W_X12_isHome_0 X l D x1 x2 σ (some (.int v)) σ' := by
  unfold F_X12_isHome at h
  unfold W_X12_isHome_0
  obtain ⟨g1, h⟩ := of_gd h
  refine ⟨(inB_mp g1), ?_⟩
  refine ite_i (fun c2 => ?_) (fun c2 => ?_)
  · replace h := of_ifp h c2
    exact ret_i h
  · replace h := of_ifn h c2
    obtain ⟨g3, h⟩ := of_gd h
    refine ⟨(inB_mp g3), ?_⟩
    refine ite_i (fun c4 => ?_) (fun c4 => ?_)
    · replace h := of_ifp h c4
      exact ret_i h
    · replace h := of_ifn h c4
      exact ret_i h
theorem f_X12_isHome {X : Sx} {l : Launch} {x1 : Int32} {x2 : Int32} {σ : AH} {v : Int32} {σ' : AH} (hs : Sh σ) (h : F_X12_isHome x1 x2 σ = some (v, σ')) : Call X l m_X12_isHome 0 [.ref 124, .int x1, .int x2] σ (some (.int v)) σ' :=
  Call.ofE ok_X12_isHome rfl (Nat.le_of_ble_eq_true rfl) (w_X12_isHome_0 hs  (t_X12_isHome_0 (Nat.le_refl _) hs  h))
def F_X12_stayAt (x1 : Int32) (σ : AH) : Option (Int32 × AH) := (some (((29512 : Int32) + ((8 : Int32) * x1)), σ))
set_option maxRecDepth 100000 in
theorem t_X12_stayAt_0 {X : Sx} {l : Launch} {D : Nat} {x1 : Int32} {σ : AH} {v : Int32} {σ' : AH} (hD : 0 ≤ D) (hs : Sh σ) (h : F_X12_stayAt x1 σ = some (v, σ')) : W_X12_stayAt_0 X l D x1 σ (some (.int v)) σ' := by
  unfold F_X12_stayAt at h
  unfold W_X12_stayAt_0
  exact ret_i h
theorem f_X12_stayAt {X : Sx} {l : Launch} {x1 : Int32} {σ : AH} {v : Int32} {σ' : AH} (hs : Sh σ) (h : F_X12_stayAt x1 σ = some (v, σ')) : Call X l m_X12_stayAt 0 [.ref 124, .int x1] σ (some (.int v)) σ' :=
  Call.ofE ok_X12_stayAt rfl (Nat.le_of_ble_eq_true rfl) (w_X12_stayAt_0 hs  (t_X12_stayAt_0 (Nat.le_refl _) hs  h))
def F_X12_livesIn (x1 : Int32) (x2 : Int32) (σ : AH) : Option (Int32 × AH) := (bd (F_X12_stayAt x1 σ) fun v6 σ2 => (if inB (v6 + (3 : Int32)) 269832 = true then (if x2 < (gI σ2 125 (v6 + (3 : Int32)).toNatClampNeg) then (some ((0 : Int32), σ2)) else (if inB (v6 + (4 : Int32)) 269832 = true then (if (gI σ2 125 (v6 + (4 : Int32)).toNatClampNeg) ≤ x2 then (some ((0 : Int32), σ2)) else (if inB (v6 + (5 : Int32)) 269832 = true then (if (gI σ2 125 (v6 + (5 : Int32)).toNatClampNeg) ≤ x2 then (some ((0 : Int32), σ2)) else (some ((1 : Int32), σ2))) else none)) else none)) else none))
set_option maxRecDepth 100000 in
theorem t_X12_livesIn_0 {X : Sx} {l : Launch} {D : Nat} {x1 : Int32} {x2 : Int32} {σ : AH} {v : Int32} {σ' : AH} (hD : 1 ≤ D) (hs : Sh σ) (h : F_X12_livesIn x1 x2 σ = some (v, σ')) : W_X12_livesIn_0 X l D x1 x2 σ (some (.int v)) σ' := by
  unfold F_X12_livesIn at h
  unfold W_X12_livesIn_0
  obtain ⟨v6, σ2, q1, h⟩ := of_bd h
  have hC2 := f_X12_stayAt (σ := σ) hs  q1 (X := X) (l := l)
  have hs3 := hC2.1.2.2.2.1 hs
  refine ⟨0, v6, σ2, (Nat.le_trans (by decide) hD), hC2, ?_⟩
  obtain ⟨g4, h⟩ := of_gd h
  refine ⟨(inB_mp g4), ?_⟩
  refine ite_i (fun c5 => ?_) (fun c5 => ?_)
  · replace h := of_ifp h c5
    exact ret_i h
  · replace h := of_ifn h c5
    obtain ⟨g6, h⟩ := of_gd h
    refine ⟨(inB_mp g6), ?_⟩
    refine ite_i (fun c7 => ?_) (fun c7 => ?_)
    · replace h := of_ifp h c7
      exact ret_i h
    · replace h := of_ifn h c7
      obtain ⟨g8, h⟩ := of_gd h
      refine ⟨(inB_mp g8), ?_⟩
      refine ite_i (fun c9 => ?_) (fun c9 => ?_)
      · replace h := of_ifp h c9
        exact ret_i h
      · replace h := of_ifn h c9
        exact ret_i h
theorem f_X12_livesIn {X : Sx} {l : Launch} {x1 : Int32} {x2 : Int32} {σ : AH} {v : Int32} {σ' : AH} (hs : Sh σ) (h : F_X12_livesIn x1 x2 σ = some (v, σ')) : Call X l m_X12_livesIn 1 [.ref 124, .int x1, .int x2] σ (some (.int v)) σ' :=
  Call.ofE ok_X12_livesIn rfl (Nat.le_of_ble_eq_true rfl) (w_X12_livesIn_0 hs  (t_X12_livesIn_0 (Nat.le_refl _) hs  h))
def F_X12_squatsIn (x1 : Int32) (x2 : Int32) (σ : AH) : Option (Int32 × AH) := (bd (F_X12_stayAt x1 σ) fun v6 σ2 => (if inB (v6 + (7 : Int32)) 269832 = true then (if (gI σ2 125 (v6 + (7 : Int32)).toNatClampNeg) = (1 : Int32) then (if inB (v6 + (2 : Int32)) 269832 = true then (if x2 < (gI σ2 125 (v6 + (2 : Int32)).toNatClampNeg) then (some ((0 : Int32), σ2)) else (if inB (v6 + (3 : Int32)) 269832 = true then (if (gI σ2 125 (v6 + (3 : Int32)).toNatClampNeg) ≤ x2 then (some ((0 : Int32), σ2)) else (if inB (v6 + (4 : Int32)) 269832 = true then (if (gI σ2 125 (v6 + (4 : Int32)).toNatClampNeg) ≤ x2 then (some ((0 : Int32), σ2)) else (if inB (v6 + (5 : Int32)) 269832 = true then (if (gI σ2 125 (v6 + (5 : Int32)).toNatClampNeg) ≤ x2 then (some ((0 : Int32), σ2)) else (some ((1 : Int32), σ2))) else none)) else none)) else none)) else none) else (some ((0 : Int32), σ2))) else none))
set_option maxRecDepth 100000 in
theorem t_X12_squatsIn_0 {X : Sx} {l : Launch} {D : Nat} {x1 : Int32} {x2 : Int32} {σ : AH} {v : Int32} {σ' : AH} (hD : 1 ≤ D) (hs : Sh σ) (h : F_X12_squatsIn x1 x2 σ = some (v, σ')) : W_X12_squatsIn_0 X l D x1 x2 σ (some (.int v)) σ' := by
  unfold F_X12_squatsIn at h
  unfold W_X12_squatsIn_0
  obtain ⟨v6, σ2, q1, h⟩ := of_bd h
  have hC2 := f_X12_stayAt (σ := σ) hs  q1 (X := X) (l := l)
  have hs3 := hC2.1.2.2.2.1 hs
  refine ⟨0, v6, σ2, (Nat.le_trans (by decide) hD), hC2, ?_⟩
  obtain ⟨g4, h⟩ := of_gd h
  refine ⟨(inB_mp g4), ?_⟩
  refine ite_i (fun c5 => ?_) (fun c5 => ?_)
  · replace h := of_ifp h c5
    obtain ⟨g6, h⟩ := of_gd h
    refine ⟨(inB_mp g6), ?_⟩
    refine ite_i (fun c7 => ?_) (fun c7 => ?_)
    · replace h := of_ifp h c7
      exact ret_i h
    · replace h := of_ifn h c7
      obtain ⟨g8, h⟩ := of_gd h
      refine ⟨(inB_mp g8), ?_⟩
      refine ite_i (fun c9 => ?_) (fun c9 => ?_)
      · replace h := of_ifp h c9
        exact ret_i h
      · replace h := of_ifn h c9
        obtain ⟨g10, h⟩ := of_gd h
        refine ⟨(inB_mp g10), ?_⟩
        refine ite_i (fun c11 => ?_) (fun c11 => ?_)
        · replace h := of_ifp h c11
          exact ret_i h
        · replace h := of_ifn h c11
          obtain ⟨g12, h⟩ := of_gd h
          refine ⟨(inB_mp g12), ?_⟩
          refine ite_i (fun c13 => ?_) (fun c13 => ?_)
          · replace h := of_ifp h c13
            exact ret_i h
          · replace h := of_ifn h c13
            exact ret_i h
  · replace h := of_ifn h c5
    exact ret_i h
theorem f_X12_squatsIn {X : Sx} {l : Launch} {x1 : Int32} {x2 : Int32} {σ : AH} {v : Int32} {σ' : AH} (hs : Sh σ) (h : F_X12_squatsIn x1 x2 σ = some (v, σ')) : Call X l m_X12_squatsIn 1 [.ref 124, .int x1, .int x2] σ (some (.int v)) σ' :=
  Call.ofE ok_X12_squatsIn rfl (Nat.le_of_ble_eq_true rfl) (w_X12_squatsIn_0 hs  (t_X12_squatsIn_0 (Nat.le_refl _) hs  h))
def F_X12_isIn_18 (σ : AH) : Option (Int32 × AH) := (some ((1 : Int32), σ))
def F_X12_isIn (x1 : Int32) (x2 : Int32) (σ : AH) : Option (Int32 × AH) := (bd (F_X12_livesIn x1 x2 σ) fun v6 σ2 => (if v6 = 0 then (bd (F_X12_squatsIn x1 x2 σ2) fun v12 σ8 => (if v12 = 0 then (some ((0 : Int32), σ8)) else (F_X12_isIn_18 σ8))) else (F_X12_isIn_18 σ2)))
set_option maxRecDepth 100000 in
theorem t_X12_isIn_18 {X : Sx} {l : Launch} {D : Nat} {σ : AH} {v : Int32} {σ' : AH} (hD : 2 ≤ D) (hs : Sh σ) (h : F_X12_isIn_18 σ = some (v, σ')) : W_X12_isIn_18 X l D σ (some (.int v)) σ' := by
  unfold F_X12_isIn_18 at h
  unfold W_X12_isIn_18
  exact ret_i h
set_option maxRecDepth 100000 in
theorem t_X12_isIn_0 {X : Sx} {l : Launch} {D : Nat} {x1 : Int32} {x2 : Int32} {σ : AH} {v : Int32} {σ' : AH} (hD : 2 ≤ D) (hs : Sh σ) (h : F_X12_isIn x1 x2 σ = some (v, σ')) : W_X12_isIn_0 X l D x1 x2 σ (some (.int v)) σ' := by
  unfold F_X12_isIn at h
  unfold W_X12_isIn_0
  obtain ⟨v6, σ2, q1, h⟩ := of_bd h
  have hC2 := f_X12_livesIn (σ := σ) hs  q1 (X := X) (l := l)
  have hs3 := hC2.1.2.2.2.1 hs
  refine ⟨1, v6, σ2, (Nat.le_trans (by decide) hD), hC2, ?_⟩
  refine ite_i (fun c4 => ?_) (fun c4 => ?_)
  · replace h := of_ifp h c4
    obtain ⟨v12, σ8, q5, h⟩ := of_bd h
    have hC6 := f_X12_squatsIn (σ := σ2) hs3  q5 (X := X) (l := l)
    have hs7 := hC6.1.2.2.2.1 hs3
    refine ⟨1, v12, σ8, (Nat.le_trans (by decide) hD), hC6, ?_⟩
    refine ite_i (fun c8 => ?_) (fun c8 => ?_)
    · replace h := of_ifp h c8
      exact ret_i h
    · replace h := of_ifn h c8
      exact t_X12_isIn_18 hD  hs7  h
  · replace h := of_ifn h c4
    exact t_X12_isIn_18 hD  hs3  h
theorem f_X12_isIn {X : Sx} {l : Launch} {x1 : Int32} {x2 : Int32} {σ : AH} {v : Int32} {σ' : AH} (hs : Sh σ) (h : F_X12_isIn x1 x2 σ = some (v, σ')) : Call X l m_X12_isIn 2 [.ref 124, .int x1, .int x2] σ (some (.int v)) σ' :=
  Call.ofE ok_X12_isIn rfl (Nat.le_of_ble_eq_true rfl) (w_X12_isIn_0 hs  (t_X12_isIn_0 (Nat.le_refl _) hs  h))
def F_X12_isFree_51 (k_X12_isFree_5 : Int32 → Int32 → Int32 → Int32 → AH → Option (Int32 × AH)) (x1 : Int32) (x2 : Int32) (x4 : Int32) (y0 : Int32) (σ : AH) : Option (Int32 × AH) := (k_X12_isFree_5 x1 x2 y0 (x4 + 1) σ)
def F_X12_isFree_50 (k_X12_isFree_5 : Int32 → Int32 → Int32 → Int32 → AH → Option (Int32 × AH)) (x1 : Int32) (x2 : Int32) (x4 : Int32) (σ : AH) : Option (Int32 × AH) := (F_X12_isFree_51 k_X12_isFree_5 x1 x2 x4 (0 : Int32) σ)
def F_X12_isFree_46 (k_X12_isFree_5 : Int32 → Int32 → Int32 → Int32 → AH → Option (Int32 × AH)) (x1 : Int32) (x2 : Int32) (x4 : Int32) (σ : AH) : Option (Int32 × AH) := (F_X12_isFree_51 k_X12_isFree_5 x1 x2 x4 (1 : Int32) σ)
def B_X12_isFree_5 (k_X12_isFree_5 : Int32 → Int32 → Int32 → Int32 → AH → Option (Int32 × AH)) (x1 : Int32) (x2 : Int32) (x3 : Int32) (x4 : Int32) (σ : AH) : Option (Int32 × AH) := (if (gI σ 125 7) ≤ x4 then (if x3 = 0 ∨ x3 = 1 then some (x3, σ) else none) else (if x3 = 0 then (F_X12_isFree_50 k_X12_isFree_5 x1 x2 x4 σ) else (bd (F_X12_stayAt x4 σ) fun v6 σ2 => (if inB v6 269832 = true then (if (gI σ2 125 v6.toNatClampNeg) = x1 then (bd (F_X12_isIn x4 x2 σ2) fun v13 σ9 => (if v13 = 0 then (F_X12_isFree_46 k_X12_isFree_5 x1 x2 x4 σ9) else (F_X12_isFree_50 k_X12_isFree_5 x1 x2 x4 σ9))) else (F_X12_isFree_46 k_X12_isFree_5 x1 x2 x4 σ2)) else none))))
def F_X12_isFree_5 : Nat → Int32 → Int32 → Int32 → Int32 → AH → Option (Int32 × AH) := fun k => match k with | 0 => fun _ _ _ _ _ => none | k + 1 => B_X12_isFree_5 (F_X12_isFree_5 k)
def F_X12_isFree (x1 : Int32) (x2 : Int32) (σ : AH) : Option (Int32 × AH) := (F_X12_isFree_5 BIG x1 x2 (1 : Int32) (0 : Int32) σ)
set_option maxRecDepth 100000 in
theorem t_X12_isFree_51 {X : Sx} {l : Launch} {D : Nat} {k_X12_isFree_5 : Int32 → Int32 → Int32 → Int32 → AH → Option (Int32 × AH)} {x1 : Int32} {x2 : Int32} {x4 : Int32} {y0 : Int32} {σ : AH} {v : Int32} {σ' : AH} (hD : 3 ≤ D) (hk_X12_isFree_5 : ∀ (x1 : Int32) (x2 : Int32) (x3 : Int32) (x4 : Int32) (σ : AH) (v : Int32) (σ' : AH), Sh σ → k_X12_isFree_5 x1 x2 x3 x4 σ = some (v, σ') → E X l m_X12_isFree D 5 [(0, .ref 124), (1, .int x1), (2, .int x2), (3, .int x3), (4, .int x4)] [] σ (some (.int v)) σ') (hs : Sh σ) (h : F_X12_isFree_51 k_X12_isFree_5 x1 x2 x4 y0 σ = some (v, σ')) : W_X12_isFree_51 X l D x1 x2 x4 y0 σ (some (.int v)) σ' := by
  unfold F_X12_isFree_51 at h
  unfold W_X12_isFree_51
  exact hk_X12_isFree_5 _ _ _ _ _ _ _ hs  h
set_option maxRecDepth 100000 in
theorem t_X12_isFree_50 {X : Sx} {l : Launch} {D : Nat} {k_X12_isFree_5 : Int32 → Int32 → Int32 → Int32 → AH → Option (Int32 × AH)} {x1 : Int32} {x2 : Int32} {x4 : Int32} {σ : AH} {v : Int32} {σ' : AH} (hD : 3 ≤ D) (hk_X12_isFree_5 : ∀ (x1 : Int32) (x2 : Int32) (x3 : Int32) (x4 : Int32) (σ : AH) (v : Int32) (σ' : AH), Sh σ → k_X12_isFree_5 x1 x2 x3 x4 σ = some (v, σ') → E X l m_X12_isFree D 5 [(0, .ref 124), (1, .int x1), (2, .int x2), (3, .int x3), (4, .int x4)] [] σ (some (.int v)) σ') (hs : Sh σ) (h : F_X12_isFree_50 k_X12_isFree_5 x1 x2 x4 σ = some (v, σ')) : W_X12_isFree_50 X l D x1 x2 x4 σ (some (.int v)) σ' := by
  unfold F_X12_isFree_50 at h
  unfold W_X12_isFree_50
  exact t_X12_isFree_51 hD hk_X12_isFree_5 hs  h
set_option maxRecDepth 100000 in
theorem t_X12_isFree_46 {X : Sx} {l : Launch} {D : Nat} {k_X12_isFree_5 : Int32 → Int32 → Int32 → Int32 → AH → Option (Int32 × AH)} {x1 : Int32} {x2 : Int32} {x4 : Int32} {σ : AH} {v : Int32} {σ' : AH} (hD : 3 ≤ D) (hk_X12_isFree_5 : ∀ (x1 : Int32) (x2 : Int32) (x3 : Int32) (x4 : Int32) (σ : AH) (v : Int32) (σ' : AH), Sh σ → k_X12_isFree_5 x1 x2 x3 x4 σ = some (v, σ') → E X l m_X12_isFree D 5 [(0, .ref 124), (1, .int x1), (2, .int x2), (3, .int x3), (4, .int x4)] [] σ (some (.int v)) σ') (hs : Sh σ) (h : F_X12_isFree_46 k_X12_isFree_5 x1 x2 x4 σ = some (v, σ')) : W_X12_isFree_46 X l D x1 x2 x4 σ (some (.int v)) σ' := by
  unfold F_X12_isFree_46 at h
  unfold W_X12_isFree_46
  exact t_X12_isFree_51 hD hk_X12_isFree_5 hs  h
set_option maxRecDepth 100000 in
theorem t_X12_isFree_5 {X : Sx} {l : Launch} {D : Nat} {k_X12_isFree_5 : Int32 → Int32 → Int32 → Int32 → AH → Option (Int32 × AH)} {x1 : Int32} {x2 : Int32} {x3 : Int32} {x4 : Int32} {σ : AH} {v : Int32} {σ' : AH} (hD : 3 ≤ D) (hk_X12_isFree_5 : ∀ (x1 : Int32) (x2 : Int32) (x3 : Int32) (x4 : Int32) (σ : AH) (v : Int32) (σ' : AH), Sh σ → k_X12_isFree_5 x1 x2 x3 x4 σ = some (v, σ') → E X l m_X12_isFree D 5 [(0, .ref 124), (1, .int x1), (2, .int x2), (3, .int x3), (4, .int x4)] [] σ (some (.int v)) σ') (hs : Sh σ) (h : B_X12_isFree_5 k_X12_isFree_5 x1 x2 x3 x4 σ = some (v, σ')) : W_X12_isFree_5 X l D x1 x2 x3 x4 σ (some (.int v)) σ' := by
  unfold B_X12_isFree_5 at h
  unfold W_X12_isFree_5
  refine ite_i (fun c1 => ?_) (fun c1 => ?_)
  · replace h := of_ifp h c1
    exact ⟨(of_gd h).1, ret_i (of_gd h).2⟩
  · replace h := of_ifn h c1
    refine ite_i (fun c2 => ?_) (fun c2 => ?_)
    · replace h := of_ifp h c2
      exact t_X12_isFree_50 hD hk_X12_isFree_5 hs  h
    · replace h := of_ifn h c2
      obtain ⟨v6, σ2, q3, h⟩ := of_bd h
      have hC4 := f_X12_stayAt (σ := σ) hs  q3 (X := X) (l := l)
      have hs5 := hC4.1.2.2.2.1 hs
      refine ⟨0, v6, σ2, (Nat.le_trans (by decide) hD), hC4, ?_⟩
      obtain ⟨g6, h⟩ := of_gd h
      refine ⟨(inB_mp g6), ?_⟩
      refine ite_i (fun c7 => ?_) (fun c7 => ?_)
      · replace h := of_ifp h c7
        obtain ⟨v13, σ9, q8, h⟩ := of_bd h
        have hC9 := f_X12_isIn (σ := σ2) hs5  q8 (X := X) (l := l)
        have hs10 := hC9.1.2.2.2.1 hs5
        refine ⟨2, v13, σ9, (Nat.le_trans (by decide) hD), hC9, ?_⟩
        refine ite_i (fun c11 => ?_) (fun c11 => ?_)
        · replace h := of_ifp h c11
          exact t_X12_isFree_46 hD hk_X12_isFree_5 hs10  h
        · replace h := of_ifn h c11
          exact t_X12_isFree_50 hD hk_X12_isFree_5 hs10  h
      · replace h := of_ifn h c7
        exact t_X12_isFree_46 hD hk_X12_isFree_5 hs5  h
theorem e_X12_isFree_5 {X : Sx} {l : Launch} {D : Nat} (hD : 3 ≤ D) : ∀ (k : Nat) (x1 : Int32) (x2 : Int32) (x3 : Int32) (x4 : Int32) (σ : AH) (v : Int32) (σ' : AH), Sh σ → F_X12_isFree_5 k x1 x2 x3 x4 σ = some (v, σ') → E X l m_X12_isFree D 5 [(0, .ref 124), (1, .int x1), (2, .int x2), (3, .int x3), (4, .int x4)] [] σ (some (.int v)) σ' := by
  intro k
  induction k with
  | zero => intro x1 x2 x3 x4 σ v σ' hs h; cases h
  | succ k ih =>
    intro x1 x2 x3 x4 σ v σ' hs h
    exact w_X12_isFree_5 hs  (t_X12_isFree_5 hD ih hs  h)
set_option maxRecDepth 100000 in
theorem t_X12_isFree_0 {X : Sx} {l : Launch} {D : Nat} {x1 : Int32} {x2 : Int32} {σ : AH} {v : Int32} {σ' : AH} (hD : 3 ≤ D) (hs : Sh σ) (h : F_X12_isFree x1 x2 σ = some (v, σ')) : W_X12_isFree_0 X l D x1 x2 σ (some (.int v)) σ' := by
  unfold F_X12_isFree at h
  unfold W_X12_isFree_0
  exact e_X12_isFree_5 hD  _ _ _ _ _ _ _ _ hs  h
theorem f_X12_isFree {X : Sx} {l : Launch} {x1 : Int32} {x2 : Int32} {σ : AH} {v : Int32} {σ' : AH} (hs : Sh σ) (h : F_X12_isFree x1 x2 σ = some (v, σ')) : Call X l m_X12_isFree 3 [.ref 124, .int x1, .int x2] σ (some (.int v)) σ' :=
  Call.ofE ok_X12_isFree rfl (Nat.le_of_ble_eq_true rfl) (w_X12_isFree_0 hs  (t_X12_isFree_0 (Nat.le_refl _) hs  h))
def F_X12_stayOf_116 (k_X12_stayOf_6 : Int32 → Int32 → Int32 → Int32 → Int32 → AH → Option (Int32 × AH)) (x1 : Int32) (x2 : Int32) (x3 : Int32) (x5 : Int32) (y0 : Int32) (σ : AH) : Option (Int32 × AH) := (k_X12_stayOf_6 x1 x2 x3 y0 (x5 + 1) σ)
def F_X12_stayOf_114 (k_X12_stayOf_6 : Int32 → Int32 → Int32 → Int32 → Int32 → AH → Option (Int32 × AH)) (x1 : Int32) (x2 : Int32) (x3 : Int32) (x4 : Int32) (x5 : Int32) (σ : AH) : Option (Int32 × AH) := (F_X12_stayOf_116 k_X12_stayOf_6 x1 x2 x3 x5 x4 σ)
def F_X12_stayOf_109 (k_X12_stayOf_6 : Int32 → Int32 → Int32 → Int32 → Int32 → AH → Option (Int32 × AH)) (x1 : Int32) (x2 : Int32) (x3 : Int32) (x5 : Int32) (σ : AH) : Option (Int32 × AH) := (F_X12_stayOf_116 k_X12_stayOf_6 x1 x2 x3 x5 x5 σ)
def F_X12_stayOf_72 (k_X12_stayOf_6 : Int32 → Int32 → Int32 → Int32 → Int32 → AH → Option (Int32 × AH)) (x1 : Int32) (x2 : Int32) (x3 : Int32) (x4 : Int32) (x5 : Int32) (y0 : Int32) (σ : AH) : Option (Int32 × AH) := (if y0 = 0 then (F_X12_stayOf_114 k_X12_stayOf_6 x1 x2 x3 x4 x5 σ) else (if x4 < 0 then (F_X12_stayOf_109 k_X12_stayOf_6 x1 x2 x3 x5 σ) else (bd (F_X12_stayAt x5 σ) fun v26 σ22 => (if inB v26 269832 = true then (bd (F_X12_stayAt x4 σ22) fun v33 σ29 => (if inB v33 269832 = true then (if (gI σ29 125 v33.toNatClampNeg) ≤ (gI σ22 125 v26.toNatClampNeg) then (F_X12_stayOf_114 k_X12_stayOf_6 x1 x2 x3 x4 x5 σ29) else (F_X12_stayOf_109 k_X12_stayOf_6 x1 x2 x3 x5 σ29)) else none)) else none))))
def F_X12_stayOf_71 (k_X12_stayOf_6 : Int32 → Int32 → Int32 → Int32 → Int32 → AH → Option (Int32 × AH)) (x1 : Int32) (x2 : Int32) (x3 : Int32) (x4 : Int32) (x5 : Int32) (σ : AH) : Option (Int32 × AH) := (F_X12_stayOf_72 k_X12_stayOf_6 x1 x2 x3 x4 x5 (0 : Int32) σ)
def F_X12_stayOf_67 (k_X12_stayOf_6 : Int32 → Int32 → Int32 → Int32 → Int32 → AH → Option (Int32 × AH)) (x1 : Int32) (x2 : Int32) (x3 : Int32) (x4 : Int32) (x5 : Int32) (σ : AH) : Option (Int32 × AH) := (F_X12_stayOf_72 k_X12_stayOf_6 x1 x2 x3 x4 x5 (1 : Int32) σ)
def B_X12_stayOf_6 (k_X12_stayOf_6 : Int32 → Int32 → Int32 → Int32 → Int32 → AH → Option (Int32 × AH)) (x1 : Int32) (x2 : Int32) (x3 : Int32) (x4 : Int32) (x5 : Int32) (σ : AH) : Option (Int32 × AH) := (if (gI σ 125 7) ≤ x5 then (some (x4, σ)) else (bd (F_X12_stayAt x5 σ) fun v6 σ2 => (if inB (v6 + (1 : Int32)) 269832 = true then (if inB (gI σ2 125 (v6 + (1 : Int32)).toNatClampNeg) 60 = true then (if (gI σ2 160 (gI σ2 125 (v6 + (1 : Int32)).toNatClampNeg).toNatClampNeg) = x1 then (if x3 = 0 then (bd (F_X12_squatsIn x5 x2 σ2) fun v14 σ10 => (if v14 = 0 then (F_X12_stayOf_71 k_X12_stayOf_6 x1 x2 x3 x4 x5 σ10) else (F_X12_stayOf_67 k_X12_stayOf_6 x1 x2 x3 x4 x5 σ10))) else (bd (F_X12_livesIn x5 x2 σ2) fun v20 σ16 => (if v20 = 0 then (F_X12_stayOf_71 k_X12_stayOf_6 x1 x2 x3 x4 x5 σ16) else (F_X12_stayOf_67 k_X12_stayOf_6 x1 x2 x3 x4 x5 σ16)))) else (F_X12_stayOf_71 k_X12_stayOf_6 x1 x2 x3 x4 x5 σ2)) else none) else none)))
def F_X12_stayOf_6 : Nat → Int32 → Int32 → Int32 → Int32 → Int32 → AH → Option (Int32 × AH) := fun k => match k with | 0 => fun _ _ _ _ _ _ => none | k + 1 => B_X12_stayOf_6 (F_X12_stayOf_6 k)
def F_X12_stayOf (x1 : Int32) (x2 : Int32) (x3 : Int32) (σ : AH) : Option (Int32 × AH) := (F_X12_stayOf_6 BIG x1 x2 x3 (-1 : Int32) (0 : Int32) σ)
set_option maxRecDepth 100000 in
theorem t_X12_stayOf_116 {X : Sx} {l : Launch} {D : Nat} {k_X12_stayOf_6 : Int32 → Int32 → Int32 → Int32 → Int32 → AH → Option (Int32 × AH)} {x1 : Int32} {x2 : Int32} {x3 : Int32} {x5 : Int32} {y0 : Int32} {σ : AH} {v : Int32} {σ' : AH} (hD : 2 ≤ D) (hk_X12_stayOf_6 : ∀ (x1 : Int32) (x2 : Int32) (x3 : Int32) (x4 : Int32) (x5 : Int32) (σ : AH) (v : Int32) (σ' : AH), Sh σ → k_X12_stayOf_6 x1 x2 x3 x4 x5 σ = some (v, σ') → E X l m_X12_stayOf D 6 [(0, .ref 124), (1, .int x1), (2, .int x2), (3, .int x3), (4, .int x4), (5, .int x5)] [] σ (some (.int v)) σ') (hs : Sh σ) (h : F_X12_stayOf_116 k_X12_stayOf_6 x1 x2 x3 x5 y0 σ = some (v, σ')) : W_X12_stayOf_116 X l D x1 x2 x3 x5 y0 σ (some (.int v)) σ' := by
  unfold F_X12_stayOf_116 at h
  unfold W_X12_stayOf_116
  exact hk_X12_stayOf_6 _ _ _ _ _ _ _ _ hs  h
set_option maxRecDepth 100000 in
theorem t_X12_stayOf_114 {X : Sx} {l : Launch} {D : Nat} {k_X12_stayOf_6 : Int32 → Int32 → Int32 → Int32 → Int32 → AH → Option (Int32 × AH)} {x1 : Int32} {x2 : Int32} {x3 : Int32} {x4 : Int32} {x5 : Int32} {σ : AH} {v : Int32} {σ' : AH} (hD : 2 ≤ D) (hk_X12_stayOf_6 : ∀ (x1 : Int32) (x2 : Int32) (x3 : Int32) (x4 : Int32) (x5 : Int32) (σ : AH) (v : Int32) (σ' : AH), Sh σ → k_X12_stayOf_6 x1 x2 x3 x4 x5 σ = some (v, σ') → E X l m_X12_stayOf D 6 [(0, .ref 124), (1, .int x1), (2, .int x2), (3, .int x3), (4, .int x4), (5, .int x5)] [] σ (some (.int v)) σ') (hs : Sh σ) (h : F_X12_stayOf_114 k_X12_stayOf_6 x1 x2 x3 x4 x5 σ = some (v, σ')) : W_X12_stayOf_114 X l D x1 x2 x3 x4 x5 σ (some (.int v)) σ' := by
  unfold F_X12_stayOf_114 at h
  unfold W_X12_stayOf_114
  exact t_X12_stayOf_116 hD hk_X12_stayOf_6 hs  h
set_option maxRecDepth 100000 in
theorem t_X12_stayOf_109 {X : Sx} {l : Launch} {D : Nat} {k_X12_stayOf_6 : Int32 → Int32 → Int32 → Int32 → Int32 → AH → Option (Int32 × AH)} {x1 : Int32} {x2 : Int32} {x3 : Int32} {x5 : Int32} {σ : AH} {v : Int32} {σ' : AH} (hD : 2 ≤ D) (hk_X12_stayOf_6 : ∀ (x1 : Int32) (x2 : Int32) (x3 : Int32) (x4 : Int32) (x5 : Int32) (σ : AH) (v : Int32) (σ' : AH), Sh σ → k_X12_stayOf_6 x1 x2 x3 x4 x5 σ = some (v, σ') → E X l m_X12_stayOf D 6 [(0, .ref 124), (1, .int x1), (2, .int x2), (3, .int x3), (4, .int x4), (5, .int x5)] [] σ (some (.int v)) σ') (hs : Sh σ) (h : F_X12_stayOf_109 k_X12_stayOf_6 x1 x2 x3 x5 σ = some (v, σ')) : W_X12_stayOf_109 X l D x1 x2 x3 x5 σ (some (.int v)) σ' := by
  unfold F_X12_stayOf_109 at h
  unfold W_X12_stayOf_109
  exact t_X12_stayOf_116 hD hk_X12_stayOf_6 hs  h
set_option maxRecDepth 100000 in
theorem t_X12_stayOf_72 {X : Sx} {l : Launch} {D : Nat} {k_X12_stayOf_6 : Int32 → Int32 → Int32 → Int32 → Int32 → AH → Option (Int32 × AH)} {x1 : Int32} {x2 : Int32} {x3 : Int32} {x4 : Int32} {x5 : Int32} {y0 : Int32} {σ : AH} {v : Int32} {σ' : AH} (hD : 2 ≤ D) (hk_X12_stayOf_6 : ∀ (x1 : Int32) (x2 : Int32) (x3 : Int32) (x4 : Int32) (x5 : Int32) (σ : AH) (v : Int32) (σ' : AH), Sh σ → k_X12_stayOf_6 x1 x2 x3 x4 x5 σ = some (v, σ') → E X l m_X12_stayOf D 6 [(0, .ref 124), (1, .int x1), (2, .int x2), (3, .int x3), (4, .int x4), (5, .int x5)] [] σ (some (.int v)) σ') (hs : Sh σ) (h : F_X12_stayOf_72 k_X12_stayOf_6 x1 x2 x3 x4 x5 y0 σ = some (v, σ')) : W_X12_stayOf_72 X l D x1 x2 x3 x4 x5 y0 σ (some (.int v)) σ' := by
  unfold F_X12_stayOf_72 at h
  unfold W_X12_stayOf_72
  refine ite_i (fun c1 => ?_) (fun c1 => ?_)
  · replace h := of_ifp h c1
    exact t_X12_stayOf_114 hD hk_X12_stayOf_6 hs  h
  · replace h := of_ifn h c1
    refine ite_i (fun c2 => ?_) (fun c2 => ?_)
    · replace h := of_ifp h c2
      exact t_X12_stayOf_109 hD hk_X12_stayOf_6 hs  h
    · replace h := of_ifn h c2
      obtain ⟨v26, σ22, q3, h⟩ := of_bd h
      have hC4 := f_X12_stayAt (σ := σ) hs  q3 (X := X) (l := l)
      have hs5 := hC4.1.2.2.2.1 hs
      refine ⟨0, v26, σ22, (Nat.le_trans (by decide) hD), hC4, ?_⟩
      obtain ⟨g6, h⟩ := of_gd h
      refine ⟨(inB_mp g6), ?_⟩
      obtain ⟨v33, σ29, q7, h⟩ := of_bd h
      have hC8 := f_X12_stayAt (σ := σ22) hs5  q7 (X := X) (l := l)
      have hs9 := hC8.1.2.2.2.1 hs5
      refine ⟨0, v33, σ29, (Nat.le_trans (by decide) hD), hC8, ?_⟩
      obtain ⟨g10, h⟩ := of_gd h
      refine ⟨(inB_mp g10), ?_⟩
      refine ite_i (fun c11 => ?_) (fun c11 => ?_)
      · replace h := of_ifp h c11
        exact t_X12_stayOf_114 hD hk_X12_stayOf_6 hs9  h
      · replace h := of_ifn h c11
        exact t_X12_stayOf_109 hD hk_X12_stayOf_6 hs9  h
set_option maxRecDepth 100000 in
theorem t_X12_stayOf_71 {X : Sx} {l : Launch} {D : Nat} {k_X12_stayOf_6 : Int32 → Int32 → Int32 → Int32 → Int32 → AH → Option (Int32 × AH)} {x1 : Int32} {x2 : Int32} {x3 : Int32} {x4 : Int32} {x5 : Int32} {σ : AH} {v : Int32} {σ' : AH} (hD : 2 ≤ D) (hk_X12_stayOf_6 : ∀ (x1 : Int32) (x2 : Int32) (x3 : Int32) (x4 : Int32) (x5 : Int32) (σ : AH) (v : Int32) (σ' : AH), Sh σ → k_X12_stayOf_6 x1 x2 x3 x4 x5 σ = some (v, σ') → E X l m_X12_stayOf D 6 [(0, .ref 124), (1, .int x1), (2, .int x2), (3, .int x3), (4, .int x4), (5, .int x5)] [] σ (some (.int v)) σ') (hs : Sh σ) (h : F_X12_stayOf_71 k_X12_stayOf_6 x1 x2 x3 x4 x5 σ = some (v, σ')) : W_X12_stayOf_71 X l D x1 x2 x3 x4 x5 σ (some (.int v)) σ' := by
  unfold F_X12_stayOf_71 at h
  unfold W_X12_stayOf_71
  exact t_X12_stayOf_72 hD hk_X12_stayOf_6 hs  h
set_option maxRecDepth 100000 in
theorem t_X12_stayOf_67 {X : Sx} {l : Launch} {D : Nat} {k_X12_stayOf_6 : Int32 → Int32 → Int32 → Int32 → Int32 → AH → Option (Int32 × AH)} {x1 : Int32} {x2 : Int32} {x3 : Int32} {x4 : Int32} {x5 : Int32} {σ : AH} {v : Int32} {σ' : AH} (hD : 2 ≤ D) (hk_X12_stayOf_6 : ∀ (x1 : Int32) (x2 : Int32) (x3 : Int32) (x4 : Int32) (x5 : Int32) (σ : AH) (v : Int32) (σ' : AH), Sh σ → k_X12_stayOf_6 x1 x2 x3 x4 x5 σ = some (v, σ') → E X l m_X12_stayOf D 6 [(0, .ref 124), (1, .int x1), (2, .int x2), (3, .int x3), (4, .int x4), (5, .int x5)] [] σ (some (.int v)) σ') (hs : Sh σ) (h : F_X12_stayOf_67 k_X12_stayOf_6 x1 x2 x3 x4 x5 σ = some (v, σ')) : W_X12_stayOf_67 X l D x1 x2 x3 x4 x5 σ (some (.int v)) σ' := by
  unfold F_X12_stayOf_67 at h
  unfold W_X12_stayOf_67
  exact t_X12_stayOf_72 hD hk_X12_stayOf_6 hs  h
set_option maxRecDepth 100000 in
theorem t_X12_stayOf_6 {X : Sx} {l : Launch} {D : Nat} {k_X12_stayOf_6 : Int32 → Int32 → Int32 → Int32 → Int32 → AH → Option (Int32 × AH)} {x1 : Int32} {x2 : Int32} {x3 : Int32} {x4 : Int32} {x5 : Int32} {σ : AH} {v : Int32} {σ' : AH} (hD : 2 ≤ D) (hk_X12_stayOf_6 : ∀ (x1 : Int32) (x2 : Int32) (x3 : Int32) (x4 : Int32) (x5 : Int32) (σ : AH) (v : Int32) (σ' : AH), Sh σ → k_X12_stayOf_6 x1 x2 x3 x4 x5 σ = some (v, σ') → E X l m_X12_stayOf D 6 [(0, .ref 124), (1, .int x1), (2, .int x2), (3, .int x3), (4, .int x4), (5, .int x5)] [] σ (some (.int v)) σ') (hs : Sh σ) (h : B_X12_stayOf_6 k_X12_stayOf_6 x1 x2 x3 x4 x5 σ = some (v, σ')) : W_X12_stayOf_6 X l D x1 x2 x3 x4 x5 σ (some (.int v)) σ' := by
  unfold B_X12_stayOf_6 at h
  unfold W_X12_stayOf_6
  refine ite_i (fun c1 => ?_) (fun c1 => ?_)
  · replace h := of_ifp h c1
    exact ret_i h
  · replace h := of_ifn h c1
    obtain ⟨v6, σ2, q2, h⟩ := of_bd h
    have hC3 := f_X12_stayAt (σ := σ) hs  q2 (X := X) (l := l)
    have hs4 := hC3.1.2.2.2.1 hs
    refine ⟨0, v6, σ2, (Nat.le_trans (by decide) hD), hC3, ?_⟩
    obtain ⟨g5, h⟩ := of_gd h
    refine ⟨(inB_mp g5), ?_⟩
    obtain ⟨g6, h⟩ := of_gd h
    refine ⟨(inB_mp g6), ?_⟩
    refine ite_i (fun c7 => ?_) (fun c7 => ?_)
    · replace h := of_ifp h c7
      refine ite_i (fun c8 => ?_) (fun c8 => ?_)
      · replace h := of_ifp h c8
        obtain ⟨v14, σ10, q9, h⟩ := of_bd h
        have hC10 := f_X12_squatsIn (σ := σ2) hs4  q9 (X := X) (l := l)
        have hs11 := hC10.1.2.2.2.1 hs4
        refine ⟨1, v14, σ10, (Nat.le_trans (by decide) hD), hC10, ?_⟩
        refine ite_i (fun c12 => ?_) (fun c12 => ?_)
        · replace h := of_ifp h c12
          exact t_X12_stayOf_71 hD hk_X12_stayOf_6 hs11  h
        · replace h := of_ifn h c12
          exact t_X12_stayOf_67 hD hk_X12_stayOf_6 hs11  h
      · replace h := of_ifn h c8
        obtain ⟨v20, σ16, q13, h⟩ := of_bd h
        have hC14 := f_X12_livesIn (σ := σ2) hs4  q13 (X := X) (l := l)
        have hs15 := hC14.1.2.2.2.1 hs4
        refine ⟨1, v20, σ16, (Nat.le_trans (by decide) hD), hC14, ?_⟩
        refine ite_i (fun c16 => ?_) (fun c16 => ?_)
        · replace h := of_ifp h c16
          exact t_X12_stayOf_71 hD hk_X12_stayOf_6 hs15  h
        · replace h := of_ifn h c16
          exact t_X12_stayOf_67 hD hk_X12_stayOf_6 hs15  h
    · replace h := of_ifn h c7
      exact t_X12_stayOf_71 hD hk_X12_stayOf_6 hs4  h
theorem e_X12_stayOf_6 {X : Sx} {l : Launch} {D : Nat} (hD : 2 ≤ D) : ∀ (k : Nat) (x1 : Int32) (x2 : Int32) (x3 : Int32) (x4 : Int32) (x5 : Int32) (σ : AH) (v : Int32) (σ' : AH), Sh σ → F_X12_stayOf_6 k x1 x2 x3 x4 x5 σ = some (v, σ') → E X l m_X12_stayOf D 6 [(0, .ref 124), (1, .int x1), (2, .int x2), (3, .int x3), (4, .int x4), (5, .int x5)] [] σ (some (.int v)) σ' := by
  intro k
  induction k with
  | zero => intro x1 x2 x3 x4 x5 σ v σ' hs h; cases h
  | succ k ih =>
    intro x1 x2 x3 x4 x5 σ v σ' hs h
    exact w_X12_stayOf_6 hs  (t_X12_stayOf_6 hD ih hs  h)
set_option maxRecDepth 100000 in
theorem t_X12_stayOf_0 {X : Sx} {l : Launch} {D : Nat} {x1 : Int32} {x2 : Int32} {x3 : Int32} {σ : AH} {v : Int32} {σ' : AH} (hD : 2 ≤ D) (hs : Sh σ) (h : F_X12_stayOf x1 x2 x3 σ = some (v, σ')) : W_X12_stayOf_0 X l D x1 x2 x3 σ (some (.int v)) σ' := by
  unfold F_X12_stayOf at h
  unfold W_X12_stayOf_0
  exact e_X12_stayOf_6 hD  _ _ _ _ _ _ _ _ _ hs  h
theorem f_X12_stayOf {X : Sx} {l : Launch} {x1 : Int32} {x2 : Int32} {x3 : Int32} {σ : AH} {v : Int32} {σ' : AH} (hs : Sh σ) (h : F_X12_stayOf x1 x2 x3 σ = some (v, σ')) : Call X l m_X12_stayOf 2 [.ref 124, .int x1, .int x2, .int x3] σ (some (.int v)) σ' :=
  Call.ofE ok_X12_stayOf rfl (Nat.le_of_ble_eq_true rfl) (w_X12_stayOf_0 hs  (t_X12_stayOf_0 (Nat.le_refl _) hs  h))
def F_X12_addStay (x1 : Int32) (x2 : Int32) (x3 : Int32) (x4 : Int32) (x5 : Int32) (x6 : Int32) (σ : AH) : Option AH := (bd (F_X12_stayAt (gI σ 125 7) σ) fun v6 σ2 => (bv (F_X12_addFour v6 x1 x2 x3 x4 σ2) fun σ8 => (if inB x1 30 = true then (bv (F_X12_addFour (v6 + (4 : Int32)) (gI σ8 165 x1.toNatClampNeg) (1000000 : Int32) x5 x6 σ8) fun σ14 => (some (sI σ14 125 7 ((gI σ14 125 7) + (1 : Int32))))) else none)))
set_option maxRecDepth 100000 in
theorem t_X12_addStay_0 {X : Sx} {l : Launch} {D : Nat} {x1 : Int32} {x2 : Int32} {x3 : Int32} {x4 : Int32} {x5 : Int32} {x6 : Int32} {σ : AH} {σ' : AH} (hD : 1 ≤ D) (hs : Sh σ) (h : F_X12_addStay x1 x2 x3 x4 x5 x6 σ = some σ') : W_X12_addStay_0 X l D x1 x2 x3 x4 x5 x6 σ none σ' := by
  unfold F_X12_addStay at h
  unfold W_X12_addStay_0
  obtain ⟨v6, σ2, q1, h⟩ := of_bd h
  have hC2 := f_X12_stayAt (σ := σ) hs  q1 (X := X) (l := l)
  have hs3 := hC2.1.2.2.2.1 hs
  refine ⟨0, v6, σ2, (Nat.le_trans (by decide) hD), hC2, ?_⟩
  obtain ⟨σ8, q4, h⟩ := of_bv h
  have hC5 := f_X12_addFour (σ := σ2) hs3  q4 (X := X) (l := l)
  have hs6 := hC5.1.2.2.2.1 hs3
  refine ⟨0, σ8, (Nat.le_trans (by decide) hD), hC5, ?_⟩
  obtain ⟨g7, h⟩ := of_gd h
  refine ⟨(inB_mp g7), ?_⟩
  obtain ⟨σ14, q8, h⟩ := of_bv h
  have hC9 := f_X12_addFour (σ := σ8) hs6  q8 (X := X) (l := l)
  have hs10 := hC9.1.2.2.2.1 hs6
  refine ⟨0, σ14, (Nat.le_trans (by decide) hD), hC9, ?_⟩
  exact ret_v h
theorem f_X12_addStay {X : Sx} {l : Launch} {x1 : Int32} {x2 : Int32} {x3 : Int32} {x4 : Int32} {x5 : Int32} {x6 : Int32} {σ : AH} {σ' : AH} (hs : Sh σ) (h : F_X12_addStay x1 x2 x3 x4 x5 x6 σ = some σ') : Call X l m_X12_addStay 1 [.ref 124, .int x1, .int x2, .int x3, .int x4, .int x5, .int x6] σ none σ' :=
  Call.ofE ok_X12_addStay rfl (Nat.le_of_ble_eq_true rfl) (w_X12_addStay_0 hs  (t_X12_addStay_0 (Nat.le_refl _) hs  h))
def F_X12_whom_104 (k_X12_whom_12 : Int32 → Int32 → Int32 → AH → Option (Int32 × AH)) (x1 : Int32) (x2 : Int32) (x3 : Int32) (σ : AH) : Option (Int32 × AH) := (k_X12_whom_12 x1 x2 (x3 + 1) σ)
def F_X12_whom_77 (k_X12_whom_12 : Int32 → Int32 → Int32 → AH → Option (Int32 × AH)) (x1 : Int32) (x2 : Int32) (x3 : Int32) (x4 : Int32) (y0 : Int32) (σ : AH) : Option (Int32 × AH) := (if y0 = 0 then (F_X12_whom_104 k_X12_whom_12 x1 x2 x3 σ) else (bd (F_X12_entryAt x4 (2 : Int32) σ) fun v44 σ40 => (bd (F_X12_roomsOf x1 σ40) fun v50 σ46 => (if ((2 : Int32) * v50) < v44 then (F_X12_whom_104 k_X12_whom_12 x1 x2 x3 σ46) else (some (x4, σ46))))))
def F_X12_whom_72 (k_X12_whom_12 : Int32 → Int32 → Int32 → AH → Option (Int32 × AH)) (x1 : Int32) (x2 : Int32) (x3 : Int32) (x4 : Int32) (σ : AH) : Option (Int32 × AH) := (F_X12_whom_77 k_X12_whom_12 x1 x2 x3 x4 (1 : Int32) σ)
def B_X12_whom_12 (k_X12_whom_12 : Int32 → Int32 → Int32 → AH → Option (Int32 × AH)) (x1 : Int32) (x2 : Int32) (x3 : Int32) (σ : AH) : Option (Int32 × AH) := (if (gI σ 124 65) ≤ x3 then (some ((-1 : Int32), σ)) else (if inB x3 60 = true then (if inB (gI σ 162 x3.toNatClampNeg) 60 = true then (bd (F_X12_stayOf (gI σ 160 (gI σ 162 x3.toNatClampNeg).toNatClampNeg) x2 (1 : Int32) σ) fun v19 σ15 => (if v19 = (-1 : Int32) then (F_X12_whom_72 k_X12_whom_12 x1 x2 x3 (gI σ 162 x3.toNatClampNeg) σ15) else (bd (F_X12_stayAt v19 σ15) fun v25 σ21 => (if inB v25 269832 = true then (bd (F_X12_roomsOf (gI σ21 125 v25.toNatClampNeg) σ21) fun v32 σ28 => (bd (F_X12_roomsOf x1 σ28) fun v38 σ34 => (if v38 ≤ v32 then (F_X12_whom_77 k_X12_whom_12 x1 x2 x3 (gI σ 162 x3.toNatClampNeg) (0 : Int32) σ34) else (F_X12_whom_72 k_X12_whom_12 x1 x2 x3 (gI σ 162 x3.toNatClampNeg) σ34)))) else none)))) else none) else none))
def F_X12_whom_12 : Nat → Int32 → Int32 → Int32 → AH → Option (Int32 × AH) := fun k => match k with | 0 => fun _ _ _ _ => none | k + 1 => B_X12_whom_12 (F_X12_whom_12 k)
def F_X12_whom (x1 : Int32) (x2 : Int32) (σ : AH) : Option (Int32 × AH) := (bd (F_X12_councilOf x1 σ) fun v6 σ2 => (bv (F_X12_findList v6 x2 σ2) fun σ8 => (F_X12_whom_12 BIG x1 x2 (0 : Int32) σ8)))
set_option maxRecDepth 100000 in
theorem t_X12_whom_104 {X : Sx} {l : Launch} {D : Nat} {k_X12_whom_12 : Int32 → Int32 → Int32 → AH → Option (Int32 × AH)} {x1 : Int32} {x2 : Int32} {x3 : Int32} {σ : AH} {v : Int32} {σ' : AH} (hD : 7 ≤ D) (hk_X12_whom_12 : ∀ (x1 : Int32) (x2 : Int32) (x3 : Int32) (σ : AH) (v : Int32) (σ' : AH), Sh σ → k_X12_whom_12 x1 x2 x3 σ = some (v, σ') → E X l m_X12_whom D 12 [(0, .ref 124), (1, .int x1), (2, .int x2), (3, .int x3)] [] σ (some (.int v)) σ') (hs : Sh σ) (h : F_X12_whom_104 k_X12_whom_12 x1 x2 x3 σ = some (v, σ')) : W_X12_whom_104 X l D x1 x2 x3 σ (some (.int v)) σ' := by
  unfold F_X12_whom_104 at h
  unfold W_X12_whom_104
  exact hk_X12_whom_12 _ _ _ _ _ _ hs  h
set_option maxRecDepth 100000 in
theorem t_X12_whom_77 {X : Sx} {l : Launch} {D : Nat} {k_X12_whom_12 : Int32 → Int32 → Int32 → AH → Option (Int32 × AH)} {x1 : Int32} {x2 : Int32} {x3 : Int32} {x4 : Int32} {y0 : Int32} {σ : AH} {v : Int32} {σ' : AH} (hD : 7 ≤ D) (hk_X12_whom_12 : ∀ (x1 : Int32) (x2 : Int32) (x3 : Int32) (σ : AH) (v : Int32) (σ' : AH), Sh σ → k_X12_whom_12 x1 x2 x3 σ = some (v, σ') → E X l m_X12_whom D 12 [(0, .ref 124), (1, .int x1), (2, .int x2), (3, .int x3)] [] σ (some (.int v)) σ') (hs : Sh σ) (h : F_X12_whom_77 k_X12_whom_12 x1 x2 x3 x4 y0 σ = some (v, σ')) : W_X12_whom_77 X l D x1 x2 x3 x4 y0 σ (some (.int v)) σ' := by
  unfold F_X12_whom_77 at h
  unfold W_X12_whom_77
  refine ite_i (fun c1 => ?_) (fun c1 => ?_)
  · replace h := of_ifp h c1
    exact t_X12_whom_104 hD hk_X12_whom_12 hs  h
  · replace h := of_ifn h c1
    obtain ⟨v44, σ40, q2, h⟩ := of_bd h
    have hC3 := f_X12_entryAt (σ := σ) hs  q2 (X := X) (l := l)
    have hs4 := hC3.1.2.2.2.1 hs
    refine ⟨0, v44, σ40, (Nat.le_trans (by decide) hD), hC3, ?_⟩
    obtain ⟨v50, σ46, q5, h⟩ := of_bd h
    have hC6 := f_X12_roomsOf (σ := σ40) hs4  q5 (X := X) (l := l)
    have hs7 := hC6.1.2.2.2.1 hs4
    refine ⟨0, v50, σ46, (Nat.le_trans (by decide) hD), hC6, ?_⟩
    refine ite_i (fun c8 => ?_) (fun c8 => ?_)
    · replace h := of_ifp h c8
      exact t_X12_whom_104 hD hk_X12_whom_12 hs7  h
    · replace h := of_ifn h c8
      exact ret_i h
set_option maxRecDepth 100000 in
theorem t_X12_whom_72 {X : Sx} {l : Launch} {D : Nat} {k_X12_whom_12 : Int32 → Int32 → Int32 → AH → Option (Int32 × AH)} {x1 : Int32} {x2 : Int32} {x3 : Int32} {x4 : Int32} {σ : AH} {v : Int32} {σ' : AH} (hD : 7 ≤ D) (hk_X12_whom_12 : ∀ (x1 : Int32) (x2 : Int32) (x3 : Int32) (σ : AH) (v : Int32) (σ' : AH), Sh σ → k_X12_whom_12 x1 x2 x3 σ = some (v, σ') → E X l m_X12_whom D 12 [(0, .ref 124), (1, .int x1), (2, .int x2), (3, .int x3)] [] σ (some (.int v)) σ') (hs : Sh σ) (h : F_X12_whom_72 k_X12_whom_12 x1 x2 x3 x4 σ = some (v, σ')) : W_X12_whom_72 X l D x1 x2 x3 x4 σ (some (.int v)) σ' := by
  unfold F_X12_whom_72 at h
  unfold W_X12_whom_72
  exact t_X12_whom_77 hD hk_X12_whom_12 hs  h
set_option maxRecDepth 100000 in
theorem t_X12_whom_12 {X : Sx} {l : Launch} {D : Nat} {k_X12_whom_12 : Int32 → Int32 → Int32 → AH → Option (Int32 × AH)} {x1 : Int32} {x2 : Int32} {x3 : Int32} {σ : AH} {v : Int32} {σ' : AH} (hD : 7 ≤ D) (hk_X12_whom_12 : ∀ (x1 : Int32) (x2 : Int32) (x3 : Int32) (σ : AH) (v : Int32) (σ' : AH), Sh σ → k_X12_whom_12 x1 x2 x3 σ = some (v, σ') → E X l m_X12_whom D 12 [(0, .ref 124), (1, .int x1), (2, .int x2), (3, .int x3)] [] σ (some (.int v)) σ') (hs : Sh σ) (h : B_X12_whom_12 k_X12_whom_12 x1 x2 x3 σ = some (v, σ')) : W_X12_whom_12 X l D x1 x2 x3 σ (some (.int v)) σ' := by
  unfold B_X12_whom_12 at h
  unfold W_X12_whom_12
  refine ite_i (fun c1 => ?_) (fun c1 => ?_)
  · replace h := of_ifp h c1
    exact ret_i h
  · replace h := of_ifn h c1
    obtain ⟨g2, h⟩ := of_gd h
    refine ⟨(inB_mp g2), ?_⟩
    obtain ⟨g3, h⟩ := of_gd h
    refine ⟨(inB_mp g3), ?_⟩
    obtain ⟨v19, σ15, q4, h⟩ := of_bd h
    have hC5 := f_X12_stayOf (σ := σ) hs  q4 (X := X) (l := l)
    have hs6 := hC5.1.2.2.2.1 hs
    refine ⟨2, v19, σ15, (Nat.le_trans (by decide) hD), hC5, ?_⟩
    refine ite_i (fun c7 => ?_) (fun c7 => ?_)
    · replace h := of_ifp h c7
      exact t_X12_whom_72 hD hk_X12_whom_12 hs6  h
    · replace h := of_ifn h c7
      obtain ⟨v25, σ21, q8, h⟩ := of_bd h
      have hC9 := f_X12_stayAt (σ := σ15) hs6  q8 (X := X) (l := l)
      have hs10 := hC9.1.2.2.2.1 hs6
      refine ⟨0, v25, σ21, (Nat.le_trans (by decide) hD), hC9, ?_⟩
      obtain ⟨g11, h⟩ := of_gd h
      refine ⟨(inB_mp g11), ?_⟩
      obtain ⟨v32, σ28, q12, h⟩ := of_bd h
      have hC13 := f_X12_roomsOf (σ := σ21) hs10  q12 (X := X) (l := l)
      have hs14 := hC13.1.2.2.2.1 hs10
      refine ⟨0, v32, σ28, (Nat.le_trans (by decide) hD), hC13, ?_⟩
      obtain ⟨v38, σ34, q15, h⟩ := of_bd h
      have hC16 := f_X12_roomsOf (σ := σ28) hs14  q15 (X := X) (l := l)
      have hs17 := hC16.1.2.2.2.1 hs14
      refine ⟨0, v38, σ34, (Nat.le_trans (by decide) hD), hC16, ?_⟩
      refine ite_i (fun c18 => ?_) (fun c18 => ?_)
      · replace h := of_ifp h c18
        exact t_X12_whom_77 hD hk_X12_whom_12 hs17  h
      · replace h := of_ifn h c18
        exact t_X12_whom_72 hD hk_X12_whom_12 hs17  h
theorem e_X12_whom_12 {X : Sx} {l : Launch} {D : Nat} (hD : 7 ≤ D) : ∀ (k : Nat) (x1 : Int32) (x2 : Int32) (x3 : Int32) (σ : AH) (v : Int32) (σ' : AH), Sh σ → F_X12_whom_12 k x1 x2 x3 σ = some (v, σ') → E X l m_X12_whom D 12 [(0, .ref 124), (1, .int x1), (2, .int x2), (3, .int x3)] [] σ (some (.int v)) σ' := by
  intro k
  induction k with
  | zero => intro x1 x2 x3 σ v σ' hs h; cases h
  | succ k ih =>
    intro x1 x2 x3 σ v σ' hs h
    exact w_X12_whom_12 hs  (t_X12_whom_12 hD ih hs  h)
set_option maxRecDepth 100000 in
theorem t_X12_whom_0 {X : Sx} {l : Launch} {D : Nat} {x1 : Int32} {x2 : Int32} {σ : AH} {v : Int32} {σ' : AH} (hD : 7 ≤ D) (hs : Sh σ) (h : F_X12_whom x1 x2 σ = some (v, σ')) : W_X12_whom_0 X l D x1 x2 σ (some (.int v)) σ' := by
  unfold F_X12_whom at h
  unfold W_X12_whom_0
  obtain ⟨v6, σ2, q1, h⟩ := of_bd h
  have hC2 := f_X12_councilOf (σ := σ) hs  q1 (X := X) (l := l)
  have hs3 := hC2.1.2.2.2.1 hs
  refine ⟨0, v6, σ2, (Nat.le_trans (by decide) hD), hC2, ?_⟩
  obtain ⟨σ8, q4, h⟩ := of_bv h
  have hC5 := f_X12_findList (σ := σ2) hs3  q4 (X := X) (l := l)
  have hs6 := hC5.1.2.2.2.1 hs3
  refine ⟨6, σ8, (Nat.le_trans (by decide) hD), hC5, ?_⟩
  exact e_X12_whom_12 hD  _ _ _ _ _ _ _ hs6  h
theorem f_X12_whom {X : Sx} {l : Launch} {x1 : Int32} {x2 : Int32} {σ : AH} {v : Int32} {σ' : AH} (hs : Sh σ) (h : F_X12_whom x1 x2 σ = some (v, σ')) : Call X l m_X12_whom 7 [.ref 124, .int x1, .int x2] σ (some (.int v)) σ' :=
  Call.ofE ok_X12_whom rfl (Nat.le_of_ble_eq_true rfl) (w_X12_whom_0 hs  (t_X12_whom_0 (Nat.le_refl _) hs  h))
def F_X12_offerOne_171 (k_X12_offerOne_5 : Int32 → Int32 → Int32 → AH → Option (Int32 × AH)) (x2 : Int32) (x3 : Int32) (x4 : Int32) (x5 : Int32) (x8 : Int32) (σ : AH) : Option (Int32 × AH) := (bv (F_X12_addStay x3 x5 x2 x2 x4 (0 : Int32) σ) fun σ62 => (k_X12_offerOne_5 x2 x8 (x4 + 1) σ62))
def F_X12_offerOne_151 (k_X12_offerOne_5 : Int32 → Int32 → Int32 → AH → Option (Int32 × AH)) (x2 : Int32) (x3 : Int32) (x4 : Int32) (x5 : Int32) (x7 : Int32) (x8 : Int32) (σ : AH) : Option (Int32 × AH) := (if x7 = (-1 : Int32) then (F_X12_offerOne_171 k_X12_offerOne_5 x2 x3 x4 x5 x8 σ) else (bd (F_X12_stayAt x7 σ) fun v59 σ55 => (if inB (v59 + (5 : Int32)) 269832 = true then (F_X12_offerOne_171 k_X12_offerOne_5 x2 x3 x4 x5 x8 (sI σ55 125 ((v59 + (5 : Int32)).toNatClampNeg) x2)) else none)))
def F_X12_offerOne_129 (k_X12_offerOne_5 : Int32 → Int32 → Int32 → AH → Option (Int32 × AH)) (x2 : Int32) (x3 : Int32) (x4 : Int32) (x5 : Int32) (x6 : Int32) (x7 : Int32) (y0 : Int32) (σ : AH) : Option (Int32 × AH) := (if x6 = (-1 : Int32) then (F_X12_offerOne_151 k_X12_offerOne_5 x2 x3 x4 x5 x7 y0 σ) else (bd (F_X12_stayAt x6 σ) fun v52 σ48 => (if inB (v52 + (5 : Int32)) 269832 = true then (F_X12_offerOne_151 k_X12_offerOne_5 x2 x3 x4 x5 x7 y0 (sI σ48 125 ((v52 + (5 : Int32)).toNatClampNeg) x2)) else none)))
def F_X12_offerOne_45 (k_X12_offerOne_5 : Int32 → Int32 → Int32 → AH → Option (Int32 × AH)) (x2 : Int32) (x3 : Int32) (x4 : Int32) (y0 : Int32) (σ : AH) : Option (Int32 × AH) := (if y0 = (-1 : Int32) then (k_X12_offerOne_5 x2 (-1 : Int32) x4 σ) else (if inB y0 60 = true then (bd (F_X12_stayOf (gI σ 160 y0.toNatClampNeg) x2 (1 : Int32) σ) fun v25 σ21 => (if inB y0 60 = true then (bd (F_X12_stayOf (gI σ21 160 y0.toNatClampNeg) x2 (0 : Int32) σ21) fun v32 σ28 => (if v25 = (-1 : Int32) then (if v32 = (-1 : Int32) then (F_X12_offerOne_129 k_X12_offerOne_5 x2 x3 x4 y0 v25 v32 (-1 : Int32) σ28) else (bd (F_X12_stayAt v32 σ28) fun v38 σ34 => (if inB v38 269832 = true then (F_X12_offerOne_129 k_X12_offerOne_5 x2 x3 x4 y0 v25 v32 (gI σ34 125 v38.toNatClampNeg) σ34) else none))) else (bd (F_X12_stayAt v25 σ28) fun v45 σ41 => (if inB v45 269832 = true then (F_X12_offerOne_129 k_X12_offerOne_5 x2 x3 x4 y0 v25 v32 (gI σ41 125 v45.toNatClampNeg) σ41) else none)))) else none)) else none))
def F_X12_offerOne_44 (k_X12_offerOne_5 : Int32 → Int32 → Int32 → AH → Option (Int32 × AH)) (x2 : Int32) (x3 : Int32) (x4 : Int32) (σ : AH) : Option (Int32 × AH) := (F_X12_offerOne_45 k_X12_offerOne_5 x2 x3 x4 (-1 : Int32) σ)
def B_X12_offerOne_5 (k_X12_offerOne_5 : Int32 → Int32 → Int32 → AH → Option (Int32 × AH)) (x2 : Int32) (x3 : Int32) (x4 : Int32) (σ : AH) : Option (Int32 × AH) := (if x3 = (-1 : Int32) then (some (x4, σ)) else (if (10 : Int32) ≤ x4 then (some (x4, σ)) else (bd (F_X12_isHome x3 x2 σ) fun v6 σ2 => (if v6 = 0 then (F_X12_offerOne_44 k_X12_offerOne_5 x2 x3 x4 σ2) else (bd (F_X12_isFree x3 x2 σ2) fun v12 σ8 => (if v12 = 0 then (F_X12_offerOne_44 k_X12_offerOne_5 x2 x3 x4 σ8) else (bd (F_X12_whom x3 x2 σ8) fun v18 σ14 => (F_X12_offerOne_45 k_X12_offerOne_5 x2 x3 x4 v18 σ14))))))))
def F_X12_offerOne_5 : Nat → Int32 → Int32 → Int32 → AH → Option (Int32 × AH) := fun k => match k with | 0 => fun _ _ _ _ => none | k + 1 => B_X12_offerOne_5 (F_X12_offerOne_5 k)
def F_X12_offerOne (x1 : Int32) (x2 : Int32) (σ : AH) : Option (Int32 × AH) := (F_X12_offerOne_5 BIG x2 x1 (0 : Int32) σ)
set_option maxRecDepth 100000 in
theorem t_X12_offerOne_171 {X : Sx} {l : Launch} {D : Nat} {k_X12_offerOne_5 : Int32 → Int32 → Int32 → AH → Option (Int32 × AH)} {x2 : Int32} {x3 : Int32} {x4 : Int32} {x5 : Int32} {x8 : Int32} {σ : AH} {v : Int32} {σ' : AH} (hD : 8 ≤ D) (hk_X12_offerOne_5 : ∀ (x2 : Int32) (x3 : Int32) (x4 : Int32) (σ : AH) (v : Int32) (σ' : AH), Sh σ → k_X12_offerOne_5 x2 x3 x4 σ = some (v, σ') → E X l m_X12_offerOne D 5 [(0, .ref 124), (2, .int x2), (3, .int x3), (4, .int x4)] [] σ (some (.int v)) σ') (hs : Sh σ) (h : F_X12_offerOne_171 k_X12_offerOne_5 x2 x3 x4 x5 x8 σ = some (v, σ')) : W_X12_offerOne_171 X l D x2 x3 x4 x5 x8 σ (some (.int v)) σ' := by
  unfold F_X12_offerOne_171 at h
  unfold W_X12_offerOne_171
  obtain ⟨σ62, q1, h⟩ := of_bv h
  have hC2 := f_X12_addStay (σ := σ) hs  q1 (X := X) (l := l)
  have hs3 := hC2.1.2.2.2.1 hs
  refine ⟨1, σ62, (Nat.le_trans (by decide) hD), hC2, ?_⟩
  exact hk_X12_offerOne_5 _ _ _ _ _ _ hs3  h
set_option maxRecDepth 100000 in
theorem t_X12_offerOne_151 {X : Sx} {l : Launch} {D : Nat} {k_X12_offerOne_5 : Int32 → Int32 → Int32 → AH → Option (Int32 × AH)} {x2 : Int32} {x3 : Int32} {x4 : Int32} {x5 : Int32} {x7 : Int32} {x8 : Int32} {σ : AH} {v : Int32} {σ' : AH} (hD : 8 ≤ D) (hk_X12_offerOne_5 : ∀ (x2 : Int32) (x3 : Int32) (x4 : Int32) (σ : AH) (v : Int32) (σ' : AH), Sh σ → k_X12_offerOne_5 x2 x3 x4 σ = some (v, σ') → E X l m_X12_offerOne D 5 [(0, .ref 124), (2, .int x2), (3, .int x3), (4, .int x4)] [] σ (some (.int v)) σ') (hs : Sh σ) (h : F_X12_offerOne_151 k_X12_offerOne_5 x2 x3 x4 x5 x7 x8 σ = some (v, σ')) : W_X12_offerOne_151 X l D x2 x3 x4 x5 x7 x8 σ (some (.int v)) σ' := by
  unfold F_X12_offerOne_151 at h
  unfold W_X12_offerOne_151
  refine ite_i (fun c1 => ?_) (fun c1 => ?_)
  · replace h := of_ifp h c1
    exact t_X12_offerOne_171 hD hk_X12_offerOne_5 hs  h
  · replace h := of_ifn h c1
    obtain ⟨v59, σ55, q2, h⟩ := of_bd h
    have hC3 := f_X12_stayAt (σ := σ) hs  q2 (X := X) (l := l)
    have hs4 := hC3.1.2.2.2.1 hs
    refine ⟨0, v59, σ55, (Nat.le_trans (by decide) hD), hC3, ?_⟩
    obtain ⟨g5, h⟩ := of_gd h
    refine ⟨(inB_mp g5), ?_⟩
    exact t_X12_offerOne_171 hD hk_X12_offerOne_5 hs4  h
set_option maxRecDepth 100000 in
theorem t_X12_offerOne_129 {X : Sx} {l : Launch} {D : Nat} {k_X12_offerOne_5 : Int32 → Int32 → Int32 → AH → Option (Int32 × AH)} {x2 : Int32} {x3 : Int32} {x4 : Int32} {x5 : Int32} {x6 : Int32} {x7 : Int32} {y0 : Int32} {σ : AH} {v : Int32} {σ' : AH} (hD : 8 ≤ D) (hk_X12_offerOne_5 : ∀ (x2 : Int32) (x3 : Int32) (x4 : Int32) (σ : AH) (v : Int32) (σ' : AH), Sh σ → k_X12_offerOne_5 x2 x3 x4 σ = some (v, σ') → E X l m_X12_offerOne D 5 [(0, .ref 124), (2, .int x2), (3, .int x3), (4, .int x4)] [] σ (some (.int v)) σ') (hs : Sh σ) (h : F_X12_offerOne_129 k_X12_offerOne_5 x2 x3 x4 x5 x6 x7 y0 σ = some (v, σ')) : W_X12_offerOne_129 X l D x2 x3 x4 x5 x6 x7 y0 σ (some (.int v)) σ' := by
  unfold F_X12_offerOne_129 at h
  unfold W_X12_offerOne_129
  refine ite_i (fun c1 => ?_) (fun c1 => ?_)
  · replace h := of_ifp h c1
    exact t_X12_offerOne_151 hD hk_X12_offerOne_5 hs  h
  · replace h := of_ifn h c1
    obtain ⟨v52, σ48, q2, h⟩ := of_bd h
    have hC3 := f_X12_stayAt (σ := σ) hs  q2 (X := X) (l := l)
    have hs4 := hC3.1.2.2.2.1 hs
    refine ⟨0, v52, σ48, (Nat.le_trans (by decide) hD), hC3, ?_⟩
    obtain ⟨g5, h⟩ := of_gd h
    refine ⟨(inB_mp g5), ?_⟩
    exact t_X12_offerOne_151 hD hk_X12_offerOne_5 hs4  h
set_option maxRecDepth 100000 in
theorem t_X12_offerOne_45 {X : Sx} {l : Launch} {D : Nat} {k_X12_offerOne_5 : Int32 → Int32 → Int32 → AH → Option (Int32 × AH)} {x2 : Int32} {x3 : Int32} {x4 : Int32} {y0 : Int32} {σ : AH} {v : Int32} {σ' : AH} (hD : 8 ≤ D) (hk_X12_offerOne_5 : ∀ (x2 : Int32) (x3 : Int32) (x4 : Int32) (σ : AH) (v : Int32) (σ' : AH), Sh σ → k_X12_offerOne_5 x2 x3 x4 σ = some (v, σ') → E X l m_X12_offerOne D 5 [(0, .ref 124), (2, .int x2), (3, .int x3), (4, .int x4)] [] σ (some (.int v)) σ') (hs : Sh σ) (h : F_X12_offerOne_45 k_X12_offerOne_5 x2 x3 x4 y0 σ = some (v, σ')) : W_X12_offerOne_45 X l D x2 x3 x4 y0 σ (some (.int v)) σ' := by
  unfold F_X12_offerOne_45 at h
  unfold W_X12_offerOne_45
  refine ite_i (fun c1 => ?_) (fun c1 => ?_)
  · replace h := of_ifp h c1
    exact hk_X12_offerOne_5 _ _ _ _ _ _ hs  h
  · replace h := of_ifn h c1
    obtain ⟨g2, h⟩ := of_gd h
    refine ⟨(inB_mp g2), ?_⟩
    obtain ⟨v25, σ21, q3, h⟩ := of_bd h
    have hC4 := f_X12_stayOf (σ := σ) hs  q3 (X := X) (l := l)
    have hs5 := hC4.1.2.2.2.1 hs
    refine ⟨2, v25, σ21, (Nat.le_trans (by decide) hD), hC4, ?_⟩
    obtain ⟨g6, h⟩ := of_gd h
    refine ⟨(inB_mp g6), ?_⟩
    obtain ⟨v32, σ28, q7, h⟩ := of_bd h
    have hC8 := f_X12_stayOf (σ := σ21) hs5  q7 (X := X) (l := l)
    have hs9 := hC8.1.2.2.2.1 hs5
    refine ⟨2, v32, σ28, (Nat.le_trans (by decide) hD), hC8, ?_⟩
    refine ite_i (fun c10 => ?_) (fun c10 => ?_)
    · replace h := of_ifp h c10
      refine ite_i (fun c11 => ?_) (fun c11 => ?_)
      · replace h := of_ifp h c11
        exact t_X12_offerOne_129 hD hk_X12_offerOne_5 hs9  h
      · replace h := of_ifn h c11
        obtain ⟨v38, σ34, q12, h⟩ := of_bd h
        have hC13 := f_X12_stayAt (σ := σ28) hs9  q12 (X := X) (l := l)
        have hs14 := hC13.1.2.2.2.1 hs9
        refine ⟨0, v38, σ34, (Nat.le_trans (by decide) hD), hC13, ?_⟩
        obtain ⟨g15, h⟩ := of_gd h
        refine ⟨(inB_mp g15), ?_⟩
        exact t_X12_offerOne_129 hD hk_X12_offerOne_5 hs14  h
    · replace h := of_ifn h c10
      obtain ⟨v45, σ41, q16, h⟩ := of_bd h
      have hC17 := f_X12_stayAt (σ := σ28) hs9  q16 (X := X) (l := l)
      have hs18 := hC17.1.2.2.2.1 hs9
      refine ⟨0, v45, σ41, (Nat.le_trans (by decide) hD), hC17, ?_⟩
      obtain ⟨g19, h⟩ := of_gd h
      refine ⟨(inB_mp g19), ?_⟩
      exact t_X12_offerOne_129 hD hk_X12_offerOne_5 hs18  h
set_option maxRecDepth 100000 in
theorem t_X12_offerOne_44 {X : Sx} {l : Launch} {D : Nat} {k_X12_offerOne_5 : Int32 → Int32 → Int32 → AH → Option (Int32 × AH)} {x2 : Int32} {x3 : Int32} {x4 : Int32} {σ : AH} {v : Int32} {σ' : AH} (hD : 8 ≤ D) (hk_X12_offerOne_5 : ∀ (x2 : Int32) (x3 : Int32) (x4 : Int32) (σ : AH) (v : Int32) (σ' : AH), Sh σ → k_X12_offerOne_5 x2 x3 x4 σ = some (v, σ') → E X l m_X12_offerOne D 5 [(0, .ref 124), (2, .int x2), (3, .int x3), (4, .int x4)] [] σ (some (.int v)) σ') (hs : Sh σ) (h : F_X12_offerOne_44 k_X12_offerOne_5 x2 x3 x4 σ = some (v, σ')) : W_X12_offerOne_44 X l D x2 x3 x4 σ (some (.int v)) σ' := by
  unfold F_X12_offerOne_44 at h
  unfold W_X12_offerOne_44
  exact t_X12_offerOne_45 hD hk_X12_offerOne_5 hs  h
set_option maxRecDepth 100000 in
theorem t_X12_offerOne_5 {X : Sx} {l : Launch} {D : Nat} {k_X12_offerOne_5 : Int32 → Int32 → Int32 → AH → Option (Int32 × AH)} {x2 : Int32} {x3 : Int32} {x4 : Int32} {σ : AH} {v : Int32} {σ' : AH} (hD : 8 ≤ D) (hk_X12_offerOne_5 : ∀ (x2 : Int32) (x3 : Int32) (x4 : Int32) (σ : AH) (v : Int32) (σ' : AH), Sh σ → k_X12_offerOne_5 x2 x3 x4 σ = some (v, σ') → E X l m_X12_offerOne D 5 [(0, .ref 124), (2, .int x2), (3, .int x3), (4, .int x4)] [] σ (some (.int v)) σ') (hs : Sh σ) (h : B_X12_offerOne_5 k_X12_offerOne_5 x2 x3 x4 σ = some (v, σ')) : W_X12_offerOne_5 X l D x2 x3 x4 σ (some (.int v)) σ' := by
  unfold B_X12_offerOne_5 at h
  unfold W_X12_offerOne_5
  refine ite_i (fun c1 => ?_) (fun c1 => ?_)
  · replace h := of_ifp h c1
    exact ret_i h
  · replace h := of_ifn h c1
    refine ite_i (fun c2 => ?_) (fun c2 => ?_)
    · replace h := of_ifp h c2
      exact ret_i h
    · replace h := of_ifn h c2
      obtain ⟨v6, σ2, q3, h⟩ := of_bd h
      have hC4 := f_X12_isHome (σ := σ) hs  q3 (X := X) (l := l)
      have hs5 := hC4.1.2.2.2.1 hs
      refine ⟨0, v6, σ2, (Nat.le_trans (by decide) hD), hC4, ?_⟩
      refine ite_i (fun c6 => ?_) (fun c6 => ?_)
      · replace h := of_ifp h c6
        exact t_X12_offerOne_44 hD hk_X12_offerOne_5 hs5  h
      · replace h := of_ifn h c6
        obtain ⟨v12, σ8, q7, h⟩ := of_bd h
        have hC8 := f_X12_isFree (σ := σ2) hs5  q7 (X := X) (l := l)
        have hs9 := hC8.1.2.2.2.1 hs5
        refine ⟨3, v12, σ8, (Nat.le_trans (by decide) hD), hC8, ?_⟩
        refine ite_i (fun c10 => ?_) (fun c10 => ?_)
        · replace h := of_ifp h c10
          exact t_X12_offerOne_44 hD hk_X12_offerOne_5 hs9  h
        · replace h := of_ifn h c10
          obtain ⟨v18, σ14, q11, h⟩ := of_bd h
          have hC12 := f_X12_whom (σ := σ8) hs9  q11 (X := X) (l := l)
          have hs13 := hC12.1.2.2.2.1 hs9
          refine ⟨7, v18, σ14, (Nat.le_trans (by decide) hD), hC12, ?_⟩
          exact t_X12_offerOne_45 hD hk_X12_offerOne_5 hs13  h
theorem e_X12_offerOne_5 {X : Sx} {l : Launch} {D : Nat} (hD : 8 ≤ D) : ∀ (k : Nat) (x2 : Int32) (x3 : Int32) (x4 : Int32) (σ : AH) (v : Int32) (σ' : AH), Sh σ → F_X12_offerOne_5 k x2 x3 x4 σ = some (v, σ') → E X l m_X12_offerOne D 5 [(0, .ref 124), (2, .int x2), (3, .int x3), (4, .int x4)] [] σ (some (.int v)) σ' := by
  intro k
  induction k with
  | zero => intro x2 x3 x4 σ v σ' hs h; cases h
  | succ k ih =>
    intro x2 x3 x4 σ v σ' hs h
    exact w_X12_offerOne_5 hs  (t_X12_offerOne_5 hD ih hs  h)
set_option maxRecDepth 100000 in
theorem t_X12_offerOne_0 {X : Sx} {l : Launch} {D : Nat} {x1 : Int32} {x2 : Int32} {σ : AH} {v : Int32} {σ' : AH} (hD : 8 ≤ D) (hs : Sh σ) (h : F_X12_offerOne x1 x2 σ = some (v, σ')) : W_X12_offerOne_0 X l D x1 x2 σ (some (.int v)) σ' := by
  unfold F_X12_offerOne at h
  unfold W_X12_offerOne_0
  exact e_X12_offerOne_5 hD  _ _ _ _ _ _ _ hs  h
theorem f_X12_offerOne {X : Sx} {l : Launch} {x1 : Int32} {x2 : Int32} {σ : AH} {v : Int32} {σ' : AH} (hs : Sh σ) (h : F_X12_offerOne x1 x2 σ = some (v, σ')) : Call X l m_X12_offerOne 8 [.ref 124, .int x1, .int x2] σ (some (.int v)) σ' :=
  Call.ofE ok_X12_offerOne rfl (Nat.le_of_ble_eq_true rfl) (w_X12_offerOne_0 hs  (t_X12_offerOne_0 (Nat.le_refl _) hs  h))
def F_X12_offer_23 (σ : AH) : Option (Int32 × AH) := (bd (F_X12_told (-1 : Int32) σ) fun v28 σ24 => (some (v28, σ24)))
def B_X12_offer_62 (k_X12_offer_62 : Int32 → Int32 → Int32 → AH → Option (Int32 × AH)) (x1 : Int32) (x2 : Int32) (x3 : Int32) (σ : AH) : Option (Int32 × AH) := (if (gI σ 125 4) ≤ x3 then (bd (F_X12_told x2 (sI (sI (sI σ 125 10 ((gI σ 125 10) + (1 : Int32))) 125 11 ((gI (sI σ 125 10 ((gI σ 125 10) + (1 : Int32))) 125 11) + x2)) 125 12 x1)) fun v34 σ30 => (some (v34, σ30))) else (bd (F_X12_offerOne x3 x1 σ) fun v40 σ36 => (k_X12_offer_62 x1 (x2 + v40) (x3 + 1) σ36)))
def F_X12_offer_62 : Nat → Int32 → Int32 → Int32 → AH → Option (Int32 × AH) := fun k => match k with | 0 => fun _ _ _ _ => none | k + 1 => B_X12_offer_62 (F_X12_offer_62 k)
def F_X12_offer (x1 : Int32) (σ : AH) : Option (Int32 × AH) := (bd (F_X12_isWeek x1 (sI σ 124 0 (0 : Int32))) fun v6 σ2 => (if v6 = 0 then (F_X12_offer_23 σ2) else (if (gI σ2 125 12) ≤ x1 then (if (gI σ2 125 10) = (100 : Int32) then (bd (F_X12_told (-5 : Int32) σ2) fun v22 σ18 => (some (v22, σ18))) else (bv (F_X12_findHomes x1 σ2) fun σ8 => (bv (F_X12_findFamilies x1 σ8) fun σ13 => (F_X12_offer_62 BIG x1 (0 : Int32) (0 : Int32) σ13)))) else (F_X12_offer_23 σ2))))
set_option maxRecDepth 100000 in
theorem t_X12_offer_23 {X : Sx} {l : Launch} {D : Nat} {σ : AH} {v : Int32} {σ' : AH} (hD : 12 ≤ D) (hs : Sh σ) (h : F_X12_offer_23 σ = some (v, σ')) : W_X12_offer_23 X l D σ (some (.int v)) σ' := by
  unfold F_X12_offer_23 at h
  unfold W_X12_offer_23
  obtain ⟨v28, σ24, q1, h⟩ := of_bd h
  have hC2 := f_X12_told (σ := σ) hs  q1 (X := X) (l := l)
  have hs3 := hC2.1.2.2.2.1 hs
  refine ⟨0, v28, σ24, (Nat.le_trans (by decide) hD), hC2, ?_⟩
  exact ret_i h
set_option maxRecDepth 100000 in
theorem t_X12_offer_62 {X : Sx} {l : Launch} {D : Nat} {k_X12_offer_62 : Int32 → Int32 → Int32 → AH → Option (Int32 × AH)} {x1 : Int32} {x2 : Int32} {x3 : Int32} {σ : AH} {v : Int32} {σ' : AH} (hD : 12 ≤ D) (hk_X12_offer_62 : ∀ (x1 : Int32) (x2 : Int32) (x3 : Int32) (σ : AH) (v : Int32) (σ' : AH), Sh σ → k_X12_offer_62 x1 x2 x3 σ = some (v, σ') → E X l m_X12_offer D 62 [(0, .ref 124), (1, .int x1), (2, .int x2), (3, .int x3)] [] σ (some (.int v)) σ') (hs : Sh σ) (h : B_X12_offer_62 k_X12_offer_62 x1 x2 x3 σ = some (v, σ')) : W_X12_offer_62 X l D x1 x2 x3 σ (some (.int v)) σ' := by
  unfold B_X12_offer_62 at h
  unfold W_X12_offer_62
  refine ite_i (fun c1 => ?_) (fun c1 => ?_)
  · replace h := of_ifp h c1
    obtain ⟨v34, σ30, q2, h⟩ := of_bd h
    have hC3 := f_X12_told (σ := (sI (sI (sI σ 125 10 ((gI σ 125 10) + (1 : Int32))) 125 11 ((gI (sI σ 125 10 ((gI σ 125 10) + (1 : Int32))) 125 11) + x2)) 125 12 x1)) hs  q2 (X := X) (l := l)
    have hs4 := hC3.1.2.2.2.1 hs
    refine ⟨0, v34, σ30, (Nat.le_trans (by decide) hD), hC3, ?_⟩
    exact ret_i h
  · replace h := of_ifn h c1
    obtain ⟨v40, σ36, q5, h⟩ := of_bd h
    have hC6 := f_X12_offerOne (σ := σ) hs  q5 (X := X) (l := l)
    have hs7 := hC6.1.2.2.2.1 hs
    refine ⟨8, v40, σ36, (Nat.le_trans (by decide) hD), hC6, ?_⟩
    exact hk_X12_offer_62 _ _ _ _ _ _ hs7  h
theorem e_X12_offer_62 {X : Sx} {l : Launch} {D : Nat} (hD : 12 ≤ D) : ∀ (k : Nat) (x1 : Int32) (x2 : Int32) (x3 : Int32) (σ : AH) (v : Int32) (σ' : AH), Sh σ → F_X12_offer_62 k x1 x2 x3 σ = some (v, σ') → E X l m_X12_offer D 62 [(0, .ref 124), (1, .int x1), (2, .int x2), (3, .int x3)] [] σ (some (.int v)) σ' := by
  intro k
  induction k with
  | zero => intro x1 x2 x3 σ v σ' hs h; cases h
  | succ k ih =>
    intro x1 x2 x3 σ v σ' hs h
    exact w_X12_offer_62 hs  (t_X12_offer_62 hD ih hs  h)
set_option maxRecDepth 100000 in
theorem t_X12_offer_0 {X : Sx} {l : Launch} {D : Nat} {x1 : Int32} {σ : AH} {v : Int32} {σ' : AH} (hD : 12 ≤ D) (hs : Sh σ) (h : F_X12_offer x1 σ = some (v, σ')) : W_X12_offer_0 X l D x1 σ (some (.int v)) σ' := by
  unfold F_X12_offer at h
  unfold W_X12_offer_0
  obtain ⟨v6, σ2, q1, h⟩ := of_bd h
  have hC2 := f_X12_isWeek (σ := (sI σ 124 0 (0 : Int32))) hs  q1 (X := X) (l := l)
  have hs3 := hC2.1.2.2.2.1 hs
  refine ⟨1, v6, σ2, (Nat.le_trans (by decide) hD), hC2, ?_⟩
  refine ite_i (fun c4 => ?_) (fun c4 => ?_)
  · replace h := of_ifp h c4
    exact t_X12_offer_23 hD  hs3  h
  · replace h := of_ifn h c4
    refine ite_i (fun c5 => ?_) (fun c5 => ?_)
    · replace h := of_ifp h c5
      refine ite_i (fun c6 => ?_) (fun c6 => ?_)
      · replace h := of_ifp h c6
        obtain ⟨v22, σ18, q7, h⟩ := of_bd h
        have hC8 := f_X12_told (σ := σ2) hs3  q7 (X := X) (l := l)
        have hs9 := hC8.1.2.2.2.1 hs3
        refine ⟨0, v22, σ18, (Nat.le_trans (by decide) hD), hC8, ?_⟩
        exact ret_i h
      · replace h := of_ifn h c6
        obtain ⟨σ8, q10, h⟩ := of_bv h
        have hC11 := f_X12_findHomes (σ := σ2) hs3  q10 (X := X) (l := l)
        have hs12 := hC11.1.2.2.2.1 hs3
        refine ⟨11, σ8, (Nat.le_trans (by decide) hD), hC11, ?_⟩
        obtain ⟨σ13, q13, h⟩ := of_bv h
        have hC14 := f_X12_findFamilies (σ := σ8) hs12  q13 (X := X) (l := l)
        have hs15 := hC14.1.2.2.2.1 hs12
        refine ⟨2, σ13, (Nat.le_trans (by decide) hD), hC14, ?_⟩
        exact e_X12_offer_62 hD  _ _ _ _ _ _ _ hs15  h
    · replace h := of_ifn h c5
      exact t_X12_offer_23 hD  hs3  h
theorem f_X12_offer {X : Sx} {l : Launch} {x1 : Int32} {σ : AH} {v : Int32} {σ' : AH} (hs : Sh σ) (h : F_X12_offer x1 σ = some (v, σ')) : Call X l m_X12_offer 12 [.ref 124, .int x1] σ (some (.int v)) σ' :=
  Call.ofE ok_X12_offer rfl (Nat.le_of_ble_eq_true rfl) (w_X12_offer_0 hs  (t_X12_offer_0 (Nat.le_refl _) hs  h))
def F_X12_livingIn_48 (k_X12_livingIn_5 : Int32 → Int32 → Int32 → Int32 → AH → Option (Int32 × AH)) (x1 : Int32) (x2 : Int32) (x4 : Int32) (y0 : Int32) (σ : AH) : Option (Int32 × AH) := (k_X12_livingIn_5 x1 x2 y0 (x4 + 1) σ)
def F_X12_livingIn_47 (k_X12_livingIn_5 : Int32 → Int32 → Int32 → Int32 → AH → Option (Int32 × AH)) (x1 : Int32) (x2 : Int32) (x3 : Int32) (x4 : Int32) (σ : AH) : Option (Int32 × AH) := (F_X12_livingIn_48 k_X12_livingIn_5 x1 x2 x4 x3 σ)
def B_X12_livingIn_5 (k_X12_livingIn_5 : Int32 → Int32 → Int32 → Int32 → AH → Option (Int32 × AH)) (x1 : Int32) (x2 : Int32) (x3 : Int32) (x4 : Int32) (σ : AH) : Option (Int32 × AH) := (if (gI σ 125 7) ≤ x4 then (some (x3, σ)) else (bd (F_X12_stayAt x4 σ) fun v6 σ2 => (if inB v6 269832 = true then (if (gI σ2 125 v6.toNatClampNeg) = x1 then (bd (F_X12_livesIn x4 x2 σ2) fun v13 σ9 => (if v13 = 0 then (F_X12_livingIn_47 k_X12_livingIn_5 x1 x2 x3 x4 σ9) else (F_X12_livingIn_48 k_X12_livingIn_5 x1 x2 x4 x4 σ9))) else (F_X12_livingIn_47 k_X12_livingIn_5 x1 x2 x3 x4 σ2)) else none)))
def F_X12_livingIn_5 : Nat → Int32 → Int32 → Int32 → Int32 → AH → Option (Int32 × AH) := fun k => match k with | 0 => fun _ _ _ _ _ => none | k + 1 => B_X12_livingIn_5 (F_X12_livingIn_5 k)
def F_X12_livingIn (x1 : Int32) (x2 : Int32) (σ : AH) : Option (Int32 × AH) := (F_X12_livingIn_5 BIG x1 x2 (-1 : Int32) (0 : Int32) σ)
set_option maxRecDepth 100000 in
theorem t_X12_livingIn_48 {X : Sx} {l : Launch} {D : Nat} {k_X12_livingIn_5 : Int32 → Int32 → Int32 → Int32 → AH → Option (Int32 × AH)} {x1 : Int32} {x2 : Int32} {x4 : Int32} {y0 : Int32} {σ : AH} {v : Int32} {σ' : AH} (hD : 2 ≤ D) (hk_X12_livingIn_5 : ∀ (x1 : Int32) (x2 : Int32) (x3 : Int32) (x4 : Int32) (σ : AH) (v : Int32) (σ' : AH), Sh σ → k_X12_livingIn_5 x1 x2 x3 x4 σ = some (v, σ') → E X l m_X12_livingIn D 5 [(0, .ref 124), (1, .int x1), (2, .int x2), (3, .int x3), (4, .int x4)] [] σ (some (.int v)) σ') (hs : Sh σ) (h : F_X12_livingIn_48 k_X12_livingIn_5 x1 x2 x4 y0 σ = some (v, σ')) : W_X12_livingIn_48 X l D x1 x2 x4 y0 σ (some (.int v)) σ' := by
  unfold F_X12_livingIn_48 at h
  unfold W_X12_livingIn_48
  exact hk_X12_livingIn_5 _ _ _ _ _ _ _ hs  h
set_option maxRecDepth 100000 in
theorem t_X12_livingIn_47 {X : Sx} {l : Launch} {D : Nat} {k_X12_livingIn_5 : Int32 → Int32 → Int32 → Int32 → AH → Option (Int32 × AH)} {x1 : Int32} {x2 : Int32} {x3 : Int32} {x4 : Int32} {σ : AH} {v : Int32} {σ' : AH} (hD : 2 ≤ D) (hk_X12_livingIn_5 : ∀ (x1 : Int32) (x2 : Int32) (x3 : Int32) (x4 : Int32) (σ : AH) (v : Int32) (σ' : AH), Sh σ → k_X12_livingIn_5 x1 x2 x3 x4 σ = some (v, σ') → E X l m_X12_livingIn D 5 [(0, .ref 124), (1, .int x1), (2, .int x2), (3, .int x3), (4, .int x4)] [] σ (some (.int v)) σ') (hs : Sh σ) (h : F_X12_livingIn_47 k_X12_livingIn_5 x1 x2 x3 x4 σ = some (v, σ')) : W_X12_livingIn_47 X l D x1 x2 x3 x4 σ (some (.int v)) σ' := by
  unfold F_X12_livingIn_47 at h
  unfold W_X12_livingIn_47
  exact t_X12_livingIn_48 hD hk_X12_livingIn_5 hs  h
set_option maxRecDepth 100000 in
theorem t_X12_livingIn_5 {X : Sx} {l : Launch} {D : Nat} {k_X12_livingIn_5 : Int32 → Int32 → Int32 → Int32 → AH → Option (Int32 × AH)} {x1 : Int32} {x2 : Int32} {x3 : Int32} {x4 : Int32} {σ : AH} {v : Int32} {σ' : AH} (hD : 2 ≤ D) (hk_X12_livingIn_5 : ∀ (x1 : Int32) (x2 : Int32) (x3 : Int32) (x4 : Int32) (σ : AH) (v : Int32) (σ' : AH), Sh σ → k_X12_livingIn_5 x1 x2 x3 x4 σ = some (v, σ') → E X l m_X12_livingIn D 5 [(0, .ref 124), (1, .int x1), (2, .int x2), (3, .int x3), (4, .int x4)] [] σ (some (.int v)) σ') (hs : Sh σ) (h : B_X12_livingIn_5 k_X12_livingIn_5 x1 x2 x3 x4 σ = some (v, σ')) : W_X12_livingIn_5 X l D x1 x2 x3 x4 σ (some (.int v)) σ' := by
  unfold B_X12_livingIn_5 at h
  unfold W_X12_livingIn_5
  refine ite_i (fun c1 => ?_) (fun c1 => ?_)
  · replace h := of_ifp h c1
    exact ret_i h
  · replace h := of_ifn h c1
    obtain ⟨v6, σ2, q2, h⟩ := of_bd h
    have hC3 := f_X12_stayAt (σ := σ) hs  q2 (X := X) (l := l)
    have hs4 := hC3.1.2.2.2.1 hs
    refine ⟨0, v6, σ2, (Nat.le_trans (by decide) hD), hC3, ?_⟩
    obtain ⟨g5, h⟩ := of_gd h
    refine ⟨(inB_mp g5), ?_⟩
    refine ite_i (fun c6 => ?_) (fun c6 => ?_)
    · replace h := of_ifp h c6
      obtain ⟨v13, σ9, q7, h⟩ := of_bd h
      have hC8 := f_X12_livesIn (σ := σ2) hs4  q7 (X := X) (l := l)
      have hs9 := hC8.1.2.2.2.1 hs4
      refine ⟨1, v13, σ9, (Nat.le_trans (by decide) hD), hC8, ?_⟩
      refine ite_i (fun c10 => ?_) (fun c10 => ?_)
      · replace h := of_ifp h c10
        exact t_X12_livingIn_47 hD hk_X12_livingIn_5 hs9  h
      · replace h := of_ifn h c10
        exact t_X12_livingIn_48 hD hk_X12_livingIn_5 hs9  h
    · replace h := of_ifn h c6
      exact t_X12_livingIn_47 hD hk_X12_livingIn_5 hs4  h
theorem e_X12_livingIn_5 {X : Sx} {l : Launch} {D : Nat} (hD : 2 ≤ D) : ∀ (k : Nat) (x1 : Int32) (x2 : Int32) (x3 : Int32) (x4 : Int32) (σ : AH) (v : Int32) (σ' : AH), Sh σ → F_X12_livingIn_5 k x1 x2 x3 x4 σ = some (v, σ') → E X l m_X12_livingIn D 5 [(0, .ref 124), (1, .int x1), (2, .int x2), (3, .int x3), (4, .int x4)] [] σ (some (.int v)) σ' := by
  intro k
  induction k with
  | zero => intro x1 x2 x3 x4 σ v σ' hs h; cases h
  | succ k ih =>
    intro x1 x2 x3 x4 σ v σ' hs h
    exact w_X12_livingIn_5 hs  (t_X12_livingIn_5 hD ih hs  h)
set_option maxRecDepth 100000 in
theorem t_X12_livingIn_0 {X : Sx} {l : Launch} {D : Nat} {x1 : Int32} {x2 : Int32} {σ : AH} {v : Int32} {σ' : AH} (hD : 2 ≤ D) (hs : Sh σ) (h : F_X12_livingIn x1 x2 σ = some (v, σ')) : W_X12_livingIn_0 X l D x1 x2 σ (some (.int v)) σ' := by
  unfold F_X12_livingIn at h
  unfold W_X12_livingIn_0
  exact e_X12_livingIn_5 hD  _ _ _ _ _ _ _ _ hs  h
theorem f_X12_livingIn {X : Sx} {l : Launch} {x1 : Int32} {x2 : Int32} {σ : AH} {v : Int32} {σ' : AH} (hs : Sh σ) (h : F_X12_livingIn x1 x2 σ = some (v, σ')) : Call X l m_X12_livingIn 2 [.ref 124, .int x1, .int x2] σ (some (.int v)) σ' :=
  Call.ofE ok_X12_livingIn rfl (Nat.le_of_ble_eq_true rfl) (w_X12_livingIn_0 hs  (t_X12_livingIn_0 (Nat.le_refl _) hs  h))
def F_X12_lives (x1 : Int32) (x2 : Int32) (x3 : Int32) (σ : AH) : Option (Int32 × AH) := (bd (F_X12_isPlot x1 (sI σ 124 0 (0 : Int32))) fun v6 σ2 => (if v6 = 0 then (some ((-1 : Int32), σ2)) else (bd (F_X12_isWeek x2 σ2) fun v12 σ8 => (if v12 = 0 then (some ((-1 : Int32), σ8)) else (bd (F_X12_in (x3).toInt64 (0 : Int64) (2 : Int64) σ8) fun v18 σ14 => (if v18 = 0 then (some ((-1 : Int32), σ14)) else (bd (F_X12_livingIn x1 x2 σ14) fun v24 σ20 => (if v24 = (-1 : Int32) then (some ((-1 : Int32), σ20)) else (if x3 = 0 then (bd (F_X12_stayAt v24 σ20) fun v44 σ40 => (if inB (v44 + (1 : Int32)) 269832 = true then (some ((gI σ40 125 (v44 + (1 : Int32)).toNatClampNeg), σ40)) else none)) else (if x3 = (1 : Int32) then (bd (F_X12_stayAt v24 σ20) fun v37 σ33 => (if inB (v37 + (2 : Int32)) 269832 = true then (some ((gI σ33 125 (v37 + (2 : Int32)).toNatClampNeg), σ33)) else none)) else (bd (F_X12_stayAt v24 σ20) fun v30 σ26 => (if inB (v30 + (6 : Int32)) 269832 = true then (some ((gI σ26 125 (v30 + (6 : Int32)).toNatClampNeg), σ26)) else none))))))))))))
set_option maxRecDepth 100000 in
theorem t_X12_lives_0 {X : Sx} {l : Launch} {D : Nat} {x1 : Int32} {x2 : Int32} {x3 : Int32} {σ : AH} {v : Int32} {σ' : AH} (hD : 3 ≤ D) (hs : Sh σ) (h : F_X12_lives x1 x2 x3 σ = some (v, σ')) : W_X12_lives_0 X l D x1 x2 x3 σ (some (.int v)) σ' := by
  unfold F_X12_lives at h
  unfold W_X12_lives_0
  obtain ⟨v6, σ2, q1, h⟩ := of_bd h
  have hC2 := f_X12_isPlot (σ := (sI σ 124 0 (0 : Int32))) hs  q1 (X := X) (l := l)
  have hs3 := hC2.1.2.2.2.1 hs
  refine ⟨1, v6, σ2, (Nat.le_trans (by decide) hD), hC2, ?_⟩
  refine ite_i (fun c4 => ?_) (fun c4 => ?_)
  · replace h := of_ifp h c4
    exact ret_i h
  · replace h := of_ifn h c4
    obtain ⟨v12, σ8, q5, h⟩ := of_bd h
    have hC6 := f_X12_isWeek (σ := σ2) hs3  q5 (X := X) (l := l)
    have hs7 := hC6.1.2.2.2.1 hs3
    refine ⟨1, v12, σ8, (Nat.le_trans (by decide) hD), hC6, ?_⟩
    refine ite_i (fun c8 => ?_) (fun c8 => ?_)
    · replace h := of_ifp h c8
      exact ret_i h
    · replace h := of_ifn h c8
      obtain ⟨v18, σ14, q9, h⟩ := of_bd h
      have hC10 := f_X12_in (σ := σ8) hs7  q9 (X := X) (l := l)
      have hs11 := hC10.1.2.2.2.1 hs7
      refine ⟨0, v18, σ14, (Nat.le_trans (by decide) hD), hC10, ?_⟩
      refine ite_i (fun c12 => ?_) (fun c12 => ?_)
      · replace h := of_ifp h c12
        exact ret_i h
      · replace h := of_ifn h c12
        obtain ⟨v24, σ20, q13, h⟩ := of_bd h
        have hC14 := f_X12_livingIn (σ := σ14) hs11  q13 (X := X) (l := l)
        have hs15 := hC14.1.2.2.2.1 hs11
        refine ⟨2, v24, σ20, (Nat.le_trans (by decide) hD), hC14, ?_⟩
        refine ite_i (fun c16 => ?_) (fun c16 => ?_)
        · replace h := of_ifp h c16
          exact ret_i h
        · replace h := of_ifn h c16
          refine ite_i (fun c17 => ?_) (fun c17 => ?_)
          · replace h := of_ifp h c17
            obtain ⟨v44, σ40, q18, h⟩ := of_bd h
            have hC19 := f_X12_stayAt (σ := σ20) hs15  q18 (X := X) (l := l)
            have hs20 := hC19.1.2.2.2.1 hs15
            refine ⟨0, v44, σ40, (Nat.le_trans (by decide) hD), hC19, ?_⟩
            obtain ⟨g21, h⟩ := of_gd h
            refine ⟨(inB_mp g21), ?_⟩
            exact ret_i h
          · replace h := of_ifn h c17
            refine ite_i (fun c22 => ?_) (fun c22 => ?_)
            · replace h := of_ifp h c22
              obtain ⟨v37, σ33, q23, h⟩ := of_bd h
              have hC24 := f_X12_stayAt (σ := σ20) hs15  q23 (X := X) (l := l)
              have hs25 := hC24.1.2.2.2.1 hs15
              refine ⟨0, v37, σ33, (Nat.le_trans (by decide) hD), hC24, ?_⟩
              obtain ⟨g26, h⟩ := of_gd h
              refine ⟨(inB_mp g26), ?_⟩
              exact ret_i h
            · replace h := of_ifn h c22
              obtain ⟨v30, σ26, q27, h⟩ := of_bd h
              have hC28 := f_X12_stayAt (σ := σ20) hs15  q27 (X := X) (l := l)
              have hs29 := hC28.1.2.2.2.1 hs15
              refine ⟨0, v30, σ26, (Nat.le_trans (by decide) hD), hC28, ?_⟩
              obtain ⟨g30, h⟩ := of_gd h
              refine ⟨(inB_mp g30), ?_⟩
              exact ret_i h
theorem f_X12_lives {X : Sx} {l : Launch} {x1 : Int32} {x2 : Int32} {x3 : Int32} {σ : AH} {v : Int32} {σ' : AH} (hs : Sh σ) (h : F_X12_lives x1 x2 x3 σ = some (v, σ')) : Call X l m_X12_lives 3 [.ref 124, .int x1, .int x2, .int x3] σ (some (.int v)) σ' :=
  Call.ofE ok_X12_lives rfl (Nat.le_of_ble_eq_true rfl) (w_X12_lives_0 hs  (t_X12_lives_0 (Nat.le_refl _) hs  h))
def F_X12_roof (x1 : Int32) (x2 : Int32) (σ : AH) : Option (Int32 × AH) := (bd (F_X12_isEntry x1 (sI σ 124 0 (0 : Int32))) fun v6 σ2 => (if v6 = 0 then (some ((-1 : Int32), σ2)) else (bd (F_X12_isWeek x2 σ2) fun v12 σ8 => (if v12 = 0 then (some ((-1 : Int32), σ8)) else (bd (F_X12_entryAt x1 (6 : Int32) σ8) fun v18 σ14 => (if v18 ≤ x2 then (bv (F_X12_findFamilies x2 σ14) fun σ20 => (if inB x1 60 = true then (bd (F_X12_stayOf (gI σ20 160 x1.toNatClampNeg) x2 (1 : Int32) σ20) fun v30 σ26 => (if v30 = (-1 : Int32) then (some ((-1 : Int32), σ26)) else (bd (F_X12_stayAt v30 σ26) fun v36 σ32 => (if inB v36 269832 = true then (some ((gI σ32 125 v36.toNatClampNeg), σ32)) else none)))) else none)) else (some ((-1 : Int32), σ14))))))))
set_option maxRecDepth 100000 in
theorem t_X12_roof_0 {X : Sx} {l : Launch} {D : Nat} {x1 : Int32} {x2 : Int32} {σ : AH} {v : Int32} {σ' : AH} (hD : 3 ≤ D) (hs : Sh σ) (h : F_X12_roof x1 x2 σ = some (v, σ')) : W_X12_roof_0 X l D x1 x2 σ (some (.int v)) σ' := by
  unfold F_X12_roof at h
  unfold W_X12_roof_0
  obtain ⟨v6, σ2, q1, h⟩ := of_bd h
  have hC2 := f_X12_isEntry (σ := (sI σ 124 0 (0 : Int32))) hs  q1 (X := X) (l := l)
  have hs3 := hC2.1.2.2.2.1 hs
  refine ⟨1, v6, σ2, (Nat.le_trans (by decide) hD), hC2, ?_⟩
  refine ite_i (fun c4 => ?_) (fun c4 => ?_)
  · replace h := of_ifp h c4
    exact ret_i h
  · replace h := of_ifn h c4
    obtain ⟨v12, σ8, q5, h⟩ := of_bd h
    have hC6 := f_X12_isWeek (σ := σ2) hs3  q5 (X := X) (l := l)
    have hs7 := hC6.1.2.2.2.1 hs3
    refine ⟨1, v12, σ8, (Nat.le_trans (by decide) hD), hC6, ?_⟩
    refine ite_i (fun c8 => ?_) (fun c8 => ?_)
    · replace h := of_ifp h c8
      exact ret_i h
    · replace h := of_ifn h c8
      obtain ⟨v18, σ14, q9, h⟩ := of_bd h
      have hC10 := f_X12_entryAt (σ := σ8) hs7  q9 (X := X) (l := l)
      have hs11 := hC10.1.2.2.2.1 hs7
      refine ⟨0, v18, σ14, (Nat.le_trans (by decide) hD), hC10, ?_⟩
      refine ite_i (fun c12 => ?_) (fun c12 => ?_)
      · replace h := of_ifp h c12
        obtain ⟨σ20, q13, h⟩ := of_bv h
        have hC14 := f_X12_findFamilies (σ := σ14) hs11  q13 (X := X) (l := l)
        have hs15 := hC14.1.2.2.2.1 hs11
        refine ⟨2, σ20, (Nat.le_trans (by decide) hD), hC14, ?_⟩
        obtain ⟨g16, h⟩ := of_gd h
        refine ⟨(inB_mp g16), ?_⟩
        obtain ⟨v30, σ26, q17, h⟩ := of_bd h
        have hC18 := f_X12_stayOf (σ := σ20) hs15  q17 (X := X) (l := l)
        have hs19 := hC18.1.2.2.2.1 hs15
        refine ⟨2, v30, σ26, (Nat.le_trans (by decide) hD), hC18, ?_⟩
        refine ite_i (fun c20 => ?_) (fun c20 => ?_)
        · replace h := of_ifp h c20
          exact ret_i h
        · replace h := of_ifn h c20
          obtain ⟨v36, σ32, q21, h⟩ := of_bd h
          have hC22 := f_X12_stayAt (σ := σ26) hs19  q21 (X := X) (l := l)
          have hs23 := hC22.1.2.2.2.1 hs19
          refine ⟨0, v36, σ32, (Nat.le_trans (by decide) hD), hC22, ?_⟩
          obtain ⟨g24, h⟩ := of_gd h
          refine ⟨(inB_mp g24), ?_⟩
          exact ret_i h
      · replace h := of_ifn h c12
        exact ret_i h
theorem f_X12_roof {X : Sx} {l : Launch} {x1 : Int32} {x2 : Int32} {σ : AH} {v : Int32} {σ' : AH} (hs : Sh σ) (h : F_X12_roof x1 x2 σ = some (v, σ')) : Call X l m_X12_roof 3 [.ref 124, .int x1, .int x2] σ (some (.int v)) σ' :=
  Call.ofE ok_X12_roof rfl (Nat.le_of_ble_eq_true rfl) (w_X12_roof_0 hs  (t_X12_roof_0 (Nat.le_refl _) hs  h))
def F_X12_squat_23 (σ : AH) : Option (Int32 × AH) := (bd (F_X12_told (-1 : Int32) σ) fun v59 σ55 => (some (v59, σ55)))
def F_X12_squat_56 (σ : AH) : Option (Int32 × AH) := (bd (F_X12_told (-2 : Int32) σ) fun v65 σ61 => (some (v65, σ61)))
def F_X12_squat_123 (σ : AH) : Option (Int32 × AH) := (bd (F_X12_told (-3 : Int32) σ) fun v71 σ67 => (some (v71, σ67)))
def F_X12_squat_180 (x1 : Int32) (x2 : Int32) (x3 : Int32) (y0 : Int32) (σ : AH) : Option (Int32 × AH) := (bv (F_X12_addStay x2 x1 x3 y0 (0 : Int32) (1 : Int32) σ) fun σ103 => (bd (F_X12_told (gI (sI (sI σ103 125 8 ((gI σ103 125 8) + (1 : Int32))) 125 12 x3) 125 8) (sI (sI σ103 125 8 ((gI σ103 125 8) + (1 : Int32))) 125 12 x3)) fun v112 σ108 => (some (v112, σ108))))
def F_X12_squat_107 (x1 : Int32) (x2 : Int32) (x3 : Int32) (σ : AH) : Option (Int32 × AH) := (if inB x1 60 = true then (bd (F_X12_stayOf (gI σ 160 x1.toNatClampNeg) x3 (0 : Int32) σ) fun v78 σ74 => (if v78 = (-1 : Int32) then (if (gI σ74 125 8) = (40 : Int32) then (bd (F_X12_told (-5 : Int32) σ74) fun v101 σ97 => (some (v101, σ97))) else (bv (F_X12_setOnly (0 : Int32) x3 σ74) fun σ80 => (bd (F_X12_find (7 : Int32) (0 : Int32) (0 : Int32) (0 : Int32) x3 σ80) fun v89 σ85 => (if v89 = 0 then (F_X12_squat_180 x1 x2 x3 (1000000 : Int32) σ85) else (bd (F_X12_atLeastNought σ85) fun v95 σ91 => (F_X12_squat_180 x1 x2 x3 (x3 + v95) σ91)))))) else (F_X12_squat_123 σ74))) else none)
def F_X12_squat (x1 : Int32) (x2 : Int32) (x3 : Int32) (σ : AH) : Option (Int32 × AH) := (bd (F_X12_isWeek x3 (sI σ 124 0 (0 : Int32))) fun v6 σ2 => (if v6 = 0 then (F_X12_squat_23 σ2) else (if (gI σ2 125 12) ≤ x3 then (bd (F_X12_isEntry x1 σ2) fun v12 σ8 => (if v12 = 0 then (F_X12_squat_56 σ8) else (bd (F_X12_isPlot x2 σ8) fun v18 σ14 => (if v18 = 0 then (F_X12_squat_56 σ14) else (bd (F_X12_entryAt x1 (6 : Int32) σ14) fun v24 σ20 => (if v24 ≤ x3 then (bv (F_X12_findHomes x3 σ20) fun σ26 => (bv (F_X12_findFamilies x3 σ26) fun σ31 => (bd (F_X12_isHome x2 x3 σ31) fun v40 σ36 => (if v40 = 0 then (F_X12_squat_123 σ36) else (bd (F_X12_isFree x2 x3 σ36) fun v46 σ42 => (if v46 = 0 then (F_X12_squat_123 σ42) else (if inB x1 60 = true then (bd (F_X12_stayOf (gI σ42 160 x1.toNatClampNeg) x3 (1 : Int32) σ42) fun v53 σ49 => (if v53 = (-1 : Int32) then (F_X12_squat_107 x1 x2 x3 σ49) else (F_X12_squat_123 σ49))) else none))))))) else (F_X12_squat_56 σ20))))))) else (F_X12_squat_23 σ2))))
set_option maxRecDepth 100000 in
theorem t_X12_squat_23 {X : Sx} {l : Launch} {D : Nat} {σ : AH} {v : Int32} {σ' : AH} (hD : 12 ≤ D) (hs : Sh σ) (h : F_X12_squat_23 σ = some (v, σ')) : W_X12_squat_23 X l D σ (some (.int v)) σ' := by
  unfold F_X12_squat_23 at h
  unfold W_X12_squat_23
  obtain ⟨v59, σ55, q1, h⟩ := of_bd h
  have hC2 := f_X12_told (σ := σ) hs  q1 (X := X) (l := l)
  have hs3 := hC2.1.2.2.2.1 hs
  refine ⟨0, v59, σ55, (Nat.le_trans (by decide) hD), hC2, ?_⟩
  exact ret_i h
set_option maxRecDepth 100000 in
theorem t_X12_squat_56 {X : Sx} {l : Launch} {D : Nat} {σ : AH} {v : Int32} {σ' : AH} (hD : 12 ≤ D) (hs : Sh σ) (h : F_X12_squat_56 σ = some (v, σ')) : W_X12_squat_56 X l D σ (some (.int v)) σ' := by
  unfold F_X12_squat_56 at h
  unfold W_X12_squat_56
  obtain ⟨v65, σ61, q1, h⟩ := of_bd h
  have hC2 := f_X12_told (σ := σ) hs  q1 (X := X) (l := l)
  have hs3 := hC2.1.2.2.2.1 hs
  refine ⟨0, v65, σ61, (Nat.le_trans (by decide) hD), hC2, ?_⟩
  exact ret_i h
set_option maxRecDepth 100000 in
theorem t_X12_squat_123 {X : Sx} {l : Launch} {D : Nat} {σ : AH} {v : Int32} {σ' : AH} (hD : 12 ≤ D) (hs : Sh σ) (h : F_X12_squat_123 σ = some (v, σ')) : W_X12_squat_123 X l D σ (some (.int v)) σ' := by
  unfold F_X12_squat_123 at h
  unfold W_X12_squat_123
  obtain ⟨v71, σ67, q1, h⟩ := of_bd h
  have hC2 := f_X12_told (σ := σ) hs  q1 (X := X) (l := l)
  have hs3 := hC2.1.2.2.2.1 hs
  refine ⟨0, v71, σ67, (Nat.le_trans (by decide) hD), hC2, ?_⟩
  exact ret_i h
set_option maxRecDepth 100000 in
theorem t_X12_squat_180 {X : Sx} {l : Launch} {D : Nat} {x1 : Int32} {x2 : Int32} {x3 : Int32} {y0 : Int32} {σ : AH} {v : Int32} {σ' : AH} (hD : 12 ≤ D) (hs : Sh σ) (h : F_X12_squat_180 x1 x2 x3 y0 σ = some (v, σ')) : W_X12_squat_180 X l D x1 x2 x3 y0 σ (some (.int v)) σ' := by
  unfold F_X12_squat_180 at h
  unfold W_X12_squat_180
  obtain ⟨σ103, q1, h⟩ := of_bv h
  have hC2 := f_X12_addStay (σ := σ) hs  q1 (X := X) (l := l)
  have hs3 := hC2.1.2.2.2.1 hs
  refine ⟨1, σ103, (Nat.le_trans (by decide) hD), hC2, ?_⟩
  obtain ⟨v112, σ108, q4, h⟩ := of_bd h
  have hC5 := f_X12_told (σ := (sI (sI σ103 125 8 ((gI σ103 125 8) + (1 : Int32))) 125 12 x3)) hs3  q4 (X := X) (l := l)
  have hs6 := hC5.1.2.2.2.1 hs3
  refine ⟨0, v112, σ108, (Nat.le_trans (by decide) hD), hC5, ?_⟩
  exact ret_i h
set_option maxRecDepth 100000 in
theorem t_X12_squat_107 {X : Sx} {l : Launch} {D : Nat} {x1 : Int32} {x2 : Int32} {x3 : Int32} {σ : AH} {v : Int32} {σ' : AH} (hD : 12 ≤ D) (hs : Sh σ) (h : F_X12_squat_107 x1 x2 x3 σ = some (v, σ')) : W_X12_squat_107 X l D x1 x2 x3 σ (some (.int v)) σ' := by
  unfold F_X12_squat_107 at h
  unfold W_X12_squat_107
  obtain ⟨g1, h⟩ := of_gd h
  refine ⟨(inB_mp g1), ?_⟩
  obtain ⟨v78, σ74, q2, h⟩ := of_bd h
  have hC3 := f_X12_stayOf (σ := σ) hs  q2 (X := X) (l := l)
  have hs4 := hC3.1.2.2.2.1 hs
  refine ⟨2, v78, σ74, (Nat.le_trans (by decide) hD), hC3, ?_⟩
  refine ite_i (fun c5 => ?_) (fun c5 => ?_)
  · replace h := of_ifp h c5
    refine ite_i (fun c6 => ?_) (fun c6 => ?_)
    · replace h := of_ifp h c6
      obtain ⟨v101, σ97, q7, h⟩ := of_bd h
      have hC8 := f_X12_told (σ := σ74) hs4  q7 (X := X) (l := l)
      have hs9 := hC8.1.2.2.2.1 hs4
      refine ⟨0, v101, σ97, (Nat.le_trans (by decide) hD), hC8, ?_⟩
      exact ret_i h
    · replace h := of_ifn h c6
      obtain ⟨σ80, q10, h⟩ := of_bv h
      have hC11 := f_X12_setOnly (σ := σ74) hs4  q10 (X := X) (l := l)
      have hs12 := hC11.1.2.2.2.1 hs4
      refine ⟨0, σ80, (Nat.le_trans (by decide) hD), hC11, ?_⟩
      obtain ⟨v89, σ85, q13, h⟩ := of_bd h
      have hC14 := f_X12_find (σ := σ80) hs12  q13 (X := X) (l := l)
      have hs15 := hC14.1.2.2.2.1 hs12
      refine ⟨4, v89, σ85, (Nat.le_trans (by decide) hD), hC14, ?_⟩
      refine ite_i (fun c16 => ?_) (fun c16 => ?_)
      · replace h := of_ifp h c16
        exact t_X12_squat_180 hD  hs15  h
      · replace h := of_ifn h c16
        obtain ⟨v95, σ91, q17, h⟩ := of_bd h
        have hC18 := f_X12_atLeastNought (σ := σ85) hs15  q17 (X := X) (l := l)
        have hs19 := hC18.1.2.2.2.1 hs15
        refine ⟨0, v95, σ91, (Nat.le_trans (by decide) hD), hC18, ?_⟩
        exact t_X12_squat_180 hD  hs19  h
  · replace h := of_ifn h c5
    exact t_X12_squat_123 hD  hs4  h
set_option maxRecDepth 100000 in
theorem t_X12_squat_0 {X : Sx} {l : Launch} {D : Nat} {x1 : Int32} {x2 : Int32} {x3 : Int32} {σ : AH} {v : Int32} {σ' : AH} (hD : 12 ≤ D) (hs : Sh σ) (h : F_X12_squat x1 x2 x3 σ = some (v, σ')) : W_X12_squat_0 X l D x1 x2 x3 σ (some (.int v)) σ' := by
  unfold F_X12_squat at h
  unfold W_X12_squat_0
  obtain ⟨v6, σ2, q1, h⟩ := of_bd h
  have hC2 := f_X12_isWeek (σ := (sI σ 124 0 (0 : Int32))) hs  q1 (X := X) (l := l)
  have hs3 := hC2.1.2.2.2.1 hs
  refine ⟨1, v6, σ2, (Nat.le_trans (by decide) hD), hC2, ?_⟩
  refine ite_i (fun c4 => ?_) (fun c4 => ?_)
  · replace h := of_ifp h c4
    exact t_X12_squat_23 hD  hs3  h
  · replace h := of_ifn h c4
    refine ite_i (fun c5 => ?_) (fun c5 => ?_)
    · replace h := of_ifp h c5
      obtain ⟨v12, σ8, q6, h⟩ := of_bd h
      have hC7 := f_X12_isEntry (σ := σ2) hs3  q6 (X := X) (l := l)
      have hs8 := hC7.1.2.2.2.1 hs3
      refine ⟨1, v12, σ8, (Nat.le_trans (by decide) hD), hC7, ?_⟩
      refine ite_i (fun c9 => ?_) (fun c9 => ?_)
      · replace h := of_ifp h c9
        exact t_X12_squat_56 hD  hs8  h
      · replace h := of_ifn h c9
        obtain ⟨v18, σ14, q10, h⟩ := of_bd h
        have hC11 := f_X12_isPlot (σ := σ8) hs8  q10 (X := X) (l := l)
        have hs12 := hC11.1.2.2.2.1 hs8
        refine ⟨1, v18, σ14, (Nat.le_trans (by decide) hD), hC11, ?_⟩
        refine ite_i (fun c13 => ?_) (fun c13 => ?_)
        · replace h := of_ifp h c13
          exact t_X12_squat_56 hD  hs12  h
        · replace h := of_ifn h c13
          obtain ⟨v24, σ20, q14, h⟩ := of_bd h
          have hC15 := f_X12_entryAt (σ := σ14) hs12  q14 (X := X) (l := l)
          have hs16 := hC15.1.2.2.2.1 hs12
          refine ⟨0, v24, σ20, (Nat.le_trans (by decide) hD), hC15, ?_⟩
          refine ite_i (fun c17 => ?_) (fun c17 => ?_)
          · replace h := of_ifp h c17
            obtain ⟨σ26, q18, h⟩ := of_bv h
            have hC19 := f_X12_findHomes (σ := σ20) hs16  q18 (X := X) (l := l)
            have hs20 := hC19.1.2.2.2.1 hs16
            refine ⟨11, σ26, (Nat.le_trans (by decide) hD), hC19, ?_⟩
            obtain ⟨σ31, q21, h⟩ := of_bv h
            have hC22 := f_X12_findFamilies (σ := σ26) hs20  q21 (X := X) (l := l)
            have hs23 := hC22.1.2.2.2.1 hs20
            refine ⟨2, σ31, (Nat.le_trans (by decide) hD), hC22, ?_⟩
            obtain ⟨v40, σ36, q24, h⟩ := of_bd h
            have hC25 := f_X12_isHome (σ := σ31) hs23  q24 (X := X) (l := l)
            have hs26 := hC25.1.2.2.2.1 hs23
            refine ⟨0, v40, σ36, (Nat.le_trans (by decide) hD), hC25, ?_⟩
            refine ite_i (fun c27 => ?_) (fun c27 => ?_)
            · replace h := of_ifp h c27
              exact t_X12_squat_123 hD  hs26  h
            · replace h := of_ifn h c27
              obtain ⟨v46, σ42, q28, h⟩ := of_bd h
              have hC29 := f_X12_isFree (σ := σ36) hs26  q28 (X := X) (l := l)
              have hs30 := hC29.1.2.2.2.1 hs26
              refine ⟨3, v46, σ42, (Nat.le_trans (by decide) hD), hC29, ?_⟩
              refine ite_i (fun c31 => ?_) (fun c31 => ?_)
              · replace h := of_ifp h c31
                exact t_X12_squat_123 hD  hs30  h
              · replace h := of_ifn h c31
                obtain ⟨g32, h⟩ := of_gd h
                refine ⟨(inB_mp g32), ?_⟩
                obtain ⟨v53, σ49, q33, h⟩ := of_bd h
                have hC34 := f_X12_stayOf (σ := σ42) hs30  q33 (X := X) (l := l)
                have hs35 := hC34.1.2.2.2.1 hs30
                refine ⟨2, v53, σ49, (Nat.le_trans (by decide) hD), hC34, ?_⟩
                refine ite_i (fun c36 => ?_) (fun c36 => ?_)
                · replace h := of_ifp h c36
                  exact t_X12_squat_107 hD  hs35  h
                · replace h := of_ifn h c36
                  exact t_X12_squat_123 hD  hs35  h
          · replace h := of_ifn h c17
            exact t_X12_squat_56 hD  hs16  h
    · replace h := of_ifn h c5
      exact t_X12_squat_23 hD  hs3  h
theorem f_X12_squat {X : Sx} {l : Launch} {x1 : Int32} {x2 : Int32} {x3 : Int32} {σ : AH} {v : Int32} {σ' : AH} (hs : Sh σ) (h : F_X12_squat x1 x2 x3 σ = some (v, σ')) : Call X l m_X12_squat 12 [.ref 124, .int x1, .int x2, .int x3] σ (some (.int v)) σ' :=
  Call.ofE ok_X12_squat rfl (Nat.le_of_ble_eq_true rfl) (w_X12_squat_0 hs  (t_X12_squat_0 (Nat.le_refl _) hs  h))
def F_X12_out_23 (σ : AH) : Option (Int32 × AH) := (bd (F_X12_told (-1 : Int32) σ) fun v24 σ20 => (some (v24, σ20)))
def F_X12_out_92 (k_X12_out_49 : Int32 → Int32 → Int32 → Int32 → AH → Option (Int32 × AH)) (x1 : Int32) (x2 : Int32) (x4 : Int32) (y0 : Int32) (σ : AH) : Option (Int32 × AH) := (k_X12_out_49 x1 x2 y0 (x4 + 1) σ)
def F_X12_out_91 (k_X12_out_49 : Int32 → Int32 → Int32 → Int32 → AH → Option (Int32 × AH)) (x1 : Int32) (x2 : Int32) (x3 : Int32) (x4 : Int32) (σ : AH) : Option (Int32 × AH) := (F_X12_out_92 k_X12_out_49 x1 x2 x4 x3 σ)
def B_X12_out_49 (k_X12_out_49 : Int32 → Int32 → Int32 → Int32 → AH → Option (Int32 × AH)) (x1 : Int32) (x2 : Int32) (x3 : Int32) (x4 : Int32) (σ : AH) : Option (Int32 × AH) := (if (gI σ 125 7) ≤ x4 then (if x3 = (-1 : Int32) then (bd (F_X12_told (-3 : Int32) σ) fun v43 σ39 => (some (v43, σ39))) else (bd (F_X12_stayAt x3 σ) fun v30 σ26 => (if inB (v30 + (5 : Int32)) 269832 = true then (bd (F_X12_told (0 : Int32) (sI (sI σ26 125 ((v30 + (5 : Int32)).toNatClampNeg) x2) 125 12 x2)) fun v37 σ33 => (some (v37, σ33))) else none))) else (bd (F_X12_stayAt x4 σ) fun v49 σ45 => (if inB v49 269832 = true then (if (gI σ45 125 v49.toNatClampNeg) = x1 then (bd (F_X12_squatsIn x4 x2 σ45) fun v56 σ52 => (if v56 = 0 then (F_X12_out_91 k_X12_out_49 x1 x2 x3 x4 σ52) else (F_X12_out_92 k_X12_out_49 x1 x2 x4 x4 σ52))) else (F_X12_out_91 k_X12_out_49 x1 x2 x3 x4 σ45)) else none)))
def F_X12_out_49 : Nat → Int32 → Int32 → Int32 → Int32 → AH → Option (Int32 × AH) := fun k => match k with | 0 => fun _ _ _ _ _ => none | k + 1 => B_X12_out_49 (F_X12_out_49 k)
def F_X12_out (x1 : Int32) (x2 : Int32) (σ : AH) : Option (Int32 × AH) := (bd (F_X12_isWeek x2 (sI σ 124 0 (0 : Int32))) fun v6 σ2 => (if v6 = 0 then (F_X12_out_23 σ2) else (if (gI σ2 125 12) ≤ x2 then (bd (F_X12_isPlot x1 σ2) fun v12 σ8 => (if v12 = 0 then (bd (F_X12_told (-2 : Int32) σ8) fun v18 σ14 => (some (v18, σ14))) else (F_X12_out_49 BIG x1 x2 (-1 : Int32) (0 : Int32) σ8))) else (F_X12_out_23 σ2))))
set_option maxRecDepth 100000 in
theorem t_X12_out_23 {X : Sx} {l : Launch} {D : Nat} {σ : AH} {v : Int32} {σ' : AH} (hD : 2 ≤ D) (hs : Sh σ) (h : F_X12_out_23 σ = some (v, σ')) : W_X12_out_23 X l D σ (some (.int v)) σ' := by
  unfold F_X12_out_23 at h
  unfold W_X12_out_23
  obtain ⟨v24, σ20, q1, h⟩ := of_bd h
  have hC2 := f_X12_told (σ := σ) hs  q1 (X := X) (l := l)
  have hs3 := hC2.1.2.2.2.1 hs
  refine ⟨0, v24, σ20, (Nat.le_trans (by decide) hD), hC2, ?_⟩
  exact ret_i h
set_option maxRecDepth 100000 in
theorem t_X12_out_92 {X : Sx} {l : Launch} {D : Nat} {k_X12_out_49 : Int32 → Int32 → Int32 → Int32 → AH → Option (Int32 × AH)} {x1 : Int32} {x2 : Int32} {x4 : Int32} {y0 : Int32} {σ : AH} {v : Int32} {σ' : AH} (hD : 2 ≤ D) (hk_X12_out_49 : ∀ (x1 : Int32) (x2 : Int32) (x3 : Int32) (x4 : Int32) (σ : AH) (v : Int32) (σ' : AH), Sh σ → k_X12_out_49 x1 x2 x3 x4 σ = some (v, σ') → E X l m_X12_out D 49 [(0, .ref 124), (1, .int x1), (2, .int x2), (3, .int x3), (4, .int x4)] [] σ (some (.int v)) σ') (hs : Sh σ) (h : F_X12_out_92 k_X12_out_49 x1 x2 x4 y0 σ = some (v, σ')) : W_X12_out_92 X l D x1 x2 x4 y0 σ (some (.int v)) σ' := by
  unfold F_X12_out_92 at h
  unfold W_X12_out_92
  exact hk_X12_out_49 _ _ _ _ _ _ _ hs  h
set_option maxRecDepth 100000 in
theorem t_X12_out_91 {X : Sx} {l : Launch} {D : Nat} {k_X12_out_49 : Int32 → Int32 → Int32 → Int32 → AH → Option (Int32 × AH)} {x1 : Int32} {x2 : Int32} {x3 : Int32} {x4 : Int32} {σ : AH} {v : Int32} {σ' : AH} (hD : 2 ≤ D) (hk_X12_out_49 : ∀ (x1 : Int32) (x2 : Int32) (x3 : Int32) (x4 : Int32) (σ : AH) (v : Int32) (σ' : AH), Sh σ → k_X12_out_49 x1 x2 x3 x4 σ = some (v, σ') → E X l m_X12_out D 49 [(0, .ref 124), (1, .int x1), (2, .int x2), (3, .int x3), (4, .int x4)] [] σ (some (.int v)) σ') (hs : Sh σ) (h : F_X12_out_91 k_X12_out_49 x1 x2 x3 x4 σ = some (v, σ')) : W_X12_out_91 X l D x1 x2 x3 x4 σ (some (.int v)) σ' := by
  unfold F_X12_out_91 at h
  unfold W_X12_out_91
  exact t_X12_out_92 hD hk_X12_out_49 hs  h
set_option maxRecDepth 100000 in
theorem t_X12_out_49 {X : Sx} {l : Launch} {D : Nat} {k_X12_out_49 : Int32 → Int32 → Int32 → Int32 → AH → Option (Int32 × AH)} {x1 : Int32} {x2 : Int32} {x3 : Int32} {x4 : Int32} {σ : AH} {v : Int32} {σ' : AH} (hD : 2 ≤ D) (hk_X12_out_49 : ∀ (x1 : Int32) (x2 : Int32) (x3 : Int32) (x4 : Int32) (σ : AH) (v : Int32) (σ' : AH), Sh σ → k_X12_out_49 x1 x2 x3 x4 σ = some (v, σ') → E X l m_X12_out D 49 [(0, .ref 124), (1, .int x1), (2, .int x2), (3, .int x3), (4, .int x4)] [] σ (some (.int v)) σ') (hs : Sh σ) (h : B_X12_out_49 k_X12_out_49 x1 x2 x3 x4 σ = some (v, σ')) : W_X12_out_49 X l D x1 x2 x3 x4 σ (some (.int v)) σ' := by
  unfold B_X12_out_49 at h
  unfold W_X12_out_49
  refine ite_i (fun c1 => ?_) (fun c1 => ?_)
  · replace h := of_ifp h c1
    refine ite_i (fun c2 => ?_) (fun c2 => ?_)
    · replace h := of_ifp h c2
      obtain ⟨v43, σ39, q3, h⟩ := of_bd h
      have hC4 := f_X12_told (σ := σ) hs  q3 (X := X) (l := l)
      have hs5 := hC4.1.2.2.2.1 hs
      refine ⟨0, v43, σ39, (Nat.le_trans (by decide) hD), hC4, ?_⟩
      exact ret_i h
    · replace h := of_ifn h c2
      obtain ⟨v30, σ26, q6, h⟩ := of_bd h
      have hC7 := f_X12_stayAt (σ := σ) hs  q6 (X := X) (l := l)
      have hs8 := hC7.1.2.2.2.1 hs
      refine ⟨0, v30, σ26, (Nat.le_trans (by decide) hD), hC7, ?_⟩
      obtain ⟨g9, h⟩ := of_gd h
      refine ⟨(inB_mp g9), ?_⟩
      obtain ⟨v37, σ33, q10, h⟩ := of_bd h
      have hC11 := f_X12_told (σ := (sI (sI σ26 125 ((v30 + (5 : Int32)).toNatClampNeg) x2) 125 12 x2)) hs8  q10 (X := X) (l := l)
      have hs12 := hC11.1.2.2.2.1 hs8
      refine ⟨0, v37, σ33, (Nat.le_trans (by decide) hD), hC11, ?_⟩
      exact ret_i h
  · replace h := of_ifn h c1
    obtain ⟨v49, σ45, q13, h⟩ := of_bd h
    have hC14 := f_X12_stayAt (σ := σ) hs  q13 (X := X) (l := l)
    have hs15 := hC14.1.2.2.2.1 hs
    refine ⟨0, v49, σ45, (Nat.le_trans (by decide) hD), hC14, ?_⟩
    obtain ⟨g16, h⟩ := of_gd h
    refine ⟨(inB_mp g16), ?_⟩
    refine ite_i (fun c17 => ?_) (fun c17 => ?_)
    · replace h := of_ifp h c17
      obtain ⟨v56, σ52, q18, h⟩ := of_bd h
      have hC19 := f_X12_squatsIn (σ := σ45) hs15  q18 (X := X) (l := l)
      have hs20 := hC19.1.2.2.2.1 hs15
      refine ⟨1, v56, σ52, (Nat.le_trans (by decide) hD), hC19, ?_⟩
      refine ite_i (fun c21 => ?_) (fun c21 => ?_)
      · replace h := of_ifp h c21
        exact t_X12_out_91 hD hk_X12_out_49 hs20  h
      · replace h := of_ifn h c21
        exact t_X12_out_92 hD hk_X12_out_49 hs20  h
    · replace h := of_ifn h c17
      exact t_X12_out_91 hD hk_X12_out_49 hs15  h
theorem e_X12_out_49 {X : Sx} {l : Launch} {D : Nat} (hD : 2 ≤ D) : ∀ (k : Nat) (x1 : Int32) (x2 : Int32) (x3 : Int32) (x4 : Int32) (σ : AH) (v : Int32) (σ' : AH), Sh σ → F_X12_out_49 k x1 x2 x3 x4 σ = some (v, σ') → E X l m_X12_out D 49 [(0, .ref 124), (1, .int x1), (2, .int x2), (3, .int x3), (4, .int x4)] [] σ (some (.int v)) σ' := by
  intro k
  induction k with
  | zero => intro x1 x2 x3 x4 σ v σ' hs h; cases h
  | succ k ih =>
    intro x1 x2 x3 x4 σ v σ' hs h
    exact w_X12_out_49 hs  (t_X12_out_49 hD ih hs  h)
set_option maxRecDepth 100000 in
theorem t_X12_out_0 {X : Sx} {l : Launch} {D : Nat} {x1 : Int32} {x2 : Int32} {σ : AH} {v : Int32} {σ' : AH} (hD : 2 ≤ D) (hs : Sh σ) (h : F_X12_out x1 x2 σ = some (v, σ')) : W_X12_out_0 X l D x1 x2 σ (some (.int v)) σ' := by
  unfold F_X12_out at h
  unfold W_X12_out_0
  obtain ⟨v6, σ2, q1, h⟩ := of_bd h
  have hC2 := f_X12_isWeek (σ := (sI σ 124 0 (0 : Int32))) hs  q1 (X := X) (l := l)
  have hs3 := hC2.1.2.2.2.1 hs
  refine ⟨1, v6, σ2, (Nat.le_trans (by decide) hD), hC2, ?_⟩
  refine ite_i (fun c4 => ?_) (fun c4 => ?_)
  · replace h := of_ifp h c4
    exact t_X12_out_23 hD  hs3  h
  · replace h := of_ifn h c4
    refine ite_i (fun c5 => ?_) (fun c5 => ?_)
    · replace h := of_ifp h c5
      obtain ⟨v12, σ8, q6, h⟩ := of_bd h
      have hC7 := f_X12_isPlot (σ := σ2) hs3  q6 (X := X) (l := l)
      have hs8 := hC7.1.2.2.2.1 hs3
      refine ⟨1, v12, σ8, (Nat.le_trans (by decide) hD), hC7, ?_⟩
      refine ite_i (fun c9 => ?_) (fun c9 => ?_)
      · replace h := of_ifp h c9
        obtain ⟨v18, σ14, q10, h⟩ := of_bd h
        have hC11 := f_X12_told (σ := σ8) hs8  q10 (X := X) (l := l)
        have hs12 := hC11.1.2.2.2.1 hs8
        refine ⟨0, v18, σ14, (Nat.le_trans (by decide) hD), hC11, ?_⟩
        exact ret_i h
      · replace h := of_ifn h c9
        exact e_X12_out_49 hD  _ _ _ _ _ _ _ _ hs8  h
    · replace h := of_ifn h c5
      exact t_X12_out_23 hD  hs3  h
theorem f_X12_out {X : Sx} {l : Launch} {x1 : Int32} {x2 : Int32} {σ : AH} {v : Int32} {σ' : AH} (hs : Sh σ) (h : F_X12_out x1 x2 σ = some (v, σ')) : Call X l m_X12_out 2 [.ref 124, .int x1, .int x2] σ (some (.int v)) σ' :=
  Call.ofE ok_X12_out rfl (Nat.le_of_ble_eq_true rfl) (w_X12_out_0 hs  (t_X12_out_0 (Nat.le_refl _) hs  h))
def F_X12_rent_83 (x1 : Int32) (x2 : Int32) (σ : AH) : Option (Int32 × AH) := (bd (F_X12_roomsOf x1 σ) fun v58 σ54 => (bd (F_X12_find (5 : Int32) (0 : Int32) (0 : Int32) (0 : Int32) x2 (sI σ54 136 1 v58)) fun v64 σ60 => (if (0 : Int64) ≤ (gL σ60 124 32) then (bd (F_X12_shown (gL σ60 124 32) σ60) fun v70 σ66 => (some (v70, σ66))) else (some ((0 : Int32), σ60)))))
def F_X12_rent (x1 : Int32) (x2 : Int32) (x3 : Int32) (σ : AH) : Option (Int32 × AH) := (bd (F_X12_isPlot x1 (sI σ 124 0 (0 : Int32))) fun v6 σ2 => (if v6 = 0 then (some ((-1 : Int32), σ2)) else (bd (F_X12_isWeek x2 σ2) fun v12 σ8 => (if v12 = 0 then (some ((-1 : Int32), σ8)) else (bd (F_X12_isWeek x3 σ8) fun v18 σ14 => (if v18 = 0 then (some ((-1 : Int32), σ14)) else (bv (F_X12_findHomes x3 σ14) fun σ20 => (bd (F_X12_isHome x1 x2 σ20) fun v29 σ25 => (if v29 = 0 then (some ((-1 : Int32), σ25)) else (bd (F_X12_livingIn x1 x2 σ25) fun v35 σ31 => (bv (F_X12_setOnly (0 : Int32) x2 σ31) fun σ37 => (if v35 = (-1 : Int32) then (F_X12_rent_83 x1 x2 σ37) else (bd (F_X12_stayAt v35 σ37) fun v46 σ42 => (if inB (v46 + (1 : Int32)) 269832 = true then (bv (F_X12_setEntry (gI σ42 125 (v46 + (1 : Int32)).toNatClampNeg) x2 σ42) fun σ49 => (F_X12_rent_83 x1 x2 σ49)) else none))))))))))))))
set_option maxRecDepth 100000 in
theorem t_X12_rent_83 {X : Sx} {l : Launch} {D : Nat} {x1 : Int32} {x2 : Int32} {σ : AH} {v : Int32} {σ' : AH} (hD : 12 ≤ D) (hs : Sh σ) (h : F_X12_rent_83 x1 x2 σ = some (v, σ')) : W_X12_rent_83 X l D x1 x2 σ (some (.int v)) σ' := by
  unfold F_X12_rent_83 at h
  unfold W_X12_rent_83
  obtain ⟨v58, σ54, q1, h⟩ := of_bd h
  have hC2 := f_X12_roomsOf (σ := σ) hs  q1 (X := X) (l := l)
  have hs3 := hC2.1.2.2.2.1 hs
  refine ⟨0, v58, σ54, (Nat.le_trans (by decide) hD), hC2, ?_⟩
  obtain ⟨v64, σ60, q4, h⟩ := of_bd h
  have hC5 := f_X12_find (σ := (sI σ54 136 1 v58)) hs3  q4 (X := X) (l := l)
  have hs6 := hC5.1.2.2.2.1 hs3
  refine ⟨4, v64, σ60, (Nat.le_trans (by decide) hD), hC5, ?_⟩
  refine ite_i (fun c7 => ?_) (fun c7 => ?_)
  · replace h := of_ifp h c7
    obtain ⟨v70, σ66, q8, h⟩ := of_bd h
    have hC9 := f_X12_shown (σ := σ60) hs6  q8 (X := X) (l := l)
    have hs10 := hC9.1.2.2.2.1 hs6
    refine ⟨0, v70, σ66, (Nat.le_trans (by decide) hD), hC9, ?_⟩
    exact ret_i h
  · replace h := of_ifn h c7
    exact ret_i h
set_option maxRecDepth 100000 in
theorem t_X12_rent_0 {X : Sx} {l : Launch} {D : Nat} {x1 : Int32} {x2 : Int32} {x3 : Int32} {σ : AH} {v : Int32} {σ' : AH} (hD : 12 ≤ D) (hs : Sh σ) (h : F_X12_rent x1 x2 x3 σ = some (v, σ')) : W_X12_rent_0 X l D x1 x2 x3 σ (some (.int v)) σ' := by
  unfold F_X12_rent at h
  unfold W_X12_rent_0
  obtain ⟨v6, σ2, q1, h⟩ := of_bd h
  have hC2 := f_X12_isPlot (σ := (sI σ 124 0 (0 : Int32))) hs  q1 (X := X) (l := l)
  have hs3 := hC2.1.2.2.2.1 hs
  refine ⟨1, v6, σ2, (Nat.le_trans (by decide) hD), hC2, ?_⟩
  refine ite_i (fun c4 => ?_) (fun c4 => ?_)
  · replace h := of_ifp h c4
    exact ret_i h
  · replace h := of_ifn h c4
    obtain ⟨v12, σ8, q5, h⟩ := of_bd h
    have hC6 := f_X12_isWeek (σ := σ2) hs3  q5 (X := X) (l := l)
    have hs7 := hC6.1.2.2.2.1 hs3
    refine ⟨1, v12, σ8, (Nat.le_trans (by decide) hD), hC6, ?_⟩
    refine ite_i (fun c8 => ?_) (fun c8 => ?_)
    · replace h := of_ifp h c8
      exact ret_i h
    · replace h := of_ifn h c8
      obtain ⟨v18, σ14, q9, h⟩ := of_bd h
      have hC10 := f_X12_isWeek (σ := σ8) hs7  q9 (X := X) (l := l)
      have hs11 := hC10.1.2.2.2.1 hs7
      refine ⟨1, v18, σ14, (Nat.le_trans (by decide) hD), hC10, ?_⟩
      refine ite_i (fun c12 => ?_) (fun c12 => ?_)
      · replace h := of_ifp h c12
        exact ret_i h
      · replace h := of_ifn h c12
        obtain ⟨σ20, q13, h⟩ := of_bv h
        have hC14 := f_X12_findHomes (σ := σ14) hs11  q13 (X := X) (l := l)
        have hs15 := hC14.1.2.2.2.1 hs11
        refine ⟨11, σ20, (Nat.le_trans (by decide) hD), hC14, ?_⟩
        obtain ⟨v29, σ25, q16, h⟩ := of_bd h
        have hC17 := f_X12_isHome (σ := σ20) hs15  q16 (X := X) (l := l)
        have hs18 := hC17.1.2.2.2.1 hs15
        refine ⟨0, v29, σ25, (Nat.le_trans (by decide) hD), hC17, ?_⟩
        refine ite_i (fun c19 => ?_) (fun c19 => ?_)
        · replace h := of_ifp h c19
          exact ret_i h
        · replace h := of_ifn h c19
          obtain ⟨v35, σ31, q20, h⟩ := of_bd h
          have hC21 := f_X12_livingIn (σ := σ25) hs18  q20 (X := X) (l := l)
          have hs22 := hC21.1.2.2.2.1 hs18
          refine ⟨2, v35, σ31, (Nat.le_trans (by decide) hD), hC21, ?_⟩
          obtain ⟨σ37, q23, h⟩ := of_bv h
          have hC24 := f_X12_setOnly (σ := σ31) hs22  q23 (X := X) (l := l)
          have hs25 := hC24.1.2.2.2.1 hs22
          refine ⟨0, σ37, (Nat.le_trans (by decide) hD), hC24, ?_⟩
          refine ite_i (fun c26 => ?_) (fun c26 => ?_)
          · replace h := of_ifp h c26
            exact t_X12_rent_83 hD  hs25  h
          · replace h := of_ifn h c26
            obtain ⟨v46, σ42, q27, h⟩ := of_bd h
            have hC28 := f_X12_stayAt (σ := σ37) hs25  q27 (X := X) (l := l)
            have hs29 := hC28.1.2.2.2.1 hs25
            refine ⟨0, v46, σ42, (Nat.le_trans (by decide) hD), hC28, ?_⟩
            obtain ⟨g30, h⟩ := of_gd h
            refine ⟨(inB_mp g30), ?_⟩
            obtain ⟨σ49, q31, h⟩ := of_bv h
            have hC32 := f_X12_setEntry (σ := σ42) hs29  q31 (X := X) (l := l)
            have hs33 := hC32.1.2.2.2.1 hs29
            refine ⟨1, σ49, (Nat.le_trans (by decide) hD), hC32, ?_⟩
            exact t_X12_rent_83 hD  hs33  h
theorem f_X12_rent {X : Sx} {l : Launch} {x1 : Int32} {x2 : Int32} {x3 : Int32} {σ : AH} {v : Int32} {σ' : AH} (hs : Sh σ) (h : F_X12_rent x1 x2 x3 σ = some (v, σ')) : Call X l m_X12_rent 12 [.ref 124, .int x1, .int x2, .int x3] σ (some (.int v)) σ' :=
  Call.ofE ok_X12_rent rfl (Nat.le_of_ble_eq_true rfl) (w_X12_rent_0 hs  (t_X12_rent_0 (Nat.le_refl _) hs  h))
def F_X12_lodge_37 (σ : AH) : Option (Int32 × AH) := (bd (F_X12_told (-1 : Int32) σ) fun v53 σ49 => (some (v53, σ49)))
def F_X12_lodge (x1 : Int32) (x2 : Int32) (x3 : Int32) (x4 : Int32) (σ : AH) : Option (Int32 × AH) := (bd (F_X12_in (x2).toInt64 (1 : Int64) (20 : Int64) (sI σ 124 0 (0 : Int32))) fun v6 σ2 => (if v6 = 0 then (F_X12_lodge_37 σ2) else (bd (F_X12_isWeek x4 σ2) fun v12 σ8 => (if v12 = 0 then (F_X12_lodge_37 σ8) else (bd (F_X12_in (x3).toInt64 (0 : Int64) (x4).toInt64 σ8) fun v18 σ14 => (if v18 = 0 then (F_X12_lodge_37 σ14) else (bd (F_X12_isPlot x1 σ14) fun v24 σ20 => (if v24 = 0 then (bd (F_X12_told (-2 : Int32) σ20) fun v47 σ43 => (some (v47, σ43))) else (if (gI σ20 125 9) = (40 : Int32) then (bd (F_X12_told (-5 : Int32) σ20) fun v41 σ37 => (some (v41, σ37))) else (bv (F_X12_addFour ((24432 : Int32) + ((4 : Int32) * (gI σ20 125 9))) x1 x2 x3 x4 σ20) fun σ26 => (bd (F_X12_told (gI (sI σ26 125 9 ((gI σ26 125 9) + (1 : Int32))) 125 9) (sI σ26 125 9 ((gI σ26 125 9) + (1 : Int32)))) fun v35 σ31 => (some (v35, σ31)))))))))))))
set_option maxRecDepth 100000 in
theorem t_X12_lodge_37 {X : Sx} {l : Launch} {D : Nat} {σ : AH} {v : Int32} {σ' : AH} (hD : 2 ≤ D) (hs : Sh σ) (h : F_X12_lodge_37 σ = some (v, σ')) : W_X12_lodge_37 X l D σ (some (.int v)) σ' := by
  unfold F_X12_lodge_37 at h
  unfold W_X12_lodge_37
  obtain ⟨v53, σ49, q1, h⟩ := of_bd h
  have hC2 := f_X12_told (σ := σ) hs  q1 (X := X) (l := l)
  have hs3 := hC2.1.2.2.2.1 hs
  refine ⟨0, v53, σ49, (Nat.le_trans (by decide) hD), hC2, ?_⟩
  exact ret_i h
set_option maxRecDepth 100000 in
theorem t_X12_lodge_0 {X : Sx} {l : Launch} {D : Nat} {x1 : Int32} {x2 : Int32} {x3 : Int32} {x4 : Int32} {σ : AH} {v : Int32} {σ' : AH} (hD : 2 ≤ D) (hs : Sh σ) (h : F_X12_lodge x1 x2 x3 x4 σ = some (v, σ')) : W_X12_lodge_0 X l D x1 x2 x3 x4 σ (some (.int v)) σ' := by
  unfold F_X12_lodge at h
  unfold W_X12_lodge_0
  obtain ⟨v6, σ2, q1, h⟩ := of_bd h
  have hC2 := f_X12_in (σ := (sI σ 124 0 (0 : Int32))) hs  q1 (X := X) (l := l)
  have hs3 := hC2.1.2.2.2.1 hs
  refine ⟨0, v6, σ2, (Nat.le_trans (by decide) hD), hC2, ?_⟩
  refine ite_i (fun c4 => ?_) (fun c4 => ?_)
  · replace h := of_ifp h c4
    exact t_X12_lodge_37 hD  hs3  h
  · replace h := of_ifn h c4
    obtain ⟨v12, σ8, q5, h⟩ := of_bd h
    have hC6 := f_X12_isWeek (σ := σ2) hs3  q5 (X := X) (l := l)
    have hs7 := hC6.1.2.2.2.1 hs3
    refine ⟨1, v12, σ8, (Nat.le_trans (by decide) hD), hC6, ?_⟩
    refine ite_i (fun c8 => ?_) (fun c8 => ?_)
    · replace h := of_ifp h c8
      exact t_X12_lodge_37 hD  hs7  h
    · replace h := of_ifn h c8
      obtain ⟨v18, σ14, q9, h⟩ := of_bd h
      have hC10 := f_X12_in (σ := σ8) hs7  q9 (X := X) (l := l)
      have hs11 := hC10.1.2.2.2.1 hs7
      refine ⟨0, v18, σ14, (Nat.le_trans (by decide) hD), hC10, ?_⟩
      refine ite_i (fun c12 => ?_) (fun c12 => ?_)
      · replace h := of_ifp h c12
        exact t_X12_lodge_37 hD  hs11  h
      · replace h := of_ifn h c12
        obtain ⟨v24, σ20, q13, h⟩ := of_bd h
        have hC14 := f_X12_isPlot (σ := σ14) hs11  q13 (X := X) (l := l)
        have hs15 := hC14.1.2.2.2.1 hs11
        refine ⟨1, v24, σ20, (Nat.le_trans (by decide) hD), hC14, ?_⟩
        refine ite_i (fun c16 => ?_) (fun c16 => ?_)
        · replace h := of_ifp h c16
          obtain ⟨v47, σ43, q17, h⟩ := of_bd h
          have hC18 := f_X12_told (σ := σ20) hs15  q17 (X := X) (l := l)
          have hs19 := hC18.1.2.2.2.1 hs15
          refine ⟨0, v47, σ43, (Nat.le_trans (by decide) hD), hC18, ?_⟩
          exact ret_i h
        · replace h := of_ifn h c16
          refine ite_i (fun c20 => ?_) (fun c20 => ?_)
          · replace h := of_ifp h c20
            obtain ⟨v41, σ37, q21, h⟩ := of_bd h
            have hC22 := f_X12_told (σ := σ20) hs15  q21 (X := X) (l := l)
            have hs23 := hC22.1.2.2.2.1 hs15
            refine ⟨0, v41, σ37, (Nat.le_trans (by decide) hD), hC22, ?_⟩
            exact ret_i h
          · replace h := of_ifn h c20
            obtain ⟨σ26, q24, h⟩ := of_bv h
            have hC25 := f_X12_addFour (σ := σ20) hs15  q24 (X := X) (l := l)
            have hs26 := hC25.1.2.2.2.1 hs15
            refine ⟨0, σ26, (Nat.le_trans (by decide) hD), hC25, ?_⟩
            obtain ⟨v35, σ31, q27, h⟩ := of_bd h
            have hC28 := f_X12_told (σ := (sI σ26 125 9 ((gI σ26 125 9) + (1 : Int32)))) hs26  q27 (X := X) (l := l)
            have hs29 := hC28.1.2.2.2.1 hs26
            refine ⟨0, v35, σ31, (Nat.le_trans (by decide) hD), hC28, ?_⟩
            exact ret_i h
theorem f_X12_lodge {X : Sx} {l : Launch} {x1 : Int32} {x2 : Int32} {x3 : Int32} {x4 : Int32} {σ : AH} {v : Int32} {σ' : AH} (hs : Sh σ) (h : F_X12_lodge x1 x2 x3 x4 σ = some (v, σ')) : Call X l m_X12_lodge 2 [.ref 124, .int x1, .int x2, .int x3, .int x4] σ (some (.int v)) σ' :=
  Call.ofE ok_X12_lodge rfl (Nat.le_of_ble_eq_true rfl) (w_X12_lodge_0 hs  (t_X12_lodge_0 (Nat.le_refl _) hs  h))
def F_X12_under_136 (k_X12_under_60 : Int32 → Int32 → Int32 → Int32 → AH → Option (Int32 × AH)) (x1 : Int32) (x2 : Int32) (x5 : Int32) (y0 : Int32) (y1 : Int32) (σ : AH) : Option (Int32 × AH) := (k_X12_under_60 x1 x2 (y1 + y0) (x5 + 1) σ)
def F_X12_under_135 (k_X12_under_60 : Int32 → Int32 → Int32 → Int32 → AH → Option (Int32 × AH)) (x1 : Int32) (x2 : Int32) (x5 : Int32) (y0 : Int32) (σ : AH) : Option (Int32 × AH) := (F_X12_under_136 k_X12_under_60 x1 x2 x5 (0 : Int32) y0 σ)
def B_X12_under_60 (k_X12_under_60 : Int32 → Int32 → Int32 → Int32 → AH → Option (Int32 × AH)) (x1 : Int32) (x2 : Int32) (x4 : Int32) (x5 : Int32) (σ : AH) : Option (Int32 × AH) := (if (gI σ 125 9) ≤ x5 then (some (x4, σ)) else (if inB ((24432 : Int32) + ((4 : Int32) * x5)) 269832 = true then (if (gI σ 125 ((24432 : Int32) + ((4 : Int32) * x5)).toNatClampNeg) = x1 then (if inB (((24432 : Int32) + ((4 : Int32) * x5)) + (2 : Int32)) 269832 = true then (if inB (((24432 : Int32) + ((4 : Int32) * x5)) + (3 : Int32)) 269832 = true then (bd (F_X12_in (x2).toInt64 ((gI σ 125 (((24432 : Int32) + ((4 : Int32) * x5)) + (2 : Int32)).toNatClampNeg)).toInt64 ((gI σ 125 (((24432 : Int32) + ((4 : Int32) * x5)) + (3 : Int32)).toNatClampNeg)).toInt64 σ) fun v40 σ36 => (if v40 = 0 then (F_X12_under_135 k_X12_under_60 x1 x2 x5 x4 σ36) else (if inB (((24432 : Int32) + ((4 : Int32) * x5)) + (1 : Int32)) 269832 = true then (F_X12_under_136 k_X12_under_60 x1 x2 x5 (gI σ36 125 (((24432 : Int32) + ((4 : Int32) * x5)) + (1 : Int32)).toNatClampNeg) x4 σ36) else none))) else none) else none) else (F_X12_under_135 k_X12_under_60 x1 x2 x5 x4 σ)) else none))
def F_X12_under_60 : Nat → Int32 → Int32 → Int32 → Int32 → AH → Option (Int32 × AH) := fun k => match k with | 0 => fun _ _ _ _ _ => none | k + 1 => B_X12_under_60 (F_X12_under_60 k)
def F_X12_under_55 (x1 : Int32) (x2 : Int32) (y0 : Int32) (σ : AH) : Option (Int32 × AH) := (F_X12_under_60 BIG x1 x2 y0 (0 : Int32) σ)
def F_X12_under (x1 : Int32) (x2 : Int32) (σ : AH) : Option (Int32 × AH) := (bd (F_X12_isPlot x1 (sI σ 124 0 (0 : Int32))) fun v6 σ2 => (if v6 = 0 then (some ((-1 : Int32), σ2)) else (bd (F_X12_isWeek x2 σ2) fun v12 σ8 => (if v12 = 0 then (some ((-1 : Int32), σ8)) else (bd (F_X12_livingIn x1 x2 σ8) fun v18 σ14 => (if v18 = (-1 : Int32) then (F_X12_under_55 x1 x2 (0 : Int32) σ14) else (bd (F_X12_stayAt v18 σ14) fun v24 σ20 => (if inB (v24 + (1 : Int32)) 269832 = true then (bd (F_X12_entryAt (gI σ20 125 (v24 + (1 : Int32)).toNatClampNeg) (2 : Int32) σ20) fun v31 σ27 => (F_X12_under_55 x1 x2 v31 σ27)) else none))))))))
set_option maxRecDepth 100000 in
theorem t_X12_under_136 {X : Sx} {l : Launch} {D : Nat} {k_X12_under_60 : Int32 → Int32 → Int32 → Int32 → AH → Option (Int32 × AH)} {x1 : Int32} {x2 : Int32} {x5 : Int32} {y0 : Int32} {y1 : Int32} {σ : AH} {v : Int32} {σ' : AH} (hD : 3 ≤ D) (hk_X12_under_60 : ∀ (x1 : Int32) (x2 : Int32) (x4 : Int32) (x5 : Int32) (σ : AH) (v : Int32) (σ' : AH), Sh σ → k_X12_under_60 x1 x2 x4 x5 σ = some (v, σ') → E X l m_X12_under D 60 [(0, .ref 124), (1, .int x1), (2, .int x2), (4, .int x4), (5, .int x5)] [] σ (some (.int v)) σ') (hs : Sh σ) (h : F_X12_under_136 k_X12_under_60 x1 x2 x5 y0 y1 σ = some (v, σ')) : W_X12_under_136 X l D x1 x2 x5 y0 y1 σ (some (.int v)) σ' := by
  unfold F_X12_under_136 at h
  unfold W_X12_under_136
  exact hk_X12_under_60 _ _ _ _ _ _ _ hs  h
set_option maxRecDepth 100000 in
theorem t_X12_under_135 {X : Sx} {l : Launch} {D : Nat} {k_X12_under_60 : Int32 → Int32 → Int32 → Int32 → AH → Option (Int32 × AH)} {x1 : Int32} {x2 : Int32} {x5 : Int32} {y0 : Int32} {σ : AH} {v : Int32} {σ' : AH} (hD : 3 ≤ D) (hk_X12_under_60 : ∀ (x1 : Int32) (x2 : Int32) (x4 : Int32) (x5 : Int32) (σ : AH) (v : Int32) (σ' : AH), Sh σ → k_X12_under_60 x1 x2 x4 x5 σ = some (v, σ') → E X l m_X12_under D 60 [(0, .ref 124), (1, .int x1), (2, .int x2), (4, .int x4), (5, .int x5)] [] σ (some (.int v)) σ') (hs : Sh σ) (h : F_X12_under_135 k_X12_under_60 x1 x2 x5 y0 σ = some (v, σ')) : W_X12_under_135 X l D x1 x2 x5 y0 σ (some (.int v)) σ' := by
  unfold F_X12_under_135 at h
  unfold W_X12_under_135
  exact t_X12_under_136 hD hk_X12_under_60 hs  h
set_option maxRecDepth 100000 in
theorem t_X12_under_60 {X : Sx} {l : Launch} {D : Nat} {k_X12_under_60 : Int32 → Int32 → Int32 → Int32 → AH → Option (Int32 × AH)} {x1 : Int32} {x2 : Int32} {x4 : Int32} {x5 : Int32} {σ : AH} {v : Int32} {σ' : AH} (hD : 3 ≤ D) (hk_X12_under_60 : ∀ (x1 : Int32) (x2 : Int32) (x4 : Int32) (x5 : Int32) (σ : AH) (v : Int32) (σ' : AH), Sh σ → k_X12_under_60 x1 x2 x4 x5 σ = some (v, σ') → E X l m_X12_under D 60 [(0, .ref 124), (1, .int x1), (2, .int x2), (4, .int x4), (5, .int x5)] [] σ (some (.int v)) σ') (hs : Sh σ) (h : B_X12_under_60 k_X12_under_60 x1 x2 x4 x5 σ = some (v, σ')) : W_X12_under_60 X l D x1 x2 x4 x5 σ (some (.int v)) σ' := by
  unfold B_X12_under_60 at h
  unfold W_X12_under_60
  refine ite_i (fun c1 => ?_) (fun c1 => ?_)
  · replace h := of_ifp h c1
    exact ret_i h
  · replace h := of_ifn h c1
    obtain ⟨g2, h⟩ := of_gd h
    refine ⟨(inB_mp g2), ?_⟩
    refine ite_i (fun c3 => ?_) (fun c3 => ?_)
    · replace h := of_ifp h c3
      obtain ⟨g4, h⟩ := of_gd h
      refine ⟨(inB_mp g4), ?_⟩
      obtain ⟨g5, h⟩ := of_gd h
      refine ⟨(inB_mp g5), ?_⟩
      obtain ⟨v40, σ36, q6, h⟩ := of_bd h
      have hC7 := f_X12_in (σ := σ) hs  q6 (X := X) (l := l)
      have hs8 := hC7.1.2.2.2.1 hs
      refine ⟨0, v40, σ36, (Nat.le_trans (by decide) hD), hC7, ?_⟩
      refine ite_i (fun c9 => ?_) (fun c9 => ?_)
      · replace h := of_ifp h c9
        exact t_X12_under_135 hD hk_X12_under_60 hs8  h
      · replace h := of_ifn h c9
        obtain ⟨g10, h⟩ := of_gd h
        refine ⟨(inB_mp g10), ?_⟩
        exact t_X12_under_136 hD hk_X12_under_60 hs8  h
    · replace h := of_ifn h c3
      exact t_X12_under_135 hD hk_X12_under_60 hs  h
theorem e_X12_under_60 {X : Sx} {l : Launch} {D : Nat} (hD : 3 ≤ D) : ∀ (k : Nat) (x1 : Int32) (x2 : Int32) (x4 : Int32) (x5 : Int32) (σ : AH) (v : Int32) (σ' : AH), Sh σ → F_X12_under_60 k x1 x2 x4 x5 σ = some (v, σ') → E X l m_X12_under D 60 [(0, .ref 124), (1, .int x1), (2, .int x2), (4, .int x4), (5, .int x5)] [] σ (some (.int v)) σ' := by
  intro k
  induction k with
  | zero => intro x1 x2 x4 x5 σ v σ' hs h; cases h
  | succ k ih =>
    intro x1 x2 x4 x5 σ v σ' hs h
    exact w_X12_under_60 hs  (t_X12_under_60 hD ih hs  h)
set_option maxRecDepth 100000 in
theorem t_X12_under_55 {X : Sx} {l : Launch} {D : Nat} {x1 : Int32} {x2 : Int32} {y0 : Int32} {σ : AH} {v : Int32} {σ' : AH} (hD : 3 ≤ D) (hs : Sh σ) (h : F_X12_under_55 x1 x2 y0 σ = some (v, σ')) : W_X12_under_55 X l D x1 x2 y0 σ (some (.int v)) σ' := by
  unfold F_X12_under_55 at h
  unfold W_X12_under_55
  exact e_X12_under_60 hD  _ _ _ _ _ _ _ _ hs  h
set_option maxRecDepth 100000 in
theorem t_X12_under_0 {X : Sx} {l : Launch} {D : Nat} {x1 : Int32} {x2 : Int32} {σ : AH} {v : Int32} {σ' : AH} (hD : 3 ≤ D) (hs : Sh σ) (h : F_X12_under x1 x2 σ = some (v, σ')) : W_X12_under_0 X l D x1 x2 σ (some (.int v)) σ' := by
  unfold F_X12_under at h
  unfold W_X12_under_0
  obtain ⟨v6, σ2, q1, h⟩ := of_bd h
  have hC2 := f_X12_isPlot (σ := (sI σ 124 0 (0 : Int32))) hs  q1 (X := X) (l := l)
  have hs3 := hC2.1.2.2.2.1 hs
  refine ⟨1, v6, σ2, (Nat.le_trans (by decide) hD), hC2, ?_⟩
  refine ite_i (fun c4 => ?_) (fun c4 => ?_)
  · replace h := of_ifp h c4
    exact ret_i h
  · replace h := of_ifn h c4
    obtain ⟨v12, σ8, q5, h⟩ := of_bd h
    have hC6 := f_X12_isWeek (σ := σ2) hs3  q5 (X := X) (l := l)
    have hs7 := hC6.1.2.2.2.1 hs3
    refine ⟨1, v12, σ8, (Nat.le_trans (by decide) hD), hC6, ?_⟩
    refine ite_i (fun c8 => ?_) (fun c8 => ?_)
    · replace h := of_ifp h c8
      exact ret_i h
    · replace h := of_ifn h c8
      obtain ⟨v18, σ14, q9, h⟩ := of_bd h
      have hC10 := f_X12_livingIn (σ := σ8) hs7  q9 (X := X) (l := l)
      have hs11 := hC10.1.2.2.2.1 hs7
      refine ⟨2, v18, σ14, (Nat.le_trans (by decide) hD), hC10, ?_⟩
      refine ite_i (fun c12 => ?_) (fun c12 => ?_)
      · replace h := of_ifp h c12
        exact t_X12_under_55 hD  hs11  h
      · replace h := of_ifn h c12
        obtain ⟨v24, σ20, q13, h⟩ := of_bd h
        have hC14 := f_X12_stayAt (σ := σ14) hs11  q13 (X := X) (l := l)
        have hs15 := hC14.1.2.2.2.1 hs11
        refine ⟨0, v24, σ20, (Nat.le_trans (by decide) hD), hC14, ?_⟩
        obtain ⟨g16, h⟩ := of_gd h
        refine ⟨(inB_mp g16), ?_⟩
        obtain ⟨v31, σ27, q17, h⟩ := of_bd h
        have hC18 := f_X12_entryAt (σ := σ20) hs15  q17 (X := X) (l := l)
        have hs19 := hC18.1.2.2.2.1 hs15
        refine ⟨0, v31, σ27, (Nat.le_trans (by decide) hD), hC18, ?_⟩
        exact t_X12_under_55 hD  hs19  h
theorem f_X12_under {X : Sx} {l : Launch} {x1 : Int32} {x2 : Int32} {σ : AH} {v : Int32} {σ' : AH} (hs : Sh σ) (h : F_X12_under x1 x2 σ = some (v, σ')) : Call X l m_X12_under 3 [.ref 124, .int x1, .int x2] σ (some (.int v)) σ' :=
  Call.ofE ok_X12_under rfl (Nat.le_of_ble_eq_true rfl) (w_X12_under_0 hs  (t_X12_under_0 (Nat.le_refl _) hs  h))
def F_X12_isTarget (x0 : Int32) (x1 : Int32) (σ : AH) : Option (Int32 × AH) := (bd (F_X12_isCouncil x0 σ) fun v6 σ2 => (if v6 = 0 then (some ((0 : Int32), σ2)) else (bd (F_X12_isQuarter x1 σ2) fun v12 σ8 => (if v12 = 0 then (some ((0 : Int32), σ8)) else (some ((1 : Int32), σ8))))))
set_option maxRecDepth 100000 in
theorem t_X12_isTarget_0 {X : Sx} {l : Launch} {D : Nat} {x0 : Int32} {x1 : Int32} {σ : AH} {v : Int32} {σ' : AH} (hD : 2 ≤ D) (hs : Sh σ) (h : F_X12_isTarget x0 x1 σ = some (v, σ')) : W_X12_isTarget_0 X l D x0 x1 σ (some (.int v)) σ' := by
  unfold F_X12_isTarget at h
  unfold W_X12_isTarget_0
  obtain ⟨v6, σ2, q1, h⟩ := of_bd h
  have hC2 := f_X12_isCouncil (σ := σ) hs  q1 (X := X) (l := l)
  have hs3 := hC2.1.2.2.2.1 hs
  refine ⟨1, v6, σ2, (Nat.le_trans (by decide) hD), hC2, ?_⟩
  refine ite_i (fun c4 => ?_) (fun c4 => ?_)
  · replace h := of_ifp h c4
    exact ret_i h
  · replace h := of_ifn h c4
    obtain ⟨v12, σ8, q5, h⟩ := of_bd h
    have hC6 := f_X12_isQuarter (σ := σ2) hs3  q5 (X := X) (l := l)
    have hs7 := hC6.1.2.2.2.1 hs3
    refine ⟨1, v12, σ8, (Nat.le_trans (by decide) hD), hC6, ?_⟩
    refine ite_i (fun c8 => ?_) (fun c8 => ?_)
    · replace h := of_ifp h c8
      exact ret_i h
    · replace h := of_ifn h c8
      exact ret_i h
theorem f_X12_isTarget {X : Sx} {l : Launch} {x0 : Int32} {x1 : Int32} {σ : AH} {v : Int32} {σ' : AH} (hs : Sh σ) (h : F_X12_isTarget x0 x1 σ = some (v, σ')) : Call X l m_X12_isTarget 2 [.int x0, .int x1] σ (some (.int v)) σ' :=
  Call.ofE ok_X12_isTarget rfl (Nat.le_of_ble_eq_true rfl) (w_X12_isTarget_0 hs  (t_X12_isTarget_0 (Nat.le_refl _) hs  h))
def F_X12_target_25 (σ : AH) : Option (Int32 × AH) := (bd (F_X12_told (-1 : Int32) σ) fun v25 σ21 => (some (v25, σ21)))
def F_X12_target (x1 : Int32) (x2 : Int32) (x3 : Int32) (σ : AH) : Option (Int32 × AH) := (bd (F_X12_isTarget x1 x2 (sI σ 124 0 (0 : Int32))) fun v6 σ2 => (if v6 = 0 then (F_X12_target_25 σ2) else (bd (F_X12_in (x3).toInt64 (0 : Int64) (10000 : Int64) σ2) fun v12 σ8 => (if v12 = 0 then (F_X12_target_25 σ8) else (if inB (((24592 : Int32) + ((20 : Int32) * x1)) + x2) 269832 = true then (bd (F_X12_told (0 : Int32) (sI σ8 125 ((((24592 : Int32) + ((20 : Int32) * x1)) + x2).toNatClampNeg) (x3 + (1 : Int32)))) fun v19 σ15 => (some (v19, σ15))) else none)))))
set_option maxRecDepth 100000 in
theorem t_X12_target_25 {X : Sx} {l : Launch} {D : Nat} {σ : AH} {v : Int32} {σ' : AH} (hD : 3 ≤ D) (hs : Sh σ) (h : F_X12_target_25 σ = some (v, σ')) : W_X12_target_25 X l D σ (some (.int v)) σ' := by
  unfold F_X12_target_25 at h
  unfold W_X12_target_25
  obtain ⟨v25, σ21, q1, h⟩ := of_bd h
  have hC2 := f_X12_told (σ := σ) hs  q1 (X := X) (l := l)
  have hs3 := hC2.1.2.2.2.1 hs
  refine ⟨0, v25, σ21, (Nat.le_trans (by decide) hD), hC2, ?_⟩
  exact ret_i h
set_option maxRecDepth 100000 in
theorem t_X12_target_0 {X : Sx} {l : Launch} {D : Nat} {x1 : Int32} {x2 : Int32} {x3 : Int32} {σ : AH} {v : Int32} {σ' : AH} (hD : 3 ≤ D) (hs : Sh σ) (h : F_X12_target x1 x2 x3 σ = some (v, σ')) : W_X12_target_0 X l D x1 x2 x3 σ (some (.int v)) σ' := by
  unfold F_X12_target at h
  unfold W_X12_target_0
  obtain ⟨v6, σ2, q1, h⟩ := of_bd h
  have hC2 := f_X12_isTarget (σ := (sI σ 124 0 (0 : Int32))) hs  q1 (X := X) (l := l)
  have hs3 := hC2.1.2.2.2.1 hs
  refine ⟨2, v6, σ2, (Nat.le_trans (by decide) hD), hC2, ?_⟩
  refine ite_i (fun c4 => ?_) (fun c4 => ?_)
  · replace h := of_ifp h c4
    exact t_X12_target_25 hD  hs3  h
  · replace h := of_ifn h c4
    obtain ⟨v12, σ8, q5, h⟩ := of_bd h
    have hC6 := f_X12_in (σ := σ2) hs3  q5 (X := X) (l := l)
    have hs7 := hC6.1.2.2.2.1 hs3
    refine ⟨0, v12, σ8, (Nat.le_trans (by decide) hD), hC6, ?_⟩
    refine ite_i (fun c8 => ?_) (fun c8 => ?_)
    · replace h := of_ifp h c8
      exact t_X12_target_25 hD  hs7  h
    · replace h := of_ifn h c8
      obtain ⟨g9, h⟩ := of_gd h
      refine ⟨(inB_mp g9), ?_⟩
      obtain ⟨v19, σ15, q10, h⟩ := of_bd h
      have hC11 := f_X12_told (σ := (sI σ8 125 ((((24592 : Int32) + ((20 : Int32) * x1)) + x2).toNatClampNeg) (x3 + (1 : Int32)))) hs7  q10 (X := X) (l := l)
      have hs12 := hC11.1.2.2.2.1 hs7
      refine ⟨0, v19, σ15, (Nat.le_trans (by decide) hD), hC11, ?_⟩
      exact ret_i h
theorem f_X12_target {X : Sx} {l : Launch} {x1 : Int32} {x2 : Int32} {x3 : Int32} {σ : AH} {v : Int32} {σ' : AH} (hs : Sh σ) (h : F_X12_target x1 x2 x3 σ = some (v, σ')) : Call X l m_X12_target 3 [.ref 124, .int x1, .int x2, .int x3] σ (some (.int v)) σ' :=
  Call.ofE ok_X12_target rfl (Nat.le_of_ble_eq_true rfl) (w_X12_target_0 hs  (t_X12_target_0 (Nat.le_refl _) hs  h))
def F_X12_street_39 (σ : AH) : Option (Int32 × AH) := (bd (F_X12_told (-1 : Int32) σ) fun v31 σ27 => (some (v31, σ27)))
def F_X12_street (x1 : Int32) (x2 : Int32) (x3 : Int32) (x4 : Int32) (x5 : Int32) (σ : AH) : Option (Int32 × AH) := (bd (F_X12_isTarget x2 x3 (sI σ 124 0 (0 : Int32))) fun v6 σ2 => (if v6 = 0 then (F_X12_street_39 σ2) else (bd (F_X12_in (x4).toInt64 (0 : Int64) (19 : Int64) σ2) fun v12 σ8 => (if v12 = 0 then (F_X12_street_39 σ8) else (bd (F_X12_in (x5).toInt64 (0 : Int64) (1000 : Int64) σ8) fun v18 σ14 => (if v18 = 0 then (F_X12_street_39 σ14) else (if inB ((x1 + ((((20 : Int32) * x2) + x3) * (20 : Int32))) + x4) 269832 = true then (bd (F_X12_told (0 : Int32) (sI σ14 125 (((x1 + ((((20 : Int32) * x2) + x3) * (20 : Int32))) + x4).toNatClampNeg) (x5 + (1 : Int32)))) fun v25 σ21 => (some (v25, σ21))) else none)))))))
set_option maxRecDepth 100000 in
theorem t_X12_street_39 {X : Sx} {l : Launch} {D : Nat} {σ : AH} {v : Int32} {σ' : AH} (hD : 3 ≤ D) (hs : Sh σ) (h : F_X12_street_39 σ = some (v, σ')) : W_X12_street_39 X l D σ (some (.int v)) σ' := by
  unfold F_X12_street_39 at h
  unfold W_X12_street_39
  obtain ⟨v31, σ27, q1, h⟩ := of_bd h
  have hC2 := f_X12_told (σ := σ) hs  q1 (X := X) (l := l)
  have hs3 := hC2.1.2.2.2.1 hs
  refine ⟨0, v31, σ27, (Nat.le_trans (by decide) hD), hC2, ?_⟩
  exact ret_i h
set_option maxRecDepth 100000 in
theorem t_X12_street_0 {X : Sx} {l : Launch} {D : Nat} {x1 : Int32} {x2 : Int32} {x3 : Int32} {x4 : Int32} {x5 : Int32} {σ : AH} {v : Int32} {σ' : AH} (hD : 3 ≤ D) (hs : Sh σ) (h : F_X12_street x1 x2 x3 x4 x5 σ = some (v, σ')) : W_X12_street_0 X l D x1 x2 x3 x4 x5 σ (some (.int v)) σ' := by
  unfold F_X12_street at h
  unfold W_X12_street_0
  obtain ⟨v6, σ2, q1, h⟩ := of_bd h
  have hC2 := f_X12_isTarget (σ := (sI σ 124 0 (0 : Int32))) hs  q1 (X := X) (l := l)
  have hs3 := hC2.1.2.2.2.1 hs
  refine ⟨2, v6, σ2, (Nat.le_trans (by decide) hD), hC2, ?_⟩
  refine ite_i (fun c4 => ?_) (fun c4 => ?_)
  · replace h := of_ifp h c4
    exact t_X12_street_39 hD  hs3  h
  · replace h := of_ifn h c4
    obtain ⟨v12, σ8, q5, h⟩ := of_bd h
    have hC6 := f_X12_in (σ := σ2) hs3  q5 (X := X) (l := l)
    have hs7 := hC6.1.2.2.2.1 hs3
    refine ⟨0, v12, σ8, (Nat.le_trans (by decide) hD), hC6, ?_⟩
    refine ite_i (fun c8 => ?_) (fun c8 => ?_)
    · replace h := of_ifp h c8
      exact t_X12_street_39 hD  hs7  h
    · replace h := of_ifn h c8
      obtain ⟨v18, σ14, q9, h⟩ := of_bd h
      have hC10 := f_X12_in (σ := σ8) hs7  q9 (X := X) (l := l)
      have hs11 := hC10.1.2.2.2.1 hs7
      refine ⟨0, v18, σ14, (Nat.le_trans (by decide) hD), hC10, ?_⟩
      refine ite_i (fun c12 => ?_) (fun c12 => ?_)
      · replace h := of_ifp h c12
        exact t_X12_street_39 hD  hs11  h
      · replace h := of_ifn h c12
        obtain ⟨g13, h⟩ := of_gd h
        refine ⟨(inB_mp g13), ?_⟩
        obtain ⟨v25, σ21, q14, h⟩ := of_bd h
        have hC15 := f_X12_told (σ := (sI σ14 125 (((x1 + ((((20 : Int32) * x2) + x3) * (20 : Int32))) + x4).toNatClampNeg) (x5 + (1 : Int32)))) hs11  q14 (X := X) (l := l)
        have hs16 := hC15.1.2.2.2.1 hs11
        refine ⟨0, v25, σ21, (Nat.le_trans (by decide) hD), hC15, ?_⟩
        exact ret_i h
theorem f_X12_street {X : Sx} {l : Launch} {x1 : Int32} {x2 : Int32} {x3 : Int32} {x4 : Int32} {x5 : Int32} {σ : AH} {v : Int32} {σ' : AH} (hs : Sh σ) (h : F_X12_street x1 x2 x3 x4 x5 σ = some (v, σ')) : Call X l m_X12_street 3 [.ref 124, .int x1, .int x2, .int x3, .int x4, .int x5] σ (some (.int v)) σ' :=
  Call.ofE ok_X12_street rfl (Nat.le_of_ble_eq_true rfl) (w_X12_street_0 hs  (t_X12_street_0 (Nat.le_refl _) hs  h))
def F_X12_claim (x1 : Int32) (x2 : Int32) (x3 : Int32) (x4 : Int32) (σ : AH) : Option (Int32 × AH) := (bd (F_X12_street (24712 : Int32) x1 x2 x3 x4 σ) fun v6 σ2 => (some (v6, σ2)))
set_option maxRecDepth 100000 in
theorem t_X12_claim_0 {X : Sx} {l : Launch} {D : Nat} {x1 : Int32} {x2 : Int32} {x3 : Int32} {x4 : Int32} {σ : AH} {v : Int32} {σ' : AH} (hD : 4 ≤ D) (hs : Sh σ) (h : F_X12_claim x1 x2 x3 x4 σ = some (v, σ')) : W_X12_claim_0 X l D x1 x2 x3 x4 σ (some (.int v)) σ' := by
  unfold F_X12_claim at h
  unfold W_X12_claim_0
  obtain ⟨v6, σ2, q1, h⟩ := of_bd h
  have hC2 := f_X12_street (σ := σ) hs  q1 (X := X) (l := l)
  have hs3 := hC2.1.2.2.2.1 hs
  refine ⟨3, v6, σ2, (Nat.le_trans (by decide) hD), hC2, ?_⟩
  exact ret_i h
theorem f_X12_claim {X : Sx} {l : Launch} {x1 : Int32} {x2 : Int32} {x3 : Int32} {x4 : Int32} {σ : AH} {v : Int32} {σ' : AH} (hs : Sh σ) (h : F_X12_claim x1 x2 x3 x4 σ = some (v, σ')) : Call X l m_X12_claim 4 [.ref 124, .int x1, .int x2, .int x3, .int x4] σ (some (.int v)) σ' :=
  Call.ofE ok_X12_claim rfl (Nat.le_of_ble_eq_true rfl) (w_X12_claim_0 hs  (t_X12_claim_0 (Nat.le_refl _) hs  h))
def F_X12_look (x1 : Int32) (x2 : Int32) (x3 : Int32) (x4 : Int32) (σ : AH) : Option (Int32 × AH) := (bd (F_X12_street (27112 : Int32) x1 x2 x3 x4 σ) fun v6 σ2 => (some (v6, σ2)))
set_option maxRecDepth 100000 in
theorem t_X12_look_0 {X : Sx} {l : Launch} {D : Nat} {x1 : Int32} {x2 : Int32} {x3 : Int32} {x4 : Int32} {σ : AH} {v : Int32} {σ' : AH} (hD : 4 ≤ D) (hs : Sh σ) (h : F_X12_look x1 x2 x3 x4 σ = some (v, σ')) : W_X12_look_0 X l D x1 x2 x3 x4 σ (some (.int v)) σ' := by
  unfold F_X12_look at h
  unfold W_X12_look_0
  obtain ⟨v6, σ2, q1, h⟩ := of_bd h
  have hC2 := f_X12_street (σ := σ) hs  q1 (X := X) (l := l)
  have hs3 := hC2.1.2.2.2.1 hs
  refine ⟨3, v6, σ2, (Nat.le_trans (by decide) hD), hC2, ?_⟩
  exact ret_i h
theorem f_X12_look {X : Sx} {l : Launch} {x1 : Int32} {x2 : Int32} {x3 : Int32} {x4 : Int32} {σ : AH} {v : Int32} {σ' : AH} (hs : Sh σ) (h : F_X12_look x1 x2 x3 x4 σ = some (v, σ')) : Call X l m_X12_look 4 [.ref 124, .int x1, .int x2, .int x3, .int x4] σ (some (.int v)) σ' :=
  Call.ofE ok_X12_look rfl (Nat.le_of_ble_eq_true rfl) (w_X12_look_0 hs  (t_X12_look_0 (Nat.le_refl _) hs  h))
def F_X12_truth_223 (σ : AH) : Option (Int32 × AH) := (some ((0 : Int32), σ))
def F_X12_truth_145 (k_X12_truth_39 : Int32 → Int32 → Int32 → Int32 → Int32 → Int32 → Int32 → AH → Option (Int32 × AH)) (x1 : Int32) (x2 : Int32) (x3 : Int32) (x4 : Int32) (x6 : Int32) (x7 : Int32) (y0 : Int32) (y1 : Int32) (σ : AH) : Option (Int32 × AH) := (k_X12_truth_39 x1 x2 x3 x4 (y1 + y0) x6 (x7 + 1) σ)
def F_X12_truth_128 (k_X12_truth_39 : Int32 → Int32 → Int32 → Int32 → Int32 → Int32 → Int32 → AH → Option (Int32 × AH)) (x1 : Int32) (x2 : Int32) (x3 : Int32) (x5 : Int32) (x6 : Int32) (x7 : Int32) (x9 : Int32) (x10 : Int32) (y0 : Int32) (y1 : Int32) (σ : AH) : Option (Int32 × AH) := (if 0 ≤ x10 then (F_X12_truth_145 k_X12_truth_39 x1 x2 x3 (y1 + y0) x6 x7 x10 x5 σ) else (F_X12_truth_145 k_X12_truth_39 x1 x2 x3 (y1 + y0) x6 x7 x9 x5 σ))
def F_X12_truth_91 (k_X12_truth_39 : Int32 → Int32 → Int32 → Int32 → Int32 → Int32 → Int32 → AH → Option (Int32 × AH)) (x1 : Int32) (x2 : Int32) (x3 : Int32) (x4 : Int32) (x5 : Int32) (x6 : Int32) (x7 : Int32) (x8 : Int32) (y0 : Int32) (σ : AH) : Option (Int32 × AH) := (if inB ((27112 : Int32) + x8) 269832 = true then (if 0 ≤ ((gI σ 125 ((27112 : Int32) + x8).toNatClampNeg) - (1 : Int32)) then (F_X12_truth_128 k_X12_truth_39 x1 x2 x3 x5 (x6 + y0) x7 y0 ((gI σ 125 ((27112 : Int32) + x8).toNatClampNeg) - (1 : Int32)) ((gI σ 125 ((27112 : Int32) + x8).toNatClampNeg) - (1 : Int32)) x4 σ) else (F_X12_truth_128 k_X12_truth_39 x1 x2 x3 x5 (x6 + y0) x7 y0 ((gI σ 125 ((27112 : Int32) + x8).toNatClampNeg) - (1 : Int32)) (0 : Int32) x4 σ)) else none)
def B_X12_truth_39 (k_X12_truth_39 : Int32 → Int32 → Int32 → Int32 → Int32 → Int32 → Int32 → AH → Option (Int32 × AH)) (x1 : Int32) (x2 : Int32) (x3 : Int32) (x4 : Int32) (x5 : Int32) (x6 : Int32) (x7 : Int32) (σ : AH) : Option (Int32 × AH) := (if (20 : Int32) ≤ x7 then (if inB (((24592 : Int32) + ((20 : Int32) * x1)) + x2) 269832 = true then (if x3 = 0 then (some (x4, σ)) else (if x3 = (1 : Int32) then (some (x5, σ)) else (if x3 = (2 : Int32) then (some (x6, σ)) else (if x3 = (3 : Int32) then (if ((gI σ 125 (((24592 : Int32) + ((20 : Int32) * x1)) + x2).toNatClampNeg) - (1 : Int32)) < 0 then (F_X12_truth_223 σ) else (if x4 < ((gI σ 125 (((24592 : Int32) + ((20 : Int32) * x1)) + x2).toNatClampNeg) - (1 : Int32)) then (F_X12_truth_223 σ) else (some ((1 : Int32), σ)))) else (if x6 ≤ x5 then (some ((0 : Int32), σ)) else (some ((1 : Int32), σ))))))) else none) else (if inB ((24712 : Int32) + (((((20 : Int32) * x1) + x2) * (20 : Int32)) + x7)) 269832 = true then (if (gI σ 125 ((24712 : Int32) + (((((20 : Int32) * x1) + x2) * (20 : Int32)) + x7)).toNatClampNeg) = 0 then (F_X12_truth_91 k_X12_truth_39 x1 x2 x3 x4 x5 x6 x7 (((((20 : Int32) * x1) + x2) * (20 : Int32)) + x7) (0 : Int32) σ) else (if inB ((24712 : Int32) + (((((20 : Int32) * x1) + x2) * (20 : Int32)) + x7)) 269832 = true then (F_X12_truth_91 k_X12_truth_39 x1 x2 x3 x4 x5 x6 x7 (((((20 : Int32) * x1) + x2) * (20 : Int32)) + x7) ((gI σ 125 ((24712 : Int32) + (((((20 : Int32) * x1) + x2) * (20 : Int32)) + x7)).toNatClampNeg) - (1 : Int32)) σ) else none)) else none))
def F_X12_truth_39 : Nat → Int32 → Int32 → Int32 → Int32 → Int32 → Int32 → Int32 → AH → Option (Int32 × AH) := fun k => match k with | 0 => fun _ _ _ _ _ _ _ _ => none | k + 1 => B_X12_truth_39 (F_X12_truth_39 k)
def F_X12_truth (x1 : Int32) (x2 : Int32) (x3 : Int32) (σ : AH) : Option (Int32 × AH) := (bd (F_X12_isTarget x1 x2 (sI σ 124 0 (0 : Int32))) fun v6 σ2 => (if v6 = 0 then (some ((-1 : Int32), σ2)) else (bd (F_X12_in (x3).toInt64 (0 : Int64) (4 : Int64) σ2) fun v12 σ8 => (if v12 = 0 then (some ((-1 : Int32), σ8)) else (F_X12_truth_39 BIG x1 x2 x3 (0 : Int32) (0 : Int32) (0 : Int32) (0 : Int32) σ8)))))
set_option maxRecDepth 100000 in
theorem t_X12_truth_223 {X : Sx} {l : Launch} {D : Nat} {σ : AH} {v : Int32} {σ' : AH} (hD : 3 ≤ D) (hs : Sh σ) (h : F_X12_truth_223 σ = some (v, σ')) : W_X12_truth_223 X l D σ (some (.int v)) σ' := by
  unfold F_X12_truth_223 at h
  unfold W_X12_truth_223
  exact ret_i h
set_option maxRecDepth 100000 in
theorem t_X12_truth_145 {X : Sx} {l : Launch} {D : Nat} {k_X12_truth_39 : Int32 → Int32 → Int32 → Int32 → Int32 → Int32 → Int32 → AH → Option (Int32 × AH)} {x1 : Int32} {x2 : Int32} {x3 : Int32} {x4 : Int32} {x6 : Int32} {x7 : Int32} {y0 : Int32} {y1 : Int32} {σ : AH} {v : Int32} {σ' : AH} (hD : 3 ≤ D) (hk_X12_truth_39 : ∀ (x1 : Int32) (x2 : Int32) (x3 : Int32) (x4 : Int32) (x5 : Int32) (x6 : Int32) (x7 : Int32) (σ : AH) (v : Int32) (σ' : AH), Sh σ → k_X12_truth_39 x1 x2 x3 x4 x5 x6 x7 σ = some (v, σ') → E X l m_X12_truth D 39 [(0, .ref 124), (1, .int x1), (2, .int x2), (3, .int x3), (4, .int x4), (5, .int x5), (6, .int x6), (7, .int x7)] [] σ (some (.int v)) σ') (hs : Sh σ) (h : F_X12_truth_145 k_X12_truth_39 x1 x2 x3 x4 x6 x7 y0 y1 σ = some (v, σ')) : W_X12_truth_145 X l D x1 x2 x3 x4 x6 x7 y0 y1 σ (some (.int v)) σ' := by
  unfold F_X12_truth_145 at h
  unfold W_X12_truth_145
  exact hk_X12_truth_39 _ _ _ _ _ _ _ _ _ _ hs  h
set_option maxRecDepth 100000 in
theorem t_X12_truth_128 {X : Sx} {l : Launch} {D : Nat} {k_X12_truth_39 : Int32 → Int32 → Int32 → Int32 → Int32 → Int32 → Int32 → AH → Option (Int32 × AH)} {x1 : Int32} {x2 : Int32} {x3 : Int32} {x5 : Int32} {x6 : Int32} {x7 : Int32} {x9 : Int32} {x10 : Int32} {y0 : Int32} {y1 : Int32} {σ : AH} {v : Int32} {σ' : AH} (hD : 3 ≤ D) (hk_X12_truth_39 : ∀ (x1 : Int32) (x2 : Int32) (x3 : Int32) (x4 : Int32) (x5 : Int32) (x6 : Int32) (x7 : Int32) (σ : AH) (v : Int32) (σ' : AH), Sh σ → k_X12_truth_39 x1 x2 x3 x4 x5 x6 x7 σ = some (v, σ') → E X l m_X12_truth D 39 [(0, .ref 124), (1, .int x1), (2, .int x2), (3, .int x3), (4, .int x4), (5, .int x5), (6, .int x6), (7, .int x7)] [] σ (some (.int v)) σ') (hs : Sh σ) (h : F_X12_truth_128 k_X12_truth_39 x1 x2 x3 x5 x6 x7 x9 x10 y0 y1 σ = some (v, σ')) : W_X12_truth_128 X l D x1 x2 x3 x5 x6 x7 x9 x10 y0 y1 σ (some (.int v)) σ' := by
  unfold F_X12_truth_128 at h
  unfold W_X12_truth_128
  refine ite_i (fun c1 => ?_) (fun c1 => ?_)
  · replace h := of_ifp h c1
    exact t_X12_truth_145 hD hk_X12_truth_39 hs  h
  · replace h := of_ifn h c1
    exact t_X12_truth_145 hD hk_X12_truth_39 hs  h
set_option maxRecDepth 100000 in
theorem t_X12_truth_91 {X : Sx} {l : Launch} {D : Nat} {k_X12_truth_39 : Int32 → Int32 → Int32 → Int32 → Int32 → Int32 → Int32 → AH → Option (Int32 × AH)} {x1 : Int32} {x2 : Int32} {x3 : Int32} {x4 : Int32} {x5 : Int32} {x6 : Int32} {x7 : Int32} {x8 : Int32} {y0 : Int32} {σ : AH} {v : Int32} {σ' : AH} (hD : 3 ≤ D) (hk_X12_truth_39 : ∀ (x1 : Int32) (x2 : Int32) (x3 : Int32) (x4 : Int32) (x5 : Int32) (x6 : Int32) (x7 : Int32) (σ : AH) (v : Int32) (σ' : AH), Sh σ → k_X12_truth_39 x1 x2 x3 x4 x5 x6 x7 σ = some (v, σ') → E X l m_X12_truth D 39 [(0, .ref 124), (1, .int x1), (2, .int x2), (3, .int x3), (4, .int x4), (5, .int x5), (6, .int x6), (7, .int x7)] [] σ (some (.int v)) σ') (hs : Sh σ) (h : F_X12_truth_91 k_X12_truth_39 x1 x2 x3 x4 x5 x6 x7 x8 y0 σ = some (v, σ')) : W_X12_truth_91 X l D x1 x2 x3 x4 x5 x6 x7 x8 y0 σ (some (.int v)) σ' := by
  unfold F_X12_truth_91 at h
  unfold W_X12_truth_91
  obtain ⟨g1, h⟩ := of_gd h
  refine ⟨(inB_mp g1), ?_⟩
  refine ite_i (fun c2 => ?_) (fun c2 => ?_)
  · replace h := of_ifp h c2
    exact t_X12_truth_128 hD hk_X12_truth_39 hs  h
  · replace h := of_ifn h c2
    exact t_X12_truth_128 hD hk_X12_truth_39 hs  h
set_option maxRecDepth 100000 in
theorem t_X12_truth_39 {X : Sx} {l : Launch} {D : Nat} {k_X12_truth_39 : Int32 → Int32 → Int32 → Int32 → Int32 → Int32 → Int32 → AH → Option (Int32 × AH)} {x1 : Int32} {x2 : Int32} {x3 : Int32} {x4 : Int32} {x5 : Int32} {x6 : Int32} {x7 : Int32} {σ : AH} {v : Int32} {σ' : AH} (hD : 3 ≤ D) (hk_X12_truth_39 : ∀ (x1 : Int32) (x2 : Int32) (x3 : Int32) (x4 : Int32) (x5 : Int32) (x6 : Int32) (x7 : Int32) (σ : AH) (v : Int32) (σ' : AH), Sh σ → k_X12_truth_39 x1 x2 x3 x4 x5 x6 x7 σ = some (v, σ') → E X l m_X12_truth D 39 [(0, .ref 124), (1, .int x1), (2, .int x2), (3, .int x3), (4, .int x4), (5, .int x5), (6, .int x6), (7, .int x7)] [] σ (some (.int v)) σ') (hs : Sh σ) (h : B_X12_truth_39 k_X12_truth_39 x1 x2 x3 x4 x5 x6 x7 σ = some (v, σ')) : W_X12_truth_39 X l D x1 x2 x3 x4 x5 x6 x7 σ (some (.int v)) σ' := by
  unfold B_X12_truth_39 at h
  unfold W_X12_truth_39
  refine ite_i (fun c1 => ?_) (fun c1 => ?_)
  · replace h := of_ifp h c1
    obtain ⟨g2, h⟩ := of_gd h
    refine ⟨(inB_mp g2), ?_⟩
    refine ite_i (fun c3 => ?_) (fun c3 => ?_)
    · replace h := of_ifp h c3
      exact ret_i h
    · replace h := of_ifn h c3
      refine ite_i (fun c4 => ?_) (fun c4 => ?_)
      · replace h := of_ifp h c4
        exact ret_i h
      · replace h := of_ifn h c4
        refine ite_i (fun c5 => ?_) (fun c5 => ?_)
        · replace h := of_ifp h c5
          exact ret_i h
        · replace h := of_ifn h c5
          refine ite_i (fun c6 => ?_) (fun c6 => ?_)
          · replace h := of_ifp h c6
            refine ite_i (fun c7 => ?_) (fun c7 => ?_)
            · replace h := of_ifp h c7
              exact t_X12_truth_223 hD  hs  h
            · replace h := of_ifn h c7
              refine ite_i (fun c8 => ?_) (fun c8 => ?_)
              · replace h := of_ifp h c8
                exact t_X12_truth_223 hD  hs  h
              · replace h := of_ifn h c8
                exact ret_i h
          · replace h := of_ifn h c6
            refine ite_i (fun c9 => ?_) (fun c9 => ?_)
            · replace h := of_ifp h c9
              exact ret_i h
            · replace h := of_ifn h c9
              exact ret_i h
  · replace h := of_ifn h c1
    obtain ⟨g10, h⟩ := of_gd h
    refine ⟨(inB_mp g10), ?_⟩
    refine ite_i (fun c11 => ?_) (fun c11 => ?_)
    · replace h := of_ifp h c11
      exact t_X12_truth_91 hD hk_X12_truth_39 hs  h
    · replace h := of_ifn h c11
      obtain ⟨g12, h⟩ := of_gd h
      refine ⟨(inB_mp g12), ?_⟩
      exact t_X12_truth_91 hD hk_X12_truth_39 hs  h
theorem e_X12_truth_39 {X : Sx} {l : Launch} {D : Nat} (hD : 3 ≤ D) : ∀ (k : Nat) (x1 : Int32) (x2 : Int32) (x3 : Int32) (x4 : Int32) (x5 : Int32) (x6 : Int32) (x7 : Int32) (σ : AH) (v : Int32) (σ' : AH), Sh σ → F_X12_truth_39 k x1 x2 x3 x4 x5 x6 x7 σ = some (v, σ') → E X l m_X12_truth D 39 [(0, .ref 124), (1, .int x1), (2, .int x2), (3, .int x3), (4, .int x4), (5, .int x5), (6, .int x6), (7, .int x7)] [] σ (some (.int v)) σ' := by
  intro k
  induction k with
  | zero => intro x1 x2 x3 x4 x5 x6 x7 σ v σ' hs h; cases h
  | succ k ih =>
    intro x1 x2 x3 x4 x5 x6 x7 σ v σ' hs h
    exact w_X12_truth_39 hs  (t_X12_truth_39 hD ih hs  h)
set_option maxRecDepth 100000 in
theorem t_X12_truth_0 {X : Sx} {l : Launch} {D : Nat} {x1 : Int32} {x2 : Int32} {x3 : Int32} {σ : AH} {v : Int32} {σ' : AH} (hD : 3 ≤ D) (hs : Sh σ) (h : F_X12_truth x1 x2 x3 σ = some (v, σ')) : W_X12_truth_0 X l D x1 x2 x3 σ (some (.int v)) σ' := by
  unfold F_X12_truth at h
  unfold W_X12_truth_0
  obtain ⟨v6, σ2, q1, h⟩ := of_bd h
  have hC2 := f_X12_isTarget (σ := (sI σ 124 0 (0 : Int32))) hs  q1 (X := X) (l := l)
  have hs3 := hC2.1.2.2.2.1 hs
  refine ⟨2, v6, σ2, (Nat.le_trans (by decide) hD), hC2, ?_⟩
  refine ite_i (fun c4 => ?_) (fun c4 => ?_)
  · replace h := of_ifp h c4
    exact ret_i h
  · replace h := of_ifn h c4
    obtain ⟨v12, σ8, q5, h⟩ := of_bd h
    have hC6 := f_X12_in (σ := σ2) hs3  q5 (X := X) (l := l)
    have hs7 := hC6.1.2.2.2.1 hs3
    refine ⟨0, v12, σ8, (Nat.le_trans (by decide) hD), hC6, ?_⟩
    refine ite_i (fun c8 => ?_) (fun c8 => ?_)
    · replace h := of_ifp h c8
      exact ret_i h
    · replace h := of_ifn h c8
      exact e_X12_truth_39 hD  _ _ _ _ _ _ _ _ _ _ _ hs7  h
theorem f_X12_truth {X : Sx} {l : Launch} {x1 : Int32} {x2 : Int32} {x3 : Int32} {σ : AH} {v : Int32} {σ' : AH} (hs : Sh σ) (h : F_X12_truth x1 x2 x3 σ = some (v, σ')) : Call X l m_X12_truth 3 [.ref 124, .int x1, .int x2, .int x3] σ (some (.int v)) σ' :=
  Call.ofE ok_X12_truth rfl (Nat.le_of_ble_eq_true rfl) (w_X12_truth_0 hs  (t_X12_truth_0 (Nat.le_refl _) hs  h))
def F_X12_count (x1 : Int32) (σ : AH) : Option (Int32 × AH) := (if x1 = 0 then (some ((gI (sI σ 124 0 (0 : Int32)) 125 0), (sI σ 124 0 (0 : Int32)))) else (if x1 = 1 then (some ((gI (sI σ 124 0 (0 : Int32)) 125 1), (sI σ 124 0 (0 : Int32)))) else (if x1 = 2 then (some ((gI (sI σ 124 0 (0 : Int32)) 125 2), (sI σ 124 0 (0 : Int32)))) else (if x1 = 3 then (some ((gI (sI σ 124 0 (0 : Int32)) 125 4), (sI σ 124 0 (0 : Int32)))) else (if x1 = 4 then (some ((gI (sI σ 124 0 (0 : Int32)) 125 5), (sI σ 124 0 (0 : Int32)))) else (if x1 = 5 then (some ((gI (sI σ 124 0 (0 : Int32)) 124 48), (sI σ 124 0 (0 : Int32)))) else (if x1 = 6 then (some ((gI (sI σ 124 0 (0 : Int32)) 125 6), (sI σ 124 0 (0 : Int32)))) else (if x1 = 7 then (some ((gI (sI σ 124 0 (0 : Int32)) 125 11), (sI σ 124 0 (0 : Int32)))) else (if x1 = 8 then (some ((gI (sI σ 124 0 (0 : Int32)) 125 8), (sI σ 124 0 (0 : Int32)))) else (if x1 = 9 then (some ((gI (sI σ 124 0 (0 : Int32)) 124 6), (sI σ 124 0 (0 : Int32)))) else (some ((-1 : Int32), (sI σ 124 0 (0 : Int32))))))))))))))
set_option maxRecDepth 100000 in
theorem t_X12_count_0 {X : Sx} {l : Launch} {D : Nat} {x1 : Int32} {σ : AH} {v : Int32} {σ' : AH} (hD : 0 ≤ D) (hs : Sh σ) (h : F_X12_count x1 σ = some (v, σ')) : W_X12_count_0 X l D x1 σ (some (.int v)) σ' := by
  unfold F_X12_count at h
  unfold W_X12_count_0
  refine ite_i (fun c1 => ?_) (fun c1 => ?_)
  · replace h := of_ifp h c1
    exact ret_i h
  · replace h := of_ifn h c1
    refine ite_i (fun c2 => ?_) (fun c2 => ?_)
    · replace h := of_ifp h c2
      exact ret_i h
    · replace h := of_ifn h c2
      refine ite_i (fun c3 => ?_) (fun c3 => ?_)
      · replace h := of_ifp h c3
        exact ret_i h
      · replace h := of_ifn h c3
        refine ite_i (fun c4 => ?_) (fun c4 => ?_)
        · replace h := of_ifp h c4
          exact ret_i h
        · replace h := of_ifn h c4
          refine ite_i (fun c5 => ?_) (fun c5 => ?_)
          · replace h := of_ifp h c5
            exact ret_i h
          · replace h := of_ifn h c5
            refine ite_i (fun c6 => ?_) (fun c6 => ?_)
            · replace h := of_ifp h c6
              exact ret_i h
            · replace h := of_ifn h c6
              refine ite_i (fun c7 => ?_) (fun c7 => ?_)
              · replace h := of_ifp h c7
                exact ret_i h
              · replace h := of_ifn h c7
                refine ite_i (fun c8 => ?_) (fun c8 => ?_)
                · replace h := of_ifp h c8
                  exact ret_i h
                · replace h := of_ifn h c8
                  refine ite_i (fun c9 => ?_) (fun c9 => ?_)
                  · replace h := of_ifp h c9
                    exact ret_i h
                  · replace h := of_ifn h c9
                    refine ite_i (fun c10 => ?_) (fun c10 => ?_)
                    · replace h := of_ifp h c10
                      exact ret_i h
                    · replace h := of_ifn h c10
                      exact ret_i h
theorem f_X12_count {X : Sx} {l : Launch} {x1 : Int32} {σ : AH} {v : Int32} {σ' : AH} (hs : Sh σ) (h : F_X12_count x1 σ = some (v, σ')) : Call X l m_X12_count 0 [.ref 124, .int x1] σ (some (.int v)) σ' :=
  Call.ofE ok_X12_count rfl (Nat.le_of_ble_eq_true rfl) (w_X12_count_0 hs  (t_X12_count_0 (Nat.le_refl _) hs  h))
def F_X12_status (σ : AH) : Option (Int32 × AH) := (some ((gI (sI σ 124 0 (0 : Int32)) 124 1), (sI σ 124 0 (0 : Int32))))
set_option maxRecDepth 100000 in
theorem t_X12_status_0 {X : Sx} {l : Launch} {D : Nat} {σ : AH} {v : Int32} {σ' : AH} (hD : 0 ≤ D) (hs : Sh σ) (h : F_X12_status σ = some (v, σ')) : W_X12_status_0 X l D σ (some (.int v)) σ' := by
  unfold F_X12_status at h
  unfold W_X12_status_0
  exact ret_i h
theorem f_X12_status {X : Sx} {l : Launch} {σ : AH} {v : Int32} {σ' : AH} (hs : Sh σ) (h : F_X12_status σ = some (v, σ')) : Call X l m_X12_status 0 [.ref 124] σ (some (.int v)) σ' :=
  Call.ofE ok_X12_status rfl (Nat.le_of_ble_eq_true rfl) (w_X12_status_0 hs  (t_X12_status_0 (Nat.le_refl _) hs  h))
end
