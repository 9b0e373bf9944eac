section
def F_X12_needOf_95 (x6 : Int32) (σ : AH) : Option (Int32 × AH) := (if inB x6 84240 = true then (some ((gI σ 138 x6.toNatClampNeg), σ)) else none)
def F_X12_needOf_94 (x6 : Int32) (y0 : Int32) (y1 : Int32) (σ : AH) : Option (Int32 × AH) := (if inB y1 84240 = true then (F_X12_needOf_95 x6 (sI σ 138 y1.toNatClampNeg y0)) else none)
def F_X12_needOf_73 (x6 : Int32) (y0 : Int32) (σ : AH) : Option (Int32 × AH) := (if y0 = 0 then (F_X12_needOf_94 x6 (0 : Int32) x6 σ) else (bd (F_X12_atLeastNought σ) fun v25 σ21 => (F_X12_needOf_94 x6 v25 x6 σ21)))
def F_X12_needOf (x1 : Int32) (x2 : Int32) (x3 : Int32) (x4 : Int32) (x5 : Int32) (σ : AH) : Option (Int32 × AH) := (if inB (((((((((x5 * (3 : Int32)) + x1) * (3 : Int32)) + x2) * (6 : Int32)) + x3) * (6 : Int32)) + x4) - (1 : Int32)) 84240 = true then (if (gI σ 138 (((((((((x5 * (3 : Int32)) + x1) * (3 : Int32)) + x2) * (6 : Int32)) + x3) * (6 : Int32)) + x4) - (1 : Int32)).toNatClampNeg) = (-2 : Int32) then (bv (F_X12_setOnly x4 x5 σ) fun σ3 => (if (5 : Int32) ≤ x3 then (bd (F_X12_find (2 : Int32) x1 x2 (0 : Int32) x5 σ3) fun v12 σ8 => (F_X12_needOf_73 (((((((((x5 * (3 : Int32)) + x1) * (3 : Int32)) + x2) * (6 : Int32)) + x3) * (6 : Int32)) + x4) - (1 : Int32)) v12 σ8)) else (bd (F_X12_find (1 : Int32) x1 x2 x3 x5 σ3) fun v18 σ14 => (F_X12_needOf_73 (((((((((x5 * (3 : Int32)) + x1) * (3 : Int32)) + x2) * (6 : Int32)) + x3) * (6 : Int32)) + x4) - (1 : Int32)) v18 σ14)))) else (F_X12_needOf_95 (((((((((x5 * (3 : Int32)) + x1) * (3 : Int32)) + x2) * (6 : Int32)) + x3) * (6 : Int32)) + x4) - (1 : Int32)) σ)) else none)
set_option maxRecDepth 100000 in
theorem t_X12_needOf_95 {X : Sx} {l : Launch} {D : Nat} {x6 : Int32} {σ : AH} {v : Int32} {σ' : AH} (hD : 5 ≤ D) (hs : Sh σ) (h : F_X12_needOf_95 x6 σ = some (v, σ')) : W_X12_needOf_95 X l D x6 σ (some (.int v)) σ' := by
  unfold F_X12_needOf_95 at h
  unfold W_X12_needOf_95
  obtain ⟨g1, h⟩ := of_gd h
  refine ⟨(inB_mp g1), ?_⟩
  exact ret_i h
set_option maxRecDepth 100000 in
theorem t_X12_needOf_94 {X : Sx} {l : Launch} {D : Nat} {x6 : Int32} {y0 : Int32} {y1 : Int32} {σ : AH} {v : Int32} {σ' : AH} (hD : 5 ≤ D) (hs : Sh σ) (h : F_X12_needOf_94 x6 y0 y1 σ = some (v, σ')) : W_X12_needOf_94 X l D x6 y0 y1 σ (some (.int v)) σ' := by
  unfold F_X12_needOf_94 at h
  unfold W_X12_needOf_94
  obtain ⟨g1, h⟩ := of_gd h
  refine ⟨(inB_mp g1), ?_⟩
  exact t_X12_needOf_95 hD  hs  h
set_option maxRecDepth 100000 in
theorem t_X12_needOf_73 {X : Sx} {l : Launch} {D : Nat} {x6 : Int32} {y0 : Int32} {σ : AH} {v : Int32} {σ' : AH} (hD : 5 ≤ D) (hs : Sh σ) (h : F_X12_needOf_73 x6 y0 σ = some (v, σ')) : W_X12_needOf_73 X l D x6 y0 σ (some (.int v)) σ' := by
  unfold F_X12_needOf_73 at h
  unfold W_X12_needOf_73
  refine ite_i (fun c1 => ?_) (fun c1 => ?_)
  · replace h := of_ifp h c1
    exact t_X12_needOf_94 hD  hs  h
  · replace h := of_ifn h c1
    obtain ⟨v25, σ21, q2, h⟩ := of_bd h
    have hC3 := f_X12_atLeastNought (σ := σ) hs  q2 (X := X) (l := l)
    have hs4 := hC3.1.2.2.2.1 hs
    refine ⟨0, v25, σ21, (Nat.le_trans (by decide) hD), hC3, ?_⟩
    exact t_X12_needOf_94 hD  hs4  h
set_option maxRecDepth 100000 in
theorem t_X12_needOf_0 {X : Sx} {l : Launch} {D : Nat} {x1 : Int32} {x2 : Int32} {x3 : Int32} {x4 : Int32} {x5 : Int32} {σ : AH} {v : Int32} {σ' : AH} (hD : 5 ≤ D) (hs : Sh σ) (h : F_X12_needOf x1 x2 x3 x4 x5 σ = some (v, σ')) : W_X12_needOf_0 X l D x1 x2 x3 x4 x5 σ (some (.int v)) σ' := by
  unfold F_X12_needOf at h
  unfold W_X12_needOf_0
  obtain ⟨g1, h⟩ := of_gd h
  refine ⟨(inB_mp g1), ?_⟩
  refine ite_i (fun c2 => ?_) (fun c2 => ?_)
  · replace h := of_ifp h c2
    obtain ⟨σ3, q3, h⟩ := of_bv h
    have hC4 := f_X12_setOnly (σ := σ) hs  q3 (X := X) (l := l)
    have hs5 := hC4.1.2.2.2.1 hs
    refine ⟨0, σ3, (Nat.le_trans (by decide) hD), hC4, ?_⟩
    refine ite_i (fun c6 => ?_) (fun c6 => ?_)
    · replace h := of_ifp h c6
      obtain ⟨v12, σ8, q7, h⟩ := of_bd h
      have hC8 := f_X12_find (σ := σ3) hs5  q7 (X := X) (l := l)
      have hs9 := hC8.1.2.2.2.1 hs5
      refine ⟨4, v12, σ8, (Nat.le_trans (by decide) hD), hC8, ?_⟩
      exact t_X12_needOf_73 hD  hs9  h
    · replace h := of_ifn h c6
      obtain ⟨v18, σ14, q10, h⟩ := of_bd h
      have hC11 := f_X12_find (σ := σ3) hs5  q10 (X := X) (l := l)
      have hs12 := hC11.1.2.2.2.1 hs5
      refine ⟨4, v18, σ14, (Nat.le_trans (by decide) hD), hC11, ?_⟩
      exact t_X12_needOf_73 hD  hs12  h
  · replace h := of_ifn h c2
    exact t_X12_needOf_95 hD  hs  h
theorem f_X12_needOf {X : Sx} {l : Launch} {x1 : Int32} {x2 : Int32} {x3 : Int32} {x4 : Int32} {x5 : Int32} {σ : AH} {v : Int32} {σ' : AH} (hs : Sh σ) (h : F_X12_needOf x1 x2 x3 x4 x5 σ = some (v, σ')) : Call X l m_X12_needOf 5 [.ref 124, .int x1, .int x2, .int x3, .int x4, .int x5] σ (some (.int v)) σ' :=
  Call.ofE ok_X12_needOf rfl (Nat.le_of_ble_eq_true rfl) (w_X12_needOf_0 hs  (t_X12_needOf_0 (Nat.le_refl _) hs  h))
def F_X12_firstOf_45 (x1 : Int32) (σ : AH) : Option (Int32 × AH) := (if inB x1 260 = true then (some ((gI σ 139 x1.toNatClampNeg), σ)) else none)
def F_X12_firstOf_44 (x1 : Int32) (y0 : Int32) (y1 : Int32) (σ : AH) : Option (Int32 × AH) := (if inB y1 260 = true then (F_X12_firstOf_45 x1 (sI σ 139 y1.toNatClampNeg y0)) else none)
def F_X12_firstOf (x1 : Int32) (σ : AH) : Option (Int32 × AH) := (if inB x1 260 = true then (if (gI σ 139 x1.toNatClampNeg) = (-2 : Int32) then (bv (F_X12_setOnly (0 : Int32) x1 σ) fun σ3 => (bd (F_X12_find (8 : Int32) (0 : Int32) (0 : Int32) (0 : Int32) x1 σ3) fun v12 σ8 => (if v12 = 0 then (F_X12_firstOf_44 x1 (-1 : Int32) x1 σ8) else (F_X12_firstOf_44 x1 (((gL σ8 124 31)).toInt32) x1 σ8)))) else (F_X12_firstOf_45 x1 σ)) else none)
set_option maxRecDepth 100000 in
theorem t_X12_firstOf_45 {X : Sx} {l : Launch} {D : Nat} {x1 : Int32} {σ : AH} {v : Int32} {σ' : AH} (hD : 5 ≤ D) (hs : Sh σ) (h : F_X12_firstOf_45 x1 σ = some (v, σ')) : W_X12_firstOf_45 X l D x1 σ (some (.int v)) σ' := by
  unfold F_X12_firstOf_45 at h
  unfold W_X12_firstOf_45
  obtain ⟨g1, h⟩ := of_gd h
  refine ⟨(inB_mp g1), ?_⟩
  exact ret_i h
set_option maxRecDepth 100000 in
theorem t_X12_firstOf_44 {X : Sx} {l : Launch} {D : Nat} {x1 : Int32} {y0 : Int32} {y1 : Int32} {σ : AH} {v : Int32} {σ' : AH} (hD : 5 ≤ D) (hs : Sh σ) (h : F_X12_firstOf_44 x1 y0 y1 σ = some (v, σ')) : W_X12_firstOf_44 X l D x1 y0 y1 σ (some (.int v)) σ' := by
  unfold F_X12_firstOf_44 at h
  unfold W_X12_firstOf_44
  obtain ⟨g1, h⟩ := of_gd h
  refine ⟨(inB_mp g1), ?_⟩
  exact t_X12_firstOf_45 hD  hs  h
set_option maxRecDepth 100000 in
theorem t_X12_firstOf_0 {X : Sx} {l : Launch} {D : Nat} {x1 : Int32} {σ : AH} {v : Int32} {σ' : AH} (hD : 5 ≤ D) (hs : Sh σ) (h : F_X12_firstOf x1 σ = some (v, σ')) : W_X12_firstOf_0 X l D x1 σ (some (.int v)) σ' := by
  unfold F_X12_firstOf at h
  unfold W_X12_firstOf_0
  obtain ⟨g1, h⟩ := of_gd h
  refine ⟨(inB_mp g1), ?_⟩
  refine ite_i (fun c2 => ?_) (fun c2 => ?_)
  · replace h := of_ifp h c2
    obtain ⟨σ3, q3, h⟩ := of_bv h
    have hC4 := f_X12_setOnly (σ := σ) hs  q3 (X := X) (l := l)
    have hs5 := hC4.1.2.2.2.1 hs
    refine ⟨0, σ3, (Nat.le_trans (by decide) hD), hC4, ?_⟩
    obtain ⟨v12, σ8, q6, h⟩ := of_bd h
    have hC7 := f_X12_find (σ := σ3) hs5  q6 (X := X) (l := l)
    have hs8 := hC7.1.2.2.2.1 hs5
    refine ⟨4, v12, σ8, (Nat.le_trans (by decide) hD), hC7, ?_⟩
    refine ite_i (fun c9 => ?_) (fun c9 => ?_)
    · replace h := of_ifp h c9
      exact t_X12_firstOf_44 hD  hs8  h
    · replace h := of_ifn h c9
      exact t_X12_firstOf_44 hD  hs8  h
  · replace h := of_ifn h c2
    exact t_X12_firstOf_45 hD  hs  h
theorem f_X12_firstOf {X : Sx} {l : Launch} {x1 : Int32} {σ : AH} {v : Int32} {σ' : AH} (hs : Sh σ) (h : F_X12_firstOf x1 σ = some (v, σ')) : Call X l m_X12_firstOf 5 [.ref 124, .int x1] σ (some (.int v)) σ' :=
  Call.ofE ok_X12_firstOf rfl (Nat.le_of_ble_eq_true rfl) (w_X12_firstOf_0 hs  (t_X12_firstOf_0 (Nat.le_refl _) hs  h))
def F_X12_need (x1 : Int32) (x2 : Int32) (x3 : Int32) (x4 : Int32) (x5 : Int32) (x6 : Int32) (σ : AH) : Option (Int32 × AH) := (bd (F_X12_in (x1).toInt64 (0 : Int64) (2 : Int64) (sI σ 124 0 (0 : Int32))) fun v6 σ2 => (if v6 = 0 then (some ((-1 : Int32), σ2)) else (bd (F_X12_in (x2).toInt64 (0 : Int64) (2 : Int64) σ2) fun v12 σ8 => (if v12 = 0 then (some ((-1 : Int32), σ8)) else (bd (F_X12_in (x3).toInt64 (0 : Int64) (5 : Int64) σ8) fun v18 σ14 => (if v18 = 0 then (some ((-1 : Int32), σ14)) else (bd (F_X12_in (x4).toInt64 (1 : Int64) (6 : Int64) σ14) fun v24 σ20 => (if v24 = 0 then (some ((-1 : Int32), σ20)) else (bd (F_X12_isWeek x5 σ20) fun v30 σ26 => (if v30 = 0 then (some ((-1 : Int32), σ26)) else (bd (F_X12_isWeek x6 σ26) fun v36 σ32 => (if v36 = 0 then (some ((-1 : Int32), σ32)) else (bv (F_X12_knowBy x6 σ32) fun σ38 => (bd (F_X12_needOf x1 x2 x3 x4 x5 σ38) fun v47 σ43 => (some (v47, σ43))))))))))))))))
set_option maxRecDepth 100000 in
theorem t_X12_need_0 {X : Sx} {l : Launch} {D : Nat} {x1 : Int32} {x2 : Int32} {x3 : Int32} {x4 : Int32} {x5 : Int32} {x6 : Int32} {σ : AH} {v : Int32} {σ' : AH} (hD : 6 ≤ D) (hs : Sh σ) (h : F_X12_need x1 x2 x3 x4 x5 x6 σ = some (v, σ')) : W_X12_need_0 X l D x1 x2 x3 x4 x5 x6 σ (some (.int v)) σ' := by
  unfold F_X12_need at h
  unfold W_X12_need_0
  obtain ⟨v6, σ2, q1, h⟩ := of_bd h
  have hC2 := f_X12_in (σ := (sI σ 124 0 (0 : Int32))) hs  q1 (X := X) (l := l)
  have hs3 := hC2.1.2.2.2.1 hs
  refine ⟨0, v6, σ2, (Nat.le_trans (by decide) hD), hC2, ?_⟩
  refine ite_i (fun c4 => ?_) (fun c4 => ?_)
  · replace h := of_ifp h c4
    exact ret_i h
  · replace h := of_ifn h c4
    obtain ⟨v12, σ8, q5, h⟩ := of_bd h
    have hC6 := f_X12_in (σ := σ2) hs3  q5 (X := X) (l := l)
    have hs7 := hC6.1.2.2.2.1 hs3
    refine ⟨0, v12, σ8, (Nat.le_trans (by decide) hD), hC6, ?_⟩
    refine ite_i (fun c8 => ?_) (fun c8 => ?_)
    · replace h := of_ifp h c8
      exact ret_i h
    · replace h := of_ifn h c8
      obtain ⟨v18, σ14, q9, h⟩ := of_bd h
      have hC10 := f_X12_in (σ := σ8) hs7  q9 (X := X) (l := l)
      have hs11 := hC10.1.2.2.2.1 hs7
      refine ⟨0, v18, σ14, (Nat.le_trans (by decide) hD), hC10, ?_⟩
      refine ite_i (fun c12 => ?_) (fun c12 => ?_)
      · replace h := of_ifp h c12
        exact ret_i h
      · replace h := of_ifn h c12
        obtain ⟨v24, σ20, q13, h⟩ := of_bd h
        have hC14 := f_X12_in (σ := σ14) hs11  q13 (X := X) (l := l)
        have hs15 := hC14.1.2.2.2.1 hs11
        refine ⟨0, v24, σ20, (Nat.le_trans (by decide) hD), hC14, ?_⟩
        refine ite_i (fun c16 => ?_) (fun c16 => ?_)
        · replace h := of_ifp h c16
          exact ret_i h
        · replace h := of_ifn h c16
          obtain ⟨v30, σ26, q17, h⟩ := of_bd h
          have hC18 := f_X12_isWeek (σ := σ20) hs15  q17 (X := X) (l := l)
          have hs19 := hC18.1.2.2.2.1 hs15
          refine ⟨1, v30, σ26, (Nat.le_trans (by decide) hD), hC18, ?_⟩
          refine ite_i (fun c20 => ?_) (fun c20 => ?_)
          · replace h := of_ifp h c20
            exact ret_i h
          · replace h := of_ifn h c20
            obtain ⟨v36, σ32, q21, h⟩ := of_bd h
            have hC22 := f_X12_isWeek (σ := σ26) hs19  q21 (X := X) (l := l)
            have hs23 := hC22.1.2.2.2.1 hs19
            refine ⟨1, v36, σ32, (Nat.le_trans (by decide) hD), hC22, ?_⟩
            refine ite_i (fun c24 => ?_) (fun c24 => ?_)
            · replace h := of_ifp h c24
              exact ret_i h
            · replace h := of_ifn h c24
              obtain ⟨σ38, q25, h⟩ := of_bv h
              have hC26 := f_X12_knowBy (σ := σ32) hs23  q25 (X := X) (l := l)
              have hs27 := hC26.1.2.2.2.1 hs23
              refine ⟨0, σ38, (Nat.le_trans (by decide) hD), hC26, ?_⟩
              obtain ⟨v47, σ43, q28, h⟩ := of_bd h
              have hC29 := f_X12_needOf (σ := σ38) hs27  q28 (X := X) (l := l)
              have hs30 := hC29.1.2.2.2.1 hs27
              refine ⟨5, v47, σ43, (Nat.le_trans (by decide) hD), hC29, ?_⟩
              exact ret_i h
theorem f_X12_need {X : Sx} {l : Launch} {x1 : Int32} {x2 : Int32} {x3 : Int32} {x4 : Int32} {x5 : Int32} {x6 : Int32} {σ : AH} {v : Int32} {σ' : AH} (hs : Sh σ) (h : F_X12_need x1 x2 x3 x4 x5 x6 σ = some (v, σ')) : Call X l m_X12_need 6 [.ref 124, .int x1, .int x2, .int x3, .int x4, .int x5, .int x6] σ (some (.int v)) σ' :=
  Call.ofE ok_X12_need rfl (Nat.le_of_ble_eq_true rfl) (w_X12_need_0 hs  (t_X12_need_0 (Nat.le_refl _) hs  h))
def F_X12_deliver_44 (σ : AH) : Option (Int32 × AH) := (bd (F_X12_told (-1 : Int32) σ) fun v47 σ43 => (some (v47, σ43)))
def F_X12_deliver (x1 : Int32) (x2 : Int32) (x3 : Int32) (x4 : Int32) (σ : AH) : Option (Int32 × AH) := (bd (F_X12_in (x1).toInt64 (0 : Int64) (4 : Int64) (sI σ 124 0 (0 : Int32))) fun v6 σ2 => (if v6 = 0 then (F_X12_deliver_44 σ2) else (bd (F_X12_isWeek x2 σ2) fun v12 σ8 => (if v12 = 0 then (F_X12_deliver_44 σ8) else (bd (F_X12_in (x3).toInt64 (1 : Int64) (100000 : Int64) σ8) fun v18 σ14 => (if v18 = 0 then (F_X12_deliver_44 σ14) else (bd (F_X12_isWeek x4 σ14) fun v24 σ20 => (if v24 = 0 then (F_X12_deliver_44 σ20) else (if (gI σ20 125 1) = (120 : Int32) then (bd (F_X12_told (-5 : Int32) σ20) fun v41 σ37 => (some (v41, σ37))) else (bv (F_X12_addFour ((22748 : Int32) + ((4 : Int32) * (gI σ20 125 1))) x1 x2 x3 x4 σ20) fun σ26 => (bd (F_X12_told (gI (sI σ26 125 1 ((gI σ26 125 1) + (1 : Int32))) 125 1) (sI σ26 125 1 ((gI σ26 125 1) + (1 : Int32)))) fun v35 σ31 => (some (v35, σ31)))))))))))))
set_option maxRecDepth 100000 in
theorem t_X12_deliver_44 {X : Sx} {l : Launch} {D : Nat} {σ : AH} {v : Int32} {σ' : AH} (hD : 2 ≤ D) (hs : Sh σ) (h : F_X12_deliver_44 σ = some (v, σ')) : W_X12_deliver_44 X l D σ (some (.int v)) σ' := by
  unfold F_X12_deliver_44 at h
  unfold W_X12_deliver_44
  obtain ⟨v47, σ43, q1, h⟩ := of_bd h
  have hC2 := f_X12_told (σ := σ) hs  q1 (X := X) (l := l)
  have hs3 := hC2.1.2.2.2.1 hs
  refine ⟨0, v47, σ43, (Nat.le_trans (by decide) hD), hC2, ?_⟩
  exact ret_i h
set_option maxRecDepth 100000 in
theorem t_X12_deliver_0 {X : Sx} {l : Launch} {D : Nat} {x1 : Int32} {x2 : Int32} {x3 : Int32} {x4 : Int32} {σ : AH} {v : Int32} {σ' : AH} (hD : 2 ≤ D) (hs : Sh σ) (h : F_X12_deliver x1 x2 x3 x4 σ = some (v, σ')) : W_X12_deliver_0 X l D x1 x2 x3 x4 σ (some (.int v)) σ' := by
  unfold F_X12_deliver at h
  unfold W_X12_deliver_0
  obtain ⟨v6, σ2, q1, h⟩ := of_bd h
  have hC2 := f_X12_in (σ := (sI σ 124 0 (0 : Int32))) hs  q1 (X := X) (l := l)
  have hs3 := hC2.1.2.2.2.1 hs
  refine ⟨0, v6, σ2, (Nat.le_trans (by decide) hD), hC2, ?_⟩
  refine ite_i (fun c4 => ?_) (fun c4 => ?_)
  · replace h := of_ifp h c4
    exact t_X12_deliver_44 hD  hs3  h
  · replace h := of_ifn h c4
    obtain ⟨v12, σ8, q5, h⟩ := of_bd h
    have hC6 := f_X12_isWeek (σ := σ2) hs3  q5 (X := X) (l := l)
    have hs7 := hC6.1.2.2.2.1 hs3
    refine ⟨1, v12, σ8, (Nat.le_trans (by decide) hD), hC6, ?_⟩
    refine ite_i (fun c8 => ?_) (fun c8 => ?_)
    · replace h := of_ifp h c8
      exact t_X12_deliver_44 hD  hs7  h
    · replace h := of_ifn h c8
      obtain ⟨v18, σ14, q9, h⟩ := of_bd h
      have hC10 := f_X12_in (σ := σ8) hs7  q9 (X := X) (l := l)
      have hs11 := hC10.1.2.2.2.1 hs7
      refine ⟨0, v18, σ14, (Nat.le_trans (by decide) hD), hC10, ?_⟩
      refine ite_i (fun c12 => ?_) (fun c12 => ?_)
      · replace h := of_ifp h c12
        exact t_X12_deliver_44 hD  hs11  h
      · replace h := of_ifn h c12
        obtain ⟨v24, σ20, q13, h⟩ := of_bd h
        have hC14 := f_X12_isWeek (σ := σ14) hs11  q13 (X := X) (l := l)
        have hs15 := hC14.1.2.2.2.1 hs11
        refine ⟨1, v24, σ20, (Nat.le_trans (by decide) hD), hC14, ?_⟩
        refine ite_i (fun c16 => ?_) (fun c16 => ?_)
        · replace h := of_ifp h c16
          exact t_X12_deliver_44 hD  hs15  h
        · replace h := of_ifn h c16
          refine ite_i (fun c17 => ?_) (fun c17 => ?_)
          · replace h := of_ifp h c17
            obtain ⟨v41, σ37, q18, h⟩ := of_bd h
            have hC19 := f_X12_told (σ := σ20) hs15  q18 (X := X) (l := l)
            have hs20 := hC19.1.2.2.2.1 hs15
            refine ⟨0, v41, σ37, (Nat.le_trans (by decide) hD), hC19, ?_⟩
            exact ret_i h
          · replace h := of_ifn h c17
            obtain ⟨σ26, q21, h⟩ := of_bv h
            have hC22 := f_X12_addFour (σ := σ20) hs15  q21 (X := X) (l := l)
            have hs23 := hC22.1.2.2.2.1 hs15
            refine ⟨0, σ26, (Nat.le_trans (by decide) hD), hC22, ?_⟩
            obtain ⟨v35, σ31, q24, h⟩ := of_bd h
            have hC25 := f_X12_told (σ := (sI σ26 125 1 ((gI σ26 125 1) + (1 : Int32)))) hs23  q24 (X := X) (l := l)
            have hs26 := hC25.1.2.2.2.1 hs23
            refine ⟨0, v35, σ31, (Nat.le_trans (by decide) hD), hC25, ?_⟩
            exact ret_i h
theorem f_X12_deliver {X : Sx} {l : Launch} {x1 : Int32} {x2 : Int32} {x3 : Int32} {x4 : Int32} {σ : AH} {v : Int32} {σ' : AH} (hs : Sh σ) (h : F_X12_deliver x1 x2 x3 x4 σ = some (v, σ')) : Call X l m_X12_deliver 2 [.ref 124, .int x1, .int x2, .int x3, .int x4] σ (some (.int v)) σ' :=
  Call.ofE ok_X12_deliver rfl (Nat.le_of_ble_eq_true rfl) (w_X12_deliver_0 hs  (t_X12_deliver_0 (Nat.le_refl _) hs  h))
def F_X12_works_113 (σ : AH) : Option (Int32 × AH) := (bd (F_X12_told (-1 : Int32) σ) fun v76 σ72 => (some (v76, σ72)))
def F_X12_works_47 (x1 : Int32) (x2 : Int32) (x3 : Int32) (x4 : Int32) (x5 : Int32) (x6 : Int32) (x7 : Int32) (x8 : Int32) (y0 : Int32) (σ : AH) : Option (Int32 × AH) := (if y0 = 0 then (F_X12_works_113 σ) else (bd (F_X12_in (x2).toInt64 (0 : Int64) (1000 : Int64) σ) fun v24 σ20 => (if v24 = 0 then (F_X12_works_113 σ20) else (bd (F_X12_in (x4).toInt64 (0 : Int64) (1000 : Int64) σ20) fun v30 σ26 => (if v30 = 0 then (F_X12_works_113 σ26) else (bd (F_X12_in (x6).toInt64 (1 : Int64) (10000 : Int64) σ26) fun v36 σ32 => (if v36 = 0 then (F_X12_works_113 σ32) else (bd (F_X12_in (x7).toInt64 (0 : Int64) (100 : Int64) σ32) fun v42 σ38 => (if v42 = 0 then (F_X12_works_113 σ38) else (bd (F_X12_isWeek x8 σ38) fun v48 σ44 => (if v48 = 0 then (F_X12_works_113 σ44) else (if (gI σ44 125 2) = (8 : Int32) then (bd (F_X12_told (-5 : Int32) σ44) fun v70 σ66 => (some (v70, σ66))) else (bv (F_X12_addFour ((23228 : Int32) + ((8 : Int32) * (gI σ44 125 2))) x1 x2 x3 x4 σ44) fun σ50 => (bv (F_X12_addFour (((23228 : Int32) + ((8 : Int32) * (gI σ44 125 2))) + (4 : Int32)) x5 x6 x7 x8 σ50) fun σ55 => (bd (F_X12_told ((gI (sI σ55 125 2 ((gI σ55 125 2) + (1 : Int32))) 125 2) - (1 : Int32)) (sI σ55 125 2 ((gI σ55 125 2) + (1 : Int32)))) fun v64 σ60 => (some (v64, σ60)))))))))))))))))
def F_X12_works_46 (x1 : Int32) (x2 : Int32) (x3 : Int32) (x4 : Int32) (x5 : Int32) (x6 : Int32) (x7 : Int32) (x8 : Int32) (σ : AH) : Option (Int32 × AH) := (F_X12_works_47 x1 x2 x3 x4 x5 x6 x7 x8 (0 : Int32) σ)
def F_X12_works (x1 : Int32) (x2 : Int32) (x3 : Int32) (x4 : Int32) (x5 : Int32) (x6 : Int32) (x7 : Int32) (x8 : Int32) (σ : AH) : Option (Int32 × AH) := (bd (F_X12_in (x1).toInt64 (0 : Int64) (4 : Int64) (sI σ 124 0 (0 : Int32))) fun v6 σ2 => (if v6 = 0 then (F_X12_works_46 x1 x2 x3 x4 x5 x6 x7 x8 σ2) else (bd (F_X12_in (x3).toInt64 (0 : Int64) (4 : Int64) σ2) fun v12 σ8 => (if v12 = 0 then (F_X12_works_46 x1 x2 x3 x4 x5 x6 x7 x8 σ8) else (bd (F_X12_in (x5).toInt64 (0 : Int64) (4 : Int64) σ8) fun v18 σ14 => (if v18 = 0 then (F_X12_works_46 x1 x2 x3 x4 x5 x6 x7 x8 σ14) else (F_X12_works_47 x1 x2 x3 x4 x5 x6 x7 x8 (1 : Int32) σ14)))))))
set_option maxRecDepth 100000 in
theorem t_X12_works_113 {X : Sx} {l : Launch} {D : Nat} {σ : AH} {v : Int32} {σ' : AH} (hD : 2 ≤ D) (hs : Sh σ) (h : F_X12_works_113 σ = some (v, σ')) : W_X12_works_113 X l D σ (some (.int v)) σ' := by
  unfold F_X12_works_113 at h
  unfold W_X12_works_113
  obtain ⟨v76, σ72, q1, h⟩ := of_bd h
  have hC2 := f_X12_told (σ := σ) hs  q1 (X := X) (l := l)
  have hs3 := hC2.1.2.2.2.1 hs
  refine ⟨0, v76, σ72, (Nat.le_trans (by decide) hD), hC2, ?_⟩
  exact ret_i h
set_option maxRecDepth 100000 in
theorem t_X12_works_47 {X : Sx} {l : Launch} {D : Nat} {x1 : Int32} {x2 : Int32} {x3 : Int32} {x4 : Int32} {x5 : Int32} {x6 : Int32} {x7 : Int32} {x8 : Int32} {y0 : Int32} {σ : AH} {v : Int32} {σ' : AH} (hD : 2 ≤ D) (hs : Sh σ) (h : F_X12_works_47 x1 x2 x3 x4 x5 x6 x7 x8 y0 σ = some (v, σ')) : W_X12_works_47 X l D x1 x2 x3 x4 x5 x6 x7 x8 y0 σ (some (.int v)) σ' := by
  unfold F_X12_works_47 at h
  unfold W_X12_works_47
  refine ite_i (fun c1 => ?_) (fun c1 => ?_)
  · replace h := of_ifp h c1
    exact t_X12_works_113 hD  hs  h
  · replace h := of_ifn h c1
    obtain ⟨v24, σ20, q2, h⟩ := of_bd h
    have hC3 := f_X12_in (σ := σ) hs  q2 (X := X) (l := l)
    have hs4 := hC3.1.2.2.2.1 hs
    refine ⟨0, v24, σ20, (Nat.le_trans (by decide) hD), hC3, ?_⟩
    refine ite_i (fun c5 => ?_) (fun c5 => ?_)
    · replace h := of_ifp h c5
      exact t_X12_works_113 hD  hs4  h
    · replace h := of_ifn h c5
      obtain ⟨v30, σ26, q6, h⟩ := of_bd h
      have hC7 := f_X12_in (σ := σ20) hs4  q6 (X := X) (l := l)
      have hs8 := hC7.1.2.2.2.1 hs4
      refine ⟨0, v30, σ26, (Nat.le_trans (by decide) hD), hC7, ?_⟩
      refine ite_i (fun c9 => ?_) (fun c9 => ?_)
      · replace h := of_ifp h c9
        exact t_X12_works_113 hD  hs8  h
      · replace h := of_ifn h c9
        obtain ⟨v36, σ32, q10, h⟩ := of_bd h
        have hC11 := f_X12_in (σ := σ26) hs8  q10 (X := X) (l := l)
        have hs12 := hC11.1.2.2.2.1 hs8
        refine ⟨0, v36, σ32, (Nat.le_trans (by decide) hD), hC11, ?_⟩
        refine ite_i (fun c13 => ?_) (fun c13 => ?_)
        · replace h := of_ifp h c13
          exact t_X12_works_113 hD  hs12  h
        · replace h := of_ifn h c13
          obtain ⟨v42, σ38, q14, h⟩ := of_bd h
          have hC15 := f_X12_in (σ := σ32) hs12  q14 (X := X) (l := l)
          have hs16 := hC15.1.2.2.2.1 hs12
          refine ⟨0, v42, σ38, (Nat.le_trans (by decide) hD), hC15, ?_⟩
          refine ite_i (fun c17 => ?_) (fun c17 => ?_)
          · replace h := of_ifp h c17
            exact t_X12_works_113 hD  hs16  h
          · replace h := of_ifn h c17
            obtain ⟨v48, σ44, q18, h⟩ := of_bd h
            have hC19 := f_X12_isWeek (σ := σ38) hs16  q18 (X := X) (l := l)
            have hs20 := hC19.1.2.2.2.1 hs16
            refine ⟨1, v48, σ44, (Nat.le_trans (by decide) hD), hC19, ?_⟩
            refine ite_i (fun c21 => ?_) (fun c21 => ?_)
            · replace h := of_ifp h c21
              exact t_X12_works_113 hD  hs20  h
            · replace h := of_ifn h c21
              refine ite_i (fun c22 => ?_) (fun c22 => ?_)
              · replace h := of_ifp h c22
                obtain ⟨v70, σ66, q23, h⟩ := of_bd h
                have hC24 := f_X12_told (σ := σ44) hs20  q23 (X := X) (l := l)
                have hs25 := hC24.1.2.2.2.1 hs20
                refine ⟨0, v70, σ66, (Nat.le_trans (by decide) hD), hC24, ?_⟩
                exact ret_i h
              · replace h := of_ifn h c22
                obtain ⟨σ50, q26, h⟩ := of_bv h
                have hC27 := f_X12_addFour (σ := σ44) hs20  q26 (X := X) (l := l)
                have hs28 := hC27.1.2.2.2.1 hs20
                refine ⟨0, σ50, (Nat.le_trans (by decide) hD), hC27, ?_⟩
                obtain ⟨σ55, q29, h⟩ := of_bv h
                have hC30 := f_X12_addFour (σ := σ50) hs28  q29 (X := X) (l := l)
                have hs31 := hC30.1.2.2.2.1 hs28
                refine ⟨0, σ55, (Nat.le_trans (by decide) hD), hC30, ?_⟩
                obtain ⟨v64, σ60, q32, h⟩ := of_bd h
                have hC33 := f_X12_told (σ := (sI σ55 125 2 ((gI σ55 125 2) + (1 : Int32)))) hs31  q32 (X := X) (l := l)
                have hs34 := hC33.1.2.2.2.1 hs31
                refine ⟨0, v64, σ60, (Nat.le_trans (by decide) hD), hC33, ?_⟩
                exact ret_i h
set_option maxRecDepth 100000 in
theorem t_X12_works_46 {X : Sx} {l : Launch} {D : Nat} {x1 : Int32} {x2 : Int32} {x3 : Int32} {x4 : Int32} {x5 : Int32} {x6 : Int32} {x7 : Int32} {x8 : Int32} {σ : AH} {v : Int32} {σ' : AH} (hD : 2 ≤ D) (hs : Sh σ) (h : F_X12_works_46 x1 x2 x3 x4 x5 x6 x7 x8 σ = some (v, σ')) : W_X12_works_46 X l D x1 x2 x3 x4 x5 x6 x7 x8 σ (some (.int v)) σ' := by
  unfold F_X12_works_46 at h
  unfold W_X12_works_46
  exact t_X12_works_47 hD  hs  h
set_option maxRecDepth 100000 in
theorem t_X12_works_0 {X : Sx} {l : Launch} {D : Nat} {x1 : Int32} {x2 : Int32} {x3 : Int32} {x4 : Int32} {x5 : Int32} {x6 : Int32} {x7 : Int32} {x8 : Int32} {σ : AH} {v : Int32} {σ' : AH} (hD : 2 ≤ D) (hs : Sh σ) (h : F_X12_works x1 x2 x3 x4 x5 x6 x7 x8 σ = some (v, σ')) : W_X12_works_0 X l D x1 x2 x3 x4 x5 x6 x7 x8 σ (some (.int v)) σ' := by
  unfold F_X12_works at h
  unfold W_X12_works_0
  obtain ⟨v6, σ2, q1, h⟩ := of_bd h
  have hC2 := f_X12_in (σ := (sI σ 124 0 (0 : Int32))) hs  q1 (X := X) (l := l)
  have hs3 := hC2.1.2.2.2.1 hs
  refine ⟨0, v6, σ2, (Nat.le_trans (by decide) hD), hC2, ?_⟩
  refine ite_i (fun c4 => ?_) (fun c4 => ?_)
  · replace h := of_ifp h c4
    exact t_X12_works_46 hD  hs3  h
  · replace h := of_ifn h c4
    obtain ⟨v12, σ8, q5, h⟩ := of_bd h
    have hC6 := f_X12_in (σ := σ2) hs3  q5 (X := X) (l := l)
    have hs7 := hC6.1.2.2.2.1 hs3
    refine ⟨0, v12, σ8, (Nat.le_trans (by decide) hD), hC6, ?_⟩
    refine ite_i (fun c8 => ?_) (fun c8 => ?_)
    · replace h := of_ifp h c8
      exact t_X12_works_46 hD  hs7  h
    · replace h := of_ifn h c8
      obtain ⟨v18, σ14, q9, h⟩ := of_bd h
      have hC10 := f_X12_in (σ := σ8) hs7  q9 (X := X) (l := l)
      have hs11 := hC10.1.2.2.2.1 hs7
      refine ⟨0, v18, σ14, (Nat.le_trans (by decide) hD), hC10, ?_⟩
      refine ite_i (fun c12 => ?_) (fun c12 => ?_)
      · replace h := of_ifp h c12
        exact t_X12_works_46 hD  hs11  h
      · replace h := of_ifn h c12
        exact t_X12_works_47 hD  hs11  h
theorem f_X12_works {X : Sx} {l : Launch} {x1 : Int32} {x2 : Int32} {x3 : Int32} {x4 : Int32} {x5 : Int32} {x6 : Int32} {x7 : Int32} {x8 : Int32} {σ : AH} {v : Int32} {σ' : AH} (hs : Sh σ) (h : F_X12_works x1 x2 x3 x4 x5 x6 x7 x8 σ = some (v, σ')) : Call X l m_X12_works 2 [.ref 124, .int x1, .int x2, .int x3, .int x4, .int x5, .int x6, .int x7, .int x8] σ (some (.int v)) σ' :=
  Call.ofE ok_X12_works rfl (Nat.le_of_ble_eq_true rfl) (w_X12_works_0 hs  (t_X12_works_0 (Nat.le_refl _) hs  h))
def F_X12_gangs_39 (σ : AH) : Option (Int32 × AH) := (bd (F_X12_told (-1 : Int32) σ) fun v47 σ43 => (some (v47, σ43)))
def F_X12_gangs (x1 : Int32) (x2 : Int32) (x3 : Int32) (x4 : Int32) (σ : AH) : Option (Int32 × AH) := (bd (F_X12_isCouncil x1 (sI σ 124 0 (0 : Int32))) fun v6 σ2 => (if v6 = 0 then (F_X12_gangs_39 σ2) else (bd (F_X12_in (x2).toInt64 (0 : Int64) (50 : Int64) σ2) fun v12 σ8 => (if v12 = 0 then (F_X12_gangs_39 σ8) else (bd (F_X12_isWeek x3 σ8) fun v18 σ14 => (if v18 = 0 then (F_X12_gangs_39 σ14) else (bd (F_X12_isWeek x4 σ14) fun v24 σ20 => (if v24 = 0 then (F_X12_gangs_39 σ20) else (if (gI σ20 125 3) = (60 : Int32) then (bd (F_X12_told (-5 : Int32) σ20) fun v41 σ37 => (some (v41, σ37))) else (bv (F_X12_addFour ((23292 : Int32) + ((4 : Int32) * (gI σ20 125 3))) x1 x2 x3 x4 σ20) fun σ26 => (bd (F_X12_told (gI (sI σ26 125 3 ((gI σ26 125 3) + (1 : Int32))) 125 3) (sI σ26 125 3 ((gI σ26 125 3) + (1 : Int32)))) fun v35 σ31 => (some (v35, σ31)))))))))))))
set_option maxRecDepth 100000 in
theorem t_X12_gangs_39 {X : Sx} {l : Launch} {D : Nat} {σ : AH} {v : Int32} {σ' : AH} (hD : 2 ≤ D) (hs : Sh σ) (h : F_X12_gangs_39 σ = some (v, σ')) : W_X12_gangs_39 X l D σ (some (.int v)) σ' := by
  unfold F_X12_gangs_39 at h
  unfold W_X12_gangs_39
  obtain ⟨v47, σ43, q1, h⟩ := of_bd h
  have hC2 := f_X12_told (σ := σ) hs  q1 (X := X) (l := l)
  have hs3 := hC2.1.2.2.2.1 hs
  refine ⟨0, v47, σ43, (Nat.le_trans (by decide) hD), hC2, ?_⟩
  exact ret_i h
set_option maxRecDepth 100000 in
theorem t_X12_gangs_0 {X : Sx} {l : Launch} {D : Nat} {x1 : Int32} {x2 : Int32} {x3 : Int32} {x4 : Int32} {σ : AH} {v : Int32} {σ' : AH} (hD : 2 ≤ D) (hs : Sh σ) (h : F_X12_gangs x1 x2 x3 x4 σ = some (v, σ')) : W_X12_gangs_0 X l D x1 x2 x3 x4 σ (some (.int v)) σ' := by
  unfold F_X12_gangs at h
  unfold W_X12_gangs_0
  obtain ⟨v6, σ2, q1, h⟩ := of_bd h
  have hC2 := f_X12_isCouncil (σ := (sI σ 124 0 (0 : Int32))) hs  q1 (X := X) (l := l)
  have hs3 := hC2.1.2.2.2.1 hs
  refine ⟨1, v6, σ2, (Nat.le_trans (by decide) hD), hC2, ?_⟩
  refine ite_i (fun c4 => ?_) (fun c4 => ?_)
  · replace h := of_ifp h c4
    exact t_X12_gangs_39 hD  hs3  h
  · replace h := of_ifn h c4
    obtain ⟨v12, σ8, q5, h⟩ := of_bd h
    have hC6 := f_X12_in (σ := σ2) hs3  q5 (X := X) (l := l)
    have hs7 := hC6.1.2.2.2.1 hs3
    refine ⟨0, v12, σ8, (Nat.le_trans (by decide) hD), hC6, ?_⟩
    refine ite_i (fun c8 => ?_) (fun c8 => ?_)
    · replace h := of_ifp h c8
      exact t_X12_gangs_39 hD  hs7  h
    · replace h := of_ifn h c8
      obtain ⟨v18, σ14, q9, h⟩ := of_bd h
      have hC10 := f_X12_isWeek (σ := σ8) hs7  q9 (X := X) (l := l)
      have hs11 := hC10.1.2.2.2.1 hs7
      refine ⟨1, v18, σ14, (Nat.le_trans (by decide) hD), hC10, ?_⟩
      refine ite_i (fun c12 => ?_) (fun c12 => ?_)
      · replace h := of_ifp h c12
        exact t_X12_gangs_39 hD  hs11  h
      · replace h := of_ifn h c12
        obtain ⟨v24, σ20, q13, h⟩ := of_bd h
        have hC14 := f_X12_isWeek (σ := σ14) hs11  q13 (X := X) (l := l)
        have hs15 := hC14.1.2.2.2.1 hs11
        refine ⟨1, v24, σ20, (Nat.le_trans (by decide) hD), hC14, ?_⟩
        refine ite_i (fun c16 => ?_) (fun c16 => ?_)
        · replace h := of_ifp h c16
          exact t_X12_gangs_39 hD  hs15  h
        · replace h := of_ifn h c16
          refine ite_i (fun c17 => ?_) (fun c17 => ?_)
          · replace h := of_ifp h c17
            obtain ⟨v41, σ37, q18, h⟩ := of_bd h
            have hC19 := f_X12_told (σ := σ20) hs15  q18 (X := X) (l := l)
            have hs20 := hC19.1.2.2.2.1 hs15
            refine ⟨0, v41, σ37, (Nat.le_trans (by decide) hD), hC19, ?_⟩
            exact ret_i h
          · replace h := of_ifn h c17
            obtain ⟨σ26, q21, h⟩ := of_bv h
            have hC22 := f_X12_addFour (σ := σ20) hs15  q21 (X := X) (l := l)
            have hs23 := hC22.1.2.2.2.1 hs15
            refine ⟨0, σ26, (Nat.le_trans (by decide) hD), hC22, ?_⟩
            obtain ⟨v35, σ31, q24, h⟩ := of_bd h
            have hC25 := f_X12_told (σ := (sI σ26 125 3 ((gI σ26 125 3) + (1 : Int32)))) hs23  q24 (X := X) (l := l)
            have hs26 := hC25.1.2.2.2.1 hs23
            refine ⟨0, v35, σ31, (Nat.le_trans (by decide) hD), hC25, ?_⟩
            exact ret_i h
theorem f_X12_gangs {X : Sx} {l : Launch} {x1 : Int32} {x2 : Int32} {x3 : Int32} {x4 : Int32} {σ : AH} {v : Int32} {σ' : AH} (hs : Sh σ) (h : F_X12_gangs x1 x2 x3 x4 σ = some (v, σ')) : Call X l m_X12_gangs 2 [.ref 124, .int x1, .int x2, .int x3, .int x4] σ (some (.int v)) σ' :=
  Call.ofE ok_X12_gangs rfl (Nat.le_of_ble_eq_true rfl) (w_X12_gangs_0 hs  (t_X12_gangs_0 (Nat.le_refl _) hs  h))
def F_X12_plot_44 (σ : AH) : Option (Int32 × AH) := (bd (F_X12_told (-1 : Int32) σ) fun v47 σ43 => (some (v47, σ43)))
def F_X12_plot (x1 : Int32) (x2 : Int32) (x3 : Int32) (x4 : Int32) (σ : AH) : Option (Int32 × AH) := (bd (F_X12_isCouncil x1 (sI σ 124 0 (0 : Int32))) fun v6 σ2 => (if v6 = 0 then (F_X12_plot_44 σ2) else (bd (F_X12_in (x2).toInt64 (0 : Int64) (2 : Int64) σ2) fun v12 σ8 => (if v12 = 0 then (F_X12_plot_44 σ8) else (bd (F_X12_in (x3).toInt64 (1 : Int64) (6 : Int64) σ8) fun v18 σ14 => (if v18 = 0 then (F_X12_plot_44 σ14) else (bd (F_X12_isWeek x4 σ14) fun v24 σ20 => (if v24 = 0 then (F_X12_plot_44 σ20) else (if (gI σ20 125 4) = (30 : Int32) then (bd (F_X12_told (-5 : Int32) σ20) fun v41 σ37 => (some (v41, σ37))) else (bv (F_X12_addFour ((23532 : Int32) + ((4 : Int32) * (gI σ20 125 4))) x1 x2 x3 x4 σ20) fun σ26 => (bd (F_X12_told ((gI (sI σ26 125 4 ((gI σ26 125 4) + (1 : Int32))) 125 4) - (1 : Int32)) (sI σ26 125 4 ((gI σ26 125 4) + (1 : Int32)))) fun v35 σ31 => (some (v35, σ31)))))))))))))
set_option maxRecDepth 100000 in
theorem t_X12_plot_44 {X : Sx} {l : Launch} {D : Nat} {σ : AH} {v : Int32} {σ' : AH} (hD : 2 ≤ D) (hs : Sh σ) (h : F_X12_plot_44 σ = some (v, σ')) : W_X12_plot_44 X l D σ (some (.int v)) σ' := by
  unfold F_X12_plot_44 at h
  unfold W_X12_plot_44
  obtain ⟨v47, σ43, q1, h⟩ := of_bd h
  have hC2 := f_X12_told (σ := σ) hs  q1 (X := X) (l := l)
  have hs3 := hC2.1.2.2.2.1 hs
  refine ⟨0, v47, σ43, (Nat.le_trans (by decide) hD), hC2, ?_⟩
  exact ret_i h
set_option maxRecDepth 100000 in
theorem t_X12_plot_0 {X : Sx} {l : Launch} {D : Nat} {x1 : Int32} {x2 : Int32} {x3 : Int32} {x4 : Int32} {σ : AH} {v : Int32} {σ' : AH} (hD : 2 ≤ D) (hs : Sh σ) (h : F_X12_plot x1 x2 x3 x4 σ = some (v, σ')) : W_X12_plot_0 X l D x1 x2 x3 x4 σ (some (.int v)) σ' := by
  unfold F_X12_plot at h
  unfold W_X12_plot_0
  obtain ⟨v6, σ2, q1, h⟩ := of_bd h
  have hC2 := f_X12_isCouncil (σ := (sI σ 124 0 (0 : Int32))) hs  q1 (X := X) (l := l)
  have hs3 := hC2.1.2.2.2.1 hs
  refine ⟨1, v6, σ2, (Nat.le_trans (by decide) hD), hC2, ?_⟩
  refine ite_i (fun c4 => ?_) (fun c4 => ?_)
  · replace h := of_ifp h c4
    exact t_X12_plot_44 hD  hs3  h
  · replace h := of_ifn h c4
    obtain ⟨v12, σ8, q5, h⟩ := of_bd h
    have hC6 := f_X12_in (σ := σ2) hs3  q5 (X := X) (l := l)
    have hs7 := hC6.1.2.2.2.1 hs3
    refine ⟨0, v12, σ8, (Nat.le_trans (by decide) hD), hC6, ?_⟩
    refine ite_i (fun c8 => ?_) (fun c8 => ?_)
    · replace h := of_ifp h c8
      exact t_X12_plot_44 hD  hs7  h
    · replace h := of_ifn h c8
      obtain ⟨v18, σ14, q9, h⟩ := of_bd h
      have hC10 := f_X12_in (σ := σ8) hs7  q9 (X := X) (l := l)
      have hs11 := hC10.1.2.2.2.1 hs7
      refine ⟨0, v18, σ14, (Nat.le_trans (by decide) hD), hC10, ?_⟩
      refine ite_i (fun c12 => ?_) (fun c12 => ?_)
      · replace h := of_ifp h c12
        exact t_X12_plot_44 hD  hs11  h
      · replace h := of_ifn h c12
        obtain ⟨v24, σ20, q13, h⟩ := of_bd h
        have hC14 := f_X12_isWeek (σ := σ14) hs11  q13 (X := X) (l := l)
        have hs15 := hC14.1.2.2.2.1 hs11
        refine ⟨1, v24, σ20, (Nat.le_trans (by decide) hD), hC14, ?_⟩
        refine ite_i (fun c16 => ?_) (fun c16 => ?_)
        · replace h := of_ifp h c16
          exact t_X12_plot_44 hD  hs15  h
        · replace h := of_ifn h c16
          refine ite_i (fun c17 => ?_) (fun c17 => ?_)
          · replace h := of_ifp h c17
            obtain ⟨v41, σ37, q18, h⟩ := of_bd h
            have hC19 := f_X12_told (σ := σ20) hs15  q18 (X := X) (l := l)
            have hs20 := hC19.1.2.2.2.1 hs15
            refine ⟨0, v41, σ37, (Nat.le_trans (by decide) hD), hC19, ?_⟩
            exact ret_i h
          · replace h := of_ifn h c17
            obtain ⟨σ26, q21, h⟩ := of_bv h
            have hC22 := f_X12_addFour (σ := σ20) hs15  q21 (X := X) (l := l)
            have hs23 := hC22.1.2.2.2.1 hs15
            refine ⟨0, σ26, (Nat.le_trans (by decide) hD), hC22, ?_⟩
            obtain ⟨v35, σ31, q24, h⟩ := of_bd h
            have hC25 := f_X12_told (σ := (sI σ26 125 4 ((gI σ26 125 4) + (1 : Int32)))) hs23  q24 (X := X) (l := l)
            have hs26 := hC25.1.2.2.2.1 hs23
            refine ⟨0, v35, σ31, (Nat.le_trans (by decide) hD), hC25, ?_⟩
            exact ret_i h
theorem f_X12_plot {X : Sx} {l : Launch} {x1 : Int32} {x2 : Int32} {x3 : Int32} {x4 : Int32} {σ : AH} {v : Int32} {σ' : AH} (hs : Sh σ) (h : F_X12_plot x1 x2 x3 x4 σ = some (v, σ')) : Call X l m_X12_plot 2 [.ref 124, .int x1, .int x2, .int x3, .int x4] σ (some (.int v)) σ' :=
  Call.ofE ok_X12_plot rfl (Nat.le_of_ble_eq_true rfl) (w_X12_plot_0 hs  (t_X12_plot_0 (Nat.le_refl _) hs  h))
def F_X12_isPlot (x1 : Int32) (σ : AH) : Option (Int32 × AH) := (bd (F_X12_in (x1).toInt64 (0 : Int64) (((gI σ 125 4)).toInt64 - (1 : Int64)) σ) fun v6 σ2 => (if v6 = 0 ∨ v6 = 1 then some (v6, σ2) else none))
set_option maxRecDepth 100000 in
theorem t_X12_isPlot_0 {X : Sx} {l : Launch} {D : Nat} {x1 : Int32} {σ : AH} {v : Int32} {σ' : AH} (hD : 1 ≤ D) (hs : Sh σ) (h : F_X12_isPlot x1 σ = some (v, σ')) : W_X12_isPlot_0 X l D x1 σ (some (.int v)) σ' := by
  unfold F_X12_isPlot at h
  unfold W_X12_isPlot_0
  obtain ⟨v6, σ2, q1, h⟩ := of_bd h
  have hC2 := f_X12_in (σ := σ) hs  q1 (X := X) (l := l)
  have hs3 := hC2.1.2.2.2.1 hs
  refine ⟨0, v6, σ2, (Nat.le_trans (by decide) hD), hC2, ?_⟩
  exact ⟨(of_gd h).1, ret_i (of_gd h).2⟩
theorem f_X12_isPlot {X : Sx} {l : Launch} {x1 : Int32} {σ : AH} {v : Int32} {σ' : AH} (hs : Sh σ) (h : F_X12_isPlot x1 σ = some (v, σ')) : Call X l m_X12_isPlot 1 [.ref 124, .int x1] σ (some (.int v)) σ' :=
  Call.ofE ok_X12_isPlot rfl (Nat.le_of_ble_eq_true rfl) (w_X12_isPlot_0 hs  (t_X12_isPlot_0 (Nat.le_refl _) hs  h))
def F_X12_councilOf (x1 : Int32) (σ : AH) : Option (Int32 × AH) := (if inB ((23532 : Int32) + ((4 : Int32) * x1)) 269832 = true then (some ((gI σ 125 ((23532 : Int32) + ((4 : Int32) * x1)).toNatClampNeg), σ)) else none)
set_option maxRecDepth 100000 in
theorem t_X12_councilOf_0 {X : Sx} {l : Launch} {D : Nat} {x1 : Int32} {σ : AH} {v : Int32} {σ' : AH} (hD : 0 ≤ D) (hs : Sh σ) (h : F_X12_councilOf x1 σ = some (v, σ')) : W_X12_councilOf_0 X l D x1 σ (some (.int v)) σ' := by
  unfold F_X12_councilOf at h
  unfold W_X12_councilOf_0
  obtain ⟨g1, h⟩ := of_gd h
  refine ⟨(inB_mp g1), ?_⟩
  exact ret_i h
theorem f_X12_councilOf {X : Sx} {l : Launch} {x1 : Int32} {σ : AH} {v : Int32} {σ' : AH} (hs : Sh σ) (h : F_X12_councilOf x1 σ = some (v, σ')) : Call X l m_X12_councilOf 0 [.ref 124, .int x1] σ (some (.int v)) σ' :=
  Call.ofE ok_X12_councilOf rfl (Nat.le_of_ble_eq_true rfl) (w_X12_councilOf_0 hs  (t_X12_councilOf_0 (Nat.le_refl _) hs  h))
def F_X12_kindOf (x1 : Int32) (σ : AH) : Option (Int32 × AH) := (if inB (((23532 : Int32) + ((4 : Int32) * x1)) + (1 : Int32)) 269832 = true then (some ((gI σ 125 (((23532 : Int32) + ((4 : Int32) * x1)) + (1 : Int32)).toNatClampNeg), σ)) else none)
set_option maxRecDepth 100000 in
theorem t_X12_kindOf_0 {X : Sx} {l : Launch} {D : Nat} {x1 : Int32} {σ : AH} {v : Int32} {σ' : AH} (hD : 0 ≤ D) (hs : Sh σ) (h : F_X12_kindOf x1 σ = some (v, σ')) : W_X12_kindOf_0 X l D x1 σ (some (.int v)) σ' := by
  unfold F_X12_kindOf at h
  unfold W_X12_kindOf_0
  obtain ⟨g1, h⟩ := of_gd h
  refine ⟨(inB_mp g1), ?_⟩
  exact ret_i h
theorem f_X12_kindOf {X : Sx} {l : Launch} {x1 : Int32} {σ : AH} {v : Int32} {σ' : AH} (hs : Sh σ) (h : F_X12_kindOf x1 σ = some (v, σ')) : Call X l m_X12_kindOf 0 [.ref 124, .int x1] σ (some (.int v)) σ' :=
  Call.ofE ok_X12_kindOf rfl (Nat.le_of_ble_eq_true rfl) (w_X12_kindOf_0 hs  (t_X12_kindOf_0 (Nat.le_refl _) hs  h))
def F_X12_roomsOf (x1 : Int32) (σ : AH) : Option (Int32 × AH) := (if inB (((23532 : Int32) + ((4 : Int32) * x1)) + (2 : Int32)) 269832 = true then (some ((gI σ 125 (((23532 : Int32) + ((4 : Int32) * x1)) + (2 : Int32)).toNatClampNeg), σ)) else none)
set_option maxRecDepth 100000 in
theorem t_X12_roomsOf_0 {X : Sx} {l : Launch} {D : Nat} {x1 : Int32} {σ : AH} {v : Int32} {σ' : AH} (hD : 0 ≤ D) (hs : Sh σ) (h : F_X12_roomsOf x1 σ = some (v, σ')) : W_X12_roomsOf_0 X l D x1 σ (some (.int v)) σ' := by
  unfold F_X12_roomsOf at h
  unfold W_X12_roomsOf_0
  obtain ⟨g1, h⟩ := of_gd h
  refine ⟨(inB_mp g1), ?_⟩
  exact ret_i h
theorem f_X12_roomsOf {X : Sx} {l : Launch} {x1 : Int32} {σ : AH} {v : Int32} {σ' : AH} (hs : Sh σ) (h : F_X12_roomsOf x1 σ = some (v, σ')) : Call X l m_X12_roomsOf 0 [.ref 124, .int x1] σ (some (.int v)) σ' :=
  Call.ofE ok_X12_roomsOf rfl (Nat.le_of_ble_eq_true rfl) (w_X12_roomsOf_0 hs  (t_X12_roomsOf_0 (Nat.le_refl _) hs  h))
def F_X12_start_19 (σ : AH) : Option (Int32 × AH) := (bd (F_X12_told (-1 : Int32) σ) fun v30 σ26 => (some (v30, σ26)))
def B_X12_start_43 (k_X12_start_43 : Int32 → Int32 → Int32 → Int32 → AH → Option (Int32 × AH)) (x1 : Int32) (x2 : Int32) (x3 : Int32) (x4 : Int32) (σ : AH) : Option (Int32 × AH) := (if (gI σ 124 48) ≤ x4 then (if (gI σ 125 5) = (60 : Int32) then (bd (F_X12_told (-5 : Int32) σ) fun v51 σ47 => (some (v51, σ47))) else (if inB ((23652 : Int32) + ((3 : Int32) * (gI σ 125 5))) 269832 = true then (if inB (((23652 : Int32) + ((3 : Int32) * (gI σ 125 5))) + (1 : Int32)) 269832 = true then (lt (sI (sI σ 125 (((23652 : Int32) + ((3 : Int32) * (gI σ 125 5))).toNatClampNeg) x1) 125 ((((23652 : Int32) + ((3 : Int32) * (gI σ 125 5))) + (1 : Int32)).toNatClampNeg) x2) fun τ33 => (if inB (((23652 : Int32) + ((3 : Int32) * (gI σ 125 5))) + (2 : Int32)) 269832 = true then (lt (sI (sI τ33 125 ((((23652 : Int32) + ((3 : Int32) * (gI σ 125 5))) + (2 : Int32)).toNatClampNeg) x3) 125 5 ((gI (sI τ33 125 ((((23652 : Int32) + ((3 : Int32) * (gI σ 125 5))) + (2 : Int32)).toNatClampNeg) x3) 125 5) + (1 : Int32))) fun τ37 => (bd (F_X12_told (gI τ37 125 5) τ37) fun v45 σ41 => (some (v45, σ41)))) else none)) else none) else none)) else (if inB x4 6 = true then (if (gI σ 152 x4.toNatClampNeg) = x1 then (bd (F_X12_told (-3 : Int32) σ) fun v58 σ54 => (some (v58, σ54))) else (k_X12_start_43 x1 x2 x3 (x4 + 1) σ)) else none))
def F_X12_start_43 : Nat → Int32 → Int32 → Int32 → Int32 → AH → Option (Int32 × AH) := fun k => match k with | 0 => fun _ _ _ _ _ => none | k + 1 => B_X12_start_43 (F_X12_start_43 k)
def F_X12_start (x1 : Int32) (x2 : Int32) (x3 : Int32) (σ : AH) : Option (Int32 × AH) := (bd (F_X12_isWeek x2 (sI σ 124 0 (0 : Int32))) fun v6 σ2 => (if v6 = 0 then (F_X12_start_19 σ2) else (bd (F_X12_isWeek x3 σ2) fun v12 σ8 => (if v12 = 0 then (F_X12_start_19 σ8) else (bd (F_X12_isPlot x1 σ8) fun v18 σ14 => (if v18 = 0 then (bd (F_X12_told (-2 : Int32) σ14) fun v24 σ20 => (some (v24, σ20))) else (F_X12_start_43 BIG x1 x2 x3 (0 : Int32) σ14)))))))
set_option maxRecDepth 100000 in
theorem t_X12_start_19 {X : Sx} {l : Launch} {D : Nat} {σ : AH} {v : Int32} {σ' : AH} (hD : 2 ≤ D) (hs : Sh σ) (h : F_X12_start_19 σ = some (v, σ')) : W_X12_start_19 X l D σ (some (.int v)) σ' := by
  unfold F_X12_start_19 at h
  unfold W_X12_start_19
  obtain ⟨v30, σ26, q1, h⟩ := of_bd h
  have hC2 := f_X12_told (σ := σ) hs  q1 (X := X) (l := l)
  have hs3 := hC2.1.2.2.2.1 hs
  refine ⟨0, v30, σ26, (Nat.le_trans (by decide) hD), hC2, ?_⟩
  exact ret_i h
set_option maxRecDepth 100000 in
theorem t_X12_start_43 {X : Sx} {l : Launch} {D : Nat} {k_X12_start_43 : Int32 → Int32 → Int32 → Int32 → AH → Option (Int32 × AH)} {x1 : Int32} {x2 : Int32} {x3 : Int32} {x4 : Int32} {σ : AH} {v : Int32} {σ' : AH} (hD : 2 ≤ D) (hk_X12_start_43 : ∀ (x1 : Int32) (x2 : Int32) (x3 : Int32) (x4 : Int32) (σ : AH) (v : Int32) (σ' : AH), Sh σ → k_X12_start_43 x1 x2 x3 x4 σ = some (v, σ') → E X l m_X12_start D 43 [(0, .ref 124), (1, .int x1), (2, .int x2), (3, .int x3), (4, .int x4)] [] σ (some (.int v)) σ') (hs : Sh σ) (h : B_X12_start_43 k_X12_start_43 x1 x2 x3 x4 σ = some (v, σ')) : W_X12_start_43 X l D x1 x2 x3 x4 σ (some (.int v)) σ' := by
  unfold B_X12_start_43 at h
  unfold W_X12_start_43
  refine ite_i (fun c1 => ?_) (fun c1 => ?_)
  · replace h := of_ifp h c1
    refine ite_i (fun c2 => ?_) (fun c2 => ?_)
    · replace h := of_ifp h c2
      obtain ⟨v51, σ47, q3, h⟩ := of_bd h
      have hC4 := f_X12_told (σ := σ) hs  q3 (X := X) (l := l)
      have hs5 := hC4.1.2.2.2.1 hs
      refine ⟨0, v51, σ47, (Nat.le_trans (by decide) hD), hC4, ?_⟩
      exact ret_i h
    · replace h := of_ifn h c2
      obtain ⟨g6, h⟩ := of_gd h
      refine ⟨(inB_mp g6), ?_⟩
      obtain ⟨g7, h⟩ := of_gd h
      refine ⟨(inB_mp g7), ?_⟩
      intro τ33 e8
      replace h := of_lt h e8
      have hs9 : Sh τ33 := by rw [e8]; exact hs
      obtain ⟨g10, h⟩ := of_gd h
      refine ⟨(inB_mp g10), ?_⟩
      intro τ37 e11
      replace h := of_lt h e11
      have hs12 : Sh τ37 := by rw [e11]; exact hs9
      obtain ⟨v45, σ41, q13, h⟩ := of_bd h
      have hC14 := f_X12_told (σ := τ37) hs12  q13 (X := X) (l := l)
      have hs15 := hC14.1.2.2.2.1 hs12
      refine ⟨0, v45, σ41, (Nat.le_trans (by decide) hD), hC14, ?_⟩
      exact ret_i h
  · replace h := of_ifn h c1
    obtain ⟨g16, h⟩ := of_gd h
    refine ⟨(inB_mp g16), ?_⟩
    refine ite_i (fun c17 => ?_) (fun c17 => ?_)
    · replace h := of_ifp h c17
      obtain ⟨v58, σ54, q18, h⟩ := of_bd h
      have hC19 := f_X12_told (σ := σ) hs  q18 (X := X) (l := l)
      have hs20 := hC19.1.2.2.2.1 hs
      refine ⟨0, v58, σ54, (Nat.le_trans (by decide) hD), hC19, ?_⟩
      exact ret_i h
    · replace h := of_ifn h c17
      exact hk_X12_start_43 _ _ _ _ _ _ _ hs  h
theorem e_X12_start_43 {X : Sx} {l : Launch} {D : Nat} (hD : 2 ≤ D) : ∀ (k : Nat) (x1 : Int32) (x2 : Int32) (x3 : Int32) (x4 : Int32) (σ : AH) (v : Int32) (σ' : AH), Sh σ → F_X12_start_43 k x1 x2 x3 x4 σ = some (v, σ') → E X l m_X12_start D 43 [(0, .ref 124), (1, .int x1), (2, .int x2), (3, .int x3), (4, .int x4)] [] σ (some (.int v)) σ' := by
  intro k
  induction k with
  | zero => intro x1 x2 x3 x4 σ v σ' hs h; cases h
  | succ k ih =>
    intro x1 x2 x3 x4 σ v σ' hs h
    exact w_X12_start_43 hs  (t_X12_start_43 hD ih hs  h)
set_option maxRecDepth 100000 in
theorem t_X12_start_0 {X : Sx} {l : Launch} {D : Nat} {x1 : Int32} {x2 : Int32} {x3 : Int32} {σ : AH} {v : Int32} {σ' : AH} (hD : 2 ≤ D) (hs : Sh σ) (h : F_X12_start x1 x2 x3 σ = some (v, σ')) : W_X12_start_0 X l D x1 x2 x3 σ (some (.int v)) σ' := by
  unfold F_X12_start at h
  unfold W_X12_start_0
  obtain ⟨v6, σ2, q1, h⟩ := of_bd h
  have hC2 := f_X12_isWeek (σ := (sI σ 124 0 (0 : Int32))) hs  q1 (X := X) (l := l)
  have hs3 := hC2.1.2.2.2.1 hs
  refine ⟨1, v6, σ2, (Nat.le_trans (by decide) hD), hC2, ?_⟩
  refine ite_i (fun c4 => ?_) (fun c4 => ?_)
  · replace h := of_ifp h c4
    exact t_X12_start_19 hD  hs3  h
  · replace h := of_ifn h c4
    obtain ⟨v12, σ8, q5, h⟩ := of_bd h
    have hC6 := f_X12_isWeek (σ := σ2) hs3  q5 (X := X) (l := l)
    have hs7 := hC6.1.2.2.2.1 hs3
    refine ⟨1, v12, σ8, (Nat.le_trans (by decide) hD), hC6, ?_⟩
    refine ite_i (fun c8 => ?_) (fun c8 => ?_)
    · replace h := of_ifp h c8
      exact t_X12_start_19 hD  hs7  h
    · replace h := of_ifn h c8
      obtain ⟨v18, σ14, q9, h⟩ := of_bd h
      have hC10 := f_X12_isPlot (σ := σ8) hs7  q9 (X := X) (l := l)
      have hs11 := hC10.1.2.2.2.1 hs7
      refine ⟨1, v18, σ14, (Nat.le_trans (by decide) hD), hC10, ?_⟩
      refine ite_i (fun c12 => ?_) (fun c12 => ?_)
      · replace h := of_ifp h c12
        obtain ⟨v24, σ20, q13, h⟩ := of_bd h
        have hC14 := f_X12_told (σ := σ14) hs11  q13 (X := X) (l := l)
        have hs15 := hC14.1.2.2.2.1 hs11
        refine ⟨0, v24, σ20, (Nat.le_trans (by decide) hD), hC14, ?_⟩
        exact ret_i h
      · replace h := of_ifn h c12
        exact e_X12_start_43 hD  _ _ _ _ _ _ _ _ hs11  h
theorem f_X12_start {X : Sx} {l : Launch} {x1 : Int32} {x2 : Int32} {x3 : Int32} {σ : AH} {v : Int32} {σ' : AH} (hs : Sh σ) (h : F_X12_start x1 x2 x3 σ = some (v, σ')) : Call X l m_X12_start 2 [.ref 124, .int x1, .int x2, .int x3] σ (some (.int v)) σ' :=
  Call.ofE ok_X12_start rfl (Nat.le_of_ble_eq_true rfl) (w_X12_start_0 hs  (t_X12_start_0 (Nat.le_refl _) hs  h))
def F_X12_findStarts_89 (k_X12_findStarts_30 : Int32 → AH → Option AH) (x1 : Int32) (y0 : Int32) (y1 : Int32) (σ : AH) : Option AH := (if inB y1 30 = true then (k_X12_findStarts_30 (x1 + (-1)) (sI σ 140 y1.toNatClampNeg y0)) else none)
def B_X12_findStarts_30 (k_X12_findStarts_30 : Int32 → AH → Option AH) (x1 : Int32) (σ : AH) : Option AH := (if x1 < 0 then (some σ) else (if inB ((23652 : Int32) + ((3 : Int32) * x1)) 269832 = true then (if inB (((23652 : Int32) + ((3 : Int32) * x1)) + (2 : Int32)) 269832 = true then (if (gI σ 124 23) < (gI σ 125 (((23652 : Int32) + ((3 : Int32) * x1)) + (2 : Int32)).toNatClampNeg) then (if inB ((23652 : Int32) + ((3 : Int32) * x1)) 269832 = true then (if inB (gI σ 125 ((23652 : Int32) + ((3 : Int32) * x1)).toNatClampNeg) 30 = true then (F_X12_findStarts_89 k_X12_findStarts_30 x1 (gI σ 140 (gI σ 125 ((23652 : Int32) + ((3 : Int32) * x1)).toNatClampNeg).toNatClampNeg) (gI σ 125 ((23652 : Int32) + ((3 : Int32) * x1)).toNatClampNeg) σ) else none) else none) else (if inB (((23652 : Int32) + ((3 : Int32) * x1)) + (1 : Int32)) 269832 = true then (F_X12_findStarts_89 k_X12_findStarts_30 x1 (gI σ 125 (((23652 : Int32) + ((3 : Int32) * x1)) + (1 : Int32)).toNatClampNeg) (gI σ 125 ((23652 : Int32) + ((3 : Int32) * x1)).toNatClampNeg) σ) else none)) else none) else none))
def F_X12_findStarts_30 : Nat → Int32 → AH → Option AH := fun k => match k with | 0 => fun _ _ => none | k + 1 => B_X12_findStarts_30 (F_X12_findStarts_30 k)
def B_X12_findStarts_2 (k_X12_findStarts_2 : Int32 → AH → Option AH) (x1 : Int32) (σ : AH) : Option AH := (if (30 : Int32) ≤ x1 then (F_X12_findStarts_30 BIG ((gI σ 125 5) - (1 : Int32)) σ) else (if inB x1 30 = true then (k_X12_findStarts_2 (x1 + 1) (sI σ 140 x1.toNatClampNeg (-1 : Int32))) else none))
def F_X12_findStarts_2 : Nat → Int32 → AH → Option AH := fun k => match k with | 0 => fun _ _ => none | k + 1 => B_X12_findStarts_2 (F_X12_findStarts_2 k)
def F_X12_findStarts (σ : AH) : Option AH := (F_X12_findStarts_2 BIG (0 : Int32) σ)
set_option maxRecDepth 100000 in
theorem t_X12_findStarts_89 {X : Sx} {l : Launch} {D : Nat} {k_X12_findStarts_30 : Int32 → AH → Option AH} {x1 : Int32} {y0 : Int32} {y1 : Int32} {σ : AH} {σ' : AH} (hD : 0 ≤ D) (hk_X12_findStarts_30 : ∀ (x1 : Int32) (σ : AH) (σ' : AH), Sh σ → k_X12_findStarts_30 x1 σ = some σ' → E X l m_X12_findStarts D 30 [(0, .ref 124), (1, .int x1)] [] σ none σ') (hs : Sh σ) (h : F_X12_findStarts_89 k_X12_findStarts_30 x1 y0 y1 σ = some σ') : W_X12_findStarts_89 X l D x1 y0 y1 σ none σ' := by
  unfold F_X12_findStarts_89 at h
  unfold W_X12_findStarts_89
  obtain ⟨g1, h⟩ := of_gd h
  refine ⟨(inB_mp g1), ?_⟩
  exact hk_X12_findStarts_30 _ _ _ hs  h
set_option maxRecDepth 100000 in
theorem t_X12_findStarts_30 {X : Sx} {l : Launch} {D : Nat} {k_X12_findStarts_30 : Int32 → AH → Option AH} {x1 : Int32} {σ : AH} {σ' : AH} (hD : 0 ≤ D) (hk_X12_findStarts_30 : ∀ (x1 : Int32) (σ : AH) (σ' : AH), Sh σ → k_X12_findStarts_30 x1 σ = some σ' → E X l m_X12_findStarts D 30 [(0, .ref 124), (1, .int x1)] [] σ none σ') (hs : Sh σ) (h : B_X12_findStarts_30 k_X12_findStarts_30 x1 σ = some σ') : W_X12_findStarts_30 X l D x1 σ none σ' := by
  unfold B_X12_findStarts_30 at h
  unfold W_X12_findStarts_30
  refine ite_i (fun c1 => ?_) (fun c1 => ?_)
  · replace h := of_ifp h c1
    exact ret_v h
  · replace h := of_ifn h c1
    obtain ⟨g2, h⟩ := of_gd h
    refine ⟨(inB_mp g2), ?_⟩
    obtain ⟨g3, h⟩ := of_gd h
    refine ⟨(inB_mp g3), ?_⟩
    refine ite_i (fun c4 => ?_) (fun c4 => ?_)
    · replace h := of_ifp h c4
      obtain ⟨g5, h⟩ := of_gd h
      refine ⟨(inB_mp g5), ?_⟩
      obtain ⟨g6, h⟩ := of_gd h
      refine ⟨(inB_mp g6), ?_⟩
      exact t_X12_findStarts_89 hD hk_X12_findStarts_30 hs  h
    · replace h := of_ifn h c4
      obtain ⟨g7, h⟩ := of_gd h
      refine ⟨(inB_mp g7), ?_⟩
      exact t_X12_findStarts_89 hD hk_X12_findStarts_30 hs  h
theorem e_X12_findStarts_30 {X : Sx} {l : Launch} {D : Nat} (hD : 0 ≤ D) : ∀ (k : Nat) (x1 : Int32) (σ : AH) (σ' : AH), Sh σ → F_X12_findStarts_30 k x1 σ = some σ' → E X l m_X12_findStarts D 30 [(0, .ref 124), (1, .int x1)] [] σ none σ' := by
  intro k
  induction k with
  | zero => intro x1 σ σ' hs h; cases h
  | succ k ih =>
    intro x1 σ σ' hs h
    exact w_X12_findStarts_30 hs  (t_X12_findStarts_30 hD ih hs  h)
set_option maxRecDepth 100000 in
theorem t_X12_findStarts_2 {X : Sx} {l : Launch} {D : Nat} {k_X12_findStarts_2 : Int32 → AH → Option AH} {x1 : Int32} {σ : AH} {σ' : AH} (hD : 0 ≤ D) (hk_X12_findStarts_2 : ∀ (x1 : Int32) (σ : AH) (σ' : AH), Sh σ → k_X12_findStarts_2 x1 σ = some σ' → E X l m_X12_findStarts D 2 [(0, .ref 124), (1, .int x1)] [] σ none σ') (hs : Sh σ) (h : B_X12_findStarts_2 k_X12_findStarts_2 x1 σ = some σ') : W_X12_findStarts_2 X l D x1 σ none σ' := by
  unfold B_X12_findStarts_2 at h
  unfold W_X12_findStarts_2
  refine ite_i (fun c1 => ?_) (fun c1 => ?_)
  · replace h := of_ifp h c1
    exact e_X12_findStarts_30 hD  _ _ _ _ hs  h
  · replace h := of_ifn h c1
    obtain ⟨g2, h⟩ := of_gd h
    refine ⟨(inB_mp g2), ?_⟩
    exact hk_X12_findStarts_2 _ _ _ hs  h
theorem e_X12_findStarts_2 {X : Sx} {l : Launch} {D : Nat} (hD : 0 ≤ D) : ∀ (k : Nat) (x1 : Int32) (σ : AH) (σ' : AH), Sh σ → F_X12_findStarts_2 k x1 σ = some σ' → E X l m_X12_findStarts D 2 [(0, .ref 124), (1, .int x1)] [] σ none σ' := by
  intro k
  induction k with
  | zero => intro x1 σ σ' hs h; cases h
  | succ k ih =>
    intro x1 σ σ' hs h
    exact w_X12_findStarts_2 hs  (t_X12_findStarts_2 hD ih hs  h)
set_option maxRecDepth 100000 in
theorem t_X12_findStarts_0 {X : Sx} {l : Launch} {D : Nat} {σ : AH} {σ' : AH} (hD : 0 ≤ D) (hs : Sh σ) (h : F_X12_findStarts σ = some σ') : W_X12_findStarts_0 X l D σ none σ' := by
  unfold F_X12_findStarts at h
  unfold W_X12_findStarts_0
  exact e_X12_findStarts_2 hD  _ _ _ _ hs  h
theorem f_X12_findStarts {X : Sx} {l : Launch} {σ : AH} {σ' : AH} (hs : Sh σ) (h : F_X12_findStarts σ = some σ') : Call X l m_X12_findStarts 0 [.ref 124] σ none σ' :=
  Call.ofE ok_X12_findStarts rfl (Nat.le_of_ble_eq_true rfl) (w_X12_findStarts_0 hs  (t_X12_findStarts_0 (Nat.le_refl _) hs  h))
def F_X12_license_215 (k_X12_license_2 : Int32 → AH → Option AH) (x1 : Int32) (σ : AH) : Option AH := (k_X12_license_2 (x1 + 1) σ)
def F_X12_license_214 (k_X12_license_2 : Int32 → AH → Option AH) (x1 : Int32) (y0 : Int32) (y1 : Int32) (σ : AH) : Option AH := (if inB y1 30 = true then (F_X12_license_215 k_X12_license_2 x1 (sI σ 141 y1.toNatClampNeg (vp_nar .boolean y0))) else none)
def F_X12_license_209 (k_X12_license_2 : Int32 → AH → Option AH) (x1 : Int32) (y0 : Int32) (σ : AH) : Option AH := (F_X12_license_214 k_X12_license_2 x1 (1 : Int32) y0 σ)
def F_X12_license_153 (k_X12_license_2 : Int32 → AH → Option AH) (k_X12_license_33 : Int32 → Int32 → Int32 → AH → Option AH) (x1 : Int32) (x3 : Int32) (y0 : Int32) (y1 : Int32) (σ : AH) : Option AH := (k_X12_license_33 x1 (y1 + y0) (x3 + 1) σ)
def F_X12_license_152 (k_X12_license_2 : Int32 → AH → Option AH) (k_X12_license_33 : Int32 → Int32 → Int32 → AH → Option AH) (x1 : Int32) (x3 : Int32) (y0 : Int32) (σ : AH) : Option AH := (F_X12_license_153 k_X12_license_2 k_X12_license_33 x1 x3 (0 : Int32) y0 σ)
def F_X12_license_148 (k_X12_license_2 : Int32 → AH → Option AH) (k_X12_license_33 : Int32 → Int32 → Int32 → AH → Option AH) (x1 : Int32) (x3 : Int32) (y0 : Int32) (σ : AH) : Option AH := (F_X12_license_153 k_X12_license_2 k_X12_license_33 x1 x3 (1 : Int32) y0 σ)
def F_X12_license_105 (k_X12_license_2 : Int32 → AH → Option AH) (k_X12_license_33 : Int32 → Int32 → Int32 → AH → Option AH) (x1 : Int32) (x2 : Int32) (x3 : Int32) (y0 : Int32) (σ : AH) : Option AH := (if y0 = 0 then (F_X12_license_152 k_X12_license_2 k_X12_license_33 x1 x3 x2 σ) else (if inB x3 30 = true then (if inB x1 30 = true then (if (gI σ 140 x3.toNatClampNeg) < (gI σ 140 x1.toNatClampNeg) then (F_X12_license_148 k_X12_license_2 k_X12_license_33 x1 x3 x2 σ) else (if inB x3 30 = true then (if inB x1 30 = true then (if (gI σ 140 x3.toNatClampNeg) = (gI σ 140 x1.toNatClampNeg) then (if x1 ≤ x3 then (F_X12_license_152 k_X12_license_2 k_X12_license_33 x1 x3 x2 σ) else (F_X12_license_148 k_X12_license_2 k_X12_license_33 x1 x3 x2 σ)) else (F_X12_license_152 k_X12_license_2 k_X12_license_33 x1 x3 x2 σ)) else none) else none)) else none) else none))
def F_X12_license_104 (k_X12_license_2 : Int32 → AH → Option AH) (k_X12_license_33 : Int32 → Int32 → Int32 → AH → Option AH) (x1 : Int32) (x2 : Int32) (x3 : Int32) (σ : AH) : Option AH := (F_X12_license_105 k_X12_license_2 k_X12_license_33 x1 x2 x3 (0 : Int32) σ)
def B_X12_license_33 (k_X12_license_2 : Int32 → AH → Option AH) (k_X12_license_33 : Int32 → Int32 → Int32 → AH → Option AH) (x1 : Int32) (x2 : Int32) (x3 : Int32) (σ : AH) : Option AH := (if (gI σ 125 4) ≤ x3 then (if inB x1 30 = true then (bv (F_X12_setOnly (0 : Int32) (((gI σ 140 x1.toNatClampNeg) / (13 : Int32)) * (13 : Int32)) σ) fun σ5 => (bd (F_X12_kindOf x1 σ5) fun v14 σ10 => (bd (F_X12_find (4 : Int32) v14 (0 : Int32) (0 : Int32) (((gI σ 140 x1.toNatClampNeg) / (13 : Int32)) * (13 : Int32)) σ10) fun v20 σ16 => (if v20 = 0 then (F_X12_license_209 k_X12_license_2 x1 x1 σ16) else (bd (F_X12_atLeastNought σ16) fun v26 σ22 => (if v26 ≤ x2 then (F_X12_license_214 k_X12_license_2 x1 (0 : Int32) x1 σ22) else (F_X12_license_209 k_X12_license_2 x1 x1 σ22))))))) else none) else (if inB x3 30 = true then (if (gI σ 140 x3.toNatClampNeg) = (-1 : Int32) then (F_X12_license_104 k_X12_license_2 k_X12_license_33 x1 x2 x3 σ) else (bd (F_X12_councilOf x3 σ) fun v33 σ29 => (bd (F_X12_councilOf x1 σ29) fun v39 σ35 => (if v33 = v39 then (bd (F_X12_kindOf x3 σ35) fun v45 σ41 => (bd (F_X12_kindOf x1 σ41) fun v51 σ47 => (if v45 = v51 then (if inB x3 30 = true then (if inB x1 30 = true then (if ((gI σ47 140 x3.toNatClampNeg) / (13 : Int32)) = ((gI σ47 140 x1.toNatClampNeg) / (13 : Int32)) then (F_X12_license_105 k_X12_license_2 k_X12_license_33 x1 x2 x3 (1 : Int32) σ47) else (F_X12_license_104 k_X12_license_2 k_X12_license_33 x1 x2 x3 σ47)) else none) else none) else (F_X12_license_104 k_X12_license_2 k_X12_license_33 x1 x2 x3 σ47)))) else (F_X12_license_104 k_X12_license_2 k_X12_license_33 x1 x2 x3 σ35))))) else none))
def F_X12_license_33 (k_X12_license_2 : Int32 → AH → Option AH) : Nat → Int32 → Int32 → Int32 → AH → Option AH := fun k => match k with | 0 => fun _ _ _ _ => none | k + 1 => B_X12_license_33 k_X12_license_2 (F_X12_license_33 k_X12_license_2 k)
def B_X12_license_2 (k_X12_license_2 : Int32 → AH → Option AH) (x1 : Int32) (σ : AH) : Option AH := (if (gI σ 125 4) ≤ x1 then (some σ) else (if inB x1 30 = true then (if inB x1 30 = true then (if (gI (sI σ 141 x1.toNatClampNeg (0 : Int32)) 140 x1.toNatClampNeg) = (-1 : Int32) then (F_X12_license_215 k_X12_license_2 x1 (sI σ 141 x1.toNatClampNeg (0 : Int32))) else (F_X12_license_33 k_X12_license_2 BIG x1 (0 : Int32) (0 : Int32) (sI σ 141 x1.toNatClampNeg (0 : Int32)))) else none) else none))
def F_X12_license_2 : Nat → Int32 → AH → Option AH := fun k => match k with | 0 => fun _ _ => none | k + 1 => B_X12_license_2 (F_X12_license_2 k)
def F_X12_license (σ : AH) : Option AH := (F_X12_license_2 BIG (0 : Int32) σ)
set_option maxRecDepth 100000 in
theorem t_X12_license_215 {X : Sx} {l : Launch} {D : Nat} {k_X12_license_2 : Int32 → AH → Option AH} {x1 : Int32} {σ : AH} {σ' : AH} (hD : 5 ≤ D) (hk_X12_license_2 : ∀ (x1 : Int32) (σ : AH) (σ' : AH), Sh σ → k_X12_license_2 x1 σ = some σ' → E X l m_X12_license D 2 [(0, .ref 124), (1, .int x1)] [] σ none σ') (hs : Sh σ) (h : F_X12_license_215 k_X12_license_2 x1 σ = some σ') : W_X12_license_215 X l D x1 σ none σ' := by
  unfold F_X12_license_215 at h
  unfold W_X12_license_215
  exact hk_X12_license_2 _ _ _ hs  h
set_option maxRecDepth 100000 in
theorem t_X12_license_214 {X : Sx} {l : Launch} {D : Nat} {k_X12_license_2 : Int32 → AH → Option AH} {x1 : Int32} {y0 : Int32} {y1 : Int32} {σ : AH} {σ' : AH} (hD : 5 ≤ D) (hk_X12_license_2 : ∀ (x1 : Int32) (σ : AH) (σ' : AH), Sh σ → k_X12_license_2 x1 σ = some σ' → E X l m_X12_license D 2 [(0, .ref 124), (1, .int x1)] [] σ none σ') (hs : Sh σ) (h : F_X12_license_214 k_X12_license_2 x1 y0 y1 σ = some σ') : W_X12_license_214 X l D x1 y0 y1 σ none σ' := by
  unfold F_X12_license_214 at h
  unfold W_X12_license_214
  obtain ⟨g1, h⟩ := of_gd h
  refine ⟨(inB_mp g1), ?_⟩
  exact t_X12_license_215 hD hk_X12_license_2 hs  h
set_option maxRecDepth 100000 in
theorem t_X12_license_209 {X : Sx} {l : Launch} {D : Nat} {k_X12_license_2 : Int32 → AH → Option AH} {x1 : Int32} {y0 : Int32} {σ : AH} {σ' : AH} (hD : 5 ≤ D) (hk_X12_license_2 : ∀ (x1 : Int32) (σ : AH) (σ' : AH), Sh σ → k_X12_license_2 x1 σ = some σ' → E X l m_X12_license D 2 [(0, .ref 124), (1, .int x1)] [] σ none σ') (hs : Sh σ) (h : F_X12_license_209 k_X12_license_2 x1 y0 σ = some σ') : W_X12_license_209 X l D x1 y0 σ none σ' := by
  unfold F_X12_license_209 at h
  unfold W_X12_license_209
  exact t_X12_license_214 hD hk_X12_license_2 hs  h
set_option maxRecDepth 100000 in
theorem t_X12_license_153 {X : Sx} {l : Launch} {D : Nat} {k_X12_license_2 : Int32 → AH → Option AH} {k_X12_license_33 : Int32 → Int32 → Int32 → AH → Option AH} {x1 : Int32} {x3 : Int32} {y0 : Int32} {y1 : Int32} {σ : AH} {σ' : AH} (hD : 5 ≤ D) (hk_X12_license_2 : ∀ (x1 : Int32) (σ : AH) (σ' : AH), Sh σ → k_X12_license_2 x1 σ = some σ' → E X l m_X12_license D 2 [(0, .ref 124), (1, .int x1)] [] σ none σ') (hk_X12_license_33 : ∀ (x1 : Int32) (x2 : Int32) (x3 : Int32) (σ : AH) (σ' : AH), Sh σ → k_X12_license_33 x1 x2 x3 σ = some σ' → E X l m_X12_license D 33 [(0, .ref 124), (1, .int x1), (2, .int x2), (3, .int x3)] [] σ none σ') (hs : Sh σ) (h : F_X12_license_153 k_X12_license_2 k_X12_license_33 x1 x3 y0 y1 σ = some σ') : W_X12_license_153 X l D x1 x3 y0 y1 σ none σ' := by
  unfold F_X12_license_153 at h
  unfold W_X12_license_153
  exact hk_X12_license_33 _ _ _ _ _ hs  h
set_option maxRecDepth 100000 in
theorem t_X12_license_152 {X : Sx} {l : Launch} {D : Nat} {k_X12_license_2 : Int32 → AH → Option AH} {k_X12_license_33 : Int32 → Int32 → Int32 → AH → Option AH} {x1 : Int32} {x3 : Int32} {y0 : Int32} {σ : AH} {σ' : AH} (hD : 5 ≤ D) (hk_X12_license_2 : ∀ (x1 : Int32) (σ : AH) (σ' : AH), Sh σ → k_X12_license_2 x1 σ = some σ' → E X l m_X12_license D 2 [(0, .ref 124), (1, .int x1)] [] σ none σ') (hk_X12_license_33 : ∀ (x1 : Int32) (x2 : Int32) (x3 : Int32) (σ : AH) (σ' : AH), Sh σ → k_X12_license_33 x1 x2 x3 σ = some σ' → E X l m_X12_license D 33 [(0, .ref 124), (1, .int x1), (2, .int x2), (3, .int x3)] [] σ none σ') (hs : Sh σ) (h : F_X12_license_152 k_X12_license_2 k_X12_license_33 x1 x3 y0 σ = some σ') : W_X12_license_152 X l D x1 x3 y0 σ none σ' := by
  unfold F_X12_license_152 at h
  unfold W_X12_license_152
  exact t_X12_license_153 hD hk_X12_license_2 hk_X12_license_33 hs  h
set_option maxRecDepth 100000 in
theorem t_X12_license_148 {X : Sx} {l : Launch} {D : Nat} {k_X12_license_2 : Int32 → AH → Option AH} {k_X12_license_33 : Int32 → Int32 → Int32 → AH → Option AH} {x1 : Int32} {x3 : Int32} {y0 : Int32} {σ : AH} {σ' : AH} (hD : 5 ≤ D) (hk_X12_license_2 : ∀ (x1 : Int32) (σ : AH) (σ' : AH), Sh σ → k_X12_license_2 x1 σ = some σ' → E X l m_X12_license D 2 [(0, .ref 124), (1, .int x1)] [] σ none σ') (hk_X12_license_33 : ∀ (x1 : Int32) (x2 : Int32) (x3 : Int32) (σ : AH) (σ' : AH), Sh σ → k_X12_license_33 x1 x2 x3 σ = some σ' → E X l m_X12_license D 33 [(0, .ref 124), (1, .int x1), (2, .int x2), (3, .int x3)] [] σ none σ') (hs : Sh σ) (h : F_X12_license_148 k_X12_license_2 k_X12_license_33 x1 x3 y0 σ = some σ') : W_X12_license_148 X l D x1 x3 y0 σ none σ' := by
  unfold F_X12_license_148 at h
  unfold W_X12_license_148
  exact t_X12_license_153 hD hk_X12_license_2 hk_X12_license_33 hs  h
set_option maxRecDepth 100000 in
theorem t_X12_license_105 {X : Sx} {l : Launch} {D : Nat} {k_X12_license_2 : Int32 → AH → Option AH} {k_X12_license_33 : Int32 → Int32 → Int32 → AH → Option AH} {x1 : Int32} {x2 : Int32} {x3 : Int32} {y0 : Int32} {σ : AH} {σ' : AH} (hD : 5 ≤ D) (hk_X12_license_2 : ∀ (x1 : Int32) (σ : AH) (σ' : AH), Sh σ → k_X12_license_2 x1 σ = some σ' → E X l m_X12_license D 2 [(0, .ref 124), (1, .int x1)] [] σ none σ') (hk_X12_license_33 : ∀ (x1 : Int32) (x2 : Int32) (x3 : Int32) (σ : AH) (σ' : AH), Sh σ → k_X12_license_33 x1 x2 x3 σ = some σ' → E X l m_X12_license D 33 [(0, .ref 124), (1, .int x1), (2, .int x2), (3, .int x3)] [] σ none σ') (hs : Sh σ) (h : F_X12_license_105 k_X12_license_2 k_X12_license_33 x1 x2 x3 y0 σ = some σ') : W_X12_license_105 X l D x1 x2 x3 y0 σ none σ' := by
  unfold F_X12_license_105 at h
  unfold W_X12_license_105
  refine ite_i (fun c1 => ?_) (fun c1 => ?_)
  · replace h := of_ifp h c1
    exact t_X12_license_152 hD hk_X12_license_2 hk_X12_license_33 hs  h
  · replace h := of_ifn h c1
    obtain ⟨g2, h⟩ := of_gd h
    refine ⟨(inB_mp g2), ?_⟩
    obtain ⟨g3, h⟩ := of_gd h
    refine ⟨(inB_mp g3), ?_⟩
    refine ite_i (fun c4 => ?_) (fun c4 => ?_)
    · replace h := of_ifp h c4
      exact t_X12_license_148 hD hk_X12_license_2 hk_X12_license_33 hs  h
    · replace h := of_ifn h c4
      obtain ⟨g5, h⟩ := of_gd h
      refine ⟨(inB_mp g5), ?_⟩
      obtain ⟨g6, h⟩ := of_gd h
      refine ⟨(inB_mp g6), ?_⟩
      refine ite_i (fun c7 => ?_) (fun c7 => ?_)
      · replace h := of_ifp h c7
        refine ite_i (fun c8 => ?_) (fun c8 => ?_)
        · replace h := of_ifp h c8
          exact t_X12_license_152 hD hk_X12_license_2 hk_X12_license_33 hs  h
        · replace h := of_ifn h c8
          exact t_X12_license_148 hD hk_X12_license_2 hk_X12_license_33 hs  h
      · replace h := of_ifn h c7
        exact t_X12_license_152 hD hk_X12_license_2 hk_X12_license_33 hs  h
set_option maxRecDepth 100000 in
theorem t_X12_license_104 {X : Sx} {l : Launch} {D : Nat} {k_X12_license_2 : Int32 → AH → Option AH} {k_X12_license_33 : Int32 → Int32 → Int32 → AH → Option AH} {x1 : Int32} {x2 : Int32} {x3 : Int32} {σ : AH} {σ' : AH} (hD : 5 ≤ D) (hk_X12_license_2 : ∀ (x1 : Int32) (σ : AH) (σ' : AH), Sh σ → k_X12_license_2 x1 σ = some σ' → E X l m_X12_license D 2 [(0, .ref 124), (1, .int x1)] [] σ none σ') (hk_X12_license_33 : ∀ (x1 : Int32) (x2 : Int32) (x3 : Int32) (σ : AH) (σ' : AH), Sh σ → k_X12_license_33 x1 x2 x3 σ = some σ' → E X l m_X12_license D 33 [(0, .ref 124), (1, .int x1), (2, .int x2), (3, .int x3)] [] σ none σ') (hs : Sh σ) (h : F_X12_license_104 k_X12_license_2 k_X12_license_33 x1 x2 x3 σ = some σ') : W_X12_license_104 X l D x1 x2 x3 σ none σ' := by
  unfold F_X12_license_104 at h
  unfold W_X12_license_104
  exact t_X12_license_105 hD hk_X12_license_2 hk_X12_license_33 hs  h
set_option maxRecDepth 100000 in
theorem t_X12_license_33 {X : Sx} {l : Launch} {D : Nat} {k_X12_license_2 : Int32 → AH → Option AH} {k_X12_license_33 : Int32 → Int32 → Int32 → AH → Option AH} {x1 : Int32} {x2 : Int32} {x3 : Int32} {σ : AH} {σ' : AH} (hD : 5 ≤ D) (hk_X12_license_2 : ∀ (x1 : Int32) (σ : AH) (σ' : AH), Sh σ → k_X12_license_2 x1 σ = some σ' → E X l m_X12_license D 2 [(0, .ref 124), (1, .int x1)] [] σ none σ') (hk_X12_license_33 : ∀ (x1 : Int32) (x2 : Int32) (x3 : Int32) (σ : AH) (σ' : AH), Sh σ → k_X12_license_33 x1 x2 x3 σ = some σ' → E X l m_X12_license D 33 [(0, .ref 124), (1, .int x1), (2, .int x2), (3, .int x3)] [] σ none σ') (hs : Sh σ) (h : B_X12_license_33 k_X12_license_2 k_X12_license_33 x1 x2 x3 σ = some σ') : W_X12_license_33 X l D x1 x2 x3 σ none σ' := by
  unfold B_X12_license_33 at h
  unfold W_X12_license_33
  refine ite_i (fun c1 => ?_) (fun c1 => ?_)
  · replace h := of_ifp h c1
    obtain ⟨g2, h⟩ := of_gd h
    refine ⟨(inB_mp g2), ?_⟩
    obtain ⟨σ5, q3, h⟩ := of_bv h
    have hC4 := f_X12_setOnly (σ := σ) hs  q3 (X := X) (l := l)
    have hs5 := hC4.1.2.2.2.1 hs
    refine ⟨0, σ5, (Nat.le_trans (by decide) hD), hC4, ?_⟩
    obtain ⟨v14, σ10, q6, h⟩ := of_bd h
    have hC7 := f_X12_kindOf (σ := σ5) hs5  q6 (X := X) (l := l)
    have hs8 := hC7.1.2.2.2.1 hs5
    refine ⟨0, v14, σ10, (Nat.le_trans (by decide) hD), hC7, ?_⟩
    obtain ⟨v20, σ16, q9, h⟩ := of_bd h
    have hC10 := f_X12_find (σ := σ10) hs8  q9 (X := X) (l := l)
    have hs11 := hC10.1.2.2.2.1 hs8
    refine ⟨4, v20, σ16, (Nat.le_trans (by decide) hD), hC10, ?_⟩
    refine ite_i (fun c12 => ?_) (fun c12 => ?_)
    · replace h := of_ifp h c12
      exact t_X12_license_209 hD hk_X12_license_2 hs11  h
    · replace h := of_ifn h c12
      obtain ⟨v26, σ22, q13, h⟩ := of_bd h
      have hC14 := f_X12_atLeastNought (σ := σ16) hs11  q13 (X := X) (l := l)
      have hs15 := hC14.1.2.2.2.1 hs11
      refine ⟨0, v26, σ22, (Nat.le_trans (by decide) hD), hC14, ?_⟩
      refine ite_i (fun c16 => ?_) (fun c16 => ?_)
      · replace h := of_ifp h c16
        exact t_X12_license_214 hD hk_X12_license_2 hs15  h
      · replace h := of_ifn h c16
        exact t_X12_license_209 hD hk_X12_license_2 hs15  h
  · replace h := of_ifn h c1
    obtain ⟨g17, h⟩ := of_gd h
    refine ⟨(inB_mp g17), ?_⟩
    refine ite_i (fun c18 => ?_) (fun c18 => ?_)
    · replace h := of_ifp h c18
      exact t_X12_license_104 hD hk_X12_license_2 hk_X12_license_33 hs  h
    · replace h := of_ifn h c18
      obtain ⟨v33, σ29, q19, h⟩ := of_bd h
      have hC20 := f_X12_councilOf (σ := σ) hs  q19 (X := X) (l := l)
      have hs21 := hC20.1.2.2.2.1 hs
      refine ⟨0, v33, σ29, (Nat.le_trans (by decide) hD), hC20, ?_⟩
      obtain ⟨v39, σ35, q22, h⟩ := of_bd h
      have hC23 := f_X12_councilOf (σ := σ29) hs21  q22 (X := X) (l := l)
      have hs24 := hC23.1.2.2.2.1 hs21
      refine ⟨0, v39, σ35, (Nat.le_trans (by decide) hD), hC23, ?_⟩
      refine ite_i (fun c25 => ?_) (fun c25 => ?_)
      · replace h := of_ifp h c25
        obtain ⟨v45, σ41, q26, h⟩ := of_bd h
        have hC27 := f_X12_kindOf (σ := σ35) hs24  q26 (X := X) (l := l)
        have hs28 := hC27.1.2.2.2.1 hs24
        refine ⟨0, v45, σ41, (Nat.le_trans (by decide) hD), hC27, ?_⟩
        obtain ⟨v51, σ47, q29, h⟩ := of_bd h
        have hC30 := f_X12_kindOf (σ := σ41) hs28  q29 (X := X) (l := l)
        have hs31 := hC30.1.2.2.2.1 hs28
        refine ⟨0, v51, σ47, (Nat.le_trans (by decide) hD), hC30, ?_⟩
        refine ite_i (fun c32 => ?_) (fun c32 => ?_)
        · replace h := of_ifp h c32
          obtain ⟨g33, h⟩ := of_gd h
          refine ⟨(inB_mp g33), ?_⟩
          obtain ⟨g34, h⟩ := of_gd h
          refine ⟨(inB_mp g34), ?_⟩
          refine ite_i (fun c35 => ?_) (fun c35 => ?_)
          · replace h := of_ifp h c35
            exact t_X12_license_105 hD hk_X12_license_2 hk_X12_license_33 hs31  h
          · replace h := of_ifn h c35
            exact t_X12_license_104 hD hk_X12_license_2 hk_X12_license_33 hs31  h
        · replace h := of_ifn h c32
          exact t_X12_license_104 hD hk_X12_license_2 hk_X12_license_33 hs31  h
      · replace h := of_ifn h c25
        exact t_X12_license_104 hD hk_X12_license_2 hk_X12_license_33 hs24  h
theorem e_X12_license_33 {X : Sx} {l : Launch} {D : Nat} {k_X12_license_2 : Int32 → AH → Option AH} (hD : 5 ≤ D) (hk_X12_license_2 : ∀ (x1 : Int32) (σ : AH) (σ' : AH), Sh σ → k_X12_license_2 x1 σ = some σ' → E X l m_X12_license D 2 [(0, .ref 124), (1, .int x1)] [] σ none σ') : ∀ (k : Nat) (x1 : Int32) (x2 : Int32) (x3 : Int32) (σ : AH) (σ' : AH), Sh σ → F_X12_license_33 k_X12_license_2 k x1 x2 x3 σ = some σ' → E X l m_X12_license D 33 [(0, .ref 124), (1, .int x1), (2, .int x2), (3, .int x3)] [] σ none σ' := by
  intro k
  induction k with
  | zero => intro x1 x2 x3 σ σ' hs h; cases h
  | succ k ih =>
    intro x1 x2 x3 σ σ' hs h
    exact w_X12_license_33 hs  (t_X12_license_33 hD hk_X12_license_2 ih hs  h)
set_option maxRecDepth 100000 in
theorem t_X12_license_2 {X : Sx} {l : Launch} {D : Nat} {k_X12_license_2 : Int32 → AH → Option AH} {x1 : Int32} {σ : AH} {σ' : AH} (hD : 5 ≤ D) (hk_X12_license_2 : ∀ (x1 : Int32) (σ : AH) (σ' : AH), Sh σ → k_X12_license_2 x1 σ = some σ' → E X l m_X12_license D 2 [(0, .ref 124), (1, .int x1)] [] σ none σ') (hs : Sh σ) (h : B_X12_license_2 k_X12_license_2 x1 σ = some σ') : W_X12_license_2 X l D x1 σ none σ' := by
  unfold B_X12_license_2 at h
  unfold W_X12_license_2
  refine ite_i (fun c1 => ?_) (fun c1 => ?_)
  · replace h := of_ifp h c1
    exact ret_v h
  · replace h := of_ifn h c1
    obtain ⟨g2, h⟩ := of_gd h
    refine ⟨(inB_mp g2), ?_⟩
    obtain ⟨g3, h⟩ := of_gd h
    refine ⟨(inB_mp g3), ?_⟩
    refine ite_i (fun c4 => ?_) (fun c4 => ?_)
    · replace h := of_ifp h c4
      exact t_X12_license_215 hD hk_X12_license_2 hs  h
    · replace h := of_ifn h c4
      exact e_X12_license_33 hD hk_X12_license_2 _ _ _ _ _ _ hs  h
theorem e_X12_license_2 {X : Sx} {l : Launch} {D : Nat} (hD : 5 ≤ D) : ∀ (k : Nat) (x1 : Int32) (σ : AH) (σ' : AH), Sh σ → F_X12_license_2 k x1 σ = some σ' → E X l m_X12_license D 2 [(0, .ref 124), (1, .int x1)] [] σ none σ' := by
  intro k
  induction k with
  | zero => intro x1 σ σ' hs h; cases h
  | succ k ih =>
    intro x1 σ σ' hs h
    exact w_X12_license_2 hs  (t_X12_license_2 hD ih hs  h)
set_option maxRecDepth 100000 in
theorem t_X12_license_0 {X : Sx} {l : Launch} {D : Nat} {σ : AH} {σ' : AH} (hD : 5 ≤ D) (hs : Sh σ) (h : F_X12_license σ = some σ') : W_X12_license_0 X l D σ none σ' := by
  unfold F_X12_license at h
  unfold W_X12_license_0
  exact e_X12_license_2 hD  _ _ _ _ hs  h
theorem f_X12_license {X : Sx} {l : Launch} {σ : AH} {σ' : AH} (hs : Sh σ) (h : F_X12_license σ = some σ') : Call X l m_X12_license 5 [.ref 124] σ none σ' :=
  Call.ofE ok_X12_license rfl (Nat.le_of_ble_eq_true rfl) (w_X12_license_0 hs  (t_X12_license_0 (Nat.le_refl _) hs  h))
def B_X12_beginRun_77 (k_X12_beginRun_77 : Int32 → AH → Option AH) (x2 : Int32) (σ : AH) : Option AH := (if (90 : Int32) ≤ x2 then (some σ) else (if inB x2 90 = true then (if inB x2 90 = true then (k_X12_beginRun_77 (x2 + 1) (sI (sI σ 148 x2.toNatClampNeg (-1 : Int32)) 149 x2.toNatClampNeg (-1 : Int32))) else none) else none))
def F_X12_beginRun_77 : Nat → Int32 → AH → Option AH := fun k => match k with | 0 => fun _ _ => none | k + 1 => B_X12_beginRun_77 (F_X12_beginRun_77 k)
def B_X12_beginRun_35 (k_X12_beginRun_35 : Int32 → AH → Option AH) (x2 : Int32) (σ : AH) : Option AH := (if (30 : Int32) ≤ x2 then (F_X12_beginRun_77 BIG (0 : Int32) σ) else (if inB x2 30 = true then (if inB x2 30 = true then (if inB x2 30 = true then (if inB x2 30 = true then (lt (sI (sI (sI (sI σ 144 x2.toNatClampNeg (0 : Int32)) 145 x2.toNatClampNeg (0 : Int32)) 146 x2.toNatClampNeg (0 : Int32)) 147 x2.toNatClampNeg (0 : Int32)) fun τ16 => (k_X12_beginRun_35 (x2 + 1) τ16)) else none) else none) else none) else none))
def F_X12_beginRun_35 : Nat → Int32 → AH → Option AH := fun k => match k with | 0 => fun _ _ => none | k + 1 => B_X12_beginRun_35 (F_X12_beginRun_35 k)
def B_X12_beginRun_15 (k_X12_beginRun_15 : Int32 → AH → Option AH) (x2 : Int32) (σ : AH) : Option AH := (if (5 : Int32) ≤ x2 then (F_X12_beginRun_35 BIG (0 : Int32) σ) else (if inB x2 5 = true then (k_X12_beginRun_15 (x2 + 1) (sI σ 142 x2.toNatClampNeg (0 : Int32))) else none))
def F_X12_beginRun_15 : Nat → Int32 → AH → Option AH := fun k => match k with | 0 => fun _ _ => none | k + 1 => B_X12_beginRun_15 (F_X12_beginRun_15 k)
def F_X12_beginRun (x1 : Int32) (σ : AH) : Option AH := (bv (F_X12_findStarts (sI σ 124 45 x1)) fun σ2 => (bv (F_X12_license σ2) fun σ7 => (F_X12_beginRun_15 BIG (0 : Int32) σ7)))
set_option maxRecDepth 100000 in
theorem t_X12_beginRun_77 {X : Sx} {l : Launch} {D : Nat} {k_X12_beginRun_77 : Int32 → AH → Option AH} {x2 : Int32} {σ : AH} {σ' : AH} (hD : 6 ≤ D) (hk_X12_beginRun_77 : ∀ (x2 : Int32) (σ : AH) (σ' : AH), Sh σ → k_X12_beginRun_77 x2 σ = some σ' → E X l m_X12_beginRun D 77 [(0, .ref 124), (2, .int x2)] [] σ none σ') (hs : Sh σ) (h : B_X12_beginRun_77 k_X12_beginRun_77 x2 σ = some σ') : W_X12_beginRun_77 X l D x2 σ none σ' := by
  unfold B_X12_beginRun_77 at h
  unfold W_X12_beginRun_77
  refine ite_i (fun c1 => ?_) (fun c1 => ?_)
  · replace h := of_ifp h c1
    exact ret_v h
  · replace h := of_ifn h c1
    obtain ⟨g2, h⟩ := of_gd h
    refine ⟨(inB_mp g2), ?_⟩
    obtain ⟨g3, h⟩ := of_gd h
    refine ⟨(inB_mp g3), ?_⟩
    exact hk_X12_beginRun_77 _ _ _ hs  h
theorem e_X12_beginRun_77 {X : Sx} {l : Launch} {D : Nat} (hD : 6 ≤ D) : ∀ (k : Nat) (x2 : Int32) (σ : AH) (σ' : AH), Sh σ → F_X12_beginRun_77 k x2 σ = some σ' → E X l m_X12_beginRun D 77 [(0, .ref 124), (2, .int x2)] [] σ none σ' := by
  intro k
  induction k with
  | zero => intro x2 σ σ' hs h; cases h
  | succ k ih =>
    intro x2 σ σ' hs h
    exact w_X12_beginRun_77 hs  (t_X12_beginRun_77 hD ih hs  h)
set_option maxRecDepth 100000 in
theorem t_X12_beginRun_35 {X : Sx} {l : Launch} {D : Nat} {k_X12_beginRun_35 : Int32 → AH → Option AH} {x2 : Int32} {σ : AH} {σ' : AH} (hD : 6 ≤ D) (hk_X12_beginRun_35 : ∀ (x2 : Int32) (σ : AH) (σ' : AH), Sh σ → k_X12_beginRun_35 x2 σ = some σ' → E X l m_X12_beginRun D 35 [(0, .ref 124), (2, .int x2)] [] σ none σ') (hs : Sh σ) (h : B_X12_beginRun_35 k_X12_beginRun_35 x2 σ = some σ') : W_X12_beginRun_35 X l D x2 σ none σ' := by
  unfold B_X12_beginRun_35 at h
  unfold W_X12_beginRun_35
  refine ite_i (fun c1 => ?_) (fun c1 => ?_)
  · replace h := of_ifp h c1
    exact e_X12_beginRun_77 hD  _ _ _ _ hs  h
  · replace h := of_ifn h c1
    obtain ⟨g2, h⟩ := of_gd h
    refine ⟨(inB_mp g2), ?_⟩
    obtain ⟨g3, h⟩ := of_gd h
    refine ⟨(inB_mp g3), ?_⟩
    obtain ⟨g4, h⟩ := of_gd h
    refine ⟨(inB_mp g4), ?_⟩
    obtain ⟨g5, h⟩ := of_gd h
    refine ⟨(inB_mp g5), ?_⟩
    intro τ16 e6
    replace h := of_lt h e6
    have hs7 : Sh τ16 := by rw [e6]; exact hs
    exact hk_X12_beginRun_35 _ _ _ hs7  h
theorem e_X12_beginRun_35 {X : Sx} {l : Launch} {D : Nat} (hD : 6 ≤ D) : ∀ (k : Nat) (x2 : Int32) (σ : AH) (σ' : AH), Sh σ → F_X12_beginRun_35 k x2 σ = some σ' → E X l m_X12_beginRun D 35 [(0, .ref 124), (2, .int x2)] [] σ none σ' := by
  intro k
  induction k with
  | zero => intro x2 σ σ' hs h; cases h
  | succ k ih =>
    intro x2 σ σ' hs h
    exact w_X12_beginRun_35 hs  (t_X12_beginRun_35 hD ih hs  h)
set_option maxRecDepth 100000 in
theorem t_X12_beginRun_15 {X : Sx} {l : Launch} {D : Nat} {k_X12_beginRun_15 : Int32 → AH → Option AH} {x2 : Int32} {σ : AH} {σ' : AH} (hD : 6 ≤ D) (hk_X12_beginRun_15 : ∀ (x2 : Int32) (σ : AH) (σ' : AH), Sh σ → k_X12_beginRun_15 x2 σ = some σ' → E X l m_X12_beginRun D 15 [(0, .ref 124), (2, .int x2)] [] σ none σ') (hs : Sh σ) (h : B_X12_beginRun_15 k_X12_beginRun_15 x2 σ = some σ') : W_X12_beginRun_15 X l D x2 σ none σ' := by
  unfold B_X12_beginRun_15 at h
  unfold W_X12_beginRun_15
  refine ite_i (fun c1 => ?_) (fun c1 => ?_)
  · replace h := of_ifp h c1
    exact e_X12_beginRun_35 hD  _ _ _ _ hs  h
  · replace h := of_ifn h c1
    obtain ⟨g2, h⟩ := of_gd h
    refine ⟨(inB_mp g2), ?_⟩
    exact hk_X12_beginRun_15 _ _ _ hs  h
theorem e_X12_beginRun_15 {X : Sx} {l : Launch} {D : Nat} (hD : 6 ≤ D) : ∀ (k : Nat) (x2 : Int32) (σ : AH) (σ' : AH), Sh σ → F_X12_beginRun_15 k x2 σ = some σ' → E X l m_X12_beginRun D 15 [(0, .ref 124), (2, .int x2)] [] σ none σ' := by
  intro k
  induction k with
  | zero => intro x2 σ σ' hs h; cases h
  | succ k ih =>
    intro x2 σ σ' hs h
    exact w_X12_beginRun_15 hs  (t_X12_beginRun_15 hD ih hs  h)
set_option maxRecDepth 100000 in
theorem t_X12_beginRun_0 {X : Sx} {l : Launch} {D : Nat} {x1 : Int32} {σ : AH} {σ' : AH} (hD : 6 ≤ D) (hs : Sh σ) (h : F_X12_beginRun x1 σ = some σ') : W_X12_beginRun_0 X l D x1 σ none σ' := by
  unfold F_X12_beginRun at h
  unfold W_X12_beginRun_0
  obtain ⟨σ2, q1, h⟩ := of_bv h
  have hC2 := f_X12_findStarts (σ := (sI σ 124 45 x1)) hs  q1 (X := X) (l := l)
  have hs3 := hC2.1.2.2.2.1 hs
  refine ⟨0, σ2, (Nat.le_trans (by decide) hD), hC2, ?_⟩
  obtain ⟨σ7, q4, h⟩ := of_bv h
  have hC5 := f_X12_license (σ := σ2) hs3  q4 (X := X) (l := l)
  have hs6 := hC5.1.2.2.2.1 hs3
  refine ⟨5, σ7, (Nat.le_trans (by decide) hD), hC5, ?_⟩
  exact e_X12_beginRun_15 hD  _ _ _ _ hs6  h
theorem f_X12_beginRun {X : Sx} {l : Launch} {x1 : Int32} {σ : AH} {σ' : AH} (hs : Sh σ) (h : F_X12_beginRun x1 σ = some σ') : Call X l m_X12_beginRun 6 [.ref 124, .int x1] σ none σ' :=
  Call.ofE ok_X12_beginRun rfl (Nat.le_of_ble_eq_true rfl) (w_X12_beginRun_0 hs  (t_X12_beginRun_0 (Nat.le_refl _) hs  h))
def F_X12_gangsOf_104 (k_X12_gangsOf_8 : Int32 → Int32 → Int32 → Int32 → Int32 → AH → Option (Int32 × AH)) (x1 : Int32) (x2 : Int32) (x3 : Int32) (x4 : Int32) (x5 : Int32) (σ : AH) : Option (Int32 × AH) := (k_X12_gangsOf_8 x1 x2 x3 x4 (x5 + 1) σ)
def B_X12_gangsOf_8 (k_X12_gangsOf_8 : Int32 → Int32 → Int32 → Int32 → Int32 → AH → Option (Int32 × AH)) (x1 : Int32) (x2 : Int32) (x3 : Int32) (x4 : Int32) (x5 : Int32) (σ : AH) : Option (Int32 × AH) := (if (gI σ 125 3) ≤ x5 then (some (x3, σ)) else (if inB ((23292 : Int32) + ((4 : Int32) * x5)) 269832 = true then (if (gI σ 125 ((23292 : Int32) + ((4 : Int32) * x5)).toNatClampNeg) = x1 then (if inB (((23292 : Int32) + ((4 : Int32) * x5)) + (3 : Int32)) 269832 = true then (if (gI σ 124 23) < (gI σ 125 (((23292 : Int32) + ((4 : Int32) * x5)) + (3 : Int32)).toNatClampNeg) then (F_X12_gangsOf_104 k_X12_gangsOf_8 x1 x2 x3 x4 x5 σ) else (if inB (((23292 : Int32) + ((4 : Int32) * x5)) + (2 : Int32)) 269832 = true then (if x2 < (gI σ 125 (((23292 : Int32) + ((4 : Int32) * x5)) + (2 : Int32)).toNatClampNeg) then (F_X12_gangsOf_104 k_X12_gangsOf_8 x1 x2 x3 x4 x5 σ) else (if inB (((23292 : Int32) + ((4 : Int32) * x5)) + (2 : Int32)) 269832 = true then (if (gI σ 125 (((23292 : Int32) + ((4 : Int32) * x5)) + (2 : Int32)).toNatClampNeg) < x4 then (F_X12_gangsOf_104 k_X12_gangsOf_8 x1 x2 x3 x4 x5 σ) else (if inB (((23292 : Int32) + ((4 : Int32) * x5)) + (2 : Int32)) 269832 = true then (if inB (((23292 : Int32) + ((4 : Int32) * x5)) + (1 : Int32)) 269832 = true then (F_X12_gangsOf_104 k_X12_gangsOf_8 x1 x2 (gI σ 125 (((23292 : Int32) + ((4 : Int32) * x5)) + (1 : Int32)).toNatClampNeg) (gI σ 125 (((23292 : Int32) + ((4 : Int32) * x5)) + (2 : Int32)).toNatClampNeg) x5 σ) else none) else none)) else none)) else none)) else none) else (F_X12_gangsOf_104 k_X12_gangsOf_8 x1 x2 x3 x4 x5 σ)) else none))
def F_X12_gangsOf_8 : Nat → Int32 → Int32 → Int32 → Int32 → Int32 → AH → Option (Int32 × AH) := fun k => match k with | 0 => fun _ _ _ _ _ _ => none | k + 1 => B_X12_gangsOf_8 (F_X12_gangsOf_8 k)
def F_X12_gangsOf (x1 : Int32) (x2 : Int32) (σ : AH) : Option (Int32 × AH) := (F_X12_gangsOf_8 BIG x1 x2 (0 : Int32) (-1 : Int32) (0 : Int32) σ)
set_option maxRecDepth 100000 in
theorem t_X12_gangsOf_104 {X : Sx} {l : Launch} {D : Nat} {k_X12_gangsOf_8 : Int32 → Int32 → Int32 → Int32 → Int32 → AH → Option (Int32 × AH)} {x1 : Int32} {x2 : Int32} {x3 : Int32} {x4 : Int32} {x5 : Int32} {σ : AH} {v : Int32} {σ' : AH} (hD : 0 ≤ D) (hk_X12_gangsOf_8 : ∀ (x1 : Int32) (x2 : Int32) (x3 : Int32) (x4 : Int32) (x5 : Int32) (σ : AH) (v : Int32) (σ' : AH), Sh σ → k_X12_gangsOf_8 x1 x2 x3 x4 x5 σ = some (v, σ') → E X l m_X12_gangsOf D 8 [(0, .ref 124), (1, .int x1), (2, .int x2), (3, .int x3), (4, .int x4), (5, .int x5)] [] σ (some (.int v)) σ') (hs : Sh σ) (h : F_X12_gangsOf_104 k_X12_gangsOf_8 x1 x2 x3 x4 x5 σ = some (v, σ')) : W_X12_gangsOf_104 X l D x1 x2 x3 x4 x5 σ (some (.int v)) σ' := by
  unfold F_X12_gangsOf_104 at h
  unfold W_X12_gangsOf_104
  exact hk_X12_gangsOf_8 _ _ _ _ _ _ _ _ hs  h
set_option maxRecDepth 100000 in
theorem t_X12_gangsOf_8 {X : Sx} {l : Launch} {D : Nat} {k_X12_gangsOf_8 : Int32 → Int32 → Int32 → Int32 → Int32 → AH → Option (Int32 × AH)} {x1 : Int32} {x2 : Int32} {x3 : Int32} {x4 : Int32} {x5 : Int32} {σ : AH} {v : Int32} {σ' : AH} (hD : 0 ≤ D) (hk_X12_gangsOf_8 : ∀ (x1 : Int32) (x2 : Int32) (x3 : Int32) (x4 : Int32) (x5 : Int32) (σ : AH) (v : Int32) (σ' : AH), Sh σ → k_X12_gangsOf_8 x1 x2 x3 x4 x5 σ = some (v, σ') → E X l m_X12_gangsOf D 8 [(0, .ref 124), (1, .int x1), (2, .int x2), (3, .int x3), (4, .int x4), (5, .int x5)] [] σ (some (.int v)) σ') (hs : Sh σ) (h : B_X12_gangsOf_8 k_X12_gangsOf_8 x1 x2 x3 x4 x5 σ = some (v, σ')) : W_X12_gangsOf_8 X l D x1 x2 x3 x4 x5 σ (some (.int v)) σ' := by
  unfold B_X12_gangsOf_8 at h
  unfold W_X12_gangsOf_8
  refine ite_i (fun c1 => ?_) (fun c1 => ?_)
  · replace h := of_ifp h c1
    exact ret_i h
  · replace h := of_ifn h c1
    obtain ⟨g2, h⟩ := of_gd h
    refine ⟨(inB_mp g2), ?_⟩
    refine ite_i (fun c3 => ?_) (fun c3 => ?_)
    · replace h := of_ifp h c3
      obtain ⟨g4, h⟩ := of_gd h
      refine ⟨(inB_mp g4), ?_⟩
      refine ite_i (fun c5 => ?_) (fun c5 => ?_)
      · replace h := of_ifp h c5
        exact t_X12_gangsOf_104 hD hk_X12_gangsOf_8 hs  h
      · replace h := of_ifn h c5
        obtain ⟨g6, h⟩ := of_gd h
        refine ⟨(inB_mp g6), ?_⟩
        refine ite_i (fun c7 => ?_) (fun c7 => ?_)
        · replace h := of_ifp h c7
          exact t_X12_gangsOf_104 hD hk_X12_gangsOf_8 hs  h
        · replace h := of_ifn h c7
          obtain ⟨g8, h⟩ := of_gd h
          refine ⟨(inB_mp g8), ?_⟩
          refine ite_i (fun c9 => ?_) (fun c9 => ?_)
          · replace h := of_ifp h c9
            exact t_X12_gangsOf_104 hD hk_X12_gangsOf_8 hs  h
          · replace h := of_ifn h c9
            obtain ⟨g10, h⟩ := of_gd h
            refine ⟨(inB_mp g10), ?_⟩
            obtain ⟨g11, h⟩ := of_gd h
            refine ⟨(inB_mp g11), ?_⟩
            exact t_X12_gangsOf_104 hD hk_X12_gangsOf_8 hs  h
    · replace h := of_ifn h c3
      exact t_X12_gangsOf_104 hD hk_X12_gangsOf_8 hs  h
theorem e_X12_gangsOf_8 {X : Sx} {l : Launch} {D : Nat} (hD : 0 ≤ D) : ∀ (k : Nat) (x1 : Int32) (x2 : Int32) (x3 : Int32) (x4 : Int32) (x5 : Int32) (σ : AH) (v : Int32) (σ' : AH), Sh σ → F_X12_gangsOf_8 k x1 x2 x3 x4 x5 σ = some (v, σ') → E X l m_X12_gangsOf D 8 [(0, .ref 124), (1, .int x1), (2, .int x2), (3, .int x3), (4, .int x4), (5, .int x5)] [] σ (some (.int v)) σ' := by
  intro k
  induction k with
  | zero => intro x1 x2 x3 x4 x5 σ v σ' hs h; cases h
  | succ k ih =>
    intro x1 x2 x3 x4 x5 σ v σ' hs h
    exact w_X12_gangsOf_8 hs  (t_X12_gangsOf_8 hD ih hs  h)
set_option maxRecDepth 100000 in
theorem t_X12_gangsOf_0 {X : Sx} {l : Launch} {D : Nat} {x1 : Int32} {x2 : Int32} {σ : AH} {v : Int32} {σ' : AH} (hD : 0 ≤ D) (hs : Sh σ) (h : F_X12_gangsOf x1 x2 σ = some (v, σ')) : W_X12_gangsOf_0 X l D x1 x2 σ (some (.int v)) σ' := by
  unfold F_X12_gangsOf at h
  unfold W_X12_gangsOf_0
  exact e_X12_gangsOf_8 hD  _ _ _ _ _ _ _ _ _ hs  h
theorem f_X12_gangsOf {X : Sx} {l : Launch} {x1 : Int32} {x2 : Int32} {σ : AH} {v : Int32} {σ' : AH} (hs : Sh σ) (h : F_X12_gangsOf x1 x2 σ = some (v, σ')) : Call X l m_X12_gangsOf 0 [.ref 124, .int x1, .int x2] σ (some (.int v)) σ' :=
  Call.ofE ok_X12_gangsOf rfl (Nat.le_of_ble_eq_true rfl) (w_X12_gangsOf_0 hs  (t_X12_gangsOf_0 (Nat.le_refl _) hs  h))
def F_X12_doWork_161 (x1 : Int32) (x3 : Int32) (x4 : Int32) (x5 : Int32) (x6 : Int32) (y0 : Int32) (σ : AH) : Option AH := (if inB x3 5 = true then (if inB x3 5 = true then (if inB x4 5 = true then (if inB x4 5 = true then (lt (sI (sI σ 142 x3.toNatClampNeg ((gI σ 142 x3.toNatClampNeg) - (y0 * x5))) 142 x4.toNatClampNeg ((gI (sI σ 142 x3.toNatClampNeg ((gI σ 142 x3.toNatClampNeg) - (y0 * x5))) 142 x4.toNatClampNeg) - (y0 * x6))) fun τ20 => (if inB (x1 + (4 : Int32)) 269832 = true then (if inB (gI τ20 125 (x1 + (4 : Int32)).toNatClampNeg) 5 = true then (if inB (x1 + (5 : Int32)) 269832 = true then (if inB (gI τ20 125 (x1 + (4 : Int32)).toNatClampNeg) 5 = true then (lt (sI τ20 142 ((gI τ20 125 (x1 + (4 : Int32)).toNatClampNeg).toNatClampNeg) ((gI τ20 142 (gI τ20 125 (x1 + (4 : Int32)).toNatClampNeg).toNatClampNeg) + (y0 * (gI τ20 125 (x1 + (5 : Int32)).toNatClampNeg)))) fun τ27 => (some τ27)) else none) else none) else none) else none)) else none) else none) else none) else none)
def F_X12_doWork_159 (x1 : Int32) (x3 : Int32) (x4 : Int32) (x5 : Int32) (x6 : Int32) (x7 : Int32) (σ : AH) : Option AH := (F_X12_doWork_161 x1 x3 x4 x5 x6 x7 σ)
def F_X12_doWork_124 (x1 : Int32) (x3 : Int32) (x4 : Int32) (x5 : Int32) (x6 : Int32) (y0 : Int32) (σ : AH) : Option AH := (if x6 ≤ 0 then (F_X12_doWork_159 x1 x3 x4 x5 x6 y0 σ) else (if inB x4 5 = true then (if ¬ x6 = 0 then (if y0 ≤ ((gI σ 142 x4.toNatClampNeg) / x6) then (F_X12_doWork_159 x1 x3 x4 x5 x6 y0 σ) else (if inB x4 5 = true then (if ¬ x6 = 0 then (F_X12_doWork_161 x1 x3 x4 x5 x6 ((gI σ 142 x4.toNatClampNeg) / x6) σ) else none) else none)) else none) else none))
def F_X12_doWork_122 (x1 : Int32) (x3 : Int32) (x4 : Int32) (x5 : Int32) (x6 : Int32) (x7 : Int32) (σ : AH) : Option AH := (F_X12_doWork_124 x1 x3 x4 x5 x6 x7 σ)
def F_X12_doWork_78 (x1 : Int32) (x3 : Int32) (x4 : Int32) (x5 : Int32) (y0 : Int32) (σ : AH) : Option AH := (if inB (x1 + (6 : Int32)) 269832 = true then (if x5 ≤ 0 then (F_X12_doWork_122 x1 x3 x4 x5 y0 (gI σ 125 (x1 + (6 : Int32)).toNatClampNeg) σ) else (if inB x3 5 = true then (if ¬ x5 = 0 then (if (gI σ 125 (x1 + (6 : Int32)).toNatClampNeg) ≤ ((gI σ 142 x3.toNatClampNeg) / x5) then (F_X12_doWork_122 x1 x3 x4 x5 y0 (gI σ 125 (x1 + (6 : Int32)).toNatClampNeg) σ) else (if inB x3 5 = true then (if ¬ x5 = 0 then (F_X12_doWork_124 x1 x3 x4 x5 y0 ((gI σ 142 x3.toNatClampNeg) / x5) σ) else none) else none)) else none) else none)) else none)
def F_X12_doWork_57 (x1 : Int32) (x3 : Int32) (x4 : Int32) (y0 : Int32) (y1 : Int32) (σ : AH) : Option AH := (if x3 = x4 then (F_X12_doWork_78 x1 x3 x4 (y1 + y0) (0 : Int32) σ) else (if inB (x1 + (3 : Int32)) 269832 = true then (F_X12_doWork_78 x1 x3 x4 (y1 + y0) (gI σ 125 (x1 + (3 : Int32)).toNatClampNeg) σ) else none))
def F_X12_doWork (x1 : Int32) (x2 : Int32) (σ : AH) : Option AH := (if inB (x1 + (7 : Int32)) 269832 = true then (if (gI σ 125 (x1 + (7 : Int32)).toNatClampNeg) ≤ x2 then (if inB x1 269832 = true then (if inB (x1 + (2 : Int32)) 269832 = true then (if inB (x1 + (1 : Int32)) 269832 = true then (if (gI σ 125 x1.toNatClampNeg) = (gI σ 125 (x1 + (2 : Int32)).toNatClampNeg) then (if inB (x1 + (3 : Int32)) 269832 = true then (F_X12_doWork_57 x1 (gI σ 125 x1.toNatClampNeg) (gI σ 125 (x1 + (2 : Int32)).toNatClampNeg) (gI σ 125 (x1 + (3 : Int32)).toNatClampNeg) (gI σ 125 (x1 + (1 : Int32)).toNatClampNeg) σ) else none) else (F_X12_doWork_57 x1 (gI σ 125 x1.toNatClampNeg) (gI σ 125 (x1 + (2 : Int32)).toNatClampNeg) (0 : Int32) (gI σ 125 (x1 + (1 : Int32)).toNatClampNeg) σ)) else none) else none) else none) else (some σ)) else none)
set_option maxRecDepth 100000 in
theorem t_X12_doWork_161 {X : Sx} {l : Launch} {D : Nat} {x1 : Int32} {x3 : Int32} {x4 : Int32} {x5 : Int32} {x6 : Int32} {y0 : Int32} {σ : AH} {σ' : AH} (hD : 0 ≤ D) (hs : Sh σ) (h : F_X12_doWork_161 x1 x3 x4 x5 x6 y0 σ = some σ') : W_X12_doWork_161 X l D x1 x3 x4 x5 x6 y0 σ none σ' := by
  unfold F_X12_doWork_161 at h
  unfold W_X12_doWork_161
  obtain ⟨g1, h⟩ := of_gd h
  refine ⟨(inB_mp g1), ?_⟩
  obtain ⟨g2, h⟩ := of_gd h
  refine ⟨(inB_mp g2), ?_⟩
  obtain ⟨g3, h⟩ := of_gd h
  refine ⟨(inB_mp g3), ?_⟩
  obtain ⟨g4, h⟩ := of_gd h
  refine ⟨(inB_mp g4), ?_⟩
  intro τ20 e5
  replace h := of_lt h e5
  have hs6 : Sh τ20 := by rw [e5]; exact hs
  obtain ⟨g7, h⟩ := of_gd h
  refine ⟨(inB_mp g7), ?_⟩
  obtain ⟨g8, h⟩ := of_gd h
  refine ⟨(inB_mp g8), ?_⟩
  obtain ⟨g9, h⟩ := of_gd h
  refine ⟨(inB_mp g9), ?_⟩
  obtain ⟨g10, h⟩ := of_gd h
  refine ⟨(inB_mp g10), ?_⟩
  intro τ27 e11
  replace h := of_lt h e11
  have hs12 : Sh τ27 := by rw [e11]; exact hs6
  exact ret_v h
set_option maxRecDepth 100000 in
theorem t_X12_doWork_159 {X : Sx} {l : Launch} {D : Nat} {x1 : Int32} {x3 : Int32} {x4 : Int32} {x5 : Int32} {x6 : Int32} {x7 : Int32} {σ : AH} {σ' : AH} (hD : 0 ≤ D) (hs : Sh σ) (h : F_X12_doWork_159 x1 x3 x4 x5 x6 x7 σ = some σ') : W_X12_doWork_159 X l D x1 x3 x4 x5 x6 x7 σ none σ' := by
  unfold F_X12_doWork_159 at h
  unfold W_X12_doWork_159
  exact t_X12_doWork_161 hD  hs  h
set_option maxRecDepth 100000 in
theorem t_X12_doWork_124 {X : Sx} {l : Launch} {D : Nat} {x1 : Int32} {x3 : Int32} {x4 : Int32} {x5 : Int32} {x6 : Int32} {y0 : Int32} {σ : AH} {σ' : AH} (hD : 0 ≤ D) (hs : Sh σ) (h : F_X12_doWork_124 x1 x3 x4 x5 x6 y0 σ = some σ') : W_X12_doWork_124 X l D x1 x3 x4 x5 x6 y0 σ none σ' := by
  unfold F_X12_doWork_124 at h
  unfold W_X12_doWork_124
  refine ite_i (fun c1 => ?_) (fun c1 => ?_)
  · replace h := of_ifp h c1
    exact t_X12_doWork_159 hD  hs  h
  · replace h := of_ifn h c1
    obtain ⟨g2, h⟩ := of_gd h
    refine ⟨(inB_mp g2), ?_⟩
    obtain ⟨g3, h⟩ := of_gd h
    refine ⟨g3, ?_⟩
    refine ite_i (fun c4 => ?_) (fun c4 => ?_)
    · replace h := of_ifp h c4
      exact t_X12_doWork_159 hD  hs  h
    · replace h := of_ifn h c4
      obtain ⟨g5, h⟩ := of_gd h
      refine ⟨(inB_mp g5), ?_⟩
      obtain ⟨g6, h⟩ := of_gd h
      refine ⟨g6, ?_⟩
      exact t_X12_doWork_161 hD  hs  h
set_option maxRecDepth 100000 in
theorem t_X12_doWork_122 {X : Sx} {l : Launch} {D : Nat} {x1 : Int32} {x3 : Int32} {x4 : Int32} {x5 : Int32} {x6 : Int32} {x7 : Int32} {σ : AH} {σ' : AH} (hD : 0 ≤ D) (hs : Sh σ) (h : F_X12_doWork_122 x1 x3 x4 x5 x6 x7 σ = some σ') : W_X12_doWork_122 X l D x1 x3 x4 x5 x6 x7 σ none σ' := by
  unfold F_X12_doWork_122 at h
  unfold W_X12_doWork_122
  exact t_X12_doWork_124 hD  hs  h
set_option maxRecDepth 100000 in
theorem t_X12_doWork_78 {X : Sx} {l : Launch} {D : Nat} {x1 : Int32} {x3 : Int32} {x4 : Int32} {x5 : Int32} {y0 : Int32} {σ : AH} {σ' : AH} (hD : 0 ≤ D) (hs : Sh σ) (h : F_X12_doWork_78 x1 x3 x4 x5 y0 σ = some σ') : W_X12_doWork_78 X l D x1 x3 x4 x5 y0 σ none σ' := by
  unfold F_X12_doWork_78 at h
  unfold W_X12_doWork_78
  obtain ⟨g1, h⟩ := of_gd h
  refine ⟨(inB_mp g1), ?_⟩
  refine ite_i (fun c2 => ?_) (fun c2 => ?_)
  · replace h := of_ifp h c2
    exact t_X12_doWork_122 hD  hs  h
  · replace h := of_ifn h c2
    obtain ⟨g3, h⟩ := of_gd h
    refine ⟨(inB_mp g3), ?_⟩
    obtain ⟨g4, h⟩ := of_gd h
    refine ⟨g4, ?_⟩
    refine ite_i (fun c5 => ?_) (fun c5 => ?_)
    · replace h := of_ifp h c5
      exact t_X12_doWork_122 hD  hs  h
    · replace h := of_ifn h c5
      obtain ⟨g6, h⟩ := of_gd h
      refine ⟨(inB_mp g6), ?_⟩
      obtain ⟨g7, h⟩ := of_gd h
      refine ⟨g7, ?_⟩
      exact t_X12_doWork_124 hD  hs  h
set_option maxRecDepth 100000 in
theorem t_X12_doWork_57 {X : Sx} {l : Launch} {D : Nat} {x1 : Int32} {x3 : Int32} {x4 : Int32} {y0 : Int32} {y1 : Int32} {σ : AH} {σ' : AH} (hD : 0 ≤ D) (hs : Sh σ) (h : F_X12_doWork_57 x1 x3 x4 y0 y1 σ = some σ') : W_X12_doWork_57 X l D x1 x3 x4 y0 y1 σ none σ' := by
  unfold F_X12_doWork_57 at h
  unfold W_X12_doWork_57
  refine ite_i (fun c1 => ?_) (fun c1 => ?_)
  · replace h := of_ifp h c1
    exact t_X12_doWork_78 hD  hs  h
  · replace h := of_ifn h c1
    obtain ⟨g2, h⟩ := of_gd h
    refine ⟨(inB_mp g2), ?_⟩
    exact t_X12_doWork_78 hD  hs  h
set_option maxRecDepth 100000 in
theorem t_X12_doWork_0 {X : Sx} {l : Launch} {D : Nat} {x1 : Int32} {x2 : Int32} {σ : AH} {σ' : AH} (hD : 0 ≤ D) (hs : Sh σ) (h : F_X12_doWork x1 x2 σ = some σ') : W_X12_doWork_0 X l D x1 x2 σ none σ' := by
  unfold F_X12_doWork at h
  unfold W_X12_doWork_0
  obtain ⟨g1, h⟩ := of_gd h
  refine ⟨(inB_mp g1), ?_⟩
  refine ite_i (fun c2 => ?_) (fun c2 => ?_)
  · replace h := of_ifp h c2
    obtain ⟨g3, h⟩ := of_gd h
    refine ⟨(inB_mp g3), ?_⟩
    obtain ⟨g4, h⟩ := of_gd h
    refine ⟨(inB_mp g4), ?_⟩
    obtain ⟨g5, h⟩ := of_gd h
    refine ⟨(inB_mp g5), ?_⟩
    refine ite_i (fun c6 => ?_) (fun c6 => ?_)
    · replace h := of_ifp h c6
      obtain ⟨g7, h⟩ := of_gd h
      refine ⟨(inB_mp g7), ?_⟩
      exact t_X12_doWork_57 hD  hs  h
    · replace h := of_ifn h c6
      exact t_X12_doWork_57 hD  hs  h
  · replace h := of_ifn h c2
    exact ret_v h
theorem f_X12_doWork {X : Sx} {l : Launch} {x1 : Int32} {x2 : Int32} {σ : AH} {σ' : AH} (hs : Sh σ) (h : F_X12_doWork x1 x2 σ = some σ') : Call X l m_X12_doWork 0 [.ref 124, .int x1, .int x2] σ none σ' :=
  Call.ofE ok_X12_doWork rfl (Nat.le_of_ble_eq_true rfl) (w_X12_doWork_0 hs  (t_X12_doWork_0 (Nat.le_refl _) hs  h))
def F_X12_isAhead_30 (x1 : Int32) (x2 : Int32) (x4 : Int32) (y0 : Int32) (σ : AH) : Option (Int32 × AH) := (if x4 = y0 then (if inB x1 30 = true then (if inB x2 30 = true then (if (gI σ 140 x1.toNatClampNeg) = (gI σ 140 x2.toNatClampNeg) then (if x2 ≤ x1 then (some ((0 : Int32), σ)) else (some ((1 : Int32), σ))) else (if inB x1 30 = true then (if inB x2 30 = true then (if (gI σ 140 x2.toNatClampNeg) ≤ (gI σ 140 x1.toNatClampNeg) then (some ((0 : Int32), σ)) else (some ((1 : Int32), σ))) else none) else none)) else none) else none) else (if x4 = 0 ∨ x4 = 1 then some (x4, σ) else none))
def F_X12_isAhead_14 (x1 : Int32) (x2 : Int32) (x3 : Int32) (y0 : Int32) (σ : AH) : Option (Int32 × AH) := (bd (F_X12_kindOf x2 σ) fun v12 σ8 => (if v12 = x3 then (F_X12_isAhead_30 x1 x2 y0 (1 : Int32) σ8) else (F_X12_isAhead_30 x1 x2 y0 (0 : Int32) σ8)))
def F_X12_isAhead (x1 : Int32) (x2 : Int32) (x3 : Int32) (σ : AH) : Option (Int32 × AH) := (bd (F_X12_kindOf x1 σ) fun v6 σ2 => (if v6 = x3 then (F_X12_isAhead_14 x1 x2 x3 (1 : Int32) σ2) else (F_X12_isAhead_14 x1 x2 x3 (0 : Int32) σ2)))
set_option maxRecDepth 100000 in
theorem t_X12_isAhead_30 {X : Sx} {l : Launch} {D : Nat} {x1 : Int32} {x2 : Int32} {x4 : Int32} {y0 : Int32} {σ : AH} {v : Int32} {σ' : AH} (hD : 1 ≤ D) (hs : Sh σ) (h : F_X12_isAhead_30 x1 x2 x4 y0 σ = some (v, σ')) : W_X12_isAhead_30 X l D x1 x2 x4 y0 σ (some (.int v)) σ' := by
  unfold F_X12_isAhead_30 at h
  unfold W_X12_isAhead_30
  refine ite_i (fun c1 => ?_) (fun c1 => ?_)
  · replace h := of_ifp h c1
    obtain ⟨g2, h⟩ := of_gd h
    refine ⟨(inB_mp g2), ?_⟩
    obtain ⟨g3, h⟩ := of_gd h
    refine ⟨(inB_mp g3), ?_⟩
    refine ite_i (fun c4 => ?_) (fun c4 => ?_)
    · replace h := of_ifp h c4
      refine ite_i (fun c5 => ?_) (fun c5 => ?_)
      · replace h := of_ifp h c5
        exact ret_i h
      · replace h := of_ifn h c5
        exact ret_i h
    · replace h := of_ifn h c4
      obtain ⟨g6, h⟩ := of_gd h
      refine ⟨(inB_mp g6), ?_⟩
      obtain ⟨g7, h⟩ := of_gd h
      refine ⟨(inB_mp g7), ?_⟩
      refine ite_i (fun c8 => ?_) (fun c8 => ?_)
      · replace h := of_ifp h c8
        exact ret_i h
      · replace h := of_ifn h c8
        exact ret_i h
  · replace h := of_ifn h c1
    exact ⟨(of_gd h).1, ret_i (of_gd h).2⟩
set_option maxRecDepth 100000 in
theorem t_X12_isAhead_14 {X : Sx} {l : Launch} {D : Nat} {x1 : Int32} {x2 : Int32} {x3 : Int32} {y0 : Int32} {σ : AH} {v : Int32} {σ' : AH} (hD : 1 ≤ D) (hs : Sh σ) (h : F_X12_isAhead_14 x1 x2 x3 y0 σ = some (v, σ')) : W_X12_isAhead_14 X l D x1 x2 x3 y0 σ (some (.int v)) σ' := by
  unfold F_X12_isAhead_14 at h
  unfold W_X12_isAhead_14
  obtain ⟨v12, σ8, q1, h⟩ := of_bd h
  have hC2 := f_X12_kindOf (σ := σ) hs  q1 (X := X) (l := l)
  have hs3 := hC2.1.2.2.2.1 hs
  refine ⟨0, v12, σ8, (Nat.le_trans (by decide) hD), hC2, ?_⟩
  refine ite_i (fun c4 => ?_) (fun c4 => ?_)
  · replace h := of_ifp h c4
    exact t_X12_isAhead_30 hD  hs3  h
  · replace h := of_ifn h c4
    exact t_X12_isAhead_30 hD  hs3  h
set_option maxRecDepth 100000 in
theorem t_X12_isAhead_0 {X : Sx} {l : Launch} {D : Nat} {x1 : Int32} {x2 : Int32} {x3 : Int32} {σ : AH} {v : Int32} {σ' : AH} (hD : 1 ≤ D) (hs : Sh σ) (h : F_X12_isAhead x1 x2 x3 σ = some (v, σ')) : W_X12_isAhead_0 X l D x1 x2 x3 σ (some (.int v)) σ' := by
  unfold F_X12_isAhead at h
  unfold W_X12_isAhead_0
  obtain ⟨v6, σ2, q1, h⟩ := of_bd h
  have hC2 := f_X12_kindOf (σ := σ) hs  q1 (X := X) (l := l)
  have hs3 := hC2.1.2.2.2.1 hs
  refine ⟨0, v6, σ2, (Nat.le_trans (by decide) hD), hC2, ?_⟩
  refine ite_i (fun c4 => ?_) (fun c4 => ?_)
  · replace h := of_ifp h c4
    exact t_X12_isAhead_14 hD  hs3  h
  · replace h := of_ifn h c4
    exact t_X12_isAhead_14 hD  hs3  h
theorem f_X12_isAhead {X : Sx} {l : Launch} {x1 : Int32} {x2 : Int32} {x3 : Int32} {σ : AH} {v : Int32} {σ' : AH} (hs : Sh σ) (h : F_X12_isAhead x1 x2 x3 σ = some (v, σ')) : Call X l m_X12_isAhead 1 [.ref 124, .int x1, .int x2, .int x3] σ (some (.int v)) σ' :=
  Call.ofE ok_X12_isAhead rfl (Nat.le_of_ble_eq_true rfl) (w_X12_isAhead_0 hs  (t_X12_isAhead_0 (Nat.le_refl _) hs  h))
def F_X12_finish (x1 : Int32) (x2 : Int32) (σ : AH) : Option AH := (if inB x1 30 = true then (if inB (((3 : Int32) * x1) + (gI σ 144 x1.toNatClampNeg)) 90 = true then (if inB x1 30 = true then (if inB x1 30 = true then (lt (sI (sI σ 149 ((((3 : Int32) * x1) + (gI σ 144 x1.toNatClampNeg)).toNatClampNeg) x2) 144 x1.toNatClampNeg ((gI (sI σ 149 ((((3 : Int32) * x1) + (gI σ 144 x1.toNatClampNeg)).toNatClampNeg) x2) 144 x1.toNatClampNeg) + (1 : Int32))) fun τ5 => (if inB x1 30 = true then (some (sI τ5 145 x1.toNatClampNeg (0 : Int32))) else none)) else none) else none) else none) else none)
set_option maxRecDepth 100000 in
theorem t_X12_finish_0 {X : Sx} {l : Launch} {D : Nat} {x1 : Int32} {x2 : Int32} {σ : AH} {σ' : AH} (hD : 0 ≤ D) (hs : Sh σ) (h : F_X12_finish x1 x2 σ = some σ') : W_X12_finish_0 X l D x1 x2 σ none σ' := by
  unfold F_X12_finish at h
  unfold W_X12_finish_0
  obtain ⟨g1, h⟩ := of_gd h
  refine ⟨(inB_mp g1), ?_⟩
  obtain ⟨g2, h⟩ := of_gd h
  refine ⟨(inB_mp g2), ?_⟩
  obtain ⟨g3, h⟩ := of_gd h
  refine ⟨(inB_mp g3), ?_⟩
  obtain ⟨g4, h⟩ := of_gd h
  refine ⟨(inB_mp g4), ?_⟩
  intro τ5 e5
  replace h := of_lt h e5
  have hs6 : Sh τ5 := by rw [e5]; exact hs
  obtain ⟨g7, h⟩ := of_gd h
  refine ⟨(inB_mp g7), ?_⟩
  exact ret_v h
theorem f_X12_finish {X : Sx} {l : Launch} {x1 : Int32} {x2 : Int32} {σ : AH} {σ' : AH} (hs : Sh σ) (h : F_X12_finish x1 x2 σ = some σ') : Call X l m_X12_finish 0 [.ref 124, .int x1, .int x2] σ none σ' :=
  Call.ofE ok_X12_finish rfl (Nat.le_of_ble_eq_true rfl) (w_X12_finish_0 hs  (t_X12_finish_0 (Nat.le_refl _) hs  h))
def F_X12_canTake_53 (k_X12_canTake_5 : Int32 → Int32 → Int32 → Int32 → AH → Option (Int32 × AH)) (x1 : Int32) (x2 : Int32) (x4 : Int32) (y0 : Int32) (σ : AH) : Option (Int32 × AH) := (k_X12_canTake_5 x1 x2 y0 (x4 + 1) σ)
def F_X12_canTake_52 (k_X12_canTake_5 : Int32 → Int32 → Int32 → Int32 → AH → Option (Int32 × AH)) (x1 : Int32) (x2 : Int32) (x4 : Int32) (σ : AH) : Option (Int32 × AH) := (F_X12_canTake_53 k_X12_canTake_5 x1 x2 x4 (0 : Int32) σ)
def B_X12_canTake_5 (k_X12_canTake_5 : Int32 → Int32 → Int32 → Int32 → AH → Option (Int32 × AH)) (x1 : Int32) (x2 : Int32) (x3 : Int32) (x4 : Int32) (σ : AH) : Option (Int32 × AH) := (if (5 : Int32) ≤ x4 then (if x3 = 0 ∨ x3 = 1 then some (x3, σ) else none) else (if x3 = 0 then (F_X12_canTake_52 k_X12_canTake_5 x1 x2 x4 σ) else (if inB x4 5 = true then (bd (F_X12_kindOf x1 σ) fun v7 σ3 => (if inB x1 30 = true then (bd (F_X12_roomsOf x1 σ3) fun v14 σ10 => (bd (F_X12_needOf v7 (gI σ3 144 x1.toNatClampNeg) x4 v14 x2 σ10) fun v20 σ16 => (if (gI σ 142 x4.toNatClampNeg) < v20 then (F_X12_canTake_52 k_X12_canTake_5 x1 x2 x4 σ16) else (F_X12_canTake_53 k_X12_canTake_5 x1 x2 x4 (1 : Int32) σ16)))) else none)) else none)))
def F_X12_canTake_5 : Nat → Int32 → Int32 → Int32 → Int32 → AH → Option (Int32 × AH) := fun k => match k with | 0 => fun _ _ _ _ _ => none | k + 1 => B_X12_canTake_5 (F_X12_canTake_5 k)
def F_X12_canTake (x1 : Int32) (x2 : Int32) (σ : AH) : Option (Int32 × AH) := (F_X12_canTake_5 BIG x1 x2 (1 : Int32) (0 : Int32) σ)
set_option maxRecDepth 100000 in
theorem t_X12_canTake_53 {X : Sx} {l : Launch} {D : Nat} {k_X12_canTake_5 : Int32 → Int32 → Int32 → Int32 → AH → Option (Int32 × AH)} {x1 : Int32} {x2 : Int32} {x4 : Int32} {y0 : Int32} {σ : AH} {v : Int32} {σ' : AH} (hD : 6 ≤ D) (hk_X12_canTake_5 : ∀ (x1 : Int32) (x2 : Int32) (x3 : Int32) (x4 : Int32) (σ : AH) (v : Int32) (σ' : AH), Sh σ → k_X12_canTake_5 x1 x2 x3 x4 σ = some (v, σ') → E X l m_X12_canTake D 5 [(0, .ref 124), (1, .int x1), (2, .int x2), (3, .int x3), (4, .int x4)] [] σ (some (.int v)) σ') (hs : Sh σ) (h : F_X12_canTake_53 k_X12_canTake_5 x1 x2 x4 y0 σ = some (v, σ')) : W_X12_canTake_53 X l D x1 x2 x4 y0 σ (some (.int v)) σ' := by
  unfold F_X12_canTake_53 at h
  unfold W_X12_canTake_53
  exact hk_X12_canTake_5 _ _ _ _ _ _ _ hs  h
set_option maxRecDepth 100000 in
theorem t_X12_canTake_52 {X : Sx} {l : Launch} {D : Nat} {k_X12_canTake_5 : Int32 → Int32 → Int32 → Int32 → AH → Option (Int32 × AH)} {x1 : Int32} {x2 : Int32} {x4 : Int32} {σ : AH} {v : Int32} {σ' : AH} (hD : 6 ≤ D) (hk_X12_canTake_5 : ∀ (x1 : Int32) (x2 : Int32) (x3 : Int32) (x4 : Int32) (σ : AH) (v : Int32) (σ' : AH), Sh σ → k_X12_canTake_5 x1 x2 x3 x4 σ = some (v, σ') → E X l m_X12_canTake D 5 [(0, .ref 124), (1, .int x1), (2, .int x2), (3, .int x3), (4, .int x4)] [] σ (some (.int v)) σ') (hs : Sh σ) (h : F_X12_canTake_52 k_X12_canTake_5 x1 x2 x4 σ = some (v, σ')) : W_X12_canTake_52 X l D x1 x2 x4 σ (some (.int v)) σ' := by
  unfold F_X12_canTake_52 at h
  unfold W_X12_canTake_52
  exact t_X12_canTake_53 hD hk_X12_canTake_5 hs  h
set_option maxRecDepth 100000 in
theorem t_X12_canTake_5 {X : Sx} {l : Launch} {D : Nat} {k_X12_canTake_5 : Int32 → Int32 → Int32 → Int32 → AH → Option (Int32 × AH)} {x1 : Int32} {x2 : Int32} {x3 : Int32} {x4 : Int32} {σ : AH} {v : Int32} {σ' : AH} (hD : 6 ≤ D) (hk_X12_canTake_5 : ∀ (x1 : Int32) (x2 : Int32) (x3 : Int32) (x4 : Int32) (σ : AH) (v : Int32) (σ' : AH), Sh σ → k_X12_canTake_5 x1 x2 x3 x4 σ = some (v, σ') → E X l m_X12_canTake D 5 [(0, .ref 124), (1, .int x1), (2, .int x2), (3, .int x3), (4, .int x4)] [] σ (some (.int v)) σ') (hs : Sh σ) (h : B_X12_canTake_5 k_X12_canTake_5 x1 x2 x3 x4 σ = some (v, σ')) : W_X12_canTake_5 X l D x1 x2 x3 x4 σ (some (.int v)) σ' := by
  unfold B_X12_canTake_5 at h
  unfold W_X12_canTake_5
  refine ite_i (fun c1 => ?_) (fun c1 => ?_)
  · replace h := of_ifp h c1
    exact ⟨(of_gd h).1, ret_i (of_gd h).2⟩
  · replace h := of_ifn h c1
    refine ite_i (fun c2 => ?_) (fun c2 => ?_)
    · replace h := of_ifp h c2
      exact t_X12_canTake_52 hD hk_X12_canTake_5 hs  h
    · replace h := of_ifn h c2
      obtain ⟨g3, h⟩ := of_gd h
      refine ⟨(inB_mp g3), ?_⟩
      obtain ⟨v7, σ3, q4, h⟩ := of_bd h
      have hC5 := f_X12_kindOf (σ := σ) hs  q4 (X := X) (l := l)
      have hs6 := hC5.1.2.2.2.1 hs
      refine ⟨0, v7, σ3, (Nat.le_trans (by decide) hD), hC5, ?_⟩
      obtain ⟨g7, h⟩ := of_gd h
      refine ⟨(inB_mp g7), ?_⟩
      obtain ⟨v14, σ10, q8, h⟩ := of_bd h
      have hC9 := f_X12_roomsOf (σ := σ3) hs6  q8 (X := X) (l := l)
      have hs10 := hC9.1.2.2.2.1 hs6
      refine ⟨0, v14, σ10, (Nat.le_trans (by decide) hD), hC9, ?_⟩
      obtain ⟨v20, σ16, q11, h⟩ := of_bd h
      have hC12 := f_X12_needOf (σ := σ10) hs10  q11 (X := X) (l := l)
      have hs13 := hC12.1.2.2.2.1 hs10
      refine ⟨5, v20, σ16, (Nat.le_trans (by decide) hD), hC12, ?_⟩
      refine ite_i (fun c14 => ?_) (fun c14 => ?_)
      · replace h := of_ifp h c14
        exact t_X12_canTake_52 hD hk_X12_canTake_5 hs13  h
      · replace h := of_ifn h c14
        exact t_X12_canTake_53 hD hk_X12_canTake_5 hs13  h
theorem e_X12_canTake_5 {X : Sx} {l : Launch} {D : Nat} (hD : 6 ≤ D) : ∀ (k : Nat) (x1 : Int32) (x2 : Int32) (x3 : Int32) (x4 : Int32) (σ : AH) (v : Int32) (σ' : AH), Sh σ → F_X12_canTake_5 k x1 x2 x3 x4 σ = some (v, σ') → E X l m_X12_canTake D 5 [(0, .ref 124), (1, .int x1), (2, .int x2), (3, .int x3), (4, .int x4)] [] σ (some (.int v)) σ' := by
  intro k
  induction k with
  | zero => intro x1 x2 x3 x4 σ v σ' hs h; cases h
  | succ k ih =>
    intro x1 x2 x3 x4 σ v σ' hs h
    exact w_X12_canTake_5 hs  (t_X12_canTake_5 hD ih hs  h)
set_option maxRecDepth 100000 in
theorem t_X12_canTake_0 {X : Sx} {l : Launch} {D : Nat} {x1 : Int32} {x2 : Int32} {σ : AH} {v : Int32} {σ' : AH} (hD : 6 ≤ D) (hs : Sh σ) (h : F_X12_canTake x1 x2 σ = some (v, σ')) : W_X12_canTake_0 X l D x1 x2 σ (some (.int v)) σ' := by
  unfold F_X12_canTake at h
  unfold W_X12_canTake_0
  exact e_X12_canTake_5 hD  _ _ _ _ _ _ _ _ hs  h
theorem f_X12_canTake {X : Sx} {l : Launch} {x1 : Int32} {x2 : Int32} {σ : AH} {v : Int32} {σ' : AH} (hs : Sh σ) (h : F_X12_canTake x1 x2 σ = some (v, σ')) : Call X l m_X12_canTake 6 [.ref 124, .int x1, .int x2] σ (some (.int v)) σ' :=
  Call.ofE ok_X12_canTake rfl (Nat.le_of_ble_eq_true rfl) (w_X12_canTake_0 hs  (t_X12_canTake_0 (Nat.le_refl _) hs  h))
def F_X12_goPlot_152 (k_X12_goPlot_2 : Int32 → Int32 → Int32 → AH → Option AH) (x1 : Int32) (x2 : Int32) (x3 : Int32) (σ : AH) : Option AH := (if x3 = 0 then (if inB x1 30 = true then (if (gI σ 145 x1.toNatClampNeg) = 0 then (k_X12_goPlot_2 x1 x2 x3 σ) else (bd (F_X12_councilOf x1 σ) fun v15 σ11 => (if inB v15 6 = true then (if (gI σ11 143 v15.toNatClampNeg) ≤ 0 then (k_X12_goPlot_2 x1 x2 x3 σ11) else (bd (F_X12_councilOf x1 σ11) fun v22 σ18 => (if inB v22 6 = true then (if inB v22 6 = true then (if inB x1 30 = true then (if inB x1 30 = true then (lt (sI (sI σ18 143 v22.toNatClampNeg ((gI σ18 143 v22.toNatClampNeg) - (1 : Int32))) 146 x1.toNatClampNeg ((gI (sI σ18 143 v22.toNatClampNeg ((gI σ18 143 v22.toNatClampNeg) - (1 : Int32))) 146 x1.toNatClampNeg) - (1 : Int32))) fun τ27 => (if inB x1 30 = true then (if (gI τ27 146 x1.toNatClampNeg) = 0 then (bv (F_X12_finish x1 x2 τ27) fun σ32 => (if inB x1 30 = true then (k_X12_goPlot_2 x1 x2 x3 (sI σ32 147 x1.toNatClampNeg (1 : Int32))) else none)) else (k_X12_goPlot_2 x1 x2 x3 τ27)) else none)) else none) else none) else none) else none))) else none))) else none) else (k_X12_goPlot_2 x1 x2 x3 σ))
def B_X12_goPlot_39 (k_X12_goPlot_2 : Int32 → Int32 → Int32 → AH → Option AH) (k_X12_goPlot_39 : Int32 → Int32 → Int32 → Int32 → AH → Option AH) (x1 : Int32) (x2 : Int32) (x3 : Int32) (x4 : Int32) (σ : AH) : Option AH := (if (5 : Int32) ≤ x4 then (if inB x1 30 = true then (if inB x1 30 = true then (if inB (((3 : Int32) * x1) + (gI (sI σ 145 x1.toNatClampNeg (1 : Int32)) 144 x1.toNatClampNeg)) 90 = true then (lt (sI (sI σ 145 x1.toNatClampNeg (1 : Int32)) 148 ((((3 : Int32) * x1) + (gI (sI σ 145 x1.toNatClampNeg (1 : Int32)) 144 x1.toNatClampNeg)).toNatClampNeg) x2) fun τ40 => (bd (F_X12_kindOf x1 τ40) fun v48 σ44 => (if inB x1 30 = true then (bd (F_X12_roomsOf x1 σ44) fun v55 σ51 => (bd (F_X12_needOf v48 (gI σ44 144 x1.toNatClampNeg) (5 : Int32) v55 x2 σ51) fun v61 σ57 => (if inB x1 30 = true then (if inB x1 30 = true then (if (gI (sI σ57 146 x1.toNatClampNeg v61) 146 x1.toNatClampNeg) = 0 then (bv (F_X12_finish x1 x2 (sI σ57 146 x1.toNatClampNeg v61)) fun σ65 => (F_X12_goPlot_152 k_X12_goPlot_2 x1 x2 (1 : Int32) σ65)) else (F_X12_goPlot_152 k_X12_goPlot_2 x1 x2 x3 (sI σ57 146 x1.toNatClampNeg v61))) else none) else none))) else none))) else none) else none) else none) else (if inB x4 5 = true then (bd (F_X12_kindOf x1 σ) fun v75 σ71 => (if inB x1 30 = true then (bd (F_X12_roomsOf x1 σ71) fun v82 σ78 => (bd (F_X12_needOf v75 (gI σ71 144 x1.toNatClampNeg) x4 v82 x2 σ78) fun v88 σ84 => (if inB x4 5 = true then (k_X12_goPlot_39 x1 x2 x3 (x4 + 1) (sI σ84 142 x4.toNatClampNeg ((gI σ 142 x4.toNatClampNeg) - v88))) else none))) else none)) else none))
def F_X12_goPlot_39 (k_X12_goPlot_2 : Int32 → Int32 → Int32 → AH → Option AH) : Nat → Int32 → Int32 → Int32 → Int32 → AH → Option AH := fun k => match k with | 0 => fun _ _ _ _ _ => none | k + 1 => B_X12_goPlot_39 k_X12_goPlot_2 (F_X12_goPlot_39 k_X12_goPlot_2 k)
def B_X12_goPlot_2 (k_X12_goPlot_2 : Int32 → Int32 → Int32 → AH → Option AH) (x1 : Int32) (x2 : Int32) (x3 : Int32) (σ : AH) : Option AH := (if x3 = 0 then (some σ) else (if inB x1 30 = true then (if (3 : Int32) ≤ (gI σ 144 x1.toNatClampNeg) then (some σ) else (if inB x1 30 = true then (if (gI σ 145 x1.toNatClampNeg) = 0 then (bd (F_X12_canTake x1 x2 σ) fun v8 σ4 => (if v8 = 0 then (F_X12_goPlot_152 k_X12_goPlot_2 x1 x2 (0 : Int32) σ4) else (F_X12_goPlot_39 k_X12_goPlot_2 BIG x1 x2 (0 : Int32) (0 : Int32) σ4))) else (F_X12_goPlot_152 k_X12_goPlot_2 x1 x2 (0 : Int32) σ)) else none)) else none))
def F_X12_goPlot_2 : Nat → Int32 → Int32 → Int32 → AH → Option AH := fun k => match k with | 0 => fun _ _ _ _ => none | k + 1 => B_X12_goPlot_2 (F_X12_goPlot_2 k)
def F_X12_goPlot (x1 : Int32) (x2 : Int32) (σ : AH) : Option AH := (F_X12_goPlot_2 BIG x1 x2 (1 : Int32) σ)
set_option maxRecDepth 100000 in
theorem t_X12_goPlot_152 {X : Sx} {l : Launch} {D : Nat} {k_X12_goPlot_2 : Int32 → Int32 → Int32 → AH → Option AH} {x1 : Int32} {x2 : Int32} {x3 : Int32} {σ : AH} {σ' : AH} (hD : 7 ≤ D) (hk_X12_goPlot_2 : ∀ (x1 : Int32) (x2 : Int32) (x3 : Int32) (σ : AH) (σ' : AH), Sh σ → k_X12_goPlot_2 x1 x2 x3 σ = some σ' → E X l m_X12_goPlot D 2 [(0, .ref 124), (1, .int x1), (2, .int x2), (3, .int x3)] [] σ none σ') (hs : Sh σ) (h : F_X12_goPlot_152 k_X12_goPlot_2 x1 x2 x3 σ = some σ') : W_X12_goPlot_152 X l D x1 x2 x3 σ none σ' := by
  unfold F_X12_goPlot_152 at h
  unfold W_X12_goPlot_152
  refine ite_i (fun c1 => ?_) (fun c1 => ?_)
  · replace h := of_ifp h c1
    obtain ⟨g2, h⟩ := of_gd h
    refine ⟨(inB_mp g2), ?_⟩
    refine ite_i (fun c3 => ?_) (fun c3 => ?_)
    · replace h := of_ifp h c3
      exact hk_X12_goPlot_2 _ _ _ _ _ hs  h
    · replace h := of_ifn h c3
      obtain ⟨v15, σ11, q4, h⟩ := of_bd h
      have hC5 := f_X12_councilOf (σ := σ) hs  q4 (X := X) (l := l)
      have hs6 := hC5.1.2.2.2.1 hs
      refine ⟨0, v15, σ11, (Nat.le_trans (by decide) hD), hC5, ?_⟩
      obtain ⟨g7, h⟩ := of_gd h
      refine ⟨(inB_mp g7), ?_⟩
      refine ite_i (fun c8 => ?_) (fun c8 => ?_)
      · replace h := of_ifp h c8
        exact hk_X12_goPlot_2 _ _ _ _ _ hs6  h
      · replace h := of_ifn h c8
        obtain ⟨v22, σ18, q9, h⟩ := of_bd h
        have hC10 := f_X12_councilOf (σ := σ11) hs6  q9 (X := X) (l := l)
        have hs11 := hC10.1.2.2.2.1 hs6
        refine ⟨0, v22, σ18, (Nat.le_trans (by decide) hD), hC10, ?_⟩
        obtain ⟨g12, h⟩ := of_gd h
        refine ⟨(inB_mp g12), ?_⟩
        obtain ⟨g13, h⟩ := of_gd h
        refine ⟨(inB_mp g13), ?_⟩
        obtain ⟨g14, h⟩ := of_gd h
        refine ⟨(inB_mp g14), ?_⟩
        obtain ⟨g15, h⟩ := of_gd h
        refine ⟨(inB_mp g15), ?_⟩
        intro τ27 e16
        replace h := of_lt h e16
        have hs17 : Sh τ27 := by rw [e16]; exact hs11
        obtain ⟨g18, h⟩ := of_gd h
        refine ⟨(inB_mp g18), ?_⟩
        refine ite_i (fun c19 => ?_) (fun c19 => ?_)
        · replace h := of_ifp h c19
          obtain ⟨σ32, q20, h⟩ := of_bv h
          have hC21 := f_X12_finish (σ := τ27) hs17  q20 (X := X) (l := l)
          have hs22 := hC21.1.2.2.2.1 hs17
          refine ⟨0, σ32, (Nat.le_trans (by decide) hD), hC21, ?_⟩
          obtain ⟨g23, h⟩ := of_gd h
          refine ⟨(inB_mp g23), ?_⟩
          exact hk_X12_goPlot_2 _ _ _ _ _ hs22  h
        · replace h := of_ifn h c19
          exact hk_X12_goPlot_2 _ _ _ _ _ hs17  h
  · replace h := of_ifn h c1
    exact hk_X12_goPlot_2 _ _ _ _ _ hs  h
set_option maxRecDepth 100000 in
theorem t_X12_goPlot_39 {X : Sx} {l : Launch} {D : Nat} {k_X12_goPlot_2 : Int32 → Int32 → Int32 → AH → Option AH} {k_X12_goPlot_39 : Int32 → Int32 → Int32 → Int32 → AH → Option AH} {x1 : Int32} {x2 : Int32} {x3 : Int32} {x4 : Int32} {σ : AH} {σ' : AH} (hD : 7 ≤ D) (hk_X12_goPlot_2 : ∀ (x1 : Int32) (x2 : Int32) (x3 : Int32) (σ : AH) (σ' : AH), Sh σ → k_X12_goPlot_2 x1 x2 x3 σ = some σ' → E X l m_X12_goPlot D 2 [(0, .ref 124), (1, .int x1), (2, .int x2), (3, .int x3)] [] σ none σ') (hk_X12_goPlot_39 : ∀ (x1 : Int32) (x2 : Int32) (x3 : Int32) (x4 : Int32) (σ : AH) (σ' : AH), Sh σ → k_X12_goPlot_39 x1 x2 x3 x4 σ = some σ' → E X l m_X12_goPlot D 39 [(0, .ref 124), (1, .int x1), (2, .int x2), (3, .int x3), (4, .int x4)] [] σ none σ') (hs : Sh σ) (h : B_X12_goPlot_39 k_X12_goPlot_2 k_X12_goPlot_39 x1 x2 x3 x4 σ = some σ') : W_X12_goPlot_39 X l D x1 x2 x3 x4 σ none σ' := by
  unfold B_X12_goPlot_39 at h
  unfold W_X12_goPlot_39
  refine ite_i (fun c1 => ?_) (fun c1 => ?_)
  · replace h := of_ifp h c1
    obtain ⟨g2, h⟩ := of_gd h
    refine ⟨(inB_mp g2), ?_⟩
    obtain ⟨g3, h⟩ := of_gd h
    refine ⟨(inB_mp g3), ?_⟩
    obtain ⟨g4, h⟩ := of_gd h
    refine ⟨(inB_mp g4), ?_⟩
    intro τ40 e5
    replace h := of_lt h e5
    have hs6 : Sh τ40 := by rw [e5]; exact hs
    obtain ⟨v48, σ44, q7, h⟩ := of_bd h
    have hC8 := f_X12_kindOf (σ := τ40) hs6  q7 (X := X) (l := l)
    have hs9 := hC8.1.2.2.2.1 hs6
    refine ⟨0, v48, σ44, (Nat.le_trans (by decide) hD), hC8, ?_⟩
    obtain ⟨g10, h⟩ := of_gd h
    refine ⟨(inB_mp g10), ?_⟩
    obtain ⟨v55, σ51, q11, h⟩ := of_bd h
    have hC12 := f_X12_roomsOf (σ := σ44) hs9  q11 (X := X) (l := l)
    have hs13 := hC12.1.2.2.2.1 hs9
    refine ⟨0, v55, σ51, (Nat.le_trans (by decide) hD), hC12, ?_⟩
    obtain ⟨v61, σ57, q14, h⟩ := of_bd h
    have hC15 := f_X12_needOf (σ := σ51) hs13  q14 (X := X) (l := l)
    have hs16 := hC15.1.2.2.2.1 hs13
    refine ⟨5, v61, σ57, (Nat.le_trans (by decide) hD), hC15, ?_⟩
    obtain ⟨g17, h⟩ := of_gd h
    refine ⟨(inB_mp g17), ?_⟩
    obtain ⟨g18, h⟩ := of_gd h
    refine ⟨(inB_mp g18), ?_⟩
    refine ite_i (fun c19 => ?_) (fun c19 => ?_)
    · replace h := of_ifp h c19
      obtain ⟨σ65, q20, h⟩ := of_bv h
      have hC21 := f_X12_finish (σ := (sI σ57 146 x1.toNatClampNeg v61)) hs16  q20 (X := X) (l := l)
      have hs22 := hC21.1.2.2.2.1 hs16
      refine ⟨0, σ65, (Nat.le_trans (by decide) hD), hC21, ?_⟩
      exact t_X12_goPlot_152 hD hk_X12_goPlot_2 hs22  h
    · replace h := of_ifn h c19
      exact t_X12_goPlot_152 hD hk_X12_goPlot_2 hs16  h
  · replace h := of_ifn h c1
    obtain ⟨g23, h⟩ := of_gd h
    refine ⟨(inB_mp g23), ?_⟩
    obtain ⟨v75, σ71, q24, h⟩ := of_bd h
    have hC25 := f_X12_kindOf (σ := σ) hs  q24 (X := X) (l := l)
    have hs26 := hC25.1.2.2.2.1 hs
    refine ⟨0, v75, σ71, (Nat.le_trans (by decide) hD), hC25, ?_⟩
    obtain ⟨g27, h⟩ := of_gd h
    refine ⟨(inB_mp g27), ?_⟩
    obtain ⟨v82, σ78, q28, h⟩ := of_bd h
    have hC29 := f_X12_roomsOf (σ := σ71) hs26  q28 (X := X) (l := l)
    have hs30 := hC29.1.2.2.2.1 hs26
    refine ⟨0, v82, σ78, (Nat.le_trans (by decide) hD), hC29, ?_⟩
    obtain ⟨v88, σ84, q31, h⟩ := of_bd h
    have hC32 := f_X12_needOf (σ := σ78) hs30  q31 (X := X) (l := l)
    have hs33 := hC32.1.2.2.2.1 hs30
    refine ⟨5, v88, σ84, (Nat.le_trans (by decide) hD), hC32, ?_⟩
    obtain ⟨g34, h⟩ := of_gd h
    refine ⟨(inB_mp g34), ?_⟩
    exact hk_X12_goPlot_39 _ _ _ _ _ _ hs33  h
theorem e_X12_goPlot_39 {X : Sx} {l : Launch} {D : Nat} {k_X12_goPlot_2 : Int32 → Int32 → Int32 → AH → Option AH} (hD : 7 ≤ D) (hk_X12_goPlot_2 : ∀ (x1 : Int32) (x2 : Int32) (x3 : Int32) (σ : AH) (σ' : AH), Sh σ → k_X12_goPlot_2 x1 x2 x3 σ = some σ' → E X l m_X12_goPlot D 2 [(0, .ref 124), (1, .int x1), (2, .int x2), (3, .int x3)] [] σ none σ') : ∀ (k : Nat) (x1 : Int32) (x2 : Int32) (x3 : Int32) (x4 : Int32) (σ : AH) (σ' : AH), Sh σ → F_X12_goPlot_39 k_X12_goPlot_2 k x1 x2 x3 x4 σ = some σ' → E X l m_X12_goPlot D 39 [(0, .ref 124), (1, .int x1), (2, .int x2), (3, .int x3), (4, .int x4)] [] σ none σ' := by
  intro k
  induction k with
  | zero => intro x1 x2 x3 x4 σ σ' hs h; cases h
  | succ k ih =>
    intro x1 x2 x3 x4 σ σ' hs h
    exact w_X12_goPlot_39 hs  (t_X12_goPlot_39 hD hk_X12_goPlot_2 ih hs  h)
set_option maxRecDepth 100000 in
theorem t_X12_goPlot_2 {X : Sx} {l : Launch} {D : Nat} {k_X12_goPlot_2 : Int32 → Int32 → Int32 → AH → Option AH} {x1 : Int32} {x2 : Int32} {x3 : Int32} {σ : AH} {σ' : AH} (hD : 7 ≤ D) (hk_X12_goPlot_2 : ∀ (x1 : Int32) (x2 : Int32) (x3 : Int32) (σ : AH) (σ' : AH), Sh σ → k_X12_goPlot_2 x1 x2 x3 σ = some σ' → E X l m_X12_goPlot D 2 [(0, .ref 124), (1, .int x1), (2, .int x2), (3, .int x3)] [] σ none σ') (hs : Sh σ) (h : B_X12_goPlot_2 k_X12_goPlot_2 x1 x2 x3 σ = some σ') : W_X12_goPlot_2 X l D x1 x2 x3 σ none σ' := by
  unfold B_X12_goPlot_2 at h
  unfold W_X12_goPlot_2
  refine ite_i (fun c1 => ?_) (fun c1 => ?_)
  · replace h := of_ifp h c1
    exact ret_v h
  · replace h := of_ifn h c1
    obtain ⟨g2, h⟩ := of_gd h
    refine ⟨(inB_mp g2), ?_⟩
    refine ite_i (fun c3 => ?_) (fun c3 => ?_)
    · replace h := of_ifp h c3
      exact ret_v h
    · replace h := of_ifn h c3
      obtain ⟨g4, h⟩ := of_gd h
      refine ⟨(inB_mp g4), ?_⟩
      refine ite_i (fun c5 => ?_) (fun c5 => ?_)
      · replace h := of_ifp h c5
        obtain ⟨v8, σ4, q6, h⟩ := of_bd h
        have hC7 := f_X12_canTake (σ := σ) hs  q6 (X := X) (l := l)
        have hs8 := hC7.1.2.2.2.1 hs
        refine ⟨6, v8, σ4, (Nat.le_trans (by decide) hD), hC7, ?_⟩
        refine ite_i (fun c9 => ?_) (fun c9 => ?_)
        · replace h := of_ifp h c9
          exact t_X12_goPlot_152 hD hk_X12_goPlot_2 hs8  h
        · replace h := of_ifn h c9
          exact e_X12_goPlot_39 hD hk_X12_goPlot_2 _ _ _ _ _ _ _ hs8  h
      · replace h := of_ifn h c5
        exact t_X12_goPlot_152 hD hk_X12_goPlot_2 hs  h
theorem e_X12_goPlot_2 {X : Sx} {l : Launch} {D : Nat} (hD : 7 ≤ D) : ∀ (k : Nat) (x1 : Int32) (x2 : Int32) (x3 : Int32) (σ : AH) (σ' : AH), Sh σ → F_X12_goPlot_2 k x1 x2 x3 σ = some σ' → E X l m_X12_goPlot D 2 [(0, .ref 124), (1, .int x1), (2, .int x2), (3, .int x3)] [] σ none σ' := by
  intro k
  induction k with
  | zero => intro x1 x2 x3 σ σ' hs h; cases h
  | succ k ih =>
    intro x1 x2 x3 σ σ' hs h
    exact w_X12_goPlot_2 hs  (t_X12_goPlot_2 hD ih hs  h)
set_option maxRecDepth 100000 in
theorem t_X12_goPlot_0 {X : Sx} {l : Launch} {D : Nat} {x1 : Int32} {x2 : Int32} {σ : AH} {σ' : AH} (hD : 7 ≤ D) (hs : Sh σ) (h : F_X12_goPlot x1 x2 σ = some σ') : W_X12_goPlot_0 X l D x1 x2 σ none σ' := by
  unfold F_X12_goPlot at h
  unfold W_X12_goPlot_0
  exact e_X12_goPlot_2 hD  _ _ _ _ _ _ hs  h
theorem f_X12_goPlot {X : Sx} {l : Launch} {x1 : Int32} {x2 : Int32} {σ : AH} {σ' : AH} (hs : Sh σ) (h : F_X12_goPlot x1 x2 σ = some σ') : Call X l m_X12_goPlot 7 [.ref 124, .int x1, .int x2] σ none σ' :=
  Call.ofE ok_X12_goPlot rfl (Nat.le_of_ble_eq_true rfl) (w_X12_goPlot_0 hs  (t_X12_goPlot_0 (Nat.le_refl _) hs  h))
def B_X12_goWeek_332 (k_X12_goWeek_332 : Int32 → Int32 → Int32 → AH → Option AH) (x1 : Int32) (x3 : Int32) (x4 : Int32) (σ : AH) : Option AH := (if x3 ≤ x4 then (some σ) else (if inB x4 30 = true then (bv (F_X12_goPlot (gI σ 150 x4.toNatClampNeg) x1 σ) fun σ34 => (k_X12_goWeek_332 x1 x3 (x4 + 1) σ34)) else none))
def F_X12_goWeek_332 : Nat → Int32 → Int32 → Int32 → AH → Option AH := fun k => match k with | 0 => fun _ _ _ _ => none | k + 1 => B_X12_goWeek_332 (F_X12_goWeek_332 k)
def F_X12_goWeek_323 (k_X12_goWeek_169 : Int32 → Int32 → Int32 → Int32 → AH → Option AH) (x1 : Int32) (x2 : Int32) (x3 : Int32) (x4 : Int32) (σ : AH) : Option AH := (k_X12_goWeek_169 x1 x2 x3 (x4 + 1) σ)
def F_X12_goWeek_311 (k_X12_goWeek_169 : Int32 → Int32 → Int32 → Int32 → AH → Option AH) (x1 : Int32) (x2 : Int32) (x3 : Int32) (x4 : Int32) (x6 : Int32) (σ : AH) : Option AH := (if inB x6 30 = true then (F_X12_goWeek_323 k_X12_goWeek_169 x1 x2 (x3 + 1) x4 (sI σ 150 x6.toNatClampNeg x4)) else none)
def B_X12_goWeek_265 (k_X12_goWeek_169 : Int32 → Int32 → Int32 → Int32 → AH → Option AH) (k_X12_goWeek_265 : Int32 → Int32 → Int32 → Int32 → Int32 → AH → Option AH) (x1 : Int32) (x2 : Int32) (x3 : Int32) (x4 : Int32) (x6 : Int32) (σ : AH) : Option AH := (if x6 ≤ 0 then (F_X12_goWeek_311 k_X12_goWeek_169 x1 x2 x3 x4 x6 σ) else (if inB (x6 - (1 : Int32)) 30 = true then (bd (F_X12_isAhead x4 (gI σ 150 (x6 - (1 : Int32)).toNatClampNeg) x2 σ) fun v44 σ40 => (if v44 = 0 then (F_X12_goWeek_311 k_X12_goWeek_169 x1 x2 x3 x4 x6 σ40) else (if inB (x6 - (1 : Int32)) 30 = true then (if inB x6 30 = true then (k_X12_goWeek_265 x1 x2 x3 x4 (x6 + (-1)) (sI σ40 150 x6.toNatClampNeg (gI σ40 150 (x6 - (1 : Int32)).toNatClampNeg))) else none) else none))) else none))
def F_X12_goWeek_265 (k_X12_goWeek_169 : Int32 → Int32 → Int32 → Int32 → AH → Option AH) : Nat → Int32 → Int32 → Int32 → Int32 → Int32 → AH → Option AH := fun k => match k with | 0 => fun _ _ _ _ _ _ => none | k + 1 => B_X12_goWeek_265 k_X12_goWeek_169 (F_X12_goWeek_265 k_X12_goWeek_169 k)
def F_X12_goWeek_255 (k_X12_goWeek_169 : Int32 → Int32 → Int32 → Int32 → AH → Option AH) (x1 : Int32) (x2 : Int32) (x3 : Int32) (x4 : Int32) (y0 : Int32) (σ : AH) : Option AH := (if y0 = 0 then (F_X12_goWeek_323 k_X12_goWeek_169 x1 x2 x3 x4 σ) else (F_X12_goWeek_265 k_X12_goWeek_169 BIG x1 x2 x3 x4 x3 σ))
def F_X12_goWeek_254 (k_X12_goWeek_169 : Int32 → Int32 → Int32 → Int32 → AH → Option AH) (x1 : Int32) (x2 : Int32) (x3 : Int32) (x4 : Int32) (σ : AH) : Option AH := (F_X12_goWeek_255 k_X12_goWeek_169 x1 x2 x3 x4 (0 : Int32) σ)
def B_X12_goWeek_169 (k_X12_goWeek_169 : Int32 → Int32 → Int32 → Int32 → AH → Option AH) (x1 : Int32) (x2 : Int32) (x3 : Int32) (x4 : Int32) (σ : AH) : Option AH := (if (gI σ 125 4) ≤ x4 then (F_X12_goWeek_332 BIG x1 x3 (0 : Int32) σ) else (if inB x4 30 = true then (if inB x4 30 = true then (if (gI (sI σ 147 x4.toNatClampNeg (0 : Int32)) 140 x4.toNatClampNeg) = (-1 : Int32) then (F_X12_goWeek_254 k_X12_goWeek_169 x1 x2 x3 x4 (sI σ 147 x4.toNatClampNeg (0 : Int32))) else (if inB x4 30 = true then (if x1 < (gI (sI σ 147 x4.toNatClampNeg (0 : Int32)) 140 x4.toNatClampNeg) then (F_X12_goWeek_254 k_X12_goWeek_169 x1 x2 x3 x4 (sI σ 147 x4.toNatClampNeg (0 : Int32))) else (if inB (((23532 : Int32) + ((4 : Int32) * x4)) + (3 : Int32)) 269832 = true then (if x1 < (gI (sI σ 147 x4.toNatClampNeg (0 : Int32)) 125 (((23532 : Int32) + ((4 : Int32) * x4)) + (3 : Int32)).toNatClampNeg) then (F_X12_goWeek_254 k_X12_goWeek_169 x1 x2 x3 x4 (sI σ 147 x4.toNatClampNeg (0 : Int32))) else (if inB x4 30 = true then (if (gI (sI σ 147 x4.toNatClampNeg (0 : Int32)) 141 x4.toNatClampNeg) = 0 then (F_X12_goWeek_254 k_X12_goWeek_169 x1 x2 x3 x4 (sI σ 147 x4.toNatClampNeg (0 : Int32))) else (if inB x4 30 = true then (if (3 : Int32) ≤ (gI (sI σ 147 x4.toNatClampNeg (0 : Int32)) 144 x4.toNatClampNeg) then (F_X12_goWeek_254 k_X12_goWeek_169 x1 x2 x3 x4 (sI σ 147 x4.toNatClampNeg (0 : Int32))) else (F_X12_goWeek_255 k_X12_goWeek_169 x1 x2 x3 x4 (1 : Int32) (sI σ 147 x4.toNatClampNeg (0 : Int32)))) else none)) else none)) else none)) else none)) else none) else none))
def F_X12_goWeek_169 : Nat → Int32 → Int32 → Int32 → Int32 → AH → Option AH := fun k => match k with | 0 => fun _ _ _ _ _ => none | k + 1 => B_X12_goWeek_169 (F_X12_goWeek_169 k)
def B_X12_goWeek_134 (k_X12_goWeek_134 : Int32 → Int32 → AH → Option AH) (x1 : Int32) (x2 : Int32) (σ : AH) : Option AH := (if (6 : Int32) ≤ x2 then (bd (F_X12_firstOf x1 σ) fun v17 σ13 => (F_X12_goWeek_169 BIG x1 v17 (0 : Int32) (0 : Int32) σ13)) else (bd (F_X12_gangsOf x2 x1 σ) fun v23 σ19 => (if inB x2 6 = true then (k_X12_goWeek_134 x1 (x2 + 1) (sI σ19 143 x2.toNatClampNeg v23)) else none)))
def F_X12_goWeek_134 : Nat → Int32 → Int32 → AH → Option AH := fun k => match k with | 0 => fun _ _ _ => none | k + 1 => B_X12_goWeek_134 (F_X12_goWeek_134 k)
def B_X12_goWeek_103 (k_X12_goWeek_103 : Int32 → Int32 → AH → Option AH) (x1 : Int32) (x2 : Int32) (σ : AH) : Option AH := (if (gI σ 125 2) ≤ x2 then (F_X12_goWeek_134 BIG x1 (0 : Int32) σ) else (bv (F_X12_doWork ((23228 : Int32) + ((8 : Int32) * x2)) x1 σ) fun σ4 => (k_X12_goWeek_103 x1 (x2 + 1) σ4)))
def F_X12_goWeek_103 : Nat → Int32 → Int32 → AH → Option AH := fun k => match k with | 0 => fun _ _ _ => none | k + 1 => B_X12_goWeek_103 (F_X12_goWeek_103 k)
def F_X12_goWeek_93 (k_X12_goWeek_2 : Int32 → Int32 → AH → Option AH) (x1 : Int32) (x2 : Int32) (y0 : Int32) (y1 : Int32) (y2 : Int32) (σ : AH) : Option AH := (if inB y2 5 = true then (k_X12_goWeek_2 x1 (x2 + 1) (sI σ 142 y2.toNatClampNeg (y1 + y0))) else none)
def F_X12_goWeek_92 (k_X12_goWeek_2 : Int32 → Int32 → AH → Option AH) (x1 : Int32) (x2 : Int32) (y0 : Int32) (y1 : Int32) (σ : AH) : Option AH := (F_X12_goWeek_93 k_X12_goWeek_2 x1 x2 (0 : Int32) y0 y1 σ)
def F_X12_goWeek_45 (k_X12_goWeek_2 : Int32 → Int32 → AH → Option AH) (x1 : Int32) (x2 : Int32) (x3 : Int32) (y0 : Int32) (y1 : Int32) (σ : AH) : Option AH := (if inB x3 269832 = true then (if inB (gI σ 125 x3.toNatClampNeg) 5 = true then (if inB (x3 + (3 : Int32)) 269832 = true then (if (gI σ 124 23) < (gI σ 125 (x3 + (3 : Int32)).toNatClampNeg) then (F_X12_goWeek_92 k_X12_goWeek_2 x1 x2 (gI σ 142 (gI σ 125 x3.toNatClampNeg).toNatClampNeg) (gI σ 125 x3.toNatClampNeg) σ) else (if (y1 + y0) = x1 then (if inB (x3 + (2 : Int32)) 269832 = true then (F_X12_goWeek_93 k_X12_goWeek_2 x1 x2 (gI σ 125 (x3 + (2 : Int32)).toNatClampNeg) (gI σ 142 (gI σ 125 x3.toNatClampNeg).toNatClampNeg) (gI σ 125 x3.toNatClampNeg) σ) else none) else (F_X12_goWeek_92 k_X12_goWeek_2 x1 x2 (gI σ 142 (gI σ 125 x3.toNatClampNeg).toNatClampNeg) (gI σ 125 x3.toNatClampNeg) σ))) else none) else none) else none)
def B_X12_goWeek_2 (k_X12_goWeek_2 : Int32 → Int32 → AH → Option AH) (x1 : Int32) (x2 : Int32) (σ : AH) : Option AH := (if (gI σ 125 1) ≤ x2 then (F_X12_goWeek_103 BIG x1 (0 : Int32) σ) else (if inB (((22748 : Int32) + ((4 : Int32) * x2)) + (1 : Int32)) 269832 = true then (if inB ((22748 : Int32) + ((4 : Int32) * x2)) 269832 = true then (if (gI σ 125 ((22748 : Int32) + ((4 : Int32) * x2)).toNatClampNeg) = 0 then (F_X12_goWeek_45 k_X12_goWeek_2 x1 x2 ((22748 : Int32) + ((4 : Int32) * x2)) (gI σ 124 45) (gI σ 125 (((22748 : Int32) + ((4 : Int32) * x2)) + (1 : Int32)).toNatClampNeg) σ) else (F_X12_goWeek_45 k_X12_goWeek_2 x1 x2 ((22748 : Int32) + ((4 : Int32) * x2)) (0 : Int32) (gI σ 125 (((22748 : Int32) + ((4 : Int32) * x2)) + (1 : Int32)).toNatClampNeg) σ)) else none) else none))
def F_X12_goWeek_2 : Nat → Int32 → Int32 → AH → Option AH := fun k => match k with | 0 => fun _ _ _ => none | k + 1 => B_X12_goWeek_2 (F_X12_goWeek_2 k)
def F_X12_goWeek (x1 : Int32) (σ : AH) : Option AH := (F_X12_goWeek_2 BIG x1 (0 : Int32) σ)
set_option maxRecDepth 100000 in
theorem t_X12_goWeek_332 {X : Sx} {l : Launch} {D : Nat} {k_X12_goWeek_332 : Int32 → Int32 → Int32 → AH → Option AH} {x1 : Int32} {x3 : Int32} {x4 : Int32} {σ : AH} {σ' : AH} (hD : 8 ≤ D) (hk_X12_goWeek_332 : ∀ (x1 : Int32) (x3 : Int32) (x4 : Int32) (σ : AH) (σ' : AH), Sh σ → k_X12_goWeek_332 x1 x3 x4 σ = some σ' → E X l m_X12_goWeek D 332 [(0, .ref 124), (1, .int x1), (3, .int x3), (4, .int x4)] [] σ none σ') (hs : Sh σ) (h : B_X12_goWeek_332 k_X12_goWeek_332 x1 x3 x4 σ = some σ') : W_X12_goWeek_332 X l D x1 x3 x4 σ none σ' := by
  unfold B_X12_goWeek_332 at h
  unfold W_X12_goWeek_332
  refine ite_i (fun c1 => ?_) (fun c1 => ?_)
  · replace h := of_ifp h c1
    exact ret_v h
  · replace h := of_ifn h c1
    obtain ⟨g2, h⟩ := of_gd h
    refine ⟨(inB_mp g2), ?_⟩
    obtain ⟨σ34, q3, h⟩ := of_bv h
    have hC4 := f_X12_goPlot (σ := σ) hs  q3 (X := X) (l := l)
    have hs5 := hC4.1.2.2.2.1 hs
    refine ⟨7, σ34, (Nat.le_trans (by decide) hD), hC4, ?_⟩
    exact hk_X12_goWeek_332 _ _ _ _ _ hs5  h
theorem e_X12_goWeek_332 {X : Sx} {l : Launch} {D : Nat} (hD : 8 ≤ D) : ∀ (k : Nat) (x1 : Int32) (x3 : Int32) (x4 : Int32) (σ : AH) (σ' : AH), Sh σ → F_X12_goWeek_332 k x1 x3 x4 σ = some σ' → E X l m_X12_goWeek D 332 [(0, .ref 124), (1, .int x1), (3, .int x3), (4, .int x4)] [] σ none σ' := by
  intro k
  induction k with
  | zero => intro x1 x3 x4 σ σ' hs h; cases h
  | succ k ih =>
    intro x1 x3 x4 σ σ' hs h
    exact w_X12_goWeek_332 hs  (t_X12_goWeek_332 hD ih hs  h)
set_option maxRecDepth 100000 in
theorem t_X12_goWeek_323 {X : Sx} {l : Launch} {D : Nat} {k_X12_goWeek_169 : Int32 → Int32 → Int32 → Int32 → AH → Option AH} {x1 : Int32} {x2 : Int32} {x3 : Int32} {x4 : Int32} {σ : AH} {σ' : AH} (hD : 8 ≤ D) (hk_X12_goWeek_169 : ∀ (x1 : Int32) (x2 : Int32) (x3 : Int32) (x4 : Int32) (σ : AH) (σ' : AH), Sh σ → k_X12_goWeek_169 x1 x2 x3 x4 σ = some σ' → E X l m_X12_goWeek D 169 [(0, .ref 124), (1, .int x1), (2, .int x2), (3, .int x3), (4, .int x4)] [] σ none σ') (hs : Sh σ) (h : F_X12_goWeek_323 k_X12_goWeek_169 x1 x2 x3 x4 σ = some σ') : W_X12_goWeek_323 X l D x1 x2 x3 x4 σ none σ' := by
  unfold F_X12_goWeek_323 at h
  unfold W_X12_goWeek_323
  exact hk_X12_goWeek_169 _ _ _ _ _ _ hs  h
set_option maxRecDepth 100000 in
theorem t_X12_goWeek_311 {X : Sx} {l : Launch} {D : Nat} {k_X12_goWeek_169 : Int32 → Int32 → Int32 → Int32 → AH → Option AH} {x1 : Int32} {x2 : Int32} {x3 : Int32} {x4 : Int32} {x6 : Int32} {σ : AH} {σ' : AH} (hD : 8 ≤ D) (hk_X12_goWeek_169 : ∀ (x1 : Int32) (x2 : Int32) (x3 : Int32) (x4 : Int32) (σ : AH) (σ' : AH), Sh σ → k_X12_goWeek_169 x1 x2 x3 x4 σ = some σ' → E X l m_X12_goWeek D 169 [(0, .ref 124), (1, .int x1), (2, .int x2), (3, .int x3), (4, .int x4)] [] σ none σ') (hs : Sh σ) (h : F_X12_goWeek_311 k_X12_goWeek_169 x1 x2 x3 x4 x6 σ = some σ') : W_X12_goWeek_311 X l D x1 x2 x3 x4 x6 σ none σ' := by
  unfold F_X12_goWeek_311 at h
  unfold W_X12_goWeek_311
  obtain ⟨g1, h⟩ := of_gd h
  refine ⟨(inB_mp g1), ?_⟩
  exact t_X12_goWeek_323 hD hk_X12_goWeek_169 hs  h
set_option maxRecDepth 100000 in
theorem t_X12_goWeek_265 {X : Sx} {l : Launch} {D : Nat} {k_X12_goWeek_169 : Int32 → Int32 → Int32 → Int32 → AH → Option AH} {k_X12_goWeek_265 : Int32 → Int32 → Int32 → Int32 → Int32 → AH → Option AH} {x1 : Int32} {x2 : Int32} {x3 : Int32} {x4 : Int32} {x6 : Int32} {σ : AH} {σ' : AH} (hD : 8 ≤ D) (hk_X12_goWeek_169 : ∀ (x1 : Int32) (x2 : Int32) (x3 : Int32) (x4 : Int32) (σ : AH) (σ' : AH), Sh σ → k_X12_goWeek_169 x1 x2 x3 x4 σ = some σ' → E X l m_X12_goWeek D 169 [(0, .ref 124), (1, .int x1), (2, .int x2), (3, .int x3), (4, .int x4)] [] σ none σ') (hk_X12_goWeek_265 : ∀ (x1 : Int32) (x2 : Int32) (x3 : Int32) (x4 : Int32) (x6 : Int32) (σ : AH) (σ' : AH), Sh σ → k_X12_goWeek_265 x1 x2 x3 x4 x6 σ = some σ' → E X l m_X12_goWeek D 265 [(0, .ref 124), (1, .int x1), (2, .int x2), (3, .int x3), (4, .int x4), (6, .int x6)] [] σ none σ') (hs : Sh σ) (h : B_X12_goWeek_265 k_X12_goWeek_169 k_X12_goWeek_265 x1 x2 x3 x4 x6 σ = some σ') : W_X12_goWeek_265 X l D x1 x2 x3 x4 x6 σ none σ' := by
  unfold B_X12_goWeek_265 at h
  unfold W_X12_goWeek_265
  refine ite_i (fun c1 => ?_) (fun c1 => ?_)
  · replace h := of_ifp h c1
    exact t_X12_goWeek_311 hD hk_X12_goWeek_169 hs  h
  · replace h := of_ifn h c1
    obtain ⟨g2, h⟩ := of_gd h
    refine ⟨(inB_mp g2), ?_⟩
    obtain ⟨v44, σ40, q3, h⟩ := of_bd h
    have hC4 := f_X12_isAhead (σ := σ) hs  q3 (X := X) (l := l)
    have hs5 := hC4.1.2.2.2.1 hs
    refine ⟨1, v44, σ40, (Nat.le_trans (by decide) hD), hC4, ?_⟩
    refine ite_i (fun c6 => ?_) (fun c6 => ?_)
    · replace h := of_ifp h c6
      exact t_X12_goWeek_311 hD hk_X12_goWeek_169 hs5  h
    · replace h := of_ifn h c6
      obtain ⟨g7, h⟩ := of_gd h
      refine ⟨(inB_mp g7), ?_⟩
      obtain ⟨g8, h⟩ := of_gd h
      refine ⟨(inB_mp g8), ?_⟩
      exact hk_X12_goWeek_265 _ _ _ _ _ _ _ hs5  h
theorem e_X12_goWeek_265 {X : Sx} {l : Launch} {D : Nat} {k_X12_goWeek_169 : Int32 → Int32 → Int32 → Int32 → AH → Option AH} (hD : 8 ≤ D) (hk_X12_goWeek_169 : ∀ (x1 : Int32) (x2 : Int32) (x3 : Int32) (x4 : Int32) (σ : AH) (σ' : AH), Sh σ → k_X12_goWeek_169 x1 x2 x3 x4 σ = some σ' → E X l m_X12_goWeek D 169 [(0, .ref 124), (1, .int x1), (2, .int x2), (3, .int x3), (4, .int x4)] [] σ none σ') : ∀ (k : Nat) (x1 : Int32) (x2 : Int32) (x3 : Int32) (x4 : Int32) (x6 : Int32) (σ : AH) (σ' : AH), Sh σ → F_X12_goWeek_265 k_X12_goWeek_169 k x1 x2 x3 x4 x6 σ = some σ' → E X l m_X12_goWeek D 265 [(0, .ref 124), (1, .int x1), (2, .int x2), (3, .int x3), (4, .int x4), (6, .int x6)] [] σ none σ' := by
  intro k
  induction k with
  | zero => intro x1 x2 x3 x4 x6 σ σ' hs h; cases h
  | succ k ih =>
    intro x1 x2 x3 x4 x6 σ σ' hs h
    exact w_X12_goWeek_265 hs  (t_X12_goWeek_265 hD hk_X12_goWeek_169 ih hs  h)
set_option maxRecDepth 100000 in
theorem t_X12_goWeek_255 {X : Sx} {l : Launch} {D : Nat} {k_X12_goWeek_169 : Int32 → Int32 → Int32 → Int32 → AH → Option AH} {x1 : Int32} {x2 : Int32} {x3 : Int32} {x4 : Int32} {y0 : Int32} {σ : AH} {σ' : AH} (hD : 8 ≤ D) (hk_X12_goWeek_169 : ∀ (x1 : Int32) (x2 : Int32) (x3 : Int32) (x4 : Int32) (σ : AH) (σ' : AH), Sh σ → k_X12_goWeek_169 x1 x2 x3 x4 σ = some σ' → E X l m_X12_goWeek D 169 [(0, .ref 124), (1, .int x1), (2, .int x2), (3, .int x3), (4, .int x4)] [] σ none σ') (hs : Sh σ) (h : F_X12_goWeek_255 k_X12_goWeek_169 x1 x2 x3 x4 y0 σ = some σ') : W_X12_goWeek_255 X l D x1 x2 x3 x4 y0 σ none σ' := by
  unfold F_X12_goWeek_255 at h
  unfold W_X12_goWeek_255
  refine ite_i (fun c1 => ?_) (fun c1 => ?_)
  · replace h := of_ifp h c1
    exact t_X12_goWeek_323 hD hk_X12_goWeek_169 hs  h
  · replace h := of_ifn h c1
    exact e_X12_goWeek_265 hD hk_X12_goWeek_169 _ _ _ _ _ _ _ _ hs  h
set_option maxRecDepth 100000 in
theorem t_X12_goWeek_254 {X : Sx} {l : Launch} {D : Nat} {k_X12_goWeek_169 : Int32 → Int32 → Int32 → Int32 → AH → Option AH} {x1 : Int32} {x2 : Int32} {x3 : Int32} {x4 : Int32} {σ : AH} {σ' : AH} (hD : 8 ≤ D) (hk_X12_goWeek_169 : ∀ (x1 : Int32) (x2 : Int32) (x3 : Int32) (x4 : Int32) (σ : AH) (σ' : AH), Sh σ → k_X12_goWeek_169 x1 x2 x3 x4 σ = some σ' → E X l m_X12_goWeek D 169 [(0, .ref 124), (1, .int x1), (2, .int x2), (3, .int x3), (4, .int x4)] [] σ none σ') (hs : Sh σ) (h : F_X12_goWeek_254 k_X12_goWeek_169 x1 x2 x3 x4 σ = some σ') : W_X12_goWeek_254 X l D x1 x2 x3 x4 σ none σ' := by
  unfold F_X12_goWeek_254 at h
  unfold W_X12_goWeek_254
  exact t_X12_goWeek_255 hD hk_X12_goWeek_169 hs  h
set_option maxRecDepth 100000 in
theorem t_X12_goWeek_169 {X : Sx} {l : Launch} {D : Nat} {k_X12_goWeek_169 : Int32 → Int32 → Int32 → Int32 → AH → Option AH} {x1 : Int32} {x2 : Int32} {x3 : Int32} {x4 : Int32} {σ : AH} {σ' : AH} (hD : 8 ≤ D) (hk_X12_goWeek_169 : ∀ (x1 : Int32) (x2 : Int32) (x3 : Int32) (x4 : Int32) (σ : AH) (σ' : AH), Sh σ → k_X12_goWeek_169 x1 x2 x3 x4 σ = some σ' → E X l m_X12_goWeek D 169 [(0, .ref 124), (1, .int x1), (2, .int x2), (3, .int x3), (4, .int x4)] [] σ none σ') (hs : Sh σ) (h : B_X12_goWeek_169 k_X12_goWeek_169 x1 x2 x3 x4 σ = some σ') : W_X12_goWeek_169 X l D x1 x2 x3 x4 σ none σ' := by
  unfold B_X12_goWeek_169 at h
  unfold W_X12_goWeek_169
  refine ite_i (fun c1 => ?_) (fun c1 => ?_)
  · replace h := of_ifp h c1
    exact e_X12_goWeek_332 hD  _ _ _ _ _ _ hs  h
  · replace h := of_ifn h c1
    obtain ⟨g2, h⟩ := of_gd h
    refine ⟨(inB_mp g2), ?_⟩
    obtain ⟨g3, h⟩ := of_gd h
    refine ⟨(inB_mp g3), ?_⟩
    refine ite_i (fun c4 => ?_) (fun c4 => ?_)
    · replace h := of_ifp h c4
      exact t_X12_goWeek_254 hD hk_X12_goWeek_169 hs  h
    · replace h := of_ifn h c4
      obtain ⟨g5, h⟩ := of_gd h
      refine ⟨(inB_mp g5), ?_⟩
      refine ite_i (fun c6 => ?_) (fun c6 => ?_)
      · replace h := of_ifp h c6
        exact t_X12_goWeek_254 hD hk_X12_goWeek_169 hs  h
      · replace h := of_ifn h c6
        obtain ⟨g7, h⟩ := of_gd h
        refine ⟨(inB_mp g7), ?_⟩
        refine ite_i (fun c8 => ?_) (fun c8 => ?_)
        · replace h := of_ifp h c8
          exact t_X12_goWeek_254 hD hk_X12_goWeek_169 hs  h
        · replace h := of_ifn h c8
          obtain ⟨g9, h⟩ := of_gd h
          refine ⟨(inB_mp g9), ?_⟩
          refine ite_i (fun c10 => ?_) (fun c10 => ?_)
          · replace h := of_ifp h c10
            exact t_X12_goWeek_254 hD hk_X12_goWeek_169 hs  h
          · replace h := of_ifn h c10
            obtain ⟨g11, h⟩ := of_gd h
            refine ⟨(inB_mp g11), ?_⟩
            refine ite_i (fun c12 => ?_) (fun c12 => ?_)
            · replace h := of_ifp h c12
              exact t_X12_goWeek_254 hD hk_X12_goWeek_169 hs  h
            · replace h := of_ifn h c12
              exact t_X12_goWeek_255 hD hk_X12_goWeek_169 hs  h
theorem e_X12_goWeek_169 {X : Sx} {l : Launch} {D : Nat} (hD : 8 ≤ D) : ∀ (k : Nat) (x1 : Int32) (x2 : Int32) (x3 : Int32) (x4 : Int32) (σ : AH) (σ' : AH), Sh σ → F_X12_goWeek_169 k x1 x2 x3 x4 σ = some σ' → E X l m_X12_goWeek D 169 [(0, .ref 124), (1, .int x1), (2, .int x2), (3, .int x3), (4, .int x4)] [] σ none σ' := by
  intro k
  induction k with
  | zero => intro x1 x2 x3 x4 σ σ' hs h; cases h
  | succ k ih =>
    intro x1 x2 x3 x4 σ σ' hs h
    exact w_X12_goWeek_169 hs  (t_X12_goWeek_169 hD ih hs  h)
set_option maxRecDepth 100000 in
theorem t_X12_goWeek_134 {X : Sx} {l : Launch} {D : Nat} {k_X12_goWeek_134 : Int32 → Int32 → AH → Option AH} {x1 : Int32} {x2 : Int32} {σ : AH} {σ' : AH} (hD : 8 ≤ D) (hk_X12_goWeek_134 : ∀ (x1 : Int32) (x2 : Int32) (σ : AH) (σ' : AH), Sh σ → k_X12_goWeek_134 x1 x2 σ = some σ' → E X l m_X12_goWeek D 134 [(0, .ref 124), (1, .int x1), (2, .int x2)] [] σ none σ') (hs : Sh σ) (h : B_X12_goWeek_134 k_X12_goWeek_134 x1 x2 σ = some σ') : W_X12_goWeek_134 X l D x1 x2 σ none σ' := by
  unfold B_X12_goWeek_134 at h
  unfold W_X12_goWeek_134
  refine ite_i (fun c1 => ?_) (fun c1 => ?_)
  · replace h := of_ifp h c1
    obtain ⟨v17, σ13, q2, h⟩ := of_bd h
    have hC3 := f_X12_firstOf (σ := σ) hs  q2 (X := X) (l := l)
    have hs4 := hC3.1.2.2.2.1 hs
    refine ⟨5, v17, σ13, (Nat.le_trans (by decide) hD), hC3, ?_⟩
    exact e_X12_goWeek_169 hD  _ _ _ _ _ _ _ hs4  h
  · replace h := of_ifn h c1
    obtain ⟨v23, σ19, q5, h⟩ := of_bd h
    have hC6 := f_X12_gangsOf (σ := σ) hs  q5 (X := X) (l := l)
    have hs7 := hC6.1.2.2.2.1 hs
    refine ⟨0, v23, σ19, (Nat.le_trans (by decide) hD), hC6, ?_⟩
    obtain ⟨g8, h⟩ := of_gd h
    refine ⟨(inB_mp g8), ?_⟩
    exact hk_X12_goWeek_134 _ _ _ _ hs7  h
theorem e_X12_goWeek_134 {X : Sx} {l : Launch} {D : Nat} (hD : 8 ≤ D) : ∀ (k : Nat) (x1 : Int32) (x2 : Int32) (σ : AH) (σ' : AH), Sh σ → F_X12_goWeek_134 k x1 x2 σ = some σ' → E X l m_X12_goWeek D 134 [(0, .ref 124), (1, .int x1), (2, .int x2)] [] σ none σ' := by
  intro k
  induction k with
  | zero => intro x1 x2 σ σ' hs h; cases h
  | succ k ih =>
    intro x1 x2 σ σ' hs h
    exact w_X12_goWeek_134 hs  (t_X12_goWeek_134 hD ih hs  h)
set_option maxRecDepth 100000 in
theorem t_X12_goWeek_103 {X : Sx} {l : Launch} {D : Nat} {k_X12_goWeek_103 : Int32 → Int32 → AH → Option AH} {x1 : Int32} {x2 : Int32} {σ : AH} {σ' : AH} (hD : 8 ≤ D) (hk_X12_goWeek_103 : ∀ (x1 : Int32) (x2 : Int32) (σ : AH) (σ' : AH), Sh σ → k_X12_goWeek_103 x1 x2 σ = some σ' → E X l m_X12_goWeek D 103 [(0, .ref 124), (1, .int x1), (2, .int x2)] [] σ none σ') (hs : Sh σ) (h : B_X12_goWeek_103 k_X12_goWeek_103 x1 x2 σ = some σ') : W_X12_goWeek_103 X l D x1 x2 σ none σ' := by
  unfold B_X12_goWeek_103 at h
  unfold W_X12_goWeek_103
  refine ite_i (fun c1 => ?_) (fun c1 => ?_)
  · replace h := of_ifp h c1
    exact e_X12_goWeek_134 hD  _ _ _ _ _ hs  h
  · replace h := of_ifn h c1
    obtain ⟨σ4, q2, h⟩ := of_bv h
    have hC3 := f_X12_doWork (σ := σ) hs  q2 (X := X) (l := l)
    have hs4 := hC3.1.2.2.2.1 hs
    refine ⟨0, σ4, (Nat.le_trans (by decide) hD), hC3, ?_⟩
    exact hk_X12_goWeek_103 _ _ _ _ hs4  h
theorem e_X12_goWeek_103 {X : Sx} {l : Launch} {D : Nat} (hD : 8 ≤ D) : ∀ (k : Nat) (x1 : Int32) (x2 : Int32) (σ : AH) (σ' : AH), Sh σ → F_X12_goWeek_103 k x1 x2 σ = some σ' → E X l m_X12_goWeek D 103 [(0, .ref 124), (1, .int x1), (2, .int x2)] [] σ none σ' := by
  intro k
  induction k with
  | zero => intro x1 x2 σ σ' hs h; cases h
  | succ k ih =>
    intro x1 x2 σ σ' hs h
    exact w_X12_goWeek_103 hs  (t_X12_goWeek_103 hD ih hs  h)
set_option maxRecDepth 100000 in
theorem t_X12_goWeek_93 {X : Sx} {l : Launch} {D : Nat} {k_X12_goWeek_2 : Int32 → Int32 → AH → Option AH} {x1 : Int32} {x2 : Int32} {y0 : Int32} {y1 : Int32} {y2 : Int32} {σ : AH} {σ' : AH} (hD : 8 ≤ D) (hk_X12_goWeek_2 : ∀ (x1 : Int32) (x2 : Int32) (σ : AH) (σ' : AH), Sh σ → k_X12_goWeek_2 x1 x2 σ = some σ' → E X l m_X12_goWeek D 2 [(0, .ref 124), (1, .int x1), (2, .int x2)] [] σ none σ') (hs : Sh σ) (h : F_X12_goWeek_93 k_X12_goWeek_2 x1 x2 y0 y1 y2 σ = some σ') : W_X12_goWeek_93 X l D x1 x2 y0 y1 y2 σ none σ' := by
  unfold F_X12_goWeek_93 at h
  unfold W_X12_goWeek_93
  obtain ⟨g1, h⟩ := of_gd h
  refine ⟨(inB_mp g1), ?_⟩
  exact hk_X12_goWeek_2 _ _ _ _ hs  h
set_option maxRecDepth 100000 in
theorem t_X12_goWeek_92 {X : Sx} {l : Launch} {D : Nat} {k_X12_goWeek_2 : Int32 → Int32 → AH → Option AH} {x1 : Int32} {x2 : Int32} {y0 : Int32} {y1 : Int32} {σ : AH} {σ' : AH} (hD : 8 ≤ D) (hk_X12_goWeek_2 : ∀ (x1 : Int32) (x2 : Int32) (σ : AH) (σ' : AH), Sh σ → k_X12_goWeek_2 x1 x2 σ = some σ' → E X l m_X12_goWeek D 2 [(0, .ref 124), (1, .int x1), (2, .int x2)] [] σ none σ') (hs : Sh σ) (h : F_X12_goWeek_92 k_X12_goWeek_2 x1 x2 y0 y1 σ = some σ') : W_X12_goWeek_92 X l D x1 x2 y0 y1 σ none σ' := by
  unfold F_X12_goWeek_92 at h
  unfold W_X12_goWeek_92
  exact t_X12_goWeek_93 hD hk_X12_goWeek_2 hs  h
set_option maxRecDepth 100000 in
theorem t_X12_goWeek_45 {X : Sx} {l : Launch} {D : Nat} {k_X12_goWeek_2 : Int32 → Int32 → AH → Option AH} {x1 : Int32} {x2 : Int32} {x3 : Int32} {y0 : Int32} {y1 : Int32} {σ : AH} {σ' : AH} (hD : 8 ≤ D) (hk_X12_goWeek_2 : ∀ (x1 : Int32) (x2 : Int32) (σ : AH) (σ' : AH), Sh σ → k_X12_goWeek_2 x1 x2 σ = some σ' → E X l m_X12_goWeek D 2 [(0, .ref 124), (1, .int x1), (2, .int x2)] [] σ none σ') (hs : Sh σ) (h : F_X12_goWeek_45 k_X12_goWeek_2 x1 x2 x3 y0 y1 σ = some σ') : W_X12_goWeek_45 X l D x1 x2 x3 y0 y1 σ none σ' := by
  unfold F_X12_goWeek_45 at h
  unfold W_X12_goWeek_45
  obtain ⟨g1, h⟩ := of_gd h
  refine ⟨(inB_mp g1), ?_⟩
  obtain ⟨g2, h⟩ := of_gd h
  refine ⟨(inB_mp g2), ?_⟩
  obtain ⟨g3, h⟩ := of_gd h
  refine ⟨(inB_mp g3), ?_⟩
  refine ite_i (fun c4 => ?_) (fun c4 => ?_)
  · replace h := of_ifp h c4
    exact t_X12_goWeek_92 hD hk_X12_goWeek_2 hs  h
  · replace h := of_ifn h c4
    refine ite_i (fun c5 => ?_) (fun c5 => ?_)
    · replace h := of_ifp h c5
      obtain ⟨g6, h⟩ := of_gd h
      refine ⟨(inB_mp g6), ?_⟩
      exact t_X12_goWeek_93 hD hk_X12_goWeek_2 hs  h
    · replace h := of_ifn h c5
      exact t_X12_goWeek_92 hD hk_X12_goWeek_2 hs  h
set_option maxRecDepth 100000 in
theorem t_X12_goWeek_2 {X : Sx} {l : Launch} {D : Nat} {k_X12_goWeek_2 : Int32 → Int32 → AH → Option AH} {x1 : Int32} {x2 : Int32} {σ : AH} {σ' : AH} (hD : 8 ≤ D) (hk_X12_goWeek_2 : ∀ (x1 : Int32) (x2 : Int32) (σ : AH) (σ' : AH), Sh σ → k_X12_goWeek_2 x1 x2 σ = some σ' → E X l m_X12_goWeek D 2 [(0, .ref 124), (1, .int x1), (2, .int x2)] [] σ none σ') (hs : Sh σ) (h : B_X12_goWeek_2 k_X12_goWeek_2 x1 x2 σ = some σ') : W_X12_goWeek_2 X l D x1 x2 σ none σ' := by
  unfold B_X12_goWeek_2 at h
  unfold W_X12_goWeek_2
  refine ite_i (fun c1 => ?_) (fun c1 => ?_)
  · replace h := of_ifp h c1
    exact e_X12_goWeek_103 hD  _ _ _ _ _ hs  h
  · replace h := of_ifn h c1
    obtain ⟨g2, h⟩ := of_gd h
    refine ⟨(inB_mp g2), ?_⟩
    obtain ⟨g3, h⟩ := of_gd h
    refine ⟨(inB_mp g3), ?_⟩
    refine ite_i (fun c4 => ?_) (fun c4 => ?_)
    · replace h := of_ifp h c4
      exact t_X12_goWeek_45 hD hk_X12_goWeek_2 hs  h
    · replace h := of_ifn h c4
      exact t_X12_goWeek_45 hD hk_X12_goWeek_2 hs  h
theorem e_X12_goWeek_2 {X : Sx} {l : Launch} {D : Nat} (hD : 8 ≤ D) : ∀ (k : Nat) (x1 : Int32) (x2 : Int32) (σ : AH) (σ' : AH), Sh σ → F_X12_goWeek_2 k x1 x2 σ = some σ' → E X l m_X12_goWeek D 2 [(0, .ref 124), (1, .int x1), (2, .int x2)] [] σ none σ' := by
  intro k
  induction k with
  | zero => intro x1 x2 σ σ' hs h; cases h
  | succ k ih =>
    intro x1 x2 σ σ' hs h
    exact w_X12_goWeek_2 hs  (t_X12_goWeek_2 hD ih hs  h)
set_option maxRecDepth 100000 in
theorem t_X12_goWeek_0 {X : Sx} {l : Launch} {D : Nat} {x1 : Int32} {σ : AH} {σ' : AH} (hD : 8 ≤ D) (hs : Sh σ) (h : F_X12_goWeek x1 σ = some σ') : W_X12_goWeek_0 X l D x1 σ none σ' := by
  unfold F_X12_goWeek at h
  unfold W_X12_goWeek_0
  exact e_X12_goWeek_2 hD  _ _ _ _ _ hs  h
theorem f_X12_goWeek {X : Sx} {l : Launch} {x1 : Int32} {σ : AH} {σ' : AH} (hs : Sh σ) (h : F_X12_goWeek x1 σ = some σ') : Call X l m_X12_goWeek 8 [.ref 124, .int x1] σ none σ' :=
  Call.ofE ok_X12_goWeek rfl (Nat.le_of_ble_eq_true rfl) (w_X12_goWeek_0 hs  (t_X12_goWeek_0 (Nat.le_refl _) hs  h))
def B_X12_goTo_2 (k_X12_goTo_2 : Int32 → Int32 → AH → Option AH) (x2 : Int32) (x3 : Int32) (σ : AH) : Option AH := (if x2 < x3 then (some σ) else (bv (F_X12_goWeek x3 σ) fun σ2 => (k_X12_goTo_2 x2 (x3 + 1) σ2)))
def F_X12_goTo_2 : Nat → Int32 → Int32 → AH → Option AH := fun k => match k with | 0 => fun _ _ _ => none | k + 1 => B_X12_goTo_2 (F_X12_goTo_2 k)
def F_X12_goTo (x1 : Int32) (x2 : Int32) (σ : AH) : Option AH := (F_X12_goTo_2 BIG x2 x1 σ)
set_option maxRecDepth 100000 in
theorem t_X12_goTo_2 {X : Sx} {l : Launch} {D : Nat} {k_X12_goTo_2 : Int32 → Int32 → AH → Option AH} {x2 : Int32} {x3 : Int32} {σ : AH} {σ' : AH} (hD : 9 ≤ D) (hk_X12_goTo_2 : ∀ (x2 : Int32) (x3 : Int32) (σ : AH) (σ' : AH), Sh σ → k_X12_goTo_2 x2 x3 σ = some σ' → E X l m_X12_goTo D 2 [(0, .ref 124), (2, .int x2), (3, .int x3)] [] σ none σ') (hs : Sh σ) (h : B_X12_goTo_2 k_X12_goTo_2 x2 x3 σ = some σ') : W_X12_goTo_2 X l D x2 x3 σ none σ' := by
  unfold B_X12_goTo_2 at h
  unfold W_X12_goTo_2
  refine ite_i (fun c1 => ?_) (fun c1 => ?_)
  · replace h := of_ifp h c1
    exact ret_v h
  · replace h := of_ifn h c1
    obtain ⟨σ2, q2, h⟩ := of_bv h
    have hC3 := f_X12_goWeek (σ := σ) hs  q2 (X := X) (l := l)
    have hs4 := hC3.1.2.2.2.1 hs
    refine ⟨8, σ2, (Nat.le_trans (by decide) hD), hC3, ?_⟩
    exact hk_X12_goTo_2 _ _ _ _ hs4  h
theorem e_X12_goTo_2 {X : Sx} {l : Launch} {D : Nat} (hD : 9 ≤ D) : ∀ (k : Nat) (x2 : Int32) (x3 : Int32) (σ : AH) (σ' : AH), Sh σ → F_X12_goTo_2 k x2 x3 σ = some σ' → E X l m_X12_goTo D 2 [(0, .ref 124), (2, .int x2), (3, .int x3)] [] σ none σ' := by
  intro k
  induction k with
  | zero => intro x2 x3 σ σ' hs h; cases h
  | succ k ih =>
    intro x2 x3 σ σ' hs h
    exact w_X12_goTo_2 hs  (t_X12_goTo_2 hD ih hs  h)
set_option maxRecDepth 100000 in
theorem t_X12_goTo_0 {X : Sx} {l : Launch} {D : Nat} {x1 : Int32} {x2 : Int32} {σ : AH} {σ' : AH} (hD : 9 ≤ D) (hs : Sh σ) (h : F_X12_goTo x1 x2 σ = some σ') : W_X12_goTo_0 X l D x1 x2 σ none σ' := by
  unfold F_X12_goTo at h
  unfold W_X12_goTo_0
  exact e_X12_goTo_2 hD  _ _ _ _ _ hs  h
theorem f_X12_goTo {X : Sx} {l : Launch} {x1 : Int32} {x2 : Int32} {σ : AH} {σ' : AH} (hs : Sh σ) (h : F_X12_goTo x1 x2 σ = some σ') : Call X l m_X12_goTo 9 [.ref 124, .int x1, .int x2] σ none σ' :=
  Call.ofE ok_X12_goTo rfl (Nat.le_of_ble_eq_true rfl) (w_X12_goTo_0 hs  (t_X12_goTo_0 (Nat.le_refl _) hs  h))
def F_X12_runAll (x1 : Int32) (x2 : Int32) (σ : AH) : Option AH := (bv (F_X12_knowBy x1 σ) fun σ2 => (bv (F_X12_beginRun x2 σ2) fun σ7 => (bv (F_X12_goTo (0 : Int32) (259 : Int32) σ7) fun σ12 => (some σ12))))
set_option maxRecDepth 100000 in
theorem t_X12_runAll_0 {X : Sx} {l : Launch} {D : Nat} {x1 : Int32} {x2 : Int32} {σ : AH} {σ' : AH} (hD : 10 ≤ D) (hs : Sh σ) (h : F_X12_runAll x1 x2 σ = some σ') : W_X12_runAll_0 X l D x1 x2 σ none σ' := by
  unfold F_X12_runAll at h
  unfold W_X12_runAll_0
  obtain ⟨σ2, q1, h⟩ := of_bv h
  have hC2 := f_X12_knowBy (σ := σ) hs  q1 (X := X) (l := l)
  have hs3 := hC2.1.2.2.2.1 hs
  refine ⟨0, σ2, (Nat.le_trans (by decide) hD), hC2, ?_⟩
  obtain ⟨σ7, q4, h⟩ := of_bv h
  have hC5 := f_X12_beginRun (σ := σ2) hs3  q4 (X := X) (l := l)
  have hs6 := hC5.1.2.2.2.1 hs3
  refine ⟨6, σ7, (Nat.le_trans (by decide) hD), hC5, ?_⟩
  obtain ⟨σ12, q7, h⟩ := of_bv h
  have hC8 := f_X12_goTo (σ := σ7) hs6  q7 (X := X) (l := l)
  have hs9 := hC8.1.2.2.2.1 hs6
  refine ⟨9, σ12, (Nat.le_trans (by decide) hD), hC8, ?_⟩
  exact ret_v h
theorem f_X12_runAll {X : Sx} {l : Launch} {x1 : Int32} {x2 : Int32} {σ : AH} {σ' : AH} (hs : Sh σ) (h : F_X12_runAll x1 x2 σ = some σ') : Call X l m_X12_runAll 10 [.ref 124, .int x1, .int x2] σ none σ' :=
  Call.ofE ok_X12_runAll rfl (Nat.le_of_ble_eq_true rfl) (w_X12_runAll_0 hs  (t_X12_runAll_0 (Nat.le_refl _) hs  h))
def F_X12_stock (x1 : Int32) (x2 : Int32) (x3 : Int32) (x4 : Int32) (σ : AH) : Option (Int32 × AH) := (bd (F_X12_in (x1).toInt64 (0 : Int64) (4 : Int64) (sI σ 124 0 (0 : Int32))) fun v6 σ2 => (if v6 = 0 then (some ((-1 : Int32), σ2)) else (bd (F_X12_isWeek x2 σ2) fun v12 σ8 => (if v12 = 0 then (some ((-1 : Int32), σ8)) else (bd (F_X12_isWeek x3 σ8) fun v18 σ14 => (if v18 = 0 then (some ((-1 : Int32), σ14)) else (bd (F_X12_in (x4).toInt64 (0 : Int64) (26 : Int64) σ14) fun v24 σ20 => (if v24 = 0 then (some ((-1 : Int32), σ20)) else (bv (F_X12_knowBy x3 σ20) fun σ26 => (bv (F_X12_beginRun x4 σ26) fun σ31 => (bv (F_X12_goTo (0 : Int32) x2 σ31) fun σ36 => (if inB x1 5 = true then (some ((gI σ36 142 x1.toNatClampNeg), σ36)) else none))))))))))))
set_option maxRecDepth 100000 in
theorem t_X12_stock_0 {X : Sx} {l : Launch} {D : Nat} {x1 : Int32} {x2 : Int32} {x3 : Int32} {x4 : Int32} {σ : AH} {v : Int32} {σ' : AH} (hD : 10 ≤ D) (hs : Sh σ) (h : F_X12_stock x1 x2 x3 x4 σ = some (v, σ')) : W_X12_stock_0 X l D x1 x2 x3 x4 σ (some (.int v)) σ' := by
  unfold F_X12_stock at h
  unfold W_X12_stock_0
  obtain ⟨v6, σ2, q1, h⟩ := of_bd h
  have hC2 := f_X12_in (σ := (sI σ 124 0 (0 : Int32))) hs  q1 (X := X) (l := l)
  have hs3 := hC2.1.2.2.2.1 hs
  refine ⟨0, v6, σ2, (Nat.le_trans (by decide) hD), hC2, ?_⟩
  refine ite_i (fun c4 => ?_) (fun c4 => ?_)
  · replace h := of_ifp h c4
    exact ret_i h
  · replace h := of_ifn h c4
    obtain ⟨v12, σ8, q5, h⟩ := of_bd h
    have hC6 := f_X12_isWeek (σ := σ2) hs3  q5 (X := X) (l := l)
    have hs7 := hC6.1.2.2.2.1 hs3
    refine ⟨1, v12, σ8, (Nat.le_trans (by decide) hD), hC6, ?_⟩
    refine ite_i (fun c8 => ?_) (fun c8 => ?_)
    · replace h := of_ifp h c8
      exact ret_i h
    · replace h := of_ifn h c8
      obtain ⟨v18, σ14, q9, h⟩ := of_bd h
      have hC10 := f_X12_isWeek (σ := σ8) hs7  q9 (X := X) (l := l)
      have hs11 := hC10.1.2.2.2.1 hs7
      refine ⟨1, v18, σ14, (Nat.le_trans (by decide) hD), hC10, ?_⟩
      refine ite_i (fun c12 => ?_) (fun c12 => ?_)
      · replace h := of_ifp h c12
        exact ret_i h
      · replace h := of_ifn h c12
        obtain ⟨v24, σ20, q13, h⟩ := of_bd h
        have hC14 := f_X12_in (σ := σ14) hs11  q13 (X := X) (l := l)
        have hs15 := hC14.1.2.2.2.1 hs11
        refine ⟨0, v24, σ20, (Nat.le_trans (by decide) hD), hC14, ?_⟩
        refine ite_i (fun c16 => ?_) (fun c16 => ?_)
        · replace h := of_ifp h c16
          exact ret_i h
        · replace h := of_ifn h c16
          obtain ⟨σ26, q17, h⟩ := of_bv h
          have hC18 := f_X12_knowBy (σ := σ20) hs15  q17 (X := X) (l := l)
          have hs19 := hC18.1.2.2.2.1 hs15
          refine ⟨0, σ26, (Nat.le_trans (by decide) hD), hC18, ?_⟩
          obtain ⟨σ31, q20, h⟩ := of_bv h
          have hC21 := f_X12_beginRun (σ := σ26) hs19  q20 (X := X) (l := l)
          have hs22 := hC21.1.2.2.2.1 hs19
          refine ⟨6, σ31, (Nat.le_trans (by decide) hD), hC21, ?_⟩
          obtain ⟨σ36, q23, h⟩ := of_bv h
          have hC24 := f_X12_goTo (σ := σ31) hs22  q23 (X := X) (l := l)
          have hs25 := hC24.1.2.2.2.1 hs22
          refine ⟨9, σ36, (Nat.le_trans (by decide) hD), hC24, ?_⟩
          obtain ⟨g26, h⟩ := of_gd h
          refine ⟨(inB_mp g26), ?_⟩
          exact ret_i h
theorem f_X12_stock {X : Sx} {l : Launch} {x1 : Int32} {x2 : Int32} {x3 : Int32} {x4 : Int32} {σ : AH} {v : Int32} {σ' : AH} (hs : Sh σ) (h : F_X12_stock x1 x2 x3 x4 σ = some (v, σ')) : Call X l m_X12_stock 10 [.ref 124, .int x1, .int x2, .int x3, .int x4] σ (some (.int v)) σ' :=
  Call.ofE ok_X12_stock rfl (Nat.le_of_ble_eq_true rfl) (w_X12_stock_0 hs  (t_X12_stock_0 (Nat.le_refl _) hs  h))
def F_X12_built (x1 : Int32) (x2 : Int32) (x3 : Int32) (x4 : Int32) (σ : AH) : Option (Int32 × AH) := (bd (F_X12_isPlot x1 (sI σ 124 0 (0 : Int32))) fun v6 σ2 => (if v6 = 0 then (some ((-1 : Int32), σ2)) else (bd (F_X12_isWeek x2 σ2) fun v12 σ8 => (if v12 = 0 then (some ((-1 : Int32), σ8)) else (bd (F_X12_in (x3).toInt64 (0 : Int64) (26 : Int64) σ8) fun v18 σ14 => (if v18 = 0 then (some ((-1 : Int32), σ14)) else (bd (F_X12_in (x4).toInt64 (0 : Int64) (6 : Int64) σ14) fun v24 σ20 => (if v24 = 0 then (some ((-1 : Int32), σ20)) else (bv (F_X12_runAll x2 x3 σ20) fun σ26 => (if (3 : Int32) ≤ x4 then (if (6 : Int32) ≤ x4 then (if inB x1 30 = true then (if (gI σ26 141 x1.toNatClampNeg) = 0 then (some ((0 : Int32), σ26)) else (some ((1 : Int32), σ26))) else none) else (if inB ((((3 : Int32) * x1) + x4) - (3 : Int32)) 90 = true then (some ((gI σ26 148 ((((3 : Int32) * x1) + x4) - (3 : Int32)).toNatClampNeg), σ26)) else none)) else (if inB (((3 : Int32) * x1) + x4) 90 = true then (some ((gI σ26 149 (((3 : Int32) * x1) + x4).toNatClampNeg), σ26)) else none)))))))))))
set_option maxRecDepth 100000 in
theorem t_X12_built_0 {X : Sx} {l : Launch} {D : Nat} {x1 : Int32} {x2 : Int32} {x3 : Int32} {x4 : Int32} {σ : AH} {v : Int32} {σ' : AH} (hD : 11 ≤ D) (hs : Sh σ) (h : F_X12_built x1 x2 x3 x4 σ = some (v, σ')) : W_X12_built_0 X l D x1 x2 x3 x4 σ (some (.int v)) σ' := by
  unfold F_X12_built at h
  unfold W_X12_built_0
  obtain ⟨v6, σ2, q1, h⟩ := of_bd h
  have hC2 := f_X12_isPlot (σ := (sI σ 124 0 (0 : Int32))) hs  q1 (X := X) (l := l)
  have hs3 := hC2.1.2.2.2.1 hs
  refine ⟨1, v6, σ2, (Nat.le_trans (by decide) hD), hC2, ?_⟩
  refine ite_i (fun c4 => ?_) (fun c4 => ?_)
  · replace h := of_ifp h c4
    exact ret_i h
  · replace h := of_ifn h c4
    obtain ⟨v12, σ8, q5, h⟩ := of_bd h
    have hC6 := f_X12_isWeek (σ := σ2) hs3  q5 (X := X) (l := l)
    have hs7 := hC6.1.2.2.2.1 hs3
    refine ⟨1, v12, σ8, (Nat.le_trans (by decide) hD), hC6, ?_⟩
    refine ite_i (fun c8 => ?_) (fun c8 => ?_)
    · replace h := of_ifp h c8
      exact ret_i h
    · replace h := of_ifn h c8
      obtain ⟨v18, σ14, q9, h⟩ := of_bd h
      have hC10 := f_X12_in (σ := σ8) hs7  q9 (X := X) (l := l)
      have hs11 := hC10.1.2.2.2.1 hs7
      refine ⟨0, v18, σ14, (Nat.le_trans (by decide) hD), hC10, ?_⟩
      refine ite_i (fun c12 => ?_) (fun c12 => ?_)
      · replace h := of_ifp h c12
        exact ret_i h
      · replace h := of_ifn h c12
        obtain ⟨v24, σ20, q13, h⟩ := of_bd h
        have hC14 := f_X12_in (σ := σ14) hs11  q13 (X := X) (l := l)
        have hs15 := hC14.1.2.2.2.1 hs11
        refine ⟨0, v24, σ20, (Nat.le_trans (by decide) hD), hC14, ?_⟩
        refine ite_i (fun c16 => ?_) (fun c16 => ?_)
        · replace h := of_ifp h c16
          exact ret_i h
        · replace h := of_ifn h c16
          obtain ⟨σ26, q17, h⟩ := of_bv h
          have hC18 := f_X12_runAll (σ := σ20) hs15  q17 (X := X) (l := l)
          have hs19 := hC18.1.2.2.2.1 hs15
          refine ⟨10, σ26, (Nat.le_trans (by decide) hD), hC18, ?_⟩
          refine ite_i (fun c20 => ?_) (fun c20 => ?_)
          · replace h := of_ifp h c20
            refine ite_i (fun c21 => ?_) (fun c21 => ?_)
            · replace h := of_ifp h c21
              obtain ⟨g22, h⟩ := of_gd h
              refine ⟨(inB_mp g22), ?_⟩
              refine ite_i (fun c23 => ?_) (fun c23 => ?_)
              · replace h := of_ifp h c23
                exact ret_i h
              · replace h := of_ifn h c23
                exact ret_i h
            · replace h := of_ifn h c21
              obtain ⟨g24, h⟩ := of_gd h
              refine ⟨(inB_mp g24), ?_⟩
              exact ret_i h
          · replace h := of_ifn h c20
            obtain ⟨g25, h⟩ := of_gd h
            refine ⟨(inB_mp g25), ?_⟩
            exact ret_i h
theorem f_X12_built {X : Sx} {l : Launch} {x1 : Int32} {x2 : Int32} {x3 : Int32} {x4 : Int32} {σ : AH} {v : Int32} {σ' : AH} (hs : Sh σ) (h : F_X12_built x1 x2 x3 x4 σ = some (v, σ')) : Call X l m_X12_built 11 [.ref 124, .int x1, .int x2, .int x3, .int x4] σ (some (.int v)) σ' :=
  Call.ofE ok_X12_built rfl (Nat.le_of_ble_eq_true rfl) (w_X12_built_0 hs  (t_X12_built_0 (Nat.le_refl _) hs  h))
def F_X12_lacks_132 (σ : AH) : Option (Int32 × AH) := (some ((5 : Int32), σ))
def F_X12_lacks_114 (x1 : Int32) (σ : AH) : Option (Int32 × AH) := (if inB x1 30 = true then (if (gI σ 145 x1.toNatClampNeg) = 0 then (if inB x1 30 = true then (if (gI σ 147 x1.toNatClampNeg) = 0 then (some ((4 : Int32), σ)) else (F_X12_lacks_132 σ)) else none) else (F_X12_lacks_132 σ)) else none)
def F_X12_lacks_110 (σ : AH) : Option (Int32 × AH) := (some ((3 : Int32), σ))
def F_X12_lacks (x1 : Int32) (x2 : Int32) (x3 : Int32) (σ : AH) : Option (Int32 × AH) := (bd (F_X12_isPlot x1 (sI σ 124 0 (0 : Int32))) fun v6 σ2 => (if v6 = 0 then (some ((-1 : Int32), σ2)) else (bd (F_X12_isWeek x2 σ2) fun v12 σ8 => (if v12 = 0 then (some ((-1 : Int32), σ8)) else (bd (F_X12_isWeek x3 σ8) fun v18 σ14 => (if v18 = 0 then (some ((-1 : Int32), σ14)) else (bv (F_X12_knowBy x3 σ14) fun σ20 => (bv (F_X12_beginRun (0 : Int32) σ20) fun σ25 => (bv (F_X12_goTo (0 : Int32) x2 σ25) fun σ30 => (if inB x1 30 = true then (if (gI σ30 144 x1.toNatClampNeg) = (3 : Int32) then (some ((0 : Int32), σ30)) else (if inB x1 30 = true then (if (gI σ30 140 x1.toNatClampNeg) = (-1 : Int32) then (some ((1 : Int32), σ30)) else (if inB x1 30 = true then (if (gI σ30 140 x1.toNatClampNeg) ≤ x2 then (if inB x1 30 = true then (if (gI σ30 141 x1.toNatClampNeg) = 0 then (some ((2 : Int32), σ30)) else (if inB (((23532 : Int32) + ((4 : Int32) * x1)) + (3 : Int32)) 269832 = true then (if (gI σ30 125 (((23532 : Int32) + ((4 : Int32) * x1)) + (3 : Int32)).toNatClampNeg) ≤ x2 then (F_X12_lacks_114 x1 σ30) else (F_X12_lacks_110 σ30)) else none)) else none) else (some ((1 : Int32), σ30))) else none)) else none)) else none))))))))))
set_option maxRecDepth 100000 in
theorem t_X12_lacks_132 {X : Sx} {l : Launch} {D : Nat} {σ : AH} {v : Int32} {σ' : AH} (hD : 10 ≤ D) (hs : Sh σ) (h : F_X12_lacks_132 σ = some (v, σ')) : W_X12_lacks_132 X l D σ (some (.int v)) σ' := by
  unfold F_X12_lacks_132 at h
  unfold W_X12_lacks_132
  exact ret_i h
set_option maxRecDepth 100000 in
theorem t_X12_lacks_114 {X : Sx} {l : Launch} {D : Nat} {x1 : Int32} {σ : AH} {v : Int32} {σ' : AH} (hD : 10 ≤ D) (hs : Sh σ) (h : F_X12_lacks_114 x1 σ = some (v, σ')) : W_X12_lacks_114 X l D x1 σ (some (.int v)) σ' := by
  unfold F_X12_lacks_114 at h
  unfold W_X12_lacks_114
  obtain ⟨g1, h⟩ := of_gd h
  refine ⟨(inB_mp g1), ?_⟩
  refine ite_i (fun c2 => ?_) (fun c2 => ?_)
  · replace h := of_ifp h c2
    obtain ⟨g3, h⟩ := of_gd h
    refine ⟨(inB_mp g3), ?_⟩
    refine ite_i (fun c4 => ?_) (fun c4 => ?_)
    · replace h := of_ifp h c4
      exact ret_i h
    · replace h := of_ifn h c4
      exact t_X12_lacks_132 hD  hs  h
  · replace h := of_ifn h c2
    exact t_X12_lacks_132 hD  hs  h
set_option maxRecDepth 100000 in
theorem t_X12_lacks_110 {X : Sx} {l : Launch} {D : Nat} {σ : AH} {v : Int32} {σ' : AH} (hD : 10 ≤ D) (hs : Sh σ) (h : F_X12_lacks_110 σ = some (v, σ')) : W_X12_lacks_110 X l D σ (some (.int v)) σ' := by
  unfold F_X12_lacks_110 at h
  unfold W_X12_lacks_110
  exact ret_i h
set_option maxRecDepth 100000 in
theorem t_X12_lacks_0 {X : Sx} {l : Launch} {D : Nat} {x1 : Int32} {x2 : Int32} {x3 : Int32} {σ : AH} {v : Int32} {σ' : AH} (hD : 10 ≤ D) (hs : Sh σ) (h : F_X12_lacks x1 x2 x3 σ = some (v, σ')) : W_X12_lacks_0 X l D x1 x2 x3 σ (some (.int v)) σ' := by
  unfold F_X12_lacks at h
  unfold W_X12_lacks_0
  obtain ⟨v6, σ2, q1, h⟩ := of_bd h
  have hC2 := f_X12_isPlot (σ := (sI σ 124 0 (0 : Int32))) hs  q1 (X := X) (l := l)
  have hs3 := hC2.1.2.2.2.1 hs
  refine ⟨1, v6, σ2, (Nat.le_trans (by decide) hD), hC2, ?_⟩
  refine ite_i (fun c4 => ?_) (fun c4 => ?_)
  · replace h := of_ifp h c4
    exact ret_i h
  · replace h := of_ifn h c4
    obtain ⟨v12, σ8, q5, h⟩ := of_bd h
    have hC6 := f_X12_isWeek (σ := σ2) hs3  q5 (X := X) (l := l)
    have hs7 := hC6.1.2.2.2.1 hs3
    refine ⟨1, v12, σ8, (Nat.le_trans (by decide) hD), hC6, ?_⟩
    refine ite_i (fun c8 => ?_) (fun c8 => ?_)
    · replace h := of_ifp h c8
      exact ret_i h
    · replace h := of_ifn h c8
      obtain ⟨v18, σ14, q9, h⟩ := of_bd h
      have hC10 := f_X12_isWeek (σ := σ8) hs7  q9 (X := X) (l := l)
      have hs11 := hC10.1.2.2.2.1 hs7
      refine ⟨1, v18, σ14, (Nat.le_trans (by decide) hD), hC10, ?_⟩
      refine ite_i (fun c12 => ?_) (fun c12 => ?_)
      · replace h := of_ifp h c12
        exact ret_i h
      · replace h := of_ifn h c12
        obtain ⟨σ20, q13, h⟩ := of_bv h
        have hC14 := f_X12_knowBy (σ := σ14) hs11  q13 (X := X) (l := l)
        have hs15 := hC14.1.2.2.2.1 hs11
        refine ⟨0, σ20, (Nat.le_trans (by decide) hD), hC14, ?_⟩
        obtain ⟨σ25, q16, h⟩ := of_bv h
        have hC17 := f_X12_beginRun (σ := σ20) hs15  q16 (X := X) (l := l)
        have hs18 := hC17.1.2.2.2.1 hs15
        refine ⟨6, σ25, (Nat.le_trans (by decide) hD), hC17, ?_⟩
        obtain ⟨σ30, q19, h⟩ := of_bv h
        have hC20 := f_X12_goTo (σ := σ25) hs18  q19 (X := X) (l := l)
        have hs21 := hC20.1.2.2.2.1 hs18
        refine ⟨9, σ30, (Nat.le_trans (by decide) hD), hC20, ?_⟩
        obtain ⟨g22, h⟩ := of_gd h
        refine ⟨(inB_mp g22), ?_⟩
        refine ite_i (fun c23 => ?_) (fun c23 => ?_)
        · replace h := of_ifp h c23
          exact ret_i h
        · replace h := of_ifn h c23
          obtain ⟨g24, h⟩ := of_gd h
          refine ⟨(inB_mp g24), ?_⟩
          refine ite_i (fun c25 => ?_) (fun c25 => ?_)
          · replace h := of_ifp h c25
            exact ret_i h
          · replace h := of_ifn h c25
            obtain ⟨g26, h⟩ := of_gd h
            refine ⟨(inB_mp g26), ?_⟩
            refine ite_i (fun c27 => ?_) (fun c27 => ?_)
            · replace h := of_ifp h c27
              obtain ⟨g28, h⟩ := of_gd h
              refine ⟨(inB_mp g28), ?_⟩
              refine ite_i (fun c29 => ?_) (fun c29 => ?_)
              · replace h := of_ifp h c29
                exact ret_i h
              · replace h := of_ifn h c29
                obtain ⟨g30, h⟩ := of_gd h
                refine ⟨(inB_mp g30), ?_⟩
                refine ite_i (fun c31 => ?_) (fun c31 => ?_)
                · replace h := of_ifp h c31
                  exact t_X12_lacks_114 hD  hs21  h
                · replace h := of_ifn h c31
                  exact t_X12_lacks_110 hD  hs21  h
            · replace h := of_ifn h c27
              exact ret_i h
theorem f_X12_lacks {X : Sx} {l : Launch} {x1 : Int32} {x2 : Int32} {x3 : Int32} {σ : AH} {v : Int32} {σ' : AH} (hs : Sh σ) (h : F_X12_lacks x1 x2 x3 σ = some (v, σ')) : Call X l m_X12_lacks 10 [.ref 124, .int x1, .int x2, .int x3] σ (some (.int v)) σ' :=
  Call.ofE ok_X12_lacks rfl (Nat.le_of_ble_eq_true rfl) (w_X12_lacks_0 hs  (t_X12_lacks_0 (Nat.le_refl _) hs  h))
def F_X12_knock_151 (k_X12_knock_86 : Int32 → Int32 → AH → Option (Int32 × AH)) (x3 : Int32) (x4 : Int32) (σ : AH) : Option (Int32 × AH) := (k_X12_knock_86 x3 (x4 + 1) σ)
def F_X12_knock_141 (k_X12_knock_86 : Int32 → Int32 → AH → Option (Int32 × AH)) (x4 : Int32) (y0 : Int32) (y1 : Int32) (σ : AH) : Option (Int32 × AH) := (if inB x4 30 = true then (F_X12_knock_151 k_X12_knock_86 (y1 + (y0 - (gI σ 151 x4.toNatClampNeg))) x4 σ) else none)
def B_X12_knock_86 (k_X12_knock_86 : Int32 → Int32 → AH → Option (Int32 × AH)) (x3 : Int32) (x4 : Int32) (σ : AH) : Option (Int32 × AH) := (if (gI σ 125 4) ≤ x4 then (some (x3, σ)) else (if inB x4 30 = true then (if (gI σ 151 x4.toNatClampNeg) = (-1 : Int32) then (F_X12_knock_151 k_X12_knock_86 x3 x4 σ) else (if inB (((3 : Int32) * x4) + (2 : Int32)) 90 = true then (if (gI σ 149 (((3 : Int32) * x4) + (2 : Int32)).toNatClampNeg) = (-1 : Int32) then (F_X12_knock_141 k_X12_knock_86 x4 (260 : Int32) x3 σ) else (if inB (((3 : Int32) * x4) + (2 : Int32)) 90 = true then (F_X12_knock_141 k_X12_knock_86 x4 (gI σ 149 (((3 : Int32) * x4) + (2 : Int32)).toNatClampNeg) x3 σ) else none)) else none)) else none))
def F_X12_knock_86 : Nat → Int32 → Int32 → AH → Option (Int32 × AH) := fun k => match k with | 0 => fun _ _ _ => none | k + 1 => B_X12_knock_86 (F_X12_knock_86 k)
def B_X12_knock_36 (k_X12_knock_36 : Int32 → Int32 → AH → Option (Int32 × AH)) (x2 : Int32) (x3 : Int32) (σ : AH) : Option (Int32 × AH) := (if (gI σ 125 4) ≤ x3 then (bv (F_X12_beginRun x2 σ) fun σ19 => (bv (F_X12_goTo (0 : Int32) (259 : Int32) σ19) fun σ24 => (F_X12_knock_86 BIG (0 : Int32) (0 : Int32) σ24))) else (if inB (((3 : Int32) * x3) + (2 : Int32)) 90 = true then (if inB x3 30 = true then (k_X12_knock_36 x2 (x3 + 1) (sI σ 151 x3.toNatClampNeg (gI σ 149 (((3 : Int32) * x3) + (2 : Int32)).toNatClampNeg))) else none) else none))
def F_X12_knock_36 : Nat → Int32 → Int32 → AH → Option (Int32 × AH) := fun k => match k with | 0 => fun _ _ _ => none | k + 1 => B_X12_knock_36 (F_X12_knock_36 k)
def F_X12_knock (x1 : Int32) (x2 : Int32) (σ : AH) : Option (Int32 × AH) := (bd (F_X12_isWeek x1 (sI σ 124 0 (0 : Int32))) fun v6 σ2 => (if v6 = 0 then (some ((-2000000000 : Int32), σ2)) else (bd (F_X12_in (x2).toInt64 (1 : Int64) (26 : Int64) σ2) fun v12 σ8 => (if v12 = 0 then (some ((-2000000000 : Int32), σ8)) else (bv (F_X12_runAll x1 (0 : Int32) σ8) fun σ14 => (F_X12_knock_36 BIG x2 (0 : Int32) σ14))))))
set_option maxRecDepth 100000 in
theorem t_X12_knock_151 {X : Sx} {l : Launch} {D : Nat} {k_X12_knock_86 : Int32 → Int32 → AH → Option (Int32 × AH)} {x3 : Int32} {x4 : Int32} {σ : AH} {v : Int32} {σ' : AH} (hD : 11 ≤ D) (hk_X12_knock_86 : ∀ (x3 : Int32) (x4 : Int32) (σ : AH) (v : Int32) (σ' : AH), Sh σ → k_X12_knock_86 x3 x4 σ = some (v, σ') → E X l m_X12_knock D 86 [(0, .ref 124), (3, .int x3), (4, .int x4)] [] σ (some (.int v)) σ') (hs : Sh σ) (h : F_X12_knock_151 k_X12_knock_86 x3 x4 σ = some (v, σ')) : W_X12_knock_151 X l D x3 x4 σ (some (.int v)) σ' := by
  unfold F_X12_knock_151 at h
  unfold W_X12_knock_151
  exact hk_X12_knock_86 _ _ _ _ _ hs  h
set_option maxRecDepth 100000 in
theorem t_X12_knock_141 {X : Sx} {l : Launch} {D : Nat} {k_X12_knock_86 : Int32 → Int32 → AH → Option (Int32 × AH)} {x4 : Int32} {y0 : Int32} {y1 : Int32} {σ : AH} {v : Int32} {σ' : AH} (hD : 11 ≤ D) (hk_X12_knock_86 : ∀ (x3 : Int32) (x4 : Int32) (σ : AH) (v : Int32) (σ' : AH), Sh σ → k_X12_knock_86 x3 x4 σ = some (v, σ') → E X l m_X12_knock D 86 [(0, .ref 124), (3, .int x3), (4, .int x4)] [] σ (some (.int v)) σ') (hs : Sh σ) (h : F_X12_knock_141 k_X12_knock_86 x4 y0 y1 σ = some (v, σ')) : W_X12_knock_141 X l D x4 y0 y1 σ (some (.int v)) σ' := by
  unfold F_X12_knock_141 at h
  unfold W_X12_knock_141
  obtain ⟨g1, h⟩ := of_gd h
  refine ⟨(inB_mp g1), ?_⟩
  exact t_X12_knock_151 hD hk_X12_knock_86 hs  h
set_option maxRecDepth 100000 in
theorem t_X12_knock_86 {X : Sx} {l : Launch} {D : Nat} {k_X12_knock_86 : Int32 → Int32 → AH → Option (Int32 × AH)} {x3 : Int32} {x4 : Int32} {σ : AH} {v : Int32} {σ' : AH} (hD : 11 ≤ D) (hk_X12_knock_86 : ∀ (x3 : Int32) (x4 : Int32) (σ : AH) (v : Int32) (σ' : AH), Sh σ → k_X12_knock_86 x3 x4 σ = some (v, σ') → E X l m_X12_knock D 86 [(0, .ref 124), (3, .int x3), (4, .int x4)] [] σ (some (.int v)) σ') (hs : Sh σ) (h : B_X12_knock_86 k_X12_knock_86 x3 x4 σ = some (v, σ')) : W_X12_knock_86 X l D x3 x4 σ (some (.int v)) σ' := by
  unfold B_X12_knock_86 at h
  unfold W_X12_knock_86
  refine ite_i (fun c1 => ?_) (fun c1 => ?_)
  · replace h := of_ifp h c1
    exact ret_i h
  · replace h := of_ifn h c1
    obtain ⟨g2, h⟩ := of_gd h
    refine ⟨(inB_mp g2), ?_⟩
    refine ite_i (fun c3 => ?_) (fun c3 => ?_)
    · replace h := of_ifp h c3
      exact t_X12_knock_151 hD hk_X12_knock_86 hs  h
    · replace h := of_ifn h c3
      obtain ⟨g4, h⟩ := of_gd h
      refine ⟨(inB_mp g4), ?_⟩
      refine ite_i (fun c5 => ?_) (fun c5 => ?_)
      · replace h := of_ifp h c5
        exact t_X12_knock_141 hD hk_X12_knock_86 hs  h
      · replace h := of_ifn h c5
        obtain ⟨g6, h⟩ := of_gd h
        refine ⟨(inB_mp g6), ?_⟩
        exact t_X12_knock_141 hD hk_X12_knock_86 hs  h
theorem e_X12_knock_86 {X : Sx} {l : Launch} {D : Nat} (hD : 11 ≤ D) : ∀ (k : Nat) (x3 : Int32) (x4 : Int32) (σ : AH) (v : Int32) (σ' : AH), Sh σ → F_X12_knock_86 k x3 x4 σ = some (v, σ') → E X l m_X12_knock D 86 [(0, .ref 124), (3, .int x3), (4, .int x4)] [] σ (some (.int v)) σ' := by
  intro k
  induction k with
  | zero => intro x3 x4 σ v σ' hs h; cases h
  | succ k ih =>
    intro x3 x4 σ v σ' hs h
    exact w_X12_knock_86 hs  (t_X12_knock_86 hD ih hs  h)
set_option maxRecDepth 100000 in
theorem t_X12_knock_36 {X : Sx} {l : Launch} {D : Nat} {k_X12_knock_36 : Int32 → Int32 → AH → Option (Int32 × AH)} {x2 : Int32} {x3 : Int32} {σ : AH} {v : Int32} {σ' : AH} (hD : 11 ≤ D) (hk_X12_knock_36 : ∀ (x2 : Int32) (x3 : Int32) (σ : AH) (v : Int32) (σ' : AH), Sh σ → k_X12_knock_36 x2 x3 σ = some (v, σ') → E X l m_X12_knock D 36 [(0, .ref 124), (2, .int x2), (3, .int x3)] [] σ (some (.int v)) σ') (hs : Sh σ) (h : B_X12_knock_36 k_X12_knock_36 x2 x3 σ = some (v, σ')) : W_X12_knock_36 X l D x2 x3 σ (some (.int v)) σ' := by
  unfold B_X12_knock_36 at h
  unfold W_X12_knock_36
  refine ite_i (fun c1 => ?_) (fun c1 => ?_)
  · replace h := of_ifp h c1
    obtain ⟨σ19, q2, h⟩ := of_bv h
    have hC3 := f_X12_beginRun (σ := σ) hs  q2 (X := X) (l := l)
    have hs4 := hC3.1.2.2.2.1 hs
    refine ⟨6, σ19, (Nat.le_trans (by decide) hD), hC3, ?_⟩
    obtain ⟨σ24, q5, h⟩ := of_bv h
    have hC6 := f_X12_goTo (σ := σ19) hs4  q5 (X := X) (l := l)
    have hs7 := hC6.1.2.2.2.1 hs4
    refine ⟨9, σ24, (Nat.le_trans (by decide) hD), hC6, ?_⟩
    exact e_X12_knock_86 hD  _ _ _ _ _ _ hs7  h
  · replace h := of_ifn h c1
    obtain ⟨g8, h⟩ := of_gd h
    refine ⟨(inB_mp g8), ?_⟩
    obtain ⟨g9, h⟩ := of_gd h
    refine ⟨(inB_mp g9), ?_⟩
    exact hk_X12_knock_36 _ _ _ _ _ hs  h
theorem e_X12_knock_36 {X : Sx} {l : Launch} {D : Nat} (hD : 11 ≤ D) : ∀ (k : Nat) (x2 : Int32) (x3 : Int32) (σ : AH) (v : Int32) (σ' : AH), Sh σ → F_X12_knock_36 k x2 x3 σ = some (v, σ') → E X l m_X12_knock D 36 [(0, .ref 124), (2, .int x2), (3, .int x3)] [] σ (some (.int v)) σ' := by
  intro k
  induction k with
  | zero => intro x2 x3 σ v σ' hs h; cases h
  | succ k ih =>
    intro x2 x3 σ v σ' hs h
    exact w_X12_knock_36 hs  (t_X12_knock_36 hD ih hs  h)
set_option maxRecDepth 100000 in
theorem t_X12_knock_0 {X : Sx} {l : Launch} {D : Nat} {x1 : Int32} {x2 : Int32} {σ : AH} {v : Int32} {σ' : AH} (hD : 11 ≤ D) (hs : Sh σ) (h : F_X12_knock x1 x2 σ = some (v, σ')) : W_X12_knock_0 X l D x1 x2 σ (some (.int v)) σ' := by
  unfold F_X12_knock at h
  unfold W_X12_knock_0
  obtain ⟨v6, σ2, q1, h⟩ := of_bd h
  have hC2 := f_X12_isWeek (σ := (sI σ 124 0 (0 : Int32))) hs  q1 (X := X) (l := l)
  have hs3 := hC2.1.2.2.2.1 hs
  refine ⟨1, v6, σ2, (Nat.le_trans (by decide) hD), hC2, ?_⟩
  refine ite_i (fun c4 => ?_) (fun c4 => ?_)
  · replace h := of_ifp h c4
    exact ret_i h
  · replace h := of_ifn h c4
    obtain ⟨v12, σ8, q5, h⟩ := of_bd h
    have hC6 := f_X12_in (σ := σ2) hs3  q5 (X := X) (l := l)
    have hs7 := hC6.1.2.2.2.1 hs3
    refine ⟨0, v12, σ8, (Nat.le_trans (by decide) hD), hC6, ?_⟩
    refine ite_i (fun c8 => ?_) (fun c8 => ?_)
    · replace h := of_ifp h c8
      exact ret_i h
    · replace h := of_ifn h c8
      obtain ⟨σ14, q9, h⟩ := of_bv h
      have hC10 := f_X12_runAll (σ := σ8) hs7  q9 (X := X) (l := l)
      have hs11 := hC10.1.2.2.2.1 hs7
      refine ⟨10, σ14, (Nat.le_trans (by decide) hD), hC10, ?_⟩
      exact e_X12_knock_36 hD  _ _ _ _ _ _ hs11  h
theorem f_X12_knock {X : Sx} {l : Launch} {x1 : Int32} {x2 : Int32} {σ : AH} {v : Int32} {σ' : AH} (hs : Sh σ) (h : F_X12_knock x1 x2 σ = some (v, σ')) : Call X l m_X12_knock 11 [.ref 124, .int x1, .int x2] σ (some (.int v)) σ' :=
  Call.ofE ok_X12_knock rfl (Nat.le_of_ble_eq_true rfl) (w_X12_knock_0 hs  (t_X12_knock_0 (Nat.le_refl _) hs  h))
def B_X12_wish_63 (k_X12_wish_63 : Int32 → Int32 → AH → Option (Int32 × AH)) (x1 : Int32) (x2 : Int32) (σ : AH) : Option (Int32 × AH) := (if (gI σ 124 48) ≤ x2 then (if (gI σ 124 48) = (6 : Int32) then (bd (F_X12_told (-5 : Int32) σ) fun v32 σ28 => (some (v32, σ28))) else (if inB (gI σ 124 48) 6 = true then (bd (F_X12_told (gI (sI (sI σ 152 ((gI σ 124 48).toNatClampNeg) x1) 124 48 ((gI (sI σ 152 ((gI σ 124 48).toNatClampNeg) x1) 124 48) + (1 : Int32))) 124 48) (sI (sI σ 152 ((gI σ 124 48).toNatClampNeg) x1) 124 48 ((gI (sI σ 152 ((gI σ 124 48).toNatClampNeg) x1) 124 48) + (1 : Int32)))) fun v26 σ22 => (some (v26, σ22))) else none)) else (if inB x2 6 = true then (if (gI σ 152 x2.toNatClampNeg) = x1 then (bd (F_X12_told (-4 : Int32) σ) fun v39 σ35 => (some (v39, σ35))) else (k_X12_wish_63 x1 (x2 + 1) σ)) else none))
def F_X12_wish_63 : Nat → Int32 → Int32 → AH → Option (Int32 × AH) := fun k => match k with | 0 => fun _ _ _ => none | k + 1 => B_X12_wish_63 (F_X12_wish_63 k)
def B_X12_wish_22 (k_X12_wish_22 : Int32 → Int32 → AH → Option (Int32 × AH)) (x1 : Int32) (x2 : Int32) (σ : AH) : Option (Int32 × AH) := (if (gI σ 125 5) ≤ x2 then (F_X12_wish_63 BIG x1 (0 : Int32) σ) else (if inB ((23652 : Int32) + ((3 : Int32) * x2)) 269832 = true then (if (gI σ 125 ((23652 : Int32) + ((3 : Int32) * x2)).toNatClampNeg) = x1 then (bd (F_X12_told (-3 : Int32) σ) fun v19 σ15 => (some (v19, σ15))) else (k_X12_wish_22 x1 (x2 + 1) σ)) else none))
def F_X12_wish_22 : Nat → Int32 → Int32 → AH → Option (Int32 × AH) := fun k => match k with | 0 => fun _ _ _ => none | k + 1 => B_X12_wish_22 (F_X12_wish_22 k)
def F_X12_wish (x1 : Int32) (σ : AH) : Option (Int32 × AH) := (bd (F_X12_isPlot x1 (sI σ 124 0 (0 : Int32))) fun v6 σ2 => (if v6 = 0 then (bd (F_X12_told (-2 : Int32) σ2) fun v12 σ8 => (some (v12, σ8))) else (F_X12_wish_22 BIG x1 (0 : Int32) σ2)))
set_option maxRecDepth 100000 in
theorem t_X12_wish_63 {X : Sx} {l : Launch} {D : Nat} {k_X12_wish_63 : Int32 → Int32 → AH → Option (Int32 × AH)} {x1 : Int32} {x2 : Int32} {σ : AH} {v : Int32} {σ' : AH} (hD : 2 ≤ D) (hk_X12_wish_63 : ∀ (x1 : Int32) (x2 : Int32) (σ : AH) (v : Int32) (σ' : AH), Sh σ → k_X12_wish_63 x1 x2 σ = some (v, σ') → E X l m_X12_wish D 63 [(0, .ref 124), (1, .int x1), (2, .int x2)] [] σ (some (.int v)) σ') (hs : Sh σ) (h : B_X12_wish_63 k_X12_wish_63 x1 x2 σ = some (v, σ')) : W_X12_wish_63 X l D x1 x2 σ (some (.int v)) σ' := by
  unfold B_X12_wish_63 at h
  unfold W_X12_wish_63
  refine ite_i (fun c1 => ?_) (fun c1 => ?_)
  · replace h := of_ifp h c1
    refine ite_i (fun c2 => ?_) (fun c2 => ?_)
    · replace h := of_ifp h c2
      obtain ⟨v32, σ28, q3, h⟩ := of_bd h
      have hC4 := f_X12_told (σ := σ) hs  q3 (X := X) (l := l)
      have hs5 := hC4.1.2.2.2.1 hs
      refine ⟨0, v32, σ28, (Nat.le_trans (by decide) hD), hC4, ?_⟩
      exact ret_i h
    · replace h := of_ifn h c2
      obtain ⟨g6, h⟩ := of_gd h
      refine ⟨(inB_mp g6), ?_⟩
      obtain ⟨v26, σ22, q7, h⟩ := of_bd h
      have hC8 := f_X12_told (σ := (sI (sI σ 152 ((gI σ 124 48).toNatClampNeg) x1) 124 48 ((gI (sI σ 152 ((gI σ 124 48).toNatClampNeg) x1) 124 48) + (1 : Int32)))) hs  q7 (X := X) (l := l)
      have hs9 := hC8.1.2.2.2.1 hs
      refine ⟨0, v26, σ22, (Nat.le_trans (by decide) hD), hC8, ?_⟩
      exact ret_i h
  · replace h := of_ifn h c1
    obtain ⟨g10, h⟩ := of_gd h
    refine ⟨(inB_mp g10), ?_⟩
    refine ite_i (fun c11 => ?_) (fun c11 => ?_)
    · replace h := of_ifp h c11
      obtain ⟨v39, σ35, q12, h⟩ := of_bd h
      have hC13 := f_X12_told (σ := σ) hs  q12 (X := X) (l := l)
      have hs14 := hC13.1.2.2.2.1 hs
      refine ⟨0, v39, σ35, (Nat.le_trans (by decide) hD), hC13, ?_⟩
      exact ret_i h
    · replace h := of_ifn h c11
      exact hk_X12_wish_63 _ _ _ _ _ hs  h
theorem e_X12_wish_63 {X : Sx} {l : Launch} {D : Nat} (hD : 2 ≤ D) : ∀ (k : Nat) (x1 : Int32) (x2 : Int32) (σ : AH) (v : Int32) (σ' : AH), Sh σ → F_X12_wish_63 k x1 x2 σ = some (v, σ') → E X l m_X12_wish D 63 [(0, .ref 124), (1, .int x1), (2, .int x2)] [] σ (some (.int v)) σ' := by
  intro k
  induction k with
  | zero => intro x1 x2 σ v σ' hs h; cases h
  | succ k ih =>
    intro x1 x2 σ v σ' hs h
    exact w_X12_wish_63 hs  (t_X12_wish_63 hD ih hs  h)
set_option maxRecDepth 100000 in
theorem t_X12_wish_22 {X : Sx} {l : Launch} {D : Nat} {k_X12_wish_22 : Int32 → Int32 → AH → Option (Int32 × AH)} {x1 : Int32} {x2 : Int32} {σ : AH} {v : Int32} {σ' : AH} (hD : 2 ≤ D) (hk_X12_wish_22 : ∀ (x1 : Int32) (x2 : Int32) (σ : AH) (v : Int32) (σ' : AH), Sh σ → k_X12_wish_22 x1 x2 σ = some (v, σ') → E X l m_X12_wish D 22 [(0, .ref 124), (1, .int x1), (2, .int x2)] [] σ (some (.int v)) σ') (hs : Sh σ) (h : B_X12_wish_22 k_X12_wish_22 x1 x2 σ = some (v, σ')) : W_X12_wish_22 X l D x1 x2 σ (some (.int v)) σ' := by
  unfold B_X12_wish_22 at h
  unfold W_X12_wish_22
  refine ite_i (fun c1 => ?_) (fun c1 => ?_)
  · replace h := of_ifp h c1
    exact e_X12_wish_63 hD  _ _ _ _ _ _ hs  h
  · replace h := of_ifn h c1
    obtain ⟨g2, h⟩ := of_gd h
    refine ⟨(inB_mp g2), ?_⟩
    refine ite_i (fun c3 => ?_) (fun c3 => ?_)
    · replace h := of_ifp h c3
      obtain ⟨v19, σ15, q4, h⟩ := of_bd h
      have hC5 := f_X12_told (σ := σ) hs  q4 (X := X) (l := l)
      have hs6 := hC5.1.2.2.2.1 hs
      refine ⟨0, v19, σ15, (Nat.le_trans (by decide) hD), hC5, ?_⟩
      exact ret_i h
    · replace h := of_ifn h c3
      exact hk_X12_wish_22 _ _ _ _ _ hs  h
theorem e_X12_wish_22 {X : Sx} {l : Launch} {D : Nat} (hD : 2 ≤ D) : ∀ (k : Nat) (x1 : Int32) (x2 : Int32) (σ : AH) (v : Int32) (σ' : AH), Sh σ → F_X12_wish_22 k x1 x2 σ = some (v, σ') → E X l m_X12_wish D 22 [(0, .ref 124), (1, .int x1), (2, .int x2)] [] σ (some (.int v)) σ' := by
  intro k
  induction k with
  | zero => intro x1 x2 σ v σ' hs h; cases h
  | succ k ih =>
    intro x1 x2 σ v σ' hs h
    exact w_X12_wish_22 hs  (t_X12_wish_22 hD ih hs  h)
set_option maxRecDepth 100000 in
theorem t_X12_wish_0 {X : Sx} {l : Launch} {D : Nat} {x1 : Int32} {σ : AH} {v : Int32} {σ' : AH} (hD : 2 ≤ D) (hs : Sh σ) (h : F_X12_wish x1 σ = some (v, σ')) : W_X12_wish_0 X l D x1 σ (some (.int v)) σ' := by
  unfold F_X12_wish at h
  unfold W_X12_wish_0
  obtain ⟨v6, σ2, q1, h⟩ := of_bd h
  have hC2 := f_X12_isPlot (σ := (sI σ 124 0 (0 : Int32))) hs  q1 (X := X) (l := l)
  have hs3 := hC2.1.2.2.2.1 hs
  refine ⟨1, v6, σ2, (Nat.le_trans (by decide) hD), hC2, ?_⟩
  refine ite_i (fun c4 => ?_) (fun c4 => ?_)
  · replace h := of_ifp h c4
    obtain ⟨v12, σ8, q5, h⟩ := of_bd h
    have hC6 := f_X12_told (σ := σ2) hs3  q5 (X := X) (l := l)
    have hs7 := hC6.1.2.2.2.1 hs3
    refine ⟨0, v12, σ8, (Nat.le_trans (by decide) hD), hC6, ?_⟩
    exact ret_i h
  · replace h := of_ifn h c4
    exact e_X12_wish_22 hD  _ _ _ _ _ _ hs3  h
theorem f_X12_wish {X : Sx} {l : Launch} {x1 : Int32} {σ : AH} {v : Int32} {σ' : AH} (hs : Sh σ) (h : F_X12_wish x1 σ = some (v, σ')) : Call X l m_X12_wish 2 [.ref 124, .int x1] σ (some (.int v)) σ' :=
  Call.ofE ok_X12_wish rfl (Nat.le_of_ble_eq_true rfl) (w_X12_wish_0 hs  (t_X12_wish_0 (Nat.le_refl _) hs  h))
def F_X12_clear (σ : AH) : Option (Int32 × AH) := (some ((gI (sI σ 124 0 (0 : Int32)) 124 48), (sI (sI σ 124 0 (0 : Int32)) 124 48 (0 : Int32))))
set_option maxRecDepth 100000 in
theorem t_X12_clear_0 {X : Sx} {l : Launch} {D : Nat} {σ : AH} {v : Int32} {σ' : AH} (hD : 0 ≤ D) (hs : Sh σ) (h : F_X12_clear σ = some (v, σ')) : W_X12_clear_0 X l D σ (some (.int v)) σ' := by
  unfold F_X12_clear at h
  unfold W_X12_clear_0
  exact ret_i h
theorem f_X12_clear {X : Sx} {l : Launch} {σ : AH} {v : Int32} {σ' : AH} (hs : Sh σ) (h : F_X12_clear σ = some (v, σ')) : Call X l m_X12_clear 0 [.ref 124] σ (some (.int v)) σ' :=
  Call.ofE ok_X12_clear rfl (Nat.le_of_ble_eq_true rfl) (w_X12_clear_0 hs  (t_X12_clear_0 (Nat.le_refl _) hs  h))
def B_X12_goAhead_101 (k_X12_goAhead_101 : Int32 → AH → Option AH) (x2 : Int32) (σ : AH) : Option AH := (if (90 : Int32) ≤ x2 then (some σ) else (if inB x2 90 = true then (if inB x2 90 = true then (if inB x2 90 = true then (if inB x2 90 = true then (lt (sI (sI σ 158 x2.toNatClampNeg (gI σ 148 x2.toNatClampNeg)) 159 x2.toNatClampNeg (gI (sI σ 158 x2.toNatClampNeg (gI σ 148 x2.toNatClampNeg)) 149 x2.toNatClampNeg)) fun τ31 => (k_X12_goAhead_101 (x2 + 1) τ31)) else none) else none) else none) else none))
def F_X12_goAhead_101 : Nat → Int32 → AH → Option AH := fun k => match k with | 0 => fun _ _ => none | k + 1 => B_X12_goAhead_101 (F_X12_goAhead_101 k)
def B_X12_goAhead_51 (k_X12_goAhead_51 : Int32 → AH → Option AH) (x2 : Int32) (σ : AH) : Option AH := (if (30 : Int32) ≤ x2 then (F_X12_goAhead_101 BIG (0 : Int32) σ) else (if inB x2 30 = true then (if inB x2 30 = true then (if inB x2 30 = true then (if inB x2 30 = true then (lt (sI (sI σ 155 x2.toNatClampNeg (gI σ 144 x2.toNatClampNeg)) 156 x2.toNatClampNeg (vp_nar .boolean (gI (sI σ 155 x2.toNatClampNeg (gI σ 144 x2.toNatClampNeg)) 145 x2.toNatClampNeg))) fun τ22 => (if inB x2 30 = true then (if inB x2 30 = true then (k_X12_goAhead_51 (x2 + 1) (sI τ22 157 x2.toNatClampNeg (gI τ22 146 x2.toNatClampNeg))) else none) else none)) else none) else none) else none) else none))
def F_X12_goAhead_51 : Nat → Int32 → AH → Option AH := fun k => match k with | 0 => fun _ _ => none | k + 1 => B_X12_goAhead_51 (F_X12_goAhead_51 k)
def B_X12_goAhead_26 (k_X12_goAhead_26 : Int32 → AH → Option AH) (x2 : Int32) (σ : AH) : Option AH := (if (5 : Int32) ≤ x2 then (F_X12_goAhead_51 BIG (0 : Int32) σ) else (if inB x2 5 = true then (if inB x2 5 = true then (k_X12_goAhead_26 (x2 + 1) (sI σ 154 x2.toNatClampNeg (gI σ 142 x2.toNatClampNeg))) else none) else none))
def F_X12_goAhead_26 : Nat → Int32 → AH → Option AH := fun k => match k with | 0 => fun _ _ => none | k + 1 => B_X12_goAhead_26 (F_X12_goAhead_26 k)
def F_X12_goAhead (x1 : Int32) (σ : AH) : Option AH := (bv (F_X12_knowBy ((13 : Int32) * x1) σ) fun σ2 => (bv (F_X12_beginRun (0 : Int32) σ2) fun σ7 => (bv (F_X12_goTo (0 : Int32) (((13 : Int32) * x1) - (1 : Int32)) σ7) fun σ12 => (F_X12_goAhead_26 BIG (0 : Int32) σ12))))
set_option maxRecDepth 100000 in
theorem t_X12_goAhead_101 {X : Sx} {l : Launch} {D : Nat} {k_X12_goAhead_101 : Int32 → AH → Option AH} {x2 : Int32} {σ : AH} {σ' : AH} (hD : 10 ≤ D) (hk_X12_goAhead_101 : ∀ (x2 : Int32) (σ : AH) (σ' : AH), Sh σ → k_X12_goAhead_101 x2 σ = some σ' → E X l m_X12_goAhead D 101 [(0, .ref 124), (2, .int x2)] [] σ none σ') (hs : Sh σ) (h : B_X12_goAhead_101 k_X12_goAhead_101 x2 σ = some σ') : W_X12_goAhead_101 X l D x2 σ none σ' := by
  unfold B_X12_goAhead_101 at h
  unfold W_X12_goAhead_101
  refine ite_i (fun c1 => ?_) (fun c1 => ?_)
  · replace h := of_ifp h c1
    exact ret_v h
  · replace h := of_ifn h c1
    obtain ⟨g2, h⟩ := of_gd h
    refine ⟨(inB_mp g2), ?_⟩
    obtain ⟨g3, h⟩ := of_gd h
    refine ⟨(inB_mp g3), ?_⟩
    obtain ⟨g4, h⟩ := of_gd h
    refine ⟨(inB_mp g4), ?_⟩
    obtain ⟨g5, h⟩ := of_gd h
    refine ⟨(inB_mp g5), ?_⟩
    intro τ31 e6
    replace h := of_lt h e6
    have hs7 : Sh τ31 := by rw [e6]; exact hs
    exact hk_X12_goAhead_101 _ _ _ hs7  h
theorem e_X12_goAhead_101 {X : Sx} {l : Launch} {D : Nat} (hD : 10 ≤ D) : ∀ (k : Nat) (x2 : Int32) (σ : AH) (σ' : AH), Sh σ → F_X12_goAhead_101 k x2 σ = some σ' → E X l m_X12_goAhead D 101 [(0, .ref 124), (2, .int x2)] [] σ none σ' := by
  intro k
  induction k with
  | zero => intro x2 σ σ' hs h; cases h
  | succ k ih =>
    intro x2 σ σ' hs h
    exact w_X12_goAhead_101 hs  (t_X12_goAhead_101 hD ih hs  h)
set_option maxRecDepth 100000 in
theorem t_X12_goAhead_51 {X : Sx} {l : Launch} {D : Nat} {k_X12_goAhead_51 : Int32 → AH → Option AH} {x2 : Int32} {σ : AH} {σ' : AH} (hD : 10 ≤ D) (hk_X12_goAhead_51 : ∀ (x2 : Int32) (σ : AH) (σ' : AH), Sh σ → k_X12_goAhead_51 x2 σ = some σ' → E X l m_X12_goAhead D 51 [(0, .ref 124), (2, .int x2)] [] σ none σ') (hs : Sh σ) (h : B_X12_goAhead_51 k_X12_goAhead_51 x2 σ = some σ') : W_X12_goAhead_51 X l D x2 σ none σ' := by
  unfold B_X12_goAhead_51 at h
  unfold W_X12_goAhead_51
  refine ite_i (fun c1 => ?_) (fun c1 => ?_)
  · replace h := of_ifp h c1
    exact e_X12_goAhead_101 hD  _ _ _ _ hs  h
  · replace h := of_ifn h c1
    obtain ⟨g2, h⟩ := of_gd h
    refine ⟨(inB_mp g2), ?_⟩
    obtain ⟨g3, h⟩ := of_gd h
    refine ⟨(inB_mp g3), ?_⟩
    obtain ⟨g4, h⟩ := of_gd h
    refine ⟨(inB_mp g4), ?_⟩
    obtain ⟨g5, h⟩ := of_gd h
    refine ⟨(inB_mp g5), ?_⟩
    intro τ22 e6
    replace h := of_lt h e6
    have hs7 : Sh τ22 := by rw [e6]; exact hs
    obtain ⟨g8, h⟩ := of_gd h
    refine ⟨(inB_mp g8), ?_⟩
    obtain ⟨g9, h⟩ := of_gd h
    refine ⟨(inB_mp g9), ?_⟩
    exact hk_X12_goAhead_51 _ _ _ hs7  h
theorem e_X12_goAhead_51 {X : Sx} {l : Launch} {D : Nat} (hD : 10 ≤ D) : ∀ (k : Nat) (x2 : Int32) (σ : AH) (σ' : AH), Sh σ → F_X12_goAhead_51 k x2 σ = some σ' → E X l m_X12_goAhead D 51 [(0, .ref 124), (2, .int x2)] [] σ none σ' := by
  intro k
  induction k with
  | zero => intro x2 σ σ' hs h; cases h
  | succ k ih =>
    intro x2 σ σ' hs h
    exact w_X12_goAhead_51 hs  (t_X12_goAhead_51 hD ih hs  h)
set_option maxRecDepth 100000 in
theorem t_X12_goAhead_26 {X : Sx} {l : Launch} {D : Nat} {k_X12_goAhead_26 : Int32 → AH → Option AH} {x2 : Int32} {σ : AH} {σ' : AH} (hD : 10 ≤ D) (hk_X12_goAhead_26 : ∀ (x2 : Int32) (σ : AH) (σ' : AH), Sh σ → k_X12_goAhead_26 x2 σ = some σ' → E X l m_X12_goAhead D 26 [(0, .ref 124), (2, .int x2)] [] σ none σ') (hs : Sh σ) (h : B_X12_goAhead_26 k_X12_goAhead_26 x2 σ = some σ') : W_X12_goAhead_26 X l D x2 σ none σ' := by
  unfold B_X12_goAhead_26 at h
  unfold W_X12_goAhead_26
  refine ite_i (fun c1 => ?_) (fun c1 => ?_)
  · replace h := of_ifp h c1
    exact e_X12_goAhead_51 hD  _ _ _ _ hs  h
  · replace h := of_ifn h c1
    obtain ⟨g2, h⟩ := of_gd h
    refine ⟨(inB_mp g2), ?_⟩
    obtain ⟨g3, h⟩ := of_gd h
    refine ⟨(inB_mp g3), ?_⟩
    exact hk_X12_goAhead_26 _ _ _ hs  h
theorem e_X12_goAhead_26 {X : Sx} {l : Launch} {D : Nat} (hD : 10 ≤ D) : ∀ (k : Nat) (x2 : Int32) (σ : AH) (σ' : AH), Sh σ → F_X12_goAhead_26 k x2 σ = some σ' → E X l m_X12_goAhead D 26 [(0, .ref 124), (2, .int x2)] [] σ none σ' := by
  intro k
  induction k with
  | zero => intro x2 σ σ' hs h; cases h
  | succ k ih =>
    intro x2 σ σ' hs h
    exact w_X12_goAhead_26 hs  (t_X12_goAhead_26 hD ih hs  h)
set_option maxRecDepth 100000 in
theorem t_X12_goAhead_0 {X : Sx} {l : Launch} {D : Nat} {x1 : Int32} {σ : AH} {σ' : AH} (hD : 10 ≤ D) (hs : Sh σ) (h : F_X12_goAhead x1 σ = some σ') : W_X12_goAhead_0 X l D x1 σ none σ' := by
  unfold F_X12_goAhead at h
  unfold W_X12_goAhead_0
  obtain ⟨σ2, q1, h⟩ := of_bv h
  have hC2 := f_X12_knowBy (σ := σ) hs  q1 (X := X) (l := l)
  have hs3 := hC2.1.2.2.2.1 hs
  refine ⟨0, σ2, (Nat.le_trans (by decide) hD), hC2, ?_⟩
  obtain ⟨σ7, q4, h⟩ := of_bv h
  have hC5 := f_X12_beginRun (σ := σ2) hs3  q4 (X := X) (l := l)
  have hs6 := hC5.1.2.2.2.1 hs3
  refine ⟨6, σ7, (Nat.le_trans (by decide) hD), hC5, ?_⟩
  obtain ⟨σ12, q7, h⟩ := of_bv h
  have hC8 := f_X12_goTo (σ := σ7) hs6  q7 (X := X) (l := l)
  have hs9 := hC8.1.2.2.2.1 hs6
  refine ⟨9, σ12, (Nat.le_trans (by decide) hD), hC8, ?_⟩
  exact e_X12_goAhead_26 hD  _ _ _ _ hs9  h
theorem f_X12_goAhead {X : Sx} {l : Launch} {x1 : Int32} {σ : AH} {σ' : AH} (hs : Sh σ) (h : F_X12_goAhead x1 σ = some σ') : Call X l m_X12_goAhead 10 [.ref 124, .int x1] σ none σ' :=
  Call.ofE ok_X12_goAhead rfl (Nat.le_of_ble_eq_true rfl) (w_X12_goAhead_0 hs  (t_X12_goAhead_0 (Nat.le_refl _) hs  h))
def F_X12_tryRow_295 (k_X12_tryRow_207 : Int32 → AH → Option AH) (x3 : Int32) (y0 : Int32) (y1 : Int32) (σ : AH) : Option AH := (k_X12_tryRow_207 (x3 + 1) (sI σ 124 61 (y1 + y0)))
def F_X12_tryRow_294 (k_X12_tryRow_207 : Int32 → AH → Option AH) (x3 : Int32) (y0 : Int32) (σ : AH) : Option AH := (F_X12_tryRow_295 k_X12_tryRow_207 x3 (0 : Int32) y0 σ)
def F_X12_tryRow_249 (k_X12_tryRow_207 : Int32 → AH → Option AH) (x3 : Int32) (y0 : Int32) (y1 : Int32) (σ : AH) : Option AH := (if inB x3 6 = true then (if inB (gI (sI σ 124 60 (y1 + y0)) 152 x3.toNatClampNeg) 30 = true then (if (3 : Int32) ≤ (gI (sI σ 124 60 (y1 + y0)) 144 (gI (sI σ 124 60 (y1 + y0)) 152 x3.toNatClampNeg).toNatClampNeg) then (F_X12_tryRow_294 k_X12_tryRow_207 x3 (gI (sI σ 124 60 (y1 + y0)) 124 61) (sI σ 124 60 (y1 + y0))) else (if inB x3 6 = true then (if inB ((3 : Int32) * (gI (sI σ 124 60 (y1 + y0)) 152 x3.toNatClampNeg)) 90 = true then (if (gI (sI σ 124 60 (y1 + y0)) 148 ((3 : Int32) * (gI (sI σ 124 60 (y1 + y0)) 152 x3.toNatClampNeg)).toNatClampNeg) = (-1 : Int32) then (F_X12_tryRow_294 k_X12_tryRow_207 x3 (gI (sI σ 124 60 (y1 + y0)) 124 61) (sI σ 124 60 (y1 + y0))) else (F_X12_tryRow_295 k_X12_tryRow_207 x3 (1 : Int32) (gI (sI σ 124 60 (y1 + y0)) 124 61) (sI σ 124 60 (y1 + y0)))) else none) else none)) else none) else none)
def B_X12_tryRow_207 (k_X12_tryRow_207 : Int32 → AH → Option AH) (x3 : Int32) (σ : AH) : Option AH := (if (gI σ 124 48) ≤ x3 then (some σ) else (if inB x3 6 = true then (if inB (gI σ 152 x3.toNatClampNeg) 30 = true then (if (gI σ 144 (gI σ 152 x3.toNatClampNeg).toNatClampNeg) = (3 : Int32) then (if inB x3 6 = true then (bd (F_X12_roomsOf (gI σ 152 x3.toNatClampNeg) σ) fun v38 σ34 => (F_X12_tryRow_249 k_X12_tryRow_207 x3 v38 (gI σ 124 60) σ34)) else none) else (F_X12_tryRow_249 k_X12_tryRow_207 x3 (0 : Int32) (gI σ 124 60) σ)) else none) else none))
def F_X12_tryRow_207 : Nat → Int32 → AH → Option AH := fun k => match k with | 0 => fun _ _ => none | k + 1 => B_X12_tryRow_207 (F_X12_tryRow_207 k)
def F_X12_tryRow_169 (k_X12_tryRow_115 : Int32 → Int32 → Int32 → AH → Option AH) (x1 : Int32) (x2 : Int32) (x3 : Int32) (y0 : Int32) (y1 : Int32) (σ : AH) : Option AH := (if inB y1 30 = true then (k_X12_tryRow_115 x1 x2 (x3 + 1) (sI σ 140 y1.toNatClampNeg y0)) else none)
def B_X12_tryRow_115 (k_X12_tryRow_115 : Int32 → Int32 → Int32 → AH → Option AH) (x1 : Int32) (x2 : Int32) (x3 : Int32) (σ : AH) : Option AH := (if (gI σ 124 48) ≤ x3 then (bv (F_X12_license σ) fun σ20 => (bv (F_X12_goTo ((13 : Int32) * x1) (((13 : Int32) * x1) + (12 : Int32)) σ20) fun σ25 => (F_X12_tryRow_207 BIG (0 : Int32) (sI (sI σ25 124 60 (0 : Int32)) 124 61 (0 : Int32))))) else (if inB x3 6 = true then (if ((x2 >>> (((2 : Int32) * (((gI σ 124 48) - (1 : Int32)) - x3)) &&& 31)) &&& (3 : Int32)) = 0 then (F_X12_tryRow_169 k_X12_tryRow_115 x1 x2 x3 (-1 : Int32) (gI σ 152 x3.toNatClampNeg) σ) else (F_X12_tryRow_169 k_X12_tryRow_115 x1 x2 x3 (((13 : Int32) * x1) + ((4 : Int32) * (((x2 >>> (((2 : Int32) * (((gI σ 124 48) - (1 : Int32)) - x3)) &&& 31)) &&& (3 : Int32)) - (1 : Int32)))) (gI σ 152 x3.toNatClampNeg) σ)) else none))
def F_X12_tryRow_115 : Nat → Int32 → Int32 → Int32 → AH → Option AH := fun k => match k with | 0 => fun _ _ _ _ => none | k + 1 => B_X12_tryRow_115 (F_X12_tryRow_115 k)
def B_X12_tryRow_77 (k_X12_tryRow_77 : Int32 → Int32 → Int32 → AH → Option AH) (x1 : Int32) (x2 : Int32) (x3 : Int32) (σ : AH) : Option AH := (if (90 : Int32) ≤ x3 then (F_X12_tryRow_115 BIG x1 x2 (0 : Int32) σ) else (if inB x3 90 = true then (if inB x3 90 = true then (if inB x3 90 = true then (if inB x3 90 = true then (lt (sI (sI σ 148 x3.toNatClampNeg (gI σ 158 x3.toNatClampNeg)) 149 x3.toNatClampNeg (gI (sI σ 148 x3.toNatClampNeg (gI σ 158 x3.toNatClampNeg)) 159 x3.toNatClampNeg)) fun τ16 => (k_X12_tryRow_77 x1 x2 (x3 + 1) τ16)) else none) else none) else none) else none))
def F_X12_tryRow_77 : Nat → Int32 → Int32 → Int32 → AH → Option AH := fun k => match k with | 0 => fun _ _ _ _ => none | k + 1 => B_X12_tryRow_77 (F_X12_tryRow_77 k)
def B_X12_tryRow_27 (k_X12_tryRow_27 : Int32 → Int32 → Int32 → AH → Option AH) (x1 : Int32) (x2 : Int32) (x3 : Int32) (σ : AH) : Option AH := (if (30 : Int32) ≤ x3 then (F_X12_tryRow_77 BIG x1 x2 (0 : Int32) σ) else (if inB x3 30 = true then (if inB x3 30 = true then (if inB x3 30 = true then (if inB x3 30 = true then (lt (sI (sI σ 144 x3.toNatClampNeg (gI σ 155 x3.toNatClampNeg)) 145 x3.toNatClampNeg (vp_nar .boolean (gI (sI σ 144 x3.toNatClampNeg (gI σ 155 x3.toNatClampNeg)) 156 x3.toNatClampNeg))) fun τ7 => (if inB x3 30 = true then (if inB x3 30 = true then (k_X12_tryRow_27 x1 x2 (x3 + 1) (sI τ7 146 x3.toNatClampNeg (gI τ7 157 x3.toNatClampNeg))) else none) else none)) else none) else none) else none) else none))
def F_X12_tryRow_27 : Nat → Int32 → Int32 → Int32 → AH → Option AH := fun k => match k with | 0 => fun _ _ _ _ => none | k + 1 => B_X12_tryRow_27 (F_X12_tryRow_27 k)
def B_X12_tryRow_2 (k_X12_tryRow_2 : Int32 → Int32 → Int32 → AH → Option AH) (x1 : Int32) (x2 : Int32) (x3 : Int32) (σ : AH) : Option AH := (if (5 : Int32) ≤ x3 then (F_X12_tryRow_27 BIG x1 x2 (0 : Int32) σ) else (if inB x3 5 = true then (if inB x3 5 = true then (k_X12_tryRow_2 x1 x2 (x3 + 1) (sI σ 142 x3.toNatClampNeg (gI σ 154 x3.toNatClampNeg))) else none) else none))
def F_X12_tryRow_2 : Nat → Int32 → Int32 → Int32 → AH → Option AH := fun k => match k with | 0 => fun _ _ _ _ => none | k + 1 => B_X12_tryRow_2 (F_X12_tryRow_2 k)
def F_X12_tryRow (x1 : Int32) (x2 : Int32) (σ : AH) : Option AH := (F_X12_tryRow_2 BIG x1 x2 (0 : Int32) σ)
set_option maxRecDepth 100000 in
theorem t_X12_tryRow_295 {X : Sx} {l : Launch} {D : Nat} {k_X12_tryRow_207 : Int32 → AH → Option AH} {x3 : Int32} {y0 : Int32} {y1 : Int32} {σ : AH} {σ' : AH} (hD : 10 ≤ D) (hk_X12_tryRow_207 : ∀ (x3 : Int32) (σ : AH) (σ' : AH), Sh σ → k_X12_tryRow_207 x3 σ = some σ' → E X l m_X12_tryRow D 207 [(0, .ref 124), (3, .int x3)] [] σ none σ') (hs : Sh σ) (h : F_X12_tryRow_295 k_X12_tryRow_207 x3 y0 y1 σ = some σ') : W_X12_tryRow_295 X l D x3 y0 y1 σ none σ' := by
  unfold F_X12_tryRow_295 at h
  unfold W_X12_tryRow_295
  exact hk_X12_tryRow_207 _ _ _ hs  h
set_option maxRecDepth 100000 in
theorem t_X12_tryRow_294 {X : Sx} {l : Launch} {D : Nat} {k_X12_tryRow_207 : Int32 → AH → Option AH} {x3 : Int32} {y0 : Int32} {σ : AH} {σ' : AH} (hD : 10 ≤ D) (hk_X12_tryRow_207 : ∀ (x3 : Int32) (σ : AH) (σ' : AH), Sh σ → k_X12_tryRow_207 x3 σ = some σ' → E X l m_X12_tryRow D 207 [(0, .ref 124), (3, .int x3)] [] σ none σ') (hs : Sh σ) (h : F_X12_tryRow_294 k_X12_tryRow_207 x3 y0 σ = some σ') : W_X12_tryRow_294 X l D x3 y0 σ none σ' := by
  unfold F_X12_tryRow_294 at h
  unfold W_X12_tryRow_294
  exact t_X12_tryRow_295 hD hk_X12_tryRow_207 hs  h
set_option maxRecDepth 100000 in
theorem t_X12_tryRow_249 {X : Sx} {l : Launch} {D : Nat} {k_X12_tryRow_207 : Int32 → AH → Option AH} {x3 : Int32} {y0 : Int32} {y1 : Int32} {σ : AH} {σ' : AH} (hD : 10 ≤ D) (hk_X12_tryRow_207 : ∀ (x3 : Int32) (σ : AH) (σ' : AH), Sh σ → k_X12_tryRow_207 x3 σ = some σ' → E X l m_X12_tryRow D 207 [(0, .ref 124), (3, .int x3)] [] σ none σ') (hs : Sh σ) (h : F_X12_tryRow_249 k_X12_tryRow_207 x3 y0 y1 σ = some σ') : W_X12_tryRow_249 X l D x3 y0 y1 σ none σ' := by
  unfold F_X12_tryRow_249 at h
  unfold W_X12_tryRow_249
  obtain ⟨g1, h⟩ := of_gd h
  refine ⟨(inB_mp g1), ?_⟩
  obtain ⟨g2, h⟩ := of_gd h
  refine ⟨(inB_mp g2), ?_⟩
  refine ite_i (fun c3 => ?_) (fun c3 => ?_)
  · replace h := of_ifp h c3
    exact t_X12_tryRow_294 hD hk_X12_tryRow_207 hs  h
  · replace h := of_ifn h c3
    obtain ⟨g4, h⟩ := of_gd h
    refine ⟨(inB_mp g4), ?_⟩
    obtain ⟨g5, h⟩ := of_gd h
    refine ⟨(inB_mp g5), ?_⟩
    refine ite_i (fun c6 => ?_) (fun c6 => ?_)
    · replace h := of_ifp h c6
      exact t_X12_tryRow_294 hD hk_X12_tryRow_207 hs  h
    · replace h := of_ifn h c6
      exact t_X12_tryRow_295 hD hk_X12_tryRow_207 hs  h
set_option maxRecDepth 100000 in
theorem t_X12_tryRow_207 {X : Sx} {l : Launch} {D : Nat} {k_X12_tryRow_207 : Int32 → AH → Option AH} {x3 : Int32} {σ : AH} {σ' : AH} (hD : 10 ≤ D) (hk_X12_tryRow_207 : ∀ (x3 : Int32) (σ : AH) (σ' : AH), Sh σ → k_X12_tryRow_207 x3 σ = some σ' → E X l m_X12_tryRow D 207 [(0, .ref 124), (3, .int x3)] [] σ none σ') (hs : Sh σ) (h : B_X12_tryRow_207 k_X12_tryRow_207 x3 σ = some σ') : W_X12_tryRow_207 X l D x3 σ none σ' := by
  unfold B_X12_tryRow_207 at h
  unfold W_X12_tryRow_207
  refine ite_i (fun c1 => ?_) (fun c1 => ?_)
  · replace h := of_ifp h c1
    exact ret_v h
  · replace h := of_ifn h c1
    obtain ⟨g2, h⟩ := of_gd h
    refine ⟨(inB_mp g2), ?_⟩
    obtain ⟨g3, h⟩ := of_gd h
    refine ⟨(inB_mp g3), ?_⟩
    refine ite_i (fun c4 => ?_) (fun c4 => ?_)
    · replace h := of_ifp h c4
      obtain ⟨g5, h⟩ := of_gd h
      refine ⟨(inB_mp g5), ?_⟩
      obtain ⟨v38, σ34, q6, h⟩ := of_bd h
      have hC7 := f_X12_roomsOf (σ := σ) hs  q6 (X := X) (l := l)
      have hs8 := hC7.1.2.2.2.1 hs
      refine ⟨0, v38, σ34, (Nat.le_trans (by decide) hD), hC7, ?_⟩
      exact t_X12_tryRow_249 hD hk_X12_tryRow_207 hs8  h
    · replace h := of_ifn h c4
      exact t_X12_tryRow_249 hD hk_X12_tryRow_207 hs  h
theorem e_X12_tryRow_207 {X : Sx} {l : Launch} {D : Nat} (hD : 10 ≤ D) : ∀ (k : Nat) (x3 : Int32) (σ : AH) (σ' : AH), Sh σ → F_X12_tryRow_207 k x3 σ = some σ' → E X l m_X12_tryRow D 207 [(0, .ref 124), (3, .int x3)] [] σ none σ' := by
  intro k
  induction k with
  | zero => intro x3 σ σ' hs h; cases h
  | succ k ih =>
    intro x3 σ σ' hs h
    exact w_X12_tryRow_207 hs  (t_X12_tryRow_207 hD ih hs  h)
set_option maxRecDepth 100000 in
theorem t_X12_tryRow_169 {X : Sx} {l : Launch} {D : Nat} {k_X12_tryRow_115 : Int32 → Int32 → Int32 → AH → Option AH} {x1 : Int32} {x2 : Int32} {x3 : Int32} {y0 : Int32} {y1 : Int32} {σ : AH} {σ' : AH} (hD : 10 ≤ D) (hk_X12_tryRow_115 : ∀ (x1 : Int32) (x2 : Int32) (x3 : Int32) (σ : AH) (σ' : AH), Sh σ → k_X12_tryRow_115 x1 x2 x3 σ = some σ' → E X l m_X12_tryRow D 115 [(0, .ref 124), (1, .int x1), (2, .int x2), (3, .int x3)] [] σ none σ') (hs : Sh σ) (h : F_X12_tryRow_169 k_X12_tryRow_115 x1 x2 x3 y0 y1 σ = some σ') : W_X12_tryRow_169 X l D x1 x2 x3 y0 y1 σ none σ' := by
  unfold F_X12_tryRow_169 at h
  unfold W_X12_tryRow_169
  obtain ⟨g1, h⟩ := of_gd h
  refine ⟨(inB_mp g1), ?_⟩
  exact hk_X12_tryRow_115 _ _ _ _ _ hs  h
set_option maxRecDepth 100000 in
theorem t_X12_tryRow_115 {X : Sx} {l : Launch} {D : Nat} {k_X12_tryRow_115 : Int32 → Int32 → Int32 → AH → Option AH} {x1 : Int32} {x2 : Int32} {x3 : Int32} {σ : AH} {σ' : AH} (hD : 10 ≤ D) (hk_X12_tryRow_115 : ∀ (x1 : Int32) (x2 : Int32) (x3 : Int32) (σ : AH) (σ' : AH), Sh σ → k_X12_tryRow_115 x1 x2 x3 σ = some σ' → E X l m_X12_tryRow D 115 [(0, .ref 124), (1, .int x1), (2, .int x2), (3, .int x3)] [] σ none σ') (hs : Sh σ) (h : B_X12_tryRow_115 k_X12_tryRow_115 x1 x2 x3 σ = some σ') : W_X12_tryRow_115 X l D x1 x2 x3 σ none σ' := by
  unfold B_X12_tryRow_115 at h
  unfold W_X12_tryRow_115
  refine ite_i (fun c1 => ?_) (fun c1 => ?_)
  · replace h := of_ifp h c1
    obtain ⟨σ20, q2, h⟩ := of_bv h
    have hC3 := f_X12_license (σ := σ) hs  q2 (X := X) (l := l)
    have hs4 := hC3.1.2.2.2.1 hs
    refine ⟨5, σ20, (Nat.le_trans (by decide) hD), hC3, ?_⟩
    obtain ⟨σ25, q5, h⟩ := of_bv h
    have hC6 := f_X12_goTo (σ := σ20) hs4  q5 (X := X) (l := l)
    have hs7 := hC6.1.2.2.2.1 hs4
    refine ⟨9, σ25, (Nat.le_trans (by decide) hD), hC6, ?_⟩
    exact e_X12_tryRow_207 hD  _ _ _ _ hs7  h
  · replace h := of_ifn h c1
    obtain ⟨g8, h⟩ := of_gd h
    refine ⟨(inB_mp g8), ?_⟩
    refine ite_i (fun c9 => ?_) (fun c9 => ?_)
    · replace h := of_ifp h c9
      exact t_X12_tryRow_169 hD hk_X12_tryRow_115 hs  h
    · replace h := of_ifn h c9
      exact t_X12_tryRow_169 hD hk_X12_tryRow_115 hs  h
theorem e_X12_tryRow_115 {X : Sx} {l : Launch} {D : Nat} (hD : 10 ≤ D) : ∀ (k : Nat) (x1 : Int32) (x2 : Int32) (x3 : Int32) (σ : AH) (σ' : AH), Sh σ → F_X12_tryRow_115 k x1 x2 x3 σ = some σ' → E X l m_X12_tryRow D 115 [(0, .ref 124), (1, .int x1), (2, .int x2), (3, .int x3)] [] σ none σ' := by
  intro k
  induction k with
  | zero => intro x1 x2 x3 σ σ' hs h; cases h
  | succ k ih =>
    intro x1 x2 x3 σ σ' hs h
    exact w_X12_tryRow_115 hs  (t_X12_tryRow_115 hD ih hs  h)
set_option maxRecDepth 100000 in
theorem t_X12_tryRow_77 {X : Sx} {l : Launch} {D : Nat} {k_X12_tryRow_77 : Int32 → Int32 → Int32 → AH → Option AH} {x1 : Int32} {x2 : Int32} {x3 : Int32} {σ : AH} {σ' : AH} (hD : 10 ≤ D) (hk_X12_tryRow_77 : ∀ (x1 : Int32) (x2 : Int32) (x3 : Int32) (σ : AH) (σ' : AH), Sh σ → k_X12_tryRow_77 x1 x2 x3 σ = some σ' → E X l m_X12_tryRow D 77 [(0, .ref 124), (1, .int x1), (2, .int x2), (3, .int x3)] [] σ none σ') (hs : Sh σ) (h : B_X12_tryRow_77 k_X12_tryRow_77 x1 x2 x3 σ = some σ') : W_X12_tryRow_77 X l D x1 x2 x3 σ none σ' := by
  unfold B_X12_tryRow_77 at h
  unfold W_X12_tryRow_77
  refine ite_i (fun c1 => ?_) (fun c1 => ?_)
  · replace h := of_ifp h c1
    exact e_X12_tryRow_115 hD  _ _ _ _ _ _ hs  h
  · replace h := of_ifn h c1
    obtain ⟨g2, h⟩ := of_gd h
    refine ⟨(inB_mp g2), ?_⟩
    obtain ⟨g3, h⟩ := of_gd h
    refine ⟨(inB_mp g3), ?_⟩
    obtain ⟨g4, h⟩ := of_gd h
    refine ⟨(inB_mp g4), ?_⟩
    obtain ⟨g5, h⟩ := of_gd h
    refine ⟨(inB_mp g5), ?_⟩
    intro τ16 e6
    replace h := of_lt h e6
    have hs7 : Sh τ16 := by rw [e6]; exact hs
    exact hk_X12_tryRow_77 _ _ _ _ _ hs7  h
theorem e_X12_tryRow_77 {X : Sx} {l : Launch} {D : Nat} (hD : 10 ≤ D) : ∀ (k : Nat) (x1 : Int32) (x2 : Int32) (x3 : Int32) (σ : AH) (σ' : AH), Sh σ → F_X12_tryRow_77 k x1 x2 x3 σ = some σ' → E X l m_X12_tryRow D 77 [(0, .ref 124), (1, .int x1), (2, .int x2), (3, .int x3)] [] σ none σ' := by
  intro k
  induction k with
  | zero => intro x1 x2 x3 σ σ' hs h; cases h
  | succ k ih =>
    intro x1 x2 x3 σ σ' hs h
    exact w_X12_tryRow_77 hs  (t_X12_tryRow_77 hD ih hs  h)
set_option maxRecDepth 100000 in
theorem t_X12_tryRow_27 {X : Sx} {l : Launch} {D : Nat} {k_X12_tryRow_27 : Int32 → Int32 → Int32 → AH → Option AH} {x1 : Int32} {x2 : Int32} {x3 : Int32} {σ : AH} {σ' : AH} (hD : 10 ≤ D) (hk_X12_tryRow_27 : ∀ (x1 : Int32) (x2 : Int32) (x3 : Int32) (σ : AH) (σ' : AH), Sh σ → k_X12_tryRow_27 x1 x2 x3 σ = some σ' → E X l m_X12_tryRow D 27 [(0, .ref 124), (1, .int x1), (2, .int x2), (3, .int x3)] [] σ none σ') (hs : Sh σ) (h : B_X12_tryRow_27 k_X12_tryRow_27 x1 x2 x3 σ = some σ') : W_X12_tryRow_27 X l D x1 x2 x3 σ none σ' := by
  unfold B_X12_tryRow_27 at h
  unfold W_X12_tryRow_27
  refine ite_i (fun c1 => ?_) (fun c1 => ?_)
  · replace h := of_ifp h c1
    exact e_X12_tryRow_77 hD  _ _ _ _ _ _ hs  h
  · replace h := of_ifn h c1
    obtain ⟨g2, h⟩ := of_gd h
    refine ⟨(inB_mp g2), ?_⟩
    obtain ⟨g3, h⟩ := of_gd h
    refine ⟨(inB_mp g3), ?_⟩
    obtain ⟨g4, h⟩ := of_gd h
    refine ⟨(inB_mp g4), ?_⟩
    obtain ⟨g5, h⟩ := of_gd h
    refine ⟨(inB_mp g5), ?_⟩
    intro τ7 e6
    replace h := of_lt h e6
    have hs7 : Sh τ7 := by rw [e6]; exact hs
    obtain ⟨g8, h⟩ := of_gd h
    refine ⟨(inB_mp g8), ?_⟩
    obtain ⟨g9, h⟩ := of_gd h
    refine ⟨(inB_mp g9), ?_⟩
    exact hk_X12_tryRow_27 _ _ _ _ _ hs7  h
theorem e_X12_tryRow_27 {X : Sx} {l : Launch} {D : Nat} (hD : 10 ≤ D) : ∀ (k : Nat) (x1 : Int32) (x2 : Int32) (x3 : Int32) (σ : AH) (σ' : AH), Sh σ → F_X12_tryRow_27 k x1 x2 x3 σ = some σ' → E X l m_X12_tryRow D 27 [(0, .ref 124), (1, .int x1), (2, .int x2), (3, .int x3)] [] σ none σ' := by
  intro k
  induction k with
  | zero => intro x1 x2 x3 σ σ' hs h; cases h
  | succ k ih =>
    intro x1 x2 x3 σ σ' hs h
    exact w_X12_tryRow_27 hs  (t_X12_tryRow_27 hD ih hs  h)
set_option maxRecDepth 100000 in
theorem t_X12_tryRow_2 {X : Sx} {l : Launch} {D : Nat} {k_X12_tryRow_2 : Int32 → Int32 → Int32 → AH → Option AH} {x1 : Int32} {x2 : Int32} {x3 : Int32} {σ : AH} {σ' : AH} (hD : 10 ≤ D) (hk_X12_tryRow_2 : ∀ (x1 : Int32) (x2 : Int32) (x3 : Int32) (σ : AH) (σ' : AH), Sh σ → k_X12_tryRow_2 x1 x2 x3 σ = some σ' → E X l m_X12_tryRow D 2 [(0, .ref 124), (1, .int x1), (2, .int x2), (3, .int x3)] [] σ none σ') (hs : Sh σ) (h : B_X12_tryRow_2 k_X12_tryRow_2 x1 x2 x3 σ = some σ') : W_X12_tryRow_2 X l D x1 x2 x3 σ none σ' := by
  unfold B_X12_tryRow_2 at h
  unfold W_X12_tryRow_2
  refine ite_i (fun c1 => ?_) (fun c1 => ?_)
  · replace h := of_ifp h c1
    exact e_X12_tryRow_27 hD  _ _ _ _ _ _ hs  h
  · replace h := of_ifn h c1
    obtain ⟨g2, h⟩ := of_gd h
    refine ⟨(inB_mp g2), ?_⟩
    obtain ⟨g3, h⟩ := of_gd h
    refine ⟨(inB_mp g3), ?_⟩
    exact hk_X12_tryRow_2 _ _ _ _ _ hs  h
theorem e_X12_tryRow_2 {X : Sx} {l : Launch} {D : Nat} (hD : 10 ≤ D) : ∀ (k : Nat) (x1 : Int32) (x2 : Int32) (x3 : Int32) (σ : AH) (σ' : AH), Sh σ → F_X12_tryRow_2 k x1 x2 x3 σ = some σ' → E X l m_X12_tryRow D 2 [(0, .ref 124), (1, .int x1), (2, .int x2), (3, .int x3)] [] σ none σ' := by
  intro k
  induction k with
  | zero => intro x1 x2 x3 σ σ' hs h; cases h
  | succ k ih =>
    intro x1 x2 x3 σ σ' hs h
    exact w_X12_tryRow_2 hs  (t_X12_tryRow_2 hD ih hs  h)
set_option maxRecDepth 100000 in
theorem t_X12_tryRow_0 {X : Sx} {l : Launch} {D : Nat} {x1 : Int32} {x2 : Int32} {σ : AH} {σ' : AH} (hD : 10 ≤ D) (hs : Sh σ) (h : F_X12_tryRow x1 x2 σ = some σ') : W_X12_tryRow_0 X l D x1 x2 σ none σ' := by
  unfold F_X12_tryRow at h
  unfold W_X12_tryRow_0
  exact e_X12_tryRow_2 hD  _ _ _ _ _ _ hs  h
theorem f_X12_tryRow {X : Sx} {l : Launch} {x1 : Int32} {x2 : Int32} {σ : AH} {σ' : AH} (hs : Sh σ) (h : F_X12_tryRow x1 x2 σ = some σ') : Call X l m_X12_tryRow 10 [.ref 124, .int x1, .int x2] σ none σ' :=
  Call.ofE ok_X12_tryRow rfl (Nat.le_of_ble_eq_true rfl) (w_X12_tryRow_0 hs  (t_X12_tryRow_0 (Nat.le_refl _) hs  h))
def F_X12_best_121 (k_X12_best_23 : Int32 → Int32 → Int32 → AH → Option (Int32 × AH)) (x1 : Int32) (x2 : Int32) (x3 : Int32) (σ : AH) : Option (Int32 × AH) := (k_X12_best_23 x1 x2 (x3 + 1) σ)
def B_X12_best_84 (k_X12_best_23 : Int32 → Int32 → Int32 → AH → Option (Int32 × AH)) (k_X12_best_84 : Int32 → Int32 → Int32 → Int32 → AH → Option (Int32 × AH)) (x1 : Int32) (x2 : Int32) (x3 : Int32) (x4 : Int32) (σ : AH) : Option (Int32 × AH) := (if (gI σ 124 48) ≤ x4 then (F_X12_best_121 k_X12_best_23 x1 x2 x3 σ) else (if inB x4 6 = true then (k_X12_best_84 x1 x2 x3 (x4 + 1) (sI σ 153 x4.toNatClampNeg ((x3 >>> (((2 : Int32) * (((gI σ 124 48) - (1 : Int32)) - x4)) &&& 31)) &&& (3 : Int32)))) else none))
def F_X12_best_84 (k_X12_best_23 : Int32 → Int32 → Int32 → AH → Option (Int32 × AH)) : Nat → Int32 → Int32 → Int32 → Int32 → AH → Option (Int32 × AH) := fun k => match k with | 0 => fun _ _ _ _ _ => none | k + 1 => B_X12_best_84 k_X12_best_23 (F_X12_best_84 k_X12_best_23 k)
def F_X12_best_68 (k_X12_best_23 : Int32 → Int32 → Int32 → AH → Option (Int32 × AH)) (x1 : Int32) (x3 : Int32) (σ : AH) : Option (Int32 × AH) := (F_X12_best_84 k_X12_best_23 BIG x1 (gI σ 124 60) x3 (0 : Int32) (sI σ 124 53 (gI σ 124 61)))
def B_X12_best_23 (k_X12_best_23 : Int32 → Int32 → Int32 → AH → Option (Int32 × AH)) (x1 : Int32) (x2 : Int32) (x3 : Int32) (σ : AH) : Option (Int32 × AH) := (if ((1 : Int32) <<< (((2 : Int32) * (gI σ 124 48)) &&& 31)) ≤ x3 then (some (x2, (sI (sI σ 124 50 (1 : Int32)) 124 51 (gI (sI σ 124 50 (1 : Int32)) 124 48)))) else (bv (F_X12_tryRow x1 x3 σ) fun σ13 => (if x2 < (gI σ13 124 60) then (F_X12_best_68 k_X12_best_23 x1 x3 σ13) else (if (gI σ13 124 60) = x2 then (if (gI σ13 124 53) ≤ (gI σ13 124 61) then (F_X12_best_121 k_X12_best_23 x1 x2 x3 σ13) else (F_X12_best_68 k_X12_best_23 x1 x3 σ13)) else (F_X12_best_121 k_X12_best_23 x1 x2 x3 σ13)))))
def F_X12_best_23 : Nat → Int32 → Int32 → Int32 → AH → Option (Int32 × AH) := fun k => match k with | 0 => fun _ _ _ _ => none | k + 1 => B_X12_best_23 (F_X12_best_23 k)
def F_X12_best (x1 : Int32) (σ : AH) : Option (Int32 × AH) := (bd (F_X12_isQuarter x1 (sI σ 124 0 (0 : Int32))) fun v6 σ2 => (if v6 = 0 then (some ((-1 : Int32), σ2)) else (bv (F_X12_goAhead x1 σ2) fun σ8 => (F_X12_best_23 BIG x1 (-1 : Int32) (0 : Int32) σ8))))
set_option maxRecDepth 100000 in
theorem t_X12_best_121 {X : Sx} {l : Launch} {D : Nat} {k_X12_best_23 : Int32 → Int32 → Int32 → AH → Option (Int32 × AH)} {x1 : Int32} {x2 : Int32} {x3 : Int32} {σ : AH} {v : Int32} {σ' : AH} (hD : 11 ≤ D) (hk_X12_best_23 : ∀ (x1 : Int32) (x2 : Int32) (x3 : Int32) (σ : AH) (v : Int32) (σ' : AH), Sh σ → k_X12_best_23 x1 x2 x3 σ = some (v, σ') → E X l m_X12_best D 23 [(0, .ref 124), (1, .int x1), (2, .int x2), (3, .int x3)] [] σ (some (.int v)) σ') (hs : Sh σ) (h : F_X12_best_121 k_X12_best_23 x1 x2 x3 σ = some (v, σ')) : W_X12_best_121 X l D x1 x2 x3 σ (some (.int v)) σ' := by
  unfold F_X12_best_121 at h
  unfold W_X12_best_121
  exact hk_X12_best_23 _ _ _ _ _ _ hs  h
set_option maxRecDepth 100000 in
theorem t_X12_best_84 {X : Sx} {l : Launch} {D : Nat} {k_X12_best_23 : Int32 → Int32 → Int32 → AH → Option (Int32 × AH)} {k_X12_best_84 : Int32 → Int32 → Int32 → Int32 → AH → Option (Int32 × AH)} {x1 : Int32} {x2 : Int32} {x3 : Int32} {x4 : Int32} {σ : AH} {v : Int32} {σ' : AH} (hD : 11 ≤ D) (hk_X12_best_23 : ∀ (x1 : Int32) (x2 : Int32) (x3 : Int32) (σ : AH) (v : Int32) (σ' : AH), Sh σ → k_X12_best_23 x1 x2 x3 σ = some (v, σ') → E X l m_X12_best D 23 [(0, .ref 124), (1, .int x1), (2, .int x2), (3, .int x3)] [] σ (some (.int v)) σ') (hk_X12_best_84 : ∀ (x1 : Int32) (x2 : Int32) (x3 : Int32) (x4 : Int32) (σ : AH) (v : Int32) (σ' : AH), Sh σ → k_X12_best_84 x1 x2 x3 x4 σ = some (v, σ') → E X l m_X12_best D 84 [(0, .ref 124), (1, .int x1), (2, .int x2), (3, .int x3), (4, .int x4)] [] σ (some (.int v)) σ') (hs : Sh σ) (h : B_X12_best_84 k_X12_best_23 k_X12_best_84 x1 x2 x3 x4 σ = some (v, σ')) : W_X12_best_84 X l D x1 x2 x3 x4 σ (some (.int v)) σ' := by
  unfold B_X12_best_84 at h
  unfold W_X12_best_84
  refine ite_i (fun c1 => ?_) (fun c1 => ?_)
  · replace h := of_ifp h c1
    exact t_X12_best_121 hD hk_X12_best_23 hs  h
  · replace h := of_ifn h c1
    obtain ⟨g2, h⟩ := of_gd h
    refine ⟨(inB_mp g2), ?_⟩
    exact hk_X12_best_84 _ _ _ _ _ _ _ hs  h
theorem e_X12_best_84 {X : Sx} {l : Launch} {D : Nat} {k_X12_best_23 : Int32 → Int32 → Int32 → AH → Option (Int32 × AH)} (hD : 11 ≤ D) (hk_X12_best_23 : ∀ (x1 : Int32) (x2 : Int32) (x3 : Int32) (σ : AH) (v : Int32) (σ' : AH), Sh σ → k_X12_best_23 x1 x2 x3 σ = some (v, σ') → E X l m_X12_best D 23 [(0, .ref 124), (1, .int x1), (2, .int x2), (3, .int x3)] [] σ (some (.int v)) σ') : ∀ (k : Nat) (x1 : Int32) (x2 : Int32) (x3 : Int32) (x4 : Int32) (σ : AH) (v : Int32) (σ' : AH), Sh σ → F_X12_best_84 k_X12_best_23 k x1 x2 x3 x4 σ = some (v, σ') → E X l m_X12_best D 84 [(0, .ref 124), (1, .int x1), (2, .int x2), (3, .int x3), (4, .int x4)] [] σ (some (.int v)) σ' := by
  intro k
  induction k with
  | zero => intro x1 x2 x3 x4 σ v σ' hs h; cases h
  | succ k ih =>
    intro x1 x2 x3 x4 σ v σ' hs h
    exact w_X12_best_84 hs  (t_X12_best_84 hD hk_X12_best_23 ih hs  h)
set_option maxRecDepth 100000 in
theorem t_X12_best_68 {X : Sx} {l : Launch} {D : Nat} {k_X12_best_23 : Int32 → Int32 → Int32 → AH → Option (Int32 × AH)} {x1 : Int32} {x3 : Int32} {σ : AH} {v : Int32} {σ' : AH} (hD : 11 ≤ D) (hk_X12_best_23 : ∀ (x1 : Int32) (x2 : Int32) (x3 : Int32) (σ : AH) (v : Int32) (σ' : AH), Sh σ → k_X12_best_23 x1 x2 x3 σ = some (v, σ') → E X l m_X12_best D 23 [(0, .ref 124), (1, .int x1), (2, .int x2), (3, .int x3)] [] σ (some (.int v)) σ') (hs : Sh σ) (h : F_X12_best_68 k_X12_best_23 x1 x3 σ = some (v, σ')) : W_X12_best_68 X l D x1 x3 σ (some (.int v)) σ' := by
  unfold F_X12_best_68 at h
  unfold W_X12_best_68
  exact e_X12_best_84 hD hk_X12_best_23 _ _ _ _ _ _ _ _ hs  h
set_option maxRecDepth 100000 in
theorem t_X12_best_23 {X : Sx} {l : Launch} {D : Nat} {k_X12_best_23 : Int32 → Int32 → Int32 → AH → Option (Int32 × AH)} {x1 : Int32} {x2 : Int32} {x3 : Int32} {σ : AH} {v : Int32} {σ' : AH} (hD : 11 ≤ D) (hk_X12_best_23 : ∀ (x1 : Int32) (x2 : Int32) (x3 : Int32) (σ : AH) (v : Int32) (σ' : AH), Sh σ → k_X12_best_23 x1 x2 x3 σ = some (v, σ') → E X l m_X12_best D 23 [(0, .ref 124), (1, .int x1), (2, .int x2), (3, .int x3)] [] σ (some (.int v)) σ') (hs : Sh σ) (h : B_X12_best_23 k_X12_best_23 x1 x2 x3 σ = some (v, σ')) : W_X12_best_23 X l D x1 x2 x3 σ (some (.int v)) σ' := by
  unfold B_X12_best_23 at h
  unfold W_X12_best_23
  refine ite_i (fun c1 => ?_) (fun c1 => ?_)
  · replace h := of_ifp h c1
    exact ret_i h
  · replace h := of_ifn h c1
    obtain ⟨σ13, q2, h⟩ := of_bv h
    have hC3 := f_X12_tryRow (σ := σ) hs  q2 (X := X) (l := l)
    have hs4 := hC3.1.2.2.2.1 hs
    refine ⟨10, σ13, (Nat.le_trans (by decide) hD), hC3, ?_⟩
    refine ite_i (fun c5 => ?_) (fun c5 => ?_)
    · replace h := of_ifp h c5
      exact t_X12_best_68 hD hk_X12_best_23 hs4  h
    · replace h := of_ifn h c5
      refine ite_i (fun c6 => ?_) (fun c6 => ?_)
      · replace h := of_ifp h c6
        refine ite_i (fun c7 => ?_) (fun c7 => ?_)
        · replace h := of_ifp h c7
          exact t_X12_best_121 hD hk_X12_best_23 hs4  h
        · replace h := of_ifn h c7
          exact t_X12_best_68 hD hk_X12_best_23 hs4  h
      · replace h := of_ifn h c6
        exact t_X12_best_121 hD hk_X12_best_23 hs4  h
theorem e_X12_best_23 {X : Sx} {l : Launch} {D : Nat} (hD : 11 ≤ D) : ∀ (k : Nat) (x1 : Int32) (x2 : Int32) (x3 : Int32) (σ : AH) (v : Int32) (σ' : AH), Sh σ → F_X12_best_23 k x1 x2 x3 σ = some (v, σ') → E X l m_X12_best D 23 [(0, .ref 124), (1, .int x1), (2, .int x2), (3, .int x3)] [] σ (some (.int v)) σ' := by
  intro k
  induction k with
  | zero => intro x1 x2 x3 σ v σ' hs h; cases h
  | succ k ih =>
    intro x1 x2 x3 σ v σ' hs h
    exact w_X12_best_23 hs  (t_X12_best_23 hD ih hs  h)
set_option maxRecDepth 100000 in
theorem t_X12_best_0 {X : Sx} {l : Launch} {D : Nat} {x1 : Int32} {σ : AH} {v : Int32} {σ' : AH} (hD : 11 ≤ D) (hs : Sh σ) (h : F_X12_best x1 σ = some (v, σ')) : W_X12_best_0 X l D x1 σ (some (.int v)) σ' := by
  unfold F_X12_best at h
  unfold W_X12_best_0
  obtain ⟨v6, σ2, q1, h⟩ := of_bd h
  have hC2 := f_X12_isQuarter (σ := (sI σ 124 0 (0 : Int32))) hs  q1 (X := X) (l := l)
  have hs3 := hC2.1.2.2.2.1 hs
  refine ⟨1, v6, σ2, (Nat.le_trans (by decide) hD), hC2, ?_⟩
  refine ite_i (fun c4 => ?_) (fun c4 => ?_)
  · replace h := of_ifp h c4
    exact ret_i h
  · replace h := of_ifn h c4
    obtain ⟨σ8, q5, h⟩ := of_bv h
    have hC6 := f_X12_goAhead (σ := σ2) hs3  q5 (X := X) (l := l)
    have hs7 := hC6.1.2.2.2.1 hs3
    refine ⟨10, σ8, (Nat.le_trans (by decide) hD), hC6, ?_⟩
    exact e_X12_best_23 hD  _ _ _ _ _ _ _ hs7  h
theorem f_X12_best {X : Sx} {l : Launch} {x1 : Int32} {σ : AH} {v : Int32} {σ' : AH} (hs : Sh σ) (h : F_X12_best x1 σ = some (v, σ')) : Call X l m_X12_best 11 [.ref 124, .int x1] σ (some (.int v)) σ' :=
  Call.ofE ok_X12_best rfl (Nat.le_of_ble_eq_true rfl) (w_X12_best_0 hs  (t_X12_best_0 (Nat.le_refl _) hs  h))
def F_X12_chosen (x1 : Int32) (σ : AH) : Option (Int32 × AH) := (if (gI (sI σ 124 0 (0 : Int32)) 124 50) = 0 then (some ((-1 : Int32), (sI σ 124 0 (0 : Int32)))) else (if x1 = (-1 : Int32) then (some ((gI (sI σ 124 0 (0 : Int32)) 124 53), (sI σ 124 0 (0 : Int32)))) else (bd (F_X12_in (x1).toInt64 (0 : Int64) (((gI (sI σ 124 0 (0 : Int32)) 124 51)).toInt64 - (1 : Int64)) (sI σ 124 0 (0 : Int32))) fun v6 σ2 => (if v6 = 0 then (some ((-1 : Int32), σ2)) else (if inB x1 6 = true then (some ((gI σ2 153 x1.toNatClampNeg), σ2)) else none)))))
set_option maxRecDepth 100000 in
theorem t_X12_chosen_0 {X : Sx} {l : Launch} {D : Nat} {x1 : Int32} {σ : AH} {v : Int32} {σ' : AH} (hD : 1 ≤ D) (hs : Sh σ) (h : F_X12_chosen x1 σ = some (v, σ')) : W_X12_chosen_0 X l D x1 σ (some (.int v)) σ' := by
  unfold F_X12_chosen at h
  unfold W_X12_chosen_0
  refine ite_i (fun c1 => ?_) (fun c1 => ?_)
  · replace h := of_ifp h c1
    exact ret_i h
  · replace h := of_ifn h c1
    refine ite_i (fun c2 => ?_) (fun c2 => ?_)
    · replace h := of_ifp h c2
      exact ret_i h
    · replace h := of_ifn h c2
      obtain ⟨v6, σ2, q3, h⟩ := of_bd h
      have hC4 := f_X12_in (σ := (sI σ 124 0 (0 : Int32))) hs  q3 (X := X) (l := l)
      have hs5 := hC4.1.2.2.2.1 hs
      refine ⟨0, v6, σ2, (Nat.le_trans (by decide) hD), hC4, ?_⟩
      refine ite_i (fun c6 => ?_) (fun c6 => ?_)
      · replace h := of_ifp h c6
        exact ret_i h
      · replace h := of_ifn h c6
        obtain ⟨g7, h⟩ := of_gd h
        refine ⟨(inB_mp g7), ?_⟩
        exact ret_i h
theorem f_X12_chosen {X : Sx} {l : Launch} {x1 : Int32} {σ : AH} {v : Int32} {σ' : AH} (hs : Sh σ) (h : F_X12_chosen x1 σ = some (v, σ')) : Call X l m_X12_chosen 1 [.ref 124, .int x1] σ (some (.int v)) σ' :=
  Call.ofE ok_X12_chosen rfl (Nat.le_of_ble_eq_true rfl) (w_X12_chosen_0 hs  (t_X12_chosen_0 (Nat.le_refl _) hs  h))
def F_X12_bound_106 (k_X12_bound_23 : Int32 → Int32 → Int32 → AH → Option (Int32 × AH)) (x1 : Int32) (x3 : Int32) (y0 : Int32) (y1 : Int32) (σ : AH) : Option (Int32 × AH) := (k_X12_bound_23 x1 (y1 + y0) (x3 + 1) σ)
def F_X12_bound_78 (k_X12_bound_23 : Int32 → Int32 → Int32 → AH → Option (Int32 × AH)) (k_X12_bound_37 : Int32 → Int32 → Int32 → Int32 → Int32 → AH → Option (Int32 × AH)) (x1 : Int32) (x2 : Int32) (x3 : Int32) (x5 : Int32) (y0 : Int32) (σ : AH) : Option (Int32 × AH) := (k_X12_bound_37 x1 x2 x3 y0 (x5 + 1) σ)
def F_X12_bound_73 (k_X12_bound_23 : Int32 → Int32 → Int32 → AH → Option (Int32 × AH)) (k_X12_bound_37 : Int32 → Int32 → Int32 → Int32 → Int32 → AH → Option (Int32 × AH)) (x1 : Int32) (x2 : Int32) (x3 : Int32) (x5 : Int32) (σ : AH) : Option (Int32 × AH) := (F_X12_bound_78 k_X12_bound_23 k_X12_bound_37 x1 x2 x3 x5 (1 : Int32) σ)
def B_X12_bound_37 (k_X12_bound_23 : Int32 → Int32 → Int32 → AH → Option (Int32 × AH)) (k_X12_bound_37 : Int32 → Int32 → Int32 → Int32 → Int32 → AH → Option (Int32 × AH)) (x1 : Int32) (x2 : Int32) (x3 : Int32) (x4 : Int32) (x5 : Int32) (σ : AH) : Option (Int32 × AH) := (if (4 : Int32) ≤ x5 then (if x4 = 0 then (F_X12_bound_106 k_X12_bound_23 x1 x3 (0 : Int32) x2 σ) else (if inB x3 6 = true then (bd (F_X12_roomsOf (gI σ 152 x3.toNatClampNeg) σ) fun v18 σ14 => (F_X12_bound_106 k_X12_bound_23 x1 x3 v18 x2 σ14)) else none)) else (bv (F_X12_tryRow x1 (x5 <<< (((2 : Int32) * (((gI σ 124 48) - (1 : Int32)) - x3)) &&& 31)) σ) fun σ20 => (if x4 = 0 then (if (gI σ20 124 60) ≤ 0 then (F_X12_bound_78 k_X12_bound_23 k_X12_bound_37 x1 x2 x3 x5 (0 : Int32) σ20) else (F_X12_bound_73 k_X12_bound_23 k_X12_bound_37 x1 x2 x3 x5 σ20)) else (F_X12_bound_73 k_X12_bound_23 k_X12_bound_37 x1 x2 x3 x5 σ20))))
def F_X12_bound_37 (k_X12_bound_23 : Int32 → Int32 → Int32 → AH → Option (Int32 × AH)) : Nat → Int32 → Int32 → Int32 → Int32 → Int32 → AH → Option (Int32 × AH) := fun k => match k with | 0 => fun _ _ _ _ _ _ => none | k + 1 => B_X12_bound_37 k_X12_bound_23 (F_X12_bound_37 k_X12_bound_23 k)
def B_X12_bound_23 (k_X12_bound_23 : Int32 → Int32 → Int32 → AH → Option (Int32 × AH)) (x1 : Int32) (x2 : Int32) (x3 : Int32) (σ : AH) : Option (Int32 × AH) := (if (gI σ 124 48) ≤ x3 then (some (x2, σ)) else (F_X12_bound_37 k_X12_bound_23 BIG x1 x2 x3 (0 : Int32) (1 : Int32) σ))
def F_X12_bound_23 : Nat → Int32 → Int32 → Int32 → AH → Option (Int32 × AH) := fun k => match k with | 0 => fun _ _ _ _ => none | k + 1 => B_X12_bound_23 (F_X12_bound_23 k)
def F_X12_bound (x1 : Int32) (σ : AH) : Option (Int32 × AH) := (bd (F_X12_isQuarter x1 (sI σ 124 0 (0 : Int32))) fun v6 σ2 => (if v6 = 0 then (some ((-1 : Int32), σ2)) else (bv (F_X12_goAhead x1 σ2) fun σ8 => (F_X12_bound_23 BIG x1 (0 : Int32) (0 : Int32) σ8))))
set_option maxRecDepth 100000 in
theorem t_X12_bound_106 {X : Sx} {l : Launch} {D : Nat} {k_X12_bound_23 : Int32 → Int32 → Int32 → AH → Option (Int32 × AH)} {x1 : Int32} {x3 : Int32} {y0 : Int32} {y1 : Int32} {σ : AH} {v : Int32} {σ' : AH} (hD : 11 ≤ D) (hk_X12_bound_23 : ∀ (x1 : Int32) (x2 : Int32) (x3 : Int32) (σ : AH) (v : Int32) (σ' : AH), Sh σ → k_X12_bound_23 x1 x2 x3 σ = some (v, σ') → E X l m_X12_bound D 23 [(0, .ref 124), (1, .int x1), (2, .int x2), (3, .int x3)] [] σ (some (.int v)) σ') (hs : Sh σ) (h : F_X12_bound_106 k_X12_bound_23 x1 x3 y0 y1 σ = some (v, σ')) : W_X12_bound_106 X l D x1 x3 y0 y1 σ (some (.int v)) σ' := by
  unfold F_X12_bound_106 at h
  unfold W_X12_bound_106
  exact hk_X12_bound_23 _ _ _ _ _ _ hs  h
set_option maxRecDepth 100000 in
theorem t_X12_bound_78 {X : Sx} {l : Launch} {D : Nat} {k_X12_bound_23 : Int32 → Int32 → Int32 → AH → Option (Int32 × AH)} {k_X12_bound_37 : Int32 → Int32 → Int32 → Int32 → Int32 → AH → Option (Int32 × AH)} {x1 : Int32} {x2 : Int32} {x3 : Int32} {x5 : Int32} {y0 : Int32} {σ : AH} {v : Int32} {σ' : AH} (hD : 11 ≤ D) (hk_X12_bound_23 : ∀ (x1 : Int32) (x2 : Int32) (x3 : Int32) (σ : AH) (v : Int32) (σ' : AH), Sh σ → k_X12_bound_23 x1 x2 x3 σ = some (v, σ') → E X l m_X12_bound D 23 [(0, .ref 124), (1, .int x1), (2, .int x2), (3, .int x3)] [] σ (some (.int v)) σ') (hk_X12_bound_37 : ∀ (x1 : Int32) (x2 : Int32) (x3 : Int32) (x4 : Int32) (x5 : Int32) (σ : AH) (v : Int32) (σ' : AH), Sh σ → k_X12_bound_37 x1 x2 x3 x4 x5 σ = some (v, σ') → E X l m_X12_bound D 37 [(0, .ref 124), (1, .int x1), (2, .int x2), (3, .int x3), (4, .int x4), (5, .int x5)] [] σ (some (.int v)) σ') (hs : Sh σ) (h : F_X12_bound_78 k_X12_bound_23 k_X12_bound_37 x1 x2 x3 x5 y0 σ = some (v, σ')) : W_X12_bound_78 X l D x1 x2 x3 x5 y0 σ (some (.int v)) σ' := by
  unfold F_X12_bound_78 at h
  unfold W_X12_bound_78
  exact hk_X12_bound_37 _ _ _ _ _ _ _ _ hs  h
set_option maxRecDepth 100000 in
theorem t_X12_bound_73 {X : Sx} {l : Launch} {D : Nat} {k_X12_bound_23 : Int32 → Int32 → Int32 → AH → Option (Int32 × AH)} {k_X12_bound_37 : Int32 → Int32 → Int32 → Int32 → Int32 → AH → Option (Int32 × AH)} {x1 : Int32} {x2 : Int32} {x3 : Int32} {x5 : Int32} {σ : AH} {v : Int32} {σ' : AH} (hD : 11 ≤ D) (hk_X12_bound_23 : ∀ (x1 : Int32) (x2 : Int32) (x3 : Int32) (σ : AH) (v : Int32) (σ' : AH), Sh σ → k_X12_bound_23 x1 x2 x3 σ = some (v, σ') → E X l m_X12_bound D 23 [(0, .ref 124), (1, .int x1), (2, .int x2), (3, .int x3)] [] σ (some (.int v)) σ') (hk_X12_bound_37 : ∀ (x1 : Int32) (x2 : Int32) (x3 : Int32) (x4 : Int32) (x5 : Int32) (σ : AH) (v : Int32) (σ' : AH), Sh σ → k_X12_bound_37 x1 x2 x3 x4 x5 σ = some (v, σ') → E X l m_X12_bound D 37 [(0, .ref 124), (1, .int x1), (2, .int x2), (3, .int x3), (4, .int x4), (5, .int x5)] [] σ (some (.int v)) σ') (hs : Sh σ) (h : F_X12_bound_73 k_X12_bound_23 k_X12_bound_37 x1 x2 x3 x5 σ = some (v, σ')) : W_X12_bound_73 X l D x1 x2 x3 x5 σ (some (.int v)) σ' := by
  unfold F_X12_bound_73 at h
  unfold W_X12_bound_73
  exact t_X12_bound_78 hD hk_X12_bound_23 hk_X12_bound_37 hs  h
set_option maxRecDepth 100000 in
theorem t_X12_bound_37 {X : Sx} {l : Launch} {D : Nat} {k_X12_bound_23 : Int32 → Int32 → Int32 → AH → Option (Int32 × AH)} {k_X12_bound_37 : Int32 → Int32 → Int32 → Int32 → Int32 → AH → Option (Int32 × AH)} {x1 : Int32} {x2 : Int32} {x3 : Int32} {x4 : Int32} {x5 : Int32} {σ : AH} {v : Int32} {σ' : AH} (hD : 11 ≤ D) (hk_X12_bound_23 : ∀ (x1 : Int32) (x2 : Int32) (x3 : Int32) (σ : AH) (v : Int32) (σ' : AH), Sh σ → k_X12_bound_23 x1 x2 x3 σ = some (v, σ') → E X l m_X12_bound D 23 [(0, .ref 124), (1, .int x1), (2, .int x2), (3, .int x3)] [] σ (some (.int v)) σ') (hk_X12_bound_37 : ∀ (x1 : Int32) (x2 : Int32) (x3 : Int32) (x4 : Int32) (x5 : Int32) (σ : AH) (v : Int32) (σ' : AH), Sh σ → k_X12_bound_37 x1 x2 x3 x4 x5 σ = some (v, σ') → E X l m_X12_bound D 37 [(0, .ref 124), (1, .int x1), (2, .int x2), (3, .int x3), (4, .int x4), (5, .int x5)] [] σ (some (.int v)) σ') (hs : Sh σ) (h : B_X12_bound_37 k_X12_bound_23 k_X12_bound_37 x1 x2 x3 x4 x5 σ = some (v, σ')) : W_X12_bound_37 X l D x1 x2 x3 x4 x5 σ (some (.int v)) σ' := by
  unfold B_X12_bound_37 at h
  unfold W_X12_bound_37
  refine ite_i (fun c1 => ?_) (fun c1 => ?_)
  · replace h := of_ifp h c1
    refine ite_i (fun c2 => ?_) (fun c2 => ?_)
    · replace h := of_ifp h c2
      exact t_X12_bound_106 hD hk_X12_bound_23 hs  h
    · replace h := of_ifn h c2
      obtain ⟨g3, h⟩ := of_gd h
      refine ⟨(inB_mp g3), ?_⟩
      obtain ⟨v18, σ14, q4, h⟩ := of_bd h
      have hC5 := f_X12_roomsOf (σ := σ) hs  q4 (X := X) (l := l)
      have hs6 := hC5.1.2.2.2.1 hs
      refine ⟨0, v18, σ14, (Nat.le_trans (by decide) hD), hC5, ?_⟩
      exact t_X12_bound_106 hD hk_X12_bound_23 hs6  h
  · replace h := of_ifn h c1
    obtain ⟨σ20, q7, h⟩ := of_bv h
    have hC8 := f_X12_tryRow (σ := σ) hs  q7 (X := X) (l := l)
    have hs9 := hC8.1.2.2.2.1 hs
    refine ⟨10, σ20, (Nat.le_trans (by decide) hD), hC8, ?_⟩
    refine ite_i (fun c10 => ?_) (fun c10 => ?_)
    · replace h := of_ifp h c10
      refine ite_i (fun c11 => ?_) (fun c11 => ?_)
      · replace h := of_ifp h c11
        exact t_X12_bound_78 hD hk_X12_bound_23 hk_X12_bound_37 hs9  h
      · replace h := of_ifn h c11
        exact t_X12_bound_73 hD hk_X12_bound_23 hk_X12_bound_37 hs9  h
    · replace h := of_ifn h c10
      exact t_X12_bound_73 hD hk_X12_bound_23 hk_X12_bound_37 hs9  h
theorem e_X12_bound_37 {X : Sx} {l : Launch} {D : Nat} {k_X12_bound_23 : Int32 → Int32 → Int32 → AH → Option (Int32 × AH)} (hD : 11 ≤ D) (hk_X12_bound_23 : ∀ (x1 : Int32) (x2 : Int32) (x3 : Int32) (σ : AH) (v : Int32) (σ' : AH), Sh σ → k_X12_bound_23 x1 x2 x3 σ = some (v, σ') → E X l m_X12_bound D 23 [(0, .ref 124), (1, .int x1), (2, .int x2), (3, .int x3)] [] σ (some (.int v)) σ') : ∀ (k : Nat) (x1 : Int32) (x2 : Int32) (x3 : Int32) (x4 : Int32) (x5 : Int32) (σ : AH) (v : Int32) (σ' : AH), Sh σ → F_X12_bound_37 k_X12_bound_23 k x1 x2 x3 x4 x5 σ = some (v, σ') → E X l m_X12_bound D 37 [(0, .ref 124), (1, .int x1), (2, .int x2), (3, .int x3), (4, .int x4), (5, .int x5)] [] σ (some (.int v)) σ' := by
  intro k
  induction k with
  | zero => intro x1 x2 x3 x4 x5 σ v σ' hs h; cases h
  | succ k ih =>
    intro x1 x2 x3 x4 x5 σ v σ' hs h
    exact w_X12_bound_37 hs  (t_X12_bound_37 hD hk_X12_bound_23 ih hs  h)
set_option maxRecDepth 100000 in
theorem t_X12_bound_23 {X : Sx} {l : Launch} {D : Nat} {k_X12_bound_23 : Int32 → Int32 → Int32 → AH → Option (Int32 × AH)} {x1 : Int32} {x2 : Int32} {x3 : Int32} {σ : AH} {v : Int32} {σ' : AH} (hD : 11 ≤ D) (hk_X12_bound_23 : ∀ (x1 : Int32) (x2 : Int32) (x3 : Int32) (σ : AH) (v : Int32) (σ' : AH), Sh σ → k_X12_bound_23 x1 x2 x3 σ = some (v, σ') → E X l m_X12_bound D 23 [(0, .ref 124), (1, .int x1), (2, .int x2), (3, .int x3)] [] σ (some (.int v)) σ') (hs : Sh σ) (h : B_X12_bound_23 k_X12_bound_23 x1 x2 x3 σ = some (v, σ')) : W_X12_bound_23 X l D x1 x2 x3 σ (some (.int v)) σ' := by
  unfold B_X12_bound_23 at h
  unfold W_X12_bound_23
  refine ite_i (fun c1 => ?_) (fun c1 => ?_)
  · replace h := of_ifp h c1
    exact ret_i h
  · replace h := of_ifn h c1
    exact e_X12_bound_37 hD hk_X12_bound_23 _ _ _ _ _ _ _ _ _ hs  h
theorem e_X12_bound_23 {X : Sx} {l : Launch} {D : Nat} (hD : 11 ≤ D) : ∀ (k : Nat) (x1 : Int32) (x2 : Int32) (x3 : Int32) (σ : AH) (v : Int32) (σ' : AH), Sh σ → F_X12_bound_23 k x1 x2 x3 σ = some (v, σ') → E X l m_X12_bound D 23 [(0, .ref 124), (1, .int x1), (2, .int x2), (3, .int x3)] [] σ (some (.int v)) σ' := by
  intro k
  induction k with
  | zero => intro x1 x2 x3 σ v σ' hs h; cases h
  | succ k ih =>
    intro x1 x2 x3 σ v σ' hs h
    exact w_X12_bound_23 hs  (t_X12_bound_23 hD ih hs  h)
set_option maxRecDepth 100000 in
theorem t_X12_bound_0 {X : Sx} {l : Launch} {D : Nat} {x1 : Int32} {σ : AH} {v : Int32} {σ' : AH} (hD : 11 ≤ D) (hs : Sh σ) (h : F_X12_bound x1 σ = some (v, σ')) : W_X12_bound_0 X l D x1 σ (some (.int v)) σ' := by
  unfold F_X12_bound at h
  unfold W_X12_bound_0
  obtain ⟨v6, σ2, q1, h⟩ := of_bd h
  have hC2 := f_X12_isQuarter (σ := (sI σ 124 0 (0 : Int32))) hs  q1 (X := X) (l := l)
  have hs3 := hC2.1.2.2.2.1 hs
  refine ⟨1, v6, σ2, (Nat.le_trans (by decide) hD), hC2, ?_⟩
  refine ite_i (fun c4 => ?_) (fun c4 => ?_)
  · replace h := of_ifp h c4
    exact ret_i h
  · replace h := of_ifn h c4
    obtain ⟨σ8, q5, h⟩ := of_bv h
    have hC6 := f_X12_goAhead (σ := σ2) hs3  q5 (X := X) (l := l)
    have hs7 := hC6.1.2.2.2.1 hs3
    refine ⟨10, σ8, (Nat.le_trans (by decide) hD), hC6, ?_⟩
    exact e_X12_bound_23 hD  _ _ _ _ _ _ _ hs7  h
theorem f_X12_bound {X : Sx} {l : Launch} {x1 : Int32} {σ : AH} {v : Int32} {σ' : AH} (hs : Sh σ) (h : F_X12_bound x1 σ = some (v, σ')) : Call X l m_X12_bound 11 [.ref 124, .int x1] σ (some (.int v)) σ' :=
  Call.ofE ok_X12_bound rfl (Nat.le_of_ble_eq_true rfl) (w_X12_bound_0 hs  (t_X12_bound_0 (Nat.le_refl _) hs  h))
def B_X12_judge_43 (k_X12_judge_43 : Int32 → Int32 → Int32 → Int32 → AH → Option (Int32 × AH)) (x1 : Int32) (x2 : Int32) (x3 : Int32) (x4 : Int32) (σ : AH) : Option (Int32 × AH) := (if (gI σ 124 48) ≤ x4 then (bv (F_X12_tryRow x1 x3 σ) fun σ19 => (some ((((10 : Int32) * (gI σ19 124 60)) + (gI σ19 124 61)), σ19))) else (k_X12_judge_43 x1 x2 ((x3 <<< ((2 : Int32) &&& 31)) ||| ((x2 >>> (((2 : Int32) * x4) &&& 31)) &&& (3 : Int32))) (x4 + 1) σ))
def F_X12_judge_43 : Nat → Int32 → Int32 → Int32 → Int32 → AH → Option (Int32 × AH) := fun k => match k with | 0 => fun _ _ _ _ _ => none | k + 1 => B_X12_judge_43 (F_X12_judge_43 k)
def F_X12_judge (x1 : Int32) (x2 : Int32) (σ : AH) : Option (Int32 × AH) := (bd (F_X12_isQuarter x1 (sI σ 124 0 (0 : Int32))) fun v6 σ2 => (if v6 = 0 then (some ((-1 : Int32), σ2)) else (bd (F_X12_in (x2).toInt64 (0 : Int64) (((1 : Int64) <<< ((((2 : Int32) * (gI σ2 124 48))).toInt64 &&& 63)) - (1 : Int64)) σ2) fun v12 σ8 => (if v12 = 0 then (some ((-1 : Int32), σ8)) else (bv (F_X12_goAhead x1 σ8) fun σ14 => (F_X12_judge_43 BIG x1 x2 (0 : Int32) (0 : Int32) σ14))))))
set_option maxRecDepth 100000 in
theorem t_X12_judge_43 {X : Sx} {l : Launch} {D : Nat} {k_X12_judge_43 : Int32 → Int32 → Int32 → Int32 → AH → Option (Int32 × AH)} {x1 : Int32} {x2 : Int32} {x3 : Int32} {x4 : Int32} {σ : AH} {v : Int32} {σ' : AH} (hD : 11 ≤ D) (hk_X12_judge_43 : ∀ (x1 : Int32) (x2 : Int32) (x3 : Int32) (x4 : Int32) (σ : AH) (v : Int32) (σ' : AH), Sh σ → k_X12_judge_43 x1 x2 x3 x4 σ = some (v, σ') → E X l m_X12_judge D 43 [(0, .ref 124), (1, .int x1), (2, .int x2), (3, .int x3), (4, .int x4)] [] σ (some (.int v)) σ') (hs : Sh σ) (h : B_X12_judge_43 k_X12_judge_43 x1 x2 x3 x4 σ = some (v, σ')) : W_X12_judge_43 X l D x1 x2 x3 x4 σ (some (.int v)) σ' := by
  unfold B_X12_judge_43 at h
  unfold W_X12_judge_43
  refine ite_i (fun c1 => ?_) (fun c1 => ?_)
  · replace h := of_ifp h c1
    obtain ⟨σ19, q2, h⟩ := of_bv h
    have hC3 := f_X12_tryRow (σ := σ) hs  q2 (X := X) (l := l)
    have hs4 := hC3.1.2.2.2.1 hs
    refine ⟨10, σ19, (Nat.le_trans (by decide) hD), hC3, ?_⟩
    exact ret_i h
  · replace h := of_ifn h c1
    exact hk_X12_judge_43 _ _ _ _ _ _ _ hs  h
theorem e_X12_judge_43 {X : Sx} {l : Launch} {D : Nat} (hD : 11 ≤ D) : ∀ (k : Nat) (x1 : Int32) (x2 : Int32) (x3 : Int32) (x4 : Int32) (σ : AH) (v : Int32) (σ' : AH), Sh σ → F_X12_judge_43 k x1 x2 x3 x4 σ = some (v, σ') → E X l m_X12_judge D 43 [(0, .ref 124), (1, .int x1), (2, .int x2), (3, .int x3), (4, .int x4)] [] σ (some (.int v)) σ' := by
  intro k
  induction k with
  | zero => intro x1 x2 x3 x4 σ v σ' hs h; cases h
  | succ k ih =>
    intro x1 x2 x3 x4 σ v σ' hs h
    exact w_X12_judge_43 hs  (t_X12_judge_43 hD ih hs  h)
set_option maxRecDepth 100000 in
theorem t_X12_judge_0 {X : Sx} {l : Launch} {D : Nat} {x1 : Int32} {x2 : Int32} {σ : AH} {v : Int32} {σ' : AH} (hD : 11 ≤ D) (hs : Sh σ) (h : F_X12_judge x1 x2 σ = some (v, σ')) : W_X12_judge_0 X l D x1 x2 σ (some (.int v)) σ' := by
  unfold F_X12_judge at h
  unfold W_X12_judge_0
  obtain ⟨v6, σ2, q1, h⟩ := of_bd h
  have hC2 := f_X12_isQuarter (σ := (sI σ 124 0 (0 : Int32))) hs  q1 (X := X) (l := l)
  have hs3 := hC2.1.2.2.2.1 hs
  refine ⟨1, v6, σ2, (Nat.le_trans (by decide) hD), hC2, ?_⟩
  refine ite_i (fun c4 => ?_) (fun c4 => ?_)
  · replace h := of_ifp h c4
    exact ret_i h
  · replace h := of_ifn h c4
    obtain ⟨v12, σ8, q5, h⟩ := of_bd h
    have hC6 := f_X12_in (σ := σ2) hs3  q5 (X := X) (l := l)
    have hs7 := hC6.1.2.2.2.1 hs3
    refine ⟨0, v12, σ8, (Nat.le_trans (by decide) hD), hC6, ?_⟩
    refine ite_i (fun c8 => ?_) (fun c8 => ?_)
    · replace h := of_ifp h c8
      exact ret_i h
    · replace h := of_ifn h c8
      obtain ⟨σ14, q9, h⟩ := of_bv h
      have hC10 := f_X12_goAhead (σ := σ8) hs7  q9 (X := X) (l := l)
      have hs11 := hC10.1.2.2.2.1 hs7
      refine ⟨10, σ14, (Nat.le_trans (by decide) hD), hC10, ?_⟩
      exact e_X12_judge_43 hD  _ _ _ _ _ _ _ _ hs11  h
theorem f_X12_judge {X : Sx} {l : Launch} {x1 : Int32} {x2 : Int32} {σ : AH} {v : Int32} {σ' : AH} (hs : Sh σ) (h : F_X12_judge x1 x2 σ = some (v, σ')) : Call X l m_X12_judge 11 [.ref 124, .int x1, .int x2] σ (some (.int v)) σ' :=
  Call.ofE ok_X12_judge rfl (Nat.le_of_ble_eq_true rfl) (w_X12_judge_0 hs  (t_X12_judge_0 (Nat.le_refl _) hs  h))
def F_X12_entry_77 (σ : AH) : Option (Int32 × AH) := (bd (F_X12_told (-1 : Int32) σ) fun v48 σ44 => (some (v48, σ44)))
def F_X12_entry_95 (σ : AH) : Option (Int32 × AH) := (bd (F_X12_told (-5 : Int32) σ) fun v75 σ71 => (some (v75, σ71)))
def F_X12_entry_102 (x1 : Int32) (x2 : Int32) (x3 : Int32) (x4 : Int32) (x5 : Int32) (x6 : Int32) (x7 : Int32) (σ : AH) : Option (Int32 × AH) := (bv (F_X12_addFour ((23832 : Int32) + ((10 : Int32) * (gI σ 125 6))) x1 x2 x3 x4 σ) fun σ50 => (bv (F_X12_addFour (((23832 : Int32) + ((10 : Int32) * (gI σ 125 6))) + (4 : Int32)) x5 x6 x7 (-1 : Int32) σ50) fun σ55 => (if inB (((23832 : Int32) + ((10 : Int32) * (gI σ 125 6))) + (8 : Int32)) 269832 = true then (if inB (((23832 : Int32) + ((10 : Int32) * (gI σ 125 6))) + (9 : Int32)) 269832 = true then (lt (sI (sI σ55 125 ((((23832 : Int32) + ((10 : Int32) * (gI σ 125 6))) + (8 : Int32)).toNatClampNeg) (-1 : Int32)) 125 ((((23832 : Int32) + ((10 : Int32) * (gI σ 125 6))) + (9 : Int32)).toNatClampNeg) (-1 : Int32)) fun τ61 => (bd (F_X12_told ((gI (sI τ61 125 6 ((gI τ61 125 6) + (1 : Int32))) 125 6) - (1 : Int32)) (sI τ61 125 6 ((gI τ61 125 6) + (1 : Int32)))) fun v69 σ65 => (some (v69, σ65)))) else none) else none)))
def F_X12_entry (x1 : Int32) (x2 : Int32) (x3 : Int32) (x4 : Int32) (x5 : Int32) (x6 : Int32) (x7 : Int32) (σ : AH) : Option (Int32 × AH) := (bd (F_X12_isCouncil x1 (sI σ 124 0 (0 : Int32))) fun v6 σ2 => (if v6 = 0 then (F_X12_entry_77 σ2) else (bd (F_X12_isWeek x2 σ2) fun v12 σ8 => (if v12 = 0 then (F_X12_entry_77 σ8) else (bd (F_X12_in (x3).toInt64 (1 : Int64) (20 : Int64) σ8) fun v18 σ14 => (if v18 = 0 then (F_X12_entry_77 σ14) else (bd (F_X12_in (x4).toInt64 (0 : Int64) ((x3).toInt64 - (1 : Int64)) σ14) fun v24 σ20 => (if v24 = 0 then (F_X12_entry_77 σ20) else (bd (F_X12_in (x5).toInt64 (0 : Int64) (9 : Int64) σ20) fun v30 σ26 => (if v30 = 0 then (F_X12_entry_77 σ26) else (bd (F_X12_in (x6).toInt64 (0 : Int64) (1 : Int64) σ26) fun v36 σ32 => (if v36 = 0 then (F_X12_entry_77 σ32) else (bd (F_X12_isWeek x7 σ32) fun v42 σ38 => (if v42 = 0 then (F_X12_entry_77 σ38) else (if (gI σ38 125 6) = (60 : Int32) then (F_X12_entry_95 σ38) else (F_X12_entry_102 x1 x2 x3 x4 x5 x6 x7 σ38))))))))))))))))
set_option maxRecDepth 100000 in
theorem t_X12_entry_77 {X : Sx} {l : Launch} {D : Nat} {σ : AH} {v : Int32} {σ' : AH} (hD : 2 ≤ D) (hs : Sh σ) (h : F_X12_entry_77 σ = some (v, σ')) : W_X12_entry_77 X l D σ (some (.int v)) σ' := by
  unfold F_X12_entry_77 at h
  unfold W_X12_entry_77
  obtain ⟨v48, σ44, q1, h⟩ := of_bd h
  have hC2 := f_X12_told (σ := σ) hs  q1 (X := X) (l := l)
  have hs3 := hC2.1.2.2.2.1 hs
  refine ⟨0, v48, σ44, (Nat.le_trans (by decide) hD), hC2, ?_⟩
  exact ret_i h
set_option maxRecDepth 100000 in
theorem t_X12_entry_95 {X : Sx} {l : Launch} {D : Nat} {σ : AH} {v : Int32} {σ' : AH} (hD : 2 ≤ D) (hs : Sh σ) (h : F_X12_entry_95 σ = some (v, σ')) : W_X12_entry_95 X l D σ (some (.int v)) σ' := by
  unfold F_X12_entry_95 at h
  unfold W_X12_entry_95
  obtain ⟨v75, σ71, q1, h⟩ := of_bd h
  have hC2 := f_X12_told (σ := σ) hs  q1 (X := X) (l := l)
  have hs3 := hC2.1.2.2.2.1 hs
  refine ⟨0, v75, σ71, (Nat.le_trans (by decide) hD), hC2, ?_⟩
  exact ret_i h
set_option maxRecDepth 100000 in
theorem t_X12_entry_102 {X : Sx} {l : Launch} {D : Nat} {x1 : Int32} {x2 : Int32} {x3 : Int32} {x4 : Int32} {x5 : Int32} {x6 : Int32} {x7 : Int32} {σ : AH} {v : Int32} {σ' : AH} (hD : 2 ≤ D) (hs : Sh σ) (h : F_X12_entry_102 x1 x2 x3 x4 x5 x6 x7 σ = some (v, σ')) : W_X12_entry_102 X l D x1 x2 x3 x4 x5 x6 x7 σ (some (.int v)) σ' := by
  unfold F_X12_entry_102 at h
  unfold W_X12_entry_102
  obtain ⟨σ50, q1, h⟩ := of_bv h
  have hC2 := f_X12_addFour (σ := σ) hs  q1 (X := X) (l := l)
  have hs3 := hC2.1.2.2.2.1 hs
  refine ⟨0, σ50, (Nat.le_trans (by decide) hD), hC2, ?_⟩
  obtain ⟨σ55, q4, h⟩ := of_bv h
  have hC5 := f_X12_addFour (σ := σ50) hs3  q4 (X := X) (l := l)
  have hs6 := hC5.1.2.2.2.1 hs3
  refine ⟨0, σ55, (Nat.le_trans (by decide) hD), hC5, ?_⟩
  obtain ⟨g7, h⟩ := of_gd h
  refine ⟨(inB_mp g7), ?_⟩
  obtain ⟨g8, h⟩ := of_gd h
  refine ⟨(inB_mp g8), ?_⟩
  intro τ61 e9
  replace h := of_lt h e9
  have hs10 : Sh τ61 := by rw [e9]; exact hs6
  obtain ⟨v69, σ65, q11, h⟩ := of_bd h
  have hC12 := f_X12_told (σ := (sI τ61 125 6 ((gI τ61 125 6) + (1 : Int32)))) hs10  q11 (X := X) (l := l)
  have hs13 := hC12.1.2.2.2.1 hs10
  refine ⟨0, v69, σ65, (Nat.le_trans (by decide) hD), hC12, ?_⟩
  exact ret_i h
set_option maxRecDepth 100000 in
theorem t_X12_entry_0 {X : Sx} {l : Launch} {D : Nat} {x1 : Int32} {x2 : Int32} {x3 : Int32} {x4 : Int32} {x5 : Int32} {x6 : Int32} {x7 : Int32} {σ : AH} {v : Int32} {σ' : AH} (hD : 2 ≤ D) (hs : Sh σ) (h : F_X12_entry x1 x2 x3 x4 x5 x6 x7 σ = some (v, σ')) : W_X12_entry_0 X l D x1 x2 x3 x4 x5 x6 x7 σ (some (.int v)) σ' := by
  unfold F_X12_entry at h
  unfold W_X12_entry_0
  obtain ⟨v6, σ2, q1, h⟩ := of_bd h
  have hC2 := f_X12_isCouncil (σ := (sI σ 124 0 (0 : Int32))) hs  q1 (X := X) (l := l)
  have hs3 := hC2.1.2.2.2.1 hs
  refine ⟨1, v6, σ2, (Nat.le_trans (by decide) hD), hC2, ?_⟩
  refine ite_i (fun c4 => ?_) (fun c4 => ?_)
  · replace h := of_ifp h c4
    exact t_X12_entry_77 hD  hs3  h
  · replace h := of_ifn h c4
    obtain ⟨v12, σ8, q5, h⟩ := of_bd h
    have hC6 := f_X12_isWeek (σ := σ2) hs3  q5 (X := X) (l := l)
    have hs7 := hC6.1.2.2.2.1 hs3
    refine ⟨1, v12, σ8, (Nat.le_trans (by decide) hD), hC6, ?_⟩
    refine ite_i (fun c8 => ?_) (fun c8 => ?_)
    · replace h := of_ifp h c8
      exact t_X12_entry_77 hD  hs7  h
    · replace h := of_ifn h c8
      obtain ⟨v18, σ14, q9, h⟩ := of_bd h
      have hC10 := f_X12_in (σ := σ8) hs7  q9 (X := X) (l := l)
      have hs11 := hC10.1.2.2.2.1 hs7
      refine ⟨0, v18, σ14, (Nat.le_trans (by decide) hD), hC10, ?_⟩
      refine ite_i (fun c12 => ?_) (fun c12 => ?_)
      · replace h := of_ifp h c12
        exact t_X12_entry_77 hD  hs11  h
      · replace h := of_ifn h c12
        obtain ⟨v24, σ20, q13, h⟩ := of_bd h
        have hC14 := f_X12_in (σ := σ14) hs11  q13 (X := X) (l := l)
        have hs15 := hC14.1.2.2.2.1 hs11
        refine ⟨0, v24, σ20, (Nat.le_trans (by decide) hD), hC14, ?_⟩
        refine ite_i (fun c16 => ?_) (fun c16 => ?_)
        · replace h := of_ifp h c16
          exact t_X12_entry_77 hD  hs15  h
        · replace h := of_ifn h c16
          obtain ⟨v30, σ26, q17, h⟩ := of_bd h
          have hC18 := f_X12_in (σ := σ20) hs15  q17 (X := X) (l := l)
          have hs19 := hC18.1.2.2.2.1 hs15
          refine ⟨0, v30, σ26, (Nat.le_trans (by decide) hD), hC18, ?_⟩
          refine ite_i (fun c20 => ?_) (fun c20 => ?_)
          · replace h := of_ifp h c20
            exact t_X12_entry_77 hD  hs19  h
          · replace h := of_ifn h c20
            obtain ⟨v36, σ32, q21, h⟩ := of_bd h
            have hC22 := f_X12_in (σ := σ26) hs19  q21 (X := X) (l := l)
            have hs23 := hC22.1.2.2.2.1 hs19
            refine ⟨0, v36, σ32, (Nat.le_trans (by decide) hD), hC22, ?_⟩
            refine ite_i (fun c24 => ?_) (fun c24 => ?_)
            · replace h := of_ifp h c24
              exact t_X12_entry_77 hD  hs23  h
            · replace h := of_ifn h c24
              obtain ⟨v42, σ38, q25, h⟩ := of_bd h
              have hC26 := f_X12_isWeek (σ := σ32) hs23  q25 (X := X) (l := l)
              have hs27 := hC26.1.2.2.2.1 hs23
              refine ⟨1, v42, σ38, (Nat.le_trans (by decide) hD), hC26, ?_⟩
              refine ite_i (fun c28 => ?_) (fun c28 => ?_)
              · replace h := of_ifp h c28
                exact t_X12_entry_77 hD  hs27  h
              · replace h := of_ifn h c28
                refine ite_i (fun c29 => ?_) (fun c29 => ?_)
                · replace h := of_ifp h c29
                  exact t_X12_entry_95 hD  hs27  h
                · replace h := of_ifn h c29
                  exact t_X12_entry_102 hD  hs27  h
theorem f_X12_entry {X : Sx} {l : Launch} {x1 : Int32} {x2 : Int32} {x3 : Int32} {x4 : Int32} {x5 : Int32} {x6 : Int32} {x7 : Int32} {σ : AH} {v : Int32} {σ' : AH} (hs : Sh σ) (h : F_X12_entry x1 x2 x3 x4 x5 x6 x7 σ = some (v, σ')) : Call X l m_X12_entry 2 [.ref 124, .int x1, .int x2, .int x3, .int x4, .int x5, .int x6, .int x7] σ (some (.int v)) σ' :=
  Call.ofE ok_X12_entry rfl (Nat.le_of_ble_eq_true rfl) (w_X12_entry_0 hs  (t_X12_entry_0 (Nat.le_refl _) hs  h))
def F_X12_isEntry (x1 : Int32) (σ : AH) : Option (Int32 × AH) := (bd (F_X12_in (x1).toInt64 (0 : Int64) (((gI σ 125 6)).toInt64 - (1 : Int64)) σ) fun v6 σ2 => (if v6 = 0 ∨ v6 = 1 then some (v6, σ2) else none))
set_option maxRecDepth 100000 in
theorem t_X12_isEntry_0 {X : Sx} {l : Launch} {D : Nat} {x1 : Int32} {σ : AH} {v : Int32} {σ' : AH} (hD : 1 ≤ D) (hs : Sh σ) (h : F_X12_isEntry x1 σ = some (v, σ')) : W_X12_isEntry_0 X l D x1 σ (some (.int v)) σ' := by
  unfold F_X12_isEntry at h
  unfold W_X12_isEntry_0
  obtain ⟨v6, σ2, q1, h⟩ := of_bd h
  have hC2 := f_X12_in (σ := σ) hs  q1 (X := X) (l := l)
  have hs3 := hC2.1.2.2.2.1 hs
  refine ⟨0, v6, σ2, (Nat.le_trans (by decide) hD), hC2, ?_⟩
  exact ⟨(of_gd h).1, ret_i (of_gd h).2⟩
theorem f_X12_isEntry {X : Sx} {l : Launch} {x1 : Int32} {σ : AH} {v : Int32} {σ' : AH} (hs : Sh σ) (h : F_X12_isEntry x1 σ = some (v, σ')) : Call X l m_X12_isEntry 1 [.ref 124, .int x1] σ (some (.int v)) σ' :=
  Call.ofE ok_X12_isEntry rfl (Nat.le_of_ble_eq_true rfl) (w_X12_isEntry_0 hs  (t_X12_isEntry_0 (Nat.le_refl _) hs  h))
def F_X12_entryAt (x1 : Int32) (x2 : Int32) (σ : AH) : Option (Int32 × AH) := (if inB (((23832 : Int32) + ((10 : Int32) * x1)) + x2) 269832 = true then (some ((gI σ 125 (((23832 : Int32) + ((10 : Int32) * x1)) + x2).toNatClampNeg), σ)) else none)
set_option maxRecDepth 100000 in
theorem t_X12_entryAt_0 {X : Sx} {l : Launch} {D : Nat} {x1 : Int32} {x2 : Int32} {σ : AH} {v : Int32} {σ' : AH} (hD : 0 ≤ D) (hs : Sh σ) (h : F_X12_entryAt x1 x2 σ = some (v, σ')) : W_X12_entryAt_0 X l D x1 x2 σ (some (.int v)) σ' := by
  unfold F_X12_entryAt at h
  unfold W_X12_entryAt_0
  obtain ⟨g1, h⟩ := of_gd h
  refine ⟨(inB_mp g1), ?_⟩
  exact ret_i h
theorem f_X12_entryAt {X : Sx} {l : Launch} {x1 : Int32} {x2 : Int32} {σ : AH} {v : Int32} {σ' : AH} (hs : Sh σ) (h : F_X12_entryAt x1 x2 σ = some (v, σ')) : Call X l m_X12_entryAt 0 [.ref 124, .int x1, .int x2] σ (some (.int v)) σ' :=
  Call.ofE ok_X12_entryAt rfl (Nat.le_of_ble_eq_true rfl) (w_X12_entryAt_0 hs  (t_X12_entryAt_0 (Nat.le_refl _) hs  h))
def F_X12_mark_29 (σ : AH) : Option (Int32 × AH) := (bd (F_X12_told (-1 : Int32) σ) fun v49 σ45 => (some (v49, σ45)))
def F_X12_mark (x1 : Int32) (x2 : Int32) (x3 : Int32) (σ : AH) : Option (Int32 × AH) := (bd (F_X12_in (x2).toInt64 (0 : Int64) (2 : Int64) (sI σ 124 0 (0 : Int32))) fun v6 σ2 => (if v6 = 0 then (F_X12_mark_29 σ2) else (bd (F_X12_in (x3).toInt64 (0 : Int64) (9999 : Int64) σ2) fun v12 σ8 => (if v12 = 0 then (F_X12_mark_29 σ8) else (bd (F_X12_isEntry x1 σ8) fun v18 σ14 => (if v18 = 0 then (bd (F_X12_told (-2 : Int32) σ14) fun v43 σ39 => (some (v43, σ39))) else (bd (F_X12_entryAt x1 ((7 : Int32) + x2) σ14) fun v24 σ20 => (if v24 = (-1 : Int32) then (if inB ((((23832 : Int32) + ((10 : Int32) * x1)) + (7 : Int32)) + x2) 269832 = true then (bd (F_X12_told (0 : Int32) (sI σ20 125 (((((23832 : Int32) + ((10 : Int32) * x1)) + (7 : Int32)) + x2).toNatClampNeg) x3)) fun v31 σ27 => (some (v31, σ27))) else none) else (bd (F_X12_told (-4 : Int32) σ20) fun v37 σ33 => (some (v37, σ33)))))))))))
set_option maxRecDepth 100000 in
theorem t_X12_mark_29 {X : Sx} {l : Launch} {D : Nat} {σ : AH} {v : Int32} {σ' : AH} (hD : 2 ≤ D) (hs : Sh σ) (h : F_X12_mark_29 σ = some (v, σ')) : W_X12_mark_29 X l D σ (some (.int v)) σ' := by
  unfold F_X12_mark_29 at h
  unfold W_X12_mark_29
  obtain ⟨v49, σ45, q1, h⟩ := of_bd h
  have hC2 := f_X12_told (σ := σ) hs  q1 (X := X) (l := l)
  have hs3 := hC2.1.2.2.2.1 hs
  refine ⟨0, v49, σ45, (Nat.le_trans (by decide) hD), hC2, ?_⟩
  exact ret_i h
set_option maxRecDepth 100000 in
theorem t_X12_mark_0 {X : Sx} {l : Launch} {D : Nat} {x1 : Int32} {x2 : Int32} {x3 : Int32} {σ : AH} {v : Int32} {σ' : AH} (hD : 2 ≤ D) (hs : Sh σ) (h : F_X12_mark x1 x2 x3 σ = some (v, σ')) : W_X12_mark_0 X l D x1 x2 x3 σ (some (.int v)) σ' := by
  unfold F_X12_mark at h
  unfold W_X12_mark_0
  obtain ⟨v6, σ2, q1, h⟩ := of_bd h
  have hC2 := f_X12_in (σ := (sI σ 124 0 (0 : Int32))) hs  q1 (X := X) (l := l)
  have hs3 := hC2.1.2.2.2.1 hs
  refine ⟨0, v6, σ2, (Nat.le_trans (by decide) hD), hC2, ?_⟩
  refine ite_i (fun c4 => ?_) (fun c4 => ?_)
  · replace h := of_ifp h c4
    exact t_X12_mark_29 hD  hs3  h
  · replace h := of_ifn h c4
    obtain ⟨v12, σ8, q5, h⟩ := of_bd h
    have hC6 := f_X12_in (σ := σ2) hs3  q5 (X := X) (l := l)
    have hs7 := hC6.1.2.2.2.1 hs3
    refine ⟨0, v12, σ8, (Nat.le_trans (by decide) hD), hC6, ?_⟩
    refine ite_i (fun c8 => ?_) (fun c8 => ?_)
    · replace h := of_ifp h c8
      exact t_X12_mark_29 hD  hs7  h
    · replace h := of_ifn h c8
      obtain ⟨v18, σ14, q9, h⟩ := of_bd h
      have hC10 := f_X12_isEntry (σ := σ8) hs7  q9 (X := X) (l := l)
      have hs11 := hC10.1.2.2.2.1 hs7
      refine ⟨1, v18, σ14, (Nat.le_trans (by decide) hD), hC10, ?_⟩
      refine ite_i (fun c12 => ?_) (fun c12 => ?_)
      · replace h := of_ifp h c12
        obtain ⟨v43, σ39, q13, h⟩ := of_bd h
        have hC14 := f_X12_told (σ := σ14) hs11  q13 (X := X) (l := l)
        have hs15 := hC14.1.2.2.2.1 hs11
        refine ⟨0, v43, σ39, (Nat.le_trans (by decide) hD), hC14, ?_⟩
        exact ret_i h
      · replace h := of_ifn h c12
        obtain ⟨v24, σ20, q16, h⟩ := of_bd h
        have hC17 := f_X12_entryAt (σ := σ14) hs11  q16 (X := X) (l := l)
        have hs18 := hC17.1.2.2.2.1 hs11
        refine ⟨0, v24, σ20, (Nat.le_trans (by decide) hD), hC17, ?_⟩
        refine ite_i (fun c19 => ?_) (fun c19 => ?_)
        · replace h := of_ifp h c19
          obtain ⟨g20, h⟩ := of_gd h
          refine ⟨(inB_mp g20), ?_⟩
          obtain ⟨v31, σ27, q21, h⟩ := of_bd h
          have hC22 := f_X12_told (σ := (sI σ20 125 (((((23832 : Int32) + ((10 : Int32) * x1)) + (7 : Int32)) + x2).toNatClampNeg) x3)) hs18  q21 (X := X) (l := l)
          have hs23 := hC22.1.2.2.2.1 hs18
          refine ⟨0, v31, σ27, (Nat.le_trans (by decide) hD), hC22, ?_⟩
          exact ret_i h
        · replace h := of_ifn h c19
          obtain ⟨v37, σ33, q24, h⟩ := of_bd h
          have hC25 := f_X12_told (σ := σ20) hs18  q24 (X := X) (l := l)
          have hs26 := hC25.1.2.2.2.1 hs18
          refine ⟨0, v37, σ33, (Nat.le_trans (by decide) hD), hC25, ?_⟩
          exact ret_i h
theorem f_X12_mark {X : Sx} {l : Launch} {x1 : Int32} {x2 : Int32} {x3 : Int32} {σ : AH} {v : Int32} {σ' : AH} (hs : Sh σ) (h : F_X12_mark x1 x2 x3 σ = some (v, σ')) : Call X l m_X12_mark 2 [.ref 124, .int x1, .int x2, .int x3] σ (some (.int v)) σ' :=
  Call.ofE ok_X12_mark rfl (Nat.le_of_ble_eq_true rfl) (w_X12_mark_0 hs  (t_X12_mark_0 (Nat.le_refl _) hs  h))
def F_X12_areOne_90 (k_X12_areOne_9 : Int32 → Int32 → Int32 → Int32 → Int32 → AH → Option (Int32 × AH)) (x1 : Int32) (x2 : Int32) (x3 : Int32) (x4 : Int32) (x5 : Int32) (σ : AH) : Option (Int32 × AH) := (k_X12_areOne_9 x1 x2 x3 x4 (x5 + 1) σ)
def F_X12_areOne_87 (k_X12_areOne_9 : Int32 → Int32 → Int32 → Int32 → Int32 → AH → Option (Int32 × AH)) (x1 : Int32) (x2 : Int32) (x3 : Int32) (x5 : Int32) (y0 : Int32) (y1 : Int32) (σ : AH) : Option (Int32 × AH) := (F_X12_areOne_90 k_X12_areOne_9 x1 x2 x3 (y1 + y0) x5 σ)
def F_X12_areOne_61 (k_X12_areOne_9 : Int32 → Int32 → Int32 → Int32 → Int32 → AH → Option (Int32 × AH)) (x1 : Int32) (x2 : Int32) (x4 : Int32) (x5 : Int32) (y0 : Int32) (y1 : Int32) (σ : AH) : Option (Int32 × AH) := (bd (F_X12_entryAt x1 x5 σ) fun v30 σ26 => (bd (F_X12_entryAt x2 x5 σ26) fun v36 σ32 => (if v30 = v36 then (F_X12_areOne_87 k_X12_areOne_9 x1 x2 (y1 + y0) x5 (0 : Int32) x4 σ32) else (F_X12_areOne_87 k_X12_areOne_9 x1 x2 (y1 + y0) x5 (1 : Int32) x4 σ32))))
def B_X12_areOne_9 (k_X12_areOne_9 : Int32 → Int32 → Int32 → Int32 → Int32 → AH → Option (Int32 × AH)) (x1 : Int32) (x2 : Int32) (x3 : Int32) (x4 : Int32) (x5 : Int32) (σ : AH) : Option (Int32 × AH) := (if (10 : Int32) ≤ x5 then (if x3 < (2 : Int32) then (some ((0 : Int32), σ)) else (if x4 = 0 then (some ((1 : Int32), σ)) else (some ((0 : Int32), σ)))) else (bd (F_X12_entryAt x1 x5 σ) fun v6 σ2 => (if v6 = (-1 : Int32) then (F_X12_areOne_90 k_X12_areOne_9 x1 x2 x3 x4 x5 σ2) else (bd (F_X12_entryAt x2 x5 σ2) fun v12 σ8 => (if v12 = (-1 : Int32) then (F_X12_areOne_90 k_X12_areOne_9 x1 x2 x3 x4 x5 σ8) else (bd (F_X12_entryAt x1 x5 σ8) fun v18 σ14 => (bd (F_X12_entryAt x2 x5 σ14) fun v24 σ20 => (if v18 = v24 then (F_X12_areOne_61 k_X12_areOne_9 x1 x2 x4 x5 (1 : Int32) x3 σ20) else (F_X12_areOne_61 k_X12_areOne_9 x1 x2 x4 x5 (0 : Int32) x3 σ20)))))))))
def F_X12_areOne_9 : Nat → Int32 → Int32 → Int32 → Int32 → Int32 → AH → Option (Int32 × AH) := fun k => match k with | 0 => fun _ _ _ _ _ _ => none | k + 1 => B_X12_areOne_9 (F_X12_areOne_9 k)
def F_X12_areOne (x1 : Int32) (x2 : Int32) (σ : AH) : Option (Int32 × AH) := (F_X12_areOne_9 BIG x1 x2 (0 : Int32) (0 : Int32) (7 : Int32) σ)
set_option maxRecDepth 100000 in
theorem t_X12_areOne_90 {X : Sx} {l : Launch} {D : Nat} {k_X12_areOne_9 : Int32 → Int32 → Int32 → Int32 → Int32 → AH → Option (Int32 × AH)} {x1 : Int32} {x2 : Int32} {x3 : Int32} {x4 : Int32} {x5 : Int32} {σ : AH} {v : Int32} {σ' : AH} (hD : 1 ≤ D) (hk_X12_areOne_9 : ∀ (x1 : Int32) (x2 : Int32) (x3 : Int32) (x4 : Int32) (x5 : Int32) (σ : AH) (v : Int32) (σ' : AH), Sh σ → k_X12_areOne_9 x1 x2 x3 x4 x5 σ = some (v, σ') → E X l m_X12_areOne D 9 [(0, .ref 124), (1, .int x1), (2, .int x2), (3, .int x3), (4, .int x4), (5, .int x5)] [] σ (some (.int v)) σ') (hs : Sh σ) (h : F_X12_areOne_90 k_X12_areOne_9 x1 x2 x3 x4 x5 σ = some (v, σ')) : W_X12_areOne_90 X l D x1 x2 x3 x4 x5 σ (some (.int v)) σ' := by
  unfold F_X12_areOne_90 at h
  unfold W_X12_areOne_90
  exact hk_X12_areOne_9 _ _ _ _ _ _ _ _ hs  h
set_option maxRecDepth 100000 in
theorem t_X12_areOne_87 {X : Sx} {l : Launch} {D : Nat} {k_X12_areOne_9 : Int32 → Int32 → Int32 → Int32 → Int32 → AH → Option (Int32 × AH)} {x1 : Int32} {x2 : Int32} {x3 : Int32} {x5 : Int32} {y0 : Int32} {y1 : Int32} {σ : AH} {v : Int32} {σ' : AH} (hD : 1 ≤ D) (hk_X12_areOne_9 : ∀ (x1 : Int32) (x2 : Int32) (x3 : Int32) (x4 : Int32) (x5 : Int32) (σ : AH) (v : Int32) (σ' : AH), Sh σ → k_X12_areOne_9 x1 x2 x3 x4 x5 σ = some (v, σ') → E X l m_X12_areOne D 9 [(0, .ref 124), (1, .int x1), (2, .int x2), (3, .int x3), (4, .int x4), (5, .int x5)] [] σ (some (.int v)) σ') (hs : Sh σ) (h : F_X12_areOne_87 k_X12_areOne_9 x1 x2 x3 x5 y0 y1 σ = some (v, σ')) : W_X12_areOne_87 X l D x1 x2 x3 x5 y0 y1 σ (some (.int v)) σ' := by
  unfold F_X12_areOne_87 at h
  unfold W_X12_areOne_87
  exact t_X12_areOne_90 hD hk_X12_areOne_9 hs  h
set_option maxRecDepth 100000 in
theorem t_X12_areOne_61 {X : Sx} {l : Launch} {D : Nat} {k_X12_areOne_9 : Int32 → Int32 → Int32 → Int32 → Int32 → AH → Option (Int32 × AH)} {x1 : Int32} {x2 : Int32} {x4 : Int32} {x5 : Int32} {y0 : Int32} {y1 : Int32} {σ : AH} {v : Int32} {σ' : AH} (hD : 1 ≤ D) (hk_X12_areOne_9 : ∀ (x1 : Int32) (x2 : Int32) (x3 : Int32) (x4 : Int32) (x5 : Int32) (σ : AH) (v : Int32) (σ' : AH), Sh σ → k_X12_areOne_9 x1 x2 x3 x4 x5 σ = some (v, σ') → E X l m_X12_areOne D 9 [(0, .ref 124), (1, .int x1), (2, .int x2), (3, .int x3), (4, .int x4), (5, .int x5)] [] σ (some (.int v)) σ') (hs : Sh σ) (h : F_X12_areOne_61 k_X12_areOne_9 x1 x2 x4 x5 y0 y1 σ = some (v, σ')) : W_X12_areOne_61 X l D x1 x2 x4 x5 y0 y1 σ (some (.int v)) σ' := by
  unfold F_X12_areOne_61 at h
  unfold W_X12_areOne_61
  obtain ⟨v30, σ26, q1, h⟩ := of_bd h
  have hC2 := f_X12_entryAt (σ := σ) hs  q1 (X := X) (l := l)
  have hs3 := hC2.1.2.2.2.1 hs
  refine ⟨0, v30, σ26, (Nat.le_trans (by decide) hD), hC2, ?_⟩
  obtain ⟨v36, σ32, q4, h⟩ := of_bd h
  have hC5 := f_X12_entryAt (σ := σ26) hs3  q4 (X := X) (l := l)
  have hs6 := hC5.1.2.2.2.1 hs3
  refine ⟨0, v36, σ32, (Nat.le_trans (by decide) hD), hC5, ?_⟩
  refine ite_i (fun c7 => ?_) (fun c7 => ?_)
  · replace h := of_ifp h c7
    exact t_X12_areOne_87 hD hk_X12_areOne_9 hs6  h
  · replace h := of_ifn h c7
    exact t_X12_areOne_87 hD hk_X12_areOne_9 hs6  h
set_option maxRecDepth 100000 in
theorem t_X12_areOne_9 {X : Sx} {l : Launch} {D : Nat} {k_X12_areOne_9 : Int32 → Int32 → Int32 → Int32 → Int32 → AH → Option (Int32 × AH)} {x1 : Int32} {x2 : Int32} {x3 : Int32} {x4 : Int32} {x5 : Int32} {σ : AH} {v : Int32} {σ' : AH} (hD : 1 ≤ D) (hk_X12_areOne_9 : ∀ (x1 : Int32) (x2 : Int32) (x3 : Int32) (x4 : Int32) (x5 : Int32) (σ : AH) (v : Int32) (σ' : AH), Sh σ → k_X12_areOne_9 x1 x2 x3 x4 x5 σ = some (v, σ') → E X l m_X12_areOne D 9 [(0, .ref 124), (1, .int x1), (2, .int x2), (3, .int x3), (4, .int x4), (5, .int x5)] [] σ (some (.int v)) σ') (hs : Sh σ) (h : B_X12_areOne_9 k_X12_areOne_9 x1 x2 x3 x4 x5 σ = some (v, σ')) : W_X12_areOne_9 X l D x1 x2 x3 x4 x5 σ (some (.int v)) σ' := by
  unfold B_X12_areOne_9 at h
  unfold W_X12_areOne_9
  refine ite_i (fun c1 => ?_) (fun c1 => ?_)
  · replace h := of_ifp h c1
    refine ite_i (fun c2 => ?_) (fun c2 => ?_)
    · replace h := of_ifp h c2
      exact ret_i h
    · replace h := of_ifn h c2
      refine ite_i (fun c3 => ?_) (fun c3 => ?_)
      · replace h := of_ifp h c3
        exact ret_i h
      · replace h := of_ifn h c3
        exact ret_i h
  · replace h := of_ifn h c1
    obtain ⟨v6, σ2, q4, h⟩ := of_bd h
    have hC5 := f_X12_entryAt (σ := σ) hs  q4 (X := X) (l := l)
    have hs6 := hC5.1.2.2.2.1 hs
    refine ⟨0, v6, σ2, (Nat.le_trans (by decide) hD), hC5, ?_⟩
    refine ite_i (fun c7 => ?_) (fun c7 => ?_)
    · replace h := of_ifp h c7
      exact t_X12_areOne_90 hD hk_X12_areOne_9 hs6  h
    · replace h := of_ifn h c7
      obtain ⟨v12, σ8, q8, h⟩ := of_bd h
      have hC9 := f_X12_entryAt (σ := σ2) hs6  q8 (X := X) (l := l)
      have hs10 := hC9.1.2.2.2.1 hs6
      refine ⟨0, v12, σ8, (Nat.le_trans (by decide) hD), hC9, ?_⟩
      refine ite_i (fun c11 => ?_) (fun c11 => ?_)
      · replace h := of_ifp h c11
        exact t_X12_areOne_90 hD hk_X12_areOne_9 hs10  h
      · replace h := of_ifn h c11
        obtain ⟨v18, σ14, q12, h⟩ := of_bd h
        have hC13 := f_X12_entryAt (σ := σ8) hs10  q12 (X := X) (l := l)
        have hs14 := hC13.1.2.2.2.1 hs10
        refine ⟨0, v18, σ14, (Nat.le_trans (by decide) hD), hC13, ?_⟩
        obtain ⟨v24, σ20, q15, h⟩ := of_bd h
        have hC16 := f_X12_entryAt (σ := σ14) hs14  q15 (X := X) (l := l)
        have hs17 := hC16.1.2.2.2.1 hs14
        refine ⟨0, v24, σ20, (Nat.le_trans (by decide) hD), hC16, ?_⟩
        refine ite_i (fun c18 => ?_) (fun c18 => ?_)
        · replace h := of_ifp h c18
          exact t_X12_areOne_61 hD hk_X12_areOne_9 hs17  h
        · replace h := of_ifn h c18
          exact t_X12_areOne_61 hD hk_X12_areOne_9 hs17  h
theorem e_X12_areOne_9 {X : Sx} {l : Launch} {D : Nat} (hD : 1 ≤ D) : ∀ (k : Nat) (x1 : Int32) (x2 : Int32) (x3 : Int32) (x4 : Int32) (x5 : Int32) (σ : AH) (v : Int32) (σ' : AH), Sh σ → F_X12_areOne_9 k x1 x2 x3 x4 x5 σ = some (v, σ') → E X l m_X12_areOne D 9 [(0, .ref 124), (1, .int x1), (2, .int x2), (3, .int x3), (4, .int x4), (5, .int x5)] [] σ (some (.int v)) σ' := by
  intro k
  induction k with
  | zero => intro x1 x2 x3 x4 x5 σ v σ' hs h; cases h
  | succ k ih =>
    intro x1 x2 x3 x4 x5 σ v σ' hs h
    exact w_X12_areOne_9 hs  (t_X12_areOne_9 hD ih hs  h)
set_option maxRecDepth 100000 in
theorem t_X12_areOne_0 {X : Sx} {l : Launch} {D : Nat} {x1 : Int32} {x2 : Int32} {σ : AH} {v : Int32} {σ' : AH} (hD : 1 ≤ D) (hs : Sh σ) (h : F_X12_areOne x1 x2 σ = some (v, σ')) : W_X12_areOne_0 X l D x1 x2 σ (some (.int v)) σ' := by
  unfold F_X12_areOne at h
  unfold W_X12_areOne_0
  exact e_X12_areOne_9 hD  _ _ _ _ _ _ _ _ _ hs  h
theorem f_X12_areOne {X : Sx} {l : Launch} {x1 : Int32} {x2 : Int32} {σ : AH} {v : Int32} {σ' : AH} (hs : Sh σ) (h : F_X12_areOne x1 x2 σ = some (v, σ')) : Call X l m_X12_areOne 1 [.ref 124, .int x1, .int x2] σ (some (.int v)) σ' :=
  Call.ofE ok_X12_areOne rfl (Nat.le_of_ble_eq_true rfl) (w_X12_areOne_0 hs  (t_X12_areOne_0 (Nat.le_refl _) hs  h))
end
