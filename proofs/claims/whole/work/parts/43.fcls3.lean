section
def F_X11_rent_126 (σ : AH) : Option (Int32 × AH) := (bd (F_X3_total (58 : Int32) σ) fun v76 σ72 => (some (((lmax (0 : Int64) (lmin (1000000000 : Int64) v76))).toInt32, σ72)))
def F_X11_rent (x1 : Int32) (x2 : Int32) (x3 : Int32) (σ : AH) : Option (Int32 × AH) := (bd (F_X11_isPlot x1 σ) fun v6 σ2 => (if v6 = 0 then (some ((-1 : Int32), σ2)) else (bd (F_X11_isWeek x2 σ2) fun v12 σ8 => (if v12 = 0 then (some ((-1 : Int32), σ8)) else (bd (F_X11_isWeek x3 σ8) fun v18 σ14 => (if v18 = 0 then (some ((-1 : Int32), σ14)) else (bd (F_X11_runFor x3 (0 : Int32) σ14) fun b24 σ20 => if b24 ∈ runIds then (bd (F_X6_isDoneBy b24 x1 x2 σ20) fun v31 σ27 => (if v31 = 0 then (some ((-1 : Int32), σ27)) else (bd (F_X2_endOf x1 b24 x3 σ27) fun v37 σ33 => (if x2 < v37 then (bd (F_X2_livedStay x1 x2 σ33) fun v43 σ39 => (bv (F_X3_settle x2 x3 σ39) fun σ45 => (bd (F_X8_at 9 x1 (2 : Int32) σ45) fun v54 σ50 => (bv (F_X3_ask v54 x2 σ50) fun σ56 => (if v43 = (-1 : Int32) then (F_X11_rent_126 σ56) else (bd (F_X8_at 17 v43 (1 : Int32) σ56) fun v65 σ61 => (bv (F_X3_askOf v65 (0 : Int32) σ61) fun σ67 => (F_X11_rent_126 σ67)))))))) else (some ((-1 : Int32), σ33)))))) else none)))))))
set_option maxRecDepth 100000 in
theorem t_X11_rent_126 {X : Sx} {l : Launch} {D : Nat} {σ : AH} {v : Int32} {σ' : AH} (hD : 7 ≤ D) (hs : Sh σ) (h : F_X11_rent_126 σ = some (v, σ')) : W_X11_rent_126 X l D σ (some (.int v)) σ' := by
  unfold F_X11_rent_126 at h
  unfold W_X11_rent_126
  obtain ⟨v76, σ72, q1, h⟩ := of_bd h
  have hC2 := f_X3_total (σ := σ) hs  q1 (X := X) (l := l)
  have hs3 := hC2.1.2.2.2.1 hs
  refine ⟨2, v76, σ72, (Nat.le_trans (by decide) hD), hC2, ?_⟩
  refine ⟨Nat.le_trans (by decide) hD, ?_⟩
  refine ⟨Nat.le_trans (by decide) hD, ?_⟩
  exact ret_i h
set_option maxRecDepth 100000 in
theorem t_X11_rent_0 {X : Sx} {l : Launch} {D : Nat} {x1 : Int32} {x2 : Int32} {x3 : Int32} {σ : AH} {v : Int32} {σ' : AH} (hD : 7 ≤ D) (hs : Sh σ) (h : F_X11_rent x1 x2 x3 σ = some (v, σ')) : W_X11_rent_0 X l D x1 x2 x3 σ (some (.int v)) σ' := by
  unfold F_X11_rent at h
  unfold W_X11_rent_0
  obtain ⟨v6, σ2, q1, h⟩ := of_bd h
  have hC2 := f_X11_isPlot (σ := σ) hs  q1 (X := X) (l := l)
  have hs3 := hC2.1.2.2.2.1 hs
  refine ⟨1, v6, σ2, (Nat.le_trans (by decide) hD), hC2, ?_⟩
  refine ite_i (fun c4 => ?_) (fun c4 => ?_)
  · replace h := of_ifp h c4
    exact ret_i h
  · replace h := of_ifn h c4
    obtain ⟨v12, σ8, q5, h⟩ := of_bd h
    have hC6 := f_X11_isWeek (σ := σ2) hs3  q5 (X := X) (l := l)
    have hs7 := hC6.1.2.2.2.1 hs3
    refine ⟨1, v12, σ8, (Nat.le_trans (by decide) hD), hC6, ?_⟩
    refine ite_i (fun c8 => ?_) (fun c8 => ?_)
    · replace h := of_ifp h c8
      exact ret_i h
    · replace h := of_ifn h c8
      obtain ⟨v18, σ14, q9, h⟩ := of_bd h
      have hC10 := f_X11_isWeek (σ := σ8) hs7  q9 (X := X) (l := l)
      have hs11 := hC10.1.2.2.2.1 hs7
      refine ⟨1, v18, σ14, (Nat.le_trans (by decide) hD), hC10, ?_⟩
      refine ite_i (fun c12 => ?_) (fun c12 => ?_)
      · replace h := of_ifp h c12
        exact ret_i h
      · replace h := of_ifn h c12
        obtain ⟨b24, σ20, q13, h⟩ := of_bd h
        have hC14 := f_X11_runFor (σ := σ14) hs11  q13 (X := X) (l := l)
        have hs15 := hC14.1.2.2.2.1 hs11
        obtain ⟨g16, h⟩ := of_gd h
        refine ⟨6, b24, σ20, (Nat.le_trans (by decide) hD), hC14, g16, ?_⟩
        obtain ⟨v31, σ27, q17, h⟩ := of_bd h
        have hC18 := f_X6_isDoneBy (σ := σ20) hs15 (by first | assumption | exact st_stock (by assumption) | exact rn_site (by assumption) | decide) q17 (X := X) (l := l)
        have hs19 := hC18.1.2.2.2.1 hs15
        refine ⟨1, v31, σ27, (Nat.le_trans (by decide) hD), hC18, ?_⟩
        refine ite_i (fun c20 => ?_) (fun c20 => ?_)
        · replace h := of_ifp h c20
          exact ret_i h
        · replace h := of_ifn h c20
          obtain ⟨v37, σ33, q21, h⟩ := of_bd h
          have hC22 := f_X2_endOf (σ := σ27) hs19 (by first | assumption | exact st_stock (by assumption) | exact rn_site (by assumption) | decide) q21 (X := X) (l := l)
          have hs23 := hC22.1.2.2.2.1 hs19
          refine ⟨3, v37, σ33, (Nat.le_trans (by decide) hD), hC22, ?_⟩
          refine ite_i (fun c24 => ?_) (fun c24 => ?_)
          · replace h := of_ifp h c24
            obtain ⟨v43, σ39, q25, h⟩ := of_bd h
            have hC26 := f_X2_livedStay (σ := σ33) hs23  q25 (X := X) (l := l)
            have hs27 := hC26.1.2.2.2.1 hs23
            refine ⟨2, v43, σ39, (Nat.le_trans (by decide) hD), hC26, ?_⟩
            obtain ⟨σ45, q28, h⟩ := of_bv h
            have hC29 := f_X3_settle (σ := σ39) hs27  q28 (X := X) (l := l)
            have hs30 := hC29.1.2.2.2.1 hs27
            refine ⟨2, σ45, (Nat.le_trans (by decide) hD), hC29, ?_⟩
            obtain ⟨v54, σ50, q31, h⟩ := of_bd h
            have hC32 := f_X8_at  q31 (X := X) (l := l)
            have hs33 := hC32.1.2.2.2.1 hs30
            refine ⟨0, v54, σ50, (Nat.le_trans (by decide) hD), hC32, ?_⟩
            obtain ⟨σ56, q34, h⟩ := of_bv h
            have hC35 := f_X3_ask (σ := σ50) hs33  q34 (X := X) (l := l)
            have hs36 := hC35.1.2.2.2.1 hs33
            refine ⟨1, σ56, (Nat.le_trans (by decide) hD), hC35, ?_⟩
            refine ite_i (fun c37 => ?_) (fun c37 => ?_)
            · replace h := of_ifp h c37
              exact t_X11_rent_126 hD  hs36  h
            · replace h := of_ifn h c37
              obtain ⟨v65, σ61, q38, h⟩ := of_bd h
              have hC39 := f_X8_at  q38 (X := X) (l := l)
              have hs40 := hC39.1.2.2.2.1 hs36
              refine ⟨0, v65, σ61, (Nat.le_trans (by decide) hD), hC39, ?_⟩
              obtain ⟨σ67, q41, h⟩ := of_bv h
              have hC42 := f_X3_askOf (σ := σ61) hs40  q41 (X := X) (l := l)
              have hs43 := hC42.1.2.2.2.1 hs40
              refine ⟨1, σ67, (Nat.le_trans (by decide) hD), hC42, ?_⟩
              exact t_X11_rent_126 hD  hs43  h
          · replace h := of_ifn h c24
            exact ret_i h
theorem f_X11_rent {X : Sx} {l : Launch} {x1 : Int32} {x2 : Int32} {x3 : Int32} {σ : AH} {v : Int32} {σ' : AH} (hs : Sh σ) (h : F_X11_rent x1 x2 x3 σ = some (v, σ')) : Call X l m_X11_rent 7 [.ref 0, .int x1, .int x2, .int x3] σ (some (.int v)) σ' :=
  Call.ofE ok_X11_rent rfl (Nat.le_of_ble_eq_true rfl) (w_X11_rent_0 hs  (t_X11_rent_0 (Nat.le_refl _) hs  h))
def F_X11_lodge_31 (σ : AH) : Option (Int32 × AH) := (bd (F_X11_answer (-1 : Int32) σ) fun v86 σ82 => (some (v86, σ82)))
def F_X11_lodge (x1 : Int32) (x2 : Int32) (x3 : Int32) (x4 : Int32) (σ : AH) : Option (Int32 × AH) := (bd (F_X11_isIn x2 (1 : Int32) (20 : Int32) σ) fun v6 σ2 => (if v6 = 0 then (F_X11_lodge_31 σ2) else (bd (F_X11_isWeek x3 σ2) fun v12 σ8 => (if v12 = 0 then (F_X11_lodge_31 σ8) else (bd (F_X11_isWeek x4 σ8) fun v18 σ14 => (if v18 = 0 then (F_X11_lodge_31 σ14) else (if x3 ≤ x4 then (bd (F_X11_isPlot x1 σ14) fun v24 σ20 => (if v24 = 0 then (bd (F_X11_answer (-2 : Int32) σ20) fun v80 σ76 => (some (v80, σ76))) else (bd (F_X8_isFull 15 σ20) fun v30 σ26 => (if v30 = 0 then (bd (F_X8_add 15 σ26) fun v36 σ32 => (bv (F_X8_put 15 v36 (0 : Int32) x1 σ32) fun σ38 => (bv (F_X8_put 15 v36 (1 : Int32) x2 σ38) fun σ43 => (bv (F_X8_put 15 v36 (2 : Int32) x3 σ43) fun σ48 => (bv (F_X8_put 15 v36 (3 : Int32) x4 σ48) fun σ53 => (bd (F_X8_rows 15 σ53) fun v62 σ58 => (bd (F_X11_answer v62 σ58) fun v68 σ64 => (some (v68, σ64))))))))) else (bd (F_X11_answer (-5 : Int32) σ26) fun v74 σ70 => (some (v74, σ70))))))) else (F_X11_lodge_31 σ14))))))))
set_option maxRecDepth 100000 in
theorem t_X11_lodge_31 {X : Sx} {l : Launch} {D : Nat} {σ : AH} {v : Int32} {σ' : AH} (hD : 6 ≤ D) (hs : Sh σ) (h : F_X11_lodge_31 σ = some (v, σ')) : W_X11_lodge_31 X l D σ (some (.int v)) σ' := by
  unfold F_X11_lodge_31 at h
  unfold W_X11_lodge_31
  obtain ⟨v86, σ82, q1, h⟩ := of_bd h
  have hC2 := f_X11_answer (σ := σ) hs  q1 (X := X) (l := l)
  have hs3 := hC2.1.2.2.2.1 hs
  refine ⟨1, v86, σ82, (Nat.le_trans (by decide) hD), hC2, ?_⟩
  exact ret_i h
set_option maxRecDepth 100000 in
theorem t_X11_lodge_0 {X : Sx} {l : Launch} {D : Nat} {x1 : Int32} {x2 : Int32} {x3 : Int32} {x4 : Int32} {σ : AH} {v : Int32} {σ' : AH} (hD : 6 ≤ D) (hs : Sh σ) (h : F_X11_lodge x1 x2 x3 x4 σ = some (v, σ')) : W_X11_lodge_0 X l D x1 x2 x3 x4 σ (some (.int v)) σ' := by
  unfold F_X11_lodge at h
  unfold W_X11_lodge_0
  obtain ⟨v6, σ2, q1, h⟩ := of_bd h
  have hC2 := f_X11_isIn (σ := σ) hs  q1 (X := X) (l := l)
  have hs3 := hC2.1.2.2.2.1 hs
  refine ⟨0, v6, σ2, (Nat.le_trans (by decide) hD), hC2, ?_⟩
  refine ite_i (fun c4 => ?_) (fun c4 => ?_)
  · replace h := of_ifp h c4
    exact t_X11_lodge_31 hD  hs3  h
  · replace h := of_ifn h c4
    obtain ⟨v12, σ8, q5, h⟩ := of_bd h
    have hC6 := f_X11_isWeek (σ := σ2) hs3  q5 (X := X) (l := l)
    have hs7 := hC6.1.2.2.2.1 hs3
    refine ⟨1, v12, σ8, (Nat.le_trans (by decide) hD), hC6, ?_⟩
    refine ite_i (fun c8 => ?_) (fun c8 => ?_)
    · replace h := of_ifp h c8
      exact t_X11_lodge_31 hD  hs7  h
    · replace h := of_ifn h c8
      obtain ⟨v18, σ14, q9, h⟩ := of_bd h
      have hC10 := f_X11_isWeek (σ := σ8) hs7  q9 (X := X) (l := l)
      have hs11 := hC10.1.2.2.2.1 hs7
      refine ⟨1, v18, σ14, (Nat.le_trans (by decide) hD), hC10, ?_⟩
      refine ite_i (fun c12 => ?_) (fun c12 => ?_)
      · replace h := of_ifp h c12
        exact t_X11_lodge_31 hD  hs11  h
      · replace h := of_ifn h c12
        refine ite_i (fun c13 => ?_) (fun c13 => ?_)
        · replace h := of_ifp h c13
          obtain ⟨v24, σ20, q14, h⟩ := of_bd h
          have hC15 := f_X11_isPlot (σ := σ14) hs11  q14 (X := X) (l := l)
          have hs16 := hC15.1.2.2.2.1 hs11
          refine ⟨1, v24, σ20, (Nat.le_trans (by decide) hD), hC15, ?_⟩
          refine ite_i (fun c17 => ?_) (fun c17 => ?_)
          · replace h := of_ifp h c17
            obtain ⟨v80, σ76, q18, h⟩ := of_bd h
            have hC19 := f_X11_answer (σ := σ20) hs16  q18 (X := X) (l := l)
            have hs20 := hC19.1.2.2.2.1 hs16
            refine ⟨1, v80, σ76, (Nat.le_trans (by decide) hD), hC19, ?_⟩
            exact ret_i h
          · replace h := of_ifn h c17
            obtain ⟨v30, σ26, q21, h⟩ := of_bd h
            have hC22 := f_X8_isFull  q21 (X := X) (l := l)
            have hs23 := hC22.1.2.2.2.1 hs16
            refine ⟨0, v30, σ26, (Nat.le_trans (by decide) hD), hC22, ?_⟩
            refine ite_i (fun c24 => ?_) (fun c24 => ?_)
            · replace h := of_ifp h c24
              obtain ⟨v36, σ32, q25, h⟩ := of_bd h
              have hC26 := f_X8_add  q25 (X := X) (l := l)
              have hs27 := hC26.1.2.2.2.1 hs23
              refine ⟨5, v36, σ32, (Nat.le_trans (by decide) hD), hC26, ?_⟩
              obtain ⟨σ38, q28, h⟩ := of_bv h
              have hC29 := f_X8_put  q28 (X := X) (l := l)
              have hs30 := hC29.1.2.2.2.1 hs27
              refine ⟨0, σ38, (Nat.le_trans (by decide) hD), hC29, ?_⟩
              obtain ⟨σ43, q31, h⟩ := of_bv h
              have hC32 := f_X8_put  q31 (X := X) (l := l)
              have hs33 := hC32.1.2.2.2.1 hs30
              refine ⟨0, σ43, (Nat.le_trans (by decide) hD), hC32, ?_⟩
              obtain ⟨σ48, q34, h⟩ := of_bv h
              have hC35 := f_X8_put  q34 (X := X) (l := l)
              have hs36 := hC35.1.2.2.2.1 hs33
              refine ⟨0, σ48, (Nat.le_trans (by decide) hD), hC35, ?_⟩
              obtain ⟨σ53, q37, h⟩ := of_bv h
              have hC38 := f_X8_put  q37 (X := X) (l := l)
              have hs39 := hC38.1.2.2.2.1 hs36
              refine ⟨0, σ53, (Nat.le_trans (by decide) hD), hC38, ?_⟩
              obtain ⟨v62, σ58, q40, h⟩ := of_bd h
              have hC41 := f_X8_rows  q40 (X := X) (l := l)
              have hs42 := hC41.1.2.2.2.1 hs39
              refine ⟨0, v62, σ58, (Nat.le_trans (by decide) hD), hC41, ?_⟩
              obtain ⟨v68, σ64, q43, h⟩ := of_bd h
              have hC44 := f_X11_answer (σ := σ58) hs42  q43 (X := X) (l := l)
              have hs45 := hC44.1.2.2.2.1 hs42
              refine ⟨1, v68, σ64, (Nat.le_trans (by decide) hD), hC44, ?_⟩
              exact ret_i h
            · replace h := of_ifn h c24
              obtain ⟨v74, σ70, q46, h⟩ := of_bd h
              have hC47 := f_X11_answer (σ := σ26) hs23  q46 (X := X) (l := l)
              have hs48 := hC47.1.2.2.2.1 hs23
              refine ⟨1, v74, σ70, (Nat.le_trans (by decide) hD), hC47, ?_⟩
              exact ret_i h
        · replace h := of_ifn h c13
          exact t_X11_lodge_31 hD  hs11  h
theorem f_X11_lodge {X : Sx} {l : Launch} {x1 : Int32} {x2 : Int32} {x3 : Int32} {x4 : Int32} {σ : AH} {v : Int32} {σ' : AH} (hs : Sh σ) (h : F_X11_lodge x1 x2 x3 x4 σ = some (v, σ')) : Call X l m_X11_lodge 6 [.ref 0, .int x1, .int x2, .int x3, .int x4] σ (some (.int v)) σ' :=
  Call.ofE ok_X11_lodge rfl (Nat.le_of_ble_eq_true rfl) (w_X11_lodge_0 hs  (t_X11_lodge_0 (Nat.le_refl _) hs  h))
def F_X11_under_148 (k_X11_under_64 : Int32 → Int32 → Int32 → Int32 → AH → Option (Int32 × AH)) (x1 : Int32) (x2 : Int32) (x4 : Int32) (x5 : Int32) (σ : AH) : Option (Int32 × AH) := (k_X11_under_64 x1 x2 x4 (x5 + 1) σ)
def B_X11_under_64 (k_X11_under_64 : Int32 → Int32 → Int32 → Int32 → AH → Option (Int32 × AH)) (x1 : Int32) (x2 : Int32) (x4 : Int32) (x5 : Int32) (σ : AH) : Option (Int32 × AH) := (bd (F_X8_rows 15 σ) fun v36 σ32 => (if v36 ≤ x5 then (some (x4, σ32)) else (bd (F_X8_at 15 x5 (0 : Int32) σ32) fun v42 σ38 => (if v42 = x1 then (bd (F_X8_at 15 x5 (2 : Int32) σ38) fun v48 σ44 => (if x2 < v48 then (F_X11_under_148 k_X11_under_64 x1 x2 x4 x5 σ44) else (bd (F_X8_at 15 x5 (3 : Int32) σ44) fun v54 σ50 => (if v54 < x2 then (F_X11_under_148 k_X11_under_64 x1 x2 x4 x5 σ50) else (bd (F_X8_at 15 x5 (1 : Int32) σ50) fun v60 σ56 => (F_X11_under_148 k_X11_under_64 x1 x2 (x4 + v60) x5 σ56)))))) else (F_X11_under_148 k_X11_under_64 x1 x2 x4 x5 σ38)))))
def F_X11_under_64 : Nat → Int32 → Int32 → Int32 → Int32 → AH → Option (Int32 × AH) := fun k => match k with | 0 => fun _ _ _ _ _ => none | k + 1 => B_X11_under_64 (F_X11_under_64 k)
def F_X11_under_59 (x1 : Int32) (x2 : Int32) (y0 : Int32) (σ : AH) : Option (Int32 × AH) := (F_X11_under_64 BIG x1 x2 y0 (0 : Int32) σ)
def F_X11_under (x1 : Int32) (x2 : Int32) (σ : AH) : Option (Int32 × AH) := (bd (F_X11_isPlot x1 σ) fun v6 σ2 => (if v6 = 0 then (some ((-1 : Int32), σ2)) else (bd (F_X11_isWeek x2 σ2) fun v12 σ8 => (if v12 = 0 then (some ((-1 : Int32), σ8)) else (bd (F_X2_livedStay x1 x2 σ8) fun v18 σ14 => (if v18 = (-1 : Int32) then (F_X11_under_59 x1 x2 (0 : Int32) σ14) else (bd (F_X8_at 17 v18 (1 : Int32) σ14) fun v24 σ20 => (bd (F_X8_at 13 v24 (2 : Int32) σ20) fun v30 σ26 => (F_X11_under_59 x1 x2 v30 σ26)))))))))
set_option maxRecDepth 100000 in
theorem t_X11_under_148 {X : Sx} {l : Launch} {D : Nat} {k_X11_under_64 : Int32 → Int32 → Int32 → Int32 → AH → Option (Int32 × AH)} {x1 : Int32} {x2 : Int32} {x4 : Int32} {x5 : Int32} {σ : AH} {v : Int32} {σ' : AH} (hD : 3 ≤ D) (hk_X11_under_64 : ∀ (x1 : Int32) (x2 : Int32) (x4 : Int32) (x5 : Int32) (σ : AH) (v : Int32) (σ' : AH), Sh σ → k_X11_under_64 x1 x2 x4 x5 σ = some (v, σ') → E X l m_X11_under D 64 [(0, .ref 0), (1, .int x1), (2, .int x2), (4, .int x4), (5, .int x5)] [] σ (some (.int v)) σ') (hs : Sh σ) (h : F_X11_under_148 k_X11_under_64 x1 x2 x4 x5 σ = some (v, σ')) : W_X11_under_148 X l D x1 x2 x4 x5 σ (some (.int v)) σ' := by
  unfold F_X11_under_148 at h
  unfold W_X11_under_148
  exact hk_X11_under_64 _ _ _ _ _ _ _ hs  h
set_option maxRecDepth 100000 in
theorem t_X11_under_64 {X : Sx} {l : Launch} {D : Nat} {k_X11_under_64 : Int32 → Int32 → Int32 → Int32 → AH → Option (Int32 × AH)} {x1 : Int32} {x2 : Int32} {x4 : Int32} {x5 : Int32} {σ : AH} {v : Int32} {σ' : AH} (hD : 3 ≤ D) (hk_X11_under_64 : ∀ (x1 : Int32) (x2 : Int32) (x4 : Int32) (x5 : Int32) (σ : AH) (v : Int32) (σ' : AH), Sh σ → k_X11_under_64 x1 x2 x4 x5 σ = some (v, σ') → E X l m_X11_under D 64 [(0, .ref 0), (1, .int x1), (2, .int x2), (4, .int x4), (5, .int x5)] [] σ (some (.int v)) σ') (hs : Sh σ) (h : B_X11_under_64 k_X11_under_64 x1 x2 x4 x5 σ = some (v, σ')) : W_X11_under_64 X l D x1 x2 x4 x5 σ (some (.int v)) σ' := by
  unfold B_X11_under_64 at h
  unfold W_X11_under_64
  obtain ⟨v36, σ32, q1, h⟩ := of_bd h
  have hC2 := f_X8_rows  q1 (X := X) (l := l)
  have hs3 := hC2.1.2.2.2.1 hs
  refine ⟨0, v36, σ32, (Nat.le_trans (by decide) hD), hC2, ?_⟩
  refine ite_i (fun c4 => ?_) (fun c4 => ?_)
  · replace h := of_ifp h c4
    exact ret_i h
  · replace h := of_ifn h c4
    obtain ⟨v42, σ38, q5, h⟩ := of_bd h
    have hC6 := f_X8_at  q5 (X := X) (l := l)
    have hs7 := hC6.1.2.2.2.1 hs3
    refine ⟨0, v42, σ38, (Nat.le_trans (by decide) hD), hC6, ?_⟩
    refine ite_i (fun c8 => ?_) (fun c8 => ?_)
    · replace h := of_ifp h c8
      obtain ⟨v48, σ44, q9, h⟩ := of_bd h
      have hC10 := f_X8_at  q9 (X := X) (l := l)
      have hs11 := hC10.1.2.2.2.1 hs7
      refine ⟨0, v48, σ44, (Nat.le_trans (by decide) hD), hC10, ?_⟩
      refine ite_i (fun c12 => ?_) (fun c12 => ?_)
      · replace h := of_ifp h c12
        exact t_X11_under_148 hD hk_X11_under_64 hs11  h
      · replace h := of_ifn h c12
        obtain ⟨v54, σ50, q13, h⟩ := of_bd h
        have hC14 := f_X8_at  q13 (X := X) (l := l)
        have hs15 := hC14.1.2.2.2.1 hs11
        refine ⟨0, v54, σ50, (Nat.le_trans (by decide) hD), hC14, ?_⟩
        refine ite_i (fun c16 => ?_) (fun c16 => ?_)
        · replace h := of_ifp h c16
          exact t_X11_under_148 hD hk_X11_under_64 hs15  h
        · replace h := of_ifn h c16
          obtain ⟨v60, σ56, q17, h⟩ := of_bd h
          have hC18 := f_X8_at  q17 (X := X) (l := l)
          have hs19 := hC18.1.2.2.2.1 hs15
          refine ⟨0, v60, σ56, (Nat.le_trans (by decide) hD), hC18, ?_⟩
          exact t_X11_under_148 hD hk_X11_under_64 hs19  h
    · replace h := of_ifn h c8
      exact t_X11_under_148 hD hk_X11_under_64 hs7  h
theorem e_X11_under_64 {X : Sx} {l : Launch} {D : Nat} (hD : 3 ≤ D) : ∀ (k : Nat) (x1 : Int32) (x2 : Int32) (x4 : Int32) (x5 : Int32) (σ : AH) (v : Int32) (σ' : AH), Sh σ → F_X11_under_64 k x1 x2 x4 x5 σ = some (v, σ') → E X l m_X11_under D 64 [(0, .ref 0), (1, .int x1), (2, .int x2), (4, .int x4), (5, .int x5)] [] σ (some (.int v)) σ' := by
  intro k
  induction k with
  | zero => intro x1 x2 x4 x5 σ v σ' hs h; cases h
  | succ k ih =>
    intro x1 x2 x4 x5 σ v σ' hs h
    exact w_X11_under_64 hs  (t_X11_under_64 hD ih hs  h)
set_option maxRecDepth 100000 in
theorem t_X11_under_59 {X : Sx} {l : Launch} {D : Nat} {x1 : Int32} {x2 : Int32} {y0 : Int32} {σ : AH} {v : Int32} {σ' : AH} (hD : 3 ≤ D) (hs : Sh σ) (h : F_X11_under_59 x1 x2 y0 σ = some (v, σ')) : W_X11_under_59 X l D x1 x2 y0 σ (some (.int v)) σ' := by
  unfold F_X11_under_59 at h
  unfold W_X11_under_59
  exact e_X11_under_64 hD  _ _ _ _ _ _ _ _ hs  h
set_option maxRecDepth 100000 in
theorem t_X11_under_0 {X : Sx} {l : Launch} {D : Nat} {x1 : Int32} {x2 : Int32} {σ : AH} {v : Int32} {σ' : AH} (hD : 3 ≤ D) (hs : Sh σ) (h : F_X11_under x1 x2 σ = some (v, σ')) : W_X11_under_0 X l D x1 x2 σ (some (.int v)) σ' := by
  unfold F_X11_under at h
  unfold W_X11_under_0
  obtain ⟨v6, σ2, q1, h⟩ := of_bd h
  have hC2 := f_X11_isPlot (σ := σ) hs  q1 (X := X) (l := l)
  have hs3 := hC2.1.2.2.2.1 hs
  refine ⟨1, v6, σ2, (Nat.le_trans (by decide) hD), hC2, ?_⟩
  refine ite_i (fun c4 => ?_) (fun c4 => ?_)
  · replace h := of_ifp h c4
    exact ret_i h
  · replace h := of_ifn h c4
    obtain ⟨v12, σ8, q5, h⟩ := of_bd h
    have hC6 := f_X11_isWeek (σ := σ2) hs3  q5 (X := X) (l := l)
    have hs7 := hC6.1.2.2.2.1 hs3
    refine ⟨1, v12, σ8, (Nat.le_trans (by decide) hD), hC6, ?_⟩
    refine ite_i (fun c8 => ?_) (fun c8 => ?_)
    · replace h := of_ifp h c8
      exact ret_i h
    · replace h := of_ifn h c8
      obtain ⟨v18, σ14, q9, h⟩ := of_bd h
      have hC10 := f_X2_livedStay (σ := σ8) hs7  q9 (X := X) (l := l)
      have hs11 := hC10.1.2.2.2.1 hs7
      refine ⟨2, v18, σ14, (Nat.le_trans (by decide) hD), hC10, ?_⟩
      refine ite_i (fun c12 => ?_) (fun c12 => ?_)
      · replace h := of_ifp h c12
        exact t_X11_under_59 hD  hs11  h
      · replace h := of_ifn h c12
        obtain ⟨v24, σ20, q13, h⟩ := of_bd h
        have hC14 := f_X8_at  q13 (X := X) (l := l)
        have hs15 := hC14.1.2.2.2.1 hs11
        refine ⟨0, v24, σ20, (Nat.le_trans (by decide) hD), hC14, ?_⟩
        obtain ⟨v30, σ26, q16, h⟩ := of_bd h
        have hC17 := f_X8_at  q16 (X := X) (l := l)
        have hs18 := hC17.1.2.2.2.1 hs15
        refine ⟨0, v30, σ26, (Nat.le_trans (by decide) hD), hC17, ?_⟩
        exact t_X11_under_59 hD  hs18  h
theorem f_X11_under {X : Sx} {l : Launch} {x1 : Int32} {x2 : Int32} {σ : AH} {v : Int32} {σ' : AH} (hs : Sh σ) (h : F_X11_under x1 x2 σ = some (v, σ')) : Call X l m_X11_under 3 [.ref 0, .int x1, .int x2] σ (some (.int v)) σ' :=
  Call.ofE ok_X11_under rfl (Nat.le_of_ble_eq_true rfl) (w_X11_under_0 hs  (t_X11_under_0 (Nat.le_refl _) hs  h))
def F_X11_isCouncilQuarter (x0 : Int32) (x1 : Int32) (σ : AH) : Option (Int32 × AH) := (bd (F_X11_isIn x0 (0 : Int32) (5 : Int32) σ) fun v6 σ2 => (if v6 = 0 then (some ((0 : Int32), σ2)) else (bd (F_X11_isIn x1 (0 : Int32) (19 : Int32) σ2) fun v12 σ8 => (if v12 = 0 then (some ((0 : Int32), σ8)) else (some ((1 : Int32), σ8))))))
set_option maxRecDepth 100000 in
theorem t_X11_isCouncilQuarter_0 {X : Sx} {l : Launch} {D : Nat} {x0 : Int32} {x1 : Int32} {σ : AH} {v : Int32} {σ' : AH} (hD : 1 ≤ D) (hs : Sh σ) (h : F_X11_isCouncilQuarter x0 x1 σ = some (v, σ')) : W_X11_isCouncilQuarter_0 X l D x0 x1 σ (some (.int v)) σ' := by
  unfold F_X11_isCouncilQuarter at h
  unfold W_X11_isCouncilQuarter_0
  obtain ⟨v6, σ2, q1, h⟩ := of_bd h
  have hC2 := f_X11_isIn (σ := σ) hs  q1 (X := X) (l := l)
  have hs3 := hC2.1.2.2.2.1 hs
  refine ⟨0, v6, σ2, (Nat.le_trans (by decide) hD), hC2, ?_⟩
  refine ite_i (fun c4 => ?_) (fun c4 => ?_)
  · replace h := of_ifp h c4
    exact ret_i h
  · replace h := of_ifn h c4
    obtain ⟨v12, σ8, q5, h⟩ := of_bd h
    have hC6 := f_X11_isIn (σ := σ2) hs3  q5 (X := X) (l := l)
    have hs7 := hC6.1.2.2.2.1 hs3
    refine ⟨0, v12, σ8, (Nat.le_trans (by decide) hD), hC6, ?_⟩
    refine ite_i (fun c8 => ?_) (fun c8 => ?_)
    · replace h := of_ifp h c8
      exact ret_i h
    · replace h := of_ifn h c8
      exact ret_i h
theorem f_X11_isCouncilQuarter {X : Sx} {l : Launch} {x0 : Int32} {x1 : Int32} {σ : AH} {v : Int32} {σ' : AH} (hs : Sh σ) (h : F_X11_isCouncilQuarter x0 x1 σ = some (v, σ')) : Call X l m_X11_isCouncilQuarter 1 [.int x0, .int x1] σ (some (.int v)) σ' :=
  Call.ofE ok_X11_isCouncilQuarter rfl (Nat.le_of_ble_eq_true rfl) (w_X11_isCouncilQuarter_0 hs  (t_X11_isCouncilQuarter_0 (Nat.le_refl _) hs  h))
def F_X11_target_19 (σ : AH) : Option (Int32 × AH) := (bd (F_X11_answer (-1 : Int32) σ) fun v25 σ21 => (some (v25, σ21)))
def F_X11_target (x1 : Int32) (x2 : Int32) (x3 : Int32) (σ : AH) : Option (Int32 × AH) := (bd (F_X11_isCouncilQuarter x1 x2 σ) fun v6 σ2 => (if v6 = 0 then (F_X11_target_19 σ2) else (bd (F_X11_isIn x3 (0 : Int32) (10000 : Int32) σ2) fun v12 σ8 => (if v12 = 0 then (F_X11_target_19 σ8) else (if inB ((x1 * (20 : Int32)) + x2) 120 = true then (bd (F_X11_answer (0 : Int32) (sI σ8 19 (((x1 * (20 : Int32)) + x2).toNatClampNeg) (x3 + (1 : Int32)))) fun v19 σ15 => (some (v19, σ15))) else none)))))
set_option maxRecDepth 100000 in
theorem t_X11_target_19 {X : Sx} {l : Launch} {D : Nat} {σ : AH} {v : Int32} {σ' : AH} (hD : 2 ≤ D) (hs : Sh σ) (h : F_X11_target_19 σ = some (v, σ')) : W_X11_target_19 X l D σ (some (.int v)) σ' := by
  unfold F_X11_target_19 at h
  unfold W_X11_target_19
  obtain ⟨v25, σ21, q1, h⟩ := of_bd h
  have hC2 := f_X11_answer (σ := σ) hs  q1 (X := X) (l := l)
  have hs3 := hC2.1.2.2.2.1 hs
  refine ⟨1, v25, σ21, (Nat.le_trans (by decide) hD), hC2, ?_⟩
  exact ret_i h
set_option maxRecDepth 100000 in
theorem t_X11_target_0 {X : Sx} {l : Launch} {D : Nat} {x1 : Int32} {x2 : Int32} {x3 : Int32} {σ : AH} {v : Int32} {σ' : AH} (hD : 2 ≤ D) (hs : Sh σ) (h : F_X11_target x1 x2 x3 σ = some (v, σ')) : W_X11_target_0 X l D x1 x2 x3 σ (some (.int v)) σ' := by
  unfold F_X11_target at h
  unfold W_X11_target_0
  obtain ⟨v6, σ2, q1, h⟩ := of_bd h
  have hC2 := f_X11_isCouncilQuarter (σ := σ) hs  q1 (X := X) (l := l)
  have hs3 := hC2.1.2.2.2.1 hs
  refine ⟨1, v6, σ2, (Nat.le_trans (by decide) hD), hC2, ?_⟩
  refine ite_i (fun c4 => ?_) (fun c4 => ?_)
  · replace h := of_ifp h c4
    exact t_X11_target_19 hD  hs3  h
  · replace h := of_ifn h c4
    obtain ⟨v12, σ8, q5, h⟩ := of_bd h
    have hC6 := f_X11_isIn (σ := σ2) hs3  q5 (X := X) (l := l)
    have hs7 := hC6.1.2.2.2.1 hs3
    refine ⟨0, v12, σ8, (Nat.le_trans (by decide) hD), hC6, ?_⟩
    refine ite_i (fun c8 => ?_) (fun c8 => ?_)
    · replace h := of_ifp h c8
      exact t_X11_target_19 hD  hs7  h
    · replace h := of_ifn h c8
      obtain ⟨g9, h⟩ := of_gd h
      refine ⟨(inB_mp g9), ?_⟩
      obtain ⟨v19, σ15, q10, h⟩ := of_bd h
      have hC11 := f_X11_answer (σ := (sI σ8 19 (((x1 * (20 : Int32)) + x2).toNatClampNeg) (x3 + (1 : Int32)))) hs7  q10 (X := X) (l := l)
      have hs12 := hC11.1.2.2.2.1 hs7
      refine ⟨1, v19, σ15, (Nat.le_trans (by decide) hD), hC11, ?_⟩
      exact ret_i h
theorem f_X11_target {X : Sx} {l : Launch} {x1 : Int32} {x2 : Int32} {x3 : Int32} {σ : AH} {v : Int32} {σ' : AH} (hs : Sh σ) (h : F_X11_target x1 x2 x3 σ = some (v, σ')) : Call X l m_X11_target 2 [.ref 0, .int x1, .int x2, .int x3] σ (some (.int v)) σ' :=
  Call.ofE ok_X11_target rfl (Nat.le_of_ble_eq_true rfl) (w_X11_target_0 hs  (t_X11_target_0 (Nat.le_refl _) hs  h))
def F_X11_claim_30 (σ : AH) : Option (Int32 × AH) := (bd (F_X11_answer (-1 : Int32) σ) fun v35 σ31 => (some (v35, σ31)))
def F_X11_claim (x1 : Int32) (x2 : Int32) (x3 : Int32) (x4 : Int32) (σ : AH) : Option (Int32 × AH) := (bd (F_X11_isCouncilQuarter x1 x2 σ) fun v6 σ2 => (if v6 = 0 then (F_X11_claim_30 σ2) else (bd (F_X11_isIn x3 (0 : Int32) (19 : Int32) σ2) fun v12 σ8 => (if v12 = 0 then (F_X11_claim_30 σ8) else (bd (F_X11_isIn x4 (0 : Int32) (1000 : Int32) σ8) fun v18 σ14 => (if v18 = 0 then (F_X11_claim_30 σ14) else (bv (F_X9_tellClaimed 1 ((((x1 * (20 : Int32)) + x2) * (20 : Int32)) + x3) x4 σ14) fun σ20 => (bd (F_X11_answer (0 : Int32) σ20) fun v29 σ25 => (some (v29, σ25))))))))))
set_option maxRecDepth 100000 in
theorem t_X11_claim_30 {X : Sx} {l : Launch} {D : Nat} {σ : AH} {v : Int32} {σ' : AH} (hD : 2 ≤ D) (hs : Sh σ) (h : F_X11_claim_30 σ = some (v, σ')) : W_X11_claim_30 X l D σ (some (.int v)) σ' := by
  unfold F_X11_claim_30 at h
  unfold W_X11_claim_30
  obtain ⟨v35, σ31, q1, h⟩ := of_bd h
  have hC2 := f_X11_answer (σ := σ) hs  q1 (X := X) (l := l)
  have hs3 := hC2.1.2.2.2.1 hs
  refine ⟨1, v35, σ31, (Nat.le_trans (by decide) hD), hC2, ?_⟩
  exact ret_i h
set_option maxRecDepth 100000 in
theorem t_X11_claim_0 {X : Sx} {l : Launch} {D : Nat} {x1 : Int32} {x2 : Int32} {x3 : Int32} {x4 : Int32} {σ : AH} {v : Int32} {σ' : AH} (hD : 2 ≤ D) (hs : Sh σ) (h : F_X11_claim x1 x2 x3 x4 σ = some (v, σ')) : W_X11_claim_0 X l D x1 x2 x3 x4 σ (some (.int v)) σ' := by
  unfold F_X11_claim at h
  unfold W_X11_claim_0
  obtain ⟨v6, σ2, q1, h⟩ := of_bd h
  have hC2 := f_X11_isCouncilQuarter (σ := σ) hs  q1 (X := X) (l := l)
  have hs3 := hC2.1.2.2.2.1 hs
  refine ⟨1, v6, σ2, (Nat.le_trans (by decide) hD), hC2, ?_⟩
  refine ite_i (fun c4 => ?_) (fun c4 => ?_)
  · replace h := of_ifp h c4
    exact t_X11_claim_30 hD  hs3  h
  · replace h := of_ifn h c4
    obtain ⟨v12, σ8, q5, h⟩ := of_bd h
    have hC6 := f_X11_isIn (σ := σ2) hs3  q5 (X := X) (l := l)
    have hs7 := hC6.1.2.2.2.1 hs3
    refine ⟨0, v12, σ8, (Nat.le_trans (by decide) hD), hC6, ?_⟩
    refine ite_i (fun c8 => ?_) (fun c8 => ?_)
    · replace h := of_ifp h c8
      exact t_X11_claim_30 hD  hs7  h
    · replace h := of_ifn h c8
      obtain ⟨v18, σ14, q9, h⟩ := of_bd h
      have hC10 := f_X11_isIn (σ := σ8) hs7  q9 (X := X) (l := l)
      have hs11 := hC10.1.2.2.2.1 hs7
      refine ⟨0, v18, σ14, (Nat.le_trans (by decide) hD), hC10, ?_⟩
      refine ite_i (fun c12 => ?_) (fun c12 => ?_)
      · replace h := of_ifp h c12
        exact t_X11_claim_30 hD  hs11  h
      · replace h := of_ifn h c12
        obtain ⟨σ20, q13, h⟩ := of_bv h
        have hC14 := f_X9_tellClaimed  q13 (X := X) (l := l)
        have hs15 := hC14.1.2.2.2.1 hs11
        refine ⟨0, σ20, (Nat.le_trans (by decide) hD), hC14, ?_⟩
        obtain ⟨v29, σ25, q16, h⟩ := of_bd h
        have hC17 := f_X11_answer (σ := σ20) hs15  q16 (X := X) (l := l)
        have hs18 := hC17.1.2.2.2.1 hs15
        refine ⟨1, v29, σ25, (Nat.le_trans (by decide) hD), hC17, ?_⟩
        exact ret_i h
theorem f_X11_claim {X : Sx} {l : Launch} {x1 : Int32} {x2 : Int32} {x3 : Int32} {x4 : Int32} {σ : AH} {v : Int32} {σ' : AH} (hs : Sh σ) (h : F_X11_claim x1 x2 x3 x4 σ = some (v, σ')) : Call X l m_X11_claim 2 [.ref 0, .int x1, .int x2, .int x3, .int x4] σ (some (.int v)) σ' :=
  Call.ofE ok_X11_claim rfl (Nat.le_of_ble_eq_true rfl) (w_X11_claim_0 hs  (t_X11_claim_0 (Nat.le_refl _) hs  h))
def F_X11_look_30 (σ : AH) : Option (Int32 × AH) := (bd (F_X11_answer (-1 : Int32) σ) fun v35 σ31 => (some (v35, σ31)))
def F_X11_look (x1 : Int32) (x2 : Int32) (x3 : Int32) (x4 : Int32) (σ : AH) : Option (Int32 × AH) := (bd (F_X11_isCouncilQuarter x1 x2 σ) fun v6 σ2 => (if v6 = 0 then (F_X11_look_30 σ2) else (bd (F_X11_isIn x3 (0 : Int32) (19 : Int32) σ2) fun v12 σ8 => (if v12 = 0 then (F_X11_look_30 σ8) else (bd (F_X11_isIn x4 (0 : Int32) (1000 : Int32) σ8) fun v18 σ14 => (if v18 = 0 then (F_X11_look_30 σ14) else (bv (F_X9_tellSeen 1 ((((x1 * (20 : Int32)) + x2) * (20 : Int32)) + x3) x4 σ14) fun σ20 => (bd (F_X11_answer (0 : Int32) σ20) fun v29 σ25 => (some (v29, σ25))))))))))
set_option maxRecDepth 100000 in
theorem t_X11_look_30 {X : Sx} {l : Launch} {D : Nat} {σ : AH} {v : Int32} {σ' : AH} (hD : 2 ≤ D) (hs : Sh σ) (h : F_X11_look_30 σ = some (v, σ')) : W_X11_look_30 X l D σ (some (.int v)) σ' := by
  unfold F_X11_look_30 at h
  unfold W_X11_look_30
  obtain ⟨v35, σ31, q1, h⟩ := of_bd h
  have hC2 := f_X11_answer (σ := σ) hs  q1 (X := X) (l := l)
  have hs3 := hC2.1.2.2.2.1 hs
  refine ⟨1, v35, σ31, (Nat.le_trans (by decide) hD), hC2, ?_⟩
  exact ret_i h
set_option maxRecDepth 100000 in
theorem t_X11_look_0 {X : Sx} {l : Launch} {D : Nat} {x1 : Int32} {x2 : Int32} {x3 : Int32} {x4 : Int32} {σ : AH} {v : Int32} {σ' : AH} (hD : 2 ≤ D) (hs : Sh σ) (h : F_X11_look x1 x2 x3 x4 σ = some (v, σ')) : W_X11_look_0 X l D x1 x2 x3 x4 σ (some (.int v)) σ' := by
  unfold F_X11_look at h
  unfold W_X11_look_0
  obtain ⟨v6, σ2, q1, h⟩ := of_bd h
  have hC2 := f_X11_isCouncilQuarter (σ := σ) hs  q1 (X := X) (l := l)
  have hs3 := hC2.1.2.2.2.1 hs
  refine ⟨1, v6, σ2, (Nat.le_trans (by decide) hD), hC2, ?_⟩
  refine ite_i (fun c4 => ?_) (fun c4 => ?_)
  · replace h := of_ifp h c4
    exact t_X11_look_30 hD  hs3  h
  · replace h := of_ifn h c4
    obtain ⟨v12, σ8, q5, h⟩ := of_bd h
    have hC6 := f_X11_isIn (σ := σ2) hs3  q5 (X := X) (l := l)
    have hs7 := hC6.1.2.2.2.1 hs3
    refine ⟨0, v12, σ8, (Nat.le_trans (by decide) hD), hC6, ?_⟩
    refine ite_i (fun c8 => ?_) (fun c8 => ?_)
    · replace h := of_ifp h c8
      exact t_X11_look_30 hD  hs7  h
    · replace h := of_ifn h c8
      obtain ⟨v18, σ14, q9, h⟩ := of_bd h
      have hC10 := f_X11_isIn (σ := σ8) hs7  q9 (X := X) (l := l)
      have hs11 := hC10.1.2.2.2.1 hs7
      refine ⟨0, v18, σ14, (Nat.le_trans (by decide) hD), hC10, ?_⟩
      refine ite_i (fun c12 => ?_) (fun c12 => ?_)
      · replace h := of_ifp h c12
        exact t_X11_look_30 hD  hs11  h
      · replace h := of_ifn h c12
        obtain ⟨σ20, q13, h⟩ := of_bv h
        have hC14 := f_X9_tellSeen  q13 (X := X) (l := l)
        have hs15 := hC14.1.2.2.2.1 hs11
        refine ⟨0, σ20, (Nat.le_trans (by decide) hD), hC14, ?_⟩
        obtain ⟨v29, σ25, q16, h⟩ := of_bd h
        have hC17 := f_X11_answer (σ := σ20) hs15  q16 (X := X) (l := l)
        have hs18 := hC17.1.2.2.2.1 hs15
        refine ⟨1, v29, σ25, (Nat.le_trans (by decide) hD), hC17, ?_⟩
        exact ret_i h
theorem f_X11_look {X : Sx} {l : Launch} {x1 : Int32} {x2 : Int32} {x3 : Int32} {x4 : Int32} {σ : AH} {v : Int32} {σ' : AH} (hs : Sh σ) (h : F_X11_look x1 x2 x3 x4 σ = some (v, σ')) : Call X l m_X11_look 2 [.ref 0, .int x1, .int x2, .int x3, .int x4] σ (some (.int v)) σ' :=
  Call.ofE ok_X11_look rfl (Nat.le_of_ble_eq_true rfl) (w_X11_look_0 hs  (t_X11_look_0 (Nat.le_refl _) hs  h))
def F_X11_truth_113 (k_X11_truth_43 : Int32 → Int32 → Int32 → Int32 → Int32 → Int32 → AH → Option (Int32 × AH)) (x3 : Int32) (x4 : Int32) (x5 : Int32) (x7 : Int32) (x8 : Int32) (y0 : Int32) (y1 : Int32) (σ : AH) : Option (Int32 × AH) := (k_X11_truth_43 x3 x4 x5 (y1 + y0) x7 (x8 + 1) σ)
def B_X11_truth_43 (k_X11_truth_43 : Int32 → Int32 → Int32 → Int32 → Int32 → Int32 → AH → Option (Int32 × AH)) (x3 : Int32) (x4 : Int32) (x5 : Int32) (x6 : Int32) (x7 : Int32) (x8 : Int32) (σ : AH) : Option (Int32 × AH) := (if ((x4 + (1 : Int32)) * (20 : Int32)) ≤ x8 then (if inB x4 120 = true then (if x3 = 0 then (some (x5, σ)) else (if x3 = 1 then (some (x6, σ)) else (if x3 = 2 then (some (x7, σ)) else (if x3 = 3 then (if ((gI σ 19 x4.toNatClampNeg) - (1 : Int32)) = (-1 : Int32) then (some ((0 : Int32), σ)) else (if x5 < ((gI σ 19 x4.toNatClampNeg) - (1 : Int32)) then (some ((0 : Int32), σ)) else (some ((1 : Int32), σ)))) else (if x7 ≤ x6 then (some ((0 : Int32), σ)) else (some ((1 : Int32), σ))))))) else none) else (bd (F_X9_seenIn 1 x8 σ) fun v19 σ15 => (bd (F_X9_claimedIn 1 x8 σ15) fun v25 σ21 => (if v19 = (-1 : Int32) then (bd (F_X9_claimedIn 1 x8 σ21) fun v32 σ28 => (F_X11_truth_113 k_X11_truth_43 x3 x4 (x5 + (imax (0 : Int32) v19)) (x7 + v25) x8 v32 x6 σ28)) else (F_X11_truth_113 k_X11_truth_43 x3 x4 (x5 + (imax (0 : Int32) v19)) (x7 + v25) x8 v19 x6 σ21)))))
def F_X11_truth_43 : Nat → Int32 → Int32 → Int32 → Int32 → Int32 → Int32 → AH → Option (Int32 × AH) := fun k => match k with | 0 => fun _ _ _ _ _ _ _ => none | k + 1 => B_X11_truth_43 (F_X11_truth_43 k)
def F_X11_truth (x1 : Int32) (x2 : Int32) (x3 : Int32) (σ : AH) : Option (Int32 × AH) := (bd (F_X11_isCouncilQuarter x1 x2 σ) fun v6 σ2 => (if v6 = 0 then (some ((-1 : Int32), σ2)) else (bd (F_X11_isIn x3 (0 : Int32) (4 : Int32) σ2) fun v12 σ8 => (if v12 = 0 then (some ((-1 : Int32), σ8)) else (F_X11_truth_43 BIG x3 ((x1 * (20 : Int32)) + x2) (0 : Int32) (0 : Int32) (0 : Int32) (((x1 * (20 : Int32)) + x2) * (20 : Int32)) σ8)))))
set_option maxRecDepth 100000 in
theorem t_X11_truth_113 {X : Sx} {l : Launch} {D : Nat} {k_X11_truth_43 : Int32 → Int32 → Int32 → Int32 → Int32 → Int32 → AH → Option (Int32 × AH)} {x3 : Int32} {x4 : Int32} {x5 : Int32} {x7 : Int32} {x8 : Int32} {y0 : Int32} {y1 : Int32} {σ : AH} {v : Int32} {σ' : AH} (hD : 2 ≤ D) (hk_X11_truth_43 : ∀ (x3 : Int32) (x4 : Int32) (x5 : Int32) (x6 : Int32) (x7 : Int32) (x8 : Int32) (σ : AH) (v : Int32) (σ' : AH), Sh σ → k_X11_truth_43 x3 x4 x5 x6 x7 x8 σ = some (v, σ') → E X l m_X11_truth D 43 [(0, .ref 0), (3, .int x3), (4, .int x4), (5, .int x5), (6, .int x6), (7, .int x7), (8, .int x8)] [] σ (some (.int v)) σ') (hs : Sh σ) (h : F_X11_truth_113 k_X11_truth_43 x3 x4 x5 x7 x8 y0 y1 σ = some (v, σ')) : W_X11_truth_113 X l D x3 x4 x5 x7 x8 y0 y1 σ (some (.int v)) σ' := by
  unfold F_X11_truth_113 at h
  unfold W_X11_truth_113
  exact hk_X11_truth_43 _ _ _ _ _ _ _ _ _ hs  h
set_option maxRecDepth 100000 in
theorem t_X11_truth_43 {X : Sx} {l : Launch} {D : Nat} {k_X11_truth_43 : Int32 → Int32 → Int32 → Int32 → Int32 → Int32 → AH → Option (Int32 × AH)} {x3 : Int32} {x4 : Int32} {x5 : Int32} {x6 : Int32} {x7 : Int32} {x8 : Int32} {σ : AH} {v : Int32} {σ' : AH} (hD : 2 ≤ D) (hk_X11_truth_43 : ∀ (x3 : Int32) (x4 : Int32) (x5 : Int32) (x6 : Int32) (x7 : Int32) (x8 : Int32) (σ : AH) (v : Int32) (σ' : AH), Sh σ → k_X11_truth_43 x3 x4 x5 x6 x7 x8 σ = some (v, σ') → E X l m_X11_truth D 43 [(0, .ref 0), (3, .int x3), (4, .int x4), (5, .int x5), (6, .int x6), (7, .int x7), (8, .int x8)] [] σ (some (.int v)) σ') (hs : Sh σ) (h : B_X11_truth_43 k_X11_truth_43 x3 x4 x5 x6 x7 x8 σ = some (v, σ')) : W_X11_truth_43 X l D x3 x4 x5 x6 x7 x8 σ (some (.int v)) σ' := by
  unfold B_X11_truth_43 at h
  unfold W_X11_truth_43
  refine ite_i (fun c1 => ?_) (fun c1 => ?_)
  · replace h := of_ifp h c1
    obtain ⟨g2, h⟩ := of_gd h
    refine ⟨(inB_mp g2), ?_⟩
    refine ite_i (fun c3 => ?_) (fun c3 => ?_)
    · replace h := of_ifp h c3
      exact ret_i h
    · replace h := of_ifn h c3
      refine ite_i (fun c4 => ?_) (fun c4 => ?_)
      · replace h := of_ifp h c4
        exact ret_i h
      · replace h := of_ifn h c4
        refine ite_i (fun c5 => ?_) (fun c5 => ?_)
        · replace h := of_ifp h c5
          exact ret_i h
        · replace h := of_ifn h c5
          refine ite_i (fun c6 => ?_) (fun c6 => ?_)
          · replace h := of_ifp h c6
            refine ite_i (fun c7 => ?_) (fun c7 => ?_)
            · replace h := of_ifp h c7
              exact ret_i h
            · replace h := of_ifn h c7
              refine ite_i (fun c8 => ?_) (fun c8 => ?_)
              · replace h := of_ifp h c8
                exact ret_i h
              · replace h := of_ifn h c8
                exact ret_i h
          · replace h := of_ifn h c6
            refine ite_i (fun c9 => ?_) (fun c9 => ?_)
            · replace h := of_ifp h c9
              exact ret_i h
            · replace h := of_ifn h c9
              exact ret_i h
  · replace h := of_ifn h c1
    obtain ⟨v19, σ15, q10, h⟩ := of_bd h
    have hC11 := f_X9_seenIn  q10 (X := X) (l := l)
    have hs12 := hC11.1.2.2.2.1 hs
    refine ⟨0, v19, σ15, (Nat.le_trans (by decide) hD), hC11, ?_⟩
    obtain ⟨v25, σ21, q13, h⟩ := of_bd h
    have hC14 := f_X9_claimedIn  q13 (X := X) (l := l)
    have hs15 := hC14.1.2.2.2.1 hs12
    refine ⟨0, v25, σ21, (Nat.le_trans (by decide) hD), hC14, ?_⟩
    refine ⟨Nat.le_trans (by decide) hD, ?_⟩
    refine ite_i (fun c16 => ?_) (fun c16 => ?_)
    · replace h := of_ifp h c16
      obtain ⟨v32, σ28, q17, h⟩ := of_bd h
      have hC18 := f_X9_claimedIn  q17 (X := X) (l := l)
      have hs19 := hC18.1.2.2.2.1 hs15
      refine ⟨0, v32, σ28, (Nat.le_trans (by decide) hD), hC18, ?_⟩
      exact t_X11_truth_113 hD hk_X11_truth_43 hs19  h
    · replace h := of_ifn h c16
      exact t_X11_truth_113 hD hk_X11_truth_43 hs15  h
theorem e_X11_truth_43 {X : Sx} {l : Launch} {D : Nat} (hD : 2 ≤ D) : ∀ (k : Nat) (x3 : Int32) (x4 : Int32) (x5 : Int32) (x6 : Int32) (x7 : Int32) (x8 : Int32) (σ : AH) (v : Int32) (σ' : AH), Sh σ → F_X11_truth_43 k x3 x4 x5 x6 x7 x8 σ = some (v, σ') → E X l m_X11_truth D 43 [(0, .ref 0), (3, .int x3), (4, .int x4), (5, .int x5), (6, .int x6), (7, .int x7), (8, .int x8)] [] σ (some (.int v)) σ' := by
  intro k
  induction k with
  | zero => intro x3 x4 x5 x6 x7 x8 σ v σ' hs h; cases h
  | succ k ih =>
    intro x3 x4 x5 x6 x7 x8 σ v σ' hs h
    exact w_X11_truth_43 hs  (t_X11_truth_43 hD ih hs  h)
set_option maxRecDepth 100000 in
theorem t_X11_truth_0 {X : Sx} {l : Launch} {D : Nat} {x1 : Int32} {x2 : Int32} {x3 : Int32} {σ : AH} {v : Int32} {σ' : AH} (hD : 2 ≤ D) (hs : Sh σ) (h : F_X11_truth x1 x2 x3 σ = some (v, σ')) : W_X11_truth_0 X l D x1 x2 x3 σ (some (.int v)) σ' := by
  unfold F_X11_truth at h
  unfold W_X11_truth_0
  obtain ⟨v6, σ2, q1, h⟩ := of_bd h
  have hC2 := f_X11_isCouncilQuarter (σ := σ) hs  q1 (X := X) (l := l)
  have hs3 := hC2.1.2.2.2.1 hs
  refine ⟨1, v6, σ2, (Nat.le_trans (by decide) hD), hC2, ?_⟩
  refine ite_i (fun c4 => ?_) (fun c4 => ?_)
  · replace h := of_ifp h c4
    exact ret_i h
  · replace h := of_ifn h c4
    obtain ⟨v12, σ8, q5, h⟩ := of_bd h
    have hC6 := f_X11_isIn (σ := σ2) hs3  q5 (X := X) (l := l)
    have hs7 := hC6.1.2.2.2.1 hs3
    refine ⟨0, v12, σ8, (Nat.le_trans (by decide) hD), hC6, ?_⟩
    refine ite_i (fun c8 => ?_) (fun c8 => ?_)
    · replace h := of_ifp h c8
      exact ret_i h
    · replace h := of_ifn h c8
      exact e_X11_truth_43 hD  _ _ _ _ _ _ _ _ _ _ hs7  h
theorem f_X11_truth {X : Sx} {l : Launch} {x1 : Int32} {x2 : Int32} {x3 : Int32} {σ : AH} {v : Int32} {σ' : AH} (hs : Sh σ) (h : F_X11_truth x1 x2 x3 σ = some (v, σ')) : Call X l m_X11_truth 2 [.ref 0, .int x1, .int x2, .int x3] σ (some (.int v)) σ' :=
  Call.ofE ok_X11_truth rfl (Nat.le_of_ble_eq_true rfl) (w_X11_truth_0 hs  (t_X11_truth_0 (Nat.le_refl _) hs  h))
def F_X11_image_37 (x1 : Int32) (σ : AH) : Option (Int32 × AH) := (if inB x1 3 = true then (on (gR σ 21 x1.toNatClampNeg) none fun b36 => if kd σ b36 = (9, NO 9) ∧ b36 < nx σ then (bv (F_X9_copyFrom b36 1 σ) fun σ43 => (bd (F_X11_answer (0 : Int32) σ43) fun v52 σ48 => (some (v52, σ48)))) else none) else none)
def F_X11_image (x1 : Int32) (σ : AH) : Option (Int32 × AH) := (bd (F_X11_isIn x1 (0 : Int32) (2 : Int32) σ) fun v6 σ2 => (if v6 = 0 then (bd (F_X11_answer (-1 : Int32) σ2) fun v35 σ31 => (some (v35, σ31))) else (if inB x1 3 = true then (on (gR σ2 21 x1.toNatClampNeg) (lt (aw σ2 9 (NO 9)) fun τ13 => (bv (F_X9_init (nx σ2) τ13) fun σ19 => (if inB x1 3 = true then (if shOK 21 x1.toNatClampNeg = true then (lt (sR σ19 21 x1.toNatClampNeg (some (nx σ2))) fun τ27 => (F_X11_image_37 x1 τ27)) else none) else none))) fun b7 => if kd σ2 b7 = (9, NO 9) ∧ b7 < nx σ2 then (F_X11_image_37 x1 σ2) else none) else none)))
set_option maxRecDepth 100000 in
theorem t_X11_image_37 {X : Sx} {l : Launch} {D : Nat} {x1 : Int32} {σ : AH} {v : Int32} {σ' : AH} (hD : 3 ≤ D) (hs : Sh σ) (h : F_X11_image_37 x1 σ = some (v, σ')) : W_X11_image_37 X l D x1 σ (some (.int v)) σ' := by
  unfold F_X11_image_37 at h
  unfold W_X11_image_37
  obtain ⟨g1, h⟩ := of_gd h
  refine ⟨(inB_mp g1), ?_⟩
  refine ⟨?_, ?_⟩
  · intro e3
    replace h := of_on0 h e3
    cases h
  · intro b36 e3
    replace h := of_on1 h e3
    obtain ⟨g2, h⟩ := of_gd h
    refine ⟨g2.1, g2.2, ?_⟩
    obtain ⟨σ43, q4, h⟩ := of_bv h
    have hC5 := f_X9_copyFrom  q4 (X := X) (l := l)
    have hs6 := hC5.1.2.2.2.1 hs
    refine ⟨2, σ43, (Nat.le_trans (by decide) hD), hC5, ?_⟩
    obtain ⟨v52, σ48, q7, h⟩ := of_bd h
    have hC8 := f_X11_answer (σ := σ43) hs6  q7 (X := X) (l := l)
    have hs9 := hC8.1.2.2.2.1 hs6
    refine ⟨1, v52, σ48, (Nat.le_trans (by decide) hD), hC8, ?_⟩
    exact ret_i h
set_option maxRecDepth 100000 in
theorem t_X11_image_0 {X : Sx} {l : Launch} {D : Nat} {x1 : Int32} {σ : AH} {v : Int32} {σ' : AH} (hD : 3 ≤ D) (hs : Sh σ) (h : F_X11_image x1 σ = some (v, σ')) : W_X11_image_0 X l D x1 σ (some (.int v)) σ' := by
  unfold F_X11_image at h
  unfold W_X11_image_0
  obtain ⟨v6, σ2, q1, h⟩ := of_bd h
  have hC2 := f_X11_isIn (σ := σ) hs  q1 (X := X) (l := l)
  have hs3 := hC2.1.2.2.2.1 hs
  refine ⟨0, v6, σ2, (Nat.le_trans (by decide) hD), hC2, ?_⟩
  refine ite_i (fun c4 => ?_) (fun c4 => ?_)
  · replace h := of_ifp h c4
    obtain ⟨v35, σ31, q5, h⟩ := of_bd h
    have hC6 := f_X11_answer (σ := σ2) hs3  q5 (X := X) (l := l)
    have hs7 := hC6.1.2.2.2.1 hs3
    refine ⟨1, v35, σ31, (Nat.le_trans (by decide) hD), hC6, ?_⟩
    exact ret_i h
  · replace h := of_ifn h c4
    obtain ⟨g8, h⟩ := of_gd h
    refine ⟨(inB_mp g8), ?_⟩
    refine ⟨?_, ?_⟩
    · intro e10
      replace h := of_on0 h e10
      intro τ13 e11
      replace h := of_lt h e11
      have hs12 : Sh τ13 := by rw [e11]; exact Sh_aw hs3
      obtain ⟨σ19, q13, h⟩ := of_bv h
      have hC14 := f_X9_init  q13 (X := X) (l := l)
      have hs15 := hC14.1.2.2.2.1 hs12
      refine ⟨2, σ19, (Nat.le_trans (by decide) hD), hC14, ?_⟩
      obtain ⟨g16, h⟩ := of_gd h
      refine ⟨(inB_mp g16), ?_⟩
      obtain ⟨g17, h⟩ := of_gd h
      refine ⟨(fun q => shOK_mp g17 q), ?_⟩
      intro τ27 e18
      replace h := of_lt h e18
      have hs19 : Sh τ27 := by rw [e18]; exact (fun q => shOK_mp g17 q) hs15
      exact t_X11_image_37 hD  hs19  h
    · intro b7 e10
      replace h := of_on1 h e10
      obtain ⟨g9, h⟩ := of_gd h
      refine ⟨g9.1, g9.2, ?_⟩
      exact t_X11_image_37 hD  hs3  h
theorem f_X11_image {X : Sx} {l : Launch} {x1 : Int32} {σ : AH} {v : Int32} {σ' : AH} (hs : Sh σ) (h : F_X11_image x1 σ = some (v, σ')) : Call X l m_X11_image 3 [.ref 0, .int x1] σ (some (.int v)) σ' :=
  Call.ofE ok_X11_image rfl (Nat.le_of_ble_eq_true rfl) (w_X11_image_0 hs  (t_X11_image_0 (Nat.le_refl _) hs  h))
def F_X11_back (x1 : Int32) (σ : AH) : Option (Int32 × AH) := (bd (F_X11_isIn x1 (0 : Int32) (2 : Int32) σ) fun v6 σ2 => (if v6 = 0 then (bd (F_X11_answer (-1 : Int32) σ2) fun v62 σ58 => (some (v62, σ58))) else (if inB x1 3 = true then (on (gR σ2 21 x1.toNatClampNeg) (bd (F_X11_answer (-2 : Int32) σ2) fun v56 σ52 => (some (v56, σ52))) fun b7 => if kd σ2 b7 = (9, NO 9) ∧ b7 < nx σ2 then (if inB x1 3 = true then (on (gR σ2 21 x1.toNatClampNeg) none fun b13 => if kd σ2 b13 = (9, NO 9) ∧ b13 < nx σ2 then (bv (F_X9_copyFrom 1 b13 σ2) fun σ20 => (bv (F_X3_reread (sI (sI σ20 22 1 (0 : Int32)) 68 3 (0 : Int32))) fun σ25 => (bd (F_X11_answer (0 : Int32) (sI (sI σ25 0 12 ((gI σ25 0 12) + (1 : Int32))) 0 13 ((gI (sI σ25 0 12 ((gI σ25 0 12) + (1 : Int32))) 0 13) + (1 : Int32)))) fun v34 σ30 => (some (v34, σ30))))) else none) else none) else none) else none)))
set_option maxRecDepth 100000 in
theorem t_X11_back_0 {X : Sx} {l : Launch} {D : Nat} {x1 : Int32} {σ : AH} {v : Int32} {σ' : AH} (hD : 3 ≤ D) (hs : Sh σ) (h : F_X11_back x1 σ = some (v, σ')) : W_X11_back_0 X l D x1 σ (some (.int v)) σ' := by
  unfold F_X11_back at h
  unfold W_X11_back_0
  obtain ⟨v6, σ2, q1, h⟩ := of_bd h
  have hC2 := f_X11_isIn (σ := σ) hs  q1 (X := X) (l := l)
  have hs3 := hC2.1.2.2.2.1 hs
  refine ⟨0, v6, σ2, (Nat.le_trans (by decide) hD), hC2, ?_⟩
  refine ite_i (fun c4 => ?_) (fun c4 => ?_)
  · replace h := of_ifp h c4
    obtain ⟨v62, σ58, q5, h⟩ := of_bd h
    have hC6 := f_X11_answer (σ := σ2) hs3  q5 (X := X) (l := l)
    have hs7 := hC6.1.2.2.2.1 hs3
    refine ⟨1, v62, σ58, (Nat.le_trans (by decide) hD), hC6, ?_⟩
    exact ret_i h
  · replace h := of_ifn h c4
    obtain ⟨g8, h⟩ := of_gd h
    refine ⟨(inB_mp g8), ?_⟩
    refine ⟨?_, ?_⟩
    · intro e10
      replace h := of_on0 h e10
      obtain ⟨v56, σ52, q11, h⟩ := of_bd h
      have hC12 := f_X11_answer (σ := σ2) hs3  q11 (X := X) (l := l)
      have hs13 := hC12.1.2.2.2.1 hs3
      refine ⟨1, v56, σ52, (Nat.le_trans (by decide) hD), hC12, ?_⟩
      exact ret_i h
    · intro b7 e10
      replace h := of_on1 h e10
      obtain ⟨g9, h⟩ := of_gd h
      refine ⟨g9.1, g9.2, ?_⟩
      obtain ⟨g14, h⟩ := of_gd h
      refine ⟨(inB_mp g14), ?_⟩
      refine ⟨?_, ?_⟩
      · intro e16
        replace h := of_on0 h e16
        cases h
      · intro b13 e16
        replace h := of_on1 h e16
        obtain ⟨g15, h⟩ := of_gd h
        refine ⟨g15.1, g15.2, ?_⟩
        obtain ⟨σ20, q17, h⟩ := of_bv h
        have hC18 := f_X9_copyFrom  q17 (X := X) (l := l)
        have hs19 := hC18.1.2.2.2.1 hs3
        refine ⟨2, σ20, (Nat.le_trans (by decide) hD), hC18, ?_⟩
        obtain ⟨σ25, q20, h⟩ := of_bv h
        have hC21 := f_X3_reread (σ := (sI (sI σ20 22 1 (0 : Int32)) 68 3 (0 : Int32))) hs19  q20 (X := X) (l := l)
        have hs22 := hC21.1.2.2.2.1 hs19
        refine ⟨1, σ25, (Nat.le_trans (by decide) hD), hC21, ?_⟩
        obtain ⟨v34, σ30, q23, h⟩ := of_bd h
        have hC24 := f_X11_answer (σ := (sI (sI σ25 0 12 ((gI σ25 0 12) + (1 : Int32))) 0 13 ((gI (sI σ25 0 12 ((gI σ25 0 12) + (1 : Int32))) 0 13) + (1 : Int32)))) hs22  q23 (X := X) (l := l)
        have hs25 := hC24.1.2.2.2.1 hs22
        refine ⟨1, v34, σ30, (Nat.le_trans (by decide) hD), hC24, ?_⟩
        exact ret_i h
theorem f_X11_back {X : Sx} {l : Launch} {x1 : Int32} {σ : AH} {v : Int32} {σ' : AH} (hs : Sh σ) (h : F_X11_back x1 σ = some (v, σ')) : Call X l m_X11_back 3 [.ref 0, .int x1] σ (some (.int v)) σ' :=
  Call.ofE ok_X11_back rfl (Nat.le_of_ble_eq_true rfl) (w_X11_back_0 hs  (t_X11_back_0 (Nat.le_refl _) hs  h))
def F_X11_count (x1 : Int32) (σ : AH) : Option (Int32 × AH) := (if x1 = 0 then (some ((gI σ 1 1), σ)) else (if x1 = 1 then (bd (F_X8_rows 3 σ) fun v6 σ2 => (some (v6, σ2))) else (if x1 = 2 then (bd (F_X8_rows 5 σ) fun v12 σ8 => (some (v12, σ8))) else (if x1 = 3 then (bd (F_X8_rows 9 σ) fun v18 σ14 => (some (v18, σ14))) else (if x1 = 4 then (bd (F_X8_rows 11 σ) fun v24 σ20 => (some (v24, σ20))) else (if x1 = 5 then (some ((gI σ 68 3), σ)) else (if x1 = 6 then (bd (F_X8_rows 13 σ) fun v30 σ26 => (some (v30, σ26))) else (if x1 = 7 then (some ((gI σ 1 13), σ)) else (if x1 = 8 then (some ((gI σ 1 14), σ)) else (if x1 = 9 then (some ((gI σ 22 1), σ)) else (some ((-1 : Int32), σ))))))))))))
set_option maxRecDepth 100000 in
theorem t_X11_count_0 {X : Sx} {l : Launch} {D : Nat} {x1 : Int32} {σ : AH} {v : Int32} {σ' : AH} (hD : 1 ≤ D) (hs : Sh σ) (h : F_X11_count x1 σ = some (v, σ')) : W_X11_count_0 X l D x1 σ (some (.int v)) σ' := by
  unfold F_X11_count at h
  unfold W_X11_count_0
  refine ite_i (fun c1 => ?_) (fun c1 => ?_)
  · replace h := of_ifp h c1
    exact ret_i h
  · replace h := of_ifn h c1
    refine ite_i (fun c2 => ?_) (fun c2 => ?_)
    · replace h := of_ifp h c2
      obtain ⟨v6, σ2, q3, h⟩ := of_bd h
      have hC4 := f_X8_rows  q3 (X := X) (l := l)
      have hs5 := hC4.1.2.2.2.1 hs
      refine ⟨0, v6, σ2, (Nat.le_trans (by decide) hD), hC4, ?_⟩
      exact ret_i h
    · replace h := of_ifn h c2
      refine ite_i (fun c6 => ?_) (fun c6 => ?_)
      · replace h := of_ifp h c6
        obtain ⟨v12, σ8, q7, h⟩ := of_bd h
        have hC8 := f_X8_rows  q7 (X := X) (l := l)
        have hs9 := hC8.1.2.2.2.1 hs
        refine ⟨0, v12, σ8, (Nat.le_trans (by decide) hD), hC8, ?_⟩
        exact ret_i h
      · replace h := of_ifn h c6
        refine ite_i (fun c10 => ?_) (fun c10 => ?_)
        · replace h := of_ifp h c10
          obtain ⟨v18, σ14, q11, h⟩ := of_bd h
          have hC12 := f_X8_rows  q11 (X := X) (l := l)
          have hs13 := hC12.1.2.2.2.1 hs
          refine ⟨0, v18, σ14, (Nat.le_trans (by decide) hD), hC12, ?_⟩
          exact ret_i h
        · replace h := of_ifn h c10
          refine ite_i (fun c14 => ?_) (fun c14 => ?_)
          · replace h := of_ifp h c14
            obtain ⟨v24, σ20, q15, h⟩ := of_bd h
            have hC16 := f_X8_rows  q15 (X := X) (l := l)
            have hs17 := hC16.1.2.2.2.1 hs
            refine ⟨0, v24, σ20, (Nat.le_trans (by decide) hD), hC16, ?_⟩
            exact ret_i h
          · replace h := of_ifn h c14
            refine ite_i (fun c18 => ?_) (fun c18 => ?_)
            · replace h := of_ifp h c18
              exact ret_i h
            · replace h := of_ifn h c18
              refine ite_i (fun c19 => ?_) (fun c19 => ?_)
              · replace h := of_ifp h c19
                obtain ⟨v30, σ26, q20, h⟩ := of_bd h
                have hC21 := f_X8_rows  q20 (X := X) (l := l)
                have hs22 := hC21.1.2.2.2.1 hs
                refine ⟨0, v30, σ26, (Nat.le_trans (by decide) hD), hC21, ?_⟩
                exact ret_i h
              · replace h := of_ifn h c19
                refine ite_i (fun c23 => ?_) (fun c23 => ?_)
                · replace h := of_ifp h c23
                  exact ret_i h
                · replace h := of_ifn h c23
                  refine ite_i (fun c24 => ?_) (fun c24 => ?_)
                  · replace h := of_ifp h c24
                    exact ret_i h
                  · replace h := of_ifn h c24
                    refine ite_i (fun c25 => ?_) (fun c25 => ?_)
                    · replace h := of_ifp h c25
                      exact ret_i h
                    · replace h := of_ifn h c25
                      exact ret_i h
theorem f_X11_count {X : Sx} {l : Launch} {x1 : Int32} {σ : AH} {v : Int32} {σ' : AH} (hs : Sh σ) (h : F_X11_count x1 σ = some (v, σ')) : Call X l m_X11_count 1 [.ref 0, .int x1] σ (some (.int v)) σ' :=
  Call.ofE ok_X11_count rfl (Nat.le_of_ble_eq_true rfl) (w_X11_count_0 hs  (t_X11_count_0 (Nat.le_refl _) hs  h))
def F_X11_status (σ : AH) : Option (Int32 × AH) := (some ((gI σ 0 10), σ))
set_option maxRecDepth 100000 in
theorem t_X11_status_0 {X : Sx} {l : Launch} {D : Nat} {σ : AH} {v : Int32} {σ' : AH} (hD : 0 ≤ D) (hs : Sh σ) (h : F_X11_status σ = some (v, σ')) : W_X11_status_0 X l D σ (some (.int v)) σ' := by
  unfold F_X11_status at h
  unfold W_X11_status_0
  exact ret_i h
theorem f_X11_status {X : Sx} {l : Launch} {σ : AH} {v : Int32} {σ' : AH} (hs : Sh σ) (h : F_X11_status σ = some (v, σ')) : Call X l m_X11_status 0 [.ref 0] σ (some (.int v)) σ' :=
  Call.ofE ok_X11_status rfl (Nat.le_of_ble_eq_true rfl) (w_X11_status_0 hs  (t_X11_status_0 (Nat.le_refl _) hs  h))
end
