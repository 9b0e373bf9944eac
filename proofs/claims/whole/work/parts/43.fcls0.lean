section
def F_X0_init (x0 : Nat) (x1 : Int32) (x2 : Int32) (σ : AH) : Option AH := (if kd σ x0 = (0, NO 0) then (if x0 < nx σ then (if alB m_X0_init x0 = true then (if alB m_X0_init x0 = true then (if alB m_X0_init x0 = true then (bd (F_J7_copyOf_59c91 24 (gI (sI (sI (sI σ x0 0 x1) x0 1 x2) x0 2 (gI (sI (sI σ x0 0 x1) x0 1 x2) 22 2)) 22 2) (sI (sI (sI σ x0 0 x1) x0 1 x2) x0 2 (gI (sI (sI σ x0 0 x1) x0 1 x2) 22 2))) fun b9 σ5 => if (kd σ5 b9).1 = 100 ∧ b9 < nx σ5 then (if alB m_X0_init x0 = true then (if shOK x0 3 = true then (lt (sR σ5 x0 3 (some b9)) fun τ17 => (bd (F_J7_copyOf_59c91 25 (gI τ17 22 2) τ17) fun b27 σ23 => if (kd σ23 b27).1 = 100 ∧ b27 < nx σ23 then (if alB m_X0_init x0 = true then (if shOK x0 4 = true then (lt (sR σ23 x0 4 (some b27)) fun τ35 => (bd (F_J7_copyOf_59c91 26 (gI τ35 22 2) τ35) fun b45 σ41 => if (kd σ41 b45).1 = 100 ∧ b45 < nx σ41 then (if alB m_X0_init x0 = true then (if shOK x0 5 = true then (lt (sR σ41 x0 5 (some b45)) fun τ53 => (bd (F_J7_copyOf_59c91 27 (gI τ53 22 7) τ53) fun b63 σ59 => if (kd σ59 b63).1 = 100 ∧ b63 < nx σ59 then (if alB m_X0_init x0 = true then (if shOK x0 6 = true then (lt (sR σ59 x0 6 (some b63)) fun τ71 => (some τ71)) else none) else none) else none)) else none) else none) else none)) else none) else none) else none)) else none) else none) else none) else none) else none) else none) else none) else none)
set_option maxRecDepth 100000 in
theorem t_X0_init_0 {X : Sx} {l : Launch} {D : Nat} {x0 : Nat} {x1 : Int32} {x2 : Int32} {σ : AH} {σ' : AH} (hD : 5 ≤ D) (hs : Sh σ) (h : F_X0_init x0 x1 x2 σ = some σ') : W_X0_init_0 X l D x0 x1 x2 σ none σ' := by
  unfold F_X0_init at h
  unfold W_X0_init_0
  obtain ⟨g1, h⟩ := of_gd h
  refine ⟨g1, ?_⟩
  obtain ⟨g2, h⟩ := of_gd h
  refine ⟨g2, ?_⟩
  refine ⟨Nat.le_trans (by decide) hD, ?_⟩
  obtain ⟨g3, h⟩ := of_gd h
  refine ⟨(alB_mp g3), ?_⟩
  obtain ⟨g4, h⟩ := of_gd h
  refine ⟨(alB_mp g4), ?_⟩
  obtain ⟨g5, h⟩ := of_gd h
  refine ⟨(alB_mp g5), ?_⟩
  obtain ⟨b9, σ5, q6, h⟩ := of_bd h
  have hC7 := f_J7_copyOf_59c91  q6 (X := X) (l := l)
  have hs8 := hC7.1.2.2.2.1 hs
  obtain ⟨g9, h⟩ := of_gd h
  refine ⟨4, b9, _, σ5, (Nat.le_trans (by decide) hD), hC7, Prod.ext g9.1 rfl, g9.2, ?_⟩
  obtain ⟨g10, h⟩ := of_gd h
  refine ⟨(alB_mp g10), ?_⟩
  obtain ⟨g11, h⟩ := of_gd h
  refine ⟨(fun q => shOK_mp g11 q), ?_⟩
  intro τ17 e12
  replace h := of_lt h e12
  have hs13 : Sh τ17 := by rw [e12]; exact (fun q => shOK_mp g11 q) hs8
  obtain ⟨b27, σ23, q14, h⟩ := of_bd h
  have hC15 := f_J7_copyOf_59c91  q14 (X := X) (l := l)
  have hs16 := hC15.1.2.2.2.1 hs13
  obtain ⟨g17, h⟩ := of_gd h
  refine ⟨4, b27, _, σ23, (Nat.le_trans (by decide) hD), hC15, Prod.ext g17.1 rfl, g17.2, ?_⟩
  obtain ⟨g18, h⟩ := of_gd h
  refine ⟨(alB_mp g18), ?_⟩
  obtain ⟨g19, h⟩ := of_gd h
  refine ⟨(fun q => shOK_mp g19 q), ?_⟩
  intro τ35 e20
  replace h := of_lt h e20
  have hs21 : Sh τ35 := by rw [e20]; exact (fun q => shOK_mp g19 q) hs16
  obtain ⟨b45, σ41, q22, h⟩ := of_bd h
  have hC23 := f_J7_copyOf_59c91  q22 (X := X) (l := l)
  have hs24 := hC23.1.2.2.2.1 hs21
  obtain ⟨g25, h⟩ := of_gd h
  refine ⟨4, b45, _, σ41, (Nat.le_trans (by decide) hD), hC23, Prod.ext g25.1 rfl, g25.2, ?_⟩
  obtain ⟨g26, h⟩ := of_gd h
  refine ⟨(alB_mp g26), ?_⟩
  obtain ⟨g27, h⟩ := of_gd h
  refine ⟨(fun q => shOK_mp g27 q), ?_⟩
  intro τ53 e28
  replace h := of_lt h e28
  have hs29 : Sh τ53 := by rw [e28]; exact (fun q => shOK_mp g27 q) hs24
  obtain ⟨b63, σ59, q30, h⟩ := of_bd h
  have hC31 := f_J7_copyOf_59c91  q30 (X := X) (l := l)
  have hs32 := hC31.1.2.2.2.1 hs29
  obtain ⟨g33, h⟩ := of_gd h
  refine ⟨4, b63, _, σ59, (Nat.le_trans (by decide) hD), hC31, Prod.ext g33.1 rfl, g33.2, ?_⟩
  obtain ⟨g34, h⟩ := of_gd h
  refine ⟨(alB_mp g34), ?_⟩
  obtain ⟨g35, h⟩ := of_gd h
  refine ⟨(fun q => shOK_mp g35 q), ?_⟩
  intro τ71 e36
  replace h := of_lt h e36
  have hs37 : Sh τ71 := by rw [e36]; exact (fun q => shOK_mp g35 q) hs32
  exact ret_v h
theorem f_X0_init {X : Sx} {l : Launch} {x0 : Nat} {x1 : Int32} {x2 : Int32} {σ : AH} {σ' : AH} (hs : Sh σ) (h : F_X0_init x0 x1 x2 σ = some σ') : Call X l m_X0_init 5 [.ref x0, .int x1, .int x2, .ref 22] σ none σ' :=
  Call.ofE ok_X0_init rfl (Nat.le_of_ble_eq_true rfl) (w_X0_init_0 hs  (t_X0_init_0 (Nat.le_refl _) hs  h))
def F_X7_init (x0 : Nat) (σ : AH) : Option AH := (if kd σ x0 = (7, NO 7) then (if x0 < nx σ then (lt (aw σ 100 5) fun τ1 => (if alB m_X7_init x0 = true then (if shOX τ1 x0 0 = true then (lt (sR τ1 x0 0 (some (nx σ))) fun τ10 => (lt (aw τ10 100 30) fun τ15 => (if alB m_X7_init x0 = true then (if shOX τ15 x0 1 = true then (lt (sR τ15 x0 1 (some (nx τ10))) fun τ24 => (lt (aw τ24 100 18) fun τ29 => (if alB m_X7_init x0 = true then (if shOX τ29 x0 3 = true then (lt (sR τ29 x0 3 (some (nx τ24))) fun τ38 => (lt (aw τ38 100 30) fun τ43 => (if alB m_X7_init x0 = true then (if shOX τ43 x0 4 = true then (lt (sR τ43 x0 4 (some (nx τ38))) fun τ52 => (lt (aw τ52 100 30) fun τ57 => (if alB m_X7_init x0 = true then (if shOX τ57 x0 5 = true then (lt (sR τ57 x0 5 (some (nx τ52))) fun τ66 => (lt (aw τ66 100 30) fun τ71 => (if alB m_X7_init x0 = true then (if shOX τ71 x0 6 = true then (lt (sR τ71 x0 6 (some (nx τ66))) fun τ80 => (lt (aw τ80 100 90) fun τ85 => (if alB m_X7_init x0 = true then (if shOX τ85 x0 7 = true then (lt (sR τ85 x0 7 (some (nx τ80))) fun τ94 => (lt (aw τ94 100 90) fun τ99 => (if alB m_X7_init x0 = true then (if shOX τ99 x0 8 = true then (lt (sR τ99 x0 8 (some (nx τ94))) fun τ108 => (lt (aw τ108 100 90) fun τ113 => (if alB m_X7_init x0 = true then (if shOX τ113 x0 9 = true then (lt (sR τ113 x0 9 (some (nx τ108))) fun τ122 => (some τ122)) else none) else none))) else none) else none))) else none) else none))) else none) else none))) else none) else none))) else none) else none))) else none) else none))) else none) else none))) else none) else none)) else none) else none)
set_option maxRecDepth 100000 in
theorem t_X7_init_0 {X : Sx} {l : Launch} {D : Nat} {x0 : Nat} {σ : AH} {σ' : AH} (hD : 1 ≤ D) (h : F_X7_init x0 σ = some σ') : W_X7_init_0 X l D x0 σ none σ' := by
  unfold F_X7_init at h
  unfold W_X7_init_0
  obtain ⟨g1, h⟩ := of_gd h
  refine ⟨g1, ?_⟩
  obtain ⟨g2, h⟩ := of_gd h
  refine ⟨g2, ?_⟩
  refine ⟨Nat.le_trans (by decide) hD, ?_⟩
  intro τ1 e3
  replace h := of_lt h e3
  obtain ⟨g4, h⟩ := of_gd h
  refine ⟨(alB_mp g4), ?_⟩
  obtain ⟨g5, h⟩ := of_gd h
  refine ⟨(fun q => shOX_mp g5 q), ?_⟩
  intro τ10 e6
  replace h := of_lt h e6
  intro τ15 e7
  replace h := of_lt h e7
  obtain ⟨g8, h⟩ := of_gd h
  refine ⟨(alB_mp g8), ?_⟩
  obtain ⟨g9, h⟩ := of_gd h
  refine ⟨(fun q => shOX_mp g9 q), ?_⟩
  intro τ24 e10
  replace h := of_lt h e10
  intro τ29 e11
  replace h := of_lt h e11
  obtain ⟨g12, h⟩ := of_gd h
  refine ⟨(alB_mp g12), ?_⟩
  obtain ⟨g13, h⟩ := of_gd h
  refine ⟨(fun q => shOX_mp g13 q), ?_⟩
  intro τ38 e14
  replace h := of_lt h e14
  intro τ43 e15
  replace h := of_lt h e15
  obtain ⟨g16, h⟩ := of_gd h
  refine ⟨(alB_mp g16), ?_⟩
  obtain ⟨g17, h⟩ := of_gd h
  refine ⟨(fun q => shOX_mp g17 q), ?_⟩
  intro τ52 e18
  replace h := of_lt h e18
  intro τ57 e19
  replace h := of_lt h e19
  obtain ⟨g20, h⟩ := of_gd h
  refine ⟨(alB_mp g20), ?_⟩
  obtain ⟨g21, h⟩ := of_gd h
  refine ⟨(fun q => shOX_mp g21 q), ?_⟩
  intro τ66 e22
  replace h := of_lt h e22
  intro τ71 e23
  replace h := of_lt h e23
  obtain ⟨g24, h⟩ := of_gd h
  refine ⟨(alB_mp g24), ?_⟩
  obtain ⟨g25, h⟩ := of_gd h
  refine ⟨(fun q => shOX_mp g25 q), ?_⟩
  intro τ80 e26
  replace h := of_lt h e26
  intro τ85 e27
  replace h := of_lt h e27
  obtain ⟨g28, h⟩ := of_gd h
  refine ⟨(alB_mp g28), ?_⟩
  obtain ⟨g29, h⟩ := of_gd h
  refine ⟨(fun q => shOX_mp g29 q), ?_⟩
  intro τ94 e30
  replace h := of_lt h e30
  intro τ99 e31
  replace h := of_lt h e31
  obtain ⟨g32, h⟩ := of_gd h
  refine ⟨(alB_mp g32), ?_⟩
  obtain ⟨g33, h⟩ := of_gd h
  refine ⟨(fun q => shOX_mp g33 q), ?_⟩
  intro τ108 e34
  replace h := of_lt h e34
  intro τ113 e35
  replace h := of_lt h e35
  obtain ⟨g36, h⟩ := of_gd h
  refine ⟨(alB_mp g36), ?_⟩
  obtain ⟨g37, h⟩ := of_gd h
  refine ⟨(fun q => shOX_mp g37 q), ?_⟩
  intro τ122 e38
  replace h := of_lt h e38
  exact ret_v h
theorem f_X7_init {X : Sx} {l : Launch} {x0 : Nat} {σ : AH} {σ' : AH} (h : F_X7_init x0 σ = some σ') : Call X l m_X7_init 1 [.ref x0] σ none σ' :=
  Call.ofE ok_X7_init rfl (Nat.le_of_ble_eq_true rfl) (w_X7_init_0  (t_X7_init_0 (Nat.le_refl _)  h))
def B_X1_init_79 (k_X1_init_79 : Nat → Int32 → AH → Option AH) (x0 : Nat) (x3 : Int32) (σ : AH) : Option AH := (if kd σ x0 = (1, NO 1) then (if x0 < nx σ then (if (3 : Int32) ≤ x3 then (some σ) else (bo (gR σ x0 8) fun b125 => if (kd σ b125).1 = 105 ∧ b125 < nx σ then (lt (aw σ 7 (NO 7)) fun τ130 => (bv (F_X7_init (nx σ) τ130) fun σ140 => (if alB m_X1_init b125 = true then (if inB x3 (kd σ b125).2 = true then (if shOX σ140 b125 x3.toNatClampNeg = true then (lt (sR σ140 b125 x3.toNatClampNeg (some (nx σ))) fun τ153 => (k_X1_init_79 x0 (x3 + 1) τ153)) else none) else none) else none))) else none)) else none) else none)
def F_X1_init_79 : Nat → Nat → Int32 → AH → Option AH := fun k => match k with | 0 => fun _ _ _ => none | k + 1 => B_X1_init_79 (F_X1_init_79 k)
def F_X1_init (x0 : Nat) (x1 : Nat) (x2 : Nat) (σ : AH) : Option AH := (if kd σ x0 = (1, NO 1) then (if x0 < nx σ then (if kd σ x1 = (9, NO 9) then (if x1 < nx σ then (lt (aw σ 100 6) fun τ1 => (if alB m_X1_init x0 = true then (if shOX τ1 x0 2 = true then (lt (sR τ1 x0 2 (some (nx σ))) fun τ12 => (lt (aw τ12 7 (NO 7)) fun τ19 => (bv (F_X7_init (nx τ12) τ19) fun σ29 => (if alB m_X1_init x0 = true then (if shOX σ29 x0 5 = true then (lt (sR σ29 x0 5 (some (nx τ12))) fun τ41 => (if alB m_X1_init x0 = true then (if alB m_X1_init x0 = true then (lt (aw (sI (sI τ41 x0 6 (-1 : Int32)) x0 7 (-1 : Int32)) 105 3) fun τ50 => (if alB m_X1_init x0 = true then (if shOX τ50 x0 8 = true then (lt (sR τ50 x0 8 (some (nx (sI (sI τ41 x0 6 (-1 : Int32)) x0 7 (-1 : Int32))))) fun τ61 => (lt (aw τ61 100 6) fun τ68 => (if alB m_X1_init x0 = true then (if shOX τ68 x0 9 = true then (lt (sR τ68 x0 9 (some (nx τ61))) fun τ79 => (lt (aw τ79 100 6) fun τ86 => (if alB m_X1_init x0 = true then (if shOX τ86 x0 10 = true then (lt (sR τ86 x0 10 (some (nx τ79))) fun τ97 => (if alB m_X1_init x0 = true then (if alB m_X1_init x0 = true then (if alB m_X1_init x0 = true then (if shOX (sI (sI τ97 x0 12 (-1 : Int32)) x0 13 (-1 : Int32)) x0 0 = true then (lt (sR (sI (sI τ97 x0 12 (-1 : Int32)) x0 13 (-1 : Int32)) x0 0 (some x1)) fun τ108 => (if alB m_X1_init x0 = true then (if shOX τ108 x0 1 = true then (lt (sR τ108 x0 1 (some x2)) fun τ117 => (F_X1_init_79 BIG x0 (0 : Int32) τ117)) else none) else none)) else none) else none) else none) else none)) else none) else none))) else none) else none))) else none) else none)) else none) else none)) else none) else none)))) else none) else none)) else none) else none) else none) else none)
set_option maxRecDepth 100000 in
theorem t_X1_init_79 {X : Sx} {l : Launch} {D : Nat} {k_X1_init_79 : Nat → Int32 → AH → Option AH} {x0 : Nat} {x3 : Int32} {σ : AH} {σ' : AH} (hD : 2 ≤ D) (hk_X1_init_79 : ∀ (x0 : Nat) (x3 : Int32) (σ : AH) (σ' : AH), k_X1_init_79 x0 x3 σ = some σ' → E X l m_X1_init D 79 [(0, .ref x0), (3, .int x3)] [] σ none σ') (h : B_X1_init_79 k_X1_init_79 x0 x3 σ = some σ') : W_X1_init_79 X l D x0 x3 σ none σ' := by
  unfold B_X1_init_79 at h
  unfold W_X1_init_79
  obtain ⟨g1, h⟩ := of_gd h
  refine ⟨g1, ?_⟩
  obtain ⟨g2, h⟩ := of_gd h
  refine ⟨g2, ?_⟩
  refine ite_i (fun c3 => ?_) (fun c3 => ?_)
  · replace h := of_ifp h c3
    exact ret_v h
  · replace h := of_ifn h c3
    obtain ⟨b125, e5, h⟩ := of_bo h
    obtain ⟨g4, h⟩ := of_gd h
    refine ⟨b125, _, e5, Prod.ext g4.1 rfl, g4.2, ?_⟩
    intro τ130 e6
    replace h := of_lt h e6
    obtain ⟨σ140, q7, h⟩ := of_bv h
    have hC8 := f_X7_init  q7 (X := X) (l := l)
    refine ⟨1, σ140, (Nat.le_trans (by decide) hD), hC8, ?_⟩
    obtain ⟨g10, h⟩ := of_gd h
    refine ⟨(alB_mp g10), ?_⟩
    obtain ⟨g11, h⟩ := of_gd h
    refine ⟨(inB_mp g11), ?_⟩
    obtain ⟨g12, h⟩ := of_gd h
    refine ⟨(fun q => shOX_mp g12 q), ?_⟩
    intro τ153 e13
    replace h := of_lt h e13
    exact hk_X1_init_79 _ _ _ _   h
theorem e_X1_init_79 {X : Sx} {l : Launch} {D : Nat} (hD : 2 ≤ D) : ∀ (k : Nat) (x0 : Nat) (x3 : Int32) (σ : AH) (σ' : AH), F_X1_init_79 k x0 x3 σ = some σ' → E X l m_X1_init D 79 [(0, .ref x0), (3, .int x3)] [] σ none σ' := by
  intro k
  induction k with
  | zero => intro x0 x3 σ σ' h; cases h
  | succ k ih =>
    intro x0 x3 σ σ' h
    exact w_X1_init_79  (t_X1_init_79 hD ih  h)
set_option maxRecDepth 100000 in
theorem t_X1_init_0 {X : Sx} {l : Launch} {D : Nat} {x0 : Nat} {x1 : Nat} {x2 : Nat} {σ : AH} {σ' : AH} (hD : 2 ≤ D) (h : F_X1_init x0 x1 x2 σ = some σ') : W_X1_init_0 X l D x0 x1 x2 σ none σ' := by
  unfold F_X1_init at h
  unfold W_X1_init_0
  obtain ⟨g1, h⟩ := of_gd h
  refine ⟨g1, ?_⟩
  obtain ⟨g2, h⟩ := of_gd h
  refine ⟨g2, ?_⟩
  obtain ⟨g3, h⟩ := of_gd h
  refine ⟨g3, ?_⟩
  obtain ⟨g4, h⟩ := of_gd h
  refine ⟨g4, ?_⟩
  refine ⟨Nat.le_trans (by decide) hD, ?_⟩
  intro τ1 e5
  replace h := of_lt h e5
  obtain ⟨g6, h⟩ := of_gd h
  refine ⟨(alB_mp g6), ?_⟩
  obtain ⟨g7, h⟩ := of_gd h
  refine ⟨(fun q => shOX_mp g7 q), ?_⟩
  intro τ12 e8
  replace h := of_lt h e8
  intro τ19 e9
  replace h := of_lt h e9
  obtain ⟨σ29, q10, h⟩ := of_bv h
  have hC11 := f_X7_init  q10 (X := X) (l := l)
  refine ⟨1, σ29, (Nat.le_trans (by decide) hD), hC11, ?_⟩
  obtain ⟨g13, h⟩ := of_gd h
  refine ⟨(alB_mp g13), ?_⟩
  obtain ⟨g14, h⟩ := of_gd h
  refine ⟨(fun q => shOX_mp g14 q), ?_⟩
  intro τ41 e15
  replace h := of_lt h e15
  obtain ⟨g16, h⟩ := of_gd h
  refine ⟨(alB_mp g16), ?_⟩
  obtain ⟨g17, h⟩ := of_gd h
  refine ⟨(alB_mp g17), ?_⟩
  intro τ50 e18
  replace h := of_lt h e18
  obtain ⟨g19, h⟩ := of_gd h
  refine ⟨(alB_mp g19), ?_⟩
  obtain ⟨g20, h⟩ := of_gd h
  refine ⟨(fun q => shOX_mp g20 q), ?_⟩
  intro τ61 e21
  replace h := of_lt h e21
  intro τ68 e22
  replace h := of_lt h e22
  obtain ⟨g23, h⟩ := of_gd h
  refine ⟨(alB_mp g23), ?_⟩
  obtain ⟨g24, h⟩ := of_gd h
  refine ⟨(fun q => shOX_mp g24 q), ?_⟩
  intro τ79 e25
  replace h := of_lt h e25
  intro τ86 e26
  replace h := of_lt h e26
  obtain ⟨g27, h⟩ := of_gd h
  refine ⟨(alB_mp g27), ?_⟩
  obtain ⟨g28, h⟩ := of_gd h
  refine ⟨(fun q => shOX_mp g28 q), ?_⟩
  intro τ97 e29
  replace h := of_lt h e29
  obtain ⟨g30, h⟩ := of_gd h
  refine ⟨(alB_mp g30), ?_⟩
  obtain ⟨g31, h⟩ := of_gd h
  refine ⟨(alB_mp g31), ?_⟩
  obtain ⟨g32, h⟩ := of_gd h
  refine ⟨(alB_mp g32), ?_⟩
  obtain ⟨g33, h⟩ := of_gd h
  refine ⟨(fun q => shOX_mp g33 q), ?_⟩
  intro τ108 e34
  replace h := of_lt h e34
  obtain ⟨g35, h⟩ := of_gd h
  refine ⟨(alB_mp g35), ?_⟩
  obtain ⟨g36, h⟩ := of_gd h
  refine ⟨(fun q => shOX_mp g36 q), ?_⟩
  intro τ117 e37
  replace h := of_lt h e37
  exact e_X1_init_79 hD  _ _ _ _ _   h
theorem f_X1_init {X : Sx} {l : Launch} {x0 : Nat} {x1 : Nat} {x2 : Nat} {σ : AH} {σ' : AH} (h : F_X1_init x0 x1 x2 σ = some σ') : Call X l m_X1_init 2 [.ref x0, .ref x1, .ref x2] σ none σ' :=
  Call.ofE ok_X1_init rfl (Nat.le_of_ble_eq_true rfl) (w_X1_init_0  (t_X1_init_0 (Nat.le_refl _)  h))
def B_X1_isWished_2 (k_X1_isWished_2 : Int32 → Int32 → AH → Option (Int32 × AH)) (x1 : Int32) (x2 : Int32) (σ : AH) : Option (Int32 × AH) := (if (gI σ 68 3) ≤ x2 then (some ((0 : Int32), σ)) else (if inB x2 6 = true then (if (gI σ 69 x2.toNatClampNeg) = x1 then (some ((1 : Int32), σ)) else (k_X1_isWished_2 x1 (x2 + 1) σ)) else none))
def F_X1_isWished_2 : Nat → Int32 → Int32 → AH → Option (Int32 × AH) := fun k => match k with | 0 => fun _ _ _ => none | k + 1 => B_X1_isWished_2 (F_X1_isWished_2 k)
def F_X1_isWished (x1 : Int32) (σ : AH) : Option (Int32 × AH) := (F_X1_isWished_2 BIG x1 (0 : Int32) σ)
set_option maxRecDepth 100000 in
theorem t_X1_isWished_2 {X : Sx} {l : Launch} {D : Nat} {k_X1_isWished_2 : Int32 → Int32 → AH → Option (Int32 × AH)} {x1 : Int32} {x2 : Int32} {σ : AH} {v : Int32} {σ' : AH} (hD : 0 ≤ D) (hk_X1_isWished_2 : ∀ (x1 : Int32) (x2 : Int32) (σ : AH) (v : Int32) (σ' : AH), Sh σ → k_X1_isWished_2 x1 x2 σ = some (v, σ') → E X l m_X1_isWished D 2 [(0, .ref 68), (1, .int x1), (2, .int x2)] [] σ (some (.int v)) σ') (hs : Sh σ) (h : B_X1_isWished_2 k_X1_isWished_2 x1 x2 σ = some (v, σ')) : W_X1_isWished_2 X l D x1 x2 σ (some (.int v)) σ' := by
  unfold B_X1_isWished_2 at h
  unfold W_X1_isWished_2
  refine ite_i (fun c1 => ?_) (fun c1 => ?_)
  · replace h := of_ifp h c1
    exact ret_i h
  · replace h := of_ifn h c1
    obtain ⟨g2, h⟩ := of_gd h
    refine ⟨(inB_mp g2), ?_⟩
    refine ite_i (fun c3 => ?_) (fun c3 => ?_)
    · replace h := of_ifp h c3
      exact ret_i h
    · replace h := of_ifn h c3
      exact hk_X1_isWished_2 _ _ _ _ _ hs  h
theorem e_X1_isWished_2 {X : Sx} {l : Launch} {D : Nat} (hD : 0 ≤ D) : ∀ (k : Nat) (x1 : Int32) (x2 : Int32) (σ : AH) (v : Int32) (σ' : AH), Sh σ → F_X1_isWished_2 k x1 x2 σ = some (v, σ') → E X l m_X1_isWished D 2 [(0, .ref 68), (1, .int x1), (2, .int x2)] [] σ (some (.int v)) σ' := by
  intro k
  induction k with
  | zero => intro x1 x2 σ v σ' hs h; cases h
  | succ k ih =>
    intro x1 x2 σ v σ' hs h
    exact w_X1_isWished_2 hs  (t_X1_isWished_2 hD ih hs  h)
set_option maxRecDepth 100000 in
theorem t_X1_isWished_0 {X : Sx} {l : Launch} {D : Nat} {x1 : Int32} {σ : AH} {v : Int32} {σ' : AH} (hD : 0 ≤ D) (hs : Sh σ) (h : F_X1_isWished x1 σ = some (v, σ')) : W_X1_isWished_0 X l D x1 σ (some (.int v)) σ' := by
  unfold F_X1_isWished at h
  unfold W_X1_isWished_0
  exact e_X1_isWished_2 hD  _ _ _ _ _ _ hs  h
theorem f_X1_isWished {X : Sx} {l : Launch} {x1 : Int32} {σ : AH} {v : Int32} {σ' : AH} (hs : Sh σ) (h : F_X1_isWished x1 σ = some (v, σ')) : Call X l m_X1_isWished 0 [.ref 68, .int x1] σ (some (.int v)) σ' :=
  Call.ofE ok_X1_isWished rfl (Nat.le_of_ble_eq_true rfl) (w_X1_isWished_0 hs  (t_X1_isWished_0 (Nat.le_refl _) hs  h))
def F_X7_empty (x0 : Nat) (σ : AH) : Option AH := (lt (sA σ (x0 + 1) (filln (gI σ (x0 + 1)) 5 (0 : Int32))) fun τ2 => (lt (sA (sI τ2 x0 2 (0 : Int32)) (x0 + 3) (filln (gI (sI τ2 x0 2 (0 : Int32)) (x0 + 3)) 18 (0 : Int32))) fun τ6 => (lt (sA τ6 (x0 + 4) (filln (gI τ6 (x0 + 4)) 30 (0 : Int32))) fun τ10 => (lt (sA τ10 (x0 + 5) (filln (gI τ10 (x0 + 5)) 30 (0 : Int32))) fun τ14 => (lt (sA τ14 (x0 + 6) (filln (gI τ14 (x0 + 6)) 30 (-1 : Int32))) fun τ18 => (lt (sA τ18 (x0 + 7) (filln (gI τ18 (x0 + 7)) 90 (-1 : Int32))) fun τ22 => (lt (sA τ22 (x0 + 8) (filln (gI τ22 (x0 + 8)) 90 (-1 : Int32))) fun τ26 => (lt (sA τ26 (x0 + 9) (filln (gI τ26 (x0 + 9)) 90 (-1 : Int32))) fun τ30 => (some τ30)))))))))
set_option maxRecDepth 100000 in
theorem t_X7_empty_0 {X : Sx} {l : Launch} {D : Nat} {x0 : Nat} {σ : AH} {σ' : AH} (hD : 1 ≤ D) (hs : Sh σ) (hmx0 : x0 ∈ siteIds) (h : F_X7_empty x0 σ = some σ') : W_X7_empty_0 X l D x0 σ none σ' := by
  unfold F_X7_empty at h
  unfold W_X7_empty_0
  refine ⟨Nat.le_trans (by decide) hD, ?_⟩
  intro τ2 e1
  replace h := of_lt h e1
  have hs2 : Sh τ2 := by rw [e1]; exact hs
  refine ⟨Nat.le_trans (by decide) hD, ?_⟩
  intro τ6 e3
  replace h := of_lt h e3
  have hs4 : Sh τ6 := by rw [e3]; exact hs2
  refine ⟨Nat.le_trans (by decide) hD, ?_⟩
  intro τ10 e5
  replace h := of_lt h e5
  have hs6 : Sh τ10 := by rw [e5]; exact hs4
  refine ⟨Nat.le_trans (by decide) hD, ?_⟩
  intro τ14 e7
  replace h := of_lt h e7
  have hs8 : Sh τ14 := by rw [e7]; exact hs6
  refine ⟨Nat.le_trans (by decide) hD, ?_⟩
  intro τ18 e9
  replace h := of_lt h e9
  have hs10 : Sh τ18 := by rw [e9]; exact hs8
  refine ⟨Nat.le_trans (by decide) hD, ?_⟩
  intro τ22 e11
  replace h := of_lt h e11
  have hs12 : Sh τ22 := by rw [e11]; exact hs10
  refine ⟨Nat.le_trans (by decide) hD, ?_⟩
  intro τ26 e13
  replace h := of_lt h e13
  have hs14 : Sh τ26 := by rw [e13]; exact hs12
  refine ⟨Nat.le_trans (by decide) hD, ?_⟩
  intro τ30 e15
  replace h := of_lt h e15
  have hs16 : Sh τ30 := by rw [e15]; exact hs14
  exact ret_v h
theorem f_X7_empty {X : Sx} {l : Launch} {x0 : Nat} {σ : AH} {σ' : AH} (hs : Sh σ) (hmx0 : x0 ∈ siteIds) (h : F_X7_empty x0 σ = some σ') : Call X l m_X7_empty 1 [.ref x0] σ none σ' :=
  Call.ofE ok_X7_empty rfl (Nat.le_of_ble_eq_true rfl) (w_X7_empty_0 hs hmx0 (t_X7_empty_0 (Nat.le_refl _) hs hmx0 h))
def F_X8_at (x0 : Nat) (x1 : Int32) (x2 : Int32) (σ : AH) : Option (Int32 × AH) := (if kd σ x0 = (8, NO 8) then (if x0 < nx σ then (if ((x1 * (gI σ x0 0)) + x2) < 0 then (some ((0 : Int32), σ)) else (bo (gR σ x0 2) fun b1 => if (kd σ b1).1 = 100 ∧ b1 < nx σ then (if (Int32.ofNat (kd σ b1).2) ≤ ((x1 * (gI σ x0 0)) + x2) then (some ((0 : Int32), σ)) else (bo (gR σ x0 2) fun b6 => if (kd σ b6).1 = 100 ∧ b6 < nx σ then (if inB ((x1 * (gI σ x0 0)) + x2) (kd σ b6).2 = true then (some ((gI σ b6 ((x1 * (gI σ x0 0)) + x2).toNatClampNeg), σ)) else none) else none)) else none)) else none) else none)
set_option maxRecDepth 100000 in
theorem t_X8_at_0 {X : Sx} {l : Launch} {D : Nat} {x0 : Nat} {x1 : Int32} {x2 : Int32} {σ : AH} {v : Int32} {σ' : AH} (hD : 0 ≤ D) (h : F_X8_at x0 x1 x2 σ = some (v, σ')) : W_X8_at_0 X l D x0 x1 x2 σ (some (.int v)) σ' := by
  unfold F_X8_at at h
  unfold W_X8_at_0
  obtain ⟨g1, h⟩ := of_gd h
  refine ⟨g1, ?_⟩
  obtain ⟨g2, h⟩ := of_gd h
  refine ⟨g2, ?_⟩
  refine ite_i (fun c3 => ?_) (fun c3 => ?_)
  · replace h := of_ifp h c3
    exact ret_i h
  · replace h := of_ifn h c3
    obtain ⟨b1, e5, h⟩ := of_bo h
    obtain ⟨g4, h⟩ := of_gd h
    refine ⟨b1, _, e5, Prod.ext g4.1 rfl, g4.2, ?_⟩
    refine ite_i (fun c6 => ?_) (fun c6 => ?_)
    · replace h := of_ifp h c6
      exact ret_i h
    · replace h := of_ifn h c6
      obtain ⟨b6, e8, h⟩ := of_bo h
      obtain ⟨g7, h⟩ := of_gd h
      refine ⟨b6, _, e8, Prod.ext g7.1 rfl, g7.2, ?_⟩
      obtain ⟨g9, h⟩ := of_gd h
      refine ⟨(inB_mp g9), ?_⟩
      exact ret_i h
theorem f_X8_at {X : Sx} {l : Launch} {x0 : Nat} {x1 : Int32} {x2 : Int32} {σ : AH} {v : Int32} {σ' : AH} (h : F_X8_at x0 x1 x2 σ = some (v, σ')) : Call X l m_X8_at 0 [.ref x0, .int x1, .int x2] σ (some (.int v)) σ' :=
  Call.ofE ok_X8_at rfl (Nat.le_of_ble_eq_true rfl) (w_X8_at_0  (t_X8_at_0 (Nat.le_refl _)  h))
def F_X8_rows (x0 : Nat) (σ : AH) : Option (Int32 × AH) := (if kd σ x0 = (8, NO 8) then (if x0 < nx σ then (some ((gI σ x0 3), σ)) else none) else none)
set_option maxRecDepth 100000 in
theorem t_X8_rows_0 {X : Sx} {l : Launch} {D : Nat} {x0 : Nat} {σ : AH} {v : Int32} {σ' : AH} (hD : 0 ≤ D) (h : F_X8_rows x0 σ = some (v, σ')) : W_X8_rows_0 X l D x0 σ (some (.int v)) σ' := by
  unfold F_X8_rows at h
  unfold W_X8_rows_0
  obtain ⟨g1, h⟩ := of_gd h
  refine ⟨g1, ?_⟩
  obtain ⟨g2, h⟩ := of_gd h
  refine ⟨g2, ?_⟩
  exact ret_i h
theorem f_X8_rows {X : Sx} {l : Launch} {x0 : Nat} {σ : AH} {v : Int32} {σ' : AH} (h : F_X8_rows x0 σ = some (v, σ')) : Call X l m_X8_rows 0 [.ref x0] σ (some (.int v)) σ' :=
  Call.ofE ok_X8_rows rfl (Nat.le_of_ble_eq_true rfl) (w_X8_rows_0  (t_X8_rows_0 (Nat.le_refl _)  h))
def F_X10_bringDeliveries_114 (k_X10_bringDeliveries_10 : Int32 → AH → Option AH) (x1 : Int32) (σ : AH) : Option AH := (k_X10_bringDeliveries_10 (x1 + 1) σ)
def F_X10_bringDeliveries_61 (k_X10_bringDeliveries_10 : Int32 → AH → Option AH) (x1 : Int32) (x2 : Int32) (y0 : Int32) (y1 : Int32) (σ : AH) : Option AH := (bd (F_X8_at 3 x1 (3 : Int32) σ) fun v28 σ24 => (if (gI σ24 34 2) < v28 then (F_X10_bringDeliveries_114 k_X10_bringDeliveries_10 x1 σ24) else (if (260 : Int32) ≤ (y1 + y0) then (F_X10_bringDeliveries_114 k_X10_bringDeliveries_10 x1 σ24) else (if inB (((y1 + y0) * (5 : Int32)) + x2) 1300 = true then (bd (F_X8_at 3 x1 (2 : Int32) σ24) fun v35 σ31 => (if inB (((y1 + y0) * (5 : Int32)) + x2) 1300 = true then (F_X10_bringDeliveries_114 k_X10_bringDeliveries_10 x1 (sI σ31 35 ((((y1 + y0) * (5 : Int32)) + x2).toNatClampNeg) ((gI σ24 35 (((y1 + y0) * (5 : Int32)) + x2).toNatClampNeg) + v35))) else none)) else none))))
def B_X10_bringDeliveries_10 (k_X10_bringDeliveries_10 : Int32 → AH → Option AH) (x1 : Int32) (σ : AH) : Option AH := (bd (F_X8_rows 3 σ) fun v10 σ6 => (if v10 ≤ x1 then (some σ6) else (bd (F_X8_at 3 x1 (0 : Int32) σ6) fun v16 σ12 => (bd (F_X8_at 3 x1 (1 : Int32) σ12) fun v22 σ18 => (if v16 = 0 then (F_X10_bringDeliveries_61 k_X10_bringDeliveries_10 x1 v16 (gI σ18 34 3) v22 σ18) else (F_X10_bringDeliveries_61 k_X10_bringDeliveries_10 x1 v16 (0 : Int32) v22 σ18))))))
def F_X10_bringDeliveries_10 : Nat → Int32 → AH → Option AH := fun k => match k with | 0 => fun _ _ => none | k + 1 => B_X10_bringDeliveries_10 (F_X10_bringDeliveries_10 k)
def F_X10_bringDeliveries (σ : AH) : Option AH := (lt (sA σ 35 (filln (gI σ 35) 1300 (0 : Int32))) fun τ2 => (F_X10_bringDeliveries_10 BIG (0 : Int32) τ2))
set_option maxRecDepth 100000 in
theorem t_X10_bringDeliveries_114 {X : Sx} {l : Launch} {D : Nat} {k_X10_bringDeliveries_10 : Int32 → AH → Option AH} {x1 : Int32} {σ : AH} {σ' : AH} (hD : 1 ≤ D) (hk_X10_bringDeliveries_10 : ∀ (x1 : Int32) (σ : AH) (σ' : AH), Sh σ → k_X10_bringDeliveries_10 x1 σ = some σ' → E X l m_X10_bringDeliveries D 10 [(0, .ref 34), (1, .int x1)] [] σ none σ') (hs : Sh σ) (h : F_X10_bringDeliveries_114 k_X10_bringDeliveries_10 x1 σ = some σ') : W_X10_bringDeliveries_114 X l D x1 σ none σ' := by
  unfold F_X10_bringDeliveries_114 at h
  unfold W_X10_bringDeliveries_114
  exact hk_X10_bringDeliveries_10 _ _ _ hs  h
set_option maxRecDepth 100000 in
theorem t_X10_bringDeliveries_61 {X : Sx} {l : Launch} {D : Nat} {k_X10_bringDeliveries_10 : Int32 → AH → Option AH} {x1 : Int32} {x2 : Int32} {y0 : Int32} {y1 : Int32} {σ : AH} {σ' : AH} (hD : 1 ≤ D) (hk_X10_bringDeliveries_10 : ∀ (x1 : Int32) (σ : AH) (σ' : AH), Sh σ → k_X10_bringDeliveries_10 x1 σ = some σ' → E X l m_X10_bringDeliveries D 10 [(0, .ref 34), (1, .int x1)] [] σ none σ') (hs : Sh σ) (h : F_X10_bringDeliveries_61 k_X10_bringDeliveries_10 x1 x2 y0 y1 σ = some σ') : W_X10_bringDeliveries_61 X l D x1 x2 y0 y1 σ none σ' := by
  unfold F_X10_bringDeliveries_61 at h
  unfold W_X10_bringDeliveries_61
  obtain ⟨v28, σ24, q1, h⟩ := of_bd h
  have hC2 := f_X8_at  q1 (X := X) (l := l)
  have hs3 := hC2.1.2.2.2.1 hs
  refine ⟨0, v28, σ24, (Nat.le_trans (by decide) hD), hC2, ?_⟩
  refine ite_i (fun c4 => ?_) (fun c4 => ?_)
  · replace h := of_ifp h c4
    exact t_X10_bringDeliveries_114 hD hk_X10_bringDeliveries_10 hs3  h
  · replace h := of_ifn h c4
    refine ite_i (fun c5 => ?_) (fun c5 => ?_)
    · replace h := of_ifp h c5
      exact t_X10_bringDeliveries_114 hD hk_X10_bringDeliveries_10 hs3  h
    · replace h := of_ifn h c5
      obtain ⟨g6, h⟩ := of_gd h
      refine ⟨(inB_mp g6), ?_⟩
      obtain ⟨v35, σ31, q7, h⟩ := of_bd h
      have hC8 := f_X8_at  q7 (X := X) (l := l)
      have hs9 := hC8.1.2.2.2.1 hs3
      refine ⟨0, v35, σ31, (Nat.le_trans (by decide) hD), hC8, ?_⟩
      obtain ⟨g10, h⟩ := of_gd h
      refine ⟨(inB_mp g10), ?_⟩
      exact t_X10_bringDeliveries_114 hD hk_X10_bringDeliveries_10 hs9  h
set_option maxRecDepth 100000 in
theorem t_X10_bringDeliveries_10 {X : Sx} {l : Launch} {D : Nat} {k_X10_bringDeliveries_10 : Int32 → AH → Option AH} {x1 : Int32} {σ : AH} {σ' : AH} (hD : 1 ≤ D) (hk_X10_bringDeliveries_10 : ∀ (x1 : Int32) (σ : AH) (σ' : AH), Sh σ → k_X10_bringDeliveries_10 x1 σ = some σ' → E X l m_X10_bringDeliveries D 10 [(0, .ref 34), (1, .int x1)] [] σ none σ') (hs : Sh σ) (h : B_X10_bringDeliveries_10 k_X10_bringDeliveries_10 x1 σ = some σ') : W_X10_bringDeliveries_10 X l D x1 σ none σ' := by
  unfold B_X10_bringDeliveries_10 at h
  unfold W_X10_bringDeliveries_10
  obtain ⟨v10, σ6, q1, h⟩ := of_bd h
  have hC2 := f_X8_rows  q1 (X := X) (l := l)
  have hs3 := hC2.1.2.2.2.1 hs
  refine ⟨0, v10, σ6, (Nat.le_trans (by decide) hD), hC2, ?_⟩
  refine ite_i (fun c4 => ?_) (fun c4 => ?_)
  · replace h := of_ifp h c4
    exact ret_v h
  · replace h := of_ifn h c4
    obtain ⟨v16, σ12, q5, h⟩ := of_bd h
    have hC6 := f_X8_at  q5 (X := X) (l := l)
    have hs7 := hC6.1.2.2.2.1 hs3
    refine ⟨0, v16, σ12, (Nat.le_trans (by decide) hD), hC6, ?_⟩
    obtain ⟨v22, σ18, q8, h⟩ := of_bd h
    have hC9 := f_X8_at  q8 (X := X) (l := l)
    have hs10 := hC9.1.2.2.2.1 hs7
    refine ⟨0, v22, σ18, (Nat.le_trans (by decide) hD), hC9, ?_⟩
    refine ite_i (fun c11 => ?_) (fun c11 => ?_)
    · replace h := of_ifp h c11
      exact t_X10_bringDeliveries_61 hD hk_X10_bringDeliveries_10 hs10  h
    · replace h := of_ifn h c11
      exact t_X10_bringDeliveries_61 hD hk_X10_bringDeliveries_10 hs10  h
theorem e_X10_bringDeliveries_10 {X : Sx} {l : Launch} {D : Nat} (hD : 1 ≤ D) : ∀ (k : Nat) (x1 : Int32) (σ : AH) (σ' : AH), Sh σ → F_X10_bringDeliveries_10 k x1 σ = some σ' → E X l m_X10_bringDeliveries D 10 [(0, .ref 34), (1, .int x1)] [] σ none σ' := by
  intro k
  induction k with
  | zero => intro x1 σ σ' hs h; cases h
  | succ k ih =>
    intro x1 σ σ' hs h
    exact w_X10_bringDeliveries_10 hs  (t_X10_bringDeliveries_10 hD ih hs  h)
set_option maxRecDepth 100000 in
theorem t_X10_bringDeliveries_0 {X : Sx} {l : Launch} {D : Nat} {σ : AH} {σ' : AH} (hD : 1 ≤ D) (hs : Sh σ) (h : F_X10_bringDeliveries σ = some σ') : W_X10_bringDeliveries_0 X l D σ none σ' := by
  unfold F_X10_bringDeliveries at h
  unfold W_X10_bringDeliveries_0
  refine ⟨Nat.le_trans (by decide) hD, ?_⟩
  intro τ2 e1
  replace h := of_lt h e1
  have hs2 : Sh τ2 := by rw [e1]; exact hs
  exact e_X10_bringDeliveries_10 hD  _ _ _ _ hs2  h
theorem f_X10_bringDeliveries {X : Sx} {l : Launch} {σ : AH} {σ' : AH} (hs : Sh σ) (h : F_X10_bringDeliveries σ = some σ') : Call X l m_X10_bringDeliveries 1 [.ref 34] σ none σ' :=
  Call.ofE ok_X10_bringDeliveries rfl (Nat.le_of_ble_eq_true rfl) (w_X10_bringDeliveries_0 hs  (t_X10_bringDeliveries_0 (Nat.le_refl _) hs  h))
def F_X10_bringGangs_142 (k_X10_bringGangs_98 : Int32 → AH → Option AH) (x1 : Int32) (σ : AH) : Option AH := (k_X10_bringGangs_98 (x1 + 1) σ)
def F_X10_bringGangs_141 (k_X10_bringGangs_98 : Int32 → AH → Option AH) (x1 : Int32) (y0 : Int32) (y1 : Int32) (σ : AH) : Option AH := (if inB y1 1560 = true then (F_X10_bringGangs_142 k_X10_bringGangs_98 x1 (sI σ 36 y1.toNatClampNeg y0)) else none)
def B_X10_bringGangs_98 (k_X10_bringGangs_98 : Int32 → AH → Option AH) (x1 : Int32) (σ : AH) : Option AH := (if (1560 : Int32) ≤ x1 then (some σ) else (if inB x1 1560 = true then (if (gI σ 36 x1.toNatClampNeg) = (-1 : Int32) then (if (6 : Int32) ≤ x1 then (if inB (x1 - (6 : Int32)) 1560 = true then (F_X10_bringGangs_141 k_X10_bringGangs_98 x1 (gI σ 36 (x1 - (6 : Int32)).toNatClampNeg) x1 σ) else none) else (F_X10_bringGangs_141 k_X10_bringGangs_98 x1 (0 : Int32) x1 σ)) else (F_X10_bringGangs_142 k_X10_bringGangs_98 x1 σ)) else none))
def F_X10_bringGangs_98 : Nat → Int32 → AH → Option AH := fun k => match k with | 0 => fun _ _ => none | k + 1 => B_X10_bringGangs_98 (F_X10_bringGangs_98 k)
def F_X10_bringGangs_90 (k_X10_bringGangs_10 : Int32 → AH → Option AH) (x1 : Int32) (σ : AH) : Option AH := (k_X10_bringGangs_10 (x1 + 1) σ)
def B_X10_bringGangs_10 (k_X10_bringGangs_10 : Int32 → AH → Option AH) (x1 : Int32) (σ : AH) : Option AH := (bd (F_X8_rows 7 σ) fun v10 σ6 => (if v10 ≤ x1 then (F_X10_bringGangs_98 BIG (0 : Int32) σ6) else (bd (F_X8_at 7 x1 (3 : Int32) σ6) fun v16 σ12 => (if (gI σ12 34 2) < v16 then (F_X10_bringGangs_90 k_X10_bringGangs_10 x1 σ12) else (bd (F_X8_at 7 x1 (2 : Int32) σ12) fun v22 σ18 => (bd (F_X8_at 7 x1 (0 : Int32) σ18) fun v28 σ24 => (bd (F_X8_at 7 x1 (1 : Int32) σ24) fun v34 σ30 => (if inB ((v22 * (6 : Int32)) + v28) 1560 = true then (F_X10_bringGangs_90 k_X10_bringGangs_10 x1 (sI σ30 36 (((v22 * (6 : Int32)) + v28).toNatClampNeg) v34)) else none))))))))
def F_X10_bringGangs_10 : Nat → Int32 → AH → Option AH := fun k => match k with | 0 => fun _ _ => none | k + 1 => B_X10_bringGangs_10 (F_X10_bringGangs_10 k)
def F_X10_bringGangs (σ : AH) : Option AH := (lt (sA σ 36 (filln (gI σ 36) 1560 (-1 : Int32))) fun τ2 => (F_X10_bringGangs_10 BIG (0 : Int32) τ2))
set_option maxRecDepth 100000 in
theorem t_X10_bringGangs_142 {X : Sx} {l : Launch} {D : Nat} {k_X10_bringGangs_98 : Int32 → AH → Option AH} {x1 : Int32} {σ : AH} {σ' : AH} (hD : 1 ≤ D) (hk_X10_bringGangs_98 : ∀ (x1 : Int32) (σ : AH) (σ' : AH), Sh σ → k_X10_bringGangs_98 x1 σ = some σ' → E X l m_X10_bringGangs D 98 [(0, .ref 34), (1, .int x1)] [] σ none σ') (hs : Sh σ) (h : F_X10_bringGangs_142 k_X10_bringGangs_98 x1 σ = some σ') : W_X10_bringGangs_142 X l D x1 σ none σ' := by
  unfold F_X10_bringGangs_142 at h
  unfold W_X10_bringGangs_142
  exact hk_X10_bringGangs_98 _ _ _ hs  h
set_option maxRecDepth 100000 in
theorem t_X10_bringGangs_141 {X : Sx} {l : Launch} {D : Nat} {k_X10_bringGangs_98 : Int32 → AH → Option AH} {x1 : Int32} {y0 : Int32} {y1 : Int32} {σ : AH} {σ' : AH} (hD : 1 ≤ D) (hk_X10_bringGangs_98 : ∀ (x1 : Int32) (σ : AH) (σ' : AH), Sh σ → k_X10_bringGangs_98 x1 σ = some σ' → E X l m_X10_bringGangs D 98 [(0, .ref 34), (1, .int x1)] [] σ none σ') (hs : Sh σ) (h : F_X10_bringGangs_141 k_X10_bringGangs_98 x1 y0 y1 σ = some σ') : W_X10_bringGangs_141 X l D x1 y0 y1 σ none σ' := by
  unfold F_X10_bringGangs_141 at h
  unfold W_X10_bringGangs_141
  obtain ⟨g1, h⟩ := of_gd h
  refine ⟨(inB_mp g1), ?_⟩
  exact t_X10_bringGangs_142 hD hk_X10_bringGangs_98 hs  h
set_option maxRecDepth 100000 in
theorem t_X10_bringGangs_98 {X : Sx} {l : Launch} {D : Nat} {k_X10_bringGangs_98 : Int32 → AH → Option AH} {x1 : Int32} {σ : AH} {σ' : AH} (hD : 1 ≤ D) (hk_X10_bringGangs_98 : ∀ (x1 : Int32) (σ : AH) (σ' : AH), Sh σ → k_X10_bringGangs_98 x1 σ = some σ' → E X l m_X10_bringGangs D 98 [(0, .ref 34), (1, .int x1)] [] σ none σ') (hs : Sh σ) (h : B_X10_bringGangs_98 k_X10_bringGangs_98 x1 σ = some σ') : W_X10_bringGangs_98 X l D x1 σ none σ' := by
  unfold B_X10_bringGangs_98 at h
  unfold W_X10_bringGangs_98
  refine ite_i (fun c1 => ?_) (fun c1 => ?_)
  · replace h := of_ifp h c1
    exact ret_v h
  · replace h := of_ifn h c1
    obtain ⟨g2, h⟩ := of_gd h
    refine ⟨(inB_mp g2), ?_⟩
    refine ite_i (fun c3 => ?_) (fun c3 => ?_)
    · replace h := of_ifp h c3
      refine ite_i (fun c4 => ?_) (fun c4 => ?_)
      · replace h := of_ifp h c4
        obtain ⟨g5, h⟩ := of_gd h
        refine ⟨(inB_mp g5), ?_⟩
        exact t_X10_bringGangs_141 hD hk_X10_bringGangs_98 hs  h
      · replace h := of_ifn h c4
        exact t_X10_bringGangs_141 hD hk_X10_bringGangs_98 hs  h
    · replace h := of_ifn h c3
      exact t_X10_bringGangs_142 hD hk_X10_bringGangs_98 hs  h
theorem e_X10_bringGangs_98 {X : Sx} {l : Launch} {D : Nat} (hD : 1 ≤ D) : ∀ (k : Nat) (x1 : Int32) (σ : AH) (σ' : AH), Sh σ → F_X10_bringGangs_98 k x1 σ = some σ' → E X l m_X10_bringGangs D 98 [(0, .ref 34), (1, .int x1)] [] σ none σ' := by
  intro k
  induction k with
  | zero => intro x1 σ σ' hs h; cases h
  | succ k ih =>
    intro x1 σ σ' hs h
    exact w_X10_bringGangs_98 hs  (t_X10_bringGangs_98 hD ih hs  h)
set_option maxRecDepth 100000 in
theorem t_X10_bringGangs_90 {X : Sx} {l : Launch} {D : Nat} {k_X10_bringGangs_10 : Int32 → AH → Option AH} {x1 : Int32} {σ : AH} {σ' : AH} (hD : 1 ≤ D) (hk_X10_bringGangs_10 : ∀ (x1 : Int32) (σ : AH) (σ' : AH), Sh σ → k_X10_bringGangs_10 x1 σ = some σ' → E X l m_X10_bringGangs D 10 [(0, .ref 34), (1, .int x1)] [] σ none σ') (hs : Sh σ) (h : F_X10_bringGangs_90 k_X10_bringGangs_10 x1 σ = some σ') : W_X10_bringGangs_90 X l D x1 σ none σ' := by
  unfold F_X10_bringGangs_90 at h
  unfold W_X10_bringGangs_90
  exact hk_X10_bringGangs_10 _ _ _ hs  h
set_option maxRecDepth 100000 in
theorem t_X10_bringGangs_10 {X : Sx} {l : Launch} {D : Nat} {k_X10_bringGangs_10 : Int32 → AH → Option AH} {x1 : Int32} {σ : AH} {σ' : AH} (hD : 1 ≤ D) (hk_X10_bringGangs_10 : ∀ (x1 : Int32) (σ : AH) (σ' : AH), Sh σ → k_X10_bringGangs_10 x1 σ = some σ' → E X l m_X10_bringGangs D 10 [(0, .ref 34), (1, .int x1)] [] σ none σ') (hs : Sh σ) (h : B_X10_bringGangs_10 k_X10_bringGangs_10 x1 σ = some σ') : W_X10_bringGangs_10 X l D x1 σ none σ' := by
  unfold B_X10_bringGangs_10 at h
  unfold W_X10_bringGangs_10
  obtain ⟨v10, σ6, q1, h⟩ := of_bd h
  have hC2 := f_X8_rows  q1 (X := X) (l := l)
  have hs3 := hC2.1.2.2.2.1 hs
  refine ⟨0, v10, σ6, (Nat.le_trans (by decide) hD), hC2, ?_⟩
  refine ite_i (fun c4 => ?_) (fun c4 => ?_)
  · replace h := of_ifp h c4
    exact e_X10_bringGangs_98 hD  _ _ _ _ hs3  h
  · replace h := of_ifn h c4
    obtain ⟨v16, σ12, q5, h⟩ := of_bd h
    have hC6 := f_X8_at  q5 (X := X) (l := l)
    have hs7 := hC6.1.2.2.2.1 hs3
    refine ⟨0, v16, σ12, (Nat.le_trans (by decide) hD), hC6, ?_⟩
    refine ite_i (fun c8 => ?_) (fun c8 => ?_)
    · replace h := of_ifp h c8
      exact t_X10_bringGangs_90 hD hk_X10_bringGangs_10 hs7  h
    · replace h := of_ifn h c8
      obtain ⟨v22, σ18, q9, h⟩ := of_bd h
      have hC10 := f_X8_at  q9 (X := X) (l := l)
      have hs11 := hC10.1.2.2.2.1 hs7
      refine ⟨0, v22, σ18, (Nat.le_trans (by decide) hD), hC10, ?_⟩
      obtain ⟨v28, σ24, q12, h⟩ := of_bd h
      have hC13 := f_X8_at  q12 (X := X) (l := l)
      have hs14 := hC13.1.2.2.2.1 hs11
      refine ⟨0, v28, σ24, (Nat.le_trans (by decide) hD), hC13, ?_⟩
      obtain ⟨v34, σ30, q15, h⟩ := of_bd h
      have hC16 := f_X8_at  q15 (X := X) (l := l)
      have hs17 := hC16.1.2.2.2.1 hs14
      refine ⟨0, v34, σ30, (Nat.le_trans (by decide) hD), hC16, ?_⟩
      obtain ⟨g18, h⟩ := of_gd h
      refine ⟨(inB_mp g18), ?_⟩
      exact t_X10_bringGangs_90 hD hk_X10_bringGangs_10 hs17  h
theorem e_X10_bringGangs_10 {X : Sx} {l : Launch} {D : Nat} (hD : 1 ≤ D) : ∀ (k : Nat) (x1 : Int32) (σ : AH) (σ' : AH), Sh σ → F_X10_bringGangs_10 k x1 σ = some σ' → E X l m_X10_bringGangs D 10 [(0, .ref 34), (1, .int x1)] [] σ none σ' := by
  intro k
  induction k with
  | zero => intro x1 σ σ' hs h; cases h
  | succ k ih =>
    intro x1 σ σ' hs h
    exact w_X10_bringGangs_10 hs  (t_X10_bringGangs_10 hD ih hs  h)
set_option maxRecDepth 100000 in
theorem t_X10_bringGangs_0 {X : Sx} {l : Launch} {D : Nat} {σ : AH} {σ' : AH} (hD : 1 ≤ D) (hs : Sh σ) (h : F_X10_bringGangs σ = some σ') : W_X10_bringGangs_0 X l D σ none σ' := by
  unfold F_X10_bringGangs at h
  unfold W_X10_bringGangs_0
  refine ⟨Nat.le_trans (by decide) hD, ?_⟩
  intro τ2 e1
  replace h := of_lt h e1
  have hs2 : Sh τ2 := by rw [e1]; exact hs
  exact e_X10_bringGangs_10 hD  _ _ _ _ hs2  h
theorem f_X10_bringGangs {X : Sx} {l : Launch} {σ : AH} {σ' : AH} (hs : Sh σ) (h : F_X10_bringGangs σ = some σ') : Call X l m_X10_bringGangs 1 [.ref 34] σ none σ' :=
  Call.ofE ok_X10_bringGangs rfl (Nat.le_of_ble_eq_true rfl) (w_X10_bringGangs_0 hs  (t_X10_bringGangs_0 (Nat.le_refl _) hs  h))
def F_X10_tellStart (x1 : Int32) (x2 : Int32) (σ : AH) : Option AH := (if inB x1 30 = true then (if inB x2 260 = true then (if inB x2 260 = true then (some (sI (sI σ 38 x1.toNatClampNeg x2) 39 x2.toNatClampNeg ((gI (sI σ 38 x1.toNatClampNeg x2) 39 x2.toNatClampNeg) + (1 : Int32)))) else none) else none) else none)
set_option maxRecDepth 100000 in
theorem t_X10_tellStart_0 {X : Sx} {l : Launch} {D : Nat} {x1 : Int32} {x2 : Int32} {σ : AH} {σ' : AH} (hD : 0 ≤ D) (hs : Sh σ) (h : F_X10_tellStart x1 x2 σ = some σ') : W_X10_tellStart_0 X l D x1 x2 σ none σ' := by
  unfold F_X10_tellStart at h
  unfold W_X10_tellStart_0
  obtain ⟨g1, h⟩ := of_gd h
  refine ⟨(inB_mp g1), ?_⟩
  obtain ⟨g2, h⟩ := of_gd h
  refine ⟨(inB_mp g2), ?_⟩
  obtain ⟨g3, h⟩ := of_gd h
  refine ⟨(inB_mp g3), ?_⟩
  exact ret_v h
theorem f_X10_tellStart {X : Sx} {l : Launch} {x1 : Int32} {x2 : Int32} {σ : AH} {σ' : AH} (hs : Sh σ) (h : F_X10_tellStart x1 x2 σ = some σ') : Call X l m_X10_tellStart 0 [.ref 34, .int x1, .int x2] σ none σ' :=
  Call.ofE ok_X10_tellStart rfl (Nat.le_of_ble_eq_true rfl) (w_X10_tellStart_0 hs  (t_X10_tellStart_0 (Nat.le_refl _) hs  h))
def F_X10_bringStarts_91 (k_X10_bringStarts_18 : Int32 → AH → Option AH) (x1 : Int32) (σ : AH) : Option AH := (k_X10_bringStarts_18 (x1 + 1) σ)
def B_X10_bringStarts_18 (k_X10_bringStarts_18 : Int32 → AH → Option AH) (x1 : Int32) (σ : AH) : Option AH := (bd (F_X8_rows 11 σ) fun v14 σ10 => (if v14 ≤ x1 then (some σ10) else (bd (F_X8_at 11 x1 (0 : Int32) σ10) fun v20 σ16 => (bd (F_X8_at 11 x1 (2 : Int32) σ16) fun v26 σ22 => (if (gI σ22 34 2) < v26 then (F_X10_bringStarts_91 k_X10_bringStarts_18 x1 σ22) else (if inB v20 30 = true then (if (gI σ22 38 v20.toNatClampNeg) = (-1 : Int32) then (bd (F_X8_at 11 x1 (1 : Int32) σ22) fun v33 σ29 => (bv (F_X10_tellStart v20 v33 σ29) fun σ35 => (F_X10_bringStarts_91 k_X10_bringStarts_18 x1 σ35))) else (F_X10_bringStarts_91 k_X10_bringStarts_18 x1 σ22)) else none))))))
def F_X10_bringStarts_18 : Nat → Int32 → AH → Option AH := fun k => match k with | 0 => fun _ _ => none | k + 1 => B_X10_bringStarts_18 (F_X10_bringStarts_18 k)
def F_X10_bringStarts (σ : AH) : Option AH := (lt (sA σ 38 (filln (gI σ 38) 30 (-1 : Int32))) fun τ2 => (lt (sA τ2 39 (filln (gI τ2 39) 260 (0 : Int32))) fun τ6 => (F_X10_bringStarts_18 BIG (0 : Int32) τ6)))
set_option maxRecDepth 100000 in
theorem t_X10_bringStarts_91 {X : Sx} {l : Launch} {D : Nat} {k_X10_bringStarts_18 : Int32 → AH → Option AH} {x1 : Int32} {σ : AH} {σ' : AH} (hD : 1 ≤ D) (hk_X10_bringStarts_18 : ∀ (x1 : Int32) (σ : AH) (σ' : AH), Sh σ → k_X10_bringStarts_18 x1 σ = some σ' → E X l m_X10_bringStarts D 18 [(0, .ref 34), (1, .int x1)] [] σ none σ') (hs : Sh σ) (h : F_X10_bringStarts_91 k_X10_bringStarts_18 x1 σ = some σ') : W_X10_bringStarts_91 X l D x1 σ none σ' := by
  unfold F_X10_bringStarts_91 at h
  unfold W_X10_bringStarts_91
  exact hk_X10_bringStarts_18 _ _ _ hs  h
set_option maxRecDepth 100000 in
theorem t_X10_bringStarts_18 {X : Sx} {l : Launch} {D : Nat} {k_X10_bringStarts_18 : Int32 → AH → Option AH} {x1 : Int32} {σ : AH} {σ' : AH} (hD : 1 ≤ D) (hk_X10_bringStarts_18 : ∀ (x1 : Int32) (σ : AH) (σ' : AH), Sh σ → k_X10_bringStarts_18 x1 σ = some σ' → E X l m_X10_bringStarts D 18 [(0, .ref 34), (1, .int x1)] [] σ none σ') (hs : Sh σ) (h : B_X10_bringStarts_18 k_X10_bringStarts_18 x1 σ = some σ') : W_X10_bringStarts_18 X l D x1 σ none σ' := by
  unfold B_X10_bringStarts_18 at h
  unfold W_X10_bringStarts_18
  obtain ⟨v14, σ10, q1, h⟩ := of_bd h
  have hC2 := f_X8_rows  q1 (X := X) (l := l)
  have hs3 := hC2.1.2.2.2.1 hs
  refine ⟨0, v14, σ10, (Nat.le_trans (by decide) hD), hC2, ?_⟩
  refine ite_i (fun c4 => ?_) (fun c4 => ?_)
  · replace h := of_ifp h c4
    exact ret_v h
  · replace h := of_ifn h c4
    obtain ⟨v20, σ16, q5, h⟩ := of_bd h
    have hC6 := f_X8_at  q5 (X := X) (l := l)
    have hs7 := hC6.1.2.2.2.1 hs3
    refine ⟨0, v20, σ16, (Nat.le_trans (by decide) hD), hC6, ?_⟩
    obtain ⟨v26, σ22, q8, h⟩ := of_bd h
    have hC9 := f_X8_at  q8 (X := X) (l := l)
    have hs10 := hC9.1.2.2.2.1 hs7
    refine ⟨0, v26, σ22, (Nat.le_trans (by decide) hD), hC9, ?_⟩
    refine ite_i (fun c11 => ?_) (fun c11 => ?_)
    · replace h := of_ifp h c11
      exact t_X10_bringStarts_91 hD hk_X10_bringStarts_18 hs10  h
    · replace h := of_ifn h c11
      obtain ⟨g12, h⟩ := of_gd h
      refine ⟨(inB_mp g12), ?_⟩
      refine ite_i (fun c13 => ?_) (fun c13 => ?_)
      · replace h := of_ifp h c13
        obtain ⟨v33, σ29, q14, h⟩ := of_bd h
        have hC15 := f_X8_at  q14 (X := X) (l := l)
        have hs16 := hC15.1.2.2.2.1 hs10
        refine ⟨0, v33, σ29, (Nat.le_trans (by decide) hD), hC15, ?_⟩
        obtain ⟨σ35, q17, h⟩ := of_bv h
        have hC18 := f_X10_tellStart (σ := σ29) hs16  q17 (X := X) (l := l)
        have hs19 := hC18.1.2.2.2.1 hs16
        refine ⟨0, σ35, (Nat.le_trans (by decide) hD), hC18, ?_⟩
        exact t_X10_bringStarts_91 hD hk_X10_bringStarts_18 hs19  h
      · replace h := of_ifn h c13
        exact t_X10_bringStarts_91 hD hk_X10_bringStarts_18 hs10  h
theorem e_X10_bringStarts_18 {X : Sx} {l : Launch} {D : Nat} (hD : 1 ≤ D) : ∀ (k : Nat) (x1 : Int32) (σ : AH) (σ' : AH), Sh σ → F_X10_bringStarts_18 k x1 σ = some σ' → E X l m_X10_bringStarts D 18 [(0, .ref 34), (1, .int x1)] [] σ none σ' := by
  intro k
  induction k with
  | zero => intro x1 σ σ' hs h; cases h
  | succ k ih =>
    intro x1 σ σ' hs h
    exact w_X10_bringStarts_18 hs  (t_X10_bringStarts_18 hD ih hs  h)
set_option maxRecDepth 100000 in
theorem t_X10_bringStarts_0 {X : Sx} {l : Launch} {D : Nat} {σ : AH} {σ' : AH} (hD : 1 ≤ D) (hs : Sh σ) (h : F_X10_bringStarts σ = some σ') : W_X10_bringStarts_0 X l D σ none σ' := by
  unfold F_X10_bringStarts at h
  unfold W_X10_bringStarts_0
  refine ⟨Nat.le_trans (by decide) hD, ?_⟩
  intro τ2 e1
  replace h := of_lt h e1
  have hs2 : Sh τ2 := by rw [e1]; exact hs
  refine ⟨Nat.le_trans (by decide) hD, ?_⟩
  intro τ6 e3
  replace h := of_lt h e3
  have hs4 : Sh τ6 := by rw [e3]; exact hs2
  exact e_X10_bringStarts_18 hD  _ _ _ _ hs4  h
theorem f_X10_bringStarts {X : Sx} {l : Launch} {σ : AH} {σ' : AH} (hs : Sh σ) (h : F_X10_bringStarts σ = some σ') : Call X l m_X10_bringStarts 1 [.ref 34] σ none σ' :=
  Call.ofE ok_X10_bringStarts rfl (Nat.le_of_ble_eq_true rfl) (w_X10_bringStarts_0 hs  (t_X10_bringStarts_0 (Nat.le_refl _) hs  h))
def F_X10_prepare_25 (x1 : Int32) (x2 : Int32) (x3 : Int32) (σ : AH) : Option AH := (lt (sA (sI (sI (sI σ 34 2 x1) 34 3 x2) 34 4 x3) 40 (filln (gI (sI (sI (sI σ 34 2 x1) 34 3 x2) 34 4 x3) 40) 60 (-2 : Int32))) fun τ2 => (lt (sA τ2 41 (filln (gI τ2 41) 260 (-2 : Int32))) fun τ6 => (lt (sA τ6 43 (filln (gI τ6 43) 702 (-1 : Int32))) fun τ10 => (bv (F_X10_bringDeliveries τ10) fun σ14 => (bv (F_X10_bringGangs σ14) fun σ19 => (bv (F_X10_bringStarts σ19) fun σ24 => (some σ24)))))))
def F_X10_prepare (x1 : Int32) (x2 : Int32) (x3 : Int32) (σ : AH) : Option AH := (if (gI σ 34 2) = x1 then (if (gI σ 34 3) = x2 then (if (gI σ 34 4) = x3 then (some σ) else (F_X10_prepare_25 x1 x2 x3 σ)) else (F_X10_prepare_25 x1 x2 x3 σ)) else (F_X10_prepare_25 x1 x2 x3 σ))
set_option maxRecDepth 100000 in
theorem t_X10_prepare_25 {X : Sx} {l : Launch} {D : Nat} {x1 : Int32} {x2 : Int32} {x3 : Int32} {σ : AH} {σ' : AH} (hD : 2 ≤ D) (hs : Sh σ) (h : F_X10_prepare_25 x1 x2 x3 σ = some σ') : W_X10_prepare_25 X l D x1 x2 x3 σ none σ' := by
  unfold F_X10_prepare_25 at h
  unfold W_X10_prepare_25
  refine ⟨Nat.le_trans (by decide) hD, ?_⟩
  intro τ2 e1
  replace h := of_lt h e1
  have hs2 : Sh τ2 := by rw [e1]; exact hs
  refine ⟨Nat.le_trans (by decide) hD, ?_⟩
  intro τ6 e3
  replace h := of_lt h e3
  have hs4 : Sh τ6 := by rw [e3]; exact hs2
  refine ⟨Nat.le_trans (by decide) hD, ?_⟩
  intro τ10 e5
  replace h := of_lt h e5
  have hs6 : Sh τ10 := by rw [e5]; exact hs4
  obtain ⟨σ14, q7, h⟩ := of_bv h
  have hC8 := f_X10_bringDeliveries (σ := τ10) hs6  q7 (X := X) (l := l)
  have hs9 := hC8.1.2.2.2.1 hs6
  refine ⟨1, σ14, (Nat.le_trans (by decide) hD), hC8, ?_⟩
  obtain ⟨σ19, q10, h⟩ := of_bv h
  have hC11 := f_X10_bringGangs (σ := σ14) hs9  q10 (X := X) (l := l)
  have hs12 := hC11.1.2.2.2.1 hs9
  refine ⟨1, σ19, (Nat.le_trans (by decide) hD), hC11, ?_⟩
  obtain ⟨σ24, q13, h⟩ := of_bv h
  have hC14 := f_X10_bringStarts (σ := σ19) hs12  q13 (X := X) (l := l)
  have hs15 := hC14.1.2.2.2.1 hs12
  refine ⟨1, σ24, (Nat.le_trans (by decide) hD), hC14, ?_⟩
  exact ret_v h
set_option maxRecDepth 100000 in
theorem t_X10_prepare_0 {X : Sx} {l : Launch} {D : Nat} {x1 : Int32} {x2 : Int32} {x3 : Int32} {σ : AH} {σ' : AH} (hD : 2 ≤ D) (hs : Sh σ) (h : F_X10_prepare x1 x2 x3 σ = some σ') : W_X10_prepare_0 X l D x1 x2 x3 σ none σ' := by
  unfold F_X10_prepare at h
  unfold W_X10_prepare_0
  refine ite_i (fun c1 => ?_) (fun c1 => ?_)
  · replace h := of_ifp h c1
    refine ite_i (fun c2 => ?_) (fun c2 => ?_)
    · replace h := of_ifp h c2
      refine ite_i (fun c3 => ?_) (fun c3 => ?_)
      · replace h := of_ifp h c3
        exact ret_v h
      · replace h := of_ifn h c3
        exact t_X10_prepare_25 hD  hs  h
    · replace h := of_ifn h c2
      exact t_X10_prepare_25 hD  hs  h
  · replace h := of_ifn h c1
    exact t_X10_prepare_25 hD  hs  h
theorem f_X10_prepare {X : Sx} {l : Launch} {x1 : Int32} {x2 : Int32} {x3 : Int32} {σ : AH} {σ' : AH} (hs : Sh σ) (h : F_X10_prepare x1 x2 x3 σ = some σ') : Call X l m_X10_prepare 2 [.ref 34, .int x1, .int x2, .int x3] σ none σ' :=
  Call.ofE ok_X10_prepare rfl (Nat.le_of_ble_eq_true rfl) (w_X10_prepare_0 hs  (t_X10_prepare_0 (Nat.le_refl _) hs  h))
def F_X3_isForced (x1 : Int32) (x2 : Int32) (σ : AH) : Option (Int32 × AH) := (if inB x1 24 = true then (if (((gI σ 31 x1.toNatClampNeg) >>> (x2 &&& 31)) &&& (1 : Int32)) = 0 then (some ((0 : Int32), σ)) else (some ((1 : Int32), σ))) else none)
set_option maxRecDepth 100000 in
theorem t_X3_isForced_0 {X : Sx} {l : Launch} {D : Nat} {x1 : Int32} {x2 : Int32} {σ : AH} {v : Int32} {σ' : AH} (hD : 0 ≤ D) (hs : Sh σ) (h : F_X3_isForced x1 x2 σ = some (v, σ')) : W_X3_isForced_0 X l D x1 x2 σ (some (.int v)) σ' := by
  unfold F_X3_isForced at h
  unfold W_X3_isForced_0
  obtain ⟨g1, h⟩ := of_gd h
  refine ⟨(inB_mp g1), ?_⟩
  refine ite_i (fun c2 => ?_) (fun c2 => ?_)
  · replace h := of_ifp h c2
    exact ret_i h
  · replace h := of_ifn h c2
    exact ret_i h
theorem f_X3_isForced {X : Sx} {l : Launch} {x1 : Int32} {x2 : Int32} {σ : AH} {v : Int32} {σ' : AH} (hs : Sh σ) (h : F_X3_isForced x1 x2 σ = some (v, σ')) : Call X l m_X3_isForced 0 [.ref 28, .int x1, .int x2] σ (some (.int v)) σ' :=
  Call.ofE ok_X3_isForced rfl (Nat.le_of_ble_eq_true rfl) (w_X3_isForced_0 hs  (t_X3_isForced_0 (Nat.le_refl _) hs  h))
def F_X3_findForced_137 (k_X3_findForced_19 : Int32 → Int32 → AH → Option AH) (x1 : Int32) (x2 : Int32) (σ : AH) : Option AH := (k_X3_findForced_19 x1 (x2 + (-1)) σ)
def F_X3_findForced_45 (k_X3_findForced_19 : Int32 → Int32 → AH → Option AH) (x1 : Int32) (x2 : Int32) (σ : AH) : Option AH := (if inB x2 24 = true then (F_X3_findForced_137 k_X3_findForced_19 x1 x2 (sI σ 31 x2.toNatClampNeg (0 : Int32))) else none)
def F_X3_findForced_131 (k_X3_findForced_19 : Int32 → Int32 → AH → Option AH) (k_X3_findForced_58 : Int32 → Int32 → Nat → Int32 → AH → Option AH) (x1 : Int32) (x2 : Int32) (x3 : Nat) (x4 : Int32) (σ : AH) : Option AH := (if kd σ x3 = (0, NO 0) then (if x3 < nx σ then (k_X3_findForced_58 x1 x2 x3 (x4 + 1) σ) else none) else none)
def B_X3_findForced_58 (k_X3_findForced_19 : Int32 → Int32 → AH → Option AH) (k_X3_findForced_58 : Int32 → Int32 → Nat → Int32 → AH → Option AH) (x1 : Int32) (x2 : Int32) (x3 : Nat) (x4 : Int32) (σ : AH) : Option AH := (if kd σ x3 = (0, NO 0) then (if x3 < nx σ then (if (gI σ x3 2) ≤ x4 then (F_X3_findForced_137 k_X3_findForced_19 x1 x2 σ) else (bo (gR σ x3 4) fun b11 => if (kd σ b11).1 = 100 ∧ b11 < nx σ then (if inB x4 (kd σ b11).2 = true then (bo (gR σ x3 3) fun b17 => if (kd σ b17).1 = 100 ∧ b17 < nx σ then (if inB x4 (kd σ b17).2 = true then (if (gI σ b17 x4.toNatClampNeg) = (62 : Int32) then (bd (F_X3_isForced x2 x4 σ) fun v28 σ24 => (if v28 = 0 then (F_X3_findForced_131 k_X3_findForced_19 k_X3_findForced_58 x1 x2 x3 x4 σ24) else (if x2 ≤ ((gI σ b11 x4.toNatClampNeg) / (16 : Int32)) then (F_X3_findForced_131 k_X3_findForced_19 k_X3_findForced_58 x1 x2 x3 x4 σ24) else (if inB ((gI σ b11 x4.toNatClampNeg) / (16 : Int32)) 24 = true then (bo (gR σ24 x3 4) fun b32 => if (kd σ24 b32).1 = 100 ∧ b32 < nx σ24 then (if inB x4 (kd σ24 b32).2 = true then (if inB ((gI σ b11 x4.toNatClampNeg) / (16 : Int32)) 24 = true then (lt (sI σ24 31 (((gI σ b11 x4.toNatClampNeg) / (16 : Int32)).toNatClampNeg) ((gI σ24 31 ((gI σ b11 x4.toNatClampNeg) / (16 : Int32)).toNatClampNeg) &&& (((1 : Int32) <<< (((gI σ24 b32 x4.toNatClampNeg) - (gI σ24 b32 x4.toNatClampNeg) / (16 : Int32) * (16 : Int32)) &&& 31)) ^^^ (-1 : Int32)))) fun τ39 => (F_X3_findForced_131 k_X3_findForced_19 k_X3_findForced_58 x1 x2 x3 x4 τ39)) else none) else none) else none) else none)))) else (F_X3_findForced_131 k_X3_findForced_19 k_X3_findForced_58 x1 x2 x3 x4 σ)) else none) else none) else none) else none)) else none) else none)
def F_X3_findForced_58 (k_X3_findForced_19 : Int32 → Int32 → AH → Option AH) : Nat → Int32 → Int32 → Nat → Int32 → AH → Option AH := fun k => match k with | 0 => fun _ _ _ _ _ => none | k + 1 => B_X3_findForced_58 k_X3_findForced_19 (F_X3_findForced_58 k_X3_findForced_19 k)
def B_X3_findForced_19 (k_X3_findForced_19 : Int32 → Int32 → AH → Option AH) (x1 : Int32) (x2 : Int32) (σ : AH) : Option AH := (if x2 < 0 then (some σ) else (if inB x2 24 = true then (on (gR σ 2 x2.toNatClampNeg) (F_X3_findForced_45 k_X3_findForced_19 x1 x2 σ) fun b5 => if kd σ b5 = (0, NO 0) ∧ b5 < nx σ then (if ((x1 >>> (x2 &&& 31)) &&& (1 : Int32)) = 0 then (F_X3_findForced_45 k_X3_findForced_19 x1 x2 σ) else (F_X3_findForced_58 k_X3_findForced_19 BIG x1 x2 b5 (0 : Int32) σ)) else none) else none))
def F_X3_findForced_19 : Nat → Int32 → Int32 → AH → Option AH := fun k => match k with | 0 => fun _ _ _ => none | k + 1 => B_X3_findForced_19 (F_X3_findForced_19 k)
def F_X3_findForced (x1 : Int32) (σ : AH) : Option AH := (lt (sA σ 31 (filln (gI σ 31) 24 (65535 : Int32))) fun τ2 => (F_X3_findForced_19 BIG x1 ((gI τ2 1 1) - (1 : Int32)) τ2))
set_option maxRecDepth 100000 in
theorem t_X3_findForced_137 {X : Sx} {l : Launch} {D : Nat} {k_X3_findForced_19 : Int32 → Int32 → AH → Option AH} {x1 : Int32} {x2 : Int32} {σ : AH} {σ' : AH} (hD : 1 ≤ D) (hk_X3_findForced_19 : ∀ (x1 : Int32) (x2 : Int32) (σ : AH) (σ' : AH), Sh σ → k_X3_findForced_19 x1 x2 σ = some σ' → E X l m_X3_findForced D 19 [(0, .ref 28), (1, .int x1), (2, .int x2)] [] σ none σ') (hs : Sh σ) (h : F_X3_findForced_137 k_X3_findForced_19 x1 x2 σ = some σ') : W_X3_findForced_137 X l D x1 x2 σ none σ' := by
  unfold F_X3_findForced_137 at h
  unfold W_X3_findForced_137
  exact hk_X3_findForced_19 _ _ _ _ hs  h
set_option maxRecDepth 100000 in
theorem t_X3_findForced_45 {X : Sx} {l : Launch} {D : Nat} {k_X3_findForced_19 : Int32 → Int32 → AH → Option AH} {x1 : Int32} {x2 : Int32} {σ : AH} {σ' : AH} (hD : 1 ≤ D) (hk_X3_findForced_19 : ∀ (x1 : Int32) (x2 : Int32) (σ : AH) (σ' : AH), Sh σ → k_X3_findForced_19 x1 x2 σ = some σ' → E X l m_X3_findForced D 19 [(0, .ref 28), (1, .int x1), (2, .int x2)] [] σ none σ') (hs : Sh σ) (h : F_X3_findForced_45 k_X3_findForced_19 x1 x2 σ = some σ') : W_X3_findForced_45 X l D x1 x2 σ none σ' := by
  unfold F_X3_findForced_45 at h
  unfold W_X3_findForced_45
  obtain ⟨g1, h⟩ := of_gd h
  refine ⟨(inB_mp g1), ?_⟩
  exact t_X3_findForced_137 hD hk_X3_findForced_19 hs  h
set_option maxRecDepth 100000 in
theorem t_X3_findForced_131 {X : Sx} {l : Launch} {D : Nat} {k_X3_findForced_19 : Int32 → Int32 → AH → Option AH} {k_X3_findForced_58 : Int32 → Int32 → Nat → Int32 → AH → Option AH} {x1 : Int32} {x2 : Int32} {x3 : Nat} {x4 : Int32} {σ : AH} {σ' : AH} (hD : 1 ≤ D) (hk_X3_findForced_19 : ∀ (x1 : Int32) (x2 : Int32) (σ : AH) (σ' : AH), Sh σ → k_X3_findForced_19 x1 x2 σ = some σ' → E X l m_X3_findForced D 19 [(0, .ref 28), (1, .int x1), (2, .int x2)] [] σ none σ') (hk_X3_findForced_58 : ∀ (x1 : Int32) (x2 : Int32) (x3 : Nat) (x4 : Int32) (σ : AH) (σ' : AH), Sh σ → k_X3_findForced_58 x1 x2 x3 x4 σ = some σ' → E X l m_X3_findForced D 58 [(0, .ref 28), (1, .int x1), (2, .int x2), (3, .ref x3), (4, .int x4)] [] σ none σ') (hs : Sh σ) (h : F_X3_findForced_131 k_X3_findForced_19 k_X3_findForced_58 x1 x2 x3 x4 σ = some σ') : W_X3_findForced_131 X l D x1 x2 x3 x4 σ none σ' := by
  unfold F_X3_findForced_131 at h
  unfold W_X3_findForced_131
  obtain ⟨g1, h⟩ := of_gd h
  refine ⟨g1, ?_⟩
  obtain ⟨g2, h⟩ := of_gd h
  refine ⟨g2, ?_⟩
  exact hk_X3_findForced_58 _ _ _ _ _ _ hs  h
set_option maxRecDepth 100000 in
theorem t_X3_findForced_58 {X : Sx} {l : Launch} {D : Nat} {k_X3_findForced_19 : Int32 → Int32 → AH → Option AH} {k_X3_findForced_58 : Int32 → Int32 → Nat → Int32 → AH → Option AH} {x1 : Int32} {x2 : Int32} {x3 : Nat} {x4 : Int32} {σ : AH} {σ' : AH} (hD : 1 ≤ D) (hk_X3_findForced_19 : ∀ (x1 : Int32) (x2 : Int32) (σ : AH) (σ' : AH), Sh σ → k_X3_findForced_19 x1 x2 σ = some σ' → E X l m_X3_findForced D 19 [(0, .ref 28), (1, .int x1), (2, .int x2)] [] σ none σ') (hk_X3_findForced_58 : ∀ (x1 : Int32) (x2 : Int32) (x3 : Nat) (x4 : Int32) (σ : AH) (σ' : AH), Sh σ → k_X3_findForced_58 x1 x2 x3 x4 σ = some σ' → E X l m_X3_findForced D 58 [(0, .ref 28), (1, .int x1), (2, .int x2), (3, .ref x3), (4, .int x4)] [] σ none σ') (hs : Sh σ) (h : B_X3_findForced_58 k_X3_findForced_19 k_X3_findForced_58 x1 x2 x3 x4 σ = some σ') : W_X3_findForced_58 X l D x1 x2 x3 x4 σ none σ' := by
  unfold B_X3_findForced_58 at h
  unfold W_X3_findForced_58
  obtain ⟨g1, h⟩ := of_gd h
  refine ⟨g1, ?_⟩
  obtain ⟨g2, h⟩ := of_gd h
  refine ⟨g2, ?_⟩
  refine ite_i (fun c3 => ?_) (fun c3 => ?_)
  · replace h := of_ifp h c3
    exact t_X3_findForced_137 hD hk_X3_findForced_19 hs  h
  · replace h := of_ifn h c3
    obtain ⟨b11, e5, h⟩ := of_bo h
    obtain ⟨g4, h⟩ := of_gd h
    refine ⟨b11, _, e5, Prod.ext g4.1 rfl, g4.2, ?_⟩
    obtain ⟨g6, h⟩ := of_gd h
    refine ⟨(inB_mp g6), ?_⟩
    obtain ⟨b17, e8, h⟩ := of_bo h
    obtain ⟨g7, h⟩ := of_gd h
    refine ⟨b17, _, e8, Prod.ext g7.1 rfl, g7.2, ?_⟩
    obtain ⟨g9, h⟩ := of_gd h
    refine ⟨(inB_mp g9), ?_⟩
    refine ite_i (fun c10 => ?_) (fun c10 => ?_)
    · replace h := of_ifp h c10
      obtain ⟨v28, σ24, q11, h⟩ := of_bd h
      have hC12 := f_X3_isForced (σ := σ) hs  q11 (X := X) (l := l)
      have hs13 := hC12.1.2.2.2.1 hs
      refine ⟨0, v28, σ24, (Nat.le_trans (by decide) hD), hC12, ?_⟩
      refine ite_i (fun c14 => ?_) (fun c14 => ?_)
      · replace h := of_ifp h c14
        exact t_X3_findForced_131 hD hk_X3_findForced_19 hk_X3_findForced_58 hs13  h
      · replace h := of_ifn h c14
        refine ite_i (fun c15 => ?_) (fun c15 => ?_)
        · replace h := of_ifp h c15
          exact t_X3_findForced_131 hD hk_X3_findForced_19 hk_X3_findForced_58 hs13  h
        · replace h := of_ifn h c15
          obtain ⟨g16, h⟩ := of_gd h
          refine ⟨(inB_mp g16), ?_⟩
          obtain ⟨b32, e18, h⟩ := of_bo h
          obtain ⟨g17, h⟩ := of_gd h
          refine ⟨b32, _, e18, Prod.ext g17.1 rfl, g17.2, ?_⟩
          obtain ⟨g19, h⟩ := of_gd h
          refine ⟨(inB_mp g19), ?_⟩
          obtain ⟨g20, h⟩ := of_gd h
          refine ⟨(inB_mp g20), ?_⟩
          intro τ39 e21
          replace h := of_lt h e21
          have hs22 : Sh τ39 := by rw [e21]; exact hs13
          exact t_X3_findForced_131 hD hk_X3_findForced_19 hk_X3_findForced_58 hs22  h
    · replace h := of_ifn h c10
      exact t_X3_findForced_131 hD hk_X3_findForced_19 hk_X3_findForced_58 hs  h
theorem e_X3_findForced_58 {X : Sx} {l : Launch} {D : Nat} {k_X3_findForced_19 : Int32 → Int32 → AH → Option AH} (hD : 1 ≤ D) (hk_X3_findForced_19 : ∀ (x1 : Int32) (x2 : Int32) (σ : AH) (σ' : AH), Sh σ → k_X3_findForced_19 x1 x2 σ = some σ' → E X l m_X3_findForced D 19 [(0, .ref 28), (1, .int x1), (2, .int x2)] [] σ none σ') : ∀ (k : Nat) (x1 : Int32) (x2 : Int32) (x3 : Nat) (x4 : Int32) (σ : AH) (σ' : AH), Sh σ → F_X3_findForced_58 k_X3_findForced_19 k x1 x2 x3 x4 σ = some σ' → E X l m_X3_findForced D 58 [(0, .ref 28), (1, .int x1), (2, .int x2), (3, .ref x3), (4, .int x4)] [] σ none σ' := by
  intro k
  induction k with
  | zero => intro x1 x2 x3 x4 σ σ' hs h; cases h
  | succ k ih =>
    intro x1 x2 x3 x4 σ σ' hs h
    exact w_X3_findForced_58 hs  (t_X3_findForced_58 hD hk_X3_findForced_19 ih hs  h)
set_option maxRecDepth 100000 in
theorem t_X3_findForced_19 {X : Sx} {l : Launch} {D : Nat} {k_X3_findForced_19 : Int32 → Int32 → AH → Option AH} {x1 : Int32} {x2 : Int32} {σ : AH} {σ' : AH} (hD : 1 ≤ D) (hk_X3_findForced_19 : ∀ (x1 : Int32) (x2 : Int32) (σ : AH) (σ' : AH), Sh σ → k_X3_findForced_19 x1 x2 σ = some σ' → E X l m_X3_findForced D 19 [(0, .ref 28), (1, .int x1), (2, .int x2)] [] σ none σ') (hs : Sh σ) (h : B_X3_findForced_19 k_X3_findForced_19 x1 x2 σ = some σ') : W_X3_findForced_19 X l D x1 x2 σ none σ' := by
  unfold B_X3_findForced_19 at h
  unfold W_X3_findForced_19
  refine ite_i (fun c1 => ?_) (fun c1 => ?_)
  · replace h := of_ifp h c1
    exact ret_v h
  · replace h := of_ifn h c1
    obtain ⟨g2, h⟩ := of_gd h
    refine ⟨(inB_mp g2), ?_⟩
    refine ⟨?_, ?_⟩
    · intro e4
      replace h := of_on0 h e4
      exact t_X3_findForced_45 hD hk_X3_findForced_19 hs  h
    · intro b5 e4
      replace h := of_on1 h e4
      obtain ⟨g3, h⟩ := of_gd h
      refine ⟨g3.1, g3.2, ?_⟩
      refine ite_i (fun c5 => ?_) (fun c5 => ?_)
      · replace h := of_ifp h c5
        exact t_X3_findForced_45 hD hk_X3_findForced_19 hs  h
      · replace h := of_ifn h c5
        exact e_X3_findForced_58 hD hk_X3_findForced_19 _ _ _ _ _ _ _ hs  h
theorem e_X3_findForced_19 {X : Sx} {l : Launch} {D : Nat} (hD : 1 ≤ D) : ∀ (k : Nat) (x1 : Int32) (x2 : Int32) (σ : AH) (σ' : AH), Sh σ → F_X3_findForced_19 k x1 x2 σ = some σ' → E X l m_X3_findForced D 19 [(0, .ref 28), (1, .int x1), (2, .int x2)] [] σ none σ' := by
  intro k
  induction k with
  | zero => intro x1 x2 σ σ' hs h; cases h
  | succ k ih =>
    intro x1 x2 σ σ' hs h
    exact w_X3_findForced_19 hs  (t_X3_findForced_19 hD ih hs  h)
set_option maxRecDepth 100000 in
theorem t_X3_findForced_0 {X : Sx} {l : Launch} {D : Nat} {x1 : Int32} {σ : AH} {σ' : AH} (hD : 1 ≤ D) (hs : Sh σ) (h : F_X3_findForced x1 σ = some σ') : W_X3_findForced_0 X l D x1 σ none σ' := by
  unfold F_X3_findForced at h
  unfold W_X3_findForced_0
  refine ⟨Nat.le_trans (by decide) hD, ?_⟩
  intro τ2 e1
  replace h := of_lt h e1
  have hs2 : Sh τ2 := by rw [e1]; exact hs
  exact e_X3_findForced_19 hD  _ _ _ _ _ hs2  h
theorem f_X3_findForced {X : Sx} {l : Launch} {x1 : Int32} {σ : AH} {σ' : AH} (hs : Sh σ) (h : F_X3_findForced x1 σ = some σ') : Call X l m_X3_findForced 1 [.ref 28, .int x1] σ none σ' :=
  Call.ofE ok_X3_findForced rfl (Nat.le_of_ble_eq_true rfl) (w_X3_findForced_0 hs  (t_X3_findForced_0 (Nat.le_refl _) hs  h))
def F_X3_settle_59 (k_X3_settle_5 : Int32 → Int32 → Int32 → Int32 → AH → Option AH) (x1 : Int32) (x2 : Int32) (x3 : Int32) (x4 : Int32) (σ : AH) : Option AH := (k_X3_settle_5 x1 x2 x3 (x4 + 1) σ)
def B_X3_settle_5 (k_X3_settle_5 : Int32 → Int32 → Int32 → Int32 → AH → Option AH) (x1 : Int32) (x2 : Int32) (x3 : Int32) (x4 : Int32) (σ : AH) : Option AH := (if (gI σ 1 1) ≤ x4 then (if x3 = (gI σ 28 6) then (some σ) else (bv (F_X3_findForced x3 (sI σ 28 6 x3)) fun σ2 => (some σ2))) else (if inB x4 24 = true then (on (gR σ 2 x4.toNatClampNeg) (F_X3_settle_59 k_X3_settle_5 x1 x2 x3 x4 σ) fun b6 => if kd σ b6 = (0, NO 0) ∧ b6 < nx σ then (if x2 < (gI σ b6 1) then (F_X3_settle_59 k_X3_settle_5 x1 x2 x3 x4 σ) else (if x1 < (gI σ b6 0) then (F_X3_settle_59 k_X3_settle_5 x1 x2 x3 x4 σ) else (F_X3_settle_59 k_X3_settle_5 x1 x2 (x3 ||| ((1 : Int32) <<< (x4 &&& 31))) x4 σ))) else none) else none))
def F_X3_settle_5 : Nat → Int32 → Int32 → Int32 → Int32 → AH → Option AH := fun k => match k with | 0 => fun _ _ _ _ _ => none | k + 1 => B_X3_settle_5 (F_X3_settle_5 k)
def F_X3_settle (x1 : Int32) (x2 : Int32) (σ : AH) : Option AH := (F_X3_settle_5 BIG x1 x2 (0 : Int32) (0 : Int32) σ)
set_option maxRecDepth 100000 in
theorem t_X3_settle_59 {X : Sx} {l : Launch} {D : Nat} {k_X3_settle_5 : Int32 → Int32 → Int32 → Int32 → AH → Option AH} {x1 : Int32} {x2 : Int32} {x3 : Int32} {x4 : Int32} {σ : AH} {σ' : AH} (hD : 2 ≤ D) (hk_X3_settle_5 : ∀ (x1 : Int32) (x2 : Int32) (x3 : Int32) (x4 : Int32) (σ : AH) (σ' : AH), Sh σ → k_X3_settle_5 x1 x2 x3 x4 σ = some σ' → E X l m_X3_settle D 5 [(0, .ref 28), (1, .int x1), (2, .int x2), (3, .int x3), (4, .int x4)] [] σ none σ') (hs : Sh σ) (h : F_X3_settle_59 k_X3_settle_5 x1 x2 x3 x4 σ = some σ') : W_X3_settle_59 X l D x1 x2 x3 x4 σ none σ' := by
  unfold F_X3_settle_59 at h
  unfold W_X3_settle_59
  exact hk_X3_settle_5 _ _ _ _ _ _ hs  h
set_option maxRecDepth 100000 in
theorem t_X3_settle_5 {X : Sx} {l : Launch} {D : Nat} {k_X3_settle_5 : Int32 → Int32 → Int32 → Int32 → AH → Option AH} {x1 : Int32} {x2 : Int32} {x3 : Int32} {x4 : Int32} {σ : AH} {σ' : AH} (hD : 2 ≤ D) (hk_X3_settle_5 : ∀ (x1 : Int32) (x2 : Int32) (x3 : Int32) (x4 : Int32) (σ : AH) (σ' : AH), Sh σ → k_X3_settle_5 x1 x2 x3 x4 σ = some σ' → E X l m_X3_settle D 5 [(0, .ref 28), (1, .int x1), (2, .int x2), (3, .int x3), (4, .int x4)] [] σ none σ') (hs : Sh σ) (h : B_X3_settle_5 k_X3_settle_5 x1 x2 x3 x4 σ = some σ') : W_X3_settle_5 X l D x1 x2 x3 x4 σ none σ' := by
  unfold B_X3_settle_5 at h
  unfold W_X3_settle_5
  refine ite_i (fun c1 => ?_) (fun c1 => ?_)
  · replace h := of_ifp h c1
    refine ite_i (fun c2 => ?_) (fun c2 => ?_)
    · replace h := of_ifp h c2
      exact ret_v h
    · replace h := of_ifn h c2
      obtain ⟨σ2, q3, h⟩ := of_bv h
      have hC4 := f_X3_findForced (σ := (sI σ 28 6 x3)) hs  q3 (X := X) (l := l)
      have hs5 := hC4.1.2.2.2.1 hs
      refine ⟨1, σ2, (Nat.le_trans (by decide) hD), hC4, ?_⟩
      exact ret_v h
  · replace h := of_ifn h c1
    obtain ⟨g6, h⟩ := of_gd h
    refine ⟨(inB_mp g6), ?_⟩
    refine ⟨?_, ?_⟩
    · intro e8
      replace h := of_on0 h e8
      exact t_X3_settle_59 hD hk_X3_settle_5 hs  h
    · intro b6 e8
      replace h := of_on1 h e8
      obtain ⟨g7, h⟩ := of_gd h
      refine ⟨g7.1, g7.2, ?_⟩
      refine ite_i (fun c9 => ?_) (fun c9 => ?_)
      · replace h := of_ifp h c9
        exact t_X3_settle_59 hD hk_X3_settle_5 hs  h
      · replace h := of_ifn h c9
        refine ite_i (fun c10 => ?_) (fun c10 => ?_)
        · replace h := of_ifp h c10
          exact t_X3_settle_59 hD hk_X3_settle_5 hs  h
        · replace h := of_ifn h c10
          exact t_X3_settle_59 hD hk_X3_settle_5 hs  h
theorem e_X3_settle_5 {X : Sx} {l : Launch} {D : Nat} (hD : 2 ≤ D) : ∀ (k : Nat) (x1 : Int32) (x2 : Int32) (x3 : Int32) (x4 : Int32) (σ : AH) (σ' : AH), Sh σ → F_X3_settle_5 k x1 x2 x3 x4 σ = some σ' → E X l m_X3_settle D 5 [(0, .ref 28), (1, .int x1), (2, .int x2), (3, .int x3), (4, .int x4)] [] σ none σ' := by
  intro k
  induction k with
  | zero => intro x1 x2 x3 x4 σ σ' hs h; cases h
  | succ k ih =>
    intro x1 x2 x3 x4 σ σ' hs h
    exact w_X3_settle_5 hs  (t_X3_settle_5 hD ih hs  h)
set_option maxRecDepth 100000 in
theorem t_X3_settle_0 {X : Sx} {l : Launch} {D : Nat} {x1 : Int32} {x2 : Int32} {σ : AH} {σ' : AH} (hD : 2 ≤ D) (hs : Sh σ) (h : F_X3_settle x1 x2 σ = some σ') : W_X3_settle_0 X l D x1 x2 σ none σ' := by
  unfold F_X3_settle at h
  unfold W_X3_settle_0
  exact e_X3_settle_5 hD  _ _ _ _ _ _ _ hs  h
theorem f_X3_settle {X : Sx} {l : Launch} {x1 : Int32} {x2 : Int32} {σ : AH} {σ' : AH} (hs : Sh σ) (h : F_X3_settle x1 x2 σ = some σ') : Call X l m_X3_settle 2 [.ref 28, .int x1, .int x2] σ none σ' :=
  Call.ofE ok_X3_settle rfl (Nat.le_of_ble_eq_true rfl) (w_X3_settle_0 hs  (t_X3_settle_0 (Nat.le_refl _) hs  h))
def F_X3_ask (x1 : Int32) (x2 : Int32) (σ : AH) : Option AH := (lt (sA σ 32 (filln (gI σ 32) 7 (0 : Int32))) fun τ2 => (some (sI (sI τ2 32 0 x1) 32 6 x2)))
set_option maxRecDepth 100000 in
theorem t_X3_ask_0 {X : Sx} {l : Launch} {D : Nat} {x1 : Int32} {x2 : Int32} {σ : AH} {σ' : AH} (hD : 1 ≤ D) (hs : Sh σ) (h : F_X3_ask x1 x2 σ = some σ') : W_X3_ask_0 X l D x1 x2 σ none σ' := by
  unfold F_X3_ask at h
  unfold W_X3_ask_0
  refine ⟨Nat.le_trans (by decide) hD, ?_⟩
  intro τ2 e1
  replace h := of_lt h e1
  have hs2 : Sh τ2 := by rw [e1]; exact hs
  exact ret_v h
theorem f_X3_ask {X : Sx} {l : Launch} {x1 : Int32} {x2 : Int32} {σ : AH} {σ' : AH} (hs : Sh σ) (h : F_X3_ask x1 x2 σ = some σ') : Call X l m_X3_ask 1 [.ref 28, .int x1, .int x2] σ none σ' :=
  Call.ofE ok_X3_ask rfl (Nat.le_of_ble_eq_true rfl) (w_X3_ask_0 hs  (t_X3_ask_0 (Nat.le_refl _) hs  h))
def F_X3_joined_187 (σ : AH) : Option (Int64 × AH) := (some (BRK, σ))
def F_X3_joined_169 (x5 : Int64) (σ : AH) : Option (Int64 × AH) := (if (1000000000 : Int64) < x5 then (F_X3_joined_187 σ) else (if (-1000000000 : Int64) ≤ x5 then (some (x5, σ)) else (F_X3_joined_187 σ)))
def F_X3_joined_87 (y0 : Int64) (σ : AH) : Option (Int64 × AH) := (F_X3_joined_169 y0 σ)
def F_X3_joined_103 (y0 : Int64) (σ : AH) : Option (Int64 × AH) := (F_X3_joined_169 y0 σ)
def F_X3_joined_119 (y0 : Int64) (σ : AH) : Option (Int64 × AH) := (F_X3_joined_169 y0 σ)
def F_X3_joined_135 (y0 : Int64) (σ : AH) : Option (Int64 × AH) := (F_X3_joined_169 y0 σ)
def F_X3_joined_151 (y0 : Int64) (σ : AH) : Option (Int64 × AH) := (F_X3_joined_169 y0 σ)
def F_X3_joined_167 (y0 : Int64) (σ : AH) : Option (Int64 × AH) := (F_X3_joined_169 y0 σ)
def F_X3_joined (x0 : Int32) (x1 : Int64) (x3 : Int64) (σ : AH) : Option (Int64 × AH) := (if x0 = 2 then (F_X3_joined_169 (x1 + x3) σ) else (if x0 = 3 then (F_X3_joined_169 (x1 - x3) σ) else (if x0 = 4 then (F_X3_joined_169 (x1 * x3) σ) else (if x0 = 5 then (if x3 = (0 : Int64) then (F_X3_joined_87 BRK σ) else (if ¬ x3 = 0 then (F_X3_joined_87 (x1 / x3) σ) else none)) else (if x0 = 6 then (if x3 ≤ x1 then (F_X3_joined_103 x3 σ) else (F_X3_joined_103 x1 σ)) else (if x0 = 7 then (if x1 ≤ x3 then (F_X3_joined_119 x3 σ) else (F_X3_joined_119 x1 σ)) else (if x0 = 8 then (if x3 ≤ x1 then (F_X3_joined_135 (0 : Int64) σ) else (F_X3_joined_135 (1 : Int64) σ)) else (if x0 = 9 then (if x1 ≤ x3 then (F_X3_joined_151 (0 : Int64) σ) else (F_X3_joined_151 (1 : Int64) σ)) else (if x1 = x3 then (F_X3_joined_167 (1 : Int64) σ) else (F_X3_joined_167 (0 : Int64) σ))))))))))
set_option maxRecDepth 100000 in
theorem t_X3_joined_187 {X : Sx} {l : Launch} {D : Nat} {σ : AH} {v : Int64} {σ' : AH} (hD : 0 ≤ D) (hs : Sh σ) (h : F_X3_joined_187 σ = some (v, σ')) : W_X3_joined_187 X l D σ (some (.long v)) σ' := by
  unfold F_X3_joined_187 at h
  unfold W_X3_joined_187
  exact ret_l h
set_option maxRecDepth 100000 in
theorem t_X3_joined_169 {X : Sx} {l : Launch} {D : Nat} {x5 : Int64} {σ : AH} {v : Int64} {σ' : AH} (hD : 0 ≤ D) (hs : Sh σ) (h : F_X3_joined_169 x5 σ = some (v, σ')) : W_X3_joined_169 X l D x5 σ (some (.long v)) σ' := by
  unfold F_X3_joined_169 at h
  unfold W_X3_joined_169
  refine ite_i (fun c1 => ?_) (fun c1 => ?_)
  · replace h := of_ifp h c1
    exact t_X3_joined_187 hD  hs  h
  · replace h := of_ifn h c1
    refine ite_i (fun c2 => ?_) (fun c2 => ?_)
    · replace h := of_ifp h c2
      exact ret_l h
    · replace h := of_ifn h c2
      exact t_X3_joined_187 hD  hs  h
set_option maxRecDepth 100000 in
theorem t_X3_joined_87 {X : Sx} {l : Launch} {D : Nat} {y0 : Int64} {σ : AH} {v : Int64} {σ' : AH} (hD : 0 ≤ D) (hs : Sh σ) (h : F_X3_joined_87 y0 σ = some (v, σ')) : W_X3_joined_87 X l D y0 σ (some (.long v)) σ' := by
  unfold F_X3_joined_87 at h
  unfold W_X3_joined_87
  exact t_X3_joined_169 hD  hs  h
set_option maxRecDepth 100000 in
theorem t_X3_joined_103 {X : Sx} {l : Launch} {D : Nat} {y0 : Int64} {σ : AH} {v : Int64} {σ' : AH} (hD : 0 ≤ D) (hs : Sh σ) (h : F_X3_joined_103 y0 σ = some (v, σ')) : W_X3_joined_103 X l D y0 σ (some (.long v)) σ' := by
  unfold F_X3_joined_103 at h
  unfold W_X3_joined_103
  exact t_X3_joined_169 hD  hs  h
set_option maxRecDepth 100000 in
theorem t_X3_joined_119 {X : Sx} {l : Launch} {D : Nat} {y0 : Int64} {σ : AH} {v : Int64} {σ' : AH} (hD : 0 ≤ D) (hs : Sh σ) (h : F_X3_joined_119 y0 σ = some (v, σ')) : W_X3_joined_119 X l D y0 σ (some (.long v)) σ' := by
  unfold F_X3_joined_119 at h
  unfold W_X3_joined_119
  exact t_X3_joined_169 hD  hs  h
set_option maxRecDepth 100000 in
theorem t_X3_joined_135 {X : Sx} {l : Launch} {D : Nat} {y0 : Int64} {σ : AH} {v : Int64} {σ' : AH} (hD : 0 ≤ D) (hs : Sh σ) (h : F_X3_joined_135 y0 σ = some (v, σ')) : W_X3_joined_135 X l D y0 σ (some (.long v)) σ' := by
  unfold F_X3_joined_135 at h
  unfold W_X3_joined_135
  exact t_X3_joined_169 hD  hs  h
set_option maxRecDepth 100000 in
theorem t_X3_joined_151 {X : Sx} {l : Launch} {D : Nat} {y0 : Int64} {σ : AH} {v : Int64} {σ' : AH} (hD : 0 ≤ D) (hs : Sh σ) (h : F_X3_joined_151 y0 σ = some (v, σ')) : W_X3_joined_151 X l D y0 σ (some (.long v)) σ' := by
  unfold F_X3_joined_151 at h
  unfold W_X3_joined_151
  exact t_X3_joined_169 hD  hs  h
set_option maxRecDepth 100000 in
theorem t_X3_joined_167 {X : Sx} {l : Launch} {D : Nat} {y0 : Int64} {σ : AH} {v : Int64} {σ' : AH} (hD : 0 ≤ D) (hs : Sh σ) (h : F_X3_joined_167 y0 σ = some (v, σ')) : W_X3_joined_167 X l D y0 σ (some (.long v)) σ' := by
  unfold F_X3_joined_167 at h
  unfold W_X3_joined_167
  exact t_X3_joined_169 hD  hs  h
set_option maxRecDepth 100000 in
theorem t_X3_joined_0 {X : Sx} {l : Launch} {D : Nat} {x0 : Int32} {x1 : Int64} {x3 : Int64} {σ : AH} {v : Int64} {σ' : AH} (hD : 0 ≤ D) (hs : Sh σ) (h : F_X3_joined x0 x1 x3 σ = some (v, σ')) : W_X3_joined_0 X l D x0 x1 x3 σ (some (.long v)) σ' := by
  unfold F_X3_joined at h
  unfold W_X3_joined_0
  refine ite_i (fun c1 => ?_) (fun c1 => ?_)
  · replace h := of_ifp h c1
    exact t_X3_joined_169 hD  hs  h
  · replace h := of_ifn h c1
    refine ite_i (fun c2 => ?_) (fun c2 => ?_)
    · replace h := of_ifp h c2
      exact t_X3_joined_169 hD  hs  h
    · replace h := of_ifn h c2
      refine ite_i (fun c3 => ?_) (fun c3 => ?_)
      · replace h := of_ifp h c3
        exact t_X3_joined_169 hD  hs  h
      · replace h := of_ifn h c3
        refine ite_i (fun c4 => ?_) (fun c4 => ?_)
        · replace h := of_ifp h c4
          refine ite_i (fun c5 => ?_) (fun c5 => ?_)
          · replace h := of_ifp h c5
            exact t_X3_joined_87 hD  hs  h
          · replace h := of_ifn h c5
            obtain ⟨g6, h⟩ := of_gd h
            refine ⟨g6, ?_⟩
            exact t_X3_joined_87 hD  hs  h
        · replace h := of_ifn h c4
          refine ite_i (fun c7 => ?_) (fun c7 => ?_)
          · replace h := of_ifp h c7
            refine ite_i (fun c8 => ?_) (fun c8 => ?_)
            · replace h := of_ifp h c8
              exact t_X3_joined_103 hD  hs  h
            · replace h := of_ifn h c8
              exact t_X3_joined_103 hD  hs  h
          · replace h := of_ifn h c7
            refine ite_i (fun c9 => ?_) (fun c9 => ?_)
            · replace h := of_ifp h c9
              refine ite_i (fun c10 => ?_) (fun c10 => ?_)
              · replace h := of_ifp h c10
                exact t_X3_joined_119 hD  hs  h
              · replace h := of_ifn h c10
                exact t_X3_joined_119 hD  hs  h
            · replace h := of_ifn h c9
              refine ite_i (fun c11 => ?_) (fun c11 => ?_)
              · replace h := of_ifp h c11
                refine ite_i (fun c12 => ?_) (fun c12 => ?_)
                · replace h := of_ifp h c12
                  exact t_X3_joined_135 hD  hs  h
                · replace h := of_ifn h c12
                  exact t_X3_joined_135 hD  hs  h
              · replace h := of_ifn h c11
                refine ite_i (fun c13 => ?_) (fun c13 => ?_)
                · replace h := of_ifp h c13
                  refine ite_i (fun c14 => ?_) (fun c14 => ?_)
                  · replace h := of_ifp h c14
                    exact t_X3_joined_151 hD  hs  h
                  · replace h := of_ifn h c14
                    exact t_X3_joined_151 hD  hs  h
                · replace h := of_ifn h c13
                  refine ite_i (fun c15 => ?_) (fun c15 => ?_)
                  · replace h := of_ifp h c15
                    exact t_X3_joined_167 hD  hs  h
                  · replace h := of_ifn h c15
                    exact t_X3_joined_167 hD  hs  h
theorem f_X3_joined {X : Sx} {l : Launch} {x0 : Int32} {x1 : Int64} {x3 : Int64} {σ : AH} {v : Int64} {σ' : AH} (hs : Sh σ) (h : F_X3_joined x0 x1 x3 σ = some (v, σ')) : Call X l m_X3_joined 0 [.int x0, .long x1, .long x3] σ (some (.long v)) σ' :=
  Call.ofE ok_X3_joined rfl (Nat.le_of_ble_eq_true rfl) (w_X3_joined_0 hs  (t_X3_joined_0 (Nat.le_refl _) hs  h))
def F_X3_evaluate_350 (k_X3_evaluate_55 : Nat → Int32 → Int32 → AH → Option (Int64 × AH)) (x3 : Nat) (x4 : Int32) (x5 : Int32) (σ : AH) : Option (Int64 × AH) := (if (kd σ x3).1 = 100 ∧ x3 < nx σ then (k_X3_evaluate_55 x3 x4 (x5 + 1) σ) else none)
def F_X3_evaluate_347 (k_X3_evaluate_55 : Nat → Int32 → Int32 → AH → Option (Int64 × AH)) (x3 : Nat) (x4 : Int32) (x5 : Int32) (σ : AH) : Option (Int64 × AH) := (if (kd σ x3).1 = 100 ∧ x3 < nx σ then (F_X3_evaluate_350 k_X3_evaluate_55 x3 (x4 + (-1)) x5 σ) else none)
def F_X3_evaluate_342 (k_X3_evaluate_55 : Nat → Int32 → Int32 → AH → Option (Int64 × AH)) (x3 : Nat) (x4 : Int32) (y0 : Int32) (σ : AH) : Option (Int64 × AH) := (if (kd σ x3).1 = 100 ∧ x3 < nx σ then (F_X3_evaluate_350 k_X3_evaluate_55 x3 x4 y0 σ) else none)
def F_X3_evaluate_323 (k_X3_evaluate_55 : Nat → Int32 → Int32 → AH → Option (Int64 × AH)) (x3 : Nat) (x4 : Int32) (x5 : Int32) (x7 : Int32) (y0 : Int32) (y1 : Int32) (σ : AH) : Option (Int64 × AH) := (if (kd σ x3).1 = 100 ∧ x3 < nx σ then (if y1 = y0 then (if x7 ≤ x5 then (F_X3_evaluate_342 k_X3_evaluate_55 x3 x4 x5 σ) else (F_X3_evaluate_342 k_X3_evaluate_55 x3 x4 (x7 - (1 : Int32)) σ)) else (F_X3_evaluate_347 k_X3_evaluate_55 x3 x4 x5 σ)) else none)
def F_X3_evaluate_311 (k_X3_evaluate_55 : Nat → Int32 → Int32 → AH → Option (Int64 × AH)) (x3 : Nat) (x4 : Int32) (x5 : Int32) (x6 : Int32) (x7 : Int32) (y0 : Int32) (σ : AH) : Option (Int64 × AH) := (if (kd σ x3).1 = 100 ∧ x3 < nx σ then (if x6 = (13 : Int32) then (F_X3_evaluate_323 k_X3_evaluate_55 x3 x4 x5 x7 (1 : Int32) y0 σ) else (F_X3_evaluate_323 k_X3_evaluate_55 x3 x4 x5 x7 (0 : Int32) y0 σ)) else none)
def F_X3_evaluate_285 (k_X3_evaluate_55 : Nat → Int32 → Int32 → AH → Option (Int64 × AH)) (x3 : Nat) (x4 : Int32) (x5 : Int32) (x6 : Int32) (x7 : Int32) (σ : AH) : Option (Int64 × AH) := (if (kd σ x3).1 = 100 ∧ x3 < nx σ then (if x6 = (14 : Int32) then (F_X3_evaluate_347 k_X3_evaluate_55 x3 x4 x5 σ) else (if inB (x4 - (1 : Int32)) 64 = true then (if (gL σ 33 (x4 - (1 : Int32)).toNatClampNeg) = (0 : Int64) then (F_X3_evaluate_311 k_X3_evaluate_55 x3 x4 x5 x6 x7 (0 : Int32) σ) else (F_X3_evaluate_311 k_X3_evaluate_55 x3 x4 x5 x6 x7 (1 : Int32) σ)) else none)) else none)
def F_X3_evaluate_267 (k_X3_evaluate_55 : Nat → Int32 → Int32 → AH → Option (Int64 × AH)) (x3 : Nat) (x4 : Int32) (x5 : Int32) (x6 : Int32) (x7 : Int32) (σ : AH) : Option (Int64 × AH) := (if (kd σ x3).1 = 100 ∧ x3 < nx σ then (if inB (x4 - (1 : Int32)) 64 = true then (if (gL σ 33 (x4 - (1 : Int32)).toNatClampNeg) = (0 : Int64) then (some (BRK, σ)) else (F_X3_evaluate_285 k_X3_evaluate_55 x3 x4 x5 x6 x7 σ)) else none) else none)
def F_X3_evaluate_129 (k_X3_evaluate_55 : Nat → Int32 → Int32 → AH → Option (Int64 × AH)) (x3 : Nat) (x4 : Int32) (x5 : Int32) (y0 : Int64) (y1 : Int32) (σ : AH) : Option (Int64 × AH) := (if (kd σ x3).1 = 100 ∧ x3 < nx σ then (if inB y1 64 = true then (F_X3_evaluate_350 k_X3_evaluate_55 x3 (x4 + 1) x5 (sL σ 33 y1.toNatClampNeg y0)) else none) else none)
set_option maxRecDepth 100000 in
def B_X3_evaluate_55 (k_X3_evaluate_55 : Nat → Int32 → Int32 → AH → Option (Int64 × AH)) (x3 : Nat) (x4 : Int32) (x5 : Int32) (σ : AH) : Option (Int64 × AH) := (if (kd σ x3).1 = 100 ∧ x3 < nx σ then (if x5 < 0 then (some (BRK, σ)) else (if (Int32.ofNat (kd σ x3).2) ≤ x5 then (some (BRK, σ)) else (if inB x5 (kd σ x3).2 = true then (if inB x5 (kd σ x3).2 = true then (if (1 : Int32) < ((gI σ x3 x5.toNatClampNeg) &&& (15 : Int32)) then (if (11 : Int32) ≤ ((gI σ x3 x5.toNatClampNeg) &&& (15 : Int32)) then (if (1 : Int32) ≤ x4 then (if ((gI σ x3 x5.toNatClampNeg) &&& (15 : Int32)) = (15 : Int32) then (some ((gL σ 33 0), σ)) else (if ((gI σ x3 x5.toNatClampNeg) &&& (15 : Int32)) = (11 : Int32) then (if inB (x4 - (1 : Int32)) 64 = true then (if inB (x4 - (1 : Int32)) 64 = true then (F_X3_evaluate_350 k_X3_evaluate_55 x3 x4 x5 (sL σ 33 ((x4 - (1 : Int32)).toNatClampNeg) ((1 : Int64) - (gL σ 33 (x4 - (1 : Int32)).toNatClampNeg)))) else none) else none) else (if ((gI σ x3 x5.toNatClampNeg) &&& (15 : Int32)) = (14 : Int32) then (F_X3_evaluate_267 k_X3_evaluate_55 x3 x4 x5 ((gI σ x3 x5.toNatClampNeg) &&& (15 : Int32)) ((gI σ x3 x5.toNatClampNeg) >>> ((4 : Int32) &&& 31)) σ) else (F_X3_evaluate_285 k_X3_evaluate_55 x3 x4 x5 ((gI σ x3 x5.toNatClampNeg) &&& (15 : Int32)) ((gI σ x3 x5.toNatClampNeg) >>> ((4 : Int32) &&& 31)) σ)))) else (some (BRK, σ))) else (if (2 : Int32) ≤ x4 then (if inB ((x4 + (-1)) - (1 : Int32)) 64 = true then (if inB (x4 + (-1)) 64 = true then (bd (F_X3_joined ((gI σ x3 x5.toNatClampNeg) &&& (15 : Int32)) (gL σ 33 ((x4 + (-1)) - (1 : Int32)).toNatClampNeg) (gL σ 33 (x4 + (-1)).toNatClampNeg) σ) fun v37 σ33 => (if inB ((x4 + (-1)) - (1 : Int32)) 64 = true then (if inB ((x4 + (-1)) - (1 : Int32)) 64 = true then (if (gL (sL σ33 33 (((x4 + (-1)) - (1 : Int32)).toNatClampNeg) v37) 33 ((x4 + (-1)) - (1 : Int32)).toNatClampNeg) = BRK then (some (BRK, (sL σ33 33 (((x4 + (-1)) - (1 : Int32)).toNatClampNeg) v37))) else (F_X3_evaluate_350 k_X3_evaluate_55 x3 (x4 + (-1)) x5 (sL σ33 33 (((x4 + (-1)) - (1 : Int32)).toNatClampNeg) v37))) else none) else none)) else none) else none) else (some (BRK, σ)))) else (if x4 < (64 : Int32) then (if ((gI σ x3 x5.toNatClampNeg) &&& (15 : Int32)) = 0 then (F_X3_evaluate_129 k_X3_evaluate_55 x3 x4 x5 ((((gI σ x3 x5.toNatClampNeg) >>> ((4 : Int32) &&& 31))).toInt64) x4 σ) else (if inB ((gI σ x3 x5.toNatClampNeg) >>> ((4 : Int32) &&& 31)) 7 = true then (F_X3_evaluate_129 k_X3_evaluate_55 x3 x4 x5 (((gI σ 32 ((gI σ x3 x5.toNatClampNeg) >>> ((4 : Int32) &&& 31)).toNatClampNeg)).toInt64) x4 σ) else none)) else (some (BRK, σ)))) else none) else none))) else none)
def F_X3_evaluate_55 : Nat → Nat → Int32 → Int32 → AH → Option (Int64 × AH) := fun k => match k with | 0 => fun _ _ _ _ => none | k + 1 => B_X3_evaluate_55 (F_X3_evaluate_55 k)
def F_X3_evaluate (x1 : Int32) (σ : AH) : Option (Int64 × AH) := (if inB (x1 / (16 : Int32)) 24 = true then (on (gR σ 2 (x1 / (16 : Int32)).toNatClampNeg) (some (BRK, σ)) fun b1 => if kd σ b1 = (0, NO 0) ∧ b1 < nx σ then (bd (F_X3_isForced (x1 / (16 : Int32)) (x1 - x1 / (16 : Int32) * (16 : Int32)) σ) fun v12 σ8 => (if v12 = 0 then (some (BRK, σ8)) else (bo (gR σ8 b1 6) fun b15 => if (kd σ8 b15).1 = 100 ∧ b15 < nx σ8 then (bo (gR σ8 b1 5) fun b20 => if (kd σ8 b20).1 = 100 ∧ b20 < nx σ8 then (if inB (x1 - x1 / (16 : Int32) * (16 : Int32)) (kd σ8 b20).2 = true then (F_X3_evaluate_55 BIG b15 (0 : Int32) (gI σ8 b20 (x1 - x1 / (16 : Int32) * (16 : Int32)).toNatClampNeg) σ8) else none) else none) else none))) else none) else none)
set_option maxRecDepth 100000 in
theorem t_X3_evaluate_350 {X : Sx} {l : Launch} {D : Nat} {k_X3_evaluate_55 : Nat → Int32 → Int32 → AH → Option (Int64 × AH)} {x3 : Nat} {x4 : Int32} {x5 : Int32} {σ : AH} {v : Int64} {σ' : AH} (hD : 1 ≤ D) (hk_X3_evaluate_55 : ∀ (x3 : Nat) (x4 : Int32) (x5 : Int32) (σ : AH) (v : Int64) (σ' : AH), Sh σ → k_X3_evaluate_55 x3 x4 x5 σ = some (v, σ') → E X l m_X3_evaluate D 55 [(0, .ref 28), (3, .ref x3), (4, .int x4), (5, .int x5)] [] σ (some (.long v)) σ') (hs : Sh σ) (h : F_X3_evaluate_350 k_X3_evaluate_55 x3 x4 x5 σ = some (v, σ')) : W_X3_evaluate_350 X l D x3 x4 x5 σ (some (.long v)) σ' := by
  unfold F_X3_evaluate_350 at h
  unfold W_X3_evaluate_350
  obtain ⟨g1, h⟩ := of_gd h
  refine ⟨_, Prod.ext g1.1 rfl, g1.2, ?_⟩
  exact hk_X3_evaluate_55 _ _ _ _ _ _ hs  h
set_option maxRecDepth 100000 in
theorem t_X3_evaluate_347 {X : Sx} {l : Launch} {D : Nat} {k_X3_evaluate_55 : Nat → Int32 → Int32 → AH → Option (Int64 × AH)} {x3 : Nat} {x4 : Int32} {x5 : Int32} {σ : AH} {v : Int64} {σ' : AH} (hD : 1 ≤ D) (hk_X3_evaluate_55 : ∀ (x3 : Nat) (x4 : Int32) (x5 : Int32) (σ : AH) (v : Int64) (σ' : AH), Sh σ → k_X3_evaluate_55 x3 x4 x5 σ = some (v, σ') → E X l m_X3_evaluate D 55 [(0, .ref 28), (3, .ref x3), (4, .int x4), (5, .int x5)] [] σ (some (.long v)) σ') (hs : Sh σ) (h : F_X3_evaluate_347 k_X3_evaluate_55 x3 x4 x5 σ = some (v, σ')) : W_X3_evaluate_347 X l D x3 x4 x5 σ (some (.long v)) σ' := by
  unfold F_X3_evaluate_347 at h
  unfold W_X3_evaluate_347
  obtain ⟨g1, h⟩ := of_gd h
  refine ⟨_, Prod.ext g1.1 rfl, g1.2, ?_⟩
  exact t_X3_evaluate_350 hD hk_X3_evaluate_55 hs  h
set_option maxRecDepth 100000 in
theorem t_X3_evaluate_342 {X : Sx} {l : Launch} {D : Nat} {k_X3_evaluate_55 : Nat → Int32 → Int32 → AH → Option (Int64 × AH)} {x3 : Nat} {x4 : Int32} {y0 : Int32} {σ : AH} {v : Int64} {σ' : AH} (hD : 1 ≤ D) (hk_X3_evaluate_55 : ∀ (x3 : Nat) (x4 : Int32) (x5 : Int32) (σ : AH) (v : Int64) (σ' : AH), Sh σ → k_X3_evaluate_55 x3 x4 x5 σ = some (v, σ') → E X l m_X3_evaluate D 55 [(0, .ref 28), (3, .ref x3), (4, .int x4), (5, .int x5)] [] σ (some (.long v)) σ') (hs : Sh σ) (h : F_X3_evaluate_342 k_X3_evaluate_55 x3 x4 y0 σ = some (v, σ')) : W_X3_evaluate_342 X l D x3 x4 y0 σ (some (.long v)) σ' := by
  unfold F_X3_evaluate_342 at h
  unfold W_X3_evaluate_342
  obtain ⟨g1, h⟩ := of_gd h
  refine ⟨_, Prod.ext g1.1 rfl, g1.2, ?_⟩
  exact t_X3_evaluate_350 hD hk_X3_evaluate_55 hs  h
set_option maxRecDepth 100000 in
theorem t_X3_evaluate_323 {X : Sx} {l : Launch} {D : Nat} {k_X3_evaluate_55 : Nat → Int32 → Int32 → AH → Option (Int64 × AH)} {x3 : Nat} {x4 : Int32} {x5 : Int32} {x7 : Int32} {y0 : Int32} {y1 : Int32} {σ : AH} {v : Int64} {σ' : AH} (hD : 1 ≤ D) (hk_X3_evaluate_55 : ∀ (x3 : Nat) (x4 : Int32) (x5 : Int32) (σ : AH) (v : Int64) (σ' : AH), Sh σ → k_X3_evaluate_55 x3 x4 x5 σ = some (v, σ') → E X l m_X3_evaluate D 55 [(0, .ref 28), (3, .ref x3), (4, .int x4), (5, .int x5)] [] σ (some (.long v)) σ') (hs : Sh σ) (h : F_X3_evaluate_323 k_X3_evaluate_55 x3 x4 x5 x7 y0 y1 σ = some (v, σ')) : W_X3_evaluate_323 X l D x3 x4 x5 x7 y0 y1 σ (some (.long v)) σ' := by
  unfold F_X3_evaluate_323 at h
  unfold W_X3_evaluate_323
  obtain ⟨g1, h⟩ := of_gd h
  refine ⟨_, Prod.ext g1.1 rfl, g1.2, ?_⟩
  refine ite_i (fun c2 => ?_) (fun c2 => ?_)
  · replace h := of_ifp h c2
    refine ite_i (fun c3 => ?_) (fun c3 => ?_)
    · replace h := of_ifp h c3
      exact t_X3_evaluate_342 hD hk_X3_evaluate_55 hs  h
    · replace h := of_ifn h c3
      exact t_X3_evaluate_342 hD hk_X3_evaluate_55 hs  h
  · replace h := of_ifn h c2
    exact t_X3_evaluate_347 hD hk_X3_evaluate_55 hs  h
set_option maxRecDepth 100000 in
theorem t_X3_evaluate_311 {X : Sx} {l : Launch} {D : Nat} {k_X3_evaluate_55 : Nat → Int32 → Int32 → AH → Option (Int64 × AH)} {x3 : Nat} {x4 : Int32} {x5 : Int32} {x6 : Int32} {x7 : Int32} {y0 : Int32} {σ : AH} {v : Int64} {σ' : AH} (hD : 1 ≤ D) (hk_X3_evaluate_55 : ∀ (x3 : Nat) (x4 : Int32) (x5 : Int32) (σ : AH) (v : Int64) (σ' : AH), Sh σ → k_X3_evaluate_55 x3 x4 x5 σ = some (v, σ') → E X l m_X3_evaluate D 55 [(0, .ref 28), (3, .ref x3), (4, .int x4), (5, .int x5)] [] σ (some (.long v)) σ') (hs : Sh σ) (h : F_X3_evaluate_311 k_X3_evaluate_55 x3 x4 x5 x6 x7 y0 σ = some (v, σ')) : W_X3_evaluate_311 X l D x3 x4 x5 x6 x7 y0 σ (some (.long v)) σ' := by
  unfold F_X3_evaluate_311 at h
  unfold W_X3_evaluate_311
  obtain ⟨g1, h⟩ := of_gd h
  refine ⟨_, Prod.ext g1.1 rfl, g1.2, ?_⟩
  refine ite_i (fun c2 => ?_) (fun c2 => ?_)
  · replace h := of_ifp h c2
    exact t_X3_evaluate_323 hD hk_X3_evaluate_55 hs  h
  · replace h := of_ifn h c2
    exact t_X3_evaluate_323 hD hk_X3_evaluate_55 hs  h
set_option maxRecDepth 100000 in
theorem t_X3_evaluate_285 {X : Sx} {l : Launch} {D : Nat} {k_X3_evaluate_55 : Nat → Int32 → Int32 → AH → Option (Int64 × AH)} {x3 : Nat} {x4 : Int32} {x5 : Int32} {x6 : Int32} {x7 : Int32} {σ : AH} {v : Int64} {σ' : AH} (hD : 1 ≤ D) (hk_X3_evaluate_55 : ∀ (x3 : Nat) (x4 : Int32) (x5 : Int32) (σ : AH) (v : Int64) (σ' : AH), Sh σ → k_X3_evaluate_55 x3 x4 x5 σ = some (v, σ') → E X l m_X3_evaluate D 55 [(0, .ref 28), (3, .ref x3), (4, .int x4), (5, .int x5)] [] σ (some (.long v)) σ') (hs : Sh σ) (h : F_X3_evaluate_285 k_X3_evaluate_55 x3 x4 x5 x6 x7 σ = some (v, σ')) : W_X3_evaluate_285 X l D x3 x4 x5 x6 x7 σ (some (.long v)) σ' := by
  unfold F_X3_evaluate_285 at h
  unfold W_X3_evaluate_285
  obtain ⟨g1, h⟩ := of_gd h
  refine ⟨_, Prod.ext g1.1 rfl, g1.2, ?_⟩
  refine ite_i (fun c2 => ?_) (fun c2 => ?_)
  · replace h := of_ifp h c2
    exact t_X3_evaluate_347 hD hk_X3_evaluate_55 hs  h
  · replace h := of_ifn h c2
    obtain ⟨g3, h⟩ := of_gd h
    refine ⟨(inB_mp g3), ?_⟩
    refine ite_i (fun c4 => ?_) (fun c4 => ?_)
    · replace h := of_ifp h c4
      exact t_X3_evaluate_311 hD hk_X3_evaluate_55 hs  h
    · replace h := of_ifn h c4
      exact t_X3_evaluate_311 hD hk_X3_evaluate_55 hs  h
set_option maxRecDepth 100000 in
theorem t_X3_evaluate_267 {X : Sx} {l : Launch} {D : Nat} {k_X3_evaluate_55 : Nat → Int32 → Int32 → AH → Option (Int64 × AH)} {x3 : Nat} {x4 : Int32} {x5 : Int32} {x6 : Int32} {x7 : Int32} {σ : AH} {v : Int64} {σ' : AH} (hD : 1 ≤ D) (hk_X3_evaluate_55 : ∀ (x3 : Nat) (x4 : Int32) (x5 : Int32) (σ : AH) (v : Int64) (σ' : AH), Sh σ → k_X3_evaluate_55 x3 x4 x5 σ = some (v, σ') → E X l m_X3_evaluate D 55 [(0, .ref 28), (3, .ref x3), (4, .int x4), (5, .int x5)] [] σ (some (.long v)) σ') (hs : Sh σ) (h : F_X3_evaluate_267 k_X3_evaluate_55 x3 x4 x5 x6 x7 σ = some (v, σ')) : W_X3_evaluate_267 X l D x3 x4 x5 x6 x7 σ (some (.long v)) σ' := by
  unfold F_X3_evaluate_267 at h
  unfold W_X3_evaluate_267
  obtain ⟨g1, h⟩ := of_gd h
  refine ⟨_, Prod.ext g1.1 rfl, g1.2, ?_⟩
  obtain ⟨g2, h⟩ := of_gd h
  refine ⟨(inB_mp g2), ?_⟩
  refine ite_i (fun c3 => ?_) (fun c3 => ?_)
  · replace h := of_ifp h c3
    exact ret_l h
  · replace h := of_ifn h c3
    exact t_X3_evaluate_285 hD hk_X3_evaluate_55 hs  h
set_option maxRecDepth 100000 in
theorem t_X3_evaluate_129 {X : Sx} {l : Launch} {D : Nat} {k_X3_evaluate_55 : Nat → Int32 → Int32 → AH → Option (Int64 × AH)} {x3 : Nat} {x4 : Int32} {x5 : Int32} {y0 : Int64} {y1 : Int32} {σ : AH} {v : Int64} {σ' : AH} (hD : 1 ≤ D) (hk_X3_evaluate_55 : ∀ (x3 : Nat) (x4 : Int32) (x5 : Int32) (σ : AH) (v : Int64) (σ' : AH), Sh σ → k_X3_evaluate_55 x3 x4 x5 σ = some (v, σ') → E X l m_X3_evaluate D 55 [(0, .ref 28), (3, .ref x3), (4, .int x4), (5, .int x5)] [] σ (some (.long v)) σ') (hs : Sh σ) (h : F_X3_evaluate_129 k_X3_evaluate_55 x3 x4 x5 y0 y1 σ = some (v, σ')) : W_X3_evaluate_129 X l D x3 x4 x5 y0 y1 σ (some (.long v)) σ' := by
  unfold F_X3_evaluate_129 at h
  unfold W_X3_evaluate_129
  obtain ⟨g1, h⟩ := of_gd h
  refine ⟨_, Prod.ext g1.1 rfl, g1.2, ?_⟩
  obtain ⟨g2, h⟩ := of_gd h
  refine ⟨(inB_mp g2), ?_⟩
  exact t_X3_evaluate_350 hD hk_X3_evaluate_55 hs  h
set_option maxRecDepth 100000 in
theorem t_X3_evaluate_55 {X : Sx} {l : Launch} {D : Nat} {k_X3_evaluate_55 : Nat → Int32 → Int32 → AH → Option (Int64 × AH)} {x3 : Nat} {x4 : Int32} {x5 : Int32} {σ : AH} {v : Int64} {σ' : AH} (hD : 1 ≤ D) (hk_X3_evaluate_55 : ∀ (x3 : Nat) (x4 : Int32) (x5 : Int32) (σ : AH) (v : Int64) (σ' : AH), Sh σ → k_X3_evaluate_55 x3 x4 x5 σ = some (v, σ') → E X l m_X3_evaluate D 55 [(0, .ref 28), (3, .ref x3), (4, .int x4), (5, .int x5)] [] σ (some (.long v)) σ') (hs : Sh σ) (h : B_X3_evaluate_55 k_X3_evaluate_55 x3 x4 x5 σ = some (v, σ')) : W_X3_evaluate_55 X l D x3 x4 x5 σ (some (.long v)) σ' := by
  unfold B_X3_evaluate_55 at h
  unfold W_X3_evaluate_55
  obtain ⟨g1, h⟩ := of_gd h
  refine ⟨_, Prod.ext g1.1 rfl, g1.2, ?_⟩
  refine ite_i (fun c2 => ?_) (fun c2 => ?_)
  · replace h := of_ifp h c2
    exact ret_l h
  · replace h := of_ifn h c2
    refine ite_i (fun c3 => ?_) (fun c3 => ?_)
    · replace h := of_ifp h c3
      exact ret_l h
    · replace h := of_ifn h c3
      obtain ⟨g4, h⟩ := of_gd h
      refine ⟨(inB_mp g4), ?_⟩
      obtain ⟨g5, h⟩ := of_gd h
      refine ⟨(inB_mp g5), ?_⟩
      refine ite_i (fun c6 => ?_) (fun c6 => ?_)
      · replace h := of_ifp h c6
        refine ite_i (fun c7 => ?_) (fun c7 => ?_)
        · replace h := of_ifp h c7
          refine ite_i (fun c8 => ?_) (fun c8 => ?_)
          · replace h := of_ifp h c8
            refine ite_i (fun c9 => ?_) (fun c9 => ?_)
            · replace h := of_ifp h c9
              exact ret_l h
            · replace h := of_ifn h c9
              refine ite_i (fun c10 => ?_) (fun c10 => ?_)
              · replace h := of_ifp h c10
                obtain ⟨g11, h⟩ := of_gd h
                refine ⟨(inB_mp g11), ?_⟩
                obtain ⟨g12, h⟩ := of_gd h
                refine ⟨(inB_mp g12), ?_⟩
                exact t_X3_evaluate_350 hD hk_X3_evaluate_55 hs  h
              · replace h := of_ifn h c10
                refine ite_i (fun c13 => ?_) (fun c13 => ?_)
                · replace h := of_ifp h c13
                  exact t_X3_evaluate_267 hD hk_X3_evaluate_55 hs  h
                · replace h := of_ifn h c13
                  exact t_X3_evaluate_285 hD hk_X3_evaluate_55 hs  h
          · replace h := of_ifn h c8
            exact ret_l h
        · replace h := of_ifn h c7
          refine ite_i (fun c14 => ?_) (fun c14 => ?_)
          · replace h := of_ifp h c14
            obtain ⟨g15, h⟩ := of_gd h
            refine ⟨(inB_mp g15), ?_⟩
            obtain ⟨g16, h⟩ := of_gd h
            refine ⟨(inB_mp g16), ?_⟩
            obtain ⟨v37, σ33, q17, h⟩ := of_bd h
            have hC18 := f_X3_joined (σ := σ) hs  q17 (X := X) (l := l)
            have hs19 := hC18.1.2.2.2.1 hs
            refine ⟨0, v37, σ33, (Nat.le_trans (by decide) hD), hC18, ?_⟩
            obtain ⟨g20, h⟩ := of_gd h
            refine ⟨(inB_mp g20), ?_⟩
            obtain ⟨g21, h⟩ := of_gd h
            refine ⟨(inB_mp g21), ?_⟩
            refine bif_i (fun c22 => ?_) (fun c22 => ?_)
            · replace h := of_ifp h c22
              exact ret_l h
            · replace h := of_ifn h c22
              exact t_X3_evaluate_350 hD hk_X3_evaluate_55 hs19  h
          · replace h := of_ifn h c14
            exact ret_l h
      · replace h := of_ifn h c6
        refine ite_i (fun c23 => ?_) (fun c23 => ?_)
        · replace h := of_ifp h c23
          refine ite_i (fun c24 => ?_) (fun c24 => ?_)
          · replace h := of_ifp h c24
            exact t_X3_evaluate_129 hD hk_X3_evaluate_55 hs  h
          · replace h := of_ifn h c24
            obtain ⟨g25, h⟩ := of_gd h
            refine ⟨(inB_mp g25), ?_⟩
            exact t_X3_evaluate_129 hD hk_X3_evaluate_55 hs  h
        · replace h := of_ifn h c23
          exact ret_l h
theorem e_X3_evaluate_55 {X : Sx} {l : Launch} {D : Nat} (hD : 1 ≤ D) : ∀ (k : Nat) (x3 : Nat) (x4 : Int32) (x5 : Int32) (σ : AH) (v : Int64) (σ' : AH), Sh σ → F_X3_evaluate_55 k x3 x4 x5 σ = some (v, σ') → E X l m_X3_evaluate D 55 [(0, .ref 28), (3, .ref x3), (4, .int x4), (5, .int x5)] [] σ (some (.long v)) σ' := by
  intro k
  induction k with
  | zero => intro x3 x4 x5 σ v σ' hs h; cases h
  | succ k ih =>
    intro x3 x4 x5 σ v σ' hs h
    exact w_X3_evaluate_55 hs  (t_X3_evaluate_55 hD ih hs  h)
set_option maxRecDepth 100000 in
theorem t_X3_evaluate_0 {X : Sx} {l : Launch} {D : Nat} {x1 : Int32} {σ : AH} {v : Int64} {σ' : AH} (hD : 1 ≤ D) (hs : Sh σ) (h : F_X3_evaluate x1 σ = some (v, σ')) : W_X3_evaluate_0 X l D x1 σ (some (.long v)) σ' := by
  unfold F_X3_evaluate at h
  unfold W_X3_evaluate_0
  obtain ⟨g1, h⟩ := of_gd h
  refine ⟨(inB_mp g1), ?_⟩
  refine ⟨?_, ?_⟩
  · intro e3
    replace h := of_on0 h e3
    exact ret_l h
  · intro b1 e3
    replace h := of_on1 h e3
    obtain ⟨g2, h⟩ := of_gd h
    refine ⟨g2.1, g2.2, ?_⟩
    obtain ⟨v12, σ8, q4, h⟩ := of_bd h
    have hC5 := f_X3_isForced (σ := σ) hs  q4 (X := X) (l := l)
    have hs6 := hC5.1.2.2.2.1 hs
    refine ⟨0, v12, σ8, (Nat.le_trans (by decide) hD), hC5, ?_⟩
    refine ite_i (fun c7 => ?_) (fun c7 => ?_)
    · replace h := of_ifp h c7
      exact ret_l h
    · replace h := of_ifn h c7
      obtain ⟨b15, e9, h⟩ := of_bo h
      obtain ⟨g8, h⟩ := of_gd h
      refine ⟨b15, _, e9, Prod.ext g8.1 rfl, g8.2, ?_⟩
      obtain ⟨b20, e11, h⟩ := of_bo h
      obtain ⟨g10, h⟩ := of_gd h
      refine ⟨b20, _, e11, Prod.ext g10.1 rfl, g10.2, ?_⟩
      obtain ⟨g12, h⟩ := of_gd h
      refine ⟨(inB_mp g12), ?_⟩
      exact e_X3_evaluate_55 hD  _ _ _ _ _ _ _ hs6  h
theorem f_X3_evaluate {X : Sx} {l : Launch} {x1 : Int32} {σ : AH} {v : Int64} {σ' : AH} (hs : Sh σ) (h : F_X3_evaluate x1 σ = some (v, σ')) : Call X l m_X3_evaluate 1 [.ref 28, .int x1] σ (some (.long v)) σ' :=
  Call.ofE ok_X3_evaluate rfl (Nat.le_of_ble_eq_true rfl) (w_X3_evaluate_0 hs  (t_X3_evaluate_0 (Nat.le_refl _) hs  h))
def B_X3_counted_9 (k_X3_counted_9 : Int32 → Int32 → AH → Option (Int32 × AH)) (x2 : Int32) (x3 : Int32) (σ : AH) : Option (Int32 × AH) := (if (384 : Int32) ≤ x3 then (some ((-1 : Int32), σ)) else (if x2 < 0 then (some ((-1 : Int32), σ)) else (bd (F_X3_evaluate x2 σ) fun v7 σ3 => (if v7 = BRK then (if inB x2 384 = true then (k_X3_counted_9 (gI σ3 30 x2.toNatClampNeg) (x3 + 1) σ3) else none) else (if (0 : Int64) ≤ v7 then (some ((v7).toInt32, σ3)) else (some ((0 : Int32), σ3)))))))
def F_X3_counted_9 : Nat → Int32 → Int32 → AH → Option (Int32 × AH) := fun k => match k with | 0 => fun _ _ _ => none | k + 1 => B_X3_counted_9 (F_X3_counted_9 k)
def F_X3_counted (x1 : Int32) (σ : AH) : Option (Int32 × AH) := (if inB x1 63 = true then (F_X3_counted_9 BIG (gI σ 29 x1.toNatClampNeg) (0 : Int32) σ) else none)
set_option maxRecDepth 100000 in
theorem t_X3_counted_9 {X : Sx} {l : Launch} {D : Nat} {k_X3_counted_9 : Int32 → Int32 → AH → Option (Int32 × AH)} {x2 : Int32} {x3 : Int32} {σ : AH} {v : Int32} {σ' : AH} (hD : 2 ≤ D) (hk_X3_counted_9 : ∀ (x2 : Int32) (x3 : Int32) (σ : AH) (v : Int32) (σ' : AH), Sh σ → k_X3_counted_9 x2 x3 σ = some (v, σ') → E X l m_X3_counted D 9 [(0, .ref 28), (2, .int x2), (3, .int x3)] [] σ (some (.int v)) σ') (hs : Sh σ) (h : B_X3_counted_9 k_X3_counted_9 x2 x3 σ = some (v, σ')) : W_X3_counted_9 X l D x2 x3 σ (some (.int v)) σ' := by
  unfold B_X3_counted_9 at h
  unfold W_X3_counted_9
  refine ite_i (fun c1 => ?_) (fun c1 => ?_)
  · replace h := of_ifp h c1
    exact ret_i h
  · replace h := of_ifn h c1
    refine ite_i (fun c2 => ?_) (fun c2 => ?_)
    · replace h := of_ifp h c2
      exact ret_i h
    · replace h := of_ifn h c2
      obtain ⟨v7, σ3, q3, h⟩ := of_bd h
      have hC4 := f_X3_evaluate (σ := σ) hs  q3 (X := X) (l := l)
      have hs5 := hC4.1.2.2.2.1 hs
      refine ⟨1, v7, σ3, (Nat.le_trans (by decide) hD), hC4, ?_⟩
      refine bif_i (fun c6 => ?_) (fun c6 => ?_)
      · replace h := of_ifp h c6
        obtain ⟨g7, h⟩ := of_gd h
        refine ⟨(inB_mp g7), ?_⟩
        exact hk_X3_counted_9 _ _ _ _ _ hs5  h
      · replace h := of_ifn h c6
        refine ite_i (fun c8 => ?_) (fun c8 => ?_)
        · replace h := of_ifp h c8
          exact ret_i h
        · replace h := of_ifn h c8
          exact ret_i h
theorem e_X3_counted_9 {X : Sx} {l : Launch} {D : Nat} (hD : 2 ≤ D) : ∀ (k : Nat) (x2 : Int32) (x3 : Int32) (σ : AH) (v : Int32) (σ' : AH), Sh σ → F_X3_counted_9 k x2 x3 σ = some (v, σ') → E X l m_X3_counted D 9 [(0, .ref 28), (2, .int x2), (3, .int x3)] [] σ (some (.int v)) σ' := by
  intro k
  induction k with
  | zero => intro x2 x3 σ v σ' hs h; cases h
  | succ k ih =>
    intro x2 x3 σ v σ' hs h
    exact w_X3_counted_9 hs  (t_X3_counted_9 hD ih hs  h)
set_option maxRecDepth 100000 in
theorem t_X3_counted_0 {X : Sx} {l : Launch} {D : Nat} {x1 : Int32} {σ : AH} {v : Int32} {σ' : AH} (hD : 2 ≤ D) (hs : Sh σ) (h : F_X3_counted x1 σ = some (v, σ')) : W_X3_counted_0 X l D x1 σ (some (.int v)) σ' := by
  unfold F_X3_counted at h
  unfold W_X3_counted_0
  obtain ⟨g1, h⟩ := of_gd h
  refine ⟨(inB_mp g1), ?_⟩
  exact e_X3_counted_9 hD  _ _ _ _ _ _ hs  h
theorem f_X3_counted {X : Sx} {l : Launch} {x1 : Int32} {σ : AH} {v : Int32} {σ' : AH} (hs : Sh σ) (h : F_X3_counted x1 σ = some (v, σ')) : Call X l m_X3_counted 2 [.ref 28, .int x1] σ (some (.int v)) σ' :=
  Call.ofE ok_X3_counted rfl (Nat.le_of_ble_eq_true rfl) (w_X3_counted_0 hs  (t_X3_counted_0 (Nat.le_refl _) hs  h))
def F_X10_licencesFor_61 (x3 : Int32) (σ : AH) : Option (Int32 × AH) := (if inB x3 60 = true then (some ((gI σ 40 x3.toNatClampNeg), σ)) else none)
def F_X10_licencesFor (x1 : Int32) (x2 : Int32) (σ : AH) : Option (Int32 × AH) := (if inB ((x2 * (3 : Int32)) + x1) 60 = true then (if (gI σ 40 ((x2 * (3 : Int32)) + x1).toNatClampNeg) = (-2 : Int32) then (bv (F_X3_settle (x2 * (13 : Int32)) (gI σ 34 2) σ) fun σ3 => (bv (F_X3_ask (0 : Int32) (x2 * (13 : Int32)) σ3) fun σ8 => (bd (F_X3_counted ((55 : Int32) + x1) σ8) fun v17 σ13 => (if inB ((x2 * (3 : Int32)) + x1) 60 = true then (F_X10_licencesFor_61 ((x2 * (3 : Int32)) + x1) (sI σ13 40 (((x2 * (3 : Int32)) + x1).toNatClampNeg) v17)) else none)))) else (F_X10_licencesFor_61 ((x2 * (3 : Int32)) + x1) σ)) else none)
set_option maxRecDepth 100000 in
theorem t_X10_licencesFor_61 {X : Sx} {l : Launch} {D : Nat} {x3 : Int32} {σ : AH} {v : Int32} {σ' : AH} (hD : 3 ≤ D) (hs : Sh σ) (h : F_X10_licencesFor_61 x3 σ = some (v, σ')) : W_X10_licencesFor_61 X l D x3 σ (some (.int v)) σ' := by
  unfold F_X10_licencesFor_61 at h
  unfold W_X10_licencesFor_61
  obtain ⟨g1, h⟩ := of_gd h
  refine ⟨(inB_mp g1), ?_⟩
  exact ret_i h
set_option maxRecDepth 100000 in
theorem t_X10_licencesFor_0 {X : Sx} {l : Launch} {D : Nat} {x1 : Int32} {x2 : Int32} {σ : AH} {v : Int32} {σ' : AH} (hD : 3 ≤ D) (hs : Sh σ) (h : F_X10_licencesFor x1 x2 σ = some (v, σ')) : W_X10_licencesFor_0 X l D x1 x2 σ (some (.int v)) σ' := by
  unfold F_X10_licencesFor at h
  unfold W_X10_licencesFor_0
  obtain ⟨g1, h⟩ := of_gd h
  refine ⟨(inB_mp g1), ?_⟩
  refine ite_i (fun c2 => ?_) (fun c2 => ?_)
  · replace h := of_ifp h c2
    obtain ⟨σ3, q3, h⟩ := of_bv h
    have hC4 := f_X3_settle (σ := σ) hs  q3 (X := X) (l := l)
    have hs5 := hC4.1.2.2.2.1 hs
    refine ⟨2, σ3, (Nat.le_trans (by decide) hD), hC4, ?_⟩
    obtain ⟨σ8, q6, h⟩ := of_bv h
    have hC7 := f_X3_ask (σ := σ3) hs5  q6 (X := X) (l := l)
    have hs8 := hC7.1.2.2.2.1 hs5
    refine ⟨1, σ8, (Nat.le_trans (by decide) hD), hC7, ?_⟩
    obtain ⟨v17, σ13, q9, h⟩ := of_bd h
    have hC10 := f_X3_counted (σ := σ8) hs8  q9 (X := X) (l := l)
    have hs11 := hC10.1.2.2.2.1 hs8
    refine ⟨2, v17, σ13, (Nat.le_trans (by decide) hD), hC10, ?_⟩
    obtain ⟨g12, h⟩ := of_gd h
    refine ⟨(inB_mp g12), ?_⟩
    exact t_X10_licencesFor_61 hD  hs11  h
  · replace h := of_ifn h c2
    exact t_X10_licencesFor_61 hD  hs  h
theorem f_X10_licencesFor {X : Sx} {l : Launch} {x1 : Int32} {x2 : Int32} {σ : AH} {v : Int32} {σ' : AH} (hs : Sh σ) (h : F_X10_licencesFor x1 x2 σ = some (v, σ')) : Call X l m_X10_licencesFor 3 [.ref 34, .int x1, .int x2] σ (some (.int v)) σ' :=
  Call.ofE ok_X10_licencesFor rfl (Nat.le_of_ble_eq_true rfl) (w_X10_licencesFor_0 hs  (t_X10_licencesFor_0 (Nat.le_refl _) hs  h))
def F_X10_lineUp_160 (k_X10_lineUp_17 : Nat → Int32 → Int32 → AH → Option AH) (x1 : Nat) (x2 : Int32) (x3 : Int32) (σ : AH) : Option AH := (k_X10_lineUp_17 x1 x2 (x3 + 1) σ)
def F_X10_lineUp_122 (k_X10_lineUp_17 : Nat → Int32 → Int32 → AH → Option AH) (x1 : Nat) (x2 : Int32) (x3 : Int32) (x5 : Int32) (σ : AH) : Option AH := (if inB x5 18 = true then (if inB x5 18 = true then (if inB x3 30 = true then (if inB (gI (sI (sI σ (x1 + 3) x5.toNatClampNeg ((gI σ (x1 + 3) x5.toNatClampNeg) + (1 : Int32))) (x1 + 4) x3.toNatClampNeg (1 : Int32)) x1 2) 30 = true then (lt (sI (sI (sI σ (x1 + 3) x5.toNatClampNeg ((gI σ (x1 + 3) x5.toNatClampNeg) + (1 : Int32))) (x1 + 4) x3.toNatClampNeg (1 : Int32)) (x1 + 2) ((gI (sI (sI σ (x1 + 3) x5.toNatClampNeg ((gI σ (x1 + 3) x5.toNatClampNeg) + (1 : Int32))) (x1 + 4) x3.toNatClampNeg (1 : Int32)) x1 2).toNatClampNeg) x3) fun τ36 => (F_X10_lineUp_160 k_X10_lineUp_17 x1 x2 x3 (sI τ36 x1 2 ((gI τ36 x1 2) + (1 : Int32))))) else none) else none) else none) else none)
def B_X10_lineUp_17 (k_X10_lineUp_17 : Nat → Int32 → Int32 → AH → Option AH) (x1 : Nat) (x2 : Int32) (x3 : Int32) (σ : AH) : Option AH := (if inB x2 260 = true then (if (gI σ 39 x2.toNatClampNeg) ≤ 0 then (some σ) else (bd (F_X8_rows 9 σ) fun v11 σ7 => (if v11 ≤ x3 then (some σ7) else (if inB x3 30 = true then (if (gI σ7 38 x3.toNatClampNeg) = x2 then (if (30 : Int32) ≤ (gI σ7 x1 2) then (F_X10_lineUp_160 k_X10_lineUp_17 x1 x2 x3 σ7) else (bd (F_X8_at 9 x3 (1 : Int32) σ7) fun v18 σ14 => (bd (F_X8_at 9 x3 (0 : Int32) σ14) fun v24 σ20 => (bd (F_X10_licencesFor v18 (x2 / (13 : Int32)) σ20) fun v30 σ26 => (if v30 = (-1 : Int32) then (F_X10_lineUp_122 k_X10_lineUp_17 x1 x2 x3 ((v24 * (3 : Int32)) + v18) σ26) else (if inB ((v24 * (3 : Int32)) + v18) 18 = true then (if v30 ≤ (gI σ26 (x1 + 3) ((v24 * (3 : Int32)) + v18).toNatClampNeg) then (F_X10_lineUp_160 k_X10_lineUp_17 x1 x2 x3 σ26) else (F_X10_lineUp_122 k_X10_lineUp_17 x1 x2 x3 ((v24 * (3 : Int32)) + v18) σ26)) else none)))))) else (F_X10_lineUp_160 k_X10_lineUp_17 x1 x2 x3 σ7)) else none)))) else none)
def F_X10_lineUp_17 : Nat → Nat → Int32 → Int32 → AH → Option AH := fun k => match k with | 0 => fun _ _ _ _ => none | k + 1 => B_X10_lineUp_17 (F_X10_lineUp_17 k)
def F_X10_lineUp_15 (x1 : Nat) (x2 : Int32) (σ : AH) : Option AH := (F_X10_lineUp_17 BIG x1 x2 (0 : Int32) σ)
def F_X10_lineUp (x1 : Nat) (x2 : Int32) (σ : AH) : Option AH := (if (x2 - x2 / (13 : Int32) * (13 : Int32)) = 0 then (lt (sA σ (x1 + 3) (filln (gI σ (x1 + 3)) 18 (0 : Int32))) fun τ2 => (F_X10_lineUp_15 x1 x2 τ2)) else (F_X10_lineUp_15 x1 x2 σ))
set_option maxRecDepth 100000 in
theorem t_X10_lineUp_160 {X : Sx} {l : Launch} {D : Nat} {k_X10_lineUp_17 : Nat → Int32 → Int32 → AH → Option AH} {x1 : Nat} {x2 : Int32} {x3 : Int32} {σ : AH} {σ' : AH} (hD : 4 ≤ D) (hk_X10_lineUp_17 : ∀ (x1 : Nat) (x2 : Int32) (x3 : Int32) (σ : AH) (σ' : AH), Sh σ → x1 ∈ siteIds → k_X10_lineUp_17 x1 x2 x3 σ = some σ' → E X l m_X10_lineUp D 17 [(0, .ref 34), (1, .ref x1), (2, .int x2), (3, .int x3)] [] σ none σ') (hs : Sh σ) (hmx1 : x1 ∈ siteIds) (h : F_X10_lineUp_160 k_X10_lineUp_17 x1 x2 x3 σ = some σ') : W_X10_lineUp_160 X l D x1 x2 x3 σ none σ' := by
  unfold F_X10_lineUp_160 at h
  unfold W_X10_lineUp_160
  exact hk_X10_lineUp_17 _ _ _ _ _ hs (by first | assumption | exact st_stock (by assumption) | exact rn_site (by assumption) | decide) h
set_option maxRecDepth 100000 in
theorem t_X10_lineUp_122 {X : Sx} {l : Launch} {D : Nat} {k_X10_lineUp_17 : Nat → Int32 → Int32 → AH → Option AH} {x1 : Nat} {x2 : Int32} {x3 : Int32} {x5 : Int32} {σ : AH} {σ' : AH} (hD : 4 ≤ D) (hk_X10_lineUp_17 : ∀ (x1 : Nat) (x2 : Int32) (x3 : Int32) (σ : AH) (σ' : AH), Sh σ → x1 ∈ siteIds → k_X10_lineUp_17 x1 x2 x3 σ = some σ' → E X l m_X10_lineUp D 17 [(0, .ref 34), (1, .ref x1), (2, .int x2), (3, .int x3)] [] σ none σ') (hs : Sh σ) (hmx1 : x1 ∈ siteIds) (h : F_X10_lineUp_122 k_X10_lineUp_17 x1 x2 x3 x5 σ = some σ') : W_X10_lineUp_122 X l D x1 x2 x3 x5 σ none σ' := by
  unfold F_X10_lineUp_122 at h
  unfold W_X10_lineUp_122
  obtain ⟨g1, h⟩ := of_gd h
  refine ⟨(inB_mp g1), ?_⟩
  obtain ⟨g2, h⟩ := of_gd h
  refine ⟨(inB_mp g2), ?_⟩
  obtain ⟨g3, h⟩ := of_gd h
  refine ⟨(inB_mp g3), ?_⟩
  obtain ⟨g4, h⟩ := of_gd h
  refine ⟨(inB_mp g4), ?_⟩
  intro τ36 e5
  replace h := of_lt h e5
  have hs6 : Sh τ36 := by rw [e5]; exact hs
  exact t_X10_lineUp_160 hD hk_X10_lineUp_17 hs6 (by first | assumption | exact st_stock (by assumption) | exact rn_site (by assumption) | decide) h
set_option maxRecDepth 100000 in
theorem t_X10_lineUp_17 {X : Sx} {l : Launch} {D : Nat} {k_X10_lineUp_17 : Nat → Int32 → Int32 → AH → Option AH} {x1 : Nat} {x2 : Int32} {x3 : Int32} {σ : AH} {σ' : AH} (hD : 4 ≤ D) (hk_X10_lineUp_17 : ∀ (x1 : Nat) (x2 : Int32) (x3 : Int32) (σ : AH) (σ' : AH), Sh σ → x1 ∈ siteIds → k_X10_lineUp_17 x1 x2 x3 σ = some σ' → E X l m_X10_lineUp D 17 [(0, .ref 34), (1, .ref x1), (2, .int x2), (3, .int x3)] [] σ none σ') (hs : Sh σ) (hmx1 : x1 ∈ siteIds) (h : B_X10_lineUp_17 k_X10_lineUp_17 x1 x2 x3 σ = some σ') : W_X10_lineUp_17 X l D x1 x2 x3 σ none σ' := by
  unfold B_X10_lineUp_17 at h
  unfold W_X10_lineUp_17
  obtain ⟨g1, h⟩ := of_gd h
  refine ⟨(inB_mp g1), ?_⟩
  refine ite_i (fun c2 => ?_) (fun c2 => ?_)
  · replace h := of_ifp h c2
    exact ret_v h
  · replace h := of_ifn h c2
    obtain ⟨v11, σ7, q3, h⟩ := of_bd h
    have hC4 := f_X8_rows  q3 (X := X) (l := l)
    have hs5 := hC4.1.2.2.2.1 hs
    refine ⟨0, v11, σ7, (Nat.le_trans (by decide) hD), hC4, ?_⟩
    refine ite_i (fun c6 => ?_) (fun c6 => ?_)
    · replace h := of_ifp h c6
      exact ret_v h
    · replace h := of_ifn h c6
      obtain ⟨g7, h⟩ := of_gd h
      refine ⟨(inB_mp g7), ?_⟩
      refine ite_i (fun c8 => ?_) (fun c8 => ?_)
      · replace h := of_ifp h c8
        refine ite_i (fun c9 => ?_) (fun c9 => ?_)
        · replace h := of_ifp h c9
          exact t_X10_lineUp_160 hD hk_X10_lineUp_17 hs5 (by first | assumption | exact st_stock (by assumption) | exact rn_site (by assumption) | decide) h
        · replace h := of_ifn h c9
          obtain ⟨v18, σ14, q10, h⟩ := of_bd h
          have hC11 := f_X8_at  q10 (X := X) (l := l)
          have hs12 := hC11.1.2.2.2.1 hs5
          refine ⟨0, v18, σ14, (Nat.le_trans (by decide) hD), hC11, ?_⟩
          obtain ⟨v24, σ20, q13, h⟩ := of_bd h
          have hC14 := f_X8_at  q13 (X := X) (l := l)
          have hs15 := hC14.1.2.2.2.1 hs12
          refine ⟨0, v24, σ20, (Nat.le_trans (by decide) hD), hC14, ?_⟩
          obtain ⟨v30, σ26, q16, h⟩ := of_bd h
          have hC17 := f_X10_licencesFor (σ := σ20) hs15  q16 (X := X) (l := l)
          have hs18 := hC17.1.2.2.2.1 hs15
          refine ⟨3, v30, σ26, (Nat.le_trans (by decide) hD), hC17, ?_⟩
          refine ite_i (fun c19 => ?_) (fun c19 => ?_)
          · replace h := of_ifp h c19
            exact t_X10_lineUp_122 hD hk_X10_lineUp_17 hs18 (by first | assumption | exact st_stock (by assumption) | exact rn_site (by assumption) | decide) h
          · replace h := of_ifn h c19
            obtain ⟨g20, h⟩ := of_gd h
            refine ⟨(inB_mp g20), ?_⟩
            refine ite_i (fun c21 => ?_) (fun c21 => ?_)
            · replace h := of_ifp h c21
              exact t_X10_lineUp_160 hD hk_X10_lineUp_17 hs18 (by first | assumption | exact st_stock (by assumption) | exact rn_site (by assumption) | decide) h
            · replace h := of_ifn h c21
              exact t_X10_lineUp_122 hD hk_X10_lineUp_17 hs18 (by first | assumption | exact st_stock (by assumption) | exact rn_site (by assumption) | decide) h
      · replace h := of_ifn h c8
        exact t_X10_lineUp_160 hD hk_X10_lineUp_17 hs5 (by first | assumption | exact st_stock (by assumption) | exact rn_site (by assumption) | decide) h
theorem e_X10_lineUp_17 {X : Sx} {l : Launch} {D : Nat} (hD : 4 ≤ D) : ∀ (k : Nat) (x1 : Nat) (x2 : Int32) (x3 : Int32) (σ : AH) (σ' : AH), Sh σ → x1 ∈ siteIds → F_X10_lineUp_17 k x1 x2 x3 σ = some σ' → E X l m_X10_lineUp D 17 [(0, .ref 34), (1, .ref x1), (2, .int x2), (3, .int x3)] [] σ none σ' := by
  intro k
  induction k with
  | zero => intro x1 x2 x3 σ σ' hs hmx1 h; cases h
  | succ k ih =>
    intro x1 x2 x3 σ σ' hs hmx1 h
    exact w_X10_lineUp_17 hs hmx1 (t_X10_lineUp_17 hD ih hs hmx1 h)
set_option maxRecDepth 100000 in
theorem t_X10_lineUp_15 {X : Sx} {l : Launch} {D : Nat} {x1 : Nat} {x2 : Int32} {σ : AH} {σ' : AH} (hD : 4 ≤ D) (hs : Sh σ) (hmx1 : x1 ∈ siteIds) (h : F_X10_lineUp_15 x1 x2 σ = some σ') : W_X10_lineUp_15 X l D x1 x2 σ none σ' := by
  unfold F_X10_lineUp_15 at h
  unfold W_X10_lineUp_15
  exact e_X10_lineUp_17 hD  _ _ _ _ _ _ hs (by first | assumption | exact st_stock (by assumption) | exact rn_site (by assumption) | decide) h
set_option maxRecDepth 100000 in
theorem t_X10_lineUp_0 {X : Sx} {l : Launch} {D : Nat} {x1 : Nat} {x2 : Int32} {σ : AH} {σ' : AH} (hD : 4 ≤ D) (hs : Sh σ) (hmx1 : x1 ∈ siteIds) (h : F_X10_lineUp x1 x2 σ = some σ') : W_X10_lineUp_0 X l D x1 x2 σ none σ' := by
  unfold F_X10_lineUp at h
  unfold W_X10_lineUp_0
  refine ite_i (fun c1 => ?_) (fun c1 => ?_)
  · replace h := of_ifp h c1
    refine ⟨Nat.le_trans (by decide) hD, ?_⟩
    intro τ2 e2
    replace h := of_lt h e2
    have hs3 : Sh τ2 := by rw [e2]; exact hs
    exact t_X10_lineUp_15 hD  hs3 (by first | assumption | exact st_stock (by assumption) | exact rn_site (by assumption) | decide) h
  · replace h := of_ifn h c1
    exact t_X10_lineUp_15 hD  hs (by first | assumption | exact st_stock (by assumption) | exact rn_site (by assumption) | decide) h
theorem f_X10_lineUp {X : Sx} {l : Launch} {x1 : Nat} {x2 : Int32} {σ : AH} {σ' : AH} (hs : Sh σ) (hmx1 : x1 ∈ siteIds) (h : F_X10_lineUp x1 x2 σ = some σ') : Call X l m_X10_lineUp 4 [.ref 34, .ref x1, .int x2] σ none σ' :=
  Call.ofE ok_X10_lineUp rfl (Nat.le_of_ble_eq_true rfl) (w_X10_lineUp_0 hs hmx1 (t_X10_lineUp_0 (Nat.le_refl _) hs hmx1 h))
def F_X10_firstKind_47 (x1 : Int32) (σ : AH) : Option (Int32 × AH) := (if inB x1 260 = true then (some ((gI σ 41 x1.toNatClampNeg), σ)) else none)
def F_X10_firstKind (x1 : Int32) (σ : AH) : Option (Int32 × AH) := (if inB x1 260 = true then (if (gI σ 41 x1.toNatClampNeg) = (-2 : Int32) then (bv (F_X3_settle x1 (gI σ 34 2) σ) fun σ3 => (bv (F_X3_ask (0 : Int32) x1 σ3) fun σ8 => (bd (F_X3_counted (61 : Int32) σ8) fun v17 σ13 => (if inB x1 260 = true then (F_X10_firstKind_47 x1 (sI σ13 41 x1.toNatClampNeg v17)) else none)))) else (F_X10_firstKind_47 x1 σ)) else none)
set_option maxRecDepth 100000 in
theorem t_X10_firstKind_47 {X : Sx} {l : Launch} {D : Nat} {x1 : Int32} {σ : AH} {v : Int32} {σ' : AH} (hD : 3 ≤ D) (hs : Sh σ) (h : F_X10_firstKind_47 x1 σ = some (v, σ')) : W_X10_firstKind_47 X l D x1 σ (some (.int v)) σ' := by
  unfold F_X10_firstKind_47 at h
  unfold W_X10_firstKind_47
  obtain ⟨g1, h⟩ := of_gd h
  refine ⟨(inB_mp g1), ?_⟩
  exact ret_i h
set_option maxRecDepth 100000 in
theorem t_X10_firstKind_0 {X : Sx} {l : Launch} {D : Nat} {x1 : Int32} {σ : AH} {v : Int32} {σ' : AH} (hD : 3 ≤ D) (hs : Sh σ) (h : F_X10_firstKind x1 σ = some (v, σ')) : W_X10_firstKind_0 X l D x1 σ (some (.int v)) σ' := by
  unfold F_X10_firstKind at h
  unfold W_X10_firstKind_0
  obtain ⟨g1, h⟩ := of_gd h
  refine ⟨(inB_mp g1), ?_⟩
  refine ite_i (fun c2 => ?_) (fun c2 => ?_)
  · replace h := of_ifp h c2
    obtain ⟨σ3, q3, h⟩ := of_bv h
    have hC4 := f_X3_settle (σ := σ) hs  q3 (X := X) (l := l)
    have hs5 := hC4.1.2.2.2.1 hs
    refine ⟨2, σ3, (Nat.le_trans (by decide) hD), hC4, ?_⟩
    obtain ⟨σ8, q6, h⟩ := of_bv h
    have hC7 := f_X3_ask (σ := σ3) hs5  q6 (X := X) (l := l)
    have hs8 := hC7.1.2.2.2.1 hs5
    refine ⟨1, σ8, (Nat.le_trans (by decide) hD), hC7, ?_⟩
    obtain ⟨v17, σ13, q9, h⟩ := of_bd h
    have hC10 := f_X3_counted (σ := σ8) hs8  q9 (X := X) (l := l)
    have hs11 := hC10.1.2.2.2.1 hs8
    refine ⟨2, v17, σ13, (Nat.le_trans (by decide) hD), hC10, ?_⟩
    obtain ⟨g12, h⟩ := of_gd h
    refine ⟨(inB_mp g12), ?_⟩
    exact t_X10_firstKind_47 hD  hs11  h
  · replace h := of_ifn h c2
    exact t_X10_firstKind_47 hD  hs  h
theorem f_X10_firstKind {X : Sx} {l : Launch} {x1 : Int32} {σ : AH} {v : Int32} {σ' : AH} (hs : Sh σ) (h : F_X10_firstKind x1 σ = some (v, σ')) : Call X l m_X10_firstKind 3 [.ref 34, .int x1] σ (some (.int v)) σ' :=
  Call.ofE ok_X10_firstKind rfl (Nat.le_of_ble_eq_true rfl) (w_X10_firstKind_0 hs  (t_X10_firstKind_0 (Nat.le_refl _) hs  h))
def F_X10_doBatches_123 (x1 : Nat) (x2 : Int32) (x3 : Int32) (x4 : Int32) (x5 : Int32) (x6 : Int32) (x7 : Int32) (σ : AH) : Option AH := (if inB x3 5 = true then (if inB x3 5 = true then (if inB x4 5 = true then (if inB x4 5 = true then (lt (sI (sI σ x1 x3.toNatClampNeg ((gI σ x1 x3.toNatClampNeg) - (x7 * x5))) x1 x4.toNatClampNeg ((gI (sI σ x1 x3.toNatClampNeg ((gI σ x1 x3.toNatClampNeg) - (x7 * x5))) x1 x4.toNatClampNeg) - (x7 * x6))) fun τ41 => (bd (F_X8_at 5 x2 (4 : Int32) τ41) fun v49 σ45 => (if inB v49 5 = true then (bd (F_X8_at 5 x2 (5 : Int32) σ45) fun v56 σ52 => (if inB v49 5 = true then (some (sI σ52 x1 v49.toNatClampNeg ((gI σ45 x1 v49.toNatClampNeg) + (x7 * v56)))) else none)) else none))) else none) else none) else none) else none)
def F_X10_doBatches_104 (x1 : Nat) (x2 : Int32) (x3 : Int32) (x4 : Int32) (x5 : Int32) (x6 : Int32) (x7 : Int32) (σ : AH) : Option AH := (if x6 ≤ 0 then (F_X10_doBatches_123 x1 x2 x3 x4 x5 x6 x7 σ) else (if inB x4 5 = true then (if ¬ x6 = 0 then (F_X10_doBatches_123 x1 x2 x3 x4 x5 x6 (imin x7 ((gI σ x1 x4.toNatClampNeg) / x6)) σ) else none) else none))
def F_X10_doBatches_86 (x1 : Nat) (x2 : Int32) (x3 : Int32) (x4 : Int32) (x5 : Int32) (x6 : Int32) (x7 : Int32) (σ : AH) : Option AH := (if x5 ≤ 0 then (F_X10_doBatches_104 x1 x2 x3 x4 x5 x6 x7 σ) else (if inB x3 5 = true then (if ¬ x5 = 0 then (F_X10_doBatches_104 x1 x2 x3 x4 x5 x6 (imin x7 ((gI σ x1 x3.toNatClampNeg) / x5)) σ) else none) else none))
def F_X10_doBatches (x1 : Nat) (x2 : Int32) (σ : AH) : Option AH := (bd (F_X8_at 5 x2 (0 : Int32) σ) fun v6 σ2 => (bd (F_X8_at 5 x2 (2 : Int32) σ2) fun v12 σ8 => (bd (F_X8_at 5 x2 (1 : Int32) σ8) fun v18 σ14 => (bd (F_X8_at 5 x2 (3 : Int32) σ14) fun v24 σ20 => (bd (F_X8_at 5 x2 (6 : Int32) σ20) fun v30 σ26 => (if v6 = v12 then (F_X10_doBatches_86 x1 x2 v6 v12 (v18 + v24) (0 : Int32) v30 σ26) else (F_X10_doBatches_86 x1 x2 v6 v12 v18 v24 v30 σ26)))))))
set_option maxRecDepth 100000 in
theorem t_X10_doBatches_123 {X : Sx} {l : Launch} {D : Nat} {x1 : Nat} {x2 : Int32} {x3 : Int32} {x4 : Int32} {x5 : Int32} {x6 : Int32} {x7 : Int32} {σ : AH} {σ' : AH} (hD : 1 ≤ D) (hs : Sh σ) (hmx1 : x1 ∈ stockIds) (h : F_X10_doBatches_123 x1 x2 x3 x4 x5 x6 x7 σ = some σ') : W_X10_doBatches_123 X l D x1 x2 x3 x4 x5 x6 x7 σ none σ' := by
  unfold F_X10_doBatches_123 at h
  unfold W_X10_doBatches_123
  obtain ⟨g1, h⟩ := of_gd h
  refine ⟨(inB_mp g1), ?_⟩
  obtain ⟨g2, h⟩ := of_gd h
  refine ⟨(inB_mp g2), ?_⟩
  obtain ⟨g3, h⟩ := of_gd h
  refine ⟨(inB_mp g3), ?_⟩
  obtain ⟨g4, h⟩ := of_gd h
  refine ⟨(inB_mp g4), ?_⟩
  intro τ41 e5
  replace h := of_lt h e5
  have hs6 : Sh τ41 := by rw [e5]; exact hs
  obtain ⟨v49, σ45, q7, h⟩ := of_bd h
  have hC8 := f_X8_at  q7 (X := X) (l := l)
  have hs9 := hC8.1.2.2.2.1 hs6
  refine ⟨0, v49, σ45, (Nat.le_trans (by decide) hD), hC8, ?_⟩
  obtain ⟨g10, h⟩ := of_gd h
  refine ⟨(inB_mp g10), ?_⟩
  obtain ⟨v56, σ52, q11, h⟩ := of_bd h
  have hC12 := f_X8_at  q11 (X := X) (l := l)
  have hs13 := hC12.1.2.2.2.1 hs9
  refine ⟨0, v56, σ52, (Nat.le_trans (by decide) hD), hC12, ?_⟩
  obtain ⟨g14, h⟩ := of_gd h
  refine ⟨(inB_mp g14), ?_⟩
  exact ret_v h
set_option maxRecDepth 100000 in
theorem t_X10_doBatches_104 {X : Sx} {l : Launch} {D : Nat} {x1 : Nat} {x2 : Int32} {x3 : Int32} {x4 : Int32} {x5 : Int32} {x6 : Int32} {x7 : Int32} {σ : AH} {σ' : AH} (hD : 1 ≤ D) (hs : Sh σ) (hmx1 : x1 ∈ stockIds) (h : F_X10_doBatches_104 x1 x2 x3 x4 x5 x6 x7 σ = some σ') : W_X10_doBatches_104 X l D x1 x2 x3 x4 x5 x6 x7 σ none σ' := by
  unfold F_X10_doBatches_104 at h
  unfold W_X10_doBatches_104
  refine ite_i (fun c1 => ?_) (fun c1 => ?_)
  · replace h := of_ifp h c1
    exact t_X10_doBatches_123 hD  hs (by first | assumption | exact st_stock (by assumption) | exact rn_site (by assumption) | decide) h
  · replace h := of_ifn h c1
    obtain ⟨g2, h⟩ := of_gd h
    refine ⟨(inB_mp g2), ?_⟩
    obtain ⟨g3, h⟩ := of_gd h
    refine ⟨g3, ?_⟩
    refine ⟨Nat.le_trans (by decide) hD, ?_⟩
    exact t_X10_doBatches_123 hD  hs (by first | assumption | exact st_stock (by assumption) | exact rn_site (by assumption) | decide) h
set_option maxRecDepth 100000 in
theorem t_X10_doBatches_86 {X : Sx} {l : Launch} {D : Nat} {x1 : Nat} {x2 : Int32} {x3 : Int32} {x4 : Int32} {x5 : Int32} {x6 : Int32} {x7 : Int32} {σ : AH} {σ' : AH} (hD : 1 ≤ D) (hs : Sh σ) (hmx1 : x1 ∈ stockIds) (h : F_X10_doBatches_86 x1 x2 x3 x4 x5 x6 x7 σ = some σ') : W_X10_doBatches_86 X l D x1 x2 x3 x4 x5 x6 x7 σ none σ' := by
  unfold F_X10_doBatches_86 at h
  unfold W_X10_doBatches_86
  refine ite_i (fun c1 => ?_) (fun c1 => ?_)
  · replace h := of_ifp h c1
    exact t_X10_doBatches_104 hD  hs (by first | assumption | exact st_stock (by assumption) | exact rn_site (by assumption) | decide) h
  · replace h := of_ifn h c1
    obtain ⟨g2, h⟩ := of_gd h
    refine ⟨(inB_mp g2), ?_⟩
    obtain ⟨g3, h⟩ := of_gd h
    refine ⟨g3, ?_⟩
    refine ⟨Nat.le_trans (by decide) hD, ?_⟩
    exact t_X10_doBatches_104 hD  hs (by first | assumption | exact st_stock (by assumption) | exact rn_site (by assumption) | decide) h
set_option maxRecDepth 100000 in
theorem t_X10_doBatches_0 {X : Sx} {l : Launch} {D : Nat} {x1 : Nat} {x2 : Int32} {σ : AH} {σ' : AH} (hD : 1 ≤ D) (hs : Sh σ) (hmx1 : x1 ∈ stockIds) (h : F_X10_doBatches x1 x2 σ = some σ') : W_X10_doBatches_0 X l D x1 x2 σ none σ' := by
  unfold F_X10_doBatches at h
  unfold W_X10_doBatches_0
  obtain ⟨v6, σ2, q1, h⟩ := of_bd h
  have hC2 := f_X8_at  q1 (X := X) (l := l)
  have hs3 := hC2.1.2.2.2.1 hs
  refine ⟨0, v6, σ2, (Nat.le_trans (by decide) hD), hC2, ?_⟩
  obtain ⟨v12, σ8, q4, h⟩ := of_bd h
  have hC5 := f_X8_at  q4 (X := X) (l := l)
  have hs6 := hC5.1.2.2.2.1 hs3
  refine ⟨0, v12, σ8, (Nat.le_trans (by decide) hD), hC5, ?_⟩
  obtain ⟨v18, σ14, q7, h⟩ := of_bd h
  have hC8 := f_X8_at  q7 (X := X) (l := l)
  have hs9 := hC8.1.2.2.2.1 hs6
  refine ⟨0, v18, σ14, (Nat.le_trans (by decide) hD), hC8, ?_⟩
  obtain ⟨v24, σ20, q10, h⟩ := of_bd h
  have hC11 := f_X8_at  q10 (X := X) (l := l)
  have hs12 := hC11.1.2.2.2.1 hs9
  refine ⟨0, v24, σ20, (Nat.le_trans (by decide) hD), hC11, ?_⟩
  obtain ⟨v30, σ26, q13, h⟩ := of_bd h
  have hC14 := f_X8_at  q13 (X := X) (l := l)
  have hs15 := hC14.1.2.2.2.1 hs12
  refine ⟨0, v30, σ26, (Nat.le_trans (by decide) hD), hC14, ?_⟩
  refine ite_i (fun c16 => ?_) (fun c16 => ?_)
  · replace h := of_ifp h c16
    exact t_X10_doBatches_86 hD  hs15 (by first | assumption | exact st_stock (by assumption) | exact rn_site (by assumption) | decide) h
  · replace h := of_ifn h c16
    exact t_X10_doBatches_86 hD  hs15 (by first | assumption | exact st_stock (by assumption) | exact rn_site (by assumption) | decide) h
theorem f_X10_doBatches {X : Sx} {l : Launch} {x1 : Nat} {x2 : Int32} {σ : AH} {σ' : AH} (hs : Sh σ) (hmx1 : x1 ∈ stockIds) (h : F_X10_doBatches x1 x2 σ = some σ') : Call X l m_X10_doBatches 1 [.ref 34, .ref x1, .int x2] σ none σ' :=
  Call.ofE ok_X10_doBatches rfl (Nat.le_of_ble_eq_true rfl) (w_X10_doBatches_0 hs hmx1 (t_X10_doBatches_0 (Nat.le_refl _) hs hmx1 h))
def F_X7_isDone (x0 : Nat) (x1 : Int32) (σ : AH) : Option (Int32 × AH) := (if inB x1 30 = true then (if (gI σ (x0 + 5) x1.toNatClampNeg) < (3 : Int32) then (some ((0 : Int32), σ)) else (some ((1 : Int32), σ))) else none)
set_option maxRecDepth 100000 in
theorem t_X7_isDone_0 {X : Sx} {l : Launch} {D : Nat} {x0 : Nat} {x1 : Int32} {σ : AH} {v : Int32} {σ' : AH} (hD : 0 ≤ D) (hs : Sh σ) (hmx0 : x0 ∈ siteIds) (h : F_X7_isDone x0 x1 σ = some (v, σ')) : W_X7_isDone_0 X l D x0 x1 σ (some (.int v)) σ' := by
  unfold F_X7_isDone at h
  unfold W_X7_isDone_0
  obtain ⟨g1, h⟩ := of_gd h
  refine ⟨(inB_mp g1), ?_⟩
  refine ite_i (fun c2 => ?_) (fun c2 => ?_)
  · replace h := of_ifp h c2
    exact ret_i h
  · replace h := of_ifn h c2
    exact ret_i h
theorem f_X7_isDone {X : Sx} {l : Launch} {x0 : Nat} {x1 : Int32} {σ : AH} {v : Int32} {σ' : AH} (hs : Sh σ) (hmx0 : x0 ∈ siteIds) (h : F_X7_isDone x0 x1 σ = some (v, σ')) : Call X l m_X7_isDone 0 [.ref x0, .int x1] σ (some (.int v)) σ' :=
  Call.ofE ok_X7_isDone rfl (Nat.le_of_ble_eq_true rfl) (w_X7_isDone_0 hs hmx0 (t_X7_isDone_0 (Nat.le_refl _) hs hmx0 h))
def F_X7_finishStage (x0 : Nat) (x1 : Int32) (x2 : Int32) (σ : AH) : Option AH := (if inB x1 30 = true then (if inB ((x1 * (3 : Int32)) + (gI σ (x0 + 5) x1.toNatClampNeg)) 90 = true then (if inB x1 30 = true then (if inB x1 30 = true then (lt (sI (sI σ (x0 + 9) (((x1 * (3 : Int32)) + (gI σ (x0 + 5) x1.toNatClampNeg)).toNatClampNeg) x2) (x0 + 5) x1.toNatClampNeg ((gI (sI σ (x0 + 9) (((x1 * (3 : Int32)) + (gI σ (x0 + 5) x1.toNatClampNeg)).toNatClampNeg) x2) (x0 + 5) x1.toNatClampNeg) + (1 : Int32))) fun τ5 => (if inB x1 30 = true then (some (sI τ5 (x0 + 6) x1.toNatClampNeg (-1 : Int32))) else none)) else none) else none) else none) else none)
set_option maxRecDepth 100000 in
theorem t_X7_finishStage_0 {X : Sx} {l : Launch} {D : Nat} {x0 : Nat} {x1 : Int32} {x2 : Int32} {σ : AH} {σ' : AH} (hD : 0 ≤ D) (hs : Sh σ) (hmx0 : x0 ∈ siteIds) (h : F_X7_finishStage x0 x1 x2 σ = some σ') : W_X7_finishStage_0 X l D x0 x1 x2 σ none σ' := by
  unfold F_X7_finishStage at h
  unfold W_X7_finishStage_0
  obtain ⟨g1, h⟩ := of_gd h
  refine ⟨(inB_mp g1), ?_⟩
  obtain ⟨g2, h⟩ := of_gd h
  refine ⟨(inB_mp g2), ?_⟩
  obtain ⟨g3, h⟩ := of_gd h
  refine ⟨(inB_mp g3), ?_⟩
  obtain ⟨g4, h⟩ := of_gd h
  refine ⟨(inB_mp g4), ?_⟩
  intro τ5 e5
  replace h := of_lt h e5
  have hs6 : Sh τ5 := by rw [e5]; exact hs
  obtain ⟨g7, h⟩ := of_gd h
  refine ⟨(inB_mp g7), ?_⟩
  exact ret_v h
theorem f_X7_finishStage {X : Sx} {l : Launch} {x0 : Nat} {x1 : Int32} {x2 : Int32} {σ : AH} {σ' : AH} (hs : Sh σ) (hmx0 : x0 ∈ siteIds) (h : F_X7_finishStage x0 x1 x2 σ = some σ') : Call X l m_X7_finishStage 0 [.ref x0, .int x1, .int x2] σ none σ' :=
  Call.ofE ok_X7_finishStage rfl (Nat.le_of_ble_eq_true rfl) (w_X7_finishStage_0 hs hmx0 (t_X7_finishStage_0 (Nat.le_refl _) hs hmx0 h))
def F_X11_needHead (x0 : Int32) (x1 : Int32) (x2 : Int32) (σ : AH) : Option (Int32 × AH) := (if x2 = (5 : Int32) then (some (((45 : Int32) + ((x0 * (3 : Int32)) + x1)), σ)) else (some ((((0 : Int32) + (((x0 * (3 : Int32)) + x1) * (5 : Int32))) + x2), σ)))
set_option maxRecDepth 100000 in
theorem t_X11_needHead_0 {X : Sx} {l : Launch} {D : Nat} {x0 : Int32} {x1 : Int32} {x2 : Int32} {σ : AH} {v : Int32} {σ' : AH} (hD : 0 ≤ D) (hs : Sh σ) (h : F_X11_needHead x0 x1 x2 σ = some (v, σ')) : W_X11_needHead_0 X l D x0 x1 x2 σ (some (.int v)) σ' := by
  unfold F_X11_needHead at h
  unfold W_X11_needHead_0
  refine ite_i (fun c1 => ?_) (fun c1 => ?_)
  · replace h := of_ifp h c1
    exact ret_i h
  · replace h := of_ifn h c1
    exact ret_i h
theorem f_X11_needHead {X : Sx} {l : Launch} {x0 : Int32} {x1 : Int32} {x2 : Int32} {σ : AH} {v : Int32} {σ' : AH} (hs : Sh σ) (h : F_X11_needHead x0 x1 x2 σ = some (v, σ')) : Call X l m_X11_needHead 0 [.int x0, .int x1, .int x2] σ (some (.int v)) σ' :=
  Call.ofE ok_X11_needHead rfl (Nat.le_of_ble_eq_true rfl) (w_X11_needHead_0 hs  (t_X11_needHead_0 (Nat.le_refl _) hs  h))
def F_X10_needsAt_118 (x6 : Int32) (σ : AH) : Option (Int32 × AH) := (some ((x6 * (6 : Int32)), σ))
def B_X10_needsAt_74 (k_X10_needsAt_74 : Int32 → Int32 → Int32 → Int32 → AH → Option (Int32 × AH)) (x1 : Int32) (x2 : Int32) (x6 : Int32) (x7 : Int32) (σ : AH) : Option (Int32 × AH) := (if (6 : Int32) ≤ x7 then (F_X10_needsAt_118 x6 σ) else (bd (F_X11_needHead x1 x2 x7 σ) fun v21 σ17 => (bd (F_X3_counted v21 σ17) fun v27 σ23 => (if inB ((x6 * (6 : Int32)) + x7) 4212 = true then (k_X10_needsAt_74 x1 x2 x6 (x7 + 1) (sI σ23 42 (((x6 * (6 : Int32)) + x7).toNatClampNeg) (imax (0 : Int32) v27))) else none))))
def F_X10_needsAt_74 : Nat → Int32 → Int32 → Int32 → Int32 → AH → Option (Int32 × AH) := fun k => match k with | 0 => fun _ _ _ _ _ => none | k + 1 => B_X10_needsAt_74 (F_X10_needsAt_74 k)
def F_X10_needsAt (x1 : Int32) (x2 : Int32) (x3 : Int32) (x4 : Int32) (σ : AH) : Option (Int32 × AH) := (if inB (((x4 - x4 / (13 : Int32) * (13 : Int32)) * (54 : Int32)) + (((((x1 * (3 : Int32)) + x2) * (6 : Int32)) + x3) - (1 : Int32))) 702 = true then (if (gI σ 43 (((x4 - x4 / (13 : Int32) * (13 : Int32)) * (54 : Int32)) + (((((x1 * (3 : Int32)) + x2) * (6 : Int32)) + x3) - (1 : Int32))).toNatClampNeg) = x4 then (F_X10_needsAt_118 (((x4 - x4 / (13 : Int32) * (13 : Int32)) * (54 : Int32)) + (((((x1 * (3 : Int32)) + x2) * (6 : Int32)) + x3) - (1 : Int32))) σ) else (if inB (((x4 - x4 / (13 : Int32) * (13 : Int32)) * (54 : Int32)) + (((((x1 * (3 : Int32)) + x2) * (6 : Int32)) + x3) - (1 : Int32))) 702 = true then (lt (sI σ 43 ((((x4 - x4 / (13 : Int32) * (13 : Int32)) * (54 : Int32)) + (((((x1 * (3 : Int32)) + x2) * (6 : Int32)) + x3) - (1 : Int32))).toNatClampNeg) x4) fun τ3 => (bv (F_X3_settle x4 (gI τ3 34 2) τ3) fun σ7 => (bv (F_X3_ask x3 x4 σ7) fun σ12 => (F_X10_needsAt_74 BIG x1 x2 (((x4 - x4 / (13 : Int32) * (13 : Int32)) * (54 : Int32)) + (((((x1 * (3 : Int32)) + x2) * (6 : Int32)) + x3) - (1 : Int32))) (0 : Int32) σ12)))) else none)) else none)
set_option maxRecDepth 100000 in
theorem t_X10_needsAt_118 {X : Sx} {l : Launch} {D : Nat} {x6 : Int32} {σ : AH} {v : Int32} {σ' : AH} (hD : 3 ≤ D) (hs : Sh σ) (h : F_X10_needsAt_118 x6 σ = some (v, σ')) : W_X10_needsAt_118 X l D x6 σ (some (.int v)) σ' := by
  unfold F_X10_needsAt_118 at h
  unfold W_X10_needsAt_118
  exact ret_i h
set_option maxRecDepth 100000 in
theorem t_X10_needsAt_74 {X : Sx} {l : Launch} {D : Nat} {k_X10_needsAt_74 : Int32 → Int32 → Int32 → Int32 → AH → Option (Int32 × AH)} {x1 : Int32} {x2 : Int32} {x6 : Int32} {x7 : Int32} {σ : AH} {v : Int32} {σ' : AH} (hD : 3 ≤ D) (hk_X10_needsAt_74 : ∀ (x1 : Int32) (x2 : Int32) (x6 : Int32) (x7 : Int32) (σ : AH) (v : Int32) (σ' : AH), Sh σ → k_X10_needsAt_74 x1 x2 x6 x7 σ = some (v, σ') → E X l m_X10_needsAt D 74 [(0, .ref 34), (1, .int x1), (2, .int x2), (6, .int x6), (7, .int x7)] [] σ (some (.int v)) σ') (hs : Sh σ) (h : B_X10_needsAt_74 k_X10_needsAt_74 x1 x2 x6 x7 σ = some (v, σ')) : W_X10_needsAt_74 X l D x1 x2 x6 x7 σ (some (.int v)) σ' := by
  unfold B_X10_needsAt_74 at h
  unfold W_X10_needsAt_74
  refine ite_i (fun c1 => ?_) (fun c1 => ?_)
  · replace h := of_ifp h c1
    exact t_X10_needsAt_118 hD  hs  h
  · replace h := of_ifn h c1
    obtain ⟨v21, σ17, q2, h⟩ := of_bd h
    have hC3 := f_X11_needHead (σ := σ) hs  q2 (X := X) (l := l)
    have hs4 := hC3.1.2.2.2.1 hs
    refine ⟨0, v21, σ17, (Nat.le_trans (by decide) hD), hC3, ?_⟩
    obtain ⟨v27, σ23, q5, h⟩ := of_bd h
    have hC6 := f_X3_counted (σ := σ17) hs4  q5 (X := X) (l := l)
    have hs7 := hC6.1.2.2.2.1 hs4
    refine ⟨2, v27, σ23, (Nat.le_trans (by decide) hD), hC6, ?_⟩
    refine ⟨Nat.le_trans (by decide) hD, ?_⟩
    obtain ⟨g8, h⟩ := of_gd h
    refine ⟨(inB_mp g8), ?_⟩
    exact hk_X10_needsAt_74 _ _ _ _ _ _ _ hs7  h
theorem e_X10_needsAt_74 {X : Sx} {l : Launch} {D : Nat} (hD : 3 ≤ D) : ∀ (k : Nat) (x1 : Int32) (x2 : Int32) (x6 : Int32) (x7 : Int32) (σ : AH) (v : Int32) (σ' : AH), Sh σ → F_X10_needsAt_74 k x1 x2 x6 x7 σ = some (v, σ') → E X l m_X10_needsAt D 74 [(0, .ref 34), (1, .int x1), (2, .int x2), (6, .int x6), (7, .int x7)] [] σ (some (.int v)) σ' := by
  intro k
  induction k with
  | zero => intro x1 x2 x6 x7 σ v σ' hs h; cases h
  | succ k ih =>
    intro x1 x2 x6 x7 σ v σ' hs h
    exact w_X10_needsAt_74 hs  (t_X10_needsAt_74 hD ih hs  h)
set_option maxRecDepth 100000 in
theorem t_X10_needsAt_0 {X : Sx} {l : Launch} {D : Nat} {x1 : Int32} {x2 : Int32} {x3 : Int32} {x4 : Int32} {σ : AH} {v : Int32} {σ' : AH} (hD : 3 ≤ D) (hs : Sh σ) (h : F_X10_needsAt x1 x2 x3 x4 σ = some (v, σ')) : W_X10_needsAt_0 X l D x1 x2 x3 x4 σ (some (.int v)) σ' := by
  unfold F_X10_needsAt at h
  unfold W_X10_needsAt_0
  obtain ⟨g1, h⟩ := of_gd h
  refine ⟨(inB_mp g1), ?_⟩
  refine ite_i (fun c2 => ?_) (fun c2 => ?_)
  · replace h := of_ifp h c2
    exact t_X10_needsAt_118 hD  hs  h
  · replace h := of_ifn h c2
    obtain ⟨g3, h⟩ := of_gd h
    refine ⟨(inB_mp g3), ?_⟩
    intro τ3 e4
    replace h := of_lt h e4
    have hs5 : Sh τ3 := by rw [e4]; exact hs
    obtain ⟨σ7, q6, h⟩ := of_bv h
    have hC7 := f_X3_settle (σ := τ3) hs5  q6 (X := X) (l := l)
    have hs8 := hC7.1.2.2.2.1 hs5
    refine ⟨2, σ7, (Nat.le_trans (by decide) hD), hC7, ?_⟩
    obtain ⟨σ12, q9, h⟩ := of_bv h
    have hC10 := f_X3_ask (σ := σ7) hs8  q9 (X := X) (l := l)
    have hs11 := hC10.1.2.2.2.1 hs8
    refine ⟨1, σ12, (Nat.le_trans (by decide) hD), hC10, ?_⟩
    exact e_X10_needsAt_74 hD  _ _ _ _ _ _ _ _ hs11  h
theorem f_X10_needsAt {X : Sx} {l : Launch} {x1 : Int32} {x2 : Int32} {x3 : Int32} {x4 : Int32} {σ : AH} {v : Int32} {σ' : AH} (hs : Sh σ) (h : F_X10_needsAt x1 x2 x3 x4 σ = some (v, σ')) : Call X l m_X10_needsAt 3 [.ref 34, .int x1, .int x2, .int x3, .int x4] σ (some (.int v)) σ' :=
  Call.ofE ok_X10_needsAt rfl (Nat.le_of_ble_eq_true rfl) (w_X10_needsAt_0 hs  (t_X10_needsAt_0 (Nat.le_refl _) hs  h))
def B_X10_takeNeeds_71 (k_X10_takeNeeds_71 : Nat → Int32 → Int32 → Int32 → Int32 → Int32 → AH → Option (Int32 × AH)) (x1 : Nat) (x2 : Int32) (x3 : Int32) (x4 : Int32) (x5 : Int32) (x6 : Int32) (σ : AH) : Option (Int32 × AH) := (if (5 : Int32) ≤ x6 then (if inB x5 90 = true then (if inB (x4 + (5 : Int32)) 4212 = true then (if inB x2 30 = true then (some ((1 : Int32), (sI (sI σ (x1 + 8) x5.toNatClampNeg x3) (x1 + 6) x2.toNatClampNeg (gI (sI σ (x1 + 8) x5.toNatClampNeg x3) 42 (x4 + (5 : Int32)).toNatClampNeg)))) else none) else none) else none) else (if inB x6 5 = true then (if inB (x4 + x6) 4212 = true then (if inB x6 5 = true then (k_X10_takeNeeds_71 x1 x2 x3 x4 x5 (x6 + 1) (sI σ (x1 + 1) x6.toNatClampNeg ((gI σ (x1 + 1) x6.toNatClampNeg) - (gI σ 42 (x4 + x6).toNatClampNeg)))) else none) else none) else none))
def F_X10_takeNeeds_71 : Nat → Nat → Int32 → Int32 → Int32 → Int32 → Int32 → AH → Option (Int32 × AH) := fun k => match k with | 0 => fun _ _ _ _ _ _ _ => none | k + 1 => B_X10_takeNeeds_71 (F_X10_takeNeeds_71 k)
def B_X10_takeNeeds_34 (k_X10_takeNeeds_34 : Nat → Int32 → Int32 → Int32 → Int32 → Int32 → AH → Option (Int32 × AH)) (x1 : Nat) (x2 : Int32) (x3 : Int32) (x4 : Int32) (x5 : Int32) (x6 : Int32) (σ : AH) : Option (Int32 × AH) := (if (5 : Int32) ≤ x6 then (F_X10_takeNeeds_71 BIG x1 x2 x3 x4 x5 (0 : Int32) σ) else (if inB x6 5 = true then (if inB (x4 + x6) 4212 = true then (if (gI σ 42 (x4 + x6).toNatClampNeg) ≤ (gI σ (x1 + 1) x6.toNatClampNeg) then (k_X10_takeNeeds_34 x1 x2 x3 x4 x5 (x6 + 1) σ) else (some ((0 : Int32), σ))) else none) else none))
def F_X10_takeNeeds_34 : Nat → Nat → Int32 → Int32 → Int32 → Int32 → Int32 → AH → Option (Int32 × AH) := fun k => match k with | 0 => fun _ _ _ _ _ _ _ => none | k + 1 => B_X10_takeNeeds_34 (F_X10_takeNeeds_34 k)
def F_X10_takeNeeds_31 (x1 : Nat) (x2 : Int32) (x3 : Int32) (x4 : Int32) (x5 : Int32) (σ : AH) : Option (Int32 × AH) := (F_X10_takeNeeds_34 BIG x1 x2 x3 x4 x5 (0 : Int32) σ)
def F_X10_takeNeeds (x1 : Nat) (x2 : Int32) (x3 : Int32) (x4 : Int32) (σ : AH) : Option (Int32 × AH) := (if inB x2 30 = true then (if inB ((x2 * (3 : Int32)) + (gI σ (x1 + 5) x2.toNatClampNeg)) 90 = true then (if (gI σ (x1 + 7) ((x2 * (3 : Int32)) + (gI σ (x1 + 5) x2.toNatClampNeg)).toNatClampNeg) = (-1 : Int32) then (if inB ((x2 * (3 : Int32)) + (gI σ (x1 + 5) x2.toNatClampNeg)) 90 = true then (F_X10_takeNeeds_31 x1 x2 x3 x4 ((x2 * (3 : Int32)) + (gI σ (x1 + 5) x2.toNatClampNeg)) (sI σ (x1 + 7) (((x2 * (3 : Int32)) + (gI σ (x1 + 5) x2.toNatClampNeg)).toNatClampNeg) x3)) else none) else (F_X10_takeNeeds_31 x1 x2 x3 x4 ((x2 * (3 : Int32)) + (gI σ (x1 + 5) x2.toNatClampNeg)) σ)) else none) else none)
set_option maxRecDepth 100000 in
theorem t_X10_takeNeeds_71 {X : Sx} {l : Launch} {D : Nat} {k_X10_takeNeeds_71 : Nat → Int32 → Int32 → Int32 → Int32 → Int32 → AH → Option (Int32 × AH)} {x1 : Nat} {x2 : Int32} {x3 : Int32} {x4 : Int32} {x5 : Int32} {x6 : Int32} {σ : AH} {v : Int32} {σ' : AH} (hD : 0 ≤ D) (hk_X10_takeNeeds_71 : ∀ (x1 : Nat) (x2 : Int32) (x3 : Int32) (x4 : Int32) (x5 : Int32) (x6 : Int32) (σ : AH) (v : Int32) (σ' : AH), Sh σ → x1 ∈ siteIds → k_X10_takeNeeds_71 x1 x2 x3 x4 x5 x6 σ = some (v, σ') → E X l m_X10_takeNeeds D 71 [(0, .ref 34), (1, .ref x1), (2, .int x2), (3, .int x3), (4, .int x4), (5, .int x5), (6, .int x6)] [] σ (some (.int v)) σ') (hs : Sh σ) (hmx1 : x1 ∈ siteIds) (h : B_X10_takeNeeds_71 k_X10_takeNeeds_71 x1 x2 x3 x4 x5 x6 σ = some (v, σ')) : W_X10_takeNeeds_71 X l D x1 x2 x3 x4 x5 x6 σ (some (.int v)) σ' := by
  unfold B_X10_takeNeeds_71 at h
  unfold W_X10_takeNeeds_71
  refine ite_i (fun c1 => ?_) (fun c1 => ?_)
  · replace h := of_ifp h c1
    obtain ⟨g2, h⟩ := of_gd h
    refine ⟨(inB_mp g2), ?_⟩
    obtain ⟨g3, h⟩ := of_gd h
    refine ⟨(inB_mp g3), ?_⟩
    obtain ⟨g4, h⟩ := of_gd h
    refine ⟨(inB_mp g4), ?_⟩
    exact ret_i h
  · replace h := of_ifn h c1
    obtain ⟨g5, h⟩ := of_gd h
    refine ⟨(inB_mp g5), ?_⟩
    obtain ⟨g6, h⟩ := of_gd h
    refine ⟨(inB_mp g6), ?_⟩
    obtain ⟨g7, h⟩ := of_gd h
    refine ⟨(inB_mp g7), ?_⟩
    exact hk_X10_takeNeeds_71 _ _ _ _ _ _ _ _ _ hs (by first | assumption | exact st_stock (by assumption) | exact rn_site (by assumption) | decide) h
theorem e_X10_takeNeeds_71 {X : Sx} {l : Launch} {D : Nat} (hD : 0 ≤ D) : ∀ (k : Nat) (x1 : Nat) (x2 : Int32) (x3 : Int32) (x4 : Int32) (x5 : Int32) (x6 : Int32) (σ : AH) (v : Int32) (σ' : AH), Sh σ → x1 ∈ siteIds → F_X10_takeNeeds_71 k x1 x2 x3 x4 x5 x6 σ = some (v, σ') → E X l m_X10_takeNeeds D 71 [(0, .ref 34), (1, .ref x1), (2, .int x2), (3, .int x3), (4, .int x4), (5, .int x5), (6, .int x6)] [] σ (some (.int v)) σ' := by
  intro k
  induction k with
  | zero => intro x1 x2 x3 x4 x5 x6 σ v σ' hs hmx1 h; cases h
  | succ k ih =>
    intro x1 x2 x3 x4 x5 x6 σ v σ' hs hmx1 h
    exact w_X10_takeNeeds_71 hs hmx1 (t_X10_takeNeeds_71 hD ih hs hmx1 h)
set_option maxRecDepth 100000 in
theorem t_X10_takeNeeds_34 {X : Sx} {l : Launch} {D : Nat} {k_X10_takeNeeds_34 : Nat → Int32 → Int32 → Int32 → Int32 → Int32 → AH → Option (Int32 × AH)} {x1 : Nat} {x2 : Int32} {x3 : Int32} {x4 : Int32} {x5 : Int32} {x6 : Int32} {σ : AH} {v : Int32} {σ' : AH} (hD : 0 ≤ D) (hk_X10_takeNeeds_34 : ∀ (x1 : Nat) (x2 : Int32) (x3 : Int32) (x4 : Int32) (x5 : Int32) (x6 : Int32) (σ : AH) (v : Int32) (σ' : AH), Sh σ → x1 ∈ siteIds → k_X10_takeNeeds_34 x1 x2 x3 x4 x5 x6 σ = some (v, σ') → E X l m_X10_takeNeeds D 34 [(0, .ref 34), (1, .ref x1), (2, .int x2), (3, .int x3), (4, .int x4), (5, .int x5), (6, .int x6)] [] σ (some (.int v)) σ') (hs : Sh σ) (hmx1 : x1 ∈ siteIds) (h : B_X10_takeNeeds_34 k_X10_takeNeeds_34 x1 x2 x3 x4 x5 x6 σ = some (v, σ')) : W_X10_takeNeeds_34 X l D x1 x2 x3 x4 x5 x6 σ (some (.int v)) σ' := by
  unfold B_X10_takeNeeds_34 at h
  unfold W_X10_takeNeeds_34
  refine ite_i (fun c1 => ?_) (fun c1 => ?_)
  · replace h := of_ifp h c1
    exact e_X10_takeNeeds_71 hD  _ _ _ _ _ _ _ _ _ _ hs (by first | assumption | exact st_stock (by assumption) | exact rn_site (by assumption) | decide) h
  · replace h := of_ifn h c1
    obtain ⟨g2, h⟩ := of_gd h
    refine ⟨(inB_mp g2), ?_⟩
    obtain ⟨g3, h⟩ := of_gd h
    refine ⟨(inB_mp g3), ?_⟩
    refine ite_i (fun c4 => ?_) (fun c4 => ?_)
    · replace h := of_ifp h c4
      exact hk_X10_takeNeeds_34 _ _ _ _ _ _ _ _ _ hs (by first | assumption | exact st_stock (by assumption) | exact rn_site (by assumption) | decide) h
    · replace h := of_ifn h c4
      exact ret_i h
theorem e_X10_takeNeeds_34 {X : Sx} {l : Launch} {D : Nat} (hD : 0 ≤ D) : ∀ (k : Nat) (x1 : Nat) (x2 : Int32) (x3 : Int32) (x4 : Int32) (x5 : Int32) (x6 : Int32) (σ : AH) (v : Int32) (σ' : AH), Sh σ → x1 ∈ siteIds → F_X10_takeNeeds_34 k x1 x2 x3 x4 x5 x6 σ = some (v, σ') → E X l m_X10_takeNeeds D 34 [(0, .ref 34), (1, .ref x1), (2, .int x2), (3, .int x3), (4, .int x4), (5, .int x5), (6, .int x6)] [] σ (some (.int v)) σ' := by
  intro k
  induction k with
  | zero => intro x1 x2 x3 x4 x5 x6 σ v σ' hs hmx1 h; cases h
  | succ k ih =>
    intro x1 x2 x3 x4 x5 x6 σ v σ' hs hmx1 h
    exact w_X10_takeNeeds_34 hs hmx1 (t_X10_takeNeeds_34 hD ih hs hmx1 h)
set_option maxRecDepth 100000 in
theorem t_X10_takeNeeds_31 {X : Sx} {l : Launch} {D : Nat} {x1 : Nat} {x2 : Int32} {x3 : Int32} {x4 : Int32} {x5 : Int32} {σ : AH} {v : Int32} {σ' : AH} (hD : 0 ≤ D) (hs : Sh σ) (hmx1 : x1 ∈ siteIds) (h : F_X10_takeNeeds_31 x1 x2 x3 x4 x5 σ = some (v, σ')) : W_X10_takeNeeds_31 X l D x1 x2 x3 x4 x5 σ (some (.int v)) σ' := by
  unfold F_X10_takeNeeds_31 at h
  unfold W_X10_takeNeeds_31
  exact e_X10_takeNeeds_34 hD  _ _ _ _ _ _ _ _ _ _ hs (by first | assumption | exact st_stock (by assumption) | exact rn_site (by assumption) | decide) h
set_option maxRecDepth 100000 in
theorem t_X10_takeNeeds_0 {X : Sx} {l : Launch} {D : Nat} {x1 : Nat} {x2 : Int32} {x3 : Int32} {x4 : Int32} {σ : AH} {v : Int32} {σ' : AH} (hD : 0 ≤ D) (hs : Sh σ) (hmx1 : x1 ∈ siteIds) (h : F_X10_takeNeeds x1 x2 x3 x4 σ = some (v, σ')) : W_X10_takeNeeds_0 X l D x1 x2 x3 x4 σ (some (.int v)) σ' := by
  unfold F_X10_takeNeeds at h
  unfold W_X10_takeNeeds_0
  obtain ⟨g1, h⟩ := of_gd h
  refine ⟨(inB_mp g1), ?_⟩
  obtain ⟨g2, h⟩ := of_gd h
  refine ⟨(inB_mp g2), ?_⟩
  refine ite_i (fun c3 => ?_) (fun c3 => ?_)
  · replace h := of_ifp h c3
    obtain ⟨g4, h⟩ := of_gd h
    refine ⟨(inB_mp g4), ?_⟩
    exact t_X10_takeNeeds_31 hD  hs (by first | assumption | exact st_stock (by assumption) | exact rn_site (by assumption) | decide) h
  · replace h := of_ifn h c3
    exact t_X10_takeNeeds_31 hD  hs (by first | assumption | exact st_stock (by assumption) | exact rn_site (by assumption) | decide) h
theorem f_X10_takeNeeds {X : Sx} {l : Launch} {x1 : Nat} {x2 : Int32} {x3 : Int32} {x4 : Int32} {σ : AH} {v : Int32} {σ' : AH} (hs : Sh σ) (hmx1 : x1 ∈ siteIds) (h : F_X10_takeNeeds x1 x2 x3 x4 σ = some (v, σ')) : Call X l m_X10_takeNeeds 0 [.ref 34, .ref x1, .int x2, .int x3, .int x4] σ (some (.int v)) σ' :=
  Call.ofE ok_X10_takeNeeds rfl (Nat.le_of_ble_eq_true rfl) (w_X10_takeNeeds_0 hs hmx1 (t_X10_takeNeeds_0 (Nat.le_refl _) hs hmx1 h))
def F_X10_serve_105 (k_X10_serve_67 : Nat → Int32 → Int32 → Int32 → Int32 → Int32 → Int32 → AH → Option AH) (x1 : Nat) (x2 : Int32) (x3 : Int32) (x4 : Int32) (x5 : Int32) (x6 : Int32) (x7 : Int32) (σ : AH) : Option AH := (if inB x2 30 = true then (if (gI σ (x1 + 6) x2.toNatClampNeg) ≤ 0 then (bv (F_X7_finishStage x1 x2 x3 σ) fun σ41 => (k_X10_serve_67 x1 x2 x3 x4 x5 x6 (x7 + 1) σ41)) else (if inB x4 6 = true then (if (gI σ 37 x4.toNatClampNeg) ≤ 0 then (some σ) else (if inB x4 6 = true then (if inB x4 6 = true then (if inB x2 30 = true then (if inB x2 30 = true then (lt (sI (sI σ 37 x4.toNatClampNeg ((gI σ 37 x4.toNatClampNeg) - (1 : Int32))) (x1 + 6) x2.toNatClampNeg ((gI (sI σ 37 x4.toNatClampNeg ((gI σ 37 x4.toNatClampNeg) - (1 : Int32))) (x1 + 6) x2.toNatClampNeg) - (1 : Int32))) fun τ50 => (if inB x2 30 = true then (if (gI τ50 (x1 + 6) x2.toNatClampNeg) = 0 then (bv (F_X7_finishStage x1 x2 x3 τ50) fun σ55 => (some σ55)) else (some τ50)) else none)) else none) else none) else none) else none)) else none)) else none)
def B_X10_serve_67 (k_X10_serve_67 : Nat → Int32 → Int32 → Int32 → Int32 → Int32 → Int32 → AH → Option AH) (x1 : Nat) (x2 : Int32) (x3 : Int32) (x4 : Int32) (x5 : Int32) (x6 : Int32) (x7 : Int32) (σ : AH) : Option AH := (if (3 : Int32) ≤ x7 then (some σ) else (if inB x2 30 = true then (if (gI σ (x1 + 6) x2.toNatClampNeg) = (-1 : Int32) then (bd (F_X10_needsAt x5 x7 x6 x3 σ) fun v32 σ28 => (bd (F_X10_takeNeeds x1 x2 x3 v32 σ28) fun v38 σ34 => (if v38 = 0 then (some σ34) else (F_X10_serve_105 k_X10_serve_67 x1 x2 x3 x4 x5 x6 x7 σ34)))) else (F_X10_serve_105 k_X10_serve_67 x1 x2 x3 x4 x5 x6 x7 σ)) else none))
def F_X10_serve_67 : Nat → Nat → Int32 → Int32 → Int32 → Int32 → Int32 → Int32 → AH → Option AH := fun k => match k with | 0 => fun _ _ _ _ _ _ _ _ => none | k + 1 => B_X10_serve_67 (F_X10_serve_67 k)
def F_X10_serve (x1 : Nat) (x2 : Int32) (x3 : Int32) (σ : AH) : Option AH := (bd (F_X8_at 9 x2 (3 : Int32) σ) fun v6 σ2 => (if v6 ≤ x3 then (bd (F_X8_at 9 x2 (0 : Int32) σ2) fun v12 σ8 => (bd (F_X8_at 9 x2 (1 : Int32) σ8) fun v18 σ14 => (bd (F_X8_at 9 x2 (2 : Int32) σ14) fun v24 σ20 => (if inB x2 30 = true then (F_X10_serve_67 BIG x1 x2 x3 v12 v18 v24 (gI σ20 (x1 + 5) x2.toNatClampNeg) σ20) else none)))) else (some σ2)))
set_option maxRecDepth 100000 in
theorem t_X10_serve_105 {X : Sx} {l : Launch} {D : Nat} {k_X10_serve_67 : Nat → Int32 → Int32 → Int32 → Int32 → Int32 → Int32 → AH → Option AH} {x1 : Nat} {x2 : Int32} {x3 : Int32} {x4 : Int32} {x5 : Int32} {x6 : Int32} {x7 : Int32} {σ : AH} {σ' : AH} (hD : 4 ≤ D) (hk_X10_serve_67 : ∀ (x1 : Nat) (x2 : Int32) (x3 : Int32) (x4 : Int32) (x5 : Int32) (x6 : Int32) (x7 : Int32) (σ : AH) (σ' : AH), Sh σ → x1 ∈ siteIds → k_X10_serve_67 x1 x2 x3 x4 x5 x6 x7 σ = some σ' → E X l m_X10_serve D 67 [(0, .ref 34), (1, .ref x1), (2, .int x2), (3, .int x3), (4, .int x4), (5, .int x5), (6, .int x6), (7, .int x7)] [] σ none σ') (hs : Sh σ) (hmx1 : x1 ∈ siteIds) (h : F_X10_serve_105 k_X10_serve_67 x1 x2 x3 x4 x5 x6 x7 σ = some σ') : W_X10_serve_105 X l D x1 x2 x3 x4 x5 x6 x7 σ none σ' := by
  unfold F_X10_serve_105 at h
  unfold W_X10_serve_105
  obtain ⟨g1, h⟩ := of_gd h
  refine ⟨(inB_mp g1), ?_⟩
  refine ite_i (fun c2 => ?_) (fun c2 => ?_)
  · replace h := of_ifp h c2
    obtain ⟨σ41, q3, h⟩ := of_bv h
    have hC4 := f_X7_finishStage (σ := σ) hs (by first | assumption | exact st_stock (by assumption) | exact rn_site (by assumption) | decide) q3 (X := X) (l := l)
    have hs5 := hC4.1.2.2.2.1 hs
    refine ⟨0, σ41, (Nat.le_trans (by decide) hD), hC4, ?_⟩
    exact hk_X10_serve_67 _ _ _ _ _ _ _ _ _ hs5 (by first | assumption | exact st_stock (by assumption) | exact rn_site (by assumption) | decide) h
  · replace h := of_ifn h c2
    obtain ⟨g6, h⟩ := of_gd h
    refine ⟨(inB_mp g6), ?_⟩
    refine ite_i (fun c7 => ?_) (fun c7 => ?_)
    · replace h := of_ifp h c7
      exact ret_v h
    · replace h := of_ifn h c7
      obtain ⟨g8, h⟩ := of_gd h
      refine ⟨(inB_mp g8), ?_⟩
      obtain ⟨g9, h⟩ := of_gd h
      refine ⟨(inB_mp g9), ?_⟩
      obtain ⟨g10, h⟩ := of_gd h
      refine ⟨(inB_mp g10), ?_⟩
      obtain ⟨g11, h⟩ := of_gd h
      refine ⟨(inB_mp g11), ?_⟩
      intro τ50 e12
      replace h := of_lt h e12
      have hs13 : Sh τ50 := by rw [e12]; exact hs
      obtain ⟨g14, h⟩ := of_gd h
      refine ⟨(inB_mp g14), ?_⟩
      refine ite_i (fun c15 => ?_) (fun c15 => ?_)
      · replace h := of_ifp h c15
        obtain ⟨σ55, q16, h⟩ := of_bv h
        have hC17 := f_X7_finishStage (σ := τ50) hs13 (by first | assumption | exact st_stock (by assumption) | exact rn_site (by assumption) | decide) q16 (X := X) (l := l)
        have hs18 := hC17.1.2.2.2.1 hs13
        refine ⟨0, σ55, (Nat.le_trans (by decide) hD), hC17, ?_⟩
        exact ret_v h
      · replace h := of_ifn h c15
        exact ret_v h
set_option maxRecDepth 100000 in
theorem t_X10_serve_67 {X : Sx} {l : Launch} {D : Nat} {k_X10_serve_67 : Nat → Int32 → Int32 → Int32 → Int32 → Int32 → Int32 → AH → Option AH} {x1 : Nat} {x2 : Int32} {x3 : Int32} {x4 : Int32} {x5 : Int32} {x6 : Int32} {x7 : Int32} {σ : AH} {σ' : AH} (hD : 4 ≤ D) (hk_X10_serve_67 : ∀ (x1 : Nat) (x2 : Int32) (x3 : Int32) (x4 : Int32) (x5 : Int32) (x6 : Int32) (x7 : Int32) (σ : AH) (σ' : AH), Sh σ → x1 ∈ siteIds → k_X10_serve_67 x1 x2 x3 x4 x5 x6 x7 σ = some σ' → E X l m_X10_serve D 67 [(0, .ref 34), (1, .ref x1), (2, .int x2), (3, .int x3), (4, .int x4), (5, .int x5), (6, .int x6), (7, .int x7)] [] σ none σ') (hs : Sh σ) (hmx1 : x1 ∈ siteIds) (h : B_X10_serve_67 k_X10_serve_67 x1 x2 x3 x4 x5 x6 x7 σ = some σ') : W_X10_serve_67 X l D x1 x2 x3 x4 x5 x6 x7 σ none σ' := by
  unfold B_X10_serve_67 at h
  unfold W_X10_serve_67
  refine ite_i (fun c1 => ?_) (fun c1 => ?_)
  · replace h := of_ifp h c1
    exact ret_v h
  · replace h := of_ifn h c1
    obtain ⟨g2, h⟩ := of_gd h
    refine ⟨(inB_mp g2), ?_⟩
    refine ite_i (fun c3 => ?_) (fun c3 => ?_)
    · replace h := of_ifp h c3
      obtain ⟨v32, σ28, q4, h⟩ := of_bd h
      have hC5 := f_X10_needsAt (σ := σ) hs  q4 (X := X) (l := l)
      have hs6 := hC5.1.2.2.2.1 hs
      refine ⟨3, v32, σ28, (Nat.le_trans (by decide) hD), hC5, ?_⟩
      obtain ⟨v38, σ34, q7, h⟩ := of_bd h
      have hC8 := f_X10_takeNeeds (σ := σ28) hs6 (by first | assumption | exact st_stock (by assumption) | exact rn_site (by assumption) | decide) q7 (X := X) (l := l)
      have hs9 := hC8.1.2.2.2.1 hs6
      refine ⟨0, v38, σ34, (Nat.le_trans (by decide) hD), hC8, ?_⟩
      refine ite_i (fun c10 => ?_) (fun c10 => ?_)
      · replace h := of_ifp h c10
        exact ret_v h
      · replace h := of_ifn h c10
        exact t_X10_serve_105 hD hk_X10_serve_67 hs9 (by first | assumption | exact st_stock (by assumption) | exact rn_site (by assumption) | decide) h
    · replace h := of_ifn h c3
      exact t_X10_serve_105 hD hk_X10_serve_67 hs (by first | assumption | exact st_stock (by assumption) | exact rn_site (by assumption) | decide) h
theorem e_X10_serve_67 {X : Sx} {l : Launch} {D : Nat} (hD : 4 ≤ D) : ∀ (k : Nat) (x1 : Nat) (x2 : Int32) (x3 : Int32) (x4 : Int32) (x5 : Int32) (x6 : Int32) (x7 : Int32) (σ : AH) (σ' : AH), Sh σ → x1 ∈ siteIds → F_X10_serve_67 k x1 x2 x3 x4 x5 x6 x7 σ = some σ' → E X l m_X10_serve D 67 [(0, .ref 34), (1, .ref x1), (2, .int x2), (3, .int x3), (4, .int x4), (5, .int x5), (6, .int x6), (7, .int x7)] [] σ none σ' := by
  intro k
  induction k with
  | zero => intro x1 x2 x3 x4 x5 x6 x7 σ σ' hs hmx1 h; cases h
  | succ k ih =>
    intro x1 x2 x3 x4 x5 x6 x7 σ σ' hs hmx1 h
    exact w_X10_serve_67 hs hmx1 (t_X10_serve_67 hD ih hs hmx1 h)
set_option maxRecDepth 100000 in
theorem t_X10_serve_0 {X : Sx} {l : Launch} {D : Nat} {x1 : Nat} {x2 : Int32} {x3 : Int32} {σ : AH} {σ' : AH} (hD : 4 ≤ D) (hs : Sh σ) (hmx1 : x1 ∈ siteIds) (h : F_X10_serve x1 x2 x3 σ = some σ') : W_X10_serve_0 X l D x1 x2 x3 σ none σ' := by
  unfold F_X10_serve at h
  unfold W_X10_serve_0
  obtain ⟨v6, σ2, q1, h⟩ := of_bd h
  have hC2 := f_X8_at  q1 (X := X) (l := l)
  have hs3 := hC2.1.2.2.2.1 hs
  refine ⟨0, v6, σ2, (Nat.le_trans (by decide) hD), hC2, ?_⟩
  refine ite_i (fun c4 => ?_) (fun c4 => ?_)
  · replace h := of_ifp h c4
    obtain ⟨v12, σ8, q5, h⟩ := of_bd h
    have hC6 := f_X8_at  q5 (X := X) (l := l)
    have hs7 := hC6.1.2.2.2.1 hs3
    refine ⟨0, v12, σ8, (Nat.le_trans (by decide) hD), hC6, ?_⟩
    obtain ⟨v18, σ14, q8, h⟩ := of_bd h
    have hC9 := f_X8_at  q8 (X := X) (l := l)
    have hs10 := hC9.1.2.2.2.1 hs7
    refine ⟨0, v18, σ14, (Nat.le_trans (by decide) hD), hC9, ?_⟩
    obtain ⟨v24, σ20, q11, h⟩ := of_bd h
    have hC12 := f_X8_at  q11 (X := X) (l := l)
    have hs13 := hC12.1.2.2.2.1 hs10
    refine ⟨0, v24, σ20, (Nat.le_trans (by decide) hD), hC12, ?_⟩
    obtain ⟨g14, h⟩ := of_gd h
    refine ⟨(inB_mp g14), ?_⟩
    exact e_X10_serve_67 hD  _ _ _ _ _ _ _ _ _ _ hs13 (by first | assumption | exact st_stock (by assumption) | exact rn_site (by assumption) | decide) h
  · replace h := of_ifn h c4
    exact ret_v h
theorem f_X10_serve {X : Sx} {l : Launch} {x1 : Nat} {x2 : Int32} {x3 : Int32} {σ : AH} {σ' : AH} (hs : Sh σ) (hmx1 : x1 ∈ siteIds) (h : F_X10_serve x1 x2 x3 σ = some σ') : Call X l m_X10_serve 4 [.ref 34, .ref x1, .int x2, .int x3] σ none σ' :=
  Call.ofE ok_X10_serve rfl (Nat.le_of_ble_eq_true rfl) (w_X10_serve_0 hs hmx1 (t_X10_serve_0 (Nat.le_refl _) hs hmx1 h))
def F_X10_passWeek_200 (k_X10_passWeek_121 : Nat → Int32 → Int32 → Int32 → AH → Option AH) (k_X10_passWeek_130 : Nat → Int32 → Int32 → Int32 → Int32 → AH → Option AH) (x1 : Nat) (x2 : Int32) (x3 : Int32) (x4 : Int32) (x5 : Int32) (σ : AH) : Option AH := (k_X10_passWeek_130 x1 x2 x3 x4 (x5 + 1) σ)
def F_X10_passWeek_180 (k_X10_passWeek_121 : Nat → Int32 → Int32 → Int32 → AH → Option AH) (k_X10_passWeek_130 : Nat → Int32 → Int32 → Int32 → Int32 → AH → Option AH) (x1 : Nat) (x2 : Int32) (x3 : Int32) (x4 : Int32) (x5 : Int32) (x6 : Int32) (y0 : Int32) (y1 : Int32) (σ : AH) : Option AH := (if y1 = y0 then (bd (F_X7_isDone x1 x6 σ) fun v53 σ49 => (if v53 = 0 then (bv (F_X10_serve x1 x6 x2 σ49) fun σ55 => (F_X10_passWeek_200 k_X10_passWeek_121 k_X10_passWeek_130 x1 x2 x3 x4 x5 σ55)) else (F_X10_passWeek_200 k_X10_passWeek_121 k_X10_passWeek_130 x1 x2 x3 x4 x5 σ49))) else (F_X10_passWeek_200 k_X10_passWeek_121 k_X10_passWeek_130 x1 x2 x3 x4 x5 σ))
def F_X10_passWeek_170 (k_X10_passWeek_121 : Nat → Int32 → Int32 → Int32 → AH → Option AH) (k_X10_passWeek_130 : Nat → Int32 → Int32 → Int32 → Int32 → AH → Option AH) (x1 : Nat) (x2 : Int32) (x3 : Int32) (x4 : Int32) (x5 : Int32) (x6 : Int32) (y0 : Int32) (σ : AH) : Option AH := (if x4 = 0 then (F_X10_passWeek_180 k_X10_passWeek_121 k_X10_passWeek_130 x1 x2 x3 x4 x5 x6 (1 : Int32) y0 σ) else (F_X10_passWeek_180 k_X10_passWeek_121 k_X10_passWeek_130 x1 x2 x3 x4 x5 x6 (0 : Int32) y0 σ))
def B_X10_passWeek_130 (k_X10_passWeek_121 : Nat → Int32 → Int32 → Int32 → AH → Option AH) (k_X10_passWeek_130 : Nat → Int32 → Int32 → Int32 → Int32 → AH → Option AH) (x1 : Nat) (x2 : Int32) (x3 : Int32) (x4 : Int32) (x5 : Int32) (σ : AH) : Option AH := (if (gI σ x1 2) ≤ x5 then (k_X10_passWeek_121 x1 x2 x3 (x4 + 1) σ) else (if inB x5 30 = true then (bd (F_X8_at 9 (gI σ (x1 + 2) x5.toNatClampNeg) (1 : Int32) σ) fun v47 σ43 => (if v47 = x3 then (F_X10_passWeek_170 k_X10_passWeek_121 k_X10_passWeek_130 x1 x2 x3 x4 x5 (gI σ (x1 + 2) x5.toNatClampNeg) (1 : Int32) σ43) else (F_X10_passWeek_170 k_X10_passWeek_121 k_X10_passWeek_130 x1 x2 x3 x4 x5 (gI σ (x1 + 2) x5.toNatClampNeg) (0 : Int32) σ43))) else none))
def F_X10_passWeek_130 (k_X10_passWeek_121 : Nat → Int32 → Int32 → Int32 → AH → Option AH) : Nat → Nat → Int32 → Int32 → Int32 → Int32 → AH → Option AH := fun k => match k with | 0 => fun _ _ _ _ _ _ => none | k + 1 => B_X10_passWeek_130 k_X10_passWeek_121 (F_X10_passWeek_130 k_X10_passWeek_121 k)
def B_X10_passWeek_121 (k_X10_passWeek_121 : Nat → Int32 → Int32 → Int32 → AH → Option AH) (x1 : Nat) (x2 : Int32) (x3 : Int32) (x4 : Int32) (σ : AH) : Option AH := (if (2 : Int32) ≤ x4 then (some σ) else (F_X10_passWeek_130 k_X10_passWeek_121 BIG x1 x2 x3 x4 (0 : Int32) σ))
def F_X10_passWeek_121 : Nat → Nat → Int32 → Int32 → Int32 → AH → Option AH := fun k => match k with | 0 => fun _ _ _ _ _ => none | k + 1 => B_X10_passWeek_121 (F_X10_passWeek_121 k)
def F_X10_passWeek_74 (k_X10_passWeek_34 : Nat → Int32 → Int32 → AH → Option AH) (x1 : Nat) (x2 : Int32) (x3 : Int32) (σ : AH) : Option AH := (k_X10_passWeek_34 x1 x2 (x3 + 1) σ)
def B_X10_passWeek_34 (k_X10_passWeek_34 : Nat → Int32 → Int32 → AH → Option AH) (x1 : Nat) (x2 : Int32) (x3 : Int32) (σ : AH) : Option AH := (bd (F_X8_rows 5 σ) fun v9 σ5 => (if v9 ≤ x3 then (bv (F_X10_lineUp x1 x2 σ5) fun σ11 => (if (gI σ11 x1 2) = 0 then (some σ11) else (if ¬ (x2 * (6 : Int32)) < 0 then (if (x2 * (6 : Int32)).toNatClampNeg + 6 ≤ 1560 then (if 0 + 6 ≤ 6 then (lt (sA σ11 37 (va_cpy (gI σ11 36) (gI σ11 37) ((x2 * (6 : Int32)).toNatClampNeg) 0 6)) fun τ21 => (bd (F_X10_firstKind x2 τ21) fun v29 σ25 => (F_X10_passWeek_121 BIG x1 x2 v29 (0 : Int32) σ25))) else none) else none) else none))) else (bd (F_X8_at 5 x3 (7 : Int32) σ5) fun v35 σ31 => (if x2 < v35 then (F_X10_passWeek_74 k_X10_passWeek_34 x1 x2 x3 σ31) else (bv (F_X10_doBatches (x1 + 1) x3 σ31) fun σ37 => (F_X10_passWeek_74 k_X10_passWeek_34 x1 x2 x3 σ37))))))
def F_X10_passWeek_34 : Nat → Nat → Int32 → Int32 → AH → Option AH := fun k => match k with | 0 => fun _ _ _ _ => none | k + 1 => B_X10_passWeek_34 (F_X10_passWeek_34 k)
def B_X10_passWeek_2 (k_X10_passWeek_2 : Nat → Int32 → Int32 → AH → Option AH) (x1 : Nat) (x2 : Int32) (x3 : Int32) (σ : AH) : Option AH := (if (5 : Int32) ≤ x3 then (F_X10_passWeek_34 BIG x1 x2 (0 : Int32) σ) else (if inB x3 5 = true then (if inB ((x2 * (5 : Int32)) + x3) 1300 = true then (if inB x3 5 = true then (k_X10_passWeek_2 x1 x2 (x3 + 1) (sI σ (x1 + 1) x3.toNatClampNeg ((gI σ (x1 + 1) x3.toNatClampNeg) + (gI σ 35 ((x2 * (5 : Int32)) + x3).toNatClampNeg)))) else none) else none) else none))
def F_X10_passWeek_2 : Nat → Nat → Int32 → Int32 → AH → Option AH := fun k => match k with | 0 => fun _ _ _ _ => none | k + 1 => B_X10_passWeek_2 (F_X10_passWeek_2 k)
def F_X10_passWeek (x1 : Nat) (x2 : Int32) (σ : AH) : Option AH := (F_X10_passWeek_2 BIG x1 x2 (0 : Int32) σ)
set_option maxRecDepth 100000 in
theorem t_X10_passWeek_200 {X : Sx} {l : Launch} {D : Nat} {k_X10_passWeek_121 : Nat → Int32 → Int32 → Int32 → AH → Option AH} {k_X10_passWeek_130 : Nat → Int32 → Int32 → Int32 → Int32 → AH → Option AH} {x1 : Nat} {x2 : Int32} {x3 : Int32} {x4 : Int32} {x5 : Int32} {σ : AH} {σ' : AH} (hD : 5 ≤ D) (hk_X10_passWeek_121 : ∀ (x1 : Nat) (x2 : Int32) (x3 : Int32) (x4 : Int32) (σ : AH) (σ' : AH), Sh σ → x1 ∈ siteIds → k_X10_passWeek_121 x1 x2 x3 x4 σ = some σ' → E X l m_X10_passWeek D 121 [(0, .ref 34), (1, .ref x1), (2, .int x2), (3, .int x3), (4, .int x4)] [] σ none σ') (hk_X10_passWeek_130 : ∀ (x1 : Nat) (x2 : Int32) (x3 : Int32) (x4 : Int32) (x5 : Int32) (σ : AH) (σ' : AH), Sh σ → x1 ∈ siteIds → k_X10_passWeek_130 x1 x2 x3 x4 x5 σ = some σ' → E X l m_X10_passWeek D 130 [(0, .ref 34), (1, .ref x1), (2, .int x2), (3, .int x3), (4, .int x4), (5, .int x5)] [] σ none σ') (hs : Sh σ) (hmx1 : x1 ∈ siteIds) (h : F_X10_passWeek_200 k_X10_passWeek_121 k_X10_passWeek_130 x1 x2 x3 x4 x5 σ = some σ') : W_X10_passWeek_200 X l D x1 x2 x3 x4 x5 σ none σ' := by
  unfold F_X10_passWeek_200 at h
  unfold W_X10_passWeek_200
  exact hk_X10_passWeek_130 _ _ _ _ _ _ _ hs (by first | assumption | exact st_stock (by assumption) | exact rn_site (by assumption) | decide) h
set_option maxRecDepth 100000 in
theorem t_X10_passWeek_180 {X : Sx} {l : Launch} {D : Nat} {k_X10_passWeek_121 : Nat → Int32 → Int32 → Int32 → AH → Option AH} {k_X10_passWeek_130 : Nat → Int32 → Int32 → Int32 → Int32 → AH → Option AH} {x1 : Nat} {x2 : Int32} {x3 : Int32} {x4 : Int32} {x5 : Int32} {x6 : Int32} {y0 : Int32} {y1 : Int32} {σ : AH} {σ' : AH} (hD : 5 ≤ D) (hk_X10_passWeek_121 : ∀ (x1 : Nat) (x2 : Int32) (x3 : Int32) (x4 : Int32) (σ : AH) (σ' : AH), Sh σ → x1 ∈ siteIds → k_X10_passWeek_121 x1 x2 x3 x4 σ = some σ' → E X l m_X10_passWeek D 121 [(0, .ref 34), (1, .ref x1), (2, .int x2), (3, .int x3), (4, .int x4)] [] σ none σ') (hk_X10_passWeek_130 : ∀ (x1 : Nat) (x2 : Int32) (x3 : Int32) (x4 : Int32) (x5 : Int32) (σ : AH) (σ' : AH), Sh σ → x1 ∈ siteIds → k_X10_passWeek_130 x1 x2 x3 x4 x5 σ = some σ' → E X l m_X10_passWeek D 130 [(0, .ref 34), (1, .ref x1), (2, .int x2), (3, .int x3), (4, .int x4), (5, .int x5)] [] σ none σ') (hs : Sh σ) (hmx1 : x1 ∈ siteIds) (h : F_X10_passWeek_180 k_X10_passWeek_121 k_X10_passWeek_130 x1 x2 x3 x4 x5 x6 y0 y1 σ = some σ') : W_X10_passWeek_180 X l D x1 x2 x3 x4 x5 x6 y0 y1 σ none σ' := by
  unfold F_X10_passWeek_180 at h
  unfold W_X10_passWeek_180
  refine ite_i (fun c1 => ?_) (fun c1 => ?_)
  · replace h := of_ifp h c1
    obtain ⟨v53, σ49, q2, h⟩ := of_bd h
    have hC3 := f_X7_isDone (σ := σ) hs (by first | assumption | exact st_stock (by assumption) | exact rn_site (by assumption) | decide) q2 (X := X) (l := l)
    have hs4 := hC3.1.2.2.2.1 hs
    refine ⟨0, v53, σ49, (Nat.le_trans (by decide) hD), hC3, ?_⟩
    refine ite_i (fun c5 => ?_) (fun c5 => ?_)
    · replace h := of_ifp h c5
      obtain ⟨σ55, q6, h⟩ := of_bv h
      have hC7 := f_X10_serve (σ := σ49) hs4 (by first | assumption | exact st_stock (by assumption) | exact rn_site (by assumption) | decide) q6 (X := X) (l := l)
      have hs8 := hC7.1.2.2.2.1 hs4
      refine ⟨4, σ55, (Nat.le_trans (by decide) hD), hC7, ?_⟩
      exact t_X10_passWeek_200 hD hk_X10_passWeek_121 hk_X10_passWeek_130 hs8 (by first | assumption | exact st_stock (by assumption) | exact rn_site (by assumption) | decide) h
    · replace h := of_ifn h c5
      exact t_X10_passWeek_200 hD hk_X10_passWeek_121 hk_X10_passWeek_130 hs4 (by first | assumption | exact st_stock (by assumption) | exact rn_site (by assumption) | decide) h
  · replace h := of_ifn h c1
    exact t_X10_passWeek_200 hD hk_X10_passWeek_121 hk_X10_passWeek_130 hs (by first | assumption | exact st_stock (by assumption) | exact rn_site (by assumption) | decide) h
set_option maxRecDepth 100000 in
theorem t_X10_passWeek_170 {X : Sx} {l : Launch} {D : Nat} {k_X10_passWeek_121 : Nat → Int32 → Int32 → Int32 → AH → Option AH} {k_X10_passWeek_130 : Nat → Int32 → Int32 → Int32 → Int32 → AH → Option AH} {x1 : Nat} {x2 : Int32} {x3 : Int32} {x4 : Int32} {x5 : Int32} {x6 : Int32} {y0 : Int32} {σ : AH} {σ' : AH} (hD : 5 ≤ D) (hk_X10_passWeek_121 : ∀ (x1 : Nat) (x2 : Int32) (x3 : Int32) (x4 : Int32) (σ : AH) (σ' : AH), Sh σ → x1 ∈ siteIds → k_X10_passWeek_121 x1 x2 x3 x4 σ = some σ' → E X l m_X10_passWeek D 121 [(0, .ref 34), (1, .ref x1), (2, .int x2), (3, .int x3), (4, .int x4)] [] σ none σ') (hk_X10_passWeek_130 : ∀ (x1 : Nat) (x2 : Int32) (x3 : Int32) (x4 : Int32) (x5 : Int32) (σ : AH) (σ' : AH), Sh σ → x1 ∈ siteIds → k_X10_passWeek_130 x1 x2 x3 x4 x5 σ = some σ' → E X l m_X10_passWeek D 130 [(0, .ref 34), (1, .ref x1), (2, .int x2), (3, .int x3), (4, .int x4), (5, .int x5)] [] σ none σ') (hs : Sh σ) (hmx1 : x1 ∈ siteIds) (h : F_X10_passWeek_170 k_X10_passWeek_121 k_X10_passWeek_130 x1 x2 x3 x4 x5 x6 y0 σ = some σ') : W_X10_passWeek_170 X l D x1 x2 x3 x4 x5 x6 y0 σ none σ' := by
  unfold F_X10_passWeek_170 at h
  unfold W_X10_passWeek_170
  refine ite_i (fun c1 => ?_) (fun c1 => ?_)
  · replace h := of_ifp h c1
    exact t_X10_passWeek_180 hD hk_X10_passWeek_121 hk_X10_passWeek_130 hs (by first | assumption | exact st_stock (by assumption) | exact rn_site (by assumption) | decide) h
  · replace h := of_ifn h c1
    exact t_X10_passWeek_180 hD hk_X10_passWeek_121 hk_X10_passWeek_130 hs (by first | assumption | exact st_stock (by assumption) | exact rn_site (by assumption) | decide) h
set_option maxRecDepth 100000 in
theorem t_X10_passWeek_130 {X : Sx} {l : Launch} {D : Nat} {k_X10_passWeek_121 : Nat → Int32 → Int32 → Int32 → AH → Option AH} {k_X10_passWeek_130 : Nat → Int32 → Int32 → Int32 → Int32 → AH → Option AH} {x1 : Nat} {x2 : Int32} {x3 : Int32} {x4 : Int32} {x5 : Int32} {σ : AH} {σ' : AH} (hD : 5 ≤ D) (hk_X10_passWeek_121 : ∀ (x1 : Nat) (x2 : Int32) (x3 : Int32) (x4 : Int32) (σ : AH) (σ' : AH), Sh σ → x1 ∈ siteIds → k_X10_passWeek_121 x1 x2 x3 x4 σ = some σ' → E X l m_X10_passWeek D 121 [(0, .ref 34), (1, .ref x1), (2, .int x2), (3, .int x3), (4, .int x4)] [] σ none σ') (hk_X10_passWeek_130 : ∀ (x1 : Nat) (x2 : Int32) (x3 : Int32) (x4 : Int32) (x5 : Int32) (σ : AH) (σ' : AH), Sh σ → x1 ∈ siteIds → k_X10_passWeek_130 x1 x2 x3 x4 x5 σ = some σ' → E X l m_X10_passWeek D 130 [(0, .ref 34), (1, .ref x1), (2, .int x2), (3, .int x3), (4, .int x4), (5, .int x5)] [] σ none σ') (hs : Sh σ) (hmx1 : x1 ∈ siteIds) (h : B_X10_passWeek_130 k_X10_passWeek_121 k_X10_passWeek_130 x1 x2 x3 x4 x5 σ = some σ') : W_X10_passWeek_130 X l D x1 x2 x3 x4 x5 σ none σ' := by
  unfold B_X10_passWeek_130 at h
  unfold W_X10_passWeek_130
  refine ite_i (fun c1 => ?_) (fun c1 => ?_)
  · replace h := of_ifp h c1
    exact hk_X10_passWeek_121 _ _ _ _ _ _ hs (by first | assumption | exact st_stock (by assumption) | exact rn_site (by assumption) | decide) h
  · replace h := of_ifn h c1
    obtain ⟨g2, h⟩ := of_gd h
    refine ⟨(inB_mp g2), ?_⟩
    obtain ⟨v47, σ43, q3, h⟩ := of_bd h
    have hC4 := f_X8_at  q3 (X := X) (l := l)
    have hs5 := hC4.1.2.2.2.1 hs
    refine ⟨0, v47, σ43, (Nat.le_trans (by decide) hD), hC4, ?_⟩
    refine ite_i (fun c6 => ?_) (fun c6 => ?_)
    · replace h := of_ifp h c6
      exact t_X10_passWeek_170 hD hk_X10_passWeek_121 hk_X10_passWeek_130 hs5 (by first | assumption | exact st_stock (by assumption) | exact rn_site (by assumption) | decide) h
    · replace h := of_ifn h c6
      exact t_X10_passWeek_170 hD hk_X10_passWeek_121 hk_X10_passWeek_130 hs5 (by first | assumption | exact st_stock (by assumption) | exact rn_site (by assumption) | decide) h
theorem e_X10_passWeek_130 {X : Sx} {l : Launch} {D : Nat} {k_X10_passWeek_121 : Nat → Int32 → Int32 → Int32 → AH → Option AH} (hD : 5 ≤ D) (hk_X10_passWeek_121 : ∀ (x1 : Nat) (x2 : Int32) (x3 : Int32) (x4 : Int32) (σ : AH) (σ' : AH), Sh σ → x1 ∈ siteIds → k_X10_passWeek_121 x1 x2 x3 x4 σ = some σ' → E X l m_X10_passWeek D 121 [(0, .ref 34), (1, .ref x1), (2, .int x2), (3, .int x3), (4, .int x4)] [] σ none σ') : ∀ (k : Nat) (x1 : Nat) (x2 : Int32) (x3 : Int32) (x4 : Int32) (x5 : Int32) (σ : AH) (σ' : AH), Sh σ → x1 ∈ siteIds → F_X10_passWeek_130 k_X10_passWeek_121 k x1 x2 x3 x4 x5 σ = some σ' → E X l m_X10_passWeek D 130 [(0, .ref 34), (1, .ref x1), (2, .int x2), (3, .int x3), (4, .int x4), (5, .int x5)] [] σ none σ' := by
  intro k
  induction k with
  | zero => intro x1 x2 x3 x4 x5 σ σ' hs hmx1 h; cases h
  | succ k ih =>
    intro x1 x2 x3 x4 x5 σ σ' hs hmx1 h
    exact w_X10_passWeek_130 hs hmx1 (t_X10_passWeek_130 hD hk_X10_passWeek_121 ih hs hmx1 h)
set_option maxRecDepth 100000 in
theorem t_X10_passWeek_121 {X : Sx} {l : Launch} {D : Nat} {k_X10_passWeek_121 : Nat → Int32 → Int32 → Int32 → AH → Option AH} {x1 : Nat} {x2 : Int32} {x3 : Int32} {x4 : Int32} {σ : AH} {σ' : AH} (hD : 5 ≤ D) (hk_X10_passWeek_121 : ∀ (x1 : Nat) (x2 : Int32) (x3 : Int32) (x4 : Int32) (σ : AH) (σ' : AH), Sh σ → x1 ∈ siteIds → k_X10_passWeek_121 x1 x2 x3 x4 σ = some σ' → E X l m_X10_passWeek D 121 [(0, .ref 34), (1, .ref x1), (2, .int x2), (3, .int x3), (4, .int x4)] [] σ none σ') (hs : Sh σ) (hmx1 : x1 ∈ siteIds) (h : B_X10_passWeek_121 k_X10_passWeek_121 x1 x2 x3 x4 σ = some σ') : W_X10_passWeek_121 X l D x1 x2 x3 x4 σ none σ' := by
  unfold B_X10_passWeek_121 at h
  unfold W_X10_passWeek_121
  refine ite_i (fun c1 => ?_) (fun c1 => ?_)
  · replace h := of_ifp h c1
    exact ret_v h
  · replace h := of_ifn h c1
    exact e_X10_passWeek_130 hD hk_X10_passWeek_121 _ _ _ _ _ _ _ _ hs (by first | assumption | exact st_stock (by assumption) | exact rn_site (by assumption) | decide) h
theorem e_X10_passWeek_121 {X : Sx} {l : Launch} {D : Nat} (hD : 5 ≤ D) : ∀ (k : Nat) (x1 : Nat) (x2 : Int32) (x3 : Int32) (x4 : Int32) (σ : AH) (σ' : AH), Sh σ → x1 ∈ siteIds → F_X10_passWeek_121 k x1 x2 x3 x4 σ = some σ' → E X l m_X10_passWeek D 121 [(0, .ref 34), (1, .ref x1), (2, .int x2), (3, .int x3), (4, .int x4)] [] σ none σ' := by
  intro k
  induction k with
  | zero => intro x1 x2 x3 x4 σ σ' hs hmx1 h; cases h
  | succ k ih =>
    intro x1 x2 x3 x4 σ σ' hs hmx1 h
    exact w_X10_passWeek_121 hs hmx1 (t_X10_passWeek_121 hD ih hs hmx1 h)
set_option maxRecDepth 100000 in
theorem t_X10_passWeek_74 {X : Sx} {l : Launch} {D : Nat} {k_X10_passWeek_34 : Nat → Int32 → Int32 → AH → Option AH} {x1 : Nat} {x2 : Int32} {x3 : Int32} {σ : AH} {σ' : AH} (hD : 5 ≤ D) (hk_X10_passWeek_34 : ∀ (x1 : Nat) (x2 : Int32) (x3 : Int32) (σ : AH) (σ' : AH), Sh σ → x1 ∈ siteIds → k_X10_passWeek_34 x1 x2 x3 σ = some σ' → E X l m_X10_passWeek D 34 [(0, .ref 34), (1, .ref x1), (2, .int x2), (3, .int x3)] [] σ none σ') (hs : Sh σ) (hmx1 : x1 ∈ siteIds) (h : F_X10_passWeek_74 k_X10_passWeek_34 x1 x2 x3 σ = some σ') : W_X10_passWeek_74 X l D x1 x2 x3 σ none σ' := by
  unfold F_X10_passWeek_74 at h
  unfold W_X10_passWeek_74
  exact hk_X10_passWeek_34 _ _ _ _ _ hs (by first | assumption | exact st_stock (by assumption) | exact rn_site (by assumption) | decide) h
set_option maxRecDepth 100000 in
theorem t_X10_passWeek_34 {X : Sx} {l : Launch} {D : Nat} {k_X10_passWeek_34 : Nat → Int32 → Int32 → AH → Option AH} {x1 : Nat} {x2 : Int32} {x3 : Int32} {σ : AH} {σ' : AH} (hD : 5 ≤ D) (hk_X10_passWeek_34 : ∀ (x1 : Nat) (x2 : Int32) (x3 : Int32) (σ : AH) (σ' : AH), Sh σ → x1 ∈ siteIds → k_X10_passWeek_34 x1 x2 x3 σ = some σ' → E X l m_X10_passWeek D 34 [(0, .ref 34), (1, .ref x1), (2, .int x2), (3, .int x3)] [] σ none σ') (hs : Sh σ) (hmx1 : x1 ∈ siteIds) (h : B_X10_passWeek_34 k_X10_passWeek_34 x1 x2 x3 σ = some σ') : W_X10_passWeek_34 X l D x1 x2 x3 σ none σ' := by
  unfold B_X10_passWeek_34 at h
  unfold W_X10_passWeek_34
  obtain ⟨v9, σ5, q1, h⟩ := of_bd h
  have hC2 := f_X8_rows  q1 (X := X) (l := l)
  have hs3 := hC2.1.2.2.2.1 hs
  refine ⟨0, v9, σ5, (Nat.le_trans (by decide) hD), hC2, ?_⟩
  refine ite_i (fun c4 => ?_) (fun c4 => ?_)
  · replace h := of_ifp h c4
    obtain ⟨σ11, q5, h⟩ := of_bv h
    have hC6 := f_X10_lineUp (σ := σ5) hs3 (by first | assumption | exact st_stock (by assumption) | exact rn_site (by assumption) | decide) q5 (X := X) (l := l)
    have hs7 := hC6.1.2.2.2.1 hs3
    refine ⟨4, σ11, (Nat.le_trans (by decide) hD), hC6, ?_⟩
    refine ite_i (fun c8 => ?_) (fun c8 => ?_)
    · replace h := of_ifp h c8
      exact ret_v h
    · replace h := of_ifn h c8
      obtain ⟨g9, h⟩ := of_gd h
      refine ⟨g9, ?_⟩
      obtain ⟨g10, h⟩ := of_gd h
      refine ⟨g10, ?_⟩
      obtain ⟨g11, h⟩ := of_gd h
      refine ⟨g11, ?_⟩
      refine ⟨Nat.le_trans (by decide) hD, ?_⟩
      intro τ21 e12
      replace h := of_lt h e12
      have hs13 : Sh τ21 := by rw [e12]; exact hs7
      obtain ⟨v29, σ25, q14, h⟩ := of_bd h
      have hC15 := f_X10_firstKind (σ := τ21) hs13  q14 (X := X) (l := l)
      have hs16 := hC15.1.2.2.2.1 hs13
      refine ⟨3, v29, σ25, (Nat.le_trans (by decide) hD), hC15, ?_⟩
      exact e_X10_passWeek_121 hD  _ _ _ _ _ _ _ hs16 (by first | assumption | exact st_stock (by assumption) | exact rn_site (by assumption) | decide) h
  · replace h := of_ifn h c4
    obtain ⟨v35, σ31, q17, h⟩ := of_bd h
    have hC18 := f_X8_at  q17 (X := X) (l := l)
    have hs19 := hC18.1.2.2.2.1 hs3
    refine ⟨0, v35, σ31, (Nat.le_trans (by decide) hD), hC18, ?_⟩
    refine ite_i (fun c20 => ?_) (fun c20 => ?_)
    · replace h := of_ifp h c20
      exact t_X10_passWeek_74 hD hk_X10_passWeek_34 hs19 (by first | assumption | exact st_stock (by assumption) | exact rn_site (by assumption) | decide) h
    · replace h := of_ifn h c20
      obtain ⟨σ37, q21, h⟩ := of_bv h
      have hC22 := f_X10_doBatches (σ := σ31) hs19 (by first | assumption | exact st_stock (by assumption) | exact rn_site (by assumption) | decide) q21 (X := X) (l := l)
      have hs23 := hC22.1.2.2.2.1 hs19
      refine ⟨1, σ37, (Nat.le_trans (by decide) hD), hC22, ?_⟩
      exact t_X10_passWeek_74 hD hk_X10_passWeek_34 hs23 (by first | assumption | exact st_stock (by assumption) | exact rn_site (by assumption) | decide) h
theorem e_X10_passWeek_34 {X : Sx} {l : Launch} {D : Nat} (hD : 5 ≤ D) : ∀ (k : Nat) (x1 : Nat) (x2 : Int32) (x3 : Int32) (σ : AH) (σ' : AH), Sh σ → x1 ∈ siteIds → F_X10_passWeek_34 k x1 x2 x3 σ = some σ' → E X l m_X10_passWeek D 34 [(0, .ref 34), (1, .ref x1), (2, .int x2), (3, .int x3)] [] σ none σ' := by
  intro k
  induction k with
  | zero => intro x1 x2 x3 σ σ' hs hmx1 h; cases h
  | succ k ih =>
    intro x1 x2 x3 σ σ' hs hmx1 h
    exact w_X10_passWeek_34 hs hmx1 (t_X10_passWeek_34 hD ih hs hmx1 h)
set_option maxRecDepth 100000 in
theorem t_X10_passWeek_2 {X : Sx} {l : Launch} {D : Nat} {k_X10_passWeek_2 : Nat → Int32 → Int32 → AH → Option AH} {x1 : Nat} {x2 : Int32} {x3 : Int32} {σ : AH} {σ' : AH} (hD : 5 ≤ D) (hk_X10_passWeek_2 : ∀ (x1 : Nat) (x2 : Int32) (x3 : Int32) (σ : AH) (σ' : AH), Sh σ → x1 ∈ siteIds → k_X10_passWeek_2 x1 x2 x3 σ = some σ' → E X l m_X10_passWeek D 2 [(0, .ref 34), (1, .ref x1), (2, .int x2), (3, .int x3)] [] σ none σ') (hs : Sh σ) (hmx1 : x1 ∈ siteIds) (h : B_X10_passWeek_2 k_X10_passWeek_2 x1 x2 x3 σ = some σ') : W_X10_passWeek_2 X l D x1 x2 x3 σ none σ' := by
  unfold B_X10_passWeek_2 at h
  unfold W_X10_passWeek_2
  refine ite_i (fun c1 => ?_) (fun c1 => ?_)
  · replace h := of_ifp h c1
    exact e_X10_passWeek_34 hD  _ _ _ _ _ _ hs (by first | assumption | exact st_stock (by assumption) | exact rn_site (by assumption) | decide) h
  · replace h := of_ifn h c1
    obtain ⟨g2, h⟩ := of_gd h
    refine ⟨(inB_mp g2), ?_⟩
    obtain ⟨g3, h⟩ := of_gd h
    refine ⟨(inB_mp g3), ?_⟩
    obtain ⟨g4, h⟩ := of_gd h
    refine ⟨(inB_mp g4), ?_⟩
    exact hk_X10_passWeek_2 _ _ _ _ _ hs (by first | assumption | exact st_stock (by assumption) | exact rn_site (by assumption) | decide) h
theorem e_X10_passWeek_2 {X : Sx} {l : Launch} {D : Nat} (hD : 5 ≤ D) : ∀ (k : Nat) (x1 : Nat) (x2 : Int32) (x3 : Int32) (σ : AH) (σ' : AH), Sh σ → x1 ∈ siteIds → F_X10_passWeek_2 k x1 x2 x3 σ = some σ' → E X l m_X10_passWeek D 2 [(0, .ref 34), (1, .ref x1), (2, .int x2), (3, .int x3)] [] σ none σ' := by
  intro k
  induction k with
  | zero => intro x1 x2 x3 σ σ' hs hmx1 h; cases h
  | succ k ih =>
    intro x1 x2 x3 σ σ' hs hmx1 h
    exact w_X10_passWeek_2 hs hmx1 (t_X10_passWeek_2 hD ih hs hmx1 h)
set_option maxRecDepth 100000 in
theorem t_X10_passWeek_0 {X : Sx} {l : Launch} {D : Nat} {x1 : Nat} {x2 : Int32} {σ : AH} {σ' : AH} (hD : 5 ≤ D) (hs : Sh σ) (hmx1 : x1 ∈ siteIds) (h : F_X10_passWeek x1 x2 σ = some σ') : W_X10_passWeek_0 X l D x1 x2 σ none σ' := by
  unfold F_X10_passWeek at h
  unfold W_X10_passWeek_0
  exact e_X10_passWeek_2 hD  _ _ _ _ _ _ hs (by first | assumption | exact st_stock (by assumption) | exact rn_site (by assumption) | decide) h
theorem f_X10_passWeek {X : Sx} {l : Launch} {x1 : Nat} {x2 : Int32} {σ : AH} {σ' : AH} (hs : Sh σ) (hmx1 : x1 ∈ siteIds) (h : F_X10_passWeek x1 x2 σ = some σ') : Call X l m_X10_passWeek 5 [.ref 34, .ref x1, .int x2] σ none σ' :=
  Call.ofE ok_X10_passWeek rfl (Nat.le_of_ble_eq_true rfl) (w_X10_passWeek_0 hs hmx1 (t_X10_passWeek_0 (Nat.le_refl _) hs hmx1 h))
def B_X1_openQuarter_60 (k_X1_openQuarter_60 : Int32 → AH → Option AH) (x4 : Int32) (σ : AH) : Option AH := (if (gI σ 68 4) ≤ x4 then (some σ) else (bv (F_X10_passWeek 70 x4 σ) fun σ12 => (k_X1_openQuarter_60 (x4 + 1) σ12)))
def F_X1_openQuarter_60 : Nat → Int32 → AH → Option AH := fun k => match k with | 0 => fun _ _ => none | k + 1 => B_X1_openQuarter_60 (F_X1_openQuarter_60 k)
def F_X1_openQuarter_37 (x3 : Int32) (σ : AH) : Option AH := (bv (F_X7_empty 70 (sI (sI σ 68 6 (gI σ 68 4)) 68 7 x3)) fun σ7 => (F_X1_openQuarter_60 BIG (0 : Int32) σ7))
def F_X1_openQuarter (x1 : Int32) (x2 : Int32) (x3 : Int32) (σ : AH) : Option AH := (bv (F_X10_prepare x2 (0 : Int32) x3 (sI σ 68 4 (x1 * (13 : Int32)))) fun σ2 => (if (gI σ2 68 6) = (gI σ2 68 4) then (if (gI σ2 68 7) = x3 then (some σ2) else (F_X1_openQuarter_37 x3 σ2)) else (F_X1_openQuarter_37 x3 σ2)))
set_option maxRecDepth 100000 in
theorem t_X1_openQuarter_60 {X : Sx} {l : Launch} {D : Nat} {k_X1_openQuarter_60 : Int32 → AH → Option AH} {x4 : Int32} {σ : AH} {σ' : AH} (hD : 6 ≤ D) (hk_X1_openQuarter_60 : ∀ (x4 : Int32) (σ : AH) (σ' : AH), Sh σ → k_X1_openQuarter_60 x4 σ = some σ' → E X l m_X1_openQuarter D 60 [(0, .ref 68), (4, .int x4)] [] σ none σ') (hs : Sh σ) (h : B_X1_openQuarter_60 k_X1_openQuarter_60 x4 σ = some σ') : W_X1_openQuarter_60 X l D x4 σ none σ' := by
  unfold B_X1_openQuarter_60 at h
  unfold W_X1_openQuarter_60
  refine ite_i (fun c1 => ?_) (fun c1 => ?_)
  · replace h := of_ifp h c1
    exact ret_v h
  · replace h := of_ifn h c1
    obtain ⟨σ12, q2, h⟩ := of_bv h
    have hC3 := f_X10_passWeek (σ := σ) hs (by first | assumption | exact st_stock (by assumption) | exact rn_site (by assumption) | decide) q2 (X := X) (l := l)
    have hs4 := hC3.1.2.2.2.1 hs
    refine ⟨5, σ12, (Nat.le_trans (by decide) hD), hC3, ?_⟩
    exact hk_X1_openQuarter_60 _ _ _ hs4  h
theorem e_X1_openQuarter_60 {X : Sx} {l : Launch} {D : Nat} (hD : 6 ≤ D) : ∀ (k : Nat) (x4 : Int32) (σ : AH) (σ' : AH), Sh σ → F_X1_openQuarter_60 k x4 σ = some σ' → E X l m_X1_openQuarter D 60 [(0, .ref 68), (4, .int x4)] [] σ none σ' := by
  intro k
  induction k with
  | zero => intro x4 σ σ' hs h; cases h
  | succ k ih =>
    intro x4 σ σ' hs h
    exact w_X1_openQuarter_60 hs  (t_X1_openQuarter_60 hD ih hs  h)
set_option maxRecDepth 100000 in
theorem t_X1_openQuarter_37 {X : Sx} {l : Launch} {D : Nat} {x3 : Int32} {σ : AH} {σ' : AH} (hD : 6 ≤ D) (hs : Sh σ) (h : F_X1_openQuarter_37 x3 σ = some σ') : W_X1_openQuarter_37 X l D x3 σ none σ' := by
  unfold F_X1_openQuarter_37 at h
  unfold W_X1_openQuarter_37
  obtain ⟨σ7, q1, h⟩ := of_bv h
  have hC2 := f_X7_empty (σ := (sI (sI σ 68 6 (gI σ 68 4)) 68 7 x3)) hs (by first | assumption | exact st_stock (by assumption) | exact rn_site (by assumption) | decide) q1 (X := X) (l := l)
  have hs3 := hC2.1.2.2.2.1 hs
  refine ⟨1, σ7, (Nat.le_trans (by decide) hD), hC2, ?_⟩
  exact e_X1_openQuarter_60 hD  _ _ _ _ hs3  h
set_option maxRecDepth 100000 in
theorem t_X1_openQuarter_0 {X : Sx} {l : Launch} {D : Nat} {x1 : Int32} {x2 : Int32} {x3 : Int32} {σ : AH} {σ' : AH} (hD : 6 ≤ D) (hs : Sh σ) (h : F_X1_openQuarter x1 x2 x3 σ = some σ') : W_X1_openQuarter_0 X l D x1 x2 x3 σ none σ' := by
  unfold F_X1_openQuarter at h
  unfold W_X1_openQuarter_0
  obtain ⟨σ2, q1, h⟩ := of_bv h
  have hC2 := f_X10_prepare (σ := (sI σ 68 4 (x1 * (13 : Int32)))) hs  q1 (X := X) (l := l)
  have hs3 := hC2.1.2.2.2.1 hs
  refine ⟨2, σ2, (Nat.le_trans (by decide) hD), hC2, ?_⟩
  refine ite_i (fun c4 => ?_) (fun c4 => ?_)
  · replace h := of_ifp h c4
    refine ite_i (fun c5 => ?_) (fun c5 => ?_)
    · replace h := of_ifp h c5
      exact ret_v h
    · replace h := of_ifn h c5
      exact t_X1_openQuarter_37 hD  hs3  h
  · replace h := of_ifn h c4
    exact t_X1_openQuarter_37 hD  hs3  h
theorem f_X1_openQuarter {X : Sx} {l : Launch} {x1 : Int32} {x2 : Int32} {x3 : Int32} {σ : AH} {σ' : AH} (hs : Sh σ) (h : F_X1_openQuarter x1 x2 x3 σ = some σ') : Call X l m_X1_openQuarter 6 [.ref 68, .int x1, .int x2, .int x3] σ none σ' :=
  Call.ofE ok_X1_openQuarter rfl (Nat.le_of_ble_eq_true rfl) (w_X1_openQuarter_0 hs  (t_X1_openQuarter_0 (Nat.le_refl _) hs  h))
def F_X1_forget (σ : AH) : Option AH := (lt (sA σ 81 (filln (gI σ 81) 6 (0 : Int32))) fun τ2 => (some (sI (sI (sI τ2 68 12 (-1 : Int32)) 68 13 (-1 : Int32)) 68 11 (gI (sI (sI τ2 68 12 (-1 : Int32)) 68 13 (-1 : Int32)) 68 3))))
set_option maxRecDepth 100000 in
theorem t_X1_forget_0 {X : Sx} {l : Launch} {D : Nat} {σ : AH} {σ' : AH} (hD : 1 ≤ D) (hs : Sh σ) (h : F_X1_forget σ = some σ') : W_X1_forget_0 X l D σ none σ' := by
  unfold F_X1_forget at h
  unfold W_X1_forget_0
  refine ⟨Nat.le_trans (by decide) hD, ?_⟩
  intro τ2 e1
  replace h := of_lt h e1
  have hs2 : Sh τ2 := by rw [e1]; exact hs
  exact ret_v h
theorem f_X1_forget {X : Sx} {l : Launch} {σ : AH} {σ' : AH} (hs : Sh σ) (h : F_X1_forget σ = some σ') : Call X l m_X1_forget 1 [.ref 68] σ none σ' :=
  Call.ofE ok_X1_forget rfl (Nat.le_of_ble_eq_true rfl) (w_X1_forget_0 hs  (t_X1_forget_0 (Nat.le_refl _) hs  h))
def B_X1_tell_2 (k_X1_tell_2 : Int32 → Int32 → AH → Option AH) (x1 : Int32) (x2 : Int32) (σ : AH) : Option AH := (if (6 : Int32) ≤ x2 then (some σ) else (if inB x2 6 = true then (k_X1_tell_2 x1 (x2 + 1) (sI σ 81 x2.toNatClampNeg ((x1 >>> (((2 : Int32) * x2) &&& 31)) &&& (3 : Int32)))) else none))
def F_X1_tell_2 : Nat → Int32 → Int32 → AH → Option AH := fun k => match k with | 0 => fun _ _ _ => none | k + 1 => B_X1_tell_2 (F_X1_tell_2 k)
def F_X1_tell (x1 : Int32) (σ : AH) : Option AH := (F_X1_tell_2 BIG x1 (0 : Int32) σ)
set_option maxRecDepth 100000 in
theorem t_X1_tell_2 {X : Sx} {l : Launch} {D : Nat} {k_X1_tell_2 : Int32 → Int32 → AH → Option AH} {x1 : Int32} {x2 : Int32} {σ : AH} {σ' : AH} (hD : 0 ≤ D) (hk_X1_tell_2 : ∀ (x1 : Int32) (x2 : Int32) (σ : AH) (σ' : AH), Sh σ → k_X1_tell_2 x1 x2 σ = some σ' → E X l m_X1_tell D 2 [(0, .ref 68), (1, .int x1), (2, .int x2)] [] σ none σ') (hs : Sh σ) (h : B_X1_tell_2 k_X1_tell_2 x1 x2 σ = some σ') : W_X1_tell_2 X l D x1 x2 σ none σ' := by
  unfold B_X1_tell_2 at h
  unfold W_X1_tell_2
  refine ite_i (fun c1 => ?_) (fun c1 => ?_)
  · replace h := of_ifp h c1
    exact ret_v h
  · replace h := of_ifn h c1
    obtain ⟨g2, h⟩ := of_gd h
    refine ⟨(inB_mp g2), ?_⟩
    exact hk_X1_tell_2 _ _ _ _ hs  h
theorem e_X1_tell_2 {X : Sx} {l : Launch} {D : Nat} (hD : 0 ≤ D) : ∀ (k : Nat) (x1 : Int32) (x2 : Int32) (σ : AH) (σ' : AH), Sh σ → F_X1_tell_2 k x1 x2 σ = some σ' → E X l m_X1_tell D 2 [(0, .ref 68), (1, .int x1), (2, .int x2)] [] σ none σ' := by
  intro k
  induction k with
  | zero => intro x1 x2 σ σ' hs h; cases h
  | succ k ih =>
    intro x1 x2 σ σ' hs h
    exact w_X1_tell_2 hs  (t_X1_tell_2 hD ih hs  h)
set_option maxRecDepth 100000 in
theorem t_X1_tell_0 {X : Sx} {l : Launch} {D : Nat} {x1 : Int32} {σ : AH} {σ' : AH} (hD : 0 ≤ D) (hs : Sh σ) (h : F_X1_tell x1 σ = some σ') : W_X1_tell_0 X l D x1 σ none σ' := by
  unfold F_X1_tell at h
  unfold W_X1_tell_0
  exact e_X1_tell_2 hD  _ _ _ _ _ hs  h
theorem f_X1_tell {X : Sx} {l : Launch} {x1 : Int32} {σ : AH} {σ' : AH} (hs : Sh σ) (h : F_X1_tell x1 σ = some σ') : Call X l m_X1_tell 0 [.ref 68, .int x1] σ none σ' :=
  Call.ofE ok_X1_tell rfl (Nat.le_of_ble_eq_true rfl) (w_X1_tell_0 hs  (t_X1_tell_0 (Nat.le_refl _) hs  h))
def F_X7_copyFrom (x0 : Nat) (x1 : Nat) (x2 : Int32) (σ : AH) : Option AH := (if 0 + 5 ≤ 5 then (if 0 + 5 ≤ 5 then (lt (sA σ (x0 + 1) (va_cpy (gI σ (x1 + 1)) (gI σ (x0 + 1)) 0 0 5)) fun τ7 => (if ¬ (gI τ7 x1 2) < 0 then (if 0 + (gI τ7 x1 2).toNatClampNeg ≤ 30 then (if 0 + (gI τ7 x1 2).toNatClampNeg ≤ 30 then (lt (sA τ7 (x0 + 2) (va_cpy (gI τ7 (x1 + 2)) (gI τ7 (x0 + 2)) 0 0 ((gI τ7 x1 2).toNatClampNeg))) fun τ16 => (if 0 + 18 ≤ 18 then (if 0 + 18 ≤ 18 then (lt (sA (sI τ16 x0 2 (gI τ16 x1 2)) (x0 + 3) (va_cpy (gI (sI τ16 x0 2 (gI τ16 x1 2)) (x1 + 3)) (gI (sI τ16 x0 2 (gI τ16 x1 2)) (x0 + 3)) 0 0 18)) fun τ25 => (if ¬ x2 < 0 then (if 0 + x2.toNatClampNeg ≤ 30 then (if 0 + x2.toNatClampNeg ≤ 30 then (lt (sA τ25 (x0 + 4) (va_cpy (gI τ25 (x1 + 4)) (gI τ25 (x0 + 4)) 0 0 x2.toNatClampNeg)) fun τ34 => (if ¬ x2 < 0 then (if 0 + x2.toNatClampNeg ≤ 30 then (if 0 + x2.toNatClampNeg ≤ 30 then (lt (sA τ34 (x0 + 5) (va_cpy (gI τ34 (x1 + 5)) (gI τ34 (x0 + 5)) 0 0 x2.toNatClampNeg)) fun τ43 => (if ¬ x2 < 0 then (if 0 + x2.toNatClampNeg ≤ 30 then (if 0 + x2.toNatClampNeg ≤ 30 then (lt (sA τ43 (x0 + 6) (va_cpy (gI τ43 (x1 + 6)) (gI τ43 (x0 + 6)) 0 0 x2.toNatClampNeg)) fun τ52 => (if ¬ (x2 * (3 : Int32)) < 0 then (if 0 + (x2 * (3 : Int32)).toNatClampNeg ≤ 90 then (if 0 + (x2 * (3 : Int32)).toNatClampNeg ≤ 90 then (lt (sA τ52 (x0 + 7) (va_cpy (gI τ52 (x1 + 7)) (gI τ52 (x0 + 7)) 0 0 ((x2 * (3 : Int32)).toNatClampNeg))) fun τ61 => (if ¬ (x2 * (3 : Int32)) < 0 then (if 0 + (x2 * (3 : Int32)).toNatClampNeg ≤ 90 then (if 0 + (x2 * (3 : Int32)).toNatClampNeg ≤ 90 then (lt (sA τ61 (x0 + 8) (va_cpy (gI τ61 (x1 + 8)) (gI τ61 (x0 + 8)) 0 0 ((x2 * (3 : Int32)).toNatClampNeg))) fun τ70 => (if ¬ (x2 * (3 : Int32)) < 0 then (if 0 + (x2 * (3 : Int32)).toNatClampNeg ≤ 90 then (if 0 + (x2 * (3 : Int32)).toNatClampNeg ≤ 90 then (lt (sA τ70 (x0 + 9) (va_cpy (gI τ70 (x1 + 9)) (gI τ70 (x0 + 9)) 0 0 ((x2 * (3 : Int32)).toNatClampNeg))) fun τ79 => (some τ79)) else none) else none) else none)) else none) else none) else none)) else none) else none) else none)) else none) else none) else none)) else none) else none) else none)) else none) else none) else none)) else none) else none)) else none) else none) else none)) else none) else none)
set_option maxRecDepth 100000 in
theorem t_X7_copyFrom_0 {X : Sx} {l : Launch} {D : Nat} {x0 : Nat} {x1 : Nat} {x2 : Int32} {σ : AH} {σ' : AH} (hD : 1 ≤ D) (hs : Sh σ) (hmx0 : x0 ∈ siteIds) (hmx1 : x1 ∈ siteIds) (h : F_X7_copyFrom x0 x1 x2 σ = some σ') : W_X7_copyFrom_0 X l D x0 x1 x2 σ none σ' := by
  unfold F_X7_copyFrom at h
  unfold W_X7_copyFrom_0
  obtain ⟨g1, h⟩ := of_gd h
  refine ⟨g1, ?_⟩
  obtain ⟨g2, h⟩ := of_gd h
  refine ⟨g2, ?_⟩
  refine ⟨Nat.le_trans (by decide) hD, ?_⟩
  intro τ7 e3
  replace h := of_lt h e3
  have hs4 : Sh τ7 := by rw [e3]; exact hs
  obtain ⟨g5, h⟩ := of_gd h
  refine ⟨g5, ?_⟩
  obtain ⟨g6, h⟩ := of_gd h
  refine ⟨g6, ?_⟩
  obtain ⟨g7, h⟩ := of_gd h
  refine ⟨g7, ?_⟩
  refine ⟨Nat.le_trans (by decide) hD, ?_⟩
  intro τ16 e8
  replace h := of_lt h e8
  have hs9 : Sh τ16 := by rw [e8]; exact hs4
  obtain ⟨g10, h⟩ := of_gd h
  refine ⟨g10, ?_⟩
  obtain ⟨g11, h⟩ := of_gd h
  refine ⟨g11, ?_⟩
  refine ⟨Nat.le_trans (by decide) hD, ?_⟩
  intro τ25 e12
  replace h := of_lt h e12
  have hs13 : Sh τ25 := by rw [e12]; exact hs9
  obtain ⟨g14, h⟩ := of_gd h
  refine ⟨g14, ?_⟩
  obtain ⟨g15, h⟩ := of_gd h
  refine ⟨g15, ?_⟩
  obtain ⟨g16, h⟩ := of_gd h
  refine ⟨g16, ?_⟩
  refine ⟨Nat.le_trans (by decide) hD, ?_⟩
  intro τ34 e17
  replace h := of_lt h e17
  have hs18 : Sh τ34 := by rw [e17]; exact hs13
  obtain ⟨g19, h⟩ := of_gd h
  refine ⟨g19, ?_⟩
  obtain ⟨g20, h⟩ := of_gd h
  refine ⟨g20, ?_⟩
  obtain ⟨g21, h⟩ := of_gd h
  refine ⟨g21, ?_⟩
  refine ⟨Nat.le_trans (by decide) hD, ?_⟩
  intro τ43 e22
  replace h := of_lt h e22
  have hs23 : Sh τ43 := by rw [e22]; exact hs18
  obtain ⟨g24, h⟩ := of_gd h
  refine ⟨g24, ?_⟩
  obtain ⟨g25, h⟩ := of_gd h
  refine ⟨g25, ?_⟩
  obtain ⟨g26, h⟩ := of_gd h
  refine ⟨g26, ?_⟩
  refine ⟨Nat.le_trans (by decide) hD, ?_⟩
  intro τ52 e27
  replace h := of_lt h e27
  have hs28 : Sh τ52 := by rw [e27]; exact hs23
  obtain ⟨g29, h⟩ := of_gd h
  refine ⟨g29, ?_⟩
  obtain ⟨g30, h⟩ := of_gd h
  refine ⟨g30, ?_⟩
  obtain ⟨g31, h⟩ := of_gd h
  refine ⟨g31, ?_⟩
  refine ⟨Nat.le_trans (by decide) hD, ?_⟩
  intro τ61 e32
  replace h := of_lt h e32
  have hs33 : Sh τ61 := by rw [e32]; exact hs28
  obtain ⟨g34, h⟩ := of_gd h
  refine ⟨g34, ?_⟩
  obtain ⟨g35, h⟩ := of_gd h
  refine ⟨g35, ?_⟩
  obtain ⟨g36, h⟩ := of_gd h
  refine ⟨g36, ?_⟩
  refine ⟨Nat.le_trans (by decide) hD, ?_⟩
  intro τ70 e37
  replace h := of_lt h e37
  have hs38 : Sh τ70 := by rw [e37]; exact hs33
  obtain ⟨g39, h⟩ := of_gd h
  refine ⟨g39, ?_⟩
  obtain ⟨g40, h⟩ := of_gd h
  refine ⟨g40, ?_⟩
  obtain ⟨g41, h⟩ := of_gd h
  refine ⟨g41, ?_⟩
  refine ⟨Nat.le_trans (by decide) hD, ?_⟩
  intro τ79 e42
  replace h := of_lt h e42
  have hs43 : Sh τ79 := by rw [e42]; exact hs38
  exact ret_v h
theorem f_X7_copyFrom {X : Sx} {l : Launch} {x0 : Nat} {x1 : Nat} {x2 : Int32} {σ : AH} {σ' : AH} (hs : Sh σ) (hmx0 : x0 ∈ siteIds) (hmx1 : x1 ∈ siteIds) (h : F_X7_copyFrom x0 x1 x2 σ = some σ') : Call X l m_X7_copyFrom 1 [.ref x0, .ref x1, .int x2] σ none σ' :=
  Call.ofE ok_X7_copyFrom rfl (Nat.le_of_ble_eq_true rfl) (w_X7_copyFrom_0 hs hmx0 hmx1 (t_X7_copyFrom_0 (Nat.le_refl _) hs hmx0 hmx1 h))
def F_X1_tellStarts_43 (k_X1_tellStarts_2 : Int32 → Int32 → AH → Option AH) (x1 : Int32) (x2 : Int32) (σ : AH) : Option AH := (k_X1_tellStarts_2 x1 (x2 + 1) σ)
def B_X1_tellStarts_2 (k_X1_tellStarts_2 : Int32 → Int32 → AH → Option AH) (x1 : Int32) (x2 : Int32) (σ : AH) : Option AH := (if (gI σ 68 3) ≤ x2 then (some σ) else (if inB x2 6 = true then (if (gI σ 81 x2.toNatClampNeg) = (x1 + (1 : Int32)) then (if inB x2 6 = true then (bv (F_X10_tellStart (gI σ 69 x2.toNatClampNeg) ((gI σ 68 4) + (x1 * (4 : Int32))) σ) fun σ4 => (F_X1_tellStarts_43 k_X1_tellStarts_2 x1 x2 σ4)) else none) else (F_X1_tellStarts_43 k_X1_tellStarts_2 x1 x2 σ)) else none))
def F_X1_tellStarts_2 : Nat → Int32 → Int32 → AH → Option AH := fun k => match k with | 0 => fun _ _ _ => none | k + 1 => B_X1_tellStarts_2 (F_X1_tellStarts_2 k)
def F_X1_tellStarts (x1 : Int32) (σ : AH) : Option AH := (F_X1_tellStarts_2 BIG x1 (0 : Int32) σ)
set_option maxRecDepth 100000 in
theorem t_X1_tellStarts_43 {X : Sx} {l : Launch} {D : Nat} {k_X1_tellStarts_2 : Int32 → Int32 → AH → Option AH} {x1 : Int32} {x2 : Int32} {σ : AH} {σ' : AH} (hD : 1 ≤ D) (hk_X1_tellStarts_2 : ∀ (x1 : Int32) (x2 : Int32) (σ : AH) (σ' : AH), Sh σ → k_X1_tellStarts_2 x1 x2 σ = some σ' → E X l m_X1_tellStarts D 2 [(0, .ref 68), (1, .int x1), (2, .int x2)] [] σ none σ') (hs : Sh σ) (h : F_X1_tellStarts_43 k_X1_tellStarts_2 x1 x2 σ = some σ') : W_X1_tellStarts_43 X l D x1 x2 σ none σ' := by
  unfold F_X1_tellStarts_43 at h
  unfold W_X1_tellStarts_43
  exact hk_X1_tellStarts_2 _ _ _ _ hs  h
set_option maxRecDepth 100000 in
theorem t_X1_tellStarts_2 {X : Sx} {l : Launch} {D : Nat} {k_X1_tellStarts_2 : Int32 → Int32 → AH → Option AH} {x1 : Int32} {x2 : Int32} {σ : AH} {σ' : AH} (hD : 1 ≤ D) (hk_X1_tellStarts_2 : ∀ (x1 : Int32) (x2 : Int32) (σ : AH) (σ' : AH), Sh σ → k_X1_tellStarts_2 x1 x2 σ = some σ' → E X l m_X1_tellStarts D 2 [(0, .ref 68), (1, .int x1), (2, .int x2)] [] σ none σ') (hs : Sh σ) (h : B_X1_tellStarts_2 k_X1_tellStarts_2 x1 x2 σ = some σ') : W_X1_tellStarts_2 X l D x1 x2 σ none σ' := by
  unfold B_X1_tellStarts_2 at h
  unfold W_X1_tellStarts_2
  refine ite_i (fun c1 => ?_) (fun c1 => ?_)
  · replace h := of_ifp h c1
    exact ret_v h
  · replace h := of_ifn h c1
    obtain ⟨g2, h⟩ := of_gd h
    refine ⟨(inB_mp g2), ?_⟩
    refine ite_i (fun c3 => ?_) (fun c3 => ?_)
    · replace h := of_ifp h c3
      obtain ⟨g4, h⟩ := of_gd h
      refine ⟨(inB_mp g4), ?_⟩
      obtain ⟨σ4, q5, h⟩ := of_bv h
      have hC6 := f_X10_tellStart (σ := σ) hs  q5 (X := X) (l := l)
      have hs7 := hC6.1.2.2.2.1 hs
      refine ⟨0, σ4, (Nat.le_trans (by decide) hD), hC6, ?_⟩
      exact t_X1_tellStarts_43 hD hk_X1_tellStarts_2 hs7  h
    · replace h := of_ifn h c3
      exact t_X1_tellStarts_43 hD hk_X1_tellStarts_2 hs  h
theorem e_X1_tellStarts_2 {X : Sx} {l : Launch} {D : Nat} (hD : 1 ≤ D) : ∀ (k : Nat) (x1 : Int32) (x2 : Int32) (σ : AH) (σ' : AH), Sh σ → F_X1_tellStarts_2 k x1 x2 σ = some σ' → E X l m_X1_tellStarts D 2 [(0, .ref 68), (1, .int x1), (2, .int x2)] [] σ none σ' := by
  intro k
  induction k with
  | zero => intro x1 x2 σ σ' hs h; cases h
  | succ k ih =>
    intro x1 x2 σ σ' hs h
    exact w_X1_tellStarts_2 hs  (t_X1_tellStarts_2 hD ih hs  h)
set_option maxRecDepth 100000 in
theorem t_X1_tellStarts_0 {X : Sx} {l : Launch} {D : Nat} {x1 : Int32} {σ : AH} {σ' : AH} (hD : 1 ≤ D) (hs : Sh σ) (h : F_X1_tellStarts x1 σ = some σ') : W_X1_tellStarts_0 X l D x1 σ none σ' := by
  unfold F_X1_tellStarts at h
  unfold W_X1_tellStarts_0
  exact e_X1_tellStarts_2 hD  _ _ _ _ _ hs  h
theorem f_X1_tellStarts {X : Sx} {l : Launch} {x1 : Int32} {σ : AH} {σ' : AH} (hs : Sh σ) (h : F_X1_tellStarts x1 σ = some σ') : Call X l m_X1_tellStarts 1 [.ref 68, .int x1] σ none σ' :=
  Call.ofE ok_X1_tellStarts rfl (Nat.le_of_ble_eq_true rfl) (w_X1_tellStarts_0 hs  (t_X1_tellStarts_0 (Nat.le_refl _) hs  h))
def F_X10_dropStart (x1 : Int32) (σ : AH) : Option AH := (if inB x1 30 = true then (if (gI σ 38 x1.toNatClampNeg) = (-1 : Int32) then (some σ) else (if inB x1 30 = true then (if inB (gI σ 38 x1.toNatClampNeg) 260 = true then (if inB (gI σ 38 x1.toNatClampNeg) 260 = true then (if inB x1 30 = true then (lt (sI (sI σ 39 ((gI σ 38 x1.toNatClampNeg).toNatClampNeg) ((gI σ 39 (gI σ 38 x1.toNatClampNeg).toNatClampNeg) - (1 : Int32))) 38 x1.toNatClampNeg (-1 : Int32)) fun τ6 => (some τ6)) else none) else none) else none) else none)) else none)
set_option maxRecDepth 100000 in
theorem t_X10_dropStart_0 {X : Sx} {l : Launch} {D : Nat} {x1 : Int32} {σ : AH} {σ' : AH} (hD : 0 ≤ D) (hs : Sh σ) (h : F_X10_dropStart x1 σ = some σ') : W_X10_dropStart_0 X l D x1 σ none σ' := by
  unfold F_X10_dropStart at h
  unfold W_X10_dropStart_0
  obtain ⟨g1, h⟩ := of_gd h
  refine ⟨(inB_mp g1), ?_⟩
  refine ite_i (fun c2 => ?_) (fun c2 => ?_)
  · replace h := of_ifp h c2
    exact ret_v h
  · replace h := of_ifn h c2
    obtain ⟨g3, h⟩ := of_gd h
    refine ⟨(inB_mp g3), ?_⟩
    obtain ⟨g4, h⟩ := of_gd h
    refine ⟨(inB_mp g4), ?_⟩
    obtain ⟨g5, h⟩ := of_gd h
    refine ⟨(inB_mp g5), ?_⟩
    obtain ⟨g6, h⟩ := of_gd h
    refine ⟨(inB_mp g6), ?_⟩
    intro τ6 e7
    replace h := of_lt h e7
    have hs8 : Sh τ6 := by rw [e7]; exact hs
    exact ret_v h
theorem f_X10_dropStart {X : Sx} {l : Launch} {x1 : Int32} {σ : AH} {σ' : AH} (hs : Sh σ) (h : F_X10_dropStart x1 σ = some σ') : Call X l m_X10_dropStart 0 [.ref 34, .int x1] σ none σ' :=
  Call.ofE ok_X10_dropStart rfl (Nat.le_of_ble_eq_true rfl) (w_X10_dropStart_0 hs  (t_X10_dropStart_0 (Nat.le_refl _) hs  h))
def B_X1_dropStarts_2 (k_X1_dropStarts_2 : Int32 → AH → Option AH) (x1 : Int32) (σ : AH) : Option AH := (if (gI σ 68 3) ≤ x1 then (some σ) else (if inB x1 6 = true then (bv (F_X10_dropStart (gI σ 69 x1.toNatClampNeg) σ) fun σ3 => (k_X1_dropStarts_2 (x1 + 1) σ3)) else none))
def F_X1_dropStarts_2 : Nat → Int32 → AH → Option AH := fun k => match k with | 0 => fun _ _ => none | k + 1 => B_X1_dropStarts_2 (F_X1_dropStarts_2 k)
def F_X1_dropStarts (σ : AH) : Option AH := (F_X1_dropStarts_2 BIG (0 : Int32) σ)
set_option maxRecDepth 100000 in
theorem t_X1_dropStarts_2 {X : Sx} {l : Launch} {D : Nat} {k_X1_dropStarts_2 : Int32 → AH → Option AH} {x1 : Int32} {σ : AH} {σ' : AH} (hD : 1 ≤ D) (hk_X1_dropStarts_2 : ∀ (x1 : Int32) (σ : AH) (σ' : AH), Sh σ → k_X1_dropStarts_2 x1 σ = some σ' → E X l m_X1_dropStarts D 2 [(0, .ref 68), (1, .int x1)] [] σ none σ') (hs : Sh σ) (h : B_X1_dropStarts_2 k_X1_dropStarts_2 x1 σ = some σ') : W_X1_dropStarts_2 X l D x1 σ none σ' := by
  unfold B_X1_dropStarts_2 at h
  unfold W_X1_dropStarts_2
  refine ite_i (fun c1 => ?_) (fun c1 => ?_)
  · replace h := of_ifp h c1
    exact ret_v h
  · replace h := of_ifn h c1
    obtain ⟨g2, h⟩ := of_gd h
    refine ⟨(inB_mp g2), ?_⟩
    obtain ⟨σ3, q3, h⟩ := of_bv h
    have hC4 := f_X10_dropStart (σ := σ) hs  q3 (X := X) (l := l)
    have hs5 := hC4.1.2.2.2.1 hs
    refine ⟨0, σ3, (Nat.le_trans (by decide) hD), hC4, ?_⟩
    exact hk_X1_dropStarts_2 _ _ _ hs5  h
theorem e_X1_dropStarts_2 {X : Sx} {l : Launch} {D : Nat} (hD : 1 ≤ D) : ∀ (k : Nat) (x1 : Int32) (σ : AH) (σ' : AH), Sh σ → F_X1_dropStarts_2 k x1 σ = some σ' → E X l m_X1_dropStarts D 2 [(0, .ref 68), (1, .int x1)] [] σ none σ' := by
  intro k
  induction k with
  | zero => intro x1 σ σ' hs h; cases h
  | succ k ih =>
    intro x1 σ σ' hs h
    exact w_X1_dropStarts_2 hs  (t_X1_dropStarts_2 hD ih hs  h)
set_option maxRecDepth 100000 in
theorem t_X1_dropStarts_0 {X : Sx} {l : Launch} {D : Nat} {σ : AH} {σ' : AH} (hD : 1 ≤ D) (hs : Sh σ) (h : F_X1_dropStarts σ = some σ') : W_X1_dropStarts_0 X l D σ none σ' := by
  unfold F_X1_dropStarts at h
  unfold W_X1_dropStarts_0
  exact e_X1_dropStarts_2 hD  _ _ _ _ hs  h
theorem f_X1_dropStarts {X : Sx} {l : Launch} {σ : AH} {σ' : AH} (hs : Sh σ) (h : F_X1_dropStarts σ = some σ') : Call X l m_X1_dropStarts 1 [.ref 68] σ none σ' :=
  Call.ofE ok_X1_dropStarts rfl (Nat.le_of_ble_eq_true rfl) (w_X1_dropStarts_0 hs  (t_X1_dropStarts_0 (Nat.le_refl _) hs  h))
def B_X1_playRow_48 (k_X1_playRow_48 : Nat → Int32 → AH → Option (Nat × AH)) (x1 : Nat) (x2 : Int32) (σ : AH) : Option (Nat × AH) := (if ((gI σ 68 4) + (13 : Int32)) ≤ x2 then (bv (F_X1_dropStarts σ) fun σ24 => (some (x1, σ24))) else (bv (F_X10_passWeek x1 x2 σ) fun σ29 => (k_X1_playRow_48 x1 (x2 + 1) σ29)))
def F_X1_playRow_48 : Nat → Nat → Int32 → AH → Option (Nat × AH) := fun k => match k with | 0 => fun _ _ _ => none | k + 1 => B_X1_playRow_48 (F_X1_playRow_48 k)
def B_X1_playRow_27 (k_X1_playRow_27 : Nat → Int32 → AH → Option (Nat × AH)) (x1 : Nat) (x2 : Int32) (σ : AH) : Option (Nat × AH) := (if (3 : Int32) ≤ x2 then (F_X1_playRow_48 BIG x1 (gI σ 68 4) σ) else (bv (F_X1_tellStarts x2 σ) fun σ19 => (k_X1_playRow_27 x1 (x2 + 1) σ19)))
def F_X1_playRow_27 : Nat → Nat → Int32 → AH → Option (Nat × AH) := fun k => match k with | 0 => fun _ _ _ => none | k + 1 => B_X1_playRow_27 (F_X1_playRow_27 k)
def F_X1_playRow (σ : AH) : Option (Nat × AH) := (if inB (0 : Int32) 3 = true then (bo (gR σ 80 (0 : Int32).toNatClampNeg) fun b1 => if b1 ∈ siteIds then (bd (F_X8_rows 9 σ) fun v12 σ8 => (bv (F_X7_copyFrom b1 70 v12 σ8) fun σ14 => (F_X1_playRow_27 BIG b1 (0 : Int32) σ14))) else none) else none)
set_option maxRecDepth 100000 in
theorem t_X1_playRow_48 {X : Sx} {l : Launch} {D : Nat} {k_X1_playRow_48 : Nat → Int32 → AH → Option (Nat × AH)} {x1 : Nat} {x2 : Int32} {σ : AH} {v : Nat} {σ' : AH} (hD : 6 ≤ D) (hk_X1_playRow_48 : ∀ (x1 : Nat) (x2 : Int32) (σ : AH) (v : Nat) (σ' : AH), Sh σ → x1 ∈ siteIds → k_X1_playRow_48 x1 x2 σ = some (v, σ') → E X l m_X1_playRow D 48 [(0, .ref 68), (1, .ref x1), (2, .int x2)] [] σ (some (.ref v)) σ') (hs : Sh σ) (hmx1 : x1 ∈ siteIds) (h : B_X1_playRow_48 k_X1_playRow_48 x1 x2 σ = some (v, σ')) : W_X1_playRow_48 X l D x1 x2 σ (some (.ref v)) σ' := by
  unfold B_X1_playRow_48 at h
  unfold W_X1_playRow_48
  refine ite_i (fun c1 => ?_) (fun c1 => ?_)
  · replace h := of_ifp h c1
    obtain ⟨σ24, q2, h⟩ := of_bv h
    have hC3 := f_X1_dropStarts (σ := σ) hs  q2 (X := X) (l := l)
    have hs4 := hC3.1.2.2.2.1 hs
    refine ⟨1, σ24, (Nat.le_trans (by decide) hD), hC3, ?_⟩
    exact ret_r h
  · replace h := of_ifn h c1
    obtain ⟨σ29, q5, h⟩ := of_bv h
    have hC6 := f_X10_passWeek (σ := σ) hs (by first | assumption | exact st_stock (by assumption) | exact rn_site (by assumption) | decide) q5 (X := X) (l := l)
    have hs7 := hC6.1.2.2.2.1 hs
    refine ⟨5, σ29, (Nat.le_trans (by decide) hD), hC6, ?_⟩
    exact hk_X1_playRow_48 _ _ _ _ _ hs7 (by first | assumption | exact st_stock (by assumption) | exact rn_site (by assumption) | decide) h
theorem e_X1_playRow_48 {X : Sx} {l : Launch} {D : Nat} (hD : 6 ≤ D) : ∀ (k : Nat) (x1 : Nat) (x2 : Int32) (σ : AH) (v : Nat) (σ' : AH), Sh σ → x1 ∈ siteIds → F_X1_playRow_48 k x1 x2 σ = some (v, σ') → E X l m_X1_playRow D 48 [(0, .ref 68), (1, .ref x1), (2, .int x2)] [] σ (some (.ref v)) σ' := by
  intro k
  induction k with
  | zero => intro x1 x2 σ v σ' hs hmx1 h; cases h
  | succ k ih =>
    intro x1 x2 σ v σ' hs hmx1 h
    exact w_X1_playRow_48 hs hmx1 (t_X1_playRow_48 hD ih hs hmx1 h)
set_option maxRecDepth 100000 in
theorem t_X1_playRow_27 {X : Sx} {l : Launch} {D : Nat} {k_X1_playRow_27 : Nat → Int32 → AH → Option (Nat × AH)} {x1 : Nat} {x2 : Int32} {σ : AH} {v : Nat} {σ' : AH} (hD : 6 ≤ D) (hk_X1_playRow_27 : ∀ (x1 : Nat) (x2 : Int32) (σ : AH) (v : Nat) (σ' : AH), Sh σ → x1 ∈ siteIds → k_X1_playRow_27 x1 x2 σ = some (v, σ') → E X l m_X1_playRow D 27 [(0, .ref 68), (1, .ref x1), (2, .int x2)] [] σ (some (.ref v)) σ') (hs : Sh σ) (hmx1 : x1 ∈ siteIds) (h : B_X1_playRow_27 k_X1_playRow_27 x1 x2 σ = some (v, σ')) : W_X1_playRow_27 X l D x1 x2 σ (some (.ref v)) σ' := by
  unfold B_X1_playRow_27 at h
  unfold W_X1_playRow_27
  refine ite_i (fun c1 => ?_) (fun c1 => ?_)
  · replace h := of_ifp h c1
    exact e_X1_playRow_48 hD  _ _ _ _ _ _ hs (by first | assumption | exact st_stock (by assumption) | exact rn_site (by assumption) | decide) h
  · replace h := of_ifn h c1
    obtain ⟨σ19, q2, h⟩ := of_bv h
    have hC3 := f_X1_tellStarts (σ := σ) hs  q2 (X := X) (l := l)
    have hs4 := hC3.1.2.2.2.1 hs
    refine ⟨1, σ19, (Nat.le_trans (by decide) hD), hC3, ?_⟩
    exact hk_X1_playRow_27 _ _ _ _ _ hs4 (by first | assumption | exact st_stock (by assumption) | exact rn_site (by assumption) | decide) h
theorem e_X1_playRow_27 {X : Sx} {l : Launch} {D : Nat} (hD : 6 ≤ D) : ∀ (k : Nat) (x1 : Nat) (x2 : Int32) (σ : AH) (v : Nat) (σ' : AH), Sh σ → x1 ∈ siteIds → F_X1_playRow_27 k x1 x2 σ = some (v, σ') → E X l m_X1_playRow D 27 [(0, .ref 68), (1, .ref x1), (2, .int x2)] [] σ (some (.ref v)) σ' := by
  intro k
  induction k with
  | zero => intro x1 x2 σ v σ' hs hmx1 h; cases h
  | succ k ih =>
    intro x1 x2 σ v σ' hs hmx1 h
    exact w_X1_playRow_27 hs hmx1 (t_X1_playRow_27 hD ih hs hmx1 h)
set_option maxRecDepth 100000 in
theorem t_X1_playRow_0 {X : Sx} {l : Launch} {D : Nat} {σ : AH} {v : Nat} {σ' : AH} (hD : 6 ≤ D) (hs : Sh σ) (h : F_X1_playRow σ = some (v, σ')) : W_X1_playRow_0 X l D σ (some (.ref v)) σ' := by
  unfold F_X1_playRow at h
  unfold W_X1_playRow_0
  obtain ⟨g1, h⟩ := of_gd h
  refine ⟨(inB_mp g1), ?_⟩
  obtain ⟨b1, e3, h⟩ := of_bo h
  obtain ⟨g2, h⟩ := of_gd h
  refine ⟨b1, e3, g2, ?_⟩
  obtain ⟨v12, σ8, q4, h⟩ := of_bd h
  have hC5 := f_X8_rows  q4 (X := X) (l := l)
  have hs6 := hC5.1.2.2.2.1 hs
  refine ⟨0, v12, σ8, (Nat.le_trans (by decide) hD), hC5, ?_⟩
  obtain ⟨σ14, q7, h⟩ := of_bv h
  have hC8 := f_X7_copyFrom (σ := σ8) hs6 (by first | assumption | exact st_stock (by assumption) | exact rn_site (by assumption) | decide) (by first | assumption | exact st_stock (by assumption) | exact rn_site (by assumption) | decide) q7 (X := X) (l := l)
  have hs9 := hC8.1.2.2.2.1 hs6
  refine ⟨1, σ14, (Nat.le_trans (by decide) hD), hC8, ?_⟩
  exact e_X1_playRow_27 hD  _ _ _ _ _ _ hs9 (by first | assumption | exact st_stock (by assumption) | exact rn_site (by assumption) | decide) h
theorem f_X1_playRow {X : Sx} {l : Launch} {σ : AH} {v : Nat} {σ' : AH} (hs : Sh σ) (h : F_X1_playRow σ = some (v, σ')) : Call X l m_X1_playRow 6 [.ref 68] σ (some (.ref v)) σ' :=
  Call.ofE ok_X1_playRow rfl (Nat.le_of_ble_eq_true rfl) (w_X1_playRow_0 hs  (t_X1_playRow_0 (Nat.le_refl _) hs  h))
def F_X1_isAmong (x0 : Int32) (x1 : Int32) (σ : AH) : Option (Int32 × AH) := (if ((x1 >>> (x0 &&& 31)) &&& (1 : Int32)) = 0 then (some ((0 : Int32), σ)) else (some ((1 : Int32), σ)))
set_option maxRecDepth 100000 in
theorem t_X1_isAmong_0 {X : Sx} {l : Launch} {D : Nat} {x0 : Int32} {x1 : Int32} {σ : AH} {v : Int32} {σ' : AH} (hD : 0 ≤ D) (hs : Sh σ) (h : F_X1_isAmong x0 x1 σ = some (v, σ')) : W_X1_isAmong_0 X l D x0 x1 σ (some (.int v)) σ' := by
  unfold F_X1_isAmong at h
  unfold W_X1_isAmong_0
  refine ite_i (fun c1 => ?_) (fun c1 => ?_)
  · replace h := of_ifp h c1
    exact ret_i h
  · replace h := of_ifn h c1
    exact ret_i h
theorem f_X1_isAmong {X : Sx} {l : Launch} {x0 : Int32} {x1 : Int32} {σ : AH} {v : Int32} {σ' : AH} (hs : Sh σ) (h : F_X1_isAmong x0 x1 σ = some (v, σ')) : Call X l m_X1_isAmong 0 [.int x0, .int x1] σ (some (.int v)) σ' :=
  Call.ofE ok_X1_isAmong rfl (Nat.le_of_ble_eq_true rfl) (w_X1_isAmong_0 hs  (t_X1_isAmong_0 (Nat.le_refl _) hs  h))
def F_X1_putTime_47 (k_X1_putTime_2 : Int32 → Int32 → Int32 → AH → Option AH) (x1 : Int32) (x2 : Int32) (x3 : Int32) (σ : AH) : Option AH := (k_X1_putTime_2 x1 x2 (x3 + 1) σ)
def B_X1_putTime_2 (k_X1_putTime_2 : Int32 → Int32 → Int32 → AH → Option AH) (x1 : Int32) (x2 : Int32) (x3 : Int32) (σ : AH) : Option AH := (if (gI σ 68 3) ≤ x3 then (some σ) else (bd (F_X1_isAmong x3 x2 σ) fun v6 σ2 => (if v6 = 0 then (if inB x3 6 = true then (if (gI σ2 81 x3.toNatClampNeg) ≤ x1 then (F_X1_putTime_47 k_X1_putTime_2 x1 x2 x3 σ2) else (if inB x3 6 = true then (F_X1_putTime_47 k_X1_putTime_2 x1 x2 x3 (sI σ2 81 x3.toNatClampNeg (0 : Int32))) else none)) else none) else (if inB x3 6 = true then (F_X1_putTime_47 k_X1_putTime_2 x1 x2 x3 (sI σ2 81 x3.toNatClampNeg (x1 + (1 : Int32)))) else none))))
def F_X1_putTime_2 : Nat → Int32 → Int32 → Int32 → AH → Option AH := fun k => match k with | 0 => fun _ _ _ _ => none | k + 1 => B_X1_putTime_2 (F_X1_putTime_2 k)
def F_X1_putTime (x1 : Int32) (x2 : Int32) (σ : AH) : Option AH := (F_X1_putTime_2 BIG x1 x2 (0 : Int32) σ)
set_option maxRecDepth 100000 in
theorem t_X1_putTime_47 {X : Sx} {l : Launch} {D : Nat} {k_X1_putTime_2 : Int32 → Int32 → Int32 → AH → Option AH} {x1 : Int32} {x2 : Int32} {x3 : Int32} {σ : AH} {σ' : AH} (hD : 1 ≤ D) (hk_X1_putTime_2 : ∀ (x1 : Int32) (x2 : Int32) (x3 : Int32) (σ : AH) (σ' : AH), Sh σ → k_X1_putTime_2 x1 x2 x3 σ = some σ' → E X l m_X1_putTime D 2 [(0, .ref 68), (1, .int x1), (2, .int x2), (3, .int x3)] [] σ none σ') (hs : Sh σ) (h : F_X1_putTime_47 k_X1_putTime_2 x1 x2 x3 σ = some σ') : W_X1_putTime_47 X l D x1 x2 x3 σ none σ' := by
  unfold F_X1_putTime_47 at h
  unfold W_X1_putTime_47
  exact hk_X1_putTime_2 _ _ _ _ _ hs  h
set_option maxRecDepth 100000 in
theorem t_X1_putTime_2 {X : Sx} {l : Launch} {D : Nat} {k_X1_putTime_2 : Int32 → Int32 → Int32 → AH → Option AH} {x1 : Int32} {x2 : Int32} {x3 : Int32} {σ : AH} {σ' : AH} (hD : 1 ≤ D) (hk_X1_putTime_2 : ∀ (x1 : Int32) (x2 : Int32) (x3 : Int32) (σ : AH) (σ' : AH), Sh σ → k_X1_putTime_2 x1 x2 x3 σ = some σ' → E X l m_X1_putTime D 2 [(0, .ref 68), (1, .int x1), (2, .int x2), (3, .int x3)] [] σ none σ') (hs : Sh σ) (h : B_X1_putTime_2 k_X1_putTime_2 x1 x2 x3 σ = some σ') : W_X1_putTime_2 X l D x1 x2 x3 σ none σ' := by
  unfold B_X1_putTime_2 at h
  unfold W_X1_putTime_2
  refine ite_i (fun c1 => ?_) (fun c1 => ?_)
  · replace h := of_ifp h c1
    exact ret_v h
  · replace h := of_ifn h c1
    obtain ⟨v6, σ2, q2, h⟩ := of_bd h
    have hC3 := f_X1_isAmong (σ := σ) hs  q2 (X := X) (l := l)
    have hs4 := hC3.1.2.2.2.1 hs
    refine ⟨0, v6, σ2, (Nat.le_trans (by decide) hD), hC3, ?_⟩
    refine ite_i (fun c5 => ?_) (fun c5 => ?_)
    · replace h := of_ifp h c5
      obtain ⟨g6, h⟩ := of_gd h
      refine ⟨(inB_mp g6), ?_⟩
      refine ite_i (fun c7 => ?_) (fun c7 => ?_)
      · replace h := of_ifp h c7
        exact t_X1_putTime_47 hD hk_X1_putTime_2 hs4  h
      · replace h := of_ifn h c7
        obtain ⟨g8, h⟩ := of_gd h
        refine ⟨(inB_mp g8), ?_⟩
        exact t_X1_putTime_47 hD hk_X1_putTime_2 hs4  h
    · replace h := of_ifn h c5
      obtain ⟨g9, h⟩ := of_gd h
      refine ⟨(inB_mp g9), ?_⟩
      exact t_X1_putTime_47 hD hk_X1_putTime_2 hs4  h
theorem e_X1_putTime_2 {X : Sx} {l : Launch} {D : Nat} (hD : 1 ≤ D) : ∀ (k : Nat) (x1 : Int32) (x2 : Int32) (x3 : Int32) (σ : AH) (σ' : AH), Sh σ → F_X1_putTime_2 k x1 x2 x3 σ = some σ' → E X l m_X1_putTime D 2 [(0, .ref 68), (1, .int x1), (2, .int x2), (3, .int x3)] [] σ none σ' := by
  intro k
  induction k with
  | zero => intro x1 x2 x3 σ σ' hs h; cases h
  | succ k ih =>
    intro x1 x2 x3 σ σ' hs h
    exact w_X1_putTime_2 hs  (t_X1_putTime_2 hD ih hs  h)
set_option maxRecDepth 100000 in
theorem t_X1_putTime_0 {X : Sx} {l : Launch} {D : Nat} {x1 : Int32} {x2 : Int32} {σ : AH} {σ' : AH} (hD : 1 ≤ D) (hs : Sh σ) (h : F_X1_putTime x1 x2 σ = some σ') : W_X1_putTime_0 X l D x1 x2 σ none σ' := by
  unfold F_X1_putTime at h
  unfold W_X1_putTime_0
  exact e_X1_putTime_2 hD  _ _ _ _ _ _ hs  h
theorem f_X1_putTime {X : Sx} {l : Launch} {x1 : Int32} {x2 : Int32} {σ : AH} {σ' : AH} (hs : Sh σ) (h : F_X1_putTime x1 x2 σ = some σ') : Call X l m_X1_putTime 1 [.ref 68, .int x1, .int x2] σ none σ' :=
  Call.ofE ok_X1_putTime rfl (Nat.le_of_ble_eq_true rfl) (w_X1_putTime_0 hs  (t_X1_putTime_0 (Nat.le_refl _) hs  h))
def B_X1_playTime_81 (k_X1_playTime_81 : Int32 → Int32 → Int32 → AH → Option AH) (x1 : Int32) (x4 : Int32) (x5 : Int32) (σ : AH) : Option AH := (if x4 ≤ x5 then (bv (F_X1_dropStarts σ) fun σ51 => (some σ51)) else (if inB x1 3 = true then (bo (gR σ 80 x1.toNatClampNeg) fun b55 => if b55 ∈ siteIds then (bv (F_X10_passWeek b55 x5 σ) fun σ62 => (k_X1_playTime_81 x1 x4 (x5 + 1) σ62)) else none) else none))
def F_X1_playTime_81 : Nat → Int32 → Int32 → Int32 → AH → Option AH := fun k => match k with | 0 => fun _ _ _ _ => none | k + 1 => B_X1_playTime_81 (F_X1_playTime_81 k)
def F_X1_playTime_60b (x1 : Int32) (x3 : Int32) (x4 : Int32) (y1 : Nat) (σ : AH) : Option AH := (bd (F_X8_rows 9 σ) fun v39 σ35 => (bv (F_X7_copyFrom y1 70 v39 σ35) fun σ41 => (bv (F_X1_tellStarts x1 σ41) fun σ46 => (F_X1_playTime_81 BIG x1 x4 x3 σ46))))
def F_X1_playTime_60 (x1 : Int32) (x3 : Int32) (x4 : Int32) (y0 : Nat) (y1 : Nat) (σ : AH) : Option AH := (bd (F_X8_rows 9 σ) fun v23 σ19 => (bv (F_X7_copyFrom y1 y0 v23 σ19) fun σ25 => (bv (F_X1_tellStarts x1 σ25) fun σ30 => (F_X1_playTime_81 BIG x1 x4 x3 σ30))))
def F_X1_playTime_33 (x1 : Int32) (x3 : Int32) (y0 : Int32) (σ : AH) : Option AH := (if inB x1 3 = true then (bo (gR σ 80 x1.toNatClampNeg) fun b6 => if b6 ∈ siteIds then (if x1 = 0 then (F_X1_playTime_60b x1 x3 y0 b6 σ) else (if inB (x1 - (1 : Int32)) 3 = true then (bo (gR σ 80 (x1 - (1 : Int32)).toNatClampNeg) fun b12 => if b12 ∈ siteIds then (F_X1_playTime_60 x1 x3 y0 b12 b6 σ) else none) else none)) else none) else none)
def F_X1_playTime (x1 : Int32) (x2 : Int32) (σ : AH) : Option AH := (bv (F_X1_putTime x1 x2 σ) fun σ2 => (if x1 = (2 : Int32) then (F_X1_playTime_33 x1 ((gI σ2 68 4) + (x1 * (4 : Int32))) ((gI σ2 68 4) + (13 : Int32)) σ2) else (F_X1_playTime_33 x1 ((gI σ2 68 4) + (x1 * (4 : Int32))) (((gI σ2 68 4) + (x1 * (4 : Int32))) + (4 : Int32)) σ2)))
set_option maxRecDepth 100000 in
theorem t_X1_playTime_81 {X : Sx} {l : Launch} {D : Nat} {k_X1_playTime_81 : Int32 → Int32 → Int32 → AH → Option AH} {x1 : Int32} {x4 : Int32} {x5 : Int32} {σ : AH} {σ' : AH} (hD : 6 ≤ D) (hk_X1_playTime_81 : ∀ (x1 : Int32) (x4 : Int32) (x5 : Int32) (σ : AH) (σ' : AH), Sh σ → k_X1_playTime_81 x1 x4 x5 σ = some σ' → E X l m_X1_playTime D 81 [(0, .ref 68), (1, .int x1), (4, .int x4), (5, .int x5)] [] σ none σ') (hs : Sh σ) (h : B_X1_playTime_81 k_X1_playTime_81 x1 x4 x5 σ = some σ') : W_X1_playTime_81 X l D x1 x4 x5 σ none σ' := by
  unfold B_X1_playTime_81 at h
  unfold W_X1_playTime_81
  refine ite_i (fun c1 => ?_) (fun c1 => ?_)
  · replace h := of_ifp h c1
    obtain ⟨σ51, q2, h⟩ := of_bv h
    have hC3 := f_X1_dropStarts (σ := σ) hs  q2 (X := X) (l := l)
    have hs4 := hC3.1.2.2.2.1 hs
    refine ⟨1, σ51, (Nat.le_trans (by decide) hD), hC3, ?_⟩
    exact ret_v h
  · replace h := of_ifn h c1
    obtain ⟨g5, h⟩ := of_gd h
    refine ⟨(inB_mp g5), ?_⟩
    obtain ⟨b55, e7, h⟩ := of_bo h
    obtain ⟨g6, h⟩ := of_gd h
    refine ⟨b55, e7, g6, ?_⟩
    obtain ⟨σ62, q8, h⟩ := of_bv h
    have hC9 := f_X10_passWeek (σ := σ) hs (by first | assumption | exact st_stock (by assumption) | exact rn_site (by assumption) | decide) q8 (X := X) (l := l)
    have hs10 := hC9.1.2.2.2.1 hs
    refine ⟨5, σ62, (Nat.le_trans (by decide) hD), hC9, ?_⟩
    exact hk_X1_playTime_81 _ _ _ _ _ hs10  h
theorem e_X1_playTime_81 {X : Sx} {l : Launch} {D : Nat} (hD : 6 ≤ D) : ∀ (k : Nat) (x1 : Int32) (x4 : Int32) (x5 : Int32) (σ : AH) (σ' : AH), Sh σ → F_X1_playTime_81 k x1 x4 x5 σ = some σ' → E X l m_X1_playTime D 81 [(0, .ref 68), (1, .int x1), (4, .int x4), (5, .int x5)] [] σ none σ' := by
  intro k
  induction k with
  | zero => intro x1 x4 x5 σ σ' hs h; cases h
  | succ k ih =>
    intro x1 x4 x5 σ σ' hs h
    exact w_X1_playTime_81 hs  (t_X1_playTime_81 hD ih hs  h)
set_option maxRecDepth 100000 in
theorem t_X1_playTime_60b {X : Sx} {l : Launch} {D : Nat} {x1 : Int32} {x3 : Int32} {x4 : Int32} {y1 : Nat} {σ : AH} {σ' : AH} (hD : 6 ≤ D) (hs : Sh σ) (hmy1 : y1 ∈ siteIds) (h : F_X1_playTime_60b x1 x3 x4 y1 σ = some σ') : W_X1_playTime_60b X l D x1 x3 x4 y1 σ none σ' := by
  unfold F_X1_playTime_60b at h
  unfold W_X1_playTime_60b
  obtain ⟨v39, σ35, q1, h⟩ := of_bd h
  have hC2 := f_X8_rows  q1 (X := X) (l := l)
  have hs3 := hC2.1.2.2.2.1 hs
  refine ⟨0, v39, σ35, (Nat.le_trans (by decide) hD), hC2, ?_⟩
  obtain ⟨σ41, q4, h⟩ := of_bv h
  have hC5 := f_X7_copyFrom (σ := σ35) hs3 (by first | assumption | exact st_stock (by assumption) | exact rn_site (by assumption) | decide) (by first | assumption | exact st_stock (by assumption) | exact rn_site (by assumption) | decide) q4 (X := X) (l := l)
  have hs6 := hC5.1.2.2.2.1 hs3
  refine ⟨1, σ41, (Nat.le_trans (by decide) hD), hC5, ?_⟩
  obtain ⟨σ46, q7, h⟩ := of_bv h
  have hC8 := f_X1_tellStarts (σ := σ41) hs6  q7 (X := X) (l := l)
  have hs9 := hC8.1.2.2.2.1 hs6
  refine ⟨1, σ46, (Nat.le_trans (by decide) hD), hC8, ?_⟩
  exact e_X1_playTime_81 hD  _ _ _ _ _ _ hs9  h
set_option maxRecDepth 100000 in
theorem t_X1_playTime_60 {X : Sx} {l : Launch} {D : Nat} {x1 : Int32} {x3 : Int32} {x4 : Int32} {y0 : Nat} {y1 : Nat} {σ : AH} {σ' : AH} (hD : 6 ≤ D) (hs : Sh σ) (hmy0 : y0 ∈ siteIds) (hmy1 : y1 ∈ siteIds) (h : F_X1_playTime_60 x1 x3 x4 y0 y1 σ = some σ') : W_X1_playTime_60 X l D x1 x3 x4 y0 y1 σ none σ' := by
  unfold F_X1_playTime_60 at h
  unfold W_X1_playTime_60
  obtain ⟨v23, σ19, q1, h⟩ := of_bd h
  have hC2 := f_X8_rows  q1 (X := X) (l := l)
  have hs3 := hC2.1.2.2.2.1 hs
  refine ⟨0, v23, σ19, (Nat.le_trans (by decide) hD), hC2, ?_⟩
  obtain ⟨σ25, q4, h⟩ := of_bv h
  have hC5 := f_X7_copyFrom (σ := σ19) hs3 (by first | assumption | exact st_stock (by assumption) | exact rn_site (by assumption) | decide) (by first | assumption | exact st_stock (by assumption) | exact rn_site (by assumption) | decide) q4 (X := X) (l := l)
  have hs6 := hC5.1.2.2.2.1 hs3
  refine ⟨1, σ25, (Nat.le_trans (by decide) hD), hC5, ?_⟩
  obtain ⟨σ30, q7, h⟩ := of_bv h
  have hC8 := f_X1_tellStarts (σ := σ25) hs6  q7 (X := X) (l := l)
  have hs9 := hC8.1.2.2.2.1 hs6
  refine ⟨1, σ30, (Nat.le_trans (by decide) hD), hC8, ?_⟩
  exact e_X1_playTime_81 hD  _ _ _ _ _ _ hs9  h
set_option maxRecDepth 100000 in
theorem t_X1_playTime_33 {X : Sx} {l : Launch} {D : Nat} {x1 : Int32} {x3 : Int32} {y0 : Int32} {σ : AH} {σ' : AH} (hD : 6 ≤ D) (hs : Sh σ) (h : F_X1_playTime_33 x1 x3 y0 σ = some σ') : W_X1_playTime_33 X l D x1 x3 y0 σ none σ' := by
  unfold F_X1_playTime_33 at h
  unfold W_X1_playTime_33
  obtain ⟨g1, h⟩ := of_gd h
  refine ⟨(inB_mp g1), ?_⟩
  obtain ⟨b6, e3, h⟩ := of_bo h
  obtain ⟨g2, h⟩ := of_gd h
  refine ⟨b6, e3, g2, ?_⟩
  refine ite_i (fun c4 => ?_) (fun c4 => ?_)
  · replace h := of_ifp h c4
    exact t_X1_playTime_60b hD  hs (by first | assumption | exact st_stock (by assumption) | exact rn_site (by assumption) | decide) h
  · replace h := of_ifn h c4
    obtain ⟨g5, h⟩ := of_gd h
    refine ⟨(inB_mp g5), ?_⟩
    obtain ⟨b12, e7, h⟩ := of_bo h
    obtain ⟨g6, h⟩ := of_gd h
    refine ⟨b12, e7, g6, ?_⟩
    exact t_X1_playTime_60 hD  hs (by first | assumption | exact st_stock (by assumption) | exact rn_site (by assumption) | decide) (by first | assumption | exact st_stock (by assumption) | exact rn_site (by assumption) | decide) h
set_option maxRecDepth 100000 in
theorem t_X1_playTime_0 {X : Sx} {l : Launch} {D : Nat} {x1 : Int32} {x2 : Int32} {σ : AH} {σ' : AH} (hD : 6 ≤ D) (hs : Sh σ) (h : F_X1_playTime x1 x2 σ = some σ') : W_X1_playTime_0 X l D x1 x2 σ none σ' := by
  unfold F_X1_playTime at h
  unfold W_X1_playTime_0
  obtain ⟨σ2, q1, h⟩ := of_bv h
  have hC2 := f_X1_putTime (σ := σ) hs  q1 (X := X) (l := l)
  have hs3 := hC2.1.2.2.2.1 hs
  refine ⟨1, σ2, (Nat.le_trans (by decide) hD), hC2, ?_⟩
  refine ite_i (fun c4 => ?_) (fun c4 => ?_)
  · replace h := of_ifp h c4
    exact t_X1_playTime_33 hD  hs3  h
  · replace h := of_ifn h c4
    exact t_X1_playTime_33 hD  hs3  h
theorem f_X1_playTime {X : Sx} {l : Launch} {x1 : Int32} {x2 : Int32} {σ : AH} {σ' : AH} (hs : Sh σ) (h : F_X1_playTime x1 x2 σ = some σ') : Call X l m_X1_playTime 6 [.ref 68, .int x1, .int x2] σ none σ' :=
  Call.ofE ok_X1_playTime rfl (Nat.le_of_ble_eq_true rfl) (w_X1_playTime_0 hs  (t_X1_playTime_0 (Nat.le_refl _) hs  h))
def F_X1_roomsOf (x1 : Int32) (σ : AH) : Option (Int32 × AH) := (if inB x1 6 = true then (bd (F_X8_at 9 (gI σ 69 x1.toNatClampNeg) (2 : Int32) σ) fun v7 σ3 => (some (v7, σ3))) else none)
set_option maxRecDepth 100000 in
theorem t_X1_roomsOf_0 {X : Sx} {l : Launch} {D : Nat} {x1 : Int32} {σ : AH} {v : Int32} {σ' : AH} (hD : 1 ≤ D) (hs : Sh σ) (h : F_X1_roomsOf x1 σ = some (v, σ')) : W_X1_roomsOf_0 X l D x1 σ (some (.int v)) σ' := by
  unfold F_X1_roomsOf at h
  unfold W_X1_roomsOf_0
  obtain ⟨g1, h⟩ := of_gd h
  refine ⟨(inB_mp g1), ?_⟩
  obtain ⟨v7, σ3, q2, h⟩ := of_bd h
  have hC3 := f_X8_at  q2 (X := X) (l := l)
  have hs4 := hC3.1.2.2.2.1 hs
  refine ⟨0, v7, σ3, (Nat.le_trans (by decide) hD), hC3, ?_⟩
  exact ret_i h
theorem f_X1_roomsOf {X : Sx} {l : Launch} {x1 : Int32} {σ : AH} {v : Int32} {σ' : AH} (hs : Sh σ) (h : F_X1_roomsOf x1 σ = some (v, σ')) : Call X l m_X1_roomsOf 1 [.ref 68, .int x1] σ (some (.int v)) σ' :=
  Call.ofE ok_X1_roomsOf rfl (Nat.le_of_ble_eq_true rfl) (w_X1_roomsOf_0 hs  (t_X1_roomsOf_0 (Nat.le_refl _) hs  h))
def F_X1_roomsOfAll_30 (k_X1_roomsOfAll_4 : Int32 → Int32 → Int32 → AH → Option (Int32 × AH)) (x1 : Int32) (x3 : Int32) (y0 : Int32) (y1 : Int32) (σ : AH) : Option (Int32 × AH) := (k_X1_roomsOfAll_4 x1 (y1 + y0) (x3 + 1) σ)
def B_X1_roomsOfAll_4 (k_X1_roomsOfAll_4 : Int32 → Int32 → Int32 → AH → Option (Int32 × AH)) (x1 : Int32) (x2 : Int32) (x3 : Int32) (σ : AH) : Option (Int32 × AH) := (if (gI σ 68 3) ≤ x3 then (some (x2, σ)) else (bd (F_X1_isAmong x3 x1 σ) fun v6 σ2 => (if v6 = 0 then (F_X1_roomsOfAll_30 k_X1_roomsOfAll_4 x1 x3 (0 : Int32) x2 σ2) else (bd (F_X1_roomsOf x3 σ2) fun v12 σ8 => (F_X1_roomsOfAll_30 k_X1_roomsOfAll_4 x1 x3 v12 x2 σ8)))))
def F_X1_roomsOfAll_4 : Nat → Int32 → Int32 → Int32 → AH → Option (Int32 × AH) := fun k => match k with | 0 => fun _ _ _ _ => none | k + 1 => B_X1_roomsOfAll_4 (F_X1_roomsOfAll_4 k)
def F_X1_roomsOfAll (x1 : Int32) (σ : AH) : Option (Int32 × AH) := (F_X1_roomsOfAll_4 BIG x1 (0 : Int32) (0 : Int32) σ)
set_option maxRecDepth 100000 in
theorem t_X1_roomsOfAll_30 {X : Sx} {l : Launch} {D : Nat} {k_X1_roomsOfAll_4 : Int32 → Int32 → Int32 → AH → Option (Int32 × AH)} {x1 : Int32} {x3 : Int32} {y0 : Int32} {y1 : Int32} {σ : AH} {v : Int32} {σ' : AH} (hD : 2 ≤ D) (hk_X1_roomsOfAll_4 : ∀ (x1 : Int32) (x2 : Int32) (x3 : Int32) (σ : AH) (v : Int32) (σ' : AH), Sh σ → k_X1_roomsOfAll_4 x1 x2 x3 σ = some (v, σ') → E X l m_X1_roomsOfAll D 4 [(0, .ref 68), (1, .int x1), (2, .int x2), (3, .int x3)] [] σ (some (.int v)) σ') (hs : Sh σ) (h : F_X1_roomsOfAll_30 k_X1_roomsOfAll_4 x1 x3 y0 y1 σ = some (v, σ')) : W_X1_roomsOfAll_30 X l D x1 x3 y0 y1 σ (some (.int v)) σ' := by
  unfold F_X1_roomsOfAll_30 at h
  unfold W_X1_roomsOfAll_30
  exact hk_X1_roomsOfAll_4 _ _ _ _ _ _ hs  h
set_option maxRecDepth 100000 in
theorem t_X1_roomsOfAll_4 {X : Sx} {l : Launch} {D : Nat} {k_X1_roomsOfAll_4 : Int32 → Int32 → Int32 → AH → Option (Int32 × AH)} {x1 : Int32} {x2 : Int32} {x3 : Int32} {σ : AH} {v : Int32} {σ' : AH} (hD : 2 ≤ D) (hk_X1_roomsOfAll_4 : ∀ (x1 : Int32) (x2 : Int32) (x3 : Int32) (σ : AH) (v : Int32) (σ' : AH), Sh σ → k_X1_roomsOfAll_4 x1 x2 x3 σ = some (v, σ') → E X l m_X1_roomsOfAll D 4 [(0, .ref 68), (1, .int x1), (2, .int x2), (3, .int x3)] [] σ (some (.int v)) σ') (hs : Sh σ) (h : B_X1_roomsOfAll_4 k_X1_roomsOfAll_4 x1 x2 x3 σ = some (v, σ')) : W_X1_roomsOfAll_4 X l D x1 x2 x3 σ (some (.int v)) σ' := by
  unfold B_X1_roomsOfAll_4 at h
  unfold W_X1_roomsOfAll_4
  refine ite_i (fun c1 => ?_) (fun c1 => ?_)
  · replace h := of_ifp h c1
    exact ret_i h
  · replace h := of_ifn h c1
    obtain ⟨v6, σ2, q2, h⟩ := of_bd h
    have hC3 := f_X1_isAmong (σ := σ) hs  q2 (X := X) (l := l)
    have hs4 := hC3.1.2.2.2.1 hs
    refine ⟨0, v6, σ2, (Nat.le_trans (by decide) hD), hC3, ?_⟩
    refine ite_i (fun c5 => ?_) (fun c5 => ?_)
    · replace h := of_ifp h c5
      exact t_X1_roomsOfAll_30 hD hk_X1_roomsOfAll_4 hs4  h
    · replace h := of_ifn h c5
      obtain ⟨v12, σ8, q6, h⟩ := of_bd h
      have hC7 := f_X1_roomsOf (σ := σ2) hs4  q6 (X := X) (l := l)
      have hs8 := hC7.1.2.2.2.1 hs4
      refine ⟨1, v12, σ8, (Nat.le_trans (by decide) hD), hC7, ?_⟩
      exact t_X1_roomsOfAll_30 hD hk_X1_roomsOfAll_4 hs8  h
theorem e_X1_roomsOfAll_4 {X : Sx} {l : Launch} {D : Nat} (hD : 2 ≤ D) : ∀ (k : Nat) (x1 : Int32) (x2 : Int32) (x3 : Int32) (σ : AH) (v : Int32) (σ' : AH), Sh σ → F_X1_roomsOfAll_4 k x1 x2 x3 σ = some (v, σ') → E X l m_X1_roomsOfAll D 4 [(0, .ref 68), (1, .int x1), (2, .int x2), (3, .int x3)] [] σ (some (.int v)) σ' := by
  intro k
  induction k with
  | zero => intro x1 x2 x3 σ v σ' hs h; cases h
  | succ k ih =>
    intro x1 x2 x3 σ v σ' hs h
    exact w_X1_roomsOfAll_4 hs  (t_X1_roomsOfAll_4 hD ih hs  h)
set_option maxRecDepth 100000 in
theorem t_X1_roomsOfAll_0 {X : Sx} {l : Launch} {D : Nat} {x1 : Int32} {σ : AH} {v : Int32} {σ' : AH} (hD : 2 ≤ D) (hs : Sh σ) (h : F_X1_roomsOfAll x1 σ = some (v, σ')) : W_X1_roomsOfAll_0 X l D x1 σ (some (.int v)) σ' := by
  unfold F_X1_roomsOfAll at h
  unfold W_X1_roomsOfAll_0
  exact e_X1_roomsOfAll_4 hD  _ _ _ _ _ _ _ hs  h
theorem f_X1_roomsOfAll {X : Sx} {l : Launch} {x1 : Int32} {σ : AH} {v : Int32} {σ' : AH} (hs : Sh σ) (h : F_X1_roomsOfAll x1 σ = some (v, σ')) : Call X l m_X1_roomsOfAll 2 [.ref 68, .int x1] σ (some (.int v)) σ' :=
  Call.ofE ok_X1_roomsOfAll rfl (Nat.le_of_ble_eq_true rfl) (w_X1_roomsOfAll_0 hs  (t_X1_roomsOfAll_0 (Nat.le_refl _) hs  h))
def F_X1_housedIn_35 (k_X1_housedIn_4 : Nat → Int32 → Int32 → AH → Option (Int32 × AH)) (x1 : Nat) (x3 : Int32) (y0 : Int32) (y1 : Int32) (σ : AH) : Option (Int32 × AH) := (k_X1_housedIn_4 x1 (y1 + y0) (x3 + 1) σ)
def B_X1_housedIn_4 (k_X1_housedIn_4 : Nat → Int32 → Int32 → AH → Option (Int32 × AH)) (x1 : Nat) (x2 : Int32) (x3 : Int32) (σ : AH) : Option (Int32 × AH) := (if (gI σ 68 3) ≤ x3 then (some (x2, σ)) else (if inB x3 6 = true then (bd (F_X7_isDone x1 (gI σ 69 x3.toNatClampNeg) σ) fun v7 σ3 => (if v7 = 0 then (F_X1_housedIn_35 k_X1_housedIn_4 x1 x3 (0 : Int32) x2 σ3) else (bd (F_X1_roomsOf x3 σ3) fun v13 σ9 => (F_X1_housedIn_35 k_X1_housedIn_4 x1 x3 v13 x2 σ9)))) else none))
def F_X1_housedIn_4 : Nat → Nat → Int32 → Int32 → AH → Option (Int32 × AH) := fun k => match k with | 0 => fun _ _ _ _ => none | k + 1 => B_X1_housedIn_4 (F_X1_housedIn_4 k)
def F_X1_housedIn (x1 : Nat) (σ : AH) : Option (Int32 × AH) := (F_X1_housedIn_4 BIG x1 (0 : Int32) (0 : Int32) σ)
set_option maxRecDepth 100000 in
theorem t_X1_housedIn_35 {X : Sx} {l : Launch} {D : Nat} {k_X1_housedIn_4 : Nat → Int32 → Int32 → AH → Option (Int32 × AH)} {x1 : Nat} {x3 : Int32} {y0 : Int32} {y1 : Int32} {σ : AH} {v : Int32} {σ' : AH} (hD : 2 ≤ D) (hk_X1_housedIn_4 : ∀ (x1 : Nat) (x2 : Int32) (x3 : Int32) (σ : AH) (v : Int32) (σ' : AH), Sh σ → x1 ∈ siteIds → k_X1_housedIn_4 x1 x2 x3 σ = some (v, σ') → E X l m_X1_housedIn D 4 [(0, .ref 68), (1, .ref x1), (2, .int x2), (3, .int x3)] [] σ (some (.int v)) σ') (hs : Sh σ) (hmx1 : x1 ∈ siteIds) (h : F_X1_housedIn_35 k_X1_housedIn_4 x1 x3 y0 y1 σ = some (v, σ')) : W_X1_housedIn_35 X l D x1 x3 y0 y1 σ (some (.int v)) σ' := by
  unfold F_X1_housedIn_35 at h
  unfold W_X1_housedIn_35
  exact hk_X1_housedIn_4 _ _ _ _ _ _ hs (by first | assumption | exact st_stock (by assumption) | exact rn_site (by assumption) | decide) h
set_option maxRecDepth 100000 in
theorem t_X1_housedIn_4 {X : Sx} {l : Launch} {D : Nat} {k_X1_housedIn_4 : Nat → Int32 → Int32 → AH → Option (Int32 × AH)} {x1 : Nat} {x2 : Int32} {x3 : Int32} {σ : AH} {v : Int32} {σ' : AH} (hD : 2 ≤ D) (hk_X1_housedIn_4 : ∀ (x1 : Nat) (x2 : Int32) (x3 : Int32) (σ : AH) (v : Int32) (σ' : AH), Sh σ → x1 ∈ siteIds → k_X1_housedIn_4 x1 x2 x3 σ = some (v, σ') → E X l m_X1_housedIn D 4 [(0, .ref 68), (1, .ref x1), (2, .int x2), (3, .int x3)] [] σ (some (.int v)) σ') (hs : Sh σ) (hmx1 : x1 ∈ siteIds) (h : B_X1_housedIn_4 k_X1_housedIn_4 x1 x2 x3 σ = some (v, σ')) : W_X1_housedIn_4 X l D x1 x2 x3 σ (some (.int v)) σ' := by
  unfold B_X1_housedIn_4 at h
  unfold W_X1_housedIn_4
  refine ite_i (fun c1 => ?_) (fun c1 => ?_)
  · replace h := of_ifp h c1
    exact ret_i h
  · replace h := of_ifn h c1
    obtain ⟨g2, h⟩ := of_gd h
    refine ⟨(inB_mp g2), ?_⟩
    obtain ⟨v7, σ3, q3, h⟩ := of_bd h
    have hC4 := f_X7_isDone (σ := σ) hs (by first | assumption | exact st_stock (by assumption) | exact rn_site (by assumption) | decide) q3 (X := X) (l := l)
    have hs5 := hC4.1.2.2.2.1 hs
    refine ⟨0, v7, σ3, (Nat.le_trans (by decide) hD), hC4, ?_⟩
    refine ite_i (fun c6 => ?_) (fun c6 => ?_)
    · replace h := of_ifp h c6
      exact t_X1_housedIn_35 hD hk_X1_housedIn_4 hs5 (by first | assumption | exact st_stock (by assumption) | exact rn_site (by assumption) | decide) h
    · replace h := of_ifn h c6
      obtain ⟨v13, σ9, q7, h⟩ := of_bd h
      have hC8 := f_X1_roomsOf (σ := σ3) hs5  q7 (X := X) (l := l)
      have hs9 := hC8.1.2.2.2.1 hs5
      refine ⟨1, v13, σ9, (Nat.le_trans (by decide) hD), hC8, ?_⟩
      exact t_X1_housedIn_35 hD hk_X1_housedIn_4 hs9 (by first | assumption | exact st_stock (by assumption) | exact rn_site (by assumption) | decide) h
theorem e_X1_housedIn_4 {X : Sx} {l : Launch} {D : Nat} (hD : 2 ≤ D) : ∀ (k : Nat) (x1 : Nat) (x2 : Int32) (x3 : Int32) (σ : AH) (v : Int32) (σ' : AH), Sh σ → x1 ∈ siteIds → F_X1_housedIn_4 k x1 x2 x3 σ = some (v, σ') → E X l m_X1_housedIn D 4 [(0, .ref 68), (1, .ref x1), (2, .int x2), (3, .int x3)] [] σ (some (.int v)) σ' := by
  intro k
  induction k with
  | zero => intro x1 x2 x3 σ v σ' hs hmx1 h; cases h
  | succ k ih =>
    intro x1 x2 x3 σ v σ' hs hmx1 h
    exact w_X1_housedIn_4 hs hmx1 (t_X1_housedIn_4 hD ih hs hmx1 h)
set_option maxRecDepth 100000 in
theorem t_X1_housedIn_0 {X : Sx} {l : Launch} {D : Nat} {x1 : Nat} {σ : AH} {v : Int32} {σ' : AH} (hD : 2 ≤ D) (hs : Sh σ) (hmx1 : x1 ∈ siteIds) (h : F_X1_housedIn x1 σ = some (v, σ')) : W_X1_housedIn_0 X l D x1 σ (some (.int v)) σ' := by
  unfold F_X1_housedIn at h
  unfold W_X1_housedIn_0
  exact e_X1_housedIn_4 hD  _ _ _ _ _ _ _ hs (by first | assumption | exact st_stock (by assumption) | exact rn_site (by assumption) | decide) h
theorem f_X1_housedIn {X : Sx} {l : Launch} {x1 : Nat} {σ : AH} {v : Int32} {σ' : AH} (hs : Sh σ) (hmx1 : x1 ∈ siteIds) (h : F_X1_housedIn x1 σ = some (v, σ')) : Call X l m_X1_housedIn 2 [.ref 68, .ref x1] σ (some (.int v)) σ' :=
  Call.ofE ok_X1_housedIn rfl (Nat.le_of_ble_eq_true rfl) (w_X1_housedIn_0 hs hmx1 (t_X1_housedIn_0 (Nat.le_refl _) hs hmx1 h))
def F_X7_isShell (x0 : Nat) (x1 : Int32) (σ : AH) : Option (Int32 × AH) := (bd (F_X7_isDone x0 x1 σ) fun v6 σ2 => (if v6 = 0 then (if inB (x1 * (3 : Int32)) 90 = true then (if (gI σ2 (x0 + 8) (x1 * (3 : Int32)).toNatClampNeg) = (-1 : Int32) then (some ((0 : Int32), σ2)) else (some ((1 : Int32), σ2))) else none) else (some ((0 : Int32), σ2))))
set_option maxRecDepth 100000 in
theorem t_X7_isShell_0 {X : Sx} {l : Launch} {D : Nat} {x0 : Nat} {x1 : Int32} {σ : AH} {v : Int32} {σ' : AH} (hD : 1 ≤ D) (hs : Sh σ) (hmx0 : x0 ∈ siteIds) (h : F_X7_isShell x0 x1 σ = some (v, σ')) : W_X7_isShell_0 X l D x0 x1 σ (some (.int v)) σ' := by
  unfold F_X7_isShell at h
  unfold W_X7_isShell_0
  obtain ⟨v6, σ2, q1, h⟩ := of_bd h
  have hC2 := f_X7_isDone (σ := σ) hs (by first | assumption | exact st_stock (by assumption) | exact rn_site (by assumption) | decide) q1 (X := X) (l := l)
  have hs3 := hC2.1.2.2.2.1 hs
  refine ⟨0, v6, σ2, (Nat.le_trans (by decide) hD), hC2, ?_⟩
  refine ite_i (fun c4 => ?_) (fun c4 => ?_)
  · replace h := of_ifp h c4
    obtain ⟨g5, h⟩ := of_gd h
    refine ⟨(inB_mp g5), ?_⟩
    refine ite_i (fun c6 => ?_) (fun c6 => ?_)
    · replace h := of_ifp h c6
      exact ret_i h
    · replace h := of_ifn h c6
      exact ret_i h
  · replace h := of_ifn h c4
    exact ret_i h
theorem f_X7_isShell {X : Sx} {l : Launch} {x0 : Nat} {x1 : Int32} {σ : AH} {v : Int32} {σ' : AH} (hs : Sh σ) (hmx0 : x0 ∈ siteIds) (h : F_X7_isShell x0 x1 σ = some (v, σ')) : Call X l m_X7_isShell 1 [.ref x0, .int x1] σ (some (.int v)) σ' :=
  Call.ofE ok_X7_isShell rfl (Nat.le_of_ble_eq_true rfl) (w_X7_isShell_0 hs hmx0 (t_X7_isShell_0 (Nat.le_refl _) hs hmx0 h))
def F_X1_shellsIn_31 (k_X1_shellsIn_4 : Nat → Int32 → Int32 → AH → Option (Int32 × AH)) (x1 : Nat) (x3 : Int32) (y0 : Int32) (y1 : Int32) (σ : AH) : Option (Int32 × AH) := (k_X1_shellsIn_4 x1 (y1 + y0) (x3 + 1) σ)
def B_X1_shellsIn_4 (k_X1_shellsIn_4 : Nat → Int32 → Int32 → AH → Option (Int32 × AH)) (x1 : Nat) (x2 : Int32) (x3 : Int32) (σ : AH) : Option (Int32 × AH) := (if (gI σ 68 3) ≤ x3 then (some (x2, σ)) else (if inB x3 6 = true then (bd (F_X7_isShell x1 (gI σ 69 x3.toNatClampNeg) σ) fun v7 σ3 => (if v7 = 0 then (F_X1_shellsIn_31 k_X1_shellsIn_4 x1 x3 (0 : Int32) x2 σ3) else (F_X1_shellsIn_31 k_X1_shellsIn_4 x1 x3 (1 : Int32) x2 σ3))) else none))
def F_X1_shellsIn_4 : Nat → Nat → Int32 → Int32 → AH → Option (Int32 × AH) := fun k => match k with | 0 => fun _ _ _ _ => none | k + 1 => B_X1_shellsIn_4 (F_X1_shellsIn_4 k)
def F_X1_shellsIn (x1 : Nat) (σ : AH) : Option (Int32 × AH) := (F_X1_shellsIn_4 BIG x1 (0 : Int32) (0 : Int32) σ)
set_option maxRecDepth 100000 in
theorem t_X1_shellsIn_31 {X : Sx} {l : Launch} {D : Nat} {k_X1_shellsIn_4 : Nat → Int32 → Int32 → AH → Option (Int32 × AH)} {x1 : Nat} {x3 : Int32} {y0 : Int32} {y1 : Int32} {σ : AH} {v : Int32} {σ' : AH} (hD : 2 ≤ D) (hk_X1_shellsIn_4 : ∀ (x1 : Nat) (x2 : Int32) (x3 : Int32) (σ : AH) (v : Int32) (σ' : AH), Sh σ → x1 ∈ siteIds → k_X1_shellsIn_4 x1 x2 x3 σ = some (v, σ') → E X l m_X1_shellsIn D 4 [(0, .ref 68), (1, .ref x1), (2, .int x2), (3, .int x3)] [] σ (some (.int v)) σ') (hs : Sh σ) (hmx1 : x1 ∈ siteIds) (h : F_X1_shellsIn_31 k_X1_shellsIn_4 x1 x3 y0 y1 σ = some (v, σ')) : W_X1_shellsIn_31 X l D x1 x3 y0 y1 σ (some (.int v)) σ' := by
  unfold F_X1_shellsIn_31 at h
  unfold W_X1_shellsIn_31
  exact hk_X1_shellsIn_4 _ _ _ _ _ _ hs (by first | assumption | exact st_stock (by assumption) | exact rn_site (by assumption) | decide) h
set_option maxRecDepth 100000 in
theorem t_X1_shellsIn_4 {X : Sx} {l : Launch} {D : Nat} {k_X1_shellsIn_4 : Nat → Int32 → Int32 → AH → Option (Int32 × AH)} {x1 : Nat} {x2 : Int32} {x3 : Int32} {σ : AH} {v : Int32} {σ' : AH} (hD : 2 ≤ D) (hk_X1_shellsIn_4 : ∀ (x1 : Nat) (x2 : Int32) (x3 : Int32) (σ : AH) (v : Int32) (σ' : AH), Sh σ → x1 ∈ siteIds → k_X1_shellsIn_4 x1 x2 x3 σ = some (v, σ') → E X l m_X1_shellsIn D 4 [(0, .ref 68), (1, .ref x1), (2, .int x2), (3, .int x3)] [] σ (some (.int v)) σ') (hs : Sh σ) (hmx1 : x1 ∈ siteIds) (h : B_X1_shellsIn_4 k_X1_shellsIn_4 x1 x2 x3 σ = some (v, σ')) : W_X1_shellsIn_4 X l D x1 x2 x3 σ (some (.int v)) σ' := by
  unfold B_X1_shellsIn_4 at h
  unfold W_X1_shellsIn_4
  refine ite_i (fun c1 => ?_) (fun c1 => ?_)
  · replace h := of_ifp h c1
    exact ret_i h
  · replace h := of_ifn h c1
    obtain ⟨g2, h⟩ := of_gd h
    refine ⟨(inB_mp g2), ?_⟩
    obtain ⟨v7, σ3, q3, h⟩ := of_bd h
    have hC4 := f_X7_isShell (σ := σ) hs (by first | assumption | exact st_stock (by assumption) | exact rn_site (by assumption) | decide) q3 (X := X) (l := l)
    have hs5 := hC4.1.2.2.2.1 hs
    refine ⟨1, v7, σ3, (Nat.le_trans (by decide) hD), hC4, ?_⟩
    refine ite_i (fun c6 => ?_) (fun c6 => ?_)
    · replace h := of_ifp h c6
      exact t_X1_shellsIn_31 hD hk_X1_shellsIn_4 hs5 (by first | assumption | exact st_stock (by assumption) | exact rn_site (by assumption) | decide) h
    · replace h := of_ifn h c6
      exact t_X1_shellsIn_31 hD hk_X1_shellsIn_4 hs5 (by first | assumption | exact st_stock (by assumption) | exact rn_site (by assumption) | decide) h
theorem e_X1_shellsIn_4 {X : Sx} {l : Launch} {D : Nat} (hD : 2 ≤ D) : ∀ (k : Nat) (x1 : Nat) (x2 : Int32) (x3 : Int32) (σ : AH) (v : Int32) (σ' : AH), Sh σ → x1 ∈ siteIds → F_X1_shellsIn_4 k x1 x2 x3 σ = some (v, σ') → E X l m_X1_shellsIn D 4 [(0, .ref 68), (1, .ref x1), (2, .int x2), (3, .int x3)] [] σ (some (.int v)) σ' := by
  intro k
  induction k with
  | zero => intro x1 x2 x3 σ v σ' hs hmx1 h; cases h
  | succ k ih =>
    intro x1 x2 x3 σ v σ' hs hmx1 h
    exact w_X1_shellsIn_4 hs hmx1 (t_X1_shellsIn_4 hD ih hs hmx1 h)
set_option maxRecDepth 100000 in
theorem t_X1_shellsIn_0 {X : Sx} {l : Launch} {D : Nat} {x1 : Nat} {σ : AH} {v : Int32} {σ' : AH} (hD : 2 ≤ D) (hs : Sh σ) (hmx1 : x1 ∈ siteIds) (h : F_X1_shellsIn x1 σ = some (v, σ')) : W_X1_shellsIn_0 X l D x1 σ (some (.int v)) σ' := by
  unfold F_X1_shellsIn at h
  unfold W_X1_shellsIn_0
  exact e_X1_shellsIn_4 hD  _ _ _ _ _ _ _ hs (by first | assumption | exact st_stock (by assumption) | exact rn_site (by assumption) | decide) h
theorem f_X1_shellsIn {X : Sx} {l : Launch} {x1 : Nat} {σ : AH} {v : Int32} {σ' : AH} (hs : Sh σ) (hmx1 : x1 ∈ siteIds) (h : F_X1_shellsIn x1 σ = some (v, σ')) : Call X l m_X1_shellsIn 2 [.ref 68, .ref x1] σ (some (.int v)) σ' :=
  Call.ofE ok_X1_shellsIn rfl (Nat.le_of_ble_eq_true rfl) (w_X1_shellsIn_0 hs hmx1 (t_X1_shellsIn_0 (Nat.le_refl _) hs hmx1 h))
def B_X1_isRowAhead_2 (k_X1_isRowAhead_2 : Int32 → AH → Option (Int32 × AH)) (x1 : Int32) (σ : AH) : Option (Int32 × AH) := (if (gI σ 68 3) ≤ x1 then (some ((0 : Int32), σ)) else (if inB x1 6 = true then (if inB x1 6 = true then (if (gI σ 81 x1.toNatClampNeg) = (gI σ 82 x1.toNatClampNeg) then (k_X1_isRowAhead_2 (x1 + 1) σ) else (if inB x1 6 = true then (if inB x1 6 = true then (if (gI σ 82 x1.toNatClampNeg) ≤ (gI σ 81 x1.toNatClampNeg) then (some ((0 : Int32), σ)) else (some ((1 : Int32), σ))) else none) else none)) else none) else none))
def F_X1_isRowAhead_2 : Nat → Int32 → AH → Option (Int32 × AH) := fun k => match k with | 0 => fun _ _ => none | k + 1 => B_X1_isRowAhead_2 (F_X1_isRowAhead_2 k)
def F_X1_isRowAhead (σ : AH) : Option (Int32 × AH) := (F_X1_isRowAhead_2 BIG (0 : Int32) σ)
set_option maxRecDepth 100000 in
theorem t_X1_isRowAhead_2 {X : Sx} {l : Launch} {D : Nat} {k_X1_isRowAhead_2 : Int32 → AH → Option (Int32 × AH)} {x1 : Int32} {σ : AH} {v : Int32} {σ' : AH} (hD : 0 ≤ D) (hk_X1_isRowAhead_2 : ∀ (x1 : Int32) (σ : AH) (v : Int32) (σ' : AH), Sh σ → k_X1_isRowAhead_2 x1 σ = some (v, σ') → E X l m_X1_isRowAhead D 2 [(0, .ref 68), (1, .int x1)] [] σ (some (.int v)) σ') (hs : Sh σ) (h : B_X1_isRowAhead_2 k_X1_isRowAhead_2 x1 σ = some (v, σ')) : W_X1_isRowAhead_2 X l D x1 σ (some (.int v)) σ' := by
  unfold B_X1_isRowAhead_2 at h
  unfold W_X1_isRowAhead_2
  refine ite_i (fun c1 => ?_) (fun c1 => ?_)
  · replace h := of_ifp h c1
    exact ret_i h
  · replace h := of_ifn h c1
    obtain ⟨g2, h⟩ := of_gd h
    refine ⟨(inB_mp g2), ?_⟩
    obtain ⟨g3, h⟩ := of_gd h
    refine ⟨(inB_mp g3), ?_⟩
    refine ite_i (fun c4 => ?_) (fun c4 => ?_)
    · replace h := of_ifp h c4
      exact hk_X1_isRowAhead_2 _ _ _ _ hs  h
    · replace h := of_ifn h c4
      obtain ⟨g5, h⟩ := of_gd h
      refine ⟨(inB_mp g5), ?_⟩
      obtain ⟨g6, h⟩ := of_gd h
      refine ⟨(inB_mp g6), ?_⟩
      refine ite_i (fun c7 => ?_) (fun c7 => ?_)
      · replace h := of_ifp h c7
        exact ret_i h
      · replace h := of_ifn h c7
        exact ret_i h
theorem e_X1_isRowAhead_2 {X : Sx} {l : Launch} {D : Nat} (hD : 0 ≤ D) : ∀ (k : Nat) (x1 : Int32) (σ : AH) (v : Int32) (σ' : AH), Sh σ → F_X1_isRowAhead_2 k x1 σ = some (v, σ') → E X l m_X1_isRowAhead D 2 [(0, .ref 68), (1, .int x1)] [] σ (some (.int v)) σ' := by
  intro k
  induction k with
  | zero => intro x1 σ v σ' hs h; cases h
  | succ k ih =>
    intro x1 σ v σ' hs h
    exact w_X1_isRowAhead_2 hs  (t_X1_isRowAhead_2 hD ih hs  h)
set_option maxRecDepth 100000 in
theorem t_X1_isRowAhead_0 {X : Sx} {l : Launch} {D : Nat} {σ : AH} {v : Int32} {σ' : AH} (hD : 0 ≤ D) (hs : Sh σ) (h : F_X1_isRowAhead σ = some (v, σ')) : W_X1_isRowAhead_0 X l D σ (some (.int v)) σ' := by
  unfold F_X1_isRowAhead at h
  unfold W_X1_isRowAhead_0
  exact e_X1_isRowAhead_2 hD  _ _ _ _ _ hs  h
theorem f_X1_isRowAhead {X : Sx} {l : Launch} {σ : AH} {v : Int32} {σ' : AH} (hs : Sh σ) (h : F_X1_isRowAhead σ = some (v, σ')) : Call X l m_X1_isRowAhead 0 [.ref 68] σ (some (.int v)) σ' :=
  Call.ofE ok_X1_isRowAhead rfl (Nat.le_of_ble_eq_true rfl) (w_X1_isRowAhead_0 hs  (t_X1_isRowAhead_0 (Nat.le_refl _) hs  h))
def F_X1_keepIfBetter_61 (x1 : Int32) (x2 : Int32) (σ : AH) : Option AH := (if 0 + 6 ≤ 6 then (if 0 + 6 ≤ 6 then (lt (sA (sI (sI σ 68 12 x1) 68 13 x2) 82 (va_cpy (gI (sI (sI σ 68 12 x1) 68 13 x2) 81) (gI (sI (sI σ 68 12 x1) 68 13 x2) 82) 0 0 6)) fun τ37 => (some τ37)) else none) else none)
def F_X1_keepIfBetter (σ : AH) : Option AH := (if inB (2 : Int32) 3 = true then (bo (gR σ 80 (2 : Int32).toNatClampNeg) fun b1 => if b1 ∈ siteIds then (bd (F_X1_housedIn b1 σ) fun v12 σ8 => (if inB (2 : Int32) 3 = true then (bo (gR σ8 80 (2 : Int32).toNatClampNeg) fun b13 => if b13 ∈ siteIds then (bd (F_X1_shellsIn b13 σ8) fun v24 σ20 => (if (gI σ20 68 12) < v12 then (F_X1_keepIfBetter_61 v12 v24 σ20) else (if v12 = (gI σ20 68 12) then (if v24 < (gI σ20 68 13) then (F_X1_keepIfBetter_61 v12 v24 σ20) else (if v24 = (gI σ20 68 13) then (bd (F_X1_isRowAhead σ20) fun v30 σ26 => (if v30 = 0 then (some σ26) else (F_X1_keepIfBetter_61 v12 v24 σ26))) else (some σ20))) else (some σ20)))) else none) else none)) else none) else none)
set_option maxRecDepth 100000 in
theorem t_X1_keepIfBetter_61 {X : Sx} {l : Launch} {D : Nat} {x1 : Int32} {x2 : Int32} {σ : AH} {σ' : AH} (hD : 3 ≤ D) (hs : Sh σ) (h : F_X1_keepIfBetter_61 x1 x2 σ = some σ') : W_X1_keepIfBetter_61 X l D x1 x2 σ none σ' := by
  unfold F_X1_keepIfBetter_61 at h
  unfold W_X1_keepIfBetter_61
  obtain ⟨g1, h⟩ := of_gd h
  refine ⟨g1, ?_⟩
  obtain ⟨g2, h⟩ := of_gd h
  refine ⟨g2, ?_⟩
  refine ⟨Nat.le_trans (by decide) hD, ?_⟩
  intro τ37 e3
  replace h := of_lt h e3
  have hs4 : Sh τ37 := by rw [e3]; exact hs
  exact ret_v h
set_option maxRecDepth 100000 in
theorem t_X1_keepIfBetter_0 {X : Sx} {l : Launch} {D : Nat} {σ : AH} {σ' : AH} (hD : 3 ≤ D) (hs : Sh σ) (h : F_X1_keepIfBetter σ = some σ') : W_X1_keepIfBetter_0 X l D σ none σ' := by
  unfold F_X1_keepIfBetter at h
  unfold W_X1_keepIfBetter_0
  obtain ⟨g1, h⟩ := of_gd h
  refine ⟨(inB_mp g1), ?_⟩
  obtain ⟨b1, e3, h⟩ := of_bo h
  obtain ⟨g2, h⟩ := of_gd h
  refine ⟨b1, e3, g2, ?_⟩
  obtain ⟨v12, σ8, q4, h⟩ := of_bd h
  have hC5 := f_X1_housedIn (σ := σ) hs (by first | assumption | exact st_stock (by assumption) | exact rn_site (by assumption) | decide) q4 (X := X) (l := l)
  have hs6 := hC5.1.2.2.2.1 hs
  refine ⟨2, v12, σ8, (Nat.le_trans (by decide) hD), hC5, ?_⟩
  obtain ⟨g7, h⟩ := of_gd h
  refine ⟨(inB_mp g7), ?_⟩
  obtain ⟨b13, e9, h⟩ := of_bo h
  obtain ⟨g8, h⟩ := of_gd h
  refine ⟨b13, e9, g8, ?_⟩
  obtain ⟨v24, σ20, q10, h⟩ := of_bd h
  have hC11 := f_X1_shellsIn (σ := σ8) hs6 (by first | assumption | exact st_stock (by assumption) | exact rn_site (by assumption) | decide) q10 (X := X) (l := l)
  have hs12 := hC11.1.2.2.2.1 hs6
  refine ⟨2, v24, σ20, (Nat.le_trans (by decide) hD), hC11, ?_⟩
  refine ite_i (fun c13 => ?_) (fun c13 => ?_)
  · replace h := of_ifp h c13
    exact t_X1_keepIfBetter_61 hD  hs12  h
  · replace h := of_ifn h c13
    refine ite_i (fun c14 => ?_) (fun c14 => ?_)
    · replace h := of_ifp h c14
      refine ite_i (fun c15 => ?_) (fun c15 => ?_)
      · replace h := of_ifp h c15
        exact t_X1_keepIfBetter_61 hD  hs12  h
      · replace h := of_ifn h c15
        refine ite_i (fun c16 => ?_) (fun c16 => ?_)
        · replace h := of_ifp h c16
          obtain ⟨v30, σ26, q17, h⟩ := of_bd h
          have hC18 := f_X1_isRowAhead (σ := σ20) hs12  q17 (X := X) (l := l)
          have hs19 := hC18.1.2.2.2.1 hs12
          refine ⟨0, v30, σ26, (Nat.le_trans (by decide) hD), hC18, ?_⟩
          refine ite_i (fun c20 => ?_) (fun c20 => ?_)
          · replace h := of_ifp h c20
            exact ret_v h
          · replace h := of_ifn h c20
            exact t_X1_keepIfBetter_61 hD  hs19  h
        · replace h := of_ifn h c16
          exact ret_v h
    · replace h := of_ifn h c14
      exact ret_v h
theorem f_X1_keepIfBetter {X : Sx} {l : Launch} {σ : AH} {σ' : AH} (hs : Sh σ) (h : F_X1_keepIfBetter σ = some σ') : Call X l m_X1_keepIfBetter 3 [.ref 68] σ none σ' :=
  Call.ofE ok_X1_keepIfBetter rfl (Nat.le_of_ble_eq_true rfl) (w_X1_keepIfBetter_0 hs  (t_X1_keepIfBetter_0 (Nat.le_refl _) hs  h))
def F_X2_init (x0 : Nat) (x1 : Nat) (x2 : Nat) (x3 : Nat) (σ : AH) : Option AH := (if kd σ x0 = (2, NO 2) then (if x0 < nx σ then (if kd σ x1 = (9, NO 9) then (if x1 < nx σ then (lt (aw σ 100 30) fun τ1 => (if alB m_X2_init x0 = true then (if shOX τ1 x0 3 = true then (lt (sR τ1 x0 3 (some (nx σ))) fun τ12 => (lt (aw τ12 100 30) fun τ19 => (if alB m_X2_init x0 = true then (if shOX τ19 x0 4 = true then (lt (sR τ19 x0 4 (some (nx τ12))) fun τ30 => (lt (aw τ30 100 60) fun τ37 => (if alB m_X2_init x0 = true then (if shOX τ37 x0 5 = true then (lt (sR τ37 x0 5 (some (nx τ30))) fun τ48 => (lt (aw τ48 100 60) fun τ55 => (if alB m_X2_init x0 = true then (if shOX τ55 x0 6 = true then (lt (sR τ55 x0 6 (some (nx τ48))) fun τ66 => (if alB m_X2_init x0 = true then (if shOX τ66 x0 0 = true then (lt (sR τ66 x0 0 (some x1)) fun τ75 => (if alB m_X2_init x0 = true then (if shOX τ75 x0 1 = true then (lt (sR τ75 x0 1 (some x2)) fun τ84 => (if alB m_X2_init x0 = true then (if shOX τ84 x0 2 = true then (lt (sR τ84 x0 2 (some x3)) fun τ93 => (some τ93)) else none) else none)) else none) else none)) else none) else none)) else none) else none))) else none) else none))) else none) else none))) else none) else none)) else none) else none) else none) else none)
set_option maxRecDepth 100000 in
theorem t_X2_init_0 {X : Sx} {l : Launch} {D : Nat} {x0 : Nat} {x1 : Nat} {x2 : Nat} {x3 : Nat} {σ : AH} {σ' : AH} (hD : 1 ≤ D) (h : F_X2_init x0 x1 x2 x3 σ = some σ') : W_X2_init_0 X l D x0 x1 x2 x3 σ none σ' := by
  unfold F_X2_init at h
  unfold W_X2_init_0
  obtain ⟨g1, h⟩ := of_gd h
  refine ⟨g1, ?_⟩
  obtain ⟨g2, h⟩ := of_gd h
  refine ⟨g2, ?_⟩
  obtain ⟨g3, h⟩ := of_gd h
  refine ⟨g3, ?_⟩
  obtain ⟨g4, h⟩ := of_gd h
  refine ⟨g4, ?_⟩
  refine ⟨Nat.le_trans (by decide) hD, ?_⟩
  intro τ1 e5
  replace h := of_lt h e5
  obtain ⟨g6, h⟩ := of_gd h
  refine ⟨(alB_mp g6), ?_⟩
  obtain ⟨g7, h⟩ := of_gd h
  refine ⟨(fun q => shOX_mp g7 q), ?_⟩
  intro τ12 e8
  replace h := of_lt h e8
  intro τ19 e9
  replace h := of_lt h e9
  obtain ⟨g10, h⟩ := of_gd h
  refine ⟨(alB_mp g10), ?_⟩
  obtain ⟨g11, h⟩ := of_gd h
  refine ⟨(fun q => shOX_mp g11 q), ?_⟩
  intro τ30 e12
  replace h := of_lt h e12
  intro τ37 e13
  replace h := of_lt h e13
  obtain ⟨g14, h⟩ := of_gd h
  refine ⟨(alB_mp g14), ?_⟩
  obtain ⟨g15, h⟩ := of_gd h
  refine ⟨(fun q => shOX_mp g15 q), ?_⟩
  intro τ48 e16
  replace h := of_lt h e16
  intro τ55 e17
  replace h := of_lt h e17
  obtain ⟨g18, h⟩ := of_gd h
  refine ⟨(alB_mp g18), ?_⟩
  obtain ⟨g19, h⟩ := of_gd h
  refine ⟨(fun q => shOX_mp g19 q), ?_⟩
  intro τ66 e20
  replace h := of_lt h e20
  obtain ⟨g21, h⟩ := of_gd h
  refine ⟨(alB_mp g21), ?_⟩
  obtain ⟨g22, h⟩ := of_gd h
  refine ⟨(fun q => shOX_mp g22 q), ?_⟩
  intro τ75 e23
  replace h := of_lt h e23
  obtain ⟨g24, h⟩ := of_gd h
  refine ⟨(alB_mp g24), ?_⟩
  obtain ⟨g25, h⟩ := of_gd h
  refine ⟨(fun q => shOX_mp g25 q), ?_⟩
  intro τ84 e26
  replace h := of_lt h e26
  obtain ⟨g27, h⟩ := of_gd h
  refine ⟨(alB_mp g27), ?_⟩
  obtain ⟨g28, h⟩ := of_gd h
  refine ⟨(fun q => shOX_mp g28 q), ?_⟩
  intro τ93 e29
  replace h := of_lt h e29
  exact ret_v h
theorem f_X2_init {X : Sx} {l : Launch} {x0 : Nat} {x1 : Nat} {x2 : Nat} {x3 : Nat} {σ : AH} {σ' : AH} (h : F_X2_init x0 x1 x2 x3 σ = some σ') : Call X l m_X2_init 1 [.ref x0, .ref x1, .ref x2, .ref x3] σ none σ' :=
  Call.ofE ok_X2_init rfl (Nat.le_of_ble_eq_true rfl) (w_X2_init_0  (t_X2_init_0 (Nat.le_refl _)  h))
def F_X6_doneWeek (x0 : Nat) (x1 : Int32) (σ : AH) : Option (Int32 × AH) := (if inB (((x1 * (3 : Int32)) + (3 : Int32)) - (1 : Int32)) 90 = true then (some ((gI σ ((x0 + 1) + 9) (((x1 * (3 : Int32)) + (3 : Int32)) - (1 : Int32)).toNatClampNeg), σ)) else none)
set_option maxRecDepth 100000 in
theorem t_X6_doneWeek_0 {X : Sx} {l : Launch} {D : Nat} {x0 : Nat} {x1 : Int32} {σ : AH} {v : Int32} {σ' : AH} (hD : 0 ≤ D) (hs : Sh σ) (hmx0 : x0 ∈ runIds) (h : F_X6_doneWeek x0 x1 σ = some (v, σ')) : W_X6_doneWeek_0 X l D x0 x1 σ (some (.int v)) σ' := by
  unfold F_X6_doneWeek at h
  unfold W_X6_doneWeek_0
  obtain ⟨g1, h⟩ := of_gd h
  refine ⟨(inB_mp g1), ?_⟩
  exact ret_i h
theorem f_X6_doneWeek {X : Sx} {l : Launch} {x0 : Nat} {x1 : Int32} {σ : AH} {v : Int32} {σ' : AH} (hs : Sh σ) (hmx0 : x0 ∈ runIds) (h : F_X6_doneWeek x0 x1 σ = some (v, σ')) : Call X l m_X6_doneWeek 0 [.ref x0, .int x1] σ (some (.int v)) σ' :=
  Call.ofE ok_X6_doneWeek rfl (Nat.le_of_ble_eq_true rfl) (w_X6_doneWeek_0 hs hmx0 (t_X6_doneWeek_0 (Nat.le_refl _) hs hmx0 h))
def F_X2_endOf (x1 : Int32) (x2 : Nat) (x3 : Int32) (σ : AH) : Option (Int32 × AH) := (bd (F_X8_at 9 x1 (1 : Int32) σ) fun v6 σ2 => (if v6 = (2 : Int32) then (bd (F_X6_doneWeek x2 x1 σ2) fun v12 σ8 => (bv (F_X3_settle v12 x3 σ8) fun σ14 => (bv (F_X3_ask (0 : Int32) v12 σ14) fun σ19 => (bd (F_X3_counted (59 : Int32) σ19) fun v28 σ24 => (if v28 = (-1 : Int32) then (some ((2000000000 : Int32), σ24)) else (some ((v12 + v28), σ24))))))) else (some ((2000000000 : Int32), σ2))))
set_option maxRecDepth 100000 in
theorem t_X2_endOf_0 {X : Sx} {l : Launch} {D : Nat} {x1 : Int32} {x2 : Nat} {x3 : Int32} {σ : AH} {v : Int32} {σ' : AH} (hD : 3 ≤ D) (hs : Sh σ) (hmx2 : x2 ∈ runIds) (h : F_X2_endOf x1 x2 x3 σ = some (v, σ')) : W_X2_endOf_0 X l D x1 x2 x3 σ (some (.int v)) σ' := by
  unfold F_X2_endOf at h
  unfold W_X2_endOf_0
  obtain ⟨v6, σ2, q1, h⟩ := of_bd h
  have hC2 := f_X8_at  q1 (X := X) (l := l)
  have hs3 := hC2.1.2.2.2.1 hs
  refine ⟨0, v6, σ2, (Nat.le_trans (by decide) hD), hC2, ?_⟩
  refine ite_i (fun c4 => ?_) (fun c4 => ?_)
  · replace h := of_ifp h c4
    obtain ⟨v12, σ8, q5, h⟩ := of_bd h
    have hC6 := f_X6_doneWeek (σ := σ2) hs3 (by first | assumption | exact st_stock (by assumption) | exact rn_site (by assumption) | decide) q5 (X := X) (l := l)
    have hs7 := hC6.1.2.2.2.1 hs3
    refine ⟨0, v12, σ8, (Nat.le_trans (by decide) hD), hC6, ?_⟩
    obtain ⟨σ14, q8, h⟩ := of_bv h
    have hC9 := f_X3_settle (σ := σ8) hs7  q8 (X := X) (l := l)
    have hs10 := hC9.1.2.2.2.1 hs7
    refine ⟨2, σ14, (Nat.le_trans (by decide) hD), hC9, ?_⟩
    obtain ⟨σ19, q11, h⟩ := of_bv h
    have hC12 := f_X3_ask (σ := σ14) hs10  q11 (X := X) (l := l)
    have hs13 := hC12.1.2.2.2.1 hs10
    refine ⟨1, σ19, (Nat.le_trans (by decide) hD), hC12, ?_⟩
    obtain ⟨v28, σ24, q14, h⟩ := of_bd h
    have hC15 := f_X3_counted (σ := σ19) hs13  q14 (X := X) (l := l)
    have hs16 := hC15.1.2.2.2.1 hs13
    refine ⟨2, v28, σ24, (Nat.le_trans (by decide) hD), hC15, ?_⟩
    refine ite_i (fun c17 => ?_) (fun c17 => ?_)
    · replace h := of_ifp h c17
      exact ret_i h
    · replace h := of_ifn h c17
      exact ret_i h
  · replace h := of_ifn h c4
    exact ret_i h
theorem f_X2_endOf {X : Sx} {l : Launch} {x1 : Int32} {x2 : Nat} {x3 : Int32} {σ : AH} {v : Int32} {σ' : AH} (hs : Sh σ) (hmx2 : x2 ∈ runIds) (h : F_X2_endOf x1 x2 x3 σ = some (v, σ')) : Call X l m_X2_endOf 3 [.ref 119, .int x1, .ref x2, .int x3] σ (some (.int v)) σ' :=
  Call.ofE ok_X2_endOf rfl (Nat.le_of_ble_eq_true rfl) (w_X2_endOf_0 hs hmx2 (t_X2_endOf_0 (Nat.le_refl _) hs hmx2 h))
def F_X2_isLived (x1 : Int32) (x2 : Int32) (σ : AH) : Option (Int32 × AH) := (bd (F_X8_at 17 x1 (3 : Int32) σ) fun v6 σ2 => (if x2 < v6 then (some ((0 : Int32), σ2)) else (some ((1 : Int32), σ2))))
set_option maxRecDepth 100000 in
theorem t_X2_isLived_0 {X : Sx} {l : Launch} {D : Nat} {x1 : Int32} {x2 : Int32} {σ : AH} {v : Int32} {σ' : AH} (hD : 1 ≤ D) (hs : Sh σ) (h : F_X2_isLived x1 x2 σ = some (v, σ')) : W_X2_isLived_0 X l D x1 x2 σ (some (.int v)) σ' := by
  unfold F_X2_isLived at h
  unfold W_X2_isLived_0
  obtain ⟨v6, σ2, q1, h⟩ := of_bd h
  have hC2 := f_X8_at  q1 (X := X) (l := l)
  have hs3 := hC2.1.2.2.2.1 hs
  refine ⟨0, v6, σ2, (Nat.le_trans (by decide) hD), hC2, ?_⟩
  refine ite_i (fun c4 => ?_) (fun c4 => ?_)
  · replace h := of_ifp h c4
    exact ret_i h
  · replace h := of_ifn h c4
    exact ret_i h
theorem f_X2_isLived {X : Sx} {l : Launch} {x1 : Int32} {x2 : Int32} {σ : AH} {v : Int32} {σ' : AH} (hs : Sh σ) (h : F_X2_isLived x1 x2 σ = some (v, σ')) : Call X l m_X2_isLived 1 [.ref 119, .int x1, .int x2] σ (some (.int v)) σ' :=
  Call.ofE ok_X2_isLived rfl (Nat.le_of_ble_eq_true rfl) (w_X2_isLived_0 hs  (t_X2_isLived_0 (Nat.le_refl _) hs  h))
def F_X2_stayIn_82 (k_X2_stayIn_2 : Int32 → Int32 → Int32 → AH → Option (Int32 × AH)) (x1 : Int32) (x2 : Int32) (x3 : Int32) (σ : AH) : Option (Int32 × AH) := (k_X2_stayIn_2 x1 x2 (x3 + 1) σ)
def B_X2_stayIn_2 (k_X2_stayIn_2 : Int32 → Int32 → Int32 → AH → Option (Int32 × AH)) (x1 : Int32) (x2 : Int32) (x3 : Int32) (σ : AH) : Option (Int32 × AH) := (bd (F_X8_rows 17 σ) fun v6 σ2 => (if v6 ≤ x3 then (some ((-1 : Int32), σ2)) else (bd (F_X8_at 17 x3 (0 : Int32) σ2) fun v12 σ8 => (if v12 = x1 then (bd (F_X8_at 17 x3 (2 : Int32) σ8) fun v18 σ14 => (if x2 < v18 then (F_X2_stayIn_82 k_X2_stayIn_2 x1 x2 x3 σ14) else (bd (F_X8_at 17 x3 (4 : Int32) σ14) fun v24 σ20 => (if v24 ≤ x2 then (F_X2_stayIn_82 k_X2_stayIn_2 x1 x2 x3 σ20) else (bd (F_X8_at 17 x3 (5 : Int32) σ20) fun v30 σ26 => (if v30 ≤ x2 then (F_X2_stayIn_82 k_X2_stayIn_2 x1 x2 x3 σ26) else (some (x3, σ26)))))))) else (F_X2_stayIn_82 k_X2_stayIn_2 x1 x2 x3 σ8)))))
def F_X2_stayIn_2 : Nat → Int32 → Int32 → Int32 → AH → Option (Int32 × AH) := fun k => match k with | 0 => fun _ _ _ _ => none | k + 1 => B_X2_stayIn_2 (F_X2_stayIn_2 k)
def F_X2_stayIn (x1 : Int32) (x2 : Int32) (σ : AH) : Option (Int32 × AH) := (F_X2_stayIn_2 BIG x1 x2 (0 : Int32) σ)
set_option maxRecDepth 100000 in
theorem t_X2_stayIn_82 {X : Sx} {l : Launch} {D : Nat} {k_X2_stayIn_2 : Int32 → Int32 → Int32 → AH → Option (Int32 × AH)} {x1 : Int32} {x2 : Int32} {x3 : Int32} {σ : AH} {v : Int32} {σ' : AH} (hD : 1 ≤ D) (hk_X2_stayIn_2 : ∀ (x1 : Int32) (x2 : Int32) (x3 : Int32) (σ : AH) (v : Int32) (σ' : AH), Sh σ → k_X2_stayIn_2 x1 x2 x3 σ = some (v, σ') → E X l m_X2_stayIn D 2 [(0, .ref 119), (1, .int x1), (2, .int x2), (3, .int x3)] [] σ (some (.int v)) σ') (hs : Sh σ) (h : F_X2_stayIn_82 k_X2_stayIn_2 x1 x2 x3 σ = some (v, σ')) : W_X2_stayIn_82 X l D x1 x2 x3 σ (some (.int v)) σ' := by
  unfold F_X2_stayIn_82 at h
  unfold W_X2_stayIn_82
  exact hk_X2_stayIn_2 _ _ _ _ _ _ hs  h
set_option maxRecDepth 100000 in
theorem t_X2_stayIn_2 {X : Sx} {l : Launch} {D : Nat} {k_X2_stayIn_2 : Int32 → Int32 → Int32 → AH → Option (Int32 × AH)} {x1 : Int32} {x2 : Int32} {x3 : Int32} {σ : AH} {v : Int32} {σ' : AH} (hD : 1 ≤ D) (hk_X2_stayIn_2 : ∀ (x1 : Int32) (x2 : Int32) (x3 : Int32) (σ : AH) (v : Int32) (σ' : AH), Sh σ → k_X2_stayIn_2 x1 x2 x3 σ = some (v, σ') → E X l m_X2_stayIn D 2 [(0, .ref 119), (1, .int x1), (2, .int x2), (3, .int x3)] [] σ (some (.int v)) σ') (hs : Sh σ) (h : B_X2_stayIn_2 k_X2_stayIn_2 x1 x2 x3 σ = some (v, σ')) : W_X2_stayIn_2 X l D x1 x2 x3 σ (some (.int v)) σ' := by
  unfold B_X2_stayIn_2 at h
  unfold W_X2_stayIn_2
  obtain ⟨v6, σ2, q1, h⟩ := of_bd h
  have hC2 := f_X8_rows  q1 (X := X) (l := l)
  have hs3 := hC2.1.2.2.2.1 hs
  refine ⟨0, v6, σ2, (Nat.le_trans (by decide) hD), hC2, ?_⟩
  refine ite_i (fun c4 => ?_) (fun c4 => ?_)
  · replace h := of_ifp h c4
    exact ret_i h
  · replace h := of_ifn h c4
    obtain ⟨v12, σ8, q5, h⟩ := of_bd h
    have hC6 := f_X8_at  q5 (X := X) (l := l)
    have hs7 := hC6.1.2.2.2.1 hs3
    refine ⟨0, v12, σ8, (Nat.le_trans (by decide) hD), hC6, ?_⟩
    refine ite_i (fun c8 => ?_) (fun c8 => ?_)
    · replace h := of_ifp h c8
      obtain ⟨v18, σ14, q9, h⟩ := of_bd h
      have hC10 := f_X8_at  q9 (X := X) (l := l)
      have hs11 := hC10.1.2.2.2.1 hs7
      refine ⟨0, v18, σ14, (Nat.le_trans (by decide) hD), hC10, ?_⟩
      refine ite_i (fun c12 => ?_) (fun c12 => ?_)
      · replace h := of_ifp h c12
        exact t_X2_stayIn_82 hD hk_X2_stayIn_2 hs11  h
      · replace h := of_ifn h c12
        obtain ⟨v24, σ20, q13, h⟩ := of_bd h
        have hC14 := f_X8_at  q13 (X := X) (l := l)
        have hs15 := hC14.1.2.2.2.1 hs11
        refine ⟨0, v24, σ20, (Nat.le_trans (by decide) hD), hC14, ?_⟩
        refine ite_i (fun c16 => ?_) (fun c16 => ?_)
        · replace h := of_ifp h c16
          exact t_X2_stayIn_82 hD hk_X2_stayIn_2 hs15  h
        · replace h := of_ifn h c16
          obtain ⟨v30, σ26, q17, h⟩ := of_bd h
          have hC18 := f_X8_at  q17 (X := X) (l := l)
          have hs19 := hC18.1.2.2.2.1 hs15
          refine ⟨0, v30, σ26, (Nat.le_trans (by decide) hD), hC18, ?_⟩
          refine ite_i (fun c20 => ?_) (fun c20 => ?_)
          · replace h := of_ifp h c20
            exact t_X2_stayIn_82 hD hk_X2_stayIn_2 hs19  h
          · replace h := of_ifn h c20
            exact ret_i h
    · replace h := of_ifn h c8
      exact t_X2_stayIn_82 hD hk_X2_stayIn_2 hs7  h
theorem e_X2_stayIn_2 {X : Sx} {l : Launch} {D : Nat} (hD : 1 ≤ D) : ∀ (k : Nat) (x1 : Int32) (x2 : Int32) (x3 : Int32) (σ : AH) (v : Int32) (σ' : AH), Sh σ → F_X2_stayIn_2 k x1 x2 x3 σ = some (v, σ') → E X l m_X2_stayIn D 2 [(0, .ref 119), (1, .int x1), (2, .int x2), (3, .int x3)] [] σ (some (.int v)) σ' := by
  intro k
  induction k with
  | zero => intro x1 x2 x3 σ v σ' hs h; cases h
  | succ k ih =>
    intro x1 x2 x3 σ v σ' hs h
    exact w_X2_stayIn_2 hs  (t_X2_stayIn_2 hD ih hs  h)
set_option maxRecDepth 100000 in
theorem t_X2_stayIn_0 {X : Sx} {l : Launch} {D : Nat} {x1 : Int32} {x2 : Int32} {σ : AH} {v : Int32} {σ' : AH} (hD : 1 ≤ D) (hs : Sh σ) (h : F_X2_stayIn x1 x2 σ = some (v, σ')) : W_X2_stayIn_0 X l D x1 x2 σ (some (.int v)) σ' := by
  unfold F_X2_stayIn at h
  unfold W_X2_stayIn_0
  exact e_X2_stayIn_2 hD  _ _ _ _ _ _ _ hs  h
theorem f_X2_stayIn {X : Sx} {l : Launch} {x1 : Int32} {x2 : Int32} {σ : AH} {v : Int32} {σ' : AH} (hs : Sh σ) (h : F_X2_stayIn x1 x2 σ = some (v, σ')) : Call X l m_X2_stayIn 1 [.ref 119, .int x1, .int x2] σ (some (.int v)) σ' :=
  Call.ofE ok_X2_stayIn rfl (Nat.le_of_ble_eq_true rfl) (w_X2_stayIn_0 hs  (t_X2_stayIn_0 (Nat.le_refl _) hs  h))
def F_X2_livedStay (x1 : Int32) (x2 : Int32) (σ : AH) : Option (Int32 × AH) := (bd (F_X2_stayIn x1 x2 σ) fun v6 σ2 => (if v6 = (-1 : Int32) then (some ((-1 : Int32), σ2)) else (bd (F_X2_isLived v6 x2 σ2) fun v12 σ8 => (if v12 = 0 then (some ((-1 : Int32), σ8)) else (some (v6, σ8))))))
set_option maxRecDepth 100000 in
theorem t_X2_livedStay_0 {X : Sx} {l : Launch} {D : Nat} {x1 : Int32} {x2 : Int32} {σ : AH} {v : Int32} {σ' : AH} (hD : 2 ≤ D) (hs : Sh σ) (h : F_X2_livedStay x1 x2 σ = some (v, σ')) : W_X2_livedStay_0 X l D x1 x2 σ (some (.int v)) σ' := by
  unfold F_X2_livedStay at h
  unfold W_X2_livedStay_0
  obtain ⟨v6, σ2, q1, h⟩ := of_bd h
  have hC2 := f_X2_stayIn (σ := σ) hs  q1 (X := X) (l := l)
  have hs3 := hC2.1.2.2.2.1 hs
  refine ⟨1, v6, σ2, (Nat.le_trans (by decide) hD), hC2, ?_⟩
  refine ite_i (fun c4 => ?_) (fun c4 => ?_)
  · replace h := of_ifp h c4
    exact ret_i h
  · replace h := of_ifn h c4
    obtain ⟨v12, σ8, q5, h⟩ := of_bd h
    have hC6 := f_X2_isLived (σ := σ2) hs3  q5 (X := X) (l := l)
    have hs7 := hC6.1.2.2.2.1 hs3
    refine ⟨1, v12, σ8, (Nat.le_trans (by decide) hD), hC6, ?_⟩
    refine ite_i (fun c8 => ?_) (fun c8 => ?_)
    · replace h := of_ifp h c8
      exact ret_i h
    · replace h := of_ifn h c8
      exact ret_i h
theorem f_X2_livedStay {X : Sx} {l : Launch} {x1 : Int32} {x2 : Int32} {σ : AH} {v : Int32} {σ' : AH} (hs : Sh σ) (h : F_X2_livedStay x1 x2 σ = some (v, σ')) : Call X l m_X2_livedStay 2 [.ref 119, .int x1, .int x2] σ (some (.int v)) σ' :=
  Call.ofE ok_X2_livedStay rfl (Nat.le_of_ble_eq_true rfl) (w_X2_livedStay_0 hs  (t_X2_livedStay_0 (Nat.le_refl _) hs  h))
def F_X2_roofOf_57 (k_X2_roofOf_2 : Int32 → Int32 → Int32 → AH → Option (Int32 × AH)) (x1 : Int32) (x2 : Int32) (x3 : Int32) (σ : AH) : Option (Int32 × AH) := (k_X2_roofOf_2 x1 x2 (x3 + 1) σ)
def B_X2_roofOf_2 (k_X2_roofOf_2 : Int32 → Int32 → Int32 → AH → Option (Int32 × AH)) (x1 : Int32) (x2 : Int32) (x3 : Int32) (σ : AH) : Option (Int32 × AH) := (bd (F_X8_rows 9 σ) fun v6 σ2 => (if v6 ≤ x3 then (some ((-1 : Int32), σ2)) else (bd (F_X2_livedStay x3 x2 σ2) fun v12 σ8 => (if v12 = (-1 : Int32) then (F_X2_roofOf_57 k_X2_roofOf_2 x1 x2 x3 σ8) else (bd (F_X8_at 17 v12 (1 : Int32) σ8) fun v18 σ14 => (if inB v18 60 = true then (if (gI σ14 114 v18.toNatClampNeg) = x1 then (some (x3, σ14)) else (F_X2_roofOf_57 k_X2_roofOf_2 x1 x2 x3 σ14)) else none))))))
def F_X2_roofOf_2 : Nat → Int32 → Int32 → Int32 → AH → Option (Int32 × AH) := fun k => match k with | 0 => fun _ _ _ _ => none | k + 1 => B_X2_roofOf_2 (F_X2_roofOf_2 k)
def F_X2_roofOf (x1 : Int32) (x2 : Int32) (σ : AH) : Option (Int32 × AH) := (F_X2_roofOf_2 BIG x1 x2 (0 : Int32) σ)
set_option maxRecDepth 100000 in
theorem t_X2_roofOf_57 {X : Sx} {l : Launch} {D : Nat} {k_X2_roofOf_2 : Int32 → Int32 → Int32 → AH → Option (Int32 × AH)} {x1 : Int32} {x2 : Int32} {x3 : Int32} {σ : AH} {v : Int32} {σ' : AH} (hD : 3 ≤ D) (hk_X2_roofOf_2 : ∀ (x1 : Int32) (x2 : Int32) (x3 : Int32) (σ : AH) (v : Int32) (σ' : AH), Sh σ → k_X2_roofOf_2 x1 x2 x3 σ = some (v, σ') → E X l m_X2_roofOf D 2 [(0, .ref 119), (1, .int x1), (2, .int x2), (3, .int x3)] [] σ (some (.int v)) σ') (hs : Sh σ) (h : F_X2_roofOf_57 k_X2_roofOf_2 x1 x2 x3 σ = some (v, σ')) : W_X2_roofOf_57 X l D x1 x2 x3 σ (some (.int v)) σ' := by
  unfold F_X2_roofOf_57 at h
  unfold W_X2_roofOf_57
  exact hk_X2_roofOf_2 _ _ _ _ _ _ hs  h
set_option maxRecDepth 100000 in
theorem t_X2_roofOf_2 {X : Sx} {l : Launch} {D : Nat} {k_X2_roofOf_2 : Int32 → Int32 → Int32 → AH → Option (Int32 × AH)} {x1 : Int32} {x2 : Int32} {x3 : Int32} {σ : AH} {v : Int32} {σ' : AH} (hD : 3 ≤ D) (hk_X2_roofOf_2 : ∀ (x1 : Int32) (x2 : Int32) (x3 : Int32) (σ : AH) (v : Int32) (σ' : AH), Sh σ → k_X2_roofOf_2 x1 x2 x3 σ = some (v, σ') → E X l m_X2_roofOf D 2 [(0, .ref 119), (1, .int x1), (2, .int x2), (3, .int x3)] [] σ (some (.int v)) σ') (hs : Sh σ) (h : B_X2_roofOf_2 k_X2_roofOf_2 x1 x2 x3 σ = some (v, σ')) : W_X2_roofOf_2 X l D x1 x2 x3 σ (some (.int v)) σ' := by
  unfold B_X2_roofOf_2 at h
  unfold W_X2_roofOf_2
  obtain ⟨v6, σ2, q1, h⟩ := of_bd h
  have hC2 := f_X8_rows  q1 (X := X) (l := l)
  have hs3 := hC2.1.2.2.2.1 hs
  refine ⟨0, v6, σ2, (Nat.le_trans (by decide) hD), hC2, ?_⟩
  refine ite_i (fun c4 => ?_) (fun c4 => ?_)
  · replace h := of_ifp h c4
    exact ret_i h
  · replace h := of_ifn h c4
    obtain ⟨v12, σ8, q5, h⟩ := of_bd h
    have hC6 := f_X2_livedStay (σ := σ2) hs3  q5 (X := X) (l := l)
    have hs7 := hC6.1.2.2.2.1 hs3
    refine ⟨2, v12, σ8, (Nat.le_trans (by decide) hD), hC6, ?_⟩
    refine ite_i (fun c8 => ?_) (fun c8 => ?_)
    · replace h := of_ifp h c8
      exact t_X2_roofOf_57 hD hk_X2_roofOf_2 hs7  h
    · replace h := of_ifn h c8
      obtain ⟨v18, σ14, q9, h⟩ := of_bd h
      have hC10 := f_X8_at  q9 (X := X) (l := l)
      have hs11 := hC10.1.2.2.2.1 hs7
      refine ⟨0, v18, σ14, (Nat.le_trans (by decide) hD), hC10, ?_⟩
      obtain ⟨g12, h⟩ := of_gd h
      refine ⟨(inB_mp g12), ?_⟩
      refine ite_i (fun c13 => ?_) (fun c13 => ?_)
      · replace h := of_ifp h c13
        exact ret_i h
      · replace h := of_ifn h c13
        exact t_X2_roofOf_57 hD hk_X2_roofOf_2 hs11  h
theorem e_X2_roofOf_2 {X : Sx} {l : Launch} {D : Nat} (hD : 3 ≤ D) : ∀ (k : Nat) (x1 : Int32) (x2 : Int32) (x3 : Int32) (σ : AH) (v : Int32) (σ' : AH), Sh σ → F_X2_roofOf_2 k x1 x2 x3 σ = some (v, σ') → E X l m_X2_roofOf D 2 [(0, .ref 119), (1, .int x1), (2, .int x2), (3, .int x3)] [] σ (some (.int v)) σ' := by
  intro k
  induction k with
  | zero => intro x1 x2 x3 σ v σ' hs h; cases h
  | succ k ih =>
    intro x1 x2 x3 σ v σ' hs h
    exact w_X2_roofOf_2 hs  (t_X2_roofOf_2 hD ih hs  h)
set_option maxRecDepth 100000 in
theorem t_X2_roofOf_0 {X : Sx} {l : Launch} {D : Nat} {x1 : Int32} {x2 : Int32} {σ : AH} {v : Int32} {σ' : AH} (hD : 3 ≤ D) (hs : Sh σ) (h : F_X2_roofOf x1 x2 σ = some (v, σ')) : W_X2_roofOf_0 X l D x1 x2 σ (some (.int v)) σ' := by
  unfold F_X2_roofOf at h
  unfold W_X2_roofOf_0
  exact e_X2_roofOf_2 hD  _ _ _ _ _ _ _ hs  h
theorem f_X2_roofOf {X : Sx} {l : Launch} {x1 : Int32} {x2 : Int32} {σ : AH} {v : Int32} {σ' : AH} (hs : Sh σ) (h : F_X2_roofOf x1 x2 σ = some (v, σ')) : Call X l m_X2_roofOf 3 [.ref 119, .int x1, .int x2] σ (some (.int v)) σ' :=
  Call.ofE ok_X2_roofOf rfl (Nat.le_of_ble_eq_true rfl) (w_X2_roofOf_0 hs  (t_X2_roofOf_0 (Nat.le_refl _) hs  h))
end
