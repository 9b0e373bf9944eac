section
theorem S_works {m : Nat} {x1 x2 x3 x4 x5 x6 x7 x8 : Int32} {σ : AH} (hm : m < 1000) (h : Inv m σ) : StpI m σ (F_X11_works x1 x2 x3 x4 x5 x6 x7 x8) (F_X12_works x1 x2 x3 x4 x5 x6 x7 x8) := by
  obtain ⟨hS, hR, hX, O, row, oc, W, ns, no, mv, n, C, nw, wi, L, tp, hV, hY, hW, hC, hI, hM⟩ := h
  have hB := hV.2.1
  obtain ⟨b0, hb0⟩ := hC.b0 1 (by decide)
  obtain ⟨τ, t1, t2, t3, t4, t5⟩ := C_works (x1 := x1) (x2 := x2) (x3 := x3) (x4 := x4) (x5 := x5) (x6 := x6) (x7 := x7) (x8 := x8) (hC.1.2.1.tbB hB).2.1 hC.1.2.2.ow hb0
  have F := tell_fr (jt := 1) hS hC.1 hV.1.1 hC.2.1.1 hM (by decide) hb0 t5 (by decide) (by decide)
  obtain ⟨τ', u1, u2, u3, u4⟩ := P_works (x1 := x1) (x2 := x2) (x3 := x3) (x4 := x4) (x5 := x5) (x6 := x6) (x7 := x7) (x8 := x8) hB (by rw [F.2.2.1 125 (by decide) (by decide) nn0]; exact hI.1 : gI τ 125 = row)
  have hn : nW row ≤ 8 := hV.nJ_le 1 (by decide)
  have lo : ∀ i, i ≠ 2 → (i < 23228 ∨ 23292 ≤ i) → tlW (woP x1 x2 x3 x4 x5 x6 x7 x8) 8 row 2 23228 8 (nW row) (gl [x1, x2, x3, x4, x5, x6, x7, x8]) i = row i := fun i h1 h2 => tlW_lo hn h1 h2
  have eP : nP (tlW (woP x1 x2 x3 x4 x5 x6 x7 x8) 8 row 2 23228 8 (nW row) (gl [x1, x2, x3, x4, x5, x6, x7, x8])) = nP row := by unfold nP; rw [lo 4 (by decide) (by omega)]
  exact ⟨_, τ, τ', t1, u1, tell_tab (jt := 1) hm hR hX hV hC hI (by decide) F (by decide) lo t2 hV.wo (hY.mo eP (by unfold nE; rw [lo 6 (by decide) (by omega)]; exact Nat.le_refl _)) (hW.cg hB (by omega) (lo 5 (by decide) (by omega)) (fun i h1 h2 => lo i (by omega) (by omega))) (Kk.t12 t4 (F.2.2.2.1 13 (by decide)) ⟨lo 6 (by decide) (by omega), fun i h1 h2 => lo i (by omega) (by omega)⟩) t3 u2 u3 u4⟩
theorem S_gangs {m : Nat} {x1 x2 x3 x4 : Int32} {σ : AH} (hm : m < 1000) (h : Inv m σ) : StpI m σ (F_X11_gangs x1 x2 x3 x4) (F_X12_gangs x1 x2 x3 x4) := by
  obtain ⟨hS, hR, hX, O, row, oc, W, ns, no, mv, n, C, nw, wi, L, tp, hV, hY, hW, hC, hI, hM⟩ := h
  have hB := hV.2.1
  obtain ⟨b0, hb0⟩ := hC.b0 2 (by decide)
  obtain ⟨τ, t1, t2, t3, t4, t5⟩ := C_gangs (x1 := x1) (x2 := x2) (x3 := x3) (x4 := x4) (hC.1.2.1.tbB hB).2.2.1 hC.1.2.2.ow hb0
  have F := tell_fr (jt := 2) hS hC.1 hV.1.1 hC.2.1.1 hM (by decide) hb0 t5 (by decide) (by decide)
  obtain ⟨τ', u1, u2, u3, u4⟩ := P_gangs (x1 := x1) (x2 := x2) (x3 := x3) (x4 := x4) hB (by rw [F.2.2.1 125 (by decide) (by decide) nn0]; exact hI.1 : gI τ 125 = row)
  have hn : nG row ≤ 60 := hV.nJ_le 2 (by decide)
  have lo : ∀ i, i ≠ 3 → (i < 23292 ∨ 23532 ≤ i) → tlW (gaP x1 x2 x3 x4) 60 row 3 23292 4 (nG row) (gl [x1, x2, x3, x4]) i = row i := fun i h1 h2 => tlW_lo hn h1 h2
  have eP : nP (tlW (gaP x1 x2 x3 x4) 60 row 3 23292 4 (nG row) (gl [x1, x2, x3, x4])) = nP row := by unfold nP; rw [lo 4 (by decide) (by omega)]
  exact ⟨_, τ, τ', t1, u1, tell_tab (jt := 2) hm hR hX hV hC hI (by decide) F (by decide) lo t2 hV.ga (hY.mo eP (by unfold nE; rw [lo 6 (by decide) (by omega)]; exact Nat.le_refl _)) (hW.cg hB (by omega) (lo 5 (by decide) (by omega)) (fun i h1 h2 => lo i (by omega) (by omega))) (Kk.t12 t4 (F.2.2.2.1 13 (by decide)) ⟨lo 6 (by decide) (by omega), fun i h1 h2 => lo i (by omega) (by omega)⟩) t3 u2 u3 u4⟩
theorem S_plot {m : Nat} {x1 x2 x3 x4 : Int32} {σ : AH} (hm : m < 1000) (h : Inv m σ) : StpI m σ (F_X11_plot x1 x2 x3 x4) (F_X12_plot x1 x2 x3 x4) := by
  obtain ⟨hS, hR, hX, O, row, oc, W, ns, no, mv, n, C, nw, wi, L, tp, hV, hY, hW, hC, hI, hM⟩ := h
  have hB := hV.2.1
  obtain ⟨b0, hb0⟩ := hC.b0 3 (by decide)
  obtain ⟨τ, t1, t2, t3, t4, t5⟩ := C_plot (x1 := x1) (x2 := x2) (x3 := x3) (x4 := x4) (hC.1.2.1.tbB hB).2.2.2.1 hC.1.2.2.ow hb0
  have F := tell_fr (jt := 3) hS hC.1 hV.1.1 hC.2.1.1 hM (by decide) hb0 t5 (by decide) (by decide)
  obtain ⟨τ', u1, u2, u3, u4⟩ := P_plot (x1 := x1) (x2 := x2) (x3 := x3) (x4 := x4) hB (by rw [F.2.2.1 125 (by decide) (by decide) nn0]; exact hI.1 : gI τ 125 = row)
  have hn : nP row ≤ 30 := hV.nJ_le 3 (by decide)
  have lo : ∀ i, i ≠ 4 → (i < 23532 ∨ 23652 ≤ i) → tlW (ptP x1 x2 x3 x4) 30 row 4 23532 4 (nP row) (gl [x1, x2, x3, x4]) i = row i := fun i h1 h2 => tlW_lo hn h1 h2
  have fin : ∃ oc', RwV (tlW (ptP x1 x2 x3 x4) 30 row 4 23532 4 (nP row) (gl [x1, x2, x3, x4])) oc' W ns no mv ∧ StY (tlW (ptP x1 x2 x3 x4) 30 row 4 23532 4 (nP row) (gl [x1, x2, x3, x4])) n C oc' W ∧ nP row ≤ nP (tlW (ptP x1 x2 x3 x4) 30 row 4 23532 4 (nP row) (gl [x1, x2, x3, x4])) := by
    by_cases c : ptP x1 x2 x3 x4 = 0 ∧ nP row ≠ 30
    · have eE : nE (tlW (ptP x1 x2 x3 x4) 30 row 4 23532 4 (nP row) (gl [x1, x2, x3, x4])) = nE row := by unfold nE; rw [lo 6 (by decide) (by omega)]
      rw [tlW_yes c.1 c.2] at eE ⊢
      obtain ⟨p1, p2⟩ := hV.pt c.1 c.2
      exact ⟨_, p1, hY.pl hn p2 eE, by omega⟩
    · rw [tlW_no c]; exact ⟨oc, hV, hY, Nat.le_refl _⟩
  obtain ⟨oc', v1, v2, v3⟩ := fin
  exact ⟨_, τ, τ', t1, u1, tell_tab (jt := 3) hm hR hX hV hC hI (by decide) F (by decide) lo t2 v1 v2 (hW.cg hB v3 (lo 5 (by decide) (by omega)) (fun i h1 h2 => lo i (by omega) (by omega))) (Kk.t12 t4 (F.2.2.2.1 13 (by decide)) ⟨lo 6 (by decide) (by omega), fun i h1 h2 => lo i (by omega) (by omega)⟩) t3 u2 u3 u4⟩
theorem stP_0 {row : Nat → Int32} {n : Nat} {wi : Nat → Nat} {x1 x2 x3 : Int32} (h : stP row n wi x1 x2 x3 = 0) : anyW wi (cl x1) n = false := by
  unfold stP at h
  by_cases c1 : (rgB 0 259 x2 && rgB 0 259 x3) = true
  · rw [if_pos c1] at h
    by_cases c2 : ltB (nP row) x1 = true
    · rw [if_pos c2] at h
      by_cases c3 : anyW wi (cl x1) n = true
      · rw [if_pos c3] at h; exact absurd h (by decide)
      · exact Bool.eq_false_iff.mpr c3
    · rw [if_neg c2] at h; exact absurd h (by decide)
  · rw [if_neg c1] at h; exact absurd h (by decide)
theorem S_start {m : Nat} {x1 x2 x3 : Int32} {σ : AH} (hm : m < 1000) (h : Inv m σ) : StpI m σ (F_X11_start x1 x2 x3) (F_X12_start x1 x2 x3) := by
  obtain ⟨hS, hR, hX, O, row, oc, W, ns, no, mv, n, C, nw, wi, L, tp, hV, hY, hW, hC, hI, hM⟩ := h
  have hB := hV.2.1
  obtain ⟨b0, hb0⟩ := hC.b0 4 (by decide)
  have hTB := hC.1.2.1.tbB hB
  obtain ⟨τ, t1, t2, t3, t4, t5⟩ := C_start (x1 := x1) (x2 := x2) (x3 := x3) hB hTB hW hC.2.2.1 hTB.2.2.2.2 hC.1.2.2.ow hb0
  have F := tell_fr (jt := 4) hS hC.1 hV.1.1 hC.2.1.1 hM (by decide) hb0 t5 (by decide) (by decide)
  have hWs : WsI nw wi τ := by
    have w := hI.2.1
    unfold WsI at w ⊢
    rw [F.2.2.1 124 (by decide) (by decide) nn0, F.2.2.1 152 (by decide) (by decide) nn0]; exact w
  obtain ⟨τ', u1, u2, u3, u4⟩ := P_start (x1 := x1) (x2 := x2) (x3 := x3) hB hW (by rw [F.2.2.1 125 (by decide) (by decide) nn0]; exact hI.1 : gI τ 125 = row) hWs
  have hn : nS row ≤ 60 := hV.nJ_le 4 (by decide)
  have lo : ∀ i, i ≠ 5 → (i < 23652 ∨ 23832 ≤ i) → tlW (stP row nw wi x1 x2 x3) 60 row 5 23652 3 (nS row) (gl [x1, x2, x3]) i = row i := fun i h1 h2 => tlW_lo hn h1 h2
  have eP : nP (tlW (stP row nw wi x1 x2 x3) 60 row 5 23652 3 (nS row) (gl [x1, x2, x3])) = nP row := by unfold nP; rw [lo 4 (by decide) (by omega)]
  have hW' : WiV (tlW (stP row nw wi x1 x2 x3) 60 row 5 23652 3 (nS row) (gl [x1, x2, x3])) nw wi := by
    refine ⟨hW.1, fun i hi => by rw [eP]; exact hW.2.1 i hi, hW.2.2.1, ?_⟩
    by_cases c : stP row nw wi x1 x2 x3 = 0 ∧ nS row ≠ 60
    · rw [tlW_yes c.1 c.2]
      intro i hi d hd
      have e5 : nS (tlR row 5 23652 3 (nS row) (gl [x1, x2, x3])) = nS row + 1 := by
        show cl _ = _
        rw [tlR_nb]; exact nI_clamp (by omega)
      rw [e5] at hd
      by_cases z : d = nS row
      · have q : sa (tlR row 5 23652 3 (nS row) (gl [x1, x2, x3])) d 0 = x1 := by
          show tlR row 5 23652 3 (nS row) (gl [x1, x2, x3]) (23652 + 3 * d + 0) = _
          rw [z, Nat.mul_comm 3, tlR_at (by decide) (by decide)]; rfl
        rw [q]
        exact fun e => (anyW_f nw).mp (stP_0 c.1) i hi e.symm
      · have q : sa (tlR row 5 23652 3 (nS row) (gl [x1, x2, x3])) d 0 = sa row d 0 := by
          show tlR row 5 23652 3 (nS row) (gl [x1, x2, x3]) (23652 + 3 * d + 0) = _
          rw [tlR_lo (by omega) (by omega)]; rfl
        rw [q]; exact hW.2.2.2 i hi d (by omega)
    · rw [tlW_no c]; exact hW.2.2.2
  exact ⟨_, τ, τ', t1, u1, tell_tab (jt := 4) hm hR hX hV hC hI (by decide) F (by decide) lo t2 hV.st (hY.mo eP (by unfold nE; rw [lo 6 (by decide) (by omega)]; exact Nat.le_refl _)) hW' (Kk.t12 t4 (F.2.2.2.1 13 (by decide)) ⟨lo 6 (by decide) (by omega), fun i h1 h2 => lo i (by omega) (by omega)⟩) t3 u2 u3 u4⟩
theorem S_entry {m : Nat} {x1 x2 x3 x4 x5 x6 x7 : Int32} {σ : AH} (hm : m < 1000) (h : Inv m σ) : StpI m σ (F_X11_entry x1 x2 x3 x4 x5 x6 x7) (F_X12_entry x1 x2 x3 x4 x5 x6 x7) := by
  obtain ⟨hS, hR, hX, O, row, oc, W, ns, no, mv, n, C, nw, wi, L, tp, hV, hY, hW, hC, hI, hM⟩ := h
  have hB := hV.2.1
  have hE := hV.2.2.1
  obtain ⟨b0, hb0⟩ := hC.b0 5 (by decide)
  obtain ⟨τ, t1, t2, t3, t4, t5⟩ := C_entry (x1 := x1) (x2 := x2) (x3 := x3) (x4 := x4) (x5 := x5) (x6 := x6) (x7 := x7) (hC.1.2.1.tbE hE) hC.1.2.2.ow hb0
  have F := tell_fr (jt := 5) hS hC.1 hV.1.1 hC.2.1.1 hM (by decide) hb0 t5 (by decide) (by decide)
  obtain ⟨τ', u1, u2, u3, u4⟩ := P_entry (x1 := x1) (x2 := x2) (x3 := x3) (x4 := x4) (x5 := x5) (x6 := x6) (x7 := x7) hE (by rw [F.2.2.1 125 (by decide) (by decide) nn0]; exact hI.1 : gI τ 125 = row)
  have hn : nE row ≤ 60 := hV.nJ_le 5 (by decide)
  have lo : ∀ i, i ≠ 6 → (i < 23832 ∨ 24432 ≤ i) → tlW (entP x1 x2 x3 x4 x5 x6 x7) 60 row 6 23832 10 (nE row) (gl [x1, x2, x3, x4, x5, x6, x7, -1, -1, -1]) i = row i := fun i h1 h2 => tlW_lo hn h1 h2
  have eP : nP (tlW (entP x1 x2 x3 x4 x5 x6 x7) 60 row 6 23832 10 (nE row) (gl [x1, x2, x3, x4, x5, x6, x7, -1, -1, -1])) = nP row := by unfold nP; rw [lo 4 (by decide) (by omega)]
  have eE : nE row ≤ nE (tlW (entP x1 x2 x3 x4 x5 x6 x7) 60 row 6 23832 10 (nE row) (gl [x1, x2, x3, x4, x5, x6, x7, -1, -1, -1])) := by
    by_cases c : entP x1 x2 x3 x4 x5 x6 x7 = 0 ∧ nE row ≠ 60
    · rw [tlW_yes c.1 c.2]
      have : nE (tlR row 6 23832 10 (nE row) (gl [x1, x2, x3, x4, x5, x6, x7, -1, -1, -1])) = nE row + 1 := by
        show cl _ = _
        rw [tlR_nb]; exact nI_clamp (by omega)
      omega
    · rw [tlW_no c]; exact Nat.le_refl _
  exact ⟨_, τ, τ', t1, u1, tell_tab (jt := 5) hm hR hX hV hC hI (by decide) F (by decide) lo t2 hV.et (hY.mo eP eE) (hW.cg hB (by omega) (lo 5 (by decide) (by omega)) (fun i h1 h2 => lo i (by omega) (by omega))) (Kk.t13 t4 (F.2.2.2.1 12 (by decide)) ⟨fun i hi => lo i (by omega) (by omega), fun i h1 h2 => lo i (by omega) (by omega)⟩) t3 u2 u3 u4⟩
theorem S_lodge {m : Nat} {x1 x2 x3 x4 : Int32} {σ : AH} (hm : m < 1000) (h : Inv m σ) : StpI m σ (F_X11_lodge x1 x2 x3 x4) (F_X12_lodge x1 x2 x3 x4) := by
  obtain ⟨hS, hR, hX, O, row, oc, W, ns, no, mv, n, C, nw, wi, L, tp, hV, hY, hW, hC, hI, hM⟩ := h
  have hB := hV.2.1
  have hL := hV.2.2.2.2.1
  obtain ⟨b0, hb0⟩ := hC.b0 6 (by decide)
  obtain ⟨τ, t1, t2, t3, t5⟩ := C_lodge (x1 := x1) (x2 := x2) (x3 := x3) (x4 := x4) hB (hC.1.2.1.tbB hB) (hC.1.2.1.tbL hL) hC.1.2.2.ow hb0
  have F := tell_fr (jt := 6) hS hC.1 hV.1.1 hC.2.1.1 hM (by decide) hb0 t5 (by decide) (by decide)
  obtain ⟨τ', u1, u2, u3, u4⟩ := P_lodge (x1 := x1) (x2 := x2) (x3 := x3) (x4 := x4) hB hL (by rw [F.2.2.1 125 (by decide) (by decide) nn0]; exact hI.1 : gI τ 125 = row)
  have hn : nL row ≤ 40 := hV.nJ_le 6 (by decide)
  have lo : ∀ i, i ≠ 9 → (i < 24432 ∨ 24592 ≤ i) → tlW (loP row x1 x2 x3 x4) 40 row 9 24432 4 (nL row) (gl [x1, x2, x3, x4]) i = row i := fun i h1 h2 => tlW_lo hn h1 h2
  have eP : nP (tlW (loP row x1 x2 x3 x4) 40 row 9 24432 4 (nL row) (gl [x1, x2, x3, x4])) = nP row := by unfold nP; rw [lo 4 (by decide) (by omega)]
  exact ⟨_, τ, τ', t1, u1, tell_tab (jt := 6) hm hR hX hV hC hI (by decide) F (by decide) lo t2 hV.lo (hY.mo eP (by unfold nE; rw [lo 6 (by decide) (by omega)]; exact Nat.le_refl _)) (hW.cg hB (by omega) (lo 5 (by decide) (by omega)) (fun i h1 h2 => lo i (by omega) (by omega))) (Or.inl ⟨F.2.2.2.1 12 (by decide), F.2.2.2.1 13 (by decide), ⟨fun i hi => lo i (by omega) (by omega), fun i h1 h2 => lo i (by omega) (by omega)⟩, ⟨lo 6 (by decide) (by omega), fun i h1 h2 => lo i (by omega) (by omega)⟩⟩) t3 u2 u3 u4⟩
theorem S_mark {m : Nat} {x1 x2 x3 : Int32} {σ : AH} (hm : m < 1000) (h : Inv m σ) : StpI m σ (F_X11_mark x1 x2 x3) (F_X12_mark x1 x2 x3) := by
  obtain ⟨hS, hR, hX, O, row, oc, W, ns, no, mv, n, C, nw, wi, L, tp, hV, hY, hW, hC, hI, hM⟩ := h
  have hB := hV.2.1
  have hE := hV.2.2.1
  obtain ⟨b0, hb0⟩ := hC.b0 5 (by decide)
  obtain ⟨τ, t1, t2, t3, t4, t5⟩ := C_mark (x1 := x1) (x2 := x2) (x3 := x3) hE (hC.1.2.1.tbE hE) hC.1.2.2.ow hb0
  have F := tell_fr (jt := 5) hS hC.1 hV.1.1 hC.2.1.1 hM (by decide) hb0 t5.x (by decide) (by decide)
  obtain ⟨τ', u1, u2, u3, u4⟩ := P_mark (x1 := x1) (x2 := x2) (x3 := x3) hE (by rw [F.2.2.1 125 (by decide) (by decide) nn0]; exact hI.1 : gI τ 125 = row)
  have hn : nE row ≤ 60 := hV.nJ_le 5 (by decide)
  have lo : ∀ i, (i < 23832 ∨ 24432 ≤ i) → markR row x1 x2 x3 i = row i := fun i hi => by
    unfold markR
    by_cases c : markV row x1 x2 x3 = 0
    · rw [if_pos c]
      have b : (rgB 0 2 x2 = true) ∧ ltB (nE row) x1 = true := by
        unfold markV at c
        by_cases c1 : (rgB 0 2 x2 && rgB 0 9999 x3) = true
        · rw [if_pos c1] at c
          by_cases c2 : ltB (nE row) x1 = true
          · simp only [Bool.and_eq_true] at c1; exact ⟨c1.1, c2⟩
          · rw [if_neg c2] at c; exact absurd c (by decide)
        · rw [if_neg c1] at c; exact absurd c (by decide)
      have k1 := (ltB_n b.2 (by omega)).2
      have k2 := (isN_r b.1 (by decide) (by decide) : isN x2 3).2
      exact up_ne _ _ _ (by omega)
    · rw [if_neg c]
  have eP : nP (markR row x1 x2 x3) = nP row := by unfold nP; rw [lo 4 (by omega)]
  refine ⟨_, τ, τ', t1, u1, tell_tab (jt := 5) hm hR hX hV hC hI (by decide) F (by decide) (fun i _ h2 => lo i h2) t2 hV.mk (hY.mo eP (by unfold nE; rw [lo 6 (by omega)]; exact Nat.le_refl _)) (hW.cg hB (by omega) (lo 5 (by omega)) (fun i h1 h2 => lo i (by omega))) ?_ t3 u2 u3 u4⟩
  have e12 : gI τ 0 12 = gI σ 0 12 := F.2.2.2.1 12 (by decide)
  have rb : RwB row (markR row x1 x2 x3) := ⟨fun i hi => lo i (by omega), fun i h1 h2 => lo i (by omega)⟩
  by_cases c : markV row x1 x2 x3 = 0
  · rw [if_pos c] at t4; exact Or.inr (Or.inr ⟨e12, t4, rb⟩)
  · rw [if_neg c] at t4
    have : markR row x1 x2 x3 = row := by unfold markR; rw [if_neg c]
    rw [this]; exact Or.inl ⟨e12, t4, RwB.rf, RwE.rf⟩
/-! TARGETS, STREETS -/
theorem street_end {m n nw L : Nat} {O : Nat → Nat} {row row' tp : Nat → Int32} {oc : Nat → Nat → Option (Nat × Nat × Bool × Nat)} {W ns no mv : Nat} {C : Nat → Nat → Int32} {wi : Nat → Nat} {v : Int32} {σ τ τ' : AH} {cs : List Nat} (hm : m < 1000) (hS : Sh σ) (hR : RmI m σ) (hX : XIn σ) (hV : RwV row oc W ns no mv) (hY : StY row n C oc W) (hW : WiV row nw wi) (hC : CIn m O row n C nw wi L tp σ) (hI : RIn row nw wi L tp σ) (hM : ImI O σ) (c : Ch cs [(0, 10)] σ τ) (hcs : ∀ i ∈ cs, i = 19 ∨ i = 20) (lo : ∀ i, (i < 24592 ∨ 29512 ≤ i) → row' i = row i) (hT : TgI row' τ) (hV' : RwV row' oc W ns no mv) (e10 : gI τ 0 10 = v) (u2 : gI τ' 125 = row') (u3 : gI τ' 124 1 = v) (u4 : Ch [125] TDf τ τ') : Inv (m + 1) τ' := by
  have hB := hV.2.1
  obtain ⟨st, ct_, w⟩ := id hC.1
  have rb : RwB row row' := ⟨fun i hi => lo i (by omega), fun i h1 h2 => lo i (by omega)⟩
  have re : RwE row row' := ⟨lo 6 (by omega), fun i h1 h2 => lo i (by omega)⟩
  have hA : RwA row row' := ⟨lo 0 (by omega), fun i h1 h2 => lo i (by omega)⟩
  have ei : ∀ i, i ≠ 19 → i ≠ 20 → i ≠ 0 → gI τ i = gI σ i := fun i h1 h2 h3 => c.rI (fun z => by have := hcs i z; omega) (fun q hq => by
    rcases List.mem_singleton.mp hq with rfl; exact fun z => h3 z.symm)
  have e0 : ∀ k, k ≠ 10 → gI τ 0 k = gI σ 0 k := fun k hk => c.pI (fun z => by have := hcs 0 z; omega) (fun z => hk (Prod.mk.inj (List.mem_singleton.mp z)).2)
  have gf : Gf (fun i => i = 19 ∨ i = 20 ∨ i = 0) σ τ := c.gf2 (fun i hi => by have := hcs i hi; omega) (fun q hq => by
    rcases List.mem_singleton.mp hq with rfl; exact Or.inr (Or.inr rfl))
  have hl : LwI row' τ := LwI_cg hA hV.1.1 (hC.2.1.1.k2 c (fun i hi => by have := hcs i hi; omega) (by decide))
  have kk : Kk row row' σ τ := Or.inl ⟨e0 12 (by decide), e0 13 (by decide), rb, re⟩
  obtain ⟨hcc, hcn⟩ := kk.cc hC.2.1 hV.1.1 hB hV.2.2.1 hl hC.2.2.2.2 hm (fun i h1 h2 => ei i (by omega) (by omega) (by omega))
  have eP : nP row' = nP row := by unfold nP; rw [lo 4 (by omega)]
  have eE : nE row' = nE row := by unfold nE; rw [lo 6 (by omega)]
  have eR : gR τ = gR σ := c.2.2.2.1
  refine inv_end hX hC hI (c.sh hS) (O' := O) ⟨?_, ⟨⟨hcc.1.1.1, hcc.1.1.2, fun a b ha hb => ?_⟩, fun j hj => ?_, ⟨hT.2.2.1, hT.2.2.2⟩, ?_⟩, ?_⟩ (hM.gf (P := fun i => i = 19 ∨ i = 20 ∨ i = 0) gf hS.1 (fun _ _ => rfl) (fun i hi => Or.inl (by omega))) ((hR.ch c).mo (by omega)) hcc hcn (fun i h1 h2 _ => ei i (by omega) (by omega) (by omega)) (e0 11 (by decide)) hV' (hY.mo eP (by omega)) (hW.cg hB (by omega) (lo 5 (by omega)) (fun i h1 h2 => lo i (by omega))) e10 u2 u3 u4 qTD
  · obtain ⟨s1, s2, s3, s4⟩ := st
    refine ⟨by rw [c.1, c.2.1]; exact s1, by rw [eR]; exact s2, by rw [c.1]; exact s3, fun j hj => ?_⟩
    obtain ⟨b, q, q1, q2⟩ := s4 j hj
    exact ⟨b, q, q1.gf gf (by omega), q2⟩
  · rw [eR] at hb; rw [c.1]; exact ct_.1.2.2 a b ha hb
  · obtain ⟨b, b1, b2', b3⟩ := w.2.2.1 j hj
    have nb : b ≠ 19 ∧ b ≠ 20 ∧ b ≠ 0 := by rcases b3 with z | z <;> omega
    have g := (ct_.2.1 j hj).gf gf b1 (by omega) (by omega)
    by_cases z : j = 7
    · have e1 : nJ row' n j = nJ row n j := by unfold nJ; rw [if_pos z, if_pos z]
      rw [e1]; exact g.congr (fun s k _ _ => by unfold CJ; rw [if_pos z, if_pos z])
    · have j7 : j < 7 := by omega
      obtain ⟨k1, k2, k3⟩ := jM j j7
      have e1 : nJ row' n j = nJ row n j := by rw [nJ_n j7, nJ_n j7, lo _ (by omega)]
      rw [e1]
      refine g.congr (fun s k hs hk => ?_)
      rw [nJ_n j7] at hs
      have := jIx (Nat.lt_of_lt_of_le hs (hV.nJ_le j j7)) hk
      rw [CJ_n j7, CJ_n j7]
      exact lo _ (by omega)
  · obtain ⟨_, _, _, g12, g13, g14, g15⟩ := ct_
    rw [ei 1 (by decide) (by decide) (by decide), lo 10 (by omega), lo 11 (by omega), lo 8 (by omega), lo 12 (by omega)]
    exact ⟨g12, g13, g14, g15⟩
  · unfold Oww at w ⊢; rw [c.2.1, eR]; exact w
theorem target_lo {row : Nat → Int32} {x1 x2 x3 : Int32} : ∀ i, (i < 24592 ∨ 29512 ≤ i) → targetR row x1 x2 x3 i = row i := fun i hi => by
  unfold targetR
  by_cases c : rgB 0 5 x1 = true ∧ rgB 0 19 x2 = true
  · rw [if_pos c]
    by_cases c3 : rgB 0 10000 x3 = true
    · rw [if_pos c3]
      have k1 := (isN_r c.1 (by decide) (by decide) : isN x1 6).2
      have k2 := (isN_r c.2 (by decide) (by decide) : isN x2 20).2
      exact up_ne _ _ _ (by omega)
    · rw [if_neg c3]
  · rw [if_neg c]
theorem street_lo {row : Nat → Int32} {B : Nat} {x1 x2 x3 x4 : Int32} (hB : B = 24712 ∨ B = 27112) : ∀ i, (i < 24592 ∨ 29512 ≤ i) → streetR row B x1 x2 x3 x4 i = row i := fun i hi => by
  unfold streetR
  by_cases c : stOK x1 x2 x3 x4 = true
  · rw [if_pos c]
    have c' := of_decide_eq_true c
    have k1 := (isN_r c'.1.1 (by decide) (by decide) : isN x1 6).2
    have k2 := (isN_r c'.1.2 (by decide) (by decide) : isN x2 20).2
    have k3 := (isN_r c'.2.1 (by decide) (by decide) : isN x3 20).2
    have : stN_ x1 x2 x3 < 2400 := by unfold stN_; omega
    exact up_ne _ _ _ (by omega)
  · rw [if_neg c]
theorem S_target {m : Nat} {x1 x2 x3 : Int32} {σ : AH} (hm : m < 1000) (h : Inv m σ) : StpI m σ (F_X11_target x1 x2 x3) (F_X12_target x1 x2 x3) := by
  obtain ⟨hS, hR, hX, O, row, oc, W, ns, no, mv, n, C, nw, wi, L, tp, hV, hY, hW, hC, hI, hM⟩ := h
  obtain ⟨τ, t1, t2, t3, t4⟩ := C_target (x1 := x1) (x2 := x2) (x3 := x3) (hC.1.2.1.tg hC.1.1)
  obtain ⟨τ', u1, u2, u3, u4⟩ := P_target (x1 := x1) (x2 := x2) (x3 := x3) (by rw [t4.rI (by decide) (by decide)]; exact hI.1 : gI τ 125 = row)
  exact ⟨_, τ, τ', t1, u1, street_end hm hS hR hX hV hY hW hC hI hM t4 (by decide) target_lo t2 hV.tg t3 u2 u3 u4⟩
theorem S_claim {m : Nat} {x1 x2 x3 x4 : Int32} {σ : AH} (hm : m < 1000) (h : Inv m σ) : StpI m σ (F_X11_claim x1 x2 x3 x4) (F_X12_claim x1 x2 x3 x4) := by
  obtain ⟨hS, hR, hX, O, row, oc, W, ns, no, mv, n, C, nw, wi, L, tp, hV, hY, hW, hC, hI, hM⟩ := h
  obtain ⟨τ, t1, t2, t3, t4⟩ := C_claim (x1 := x1) (x2 := x2) (x3 := x3) (x4 := x4) hV.2.2.2.1 (hC.1.2.1.tg hC.1.1)
  obtain ⟨τ', u1, u2, u3, u4⟩ := P_street (B := 24712) (x1 := x1) (x2 := x2) (x3 := x3) (x4 := x4) (by decide) (by rw [t4.rI (by decide) (by decide)]; exact hI.1 : gI τ 125 = row)
  exact ⟨_, τ, τ', t1, by unfold F_X12_claim; rw [show (24712 : Int32) = nI 24712 from rfl, u1]; rfl, street_end hm hS hR hX hV hY hW hC hI hM t4 (by decide) (street_lo (Or.inl rfl)) t2 (hV.sr (Or.inl rfl)) t3 u2 u3 u4⟩
theorem S_look {m : Nat} {x1 x2 x3 x4 : Int32} {σ : AH} (hm : m < 1000) (h : Inv m σ) : StpI m σ (F_X11_look x1 x2 x3 x4) (F_X12_look x1 x2 x3 x4) := by
  obtain ⟨hS, hR, hX, O, row, oc, W, ns, no, mv, n, C, nw, wi, L, tp, hV, hY, hW, hC, hI, hM⟩ := h
  obtain ⟨τ, t1, t2, t3, t4⟩ := C_look (x1 := x1) (x2 := x2) (x3 := x3) (x4 := x4) hV.2.2.2.1 (hC.1.2.1.tg hC.1.1)
  obtain ⟨τ', u1, u2, u3, u4⟩ := P_street (B := 27112) (x1 := x1) (x2 := x2) (x3 := x3) (x4 := x4) (by decide) (by rw [t4.rI (by decide) (by decide)]; exact hI.1 : gI τ 125 = row)
  exact ⟨_, τ, τ', t1, by unfold F_X12_look; rw [show (27112 : Int32) = nI 27112 from rfl, u1]; rfl, street_end hm hS hR hX hV hY hW hC hI hM t4 (by decide) (street_lo (Or.inr rfl)) t2 (hV.sr (Or.inr rfl)) t3 u2 u3 u4⟩
end
