section
/-! calls that tell nothing: both answer alike, and the INVARIANT stays -/
def StpI (m : Nat) (σ : AH) (f g : AH → Option (Int32 × AH)) : Prop := ∃ v τ τ', f σ = some (v, τ) ∧ g τ = some (v, τ') ∧ Inv (m + 1) τ'
theorem q125 {row : Nat → Int32} {σ τ : AH} {cs : List Nat} {fs : List (Nat × Nat)} (h : gI σ 125 = row) (c : Ch cs fs σ τ) (hq : QCf cs fs) : gI τ 125 = row := by
  rw [c.rI (fun q => by have := hq.1 _ q; omega) (fun q hh e => by have := hq.2 q hh; omega)]; exact h
theorem qLW : QCf LWc LWf := ⟨by decide, by decide⟩
theorem qRG : QCf RGc RGf := ⟨by decide, by decide⟩
theorem qCQ : QCf CQc CQf := ⟨by decide, by decide⟩
theorem qLC : QCf LCq [(28, 6)] := ⟨by decide, by decide⟩
theorem qJC : QCf [114] [(113, 3), (113, 4)] := ⟨by decide, by decide⟩
theorem qNo : QCf [] [] := ⟨by decide, by decide⟩
theorem rPQ : QRf PQc PQf := ⟨by decide, by decide⟩
theorem rGA : QRf GAc ((124, 0) :: (124, 60) :: (124, 61) :: RNf) := ⟨by decide, by decide⟩
theorem rLQ : QRf LQc LQf := ⟨by decide, by decide⟩
theorem rFH : QRf FHc ((124, 0) :: RNf) := ⟨by decide, by decide⟩
theorem r160 : QRf [160] [(124, 0)] := ⟨by decide, by decide⟩
theorem r0_ : QRf [] [(124, 0)] := ⟨by decide, by decide⟩
theorem c0_ {σ : AH} {v : Int32} : Ch [] [(124, 0)] σ (sI σ 124 0 v) := Ch.sI1 (Or.inl (by simp))
theorem S_need {m : Nat} {x1 x2 x3 x4 x5 x6 : Int32} {σ : AH} (h : Inv m σ) : StpI m σ (F_X11_need x1 x2 x3 x4 x5 x6) (F_X12_need x1 x2 x3 x4 x5 x6) := by
  obtain ⟨hS, hR, hX, O, row, oc, W, ns, no, mv, n, C, nw, wi, L, tp, hV, hY, hW, hC, hI, hM⟩ := h
  obtain ⟨⟨av, aw_, ax⟩, bv_, ev, tv, lv, st, ⟨e8, n8⟩, ⟨e10, n10⟩, e11, ny⟩ := id hV
  obtain ⟨τ, t1, t2, t3⟩ := C_need (x1 := x1) (x2 := x2) (x3 := x3) (x4 := x4) (x5 := x5) (x6 := x6) av aw_ hC.2.1.1
  obtain ⟨τ', u1, u2⟩ := P_need (x1 := x1) (x2 := x2) (x3 := x3) (x4 := x4) (x5 := x5) (x6 := x6) av (q125 hI.1 t3 qLW)
  exact ⟨_, τ, τ', t1, u1, Inv.q hS hR hX hV hY hW hC hI hM t3 qLW (hC.2.1.lw t2 t3 (by decide) (by decide)) u2 rPQ⟩
theorem S_counts {m : Nat} {x1 x2 x3 : Int32} {σ : AH} (h : Inv m σ) : StpI m σ (F_X11_counts x1 x2 x3) (F_X12_counts x1 x2 x3) := by
  obtain ⟨hS, hR, hX, O, row, oc, W, ns, no, mv, n, C, nw, wi, L, tp, hV, hY, hW, hC, hI, hM⟩ := h
  obtain ⟨⟨av, aw_, ax⟩, bv_, ev, tv, lv, st, ⟨e8, n8⟩, ⟨e10, n10⟩, e11, ny⟩ := id hV
  obtain ⟨τ, t1, t2, t3⟩ := C_counts (x1 := x1) (x2 := x2) (x3 := x3) av aw_ hC.2.1.1
  obtain ⟨τ', u1, u2⟩ := P_counts (x1 := x1) (x2 := x2) (x3 := x3) av (q125 hI.1 t3 qLW)
  exact ⟨_, τ, τ', t1, u1, Inv.q hS hR hX hV hY hW hC hI hM t3 qLW (hC.2.1.lw t2 t3 (by decide) (by decide)) u2 rPQ⟩
theorem S_force {m : Nat} {x1 x2 x3 x4 : Int32} {σ : AH} (h : Inv m σ) : StpI m σ (F_X11_force x1 x2 x3 x4) (F_X12_force x1 x2 x3 x4) := by
  obtain ⟨hS, hR, hX, O, row, oc, W, ns, no, mv, n, C, nw, wi, L, tp, hV, hY, hW, hC, hI, hM⟩ := h
  obtain ⟨⟨av, aw_, ax⟩, bv_, ev, tv, lv, st, ⟨e8, n8⟩, ⟨e10, n10⟩, e11, ny⟩ := id hV
  obtain ⟨τ, t1, t2, t3⟩ := C_force (x1 := x1) (x2 := x2) (x3 := x3) (x4 := x4) av aw_ hC.2.1.1
  obtain ⟨τ', u1, u2⟩ := P_force (x1 := x1) (x2 := x2) (x3 := x3) (x4 := x4) av (q125 hI.1 t3 qLW)
  exact ⟨_, τ, τ', t1, u1, Inv.q hS hR hX hV hY hW hC hI hM t3 qLW (hC.2.1.lw t2 t3 (by decide) (by decide)) u2 rPQ⟩
theorem S_stock {m : Nat} {x1 x2 x3 x4 : Int32} {σ : AH} (h : Inv m σ) : StpI m σ (F_X11_stock x1 x2 x3 x4) (F_X12_stock x1 x2 x3 x4) := by
  obtain ⟨hS, hR, hX, O, row, oc, W, ns, no, mv, n, C, nw, wi, L, tp, hV, hY, hW, hC, hI, hM⟩ := h
  obtain ⟨⟨av, aw_, ax⟩, bv_, ev, tv, lv, st, ⟨e8, n8⟩, ⟨e10, n10⟩, e11, ny⟩ := id hV
  obtain ⟨τ, t1, t2, t3⟩ := C_stock (x1 := x1) (x2 := x2) (x3 := x3) (x4 := x4) av aw_ bv_ (hC.2.1.rgI (hC.1.2.1.tbB bv_))
  obtain ⟨τ', u1, u2⟩ := P_stock (x1 := x1) (x2 := x2) (x3 := x3) (x4 := x4) av bv_ (q125 hI.1 t3 qRG)
  exact ⟨_, τ, τ', t1, u1, Inv.q hS hR hX hV hY hW hC hI hM t3 qRG (hC.2.1.rg t2 t3 (by decide) (by decide)) u2 rPQ⟩
theorem S_built {m : Nat} {x1 x2 x3 x4 : Int32} {σ : AH} (h : Inv m σ) : StpI m σ (F_X11_built x1 x2 x3 x4) (F_X12_built x1 x2 x3 x4) := by
  obtain ⟨hS, hR, hX, O, row, oc, W, ns, no, mv, n, C, nw, wi, L, tp, hV, hY, hW, hC, hI, hM⟩ := h
  obtain ⟨⟨av, aw_, ax⟩, bv_, ev, tv, lv, st, ⟨e8, n8⟩, ⟨e10, n10⟩, e11, ny⟩ := id hV
  obtain ⟨τ, t1, t2, t3⟩ := C_built (x1 := x1) (x2 := x2) (x3 := x3) (x4 := x4) av aw_ bv_ (hC.2.1.rgI (hC.1.2.1.tbB bv_))
  obtain ⟨τ', u1, u2⟩ := P_built (x1 := x1) (x2 := x2) (x3 := x3) (x4 := x4) av bv_ (q125 hI.1 t3 qRG)
  exact ⟨_, τ, τ', t1, u1, Inv.q hS hR hX hV hY hW hC hI hM t3 qRG (hC.2.1.rg t2 t3 (by decide) (by decide)) u2 rPQ⟩
theorem S_lacks {m : Nat} {x1 x2 x3 : Int32} {σ : AH} (h : Inv m σ) : StpI m σ (F_X11_lacks x1 x2 x3) (F_X12_lacks x1 x2 x3) := by
  obtain ⟨hS, hR, hX, O, row, oc, W, ns, no, mv, n, C, nw, wi, L, tp, hV, hY, hW, hC, hI, hM⟩ := h
  obtain ⟨⟨av, aw_, ax⟩, bv_, ev, tv, lv, st, ⟨e8, n8⟩, ⟨e10, n10⟩, e11, ny⟩ := id hV
  obtain ⟨τ, t1, t2, t3⟩ := C_lacks (x1 := x1) (x2 := x2) (x3 := x3) av aw_ bv_ (hC.2.1.rgI (hC.1.2.1.tbB bv_))
  obtain ⟨τ', u1, u2⟩ := P_lacks (x1 := x1) (x2 := x2) (x3 := x3) av bv_ (q125 hI.1 t3 qRG)
  exact ⟨_, τ, τ', t1, u1, Inv.q hS hR hX hV hY hW hC hI hM t3 qRG (hC.2.1.rg t2 t3 (by decide) (by decide)) u2 rPQ⟩
theorem S_knock {m : Nat} {x1 x2 : Int32} {σ : AH} (h : Inv m σ) : StpI m σ (F_X11_knock x1 x2) (F_X12_knock x1 x2) := by
  obtain ⟨hS, hR, hX, O, row, oc, W, ns, no, mv, n, C, nw, wi, L, tp, hV, hY, hW, hC, hI, hM⟩ := h
  obtain ⟨⟨av, aw_, ax⟩, bv_, ev, tv, lv, st, ⟨e8, n8⟩, ⟨e10, n10⟩, e11, ny⟩ := id hV
  obtain ⟨τ, t1, t2, t3⟩ := C_knock (x1 := x1) (x2 := x2) av aw_ bv_ (hC.2.1.rgI (hC.1.2.1.tbB bv_))
  obtain ⟨τ', u1, u2⟩ := P_knock (x1 := x1) (x2 := x2) av bv_ (q125 hI.1 t3 qRG)
  exact ⟨_, τ, τ', t1, u1, Inv.q hS hR hX hV hY hW hC hI hM t3 qRG (hC.2.1.rg t2 t3 (by decide) (by decide)) u2 rPQ⟩
theorem S_judge {m : Nat} {x1 x2 : Int32} {σ : AH} (h : Inv m σ) : StpI m σ (F_X11_judge x1 x2) (F_X12_judge x1 x2) := by
  obtain ⟨hS, hR, hX, O, row, oc, W, ns, no, mv, n, C, nw, wi, L, tp, hV, hY, hW, hC, hI, hM⟩ := h
  obtain ⟨⟨av, aw_, ax⟩, bv_, ev, tv, lv, st, ⟨e8, n8⟩, ⟨e10, n10⟩, e11, ny⟩ := id hV
  obtain ⟨τ, t1, t2, t3⟩ := C_judge (x1 := x1) (x2 := x2) av aw_ bv_ hW ⟨hC.2.1.rgI (hC.1.2.1.tbB bv_), hC.2.1.2.2.2.2.1, hC.2.2.1, SaI_of hS⟩
  have rI := hI.ch t3 (fun i hi => by have := qCQ.1 i hi; omega) (fun q hq => by have := qCQ.2 q hq; exact ⟨fun e => by rw [e] at this; omega, fun e => by rw [e] at this; omega, by omega, by omega, by omega⟩)
  obtain ⟨τ', u1, u2⟩ := P_judge (x1 := x1) (x2 := x2) av bv_ hW rI.1 rI.2.1
  exact ⟨_, τ, τ', t1, u1, Inv.q hS hR hX hV hY hW hC hI hM t3 qCQ (hC.2.1.ci t2 t3 (by decide) (by decide)) u2 rGA⟩
theorem S_bound {m : Nat} {x1 : Int32} {σ : AH} (h : Inv m σ) : StpI m σ (F_X11_bound x1) (F_X12_bound x1) := by
  obtain ⟨hS, hR, hX, O, row, oc, W, ns, no, mv, n, C, nw, wi, L, tp, hV, hY, hW, hC, hI, hM⟩ := h
  obtain ⟨⟨av, aw_, ax⟩, bv_, ev, tv, lv, st, ⟨e8, n8⟩, ⟨e10, n10⟩, e11, ny⟩ := id hV
  obtain ⟨τ, t1, t2, t3⟩ := C_bound (x1 := x1) av aw_ bv_ hW ⟨hC.2.1.rgI (hC.1.2.1.tbB bv_), hC.2.1.2.2.2.2.1, hC.2.2.1, SaI_of hS⟩
  have rI := hI.ch t3 (fun i hi => by have := qCQ.1 i hi; omega) (fun q hq => by have := qCQ.2 q hq; exact ⟨fun e => by rw [e] at this; omega, fun e => by rw [e] at this; omega, by omega, by omega, by omega⟩)
  obtain ⟨τ', u1, u2⟩ := P_bound (x1 := x1) av bv_ hW rI.1 rI.2.1
  exact ⟨_, τ, τ', t1, u1, Inv.q hS hR hX hV hY hW hC hI hM t3 qCQ (hC.2.1.ci t2 t3 (by decide) (by decide)) u2 rGA⟩
theorem S_points {m : Nat} {x1 x2 x3 : Int32} {σ : AH} (h : Inv m σ) : StpI m σ (F_X11_points x1 x2 x3) (F_X12_points x1 x2 x3) := by
  obtain ⟨hS, hR, hX, O, row, oc, W, ns, no, mv, n, C, nw, wi, L, tp, hV, hY, hW, hC, hI, hM⟩ := h
  obtain ⟨⟨av, aw_, ax⟩, bv_, ev, tv, lv, st, ⟨e8, n8⟩, ⟨e10, n10⟩, e11, ny⟩ := id hV
  obtain ⟨τ, t1, t2, _, t3⟩ := C_points (x1 := x1) (x2 := x2) (x3 := x3) av aw_ ev (hC.1.2.1.tbE ev) hC.2.1.1
  obtain ⟨τ', u1, u2⟩ := P_points (x1 := x1) (x2 := x2) (x3 := x3) av ev (q125 hI.1 t3 qLW)
  exact ⟨_, τ, τ', t1, u1, Inv.q hS hR hX hV hY hW hC hI hM t3 qLW (hC.2.1.lw t2 t3 (by decide) (by decide)) u2 rPQ⟩
theorem S_order {m : Nat} {x1 x2 x3 x4 : Int32} {σ : AH} (h : Inv m σ) : StpI m σ (F_X11_order x1 x2 x3 x4) (F_X12_order x1 x2 x3 x4) := by
  obtain ⟨hS, hR, hX, O, row, oc, W, ns, no, mv, n, C, nw, wi, L, tp, hV, hY, hW, hC, hI, hM⟩ := h
  obtain ⟨⟨av, aw_, ax⟩, bv_, ev, tv, lv, st, ⟨e8, n8⟩, ⟨e10, n10⟩, e11, ny⟩ := id hV
  obtain ⟨τ, t1, t2, _, t3⟩ := C_order (x1 := x1) (x2 := x2) (x3 := x3) (x4 := x4) av aw_ ev (hC.1.2.1.tbE ev) hC.2.1.1
  obtain ⟨τ', u1, u2⟩ := P_order (x1 := x1) (x2 := x2) (x3 := x3) (x4 := x4) av ev (q125 hI.1 t3 qLC)
  exact ⟨_, τ, τ', t1, u1, Inv.q hS hR hX hV hY hW hC hI hM t3 qLC (hC.2.1.lw t2 t3 (by decide) (by decide)) u2 rLQ⟩
theorem S_beside {m : Nat} {x1 x2 x3 x4 : Int32} {σ : AH} (h : Inv m σ) : StpI m σ (F_X11_beside x1 x2 x3 x4) (F_X12_beside x1 x2 x3 x4) := by
  obtain ⟨hS, hR, hX, O, row, oc, W, ns, no, mv, n, C, nw, wi, L, tp, hV, hY, hW, hC, hI, hM⟩ := h
  obtain ⟨⟨av, aw_, ax⟩, bv_, ev, tv, lv, st, ⟨e8, n8⟩, ⟨e10, n10⟩, e11, ny⟩ := id hV
  obtain ⟨τ, t1, t2, _, t3⟩ := C_beside (x1 := x1) (x2 := x2) (x3 := x3) (x4 := x4) av aw_ ev (hC.1.2.1.tbE ev) hC.2.1.1
  obtain ⟨τ', u1, u2⟩ := P_beside (x1 := x1) (x2 := x2) (x3 := x3) (x4 := x4) av ev (q125 hI.1 t3 qLC)
  exact ⟨_, τ, τ', t1, u1, Inv.q hS hR hX hV hY hW hC hI hM t3 qLC (hC.2.1.lw t2 t3 (by decide) (by decide)) u2 rLQ⟩
theorem S_truth {m : Nat} {x1 x2 x3 : Int32} {σ : AH} (h : Inv m σ) : StpI m σ (F_X11_truth x1 x2 x3) (F_X12_truth x1 x2 x3) := by
  obtain ⟨hS, hR, hX, O, row, oc, W, ns, no, mv, n, C, nw, wi, L, tp, hV, hY, hW, hC, hI, hM⟩ := h
  obtain ⟨⟨av, aw_, ax⟩, bv_, ev, tv, lv, st, ⟨e8, n8⟩, ⟨e10, n10⟩, e11, ny⟩ := id hV
  exact ⟨_, σ, _, C_truth (x1 := x1) (x2 := x2) (x3 := x3) tv (hC.1.2.1.tg hC.1.1), P_truth (x1 := x1) (x2 := x2) (x3 := x3) tv hI.1, Inv.q hS hR hX hV hY hW hC hI hM (Ch.rf (cs := []) (fs := []) σ) qNo hC.2.1 c0_ r0_⟩
theorem S_lives {m : Nat} {x1 x2 x3 : Int32} {σ : AH} (h : Inv m σ) : StpI m σ (F_X11_lives x1 x2 x3) (F_X12_lives x1 x2 x3) := by
  obtain ⟨hS, hR, hX, O, row, oc, W, ns, no, mv, n, C, nw, wi, L, tp, hV, hY, hW, hC, hI, hM⟩ := h
  obtain ⟨⟨av, aw_, ax⟩, bv_, ev, tv, lv, st, ⟨e8, n8⟩, ⟨e10, n10⟩, e11, ny⟩ := id hV
  exact ⟨_, σ, _, C_lives (x1 := x1) (x2 := x2) (x3 := x3) bv_ (hC.1.2.1.tbB bv_) hC.1.2.1.tbY hY.1 ev hY.2.1, P_lives (x1 := x1) (x2 := x2) (x3 := x3) bv_ st.1 st.2.1 hI.1, Inv.q hS hR hX hV hY hW hC hI hM (Ch.rf (cs := []) (fs := []) σ) qNo hC.2.1 c0_ r0_⟩
theorem S_under {m : Nat} {x1 x2 : Int32} {σ : AH} (h : Inv m σ) : StpI m σ (F_X11_under x1 x2) (F_X12_under x1 x2) := by
  obtain ⟨hS, hR, hX, O, row, oc, W, ns, no, mv, n, C, nw, wi, L, tp, hV, hY, hW, hC, hI, hM⟩ := h
  obtain ⟨⟨av, aw_, ax⟩, bv_, ev, tv, lv, st, ⟨e8, n8⟩, ⟨e10, n10⟩, e11, ny⟩ := id hV
  exact ⟨_, σ, _, C_under (x1 := x1) (x2 := x2) bv_ ev lv (hC.1.2.1.tbB bv_) (hC.1.2.1.tbE ev) (hC.1.2.1.tbL lv) hC.1.2.1.tbY hY.1 hY.2.1, P_under (x1 := x1) (x2 := x2) bv_ ev st.1 lv st.2.1 hI.1, Inv.q hS hR hX hV hY hW hC hI hM (Ch.rf (cs := []) (fs := []) σ) qNo hC.2.1 c0_ r0_⟩
theorem S_rent {m : Nat} {x1 x2 x3 : Int32} {σ : AH} (h : Inv m σ) : StpI m σ (F_X11_rent x1 x2 x3) (F_X12_rent x1 x2 x3) := by
  obtain ⟨hS, hR, hX, O, row, oc, W, ns, no, mv, n, C, nw, wi, L, tp, hV, hY, hW, hC, hI, hM⟩ := h
  obtain ⟨⟨av, aw_, ax⟩, bv_, ev, tv, lv, st, ⟨e8, n8⟩, ⟨e10, n10⟩, e11, ny⟩ := id hV
  obtain ⟨τ, t1, t2, t3⟩ := C_rent (x1 := x1) (x2 := x2) (x3 := x3) av aw_ bv_ ev (hC.2.1.rgI (hC.1.2.1.tbB bv_)) (hC.1.2.1.tbE ev) hC.1.2.1.tbY hY.1 hY.2.1
  obtain ⟨τ', u1, u2⟩ := P_rent (x1 := x1) (x2 := x2) (x3 := x3) av bv_ ev st.1 st.2.1 (q125 hI.1 t3 qRG)
  exact ⟨_, τ, τ', t1, u1, Inv.q hS hR hX hV hY hW hC hI hM t3 qRG (hC.2.1.rg t2 t3 (by decide) (by decide)) u2 rFH⟩
theorem S_count {m : Nat} {x1 : Int32} {σ : AH} (h : Inv m σ) : StpI m σ (F_X11_count x1) (F_X12_count x1) := by
  obtain ⟨hS, hR, hX, O, row, oc, W, ns, no, mv, n, C, nw, wi, L, tp, hV, hY, hW, hC, hI, hM⟩ := h
  obtain ⟨⟨av, aw_, ax⟩, bv_, ev, tv, lv, st, ⟨e8, n8⟩, ⟨e10, n10⟩, e11, ny⟩ := id hV
  have w12 : gI σ 1 13 = row 11 := hC.1.2.1.2.2.2.2.1
  exact ⟨_, σ, _, C_count (x := x1) av bv_ ev (hC.1.2.1.tbB bv_) (hC.1.2.1.tbE ev) hC.2.1.1.1.1 hC.2.2.1 w12 hC.1.2.1.2.2.2.2.2.1 hC.2.2.2.1, P_count (x := x1) hI.1 hI.2.1 hI.2.2, Inv.q hS hR hX hV hY hW hC hI hM (Ch.rf (cs := []) (fs := []) σ) qNo hC.2.1 c0_ r0_⟩
theorem S_fault {m : Nat} {σ : AH} (h : Inv m σ) : StpI m σ (F_X11_fault) (F_X12_fault) := by
  obtain ⟨hS, hR, hX, O, row, oc, W, ns, no, mv, n, C, nw, wi, L, tp, hV, hY, hW, hC, hI, hM⟩ := h
  obtain ⟨⟨av, aw_, ax⟩, bv_, ev, tv, lv, st, ⟨e8, n8⟩, ⟨e10, n10⟩, e11, ny⟩ := id hV
  refine ⟨gI σ 0 11, σ, sI σ 124 0 0, rfl, ?_, Inv.q hS hR hX hV hY hW hC hI hM (Ch.rf (cs := []) (fs := []) σ) qNo hC.2.1 c0_ r0_⟩
  unfold F_X12_fault
  rw [gI_sI_ne (by decide), hX.2.2]
theorem S_status {m : Nat} {σ : AH} (h : Inv m σ) : StpI m σ (F_X11_status) (F_X12_status) := by
  obtain ⟨hS, hR, hX, O, row, oc, W, ns, no, mv, n, C, nw, wi, L, tp, hV, hY, hW, hC, hI, hM⟩ := h
  obtain ⟨⟨av, aw_, ax⟩, bv_, ev, tv, lv, st, ⟨e8, n8⟩, ⟨e10, n10⟩, e11, ny⟩ := id hV
  refine ⟨gI σ 0 10, σ, sI σ 124 0 0, rfl, ?_, Inv.q hS hR hX hV hY hW hC hI hM (Ch.rf (cs := []) (fs := []) σ) qNo hC.2.1 c0_ r0_⟩
  unfold F_X12_status
  rw [gI_sI_ne (by decide), hX.2.1]
theorem S_chosen {m : Nat} {x1 : Int32} {σ : AH} (h : Inv m σ) : StpI m σ (F_X11_chosen x1) (F_X12_chosen x1) := by
  obtain ⟨hS, hR, hX, O, row, oc, W, ns, no, mv, n, C, nw, wi, L, tp, hV, hY, hW, hC, hI, hM⟩ := h
  obtain ⟨⟨av, aw_, ax⟩, bv_, ev, tv, lv, st, ⟨e8, n8⟩, ⟨e10, n10⟩, e11, ny⟩ := id hV
  obtain ⟨v, v1, v2⟩ := PC_chosen (x1 := x1) hX.1
  exact ⟨v, σ, _, v2 σ rfl rfl, v1, Inv.q hS hR hX hV hY hW hC hI hM (Ch.rf (cs := []) (fs := []) σ) qNo hC.2.1 c0_ r0_⟩
theorem S_family {m : Nat} {x1 x2 : Int32} {σ : AH} (h : Inv m σ) : StpI m σ (F_X11_family x1 x2) (F_X12_family x1 x2) := by
  obtain ⟨hS, hR, hX, O, row, oc, W, ns, no, mv, n, C, nw, wi, L, tp, hV, hY, hW, hC, hI, hM⟩ := h
  obtain ⟨⟨av, aw_, ax⟩, bv_, ev, tv, lv, st, ⟨e8, n8⟩, ⟨e10, n10⟩, e11, ny⟩ := id hV
  obtain ⟨v, _, _, _, v3⟩ := PC_family (x1 := x1) (x2 := x2) ev hI.1
  obtain ⟨τ, t1, t2, t3⟩ := v3 σ (hC.1.2.1.tbE ev) hC.2.1.2.2.2.2.2
  obtain ⟨w, τ', w1, w2, w3⟩ := PC_family (x1 := x1) (x2 := x2) ev (q125 hI.1 t3 qJC)
  obtain ⟨τ2, y1, _⟩ := w3 σ (hC.1.2.1.tbE ev) hC.2.1.2.2.2.2.2
  rw [t1] at y1
  cases y1
  exact ⟨v, τ, τ', t1, w1, Inv.q hS hR hX hV hY hW hC hI hM t3 qJC (hC.2.1.jc t2 t3 (by decide) (by decide)) w2 r160⟩
theorem S_roof {m : Nat} {x1 x2 : Int32} {σ : AH} (h : Inv m σ) : StpI m σ (F_X11_roof x1 x2) (F_X12_roof x1 x2) := by
  obtain ⟨hS, hR, hX, O, row, oc, W, ns, no, mv, n, C, nw, wi, L, tp, hV, hY, hW, hC, hI, hM⟩ := h
  obtain ⟨⟨av, aw_, ax⟩, bv_, ev, tv, lv, st, ⟨e8, n8⟩, ⟨e10, n10⟩, e11, ny⟩ := id hV
  obtain ⟨_, f0, _, f1, _⟩ := P_roof (x1 := x1) (x2 := x2) bv_ ev st.1 st.2.1 hI.1
  obtain ⟨τ, t1, t2, t3⟩ := C_roof (f := f0) (x1 := x1) (x2 := x2) bv_ ev (hC.1.2.1.tbB bv_) (hC.1.2.1.tbE ev) hC.1.2.1.tbY hY.1 hY.2.1 hC.2.1.2.2.2.2.2 f1
  obtain ⟨τ', f, u1, u2, u3⟩ := P_roof (x1 := x1) (x2 := x2) bv_ ev st.1 st.2.1 (q125 hI.1 t3 qJC)
  obtain ⟨τ2, y1, _⟩ := C_roof (f := f) (x1 := x1) (x2 := x2) bv_ ev (hC.1.2.1.tbB bv_) (hC.1.2.1.tbE ev) hC.1.2.1.tbY hY.1 hY.2.1 hC.2.1.2.2.2.2.2 u2
  have e : roofV row oc f x1 x2 = roofV row oc f0 x1 x2 := by rw [t1] at y1; injection y1 with y1; injection y1 with y1 _; exact y1.symm
  rw [e] at u1
  exact ⟨_, τ, τ', t1, u1, Inv.q hS hR hX hV hY hW hC hI hM t3 qJC (hC.2.1.jc t2 t3 (by decide) (by decide)) u3 r160⟩
end
