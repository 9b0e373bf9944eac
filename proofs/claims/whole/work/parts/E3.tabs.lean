section
/-! tables told of -/
theorem jN : ∀ j, j < 7 → ∀ k, k < 7 → j ≠ k → nbJ j ≠ nbJ k ∧ (BJ j + msJ j * wdJ j ≤ BJ k ∨ BJ k + msJ k * wdJ k ≤ BJ j) := by decide
theorem jM : ∀ j, j < 7 → (nbJ j = 1 ∨ nbJ j = 2 ∨ nbJ j = 3 ∨ nbJ j = 4 ∨ nbJ j = 5 ∨ nbJ j = 6 ∨ nbJ j = 9) ∧ 22748 ≤ BJ j ∧ BJ j + msJ j * wdJ j ≤ 24592 := by decide
theorem RwV.nJ_le {r : Nat → Int32} {oc : Nat → Nat → Option (Nat × Nat × Bool × Nat)} {W ns no mv : Nat} (h : RwV r oc W ns no mv) : ∀ j, j < 7 → cl (r (nbJ j)) ≤ msJ j := by
  have b := BV_tb.mp h.2.1
  have e := EV_tb.mp h.2.2.1
  have l := LV_tb.mp h.2.2.2.2.1
  intro j hj
  rcases (show j = 0 ∨ j = 1 ∨ j = 2 ∨ j = 3 ∨ j = 4 ∨ j = 5 ∨ j = 6 by omega) with rfl | rfl | rfl | rfl | rfl | rfl | rfl
  · exact Nat.le_of_lt_succ b.1.1.2
  · exact Nat.le_of_lt_succ b.2.1.1.2
  · exact Nat.le_of_lt_succ b.2.2.1.1.2
  · exact Nat.le_of_lt_succ b.2.2.2.1.1.2
  · exact Nat.le_of_lt_succ b.2.2.2.2.1.2
  · exact Nat.le_of_lt_succ e.1.2
  · exact Nat.le_of_lt_succ l.1.2
theorem jIx {s k wd ms : Nat} (hs : s < ms) (hk : k < wd) : s * wd + k < ms * wd := by
  have q : (s + 1) * wd ≤ ms * wd := Nat.mul_le_mul_right wd hs
  have q2 : (s + 1) * wd = s * wd + wd := Nat.succ_mul s wd
  omega
theorem nJ_n {row : Nat → Int32} {n j : Nat} (h : j < 7) : nJ row n j = cl (row (nbJ j)) := by unfold nJ; rw [if_neg (by omega)]
theorem CJ_n {row : Nat → Int32} {C : Nat → Nat → Int32} {j s k : Nat} (h : j < 7) : CJ row C j s k = row (BJ j + (s * wdJ j + k)) := by unfold CJ; rw [if_neg (by omega)]
theorem tlW_lo {r g : Nat → Int32} {pre : Int32} {nb B wd mst n i : Nat} (hn : n ≤ mst) (h1 : i ≠ nb) (h2 : i < B ∨ B + mst * wd ≤ i) : tlW pre mst r nb B wd n g i = r i := by
  by_cases c : pre = 0 ∧ n ≠ mst
  · rw [tlW_yes c.1 c.2]; exact tlR_out (by have := c.2; omega) h1 h2
  · rw [tlW_no c]
theorem Kk.t12 {pre : Int32} {mst nb B wd n : Nat} {row g : Nat → Int32} {σ τ : AH} (t4 : gI τ 0 12 = tlC pre mst n (gI σ 0 12)) (e13 : gI τ 0 13 = gI σ 0 13) (re : RwE row (tlW pre mst row nb B wd n g)) : Kk row (tlW pre mst row nb B wd n g) σ τ := by
  by_cases c : pre = 0 ∧ n ≠ mst
  · exact Or.inr (Or.inl ⟨by rw [t4]; unfold tlC; rw [if_pos c], e13, re⟩)
  · rw [tlW_no c]; exact Or.inl ⟨by rw [t4]; unfold tlC; rw [if_neg c], e13, RwB.rf, RwE.rf⟩
theorem Kk.t13 {pre : Int32} {mst nb B wd n : Nat} {row g : Nat → Int32} {σ τ : AH} (t4 : gI τ 0 13 = tlC pre mst n (gI σ 0 13)) (e12 : gI τ 0 12 = gI σ 0 12) (rb : RwB row (tlW pre mst row nb B wd n g)) : Kk row (tlW pre mst row nb B wd n g) σ τ := by
  by_cases c : pre = 0 ∧ n ≠ mst
  · exact Or.inr (Or.inr ⟨e12, by rw [t4]; unfold tlC; rw [if_pos c], rb⟩)
  · rw [tlW_no c]; exact Or.inl ⟨e12, by rw [t4]; unfold tlC; rw [if_neg c], RwB.rf, RwE.rf⟩
theorem WiV.cg {r r' : Nat → Int32} {n : Nat} {wi : Nat → Nat} (h : WiV r n wi) (hB : BV r) (e4 : nP r ≤ nP r') (e5 : r' 5 = r 5) (e : ∀ i, 23652 ≤ i → i < 23832 → r' i = r i) : WiV r' n wi := by
  obtain ⟨a, b, c, d⟩ := h
  have n1 := (BV_tb.mp hB).2.2.2.2.1.2
  refine ⟨a, fun i hi => Nat.lt_of_lt_of_le (b i hi) e4, c, fun i hi s hs => ?_⟩
  have e5' : nS r' = nS r := by unfold nS; rw [e5]
  rw [e5'] at hs
  have h60 : nS r < 61 := n1
  have : sa r' s 0 = sa r s 0 := e _ (by omega) (by omega)
  rw [this]; exact d i hi s hs
theorem StY.mo {r r' : Nat → Int32} {n W : Nat} {C : Nat → Nat → Int32} {oc : Nat → Nat → Option (Nat × Nat × Bool × Nat)} (h : StY r n C oc W) (hp : nP r' = nP r) (he : nE r ≤ nE r') : StY r' n C oc W := by
  obtain ⟨a, b, c, d⟩ := h
  refine ⟨fun s hs => ?_, by rw [hp]; exact b, c, d⟩
  obtain ⟨x, y, z⟩ := a s hs
  exact ⟨by rw [hp]; exact x, y.mo he, z⟩
theorem StY.pl {r r' : Nat → Int32} {n W : Nat} {C : Nat → Nat → Int32} {oc : Nat → Nat → Option (Nat × Nat × Bool × Nat)} (h : StY r n C oc W) (hN : nP r ≤ 30) (hp : nP r' = nP r + 1) (he : nE r' = nE r) : StY r' n C (ocP (nP r) oc) W := by
  obtain ⟨a, b, c, d⟩ := h
  refine ⟨fun s hs => ?_, by rw [hp]; exact b.pl hN (fun s hs => (a s hs).1), c, d⟩
  obtain ⟨x, y, z⟩ := a s hs
  exact ⟨x.mo (by omega), by rw [he]; exact y, z⟩
theorem tell_tab {m n nw L : Nat} {O : Nat → Nat} {row row' tp : Nat → Int32} {oc oc' : Nat → Nat → Option (Nat × Nat × Bool × Nat)} {W ns no mv jt b0 : Nat} {C : Nat → Nat → Int32} {wi : Nat → Nat} {v : Int32} {σ τ τ' : AH} {fs : List (Nat × Nat)} (hm : m < 1000) (hR : RmI m σ) (hX : XIn σ) (hV : RwV row oc W ns no mv) (hC : CIn m O row n C nw wi L tp σ) (hI : RIn row nw wi L tp σ) (hj : jt < 7) (F : TlF O row n C jt b0 [] fs σ τ) (hfs : ∀ q ∈ fs, q.1 = 3 + 2 * jt ∨ q = (0, 10) ∨ q = (0, 12) ∨ q = (0, 13)) (lo : ∀ i, i ≠ nbJ jt → (i < BJ jt ∨ BJ jt + msJ jt * wdJ jt ≤ i) → row' i = row i) (hT : Tb row' τ (3 + 2 * jt) (nbJ jt) (BJ jt) (wdJ jt) (msJ jt)) (hV' : RwV row' oc' W ns no mv) (hY' : StY row' n C oc' W) (hW' : WiV row' nw wi) (k : Kk row row' σ τ) (e10 : gI τ 0 10 = v) (u2 : gI τ' 125 = row') (u3 : gI τ' 124 1 = v) (u4 : Ch [125] TDf τ τ') : Inv (m + 1) τ' := by
  obtain ⟨m1, m2, m3⟩ := jM jt hj
  have hA : RwA row row' := ⟨lo 0 (by omega) (by omega), fun i h1 h2 => lo i (by omega) (by omega)⟩
  have hl : LwI row' τ := LwI_cg hA hV.1.1 F.2.2.2.2.2.2
  obtain ⟨hcc, hcn⟩ := k.cc hC.2.1 hV.1.1 hV.2.1 hV.2.2.1 hl hC.2.2.2.2 hm (fun i h1 h2 => F.2.2.1 i (by omega) (by omega) (fun z => by cases z))
  have h1f : ∀ k, (1, k) ∉ fs := fun k z => by
    rcases hfs _ z with y | y | y | y
    · have : 1 = 3 + 2 * jt := y; omega
    · exact absurd (Prod.mk.inj y).1 (by decide)
    · exact absurd (Prod.mk.inj y).1 (by decide)
    · exact absurd (Prod.mk.inj y).1 (by decide)
  have i1 := fun k => F.2.2.2.2.1 k (h1f k)
  obtain ⟨_, _, _, g12, g13, g14, g15⟩ := hC.1.2.1
  refine tell_end hR hX hV.1.1 hC hI F (by omega) (fun i z => by cases z) (fun z => ?_) (fun j hj' hne => ?_) ?_ (fun i h1 h2 => lo i (by omega) (by omega)) ⟨by rw [i1, lo 10 (by omega) (by omega)]; exact g12, by rw [i1, lo 11 (by omega) (by omega)]; exact g13, by rw [i1, lo 8 (by omega) (by omega)]; exact g14, by rw [i1, lo 12 (by omega) (by omega)]; exact g15⟩ hV' hY' hW' hcc hcn e10 u2 u3 u4 qTD
  · rcases hfs _ z with y | y | y | y
    · have : 0 = 3 + 2 * jt := y; omega
    · exact absurd (Prod.mk.inj y).2 (by decide)
    · exact absurd (Prod.mk.inj y).2 (by decide)
    · exact absurd (Prod.mk.inj y).2 (by decide)
  · by_cases z : j = 7
    · exact ⟨by unfold nJ; rw [if_pos z, if_pos z], fun s k _ _ => by unfold CJ; rw [if_pos z, if_pos z]⟩
    · have j7 : j < 7 := by omega
      obtain ⟨n1, n2⟩ := jN j j7 jt hj hne
      obtain ⟨k1, k2, k3⟩ := jM j j7
      have e1 : cl (row' (nbJ j)) = cl (row (nbJ j)) := by rw [lo _ n1 (by omega)]
      rw [nJ_n j7, nJ_n j7]
      refine ⟨e1, fun s k hs hk => ?_⟩
      have hs' := Nat.lt_of_lt_of_le hs (hV.nJ_le j j7)
      have := jIx hs' hk
      rw [CJ_n j7, CJ_n j7]
      exact lo _ (by omega) (by omega)
  · rw [nJ_n hj]
    exact (G_of_Tb hT).congr (fun s k _ _ => CJ_n hj)
theorem CIn.b0 {m n nw L : Nat} {O : Nat → Nat} {row tp : Nat → Int32} {C : Nat → Nat → Int32} {wi : Nat → Nat} {σ : AH} (h : CIn m O row n C nw wi L tp σ) (j : Nat) (hj : j < 8) : ∃ b, gR σ (3 + 2 * j) 2 = some b := by
  obtain ⟨b, b1, _⟩ := h.1.2.2.2.2.1 j hj
  rw [show 1 + 2 + 2 * j = 3 + 2 * j by omega] at b1
  exact ⟨b, b1⟩
theorem nn0 {i : Nat} : i ∉ ([] : List Nat) := fun z => by cases z
theorem S_deliver {m : Nat} {x1 x2 x3 x4 : Int32} {σ : AH} (hm : m < 1000) (h : Inv m σ) : StpI m σ (F_X11_deliver x1 x2 x3 x4) (F_X12_deliver x1 x2 x3 x4) := by
  obtain ⟨hS, hR, hX, O, row, oc, W, ns, no, mv, n, C, nw, wi, L, tp, hV, hY, hW, hC, hI, hM⟩ := h
  have hB := hV.2.1
  obtain ⟨b0, hb0⟩ := hC.b0 0 (by decide)
  obtain ⟨τ, t1, t2, t3, t4, t5⟩ := C_deliver (x1 := x1) (x2 := x2) (x3 := x3) (x4 := x4) (hC.1.2.1.tbB hB).1 hC.1.2.2.ow hb0
  have F := tell_fr (jt := 0) hS hC.1 hV.1.1 hC.2.1.1 hM (by decide) hb0 t5 (by decide) (by decide)
  obtain ⟨τ', u1, u2, u3, u4⟩ := P_deliver (x1 := x1) (x2 := x2) (x3 := x3) (x4 := x4) hB (by rw [F.2.2.1 125 (by decide) (by decide) nn0]; exact hI.1 : gI τ 125 = row)
  have hn : nD row ≤ 120 := hV.nJ_le 0 (by decide)
  have lo : ∀ i, i ≠ 1 → (i < 22748 ∨ 23228 ≤ i) → tlW (dvP x1 x2 x3 x4) 120 row 1 22748 4 (nD row) (gl [x1, x2, x3, x4]) i = row i := fun i h1 h2 => tlW_lo hn h1 h2
  have eP : nP (tlW (dvP x1 x2 x3 x4) 120 row 1 22748 4 (nD row) (gl [x1, x2, x3, x4])) = nP row := by unfold nP; rw [lo 4 (by decide) (by omega)]
  exact ⟨_, τ, τ', t1, u1, tell_tab (jt := 0) hm hR hX hV hC hI (by decide) F (by decide) lo t2 hV.dv (hY.mo eP (by unfold nE; rw [lo 6 (by decide) (by omega)]; exact Nat.le_refl _)) (hW.cg hB (by omega) (lo 5 (by decide) (by omega)) (fun i h1 h2 => lo i (by omega) (by omega))) (Kk.t12 t4 (F.2.2.2.1 13 (by decide)) ⟨lo 6 (by decide) (by omega), fun i h1 h2 => lo i (by omega) (by omega)⟩) t3 u2 u3 u4⟩
end
