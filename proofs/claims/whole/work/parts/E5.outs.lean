section
/-! OUT: what more is to be said of it -/
theorem P_outE {row : Nat → Int32} {oc : Nat → Nat → Option (Nat × Nat × Bool × Nat)} {W : Nat} {x1 x2 : Int32} {σ : AH} (hB : BV row) (hS : StI row oc W) (hr : gI σ 125 = row) : ∃ τ row', F_X12_out x1 x2 σ = some (outV row oc W x1 x2, τ) ∧ gI τ 125 = row' ∧ gI τ 124 1 = ftV (outV row oc W x1 x2) ∧ RwS row row' ∧ nP row' = nP row ∧ StI row' (outO row oc W x1 x2) (outW row oc W x1 x2) ∧ row' 8 = row 8 ∧ row' 10 = row 10 ∧ row' 11 = row 11 ∧ nY row' = nY row ∧ Ch [125] [(124, 0), (124, 1)] σ τ := by
  obtain ⟨hV, hR, hF, h12, hW⟩ := hS
  have b30 := hB.p.2.1
  obtain ⟨n0, n30⟩ := hV.n
  have c0 : Ch [125] [(124, 0), (124, 1)] σ (sI σ 124 0 0) := Ch.sI1 (Or.inl (by simp))
  have hr0 : gI (sI σ 124 0 0) 125 = row := by rw [gI_sI_row (by decide)]; exact hr
  have bad : ∀ v : Int32, v ≠ 0 → outV row oc W x1 x2 = v → ∃ τ row', (bd (F_X12_told v (sI σ 124 0 (0 : Int32))) fun v25 σ21 => some (v25, σ21)) = some (outV row oc W x1 x2, τ) ∧ gI τ 125 = row' ∧ gI τ 124 1 = ftV (outV row oc W x1 x2) ∧ RwS row row' ∧ nP row' = nP row ∧ StI row' (outO row oc W x1 x2) (outW row oc W x1 x2) ∧ row' 8 = row 8 ∧ row' 10 = row 10 ∧ row' 11 = row 11 ∧ nY row' = nY row ∧ Ch [125] [(124, 0), (124, 1)] σ τ := fun v hv e => by
    unfold outO outW
    rw [e, if_neg hv, if_neg hv, told_e, bd_some]
    exact ⟨_, row, rfl, by rw [gI_sI_row (by decide)]; exact hr0, gI_sI_at, RwS.rf, rfl, ⟨hV, hR, hF, h12, hW⟩, rfl, rfl, rfl, rfl, c0.trans (Ch.sI1 (Or.inl (by simp)))⟩
  unfold F_X12_out F_X12_out_23
  have ip : F_X12_isPlot x1 (sI σ 124 0 0) = some (if ltB (nP row) x1 = true then 1 else 0, sI σ 124 0 0) := F_isPlot hB hr0
  rw [F_isWeek, bd_b (α := Int32), hr0, h12, ip, bd_b (α := Int32)]
  by_cases c1 : rgB 0 259 x2 = true
  · rw [if_pos c1]
    by_cases c2 : nI W ≤ x2
    · rw [if_pos c2]
      by_cases c3 : ltB (nP row) x1 = true
      · rw [if_pos c3]
        obtain ⟨e1, b1⟩ := ltB_n c3 (by omega)
        obtain ⟨e2, b2'⟩ := rg0_n (b := 259) c1 (by decide)
        have vv : outV row oc W x1 x2 = if sqO (oc (cl x1) (cl x2)) = true then 0 else -3 := by unfold outV; rw [if_pos c1, if_pos c2, if_pos c3]
        obtain ⟨p, hp⟩ : ∃ p, p = cl x1 := ⟨_, rfl⟩
        obtain ⟨w, hw⟩ : ∃ w, w = cl x2 := ⟨_, rfl⟩
        obtain ⟨g, hg⟩ := BIGe (nY row) (by omega)
        have lp := out_loop (p := cl x1) (w := cl x2) (g := g) (σ := sI σ 124 0 0) hV hr0 (nY row) 0 (by omega)
        have lp' : F_X12_out_49 BIG x1 x2 (-1 : Int32) (0 : Int32) (sI σ 124 0 0) = F_X12_out_49 (1 + g) (nI (cl x1)) (nI (cl x2)) (oI (ouS row (cl x1) (cl x2) (nY row))) (nI (nY row)) (sI σ 124 0 0) := by
          rw [← lp, hg, ← e1, ← e2]; rfl
        rw [lp', Nat.add_comm 1 g]
        show ∃ τ row', B_X12_out_49 (F_X12_out_49 g) (nI (cl x1)) (nI (cl x2)) (oI (ouS row (cl x1) (cl x2) (nY row))) (nI (nY row)) (sI σ 124 0 0) = _ ∧ _
        unfold B_X12_out_49
        rw [hr0, n0, if_pos (nI_le (by omega) (by omega))]
        have lw : W ≤ cl x2 := by
          rw [e2, Int32.le_iff_toInt_le, nI_toInt (by omega), nI_toInt (by omega)] at c2; omega
        rcases ouS_oc hR b1 (show cl x2 < 260 by omega) with ⟨z1, z2⟩ | ⟨s, s1, s2, s3, s4, s5⟩
        · rw [z1, show oI none = -1 from rfl, if_pos rfl]
          exact bad (-3) (by decide) (by rw [vv, z2, if_neg (by decide)])
        · rw [s3, if_pos rfl] at vv
          obtain ⟨q5, n5⟩ := sy_at (s := s) (j := 5) (by omega) (by decide)
          rw [s2, show oI (some s) = nI s from rfl, if_neg (nI_neg1 (by omega)), F_stayAt, bd_some, fa_lit 5, if_pos q5, n5, told_e, bd_some]
          unfold outO outW
          rw [vv, if_pos rfl, if_pos rfl]
          obtain ⟨L1, L2⟩ := hR.leave hF b30 lw (show cl x2 < 260 by omega) b1 s1 s4 s5
          obtain ⟨row', hrow⟩ : ∃ r, r = va_up (va_up row (29512 + 8 * s + 5) (nI (cl x2))) 12 (nI (cl x2)) := ⟨_, rfl⟩
          have lo : ∀ i, i < 29512 → i ≠ 12 → row' i = row i := fun i hi h => by rw [hrow, up_ne _ _ _ h, up_ne _ _ _ (by omega)]
          have np : nP row' = nP row := by unfold nP; rw [lo 4 (by decide) (by decide)]
          have ne : nE row' = nE row := by unfold nE; rw [lo 6 (by decide) (by decide)]
          have ny : nY row' = nY row := by unfold nY; rw [lo 7 (by decide) (by decide)]
          have es : ∀ t j, j < 8 → sy row' t j = upC (sy row) s 5 (nI (cl x2)) t j := fun t j hj => by
            rw [hrow, sy_up (by omega)]
            unfold upC
            dsimp only
            by_cases e : t = s ∧ j = 5
            · rw [if_pos e, if_pos (by omega)]
            · rw [if_neg e, if_neg (by omega)]
          refine ⟨_, row', rfl, ?_, gI_sI_at, fun i hi _ _ _ _ h => lo i hi h, np, ⟨⟨?_, fun t ht => ?_⟩, ?_, ?_, ?_, by omega⟩, lo 8 (by decide) (by decide), lo 10 (by decide) (by decide), lo 11 (by decide) (by decide), ny, ?_⟩
          · rw [gI_sI_row (by decide), gI_sI_own, gI_sI_own, hr0, hrow]
          · rw [lo 7 (by decide) (by decide)]; exact hV.1
          · rw [ny] at ht
            rw [np, ne, es t 0 (by decide), es t 1 (by decide), es t 2 (by decide), es t 3 (by decide), es t 6 (by decide), es t 7 (by decide), upC_ne (by decide), upC_ne (by decide), upC_ne (by decide), upC_ne (by decide), upC_ne (by decide), upC_ne (by decide)]
            exact hV.2 t ht
          · rw [np, ny]
            exact L1.same (fun t j _ hj => es t j hj)
          · rw [ny]
            intro t ht
            rw [es t 2 (by decide)]; exact L2 t ht
          · rw [hrow, up_same]
          · exact ((c0.trans (Ch.sI1 (Or.inr (by simp)))).trans (Ch.sI1 (Or.inr (by simp)))).trans (Ch.sI1 (Or.inl (by simp)))
      · rw [if_neg c3]
        exact bad (-2) (by decide) (by unfold outV; rw [if_pos c1, if_pos c2, if_neg c3])
    · rw [if_neg c2]
      exact bad (-1) (by decide) (by unfold outV; rw [if_pos c1, if_neg c2])
  · rw [if_neg c1]
    exact bad (-1) (by decide) (by unfold outV; rw [if_neg c1])
theorem C_outE {row : Nat → Int32} {oc : Nat → Nat → Option (Nat × Nat × Bool × Nat)} {W n : Nat} {C : Nat → Nat → Int32} {x1 x2 : Int32} {σ : AH} (hB : BV row) (hT : TbB row σ) (hS : SkI row oc W n C σ) (hE : CyE n C) : ∃ τ C' b, F_X11_out x1 x2 σ = some (outV row oc W x1 x2, τ) ∧ SkI row (outO row oc W x1 x2) (outW row oc W x1 x2) n C' τ ∧ CyE n C' ∧ gI τ 0 10 = ftV (outV row oc W x1 x2) ∧ gR σ 17 2 = some b ∧ Ch [b] [(0, 10), (1, 15)] σ τ := by
  obtain ⟨hY, hV, hR, hF, h15, hW⟩ := hS
  have b30 := hB.p.2.1
  have hn : n ≤ 7830 := hY.2.1.2.2.2
  have bad : ∀ v : Int32, v ≠ 0 → outV row oc W x1 x2 = v → ∃ τ C' b, (bd (F_X11_answer v σ) fun v25 σ21 => some (v25, σ21)) = some (outV row oc W x1 x2, τ) ∧ SkI row (outO row oc W x1 x2) (outW row oc W x1 x2) n C' τ ∧ CyE n C' ∧ gI τ 0 10 = ftV (outV row oc W x1 x2) ∧ gR σ 17 2 = some b ∧ Ch [b] [(0, 10), (1, 15)] σ τ := fun v hv e => by
    obtain ⟨_, _, b, L, c1, _⟩ := id hY
    unfold outO outW
    rw [e, if_neg hv, if_neg hv, answer_e, bd_some]
    have k : Ch [] [(0, 10)] σ (sI σ 0 10 (ftV v)) := Ch.sI1 (Or.inl (by simp))
    exact ⟨_, C, b, rfl, ⟨TbG.ch hY k (by simp) (by simp), hV, hR, hF, by rw [gI_sI_row (by decide)]; exact h15, hW⟩, hE, gI_sI_at, c1, k.mono (by simp) (by simp)⟩
  unfold F_X11_out F_X11_out_56
  rw [F_isMoveWeek h15, bd_some, F_isPlotC hB hT, bd_b (α := Int32)]
  by_cases c1 : rgB 0 259 x2 = true
  · rw [c1, Bool.true_and]
    by_cases c2 : nI W ≤ x2
    · rw [decide_eq_true c2, if_neg (show ¬ b2 true = 0 by decide)]
      by_cases c3 : ltB (nP row) x1 = true
      · rw [if_pos c3]
        obtain ⟨e1, b1⟩ := ltB_n c3 (by omega)
        obtain ⟨e2, b2'⟩ := rg0_n (b := 259) c1 (by decide)
        have vv : outV row oc W x1 x2 = if sqO (oc (cl x1) (cl x2)) = true then 0 else -3 := by unfold outV; rw [if_pos c1, if_pos c2, if_pos c3]
        have lw : W ≤ cl x2 := by
          rw [e2, Int32.le_iff_toInt_le, nI_toInt (by omega), nI_toInt (by omega)] at c2; omega
        have si : F_X2_stayIn x1 x2 σ = some (oI (fsF (inB_ C (cl x1) (cl x2)) n 0), σ) := by
          have := F_stayIn (p := cl x1) (w := cl x2) hY
          rw [← e1, ← e2] at this; exact this
        rw [si, bd_some]
        rcases stayIn_oc hR b1 (show cl x2 < 260 by omega) with ⟨z1, z2⟩ | ⟨s, s1, s2, s3, s4, s5⟩
        · rw [z2, show oI none = -1 from rfl, if_pos rfl]
          exact bad (-3) (by decide) (by rw [vv, z1]; rfl)
        · have il : F_X2_isLived (nI s) x2 σ = some (b2 (decide (C s 3 ≤ nI (cl x2))), σ) := by
            have := F_isLived (w := cl x2) hY s1
            rw [← e2] at this ⊢; exact this
          rw [s2, show oI (some s) = nI s from rfl, if_neg (nI_neg1 (by omega)), il, bd_some]
          have sq : sqO (oc (cl x1) (cl x2)) = !decide (C s 3 ≤ nI (cl x2)) := by rw [s3]; rfl
          rw [sq] at vv
          cases hd : decide (C s 3 ≤ nI (cl x2)) with
          | true =>
            rw [hd] at vv
            rw [if_neg (show ¬ b2 true = 0 by decide)]
            exact bad (-3) (by decide) (by rw [vv]; rfl)
          | false =>
            rw [hd] at vv
            have vv' : outV row oc W x1 x2 = 0 := vv
            rw [if_pos (show b2 false = 0 from rfl)]
            obtain ⟨b, g1, g2, g3, g4⟩ := F_putG (r := s) (c := 5) (v := x2) hY s1 (by decide) (by decide) (by decide) (by decide)
            have g3' : F_X8_put 17 (nI s) (5 : Int32) x2 σ = some (sI σ b (s * 7 + 5) x2) := g3
            rw [g3', bv_some, answer_e, bd_some]
            unfold outO outW
            rw [vv', if_pos rfl, if_pos rfl]
            obtain ⟨L1, L2⟩ := hR.leave hF b30 lw (show cl x2 < 260 by omega) b1 s1 s4 s5
            have nb : ∀ i, i < 17 → i ≠ b := fun i hi z => by omega
            have k1 : Ch [b] [(0, 10), (1, 15)] σ (sI σ b (s * 7 + 5) x2) := Ch.sI1 (Or.inr (by simp))
            have k2 : Ch [] [(0, 10), (1, 15)] (sI σ b (s * 7 + 5) x2) (sI (sI (sI σ b (s * 7 + 5) x2) 1 15 x2) 0 10 (ftV 0)) := (Ch.sI1 (Or.inl (by simp))).trans (Ch.sI1 (Or.inl (by simp)))
            refine ⟨_, upC C s 5 x2, b, rfl, ⟨TbG.ch g4 k2 (by simp) (by simp), fun t ht => ?_, ?_, ?_, ?_, by omega⟩, by rw [e2]; exact CyE.leave hV hE s1 (show cl x2 < 260 by omega) s5, gI_sI_at, g1, k1.trans (k2.mono (by simp) (fun q hq => Or.inl hq))⟩
            · rw [upC_ne (by decide), upC_ne (by decide), upC_ne (by decide), upC_ne (by decide)]
              exact hV t ht
            · rw [← e2] at L1; exact L1
            · rw [← e2] at L2; exact L2
            · rw [gI_sI_row (by decide), gI_sI_at]; exact e2
      · rw [if_neg c3]
        exact bad (-2) (by decide) (by unfold outV; rw [if_pos c1, if_pos c2, if_neg c3])
    · rw [decide_eq_false c2, if_pos (show b2 false = 0 from rfl)]
      exact bad (-1) (by decide) (by unfold outV; rw [if_pos c1, if_neg c2])
  · have c1' : rgB 0 259 x2 = false := by simpa using c1
    rw [c1', Bool.false_and, if_pos (show b2 false = 0 from rfl)]
    exact bad (-1) (by decide) (by unfold outV; rw [if_neg c1])
/-! stays -/
theorem RwS.lo {r r' : Nat → Int32} (h : RwS r r') : ∀ i, i < 29512 → (i < 7 ∨ i = 9 ∨ 12 < i) → r' i = r i := fun i h1 h2 => h i h1 (by omega) (by omega) (by omega) (by omega) (by omega)
theorem stay_end {m n nw L : Nat} {O : Nat → Nat} {row row' tp : Nat → Int32} {oc oc' : Nat → Nat → Option (Nat × Nat × Bool × Nat)} {W W' ns ns' no no' mv mv' n' b0 : Nat} {C C' : Nat → Nat → Int32} {wi : Nat → Nat} {v : Int32} {σ τ τ' : AH} {ds us : List Nat} {fs gs : List (Nat × Nat)} (hm : m < 1000) (hR : RmI m σ) (hX : XIn σ) (hV : RwV row oc W ns no mv) (hW : WiV row nw wi) (hC : CIn m O row n C nw wi L tp σ) (hI : RIn row nw wi L tp σ) (F : TlF O row n C 7 b0 ds fs σ τ) (hds : ∀ i ∈ ds, 114 < i ∧ i < 124) (h11 : (0, 11) ∉ fs) (h12 : (0, 12) ∉ fs) (h13 : (0, 13) ∉ fs) (hr : RwS row row') (hi : gI τ 1 12 = row' 10 ∧ gI τ 1 13 = row' 11 ∧ gI τ 1 14 = row' 8) (hV' : RwV row' oc' W' ns' no' mv') (hK : SkI row oc' W' n' C' τ) (hCE : CyE n' C') (e10 : gI τ 0 10 = v) (u2 : gI τ' 125 = row') (u3 : gI τ' 124 1 = v) (u4 : Ch us gs τ τ') (hq : QTf us gs) : Inv (m + 1) τ' := by
  have lo := hr.lo
  have rb : RwB row row' := ⟨fun i hi => lo i (by omega) (by omega), fun i h1 h2 => lo i (by omega) (by omega)⟩
  have re : RwE row row' := ⟨lo 6 (by omega) (by omega), fun i h1 h2 => lo i (by omega) (by omega)⟩
  have hA : RwA row row' := ⟨lo 0 (by omega) (by omega), fun i h1 h2 => lo i (by omega) (by omega)⟩
  have hl : LwI row' τ := LwI_cg hA hV.1.1 F.2.2.2.2.2.2
  have kk : Kk row row' σ τ := Or.inl ⟨F.2.2.2.1 12 h12, F.2.2.2.1 13 h13, rb, re⟩
  obtain ⟨hcc, hcn⟩ := kk.cc hC.2.1 hV.1.1 hV.2.1 hV.2.2.1 hl hC.2.2.2.2 hm (fun i h1 h2 => F.2.2.1 i (by omega) (by omega) (fun z => by have := hds i z; omega))
  have eP : nP row' = nP row := by unfold nP; rw [lo 4 (by omega) (by omega)]
  have eE : nE row' = nE row := by unfold nE; rw [lo 6 (by omega) (by omega)]
  obtain ⟨k1, k2, k3, k4, k5, k6⟩ := hK
  refine tell_end hR hX hV.1.1 hC hI F (by decide) hds h11 (fun j hj hne => ?_) ?_ (fun i h1 h2 => lo i (by omega) (by omega)) ⟨hi.1, hi.2.1, hi.2.2, by rw [k5]; exact hV'.2.2.2.2.2.1.2.2.2.1.symm⟩ hV' ⟨by rw [eP, eE]; exact k2, by rw [eP]; exact k3, k4, hCE⟩ (hW.cg hV.2.1 (by omega) (lo 5 (by omega) (by omega)) (fun i h1 h2 => lo i (by omega) (by omega))) hcc hcn e10 u2 u3 u4 hq
  · have j7 : j < 7 := by omega
    obtain ⟨m1, m2, m3⟩ := jM j j7
    have e1 : nJ row' n' j = nJ row n j := by rw [nJ_n j7, nJ_n j7, lo _ (by omega) (by omega)]
    refine ⟨e1, fun s k hs hk => ?_⟩
    rw [nJ_n j7] at hs
    have := jIx (Nat.lt_of_lt_of_le hs (hV.nJ_le j j7)) hk
    rw [CJ_n j7, CJ_n j7]
    exact lo _ (by omega) (by omega)
  · have e1 : nJ row' n' 7 = n' := by unfold nJ; rw [if_pos rfl]
    rw [e1]
    have k1' : TbG τ (3 + 2 * 7) (wdJ 7) (msJ 7) n' C' := k1
    exact k1'.congr (fun s k _ _ => by unfold CJ; rw [if_pos rfl])
theorem CIn.sk {m n nw L : Nat} {O : Nat → Nat} {row tp : Nat → Int32} {oc : Nat → Nat → Option (Nat × Nat × Bool × Nat)} {W ns no mv : Nat} {C : Nat → Nat → Int32} {wi : Nat → Nat} {σ : AH} (hC : CIn m O row n C nw wi L tp σ) (hV : RwV row oc W ns no mv) (hY : StY row n C oc W) : SkI row oc W n C σ :=
  ⟨hC.1.2.1.tbY, hY.1, hY.2.1, hY.2.2.1, by rw [show gI σ 1 15 = row 12 from hC.1.2.1.2.2.2.2.2.2]; exact hV.2.2.2.2.2.1.2.2.2.1, hV.2.2.2.2.2.1.2.2.2.2⟩
theorem S_out {m : Nat} {x1 x2 : Int32} {σ : AH} (hm : m < 1000) (h : Inv m σ) : StpI m σ (F_X11_out x1 x2) (F_X12_out x1 x2) := by
  obtain ⟨hS, hR, hX, O, row, oc, W, ns, no, mv, n, C, nw, wi, L, tp, hV, hY, hW, hC, hI, hM⟩ := h
  have hB := hV.2.1
  obtain ⟨τ, C', b0, t1, t2, t3, t4, t5, t6⟩ := C_outE (x1 := x1) (x2 := x2) hB (hC.1.2.1.tbB hB) (hC.sk hV hY) hY.2.2.2
  have F := tell_fr (jt := 7) hS hC.1 hV.1.1 hC.2.1.1 hM (by decide) t5 t6.x (by decide) (by decide)
  obtain ⟨τ', row', u1, u2, u3, u5, u6, u7, u8, u9, u10, u11, u4⟩ := P_outE (x1 := x1) (x2 := x2) hB hV.2.2.2.2.2.1 (by rw [F.2.2.1 125 (by decide) (by decide) nn0]; exact hI.1 : gI τ 125 = row)
  obtain ⟨_, _, _, g12, g13, g14, g15⟩ := hC.1.2.1
  obtain ⟨_, _, _, _, _, _, ⟨v8, v8'⟩, ⟨v10, v10'⟩, v11, vy⟩ := id hV
  exact ⟨_, τ, τ', t1, u1, stay_end hm hR hX hV hW hC hI F (fun i z => by cases z) (by decide) (by decide) (by decide) u5 ⟨by rw [F.2.2.2.2.1 12 (by decide), g12, u9], by rw [F.2.2.2.2.1 13 (by decide), g13, u10], by rw [F.2.2.2.2.1 14 (by decide), g14, u8]⟩ (hV.mv u5 u7 (by rw [u8]; exact v8) v8' (by rw [u9]; exact v10) v10' (by rw [u10]; exact v11) (by omega)) t2 t3 t4 u2 u3 u4 qTD⟩
theorem CcI.rj {row : Nat → Int32} {σ τ : AH} {cs : List Nat} {fs : List (Nat × Nat)} (h : CcI row σ) (r : RgI row τ) (j : JcI row τ) (c : Ch cs fs σ τ) (h1 : ∀ i ∈ cs, i ≠ 0 ∧ i ≠ 68 ∧ (i < 70 ∨ 79 < i)) (h2 : ∀ q ∈ fs, q.1 ≠ 0 ∧ q.1 ≠ 68 ∧ (q.1 < 70 ∨ 79 < q.1)) : CcI row τ :=
  ⟨r.2.1, r.2.2.1, r.2.2.2.1, r.2.2.2.2, h.2.2.2.2.1.keep c h1 (fun q hq => by have := h2 q hq; exact ⟨fun e => by rw [e] at this; omega, fun e => by rw [e] at this; omega, fun e => by rw [e] at this; omega, by omega⟩), j⟩
theorem qSK : QCf SKc SKf := ⟨by decide, by decide⟩
theorem qOK : QCf OKc SKf := ⟨by decide, by decide⟩
theorem qSQ : QTf SQc SQf := ⟨by decide, by decide⟩
theorem qOG : QTf OGc OGf := ⟨by decide, by decide⟩
theorem squatN_le {row : Nat → Int32} {oc : Nat → Nat → Option (Nat × Nat × Bool × Nat)} {W ns : Nat} {f : Nat → Int32} {x1 x2 x3 : Int32} (h : ns ≤ 40) : squatN ns (squatV row oc W ns f x1 x2 x3) ≤ 40 := by
  by_cases e : ns = 40
  · have : ¬ 0 < squatV row oc W ns f x1 x2 x3 := by
      subst e
      unfold squatV
      rw [if_pos (rfl : (40 : Nat) = 40)]
      repeat' split
      all_goals decide
    unfold squatN; rw [if_neg this]; exact h
  · unfold squatN; split <;> omega
theorem offerN_le {row : Nat → Int32} {oc : Nat → Nat → Option (Nat × Nat × Bool × Nat)} {W no : Nat} {f : Nat → Int32} {x1 : Int32} (h : no ≤ 100) : offerN no (offerV row oc W no f x1) ≤ 100 := by
  by_cases e : no = 100
  · have : ¬ 0 ≤ offerV row oc W no f x1 := by
      subst e
      unfold offerV
      rw [if_pos (rfl : (100 : Nat) = 100)]
      repeat' split
      all_goals decide
    unfold offerN; rw [if_neg this]; exact h
  · unfold offerN; split <;> omega
theorem S_squat {m : Nat} {x1 x2 x3 : Int32} {σ : AH} (hm : m < 1000) (h : Inv m σ) : StpI m σ (F_X11_squat x1 x2 x3) (F_X12_squat x1 x2 x3) := by
  obtain ⟨hS, hR, hX, O, row, oc, W, ns, no, mv, n, C, nw, wi, L, tp, hV, hY, hW, hC, hI, hM⟩ := h
  have hB := hV.2.1
  have hE := hV.2.2.1
  obtain ⟨⟨av, aw_, ax⟩, _, _, _, _, hSt, ⟨v8, v8'⟩, ⟨v10, v10'⟩, v11, vy⟩ := id hV
  obtain ⟨_, _, _, g12, g13, g14, g15⟩ := id hC.1.2.1
  have key : ∀ f, FmF row x3 f → _ := fun f hf => C_squat (x1 := x1) (x2 := x2) (x3 := x3) av aw_ hB hE (hC.2.1.rgI (hC.1.2.1.tbB hB)) (hC.1.2.1.tbE hE) hC.2.1.2.2.2.2.2 (hC.sk hV hY) hY.2.2.2 hS.1 (show gI σ 1 14 = nI ns by rw [show gI σ 1 14 = row 8 from g14]; exact v8) v8' hf
  obtain ⟨_, _, f0, _, hf0, _⟩ := P_squat (x1 := x1) (x2 := x2) (x3 := x3) av hB hE hSt v8 v8' (fun z => by omega) (AX_sq aw_ ax) hI.1
  obtain ⟨s0, τ, n0, C0, d0, k1, _, _, _, _, _, _, kc, kb, kx⟩ := key f0 hf0
  have S0 := kc.sh hS
  have F125 : gI τ 125 = row := by
    have yb : d0 = 18 ∨ 166 ≤ d0 := by
      rw [show gR s0 17 2 = gR σ 17 2 by rw [kc.2.2.2.1]] at kb
      obtain ⟨b, b1, b2', b3⟩ := hC.1.2.2.2.2.1 7 (by decide)
      have e : b = d0 := by have : gR σ 17 2 = some b := b1; rw [kb] at this; cases this; rfl
      rcases b3 with z | z <;> omega
    have x := S0.1
    rw [funext fun k => (kx.2.2.2.2.1 125 (by omega) (fun z => by
      simp only [List.mem_cons, List.not_mem_nil, or_false] at z; omega) k (fun z => by
      simp only [List.mem_cons, List.not_mem_nil, or_false, Prod.mk.injEq] at z; omega)).1]
    exact q125 hI.1 kc qSK
  obtain ⟨τ', row', f, u1, hf, u2, u3, u5, u7, u8, u9, u10, u11, u4⟩ := P_squat (x1 := x1) (x2 := x2) (x3 := x3) av hB hE hSt v8 v8' (fun z => by omega) (AX_sq aw_ ax) F125
  obtain ⟨s, τ2, n', C', b0, t1, t2, t3, t4, t5, t6, t7, tc, tb, tx⟩ := key f hf
  have eτ : τ2 = τ := by rw [k1] at t1; injection t1 with e; injection e with _ e; exact e.symm
  subst eτ
  have q1 := tc.sh hS
  have hCs : CIn m O row n C nw wi L tp s := hC.ch hV.n24 tc (by decide) (by decide) (hC.2.1.rj t6 t7 tc (by decide) (by decide))
  have rIs := hI.ch tc (by decide) (by decide)
  have F := tell_fr (jt := 7) q1 hCs.1 av hCs.2.1.1 (hM.ch hS tc (by decide) (by decide)) (by decide) tb tx (by decide) (by decide)
  obtain ⟨_, _, _, h12, h13, h14, h15⟩ := id hCs.1.2.1
  refine ⟨_, τ2, τ', t1, u1, stay_end hm (hR.ch tc) (hX.ch tc (by decide) (by decide)) hV hW hCs rIs F (by decide) (by decide) (by decide) (by decide) u5 ⟨by rw [F.2.2.2.2.1 12 (by decide), h12, u9], by rw [F.2.2.2.2.1 13 (by decide), h13, u10], by rw [t4, u8]⟩ (hV.mv u5 u7 u8 (squatN_le v8') (by rw [u9]; exact v10) v10' (by rw [u10]; exact v11) (by omega)) t2 t3 t5 u2 u3 u4 qSQ⟩
theorem S_offer {m : Nat} {x1 : Int32} {σ : AH} (hm : m < 1000) (h : Inv m σ) : StpI m σ (F_X11_offer x1) (F_X12_offer x1) := by
  obtain ⟨hS, hR, hX, O, row, oc, W, ns, no, mv, n, C, nw, wi, L, tp, hV, hY, hW, hC, hI, hM⟩ := h
  have hB := hV.2.1
  have hE := hV.2.2.1
  obtain ⟨⟨av, aw_, ax⟩, _, _, _, _, hSt, ⟨v8, v8'⟩, ⟨v10, v10'⟩, v11, vy⟩ := id hV
  obtain ⟨_, _, _, g12, g13, g14, g15⟩ := id hC.1.2.1
  have key : ∀ f, FmF row x1 f → _ := fun f hf => C_offer (x1 := x1) av aw_ hB hE (hC.2.1.rgI (hC.1.2.1.tbB hB)) (hC.1.2.1.tbE hE) hC.2.1.2.2.2.2.2 (hC.sk hV hY) hY.2.2.2 hC.1.2.2.ow (show gI σ 1 12 = nI no by rw [show gI σ 1 12 = row 10 from g12]; exact v10) v10' (show gI σ 1 13 = nI mv by rw [show gI σ 1 13 = row 11 from g13]; exact v11) hf
  obtain ⟨_, _, f0, _, hf0, _⟩ := P_offer (x1 := x1) av hB hE hSt v10 v10' v11 (fun z => by omega) hI.1
  obtain ⟨s0, τ, n0, C0, d0, k1, _, _, _, _, _, _, _, kc, kb, kx⟩ := key f0 hf0
  have S0 := kc.sh hS
  have F125 : gI τ 125 = row := by
    have yb : d0 = 18 ∨ 166 ≤ d0 := by
      rw [show gR s0 17 2 = gR σ 17 2 by rw [kc.2.2.2.1]] at kb
      obtain ⟨b, b1, b2', b3⟩ := hC.1.2.2.2.2.1 7 (by decide)
      have e : b = d0 := by have : gR σ 17 2 = some b := b1; rw [kb] at this; cases this; rfl
      rcases b3 with z | z <;> omega
    have x := S0.1
    rw [funext fun k => (kx.2.2.2.2.1 125 (by omega) (fun z => by
      simp only [List.mem_cons, List.not_mem_nil, or_false] at z; omega) k (fun z => by
      simp only [List.mem_cons, List.not_mem_nil, or_false, Prod.mk.injEq] at z; omega)).1]
    exact q125 hI.1 kc qOK
  obtain ⟨τ', row', f, u1, hf, u2, u3, u5, u7, u8, u9, u10, u11, u4⟩ := P_offer (x1 := x1) av hB hE hSt v10 v10' v11 (fun z => by omega) F125
  obtain ⟨s, τ2, n', C', b0, t1, t2, t3, t4, t4', t5, t6, t7, tc, tb, tx⟩ := key f hf
  have eτ : τ2 = τ := by rw [k1] at t1; injection t1 with e; injection e with _ e; exact e.symm
  subst eτ
  have q1 := tc.sh hS
  have hCs : CIn m O row n C nw wi L tp s := hC.ch hV.n24 tc (by decide) (by decide) (hC.2.1.rj t6 t7 tc (by decide) (by decide))
  have rIs := hI.ch tc (by decide) (by decide)
  have F := tell_fr (jt := 7) q1 hCs.1 av hCs.2.1.1 (hM.ch hS tc (by decide) (by decide)) (by decide) tb tx (by decide) (by decide)
  obtain ⟨_, _, _, h12, h13, h14, h15⟩ := id hCs.1.2.1
  refine ⟨_, τ2, τ', t1, u1, stay_end hm (hR.ch tc) (hX.ch tc (by decide) (by decide)) hV hW hCs rIs F (by decide) (by decide) (by decide) (by decide) u5 ⟨by rw [t4, u9], by rw [t4', u10], by rw [F.2.2.2.2.1 14 (by decide), h14, u8]⟩ (hV.mv u5 u7 (by rw [u8]; exact v8) v8' u9 (offerN_le v10') u10 (by omega)) t2 t3 t5 u2 u3 u4 qOG⟩
end
