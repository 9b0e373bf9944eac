section
/-! squat of the class -/
theorem RgI.keep {row : Nat → Int32} {σ τ : AH} {cs : List Nat} {fs : List (Nat × Nat)} (h : RgI row σ) (c : Ch cs fs σ τ) (hL : LwI row τ) (h1 : ∀ i ∈ cs, 13 ≤ i ∧ i < 166 ∧ (i < 34 ∨ 67 < i)) (h2 : ∀ q ∈ fs, 13 ≤ q.1 ∧ q.1 < 166 ∧ (q.1 < 34 ∨ 67 < q.1)) : RgI row τ :=
  ⟨h.1.ch c (fun i hi => ⟨(h1 i hi).1, (h1 i hi).2.1⟩) (fun q hq => ⟨(h2 q hq).1, (h2 q hq).2.1⟩), hL, h.2.2.1.keep c (fun i hi => by have := h1 i hi; omega) (fun q hq => by have := h2 q hq; omega), h.2.2.2.1.keep c (fun i hi => by have := h1 i hi; omega) (fun q hq => by have := h2 q hq; omega), h.2.2.2.2.keep c (fun i hi => by have := h1 i hi; omega) (fun q hq => by have := h2 q hq; omega)⟩
theorem JcI.keep {row : Nat → Int32} {σ τ : AH} {cs : List Nat} {fs : List (Nat × Nat)} (h : JcI row σ) (c : Ch cs fs σ τ) (h1 : ∀ i ∈ cs, i ≠ 0 ∧ i ≠ 113 ∧ i ≠ 114) (h2 : ∀ q ∈ fs, q.1 ≠ 0 ∧ q.1 ≠ 113 ∧ q.1 ≠ 114) : JcI row τ := by
  have e0 : gI τ 0 = gI σ 0 := c.rI (fun q => (h1 _ q).1 rfl) (fun q hq => (h2 q hq).1)
  have e1 : gI τ 113 = gI σ 113 := c.rI (fun q => (h1 _ q).2.1 rfl) (fun q hq => (h2 q hq).2.1)
  have e2 : gI τ 114 = gI σ 114 := c.rI (fun q => (h1 _ q).2.2 rfl) (fun q hq => (h2 q hq).2.2)
  unfold JcI
  rw [e0, e1, e2]; exact h
/-- from when on one that squats lives there, in the class -/
def sqC (row : Nat → Int32) (x : Int32) : Int32 := if cnV row x x 0 7 0 0 0 = -1 then 2000000000 else x + cnV row x x 0 7 0 0 0
theorem sq_same {row : Nat → Int32} {x : Int32} {v : Nat} (hV : AV row) (hW : AW row) (hv : v < 260) : decide (sqC row x ≤ nI v) = decide (sqL row x ≤ nI v) := by
  have n1 : ¬ (1000000 : Int32) ≤ nI v := nI_ge (b := 1000000) (by omega) (by decide)
  have n2 : ¬ (2000000000 : Int32) ≤ nI v := nI_ge (b := 2000000000) (by omega) (by decide)
  unfold sqC sqL
  have mx := cnV_max (k := x) (w := x) (r := 0) hV hW (QR_squat hV hW) (by decide)
  cases hb : (fd row x x (stO 0 x) 7 0 0 0).1 with
  | false =>
    have e : cnV row x x 0 7 0 0 0 = -1 := by unfold cnV; rw [hb, if_neg (by decide)]
    rw [e, if_pos rfl, if_neg (by decide), decide_eq_false n1, decide_eq_false n2]
  | true =>
    have e : cnV row x x 0 7 0 0 0 = aln (fd row x x (stO 0 x) 7 0 0 0).2.1 := by unfold cnV; rw [hb, if_pos rfl]
    rw [hb, if_pos rfl, ← e] at mx
    have ge : (0 : Int32) ≤ cnV row x x 0 7 0 0 0 := by rw [← mx]; exact imax_l.1
    have ne : cnV row x x 0 7 0 0 0 ≠ -1 := fun z => by rw [z] at ge; exact absurd ge (by decide)
    rw [if_neg ne, if_pos rfl, e]
def SKc : List Nat := RGc ++ [114, 120, 121, 122, 123]
def SKf : List (Nat × Nat) := RGf ++ [(113, 3), (113, 4)]
theorem C_squat {row : Nat → Int32} {oc : Nat → Nat → Option (Nat × Nat × Bool × Nat)} {W ns n : Nat} {C : Nat → Nat → Int32} {f : Nat → Int32} {x1 x2 x3 : Int32} {σ : AH} (hA : AV row) (hW : AW row) (hB : BV row) (hE : EV row) (hI : RgI row σ) (hTE : TbE row σ) (hJ : JcI row σ) (hS : SkI row oc W n C σ) (hCE : CyE n C) (hx : 166 ≤ nx σ) (h14 : gI σ 1 14 = nI ns) (hns : ns ≤ 40) (hf : FmF row x3 f) :
    ∃ s τ n' C' b0, F_X11_squat x1 x2 x3 σ = some (squatV row oc W ns f x1 x2 x3, τ) ∧ SkI row (squatO row oc (squatV row oc W ns f x1 x2 x3) x1 x2 x3) (squatW W (squatV row oc W ns f x1 x2 x3) x3) n' C' τ ∧ CyE n' C' ∧ gI τ 1 14 = nI (squatN ns (squatV row oc W ns f x1 x2 x3)) ∧ gI τ 0 10 = ftV (squatV row oc W ns f x1 x2 x3) ∧ RgI row s ∧ JcI row s ∧ Ch SKc SKf σ s ∧ gR s 17 2 = some b0 ∧ ChX 17 [b0, 121] [(17, 3), (1, 14), (1, 15), (0, 10)] s τ := by
  obtain ⟨hY, hV, hR, hF, h15, hW0⟩ := id hS
  have b30 := hB.p.2.1
  have n60 := hE.n.2
  have hn : n ≤ 7830 := hY.2.1.2.2.2
  obtain ⟨b0, hb0, hb0'⟩ : ∃ b, gR σ 17 2 = some b ∧ (b = 18 ∨ 166 ≤ b) := by
    obtain ⟨_, _, b, _, d1, _, _, d4, _⟩ := id hY
    exact ⟨b, d1, d4⟩
  have gRs : ∀ s, Ch SKc SKf σ s → gR s 17 2 = some b0 := fun s c => by rw [c.2.2.2.1]; exact hb0
  have cell1 : ∀ s, Ch SKc SKf σ s → gI s 1 = gI σ 1 := fun s c => c.rI (by simp [SKc, RGc, RFc]) (by simp [SKf, RGf, RFf])
  have bad : ∀ (u : AH) (v : Int32), RgI row u → JcI row u → Ch SKc SKf σ u → ¬ 0 < v → squatV row oc W ns f x1 x2 x3 = v →
      ∃ s τ n' C' b0, (bd (F_X11_answer v u) fun v25 σ21 => some (v25, σ21)) = some (squatV row oc W ns f x1 x2 x3, τ) ∧ SkI row (squatO row oc (squatV row oc W ns f x1 x2 x3) x1 x2 x3) (squatW W (squatV row oc W ns f x1 x2 x3) x3) n' C' τ ∧ CyE n' C' ∧ gI τ 1 14 = nI (squatN ns (squatV row oc W ns f x1 x2 x3)) ∧ gI τ 0 10 = ftV (squatV row oc W ns f x1 x2 x3) ∧ RgI row s ∧ JcI row s ∧ Ch SKc SKf σ s ∧ gR s 17 2 = some b0 ∧ ChX 17 [b0, 121] [(17, 3), (1, 14), (1, 15), (0, 10)] s τ := fun s v rg jc ch hv e => by
    rw [answer_e, bd_some, e]
    unfold squatO squatW squatN
    rw [if_neg hv, if_neg hv, if_neg hv]
    have k : Ch [] [(0, 10)] s (sI s 0 10 (ftV v)) := Ch.sI1 (Or.inl (by simp))
    refine ⟨s, _, n, C, b0, rfl, ⟨TbG.ch (TbG.ch hY ch (by simp [SKc, RGc, RFc]) (by simp [SKf, RGf, RFf])) k (by simp) (by simp), hV, hR, hF, ?_, hW0⟩, hCE, ?_, gI_sI_at, rg, jc, ch, gRs s ch, Ch.x (k.mono (by simp) (by simp))⟩
    · rw [gI_sI_row (by decide), cell1 s ch]; exact h15
    · rw [gI_sI_row (by decide), cell1 s ch]; exact h14
  unfold F_X11_squat F_X11_squat_31 F_X11_squat_98
  rw [F_isMoveWeek h15, bd_some, F_isPlotC hB hI.1, bd_b (α := Int32), F_isKnownEntry hE hTE, bd_b (α := Int32)]
  by_cases c1 : rgB 0 259 x3 = true
  · rw [c1, Bool.true_and]
    by_cases c2 : nI W ≤ x3
    · rw [decide_eq_true c2, if_neg (show ¬ b2 true = 0 by decide)]
      by_cases c4 : ltB (nP row) x2 = true
      · rw [if_pos c4]
        by_cases c3 : ltB (nE row) x1 = true ∧ ¬ x3 < en row (cl x1) 6
        · rw [if_pos c3]
          obtain ⟨e1, b1⟩ := ltB_n c3.1 (by omega)
          obtain ⟨e2, b2'⟩ := ltB_n c4 (by omega)
          obtain ⟨e3, b3⟩ := rg0_n (b := 259) c1 (by decide)
          have c5 : en row (cl x1) 6 ≤ x3 := Int32.not_lt.mp c3.2
          have hk : (0 : Int32) ≤ x3 := by rw [e3]; exact nI_le (a := 0) (by omega) (by omega)
          have KE_ := (F_knowing hA hk hI.2.1 hI.1).2.1
          obtain ⟨a, τ1, t1, t2, t3, t4, t5, t6, t7, t8, t9⟩ := F_runFor (k := x3) (l := 0) hA hW hB hk (by omega) hI.1 hI.2.1 hI.2.2.1 hI.2.2.2.1 hI.2.2.2.2
          have t1' : F_X11_runFor x3 (0 : Int32) σ = some (a, τ1) := t1
          have ma : a ∈ runIds := by unfold runIds; rcases t2 with h | h <;> simp [h]
          have R1 : RgI row τ1 := ⟨t4, t5, t6, t7, t8⟩
          have k1 : Ch SKc SKf σ τ1 := t9.mono (fun i hi => List.mem_append_left _ hi) (fun q hq => Or.inl (List.mem_append_left _ hq))
          have J1 : JcI row τ1 := hJ.keep t9 (by simp [RGc, RFc]) (by simp [RGf, RFf])
          have TE1 : TbE row τ1 := hTE.ch t9 (by simp [RGc, RFc]) (by simp [RGf, RFf])
          obtain ⟨τ2, u1, u2, u3, u4⟩ := F_join (k := x3) hE TE1 J1
          have R2 : RgI row τ2 := R1.keep u4 (R1.2.1.ch u4 (by simp) (by simp)) (by simp) (by simp)
          have k2 : Ch SKc SKf σ τ2 := k1.trans (u4.mono (by simp [SKc]) (by simp [SKf]))
          have Y2 : TbY τ2 n C := TbG.ch hY k2 (by simp [SKc, RGc, RFc]) (by simp [SKf, RGf, RFf])
          have Rn2 := t3.keep u4 (by rcases t2 with h | h <;> simp [h]) (by rcases t2 with h | h <;> simp [h])
          have fe : ∀ e, e < nE row → gI τ2 114 e = f e := fun e he => fam_unique hE u2 hf he
          rw [t1', bd_some, if_pos ma, u1, bv_some]
          have K3 : KE row (nI (cl x3)) (ltK row (nI (cl x3))) := by rw [← e3]; exact KE_
          have Rn3 : RnI row (ltK row (nI (cl x3))) 0 (sw row (ltK row (nI (cl x3)))) a 260 τ2 := by rw [← e3]; exact Rn2
          obtain ⟨τ3, v1, v2, v3, v4, v5⟩ := F_lookRound (w := cl x3) (oc := oc) (f := f) hA hW hB hE K3 t2 Rn3 R2.1 R2.2.1 Y2 hV hR (by omega) fe (fun e he => fam_val hE hf he)
          rw [← e3] at v1 v3
          have R3 : RgI row τ3 := R2.keep v5 v2 (by simp [LKc]) (by simp [LWf])
          have J3 : JcI row τ3 := u3.keep v5 (by simp [LKc]) (by simp [LWf])
          have k3 : Ch SKc SKf σ τ3 := k2.trans (v5.mono (by simp [LKc, SKc, RGc, RFc]) (by simp [LWf, SKf, RGf, RFf]))
          have fr : F_X2_isFree x2 τ3 = some (b2 (hoB row x3 (cl x2) (cl x3) && (oc (cl x2) (cl x3)).isNone), τ3) := by
            have := F_isFreeC (p := cl x2) hA hW hB hR (show cl x3 < 260 by omega) b2' hn v3
            rw [← e2] at this; exact this
          rw [v1, bv_some, fr, bd_some]
          have vv : squatV row oc W ns f x1 x2 x3 = (if hoB row x3 (cl x2) (cl x3) = true then (if (oc (cl x2) (cl x3)).isNone = true then (if (fsF (rfP oc f (f (cl x1)) (cl x3) true) (nP row) 0).isNone = true then (if (fsF (rfP oc f (f (cl x1)) (cl x3) false) (nP row) 0).isNone = true then (if ns = 40 then -5 else nI (ns + 1)) else -3) else -3) else -3) else -3) := by
            unfold squatV; rw [if_pos c1, if_pos c2, if_pos c3.1, if_pos c4, if_pos c5]
          cases hh : (hoB row x3 (cl x2) (cl x3) && (oc (cl x2) (cl x3)).isNone) with
          | false =>
            rw [if_pos (show b2 false = 0 from rfl)]
            refine bad τ3 (-3) R3 J3 k3 (by decide) ?_
            rw [vv]
            cases h1 : hoB row x3 (cl x2) (cl x3) with
            | false => rw [if_neg (by decide)]
            | true => rw [h1, Bool.true_and] at hh; rw [hh, if_pos rfl, if_neg (by decide)]
          | true =>
            obtain ⟨h1, h2⟩ := Bool.and_eq_true_iff.mp hh
            have on : oc (cl x2) (cl x3) = none := Option.isNone_iff_eq_none.mp h2
            rw [h1, h2, if_pos rfl, if_pos rfl] at vv
            obtain ⟨g, g1, _, g3⟩ := (hf.1.1 (cl x1) b1).2 c3.2
            have q1 : inB x1 60 = true := by rw [e1]; exact inB_n (by omega) (by omega)
            have g114 : gI τ3 114 x1.toNatClampNeg = nI g := by
              rw [v5.rI (by simp [LKc]) (by simp [LWf])]
              rw [← g3]; exact fe _ b1
            rw [if_neg (show ¬ b2 true = 0 by decide), if_pos q1, g114, F_isRooflessC hB (show g < 60 by omega) v4, bd_some]
            rw [g3] at vv
            cases hr : ((fsF (rfP oc f (nI g) (cl x3) true) (nP row) 0).isNone && (fsF (rfP oc f (nI g) (cl x3) false) (nP row) 0).isNone) with
            | false =>
              rw [if_pos (show b2 false = 0 from rfl)]
              refine bad τ3 (-3) R3 J3 k3 (by decide) ?_
              rw [vv]
              cases z1 : (fsF (rfP oc f (nI g) (cl x3) true) (nP row) 0).isNone with
              | false => rw [if_neg (by decide)]
              | true => rw [z1, Bool.true_and] at hr; rw [hr, if_pos rfl, if_neg (by decide)]
            | true =>
              obtain ⟨z1, z2⟩ := Bool.and_eq_true_iff.mp hr
              rw [z1, z2, if_pos rfl, if_pos rfl] at vv
              rw [if_neg (show ¬ b2 true = 0 by decide), cell1 τ3 k3, h14]
              by_cases c40 : ns = 40
              · rw [if_neg (show ¬ nI ns < (40 : Int32) by rw [c40]; decide)]
                exact bad τ3 (-5) R3 J3 k3 (by decide) (by rw [vv, if_pos c40])
              · rw [if_pos (show nI ns < (40 : Int32) from nI_lt (b := 40) (by omega) (by decide))]
                rw [if_neg c40] at vv
                obtain ⟨τ4, τ5, w1, w2, w3, w4⟩ := Rdy_of (k := x3) (w := x3) (r := 0) hA hW R3.2.1
                obtain ⟨τ6, y1, y2, y3⟩ := Rdy_counted hA w3 (h := 60) (by decide) (QR_squat hA hW)
                have y1' : F_X3_counted (60 : Int32) τ5 = some (cnV row x3 x3 0 7 0 0 0, τ6) := y1
                rw [w1, bv_some, w2, bv_some, y1', bd_some]
                have k46 : Ch LWc LWf τ3 τ6 := w4.trans y3
                have R6 : RgI row τ6 := R3.lw k46 y2.1
                have J6 : JcI row τ6 := J3.keep k46 (by simp [LWc]) (by simp [LWf])
                have k6 : Ch SKc SKf σ τ6 := k3.trans (k46.mono (by simp [LWc, SKc, RGc, RFc]) (by simp [LWf, SKf, RGf, RFf]))
                have Y6 : TbY τ6 n C := TbG.ch hY k6 (by simp [SKc, RGc, RFc]) (by simp [SKf, RGf, RFf])
                have g120 : gI τ6 120 (cl x2) = loW row x3 (cl x2) (cl x3) := by
                  rw [k46.rI (by simp [LWc]) (by simp [LWf])]; exact (v3 _ b2').1
                have lw : W ≤ cl x3 := by
                  rw [e3, Int32.le_iff_toInt_le, nI_toInt (by omega), nI_toInt (by omega)] at c2; omega
                have pos : (0 : Int32) < nI (ns + 1) := by
                  rw [Int32.lt_iff_toInt_lt, nI_toInt (by omega)]
                  have : (0 : Int32).toInt = 0 := by decide
                  omega
                -- a HOME: when it ends
                have nk : knD row x3 0 (cl x2) ≠ -1 := by
                  unfold hoB at h1; exact of_decide_eq_true (Bool.and_eq_true_iff.mp h1).1
                have lo_ce : loW row x3 (cl x2) (cl x3) = ceW row x3 (cl x2) ∧ ¬ ceW row x3 (cl x2) ≤ nI (cl x3) := by
                  have hl := ho_lo (k := x3) (p := cl x2) hA hW (show cl x3 < 260 by omega)
                  rw [h1] at hl
                  have np : ¬ loW row x3 (cl x2) (cl x3) ≤ 0 := fun z => by rw [decide_eq_true z] at hl; cases hl
                  unfold loW at np ⊢
                  by_cases d : dnB row x3 (cl x2) (cl x3) = true
                  · rw [if_pos d] at np ⊢
                    by_cases c : ceW row x3 (cl x2) ≤ nI (cl x3)
                    · rw [if_pos c] at np; exact absurd (Int32.le_refl 0) np
                    · rw [if_neg c]; exact ⟨rfl, c⟩
                  · rw [if_neg d] at np; exact absurd (Int32.le_refl 0) np
                have fin : ∃ s τ n' C' b0, F_X11_squat_176 x3 (sqC row x3) x3 x2 x1 τ6 = some (squatV row oc W ns f x1 x2 x3, τ) ∧ SkI row (squatO row oc (squatV row oc W ns f x1 x2 x3) x1 x2 x3) (squatW W (squatV row oc W ns f x1 x2 x3) x3) n' C' τ ∧ CyE n' C' ∧ gI τ 1 14 = nI (squatN ns (squatV row oc W ns f x1 x2 x3)) ∧ gI τ 0 10 = ftV (squatV row oc W ns f x1 x2 x3) ∧ RgI row s ∧ JcI row s ∧ Ch SKc SKf σ s ∧ gR s 17 2 = some b0 ∧ ChX 17 [b0, 121] [(17, 3), (1, 14), (1, 15), (0, 10)] s τ := by
                  unfold F_X11_squat_176
                  obtain ⟨τ7, s, n', b0', b1', p1, p2, p3, p4, p5, p6, p7, p8, p9, p10, p11⟩ := F_goIn (p := cl x2) (x1 := x1) (x3 := x3) (x4 := sqC row x3) (x5 := 0) Y6 (by rw [k6.2.1]; exact hx) (fun h => stays_room b30 hV hR hCE h) (by omega)
                  rw [← e2] at p1 p2
                  obtain ⟨D, hD⟩ : ∃ D : Nat → Nat → Int32, D = fun t j => if t = s then gi7 x2 x1 x3 (sqC row x3) (gI τ6 120 (cl x2)) 0 j else C t j := ⟨_, rfl⟩
                  rw [← hD] at p2
                  have Do : ∀ t j, t ≠ s → D t j = C t j := fun t j h => by rw [hD]; exact if_neg h
                  have Ds : ∀ j, D s j = gi7 x2 x1 x3 (sqC row x3) (gI τ6 120 (cl x2)) 0 j := fun j => by rw [hD]; exact if_pos rfl
                  have D4 : D s 4 = ceW row x3 (cl x2) := by rw [Ds]; show gI τ6 120 (cl x2) = _; rw [g120]; exact lo_ce.1
                  have D3 : D s 3 = sqC row x3 := by rw [Ds]; rfl
                  obtain ⟨G1, G2⟩ := hR.goIn (n' := n') (C' := D) (s := s) (w := cl x3) (p := cl x2) (e := cl x1) (c := 0) (ov := fun u => decide (heW row x3 (cl x2) ≤ nI u)) (lv := fun u => decide (sqL row x3 ≤ nI u)) hF b30 lw (by omega) b2' on p4 p3 (fun t ht hne => ⟨p6 t ht hne, fun j => Do t j hne⟩) (fun z => empty_cv (p7 z)) (by rw [Ds]; exact e2) (by rw [Ds]; rfl) (by rw [Ds]; exact e3) (fun v hv => by rw [D3]; exact sq_same hA hW hv) (fun v hv => by rw [D4]; exact decide_eq_decide.mpr (end_same hA hW hv nk).symm) (by rw [Ds]; show (260 : Int32) ≤ 2000000000; decide) (by rw [Ds]; rfl)
                  have GE : CyE n' D := hCE.goIn (s := s) (w := cl x3) (fun t ht hne => ⟨p6 t ht hne, fun j => Do t j hne⟩) (by omega) (by rw [Ds]; exact e3) (by rw [D4]; exact lo_ce.2) (by rw [Ds]; show (260 : Int32) ≤ 2000000000; decide)
                  have b0e : b0' = b0 := by
                    have := gRs τ6 k6
                    rw [p9] at this; cases this; rfl
                  have g14 : gI τ7 1 14 = nI ns := by
                    have := (p11.2.2.2.2.1 1 (by rw [k6.2.1]; omega) (by simp; omega) 14 (by simp)).1
                    rw [this, cell1 τ6 k6]; exact h14
                  rw [p1, bv_some, g14, nI_1, answer_e, bd_some]
                  have v14 : gI (sI (sI τ7 1 14 (nI (ns + 1))) 1 15 x3) 1 14 = nI (ns + 1) := by rw [gI_sI_ne (by decide), gI_sI_at]
                  rw [v14]
                  have k8 : Ch [] [(1, 14), (1, 15), (0, 10)] τ7 (sI (sI (sI τ7 1 14 (nI (ns + 1))) 1 15 x3) 0 10 (ftV (nI (ns + 1)))) := ((Ch.sI1 (Or.inl (by simp))).trans (Ch.sI1 (Or.inl (by simp)))).trans (Ch.sI1 (Or.inl (by simp)))
                  unfold squatO squatW squatN
                  rw [vv, if_pos pos, if_pos pos, if_pos pos]
                  refine ⟨τ6, _, n', D, b0, rfl, ⟨TbG.ch p2 k8 (by simp) (by simp), fun t ht => ?_, G1, G2, ?_, by omega⟩, GE, ?_, gI_sI_at, R6, J6, k6, gRs τ6 k6, ?_⟩
                  · by_cases z : t = s
                    · rw [z, Ds, Ds, Ds, Ds]
                      exact ⟨⟨e2, b2'⟩, ⟨e1, b1⟩, ⟨e3, by show cl x3 < 260; omega⟩, ⟨rfl, by show cl (0 : Int32) < 10; decide⟩⟩
                    · rw [Do t _ z, Do t _ z, Do t _ z, Do t _ z]; exact hV t (p6 t ht z)
                  · rw [gI_sI_row (by decide), gI_sI_at]; exact e3
                  · rw [gI_sI_row (by decide)]; exact v14
                  · rw [b0e] at p11
                    exact (p11.mono (by simp) (by simp)).trans (Ch.x (k8.mono (by simp) (by simp)))
                by_cases d : cnV row x3 x3 0 7 0 0 0 = -1
                · have es : sqC row x3 = 2000000000 := by unfold sqC; rw [if_pos d]
                  rw [if_pos d]
                  rw [es] at fin; exact fin
                · have es : sqC row x3 = x3 + cnV row x3 x3 0 7 0 0 0 := by unfold sqC; rw [if_neg d]
                  rw [if_neg d]
                  rw [es] at fin; exact fin
        · rw [if_neg c3]
          refine bad σ (-2) hI hJ (Ch.rf _) (by decide) ?_
          unfold squatV
          rw [if_pos c1, if_pos c2]
          by_cases z : ltB (nE row) x1 = true
          · rw [if_pos z, if_pos c4, if_neg (fun y => c3 ⟨z, Int32.not_lt.mpr y⟩)]
          · rw [if_neg z]
      · rw [if_neg c4]
        refine bad σ (-2) hI hJ (Ch.rf _) (by decide) ?_
        unfold squatV
        rw [if_pos c1, if_pos c2]
        by_cases z : ltB (nE row) x1 = true
        · rw [if_pos z, if_neg c4]
        · rw [if_neg z]
    · rw [decide_eq_false c2, if_pos (show b2 false = 0 from rfl)]
      exact bad σ (-1) hI hJ (Ch.rf _) (by decide) (by unfold squatV; rw [if_pos c1, if_neg c2])
  · have c1' : rgB 0 259 x3 = false := by simpa using c1
    rw [c1', Bool.false_and, if_pos (show b2 false = 0 from rfl)]
    exact bad σ (-1) hI hJ (Ch.rf _) (by decide) (by unfold squatV; rw [if_neg c1])
end
