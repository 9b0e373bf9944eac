section
/-! rent of the class -/
theorem YcI.keep {row : Nat → Int32} {σ τ : AH} {cs : List Nat} {fs : List (Nat × Nat)} (h : YcI row σ) (c : Ch cs fs σ τ) (h1 : ∀ i ∈ cs, i ≠ 0 ∧ (i < 34 ∨ 43 < i)) (h2 : ∀ q ∈ fs, q.1 ≠ 0 ∧ (q.1 < 34 ∨ 43 < q.1)) : YcI row τ := by
  have ea : gI τ 34 = gI σ 34 := c.rI (fun q => by have := h1 _ q; omega) (fun q hq e => by have := h2 q hq; omega)
  have e0 : gI τ 0 = gI σ 0 := c.rI (fun q => (h1 _ q).1 rfl) (fun q hq => (h2 q hq).1)
  refine ⟨by rw [ea, e0]; exact h.1, fun z l' hl' e => ?_⟩
  rw [ea, e0] at z
  rw [ea] at e ⊢
  exact YdI_ch (h.2 z l' hl' e) c (fun i hi => (h1 i hi).2) (fun q hq => (h2 q hq).2)
theorem RgI.lw {row : Nat → Int32} {σ τ : AH} (h : RgI row σ) (c : Ch LWc LWf σ τ) (hL : LwI row τ) : RgI row τ :=
  ⟨h.1.ch c (by simp [LWc]) (by simp [LWf]), hL, h.2.2.1.keep c (by simp [LWc]) (by simp [LWf]), h.2.2.2.1.keep c (by simp [LWc]) (by simp [LWf]), h.2.2.2.2.keep c (by simp [LWc]) (by simp [LWf])⟩
theorem F_askOf {row : Nat → Int32} {e : Nat} {v : Int32} {σ : AH} (he : e < nE row) (hT : TbE row σ) : ∃ τ, F_X3_askOf (nI e) v σ = some τ ∧ (∀ i, st8 (gI τ 32) i = va_up (va_up (va_up (va_up (va_up (st8 (gI σ 32)) 2 (en row e 2)) 3 (en row e 3)) 4 (en row e 5)) 6 (en row e 4)) 5 v i) ∧ Ch [32] [] σ τ := by
  unfold F_X3_askOf
  have a2 : F_X8_at 13 (nI e) (2 : Int32) σ = some (en row e 2, σ) := at_en (j := 2) hT he (by decide)
  rw [a2, bd_some]
  have k1 : Ch [32] [] σ (sI σ 32 1 (en row e 2)) := Ch.sI1 (Or.inr (by simp))
  have T2 := hT.ch k1 (by simp) (by simp)
  have a3 : F_X8_at 13 (nI e) (3 : Int32) (sI σ 32 1 (en row e 2)) = some (en row e 3, sI σ 32 1 (en row e 2)) := at_en (j := 3) T2 he (by decide)
  rw [a3, bd_some]
  have k2 : Ch [32] [] (sI σ 32 1 (en row e 2)) (sI (sI σ 32 1 (en row e 2)) 32 2 (en row e 3)) := Ch.sI1 (Or.inr (by simp))
  have T3 := T2.ch k2 (by simp) (by simp)
  have a5 : F_X8_at 13 (nI e) (5 : Int32) (sI (sI σ 32 1 (en row e 2)) 32 2 (en row e 3)) = some (en row e 5, sI (sI σ 32 1 (en row e 2)) 32 2 (en row e 3)) := at_en (j := 5) T3 he (by decide)
  rw [a5, bd_some]
  have k3 : Ch [32] [] (sI (sI σ 32 1 (en row e 2)) 32 2 (en row e 3)) (sI (sI (sI σ 32 1 (en row e 2)) 32 2 (en row e 3)) 32 3 (en row e 5)) := Ch.sI1 (Or.inr (by simp))
  have T4 := T3.ch k3 (by simp) (by simp)
  have a4 : F_X8_at 13 (nI e) (4 : Int32) (sI (sI (sI σ 32 1 (en row e 2)) 32 2 (en row e 3)) 32 3 (en row e 5)) = some (en row e 4, sI (sI (sI σ 32 1 (en row e 2)) 32 2 (en row e 3)) 32 3 (en row e 5)) := at_en (j := 4) T4 he (by decide)
  rw [a4, bd_some]
  obtain ⟨τ2, h2⟩ : ∃ x, x = sI (sI (sI (sI (sI σ 32 1 (en row e 2)) 32 2 (en row e 3)) 32 3 (en row e 5)) 32 5 (en row e 4)) 32 4 v := ⟨_, rfl⟩
  rw [← h2]
  have k6 : Ch [32] [] σ τ2 := by
    rw [h2]
    exact ((((k1).trans k2).trans k3).trans (Ch.sI1 (Or.inr (by simp)))).trans (Ch.sI1 (Or.inr (by simp)))
  refine ⟨τ2, rfl, fun i => ?_, k6⟩
  have s8 : ∀ (f : Nat → Int32) (j : Nat), j ≠ 0 → st8 f j = f (j - 1) := fun f j hj => by unfold st8; rw [if_neg hj]
  by_cases c5 : i = 5
  · subst c5; rw [up_same, s8 _ 5 (by decide), h2, gI_sI_at]
  · rw [up_ne _ _ _ c5]
    by_cases c6 : i = 6
    · subst c6; rw [up_same, s8 _ 6 (by decide), h2, gI_sI_ne (by decide), gI_sI_at]
    · rw [up_ne _ _ _ c6]
      by_cases c4 : i = 4
      · subst c4; rw [up_same, s8 _ 4 (by decide), h2, gI_sI_ne (by decide), gI_sI_ne (by decide), gI_sI_at]
      · rw [up_ne _ _ _ c4]
        by_cases c3 : i = 3
        · subst c3; rw [up_same, s8 _ 3 (by decide), h2, gI_sI_ne (by decide), gI_sI_ne (by decide), gI_sI_ne (by decide), gI_sI_at]
        · rw [up_ne _ _ _ c3]
          by_cases c2 : i = 2
          · subst c2; rw [up_same, s8 _ 2 (by decide), h2, gI_sI_ne (by decide), gI_sI_ne (by decide), gI_sI_ne (by decide), gI_sI_ne (by decide), gI_sI_at]
          · rw [up_ne _ _ _ c2]
            by_cases c0 : i = 0
            · subst c0; rfl
            · rw [s8 _ i c0, s8 _ i c0, h2, gI_sI_ne (by omega), gI_sI_ne (by omega), gI_sI_ne (by omega), gI_sI_ne (by omega), gI_sI_ne (by omega)]
theorem C_rent {row : Nat → Int32} {oc : Nat → Nat → Option (Nat × Nat × Bool × Nat)} {n : Nat} {C : Nat → Nat → Int32} {x1 x2 x3 : Int32} {σ : AH} (hV : AV row) (hW : AW row) (hB : BV row) (hE : EV row) (hI : RgI row σ) (hTE : TbE row σ) (hY : TbY σ n C) (hCV : CyV (nP row) (nE row) n C) (hR : RpC (nP row) n C oc) : ∃ τ, F_X11_rent x1 x2 x3 σ = some (rentV row oc x1 x2 x3, τ) ∧ RgI row τ ∧ Ch RGc RGf σ τ := by
  have no : ∀ v : Int32, v = -1 → ∃ τ, some ((-1 : Int32), σ) = some (v, τ) ∧ RgI row τ ∧ Ch RGc RGf σ τ := fun v hv => ⟨_, by rw [hv], hI, Ch.rf _⟩
  have b30 := hB.p.2.1
  have hn : n ≤ 7830 := hY.2.1.2.2.2
  have lwm : ∀ {a b : AH}, Ch LWc LWf a b → Ch RGc RGf a b := fun h => h.mono (by simp [LWc, RGc, RFc]) (by simp [LWf, RGf, RFf])
  unfold F_X11_rent rentV
  simp only [F_isPlotC hB hI.1, F_isWeekC, bd_b (α := Int32)]
  by_cases c1 : ltB (nP row) x1 = true
  · rw [if_pos c1, if_pos c1]
    by_cases c2 : rgB 0 259 x2 = true
    · rw [if_pos c2, if_pos c2]
      by_cases c3 : rgB 0 259 x3 = true
      · rw [if_pos c3, if_pos c3]
        obtain ⟨e1, b1⟩ := ltB_n c1 (by omega)
        obtain ⟨e2, b2'⟩ := rg0_n (b := 259) c2 (by decide)
        obtain ⟨e3, b3⟩ := rg0_n (b := 259) c3 (by decide)
        have hk : (0 : Int32) ≤ x3 := by rw [e3]; exact nI_le (a := 0) (by omega) (by omega)
        obtain ⟨p, hp⟩ : ∃ p, p = cl x1 := ⟨_, rfl⟩
        obtain ⟨w, hw⟩ : ∃ w, w = cl x2 := ⟨_, rfl⟩
        rw [← hp] at e1 b1 ⊢
        rw [← hw] at e2 b2' ⊢
        rw [e1, e2]
        have KE_ := (F_knowing hV hk hI.2.1 hI.1).2.1
        obtain ⟨a, τ, t1, t2, t3, t4, t5, t6, t7, t8, t9⟩ := F_runFor (k := x3) (l := 0) hV hW hB hk (by omega) hI.1 hI.2.1 hI.2.2.1 hI.2.2.2.1 hI.2.2.2.2
        have t1' : F_X11_runFor x3 (0 : Int32) σ = some (a, τ) := t1
        have ma : a ∈ runIds := by unfold runIds; rcases t2 with h | h <;> simp [h]
        have R1 : RgI row τ := ⟨t4, t5, t6, t7, t8⟩
        rw [t1', bd_some, if_pos ma, F_isDoneD hB KE_ t3 b1, bd_some]
        cases hd : (decide (knD row x3 0 p ≠ -1) && !decide (nI w < knD row x3 0 p)) with
        | false =>
          have ho : hoB row x3 p w = false := by
            unfold hoB; rw [← Bool.and_assoc, hd]; rfl
          rw [if_pos (show b2 false = 0 from rfl), ho, if_neg (by decide)]
          exact ⟨τ, rfl, R1, t9⟩
        | true =>
          have nk : knD row x3 0 p ≠ -1 := of_decide_eq_true (Bool.and_eq_true_iff.mp hd).1
          obtain ⟨τ1, u1, u2, u3⟩ := F_endOf hV hW hB KE_ t3 b1 t4 t5
          rw [if_neg (show ¬ b2 true = 0 by decide), u1, bd_some]
          have R2 : RgI row τ1 := R1.lw u3 u2
          have cA : Ch RGc RGf σ τ1 := t9.trans (lwm u3)
          have ho : hoB row x3 p w = decide (nI w < ceW row x3 p) := by
            unfold hoB; rw [← Bool.and_assoc, hd, Bool.true_and, decide_eq_decide.mpr (end_same hV hW (show w < 260 by omega) nk)]
            by_cases z : ceW row x3 p ≤ nI w
            · rw [decide_eq_true z, decide_eq_false (Int32.not_lt.mpr z)]; rfl
            · rw [decide_eq_false z, decide_eq_true (Int32.not_le.mp z)]; rfl
          rw [ho]
          by_cases z : nI w < ceW row x3 p
          · rw [if_pos z, if_pos (decide_eq_true z)]
            have TY1 : TbY τ1 n C := TbG.ch hY cA (by simp [RGc, RFc]) (by simp [RGf, RFf])
            have TE1 : TbE row τ1 := hTE.ch cA (by simp [RGc, RFc]) (by simp [RGf, RFf])
            rw [F_livedStay TY1, bd_some]
            obtain ⟨τ2, s1, s2, s3⟩ := F_settled (k := x3) (w := nI w) hV hW u2
            have R3 : RgI row τ2 := R2.lw s3 s2.1
            have rm : F_X8_at 9 (nI p) (2 : Int32) τ2 = some (nI (pR row p), τ2) := by
              have := at_pl (j := 2) R3.1 b1 (by decide)
              rw [show pl row p 2 = nI (pR row p) from (hB.p.2.2 p b1).2.2.1.1.1] at this; exact this
            obtain ⟨τ3, v1, v2, v3⟩ := F_ask (r := nI (pR row p)) (w := nI w) (σ := τ2)
            rw [s1, bv_some, rm, bd_some, v1, bv_some]
            have cB : Ch RGc RGf σ τ3 := (cA.trans (lwm s3)).trans (lwm (v3.mono (by simp [LWc]) (by simp)))
            have D3 : RdS row x3 (nI w) τ3 := s2.ch v3 (by simp) (by simp)
            have R4 : RgI row τ3 := R3.lw (v3.mono (by simp [LWc]) (by simp)) D3.1
            have fin : ∀ τ4 : AH, ∀ st : Nat → Int32, Ch [32] [] τ3 τ4 → (∀ i, i < 8 → st8 (gI τ4 32) i = st i) → ∃ τ, F_X11_rent_126 τ4 = some (rnV (fd row x3 (nI w) st 5 0 0 0).2.2, τ) ∧ RgI row τ ∧ Ch RGc RGf σ τ := fun τ4 st ch4 st4 => by
              unfold F_X11_rent_126
              have D4 : RdS row x3 (nI w) τ4 := D3.ch ch4 (by simp) (by simp)
              obtain ⟨τ5, w1, w2⟩ := F_total (h := 58) (st := gI τ4 32) (k := x3) (w := nI w) hV (by decide) D4.1.1 D4.2 D4.1.2.2 rfl
              have w1' : F_X3_total (58 : Int32) τ4 = some (tot row x3 (nI w) (gI τ4 32) 58 384, τ5) := w1
              have ch5 : Ch LWc LWf τ3 τ5 := (ch4.mono (by simp [LWc]) (by simp)).trans (w2.mono (by simp [LWc]) (by simp))
              rw [w1', bd_some, tot_fd hV (QR_rent hV hW) (by decide), fd_congr st4]
              exact ⟨τ5, rfl, R4.lw ch5 (D4.ch w2 (by simp) (by simp)).1, cB.trans (lwm ch5)⟩
            rcases lsY_oc hR b1 (show w < 260 by omega) with ⟨z1, z2⟩ | ⟨s, y1, y2, y3, y4⟩
            · have le : liE (oc p w) = none := by
                unfold liE
                cases o : oc p w with
                | none => rfl
                | some a => dsimp only; rw [z2 a o, if_neg (by decide)]
              rw [z1, show oI none = -1 from rfl, if_pos rfl, le]
              exact fin τ3 _ (Ch.rf _) v2
            · obtain ⟨v0', v1', _, _⟩ := hCV s y1
              have le : liE (oc p w) = some (cl (C s 1)) := by
                unfold liE
                rw [y3]
                show (if decide (C s 3 ≤ nI w) = true then some (cl (C s 1)) else none) = _
                rw [if_pos (decide_eq_true y4)]
              have TY3 : TbY τ3 n C := TbG.ch hY cB (by simp [RGc, RFc]) (by simp [RGf, RFf])
              have TE3 : TbE row τ3 := hTE.ch cB (by simp [RGc, RFc]) (by simp [RGf, RFf])
              have a1 : F_X8_at 17 (nI s) (1 : Int32) τ3 = some (nI (cl (C s 1)), τ3) := by rw [← v1'.1]; exact F_atG (c := 1) TY3 y1 (by decide) (by decide)
              obtain ⟨τ4, x1', x2', x3'⟩ := F_askOf (v := 0) v1'.2 TE3
              rw [y2, show oI (some s) = nI s from rfl, if_neg (nI_neg1 (by omega)), a1, bd_some, x1', bv_some, le]
              refine fin τ4 _ x3' (fun i hi => ?_)
              rw [x2' i]
              unfold stKr
              dsimp only
              have b := v2 i hi
              by_cases c5 : i = 5
              · subst c5
                rw [up_same, up_ne _ _ _ (by decide), up_ne _ _ _ (by decide), up_ne _ _ _ (by decide), up_ne _ _ _ (by decide)]; rfl
              · rw [up_ne _ _ _ c5]
                by_cases c6 : i = 6
                · subst c6; rw [up_same, up_same]
                · rw [up_ne _ _ _ c6, up_ne _ _ _ c6]
                  by_cases c4 : i = 4
                  · subst c4; rw [up_same, up_same]
                  · rw [up_ne _ _ _ c4, up_ne _ _ _ c4]
                    by_cases c3' : i = 3
                    · subst c3'; rw [up_same, up_same]
                    · rw [up_ne _ _ _ c3', up_ne _ _ _ c3']
                      by_cases c2' : i = 2
                      · subst c2'; rw [up_same, up_same]
                      · rw [up_ne _ _ _ c2', up_ne _ _ _ c2']; exact b
          · rw [if_neg z, if_neg (show ¬ decide (nI w < ceW row x3 p) = true by rw [decide_eq_true_iff]; exact z)]
            exact ⟨τ1, rfl, R2, cA⟩
      · rw [if_neg c3, if_neg c3]; exact no _ rfl
    · rw [if_neg c2, if_neg c2]; exact no _ rfl
  · rw [if_neg c1, if_neg c1]; exact no _ rfl
end
