section
/-! offer of the class -/
theorem Ow.ch {O : Nat → Nat} {σ τ : AH} {cs : List Nat} {fs : List (Nat × Nat)} (h : Ow O σ) (c : Ch cs fs σ τ) : Ow O τ := by
  unfold Ow at h ⊢
  rw [c.2.1, c.2.2.2.1]; exact h
def OKc : List Nat := SKc ++ [115, 116, 117]
theorem C_offer {row : Nat → Int32} {oc : Nat → Nat → Option (Nat × Nat × Bool × Nat)} {W no mv n : Nat} {C : Nat → Nat → Int32} {f : Nat → Int32} {O : Nat → Nat} {x1 : Int32} {σ : AH} (hA : AV row) (hW : AW row) (hB : BV row) (hE : EV row) (hI : RgI row σ) (hTE : TbE row σ) (hJ : JcI row σ) (hS : SkI row oc W n C σ) (hCE : CyE n C) (hO : Ow O σ) (h12 : gI σ 1 12 = nI no) (hno : no ≤ 100) (h13 : gI σ 1 13 = nI mv) (hf : FmF row x1 f) :
    ∃ s τ n' C' b0, F_X11_offer x1 σ = some (offerV row oc W no f x1, τ) ∧ SkI row (offerO row oc f (offerV row oc W no f x1) x1) (offerW W (offerV row oc W no f x1) x1) n' C' τ ∧ CyE n' C' ∧ gI τ 1 12 = nI (offerN no (offerV row oc W no f x1)) ∧ gI τ 1 13 = nI (offerM mv (offerV row oc W no f x1)) ∧ gI τ 0 10 = ftV (offerV row oc W no f x1) ∧ RgI row s ∧ JcI row s ∧ Ch OKc SKf σ s ∧ gR s 17 2 = some b0 ∧ ChX 17 [b0, 121, 122, 123] [(17, 3), (1, 12), (1, 13), (1, 15), (0, 10)] s τ := by
  obtain ⟨hY, hV, hR, hF, h15, hW0⟩ := id hS
  have b30 := hB.p.2.1
  have n60 := hE.n.2
  have hn : n ≤ 7830 := hY.2.1.2.2.2
  have hx := hO.1
  obtain ⟨b0, hb0, _⟩ := hO.2.1 17 (by simp [tbs])
  have hb0' := hO.b17 hb0
  have gRs : ∀ s, Ch OKc SKf σ s → gR s 17 2 = some b0 := fun s c => by rw [c.2.2.2.1]; exact hb0
  have cell1 : ∀ s, Ch OKc SKf σ s → gI s 1 = gI σ 1 := fun s c => c.rI (by simp [OKc, SKc, RGc, RFc]) (by simp [SKf, RGf, RFf])
  have bad : ∀ (v : Int32), ¬ 0 ≤ v → offerV row oc W no f x1 = v →
      ∃ s τ n' C' b0, (bd (F_X11_answer v σ) fun v25 σ21 => some (v25, σ21)) = some (offerV row oc W no f x1, τ) ∧ SkI row (offerO row oc f (offerV row oc W no f x1) x1) (offerW W (offerV row oc W no f x1) x1) n' C' τ ∧ CyE n' C' ∧ gI τ 1 12 = nI (offerN no (offerV row oc W no f x1)) ∧ gI τ 1 13 = nI (offerM mv (offerV row oc W no f x1)) ∧ gI τ 0 10 = ftV (offerV row oc W no f x1) ∧ RgI row s ∧ JcI row s ∧ Ch OKc SKf σ s ∧ gR s 17 2 = some b0 ∧ ChX 17 [b0, 121, 122, 123] [(17, 3), (1, 12), (1, 13), (1, 15), (0, 10)] s τ := fun v hv e => by
    rw [answer_e, bd_some, e]
    unfold offerO offerW offerN offerM
    rw [if_neg hv, if_neg hv, if_neg hv, if_neg hv]
    have k : Ch [] [(0, 10)] σ (sI σ 0 10 (ftV v)) := Ch.sI1 (Or.inl (by simp))
    exact ⟨σ, _, n, C, b0, rfl, ⟨TbG.ch hY k (by simp) (by simp), hV, hR, hF, by rw [gI_sI_row (by decide)]; exact h15, hW0⟩, hCE, by rw [gI_sI_row (by decide)]; exact h12, by rw [gI_sI_row (by decide)]; exact h13, gI_sI_at, hI, hJ, Ch.rf _, hb0, Ch.x (k.mono (by simp) (by simp))⟩
  have n1 : ¬ (0 : Int32) ≤ -1 := by decide
  have n5 : ¬ (0 : Int32) ≤ -5 := by decide
  unfold F_X11_offer
  rw [F_isMoveWeek h15, bd_some, h12]
  by_cases c1 : rgB 0 259 x1 = true
  · rw [c1, Bool.true_and]
    by_cases c2 : nI W ≤ x1
    · rw [decide_eq_true c2, if_neg (show ¬ b2 true = 0 by decide)]
      by_cases c3 : no = 100
      · rw [if_neg (show ¬ nI no < (100 : Int32) by rw [c3]; decide)]
        exact bad (-5) n5 (by unfold offerV; rw [if_pos c1, if_pos c2, if_pos c3])
      · rw [if_pos (show nI no < (100 : Int32) from nI_lt (b := 100) (by omega) (by decide))]
        obtain ⟨e1, b1⟩ := rg0_n (b := 259) c1 (by decide)
        have lw : W ≤ cl x1 := by
          rw [e1, Int32.le_iff_toInt_le, nI_toInt (by omega), nI_toInt (by omega)] at c2; omega
        have hw : cl x1 < 260 := by omega
        have hk : (0 : Int32) ≤ x1 := by rw [e1]; exact nI_le (a := 0) (by omega) (by omega)
        have KE_ := (F_knowing hA hk hI.2.1 hI.1).2.1
        obtain ⟨a, τ1, t1, t2, t3, t4, t5, t6, t7, t8, t9⟩ := F_runFor (k := x1) (l := 0) hA hW hB hk (by omega) hI.1 hI.2.1 hI.2.2.1 hI.2.2.2.1 hI.2.2.2.2
        have t1' : F_X11_runFor x1 (0 : Int32) σ = some (a, τ1) := t1
        have ma : a ∈ runIds := by unfold runIds; rcases t2 with h | h <;> simp [h]
        have R1 : RgI row τ1 := ⟨t4, t5, t6, t7, t8⟩
        have k1 : Ch OKc SKf σ τ1 := t9.mono (fun i hi => List.mem_append_left _ (List.mem_append_left _ hi)) (fun q hq => Or.inl (List.mem_append_left _ hq))
        have J1 : JcI row τ1 := hJ.keep t9 (by simp [RGc, RFc]) (by simp [RGf, RFf])
        have TE1 : TbE row τ1 := hTE.ch t9 (by simp [RGc, RFc]) (by simp [RGf, RFf])
        obtain ⟨τ2, u1, u2, u3, u4⟩ := F_join (k := x1) hE TE1 J1
        have R2 : RgI row τ2 := R1.keep u4 (R1.2.1.ch u4 (by simp) (by simp)) (by simp) (by simp)
        have k2 : Ch OKc SKf σ τ2 := k1.trans (u4.mono (by simp [OKc, SKc]) (by simp [SKf]))
        have TE2 : TbE row τ2 := TE1.ch u4 (by simp) (by simp)
        have Rn2 := t3.keep u4 (by rcases t2 with h | h <;> simp [h]) (by rcases t2 with h | h <;> simp [h])
        have fe : ∀ e, e < nE row → gI τ2 114 e = f e := fun e he => fam_unique hE u2 hf he
        obtain ⟨τ3, w1, w2, w3, w4⟩ := F_sortAll (w := cl x1) hA hW hE hw TE2 R2.2.1
        rw [← e1] at w1 w3
        have R3 : RgI row τ3 := R2.keep w4 w2 (by simp) (by simp)
        have J3 : JcI row τ3 := u3.keep w4 (by simp) (by simp)
        have k3 : Ch OKc SKf σ τ3 := k2.trans (w4.mono (by simp [OKc, SKc, RGc, RFc]) (by simp [SKf, RGf, RFf]))
        have TE3 : TbE row τ3 := TE2.ch w4 (by simp) (by simp)
        have Y3 : TbY τ3 n C := TbG.ch hY k3 (by simp [OKc, SKc, RGc, RFc]) (by simp [SKf, RGf, RFf])
        have Rn3 := Rn2.keep w4 (by rcases t2 with h | h <;> simp [h]) (by rcases t2 with h | h <;> simp [h])
        rw [t1', bd_some, if_pos ma, u1, bv_some, w1, bv_some]
        have K3 : KE row (nI (cl x1)) (ltK row (nI (cl x1))) := by rw [← e1]; exact KE_
        have Rn3' : RnI row (ltK row (nI (cl x1))) 0 (sw row (ltK row (nI (cl x1)))) a 260 τ3 := by rw [← e1]; exact Rn3
        have fe3 : ∀ e, e < nE row → gI τ3 114 e = f e := fun e he => by rw [w4.rI (by simp) (by simp)]; exact fe e he
        obtain ⟨τ4, v1, v2, v3, v4, v5⟩ := F_lookRound (w := cl x1) (oc := oc) (f := f) hA hW hB hE K3 t2 Rn3' R3.1 R3.2.1 Y3 hV hR hw fe3 (fun e he => fam_val hE hf he)
        rw [← e1] at v1 v3
        have R4 : RgI row τ4 := R3.keep v5 v2 (by simp [LKc]) (by simp [LWf])
        have J4 : JcI row τ4 := J3.keep v5 (by simp [LKc]) (by simp [LWf])
        have k4 : Ch OKc SKf σ τ4 := k3.trans (v5.mono (by simp [LKc, OKc, SKc, RGc, RFc]) (by simp [LWf, SKf, RGf, RFf]))
        rw [v1, bv_some]
        have Y4 : OcY row x1 (cl x1) oc n C τ4 := ⟨TbG.ch Y3 v5 (by simp [LKc]) (by simp [LWf]), hV, hR, fun s hs => hF.le lw hw hs, hCE, v3⟩
        have B4 : OcB row x1 (cl x1) f O τ4 := ⟨fun d hd => by rw [v5.rI (by simp [LKc]) (by simp [LWf]), v5.rI (by simp [LKc]) (by simp [LWf])]; exact w3 d hd, fun e he => by rw [v5.rI (by simp [LKc]) (by simp [LWf])]; exact fe3 e he, R4.1, TE3.ch v5 (by simp [LKc]) (by simp [LWf]), hO.ch k4⟩
        obtain ⟨g, hg⟩ := BIGe (nP row) (by omega)
        obtain ⟨τ5, n5', C5, O5, y1, y2, y3, y4⟩ := give_loop (G := g) (oc := oc) hA hW hB hE hw hf (gRs τ4 k4) (nP row) 0 n b0 C O τ4 (by omega) Y4 B4 v4 (gRs τ4 k4) (Ch.x (Ch.rf _))
        have y1' : F_X2_giveAll x1 τ4 = some (nI (offS row f x1 (cl x1) oc (nP row)).1, τ5) := by
          unfold F_X2_giveAll
          rw [hg]
          rw [← e1] at y1
          exact y1
        have x4 : 166 ≤ nx τ4 := by rw [k4.2.1]; exact hx
        have g12 : gI τ5 1 12 = nI no := by
          rw [y4.pt x4 (by decide) (by simp; omega) (by simp), cell1 τ4 k4]; exact h12
        have g13 : gI τ5 1 13 = nI mv := by
          rw [y4.pt x4 (by decide) (by simp; omega) (by simp), cell1 τ4 k4]; exact h13
        have g13' : gI (sI τ5 1 12 (nI (no + 1))) 1 13 = nI mv := by rw [gI_sI_ne (by decide)]; exact g13
        rw [y1', bd_some, g12, nI_1, g13', nI_add, answer_e, bd_some]
        have vv : offerV row oc W no f x1 = nI (offS row f x1 (cl x1) oc (nP row)).1 := by unfold offerV; rw [if_pos c1, if_pos c2, if_neg c3]
        have le := offS_le (row := row) (f := f) (k := x1) (w := cl x1) (oc := oc) (nP row)
        have pos : (0 : Int32) ≤ nI (offS row f x1 (cl x1) oc (nP row)).1 := nI_le (a := 0) (by omega) (by omega)
        have k8 : Ch [] [(1, 12), (1, 13), (1, 15), (0, 10)] τ5 (sI (sI (sI (sI τ5 1 12 (nI (no + 1))) 1 13 (nI (mv + (offS row f x1 (cl x1) oc (nP row)).1))) 1 15 x1) 0 10 (ftV (nI (offS row f x1 (cl x1) oc (nP row)).1))) := (((Ch.sI1 (Or.inl (by simp))).trans (Ch.sI1 (Or.inl (by simp)))).trans (Ch.sI1 (Or.inl (by simp)))).trans (Ch.sI1 (Or.inl (by simp)))
        unfold offerO offerW offerN offerM
        rw [vv, if_pos pos, if_pos pos, if_pos pos, if_pos pos]
        refine ⟨τ4, _, n5', C5, b0, rfl, ⟨TbG.ch y2.1 k8 (by simp) (by simp), y2.2.1, y2.2.2.1, y2.2.2.2.1, ?_, hw⟩, y2.2.2.2.2.1, ?_, ?_, gI_sI_at, R4, J4, k4, gRs τ4 k4, (y4.mono (by simp) (by simp)).trans (Ch.x (k8.mono (by simp) (by simp)))⟩
        · rw [gI_sI_row (by decide), gI_sI_at]; exact e1
        · rw [gI_sI_row (by decide), gI_sI_ne (by decide), gI_sI_ne (by decide), gI_sI_at]
        · rw [gI_sI_row (by decide), gI_sI_ne (by decide), gI_sI_at, show cl (nI (offS row f x1 (cl x1) oc (nP row)).1) = (offS row f x1 (cl x1) oc (nP row)).1 from nI_clamp (by omega)]
    · rw [decide_eq_false c2, if_pos (show b2 false = 0 from rfl)]
      exact bad (-1) n1 (by unfold offerV; rw [if_pos c1, if_neg c2])
  · have c1' : rgB 0 259 x1 = false := by simpa using c1
    rw [c1', Bool.false_and, if_pos (show b2 false = 0 from rfl)]
    exact bad (-1) n1 (by unfold offerV; rw [if_neg c1])
end
