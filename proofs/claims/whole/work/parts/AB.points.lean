section
/-! POINTS -/
def wtE (row : Nat → Int32) (e w : Nat) : Int32 := nI (w - cl (en row e 1))
def stE (row : Nat → Int32) (e w : Nat) : Nat → Int32 := va_up (va_up (va_up (va_up (va_up (stO 0 (nI w)) 2 (en row e 2)) 3 (en row e 3)) 4 (en row e 5)) 6 (en row e 4)) 5 (wtE row e w)
def ptV (row : Nat → Int32) (k : Int32) (w e : Nat) : Int64 := (fd row k (nI w) (stE row e w) 3 0 0 0).2.2
theorem F_setEntry {row : Nat → Int32} {e w : Nat} {σ : AH} (hE : EV row) (he : e < nE row) (hr : gI σ 125 = row) : ∃ τ, F_X12_setEntry (nI e) (nI w) σ = some τ ∧ (∀ i, i < 8 → gI τ 136 i = va_up (va_up (va_up (va_up (stO 0 (nI w)) 2 (en row e 2)) 3 (en row e 3)) 4 (en row e 5)) 6 (en row e 4) i) ∧ Ch [136] [] σ τ := by
  unfold F_X12_setEntry
  obtain ⟨τ, t1, t2, t3⟩ := F_setOnly' (r := 0) (w := nI w) (σ := σ)
  have r0 : gI τ 125 = row := by rw [t3.rI (by simp) (by simp)]; exact hr
  have a2 : F_X12_entryAt (nI e) (2 : Int32) τ = some (en row e 2, τ) := F_entryAt (j := 2) hE he (by decide) r0
  rw [t1, bv_some, a2, bd_some]
  have a3 : F_X12_entryAt (nI e) (3 : Int32) (sI τ 136 2 (en row e 2)) = some (en row e 3, sI τ 136 2 (en row e 2)) := F_entryAt (j := 3) hE he (by decide) (by rw [gI_sI_row (by decide)]; exact r0)
  rw [a3, bd_some]
  have a5 : F_X12_entryAt (nI e) (5 : Int32) (sI (sI τ 136 2 (en row e 2)) 136 3 (en row e 3)) = some (en row e 5, sI (sI τ 136 2 (en row e 2)) 136 3 (en row e 3)) := F_entryAt (j := 5) hE he (by decide) (by rw [gI_sI_row (by decide), gI_sI_row (by decide)]; exact r0)
  rw [a5, bd_some]
  have a4 : F_X12_entryAt (nI e) (4 : Int32) (sI (sI (sI τ 136 2 (en row e 2)) 136 3 (en row e 3)) 136 4 (en row e 5)) = some (en row e 4, sI (sI (sI τ 136 2 (en row e 2)) 136 3 (en row e 3)) 136 4 (en row e 5)) := F_entryAt (j := 4) hE he (by decide) (by rw [gI_sI_row (by decide), gI_sI_row (by decide), gI_sI_row (by decide)]; exact r0)
  rw [a4, bd_some]
  refine ⟨_, rfl, fun i hi => ?_, (((t3.trans (Ch.sI1 (Or.inr (by simp)))).trans (Ch.sI1 (Or.inr (by simp)))).trans (Ch.sI1 (Or.inr (by simp)))).trans (Ch.sI1 (Or.inr (by simp)))⟩
  rw [gI_sI_own, gI_sI_own, gI_sI_own, gI_sI_own]
  by_cases c6 : i = 6
  · subst c6; rw [up_same, up_same]
  · rw [up_ne _ _ _ c6, up_ne _ _ _ c6]
    by_cases c4 : i = 4
    · subst c4; rw [up_same, up_same]
    · rw [up_ne _ _ _ c4, up_ne _ _ _ c4]
      by_cases c3 : i = 3
      · subst c3; rw [up_same, up_same]
      · rw [up_ne _ _ _ c3, up_ne _ _ _ c3]
        by_cases c2 : i = 2
        · subst c2; rw [up_same, up_same]
        · rw [up_ne _ _ _ c2, up_ne _ _ _ c2]; exact t2 i hi
def PTc : List Nat := [134, 135, 136, 137]
theorem F_reckonPoints {row : Nat → Int32} {k : Int32} {e w : Nat} {σ : AH} (hV : AV row) (hE : EV row) (he : e < nE row) (hw : w < 260) (hK : KI row k σ) : ∃ τ, F_X12_reckonPoints (nI e) (nI w) σ = some (ptV row k w e, τ) ∧ KI row k τ ∧ Ch PTc FDf σ τ := by
  unfold F_X12_reckonPoints
  obtain ⟨τ, t1, t2, t3⟩ := F_setEntry (w := w) hE he hK.1
  have K1 : KI row k τ := hK.ch t3 (hK.2.2.1.ch t3 (by simp) (by simp) (by simp) (by simp)) (by simp) (by simp) (by simp) (by simp) (by simp)
  have a1 : F_X12_entryAt (nI e) (1 : Int32) τ = some (en row e 1, τ) := F_entryAt (j := 1) hE he (by decide) K1.1
  have v1 := (hE.2 e he).2.1
  have l1 := v1.2
  have fin : F_X12_reckonPoints_33 (nI w) (wtE row e w) (5 : Int32) τ = (bd (F_X12_find (3 : Int32) (0 : Int32) (0 : Int32) (0 : Int32) (nI w) (sI τ 136 5 (wtE row e w))) fun v24 σ20 => some (gL σ20 124 32, σ20)) := by
    unfold F_X12_reckonPoints_33
    rw [if_pos (by decide)]; rfl
  have e33 : (if en row e 1 ≤ nI w then F_X12_reckonPoints_33 (nI w) (nI w - en row e 1) (5 : Int32) τ else F_X12_reckonPoints_33 (nI w) (0 : Int32) (5 : Int32) τ) = F_X12_reckonPoints_33 (nI w) (wtE row e w) (5 : Int32) τ := by
    unfold wtE
    by_cases c : cl (en row e 1) ≤ w
    · rw [if_pos (by rw [v1.1]; exact nI_le c (by omega))]
      have : nI w - en row e 1 = nI (w - cl (en row e 1)) := by
        have := pk_sub (a := w) (b := cl (en row e 1)) c
        rw [← v1.1] at this; exact this
      rw [this]
    · rw [if_neg (by rw [v1.1]; exact nI_ge (by omega) (by omega)), show w - cl (en row e 1) = 0 by omega]; rfl
  rw [t1, bv_some, a1, bd_some, a1, bd_some, e33, fin]
  have c5 : Ch [136] [] τ (sI τ 136 5 (wtE row e w)) := Ch.sI1 (Or.inr (by simp))
  have K2 : KI row k (sI τ 136 5 (wtE row e w)) := K1.ch c5 (K1.2.2.1.ch c5 (by simp) (by simp) (by simp) (by simp)) (by simp) (by simp) (by simp) (by simp) (by simp)
  obtain ⟨τ2, u1, u2, u3, u4, u5⟩ := F_find8 (h := 3) (kd_ := 0) (sg := 0) (mt := 0) (w := nI w) (st := stE row e w) hV (nI_neg1 (by omega)) K2.1 (fun i hi => by
    rw [gI_sI_own]
    unfold stE
    by_cases c : i = 5
    · subst c; rw [up_same, up_same]
    · rw [up_ne _ _ _ c, up_ne _ _ _ c]; exact t2 i hi) K2.2.1 K2.2.2.1
  rw [u1, bd_some, u3]
  refine ⟨τ2, rfl, ?_, ((t3.trans c5).mono (by simp [PTc]) (by simp)).trans (u5.mono (by simp [FDc, PTc]) (fun q hq => Or.inl hq))⟩
  exact K2.ch u5 u4 (by simp [FDc]) (by simp [FDc]) (by simp [FDc]) (by simp [FDc]) (by simp [FDf])
/-! points: the class -/
/-- settled: the laws stand for WEEK w, as known in k -/
def RdS (row : Nat → Int32) (k w : Int32) (σ : AH) : Prop := LwI row σ ∧ FdOK row k w (gI σ 31)
theorem F_settled {row : Nat → Int32} {k w : Int32} {σ : AH} (hV : AV row) (hW : AW row) (hL : LwI row σ) : ∃ τ, F_X3_settle w k σ = some τ ∧ RdS row k w τ ∧ Ch LWc LWf σ τ := by
  obtain ⟨τ1, t1, t2, t3, t4⟩ := F_settle (k := k) (w := w) hV hW hL.1 hL.2.1
  exact ⟨τ1, t1, ⟨⟨hL.1.ch t4 (by simp) (by simp), t3, hL.2.2.ch t4 (by simp) (by simp) (by simp)⟩, t2⟩, t4.mono (by simp [LWc]) (by simp [LWf])⟩
theorem RdS.ch {row : Nat → Int32} {k w : Int32} {σ τ : AH} {cs : List Nat} {fs : List (Nat × Nat)} (h : RdS row k w σ) (c : Ch cs fs σ τ) (h1 : ∀ i ∈ cs, 32 ≤ i ∧ i < 166) (h2 : ∀ q ∈ fs, 32 ≤ q.1 ∧ q.1 < 166) : RdS row k w τ := by
  obtain ⟨⟨a1, a2, a3⟩, a4⟩ := h
  refine ⟨⟨a1.ch c (fun i hi => by have := h1 i hi; omega) (fun q hq => ⟨by have := h2 q hq; omega, fun e => by have := h2 q hq; rw [e] at this; simp at this⟩), a2.ch c (fun z => by have := h1 _ z; omega) (fun z => by have := h1 _ z; omega) (fun q hq => ⟨fun e => by have := h2 q hq; omega, fun e => by have := h2 q hq; rw [e] at this; simp at this⟩), a3.ch c (fun z => by have := h1 _ z; omega) (fun z => by have := h1 _ z; omega) (fun q hq => by have := h2 q hq; omega)⟩, ?_⟩
  rw [c.rI (fun z => by have := h1 _ z; omega) (fun q hq e => by have := h2 q hq; omega)]; exact a4
theorem imax_n {u v : Nat} (h : u < 2 ^ 31) (hv : v < 2 ^ 31) : imax (0 : Int32) (nI u - nI v) = nI (u - v) := by
  rw [imax_i]
  by_cases c : v ≤ u
  · rw [pk_sub c]
    by_cases z : u - v = 0
    · rw [z, if_pos (by decide)]; rfl
    · rw [if_neg (show ¬ nI (u - v) ≤ 0 from nI_ge (a := 0) (by omega) (by omega))]
  · have : nI u - nI v ≤ 0 := by
      rw [Int32.le_iff_toInt_le, Int32.toInt_sub, nI_toInt h, nI_toInt hv]
      have e0 : (0 : Int32).toInt = 0 := by decide
      rw [e0, Int.bmod_eq_of_le (by omega) (by omega)]; omega
    rw [if_pos this, show u - v = 0 by omega]; rfl
theorem F_weightOf {row : Nat → Int32} {k : Int32} {e w : Nat} {σ : AH} (hV : AV row) (hW : AW row) (hE : EV row) (he : e < nE row) (hw : w < 260) (hT : TbE row σ) (hR : RdS row k (nI w) σ) : ∃ τ, F_X4_weightOf (nI e) (nI w) σ = some (ptV row k w e, τ) ∧ RdS row k (nI w) τ ∧ TbE row τ ∧ Ch [32, 33] [] σ τ := by
  unfold F_X4_weightOf
  obtain ⟨τ, t1, t2, t3⟩ := F_ask (r := 0) (w := nI w) (σ := σ)
  have T1 := hT.ch t3 (by simp) (by simp)
  have v1 := (hE.2 e he).2.1
  have l1 := v1.2
  have a1 : F_X8_at 13 (nI e) (1 : Int32) τ = some (nI (cl (en row e 1)), τ) := by
    have := at_en (j := 1) T1 he (by decide)
    rw [v1.1] at this; exact this
  rw [t1, bv_some, a1, bd_some, imax_n (by omega) (by omega)]
  unfold F_X3_askOf
  have a2 : F_X8_at 13 (nI e) (2 : Int32) τ = some (en row e 2, τ) := at_en (j := 2) T1 he (by decide)
  rw [a2, bd_some]
  have k1 : Ch [32] [] τ (sI τ 32 1 (en row e 2)) := Ch.sI1 (Or.inr (by simp))
  have T2 := T1.ch k1 (by simp) (by simp)
  have a3 : F_X8_at 13 (nI e) (3 : Int32) (sI τ 32 1 (en row e 2)) = some (en row e 3, sI τ 32 1 (en row e 2)) := at_en (j := 3) T2 he (by decide)
  rw [a3, bd_some]
  have k2 : Ch [32] [] (sI τ 32 1 (en row e 2)) (sI (sI τ 32 1 (en row e 2)) 32 2 (en row e 3)) := Ch.sI1 (Or.inr (by simp))
  have T3 := T2.ch k2 (by simp) (by simp)
  have a5 : F_X8_at 13 (nI e) (5 : Int32) (sI (sI τ 32 1 (en row e 2)) 32 2 (en row e 3)) = some (en row e 5, sI (sI τ 32 1 (en row e 2)) 32 2 (en row e 3)) := at_en (j := 5) T3 he (by decide)
  rw [a5, bd_some]
  have k3 : Ch [32] [] (sI (sI τ 32 1 (en row e 2)) 32 2 (en row e 3)) (sI (sI (sI τ 32 1 (en row e 2)) 32 2 (en row e 3)) 32 3 (en row e 5)) := Ch.sI1 (Or.inr (by simp))
  have T4 := T3.ch k3 (by simp) (by simp)
  have a4 : F_X8_at 13 (nI e) (4 : Int32) (sI (sI (sI τ 32 1 (en row e 2)) 32 2 (en row e 3)) 32 3 (en row e 5)) = some (en row e 4, sI (sI (sI τ 32 1 (en row e 2)) 32 2 (en row e 3)) 32 3 (en row e 5)) := at_en (j := 4) T4 he (by decide)
  rw [a4, bd_some, bv_some]
  obtain ⟨τ2, h2⟩ : ∃ x, x = sI (sI (sI (sI (sI τ 32 1 (en row e 2)) 32 2 (en row e 3)) 32 3 (en row e 5)) 32 5 (en row e 4)) 32 4 (nI (w - cl (en row e 1))) := ⟨_, rfl⟩
  rw [← h2]
  have k6 : Ch [32] [] σ τ2 := by
    rw [h2]
    exact ((((t3.trans k1).trans k2).trans k3).trans (Ch.sI1 (Or.inr (by simp)))).trans (Ch.sI1 (Or.inr (by simp)))
  have R2 : RdS row k (nI w) τ2 := hR.ch k6 (by simp) (by simp)
  obtain ⟨τ3, u1, u2⟩ := F_total (h := 54) (st := gI τ2 32) (k := k) (w := nI w) hV (by decide) R2.1.1 R2.2 R2.1.2.2 rfl
  have u1' : F_X3_total (54 : Int32) τ2 = some (tot row k (nI w) (gI τ2 32) 54 384, τ3) := u1
  rw [u1', bd_some]
  have ev : tot row k (nI w) (gI τ2 32) 54 384 = ptV row k w e := by
    rw [tot_fd hV (QR_points hV hW) (by decide)]
    unfold ptV
    rw [fd_congr (st := st8 (gI τ2 32)) (st' := stE row e w) (fun i hi => ?_)]
    unfold stE
    have base := t2 i hi
    have s8 : ∀ (f : Nat → Int32) (j : Nat), j ≠ 0 → st8 f j = f (j - 1) := fun f j hj => by unfold st8; rw [if_neg hj]
    by_cases c5 : i = 5
    · subst c5; rw [up_same, s8 _ 5 (by decide), h2, gI_sI_at]; rfl
    · rw [up_ne _ _ _ c5]
      by_cases c6 : i = 6
      · subst c6; rw [up_same, s8 _ 6 (by decide), h2, gI_sI_ne (by decide), gI_sI_at]
      · rw [up_ne _ _ _ c6]
        by_cases c4 : i = 4
        · subst c4; rw [up_same, s8 _ 4 (by decide), h2, gI_sI_ne (by decide), gI_sI_ne (by decide), gI_sI_at]
        · rw [up_ne _ _ _ c4]
          by_cases c3 : i = 3
          · subst c3; rw [up_same, s8 _ 3 (by decide), h2, gI_sI_ne (by decide), gI_sI_ne (by decide), gI_sI_ne (by decide), gI_sI_at]
          · rw [up_ne _ _ _ c3]
            by_cases c2 : i = 2
            · subst c2; rw [up_same, s8 _ 2 (by decide), h2, gI_sI_ne (by decide), gI_sI_ne (by decide), gI_sI_ne (by decide), gI_sI_ne (by decide), gI_sI_at]
            · rw [up_ne _ _ _ c2, ← base]
              by_cases c0 : i = 0
              · subst c0; rfl
              · rw [s8 _ i c0, s8 _ i c0, h2, gI_sI_ne (by omega), gI_sI_ne (by omega), gI_sI_ne (by omega), gI_sI_ne (by omega), gI_sI_ne (by omega)]
  rw [ev]
  exact ⟨τ3, rfl, R2.ch u2 (by simp) (by simp), (hT.ch k6 (by simp) (by simp)).ch u2 (by simp) (by simp), (k6.mono (by simp) (by simp)).trans (u2.mono (by simp) (by simp))⟩
end
