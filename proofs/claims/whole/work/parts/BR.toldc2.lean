section
/-! more tellings of the class -/
theorem C_start {row : Nat → Int32} {x1 x2 x3 : Int32} {O : Nat → Nat} {b0 : Nat} {σ : AH} {n : Nat} {wi : Nat → Nat} (hB : BV row) (hTB : TbB row σ) (hW : WiV row n wi) (hw : CwI n wi σ) (hT : Tb row σ 11 5 23652 3 60) (hO : Ow O σ) (hb0 : gR σ 11 2 = some b0) : ∃ τ, F_X11_start x1 x2 x3 σ = some (tlV (stP row n wi x1 x2 x3) 60 (nS row) 1, τ) ∧ Tb (tlW (stP row n wi x1 x2 x3) 60 row 5 23652 3 (nS row) (gl [x1, x2, x3])) τ 11 5 23652 3 60 ∧ gI τ 0 10 = ftV (tlV (stP row n wi x1 x2 x3) 60 (nS row) 1) ∧ gI τ 0 12 = tlC (stP row n wi x1 x2 x3) 60 (nS row) (gI σ 0 12) ∧ ChX 11 [b0] [(11, 3), (0, 10), (0, 12)] σ τ := by
  have hx := hO.1
  have nm : nS row ≤ 60 := hT.n
  have hb := hO.bt (t := 11) (by simp [tbs]) hb0
  have G := G_of_Tb hT
  have fl : F_X8_isFull 11 σ = some (if nS row = 60 then 1 else 0, σ) := F_isFullG G (by decide)
  have bad : ∀ v : Int32, tlV (stP row n wi x1 x2 x3) 60 (nS row) 1 = v → ¬ ((stP row n wi x1 x2 x3) = 0 ∧ nS row ≠ 60) → ∃ τ, (bd (F_X11_answer v σ) fun a b => some (a, b)) = some (tlV (stP row n wi x1 x2 x3) 60 (nS row) 1, τ) ∧ Tb (tlW (stP row n wi x1 x2 x3) 60 row 5 23652 3 (nS row) (gl [x1, x2, x3])) τ 11 5 23652 3 60 ∧ gI τ 0 10 = ftV (tlV (stP row n wi x1 x2 x3) 60 (nS row) 1) ∧ gI τ 0 12 = tlC (stP row n wi x1 x2 x3) 60 (nS row) (gI σ 0 12) ∧ ChX 11 [b0] [(11, 3), (0, 10), (0, 12)] σ τ := fun v e n => by
    have k : Ch [] [(0, 10)] σ (sI σ 0 10 (ftV v)) := Ch.sI1 (Or.inl (by simp))
    rw [e, tlW_no n, tlC_no n, ansC]
    exact ⟨_, rfl, hT.ch k (by simp) (by simp), gI_sI_at, gI_sI_ne (by decide), Ch.x (k.mono (by simp) (by simp))⟩
  have bad1 : ∀ v : Int32, (stP row n wi x1 x2 x3) = v → v ≠ 0 → ∃ τ, (bd (F_X11_answer v σ) fun a b => some (a, b)) = some (tlV (stP row n wi x1 x2 x3) 60 (nS row) 1, τ) ∧ Tb (tlW (stP row n wi x1 x2 x3) 60 row 5 23652 3 (nS row) (gl [x1, x2, x3])) τ 11 5 23652 3 60 ∧ gI τ 0 10 = ftV (tlV (stP row n wi x1 x2 x3) 60 (nS row) 1) ∧ gI τ 0 12 = tlC (stP row n wi x1 x2 x3) 60 (nS row) (gI σ 0 12) ∧ ChX 11 [b0] [(11, 3), (0, 10), (0, 12)] σ τ := fun v e hv => bad v (tlV_bad e hv) (fun z => hv (by rw [← e]; exact z.1))
  have w30 : ∀ i, i < n → wi i < 30 := fun i hi => by have := hW.2.1 i hi; have := hB.p.2.1; omega
  unfold F_X11_start F_X11_start_14
  rw [F_isWeekC, bd_b (α := Int32), F_isWeekC, bd_b (α := Int32), F_isPlotC hB hTB, bd_b (α := Int32)]
  by_cases c2 : rgB 0 259 x2 = true
  rotate_left
  · rw [if_neg c2]; exact bad1 (-1) (by unfold stP; rw [if_neg (by simp [c2])]) (by decide)
  rw [if_pos c2]
  by_cases c3 : rgB 0 259 x3 = true
  rotate_left
  · rw [if_neg c3]; exact bad1 (-1) (by unfold stP; rw [if_neg (by simp [c3])]) (by decide)
  rw [if_pos c3]
  by_cases c1 : ltB (nP row) x1 = true
  rotate_left
  · rw [if_neg c1]; exact bad1 (-2) (by unfold stP; rw [if_pos (by simp [c2, c3]), if_neg c1]) (by decide)
  rw [if_pos c1]
  obtain ⟨e1, b1⟩ := ltB_n c1 (by have := hB.p.2.1; omega)
  have iw : F_X1_isWished x1 σ = some (if anyW wi (cl x1) n = true then 1 else 0, σ) := by
    have := F_isWished (p := cl x1) hW.1 (by have := hB.p.2.1; omega) w30 hw
    rw [← e1] at this; exact this
  have pv : stP row n wi x1 x2 x3 = if anyW wi (cl x1) n = true then -3 else 0 := by unfold stP; rw [if_pos (by simp [c2, c3]), if_pos c1]
  rw [iw, bd_b (α := Int32), fl, bd_b (α := Int32)]
  by_cases c4 : anyW wi (cl x1) n = true
  · rw [if_pos c4]; exact bad1 (-3) (by rw [pv, if_pos c4]) (by decide)
  rw [if_neg c4]
  have pre : stP row n wi x1 x2 x3 = 0 := by rw [pv, if_neg c4]
  by_cases c : nS row = 60
  · rw [if_pos c]
    exact bad (-5) (tlV_full pre c) (fun z => z.2 c)
  rw [if_neg c]
  obtain ⟨s0, a0, T0⟩ := TlS.add (g := gl [x1, x2, x3]) G hb0 (show nS row < 60 by omega) (by decide) hx (by decide) (by decide) (by decide) (by decide)
  obtain ⟨s1, q0, T1⟩ := T0.put (j := 0) (x := x1) (by decide) (by decide) (by decide) (by decide) rfl
  have q0' : F_X8_put 11 (nI (nS row)) (0 : Int32) x1 s0 = some s1 := q0
  obtain ⟨s2, q1, T2⟩ := T1.put (j := 1) (x := x2) (by decide) (by decide) (by decide) (by decide) rfl
  have q1' : F_X8_put 11 (nI (nS row)) (1 : Int32) x2 s1 = some s2 := q1
  obtain ⟨s3, q2, T3⟩ := T2.put (j := 2) (x := x3) (by decide) (by decide) (by decide) (by decide) rfl
  have q2' : F_X8_put 11 (nI (nS row)) (2 : Int32) x3 s2 = some s3 := q2
  have a0' : F_X8_add 11 σ = some (nI (nS row), s0) := a0
  obtain ⟨U1, U2, U3⟩ := TlS.done (nb := 5) (B := 23652) T3 (by decide) (by decide) (by decide)
  have g12 : gI s3 0 12 = gI σ 0 12 := U3.pt hx (by decide) (by simp; omega) (by simp)
  have kk : Ch [] [(0, 12), (0, 10)] s3 (sI (sI s3 0 12 (gI σ 0 12 + 1)) 0 10 (ftV (nI (nS row + 1)))) := (Ch.sI1 (Or.inl (by simp))).trans (Ch.sI1 (Or.inl (by simp)))
  have k1 : Ch [] [(0, 12)] s3 (sI s3 0 12 (gI σ 0 12 + 1)) := Ch.sI1 (Or.inl (by simp))
  have rr : F_X8_rows 11 (sI s3 0 12 (gI σ 0 12 + 1)) = some (nI (nS row + 1), sI s3 0 12 (gI σ 0 12 + 1)) := F_rowsG (TbG.ch U2 k1 (by simp) (by simp))
  rw [a0', bd_some, q0', bv_some, q1', bv_some, q2', bv_some, g12, rr, bd_some, ansC, tlV_good pre c, tlW_yes pre c, tlC_yes pre c]
  exact ⟨_, rfl, U1.ch kk (by simp) (by simp), gI_sI_at, by rw [gI_sI_ne (by decide), gI_sI_at], (U3.mono (by simp) (by simp)).trans (Ch.x (kk.mono (by simp) (by simp)))⟩
theorem C_lodge {row : Nat → Int32} {x1 x2 x3 x4 : Int32} {O : Nat → Nat} {b0 : Nat} {σ : AH} (hB : BV row) (hTB : TbB row σ) (hT : Tb row σ 15 9 24432 4 40) (hO : Ow O σ) (hb0 : gR σ 15 2 = some b0) : ∃ τ, F_X11_lodge x1 x2 x3 x4 σ = some (tlV (loP row x1 x2 x3 x4) 40 (nL row) 1, τ) ∧ Tb (tlW (loP row x1 x2 x3 x4) 40 row 9 24432 4 (nL row) (gl [x1, x2, x3, x4])) τ 15 9 24432 4 40 ∧ gI τ 0 10 = ftV (tlV (loP row x1 x2 x3 x4) 40 (nL row) 1) ∧ ChX 15 [b0] [(15, 3), (0, 10)] σ τ := by
  have hx := hO.1
  have nm : nL row ≤ 40 := hT.n
  have hb := hO.bt (t := 15) (by simp [tbs]) hb0
  have G := G_of_Tb hT
  have fl : F_X8_isFull 15 σ = some (if nL row = 40 then 1 else 0, σ) := F_isFullG G (by decide)
  have bad : ∀ v : Int32, tlV (loP row x1 x2 x3 x4) 40 (nL row) 1 = v → ¬ ((loP row x1 x2 x3 x4) = 0 ∧ nL row ≠ 40) → ∃ τ, (bd (F_X11_answer v σ) fun a b => some (a, b)) = some (tlV (loP row x1 x2 x3 x4) 40 (nL row) 1, τ) ∧ Tb (tlW (loP row x1 x2 x3 x4) 40 row 9 24432 4 (nL row) (gl [x1, x2, x3, x4])) τ 15 9 24432 4 40 ∧ gI τ 0 10 = ftV (tlV (loP row x1 x2 x3 x4) 40 (nL row) 1) ∧ ChX 15 [b0] [(15, 3), (0, 10)] σ τ := fun v e n => by
    have k : Ch [] [(0, 10)] σ (sI σ 0 10 (ftV v)) := Ch.sI1 (Or.inl (by simp))
    rw [e, tlW_no n, ansC]
    exact ⟨_, rfl, hT.ch k (by simp) (by simp), gI_sI_at, Ch.x (k.mono (by simp) (by simp))⟩
  have bad1 : ∀ v : Int32, (loP row x1 x2 x3 x4) = v → v ≠ 0 → ∃ τ, (bd (F_X11_answer v σ) fun a b => some (a, b)) = some (tlV (loP row x1 x2 x3 x4) 40 (nL row) 1, τ) ∧ Tb (tlW (loP row x1 x2 x3 x4) 40 row 9 24432 4 (nL row) (gl [x1, x2, x3, x4])) τ 15 9 24432 4 40 ∧ gI τ 0 10 = ftV (tlV (loP row x1 x2 x3 x4) 40 (nL row) 1) ∧ ChX 15 [b0] [(15, 3), (0, 10)] σ τ := fun v e hv => bad v (tlV_bad e hv) (fun z => hv (by rw [← e]; exact z.1))
  have i2 : F_X11_isIn x2 (1 : Int32) (20 : Int32) σ = some (if rgB 1 20 x2 = true then 1 else 0, σ) := F_isIn (a := 1) (b := 20) (by decide) (by decide)
  unfold F_X11_lodge F_X11_lodge_31
  rw [i2, bd_b (α := Int32), F_isWeekC, bd_b (α := Int32), F_isWeekC, bd_b (α := Int32), F_isPlotC hB hTB, bd_b (α := Int32), fl, bd_b (α := Int32)]
  by_cases c2 : rgB 1 20 x2 = true
  rotate_left
  · rw [if_neg c2]; exact bad1 (-1) (by unfold loP; rw [if_neg (by simp [c2])]) (by decide)
  rw [if_pos c2]
  by_cases c3 : rgB 0 259 x3 = true
  rotate_left
  · rw [if_neg c3]; exact bad1 (-1) (by unfold loP; rw [if_neg (by simp [c3])]) (by decide)
  rw [if_pos c3]
  by_cases c4 : rgB 0 259 x4 = true
  rotate_left
  · rw [if_neg c4]; exact bad1 (-1) (by unfold loP; rw [if_neg (by simp [c4])]) (by decide)
  rw [if_pos c4]
  by_cases c5 : x3 ≤ x4
  rotate_left
  · rw [if_neg c5]; exact bad1 (-1) (by unfold loP; rw [if_neg (by rw [decide_eq_false c5]; simp)]) (by decide)
  rw [if_pos c5]
  by_cases c1 : ltB (nP row) x1 = true
  rotate_left
  · rw [if_neg c1]; exact bad1 (-2) (by unfold loP; rw [if_pos (by rw [c2, c3, c4, decide_eq_true c5]; rfl), if_neg c1]) (by decide)
  rw [if_pos c1]
  have pre : loP row x1 x2 x3 x4 = 0 := by unfold loP; rw [if_pos (by rw [c2, c3, c4, decide_eq_true c5]; rfl), if_pos c1]
  by_cases c : nL row = 40
  · rw [if_pos c]
    exact bad (-5) (tlV_full pre c) (fun z => z.2 c)
  rw [if_neg c]
  obtain ⟨s0, a0, T0⟩ := TlS.add (g := gl [x1, x2, x3, x4]) G hb0 (show nL row < 40 by omega) (by decide) hx (by decide) (by decide) (by decide) (by decide)
  obtain ⟨s1, q0, T1⟩ := T0.put (j := 0) (x := x1) (by decide) (by decide) (by decide) (by decide) rfl
  have q0' : F_X8_put 15 (nI (nL row)) (0 : Int32) x1 s0 = some s1 := q0
  obtain ⟨s2, q1, T2⟩ := T1.put (j := 1) (x := x2) (by decide) (by decide) (by decide) (by decide) rfl
  have q1' : F_X8_put 15 (nI (nL row)) (1 : Int32) x2 s1 = some s2 := q1
  obtain ⟨s3, q2, T3⟩ := T2.put (j := 2) (x := x3) (by decide) (by decide) (by decide) (by decide) rfl
  have q2' : F_X8_put 15 (nI (nL row)) (2 : Int32) x3 s2 = some s3 := q2
  obtain ⟨s4, q3, T4⟩ := T3.put (j := 3) (x := x4) (by decide) (by decide) (by decide) (by decide) rfl
  have q3' : F_X8_put 15 (nI (nL row)) (3 : Int32) x4 s3 = some s4 := q3
  have a0' : F_X8_add 15 σ = some (nI (nL row), s0) := a0
  obtain ⟨U1, U2, U3⟩ := TlS.done (nb := 9) (B := 24432) T4 (by decide) (by decide) (by decide)
  have kk : Ch [] [(0, 10)] s4 (sI s4 0 10 (ftV (nI (nL row + 1)))) := Ch.sI1 (Or.inl (by simp))
  have rr : F_X8_rows 15 s4 = some (nI (nL row + 1), s4) := F_rowsG U2
  rw [a0', bd_some, q0', bv_some, q1', bv_some, q2', bv_some, q3', bv_some, rr, bd_some, ansC, tlV_good pre c, tlW_yes pre c]
  exact ⟨_, rfl, U1.ch kk (by simp) (by simp), gI_sI_at, (U3.mono (by simp) (by simp)).trans (Ch.x (kk.mono (by simp) (by simp)))⟩
theorem F_isIn4 {x y : Int32} {σ : AH} (hy : rgB 1 20 y = true) : F_X11_isIn x (0 : Int32) (y - (1 : Int32)) σ = some (if decide (0 ≤ x.toInt ∧ x.toInt < y.toInt) = true then 1 else 0, σ) := by
  have hy' := rgB_iff.mp hy
  unfold rg at hy'
  have h1 : (x < (0 : Int32)) ↔ x.toInt < 0 := by rw [Int32.lt_iff_toInt_lt]; exact Iff.rfl
  have e : (y - (1 : Int32)).toInt = y.toInt - 1 := by
    rw [Int32.toInt_sub]
    have : (1 : Int32).toInt = 1 := by decide
    rw [this]
    exact Int.bmod_eq_of_le (by omega) (by omega)
  have h2 : ((y - (1 : Int32)) < x) ↔ ¬ x.toInt < y.toInt := by rw [Int32.lt_iff_toInt_lt, e]; omega
  unfold F_X11_isIn
  by_cases c1 : x.toInt < 0
  · rw [if_pos (h1.mpr c1), if_neg (fun z => by have := of_decide_eq_true z; omega)]
  · rw [if_neg (fun q => c1 (h1.mp q))]
    by_cases c2 : x.toInt < y.toInt
    · rw [if_neg (fun q => (h2.mp q) c2), if_pos (decide_eq_true ⟨by omega, c2⟩)]
    · rw [if_pos (h2.mpr c2), if_neg (fun z => by have := of_decide_eq_true z; omega)]
theorem C_entry {row : Nat → Int32} {x1 x2 x3 x4 x5 x6 x7 : Int32} {O : Nat → Nat} {b0 : Nat} {σ : AH} (hT : Tb row σ 13 6 23832 10 60) (hO : Ow O σ) (hb0 : gR σ 13 2 = some b0) : ∃ τ, F_X11_entry x1 x2 x3 x4 x5 x6 x7 σ = some (tlV (entP x1 x2 x3 x4 x5 x6 x7) 60 (nE row) 0, τ) ∧ Tb (tlW (entP x1 x2 x3 x4 x5 x6 x7) 60 row 6 23832 10 (nE row) (gl [x1, x2, x3, x4, x5, x6, x7, -1, -1, -1])) τ 13 6 23832 10 60 ∧ gI τ 0 10 = ftV (tlV (entP x1 x2 x3 x4 x5 x6 x7) 60 (nE row) 0) ∧ gI τ 0 13 = tlC (entP x1 x2 x3 x4 x5 x6 x7) 60 (nE row) (gI σ 0 13) ∧ ChX 13 [b0] [(13, 3), (0, 10), (0, 13)] σ τ := by
  have hx := hO.1
  have nm : nE row ≤ 60 := hT.n
  have hb := hO.bt (t := 13) (by simp [tbs]) hb0
  have G := G_of_Tb hT
  have fl : F_X8_isFull 13 σ = some (if nE row = 60 then 1 else 0, σ) := F_isFullG G (by decide)
  have bad : ∀ v : Int32, tlV (entP x1 x2 x3 x4 x5 x6 x7) 60 (nE row) 0 = v → ¬ (entP x1 x2 x3 x4 x5 x6 x7 = 0 ∧ nE row ≠ 60) → ∃ τ, (bd (F_X11_answer v σ) fun a b => some (a, b)) = some (tlV (entP x1 x2 x3 x4 x5 x6 x7) 60 (nE row) 0, τ) ∧ Tb (tlW (entP x1 x2 x3 x4 x5 x6 x7) 60 row 6 23832 10 (nE row) (gl [x1, x2, x3, x4, x5, x6, x7, -1, -1, -1])) τ 13 6 23832 10 60 ∧ gI τ 0 10 = ftV (tlV (entP x1 x2 x3 x4 x5 x6 x7) 60 (nE row) 0) ∧ gI τ 0 13 = tlC (entP x1 x2 x3 x4 x5 x6 x7) 60 (nE row) (gI σ 0 13) ∧ ChX 13 [b0] [(13, 3), (0, 10), (0, 13)] σ τ := fun v e n => by
    have k : Ch [] [(0, 10)] σ (sI σ 0 10 (ftV v)) := Ch.sI1 (Or.inl (by simp))
    rw [e, tlW_no n, tlC_no n, ansC]
    exact ⟨_, rfl, hT.ch k (by simp) (by simp), gI_sI_at, gI_sI_ne (by decide), Ch.x (k.mono (by simp) (by simp))⟩
  have bad1 : entP x1 x2 x3 x4 x5 x6 x7 = -1 → ∃ τ, F_X11_entry_67 σ = some (tlV (entP x1 x2 x3 x4 x5 x6 x7) 60 (nE row) 0, τ) ∧ Tb (tlW (entP x1 x2 x3 x4 x5 x6 x7) 60 row 6 23832 10 (nE row) (gl [x1, x2, x3, x4, x5, x6, x7, -1, -1, -1])) τ 13 6 23832 10 60 ∧ gI τ 0 10 = ftV (tlV (entP x1 x2 x3 x4 x5 x6 x7) 60 (nE row) 0) ∧ gI τ 0 13 = tlC (entP x1 x2 x3 x4 x5 x6 x7) 60 (nE row) (gI σ 0 13) ∧ ChX 13 [b0] [(13, 3), (0, 10), (0, 13)] σ τ := fun e => by
    unfold F_X11_entry_67
    exact bad (-1) (tlV_bad e (by decide)) (fun z => by rw [e] at z; exact absurd z.1 (by decide))
  have i1 : F_X11_isIn x1 (0 : Int32) (5 : Int32) σ = some (if rgB 0 5 x1 = true then 1 else 0, σ) := F_isIn (a := 0) (b := 5) (by decide) (by decide)
  have i3 : F_X11_isIn x3 (1 : Int32) (20 : Int32) σ = some (if rgB 1 20 x3 = true then 1 else 0, σ) := F_isIn (a := 1) (b := 20) (by decide) (by decide)
  have i5 : F_X11_isIn x5 (0 : Int32) (9 : Int32) σ = some (if rgB 0 9 x5 = true then 1 else 0, σ) := F_isIn (a := 0) (b := 9) (by decide) (by decide)
  have i6 : F_X11_isIn x6 (0 : Int32) (1 : Int32) σ = some (if rgB 0 1 x6 = true then 1 else 0, σ) := F_isIn (a := 0) (b := 1) (by decide) (by decide)
  unfold F_X11_entry
  rw [i1, bd_b (α := Int32), F_isWeekC, bd_b (α := Int32), i3, bd_b (α := Int32)]
  by_cases c1 : rgB 0 5 x1 = true
  rotate_left
  · rw [if_neg c1]; exact bad1 (tlP_f (by simp [c1]))
  rw [if_pos c1]
  by_cases c2 : rgB 0 259 x2 = true
  rotate_left
  · rw [if_neg c2]; exact bad1 (tlP_f (by simp [c2]))
  rw [if_pos c2]
  by_cases c3 : rgB 1 20 x3 = true
  rotate_left
  · rw [if_neg c3]; exact bad1 (tlP_f (by simp [c3]))
  rw [if_pos c3, F_isIn4 c3, bd_b (α := Int32), i5, bd_b (α := Int32), i6, bd_b (α := Int32), F_isWeekC, bd_b (α := Int32), fl, bd_b (α := Int32)]
  by_cases c4 : decide (0 ≤ x4.toInt ∧ x4.toInt < x3.toInt) = true
  rotate_left
  · rw [if_neg c4]
    have c4' : decide (0 ≤ x4.toInt ∧ x4.toInt < x3.toInt) = false := by simpa using c4
    exact bad1 (tlP_f (by rw [c4']; simp))
  rw [if_pos c4]
  by_cases c5 : rgB 0 9 x5 = true
  rotate_left
  · rw [if_neg c5]; exact bad1 (tlP_f (by simp [c5]))
  rw [if_pos c5]
  by_cases c6 : rgB 0 1 x6 = true
  rotate_left
  · rw [if_neg c6]; exact bad1 (tlP_f (by simp [c6]))
  rw [if_pos c6]
  by_cases c7 : rgB 0 259 x7 = true
  rotate_left
  · rw [if_neg c7]; exact bad1 (tlP_f (by simp [c7]))
  rw [if_pos c7]
  have pre : entP x1 x2 x3 x4 x5 x6 x7 = 0 := tlP_t (by rw [c1, c2, c3, c4, c5, c6, c7]; rfl)
  by_cases c : nE row = 60
  · rw [if_pos c]
    unfold F_X11_entry_86
    exact bad (-5) (tlV_full pre c) (fun z => z.2 c)
  rw [if_neg c]
  unfold F_X11_entry_93
  obtain ⟨s0, a0, T0⟩ := TlS.add (g := gl [x1, x2, x3, x4, x5, x6, x7, -1, -1, -1]) G hb0 (show nE row < 60 by omega) (by decide) hx (by decide) (by decide) (by decide) (by decide)
  obtain ⟨s1, q0, T1⟩ := T0.put (j := 0) (x := x1) (by decide) (by decide) (by decide) (by decide) rfl
  have q0' : F_X8_put 13 (nI (nE row)) (0 : Int32) x1 s0 = some s1 := q0
  obtain ⟨s2, q1, T2⟩ := T1.put (j := 1) (x := x2) (by decide) (by decide) (by decide) (by decide) rfl
  have q1' : F_X8_put 13 (nI (nE row)) (1 : Int32) x2 s1 = some s2 := q1
  obtain ⟨s3, q2, T3⟩ := T2.put (j := 2) (x := x3) (by decide) (by decide) (by decide) (by decide) rfl
  have q2' : F_X8_put 13 (nI (nE row)) (2 : Int32) x3 s2 = some s3 := q2
  obtain ⟨s4, q3, T4⟩ := T3.put (j := 3) (x := x4) (by decide) (by decide) (by decide) (by decide) rfl
  have q3' : F_X8_put 13 (nI (nE row)) (3 : Int32) x4 s3 = some s4 := q3
  obtain ⟨s5, q4, T5⟩ := T4.put (j := 4) (x := x5) (by decide) (by decide) (by decide) (by decide) rfl
  have q4' : F_X8_put 13 (nI (nE row)) (4 : Int32) x5 s4 = some s5 := q4
  obtain ⟨s6, q5, T6⟩ := T5.put (j := 5) (x := x6) (by decide) (by decide) (by decide) (by decide) rfl
  have q5' : F_X8_put 13 (nI (nE row)) (5 : Int32) x6 s5 = some s6 := q5
  obtain ⟨s7, q6, T7⟩ := T6.put (j := 6) (x := x7) (by decide) (by decide) (by decide) (by decide) rfl
  have q6' : F_X8_put 13 (nI (nE row)) (6 : Int32) x7 s6 = some s7 := q6
  obtain ⟨s8, q7, T8⟩ := T7.put (j := 7) (x := (-1)) (by decide) (by decide) (by decide) (by decide) rfl
  have q7' : F_X8_put 13 (nI (nE row)) (7 : Int32) (-1) s7 = some s8 := q7
  obtain ⟨s9, q8, T9⟩ := T8.put (j := 8) (x := (-1)) (by decide) (by decide) (by decide) (by decide) rfl
  have q8' : F_X8_put 13 (nI (nE row)) (8 : Int32) (-1) s8 = some s9 := q8
  obtain ⟨s10, q9, T10⟩ := T9.put (j := 9) (x := (-1)) (by decide) (by decide) (by decide) (by decide) rfl
  have q9' : F_X8_put 13 (nI (nE row)) (9 : Int32) (-1) s9 = some s10 := q9
  have a0' : F_X8_add 13 σ = some (nI (nE row), s0) := a0
  obtain ⟨U1, U2, U3⟩ := TlS.done (nb := 6) (B := 23832) T10 (by decide) (by decide) (by decide)
  have g13 : gI s10 0 13 = gI σ 0 13 := U3.pt hx (by decide) (by simp; omega) (by simp)
  have kk : Ch [] [(0, 13), (0, 10)] s10 (sI (sI s10 0 13 (gI σ 0 13 + 1)) 0 10 (ftV (nI (nE row + 0)))) := (Ch.sI1 (Or.inl (by simp))).trans (Ch.sI1 (Or.inl (by simp)))
  obtain ⟨g, hg⟩ := BIGe 3 (by decide)
  have lp : F_X11_entry_211 BIG (nI (nE row)) (0 : Int32) s7 = some (nI (nE row), sI (sI s10 0 13 (gI σ 0 13 + 1)) 0 10 (ftV (nI (nE row + 0)))) := by
    rw [hg, show 3 + 1 + g = (g + 3) + 1 by omega]
    show B_X11_entry_211 (F_X11_entry_211 (g + 3)) (nI (nE row)) (0 : Int32) s7 = _
    unfold B_X11_entry_211
    rw [if_neg (show ¬ (3 : Int32) ≤ 0 by decide), show (7 : Int32) + 0 = 7 from rfl, q7', bv_some]
    show B_X11_entry_211 (F_X11_entry_211 (g + 2)) (nI (nE row)) (1 : Int32) s8 = _
    unfold B_X11_entry_211
    rw [if_neg (show ¬ (3 : Int32) ≤ 1 by decide), show (7 : Int32) + 1 = 8 from rfl, q8', bv_some]
    show B_X11_entry_211 (F_X11_entry_211 (g + 1)) (nI (nE row)) (2 : Int32) s9 = _
    unfold B_X11_entry_211
    rw [if_neg (show ¬ (3 : Int32) ≤ 2 by decide), show (7 : Int32) + 2 = 9 from rfl, q9', bv_some]
    show B_X11_entry_211 (F_X11_entry_211 g) (nI (nE row)) (3 : Int32) s10 = _
    unfold B_X11_entry_211
    rw [if_pos (show (3 : Int32) ≤ 3 by decide), g13, ansC, Nat.add_zero]
  rw [a0', bd_some, q0', bv_some, q1', bv_some, q2', bv_some, q3', bv_some, q4', bv_some, q5', bv_some, q6', bv_some, lp, tlV_good pre c, tlW_yes pre c, tlC_yes pre c, Nat.add_zero]
  rw [Nat.add_zero] at kk
  exact ⟨_, rfl, U1.ch kk (by simp) (by simp), gI_sI_at, by rw [gI_sI_ne (by decide), gI_sI_at], (U3.mono (by simp) (by simp)).trans (Ch.x (kk.mono (by simp) (by simp)))⟩
theorem C_mark {row : Nat → Int32} {x1 x2 x3 : Int32} {O : Nat → Nat} {b0 : Nat} {σ : AH} (hE : EV row) (hT : TbE row σ) (hO : Ow O σ) (hb0 : gR σ 13 2 = some b0) : ∃ τ, F_X11_mark x1 x2 x3 σ = some (markV row x1 x2 x3, τ) ∧ TbE (markR row x1 x2 x3) τ ∧ gI τ 0 10 = ftV (markV row x1 x2 x3) ∧ gI τ 0 13 = (if markV row x1 x2 x3 = 0 then gI σ 0 13 + 1 else gI σ 0 13) ∧ Ch [b0] [(0, 10), (0, 13)] σ τ := by
  have n60 := hE.n.2
  have hb := hO.bt (t := 13) (by simp [tbs]) hb0
  have bad : ∀ v : Int32, markV row x1 x2 x3 = v → v ≠ 0 → ∃ τ, (bd (F_X11_answer v σ) fun a b => some (a, b)) = some (markV row x1 x2 x3, τ) ∧ TbE (markR row x1 x2 x3) τ ∧ gI τ 0 10 = ftV (markV row x1 x2 x3) ∧ gI τ 0 13 = (if markV row x1 x2 x3 = 0 then gI σ 0 13 + 1 else gI σ 0 13) ∧ Ch [b0] [(0, 10), (0, 13)] σ τ := fun v e hv => by
    have k : Ch [] [(0, 10)] σ (sI σ 0 10 (ftV v)) := Ch.sI1 (Or.inl (by simp))
    unfold markR
    rw [e, if_neg hv, if_neg hv, ansC]
    exact ⟨_, rfl, hT.ch k (by simp) (by simp), gI_sI_at, gI_sI_ne (by decide), k.mono (by simp) (by simp)⟩
  have i2 : F_X11_isIn x2 (0 : Int32) (2 : Int32) σ = some (if rgB 0 2 x2 = true then 1 else 0, σ) := F_isIn (a := 0) (b := 2) (by decide) (by decide)
  have i3 : F_X11_isIn x3 (0 : Int32) (9999 : Int32) σ = some (if rgB 0 9999 x3 = true then 1 else 0, σ) := F_isIn (a := 0) (b := 9999) (by decide) (by decide)
  unfold F_X11_mark F_X11_mark_20
  rw [i2, bd_b (α := Int32), i3, bd_b (α := Int32), F_isEntryC hE hT, bd_b (α := Int32)]
  by_cases c2 : rgB 0 2 x2 = true
  rotate_left
  · rw [if_neg c2]; exact bad (-1) (by unfold markV; rw [if_neg (by simp [c2])]) (by decide)
  rw [if_pos c2]
  by_cases c3 : rgB 0 9999 x3 = true
  rotate_left
  · rw [if_neg c3]; exact bad (-1) (by unfold markV; rw [if_neg (by simp [c3])]) (by decide)
  rw [if_pos c3]
  by_cases c1 : ltB (nE row) x1 = true
  rotate_left
  · rw [if_neg c1]; exact bad (-2) (by unfold markV; rw [if_pos (by simp [c2, c3]), if_neg c1]) (by decide)
  rw [if_pos c1]
  obtain ⟨e1, b1⟩ := ltB_n c1 (by omega)
  obtain ⟨e2, b2'⟩ := rg0_n (b := 2) c2 (by decide)
  have s7 : (7 : Int32) + x2 = nI (7 + cl x2) := by rw [fa_lit 7, e2, nI_add, show cl (nI (cl x2)) = cl x2 from nI_clamp (by omega)]
  have a7 : F_X8_at 13 x1 ((7 : Int32) + x2) σ = some (en row (cl x1) (7 + cl x2), σ) := by
    have := at_en (j := 7 + cl x2) hT b1 (by omega)
    rw [← e1] at this
    rw [s7]; exact this
  have vv : markV row x1 x2 x3 = if en row (cl x1) (7 + cl x2) = -1 then 0 else -4 := by unfold markV; rw [if_pos (by simp [c2, c3]), if_pos c1]
  rw [a7, bd_some]
  by_cases c : en row (cl x1) (7 + cl x2) = -1
  rotate_left
  · rw [if_neg c]; exact bad (-4) (by rw [vv, if_neg c]) (by decide)
  rw [if_pos c] at vv ⊢
  obtain ⟨b, p1, p2, p3, p4⟩ := F_putG (r := cl x1) (c := 7 + cl x2) (v := x3) (G_of_Tb hT) b1 (by omega) (by decide) (by decide) (by decide)
  have eb : b = b0 := by rw [hb0] at p1; cases p1; rfl
  subst eb
  rw [← e1] at p3
  have p3' : F_X8_put 13 x1 ((7 : Int32) + x2) x3 σ = some (sI σ b (cl x1 * 10 + (7 + cl x2)) x3) := by rw [s7]; exact p3
  have g13 : gI (sI σ b (cl x1 * 10 + (7 + cl x2)) x3) 0 13 = gI σ 0 13 := by rw [gI_sI_row (by omega)]
  rw [p3', bv_some, g13, ansC]
  have kk : Ch [] [(0, 13), (0, 10)] (sI σ b (cl x1 * 10 + (7 + cl x2)) x3) (sI (sI (sI σ b (cl x1 * 10 + (7 + cl x2)) x3) 0 13 (gI σ 0 13 + 1)) 0 10 (ftV 0)) := (Ch.sI1 (Or.inl (by simp))).trans (Ch.sI1 (Or.inl (by simp)))
  have k0 : Ch [b] [(0, 10), (0, 13)] σ (sI σ b (cl x1 * 10 + (7 + cl x2)) x3) := Ch.sI1 (Or.inr (by simp))
  have T2 : Tb (markR row x1 x2 x3) (sI σ b (cl x1 * 10 + (7 + cl x2)) x3) 13 6 23832 10 60 := by
    refine Tb_of_G p4 ?_ (by decide) (by decide) (fun s j hs hj => ?_)
    · unfold markR; rw [vv, if_pos rfl, up_ne _ _ _ (by omega)]; exact hE.n.1
    · unfold markR upC
      rw [vv, if_pos rfl]
      by_cases z : s = cl x1 ∧ j = 7 + cl x2
      · rw [if_pos z, z.1, z.2, up_same]
      · rw [if_neg z, up_ne _ _ _ (fun y => z (mul_inj (wd := 10) hj (by omega) (by omega)))]
  rw [vv, if_pos rfl]
  exact ⟨_, rfl, T2.ch kk (by simp) (by simp), gI_sI_at, by rw [gI_sI_ne (by decide), gI_sI_at], k0.trans (kk.mono (by simp) (by simp))⟩
end
