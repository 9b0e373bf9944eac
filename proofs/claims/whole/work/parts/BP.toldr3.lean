section
/-! entry and mark of the reference -/
def entP (x1 x2 x3 x4 x5 x6 x7 : Int32) : Int32 := tlP (rgB 0 5 x1 && (rgB 0 259 x2 && (rgB 1 20 x3 && ((decide (0 ≤ x4.toInt ∧ x4.toInt < x3.toInt)) && (rgB 0 9 x5 && (rgB 0 1 x6 && rgB 0 259 x7))))))
theorem F_in4 {x y : Int32} {σ : AH} (hy : rgB 1 20 y = true) : F_X12_in x.toInt64 (0 : Int64) (y.toInt64 - (1 : Int64)) σ = some (if decide (0 ≤ x.toInt ∧ x.toInt < y.toInt) = true then 1 else 0, σ) := by
  have hy' := rgB_iff.mp hy
  unfold rg at hy'
  have h1 : (x.toInt64 < (0 : Int64)) ↔ x.toInt < 0 := by rw [Int64.lt_iff_toInt_lt, Int32.toInt_toInt64]; exact Iff.rfl
  have e : (y.toInt64 - (1 : Int64)).toInt = y.toInt - 1 := by
    rw [Int64.toInt_sub, Int32.toInt_toInt64]
    have : (1 : Int64).toInt = 1 := by decide
    rw [this]
    exact Int.bmod_eq_of_le (by omega) (by omega)
  have h2 : ((y.toInt64 - (1 : Int64)) < x.toInt64) ↔ ¬ x.toInt < y.toInt := by rw [Int64.lt_iff_toInt_lt, e, Int32.toInt_toInt64]; omega
  unfold F_X12_in
  by_cases c1 : x.toInt < 0
  · rw [if_pos (h1.mpr c1), if_neg (fun z => by have := of_decide_eq_true z; omega)]
  · rw [if_neg (fun q => c1 (h1.mp q))]
    by_cases c2 : x.toInt < y.toInt
    · rw [if_neg (fun q => (h2.mp q) c2), if_pos (decide_eq_true ⟨by omega, c2⟩)]
    · rw [if_pos (h2.mpr c2), if_neg (fun z => by have := of_decide_eq_true z; omega)]
theorem P_entry {row : Nat → Int32} {x1 x2 x3 x4 x5 x6 x7 : Int32} {σ : AH} (hE : EV row) (hr : gI σ 125 = row) : ∃ τ, F_X12_entry x1 x2 x3 x4 x5 x6 x7 σ = some (tlV (entP x1 x2 x3 x4 x5 x6 x7) 60 (nE row) 0, τ) ∧ gI τ 125 = tlW (entP x1 x2 x3 x4 x5 x6 x7) 60 row 6 23832 10 (nE row) (gl [x1, x2, x3, x4, x5, x6, x7, -1, -1, -1]) ∧ gI τ 124 1 = ftV (tlV (entP x1 x2 x3 x4 x5 x6 x7) 60 (nE row) 0) ∧ Ch [125] TDf σ τ := by
  obtain ⟨d0, d60⟩ := hE.n
  have bad : ∀ v : Int32, tlV (entP x1 x2 x3 x4 x5 x6 x7) 60 (nE row) 0 = v → ¬ (entP x1 x2 x3 x4 x5 x6 x7 = 0 ∧ nE row ≠ 60) → ∃ τ, (bd (F_X12_told v (sI σ 124 0 0)) fun a b => some (a, b)) = some (tlV (entP x1 x2 x3 x4 x5 x6 x7) 60 (nE row) 0, τ) ∧ gI τ 125 = tlW (entP x1 x2 x3 x4 x5 x6 x7) 60 row 6 23832 10 (nE row) (gl [x1, x2, x3, x4, x5, x6, x7, -1, -1, -1]) ∧ gI τ 124 1 = ftV (tlV (entP x1 x2 x3 x4 x5 x6 x7) 60 (nE row) 0) ∧ Ch [125] TDf σ τ := fun v e n => by
    rw [e, tlW_no n, ← hr]; exact toldR
  have no : entP x1 x2 x3 x4 x5 x6 x7 = -1 → ∃ τ, F_X12_entry_77 (sI σ 124 0 0) = some (tlV (entP x1 x2 x3 x4 x5 x6 x7) 60 (nE row) 0, τ) ∧ gI τ 125 = tlW (entP x1 x2 x3 x4 x5 x6 x7) 60 row 6 23832 10 (nE row) (gl [x1, x2, x3, x4, x5, x6, x7, -1, -1, -1]) ∧ gI τ 124 1 = ftV (tlV (entP x1 x2 x3 x4 x5 x6 x7) 60 (nE row) 0) ∧ Ch [125] TDf σ τ := fun e => by
    unfold F_X12_entry_77
    exact bad (-1) (tlV_bad e (by decide)) (fun z => by rw [e] at z; exact absurd z.1 (by decide))
  have i3 : F_X12_in x3.toInt64 (1 : Int64) (20 : Int64) (sI σ 124 0 0) = some (if rgB 1 20 x3 = true then 1 else 0, sI σ 124 0 0) := F_in (a := 1) (b := 20) (by decide) (by decide)
  have i5 : F_X12_in x5.toInt64 (0 : Int64) (9 : Int64) (sI σ 124 0 0) = some (if rgB 0 9 x5 = true then 1 else 0, sI σ 124 0 0) := F_in (a := 0) (b := 9) (by decide) (by decide)
  have i6 : F_X12_in x6.toInt64 (0 : Int64) (1 : Int64) (sI σ 124 0 0) = some (if rgB 0 1 x6 = true then 1 else 0, sI σ 124 0 0) := F_in (a := 0) (b := 1) (by decide) (by decide)
  have hr0 : gI (sI σ 124 0 0) 125 = row := by rw [gI_sI_row (by decide)]; exact hr
  unfold F_X12_entry
  rw [F_isCouncil, bd_b (α := Int32), F_isWeek, bd_b (α := Int32), i3, bd_b (α := Int32)]
  cases c1 : rgB 0 5 x1 with
  | false => rw [if_neg (by decide)]; exact no (tlP_f (by rw [c1]; rfl))
  | true =>
    rw [if_pos rfl]
    cases c2 : rgB 0 259 x2 with
    | false => rw [if_neg (by decide)]; exact no (tlP_f (by rw [c1, c2]; rfl))
    | true =>
      rw [if_pos rfl]
      cases c3 : rgB 1 20 x3 with
      | false => rw [if_neg (by decide)]; exact no (tlP_f (by rw [c1, c2, c3]; rfl))
      | true =>
        rw [if_pos rfl, F_in4 c3, bd_b (α := Int32), i5, bd_b (α := Int32), i6, bd_b (α := Int32), F_isWeek, bd_b (α := Int32), hr0, d0]
        cases c4 : decide (0 ≤ x4.toInt ∧ x4.toInt < x3.toInt) with
        | false => rw [if_neg (by decide)]; exact no (tlP_f (by rw [c1, c2, c3, c4]; rfl))
        | true =>
          rw [if_pos rfl]
          cases c5 : rgB 0 9 x5 with
          | false => rw [if_neg (by decide)]; exact no (tlP_f (by rw [c1, c2, c3, c4, c5]; rfl))
          | true =>
            rw [if_pos rfl]
            cases c6 : rgB 0 1 x6 with
            | false => rw [if_neg (by decide)]; exact no (tlP_f (by rw [c1, c2, c3, c4, c5, c6]; rfl))
            | true =>
              rw [if_pos rfl]
              cases c7 : rgB 0 259 x7 with
              | false => rw [if_neg (by decide)]; exact no (tlP_f (by rw [c1, c2, c3, c4, c5, c6, c7]; rfl))
              | true =>
                have pre : entP x1 x2 x3 x4 x5 x6 x7 = 0 := tlP_t (by rw [c1, c2, c3, c4, c5, c6, c7]; rfl)
                rw [if_pos rfl]
                by_cases c : nE row = 60
                · rw [if_pos (show nI (nE row) = (60 : Int32) by rw [c]; rfl)]
                  unfold F_X12_entry_95
                  exact bad (-5) (tlV_full pre c) (fun z => z.2 c)
                · rw [if_neg (show ¬ nI (nE row) = (60 : Int32) from fun z => c ((nI_eq (b := 60) (by omega) (by decide)).mp z))]
                  unfold F_X12_entry_102
                  have i4 : nI (23832 + nE row * 10) + (4 : Int32) = nI (23832 + nE row * 10 + 4) := by rw [fa_lit 4, nI_add]
                  have i8 : nI (23832 + nE row * 10) + (8 : Int32) = nI (23832 + nE row * 10 + 8) := by rw [fa_lit 8, nI_add]
                  have i9 : nI (23832 + nE row * 10) + (9 : Int32) = nI (23832 + nE row * 10 + 9) := by rw [fa_lit 9, nI_add]
                  rw [hr0, d0, tli10 (B := 23832), i4, i8, i9, F_addFour (by omega), bv_some, F_addFour (by omega), bv_some, if_pos (inB_n (by omega) (by omega)), if_pos (inB_n (by omega) (by omega)), lt_e, nI_clamp (by omega), nI_clamp (by omega)]
                  obtain ⟨s8, hs8⟩ : ∃ s8, s8 = sI (sI (sI (sI (sI (sI (sI (sI (sI (sI (sI σ 124 0 0) 125 (23832 + nE row * 10) x1) 125 (23832 + nE row * 10 + 1) x2) 125 (23832 + nE row * 10 + 2) x3) 125 (23832 + nE row * 10 + 3) x4) 125 (23832 + nE row * 10 + 4) x5) 125 (23832 + nE row * 10 + 4 + 1) x6) 125 (23832 + nE row * 10 + 4 + 2) x7) 125 (23832 + nE row * 10 + 4 + 3) (-1)) 125 (23832 + nE row * 10 + 8) (-1)) 125 (23832 + nE row * 10 + 9) (-1) := ⟨_, rfl⟩
                  rw [← hs8]
                  have e2 : gI s8 125 6 = nI (nE row) := by
                    rw [hs8, gI_sI_ne (by omega), gI_sI_ne (by omega), gI_sI_ne (by omega), gI_sI_ne (by omega), gI_sI_ne (by omega), gI_sI_ne (by omega), gI_sI_ne (by omega), gI_sI_ne (by omega), gI_sI_ne (by omega), gI_sI_ne (by omega), hr0]; exact d0
                  have c4' : ∀ {s : AH} {k : Nat} {v : Int32}, Ch [125] TDf s (sI s 125 k v) := fun {s k v} => Ch.sI1 (Or.inr (by simp))
                  have k8 : Ch [125] TDf σ s8 := by
                    rw [hs8]
                    exact ((((((((((Ch.sI1 (Or.inl (by simp [TDf]))).trans c4').trans c4').trans c4').trans c4').trans c4').trans c4').trans c4').trans c4').trans c4').trans c4'
                  rw [e2, nI_1, gI_sI_at, nI_back, told_e, bd_some, tlV_good pre c, tlW_yes pre c]
                  refine ⟨_, rfl, ?_, gI_sI_at, (k8.trans c4').trans (Ch.sI1 (Or.inl (by simp [TDf])))⟩
                  rw [gI_sI_row (by decide), ← tl10 (by decide), hs8]
                  simp only [gI_sI_own]
                  rw [hr0]
def markV (row : Nat → Int32) (x1 x2 x3 : Int32) : Int32 := if (rgB 0 2 x2 && rgB 0 9999 x3) = true then (if ltB (nE row) x1 = true then (if en row (cl x1) (7 + cl x2) = -1 then 0 else -4) else -2) else -1
def markR (row : Nat → Int32) (x1 x2 x3 : Int32) : Nat → Int32 := if markV row x1 x2 x3 = 0 then va_up row (23832 + (cl x1 * 10 + (7 + cl x2))) x3 else row
theorem P_mark {row : Nat → Int32} {x1 x2 x3 : Int32} {σ : AH} (hE : EV row) (hr : gI σ 125 = row) : ∃ τ, F_X12_mark x1 x2 x3 σ = some (markV row x1 x2 x3, τ) ∧ gI τ 125 = markR row x1 x2 x3 ∧ gI τ 124 1 = ftV (markV row x1 x2 x3) ∧ Ch [125] TDf σ τ := by
  have n60 := hE.n.2
  have bad : ∀ v : Int32, markV row x1 x2 x3 = v → v ≠ 0 → ∃ τ, (bd (F_X12_told v (sI σ 124 0 0)) fun a b => some (a, b)) = some (markV row x1 x2 x3, τ) ∧ gI τ 125 = markR row x1 x2 x3 ∧ gI τ 124 1 = ftV (markV row x1 x2 x3) ∧ Ch [125] TDf σ τ := fun v e hv => by
    unfold markR
    rw [e, if_neg hv, ← hr]; exact toldR
  have i2 : F_X12_in x2.toInt64 (0 : Int64) (2 : Int64) (sI σ 124 0 0) = some (if rgB 0 2 x2 = true then 1 else 0, sI σ 124 0 0) := F_in (a := 0) (b := 2) (by decide) (by decide)
  have i3 : F_X12_in x3.toInt64 (0 : Int64) (9999 : Int64) (sI σ 124 0 0) = some (if rgB 0 9999 x3 = true then 1 else 0, sI σ 124 0 0) := F_in (a := 0) (b := 9999) (by decide) (by decide)
  have hr0 : gI (sI σ 124 0 0) 125 = row := by rw [gI_sI_row (by decide)]; exact hr
  unfold F_X12_mark F_X12_mark_29
  rw [i2, bd_b (α := Int32), i3, bd_b (α := Int32), F_isEntryR hE hr0, bd_b (α := Int32)]
  cases c2 : rgB 0 2 x2 with
  | false => rw [if_neg (by decide)]; exact bad (-1) (by unfold markV; rw [c2]; rfl) (by decide)
  | true =>
    rw [if_pos rfl]
    cases c3 : rgB 0 9999 x3 with
    | false => rw [if_neg (by decide)]; exact bad (-1) (by unfold markV; rw [c2, c3]; rfl) (by decide)
    | true =>
      rw [if_pos rfl]
      by_cases c1 : ltB (nE row) x1 = true
      · rw [if_pos c1]
        obtain ⟨e1, b1⟩ := ltB_n c1 (by omega)
        obtain ⟨e2, b2'⟩ := rg0_n (b := 2) c2 (by decide)
        have s7 : (7 : Int32) + x2 = nI (7 + cl x2) := by rw [fa_lit 7, e2, nI_add, show cl (nI (cl x2)) = cl x2 from nI_clamp (by omega)]
        have a7 : F_X12_entryAt x1 ((7 : Int32) + x2) (sI σ 124 0 (0 : Int32)) = some (en row (cl x1) (7 + cl x2), sI σ 124 0 0) := by
          have := F_entryAt (σ := sI σ 124 0 (0 : Int32)) (e := cl x1) (j := 7 + cl x2) hE b1 (by omega) hr0
          rw [← e1] at this
          rw [s7]; exact this
        have vv : markV row x1 x2 x3 = if en row (cl x1) (7 + cl x2) = -1 then 0 else -4 := by unfold markV; rw [c2, c3, if_pos (by decide), if_pos c1]
        rw [a7, bd_some]
        by_cases c : en row (cl x1) (7 + cl x2) = -1
        · rw [if_pos c] at vv
          have ix : (23832 : Int32) + (10 : Int32) * x1 + (7 : Int32) + x2 = nI (23832 + (cl x1 * 10 + (7 + cl x2))) := by
            rw [e1, tli10 (B := 23832), e2, fa_lit 7, nI_add, nI_add, show cl (nI (cl x2)) = cl x2 from nI_clamp (by omega), show cl (nI (cl x1)) = cl x1 from nI_clamp (by omega)]
            congr 1
            omega
          rw [if_pos c, ix, if_pos (inB_n (by omega) (by omega)), nI_clamp (by omega), told_e, bd_some]
          unfold markR
          rw [vv, if_pos rfl]
          refine ⟨_, rfl, ?_, gI_sI_at, ((Ch.sI1 (Or.inl (by simp [TDf]))).trans (Ch.sI1 (Or.inr (by simp)))).trans (Ch.sI1 (Or.inl (by simp [TDf])))⟩
          rw [gI_sI_row (by decide), gI_sI_own, hr0]
        · rw [if_neg c]
          exact bad (-4) (by rw [vv, if_neg c]) (by decide)
      · rw [if_neg c1]
        exact bad (-2) (by unfold markV; rw [c2, c3, if_pos (by decide), if_neg c1]) (by decide)
end
