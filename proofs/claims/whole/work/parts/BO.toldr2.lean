section
/-! more tellings of the reference -/
def woP (x1 x2 x3 x4 x5 x6 x7 x8 : Int32) : Int32 := tlP (rgB 0 4 x1 && (rgB 0 4 x3 && (rgB 0 4 x5 && (rgB 0 1000 x2 && (rgB 0 1000 x4 && (rgB 1 10000 x6 && (rgB 0 100 x7 && rgB 0 259 x8)))))))
theorem P_works {row : Nat → Int32} {x1 x2 x3 x4 x5 x6 x7 x8 : Int32} {σ : AH} (hB : BV row) (hr : gI σ 125 = row) : ∃ τ, F_X12_works x1 x2 x3 x4 x5 x6 x7 x8 σ = some (tlV (woP x1 x2 x3 x4 x5 x6 x7 x8) 8 (nW row) 0, τ) ∧ gI τ 125 = tlW (woP x1 x2 x3 x4 x5 x6 x7 x8) 8 row 2 23228 8 (nW row) (gl [x1, x2, x3, x4, x5, x6, x7, x8]) ∧ gI τ 124 1 = ftV (tlV (woP x1 x2 x3 x4 x5 x6 x7 x8) 8 (nW row) 0) ∧ Ch [125] TDf σ τ := by
  obtain ⟨d0, d8, _⟩ := hB.w
  have bad : ∀ v : Int32, tlV (woP x1 x2 x3 x4 x5 x6 x7 x8) 8 (nW row) 0 = v → ¬ (woP x1 x2 x3 x4 x5 x6 x7 x8 = 0 ∧ nW row ≠ 8) → ∃ τ, (bd (F_X12_told v (sI σ 124 0 0)) fun a b => some (a, b)) = some (tlV (woP x1 x2 x3 x4 x5 x6 x7 x8) 8 (nW row) 0, τ) ∧ gI τ 125 = tlW (woP x1 x2 x3 x4 x5 x6 x7 x8) 8 row 2 23228 8 (nW row) (gl [x1, x2, x3, x4, x5, x6, x7, x8]) ∧ gI τ 124 1 = ftV (tlV (woP x1 x2 x3 x4 x5 x6 x7 x8) 8 (nW row) 0) ∧ Ch [125] TDf σ τ := fun v e n => by
    rw [e, tlW_no n, ← hr]; exact toldR
  have no : woP x1 x2 x3 x4 x5 x6 x7 x8 = -1 → ∃ τ, F_X12_works_113 (sI σ 124 0 0) = some (tlV (woP x1 x2 x3 x4 x5 x6 x7 x8) 8 (nW row) 0, τ) ∧ gI τ 125 = tlW (woP x1 x2 x3 x4 x5 x6 x7 x8) 8 row 2 23228 8 (nW row) (gl [x1, x2, x3, x4, x5, x6, x7, x8]) ∧ gI τ 124 1 = ftV (tlV (woP x1 x2 x3 x4 x5 x6 x7 x8) 8 (nW row) 0) ∧ Ch [125] TDf σ τ := fun e => by
    unfold F_X12_works_113
    exact bad (-1) (tlV_bad e (by decide)) (fun z => by rw [e] at z; exact absurd z.1 (by decide))
  have no0 : woP x1 x2 x3 x4 x5 x6 x7 x8 = -1 → ∃ τ, F_X12_works_46 x1 x2 x3 x4 x5 x6 x7 x8 (sI σ 124 0 0) = some (tlV (woP x1 x2 x3 x4 x5 x6 x7 x8) 8 (nW row) 0, τ) ∧ gI τ 125 = tlW (woP x1 x2 x3 x4 x5 x6 x7 x8) 8 row 2 23228 8 (nW row) (gl [x1, x2, x3, x4, x5, x6, x7, x8]) ∧ gI τ 124 1 = ftV (tlV (woP x1 x2 x3 x4 x5 x6 x7 x8) 8 (nW row) 0) ∧ Ch [125] TDf σ τ := fun e => by
    unfold F_X12_works_46 F_X12_works_47
    rw [if_pos rfl]; exact no e
  have i1 : ∀ x : Int32, F_X12_in x.toInt64 (0 : Int64) (4 : Int64) (sI σ 124 0 0) = some (if rgB 0 4 x = true then 1 else 0, sI σ 124 0 0) := fun x => F_in (a := 0) (b := 4) (by decide) (by decide)
  have i2 : ∀ x : Int32, F_X12_in x.toInt64 (0 : Int64) (1000 : Int64) (sI σ 124 0 0) = some (if rgB 0 1000 x = true then 1 else 0, sI σ 124 0 0) := fun x => F_in (a := 0) (b := 1000) (by decide) (by decide)
  have i6 : F_X12_in x6.toInt64 (1 : Int64) (10000 : Int64) (sI σ 124 0 0) = some (if rgB 1 10000 x6 = true then 1 else 0, sI σ 124 0 0) := F_in (a := 1) (b := 10000) (by decide) (by decide)
  have i7 : F_X12_in x7.toInt64 (0 : Int64) (100 : Int64) (sI σ 124 0 0) = some (if rgB 0 100 x7 = true then 1 else 0, sI σ 124 0 0) := F_in (a := 0) (b := 100) (by decide) (by decide)
  have hr0 : gI (sI σ 124 0 0) 125 = row := by rw [gI_sI_row (by decide)]; exact hr
  unfold F_X12_works
  rw [i1, bd_b (α := Int32), i1, bd_b (α := Int32), i1, bd_b (α := Int32)]
  cases c1 : rgB 0 4 x1 with
  | false => rw [if_neg (by decide)]; exact no0 (tlP_f (by rw [c1]; rfl))
  | true =>
    rw [if_pos rfl]
    cases c3 : rgB 0 4 x3 with
    | false => rw [if_neg (by decide)]; exact no0 (tlP_f (by rw [c1, c3]; rfl))
    | true =>
      rw [if_pos rfl]
      cases c5 : rgB 0 4 x5 with
      | false => rw [if_neg (by decide)]; exact no0 (tlP_f (by rw [c1, c3, c5]; rfl))
      | true =>
        rw [if_pos rfl]
        unfold F_X12_works_47
        rw [if_neg (show ¬ (1 : Int32) = 0 by decide), i2, bd_b (α := Int32), i2, bd_b (α := Int32), i6, bd_b (α := Int32), i7, bd_b (α := Int32), F_isWeek, bd_b (α := Int32), hr0, d0]
        cases c2 : rgB 0 1000 x2 with
        | false => rw [if_neg (by decide)]; exact no (tlP_f (by rw [c1, c3, c5, c2]; rfl))
        | true =>
          rw [if_pos rfl]
          cases c4 : rgB 0 1000 x4 with
          | false => rw [if_neg (by decide)]; exact no (tlP_f (by rw [c1, c3, c5, c2, c4]; rfl))
          | true =>
            rw [if_pos rfl]
            cases c6 : rgB 1 10000 x6 with
            | false => rw [if_neg (by decide)]; exact no (tlP_f (by rw [c1, c3, c5, c2, c4, c6]; rfl))
            | true =>
              rw [if_pos rfl]
              cases c7 : rgB 0 100 x7 with
              | false => rw [if_neg (by decide)]; exact no (tlP_f (by rw [c1, c3, c5, c2, c4, c6, c7]; rfl))
              | true =>
                rw [if_pos rfl]
                cases c8 : rgB 0 259 x8 with
                | false => rw [if_neg (by decide)]; exact no (tlP_f (by rw [c1, c3, c5, c2, c4, c6, c7, c8]; rfl))
                | true =>
                  have pre : woP x1 x2 x3 x4 x5 x6 x7 x8 = 0 := tlP_t (by rw [c1, c3, c5, c2, c4, c6, c7, c8]; rfl)
                  rw [if_pos rfl]
                  by_cases c : nW row = 8
                  · rw [if_pos (show nI (nW row) = (8 : Int32) by rw [c]; rfl)]
                    exact bad (-5) (tlV_full pre c) (fun z => z.2 c)
                  · have i4 : nI (23228 + nW row * 8) + (4 : Int32) = nI (23228 + nW row * 8 + 4) := by rw [fa_lit 4, nI_add]
                    rw [if_neg (show ¬ nI (nW row) = (8 : Int32) from fun z => c ((nI_eq (b := 8) (by omega) (by decide)).mp z)), tli8 (B := 23228), i4, F_addFour (by omega), bv_some, F_addFour (by omega), bv_some]
                    obtain ⟨s8, hs8⟩ : ∃ s8, s8 = sI (sI (sI (sI (sI (sI (sI (sI (sI σ 124 0 0) 125 (23228 + nW row * 8) x1) 125 (23228 + nW row * 8 + 1) x2) 125 (23228 + nW row * 8 + 2) x3) 125 (23228 + nW row * 8 + 3) x4) 125 (23228 + nW row * 8 + 4) x5) 125 (23228 + nW row * 8 + 4 + 1) x6) 125 (23228 + nW row * 8 + 4 + 2) x7) 125 (23228 + nW row * 8 + 4 + 3) x8 := ⟨_, rfl⟩
                    rw [← hs8]
                    have e2 : gI s8 125 2 = nI (nW row) := by
                      rw [hs8, gI_sI_ne (by omega), gI_sI_ne (by omega), gI_sI_ne (by omega), gI_sI_ne (by omega), gI_sI_ne (by omega), gI_sI_ne (by omega), gI_sI_ne (by omega), gI_sI_ne (by omega), hr0]; exact d0
                    have c4 : ∀ {s : AH} {k : Nat} {v : Int32}, Ch [125] TDf s (sI s 125 k v) := fun {s k v} => Ch.sI1 (Or.inr (by simp))
                    have k8 : Ch [125] TDf σ s8 := by
                      rw [hs8]
                      exact ((((((((Ch.sI1 (Or.inl (by simp [TDf]))).trans c4).trans c4).trans c4).trans c4).trans c4).trans c4).trans c4).trans c4
                    rw [e2, nI_1, gI_sI_at, nI_back, told_e, bd_some, tlV_good pre c, tlW_yes pre c]
                    refine ⟨_, rfl, ?_, gI_sI_at, (k8.trans c4).trans (Ch.sI1 (Or.inl (by simp [TDf])))⟩
                    rw [gI_sI_row (by decide), ← tl8 (by decide), hs8]
                    simp only [gI_sI_own]
                    rw [hr0]
def stP (row : Nat → Int32) (n : Nat) (wi : Nat → Nat) (x1 x2 x3 : Int32) : Int32 := if (rgB 0 259 x2 && rgB 0 259 x3) = true then (if ltB (nP row) x1 = true then (if anyW wi (cl x1) n = true then -3 else 0) else -2) else -1
theorem start_43 {n g p : Nat} {wi : Nat → Nat} {x2 x3 : Int32} {σ : AH} (hn : n ≤ 6) (hp : p < 30) (hw30 : ∀ i, i < n → wi i < 30) (hw : WsI n wi σ) : ∀ (j i : Nat), i + j = n → anyW wi p i = false →
    F_X12_start_43 (j + 1 + g) (nI p) x2 x3 (nI i) σ = if anyW wi p n = true then (bd (F_X12_told (-3 : Int32) σ) fun a b => some (a, b)) else F_X12_start_43 (1 + g) (nI p) x2 x3 (nI n) σ := by
  intro j
  induction j with
  | zero =>
    intro i hi h
    have e : i = n := by omega
    subst e
    rw [h, if_neg (show ¬ false = true by decide), show 0 + 1 + g = 1 + g by omega]
  | succ j ih =>
    intro i hi h
    rw [show j + 1 + 1 + g = (j + 1 + g) + 1 by omega]
    have ih' := ih (i + 1) (by omega)
    obtain ⟨Z, hZ⟩ : ∃ Z, Z = F_X12_start_43 (1 + g) (nI p) x2 x3 (nI n) σ := ⟨_, rfl⟩
    rw [← hZ] at ih' ⊢
    show B_X12_start_43 (F_X12_start_43 (j + 1 + g)) (nI p) x2 x3 (nI i) σ = _
    unfold B_X12_start_43
    have lt : i < n := by omega
    have b := hw30 i lt
    rw [hw.1, if_neg (nI_ge lt (by omega)), if_pos (inB_n (by omega) (by decide)), nI_clamp (by omega), hw.2 i lt]
    have e : anyW wi p (i + 1) = (anyW wi p i || decide (wi i = p)) := rfl
    rw [h, Bool.false_or] at e
    by_cases c : wi i = p
    · rw [decide_eq_true c] at e
      have up := anyW_up e j
      rw [show i + 1 + j = n by omega] at up
      rw [if_pos (by rw [c]), if_pos up]
    · rw [decide_eq_false c] at e
      rw [if_neg (fun z => c ((nI_eq (by omega) (by omega)).mp z)), nI_1]
      exact ih' e
theorem P_start {row : Nat → Int32} {n : Nat} {wi : Nat → Nat} {x1 x2 x3 : Int32} {σ : AH} (hB : BV row) (hW : WiV row n wi) (hr : gI σ 125 = row) (hw : WsI n wi σ) : ∃ τ, F_X12_start x1 x2 x3 σ = some (tlV (stP row n wi x1 x2 x3) 60 (nS row) 1, τ) ∧ gI τ 125 = tlW (stP row n wi x1 x2 x3) 60 row 5 23652 3 (nS row) (gl [x1, x2, x3]) ∧ gI τ 124 1 = ftV (tlV (stP row n wi x1 x2 x3) 60 (nS row) 1) ∧ Ch [125] TDf σ τ := by
  obtain ⟨d0, d60, _⟩ := hB.s
  have b30 := hB.p.2.1
  have bad : ∀ v : Int32, tlV (stP row n wi x1 x2 x3) 60 (nS row) 1 = v → ¬ (stP row n wi x1 x2 x3 = 0 ∧ nS row ≠ 60) → ∃ τ, (bd (F_X12_told v (sI σ 124 0 0)) fun a b => some (a, b)) = some (tlV (stP row n wi x1 x2 x3) 60 (nS row) 1, τ) ∧ gI τ 125 = tlW (stP row n wi x1 x2 x3) 60 row 5 23652 3 (nS row) (gl [x1, x2, x3]) ∧ gI τ 124 1 = ftV (tlV (stP row n wi x1 x2 x3) 60 (nS row) 1) ∧ Ch [125] TDf σ τ := fun v e n => by
    rw [e, tlW_no n, ← hr]; exact toldR
  have bad1 : ∀ v : Int32, stP row n wi x1 x2 x3 = v → v ≠ 0 → ∃ τ, (bd (F_X12_told v (sI σ 124 0 0)) fun a b => some (a, b)) = some (tlV (stP row n wi x1 x2 x3) 60 (nS row) 1, τ) ∧ gI τ 125 = tlW (stP row n wi x1 x2 x3) 60 row 5 23652 3 (nS row) (gl [x1, x2, x3]) ∧ gI τ 124 1 = ftV (tlV (stP row n wi x1 x2 x3) 60 (nS row) 1) ∧ Ch [125] TDf σ τ := fun v e hv => bad v (tlV_bad e hv) (fun z => hv (by rw [← e]; exact z.1))
  have hr0 : gI (sI σ 124 0 0) 125 = row := by rw [gI_sI_row (by decide)]; exact hr
  have hw0 : WsI n wi (sI σ 124 0 0) := ⟨by rw [gI_sI_ne (by decide)]; exact hw.1, fun i hi => by rw [gI_sI_row (by decide)]; exact hw.2 i hi⟩
  unfold F_X12_start F_X12_start_19
  rw [F_isWeek, bd_b (α := Int32), F_isWeek, bd_b (α := Int32), F_isPlot hB hr0, bd_b (α := Int32)]
  cases c2 : rgB 0 259 x2 with
  | false => rw [if_neg (by decide)]; exact bad1 (-1) (by unfold stP; rw [c2]; rfl) (by decide)
  | true =>
    rw [if_pos rfl]
    cases c3 : rgB 0 259 x3 with
    | false => rw [if_neg (by decide)]; exact bad1 (-1) (by unfold stP; rw [c2, c3]; rfl) (by decide)
    | true =>
      rw [if_pos rfl]
      by_cases c1 : ltB (nP row) x1 = true
      · rw [if_pos c1]
        obtain ⟨e1, b1⟩ := ltB_n c1 (by omega)
        obtain ⟨G, hG⟩ := BIGe n (by have := hW.1; omega)
        have lp := start_43 (x2 := x2) (x3 := x3) (g := G) (p := cl x1) hW.1 (by omega) (fun i hi => by have := hW.2.1 i hi; omega) hw0 n 0 (by omega) rfl
        rw [← e1] at lp
        have pv : stP row n wi x1 x2 x3 = if anyW wi (cl x1) n = true then -3 else 0 := by unfold stP; rw [c2, c3, if_pos (by decide), if_pos c1]
        rw [hG]
        show ∃ τ, F_X12_start_43 (n + 1 + G) x1 x2 x3 (nI 0) (sI σ 124 0 0) = _ ∧ _
        rw [lp]
        by_cases c4 : anyW wi (cl x1) n = true
        · rw [if_pos c4]
          exact bad1 (-3) (by rw [pv, if_pos c4]) (by decide)
        · have pre : stP row n wi x1 x2 x3 = 0 := by rw [pv, if_neg c4]
          rw [if_neg c4, show 1 + G = G + 1 by omega]
          show ∃ τ, B_X12_start_43 (F_X12_start_43 G) x1 x2 x3 (nI n) (sI σ 124 0 0) = _ ∧ _
          unfold B_X12_start_43
          rw [hw0.1, if_pos (Int32.le_refl _), hr0, d0]
          by_cases c : nS row = 60
          · rw [if_pos (show nI (nS row) = (60 : Int32) by rw [c]; rfl)]
            exact bad (-5) (tlV_full pre c) (fun z => z.2 c)
          · have j1 : nI (23652 + nS row * 3) + (1 : Int32) = nI (23652 + nS row * 3 + 1) := nI_1 _
            have j2 : nI (23652 + nS row * 3) + (2 : Int32) = nI (23652 + nS row * 3 + 2) := by rw [fa_lit 2, nI_add]
            rw [if_neg (show ¬ nI (nS row) = (60 : Int32) from fun z => c ((nI_eq (b := 60) (by omega) (by decide)).mp z)), tli3 (B := 23652), j1, j2, if_pos (inB_n (by omega) (by omega)), if_pos (inB_n (by omega) (by omega)), lt_e, if_pos (inB_n (by omega) (by omega)), lt_e, nI_clamp (by omega), nI_clamp (by omega), nI_clamp (by omega)]
            obtain ⟨s3, hs3⟩ : ∃ s3, s3 = sI (sI (sI (sI σ 124 0 0) 125 (23652 + nS row * 3) x1) 125 (23652 + nS row * 3 + 1) x2) 125 (23652 + nS row * 3 + 2) x3 := ⟨_, rfl⟩
            rw [← hs3]
            have e2 : gI s3 125 5 = nI (nS row) := by
              rw [hs3, gI_sI_ne (by omega), gI_sI_ne (by omega), gI_sI_ne (by omega), hr0]; exact d0
            have c4' : ∀ {s : AH} {k : Nat} {v : Int32}, Ch [125] TDf s (sI s 125 k v) := fun {s k v} => Ch.sI1 (Or.inr (by simp))
            have k3 : Ch [125] TDf σ s3 := by
              rw [hs3]
              exact (((Ch.sI1 (Or.inl (by simp [TDf]))).trans c4').trans c4').trans c4'
            rw [e2, nI_1, gI_sI_at, told_e, bd_some, tlV_good pre c, tlW_yes pre c]
            refine ⟨_, rfl, ?_, gI_sI_at, (k3.trans c4').trans (Ch.sI1 (Or.inl (by simp [TDf])))⟩
            rw [gI_sI_row (by decide), ← tl3 (by decide), hs3]
            simp only [gI_sI_own]
            rw [hr0]
      · rw [if_neg c1]
        exact bad1 (-2) (by unfold stP; rw [c2, c3, if_pos (by decide), if_neg c1]) (by decide)
def loP (row : Nat → Int32) (x1 x2 x3 x4 : Int32) : Int32 := if (rgB 1 20 x2 && (rgB 0 259 x4 && (rgB 0 259 x3 && decide (x3 ≤ x4)))) = true then (if ltB (nP row) x1 = true then 0 else -2) else -1
theorem F_in2 {x y : Int32} {σ : AH} (hy : rgB 0 259 y = true) : F_X12_in x.toInt64 (0 : Int64) y.toInt64 σ = some (if (rgB 0 259 x && decide (x ≤ y)) = true then 1 else 0, σ) := by
  have hy' := rgB_iff.mp hy
  unfold rg at hy'
  unfold F_X12_in
  have h1 : (x.toInt64 < (0 : Int64)) ↔ x.toInt < 0 := by rw [Int64.lt_iff_toInt_lt, Int32.toInt_toInt64]; exact Iff.rfl
  have h2 : (y.toInt64 < x.toInt64) ↔ y.toInt < x.toInt := by rw [Int64.lt_iff_toInt_lt, Int32.toInt_toInt64, Int32.toInt_toInt64]
  have h3 : (rgB 0 259 x && decide (x ≤ y)) = true ↔ (0 ≤ x.toInt ∧ x.toInt ≤ y.toInt) := by
    rw [Bool.and_eq_true, rgB_iff, decide_eq_true_iff, Int32.le_iff_toInt_le]
    unfold rg
    omega
  by_cases c1 : x.toInt < 0
  · rw [if_pos (h1.mpr c1), if_neg (fun z => by have := h3.mp z; omega)]
  · rw [if_neg (fun q => c1 (h1.mp q))]
    by_cases c2 : y.toInt < x.toInt
    · rw [if_pos (h2.mpr c2), if_neg (fun z => by have := h3.mp z; omega)]
    · rw [if_neg (fun q => c2 (h2.mp q)), if_pos (h3.mpr (by omega))]
theorem P_lodge {row : Nat → Int32} {x1 x2 x3 x4 : Int32} {σ : AH} (hB : BV row) (hL : LV row) (hr : gI σ 125 = row) : ∃ τ, F_X12_lodge x1 x2 x3 x4 σ = some (tlV (loP row x1 x2 x3 x4) 40 (nL row) 1, τ) ∧ gI τ 125 = tlW (loP row x1 x2 x3 x4) 40 row 9 24432 4 (nL row) (gl [x1, x2, x3, x4]) ∧ gI τ 124 1 = ftV (tlV (loP row x1 x2 x3 x4) 40 (nL row) 1) ∧ Ch [125] TDf σ τ := by
  have d0 : row 9 = nI (nL row) := hL.1.1
  have d40 : nL row ≤ 40 := by have := hL.1.2; unfold nL; omega
  have bad : ∀ v : Int32, tlV (loP row x1 x2 x3 x4) 40 (nL row) 1 = v → ¬ (loP row x1 x2 x3 x4 = 0 ∧ nL row ≠ 40) → ∃ τ, (bd (F_X12_told v (sI σ 124 0 0)) fun a b => some (a, b)) = some (tlV (loP row x1 x2 x3 x4) 40 (nL row) 1, τ) ∧ gI τ 125 = tlW (loP row x1 x2 x3 x4) 40 row 9 24432 4 (nL row) (gl [x1, x2, x3, x4]) ∧ gI τ 124 1 = ftV (tlV (loP row x1 x2 x3 x4) 40 (nL row) 1) ∧ Ch [125] TDf σ τ := fun v e n => by
    rw [e, tlW_no n, ← hr]; exact toldR
  have bad1 : ∀ v : Int32, loP row x1 x2 x3 x4 = v → v ≠ 0 → ∃ τ, (bd (F_X12_told v (sI σ 124 0 0)) fun a b => some (a, b)) = some (tlV (loP row x1 x2 x3 x4) 40 (nL row) 1, τ) ∧ gI τ 125 = tlW (loP row x1 x2 x3 x4) 40 row 9 24432 4 (nL row) (gl [x1, x2, x3, x4]) ∧ gI τ 124 1 = ftV (tlV (loP row x1 x2 x3 x4) 40 (nL row) 1) ∧ Ch [125] TDf σ τ := fun v e hv => bad v (tlV_bad e hv) (fun z => hv (by rw [← e]; exact z.1))
  have i2 : F_X12_in x2.toInt64 (1 : Int64) (20 : Int64) (sI σ 124 0 0) = some (if rgB 1 20 x2 = true then 1 else 0, sI σ 124 0 0) := F_in (a := 1) (b := 20) (by decide) (by decide)
  have hr0 : gI (sI σ 124 0 0) 125 = row := by rw [gI_sI_row (by decide)]; exact hr
  unfold F_X12_lodge F_X12_lodge_37
  rw [i2, bd_b (α := Int32), F_isWeek, bd_b (α := Int32)]
  cases c2 : rgB 1 20 x2 with
  | false => rw [if_neg (by decide)]; exact bad1 (-1) (by unfold loP; rw [c2]; rfl) (by decide)
  | true =>
    rw [if_pos rfl]
    cases c4 : rgB 0 259 x4 with
    | false => rw [if_neg (by decide)]; exact bad1 (-1) (by unfold loP; rw [c2, c4]; rfl) (by decide)
    | true =>
      rw [if_pos rfl, F_in2 c4, bd_b (α := Int32), F_isPlot hB hr0, bd_b (α := Int32), hr0, d0]
      cases c3 : (rgB 0 259 x3 && decide (x3 ≤ x4)) with
      | false => rw [if_neg (by decide)]; exact bad1 (-1) (by unfold loP; rw [c2, c4, c3]; rfl) (by decide)
      | true =>
        rw [if_pos rfl]
        by_cases c1 : ltB (nP row) x1 = true
        · have pre : loP row x1 x2 x3 x4 = 0 := by unfold loP; rw [c2, c4, c3, if_pos (by decide), if_pos c1]
          rw [if_pos c1]
          by_cases c : nL row = 40
          · rw [if_pos (show nI (nL row) = (40 : Int32) by rw [c]; rfl)]
            exact bad (-5) (tlV_full pre c) (fun z => z.2 c)
          · rw [if_neg (show ¬ nI (nL row) = (40 : Int32) from fun z => c ((nI_eq (b := 40) (by omega) (by decide)).mp z)), tli4 (B := 24432)]
            obtain ⟨s4, e1, e2, e3, e4⟩ := four_end (x1 := x1) (x2 := x2) (x3 := x3) (x4 := x4) (nb := 9) (B := 24432) hr0 d0 (by decide) (by omega)
            rw [e1, bv_some, e2, nI_1, gI_sI_at, told_e, bd_some, tlV_good pre c, tlW_yes pre c]
            refine ⟨_, rfl, by rw [gI_sI_row (by decide)]; exact e3, gI_sI_at, (((Ch.sI1 (Or.inl (by simp [TDf]))).trans (e4.mono (by simp) (by simp))).trans (Ch.sI1 (Or.inr (by simp)))).trans (Ch.sI1 (Or.inl (by simp [TDf])))⟩
        · rw [if_neg c1]
          exact bad1 (-2) (by unfold loP; rw [c2, c4, c3, if_pos (by decide), if_neg c1]) (by decide)
end
