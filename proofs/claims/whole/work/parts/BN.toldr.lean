section
/-! tellings of the reference -/
def TDf : List (Nat × Nat) := [(124, 0), (124, 1)]
theorem tlV_bad {pre v : Int32} {mst n add : Nat} (h : pre = v) (hv : v ≠ 0) : tlV pre mst n add = v := by unfold tlV; rw [h, if_neg hv]
theorem tlV_full {pre : Int32} {mst n add : Nat} (h : pre = 0) (hn : n = mst) : tlV pre mst n add = -5 := by unfold tlV; rw [if_pos h, if_pos hn]
theorem tlV_good {pre : Int32} {mst n add : Nat} (h : pre = 0) (hn : n ≠ mst) : tlV pre mst n add = nI (n + add) := by unfold tlV; rw [if_pos h, if_neg hn]
theorem tlW_no {pre : Int32} {mst nb B wd n : Nat} {row g : Nat → Int32} (h : ¬ (pre = 0 ∧ n ≠ mst)) : tlW pre mst row nb B wd n g = row := by unfold tlW; rw [if_neg h]
theorem tlW_yes {pre : Int32} {mst nb B wd n : Nat} {row g : Nat → Int32} (h : pre = 0) (hn : n ≠ mst) : tlW pre mst row nb B wd n g = tlR row nb B wd n g := by unfold tlW; rw [if_pos ⟨h, hn⟩]
theorem toldR {σ : AH} {v : Int32} : ∃ τ, (bd (F_X12_told v (sI σ 124 0 0)) fun a b => some (a, b)) = some (v, τ) ∧ gI τ 125 = gI σ 125 ∧ gI τ 124 1 = ftV v ∧ Ch [125] TDf σ τ := by
  refine ⟨sI (sI σ 124 0 0) 124 1 (ftV v), by rw [told_e, bd_some], ?_, gI_sI_at, (Ch.sI1 (Or.inl (by simp [TDf]))).trans (Ch.sI1 (Or.inl (by simp [TDf])))⟩
  rw [gI_sI_row (by decide), gI_sI_row (by decide)]
theorem four_end {σ : AH} {row : Nat → Int32} {n nb B : Nat} {x1 x2 x3 x4 : Int32} (hr : gI σ 125 = row) (hn : row nb = nI n) (hB : nb < B) (hm : B + n * 4 + 3 < 269832) : ∃ s4, F_X12_addFour (nI (B + n * 4)) x1 x2 x3 x4 σ = some s4 ∧ gI s4 125 nb = nI n ∧ gI (sI s4 125 nb (nI (n + 1))) 125 = tlR row nb B 4 n (gl [x1, x2, x3, x4]) ∧ Ch [125] [] σ s4 := by
  have c4 : ∀ {s : AH} {k : Nat} {v : Int32}, Ch [125] [] s (sI s 125 k v) := fun {s k v} => Ch.sI1 (Or.inr (by simp))
  refine ⟨_, F_addFour (by omega), ?_, ?_, ((c4.trans c4).trans c4).trans c4⟩
  · rw [gI_sI_ne (by omega), gI_sI_ne (by omega), gI_sI_ne (by omega), gI_sI_ne (by omega), hr]; exact hn
  · rw [← tl4 hB]
    simp only [gI_sI_own]
    rw [hr]
theorem tli4 {B n : Nat} : (OfNat.ofNat B : Int32) + (4 : Int32) * nI n = nI (B + n * 4) := by rw [fa_lit 4, pk_mul, fa_lit B, nI_add, Nat.mul_comm]
theorem tli8 {B n : Nat} : (OfNat.ofNat B : Int32) + (8 : Int32) * nI n = nI (B + n * 8) := by rw [fa_lit 8, pk_mul, fa_lit B, nI_add, Nat.mul_comm]
theorem tli10 {B n : Nat} : (OfNat.ofNat B : Int32) + (10 : Int32) * nI n = nI (B + n * 10) := by rw [fa_lit 10, pk_mul, fa_lit B, nI_add, Nat.mul_comm]
theorem tli3 {B n : Nat} : (OfNat.ofNat B : Int32) + (3 : Int32) * nI n = nI (B + n * 3) := by rw [fa_lit 3, pk_mul, fa_lit B, nI_add, Nat.mul_comm]
theorem nI_back {n : Nat} : nI (n + 1) - (1 : Int32) = nI n := by
  rw [m1_eq, nI_m1 (by omega), Nat.add_sub_cancel]
theorem tlP_f {b : Bool} (h : b = false) : tlP b = -1 := by rw [h]; rfl
theorem tlP_t {b : Bool} (h : b = true) : tlP b = 0 := by rw [h]; rfl
def dvP (x1 x2 x3 x4 : Int32) : Int32 := tlP (rgB 0 4 x1 && (rgB 0 259 x2 && (rgB 1 100000 x3 && rgB 0 259 x4)))
theorem P_deliver {row : Nat → Int32} {x1 x2 x3 x4 : Int32} {σ : AH} (hB : BV row) (hr : gI σ 125 = row) : ∃ τ, F_X12_deliver x1 x2 x3 x4 σ = some (tlV (dvP x1 x2 x3 x4) 120 (nD row) 1, τ) ∧ gI τ 125 = tlW (dvP x1 x2 x3 x4) 120 row 1 22748 4 (nD row) (gl [x1, x2, x3, x4]) ∧ gI τ 124 1 = ftV (tlV (dvP x1 x2 x3 x4) 120 (nD row) 1) ∧ Ch [125] TDf σ τ := by
  obtain ⟨d0, d120, _⟩ := hB.d
  have bad : ∀ v : Int32, tlV (dvP x1 x2 x3 x4) 120 (nD row) 1 = v → ¬ (dvP x1 x2 x3 x4 = 0 ∧ nD row ≠ 120) → ∃ τ, (bd (F_X12_told v (sI σ 124 0 0)) fun a b => some (a, b)) = some (tlV (dvP x1 x2 x3 x4) 120 (nD row) 1, τ) ∧ gI τ 125 = tlW (dvP x1 x2 x3 x4) 120 row 1 22748 4 (nD row) (gl [x1, x2, x3, x4]) ∧ gI τ 124 1 = ftV (tlV (dvP x1 x2 x3 x4) 120 (nD row) 1) ∧ Ch [125] TDf σ τ := fun v e n => by
    rw [e, tlW_no n, ← hr]; exact toldR
  have no : dvP x1 x2 x3 x4 = -1 → ∃ τ, F_X12_deliver_44 (sI σ 124 0 0) = some (tlV (dvP x1 x2 x3 x4) 120 (nD row) 1, τ) ∧ gI τ 125 = tlW (dvP x1 x2 x3 x4) 120 row 1 22748 4 (nD row) (gl [x1, x2, x3, x4]) ∧ gI τ 124 1 = ftV (tlV (dvP x1 x2 x3 x4) 120 (nD row) 1) ∧ Ch [125] TDf σ τ := fun e => by
    unfold F_X12_deliver_44
    exact bad (-1) (tlV_bad e (by decide)) (fun z => by rw [e] at z; exact absurd z.1 (by decide))
  have i1 : F_X12_in x1.toInt64 (0 : Int64) (4 : Int64) (sI σ 124 0 0) = some (if rgB 0 4 x1 = true then 1 else 0, sI σ 124 0 0) := F_in (a := 0) (b := 4) (by decide) (by decide)
  have i3 : F_X12_in x3.toInt64 (1 : Int64) (100000 : Int64) (sI σ 124 0 0) = some (if rgB 1 100000 x3 = true then 1 else 0, sI σ 124 0 0) := F_in (a := 1) (b := 100000) (by decide) (by decide)
  have hr0 : gI (sI σ 124 0 0) 125 = row := by rw [gI_sI_row (by decide)]; exact hr
  unfold F_X12_deliver
  rw [i1, bd_b (α := Int32), F_isWeek, bd_b (α := Int32), i3, bd_b (α := Int32), F_isWeek, bd_b (α := Int32), hr0, d0]
  cases c1 : rgB 0 4 x1 with
  | false => rw [if_neg (by decide)]; exact no (tlP_f (by rw [c1]; rfl))
  | true =>
    rw [if_pos rfl]
    cases c2 : rgB 0 259 x2 with
    | false => rw [if_neg (by decide)]; exact no (tlP_f (by rw [c1, c2]; rfl))
    | true =>
      rw [if_pos rfl]
      cases c3 : rgB 1 100000 x3 with
      | false => rw [if_neg (by decide)]; exact no (tlP_f (by rw [c1, c2, c3]; rfl))
      | true =>
        rw [if_pos rfl]
        cases c4 : rgB 0 259 x4 with
        | false => rw [if_neg (by decide)]; exact no (tlP_f (by rw [c1, c2, c3, c4]; rfl))
        | true =>
          have pre : dvP x1 x2 x3 x4 = 0 := tlP_t (by rw [c1, c2, c3, c4]; rfl)
          rw [if_pos rfl]
          by_cases c : nD row = 120
          · rw [if_pos (show nI (nD row) = (120 : Int32) by rw [c]; rfl)]
            exact bad (-5) (tlV_full pre c) (fun z => z.2 c)
          · rw [if_neg (show ¬ nI (nD row) = (120 : Int32) from fun z => c ((nI_eq (b := 120) (by omega) (by decide)).mp z)), tli4 (B := 22748)]
            obtain ⟨s4, e1, e2, e3, e4⟩ := four_end (x1 := x1) (x2 := x2) (x3 := x3) (x4 := x4) (nb := 1) (B := 22748) hr0 d0 (by decide) (by omega)
            rw [e1, bv_some, e2, nI_1, gI_sI_at, told_e, bd_some, tlV_good pre c, tlW_yes pre c]
            refine ⟨_, rfl, by rw [gI_sI_row (by decide)]; exact e3, gI_sI_at, (((Ch.sI1 (Or.inl (by simp [TDf]))).trans (e4.mono (by simp) (by simp))).trans (Ch.sI1 (Or.inr (by simp)))).trans (Ch.sI1 (Or.inl (by simp [TDf])))⟩
def gaP (x1 x2 x3 x4 : Int32) : Int32 := tlP (rgB 0 5 x1 && (rgB 0 50 x2 && (rgB 0 259 x3 && rgB 0 259 x4)))
theorem P_gangs {row : Nat → Int32} {x1 x2 x3 x4 : Int32} {σ : AH} (hB : BV row) (hr : gI σ 125 = row) : ∃ τ, F_X12_gangs x1 x2 x3 x4 σ = some (tlV (gaP x1 x2 x3 x4) 60 (nG row) 1, τ) ∧ gI τ 125 = tlW (gaP x1 x2 x3 x4) 60 row 3 23292 4 (nG row) (gl [x1, x2, x3, x4]) ∧ gI τ 124 1 = ftV (tlV (gaP x1 x2 x3 x4) 60 (nG row) 1) ∧ Ch [125] TDf σ τ := by
  obtain ⟨d0, d60, _⟩ := hB.g
  have bad : ∀ v : Int32, tlV (gaP x1 x2 x3 x4) 60 (nG row) 1 = v → ¬ (gaP x1 x2 x3 x4 = 0 ∧ nG row ≠ 60) → ∃ τ, (bd (F_X12_told v (sI σ 124 0 0)) fun a b => some (a, b)) = some (tlV (gaP x1 x2 x3 x4) 60 (nG row) 1, τ) ∧ gI τ 125 = tlW (gaP x1 x2 x3 x4) 60 row 3 23292 4 (nG row) (gl [x1, x2, x3, x4]) ∧ gI τ 124 1 = ftV (tlV (gaP x1 x2 x3 x4) 60 (nG row) 1) ∧ Ch [125] TDf σ τ := fun v e n => by
    rw [e, tlW_no n, ← hr]; exact toldR
  have no : gaP x1 x2 x3 x4 = -1 → ∃ τ, F_X12_gangs_39 (sI σ 124 0 0) = some (tlV (gaP x1 x2 x3 x4) 60 (nG row) 1, τ) ∧ gI τ 125 = tlW (gaP x1 x2 x3 x4) 60 row 3 23292 4 (nG row) (gl [x1, x2, x3, x4]) ∧ gI τ 124 1 = ftV (tlV (gaP x1 x2 x3 x4) 60 (nG row) 1) ∧ Ch [125] TDf σ τ := fun e => by
    unfold F_X12_gangs_39
    exact bad (-1) (tlV_bad e (by decide)) (fun z => by rw [e] at z; exact absurd z.1 (by decide))
  have i2 : F_X12_in x2.toInt64 (0 : Int64) (50 : Int64) (sI σ 124 0 0) = some (if rgB 0 50 x2 = true then 1 else 0, sI σ 124 0 0) := F_in (a := 0) (b := 50) (by decide) (by decide)
  have hr0 : gI (sI σ 124 0 0) 125 = row := by rw [gI_sI_row (by decide)]; exact hr
  unfold F_X12_gangs
  rw [F_isCouncil, bd_b (α := Int32), i2, bd_b (α := Int32), F_isWeek, bd_b (α := Int32), F_isWeek, bd_b (α := Int32), hr0, d0]
  cases c1 : rgB 0 5 x1 with
  | false => rw [if_neg (by decide)]; exact no (tlP_f (by rw [c1]; rfl))
  | true =>
    rw [if_pos rfl]
    cases c2 : rgB 0 50 x2 with
    | false => rw [if_neg (by decide)]; exact no (tlP_f (by rw [c1, c2]; rfl))
    | true =>
      rw [if_pos rfl]
      cases c3 : rgB 0 259 x3 with
      | false => rw [if_neg (by decide)]; exact no (tlP_f (by rw [c1, c2, c3]; rfl))
      | true =>
        rw [if_pos rfl]
        cases c4 : rgB 0 259 x4 with
        | false => rw [if_neg (by decide)]; exact no (tlP_f (by rw [c1, c2, c3, c4]; rfl))
        | true =>
          have pre : gaP x1 x2 x3 x4 = 0 := tlP_t (by rw [c1, c2, c3, c4]; rfl)
          rw [if_pos rfl]
          by_cases c : nG row = 60
          · rw [if_pos (show nI (nG row) = (60 : Int32) by rw [c]; rfl)]
            exact bad (-5) (tlV_full pre c) (fun z => z.2 c)
          · rw [if_neg (show ¬ nI (nG row) = (60 : Int32) from fun z => c ((nI_eq (b := 60) (by omega) (by decide)).mp z)), tli4 (B := 23292)]
            obtain ⟨s4, e1, e2, e3, e4⟩ := four_end (x1 := x1) (x2 := x2) (x3 := x3) (x4 := x4) (nb := 3) (B := 23292) hr0 d0 (by decide) (by omega)
            rw [e1, bv_some, e2, nI_1, gI_sI_at, told_e, bd_some, tlV_good pre c, tlW_yes pre c]
            refine ⟨_, rfl, by rw [gI_sI_row (by decide)]; exact e3, gI_sI_at, (((Ch.sI1 (Or.inl (by simp [TDf]))).trans (e4.mono (by simp) (by simp))).trans (Ch.sI1 (Or.inr (by simp)))).trans (Ch.sI1 (Or.inl (by simp [TDf])))⟩
def ptP (x1 x2 x3 x4 : Int32) : Int32 := tlP (rgB 0 5 x1 && (rgB 0 2 x2 && (rgB 1 6 x3 && rgB 0 259 x4)))
theorem P_plot {row : Nat → Int32} {x1 x2 x3 x4 : Int32} {σ : AH} (hB : BV row) (hr : gI σ 125 = row) : ∃ τ, F_X12_plot x1 x2 x3 x4 σ = some (tlV (ptP x1 x2 x3 x4) 30 (nP row) 0, τ) ∧ gI τ 125 = tlW (ptP x1 x2 x3 x4) 30 row 4 23532 4 (nP row) (gl [x1, x2, x3, x4]) ∧ gI τ 124 1 = ftV (tlV (ptP x1 x2 x3 x4) 30 (nP row) 0) ∧ Ch [125] TDf σ τ := by
  obtain ⟨d0, d30, _⟩ := hB.p
  have bad : ∀ v : Int32, tlV (ptP x1 x2 x3 x4) 30 (nP row) 0 = v → ¬ (ptP x1 x2 x3 x4 = 0 ∧ nP row ≠ 30) → ∃ τ, (bd (F_X12_told v (sI σ 124 0 0)) fun a b => some (a, b)) = some (tlV (ptP x1 x2 x3 x4) 30 (nP row) 0, τ) ∧ gI τ 125 = tlW (ptP x1 x2 x3 x4) 30 row 4 23532 4 (nP row) (gl [x1, x2, x3, x4]) ∧ gI τ 124 1 = ftV (tlV (ptP x1 x2 x3 x4) 30 (nP row) 0) ∧ Ch [125] TDf σ τ := fun v e n => by
    rw [e, tlW_no n, ← hr]; exact toldR
  have no : ptP x1 x2 x3 x4 = -1 → ∃ τ, F_X12_plot_44 (sI σ 124 0 0) = some (tlV (ptP x1 x2 x3 x4) 30 (nP row) 0, τ) ∧ gI τ 125 = tlW (ptP x1 x2 x3 x4) 30 row 4 23532 4 (nP row) (gl [x1, x2, x3, x4]) ∧ gI τ 124 1 = ftV (tlV (ptP x1 x2 x3 x4) 30 (nP row) 0) ∧ Ch [125] TDf σ τ := fun e => by
    unfold F_X12_plot_44
    exact bad (-1) (tlV_bad e (by decide)) (fun z => by rw [e] at z; exact absurd z.1 (by decide))
  have i2 : F_X12_in x2.toInt64 (0 : Int64) (2 : Int64) (sI σ 124 0 0) = some (if rgB 0 2 x2 = true then 1 else 0, sI σ 124 0 0) := F_in (a := 0) (b := 2) (by decide) (by decide)
  have i3 : F_X12_in x3.toInt64 (1 : Int64) (6 : Int64) (sI σ 124 0 0) = some (if rgB 1 6 x3 = true then 1 else 0, sI σ 124 0 0) := F_in (a := 1) (b := 6) (by decide) (by decide)
  have hr0 : gI (sI σ 124 0 0) 125 = row := by rw [gI_sI_row (by decide)]; exact hr
  unfold F_X12_plot
  rw [F_isCouncil, bd_b (α := Int32), i2, bd_b (α := Int32), i3, bd_b (α := Int32), F_isWeek, bd_b (α := Int32), hr0, d0]
  cases c1 : rgB 0 5 x1 with
  | false => rw [if_neg (by decide)]; exact no (tlP_f (by rw [c1]; rfl))
  | true =>
    rw [if_pos rfl]
    cases c2 : rgB 0 2 x2 with
    | false => rw [if_neg (by decide)]; exact no (tlP_f (by rw [c1, c2]; rfl))
    | true =>
      rw [if_pos rfl]
      cases c3 : rgB 1 6 x3 with
      | false => rw [if_neg (by decide)]; exact no (tlP_f (by rw [c1, c2, c3]; rfl))
      | true =>
        rw [if_pos rfl]
        cases c4 : rgB 0 259 x4 with
        | false => rw [if_neg (by decide)]; exact no (tlP_f (by rw [c1, c2, c3, c4]; rfl))
        | true =>
          have pre : ptP x1 x2 x3 x4 = 0 := tlP_t (by rw [c1, c2, c3, c4]; rfl)
          rw [if_pos rfl]
          by_cases c : nP row = 30
          · rw [if_pos (show nI (nP row) = (30 : Int32) by rw [c]; rfl)]
            exact bad (-5) (tlV_full pre c) (fun z => z.2 c)
          · rw [if_neg (show ¬ nI (nP row) = (30 : Int32) from fun z => c ((nI_eq (b := 30) (by omega) (by decide)).mp z)), tli4 (B := 23532)]
            obtain ⟨s4, e1, e2, e3, e4⟩ := four_end (x1 := x1) (x2 := x2) (x3 := x3) (x4 := x4) (nb := 4) (B := 23532) hr0 d0 (by decide) (by omega)
            rw [e1, bv_some, e2, nI_1, gI_sI_at, nI_back, told_e, bd_some, tlV_good pre c, tlW_yes pre c]
            refine ⟨_, rfl, by rw [gI_sI_row (by decide)]; exact e3, gI_sI_at, (((Ch.sI1 (Or.inl (by simp [TDf]))).trans (e4.mono (by simp) (by simp))).trans (Ch.sI1 (Or.inr (by simp)))).trans (Ch.sI1 (Or.inl (by simp [TDf])))⟩
end
