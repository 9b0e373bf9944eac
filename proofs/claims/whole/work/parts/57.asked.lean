section
/-! what the reference answers of acts and building -/
def ltB (n : Nat) (x : Int32) : Bool := decide (0 ≤ x.toInt ∧ x.toInt < (n : Int))
theorem ltB_n {n : Nat} {x : Int32} (h : ltB n x = true) (hn : n < 2 ^ 31) : x = nI (cl x) ∧ cl x < n := by
  have h2 := of_decide_eq_true h
  exact isN.of h2.1 h2.2
theorem rg0_n {b : Nat} {x : Int32} (h : rgB 0 (b : Int) x = true) (hb : b < 2 ^ 30) : x = nI (cl x) ∧ cl x < b + 1 := by
  obtain ⟨h1, h2⟩ := rgB_iff.mp h
  exact isN.of h1 (by omega)
theorem F_inN {x : Int32} {n : Nat} (hn : n < 2 ^ 31) {σ : AH} : F_X12_in x.toInt64 (0 : Int64) ((nI n).toInt64 - (1 : Int64)) σ = some (if ltB n x = true then 1 else 0, σ) := by
  unfold F_X12_in ltB
  have e0 : (0 : Int64).toInt = 0 := by decide
  have e1 : ((nI n).toInt64 - (1 : Int64)).toInt = (n : Int) - 1 := by
    rw [nI_l hn]
    rcases Nat.eq_zero_or_pos n with z | z
    · subst z; decide
    · have : lN n - 1 = lN (n - 1) := lN_sub (b := 1) z
      rw [this, lN_toInt (by omega)]; omega
  have h1 : (x.toInt64 < (0 : Int64)) ↔ x.toInt < 0 := by rw [Int64.lt_iff_toInt_lt, e0, Int32.toInt_toInt64]
  have h2 : ((nI n).toInt64 - (1 : Int64) < x.toInt64) ↔ (n : Int) - 1 < x.toInt := by rw [Int64.lt_iff_toInt_lt, e1, Int32.toInt_toInt64]
  by_cases c1 : x.toInt < 0
  · rw [if_pos (h1.mpr c1), if_neg]
    rw [decide_eq_true_iff]; omega
  · rw [if_neg (fun q => c1 (h1.mp q))]
    by_cases c2 : (n : Int) - 1 < x.toInt
    · rw [if_pos (h2.mpr c2), if_neg]
      rw [decide_eq_true_iff]; omega
    · rw [if_neg (fun q => c2 (h2.mp q)), if_pos]
      rw [decide_eq_true_iff]; omega
theorem in04 {x : Int32} {σ : AH} : F_X12_in x.toInt64 (0 : Int64) (4 : Int64) σ = some (if rgB 0 4 x = true then 1 else 0, σ) := F_in (a := 0) (b := 4) (by decide) (by decide)
theorem in05 {x : Int32} {σ : AH} : F_X12_in x.toInt64 (0 : Int64) (5 : Int64) σ = some (if rgB 0 5 x = true then 1 else 0, σ) := F_in (a := 0) (b := 5) (by decide) (by decide)
theorem in02 {x : Int32} {σ : AH} : F_X12_in x.toInt64 (0 : Int64) (2 : Int64) σ = some (if rgB 0 2 x = true then 1 else 0, σ) := F_in (a := 0) (b := 2) (by decide) (by decide)
theorem in06 {x : Int32} {σ : AH} : F_X12_in x.toInt64 (0 : Int64) (6 : Int64) σ = some (if rgB 0 6 x = true then 1 else 0, σ) := F_in (a := 0) (b := 6) (by decide) (by decide)
theorem in16 {x : Int32} {σ : AH} : F_X12_in x.toInt64 (1 : Int64) (6 : Int64) σ = some (if rgB 1 6 x = true then 1 else 0, σ) := F_in (a := 1) (b := 6) (by decide) (by decide)
theorem in026 {x : Int32} {σ : AH} : F_X12_in x.toInt64 (0 : Int64) (26 : Int64) σ = some (if rgB 0 26 x = true then 1 else 0, σ) := F_in (a := 0) (b := 26) (by decide) (by decide)
theorem in126 {x : Int32} {σ : AH} : F_X12_in x.toInt64 (1 : Int64) (26 : Int64) σ = some (if rgB 1 26 x = true then 1 else 0, σ) := F_in (a := 1) (b := 26) (by decide) (by decide)
theorem bd_b {α β : Type} {c : Prop} [Decidable c] {s : AH} {f g : AH → Option β} : bd (some (if c then (1 : Int32) else 0, s)) (fun v σ2 => if v = 0 then f σ2 else g σ2) = if c then g s else f s := by
  rw [bd_some]
  by_cases h : c
  · rw [if_pos h, if_pos h, if_neg (by decide)]
  · rw [if_neg h, if_neg h, if_pos rfl]
theorem F_isPlot {row : Nat → Int32} {x : Int32} {σ : AH} (hB : BV row) (hr : gI σ 125 = row) : F_X12_isPlot x σ = some (if ltB (nP row) x = true then 1 else 0, σ) := by
  unfold F_X12_isPlot
  have := hB.p.2.1
  rw [hr, hB.p.1, F_inN (by omega), bd_some, if_pos b01']
/-- what a question may write -/
def PQc : List Nat := [134, 135, 136, 137, 138, 139, 140, 141, 142, 143, 144, 145, 146, 147, 148, 149, 150, 151]
def PQf : List (Nat × Nat) := [(124, 0), (124, 23), (124, 24), (124, 29), (124, 30), (124, 31), (124, 32), (124, 45)]
def stockV (row : Nat → Int32) (x1 x2 x3 x4 : Int32) : Int32 := if rgB 0 4 x1 = true then (if rgB 0 259 x2 = true then (if rgB 0 259 x3 = true then (if rgB 0 26 x4 = true then runR row x3 x4 (cl x2 + 1) 142 (cl x1) else -1) else -1) else -1) else -1
theorem P_stock {row : Nat → Int32} {x1 x2 x3 x4 : Int32} {σ : AH} (hV : AV row) (hB : BV row) (hr : gI σ 125 = row) : ∃ τ, F_X12_stock x1 x2 x3 x4 σ = some (stockV row x1 x2 x3 x4, τ) ∧ Ch PQc PQf σ τ := by
  have c0 : Ch PQc PQf σ (sI σ 124 0 0) := Ch.sI1 (Or.inl (by simp [PQf]))
  have no : ∀ v : Int32, v = -1 → ∃ τ, some ((-1 : Int32), sI σ 124 0 0) = some (v, τ) ∧ Ch PQc PQf σ τ := fun v hv => ⟨_, by rw [hv], c0⟩
  unfold F_X12_stock stockV
  simp only [in04, F_isWeek, in026, bd_b (α := Int32)]
  by_cases c1 : rgB 0 4 x1 = true
  · rw [if_pos c1, if_pos c1]
    by_cases c2 : rgB 0 259 x2 = true
    · rw [if_pos c2, if_pos c2]
      by_cases c3 : rgB 0 259 x3 = true
      · rw [if_pos c3, if_pos c3]
        by_cases c4 : rgB 0 26 x4 = true
        · rw [if_pos c4, if_pos c4]
          obtain ⟨e1, b1⟩ := rg0_n (b := 4) c1 (by decide)
          obtain ⟨e2, b2'⟩ := rg0_n (b := 259) c2 (by decide)
          obtain ⟨τ1, k1, k2, k3, k4⟩ := F_knowBy (k := x3) (σ := sI σ 124 0 0) (row := row) hr
          rw [k1, bv_some]
          obtain ⟨τ2, τ3, r1, r2, r3, r4, r5, r6, r7, r8, r9⟩ := F_runs (lt_ := x4) (n := cl x2 + 1) hV hB (by omega) k2
          rw [r1, bv_some]
          have em : nI (cl x2 + 1) + (-1) = x2 := by rw [pk_m1]; exact e2.symm
          rw [em] at r2
          rw [r2, bv_some]
          have q : inB x1 5 = true := by rw [e1]; exact inB_n (by omega) (by omega)
          rw [if_pos q, r5.at (c := 142) (by decide) (by decide) (by decide) (by show x1.toNatClampNeg < 5; exact b1)]
          exact ⟨τ3, rfl, (c0.trans (k4.mono (by simp [PQc]) (by simp [PQf]))).trans (r9.mono (by simp [RNc, PQc]) (by simp [RNf, PQf]))⟩
        · rw [if_neg c4, if_neg c4]; exact no _ rfl
      · rw [if_neg c3, if_neg c3]; exact no _ rfl
    · rw [if_neg c2, if_neg c2]; exact no _ rfl
  · rw [if_neg c1, if_neg c1]; exact no _ rfl
theorem F_runAll {row : Nat → Int32} {k lt_ : Int32} {σ : AH} (hV : AV row) (hB : BV row) (hr : gI σ 125 = row) : ∃ τ, F_X12_runAll k lt_ σ = some τ ∧ KI row k τ ∧ RV_ (runR row k lt_ 260) ∧ ROx τ (runR row k lt_ 260) ∧ (∀ q, q < 30 → gI τ 140 q = oI (sw row k q)) ∧ (∀ q, q < nP row → gI τ 141 q = b2 (lic row k (sw row k) q)) ∧ Ch RNc RNf σ τ := by
  unfold F_X12_runAll
  obtain ⟨τ1, k1, k2, k3, k4⟩ := F_knowBy (k := k) hr
  obtain ⟨τ2, τ3, r1, r2, r3, r4, r5, r6, r7, r8, r9⟩ := F_runs (lt_ := lt_) (n := 260) hV hB (by omega) k2
  have em : nI 260 + (-1) = (259 : Int32) := by decide
  rw [em] at r2
  rw [k1, bv_some, r1, bv_some, r2, bv_some]
  exact ⟨τ3, rfl, r3, r4, r5, r6, r7, (k4.mono (by simp [RNc]) (by simp [RNf])).trans r9⟩
def builtV (row : Nat → Int32) (x1 x2 x3 x4 : Int32) : Int32 := if ltB (nP row) x1 = true then (if rgB 0 259 x2 = true then (if rgB 0 26 x3 = true then (if rgB 0 6 x4 = true then (if (3 : Int32) ≤ x4 then (if (6 : Int32) ≤ x4 then b2 (lic row x2 (sw row x2) (cl x1)) else runR row x2 x3 260 148 (3 * cl x1 + cl x4 - 3)) else runR row x2 x3 260 149 (3 * cl x1 + cl x4)) else -1) else -1) else -1) else -1
theorem P_built {row : Nat → Int32} {x1 x2 x3 x4 : Int32} {σ : AH} (hV : AV row) (hB : BV row) (hr : gI σ 125 = row) : ∃ τ, F_X12_built x1 x2 x3 x4 σ = some (builtV row x1 x2 x3 x4, τ) ∧ Ch PQc PQf σ τ := by
  have c0 : Ch PQc PQf σ (sI σ 124 0 0) := Ch.sI1 (Or.inl (by simp [PQf]))
  have no : ∀ v : Int32, v = -1 → ∃ τ, some ((-1 : Int32), sI σ 124 0 0) = some (v, τ) ∧ Ch PQc PQf σ τ := fun v hv => ⟨_, by rw [hv], c0⟩
  have b30 := hB.p.2.1
  unfold F_X12_built builtV
  have ip : F_X12_isPlot x1 (sI σ 124 0 0) = some (if ltB (nP row) x1 = true then 1 else 0, sI σ 124 0 0) := F_isPlot hB hr
  simp only [ip, F_isWeek, in026, in06, bd_b (α := Int32)]
  by_cases c1 : ltB (nP row) x1 = true
  · rw [if_pos c1, if_pos c1]
    by_cases c2 : rgB 0 259 x2 = true
    · rw [if_pos c2, if_pos c2]
      by_cases c3 : rgB 0 26 x3 = true
      · rw [if_pos c3, if_pos c3]
        by_cases c4 : rgB 0 6 x4 = true
        · rw [if_pos c4, if_pos c4]
          obtain ⟨e1, b1⟩ := ltB_n c1 (by omega)
          obtain ⟨e4, b4⟩ := rg0_n (b := 6) c4 (by decide)
          obtain ⟨τ, t1, t2, t3, t4, t5, t6, t7⟩ := F_runAll (k := x2) (lt_ := x3) (σ := sI σ 124 0 0) hV hB hr
          have cF : Ch PQc PQf σ τ := c0.trans (t7.mono (by simp [RNc, PQc]) (by simp [RNf, PQf]))
          rw [t1, bv_some]
          by_cases d3 : (3 : Int32) ≤ x4
          · rw [if_pos d3, if_pos d3]
            by_cases d6 : (6 : Int32) ≤ x4
            · rw [if_pos d6, if_pos d6]
              have q : inB x1 30 = true := by rw [e1]; exact inB_n (by omega) (by omega)
              have := t6 (cl x1) b1
              have e : gI τ 141 x1.toNatClampNeg = b2 (lic row x2 (sw row x2) (cl x1)) := this
              rw [if_pos q, e]
              cases lic row x2 (sw row x2) (cl x1) with
              | false => exact ⟨τ, rfl, cF⟩
              | true => exact ⟨τ, rfl, cF⟩
            · rw [if_neg d6, if_neg d6]
              have h3 : 3 ≤ cl x4 := by
                rcases Nat.lt_or_ge (cl x4) 3 with z | z
                · rw [e4] at d3; exact absurd d3 (nI_ge (b := 3) z (by decide))
                · exact z
              have h6 : cl x4 < 6 := by
                rcases Nat.lt_or_ge (cl x4) 6 with z | z
                · exact z
                · rw [e4] at d6; exact absurd (nI_le z (by omega)) d6
              have i1 : (((3 : Int32) * x1) + x4) - (3 : Int32) = nI (3 * cl x1 + cl x4 - 3) := by
                have : ((3 : Int32) * nI (cl x1)) + nI (cl x4) = nI (3 * cl x1 + cl x4) := by simp only [fa_lit, nI_add, pk_mul]
                rw [← e1, ← e4] at this
                rw [this]; exact pk_sub (b := 3) (by omega)
              rw [i1, if_pos (inB_n (by omega) (by omega)), nI_clamp (by omega), t4.at (c := 148) (by decide) (by decide) (by decide) (by show 3 * cl x1 + cl x4 - 3 < 90; omega)]
              exact ⟨τ, rfl, cF⟩
          · rw [if_neg d3, if_neg d3]
            have h3 : cl x4 < 3 := by
              rcases Nat.lt_or_ge (cl x4) 3 with z | z
              · exact z
              · rw [e4] at d3; exact absurd (nI_le z (by omega)) d3
            have i1 : ((3 : Int32) * x1) + x4 = nI (3 * cl x1 + cl x4) := by
              have : ((3 : Int32) * nI (cl x1)) + nI (cl x4) = nI (3 * cl x1 + cl x4) := by simp only [fa_lit, nI_add, pk_mul]
              rw [← e1, ← e4] at this
              exact this
            rw [i1, if_pos (inB_n (by omega) (by omega)), nI_clamp (by omega), t4.at (c := 149) (by decide) (by decide) (by decide) (by show 3 * cl x1 + cl x4 < 90; omega)]
            exact ⟨τ, rfl, cF⟩
        · rw [if_neg c4, if_neg c4]; exact no _ rfl
      · rw [if_neg c3, if_neg c3]; exact no _ rfl
    · rw [if_neg c2, if_neg c2]; exact no _ rfl
  · rw [if_neg c1, if_neg c1]; exact no _ rfl
def needP (row : Nat → Int32) (x1 x2 x3 x4 x5 x6 : Int32) : Int32 := if rgB 0 2 x1 = true then (if rgB 0 2 x2 = true then (if rgB 0 5 x3 = true then (if rgB 1 6 x4 = true then (if rgB 0 259 x5 = true then (if rgB 0 259 x6 = true then needV row x6 (cl x1) (cl x2) (cl x3) (cl x4) (cl x5) else -1) else -1) else -1) else -1) else -1) else -1
theorem P_need {row : Nat → Int32} {x1 x2 x3 x4 x5 x6 : Int32} {σ : AH} (hV : AV row) (hr : gI σ 125 = row) : ∃ τ, F_X12_need x1 x2 x3 x4 x5 x6 σ = some (needP row x1 x2 x3 x4 x5 x6, τ) ∧ Ch PQc PQf σ τ := by
  have c0 : Ch PQc PQf σ (sI σ 124 0 0) := Ch.sI1 (Or.inl (by simp [PQf]))
  have no : ∀ v : Int32, v = -1 → ∃ τ, some ((-1 : Int32), sI σ 124 0 0) = some (v, τ) ∧ Ch PQc PQf σ τ := fun v hv => ⟨_, by rw [hv], c0⟩
  unfold F_X12_need needP
  simp only [in02, in05, in16, F_isWeek, bd_b (α := Int32)]
  by_cases c1 : rgB 0 2 x1 = true
  · rw [if_pos c1, if_pos c1]
    by_cases c2 : rgB 0 2 x2 = true
    · rw [if_pos c2, if_pos c2]
      by_cases c3 : rgB 0 5 x3 = true
      · rw [if_pos c3, if_pos c3]
        by_cases c4 : rgB 1 6 x4 = true
        · rw [if_pos c4, if_pos c4]
          by_cases c5 : rgB 0 259 x5 = true
          · rw [if_pos c5, if_pos c5]
            by_cases c6 : rgB 0 259 x6 = true
            · rw [if_pos c6, if_pos c6]
              obtain ⟨e1, b1⟩ := rg0_n (b := 2) c1 (by decide)
              obtain ⟨e2, b2'⟩ := rg0_n (b := 2) c2 (by decide)
              obtain ⟨e3, b3⟩ := rg0_n (b := 5) c3 (by decide)
              obtain ⟨e5, b5⟩ := rg0_n (b := 259) c5 (by decide)
              have h4 := rgB_iff.mp c4
              have e4 : isN x4 7 := isN.of (by have := h4.1; omega) (by have := h4.2; omega)
              have b4 : 1 ≤ cl x4 := by have := h4.1; unfold cl; rw [cl_toInt]; omega
              obtain ⟨τ1, k1, k2, k3, k4⟩ := F_knowBy (k := x6) (σ := sI σ 124 0 0) (row := row) hr
              rw [k1, bv_some]
              have b4' := e4.2
              obtain ⟨τ, t1, t2, t3⟩ := F_needOf (kn := cl x1) (sg := cl x2) (mt := cl x3) (rm := cl x4) (w := cl x5) hV k2 (by omega) (by omega) (by omega) b4 (by omega) (by omega)
              rw [← e1, ← e2, ← e3, ← e4.1, ← e5] at t1
              rw [t1, bd_some]
              exact ⟨τ, rfl, (c0.trans (k4.mono (by simp [PQc]) (by simp [PQf]))).trans (t3.mono (by simp [NDc, PQc]) (by simp [NDf, PQf]))⟩
            · rw [if_neg c6, if_neg c6]; exact no _ rfl
          · rw [if_neg c5, if_neg c5]; exact no _ rfl
        · rw [if_neg c4, if_neg c4]; exact no _ rfl
      · rw [if_neg c3, if_neg c3]; exact no _ rfl
    · rw [if_neg c2, if_neg c2]; exact no _ rfl
  · rw [if_neg c1, if_neg c1]; exact no _ rfl
def cntH (x1 : Int32) : Int32 := if (3 : Int32) ≤ x1 then (if x1 = 3 then 6 else if x1 = 4 then 7 else 8) else 4
def cntK (x1 : Int32) : Int32 := if (3 : Int32) ≤ x1 then 0 else x1
def cntV (row : Nat → Int32) (x1 x2 x3 : Int32) : Int32 := if (fd row x3 x2 (stO 0 x2) (cntH x1) (cntK x1) 0 0).1 = true then aln (fd row x3 x2 (stO 0 x2) (cntH x1) (cntK x1) 0 0).2.1 else -1
def countsV (row : Nat → Int32) (x1 x2 x3 : Int32) : Int32 := if rgB 0 5 x1 = true then (if rgB 0 259 x2 = true then (if rgB 0 259 x3 = true then cntV row x1 x2 x3 else -1) else -1) else -1
theorem P_counts {row : Nat → Int32} {x1 x2 x3 : Int32} {σ : AH} (hV : AV row) (hr : gI σ 125 = row) : ∃ τ, F_X12_counts x1 x2 x3 σ = some (countsV row x1 x2 x3, τ) ∧ Ch PQc PQf σ τ := by
  have c0 : Ch PQc PQf σ (sI σ 124 0 0) := Ch.sI1 (Or.inl (by simp [PQf]))
  have no : ∀ v : Int32, v = -1 → ∃ τ, some ((-1 : Int32), sI σ 124 0 0) = some (v, τ) ∧ Ch PQc PQf σ τ := fun v hv => ⟨_, by rw [hv], c0⟩
  unfold F_X12_counts countsV
  simp only [in05, F_isWeek, bd_b (α := Int32)]
  by_cases c1 : rgB 0 5 x1 = true
  · rw [if_pos c1, if_pos c1]
    by_cases c2 : rgB 0 259 x2 = true
    · rw [if_pos c2, if_pos c2]
      by_cases c3 : rgB 0 259 x3 = true
      · rw [if_pos c3, if_pos c3]
        obtain ⟨e2, b2'⟩ := rg0_n (b := 259) c2 (by decide)
        obtain ⟨τ1, k1, k2, k3, k4⟩ := F_knowBy (k := x3) (σ := sI σ 124 0 0) (row := row) hr
        obtain ⟨σ1, s1, s2, s3⟩ := F_setOnly' (r := 0) (w := x2) (σ := τ1)
        have K1 : KI row x3 σ1 := k2.ch s3 (k2.2.2.1.ch s3 (by simp) (by simp) (by simp) (by simp)) (by simp) (by simp) (by simp) (by simp) (by simp)
        rw [k1, bv_some, s1, bv_some]
        obtain ⟨τ, t1, t2, t3, t4, t5⟩ := F_find8 (h := cntH x1) (kd_ := cntK x1) (sg := 0) (mt := 0) (w := x2) hV (by rw [e2]; exact nI_neg1 (by omega)) K1.1 s2 K1.2.1 K1.2.2.1
        have cF : Ch PQc PQf σ τ := ((c0.trans (k4.mono (by simp [PQc]) (by simp [PQf]))).trans (s3.mono (by simp [PQc]) (by simp))).trans (t5.mono (by simp [FDc, PQc]) (by simp [FDf, PQf]))
        have fin : ∃ τ', F_X12_counts_90 x2 (cntK x1) (cntH x1) σ1 = some (cntV row x1 x2 x3, τ') ∧ Ch PQc PQf σ τ' := by
          unfold F_X12_counts_90 cntV
          rw [t1, bd_some]
          cases hb : (fd row x3 x2 (stO 0 x2) (cntH x1) (cntK x1) 0 0).1 with
          | false => rw [if_pos (by decide)]; exact ⟨τ, rfl, cF⟩
          | true => rw [if_neg (by decide), F_aln, bd_some, t2, if_pos rfl]; exact ⟨τ, rfl, cF⟩
        unfold F_X12_counts_75
        by_cases d3 : (3 : Int32) ≤ x1
        · rw [if_pos d3, if_pos d3]
          have ek : cntK x1 = 0 := if_pos d3
          rw [ek] at fin
          by_cases d4 : x1 = 3
          · rw [if_pos d4]
            have eh : cntH x1 = 6 := by unfold cntH; rw [if_pos d3, if_pos d4]
            rw [eh] at fin; exact fin
          · rw [if_neg d4]
            by_cases d5 : x1 = 4
            · rw [if_pos d5, if_pos d3]
              have eh : cntH x1 = 7 := by unfold cntH; rw [if_pos d3, if_neg d4, if_pos d5]
              rw [eh] at fin; exact fin
            · rw [if_neg d5, if_pos d3]
              have eh : cntH x1 = 8 := by unfold cntH; rw [if_pos d3, if_neg d4, if_neg d5]
              rw [eh] at fin; exact fin
        · rw [if_neg d3, if_neg d3]
          have ek : cntK x1 = x1 := if_neg d3
          have eh : cntH x1 = 4 := if_neg d3
          rw [ek, eh] at fin; exact fin
      · rw [if_neg c3, if_neg c3]; exact no _ rfl
    · rw [if_neg c2, if_neg c2]; exact no _ rfl
  · rw [if_neg c1, if_neg c1]; exact no _ rfl
end
