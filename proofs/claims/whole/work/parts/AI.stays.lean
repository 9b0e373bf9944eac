section
/-! STAYS: who is in which PLOT, WEEK by WEEK -/
def nY (row : Nat → Int32) : Nat := cl (row 7)
def sy (row : Nat → Int32) (s j : Nat) : Int32 := row (29512 + 8 * s + j)
/-- a stay covers a WEEK: C s j is what stands at place j of stay s -/
def cvB (C : Nat → Nat → Int32) (s w : Nat) : Bool := decide (C s 2 ≤ nI w) && (!decide (C s 4 ≤ nI w) && !decide (C s 5 ≤ nI w))
def SyV (row : Nat → Int32) : Prop := isN (row 7) 30041 ∧ ∀ s, s < nY row → isN (sy row s 0) (nP row) ∧ isN (sy row s 1) (nE row) ∧ isN (sy row s 2) 260 ∧ sy row s 2 ≤ sy row s 3 ∧ isN (sy row s 6) 10 ∧ (sy row s 7 = 1 ∨ (sy row s 7 = 0 ∧ sy row s 3 = sy row s 2))
/-- ENTRY, the WEEK in which it came, whether it lives there, its place in the chain -/
def atC (C : Nat → Nat → Int32) (s w : Nat) : Nat × Nat × Bool × Nat := (cl (C s 1), cl (C s 2), decide (C s 3 ≤ nI w), cl (C s 6))
/-- n stays C tell who is where: oc -/
def RpC (N n : Nat) (C : Nat → Nat → Int32) (oc : Nat → Nat → Option (Nat × Nat × Bool × Nat)) : Prop := ∀ p, p < N → ∀ w, w < 260 →
  (∀ s, s < n → C s 0 = nI p → cvB C s w = true → oc p w = some (atC C s w)) ∧ (∀ a, oc p w = some a → ∃ s, s < n ∧ C s 0 = nI p ∧ cvB C s w = true) ∧
  (∀ s t, s < n → t < n → C s 0 = nI p → C t 0 = nI p → cvB C s w = true → cvB C t w = true → s = t)
theorem SyV.n {row : Nat → Int32} (h : SyV row) : row 7 = nI (nY row) ∧ nY row ≤ 30040 := ⟨h.1.1, by have := h.1.2; unfold nY; omega⟩
theorem F_stayAt {s : Nat} {σ : AH} : F_X12_stayAt (nI s) σ = some (nI (29512 + 8 * s), σ) := by
  unfold F_X12_stayAt
  have : (29512 : Int32) + (8 : Int32) * nI s = nI (29512 + 8 * s) := by simp only [fa_lit, nI_add, pk_mul]
  rw [this]
theorem sy_at {s j : Nat} (hs : s < 30040) (hj : j < 8) : inB (nI (29512 + 8 * s) + nI j) 269832 = true ∧ (nI (29512 + 8 * s) + nI j).toNatClampNeg = 29512 + 8 * s + j := by
  rw [nI_add]
  exact ⟨inB_n (by omega) (by omega), nI_clamp (by omega)⟩
theorem F_livesIn {row : Nat → Int32} {s w : Nat} {σ : AH} (hV : SyV row) (hs : s < nY row) (hr : gI σ 125 = row) : F_X12_livesIn (nI s) (nI w) σ = some (b2 (cvB (sy row) s w && decide (sy row s 3 ≤ nI w)), σ) := by
  have n30 := hV.n.2
  obtain ⟨v0, v1, v2, v3, v6, v7⟩ := hV.2 s hs
  unfold F_X12_livesIn cvB
  obtain ⟨q3, n3⟩ := sy_at (s := s) (j := 3) (by omega) (by decide)
  obtain ⟨q4, n4⟩ := sy_at (s := s) (j := 4) (by omega) (by decide)
  obtain ⟨q5, n5⟩ := sy_at (s := s) (j := 5) (by omega) (by decide)
  rw [F_stayAt, bd_some, fa_lit 3, fa_lit 4, fa_lit 5, if_pos q3, if_pos q4, if_pos q5, n3, n4, n5, hr]
  have e3 : row (29512 + 8 * s + 3) = sy row s 3 := rfl
  have e4 : row (29512 + 8 * s + 4) = sy row s 4 := rfl
  have e5 : row (29512 + 8 * s + 5) = sy row s 5 := rfl
  rw [e3, e4, e5]
  rw [Int32.le_iff_toInt_le] at v3
  by_cases c3 : nI w < sy row s 3
  · have l3 : ¬ sy row s 3 ≤ nI w := fun z => by rw [Int32.le_iff_toInt_le] at z; rw [Int32.lt_iff_toInt_lt] at c3; omega
    rw [if_pos c3, decide_eq_false l3, Bool.and_false]; rfl
  · have l3 : sy row s 3 ≤ nI w := by rw [Int32.le_iff_toInt_le]; rw [Int32.lt_iff_toInt_lt] at c3; omega
    have l2 : sy row s 2 ≤ nI w := by rw [Int32.le_iff_toInt_le] at l3 ⊢; omega
    rw [if_neg c3, decide_eq_true l3, decide_eq_true l2, Bool.and_true, Bool.true_and]
    by_cases c4 : sy row s 4 ≤ nI w
    · rw [if_pos c4, decide_eq_true c4]; rfl
    · rw [if_neg c4, decide_eq_false c4]
      by_cases c5 : sy row s 5 ≤ nI w
      · rw [if_pos c5, decide_eq_true c5]; rfl
      · rw [if_neg c5, decide_eq_false c5]; rfl
theorem F_squatsIn {row : Nat → Int32} {s w : Nat} {σ : AH} (hV : SyV row) (hs : s < nY row) (hr : gI σ 125 = row) : F_X12_squatsIn (nI s) (nI w) σ = some (b2 (cvB (sy row) s w && !decide (sy row s 3 ≤ nI w)), σ) := by
  have n30 := hV.n.2
  obtain ⟨v0, v1, v2, v3, v6, v7⟩ := hV.2 s hs
  unfold F_X12_squatsIn cvB
  obtain ⟨q2, n2⟩ := sy_at (s := s) (j := 2) (by omega) (by decide)
  obtain ⟨q3, n3⟩ := sy_at (s := s) (j := 3) (by omega) (by decide)
  obtain ⟨q4, n4⟩ := sy_at (s := s) (j := 4) (by omega) (by decide)
  obtain ⟨q5, n5⟩ := sy_at (s := s) (j := 5) (by omega) (by decide)
  obtain ⟨q7, n7⟩ := sy_at (s := s) (j := 7) (by omega) (by decide)
  rw [F_stayAt, bd_some, fa_lit 2, fa_lit 3, fa_lit 4, fa_lit 5, fa_lit 7, if_pos q7, if_pos q2, if_pos q3, if_pos q4, if_pos q5, n2, n3, n4, n5, n7, hr]
  have e2 : row (29512 + 8 * s + 2) = sy row s 2 := rfl
  have e3 : row (29512 + 8 * s + 3) = sy row s 3 := rfl
  have e4 : row (29512 + 8 * s + 4) = sy row s 4 := rfl
  have e5 : row (29512 + 8 * s + 5) = sy row s 5 := rfl
  have e7 : row (29512 + 8 * s + 7) = sy row s 7 := rfl
  rw [e2, e3, e4, e5, e7]
  by_cases c7 : sy row s 7 = 1
  · rw [if_pos c7]
    by_cases c2 : nI w < sy row s 2
    · have l2 : ¬ sy row s 2 ≤ nI w := fun z => by rw [Int32.le_iff_toInt_le] at z; rw [Int32.lt_iff_toInt_lt] at c2; omega
      rw [if_pos c2, decide_eq_false l2]; rfl
    · have l2 : sy row s 2 ≤ nI w := by rw [Int32.le_iff_toInt_le]; rw [Int32.lt_iff_toInt_lt] at c2; omega
      rw [if_neg c2, decide_eq_true l2, Bool.true_and]
      by_cases c3 : sy row s 3 ≤ nI w
      · rw [if_pos c3, decide_eq_true c3, Bool.not_true, Bool.and_false]; rfl
      · rw [if_neg c3, decide_eq_false c3, Bool.not_false, Bool.and_true]
        by_cases c4 : sy row s 4 ≤ nI w
        · rw [if_pos c4, decide_eq_true c4]; rfl
        · rw [if_neg c4, decide_eq_false c4]
          by_cases c5 : sy row s 5 ≤ nI w
          · rw [if_pos c5, decide_eq_true c5]; rfl
          · rw [if_neg c5, decide_eq_false c5]; rfl
  · rw [if_neg c7]
    have e : sy row s 3 = sy row s 2 := by
      rcases v7 with z | z
      · exact absurd z c7
      · exact z.2
    rw [e]
    cases decide (sy row s 2 ≤ nI w)
    · rfl
    · rw [Bool.not_true, Bool.and_false]; rfl
theorem F_isInR {row : Nat → Int32} {s w : Nat} {σ : AH} (hV : SyV row) (hs : s < nY row) (hr : gI σ 125 = row) : F_X12_isIn (nI s) (nI w) σ = some (b2 (cvB (sy row) s w), σ) := by
  unfold F_X12_isIn F_X12_isIn_18
  rw [F_livesIn hV hs hr, bd_some, F_squatsIn hV hs hr, bd_some]
  cases cvB (sy row) s w
  · rw [Bool.false_and, Bool.false_and, if_pos (show b2 false = 0 from rfl), if_pos (show b2 false = 0 from rfl)]; rfl
  · rw [Bool.true_and, Bool.true_and]
    cases decide (sy row s 3 ≤ nI w)
    · rw [if_pos (show b2 false = 0 from rfl), if_neg (show ¬ b2 (!false) = 0 by decide)]; rfl
    · rw [if_neg (show ¬ b2 true = 0 by decide)]; rfl
/-! the stays that the reference asks for -/
def svB (row : Nat → Int32) (p w s : Nat) : Bool := decide (sy row s 0 = nI p) && (cvB (sy row) s w && decide (sy row s 3 ≤ nI w))
def lvS (row : Nat → Int32) (p w : Nat) : Nat → Option Nat := fun s => match s with
  | 0 => none
  | s + 1 => if svB row p w s = true then some s else lvS row p w s
theorem lvS_some {row : Nat → Int32} {p w : Nat} : ∀ n s, lvS row p w n = some s → s < n ∧ svB row p w s = true := by
  intro n
  induction n with
  | zero => intro s h; cases h
  | succ n ih =>
    intro s h
    unfold lvS at h
    by_cases c : svB row p w n = true
    · rw [if_pos c] at h; cases h; exact ⟨Nat.lt_succ_self _, c⟩
    · rw [if_neg c] at h
      have := ih s h
      exact ⟨by omega, this.2⟩
theorem lvS_none {row : Nat → Int32} {p w : Nat} : ∀ n, lvS row p w n = none → ∀ s, s < n → svB row p w s = false := by
  intro n
  induction n with
  | zero => intro _ s hs; omega
  | succ n ih =>
    intro h s hs
    unfold lvS at h
    by_cases c : svB row p w n = true
    · rw [if_pos c] at h; cases h
    · rw [if_neg c] at h
      by_cases e : s = n
      · rw [e]; simpa using c
      · exact ih h s (by omega)
theorem living_loop {row : Nat → Int32} {p w g : Nat} {σ : AH} (hV : SyV row) (hr : gI σ 125 = row) : ∀ (j s : Nat), s + j = nY row → F_X12_livingIn_5 (j + 1 + g) (nI p) (nI w) (oI (lvS row p w s)) (nI s) σ = some (oI (lvS row p w (nY row)), σ) := by
  obtain ⟨n0, n30⟩ := hV.n
  intro j
  induction j with
  | zero =>
    intro s hs
    rw [show 0 + 1 + g = g + 1 by omega]
    show B_X12_livingIn_5 (F_X12_livingIn_5 g) (nI p) (nI w) (oI (lvS row p w s)) (nI s) σ = _
    unfold B_X12_livingIn_5
    rw [hr, n0, if_pos (nI_le (by omega) (by omega)), show s = nY row by omega]
  | succ j ih =>
    intro s hs
    rw [show j + 1 + 1 + g = (j + 1 + g) + 1 by omega]
    show B_X12_livingIn_5 (F_X12_livingIn_5 (j + 1 + g)) (nI p) (nI w) (oI (lvS row p w s)) (nI s) σ = _
    unfold B_X12_livingIn_5 F_X12_livingIn_47 F_X12_livingIn_48
    have lt : s < nY row := by omega
    have e0 : row (29512 + 8 * s) = sy row s 0 := rfl
    rw [hr, n0, if_neg (nI_ge lt (by omega)), F_stayAt, bd_some, if_pos (inB_n (by omega) (by omega)), nI_clamp (by omega), hr, e0, F_livesIn hV lt hr, bd_some, nI_1]
    have ih' := ih (s + 1) (by omega)
    have st : lvS row p w (s + 1) = if svB row p w s = true then some s else lvS row p w s := rfl
    rw [st] at ih'
    unfold svB at ih'
    by_cases c : sy row s 0 = nI p
    · rw [if_pos c]
      rw [decide_eq_true c, Bool.true_and] at ih'
      cases h : (cvB (sy row) s w && decide (sy row s 3 ≤ nI w)) with
      | false =>
        rw [h, if_neg (by decide)] at ih'
        rw [if_pos (show b2 false = 0 from rfl)]; exact ih'
      | true =>
        rw [h, if_pos rfl] at ih'
        rw [if_neg (show ¬ b2 true = 0 by decide)]; exact ih'
    · rw [if_neg c]
      rw [decide_eq_false c, Bool.false_and, if_neg (by decide)] at ih'
      exact ih'
theorem F_livingIn {row : Nat → Int32} {p w : Nat} {σ : AH} (hV : SyV row) (hr : gI σ 125 = row) : F_X12_livingIn (nI p) (nI w) σ = some (oI (lvS row p w (nY row)), σ) := by
  have n30 := hV.n.2
  unfold F_X12_livingIn
  obtain ⟨g, hg⟩ := BIGe (nY row) (by omega)
  rw [hg]
  exact living_loop hV hr (nY row) 0 (by omega)
end
