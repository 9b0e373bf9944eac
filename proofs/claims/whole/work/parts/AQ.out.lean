section
/-! out of the reference -/
/-- the stays that the reference keeps tell who is where, and none began after the last WEEK told -/
def StI (row : Nat → Int32) (oc : Nat → Nat → Option (Nat × Nat × Bool × Nat)) (W : Nat) : Prop := SyV row ∧ RpC (nP row) (nY row) (sy row) oc ∧ FrC (nY row) (sy row) W ∧ row 12 = nI W ∧ W < 260
/-- rows that differ in stays and their numbers only -/
def RwS (row row' : Nat → Int32) : Prop := ∀ i, i < 29512 → i ≠ 7 → i ≠ 8 → i ≠ 10 → i ≠ 11 → i ≠ 12 → row' i = row i
def sqB (row : Nat → Int32) (p w s : Nat) : Bool := decide (sy row s 0 = nI p) && (cvB (sy row) s w && !decide (sy row s 3 ≤ nI w))
def ouS (row : Nat → Int32) (p w : Nat) : Nat → Option Nat := fun s => match s with
  | 0 => none
  | s + 1 => if sqB row p w s = true then some s else ouS row p w s
theorem ouS_some {row : Nat → Int32} {p w : Nat} : ∀ n s, ouS row p w n = some s → s < n ∧ sqB row p w s = true := by
  intro n
  induction n with
  | zero => intro s h; cases h
  | succ n ih =>
    intro s h
    unfold ouS at h
    by_cases c : sqB row p w n = true
    · rw [if_pos c] at h; cases h; exact ⟨Nat.lt_succ_self _, c⟩
    · rw [if_neg c] at h
      have := ih s h
      exact ⟨by omega, this.2⟩
theorem ouS_none {row : Nat → Int32} {p w : Nat} : ∀ n, ouS row p w n = none → ∀ s, s < n → sqB row p w s = false := by
  intro n
  induction n with
  | zero => intro _ s hs; omega
  | succ n ih =>
    intro h s hs
    unfold ouS at h
    by_cases c : sqB row p w n = true
    · rw [if_pos c] at h; cases h
    · rw [if_neg c] at h
      by_cases e : s = n
      · rw [e]; simpa using c
      · exact ih h s (by omega)
theorem out_loop {row : Nat → Int32} {p w g : Nat} {σ : AH} (hV : SyV row) (hr : gI σ 125 = row) : ∀ (j s : Nat), s + j = nY row → F_X12_out_49 (j + 1 + g) (nI p) (nI w) (oI (ouS row p w s)) (nI s) σ = F_X12_out_49 (1 + g) (nI p) (nI w) (oI (ouS row p w (nY row))) (nI (nY row)) σ := by
  obtain ⟨n0, n30⟩ := hV.n
  intro j
  induction j with
  | zero =>
    intro s hs
    rw [show 0 + 1 + g = 1 + g by omega, show s = nY row by omega]
  | succ j ih =>
    intro s hs
    rw [show j + 1 + 1 + g = (j + 1 + g) + 1 by omega]
    show B_X12_out_49 (F_X12_out_49 (j + 1 + g)) (nI p) (nI w) (oI (ouS row p w s)) (nI s) σ = _
    unfold B_X12_out_49 F_X12_out_91 F_X12_out_92
    have lt : s < nY row := by omega
    have e0 : row (29512 + 8 * s) = sy row s 0 := rfl
    rw [hr, n0, if_neg (nI_ge lt (by omega)), F_stayAt, bd_some, if_pos (inB_n (by omega) (by omega)), nI_clamp (by omega), hr, e0, F_squatsIn hV lt hr, bd_some, nI_1]
    have ih' := ih (s + 1) (by omega)
    have st : ouS row p w (s + 1) = if sqB row p w s = true then some s else ouS row p w s := rfl
    rw [st] at ih'
    unfold sqB at ih'
    by_cases c : sy row s 0 = nI p
    · rw [if_pos c]
      rw [decide_eq_true c, Bool.true_and] at ih'
      cases h : (cvB (sy row) s w && !decide (sy row s 3 ≤ nI w)) with
      | false =>
        rw [h, if_neg (by decide)] at ih'
        rw [if_pos (show b2 false = 0 from rfl)]; exact ih'
      | true =>
        rw [h, if_pos rfl] at ih'
        rw [if_neg (show ¬ b2 true = 0 by decide)]; exact ih'
    · rw [if_neg c]
      rw [decide_eq_false c, Bool.false_and, if_neg (by decide)] at ih'
      exact ih'
/-- somebody squats there -/
def sqO (a : Option (Nat × Nat × Bool × Nat)) : Bool := match a with
  | none => false
  | some a => !a.2.2.1
theorem ouS_oc {row : Nat → Int32} {p w : Nat} {oc : Nat → Nat → Option (Nat × Nat × Bool × Nat)} (h : RpC (nP row) (nY row) (sy row) oc) (hp : p < nP row) (hw : w < 260) : (ouS row p w (nY row) = none ∧ sqO (oc p w) = false) ∨ ∃ s, s < nY row ∧ ouS row p w (nY row) = some s ∧ sqO (oc p w) = true ∧ sy row s 0 = nI p ∧ cvB (sy row) s w = true := by
  obtain ⟨h1, h2, h3⟩ := h p hp w hw
  cases e : ouS row p w (nY row) with
  | none =>
    left
    refine ⟨rfl, ?_⟩
    cases o : oc p w with
    | none => rfl
    | some a =>
      obtain ⟨s, s1, s2, s3⟩ := h2 a o
      have o2 := h1 s s1 s2 s3
      rw [o] at o2
      have := ouS_none _ e s s1
      unfold sqB at this
      rw [decide_eq_true s2, s3, Bool.true_and, Bool.true_and] at this
      have ea : a = atC (sy row) s w := by cases o2; rfl
      rw [ea]; exact this
  | some s =>
    right
    obtain ⟨b, c⟩ := ouS_some _ s e
    unfold sqB at c
    have c' := Bool.and_eq_true_iff.mp c
    have c2 := Bool.and_eq_true_iff.mp c'.2
    refine ⟨s, b, rfl, ?_, of_decide_eq_true c'.1, c2.1⟩
    rw [h1 s b (of_decide_eq_true c'.1) c2.1]
    exact c2.2
/-- is there an out: 0, or why not -/
def outV (row : Nat → Int32) (oc : Nat → Nat → Option (Nat × Nat × Bool × Nat)) (W : Nat) (x1 x2 : Int32) : Int32 := if rgB 0 259 x2 = true then (if nI W ≤ x2 then (if ltB (nP row) x1 = true then (if sqO (oc (cl x1) (cl x2)) = true then 0 else -3) else -2) else -1) else -1
def outO (row : Nat → Int32) (oc : Nat → Nat → Option (Nat × Nat × Bool × Nat)) (W : Nat) (x1 x2 : Int32) : Nat → Nat → Option (Nat × Nat × Bool × Nat) := if outV row oc W x1 x2 = 0 then ocL oc (cl x1) (cl x2) else oc
def outW (row : Nat → Int32) (oc : Nat → Nat → Option (Nat × Nat × Bool × Nat)) (W : Nat) (x1 x2 : Int32) : Nat := if outV row oc W x1 x2 = 0 then cl x2 else W
theorem RwS.rf {row : Nat → Int32} : RwS row row := fun _ _ _ _ _ _ _ => rfl
theorem sy_up {row : Nat → Int32} {s w : Nat} {v : Int32} (hs : s < 30040) : sy (va_up (va_up row (29512 + 8 * s + 5) v) 12 (nI w)) = fun t j => if 29512 + 8 * t + j = 29512 + 8 * s + 5 then v else sy row t j := by
  funext t j
  unfold sy
  rw [up_ne _ _ _ (by omega)]
  by_cases e : 29512 + 8 * t + j = 29512 + 8 * s + 5
  · rw [if_pos e, e, up_same]
  · rw [if_neg e, up_ne _ _ _ e]
theorem RpC.same {N n : Nat} {C C' : Nat → Nat → Int32} {oc : Nat → Nat → Option (Nat × Nat × Bool × Nat)} (h : RpC N n C oc) (e : ∀ s j, s < n → j < 8 → C' s j = C s j) : RpC N n C' oc := by
  have cv : ∀ s w, s < n → cvB C' s w = cvB C s w := fun s w hs => by unfold cvB; rw [e s 2 hs (by decide), e s 4 hs (by decide), e s 5 hs (by decide)]
  intro p hp w hw
  obtain ⟨h1, h2, h3⟩ := h p hp w hw
  refine ⟨fun s hs s0 sc => ?_, fun a ha => ?_, fun s t hs ht s0 t0 sc tc => ?_⟩
  · rw [e s 0 hs (by decide)] at s0
    rw [cv s w hs] at sc
    rw [h1 s hs s0 sc]
    unfold atC
    rw [e s 1 hs (by decide), e s 2 hs (by decide), e s 3 hs (by decide), e s 6 hs (by decide)]
  · obtain ⟨s, a1, a2, a3⟩ := h2 a ha
    exact ⟨s, a1, by rw [e s 0 a1 (by decide)]; exact a2, by rw [cv s w a1]; exact a3⟩
  · rw [e s 0 hs (by decide)] at s0
    rw [e t 0 ht (by decide)] at t0
    rw [cv s w hs] at sc
    rw [cv t w ht] at tc
    exact h3 s t hs ht s0 t0 sc tc
theorem P_out {row : Nat → Int32} {oc : Nat → Nat → Option (Nat × Nat × Bool × Nat)} {W : Nat} {x1 x2 : Int32} {σ : AH} (hB : BV row) (hS : StI row oc W) (hr : gI σ 125 = row) : ∃ τ row', F_X12_out x1 x2 σ = some (outV row oc W x1 x2, τ) ∧ gI τ 125 = row' ∧ gI τ 124 1 = ftV (outV row oc W x1 x2) ∧ RwS row row' ∧ nP row' = nP row ∧ StI row' (outO row oc W x1 x2) (outW row oc W x1 x2) ∧ row' 8 = row 8 ∧ row' 10 = row 10 ∧ row' 11 = row 11 ∧ Ch [125] [(124, 0), (124, 1)] σ τ := by
  obtain ⟨hV, hR, hF, h12, hW⟩ := hS
  have b30 := hB.p.2.1
  obtain ⟨n0, n30⟩ := hV.n
  have c0 : Ch [125] [(124, 0), (124, 1)] σ (sI σ 124 0 0) := Ch.sI1 (Or.inl (by simp))
  have hr0 : gI (sI σ 124 0 0) 125 = row := by rw [gI_sI_row (by decide)]; exact hr
  have bad : ∀ v : Int32, v ≠ 0 → outV row oc W x1 x2 = v → ∃ τ row', (bd (F_X12_told v (sI σ 124 0 (0 : Int32))) fun v25 σ21 => some (v25, σ21)) = some (outV row oc W x1 x2, τ) ∧ gI τ 125 = row' ∧ gI τ 124 1 = ftV (outV row oc W x1 x2) ∧ RwS row row' ∧ nP row' = nP row ∧ StI row' (outO row oc W x1 x2) (outW row oc W x1 x2) ∧ row' 8 = row 8 ∧ row' 10 = row 10 ∧ row' 11 = row 11 ∧ Ch [125] [(124, 0), (124, 1)] σ τ := fun v hv e => by
    unfold outO outW
    rw [e, if_neg hv, if_neg hv, told_e, bd_some]
    exact ⟨_, row, rfl, by rw [gI_sI_row (by decide)]; exact hr0, gI_sI_at, RwS.rf, rfl, ⟨hV, hR, hF, h12, hW⟩, rfl, rfl, rfl, c0.trans (Ch.sI1 (Or.inl (by simp)))⟩
  unfold F_X12_out F_X12_out_23
  have ip : F_X12_isPlot x1 (sI σ 124 0 0) = some (if ltB (nP row) x1 = true then 1 else 0, sI σ 124 0 0) := F_isPlot hB hr0
  rw [F_isWeek, bd_b (α := Int32), hr0, h12, ip, bd_b (α := Int32)]
  by_cases c1 : rgB 0 259 x2 = true
  · rw [if_pos c1]
    by_cases c2 : nI W ≤ x2
    · rw [if_pos c2]
      by_cases c3 : ltB (nP row) x1 = true
      · rw [if_pos c3]
        obtain ⟨e1, b1⟩ := ltB_n c3 (by omega)
        obtain ⟨e2, b2'⟩ := rg0_n (b := 259) c1 (by decide)
        have vv : outV row oc W x1 x2 = if sqO (oc (cl x1) (cl x2)) = true then 0 else -3 := by unfold outV; rw [if_pos c1, if_pos c2, if_pos c3]
        obtain ⟨p, hp⟩ : ∃ p, p = cl x1 := ⟨_, rfl⟩
        obtain ⟨w, hw⟩ : ∃ w, w = cl x2 := ⟨_, rfl⟩
        obtain ⟨g, hg⟩ := BIGe (nY row) (by omega)
        have lp := out_loop (p := cl x1) (w := cl x2) (g := g) (σ := sI σ 124 0 0) hV hr0 (nY row) 0 (by omega)
        have lp' : F_X12_out_49 BIG x1 x2 (-1 : Int32) (0 : Int32) (sI σ 124 0 0) = F_X12_out_49 (1 + g) (nI (cl x1)) (nI (cl x2)) (oI (ouS row (cl x1) (cl x2) (nY row))) (nI (nY row)) (sI σ 124 0 0) := by
          rw [← lp, hg, ← e1, ← e2]; rfl
        rw [lp', Nat.add_comm 1 g]
        show ∃ τ row', B_X12_out_49 (F_X12_out_49 g) (nI (cl x1)) (nI (cl x2)) (oI (ouS row (cl x1) (cl x2) (nY row))) (nI (nY row)) (sI σ 124 0 0) = _ ∧ _
        unfold B_X12_out_49
        rw [hr0, n0, if_pos (nI_le (by omega) (by omega))]
        have lw : W ≤ cl x2 := by
          rw [e2, Int32.le_iff_toInt_le, nI_toInt (by omega), nI_toInt (by omega)] at c2; omega
        rcases ouS_oc hR b1 (show cl x2 < 260 by omega) with ⟨z1, z2⟩ | ⟨s, s1, s2, s3, s4, s5⟩
        · rw [z1, show oI none = -1 from rfl, if_pos rfl]
          exact bad (-3) (by decide) (by rw [vv, z2, if_neg (by decide)])
        · rw [s3, if_pos rfl] at vv
          obtain ⟨q5, n5⟩ := sy_at (s := s) (j := 5) (by omega) (by decide)
          rw [s2, show oI (some s) = nI s from rfl, if_neg (nI_neg1 (by omega)), F_stayAt, bd_some, fa_lit 5, if_pos q5, n5, told_e, bd_some]
          unfold outO outW
          rw [vv, if_pos rfl, if_pos rfl]
          obtain ⟨L1, L2⟩ := hR.leave hF b30 lw (show cl x2 < 260 by omega) b1 s1 s4 s5
          obtain ⟨row', hrow⟩ : ∃ r, r = va_up (va_up row (29512 + 8 * s + 5) (nI (cl x2))) 12 (nI (cl x2)) := ⟨_, rfl⟩
          have lo : ∀ i, i < 29512 → i ≠ 12 → row' i = row i := fun i hi h => by rw [hrow, up_ne _ _ _ h, up_ne _ _ _ (by omega)]
          have np : nP row' = nP row := by unfold nP; rw [lo 4 (by decide) (by decide)]
          have ne : nE row' = nE row := by unfold nE; rw [lo 6 (by decide) (by decide)]
          have ny : nY row' = nY row := by unfold nY; rw [lo 7 (by decide) (by decide)]
          have es : ∀ t j, j < 8 → sy row' t j = upC (sy row) s 5 (nI (cl x2)) t j := fun t j hj => by
            rw [hrow, sy_up (by omega)]
            unfold upC
            dsimp only
            by_cases e : t = s ∧ j = 5
            · rw [if_pos e, if_pos (by omega)]
            · rw [if_neg e, if_neg (by omega)]
          refine ⟨_, row', rfl, ?_, gI_sI_at, fun i hi _ _ _ _ h => lo i hi h, np, ⟨⟨?_, fun t ht => ?_⟩, ?_, ?_, ?_, by omega⟩, lo 8 (by decide) (by decide), lo 10 (by decide) (by decide), lo 11 (by decide) (by decide), ?_⟩
          · rw [gI_sI_row (by decide), gI_sI_own, gI_sI_own, hr0, hrow]
          · rw [lo 7 (by decide) (by decide)]; exact hV.1
          · rw [ny] at ht
            rw [np, ne, es t 0 (by decide), es t 1 (by decide), es t 2 (by decide), es t 3 (by decide), es t 6 (by decide), es t 7 (by decide), upC_ne (by decide), upC_ne (by decide), upC_ne (by decide), upC_ne (by decide), upC_ne (by decide), upC_ne (by decide)]
            exact hV.2 t ht
          · rw [np, ny]
            exact L1.same (fun t j _ hj => es t j hj)
          · rw [ny]
            intro t ht
            rw [es t 2 (by decide)]; exact L2 t ht
          · rw [hrow, up_same]
          · exact ((c0.trans (Ch.sI1 (Or.inr (by simp)))).trans (Ch.sI1 (Or.inr (by simp)))).trans (Ch.sI1 (Or.inl (by simp)))
      · rw [if_neg c3]
        exact bad (-2) (by decide) (by unfold outV; rw [if_pos c1, if_pos c2, if_neg c3])
    · rw [if_neg c2]
      exact bad (-1) (by decide) (by unfold outV; rw [if_pos c1, if_neg c2])
  · rw [if_neg c1]
    exact bad (-1) (by decide) (by unfold outV; rw [if_neg c1])
end
