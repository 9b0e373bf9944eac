section
/-! a FAMILY's roof -/
def mB (row : Nat → Int32) (f : Nat → Int32) (fam : Int32) (w : Nat) (b : Bool) (s : Nat) : Bool := decide (f (cl (sy row s 1)) = fam) && (cvB (sy row) s w && (decide (sy row s 3 ≤ nI w) == b))
def soS (row : Nat → Int32) (f : Nat → Int32) (fam : Int32) (w : Nat) (b : Bool) : Nat → Option Nat := fun s => match s with
  | 0 => none
  | s + 1 => if mB row f fam w b s = true then (match soS row f fam w b s with | none => some s | some t => if sy row t 0 ≤ sy row s 0 then some t else some s) else soS row f fam w b s
theorem soS_s {row : Nat → Int32} {f : Nat → Int32} {fam : Int32} {w : Nat} {b : Bool} {s : Nat} : soS row f fam w b (s + 1) = if mB row f fam w b s = true then (match soS row f fam w b s with | none => some s | some t => if sy row t 0 ≤ sy row s 0 then some t else some s) else soS row f fam w b s := rfl
theorem soS_spec {row : Nat → Int32} {f : Nat → Int32} {fam : Int32} {w : Nat} {b : Bool} : ∀ n, (soS row f fam w b n = none → ∀ s, s < n → mB row f fam w b s = false) ∧ ∀ s, soS row f fam w b n = some s → s < n ∧ mB row f fam w b s = true ∧ ∀ t, t < n → mB row f fam w b t = true → sy row s 0 ≤ sy row t 0 := by
  intro n
  induction n with
  | zero => exact ⟨fun _ s hs => absurd hs (Nat.not_lt_zero s), fun s h => by cases h⟩
  | succ n ih =>
    rw [soS_s]
    by_cases c : mB row f fam w b n = true
    · rw [if_pos c]
      cases e : soS row f fam w b n with
      | none =>
        dsimp only
        refine ⟨fun h => (by cases h), fun s h => ?_⟩
        cases h
        refine ⟨Nat.lt_succ_self _, c, fun t ht hm => ?_⟩
        by_cases z : t = n
        · rw [z]; exact Int32.le_refl _
        · have := ih.1 e t (by omega); rw [hm] at this; cases this
      | some t0 =>
        obtain ⟨a1, a2, a3⟩ := ih.2 t0 e
        dsimp only
        by_cases d : sy row t0 0 ≤ sy row n 0
        · rw [if_pos d]
          refine ⟨fun h => (by cases h), fun s h => ?_⟩
          cases h
          refine ⟨by omega, a2, fun t ht hm => ?_⟩
          by_cases z : t = n
          · rw [z]; exact d
          · exact a3 t (by omega) hm
        · rw [if_neg d]
          refine ⟨fun h => (by cases h), fun s h => ?_⟩
          cases h
          refine ⟨Nat.lt_succ_self _, c, fun t ht hm => ?_⟩
          by_cases z : t = n
          · rw [z]; exact Int32.le_refl _
          · have := a3 t (by omega) hm
            rw [Int32.le_iff_toInt_le] at this d ⊢; omega
    · rw [if_neg c]
      refine ⟨fun h s hs => ?_, fun s h => ?_⟩
      · by_cases z : s = n
        · rw [z]; simpa using c
        · exact ih.1 h s (by omega)
      · obtain ⟨a1, a2, a3⟩ := ih.2 s h
        refine ⟨by omega, a2, fun t ht hm => ?_⟩
        by_cases z : t = n
        · rw [z] at hm; exact absurd hm c
        · exact a3 t (by omega) hm
theorem stayOf_loop {row : Nat → Int32} {f : Nat → Int32} {fam : Int32} {w g : Nat} {b : Bool} {σ : AH} (hV : SyV row) (hE : EV row) (hr : gI σ 125 = row) (hf : ∀ e, e < nE row → gI σ 160 e = f e) : ∀ (j s : Nat), s + j = nY row → F_X12_stayOf_6 (j + 1 + g) fam (nI w) (b2 b) (oI (soS row f fam w b s)) (nI s) σ = some (oI (soS row f fam w b (nY row)), σ) := by
  obtain ⟨n0, n30⟩ := hV.n
  have e60 := hE.n.2
  intro j
  induction j with
  | zero =>
    intro s hs
    rw [show 0 + 1 + g = g + 1 by omega]
    show B_X12_stayOf_6 (F_X12_stayOf_6 g) fam (nI w) (b2 b) (oI (soS row f fam w b s)) (nI s) σ = _
    unfold B_X12_stayOf_6
    rw [hr, n0, if_pos (nI_le (by omega) (by omega)), show s = nY row by omega]
  | succ j ih =>
    intro s hs
    rw [show j + 1 + 1 + g = (j + 1 + g) + 1 by omega]
    show B_X12_stayOf_6 (F_X12_stayOf_6 (j + 1 + g)) fam (nI w) (b2 b) (oI (soS row f fam w b s)) (nI s) σ = _
    unfold B_X12_stayOf_6
    have lt : s < nY row := by omega
    obtain ⟨v0, v1, v2, v3, v6, v7⟩ := hV.2 s lt
    have l1 := v1.2
    obtain ⟨q1, n1⟩ := sy_at (s := s) (j := 1) (by omega) (by decide)
    have y1 : row (29512 + 8 * s + 1) = nI (cl (sy row s 1)) := v1.1
    have ih' := ih (s + 1) (by omega)
    -- the end of a step
    have fin : ∀ y : Bool, mB row f fam w b s = y → F_X12_stayOf_72 (F_X12_stayOf_6 (j + 1 + g)) fam (nI w) (b2 b) (oI (soS row f fam w b s)) (nI s) (b2 y) σ = some (oI (soS row f fam w b (nY row)), σ) := fun y hy => by
      unfold F_X12_stayOf_72 F_X12_stayOf_114 F_X12_stayOf_109 F_X12_stayOf_116
      rw [soS_s, hy] at ih'
      rw [nI_1]
      cases y with
      | false =>
        rw [if_neg (by decide)] at ih'
        rw [if_pos (show b2 false = 0 from rfl)]; exact ih'
      | true =>
        rw [if_pos rfl] at ih'
        rw [if_neg (show ¬ b2 true = 0 by decide)]
        cases e : soS row f fam w b s with
        | none =>
          rw [e] at ih'
          rw [show oI none = -1 from rfl, if_pos (by decide)]; exact ih'
        | some t =>
          obtain ⟨t1, _, _⟩ := (soS_spec s).2 t e
          rw [e] at ih'
          dsimp only at ih'
          have ys : row (29512 + 8 * s) = sy row s 0 := rfl
          have yt : row (29512 + 8 * t) = sy row t 0 := rfl
          rw [show oI (some t) = nI t from rfl, if_neg (nI_pos (by omega)), F_stayAt, bd_some, if_pos (inB_n (by omega) (by omega)), F_stayAt, bd_some, if_pos (inB_n (by omega) (by omega)), nI_clamp (by omega), nI_clamp (by omega), hr, ys, yt]
          by_cases d : sy row t 0 ≤ sy row s 0
          · rw [if_pos d] at ih' ⊢; exact ih'
          · rw [if_neg d] at ih' ⊢; exact ih'
    rw [hr, n0, if_neg (nI_ge lt (by omega)), F_stayAt, bd_some, fa_lit 1, if_pos q1, n1, hr, y1, if_pos (inB_n (by omega) (by omega)), nI_clamp (by omega), hf _ l1]
    unfold F_X12_stayOf_71 F_X12_stayOf_67
    by_cases c : f (cl (sy row s 1)) = fam
    · rw [if_pos c]
      have em : mB row f fam w b s = (cvB (sy row) s w && (decide (sy row s 3 ≤ nI w) == b)) := by unfold mB; rw [decide_eq_true c, Bool.true_and]
      cases b with
      | false =>
        rw [if_pos (show b2 false = 0 from rfl), F_squatsIn hV lt hr, bd_some]
        have em' : mB row f fam w false s = (cvB (sy row) s w && !decide (sy row s 3 ≤ nI w)) := by
          rw [em]; cases decide (sy row s 3 ≤ nI w) <;> rfl
        cases h : (cvB (sy row) s w && !decide (sy row s 3 ≤ nI w)) with
        | false => rw [if_pos (show b2 false = 0 from rfl)]; exact fin false (by rw [em', h])
        | true => rw [if_neg (show ¬ b2 true = 0 by decide)]; exact fin true (by rw [em', h])
      | true =>
        rw [if_neg (show ¬ b2 true = 0 by decide), F_livesIn hV lt hr, bd_some]
        have em' : mB row f fam w true s = (cvB (sy row) s w && decide (sy row s 3 ≤ nI w)) := by
          rw [em]; cases decide (sy row s 3 ≤ nI w) <;> rfl
        cases h : (cvB (sy row) s w && decide (sy row s 3 ≤ nI w)) with
        | false => rw [if_pos (show b2 false = 0 from rfl)]; exact fin false (by rw [em', h])
        | true => rw [if_neg (show ¬ b2 true = 0 by decide)]; exact fin true (by rw [em', h])
    · rw [if_neg c]
      exact fin false (by unfold mB; rw [decide_eq_false c, Bool.false_and])
theorem F_stayOf {row : Nat → Int32} {f : Nat → Int32} {fam : Int32} {w : Nat} {b : Bool} {σ : AH} (hV : SyV row) (hE : EV row) (hr : gI σ 125 = row) (hf : ∀ e, e < nE row → gI σ 160 e = f e) : F_X12_stayOf fam (nI w) (b2 b) σ = some (oI (soS row f fam w b (nY row)), σ) := by
  have n30 := hV.n.2
  unfold F_X12_stayOf
  obtain ⟨g, hg⟩ := BIGe (nY row) (by omega)
  rw [hg]
  exact stayOf_loop hV hE hr hf (nY row) 0 (by omega)
/-- by who is where: the least PLOT in which the FAMILY lives (squats) -/
def rfP (oc : Nat → Nat → Option (Nat × Nat × Bool × Nat)) (f : Nat → Int32) (fam : Int32) (w : Nat) (b : Bool) (p : Nat) : Bool := match oc p w with
  | none => false
  | some a => decide (f a.1 = fam) && (a.2.2.1 == b)
theorem stayOf_oc {row : Nat → Int32} {f : Nat → Int32} {fam : Int32} {w : Nat} {b : Bool} {oc : Nat → Nat → Option (Nat × Nat × Bool × Nat)} (hB : BV row) (hV : SyV row) (hR : RpC (nP row) (nY row) (sy row) oc) (hw : w < 260) : (soS row f fam w b (nY row) = none ∧ fsF (rfP oc f fam w b) (nP row) 0 = none) ∨ ∃ s, s < nY row ∧ soS row f fam w b (nY row) = some s ∧ fsF (rfP oc f fam w b) (nP row) 0 = some (cl (sy row s 0)) ∧ cvB (sy row) s w = true ∧ oc (cl (sy row s 0)) w = some (atC (sy row) s w) := by
  have b30 := hB.p.2.1
  obtain ⟨sp1, sp2⟩ := soS_spec (row := row) (f := f) (fam := fam) (w := w) (b := b) (nY row)
  have of : ∀ p, p < nP row → rfP oc f fam w b p = true → ∃ s, s < nY row ∧ sy row s 0 = nI p ∧ mB row f fam w b s = true := fun p hp h => by
    unfold rfP at h
    cases o : oc p w with
    | none => rw [o] at h; cases h
    | some a =>
      rw [o] at h
      dsimp only at h
      obtain ⟨s, s1, s2, s3⟩ := (hR p hp w hw).2.1 a o
      have ha := (hR p hp w hw).1 s s1 s2 s3
      rw [o] at ha
      have ea : a = atC (sy row) s w := by cases ha; rfl
      refine ⟨s, s1, s2, ?_⟩
      unfold mB
      rw [s3, Bool.true_and]
      rw [ea] at h; exact h
  have to : ∀ s, s < nY row → mB row f fam w b s = true → cvB (sy row) s w = true ∧ oc (cl (sy row s 0)) w = some (atC (sy row) s w) ∧ rfP oc f fam w b (cl (sy row s 0)) = true := fun s hs h => by
    obtain ⟨v0, _⟩ := hV.2 s hs
    unfold mB at h
    have h' := Bool.and_eq_true_iff.mp h
    have h2 := Bool.and_eq_true_iff.mp h'.2
    have o := (hR (cl (sy row s 0)) v0.2 w hw).1 s hs v0.1 h2.1
    refine ⟨h2.1, o, ?_⟩
    unfold rfP
    rw [o]
    show (decide (f (cl (sy row s 1)) = fam) && (decide (sy row s 3 ≤ nI w) == b)) = true
    rw [h'.1, h2.2]; rfl
  cases e : soS row f fam w b (nY row) with
  | none =>
    left
    refine ⟨rfl, fsF_no (fun p hp => ?_)⟩
    cases h : rfP oc f fam w b p with
    | false => rfl
    | true =>
      obtain ⟨s, s1, _, s3⟩ := of p hp h
      have := sp1 e s s1; rw [s3] at this; cases this
  | some s =>
    right
    obtain ⟨a1, a2, a3⟩ := sp2 s e
    obtain ⟨t1, t2, t3⟩ := to s a1 a2
    obtain ⟨v0, _⟩ := hV.2 s a1
    have l0 := v0.2
    refine ⟨s, a1, rfl, fsF_is l0 t3 (fun p hp => ?_), t1, t2⟩
    cases h : rfP oc f fam w b p with
    | false => rfl
    | true =>
      obtain ⟨t, u1, u2, u3⟩ := of p (by omega) h
      have := a3 t u1 u3
      rw [u2, v0.1, nI_leI (by omega) (by omega)] at this
      omega
/-! roof -/
def roofV (row : Nat → Int32) (oc : Nat → Nat → Option (Nat × Nat × Bool × Nat)) (f : Nat → Int32) (x1 x2 : Int32) : Int32 := if ltB (nE row) x1 = true ∧ rgB 0 259 x2 = true ∧ ¬ x2 < en row (cl x1) 6 then oI (fsF (rfP oc f (f (cl x1)) (cl x2) true) (nP row) 0) else -1
theorem P_roof {row : Nat → Int32} {oc : Nat → Nat → Option (Nat × Nat × Bool × Nat)} {x1 x2 : Int32} {σ : AH} (hB : BV row) (hE : EV row) (hV : SyV row) (hR : RpC (nP row) (nY row) (sy row) oc) (hr : gI σ 125 = row) : ∃ τ f, F_X12_roof x1 x2 σ = some (roofV row oc f x1 x2, τ) ∧ (rgB 0 259 x2 = true → FmF row x2 f) ∧ Ch [160] [(124, 0)] σ τ := by
  have n60 := hE.n.2
  have b30 := hB.p.2.1
  have n30 := hV.n.2
  have c0 : Ch [160] [(124, 0)] σ (sI σ 124 0 0) := Ch.sI1 (Or.inl (by simp))
  unfold F_X12_roof
  have ie : F_X12_isEntry x1 (sI σ 124 0 (0 : Int32)) = some (if ltB (nE row) x1 = true then 1 else 0, sI σ 124 0 0) := F_isEntryR hE hr
  rw [ie, bd_b (α := Int32), F_isWeek, bd_b (α := Int32)]
  obtain ⟨τ, t1, t2, t3⟩ := F_findFamilies (k := x2) (σ := sI σ 124 0 0) hE hr
  have bad : ¬ (ltB (nE row) x1 = true ∧ rgB 0 259 x2 = true ∧ ¬ x2 < en row (cl x1) 6) → ∃ τ' f, some ((-1 : Int32), sI σ 124 0 0) = some (roofV row oc f x1 x2, τ') ∧ (rgB 0 259 x2 = true → FmF row x2 f) ∧ Ch [160] [(124, 0)] σ τ' := fun z => ⟨sI σ 124 0 0, gI τ 160, by unfold roofV; rw [if_neg z], fun _ => t2, c0⟩
  by_cases c1 : ltB (nE row) x1 = true
  · rw [if_pos c1]
    by_cases c2 : rgB 0 259 x2 = true
    · rw [if_pos c2]
      obtain ⟨e1, b1⟩ := ltB_n c1 (by omega)
      obtain ⟨e2, b2'⟩ := rg0_n (b := 259) c2 (by decide)
      have a6 : F_X12_entryAt x1 (6 : Int32) (sI σ 124 0 (0 : Int32)) = some (en row (cl x1) 6, sI σ 124 0 0) := by
        have := F_entryAt (σ := sI σ 124 0 (0 : Int32)) (e := cl x1) (j := 6) hE b1 (by decide) hr
        rw [← e1] at this; exact this
      rw [a6, bd_some]
      by_cases c3 : x2 < en row (cl x1) 6
      · rw [if_neg (fun z => by rw [Int32.lt_iff_toInt_lt] at c3; rw [Int32.le_iff_toInt_le] at z; omega)]
        exact bad (fun z => z.2.2 c3)
      · rw [if_pos (by rw [Int32.lt_iff_toInt_lt] at c3; rw [Int32.le_iff_toInt_le]; omega)]
        have q : inB x1 60 = true := by rw [e1]; exact inB_n (by omega) (by omega)
        have r1 : gI τ 125 = row := by rw [t3.rI (by simp) (by simp)]; exact hr
        have so : F_X12_stayOf (gI τ 160 x1.toNatClampNeg) x2 (1 : Int32) τ = some (oI (soS row (gI τ 160) (gI τ 160 (cl x1)) (cl x2) true (nY row)), τ) := by
          have := F_stayOf (f := gI τ 160) (fam := gI τ 160 (cl x1)) (w := cl x2) (b := true) hV hE r1 (fun _ _ => rfl)
          rw [← e2] at this; exact this
        rw [t1, bv_some, if_pos q, so, bd_some]
        have cF : Ch [160] [(124, 0)] σ τ := c0.trans (t3.mono (by simp) (by simp))
        have rv : roofV row oc (gI τ 160) x1 x2 = oI (fsF (rfP oc (gI τ 160) (gI τ 160 (cl x1)) (cl x2) true) (nP row) 0) := by unfold roofV; rw [if_pos ⟨c1, c2, c3⟩]
        rcases stayOf_oc (f := gI τ 160) (fam := gI τ 160 (cl x1)) (b := true) hB hV hR (show cl x2 < 260 by omega) with ⟨z1, z2⟩ | ⟨s, s1, s2, s3, s4, s5⟩
        · rw [z1, show oI none = -1 from rfl, if_pos rfl]
          exact ⟨τ, gI τ 160, by rw [rv, z2]; rfl, fun _ => t2, cF⟩
        · obtain ⟨v0, _⟩ := hV.2 s s1
          have y0 : row (29512 + 8 * s) = nI (cl (sy row s 0)) := v0.1
          rw [s2, show oI (some s) = nI s from rfl, if_neg (nI_neg1 (by omega)), F_stayAt, bd_some, if_pos (inB_n (by omega) (by omega)), nI_clamp (by omega), r1, y0]
          exact ⟨τ, gI τ 160, by rw [rv, s3]; rfl, fun _ => t2, cF⟩
    · rw [if_neg c2]; exact bad (fun z => c2 z.2.1)
  · rw [if_neg c1]; exact bad (fun z => c1 z.1)
end
