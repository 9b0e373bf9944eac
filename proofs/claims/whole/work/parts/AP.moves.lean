section
/-! moves: a stay ends, a stay begins -/
/-- no stay began after WEEK W -/
def FrC (n : Nat) (C : Nat → Nat → Int32) (W : Nat) : Prop := ∀ s, s < n → C s 2 ≤ nI W
def upC (C : Nat → Nat → Int32) (s j : Nat) (v : Int32) : Nat → Nat → Int32 := fun t i => if t = s ∧ i = j then v else C t i
def ocL (oc : Nat → Nat → Option (Nat × Nat × Bool × Nat)) (p w : Nat) : Nat → Nat → Option (Nat × Nat × Bool × Nat) := fun q v => if q = p ∧ w ≤ v then none else oc q v
theorem cv_iff {C : Nat → Nat → Int32} {s w : Nat} (hw : w < 2 ^ 31) : cvB C s w = true ↔ (C s 2).toInt ≤ w ∧ (w : Int) < (C s 4).toInt ∧ (w : Int) < (C s 5).toInt := by
  unfold cvB
  rw [Bool.and_eq_true, Bool.and_eq_true, decide_eq_true_iff, Bool.not_eq_true', Bool.not_eq_true', decide_eq_false_iff_not, decide_eq_false_iff_not, Int32.le_iff_toInt_le, Int32.le_iff_toInt_le, Int32.le_iff_toInt_le, nI_toInt (by omega)]
  omega
theorem cv_down {C : Nat → Nat → Int32} {s v w : Nat} (hv : v < 260) (h : cvB C s v = true) (hf : C s 2 ≤ nI w) (hw : w ≤ v) : cvB C s w = true := by
  rw [cv_iff (by omega)] at h ⊢
  rw [Int32.le_iff_toInt_le, nI_toInt (by omega)] at hf
  omega
theorem FrC.le {n W w : Nat} {C : Nat → Nat → Int32} (h : FrC n C W) (hw : W ≤ w) (h2 : w < 260) {s : Nat} (hs : s < n) : C s 2 ≤ nI w := by
  have := h s hs
  rw [Int32.le_iff_toInt_le, nI_toInt (by omega)] at this ⊢
  omega
theorem RpC.congr {N n : Nat} {C : Nat → Nat → Int32} {oc oc' : Nat → Nat → Option (Nat × Nat × Bool × Nat)} (h : RpC N n C oc) (e : ∀ p, p < N → ∀ w, w < 260 → oc p w = oc' p w) : RpC N n C oc' := fun p hp w hw => by rw [← e p hp w hw]; exact h p hp w hw
theorem RpC.free {N n W w p : Nat} {C : Nat → Nat → Int32} {oc : Nat → Nat → Option (Nat × Nat × Bool × Nat)} (h : RpC N n C oc) (hF : FrC n C W) (hW : W ≤ w) (hp : p < N) (h0 : oc p w = none) : ∀ v, v < 260 → w ≤ v → oc p v = none := fun v hv l => by
  cases o : oc p v with
  | none => rfl
  | some a =>
    obtain ⟨s, s1, s2, s3⟩ := (h p hp v hv).2.1 a o
    have := (h p hp w (by omega)).1 s s1 s2 (cv_down hv s3 (hF.le hW (by omega) s1) l)
    rw [h0] at this; cases this
theorem upC_ne {C : Nat → Nat → Int32} {s j t i : Nat} {v : Int32} (h : ¬ i = j) : upC C s j v t i = C t i := by unfold upC; rw [if_neg (fun z => h z.2)]
theorem upC_no {C : Nat → Nat → Int32} {s j t i : Nat} {v : Int32} (h : ¬ t = s) : upC C s j v t i = C t i := by unfold upC; rw [if_neg (fun z => h z.1)]
theorem upC_at {C : Nat → Nat → Int32} {s j : Nat} {v : Int32} : upC C s j v s j = v := by unfold upC; rw [if_pos ⟨rfl, rfl⟩]
theorem RpC.leave {N n W w p s : Nat} {C : Nat → Nat → Int32} {oc : Nat → Nat → Option (Nat × Nat × Bool × Nat)} (h : RpC N n C oc) (hF : FrC n C W) (hN : N ≤ 30) (hW : W ≤ w) (hw : w < 260) (hp : p < N) (hs : s < n) (hsp : C s 0 = nI p) (hc : cvB C s w = true) : RpC N n (upC C s 5 (nI w)) (ocL oc p w) ∧ FrC n (upC C s 5 (nI w)) w := by
  have cv : ∀ t v, v < 260 → (cvB (upC C s 5 (nI w)) t v = true ↔ (cvB C t v = true ∧ (t = s → v < w))) := fun t v hv => by
    rw [cv_iff (by omega)] at hc
    rw [cv_iff (by omega), cv_iff (by omega), upC_ne (by decide), upC_ne (by decide)]
    by_cases e : t = s
    · rw [e, upC_at, nI_toInt (by omega)]
      constructor
      · intro z; exact ⟨by omega, fun _ => by omega⟩
      · intro z; have := z.2 rfl; omega
    · rw [upC_no e]
      exact ⟨fun z => ⟨z, fun q => absurd q e⟩, fun z => z.1⟩
  have ea : ∀ t v, atC (upC C s 5 (nI w)) t v = atC C t v := fun t v => by
    unfold atC; rw [upC_ne (by decide), upC_ne (by decide), upC_ne (by decide), upC_ne (by decide)]
  refine ⟨fun q hq v hv => ⟨fun t ht t0 tc => ?_, fun a ha => ?_, fun t u ht hu t0 u0 tc uc => ?_⟩, fun t ht => ?_⟩
  · rw [upC_ne (by decide)] at t0
    obtain ⟨tc1, tc2⟩ := (cv t v hv).mp tc
    rw [ea, ← (h q hq v hv).1 t ht t0 tc1]
    unfold ocL
    refine if_neg (fun z => ?_)
    have z1 : t = s := (h p hp w hw).2.2 t s ht hs (by rw [t0, z.1]) hsp (cv_down hv tc1 (hF.le hW hw ht) z.2) hc
    have := tc2 z1
    omega
  · unfold ocL at ha
    by_cases z : q = p ∧ w ≤ v
    · rw [if_pos z] at ha; cases ha
    · rw [if_neg z] at ha
      obtain ⟨t, t1, t2, t3⟩ := (h q hq v hv).2.1 a ha
      refine ⟨t, t1, by rw [upC_ne (by decide)]; exact t2, (cv t v hv).mpr ⟨t3, fun e => ?_⟩⟩
      have e1 : q = p := by
        rw [e, hsp] at t2
        exact ((nI_eq (by omega) (by omega)).mp t2).symm
      exact Nat.lt_of_not_le (fun l => z ⟨e1, l⟩)
  · rw [upC_ne (by decide)] at t0 u0
    exact (h q hq v hv).2.2 t u ht hu t0 u0 ((cv t v hv).mp tc).1 ((cv u v hv).mp uc).1
  · rw [upC_ne (by decide)]; exact hF.le hW hw ht
/-- somebody goes in, into a PLOT that is free -/
def ocG (oc : Nat → Nat → Option (Nat × Nat × Bool × Nat)) (p w : Nat) (ov lv : Nat → Bool) (e c : Nat) : Nat → Nat → Option (Nat × Nat × Bool × Nat) := fun q v => if q = p ∧ w ≤ v ∧ ov v = false then some (e, w, lv v, c) else oc q v
theorem RpC.goIn {N n n' W w p s e c : Nat} {C C' : Nat → Nat → Int32} {ov lv : Nat → Bool} {oc : Nat → Nat → Option (Nat × Nat × Bool × Nat)} (h : RpC N n C oc) (hF : FrC n C W) (hN : N ≤ 30) (hW : W ≤ w) (hw : w < 260) (hp : p < N) (h0 : oc p w = none)
    (hn : n ≤ n') (hs : s < n') (ho : ∀ t, t < n' → t ≠ s → t < n ∧ ∀ j, C' t j = C t j) (he : s < n → ∀ v, v < 260 → cvB C s v = false)
    (c0 : C' s 0 = nI p) (c1 : cl (C' s 1) = e) (c2 : C' s 2 = nI w) (c3 : ∀ v, v < 260 → decide (C' s 3 ≤ nI v) = lv v) (c4 : ∀ v, v < 260 → decide (C' s 4 ≤ nI v) = ov v) (c5 : (260 : Int32) ≤ C' s 5) (c6 : cl (C' s 6) = c) : RpC N n' C' (ocG oc p w ov lv e c) ∧ FrC n' C' w := by
  have fr := h.free hF hW hp h0
  have l5 : (260 : Int) ≤ (C' s 5).toInt := by
    rw [Int32.le_iff_toInt_le] at c5
    have : (260 : Int32).toInt = 260 := by decide
    omega
  have cvs : ∀ v, v < 260 → (cvB C' s v = true ↔ w ≤ v ∧ ov v = false) := fun v hv => by
    rw [cv_iff (by omega), c2, nI_toInt (by omega), ← c4 v hv, decide_eq_false_iff_not, Int32.le_iff_toInt_le, nI_toInt (by omega)]
    omega
  have cvo : ∀ t v, t < n' → t ≠ s → cvB C' t v = cvB C t v := fun t v ht hne => by
    unfold cvB; rw [(ho t ht hne).2, (ho t ht hne).2, (ho t ht hne).2]
  have ats : ∀ v, v < 260 → atC C' s v = (e, w, lv v, c) := fun v hv => by
    unfold atC
    rw [c1, c2, c3 v hv, c6, show cl (nI w) = w from nI_clamp (by omega)]
  have ato : ∀ t v, t < n' → t ≠ s → atC C' t v = atC C t v := fun t v ht hne => by
    unfold atC; rw [(ho t ht hne).2, (ho t ht hne).2, (ho t ht hne).2, (ho t ht hne).2]
  refine ⟨fun q hq v hv => ⟨fun t ht t0 tc => ?_, fun a ha => ?_, fun t u ht hu t0 u0 tc uc => ?_⟩, fun t ht => ?_⟩
  · by_cases z : t = s
    · subst z
      have e1 : q = p := ((nI_eq (by omega) (by omega)).mp (c0.symm.trans t0)).symm
      rw [ats v hv]
      unfold ocG
      exact if_pos ⟨e1, (cvs v hv).mp tc⟩
    · rw [(ho t ht z).2] at t0
      rw [cvo t v ht z] at tc
      rw [ato t v ht z]
      have o := (h q hq v hv).1 t (ho t ht z).1 t0 tc
      rw [← o]
      unfold ocG
      refine if_neg (fun y => ?_)
      rw [y.1, fr v hv y.2.1] at o; cases o
  · unfold ocG at ha
    by_cases z : q = p ∧ w ≤ v ∧ ov v = false
    · exact ⟨s, hs, by rw [c0, z.1], (cvs v hv).mpr z.2⟩
    · rw [if_neg z] at ha
      obtain ⟨t, t1, t2, t3⟩ := (h q hq v hv).2.1 a ha
      have ne : t ≠ s := fun y => by
        rw [y] at t3 t1
        rw [he t1 v hv] at t3; cases t3
      have ht : t < n' := by omega
      exact ⟨t, ht, by rw [(ho t ht ne).2]; exact t2, by rw [cvo t v ht ne]; exact t3⟩
  · have one : ∀ t, t < n' → t ≠ s → C' t 0 = nI q → cvB C' t v = true → C' s 0 = nI q → cvB C' s v = true → False := fun t ht ne t0 tc s0 sc => by
      have e1 : q = p := ((nI_eq (by omega) (by omega)).mp (c0.symm.trans s0)).symm
      rw [(ho t ht ne).2] at t0
      rw [cvo t v ht ne] at tc
      have o := (h q hq v hv).1 t (ho t ht ne).1 t0 tc
      rw [e1, fr v hv ((cvs v hv).mp sc).1] at o; cases o
    by_cases z : t = s
    · by_cases y : u = s
      · rw [z, y]
      · subst z; exact (one u hu y u0 uc t0 tc).elim
    · by_cases y : u = s
      · subst y; exact (one t ht z t0 tc u0 uc).elim
      · rw [cvo t v ht z] at tc
        rw [cvo u v hu y] at uc
        rw [(ho t ht z).2] at t0
        rw [(ho u hu y).2] at u0
        exact (h q hq v hv).2.2 t u (ho t ht z).1 (ho u hu y).1 t0 u0 tc uc
  · by_cases z : t = s
    · rw [z, c2, Int32.le_iff_toInt_le]; omega
    · rw [(ho t ht z).2]; exact hF.le hW hw (ho t ht z).1
/-! isFree of the reference -/
def frB (row : Nat → Int32) (p w : Nat) : Nat → Bool := fun s => match s with
  | 0 => true
  | s + 1 => frB row p w s && !inB_ (sy row) p w s
theorem frB_t {row : Nat → Int32} {p w : Nat} : ∀ n, frB row p w n = true → ∀ s, s < n → inB_ (sy row) p w s = false := by
  intro n
  induction n with
  | zero => intro _ s hs; omega
  | succ n ih =>
    intro h s hs
    have h' : (frB row p w n && !inB_ (sy row) p w n) = true := h
    have h2 := Bool.and_eq_true_iff.mp h'
    by_cases e : s = n
    · rw [e]; simpa using h2.2
    · exact ih h2.1 s (by omega)
theorem frB_f {row : Nat → Int32} {p w : Nat} : ∀ n, frB row p w n = false → ∃ s, s < n ∧ inB_ (sy row) p w s = true := by
  intro n
  induction n with
  | zero => intro h; cases h
  | succ n ih =>
    intro h
    have h' : (frB row p w n && !inB_ (sy row) p w n) = false := h
    cases e : inB_ (sy row) p w n with
    | true => exact ⟨n, Nat.lt_succ_self _, e⟩
    | false =>
      rw [e, Bool.not_false, Bool.and_true] at h'
      obtain ⟨s, a, b⟩ := ih h'
      exact ⟨s, by omega, b⟩
theorem frB_oc {row : Nat → Int32} {p w : Nat} {oc : Nat → Nat → Option (Nat × Nat × Bool × Nat)} (h : RpC (nP row) (nY row) (sy row) oc) (hp : p < nP row) (hw : w < 260) : frB row p w (nY row) = (oc p w).isNone := by
  obtain ⟨h1, h2, h3⟩ := h p hp w hw
  cases e : frB row p w (nY row) with
  | true =>
    cases o : oc p w with
    | none => rfl
    | some a =>
      obtain ⟨s, s1, s2, s3⟩ := h2 a o
      have := frB_t _ e s s1
      unfold inB_ at this
      rw [decide_eq_true s2, s3] at this; cases this
  | false =>
    obtain ⟨s, s1, s2⟩ := frB_f _ e
    unfold inB_ at s2
    have c := Bool.and_eq_true_iff.mp s2
    rw [h1 s s1 (of_decide_eq_true c.1) c.2]; rfl
theorem free_loop {row : Nat → Int32} {p w g : Nat} {σ : AH} (hV : SyV row) (hr : gI σ 125 = row) : ∀ (j s : Nat), s + j = nY row → F_X12_isFree_5 (j + 1 + g) (nI p) (nI w) (b2 (frB row p w s)) (nI s) σ = some (b2 (frB row p w (nY row)), σ) := by
  obtain ⟨n0, n30⟩ := hV.n
  intro j
  induction j with
  | zero =>
    intro s hs
    rw [show 0 + 1 + g = g + 1 by omega]
    show B_X12_isFree_5 (F_X12_isFree_5 g) (nI p) (nI w) (b2 (frB row p w s)) (nI s) σ = _
    unfold B_X12_isFree_5
    rw [hr, n0, if_pos (nI_le (by omega) (by omega)), show s = nY row by omega]
    cases frB row p w (nY row)
    · exact if_pos (Or.inl rfl)
    · exact if_pos (Or.inr rfl)
  | succ j ih =>
    intro s hs
    rw [show j + 1 + 1 + g = (j + 1 + g) + 1 by omega]
    show B_X12_isFree_5 (F_X12_isFree_5 (j + 1 + g)) (nI p) (nI w) (b2 (frB row p w s)) (nI s) σ = _
    unfold B_X12_isFree_5 F_X12_isFree_50 F_X12_isFree_46 F_X12_isFree_51
    have lt : s < nY row := by omega
    have e0 : row (29512 + 8 * s) = sy row s 0 := rfl
    rw [hr, n0, if_neg (nI_ge lt (by omega)), F_stayAt, bd_some, if_pos (inB_n (by omega) (by omega)), nI_clamp (by omega), hr, e0, F_isInR hV lt hr, bd_some, nI_1]
    have ih' := ih (s + 1) (by omega)
    have st : frB row p w (s + 1) = (frB row p w s && !inB_ (sy row) p w s) := rfl
    rw [st] at ih'
    unfold inB_ at ih'
    cases f : frB row p w s with
    | false =>
      rw [f, Bool.false_and] at ih'
      rw [if_pos (show b2 false = 0 from rfl)]; exact ih'
    | true =>
      rw [f, Bool.true_and] at ih'
      rw [if_neg (show ¬ b2 true = 0 by decide)]
      by_cases c : sy row s 0 = nI p
      · rw [if_pos c]
        rw [decide_eq_true c, Bool.true_and] at ih'
        cases h : cvB (sy row) s w with
        | false =>
          rw [h] at ih'
          rw [if_pos (show b2 false = 0 from rfl)]; exact ih'
        | true =>
          rw [h] at ih'
          rw [if_neg (show ¬ b2 true = 0 by decide)]; exact ih'
      · rw [if_neg c]
        rw [decide_eq_false c, Bool.false_and] at ih'
        exact ih'
theorem F_isFreeR {row : Nat → Int32} {oc : Nat → Nat → Option (Nat × Nat × Bool × Nat)} {p w : Nat} {σ : AH} (hV : SyV row) (hr : gI σ 125 = row) (hR : RpC (nP row) (nY row) (sy row) oc) (hp : p < nP row) (hw : w < 260) : F_X12_isFree (nI p) (nI w) σ = some (b2 (oc p w).isNone, σ) := by
  have n30 := hV.n.2
  unfold F_X12_isFree
  obtain ⟨g, hg⟩ := BIGe (nY row) (by omega)
  rw [hg, ← frB_oc hR hp hw]
  exact free_loop hV hr (nY row) 0 (by omega)
end
