section
/-! the first that is so -/
def fsF (P : Nat → Bool) : Nat → Nat → Option Nat := fun j => match j with
  | 0 => fun _ => none
  | j + 1 => fun s => if P s = true then some s else fsF P j (s + 1)
theorem fsF_some {P : Nat → Bool} : ∀ j s x, fsF P j s = some x → s ≤ x ∧ x < s + j ∧ P x = true ∧ ∀ y, s ≤ y → y < x → P y = false := by
  intro j
  induction j with
  | zero => intro s x h; cases h
  | succ j ih =>
    intro s x h
    unfold fsF at h
    by_cases c : P s = true
    · rw [if_pos c] at h; cases h
      exact ⟨Nat.le_refl _, by omega, c, fun y h1 h2 => by omega⟩
    · rw [if_neg c] at h
      obtain ⟨a, b, d, e⟩ := ih (s + 1) x h
      refine ⟨by omega, by omega, d, fun y h1 h2 => ?_⟩
      by_cases z : y = s
      · rw [z]; simpa using c
      · exact e y (by omega) h2
theorem fsF_none {P : Nat → Bool} : ∀ j s, fsF P j s = none → ∀ y, s ≤ y → y < s + j → P y = false := by
  intro j
  induction j with
  | zero => intro s _ y h1 h2; omega
  | succ j ih =>
    intro s h y h1 h2
    unfold fsF at h
    by_cases c : P s = true
    · rw [if_pos c] at h; cases h
    · rw [if_neg c] at h
      by_cases z : y = s
      · rw [z]; simpa using c
      · exact ih (s + 1) h y (by omega) (by omega)
theorem fsF_is {P : Nat → Bool} {n x : Nat} (hx : x < n) (h : P x = true) (hu : ∀ y, y < x → P y = false) : fsF P n 0 = some x := by
  cases e : fsF P n 0 with
  | none => have := fsF_none n 0 e x (Nat.zero_le x) (by omega); rw [h] at this; cases this
  | some z =>
    obtain ⟨_, b, c, d⟩ := fsF_some n 0 z e
    rcases Nat.lt_trichotomy z x with l | l | l
    · have := hu z l; rw [c] at this; cases this
    · rw [l]
    · have := d x (Nat.zero_le x) l; rw [h] at this; cases this
theorem fsF_no {P : Nat → Bool} {n : Nat} (h : ∀ y, y < n → P y = false) : fsF P n 0 = none := by
  cases e : fsF P n 0 with
  | none => rfl
  | some z =>
    obtain ⟨_, b, c, _⟩ := fsF_some n 0 z e
    have := h z (by omega); rw [c] at this; cases this
/-! a table of the class, whatever stands in it -/
def TbG (σ : AH) (t wd mst n : Nat) (C : Nat → Nat → Int32) : Prop :=
  (kd σ t = (8, NO 8) ∧ t < nx σ) ∧ (gI σ t 0 = nI wd ∧ gI σ t 1 = nI mst ∧ gI σ t 3 = nI n ∧ n ≤ mst) ∧
  ∃ b L, gR σ t 2 = some b ∧ (kd σ b = (100, L) ∧ b < nx σ) ∧ (n * wd ≤ L ∧ L ≤ mst * wd) ∧ (b = t + 1 ∨ 166 ≤ b) ∧ ∀ s j, s < n → j < wd → gI σ b (s * wd + j) = C s j
theorem TbG.ch {σ τ : AH} {t wd mst n : Nat} {C : Nat → Nat → Int32} {cs : List Nat} {fs : List (Nat × Nat)} (h : TbG σ t wd mst n C) (c : Ch cs fs σ τ) (h1 : ∀ i ∈ cs, i < 166 ∧ i ≠ t ∧ i ≠ t + 1) (h2 : ∀ q ∈ fs, q.1 < 166 ∧ q.1 ≠ t ∧ q.1 ≠ t + 1) : TbG τ t wd mst n C := by
  obtain ⟨⟨a1, a2⟩, ⟨b1, b2', b3, b4⟩, b, L, c1, ⟨c2, c3⟩, c4, c5, c6⟩ := h
  have rt : gI τ t = gI σ t := c.rI (fun q => (h1 t q).2.1 rfl) (fun q hq => (h2 q hq).2.1)
  have rb : gI τ b = gI σ b := by
    refine c.rI (fun q => ?_) (fun q hq e => ?_)
    · have := h1 b q; omega
    · have := h2 q hq; omega
  exact ⟨⟨by rw [c.1]; exact a1, by rw [c.2.1]; exact a2⟩, ⟨by rw [rt]; exact b1, by rw [rt]; exact b2', by rw [rt]; exact b3, b4⟩, b, L, by rw [c.2.2.2.1]; exact c1, ⟨by rw [c.1]; exact c2, by rw [c.2.1]; exact c3⟩, c4, c5, by rw [rb]; exact c6⟩
theorem F_atG {σ : AH} {t wd mst n r c : Nat} {C : Nat → Nat → Int32} (h : TbG σ t wd mst n C) (hr : r < n) (hc : c < wd) (hm : mst * wd < 2 ^ 30) : F_X8_at t (nI r) (nI c) σ = some (C r c, σ) := by
  obtain ⟨⟨a1, a2⟩, ⟨b1, b2', b3, b4⟩, b, L, c1, ⟨c2, c3⟩, ⟨c4, c5⟩, c6, c7⟩ := h
  have i1 : nI r * nI wd + nI c = nI (r * wd + c) := by rw [pk_mul, nI_add]
  have lt1 : r * wd + c < n * wd := by
    have : (r + 1) * wd ≤ n * wd := Nat.mul_le_mul_right wd hr
    have e : (r + 1) * wd = r * wd + wd := Nat.succ_mul r wd
    omega
  unfold F_X8_at
  rw [if_pos a1, if_pos a2, b1, i1, if_neg (nI_pos (by omega)), c1, bo_some, if_pos ⟨by rw [c2], c3⟩, c2]
  rw [show Int32.ofNat (100, L).2 = nI L from rfl, if_neg (nI_ge (by omega) (by omega)), bo_some, if_pos ⟨by rw [c2], c3⟩]
  rw [c2, if_pos (inB_n (show r * wd + c < (100, L).2 by show r * wd + c < L; omega) (by show L < 2 ^ 31; omega)), nI_clamp (by omega), c7 r c hr hc]
theorem F_rowsG {σ : AH} {t wd mst n : Nat} {C : Nat → Nat → Int32} (h : TbG σ t wd mst n C) : F_X8_rows t σ = some (nI n, σ) := by
  unfold F_X8_rows
  rw [if_pos h.1.1, if_pos h.1.2, h.2.1.2.2.1]
/-- the class's stays -/
def TbY (σ : AH) (n : Nat) (C : Nat → Nat → Int32) : Prop := TbG σ 17 7 7830 n C
def inB_ (C : Nat → Nat → Int32) (p w s : Nat) : Bool := decide (C s 0 = nI p) && cvB C s w
theorem stayIn_loop {n p w g : Nat} {C : Nat → Nat → Int32} {σ : AH} (hT : TbY σ n C) : ∀ (j s : Nat), s + j = n → F_X2_stayIn_2 (j + 1 + g) (nI p) (nI w) (nI s) σ = some (oI (fsF (inB_ C p w) j s), σ) := by
  have hn : n ≤ 7830 := hT.2.1.2.2.2
  intro j
  induction j with
  | zero =>
    intro s hs
    rw [show 0 + 1 + g = g + 1 by omega]
    show B_X2_stayIn_2 (F_X2_stayIn_2 g) (nI p) (nI w) (nI s) σ = _
    unfold B_X2_stayIn_2
    rw [F_rowsG hT, bd_some, if_pos (nI_le (by omega) (by omega))]; rfl
  | succ j ih =>
    intro s hs
    rw [show j + 1 + 1 + g = (j + 1 + g) + 1 by omega]
    show B_X2_stayIn_2 (F_X2_stayIn_2 (j + 1 + g)) (nI p) (nI w) (nI s) σ = _
    unfold B_X2_stayIn_2 F_X2_stayIn_82
    have lt : s < n := by omega
    have a0 : F_X8_at 17 (nI s) (0 : Int32) σ = some (C s 0, σ) := F_atG (c := 0) hT lt (by decide) (by decide)
    have a2 : F_X8_at 17 (nI s) (2 : Int32) σ = some (C s 2, σ) := F_atG (c := 2) hT lt (by decide) (by decide)
    have a4 : F_X8_at 17 (nI s) (4 : Int32) σ = some (C s 4, σ) := F_atG (c := 4) hT lt (by decide) (by decide)
    have a5 : F_X8_at 17 (nI s) (5 : Int32) σ = some (C s 5, σ) := F_atG (c := 5) hT lt (by decide) (by decide)
    rw [F_rowsG hT, bd_some, if_neg (nI_ge lt (by omega))]
    simp only [a0, a2, a4, a5, bd_some, nI_1]
    have st : fsF (inB_ C p w) (j + 1) s = if inB_ C p w s = true then some s else fsF (inB_ C p w) j (s + 1) := rfl
    have ih' := ih (s + 1) (by omega)
    rw [st]
    unfold inB_ cvB at *
    by_cases c0 : C s 0 = nI p
    · rw [if_pos c0, decide_eq_true c0]
      by_cases c2 : nI w < C s 2
      · have l2 : ¬ C s 2 ≤ nI w := fun z => by rw [Int32.le_iff_toInt_le] at z; rw [Int32.lt_iff_toInt_lt] at c2; omega
        rw [if_pos c2, decide_eq_false l2, Bool.false_and, Bool.and_false, if_neg (by decide)]; exact ih'
      · have l2 : C s 2 ≤ nI w := by rw [Int32.le_iff_toInt_le]; rw [Int32.lt_iff_toInt_lt] at c2; omega
        rw [if_neg c2, decide_eq_true l2]
        by_cases c4 : C s 4 ≤ nI w
        · rw [if_pos c4, decide_eq_true c4, Bool.not_true, Bool.false_and, Bool.and_false, Bool.and_false, if_neg (by decide)]; exact ih'
        · rw [if_neg c4, decide_eq_false c4]
          by_cases c5 : C s 5 ≤ nI w
          · rw [if_pos c5, decide_eq_true c5, Bool.not_true, Bool.and_false, Bool.and_false, Bool.and_false, if_neg (by decide)]; exact ih'
          · rw [if_neg c5, decide_eq_false c5, if_pos (by rfl)]; rfl
    · rw [if_neg c0, decide_eq_false c0, Bool.false_and, if_neg (by decide)]; exact ih'
theorem F_stayIn {n p w : Nat} {C : Nat → Nat → Int32} {σ : AH} (hT : TbY σ n C) : F_X2_stayIn (nI p) (nI w) σ = some (oI (fsF (inB_ C p w) n 0), σ) := by
  have hn : n ≤ 7830 := hT.2.1.2.2.2
  unfold F_X2_stayIn
  obtain ⟨g, hg⟩ := BIGe n (by omega)
  rw [hg]
  exact stayIn_loop hT n 0 (by omega)
/-- whose stay it is, by who is where -/
theorem stayIn_oc {N n p w : Nat} {C : Nat → Nat → Int32} {oc : Nat → Nat → Option (Nat × Nat × Bool × Nat)} (h : RpC N n C oc) (hp : p < N) (hw : w < 260) : (oc p w = none ∧ fsF (inB_ C p w) n 0 = none) ∨ ∃ s, s < n ∧ fsF (inB_ C p w) n 0 = some s ∧ oc p w = some (atC C s w) ∧ C s 0 = nI p ∧ cvB C s w = true := by
  obtain ⟨h1, h2, h3⟩ := h p hp w hw
  cases e : fsF (inB_ C p w) n 0 with
  | none =>
    left
    refine ⟨?_, rfl⟩
    cases o : oc p w with
    | none => rfl
    | some a =>
      obtain ⟨s, s1, s2, s3⟩ := h2 a o
      have := fsF_none n 0 e s (Nat.zero_le s) (by omega)
      unfold inB_ at this
      rw [decide_eq_true s2, s3] at this; cases this
  | some s =>
    right
    obtain ⟨_, b, c, _⟩ := fsF_some n 0 s e
    unfold inB_ at c
    have c' := Bool.and_eq_true_iff.mp c
    have c0 := of_decide_eq_true c'.1
    exact ⟨s, by omega, rfl, h1 s (by omega) c0 c'.2, c0, c'.2⟩
theorem lvS_oc {row : Nat → Int32} {p w : Nat} {oc : Nat → Nat → Option (Nat × Nat × Bool × Nat)} (h : RpC (nP row) (nY row) (sy row) oc) (hp : p < nP row) (hw : w < 260) : (lvS row p w (nY row) = none ∧ ∀ a, oc p w = some a → a.2.2.1 = false) ∨ ∃ s, s < nY row ∧ lvS row p w (nY row) = some s ∧ oc p w = some (atC (sy row) s w) ∧ sy row s 3 ≤ nI w := by
  obtain ⟨h1, h2, h3⟩ := h p hp w hw
  cases e : lvS row p w (nY row) with
  | none =>
    left
    refine ⟨rfl, fun a ha => ?_⟩
    obtain ⟨s, s1, s2, s3⟩ := h2 a ha
    have := h1 s s1 s2 s3
    rw [ha] at this
    have := lvS_none _ e s s1
    unfold svB at this
    rw [decide_eq_true s2, s3, Bool.true_and, Bool.true_and] at this
    have ea : a = atC (sy row) s w := by cases ‹some a = _›; rfl
    rw [ea]; exact this
  | some s =>
    right
    obtain ⟨b, c⟩ := lvS_some _ s e
    unfold svB at c
    have c' := Bool.and_eq_true_iff.mp c
    have c2 := Bool.and_eq_true_iff.mp c'.2
    exact ⟨s, b, rfl, h1 s b (of_decide_eq_true c'.1) c2.1, of_decide_eq_true c2.2⟩
/-! lives -/
def lvsV (a : Option (Nat × Nat × Bool × Nat)) (x3 : Int32) : Int32 := match a with
  | none => -1
  | some a => if a.2.2.1 = true then (if x3 = 0 then nI a.1 else if x3 = 1 then nI a.2.1 else nI a.2.2.2) else -1
def livesV (N : Nat) (oc : Nat → Nat → Option (Nat × Nat × Bool × Nat)) (x1 x2 x3 : Int32) : Int32 := if ltB N x1 = true then (if rgB 0 259 x2 = true then (if rgB 0 2 x3 = true then lvsV (oc (cl x1) (cl x2)) x3 else -1) else -1) else -1
theorem P_lives {row : Nat → Int32} {oc : Nat → Nat → Option (Nat × Nat × Bool × Nat)} {x1 x2 x3 : Int32} {σ : AH} (hB : BV row) (hV : SyV row) (hR : RpC (nP row) (nY row) (sy row) oc) (hr : gI σ 125 = row) : F_X12_lives x1 x2 x3 σ = some (livesV (nP row) oc x1 x2 x3, sI σ 124 0 0) := by
  have b30 := hB.p.2.1
  have n30 := hV.n.2
  unfold F_X12_lives livesV
  have ip : F_X12_isPlot x1 (sI σ 124 0 0) = some (if ltB (nP row) x1 = true then 1 else 0, sI σ 124 0 0) := F_isPlot hB hr
  rw [ip, bd_b (α := Int32), F_isWeek, bd_b (α := Int32), in02, bd_b (α := Int32)]
  by_cases c1 : ltB (nP row) x1 = true
  · rw [if_pos c1, if_pos c1]
    by_cases c2 : rgB 0 259 x2 = true
    · rw [if_pos c2, if_pos c2]
      by_cases c3 : rgB 0 2 x3 = true
      · rw [if_pos c3, if_pos c3]
        obtain ⟨e1, b1⟩ := ltB_n c1 (by omega)
        obtain ⟨e2, b2'⟩ := rg0_n (b := 259) c2 (by decide)
        have hr0 : gI (sI σ 124 0 (0 : Int32)) 125 = row := hr
        have lv : F_X12_livingIn x1 x2 (sI σ 124 0 (0 : Int32)) = some (oI (lvS row (cl x1) (cl x2) (nY row)), sI σ 124 0 0) := by
          have := F_livingIn (p := cl x1) (w := cl x2) (σ := sI σ 124 0 (0 : Int32)) hV hr0
          rw [← e1, ← e2] at this; exact this
        rw [lv, bd_some]
        rcases lvS_oc hR b1 (show cl x2 < 260 by omega) with ⟨z1, z2⟩ | ⟨s, s1, s2, s3, s4⟩
        · rw [z1, show oI none = -1 from rfl, if_pos rfl]
          cases o : oc (cl x1) (cl x2) with
          | none => rfl
          | some a =>
            have := z2 a o
            unfold lvsV
            dsimp only
            rw [this, if_neg (by decide)]
        · obtain ⟨v0, v1, v2, v3, v6, v7⟩ := hV.2 s s1
          obtain ⟨q1, n1⟩ := sy_at (s := s) (j := 1) (by omega) (by decide)
          obtain ⟨q2, n2⟩ := sy_at (s := s) (j := 2) (by omega) (by decide)
          obtain ⟨q6, n6⟩ := sy_at (s := s) (j := 6) (by omega) (by decide)
          have y1 : row (29512 + 8 * s + 1) = nI (cl (sy row s 1)) := v1.1
          have y2 : row (29512 + 8 * s + 2) = nI (cl (sy row s 2)) := v2.1
          have y6 : row (29512 + 8 * s + 6) = nI (cl (sy row s 6)) := v6.1
          rw [s2, s3, show oI (some s) = nI s from rfl, if_neg (nI_neg1 (by omega))]
          simp only [F_stayAt, bd_some]
          rw [fa_lit 1, fa_lit 2, fa_lit 6, if_pos q1, if_pos q2, if_pos q6, n1, n2, n6, hr0, y1, y2, y6]
          unfold lvsV atC
          dsimp only
          rw [if_pos (decide_eq_true s4)]
          by_cases d0 : x3 = 0
          · rw [if_pos d0, if_pos d0]
          · rw [if_neg d0, if_neg d0]
            by_cases d1 : x3 = nI 1
            · rw [if_pos d1, if_pos (show x3 = 1 from d1)]
            · rw [if_neg d1, if_neg (show ¬ x3 = 1 from d1)]
      · rw [if_neg c3, if_neg c3]
    · rw [if_neg c2, if_neg c2]
  · rw [if_neg c1, if_neg c1]
theorem F_isLived {n s w : Nat} {C : Nat → Nat → Int32} {σ : AH} (hT : TbY σ n C) (hs : s < n) : F_X2_isLived (nI s) (nI w) σ = some (b2 (decide (C s 3 ≤ nI w)), σ) := by
  unfold F_X2_isLived
  have a3 : F_X8_at 17 (nI s) (3 : Int32) σ = some (C s 3, σ) := F_atG (c := 3) hT hs (by decide) (by decide)
  rw [a3, bd_some]
  by_cases c : nI w < C s 3
  · rw [if_pos c, decide_eq_false (fun z => by rw [Int32.le_iff_toInt_le] at z; rw [Int32.lt_iff_toInt_lt] at c; omega)]; rfl
  · rw [if_neg c, decide_eq_true (by rw [Int32.le_iff_toInt_le]; rw [Int32.lt_iff_toInt_lt] at c; omega)]; rfl
/-- the class's stay of one who lives there -/
def lsY (C : Nat → Nat → Int32) (n p w : Nat) : Option Nat := match fsF (inB_ C p w) n 0 with
  | none => none
  | some s => if C s 3 ≤ nI w then some s else none
theorem F_livedStay {n p w : Nat} {C : Nat → Nat → Int32} {σ : AH} (hT : TbY σ n C) : F_X2_livedStay (nI p) (nI w) σ = some (oI (lsY C n p w), σ) := by
  have hn : n ≤ 7830 := hT.2.1.2.2.2
  unfold F_X2_livedStay lsY
  rw [F_stayIn hT, bd_some]
  cases e : fsF (inB_ C p w) n 0 with
  | none => rw [show oI none = -1 from rfl, if_pos rfl]
  | some s =>
    obtain ⟨_, b, _, _⟩ := fsF_some n 0 s e
    rw [show oI (some s) = nI s from rfl, if_neg (nI_neg1 (by omega)), F_isLived hT (by omega), bd_some]
    dsimp only
    by_cases c : C s 3 ≤ nI w
    · rw [decide_eq_true c, if_neg (show ¬ b2 true = 0 by decide), if_pos c]; rfl
    · rw [decide_eq_false c, if_pos (show b2 false = 0 from rfl), if_neg c]; rfl
theorem lsY_oc {N n p w : Nat} {C : Nat → Nat → Int32} {oc : Nat → Nat → Option (Nat × Nat × Bool × Nat)} (h : RpC N n C oc) (hp : p < N) (hw : w < 260) : (lsY C n p w = none ∧ ∀ a, oc p w = some a → a.2.2.1 = false) ∨ ∃ s, s < n ∧ lsY C n p w = some s ∧ oc p w = some (atC C s w) ∧ C s 3 ≤ nI w := by
  unfold lsY
  rcases stayIn_oc h hp hw with ⟨a, b⟩ | ⟨s, s1, s2, s3, s4, s5⟩
  · rw [b]; exact Or.inl ⟨rfl, fun x hx => by rw [a] at hx; cases hx⟩
  · rw [s2]
    dsimp only
    by_cases c : C s 3 ≤ nI w
    · rw [if_pos c]; exact Or.inr ⟨s, s1, rfl, s3, c⟩
    · rw [if_neg c]
      refine Or.inl ⟨rfl, fun a ha => ?_⟩
      rw [s3] at ha; cases ha
      exact decide_eq_false c
/-- the class's stays as they can be -/
def CyV (N E n : Nat) (C : Nat → Nat → Int32) : Prop := ∀ s, s < n → isN (C s 0) N ∧ isN (C s 1) E ∧ isN (C s 2) 260 ∧ isN (C s 6) 10
theorem C_lives {row : Nat → Int32} {oc : Nat → Nat → Option (Nat × Nat × Bool × Nat)} {n : Nat} {C : Nat → Nat → Int32} {x1 x2 x3 : Int32} {σ : AH} (hB : BV row) (hT : TbB row σ) (hY : TbY σ n C) (hV : CyV (nP row) (nE row) n C) (hE : EV row) (hR : RpC (nP row) n C oc) : F_X11_lives x1 x2 x3 σ = some (livesV (nP row) oc x1 x2 x3, σ) := by
  have b30 := hB.p.2.1
  have hn : n ≤ 7830 := hY.2.1.2.2.2
  unfold F_X11_lives livesV
  rw [F_isPlotC hB hT, bd_b (α := Int32), F_isWeekC, bd_b (α := Int32), isIn02, bd_b (α := Int32)]
  by_cases c1 : ltB (nP row) x1 = true
  · rw [if_pos c1, if_pos c1]
    by_cases c2 : rgB 0 259 x2 = true
    · rw [if_pos c2, if_pos c2]
      by_cases c3 : rgB 0 2 x3 = true
      · rw [if_pos c3, if_pos c3]
        obtain ⟨e1, b1⟩ := ltB_n c1 (by omega)
        obtain ⟨e2, b2'⟩ := rg0_n (b := 259) c2 (by decide)
        have lv : F_X2_livedStay x1 x2 σ = some (oI (lsY C n (cl x1) (cl x2)), σ) := by
          have := F_livedStay (p := cl x1) (w := cl x2) hY
          rw [← e1, ← e2] at this; exact this
        rw [lv, bd_some]
        rcases lsY_oc hR b1 (show cl x2 < 260 by omega) with ⟨z1, z2⟩ | ⟨s, s1, s2, s3, s4⟩
        · rw [z1, show oI none = -1 from rfl, if_pos rfl]
          cases o : oc (cl x1) (cl x2) with
          | none => rfl
          | some a =>
            have := z2 a o
            unfold lvsV
            dsimp only
            rw [this, if_neg (by decide)]
        · obtain ⟨v0, v1, v2, v6⟩ := hV s s1
          have a1 : F_X8_at 17 (nI s) (1 : Int32) σ = some (nI (cl (C s 1)), σ) := by rw [← v1.1]; exact F_atG (c := 1) hY s1 (by decide) (by decide)
          have a2 : F_X8_at 17 (nI s) (2 : Int32) σ = some (nI (cl (C s 2)), σ) := by rw [← v2.1]; exact F_atG (c := 2) hY s1 (by decide) (by decide)
          have a6 : F_X8_at 17 (nI s) (6 : Int32) σ = some (nI (cl (C s 6)), σ) := by rw [← v6.1]; exact F_atG (c := 6) hY s1 (by decide) (by decide)
          rw [s2, s3, show oI (some s) = nI s from rfl, if_neg (nI_neg1 (by omega))]
          unfold F_X11_lives_73 lvsV atC
          dsimp only
          rw [a1, a2, a6, bd_some, bd_some, bd_some, if_pos (decide_eq_true s4)]
          by_cases d0 : x3 = 0
          · rw [if_pos d0, if_pos d0]
          · rw [if_neg d0, if_neg d0]
            by_cases d1 : x3 = 1
            · rw [if_pos d1, if_pos d1]
            · rw [if_neg d1, if_neg d1]
      · rw [if_neg c3, if_neg c3]
    · rw [if_neg c2, if_neg c2]
  · rw [if_neg c1, if_neg c1]
end
