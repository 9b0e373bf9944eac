section
/-! chosen, wish, clear: both sides -/
def LbI (σ : AH) : Prop := (gI σ 124 50 = 0 ∧ gI σ 68 11 = 0 ∧ gI σ 68 13 = -1) ∨ ∃ m v c, m ≤ 6 ∧ BsR m v c σ ∧ BsC m v c σ
theorem PC_chosen {x1 : Int32} {σ : AH} (h : LbI σ) : ∃ v, F_X12_chosen x1 σ = some (v, sI σ 124 0 0) ∧ ∀ τ, gI τ 68 = gI σ 68 → gI τ 82 = gI σ 82 → F_X11_chosen x1 τ = some (v, τ) := by
  unfold F_X12_chosen F_X11_chosen
  have g50 : gI (sI σ 124 0 (0 : Int32)) 124 50 = gI σ 124 50 := gI_sI_ne (by decide)
  have g51 : gI (sI σ 124 0 (0 : Int32)) 124 51 = gI σ 124 51 := gI_sI_ne (by decide)
  have g53 : gI (sI σ 124 0 (0 : Int32)) 124 53 = gI σ 124 53 := gI_sI_ne (by decide)
  have g153 : gI (sI σ 124 0 (0 : Int32)) 153 = gI σ 153 := gI_sI_row (by decide)
  rw [g50, g51, g53]
  rcases h with ⟨a, b, c⟩ | ⟨m, v, c, hm, ⟨r1, r2, r3, r4⟩, ⟨k1, k2, k3⟩⟩
  · rw [if_pos a]
    refine ⟨-1, rfl, fun τ e1 e2 => ?_⟩
    rw [e1, b, c]
    by_cases z : x1 = -1
    · rw [if_pos z]
    · have i := isInN (x := x1) (n := 0) (by decide) (σ := τ)
      have i' : F_X11_isIn x1 (0 : Int32) ((0 : Int32) - (1 : Int32)) τ = some (if ltB 0 x1 = true then 1 else 0, τ) := i
      rw [if_neg z, i', bd_b (α := Int32), if_neg (fun q => by have := of_decide_eq_true q; omega)]
  · rw [if_neg (by rw [r1]; decide), r2, r3, F_inN (by omega), bd_b (α := Int32)]
    by_cases z : x1 = -1
    · rw [if_pos z]
      exact ⟨v, rfl, fun τ e1 e2 => by rw [if_pos z, e1, k2]⟩
    · rw [if_neg z]
      by_cases l : ltB m x1 = true
      · obtain ⟨e, lt⟩ := ltB_n l (by omega)
        have q : inB x1 6 = true := by rw [e]; exact inB_n (by omega) (by omega)
        rw [if_pos l, if_pos q, g153]
        refine ⟨c (cl x1), by rw [show gI σ 153 x1.toNatClampNeg = c (cl x1) from r4 _ lt], fun τ e1 e2 => ?_⟩
        rw [if_neg z, e1, k1, isInN (by omega), bd_b (α := Int32), if_pos l, if_pos q, e2, show gI σ 82 x1.toNatClampNeg = c (cl x1) from k3 _ lt]
      · rw [if_neg l]
        refine ⟨-1, rfl, fun τ e1 e2 => ?_⟩
        rw [if_neg z, e1, k1, isInN (by omega), bd_b (α := Int32), if_neg l]
def anyS (row : Nat → Int32) (p : Nat) : Nat → Bool := fun d => match d with
  | 0 => false
  | d + 1 => anyS row p d || decide (cl (sa row d 0) = p)
theorem anyS_f {row : Nat → Int32} {p : Nat} : ∀ m, anyS row p m = false ↔ ∀ d, d < m → cl (sa row d 0) ≠ p := by
  intro m
  induction m with
  | zero => exact ⟨fun _ d hd => absurd hd (Nat.not_lt_zero d), fun _ => rfl⟩
  | succ m ih =>
    have e : anyS row p (m + 1) = (anyS row p m || decide (cl (sa row m 0) = p)) := rfl
    rw [e, Bool.or_eq_false_iff, ih, decide_eq_false_iff_not]
    constructor
    · rintro ⟨h1, h2⟩ d hd
      rcases Nat.lt_or_ge d m with z | z
      · exact h1 d z
      · rw [show d = m by omega]; exact h2
    · intro h
      exact ⟨fun d hd => h d (by omega), h m (by omega)⟩
theorem anyS_up {row : Nat → Int32} {p m : Nat} (h : anyS row p m = true) : ∀ j, anyS row p (m + j) = true := by
  intro j
  induction j with
  | zero => exact h
  | succ j ih =>
    have e : anyS row p (m + j + 1) = (anyS row p (m + j) || decide (cl (sa row (m + j) 0) = p)) := rfl
    rw [show m + (j + 1) = m + j + 1 by omega, e, ih]; rfl
def anyW (wi : Nat → Nat) (p : Nat) : Nat → Bool := fun d => match d with
  | 0 => false
  | d + 1 => anyW wi p d || decide (wi d = p)
theorem anyW_f {wi : Nat → Nat} {p : Nat} : ∀ m, anyW wi p m = false ↔ ∀ d, d < m → wi d ≠ p := by
  intro m
  induction m with
  | zero => exact ⟨fun _ d hd => absurd hd (Nat.not_lt_zero d), fun _ => rfl⟩
  | succ m ih =>
    have e : anyW wi p (m + 1) = (anyW wi p m || decide (wi m = p)) := rfl
    rw [e, Bool.or_eq_false_iff, ih, decide_eq_false_iff_not]
    constructor
    · rintro ⟨h1, h2⟩ d hd
      rcases Nat.lt_or_ge d m with z | z
      · exact h1 d z
      · rw [show d = m by omega]; exact h2
    · intro h
      exact ⟨fun d hd => h d (by omega), h m (by omega)⟩
theorem anyW_up {wi : Nat → Nat} {p m : Nat} (h : anyW wi p m = true) : ∀ j, anyW wi p (m + j) = true := by
  intro j
  induction j with
  | zero => exact h
  | succ j ih =>
    have e : anyW wi p (m + j + 1) = (anyW wi p (m + j) || decide (wi (m + j) = p)) := rfl
    rw [show m + (j + 1) = m + j + 1 by omega, e, ih]; rfl
def ftV (v : Int32) : Int32 := if 0 ≤ v then 0 else v
theorem told_e {x : Int32} {σ : AH} : F_X12_told x σ = some (x, sI σ 124 1 (ftV x)) := F_told
theorem answer_e {x : Int32} {σ : AH} : F_X11_answer x σ = some (x, sI σ 0 10 (ftV x)) := by rw [F_answer, imin0]; rfl
/-- a PLOT is WISHED: what it answers, and the WISHES behind it -/
def wishV (row : Nat → Int32) (n : Nat) (wi : Nat → Nat) (x1 : Int32) : Int32 := if ltB (nP row) x1 = true then (if anyS row (cl x1) (nS row) = true then -3 else if anyW wi (cl x1) n = true then -4 else if n = 6 then -5 else nI (n + 1)) else -2
def wishN (row : Nat → Int32) (n : Nat) (wi : Nat → Nat) (x1 : Int32) : Nat := if ltB (nP row) x1 = true then (if anyS row (cl x1) (nS row) = true then n else if anyW wi (cl x1) n = true then n else if n = 6 then n else n + 1) else n
def wiU (n : Nat) (wi : Nat → Nat) (p : Nat) : Nat → Nat := fun i => if i = n then p else wi i
theorem WsI_u {n p : Nat} {wi : Nat → Nat} {σ : AH} (h : WsI n wi σ) : WsI n (wiU n wi p) σ := ⟨h.1, fun i hi => by unfold wiU; rw [if_neg (by omega)]; exact h.2 i hi⟩
theorem CwI_u {n p : Nat} {wi : Nat → Nat} {σ : AH} (h : CwI n wi σ) : CwI n (wiU n wi p) σ := ⟨h.1, fun i hi => by unfold wiU; rw [if_neg (by omega)]; exact h.2 i hi⟩
theorem WiV_u {row : Nat → Int32} {n : Nat} {wi : Nat → Nat} {x1 : Int32} (hB : BV row) (h : WiV row n wi) : WiV row (wishN row n wi x1) (wiU n wi (cl x1)) := by
  have same : ∀ i, i < n → wiU n wi (cl x1) i = wi i := fun i hi => by unfold wiU; rw [if_neg (by omega)]
  have old : WiV row n (wiU n wi (cl x1)) := by
    obtain ⟨a, b, c, d⟩ := h
    refine ⟨a, fun i hi => by rw [same i hi]; exact b i hi, fun i j hi hj => by rw [same i hi, same j hj]; exact c i j hi hj, fun i hi => by rw [same i hi]; exact d i hi⟩
  unfold wishN
  by_cases c1 : ltB (nP row) x1 = true
  · rw [if_pos c1]
    by_cases c2 : anyS row (cl x1) (nS row) = true
    · rw [if_pos c2]; exact old
    · rw [if_neg c2]
      by_cases c3 : anyW wi (cl x1) n = true
      · rw [if_pos c3]; exact old
      · rw [if_neg c3]
        by_cases c4 : n = 6
        · rw [if_pos c4]; exact old
        · rw [if_neg c4]
          have b30 := hB.p.2.1
          obtain ⟨e1, b1⟩ := ltB_n c1 (by omega)
          have s0 := (anyS_f (nS row)).mp (by simpa using c2)
          have w0 := (anyW_f n).mp (by simpa using c3)
          obtain ⟨a, b, c, d⟩ := h
          have new : wiU n wi (cl x1) n = cl x1 := if_pos rfl
          have cs : ∀ i, i < n + 1 → (i < n ∧ wiU n wi (cl x1) i = wi i) ∨ (i = n ∧ wiU n wi (cl x1) i = cl x1) := fun i hi => by
            rcases Nat.lt_or_ge i n with z | z
            · exact Or.inl ⟨z, same i z⟩
            · have : i = n := by omega
              exact Or.inr ⟨this, by rw [this]; exact new⟩
          refine ⟨by omega, fun i hi => ?_, fun i j hi hj e => ?_, fun i hi m hm => ?_⟩
          · rcases cs i hi with ⟨z, y⟩ | ⟨z, y⟩
            · rw [y]; exact b i z
            · rw [y]; exact b1
          · rcases cs i hi with ⟨z, y⟩ | ⟨z, y⟩ <;> rcases cs j hj with ⟨z', y'⟩ | ⟨z', y'⟩
            · rw [y, y'] at e; exact c i j z z' e
            · rw [y, y'] at e; exact absurd e (w0 i z)
            · rw [y, y'] at e; exact absurd e.symm (w0 j z')
            · omega
          · rcases cs i hi with ⟨z, y⟩ | ⟨z, y⟩
            · rw [y]; exact d i z m hm
            · rw [y]; exact s0 m hm
  · rw [if_neg c1]; exact old
theorem wish_63 {n g p : Nat} {wi : Nat → Nat} {σ : AH} (hn : n ≤ 6) (hp : p < 30) (hw30 : ∀ i, i < n → wi i < 30) (hw : WsI n wi σ) : ∀ (j i : Nat), i + j = n → anyW wi p i = false →
    F_X12_wish_63 (j + 1 + g) (nI p) (nI i) σ = if anyW wi p n = true then some (-4, sI σ 124 1 (ftV (-4))) else if n = 6 then some (-5, sI σ 124 1 (ftV (-5))) else some (nI (n + 1), sI (sI (sI σ 152 n (nI p)) 124 48 (nI (n + 1))) 124 1 (ftV (nI (n + 1)))) := by
  intro j
  induction j with
  | zero =>
    intro i hi h
    have e : i = n := by omega
    subst e
    rw [show 0 + 1 + g = g + 1 by omega]
    show B_X12_wish_63 (F_X12_wish_63 g) (nI p) (nI i) σ = _
    unfold B_X12_wish_63
    simp only [told_e, bd_some]
    rw [hw.1, if_pos (nI_le (Nat.le_refl _) (by omega)), h, if_neg (show ¬ false = true by decide)]
    by_cases c : i = 6
    · rw [if_pos c, if_pos (show nI i = (6 : Int32) by rw [c]; rfl)]
    · have g48 : gI (sI σ 152 i (nI p)) 124 48 = nI i := by rw [gI_sI_row (by decide)]; exact hw.1
      rw [if_neg c, if_neg (show ¬ nI i = (6 : Int32) from fun e => c ((nI_eq (b := 6) (by omega) (by decide)).mp e)), if_pos (inB_n (by omega) (by decide)), nI_clamp (by omega), g48, show nI i + (1 : Int32) = nI (i + 1) from nI_1 i, gI_sI_at]
  | succ j ih =>
    intro i hi h
    rw [show j + 1 + 1 + g = (j + 1 + g) + 1 by omega]
    show B_X12_wish_63 (F_X12_wish_63 (j + 1 + g)) (nI p) (nI i) σ = _
    unfold B_X12_wish_63
    have lt : i < n := by omega
    have b := hw30 i lt
    rw [hw.1, if_neg (nI_ge lt (by omega)), if_pos (inB_n (by omega) (by decide)), nI_clamp (by omega), hw.2 i lt]
    have e : anyW wi p (i + 1) = (anyW wi p i || decide (wi i = p)) := rfl
    rw [h, Bool.false_or] at e
    by_cases c : wi i = p
    · rw [decide_eq_true c] at e
      have up := anyW_up e j
      rw [show i + 1 + j = n by omega] at up
      rw [if_pos (by rw [c]), if_pos up, told_e, bd_some]
    · rw [decide_eq_false c] at e
      rw [if_neg (fun z => c ((nI_eq (by omega) (by omega)).mp z)), nI_1]
      exact ih (i + 1) (by omega) e
theorem wish_22 {row : Nat → Int32} {g p : Nat} {σ : AH} (hB : BV row) (hp : p < 30) (hr : gI σ 125 = row) : ∀ (j d : Nat), d + j = nS row → anyS row p d = false →
    F_X12_wish_22 (j + 1 + g) (nI p) (nI d) σ = if anyS row p (nS row) = true then some (-3, sI σ 124 1 (ftV (-3))) else F_X12_wish_63 BIG (nI p) (0 : Int32) σ := by
  obtain ⟨s0, s1, s2⟩ := hB.s
  have b30 := hB.p.2.1
  intro j
  induction j with
  | zero =>
    intro d hd h
    have e : d = nS row := by omega
    rw [show 0 + 1 + g = g + 1 by omega]
    show B_X12_wish_22 (F_X12_wish_22 g) (nI p) (nI d) σ = _
    unfold B_X12_wish_22
    rw [← e, h, if_neg (show ¬ false = true by decide), hr, s0, if_pos (nI_le (by omega) (by omega))]
  | succ j ih =>
    intro d hd h
    rw [show j + 1 + 1 + g = (j + 1 + g) + 1 by omega]
    show B_X12_wish_22 (F_X12_wish_22 (j + 1 + g)) (nI p) (nI d) σ = _
    unfold B_X12_wish_22
    have lt : d < nS row := by omega
    obtain ⟨v0, v1, v2⟩ := s2 d lt
    have l0 := v0.2
    have i0 : (23652 : Int32) + (3 : Int32) * nI d = nI (23652 + 3 * d) := by simp only [fa_lit, nI_add, pk_mul]
    have e0 : row (23652 + 3 * d) = nI (cl (sa row d 0)) := v0.1
    rw [hr, s0, if_neg (nI_ge lt (by omega)), i0, if_pos (inB_n (by omega) (by omega)), nI_clamp (by omega), e0]
    have e : anyS row p (d + 1) = (anyS row p d || decide (cl (sa row d 0) = p)) := rfl
    rw [h, Bool.false_or] at e
    by_cases c : cl (sa row d 0) = p
    · rw [decide_eq_true c] at e
      have up := anyS_up e j
      rw [show d + 1 + j = nS row by omega] at up
      rw [if_pos (by rw [c]), if_pos up, told_e, bd_some]
    · rw [decide_eq_false c] at e
      rw [if_neg (fun z => c ((nI_eq (by omega) (by omega)).mp z)), nI_1]
      exact ih (d + 1) (by omega) e
theorem P_wish {row : Nat → Int32} {n : Nat} {wi : Nat → Nat} {x1 : Int32} {σ : AH} (hB : BV row) (hW : WiV row n wi) (hr : gI σ 125 = row) (hw : WsI n wi σ) :
    ∃ τ, F_X12_wish x1 σ = some (wishV row n wi x1, τ) ∧ WsI (wishN row n wi x1) (wiU n wi (cl x1)) τ ∧ gI τ 124 1 = ftV (wishV row n wi x1) ∧ Ch [152] [(124, 0), (124, 1), (124, 48)] σ τ := by
  have b30 := hB.p.2.1
  have hn := hW.1
  unfold F_X12_wish wishV wishN
  have c0 : Ch [152] [(124, 0), (124, 1), (124, 48)] σ (sI σ 124 0 0) := Ch.sI1 (Or.inl (by simp))
  have w0 : WsI n wi (sI σ 124 0 0) := by unfold WsI; rw [gI_sI_ne (by decide), gI_sI_row (by decide)]; exact hw
  have ip : F_X12_isPlot x1 (sI σ 124 0 0) = some (if ltB (nP row) x1 = true then 1 else 0, sI σ 124 0 0) := F_isPlot hB hr
  rw [ip, bd_b (α := Int32)]
  have bad : ∀ v : Int32, ∃ τ, some (v, sI (sI σ 124 0 0) 124 1 (ftV v)) = some (v, τ) ∧ WsI n (wiU n wi (cl x1)) τ ∧ gI τ 124 1 = ftV v ∧ Ch [152] [(124, 0), (124, 1), (124, 48)] σ τ := fun v => by
    refine ⟨_, rfl, WsI_u ?_, gI_sI_at, c0.trans (Ch.sI1 (Or.inl (by simp)))⟩
    unfold WsI; rw [gI_sI_ne (by decide), gI_sI_row (a := 152) (by decide)]; exact w0
  by_cases c1 : ltB (nP row) x1 = true
  · rw [if_pos c1, if_pos c1, if_pos c1]
    obtain ⟨e1, b1⟩ := ltB_n c1 (by omega)
    obtain ⟨p, hp⟩ : ∃ p, p = cl x1 := ⟨_, rfl⟩
    rw [← hp] at e1 b1 bad ⊢
    rw [e1]
    have s1 := hB.s.2.1
    obtain ⟨g, hg⟩ := BIGe (nS row) (by omega)
    obtain ⟨g', hg'⟩ := BIGe n (by omega)
    have k1 := wish_22 (g := g) (p := p) (σ := sI σ 124 0 0) hB (by omega) hr (nS row) 0 (by omega) rfl
    have k2 := wish_63 (g := g') (p := p) hn (by omega) (fun i hi => by have := hW.2.1 i hi; omega) w0 n 0 (by omega) rfl
    have k1' : F_X12_wish_22 BIG (nI p) (0 : Int32) (sI σ 124 0 0) = if anyS row p (nS row) = true then some (-3, sI (sI σ 124 0 0) 124 1 (ftV (-3))) else F_X12_wish_63 BIG (nI p) (0 : Int32) (sI σ 124 0 0) := by rw [show F_X12_wish_22 BIG = F_X12_wish_22 (nS row + 1 + g) by rw [hg]]; exact k1
    rw [k1']
    by_cases c2 : anyS row p (nS row) = true
    · rw [if_pos c2, if_pos c2, if_pos c2]; exact bad _
    · rw [if_neg c2, if_neg c2, if_neg c2]
      have k2' : F_X12_wish_63 BIG (nI p) (0 : Int32) (sI σ 124 0 0) = if anyW wi p n = true then some (-4, sI (sI σ 124 0 0) 124 1 (ftV (-4))) else if n = 6 then some (-5, sI (sI σ 124 0 0) 124 1 (ftV (-5))) else some (nI (n + 1), sI (sI (sI (sI σ 124 0 0) 152 n (nI p)) 124 48 (nI (n + 1))) 124 1 (ftV (nI (n + 1)))) := by rw [hg']; exact k2
      rw [k2']
      by_cases c3 : anyW wi p n = true
      · rw [if_pos c3, if_pos c3, if_pos c3]; exact bad _
      · rw [if_neg c3, if_neg c3, if_neg c3]
        by_cases c4 : n = 6
        · rw [if_pos c4, if_pos c4, if_pos c4]; exact bad _
        · rw [if_neg c4, if_neg c4, if_neg c4]
          refine ⟨_, rfl, ⟨?_, fun i hi => ?_⟩, gI_sI_at, ((c0.trans (Ch.sI1 (Or.inr (by simp)))).trans (Ch.sI1 (Or.inl (by simp)))).trans (Ch.sI1 (Or.inl (by simp)))⟩
          · rw [gI_sI_ne (by decide), gI_sI_at]
          · rw [gI_sI_row (by decide), gI_sI_row (by decide)]
            unfold wiU
            by_cases e : i = n
            · subst e; rw [if_pos rfl, gI_sI_at]
            · rw [if_neg e, gI_sI_ne e]; exact w0.2 i (by omega)
  · rw [if_neg c1, if_neg c1, if_neg c1, told_e, bd_some]; exact bad _
theorem wished_loop {n g p : Nat} {wi : Nat → Nat} {σ : AH} (hn : n ≤ 6) (hp : p < 30) (hw30 : ∀ i, i < n → wi i < 30) (hw : CwI n wi σ) : ∀ (j i : Nat), i + j = n → anyW wi p i = false → F_X1_isWished_2 (j + 1 + g) (nI p) (nI i) σ = some (if anyW wi p n = true then 1 else 0, σ) := by
  intro j
  induction j with
  | zero =>
    intro i hi h
    have e : i = n := by omega
    subst e
    rw [show 0 + 1 + g = g + 1 by omega]
    show B_X1_isWished_2 (F_X1_isWished_2 g) (nI p) (nI i) σ = _
    unfold B_X1_isWished_2
    rw [hw.1, if_pos (nI_le (Nat.le_refl _) (by omega)), h, if_neg (show ¬ false = true by decide)]
  | succ j ih =>
    intro i hi h
    rw [show j + 1 + 1 + g = (j + 1 + g) + 1 by omega]
    show B_X1_isWished_2 (F_X1_isWished_2 (j + 1 + g)) (nI p) (nI i) σ = _
    unfold B_X1_isWished_2
    have lt : i < n := by omega
    have b := hw30 i lt
    rw [hw.1, if_neg (nI_ge lt (by omega)), if_pos (inB_n (by omega) (by decide)), nI_clamp (by omega), hw.2 i lt]
    have e : anyW wi p (i + 1) = (anyW wi p i || decide (wi i = p)) := rfl
    rw [h, Bool.false_or] at e
    by_cases c : wi i = p
    · rw [decide_eq_true c] at e
      have up := anyW_up e j
      rw [show i + 1 + j = n by omega] at up
      rw [if_pos (by rw [c]), if_pos up]
    · rw [decide_eq_false c] at e
      rw [if_neg (fun z => c ((nI_eq (by omega) (by omega)).mp z)), nI_1]
      exact ih (i + 1) (by omega) e
theorem F_isWished {n p : Nat} {wi : Nat → Nat} {σ : AH} (hn : n ≤ 6) (hp : p < 30) (hw30 : ∀ i, i < n → wi i < 30) (hw : CwI n wi σ) : F_X1_isWished (nI p) σ = some (if anyW wi p n = true then 1 else 0, σ) := by
  unfold F_X1_isWished
  obtain ⟨g, hg⟩ := BIGe n (by omega)
  rw [hg]
  exact wished_loop hn hp hw30 hw n 0 (by omega) rfl
theorem sw_260 {row : Nat → Int32} {p : Nat} (hB : BV row) : (oI (sw row 260 p) = -1) ↔ anyS row p (nS row) = false := by
  rw [oI_none (fun w h => sw_lt hB h), anyS_f]
  have key : ∀ m, m ≤ nS row → (sO row 260 p m = none ↔ ∀ d, d < m → cl (sa row d 0) ≠ p) := by
    intro m
    induction m with
    | zero => intro _; exact ⟨fun _ d hd => absurd hd (Nat.not_lt_zero d), fun _ => rfl⟩
    | succ m ih =>
      intro hm
      have kn : ¬ (260 : Int32) < sa row m 2 := by
        obtain ⟨_, _, v2⟩ := hB.s.2.2 m (by omega)
        have := v2.2
        rw [v2.1]; exact nI_nlt (a := 260) (by omega) (by decide)
      have e : sO row 260 p (m + 1) = match sO row 260 p m with | some w => some w | none => if cl (sa row m 0) = p ∧ ¬ (260 : Int32) < sa row m 2 then some (cl (sa row m 1)) else none := rfl
      rw [e]
      cases h : sO row 260 p m with
      | some w =>
        have no := ih (by omega)
        rw [h] at no
        constructor
        · intro z; cases z
        · intro z; exact absurd (no.mpr (fun d hd => z d (by omega))) (by simp)
      | none =>
        have yes := (ih (by omega)).mp h
        dsimp only
        by_cases c : cl (sa row m 0) = p
        · rw [if_pos ⟨c, kn⟩]
          constructor
          · intro z; cases z
          · intro z; exact absurd c (z m (by omega))
        · rw [if_neg (fun z => c z.1)]
          exact ⟨fun _ d hd => by
            rcases Nat.lt_or_ge d m with z | z
            · exact yes d z
            · rw [show d = m by omega]; exact c, fun _ => rfl⟩
  exact key _ (Nat.le_refl _)
theorem C_wish {row : Nat → Int32} {n : Nat} {wi : Nat → Nat} {x1 : Int32} {σ : AH} (hB : BV row) (hW : WiV row n wi) (hT : TbB row σ) (hw : CwI n wi σ) :
    ∃ τ, F_X11_wish x1 σ = some (wishV row n wi x1, τ) ∧ CwI (wishN row n wi x1) (wiU n wi (cl x1)) τ ∧ gI τ 0 10 = ftV (wishV row n wi x1) ∧ Ch [69] [(0, 10), (68, 3)] σ τ := by
  have b30 := hB.p.2.1
  have hn := hW.1
  unfold F_X11_wish wishV wishN
  rw [F_isPlotC hB hT, bd_b (α := Int32)]
  have bad : ∀ v : Int32, ∃ τ, some (v, sI σ 0 10 (ftV v)) = some (v, τ) ∧ CwI n (wiU n wi (cl x1)) τ ∧ gI τ 0 10 = ftV v ∧ Ch [69] [(0, 10), (68, 3)] σ τ := fun v => by
    have k : Ch [69] [(0, 10), (68, 3)] σ (sI σ 0 10 (ftV v)) := Ch.sI1 (Or.inl (by simp))
    refine ⟨_, rfl, CwI_u ?_, gI_sI_at, k⟩
    unfold CwI; rw [gI_sI_row (a := 68) (by decide), gI_sI_row (a := 69) (by decide)]; exact hw
  by_cases c1 : ltB (nP row) x1 = true
  · rw [if_pos c1, if_pos c1, if_pos c1]
    obtain ⟨e1, b1⟩ := ltB_n c1 (by omega)
    obtain ⟨p, hp⟩ : ∃ p, p = cl x1 := ⟨_, rfl⟩
    rw [← hp] at e1 b1 bad ⊢
    rw [e1, F_firstStart hB (by omega) hT, bd_some]
    by_cases c2 : anyS row p (nS row) = true
    · rw [if_pos c2, if_pos c2, if_neg (fun z => by have := (sw_260 hB).mp z; rw [c2] at this; cases this), answer_e, bd_some]; exact bad _
    · rw [if_neg c2, if_neg c2, if_pos ((sw_260 hB).mpr (by simpa using c2)), F_isWished hn (by omega) (fun i hi => by have := hW.2.1 i hi; omega) hw, bd_b (α := Int32)]
      by_cases c3 : anyW wi p n = true
      · rw [if_pos c3, if_pos c3, if_pos c3, answer_e, bd_some]; exact bad _
      · rw [if_neg c3, if_neg c3, if_neg c3, hw.1]
        by_cases c4 : n = 6
        · rw [if_pos c4, if_pos c4, if_neg (show ¬ nI n < (6 : Int32) from nI_nlt (b := 6) (by omega) (by omega)), answer_e, bd_some]; exact bad _
        · have g3 : gI (sI σ 69 n (nI p)) 68 3 = nI n := by rw [gI_sI_row (by decide)]; exact hw.1
          rw [if_neg c4, if_neg c4, if_pos (show nI n < (6 : Int32) from nI_lt (b := 6) (by omega) (by decide)), if_pos (inB_n (by omega) (by decide)), nI_clamp (by omega), g3, show nI n + (1 : Int32) = nI (n + 1) from nI_1 n, gI_sI_at, answer_e, bd_some]
          refine ⟨_, rfl, ⟨?_, fun i hi => ?_⟩, gI_sI_at, ((Ch.sI1 (Or.inr (by simp))).trans (Ch.sI1 (Or.inl (by simp)))).trans (Ch.sI1 (Or.inl (by simp)))⟩
          · rw [gI_sI_row (by decide), gI_sI_at]
          · rw [gI_sI_row (by decide), gI_sI_row (by decide)]
            unfold wiU
            by_cases e : i = n
            · subst e; rw [if_pos rfl, gI_sI_at]
            · rw [if_neg e, gI_sI_ne e]; exact hw.2 i (by omega)
  · rw [if_neg c1, if_neg c1, if_neg c1, answer_e, bd_some]; exact bad _
end
