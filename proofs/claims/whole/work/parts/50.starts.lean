section
/-! what was told for building, as it can be -/
def cl (x : Int32) : Nat := x.toNatClampNeg
def isN (x : Int32) (n : Nat) : Prop := x = nI (cl x) ∧ cl x < n
theorem isN.b {x : Int32} {n : Nat} (h : isN x n) : cl x < n := h.2
theorem isN.e {x : Int32} {n : Nat} (h : isN x n) : x = nI (cl x) := h.1
theorem isN.of {x : Int32} {n : Nat} (h1 : 0 ≤ x.toInt) (h2 : x.toInt < n) : isN x n := by
  refine ⟨Int32.toInt_inj.mp ?_, ?_⟩
  · have := Int32.toInt_lt x
    rw [nI_toInt (by unfold cl; rw [cl_toInt]; omega)]; unfold cl; rw [cl_toInt]; omega
  · unfold cl; rw [cl_toInt]; omega
theorem isN_nI {j n : Nat} (h : j < n) (hj : j < 2 ^ 31) : isN (nI j) n := by
  have : cl (nI j) = j := nI_clamp hj
  exact ⟨by rw [this], by rw [this]; exact h⟩
def nD (row : Nat → Int32) : Nat := cl (row 1)
def nW (row : Nat → Int32) : Nat := cl (row 2)
def nG (row : Nat → Int32) : Nat := cl (row 3)
def nP (row : Nat → Int32) : Nat := cl (row 4)
def nS (row : Nat → Int32) : Nat := cl (row 5)
def dv (row : Nat → Int32) (d j : Nat) : Int32 := row (22748 + 4 * d + j)
def wk (row : Nat → Int32) (d j : Nat) : Int32 := row (23228 + 8 * d + j)
def ga (row : Nat → Int32) (d j : Nat) : Int32 := row (23292 + 4 * d + j)
def pl (row : Nat → Int32) (d j : Nat) : Int32 := row (23532 + 4 * d + j)
def sa (row : Nat → Int32) (d j : Nat) : Int32 := row (23652 + 3 * d + j)
def BV (row : Nat → Int32) : Prop :=
  (isN (row 1) 121 ∧ ∀ d, d < nD row → isN (dv row d 0) 5 ∧ isN (dv row d 1) 260 ∧ isN (dv row d 2) 100001 ∧ isN (dv row d 3) 260) ∧
  (isN (row 2) 9 ∧ ∀ d, d < nW row → isN (wk row d 0) 5 ∧ isN (wk row d 1) 1001 ∧ isN (wk row d 2) 5 ∧ isN (wk row d 3) 1001 ∧ isN (wk row d 4) 5 ∧ isN (wk row d 5) 10001 ∧ isN (wk row d 6) 101 ∧ isN (wk row d 7) 260) ∧
  (isN (row 3) 61 ∧ ∀ d, d < nG row → isN (ga row d 0) 6 ∧ isN (ga row d 1) 51 ∧ isN (ga row d 2) 260 ∧ isN (ga row d 3) 260) ∧
  (isN (row 4) 31 ∧ ∀ d, d < nP row → isN (pl row d 0) 6 ∧ isN (pl row d 1) 3 ∧ (isN (pl row d 2) 7 ∧ 1 ≤ cl (pl row d 2)) ∧ isN (pl row d 3) 260) ∧
  (isN (row 5) 61 ∧ ∀ d, d < nS row → isN (sa row d 0) (nP row) ∧ isN (sa row d 1) 260 ∧ isN (sa row d 2) 260)
theorem BV.p {row : Nat → Int32} (h : BV row) : row 4 = nI (nP row) ∧ nP row ≤ 30 ∧ ∀ d, d < nP row → isN (pl row d 0) 6 ∧ isN (pl row d 1) 3 ∧ (isN (pl row d 2) 7 ∧ 1 ≤ cl (pl row d 2)) ∧ isN (pl row d 3) 260 := ⟨h.2.2.2.1.1.1, by have := h.2.2.2.1.1.2; unfold nP; omega, h.2.2.2.1.2⟩
theorem BV.s {row : Nat → Int32} (h : BV row) : row 5 = nI (nS row) ∧ nS row ≤ 60 ∧ ∀ d, d < nS row → isN (sa row d 0) (nP row) ∧ isN (sa row d 1) 260 ∧ isN (sa row d 2) 260 := ⟨h.2.2.2.2.1.1, by have := h.2.2.2.2.1.2; unfold nS; omega, h.2.2.2.2.2⟩
theorem BV.d {row : Nat → Int32} (h : BV row) : row 1 = nI (nD row) ∧ nD row ≤ 120 ∧ ∀ d, d < nD row → isN (dv row d 0) 5 ∧ isN (dv row d 1) 260 ∧ isN (dv row d 2) 100001 ∧ isN (dv row d 3) 260 := ⟨h.1.1.1, by have := h.1.1.2; unfold nD; omega, h.1.2⟩
theorem BV.w {row : Nat → Int32} (h : BV row) : row 2 = nI (nW row) ∧ nW row ≤ 8 ∧ ∀ d, d < nW row → isN (wk row d 0) 5 ∧ isN (wk row d 1) 1001 ∧ isN (wk row d 2) 5 ∧ isN (wk row d 3) 1001 ∧ isN (wk row d 4) 5 ∧ isN (wk row d 5) 10001 ∧ isN (wk row d 6) 101 ∧ isN (wk row d 7) 260 := ⟨h.2.1.1.1, by have := h.2.1.1.2; unfold nW; omega, h.2.1.2⟩
theorem BV.g {row : Nat → Int32} (h : BV row) : row 3 = nI (nG row) ∧ nG row ≤ 60 ∧ ∀ d, d < nG row → isN (ga row d 0) 6 ∧ isN (ga row d 1) 51 ∧ isN (ga row d 2) 260 ∧ isN (ga row d 3) 260 := ⟨h.2.2.1.1.1, by have := h.2.2.1.1.2; unfold nG; omega, h.2.2.1.2⟩
/-! a PLOT's numbers -/
def pC (row : Nat → Int32) (p : Nat) : Nat := cl (pl row p 0)
def pK (row : Nat → Int32) (p : Nat) : Nat := cl (pl row p 1)
def pR (row : Nat → Int32) (p : Nat) : Nat := cl (pl row p 2)
def pL (row : Nat → Int32) (p : Nat) : Nat := cl (pl row p 3)
theorem F_councilOf {row : Nat → Int32} {p : Nat} {σ : AH} (hB : BV row) (hp : p < nP row) (hr : gI σ 125 = row) : F_X12_councilOf (nI p) σ = some (nI (pC row p), σ) := by
  obtain ⟨_, h1, h2⟩ := hB.p
  unfold F_X12_councilOf
  have i1 : (23532 : Int32) + (4 : Int32) * nI p = nI (23532 + 4 * p) := by simp only [fa_lit, nI_add, pk_mul]
  rw [i1, if_pos (inB_n (by omega) (by omega)), nI_clamp (by omega), hr]
  have e : row (23532 + 4 * p) = nI (pC row p) := (h2 p hp).1.1
  rw [e]
theorem F_kindOf {row : Nat → Int32} {p : Nat} {σ : AH} (hB : BV row) (hp : p < nP row) (hr : gI σ 125 = row) : F_X12_kindOf (nI p) σ = some (nI (pK row p), σ) := by
  obtain ⟨_, h1, h2⟩ := hB.p
  unfold F_X12_kindOf
  have i1 : (23532 : Int32) + (4 : Int32) * nI p + (1 : Int32) = nI (23532 + 4 * p + 1) := by simp only [fa_lit, nI_add, pk_mul]
  rw [i1, if_pos (inB_n (by omega) (by omega)), nI_clamp (by omega), hr]
  have e : row (23532 + 4 * p + 1) = nI (pK row p) := (h2 p hp).2.1.1
  rw [e]
theorem F_roomsOf {row : Nat → Int32} {p : Nat} {σ : AH} (hB : BV row) (hp : p < nP row) (hr : gI σ 125 = row) : F_X12_roomsOf (nI p) σ = some (nI (pR row p), σ) := by
  obtain ⟨_, h1, h2⟩ := hB.p
  unfold F_X12_roomsOf
  have i1 : (23532 : Int32) + (4 : Int32) * nI p + (2 : Int32) = nI (23532 + 4 * p + 2) := by simp only [fa_lit, nI_add, pk_mul]
  rw [i1, if_pos (inB_n (by omega) (by omega)), nI_clamp (by omega), hr]
  have e : row (23532 + 4 * p + 2) = nI (pR row p) := (h2 p hp).2.2.1.1.1
  rw [e]
/-! STARTS: the first told of those known -/
def sO (row : Nat → Int32) (k : Int32) (p : Nat) : Nat → Option Nat := fun m => match m with
  | 0 => none
  | m + 1 => match sO row k p m with
    | some w => some w
    | none => if cl (sa row m 0) = p ∧ ¬ k < sa row m 2 then some (cl (sa row m 1)) else none
def sw (row : Nat → Int32) (k : Int32) (p : Nat) : Option Nat := sO row k p (nS row)
def oI (x : Option Nat) : Int32 := match x with | none => -1 | some w => nI w
theorem sO_lt {row : Nat → Int32} {k : Int32} {p : Nat} (hB : BV row) : ∀ m, m ≤ nS row → ∀ w, sO row k p m = some w → w < 260 := by
  intro m
  induction m with
  | zero => intro _ w h; cases h
  | succ m ih =>
    intro hm w h
    unfold sO at h
    cases e : sO row k p m with
    | some v => rw [e] at h; cases h; exact ih (by omega) _ e
    | none =>
      rw [e] at h
      dsimp only at h
      split at h
      · cases h; exact ((hB.s).2.2 m (by omega)).2.1.2
      · cases h
theorem sw_lt {row : Nat → Int32} {k : Int32} {p w : Nat} (hB : BV row) (h : sw row k p = some w) : w < 260 := sO_lt hB _ (Nat.le_refl _) w h
theorem starts_loop {row : Nat → Int32} {k : Int32} {g : Nat} (hB : BV row) : ∀ (m : Nat) (σ : AH) (h : Nat → Option Nat), m ≤ nS row → gI σ 125 = row → gI σ 124 23 = k → (∀ p, p < 30 → gI σ 140 p = oI (h p)) →
    ∃ τ, F_X12_findStarts_30 (m + 1 + g) (nI m + (-1)) σ = some τ ∧ (∀ p, p < 30 → gI τ 140 p = oI ((sO row k p m).or (h p))) ∧ Ch [140] [] σ τ := by
  obtain ⟨s0, s1, s2⟩ := hB.s
  obtain ⟨p0, p1, p2⟩ := hB.p
  intro m
  induction m with
  | zero =>
    intro σ h _ hr hk ha
    have e : F_X12_findStarts_30 (0 + 1 + g) = B_X12_findStarts_30 (F_X12_findStarts_30 g) := by rw [Nat.zero_add, Nat.add_comm]; rfl
    rw [e]; unfold B_X12_findStarts_30
    rw [if_pos (by decide)]
    exact ⟨σ, rfl, ha, Ch.rf _⟩
  | succ m ih =>
    intro σ h hm hr hk ha
    have e : F_X12_findStarts_30 (m + 1 + 1 + g) = B_X12_findStarts_30 (F_X12_findStarts_30 (m + 1 + g)) := by rw [show m + 1 + 1 + g = (m + 1 + g) + 1 by omega]; rfl
    rw [e, pk_m1]; unfold B_X12_findStarts_30 F_X12_findStarts_89
    have i0 : (23652 : Int32) + (3 : Int32) * nI m = nI (23652 + 3 * m) := by simp only [fa_lit, nI_add, pk_mul]
    have i1 : nI (23652 + 3 * m) + (1 : Int32) = nI (23652 + 3 * m + 1) := nI_add _ _
    have i2 : nI (23652 + 3 * m) + (2 : Int32) = nI (23652 + 3 * m + 2) := nI_add _ _
    have q0 : inB (nI (23652 + 3 * m)) 269832 = true := inB_n (by omega) (by omega)
    have q1 : inB (nI (23652 + 3 * m + 1)) 269832 = true := inB_n (by omega) (by omega)
    have q2 : inB (nI (23652 + 3 * m + 2)) 269832 = true := inB_n (by omega) (by omega)
    have n0 : (nI (23652 + 3 * m)).toNatClampNeg = 23652 + 3 * m := nI_clamp (by omega)
    have n1 : (nI (23652 + 3 * m + 1)).toNatClampNeg = 23652 + 3 * m + 1 := nI_clamp (by omega)
    have n2 : (nI (23652 + 3 * m + 2)).toNatClampNeg = 23652 + 3 * m + 2 := nI_clamp (by omega)
    obtain ⟨v0, v1, v2⟩ := s2 m (by omega)
    have hp : cl (sa row m 0) < 30 := by have := v0.2; omega
    have e0 : row (23652 + 3 * m) = nI (cl (sa row m 0)) := v0.1
    have q3 : inB (nI (cl (sa row m 0))) 30 = true := inB_n hp (by omega)
    have n3 : (nI (cl (sa row m 0))).toNatClampNeg = cl (sa row m 0) := nI_clamp (by omega)
    rw [if_neg (nI_pos (by omega))]
    simp only [i0, i1, i2, q0, q1, q2, n0, n1, n2, hr, hk, e0, q3, n3, if_true]
    have fin : ∀ (v : Int32) (h' : Nat → Option Nat), (∀ p, p < 30 → va_up (gI σ 140) (cl (sa row m 0)) v p = oI (h' p)) → (∀ p, p < 30 → (sO row k p m).or (h' p) = (sO row k p (m + 1)).or (h p)) → ∃ τ, F_X12_findStarts_30 (m + 1 + g) (nI m + (-1)) (sI σ 140 (cl (sa row m 0)) v) = some τ ∧ (∀ p, p < 30 → gI τ 140 p = oI ((sO row k p (m + 1)).or (h p))) ∧ Ch [140] [] σ τ := by
      intro v h' f1 f2
      obtain ⟨τ, t1, t2, t3⟩ := ih (sI σ 140 (cl (sa row m 0)) v) h' (by omega) hr hk (by rw [gI_sI_own]; exact f1)
      exact ⟨τ, t1, fun p hp => by rw [t2 p hp, f2 p hp], (Ch.sI1 (Or.inr (by simp))).trans t3⟩
    by_cases c : k < row (23652 + 3 * m + 2)
    · rw [if_pos c]
      refine fin _ h (fun p hp => ?_) (fun p hp => ?_)
      · by_cases e : p = cl (sa row m 0)
        · subst e; rw [up_same]; exact ha _ hp
        · rw [up_ne _ _ _ e]; exact ha _ hp
      · have : sO row k p (m + 1) = match sO row k p m with | some w => some w | none => if cl (sa row m 0) = p ∧ ¬ k < sa row m 2 then some (cl (sa row m 1)) else none := rfl
        rw [this]
        cases sO row k p m with
        | some w => rfl
        | none => dsimp only; rw [if_neg (fun q => q.2 c)]
    · rw [if_neg c]
      refine fin _ (fun p => if cl (sa row m 0) = p then some (cl (sa row m 1)) else h p) (fun p hp => ?_) (fun p hp => ?_)
      · by_cases e : p = cl (sa row m 0)
        · subst e; rw [up_same, if_pos rfl]; exact v1.1
        · rw [up_ne _ _ _ e, if_neg (fun q => e q.symm)]; exact ha _ hp
      · have : sO row k p (m + 1) = match sO row k p m with | some w => some w | none => if cl (sa row m 0) = p ∧ ¬ k < sa row m 2 then some (cl (sa row m 1)) else none := rfl
        rw [this]
        cases sO row k p m with
        | some w => rfl
        | none =>
          dsimp only
          by_cases e : cl (sa row m 0) = p
          · rw [if_pos e, if_pos ⟨e, c⟩]; rfl
          · rw [if_neg e, if_neg (fun q => e q.1)]
theorem m1_eq (n : Nat) : nI n - 1 = nI n + (-1) := by
  apply Int32.toInt_inj.mp
  rw [Int32.sub_eq_add_neg]
theorem F_findStarts {row : Nat → Int32} {k : Int32} {σ : AH} (hB : BV row) (hr : gI σ 125 = row) (hk : gI σ 124 23 = k) : ∃ τ, F_X12_findStarts σ = some τ ∧ (∀ p, p < 30 → gI τ 140 p = oI (sw row k p)) ∧ Ch [140] [] σ τ := by
  unfold F_X12_findStarts
  obtain ⟨g, hg⟩ := BIGe 30 (by decide)
  obtain ⟨g2, hg2⟩ := BIGe (nS row) (by have := hB.s.2.1; omega)
  have L : F_X12_findStarts_2 BIG (0 : Int32) σ = F_X12_findStarts_30 BIG (row 5 - 1) (sA σ 140 (filR (gI σ 140) 30 (-1))) := by
    rw [hg, show (0 : Int32) = nI 0 from rfl]
    refine (fill_gen (α := Option AH) (N := 30) (cell := 140) (v := -1) (G := fun f i s => F_X12_findStarts_2 f i s) (E := fun s => F_X12_findStarts_30 BIG (gI s 125 5 - 1) s) (fun f i s h => by
      show B_X12_findStarts_2 (F_X12_findStarts_2 f) (nI i) s = _
      unfold B_X12_findStarts_2
      rw [fa_lit 30, if_neg (nI_ge h (by omega)), if_pos (inB_n h (by omega)), nI_clamp (by omega), nI_1]) (fun f s => by
      show B_X12_findStarts_2 (F_X12_findStarts_2 f) (nI 30) s = _
      unfold B_X12_findStarts_2
      rw [fa_lit 30, if_pos (nI_le (Nat.le_refl _) (by omega))]) 30 0 σ rfl).trans ?_
    rw [gI_sA_row (by decide), hr, hg]; rfl
  rw [L, hB.s.1, m1_eq, hg2]
  obtain ⟨τ, t1, t2, t3⟩ := starts_loop (g := g2) (k := k) hB (nS row) (sA σ 140 (filR (gI σ 140) 30 (-1))) (fun _ => none) (Nat.le_refl _) hr hk (fun p hp => by rw [gI_sA_own, filR_in hp]; rfl)
  refine ⟨τ, t1, fun p hp => ?_, (Ch.sA1 (by simp)).trans t3⟩
  rw [t2 p hp, Option.or_none]; rfl
end
