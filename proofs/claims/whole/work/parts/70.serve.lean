section
/-! a PLOT is served: the SITE of the class against the run of the reference -/
def StR (row : Nat → Int32) (b : Nat) (R : Nat → Nat → Int32) (σ : AH) : Prop :=
  (∀ m, m < 5 → gI σ (b + 1) m = R 142 m) ∧ (∀ c, c < 6 → gI σ 37 c = R 143 c) ∧ (∀ p, p < nP row → gI σ (b + 5) p = R 144 p) ∧
  (∀ p, p < nP row → gI σ (b + 6) p = if R 145 p = 0 then -1 else R 146 p) ∧ (∀ i, i < 3 * nP row → gI σ (b + 8) i = R 148 i) ∧ (∀ i, i < 3 * nP row → gI σ (b + 9) i = R 149 i)
def WI (R : Nat → Nat → Int32) : Prop := ∀ p, p < 30 → R 145 p = 0 ∨ 0 < R 146 p
def sib (b : Nat) : List Nat := [b + 1, b + 5, b + 6, b + 8, b + 9, 37]
theorem StR.ch {row : Nat → Int32} {b : Nat} {R : Nat → Nat → Int32} {σ τ : AH} {cs : List Nat} {fs : List (Nat × Nat)} (h : StR row b R σ) (c : Ch cs fs σ τ) (h1 : ∀ i ∈ sib b, i ∉ cs) (h2 : ∀ q ∈ fs, q.1 ∉ sib b) : StR row b R τ := by
  obtain ⟨s1, s2, s3, s4, s5, s6⟩ := h
  have e : ∀ i ∈ sib b, gI τ i = gI σ i := fun i hi => c.rI (h1 i hi) (fun q hq e => h2 q hq (e ▸ hi))
  unfold sib at e
  refine ⟨?_, ?_, ?_, ?_, ?_, ?_⟩
  · rw [e (b + 1) (by simp)]; exact s1
  · rw [e 37 (by simp)]; exact s2
  · rw [e (b + 5) (by simp)]; exact s3
  · rw [e (b + 6) (by simp)]; exact s4
  · rw [e (b + 8) (by simp)]; exact s5
  · rw [e (b + 9) (by simp)]; exact s6
theorem F_finishStage {row : Nat → Int32} {b w p s : Nat} {R : Nat → Nat → Int32} {σ : AH} (hn : nP row ≤ 30) (hb : 44 < b) (hp : p < nP row) (hs : s < 3) (e : R 144 p = nI s) (h : StR row b R σ) :
    ∃ τ, F_X7_finishStage b (nI p) (nI w) σ = some τ ∧ StR row b (fnR w p R) τ ∧ Ch [b + 5, b + 6, b + 9] [] σ τ := by
  obtain ⟨s1, s2, s3, s4, s5, s6⟩ := h
  have q1 : inB (nI p) 30 = true := inB_n (by omega) (by omega)
  have n1 : (nI p).toNatClampNeg = p := nI_clamp (by omega)
  have i1 : nI p * (3 : Int32) + nI s = nI (3 * p + s) := by simp only [fa_lit, nI_add, pk_mul]; rw [Nat.mul_comm]
  have q2 : inB (nI (3 * p + s)) 90 = true := inB_n (by omega) (by omega)
  have n2 : (nI (3 * p + s)).toNatClampNeg = 3 * p + s := nI_clamp (by omega)
  have es : cl (R 144 p) = s := by rw [e]; exact nI_clamp (by omega)
  unfold F_X7_finishStage
  simp only [q1, n1, s3 p hp, e, i1, q2, n2, if_true, lt_e]
  have g1 : gI (sI σ (b + 9) (3 * p + s) (nI w)) (b + 5) p = nI s := by rw [gI_sI_row (by omega), s3 p hp, e]
  rw [g1]
  refine ⟨_, rfl, ?_, ((Ch.sI1 (Or.inr (by simp))).trans (Ch.sI1 (Or.inr (by simp)))).trans (Ch.sI1 (Or.inr (by simp)))⟩
  unfold fnR
  rw [es]
  refine ⟨fun m hm => ?_, fun c hc => ?_, fun q hq => ?_, fun q hq => ?_, fun i hi => ?_, fun i hi => ?_⟩
  · rw [gI_sI_row (by omega), gI_sI_row (by omega), gI_sI_row (by omega), rU_row (by decide), rU_row (by decide), rU_row (by decide)]; exact s1 m hm
  · rw [gI_sI_row (by omega), gI_sI_row (by omega), gI_sI_row (by omega), rU_row (by decide), rU_row (by decide), rU_row (by decide)]; exact s2 c hc
  · rw [gI_sI_row (by omega), rU_row (by decide)]
    by_cases c : q = p
    · subst c; rw [gI_sI_at, rU_at, e]
    · rw [gI_sI_ne c, gI_sI_row (by omega), rU_ne c, rU_row (by decide)]; exact s3 q hq
  · by_cases c : q = p
    · subst c; rw [gI_sI_at, rU_at, if_pos rfl]
    · have z : ∀ d, d ≠ 149 → d ≠ 144 → rU (rU (rU R 149 (3 * p + s) (nI w)) 144 p (R 144 p + 1)) 145 p 0 d q = R d q := fun d h1 h2 => by rw [rU_ne c, rU_row h2, rU_row h1]
      rw [gI_sI_ne c, gI_sI_row (by omega), gI_sI_row (by omega), z 145 (by decide) (by decide), z 146 (by decide) (by decide)]; exact s4 q hq
  · rw [gI_sI_row (by omega), gI_sI_row (by omega), gI_sI_row (by omega), rU_row (by decide), rU_row (by decide), rU_row (by decide)]; exact s5 i hi
  · rw [gI_sI_row (by omega), gI_sI_row (by omega), rU_row (by decide), rU_row (by decide)]
    by_cases c : i = 3 * p + s
    · subst c; rw [gI_sI_at, rU_at]
    · rw [gI_sI_ne c, rU_ne c]; exact s6 i hi
theorem needV_nn {row : Nat → Int32} {k : Int32} {kn sg mt rm w : Nat} (hV : AV row) (hW : AW row) (hk : kn < 3) (hs : sg < 3) (hm : mt < 6) : (0 : Int32) ≤ needV row k kn sg mt rm w := by
  have key : ∀ x : Int32, (0 : Int32) ≤ imax 0 x := fun x => by
    unfold imax
    by_cases c : (0 : Int32) < x
    · rw [if_pos c]; rw [Int32.le_iff_toInt_le]; rw [Int32.lt_iff_toInt_lt] at c; omega
    · rw [if_neg c]; exact Int32.le_refl _
  unfold needV
  by_cases c : 5 ≤ mt
  · rw [if_pos c, ← cnV_max hV hW (QR_work hV hW hk hs) (by decide)]
    exact key _
  · rw [if_neg c, ← cnV_max hV hW (QR_need hV hW hk hs (by omega)) (by decide)]
    exact key _
theorem ctS_F {row : Nat → Int32} {k : Int32} {w p m : Nat} {R : Nat → Nat → Int32} (h : ctS row k w p R m = false) : ∀ j, ctS row k w p R (m + j) = false := by
  intro j
  induction j with
  | zero => exact h
  | succ j ih =>
    have e : ctS row k w p R (m + (j + 1)) = (ctS row k w p R (m + j) && !decide (R 142 (m + j) < nee row k w p (cl (R 144 p)) (m + j))) := rfl
    rw [e, ih]; rfl
theorem takes_check {row : Nat → Int32} {k : Int32} {b w p s P g : Nat} {x5 : Int32} {R : Nat → Nat → Int32} {σ : AH} (hP : P < 702) (es : cl (R 144 p) = s) (h1 : ∀ m, m < 5 → gI σ (b + 1) m = R 142 m) (hN : ∀ m, m < 6 → gI σ 42 (P * 6 + m) = nee row k w p s m) : ∀ (j m : Nat), m + j = 5 → ctS row k w p R m = true →
    F_X10_takeNeeds_34 (j + 1 + g) b (nI p) (nI w) (nI (P * 6)) x5 (nI m) σ = if ctS row k w p R 5 = true then F_X10_takeNeeds_71 BIG b (nI p) (nI w) (nI (P * 6)) x5 0 σ else some (0, σ) := by
  intro j
  induction j with
  | zero =>
    intro m hm hc
    have e : F_X10_takeNeeds_34 (0 + 1 + g) = B_X10_takeNeeds_34 (F_X10_takeNeeds_34 g) := by rw [show 0 + 1 + g = g + 1 by omega]; rfl
    have : m = 5 := by omega
    subst this
    rw [e]; unfold B_X10_takeNeeds_34
    rw [if_pos (by decide), if_pos hc]
  | succ j ih =>
    intro m hm hc
    have e : F_X10_takeNeeds_34 (j + 1 + 1 + g) = B_X10_takeNeeds_34 (F_X10_takeNeeds_34 (j + 1 + g)) := by rw [show j + 1 + 1 + g = (j + 1 + g) + 1 by omega]; rfl
    rw [e]; unfold B_X10_takeNeeds_34
    have i1 : nI (P * 6) + nI m = nI (P * 6 + m) := nI_add _ _
    have step : ctS row k w p R (m + 1) = (ctS row k w p R m && !decide (R 142 m < nee row k w p (cl (R 144 p)) m)) := rfl
    rw [fa_lit 5, if_neg (nI_ge (by omega) (by omega)), if_pos (inB_n (by omega) (by omega)), i1, if_pos (inB_n (by omega) (by omega)), nI_clamp (by omega), nI_clamp (by omega), hN m (by omega), h1 m (by omega), nI_1]
    rw [hc, es, Bool.true_and] at step
    by_cases c : R 142 m < nee row k w p s m
    · rw [if_neg (fun h => Int32.lt_irrefl (Int32.lt_of_lt_of_le c h))]
      rw [decide_eq_true c] at step
      have := ctS_F (show ctS row k w p R (m + 1) = false from step) j
      rw [show m + 1 + j = 5 by omega] at this
      rw [this]; rfl
    · rw [if_pos (Int32.not_lt.mp c)]
      rw [decide_eq_false c] at step
      exact ih (m + 1) (by omega) step
theorem takes_loop {row : Nat → Int32} {k : Int32} {b w p s P g : Nat} {R : Nat → Nat → Int32} (hn : nP row ≤ 30) (hb : 44 < b) (hp : p < nP row) (hs : s < 3) (hP : P < 702) (es : cl (R 144 p) = s) : ∀ (j m : Nat) (σ : AH), m + j = 5 → StR row b (tkS row k w p R m) σ → (∀ m, m < 6 → gI σ 42 (P * 6 + m) = nee row k w p s m) →
    ∃ τ, F_X10_takeNeeds_71 (j + 1 + g) b (nI p) (nI w) (nI (P * 6)) (nI (3 * p + s)) (nI m) σ = some (1, τ) ∧ StR row b (toR row k w p R) τ ∧ Ch [b + 1, b + 6, b + 8] [] σ τ := by
  intro j
  induction j with
  | zero =>
    intro m σ hm hS hN
    have e : F_X10_takeNeeds_71 (0 + 1 + g) = B_X10_takeNeeds_71 (F_X10_takeNeeds_71 g) := by rw [show 0 + 1 + g = g + 1 by omega]; rfl
    have : m = 5 := by omega
    subst this
    rw [e]; unfold B_X10_takeNeeds_71
    have i1 : nI (P * 6) + (5 : Int32) = nI (P * 6 + 5) := nI_add _ 5
    have q1 : inB (nI p) 30 = true := inB_n (by omega) (by omega)
    have n1 : (nI p).toNatClampNeg = p := nI_clamp (by omega)
    have q2 : inB (nI (3 * p + s)) 90 = true := inB_n (by omega) (by omega)
    have n2 : (nI (3 * p + s)).toNatClampNeg = 3 * p + s := nI_clamp (by omega)
    have q3 : inB (nI (P * 6 + 5)) 4212 = true := inB_n (by omega) (by omega)
    have n3 : (nI (P * 6 + 5)).toNatClampNeg = P * 6 + 5 := nI_clamp (by omega)
    have g1 : gI (sI σ (b + 8) (3 * p + s) (nI w)) 42 (P * 6 + 5) = nee row k w p s 5 := by rw [gI_sI_row (by omega)]; exact hN 5 (by omega)
    rw [if_pos (by decide)]
    simp only [i1, q1, n1, q2, n2, q3, n3, g1, if_true]
    refine ⟨_, rfl, ?_, (Ch.sI1 (Or.inr (by simp))).trans (Ch.sI1 (Or.inr (by simp)))⟩
    obtain ⟨s1, s2, s3, s4, s5, s6⟩ := hS
    unfold toR
    rw [es]
    refine ⟨fun m hm => ?_, fun c hc => ?_, fun q hq => ?_, fun q hq => ?_, fun i hi => ?_, fun i hi => ?_⟩
    · rw [gI_sI_row (by omega), gI_sI_row (by omega), rU_row (by decide), rU_row (by decide), rU_row (by decide)]; exact s1 m hm
    · rw [gI_sI_row (by omega), gI_sI_row (by omega), rU_row (by decide), rU_row (by decide), rU_row (by decide)]; exact s2 c hc
    · rw [gI_sI_row (by omega), gI_sI_row (by omega), rU_row (by decide), rU_row (by decide), rU_row (by decide)]; exact s3 q hq
    · by_cases c : q = p
      · subst c
        rw [gI_sI_at, rU_at, rU_row (by decide), rU_row (by decide), rU_at, if_neg (by decide)]
      · have z : ∀ d, d ≠ 148 → rU (rU (rU (tkS row k w p R 5) 145 p 1) 148 (3 * p + s) (nI w)) 146 p (nee row k w p s 5) d q = tkS row k w p R 5 d q := fun d h1 => by rw [rU_ne c, rU_row h1, rU_ne c]
        rw [gI_sI_ne c, gI_sI_row (by omega), z 145 (by decide), z 146 (by decide)]; exact s4 q hq
    · rw [gI_sI_row (by omega), rU_row (by decide)]
      by_cases c : i = 3 * p + s
      · subst c; rw [gI_sI_at, rU_at]
      · rw [gI_sI_ne c, rU_ne c, rU_row (by decide)]; exact s5 i hi
    · rw [gI_sI_row (by omega), gI_sI_row (by omega), rU_row (by decide), rU_row (by decide), rU_row (by decide)]; exact s6 i hi
  | succ j ih =>
    intro m σ hm hS hN
    have e : F_X10_takeNeeds_71 (j + 1 + 1 + g) = B_X10_takeNeeds_71 (F_X10_takeNeeds_71 (j + 1 + g)) := by rw [show j + 1 + 1 + g = (j + 1 + g) + 1 by omega]; rfl
    rw [e]; unfold B_X10_takeNeeds_71
    have i1 : nI (P * 6) + nI m = nI (P * 6 + m) := nI_add _ _
    have hm5 : inB (nI m) 5 = true := inB_n (by omega) (by omega)
    rw [fa_lit 5, if_neg (nI_ge (by omega) (by omega)), if_pos hm5, i1, if_pos (inB_n (by omega) (by omega)), if_pos hm5, nI_clamp (by omega), nI_clamp (by omega), hN m (by omega), hS.1 m (by omega), nI_1]
    have S2 : StR row b (tkS row k w p R (m + 1)) (sI σ (b + 1) m (tkS row k w p R m 142 m - nee row k w p s m)) := by
      have e2 : tkS row k w p R (m + 1) = rU (tkS row k w p R m) 142 m (tkS row k w p R m 142 m - nee row k w p (cl (R 144 p)) m) := rfl
      rw [e2, es]
      obtain ⟨s1, s2, s3, s4, s5, s6⟩ := hS
      refine ⟨fun i hi => ?_, fun c hc => ?_, fun q hq => ?_, fun q hq => ?_, fun i hi => ?_, fun i hi => ?_⟩
      · by_cases c : i = m
        · subst c; rw [gI_sI_at, rU_at]
        · rw [gI_sI_ne c, rU_ne c]; exact s1 i hi
      · rw [gI_sI_row (by omega), rU_row (by decide)]; exact s2 c hc
      · rw [gI_sI_row (by omega), rU_row (by decide)]; exact s3 q hq
      · rw [gI_sI_row (by omega), rU_row (by decide), rU_row (by decide)]; exact s4 q hq
      · rw [gI_sI_row (by omega), rU_row (by decide)]; exact s5 i hi
      · rw [gI_sI_row (by omega), rU_row (by decide)]; exact s6 i hi
    obtain ⟨τ, t1, t2, t3⟩ := ih (m + 1) _ (by omega) S2 (fun i hi => by rw [gI_sI_row (by omega)]; exact hN i hi)
    exact ⟨τ, t1, t2, (Ch.sI1 (Or.inr (by simp))).trans t3⟩
/-- whether needs are there is asked, and they are taken; the first asking is noted -/
theorem F_takeNeeds {row : Nat → Int32} {k : Int32} {b w p s P : Nat} {R : Nat → Nat → Int32} {σ : AH} (hn : nP row ≤ 30) (hb : 44 < b) (hp : p < nP row) (hs : s < 3) (hP : P < 702) (hw : w < 260) (e : R 144 p = nI s) (hS : StR row b R σ) (hN : ∀ m, m < 6 → gI σ 42 (P * 6 + m) = nee row k w p s m) :
    ∃ τ, F_X10_takeNeeds b (nI p) (nI w) (nI (P * 6)) σ = some (b2 (ctS row k w p R 5), τ) ∧ StR row b (if ctS row k w p R 5 = true then toR row k w p R else R) τ ∧ gI τ (b + 7) (3 * p + s) ≠ -1 ∧ (∀ i, gI τ (b + 7) i = gI σ (b + 7) i ∨ (i = 3 * p + s ∧ gI σ (b + 7) i = -1 ∧ gI τ (b + 7) i = nI w)) ∧ Ch [b + 1, b + 6, b + 7, b + 8] [] σ τ := by
  have q1 : inB (nI p) 30 = true := inB_n (by omega) (by omega)
  have n1 : (nI p).toNatClampNeg = p := nI_clamp (by omega)
  have i1 : nI p * (3 : Int32) + nI s = nI (3 * p + s) := by simp only [fa_lit, nI_add, pk_mul]; rw [Nat.mul_comm]
  have q2 : inB (nI (3 * p + s)) 90 = true := inB_n (by omega) (by omega)
  have n2 : (nI (3 * p + s)).toNatClampNeg = 3 * p + s := nI_clamp (by omega)
  have es : cl (R 144 p) = s := by rw [e]; exact nI_clamp (by omega)
  obtain ⟨g, hg⟩ := BIGe 5 (by decide)
  have main : ∀ τ0 : AH, StR row b R τ0 → (∀ m, m < 6 → gI τ0 42 (P * 6 + m) = nee row k w p s m) → ∃ τ, F_X10_takeNeeds_31 b (nI p) (nI w) (nI (P * 6)) (nI (3 * p + s)) τ0 = some (b2 (ctS row k w p R 5), τ) ∧ StR row b (if ctS row k w p R 5 = true then toR row k w p R else R) τ ∧ Ch [b + 1, b + 6, b + 8] [] τ0 τ := by
    intro τ0 h0 hN0
    unfold F_X10_takeNeeds_31
    have ck := takes_check (g := g) (x5 := nI (3 * p + s)) hP es h0.1 hN0 5 0 rfl rfl
    rw [show (0 : Int32) = nI 0 from rfl, hg, ck]
    by_cases c : ctS row k w p R 5 = true
    · rw [if_pos c, c, if_pos rfl, hg]
      exact takes_loop hn hb hp hs hP es 5 0 τ0 rfl h0 hN0
    · rw [if_neg c, if_neg c]
      have : ctS row k w p R 5 = false := by simpa using c
      rw [this]
      exact ⟨τ0, rfl, h0, Ch.rf _⟩
  unfold F_X10_takeNeeds
  simp only [q1, n1, hS.2.2.1 p hp, e, i1, q2, n2, if_true]
  by_cases c : gI σ (b + 7) (3 * p + s) = -1
  · rw [if_pos c]
    have kE : Ch [b + 7] [] σ (sI σ (b + 7) (3 * p + s) (nI w)) := Ch.sI1 (Or.inr (by simp))
    obtain ⟨τ, t1, t2, t3⟩ := main (sI σ (b + 7) (3 * p + s) (nI w)) (hS.ch kE (by unfold sib; simp; omega) (by simp)) (fun m hm => by rw [gI_sI_row (by omega)]; exact hN m hm)
    have e7 : gI τ (b + 7) = gI (sI σ (b + 7) (3 * p + s) (nI w)) (b + 7) := t3.rI (by simp) (by simp)
    refine ⟨τ, t1, t2, ?_, fun i => ?_, (kE.mono (by simp) (by simp)).trans (t3.mono (by simp) (by simp))⟩
    · rw [e7, gI_sI_at]; exact nI_neg1 (by omega)
    · rw [e7]
      by_cases ci : i = 3 * p + s
      · subst ci; rw [gI_sI_at]; exact Or.inr ⟨rfl, c, rfl⟩
      · rw [gI_sI_ne ci]; exact Or.inl rfl
  · rw [if_neg c]
    obtain ⟨τ, t1, t2, t3⟩ := main σ hS hN
    have e7 : gI τ (b + 7) = gI σ (b + 7) := t3.rI (by simp) (by simp)
    exact ⟨τ, t1, t2, by rw [e7]; exact c, fun i => Or.inl (by rw [e7]), t3.mono (by simp) (by simp)⟩
end
