section
/-! THE ORDER of a WEEK, and the WEEK -/
def ahB (row : Nat → Int32) (s : Nat → Option Nat) (fi : Int32) (p x : Nat) : Bool := if decide (nI (pK row p) = fi) = decide (nI (pK row x) = fi) then (if oI (s p) = oI (s x) then decide (p < x) else decide (¬ oI (s x) ≤ oI (s p))) else decide (nI (pK row p) = fi)
theorem F_isAhead {row : Nat → Int32} {s : Nat → Option Nat} {fi : Int32} {p x : Nat} {σ : AH} (hB : BV row) (hp : p < nP row) (hx : x < nP row) (hr : gI σ 125 = row) (ha : ∀ q, q < 30 → gI σ 140 q = oI (s q)) : F_X12_isAhead (nI p) (nI x) fi σ = some (b2 (ahB row s fi p x), σ) := by
  obtain ⟨p0, p1, p2⟩ := hB.p
  have q1 : inB (nI p) 30 = true := inB_n (by omega) (by omega)
  have n1 : (nI p).toNatClampNeg = p := nI_clamp (by omega)
  have q2 : inB (nI x) 30 = true := inB_n (by omega) (by omega)
  have n2 : (nI x).toNatClampNeg = x := nI_clamp (by omega)
  have L : ∀ one two : Bool, F_X12_isAhead_30 (nI p) (nI x) (b2 one) (b2 two) σ = some (b2 (if one = two then (if oI (s p) = oI (s x) then decide (p < x) else decide (¬ oI (s x) ≤ oI (s p))) else one), σ) := by
    intro one two
    unfold F_X12_isAhead_30
    simp only [q1, q2, n1, n2, if_true, ha p (by omega), ha x (by omega)]
    have same : (if oI (s p) = oI (s x) then (if nI x ≤ nI p then some ((0 : Int32), σ) else some (1, σ)) else if oI (s x) ≤ oI (s p) then some (0, σ) else some (1, σ)) = some (b2 (if oI (s p) = oI (s x) then decide (p < x) else decide (¬ oI (s x) ≤ oI (s p))), σ) := by
      by_cases c : oI (s p) = oI (s x)
      · rw [if_pos c, if_pos c]
        by_cases c2 : p < x
        · rw [if_neg (nI_ge c2 (by omega)), decide_eq_true c2]; rfl
        · rw [if_pos (nI_le (by omega) (by omega)), decide_eq_false c2]; rfl
      · rw [if_neg c, if_neg c]
        by_cases c2 : oI (s x) ≤ oI (s p)
        · rw [if_pos c2, decide_eq_false (fun q => q c2)]; rfl
        · rw [if_neg c2, decide_eq_true c2]; rfl
    cases one <;> cases two
    · rw [if_pos rfl, if_pos rfl]; exact same
    · rw [if_neg (by decide), if_pos (by decide)]; rfl
    · rw [if_neg (by decide), if_pos (by decide)]; rfl
    · rw [if_pos rfl, if_pos rfl]; exact same
  unfold F_X12_isAhead F_X12_isAhead_14
  rw [F_kindOf hB hp hr, bd_some]
  simp only [F_kindOf hB hx hr, bd_some]
  unfold ahB
  by_cases c1 : nI (pK row p) = fi
  · rw [if_pos c1]
    by_cases c2 : nI (pK row x) = fi
    · rw [if_pos c2, decide_eq_true c1, decide_eq_true c2]; exact L true true
    · rw [if_neg c2, decide_eq_true c1, decide_eq_false c2]; exact L true false
  · rw [if_neg c1]
    by_cases c2 : nI (pK row x) = fi
    · rw [if_pos c2, decide_eq_false c1, decide_eq_true c2]; exact L false true
    · rw [if_neg c2, decide_eq_false c1, decide_eq_false c2]; exact L false false
def onP (row : Nat → Int32) (s : Nat → Option Nat) (lc : Nat → Bool) (R : Nat → Nat → Int32) (w p : Nat) : Bool := match s p with
  | none => false
  | some v => decide (v ≤ w ∧ pL row p ≤ w ∧ lc p = true ∧ ¬ (3 : Int32) ≤ R 144 p)
def ordS (row : Nat → Int32) (s : Nat → Option Nat) (lc : Nat → Bool) (R : Nat → Nat → Int32) (w : Nat) (fi : Int32) : Nat → List Nat := fun p => match p with
  | 0 => []
  | p + 1 => if onP row s lc R w p = true then insR (ahB row s fi p) p (ordS row s lc R w fi p) else ordS row s lc R w fi p
theorem ordS_len {row : Nat → Int32} {s : Nat → Option Nat} {lc : Nat → Bool} {R : Nat → Nat → Int32} {w : Nat} {fi : Int32} : ∀ p, (ordS row s lc R w fi p).length ≤ p := by
  intro p
  induction p with
  | zero => exact Nat.le_refl _
  | succ p ih =>
    unfold ordS
    split
    · rw [insR_len]; omega
    · omega
theorem ordS_mem {row : Nat → Int32} {s : Nat → Option Nat} {lc : Nat → Bool} {R : Nat → Nat → Int32} {w : Nat} {fi : Int32} : ∀ p x, x ∈ ordS row s lc R w fi p → x < p := by
  intro p
  induction p with
  | zero => intro x h; cases h
  | succ p ih =>
    intro x h
    unfold ordS at h
    split at h
    · rcases insR_mem _ x h with q | q
      · omega
      · have := ih x q; omega
    · have := ih x h; omega
def jzS (R : Nat → Nat → Int32) : Nat → Nat → Nat → Int32 := fun p => match p with
  | 0 => R
  | p + 1 => rU (jzS R p) 147 p 0
theorem jzS_row {R : Nat → Nat → Int32} {c : Nat} (h : c ≠ 147) : ∀ p, jzS R p c = R c := by
  intro p
  induction p with
  | zero => rfl
  | succ p ih => unfold jzS; rw [rU_row h, ih]
def GWc : List Nat := [134, 135, 136, 137, 138, 139, 142, 143, 144, 145, 146, 147, 148, 149, 150]
theorem week_ord {row : Nat → Int32} {k : Int32} {s : Nat → Option Nat} {lc : Nat → Bool} {R : Nat → Nat → Int32} {w g : Nat} {fi : Int32} (hB : BV row) (hs : ∀ p w, s p = some w → w < 260) (hw : w < 260) : ∀ (j p : Nat) (σ : AH), p + j = nP row → KI row k σ → RO_ σ (jzS R p) → (∀ q, q < 30 → gI σ 140 q = oI (s q)) → (∀ q, q < nP row → gI σ 141 q = b2 (lc q)) → LRv (gI σ 150) 0 (ordS row s lc R w fi p) →
    ∃ τ, F_X12_goWeek_169 (j + 1 + g) (nI w) fi (nI (ordS row s lc R w fi p).length) (nI p) σ = F_X12_goWeek_332 BIG (nI w) (nI (ordS row s lc R w fi (nP row)).length) 0 τ ∧ KI row k τ ∧ RO_ τ (jzS R (nP row)) ∧ LRv (gI τ 150) 0 (ordS row s lc R w fi (nP row)) ∧ Ch [147, 150] [] σ τ := by
  obtain ⟨p0, p1, p2⟩ := hB.p
  intro j
  induction j with
  | zero =>
    intro p σ hp hK hO ha hl hA
    have e : F_X12_goWeek_169 (0 + 1 + g) = B_X12_goWeek_169 (F_X12_goWeek_169 g) := by rw [show 0 + 1 + g = g + 1 by omega]; rfl
    have : p = nP row := by omega
    subst this
    rw [e]; unfold B_X12_goWeek_169
    rw [hK.1, p0, if_pos (nI_le (Nat.le_refl _) (by omega))]
    exact ⟨σ, rfl, hK, hO, hA, Ch.rf _⟩
  | succ j ih =>
    intro p σ hp hK hO ha hl hA
    have hp' : p < nP row := by omega
    have e : F_X12_goWeek_169 (j + 1 + 1 + g) = B_X12_goWeek_169 (F_X12_goWeek_169 (j + 1 + g)) := by rw [show j + 1 + 1 + g = (j + 1 + g) + 1 by omega]; rfl
    have q1 : inB (nI p) 30 = true := inB_n (by omega) (by omega)
    have n1 : (nI p).toNatClampNeg = p := nI_clamp (by omega)
    have i3 : ((23532 : Int32) + ((4 : Int32) * nI p)) + (3 : Int32) = nI (23532 + 4 * p + 3) := by simp only [fa_lit, nI_add, pk_mul]
    have q3 : inB (nI (23532 + 4 * p + 3)) 269832 = true := inB_n (by omega) (by omega)
    have n3 : (nI (23532 + 4 * p + 3)).toNatClampNeg = 23532 + 4 * p + 3 := nI_clamp (by omega)
    have v3 := (p2 p hp').2.2.2
    have r3 : row (23532 + 4 * p + 3) = nI (pL row p) := v3.1
    have b3 : pL row p < 260 := v3.2
    have K1 : KI row k (sI σ 147 p 0) := hK.gp (by decide)
    have hO1 : RO_ (sI σ 147 p 0) (jzS R (p + 1)) := hO.put 147 p 0
    have a1 : ∀ q, q < 30 → gI (sI σ 147 p 0) 140 q = oI (s q) := fun q hq => by rw [gI_sI_row (by decide)]; exact ha q hq
    have l1 : ∀ q, q < nP row → gI (sI σ 147 p 0) 141 q = b2 (lc q) := fun q hq => by rw [gI_sI_row (by decide)]; exact hl q hq
    have A1 : LRv (gI (sI σ 147 p 0) 150) 0 (ordS row s lc R w fi p) := by rw [gI_sI_row (by decide)]; exact hA
    have s1 : gI (sI σ 147 p 0) 144 p = R 144 p := by rw [hO1 144 (by decide) (by decide) p (by show p < 30; omega), jzS_row (by decide)]
    have step : ordS row s lc R w fi (p + 1) = if onP row s lc R w p = true then insR (ahB row s fi p) p (ordS row s lc R w fi p) else ordS row s lc R w fi p := rfl
    have no : onP row s lc R w p = false → ∃ τ, F_X12_goWeek_254 (F_X12_goWeek_169 (j + 1 + g)) (nI w) fi (nI (ordS row s lc R w fi p).length) (nI p) (sI σ 147 p 0) = F_X12_goWeek_332 BIG (nI w) (nI (ordS row s lc R w fi (nP row)).length) 0 τ ∧ KI row k τ ∧ RO_ τ (jzS R (nP row)) ∧ LRv (gI τ 150) 0 (ordS row s lc R w fi (nP row)) ∧ Ch [147, 150] [] σ τ := by
      intro h
      unfold F_X12_goWeek_254 F_X12_goWeek_255 F_X12_goWeek_323
      rw [if_pos rfl, nI_1]
      have := ih (p + 1) (sI σ 147 p 0) (by omega) K1 hO1 a1 l1 (by rw [step, h]; exact A1)
      rw [step, h] at this
      obtain ⟨τ, t1, t2, t3, t4, t5⟩ := this
      exact ⟨τ, t1, t2, t3, t4, (Ch.sI1 (Or.inr (by simp))).trans t5⟩
    rw [e]; unfold B_X12_goWeek_169
    rw [hK.1, p0, if_neg (nI_ge hp' (by omega))]
    simp only [q1, n1, i3, q3, n3, if_true, a1 p (by omega), l1 p hp', s1, K1.1, r3]
    cases hsp : s p with
    | none =>
      rw [show oI none = -1 from rfl, if_pos rfl]
      exact no (by unfold onP; rw [hsp])
    | some v =>
      have bv_ := hs p v hsp
      have eon : onP row s lc R w p = decide (v ≤ w ∧ pL row p ≤ w ∧ lc p = true ∧ ¬ (3 : Int32) ≤ R 144 p) := by unfold onP; rw [hsp]
      rw [show oI (some v) = nI v from rfl, if_neg (nI_neg1 (by omega))]
      by_cases c1 : v ≤ w
      · rw [if_neg (nI_nlt c1 (by omega))]
        by_cases c2 : pL row p ≤ w
        · rw [if_neg (nI_nlt c2 (by omega))]
          by_cases c3 : lc p = true
          · rw [c3, show b2 true = 1 from rfl, if_neg (by decide)]
            by_cases c4 : (3 : Int32) ≤ R 144 p
            · rw [if_pos c4]; exact no (by rw [eon]; exact decide_eq_false (fun q => q.2.2.2 c4))
            · rw [if_neg c4]
              have hon : onP row s lc R w p = true := by rw [eon]; exact decide_eq_true ⟨c1, c2, c3, c4⟩
              unfold F_X12_goWeek_255
              rw [if_neg (by decide)]
              have hlen := ordS_len (row := row) (s := s) (lc := lc) (R := R) (w := w) (fi := fi) p
              obtain ⟨g2, hg2⟩ := BIGe (ordS row s lc R w fi p).length (by omega)
              obtain ⟨k', σ', z1, z2, z3, z4, z5⟩ := ins_gen (cell := 150) (off := 0) (p := p) (g := g2) (N := nP row) (lim := 29) (ah := ahB row s fi p)
                (G := fun f q t => F_X12_goWeek_265 (F_X12_goWeek_169 (j + 1 + g)) f (nI w) fi (nI (ordS row s lc R w fi p).length) (nI p) (nI q) t)
                (E := fun q t => F_X12_goWeek_311 (F_X12_goWeek_169 (j + 1 + g)) (nI w) fi (nI (ordS row s lc R w fi p).length) (nI p) (nI q) t)
                (P := fun t => gI t 125 = row ∧ ∀ q, q < 30 → gI t 140 q = oI (s q))
                (fun f t ht => by
                  show B_X12_goWeek_265 (F_X12_goWeek_169 (j + 1 + g)) (F_X12_goWeek_265 (F_X12_goWeek_169 (j + 1 + g)) f) (nI w) fi (nI (ordS row s lc R w fi p).length) (nI p) (nI 0) t = _
                  unfold B_X12_goWeek_265
                  rw [if_pos (by decide)])
                (fun f q t x ht hq hx hxN hah => by
                  show B_X12_goWeek_265 (F_X12_goWeek_169 (j + 1 + g)) (F_X12_goWeek_265 (F_X12_goWeek_169 (j + 1 + g)) f) (nI w) fi (nI (ordS row s lc R w fi p).length) (nI p) (nI (q + 1)) t = _
                  unfold B_X12_goWeek_265
                  have m1 : nI (q + 1) - (1 : Int32) = nI q := nI_pred q
                  rw [Nat.zero_add] at hx
                  rw [if_neg (nI_nle (by omega) (by omega)), m1, if_pos (inB_n (by omega) (by omega)), nI_clamp (by omega), hx, F_isAhead hB hp' hxN ht.1 ht.2, bd_some, hah, if_pos (by decide)])
                (fun f q t x ht hq hx hxN hah => by
                  show B_X12_goWeek_265 (F_X12_goWeek_169 (j + 1 + g)) (F_X12_goWeek_265 (F_X12_goWeek_169 (j + 1 + g)) f) (nI w) fi (nI (ordS row s lc R w fi p).length) (nI p) (nI (q + 1)) t = _
                  unfold B_X12_goWeek_265
                  have m1 : nI (q + 1) - (1 : Int32) = nI q := nI_pred q
                  rw [Nat.zero_add] at hx
                  rw [if_neg (nI_nle (by omega) (by omega)), m1, if_pos (inB_n (by omega) (by omega)), nI_clamp (by omega), hx, F_isAhead hB hp' hxN ht.1 ht.2, bd_some, hah, if_neg (by decide), if_pos (inB_n (by omega) (by omega)), if_pos (inB_n (by omega) (by omega)), nI_clamp (by omega), pk_m1, hx, Nat.zero_add])
                (fun t q v ht => ⟨by rw [gI_sI_row (by decide)]; exact ht.1, fun q' hq' => by rw [gI_sI_row (by decide)]; exact ht.2 q' hq'⟩)
                (ordS row s lc R w fi p) [] (sI σ 147 p 0) ⟨K1.1, a1⟩ (by simp; omega) (fun x hx => by have := ordS_mem p x hx; omega) A1 (fun i hi => absurd hi (Nat.not_lt_zero i))
              have z1' : F_X12_goWeek_265 (F_X12_goWeek_169 (j + 1 + g)) BIG (nI w) fi (nI (ordS row s lc R w fi p).length) (nI p) (nI (ordS row s lc R w fi p).length) (sI σ 147 p 0) = F_X12_goWeek_311 (F_X12_goWeek_169 (j + 1 + g)) (nI w) fi (nI (ordS row s lc R w fi p).length) (nI p) (nI k') σ' := by rw [hg2]; exact z1
              rw [z1']
              unfold F_X12_goWeek_311 F_X12_goWeek_323
              rw [if_pos (inB_n (by omega) (by omega)), nI_clamp (by omega), nI_1, nI_1]
              have z4' : LRv (gI (sI σ' 150 k' (nI p)) 150) 0 (ordS row s lc R w fi (p + 1)) := by
                rw [gI_sI_own, step, if_pos hon]
                rw [Nat.zero_add] at z4
                exact z4
              have K2 : KI row k σ' := K1.ch z5 (K1.2.2.1.ch z5 (by simp) (by simp) (by simp) (by simp)) (by simp) (by simp) (by simp) (by simp) (by simp)
              have hlen2 : (ordS row s lc R w fi (p + 1)).length = (ordS row s lc R w fi p).length + 1 := by rw [step, if_pos hon, insR_len]
              have := ih (p + 1) (sI σ' 150 k' (nI p)) (by omega) (K2.gp (by decide)) ((hO1.ch z5 (by simp) (by simp)).ch (Ch.sI1 (cs := [150]) (fs := []) (Or.inr (by simp))) (by simp) (by simp)) (fun q hq => by rw [gI_sI_row (by decide)]; exact z3.2 q hq) (fun q hq => by rw [gI_sI_row (by decide), z5.rI (by simp) (by simp)]; exact l1 q hq) z4'
              rw [hlen2] at this
              obtain ⟨τ, t1, t2, t3, t4, t5⟩ := this
              exact ⟨τ, t1, t2, t3, t4, (((Ch.sI1 (Or.inr (by simp))).trans (z5.mono (by simp) (by simp))).trans (Ch.sI1 (Or.inr (by simp)))).trans t5⟩
          · have : lc p = false := Bool.eq_false_iff.mpr c3
            rw [this, show b2 false = 0 from rfl, if_pos rfl]; exact no (by rw [eon]; exact decide_eq_false (fun q => c3 q.2.2.1))
        · rw [if_pos (nI_lt (by omega) (by omega))]; exact no (by rw [eon]; exact decide_eq_false (fun q => c2 q.2.1))
      · rw [if_pos (nI_lt (by omega) (by omega))]; exact no (by rw [eon]; exact decide_eq_false (fun q => c1 q.1))
def gwF (row : Nat → Int32) (k : Int32) (w : Nat) (L : List Nat) (R : Nat → Nat → Int32) : Nat → Nat → Int32 := L.foldl (fun R p => gpR row k w p R) R
theorem RV_gwF {row : Nat → Int32} {k : Int32} {w : Nat} : ∀ (L : List Nat) (R : Nat → Nat → Int32), RV_ R → (∀ x, x ∈ L → x < 30) → RV_ (gwF row k w L R) := by
  intro L
  induction L with
  | nil => intro R h _; exact h
  | cons x t ih => intro R h hL; exact ih _ (RV_gpS (hL x List.mem_cons_self) 4 R h) (fun y hy => hL y (List.mem_cons_of_mem _ hy))
theorem week_go {row : Nat → Int32} {k : Int32} {w g : Nat} (hV : AV row) (hB : BV row) (hw : w < 260) : ∀ (L2 L1 : List Nat) (R : Nat → Nat → Int32) (σ : AH), L1.length + L2.length ≤ 30 → (∀ x, x ∈ L2 → x < nP row) → KI row k σ → RV_ R → RO_ σ R → (∀ i, i < L2.length → gI σ 150 (L1.length + i) = nI (L2.getD i 0)) →
    ∃ τ, F_X12_goWeek_332 (L2.length + 1 + g) (nI w) (nI (L1.length + L2.length)) (nI L1.length) σ = some τ ∧ RO_ τ (gwF row k w L2 R) ∧ KI row k τ ∧ Ch GPc NDf σ τ := by
  intro L2
  induction L2 with
  | nil =>
    intro L1 R σ hl hm hK hR hO hA
    refine ⟨σ, ?_, hO, hK, Ch.rf _⟩
    show F_X12_goWeek_332 (0 + 1 + g) (nI w) (nI (L1.length + 0)) (nI L1.length) σ = _
    rw [show 0 + 1 + g = g + 1 by omega]
    show B_X12_goWeek_332 (F_X12_goWeek_332 g) (nI w) (nI (L1.length + 0)) (nI L1.length) σ = _
    unfold B_X12_goWeek_332
    rw [if_pos (nI_le (by omega) (by simp at hl; omega))]
  | cons x t ih =>
    intro L1 R σ hl hm hK hR hO hA
    have hlen : (x :: t).length = t.length + 1 := rfl
    rw [hlen] at hl ⊢
    rw [show t.length + 1 + 1 + g = (t.length + 1 + g) + 1 by omega]
    have hx := hA 0 (by simp)
    have hx' : gI σ 150 L1.length = nI x := hx
    have hxp := hm x List.mem_cons_self
    have b30 := hB.p.2.1
    obtain ⟨τ, t1, t2, t3, t4⟩ := F_goPlot (w := w) hV hB hxp hw hR hK hO
    show ∃ τ, B_X12_goWeek_332 (F_X12_goWeek_332 (t.length + 1 + g)) (nI w) (nI (L1.length + (t.length + 1))) (nI L1.length) σ = some τ ∧ _
    unfold B_X12_goWeek_332
    rw [if_neg (nI_ge (by omega) (by omega)), if_pos (inB_n (by omega) (by omega)), nI_clamp (by omega), hx', t1, bv_some, nI_1]
    have := ih (L1 ++ [x]) (gpR row k w x R) τ (by simp; omega) (fun y hy => hm y (List.mem_cons_of_mem _ hy)) t3 (RV_gpS (by omega) 4 R hR) t2 (fun i hi => by
      rw [t4.rI (by simp [GPc]) (by simp [NDf])]
      have := hA (i + 1) (by rw [hlen]; omega)
      rw [List.getD_cons_succ] at this
      have e : (L1 ++ [x]).length + i = L1.length + (i + 1) := by simp; omega
      rw [e]; exact this)
    have e1 : (L1 ++ [x]).length = L1.length + 1 := by simp
    rw [e1, show L1.length + 1 + t.length = L1.length + (t.length + 1) by omega] at this
    obtain ⟨τ2, u1, u2, u3, u4⟩ := this
    exact ⟨τ2, u1, u2, u3, t4.trans u4⟩
/-- a WEEK -/
def gwR (row : Nat → Int32) (k lt_ : Int32) (s : Nat → Option Nat) (lc : Nat → Bool) (w : Nat) (R : Nat → Nat → Int32) : Nat → Nat → Int32 :=
  gwF row k w (ordS row s lc R w (firstV row k w) (nP row)).reverse
    (jzS (va_up (va_up R 142 (wkS row (nI w) (dvS row k lt_ (nI w) (R 142) (nD row)) (nW row))) 143 (fun c => gg row k (nI c) (nI w))) (nP row))
theorem ordS_congr {row : Nat → Int32} {s : Nat → Option Nat} {lc : Nat → Bool} {R R' : Nat → Nat → Int32} {w : Nat} {fi : Int32} (h : R 144 = R' 144) : ∀ p, ordS row s lc R w fi p = ordS row s lc R' w fi p := by
  intro p
  induction p with
  | zero => rfl
  | succ p ih =>
    unfold ordS
    have : onP row s lc R w p = onP row s lc R' w p := by unfold onP; rw [h]
    rw [this, ih]
theorem F_goWeek {row : Nat → Int32} {k lt_ : Int32} {s : Nat → Option Nat} {lc : Nat → Bool} {R : Nat → Nat → Int32} {w : Nat} {σ : AH} (hV : AV row) (hB : BV row) (hs : ∀ p w, s p = some w → w < 260) (hw : w < 260) (hK : KI row k σ) (hR : RV_ R) (hO : RO_ σ R) (hl : gI σ 124 45 = lt_) (ha : ∀ q, q < 30 → gI σ 140 q = oI (s q)) (hc : ∀ q, q < nP row → gI σ 141 q = b2 (lc q)) :
    ∃ τ, F_X12_goWeek (nI w) σ = some τ ∧ RO_ τ (gwR row k lt_ s lc w R) ∧ RV_ (gwR row k lt_ s lc w R) ∧ KI row k τ ∧ Ch GWc NDf σ τ := by
  obtain ⟨p0, p1, p2⟩ := hB.p
  unfold F_X12_goWeek
  -- deliveries
  obtain ⟨g1, hg1⟩ := BIGe (nD row) (by have := hB.d.2.1; omega)
  obtain ⟨τ1, a1, a2, a3⟩ := week_dv (k := k) (lt_ := lt_) (w := nI w) (g := g1) hB (nD row) 0 σ (R 142) (by omega) hK.1 hK.2.1 hl (fun i hi => hO 142 (by decide) (by decide) i hi)
  have a1' : F_X12_goWeek_2 BIG (nI w) 0 σ = F_X12_goWeek_103 BIG (nI w) 0 τ1 := by rw [hg1]; rw [← hg1]; rw [hg1]; exact (hg1 ▸ a1 : _)
  have K1 : KI row k τ1 := hK.ch a3 (hK.2.2.1.ch a3 (by simp) (by simp) (by simp) (by simp)) (by simp) (by simp) (by simp) (by simp) (by simp)
  rw [a1']
  -- works
  obtain ⟨g2, hg2⟩ := BIGe (nW row) (by have := hB.w.2.1; omega)
  obtain ⟨τ2, b1, b2', b3⟩ := week_wk (w := nI w) (g := g2) hB (nW row) 0 τ1 (dvS row k lt_ (nI w) (R 142) (nD row)) (by omega) K1.1 a2
  have K2 : KI row k τ2 := K1.ch b3 (K1.2.2.1.ch b3 (by simp) (by simp) (by simp) (by simp)) (by simp) (by simp) (by simp) (by simp) (by simp)
  rw [hg2, show (0 : Int32) = nI 0 from rfl, b1]
  -- gangs
  obtain ⟨g3, hg3⟩ := BIGe 6 (by decide)
  obtain ⟨τ3, c1, c2, c3⟩ := week_gg (k := k) (w := nI w) (g := g3) hB 6 0 τ2 rfl K2.1 K2.2.1 (fun i hi => absurd hi (Nat.not_lt_zero i))
  have K3 : KI row k τ3 := K2.ch c3 (K2.2.2.1.ch c3 (by simp) (by simp) (by simp) (by simp)) (by simp) (by simp) (by simp) (by simp) (by simp)
  rw [hg3, show (0 : Int32) = nI 0 from rfl, c1]
  obtain ⟨R2, eR2⟩ : ∃ Q, Q = va_up (va_up R 142 (wkS row (nI w) (dvS row k lt_ (nI w) (R 142) (nD row)) (nW row))) 143 (fun c => gg row k (nI c) (nI w)) := ⟨_, rfl⟩
  have e142 : R2 144 = R 144 := by rw [eR2, up_ne _ _ _ (by decide), up_ne _ _ _ (by decide)]
  have e145 : R2 145 = R 145 := by rw [eR2, up_ne _ _ _ (by decide), up_ne _ _ _ (by decide)]
  have hO3 : RO_ τ3 R2 := by
    rw [eR2]
    intro c h1 h2 i hi
    by_cases e3 : c = 143
    · subst e3; rw [up_same]; exact c2 i hi
    · rw [up_ne _ _ _ e3, c3.rI (by simp; exact e3) (by simp)]
      by_cases e2 : c = 142
      · subst e2; rw [up_same]; exact b2' i hi
      · rw [up_ne _ _ _ e2, b3.rI (by simp; exact e2) (by simp), a3.rI (by simp; exact e2) (by simp)]; exact hO c h1 h2 i hi
  -- the kind that is first
  obtain ⟨τ4, d1, d2, d3⟩ := F_firstOf hV K3 hw
  rw [d1, bd_some]
  have hO4 := hO3.ch d3 (by simp [NEc]) (by simp [NDf])
  have ha4 : ∀ q, q < 30 → gI τ4 140 q = oI (s q) := fun q hq => by
    rw [d3.rI (by simp [NEc]) (by simp [NDf]), c3.rI (by simp) (by simp), b3.rI (by simp) (by simp), a3.rI (by simp) (by simp)]; exact ha q hq
  have hc4 : ∀ q, q < nP row → gI τ4 141 q = b2 (lc q) := fun q hq => by
    rw [d3.rI (by simp [NEc]) (by simp [NDf]), c3.rI (by simp) (by simp), b3.rI (by simp) (by simp), a3.rI (by simp) (by simp)]; exact hc q hq
  -- the order
  obtain ⟨g4, hg4⟩ := BIGe (nP row) (by omega)
  obtain ⟨τ5, e1, e2, e3, e4, e5⟩ := week_ord (k := k) (lc := lc) (R := R2) (w := w) (g := g4) (fi := firstV row k w) hB hs hw (nP row) 0 τ4 (by omega) d2 hO4 ha4 hc4 (fun i hi => absurd hi (Nat.not_lt_zero i))
  have e1' : F_X12_goWeek_169 BIG (nI w) (firstV row k w) 0 0 τ4 = F_X12_goWeek_332 BIG (nI w) (nI (ordS row s lc R2 w (firstV row k w) (nP row)).length) 0 τ5 := by
    have := e1
    rw [← hg4] at this
    exact this
  have e1'' : F_X12_goWeek_169 BIG (nI w) (firstV row k w) (nI 0) (nI 0) τ4 = F_X12_goWeek_332 BIG (nI w) (nI (ordS row s lc R2 w (firstV row k w) (nP row)).length) 0 τ5 := e1'
  try rw [← hg3]
  first | rw [e1'] | rw [e1'']
  rw [ordS_congr (R' := R) e142]
  rw [ordS_congr (R' := R) e142] at e4
  have hlen := ordS_len (row := row) (s := s) (lc := lc) (R := R) (w := w) (fi := firstV row k w) (nP row)
  have hR3 : RV_ (jzS R2 (nP row)) := fun q hq => by
    rw [jzS_row (by decide), jzS_row (by decide), e142, e145]; exact hR q hq
  have hmem : ∀ x, x ∈ (ordS row s lc R w (firstV row k w) (nP row)).reverse → x < nP row := fun x hx => ordS_mem _ x (List.mem_reverse.mp hx)
  obtain ⟨g5, hg5⟩ := BIGe (ordS row s lc R w (firstV row k w) (nP row)).reverse.length (by simp; omega)
  obtain ⟨τ6, f1, f2, f3, f4⟩ := week_go (w := w) (g := g5) hV hB hw (ordS row s lc R w (firstV row k w) (nP row)).reverse [] _ τ5 (by simp; omega) hmem e2 hR3 e3 (fun i hi => by
    have hi' : i < (ordS row s lc R w (firstV row k w) (nP row)).length := by simpa using hi
    have := e4 i hi'
    rw [Nat.zero_add] at this
    show gI τ5 150 (0 + i) = _
    rw [Nat.zero_add, this]
    congr 1
    simp only [List.getD]
    rw [List.getElem?_reverse hi'])
  have egw : gwR row k lt_ s lc w R = gwF row k w (ordS row s lc R w (firstV row k w) (nP row)).reverse (jzS R2 (nP row)) := by rw [eR2]; rfl
  rw [egw]
  refine ⟨τ6, ?_, f2, RV_gwF _ _ hR3 (fun x hx => by have := hmem x hx; omega), f3, ?_⟩
  · rw [hg5]
    have : F_X12_goWeek_332 ((ordS row s lc R w (firstV row k w) (nP row)).reverse.length + 1 + g5) (nI w) (nI (0 + (ordS row s lc R w (firstV row k w) (nP row)).reverse.length)) (nI 0) τ5 = some τ6 := f1
    rw [Nat.zero_add, List.length_reverse] at this
    rw [List.length_reverse]
    exact this
  · exact (((((a3.mono (by simp [GWc]) (by simp)).trans (b3.mono (by simp [GWc]) (by simp))).trans (c3.mono (by simp [GWc]) (by simp))).trans (d3.mono (by simp [NEc, GWc]) (by simp [NDf]))).trans (e5.mono (by simp [GWc]) (by simp))).trans (f4.mono (by simp [GPc, GWc]) (by simp [NDf]))
end
