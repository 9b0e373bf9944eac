section
/-! the reference reads PLAIN TESTS -/
theorem wordNot {L b : Nat} {tp : Nat → Int32} {σ : AH} (hk : TkR L tp b σ) : F_X12_isWord (14836 : Int64) σ = some (b2 (isW L tp b wNot), σ) := F_isWordR hk (by decide) (by decide)
theorem wordAnd {L b : Nat} {tp : Nat → Int32} {σ : AH} (hk : TkR L tp b σ) : F_X12_isWord (1476 : Int64) σ = some (b2 (isW L tp b wAnd), σ) := F_isWordR hk (by decide) (by decide)
theorem wordOr {L b : Nat} {tp : Nat → Int32} {σ : AH} (hk : TkR L tp b σ) : F_X12_isWord (498 : Int64) σ = some (b2 (isW L tp b wOr), σ) := F_isWordR hk (by decide) (by decide)
theorem fe_01 {x1 : Int32} {σ : AH} (h0 : gI σ 124 12 = 0) (h : F_X12_readPlain σ = bd (F_X12_readPart σ) fun v18 σ14 => some (v18, σ14)) : ∀ n, F_X12_readExpression_20 n x1 (nI 0) σ = F_X12_readExpression_20 n x1 (nI 1) σ := fun n => by
  cases n with
  | zero => rfl
  | succ n =>
    show B_X12_readExpression_20 (F_X12_readExpression_20 n) x1 (nI 0) σ = B_X12_readExpression_20 (F_X12_readExpression_20 n) x1 (nI 1) σ
    unfold B_X12_readExpression_20 F_X12_readExpression_72
    rw [if_pos h0, if_pos h0, if_neg (show ¬ nI 0 = (4 : Int32) by decide), if_pos (show nI 0 = (0 : Int32) from rfl), if_neg (show ¬ nI 1 = (4 : Int32) by decide), if_neg (show ¬ nI 1 = (0 : Int32) by decide), if_pos (show nI 1 = (1 : Int32) from rfl), h]
    cases F_X12_readPart σ with
    | none => rfl
    | some v => rfl
/-- behind a TEST in brackets -/
theorem brk41 {L b m np o : Nat} {tp : Nat → Int32} {Q P : List (Nat × Nat)} {σ : AH} (h : RgS L tp b m np (o + 1) (Q ++ (30, 0) :: P) σ) (hQ : QI 8 19 Q) (n1 : isW L tp b wAnd = false) (n2 : isW L tp b wOr = false) :
    (isS L tp b 41 = false ∧ ∃ τ, F_X12_behindTest σ = some (2, τ) ∧ RgX L tp b m (Q ++ (30, 0) :: P) τ ∧ Ch RRc RRf σ τ) ∨
    (isS L tp b 41 = true ∧ ∃ τ, F_X12_behindTest σ = some (2, τ) ∧ RgS L tp (nxt L tp b) (setQ Q (gI σ 130, gI σ 131, m)).2.2 np o P τ ∧ gI τ 130 = (setQ Q (gI σ 130, gI σ 131, m)).1 ∧ gI τ 131 = (setQ Q (gI σ 130, gI σ 131, m)).2.1 ∧ Ch RRc RRf σ τ) := by
  have bm := h.b
  have iq : innr (Q ++ (30, 0) :: P) = some 30 := by
    rw [innr_app (fun q hq => by have := hQ q hq; omega), innr_c, if_pos (show 30 ≤ (30, 0).1 from Nat.le_refl 30)]
  have F0 : F_X12_behindTest σ = bd (some (b2 (isS L tp b 41), σ)) fun v24 σ20 => (bv (F_X12_must v24 σ20) fun σ26 => (if (gI σ26 124 12) = 0 then (bv (F_X12_settle (1 : Int32) σ26) fun σ31 => (some ((2 : Int32), (sI (sI σ31 124 21 ((gI σ31 124 21) - (1 : Int32))) 124 22 ((gI (sI σ31 124 21 ((gI σ31 124 21) - (1 : Int32))) 124 22) - (1 : Int32)))))) else (some ((2 : Int32), σ26)))) := by
    unfold F_X12_behindTest
    rw [wordAnd h.2.1, bd_some, n1, hpF, wordOr h.2.1, bd_some, n2, hpF, F_innerR h.2.2.2.2.2.2.1 h.2.2.2.2.2.2.2.2.2.2 (by omega), bd_some, iq, show oI (some 30) = (30 : Int32) from rfl, if_neg (show ¬ (30 : Int32) = -1 by decide), F_isSignR h.2.1]
  rw [bd_some] at F0
  cases c : isS L tp b 41 with
  | false =>
    left
    obtain ⟨τ, t1, t2, t3⟩ := F_must0 h
    rw [c, show b2 false = (0 : Int32) from rfl, t1, bv_some, t2.2.1, if_neg (show ¬ (1 : Int32) = 0 by decide)] at F0
    exact ⟨rfl, τ, F0, t2, t3⟩
  | true =>
    right
    refine ⟨rfl, ?_⟩
    obtain ⟨s1, t1, t2, t3, t4, t5⟩ := F_must1 (v := 1) h (by decide)
    rw [c, show b2 true = (1 : Int32) from rfl, t1, bv_some, if_pos t2.2.2.1] at F0
    obtain ⟨s2, u1, u2, u3, u4, u5⟩ := t2.settle (lv := 1) (hQ.b (by decide) (by decide)) (top_br (by decide) (by decide)) (by decide)
    rw [t3, t4] at u2 u3 u4
    have u1' : F_X12_settle (1 : Int32) s1 = some s2 := u1
    obtain ⟨h1, h2, h3, h4, h5, h6, h7, h8, h9, h10, h11⟩ := u2
    rw [List.length_cons] at h8
    have e21 : gI s2 124 21 - (1 : Int32) = nI P.length := by rw [h7.1, List.length_cons]; exact nI_back
    have e22 : gI (sI s2 124 21 (nI P.length)) 124 22 - (1 : Int32) = nI o := by rw [gI_sI_ne (by decide), h6]; exact nI_back
    rw [u1', bv_some, e21, e22] at F0
    obtain ⟨s3, hs3⟩ : ∃ s3, s3 = sI (sI s2 124 21 (nI P.length)) 124 22 (nI o) := ⟨_, rfl⟩
    rw [← hs3] at F0
    have k3 : Ch [] [(124, 21), (124, 22)] s2 s3 := by rw [hs3]; exact (Ch.sI1 (Or.inl (by simp))).trans (Ch.sI1 (Or.inl (by simp)))
    have P3 : PlR P s3 := by
      have := h7.tail
      rw [hs3]
      exact this.ch (Ch.sI1 (fs := [(124, 22)]) (cs := []) (Or.inl (by simp))) (by simp) (by simp)
    refine ⟨s3, F0, ⟨h1.ch k3 (by simp) (by simp), ?_, by rw [k3.pI (by simp) (by simp)]; exact h3, by rw [k3.pI (by simp) (by simp)]; exact h4, by rw [k3.pI (by simp) (by simp)]; exact h5, by rw [hs3]; exact gI_sI_at, P3, by omega, h9, by omega, fun q hq => h11 q (List.mem_cons_of_mem _ hq)⟩, by rw [k3.rI (by simp) (by simp)]; exact u3, by rw [k3.rI (by simp) (by simp)]; exact u4, (t5.trans u5).trans (k3.mono (by simp) (by simp [RRf]))⟩
    obtain ⟨q1, q2, q3, q4, q5⟩ := h2
    exact ⟨by rw [k3.pI (by simp) (by simp)]; exact q1, by rw [k3.pI (by simp) (by simp)]; exact q2, by rw [k3.pI (by simp) (by simp)]; exact q3, by rw [k3.pL (by simp) (by simp)]; exact q4, q5⟩
def EdT (L : Nat) (tp : Nat → Int32) (b : Nat) : Prop := isW L tp b wAnd = false ∧ isW L tp b wOr = false
/-- a TEST in brackets -/
theorem Rg_br {L o : Nat} {tp : Nat → Int32} {T : Nat → Nat → PR} {ok : Bool} (hok : ok = decide (o < 8)) (hTt : ok = true → RgP L tp T 8 19 1 0 2 (EdT L tp) (o + 1) cxT) {x1 : Int32} {b m np : Nat} {P : List (Nat × Nat)} {σ : AH} (h : RgS L tp b m np o P σ) (s40 : isS L tp b 40 = true) : RgR L tp (prBr L tp T ok) 8 17 0 2 (fun _ => True) x1 b m np o P σ := by
  have bm := h.b
  have nb := nxt_b (tp := tp) bm.1
  have lt := tkT_lt (L := L) (tp := tp) (b := b) (by rw [isS_sort s40]; decide)
  have nw : isW L tp b wNot = false := by
    cases z : isW L tp b wNot with
    | false => rfl
    | true => have := isW_sort z; have := isS_sort s40; omega
  have F0 : F_X12_readPlain σ = bv (F_X12_open (30 : Int32) σ) fun σ20 => some ((0 : Int32), σ20) := by
    unfold F_X12_readPlain
    rw [wordNot h.2.1, bd_some, nw, hpF, F_isSignR h.2.1, bd_some, s40, hnT]
  have p0 : prBr L tp T ok b np = if ok = true then (match T (nxt L tp b) np with
    | (b1, none) => (b1, none)
    | (b1, some (n1, D)) => if isS L tp b1 41 = true then (nxt L tp b1, some (n1, D)) else (b1, none)) else (b, none) := rfl
  rcases F_openR (br := 30) h lt (by decide) with ⟨o8, τ, a1, a2, a3⟩ | ⟨o8, s1, a1, a2, a3, a4, a5⟩
  · have a1' : F_X12_open (30 : Int32) σ = some τ := a1
    rw [a1', bv_some] at F0
    have okf : ok = false := by rw [hok, decide_eq_false (by omega)]
    rw [okf, if_neg (by decide)] at p0
    rw [okf]
    exact RgR.fail p0 ⟨τ, 1, _, _, fail1 (fe_0 h.2.2.1 F0) a2, a2, Nat.le_refl _, by omega, a3⟩
  · have a1' : F_X12_open (30 : Int32) σ = some s1 := a1
    rw [a1', bv_some] at F0
    have okt : ok = true := by rw [hok, decide_eq_true o8]
    rw [okt, if_pos rfl] at p0
    rw [okt]
    have r0 : Rn x1 0 σ 1 0 s1 := fe_0 h.2.2.1 F0
    obtain ⟨r1, r2⟩ := hTt okt x1 _ _ _ _ _ a2 (top_br (by decide) (by decide)) (Or.inl (by rw [innr_c, if_pos (show 30 ≤ (30, 0).1 from Nat.le_refl 30)]))
    rcases hr : T (nxt L tp b) np with ⟨b2, _ | ⟨n2, D2⟩⟩
    · rw [hr] at p0
      obtain ⟨τ, k, m', P', u1, u2, u3, u4, u5⟩ := r1 b2 hr
      exact RgR.fail p0 ⟨τ, 1 + k, m', P', fun g => by rw [show g + (1 + k) + 1 = (g + k + 1) + 1 by omega, r0, u1], u2, by omega, by omega, a5.trans u5⟩
    · rw [hr] at p0
      have p1 : prBr L tp T true b np = if isS L tp b2 41 = true then (nxt L tp b2, some (n2, D2)) else (b2, none) := p0
      obtain ⟨s2, k, m2, Q, u1, u2, u3, u4, u5, u6, u7, u8⟩ := r2 b2 n2 D2 hr
      have rr : Rn x1 0 σ (1 + k) 2 s2 := r0.trans u1
      rcases brk41 u2 u3 u4.1 u4.2 with ⟨c1, τ, c2, c3, c4⟩ | ⟨c1, τ, c2, c3, c4, c5, c6⟩
      · rw [c1, if_neg (by decide)] at p1
        exact RgR.fail p1 ⟨τ, 1 + k + 1, _, _, fun g => by rw [show g + (1 + k + 1) + 1 = (g + 1 + 1) + (1 + k) by omega, rr, fail1 (fe_2 u2.2.2.1 c2) c3], c3, by omega, by omega, (a5.trans u8).trans c4⟩
      · rw [c1, if_pos rfl] at p1
        have nb2 := nxt_b (tp := tp) u2.b.1
        have sl := setQ_lo (i := m) Q (gI s2 130, gI s2 131, m2) (by have := u7.2.1; show m ≤ m2; omega) u7.1
        have mm : m2 ≤ (setQ Q (gI s2 130, gI s2 131, m2)).2.2 := (setQ_m Q (gI s2 130, gI s2 131, m2)).1
        refine RgR.good p1 ⟨τ, 1 + k + 1, _, [], rr.trans (fe_2 u2.2.2.1 c2), c3, (fun q hq => by cases hq), trivial, by omega, fun t ht => ?_, ?_, (a5.trans u8).trans c6⟩
        · have := sl t ht
          rw [c4, c5]
          exact ⟨this.1.trans ((u6 t ht).1.trans (by rw [a3])), this.2.trans ((u6 t ht).2.trans (by rw [a4]))⟩
        · refine PnR.nil ?_ (by have := u7.2.1; omega)
          rw [c4, c5]
          exact u7.2.2.mo (by decide)
def tD (t : Bool) (D : Den) : Den := if t = true then ntD D else D
theorem tD2 {t : Bool} {D : Den} : tD t (tD t D) = D := by
  unfold tD
  cases t with
  | false => rfl
  | true => exact nt2
theorem tDn {t : Bool} {D : Den} : ntD (tD (!t) D) = tD t D := by
  unfold tD
  cases t with
  | false => exact nt2
  | true => rfl
theorem prPl0_e {L : Nat} {tp : Nat → Int32} {C B : Nat → Nat → PR} {t : Bool} {b np : Nat} : prPl0 L tp C B t b np = match (if isS L tp b 40 = true then B b np else C b np) with
  | (b1, none) => (b1, none)
  | (b1, some (n1, D)) => (b1, some (n1, tD t D)) := rfl
theorem pl_loop {L o : Nat} {tp : Nat → Int32} {C B : Nat → Nat → PR} {x1 : Int32} (hC : RgP L tp C 8 14 4 1 2 (fun _ => True) o cxT)
    (hB : ∀ (b m np : Nat) (P : List (Nat × Nat)) (σ : AH), RgS L tp b m np o P σ → isS L tp b 40 = true → RgR L tp B 8 17 0 2 (fun _ => True) x1 b m np o P σ) : ∀ (f : Nat) (t : Bool) (b m np : Nat) (P : List (Nat × Nat)) (σ : AH), 401 ≤ b + f → RgS L tp b m np o P σ → TopLt 4 P → cxT P x1 →
    (∀ b', prPl L tp C B f t b np = (b', none) → ∃ τ k m' P', (∀ g, F_X12_readExpression_20 (g + k + 1) x1 (nI 0) σ = F_X12_readExpression_76 τ) ∧ RgX L tp b' m' P' τ ∧ b ≤ b' ∧ k ≤ 4 * (b' - b) + 4 ∧ Ch RRc RRf σ τ) ∧
    (∀ b' np' D, prPl L tp C B f t b np = (b', some (np', D)) → ∃ τ k m' Q, Rn x1 0 σ k 2 τ ∧ RgS L tp b' m' np' o (Q ++ P) τ ∧ QI 8 17 Q ∧ True ∧ (b < b' ∧ np < np' ∧ k ≤ 4 * (b' - b)) ∧ (∀ t, t < m → gI τ 130 t = gI σ 130 t ∧ gI τ 131 t = gI σ 131 t) ∧ PnR (hx 17) Q (gI τ 130) (gI τ 131) m' m (np' - np) (tD t D) ∧ Ch RRc RRf σ τ) := by
  intro f
  induction f with
  | zero =>
    intro t b m np P σ hf h
    have := h.b
    omega
  | succ f ih =>
    intro t b m np P σ hf h hT hc
    have bm := h.b
    have nb := nxt_b (tp := tp) bm.1
    cases cw : isW L tp b wNot with
    | true =>
      have lt := tkT_lt (L := L) (tp := tp) (b := b) (by rw [isW_sort cw]; decide)
      obtain ⟨s', s1, c1, c2, C2, c3, c4, c5⟩ := h.pushNext (x := 17) (a := 0) lt (by decide) (by decide)
      have c1' : F_X12_push (17 : Int32) (0 : Int32) σ = some s' := c1
      have F0 : F_X12_readPlain σ = some (0, s1) := by
        unfold F_X12_readPlain
        rw [wordNot h.2.1, bd_some, cw, hnT, c1', bv_some, c2, bv_some]
      have r0 : Rn x1 0 σ 1 0 s1 := fe_0 h.2.2.1 F0
      rw [prPl_s, if_pos cw]
      obtain ⟨q1, q2⟩ := ih (!t) (nxt L tp b) m np ((17, 0) :: P) s1 (by omega) C2 (fun q hq => by cases hq; show bnd 17 < 4; decide) (cxT.app (Q := [(17, 0)]) hc (fun q hq => by rw [List.mem_singleton.mp hq]; show 17 < 30; decide))
      refine ⟨fun b' e' => ?_, fun b' np' D e' => ?_⟩
      · obtain ⟨τ, k', m', P', v1, v2, v3, v4, v5⟩ := q1 b' e'
        exact ⟨τ, 1 + k', m', P', fun g => by rw [show g + (1 + k') + 1 = (g + k' + 1) + 1 by omega, r0, v1], v2, by omega, by omega, c5.trans v5⟩
      · obtain ⟨τ, k', m', Q', v1, v2, v3, v4, v5, v6, v7, v8⟩ := q2 b' np' D e'
        have eQ : Q' ++ (17, 0) :: P = (Q' ++ [(17, 0)]) ++ P := by rw [List.append_assoc]; rfl
        refine ⟨τ, 1 + k', m', Q' ++ [(17, 0)], r0.trans v1, by rw [← eQ]; exact v2, fun q hq => ?_, trivial, by omega, fun t ht => ⟨(v6 t ht).1.trans (by rw [c3]), (v6 t ht).2.trans (by rw [c4])⟩, ⟨fun q hq => ?_, v7.2.1, ?_⟩, c5.trans v8⟩
        · rcases List.mem_append.mp hq with z | z
          · exact v3 q z
          · rw [List.mem_singleton.mp z]; show 8 ≤ 17 ∧ 17 ≤ 17; decide
        · rcases List.mem_append.mp hq with z | z
          · exact v7.1 q z
          · rw [List.mem_singleton.mp z]; exact Or.inr (by decide)
        · have v72 := v7.2.1
          have mm2 : m' ≤ (setQ Q' (gI τ 130, gI τ 131, m')).2.2 := (setQ_m Q' (gI τ 130, gI τ 131, m')).1
          rw [setQ_app, setQ_c, if_neg (show ¬ ((17, 0).1 = 18 ∨ (17, 0).1 = 19) by decide), setQ_n, ← tDn]
          exact SgV.nt (v7.2.2.cg (fun t t1 t2 => ⟨va_lo t2, va_lo t2⟩)) (by omega) (by show va_up _ _ _ _ = _; rw [up_same]) (by show va_up _ _ _ _ = _; rw [up_same]) (by decide)
    | false =>
      rw [prPl_s, if_neg (by rw [cw]; decide), prPl0_e]
      -- the plain TEST itself
      have key : ∀ (X : Nat → Nat → PR) (hi : Nat), hi ≤ 17 → RgR L tp X 8 hi 0 2 (fun _ => True) x1 b m np o P σ → (∀ b', (match X b np with
          | (b1, none) => (b1, none)
          | (b1, some (n1, D)) => ((b1, some (n1, tD t D)) : PR)) = (b', none) → ∃ τ k m' P', (∀ g, F_X12_readExpression_20 (g + k + 1) x1 (nI 0) σ = F_X12_readExpression_76 τ) ∧ RgX L tp b' m' P' τ ∧ b ≤ b' ∧ k ≤ 4 * (b' - b) + 4 ∧ Ch RRc RRf σ τ) ∧
          (∀ b' np' D, (match X b np with
          | (b1, none) => (b1, none)
          | (b1, some (n1, D)) => ((b1, some (n1, tD t D)) : PR)) = (b', some (np', D)) → ∃ τ k m' Q, Rn x1 0 σ k 2 τ ∧ RgS L tp b' m' np' o (Q ++ P) τ ∧ QI 8 17 Q ∧ True ∧ (b < b' ∧ np < np' ∧ k ≤ 4 * (b' - b)) ∧ (∀ t, t < m → gI τ 130 t = gI σ 130 t ∧ gI τ 131 t = gI σ 131 t) ∧ PnR (hx 17) Q (gI τ 130) (gI τ 131) m' m (np' - np) (tD t D) ∧ Ch RRc RRf σ τ) := fun X hi h17 hX => by
        obtain ⟨r1, r2⟩ := hX
        rcases hr : X b np with ⟨b2, _ | ⟨n2, D2⟩⟩
        · refine ⟨fun b' e' => ?_, fun b' np' D e' => (by cases e')⟩
          cases e'
          exact r1 _ hr
        · refine ⟨fun b' e' => (by cases e'), fun b' np' D e' => ?_⟩
          have e2 : (b2, some (n2, tD t D2)) = (b', some (np', D)) := e'
          cases e2
          obtain ⟨τ, k', m', Q', v1, v2, v3, v4, v5, v6, v7, v8⟩ := r2 _ _ _ hr
          exact ⟨τ, k', m', Q', v1, v2, v3.mono (Nat.le_refl _) h17, trivial, v5, v6, by rw [tD2]; exact v7.mo (hx_mo h17), v8⟩
      cases c40 : isS L tp b 40 with
      | true =>
        rw [if_pos rfl]
        exact key B 17 (by decide) (hB b m np P σ h c40)
      | false =>
        rw [if_neg (by decide)]
        refine key C 14 (by decide) ?_
        have F1 : F_X12_readPlain σ = bd (F_X12_readPart σ) fun v18 σ14 => some (v18, σ14) := by
          unfold F_X12_readPlain
          rw [wordNot h.2.1, bd_some, cw, hpF, F_isSignR h.2.1, bd_some, c40, hpF]
        have e01 := fe_01 (x1 := x1) h.2.2.1 F1
        obtain ⟨r1, r2⟩ := hC x1 b m np P σ h hT hc
        refine ⟨fun b' e' => ?_, fun b' np' D e' => ?_⟩
        · obtain ⟨τ, k', m', P', v1, v2, v3, v4, v5⟩ := r1 b' e'
          exact ⟨τ, k', m', P', fun g => by rw [e01, v1], v2, v3, v4, v5⟩
        · obtain ⟨τ, k', m', Q', v1, v2⟩ := r2 b' np' D e'
          exact ⟨τ, k', m', Q', fun g => by rw [e01]; exact v1 g, v2⟩
theorem Rg_plain {L o : Nat} {tp : Nat → Int32} {C B : Nat → Nat → PR} (hC : RgP L tp C 8 14 4 1 2 (fun _ => True) o cxT) (hB : ∀ (x1 : Int32) (b m np : Nat) (P : List (Nat × Nat)) (σ : AH), RgS L tp b m np o P σ → isS L tp b 40 = true → RgR L tp B 8 17 0 2 (fun _ => True) x1 b m np o P σ) : RgP L tp (prPl L tp C B 401 false) 8 17 3 0 2 (fun _ => True) o cxT := by
  intro x1 b m np P σ h hT hc
  obtain ⟨r1, r2⟩ := pl_loop (x1 := x1) hC (hB x1) 401 false b m np P σ (by omega) h (fun q hq => Nat.lt_succ_of_lt (hT q hq)) hc
  exact ⟨r1, r2⟩
end
