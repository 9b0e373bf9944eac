section
/-! the reference reads rows of TESTS -/
theorem isW_nxt {L b : Nat} {tp : Nat → Int32} {w : List Int32} (h : isW L tp b w = true) (hb : b ≤ L) : b + w.length ≤ nxt L tp b := by
  unfold isW at h
  have a := (Bool.and_eq_true_iff.mp (Bool.and_eq_true_iff.mp h).2).1
  have e := of_decide_eq_true a
  have := (tkE_b (tp := tp) hb).2.1
  have := (bl_b (tp := tp) this).1
  unfold nxt
  omega
/-- and, or: push, emit, go on -/
theorem RgS.pen {L b m np o c : Nat} {tp : Nat → Int32} {P : List (Nat × Nat)} {σ : AH} (h : RgS L tp b m np o P σ) (hb : b < L) (h2 : b + 2 ≤ nxt L tp b) (hc : c < 40) : ∃ s1 s2 τ, F_X12_push (nI c) (nI m) σ = some s1 ∧ F_X12_emit (nI c) (0 : Int32) s1 = some s2 ∧ F_X12_next s2 = some τ ∧ RgS L tp (nxt L tp b) (m + 1) np o ((c, m) :: P) τ ∧ gI τ 130 = va_up (gI σ 130) m (nI c) ∧ gI τ 131 = va_up (gI σ 131) m 0 ∧ Ch RRc RRf σ τ := by
  obtain ⟨h1, h2', h3, h4, h5, h6, h7, h8, h9, h10, h11⟩ := h
  have L4 := h1.2.1
  obtain ⟨s1, t1, t2, t3⟩ := F_pushR (o := c) (a := m) h7 (by omega)
  obtain ⟨s2, e1, e2, e3, e4, e5⟩ := F_emitR (x := nI c) (y := 0) (σ := s1) (m := m) (by rw [t3.pI (by simp) (by simp)]; exact h4) (by omega)
  have k2 : Ch [130, 131, 132, 133] [(124, 15), (124, 21)] σ s2 := (t3.mono (by simp) (by simp)).trans (e5.mono (by simp) (by simp))
  have K : TkR L tp b s2 := by
    obtain ⟨q1, q2, q3, q4, q5⟩ := h2'
    exact ⟨by rw [k2.pI (by simp) (by simp)]; exact q1, by rw [k2.pI (by simp) (by simp)]; exact q2, by rw [k2.pI (by simp) (by simp)]; exact q3, by rw [k2.pL (by simp) (by simp)]; exact q4, q5⟩
  obtain ⟨τ, u1, u2, u3⟩ := F_next1 (h1.ch k2 (by simp) (by simp)).r K
  have nb := nxt_b (tp := tp) h2'.2.2.2.2
  have k : Ch [130, 131, 132, 133] [(124, 7), (124, 8), (124, 9), (124, 10), (124, 15), (124, 21)] σ τ := (k2.mono (by simp) (by simp)).trans (u3.mono (by simp) (by simp [TNf]))
  refine ⟨s1, s2, τ, t1, e1, u1, ⟨h1.ch k (by simp) (by simp), u2, by rw [k.pI (by simp) (by simp)]; exact h3, by rw [u3.pI (by simp) (by simp [TNf])]; exact e2, by rw [k.pI (by simp) (by simp)]; exact h5, by rw [k.pI (by simp) (by simp)]; exact h6, (t2.ch e5 (by simp) (by simp)).ch u3 (by simp) (by simp [TNf]), by rw [List.length_cons]; omega, h9, h10, fun q hq => ?_⟩, by rw [u3.rI (by simp) (by simp [TNf]), e3, t3.rI (by simp) (by simp)], by rw [u3.rI (by simp) (by simp [TNf]), e4, t3.rI (by simp) (by simp)], k.mono (by simp [RRc]) (by simp [RRf])⟩
  rcases List.mem_cons.mp hq with z | z
  · rw [z]; exact ⟨hc, by show m < 400; omega⟩
  · exact h11 q z
theorem ao_loop {L o lv c hi1 hi m0 np0 : Nat} {x1 : Int32} {w : List Int32} {opD : Den → Den → Den} {tp : Nat → Int32} {p : Nat → Nat → PR} {E' : Nat → Prop} {P : List (Nat × Nat)}
    (hP : RgP L tp p 8 hi1 (lv + 1) 0 2 E' o cxT) (hc : c = 18 ∨ c = 19) (hop : ∀ {op ar : Nat → Int32} {i a j k1 k2 : Nat} {A B : Den}, SgV (hx hi) op ar i a k1 A → SgV (hx hi) op ar (a + 1) j k2 B → i ≤ a → a + 1 ≤ j → j ≤ 400 → op a = nI c → ar a = nI j → SgV (hx hi) op ar i j (k1 + k2) (opD A B)) (hh : hi1 ≤ hi ∧ c ≤ hi ∧ hi ≤ 19) (hb : bnd c = lv) (hlb : ∀ q : Fin 40, 8 ≤ q.val → q.val ≤ hi → lv ≤ bnd q.val) (hw : 2 ≤ w.length)
    (hst : ∀ b m np P σ, RgS L tp b m np o P σ → E' b → isW L tp b w = true → F_X12_behindTest σ = bv (F_X12_settle (nI lv) σ) fun s1 => bv (F_X12_push (nI c) (gI s1 124 15) s1) fun s2 => bv (F_X12_emit (nI c) (0 : Int32) s2) fun s3 => bv (F_X12_next s3) fun s4 => some ((0 : Int32), s4)) (hT : TopLt lv P) (hcx : cxT P x1) : ∀ (f b m np : Nat) (Q : List (Nat × Nat)) (D : Den) (σ : AH), 401 ≤ b + f → RgS L tp b m np o (Q ++ P) σ → QI 8 hi Q → E' b → np0 < np → PnR (hx hi) Q (gI σ 130) (gI σ 131) m m0 (np - np0) D →
    (∀ b', prAo L tp w opD p f b np D = (b', none) → ∃ τ k m' P', (∀ g, F_X12_readExpression_20 (g + k + 1) x1 (nI 2) σ = F_X12_readExpression_76 τ) ∧ RgX L tp b' m' P' τ ∧ b ≤ b' ∧ k ≤ 4 * (b' - b) + 4 ∧ Ch RRc RRf σ τ) ∧
    (∀ b' np' D', prAo L tp w opD p f b np D = (b', some (np', D')) → ∃ τ k m' Q', Rn x1 2 σ k 2 τ ∧ RgS L tp b' m' np' o (Q' ++ P) τ ∧ QI 8 hi Q' ∧ (E' b' ∧ isW L tp b' w = false) ∧ (b ≤ b' ∧ np ≤ np' ∧ k ≤ 4 * (b' - b)) ∧ (∀ t, t < m0 → gI τ 130 t = gI σ 130 t ∧ gI τ 131 t = gI σ 131 t) ∧ PnR (hx hi) Q' (gI τ 130) (gI τ 131) m' m0 (np' - np0) D' ∧ Ch RRc RRf σ τ) := by
  intro f
  induction f with
  | zero =>
    intro b m np Q D σ hf h
    have := h.b
    omega
  | succ f ih =>
    intro b m np Q D σ hf h hQ hE hn hp
    have bm := h.b
    cases sg : isW L tp b w with
    | true =>
      have lt : b < L := tkT_lt (L := L) (tp := tp) (b := b) (by rw [isW_sort sg]; decide)
      have nb := nxt_b (tp := tp) bm.1
      have n2' := isW_nxt sg bm.1
      have F0 := hst b m np _ σ h hE sg
      obtain ⟨s1, a1, A1, a2, a3, a4⟩ := h.settle (lv := lv) (hQ.b hlb (by omega)) hT (by have := bnd_6 (o := c); omega)
      obtain ⟨mS, hmS⟩ : ∃ mS, mS = (setQ Q (gI σ 130, gI σ 131, m)).2.2 := ⟨_, rfl⟩
      rw [← hmS] at A1
      have mm : m ≤ mS := by rw [hmS]; exact (setQ_m Q (gI σ 130, gI σ 131, m)).1
      obtain ⟨s', s'', s2, c1, c2, c2', C2, c3, c4, c5⟩ := A1.pen (c := c) lt (by omega) (by omega)
      rw [a1, bv_some, A1.2.2.2.1, c1, bv_some, c2, bv_some, c2', bv_some] at F0
      have r0 : Rn x1 2 σ 1 0 s2 := fe_2 h.2.2.1 F0
      have k2 : Ch RRc RRf σ s2 := a4.trans c5
      obtain ⟨r1, r2⟩ := hP x1 _ _ _ _ _ C2 (fun q hq => by cases hq; show bnd c < lv + 1; omega) (cxT.app (Q := [(c, mS)]) hcx (fun q hq => by rw [List.mem_singleton.mp hq]; show c < 30; omega))
      rw [prAo_s, if_pos sg]
      have hpm := hp.2.1
      rcases hr : p (nxt L tp b) np with ⟨b2, _ | ⟨n2, D2⟩⟩
      · obtain ⟨τ, k, m', P', u1, u2, u3, u4, u5⟩ := r1 b2 hr
        refine ⟨fun b' e' => ?_, fun b' np' D' e' => (by cases e')⟩
        cases e'
        exact ⟨τ, 1 + k, m', P', fun g => by rw [show g + (1 + k) + 1 = (g + k + 1) + 1 by omega, r0, u1], u2, by omega, by omega, k2.trans u5⟩
      · obtain ⟨s3, k, m3, Q2, u1, u2, u3, u4, u5, u6, u7, u8⟩ := r2 b2 n2 D2 hr
        have eQ : Q2 ++ (c, mS) :: P = (Q2 ++ [(c, mS)]) ++ P := by rw [List.append_assoc]; rfl
        have u72 := u7.2.1
        have low2 := setQ_lo (i := mS + 1) Q2 (gI s3 130, gI s3 131, m3) (by show mS + 1 ≤ m3; omega) u7.1
        have mm2 : m3 ≤ (setQ Q2 (gI s3 130, gI s3 131, m3)).2.2 := (setQ_m Q2 (gI s3 130, gI s3 131, m3)).1
        have mm3 : (setQ Q2 (gI s3 130, gI s3 131, m3)).2.2 ≤ m3 + Q2.length := (setQ_m Q2 (gI s3 130, gI s3 131, m3)).2
        have bm3 := u2.b
        have bl3 := bm3.2.2
        rw [List.length_append] at bl3
        have lowS := setQ_lo (i := m0) Q (gI σ 130, gI σ 131, m) (by show m0 ≤ m; omega) hp.1
        have pn : PnR (hx hi) (Q2 ++ [(c, mS)]) (gI s3 130) (gI s3 131) m3 m0 (n2 - np0) (opD D D2) := by
          refine ⟨fun q hq => ?_, by omega, ?_⟩
          · rcases List.mem_append.mp hq with z | z
            · rcases u7.1 q z with y | y
              · exact Or.inl (by omega)
              · exact Or.inr y
            · rw [List.mem_singleton.mp z]; exact Or.inl (by show m0 ≤ mS; omega)
          · rw [setQ_app, setQ_c, if_pos (show (c, mS).1 = 18 ∨ (c, mS).1 = 19 from hc), setQ_n, show n2 - np0 = (np - np0) + (n2 - np) by omega]
            refine hop (a := mS) (SgV.cg (op := (setQ Q (gI σ 130, gI σ 131, m)).1) (ar := (setQ Q (gI σ 130, gI σ 131, m)).2.1) (by rw [hmS]; exact hp.2.2) (fun t t1 t2 => ?_)) ((u7.2.2.mo (hx_mo hh.1)).cg (fun t t1 t2 => ⟨rfl, ?_⟩)) (by omega) (by show mS + 1 ≤ (setQ Q2 (gI s3 130, gI s3 131, m3)).2.2; omega) (by show (setQ Q2 (gI s3 130, gI s3 131, m3)).2.2 ≤ 400; omega) ?_ ?_
            · have y1 := low2 t (by omega)
              have y2 := u6 t (by omega)
              refine ⟨y1.1.trans (y2.1.trans ?_), Eq.trans ?_ (y1.2.trans (y2.2.trans ?_))⟩
              · rw [c3, va_lo t2, a2]
              · show va_up _ mS _ t = _; rw [va_lo t2]
              · rw [c4, va_lo t2, a3]
            · show va_up _ mS _ t = _
              unfold va_up
              rw [if_neg (by omega)]
            · have y1 := low2 mS (by omega)
              have y2 := u6 mS (by omega)
              refine y1.1.trans (y2.1.trans ?_)
              rw [c3, up_same]
            · show va_up _ mS _ mS = _; rw [up_same]
        obtain ⟨q1, q2⟩ := ih b2 m3 n2 (Q2 ++ [(c, mS)]) (opD D D2) s3 (by omega) (by rw [← eQ]; exact u2) (fun q hq => by
          rcases List.mem_append.mp hq with z | z
          · have := u3 q z; omega
          · rw [List.mem_singleton.mp z]; show 8 ≤ c ∧ c ≤ hi; omega) u4 (by omega) pn
        have rr : Rn x1 2 σ (1 + k) 2 s3 := r0.trans u1
        have k3 := k2.trans u8
        refine ⟨fun b' e' => ?_, fun b' np' D' e' => ?_⟩
        · obtain ⟨τ, k', m', P', v1, v2, v3, v4, v5⟩ := q1 b' e'
          exact ⟨τ, 1 + k + k', m', P', fun g => by rw [show g + (1 + k + k') + 1 = (g + k' + 1) + (1 + k) by omega, rr, v1], v2, by omega, by omega, k3.trans v5⟩
        · obtain ⟨τ, k', m', Q', v1, v2, v3, v4, v5, v6, v7, v8⟩ := q2 b' np' D' e'
          refine ⟨τ, 1 + k + k', m', Q', rr.trans v1, v2, v3, v4, by omega, fun t ht => ?_, v7, k3.trans v8⟩
          have y0 := v6 t ht
          have y1 := u6 t (by omega)
          have y2 := lowS t ht
          exact ⟨y0.1.trans (y1.1.trans ((by rw [c3, va_lo (by omega), a2] : gI s2 130 t = (setQ Q (gI σ 130, gI σ 131, m)).1 t).trans y2.1)), y0.2.trans (y1.2.trans ((by rw [c4, va_lo (by omega), a3] : gI s2 131 t = (setQ Q (gI σ 130, gI σ 131, m)).2.1 t).trans y2.2))⟩
    | false =>
      rw [prAo_s, if_neg (by rw [sg]; decide)]
      refine ⟨fun b' e' => (by cases e'), fun b' np' D' e' => ?_⟩
      cases e'
      exact ⟨σ, 0, m, Q, Rn.rf, h, hQ, ⟨hE, sg⟩, ⟨Nat.le_refl _, Nat.le_refl _, by omega⟩, fun _ _ => ⟨rfl, rfl⟩, hp, Ch.rf _⟩
theorem Rg_ao {L o lv c hi1 hi : Nat} {w : List Int32} {opD : Den → Den → Den} {tp : Nat → Int32} {p : Nat → Nat → PR} {E' : Nat → Prop}
    (hP : RgP L tp p 8 hi1 (lv + 1) 0 2 E' o cxT) (hc : c = 18 ∨ c = 19) (hop : ∀ {op ar : Nat → Int32} {i a j k1 k2 : Nat} {A B : Den}, SgV (hx hi) op ar i a k1 A → SgV (hx hi) op ar (a + 1) j k2 B → i ≤ a → a + 1 ≤ j → j ≤ 400 → op a = nI c → ar a = nI j → SgV (hx hi) op ar i j (k1 + k2) (opD A B)) (hh : hi1 ≤ hi ∧ c ≤ hi ∧ hi ≤ 19) (hb : bnd c = lv) (hlb : ∀ q : Fin 40, 8 ≤ q.val → q.val ≤ hi → lv ≤ bnd q.val) (hw : 2 ≤ w.length)
    (hst : ∀ b m np P σ, RgS L tp b m np o P σ → E' b → isW L tp b w = true → F_X12_behindTest σ = bv (F_X12_settle (nI lv) σ) fun s1 => bv (F_X12_push (nI c) (gI s1 124 15) s1) fun s2 => bv (F_X12_emit (nI c) (0 : Int32) s2) fun s3 => bv (F_X12_next s3) fun s4 => some ((0 : Int32), s4)) : RgP L tp (prAr L tp w opD p) 8 hi lv 0 2 (fun b => E' b ∧ isW L tp b w = false) o cxT := by
  intro x1 b m np P σ h hT hcx
  obtain ⟨r1, r2⟩ := hP x1 _ _ _ _ _ h (fun q hq => Nat.lt_succ_of_lt (hT q hq)) hcx
  unfold RgR prAr
  rcases hr : p b np with ⟨b2, _ | ⟨n2, D2⟩⟩
  · obtain ⟨τ, k, m', P', u1, u2, u3, u4, u5⟩ := r1 b2 hr
    refine ⟨fun b' e' => ?_, fun b' np' D' e' => (by cases e')⟩
    cases e'
    exact ⟨τ, k, m', P', u1, u2, u3, u4, u5⟩
  · obtain ⟨s3, k, m3, Q2, u1, u2, u3, u4, u5, u6, u7, u8⟩ := r2 b2 n2 D2 hr
    obtain ⟨q1, q2⟩ := ao_loop (x1 := x1) (m0 := m) (np0 := np) hP hc hop hh hb hlb hw hst hT hcx 401 b2 m3 n2 Q2 D2 s3 (by omega) u2 (u3.mono (Nat.le_refl _) hh.1) u4 (by omega) (u7.mo (hx_mo hh.1))
    refine ⟨fun b' e' => ?_, fun b' np' D' e' => ?_⟩
    · obtain ⟨τ, k', m', P', v1, v2, v3, v4, v5⟩ := q1 b' e'
      exact ⟨τ, k + k', m', P', fun g => by rw [show g + (k + k') + 1 = (g + k' + 1) + k by omega, u1, v1], v2, by omega, by omega, u8.trans v5⟩
    · obtain ⟨τ, k', m', Q', v1, v2, v3, v4, v5, v6, v7, v8⟩ := q2 b' np' D' e'
      exact ⟨τ, k + k', m', Q', u1.trans v1, v2, v3, v4, by omega, fun t ht => ⟨(v6 t ht).1.trans (u6 t ht).1, (v6 t ht).2.trans (u6 t ht).2⟩, v7, u8.trans v8⟩
theorem Rg_both {L o : Nat} {tp : Nat → Int32} {p : Nat → Nat → PR} (hP : RgP L tp p 8 17 3 0 2 (fun _ => True) o cxT) : RgP L tp (prAr L tp wAnd anD p) 8 18 2 0 2 (fun b => True ∧ isW L tp b wAnd = false) o cxT := by
  refine Rg_ao (c := 18) (w := wAnd) hP (Or.inl rfl) (fun h1 h2 h3 h4 h5 h6 h7 => SgV.ao (A := fun _ => none) (B := fun _ => none) h1.2 h2.2 h5 h6 h7 (by decide) (SgR.an h1.1 h2.1 h3 h4 h5 h6 h7)) (by decide) (by decide) (by decide) (by decide) (fun b m np P σ h _ sg => ?_)
  unfold F_X12_behindTest F_X12_behindTest_22 F_X12_behindTest_32 F_X12_behindTest_47 F_X12_behindTest_66
  rw [wordAnd h.2.1, bd_some, sg, hnT, hnT]
  rfl
theorem Rg_test1 {L o : Nat} {tp : Nat → Int32} {p : Nat → Nat → PR} (hP : RgP L tp p 8 18 2 0 2 (fun b => True ∧ isW L tp b wAnd = false) o cxT) : RgP L tp (prAr L tp wOr orD p) 8 19 1 0 2 (EdT L tp) o cxT := by
  refine RgP.ende (Rg_ao (c := 19) (w := wOr) hP (Or.inr rfl) (fun h1 h2 h3 h4 h5 h6 h7 => SgV.ao (A := fun _ => none) (B := fun _ => none) h1.2 h2.2 h5 h6 h7 (by decide) (SgR.or h1.1 h2.1 h3 h4 h5 h6 h7)) (by decide) (by decide) (by decide) (by decide) (fun b m np P σ h hE sg => ?_)) (fun b hb => ⟨hb.1.2, hb.2⟩)
  unfold F_X12_behindTest F_X12_behindTest_22 F_X12_behindTest_32 F_X12_behindTest_47 F_X12_behindTest_66
  rw [wordAnd h.2.1, bd_some, hE.2, hpF, wordOr h.2.1, bd_some, sg, hnT, hpF]
  rfl
theorem Rg_test {L : Nat} {tp : Nat → Int32} : ∀ (k : Nat), k ≤ 8 → RgP L tp (prTs L tp k) 8 19 1 0 2 (EdT L tp) (8 - k) cxT := by
  intro k
  induction k with
  | zero =>
    intro _
    rw [prTs_z]
    exact Rg_test1 (Rg_both (Rg_plain (Rg_cmp (Rg_sum 0 (by decide))) (fun x1 b m np P σ h s40 => Rg_br (by decide) (fun z => by cases z) h s40)))
  | succ k ih =>
    intro hk
    have h := ih (by omega)
    rw [prTs_s]
    refine Rg_test1 (Rg_both (Rg_plain (Rg_cmp (Rg_sum (k + 1) hk)) (fun x1 b m np P σ hh s40 => Rg_br (by rw [decide_eq_true (by omega)]) (fun _ => ?_) hh s40)))
    rw [show 8 - (k + 1) + 1 = 8 - k by omega]
    exact h
end
