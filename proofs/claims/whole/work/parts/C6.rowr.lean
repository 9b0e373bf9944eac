section
/-! the reference reads rows of PARTS and of TERMS -/
theorem isS_inj {L b : Nat} {tp : Nat → Int32} {x y : Int32} (h : isS L tp b x = true) (hxy : x ≠ y) : isS L tp b y = false := by
  cases z : isS L tp b y with
  | false => rfl
  | true =>
    unfold isS at h z
    have a := of_decide_eq_true (Bool.and_eq_true_iff.mp h).2
    have c := of_decide_eq_true (Bool.and_eq_true_iff.mp z).2
    exact absurd (a.symm.trans c) hxy
theorem row_loop {L o lv lo1 lo ox oy m0 np0 : Nat} {x y x1 : Int32} {tp : Nat → Int32} {p : Nat → Nat → PR} {E' : Nat → Prop} {P : List (Nat × Nat)}
    (hP : RgP L tp p lo1 11 (lv + 1) 1 3 E' o (fun _ _ => True)) (h5 : lv = 5 ∨ lv = 6) (hlo : lo ≤ lo1 ∧ lo ≤ ox ∧ lo ≤ oy ∧ 8 ≤ ox ∧ 8 ≤ oy ∧ ox ≤ 11 ∧ oy ≤ 11) (hb : bnd ox = lv ∧ bnd oy = lv) (hlb : ∀ q : Fin 40, lo ≤ q.val → q.val ≤ 11 → lv ≤ bnd q.val)
    (hst : ∀ x1 b m np P σ, RgS L tp b m np o P σ → E' b → isS L tp b x = true ∨ isS L tp b y = true → F_X12_behindSum x1 σ = F_X12_behindSum_57 x1 (nI (if isS L tp b x = true then ox else oy)) σ) (hT : TopLt lv P) : ∀ (f b m np : Nat) (Q : List (Nat × Nat)) (D : Den) (σ : AH), 401 ≤ b + f → RgS L tp b m np o (Q ++ P) σ → QI lo 11 Q → E' b → np0 < np → PnR (hx 11) Q (gI σ 130) (gI σ 131) m m0 (np - np0) D →
    (∀ b', prLoop L tp x y (nI ox) (nI oy) p f b np D = (b', none) → ∃ τ k m' P', (∀ g, F_X12_readExpression_20 (g + k + 1) x1 (nI 3) σ = F_X12_readExpression_76 τ) ∧ RgX L tp b' m' P' τ ∧ b ≤ b' ∧ k ≤ 4 * (b' - b) + 4 ∧ Ch RRc RRf σ τ) ∧
    (∀ b' np' D', prLoop L tp x y (nI ox) (nI oy) p f b np D = (b', some (np', D')) → ∃ τ k m' Q', Rn x1 3 σ k 3 τ ∧ RgS L tp b' m' np' o (Q' ++ P) τ ∧ QI lo 11 Q' ∧ (E' b' ∧ isS L tp b' x = false ∧ isS L tp b' y = false) ∧ (b ≤ b' ∧ np ≤ np' ∧ k ≤ 4 * (b' - b)) ∧ (∀ t, t < m0 → gI τ 130 t = gI σ 130 t ∧ gI τ 131 t = gI σ 131 t) ∧ PnR (hx 11) Q' (gI τ 130) (gI τ 131) m' m0 (np' - np0) D' ∧ Ch RRc RRf σ τ) := by
  intro f
  induction f with
  | zero =>
    intro b m np Q D σ hf h
    have := h.b
    omega
  | succ f ih =>
    intro b m np Q D σ hf h hQ hE hn hp
    have bm := h.b
    by_cases sg : isS L tp b x = true ∨ isS L tp b y = true
    · have lt : b < L := tkT_lt (L := L) (tp := tp) (b := b) (fun z => by rcases sg with y | y <;> · have := isS_sort y; omega)
      have nb := nxt_b (tp := tp) bm.1
      obtain ⟨oo, hoo⟩ : ∃ oo, oo = (if isS L tp b x = true then ox else oy) := ⟨_, rfl⟩
      have ho2 : lo ≤ oo ∧ 8 ≤ oo ∧ oo ≤ 11 ∧ bnd oo = lv := by
        rw [hoo]
        by_cases z : isS L tp b x = true
        · rw [if_pos z]; exact ⟨hlo.2.1, hlo.2.2.2.1, hlo.2.2.2.2.2.1, hb.1⟩
        · rw [if_neg z]; exact ⟨hlo.2.2.1, hlo.2.2.2.2.1, hlo.2.2.2.2.2.2, hb.2⟩
      have hoo' : (if isS L tp b x = true then nI ox else nI oy) = nI oo := by
        rw [hoo]
        by_cases z : isS L tp b x = true
        · rw [if_pos z, if_pos z]
        · rw [if_neg z, if_neg z]
      have F0 := hst x1 b m np _ σ h hE sg
      rw [← hoo] at F0
      unfold F_X12_behindSum_57 at F0
      obtain ⟨s1, a1, A1, a2, a3, a4⟩ := h.settle (lv := lv) (hQ.b hlb (by decide)) hT (by omega)
      obtain ⟨mS, hmS⟩ : ∃ mS, mS = (setQ Q (gI σ 130, gI σ 131, m)).2.2 := ⟨_, rfl⟩
      rw [← hmS] at A1
      have mm : m ≤ mS := by rw [hmS]; exact (setQ_m Q (gI σ 130, gI σ 131, m)).1
      obtain ⟨s', s2, c1, c2, C2, c3, c4, c5⟩ := A1.pushNext (x := oo) (a := 0) lt (by omega) (by decide)
      have c1' : F_X12_push (nI oo) (0 : Int32) s1 = some s' := c1
      rw [if_neg (nI_neg1 (by omega)), F_bindsR (by omega), bd_some, ho2.2.2.2, a1, bv_some, c1', bv_some, c2, bv_some] at F0
      have r0 : Rn x1 3 σ 1 1 s2 := fe_3 h.2.2.1 F0
      have k2 : Ch RRc RRf σ s2 := a4.trans c5
      obtain ⟨r1, r2⟩ := hP x1 _ _ _ _ _ C2 (fun q hq => by cases hq; show bnd oo < lv + 1; omega) trivial
      rw [prLoop_s, if_pos sg, hoo']
      have hpm := hp.2.1
      rcases hr : p (nxt L tp b) np with ⟨b2, _ | ⟨n2, D2⟩⟩
      · obtain ⟨τ, k, m', P', u1, u2, u3, u4, u5⟩ := r1 b2 hr
        refine ⟨fun b' e' => ?_, fun b' np' D' e' => (by cases e')⟩
        cases e'
        exact ⟨τ, 1 + k, m', P', fun g => by rw [show g + (1 + k) + 1 = (g + k + 1) + 1 by omega, r0, u1], u2, by omega, by omega, k2.trans u5⟩
      · obtain ⟨s3, k, m3, Q2, u1, u2, u3, u4, u5, u6, u7, u8⟩ := r2 b2 n2 D2 hr
        have eQ : Q2 ++ (oo, 0) :: P = (Q2 ++ [(oo, 0)]) ++ P := by rw [List.append_assoc]; rfl
        have no : ∀ q, q ∈ Q2 → ¬ (q.1 = 18 ∨ q.1 = 19) := fun q hq z => by have := u3 q hq; omega
        have low2 := setQ_lo (i := mS) Q2 (gI s3 130, gI s3 131, m3) (by have := u7.2.1; show mS ≤ m3; omega) (fun q hq => Or.inr (no q hq))
        have mm2 : m3 ≤ (setQ Q2 (gI s3 130, gI s3 131, m3)).2.2 := (setQ_m Q2 (gI s3 130, gI s3 131, m3)).1
        have u72 := u7.2.1
        have lowS := setQ_lo (i := m0) Q (gI σ 130, gI σ 131, m) (by show m0 ≤ m; omega) hp.1
        have pn : PnR (hx 11) (Q2 ++ [(oo, 0)]) (gI s3 130) (gI s3 131) m3 m0 (n2 - np0) (bnD (nI oo) D D2) := by
          refine ⟨fun q hq => ?_, by omega, ?_⟩
          · rcases List.mem_append.mp hq with z | z
            · exact Or.inr (no q z)
            · rw [List.mem_singleton.mp z]; exact Or.inr (fun w => by have w' : oo = 18 ∨ oo = 19 := w; omega)
          · rw [setQ_app, setQ_c, if_neg (show ¬ ((oo, 0).1 = 18 ∨ (oo, 0).1 = 19) from fun w => by have w' : oo = 18 ∨ oo = 19 := w; omega), setQ_n, show n2 - np0 = (np - np0) + (n2 - np) by omega]
            refine SgV.bin (m := mS) (SgV.cg (op := (setQ Q (gI σ 130, gI σ 131, m)).1) (ar := (setQ Q (gI σ 130, gI σ 131, m)).2.1) (by rw [hmS]; exact hp.2.2) (fun t t1 t2 => ?_)) (u7.2.2.cg (fun t t1 t2 => ⟨va_lo t2, va_lo t2⟩)) (by omega) (by omega) (by omega) (by show va_up _ _ _ _ = _; rw [up_same]) (by omega) (by show va_up _ _ _ _ = _; rw [up_same]) hx_16
            have y1 := low2 t t2
            have y2 := u6 t t2
            exact ⟨(va_lo (by omega)).trans (y1.1.trans (y2.1.trans (by rw [c3, a2]))), (va_lo (by omega)).trans (y1.2.trans (y2.2.trans (by rw [c4, a3])))⟩
        obtain ⟨q1, q2⟩ := ih b2 m3 n2 (Q2 ++ [(oo, 0)]) (bnD (nI oo) D D2) s3 (by omega) (by rw [← eQ]; exact u2) (fun q hq => by
          rcases List.mem_append.mp hq with z | z
          · have := u3 q z; omega
          · rw [List.mem_singleton.mp z]; exact ⟨ho2.1, ho2.2.2.1⟩) u4 (by omega) pn
        have rr : Rn x1 3 σ (1 + k) 3 s3 := r0.trans u1
        have k3 := k2.trans u8
        refine ⟨fun b' e' => ?_, fun b' np' D' e' => ?_⟩
        · obtain ⟨τ, k', m', P', v1, v2, v3, v4, v5⟩ := q1 b' e'
          exact ⟨τ, 1 + k + k', m', P', fun g => by rw [show g + (1 + k + k') + 1 = (g + k' + 1) + (1 + k) by omega, rr, v1], v2, by omega, by omega, k3.trans v5⟩
        · obtain ⟨τ, k', m', Q', v1, v2, v3, v4, v5, v6, v7, v8⟩ := q2 b' np' D' e'
          refine ⟨τ, 1 + k + k', m', Q', rr.trans v1, v2, v3, v4, by omega, fun t ht => ?_, v7, k3.trans v8⟩
          have y0 := v6 t ht
          have y1 := u6 t (by omega)
          have y2 := lowS t ht
          exact ⟨y0.1.trans (y1.1.trans ((by rw [c3, a2] : gI s2 130 t = (setQ Q (gI σ 130, gI σ 131, m)).1 t).trans y2.1)), y0.2.trans (y1.2.trans ((by rw [c4, a3] : gI s2 131 t = (setQ Q (gI σ 130, gI σ 131, m)).2.1 t).trans y2.2))⟩
    · rw [prLoop_s, if_neg sg]
      refine ⟨fun b' e' => (by cases e'), fun b' np' D' e' => ?_⟩
      cases e'
      have c1 : isS L tp b x = false := by
        cases z : isS L tp b x with
        | false => rfl
        | true => exact absurd (Or.inl z) sg
      have c2 : isS L tp b y = false := by
        cases z : isS L tp b y with
        | false => rfl
        | true => exact absurd (Or.inr z) sg
      exact ⟨σ, 0, m, Q, Rn.rf, h, hQ, ⟨hE, c1, c2⟩, ⟨Nat.le_refl _, Nat.le_refl _, by omega⟩, fun _ _ => ⟨rfl, rfl⟩, hp, Ch.rf _⟩
theorem Rg_row {L o lv lo1 lo ox oy : Nat} {x y : Int32} {tp : Nat → Int32} {p : Nat → Nat → PR} {E' : Nat → Prop}
    (hP : RgP L tp p lo1 11 (lv + 1) 1 3 E' o (fun _ _ => True)) (h5 : lv = 5 ∨ lv = 6) (hlo : lo ≤ lo1 ∧ lo ≤ ox ∧ lo ≤ oy ∧ 8 ≤ ox ∧ 8 ≤ oy ∧ ox ≤ 11 ∧ oy ≤ 11) (hb : bnd ox = lv ∧ bnd oy = lv) (hlb : ∀ q : Fin 40, lo ≤ q.val → q.val ≤ 11 → lv ≤ bnd q.val)
    (hst : ∀ x1 b m np P σ, RgS L tp b m np o P σ → E' b → isS L tp b x = true ∨ isS L tp b y = true → F_X12_behindSum x1 σ = F_X12_behindSum_57 x1 (nI (if isS L tp b x = true then ox else oy)) σ) : RgP L tp (prRow L tp x y (nI ox) (nI oy) p) lo 11 lv 1 3 (fun b => E' b ∧ isS L tp b x = false ∧ isS L tp b y = false) o (fun _ _ => True) := by
  intro x1 b m np P σ h hT _
  obtain ⟨r1, r2⟩ := hP x1 _ _ _ _ _ h (fun q hq => Nat.lt_succ_of_lt (hT q hq)) trivial
  unfold RgR prRow
  rcases hr : p b np with ⟨b2, _ | ⟨n2, D2⟩⟩
  · obtain ⟨τ, k, m', P', u1, u2, u3, u4, u5⟩ := r1 b2 hr
    refine ⟨fun b' e' => ?_, fun b' np' D' e' => (by cases e')⟩
    cases e'
    exact ⟨τ, k, m', P', u1, u2, u3, u4, u5⟩
  · obtain ⟨s3, k, m3, Q2, u1, u2, u3, u4, u5, u6, u7, u8⟩ := r2 b2 n2 D2 hr
    obtain ⟨q1, q2⟩ := row_loop (x1 := x1) (m0 := m) (np0 := np) hP h5 hlo hb hlb hst hT 401 b2 m3 n2 Q2 D2 s3 (by omega) u2 (u3.mono hlo.1 (by decide)) u4 (by omega) u7
    refine ⟨fun b' e' => ?_, fun b' np' D' e' => ?_⟩
    · obtain ⟨τ, k', m', P', v1, v2, v3, v4, v5⟩ := q1 b' e'
      exact ⟨τ, k + k', m', P', fun g => by rw [show g + (k + k') + 1 = (g + k' + 1) + k by omega, u1, v1], v2, by omega, by omega, u8.trans v5⟩
    · obtain ⟨τ, k', m', Q', v1, v2, v3, v4, v5, v6, v7, v8⟩ := q2 b' np' D' e'
      exact ⟨τ, k + k', m', Q', u1.trans v1, v2, v3, v4, by omega, fun t ht => ⟨(v6 t ht).1.trans (u6 t ht).1, (v6 t ht).2.trans (u6 t ht).2⟩, v7, u8.trans v8⟩
theorem Rg_term {L o : Nat} {tp : Nat → Int32} {p : Nat → Nat → PR} (hP : RgP L tp p 10 11 7 1 3 (fun _ => True) o (fun _ _ => True)) : RgP L tp (prRow L tp 42 47 10 11 p) 10 11 6 1 3 (fun b => True ∧ isS L tp b 42 = false ∧ isS L tp b 47 = false) o (fun _ _ => True) := by
  refine Rg_row (ox := 10) (oy := 11) hP (Or.inr rfl) (by decide) (by decide) (by decide) (fun x1 b m np P σ h _ sg => ?_)
  unfold F_X12_behindSum
  have hn : ∀ {α : Type} {x y : α}, (if b2 true = 0 then x else y) = y := fun {α x y} => if_neg (show ¬ b2 true = 0 by decide)
  have hp : ∀ {α : Type} {x y : α}, (if b2 false = 0 then x else y) = x := fun {α x y} => if_pos (show b2 false = 0 from rfl)
  cases c : isS L tp b 42 with
  | true =>
    rw [F_isSignR h.2.1, bd_some, isS_inj (y := 43) c (by decide), hp, F_isSignR h.2.1, bd_some, isS_inj (y := 45) c (by decide), hp, F_isSignR h.2.1, bd_some, c, hn, if_pos rfl]; rfl
  | false =>
    have c' : isS L tp b 47 = true := by
      rcases sg with z | z
      · rw [c] at z; cases z
      · exact z
    rw [F_isSignR h.2.1, bd_some, isS_inj (y := 43) c' (by decide), hp, F_isSignR h.2.1, bd_some, isS_inj (y := 45) c' (by decide), hp, F_isSignR h.2.1, bd_some, c, hp, F_isSignR h.2.1, bd_some, c', hn, if_neg (by decide)]; rfl
theorem RgP.ende {L o lo hi lv T0 T1 : Nat} {tp : Nat → Int32} {p : Nat → Nat → PR} {E E' : Nat → Prop} {cx : List (Nat × Nat) → Int32 → Prop} (h : RgP L tp p lo hi lv T0 T1 E o cx) (he : ∀ b, E b → E' b) : RgP L tp p lo hi lv T0 T1 E' o cx := fun x1 b m np P σ h1 h2 h3 => by
  obtain ⟨r1, r2⟩ := h x1 b m np P σ h1 h2 h3
  exact ⟨r1, fun b' np' D e => by
    obtain ⟨τ, k, m', Q, u1, u2, u3, u4, u5⟩ := r2 b' np' D e
    exact ⟨τ, k, m', Q, u1, u2, u3, he _ u4, u5⟩⟩
theorem Rg_sum1 {L o : Nat} {tp : Nat → Int32} {p : Nat → Nat → PR} (hP : RgP L tp p 10 11 6 1 3 (fun b => True ∧ isS L tp b 42 = false ∧ isS L tp b 47 = false) o (fun _ _ => True)) : RgP L tp (prRow L tp 43 45 8 9 p) 8 11 5 1 3 (NA L tp [42, 47, 43, 45]) o (fun _ _ => True) := by
  refine RgP.ende (Rg_row (ox := 8) (oy := 9) (lo := 8) hP (Or.inl rfl) (by decide) (by decide) (by decide) (fun x1 b m np P σ h _ sg => ?_)) (fun b hb x hx => ?_)
  · unfold F_X12_behindSum
    have hn : ∀ {α : Type} {x y : α}, (if b2 true = 0 then x else y) = y := fun {α x y} => if_neg (show ¬ b2 true = 0 by decide)
    have hp : ∀ {α : Type} {x y : α}, (if b2 false = 0 then x else y) = x := fun {α x y} => if_pos (show b2 false = 0 from rfl)
    cases c : isS L tp b 43 with
    | true =>
      rw [F_isSignR h.2.1, bd_some, c, hn, if_pos rfl]; rfl
    | false =>
      have c' : isS L tp b 45 = true := by
        rcases sg with z | z
        · rw [c] at z; cases z
        · exact z
      rw [F_isSignR h.2.1, bd_some, c, hp, F_isSignR h.2.1, bd_some, c', hn, if_neg (by decide)]; rfl
  · simp only [List.mem_cons, List.not_mem_nil, or_false] at hx
    rcases hx with z | z | z | z <;> rw [z]
    · exact hb.1.2.1
    · exact hb.1.2.2
    · exact hb.2.1
    · exact hb.2.2
/-- a SUM, k brackets deep at most -/
theorem Rg_sum {L : Nat} {tp : Nat → Int32} : ∀ (k : Nat), k ≤ 8 → RgP L tp (prSm L tp k) 8 11 5 1 3 (NA L tp [42, 47, 43, 45]) (8 - k) (fun _ _ => True) := by
  intro k
  induction k with
  | zero =>
    intro _
    rw [prSm_z]
    exact Rg_sum1 (Rg_term (Rg_part (by decide) (fun z => by cases z)))
  | succ k ih =>
    intro hk
    have h := ih (by omega)
    rw [prSm_s]
    refine Rg_sum1 (Rg_term (Rg_part (by rw [decide_eq_true (by omega)]) (fun _ => ?_)))
    rw [show 8 - (k + 1) + 1 = 8 - k by omega]
    exact h
end
