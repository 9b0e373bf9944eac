section
/-! the class reads a CLAUSE: its head -/
theorem CcR.fail {L b sz np cn b1 : Nat} {tp : Nat → Int32} {x : Option (Int32 × AH)} {σ : AH} (h : ∃ τ, x = some (0, τ) ∧ TkC L tp b1 τ ∧ Ch CCc RDf σ τ) : CcR L tp (b1, none) x b sz np cn σ := ⟨fun b' e' => (by cases e'; exact h), fun b' np' C e' => (by cases e')⟩
theorem CcR.back {L b b1 sz np cn : Nat} {tp : Nat → Int32} {r : Nat × Option (Nat × Cls)} {x : Option (Int32 × AH)} {σ s : AH} (h : CcR L tp r x b1 sz np cn s) (hb : b ≤ b1) (c : Ch [] TKf σ s) : CcR L tp r x b sz np cn σ := by
  obtain ⟨r1, r2⟩ := h
  have k : Ch CCc RDf σ s := RD_CC (TKf_RDf c)
  have e : ∀ x, x ≠ 22 → gI s x = gI σ x := fun x hx => c.rI (by simp) (fun q hq => by
    simp only [TKf, List.mem_cons, List.not_mem_nil, or_false] at hq
    rcases hq with z | z | z | z <;> rw [z] <;> exact fun w => hx w.symm)
  refine ⟨fun b' e' => ?_, fun b' np' C e' => ?_⟩
  · obtain ⟨τ, t1, t2, t3⟩ := r1 b' e'
    exact ⟨τ, t1, t2, k.trans t3⟩
  · obtain ⟨τ, sz', t1, t2, t3, t4, t5, t6, t7, t8, t9, t10⟩ := r2 b' np' C e'
    exact ⟨τ, sz', t1, t2, by omega, ⟨t4.1, fun t ht => by rw [t4.2 t ht, e 24 (by decide)]⟩, fun t => by rw [t5, e 25 (by decide)], fun t => by rw [t6, e 26 (by decide)], fun t ht => by rw [t7 t ht, e 27 (by decide)], t8, t9, k.trans t10⟩
theorem tkwC {L b sz np k : Nat} {tp : Nat → Int32} {σ : AH} (h : CgS L tp b sz np σ) (h12 : k < 12) : (ixQ L tp b (wL k) 0 = none ∧ F_X5_takeWord k σ = some (-1, σ)) ∨ (∃ q, ixQ L tp b (wL k) 0 = some q ∧ q < (wL k).length ∧ ∃ τ, F_X5_takeWord k σ = some (nI q, τ) ∧ CgS L tp (nxt L tp b) sz np τ ∧ gI τ 22 2 = gI σ 22 2 ∧ Ch [] TKf σ τ) := by
  rcases F_takeWordC h.1 h.2.1 h12 with z | ⟨q, q1, q2, τ, t1, t2, t3⟩
  · exact Or.inl z
  · refine Or.inr ⟨q, q1, q2, τ, t1, ?_, t3.pI (by simp) (by simp [TKf]), t3⟩
    obtain ⟨h1, h2, h3, h4, h5, h6⟩ := h
    have := nxt_b (tp := tp) h2.2.2.2.2
    exact ⟨h1.ch t3 (by simp) (by simp [TKf]), t2, by rw [t3.pI (by simp) (by simp [TKf])]; exact h3, by rw [t3.pI (by simp) (by simp [TKf])]; exact h4, by omega, h6⟩
theorem headOfC {v k : Nat} {σ : AH} (h2 : 2 ≤ v) (h7 : v ≤ 7) : F_X5_headOf (nI v) (nI k) σ = some (nI (hdV (v + 1, k, 0, 0)), σ) := by
  unfold F_X5_headOf
  rcases (by omega : v = 2 ∨ v = 3 ∨ v = 4 ∨ v = 5 ∨ v = 6 ∨ v = 7) with z | z | z | z | z | z <;> subst z
  · rw [if_pos (show nI 2 = (2 : Int32) from rfl)]; rfl
  · rw [if_neg (show ¬ nI 3 = (2 : Int32) by decide), if_pos (show nI 3 = (3 : Int32) from rfl), show (55 : Int32) + nI k = nI (55 + k) from nI_add _ _]; rfl
  · rw [if_neg (show ¬ nI 4 = (2 : Int32) by decide), if_neg (show ¬ nI 4 = (3 : Int32) by decide), if_pos (show nI 4 = (4 : Int32) from rfl)]; rfl
  · rw [if_neg (show ¬ nI 5 = (2 : Int32) by decide), if_neg (show ¬ nI 5 = (3 : Int32) by decide), if_neg (show ¬ nI 5 = (4 : Int32) by decide), if_pos (show nI 5 = (5 : Int32) from rfl)]; rfl
  · rw [if_neg (show ¬ nI 6 = (2 : Int32) by decide), if_neg (show ¬ nI 6 = (3 : Int32) by decide), if_neg (show ¬ nI 6 = (4 : Int32) by decide), if_neg (show ¬ nI 6 = (5 : Int32) by decide), if_pos (show nI 6 = (6 : Int32) from rfl)]; rfl
  · rw [if_neg (show ¬ nI 7 = (2 : Int32) by decide), if_neg (show ¬ nI 7 = (3 : Int32) by decide), if_neg (show ¬ nI 7 = (4 : Int32) by decide), if_neg (show ¬ nI 7 = (5 : Int32) by decide), if_neg (show ¬ nI 7 = (6 : Int32) by decide)]; rfl
theorem needHeadC {k s q : Nat} {σ : AH} (hq : q < 5) : F_X11_needHead (nI k) (nI s) (nI q) σ = some (nI (hdV (1, k, s, q)), σ) := by
  unfold F_X11_needHead
  rw [if_neg (show ¬ nI q = (5 : Int32) from fun z => by have := (nI_eq (b := 5) (by omega) (by decide)).mp z; omega)]
  have e : ((0 : Int32) + (((nI k * (3 : Int32)) + nI s) * (5 : Int32))) + nI q = nI (0 + ((k * 3 + s) * 5) + q) := by
    rw [show (3 : Int32) = nI 3 from rfl, show (5 : Int32) = nI 5 from rfl, show (0 : Int32) = nI 0 from rfl, pk_mul, nI_add, pk_mul, nI_add, nI_add]
  rw [e, Nat.zero_add]; rfl
theorem workHeadC {k s : Nat} {σ : AH} : F_X11_needHead (nI k) (nI s) (5 : Int32) σ = some (nI (hdV (2, k, s, 0)), σ) := by
  unfold F_X11_needHead
  rw [if_pos rfl]
  have e : (45 : Int32) + ((nI k * (3 : Int32)) + nI s) = nI (45 + (k * 3 + s)) := by
    rw [show (3 : Int32) = nI 3 from rfl, show (45 : Int32) = nI 45 from rfl, pk_mul, nI_add, nI_add]
  rw [e]; rfl
theorem fail0 {L b sz np cn : Nat} {tp : Nat → Int32} {σ : AH} (h : CgS L tp b sz np σ) : CcR L tp (b, none) (HBC (some (0, σ))) b sz np cn σ := CcR.fail ⟨σ, HBC_0, h.2.1, Ch.rf _⟩
theorem hbMt {L b sz np cn v k s : Nat} {tp : Nat → Int32} {σ : AH} (h : CgS L tp b sz np σ) (h2 : gI σ 22 2 = nI cn) (hb : sz + 2 ≤ b) (hc : cn < 16) (hv : v ≤ 7) (hk : k < 3) (hs : s < 3) (hs0 : 2 ≤ v → s = 0) : CcR L tp (prMt L tp v k s b np) (HBC (F_X5_readHead_86 (nI v) (b2 (decide (v = 0 ∨ v = 1))) (nI k) (nI s) σ)) b sz np cn σ := by
  have nb := nxt_b (tp := tp) h.b.1
  unfold prMt F_X5_readHead_86 F_X5_readHead_110
  rw [if_neg (nI_neg1 (by omega))]
  by_cases v0 : v = 0
  · rw [if_pos (show nI v = (0 : Int32) by rw [v0]; rfl), decide_eq_true v0, opW_1]
    rcases tkwC (k := 5) h (by decide) with ⟨z1, z2⟩ | ⟨q, q1, q2, s1, a1, A1, a2, a3⟩
    · rw [z1, z2, bd_some, if_pos rfl]
      exact fail0 h
    · have wl5 : (wL 5).length = 5 := by decide
      rw [q1, a1, bd_some, if_neg (nI_neg1 (by omega)), decide_eq_true (show v = 0 ∨ v = 1 from Or.inl v0), hnT, needHeadC (by omega), bd_some, a2, h2]
      have e1 : v + 1 = 1 := by omega
      have r := hb150 (v := v) (k := k) (s := s) (mt := q) A1 (by omega) hc hv (by omega)
      rw [e1] at r
      exact r.back (by omega) a3
  · rw [if_neg (show ¬ nI v = (0 : Int32) from fun z => v0 ((nI_eq (b := 0) (by omega) (by decide)).mp z)), decide_eq_false v0, opW_0, if_neg (show ¬ (5 : Int32) = -1 by decide), h2]
    by_cases v1 : v = 1
    · rw [decide_eq_true (show v = 0 ∨ v = 1 from Or.inr v1), hnT, workHeadC, bd_some]
      have e1 : v + 1 = 2 := by omega
      have r := hb150 (v := v) (k := k) (s := s) (mt := 0) h hb hc hv (by omega)
      rw [e1] at r
      exact r
    · have s0 := hs0 (by omega)
      subst s0
      rw [decide_eq_false (show ¬ (v = 0 ∨ v = 1) by omega), hpF, headOfC (by omega) hv, bd_some]
      exact hb150 (v := v) (k := k) (s := 0) (mt := 0) h hb hc hv (by omega)
theorem hbSg {L b sz np cn v k : Nat} {tp : Nat → Int32} {σ : AH} (h : CgS L tp b sz np σ) (h2 : gI σ 22 2 = nI cn) (hb : sz + 2 ≤ b) (hc : cn < 16) (hv : v ≤ 7) (hk : k < 3) : CcR L tp (prSg L tp v k b np) (HBC (F_X5_readHead_57 (nI v) (b2 (decide (v = 0 ∨ v = 1))) (nI k) σ)) b sz np cn σ := by
  have nb := nxt_b (tp := tp) h.b.1
  unfold prSg F_X5_readHead_57
  rw [if_neg (nI_neg1 (by omega)), if_neg (nI_neg1 (by omega))]
  cases c : decide (v = 0 ∨ v = 1) with
  | false =>
    rw [hpF, opW_0]
    have r := hbMt (s := 0) h h2 hb hc hv hk (by decide) (fun _ => rfl)
    rw [c] at r
    exact r
  | true =>
    rw [hnT, opW_1]
    rcases tkwC (k := 4) h (by decide) with ⟨z1, z2⟩ | ⟨q, q1, q2, s1, a1, A1, a2, a3⟩
    · rw [z1, z2, bd_some]
      unfold F_X5_readHead_86
      rw [if_pos rfl]
      exact fail0 h
    · have wl4 : (wL 4).length = 3 := by decide
      have vv := of_decide_eq_true c
      rw [q1, a1, bd_some]
      have r := hbMt (s := q) A1 (a2.trans h2) (by omega) hc hv hk (by omega) (fun z => by omega)
      rw [c] at r
      exact r.back (by omega) a3
theorem hbKd {L b sz np cn v : Nat} {tp : Nat → Int32} {σ : AH} (h : CgS L tp b sz np σ) (h2 : gI σ 22 2 = nI cn) (hb : sz + 2 ≤ b) (hc : cn < 16) (hv : v ≤ 7) : CcR L tp (prKd L tp v b np) (HBC (F_X5_readHead_42 (nI v) (b2 (decide (v = 0 ∨ v = 1))) (b2 (decide (v = 0 ∨ v = 1 ∨ v = 3 ∨ v = 7))) σ)) b sz np cn σ := by
  have nb := nxt_b (tp := tp) h.b.1
  unfold prKd F_X5_readHead_42
  cases c : decide (v = 0 ∨ v = 1 ∨ v = 3 ∨ v = 7) with
  | false =>
    rw [hpF, opW_0]
    exact hbSg (k := 0) h h2 hb hc hv (by decide)
  | true =>
    rw [hnT, opW_1]
    rcases tkwC (k := 3) h (by decide) with ⟨z1, z2⟩ | ⟨q, q1, q2, s1, a1, A1, a2, a3⟩
    · rw [z1, z2, bd_some]
      unfold F_X5_readHead_57
      rw [if_neg (nI_neg1 (by omega)), if_pos rfl]
      exact fail0 h
    · have wl4 : (wL 3).length = 3 := by decide
      rw [q1, a1, bd_some]
      exact (hbSg (k := q) A1 (a2.trans h2) (by omega) hc hv (by omega)).back (by omega) a3
/-- any CLAUSE but a strike -/
theorem hbHd {L b sz np cn : Nat} {tp : Nat → Int32} {σ : AH} (h : CgS L tp b sz np σ) (h2 : gI σ 22 2 = nI cn) (hc : cn < 16) : CcR L tp (match ixQ L tp b (wL 2) 0 with
  | none => (b, none)
  | some v => prKd L tp v (nxt L tp b) np) (HBC (F_X5_readHead σ)) b sz np cn σ := by
  have nb := nxt_b (tp := tp) h.b.1
  have szb := h.2.2.2.2.1
  unfold F_X5_readHead
  rcases tkwC (k := 2) h (by decide) with ⟨z1, z2⟩ | ⟨v, q1, q2, s1, a1, A1, a2, a3⟩
  · rw [z1, z2, bd_some, if_neg (show ¬ (-1 : Int32) = 0 by decide), if_neg (show ¬ (-1 : Int32) = 1 by decide)]
    unfold F_X5_readHead_21 F_X5_readHead_42 F_X5_readHead_57
    rw [if_pos rfl, if_neg (show ¬ (-1 : Int32) = 3 by decide), if_neg (show ¬ (-1 : Int32) = 7 by decide), if_pos rfl, if_pos rfl]
    exact fail0 h
  · have wl2 : (wL 2).length = 8 := by decide
    have wq := ixQ_w _ _ _ q1
    rw [Nat.sub_zero] at wq
    have n4 := isW_nxt wq h.b.1
    have len : ∀ r : Fin 8, 4 ≤ ((wL 2).getD r.val []).length := by decide +kernel
    have l4 : 4 ≤ ((wL 2).getD v []).length := len ⟨v, by omega⟩
    have ne : ∀ x : Nat, x < 100 → v ≠ x → ¬ nI v = nI x := fun x hx hn z => hn ((nI_eq (by omega) (by omega)).mp z)
    have FB : HBC (F_X5_readHead_42 (nI v) (b2 (decide (v = 0 ∨ v = 1))) (b2 (decide (v = 0 ∨ v = 1 ∨ v = 3 ∨ v = 7))) s1) = HBC (if nI v = 0 then (F_X5_readHead_16 (nI v) s1) else (if nI v = (1 : Int32) then (F_X5_readHead_16 (nI v) s1) else (F_X5_readHead_21 (nI v) (0 : Int32) s1))) := by
      unfold F_X5_readHead_16 F_X5_readHead_21 F_X5_readHead_37
      by_cases w0 : v = 0
      · rw [if_pos (show nI v = (0 : Int32) by rw [w0]; rfl), if_neg (show ¬ (1 : Int32) = 0 by decide), decide_eq_true (show v = 0 ∨ v = 1 from Or.inl w0), decide_eq_true (show v = 0 ∨ v = 1 ∨ v = 3 ∨ v = 7 from Or.inl w0)]; rfl
      rw [if_neg (show ¬ nI v = (0 : Int32) from ne 0 (by decide) w0)]
      by_cases w1 : v = 1
      · rw [if_pos (show nI v = (1 : Int32) by rw [w1]; rfl), if_neg (show ¬ (1 : Int32) = 0 by decide), decide_eq_true (show v = 0 ∨ v = 1 from Or.inr w1), decide_eq_true (show v = 0 ∨ v = 1 ∨ v = 3 ∨ v = 7 from Or.inr (Or.inl w1))]; rfl
      rw [if_neg (show ¬ nI v = (1 : Int32) from ne 1 (by decide) w1), if_pos rfl, decide_eq_false (show ¬ (v = 0 ∨ v = 1) by omega)]
      by_cases w3 : v = 3
      · rw [if_pos (show nI v = (3 : Int32) by rw [w3]; rfl), decide_eq_true (show v = 0 ∨ v = 1 ∨ v = 3 ∨ v = 7 from Or.inr (Or.inr (Or.inl w3)))]; rfl
      rw [if_neg (show ¬ nI v = (3 : Int32) from ne 3 (by decide) w3)]
      by_cases w7 : v = 7
      · rw [if_pos (show nI v = (7 : Int32) by rw [w7]; rfl), decide_eq_true (show v = 0 ∨ v = 1 ∨ v = 3 ∨ v = 7 from Or.inr (Or.inr (Or.inr w7)))]; rfl
      rw [if_neg (show ¬ nI v = (7 : Int32) from ne 7 (by decide) w7), decide_eq_false (show ¬ (v = 0 ∨ v = 1 ∨ v = 3 ∨ v = 7) by omega)]; rfl
    rw [q1, a1, bd_some, ← FB]
    exact (hbKd A1 (a2.trans h2) (by omega) hc (by omega)).back (by omega) a3
/-! a strike -/
def CcQ (L : Nat) (tp : Nat → Int32) (r : Nat × Option (Nat × Cls)) (x : Option (Int32 × AH)) (b sz np cn : Nat) (σ : AH) : Prop :=
  (∀ b', r = (b', none) → ∃ τ, x = some (0, τ) ∧ TkC L tp b' τ ∧ Ch CCc RDf σ τ) ∧
  (∀ b' np' C, r = (b', some (np', C)) → ∃ τ sz', x = some (1, τ) ∧ CgS L tp b' sz' np' τ ∧ (b ≤ b' ∧ sz ≤ sz' ∧ np ≤ np') ∧ (gI τ 24 cn = nI (hdV C.1) ∧ ∀ t, t ≠ cn → gI τ 24 t = gI σ 24 t) ∧ (gI τ 25 cn = nI (if C.1.1 = 0 then 16 * C.1.2.1 + C.1.2.2.1 else 0) ∧ ∀ t, t ≠ cn → gI τ 25 t = gI σ 25 t) ∧ (gI τ 26 cn = nI sz ∧ ∀ t, t ≠ cn → gI τ 26 t = gI σ 26 t) ∧ (∀ t, t < sz → gI τ 27 t = gI σ 27 t) ∧ (C.1.1 ≠ 0 → CcD (gI τ 27) sz sz' (valC C)) ∧ (∀ D, C.2.2 = some D → is01 D) ∧ Ch CCc RDf σ τ)
theorem F_strikeC {L b sz np cn : Nat} {tp : Nat → Int32} {σ : AH} (h : CgS L tp b sz np σ) (h2 : gI σ 22 2 = nI cn) (hc : cn < 16) :
    (∀ b', prSk L tp b np = (b', none) → ∃ τ, F_X5_readStrike σ = some (0, τ) ∧ TkC L tp b' τ ∧ Ch CCc RDf σ τ) ∧
    (∀ b' np' C, prSk L tp b np = (b', some (np', C)) → ∃ τ, F_X5_readStrike σ = some (1, τ) ∧ CgS L tp b' sz np' τ ∧ C.1.1 = 0 ∧ C.2.2 = none ∧ (b ≤ b' ∧ np ≤ np') ∧ (gI τ 24 cn = nI (hdV C.1) ∧ ∀ t, t ≠ cn → gI τ 24 t = gI σ 24 t) ∧ (gI τ 25 cn = nI (16 * C.1.2.1 + C.1.2.2.1) ∧ ∀ t, t ≠ cn → gI τ 25 t = gI σ 25 t) ∧ gI τ 26 = gI σ 26 ∧ gI τ 27 = gI σ 27 ∧ Ch CCc RDf σ τ) := by
  have bL := h.b
  have nb1 := nxt_b (tp := tp) bL.1
  have nb2 := nxt_b (tp := tp) nb1.2.1
  have nb3 := nxt_b (tp := tp) nb2.2.1
  have tkb : ∀ b, tkN L tp b < 2 ^ 30 := fun b => by
    unfold tkN
    by_cases z : tkT L tp b = 2
    · rw [if_pos z]; have := cnm_le (tp := tp) (L - b) b 0 (by decide); omega
    · rw [if_neg z]; decide
  have cond : ∀ (ρ : AH) (b n : Nat), n < 1000 → TkC L tp b ρ → ∀ {α : Type} (x y : α), (if gI ρ 22 11 = (2 : Int32) then (if gI ρ 22 12 < nI (n + 1) then x else y) else y) = if tkT L tp b = 2 ∧ tkN L tp b ≤ n then x else y := fun ρ b n hn hk α x y => by
    rw [hk.2.2.1, hk.2.2.2.1]
    by_cases c : tkT L tp b = 2
    · rw [if_pos (show nI (tkT L tp b) = (2 : Int32) by rw [c]; rfl)]
      by_cases q : tkN L tp b ≤ n
      · rw [if_pos (nI_lt (by omega) (by omega)), if_pos ⟨c, q⟩]
      · rw [if_neg (nI_nlt (by omega) (by have := tkb b; omega)), if_neg (fun z => q z.2)]
    · rw [if_neg (show ¬ nI (tkT L tp b) = (2 : Int32) from fun z => c ((tkT_i (n := 2) (by decide)).mp z)), if_neg (fun z => c z.1)]
  unfold F_X5_readStrike prSk
  have c23 := cond σ b 23 (by decide) h.2.1 (α := Option (Int32 × AH))
  rw [show nI (23 + 1) = (24 : Int32) from rfl] at c23
  rw [c23]
  by_cases c1 : tkT L tp b = 2 ∧ tkN L tp b ≤ 23
  · rw [if_pos c1, if_pos c1]
    obtain ⟨s1, a1, A1, a3, a4⟩ := h.step
    have wc : F_X5_isWord 1 s1 = some (b2 (isW L tp (nxt L tp b) wCls), s1) := F_isWordC (k := 1) (w := wCls) A1.1 A1.2.1 (by decide) rfl
    rw [a1, bv_some, wc, bd_some]
    cases cw : isW L tp (nxt L tp b) wCls with
    | false =>
      rw [hpF, if_neg (by decide)]
      refine ⟨fun b' e' => ?_, fun b' np' C e' => (by cases e')⟩
      cases e'
      exact ⟨s1, rfl, A1.2.1, RD_CC (TKf_RDf a4)⟩
    | true =>
      obtain ⟨s2, d1, D1, d3, d4⟩ := A1.step
      rw [hnT, if_pos rfl, d1, bv_some]
      have c15 := cond s2 (nxt L tp (nxt L tp b)) 15 (by decide) D1.2.1 (α := Option (Int32 × AH))
      rw [show nI (15 + 1) = (16 : Int32) from rfl] at c15
      rw [c15]
      by_cases c2 : tkT L tp (nxt L tp (nxt L tp b)) = 2 ∧ tkN L tp (nxt L tp (nxt L tp b)) ≤ 15
      · rw [if_pos c2, if_pos c2]
        have e2 : gI s2 22 2 = nI cn := by rw [d4.pI (by simp) (by simp [TKf]), a4.pI (by simp) (by simp [TKf])]; exact h2
        have e2' : gI (sI s2 24 cn 62) 22 2 = nI cn := by rw [gI_sI_row (by decide)]; exact e2
        have e12 : gI (sI s2 24 cn 62) 22 12 = nI (tkN L tp (nxt L tp (nxt L tp b))) := by rw [gI_sI_row (by decide)]; exact D1.2.1.2.2.2.1
        have ev : gI σ 22 12 * (16 : Int32) + nI (tkN L tp (nxt L tp (nxt L tp b))) = nI (16 * tkN L tp b + tkN L tp (nxt L tp (nxt L tp b))) := by
          rw [h.2.1.2.2.2.1, show (16 : Int32) = nI 16 from rfl, pk_mul, nI_add, Nat.mul_comm]
        obtain ⟨s3, hs3⟩ : ∃ s3, s3 = sI (sI s2 24 cn 62) 25 cn (nI (16 * tkN L tp b + tkN L tp (nxt L tp (nxt L tp b)))) := ⟨_, rfl⟩
        have k3 : Ch [24, 25] [] s2 s3 := by rw [hs3]; exact (Ch.sI1 (Or.inr (by simp))).trans (Ch.sI1 (Or.inr (by simp)))
        have D3 := D1.ch (k3.mono (by simp) (by simp))
        obtain ⟨s4, f1, G1, f3, f4⟩ := D3.step
        rw [e2, if_pos (inB_n (by omega) (by decide)), nI_clamp (by omega), e2', if_pos (inB_n (by omega) (by decide)), e12, nI_clamp (by omega), ev, lt_e, ← hs3, f1, bv_some]
        refine ⟨fun b' e' => (by cases e'), fun b' np' C e' => ?_⟩
        cases e'
        have g24 : ∀ t, gI s2 24 t = gI σ 24 t := fun t => by rw [d4.rI (by simp) (by simp [TKf]), a4.rI (by simp) (by simp [TKf])]
        have g25 : ∀ t, gI s2 25 t = gI σ 25 t := fun t => by rw [d4.rI (by simp) (by simp [TKf]), a4.rI (by simp) (by simp [TKf])]
        have g26 : gI s2 26 = gI σ 26 := by rw [d4.rI (by simp) (by simp [TKf]), a4.rI (by simp) (by simp [TKf])]
        refine ⟨s4, rfl, G1, rfl, rfl, ⟨by omega, Nat.le_refl _⟩, ⟨?_, fun t ht => ?_⟩, ⟨?_, fun t ht => ?_⟩, ?_, ?_, ?_⟩
        · rw [f4.rI (by simp) (by simp [TKf]), hs3, gI_sI_row (by decide), gI_sI_at]; rfl
        · rw [f4.rI (by simp) (by simp [TKf]), hs3, gI_sI_row (by decide), gI_sI_ne ht]; exact g24 t
        · rw [f4.rI (by simp) (by simp [TKf]), hs3, gI_sI_at]
        · rw [f4.rI (by simp) (by simp [TKf]), hs3, gI_sI_ne ht, gI_sI_row (by decide)]; exact g25 t
        · rw [f4.rI (by simp) (by simp [TKf]), k3.rI (by simp) (by simp)]; exact g26
        · rw [f3, k3.rI (by simp) (by simp), d3, a3]
        · exact (((RD_CC (TKf_RDf a4)).trans (RD_CC (TKf_RDf d4))).trans (k3.mono (by simp [CCc]) (by simp))).trans (RD_CC (TKf_RDf f4))
      · rw [if_neg c2, if_neg c2]
        refine ⟨fun b' e' => ?_, fun b' np' C e' => (by cases e')⟩
        cases e'
        exact ⟨s2, rfl, D1.2.1, (RD_CC (TKf_RDf a4)).trans (RD_CC (TKf_RDf d4))⟩
  · rw [if_neg c1, if_neg c1]
    refine ⟨fun b' e' => ?_, fun b' np' C e' => (by cases e')⟩
    cases e'
    exact ⟨σ, rfl, h.2.1, Ch.rf _⟩
/-- a CLAUSE -/
theorem prKd_m {L v b np b' np' : Nat} {tp : Nat → Int32} {C : Cls} (e : prKd L tp v b np = (b', some (np', C))) : C.1.1 = v + 1 := by
  unfold prKd at e
  rcases hr : opW L tp (decide (v = 0 ∨ v = 1 ∨ v = 3 ∨ v = 7)) 3 b with ⟨b2, _ | m⟩
  · rw [hr] at e; cases e
  · rw [hr] at e
    exact (prSg_m e).1
theorem F_clauseC {L b sz np cn : Nat} {tp : Nat → Int32} {σ : AH} (h : CgS L tp b sz np σ) (h2 : gI σ 22 2 = nI cn) (hc : cn < 16) : CcQ L tp (prCl L tp b np) (F_X5_readClause σ) b sz np cn σ := by
  have nb := nxt_b (tp := tp) h.b.1
  obtain ⟨s1, hs1⟩ : ∃ s1, s1 = sI (sI σ 26 cn (nI sz)) 25 cn 0 := ⟨_, rfl⟩
  have k1 : Ch [25, 26] [] σ s1 := by rw [hs1]; exact (Ch.sI1 (Or.inr (by simp))).trans (Ch.sI1 (Or.inr (by simp)))
  have h1 := h.ch (k1.mono (by simp) (by simp))
  have kc : Ch CCc RDf σ s1 := k1.mono (by simp [CCc]) (by simp)
  have c2 : gI s1 22 2 = nI cn := by rw [k1.pI (by simp) (by simp)]; exact h2
  have e2' : gI (sI σ 26 cn (nI sz)) 22 2 = nI cn := by rw [gI_sI_row (by decide)]; exact h2
  have q25 : gI s1 25 cn = 0 ∧ ∀ t, t ≠ cn → gI s1 25 t = gI σ 25 t := ⟨by rw [hs1, gI_sI_at], fun t ht => by rw [hs1, gI_sI_ne ht, gI_sI_row (by decide)]⟩
  have q26 : gI s1 26 cn = nI sz ∧ ∀ t, t ≠ cn → gI s1 26 t = gI σ 26 t := ⟨by rw [hs1, gI_sI_row (by decide), gI_sI_at], fun t ht => by rw [hs1, gI_sI_row (by decide), gI_sI_ne ht]⟩
  have q24 : gI s1 24 = gI σ 24 := k1.rI (by simp) (by simp)
  have q27 : gI s1 27 = gI σ 27 := k1.rI (by simp) (by simp)
  have ws : F_X5_isWord 0 s1 = some (b2 (isW L tp b wStr), s1) := F_isWordC (k := 0) (w := wStr) h1.1 h1.2.1 (by decide) rfl
  unfold F_X5_readClause prCl
  rw [h2, if_pos (inB_n (by omega) (by decide)), h.2.2.1, nI_clamp (by omega), e2', if_pos (inB_n (by omega) (by decide)), nI_clamp (by omega), ← hs1, ws, bd_some]
  cases cs : isW L tp b wStr with
  | true =>
    obtain ⟨s2, a1, A1, a3, a4⟩ := h1.step
    rw [hnT, if_pos rfl, a1, bv_some]
    obtain ⟨r1, r2⟩ := F_strikeC A1 (by rw [a4.pI (by simp) (by simp [TKf])]; exact c2) hc
    refine ⟨fun b' e' => ?_, fun b' np' C e' => ?_⟩
    · obtain ⟨τ, t1, t2, t3⟩ := r1 b' e'
      rw [t1, bd_some, if_pos (Or.inl rfl)]
      exact ⟨τ, rfl, t2, (kc.trans (RD_CC (TKf_RDf a4))).trans t3⟩
    · obtain ⟨τ, t1, t2, t3, t4, t5, t6, t7, t8, t9, t10⟩ := r2 b' np' C e'
      rw [t1, bd_some, if_pos (Or.inr rfl)]
      refine ⟨τ, sz, rfl, t2, by omega, ⟨t6.1, fun t ht => by rw [t6.2 t ht, a4.rI (by simp) (by simp [TKf]), q24]⟩, ⟨by rw [if_pos t3]; exact t7.1, fun t ht => by rw [t7.2 t ht, a4.rI (by simp) (by simp [TKf])]; exact q25.2 t ht⟩, ⟨by rw [t8, a4.rI (by simp) (by simp [TKf])]; exact q26.1, fun t ht => by rw [t8, a4.rI (by simp) (by simp [TKf])]; exact q26.2 t ht⟩, fun t ht => by rw [t9, a3, q27], fun z => absurd t3 z, (fun D z => by rw [t4] at z; cases z), (kc.trans (RD_CC (TKf_RDf a4))).trans t10⟩
  | false =>
    rw [hpF, if_neg (by decide)]
    obtain ⟨r1, r2⟩ := hbHd h1 c2 hc
    have FB : (bd (F_X5_readHead s1) fun v14 σ10 => (if v14 = 0 then (some ((0 : Int32), σ10)) else (bd (F_X5_isWord 8 σ10) fun v20 σ16 => (if v20 = 0 then (F_X5_readClause_80 σ16) else (bv (F_X5_step σ16) fun σ22 => (bd (G_X5_readTest (0 : Int32) σ22) fun v31 σ27 => (if v31 = 0 then (some ((0 : Int32), σ27)) else (bv (F_X5_emit (14 : Int32) (0 : Int32) σ27) fun σ33 => (F_X5_readClause_80 σ33))))))))) = HBC (F_X5_readHead s1) := rfl
    rw [FB]
    refine ⟨fun b' e' => ?_, fun b' np' C e' => ?_⟩
    · obtain ⟨τ, t1, t2, t3⟩ := r1 b' e'
      exact ⟨τ, t1, t2, kc.trans t3⟩
    · obtain ⟨τ, sz', t1, t2, t3, t4, t5, t6, t7, t8, t9, t10⟩ := r2 b' np' C e'
      have n0 : C.1.1 ≠ 0 := by
        cases ix : ixQ L tp b (wL 2) 0 with
        | none => rw [ix] at e'; cases e'
        | some v => rw [ix] at e'; rw [prKd_m e']; omega
      exact ⟨τ, sz', t1, t2, t3, ⟨t4.1, fun t ht => by rw [t4.2 t ht, q24]⟩, ⟨by rw [t5, if_neg n0]; exact q25.1, fun t ht => by rw [t5]; exact q25.2 t ht⟩, ⟨by rw [t6]; exact q26.1, fun t ht => by rw [t6]; exact q26.2 t ht⟩, fun t ht => by rw [t7 t ht, q27], fun _ => t8, t9, kc.trans t10⟩
end
