section
/-! the reference reads: pile and code -/
def bnd (o : Nat) : Nat := if 30 ≤ o then 0 else if o = 19 then 1 else if o = 18 then 2 else if o = 17 then 3 else if 12 ≤ o then 4 else if 10 ≤ o then 6 else 5
theorem F_bindsR {o : Nat} {σ : AH} (ho : o < 40) : F_X12_binds (nI o) σ = some (nI (bnd o), σ) := by
  have : ∀ j : Fin 40, F_X12_binds (nI j.val) σ = some (nI (bnd j.val), σ) := by
    intro j
    unfold F_X12_binds bnd
    by_cases c : 30 ≤ j.val
    · rw [if_neg (show ¬ nI j.val < (30 : Int32) from fun z => by rw [Int32.lt_iff_toInt_lt, nI_toInt (by omega)] at z; have : (30 : Int32).toInt = 30 := (by decide); omega), if_pos c]; rfl
    · have lt : nI j.val < (30 : Int32) := nI_lt (b := 30) (by omega) (by decide)
      rw [if_pos lt, if_neg c]
      by_cases c19 : j.val = 19
      · rw [if_pos (by rw [c19]; rfl), if_pos c19]; rfl
      rw [if_neg (show ¬ nI j.val = (19 : Int32) from fun z => c19 ((nI_eq (b := 19) (by omega) (by decide)).mp z)), if_neg c19]
      by_cases c18 : j.val = 18
      · rw [if_pos (by rw [c18]; rfl), if_pos c18]; rfl
      rw [if_neg (show ¬ nI j.val = (18 : Int32) from fun z => c18 ((nI_eq (b := 18) (by omega) (by decide)).mp z)), if_neg c18]
      by_cases c17 : j.val = 17
      · rw [if_pos (by rw [c17]; rfl), if_pos c17]; rfl
      rw [if_neg (show ¬ nI j.val = (17 : Int32) from fun z => c17 ((nI_eq (b := 17) (by omega) (by decide)).mp z)), if_neg c17]
      by_cases c12 : 12 ≤ j.val
      · rw [if_neg (show ¬ nI j.val < (12 : Int32) from fun z => by rw [Int32.lt_iff_toInt_lt, nI_toInt (by omega)] at z; have : (12 : Int32).toInt = 12 := (by decide); omega), if_pos c12]; rfl
      rw [if_pos (show nI j.val < (12 : Int32) from nI_lt (b := 12) (by omega) (by decide)), if_neg c12]
      by_cases c10 : 10 ≤ j.val
      · rw [if_neg (show ¬ nI j.val < (10 : Int32) from fun z => by rw [Int32.lt_iff_toInt_lt, nI_toInt (by omega)] at z; have : (10 : Int32).toInt = 10 := (by decide); omega), if_pos c10]; rfl
      rw [if_pos (show nI j.val < (10 : Int32) from nI_lt (b := 10) (by omega) (by decide)), if_neg c10]; rfl
  exact this ⟨o, ho⟩
def PlR (P : List (Nat × Nat)) (σ : AH) : Prop := gI σ 124 21 = nI P.length ∧ ∀ i, i < P.length → gI σ 132 i = nI (P.getD (P.length - 1 - i) (0, 0)).1 ∧ gI σ 133 i = nI (P.getD (P.length - 1 - i) (0, 0)).2
def PV (P : List (Nat × Nat)) : Prop := ∀ q, q ∈ P → q.1 < 40 ∧ q.2 < 400
theorem PlR.tail {q : Nat × Nat} {P : List (Nat × Nat)} {σ : AH} (h : PlR (q :: P) σ) : PlR P (sI σ 124 21 (nI P.length)) := by
  refine ⟨gI_sI_at, fun i hi => ?_⟩
  rw [gI_sI_row (by decide), gI_sI_row (by decide)]
  have := h.2 i (by rw [List.length_cons]; omega)
  have e : (q :: P).length - 1 - i = (P.length - 1 - i) + 1 := by rw [List.length_cons]; omega
  rw [e, List.getD_cons_succ] at this
  exact this
theorem PlR.top {q : Nat × Nat} {P : List (Nat × Nat)} {σ : AH} (h : PlR (q :: P) σ) : gI σ 132 P.length = nI q.1 ∧ gI σ 133 P.length = nI q.2 := by
  have := h.2 P.length (by rw [List.length_cons]; omega)
  have e : (q :: P).length - 1 - P.length = 0 := by rw [List.length_cons]; omega
  rw [e, List.getD_cons_zero] at this
  exact this
theorem PlR.ch {P : List (Nat × Nat)} {σ τ : AH} {cs : List Nat} {fs : List (Nat × Nat)} (h : PlR P σ) (c : Ch cs fs σ τ) (h1 : 124 ∉ cs ∧ 132 ∉ cs ∧ 133 ∉ cs) (h2 : ∀ q ∈ fs, q ≠ (124, 21) ∧ q.1 ≠ 132 ∧ q.1 ≠ 133) : PlR P τ :=
  ⟨by rw [c.pI h1.1 (fun z => (h2 _ z).1 rfl)]; exact h.1, fun i hi => by rw [c.rI h1.2.1 (fun q hq => (h2 q hq).2.1), c.rI h1.2.2 (fun q hq => (h2 q hq).2.2)]; exact h.2 i hi⟩
theorem F_pushR {P : List (Nat × Nat)} {o a : Nat} {σ : AH} (h : PlR P σ) (hl : P.length < 400) : ∃ τ, F_X12_push (nI o) (nI a) σ = some τ ∧ PlR ((o, a) :: P) τ ∧ Ch [132, 133] [(124, 21)] σ τ := by
  unfold F_X12_push
  rw [h.1, if_pos (inB_n hl (by decide)), gI_sI_row (o := 132) (a := 124) (by decide), h.1, if_pos (inB_n hl (by decide)), lt_e, nI_clamp (by omega), gI_sI_row (o := 133) (a := 124) (by decide), gI_sI_row (o := 132) (a := 124) (by decide), h.1, nI_1]
  refine ⟨_, rfl, ⟨by rw [gI_sI_at, List.length_cons], fun i hi => ?_⟩, ((Ch.sI1 (Or.inr (by simp))).trans (Ch.sI1 (Or.inr (by simp)))).trans (Ch.sI1 (Or.inl (by simp)))⟩
  rw [List.length_cons] at hi
  rw [gI_sI_row (o := 124) (a := 132) (by decide), gI_sI_row (o := 124) (a := 133) (by decide), gI_sI_row (o := 133) (a := 132) (by decide), gI_sI_own, gI_sI_own, gI_sI_row (o := 132) (a := 133) (by decide)]
  by_cases e : i = P.length
  · rw [e, up_same, up_same, show ((o, a) :: P).length - 1 - P.length = 0 by rw [List.length_cons]; omega, List.getD_cons_zero]
    exact ⟨rfl, rfl⟩
  · rw [up_ne _ _ _ e, up_ne _ _ _ e, show ((o, a) :: P).length - 1 - i = (P.length - 1 - i) + 1 by rw [List.length_cons]; omega, List.getD_cons_succ]
    exact h.2 i (by omega)
theorem F_emitR {x y : Int32} {m : Nat} {σ : AH} (h15 : gI σ 124 15 = nI m) (hm : m < 400) : ∃ τ, F_X12_emit x y σ = some τ ∧ gI τ 124 15 = nI (m + 1) ∧ gI τ 130 = va_up (gI σ 130) m x ∧ gI τ 131 = va_up (gI σ 131) m y ∧ Ch [130, 131] [(124, 15)] σ τ := by
  unfold F_X12_emit
  rw [h15, if_pos (inB_n hm (by decide)), gI_sI_row (o := 130) (a := 124) (by decide), h15, if_pos (inB_n hm (by decide)), lt_e, nI_clamp (by omega), gI_sI_row (o := 131) (a := 124) (by decide), gI_sI_row (o := 130) (a := 124) (by decide), h15, nI_1]
  refine ⟨_, rfl, gI_sI_at, ?_, ?_, ((Ch.sI1 (Or.inr (by simp))).trans (Ch.sI1 (Or.inr (by simp)))).trans (Ch.sI1 (Or.inl (by simp)))⟩
  · rw [gI_sI_row (by decide), gI_sI_row (by decide), gI_sI_own]
  · rw [gI_sI_row (by decide), gI_sI_own, gI_sI_row (by decide)]
/-- what settling the pile's upper part makes of the code -/
def setQ : List (Nat × Nat) → (Nat → Int32) × (Nat → Int32) × Nat → (Nat → Int32) × (Nat → Int32) × Nat := fun Q => match Q with
  | [] => fun r => r
  | q :: Q => fun r => if q.1 = 18 ∨ q.1 = 19 then setQ Q (r.1, va_up r.2.1 q.2 (nI r.2.2), r.2.2) else setQ Q (va_up r.1 r.2.2 (nI q.1), va_up r.2.1 r.2.2 0, r.2.2 + 1)
theorem setQ_c {q : Nat × Nat} {Q : List (Nat × Nat)} {r : (Nat → Int32) × (Nat → Int32) × Nat} : setQ (q :: Q) r = if q.1 = 18 ∨ q.1 = 19 then setQ Q (r.1, va_up r.2.1 q.2 (nI r.2.2), r.2.2) else setQ Q (va_up r.1 r.2.2 (nI q.1), va_up r.2.1 r.2.2 0, r.2.2 + 1) := rfl
theorem setQ_n {r : (Nat → Int32) × (Nat → Int32) × Nat} : setQ [] r = r := rfl
theorem setQ_app : ∀ (Q Q' : List (Nat × Nat)) r, setQ (Q ++ Q') r = setQ Q' (setQ Q r) := by
  intro Q
  induction Q with
  | nil => intro Q' r; rfl
  | cons q Q ih =>
    intro Q' r
    rw [List.cons_append, setQ_c, setQ_c]
    by_cases c : q.1 = 18 ∨ q.1 = 19
    · rw [if_pos c, if_pos c, ih]
    · rw [if_neg c, if_neg c, ih]
theorem setQ_m : ∀ (Q : List (Nat × Nat)) r, r.2.2 ≤ (setQ Q r).2.2 ∧ (setQ Q r).2.2 ≤ r.2.2 + Q.length := by
  intro Q
  induction Q with
  | nil => intro r; rw [setQ_n]; exact ⟨Nat.le_refl _, Nat.le_refl _⟩
  | cons q Q ih =>
    intro r
    rw [setQ_c, List.length_cons]
    by_cases c : q.1 = 18 ∨ q.1 = 19
    · rw [if_pos c]
      have h1 := ih (r.1, va_up r.2.1 q.2 (nI r.2.2), r.2.2)
      have a1 : r.2.2 ≤ (setQ Q (r.1, va_up r.2.1 q.2 (nI r.2.2), r.2.2)).2.2 := h1.1
      have a2 : (setQ Q (r.1, va_up r.2.1 q.2 (nI r.2.2), r.2.2)).2.2 ≤ r.2.2 + Q.length := h1.2
      omega
    · rw [if_neg c]
      have h1 := ih (va_up r.1 r.2.2 (nI q.1), va_up r.2.1 r.2.2 0, r.2.2 + 1)
      have a1 : r.2.2 + 1 ≤ (setQ Q (va_up r.1 r.2.2 (nI q.1), va_up r.2.1 r.2.2 0, r.2.2 + 1)).2.2 := h1.1
      have a2 : (setQ Q (va_up r.1 r.2.2 (nI q.1), va_up r.2.1 r.2.2 0, r.2.2 + 1)).2.2 ≤ r.2.2 + 1 + Q.length := h1.2
      omega
/-- nothing below i is touched -/
theorem setQ_lo {i : Nat} : ∀ (Q : List (Nat × Nat)) r, i ≤ r.2.2 → (∀ q, q ∈ Q → i ≤ q.2 ∨ ¬ (q.1 = 18 ∨ q.1 = 19)) → ∀ t, t < i → (setQ Q r).1 t = r.1 t ∧ (setQ Q r).2.1 t = r.2.1 t := by
  intro Q
  induction Q with
  | nil => intro r _ _ t _; exact ⟨rfl, rfl⟩
  | cons q Q ih =>
    intro r hr hQ t ht
    rw [setQ_c]
    by_cases c : q.1 = 18 ∨ q.1 = 19
    · rw [if_pos c]
      have h1 := ih (r.1, va_up r.2.1 q.2 (nI r.2.2), r.2.2) hr (fun x hx => hQ x (List.mem_cons_of_mem _ hx)) t ht
      have q2 : i ≤ q.2 := by
        rcases hQ q (List.mem_cons_self ..) with z | z
        · exact z
        · exact absurd c z
      refine ⟨h1.1, h1.2.trans ?_⟩
      show va_up r.2.1 q.2 (nI r.2.2) t = _
      rw [up_ne _ _ _ (by omega)]
    · rw [if_neg c]
      have h1 := ih (va_up r.1 r.2.2 (nI q.1), va_up r.2.1 r.2.2 0, r.2.2 + 1) (by show i ≤ r.2.2 + 1; omega) (fun x hx => hQ x (List.mem_cons_of_mem _ hx)) t ht
      refine ⟨h1.1.trans ?_, h1.2.trans ?_⟩
      · show va_up r.1 r.2.2 (nI q.1) t = _
        rw [up_ne _ _ _ (by omega)]
      · show va_up r.2.1 r.2.2 0 t = _
        rw [up_ne _ _ _ (by omega)]
def QB (lv : Nat) (Q : List (Nat × Nat)) : Prop := ∀ q, q ∈ Q → lv ≤ bnd q.1
def TopLt (lv : Nat) (P : List (Nat × Nat)) : Prop := ∀ q, P.head? = some q → bnd q.1 < lv
theorem setl_loop {lv g : Nat} {P : List (Nat × Nat)} (hP : TopLt lv P) (hV : PV P) (hlv : lv ≤ 6) : ∀ (Q : List (Nat × Nat)) (m : Nat) (σ : AH), QB lv Q → PV Q → PlR (Q ++ P) σ → gI σ 124 15 = nI m → m + (Q ++ P).length ≤ 400 → ∃ τ, F_X12_settle_0 (Q.length + 1 + g) (nI lv) σ = some τ ∧ PlR P τ ∧ gI τ 124 15 = nI (setQ Q (gI σ 130, gI σ 131, m)).2.2 ∧ gI τ 130 = (setQ Q (gI σ 130, gI σ 131, m)).1 ∧ gI τ 131 = (setQ Q (gI σ 130, gI σ 131, m)).2.1 ∧ Ch [130, 131] [(124, 15), (124, 21)] σ τ := by
  intro Q
  induction Q with
  | nil =>
    intro m σ _ _ hl h15 hm
    rw [List.length_nil, show 0 + 1 + g = g + 1 by omega]
    refine ⟨σ, ?_, hl, h15, rfl, rfl, Ch.rf _⟩
    show B_X12_settle_0 (F_X12_settle_0 g) (nI lv) σ = _
    unfold B_X12_settle_0
    rw [List.nil_append] at hl hm
    cases P with
    | nil => rw [hl.1, if_pos (show nI ([] : List (Nat × Nat)).length ≤ (0 : Int32) by decide)]
    | cons q P =>
      have t := hl.top
      have lt := hP q rfl
      have qv := hV q (List.mem_cons_self ..)
      rw [List.length_cons] at hm
      rw [hl.1, List.length_cons, if_neg (show ¬ nI (P.length + 1) ≤ (0 : Int32) from nI_ge (a := 0) (by omega) (by omega)), show nI (P.length + 1) - (1 : Int32) = nI P.length from nI_back, if_pos (inB_n (by omega) (by decide)), nI_clamp (by omega), t.1, F_bindsR qv.1, bd_some, if_pos (nI_lt lt (by omega))]
  | cons q Q ih =>
    intro m σ hQ hQV hl h15 hm
    have qv := hQV q (List.mem_cons_self ..)
    have qb := hQ q (List.mem_cons_self ..)
    rw [List.cons_append] at hl hm
    have t := hl.top
    have b6 : bnd q.1 ≤ 6 := by
      unfold bnd
      by_cases c1 : 30 ≤ q.1
      · rw [if_pos c1]; omega
      rw [if_neg c1]
      by_cases c2 : q.1 = 19
      · rw [if_pos c2]; omega
      rw [if_neg c2]
      by_cases c3 : q.1 = 18
      · rw [if_pos c3]; omega
      rw [if_neg c3]
      by_cases c4 : q.1 = 17
      · rw [if_pos c4]; omega
      rw [if_neg c4]
      by_cases c5 : 12 ≤ q.1
      · rw [if_pos c5]; omega
      rw [if_neg c5]
      by_cases c6 : 10 ≤ q.1
      · rw [if_pos c6]; omega
      · rw [if_neg c6]; omega
    rw [List.length_cons] at hm
    rw [List.length_cons, show Q.length + 1 + 1 + g = (Q.length + 1 + g) + 1 by omega]
    show ∃ τ, B_X12_settle_0 (F_X12_settle_0 (Q.length + 1 + g)) (nI lv) σ = some τ ∧ _
    unfold B_X12_settle_0
    have tl := hl.tail
    have k1 : Ch [130, 131] [(124, 15), (124, 21)] σ (sI σ 124 21 (nI (Q ++ P).length)) := Ch.sI1 (Or.inl (by simp))
    rw [hl.1, List.length_cons, if_neg (show ¬ nI ((Q ++ P).length + 1) ≤ (0 : Int32) from nI_ge (a := 0) (by omega) (by omega)), show nI ((Q ++ P).length + 1) - (1 : Int32) = nI (Q ++ P).length from nI_back, if_pos (inB_n (by omega) (by decide)), nI_clamp (by omega), t.1, F_bindsR qv.1, bd_some, if_neg (show ¬ nI (bnd q.1) < nI lv from fun z => by rw [Int32.lt_iff_toInt_lt, nI_toInt (by omega), nI_toInt (by omega)] at z; omega), hl.1, List.length_cons, show nI ((Q ++ P).length + 1) - (1 : Int32) = nI (Q ++ P).length from nI_back]
    obtain ⟨s1, hs1⟩ : ∃ s1, s1 = sI σ 124 21 (nI (Q ++ P).length) := ⟨_, rfl⟩
    rw [← hs1] at tl k1 ⊢
    have q21 : gI s1 124 21 = nI (Q ++ P).length := tl.1
    have q132 : gI s1 132 (Q ++ P).length = nI q.1 := by rw [hs1, gI_sI_row (by decide)]; exact t.1
    have q133 : gI s1 133 (Q ++ P).length = nI q.2 := by rw [hs1, gI_sI_row (by decide)]; exact t.2
    have q15 : gI s1 124 15 = nI m := by rw [hs1, gI_sI_ne (by decide)]; exact h15
    have q130 : gI s1 130 = gI σ 130 := by rw [hs1, gI_sI_row (by decide)]
    have q131 : gI s1 131 = gI σ 131 := by rw [hs1, gI_sI_row (by decide)]
    have c18 : nI q.1 = (18 : Int32) ↔ q.1 = 18 := nI_eq (b := 18) (by omega) (by decide)
    have c19 : nI q.1 = (19 : Int32) ↔ q.1 = 19 := nI_eq (b := 19) (by omega) (by decide)
    have patch : (q.1 = 18 ∨ q.1 = 19) → ∃ τ, F_X12_settle_63 (F_X12_settle_0 (Q.length + 1 + g)) (nI lv) s1 = some τ ∧ PlR P τ ∧ gI τ 124 15 = nI (setQ (q :: Q) (gI σ 130, gI σ 131, m)).2.2 ∧ gI τ 130 = (setQ (q :: Q) (gI σ 130, gI σ 131, m)).1 ∧ gI τ 131 = (setQ (q :: Q) (gI σ 130, gI σ 131, m)).2.1 ∧ Ch [130, 131] [(124, 15), (124, 21)] σ τ := fun c => by
      unfold F_X12_settle_63
      rw [q21, if_pos (inB_n (by omega) (by decide)), nI_clamp (by omega), q133, if_pos (inB_n qv.2 (by decide)), nI_clamp (by omega), q15]
      obtain ⟨s2, hs2⟩ : ∃ s2, s2 = sI s1 131 q.2 (nI m) := ⟨_, rfl⟩
      rw [← hs2]
      have k2 : Ch [130, 131] [(124, 15), (124, 21)] s1 s2 := by rw [hs2]; exact Ch.sI1 (Or.inr (by simp))
      have kx : Ch [131] [] s1 s2 := by rw [hs2]; exact Ch.sI1 (Or.inr (by simp))
      obtain ⟨τ, t1, t2, t3, t4, t5, t6⟩ := ih m s2 (fun x hx => hQ x (List.mem_cons_of_mem _ hx)) (fun x hx => hQV x (List.mem_cons_of_mem _ hx)) (tl.ch kx (by simp) (by simp)) (by rw [kx.pI (by simp) (by simp)]; exact q15) (by omega)
      have g130 : gI s2 130 = gI σ 130 := by rw [hs2, gI_sI_row (by decide)]; exact q130
      have g131 : gI s2 131 = va_up (gI σ 131) q.2 (nI m) := by rw [hs2, gI_sI_own, q131]
      rw [g130, g131] at t3 t4 t5
      rw [setQ_c, if_pos c]
      exact ⟨τ, t1, t2, t3, t4, t5, (k1.trans k2).trans t6⟩
    rw [q21, if_pos (inB_n (by omega) (by decide)), nI_clamp (by omega), q132]
    by_cases d18 : q.1 = 18
    · rw [if_pos (c18.mpr d18)]; exact patch (Or.inl d18)
    · rw [if_neg (fun z => d18 (c18.mp z)), if_pos (inB_n (by omega) (by decide))]
      by_cases d19 : q.1 = 19
      · rw [if_pos (c19.mpr d19)]; exact patch (Or.inr d19)
      · rw [if_neg (fun z => d19 (c19.mp z)), if_pos (inB_n (by omega) (by decide))]
        obtain ⟨s2, e1, e2, e3, e4, e5⟩ := F_emitR (x := nI q.1) (y := 0) q15 (by omega)
        rw [e1, bv_some]
        obtain ⟨τ, t1, t2, t3, t4, t5, t6⟩ := ih (m + 1) s2 (fun x hx => hQ x (List.mem_cons_of_mem _ hx)) (fun x hx => hQV x (List.mem_cons_of_mem _ hx)) (tl.ch e5 (by simp) (by simp)) e2 (by omega)
        rw [e3, e4, q130, q131] at t3 t4 t5
        rw [setQ_c, if_neg (fun z => by rcases z with z | z; exact d18 z; exact d19 z)]
        exact ⟨τ, t1, t2, t3, t4, t5, (k1.trans (e5.mono (by simp) (by simp))).trans t6⟩
theorem F_settleR {lv m : Nat} {Q P : List (Nat × Nat)} {σ : AH} (hP : TopLt lv P) (hV : PV P) (hlv : lv ≤ 6) (hQ : QB lv Q) (hQV : PV Q) (hl : PlR (Q ++ P) σ) (h15 : gI σ 124 15 = nI m) (hm : m + (Q ++ P).length ≤ 400) : ∃ τ, F_X12_settle (nI lv) σ = some τ ∧ PlR P τ ∧ gI τ 124 15 = nI (setQ Q (gI σ 130, gI σ 131, m)).2.2 ∧ gI τ 130 = (setQ Q (gI σ 130, gI σ 131, m)).1 ∧ gI τ 131 = (setQ Q (gI σ 130, gI σ 131, m)).2.1 ∧ Ch [130, 131] [(124, 15), (124, 21)] σ τ := by
  rw [List.length_append] at hm
  obtain ⟨g, hg⟩ := BIGe Q.length (by omega)
  unfold F_X12_settle
  rw [hg]
  exact setl_loop hP hV hlv Q m σ hQ hQV hl h15 (by rw [List.length_append]; exact hm)
end
