section
def nA (row : Nat → Int32) : Nat := (row 0).toNatClampNeg
def clN (row : Nat → Int32) (a : Nat) : Nat := (row (20 + 947 * a + 2)).toNatClampNeg
def cA (a c : Nat) : Nat := 20 + 947 * a + 3 + 9 * c
/-- a CLAUSE as it can be -/
def ClV (row : Nat → Int32) (a c : Nat) : Prop :=
  (∃ h, h ≤ 8 ∧ row (cA a c) = nI h) ∧ (∃ x, x ≤ 23 ∧ row (cA a c + 1) = nI x) ∧ (∃ y, y ≤ 15 ∧ row (cA a c + 2) = nI y) ∧
  ∃ i j k l, (i ≤ 400 ∧ j ≤ 400 ∧ k ≤ 400 ∧ l ≤ 400) ∧ row (cA a c + 4) = nI i ∧ row (cA a c + 5) = nI j ∧ row (cA a c + 6) = nI k ∧ row (cA a c + 7) = nI l ∧
  ∀ st, (∃ v, rrun (opA row a) (arA row a) st j 401 i [] = some v) ∧ ∃ v, rrun (opA row a) (arA row a) st l 401 k [] = some v
def AV (row : Nat → Int32) : Prop := row 0 = nI (nA row) ∧ nA row ≤ 24 ∧ ∀ a, a < nA row → row (20 + 947 * a + 2) = nI (clN row a) ∧ clN row a ≤ 16 ∧ ∀ c, c < clN row a → ClV row a c
def onB (row : Nat → Int32) (k w : Int32) (a : Nat) : Bool := decide (¬ k < row (20 + 947 * a + 1) ∧ ¬ w < row (20 + 947 * a))
def stkC (row : Nat → Int32) (a : Nat) (s : Nat → Bool) : Nat → Nat → Bool := fun c => match c with
  | 0 => s
  | c + 1 => if row (cA a c) = 0 ∧ stkC row a s c (16 * a + c) = false ∧ ¬ nI a ≤ row (cA a c + 1) then va_up (stkC row a s c) (16 * (row (cA a c + 1)).toNatClampNeg + (row (cA a c + 2)).toNatClampNeg) true else stkC row a s c
def stkM (row : Nat → Int32) (k w : Int32) : Nat → (Nat → Bool) → Nat → Bool := fun m => match m with
  | 0 => fun s => s
  | m + 1 => fun s => stkM row k w m (if onB row k w m = true then stkC row m s (clN row m) else s)
def stk (row : Nat → Int32) (k w : Int32) : Nat → Bool := stkM row k w (nA row) (fun _ => false)
def SR (g : Nat → Int32) (s : Nat → Bool) : Prop := ∀ i, i < 384 → g i = if s i = true then 1 else 0
def FOK (row : Nat → Int32) (k w : Int32) (σ : AH) : Prop := (∀ a, a < nA row → gI σ 134 a = if onB row k w a = true then 1 else 0) ∧ SR (gI σ 135) (stk row k w)
theorem SR.up {g : Nat → Int32} {s : Nat → Bool} (h : SR g s) (p : Nat) : SR (va_up g p 1) (va_up s p true) := fun i hi => by
  by_cases e : i = p
  · subst e; rw [up_same, up_same]; rfl
  · rw [up_ne _ _ _ e, up_ne _ _ _ e]; exact h i hi
theorem force_in {row : Nat → Int32} {a : Nat} {x1 : Int32} {K : Int32 → Int32 → AH → Option AH} {g : Nat} {s0 : Nat → Bool} (hV : AV row) (ha : a < nA row) : ∀ (j c : Nat) (σ : AH), c + j = clN row a → gI σ 125 = row → gI σ 134 a = 1 → SR (gI σ 135) (stkC row a s0 c) →
    ∃ τ, F_X12_findForce_93 K (j + 1 + g) x1 (nI a) (nI (20 + 947 * a)) (nI c) σ = K x1 (nI a + (-1)) τ ∧ SR (gI τ 135) (stkC row a s0 (clN row a)) ∧ Ch [135] [] σ τ := by
  obtain ⟨h0, hn, hA⟩ := hV
  obtain ⟨hc1, hc2, hC⟩ := hA a ha
  intro j
  induction j with
  | zero =>
    intro c σ hc hr ho hS
    have e : F_X12_findForce_93 K (0 + 1 + g) = B_X12_findForce_93 K (F_X12_findForce_93 K g) := by rw [Nat.zero_add, Nat.add_comm]; rfl
    rw [e]; unfold B_X12_findForce_93 F_X12_findForce_195
    have i1 : nI (20 + 947 * a) + (2 : Int32) = nI (20 + 947 * a + 2) := by simp only [fa_lit, nI_add]
    rw [i1, if_pos (inB_n (by omega) (by omega)), nI_clamp (by omega), hr, hc1]
    have : c = clN row a := by omega
    subst this
    rw [if_pos (nI_le (Nat.le_refl _) (by omega))]
    exact ⟨σ, rfl, hS, Ch.rf _⟩
  | succ j ih =>
    intro c σ hc hr ho hS
    have e : F_X12_findForce_93 K (j + 1 + 1 + g) = B_X12_findForce_93 K (F_X12_findForce_93 K (j + 1 + g)) := by rw [show j + 1 + 1 + g = (j + 1 + g) + 1 by omega]; rfl
    rw [e]; unfold B_X12_findForce_93 F_X12_findForce_195 F_X12_findForce_189
    have i1 : nI (20 + 947 * a) + (2 : Int32) = nI (20 + 947 * a + 2) := by simp only [fa_lit, nI_add]
    have i2 : (16 : Int32) * nI a + nI c = nI (16 * a + c) := by simp only [fa_lit, nI_add, pk_mul]
    have i5 : nI (20 + 947 * a + 3 + 9 * c) + (1 : Int32) = nI (cA a c + 1) := nI_add _ _
    have i6 : nI (20 + 947 * a + 3 + 9 * c) + (2 : Int32) = nI (cA a c + 2) := nI_add _ _
    have i4 : nI c + 1 = nI (c + 1) := nI_1 c
    have hcl : c < clN row a := by omega
    have b1 : cA a c + 8 < 269832 := by unfold cA; omega
    rw [i1, if_pos (inB_n (by omega) (by omega)), nI_clamp (by omega), hr, hc1, if_neg (nI_ge hcl (by omega)), if_pos (inB_n (by omega) (by omega)), nI_clamp (by omega), ho, if_neg (by decide), F_clauseAt, bd_some]
    simp only [i2, i4, i5, i6]
    have e0 : nI (20 + 947 * a + 3 + 9 * c) = nI (cA a c) := rfl
    rw [e0, if_pos (inB_n (by omega) (by omega)), nI_clamp (by omega), hr]
    obtain ⟨⟨h, hh, ehh⟩, ⟨x, hx, ex⟩, ⟨y, hy, ey⟩, _⟩ := hC c hcl
    have step : stkC row a s0 (c + 1) = if row (cA a c) = 0 ∧ stkC row a s0 c (16 * a + c) = false ∧ ¬ nI a ≤ row (cA a c + 1) then va_up (stkC row a s0 c) (16 * (row (cA a c + 1)).toNatClampNeg + (row (cA a c + 2)).toNatClampNeg) true else stkC row a s0 c := rfl
    by_cases c0 : row (cA a c) = 0
    · rw [if_pos c0]
      rw [if_pos (inB_n (by omega) (by omega)), nI_clamp (by omega), hS _ (by omega)]
      by_cases cs : stkC row a s0 c (16 * a + c) = true
      · rw [if_pos cs, if_neg (by decide)]
        refine ih (c + 1) σ (by omega) hr ho ?_
        rw [step, if_neg (fun q => by rw [q.2.1] at cs; cases cs)]; exact hS
      · rw [if_neg cs, if_pos rfl, if_pos (inB_n (by omega) (by omega)), nI_clamp (by omega)]
        by_cases cx : nI a ≤ row (cA a c + 1)
        · rw [if_pos cx]
          refine ih (c + 1) σ (by omega) hr ho ?_
          rw [step, if_neg (fun q => q.2.2 cx)]; exact hS
        · rw [if_neg cx, if_pos (inB_n (by omega) (by omega)), if_pos (inB_n (by omega) (by omega)), nI_clamp (by omega), ex, ey, fa_lit 16, pk_mul, nI_add, if_pos (inB_n (by omega) (by omega)), nI_clamp (by omega), lt_e]
          obtain ⟨τ, t1, t2, t3⟩ := ih (c + 1) (sI σ 135 (16 * x + y) 1) (by omega) hr (by rw [gI_sI_row (by decide)]; exact ho) (by
            rw [gI_sI_own, step, if_pos ⟨c0, Bool.eq_false_iff.mpr cs, cx⟩, ex, ey, nI_clamp (by omega), nI_clamp (by omega)]
            exact hS.up _)
          exact ⟨τ, t1, t2, (Ch.sI1 (Or.inr (by simp))).trans t3⟩
    · rw [if_neg c0]
      refine ih (c + 1) σ (by omega) hr ho ?_
      rw [step, if_neg (fun q => c0 q.1)]; exact hS
theorem force_off {row : Nat → Int32} {a : Nat} {x1 : Int32} {K : Int32 → Int32 → AH → Option AH} {g : Nat} (hV : AV row) (ha : a < nA row) {σ : AH} (hr : gI σ 125 = row) (ho : gI σ 134 a = 0) : F_X12_findForce_93 K (g + 1) x1 (nI a) (nI (20 + 947 * a)) 0 σ = K x1 (nI a + (-1)) σ := by
  obtain ⟨h0, hn, hA⟩ := hV
  have e : F_X12_findForce_93 K (g + 1) = B_X12_findForce_93 K (F_X12_findForce_93 K g) := rfl
  rw [e]; unfold B_X12_findForce_93 F_X12_findForce_195
  have i1 : nI (20 + 947 * a) + (2 : Int32) = nI (20 + 947 * a + 2) := by simp only [fa_lit, nI_add]
  rw [i1, if_pos (inB_n (by omega) (by omega)), if_pos (inB_n (by omega) (by omega)), nI_clamp (n := a) (by omega), ho, if_pos rfl, ite_self]
theorem nar1 : vp_nar .boolean 1 = 1 := by decide +kernel
theorem nar0 : vp_nar .boolean 0 = 0 := by decide +kernel
theorem BIGe (n : Nat) (h : n < 1000000000) : ∃ g, BIG = n + 1 + g := ⟨BIG - n - 1, by unfold BIG; omega⟩
theorem force_out {row : Nat → Int32} {k w : Int32} {g : Nat} (hV : AV row) : ∀ (m : Nat) (s : Nat → Bool) (σ : AH), m ≤ nA row → gI σ 125 = row → gI σ 124 23 = k → SR (gI σ 135) s → (∀ a, m ≤ a → a < nA row → gI σ 134 a = if onB row k w a = true then 1 else 0) →
    ∃ τ, F_X12_findForce_45 (m + 1 + g) w (nI m + (-1)) σ = some τ ∧ SR (gI τ 135) (stkM row k w m s) ∧ (∀ a, a < nA row → gI τ 134 a = if onB row k w a = true then 1 else 0) ∧ Ch [134, 135] [] σ τ := by
  intro m
  induction m with
  | zero =>
    intro s σ _ hr hk hS ho
    have e : F_X12_findForce_45 (0 + 1 + g) = B_X12_findForce_45 (F_X12_findForce_45 g) := by rw [Nat.zero_add, Nat.add_comm]; rfl
    rw [e]; unfold B_X12_findForce_45
    rw [if_pos (by decide)]
    exact ⟨σ, rfl, hS, fun a h => ho a (Nat.zero_le _) h, Ch.rf _⟩
  | succ m ih =>
    intro s σ hm hr hk hS ho
    have e : F_X12_findForce_45 (m + 1 + 1 + g) = B_X12_findForce_45 (F_X12_findForce_45 (m + 1 + g)) := by rw [show m + 1 + 1 + g = (m + 1 + g) + 1 by omega]; rfl
    have hn := hV.2.1
    rw [e, pk_m1]; unfold B_X12_findForce_45 F_X12_findForce_88 F_X12_findForce_89
    have i1 : nI (20 + 947 * m) + (1 : Int32) = nI (20 + 947 * m + 1) := by simp only [fa_lit, nI_add]
    have q1 : inB (nI (20 + 947 * m + 1)) 269832 = true := inB_n (by omega) (by omega)
    have q2 : inB (nI (20 + 947 * m)) 269832 = true := inB_n (by omega) (by omega)
    have q3 : inB (nI m) 24 = true := inB_n (by omega) (by omega)
    have q4 : (nI (20 + 947 * m + 1)).toNatClampNeg = 20 + 947 * m + 1 := nI_clamp (by omega)
    have q5 : (nI (20 + 947 * m)).toNatClampNeg = 20 + 947 * m := nI_clamp (by omega)
    have q6 : (nI m).toNatClampNeg = m := nI_clamp (by omega)
    rw [if_neg (nI_pos (by omega)), F_actAt, bd_some, i1]
    simp only [q1, q2, q3, q4, q5, q6, hr, hk, nar1, nar0, if_true]
    have hcl := (hV.2.2 m (by omega)).2.1
    have fin : ∀ (σ1 : AH), gI σ1 125 = row → gI σ1 124 23 = k → SR (gI σ1 135) (if onB row k w m = true then stkC row m s (clN row m) else s) → (∀ a, m ≤ a → a < nA row → gI σ1 134 a = if onB row k w a = true then 1 else 0) → Ch [134, 135] [] σ σ1 →
        ∃ τ, F_X12_findForce_45 (m + 1 + g) w (nI m + (-1)) σ1 = some τ ∧ SR (gI τ 135) (stkM row k w (m + 1) s) ∧ (∀ a, a < nA row → gI τ 134 a = if onB row k w a = true then 1 else 0) ∧ Ch [134, 135] [] σ τ := by
      intro σ1 g1 g2 g3 g4 g5
      obtain ⟨τ, t1, t2, t3, t4⟩ := ih _ σ1 (by omega) g1 g2 g3 g4
      exact ⟨τ, t1, t2, t3, g5.trans t4⟩
    have off : onB row k w m = false → ∃ τ, F_X12_findForce_93 (F_X12_findForce_45 (m + 1 + g)) BIG w (nI m) (nI (20 + 947 * m)) 0 (sI σ 134 m 0) = some τ ∧ SR (gI τ 135) (stkM row k w (m + 1) s) ∧ (∀ a, a < nA row → gI τ 134 a = if onB row k w a = true then 1 else 0) ∧ Ch [134, 135] [] σ τ := by
      intro hof
      obtain ⟨g2, hg⟩ := BIGe 0 (by decide)
      rw [hg, show 0 + 1 + g2 = g2 + 1 by omega, force_off hV (by omega) (by rw [gI_sI_row (by decide)]; exact hr) gI_sI_at]
      refine fin _ (by rw [gI_sI_row (by decide)]; exact hr) (by rw [gI_sI_row (by decide)]; exact hk) (by rw [hof]; exact hS) (fun a h1 h2 => ?_) (Ch.sI1 (Or.inr (by simp)))
      by_cases e : a = m
      · subst e; rw [gI_sI_at, hof]; rfl
      · rw [gI_sI_ne e]; exact ho a (by omega) h2
    by_cases c1 : k < row (20 + 947 * m + 1)
    · rw [if_pos c1]
      exact off (by unfold onB; exact decide_eq_false (fun q => q.1 c1))
    · rw [if_neg c1]
      by_cases c2 : w < row (20 + 947 * m)
      · rw [if_pos c2]
        exact off (by unfold onB; exact decide_eq_false (fun q => q.2 c2))
      · rw [if_neg c2]
        have hof : onB row k w m = true := by unfold onB; exact decide_eq_true ⟨c1, c2⟩
        obtain ⟨g2, hg⟩ := BIGe (clN row m) (by omega)
        obtain ⟨τ, t1, t2, t3⟩ := force_in (x1 := w) (K := F_X12_findForce_45 (m + 1 + g)) (g := g2) (s0 := s) hV (a := m) (by omega) (clN row m) 0 (sI σ 134 m 1) (by omega) (by rw [gI_sI_row (by decide)]; exact hr) gI_sI_at (by rw [gI_sI_row (by decide)]; exact hS)
        rw [hg, show (0 : Int32) = nI 0 from rfl, t1]
        refine fin τ ?_ ?_ (by rw [hof]; exact t2) (fun a h1 h2 => ?_) ((Ch.sI1 (Or.inr (by simp))).trans (t3.mono (by simp) (by simp)))
        · rw [t3.rI (by simp) (by simp), gI_sI_row (by decide)]; exact hr
        · rw [t3.rI (by simp) (by simp), gI_sI_row (by decide)]; exact hk
        · rw [t3.rI (by simp) (by simp)]
          by_cases e : a = m
          · subst e; rw [gI_sI_at, hof]; rfl
          · rw [gI_sI_ne e]; exact ho a (by omega) h2
theorem force_clear {w : Int32} {g : Nat} : ∀ (j i : Nat) (σ : AH), i + j = 384 → (∀ q, q < i → gI σ 135 q = 0) → ∃ τ, F_X12_findForce_16 (j + 1 + g) w (nI i) σ = F_X12_findForce_45 BIG w (gI τ 125 0 - 1) τ ∧ (∀ q, q < 384 → gI τ 135 q = 0) ∧ Ch [135] [] σ τ := by
  intro j
  induction j with
  | zero =>
    intro i σ hi hz
    have e : F_X12_findForce_16 (0 + 1 + g) = B_X12_findForce_16 (F_X12_findForce_16 g) := by rw [Nat.zero_add, Nat.add_comm]; rfl
    rw [e]; unfold B_X12_findForce_16
    rw [fa_lit 384, if_pos (nI_le (by omega) (by omega))]
    exact ⟨σ, rfl, fun q hq => hz q (by omega), Ch.rf _⟩
  | succ j ih =>
    intro i σ hi hz
    have e : F_X12_findForce_16 (j + 1 + 1 + g) = B_X12_findForce_16 (F_X12_findForce_16 (j + 1 + g)) := by rw [show j + 1 + 1 + g = (j + 1 + g) + 1 by omega]; rfl
    rw [e]; unfold B_X12_findForce_16
    rw [fa_lit 384, if_neg (nI_ge (by omega) (by omega)), if_pos (inB_n (by omega) (by omega)), nI_clamp (by omega), nI_1]
    obtain ⟨τ, t1, t2, t3⟩ := ih (i + 1) (sI σ 135 i 0) (by omega) (fun q hq => by
      by_cases e : q = i
      · subst e; rw [gI_sI_at]
      · rw [gI_sI_ne e]; exact hz q (by omega))
    exact ⟨τ, t1, t2, (Ch.sI1 (Or.inr (by simp))).trans t3⟩
/-- findForce of the reference: behind it isOn and isStruck are those of the WEEK -/
theorem F_findForce {row : Nat → Int32} {k w : Int32} {σ : AH} (hV : AV row) (hr : gI σ 125 = row) (hk : gI σ 124 23 = k) (hc : gI σ 124 24 = w → FOK row k w σ) :
    ∃ τ, F_X12_findForce w σ = some τ ∧ gI τ 124 24 = w ∧ FOK row k w τ ∧ Ch [134, 135] [(124, 24)] σ τ := by
  unfold F_X12_findForce
  by_cases c : gI σ 124 24 = w
  · rw [if_pos c]; exact ⟨σ, rfl, c, hc c, Ch.rf _⟩
  · rw [if_neg c]
    obtain ⟨g1, hg1⟩ := BIGe 384 (by decide)
    obtain ⟨τ, t1, t2, t3⟩ := force_clear (w := w) (g := g1) 384 0 (sI σ 124 24 w) rfl (fun q h => absurd h (Nat.not_lt_zero q))
    have hr2 : gI τ 125 = row := by rw [t3.rI (by simp) (by simp), gI_sI_row (by decide)]; exact hr
    have h124 : gI τ 124 = gI (sI σ 124 24 w) 124 := t3.rI (by simp) (by simp)
    rw [hg1, show (0 : Int32) = nI 0 from rfl, t1, hr2, hV.1]
    obtain ⟨g2, hg2⟩ := BIGe (nA row) (by have := hV.2.1; omega)
    obtain ⟨τ2, u1, u2, u3, u4⟩ := force_out (row := row) (k := k) (w := w) (g := g2) hV (nA row) (fun _ => false) τ (Nat.le_refl _) hr2 (by rw [h124, gI_sI_ne (by decide)]; exact hk) (fun i hi => by rw [t2 i hi]; rfl) (fun a h1 h2 => absurd h2 (Nat.not_lt.mpr h1))
    have hm : nI (nA row) - 1 = nI (nA row) + (-1) := by
      apply Int32.toInt_inj.mp
      rw [Int32.sub_eq_add_neg]
    rw [hg2, hm]
    refine ⟨τ2, u1, ?_, ⟨u3, u2⟩, ?_⟩
    · rw [u4.rI (by simp) (by simp), h124, gI_sI_at]
    · exact ((Ch.sI1 (Or.inl (by simp))).trans (t3.mono (by simp) (by simp))).trans (u4.mono (by simp) (by simp))
end
