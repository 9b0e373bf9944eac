section
/-! what the yard asks of the laws, and keeps -/
def YK (row : Nat → Int32) (k : Int32) (σ : AH) : Prop := gI σ 34 2 = k ∧ LcC row k (gI σ 40) ∧ FsC row k (gI σ 41) ∧ NdC row k (gI σ 43) (gI σ 42) ∧ LwI row σ
theorem YK.ch {row : Nat → Int32} {k : Int32} {σ τ : AH} {cs : List Nat} {fs : List (Nat × Nat)} (h : YK row k σ) (c : Ch cs fs σ τ) (hL : LwI row τ) (h1 : ∀ i ∈ cs, i ≠ 34 ∧ i ≠ 40 ∧ i ≠ 41 ∧ i ≠ 42 ∧ i ≠ 43) (h2 : ∀ q ∈ fs, q.1 ≠ 34 ∧ q.1 ≠ 40 ∧ q.1 ≠ 41 ∧ q.1 ≠ 42 ∧ q.1 ≠ 43) : YK row k τ := by
  obtain ⟨a1, a2, a3, a4, _⟩ := h
  refine ⟨?_, ?_, ?_, ?_, hL⟩
  · rw [c.rI (fun q => (h1 _ q).1 rfl) (fun q hq => (h2 q hq).1)]; exact a1
  · rw [c.rI (fun q => (h1 _ q).2.1 rfl) (fun q hq => (h2 q hq).2.1)]; exact a2
  · rw [c.rI (fun q => (h1 _ q).2.2.1 rfl) (fun q hq => (h2 q hq).2.2.1)]; exact a3
  · rw [c.rI (fun q => (h1 _ q).2.2.2.2 rfl) (fun q hq => (h2 q hq).2.2.2.2), c.rI (fun q => (h1 _ q).2.2.2.1 rfl) (fun q hq => (h2 q hq).2.2.2.1)]; exact a4
theorem LwI.ch {row : Nat → Int32} {σ τ : AH} {cs : List Nat} {fs : List (Nat × Nat)} (h : LwI row σ) (c : Ch cs fs σ τ) (h1 : ∀ i ∈ cs, 34 ≤ i ∧ i < 166) (h2 : ∀ q ∈ fs, 34 ≤ q.1 ∧ q.1 < 166) : LwI row τ :=
  ⟨h.1.ch c (fun i hi => by have := h1 i hi; omega) (fun q hq => by
    have := h2 q hq
    exact ⟨this.2, fun e => by rw [e] at this; exact absurd this.1 (by decide)⟩), h.2.1.ch c (fun q => by have := h1 _ q; omega) (fun q => by have := h1 _ q; omega) (fun q hq => by
    have := h2 q hq
    exact ⟨by omega, fun e => by rw [e] at this; exact absurd this.1 (by decide)⟩), h.2.2.ch c (fun q => by have := h1 _ q; omega) (fun q => by have := h1 _ q; omega) (fun q hq => by have := h2 q hq; omega)⟩
theorem LwI.lw {row : Nat → Int32} {k w r : Int32} {σ : AH} (h : Rdy row k w r σ) : LwI row σ := h.1
theorem F_licencesFor {row : Nat → Int32} {k : Int32} {kn q : Nat} {σ : AH} (hV : AV row) (hW : AW row) (hY : YK row k σ) (hk : kn < 3) (hq : q < 20) : ∃ τ, F_X10_licencesFor (nI kn) (nI q) σ = some (cnV row k (nI (q * 13)) 0 4 (nI kn) 0 0, τ) ∧ YK row k τ ∧ Ch [31, 32, 33, 40] [(28, 6)] σ τ := by
  unfold F_X10_licencesFor F_X10_licencesFor_61
  have ix : nI q * (3 : Int32) + nI kn = nI (q * 3 + kn) := by simp only [fa_lit, nI_add, pk_mul]
  have iw : nI q * (13 : Int32) = nI (q * 13) := by simp only [fa_lit, pk_mul]
  have ih_ : (55 : Int32) + nI kn = nI (55 + kn) := nI_add 55 _
  have q1 : inB (nI (q * 3 + kn)) 60 = true := inB_n (by omega) (by omega)
  have n1 : (nI (q * 3 + kn)).toNatClampNeg = q * 3 + kn := nI_clamp (by omega)
  simp only [ix, iw, ih_, q1, n1, if_true, hY.1]
  by_cases c : gI σ 40 (q * 3 + kn) = -2
  · rw [if_pos c]
    obtain ⟨τ1, τ2, t1, t2, t3, t4⟩ := Rdy_of (k := k) (w := nI (q * 13)) (r := 0) hV hW hY.2.2.2.2
    rw [t1, bv_some, t2, bv_some]
    obtain ⟨τ3, u1, u2, u3⟩ := Rdy_counted hV t3 (by omega) (QR_lic hV hW hk)
    rw [u1, bd_some, gI_sI_at]
    have cc := t4.trans u3
    have Y3 : YK row k τ3 := hY.ch cc u2.1 (by simp [LWc]) (by simp [LWf])
    have kE : Ch [40] [] τ3 (sI τ3 40 (q * 3 + kn) (cnV row k (nI (q * 13)) 0 4 (nI kn) 0 0)) := Ch.sI1 (Or.inr (by simp))
    refine ⟨_, rfl, ⟨?_, ?_, ?_, ?_, Y3.2.2.2.2.ch kE (by simp) (by simp)⟩, (cc.mono (by simp [LWc]) (by simp [LWf])).trans (kE.mono (by simp) (by simp))⟩
    · rw [gI_sI_row (by decide)]; exact Y3.1
    · intro q' kn' h1 h2
      by_cases e : q' * 3 + kn' = q * 3 + kn
      · have e1 : q' = q := by omega
        have e2 : kn' = kn := by omega
        subst e1 e2
        rw [gI_sI_at]; exact Or.inr rfl
      · rw [gI_sI_ne e]; exact Y3.2.1 q' kn' h1 h2
    · rw [gI_sI_row (by decide)]; exact Y3.2.2.1
    · rw [gI_sI_row (by decide), gI_sI_row (by decide)]; exact Y3.2.2.2.1
  · rw [if_neg c]
    refine ⟨σ, ?_, hY, Ch.rf _⟩
    rcases hY.2.1 q kn hq hk with e | e
    · exact absurd e c
    · rw [e]
theorem F_firstKind {row : Nat → Int32} {k : Int32} {w : Nat} {σ : AH} (hV : AV row) (hW : AW row) (hY : YK row k σ) (hw : w < 260) : ∃ τ, F_X10_firstKind (nI w) σ = some (cnV row k (nI w) 0 8 0 0 0, τ) ∧ YK row k τ ∧ Ch [31, 32, 33, 41] [(28, 6)] σ τ := by
  unfold F_X10_firstKind F_X10_firstKind_47
  have q1 : inB (nI w) 260 = true := inB_n hw (by omega)
  have n1 : (nI w).toNatClampNeg = w := nI_clamp (by omega)
  simp only [q1, n1, if_true, hY.1]
  by_cases c : gI σ 41 w = -2
  · rw [if_pos c]
    obtain ⟨τ1, τ2, t1, t2, t3, t4⟩ := Rdy_of (k := k) (w := nI w) (r := 0) hV hW hY.2.2.2.2
    rw [t1, bv_some, t2, bv_some]
    obtain ⟨τ3, u1, u2, u3⟩ := Rdy_counted (h := 61) hV t3 (by omega) (QR_first hV hW)
    have u1' : F_X3_counted (61 : Int32) τ2 = some (cnV row k (nI w) 0 8 0 0 0, τ3) := u1
    rw [u1', bd_some, gI_sI_at]
    have cc := t4.trans u3
    have Y3 : YK row k τ3 := hY.ch cc u2.1 (by simp [LWc]) (by simp [LWf])
    have kE : Ch [41] [] τ3 (sI τ3 41 w (cnV row k (nI w) 0 8 0 0 0)) := Ch.sI1 (Or.inr (by simp))
    refine ⟨_, rfl, ⟨?_, ?_, ?_, ?_, Y3.2.2.2.2.ch kE (by simp) (by simp)⟩, (cc.mono (by simp [LWc]) (by simp [LWf])).trans (kE.mono (by simp) (by simp))⟩
    · rw [gI_sI_row (by decide)]; exact Y3.1
    · rw [gI_sI_row (by decide)]; exact Y3.2.1
    · intro w' h1
      by_cases e : w' = w
      · subst e; rw [gI_sI_at]; exact Or.inr rfl
      · rw [gI_sI_ne e]; exact Y3.2.2.1 w' h1
    · rw [gI_sI_row (by decide), gI_sI_row (by decide)]; exact Y3.2.2.2.1
  · rw [if_neg c]
    refine ⟨σ, ?_, hY, Ch.rf _⟩
    rcases hY.2.2.1 w hw with e | e
    · exact absurd e c
    · rw [e]
/-- the KIND that is first, in the class and in the reference -/
theorem first_eq {row : Nat → Int32} {k : Int32} {w : Nat} (hV : AV row) (hW : AW row) : cnV row k (nI w) 0 8 0 0 0 = firstV row k w := by
  obtain ⟨st, hst⟩ : ∃ st : Nat → Int32, ∀ i, i < 8 → st8 st i = stO 0 (nI w) i := ⟨va_up (va_up (fun _ => 0) 0 0) 6 (nI w), fun i hi => by
    unfold st8 stO
    rcases (show i = 0 ∨ i = 1 ∨ i = 7 ∨ (i = 2 ∨ i = 3 ∨ i = 4 ∨ i = 5 ∨ i = 6) by omega) with rfl | rfl | rfl | h
    · rfl
    · rfl
    · rfl
    · rw [if_neg (by omega), up_ne _ _ _ (by omega), up_ne _ _ _ (by omega), up_ne _ _ _ (by omega), up_ne _ _ _ (by omega)]⟩
  have hQ := QR_first hV hW
  have hR := fd_lst (k := k) (w := nI w) (st := st) hV hQ
  rw [fd_congr (st := st8 st) (st' := stO 0 (nI w)) hst] at hR
  obtain ⟨r1, r2, _⟩ := hR
  unfold cnV firstV
  cases hb : (fd row k (nI w) (stO 0 (nI w)) 8 0 0 0).1 with
  | false => rfl
  | true =>
    rw [hb] at r1
    rw [if_pos rfl, if_pos rfl]
    obtain ⟨x, hx⟩ := Option.isSome_iff_exists.mp r1.symm
    have hnn : (0 : Int64) ≤ x := by
      have key : ∀ p y, lst row k (nI w) st 61 p = some y → (0 : Int64) ≤ y := by
        intro p
        induction p with
        | zero => intro y hy; cases hy
        | succ p ih =>
          intro y hy
          have e1 : lst row k (nI w) st 61 (p + 1) = if okP row p = true ∧ hdP row p = 61 then (match hC row k (nI w) st p with | some x => some x | none => lst row k (nI w) st 61 p) else lst row k (nI w) st 61 p := rfl
          rw [e1] at hy
          by_cases c : okP row p = true ∧ hdP row p = 61
          · rw [if_pos c] at hy
            obtain ⟨p1, p2⟩ := of_decide_eq_true c.1
            cases hc : hC row k (nI w) st p with
            | none => rw [hc] at hy; exact ih y hy
            | some z =>
              rw [hc] at hy
              have ez : z = y := by simpa using hy
              subst ez
              have hits := hQ (p / 16) p1 (p % 16) p2
              have hd : hdN row (p / 16) (p % 16) = 61 := c.2
              rw [decide_eq_true hd] at hits
              have hrow := (of_decide_eq_true hits).1
              unfold hC at hc
              split at hc
              · unfold cvv at hc
                rw [if_pos hrow] at hc
                cases e : hv row (st8 st) (p / 16) (p % 16) with
                | none => rw [e] at hc; cases hc
                | some v =>
                  rw [e] at hc
                  have ek : (row (cA (p / 16) (p % 16) + 1)).toInt64 = z := by simpa using hc
                  obtain ⟨u1, _⟩ := (hW _ p1 _ p2).1 (by rw [hrow]; decide)
                  rw [← ek, Int64.le_iff_toInt_le, Int32.toInt_toInt64, u1.1, nI_toInt (by have := u1.2; omega)]
                  have e0 : (0 : Int64).toInt = 0 := by decide
                  omega
              · cases hc
          · rw [if_neg c] at hy; exact ih y hy
      exact key 384 x hx
    rw [r2 x hx]
    unfold aln
    rw [if_pos hnn]
theorem needsAt_loop {row : Nat → Int32} {k : Int32} {kn sg rm w P g : Nat} (hV : AV row) (hW : AW row) (hk : kn < 3) (hs : sg < 3) (hP : P < 702) : ∀ (j m : Nat) (σ : AH), m + j = 6 → Rdy row k (nI w) (nI rm) σ → (∀ i, i < m → gI σ 42 (P * 6 + i) = needV row k kn sg i rm w) →
    ∃ τ, F_X10_needsAt_74 (j + 1 + g) (nI kn) (nI sg) (nI P) (nI m) σ = some (nI (P * 6), τ) ∧ LwI row τ ∧ (∀ i, i < 6 → gI τ 42 (P * 6 + i) = needV row k kn sg i rm w) ∧ (∀ q, (q < P * 6 ∨ P * 6 + 6 ≤ q) → gI τ 42 q = gI σ 42 q) ∧ Ch [31, 32, 33, 42] [(28, 6)] σ τ := by
  intro j
  induction j with
  | zero =>
    intro m σ hm hR hN
    have e : F_X10_needsAt_74 (0 + 1 + g) = B_X10_needsAt_74 (F_X10_needsAt_74 g) := by rw [show 0 + 1 + g = g + 1 by omega]; rfl
    rw [e]; unfold B_X10_needsAt_74 F_X10_needsAt_118
    rw [fa_lit 6, if_pos (nI_le (by omega) (by omega)), pk_mul]
    exact ⟨σ, rfl, hR.1, fun i hi => hN i (by omega), fun _ _ => rfl, Ch.rf _⟩
  | succ j ih =>
    intro m σ hm hR hN
    have e : F_X10_needsAt_74 (j + 1 + 1 + g) = B_X10_needsAt_74 (F_X10_needsAt_74 (j + 1 + g)) := by rw [show j + 1 + 1 + g = (j + 1 + g) + 1 by omega]; rfl
    rw [e]; unfold B_X10_needsAt_74
    have ip : nI P * (6 : Int32) + nI m = nI (P * 6 + m) := by simp only [fa_lit, nI_add, pk_mul]
    obtain ⟨v, τ, t1, t2, t3, t4⟩ := Rdy_need (kn := kn) (sg := sg) (mt := m) hV hW hR hk hs (by omega)
    rw [fa_lit 6, if_neg (nI_ge (by omega) (by omega)), F_needHead (by omega), bd_some, t1, bd_some, ← fa_lit 6, ip, if_pos (inB_n (by omega) (by omega)), nI_clamp (by omega), t2, nI_1]
    have kE : Ch [42] [] τ (sI τ 42 (P * 6 + m) (needV row k kn sg m rm w)) := Ch.sI1 (Or.inr (by simp))
    have e42 : gI τ 42 = gI σ 42 := t4.rI (by simp [LWc]) (by simp [LWf])
    have R2 : Rdy row k (nI w) (nI rm) (sI τ 42 (P * 6 + m) (needV row k kn sg m rm w)) := ⟨t3.1.ch kE (by simp) (by simp), by rw [gI_sI_row (by decide)]; exact t3.2.1, by rw [gI_sI_row (by decide)]; exact t3.2.2⟩
    obtain ⟨τ2, u1, u2, u3, u4, u5⟩ := ih (m + 1) (sI τ 42 (P * 6 + m) (needV row k kn sg m rm w)) (by omega) R2 (fun i hi => by
      by_cases e : i = m
      · subst e; rw [gI_sI_at]
      · rw [gI_sI_ne (by omega), e42]; exact hN i (by omega))
    exact ⟨τ2, u1, u2, u3, fun q hq => by rw [u4 q hq, gI_sI_ne (by omega), e42], ((t4.mono (by simp [LWc]) (by simp [LWf])).trans (kE.mono (by simp) (by simp))).trans u5⟩
theorem F_needsAt {row : Nat → Int32} {k : Int32} {kn sg rm w : Nat} {σ : AH} (hV : AV row) (hW : AW row) (hY : YK row k σ) (hk : kn < 3) (hs : sg < 3) (h1 : 1 ≤ rm) (h6 : rm ≤ 6) (hw : w < 260) : ∃ τ, F_X10_needsAt (nI kn) (nI sg) (nI rm) (nI w) σ = some (nI (hsN (w % 13) kn sg rm * 6), τ) ∧ YK row k τ ∧ (∀ m, m < 6 → gI τ 42 (hsN (w % 13) kn sg rm * 6 + m) = needV row k kn sg m rm w) ∧ Ch [31, 32, 33, 42, 43] [(28, 6)] σ τ := by
  unfold F_X10_needsAt F_X10_needsAt_118
  have hP : hsN (w % 13) kn sg rm < 702 := by unfold hsN; omega
  have i1 : nI w - nI w / (13 : Int32) * (13 : Int32) = nI (w % 13) := pk_rem (d := 13) (by omega) (by decide) (by decide)
  have i2 : (((nI kn * (3 : Int32)) + nI sg) * (6 : Int32)) + nI rm - (1 : Int32) = nI ((kn * 3 + sg) * 6 + rm - 1) := by
    have : ((nI kn * (3 : Int32)) + nI sg) * (6 : Int32) + nI rm = nI ((kn * 3 + sg) * 6 + rm) := by simp only [fa_lit, nI_add, pk_mul]
    rw [this]; exact pk_sub (b := 1) (by omega)
  have i3 : nI (w % 13) * (54 : Int32) + nI ((kn * 3 + sg) * 6 + rm - 1) = nI (hsN (w % 13) kn sg rm) := by simp only [fa_lit, nI_add, pk_mul]; rfl
  have q1 : inB (nI (hsN (w % 13) kn sg rm)) 702 = true := inB_n hP (by omega)
  have n1 : (nI (hsN (w % 13) kn sg rm)).toNatClampNeg = hsN (w % 13) kn sg rm := nI_clamp (by omega)
  have i4 : nI (hsN (w % 13) kn sg rm) * (6 : Int32) = nI (hsN (w % 13) kn sg rm * 6) := by simp only [fa_lit, pk_mul]
  simp only [i1, i2, i3, q1, n1, if_true, i4]
  generalize hp : hsN (w % 13) kn sg rm = P at *
  by_cases c : gI σ 43 P = nI w
  · rw [if_pos c]
    refine ⟨σ, rfl, hY, ?_, Ch.rf _⟩
    rcases hY.2.2.2.1 (w % 13) kn sg rm (by omega) hk hs h1 h6 with e | ⟨w', a1, a2, a3, a4⟩
    · rw [hp, c] at e; exact absurd e (nI_neg1 (by omega))
    · rw [hp, c] at a3
      have := (nI_eq (by omega) (by omega)).mp a3
      subst this
      rw [hp] at a4; exact a4
  · rw [if_neg c, lt_e]
    have kE : Ch [43] [] σ (sI σ 43 P (nI w)) := Ch.sI1 (Or.inr (by simp))
    have L1 : LwI row (sI σ 43 P (nI w)) := hY.2.2.2.2.ch kE (by simp) (by simp)
    have k34 : gI (sI σ 43 P (nI w)) 34 2 = k := by rw [gI_sI_row (by decide)]; exact hY.1
    rw [k34]
    obtain ⟨τ1, τ2, t1, t2, t3, t4⟩ := Rdy_of (k := k) (w := nI w) (r := nI rm) hV hW L1
    rw [t1, bv_some, t2, bv_some]
    obtain ⟨g, hg⟩ := BIGe 6 (by decide)
    obtain ⟨τ, u1, u2, u3, u4, u5⟩ := needsAt_loop (g := g) (kn := kn) (sg := sg) (P := P) hV hW hk hs hP 6 0 τ2 rfl t3 (fun i hi => absurd hi (Nat.not_lt_zero i))
    have u1' : F_X10_needsAt_74 BIG (nI kn) (nI sg) (nI P) 0 τ2 = some (nI (P * 6), τ) := by rw [hg]; exact u1
    rw [u1']
    have cA : Ch [31, 32, 33, 43] [(28, 6)] σ τ2 := (kE.mono (by simp) (by simp)).trans (t4.mono (by simp [LWc]) (by simp [LWf]))
    have cB : Ch [31, 32, 33, 42, 43] [(28, 6)] σ τ := (cA.mono (by simp) (by simp)).trans (u5.mono (by simp) (by simp))
    have e43 : gI τ 43 = va_up (gI σ 43) P (nI w) := by rw [u5.rI (by simp) (by simp), t4.rI (by simp [LWc]) (by simp [LWf]), gI_sI_own]
    have e42 : ∀ q, (q < P * 6 ∨ P * 6 + 6 ≤ q) → gI τ 42 q = gI σ 42 q := fun q hq => by rw [u4 q hq, cA.rI (by simp) (by simp)]
    refine ⟨τ, rfl, ⟨?_, ?_, ?_, ?_, u2⟩, u3, cB⟩
    · rw [cB.rI (by simp) (by simp)]; exact hY.1
    · rw [cB.rI (by simp) (by simp)]; exact hY.2.1
    · rw [cB.rI (by simp) (by simp)]; exact hY.2.2.1
    · intro d' kn' sg' rm' b1 b2' b3 b4 b5
      rw [e43]
      by_cases e : hsN d' kn' sg' rm' = P
      · rw [e, up_same]
        have e0 := e
        rw [← hp] at e0
        unfold hsN at e0
        have x1 : rm' = rm := by omega
        have x2 : sg' = sg := by omega
        have x3 : kn' = kn := by omega
        have x4 : d' = w % 13 := by omega
        subst x1 x2 x3
        exact Or.inr ⟨w, hw, x4.symm, rfl, u3⟩
      · rw [up_ne _ _ _ e]
        rcases hY.2.2.2.1 d' kn' sg' rm' b1 b2' b3 b4 b5 with z | ⟨w', a1, a2, a3, a4⟩
        · exact Or.inl z
        · refine Or.inr ⟨w', a1, a2, a3, fun m hm => ?_⟩
          rw [e42 _ (by omega)]; exact a4 m hm
end
