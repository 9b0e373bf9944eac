section
def evR (row : Nat → Int32) (a i j : Nat) (st : Nat → Int32) : Option Int64 := (rrun (opA row a) (arA row a) st j 401 i []).getD none
/-- the SUM of a CLAUSE whose TEST is so, if neither is BROKEN -/
def hv (row st : Nat → Int32) (a c : Nat) : Option Int64 :=
  if row (cA a c) = 0 then none
  else if row (cA a c + 7) ≤ row (cA a c + 6) then evR row a (row (cA a c + 4)).toNatClampNeg (row (cA a c + 5)).toNatClampNeg st
  else match evR row a (row (cA a c + 6)).toNatClampNeg (row (cA a c + 7)).toNatClampNeg st with
    | none => none
    | some v => if v = 0 then none else evR row a (row (cA a c + 4)).toNatClampNeg (row (cA a c + 5)).toNatClampNeg st
def hold (row : Nat → Int32) (k w : Int32) (st : Nat → Int32) (a c : Nat) : Option Int64 := if onB row k w a = true then (if stk row k w (16 * a + c) = true then none else hv row st a c) else none
theorem F_run1 {row st : Nat → Int32} {a i j : Nat} {σ : AH} (ha : a < 24) (hi : i ≤ 400) (hj : j ≤ 400) (hr : gI σ 125 = row) (hst : gI σ 136 = st) (hv : ∃ v, rrun (opA row a) (arA row a) st j 401 i [] = some v) :
    ∃ τ, F_X12_run (nI a) (nI i) (nI j) σ = some τ ∧ (gI τ 124 29 = if (evR row a i j st).isSome = true then 0 else 1) ∧ (∀ x, evR row a i j st = some x → gL τ 124 30 = x) ∧ Ch [137] [(124, 29), (124, 30)] σ τ := by
  obtain ⟨v, hv⟩ := hv
  obtain ⟨g, hg⟩ := BIGe 401 (by decide)
  obtain ⟨τ, t1, t2, t3⟩ := run_loop (g := g) (a := a) (L := j) (row := row) (st := st) ha hj 401 i [] (sI σ 124 29 0) v (by rw [gI_sI_row (by decide)]; exact hr) (by rw [gI_sI_row (by decide)]; exact hst) gI_sI_at StkR.nil (by decide) hi hv
  have e : evR row a i j st = v := by unfold evR; rw [hv]; rfl
  refine ⟨τ, ?_, ?_, ?_, (Ch.sI1 (Or.inl (by simp))).trans t3⟩
  · unfold F_X12_run; rw [hg]; exact t1
  · rw [e]; cases v with
    | none => exact t2
    | some x => exact t2.1
  · intro x hx
    rw [e] at hx; subst hx
    exact t2.2
def FDc : List Nat := [134, 135, 137]
def FDf : List (Nat × Nat) := [(124, 24), (124, 29), (124, 30), (124, 31), (124, 32)]
theorem F_holds113 {row st : Nat → Int32} {a c : Nat} {σ : AH} (ha : a < 24) (hc : c < 16) (hC : ClV row a c) (hr : gI σ 125 = row) (hst : gI σ 136 = st) :
    ∃ τ, F_X12_holds_113 (nI a) (nI (cA a c)) σ = some (if (evR row a (row (cA a c + 4)).toNatClampNeg (row (cA a c + 5)).toNatClampNeg st).isSome = true then 1 else 0, τ) ∧ (∀ x, evR row a (row (cA a c + 4)).toNatClampNeg (row (cA a c + 5)).toNatClampNeg st = some x → gL τ 124 31 = x) ∧ Ch [137] [(124, 29), (124, 30), (124, 31)] σ τ := by
  obtain ⟨_, _, _, i, j, k, l, ⟨b1, b2, b3, b4⟩, e4, e5, e6, e7, hst2⟩ := hC
  unfold F_X12_holds_113
  have i4 : nI (cA a c) + (4 : Int32) = nI (cA a c + 4) := nI_add _ _
  have i5 : nI (cA a c) + (5 : Int32) = nI (cA a c + 5) := nI_add _ _
  have b : cA a c + 8 < 269832 := by unfold cA; omega
  rw [i4, i5, if_pos (inB_n (by omega) (by omega)), if_pos (inB_n (by omega) (by omega)), nI_clamp (by omega), nI_clamp (by omega), hr, e4, e5, nI_clamp (by omega), nI_clamp (by omega)]
  obtain ⟨τ, t1, t2, t3, t4⟩ := F_run1 (row := row) (st := st) ha b1 b2 hr hst (hst2 st).1
  rw [t1, bv_some]
  have g1 : gI (sL τ 124 31 (gL τ 124 30)) 124 29 = gI τ 124 29 := rfl
  rw [g1, t2]
  refine ⟨sL τ 124 31 (gL τ 124 30), ?_, ?_, ?_⟩
  · cases h : evR row a i j st with
    | none => rfl
    | some x => rfl
  · intro x hx; rw [gL_sL_at]; exact t3 x hx
  · exact (t4.mono (by simp) (by simp)).trans (Ch.sL1 (Or.inl (by simp)))
theorem F_holds {row st : Nat → Int32} {k w : Int32} {a c : Nat} {σ : AH} (hV : AV row) (ha : a < nA row) (hcl : c < clN row a) (hr : gI σ 125 = row) (hst : gI σ 136 = st) (hk : gI σ 124 23 = k) (hc : gI σ 124 24 = w → FOK row k w σ) :
    ∃ τ, F_X12_holds (nI a) (nI c) w σ = some (if (hold row k w st a c).isSome = true then 1 else 0, τ) ∧ (∀ x, hold row k w st a c = some x → gL τ 124 31 = x) ∧ gI τ 124 24 = w ∧ FOK row k w τ ∧ Ch [134, 135, 137] [(124, 24), (124, 29), (124, 30), (124, 31)] σ τ := by
  have hn := hV.2.1
  obtain ⟨_, hc16, hC0⟩ := hV.2.2 a ha
  have hC := hC0 c hcl
  have hC' := hC
  obtain ⟨⟨hh, bh, eh⟩, _, _, i, j, k', l, ⟨b1, b2, b3, b4⟩, e4, e5, e6, e7, hst2⟩ := hC
  unfold F_X12_holds
  obtain ⟨τ, t1, t2, t3, t4⟩ := F_findForce hV hr hk hc
  have hr2 : gI τ 125 = row := by rw [← hr]; exact t4.rI (by simp) (by simp)
  have hst3 : gI τ 136 = st := by rw [← hst]; exact t4.rI (by simp) (by simp)
  have b : cA a c + 8 < 269832 := by unfold cA; omega
  rw [t1, bv_some, F_clauseAt, bd_some]
  have e0 : nI (20 + 947 * a + 3 + 9 * c) = nI (cA a c) := rfl
  have i2 : (16 : Int32) * nI a + nI c = nI (16 * a + c) := by simp only [fa_lit, nI_add, pk_mul]
  have i6 : nI (cA a c) + (6 : Int32) = nI (cA a c + 6) := nI_add _ _
  have i7 : nI (cA a c) + (7 : Int32) = nI (cA a c + 7) := nI_add _ _
  have q1 : inB (nI a) 24 = true := inB_n (by omega) (by omega)
  have q2 : inB (nI (16 * a + c)) 384 = true := inB_n (by omega) (by omega)
  have q3 : inB (nI (cA a c)) 269832 = true := inB_n (by omega) (by omega)
  have q4 : inB (nI (cA a c + 6)) 269832 = true := inB_n (by omega) (by omega)
  have q5 : inB (nI (cA a c + 7)) 269832 = true := inB_n (by omega) (by omega)
  have n1 : (nI a).toNatClampNeg = a := nI_clamp (by omega)
  have n2 : (nI (16 * a + c)).toNatClampNeg = 16 * a + c := nI_clamp (by omega)
  have n3 : (nI (cA a c)).toNatClampNeg = cA a c := nI_clamp (by omega)
  have n4 : (nI (cA a c + 6)).toNatClampNeg = cA a c + 6 := nI_clamp (by omega)
  have n5 : (nI (cA a c + 7)).toNatClampNeg = cA a c + 7 := nI_clamp (by omega)
  simp only [e0, i2, i6, i7, q1, q2, q3, q4, q5, n1, n2, n3, n4, n5, if_true]
  rw [t3.1 a ha, t3.2 _ (by omega), hr2]
  have c4 : Ch [134, 135, 137] [(124, 24), (124, 29), (124, 30), (124, 31)] σ τ := t4.mono (by simp) (by simp)
  have non : hold row k w st a c = none → ∃ τ', some ((0 : Int32), τ) = some (if (hold row k w st a c).isSome = true then 1 else 0, τ') ∧ (∀ x, hold row k w st a c = some x → gL τ' 124 31 = x) ∧ gI τ' 124 24 = w ∧ FOK row k w τ' ∧ Ch [134, 135, 137] [(124, 24), (124, 29), (124, 30), (124, 31)] σ τ' := by
    intro h
    refine ⟨τ, by rw [h]; rfl, fun x hx => ?_, t2, t3, c4⟩
    rw [h] at hx; cases hx
  by_cases o1 : onB row k w a = true
  · rw [if_pos o1, if_neg (by decide)]
    by_cases o2 : stk row k w (16 * a + c) = true
    · rw [if_pos o2, if_neg (by decide)]
      exact non (by unfold hold; rw [if_pos o1, if_pos o2])
    · rw [if_neg o2, if_pos rfl]
      have eho : hold row k w st a c = hv row st a c := by unfold hold; rw [if_pos o1, if_neg o2]
      by_cases o3 : row (cA a c) = 0
      · rw [if_pos o3]
        exact non (by rw [eho]; unfold hv; rw [if_pos o3])
      · rw [if_neg o3]
        have fin : ∀ σ1, gI σ1 125 = row → gI σ1 136 = st → gI σ1 124 24 = w → FOK row k w σ1 → Ch [134, 135, 137] [(124, 24), (124, 29), (124, 30), (124, 31)] σ σ1 → hv row st a c = evR row a (row (cA a c + 4)).toNatClampNeg (row (cA a c + 5)).toNatClampNeg st →
            ∃ τ', F_X12_holds_113 (nI a) (nI (cA a c)) σ1 = some (if (hold row k w st a c).isSome = true then 1 else 0, τ') ∧ (∀ x, hold row k w st a c = some x → gL τ' 124 31 = x) ∧ gI τ' 124 24 = w ∧ FOK row k w τ' ∧ Ch [134, 135, 137] [(124, 24), (124, 29), (124, 30), (124, 31)] σ τ' := by
          intro σ1 f1 f2 f3 f4 f5 f6
          obtain ⟨τ', u1, u2, u3⟩ := F_holds113 (a := a) (c := c) (by omega) (by omega) hC' f1 f2
          rw [eho, f6]
          refine ⟨τ', u1, u2, ?_, ⟨fun a' h' => ?_, ?_⟩, f5.trans (u3.mono (by simp) (by simp))⟩
          · rw [u3.pI (by simp) (by simp)]; exact f3
          · rw [u3.rI (by simp) (by simp)]; exact f4.1 a' h'
          · rw [u3.rI (by simp) (by simp)]; exact f4.2
        by_cases o4 : row (cA a c + 7) ≤ row (cA a c + 6)
        · rw [if_pos o4]
          exact fin τ hr2 hst3 t2 t3 c4 (by unfold hv; rw [if_neg o3, if_pos o4])
        · rw [if_neg o4]
          obtain ⟨τ2, u1, u2, u3, u4⟩ := F_run1 (row := row) (st := st) (a := a) (σ := τ) (by omega) b3 b4 hr2 hst3 (hst2 st).2
          have hv2 : hv row st a c = match evR row a k' l st with | none => none | some v => if v = 0 then none else evR row a (row (cA a c + 4)).toNatClampNeg (row (cA a c + 5)).toNatClampNeg st := by
            unfold hv; rw [if_neg o3, if_neg o4, e6, e7, nI_clamp (by omega), nI_clamp (by omega)]
          rw [e6, e7, u1, bv_some, u2]
          have f4 : FOK row k w τ2 := ⟨fun a' h' => by rw [u4.rI (by simp) (by simp)]; exact t3.1 a' h', by rw [u4.rI (by simp) (by simp)]; exact t3.2⟩
          have f3 : gI τ2 124 24 = w := by rw [u4.pI (by simp) (by simp)]; exact t2
          have f5 := c4.trans (u4.mono (ds := [134, 135, 137]) (gs := [(124, 24), (124, 29), (124, 30), (124, 31)]) (by simp) (by simp))
          cases he : evR row a k' l st with
          | none =>
            rw [he] at hv2
            rw [if_neg (by decide)]
            refine ⟨τ2, by rw [eho, hv2]; rfl, fun x hx => ?_, f3, f4, f5⟩
            rw [eho, hv2] at hx; cases hx
          | some v =>
            rw [he] at hv2
            rw [if_pos (by simp), u3 v he]
            by_cases o5 : v = 0
            · rw [if_pos o5]
              have : hv row st a c = none := by rw [hv2, o5]; rfl
              refine ⟨τ2, by rw [eho, this]; rfl, fun x hx => ?_, f3, f4, f5⟩
              rw [eho, this] at hx; cases hx
            · rw [if_neg o5]
              refine fin τ2 ?_ ?_ f3 f4 f5 (by rw [hv2]; dsimp only; rw [if_neg o5])
              · rw [u4.rI (by simp) (by simp)]; exact hr2
              · rw [u4.rI (by simp) (by simp)]; exact hst3
  · rw [if_neg o1, if_pos rfl]
    exact non (by unfold hold; rw [if_neg o1])
/-! find: over all CLAUSES of a head -/
def FI (row : Nat → Int32) (k : Int32) (σ : AH) : Prop := gI σ 124 24 = -1 ∨ FOK row k (gI σ 124 24) σ
theorem FI.use {row : Nat → Int32} {k w : Int32} {σ : AH} (h : FI row k σ) (e : gI σ 124 24 = w) (hw : w ≠ -1) : FOK row k w σ := by
  rcases h with h | h
  · exact absurd (e.symm.trans h) hw
  · rw [e] at h; exact h
theorem FI.of {row : Nat → Int32} {k w : Int32} {σ : AH} (e : gI σ 124 24 = w) (h : FOK row k w σ) : FI row k σ := Or.inr (by rw [e]; exact h)
def itsB (row : Nat → Int32) (h kd_ sg mt : Int32) (a c : Nat) : Bool := decide (row (cA a c) = h ∧ (h = 8 ∨ (row (cA a c + 1) = kd_ ∧ row (cA a c + 2) = sg ∧ row (cA a c + 3) = mt)))
def fdC (row : Nat → Int32) (k w : Int32) (st : Nat → Int32) (h kd_ sg mt : Int32) (a : Nat) (s : Bool × Int64 × Int64) : Nat → Bool × Int64 × Int64 := fun c => match c with
  | 0 => s
  | c + 1 => if itsB row h kd_ sg mt a c = true then (match hold row k w st a c with | none => fdC row k w st h kd_ sg mt a s c | some x => (true, if h = 8 then (row (cA a c + 1)).toInt64 else x, (fdC row k w st h kd_ sg mt a s c).2.2 + x)) else fdC row k w st h kd_ sg mt a s c
def fdA (row : Nat → Int32) (k w : Int32) (st : Nat → Int32) (h kd_ sg mt : Int32) : Nat → Bool × Int64 × Int64 := fun a => match a with
  | 0 => (false, 0, 0)
  | a + 1 => fdC row k w st h kd_ sg mt a (fdA row k w st h kd_ sg mt a) (clN row a)
def fd (row : Nat → Int32) (k w : Int32) (st : Nat → Int32) (h kd_ sg mt : Int32) : Bool × Int64 × Int64 := fdA row k w st h kd_ sg mt (nA row)
def b2 (b : Bool) : Int32 := if b = true then 1 else 0
theorem find_in {row st : Nat → Int32} {k w h kd_ sg mt : Int32} {a g : Nat} {s0 : Bool × Int64 × Int64} {K : Int32 → Int32 → Int32 → Int32 → Int32 → Int32 → Int64 → Int32 → AH → Option (Int32 × AH)} (hV : AV row) (hw : w ≠ -1) (ha : a < nA row) : ∀ (j c : Nat) (σ : AH), c + j = clN row a → gI σ 125 = row → gI σ 136 = st → gI σ 124 23 = k → FI row k σ → gL σ 124 32 = (fdC row k w st h kd_ sg mt a s0 c).2.2 →
    ∃ τ, F_X12_find_28 K (j + 1 + g) h kd_ sg mt w (b2 (fdC row k w st h kd_ sg mt a s0 c).1) (fdC row k w st h kd_ sg mt a s0 c).2.1 (nI a) (nI c) σ = K h kd_ sg mt w (b2 (fdC row k w st h kd_ sg mt a s0 (clN row a)).1) (fdC row k w st h kd_ sg mt a s0 (clN row a)).2.1 (nI (a + 1)) τ ∧ gL τ 124 32 = (fdC row k w st h kd_ sg mt a s0 (clN row a)).2.2 ∧ FI row k τ ∧ Ch FDc FDf σ τ := by
  have hn := hV.2.1
  obtain ⟨hc1, hc16, hC⟩ := hV.2.2 a ha
  intro j
  induction j with
  | zero =>
    intro c σ hc hr hst hk hf hall
    have e : F_X12_find_28 K (0 + 1 + g) = B_X12_find_28 K (F_X12_find_28 K g) := by rw [Nat.zero_add, Nat.add_comm]; rfl
    rw [e]; unfold B_X12_find_28
    have i1 : nI (20 + 947 * a) + (2 : Int32) = nI (20 + 947 * a + 2) := nI_add _ _
    have : c = clN row a := by omega
    subst this
    rw [F_actAt, bd_some, i1, if_pos (inB_n (by omega) (by omega)), nI_clamp (by omega), hr, hc1, if_pos (nI_le (Nat.le_refl _) (by omega)), nI_1]
    exact ⟨σ, rfl, hall, hf, Ch.rf _⟩
  | succ j ih =>
    intro c σ hc hr hst hk hf hall
    have e : F_X12_find_28 K (j + 1 + 1 + g) = B_X12_find_28 K (F_X12_find_28 K (j + 1 + g)) := by rw [show j + 1 + 1 + g = (j + 1 + g) + 1 by omega]; rfl
    rw [e]; unfold B_X12_find_28 F_X12_find_111 F_X12_find_115
    have hcl : c < clN row a := by omega
    have b : cA a c + 8 < 269832 := by unfold cA; omega
    have i1 : nI (20 + 947 * a) + (2 : Int32) = nI (20 + 947 * a + 2) := nI_add _ _
    rw [F_actAt, bd_some, i1, if_pos (inB_n (by omega) (by omega)), nI_clamp (by omega), hr, hc1, if_neg (nI_ge hcl (by omega)), F_clauseAt, bd_some]
    have e0 : nI (20 + 947 * a + 3 + 9 * c) = nI (cA a c) := rfl
    have j1 : nI (cA a c) + (1 : Int32) = nI (cA a c + 1) := nI_add _ _
    have j2 : nI (cA a c) + (2 : Int32) = nI (cA a c + 2) := nI_add _ _
    have j3 : nI (cA a c) + (3 : Int32) = nI (cA a c + 3) := nI_add _ _
    have q0 : inB (nI (cA a c)) 269832 = true := inB_n (by omega) (by omega)
    have q1 : inB (nI (cA a c + 1)) 269832 = true := inB_n (by omega) (by omega)
    have q2 : inB (nI (cA a c + 2)) 269832 = true := inB_n (by omega) (by omega)
    have q3 : inB (nI (cA a c + 3)) 269832 = true := inB_n (by omega) (by omega)
    have n0 : (nI (cA a c)).toNatClampNeg = cA a c := nI_clamp (by omega)
    have n1 : (nI (cA a c + 1)).toNatClampNeg = cA a c + 1 := nI_clamp (by omega)
    have n2 : (nI (cA a c + 2)).toNatClampNeg = cA a c + 2 := nI_clamp (by omega)
    have n3 : (nI (cA a c + 3)).toNatClampNeg = cA a c + 3 := nI_clamp (by omega)
    simp only [e0, j1, j2, j3, q0, q1, q2, q3, n0, n1, n2, n3, hr, if_true]
    have step : fdC row k w st h kd_ sg mt a s0 (c + 1) = if itsB row h kd_ sg mt a c = true then (match hold row k w st a c with | none => fdC row k w st h kd_ sg mt a s0 c | some x => (true, if h = 8 then (row (cA a c + 1)).toInt64 else x, (fdC row k w st h kd_ sg mt a s0 c).2.2 + x)) else fdC row k w st h kd_ sg mt a s0 c := rfl
    have non : fdC row k w st h kd_ sg mt a s0 (c + 1) = fdC row k w st h kd_ sg mt a s0 c → ∀ σ1, gI σ1 125 = row → gI σ1 136 = st → gI σ1 124 23 = k → FI row k σ1 → gL σ1 124 32 = (fdC row k w st h kd_ sg mt a s0 c).2.2 → Ch FDc FDf σ σ1 →
        ∃ τ, F_X12_find_177 K (F_X12_find_28 K (j + 1 + g)) h kd_ sg mt w (b2 (fdC row k w st h kd_ sg mt a s0 c).1) (fdC row k w st h kd_ sg mt a s0 c).2.1 (nI a) (nI c) σ1 = K h kd_ sg mt w (b2 (fdC row k w st h kd_ sg mt a s0 (clN row a)).1) (fdC row k w st h kd_ sg mt a s0 (clN row a)).2.1 (nI (a + 1)) τ ∧ gL τ 124 32 = (fdC row k w st h kd_ sg mt a s0 (clN row a)).2.2 ∧ FI row k τ ∧ Ch FDc FDf σ τ := by
      intro hs σ1 f1 f2 f3 f4 f5 f6
      unfold F_X12_find_177
      rw [nI_1, ← hs]
      obtain ⟨τ, t1, t2, t3, t4⟩ := ih (c + 1) σ1 (by omega) f1 f2 f3 f4 (by rw [hs]; exact f5)
      exact ⟨τ, t1, t2, t3, f6.trans t4⟩
    have no : itsB row h kd_ sg mt a c = false → ∃ τ, F_X12_find_116 K (F_X12_find_28 K (j + 1 + g)) h kd_ sg mt w (b2 (fdC row k w st h kd_ sg mt a s0 c).1) (fdC row k w st h kd_ sg mt a s0 c).2.1 (nI a) (nI c) (nI (cA a c)) 0 σ = K h kd_ sg mt w (b2 (fdC row k w st h kd_ sg mt a s0 (clN row a)).1) (fdC row k w st h kd_ sg mt a s0 (clN row a)).2.1 (nI (a + 1)) τ ∧ gL τ 124 32 = (fdC row k w st h kd_ sg mt a s0 (clN row a)).2.2 ∧ FI row k τ ∧ Ch FDc FDf σ τ := by
      intro hb
      unfold F_X12_find_116
      rw [if_pos rfl]
      exact non (by rw [step, hb]; rfl) σ hr hst hk hf hall (Ch.rf _)
    have yes : itsB row h kd_ sg mt a c = true → ∃ τ, F_X12_find_116 K (F_X12_find_28 K (j + 1 + g)) h kd_ sg mt w (b2 (fdC row k w st h kd_ sg mt a s0 c).1) (fdC row k w st h kd_ sg mt a s0 c).2.1 (nI a) (nI c) (nI (cA a c)) 1 σ = K h kd_ sg mt w (b2 (fdC row k w st h kd_ sg mt a s0 (clN row a)).1) (fdC row k w st h kd_ sg mt a s0 (clN row a)).2.1 (nI (a + 1)) τ ∧ gL τ 124 32 = (fdC row k w st h kd_ sg mt a s0 (clN row a)).2.2 ∧ FI row k τ ∧ Ch FDc FDf σ τ := by
      intro hb
      unfold F_X12_find_116
      rw [if_neg (by decide)]
      obtain ⟨τ, t1, t2, t3, t4, t5⟩ := F_holds (st := st) hV ha hcl hr hst hk (fun e => hf.use e hw)
      have g1 : gI τ 125 = row := by rw [← hr]; exact t5.rI (by simp) (by simp)
      have g2 : gI τ 136 = st := by rw [← hst]; exact t5.rI (by simp) (by simp)
      have g3 : gI τ 124 23 = k := by rw [← hk]; exact t5.pI (by simp) (by simp)
      have g4 : gL τ 124 32 = (fdC row k w st h kd_ sg mt a s0 c).2.2 := by rw [← hall]; exact t5.pL (by simp) (by simp)
      have g5 : Ch FDc FDf σ τ := t5.mono (by simp [FDc]) (by simp [FDf])
      rw [t1, bd_some]
      cases hh : hold row k w st a c with
      | none =>
        rw [if_pos (by simp)]
        exact non (by rw [step, if_pos hb, hh]) τ g1 g2 g3 (FI.of t3 t4) g4 g5
      | some x =>
        rw [if_neg (by simp)]
        have hs : fdC row k w st h kd_ sg mt a s0 (c + 1) = (true, if h = 8 then (row (cA a c + 1)).toInt64 else x, (fdC row k w st h kd_ sg mt a s0 c).2.2 + x) := by rw [step, if_pos hb, hh]
        have fin : ∀ y : Int64, y = (fdC row k w st h kd_ sg mt a s0 (c + 1)).2.1 → ∃ τ', F_X12_find_162 K (F_X12_find_28 K (j + 1 + g)) h kd_ sg mt w 1 (nI a) (nI c) y τ = K h kd_ sg mt w (b2 (fdC row k w st h kd_ sg mt a s0 (clN row a)).1) (fdC row k w st h kd_ sg mt a s0 (clN row a)).2.1 (nI (a + 1)) τ' ∧ gL τ' 124 32 = (fdC row k w st h kd_ sg mt a s0 (clN row a)).2.2 ∧ FI row k τ' ∧ Ch FDc FDf σ τ' := by
          intro y hy
          unfold F_X12_find_162 F_X12_find_177
          rw [nI_1, g4, t2 x hh]
          obtain ⟨τ', u1, u2, u3, u4⟩ := ih (c + 1) (sL τ 124 32 ((fdC row k w st h kd_ sg mt a s0 c).2.2 + x)) (by omega) g1 g2 g3 (FI.of t3 t4) (by rw [gL_sL_at, hs])
          refine ⟨τ', ?_, u2, u3, (g5.trans (Ch.sL1 (Or.inl (by simp [FDf])))).trans u4⟩
          have hb1 : b2 (fdC row k w st h kd_ sg mt a s0 (c + 1)).1 = 1 := by rw [hs]; rfl
          rw [hb1, ← hy] at u1
          exact u1
        by_cases c8 : h = 8
        · rw [if_pos c8, j1, if_pos q1, n1, g1]
          exact fin _ (by rw [hs]; dsimp only; rw [if_pos c8])
        · rw [if_neg c8, t2 x hh]
          exact fin _ (by rw [hs]; dsimp only; rw [if_neg c8])
    by_cases d0 : row (cA a c) = h
    · rw [if_pos d0]
      by_cases c8 : h = 8
      · rw [if_pos c8]; exact yes (by unfold itsB; exact decide_eq_true ⟨d0, Or.inl c8⟩)
      · rw [if_neg c8]
        by_cases d1 : row (cA a c + 1) = kd_
        · rw [if_pos d1]
          by_cases d2 : row (cA a c + 2) = sg
          · rw [if_pos d2]
            by_cases d3 : row (cA a c + 3) = mt
            · rw [if_pos d3]; exact yes (by unfold itsB; exact decide_eq_true ⟨d0, Or.inr ⟨d1, d2, d3⟩⟩)
            · rw [if_neg d3]; exact no (by unfold itsB; exact decide_eq_false (fun q => q.2.elim c8 (fun z => d3 z.2.2)))
          · rw [if_neg d2]; exact no (by unfold itsB; exact decide_eq_false (fun q => q.2.elim c8 (fun z => d2 z.2.1)))
        · rw [if_neg d1]; exact no (by unfold itsB; exact decide_eq_false (fun q => q.2.elim c8 (fun z => d1 z.1)))
    · rw [if_neg d0]; exact no (by unfold itsB; exact decide_eq_false (fun q => d0 q.1))
theorem find_out {row st : Nat → Int32} {k w h kd_ sg mt : Int32} {g : Nat} (hV : AV row) (hw : w ≠ -1) : ∀ (j a : Nat) (σ : AH), a + j = nA row → gI σ 125 = row → gI σ 136 = st → gI σ 124 23 = k → FI row k σ → gL σ 124 32 = (fdA row k w st h kd_ sg mt a).2.2 →
    ∃ τ, F_X12_find_14 (j + 1 + g) h kd_ sg mt w (b2 (fdA row k w st h kd_ sg mt a).1) (fdA row k w st h kd_ sg mt a).2.1 (nI a) σ = some (b2 (fd row k w st h kd_ sg mt).1, τ) ∧ gL τ 124 31 = (fd row k w st h kd_ sg mt).2.1 ∧ gL τ 124 32 = (fd row k w st h kd_ sg mt).2.2 ∧ FI row k τ ∧ Ch FDc FDf σ τ := by
  have hn := hV.2.1
  intro j
  induction j with
  | zero =>
    intro a σ ha hr hst hk hf hall
    have e : F_X12_find_14 (0 + 1 + g) = B_X12_find_14 (F_X12_find_14 g) := by rw [Nat.zero_add, Nat.add_comm]; rfl
    have : a = nA row := by omega
    subst this
    rw [e]; unfold B_X12_find_14
    rw [hr, hV.1, if_pos (nI_le (Nat.le_refl _) (by omega)), if_pos (by unfold b2; exact b01')]
    exact ⟨_, rfl, by rw [gL_sL_at]; rfl, by rw [gL_sL_ne (by decide)]; exact hall, hf, Ch.sL1 (Or.inl (by simp [FDf]))⟩
  | succ j ih =>
    intro a σ ha hr hst hk hf hall
    have e : F_X12_find_14 (j + 1 + 1 + g) = B_X12_find_14 (F_X12_find_14 (j + 1 + g)) := by rw [show j + 1 + 1 + g = (j + 1 + g) + 1 by omega]; rfl
    rw [e]; unfold B_X12_find_14
    rw [hr, hV.1, if_neg (nI_ge (by omega) (by omega))]
    have hc16 := (hV.2.2 a (by omega)).2.1
    obtain ⟨g2, hg2⟩ := BIGe (clN row a) (by omega)
    obtain ⟨τ, t1, t2, t3, t4⟩ := find_in (st := st) (k := k) (w := w) (h := h) (kd_ := kd_) (sg := sg) (mt := mt) (g := g2) (s0 := fdA row k w st h kd_ sg mt a) (K := F_X12_find_14 (j + 1 + g)) hV hw (a := a) (by omega) (clN row a) 0 σ (by omega) hr hst hk hf hall
    have e3 : fdC row k w st h kd_ sg mt a (fdA row k w st h kd_ sg mt a) 0 = fdA row k w st h kd_ sg mt a := rfl
    have e4 : fdC row k w st h kd_ sg mt a (fdA row k w st h kd_ sg mt a) (clN row a) = fdA row k w st h kd_ sg mt (a + 1) := rfl
    rw [e3, e4] at t1
    rw [e4] at t2
    rw [hg2, show (0 : Int32) = nI 0 from rfl, t1]
    obtain ⟨τ2, u1, u2, u3, u4, u5⟩ := ih (a + 1) τ (by omega) (by rw [← hr]; exact t4.rI (by simp [FDc]) (by simp [FDf])) (by rw [← hst]; exact t4.rI (by simp [FDc]) (by simp [FDf])) (by rw [← hk]; exact t4.pI (by simp [FDc]) (by simp [FDf])) t3 t2
    exact ⟨τ2, u1, u2, u3, u4, t4.trans u5⟩
/-- find of the reference -/
theorem F_find {row st : Nat → Int32} {k w h kd_ sg mt : Int32} {σ : AH} (hV : AV row) (hw : w ≠ -1) (hr : gI σ 125 = row) (hst : gI σ 136 = st) (hk : gI σ 124 23 = k) (hf : FI row k σ) :
    ∃ τ, F_X12_find h kd_ sg mt w σ = some (b2 (fd row k w st h kd_ sg mt).1, τ) ∧ gL τ 124 31 = (fd row k w st h kd_ sg mt).2.1 ∧ gL τ 124 32 = (fd row k w st h kd_ sg mt).2.2 ∧ FI row k τ ∧ Ch FDc FDf σ τ := by
  unfold F_X12_find
  obtain ⟨g, hg⟩ := BIGe (nA row) (by have := hV.2.1; omega)
  obtain ⟨τ, t1, t2, t3, t4, t5⟩ := find_out (st := st) (k := k) (w := w) (h := h) (kd_ := kd_) (sg := sg) (mt := mt) (g := g) hV hw (nA row) 0 (sL σ 124 32 0) (by omega) hr hst hk hf (by rw [gL_sL_at]; rfl)
  rw [hg]
  exact ⟨τ, t1, t2, t3, t4, (Ch.sL1 (Or.inl (by simp [FDf]))).trans t5⟩
end
