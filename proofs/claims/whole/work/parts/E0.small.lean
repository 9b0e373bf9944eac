section
/-! tape, WISHES, BEST -/
theorem LbI.ch {σ τ : AH} {cs : List Nat} {fs : List (Nat × Nat)} (a : LbI σ) (c : Ch cs fs σ τ) (h1 : ∀ i ∈ cs, i ≠ 68 ∧ i ≠ 82 ∧ i ≠ 124 ∧ i ≠ 153) (h2 : ∀ q ∈ fs, q ≠ (68, 11) ∧ q ≠ (68, 13) ∧ q.1 ≠ 82 ∧ q.1 ≠ 153 ∧ q ≠ (124, 50) ∧ q ≠ (124, 51) ∧ q ≠ (124, 53)) : LbI τ := by
  have p : ∀ i k, (i = 68 ∨ i = 124) → (i, k) ∉ fs → gI τ i k = gI σ i k := fun i k hi hk => c.pI (fun q => by have := h1 _ q; omega) hk
  have e82 : gI τ 82 = gI σ 82 := c.rI (fun q => by have := h1 _ q; omega) (fun q hq => (h2 q hq).2.2.1)
  have e153 : gI τ 153 = gI σ 153 := c.rI (fun q => by have := h1 _ q; omega) (fun q hq => (h2 q hq).2.2.2.1)
  unfold LbI BsR BsC at a ⊢
  rw [p 124 50 (by simp) (fun q => (h2 _ q).2.2.2.2.1 rfl), p 124 51 (by simp) (fun q => (h2 _ q).2.2.2.2.2.1 rfl), p 124 53 (by simp) (fun q => (h2 _ q).2.2.2.2.2.2 rfl), p 68 11 (by simp) (fun q => (h2 _ q).1 rfl), p 68 13 (by simp) (fun q => (h2 _ q).2.1 rfl), e82, e153]
  exact a
theorem CIn.set {m n nw L nw' L' : Nat} {O : Nat → Nat} {row tp tp' : Nat → Int32} {C : Nat → Nat → Int32} {wi wi' : Nat → Nat} {σ τ : AH} {cs : List Nat} {fs : List (Nat × Nat)} (h : CIn m O row n C nw wi L tp σ) (hA : nA row ≤ 24) (c : Ch cs fs σ τ) (h1 : ∀ i ∈ cs, (20 < i ∧ i < 28) ∨ i = 69 ∨ (123 < i ∧ i < 166)) (h2 : ∀ q ∈ fs, (20 < q.1 ∧ q.1 < 28) ∨ q.1 = 69 ∨ q = (68, 3) ∨ q = (0, 10) ∨ q = (0, 11) ∨ (123 < q.1 ∧ q.1 < 166)) (hw : CwI nw' wi' τ) (hp : TpC L' tp' τ) : CIn m O row n C nw' wi' L' tp' τ := by
  obtain ⟨t, k, w, p, cn⟩ := h
  have g2 : ∀ q ∈ fs, q.1 < 166 ∧ (q.1 < 1 ∨ 20 < q.1) ∧ q ≠ (1, 1) ∧ q ≠ (0, 12) ∧ q ≠ (0, 13) ∧ q ≠ (68, 6) ∧ q ≠ (68, 7) ∧ (q.1 < 28 ∨ (67 < q.1 ∧ (q.1 < 70 ∨ 79 < q.1) ∧ q.1 ≠ 113 ∧ q.1 ≠ 114)) := fun q hq => by
    rcases h2 q hq with z | z | z | z | z | z
    · exact ⟨by omega, by omega, fun e => by rw [e] at z; omega, fun e => by rw [e] at z; omega, fun e => by rw [e] at z; omega, fun e => by rw [e] at z; omega, fun e => by rw [e] at z; omega, by omega⟩
    · exact ⟨by omega, by omega, fun e => by rw [e] at z; omega, fun e => by rw [e] at z; omega, fun e => by rw [e] at z; omega, fun e => by rw [e] at z; omega, fun e => by rw [e] at z; omega, by omega⟩
    · rw [z]; decide
    · rw [z]; decide
    · rw [z]; decide
    · exact ⟨by omega, by omega, fun e => by rw [e] at z; omega, fun e => by rw [e] at z; omega, fun e => by rw [e] at z; omega, fun e => by rw [e] at z; omega, fun e => by rw [e] at z; omega, by omega⟩
  refine ⟨t.gf (P := fun i => Out1 i) hA (c.gf2 (fun i hi => ⟨by have := h1 i hi; omega, by have := h1 i hi; omega⟩) (fun q hq => ⟨(g2 q hq).1, (g2 q hq).2.1⟩)) (fun _ _ => rfl) (fun i hi => hi.no t.2.2), k.k c (fun i hi => by have := h1 i hi; omega) (fun q hq => by have := g2 q hq; exact ⟨this.1, this.2.2.1, this.2.2.2.1, this.2.2.2.2.1, this.2.2.2.2.2.1, this.2.2.2.2.2.2.1, this.2.2.2.2.2.2.2⟩), hw, hp, cn.ch c (fun q => by have := h1 _ q; omega) (fun q hq => ⟨(g2 q hq).2.2.2.1, (g2 q hq).2.2.2.2.1⟩)⟩
theorem CIn.mo {m m' n nw L : Nat} {O : Nat → Nat} {row tp : Nat → Int32} {C : Nat → Nat → Int32} {wi : Nat → Nat} {σ : AH} (h : CIn m O row n C nw wi L tp σ) (hm : m ≤ m') : CIn m' O row n C nw wi L tp σ := ⟨h.1, h.2.1, h.2.2.1, h.2.2.2.1, h.2.2.2.2.mo hm⟩
theorem S_feed {m : Nat} {x1 x2 x3 x4 x5 : Int32} {σ : AH} (h : Inv m σ) : StpI m σ (F_X11_feed x1 x2 x3 x4 x5) (F_X12_feed x1 x2 x3 x4 x5) := by
  obtain ⟨hS, hR, hX, O, row, oc, W, ns, no, mv, n, C, nw, wi, L, tp, hV, hY, hW, hC, hI, hM⟩ := h
  obtain ⟨τ, t1, t2, t3⟩ := C_feed (x1 := x1) (x2 := x2) (x3 := x3) (x4 := x4) (x5 := x5) hC.2.2.2.1
  have rI := hI.ch t3 (by decide) (by decide)
  obtain ⟨τ', u1, u2, u3⟩ := P_feed (x1 := x1) (x2 := x2) (x3 := x3) (x4 := x4) (x5 := x5) rI.2.2
  have S1 := t3.sh hS
  have c1 := hC.set hV.n24 t3 (by decide) (by decide) (hC.2.2.1.ch t3 (by decide) (by decide)) t2
  refine ⟨_, τ, τ', t1, u1, u3.sh S1, ((hR.ch t3).ch u3).mo (by omega), (hX.ch t3 (by decide) (by decide)).ch u3 (by decide) (by decide), O, row, oc, W, ns, no, mv, n, C, nw, wi, _, _, hV, hY, hW, (c1.ch hV.n24 u3 (by decide) (by decide) (c1.2.1.r u3 (by decide) (by decide))).mo (by omega), ⟨?_, ?_, u2⟩, (hM.ch hS t3 (by decide) (by decide)).ch S1 u3 (by decide) (by decide)⟩
  · rw [u3.rI (by decide) (by decide)]; exact rI.1
  · exact ⟨by rw [u3.pI (by decide) (by decide)]; exact rI.2.1.1, by rw [u3.rI (by decide) (by decide)]; exact rI.2.1.2⟩
theorem S_end {m : Nat} {x1 : Int32} {σ : AH} (h : Inv m σ) : StpI m σ (F_X11_end x1) (F_X12_end x1) := by
  obtain ⟨hS, hR, hX, O, row, oc, W, ns, no, mv, n, C, nw, wi, L, tp, hV, hY, hW, hC, hI, hM⟩ := h
  obtain ⟨τ, t1, t2, t3⟩ := C_end (x := x1) hC.2.2.2.1
  have rI := hI.ch t3 (by decide) (by decide)
  obtain ⟨τ', u1, u2, u3⟩ := P_end (x := x1) rI.2.2
  have S1 := t3.sh hS
  have c1 := hC.set hV.n24 t3 (by decide) (by decide) (hC.2.2.1.ch t3 (by decide) (by decide)) t2
  refine ⟨_, τ, τ', t1, u1, u3.sh S1, ((hR.ch t3).ch u3).mo (by omega), (hX.ch t3 (by decide) (by decide)).ch u3 (by decide) (by decide), O, row, oc, W, ns, no, mv, n, C, nw, wi, _, _, hV, hY, hW, (c1.ch hV.n24 u3 (by decide) (by decide) (c1.2.1.r u3 (by decide) (by decide))).mo (by omega), ⟨?_, ?_, u2⟩, (hM.ch hS t3 (by decide) (by decide)).ch S1 u3 (by decide) (by decide)⟩
  · rw [u3.rI (by decide) (by decide)]; exact rI.1
  · exact ⟨by rw [u3.pI (by decide) (by decide)]; exact rI.2.1.1, by rw [u3.rI (by decide) (by decide)]; exact rI.2.1.2⟩
theorem S_clear {m : Nat} {σ : AH} (h : Inv m σ) : StpI m σ F_X11_clear F_X12_clear := by
  obtain ⟨hS, hR, hX, O, row, oc, W, ns, no, mv, n, C, nw, wi, L, tp, hV, hY, hW, hC, hI, hM⟩ := h
  obtain ⟨τ, hτ⟩ : ∃ τ, τ = sI σ 68 3 0 := ⟨_, rfl⟩
  have t3 : Ch [] [(68, 3)] σ τ := by rw [hτ]; exact Ch.sI1 (Or.inl (by simp))
  obtain ⟨τ', hτ'⟩ : ∃ τ', τ' = sI (sI τ 124 0 0) 124 48 0 := ⟨_, rfl⟩
  have u3 : Ch [] [(124, 0), (124, 48)] τ τ' := by rw [hτ']; exact (Ch.sI1 (Or.inl (by simp))).trans (Ch.sI1 (Or.inl (by simp)))
  have rI := hI.ch t3 (by decide) (by decide)
  have S1 := t3.sh hS
  have c1 : CIn m O row n C 0 wi L tp τ := hC.set hV.n24 t3 (by decide) (by decide) ⟨by rw [hτ, gI_sI_at]; rfl, fun i hi => absurd hi (Nat.not_lt_zero i)⟩ (hC.2.2.2.1.ch t3 (by decide) (by decide))
  refine ⟨nI nw, τ, τ', ?_, ?_, u3.sh S1, ((hR.ch t3).ch u3).mo (by omega), (hX.ch t3 (by decide) (by decide)).ch u3 (by decide) (by decide), O, row, oc, W, ns, no, mv, n, C, 0, wi, L, tp, hV, hY, ⟨Nat.zero_le _, fun i hi => absurd hi (Nat.not_lt_zero i), fun i _ hi => absurd hi (Nat.not_lt_zero i), fun i hi => absurd hi (Nat.not_lt_zero i)⟩, (c1.ch hV.n24 u3 (by decide) (by decide) (c1.2.1.r u3 (by decide) (by decide))).mo (by omega), ⟨?_, ⟨by rw [hτ', gI_sI_at]; rfl, fun i hi => absurd hi (Nat.not_lt_zero i)⟩, rI.2.2.ch u3 (by decide) (by decide)⟩, (hM.ch hS t3 (by decide) (by decide)).ch S1 u3 (by decide) (by decide)⟩
  · unfold F_X11_clear; rw [hC.2.2.1.1, ← hτ]
  · unfold F_X12_clear; rw [gI_sI_ne (by decide), rI.2.1.1, ← hτ']
  · rw [u3.rI (by decide) (by decide)]; exact rI.1
theorem S_wish {m : Nat} {x1 : Int32} {σ : AH} (h : Inv m σ) : StpI m σ (F_X11_wish x1) (F_X12_wish x1) := by
  obtain ⟨hS, hR, hX, O, row, oc, W, ns, no, mv, n, C, nw, wi, L, tp, hV, hY, hW, hC, hI, hM⟩ := h
  have bv_ := hV.2.1
  obtain ⟨τ, t1, t2, t4, t3⟩ := C_wish (x1 := x1) bv_ hW (hC.1.2.1.tbB bv_) hC.2.2.1
  have rI := hI.ch t3 (by decide) (by decide)
  obtain ⟨τ', u1, u2, u4, u3⟩ := P_wish (x1 := x1) bv_ hW rI.1 rI.2.1
  have S1 := t3.sh hS
  have c1 := hC.set hV.n24 t3 (by decide) (by decide) t2 (hC.2.2.2.1.ch t3 (by decide) (by decide))
  refine ⟨_, τ, τ', t1, u1, u3.sh S1, ((hR.ch t3).ch u3).mo (by omega), ⟨(hX.1.ch t3 (by decide) (by decide)).ch u3 (by decide) (by decide), ?_, ?_⟩, O, row, oc, W, ns, no, mv, n, C, _, _, L, tp, hV, hY, WiV_u bv_ hW, (c1.ch hV.n24 u3 (by decide) (by decide) (c1.2.1.r u3 (by decide) (by decide))).mo (by omega), ⟨?_, u2, rI.2.2.ch u3 (by decide) (by decide)⟩, (hM.ch hS t3 (by decide) (by decide)).ch S1 u3 (by decide) (by decide)⟩
  · rw [u4, u3.pI (i := 0) (by decide) (by decide), t4]
  · rw [u3.pI (by decide) (by decide), t3.pI (by decide) (by decide), u3.pI (i := 0) (by decide) (by decide), t3.pI (i := 0) (by decide) (by decide)]; exact hX.2.2
  · rw [u3.rI (by decide) (by decide)]; exact rI.1
theorem S_best {m : Nat} {x1 : Int32} {σ : AH} (h : Inv m σ) : StpI m σ (F_X11_best x1) (F_X12_best x1) := by
  obtain ⟨hS, hR, hX, O, row, oc, W, ns, no, mv, n, C, nw, wi, L, tp, hV, hY, hW, hC, hI, hM⟩ := h
  obtain ⟨⟨av, aw_, ax⟩, bv_, _⟩ := id hV
  obtain ⟨τ, t1, t2, t4, t5, t3⟩ := C_best (x1 := x1) av aw_ bv_ hW ⟨hC.2.1.rgI (hC.1.2.1.tbB bv_), hC.2.1.2.2.2.2.1, hC.2.2.1, SaI_of hS⟩
  have rI := hI.ch t3 (by decide) (by decide)
  obtain ⟨τ', u1, u2, u4, u3⟩ := P_best (x1 := x1) av bv_ hW rI.1 rI.2.1
  have S1 := t3.sh hS
  have hc : CcI row τ := hC.2.1.ci t2 t3 (by decide) (by decide)
  have c1 : CIn m O row n C nw wi L tp τ := by
    refine ⟨hC.1.gf (P := fun i => 20 < i ∧ i < 124) hV.n24 (t3.gf2 (by decide) (by decide)) (fun _ _ => rfl) (fun i hi => Out1.no hC.1.2.2 ⟨by omega, by omega⟩), hc, t2.2.2.1, hC.2.2.2.1.ch t3 (by decide) (by decide), hC.2.2.2.2.ch t3 (by decide) (by decide)⟩
  refine ⟨_, τ, τ', t1, u1, u3.sh S1, ((hR.ch t3).ch u3).mo (by omega), ⟨?_, ?_, ?_⟩, O, row, oc, W, ns, no, mv, n, C, nw, wi, L, tp, hV, hY, hW, (c1.ch hV.n24 u3 (by decide) (by decide) (c1.2.1.r u3 (by decide) (by decide))).mo (by omega), rI.ch u3 (by decide) (by decide), (hM.ch hS t3 (by decide) (by decide)).ch S1 u3 (by decide) (by decide)⟩
  · by_cases c : rgB 0 19 x1 = true
    · obtain ⟨b1, b2', b3⟩ := t4 c
      refine Or.inr ⟨_, _, _, hW.1, u2 c, by rw [u3.pI (by decide) (by decide)]; exact b1, by rw [u3.pI (by decide) (by decide)]; exact b2', fun k hk => by rw [u3.rI (by decide) (by decide)]; exact b3 k hk⟩
    · have := t5 c
      rw [this] at u4
      exact hX.1.ch (u4 c) (by decide) (by decide)
  · rw [u3.pI (by decide) (by decide), t3.pI (by decide) (by decide), u3.pI (i := 0) (by decide) (by decide), t3.pI (i := 0) (by decide) (by decide)]; exact hX.2.1
  · rw [u3.pI (by decide) (by decide), t3.pI (by decide) (by decide), u3.pI (i := 0) (by decide) (by decide), t3.pI (i := 0) (by decide) (by decide)]; exact hX.2.2
end
