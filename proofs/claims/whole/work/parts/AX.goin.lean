section
/-! somebody goes in, in the class -/
theorem TbG.congr {σ : AH} {t wd mst n : Nat} {C C' : Nat → Nat → Int32} (h : TbG σ t wd mst n C) (e : ∀ s j, s < n → j < wd → C' s j = C s j) : TbG σ t wd mst n C' := by
  obtain ⟨a, b, c, L, d1, d2, d3, d4, d5⟩ := h
  exact ⟨a, b, c, L, d1, d2, d3, d4, fun s j hs hj => by rw [e s j hs hj]; exact d5 s j hs hj⟩
theorem empty_loop {n g : Nat} {C : Nat → Nat → Int32} {σ : AH} (hY : TbY σ n C) : ∀ (j s : Nat), s + j = n → F_X2_emptyStay_2 (j + 1 + g) (nI s) σ = match fsF (fun s => decide (C s 2 = C s 5)) j s with | some x => some (nI x, σ) | none => F_X8_add 17 σ := by
  have hn : n ≤ 7830 := hY.2.1.2.2.2
  intro j
  induction j with
  | zero =>
    intro s hs
    rw [show 0 + 1 + g = g + 1 by omega]
    show B_X2_emptyStay_2 (F_X2_emptyStay_2 g) (nI s) σ = F_X8_add 17 σ
    unfold B_X2_emptyStay_2
    rw [F_rowsG hY, bd_some, if_pos (nI_le (by omega) (by omega))]
    cases F_X8_add 17 σ with
    | none => rfl
    | some r => rfl
  | succ j ih =>
    intro s hs
    rw [show j + 1 + 1 + g = (j + 1 + g) + 1 by omega]
    show B_X2_emptyStay_2 (F_X2_emptyStay_2 (j + 1 + g)) (nI s) σ = _
    unfold B_X2_emptyStay_2
    have lt : s < n := by omega
    have a2 : F_X8_at 17 (nI s) (2 : Int32) σ = some (C s 2, σ) := F_atG (c := 2) hY lt (by decide) (by decide)
    have a5 : F_X8_at 17 (nI s) (5 : Int32) σ = some (C s 5, σ) := F_atG (c := 5) hY lt (by decide) (by decide)
    rw [F_rowsG hY, bd_some, if_neg (nI_ge lt (by omega)), a2, bd_some, a5, bd_some, nI_1, ih (s + 1) (by omega)]
    have st : fsF (fun s => decide (C s 2 = C s 5)) (j + 1) s = if decide (C s 2 = C s 5) = true then some s else fsF (fun s => decide (C s 2 = C s 5)) j (s + 1) := rfl
    rw [st]
    by_cases c : C s 2 = C s 5
    · rw [if_pos c, if_pos (decide_eq_true c)]
    · rw [if_neg c, if_neg (show ¬ decide (C s 2 = C s 5) = true by rw [decide_eq_true_iff]; exact c)]
/-- a stay that is empty, or a new one -/
theorem F_emptyStay {n : Nat} {C : Nat → Nat → Int32} {σ : AH} (hY : TbY σ n C) (hx : 166 ≤ nx σ) (hf : (∀ s, s < n → C s 2 ≠ C s 5) → n < 7830) : ∃ τ s n' C', F_X2_emptyStay σ = some (nI s, τ) ∧ TbY τ n' C' ∧ s < n' ∧ n ≤ n' ∧ n' ≤ n + 1 ∧ (∀ t j, t < n → j < 7 → C' t j = C t j) ∧ (∀ t, t < n' → t ≠ s → t < n) ∧ (s < n → C s 2 = C s 5) ∧ ChX 17 [] [(17, 3)] σ τ := by
  have hn : n ≤ 7830 := hY.2.1.2.2.2
  unfold F_X2_emptyStay
  obtain ⟨g, hg⟩ := BIGe n (by omega)
  have lp := empty_loop (g := g) hY n 0 (by omega)
  have z0 : (0 : Int32) = nI 0 := rfl
  rw [hg, z0, lp]
  cases e : fsF (fun s => decide (C s 2 = C s 5)) n 0 with
  | some s =>
    obtain ⟨_, h2, h3, _⟩ := fsF_some _ _ s e
    exact ⟨σ, s, n, C, rfl, hY, by omega, Nat.le_refl _, by omega, fun _ _ _ _ => rfl, fun t ht _ => ht, fun _ => of_decide_eq_true h3, Ch.x (Ch.rf _)⟩
  | none =>
    have no := fsF_none _ _ e
    have n1 : n < 7830 := hf (fun s hs => of_decide_eq_false (no s (Nat.zero_le s) (by omega)))
    obtain ⟨τ, C', t1, t2, t3, t4⟩ := F_addG hY n1 (by decide) hx (by decide) (by decide) (by decide) (by decide)
    exact ⟨τ, n, n + 1, C', t1, t2, by omega, by omega, Nat.le_refl _, t3, fun t ht hne => by omega, fun z => absurd z (Nat.lt_irrefl _), t4⟩
theorem F_putY {σ : AH} {n s c b : Nat} {v : Int32} {C : Nat → Nat → Int32} (hY : TbY σ n C) (hs : s < n) (hc : c < 7) (hb : gR σ 17 2 = some b) : ∃ τ, F_X8_put 17 (nI s) (nI c) v σ = some τ ∧ TbY τ n (upC C s c v) ∧ gR τ 17 2 = some b ∧ Ch [b] [] σ τ := by
  obtain ⟨b', g1, g2, g3, g4⟩ := F_putG (r := s) (c := c) (v := v) hY hs hc (by decide) (by decide) (by decide)
  have e : b' = b := by rw [hb] at g1; cases g1; rfl
  subst e
  exact ⟨_, g3, g4, hb, Ch.sI1 (Or.inr (by simp))⟩
def gi7 (a0 a1 a2 a3 a4 a6 : Int32) : Nat → Int32 := fun j => if j = 0 then a0 else if j = 1 then a1 else if j = 2 then a2 else if j = 3 then a3 else if j = 4 then a4 else if j = 5 then 2000000000 else a6
theorem F_goIn {σ : AH} {n p : Nat} {x1 x3 x4 x5 : Int32} {C : Nat → Nat → Int32} (hY : TbY σ n C) (hx : 166 ≤ nx σ) (hf : (∀ s, s < n → C s 2 ≠ C s 5) → n < 7830) (hp : p < 30) : ∃ τ s n' b0 b1, F_X2_goIn x1 (nI p) x3 x4 x5 σ = some τ ∧ TbY τ n' (fun t j => if t = s then gi7 (nI p) x1 x3 x4 (gI σ 120 p) x5 j else C t j) ∧ s < n' ∧ n ≤ n' ∧ n' ≤ n + 1 ∧ (∀ t, t < n' → t ≠ s → t < n) ∧ (s < n → C s 2 = C s 5) ∧ gI τ 121 p = nI s ∧ gR σ 17 2 = some b0 ∧ gR τ 17 2 = some b1 ∧ ChX 17 [b0] [(17, 3), (121, p)] σ τ := by
  have rb : ∀ {s : AH} {m : Nat} {D : Nat → Nat → Int32}, TbY s m D → ∃ b, gR s 17 2 = some b ∧ (b = 18 ∨ 166 ≤ b) := fun h => by
    obtain ⟨_, _, b, _, d1, _, _, d4, _⟩ := h
    exact ⟨b, d1, d4⟩
  obtain ⟨b0, hb0, hb0'⟩ := rb hY
  obtain ⟨τ1, s, n', C1, t1, Y1, sn, nn, nn', co, ot, em, x1'⟩ := F_emptyStay hY hx hf
  obtain ⟨b, hb, hb'⟩ := rb Y1
  unfold F_X2_goIn
  rw [t1, bd_some]
  obtain ⟨s1, p1, P1, r1, k1⟩ := F_putY (c := 0) (v := nI p) Y1 sn (by decide) hb
  obtain ⟨s2, p2, P2, r2, k2⟩ := F_putY (c := 1) (v := x1) P1 sn (by decide) r1
  obtain ⟨s3, p3, P3, r3, k3⟩ := F_putY (c := 2) (v := x3) P2 sn (by decide) r2
  obtain ⟨s4, p4, P4, r4, k4⟩ := F_putY (c := 3) (v := x4) P3 sn (by decide) r3
  have g120 : gI s4 120 p = gI σ 120 p := by
    have : ∀ {u v : AH}, Ch [b] [] u v → gI v 120 = gI u 120 := fun h => h.rI (by simp; omega) (by simp)
    rw [this k4, this k3, this k2, this k1]
    exact (x1'.2.2.2.2.1 120 (by omega) (by simp) p (by simp)).1
  obtain ⟨s5, p5, P5, r5, k5⟩ := F_putY (c := 4) (v := gI σ 120 p) P4 sn (by decide) r4
  obtain ⟨s6, p6, P6, r6, k6⟩ := F_putY (c := 5) (v := 2000000000) P5 sn (by decide) r5
  obtain ⟨s7, p7, P7, r7, k7⟩ := F_putY (c := 6) (v := x5) P6 sn (by decide) r6
  have p1' : F_X8_put 17 (nI s) (0 : Int32) (nI p) τ1 = some s1 := p1
  have p2' : F_X8_put 17 (nI s) (1 : Int32) x1 s1 = some s2 := p2
  have p3' : F_X8_put 17 (nI s) (2 : Int32) x3 s2 = some s3 := p3
  have p4' : F_X8_put 17 (nI s) (3 : Int32) x4 s3 = some s4 := p4
  have p5' : F_X8_put 17 (nI s) (4 : Int32) (gI σ 120 p) s4 = some s5 := p5
  have p6' : F_X8_put 17 (nI s) (5 : Int32) (2000000000 : Int32) s5 = some s6 := p6
  have p7' : F_X8_put 17 (nI s) (6 : Int32) x5 s6 = some s7 := p7
  rw [p1', bv_some, p2', bv_some, p3', bv_some, p4', bv_some, if_pos (inB_n hp (by omega)), nI_clamp (by omega), g120, p5', bv_some, p6', bv_some, p7', bv_some, if_pos (inB_n hp (by omega))]
  have c8 : Ch [] [(121, p)] s7 (sI s7 121 p (nI s)) := Ch.sI1 (Or.inl (by simp))
  refine ⟨_, s, n', b0, b, rfl, ?_, sn, nn, nn', ot, em, gI_sI_at, hb0, r7, ?_⟩
  · refine TbG.congr (TbG.ch P7 c8 (by simp) (by simp)) (fun t j ht hj => ?_)
    by_cases e : t = s
    · rw [if_pos e, e]
      unfold upC gi7
      have : j = 0 ∨ j = 1 ∨ j = 2 ∨ j = 3 ∨ j = 4 ∨ j = 5 ∨ j = 6 := by omega
      rcases this with rfl | rfl | rfl | rfl | rfl | rfl | rfl <;> simp
    · rw [if_neg e, upC_no e, upC_no e, upC_no e, upC_no e, upC_no e, upC_no e, upC_no e]
      exact (co t j (ot t ht e) hj).symm
  · have all : Ch [b] [(121, p)] τ1 (sI s7 121 p (nI s)) := (((((((k1.trans k2).trans k3).trans k4).trans k5).trans k6).trans k7).mono (by simp) (by simp)).trans (c8.mono (by simp) (by simp))
    -- an array that is new counts for nothing ahead of it
    obtain ⟨y1, y2, y3, y4, y5, y6⟩ := x1'
    refine ⟨by rw [all.2.1]; exact y1, fun i hi => by rw [all.1]; exact y2 i hi, fun o k ho hk => by rw [all.2.2.2.1]; exact y3 o k ho hk, by rw [all.2.2.2.1, all.2.1]; exact y4, fun i hi hc k hk => ?_, y6.trans (GwR.same all.1 all.2.1 all.2.2.1 (by rw [all.2.2.2.1]))⟩
    have ib : i ≠ b := fun z => by
      rcases y4 with q | ⟨b', q1, q2, q3⟩
      · rw [hb, hb0] at q; cases q; exact hc (by simp [z])
      · rw [hb] at q1; cases q1; omega
    have u1 := all.2.2.2.2 i (by simp; exact ib) k (fun z => hk (by simp at z ⊢; exact Or.inr z))
    have u2 := y5 i hi (by simp) k (fun z => hk (by simp at z ⊢; exact Or.inl z))
    exact ⟨by rw [u1.1, u2.1], by rw [u1.2, u2.2]⟩
end
