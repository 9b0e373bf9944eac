section
/-! out of the class -/
theorem mul_inj {wd s j r c : Nat} (hj : j < wd) (hc : c < wd) (e : s * wd + j = r * wd + c) : s = r ∧ j = c := by
  rcases Nat.lt_trichotomy s r with l | l | l
  · have : (s + 1) * wd ≤ r * wd := Nat.mul_le_mul_right wd l
    have e2 : (s + 1) * wd = s * wd + wd := Nat.succ_mul s wd
    omega
  · subst l; exact ⟨rfl, by omega⟩
  · have : (r + 1) * wd ≤ s * wd := Nat.mul_le_mul_right wd l
    have e2 : (r + 1) * wd = r * wd + wd := Nat.succ_mul r wd
    omega
theorem F_putG {σ : AH} {t wd mst n r c : Nat} {v : Int32} {C : Nat → Nat → Int32} (h : TbG σ t wd mst n C) (hr : r < n) (hc : c < wd) (hm : mst * wd < 2 ^ 30) (ht : t < 166) (ha : alB m_X8_put (t + 1) = true) : ∃ b, gR σ t 2 = some b ∧ (b = t + 1 ∨ 166 ≤ b) ∧ F_X8_put t (nI r) (nI c) v σ = some (sI σ b (r * wd + c) v) ∧ TbG (sI σ b (r * wd + c) v) t wd mst n (upC C r c v) := by
  obtain ⟨⟨a1, a2⟩, ⟨b1, b2', b3, b4⟩, b, L, c1, ⟨c2, c3⟩, ⟨c4, c5⟩, c6, c7⟩ := h
  have i1 : nI r * nI wd + nI c = nI (r * wd + c) := by rw [pk_mul, nI_add]
  have lt1 : r * wd + c < n * wd := by
    have : (r + 1) * wd ≤ n * wd := Nat.mul_le_mul_right wd hr
    have e : (r + 1) * wd = r * wd + wd := Nat.succ_mul r wd
    omega
  have hb : alB m_X8_put b = true := by
    rcases c6 with z | z
    · rw [z]; exact ha
    · unfold alB m_X8_put
      rw [Bool.or_eq_true]; right
      show (true && decide (166 ≤ b)) = true
      rw [decide_eq_true z]; rfl
  have nb : t ≠ b := by omega
  refine ⟨b, c1, c6, ?_, ⟨a1, a2⟩, ⟨?_, ?_, ?_, b4⟩, b, L, c1, ⟨c2, c3⟩, ⟨c4, c5⟩, c6, fun s j hs hj => ?_⟩
  · unfold F_X8_put
    rw [if_pos a1, if_pos a2, b1, i1, if_neg (nI_pos (by omega)), c1, bo_some, if_pos ⟨by rw [c2], c3⟩, c2]
    rw [show Int32.ofNat (100, L).2 = nI L from rfl, if_neg (nI_ge (by omega) (by omega)), bo_some, if_pos ⟨by rw [c2], c3⟩]
    rw [if_pos hb, c2, if_pos (inB_n (show r * wd + c < (100, L).2 by show r * wd + c < L; omega) (by show L < 2 ^ 31; omega)), nI_clamp (by omega)]
  · rw [gI_sI_row nb]; exact b1
  · rw [gI_sI_row nb]; exact b2'
  · rw [gI_sI_row nb]; exact b3
  · rw [gI_sI_own]
    unfold upC
    by_cases e : s = r ∧ j = c
    · rw [if_pos e, e.1, e.2, up_same]
    · rw [if_neg e, up_ne _ _ _ (fun z => e (mul_inj hj hc z))]; exact c7 s j hs hj
theorem F_isMoveWeek {W : Nat} {x : Int32} {σ : AH} (hw : gI σ 1 15 = nI W) : F_X11_isMoveWeek x σ = some (b2 (rgB 0 259 x && decide (nI W ≤ x)), σ) := by
  unfold F_X11_isMoveWeek
  rw [F_isWeekC, bd_b (α := Int32), hw]
  by_cases c : rgB 0 259 x = true
  · rw [if_pos c, c, Bool.true_and]
    by_cases d : x < nI W
    · rw [if_pos d, decide_eq_false (Int32.not_le.mpr d)]; rfl
    · rw [if_neg d, decide_eq_true (Int32.not_lt.mp d)]; rfl
  · have c' : rgB 0 259 x = false := by simpa using c
    rw [if_neg c, c', Bool.false_and]; rfl
/-- the class's stays tell who is where, and none began after the last WEEK told -/
def SkI (row : Nat → Int32) (oc : Nat → Nat → Option (Nat × Nat × Bool × Nat)) (W n : Nat) (C : Nat → Nat → Int32) (σ : AH) : Prop := TbY σ n C ∧ CyV (nP row) (nE row) n C ∧ RpC (nP row) n C oc ∧ FrC n C W ∧ gI σ 1 15 = nI W ∧ W < 260
theorem C_out {row : Nat → Int32} {oc : Nat → Nat → Option (Nat × Nat × Bool × Nat)} {W n : Nat} {C : Nat → Nat → Int32} {x1 x2 : Int32} {σ : AH} (hB : BV row) (hT : TbB row σ) (hS : SkI row oc W n C σ) : ∃ τ C' b, F_X11_out x1 x2 σ = some (outV row oc W x1 x2, τ) ∧ SkI row (outO row oc W x1 x2) (outW row oc W x1 x2) n C' τ ∧ gI τ 0 10 = ftV (outV row oc W x1 x2) ∧ gR σ 17 2 = some b ∧ Ch [b] [(0, 10), (1, 15)] σ τ := by
  obtain ⟨hY, hV, hR, hF, h15, hW⟩ := hS
  have b30 := hB.p.2.1
  have hn : n ≤ 7830 := hY.2.1.2.2.2
  have bad : ∀ v : Int32, v ≠ 0 → outV row oc W x1 x2 = v → ∃ τ C' b, (bd (F_X11_answer v σ) fun v25 σ21 => some (v25, σ21)) = some (outV row oc W x1 x2, τ) ∧ SkI row (outO row oc W x1 x2) (outW row oc W x1 x2) n C' τ ∧ gI τ 0 10 = ftV (outV row oc W x1 x2) ∧ gR σ 17 2 = some b ∧ Ch [b] [(0, 10), (1, 15)] σ τ := fun v hv e => by
    obtain ⟨_, _, b, L, c1, _⟩ := id hY
    unfold outO outW
    rw [e, if_neg hv, if_neg hv, answer_e, bd_some]
    have k : Ch [] [(0, 10)] σ (sI σ 0 10 (ftV v)) := Ch.sI1 (Or.inl (by simp))
    exact ⟨_, C, b, rfl, ⟨TbG.ch hY k (by simp) (by simp), hV, hR, hF, by rw [gI_sI_row (by decide)]; exact h15, hW⟩, gI_sI_at, c1, k.mono (by simp) (by simp)⟩
  unfold F_X11_out F_X11_out_56
  rw [F_isMoveWeek h15, bd_some, F_isPlotC hB hT, bd_b (α := Int32)]
  by_cases c1 : rgB 0 259 x2 = true
  · rw [c1, Bool.true_and]
    by_cases c2 : nI W ≤ x2
    · rw [decide_eq_true c2, if_neg (show ¬ b2 true = 0 by decide)]
      by_cases c3 : ltB (nP row) x1 = true
      · rw [if_pos c3]
        obtain ⟨e1, b1⟩ := ltB_n c3 (by omega)
        obtain ⟨e2, b2'⟩ := rg0_n (b := 259) c1 (by decide)
        have vv : outV row oc W x1 x2 = if sqO (oc (cl x1) (cl x2)) = true then 0 else -3 := by unfold outV; rw [if_pos c1, if_pos c2, if_pos c3]
        have lw : W ≤ cl x2 := by
          rw [e2, Int32.le_iff_toInt_le, nI_toInt (by omega), nI_toInt (by omega)] at c2; omega
        have si : F_X2_stayIn x1 x2 σ = some (oI (fsF (inB_ C (cl x1) (cl x2)) n 0), σ) := by
          have := F_stayIn (p := cl x1) (w := cl x2) hY
          rw [← e1, ← e2] at this; exact this
        rw [si, bd_some]
        rcases stayIn_oc hR b1 (show cl x2 < 260 by omega) with ⟨z1, z2⟩ | ⟨s, s1, s2, s3, s4, s5⟩
        · rw [z2, show oI none = -1 from rfl, if_pos rfl]
          exact bad (-3) (by decide) (by rw [vv, z1]; rfl)
        · have il : F_X2_isLived (nI s) x2 σ = some (b2 (decide (C s 3 ≤ nI (cl x2))), σ) := by
            have := F_isLived (w := cl x2) hY s1
            rw [← e2] at this ⊢; exact this
          rw [s2, show oI (some s) = nI s from rfl, if_neg (nI_neg1 (by omega)), il, bd_some]
          have sq : sqO (oc (cl x1) (cl x2)) = !decide (C s 3 ≤ nI (cl x2)) := by rw [s3]; rfl
          rw [sq] at vv
          cases hd : decide (C s 3 ≤ nI (cl x2)) with
          | true =>
            rw [hd] at vv
            rw [if_neg (show ¬ b2 true = 0 by decide)]
            exact bad (-3) (by decide) (by rw [vv]; rfl)
          | false =>
            rw [hd] at vv
            have vv' : outV row oc W x1 x2 = 0 := vv
            rw [if_pos (show b2 false = 0 from rfl)]
            obtain ⟨b, g1, g2, g3, g4⟩ := F_putG (r := s) (c := 5) (v := x2) hY s1 (by decide) (by decide) (by decide) (by decide)
            have g3' : F_X8_put 17 (nI s) (5 : Int32) x2 σ = some (sI σ b (s * 7 + 5) x2) := g3
            rw [g3', bv_some, answer_e, bd_some]
            unfold outO outW
            rw [vv', if_pos rfl, if_pos rfl]
            obtain ⟨L1, L2⟩ := hR.leave hF b30 lw (show cl x2 < 260 by omega) b1 s1 s4 s5
            have nb : ∀ i, i < 17 → i ≠ b := fun i hi z => by omega
            have k1 : Ch [b] [(0, 10), (1, 15)] σ (sI σ b (s * 7 + 5) x2) := Ch.sI1 (Or.inr (by simp))
            have k2 : Ch [] [(0, 10), (1, 15)] (sI σ b (s * 7 + 5) x2) (sI (sI (sI σ b (s * 7 + 5) x2) 1 15 x2) 0 10 (ftV 0)) := (Ch.sI1 (Or.inl (by simp))).trans (Ch.sI1 (Or.inl (by simp)))
            refine ⟨_, upC C s 5 x2, b, rfl, ⟨TbG.ch g4 k2 (by simp) (by simp), fun t ht => ?_, ?_, ?_, ?_, by omega⟩, gI_sI_at, g1, k1.trans (k2.mono (by simp) (fun q hq => Or.inl hq))⟩
            · rw [upC_ne (by decide), upC_ne (by decide), upC_ne (by decide), upC_ne (by decide)]
              exact hV t ht
            · rw [← e2] at L1; exact L1
            · rw [← e2] at L2; exact L2
            · rw [gI_sI_row (by decide), gI_sI_at]; exact e2
      · rw [if_neg c3]
        exact bad (-2) (by decide) (by unfold outV; rw [if_pos c1, if_pos c2, if_neg c3])
    · rw [decide_eq_false c2, if_pos (show b2 false = 0 from rfl)]
      exact bad (-1) (by decide) (by unfold outV; rw [if_pos c1, if_neg c2])
  · have c1' : rgB 0 259 x2 = false := by simpa using c1
    rw [c1', Bool.false_and, if_pos (show b2 false = 0 from rfl)]
    exact bad (-1) (by decide) (by unfold outV; rw [if_neg c1])
end
