section
/-! somebody leaves, in the class -/
theorem leave_none {w : Int32} {σ : AH} : F_X2_leave (-1 : Int32) w σ = some σ := by
  unfold F_X2_leave; rw [if_pos rfl]
theorem F_leave {n p s b w : Nat} {C : Nat → Nat → Int32} {σ : AH} (hY : TbY σ n C) (hp : p < 30) (h121 : gI σ 121 p = nI s) (hs : s < n) (hb : gR σ 17 2 = some b) : ∃ τ, F_X2_leave (nI p) (nI w) σ = some τ ∧ TbY τ n (upC C s 5 (nI w)) ∧ gI τ 121 = va_up (gI σ 121) p (-1) ∧ gR τ 17 2 = some b ∧ Ch [b] [(121, p)] σ τ := by
  have hb' : b = 18 ∨ 166 ≤ b := by
    obtain ⟨_, _, b', _, d1, _, _, d4, _⟩ := id hY
    rw [hb] at d1; cases d1; exact d4
  unfold F_X2_leave
  obtain ⟨τ, t1, t2, t3, t4⟩ := F_putY (c := 5) (v := nI w) hY hs (by decide) hb
  have t1' : F_X8_put 17 (nI s) (5 : Int32) (nI w) σ = some τ := t1
  rw [if_neg (nI_neg1 (by omega)), if_pos (inB_n hp (by omega)), nI_clamp (by omega), h121, t1', bv_some, if_pos (inB_n hp (by omega))]
  have c2 : Ch [] [(121, p)] τ (sI τ 121 p (-1)) := Ch.sI1 (Or.inl (by simp))
  refine ⟨_, rfl, TbG.ch t2 c2 (by simp) (by simp), ?_, t3, (t4.mono (by simp) (by simp)).trans (c2.mono (by simp) (by simp))⟩
  rw [gI_sI_own, t4.rI (by simp; omega) (by simp)]
/-- what looking round found stays right behind a leaving -/
theorem LkI.leave {row : Nat → Int32} {N n W w p s : Nat} {C : Nat → Nat → Int32} {k : Int32} {oc : Nat → Nat → Option (Nat × Nat × Bool × Nat)} {σ τ : AH} (h : LkI row n C k w N σ) (hR : RpC N n C oc) (hF : FrC n C W) (hN : N ≤ 30) (hW : W ≤ w) (hw : w < 260) (hp : p < N) (hs : s < n) (hsp : C s 0 = nI p) (hc : cvB C s w = true) (h120 : gI τ 120 = gI σ 120) (h121 : gI τ 121 = va_up (gI σ 121) p (-1)) : LkI row n (upC C s 5 (nI w)) k w N τ := fun q hq => by
  obtain ⟨L1, _⟩ := hR.leave hF hN hW hw hp hs hsp hc
  rw [h120, h121]
  refine ⟨(h q hq).1, ?_⟩
  by_cases e : q = p
  · rw [e, up_same]
    rcases stayIn_oc L1 hp hw with ⟨_, z2⟩ | ⟨t, t1, t2, t3, _⟩
    · rw [z2, show oI none = -1 from rfl]
    · have : ocL oc p w p w = none := by unfold ocL; rw [if_pos ⟨rfl, Nat.le_refl _⟩]
      rw [this] at t3; cases t3
  · rw [up_ne _ _ _ e, (h q hq).2]
    have : ∀ t, inB_ C q w t = inB_ (upC C s 5 (nI w)) q w t := fun t => by
      unfold inB_
      rw [upC_ne (by decide)]
      by_cases z : t = s
      · rw [z, hsp, decide_eq_false (fun y => e ((nI_eq (by omega) (by omega)).mp y).symm), Bool.false_and, Bool.false_and]
      · unfold cvB; rw [upC_no z, upC_no z, upC_no z]
    rw [show inB_ C q w = inB_ (upC C s 5 (nI w)) q w from funext this]
end
