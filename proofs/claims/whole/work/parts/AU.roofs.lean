section
/-! the class looks round: roofs of families -/
theorem fam_val {row : Nat → Int32} {k : Int32} {f : Nat → Int32} (hE : EV row) (h : FmF row k f) {e : Nat} (he : e < nE row) : f e = -1 ∨ ∃ g, g < 60 ∧ f e = nI g := by
  have := hE.n.2
  obtain ⟨a, b⟩ := h.1.1 e he
  by_cases c : knE row k e
  · obtain ⟨j, j1, _, j3⟩ := b c
    exact Or.inr ⟨j, by omega, j3⟩
  · exact Or.inl (a c)
/-- what the two lists of roofs hold, of the PLOTS from j on -/
def RfI (N : Nat) (oc : Nat → Nat → Option (Nat × Nat × Bool × Nat)) (f : Nat → Int32) (w j : Nat) (σ : AH) : Prop := ∀ g, g < 60 → gI σ 122 g = oI (fsF (rfP oc f (nI g) w true) (N - j) j) ∧ gI σ 123 g = oI (fsF (rfP oc f (nI g) w false) (N - j) j)
theorem roofs_loop {row : Nat → Int32} {oc : Nat → Nat → Option (Nat × Nat × Bool × Nat)} {n w G : Nat} {C : Nat → Nat → Int32} {f : Nat → Int32} {σ : AH} (hB : BV row) (hE : EV row) (hY : TbY σ n C) (hV : CyV (nP row) (nE row) n C) (hR : RpC (nP row) n C oc) (hw : w < 260) (h121 : ∀ p, p < nP row → gI σ 121 p = oI (fsF (inB_ C p w) n 0)) (hf : ∀ e, e < nE row → gI σ 114 e = f e) (hfv : ∀ e, e < nE row → f e = -1 ∨ ∃ g, g < 60 ∧ f e = nI g) :
    ∀ (j : Nat) (s0 : AH), j ≤ nP row → Ch [122, 123] [] σ s0 → RfI (nP row) oc f w j s0 → ∃ τ, F_X2_findRoofs_29 (j + 1 + G) (nI w) (nI j - 1) s0 = some τ ∧ RfI (nP row) oc f w 0 τ ∧ Ch [122, 123] [] σ τ := by
  have b30 := hB.p.2.1
  have n60 := hE.n.2
  have hn : n ≤ 7830 := hY.2.1.2.2.2
  intro j
  induction j with
  | zero =>
    intro s0 _ ch hi
    rw [show 0 + 1 + G = G + 1 by omega]
    show ∃ τ, B_X2_findRoofs_29 (F_X2_findRoofs_29 G) (nI w) (nI 0 - 1) s0 = some τ ∧ _
    unfold B_X2_findRoofs_29
    rw [if_pos (show nI 0 - 1 < (0 : Int32) by decide)]
    exact ⟨s0, rfl, hi, ch⟩
  | succ j ih =>
    intro s0 hj ch hi
    rw [show j + 1 + 1 + G = (j + 1 + G) + 1 by omega]
    show ∃ τ, B_X2_findRoofs_29 (F_X2_findRoofs_29 (j + 1 + G)) (nI w) (nI (j + 1) - 1) s0 = some τ ∧ _
    have ej : nI (j + 1) - 1 = nI j := by rw [m1_eq, nI_m1 (by omega)]; rfl
    unfold B_X2_findRoofs_29
    rw [ej, if_neg (nI_pos (by omega)), if_pos (inB_n (by omega) (by omega)), nI_clamp (by omega), ch.rI (by simp) (by simp), h121 j (by omega)]
    have stp : ∀ g b, fsF (rfP oc f (nI g) w b) (nP row - j) j = if rfP oc f (nI g) w b j = true then some j else fsF (rfP oc f (nI g) w b) (nP row - (j + 1)) (j + 1) := fun g b => by
      rw [show nP row - j = (nP row - (j + 1)) + 1 by omega]; rfl
    have go : ∀ s1 : AH, Ch [122, 123] [] σ s1 → RfI (nP row) oc f w j s1 → ∃ τ, F_X2_findRoofs_29 (j + 1 + G) (nI w) (nI j + (-1)) s1 = some τ ∧ RfI (nP row) oc f w 0 τ ∧ Ch [122, 123] [] σ τ := fun s1 ch1 hi1 => by
      rw [← m1_eq]; exact ih s1 (by omega) ch1 hi1
    rcases stayIn_oc hR (show j < nP row by omega) hw with ⟨z1, z2⟩ | ⟨s, s1, s2, s3, s4, s5⟩
    · rw [z2, show oI none = -1 from rfl, if_pos rfl]
      unfold F_X2_findRoofs_72 F_X2_findRoofs_109
      rw [if_pos rfl]
      refine go s0 ch (fun g hg => ?_)
      have r : ∀ b, rfP oc f (nI g) w b j = false := fun b => by unfold rfP; rw [z1]
      rw [stp, stp, r, r, if_neg (by decide), if_neg (by decide)]
      exact hi g hg
    · obtain ⟨v0, v1, _, _⟩ := hV s s1
      have hY0 : TbY s0 n C := TbG.ch hY ch (by simp) (by simp)
      have a1 : F_X8_at 17 (nI s) (1 : Int32) s0 = some (nI (cl (C s 1)), s0) := by rw [← v1.1]; exact F_atG (c := 1) hY0 s1 (by decide) (by decide)
      have le : cl (C s 1) < 60 := by have := v1.2; omega
      have fe : gI s0 114 (cl (C s 1)) = f (cl (C s 1)) := by rw [ch.rI (by simp) (by simp)]; exact hf _ v1.2
      have rp : ∀ g b, rfP oc f (nI g) w b j = (decide (f (cl (C s 1)) = nI g) && (decide (C s 3 ≤ nI w) == b)) := fun g b => by unfold rfP; rw [s3]; rfl
      rw [s2, show oI (some s) = nI s from rfl, if_neg (nI_neg1 (by omega)), if_pos (inB_n (by omega) (by omega)), a1, bd_some, if_pos (inB_n le (by omega)), nI_clamp (by omega), fe]
      unfold F_X2_findRoofs_72 F_X2_findRoofs_109
      rcases hfv _ v1.2 with q | ⟨g0, hg0, q⟩
      · rw [q, if_pos rfl]
        refine go s0 ch (fun g hg => ?_)
        have r : ∀ b, rfP oc f (nI g) w b j = false := fun b => by rw [rp, q, decide_eq_false (fun z => nI_neg1 (by omega) z.symm)]; rfl
        rw [stp, stp, r, r, if_neg (by decide), if_neg (by decide)]
        exact hi g hg
      · have il : F_X2_isLived (nI s) (nI w) s0 = some (b2 (decide (C s 3 ≤ nI w)), s0) := F_isLived hY0 s1
        have g121 : gI s0 121 j = nI s := by rw [ch.rI (by simp) (by simp), h121 j (by omega), s2]; rfl
        rw [q, if_neg (nI_neg1 (by omega)), if_pos (inB_n (by omega) (by omega)), nI_clamp (by omega), g121, il, bd_some, if_pos (inB_n hg0 (by omega)), nI_clamp (by omega)]
        have eqg : ∀ g, g < 60 → (decide (f (cl (C s 1)) = nI g) = decide (g = g0)) := fun g hg => by
          rw [q]
          exact decide_eq_decide.mpr ⟨fun z => ((nI_eq (by omega) (by omega)).mp z).symm, fun z => by rw [z]⟩
        cases hd : decide (C s 3 ≤ nI w) with
        | false =>
          rw [if_pos (show b2 false = 0 from rfl)]
          refine go (sI s0 123 g0 (nI j)) (ch.trans (Ch.sI1 (Or.inr (by simp)))) (fun g hg => ?_)
          rw [stp, stp, rp, rp, eqg g hg, hd, gI_sI_row (by decide)]
          by_cases z : g = g0
          · rw [decide_eq_true z, if_neg (show ¬ (true && (false == true)) = true by decide), if_pos (show (true && (false == false)) = true by decide), z, gI_sI_at]
            exact ⟨(hi g0 hg0).1, rfl⟩
          · rw [decide_eq_false z, Bool.false_and, Bool.false_and, if_neg (by decide), if_neg (by decide), gI_sI_ne z]
            exact hi g hg
        | true =>
          rw [if_neg (show ¬ b2 true = 0 by decide), if_pos (inB_n hg0 (by omega))]
          refine go (sI s0 122 g0 (nI j)) (ch.trans (Ch.sI1 (Or.inr (by simp)))) (fun g hg => ?_)
          rw [stp, stp, rp, rp, eqg g hg, hd, gI_sI_row (o := 122) (a := 123) (by decide)]
          by_cases z : g = g0
          · rw [decide_eq_true z, if_pos (show (true && (true == true)) = true by decide), if_neg (show ¬ (true && (true == false)) = true by decide), z, gI_sI_at]
            exact ⟨rfl, (hi g0 hg0).2⟩
          · rw [decide_eq_false z, Bool.false_and, Bool.false_and, if_neg (by decide), if_neg (by decide), gI_sI_ne z]
            exact hi g hg
theorem F_findRoofs {row : Nat → Int32} {oc : Nat → Nat → Option (Nat × Nat × Bool × Nat)} {n w : Nat} {C : Nat → Nat → Int32} {f : Nat → Int32} {σ : AH} (hB : BV row) (hE : EV row) (hT : TbB row σ) (hY : TbY σ n C) (hV : CyV (nP row) (nE row) n C) (hR : RpC (nP row) n C oc) (hw : w < 260) (h121 : ∀ p, p < nP row → gI σ 121 p = oI (fsF (inB_ C p w) n 0)) (hf : ∀ e, e < nE row → gI σ 114 e = f e) (hfv : ∀ e, e < nE row → f e = -1 ∨ ∃ g, g < 60 ∧ f e = nI g) : ∃ τ, F_X2_findRoofs (nI w) σ = some τ ∧ RfI (nP row) oc f w 0 τ ∧ Ch [122, 123] [] σ τ := by
  have b30 := hB.p.2.1
  unfold F_X2_findRoofs
  rw [lt_e, lt_e]
  have c2 : Ch [122, 123] [] σ (sA (sA σ 122 (filln (gI σ 122) 60 (-1 : Int32))) 123 (filln (gI (sA σ 122 (filln (gI σ 122) 60 (-1 : Int32))) 123) 60 (-1 : Int32))) := (Ch.sA1 (by simp)).trans (Ch.sA1 (by simp))
  obtain ⟨s0, hs⟩ : ∃ s, s = sA (sA σ 122 (filln (gI σ 122) 60 (-1 : Int32))) 123 (filln (gI (sA σ 122 (filln (gI σ 122) 60 (-1 : Int32))) 123) 60 (-1 : Int32)) := ⟨_, rfl⟩
  rw [← hs] at c2 ⊢
  rw [rows_p (hT.ch c2 (by simp) (by simp)), bd_some]
  obtain ⟨G, hG⟩ := BIGe (nP row) (by omega)
  rw [hG]
  refine roofs_loop hB hE hY hV hR hw h121 hf hfv (nP row) s0 (Nat.le_refl _) c2 (fun g hg => ?_)
  rw [Nat.sub_self]
  have e1 : gI s0 122 g = -1 := by
    rw [hs, gI_sA_row (by decide), gI_sA_own]; unfold filln; rw [if_pos hg]
  have e2 : gI s0 123 g = -1 := by
    rw [hs, gI_sA_own]; unfold filln; rw [if_pos hg]
  exact ⟨e1, e2⟩
end
