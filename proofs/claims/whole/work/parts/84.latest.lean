section
theorem imax_i {x y : Int32} : imax x y = if y ≤ x then x else y := by
  unfold imax
  by_cases h : x < y
  · rw [if_pos h, if_neg (fun h' => Int32.lt_irrefl (Int32.lt_of_lt_of_le h h'))]
  · rw [if_neg h, if_pos (Int32.not_lt.mp h)]
theorem imax_l {x y : Int32} : x ≤ imax x y ∧ y ≤ imax x y := by
  unfold imax
  by_cases h : x < y
  · rw [if_pos h]; exact ⟨Int32.le_of_lt h, Int32.le_refl _⟩
  · rw [if_neg h]; exact ⟨Int32.le_refl _, Int32.not_lt.mp h⟩
theorem imax_u {x y z : Int32} (h1 : x ≤ z) (h2 : y ≤ z) : imax x y ≤ z := by
  unfold imax
  split
  · exact h2
  · exact h1
def akR (row : Nat → Int32) (a : Nat) : Int32 := row (20 + 947 * a + 1)
def ltK (row : Nat → Int32) (k : Int32) : Int32 := imax (imax (imax (gtS (akR row) k (nA row)) (gtS (fun d => row (22748 + (d * 4 + 3))) k (nD row))) (gtS (fun d => row (23292 + (d * 4 + 3))) k (nG row))) (gtS (fun d => row (23652 + (d * 3 + 2))) k (nS row))
theorem know_loop {row : Nat → Int32} {k : Int32} {σ : AH} {g : Nat} (hn : nA row ≤ 24) (hA : ActsC row σ) (hT : TbB row σ) : ∀ (j a : Nat), a + j = nA row → F_X11_knowing_4 (j + 1 + g) k (gtS (akR row) k a) (nI a) σ = some (ltK row k, σ) := by
  have g3 : F_X8_greatest 3 (3 : Int32) k σ = _ := F_greatest (c := 3) (k := k) hT.1 (by decide) (by decide) (by decide)
  have g7 : F_X8_greatest 7 (3 : Int32) k σ = _ := F_greatest (c := 3) (k := k) hT.2.2.1 (by decide) (by decide) (by decide)
  have g11 : F_X8_greatest 11 (2 : Int32) k σ = _ := F_greatest (c := 2) (k := k) hT.2.2.2.2 (by decide) (by decide) (by decide)
  intro j
  induction j with
  | zero =>
    intro a ha
    have e : F_X11_knowing_4 (0 + 1 + g) = B_X11_knowing_4 (F_X11_knowing_4 g) := by rw [show 0 + 1 + g = g + 1 by omega]; rfl
    have : a = nA row := by omega
    subst this
    rw [e]; unfold B_X11_knowing_4
    rw [hA.1, if_pos (nI_le (Nat.le_refl _) (by omega)), g3, bd_some, g7, bd_some, g11, bd_some]
    rfl
  | succ j ih =>
    intro a ha
    have e : F_X11_knowing_4 (j + 1 + 1 + g) = B_X11_knowing_4 (F_X11_knowing_4 (j + 1 + g)) := by rw [show j + 1 + 1 + g = (j + 1 + g) + 1 by omega]; rfl
    obtain ⟨b, h1, ⟨h2, h3, _⟩, ⟨_, h5, _⟩, _⟩ := hA.2 a (by omega)
    have qa : inB (nI a) 24 = true := inB_n (by omega) (by omega)
    have na : (nI a).toNatClampNeg = a := nI_clamp (by omega)
    have os : ∀ (x : Option (Int32 × AH)) (f : Nat → Option (Int32 × AH)), on (some b) x f = f b := fun _ _ => rfl
    have nx_ := ih (a + 1) (by omega)
    have step : gtS (akR row) k (a + 1) = if k < akR row a then gtS (akR row) k a else if akR row a ≤ gtS (akR row) k a then gtS (akR row) k a else akR row a := rfl
    have h5' : gI σ b 1 = akR row a := h5
    rw [e]; unfold B_X11_knowing_4 F_X11_knowing_60
    rw [hA.1, if_neg (nI_ge (by omega) (by omega)), if_pos qa, na, h1, os, if_pos ⟨h2, h3⟩, if_pos qa, os, if_pos ⟨h2, h3⟩, h5', nI_1]
    by_cases c : k < akR row a
    · rw [if_pos c]; rw [step, if_pos c] at nx_; exact nx_
    · rw [if_neg c, if_pos qa, os, if_pos ⟨h2, h3⟩, h5', imax_i]
      rw [step, if_neg c] at nx_; exact nx_
theorem F_knowing {row : Nat → Int32} {k : Int32} {σ : AH} (hV : AV row) (hk : 0 ≤ k) (hL : LwI row σ) (hT : TbB row σ) : F_X11_knowing k σ = some (ltK row k, σ) ∧ KE row k (ltK row k) ∧ ltK row k ≤ k := by
  have hn := hV.2.1
  refine ⟨?_, ?_⟩
  · obtain ⟨g, hg⟩ := BIGe (nA row) (by omega)
    unfold F_X11_knowing
    rw [hg]
    exact know_loop hn hL.1 hT (nA row) 0 (by omega)
  · have sA := gtS_spec (x := akR row) hk (nA row)
    have sD := gtS_spec (x := fun d => row (22748 + (d * 4 + 3))) hk (nD row)
    have sG := gtS_spec (x := fun d => row (23292 + (d * 4 + 3))) hk (nG row)
    have sS := gtS_spec (x := fun d => row (23652 + (d * 3 + 2))) hk (nS row)
    have le : ltK row k ≤ k := imax_u (imax_u (imax_u sA.1.2 sD.1.2) sG.1.2) sS.1.2
    have key : ∀ x : Int32, (¬ k < x → x ≤ ltK row k) → (k < x ↔ ltK row k < x) := fun x h => by
      refine ⟨fun q => Int32.lt_of_le_of_lt le q, fun q => ?_⟩
      by_cases c : k < x
      · exact c
      · exact (Int32.lt_irrefl (Int32.lt_of_lt_of_le q (h c))).elim
    have lS : gtS (fun d => row (23652 + (d * 3 + 2))) k (nS row) ≤ ltK row k := imax_l.2
    have lG : gtS (fun d => row (23292 + (d * 4 + 3))) k (nG row) ≤ ltK row k := Int32.le_trans imax_l.2 imax_l.1
    have lD : gtS (fun d => row (22748 + (d * 4 + 3))) k (nD row) ≤ ltK row k := Int32.le_trans imax_l.2 (Int32.le_trans imax_l.1 imax_l.1)
    have lA : gtS (akR row) k (nA row) ≤ ltK row k := Int32.le_trans imax_l.1 (Int32.le_trans imax_l.1 imax_l.1)
    refine ⟨⟨fun a ha => key _ (fun q => Int32.le_trans (sA.2 a ha q) lA), fun d hd => key _ (fun q => ?_), fun d hd => key _ (fun q => ?_), fun d hd => key _ (fun q => ?_)⟩, le⟩
    · have e : dv row d 3 = row (22748 + (d * 4 + 3)) := by show row (22748 + 4 * d + 3) = _; rw [show 22748 + 4 * d + 3 = 22748 + (d * 4 + 3) by omega]
      rw [e] at q ⊢; exact Int32.le_trans (sD.2 d hd q) lD
    · have e : ga row d 3 = row (23292 + (d * 4 + 3)) := by show row (23292 + 4 * d + 3) = _; rw [show 23292 + 4 * d + 3 = 23292 + (d * 4 + 3) by omega]
      rw [e] at q ⊢; exact Int32.le_trans (sG.2 d hd q) lG
    · have e : sa row d 2 = row (23652 + (d * 3 + 2)) := by show row (23652 + 3 * d + 2) = _; rw [show 23652 + 3 * d + 2 = 23652 + (d * 3 + 2) by omega]
      rw [e] at q ⊢; exact Int32.le_trans (sS.2 d hd q) lS
end
