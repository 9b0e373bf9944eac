section
/-! to whom a PLOT is offered, in the class -/
theorem lsS_in {row : Nat → Int32} {k : Int32} {w c : Nat} : ∀ e x, x ∈ lsS row k w c e → inE row k w c x = true := by
  intro e
  induction e with
  | zero => intro x h; cases h
  | succ e ih =>
    intro x h
    rw [lsS_s] at h
    by_cases q : inE row k w c e = true
    · rw [if_pos q] at h
      rcases insR_mem _ _ h with z | z
      · rw [z]; exact q
      · exact ih x z
    · rw [if_neg q] at h; exact ih x h
theorem firstFor_loop {row : Nat → Int32} {oc : Nat → Nat → Option (Nat × Nat × Bool × Nat)} {f : Nat → Int32} {w p c g : Nat} {L : List Nat} {σ : AH} (hB : BV row) (hE : EV row) (hT : TbB row σ) (hTE : TbE row σ) (hw : w < 260) (hp : p < nP row) (hc : c < 6) (hf : ∀ e, e < nE row → gI σ 114 e = f e) (hk : ∀ e, e ∈ L → ∃ g, g < 60 ∧ f e = nI g) (hl : L.length ≤ 60) (hm : ∀ x, x ∈ L → x < nE row) (h5 : gI σ 116 c = nI L.length) (hL : LRv (gI σ 115) (60 * c) L) (hRf : RfI (nP row) oc f w 0 σ) : ∀ (j i : Nat), i + j = L.length → F_X2_firstFor_29 (j + 1 + g) (nI (pR row p)) (nI c) (nI i) σ = some (oI (whO row oc f w p L j i), σ) := by
  have b30 := hB.p.2.1
  have n60 := hE.n.2
  have qc : inB (nI c) 6 = true := inB_n hc (by omega)
  intro j
  induction j with
  | zero =>
    intro i hi
    rw [show 0 + 1 + g = g + 1 by omega]
    show B_X2_firstFor_29 (F_X2_firstFor_29 g) (nI (pR row p)) (nI c) (nI i) σ = _
    unfold B_X2_firstFor_29
    rw [if_pos qc, nI_clamp (by omega), h5, if_pos (nI_le (by omega) (by omega))]; rfl
  | succ j ih =>
    intro i hi
    rw [show j + 1 + 1 + g = (j + 1 + g) + 1 by omega]
    show B_X2_firstFor_29 (F_X2_firstFor_29 (j + 1 + g)) (nI (pR row p)) (nI c) (nI i) σ = _
    unfold B_X2_firstFor_29
    have li : i < L.length := by omega
    obtain ⟨e, he⟩ : ∃ e, e = lxL L i := ⟨_, rfl⟩
    have me : e ∈ L := by rw [he]; exact lxL_mem li
    have le : e < nE row := hm _ me
    have ix : nI c * (60 : Int32) + nI i = nI (60 * c + i) := by rw [fa_lit 60, pk_mul, nI_add, Nat.mul_comm]
    have g115 : gI σ 115 (60 * c + i) = nI e := by rw [he]; exact hL i li
    obtain ⟨d, hd, fd_⟩ := hk e me
    have r := (hRf d hd).1
    rw [Nat.sub_zero] at r
    rw [if_pos qc, nI_clamp (by omega), h5, if_neg (nI_ge li (by omega)), ix, if_pos (inB_n (by omega) (by omega)), nI_clamp (by omega), g115, if_pos (inB_n (by omega) (by omega)), nI_clamp (by omega), hf e le, fd_, if_neg (nI_neg1 (by omega)), if_pos (inB_n hd (by omega)), nI_clamp (by omega), r]
    have ih' := ih (i + 1) (by omega)
    have st : whO row oc f w p L (j + 1) i = if whE row oc f w p e = true then some e else whO row oc f w p L j (i + 1) := by
      rw [he]
      unfold whO
      have : fsF (fun i => whE row oc f w p (lxL L i)) (j + 1) i = if whE row oc f w p (lxL L i) = true then some i else fsF (fun i => whE row oc f w p (lxL L i)) j (i + 1) := rfl
      rw [this]
      by_cases c : whE row oc f w p (lxL L i) = true
      · rw [if_pos c, if_pos c]
      · rw [if_neg c, if_neg c]
    rw [st]
    have a2 : F_X8_at 13 (nI e) (2 : Int32) σ = some (en row e 2, σ) := at_en (j := 2) hTE le (by decide)
    have e2 : (2 : Int32) * nI (pR row p) = nI (2 * pR row p) := by rw [fa_lit 2, pk_mul]
    unfold F_X2_firstFor_89 F_X2_firstFor_114 F_X2_firstFor_119 F_X2_firstFor_154
    rw [if_neg (nI_neg1 (show d < 2 ^ 31 by omega)), a2, bd_some, nI_1, e2]
    cases z : fsF (rfP oc f (nI d) w true) (nP row) 0 with
    | none =>
      have wv : whE row oc f w p e = !decide (nI (2 * pR row p) < en row e 2) := by unfold whE; rw [fd_, z]; rfl
      rw [show oI none = -1 from rfl, if_pos rfl, if_neg (show ¬ (1 : Int32) = 0 by decide), wv]
      by_cases c : nI (2 * pR row p) < en row e 2
      · rw [if_pos c, decide_eq_true c, if_neg (by decide)]; exact ih'
      · rw [if_neg c, decide_eq_false c, if_pos (by decide)]; rfl
    | some q =>
      have hq := (fsF_some _ _ q z).2.1
      have rq : F_X8_at 9 (nI q) (2 : Int32) σ = some (nI (pR row q), σ) := by
        have := at_pl (j := 2) hT (show q < nP row by omega) (by decide)
        rw [show pl row q 2 = nI (pR row q) from (hB.p.2.2 q (by omega)).2.2.1.1.1] at this; exact this
      have wv : whE row oc f w p e = (!decide (nI (pR row p) ≤ nI (pR row q)) && !decide (nI (2 * pR row p) < en row e 2)) := by unfold whE; rw [fd_, z]
      rw [show oI (some q) = nI q from rfl, if_neg (nI_neg1 (show q < 2 ^ 31 by omega)), rq, bd_some, wv]
      by_cases y : nI (pR row p) ≤ nI (pR row q)
      · rw [if_pos y, decide_eq_true y, if_neg (nI_neg1 (show d < 2 ^ 31 by omega)), if_pos rfl, Bool.not_true, Bool.false_and, if_neg (by decide)]; exact ih'
      · rw [if_neg y, decide_eq_false y, if_neg (show ¬ (1 : Int32) = 0 by decide), if_neg (nI_neg1 (show d < 2 ^ 31 by omega)), a2, bd_some]
        by_cases c : nI (2 * pR row p) < en row e 2
        · rw [if_pos c, decide_eq_true c, if_neg (by decide)]; exact ih'
        · rw [if_neg c, decide_eq_false c, if_pos (by decide)]; rfl
end
