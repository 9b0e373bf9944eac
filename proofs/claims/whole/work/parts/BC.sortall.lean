section
/-! all lists of the class, and the first of one -/
theorem F_firstFor {row : Nat → Int32} {oc : Nat → Nat → Option (Nat × Nat × Bool × Nat)} {k : Int32} {f : Nat → Int32} {w p : Nat} {σ : AH} (hB : BV row) (hE : EV row) (hT : TbB row σ) (hTE : TbE row σ) (hw : w < 260) (hp : p < nP row) (hf : ∀ e, e < nE row → gI σ 114 e = f e) (hF : FmF row k f) (h5 : gI σ 116 (pC row p) = nI (lsS row k w (pC row p) (nE row)).length) (hL : LRv (gI σ 115) (60 * pC row p) (lsS row k w (pC row p) (nE row))) (hRf : RfI (nP row) oc f w 0 σ) : F_X2_firstFor (nI p) σ = some (oI (whO row oc f w p (lsS row k w (pC row p) (nE row)) (lsS row k w (pC row p) (nE row)).length 0), σ) := by
  have n60 := hE.n.2
  have pc : pC row p < 6 := (hB.p.2.2 p hp).1.2
  have len := lsS_len (row := row) (k := k) (w := w) (c := pC row p) (nE row)
  have a2 : F_X8_at 9 (nI p) (2 : Int32) σ = some (nI (pR row p), σ) := by
    have := at_pl (j := 2) hT hp (by decide)
    rw [show pl row p 2 = nI (pR row p) from (hB.p.2.2 p hp).2.2.1.1.1] at this; exact this
  have a0 : F_X8_at 9 (nI p) (0 : Int32) σ = some (nI (pC row p), σ) := by
    have := at_pl (j := 0) hT hp (by decide)
    rw [show pl row p 0 = nI (pC row p) from (hB.p.2.2 p hp).1.1] at this; exact this
  unfold F_X2_firstFor
  rw [a2, bd_some, a0, bd_some]
  obtain ⟨g, hg⟩ := BIGe (lsS row k w (pC row p) (nE row)).length (by omega)
  rw [hg]
  refine firstFor_loop hB hE hT hTE hw hp pc hf (fun e he => ?_) (by omega) (fun x hx => lsS_mem _ x hx) h5 hL hRf _ 0 (by omega)
  have q := lsS_in _ e he
  unfold inE at q
  have kn := (of_decide_eq_true q).2.1
  have le := lsS_mem _ e he
  obtain ⟨j, j1, _, j3⟩ := (hF.1.1 e le).2 kn
  exact ⟨j, by omega, j3⟩
/-- the lists of COUNCILS below c stand in 115 and 116 -/
def SoI (row : Nat → Int32) (k : Int32) (w c : Nat) (σ : AH) : Prop := ∀ d, d < c → gI σ 116 d = nI (lsS row k w d (nE row)).length ∧ LRv (gI σ 115) (60 * d) (lsS row k w d (nE row))
theorem sortAll_loop {row : Nat → Int32} {w g : Nat} (hV : AV row) (hW : AW row) (hE : EV row) (hw : w < 260) : ∀ (j c : Nat) (σ : AH), c + j = 6 → TbE row σ → LwI row σ → SoI row (nI w) w c σ → ∃ τ, F_X4_sortAll_2 (j + 1 + g) (nI w) (nI c) σ = some τ ∧ LwI row τ ∧ SoI row (nI w) w 6 τ ∧ Ch [31, 32, 33, 115, 116, 117] [(28, 6)] σ τ := by
  have n60 := hE.n.2
  intro j
  induction j with
  | zero =>
    intro c σ hc hT hL hS
    rw [show 0 + 1 + g = g + 1 by omega]
    show ∃ τ, B_X4_sortAll_2 (F_X4_sortAll_2 g) (nI w) (nI c) σ = some τ ∧ _
    unfold B_X4_sortAll_2
    have e : c = 6 := by omega
    subst e
    rw [if_pos (show (6 : Int32) ≤ nI 6 by decide)]
    exact ⟨σ, rfl, hL, hS, Ch.rf _⟩
  | succ j ih =>
    intro c σ hc hT hL hS
    rw [show j + 1 + 1 + g = (j + 1 + g) + 1 by omega]
    show ∃ τ, B_X4_sortAll_2 (F_X4_sortAll_2 (j + 1 + g)) (nI w) (nI c) σ = some τ ∧ _
    unfold B_X4_sortAll_2
    obtain ⟨τ, t1, t2, t3, t4, t5, t6, t7, t8⟩ := F_sort (k := nI w) (w := w) (c := c) hV hW hE hw (by omega) hT hL
    rw [if_neg (show ¬ (6 : Int32) ≤ nI c from nI_ge (b := 6) (by omega) (by decide)), t1, bv_some, nI_1]
    obtain ⟨τ2, u1, u2, u3, u4⟩ := ih (c + 1) τ (by omega) t3 t2 (fun d hd => by
      by_cases e : d = c
      · rw [e]; exact ⟨t6, t4⟩
      · obtain ⟨s1, s2⟩ := hS d (by omega)
        have len := lsS_len (row := row) (k := nI w) (w := w) (c := d) (nE row)
        refine ⟨by rw [t7 d e]; exact s1, fun i hi => ?_⟩
        rw [t5 (60 * d + i) (by omega)]; exact s2 i hi)
    exact ⟨τ2, u1, u2, u3, t8.trans u4⟩
theorem F_sortAll {row : Nat → Int32} {w : Nat} {σ : AH} (hV : AV row) (hW : AW row) (hE : EV row) (hw : w < 260) (hT : TbE row σ) (hL : LwI row σ) : ∃ τ, F_X4_sortAll (nI w) σ = some τ ∧ LwI row τ ∧ SoI row (nI w) w 6 τ ∧ Ch [31, 32, 33, 115, 116, 117] [(28, 6)] σ τ := by
  unfold F_X4_sortAll
  obtain ⟨g, hg⟩ := BIGe 6 (by decide)
  rw [hg]
  exact sortAll_loop hV hW hE hw 6 0 σ (by omega) hT hL (fun d hd => absurd hd (Nat.not_lt_zero d))
end
