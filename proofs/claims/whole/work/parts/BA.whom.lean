section
/-! to whom a PLOT is offered, in the reference -/
def lxL (L : List Nat) (i : Nat) : Nat := L.getD (L.length - 1 - i) 0
theorem lxL_mem {L : List Nat} {i : Nat} (h : i < L.length) : lxL L i ∈ L := by
  unfold lxL
  rw [List.getD_eq_getElem?_getD, List.getElem?_eq_getElem (show L.length - 1 - i < L.length by omega)]
  exact List.getElem_mem _
def whE (row : Nat → Int32) (oc : Nat → Nat → Option (Nat × Nat × Bool × Nat)) (f : Nat → Int32) (w p e : Nat) : Bool := (match fsF (rfP oc f (f e) w true) (nP row) 0 with | none => true | some q => !decide (nI (pR row p) ≤ nI (pR row q))) && !decide (nI (2 * pR row p) < en row e 2)
def whO (row : Nat → Int32) (oc : Nat → Nat → Option (Nat × Nat × Bool × Nat)) (f : Nat → Int32) (w p : Nat) (L : List Nat) : Nat → Nat → Option Nat := fun j i => match fsF (fun i => whE row oc f w p (lxL L i)) j i with
  | none => none
  | some i => some (lxL L i)
theorem whom_loop {row : Nat → Int32} {oc : Nat → Nat → Option (Nat × Nat × Bool × Nat)} {f : Nat → Int32} {w p g : Nat} {L : List Nat} {σ : AH} (hB : BV row) (hE : EV row) (hV : SyV row) (hR : RpC (nP row) (nY row) (sy row) oc) (hw : w < 260) (hp : p < nP row) (hr : gI σ 125 = row) (hf : ∀ e, e < nE row → gI σ 160 e = f e) (hl : L.length ≤ 60) (hm : ∀ x, x ∈ L → x < nE row) (h5 : gI σ 124 65 = nI L.length) (hL : LRv (gI σ 162) 0 L) : ∀ (j i : Nat), i + j = L.length → F_X12_whom_12 (j + 1 + g) (nI p) (nI w) (nI i) σ = some (oI (whO row oc f w p L j i), σ) := by
  have b30 := hB.p.2.1
  have n60 := hE.n.2
  have n30 := hV.n.2
  intro j
  induction j with
  | zero =>
    intro i hi
    rw [show 0 + 1 + g = g + 1 by omega]
    show B_X12_whom_12 (F_X12_whom_12 g) (nI p) (nI w) (nI i) σ = _
    unfold B_X12_whom_12
    rw [h5, if_pos (nI_le (by omega) (by omega))]; rfl
  | succ j ih =>
    intro i hi
    rw [show j + 1 + 1 + g = (j + 1 + g) + 1 by omega]
    show B_X12_whom_12 (F_X12_whom_12 (j + 1 + g)) (nI p) (nI w) (nI i) σ = _
    unfold B_X12_whom_12
    have li : i < L.length := by omega
    obtain ⟨e, he⟩ : ∃ e, e = lxL L i := ⟨_, rfl⟩
    have le : e < nE row := by rw [he]; exact hm _ (lxL_mem li)
    have g162 : gI σ 162 i = nI e := by
      have := hL i li
      rw [Nat.zero_add] at this
      rw [he]; exact this
    have so : F_X12_stayOf (f e) (nI w) (1 : Int32) σ = some (oI (soS row f (f e) w true (nY row)), σ) := F_stayOf (b := true) hV hE hr hf
    rw [h5, if_neg (nI_ge li (by omega)), if_pos (inB_n (by omega) (by omega)), nI_clamp (by omega), g162, if_pos (inB_n (by omega) (by omega)), nI_clamp (by omega), hf e le, so, bd_some]
    have ih' := ih (i + 1) (by omega)
    have st : whO row oc f w p L (j + 1) i = if whE row oc f w p e = true then some e else whO row oc f w p L j (i + 1) := by
      rw [he]
      unfold whO
      have : fsF (fun i => whE row oc f w p (lxL L i)) (j + 1) i = if whE row oc f w p (lxL L i) = true then some i else fsF (fun i => whE row oc f w p (lxL L i)) j (i + 1) := rfl
      rw [this]
      by_cases c : whE row oc f w p (lxL L i) = true
      · rw [if_pos c, if_pos c]
      · rw [if_neg c, if_neg c]
    rw [st]
    have a2 : F_X12_entryAt (nI e) (2 : Int32) σ = some (en row e 2, σ) := F_entryAt (j := 2) hE le (by decide) hr
    have rp : F_X12_roomsOf (nI p) σ = some (nI (pR row p), σ) := F_roomsOf hB hp hr
    have e2 : (2 : Int32) * nI (pR row p) = nI (2 * pR row p) := by rw [fa_lit 2, pk_mul]
    unfold F_X12_whom_72 F_X12_whom_77 F_X12_whom_104
    rw [a2, bd_some, rp, bd_some, nI_1, e2]
    rcases stayOf_oc (f := f) (fam := f e) (b := true) hB hV hR hw with ⟨z1, z2⟩ | ⟨s, s1, s2, s3, s4, s5⟩
    · have wv : whE row oc f w p e = !decide (nI (2 * pR row p) < en row e 2) := by unfold whE; rw [z2]; rfl
      rw [z1, show oI none = -1 from rfl, if_pos rfl, if_neg (show ¬ (1 : Int32) = 0 by decide), wv]
      by_cases c : nI (2 * pR row p) < en row e 2
      · rw [if_pos c, decide_eq_true c, if_neg (by decide)]; exact ih'
      · rw [if_neg c, decide_eq_false c, if_pos (by decide)]; rfl
    · obtain ⟨v0, _⟩ := hV.2 s s1
      have y0 : row (29512 + 8 * s) = nI (cl (sy row s 0)) := v0.1
      have rs : F_X12_roomsOf (nI (cl (sy row s 0))) σ = some (nI (pR row (cl (sy row s 0))), σ) := F_roomsOf hB v0.2 hr
      have wv : whE row oc f w p e = (!decide (nI (pR row p) ≤ nI (pR row (cl (sy row s 0)))) && !decide (nI (2 * pR row p) < en row e 2)) := by unfold whE; rw [s3]
      rw [s2, show oI (some s) = nI s from rfl, if_neg (nI_neg1 (by omega)), F_stayAt, bd_some, if_pos (inB_n (by omega) (by omega)), nI_clamp (by omega), hr, y0, rs, bd_some, rp, bd_some, wv, a2, bd_some, rp, bd_some, e2]
      by_cases d : nI (pR row p) ≤ nI (pR row (cl (sy row s 0)))
      · rw [if_pos d, decide_eq_true d, if_pos rfl, Bool.not_true, Bool.false_and, if_neg (by decide)]; exact ih'
      · rw [if_neg d, decide_eq_false d, if_neg (show ¬ (1 : Int32) = 0 by decide)]
        by_cases c : nI (2 * pR row p) < en row e 2
        · rw [if_pos c, decide_eq_true c, if_neg (by decide)]; exact ih'
        · rw [if_neg c, decide_eq_false c, if_pos (by decide)]; rfl
theorem F_whom {row : Nat → Int32} {oc : Nat → Nat → Option (Nat × Nat × Bool × Nat)} {k : Int32} {f : Nat → Int32} {w p : Nat} {σ : AH} (hA : AV row) (hB : BV row) (hE : EV row) (hV : SyV row) (hR : RpC (nP row) (nY row) (sy row) oc) (hw : w < 260) (hp : p < nP row) (hK : KI row k σ) (hf : ∀ e, e < nE row → gI σ 160 e = f e) : ∃ τ, F_X12_whom (nI p) (nI w) σ = some (oI (whO row oc f w p (lsS row k w (pC row p) (nE row)) (lsS row k w (pC row p) (nE row)).length 0), τ) ∧ KI row k τ ∧ Ch LSc LSf σ τ := by
  have n60 := hE.n.2
  have pc : pC row p < 6 := (hB.p.2.2 p hp).1.2
  obtain ⟨τ, t1, t2, t3, t4, t5⟩ := F_findList (w := w) (c := pC row p) hA hE hw pc hK
  have len := lsS_len (row := row) (k := k) (w := w) (c := pC row p) (nE row)
  unfold F_X12_whom
  rw [F_councilOf hB hp hK.1, bd_some, t1, bv_some]
  obtain ⟨g, hg⟩ := BIGe (lsS row k w (pC row p) (nE row)).length (by omega)
  rw [hg]
  refine ⟨τ, ?_, t2, t5⟩
  exact whom_loop hB hE hV hR hw hp t2.1 (fun e he => by rw [t5.rI (by simp [LSc]) (by simp [LSf, FDf])]; exact hf e he) (by omega) (fun x hx => lsS_mem _ x hx) t3 t4 _ 0 (by omega)
end
