section
/-! ORDERS: the reference -/
def LSc : List Nat := [134, 135, 136, 137, 161, 162]
def LSf : List (Nat × Nat) := (124, 65) :: FDf
theorem lsS_s {row : Nat → Int32} {k : Int32} {w c e : Nat} : lsS row k w c (e + 1) = if inE row k w c e = true then insR (ahE row k w e) e (lsS row k w c e) else lsS row k w c e := rfl
theorem insR_in {ah : Nat → Bool} {p : Nat} (r : List Nat) : p ∈ insR ah p r ∧ ∀ x, x ∈ r → x ∈ insR ah p r := by
  induction r with
  | nil => exact ⟨List.mem_singleton.mpr rfl, fun x h => by cases h⟩
  | cons y t ih =>
    unfold insR
    split
    · exact ⟨List.mem_cons_of_mem _ ih.1, fun x h => by
        rcases List.mem_cons.mp h with q | q
        · rw [q]; exact List.mem_cons_self
        · exact List.mem_cons_of_mem _ (ih.2 x q)⟩
    · exact ⟨List.mem_cons_self, fun x h => List.mem_cons_of_mem _ h⟩
theorem list_loop {row : Nat → Int32} {k : Int32} {w c g : Nat} (hV : AV row) (hE : EV row) (hw : w < 260) (hc : c < 6) : ∀ (j e : Nat) (σ : AH), e + j = nE row → KI row k σ → gI σ 124 65 = nI (lsS row k w c e).length → LRv (gI σ 162) 0 (lsS row k w c e) → (∀ x, x ∈ lsS row k w c e → gL σ 161 x = ptV row k w x) →
    ∃ τ, F_X12_findList_7 (j + 1 + g) (nI c) (nI w) (nI e) σ = some τ ∧ KI row k τ ∧ gI τ 124 65 = nI (lsS row k w c (nE row)).length ∧ LRv (gI τ 162) 0 (lsS row k w c (nE row)) ∧ Ch LSc LSf σ τ := by
  obtain ⟨n0, n60⟩ := hE.n
  intro j
  induction j with
  | zero =>
    intro e σ he hK h5 hA hP
    rw [show 0 + 1 + g = g + 1 by omega]
    show ∃ τ, B_X12_findList_7 (F_X12_findList_7 g) (nI c) (nI w) (nI e) σ = _ ∧ _
    unfold B_X12_findList_7
    rw [hK.1, n0, if_pos (nI_le (by omega) (by omega))]
    rw [show e = nE row by omega] at h5 hA
    exact ⟨σ, rfl, hK, h5, hA, Ch.rf _⟩
  | succ j ih =>
    intro e σ he hK h5 hA hP
    have lt : e < nE row := by omega
    rw [show j + 1 + 1 + g = (j + 1 + g) + 1 by omega]
    show ∃ τ, B_X12_findList_7 (F_X12_findList_7 (j + 1 + g)) (nI c) (nI w) (nI e) σ = _ ∧ _
    unfold B_X12_findList_7 F_X12_findList_132
    have a0 : F_X12_entryAt (nI e) (0 : Int32) σ = some (en row e 0, σ) := F_entryAt (j := 0) hE lt (by decide) hK.1
    have a1 : F_X12_entryAt (nI e) (1 : Int32) σ = some (en row e 1, σ) := F_entryAt (j := 1) hE lt (by decide) hK.1
    have a6 : F_X12_entryAt (nI e) (6 : Int32) σ = some (en row e 6, σ) := F_entryAt (j := 6) hE lt (by decide) hK.1
    have q1 : inB (nI e) 60 = true := inB_n (by omega) (by omega)
    have n1 : (nI e).toNatClampNeg = e := nI_clamp (by omega)
    rw [hK.1, n0, if_neg (nI_ge lt (by omega))]
    simp only [a0, a1, a6, bd_some, hK.2.1, q1, n1, if_true, nI_1]
    have no : inE row k w c e = false → ∃ τ, F_X12_findList_7 (j + 1 + g) (nI c) (nI w) (nI (e + 1)) σ = some τ ∧ KI row k τ ∧ gI τ 124 65 = nI (lsS row k w c (nE row)).length ∧ LRv (gI τ 162) 0 (lsS row k w c (nE row)) ∧ Ch LSc LSf σ τ := fun hn => by
      have es : lsS row k w c (e + 1) = lsS row k w c e := by rw [lsS_s, hn]; rfl
      exact ih (e + 1) σ (by omega) hK (by rw [es]; exact h5) (by rw [es]; exact hA) (by rw [es]; exact hP)
    by_cases c1 : en row e 0 = nI c
    · rw [if_pos c1]
      by_cases c2 : k < en row e 6
      · rw [if_pos c2]; exact no (decide_eq_false (fun z => z.2.1 c2))
      · rw [if_neg c2]
        by_cases c3 : nI w < en row e 1
        · rw [if_pos c3]; exact no (decide_eq_false (fun z => z.2.2 c3))
        · rw [if_neg c3]
          have yes : inE row k w c e = true := decide_eq_true ⟨c1, c2, c3⟩
          obtain ⟨τ1, t1, t2, t3⟩ := F_reckonPoints hV hE lt hw hK
          rw [t1, bd_some]
          have k1 : Ch [161] [] τ1 (sL τ1 161 e (ptV row k w e)) := Ch.sL1 (Or.inr (by simp))
          have K1 : KI row k (sL τ1 161 e (ptV row k w e)) := t2.many k1 (by simp) (by simp)
          have g65 : gI (sL τ1 161 e (ptV row k w e)) 124 65 = nI (lsS row k w c e).length := by rw [gI_sL, t3.pI (by simp [PTc]) (by simp [FDf])]; exact h5
          rw [g65]
          have A1 : LRv (gI (sL τ1 161 e (ptV row k w e)) 162) 0 (lsS row k w c e) := by rw [gI_sL, t3.rI (by simp [PTc]) (by simp [FDf])]; exact hA
          have P1 : gL (sL τ1 161 e (ptV row k w e)) 161 e = ptV row k w e ∧ ∀ x, x ∈ lsS row k w c e → gL (sL τ1 161 e (ptV row k w e)) 161 x = ptV row k w x := ⟨gL_sL_at, fun x hx => by
            have := lsS_mem e x hx
            rw [gL_sL_ne (by omega), t3.rL (by simp [PTc]) (by simp [FDf])]; exact hP x hx⟩
          have hlen := lsS_len (row := row) (k := k) (w := w) (c := c) e
          obtain ⟨g2, hg2⟩ := BIGe (lsS row k w c e).length (by omega)
          obtain ⟨k', σ', z1, z2, z3, z4, z5⟩ := ins_gen2 (cell := 162) (off := 0) (p := e) (g := g2) (M := fun x => x ∈ lsS row k w c e) (lim := 59) (ah := ahE row k w e)
            (G := fun f q t => F_X12_findList_70 (F_X12_findList_7 (j + 1 + g)) f (nI c) (nI w) (nI e) (nI q) t)
            (E := fun q t => F_X12_findList_114 (F_X12_findList_7 (j + 1 + g)) (nI c) (nI w) (nI e) (nI q) t)
            (P := fun t => gI t 125 = row ∧ (gL t 161 e = ptV row k w e ∧ ∀ x, x ∈ lsS row k w c e → gL t 161 x = ptV row k w x))
            (fun f t ht => by
              show B_X12_findList_70 (F_X12_findList_7 (j + 1 + g)) (F_X12_findList_70 (F_X12_findList_7 (j + 1 + g)) f) (nI c) (nI w) (nI e) (nI 0) t = _
              unfold B_X12_findList_70
              rw [if_pos (by decide)])
            (fun f q t x ht hq hx hxM hah => by
              show B_X12_findList_70 (F_X12_findList_7 (j + 1 + g)) (F_X12_findList_70 (F_X12_findList_7 (j + 1 + g)) f) (nI c) (nI w) (nI e) (nI (q + 1)) t = _
              unfold B_X12_findList_70
              have m1 : nI (q + 1) - (1 : Int32) = nI q := nI_pred q
              have lx := lsS_mem e x hxM
              rw [Nat.zero_add] at hx
              rw [if_neg (show ¬ nI (q + 1) ≤ (0 : Int32) from nI_ge (a := 0) (by omega) (by omega)), m1, if_pos (inB_n (by omega) (by omega)), nI_clamp (by omega), hx, F_standsAhead hE lt (by omega) ht.1 ht.2.1 (ht.2.2 x hxM), bd_some, hah, if_pos (show b2 false = 0 from rfl)])
            (fun f q t x ht hq hx hxM hah => by
              show B_X12_findList_70 (F_X12_findList_7 (j + 1 + g)) (F_X12_findList_70 (F_X12_findList_7 (j + 1 + g)) f) (nI c) (nI w) (nI e) (nI (q + 1)) t = _
              unfold B_X12_findList_70
              have m1 : nI (q + 1) - (1 : Int32) = nI q := nI_pred q
              have lx := lsS_mem e x hxM
              rw [Nat.zero_add] at hx
              rw [if_neg (show ¬ nI (q + 1) ≤ (0 : Int32) from nI_ge (a := 0) (by omega) (by omega)), m1, if_pos (inB_n (by omega) (by omega)), nI_clamp (by omega), hx, F_standsAhead hE lt (by omega) ht.1 ht.2.1 (ht.2.2 x hxM), bd_some, hah, if_neg (show ¬ b2 true = 0 by decide), if_pos (inB_n (by omega) (by omega)), if_pos (inB_n (by omega) (by omega)), nI_clamp (by omega), pk_m1, hx, Nat.zero_add])
            (fun t q v _ _ ht => ⟨by rw [gI_sI_row (by decide)]; exact ht.1, ht.2⟩)
            (lsS row k w c e) [] (sL τ1 161 e (ptV row k w e)) ⟨K1.1, P1⟩ (by simp; omega) (fun x hx => hx) A1 (fun i hi => absurd hi (Nat.not_lt_zero i))
          have z1' : F_X12_findList_70 (F_X12_findList_7 (j + 1 + g)) BIG (nI c) (nI w) (nI e) (nI (lsS row k w c e).length) (sL τ1 161 e (ptV row k w e)) = F_X12_findList_114 (F_X12_findList_7 (j + 1 + g)) (nI c) (nI w) (nI e) (nI k') σ' := by rw [hg2]; exact z1
          rw [z1']
          unfold F_X12_findList_114 F_X12_findList_132
          have g65' : gI (sI σ' 162 k' (nI e)) 124 65 = nI (lsS row k w c e).length := by rw [gI_sI_row (by decide), z5.rI (by simp) (by simp)]; exact g65
          rw [if_pos (inB_n (by omega) (by omega)), nI_clamp (by omega), g65', show nI (lsS row k w c e).length + (1 : Int32) = nI ((lsS row k w c e).length + 1) from nI_1 _, nI_1]
          have es : lsS row k w c (e + 1) = insR (ahE row k w e) e (lsS row k w c e) := by rw [lsS_s, if_pos yes]
          have c6 : Ch [162] [(124, 65)] σ' (sI (sI σ' 162 k' (nI e)) 124 65 (nI ((lsS row k w c e).length + 1))) := (Ch.sI1 (Or.inr (by simp))).trans (Ch.sI1 (Or.inl (by simp)))
          have call : Ch LSc LSf σ (sI (sI σ' 162 k' (nI e)) 124 65 (nI ((lsS row k w c e).length + 1))) := (((t3.mono (by simp [PTc, LSc]) (by simp [FDf, LSf])).trans (k1.mono (by simp [LSc]) (by simp))).trans (z5.mono (by simp [LSc]) (by simp))).trans (c6.mono (by simp [LSc]) (by simp [LSf]))
          have K2 : KI row k (sI (sI σ' 162 k' (nI e)) 124 65 (nI ((lsS row k w c e).length + 1))) := (K1.many z5 (by simp) (by simp)).many c6 (by simp) (by simp)
          obtain ⟨τ2, u1, u2, u3, u4, u5⟩ := ih (e + 1) _ (by omega) K2 (by rw [es, insR_len, gI_sI_at]) (by
            rw [es, gI_sI_row (by decide), gI_sI_own]
            rw [Nat.zero_add] at z4
            exact z4) (fun x hx => by
            rw [es] at hx
            rw [gL_sI, gL_sI]
            rcases insR_mem _ _ hx with y | y
            · rw [y]; exact z3.2.1
            · exact z3.2.2 x y)
          exact ⟨τ2, u1, u2, u3, u4, call.trans u5⟩
    · rw [if_neg c1]; exact no (decide_eq_false (fun z => c1 z.1))
theorem F_findList {row : Nat → Int32} {k : Int32} {w c : Nat} {σ : AH} (hV : AV row) (hE : EV row) (hw : w < 260) (hc : c < 6) (hK : KI row k σ) : ∃ τ, F_X12_findList (nI c) (nI w) σ = some τ ∧ KI row k τ ∧ gI τ 124 65 = nI (lsS row k w c (nE row)).length ∧ LRv (gI τ 162) 0 (lsS row k w c (nE row)) ∧ Ch LSc LSf σ τ := by
  unfold F_X12_findList
  have n60 := hE.n.2
  have k1 : Ch LSc LSf σ (sI σ 124 65 0) := Ch.sI1 (Or.inl (by simp [LSf]))
  have k1' : Ch [] [(124, 65)] σ (sI σ 124 65 0) := Ch.sI1 (Or.inl (by simp))
  obtain ⟨g, hg⟩ := BIGe (nE row) (by omega)
  obtain ⟨τ, t1, t2, t3, t4, t5⟩ := list_loop (g := g) hV hE hw hc (nE row) 0 (sI σ 124 65 0) (by omega) (hK.many k1' (by simp) (by simp)) gI_sI_at (fun i hi => absurd hi (Nat.not_lt_zero i)) (fun x hx => by cases hx)
  rw [hg]
  exact ⟨τ, t1, t2, t3, t4, k1.trans t5⟩
/-! ORDERS: the class -/
theorem sort_loop {row : Nat → Int32} {k : Int32} {w c g : Nat} {B : Nat → Int32} (hV : AV row) (hW : AW row) (hE : EV row) (hw : w < 260) (hc : c < 6) : ∀ (j e : Nat) (σ : AH), e + j = nE row → RdS row k (nI w) σ → TbE row σ → LRv (gI σ 115) (60 * c) (lsS row k w c e) → (∀ i, (i < 60 * c ∨ 60 * c + 60 ≤ i) → gI σ 115 i = B i) → (∀ x, x ∈ lsS row k w c e → gL σ 117 x = ptV row k w x) →
    ∃ τ, F_X4_sort_21 (j + 1 + g) (nI c) (nI w) k (nI (60 * c)) (nI (lsS row k w c e).length) (nI e) σ = some τ ∧ RdS row k (nI w) τ ∧ TbE row τ ∧ LRv (gI τ 115) (60 * c) (lsS row k w c (nE row)) ∧ (∀ i, (i < 60 * c ∨ 60 * c + 60 ≤ i) → gI τ 115 i = B i) ∧ gI τ 116 c = nI (lsS row k w c (nE row)).length ∧ Ch [32, 33, 115, 117] [(116, c)] σ τ := by
  obtain ⟨n0, n60⟩ := hE.n
  intro j
  induction j with
  | zero =>
    intro e σ he hR hT hA hB' hP
    rw [show 0 + 1 + g = g + 1 by omega]
    show ∃ τ, B_X4_sort_21 (F_X4_sort_21 g) (nI c) (nI w) k (nI (60 * c)) (nI (lsS row k w c e).length) (nI e) σ = _ ∧ _
    unfold B_X4_sort_21
    rw [rows_e hT, bd_some, if_pos (nI_le (by omega) (by omega)), if_pos (inB_n hc (by decide)), nI_clamp (by omega)]
    have ee : e = nE row := by omega
    rw [ee] at hA hP ⊢
    have k1 : Ch [32, 33, 115, 117] [(116, c)] σ (sI σ 116 c (nI (lsS row k w c (nE row)).length)) := Ch.sI1 (Or.inl (by simp))
    refine ⟨_, rfl, hR.ch (cs := [116]) (fs := []) (Ch.sI1 (Or.inr (by simp))) (by simp) (by simp), hT.ch (cs := [116]) (fs := []) (Ch.sI1 (Or.inr (by simp))) (by simp) (by simp), ?_, ?_, gI_sI_at, k1⟩
    · rw [gI_sI_row (by decide)]; exact hA
    · rw [gI_sI_row (by decide)]; exact hB'
  | succ j ih =>
    intro e σ he hR hT hA hB' hP
    have lt : e < nE row := by omega
    rw [show j + 1 + 1 + g = (j + 1 + g) + 1 by omega]
    show ∃ τ, B_X4_sort_21 (F_X4_sort_21 (j + 1 + g)) (nI c) (nI w) k (nI (60 * c)) (nI (lsS row k w c e).length) (nI e) σ = _ ∧ _
    unfold B_X4_sort_21 F_X4_sort_168
    have a0 : F_X8_at 13 (nI e) (0 : Int32) σ = some (en row e 0, σ) := at_en (j := 0) hT lt (by decide)
    have a1 : F_X8_at 13 (nI e) (1 : Int32) σ = some (en row e 1, σ) := at_en (j := 1) hT lt (by decide)
    have a6 : F_X8_at 13 (nI e) (6 : Int32) σ = some (en row e 6, σ) := at_en (j := 6) hT lt (by decide)
    have q1 : inB (nI e) 60 = true := inB_n (by omega) (by omega)
    have n1 : (nI e).toNatClampNeg = e := nI_clamp (by omega)
    rw [rows_e hT, bd_some, if_neg (nI_ge lt (by omega))]
    simp only [a0, a1, a6, bd_some, q1, n1, if_true, nI_1]
    have no : inE row k w c e = false → ∃ τ, F_X4_sort_21 (j + 1 + g) (nI c) (nI w) k (nI (60 * c)) (nI (lsS row k w c e).length) (nI (e + 1)) σ = some τ ∧ RdS row k (nI w) τ ∧ TbE row τ ∧ LRv (gI τ 115) (60 * c) (lsS row k w c (nE row)) ∧ (∀ i, (i < 60 * c ∨ 60 * c + 60 ≤ i) → gI τ 115 i = B i) ∧ gI τ 116 c = nI (lsS row k w c (nE row)).length ∧ Ch [32, 33, 115, 117] [(116, c)] σ τ := fun hn => by
      have es : lsS row k w c (e + 1) = lsS row k w c e := by rw [lsS_s, hn]; rfl
      have := ih (e + 1) σ (by omega) hR hT (by rw [es]; exact hA) hB' (by rw [es]; exact hP)
      rw [es] at this; exact this
    by_cases c1 : en row e 0 = nI c
    · rw [if_pos c1]
      by_cases c3 : nI w < en row e 1
      · rw [if_pos c3]; exact no (decide_eq_false (fun z => z.2.2 c3))
      · rw [if_neg c3]
        by_cases c2 : k < en row e 6
        · rw [if_pos c2]; exact no (decide_eq_false (fun z => z.2.1 c2))
        · rw [if_neg c2]
          have yes : inE row k w c e = true := decide_eq_true ⟨c1, c2, c3⟩
          obtain ⟨τ1, t1, t2, t2', t3⟩ := F_weightOf hV hW hE lt hw hT hR
          rw [t1, bd_some, nI_add]
          have k1 : Ch [117] [] τ1 (sL τ1 117 e (ptV row k w e)) := Ch.sL1 (Or.inr (by simp))
          have A1 : LRv (gI (sL τ1 117 e (ptV row k w e)) 115) (60 * c) (lsS row k w c e) := by rw [gI_sL, t3.rI (by simp) (by simp)]; exact hA
          have B1 : ∀ i, (i < 60 * c ∨ 60 * c + 60 ≤ i) → gI (sL τ1 117 e (ptV row k w e)) 115 i = B i := by rw [gI_sL, t3.rI (by simp) (by simp)]; exact hB'
          have P1 : gL (sL τ1 117 e (ptV row k w e)) 117 e = ptV row k w e ∧ ∀ x, x ∈ lsS row k w c e → gL (sL τ1 117 e (ptV row k w e)) 117 x = ptV row k w x := ⟨gL_sL_at, fun x hx => by
            have := lsS_mem e x hx
            rw [gL_sL_ne (by omega), t3.rL (by simp) (by simp)]; exact hP x hx⟩
          have T1 : TbE row (sL τ1 117 e (ptV row k w e)) := t2'.ch k1 (by simp) (by simp)
          have hlen := lsS_len (row := row) (k := k) (w := w) (c := c) e
          obtain ⟨g2, hg2⟩ := BIGe (lsS row k w c e).length (by omega)
          obtain ⟨k', σ', z1, z2, z3, z4, z5⟩ := ins_gen2 (cell := 115) (off := 60 * c) (p := e) (g := g2) (M := fun x => x ∈ lsS row k w c e) (lim := 59) (ah := ahE row k w e)
            (G := fun f q t => F_X4_sort_109 (F_X4_sort_21 (j + 1 + g)) f (nI c) (nI w) k (nI (60 * c)) (nI (lsS row k w c e).length) (nI e) (nI (60 * c + q)) t)
            (E := fun q t => F_X4_sort_156 (F_X4_sort_21 (j + 1 + g)) (nI c) (nI w) k (nI (60 * c)) (nI (lsS row k w c e).length) (nI e) (nI (60 * c + q)) t)
            (P := fun t => TbE row t ∧ (gL t 117 e = ptV row k w e ∧ ∀ x, x ∈ lsS row k w c e → gL t 117 x = ptV row k w x) ∧ ∀ i, (i < 60 * c ∨ 60 * c + 60 ≤ i) → gI t 115 i = B i)
            (fun f t ht => by
              show B_X4_sort_109 (F_X4_sort_21 (j + 1 + g)) (F_X4_sort_109 (F_X4_sort_21 (j + 1 + g)) f) (nI c) (nI w) k (nI (60 * c)) (nI (lsS row k w c e).length) (nI e) (nI (60 * c + 0)) t = _
              unfold B_X4_sort_109
              rw [if_pos (nI_le (by omega) (by omega))])
            (fun f q t x ht hq hx hxM hah => by
              show B_X4_sort_109 (F_X4_sort_21 (j + 1 + g)) (F_X4_sort_109 (F_X4_sort_21 (j + 1 + g)) f) (nI c) (nI w) k (nI (60 * c)) (nI (lsS row k w c e).length) (nI e) (nI (60 * c + (q + 1))) t = _
              unfold B_X4_sort_109
              have m1 : nI (60 * c + (q + 1)) - (1 : Int32) = nI (60 * c + q) := nI_pred (60 * c + q)
              have lx := lsS_mem e x hxM
              rw [if_neg (nI_ge (by omega) (by omega)), m1, if_pos (inB_n (by omega) (by omega)), nI_clamp (by omega), hx, F_isAheadC hE lt (by omega) ht.1 ht.2.1.1 (ht.2.1.2 x hxM), bd_some, hah, if_pos (show b2 false = 0 from rfl)])
            (fun f q t x ht hq hx hxM hah => by
              show B_X4_sort_109 (F_X4_sort_21 (j + 1 + g)) (F_X4_sort_109 (F_X4_sort_21 (j + 1 + g)) f) (nI c) (nI w) k (nI (60 * c)) (nI (lsS row k w c e).length) (nI e) (nI (60 * c + (q + 1))) t = _
              unfold B_X4_sort_109
              have m1 : nI (60 * c + (q + 1)) - (1 : Int32) = nI (60 * c + q) := nI_pred (60 * c + q)
              have m2 : nI (60 * c + (q + 1)) + (-1) = nI (60 * c + q) := pk_m1 (60 * c + q)
              have lx := lsS_mem e x hxM
              rw [if_neg (nI_ge (by omega) (by omega)), m1, if_pos (inB_n (by omega) (by omega)), nI_clamp (by omega), hx, F_isAheadC hE lt (by omega) ht.1 ht.2.1.1 (ht.2.1.2 x hxM), bd_some, hah, if_neg (show ¬ b2 true = 0 by decide), if_pos (inB_n (by omega) (by omega)), if_pos (inB_n (by omega) (by omega)), nI_clamp (by omega), m2, hx]
              rfl)
            (fun t q v h1 h2 ht => ⟨ht.1.ch (cs := [115]) (fs := []) (Ch.sI1 (Or.inr (by simp))) (by simp) (by simp), ht.2.1, fun i hi => by rw [gI_sI_ne (by omega)]; exact ht.2.2 i hi⟩)
            (lsS row k w c e) [] (sL τ1 117 e (ptV row k w e)) ⟨T1, P1, B1⟩ (by simp; omega) (fun x hx => hx) A1 (fun i hi => absurd hi (Nat.not_lt_zero i))
          have z1' : F_X4_sort_109 (F_X4_sort_21 (j + 1 + g)) BIG (nI c) (nI w) k (nI (60 * c)) (nI (lsS row k w c e).length) (nI e) (nI (60 * c + (lsS row k w c e).length)) (sL τ1 117 e (ptV row k w e)) = F_X4_sort_156 (F_X4_sort_21 (j + 1 + g)) (nI c) (nI w) k (nI (60 * c)) (nI (lsS row k w c e).length) (nI e) (nI (60 * c + k')) σ' := by rw [hg2]; exact z1
          rw [z1']
          unfold F_X4_sort_156 F_X4_sort_168
          rw [if_pos (inB_n (by omega) (by omega)), nI_clamp (by omega), nI_1, nI_1]
          have es : lsS row k w c (e + 1) = insR (ahE row k w e) e (lsS row k w c e) := by rw [lsS_s, if_pos yes]
          have el : (lsS row k w c (e + 1)).length = (lsS row k w c e).length + 1 := by rw [es, insR_len]
          have c6 : Ch [115] [] σ' (sI σ' 115 (60 * c + k') (nI e)) := Ch.sI1 (Or.inr (by simp))
          have call : Ch [32, 33, 115, 117] [(116, c)] σ (sI σ' 115 (60 * c + k') (nI e)) := (((t3.mono (by simp) (by simp)).trans (k1.mono (by simp) (by simp))).trans (z5.mono (by simp) (by simp))).trans (c6.mono (by simp) (by simp))
          have R2 : RdS row k (nI w) (sI σ' 115 (60 * c + k') (nI e)) := ((t2.ch k1 (by simp) (by simp)).ch z5 (by simp) (by simp)).ch c6 (by simp) (by simp)
          have := ih (e + 1) (sI σ' 115 (60 * c + k') (nI e)) (by omega) R2 (z3.1.ch c6 (by simp) (by simp)) (by rw [es, gI_sI_own]; exact z4) (fun i hi => by rw [gI_sI_ne (by omega)]; exact z3.2.2 i hi) (fun x hx => by
            rw [es] at hx
            rw [gL_sI]
            rcases insR_mem _ _ hx with y | y
            · rw [y]; exact z3.2.1.1
            · exact z3.2.1.2 x y)
          rw [el] at this
          obtain ⟨τ2, u1, u2, u3, u4, u5, u6, u7⟩ := this
          exact ⟨τ2, u1, u2, u3, u4, u5, u6, call.trans u7⟩
    · rw [if_neg c1]; exact no (decide_eq_false (fun z => c1 z.1))
theorem F_sort {row : Nat → Int32} {k : Int32} {w c : Nat} {σ : AH} (hV : AV row) (hW : AW row) (hE : EV row) (hw : w < 260) (hc : c < 6) (hT : TbE row σ) (hL : LwI row σ) :
    ∃ τ, F_X4_sort (nI c) (nI w) k σ = some τ ∧ LwI row τ ∧ TbE row τ ∧ LRv (gI τ 115) (60 * c) (lsS row k w c (nE row)) ∧ (∀ i, (i < 60 * c ∨ 60 * c + 60 ≤ i) → gI τ 115 i = gI σ 115 i) ∧ gI τ 116 c = nI (lsS row k w c (nE row)).length ∧ (∀ i, i ≠ c → gI τ 116 i = gI σ 116 i) ∧ Ch [31, 32, 33, 115, 116, 117] [(28, 6)] σ τ := by
  have n60 := hE.n.2
  unfold F_X4_sort
  obtain ⟨τ1, t1, t2, t3⟩ := F_settled (k := k) (w := nI w) hV hW hL
  have m60 : nI c * (60 : Int32) = nI (60 * c) := by simp only [fa_lit, pk_mul]; rw [Nat.mul_comm]
  obtain ⟨g, hg⟩ := BIGe (nE row) (by omega)
  obtain ⟨τ, u1, u2, u3, u4, u5, u6, u7⟩ := sort_loop (g := g) (B := gI τ1 115) hV hW hE hw hc (nE row) 0 τ1 (by omega) t2 (hT.ch t3 (by simp [LWc]) (by simp [LWf])) (fun i hi => absurd hi (Nat.not_lt_zero i)) (fun _ _ => rfl) (fun x hx => by cases hx)
  have u1' : F_X4_sort_21 BIG (nI c) (nI w) k (nI (60 * c)) (0 : Int32) (0 : Int32) τ1 = some τ := by rw [hg]; exact u1
  rw [t1, bv_some, m60, u1']
  refine ⟨τ, rfl, u2.1, u3, u4, fun i hi => ?_, u6, fun i hi => ?_, (t3.mono (by simp [LWc]) (by simp [LWf])).trans (u7.mono (by simp) (by simp))⟩
  · rw [u5 i hi, t3.rI (by simp [LWc]) (by simp [LWf])]
  · rw [u7.pI (by simp) (by simp; omega), t3.rI (by simp [LWc]) (by simp [LWf])]
end
