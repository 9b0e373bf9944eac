section
/-! order and beside, both sides -/
theorem F_isCouncil {x : Int32} {σ : AH} : F_X12_isCouncil x σ = some (if rgB 0 5 x = true then 1 else 0, σ) := by
  unfold F_X12_isCouncil
  rw [in05, bd_some, if_pos b01']
def fwL (L : List Nat) (i : Nat) : Nat := L.getD (L.length - 1 - i) 0
theorem fwL_mem {L : List Nat} {i : Nat} (h : i < L.length) : fwL L i ∈ L := by
  unfold fwL
  rw [List.getD_eq_getElem?_getD, List.getElem?_eq_getElem (by omega)]
  exact List.getElem_mem _
def ordV (L : List Nat) (x4 : Int32) : Int32 := if x4 = -1 then nI L.length else if ltB L.length x4 = true then nI (fwL L (cl x4)) else -1
def orderV (row : Nat → Int32) (x1 x2 x3 x4 : Int32) : Int32 := if rgB 0 5 x1 = true then (if rgB 0 259 x2 = true then (if rgB 0 259 x3 = true then ordV (lsS row x3 (cl x2) (cl x1) (nE row)) x4 else -1) else -1) else -1
def LQc : List Nat := [134, 135, 136, 137, 138, 139, 161, 162, 163]
def LQf : List (Nat × Nat) := [(124, 0), (124, 23), (124, 24), (124, 29), (124, 30), (124, 31), (124, 32), (124, 65)]
theorem P_order {row : Nat → Int32} {x1 x2 x3 x4 : Int32} {σ : AH} (hV : AV row) (hE : EV row) (hr : gI σ 125 = row) : ∃ τ, F_X12_order x1 x2 x3 x4 σ = some (orderV row x1 x2 x3 x4, τ) ∧ Ch LQc LQf σ τ := by
  have n60 := hE.n.2
  have c0 : Ch LQc LQf σ (sI σ 124 0 0) := Ch.sI1 (Or.inl (by simp [LQf]))
  have no : ∀ v : Int32, v = -1 → ∃ τ, some ((-1 : Int32), sI σ 124 0 0) = some (v, τ) ∧ Ch LQc LQf σ τ := fun v hv => ⟨_, by rw [hv], c0⟩
  unfold F_X12_order orderV
  simp only [F_isCouncil, F_isWeek, bd_b (α := Int32)]
  by_cases c1 : rgB 0 5 x1 = true
  · rw [if_pos c1, if_pos c1]
    by_cases c2 : rgB 0 259 x2 = true
    · rw [if_pos c2, if_pos c2]
      by_cases c3 : rgB 0 259 x3 = true
      · rw [if_pos c3, if_pos c3]
        obtain ⟨e1, b1⟩ := rg0_n (b := 5) c1 (by decide)
        obtain ⟨e2, b2'⟩ := rg0_n (b := 259) c2 (by decide)
        obtain ⟨τ1, k1, k2, k3, k4⟩ := F_knowBy (k := x3) (σ := sI σ 124 0 0) (row := row) hr
        obtain ⟨τ, t1, t2, t3, t4, t5⟩ := F_findList (w := cl x2) (c := cl x1) hV hE (by omega) (by omega) k2
        rw [← e1, ← e2] at t1
        rw [k1, bv_some, t1, bv_some, t3]
        have cF : Ch LQc LQf σ τ := (c0.trans (k4.mono (by simp [LQc]) (by simp [LQf]))).trans (t5.mono (by simp [LSc, LQc]) (by simp [LSf, FDf, LQf]))
        have hl := lsS_len (row := row) (k := x3) (w := cl x2) (c := cl x1) (nE row)
        unfold ordV
        by_cases c4 : x4 = -1
        · rw [if_pos c4, if_pos c4]; exact ⟨τ, rfl, cF⟩
        · rw [if_neg c4, if_neg c4, F_inN (by omega), bd_b (α := Int32)]
          by_cases c5 : ltB (lsS row x3 (cl x2) (cl x1) (nE row)).length x4 = true
          · obtain ⟨e4, b4⟩ := ltB_n c5 (by omega)
            have q : inB x4 60 = true := by rw [e4]; exact inB_n (by omega) (by omega)
            have g4 : gI τ 162 x4.toNatClampNeg = nI (fwL (lsS row x3 (cl x2) (cl x1) (nE row)) (cl x4)) := by
              have := t4 (cl x4) b4
              rw [Nat.zero_add] at this; exact this
            rw [if_pos c5, if_pos c5, if_pos q, g4]; exact ⟨τ, rfl, cF⟩
          · rw [if_neg c5, if_neg c5]; exact ⟨τ, rfl, cF⟩
      · rw [if_neg c3, if_neg c3]; exact no _ rfl
    · rw [if_neg c2, if_neg c2]; exact no _ rfl
  · rw [if_neg c1, if_neg c1]; exact no _ rfl
def LCq : List Nat := [31, 32, 33, 115, 116, 117, 118]
theorem C_order {row : Nat → Int32} {x1 x2 x3 x4 : Int32} {σ : AH} (hV : AV row) (hW : AW row) (hE : EV row) (hT : TbE row σ) (hL : LwI row σ) : ∃ τ, F_X11_order x1 x2 x3 x4 σ = some (orderV row x1 x2 x3 x4, τ) ∧ LwI row τ ∧ TbE row τ ∧ Ch LCq [(28, 6)] σ τ := by
  have n60 := hE.n.2
  have no : ∀ v : Int32, v = -1 → ∃ τ, some ((-1 : Int32), σ) = some (v, τ) ∧ LwI row τ ∧ TbE row τ ∧ Ch LCq [(28, 6)] σ τ := fun v hv => ⟨_, by rw [hv], hL, hT, Ch.rf _⟩
  unfold F_X11_order orderV
  simp only [isIn05, F_isWeekC, bd_b (α := Int32)]
  by_cases c1 : rgB 0 5 x1 = true
  · rw [if_pos c1, if_pos c1]
    by_cases c2 : rgB 0 259 x2 = true
    · rw [if_pos c2, if_pos c2]
      by_cases c3 : rgB 0 259 x3 = true
      · rw [if_pos c3, if_pos c3]
        obtain ⟨e1, b1⟩ := rg0_n (b := 5) c1 (by decide)
        obtain ⟨e2, b2'⟩ := rg0_n (b := 259) c2 (by decide)
        obtain ⟨τ, t1, t2, t3, t4, t5, t6, t7, t8⟩ := F_sort (k := x3) (w := cl x2) (c := cl x1) hV hW hE (by omega) (by omega) hT hL
        rw [← e1, ← e2] at t1
        have q1 : inB x1 6 = true := by rw [e1]; exact inB_n (by omega) (by omega)
        have g6 : gI τ 116 x1.toNatClampNeg = nI (lsS row x3 (cl x2) (cl x1) (nE row)).length := t6
        rw [t1, bv_some, if_pos q1, if_pos q1, g6]
        have cF : Ch LCq [(28, 6)] σ τ := t8.mono (by simp [LCq]) (by simp)
        have hl := lsS_len (row := row) (k := x3) (w := cl x2) (c := cl x1) (nE row)
        unfold ordV
        by_cases c4 : x4 = -1
        · rw [if_pos c4, if_pos c4]; exact ⟨τ, rfl, t2, t3, cF⟩
        · rw [if_neg c4, if_neg c4, isInN (by omega), bd_b (α := Int32)]
          by_cases c5 : ltB (lsS row x3 (cl x2) (cl x1) (nE row)).length x4 = true
          · obtain ⟨e4, b4⟩ := ltB_n c5 (by omega)
            have ix : x1 * (60 : Int32) + x4 = nI (60 * cl x1 + cl x4) := by
              have : nI (cl x1) * (60 : Int32) + nI (cl x4) = nI (60 * cl x1 + cl x4) := by simp only [fa_lit, nI_add, pk_mul]; rw [Nat.mul_comm]
              rw [← e1, ← e4] at this; exact this
            have g4 : gI τ 115 (60 * cl x1 + cl x4) = nI (fwL (lsS row x3 (cl x2) (cl x1) (nE row)) (cl x4)) := t4 (cl x4) b4
            rw [if_pos c5, if_pos c5, ix, if_pos (inB_n (by omega) (by omega)), nI_clamp (by omega), g4]; exact ⟨τ, rfl, t2, t3, cF⟩
          · rw [if_neg c5, if_neg c5]; exact ⟨τ, rfl, t2, t3, cF⟩
      · rw [if_neg c3, if_neg c3]; exact no _ rfl
    · rw [if_neg c2, if_neg c2]; exact no _ rfl
  · rw [if_neg c1, if_neg c1]; exact no _ rfl
/-! beside -/
def plS (L : List Nat) : Nat → Nat → Int32 := fun i => match i with
  | 0 => fun _ => -1
  | i + 1 => va_up (plS L i) (fwL L i) (nI i)
theorem plS_v {L : List Nat} : ∀ i x, plS L i x = -1 ∨ ∃ j, j < i ∧ plS L i x = nI j := by
  intro i
  induction i with
  | zero => intro x; exact Or.inl rfl
  | succ i ih =>
    intro x
    unfold plS
    by_cases c : x = fwL L i
    · rw [c, up_same]; exact Or.inr ⟨i, by omega, rfl⟩
    · rw [up_ne _ _ _ c]
      rcases ih x with h | ⟨j, h1, h2⟩
      · exact Or.inl h
      · exact Or.inr ⟨j, by omega, h2⟩
def trB (P : Nat → Int32) (L : List Nat) (a i : Nat) : Bool := decide (P (fwL L a) ≠ -1 ∧ P (fwL L i) ≠ -1 ∧ ¬ P (fwL L i) ≤ P (fwL L a))
def trI (P : Nat → Int32) (L : List Nat) (a : Nat) : Nat → Nat := fun i => match i with
  | 0 => 0
  | i + 1 => trI P L a i + (if trB P L a i = true then 1 else 0)
def trO (P : Nat → Int32) (L : List Nat) : Nat → Nat := fun a => match a with
  | 0 => 0
  | a + 1 => trO P L a + trI P L a a
def besideV (row : Nat → Int32) (x1 x2 x3 x4 : Int32) : Int32 := if rgB 0 5 x1 = true then (if rgB 0 259 x2 = true then (if rgB 0 259 x3 = true then (if rgB 0 259 x4 = true then nI (trO (plS (lsS row x3 (cl x2) (cl x1) (nE row)) (lsS row x3 (cl x2) (cl x1) (nE row)).length) (lsS row x4 (cl x2) (cl x1) (nE row)) (lsS row x4 (cl x2) (cl x1) (nE row)).length) else -1) else -1) else -1) else -1
theorem bes_133 {P : Nat → Int32} {L : List Nat} {a g S : Nat} {K : Int32 → Int32 → AH → Option (Int32 × AH)} {σ : AH} (hl : L.length ≤ 60) (ha : a < L.length) (hm : ∀ x, x ∈ L → x < 60) (hA : LRv (gI σ 162) 0 L) (hP : ∀ x, x < 60 → gI σ 163 x = P x) : ∀ (j i : Nat), i + j = a → F_X12_beside_133 K (j + 1 + g) (nI (S + trI P L a i)) (nI a) (nI i) σ = K (nI (S + trI P L a a)) (nI (a + 1)) σ := by
  intro j
  induction j with
  | zero =>
    intro i hi
    rw [show 0 + 1 + g = g + 1 by omega]
    show B_X12_beside_133 K (F_X12_beside_133 K g) (nI (S + trI P L a i)) (nI a) (nI i) σ = _
    unfold B_X12_beside_133
    rw [if_pos (nI_le (by omega) (by omega)), nI_1, show i = a by omega]
  | succ j ih =>
    intro i hi
    rw [show j + 1 + 1 + g = (j + 1 + g) + 1 by omega]
    show B_X12_beside_133 K (F_X12_beside_133 K (j + 1 + g)) (nI (S + trI P L a i)) (nI a) (nI i) σ = _
    unfold B_X12_beside_133 F_X12_beside_176 F_X12_beside_177 F_X12_beside_217 F_X12_beside_218
    have qa : inB (nI a) 60 = true := inB_n (by omega) (by omega)
    have qi : inB (nI i) 60 = true := inB_n (by omega) (by omega)
    have na : (nI a).toNatClampNeg = a := nI_clamp (by omega)
    have ni : (nI i).toNatClampNeg = i := nI_clamp (by omega)
    have ga : gI σ 162 a = nI (fwL L a) := by have := hA a ha; rw [Nat.zero_add] at this; exact this
    have gi : gI σ 162 i = nI (fwL L i) := by have := hA i (by omega); rw [Nat.zero_add] at this; exact this
    have la := hm _ (fwL_mem ha)
    have li := hm _ (fwL_mem (L := L) (i := i) (by omega))
    have qfa : inB (nI (fwL L a)) 60 = true := inB_n la (by omega)
    have qfi : inB (nI (fwL L i)) 60 = true := inB_n li (by omega)
    have nfa : (nI (fwL L a)).toNatClampNeg = fwL L a := nI_clamp (by omega)
    have nfi : (nI (fwL L i)).toNatClampNeg = fwL L i := nI_clamp (by omega)
    have z0 : ((0 : Int32) = 0) = True := eq_self _
    have z1 : ((1 : Int32) = 0) = False := by decide
    rw [if_neg (nI_ge (by omega) (by omega))]
    simp only [qa, qi, na, ni, ga, gi, qfa, qfi, nfa, nfi, if_true, if_false, z0, z1, hP _ la, hP _ li, nI_1, show ∀ x : Nat, nI x + (0 : Int32) = nI (x + 0) from fun x => nI_add x 0]
    have ih' := ih (i + 1) (by omega)
    have st : trI P L a (i + 1) = trI P L a i + (if trB P L a i = true then 1 else 0) := rfl
    rw [st] at ih'
    by_cases c1 : P (fwL L a) = -1
    · have t : trB P L a i = false := decide_eq_false (fun z => z.1 c1)
      rw [t, if_neg (by decide)] at ih'
      rw [if_pos c1]; exact ih'
    · rw [if_neg c1]
      by_cases c2 : P (fwL L i) = -1
      · have t : trB P L a i = false := decide_eq_false (fun z => z.2.1 c2)
        rw [t, if_neg (by decide)] at ih'
        rw [if_pos c2]; exact ih'
      · rw [if_neg c2]
        by_cases c3 : P (fwL L i) ≤ P (fwL L a)
        · have t : trB P L a i = false := decide_eq_false (fun z => z.2.2 c3)
          rw [t, if_neg (by decide)] at ih'
          rw [if_pos c3]; exact ih'
        · have t : trB P L a i = true := decide_eq_true ⟨c1, c2, c3⟩
          rw [t, if_pos rfl] at ih'
          rw [if_neg c3]; exact ih'
theorem bes_121 {P : Nat → Int32} {L : List Nat} {g : Nat} {σ : AH} (hl : L.length ≤ 60) (hm : ∀ x, x ∈ L → x < 60) (h5 : gI σ 124 65 = nI L.length) (hA : LRv (gI σ 162) 0 L) (hP : ∀ x, x < 60 → gI σ 163 x = P x) : ∀ (j a : Nat), a + j = L.length → F_X12_beside_121 (j + 1 + g) (nI (trO P L a)) (nI a) σ = some (nI (trO P L L.length), σ) := by
  intro j
  induction j with
  | zero =>
    intro a ha
    rw [show 0 + 1 + g = g + 1 by omega]
    show B_X12_beside_121 (F_X12_beside_121 g) (nI (trO P L a)) (nI a) σ = _
    unfold B_X12_beside_121
    rw [h5, if_pos (nI_le (by omega) (by omega)), show a = L.length by omega]
  | succ j ih =>
    intro a ha
    rw [show j + 1 + 1 + g = (j + 1 + g) + 1 by omega]
    show B_X12_beside_121 (F_X12_beside_121 (j + 1 + g)) (nI (trO P L a)) (nI a) σ = _
    unfold B_X12_beside_121
    obtain ⟨g2, hg2⟩ := BIGe a (by omega)
    have k := bes_133 (S := trO P L a) (g := g2) (K := F_X12_beside_121 (j + 1 + g)) hl (show a < L.length by omega) hm hA hP a 0 (by omega)
    have k' : F_X12_beside_133 (F_X12_beside_121 (j + 1 + g)) BIG (nI (trO P L a)) (nI a) (0 : Int32) σ = F_X12_beside_121 (j + 1 + g) (nI (trO P L a + trI P L a a)) (nI (a + 1)) σ := by rw [hg2]; exact k
    rw [h5, if_neg (nI_ge (by omega) (by omega)), k']
    exact ih (a + 1) (by omega)
theorem P_beside {row : Nat → Int32} {x1 x2 x3 x4 : Int32} {σ : AH} (hV : AV row) (hE : EV row) (hr : gI σ 125 = row) : ∃ τ, F_X12_beside x1 x2 x3 x4 σ = some (besideV row x1 x2 x3 x4, τ) ∧ Ch LQc LQf σ τ := by
  have n60 := hE.n.2
  have c0 : Ch LQc LQf σ (sI σ 124 0 0) := Ch.sI1 (Or.inl (by simp [LQf]))
  have no : ∀ v : Int32, v = -1 → ∃ τ, some ((-1 : Int32), sI σ 124 0 0) = some (v, τ) ∧ Ch LQc LQf σ τ := fun v hv => ⟨_, by rw [hv], c0⟩
  unfold F_X12_beside besideV
  simp only [F_isCouncil, F_isWeek, bd_b (α := Int32)]
  by_cases c1 : rgB 0 5 x1 = true
  · rw [if_pos c1, if_pos c1]
    by_cases c2 : rgB 0 259 x2 = true
    · rw [if_pos c2, if_pos c2]
      by_cases c3 : rgB 0 259 x3 = true
      · rw [if_pos c3, if_pos c3]
        by_cases c4 : rgB 0 259 x4 = true
        · rw [if_pos c4, if_pos c4]
          obtain ⟨e1, b1⟩ := rg0_n (b := 5) c1 (by decide)
          obtain ⟨e2, b2'⟩ := rg0_n (b := 259) c2 (by decide)
          obtain ⟨c, hc⟩ : ∃ c, c = cl x1 := ⟨_, rfl⟩
          obtain ⟨w, hw⟩ : ∃ w, w = cl x2 := ⟨_, rfl⟩
          rw [← hc] at e1 b1 ⊢
          rw [← hw] at e2 b2' ⊢
          rw [e1, e2]
          obtain ⟨g, hg⟩ := BIGe 60 (by decide)
          have fl := fill_gen (N := 60) (cell := 163) (g := g) (v := (-1 : Int32)) (G := fun f x s => F_X12_beside_39 f (nI c) (nI w) x3 x4 x s) (E := fun s => bv (F_X12_knowBy x3 s) fun σ26 => bv (F_X12_findList (nI c) (nI w) σ26) fun σ31 => F_X12_beside_74 BIG (nI c) (nI w) x4 (0 : Int32) σ31) (fun f i s hi => by
            show B_X12_beside_39 (F_X12_beside_39 f) (nI c) (nI w) x3 x4 (nI i) s = _
            unfold B_X12_beside_39
            rw [fa_lit 60, if_neg (nI_ge hi (by decide)), if_pos (inB_n hi (by decide)), nI_clamp (by omega), nI_1]) (fun f s => by
            show B_X12_beside_39 (F_X12_beside_39 f) (nI c) (nI w) x3 x4 (nI 60) s = _
            unfold B_X12_beside_39
            rw [fa_lit 60, if_pos (nI_le (Nat.le_refl _) (by decide))]) 60 0 (sI σ 124 0 0) (by omega)
          have fl' : F_X12_beside_39 BIG (nI c) (nI w) x3 x4 (0 : Int32) (sI σ 124 0 0) = _ := (congrArg (fun z => F_X12_beside_39 z (nI c) (nI w) x3 x4 (0 : Int32) (sI σ 124 0 0)) hg).trans fl
          rw [fl']
          obtain ⟨σ1, hσ1⟩ : ∃ x, x = sA (sI σ 124 0 0) 163 (fun q => if 0 ≤ q ∧ q < 60 then (-1 : Int32) else gI (sI σ 124 0 0) 163 q) := ⟨_, rfl⟩
          rw [← hσ1]
          have k0 : Ch LQc LQf σ σ1 := by rw [hσ1]; exact c0.trans (Ch.sA1 (by simp [LQc]))
          have r1 : gI σ1 125 = row := by rw [hσ1, gI_sA_row (by decide)]; exact hr
          have p1 : ∀ x, x < 60 → gI σ1 163 x = -1 := fun x hx => by rw [hσ1, gI_sA_own, if_pos ⟨Nat.zero_le x, hx⟩]
          obtain ⟨τ1, k1, k2, k3, k4⟩ := F_knowBy (k := x3) (σ := σ1) (row := row) r1
          obtain ⟨τ2, t1, t2, t3, t4, t5⟩ := F_findList (w := w) (c := c) hV hE (by omega) (by omega) k2
          rw [k1, bv_some, t1, bv_some]
          obtain ⟨L1, hL1⟩ : ∃ L, L = lsS row x3 w c (nE row) := ⟨_, rfl⟩
          rw [← hL1] at t3 t4 ⊢
          have l1 : L1.length ≤ 60 := by rw [hL1]; exact Nat.le_trans (lsS_len _) n60
          have m1 : ∀ x, x ∈ L1 → x < 60 := fun x hx => by rw [hL1] at hx; have := lsS_mem _ x hx; omega
          obtain ⟨g2, hg2⟩ := BIGe L1.length (by omega)
          obtain ⟨τ3, u1, u2, u3⟩ := loop_inv (N := L1.length) (g := g2) (cs := [163]) (fs := []) (G := fun f x s => F_X12_beside_74 f (nI c) (nI w) x4 x s) (E := fun s => bv (F_X12_knowBy x4 s) fun σ37 => bv (F_X12_findList (nI c) (nI w) σ37) fun σ42 => F_X12_beside_121 BIG (0 : Int32) (0 : Int32) σ42) (P := fun i s => (gI s 124 65 = nI L1.length ∧ LRv (gI s 162) 0 L1 ∧ gI s 125 = row) ∧ ∀ x, x < 60 → gI s 163 x = plS L1 i x) (fun f i s hi h => by
            obtain ⟨⟨h1, h2, h3⟩, h4⟩ := h
            have gi : gI s 162 i = nI (fwL L1 i) := by have := h2 i hi; rw [Nat.zero_add] at this; exact this
            have li := m1 _ (fwL_mem hi)
            have kk : Ch [163] [] s (sI s 163 (fwL L1 i) (nI i)) := Ch.sI1 (Or.inr (by simp))
            refine ⟨_, ?_, ⟨⟨by rw [kk.rI (by simp) (by simp)]; exact h1, by rw [kk.rI (by simp) (by simp)]; exact h2, by rw [kk.rI (by simp) (by simp)]; exact h3⟩, fun x hx => ?_⟩, kk⟩
            · show B_X12_beside_74 (F_X12_beside_74 f) (nI c) (nI w) x4 (nI i) s = _
              unfold B_X12_beside_74
              have nfi : (nI (fwL L1 i)).toNatClampNeg = fwL L1 i := nI_clamp (by omega)
              rw [h1, if_neg (nI_ge hi (by omega)), if_pos (inB_n (by omega) (by omega)), show (nI i).toNatClampNeg = i from nI_clamp (by omega), gi, if_pos (inB_n li (by omega)), nfi, nI_1]
            · rw [gI_sI_own]
              unfold plS
              by_cases e : x = fwL L1 i
              · rw [e, up_same, up_same]
              · rw [up_ne _ _ _ e, up_ne _ _ _ e]; exact h4 x hx) (fun f s h => by
            show B_X12_beside_74 (F_X12_beside_74 f) (nI c) (nI w) x4 (nI L1.length) s = _
            unfold B_X12_beside_74
            rw [h.1.1, if_pos (nI_le (Nat.le_refl _) (by omega))]) L1.length 0 τ2 (by omega) ⟨⟨t3, t4, t2.1⟩, fun x hx => by
            rw [t5.rI (by simp [LSc]) (by simp [LSf, FDf]), k4.rI (by simp) (by simp)]; exact p1 x hx⟩
          have u1' : F_X12_beside_74 BIG (nI c) (nI w) x4 (0 : Int32) τ2 = _ := (congrArg (fun z => F_X12_beside_74 z (nI c) (nI w) x4 (0 : Int32) τ2) hg2).trans u1
          rw [u1']
          obtain ⟨τ4, v1, v2, v3, v4⟩ := F_knowBy (k := x4) (σ := τ3) (row := row) u2.1.2.2
          obtain ⟨τ5, w1, w2, w3, w4, w5⟩ := F_findList (w := w) (c := c) hV hE (by omega) (by omega) v2
          rw [v1, bv_some, w1, bv_some]
          obtain ⟨L2, hL2⟩ : ∃ L, L = lsS row x4 w c (nE row) := ⟨_, rfl⟩
          rw [← hL2] at w3 w4 ⊢
          have l2 : L2.length ≤ 60 := by rw [hL2]; exact Nat.le_trans (lsS_len _) n60
          have m2 : ∀ x, x ∈ L2 → x < 60 := fun x hx => by rw [hL2] at hx; have := lsS_mem _ x hx; omega
          obtain ⟨g3, hg3⟩ := BIGe L2.length (by omega)
          have z := bes_121 (P := plS L1 L1.length) (g := g3) (σ := τ5) l2 m2 w3 w4 (fun x hx => by
            rw [w5.rI (by simp [LSc]) (by simp [LSf, FDf]), v4.rI (by simp) (by simp)]; exact u2.2 x hx) L2.length 0 (by omega)
          have z' : F_X12_beside_121 BIG (0 : Int32) (0 : Int32) τ5 = some (nI (trO (plS L1 L1.length) L2 L2.length), τ5) := by rw [hg3]; exact z
          rw [z']
          exact ⟨τ5, rfl, ((((k0.trans (k4.mono (by simp [LQc]) (by simp [LQf]))).trans (t5.mono (by simp [LSc, LQc]) (by simp [LSf, FDf, LQf]))).trans (u3.mono (by simp [LQc]) (by simp))).trans (v4.mono (by simp [LQc]) (by simp [LQf]))).trans (w5.mono (by simp [LSc, LQc]) (by simp [LSf, FDf, LQf]))⟩
        · rw [if_neg c4, if_neg c4]; exact no _ rfl
      · rw [if_neg c3, if_neg c3]; exact no _ rfl
    · rw [if_neg c2, if_neg c2]; exact no _ rfl
  · rw [if_neg c1, if_neg c1]; exact no _ rfl
end
