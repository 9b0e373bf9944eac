section
/-! beside: the class -/
theorem trn_103 {L1 L : List Nat} {a g S c N1 : Nat} {K : Int32 → Int32 → Int32 → Int32 → AH → Option (Int32 × AH)} {σ : AH} (hc : c < 6) (hl : L.length ≤ 60) (ha : a < L.length) (hm : ∀ x, x ∈ L → x < 60) (hn1 : N1 ≤ 60) (hA : LRv (gI σ 115) (60 * c) L) (hP : ∀ x, x < 60 → gI σ 118 x = plS L1 N1 x) : ∀ (j i : Nat), i + j = a → F_X4_turned_103 K (j + 1 + g) (nI c) (nI (60 * c)) (nI (S + trI (plS L1 N1) L a i)) (nI a) (plS L1 N1 (fwL L a)) (nI i) σ = K (nI c) (nI (60 * c)) (nI (S + trI (plS L1 N1) L a a)) (nI (a + 1)) σ := by
  have zero : plS L1 N1 (fwL L a) = -1 → ∀ i, trI (plS L1 N1) L a i = 0 := fun z i => by
    induction i with
    | zero => rfl
    | succ i ih =>
      have st : trI (plS L1 N1) L a (i + 1) = trI (plS L1 N1) L a i + (if trB (plS L1 N1) L a i = true then 1 else 0) := rfl
      have t : trB (plS L1 N1) L a i = false := decide_eq_false (fun q => q.1 z)
      rw [st, ih, t]; rfl
  intro j
  induction j with
  | zero =>
    intro i hi
    rw [show 0 + 1 + g = g + 1 by omega]
    show B_X4_turned_103 K (F_X4_turned_103 K g) (nI c) (nI (60 * c)) (nI (S + trI (plS L1 N1) L a i)) (nI a) (plS L1 N1 (fwL L a)) (nI i) σ = _
    unfold B_X4_turned_103 F_X4_turned_145
    rw [if_pos (nI_le (by omega) (by omega)), nI_1, show i = a by omega]
  | succ j ih =>
    intro i hi
    rw [show j + 1 + 1 + g = (j + 1 + g) + 1 by omega]
    show B_X4_turned_103 K (F_X4_turned_103 K (j + 1 + g)) (nI c) (nI (60 * c)) (nI (S + trI (plS L1 N1) L a i)) (nI a) (plS L1 N1 (fwL L a)) (nI i) σ = _
    unfold B_X4_turned_103 F_X4_turned_145 F_X4_turned_139
    have gi : gI σ 115 (60 * c + i) = nI (fwL L i) := hA i (by omega)
    have li := hm _ (fwL_mem (L := L) (i := i) (by omega))
    have la := hm _ (fwL_mem ha)
    have nfi : (nI (fwL L i)).toNatClampNeg = fwL L i := nI_clamp (by omega)
    rw [if_neg (nI_ge (by omega) (by omega)), nI_add, if_pos (inB_n (by omega) (by omega)), show (nI (60 * c + i)).toNatClampNeg = 60 * c + i from nI_clamp (by omega), gi, if_pos (inB_n li (by omega)), nfi, hP _ li, nI_1, nI_1, nI_1]
    have ih' := ih (i + 1) (by omega)
    have st : trI (plS L1 N1) L a (i + 1) = trI (plS L1 N1) L a i + (if trB (plS L1 N1) L a i = true then 1 else 0) := rfl
    rw [st] at ih'
    by_cases c1 : plS L1 N1 (fwL L a) = -1
    · rw [if_pos c1, zero c1 i, zero c1 a]
    · rw [if_neg c1]
      rcases plS_v (L := L1) N1 (fwL L a) with z | ⟨pa, pa1, pa2⟩
      · exact absurd z c1
      · by_cases c3 : plS L1 N1 (fwL L i) ≤ plS L1 N1 (fwL L a)
        · have t : trB (plS L1 N1) L a i = false := decide_eq_false (fun z => z.2.2 c3)
          rw [t, if_neg (by decide)] at ih'
          rw [if_pos c3]; exact ih'
        · have c2 : plS L1 N1 (fwL L i) ≠ -1 := fun z => c3 (by
            rw [z, pa2, Int32.le_iff_toInt_le, nI_toInt (by omega)]
            have : (-1 : Int32).toInt = -1 := by decide
            omega)
          have t : trB (plS L1 N1) L a i = true := decide_eq_true ⟨c1, c2, c3⟩
          rw [t, if_pos rfl] at ih'
          rw [if_neg c3]; exact ih'
theorem trn_72 {L1 L : List Nat} {g c N1 : Nat} {σ : AH} (hc : c < 6) (hl : L.length ≤ 60) (hm : ∀ x, x ∈ L → x < 60) (hn1 : N1 ≤ 60) (h6 : gI σ 116 c = nI L.length) (hA : LRv (gI σ 115) (60 * c) L) (hP : ∀ x, x < 60 → gI σ 118 x = plS L1 N1 x) : ∀ (j a : Nat), a + j = L.length → F_X4_turned_72 (j + 1 + g) (nI c) (nI (60 * c)) (nI (trO (plS L1 N1) L a)) (nI a) σ = some (nI (trO (plS L1 N1) L L.length), σ) := by
  intro j
  induction j with
  | zero =>
    intro a ha
    rw [show 0 + 1 + g = g + 1 by omega]
    show B_X4_turned_72 (F_X4_turned_72 g) (nI c) (nI (60 * c)) (nI (trO (plS L1 N1) L a)) (nI a) σ = _
    unfold B_X4_turned_72
    rw [if_pos (inB_n hc (by decide)), nI_clamp (by omega), h6, if_pos (nI_le (by omega) (by omega)), show a = L.length by omega]
  | succ j ih =>
    intro a ha
    rw [show j + 1 + 1 + g = (j + 1 + g) + 1 by omega]
    show B_X4_turned_72 (F_X4_turned_72 (j + 1 + g)) (nI c) (nI (60 * c)) (nI (trO (plS L1 N1) L a)) (nI a) σ = _
    unfold B_X4_turned_72
    have ga : gI σ 115 (60 * c + a) = nI (fwL L a) := hA a (by omega)
    have la := hm _ (fwL_mem (L := L) (i := a) (by omega))
    have nfa : (nI (fwL L a)).toNatClampNeg = fwL L a := nI_clamp (by omega)
    obtain ⟨g2, hg2⟩ := BIGe a (by omega)
    have k := trn_103 (S := trO (plS L1 N1) L a) (g := g2) (K := F_X4_turned_72 (j + 1 + g)) hc hl (show a < L.length by omega) hm hn1 hA hP a 0 (by omega)
    have k' : F_X4_turned_103 (F_X4_turned_72 (j + 1 + g)) BIG (nI c) (nI (60 * c)) (nI (trO (plS L1 N1) L a)) (nI a) (plS L1 N1 (fwL L a)) (0 : Int32) σ = F_X4_turned_72 (j + 1 + g) (nI c) (nI (60 * c)) (nI (trO (plS L1 N1) L a + trI (plS L1 N1) L a a)) (nI (a + 1)) σ := by rw [hg2]; exact k
    rw [if_pos (inB_n hc (by decide)), show (nI c).toNatClampNeg = c from nI_clamp (by omega), h6, if_neg (nI_ge (by omega) (by omega)), nI_add, if_pos (inB_n (by omega) (by omega)), show (nI (60 * c + a)).toNatClampNeg = 60 * c + a from nI_clamp (by omega), ga, if_pos (inB_n la (by omega)), nfa, hP _ la, k']
    exact ih (a + 1) (by omega)
theorem F_turned {row : Nat → Int32} {x3 x4 : Int32} {c w : Nat} {σ : AH} (hV : AV row) (hW : AW row) (hE : EV row) (hw : w < 260) (hc : c < 6) (hT : TbE row σ) (hL : LwI row σ) :
    ∃ τ, F_X4_turned (nI c) (nI w) x3 x4 σ = some (nI (trO (plS (lsS row x3 w c (nE row)) (lsS row x3 w c (nE row)).length) (lsS row x4 w c (nE row)) (lsS row x4 w c (nE row)).length), τ) ∧ LwI row τ ∧ TbE row τ ∧ Ch LCq [(28, 6)] σ τ := by
  have n60 := hE.n.2
  unfold F_X4_turned
  obtain ⟨τ1, t1, t2, t3, t4, t5, t6, t7, t8⟩ := F_sort (k := x3) (w := w) (c := c) hV hW hE hw hc hT hL
  obtain ⟨L1, hL1⟩ : ∃ L, L = lsS row x3 w c (nE row) := ⟨_, rfl⟩
  rw [← hL1] at t4 t6 ⊢
  have l1 : L1.length ≤ 60 := by rw [hL1]; exact Nat.le_trans (lsS_len _) n60
  have m1 : ∀ x, x ∈ L1 → x < 60 := fun x hx => by rw [hL1] at hx; have := lsS_mem _ x hx; omega
  have m60 : nI c * (60 : Int32) = nI (60 * c) := by simp only [fa_lit, pk_mul]; rw [Nat.mul_comm]
  rw [t1, bv_some, lt_e, m60]
  obtain ⟨σ1, hσ1⟩ : ∃ x, x = sA τ1 118 (filln (gI τ1 118) 60 (-1 : Int32)) := ⟨_, rfl⟩
  rw [← hσ1]
  have k0 : Ch [118] [] τ1 σ1 := by rw [hσ1]; exact Ch.sA1 (by simp)
  have p1 : ∀ x, x < 60 → gI σ1 118 x = -1 := fun x hx => by rw [hσ1, gI_sA_own]; unfold filln; rw [if_pos hx]
  obtain ⟨g2, hg2⟩ := BIGe L1.length (by omega)
  obtain ⟨τ3, u1, u2, u3⟩ := loop_inv (N := L1.length) (g := g2) (cs := [118]) (fs := []) (G := fun f x s => F_X4_turned_24 f (nI c) (nI w) x4 (nI (60 * c)) x s) (E := fun s => bv (F_X4_sort (nI c) (nI w) x4 s) fun σ12 => F_X4_turned_72 BIG (nI c) (nI (60 * c)) (0 : Int32) (0 : Int32) σ12) (P := fun i s => (gI s 116 c = nI L1.length ∧ LRv (gI s 115) (60 * c) L1) ∧ ∀ x, x < 60 → gI s 118 x = plS L1 i x) (fun f i s hi h => by
    obtain ⟨⟨h1, h2⟩, h4⟩ := h
    have gi : gI s 115 (60 * c + i) = nI (fwL L1 i) := h2 i hi
    have li := m1 _ (fwL_mem hi)
    have kk : Ch [118] [] s (sI s 118 (fwL L1 i) (nI i)) := Ch.sI1 (Or.inr (by simp))
    refine ⟨_, ?_, ⟨⟨by rw [kk.rI (by simp) (by simp)]; exact h1, by rw [kk.rI (by simp) (by simp)]; exact h2⟩, fun x hx => ?_⟩, kk⟩
    · show B_X4_turned_24 (F_X4_turned_24 f) (nI c) (nI w) x4 (nI (60 * c)) (nI i) s = _
      unfold B_X4_turned_24
      have nfi : (nI (fwL L1 i)).toNatClampNeg = fwL L1 i := nI_clamp (by omega)
      rw [if_pos (inB_n hc (by decide)), show (nI c).toNatClampNeg = c from nI_clamp (by omega), h1, if_neg (nI_ge hi (by omega)), nI_add, if_pos (inB_n (by omega) (by omega)), show (nI (60 * c + i)).toNatClampNeg = 60 * c + i from nI_clamp (by omega), gi, if_pos (inB_n li (by omega)), nfi, nI_1]
    · rw [gI_sI_own]
      unfold plS
      by_cases e : x = fwL L1 i
      · rw [e, up_same, up_same]
      · rw [up_ne _ _ _ e, up_ne _ _ _ e]; exact h4 x hx) (fun f s h => by
    show B_X4_turned_24 (F_X4_turned_24 f) (nI c) (nI w) x4 (nI (60 * c)) (nI L1.length) s = _
    unfold B_X4_turned_24
    rw [if_pos (inB_n hc (by decide)), show (nI c).toNatClampNeg = c from nI_clamp (by omega), h.1.1, if_pos (nI_le (Nat.le_refl _) (by omega))]) L1.length 0 σ1 (by omega) ⟨⟨by rw [k0.rI (by simp) (by simp)]; exact t6, by rw [k0.rI (by simp) (by simp)]; exact t4⟩, p1⟩
  have u1' : F_X4_turned_24 BIG (nI c) (nI w) x4 (nI (60 * c)) (0 : Int32) σ1 = bv (F_X4_sort (nI c) (nI w) x4 τ3) fun σ12 => F_X4_turned_72 BIG (nI c) (nI (60 * c)) (0 : Int32) (0 : Int32) σ12 := (congrArg (fun z => F_X4_turned_24 z (nI c) (nI w) x4 (nI (60 * c)) (0 : Int32) σ1) hg2).trans u1
  rw [u1']
  have T3 : TbE row τ3 := (t3.ch k0 (by simp) (by simp)).ch u3 (by simp) (by simp)
  have L3 : LwI row τ3 := (t2.ch k0 (by simp) (by simp)).ch u3 (by simp) (by simp)
  obtain ⟨τ5, w1, w2, w3, w4, w5, w6, w7, w8⟩ := F_sort (k := x4) (w := w) (c := c) hV hW hE hw hc T3 L3
  rw [w1, bv_some]
  obtain ⟨L2, hL2⟩ : ∃ L, L = lsS row x4 w c (nE row) := ⟨_, rfl⟩
  rw [← hL2] at w4 w6 ⊢
  have l2 : L2.length ≤ 60 := by rw [hL2]; exact Nat.le_trans (lsS_len _) n60
  have m2 : ∀ x, x ∈ L2 → x < 60 := fun x hx => by rw [hL2] at hx; have := lsS_mem _ x hx; omega
  obtain ⟨g3, hg3⟩ := BIGe L2.length (by omega)
  have z := trn_72 (L1 := L1) (N1 := L1.length) (g := g3) (σ := τ5) hc l2 m2 l1 w6 w4 (fun x hx => by
    rw [w8.rI (by simp) (by simp)]; exact u2.2 x hx) L2.length 0 (by omega)
  have z' : F_X4_turned_72 BIG (nI c) (nI (60 * c)) (0 : Int32) (0 : Int32) τ5 = some (nI (trO (plS L1 L1.length) L2 L2.length), τ5) := by rw [hg3]; exact z
  rw [z']
  exact ⟨τ5, rfl, w2, w3, ((((t8.mono (by simp [LCq]) (by simp)).trans (k0.mono (by simp [LCq]) (by simp))).trans (u3.mono (by simp [LCq]) (by simp))).trans (w8.mono (by simp [LCq]) (by simp)))⟩
theorem C_beside {row : Nat → Int32} {x1 x2 x3 x4 : Int32} {σ : AH} (hV : AV row) (hW : AW row) (hE : EV row) (hT : TbE row σ) (hL : LwI row σ) : ∃ τ, F_X11_beside x1 x2 x3 x4 σ = some (besideV row x1 x2 x3 x4, τ) ∧ LwI row τ ∧ TbE row τ ∧ Ch LCq [(28, 6)] σ τ := by
  have no : ∀ v : Int32, v = -1 → ∃ τ, some ((-1 : Int32), σ) = some (v, τ) ∧ LwI row τ ∧ TbE row τ ∧ Ch LCq [(28, 6)] σ τ := fun v hv => ⟨_, by rw [hv], hL, hT, Ch.rf _⟩
  unfold F_X11_beside besideV
  simp only [isIn05, F_isWeekC, bd_b (α := Int32)]
  by_cases c1 : rgB 0 5 x1 = true
  · rw [if_pos c1, if_pos c1]
    by_cases c2 : rgB 0 259 x2 = true
    · rw [if_pos c2, if_pos c2]
      by_cases c3 : rgB 0 259 x3 = true
      · rw [if_pos c3, if_pos c3]
        by_cases c4 : rgB 0 259 x4 = true
        · rw [if_pos c4, if_pos c4]
          obtain ⟨e1, b1⟩ := rg0_n (b := 5) c1 (by decide)
          obtain ⟨e2, b2'⟩ := rg0_n (b := 259) c2 (by decide)
          obtain ⟨τ, t1, t2, t3, t4⟩ := F_turned (x3 := x3) (x4 := x4) (c := cl x1) (w := cl x2) hV hW hE (by omega) (by omega) hT hL
          rw [← e1, ← e2] at t1
          rw [t1, bd_some]
          exact ⟨τ, rfl, t2, t3, t4⟩
        · rw [if_neg c4, if_neg c4]; exact no _ rfl
      · rw [if_neg c3, if_neg c3]; exact no _ rfl
    · rw [if_neg c2, if_neg c2]; exact no _ rfl
  · rw [if_neg c1, if_neg c1]; exact no _ rfl
end
