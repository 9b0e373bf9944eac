section
/-! the stocks of a WEEK -/
theorem F_doBatches {row : Nat → Int32} {w : Int32} {c i : Nat} {s : Nat → Int32} {σ : AH} (hB : BV row) (hc : 44 < c ∧ c < 124) (hi : i < nW row) (hT : TbB row σ) (hS : Ag 5 (gI σ c) s) (hw : wk row i 7 ≤ w) : ∃ τ, F_X10_doBatches c (nI i) σ = some τ ∧ Ag 5 (gI τ c) (wkD row w i s) ∧ Ch [c] [] σ τ := by
  obtain ⟨w0, w1, w2⟩ := hB.w
  obtain ⟨v0, v1, v2, v3, v4, v5, v6, v7⟩ := w2 i hi
  have a0 : ∀ σ, TbB row σ → F_X8_at 5 (nI i) (0 : Int32) σ = some (wk row i 0, σ) := fun σ h => at_wk (j := 0) h hi (by decide)
  have a1 : ∀ σ, TbB row σ → F_X8_at 5 (nI i) (1 : Int32) σ = some (wk row i 1, σ) := fun σ h => at_wk (j := 1) h hi (by decide)
  have a2 : ∀ σ, TbB row σ → F_X8_at 5 (nI i) (2 : Int32) σ = some (wk row i 2, σ) := fun σ h => at_wk (j := 2) h hi (by decide)
  have a3 : ∀ σ, TbB row σ → F_X8_at 5 (nI i) (3 : Int32) σ = some (wk row i 3, σ) := fun σ h => at_wk (j := 3) h hi (by decide)
  have a4 : ∀ σ, TbB row σ → F_X8_at 5 (nI i) (4 : Int32) σ = some (wk row i 4, σ) := fun σ h => at_wk (j := 4) h hi (by decide)
  have a5 : ∀ σ, TbB row σ → F_X8_at 5 (nI i) (5 : Int32) σ = some (wk row i 5, σ) := fun σ h => at_wk (j := 5) h hi (by decide)
  have a6 : ∀ σ, TbB row σ → F_X8_at 5 (nI i) (6 : Int32) σ = some (wk row i 6, σ) := fun σ h => at_wk (j := 6) h hi (by decide)
  have b0 : inB (wk row i 0) 5 = true := by rw [v0.1]; exact inB_n v0.2 (by omega)
  have b2' : inB (wk row i 2) 5 = true := by rw [v2.1]; exact inB_n v2.2 (by omega)
  have b4 : inB (wk row i 4) 5 = true := by rw [v4.1]; exact inB_n v4.2 (by omega)
  have c0 : (wk row i 0).toNatClampNeg = cl (wk row i 0) := rfl
  have c2 : (wk row i 2).toNatClampNeg = cl (wk row i 2) := rfl
  have c4 : (wk row i 4).toNatClampNeg = cl (wk row i 4) := rfl
  have l0 : gI σ c (cl (wk row i 0)) = s (cl (wk row i 0)) := hS _ v0.2
  have l2 : gI σ c (cl (wk row i 2)) = s (cl (wk row i 2)) := hS _ v2.2
  have f123 : ∃ τ, F_X10_doBatches_123 c (nI i) (wk row i 0) (wk row i 2) (wkN1 row i) (wkN2 row i) (wkB row i s) σ = some τ ∧ Ag 5 (gI τ c) (wkD row w i s) ∧ Ch [c] [] σ τ := by
    unfold F_X10_doBatches_123
    have s1 : Ag 5 (gI (sI σ c (cl (wk row i 0)) (s (cl (wk row i 0)) - wkB row i s * wkN1 row i)) c) (wkU1 row i s) := by rw [gI_sI_own]; exact hS.up _ _
    have s2 : Ag 5 (gI (sI (sI σ c (cl (wk row i 0)) (s (cl (wk row i 0)) - wkB row i s * wkN1 row i)) c (cl (wk row i 2)) (wkU1 row i s (cl (wk row i 2)) - wkB row i s * wkN2 row i)) c) (wkU2 row i s) := by rw [gI_sI_own]; exact s1.up _ _
    have kE : Ch [c] [] σ (sI (sI σ c (cl (wk row i 0)) (s (cl (wk row i 0)) - wkB row i s * wkN1 row i)) c (cl (wk row i 2)) (wkU1 row i s (cl (wk row i 2)) - wkB row i s * wkN2 row i)) := (Ch.sI1 (Or.inr (by simp))).trans (Ch.sI1 (Or.inr (by simp)))
    have T2 := hT.ch kE (by simp; omega) (by simp)
    simp only [b0, b2', c0, c2, if_true, lt_e, l0, s1 _ v2.2]
    rw [a4 _ T2, bd_some, if_pos b4, a5 _ T2, bd_some, if_pos b4, c4, s2 _ v4.2]
    refine ⟨_, rfl, ?_, kE.trans (Ch.sI1 (Or.inr (by simp)))⟩
    unfold wkD
    rw [if_pos hw, gI_sI_own]
    exact s2.up _ _
  have mn : ∀ x y : Int32, imin x y = if x ≤ y then x else y := fun x y => by
    unfold imin
    by_cases h : y < x
    · rw [if_pos h, if_neg (fun h' => Int32.lt_irrefl (Int32.lt_of_lt_of_le h h'))]
    · rw [if_neg h, if_pos (Int32.not_lt.mp h)]
  have f104 : ∃ τ, F_X10_doBatches_104 c (nI i) (wk row i 0) (wk row i 2) (wkN1 row i) (wkN2 row i) (wkB1 row i s) σ = some τ ∧ Ag 5 (gI τ c) (wkD row w i s) ∧ Ch [c] [] σ τ := by
    have eb : wkB row i s = if wkN2 row i ≤ 0 then wkB1 row i s else if wkB1 row i s ≤ s (cl (wk row i 2)) / wkN2 row i then wkB1 row i s else s (cl (wk row i 2)) / wkN2 row i := rfl
    unfold F_X10_doBatches_104
    by_cases x1 : wkN2 row i ≤ 0
    · rw [if_pos x1]; rw [eb, if_pos x1] at f123; exact f123
    · have ne : ¬ wkN2 row i = 0 := fun q => x1 (by rw [q]; decide)
      rw [if_neg x1, if_pos b2', if_pos ne, c2, l2, mn]
      rw [eb, if_neg x1] at f123; exact f123
  have f86 : ∃ τ, F_X10_doBatches_86 c (nI i) (wk row i 0) (wk row i 2) (wkN1 row i) (wkN2 row i) (wk row i 6) σ = some τ ∧ Ag 5 (gI τ c) (wkD row w i s) ∧ Ch [c] [] σ τ := by
    have eb : wkB1 row i s = if wkN1 row i ≤ 0 then wk row i 6 else if wk row i 6 ≤ s (cl (wk row i 0)) / wkN1 row i then wk row i 6 else s (cl (wk row i 0)) / wkN1 row i := rfl
    unfold F_X10_doBatches_86
    by_cases x1 : wkN1 row i ≤ 0
    · rw [if_pos x1]; rw [eb, if_pos x1] at f104; exact f104
    · have ne : ¬ wkN1 row i = 0 := fun q => x1 (by rw [q]; decide)
      rw [if_neg x1, if_pos b0, if_pos ne, c0, l0, mn]
      rw [eb, if_neg x1] at f104; exact f104
  unfold F_X10_doBatches
  rw [a0 _ hT, bd_some, a2 _ hT, bd_some, a1 _ hT, bd_some, a3 _ hT, bd_some, a6 _ hT, bd_some]
  by_cases x : wk row i 0 = wk row i 2
  · rw [if_pos x]
    have e1 : wkN1 row i = wk row i 1 + wk row i 3 := by unfold wkN1; rw [if_pos x]
    have e2 : wkN2 row i = 0 := by unfold wkN2; rw [if_pos x]
    rw [e1, e2] at f86; exact f86
  · rw [if_neg x]
    have e1 : wkN1 row i = wk row i 1 := by unfold wkN1; rw [if_neg x, Int32.add_zero]
    have e2 : wkN2 row i = wk row i 3 := by unfold wkN2; rw [if_neg x]
    rw [e1, e2] at f86; exact f86
/-- what follows the stocks in a WEEK -/
def pwT (b w : Nat) (σ : AH) : Option AH := (bv (F_X10_lineUp b (nI w) σ) fun σ11 => (if (gI σ11 b 2) = 0 then (some σ11) else (if ¬ (nI w * (6 : Int32)) < 0 then (if (nI w * (6 : Int32)).toNatClampNeg + 6 ≤ 1560 then (if 0 + 6 ≤ 6 then (lt (sA σ11 37 (va_cpy (gI σ11 36) (gI σ11 37) ((nI w * (6 : Int32)).toNatClampNeg) 0 6)) fun τ21 => (bd (F_X10_firstKind (nI w) τ21) fun v29 σ25 => (F_X10_passWeek_121 BIG b (nI w) v29 (0 : Int32) σ25))) else none) else none) else none)))
theorem pass_works {row : Nat → Int32} {b w g : Nat} (hB : BV row) (hb : 44 < b ∧ b + 9 < 124) (hw : w < 260) : ∀ (j d : Nat) (σ : AH) (s : Nat → Int32), d + j = nW row → TbB row σ → Ag 5 (gI σ (b + 1)) (wkS row (nI w) s d) →
    ∃ τ, F_X10_passWeek_34 (j + 1 + g) b (nI w) (nI d) σ = pwT b w τ ∧ Ag 5 (gI τ (b + 1)) (wkS row (nI w) s (nW row)) ∧ Ch [b + 1] [] σ τ := by
  obtain ⟨w0, w1, w2⟩ := hB.w
  intro j
  induction j with
  | zero =>
    intro d σ s hd hT hS
    have e : F_X10_passWeek_34 (0 + 1 + g) = B_X10_passWeek_34 (F_X10_passWeek_34 g) := by rw [show 0 + 1 + g = g + 1 by omega]; rfl
    have : d = nW row := by omega
    subst this
    rw [e]; unfold B_X10_passWeek_34
    rw [rows_w hT, bd_some, if_pos (nI_le (Nat.le_refl _) (by omega))]
    exact ⟨σ, rfl, hS, Ch.rf _⟩
  | succ j ih =>
    intro d σ s hd hT hS
    have e : F_X10_passWeek_34 (j + 1 + 1 + g) = B_X10_passWeek_34 (F_X10_passWeek_34 (j + 1 + g)) := by rw [show j + 1 + 1 + g = (j + 1 + g) + 1 by omega]; rfl
    have a7 : F_X8_at 5 (nI d) (7 : Int32) σ = some (wk row d 7, σ) := at_wk (j := 7) hT (by omega) (by decide)
    rw [e]; unfold B_X10_passWeek_34 F_X10_passWeek_74
    rw [rows_w hT, bd_some, if_neg (nI_ge (by omega) (by omega)), a7, bd_some, nI_1]
    by_cases c : nI w < wk row d 7
    · rw [if_pos c]
      refine ih (d + 1) σ s (by omega) hT ?_
      have e2 : wkS row (nI w) s (d + 1) = wkD row (nI w) d (wkS row (nI w) s d) := rfl
      rw [e2]; unfold wkD
      rw [if_neg (fun h => Int32.lt_irrefl (Int32.lt_of_lt_of_le c h))]; exact hS
    · rw [if_neg c]
      obtain ⟨τ, t1, t2, t3⟩ := F_doBatches (c := b + 1) (w := nI w) hB ⟨by omega, by omega⟩ (i := d) (by omega) hT hS (Int32.not_lt.mp c)
      rw [t1, bv_some]
      obtain ⟨τ2, u1, u2, u3⟩ := ih (d + 1) τ s (by omega) (hT.ch t3 (by simp; omega) (by simp)) t2
      exact ⟨τ2, u1, u2, t3.trans u3⟩
theorem pass_arrive {row : Nat → Int32} {k l : Int32} {b w g : Nat} {s : Nat → Int32} (hb : 44 < b ∧ b + 9 < 124) (hw : w < 260) : ∀ (j m : Nat) (σ : AH), m + j = 5 → AR row k l (gI σ 35) (nD row) → (∀ i, i < 5 → gI σ (b + 1) i = if i < m then dvS row k l (nI w) s (nD row) i else s i) →
    ∃ τ, F_X10_passWeek_2 (j + 1 + g) b (nI w) (nI m) σ = F_X10_passWeek_34 BIG b (nI w) 0 τ ∧ Ag 5 (gI τ (b + 1)) (dvS row k l (nI w) s (nD row)) ∧ Ch [b + 1] [] σ τ := by
  intro j
  induction j with
  | zero =>
    intro m σ hm hA hS
    have e : F_X10_passWeek_2 (0 + 1 + g) = B_X10_passWeek_2 (F_X10_passWeek_2 g) := by rw [show 0 + 1 + g = g + 1 by omega]; rfl
    have : m = 5 := by omega
    subst this
    rw [e]; unfold B_X10_passWeek_2
    rw [if_pos (by decide)]
    exact ⟨σ, rfl, fun i hi => by rw [hS i hi, if_pos hi], Ch.rf _⟩
  | succ j ih =>
    intro m σ hm hA hS
    have e : F_X10_passWeek_2 (j + 1 + 1 + g) = B_X10_passWeek_2 (F_X10_passWeek_2 (j + 1 + g)) := by rw [show j + 1 + 1 + g = (j + 1 + g) + 1 by omega]; rfl
    have i1 : nI w * (5 : Int32) + nI m = nI (w * 5 + m) := by simp only [fa_lit, nI_add, pk_mul]
    have q5 : inB (nI m) 5 = true := inB_n (by omega) (by omega)
    rw [e]; unfold B_X10_passWeek_2
    rw [i1, fa_lit 5, if_neg (nI_ge (by omega) (by omega)), if_pos q5, if_pos (inB_n (by omega) (by omega)), if_pos q5, nI_clamp (by omega), nI_clamp (by omega), hA w m hw (by omega), hS m (by omega), if_neg (by omega), ← dvS_ar, nI_1]
    have kE : Ch [b + 1] [] σ (sI σ (b + 1) m (dvS row k l (nI w) s (nD row) m)) := Ch.sI1 (Or.inr (by simp))
    obtain ⟨τ, t1, t2, t3⟩ := ih (m + 1) _ (by omega) (by rw [kE.rI (by simp; omega) (by simp)]; exact hA) (fun i hi => by
      by_cases c : i = m
      · subst c; rw [gI_sI_at, if_pos (by omega)]
      · rw [gI_sI_ne c, hS i hi]
        by_cases c2 : i < m
        · rw [if_pos c2, if_pos (by omega)]
        · rw [if_neg c2, if_neg (by omega)])
    exact ⟨τ, t1, t2, kE.trans t3⟩
theorem pass_head {row : Nat → Int32} {k l : Int32} {b w : Nat} {s : Nat → Int32} {σ : AH} (hB : BV row) (hb : 44 < b ∧ b + 9 < 124) (hw : w < 260) (hT : TbB row σ) (hA : AR row k l (gI σ 35) (nD row)) (hS : Ag 5 (gI σ (b + 1)) s) :
    ∃ τ, F_X10_passWeek b (nI w) σ = pwT b w τ ∧ Ag 5 (gI τ (b + 1)) (wkS row (nI w) (dvS row k l (nI w) s (nD row)) (nW row)) ∧ Ch [b + 1] [] σ τ := by
  obtain ⟨g, hg⟩ := BIGe 5 (by decide)
  obtain ⟨g', hg'⟩ := BIGe (nW row) (by have := hB.w.2.1; omega)
  obtain ⟨τ, t1, t2, t3⟩ := pass_arrive (g := g) (s := s) hb hw 5 0 σ rfl hA (fun i hi => by rw [if_neg (by omega)]; exact hS i hi)
  obtain ⟨τ2, u1, u2, u3⟩ := pass_works (g := g') hB hb hw (nW row) 0 τ (dvS row k l (nI w) s (nD row)) (by omega) (hT.ch t3 (by simp; omega) (by simp)) t2
  refine ⟨τ2, ?_, u2, t3.trans u3⟩
  unfold F_X10_passWeek
  rw [show (0 : Int32) = nI 0 from rfl, hg, t1, hg']
  exact u1
end
