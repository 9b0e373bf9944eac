section
/-! THE STATE OF A RUN: R c k, c the number of the reference's row (142 stock, 143 gangs left, 144 stage, 145 hasNeeds, 146 workLeft, 147 justOver, 148 took, 149 over) -/
def rU (R : Nat → Nat → Int32) (c k : Nat) (v : Int32) : Nat → Nat → Int32 := va_up R c (va_up (R c) k v)
def lenR (c : Nat) : Nat := if c = 142 then 5 else if c = 143 then 6 else if c < 148 then 30 else 90
def RO_ (σ : AH) (R : Nat → Nat → Int32) : Prop := ∀ c, 142 ≤ c → c ≤ 149 → ∀ k, k < lenR c → gI σ c k = R c k
theorem rU_at {R : Nat → Nat → Int32} {c k : Nat} {v : Int32} : rU R c k v c k = v := by unfold rU; rw [up_same, up_same]
theorem rU_row {R : Nat → Nat → Int32} {c k d : Nat} {v : Int32} (h : d ≠ c) : rU R c k v d = R d := by unfold rU; rw [up_ne _ _ _ h]
theorem rU_ne {R : Nat → Nat → Int32} {c k d j : Nat} {v : Int32} (h : j ≠ k) : rU R c k v d j = R d j := by
  by_cases e : d = c
  · subst e; unfold rU; rw [up_same, up_ne _ _ _ h]
  · rw [rU_row e]
theorem RO_.put {σ : AH} {R : Nat → Nat → Int32} (h : RO_ σ R) (c k : Nat) (v : Int32) : RO_ (sI σ c k v) (rU R c k v) := fun d h1 h2 j hj => by
  by_cases e : d = c
  · subst e
    by_cases e2 : j = k
    · subst e2; rw [gI_sI_at, rU_at]
    · rw [gI_sI_ne e2, rU_ne e2]; exact h d h1 h2 j hj
  · rw [gI_sI_row e, rU_row e]; exact h d h1 h2 j hj
theorem RO_.ch {σ τ : AH} {R : Nat → Nat → Int32} {cs : List Nat} {fs : List (Nat × Nat)} (h : RO_ σ R) (c : Ch cs fs σ τ) (h1 : ∀ i ∈ cs, i < 142 ∨ 149 < i) (h2 : ∀ q ∈ fs, q.1 < 142) : RO_ τ R := fun d g1 g2 j hj => by
  rw [c.rI (fun q => by have := h1 d q; omega) (fun q hq => by have := h2 q hq; omega)]; exact h d g1 g2 j hj
/-! DELIVERIES of a WEEK -/
def dvA (row : Nat → Int32) (k lt_ w : Int32) (d : Nat) : Int32 := if k < dv row d 3 then 0 else if dv row d 1 + (if dv row d 0 = 0 then lt_ else 0) = w then dv row d 2 else 0
def dvS (row : Nat → Int32) (k lt_ w : Int32) (s : Nat → Int32) : Nat → Nat → Int32 := fun d => match d with
  | 0 => s
  | d + 1 => va_up (dvS row k lt_ w s d) (cl (dv row d 0)) (dvS row k lt_ w s d (cl (dv row d 0)) + dvA row k lt_ w d)
theorem week_dv {row : Nat → Int32} {k lt_ w : Int32} {g : Nat} (hB : BV row) : ∀ (j d : Nat) (σ : AH) (s : Nat → Int32), d + j = nD row → gI σ 125 = row → gI σ 124 23 = k → gI σ 124 45 = lt_ → (∀ i, i < 5 → gI σ 142 i = dvS row k lt_ w s d i) →
    ∃ τ, F_X12_goWeek_2 (j + 1 + g) w (nI d) σ = F_X12_goWeek_103 BIG w 0 τ ∧ (∀ i, i < 5 → gI τ 142 i = dvS row k lt_ w s (nD row) i) ∧ Ch [142] [] σ τ := by
  obtain ⟨d0, d1, d2⟩ := hB.d
  intro j
  induction j with
  | zero =>
    intro d σ s hd hr hk hl hS
    have e : F_X12_goWeek_2 (0 + 1 + g) = B_X12_goWeek_2 (F_X12_goWeek_2 g) := by rw [show 0 + 1 + g = g + 1 by omega]; rfl
    rw [e]; unfold B_X12_goWeek_2
    have : d = nD row := by omega
    subst this
    rw [hr, d0, if_pos (nI_le (Nat.le_refl _) (by omega))]
    exact ⟨σ, rfl, hS, Ch.rf _⟩
  | succ j ih =>
    intro d σ s hd hr hk hl hS
    have e : F_X12_goWeek_2 (j + 1 + 1 + g) = B_X12_goWeek_2 (F_X12_goWeek_2 (j + 1 + g)) := by rw [show j + 1 + 1 + g = (j + 1 + g) + 1 by omega]; rfl
    rw [e]; unfold B_X12_goWeek_2 F_X12_goWeek_45 F_X12_goWeek_92 F_X12_goWeek_93
    have hd' : d < nD row := by omega
    have i0 : (22748 : Int32) + (4 : Int32) * nI d = nI (22748 + 4 * d) := by simp only [fa_lit, nI_add, pk_mul]
    have i1 : nI (22748 + 4 * d) + (1 : Int32) = nI (22748 + 4 * d + 1) := nI_add _ _
    have i2 : nI (22748 + 4 * d) + (2 : Int32) = nI (22748 + 4 * d + 2) := nI_add _ _
    have i3 : nI (22748 + 4 * d) + (3 : Int32) = nI (22748 + 4 * d + 3) := nI_add _ _
    have q0 : inB (nI (22748 + 4 * d)) 269832 = true := inB_n (by omega) (by omega)
    have q1 : inB (nI (22748 + 4 * d + 1)) 269832 = true := inB_n (by omega) (by omega)
    have q2 : inB (nI (22748 + 4 * d + 2)) 269832 = true := inB_n (by omega) (by omega)
    have q3 : inB (nI (22748 + 4 * d + 3)) 269832 = true := inB_n (by omega) (by omega)
    have n0 : (nI (22748 + 4 * d)).toNatClampNeg = 22748 + 4 * d := nI_clamp (by omega)
    have n1 : (nI (22748 + 4 * d + 1)).toNatClampNeg = 22748 + 4 * d + 1 := nI_clamp (by omega)
    have n2 : (nI (22748 + 4 * d + 2)).toNatClampNeg = 22748 + 4 * d + 2 := nI_clamp (by omega)
    have n3 : (nI (22748 + 4 * d + 3)).toNatClampNeg = 22748 + 4 * d + 3 := nI_clamp (by omega)
    have r0 : row (22748 + 4 * d) = dv row d 0 := rfl
    have r1 : row (22748 + 4 * d + 1) = dv row d 1 := rfl
    have r2 : row (22748 + 4 * d + 2) = dv row d 2 := rfl
    have r3 : row (22748 + 4 * d + 3) = dv row d 3 := rfl
    obtain ⟨v0, v1, v2, v3⟩ := d2 d hd'
    have m5 := v0.2
    have q4 : inB (dv row d 0) 5 = true := by rw [v0.1]; exact inB_n v0.2 (by omega)
    have n4 : (dv row d 0).toNatClampNeg = cl (dv row d 0) := rfl
    rw [hr, d0, if_neg (nI_ge hd' (by omega))]
    simp only [i0, i1, i2, i3, q0, q1, q2, q3, q4, n0, n1, n2, n3, n4, r0, r1, r2, r3, hr, hk, hl, if_true, hS _ m5]
    have fin : ∀ v : Int32, v = dvA row k lt_ w d → ∃ τ, F_X12_goWeek_2 (j + 1 + g) w (nI d + 1) (sI σ 142 (cl (dv row d 0)) (dvS row k lt_ w s d (cl (dv row d 0)) + v)) = F_X12_goWeek_103 BIG w 0 τ ∧ (∀ i, i < 5 → gI τ 142 i = dvS row k lt_ w s (nD row) i) ∧ Ch [142] [] σ τ := by
      intro v hv
      rw [nI_1]
      obtain ⟨τ, t1, t2, t3⟩ := ih (d + 1) (sI σ 142 (cl (dv row d 0)) (dvS row k lt_ w s d (cl (dv row d 0)) + v)) s (by omega) hr (by rw [gI_sI_row (by decide)]; exact hk) (by rw [gI_sI_row (by decide)]; exact hl) (fun i hi => by
        have st : dvS row k lt_ w s (d + 1) = va_up (dvS row k lt_ w s d) (cl (dv row d 0)) (dvS row k lt_ w s d (cl (dv row d 0)) + dvA row k lt_ w d) := rfl
        rw [st, gI_sI_own, hv]
        by_cases e : i = cl (dv row d 0)
        · subst e; rw [up_same, up_same]
        · rw [up_ne _ _ _ e, up_ne _ _ _ e]; exact hS i hi)
      exact ⟨τ, t1, t2, (Ch.sI1 (Or.inr (by simp))).trans t3⟩
    have ea : dvA row k lt_ w d = if k < dv row d 3 then 0 else if dv row d 1 + (if dv row d 0 = 0 then lt_ else 0) = w then dv row d 2 else 0 := rfl
    by_cases c0 : dv row d 0 = 0
    · rw [if_pos c0]
      by_cases c3 : k < dv row d 3
      · rw [if_pos c3]; exact fin _ (by rw [ea, if_pos c3])
      · rw [if_neg c3]
        by_cases c1 : dv row d 1 + lt_ = w
        · rw [if_pos c1]; exact fin _ (by rw [ea, if_neg c3, if_pos c0, if_pos c1])
        · rw [if_neg c1]; exact fin _ (by rw [ea, if_neg c3, if_pos c0, if_neg c1])
    · rw [if_neg c0]
      by_cases c3 : k < dv row d 3
      · rw [if_pos c3]; exact fin _ (by rw [ea, if_pos c3])
      · rw [if_neg c3]
        by_cases c1 : dv row d 1 + 0 = w
        · rw [if_pos c1]; exact fin _ (by rw [ea, if_neg c3, if_neg c0, if_pos c1])
        · rw [if_neg c1]; exact fin _ (by rw [ea, if_neg c3, if_neg c0, if_neg c1])
/-! WORKS of a WEEK -/
def wkN1 (row : Nat → Int32) (i : Nat) : Int32 := wk row i 1 + (if wk row i 0 = wk row i 2 then wk row i 3 else 0)
def wkN2 (row : Nat → Int32) (i : Nat) : Int32 := if wk row i 0 = wk row i 2 then 0 else wk row i 3
def wkB1 (row : Nat → Int32) (i : Nat) (s : Nat → Int32) : Int32 := if wkN1 row i ≤ 0 then wk row i 6 else if wk row i 6 ≤ s (cl (wk row i 0)) / wkN1 row i then wk row i 6 else s (cl (wk row i 0)) / wkN1 row i
def wkB (row : Nat → Int32) (i : Nat) (s : Nat → Int32) : Int32 := if wkN2 row i ≤ 0 then wkB1 row i s else if wkB1 row i s ≤ s (cl (wk row i 2)) / wkN2 row i then wkB1 row i s else s (cl (wk row i 2)) / wkN2 row i
def wkU1 (row : Nat → Int32) (i : Nat) (s : Nat → Int32) : Nat → Int32 := va_up s (cl (wk row i 0)) (s (cl (wk row i 0)) - wkB row i s * wkN1 row i)
def wkU2 (row : Nat → Int32) (i : Nat) (s : Nat → Int32) : Nat → Int32 := va_up (wkU1 row i s) (cl (wk row i 2)) (wkU1 row i s (cl (wk row i 2)) - wkB row i s * wkN2 row i)
def wkD (row : Nat → Int32) (w : Int32) (i : Nat) (s : Nat → Int32) : Nat → Int32 := if wk row i 7 ≤ w then va_up (wkU2 row i s) (cl (wk row i 4)) (wkU2 row i s (cl (wk row i 4)) + wkB row i s * wk row i 5) else s
def wkS (row : Nat → Int32) (w : Int32) (s : Nat → Int32) : Nat → Nat → Int32 := fun d => match d with
  | 0 => s
  | d + 1 => wkD row w d (wkS row w s d)
def Ag (n : Nat) (f g : Nat → Int32) : Prop := ∀ i, i < n → f i = g i
theorem Ag.up {n : Nat} {f g : Nat → Int32} (h : Ag n f g) (k : Nat) (v : Int32) : Ag n (va_up f k v) (va_up g k v) := fun i hi => by
  by_cases e : i = k
  · subst e; rw [up_same, up_same]
  · rw [up_ne _ _ _ e, up_ne _ _ _ e]; exact h i hi
theorem F_doWork {row : Nat → Int32} {w : Int32} {i : Nat} {s : Nat → Int32} {σ : AH} (hB : BV row) (hi : i < nW row) (hr : gI σ 125 = row) (hS : Ag 5 (gI σ 142) s) : ∃ τ, F_X12_doWork (nI (23228 + 8 * i)) w σ = some τ ∧ Ag 5 (gI τ 142) (wkD row w i s) ∧ Ch [142] [] σ τ := by
  obtain ⟨w0, w1, w2⟩ := hB.w
  obtain ⟨v0, v1, v2, v3, v4, v5, v6, v7⟩ := w2 i hi
  have ix : ∀ j : Nat, nI (23228 + 8 * i) + nI j = nI (23228 + 8 * i + j) := fun j => nI_add _ _
  have qx : ∀ j : Nat, j < 8 → inB (nI (23228 + 8 * i + j)) 269832 = true := fun j hj => inB_n (by omega) (by omega)
  have nx_ : ∀ j : Nat, j < 8 → (nI (23228 + 8 * i + j)).toNatClampNeg = 23228 + 8 * i + j := fun j hj => nI_clamp (by omega)
  have rx : ∀ j : Nat, row (23228 + 8 * i + j) = wk row i j := fun j => rfl
  have q0 : inB (nI (23228 + 8 * i)) 269832 = true := inB_n (by omega) (by omega)
  have n0 : (nI (23228 + 8 * i)).toNatClampNeg = 23228 + 8 * i := nI_clamp (by omega)
  have r0 : row (23228 + 8 * i) = wk row i 0 := rfl
  have b0 : inB (wk row i 0) 5 = true := by rw [v0.1]; exact inB_n v0.2 (by omega)
  have b2' : inB (wk row i 2) 5 = true := by rw [v2.1]; exact inB_n v2.2 (by omega)
  have b4 : inB (wk row i 4) 5 = true := by rw [v4.1]; exact inB_n v4.2 (by omega)
  have c0 : (wk row i 0).toNatClampNeg = cl (wk row i 0) := rfl
  have c2 : (wk row i 2).toNatClampNeg = cl (wk row i 2) := rfl
  have c4 : (wk row i 4).toNatClampNeg = cl (wk row i 4) := rfl
  have l0 : gI σ 142 (cl (wk row i 0)) = s (cl (wk row i 0)) := hS _ v0.2
  have l2 : gI σ 142 (cl (wk row i 2)) = s (cl (wk row i 2)) := hS _ v2.2
  have a1 : (1 : Int32) = nI 1 := rfl
  have a2 : (2 : Int32) = nI 2 := rfl
  have a3 : (3 : Int32) = nI 3 := rfl
  have a4 : (4 : Int32) = nI 4 := rfl
  have a5 : (5 : Int32) = nI 5 := rfl
  have a6 : (6 : Int32) = nI 6 := rfl
  have a7 : (7 : Int32) = nI 7 := rfl
  have f161 : wk row i 7 ≤ w → ∃ τ, F_X12_doWork_161 (nI (23228 + 8 * i)) (wk row i 0) (wk row i 2) (wkN1 row i) (wkN2 row i) (wkB row i s) σ = some τ ∧ Ag 5 (gI τ 142) (wkD row w i s) ∧ Ch [142] [] σ τ := by
    intro hw
    unfold F_X12_doWork_161
    have s1 : Ag 5 (gI (sI σ 142 (cl (wk row i 0)) (s (cl (wk row i 0)) - wkB row i s * wkN1 row i)) 142) (wkU1 row i s) := by rw [gI_sI_own]; exact hS.up _ _
    have s2 : Ag 5 (gI (sI (sI σ 142 (cl (wk row i 0)) (s (cl (wk row i 0)) - wkB row i s * wkN1 row i)) 142 (cl (wk row i 2)) (wkU1 row i s (cl (wk row i 2)) - wkB row i s * wkN2 row i)) 142) (wkU2 row i s) := by rw [gI_sI_own]; exact s1.up _ _
    simp only [a4, a5, ix, qx, nx_, rx, b0, b2', b4, c0, c2, c4, if_true, lt_e, hr, gI_sI_row (show (125 : Nat) ≠ 142 by decide), show (4 : Nat) < 8 by decide, show (5 : Nat) < 8 by decide, l0, s1 _ v2.2, s2 _ v4.2]
    refine ⟨_, rfl, ?_, ((Ch.sI1 (Or.inr (by simp))).trans (Ch.sI1 (Or.inr (by simp)))).trans (Ch.sI1 (Or.inr (by simp)))⟩
    unfold wkD
    rw [if_pos hw, gI_sI_own]
    exact s2.up _ _
  have f124 : wk row i 7 ≤ w → ∃ τ, F_X12_doWork_124 (nI (23228 + 8 * i)) (wk row i 0) (wk row i 2) (wkN1 row i) (wkN2 row i) (wkB1 row i s) σ = some τ ∧ Ag 5 (gI τ 142) (wkD row w i s) ∧ Ch [142] [] σ τ := by
    intro hw
    have h := f161 hw
    have eb : wkB row i s = if wkN2 row i ≤ 0 then wkB1 row i s else if wkB1 row i s ≤ s (cl (wk row i 2)) / wkN2 row i then wkB1 row i s else s (cl (wk row i 2)) / wkN2 row i := rfl
    unfold F_X12_doWork_124 F_X12_doWork_159
    by_cases x1 : wkN2 row i ≤ 0
    · rw [if_pos x1]; rw [eb, if_pos x1] at h; exact h
    · have ne : ¬ wkN2 row i = 0 := fun q => x1 (by rw [q]; decide)
      rw [if_neg x1, if_pos b2', if_pos ne, c2, l2]
      by_cases x2 : wkB1 row i s ≤ s (cl (wk row i 2)) / wkN2 row i
      · rw [if_pos x2]; rw [eb, if_neg x1, if_pos x2] at h; exact h
      · rw [if_neg x2, if_pos b2', if_pos ne]; rw [eb, if_neg x1, if_neg x2] at h; exact h
  have f78 : wk row i 7 ≤ w → ∃ τ, F_X12_doWork_78 (nI (23228 + 8 * i)) (wk row i 0) (wk row i 2) (wkN1 row i) (wkN2 row i) σ = some τ ∧ Ag 5 (gI τ 142) (wkD row w i s) ∧ Ch [142] [] σ τ := by
    intro hw
    have h := f124 hw
    have eb : wkB1 row i s = if wkN1 row i ≤ 0 then wk row i 6 else if wk row i 6 ≤ s (cl (wk row i 0)) / wkN1 row i then wk row i 6 else s (cl (wk row i 0)) / wkN1 row i := rfl
    unfold F_X12_doWork_78 F_X12_doWork_122
    rw [a6, ix, if_pos (qx 6 (by decide)), nx_ 6 (by decide), hr, rx]
    by_cases x1 : wkN1 row i ≤ 0
    · rw [if_pos x1]; rw [eb, if_pos x1] at h; exact h
    · have ne : ¬ wkN1 row i = 0 := fun q => x1 (by rw [q]; decide)
      rw [if_neg x1, if_pos b0, if_pos ne, c0, l0]
      by_cases x2 : wk row i 6 ≤ s (cl (wk row i 0)) / wkN1 row i
      · rw [if_pos x2]; rw [eb, if_neg x1, if_pos x2] at h; exact h
      · rw [if_neg x2, if_pos b0, if_pos ne]; rw [eb, if_neg x1, if_neg x2] at h; exact h
  unfold F_X12_doWork F_X12_doWork_57
  simp only [a1, a2, a3, a7, ix, qx, nx_, rx, q0, n0, r0, hr, if_true, show (1 : Nat) < 8 by decide, show (2 : Nat) < 8 by decide, show (3 : Nat) < 8 by decide, show (7 : Nat) < 8 by decide]
  by_cases hw : wk row i 7 ≤ w
  · rw [if_pos hw]
    have h := f78 hw
    by_cases x : wk row i 0 = wk row i 2
    · rw [if_pos x, if_pos x]
      have e1 : wkN1 row i = wk row i 1 + wk row i 3 := by unfold wkN1; rw [if_pos x]
      have e2 : wkN2 row i = 0 := by unfold wkN2; rw [if_pos x]
      rw [e1, e2] at h; exact h
    · rw [if_neg x, if_neg x]
      have e1 : wkN1 row i = wk row i 1 + 0 := by unfold wkN1; rw [if_neg x]
      have e2 : wkN2 row i = wk row i 3 := by unfold wkN2; rw [if_neg x]
      rw [e1, e2] at h; exact h
  · rw [if_neg hw]
    refine ⟨σ, rfl, ?_, Ch.rf _⟩
    unfold wkD; rw [if_neg hw]; exact hS
theorem week_wk {row : Nat → Int32} {w : Int32} {g : Nat} (hB : BV row) : ∀ (j d : Nat) (σ : AH) (s : Nat → Int32), d + j = nW row → gI σ 125 = row → Ag 5 (gI σ 142) (wkS row w s d) →
    ∃ τ, F_X12_goWeek_103 (j + 1 + g) w (nI d) σ = F_X12_goWeek_134 BIG w 0 τ ∧ Ag 5 (gI τ 142) (wkS row w s (nW row)) ∧ Ch [142] [] σ τ := by
  obtain ⟨w0, w1, w2⟩ := hB.w
  intro j
  induction j with
  | zero =>
    intro d σ s hd hr hS
    have e : F_X12_goWeek_103 (0 + 1 + g) = B_X12_goWeek_103 (F_X12_goWeek_103 g) := by rw [show 0 + 1 + g = g + 1 by omega]; rfl
    have : d = nW row := by omega
    subst this
    rw [e]; unfold B_X12_goWeek_103
    rw [hr, w0, if_pos (nI_le (Nat.le_refl _) (by omega))]
    exact ⟨σ, rfl, hS, Ch.rf _⟩
  | succ j ih =>
    intro d σ s hd hr hS
    have e : F_X12_goWeek_103 (j + 1 + 1 + g) = B_X12_goWeek_103 (F_X12_goWeek_103 (j + 1 + g)) := by rw [show j + 1 + 1 + g = (j + 1 + g) + 1 by omega]; rfl
    rw [e]; unfold B_X12_goWeek_103
    have i0 : (23228 : Int32) + (8 : Int32) * nI d = nI (23228 + 8 * d) := by simp only [fa_lit, nI_add, pk_mul]
    obtain ⟨τ, t1, t2, t3⟩ := F_doWork (w := w) hB (i := d) (by omega) hr hS
    rw [hr, w0, if_neg (nI_ge (by omega) (by omega)), i0, t1, bv_some, nI_1]
    obtain ⟨τ2, u1, u2, u3⟩ := ih (d + 1) τ s (by omega) (by rw [← hr]; exact t3.rI (by simp) (by simp)) t2
    exact ⟨τ2, u1, u2, t3.trans u3⟩
/-! GANGS of a WEEK -/
def ggS (row : Nat → Int32) (k c w : Int32) : Nat → Int32 × Int32 := fun d => match d with
  | 0 => (0, -1)
  | d + 1 => if ga row d 0 = c ∧ ¬ k < ga row d 3 ∧ ¬ w < ga row d 2 ∧ ¬ ga row d 2 < (ggS row k c w d).2 then (ga row d 1, ga row d 2) else ggS row k c w d
def gg (row : Nat → Int32) (k c w : Int32) : Int32 := (ggS row k c w (nG row)).1
theorem gangs_loop {row : Nat → Int32} {k c w : Int32} {g : Nat} {σ : AH} (hB : BV row) (hr : gI σ 125 = row) (hk : gI σ 124 23 = k) : ∀ (j d : Nat), d + j = nG row → F_X12_gangsOf_8 (j + 1 + g) c w (ggS row k c w d).1 (ggS row k c w d).2 (nI d) σ = some (gg row k c w, σ) := by
  obtain ⟨g0, g1, g2⟩ := hB.g
  intro j
  induction j with
  | zero =>
    intro d hd
    have e : F_X12_gangsOf_8 (0 + 1 + g) = B_X12_gangsOf_8 (F_X12_gangsOf_8 g) := by rw [show 0 + 1 + g = g + 1 by omega]; rfl
    have : d = nG row := by omega
    subst this
    rw [e]; unfold B_X12_gangsOf_8
    rw [hr, g0, if_pos (nI_le (Nat.le_refl _) (by omega))]
    rfl
  | succ j ih =>
    intro d hd
    have e : F_X12_gangsOf_8 (j + 1 + 1 + g) = B_X12_gangsOf_8 (F_X12_gangsOf_8 (j + 1 + g)) := by rw [show j + 1 + 1 + g = (j + 1 + g) + 1 by omega]; rfl
    rw [e]; unfold B_X12_gangsOf_8 F_X12_gangsOf_104
    have i0 : (23292 : Int32) + (4 : Int32) * nI d = nI (23292 + 4 * d) := by simp only [fa_lit, nI_add, pk_mul]
    have i1 : nI (23292 + 4 * d) + (1 : Int32) = nI (23292 + 4 * d + 1) := nI_add _ _
    have i2 : nI (23292 + 4 * d) + (2 : Int32) = nI (23292 + 4 * d + 2) := nI_add _ _
    have i3 : nI (23292 + 4 * d) + (3 : Int32) = nI (23292 + 4 * d + 3) := nI_add _ _
    have q0 : inB (nI (23292 + 4 * d)) 269832 = true := inB_n (by omega) (by omega)
    have q1 : inB (nI (23292 + 4 * d + 1)) 269832 = true := inB_n (by omega) (by omega)
    have q2 : inB (nI (23292 + 4 * d + 2)) 269832 = true := inB_n (by omega) (by omega)
    have q3 : inB (nI (23292 + 4 * d + 3)) 269832 = true := inB_n (by omega) (by omega)
    have n0 : (nI (23292 + 4 * d)).toNatClampNeg = 23292 + 4 * d := nI_clamp (by omega)
    have n1 : (nI (23292 + 4 * d + 1)).toNatClampNeg = 23292 + 4 * d + 1 := nI_clamp (by omega)
    have n2 : (nI (23292 + 4 * d + 2)).toNatClampNeg = 23292 + 4 * d + 2 := nI_clamp (by omega)
    have n3 : (nI (23292 + 4 * d + 3)).toNatClampNeg = 23292 + 4 * d + 3 := nI_clamp (by omega)
    have r0 : row (23292 + 4 * d) = ga row d 0 := rfl
    have r1 : row (23292 + 4 * d + 1) = ga row d 1 := rfl
    have r2 : row (23292 + 4 * d + 2) = ga row d 2 := rfl
    have r3 : row (23292 + 4 * d + 3) = ga row d 3 := rfl
    have hi := ih (d + 1) (by omega)
    have step : ggS row k c w (d + 1) = if ga row d 0 = c ∧ ¬ k < ga row d 3 ∧ ¬ w < ga row d 2 ∧ ¬ ga row d 2 < (ggS row k c w d).2 then (ga row d 1, ga row d 2) else ggS row k c w d := rfl
    rw [hr, g0, if_neg (nI_ge (by omega) (by omega))]
    simp only [i0, i1, i2, i3, q0, q1, q2, q3, n0, n1, n2, n3, r0, r1, r2, r3, hr, hk, if_true, nI_1]
    have no : ¬ (ga row d 0 = c ∧ ¬ k < ga row d 3 ∧ ¬ w < ga row d 2 ∧ ¬ ga row d 2 < (ggS row k c w d).2) → F_X12_gangsOf_8 (j + 1 + g) c w (ggS row k c w d).1 (ggS row k c w d).2 (nI (d + 1)) σ = some (gg row k c w, σ) := fun h => by rw [step, if_neg h] at hi; exact hi
    by_cases x1 : ga row d 0 = c
    · rw [if_pos x1]
      by_cases x2 : k < ga row d 3
      · rw [if_pos x2]; exact no (fun q => q.2.1 x2)
      · rw [if_neg x2]
        by_cases x3 : w < ga row d 2
        · rw [if_pos x3]; exact no (fun q => q.2.2.1 x3)
        · rw [if_neg x3]
          by_cases x4 : ga row d 2 < (ggS row k c w d).2
          · rw [if_pos x4]; exact no (fun q => q.2.2.2 x4)
          · rw [if_neg x4]
            rw [step, if_pos ⟨x1, x2, x3, x4⟩] at hi; exact hi
    · rw [if_neg x1]; exact no (fun q => x1 q.1)
theorem F_gangsOf {row : Nat → Int32} {k c w : Int32} {σ : AH} (hB : BV row) (hr : gI σ 125 = row) (hk : gI σ 124 23 = k) : F_X12_gangsOf c w σ = some (gg row k c w, σ) := by
  unfold F_X12_gangsOf
  obtain ⟨g, hg⟩ := BIGe (nG row) (by have := hB.g.2.1; omega)
  rw [hg]
  exact gangs_loop hB hr hk (nG row) 0 (by omega)
theorem week_gg {row : Nat → Int32} {k w : Int32} {g : Nat} (hB : BV row) : ∀ (j c : Nat) (σ : AH), c + j = 6 → gI σ 125 = row → gI σ 124 23 = k → (∀ i, i < c → gI σ 143 i = gg row k (nI i) w) →
    ∃ τ, F_X12_goWeek_134 (j + 1 + g) w (nI c) σ = bd (F_X12_firstOf w τ) (fun v s => F_X12_goWeek_169 BIG w v 0 0 s) ∧ (∀ i, i < 6 → gI τ 143 i = gg row k (nI i) w) ∧ Ch [143] [] σ τ := by
  intro j
  induction j with
  | zero =>
    intro c σ hc hr hk hG
    have e : F_X12_goWeek_134 (0 + 1 + g) = B_X12_goWeek_134 (F_X12_goWeek_134 g) := by rw [show 0 + 1 + g = g + 1 by omega]; rfl
    rw [e]; unfold B_X12_goWeek_134
    rw [fa_lit 6, if_pos (nI_le (by omega) (by omega))]
    exact ⟨σ, rfl, fun i hi => hG i (by omega), Ch.rf _⟩
  | succ j ih =>
    intro c σ hc hr hk hG
    have e : F_X12_goWeek_134 (j + 1 + 1 + g) = B_X12_goWeek_134 (F_X12_goWeek_134 (j + 1 + g)) := by rw [show j + 1 + 1 + g = (j + 1 + g) + 1 by omega]; rfl
    rw [e]; unfold B_X12_goWeek_134
    rw [fa_lit 6, if_neg (nI_ge (by omega) (by omega)), F_gangsOf hB hr hk, bd_some, if_pos (inB_n (by omega) (by omega)), nI_clamp (by omega), nI_1]
    obtain ⟨τ, t1, t2, t3⟩ := ih (c + 1) (sI σ 143 c (gg row k (nI c) w)) (by omega) hr (by rw [gI_sI_row (by decide)]; exact hk) (fun i hi => by
      by_cases e : i = c
      · subst e; rw [gI_sI_at]
      · rw [gI_sI_ne e]; exact hG i (by omega))
    exact ⟨τ, t1, t2, (Ch.sI1 (Or.inr (by simp))).trans t3⟩
end
