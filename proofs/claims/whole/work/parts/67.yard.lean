section
/-! THE YARD of the class: what comes WEEK by WEEK -/
def arS (row : Nat → Int32) (k lt_ : Int32) (w m : Nat) : Nat → Int32 := fun d => match d with
  | 0 => 0
  | d + 1 => arS row k lt_ w m d + (if cl (dv row d 0) = m then dvA row k lt_ (nI w) d else 0)
theorem dvS_ar {row : Nat → Int32} {k lt_ : Int32} {s : Nat → Int32} {w m : Nat} : ∀ d, dvS row k lt_ (nI w) s d m = s m + arS row k lt_ w m d := by
  intro d
  induction d with
  | zero => show s m = s m + 0; rw [Int32.add_zero]
  | succ d ih =>
    have e1 : dvS row k lt_ (nI w) s (d + 1) = va_up (dvS row k lt_ (nI w) s d) (cl (dv row d 0)) (dvS row k lt_ (nI w) s d (cl (dv row d 0)) + dvA row k lt_ (nI w) d) := rfl
    have e2 : arS row k lt_ w m (d + 1) = arS row k lt_ w m d + (if cl (dv row d 0) = m then dvA row k lt_ (nI w) d else 0) := rfl
    rw [e1, e2]
    by_cases c : m = cl (dv row d 0)
    · subst c; rw [up_same, if_pos rfl, ih, Int32.add_assoc]
    · rw [up_ne _ _ _ c, if_neg (fun q => c q.symm), ih, Int32.add_zero]
def AR (row : Nat → Int32) (k lt_ : Int32) (g : Nat → Int32) (d : Nat) : Prop := ∀ w m, w < 260 → m < 5 → g (w * 5 + m) = arS row k lt_ w m d
theorem bringD_loop {row : Nat → Int32} {k : Int32} {l g : Nat} (hB : BV row) (hl : l ≤ 26) : ∀ (j d : Nat) (σ : AH), d + j = nD row → TbB row σ → gI σ 34 2 = k → gI σ 34 3 = nI l → AR row k (nI l) (gI σ 35) d →
    ∃ τ, F_X10_bringDeliveries_10 (j + 1 + g) (nI d) σ = some τ ∧ AR row k (nI l) (gI τ 35) (nD row) ∧ Ch [35] [] σ τ := by
  obtain ⟨d0, d1, d2⟩ := hB.d
  intro j
  induction j with
  | zero =>
    intro d σ hd hT hk hlt hA
    have e : F_X10_bringDeliveries_10 (0 + 1 + g) = B_X10_bringDeliveries_10 (F_X10_bringDeliveries_10 g) := by rw [show 0 + 1 + g = g + 1 by omega]; rfl
    have : d = nD row := by omega
    subst this
    rw [e]; unfold B_X10_bringDeliveries_10
    rw [rows_d hT, bd_some, if_pos (nI_le (Nat.le_refl _) (by omega))]
    exact ⟨σ, rfl, hA, Ch.rf _⟩
  | succ j ih =>
    intro d σ hd hT hk hlt hA
    have hd' : d < nD row := by omega
    have e : F_X10_bringDeliveries_10 (j + 1 + 1 + g) = B_X10_bringDeliveries_10 (F_X10_bringDeliveries_10 (j + 1 + g)) := by rw [show j + 1 + 1 + g = (j + 1 + g) + 1 by omega]; rfl
    obtain ⟨v0, v1, v2, v3⟩ := d2 d hd'
    have a0 := at_dv (j := 0) hT hd' (by decide)
    have a1 := at_dv (j := 1) hT hd' (by decide)
    have a2 := at_dv (j := 2) hT hd' (by decide)
    have a3 := at_dv (j := 3) hT hd' (by decide)
    have a0' : F_X8_at 3 (nI d) (0 : Int32) σ = some (dv row d 0, σ) := a0
    have a1' : F_X8_at 3 (nI d) (1 : Int32) σ = some (dv row d 1, σ) := a1
    have a2' : F_X8_at 3 (nI d) (2 : Int32) σ = some (dv row d 2, σ) := a2
    have a3' : F_X8_at 3 (nI d) (3 : Int32) σ = some (dv row d 3, σ) := a3
    have b0 : cl (dv row d 0) < 5 := v0.2
    have b1 : cl (dv row d 1) < 260 := v1.2
    -- the WEEK in which it comes
    obtain ⟨l', hl', el⟩ : ∃ l' : Nat, l' ≤ 26 ∧ (if dv row d 0 = 0 then nI l else 0) = nI l' := by
      by_cases c : dv row d 0 = 0
      · exact ⟨l, hl, by rw [if_pos c]⟩
      · exact ⟨0, by omega, by rw [if_neg c]; rfl⟩
    have ew : dv row d 1 + nI l' = nI (cl (dv row d 1) + l') := by
      have : nI (cl (dv row d 1)) + nI l' = nI (cl (dv row d 1) + l') := nI_add _ _
      rw [← v1.1] at this; exact this
    have eA : ∀ w, w < 260 → dvA row k (nI l) (nI w) d = if k < dv row d 3 then 0 else if cl (dv row d 1) + l' = w then dv row d 2 else 0 := fun w hw => by
      unfold dvA
      rw [el, ew]
      by_cases c : cl (dv row d 1) + l' = w
      · rw [c, if_pos rfl, if_pos rfl]
      · rw [if_neg c, if_neg (fun q => c ((nI_eq (by omega) (by omega)).mp q))]
    have step : ∀ w m, arS row k (nI l) w m (d + 1) = arS row k (nI l) w m d + (if cl (dv row d 0) = m then dvA row k (nI l) (nI w) d else 0) := fun _ _ => rfl
    have main : ∃ τ, F_X10_bringDeliveries_61 (F_X10_bringDeliveries_10 (j + 1 + g)) (nI d) (dv row d 0) (nI l') (dv row d 1) σ = some τ ∧ AR row k (nI l) (gI τ 35) (nD row) ∧ Ch [35] [] σ τ := by
      unfold F_X10_bringDeliveries_61 F_X10_bringDeliveries_114
      rw [a3', bd_some, hk, ew, nI_1]
      have same : (∀ w, w < 260 → dvA row k (nI l) (nI w) d = 0) → ∃ τ, F_X10_bringDeliveries_10 (j + 1 + g) (nI (d + 1)) σ = some τ ∧ AR row k (nI l) (gI τ 35) (nD row) ∧ Ch [35] [] σ τ := fun hz =>
        ih (d + 1) σ (by omega) hT hk hlt (fun w m hw hm => by
          rw [step, hz w hw, ite_self, Int32.add_zero]; exact hA w m hw hm)
      by_cases c3 : k < dv row d 3
      · rw [if_pos c3]
        exact same (fun w hw => by rw [eA w hw, if_pos c3])
      · rw [if_neg c3]
        by_cases c4 : 260 ≤ cl (dv row d 1) + l'
        · rw [fa_lit 260, if_pos (nI_le c4 (by omega))]
          exact same (fun w hw => by rw [eA w hw, if_neg c3, if_neg (by omega)])
        · have ix : nI (cl (dv row d 1) + l') * (5 : Int32) + dv row d 0 = nI ((cl (dv row d 1) + l') * 5 + cl (dv row d 0)) := by
            have : nI (cl (dv row d 1) + l') * (5 : Int32) + nI (cl (dv row d 0)) = nI ((cl (dv row d 1) + l') * 5 + cl (dv row d 0)) := by simp only [fa_lit, nI_add, pk_mul]
            rw [← v0.1] at this; exact this
          have qx : inB (nI ((cl (dv row d 1) + l') * 5 + cl (dv row d 0))) 1300 = true := inB_n (by omega) (by omega)
          rw [fa_lit 260, if_neg (nI_ge (by omega) (by omega)), ix, if_pos qx, a2', bd_some, if_pos qx, nI_clamp (by omega), hA _ _ (by omega) b0]
          have kS : Ch [35] [] σ (sI σ 35 ((cl (dv row d 1) + l') * 5 + cl (dv row d 0)) (arS row k (nI l) (cl (dv row d 1) + l') (cl (dv row d 0)) d + dv row d 2)) := Ch.sI1 (Or.inr (by simp))
          obtain ⟨τ, t1, t2, t3⟩ := ih (d + 1) _ (by omega) (hT.ch kS (by simp) (by simp)) (by rw [gI_sI_row (by decide)]; exact hk) (by rw [gI_sI_row (by decide)]; exact hlt) (fun w m hw hm => by
            rw [gI_sI_own, step, eA w hw, if_neg c3]
            by_cases e : w * 5 + m = (cl (dv row d 1) + l') * 5 + cl (dv row d 0)
            · have em : m = cl (dv row d 0) := by omega
              have ew2 : w = cl (dv row d 1) + l' := by omega
              subst em ew2
              rw [up_same, if_pos rfl, if_pos rfl]
            · rw [up_ne _ _ _ e, hA w m hw hm]
              by_cases em : cl (dv row d 0) = m
              · rw [if_pos em, if_neg (by omega), Int32.add_zero]
              · rw [if_neg em, Int32.add_zero])
          exact ⟨τ, t1, t2, kS.trans t3⟩
    rw [e]; unfold B_X10_bringDeliveries_10
    rw [rows_d hT, bd_some, if_neg (nI_ge hd' (by omega)), a0', bd_some, a1', bd_some, hlt]
    by_cases c : dv row d 0 = 0
    · rw [if_pos c] at el
      rw [if_pos c]
      rw [← el] at main
      exact main
    · rw [if_neg c] at el
      rw [if_neg c, el]; exact main
theorem F_bringD {row : Nat → Int32} {k : Int32} {l : Nat} {σ : AH} (hB : BV row) (hl : l ≤ 26) (hT : TbB row σ) (hk : gI σ 34 2 = k) (hlt : gI σ 34 3 = nI l) : ∃ τ, F_X10_bringDeliveries σ = some τ ∧ AR row k (nI l) (gI τ 35) (nD row) ∧ Ch [35] [] σ τ := by
  unfold F_X10_bringDeliveries
  rw [lt_e]
  have kS : Ch [35] [] σ (sA σ 35 (filln (gI σ 35) 1300 0)) := Ch.sA1 (by simp)
  obtain ⟨g, hg⟩ := BIGe (nD row) (by have := hB.d.2.1; omega)
  obtain ⟨τ, t1, t2, t3⟩ := bringD_loop (g := g) (k := k) hB hl (nD row) 0 (sA σ 35 (filln (gI σ 35) 1300 0)) (by omega) (hT.ch kS (by simp) (by simp)) (by rw [gI_sA_row (by decide)]; exact hk) (by rw [gI_sA_row (by decide)]; exact hlt) (fun w m hw hm => by
    rw [gI_sA_own]; unfold filln; rw [if_pos (by omega)]; rfl)
  rw [hg]
  exact ⟨τ, t1, t2, kS.trans t3⟩
/-! GANGS -/
def exS (row : Nat → Int32) (k : Int32) (w c : Nat) : Nat → Option Int32 := fun d => match d with
  | 0 => none
  | d + 1 => if cl (ga row d 0) = c ∧ ¬ k < ga row d 3 ∧ cl (ga row d 2) = w then some (ga row d 1) else exS row k w c d
def gC (row : Nat → Int32) (k : Int32) (c n : Nat) : Nat → Int32 := fun w => match w with
  | 0 => (exS row k 0 c n).getD 0
  | w + 1 => match exS row k (w + 1) c n with | some v => v | none => gC row k c n w
def LF (row : Nat → Int32) (k : Int32) (c n : Nat) : Nat → Int32 × Int32 := fun w => match w with
  | 0 => match exS row k 0 c n with | some v => (v, nI 0) | none => (0, -1)
  | w + 1 => match exS row k (w + 1) c n with | some v => (v, nI (w + 1)) | none => LF row k c n w
theorem LF_gC {row : Nat → Int32} {k : Int32} {c n : Nat} : ∀ w, (LF row k c n w).1 = gC row k c n w := by
  intro w
  induction w with
  | zero => unfold LF gC; cases exS row k 0 c n <;> rfl
  | succ w ih => unfold LF gC; cases exS row k (w + 1) c n with
    | none => exact ih
    | some v => rfl
theorem LF_le {row : Nat → Int32} {k : Int32} {c n : Nat} : ∀ w, w < 2 ^ 31 → (LF row k c n w).2.toInt ≤ w := by
  intro w
  induction w with
  | zero => intro _; unfold LF; cases exS row k 0 c n with
    | none => show (-1 : Int32).toInt ≤ 0; decide
    | some v => show (nI 0).toInt ≤ 0; decide
  | succ w ih => intro hw; unfold LF; cases exS row k (w + 1) c n with
    | none => have := ih (by omega); show (LF row k c n w).2.toInt ≤ _; omega
    | some v => show (nI (w + 1)).toInt ≤ _; rw [nI_toInt (by omega)]; omega
theorem LF_step {row : Nat → Int32} {k : Int32} {c d : Nat} (hf : cl (ga row d 2) < 260) (hg : cl (ga row d 0) = c ∧ ¬ k < ga row d 3) : ∀ w, w < 260 → LF row k c (d + 1) w = if cl (ga row d 2) ≤ w ∧ ¬ nI (cl (ga row d 2)) < (LF row k c d w).2 then (ga row d 1, nI (cl (ga row d 2))) else LF row k c d w := by
  have ex : ∀ w, exS row k w c (d + 1) = if cl (ga row d 2) = w then some (ga row d 1) else exS row k w c d := fun w => by
    have : exS row k w c (d + 1) = if cl (ga row d 0) = c ∧ ¬ k < ga row d 3 ∧ cl (ga row d 2) = w then some (ga row d 1) else exS row k w c d := rfl
    rw [this]
    by_cases q : cl (ga row d 2) = w
    · rw [if_pos ⟨hg.1, hg.2, q⟩, if_pos q]
    · rw [if_neg (fun z => q z.2.2), if_neg q]
  intro w
  induction w with
  | zero =>
    intro _
    have e1 : LF row k c (d + 1) 0 = match exS row k 0 c (d + 1) with | some v => (v, nI 0) | none => (0, -1) := rfl
    have e2 : LF row k c d 0 = match exS row k 0 c d with | some v => (v, nI 0) | none => (0, -1) := rfl
    rw [e1, ex]
    by_cases q : cl (ga row d 2) = 0
    · have hb := LF_le (row := row) (k := k) (c := c) (n := d) 0 (by omega)
      rw [if_pos q, if_pos ⟨by omega, fun z => by
        rw [Int32.lt_iff_toInt_lt, nI_toInt (by omega)] at z
        omega⟩, q]
    · rw [if_neg q, if_neg (fun z => q (by omega)), e2]
  | succ w ih =>
    intro hw
    have e1 : ∀ n, LF row k c n (w + 1) = match exS row k (w + 1) c n with | some v => (v, nI (w + 1)) | none => LF row k c n w := fun _ => rfl
    rw [e1 (d + 1), ex]
    by_cases q : cl (ga row d 2) = w + 1
    · have hb := LF_le (row := row) (k := k) (c := c) (n := d) (w + 1) (by omega)
      rw [if_pos q, if_pos ⟨by omega, fun z => by
        rw [Int32.lt_iff_toInt_lt, nI_toInt (by omega)] at z
        omega⟩, q]
    · rw [if_neg q, e1 d]
      cases he : exS row k (w + 1) c d with
      | some v =>
        dsimp only
        by_cases q2 : cl (ga row d 2) ≤ w + 1
        · rw [if_neg (fun z => z.2 (nI_lt (by omega) (by omega)))]
        · rw [if_neg (fun z => q2 z.1)]
      | none =>
        dsimp only
        rw [ih (by omega)]
        by_cases q2 : cl (ga row d 2) ≤ w ∧ ¬ nI (cl (ga row d 2)) < (LF row k c d w).2
        · rw [if_pos q2, if_pos ⟨by omega, q2.2⟩]
        · rw [if_neg q2, if_neg (fun z => q2 ⟨by omega, z.2⟩)]
theorem ggS_LF {row : Nat → Int32} {k : Int32} {c w : Nat} (hB : BV row) (hc : c < 6) (hw : w < 260) : ∀ d, d ≤ nG row → ggS row k (nI c) (nI w) d = LF row k c d w := by
  obtain ⟨g0, g1, g2⟩ := hB.g
  intro d
  induction d with
  | zero =>
    intro _
    have : ∀ w, LF row k c 0 w = (0, -1) := by
      intro w
      induction w with
      | zero => rfl
      | succ w ih => exact ih
    rw [this]; rfl
  | succ d ih =>
    intro hd
    obtain ⟨v0, v1, v2, v3⟩ := g2 d (by omega)
    have b0 := v0.2
    have b2' := v2.2
    have st : ggS row k (nI c) (nI w) (d + 1) = if ga row d 0 = nI c ∧ ¬ k < ga row d 3 ∧ ¬ nI w < ga row d 2 ∧ ¬ ga row d 2 < (ggS row k (nI c) (nI w) d).2 then (ga row d 1, ga row d 2) else ggS row k (nI c) (nI w) d := rfl
    rw [st, ih (by omega)]
    have e0 : (ga row d 0 = nI c) ↔ cl (ga row d 0) = c := by
      constructor
      · intro q; rw [q]; exact nI_clamp (by omega)
      · intro q; rw [v0.1, q]
    have e2 : (nI w < ga row d 2) ↔ w < cl (ga row d 2) := by
      have := nI_ltI (a := w) (b := cl (ga row d 2)) (by omega) (by omega)
      rw [← v2.1] at this; exact this
    by_cases hg : cl (ga row d 0) = c ∧ ¬ k < ga row d 3
    · rw [LF_step b2' hg w hw]
      by_cases q : cl (ga row d 2) ≤ w ∧ ¬ nI (cl (ga row d 2)) < (LF row k c d w).2
      · rw [if_pos q, if_pos ⟨e0.mpr hg.1, hg.2, fun z => by have := e2.mp z; omega, by rw [v2.1]; exact q.2⟩, ← v2.1]
      · rw [if_neg q, if_neg (fun z => q ⟨Nat.le_of_not_lt (fun y => z.2.2.1 (e2.mpr y)), by rw [← v2.1]; exact z.2.2.2⟩)]
    · rw [if_neg (fun z => hg ⟨e0.mp z.1, z.2.1⟩)]
      have ex : ∀ w, exS row k w c (d + 1) = exS row k w c d := fun w => by
        have : exS row k w c (d + 1) = if cl (ga row d 0) = c ∧ ¬ k < ga row d 3 ∧ cl (ga row d 2) = w then some (ga row d 1) else exS row k w c d := rfl
        rw [this, if_neg (fun z => hg ⟨z.1, z.2.1⟩)]
      have : ∀ w, LF row k c (d + 1) w = LF row k c d w := by
        intro w
        induction w with
        | zero =>
          have e1 : ∀ n, LF row k c n 0 = match exS row k 0 c n with | some v => (v, nI 0) | none => (0, -1) := fun _ => rfl
          rw [e1, e1, ex]
        | succ w ih2 =>
          have e1 : ∀ n, LF row k c n (w + 1) = match exS row k (w + 1) c n with | some v => (v, nI (w + 1)) | none => LF row k c n w := fun _ => rfl
          rw [e1, e1, ex, ih2]
      rw [this]
theorem gC_gg {row : Nat → Int32} {k : Int32} {c w : Nat} (hB : BV row) (hc : c < 6) (hw : w < 260) : gC row k c (nG row) w = gg row k (nI c) (nI w) := by
  unfold gg
  rw [ggS_LF hB hc hw _ (Nat.le_refl _), LF_gC]
def oX (x : Option Int32) : Int32 := match x with | none => -1 | some v => v
theorem exS_nn {row : Nat → Int32} {k : Int32} {w c : Nat} (hB : BV row) : ∀ d, d ≤ nG row → ∀ v, exS row k w c d = some v → v ≠ -1 := by
  obtain ⟨g0, g1, g2⟩ := hB.g
  intro d
  induction d with
  | zero => intro _ v h; cases h
  | succ d ih =>
    intro hd v h
    have st : exS row k w c (d + 1) = if cl (ga row d 0) = c ∧ ¬ k < ga row d 3 ∧ cl (ga row d 2) = w then some (ga row d 1) else exS row k w c d := rfl
    rw [st] at h
    split at h
    · cases h
      have v1 := (g2 d (by omega)).2.1
      have := v1.2
      rw [v1.1]; exact nI_neg1 (by omega)
    · exact ih (by omega) v h
theorem bringG1 {row : Nat → Int32} {k : Int32} {g : Nat} (hB : BV row) : ∀ (j d : Nat) (σ : AH), d + j = nG row → TbB row σ → gI σ 34 2 = k → (∀ w c, w < 260 → c < 6 → gI σ 36 (w * 6 + c) = oX (exS row k w c d)) →
    ∃ τ, F_X10_bringGangs_10 (j + 1 + g) (nI d) σ = F_X10_bringGangs_98 BIG 0 τ ∧ (∀ w c, w < 260 → c < 6 → gI τ 36 (w * 6 + c) = oX (exS row k w c (nG row))) ∧ Ch [36] [] σ τ := by
  obtain ⟨g0, g1, g2⟩ := hB.g
  intro j
  induction j with
  | zero =>
    intro d σ hd hT hk hA
    have e : F_X10_bringGangs_10 (0 + 1 + g) = B_X10_bringGangs_10 (F_X10_bringGangs_10 g) := by rw [show 0 + 1 + g = g + 1 by omega]; rfl
    have : d = nG row := by omega
    subst this
    rw [e]; unfold B_X10_bringGangs_10
    rw [rows_g hT, bd_some, if_pos (nI_le (Nat.le_refl _) (by omega))]
    exact ⟨σ, rfl, hA, Ch.rf _⟩
  | succ j ih =>
    intro d σ hd hT hk hA
    have hd' : d < nG row := by omega
    have e : F_X10_bringGangs_10 (j + 1 + 1 + g) = B_X10_bringGangs_10 (F_X10_bringGangs_10 (j + 1 + g)) := by rw [show j + 1 + 1 + g = (j + 1 + g) + 1 by omega]; rfl
    obtain ⟨v0, v1, v2, v3⟩ := g2 d hd'
    have b0 : cl (ga row d 0) < 6 := v0.2
    have b2' : cl (ga row d 2) < 260 := v2.2
    have a0 : F_X8_at 7 (nI d) (0 : Int32) σ = some (ga row d 0, σ) := at_ga (j := 0) hT hd' (by decide)
    have a1 : F_X8_at 7 (nI d) (1 : Int32) σ = some (ga row d 1, σ) := at_ga (j := 1) hT hd' (by decide)
    have a2 : F_X8_at 7 (nI d) (2 : Int32) σ = some (ga row d 2, σ) := at_ga (j := 2) hT hd' (by decide)
    have a3 : F_X8_at 7 (nI d) (3 : Int32) σ = some (ga row d 3, σ) := at_ga (j := 3) hT hd' (by decide)
    have st : ∀ w c, exS row k w c (d + 1) = if cl (ga row d 0) = c ∧ ¬ k < ga row d 3 ∧ cl (ga row d 2) = w then some (ga row d 1) else exS row k w c d := fun _ _ => rfl
    rw [e]; unfold B_X10_bringGangs_10 F_X10_bringGangs_90
    rw [rows_g hT, bd_some, if_neg (nI_ge hd' (by omega)), a3, bd_some, hk, nI_1]
    by_cases c3 : k < ga row d 3
    · rw [if_pos c3]
      exact ih (d + 1) σ (by omega) hT hk (fun w c hw hc => by rw [st, if_neg (fun z => z.2.1 c3)]; exact hA w c hw hc)
    · have ix : ga row d 2 * (6 : Int32) + ga row d 0 = nI (cl (ga row d 2) * 6 + cl (ga row d 0)) := by
        have : nI (cl (ga row d 2)) * (6 : Int32) + nI (cl (ga row d 0)) = nI (cl (ga row d 2) * 6 + cl (ga row d 0)) := by simp only [fa_lit, nI_add, pk_mul]
        rw [← v0.1, ← v2.1] at this; exact this
      rw [if_neg c3, a2, bd_some, a0, bd_some, a1, bd_some, ix, if_pos (inB_n (by omega) (by omega)), nI_clamp (by omega)]
      have kS : Ch [36] [] σ (sI σ 36 (cl (ga row d 2) * 6 + cl (ga row d 0)) (ga row d 1)) := Ch.sI1 (Or.inr (by simp))
      obtain ⟨τ, t1, t2, t3⟩ := ih (d + 1) (sI σ 36 (cl (ga row d 2) * 6 + cl (ga row d 0)) (ga row d 1)) (by omega) (hT.ch kS (by simp) (by simp)) (by rw [gI_sI_row (by decide)]; exact hk) (fun w c hw hc => by
        rw [gI_sI_own, st]
        by_cases e : w * 6 + c = cl (ga row d 2) * 6 + cl (ga row d 0)
        · rw [e, up_same, if_pos ⟨by omega, c3, by omega⟩]; rfl
        · rw [up_ne _ _ _ e, if_neg (fun z => e (by rw [z.1, z.2.2])), hA w c hw hc])
      exact ⟨τ, t1, t2, kS.trans t3⟩
theorem bringG2 {row : Nat → Int32} {k : Int32} {g : Nat} (hB : BV row) : ∀ (j i : Nat) (σ : AH), i + j = 1560 → (∀ w c, w < 260 → c < 6 → gI σ 36 (w * 6 + c) = if w * 6 + c < i then gC row k c (nG row) w else oX (exS row k w c (nG row))) →
    ∃ τ, F_X10_bringGangs_98 (j + 1 + g) (nI i) σ = some τ ∧ (∀ w c, w < 260 → c < 6 → gI τ 36 (w * 6 + c) = gC row k c (nG row) w) ∧ Ch [36] [] σ τ := by
  intro j
  induction j with
  | zero =>
    intro i σ hi hA
    have e : F_X10_bringGangs_98 (0 + 1 + g) = B_X10_bringGangs_98 (F_X10_bringGangs_98 g) := by rw [show 0 + 1 + g = g + 1 by omega]; rfl
    rw [e]; unfold B_X10_bringGangs_98
    rw [fa_lit 1560, if_pos (nI_le (by omega) (by omega))]
    exact ⟨σ, rfl, fun w c hw hc => by rw [hA w c hw hc, if_pos (by omega)], Ch.rf _⟩
  | succ j ih =>
    intro i σ hi hA
    have e : F_X10_bringGangs_98 (j + 1 + 1 + g) = B_X10_bringGangs_98 (F_X10_bringGangs_98 (j + 1 + g)) := by rw [show j + 1 + 1 + g = (j + 1 + g) + 1 by omega]; rfl
    have q1 : inB (nI i) 1560 = true := inB_n (by omega) (by omega)
    have n1 : (nI i).toNatClampNeg = i := nI_clamp (by omega)
    have hw0 : i / 6 < 260 := by omega
    have hc0 : i % 6 < 6 := by omega
    have ei : i / 6 * 6 + i % 6 = i := by omega
    have hv := hA (i / 6) (i % 6) hw0 hc0
    rw [ei, if_neg (Nat.lt_irrefl i)] at hv
    rw [e]; unfold B_X10_bringGangs_98 F_X10_bringGangs_141 F_X10_bringGangs_142
    rw [fa_lit 1560, if_neg (nI_ge (by omega) (by omega))]
    simp only [q1, n1, if_true, hv, nI_1]
    have next : ∀ σ1, Ch [36] [] σ σ1 → gI σ1 36 i = gC row k (i % 6) (nG row) (i / 6) → (∀ q, q ≠ i → gI σ1 36 q = gI σ 36 q) → ∃ τ, F_X10_bringGangs_98 (j + 1 + g) (nI (i + 1)) σ1 = some τ ∧ (∀ w c, w < 260 → c < 6 → gI τ 36 (w * 6 + c) = gC row k c (nG row) w) ∧ Ch [36] [] σ τ := by
      intro σ1 k1 k2 k3
      obtain ⟨τ, t1, t2, t3⟩ := ih (i + 1) σ1 (by omega) (fun w c hw hc => by
        by_cases e : w * 6 + c = i
        · have e1 : i / 6 = w := by omega
          have e2 : i % 6 = c := by omega
          rw [e, k2, if_pos (by omega), e1, e2]
        · rw [k3 _ e, hA w c hw hc]
          by_cases z : w * 6 + c < i
          · rw [if_pos z, if_pos (by omega)]
          · rw [if_neg z, if_neg (by omega)])
      exact ⟨τ, t1, t2, k1.trans t3⟩
    cases hx : exS row k (i / 6) (i % 6) (nG row) with
    | some v =>
      have hne := exS_nn hB _ (Nat.le_refl _) v hx
      rw [show oX (some v) = v from rfl, if_neg hne]
      refine next σ (Ch.rf _) ?_ (fun _ _ => rfl)
      rw [hv, hx]
      cases hq : i / 6 with
      | zero => rw [hq] at hx; unfold gC; rw [hx]; rfl
      | succ q => rw [hq] at hx; unfold gC; rw [hx]; rfl
    | none =>
      rw [show oX none = -1 from rfl, if_pos rfl]
      have put : ∀ v, v = gC row k (i % 6) (nG row) (i / 6) → ∃ τ, F_X10_bringGangs_98 (j + 1 + g) (nI (i + 1)) (sI σ 36 i v) = some τ ∧ (∀ w c, w < 260 → c < 6 → gI τ 36 (w * 6 + c) = gC row k c (nG row) w) ∧ Ch [36] [] σ τ := fun v hv2 =>
        next (sI σ 36 i v) (Ch.sI1 (Or.inr (by simp))) (by rw [gI_sI_at]; exact hv2) (fun q hq => by rw [gI_sI_ne hq])
      by_cases c6 : 6 ≤ i
      · have m6 : nI i - (6 : Int32) = nI (i - 6) := pk_sub (b := 6) c6
        rw [fa_lit 6, if_pos (nI_le c6 (by omega)), ← fa_lit 6, m6, if_pos (inB_n (by omega) (by omega)), nI_clamp (by omega)]
        refine put _ ?_
        have hp := hA (i / 6 - 1) (i % 6) (by omega) hc0
        have e2 : (i / 6 - 1) * 6 + i % 6 = i - 6 := by omega
        rw [e2, if_pos (by omega)] at hp
        rw [hp]
        obtain ⟨q, hq⟩ : ∃ q, i / 6 = q + 1 := ⟨i / 6 - 1, by omega⟩
        rw [hq] at hx ⊢
        rw [show q + 1 - 1 = q by omega]
        have : gC row k (i % 6) (nG row) (q + 1) = match exS row k (q + 1) (i % 6) (nG row) with | some v => v | none => gC row k (i % 6) (nG row) q := rfl
        rw [this, hx]
      · rw [fa_lit 6, if_neg (nI_ge (by omega) (by omega))]
        refine put _ ?_
        have hz : i / 6 = 0 := by omega
        rw [hz] at hx ⊢
        unfold gC; rw [hx]; rfl
theorem F_bringG {row : Nat → Int32} {k : Int32} {σ : AH} (hB : BV row) (hT : TbB row σ) (hk : gI σ 34 2 = k) : ∃ τ, F_X10_bringGangs σ = some τ ∧ (∀ w c, w < 260 → c < 6 → gI τ 36 (w * 6 + c) = gg row k (nI c) (nI w)) ∧ Ch [36] [] σ τ := by
  unfold F_X10_bringGangs
  rw [lt_e]
  have kS : Ch [36] [] σ (sA σ 36 (filln (gI σ 36) 1560 (-1))) := Ch.sA1 (by simp)
  obtain ⟨g, hg⟩ := BIGe (nG row) (by have := hB.g.2.1; omega)
  obtain ⟨g2, hg2⟩ := BIGe 1560 (by decide)
  obtain ⟨τ, t1, t2, t3⟩ := bringG1 (g := g) (k := k) hB (nG row) 0 (sA σ 36 (filln (gI σ 36) 1560 (-1))) (by omega) (hT.ch kS (by simp) (by simp)) (by rw [gI_sA_row (by decide)]; exact hk) (fun w c hw hc => by
    rw [gI_sA_own]; unfold filln; rw [if_pos (by omega)]; rfl)
  obtain ⟨τ2, u1, u2, u3⟩ := bringG2 (row := row) (k := k) (g := g2) hB 1560 0 τ rfl (fun w c hw hc => by rw [if_neg (by omega)]; exact t2 w c hw hc)
  have t1' : F_X10_bringGangs_10 BIG 0 (sA σ 36 (filln (gI σ 36) 1560 (-1))) = F_X10_bringGangs_98 BIG 0 τ := by have := t1; rw [← hg] at this; exact this
  have u1' : F_X10_bringGangs_98 BIG 0 τ = some τ2 := by have := u1; rw [← hg2] at this; exact this
  exact ⟨τ2, by rw [t1', u1'], fun w c hw hc => by rw [u2 w c hw hc, gC_gg hB hc hw], (kS.trans t3).trans u3⟩
/-! STARTS: of each PLOT its WEEK, of each WEEK how many -/
def ctW (s : Nat → Option Nat) (w : Nat) : Nat → Nat := fun n => match n with
  | 0 => 0
  | n + 1 => ctW s w n + (if s n = some w then 1 else 0)
theorem ctW_le {s : Nat → Option Nat} {w : Nat} : ∀ n, ctW s w n ≤ n := by
  intro n
  induction n with
  | zero => exact Nat.le_refl _
  | succ n ih => unfold ctW; split <;> omega
theorem ctW_pos {s : Nat → Option Nat} {w : Nat} : ∀ n, (0 < ctW s w n ↔ ∃ p, p < n ∧ s p = some w) := by
  intro n
  induction n with
  | zero => exact ⟨fun h => absurd h (Nat.lt_irrefl 0), fun ⟨p, h, _⟩ => absurd h (Nat.not_lt_zero p)⟩
  | succ n ih =>
    have e : ctW s w (n + 1) = ctW s w n + (if s n = some w then 1 else 0) := rfl
    rw [e]
    by_cases c : s n = some w
    · rw [if_pos c]; exact ⟨fun _ => ⟨n, by omega, c⟩, fun _ => by omega⟩
    · rw [if_neg c, Nat.add_zero, ih]
      constructor
      · rintro ⟨p, h1, h2⟩; exact ⟨p, by omega, h2⟩
      · rintro ⟨p, h1, h2⟩
        refine ⟨p, ?_, h2⟩
        rcases Nat.lt_or_ge p n with z | z
        · exact z
        · have : p = n := by omega
          subst this; exact absurd h2 c
def upS (s : Nat → Option Nat) (p : Nat) (v : Option Nat) : Nat → Option Nat := fun q => if q = p then v else s q
theorem ctW_up {s : Nat → Option Nat} {p w v : Nat} (h : s p = none) : ∀ n, ctW (upS s p (some v)) w n = ctW s w n + (if p < n ∧ v = w then 1 else 0) := by
  intro n
  induction n with
  | zero => simp [ctW]
  | succ n ih =>
    have e1 : ∀ s', ctW s' w (n + 1) = ctW s' w n + (if s' n = some w then 1 else 0) := fun _ => rfl
    rw [e1, e1, ih]
    unfold upS
    by_cases c : n = p
    · subst c
      rw [h]
      by_cases c2 : v = w
      · subst c2; simp
      · simp [c2]
    · simp only [if_neg c]
      have e3 : (p < n + 1 ∧ v = w) ↔ (p < n ∧ v = w) := by omega
      simp only [e3]
      omega
def YS (s : Nat → Option Nat) (σ : AH) : Prop := (∀ p, p < 30 → gI σ 38 p = oI (s p)) ∧ ∀ w, w < 260 → gI σ 39 w = nI (ctW s w 30)
theorem F_tellStart {s : Nat → Option Nat} {p w : Nat} {σ : AH} (hY : YS s σ) (hp : p < 30) (hw : w < 260) (h0 : s p = none) : ∃ τ, F_X10_tellStart (nI p) (nI w) σ = some τ ∧ YS (upS s p (some w)) τ ∧ Ch [38, 39] [] σ τ := by
  unfold F_X10_tellStart
  have q1 : inB (nI p) 30 = true := inB_n hp (by omega)
  have q2 : inB (nI w) 260 = true := inB_n hw (by omega)
  have n1 : (nI p).toNatClampNeg = p := nI_clamp (by omega)
  have n2 : (nI w).toNatClampNeg = w := nI_clamp (by omega)
  simp only [q1, q2, n1, n2, if_true]
  have g39 : gI (sI σ 38 p (nI w)) 39 w = nI (ctW s w 30) := by rw [gI_sI_row (by decide)]; exact hY.2 w hw
  rw [g39, nI_1]
  refine ⟨_, rfl, ⟨fun q hq => ?_, fun v hv => ?_⟩, (Ch.sI1 (Or.inr (by simp))).trans (Ch.sI1 (Or.inr (by simp)))⟩
  · rw [gI_sI_row (by decide), gI_sI_own]
    unfold upS
    by_cases e : q = p
    · subst e; rw [up_same, if_pos rfl]; rfl
    · rw [up_ne _ _ _ e, if_neg e]; exact hY.1 q hq
  · rw [gI_sI_own, ctW_up h0]
    by_cases e : v = w
    · subst e; rw [up_same, if_pos ⟨hp, rfl⟩]
    · rw [up_ne _ _ _ e, gI_sI_row (by decide), if_neg (fun q => e q.2.symm), Nat.add_zero]; exact hY.2 v hv
theorem F_dropStart {s : Nat → Option Nat} {p : Nat} {σ : AH} (hY : YS s σ) (hp : p < 30) (hs : ∀ p w, s p = some w → w < 260) : ∃ τ, F_X10_dropStart (nI p) σ = some τ ∧ YS (upS s p none) τ ∧ Ch [38, 39] [] σ τ := by
  unfold F_X10_dropStart
  have q1 : inB (nI p) 30 = true := inB_n hp (by omega)
  have n1 : (nI p).toNatClampNeg = p := nI_clamp (by omega)
  simp only [q1, n1, if_true, hY.1 p hp]
  cases h0 : s p with
  | none =>
    rw [show oI none = -1 from rfl, if_pos rfl]
    have : upS s p none = s := by
      funext q
      unfold upS
      by_cases e : q = p
      · subst e; rw [if_pos rfl, h0]
      · rw [if_neg e]
    rw [this]
    exact ⟨σ, rfl, hY, Ch.rf _⟩
  | some w =>
    have hw := hs p w h0
    have q2 : inB (nI w) 260 = true := inB_n hw (by omega)
    have n2 : (nI w).toNatClampNeg = w := nI_clamp (by omega)
    rw [show oI (some w) = nI w from rfl, if_neg (nI_neg1 (by omega)), if_pos q2, if_pos q2, lt_e, n2, hY.2 w hw]
    have hup : upS (upS s p none) p (some w) = s := by
      funext q
      unfold upS
      by_cases e : q = p
      · subst e; rw [if_pos rfl, h0]
      · rw [if_neg e, if_neg e]
    have hct : ∀ v, ctW s v 30 = ctW (upS s p none) v 30 + (if p < 30 ∧ w = v then 1 else 0) := fun v => by
      have := ctW_up (s := upS s p none) (p := p) (w := v) (v := w) (by unfold upS; rw [if_pos rfl]) 30
      rw [hup] at this; exact this
    refine ⟨_, rfl, ⟨fun q hq => ?_, fun v hv => ?_⟩, (Ch.sI1 (Or.inr (by simp))).trans (Ch.sI1 (Or.inr (by simp)))⟩
    · rw [gI_sI_own]
      unfold upS
      by_cases e : q = p
      · subst e; rw [up_same, if_pos rfl]; rfl
      · rw [up_ne _ _ _ e, if_neg e, gI_sI_row (by decide)]; exact hY.1 q hq
    · rw [gI_sI_row (by decide), gI_sI_own]
      have hc := hct v
      by_cases e : v = w
      · subst e
        rw [if_pos ⟨hp, rfl⟩] at hc
        rw [up_same, hc, nI_pred]
      · rw [if_neg (fun q => e q.2.symm), Nat.add_zero] at hc
        rw [up_ne _ _ _ e, hY.2 v hv, hc]
theorem bringS_loop {row : Nat → Int32} {k : Int32} {g : Nat} (hB : BV row) : ∀ (j m : Nat) (σ : AH), m + j = nS row → TbB row σ → gI σ 34 2 = k → YS (fun p => sO row k p m) σ →
    ∃ τ, F_X10_bringStarts_18 (j + 1 + g) (nI m) σ = some τ ∧ YS (sw row k) τ ∧ Ch [38, 39] [] σ τ := by
  obtain ⟨s0, s1, s2⟩ := hB.s
  have p1 := hB.p.2.1
  intro j
  induction j with
  | zero =>
    intro m σ hm hT hk hY
    have e : F_X10_bringStarts_18 (0 + 1 + g) = B_X10_bringStarts_18 (F_X10_bringStarts_18 g) := by rw [show 0 + 1 + g = g + 1 by omega]; rfl
    have : m = nS row := by omega
    subst this
    rw [e]; unfold B_X10_bringStarts_18
    rw [rows_s hT, bd_some, if_pos (nI_le (Nat.le_refl _) (by omega))]
    exact ⟨σ, rfl, hY, Ch.rf _⟩
  | succ j ih =>
    intro m σ hm hT hk hY
    have hm' : m < nS row := by omega
    have e : F_X10_bringStarts_18 (j + 1 + 1 + g) = B_X10_bringStarts_18 (F_X10_bringStarts_18 (j + 1 + g)) := by rw [show j + 1 + 1 + g = (j + 1 + g) + 1 by omega]; rfl
    obtain ⟨v0, v1, v2⟩ := s2 m hm'
    have b0 : cl (sa row m 0) < nP row := v0.2
    have b1 : cl (sa row m 1) < 260 := v1.2
    have a0 : F_X8_at 11 (nI m) (0 : Int32) σ = some (sa row m 0, σ) := at_sa (j := 0) hT hm' (by decide)
    have a1 : F_X8_at 11 (nI m) (1 : Int32) σ = some (sa row m 1, σ) := at_sa (j := 1) hT hm' (by decide)
    have a2 : F_X8_at 11 (nI m) (2 : Int32) σ = some (sa row m 2, σ) := at_sa (j := 2) hT hm' (by decide)
    have st : ∀ p, sO row k p (m + 1) = match sO row k p m with | some w => some w | none => if cl (sa row m 0) = p ∧ ¬ k < sa row m 2 then some (cl (sa row m 1)) else none := fun _ => rfl
    rw [e]; unfold B_X10_bringStarts_18 F_X10_bringStarts_91
    rw [rows_s hT, bd_some, if_neg (nI_ge hm' (by omega)), a0, bd_some, a2, bd_some, hk, nI_1]
    have same : (∀ p, sO row k p (m + 1) = sO row k p m) → ∃ τ, F_X10_bringStarts_18 (j + 1 + g) (nI (m + 1)) σ = some τ ∧ YS (sw row k) τ ∧ Ch [38, 39] [] σ τ := fun hz => by
      refine ih (m + 1) σ (by omega) hT hk ?_
      have : (fun p => sO row k p (m + 1)) = fun p => sO row k p m := funext hz
      rw [this]; exact hY
    by_cases c2 : k < sa row m 2
    · rw [if_pos c2]
      refine same (fun p => ?_)
      rw [st]
      cases sO row k p m with
      | some w => rfl
      | none => dsimp only; rw [if_neg (fun z => z.2 c2)]
    · have qp : inB (sa row m 0) 30 = true := by rw [v0.1]; exact inB_n (by omega) (by omega)
      have hy := hY.1 (cl (sa row m 0)) (by omega)
      have hy' : gI σ 38 (sa row m 0).toNatClampNeg = oI (sO row k (cl (sa row m 0)) m) := hy
      rw [if_neg c2, if_pos qp, hy']
      cases h0 : sO row k (cl (sa row m 0)) m with
      | some w =>
        have hw := sO_lt hB m (by omega) w h0
        rw [show oI (some w) = nI w from rfl, if_neg (nI_neg1 (by omega))]
        refine same (fun p => ?_)
        rw [st]
        cases hp : sO row k p m with
        | some w => rfl
        | none =>
          dsimp only
          rw [if_neg (fun z => by rw [z.1] at h0; rw [h0] at hp; cases hp)]
      | none =>
        rw [show oI none = -1 from rfl, if_pos rfl, a1, bd_some]
        obtain ⟨τ, t1, t2, t3⟩ := F_tellStart (p := cl (sa row m 0)) (w := cl (sa row m 1)) hY (by omega) b1 h0
        have t1' : F_X10_tellStart (sa row m 0) (sa row m 1) σ = some τ := by rw [← v0.1, ← v1.1] at t1; exact t1
        rw [t1', bv_some]
        have hs : (fun p => sO row k p (m + 1)) = upS (fun p => sO row k p m) (cl (sa row m 0)) (some (cl (sa row m 1))) := by
          funext p
          rw [st]
          unfold upS
          by_cases e : p = cl (sa row m 0)
          · subst e
            rw [h0, if_pos rfl]
            dsimp only
            rw [if_pos ⟨rfl, c2⟩]
          · rw [if_neg e]
            show _ = sO row k p m
            cases sO row k p m with
            | some w => rfl
            | none => dsimp only; rw [if_neg (fun z => e z.1.symm)]
        obtain ⟨τ2, u1, u2, u3⟩ := ih (m + 1) τ (by omega) (hT.ch t3 (by simp) (by simp)) (by rw [t3.rI (by simp) (by simp)]; exact hk) (by rw [hs]; exact t2)
        exact ⟨τ2, u1, u2, t3.trans u3⟩
end
