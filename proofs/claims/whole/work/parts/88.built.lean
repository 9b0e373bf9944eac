section
theorem isIn06 {x : Int32} {σ : AH} : F_X11_isIn x (0 : Int32) (6 : Int32) σ = some (if rgB 0 6 x = true then 1 else 0, σ) := F_isIn (a := 0) (b := 6) (by decide) (by decide)
theorem isIn126 {x : Int32} {σ : AH} : F_X11_isIn x (1 : Int32) (26 : Int32) σ = some (if rgB 1 26 x = true then 1 else 0, σ) := F_isIn (a := 1) (b := 26) (by decide) (by decide)
theorem isInN {x : Int32} {n : Nat} (hn : n < 2 ^ 31) {σ : AH} : F_X11_isIn x (0 : Int32) (nI n - (1 : Int32)) σ = some (if ltB n x = true then 1 else 0, σ) := by
  unfold F_X11_isIn ltB
  have e1 : (nI n - (1 : Int32)).toInt = (n : Int) - 1 := by
    rcases Nat.eq_zero_or_pos n with z | z
    · subst z; decide
    · rw [m1_eq, nI_m1 z, nI_toInt (by omega)]; omega
  have h1 : (x < (0 : Int32)) ↔ x.toInt < 0 := by rw [Int32.lt_iff_toInt_lt, i0]
  have h2 : (nI n - (1 : Int32) < x) ↔ (n : Int) - 1 < x.toInt := by rw [Int32.lt_iff_toInt_lt, e1]
  by_cases c1 : x.toInt < 0
  · rw [if_pos (h1.mpr c1), if_neg]
    rw [decide_eq_true_iff]; omega
  · rw [if_neg (fun q => c1 (h1.mp q))]
    by_cases c2 : (n : Int) - 1 < x.toInt
    · rw [if_pos (h2.mpr c2), if_neg]
      rw [decide_eq_true_iff]; omega
    · rw [if_neg (fun q => c2 (h2.mp q)), if_pos]
      rw [decide_eq_true_iff]; omega
theorem F_isPlotC {row : Nat → Int32} {x : Int32} {σ : AH} (hB : BV row) (hT : TbB row σ) : F_X11_isPlot x σ = some (if ltB (nP row) x = true then 1 else 0, σ) := by
  unfold F_X11_isPlot
  have := hB.p.2.1
  rw [rows_p hT, bd_some, isInN (by omega), bd_some, if_pos b01']
theorem stB_all {row : Nat → Int32} {k : Int32} {s : Nat → Option Nat} {p : Nat} (hs : ∀ p w, s p = some w → w < 260) : stB s (lic row k s) 260 0 p = lic row k s p := by
  unfold stB
  cases e : s p with
  | none =>
    have : lic row k s p = false := by unfold lic; rw [e]
    rw [this]
  | some a =>
    have h := hs p a e
    show (lic row k s p && decide _) = _
    rw [decide_eq_true (Or.inl h), Bool.and_true]
theorem runR_rw {row : Nat → Int32} {k x4 : Int32} {n : Nat} (e4 : x4 = nI (cl x4)) : runR row k x4 n = rw_ row k (cl x4) (sw row k) n := by
  unfold rw_ runR; rw [← e4]
/-- what a RUN that is kept says, at its end -/
theorem RnI.ends {row : Nat → Int32} {k : Int32} {l a : Nat} {s : Nat → Option Nat} {σ : AH} (hs : ∀ p w, s p = some w → w < 260) (h : RnI row k l s a 260 σ) :
    (∀ p, p < nP row → gI σ (a + 1 + 4) p = b2 (lic row k s p)) ∧ (∀ i, i < 3 * nP row → gI σ (a + 1 + 8) i = rw_ row k l s 260 148 i) ∧ (∀ i, i < 3 * nP row → gI σ (a + 1 + 9) i = rw_ row k l s 260 149 i) := by
  obtain ⟨⟨⟨s1, s2, s3, s4, s5, s6⟩, _, _, _, ⟨⟨_, _, l3⟩, _⟩⟩, _, _⟩ := h
  refine ⟨fun p hp => ?_, fun i hi => ?_, fun i hi => ?_⟩
  · rw [l3 p hp, stB_all hs]
  · rw [s5 i hi, up_ne _ _ _ (by decide)]
  · rw [s6 i hi, up_ne _ _ _ (by decide)]
theorem C_built {row : Nat → Int32} {x1 x2 x3 x4 : Int32} {σ : AH} (hV : AV row) (hW : AW row) (hB : BV row) (hI : RgI row σ) : ∃ τ, F_X11_built x1 x2 x3 x4 σ = some (builtV row x1 x2 x3 x4, τ) ∧ RgI row τ ∧ Ch RGc RGf σ τ := by
  have no : ∀ v : Int32, v = -1 → ∃ τ, some ((-1 : Int32), σ) = some (v, τ) ∧ RgI row τ ∧ Ch RGc RGf σ τ := fun v hv => ⟨_, by rw [hv], hI, Ch.rf _⟩
  have b30 := hB.p.2.1
  unfold F_X11_built builtV
  simp only [F_isPlotC hB hI.1, isIn06, isIn026, F_isWeekC, bd_b (α := Int32)]
  by_cases c1 : ltB (nP row) x1 = true
  · rw [if_pos c1, if_pos c1]
    by_cases c2 : rgB 0 259 x2 = true
    · rw [if_pos c2, if_pos c2]
      by_cases c3 : rgB 0 26 x3 = true
      · rw [if_pos c3, if_pos c3]
        by_cases c4 : rgB 0 6 x4 = true
        · rw [if_pos c4, if_pos c4]
          obtain ⟨e1, b1⟩ := ltB_n c1 (by omega)
          obtain ⟨e2, b2'⟩ := rg0_n (b := 259) c2 (by decide)
          obtain ⟨e3, b3⟩ := rg0_n (b := 26) c3 (by decide)
          obtain ⟨e4, b4⟩ := rg0_n (b := 6) c4 (by decide)
          have hk : (0 : Int32) ≤ x2 := by rw [e2]; exact nI_le (a := 0) (by omega) (by omega)
          obtain ⟨a, τ, t1, t2, t3, t4, t5, t6, t7, t8, t9⟩ := F_runFor (k := x2) (l := cl x3) hV hW hB hk (by omega) hI.1 hI.2.1 hI.2.2.1 hI.2.2.2.1 hI.2.2.2.2
          rw [← e3] at t1
          rw [t1, bd_some]
          have ma : a ∈ runIds := by unfold runIds; rcases t2 with h | h <;> simp [h]
          rw [if_pos ma]
          have KE_ := (F_knowing hV hk hI.2.1 hI.1).2.1
          obtain ⟨r1, r2, r3⟩ := t3.ends (fun p w h => sw_lt hB h)
          have fin : ∀ v u : Int32, v = u → ∃ τ', some (v, τ) = some (u, τ') ∧ RgI row τ' ∧ Ch RGc RGf σ τ' := fun v u h => ⟨τ, by rw [h], ⟨t4, t5, t6, t7, t8⟩, t9⟩
          have eR : runR row x2 x3 260 = rw_ row (ltK row x2) (cl x3) (sw row (ltK row x2)) 260 := by rw [runR_ke KE_ x3 260, runR_rw e3]
          have m31 : x1 * (3 : Int32) + x4 = nI (3 * cl x1 + cl x4) := by
            have : nI (cl x1) * (3 : Int32) + nI (cl x4) = nI (3 * cl x1 + cl x4) := by simp only [fa_lit, nI_add, pk_mul]; rw [Nat.mul_comm]
            rw [← e1, ← e4] at this
            exact this
          by_cases d6 : x4 = (6 : Int32)
          · rw [if_pos d6]
            have g3 : (3 : Int32) ≤ x4 := by rw [d6]; decide
            have g6 : (6 : Int32) ≤ x4 := by rw [d6]; decide
            have q : inB x1 30 = true := by rw [e1]; exact inB_n (by omega) (by omega)
            rw [if_pos q, if_pos g3, if_pos g6]
            refine fin _ _ ?_
            have := r1 (cl x1) b1
            rw [lic_ke KE_, sw_ke KE_]
            exact this
          · rw [if_neg d6]
            by_cases d3 : (3 : Int32) ≤ x4
            · have h3 : 3 ≤ cl x4 := by
                rcases Nat.lt_or_ge (cl x4) 3 with z | z
                · rw [e4] at d3; exact absurd d3 (nI_ge (b := 3) z (by decide))
                · exact z
              have h6 : cl x4 < 6 := by
                rcases Nat.lt_or_ge (cl x4) 6 with z | z
                · exact z
                · have : cl x4 = 6 := by omega
                  rw [this] at e4; exact absurd e4 d6
              have g6 : ¬ (6 : Int32) ≤ x4 := by rw [e4]; exact nI_ge (b := 6) h6 (by decide)
              have i1 : x1 * (3 : Int32) + x4 - (3 : Int32) = nI (3 * cl x1 + cl x4 - 3) := by
                rw [m31]; exact pk_sub (b := 3) (by omega)
              rw [if_pos d3, if_pos d3, if_neg g6, i1, if_pos (inB_n (by omega) (by omega)), nI_clamp (by omega)]
              exact fin _ _ (by rw [r2 _ (by omega), eR])
            · have h3 : cl x4 < 3 := by
                rcases Nat.lt_or_ge (cl x4) 3 with z | z
                · exact z
                · rw [e4] at d3; exact absurd (nI_le z (by omega)) d3
              rw [if_neg d3, if_neg d3, m31, if_pos (inB_n (by omega) (by omega)), nI_clamp (by omega)]
              exact fin _ _ (by rw [r3 _ (by omega), eR])
        · rw [if_neg c4, if_neg c4]; exact no _ rfl
      · rw [if_neg c3, if_neg c3]; exact no _ rfl
    · rw [if_neg c2, if_neg c2]; exact no _ rfl
  · rw [if_neg c1, if_neg c1]; exact no _ rfl
end
