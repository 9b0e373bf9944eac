section
theorem isIn04 {x : Int32} {σ : AH} : F_X11_isIn x (0 : Int32) (4 : Int32) σ = some (if rgB 0 4 x = true then 1 else 0, σ) := F_isIn (a := 0) (b := 4) (by decide) (by decide)
theorem isIn026 {x : Int32} {σ : AH} : F_X11_isIn x (0 : Int32) (26 : Int32) σ = some (if rgB 0 26 x = true then 1 else 0, σ) := F_isIn (a := 0) (b := 26) (by decide) (by decide)
/-- what the RUNS of the class need and keep -/
def RgI (row : Nat → Int32) (σ : AH) : Prop := TbB row σ ∧ LwI row σ ∧ YcI row σ ∧ RcI row 44 σ ∧ RcI row 56 σ
theorem C_stock {row : Nat → Int32} {x1 x2 x3 x4 : Int32} {σ : AH} (hV : AV row) (hW : AW row) (hB : BV row) (hI : RgI row σ) : ∃ τ, F_X11_stock x1 x2 x3 x4 σ = some (stockV row x1 x2 x3 x4, τ) ∧ RgI row τ ∧ Ch RGc RGf σ τ := by
  have no : ∀ v : Int32, v = -1 → ∃ τ, some ((-1 : Int32), σ) = some (v, τ) ∧ RgI row τ ∧ Ch RGc RGf σ τ := fun v hv => ⟨_, by rw [hv], hI, Ch.rf _⟩
  unfold F_X11_stock stockV
  simp only [isIn04, isIn026, F_isWeekC, bd_b (α := Int32)]
  by_cases c1 : rgB 0 4 x1 = true
  · rw [if_pos c1, if_pos c1]
    by_cases c2 : rgB 0 259 x2 = true
    · rw [if_pos c2, if_pos c2]
      by_cases c3 : rgB 0 259 x3 = true
      · rw [if_pos c3, if_pos c3]
        by_cases c4 : rgB 0 26 x4 = true
        · rw [if_pos c4, if_pos c4]
          obtain ⟨e1, b1⟩ := rg0_n (b := 4) c1 (by decide)
          obtain ⟨e2, b2'⟩ := rg0_n (b := 259) c2 (by decide)
          obtain ⟨e3, b3⟩ := rg0_n (b := 259) c3 (by decide)
          obtain ⟨e4, b4⟩ := rg0_n (b := 26) c4 (by decide)
          have hk : (0 : Int32) ≤ x3 := by rw [e3]; exact nI_le (a := 0) (by omega) (by omega)
          obtain ⟨a, τ, t1, t2, t3, t4, t5, t6, t7, t8, t9⟩ := F_runFor (k := x3) (l := cl x4) hV hW hB hk (by omega) hI.1 hI.2.1 hI.2.2.1 hI.2.2.2.1 hI.2.2.2.2
          rw [← e4] at t1
          rw [t1, bd_some]
          have ma : a ∈ runIds := by unfold runIds; rcases t2 with h | h <;> simp [h]
          have ix : x2 * (5 : Int32) + x1 = nI (cl x2 * 5 + cl x1) := by rw [e2, e1]; simp only [fa_lit, nI_add, pk_mul]; rw [← e2, ← e1]
          rw [if_pos ma, ix, if_pos (inB_n (by omega) (by omega)), nI_clamp (by omega), t3.2.1 (cl x2) (cl x1) (by omega) (by omega)]
          refine ⟨τ, ?_, ⟨t4, t5, t6, t7, t8⟩, t9⟩
          rw [runR_ke (F_knowing hV hk hI.2.1 hI.1).2.1 x4 (cl x2 + 1)]
          have e : rw_ row (ltK row x3) (cl x4) (sw row (ltK row x3)) (cl x2 + 1) = runR row (ltK row x3) x4 (cl x2 + 1) := by
            unfold rw_ runR; rw [← e4]
          rw [e]
        · rw [if_neg c4, if_neg c4]; exact no _ rfl
      · rw [if_neg c3, if_neg c3]; exact no _ rfl
    · rw [if_neg c2, if_neg c2]; exact no _ rfl
  · rw [if_neg c1, if_neg c1]; exact no _ rfl
end
