section
def RGc : List Nat := RFc 44 ++ RFc 56
def RGf : List (Nat × Nat) := RFf 44 ++ RFf 56
theorem F_runFor {row : Nat → Int32} {k : Int32} {l : Nat} {σ : AH} (hV : AV row) (hW : AW row) (hB : BV row) (hk : 0 ≤ k) (hl : l ≤ 26) (hT : TbB row σ) (hL : LwI row σ) (hY : YcI row σ) (h44 : RcI row 44 σ) (h56 : RcI row 56 σ) :
    ∃ a τ, F_X11_runFor k (nI l) σ = some (a, τ) ∧ (a = 44 ∨ a = 56) ∧ RnI row (ltK row k) l (sw row (ltK row k)) a 260 τ ∧ TbB row τ ∧ LwI row τ ∧ YcI row τ ∧ RcI row 44 τ ∧ RcI row 56 τ ∧ Ch RGc RGf σ τ := by
  unfold F_X11_runFor
  rw [(F_knowing hV hk hL hT).1, bd_some]
  by_cases z : nI l = 0
  · rw [if_pos z]
    obtain ⟨τ, t1, t2, t3, t4, t5, t6, t7⟩ := runFor_44 (k := ltK row k) hV hW hB hl hT hL hY h44
    exact ⟨44, τ, t1, Or.inl rfl, t2, t3, t4, t5, t6, h56.keep t7 (by simp [RFc]) (by simp [RFf]), t7.mono (fun i hi => List.mem_append_left _ hi) (fun q hq => Or.inl (List.mem_append_left _ hq))⟩
  · rw [if_neg z]
    obtain ⟨τ, t1, t2, t3, t4, t5, t6, t7⟩ := runFor_56 (k := ltK row k) hV hW hB hl hT hL hY h56
    exact ⟨56, τ, t1, Or.inr rfl, t2, t3, t4, t5, h44.keep t7 (by simp [RFc]) (by simp [RFf]), t6, t7.mono (fun i hi => List.mem_append_right _ hi) (fun q hq => Or.inl (List.mem_append_right _ hq))⟩
end
