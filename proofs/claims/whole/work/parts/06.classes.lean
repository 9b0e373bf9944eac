def FLink (own : String) (idx ci k : Nat) : Prop := ci < 13 ∧ k < NO ci ∧ Cond.fieldLink own idx (TO ci k).1 (TO ci k).2.1 (TO ci k).2.2.1 ∈ lw_good
def ClsOk (c : Nat) : Prop := vwCl[c]? = some (RO c, TO c, NO c) ∧ (∀ w ∈ u_ws (RO c) (TO c) (NO c), w ∈ lw_good) ∧ (∀ k, k < NO c → parseFieldDescriptor (TO c k).2.2.1 = some (tyO c k)) ∧ (∀ a, a < NO c → ∀ b, b < NO c → a ≠ b → (TO c a).2.1 ≠ (TO c b).2.1) ∧ Cond.instantiable (RO c) (NO c) ∈ lw_good ∧ Cond.initialized (RO c) ∈ lw_good
theorem mem_good {w : Cond} (h : lw_good.elem w = true) : w ∈ lw_good := List.elem_iff.mp h
theorem clsok_0 : ClsOk 0 := ⟨rfl, by decide +kernel, tyX0_ok, nmX0, by decide +kernel, by decide +kernel⟩
theorem clsok_1 : ClsOk 1 := ⟨rfl, by decide +kernel, tyX1_ok, nmX1, by decide +kernel, by decide +kernel⟩
theorem clsok_2 : ClsOk 2 := ⟨rfl, by decide +kernel, tyX2_ok, nmX2, by decide +kernel, by decide +kernel⟩
theorem clsok_3 : ClsOk 3 := ⟨rfl, by decide +kernel, tyX3_ok, nmX3, by decide +kernel, by decide +kernel⟩
theorem clsok_4 : ClsOk 4 := ⟨rfl, by decide +kernel, tyX4_ok, nmX4, by decide +kernel, by decide +kernel⟩
theorem clsok_5 : ClsOk 5 := ⟨rfl, by decide +kernel, tyX5_ok, nmX5, by decide +kernel, by decide +kernel⟩
theorem clsok_6 : ClsOk 6 := ⟨rfl, by decide +kernel, tyX6_ok, nmX6, by decide +kernel, by decide +kernel⟩
theorem clsok_7 : ClsOk 7 := ⟨rfl, by decide +kernel, tyX7_ok, nmX7, by decide +kernel, by decide +kernel⟩
theorem clsok_8 : ClsOk 8 := ⟨rfl, by decide +kernel, tyX8_ok, nmX8, by decide +kernel, by decide +kernel⟩
theorem clsok_9 : ClsOk 9 := ⟨rfl, by decide +kernel, tyX9_ok, nmX9, by decide +kernel, by decide +kernel⟩
theorem clsok_10 : ClsOk 10 := ⟨rfl, by decide +kernel, tyX10_ok, nmX10, by decide +kernel, by decide +kernel⟩
theorem clsok_11 : ClsOk 11 := ⟨rfl, by decide +kernel, tyX11_ok, nmX11, by decide +kernel, by decide +kernel⟩
theorem clsok_12 : ClsOk 12 := ⟨rfl, by decide +kernel, tyX12_ok, nmX12, by decide +kernel, by decide +kernel⟩
theorem clsok {c : Nat} (h : c < 13) : ClsOk c := by
  match c, h with
  | 0, _ => exact clsok_0
  | 1, _ => exact clsok_1
  | 2, _ => exact clsok_2
  | 3, _ => exact clsok_3
  | 4, _ => exact clsok_4
  | 5, _ => exact clsok_5
  | 6, _ => exact clsok_6
  | 7, _ => exact clsok_7
  | 8, _ => exact clsok_8
  | 9, _ => exact clsok_9
  | 10, _ => exact clsok_10
  | 11, _ => exact clsok_11
  | 12, _ => exact clsok_12
  | c + 13, h => omega
