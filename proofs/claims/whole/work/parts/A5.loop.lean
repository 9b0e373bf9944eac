section

/-- which of those that rest begin at time t -/
def tmT (n t : Nat) (r x : Nat → Nat) : Nat := mk (fun i => decide (r i = 0 ∧ x i = t + 1)) n

theorem lp_70b {row : Nat → Int32} {q n t M : Nat} {wi r : Nat → Nat} {C : Int32 → Int32 → AH → Option AH} (hV : AV row) (hA : AW row) (hB : BV row) (hq : q < 20) (hW : WiV row n wi) (hK : KE row (kQ q) (kL row q)) (ht : t = 0) (hrt : ∀ i, r i ≤ t) (hM : M < 64) (hMb : ∀ i, i < n → M.testBit i = decide (r i = 0))
    (hC : ∀ (r' : Nat → Nat) (M' : Nat) (V' : (Nat → Nat) → Prop) (σ' : AH), (∀ i, r' i ≤ t + 1) → M' < 64 → (∀ i, i < n → M'.testBit i = decide (r' i = 0)) → BrI row q n wi (t + 1) r' σ' → VsI row q n wi V' σ' → ∃ τ, C (nI (t + 1)) (nI M') σ' = some τ ∧ BrI row q n wi (t + 1) r' τ ∧ VsI row q n wi (fun x => V' x ∨ ExT n (t + 1) r' x) τ ∧ Ch (BRc (t + 1)) BRf σ' τ) :
    ∀ (m : Nat), m &&& M = m → ∀ (g : Nat) (V : (Nat → Nat) → Prop) (σ : AH), BrI row q n wi t r σ → VsI row q n wi V σ →
    ∃ τ, F_X1_branch_70b C (m + 2 + g) (nI t) (nI M) (nI (13 * q + 4 * t)) (nI (13 * q + wkT (t + 1))) (nI m) σ = some τ ∧ BrI row q n wi t r τ ∧ VsI row q n wi (fun x => V x ∨ (ExT n t r x ∧ tmT n t r x ≤ m)) τ ∧ Ch (BRc t) BRf σ τ := by
  have hn := hW.1
  have p6 : 2 ^ n ≤ 64 := by
    have : 2 ^ n ≤ 2 ^ 6 := Nat.pow_le_pow_right (by decide) hn
    exact this
  have tsub : ∀ x, tmT n t r x &&& M = tmT n t r x := fun x => sub_of (fun i e => by
    unfold tmT at e
    rw [mk_bit] at e
    have e' := Bool.and_eq_true_iff.mp e
    have hi := of_decide_eq_true e'.1
    have hb := of_decide_eq_true e'.2
    rw [hMb i hi, decide_eq_true hb.1])
  have tlt : ∀ x, tmT n t r x < 64 := fun x => by
    have := mk_lt (f := fun i => decide (r i = 0 ∧ x i = t + 1)) n
    unfold tmT; omega
  have ext : ∀ m x, ExT n t r x → tmT n t r x = m → ExT n (t + 1) (fun i => if m.testBit i = true then t + 1 else r i) x := fun m x hx he => by
    refine ⟨hx.1, fun i hi => ?_⟩
    obtain ⟨h1, h2⟩ := hx.2 i hi
    have hb : m.testBit i = decide (r i = 0 ∧ x i = t + 1) := by rw [← he]; unfold tmT; rw [mk_bit, decide_eq_true hi, Bool.true_and]
    show ((if m.testBit i = true then t + 1 else r i) ≠ 0 → x i = if m.testBit i = true then t + 1 else r i) ∧ ((if m.testBit i = true then t + 1 else r i) = 0 → _)
    by_cases y : r i = 0 ∧ x i = t + 1
    · rw [decide_eq_true y] at hb
      rw [hb, if_pos rfl]
      exact ⟨fun _ => y.2, fun z => by omega⟩
    · rw [decide_eq_false y] at hb
      rw [hb, if_neg (by decide)]
      refine ⟨h1, fun z => ?_⟩
      rcases h2 z with w | w
      · exact Or.inl w
      · exact Or.inr (by
          have : ¬ x i = t + 1 := fun e => y ⟨z, e⟩
          omega)
  intro m
  induction m using Nat.strongRecOn with
  | _ m ih =>
    intro hm g V σ hI hv
    have mlt : m < 64 := by rw [← hm]; exact Nat.lt_of_le_of_lt Nat.and_le_right hM
    obtain ⟨τ, a1, a2, a3, a4⟩ := st_70b (K := F_X1_branch_70b C (m + 1 + g)) hV hA hB hq hW hK ht hrt hM hMb hm hC hI hv
    rw [show m + 2 + g = (m + 1 + g) + 1 by omega]
    show ∃ τ, B_X1_branch_70b C (F_X1_branch_70b C (m + 1 + g)) (nI t) (nI M) (nI (13 * q + 4 * t)) (nI (13 * q + wkT (t + 1))) (nI m) σ = some τ ∧ _
    rw [a1]
    by_cases z : m = 0
    · rw [if_pos z, show m + 1 + g = (m + g) + 1 by omega]
      have e : F_X1_branch_70b C (m + g + 1) (nI t) (nI M) (nI (13 * q + 4 * t)) (nI (13 * q + wkT (t + 1))) (-1) τ = some τ := by
        show B_X1_branch_70b C (F_X1_branch_70b C (m + g)) (nI t) (nI M) (nI (13 * q + 4 * t)) (nI (13 * q + wkT (t + 1))) (-1) τ = some τ
        unfold B_X1_branch_70b
        rw [if_pos (by decide)]
      rw [e]
      refine ⟨τ, rfl, a2, a3.im (fun x hx => ?_), a4⟩
      rcases hx with w | ⟨w1, w2⟩
      · exact Or.inl w
      · exact Or.inr (ext m x w1 (by omega))
    · rw [if_neg z]
      have lt : (m - 1) &&& M < m := Nat.lt_of_le_of_lt Nat.and_le_left (by omega)
      have sb : ((m - 1) &&& M) &&& M = (m - 1) &&& M := by rw [Nat.and_assoc, Nat.and_self]
      obtain ⟨τ2, b1, b2', b3, b4⟩ := ih ((m - 1) &&& M) lt sb (m - 1 - ((m - 1) &&& M) + g) _ τ a2 a3
      rw [show ((m - 1) &&& M) + 2 + (m - 1 - ((m - 1) &&& M) + g) = m + 1 + g by omega] at b1
      refine ⟨τ2, b1, b2', b3.im (fun x hx => ?_), a4.trans b4⟩
      rcases hx with w | ⟨w1, w2⟩
      · exact Or.inl (Or.inl w)
      · by_cases e : tmT n t r x = m
        · exact Or.inl (Or.inr (ext m x w1 e))
        · exact Or.inr ⟨w1, sub_next hM mlt (tlt x) hm (tsub x) (by omega)⟩

theorem lp_70 {row : Nat → Int32} {q n t M : Nat} {wi r : Nat → Nat} {C : Int32 → Int32 → AH → Option AH} (hV : AV row) (hA : AW row) (hB : BV row) (hq : q < 20) (hW : WiV row n wi) (hK : KE row (kQ q) (kL row q)) (ht : 0 < t ∧ t < 3) (hrt : ∀ i, r i ≤ t) (hM : M < 64) (hMb : ∀ i, i < n → M.testBit i = decide (r i = 0))
    (hC : ∀ (r' : Nat → Nat) (M' : Nat) (V' : (Nat → Nat) → Prop) (σ' : AH), (∀ i, r' i ≤ t + 1) → M' < 64 → (∀ i, i < n → M'.testBit i = decide (r' i = 0)) → BrI row q n wi (t + 1) r' σ' → VsI row q n wi V' σ' → ∃ τ, C (nI (t + 1)) (nI M') σ' = some τ ∧ BrI row q n wi (t + 1) r' τ ∧ VsI row q n wi (fun x => V' x ∨ ExT n (t + 1) r' x) τ ∧ Ch (BRc (t + 1)) BRf σ' τ) :
    ∀ (m : Nat), m &&& M = m → ∀ (g : Nat) (V : (Nat → Nat) → Prop) (σ : AH), BrI row q n wi t r σ → VsI row q n wi V σ →
    ∃ τ, F_X1_branch_70 C (m + 2 + g) (nI t) (nI M) (73 + 10 * t) (nI (13 * q + 4 * t)) (nI (13 * q + wkT (t + 1))) (nI m) σ = some τ ∧ BrI row q n wi t r τ ∧ VsI row q n wi (fun x => V x ∨ (ExT n t r x ∧ tmT n t r x ≤ m)) τ ∧ Ch (BRc t) BRf σ τ := by
  have hn := hW.1
  have p6 : 2 ^ n ≤ 64 := by
    have : 2 ^ n ≤ 2 ^ 6 := Nat.pow_le_pow_right (by decide) hn
    exact this
  have tsub : ∀ x, tmT n t r x &&& M = tmT n t r x := fun x => sub_of (fun i e => by
    unfold tmT at e
    rw [mk_bit] at e
    have e' := Bool.and_eq_true_iff.mp e
    have hi := of_decide_eq_true e'.1
    have hb := of_decide_eq_true e'.2
    rw [hMb i hi, decide_eq_true hb.1])
  have tlt : ∀ x, tmT n t r x < 64 := fun x => by
    have := mk_lt (f := fun i => decide (r i = 0 ∧ x i = t + 1)) n
    unfold tmT; omega
  have ext : ∀ m x, ExT n t r x → tmT n t r x = m → ExT n (t + 1) (fun i => if m.testBit i = true then t + 1 else r i) x := fun m x hx he => by
    refine ⟨hx.1, fun i hi => ?_⟩
    obtain ⟨h1, h2⟩ := hx.2 i hi
    have hb : m.testBit i = decide (r i = 0 ∧ x i = t + 1) := by rw [← he]; unfold tmT; rw [mk_bit, decide_eq_true hi, Bool.true_and]
    show ((if m.testBit i = true then t + 1 else r i) ≠ 0 → x i = if m.testBit i = true then t + 1 else r i) ∧ ((if m.testBit i = true then t + 1 else r i) = 0 → _)
    by_cases y : r i = 0 ∧ x i = t + 1
    · rw [decide_eq_true y] at hb
      rw [hb, if_pos rfl]
      exact ⟨fun _ => y.2, fun z => by omega⟩
    · rw [decide_eq_false y] at hb
      rw [hb, if_neg (by decide)]
      refine ⟨h1, fun z => ?_⟩
      rcases h2 z with w | w
      · exact Or.inl w
      · exact Or.inr (by
          have : ¬ x i = t + 1 := fun e => y ⟨z, e⟩
          omega)
  intro m
  induction m using Nat.strongRecOn with
  | _ m ih =>
    intro hm g V σ hI hv
    have mlt : m < 64 := by rw [← hm]; exact Nat.lt_of_le_of_lt Nat.and_le_right hM
    obtain ⟨τ, a1, a2, a3, a4⟩ := st_70 (K := F_X1_branch_70 C (m + 1 + g)) hV hA hB hq hW hK ht hrt hM hMb hm hC hI hv
    rw [show m + 2 + g = (m + 1 + g) + 1 by omega]
    show ∃ τ, B_X1_branch_70 C (F_X1_branch_70 C (m + 1 + g)) (nI t) (nI M) (73 + 10 * t) (nI (13 * q + 4 * t)) (nI (13 * q + wkT (t + 1))) (nI m) σ = some τ ∧ _
    rw [a1]
    by_cases z : m = 0
    · rw [if_pos z, show m + 1 + g = (m + g) + 1 by omega]
      have e : F_X1_branch_70 C (m + g + 1) (nI t) (nI M) (73 + 10 * t) (nI (13 * q + 4 * t)) (nI (13 * q + wkT (t + 1))) (-1) τ = some τ := by
        show B_X1_branch_70 C (F_X1_branch_70 C (m + g)) (nI t) (nI M) (73 + 10 * t) (nI (13 * q + 4 * t)) (nI (13 * q + wkT (t + 1))) (-1) τ = some τ
        unfold B_X1_branch_70
        rw [if_pos (by decide)]
      rw [e]
      refine ⟨τ, rfl, a2, a3.im (fun x hx => ?_), a4⟩
      rcases hx with w | ⟨w1, w2⟩
      · exact Or.inl w
      · exact Or.inr (ext m x w1 (by omega))
    · rw [if_neg z]
      have lt : (m - 1) &&& M < m := Nat.lt_of_le_of_lt Nat.and_le_left (by omega)
      have sb : ((m - 1) &&& M) &&& M = (m - 1) &&& M := by rw [Nat.and_assoc, Nat.and_self]
      obtain ⟨τ2, b1, b2', b3, b4⟩ := ih ((m - 1) &&& M) lt sb (m - 1 - ((m - 1) &&& M) + g) _ τ a2 a3
      rw [show ((m - 1) &&& M) + 2 + (m - 1 - ((m - 1) &&& M) + g) = m + 1 + g by omega] at b1
      refine ⟨τ2, b1, b2', b3.im (fun x hx => ?_), a4.trans b4⟩
      rcases hx with w | ⟨w1, w2⟩
      · exact Or.inl (Or.inl w)
      · by_cases e : tmT n t r x = m
        · exact Or.inl (Or.inr (ext m x w1 e))
        · exact Or.inr ⟨w1, sub_next hM mlt (tlt x) hm (tsub x) (by omega)⟩
end
