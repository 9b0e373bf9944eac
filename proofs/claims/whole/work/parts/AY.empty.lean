section
/-! there is always room for a stay in the class -/
theorem pigeon : ∀ (m n : Nat) (f : Nat → Nat), (∀ s, s < n → f s < m) → (∀ s t, s < n → t < n → f s = f t → s = t) → n ≤ m := by
  intro m
  induction m with
  | zero =>
    intro n f h _
    rcases Nat.eq_zero_or_pos n with z | z
    · omega
    · have := h 0 z; omega
  | succ m ih =>
    intro n f h hi
    rcases Nat.eq_zero_or_pos n with z | z
    · omega
    · by_cases c : ∃ s, s < n ∧ f s = m
      · obtain ⟨s0, a, b⟩ := c
        have := ih (n - 1) (fun s => if s = s0 then f (n - 1) else f s) (fun s hs => by
          by_cases e : s = s0
          · rw [if_pos e]
            have h1 := h (n - 1) (by omega)
            have h2 : f (n - 1) ≠ m := fun q => by have := hi (n - 1) s0 (by omega) a (by rw [q, b]); omega
            omega
          · rw [if_neg e]
            have h1 := h s (by omega)
            have h2 : f s ≠ m := fun q => e (hi s s0 (by omega) a (by rw [q, b]))
            omega) (fun s t hs ht e => by
          by_cases c1 : s = s0
          · by_cases c2 : t = s0
            · omega
            · rw [if_pos c1, if_neg c2] at e
              have := hi (n - 1) t (by omega) (by omega) e; omega
          · by_cases c2 : t = s0
            · rw [if_neg c1, if_pos c2] at e
              have := hi s (n - 1) (by omega) (by omega) e; omega
            · rw [if_neg c1, if_neg c2] at e
              exact hi s t (by omega) (by omega) e)
        omega
      · have := ih n f (fun s hs => by
          have h1 := h s hs
          have h2 : f s ≠ m := fun q => c ⟨s, hs, q⟩
          omega) hi
        omega
/-- a stay is empty, or it covers the WEEK in which it begins -/
def CyE (n : Nat) (C : Nat → Nat → Int32) : Prop := ∀ s, s < n → C s 2 = C s 5 ∨ cvB C s (cl (C s 2)) = true
theorem stays_room {N E n : Nat} {C : Nat → Nat → Int32} {oc : Nat → Nat → Option (Nat × Nat × Bool × Nat)} (hN : N ≤ 30) (hV : CyV N E n C) (hR : RpC N n C oc) (hE : CyE n C) (h : ∀ s, s < n → C s 2 ≠ C s 5) : n < 7830 := by
  have := pigeon 7800 n (fun s => cl (C s 0) * 260 + cl (C s 2)) (fun s hs => by
    obtain ⟨v0, _, v2, _⟩ := hV s hs
    have a := v0.2
    have b := v2.2
    show cl (C s 0) * 260 + cl (C s 2) < 7800
    omega) (fun s t hs ht e => by
    obtain ⟨v0, _, v2, _⟩ := hV s hs
    obtain ⟨u0, _, u2, _⟩ := hV t ht
    have b := v2.2
    have b' := u2.2
    have e' : cl (C s 0) * 260 + cl (C s 2) = cl (C t 0) * 260 + cl (C t 2) := e
    have e0 : cl (C s 0) = cl (C t 0) := by omega
    have e2 : cl (C s 2) = cl (C t 2) := by omega
    have cs : cvB C s (cl (C s 2)) = true := by
      rcases hE s hs with z | z
      · exact absurd z (h s hs)
      · exact z
    have ct : cvB C t (cl (C s 2)) = true := by
      rw [e2]
      rcases hE t ht with z | z
      · exact absurd z (h t ht)
      · exact z
    exact (hR (cl (C s 0)) v0.2 (cl (C s 2)) b).2.2 s t hs ht v0.1 (by rw [e0]; exact u0.1) cs ct)
  omega
/-- an empty stay covers nothing -/
theorem empty_cv {C : Nat → Nat → Int32} {s : Nat} (h : C s 2 = C s 5) : ∀ v, v < 260 → cvB C s v = false := fun v hv => by
  cases e : cvB C s v with
  | false => rfl
  | true =>
    rw [cv_iff (by omega), h] at e
    omega
theorem CyE.leave {N E n s w : Nat} {C : Nat → Nat → Int32} (hV : CyV N E n C) (h : CyE n C) (hs : s < n) (hw : w < 260) (hc : cvB C s w = true) : CyE n (upC C s 5 (nI w)) := fun t ht => by
  obtain ⟨_, _, v2, _⟩ := hV t ht
  have b := v2.2
  by_cases e : t = s
  · subst e
    rw [cv_iff (by omega)] at hc
    rw [upC_ne (by decide), upC_at]
    have i2 : (C t 2).toInt = (cl (C t 2) : Int) := by
      have := congrArg Int32.toInt v2.1
      rw [nI_toInt (by omega)] at this; exact this
    by_cases z : cl (C t 2) = w
    · left; rw [v2.1, z]
    · right
      rw [cv_iff (by omega), upC_ne (by decide), upC_ne (by decide), upC_at, nI_toInt (by omega)]
      omega
  · rw [upC_no e, upC_no e]
    rcases h t ht with z | z
    · exact Or.inl z
    · right
      unfold cvB at z ⊢
      rw [upC_no e, upC_no e, upC_no e]; exact z
theorem CyE.goIn {n n' s w : Nat} {C C' : Nat → Nat → Int32} (h : CyE n C) (ho : ∀ t, t < n' → t ≠ s → t < n ∧ ∀ j, C' t j = C t j) (hw : w < 260) (c2 : C' s 2 = nI w) (c4 : ¬ C' s 4 ≤ nI w) (c5 : (260 : Int32) ≤ C' s 5) : CyE n' C' := fun t ht => by
  by_cases e : t = s
  · subst e
    right
    rw [c2, show cl (nI w) = w from nI_clamp (by omega), cv_iff (by omega), c2, nI_toInt (by omega)]
    rw [Int32.le_iff_toInt_le, nI_toInt (by omega)] at c4
    rw [Int32.le_iff_toInt_le] at c5
    have : (260 : Int32).toInt = 260 := by decide
    omega
  · obtain ⟨a, b⟩ := ho t ht e
    rw [b, b]
    rcases h t a with z | z
    · exact Or.inl z
    · right
      unfold cvB at z ⊢
      rw [b, b, b]; exact z
end
