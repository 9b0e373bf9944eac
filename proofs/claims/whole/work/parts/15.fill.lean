theorem dJ7_fill_53178_0 : decode cJ7_fill_53178 0 = .ok (.iconst 0, 1) := by decide +kernel
theorem dJ7_fill_53178_1 : decode cJ7_fill_53178 1 = .ok (.istore_n 2, 1) := by decide +kernel
theorem dJ7_fill_53178_2 : decode cJ7_fill_53178 2 = .ok (.aload_n 0, 1) := by decide +kernel
theorem dJ7_fill_53178_3 : decode cJ7_fill_53178 3 = .ok (.arraylength, 1) := by decide +kernel
theorem dJ7_fill_53178_4 : decode cJ7_fill_53178 4 = .ok (.istore_n 3, 1) := by decide +kernel
theorem dJ7_fill_53178_5 : decode cJ7_fill_53178 5 = .ok (.iload_n 2, 1) := by decide +kernel
theorem dJ7_fill_53178_6 : decode cJ7_fill_53178 6 = .ok (.iload_n 3, 1) := by decide +kernel
theorem dJ7_fill_53178_7 : decode cJ7_fill_53178 7 = .ok (.if_icmp .ge 13, 3) := by decide +kernel
theorem dJ7_fill_53178_10 : decode cJ7_fill_53178 10 = .ok (.aload_n 0, 1) := by decide +kernel
theorem dJ7_fill_53178_11 : decode cJ7_fill_53178 11 = .ok (.iload_n 2, 1) := by decide +kernel
theorem dJ7_fill_53178_12 : decode cJ7_fill_53178 12 = .ok (.iload_n 1, 1) := by decide +kernel
theorem dJ7_fill_53178_13 : decode cJ7_fill_53178 13 = .ok (.iastore, 1) := by decide +kernel
theorem dJ7_fill_53178_14 : decode cJ7_fill_53178 14 = .ok (.iinc 2 1, 3) := by decide +kernel
theorem dJ7_fill_53178_17 : decode cJ7_fill_53178 17 = .ok (.goto (-12), 3) := by decide +kernel
theorem dJ7_fill_53178_20 : decode cJ7_fill_53178 20 = .ok (.return_, 1) := by decide +kernel
def filln (g : Nat → Int32) (n : Nat) (v : Int32) : Nat → Int32 := fun j => if j < n then v else g j
/-- Arrays.fill of one array: it writes that one alone -/
def m_fill (a : Nat) : MI := (yJ7_fill_53178, cJ7_fill_53178, 4, none, [a], false)
theorem ok_fill (a : Nat) : MOk (m_fill a) 2 := ok_J7_fill_53178
theorem al_fill (a : Nat) : al (m_fill a) a := Or.inl (by simp [m_fill])
def W_J7_fill_53178_0 (X : Sx) (l : Launch) (D : Nat) (x0 : Nat) (x1 : Int32) (σ : AH) (r : Option Value) (σ' : AH) : Prop := ∃ nx0 : Nat, kd σ x0 = (100, nx0) ∧ x0 < nx σ ∧ E X l (m_fill x0) D 5 [(0, .ref x0), (1, .int x1), (2, .int (0 : Int32)), (3, .int (Int32.ofNat nx0))] [] σ r σ'
set_option maxRecDepth 100000 in
theorem w_J7_fill_53178_0 {X : Sx} {l : Launch} {D : Nat} {x0 : Nat} {x1 : Int32} {σ : AH} {r : Option Value} {σ' : AH} (h : W_J7_fill_53178_0 X l D x0 x1 σ r σ') : E X l (m_fill x0) D 0 [(0, .ref x0), (1, .int x1)] [] σ r σ' := by
  unfold W_J7_fill_53178_0 at h
  obtain ⟨nx0, hkx0, hbx0, h⟩ := h
  refine E_iconst (0 : Int32) dJ7_fill_53178_0 (by decide) ?_
  refine E_istore_n [(2, .int (0 : Int32)), (0, .ref x0), (1, .int x1)] dJ7_fill_53178_1 rfl (Nat.le_of_ble_eq_true rfl) rfl ?_
  refine E_aload_n 1 dJ7_fill_53178_2 rfl rfl ?_
  refine E_alen dJ7_fill_53178_3 hkx0 hbx0 (by decide) (by decide) ?_
  refine E_istore_n [(3, .int (Int32.ofNat nx0)), (2, .int (0 : Int32)), (0, .ref x0), (1, .int x1)] dJ7_fill_53178_4 rfl (Nat.le_of_ble_eq_true rfl) rfl ?_
  exact E_lv [2, 3, 1, 0] rfl h
def W_J7_fill_53178_5 (X : Sx) (l : Launch) (D : Nat) (x0 : Nat) (x1 : Int32) (x2 : Int32) (x3 : Int32) (σ : AH) (r : Option Value) (σ' : AH) : Prop := ∃ nx0 : Nat, kd σ x0 = (100, nx0) ∧ x0 < nx σ ∧ (if x3 ≤ x2 then (r = none ∧ σ' = σ) else al (m_fill x0) x0 ∧ vp_in x2 nx0 ∧ E X l (m_fill x0) D 5 [(0, .ref x0), (1, .int x1), (2, .int (x2 + 1)), (3, .int x3)] [] (sI σ x0 x2.toNatClampNeg x1) r σ')
set_option maxRecDepth 100000 in
theorem w_J7_fill_53178_5 {X : Sx} {l : Launch} {D : Nat} {x0 : Nat} {x1 : Int32} {x2 : Int32} {x3 : Int32} {σ : AH} {r : Option Value} {σ' : AH} (h : W_J7_fill_53178_5 X l D x0 x1 x2 x3 σ r σ') : E X l (m_fill x0) D 5 [(0, .ref x0), (1, .int x1), (2, .int x2), (3, .int x3)] [] σ r σ' := by
  unfold W_J7_fill_53178_5 at h
  obtain ⟨nx0, hkx0, hbx0, h⟩ := h
  refine E_iload_n 2 dJ7_fill_53178_5 rfl rfl ?_
  refine E_iload_n 3 dJ7_fill_53178_6 rfl rfl ?_
  refine E_icmp_ge 20 dJ7_fill_53178_7 (by decide) (fun c => ?_) (fun c => ?_)
  · rw [if_pos c] at h
    obtain ⟨rfl, rfl⟩ := h
    exact E_vret dJ7_fill_53178_20 rfl
  · rw [if_neg c] at h
    refine E_aload_n 0 dJ7_fill_53178_10 rfl rfl ?_
    refine E_iload_n 2 dJ7_fill_53178_11 rfl rfl ?_
    refine E_iload_n 1 dJ7_fill_53178_12 rfl rfl ?_
    obtain ⟨ga1, h⟩ := h
    obtain ⟨g2, h⟩ := h
    refine E_iast2 (x2.toNatClampNeg) dJ7_fill_53178_13 hkx0 hbx0 ga1 g2 rfl ?_
    refine E_iinc 2 (x2 + 1) [(2, .int (x2 + 1)), (0, .ref x0), (1, .int x1), (3, .int x3)] dJ7_fill_53178_14 rfl (congrArg (x2 + ·) (by decide : Int32.ofInt 1 = 1)) (Nat.le_of_ble_eq_true rfl) rfl ?_
    refine E_goto 5 dJ7_fill_53178_17 (by decide) ?_
    exact E_lv [1, 2, 0, 3] rfl h
theorem sA_sI {σ : AH} {a k : Nat} {v : Int32} {g : Nat → Int32} : sA (sI σ a k v) a g = sA σ a g := by
  show (kd σ, va_up (va_up (gI σ) a _) a g, gL σ, gR σ, nx σ, sl σ) = (kd σ, va_up (gI σ) a g, gL σ, gR σ, nx σ, sl σ)
  rw [bx_uu]
theorem sA_self {σ : AH} {a : Nat} {g : Nat → Int32} (h : g = gI σ a) : sA σ a g = σ := by
  subst h
  show (kd σ, va_up (gI σ) a (gI σ a), gL σ, gR σ, nx σ, sl σ) = σ
  have : va_up (gI σ) a (gI σ a) = gI σ := by
    funext j
    by_cases hj : j = a
    · subst hj; rw [up_same]
    · rw [up_ne _ _ _ hj]
  rw [this]; rfl
theorem fill_loop {X : Sx} {l : Launch} {D a n : Nat} {v : Int32} (hn : n < 2 ^ 31) : ∀ (k i : Nat) (σ : AH), i + k = n → kd σ a = (100, n) → a < nx σ → E X l (m_fill a) D 5 [(0, .ref a), (1, .int v), (2, .int (nI i)), (3, .int (nI n))] [] σ none (sA σ a (fun j => if i ≤ j ∧ j < n then v else gI σ a j)) := by
  intro k
  induction k with
  | zero =>
    intro i σ hik hk ha
    refine w_J7_fill_53178_5 ?_
    unfold W_J7_fill_53178_5
    refine ⟨n, hk, ha, ?_⟩
    rw [if_pos (nI_le (a := n) (b := i) (by omega) (by omega))]
    refine ⟨rfl, sA_self ?_⟩
    funext j
    rw [if_neg (by omega)]
  | succ k ih =>
    intro i σ hik hk ha
    refine w_J7_fill_53178_5 ?_
    unfold W_J7_fill_53178_5
    refine ⟨n, hk, ha, ?_⟩
    rw [if_neg (nI_ge (a := i) (b := n) (by omega) hn)]
    refine ⟨al_fill a, vp_in_nI (by omega) hn, ?_⟩
    rw [nI_clamp (by omega), nI_1]
    have := ih (i + 1) (sI σ a i v) (by omega) hk ha
    rw [sA_sI] at this
    have e : (fun j => if i + 1 ≤ j ∧ j < n then v else gI (sI σ a i v) a j) = fun j => if i ≤ j ∧ j < n then v else gI σ a j := by
      funext j
      rw [gI_row]
      by_cases hj : j = i
      · subst hj
        rw [if_neg (by omega), if_pos (by omega), up_same]
      · rw [up_ne _ _ _ hj]
        by_cases h1 : i ≤ j ∧ j < n
        · rw [if_pos h1, if_pos (by omega)]
        · rw [if_neg h1, if_neg (by omega)]
    rw [e] at this
    exact this
theorem p_fill {X : Sx} {l : Launch} {d a n : Nat} {v : Int32} {σ : AH} (hn : n < 2 ^ 31) (hk : kd σ a = (100, n)) (ha : a < nx σ) : Call X l (m_fill a) d [.ref a, .int v] σ none (sA σ a (filln (gI σ a) n v)) := by
  refine Call.ofE (ok_fill a) rfl (Nat.le_of_ble_eq_true rfl) ?_
  refine w_J7_fill_53178_0 ?_
  refine ⟨n, hk, ha, ?_⟩
  have := fill_loop (X := X) (l := l) (D := d) (v := v) hn n 0 σ (by omega) hk ha
  have e : (fun j => if 0 ≤ j ∧ j < n then v else gI σ a j) = filln (gI σ a) n v := by
    funext j
    simp only [filln, Nat.zero_le, true_and]
  rw [e] at this
  exact this
theorem E_fill {X : Sx} {l : Launch} {f : MI} {D pc : Nat} {lv : List (Nat × Value)} {st : List Value} {σ σ' : AH} {r : Option Value} {idx a n : Nat} {v : Int32} (hd : decode f.2.1 pc = .ok (.invokestatic idx, 3)) (hlk : Cond.methodLink f.1.cls idx m_J7_fill_53178.1 ∈ lw_good) (hk : kd σ a = (100, n)) (ha : a < nx σ) (hal : al f a) (hD : 1 ≤ D) (hn : n < 2 ^ 31) (hcat : (st.map fun v => v.category).sum ≤ 8)
    (kk : E X l f D (pc + 3) lv st (sA σ a (filln (gI σ a) n v)) r σ') : E X l f D pc lv (.int v :: .ref a :: st) σ r σ' := by
  have hC := p_fill (X := X) (l := l) (d := 0) (v := v) hn hk ha
  refine E_callSA (As := [.ref a, .int v]) (rest := st) (r1 := none) hd (ok_fill a) is_J7_fill_53178 hlk hD rfl rfl hcat (fun i hi => ?_) hC kk
  rcases hi with hi | ⟨hi, -⟩
  · have : i = a := by simpa [m_fill] using hi
    rw [this]; exact hal
  · cases hi
