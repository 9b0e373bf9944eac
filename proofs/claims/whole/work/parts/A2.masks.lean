section
/-! masks -/
theorem fa_and (a b : Nat) : nI a &&& nI b = nI (a &&& b) := by
  apply Int32.toBitVec_inj.1
  show BitVec.ofNat 32 a &&& BitVec.ofNat 32 b = BitVec.ofNat 32 (a &&& b)
  apply BitVec.eq_of_getLsbD_eq
  intro i hi
  simp [hi]
theorem and_not {M m : Nat} (h : m &&& M = m) : nI M &&& (nI m ^^^ (-1 : Int32)) = nI (M ^^^ m) := by
  apply Int32.toBitVec_inj.1
  show BitVec.ofNat 32 M &&& (BitVec.ofNat 32 m ^^^ (-1 : Int32).toBitVec) = BitVec.ofNat 32 (M ^^^ m)
  apply BitVec.eq_of_getLsbD_eq
  intro i hi
  have e1 : (-1 : Int32).toBitVec.getLsbD i = true := by
    have : ∀ j : Fin 32, (-1 : Int32).toBitVec.getLsbD j.val = true := by decide +kernel
    exact this ⟨i, hi⟩
  have hb : m.testBit i = (m.testBit i && M.testBit i) := by
    have := congrArg (fun x => Nat.testBit x i) h
    simp only [Nat.testBit_and] at this
    exact this.symm
  rw [BitVec.getLsbD_and, BitVec.getLsbD_xor, e1, BitVec.getLsbD_ofNat, BitVec.getLsbD_ofNat, BitVec.getLsbD_ofNat]
  simp only [hi, decide_true, Bool.true_and, Nat.testBit_xor]
  cases hm : m.testBit i <;> cases hM : M.testBit i <;> simp_all
def mk (f : Nat → Bool) : Nat → Nat := fun n => match n with
  | 0 => 0
  | n + 1 => mk f n ||| (if f n = true then 2 ^ n else 0)
theorem mk_s {f : Nat → Bool} {n : Nat} : mk f (n + 1) = mk f n ||| (if f n = true then 2 ^ n else 0) := rfl
theorem mk_lt {f : Nat → Bool} : ∀ n, mk f n < 2 ^ n := by
  intro n
  induction n with
  | zero => exact Nat.one_pos
  | succ n ih =>
    rw [mk_s]
    refine Nat.or_lt_two_pow ?_ ?_
    · rw [Nat.pow_succ]; omega
    · have : 0 < 2 ^ n := Nat.pow_pos (by decide)
      split
      · rw [Nat.pow_succ]; omega
      · rw [Nat.pow_succ]; omega
theorem mk_bit {f : Nat → Bool} : ∀ n i, (mk f n).testBit i = (decide (i < n) && f i) := by
  intro n
  induction n with
  | zero => intro i; rw [decide_eq_false (Nat.not_lt_zero i)]; exact Nat.zero_testBit i
  | succ n ih =>
    intro i
    rw [mk_s, Nat.testBit_or, ih i]
    by_cases e : i = n
    · subst e
      rw [decide_eq_false (Nat.lt_irrefl i), decide_eq_true (Nat.lt_succ_self i), Bool.false_and, Bool.false_or, Bool.true_and]
      cases hf : f i with
      | true => rw [if_pos rfl, Nat.testBit_two_pow_self]
      | false => rw [if_neg (by decide), Nat.zero_testBit]
    · have z : (if f n = true then 2 ^ n else 0).testBit i = false := by
        split
        · exact Nat.testBit_two_pow_of_ne (fun q => e q.symm)
        · exact Nat.zero_testBit i
      rw [z, Bool.or_false]
      by_cases l : i < n
      · rw [decide_eq_true l, decide_eq_true (show i < n + 1 by omega)]
      · rw [decide_eq_false l, decide_eq_false (show ¬ i < n + 1 by omega)]
theorem sub_of {u M : Nat} (h : ∀ i, u.testBit i = true → M.testBit i = true) : u &&& M = u := by
  apply Nat.eq_of_testBit_eq
  intro i
  rw [Nat.testBit_and]
  cases e : u.testBit i with
  | false => rfl
  | true => rw [h i e]; rfl
theorem sub_bit {u M i : Nat} (h : u &&& M = u) (e : u.testBit i = true) : M.testBit i = true := by
  have := congrArg (fun x => Nat.testBit x i) h
  simp only [Nat.testBit_and] at this
  rw [e] at this
  simpa using this
def subC : Bool := (List.range 64).all fun r => (List.range 64).all fun m => !((m &&& r) == m) || (List.range 64).all fun u => !((u &&& r) == u) || !(Nat.blt u m) || Nat.ble u ((m - 1) &&& r)
theorem subC_t : subC = true := by decide +kernel
theorem sub_next {r m u : Nat} (hr : r < 64) (hm : m < 64) (hu : u < 64) (h1 : m &&& r = m) (h2 : u &&& r = u) (h3 : u < m) : u ≤ (m - 1) &&& r := by
  have a := List.all_eq_true.mp subC_t r (List.mem_range.mpr hr)
  have b := List.all_eq_true.mp a m (List.mem_range.mpr hm)
  rw [h1] at b
  simp only [beq_self_eq_true, Bool.not_true, Bool.false_or] at b
  have c := List.all_eq_true.mp b u (List.mem_range.mpr hu)
  rw [h2] at c
  simp only [beq_self_eq_true, Bool.not_true, Bool.false_or] at c
  have d : Nat.blt u m = true := Nat.ble_eq_true_of_le h3
  rw [d] at c
  simp only [Bool.not_true, Bool.false_or] at c
  exact Nat.le_of_ble_eq_true c
/-! a ROW's number -/
def cdN (x : Nat → Nat) : Nat → Nat := fun i => match i with
  | 0 => 0
  | i + 1 => cdN x i * 4 + x i
theorem cdN_s {x : Nat → Nat} {i : Nat} : cdN x (i + 1) = cdN x i * 4 + x i := rfl
theorem cdN_congr {x y : Nat → Nat} : ∀ n, (∀ k, k < n → x k = y k) → cdN x n = cdN y n := by
  intro n
  induction n with
  | zero => intro _; rfl
  | succ n ih => intro h; rw [cdN_s, cdN_s, ih (fun k hk => h k (by omega)), h n (by omega)]
theorem cdN_lt {x : Nat → Nat} (h : ∀ i, x i < 4) : ∀ n, cdN x n < 4 ^ n := by
  intro n
  induction n with
  | zero => exact Nat.one_pos
  | succ n ih => have := h n; rw [cdN_s, Nat.pow_succ]; omega
theorem cdN_div {x : Nat → Nat} (h : ∀ i, x i < 4) {m : Nat} : ∀ j, cdN x (m + j) / 4 ^ j = cdN x m := by
  intro j
  induction j with
  | zero => simp
  | succ j ih =>
    have e : cdN x (m + j + 1) / 4 = cdN x (m + j) := by have := h (m + j); rw [cdN_s]; omega
    rw [show m + (j + 1) = m + j + 1 by omega, Nat.pow_succ, Nat.mul_comm, ← Nat.div_div_eq_div_mul, e, ih]
theorem cdN_dg {x : Nat → Nat} (h : ∀ i, x i < 4) {n k : Nat} (hk : k < n) : dg n (cdN x n) k = x k := by
  unfold dg
  have := cdN_div h (m := k + 1) (n - 1 - k)
  rw [show k + 1 + (n - 1 - k) = n by omega] at this
  have := h k
  rw [‹cdN x n / 4 ^ (n - 1 - k) = _›, cdN_s]
  omega
theorem dg_cdN {n X : Nat} (hX : X < 4 ^ n) : ∀ i, i ≤ n → cdN (dg n X) i = X / 4 ^ (n - i) := by
  intro i
  induction i with
  | zero => intro _; rw [Nat.sub_zero, Nat.div_eq_of_lt hX]; rfl
  | succ i ih =>
    intro hi
    rw [cdN_s, ih (by omega)]
    have e : n - i = (n - (i + 1)) + 1 := by omega
    have e2 : n - 1 - i = n - (i + 1) := by omega
    unfold dg
    rw [e, e2, Nat.pow_succ, ← Nat.div_div_eq_div_mul]
    omega
theorem cdN_first {x y : Nat → Nat} (hx : ∀ i, x i < 4) {i : Nat} (h1 : ∀ k, k < i → x k = y k) (h2 : x i < y i) : ∀ j, cdN x (i + 1 + j) < cdN y (i + 1 + j) := by
  intro j
  induction j with
  | zero => rw [Nat.add_zero, cdN_s, cdN_s, cdN_congr i h1]; omega
  | succ j ih => have := hx (i + 1 + j); rw [show i + 1 + (j + 1) = i + 1 + j + 1 by omega, cdN_s, cdN_s]; omega
theorem ahead_loop {n g : Nat} {wi r y : Nat → Nat} {σ : AH} (hn : n ≤ 6) (hC : CwI n wi σ) (hr4 : ∀ i, r i < 4) (hy4 : ∀ i, y i < 4) (hr : CrI n r σ) (hy : ∀ i, i < n → gI σ 82 i = nI (y i)) : ∀ (j i : Nat), i + j = n → (∀ k, k < i → r k = y k) → F_X1_isRowAhead_2 (j + 1 + g) (nI i) σ = some (if cdN r n < cdN y n then 1 else 0, σ) := by
  intro j
  induction j with
  | zero =>
    intro i hi h
    rw [show 0 + 1 + g = g + 1 by omega]
    show B_X1_isRowAhead_2 (F_X1_isRowAhead_2 g) (nI i) σ = _
    unfold B_X1_isRowAhead_2
    have e : i = n := by omega
    rw [e] at h
    rw [hC.1, if_pos (nI_le (by omega) (by omega)), cdN_congr n h, if_neg (Nat.lt_irrefl _)]
  | succ j ih =>
    intro i hi h
    rw [show j + 1 + 1 + g = (j + 1 + g) + 1 by omega]
    show B_X1_isRowAhead_2 (F_X1_isRowAhead_2 (j + 1 + g)) (nI i) σ = _
    unfold B_X1_isRowAhead_2
    have q1 : inB (nI i) 6 = true := inB_n (by omega) (by omega)
    have n1 : (nI i).toNatClampNeg = i := nI_clamp (by omega)
    have l1 := hr4 i
    have l2 := hy4 i
    rw [hC.1, if_neg (nI_ge (by omega) (by omega)), if_pos q1, if_pos q1, if_pos q1, if_pos q1, n1, hr i (by omega), hy i (by omega), nI_1]
    by_cases c : r i = y i
    · rw [if_pos (by rw [c])]
      exact ih (i + 1) (by omega) (fun k hk => by
        rcases Nat.lt_or_ge k i with z | z
        · exact h k z
        · rw [show k = i by omega]; exact c)
    · rw [if_neg (fun e => c ((nI_eq (by omega) (by omega)).mp e))]
      have en : n = i + 1 + j := by omega
      rcases Nat.lt_or_ge (r i) (y i) with z | z
      · have := cdN_first hr4 h z j
        rw [if_neg (nI_ge z (by omega)), en, if_pos this]
      · have := cdN_first hy4 (fun k hk => (h k hk).symm) (show y i < r i by omega) j
        rw [if_pos (nI_le z (by omega)), en, if_neg (by omega)]
theorem F_isRowAhead {n : Nat} {wi r y : Nat → Nat} {σ : AH} (hn : n ≤ 6) (hC : CwI n wi σ) (hr4 : ∀ i, r i < 4) (hy4 : ∀ i, y i < 4) (hr : CrI n r σ) (hy : ∀ i, i < n → gI σ 82 i = nI (y i)) : F_X1_isRowAhead σ = some (if cdN r n < cdN y n then 1 else 0, σ) := by
  unfold F_X1_isRowAhead
  obtain ⟨g, hg⟩ := BIGe n (by omega)
  rw [hg]
  exact ahead_loop hn hC hr4 hy4 hr hy n 0 (by omega) (fun k hk => absurd hk (Nat.not_lt_zero k))
end
