section
theorem in019 {x : Int32} {σ : AH} : F_X12_isQuarter x σ = some (if rgB 0 19 x = true then 1 else 0, σ) := by
  unfold F_X12_isQuarter
  have h : F_X12_in x.toInt64 (0 : Int64) (19 : Int64) σ = some (if rgB 0 19 x = true then 1 else 0, σ) := F_in (a := 0) (b := 19) (by decide) (by decide)
  rw [h, bd_some, if_pos b01']
def bestV (row : Nat → Int32) (n : Nat) (wi : Nat → Nat) (x1 : Int32) : Int32 := if rgB 0 19 x1 = true then nI (hoC row (cl x1) n wi (dg n (bestX row (cl x1) n wi))) else -1
/-- what 'chosen' tells, in the reference -/
def BsR (m : Nat) (v : Int32) (c : Nat → Int32) (τ : AH) : Prop := gI τ 124 50 = 1 ∧ gI τ 124 51 = nI m ∧ gI τ 124 53 = v ∧ ∀ k, k < m → gI τ 153 k = c k
theorem P_best {row : Nat → Int32} {n : Nat} {wi : Nat → Nat} {x1 : Int32} {σ : AH} (hV : AV row) (hB : BV row) (hW : WiV row n wi) (hr : gI σ 125 = row) (hw : WsI n wi σ) :
    ∃ τ, F_X12_best x1 σ = some (bestV row n wi x1, τ) ∧ (rgB 0 19 x1 = true → BsR n (nI (shC row (cl x1) n wi (dg n (bestX row (cl x1) n wi)))) (fun k => nI (dg n (bestX row (cl x1) n wi) k)) τ) ∧ (¬ rgB 0 19 x1 = true → Ch [] [(124, 0)] σ τ) ∧ Ch BEc BEf σ τ := by
  unfold F_X12_best bestV
  rw [in019, bd_b (α := Int32)]
  have c0 : Ch [] [(124, 0)] σ (sI σ 124 0 0) := Ch.sI1 (Or.inl (by simp))
  by_cases c1 : rgB 0 19 x1 = true
  · rw [if_pos c1, if_pos c1]
    obtain ⟨e1, b1⟩ := rg0_n (b := 19) c1 (by decide)
    obtain ⟨τ, t1, t2, t3, t4⟩ := aheadJ (q := cl x1) (n := n) (wi := wi) (σ := sI σ 124 0 0) hV hB (by omega) hr (by unfold WsI; rw [gI_sI_ne (by decide), gI_sI_row (by decide)]; exact hw)
    rw [← e1] at t1
    rw [t1, bv_some]
    have p4 := pow4_le hW.1
    obtain ⟨g, hg⟩ := BIGe (4 ^ n) (by omega)
    obtain ⟨τ2, u1, u2, u3, u4, u5, u6⟩ := best_loop (g := g) hV hB (q := cl x1) (by omega) hW t3 (4 ^ n) 0 (-1) τ (by omega) t2 (Or.inl ⟨rfl, rfl⟩)
    rw [← e1] at u1
    rw [hg]
    exact ⟨τ2, u1, fun _ => ⟨u2, u3, u4, u5⟩, fun z => absurd c1 z, ((c0.mono (by simp) (by simp [BEf])).trans (t4.mono (fun i hi => List.mem_cons_of_mem _ hi) (by simp [RNf, BEf]))).trans u6⟩
  · rw [if_neg c1, if_neg c1]
    exact ⟨_, rfl, fun z => absurd z c1, fun _ => c0, c0.mono (by simp) (by simp [BEf])⟩
/-! bound -/
def one (k c : Nat) : Nat → Nat := fun j => if j = k then c else 0
theorem dg_one {n k c : Nat} (hc : c < 4) : ∀ j, j < n → k < n → dg n (c * 4 ^ (n - 1 - k)) j = one k c j := by
  intro j hj hk
  unfold dg one
  by_cases e : j = k
  · subst e
    rw [if_pos rfl, Nat.mul_div_cancel _ (Nat.pow_pos (by decide))]; omega
  · rw [if_neg e]
    rcases Nat.lt_or_ge j k with z | z
    · have lt : c * 4 ^ (n - 1 - k) < 4 ^ (n - 1 - j) := by
        have h1 : 4 ^ (n - 1 - k + 1) ≤ 4 ^ (n - 1 - j) := Nat.pow_le_pow_right (by decide) (by omega)
        have h2 : 4 ^ (n - 1 - k + 1) = 4 ^ (n - 1 - k) * 4 := Nat.pow_succ _ _
        have h3 : 0 < 4 ^ (n - 1 - k) := Nat.pow_pos (by decide)
        have h4 : c * 4 ^ (n - 1 - k) ≤ 3 * 4 ^ (n - 1 - k) := Nat.mul_le_mul_right _ (by omega)
        omega
      rw [Nat.div_eq_of_lt lt]
    · have e1 : n - 1 - k = (n - 1 - j) + (j - k - 1) + 1 := by omega
      rw [e1, Nat.pow_succ, Nat.pow_add, show c * (4 ^ (n - 1 - j) * 4 ^ (j - k - 1) * 4) = (c * 4 ^ (j - k - 1) * 4) * 4 ^ (n - 1 - j) by
        rw [Nat.mul_assoc c, Nat.mul_assoc c, Nat.mul_comm (4 ^ (n - 1 - j) * 4 ^ (j - k - 1)) 4, ← Nat.mul_assoc 4, Nat.mul_comm 4 (4 ^ (n - 1 - j)), Nat.mul_assoc (4 ^ (n - 1 - j)), Nat.mul_comm 4 (4 ^ (j - k - 1)), Nat.mul_comm (4 ^ (n - 1 - j))], Nat.mul_div_cancel _ (Nat.pow_pos (by decide))]
      exact Nat.mul_mod_left _ _
theorem hoC_congr {row : Nat → Int32} {q n : Nat} {wi cs cs' : Nat → Nat} (h : ∀ k, k < n → cs k = cs' k) : hoC row q n wi cs = hoC row q n wi cs' ∧ shC row q n wi cs = shC row q n wi cs' := by
  unfold hoC shC cR
  rw [sC_congr n h]; exact ⟨rfl, rfl⟩
def cnB (row : Nat → Int32) (q n : Nat) (wi : Nat → Nat) (k : Nat) : Nat → Bool := fun c => match c with
  | 0 => false
  | c + 1 => cnB row q n wi k c || decide (0 < hoC row q n wi (one k (c + 1)))
def bnS (row : Nat → Int32) (q n : Nat) (wi : Nat → Nat) : Nat → Nat := fun k => match k with
  | 0 => 0
  | k + 1 => bnS row q n wi k + (if cnB row q n wi k 3 = true then pR row (wi k) else 0)
theorem bound_37 {row : Nat → Int32} {q n k : Nat} {x2 : Int32} {wi : Nat → Nat} {K : Int32 → Int32 → Int32 → AH → Option (Int32 × AH)} {σ : AH} (hV : AV row) (hB : BV row) (hq : q < 20) (hW : WiV row n wi) (hR : RV_ (bfR row q)) (hk : k < n) (h : TrJ row q n wi σ) :
    ∃ τ, F_X12_bound_37 K BIG (nI q) x2 (nI k) (0 : Int32) (1 : Int32) σ = K (nI q) (x2 + nI (if cnB row q n wi k 3 = true then pR row (wi k) else 0)) (nI (k + 1)) τ ∧ TrJ row q n wi τ ∧ Ch RNc TRf σ τ := by
  have hn := hW.1
  have st : ∀ (f c : Nat) (t : AH), c < 3 → TrJ row q n wi t → ∃ τ, F_X12_bound_37 K (f + 1) (nI q) x2 (nI k) (b2 (cnB row q n wi k c)) (nI (c + 1)) t = F_X12_bound_37 K f (nI q) x2 (nI k) (b2 (cnB row q n wi k (c + 1))) (nI (c + 1 + 1)) τ ∧ TrJ row q n wi τ ∧ Ch RNc TRf t τ := by
    intro f c t hc hT
    show ∃ τ, B_X12_bound_37 K (F_X12_bound_37 K f) (nI q) x2 (nI k) (b2 (cnB row q n wi k c)) (nI (c + 1)) t = _ ∧ _
    unfold B_X12_bound_37 F_X12_bound_78 F_X12_bound_73 F_X12_bound_78
    have a48 : gI t 124 48 = nI n := by obtain ⟨s, _, _, _, _, _, ⟨a, _⟩, _⟩ := hT; exact a
    have e1 : nI n - (1 : Int32) = nI (n - 1) := pk_sub (b := 1) (by omega)
    have e2 : nI (n - 1) - nI k = nI (n - 1 - k) := pk_sub (by omega)
    have e3 : (2 : Int32) * nI (n - 1 - k) = nI (2 * (n - 1 - k)) := by simp only [fa_lit, pk_mul]
    have pw : 4 ^ (n - 1 - k) ≤ 1024 := by
      have : 4 ^ (n - 1 - k) ≤ 4 ^ 5 := Nat.pow_le_pow_right (by decide) (by omega)
      exact this
    have m1 : (c + 1) * 4 ^ (n - 1 - k) ≤ 3 * 1024 := Nat.mul_le_mul (by omega) pw
    have e4 : nI (c + 1) <<< (nI (2 * (n - 1 - k)) &&& 31) = nI ((c + 1) * 4 ^ (n - 1 - k)) := by
      rw [pk_shlN _ (2 * (n - 1 - k)) (smod_l (by omega)) (by rw [Nat.pow_mul]; exact Nat.lt_of_le_of_lt m1 (by decide)), Nat.pow_mul]
    obtain ⟨τ, t1, t2, t3, t4, t5⟩ := tryJ hV hB hq hW (X := (c + 1) * 4 ^ (n - 1 - k)) (by omega) hR hT
    have hh : hoC row q n wi (dg n ((c + 1) * 4 ^ (n - 1 - k))) = hoC row q n wi (one k (c + 1)) := (hoC_congr (fun j hj => dg_one (by omega) j hj hk)).1
    rw [hh] at t3
    have l36 := hoC_le (q := q) (cs := one k (c + 1)) hB hW
    rw [fa_lit 4, if_neg (nI_ge (by omega) (by decide)), a48, e1, e2, e3, e4, t1, bv_some, nI_1, t3]
    have bs : cnB row q n wi k (c + 1) = (cnB row q n wi k c || decide (0 < hoC row q n wi (one k (c + 1)))) := rfl
    rw [bs]
    cases cnB row q n wi k c with
    | true => rw [if_neg (show ¬ b2 true = 0 by decide)]; exact ⟨τ, rfl, t2, t5⟩
    | false =>
      rw [if_pos (show b2 false = 0 from rfl)]
      by_cases z : 0 < hoC row q n wi (one k (c + 1))
      · rw [if_neg (show ¬ nI _ ≤ (0 : Int32) from nI_ge (a := 0) z (by omega)), decide_eq_true z]; exact ⟨τ, rfl, t2, t5⟩
      · rw [if_pos (show nI _ ≤ (0 : Int32) from nI_le (b := 0) (by omega) (by decide)), decide_eq_false z]; exact ⟨τ, rfl, t2, t5⟩
  obtain ⟨g, hg⟩ := BIGe 3 (by decide)
  rw [hg]
  obtain ⟨τ1, a1, a2, a3⟩ := st (2 + 1 + g) 0 σ (by omega) h
  obtain ⟨τ2, b1, b2', b3⟩ := st (1 + 1 + g) 1 τ1 (by omega) a2
  obtain ⟨τ3, c1, c2, c3⟩ := st (0 + 1 + g) 2 τ2 (by omega) b2'
  have s0 : F_X12_bound_37 K (3 + 1 + g) (nI q) x2 (nI k) (0 : Int32) (1 : Int32) σ = F_X12_bound_37 K (2 + 1 + g + 1) (nI q) x2 (nI k) (b2 (cnB row q n wi k 0)) (nI (0 + 1)) σ := by rw [show 3 + 1 + g = 2 + 1 + g + 1 by omega]; rfl
  rw [s0, a1, show 2 + 1 + g = (1 + 1 + g) + 1 by omega, b1, show 1 + 1 + g = (0 + 1 + g) + 1 by omega, c1, show 0 + 1 + g = g + 1 by omega]
  have a152 : gI τ3 152 k = nI (wi k) := by obtain ⟨s, _, _, _, _, _, ⟨_, a⟩, _⟩ := c2; exact a k hk
  have a125 : gI τ3 125 = row := by obtain ⟨s, _, _, a, _⟩ := c2; exact a.1
  refine ⟨τ3, ?_, c2, (a3.trans b3).trans c3⟩
  show B_X12_bound_37 K (F_X12_bound_37 K g) (nI q) x2 (nI k) (b2 (cnB row q n wi k (2 + 1))) (nI (2 + 1 + 1)) τ3 = _
  unfold B_X12_bound_37 F_X12_bound_106
  rw [fa_lit 4, if_pos (nI_le (Nat.le_refl _) (by decide)), nI_1]
  have e3 : (2 + 1 : Nat) = 3 := rfl
  rw [e3]
  cases cnB row q n wi k 3 with
  | false => rw [if_pos (show b2 false = 0 from rfl), if_neg (by decide)]; rfl
  | true =>
    rw [if_neg (show ¬ b2 true = 0 by decide), if_pos (inB_n (by omega) (by omega)), nI_clamp (by omega), a152, F_roomsOf hB (hW.2.1 k hk) a125, bd_some, if_pos rfl]
theorem bound_loop {row : Nat → Int32} {q n g : Nat} {wi : Nat → Nat} (hV : AV row) (hB : BV row) (hq : q < 20) (hW : WiV row n wi) (hR : RV_ (bfR row q)) : ∀ (j k : Nat) (σ : AH), k + j = n → TrJ row q n wi σ →
    ∃ τ, F_X12_bound_23 (j + 1 + g) (nI q) (nI (bnS row q n wi k)) (nI k) σ = some (nI (bnS row q n wi n), τ) ∧ Ch RNc TRf σ τ := by
  have hn := hW.1
  intro j
  induction j with
  | zero =>
    intro k σ hk hT
    have a48 : gI σ 124 48 = nI n := by obtain ⟨s, _, _, _, _, _, ⟨a, _⟩, _⟩ := hT; exact a
    rw [show 0 + 1 + g = g + 1 by omega]
    show ∃ τ, B_X12_bound_23 (F_X12_bound_23 g) (nI q) (nI (bnS row q n wi k)) (nI k) σ = _ ∧ _
    unfold B_X12_bound_23
    rw [a48, if_pos (nI_le (by omega) (by omega)), show k = n by omega]
    exact ⟨σ, rfl, Ch.rf _⟩
  | succ j ih =>
    intro k σ hk hT
    have a48 : gI σ 124 48 = nI n := by obtain ⟨s, _, _, _, _, _, ⟨a, _⟩, _⟩ := hT; exact a
    rw [show j + 1 + 1 + g = (j + 1 + g) + 1 by omega]
    show ∃ τ, B_X12_bound_23 (F_X12_bound_23 (j + 1 + g)) (nI q) (nI (bnS row q n wi k)) (nI k) σ = _ ∧ _
    unfold B_X12_bound_23
    obtain ⟨τ, t1, t2, t3⟩ := bound_37 (x2 := nI (bnS row q n wi k)) (K := F_X12_bound_23 (j + 1 + g)) hV hB hq hW hR (show k < n by omega) hT
    rw [a48, if_neg (nI_ge (by omega) (by omega)), t1, nI_add]
    obtain ⟨τ2, u1, u2⟩ := ih (k + 1) τ (by omega) t2
    exact ⟨τ2, u1, t3.trans u2⟩
def boundV (row : Nat → Int32) (n : Nat) (wi : Nat → Nat) (x1 : Int32) : Int32 := if rgB 0 19 x1 = true then nI (bnS row (cl x1) n wi n) else -1
theorem P_bound {row : Nat → Int32} {n : Nat} {wi : Nat → Nat} {x1 : Int32} {σ : AH} (hV : AV row) (hB : BV row) (hW : WiV row n wi) (hr : gI σ 125 = row) (hw : WsI n wi σ) :
    ∃ τ, F_X12_bound x1 σ = some (boundV row n wi x1, τ) ∧ Ch GAc ((124, 0) :: (124, 60) :: (124, 61) :: RNf) σ τ := by
  unfold F_X12_bound boundV
  rw [in019, bd_b (α := Int32)]
  have c0 : Ch GAc ((124, 0) :: (124, 60) :: (124, 61) :: RNf) σ (sI σ 124 0 0) := Ch.sI1 (Or.inl (by simp))
  by_cases c1 : rgB 0 19 x1 = true
  · rw [if_pos c1, if_pos c1]
    obtain ⟨e1, b1⟩ := rg0_n (b := 19) c1 (by decide)
    obtain ⟨τ, t1, t2, t3, t4⟩ := aheadJ (q := cl x1) (n := n) (wi := wi) (σ := sI σ 124 0 0) hV hB (by omega) hr (by unfold WsI; rw [gI_sI_ne (by decide), gI_sI_row (by decide)]; exact hw)
    rw [← e1] at t1
    rw [t1, bv_some]
    have hn := hW.1
    obtain ⟨g, hg⟩ := BIGe n (by omega)
    obtain ⟨τ2, u1, u2⟩ := bound_loop (g := g) hV hB (q := cl x1) (by omega) hW t3 n 0 τ (by omega) t2
    rw [← e1] at u1
    rw [hg]
    exact ⟨τ2, u1, (c0.trans (t4.mono (fun i hi => hi) (by simp [RNf]))).trans (u2.mono (fun i hi => List.mem_append_left _ hi) (by simp [TRf, NDf, RNf]))⟩
  · rw [if_neg c1, if_neg c1]
    exact ⟨_, rfl, c0⟩
/-! judge -/
def rvN (Y : Nat) : Nat → Nat := fun i => match i with
  | 0 => 0
  | i + 1 => rvN Y i * 4 + Y / 4 ^ i % 4
theorem rvN_lt {Y : Nat} : ∀ i, rvN Y i < 4 ^ i := by
  intro i
  induction i with
  | zero => exact Nat.one_pos
  | succ i ih => unfold rvN; rw [Nat.pow_succ]; omega
theorem rvN_div {Y m : Nat} : ∀ j, rvN Y (m + j) / 4 ^ j = rvN Y m := by
  intro j
  induction j with
  | zero => simp
  | succ j ih =>
    have e : rvN Y (m + j + 1) / 4 = rvN Y (m + j) := by show (rvN Y (m + j) * 4 + Y / 4 ^ (m + j) % 4) / 4 = _; omega
    rw [show m + (j + 1) = m + j + 1 by omega, Nat.pow_succ, Nat.mul_comm, ← Nat.div_div_eq_div_mul, e, ih]
theorem rvN_dg {Y n k : Nat} (hk : k < n) : dg n (rvN Y n) k = Y / 4 ^ k % 4 := by
  unfold dg
  have := rvN_div (Y := Y) (m := k + 1) (n - 1 - k)
  rw [show k + 1 + (n - 1 - k) = n by omega] at this
  rw [this]
  show (rvN Y k * 4 + Y / 4 ^ k % 4) % 4 = _
  omega
theorem or4 {a d : Nat} (hd : d < 4) : a * 4 ||| d = a * 4 + d := by
  have := Nat.shiftLeft_add_eq_or_of_lt (i := 2) (b := d) (by omega) a
  rw [Nat.shiftLeft_eq] at this
  exact this.symm
theorem judge_loop {row : Nat → Int32} {q n g Y : Nat} {wi : Nat → Nat} {σ : AH} (hV : AV row) (hB : BV row) (hq : q < 20) (hW : WiV row n wi) (hR : RV_ (bfR row q)) (hY : Y < 4096) (hT : TrJ row q n wi σ) : ∀ (j i : Nat), i + j = n →
    ∃ τ, F_X12_judge_43 (j + 1 + g) (nI q) (nI Y) (nI (rvN Y i)) (nI i) σ = some (nI (10 * hoC row q n wi (fun k => Y / 4 ^ k % 4) + shC row q n wi (fun k => Y / 4 ^ k % 4)), τ) ∧ Ch RNc TRf σ τ := by
  have hn := hW.1
  have a48 : gI σ 124 48 = nI n := by obtain ⟨s, _, _, _, _, _, ⟨a, _⟩, _⟩ := hT; exact a
  have p4 := pow4_le hn
  intro j
  induction j with
  | zero =>
    intro i hi
    have e : i = n := by omega
    subst e
    rw [show 0 + 1 + g = g + 1 by omega]
    show ∃ τ, B_X12_judge_43 (F_X12_judge_43 g) (nI q) (nI Y) (nI (rvN Y i)) (nI i) σ = _ ∧ _
    unfold B_X12_judge_43
    have lt := rvN_lt (Y := Y) i
    obtain ⟨τ, t1, t2, t3, t4, t5⟩ := tryJ hV hB hq hW (X := rvN Y i) (by omega) hR hT
    obtain ⟨h1, h2⟩ := hoC_congr (row := row) (q := q) (n := i) (wi := wi) (cs := dg i (rvN Y i)) (cs' := fun k => Y / 4 ^ k % 4) (fun k hk => rvN_dg hk)
    rw [h1] at t3; rw [h2] at t4
    rw [a48, if_pos (nI_le (Nat.le_refl _) (by omega)), t1, bv_some, t3, t4]
    have ar : ∀ A B : Nat, (10 : Int32) * nI A + nI B = nI (10 * A + B) := fun A B => by simp only [fa_lit, nI_add, pk_mul]
    rw [ar]
    exact ⟨τ, rfl, t5⟩
  | succ j ih =>
    intro i hi
    rw [show j + 1 + 1 + g = (j + 1 + g) + 1 by omega]
    show ∃ τ, B_X12_judge_43 (F_X12_judge_43 (j + 1 + g)) (nI q) (nI Y) (nI (rvN Y i)) (nI i) σ = _ ∧ _
    unfold B_X12_judge_43
    have lt := rvN_lt (Y := Y) i
    have pi : 4 ^ i ≤ 4096 := pow4_le (by omega)
    have e2 : (2 : Int32) * nI i = nI (2 * i) := by simp only [fa_lit, pk_mul]
    have s2 : nI (rvN Y i) <<< ((2 : Int32) &&& 31) = nI (rvN Y i * 4) := pk_shlN (n := rvN Y i) _ 2 (by decide) (by omega)
    have s3 : (nI Y >>> (nI (2 * i) &&& 31)) &&& (3 : Int32) = nI (Y / 4 ^ i % 4) := by
      rw [pk_shrN (by omega) _ (2 * i) (smod_l (by omega)), pk_andN (Nat.lt_of_le_of_lt (Nat.div_le_self _ _) (by omega)) 2 (by decide), Nat.pow_mul]
    rw [a48, if_neg (nI_ge (by omega) (by omega)), e2, s2, s3, fa_or, or4 (Nat.mod_lt _ (by decide)), nI_1]
    exact ih (i + 1) (by omega)
def judgeV (row : Nat → Int32) (n : Nat) (wi : Nat → Nat) (x1 x2 : Int32) : Int32 := if rgB 0 19 x1 = true then (if ltB (4 ^ n) x2 = true then nI (10 * hoC row (cl x1) n wi (fun k => cl x2 / 4 ^ k % 4) + shC row (cl x1) n wi (fun k => cl x2 / 4 ^ k % 4)) else -1) else -1
theorem l4n {n : Nat} (h : n ≤ 6) : (1 : Int64) <<< ((((2 : Int32) * nI n)).toInt64 &&& 63) - (1 : Int64) = (nI (4 ^ n)).toInt64 - (1 : Int64) := by
  have : ∀ j : Fin 7, (1 : Int64) <<< ((((2 : Int32) * nI j.val)).toInt64 &&& 63) - (1 : Int64) = (nI (4 ^ j.val)).toInt64 - (1 : Int64) := by decide +kernel
  exact this ⟨n, by omega⟩
theorem P_judge {row : Nat → Int32} {n : Nat} {wi : Nat → Nat} {x1 x2 : Int32} {σ : AH} (hV : AV row) (hB : BV row) (hW : WiV row n wi) (hr : gI σ 125 = row) (hw : WsI n wi σ) :
    ∃ τ, F_X12_judge x1 x2 σ = some (judgeV row n wi x1 x2, τ) ∧ Ch GAc ((124, 0) :: (124, 60) :: (124, 61) :: RNf) σ τ := by
  unfold F_X12_judge judgeV
  have hn := hW.1
  have p4 := pow4_le hn
  rw [in019, bd_b (α := Int32)]
  have c0 : Ch GAc ((124, 0) :: (124, 60) :: (124, 61) :: RNf) σ (sI σ 124 0 0) := Ch.sI1 (Or.inl (by simp))
  by_cases c1 : rgB 0 19 x1 = true
  · have w0 : WsI n wi (sI σ 124 0 0) := by unfold WsI; rw [gI_sI_ne (by decide), gI_sI_row (by decide)]; exact hw
    rw [if_pos c1, if_pos c1, w0.1, l4n hn, F_inN (by omega), bd_b (α := Int32)]
    by_cases c2 : ltB (4 ^ n) x2 = true
    · rw [if_pos c2, if_pos c2]
      obtain ⟨e1, b1⟩ := rg0_n (b := 19) c1 (by decide)
      obtain ⟨e2, b2'⟩ := ltB_n c2 (by omega)
      obtain ⟨τ, t1, t2, t3, t4⟩ := aheadJ (q := cl x1) (n := n) (wi := wi) (σ := sI σ 124 0 0) hV hB (by omega) hr w0
      rw [← e1] at t1
      rw [t1, bv_some]
      obtain ⟨g, hg⟩ := BIGe n (by omega)
      obtain ⟨τ2, u1, u2⟩ := judge_loop (g := g) (Y := cl x2) hV hB (q := cl x1) (by omega) hW t3 (by omega) t2 n 0 (by omega)
      rw [← e1, ← e2] at u1
      rw [hg]
      exact ⟨τ2, u1, (c0.trans (t4.mono (fun i hi => hi) (by simp [RNf]))).trans (u2.mono (fun i hi => List.mem_append_left _ hi) (by simp [TRf, NDf, RNf]))⟩
    · rw [if_neg c2, if_neg c2]; exact ⟨_, rfl, c0⟩
  · rw [if_neg c1, if_neg c1]
    exact ⟨_, rfl, c0⟩
end
