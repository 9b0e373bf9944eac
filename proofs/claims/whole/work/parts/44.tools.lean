section
/-! reading behind writing -/
theorem bd_some {α β : Type} {v : α} {s : AH} {f : α → AH → Option β} : bd (some (v, s)) f = f v s := rfl
theorem bv_some {β : Type} {s : AH} {f : AH → Option β} : bv (some s) f = f s := rfl
theorem bo_some {β : Type} {s : Nat} {f : Nat → Option β} : bo (some s) f = f s := rfl
theorem on_some {β : Type} {s : Nat} {a : Option β} {f : Nat → Option β} : on (some s) a f = f s := rfl
theorem on_none {β : Type} {a : Option β} {f : Nat → Option β} : on none a f = a := rfl
theorem lt_e {β : Type} {s : AH} {f : AH → Option β} : lt s f = f s := rfl
theorem gI_sI_own {σ : AH} {o k : Nat} {v : Int32} : gI (sI σ o k v) o = va_up (gI σ o) k v := up_same _ _ _
theorem gI_sI_row {σ : AH} {o k a : Nat} {v : Int32} (h : a ≠ o) : gI (sI σ o k v) a = gI σ a := up_ne _ _ _ h
theorem gI_sI_at {σ : AH} {o k : Nat} {v : Int32} : gI (sI σ o k v) o k = v := by rw [gI_sI_own, up_same]
theorem gI_sI_ne {σ : AH} {o k a j : Nat} {v : Int32} (h : j ≠ k) : gI (sI σ o k v) a j = gI σ a j := by
  by_cases e : a = o
  · subst e; rw [gI_sI_own, up_ne _ _ _ h]
  · rw [gI_sI_row e]
theorem gI_sA_own {σ : AH} {o : Nat} {g : Nat → Int32} : gI (sA σ o g) o = g := up_same _ _ _
theorem gI_sA_row {σ : AH} {o a : Nat} {g : Nat → Int32} (h : a ≠ o) : gI (sA σ o g) a = gI σ a := up_ne _ _ _ h
theorem gI_sL {σ : AH} {o k : Nat} {v : Int64} : gI (sL σ o k v) = gI σ := rfl
theorem gI_sR {σ : AH} {o k : Nat} {v : Option Nat} : gI (sR σ o k v) = gI σ := rfl
theorem gL_sI {σ : AH} {o k : Nat} {v : Int32} : gL (sI σ o k v) = gL σ := rfl
theorem gL_sA {σ : AH} {o : Nat} {g : Nat → Int32} : gL (sA σ o g) = gL σ := rfl
theorem gL_sR {σ : AH} {o k : Nat} {v : Option Nat} : gL (sR σ o k v) = gL σ := rfl
theorem gL_sL_own {σ : AH} {o k : Nat} {v : Int64} : gL (sL σ o k v) o = va_up (gL σ o) k v := up_same _ _ _
theorem gL_sL_row {σ : AH} {o k a : Nat} {v : Int64} (h : a ≠ o) : gL (sL σ o k v) a = gL σ a := up_ne _ _ _ h
theorem gL_sL_at {σ : AH} {o k : Nat} {v : Int64} : gL (sL σ o k v) o k = v := by rw [gL_sL_own, up_same]
theorem gL_sL_ne {σ : AH} {o k a j : Nat} {v : Int64} (h : j ≠ k) : gL (sL σ o k v) a j = gL σ a j := by
  by_cases e : a = o
  · subst e; rw [gL_sL_own, up_ne _ _ _ h]
  · rw [gL_sL_row e]
theorem gR_sI {σ : AH} {o k : Nat} {v : Int32} : gR (sI σ o k v) = gR σ := rfl
theorem gR_sL {σ : AH} {o k : Nat} {v : Int64} : gR (sL σ o k v) = gR σ := rfl
theorem gR_sA {σ : AH} {o : Nat} {g : Nat → Int32} : gR (sA σ o g) = gR σ := rfl
theorem gR_sR_own {σ : AH} {o k : Nat} {v : Option Nat} : gR (sR σ o k v) o = va_up (gR σ o) k v := up_same _ _ _
theorem gR_sR_row {σ : AH} {o k a : Nat} {v : Option Nat} (h : a ≠ o) : gR (sR σ o k v) a = gR σ a := up_ne _ _ _ h
theorem gR_sR_at {σ : AH} {o k : Nat} {v : Option Nat} : gR (sR σ o k v) o k = v := by rw [gR_sR_own, up_same]
theorem kd_sI {σ : AH} {o k : Nat} {v : Int32} : kd (sI σ o k v) = kd σ := rfl
theorem kd_sL {σ : AH} {o k : Nat} {v : Int64} : kd (sL σ o k v) = kd σ := rfl
theorem kd_sA {σ : AH} {o : Nat} {g : Nat → Int32} : kd (sA σ o g) = kd σ := rfl
theorem kd_sR {σ : AH} {o k : Nat} {v : Option Nat} : kd (sR σ o k v) = kd σ := rfl
theorem nx_sI {σ : AH} {o k : Nat} {v : Int32} : nx (sI σ o k v) = nx σ := rfl
theorem nx_sL {σ : AH} {o k : Nat} {v : Int64} : nx (sL σ o k v) = nx σ := rfl
theorem nx_sA {σ : AH} {o : Nat} {g : Nat → Int32} : nx (sA σ o g) = nx σ := rfl
theorem nx_sR {σ : AH} {o k : Nat} {v : Option Nat} : nx (sR σ o k v) = nx σ := rfl
theorem sl_sI {σ : AH} {o k : Nat} {v : Int32} : sl (sI σ o k v) = sl σ := rfl
theorem sl_sL {σ : AH} {o k : Nat} {v : Int64} : sl (sL σ o k v) = sl σ := rfl
theorem sl_sA {σ : AH} {o : Nat} {g : Nat → Int32} : sl (sA σ o g) = sl σ := rfl
theorem sl_sR {σ : AH} {o k : Nat} {v : Option Nat} : sl (sR σ o k v) = sl σ := rfl
theorem kd_aw_new {σ : AH} {t n : Nat} : kd (aw σ t n) (nx σ) = (t, n) := up_same _ _ _
theorem kd_aw_old {σ : AH} {t n a : Nat} (h : a ≠ nx σ) : kd (aw σ t n) a = kd σ a := up_ne _ _ _ h
theorem gI_aw_new {σ : AH} {t n : Nat} : gI (aw σ t n) (nx σ) = fun _ => 0 := up_same _ _ _
theorem gI_aw_old {σ : AH} {t n a : Nat} (h : a ≠ nx σ) : gI (aw σ t n) a = gI σ a := up_ne _ _ _ h
theorem gL_aw_old {σ : AH} {t n a : Nat} (h : a ≠ nx σ) : gL (aw σ t n) a = gL σ a := up_ne _ _ _ h
theorem gR_aw_new {σ : AH} {t n : Nat} : gR (aw σ t n) (nx σ) = fun _ => none := up_same _ _ _
theorem gR_aw_old {σ : AH} {t n a : Nat} (h : a ≠ nx σ) : gR (aw σ t n) a = gR σ a := up_ne _ _ _ h
theorem nx_aw {σ : AH} {t n : Nat} : nx (aw σ t n) = nx σ + 1 := rfl
theorem sl_aw {σ : AH} {t n : Nat} : sl (aw σ t n) = sl σ + n := rfl
/-! truth values -/
def bI (p : Prop) [Decidable p] : Int32 := if p then 1 else 0
theorem bI_t {p : Prop} [Decidable p] (h : p) : bI p = 1 := if_pos h
theorem bI_f {p : Prop} [Decidable p] (h : ¬ p) : bI p = 0 := if_neg h
theorem bI_0 {p : Prop} [Decidable p] : (bI p = 0) ↔ ¬ p := by
  by_cases h : p
  · rw [bI_t h]; exact ⟨fun q => absurd q (by decide), fun q => absurd h q⟩
  · rw [bI_f h]; exact ⟨fun _ => h, fun _ => rfl⟩
theorem bI_01 {p : Prop} [Decidable p] : bI p = 0 ∨ bI p = 1 := by
  by_cases h : p
  · exact Or.inr (bI_t h)
  · exact Or.inl (bI_f h)
/-! ranges -/
theorem i0 : (0 : Int32).toInt = 0 := by decide
theorem lit_toInt {n : Nat} (h : n < 2 ^ 31) : (OfNat.ofNat n : Int32).toInt = (n : Int) := nI_toInt h
theorem lt_lit {x : Int32} {n : Nat} (h : n < 2 ^ 31) : (x < (OfNat.ofNat n : Int32)) ↔ x.toInt < (n : Int) := by
  rw [Int32.lt_iff_toInt_lt, lit_toInt h]
theorem lit_lt {x : Int32} {n : Nat} (h : n < 2 ^ 31) : ((OfNat.ofNat n : Int32) < x) ↔ (n : Int) < x.toInt := by
  rw [Int32.lt_iff_toInt_lt, lit_toInt h]
theorem le_lit {x : Int32} {n : Nat} (h : n < 2 ^ 31) : (x ≤ (OfNat.ofNat n : Int32)) ↔ x.toInt ≤ (n : Int) := by
  rw [Int32.le_iff_toInt_le, lit_toInt h]
theorem lit_le {x : Int32} {n : Nat} (h : n < 2 ^ 31) : ((OfNat.ofNat n : Int32) ≤ x) ↔ (n : Int) ≤ x.toInt := by
  rw [Int32.le_iff_toInt_le, lit_toInt h]
theorem l64_lit {n : Nat} (h : n < 2 ^ 31) : (OfNat.ofNat n : Int64).toInt = (n : Int) := lN_toInt h
/-- between two numbers -/
def rg (a b : Int) (x : Int32) : Prop := a ≤ x.toInt ∧ x.toInt ≤ b
def rgB (a b : Int) (x : Int32) : Bool := decide (a ≤ x.toInt ∧ x.toInt ≤ b)
theorem rgB_iff {a b : Int} {x : Int32} : rgB a b x = true ↔ rg a b x := by unfold rgB rg; exact decide_eq_true_iff
theorem rg_nI {a b : Nat} {x : Int32} (h : rg (a : Int) (b : Int) x) (hb : b < 2 ^ 31) : ∃ j : Nat, a ≤ j ∧ j ≤ b ∧ x = nI j := by
  obtain ⟨h1, h2⟩ := h
  refine ⟨x.toInt.toNat, by omega, by omega, Int32.toInt_inj.mp ?_⟩
  rw [nI_toInt (by omega)]; omega
theorem rg_of {a b : Int} {j : Nat} (h1 : a ≤ j) (h2 : (j : Int) ≤ b) (h : j < 2 ^ 31) : rg a b (nI j) := by
  unfold rg; rw [nI_toInt h]; exact ⟨h1, h2⟩
theorem cl_toInt (x : Int32) : x.toNatClampNeg = x.toInt.toNat := rfl
theorem inB_rg {x : Int32} {n : Nat} : inB x n = true ↔ 0 ≤ x.toInt ∧ x.toInt < n := by
  unfold inB
  rw [decide_eq_true_iff]
  exact vp_in_iff
/-! the small methods of both sides -/
theorem F_in {x : Int32} {a b : Nat} (ha : a < 2 ^ 31) (hb : b < 2 ^ 31) {σ : AH} : F_X12_in x.toInt64 (OfNat.ofNat a) (OfNat.ofNat b) σ = some (if rgB a b x = true then 1 else 0, σ) := by
  unfold F_X12_in
  have h1 : (x.toInt64 < (OfNat.ofNat a : Int64)) ↔ x.toInt < (a : Int) := by rw [Int64.lt_iff_toInt_lt, l64_lit ha, Int32.toInt_toInt64]
  have h2 : ((OfNat.ofNat b : Int64) < x.toInt64) ↔ (b : Int) < x.toInt := by rw [Int64.lt_iff_toInt_lt, l64_lit hb, Int32.toInt_toInt64]
  by_cases c1 : x.toInt < (a : Int)
  · rw [if_pos (h1.mpr c1), if_neg]
    rw [rgB_iff]; unfold rg; omega
  · rw [if_neg (fun q => c1 (h1.mp q))]
    by_cases c2 : (b : Int) < x.toInt
    · rw [if_pos (h2.mpr c2), if_neg]
      rw [rgB_iff]; unfold rg; omega
    · rw [if_neg (fun q => c2 (h2.mp q)), if_pos]
      rw [rgB_iff]; unfold rg; omega
theorem F_isIn {x : Int32} {a b : Nat} (ha : a < 2 ^ 31) (hb : b < 2 ^ 31) {σ : AH} : F_X11_isIn x (OfNat.ofNat a) (OfNat.ofNat b) σ = some (if rgB a b x = true then 1 else 0, σ) := by
  unfold F_X11_isIn
  by_cases c1 : x.toInt < (a : Int)
  · rw [if_pos ((lt_lit ha).mpr c1), if_neg]
    rw [rgB_iff]; unfold rg; omega
  · rw [if_neg (fun q => c1 ((lt_lit ha).mp q))]
    by_cases c2 : (b : Int) < x.toInt
    · rw [if_pos ((lit_lt hb).mpr c2), if_neg]
      rw [rgB_iff]; unfold rg; omega
    · rw [if_neg (fun q => c2 ((lit_lt hb).mp q)), if_pos]
      rw [rgB_iff]; unfold rg; omega
theorem b01 {c : Prop} [Decidable c] : ((if c then (1 : Int32) else 0) = 0) ↔ ¬ c := by
  by_cases h : c
  · simp [h]
  · simp [h]
theorem b01' {c : Prop} [Decidable c] : ((if c then (1 : Int32) else 0) = 0 ∨ (if c then (1 : Int32) else 0) = 1) := by
  by_cases h : c
  · simp [h]
  · simp [h]
theorem F_isWeek {x : Int32} {σ : AH} : F_X12_isWeek x σ = some (if rgB 0 259 x = true then 1 else 0, σ) := by
  unfold F_X12_isWeek
  have h : F_X12_in x.toInt64 (0 : Int64) (259 : Int64) σ = some (if rgB 0 259 x = true then 1 else 0, σ) := F_in (a := 0) (b := 259) (by decide) (by decide)
  rw [h, bd_some, if_pos b01']
theorem F_isWeekC {x : Int32} {σ : AH} : F_X11_isWeek x σ = some (if rgB 0 259 x = true then 1 else 0, σ) := by
  unfold F_X11_isWeek
  have h : F_X11_isIn x (0 : Int32) (259 : Int32) σ = some (if rgB 0 259 x = true then 1 else 0, σ) := F_isIn (a := 0) (b := 259) (by decide) (by decide)
  rw [h, bd_some, if_pos b01']
theorem F_told {x : Int32} {σ : AH} : F_X12_told x σ = some (x, sI σ 124 1 (if 0 ≤ x then 0 else x)) := by
  unfold F_X12_told F_X12_told_10
  by_cases h : 0 ≤ x
  · rw [if_pos h, if_pos h]
  · rw [if_neg h, if_neg h]
theorem F_answer {x : Int32} {σ : AH} : F_X11_answer x σ = some (x, sI σ 0 10 (imin x 0)) := rfl
theorem imin0 {x : Int32} : imin x 0 = if 0 ≤ x then 0 else x := by
  unfold imin
  by_cases h : 0 ≤ x
  · rw [if_pos h]
    by_cases h2 : (0 : Int32) < x
    · rw [if_pos h2]
    · rw [if_neg h2]
      rw [Int32.le_iff_toInt_le] at h; rw [Int32.lt_iff_toInt_lt] at h2
      exact Int32.toInt_inj.mp (by omega)
  · rw [if_neg h, if_neg]
    rw [Int32.le_iff_toInt_le] at h; rw [Int32.lt_iff_toInt_lt]
    omega
end
