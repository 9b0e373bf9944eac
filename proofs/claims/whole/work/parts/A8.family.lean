section
/-! ENTRIES -/
def nE (row : Nat → Int32) : Nat := cl (row 6)
def en (row : Nat → Int32) (e j : Nat) : Int32 := row (23832 + 10 * e + j)
def EV (row : Nat → Int32) : Prop := isN (row 6) 61 ∧ ∀ e, e < nE row → isN (en row e 0) 6 ∧ isN (en row e 1) 260 ∧ isN (en row e 2) 21 ∧ isN (en row e 3) 20 ∧ isN (en row e 4) 10 ∧ isN (en row e 5) 2 ∧ isN (en row e 6) 260 ∧ ∀ m, 7 ≤ m → m < 10 → en row e m = -1 ∨ isN (en row e m) 10000
theorem EV.n {row : Nat → Int32} (h : EV row) : row 6 = nI (nE row) ∧ nE row ≤ 60 := ⟨h.1.1, by have := h.1.2; unfold nE; omega⟩
theorem F_entryAt {row : Nat → Int32} {e j : Nat} {σ : AH} (hE : EV row) (he : e < nE row) (hj : j < 10) (hr : gI σ 125 = row) : F_X12_entryAt (nI e) (nI j) σ = some (en row e j, σ) := by
  have := hE.n.2
  unfold F_X12_entryAt
  have i1 : (23832 : Int32) + (10 : Int32) * nI e + nI j = nI (23832 + 10 * e + j) := by simp only [fa_lit, nI_add, pk_mul]
  rw [i1, if_pos (inB_n (by omega) (by omega)), nI_clamp (by omega), hr]; rfl
/-- the class's table of ENTRIES -/
def TbE (row : Nat → Int32) (σ : AH) : Prop := Tb row σ 13 6 23832 10 60
theorem at_en {row : Nat → Int32} {σ : AH} {e j : Nat} (h : TbE row σ) (he : e < nE row) (hj : j < 10) : F_X8_at 13 (nI e) (nI j) σ = some (en row e j, σ) := by
  have := F_at h he hj (by decide)
  rw [this]
  unfold en
  rw [show 23832 + (e * 10 + j) = 23832 + 10 * e + j by omega]
theorem rows_e {row : Nat → Int32} {σ : AH} (h : TbE row σ) : F_X8_rows 13 σ = some (nI (nE row), σ) := F_rows h
/-! one FAMILY -/
def smN (row : Nat → Int32) (a b : Nat) : Nat → Nat := fun m => match m with
  | 0 => 0
  | m + 1 => smN row a b m + (if en row a (7 + m) ≠ -1 ∧ en row b (7 + m) ≠ -1 ∧ en row a (7 + m) = en row b (7 + m) then 1 else 0)
def unN (row : Nat → Int32) (a b : Nat) : Nat → Nat := fun m => match m with
  | 0 => 0
  | m + 1 => unN row a b m + (if en row a (7 + m) ≠ -1 ∧ en row b (7 + m) ≠ -1 ∧ en row a (7 + m) ≠ en row b (7 + m) then 1 else 0)
def alk (row : Nat → Int32) (a b : Nat) : Bool := decide (2 ≤ smN row a b 3 ∧ unN row a b 3 = 0)
theorem smN_le {row : Nat → Int32} {a b : Nat} : ∀ m, smN row a b m ≤ m ∧ unN row a b m ≤ m := by
  intro m
  induction m with
  | zero => exact ⟨Nat.le_refl _, Nat.le_refl _⟩
  | succ m ih =>
    unfold smN unN
    refine ⟨?_, ?_⟩ <;> split <;> omega
theorem smN_sym {row : Nat → Int32} {a b : Nat} : ∀ m, smN row a b m = smN row b a m ∧ unN row a b m = unN row b a m := by
  intro m
  induction m with
  | zero => exact ⟨rfl, rfl⟩
  | succ m ih =>
    have e1 : (en row a (7 + m) ≠ -1 ∧ en row b (7 + m) ≠ -1 ∧ en row a (7 + m) = en row b (7 + m)) ↔ (en row b (7 + m) ≠ -1 ∧ en row a (7 + m) ≠ -1 ∧ en row b (7 + m) = en row a (7 + m)) := ⟨fun h => ⟨h.2.1, h.1, h.2.2.symm⟩, fun h => ⟨h.2.1, h.1, h.2.2.symm⟩⟩
    have e2 : (en row a (7 + m) ≠ -1 ∧ en row b (7 + m) ≠ -1 ∧ en row a (7 + m) ≠ en row b (7 + m)) ↔ (en row b (7 + m) ≠ -1 ∧ en row a (7 + m) ≠ -1 ∧ en row b (7 + m) ≠ en row a (7 + m)) := ⟨fun h => ⟨h.2.1, h.1, fun q => h.2.2 q.symm⟩, fun h => ⟨h.2.1, h.1, fun q => h.2.2 q.symm⟩⟩
    unfold smN unN
    rw [ih.1, ih.2]
    simp only [e1, e2]
    exact ⟨trivial, trivial⟩
theorem alk_sym {row : Nat → Int32} {a b : Nat} : alk row a b = alk row b a := by
  unfold alk; rw [(smN_sym 3).1, (smN_sym 3).2]
theorem one_loop {row : Nat → Int32} {a b g : Nat} {σ : AH} (hE : EV row) (ha : a < nE row) (hb : b < nE row) (hr : gI σ 125 = row) : ∀ (j m : Nat), m + j = 3 → F_X12_areOne_9 (j + 1 + g) (nI a) (nI b) (nI (smN row a b m)) (nI (unN row a b m)) (nI (7 + m)) σ = some (b2 (alk row a b), σ) := by
  intro j
  induction j with
  | zero =>
    intro m hm
    have e : m = 3 := by omega
    subst e
    rw [show 0 + 1 + g = g + 1 by omega]
    show B_X12_areOne_9 (F_X12_areOne_9 g) (nI a) (nI b) (nI (smN row a b 3)) (nI (unN row a b 3)) (nI (7 + 3)) σ = _
    unfold B_X12_areOne_9
    obtain ⟨l1, l2⟩ := smN_le (row := row) (a := a) (b := b) 3
    rw [if_pos (show (10 : Int32) ≤ nI (7 + 3) by decide)]
    unfold alk
    by_cases c1 : 2 ≤ smN row a b 3
    · rw [if_neg (show ¬ nI (smN row a b 3) < (2 : Int32) from nI_nlt (b := 2) c1 (by omega))]
      by_cases c2 : unN row a b 3 = 0
      · rw [if_pos (show nI (unN row a b 3) = 0 by rw [c2]; rfl), decide_eq_true ⟨c1, c2⟩]; rfl
      · rw [if_neg (show ¬ nI (unN row a b 3) = 0 from fun e => c2 ((nI_eq (b := 0) (by omega) (by decide)).mp e)), decide_eq_false (fun q => c2 q.2)]; rfl
    · rw [if_pos (show nI (smN row a b 3) < (2 : Int32) from nI_lt (b := 2) (by omega) (by decide)), decide_eq_false (fun q => c1 q.1)]; rfl
  | succ j ih =>
    intro m hm
    rw [show j + 1 + 1 + g = (j + 1 + g) + 1 by omega]
    show B_X12_areOne_9 (F_X12_areOne_9 (j + 1 + g)) (nI a) (nI b) (nI (smN row a b m)) (nI (unN row a b m)) (nI (7 + m)) σ = _
    unfold B_X12_areOne_9 F_X12_areOne_61 F_X12_areOne_87 F_X12_areOne_90
    have ea := F_entryAt (j := 7 + m) hE ha (by omega) hr
    have eb := F_entryAt (j := 7 + m) hE hb (by omega) hr
    rw [if_neg (show ¬ (10 : Int32) ≤ nI (7 + m) from nI_ge (b := 10) (by omega) (by decide))]
    simp only [ea, eb, bd_some, nI_1, show ∀ x : Nat, nI x + (0 : Int32) = nI (x + 0) from fun x => nI_add x 0, show ∀ x : Nat, nI x + (1 : Int32) = nI (x + 1) from fun x => nI_1 x]
    have ih' := ih (m + 1) (by omega)
    have s1 : smN row a b (m + 1) = smN row a b m + (if en row a (7 + m) ≠ -1 ∧ en row b (7 + m) ≠ -1 ∧ en row a (7 + m) = en row b (7 + m) then 1 else 0) := rfl
    have s2 : unN row a b (m + 1) = unN row a b m + (if en row a (7 + m) ≠ -1 ∧ en row b (7 + m) ≠ -1 ∧ en row a (7 + m) ≠ en row b (7 + m) then 1 else 0) := rfl
    rw [s1, s2] at ih'
    by_cases c1 : en row a (7 + m) = -1
    · rw [if_neg (fun q => q.1 c1), if_neg (fun q => q.1 c1)] at ih'
      rw [if_pos c1]; exact ih'
    · rw [if_neg c1]
      by_cases c2 : en row b (7 + m) = -1
      · rw [if_neg (fun q => q.2.1 c2), if_neg (fun q => q.2.1 c2)] at ih'
        rw [if_pos c2]; exact ih'
      · rw [if_neg c2]
        by_cases c3 : en row a (7 + m) = en row b (7 + m)
        · rw [if_pos ⟨c1, c2, c3⟩, if_neg (fun q => q.2.2 c3)] at ih'
          rw [if_pos c3, if_pos c3]; exact ih'
        · rw [if_neg (fun q => c3 q.2.2), if_pos ⟨c1, c2, c3⟩] at ih'
          rw [if_neg c3, if_neg c3]; exact ih'
theorem F_areOne {row : Nat → Int32} {a b : Nat} {σ : AH} (hE : EV row) (ha : a < nE row) (hb : b < nE row) (hr : gI σ 125 = row) : F_X12_areOne (nI a) (nI b) σ = some (b2 (alk row a b), σ) := by
  unfold F_X12_areOne
  obtain ⟨g, hg⟩ := BIGe 3 (by decide)
  rw [hg]
  exact one_loop hE ha hb hr 3 0 (by omega)
theorem alike_loop {row : Nat → Int32} {a b g : Nat} {σ : AH} (hE : EV row) (ha : a < nE row) (hb : b < nE row) (hT : TbE row σ) : ∀ (j m : Nat), m + j = 3 → unN row a b m = 0 → F_X4_isAlike_6 (j + 1 + g) (nI a) (nI b) (nI (smN row a b m)) (nI (7 + m)) σ = some (b2 (alk row a b), σ) := by
  intro j
  induction j with
  | zero =>
    intro m hm hu
    have e : m = 3 := by omega
    subst e
    rw [show 0 + 1 + g = g + 1 by omega]
    show B_X4_isAlike_6 (F_X4_isAlike_6 g) (nI a) (nI b) (nI (smN row a b 3)) (nI (7 + 3)) σ = _
    unfold B_X4_isAlike_6
    obtain ⟨l1, l2⟩ := smN_le (row := row) (a := a) (b := b) 3
    rw [if_pos (show (10 : Int32) ≤ nI (7 + 3) by decide)]
    unfold alk
    by_cases c1 : 2 ≤ smN row a b 3
    · rw [if_neg (show ¬ nI (smN row a b 3) < (2 : Int32) from nI_nlt (b := 2) c1 (by omega)), decide_eq_true ⟨c1, hu⟩]; rfl
    · rw [if_pos (show nI (smN row a b 3) < (2 : Int32) from nI_lt (b := 2) (by omega) (by decide)), decide_eq_false (fun q => c1 q.1)]; rfl
  | succ j ih =>
    intro m hm hu
    rw [show j + 1 + 1 + g = (j + 1 + g) + 1 by omega]
    show B_X4_isAlike_6 (F_X4_isAlike_6 (j + 1 + g)) (nI a) (nI b) (nI (smN row a b m)) (nI (7 + m)) σ = _
    unfold B_X4_isAlike_6 F_X4_isAlike_67
    rw [if_neg (show ¬ (10 : Int32) ≤ nI (7 + m) from nI_ge (b := 10) (by omega) (by decide)), at_en hT ha (by omega), bd_some, at_en hT hb (by omega), bd_some, nI_1, nI_1]
    have ih' := ih (m + 1) (by omega)
    have s1 : smN row a b (m + 1) = smN row a b m + (if en row a (7 + m) ≠ -1 ∧ en row b (7 + m) ≠ -1 ∧ en row a (7 + m) = en row b (7 + m) then 1 else 0) := rfl
    have s2 : unN row a b (m + 1) = unN row a b m + (if en row a (7 + m) ≠ -1 ∧ en row b (7 + m) ≠ -1 ∧ en row a (7 + m) ≠ en row b (7 + m) then 1 else 0) := rfl
    rw [s1, s2, hu] at ih'
    by_cases c1 : en row a (7 + m) = -1
    · rw [if_neg (fun q => q.1 c1), if_neg (fun q => q.1 c1)] at ih'
      rw [if_pos c1]; exact ih' rfl
    · rw [if_neg c1]
      by_cases c2 : en row b (7 + m) = -1
      · rw [if_neg (fun q => q.2.1 c2), if_neg (fun q => q.2.1 c2)] at ih'
        rw [if_pos c2]; exact ih' rfl
      · rw [if_neg c2]
        by_cases c3 : en row a (7 + m) = en row b (7 + m)
        · rw [if_neg (fun q => q.2.2 c3), if_pos ⟨c1, c2, c3⟩] at ih'
          rw [if_pos c3]; exact ih' rfl
        · rw [if_neg c3]
          have up : ∀ i, 1 ≤ unN row a b (m + 1 + i) := by
            intro i
            induction i with
            | zero => rw [Nat.add_zero, s2, if_pos ⟨c1, c2, c3⟩]; omega
            | succ i ih2 =>
              have e : unN row a b (m + 1 + i + 1) = unN row a b (m + 1 + i) + (if en row a (7 + (m + 1 + i)) ≠ -1 ∧ en row b (7 + (m + 1 + i)) ≠ -1 ∧ en row a (7 + (m + 1 + i)) ≠ en row b (7 + (m + 1 + i)) then 1 else 0) := rfl
              rw [show m + 1 + (i + 1) = m + 1 + i + 1 by omega, e]; omega
          have u3 := up j
          rw [show m + 1 + j = 3 by omega] at u3
          have : alk row a b = false := by unfold alk; exact decide_eq_false (fun q => by omega)
          rw [this]; rfl
theorem F_isAlike {row : Nat → Int32} {a b : Nat} {σ : AH} (hE : EV row) (ha : a < nE row) (hb : b < nE row) (hT : TbE row σ) : F_X4_isAlike (nI a) (nI b) σ = some (b2 (alk row a b), σ) := by
  unfold F_X4_isAlike
  obtain ⟨g, hg⟩ := BIGe 3 (by decide)
  rw [hg]
  exact alike_loop hE ha hb hT 3 0 (by omega) rfl
/-! labels: among the first n ENTRIES, as known in k -/
def knE (row : Nat → Int32) (k : Int32) (e : Nat) : Prop := ¬ k < en row e 6
def LbP (row : Nat → Int32) (k : Int32) (n : Nat) (f : Nat → Int32) : Prop :=
  (∀ e, e < n → (¬ knE row k e → f e = -1) ∧ (knE row k e → ∃ j, j ≤ e ∧ knE row k j ∧ f e = nI j)) ∧
  ∀ g : Nat → Nat, (∀ a b, a < n → b < n → knE row k a → knE row k b → alk row a b = true → g a = g b) → ∀ e, e < n → knE row k e → g e = g (cl (f e))
def FmF (row : Nat → Int32) (k : Int32) (f : Nat → Int32) : Prop := LbP row k (nE row) f ∧ ∀ a b, a < nE row → b < nE row → knE row k a → knE row k b → alk row a b = true → f a = f b
theorem fam_unique {row : Nat → Int32} {k : Int32} {f f' : Nat → Int32} (hE : EV row) (h : FmF row k f) (h' : FmF row k f') {e : Nat} (he : e < nE row) : f e = f' e := by
  have n60 := hE.n.2
  by_cases c : knE row k e
  · have half : ∀ f f' : Nat → Int32, FmF row k f → FmF row k f' → cl (f' e) ≤ cl (f e) := fun f f' h h' => by
      obtain ⟨j, j1, j2, j3⟩ := (h.1.1 e he).2 c
      have p4 := h.1.2 (fun x => cl (f' x)) (fun a b ha hb ka kb hab => by show cl (f' a) = cl (f' b); rw [h'.2 a b ha hb ka kb hab]) e he c
      have cj : cl (f e) = j := by rw [j3]; exact nI_clamp (by omega)
      obtain ⟨i, i1, i2, i3⟩ := (h'.1.1 j (by omega)).2 j2
      have ci : cl (f' j) = i := by rw [i3]; exact nI_clamp (by omega)
      rw [cj] at p4
      have p4' : cl (f' e) = cl (f' j) := p4
      rw [p4', ci, cj]; exact i1
    obtain ⟨j, j1, j2, j3⟩ := (h.1.1 e he).2 c
    obtain ⟨i, i1, i2, i3⟩ := (h'.1.1 e he).2 c
    have a := half f f' h h'
    have b := half f' f h' h
    rw [j3, i3, show cl (nI j) = j from nI_clamp (by omega), show cl (nI i) = i from nI_clamp (by omega)] at a b
    rw [j3, i3, show i = j by omega]
  · rw [(h.1.1 e he).1 c, (h'.1.1 e he).1 c]
end
