section
/-! targets and streets -/
def TV (row : Nat → Int32) : Prop := (∀ i, i < 120 → isN (row (24592 + i)) 10002) ∧ ∀ i, i < 2400 → isN (row (24712 + i)) 1002 ∧ isN (row (27112 + i)) 1002
def stW (row : Nat → Int32) (i : Nat) : Nat := (cl (row (24712 + i)) - 1) + 65536 * cl (row (27112 + i))
/-- the class's targets (19) and streets (20) -/
def TgI (row : Nat → Int32) (σ : AH) : Prop := (kd σ 1 = (9, NO 9) ∧ 1 < nx σ) ∧ (gR σ 1 11 = some 20 ∧ kd σ 20 = (100, 2400) ∧ 20 < nx σ) ∧ (∀ i, i < 120 → gI σ 19 i = row (24592 + i)) ∧ ∀ i, i < 2400 → gI σ 20 i = nI (stW row i)
theorem TgI.ch {row : Nat → Int32} {σ τ : AH} {cs : List Nat} {fs : List (Nat × Nat)} (h : TgI row σ) (c : Ch cs fs σ τ) (h1 : 19 ∉ cs ∧ 20 ∉ cs) (h2 : ∀ q ∈ fs, q.1 ≠ 19 ∧ q.1 ≠ 20) : TgI row τ := by
  unfold TgI
  rw [c.1, c.2.1, c.2.2.2.1, c.rI h1.1 (fun q hq => (h2 q hq).1), c.rI h1.2 (fun q hq => (h2 q hq).2)]; exact h
theorem F_claimedIn {row : Nat → Int32} {i : Nat} {σ : AH} (hV : TV row) (h : TgI row σ) (hi : i < 2400) : F_X9_claimedIn 1 (nI i) σ = some (nI (cl (row (24712 + i)) - 1), σ) := by
  obtain ⟨⟨a1, a2⟩, ⟨b1, b2', b3⟩, _, c⟩ := h
  obtain ⟨v1, v2⟩ := hV.2 i hi
  have l1 := v1.2
  have l2 := v2.2
  unfold F_X9_claimedIn
  rw [if_pos a1, if_pos a2, b1, bo_some, if_pos ⟨by rw [b2'], b3⟩, b2', if_pos (inB_n (show i < (100, 2400).2 from hi) (by decide)), nI_clamp (by omega), c i hi, pk_andN (by unfold stW; omega) 16 (by decide)]
  have e : stW row i % 2 ^ 16 = cl (row (24712 + i)) - 1 := by unfold stW; omega
  rw [e]
theorem F_seenIn {row : Nat → Int32} {i : Nat} {σ : AH} (hV : TV row) (h : TgI row σ) (hi : i < 2400) : F_X9_seenIn 1 (nI i) σ = some (nI (cl (row (27112 + i))) - 1, σ) := by
  obtain ⟨⟨a1, a2⟩, ⟨b1, b2', b3⟩, _, c⟩ := h
  obtain ⟨v1, v2⟩ := hV.2 i hi
  have l1 := v1.2
  have l2 := v2.2
  unfold F_X9_seenIn
  rw [if_pos a1, if_pos a2, b1, bo_some, if_pos ⟨by rw [b2'], b3⟩, b2', if_pos (inB_n (show i < (100, 2400).2 from hi) (by decide)), nI_clamp (by omega), c i hi, pk_shrN (by unfold stW; omega) _ 16 (by decide)]
  have e : stW row i / 2 ^ 16 = cl (row (27112 + i)) := by unfold stW; omega
  rw [e]
/-! truth -/
def saN (row : Nat → Int32) (b s : Nat) : Nat := cl (row (24712 + (b * 20 + s))) - 1
def seN (row : Nat → Int32) (b s : Nat) : Nat := cl (row (27112 + (b * 20 + s)))
def lsN (row : Nat → Int32) (b : Nat) : Nat → Nat := fun s => match s with
  | 0 => 0
  | s + 1 => lsN row b s + (seN row b s - 1)
def msN (row : Nat → Int32) (b : Nat) : Nat → Nat := fun s => match s with
  | 0 => 0
  | s + 1 => msN row b s + (if seN row b s = 0 then saN row b s else seN row b s - 1)
def cmN (row : Nat → Int32) (b : Nat) : Nat → Nat := fun s => match s with
  | 0 => 0
  | s + 1 => cmN row b s + saN row b s
theorem sums_le {row : Nat → Int32} {b : Nat} (hV : TV row) (hb : b < 120) : ∀ s, s ≤ 20 → lsN row b s ≤ 1001 * s ∧ msN row b s ≤ 1001 * s ∧ cmN row b s ≤ 1001 * s := by
  intro s
  induction s with
  | zero => intro _; exact ⟨Nat.le_refl _, Nat.le_refl _, Nat.le_refl _⟩
  | succ s ih =>
    intro hs
    obtain ⟨a, b', c⟩ := ih (by omega)
    obtain ⟨v1, v2⟩ := hV.2 (b * 20 + s) (by omega)
    have l1 := v1.2
    have l2 := v2.2
    unfold lsN msN cmN saN seN
    refine ⟨by omega, ?_, by omega⟩
    split <;> omega
def trV (row : Nat → Int32) (b : Nat) (x3 : Int32) : Int32 := if x3 = 0 then nI (lsN row b 20) else if x3 = 1 then nI (msN row b 20) else if x3 = 2 then nI (cmN row b 20) else if x3 = 3 then (if cl (row (24592 + b)) = 0 then 0 else if lsN row b 20 < cl (row (24592 + b)) - 1 then 0 else 1) else (if cmN row b 20 ≤ msN row b 20 then 0 else 1)
def truthV (row : Nat → Int32) (x1 x2 x3 : Int32) : Int32 := if rgB 0 5 x1 = true ∧ rgB 0 19 x2 = true then (if rgB 0 4 x3 = true then trV row (20 * cl x1 + cl x2) x3 else -1) else -1
theorem F_isTarget {x1 x2 : Int32} {σ : AH} : F_X12_isTarget x1 x2 σ = some (if rgB 0 5 x1 = true ∧ rgB 0 19 x2 = true then 1 else 0, σ) := by
  unfold F_X12_isTarget
  rw [F_isCouncil, bd_b (α := Int32), in019, bd_b (α := Int32)]
  by_cases c1 : rgB 0 5 x1 = true
  · rw [if_pos c1]
    by_cases c2 : rgB 0 19 x2 = true
    · rw [if_pos c2, if_pos ⟨c1, c2⟩]
    · rw [if_neg c2, if_neg (fun z => c2 z.2)]
  · rw [if_neg c1, if_neg (fun z => c1 z.1)]
theorem F_isCQ {x1 x2 : Int32} {σ : AH} : F_X11_isCouncilQuarter x1 x2 σ = some (if rgB 0 5 x1 = true ∧ rgB 0 19 x2 = true then 1 else 0, σ) := by
  unfold F_X11_isCouncilQuarter
  rw [isIn05, bd_b (α := Int32), isIn019, bd_b (α := Int32)]
  by_cases c1 : rgB 0 5 x1 = true
  · rw [if_pos c1]
    by_cases c2 : rgB 0 19 x2 = true
    · rw [if_pos c2, if_pos ⟨c1, c2⟩]
    · rw [if_neg c2, if_neg (fun z => c2 z.2)]
  · rw [if_neg c1, if_neg (fun z => c1 z.1)]
theorem nI_m1z {n : Nat} (h : n < 2 ^ 31) : (0 ≤ nI n - (1 : Int32)) ↔ ¬ n = 0 := by
  rcases Nat.eq_zero_or_pos n with z | z
  · subst z; decide
  · have e : nI n - (1 : Int32) = nI (n - 1) := pk_sub (b := 1) z
    rw [e]
    exact ⟨fun _ => by omega, fun _ => nI_le (a := 0) (by omega) (by omega)⟩
theorem nI_m1e {n : Nat} (h : n < 2 ^ 31) : (nI n - (1 : Int32) = -1) ↔ n = 0 := by
  rcases Nat.eq_zero_or_pos n with z | z
  · subst z; decide
  · have e : nI n - (1 : Int32) = nI (n - 1) := pk_sub (b := 1) z
    rw [e]
    exact ⟨fun q => absurd q (nI_neg1 (by omega)), fun q => by omega⟩
theorem truth_loop {row : Nat → Int32} {c q g : Nat} {x3 : Int32} {σ : AH} (hV : TV row) (hc : c < 6) (hq : q < 20) (hr : gI σ 125 = row) : ∀ (j s : Nat), s + j = 20 → F_X12_truth_39 (j + 1 + g) (nI c) (nI q) x3 (nI (lsN row (20 * c + q) s)) (nI (msN row (20 * c + q) s)) (nI (cmN row (20 * c + q) s)) (nI s) σ = some (trV row (20 * c + q) x3, σ) := by
  intro j
  induction j with
  | zero =>
    intro s hs
    have e : s = 20 := by omega
    subst e
    rw [show 0 + 1 + g = g + 1 by omega]
    show B_X12_truth_39 (F_X12_truth_39 g) (nI c) (nI q) x3 (nI (lsN row (20 * c + q) 20)) (nI (msN row (20 * c + q) 20)) (nI (cmN row (20 * c + q) 20)) (nI 20) σ = _
    unfold B_X12_truth_39 F_X12_truth_223
    obtain ⟨s1, s2, s3⟩ := sums_le (b := 20 * c + q) hV (by omega) 20 (by omega)
    have v := hV.1 (20 * c + q) (by omega)
    have lv := v.2
    have i1 : (24592 : Int32) + (20 : Int32) * nI c + nI q = nI (24592 + (20 * c + q)) := by
      simp only [fa_lit, nI_add, pk_mul]; rw [Nat.add_assoc]
    rw [if_pos (by decide), i1, if_pos (inB_n (by omega) (by omega)), nI_clamp (by omega), hr, v.1]
    unfold trV
    by_cases c0 : x3 = 0
    · rw [if_pos c0, if_pos c0]
    · rw [if_neg c0, if_neg c0]
      by_cases c1 : x3 = 1
      · rw [if_pos c1, if_pos c1]
      · rw [if_neg c1, if_neg c1]
        by_cases c2 : x3 = 2
        · rw [if_pos c2, if_pos c2]
        · rw [if_neg c2, if_neg c2]
          by_cases c3 : x3 = 3
          · rw [if_pos c3, if_pos c3]
            by_cases z : cl (row (24592 + (20 * c + q))) = 0
            · rw [if_pos z, if_pos (by rw [z]; decide)]
            · have e : nI (cl (row (24592 + (20 * c + q)))) - (1 : Int32) = nI (cl (row (24592 + (20 * c + q))) - 1) := pk_sub (b := 1) (by omega)
              rw [if_neg z, e, if_neg (nI_pos (by omega))]
              by_cases y : lsN row (20 * c + q) 20 < cl (row (24592 + (20 * c + q))) - 1
              · rw [if_pos y, if_pos (nI_lt y (by omega))]
              · rw [if_neg y, if_neg (nI_nlt (by omega) (by omega))]
          · rw [if_neg c3, if_neg c3]
            by_cases y : cmN row (20 * c + q) 20 ≤ msN row (20 * c + q) 20
            · rw [if_pos y, if_pos (nI_le y (by omega))]
            · rw [if_neg y, if_neg (nI_ge (by omega) (by omega))]
  | succ j ih =>
    intro s hs
    rw [show j + 1 + 1 + g = (j + 1 + g) + 1 by omega]
    show B_X12_truth_39 (F_X12_truth_39 (j + 1 + g)) (nI c) (nI q) x3 (nI (lsN row (20 * c + q) s)) (nI (msN row (20 * c + q) s)) (nI (cmN row (20 * c + q) s)) (nI s) σ = _
    unfold B_X12_truth_39 F_X12_truth_91 F_X12_truth_128 F_X12_truth_145
    obtain ⟨v1, v2⟩ := hV.2 ((20 * c + q) * 20 + s) (by omega)
    have l1 := v1.2
    have l2 := v2.2
    have i0 : (((20 : Int32) * nI c) + nI q) * (20 : Int32) + nI s = nI ((20 * c + q) * 20 + s) := by simp only [fa_lit, nI_add, pk_mul]
    have i1 : (24712 : Int32) + nI ((20 * c + q) * 20 + s) = nI (24712 + ((20 * c + q) * 20 + s)) := nI_add 24712 _
    have i2 : (27112 : Int32) + nI ((20 * c + q) * 20 + s) = nI (27112 + ((20 * c + q) * 20 + s)) := nI_add 27112 _
    have q1 : inB (nI (24712 + ((20 * c + q) * 20 + s))) 269832 = true := inB_n (by omega) (by omega)
    have q2 : inB (nI (27112 + ((20 * c + q) * 20 + s))) 269832 = true := inB_n (by omega) (by omega)
    have n1 : (nI (24712 + ((20 * c + q) * 20 + s))).toNatClampNeg = 24712 + ((20 * c + q) * 20 + s) := nI_clamp (by omega)
    have n2 : (nI (27112 + ((20 * c + q) * 20 + s))).toNatClampNeg = 27112 + ((20 * c + q) * 20 + s) := nI_clamp (by omega)
    have d1 : row (24712 + ((20 * c + q) * 20 + s)) = nI (cl (row (24712 + ((20 * c + q) * 20 + s)))) := v1.1
    have d2 : row (27112 + ((20 * c + q) * 20 + s)) = nI (seN row (20 * c + q) s) := v2.1
    have ls2 : seN row (20 * c + q) s < 1002 := l2
    rw [if_neg (show ¬ (20 : Int32) ≤ nI s from nI_ge (b := 20) (by omega) (by decide))]
    have says : (if row (24712 + ((20 * c + q) * 20 + s)) = 0 then (0 : Int32) else row (24712 + ((20 * c + q) * 20 + s)) - (1 : Int32)) = nI (saN row (20 * c + q) s) := by
      unfold saN
      rw [d1]
      by_cases z : cl (row (24712 + ((20 * c + q) * 20 + s))) = 0
      · rw [z]; rfl
      · rw [if_neg (show ¬ nI (cl (row (24712 + ((20 * c + q) * 20 + s)))) = 0 from fun e => z ((nI_eq (b := 0) (by omega) (by decide)).mp e))]
        have := pk_sub (a := cl (row (24712 + ((20 * c + q) * 20 + s)))) (b := 1) (by omega)
        rw [show cl (nI (cl (row (24712 + ((20 * c + q) * 20 + s))))) = cl (row (24712 + ((20 * c + q) * 20 + s))) from nI_clamp (by omega)]
        exact this
    simp only [i0, i1, i2, q1, q2, n1, n2, hr, if_true, d2, nI_1]
    have ih' := ih (s + 1) (by omega)
    have e1 : lsN row (20 * c + q) (s + 1) = lsN row (20 * c + q) s + (seN row (20 * c + q) s - 1) := rfl
    have e2 : msN row (20 * c + q) (s + 1) = msN row (20 * c + q) s + (if seN row (20 * c + q) s = 0 then saN row (20 * c + q) s else seN row (20 * c + q) s - 1) := rfl
    have e3 : cmN row (20 * c + q) (s + 1) = cmN row (20 * c + q) s + saN row (20 * c + q) s := rfl
    rw [e1, e2, e3] at ih'
    have fin : ∀ y : Int32, y = nI (saN row (20 * c + q) s) → (if 0 ≤ nI (seN row (20 * c + q) s) - (1 : Int32) then (if 0 ≤ nI (seN row (20 * c + q) s) - (1 : Int32) then F_X12_truth_39 (j + 1 + g) (nI c) (nI q) x3 (nI (lsN row (20 * c + q) s) + (nI (seN row (20 * c + q) s) - (1 : Int32))) (nI (msN row (20 * c + q) s) + (nI (seN row (20 * c + q) s) - (1 : Int32))) (nI (cmN row (20 * c + q) s) + y) (nI (s + 1)) σ else F_X12_truth_39 (j + 1 + g) (nI c) (nI q) x3 (nI (lsN row (20 * c + q) s) + (nI (seN row (20 * c + q) s) - (1 : Int32))) (nI (msN row (20 * c + q) s) + y) (nI (cmN row (20 * c + q) s) + y) (nI (s + 1)) σ) else (if 0 ≤ nI (seN row (20 * c + q) s) - (1 : Int32) then F_X12_truth_39 (j + 1 + g) (nI c) (nI q) x3 (nI (lsN row (20 * c + q) s) + (0 : Int32)) (nI (msN row (20 * c + q) s) + (nI (seN row (20 * c + q) s) - (1 : Int32))) (nI (cmN row (20 * c + q) s) + y) (nI (s + 1)) σ else F_X12_truth_39 (j + 1 + g) (nI c) (nI q) x3 (nI (lsN row (20 * c + q) s) + (0 : Int32)) (nI (msN row (20 * c + q) s) + y) (nI (cmN row (20 * c + q) s) + y) (nI (s + 1)) σ)) = some (trV row (20 * c + q) x3, σ) := fun y hy => by
      rw [hy]
      by_cases z : seN row (20 * c + q) s = 0
      · have nz : ¬ 0 ≤ nI (seN row (20 * c + q) s) - (1 : Int32) := fun w => (nI_m1z (by omega)).mp w z
        rw [if_neg nz, if_neg nz, nI_add, nI_add, show nI (lsN row (20 * c + q) s) + (0 : Int32) = nI (lsN row (20 * c + q) s + 0) from nI_add _ 0]
        rw [if_pos z, z] at ih'; exact ih'
      · have nz : 0 ≤ nI (seN row (20 * c + q) s) - (1 : Int32) := (nI_m1z (by omega)).mpr z
        have e : nI (seN row (20 * c + q) s) - (1 : Int32) = nI (seN row (20 * c + q) s - 1) := pk_sub (b := 1) (by omega)
        rw [if_pos nz, if_pos nz, e, nI_add, nI_add, nI_add]
        rw [if_neg z] at ih'; exact ih'
    by_cases z : row (24712 + ((20 * c + q) * 20 + s)) = 0
    · rw [if_pos z]
      rw [if_pos z] at says
      exact fin _ says
    · rw [if_neg z]
      rw [if_neg z] at says
      exact fin _ says
theorem P_truth {row : Nat → Int32} {x1 x2 x3 : Int32} {σ : AH} (hV : TV row) (hr : gI σ 125 = row) : F_X12_truth x1 x2 x3 σ = some (truthV row x1 x2 x3, sI σ 124 0 0) := by
  unfold F_X12_truth truthV
  rw [F_isTarget, bd_b (α := Int32), in04, bd_b (α := Int32)]
  by_cases c1 : rgB 0 5 x1 = true ∧ rgB 0 19 x2 = true
  · rw [if_pos c1, if_pos c1]
    by_cases c2 : rgB 0 4 x3 = true
    · rw [if_pos c2, if_pos c2]
      obtain ⟨e1, b1⟩ := rg0_n (b := 5) c1.1 (by decide)
      obtain ⟨e2, b2'⟩ := rg0_n (b := 19) c1.2 (by decide)
      obtain ⟨g, hg⟩ := BIGe 20 (by decide)
      have := truth_loop (g := g) (x3 := x3) (c := cl x1) (q := cl x2) (σ := sI σ 124 0 0) hV (by omega) (by omega) hr 20 0 (by omega)
      rw [← e1, ← e2] at this
      rw [hg]; exact this
    · rw [if_neg c2, if_neg c2]
  · rw [if_neg c1, if_neg c1]
theorem truthC_loop {row : Nat → Int32} {b g : Nat} {x3 : Int32} {σ : AH} (hV : TV row) (hT : TgI row σ) (hb : b < 120) : ∀ (j s : Nat), s + j = 20 → F_X11_truth_43 (j + 1 + g) x3 (nI b) (nI (lsN row b s)) (nI (msN row b s)) (nI (cmN row b s)) (nI (b * 20 + s)) σ = some (trV row b x3, σ) := by
  have i20 : (nI b + (1 : Int32)) * (20 : Int32) = nI (b * 20 + 20) := by
    simp only [fa_lit, nI_add, pk_mul]; congr 1; omega
  intro j
  induction j with
  | zero =>
    intro s hs
    have e : s = 20 := by omega
    subst e
    rw [show 0 + 1 + g = g + 1 by omega]
    show B_X11_truth_43 (F_X11_truth_43 g) x3 (nI b) (nI (lsN row b 20)) (nI (msN row b 20)) (nI (cmN row b 20)) (nI (b * 20 + 20)) σ = _
    unfold B_X11_truth_43
    obtain ⟨s1, s2, s3⟩ := sums_le (b := b) hV hb 20 (by omega)
    have v := hV.1 b hb
    have lv := v.2
    rw [i20, if_pos (nI_le (Nat.le_refl _) (by omega)), if_pos (inB_n hb (by decide)), nI_clamp (by omega), hT.2.2.1 b hb, v.1]
    unfold trV
    by_cases c0 : x3 = 0
    · rw [if_pos c0, if_pos c0]
    · rw [if_neg c0, if_neg c0]
      by_cases c1 : x3 = 1
      · rw [if_pos c1, if_pos c1]
      · rw [if_neg c1, if_neg c1]
        by_cases c2 : x3 = 2
        · rw [if_pos c2, if_pos c2]
        · rw [if_neg c2, if_neg c2]
          by_cases c3 : x3 = 3
          · rw [if_pos c3, if_pos c3]
            by_cases z : cl (row (24592 + b)) = 0
            · rw [if_pos z, if_pos (by rw [z]; decide)]
            · have e : nI (cl (row (24592 + b))) - (1 : Int32) = nI (cl (row (24592 + b)) - 1) := pk_sub (b := 1) (by omega)
              rw [if_neg z, e, if_neg (nI_neg1 (by omega))]
              by_cases y : lsN row b 20 < cl (row (24592 + b)) - 1
              · rw [if_pos y, if_pos (nI_lt y (by omega))]
              · rw [if_neg y, if_neg (nI_nlt (by omega) (by omega))]
          · rw [if_neg c3, if_neg c3]
            by_cases y : cmN row b 20 ≤ msN row b 20
            · rw [if_pos y, if_pos (nI_le y (by omega))]
            · rw [if_neg y, if_neg (nI_ge (by omega) (by omega))]
  | succ j ih =>
    intro s hs
    rw [show j + 1 + 1 + g = (j + 1 + g) + 1 by omega]
    show B_X11_truth_43 (F_X11_truth_43 (j + 1 + g)) x3 (nI b) (nI (lsN row b s)) (nI (msN row b s)) (nI (cmN row b s)) (nI (b * 20 + s)) σ = _
    unfold B_X11_truth_43 F_X11_truth_113
    obtain ⟨v1, v2⟩ := hV.2 (b * 20 + s) (by omega)
    have ls2 : seN row b s < 1002 := v2.2
    have sn : F_X9_seenIn 1 (nI (b * 20 + s)) σ = some (nI (seN row b s) - 1, σ) := F_seenIn hV hT (by omega)
    have cm : F_X9_claimedIn 1 (nI (b * 20 + s)) σ = some (nI (saN row b s), σ) := F_claimedIn hV hT (by omega)
    rw [i20, if_neg (nI_ge (by omega) (by omega))]
    simp only [sn, cm, bd_some, nI_1]
    have ih' := ih (s + 1) (by omega)
    have e1 : lsN row b (s + 1) = lsN row b s + (seN row b s - 1) := rfl
    have e2 : msN row b (s + 1) = msN row b s + (if seN row b s = 0 then saN row b s else seN row b s - 1) := rfl
    have e3 : cmN row b (s + 1) = cmN row b s + saN row b s := rfl
    rw [e1, e2, e3, ← Nat.add_assoc (b * 20)] at ih'
    have mx : imax (0 : Int32) (nI (seN row b s) - (1 : Int32)) = nI (seN row b s - 1) := imax_n (v := 1) (by omega) (by decide)
    rw [mx, nI_add, nI_add]
    by_cases z : seN row b s = 0
    · rw [if_pos ((nI_m1e (by omega)).mpr z), nI_add]
      rw [if_pos z] at ih'; exact ih'
    · have e : nI (seN row b s) - (1 : Int32) = nI (seN row b s - 1) := pk_sub (b := 1) (by omega)
      rw [if_neg (fun w => z ((nI_m1e (by omega)).mp w)), e, nI_add, nI_add]
      rw [if_neg z] at ih'; exact ih'
theorem C_truth {row : Nat → Int32} {x1 x2 x3 : Int32} {σ : AH} (hV : TV row) (hT : TgI row σ) : F_X11_truth x1 x2 x3 σ = some (truthV row x1 x2 x3, σ) := by
  unfold F_X11_truth truthV
  rw [F_isCQ, bd_b (α := Int32), isIn04, bd_b (α := Int32)]
  by_cases c1 : rgB 0 5 x1 = true ∧ rgB 0 19 x2 = true
  · rw [if_pos c1, if_pos c1]
    by_cases c2 : rgB 0 4 x3 = true
    · rw [if_pos c2, if_pos c2]
      obtain ⟨e1, b1⟩ := rg0_n (b := 5) c1.1 (by decide)
      obtain ⟨e2, b2'⟩ := rg0_n (b := 19) c1.2 (by decide)
      obtain ⟨g, hg⟩ := BIGe 20 (by decide)
      have ib : x1 * (20 : Int32) + x2 = nI (20 * cl x1 + cl x2) := by
        have : nI (cl x1) * (20 : Int32) + nI (cl x2) = nI (20 * cl x1 + cl x2) := by simp only [fa_lit, nI_add, pk_mul]; rw [Nat.mul_comm]
        rw [← e1, ← e2] at this; exact this
      have ib2 : nI (20 * cl x1 + cl x2) * (20 : Int32) = nI ((20 * cl x1 + cl x2) * 20 + 0) := by simp only [fa_lit, pk_mul]; rfl
      have := truthC_loop (g := g) (x3 := x3) (b := 20 * cl x1 + cl x2) hV hT (by omega) 20 0 (by omega)
      rw [ib, ib2, hg]; exact this
    · rw [if_neg c2, if_neg c2]
  · rw [if_neg c1, if_neg c1]
end
