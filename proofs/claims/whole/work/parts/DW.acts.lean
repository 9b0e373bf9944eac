section
/-! act in the class, from its beginning -/
theorem act67_no {y x1 x2 : Int32} {σ : AH} (hy : y ≠ 0) : F_X11_act_67 x1 x2 y σ = some (y, sI (sI σ 22 1 0) 0 10 (ftV y)) := by
  unfold F_X11_act_67
  rw [if_neg hy, answer_e, bd_some]
theorem act36_no {y x1 x2 : Int32} {σ : AH} (hy : y ≠ 0) : F_X11_act_36 x1 x2 y σ = some (y, sI (sI σ 22 1 0) 0 10 (ftV y)) := by
  unfold F_X11_act_36
  rw [if_neg hy, act67_no hy]
theorem C_act_e {row : Nat → Int32} {x1 x2 : Int32} {σ : AH} (h1 : gI σ 1 1 = nI (nA row)) (hA : nA row ≤ 24) : F_X11_act x1 x2 σ = F_X11_act_36 x1 x2 (actP x1 x2 (nA row)) σ := by
  unfold F_X11_act F_X11_act_14
  rw [F_isWeekC, bd_b (α := Int32), F_isWeekC, bd_b (α := Int32)]
  by_cases c1 : rgB 0 259 x1 = true
  · rw [if_pos c1]
    by_cases c2 : rgB 0 259 x2 = true
    · have w : wk2 x1 x2 = true := by unfold wk2; rw [c1, c2]; rfl
      rw [if_pos c2, h1]
      by_cases c3 : nA row = 24
      · rw [actP_5 w c3, c3, if_neg (show ¬ nI 24 < (24 : Int32) by decide)]
      · rw [actP_0 w c3, if_pos (show nI (nA row) < (24 : Int32) from nI_lt (b := 24) (by omega) (by decide))]
    · have w : wk2 x1 x2 = false := by unfold wk2; rw [c1]; cases c : rgB 0 259 x2 with | true => exact absurd c c2 | false => rfl
      rw [if_neg c2, actP_1 w]
  · have w : wk2 x1 x2 = false := by unfold wk2; cases c : rgB 0 259 x1 with | true => exact absurd c c1 | false => rfl
    rw [if_neg c1, actP_1 w]
theorem C_act_no {row : Nat → Int32} {x1 x2 : Int32} {σ : AH} (h1 : gI σ 1 1 = nI (nA row)) (hA : nA row ≤ 24) (hp : actP x1 x2 (nA row) ≠ 0) : F_X11_act x1 x2 σ = some (actP x1 x2 (nA row), sI (sI σ 22 1 0) 0 10 (ftV (actP x1 x2 (nA row)))) := by
  rw [C_act_e h1 hA, act36_no hp]
theorem actP_w {x1 x2 : Int32} {n : Nat} (h : actP x1 x2 n = 0) : wk2 x1 x2 = true ∧ n ≠ 24 := by
  unfold actP at h
  by_cases c : wk2 x1 x2 = true
  · rw [if_pos c] at h
    by_cases c2 : n = 24
    · rw [if_pos c2] at h; exact absurd h (by decide)
    · exact ⟨c, c2⟩
  · rw [if_neg c] at h; exact absurd h (by decide)
theorem C_act_b {row : Nat → Int32} {L b : Nat} {tp : Nat → Int32} {x1 x2 : Int32} {σ : AH} (h1 : gI σ 1 1 = nI (nA row)) (hA : nA row ≤ 24) (h : TpC L tp σ) (hp : actP x1 x2 (nA row) = 0) (ht : txt L tp = (b, none)) (hb : b ≤ 400) : ∃ τ, F_X11_act x1 x2 σ = some (-6, τ) ∧ gI τ 0 11 = nI b ∧ gI τ 22 1 = 0 ∧ gI τ 0 10 = -6 ∧ Ch CCc ((22, 1) :: (0, 10) :: (0, 11) :: CTf) σ τ := by
  obtain ⟨τ, t1, t2⟩ := C_read_b h ht
  have nb : nI b ≠ -1 := fun z => by
    have := congrArg Int32.toInt z
    rw [nI_toInt (by omega)] at this
    have e : (-1 : Int32).toInt = -1 := rfl
    omega
  refine ⟨sI (sI (sI τ 0 11 (nI b)) 22 1 0) 0 10 (ftV (-6)), ?_, ?_, ?_, gI_sI_at, ?_⟩
  · rw [C_act_e h1 hA, hp]
    unfold F_X11_act_36
    rw [if_pos rfl, t1, bd_some, gI_sI_at, if_neg nb]
    unfold F_X11_act_66
    rw [act67_no (by decide)]
  · rw [gI_sI_ne (by decide), gI_sI_row (by decide), gI_sI_at]
  · rw [gI_sI_row (by decide), gI_sI_at]
  · exact (((t2.mono (fun q hq => hq) (by simp [CTf])).trans (Ch.sI1 (Or.inl (by simp)))).trans (Ch.sI1 (Or.inl (by simp)))).trans (Ch.sI1 (Or.inl (by simp)))
theorem C_act_g {row : Nat → Int32} {L b : Nat} {tp : Nat → Int32} {O : Nat → Nat} {x1 x2 : Int32} {Cs : List Cls} {σ : AH} (hV : AV row) (hW : AW row) (hA : ActsC row σ) (hO : Ow O σ) (hS : Sh σ) (h : TpC L tp σ) (hp : actP x1 x2 (nA row) = 0) (ht : txt L tp = (b, some Cs)) (hex : ∃ r, AcR row r x1 x2 Cs) : ∃ s τ, F_X11_act x1 x2 σ = some (nI (nA row), τ) ∧ (∀ row', AcR row row' x1 x2 Cs → LwI row' τ) ∧ ActF (nA row) s τ ∧ Ch CCc ((0, 11) :: CTf) σ s ∧ gI s 0 11 = -1 := by
  have n24 := hV.2.1
  have w := actP_w hp
  obtain ⟨τ1, sz, t1, t2, t3, t4, t5, t6⟩ := C_read_g h ht
  obtain ⟨s, hs⟩ : ∃ s, s = sI τ1 0 11 (-1) := ⟨_, rfl⟩
  have c : Ch CCc ((0, 11) :: CTf) σ s := by rw [hs]; exact (t6.mono (fun q hq => hq) (fun q hq => Or.inl (List.mem_cons_of_mem _ hq))).trans (Ch.sI1 (Or.inl (by simp)))
  have hk := prTx_k 17 0 (bl L tp 0) 0 b Cs ht
  obtain ⟨r, hr⟩ := hex
  obtain ⟨τ, u1, u2, u3⟩ := C_act67 (O := O) (x1 := x1) (x2 := x2) (Cs := Cs) (sz := sz) (σ := s) hV hW (hA.ch c (by simp [CCc]) (by simp [CTf])) (hO.ch c) (c.sh hS) (by omega) hk hr.2.2.2.2.1 (by rw [hs, gI_sI_row (by decide)]; exact t2) (by rw [hs, gI_sI_row (by decide)]; exact t3) t4 (by rw [hs, gI_sI_row (by decide), gI_sI_row (by decide), gI_sI_row (by decide), gI_sI_row (by decide)]; exact t5) ⟨r, hr⟩
  refine ⟨s, τ, ?_, u2, u3, c, by rw [hs, gI_sI_at]⟩
  rw [C_act_e hA.1 n24, hp]
  unfold F_X11_act_36
  rw [if_pos rfl, t1, bd_some, gI_sI_at, if_pos rfl, ← hs]
  exact u1
/-! IMAGES in the reference -/
def imgV (x1 : Int32) : Int32 := if rgB 0 2 x1 = true then 0 else -1
def IMf : List (Nat × Nat) := [(124, 0), (124, 1)]
theorem img25 {k g : Nat} (hk : k < 3) : ∀ (j i : Nat) (σ : AH), i + j = 269832 → ∃ τ, F_X12_image_25 (j + 1 + g) (nI k) (nI i) σ = some (0, sI (sI τ 127 k 1) 124 1 0) ∧ (∀ x, i ≤ x → x < 269832 → gI τ 126 (269832 * k + x) = gI σ 125 x) ∧ (∀ x, (x < 269832 * k + i ∨ 269832 * k + 269832 ≤ x) → gI τ 126 x = gI σ 126 x) ∧ Ch [126] [] σ τ := by
  intro j
  induction j with
  | zero =>
    intro i σ hi
    rw [show 0 + 1 + g = g + 1 by omega]
    refine ⟨σ, ?_, fun x h1 h2 => by omega, fun _ _ => rfl, Ch.rf _⟩
    show B_X12_image_25 (F_X12_image_25 g) (nI k) (nI i) σ = _
    unfold B_X12_image_25
    rw [if_pos (show (269832 : Int32) ≤ nI i from nI_le (a := 269832) (by omega) (by omega)), if_pos (inB_n hk (by decide)), nI_clamp (by omega), F_told, bd_some, if_pos (by decide)]
  | succ j ih =>
    intro i σ hi
    rw [show j + 1 + 1 + g = (j + 1 + g) + 1 by omega]
    have e : (269832 : Int32) * nI k + nI i = nI (269832 * k + i) := by rw [fa_lit 269832, pk_mul, nI_add]
    obtain ⟨s, hs⟩ : ∃ s, s = sI σ 126 (269832 * k + i) (gI σ 125 i) := ⟨_, rfl⟩
    have c : Ch [126] [] σ s := by rw [hs]; exact Ch.sI1 (Or.inr (by simp))
    obtain ⟨τ, t1, t2, t3, t4⟩ := ih (i + 1) s (by omega)
    have hk2 : 269832 * k ≤ 539664 := by omega
    refine ⟨τ, ?_, fun x h1 h2 => ?_, fun x hx => ?_, c.trans t4⟩
    · show B_X12_image_25 (F_X12_image_25 (j + 1 + g)) (nI k) (nI i) σ = _
      unfold B_X12_image_25
      rw [if_neg (show ¬ (269832 : Int32) ≤ nI i from nI_ge (b := 269832) (by omega) (by decide)), if_pos (inB_n (by omega) (by decide)), e, if_pos (inB_n (by omega) (by decide)), nI_clamp (by omega), nI_clamp (by omega), nI_1, ← hs, t1]
    · by_cases z : x = i
      · rw [z, t3 _ (by omega), hs, gI_sI_at]
      · rw [t2 x (by omega) h2, c.rI (by simp) (by simp)]
    · rw [t3 x (by omega), hs, gI_sI_ne (by omega)]
theorem P_image {x1 : Int32} {σ : AH} : ∃ τ, F_X12_image x1 σ = some (imgV x1, τ) ∧ gI τ 124 1 = ftV (imgV x1) ∧ (rgB 0 2 x1 = true → (∀ x, x < 269832 → gI τ 126 (269832 * cl x1 + x) = gI σ 125 x) ∧ (∀ x, (x < 269832 * cl x1 ∨ 269832 * cl x1 + 269832 ≤ x) → gI τ 126 x = gI σ 126 x) ∧ gI τ 127 (cl x1) = 1 ∧ ∀ x, x ≠ cl x1 → gI τ 127 x = gI σ 127 x) ∧ (rgB 0 2 x1 ≠ true → gI τ 126 = gI σ 126 ∧ gI τ 127 = gI σ 127) ∧ Ch [126, 127] IMf σ τ := by
  have i2 : F_X12_in x1.toInt64 (0 : Int64) (2 : Int64) (sI σ 124 0 0) = some (if rgB 0 2 x1 = true then 1 else 0, sI σ 124 0 0) := F_in (a := 0) (b := 2) (by decide) (by decide)
  unfold F_X12_image imgV
  rw [i2, bd_b (α := Int32)]
  by_cases c : rgB 0 2 x1 = true
  · rw [if_pos c, if_pos c]
    have xN : isN x1 3 := isN_r c (by decide) (by decide)
    have k3 := xN.2
    obtain ⟨g, hg⟩ := BIGe 269832 (by omega)
    obtain ⟨τ, t1, t2, t3, t4⟩ := img25 (g := g) k3 269832 0 (sI σ 124 0 0) (by omega)
    have t1' : F_X12_image_25 BIG x1 (0 : Int32) (sI σ 124 0 0) = some (0, sI (sI τ 127 (cl x1) 1) 124 1 0) := by rw [hg, xN.1]; exact t1.trans (by rw [show cl (nI (cl x1)) = cl x1 from nI_clamp (by omega)])
    refine ⟨_, t1', by rw [gI_sI_at]; rfl, fun _ => ⟨fun x hx => ?_, fun x hx => ?_, ?_, fun x hx => ?_⟩, fun z => absurd c z, ?_⟩
    · rw [gI_sI_row (by decide), gI_sI_row (by decide), t2 x (by omega) hx, gI_sI_row (by decide)]
    · rw [gI_sI_row (by decide), gI_sI_row (by decide), t3 x (by omega), gI_sI_row (by decide)]
    · rw [gI_sI_row (by decide), gI_sI_at]
    · rw [gI_sI_row (by decide), gI_sI_ne hx, t4.rI (by simp) (by simp), gI_sI_row (by decide)]
    · exact (((Ch.sI1 (Or.inl (by simp [IMf]))).trans (t4.mono (by simp) (by simp))).trans (Ch.sI1 (Or.inr (by simp)))).trans (Ch.sI1 (Or.inl (by simp [IMf])))
  · rw [if_neg c, if_neg c, F_told, bd_some, if_neg (by decide)]
    refine ⟨_, rfl, by rw [gI_sI_at]; rfl, fun z => absurd z c, fun _ => ⟨?_, ?_⟩, ?_⟩
    · rw [gI_sI_row (by decide), gI_sI_row (by decide)]
    · rw [gI_sI_row (by decide), gI_sI_row (by decide)]
    · exact (Ch.sI1 (Or.inl (by simp [IMf]))).trans (Ch.sI1 (Or.inl (by simp [IMf])))
def bckV (x1 : Int32) (kept : Bool) : Int32 := if rgB 0 2 x1 = true then (if kept = true then 0 else -2) else -1
def BKf : List (Nat × Nat) := [(124, 0), (124, 1), (124, 6), (124, 48)]
theorem bck41 {k g : Nat} (hk : k < 3) : ∀ (j i : Nat) (σ : AH), i + j = 269832 → ∃ τ, F_X12_back_41 (j + 1 + g) (nI k) (nI i) σ = some (0, sI (sI (sI τ 124 6 0) 124 48 0) 124 1 0) ∧ (∀ x, i ≤ x → x < 269832 → gI τ 125 x = gI σ 126 (269832 * k + x)) ∧ (∀ x, x < i → gI τ 125 x = gI σ 125 x) ∧ Ch [125] [] σ τ := by
  intro j
  induction j with
  | zero =>
    intro i σ hi
    rw [show 0 + 1 + g = g + 1 by omega]
    refine ⟨σ, ?_, fun x h1 h2 => by omega, fun _ _ => rfl, Ch.rf _⟩
    show B_X12_back_41 (F_X12_back_41 g) (nI k) (nI i) σ = _
    unfold B_X12_back_41
    rw [if_pos (show (269832 : Int32) ≤ nI i from nI_le (a := 269832) (by omega) (by omega)), F_told, bd_some, if_pos (by decide)]
  | succ j ih =>
    intro i σ hi
    rw [show j + 1 + 1 + g = (j + 1 + g) + 1 by omega]
    have e : (269832 : Int32) * nI k + nI i = nI (269832 * k + i) := by rw [fa_lit 269832, pk_mul, nI_add]
    obtain ⟨s, hs⟩ : ∃ s, s = sI σ 125 i (gI σ 126 (269832 * k + i)) := ⟨_, rfl⟩
    have c : Ch [125] [] σ s := by rw [hs]; exact Ch.sI1 (Or.inr (by simp))
    obtain ⟨τ, t1, t2, t3, t4⟩ := ih (i + 1) s (by omega)
    have hk2 : 269832 * k ≤ 539664 := by omega
    refine ⟨τ, ?_, fun x h1 h2 => ?_, fun x hx => ?_, c.trans t4⟩
    · show B_X12_back_41 (F_X12_back_41 (j + 1 + g)) (nI k) (nI i) σ = _
      unfold B_X12_back_41
      rw [if_neg (show ¬ (269832 : Int32) ≤ nI i from nI_ge (b := 269832) (by omega) (by decide)), e, if_pos (inB_n (by omega) (by decide)), if_pos (inB_n (by omega) (by decide)), nI_clamp (by omega), nI_clamp (by omega), nI_1, ← hs, t1]
    · by_cases z : x = i
      · rw [z, t3 _ (by omega), hs, gI_sI_at]
      · rw [t2 x (by omega) h2, c.rI (by simp) (by simp)]
    · rw [t3 x (by omega), hs, gI_sI_ne (by omega)]
theorem P_back {x1 : Int32} {σ : AH} : ∃ τ, F_X12_back x1 σ = some (bckV x1 (decide (gI σ 127 (cl x1) ≠ 0)), τ) ∧ gI τ 124 1 = ftV (bckV x1 (decide (gI σ 127 (cl x1) ≠ 0))) ∧ (bckV x1 (decide (gI σ 127 (cl x1) ≠ 0)) = 0 → (∀ x, x < 269832 → gI τ 125 x = gI σ 126 (269832 * cl x1 + x)) ∧ gI τ 124 6 = 0 ∧ gI τ 124 48 = 0) ∧ (bckV x1 (decide (gI σ 127 (cl x1) ≠ 0)) ≠ 0 → gI τ 125 = gI σ 125 ∧ gI τ 124 6 = gI σ 124 6 ∧ gI τ 124 48 = gI σ 124 48) ∧ Ch [125] BKf σ τ := by
  have i2 : F_X12_in x1.toInt64 (0 : Int64) (2 : Int64) (sI σ 124 0 0) = some (if rgB 0 2 x1 = true then 1 else 0, sI σ 124 0 0) := F_in (a := 0) (b := 2) (by decide) (by decide)
  have no : ∀ v : Int32, v < 0 → ∃ τ, (bd (F_X12_told v (sI σ 124 0 0)) fun a b => some (a, b)) = some (v, τ) ∧ gI τ 124 1 = ftV v ∧ (v = 0 → (∀ x, x < 269832 → gI τ 125 x = gI σ 126 (269832 * cl x1 + x)) ∧ gI τ 124 6 = 0 ∧ gI τ 124 48 = 0) ∧ (v ≠ 0 → gI τ 125 = gI σ 125 ∧ gI τ 124 6 = gI σ 124 6 ∧ gI τ 124 48 = gI σ 124 48) ∧ Ch [125] BKf σ τ := fun v hv => by
    rw [F_told, bd_some]
    refine ⟨_, rfl, gI_sI_at, fun z => absurd hv (by rw [z]; decide), fun _ => ⟨?_, ?_, ?_⟩, ?_⟩
    · rw [gI_sI_row (by decide), gI_sI_row (by decide)]
    · rw [gI_sI_ne (by decide), gI_sI_ne (by decide)]
    · rw [gI_sI_ne (by decide), gI_sI_ne (by decide)]
    · exact (Ch.sI1 (Or.inl (by simp [BKf]))).trans (Ch.sI1 (Or.inl (by simp [BKf])))
  unfold F_X12_back bckV
  rw [i2, bd_b (α := Int32)]
  by_cases c : rgB 0 2 x1 = true
  · rw [if_pos c, if_pos c]
    have xN : isN x1 3 := isN_r c (by decide) (by decide)
    have k3 := xN.2
    rw [if_pos (show inB x1 3 = true by rw [xN.1]; exact inB_n k3 (by decide))]
    have e7 : gI (sI σ 124 0 0) 127 x1.toNatClampNeg = gI σ 127 (cl x1) := by rw [gI_sI_row (by decide)]; rfl
    rw [e7]
    by_cases c2 : gI σ 127 (cl x1) = 0
    · rw [if_pos c2, if_neg (by simp [c2])]; exact no (-2) (by decide)
    · rw [if_neg c2, if_pos (by simp [c2])]
      obtain ⟨g, hg⟩ := BIGe 269832 (by omega)
      obtain ⟨τ, t1, t2, t3, t4⟩ := bck41 (g := g) k3 269832 0 (sI σ 124 0 0) (by omega)
      have t1' : F_X12_back_41 BIG x1 (0 : Int32) (sI σ 124 0 0) = some (0, sI (sI (sI τ 124 6 0) 124 48 0) 124 1 0) := by rw [hg, xN.1]; exact t1
      refine ⟨_, t1', by rw [gI_sI_at]; rfl, fun _ => ⟨fun x hx => ?_, ?_, ?_⟩, fun z => absurd rfl z, ?_⟩
      · rw [gI_sI_row (by decide), gI_sI_row (by decide), gI_sI_row (by decide), t2 x (by omega) hx, gI_sI_row (by decide)]
      · rw [gI_sI_ne (by decide), gI_sI_ne (by decide), gI_sI_at]
      · rw [gI_sI_ne (by decide), gI_sI_at]
      · exact ((((Ch.sI1 (Or.inl (by simp [BKf]))).trans (t4.mono (by simp) (by simp))).trans (Ch.sI1 (Or.inl (by simp [BKf])))).trans (Ch.sI1 (Or.inl (by simp [BKf])))).trans (Ch.sI1 (Or.inl (by simp [BKf])))
  · rw [if_neg c, if_neg c]; exact no (-1) (by decide)
end
