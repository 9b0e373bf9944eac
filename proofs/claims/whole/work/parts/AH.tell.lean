section
/-! target, claim, look are told -/
def tgOK (x1 x2 x3 : Int32) : Prop := (rgB 0 5 x1 = true ∧ rgB 0 19 x2 = true) ∧ rgB 0 10000 x3 = true
theorem in10000 {x : Int32} {σ : AH} : F_X12_in x.toInt64 (0 : Int64) (10000 : Int64) σ = some (if rgB 0 10000 x = true then 1 else 0, σ) := F_in (a := 0) (b := 10000) (by decide) (by decide)
theorem in1000 {x : Int32} {σ : AH} : F_X12_in x.toInt64 (0 : Int64) (1000 : Int64) σ = some (if rgB 0 1000 x = true then 1 else 0, σ) := F_in (a := 0) (b := 1000) (by decide) (by decide)
theorem in19 {x : Int32} {σ : AH} : F_X12_in x.toInt64 (0 : Int64) (19 : Int64) σ = some (if rgB 0 19 x = true then 1 else 0, σ) := F_in (a := 0) (b := 19) (by decide) (by decide)
theorem isIn10000 {x : Int32} {σ : AH} : F_X11_isIn x (0 : Int32) (10000 : Int32) σ = some (if rgB 0 10000 x = true then 1 else 0, σ) := F_isIn (a := 0) (b := 10000) (by decide) (by decide)
theorem isIn1000 {x : Int32} {σ : AH} : F_X11_isIn x (0 : Int32) (1000 : Int32) σ = some (if rgB 0 1000 x = true then 1 else 0, σ) := F_isIn (a := 0) (b := 1000) (by decide) (by decide)
def targetV (x1 x2 x3 : Int32) : Int32 := if rgB 0 5 x1 = true ∧ rgB 0 19 x2 = true then (if rgB 0 10000 x3 = true then 0 else -1) else -1
def targetR (row : Nat → Int32) (x1 x2 x3 : Int32) : Nat → Int32 := if rgB 0 5 x1 = true ∧ rgB 0 19 x2 = true then (if rgB 0 10000 x3 = true then va_up row (24592 + (20 * cl x1 + cl x2)) (x3 + 1) else row) else row
theorem P_target {row : Nat → Int32} {x1 x2 x3 : Int32} {σ : AH} (hr : gI σ 125 = row) : ∃ τ, F_X12_target x1 x2 x3 σ = some (targetV x1 x2 x3, τ) ∧ gI τ 125 = targetR row x1 x2 x3 ∧ gI τ 124 1 = ftV (targetV x1 x2 x3) ∧ Ch [125] [(124, 0), (124, 1)] σ τ := by
  unfold F_X12_target targetV targetR F_X12_target_25
  rw [F_isTarget, bd_b (α := Int32), in10000, bd_b (α := Int32)]
  have c0 : Ch [125] [(124, 0), (124, 1)] σ (sI σ 124 0 0) := Ch.sI1 (Or.inl (by simp))
  have bad : ∃ τ, (bd (F_X12_told (-1 : Int32) (sI σ 124 0 (0 : Int32))) fun v25 σ21 => some (v25, σ21)) = some ((-1 : Int32), τ) ∧ gI τ 125 = row ∧ gI τ 124 1 = ftV (-1) ∧ Ch [125] [(124, 0), (124, 1)] σ τ := by
    rw [told_e, bd_some]
    exact ⟨_, rfl, by rw [gI_sI_row (by decide), gI_sI_row (by decide)]; exact hr, gI_sI_at, c0.trans (Ch.sI1 (Or.inl (by simp)))⟩
  by_cases c1 : rgB 0 5 x1 = true ∧ rgB 0 19 x2 = true
  · rw [if_pos c1, if_pos c1, if_pos c1]
    by_cases c2 : rgB 0 10000 x3 = true
    · rw [if_pos c2, if_pos c2, if_pos c2]
      obtain ⟨e1, b1⟩ := rg0_n (b := 5) c1.1 (by decide)
      obtain ⟨e2, b2'⟩ := rg0_n (b := 19) c1.2 (by decide)
      have ix : (24592 : Int32) + (20 : Int32) * x1 + x2 = nI (24592 + (20 * cl x1 + cl x2)) := by
        have : (24592 : Int32) + (20 : Int32) * nI (cl x1) + nI (cl x2) = nI (24592 + (20 * cl x1 + cl x2)) := by
          simp only [fa_lit, nI_add, pk_mul]; rw [Nat.add_assoc]
        rw [← e1, ← e2] at this; exact this
      rw [ix, if_pos (inB_n (by omega) (by omega)), nI_clamp (by omega), told_e, bd_some]
      refine ⟨_, rfl, ?_, gI_sI_at, (c0.trans (Ch.sI1 (Or.inr (by simp)))).trans (Ch.sI1 (Or.inl (by simp)))⟩
      rw [gI_sI_row (by decide), gI_sI_own, gI_sI_row (by decide), hr]
    · rw [if_neg c2, if_neg c2, if_neg c2]; exact bad
  · rw [if_neg c1, if_neg c1, if_neg c1]; exact bad
theorem C_target {row : Nat → Int32} {x1 x2 x3 : Int32} {σ : AH} (hT : TgI row σ) : ∃ τ, F_X11_target x1 x2 x3 σ = some (targetV x1 x2 x3, τ) ∧ TgI (targetR row x1 x2 x3) τ ∧ gI τ 0 10 = ftV (targetV x1 x2 x3) ∧ Ch [19] [(0, 10)] σ τ := by
  unfold F_X11_target targetV targetR F_X11_target_19
  rw [F_isCQ, bd_b (α := Int32), isIn10000, bd_b (α := Int32)]
  have bad : ∃ τ, (bd (F_X11_answer (-1 : Int32) σ) fun v25 σ21 => some (v25, σ21)) = some ((-1 : Int32), τ) ∧ TgI row τ ∧ gI τ 0 10 = ftV (-1) ∧ Ch [19] [(0, 10)] σ τ := by
    rw [answer_e, bd_some]
    have k : Ch [] [(0, 10)] σ (sI σ 0 10 (ftV (-1))) := Ch.sI1 (Or.inl (by simp))
    exact ⟨_, rfl, hT.ch k (by simp) (by simp), gI_sI_at, k.mono (by simp) (by simp)⟩
  by_cases c1 : rgB 0 5 x1 = true ∧ rgB 0 19 x2 = true
  · rw [if_pos c1, if_pos c1, if_pos c1]
    by_cases c2 : rgB 0 10000 x3 = true
    · rw [if_pos c2, if_pos c2, if_pos c2]
      obtain ⟨e1, b1⟩ := rg0_n (b := 5) c1.1 (by decide)
      obtain ⟨e2, b2'⟩ := rg0_n (b := 19) c1.2 (by decide)
      have ix : x1 * (20 : Int32) + x2 = nI (20 * cl x1 + cl x2) := by
        have : nI (cl x1) * (20 : Int32) + nI (cl x2) = nI (20 * cl x1 + cl x2) := by simp only [fa_lit, nI_add, pk_mul]; rw [Nat.mul_comm]
        rw [← e1, ← e2] at this; exact this
      rw [ix, if_pos (inB_n (by omega) (by decide)), nI_clamp (by omega), answer_e, bd_some]
      obtain ⟨h1, ⟨h2, h3, h4⟩, h5, h6⟩ := hT
      refine ⟨_, rfl, ⟨h1, ⟨h2, h3, h4⟩, fun i hi => ?_, fun i hi => ?_⟩, gI_sI_at, (Ch.sI1 (Or.inr (by simp))).trans (Ch.sI1 (Or.inl (by simp)))⟩
      · rw [gI_sI_row (by decide)]
        by_cases e : i = 20 * cl x1 + cl x2
        · subst e; rw [gI_sI_at, up_same]
        · rw [gI_sI_ne e, up_ne _ _ _ (by omega)]; exact h5 i hi
      · rw [gI_sI_row (by decide), gI_sI_row (by decide), h6 i hi]
        unfold stW
        rw [up_ne _ _ _ (by omega), up_ne _ _ _ (by omega)]
    · rw [if_neg c2, if_neg c2, if_neg c2]; exact bad
  · rw [if_neg c1, if_neg c1, if_neg c1]; exact bad
/-! streets -/
def stOK (x1 x2 x3 x4 : Int32) : Bool := decide ((rgB 0 5 x1 = true ∧ rgB 0 19 x2 = true) ∧ rgB 0 19 x3 = true ∧ rgB 0 1000 x4 = true)
def streetV (x1 x2 x3 x4 : Int32) : Int32 := if stOK x1 x2 x3 x4 = true then 0 else -1
def stN_ (x1 x2 x3 : Int32) : Nat := (20 * cl x1 + cl x2) * 20 + cl x3
def streetR (row : Nat → Int32) (B : Nat) (x1 x2 x3 x4 : Int32) : Nat → Int32 := if stOK x1 x2 x3 x4 = true then va_up row (B + stN_ x1 x2 x3) (x4 + 1) else row
theorem P_street {row : Nat → Int32} {B : Nat} {x1 x2 x3 x4 : Int32} {σ : AH} (hB : B < 200000) (hr : gI σ 125 = row) : ∃ τ, F_X12_street (nI B) x1 x2 x3 x4 σ = some (streetV x1 x2 x3 x4, τ) ∧ gI τ 125 = streetR row B x1 x2 x3 x4 ∧ gI τ 124 1 = ftV (streetV x1 x2 x3 x4) ∧ Ch [125] [(124, 0), (124, 1)] σ τ := by
  unfold F_X12_street streetV streetR F_X12_street_39
  rw [F_isTarget, bd_b (α := Int32), in19, bd_b (α := Int32), in1000, bd_b (α := Int32)]
  have c0 : Ch [125] [(124, 0), (124, 1)] σ (sI σ 124 0 0) := Ch.sI1 (Or.inl (by simp))
  have bad : ∃ τ, (bd (F_X12_told (-1 : Int32) (sI σ 124 0 (0 : Int32))) fun v25 σ21 => some (v25, σ21)) = some ((-1 : Int32), τ) ∧ gI τ 125 = row ∧ gI τ 124 1 = ftV (-1) ∧ Ch [125] [(124, 0), (124, 1)] σ τ := by
    rw [told_e, bd_some]
    exact ⟨_, rfl, by rw [gI_sI_row (by decide), gI_sI_row (by decide)]; exact hr, gI_sI_at, c0.trans (Ch.sI1 (Or.inl (by simp)))⟩
  by_cases c1 : rgB 0 5 x1 = true ∧ rgB 0 19 x2 = true
  · rw [if_pos c1]
    by_cases c2 : rgB 0 19 x3 = true
    · rw [if_pos c2]
      by_cases c3 : rgB 0 1000 x4 = true
      · have ok : stOK x1 x2 x3 x4 = true := decide_eq_true ⟨c1, c2, c3⟩
        rw [if_pos c3, if_pos ok, if_pos ok]
        obtain ⟨e1, b1⟩ := rg0_n (b := 5) c1.1 (by decide)
        obtain ⟨e2, b2'⟩ := rg0_n (b := 19) c1.2 (by decide)
        obtain ⟨e3, b3⟩ := rg0_n (b := 19) c2 (by decide)
        have bn : stN_ x1 x2 x3 < 2400 := by unfold stN_; omega
        have ix : nI B + (((20 : Int32) * x1) + x2) * (20 : Int32) + x3 = nI (B + stN_ x1 x2 x3) := by
          have : nI B + (((20 : Int32) * nI (cl x1)) + nI (cl x2)) * (20 : Int32) + nI (cl x3) = nI (B + stN_ x1 x2 x3) := by
            unfold stN_
            simp only [fa_lit, nI_add, pk_mul]; rw [Nat.add_assoc]
          rw [← e1, ← e2, ← e3] at this; exact this
        rw [ix, if_pos (inB_n (by omega) (by omega)), nI_clamp (by omega), told_e, bd_some]
        refine ⟨_, rfl, ?_, gI_sI_at, (c0.trans (Ch.sI1 (Or.inr (by simp)))).trans (Ch.sI1 (Or.inl (by simp)))⟩
        rw [gI_sI_row (by decide), gI_sI_own, gI_sI_row (by decide), hr]
      · have ok : ¬ stOK x1 x2 x3 x4 = true := fun z => c3 (of_decide_eq_true z).2.2
        rw [if_neg c3, if_neg ok, if_neg ok]; exact bad
    · have ok : ¬ stOK x1 x2 x3 x4 = true := fun z => c2 (of_decide_eq_true z).2.1
      rw [if_neg c2, if_neg ok, if_neg ok]; exact bad
  · have ok : ¬ stOK x1 x2 x3 x4 = true := fun z => c1 (of_decide_eq_true z).1
    rw [if_neg c1, if_neg ok, if_neg ok]; exact bad
theorem or_lo {h l : Nat} (hl : l < 65536) (hh : h < 1002) : nI (65536 * h) ||| nI l = nI (l + 65536 * h) := by
  rw [fa_or]
  have := Nat.shiftLeft_add_eq_or_of_lt (i := 16) (b := l) (by omega) h
  rw [Nat.shiftLeft_eq] at this
  rw [Nat.mul_comm 65536 h, show h * 65536 = h * 2 ^ 16 from rfl, ← this, Nat.add_comm]
theorem and_hi {v : Nat} (hv : v < 2 ^ 31) : nI v &&& (-65536 : Int32) = nI (65536 * (v / 65536)) := by
  apply Int32.toBitVec_inj.1
  show BitVec.ofNat 32 v &&& (-65536 : Int32).toBitVec = BitVec.ofNat 32 (65536 * (v / 65536))
  apply BitVec.eq_of_getLsbD_eq
  intro i hi
  have e1 : (-65536 : Int32).toBitVec.getLsbD i = decide (16 ≤ i) := by
    have : ∀ j : Fin 32, (-65536 : Int32).toBitVec.getLsbD j.val = decide (16 ≤ j.val) := by decide +kernel
    exact this ⟨i, hi⟩
  rw [BitVec.getLsbD_and, e1, BitVec.getLsbD_ofNat, BitVec.getLsbD_ofNat]
  simp only [hi, decide_true, Bool.true_and]
  have e2 : 65536 * (v / 65536) = (v >>> 16) <<< 16 := by
    rw [Nat.shiftLeft_eq, Nat.shiftRight_eq_div_pow, Nat.mul_comm]
  rw [e2, Nat.testBit_shiftLeft, Nat.testBit_shiftRight]
  by_cases c : 16 ≤ i
  · rw [decide_eq_true c, show 16 + (i - 16) = i by omega, Bool.and_true, Bool.true_and]
  · rw [decide_eq_false c, Bool.and_false, Bool.false_and]
theorem C_claim {row : Nat → Int32} {x1 x2 x3 x4 : Int32} {σ : AH} (hV : TV row) (hT : TgI row σ) : ∃ τ, F_X11_claim x1 x2 x3 x4 σ = some (streetV x1 x2 x3 x4, τ) ∧ TgI (streetR row 24712 x1 x2 x3 x4) τ ∧ gI τ 0 10 = ftV (streetV x1 x2 x3 x4) ∧ Ch [20] [(0, 10)] σ τ := by
  unfold F_X11_claim streetV streetR F_X11_claim_30
  rw [F_isCQ, bd_b (α := Int32), isIn019, bd_b (α := Int32), isIn1000, bd_b (α := Int32)]
  have bad : ∃ τ, (bd (F_X11_answer (-1 : Int32) σ) fun v25 σ21 => some (v25, σ21)) = some ((-1 : Int32), τ) ∧ TgI row τ ∧ gI τ 0 10 = ftV (-1) ∧ Ch [20] [(0, 10)] σ τ := by
    rw [answer_e, bd_some]
    have k : Ch [] [(0, 10)] σ (sI σ 0 10 (ftV (-1))) := Ch.sI1 (Or.inl (by simp))
    exact ⟨_, rfl, hT.ch k (by simp) (by simp), gI_sI_at, k.mono (by simp) (by simp)⟩
  by_cases c1 : rgB 0 5 x1 = true ∧ rgB 0 19 x2 = true
  · rw [if_pos c1]
    by_cases c2 : rgB 0 19 x3 = true
    · rw [if_pos c2]
      by_cases c3 : rgB 0 1000 x4 = true
      · have ok : stOK x1 x2 x3 x4 = true := decide_eq_true ⟨c1, c2, c3⟩
        rw [if_pos c3, if_pos ok, if_pos ok]
        obtain ⟨e1, b1⟩ := rg0_n (b := 5) c1.1 (by decide)
        obtain ⟨e2, b2'⟩ := rg0_n (b := 19) c1.2 (by decide)
        obtain ⟨e3, b3⟩ := rg0_n (b := 19) c2 (by decide)
        obtain ⟨e4, b4⟩ := rg0_n (b := 1000) c3 (by decide)
        obtain ⟨i, hi⟩ : ∃ i, i = stN_ x1 x2 x3 := ⟨_, rfl⟩
        have bn : i < 2400 := by rw [hi]; unfold stN_; omega
        have ix : ((x1 * (20 : Int32)) + x2) * (20 : Int32) + x3 = nI i := by
          have : ((nI (cl x1) * (20 : Int32)) + nI (cl x2)) * (20 : Int32) + nI (cl x3) = nI i := by
            rw [hi]; unfold stN_
            simp only [fa_lit, nI_add, pk_mul]; rw [Nat.mul_comm (cl x1)]
          rw [← e1, ← e2, ← e3] at this; exact this
        rw [ix, ← hi]
        obtain ⟨⟨h1, h1'⟩, ⟨h2, h3, h4⟩, h5, h6⟩ := hT
        obtain ⟨v1, v2⟩ := hV.2 i bn
        have l1 := v1.2
        have l2 := v2.2
        have sl : stW row i < 2 ^ 31 := by unfold stW; omega
        have sd : stW row i / 65536 = cl (row (27112 + i)) := by unfold stW; omega
        unfold F_X9_tellClaimed
        rw [if_pos h1, if_pos h1', h2, bo_some, if_pos ⟨by rw [h3], h4⟩, bo_some, if_pos ⟨by rw [h3], h4⟩, h3, if_pos (inB_n (show i < (100, 2400).2 from bn) (by decide)), if_pos (by decide +kernel), if_pos (inB_n (show i < (100, 2400).2 from bn) (by decide)), nI_clamp (by omega), h6 i bn, and_hi sl, sd, bv_some, answer_e, bd_some]
        have eo : nI (65536 * cl (row (27112 + i))) ||| x4 = nI (cl x4 + 65536 * cl (row (27112 + i))) := by
          have := or_lo (h := cl (row (27112 + i))) (l := cl x4) (by omega) l2
          rw [← e4] at this; exact this
        rw [eo]
        refine ⟨_, rfl, ⟨⟨h1, h1'⟩, ⟨h2, h3, h4⟩, fun j hj => ?_, fun j hj => ?_⟩, gI_sI_at, (Ch.sI1 (Or.inr (by simp))).trans (Ch.sI1 (Or.inl (by simp)))⟩
        · rw [gI_sI_row (by decide), gI_sI_row (by decide), up_ne _ _ _ (by omega)]; exact h5 j hj
        · rw [gI_sI_row (by decide)]
          by_cases e : j = i
          · subst e
            rw [gI_sI_at]
            unfold stW
            rw [up_same, up_ne _ _ _ (by omega)]
            have c5 : cl (x4 + 1) = cl x4 + 1 := by
              have : x4 + 1 = nI (cl x4 + 1) := by
                have := nI_1 (cl x4)
                rw [← e4] at this; exact this
              rw [this]; exact nI_clamp (by omega)
            rw [c5, Nat.add_sub_cancel]
          · rw [gI_sI_ne e, h6 j hj]
            unfold stW
            rw [up_ne _ _ _ (by omega), up_ne _ _ _ (by omega)]
      · have ok : ¬ stOK x1 x2 x3 x4 = true := fun z => c3 (of_decide_eq_true z).2.2
        rw [if_neg c3, if_neg ok, if_neg ok]; exact bad
    · have ok : ¬ stOK x1 x2 x3 x4 = true := fun z => c2 (of_decide_eq_true z).2.1
      rw [if_neg c2, if_neg ok, if_neg ok]; exact bad
  · have ok : ¬ stOK x1 x2 x3 x4 = true := fun z => c1 (of_decide_eq_true z).1
    rw [if_neg c1, if_neg ok, if_neg ok]; exact bad
theorem C_look {row : Nat → Int32} {x1 x2 x3 x4 : Int32} {σ : AH} (hV : TV row) (hT : TgI row σ) : ∃ τ, F_X11_look x1 x2 x3 x4 σ = some (streetV x1 x2 x3 x4, τ) ∧ TgI (streetR row 27112 x1 x2 x3 x4) τ ∧ gI τ 0 10 = ftV (streetV x1 x2 x3 x4) ∧ Ch [20] [(0, 10)] σ τ := by
  unfold F_X11_look streetV streetR F_X11_look_30
  rw [F_isCQ, bd_b (α := Int32), isIn019, bd_b (α := Int32), isIn1000, bd_b (α := Int32)]
  have bad : ∃ τ, (bd (F_X11_answer (-1 : Int32) σ) fun v25 σ21 => some (v25, σ21)) = some ((-1 : Int32), τ) ∧ TgI row τ ∧ gI τ 0 10 = ftV (-1) ∧ Ch [20] [(0, 10)] σ τ := by
    rw [answer_e, bd_some]
    have k : Ch [] [(0, 10)] σ (sI σ 0 10 (ftV (-1))) := Ch.sI1 (Or.inl (by simp))
    exact ⟨_, rfl, hT.ch k (by simp) (by simp), gI_sI_at, k.mono (by simp) (by simp)⟩
  by_cases c1 : rgB 0 5 x1 = true ∧ rgB 0 19 x2 = true
  · rw [if_pos c1]
    by_cases c2 : rgB 0 19 x3 = true
    · rw [if_pos c2]
      by_cases c3 : rgB 0 1000 x4 = true
      · have ok : stOK x1 x2 x3 x4 = true := decide_eq_true ⟨c1, c2, c3⟩
        rw [if_pos c3, if_pos ok, if_pos ok]
        obtain ⟨e1, b1⟩ := rg0_n (b := 5) c1.1 (by decide)
        obtain ⟨e2, b2'⟩ := rg0_n (b := 19) c1.2 (by decide)
        obtain ⟨e3, b3⟩ := rg0_n (b := 19) c2 (by decide)
        obtain ⟨e4, b4⟩ := rg0_n (b := 1000) c3 (by decide)
        obtain ⟨i, hi⟩ : ∃ i, i = stN_ x1 x2 x3 := ⟨_, rfl⟩
        have bn : i < 2400 := by rw [hi]; unfold stN_; omega
        have ix : ((x1 * (20 : Int32)) + x2) * (20 : Int32) + x3 = nI i := by
          have : ((nI (cl x1) * (20 : Int32)) + nI (cl x2)) * (20 : Int32) + nI (cl x3) = nI i := by
            rw [hi]; unfold stN_
            simp only [fa_lit, nI_add, pk_mul]; rw [Nat.mul_comm (cl x1)]
          rw [← e1, ← e2, ← e3] at this; exact this
        rw [ix, ← hi]
        obtain ⟨⟨h1, h1'⟩, ⟨h2, h3, h4⟩, h5, h6⟩ := hT
        obtain ⟨v1, v2⟩ := hV.2 i bn
        have l1 := v1.2
        have l2 := v2.2
        have sl : stW row i < 2 ^ 32 := by unfold stW; omega
        have sd : stW row i % 2 ^ 16 = cl (row (24712 + i)) - 1 := by unfold stW; omega
        have x5 : x4 + (1 : Int32) = nI (cl x4 + 1) := by
          have := nI_1 (cl x4)
          rw [← e4] at this; exact this
        have sh : nI (cl x4 + 1) <<< ((16 : Int32) &&& 31) = nI ((cl x4 + 1) * 65536) := pk_shlN (n := cl x4 + 1) _ 16 (by decide) (by omega)
        unfold F_X9_tellSeen
        rw [if_pos h1, if_pos h1', h2, bo_some, if_pos ⟨by rw [h3], h4⟩, bo_some, if_pos ⟨by rw [h3], h4⟩, h3, if_pos (inB_n (show i < (100, 2400).2 from bn) (by decide)), if_pos (by decide +kernel), if_pos (inB_n (show i < (100, 2400).2 from bn) (by decide)), nI_clamp (by omega), h6 i bn, pk_andN sl 16 (by decide), sd, x5, sh, bv_some, answer_e, bd_some]
        have eo : nI (cl (row (24712 + i)) - 1) ||| nI ((cl x4 + 1) * 65536) = nI ((cl (row (24712 + i)) - 1) + 65536 * (cl x4 + 1)) := by
          have := or_lo (h := cl x4 + 1) (l := cl (row (24712 + i)) - 1) (by omega) (by omega)
          rw [← this, fa_or, fa_or, Nat.or_comm, Nat.mul_comm 65536]
        rw [eo]
        refine ⟨_, rfl, ⟨⟨h1, h1'⟩, ⟨h2, h3, h4⟩, fun j hj => ?_, fun j hj => ?_⟩, gI_sI_at, (Ch.sI1 (Or.inr (by simp))).trans (Ch.sI1 (Or.inl (by simp)))⟩
        · rw [gI_sI_row (by decide), gI_sI_row (by decide), up_ne _ _ _ (by omega)]; exact h5 j hj
        · rw [gI_sI_row (by decide)]
          by_cases e : j = i
          · subst e
            rw [gI_sI_at]
            unfold stW
            rw [up_same, up_ne _ _ _ (by omega), show cl (nI (cl x4 + 1)) = cl x4 + 1 from nI_clamp (by omega)]
          · rw [gI_sI_ne e, h6 j hj]
            unfold stW
            rw [up_ne _ _ _ (by omega), up_ne _ _ _ (by omega)]
      · have ok : ¬ stOK x1 x2 x3 x4 = true := fun z => c3 (of_decide_eq_true z).2.2
        rw [if_neg c3, if_neg ok, if_neg ok]; exact bad
    · have ok : ¬ stOK x1 x2 x3 x4 = true := fun z => c2 (of_decide_eq_true z).2.1
      rw [if_neg c2, if_neg ok, if_neg ok]; exact bad
  · have ok : ¬ stOK x1 x2 x3 x4 = true := fun z => c1 (of_decide_eq_true z).1
    rw [if_neg c1, if_neg ok, if_neg ok]; exact bad
end
