section
/-! the TAPE, and small answers -/
def TpC (L : Nat) (tp : Nat → Int32) (σ : AH) : Prop := gI σ 22 1 = nI L ∧ L ≤ 400 ∧ ∀ i, i < L → gI σ 23 i = tp i
def TpR (L : Nat) (tp : Nat → Int32) (σ : AH) : Prop := gI σ 124 6 = nI L ∧ L ≤ 400 ∧ ∀ i, i < L → gI σ 128 i = tp i
def by_ (x k : Int32) : Int32 := (x >>> (k &&& 31)) &&& (255 : Int32)
def tpW (tp : Nat → Int32) (L : Nat) (x : Int32) : Nat → Int32 := va_up (va_up (va_up (va_up tp L (by_ x 24)) (L + 1) (by_ x 16)) (L + 2) (by_ x 8)) (L + 3) (by_ x 0)
theorem TpC.ch {L : Nat} {tp : Nat → Int32} {σ τ : AH} {cs : List Nat} {fs : List (Nat × Nat)} (h : TpC L tp σ) (c : Ch cs fs σ τ) (h1 : 22 ∉ cs ∧ 23 ∉ cs) (h2 : ∀ q ∈ fs, q ≠ (22, 1) ∧ q.1 ≠ 23) : TpC L tp τ :=
  ⟨by rw [c.pI h1.1 (fun z => (h2 _ z).1 rfl)]; exact h.1, h.2.1, fun i hi => by rw [c.rI h1.2 (fun q hq => (h2 q hq).2)]; exact h.2.2 i hi⟩
theorem TpR.ch {L : Nat} {tp : Nat → Int32} {σ τ : AH} {cs : List Nat} {fs : List (Nat × Nat)} (h : TpR L tp σ) (c : Ch cs fs σ τ) (h1 : 124 ∉ cs ∧ 128 ∉ cs) (h2 : ∀ q ∈ fs, q ≠ (124, 6) ∧ q.1 ≠ 128) : TpR L tp τ :=
  ⟨by rw [c.pI h1.1 (fun z => (h2 _ z).1 rfl)]; exact h.1, h.2.1, fun i hi => by rw [c.rI h1.2 (fun q hq => (h2 q hq).2)]; exact h.2.2 i hi⟩
theorem wrC {K : Int32 → Int32 → AH → Option AH} {L : Nat} {tp : Nat → Int32} {x k : Int32} {σ : AH} (h : TpC L tp σ) (hL : L < 400) (hk : ¬ k < 0) : ∃ τ, B_X5_write_3 K x k σ = K x (k + (-8)) τ ∧ TpC (L + 1) (va_up tp L (by_ x k)) τ ∧ Ch [23] [(22, 1)] σ τ := by
  obtain ⟨h1, h2, h3⟩ := h
  unfold B_X5_write_3
  rw [if_neg hk, h1, if_neg (show ¬ (400 : Int32) ≤ nI L from nI_ge (b := 400) hL (by decide)), if_pos (inB_n hL (by decide)), lt_e, nI_clamp (by omega), gI_sI_row (o := 23) (a := 22) (by decide), h1, nI_1]
  refine ⟨_, rfl, ⟨gI_sI_at, by omega, fun i hi => ?_⟩, (Ch.sI1 (Or.inr (by simp))).trans (Ch.sI1 (Or.inl (by simp)))⟩
  rw [gI_sI_row (by decide), gI_sI_own]
  by_cases e : i = L
  · rw [e, up_same, up_same]; rfl
  · rw [up_ne _ _ _ e, up_ne _ _ _ e]; exact h3 i (by omega)
theorem wrR {K : Int32 → Int32 → AH → Option AH} {L : Nat} {tp : Nat → Int32} {x k : Int32} {σ : AH} (h : TpR L tp σ) (hL : L < 400) (hk : ¬ k < 0) : ∃ τ, B_X12_four_3 K x k σ = K x (k + (-8)) τ ∧ TpR (L + 1) (va_up tp L (by_ x k)) τ ∧ Ch [128] [(124, 6)] σ τ := by
  obtain ⟨h1, h2, h3⟩ := h
  unfold B_X12_four_3
  rw [if_neg hk, h1, if_pos (inB_n hL (by decide)), lt_e, nI_clamp (by omega), gI_sI_row (o := 128) (a := 124) (by decide), h1, nI_1]
  refine ⟨_, rfl, ⟨gI_sI_at, by omega, fun i hi => ?_⟩, (Ch.sI1 (Or.inr (by simp))).trans (Ch.sI1 (Or.inl (by simp)))⟩
  rw [gI_sI_row (by decide), gI_sI_own]
  by_cases e : i = L
  · rw [e, up_same, up_same]; rfl
  · rw [up_ne _ _ _ e, up_ne _ _ _ e]; exact h3 i (by omega)
theorem F_write {L : Nat} {tp : Nat → Int32} {x : Int32} {σ : AH} (h : TpC L tp σ) (hL : L + 4 ≤ 400) : ∃ τ, F_X5_write x σ = some τ ∧ TpC (L + 4) (tpW tp L x) τ ∧ Ch [23] [(22, 1)] σ τ := by
  unfold F_X5_write
  obtain ⟨g, hg⟩ := BIGe 4 (by decide)
  rw [hg, show 4 + 1 + g = (g + 4) + 1 by omega]
  obtain ⟨s1, a1, b1, c1⟩ := wrC (K := F_X5_write_3 (g + 4)) (x := x) (k := 24) h (by omega) (by decide)
  obtain ⟨s2, a2, b2', c2⟩ := wrC (K := F_X5_write_3 (g + 3)) (x := x) (k := 16) b1 (by omega) (by decide)
  obtain ⟨s3, a3, b3, c3⟩ := wrC (K := F_X5_write_3 (g + 2)) (x := x) (k := 8) b2' (by omega) (by decide)
  obtain ⟨s4, a4, b4, c4⟩ := wrC (K := F_X5_write_3 (g + 1)) (x := x) (k := 0) b3 (by omega) (by decide)
  have e1 : F_X5_write_3 ((g + 4) + 1) x 24 σ = F_X5_write_3 (g + 4) x 16 s1 := a1
  have e2 : F_X5_write_3 (g + 4) x 16 s1 = F_X5_write_3 (g + 3) x 8 s2 := a2
  have e3 : F_X5_write_3 (g + 3) x 8 s2 = F_X5_write_3 (g + 2) x 0 s3 := a3
  have e4 : F_X5_write_3 (g + 2) x 0 s3 = F_X5_write_3 (g + 1) x (-8) s4 := a4
  have e5 : F_X5_write_3 (g + 1) x (-8) s4 = some s4 := by
    show B_X5_write_3 (F_X5_write_3 g) x (-8) s4 = some s4
    unfold B_X5_write_3
    rw [if_pos (by decide)]
  rw [e1, e2, e3, e4, e5]
  exact ⟨s4, rfl, b4, ((c1.trans c2).trans c3).trans c4⟩
theorem F_fourR {L : Nat} {tp : Nat → Int32} {x : Int32} {σ : AH} (h : TpR L tp σ) (hL : L + 4 ≤ 400) : ∃ τ, F_X12_four x σ = some τ ∧ TpR (L + 4) (tpW tp L x) τ ∧ Ch [128] [(124, 6)] σ τ := by
  unfold F_X12_four
  obtain ⟨g, hg⟩ := BIGe 4 (by decide)
  rw [hg, show 4 + 1 + g = (g + 4) + 1 by omega]
  obtain ⟨s1, a1, b1, c1⟩ := wrR (K := F_X12_four_3 (g + 4)) (x := x) (k := 24) h (by omega) (by decide)
  obtain ⟨s2, a2, b2', c2⟩ := wrR (K := F_X12_four_3 (g + 3)) (x := x) (k := 16) b1 (by omega) (by decide)
  obtain ⟨s3, a3, b3, c3⟩ := wrR (K := F_X12_four_3 (g + 2)) (x := x) (k := 8) b2' (by omega) (by decide)
  obtain ⟨s4, a4, b4, c4⟩ := wrR (K := F_X12_four_3 (g + 1)) (x := x) (k := 0) b3 (by omega) (by decide)
  have e1 : F_X12_four_3 ((g + 4) + 1) x 24 σ = F_X12_four_3 (g + 4) x 16 s1 := a1
  have e2 : F_X12_four_3 (g + 4) x 16 s1 = F_X12_four_3 (g + 3) x 8 s2 := a2
  have e3 : F_X12_four_3 (g + 3) x 8 s2 = F_X12_four_3 (g + 2) x 0 s3 := a3
  have e4 : F_X12_four_3 (g + 2) x 0 s3 = F_X12_four_3 (g + 1) x (-8) s4 := a4
  have e5 : F_X12_four_3 (g + 1) x (-8) s4 = some s4 := by
    show B_X12_four_3 (F_X12_four_3 g) x (-8) s4 = some s4
    unfold B_X12_four_3
    rw [if_pos (by decide)]
  rw [e1, e2, e3, e4, e5]
  exact ⟨s4, rfl, b4, ((c1.trans c2).trans c3).trans c4⟩
def feedV (L : Nat) : Int32 := if L ≤ 380 then nI (L + 20) else -1
def feedL (L : Nat) : Nat := if L ≤ 380 then L + 20 else L
def feedT (L : Nat) (tp : Nat → Int32) (x1 x2 x3 x4 x5 : Int32) : Nat → Int32 := if L ≤ 380 then tpW (tpW (tpW (tpW (tpW tp L x1) (L + 4) x2) (L + 8) x3) (L + 12) x4) (L + 16) x5 else tp
theorem C_feed {L : Nat} {tp : Nat → Int32} {x1 x2 x3 x4 x5 : Int32} {σ : AH} (h : TpC L tp σ) : ∃ τ, F_X11_feed x1 x2 x3 x4 x5 σ = some (feedV L, τ) ∧ TpC (feedL L) (feedT L tp x1 x2 x3 x4 x5) τ ∧ Ch [23] [(22, 1)] σ τ := by
  have h4 := h.2.1
  unfold F_X11_feed F_X5_hasRoom feedV feedL feedT
  rw [h.1, fa_lit 20, nI_add]
  by_cases c : L ≤ 380
  · rw [if_neg (show ¬ (400 : Int32) < nI (L + 20) from fun z => by
      rw [Int32.lt_iff_toInt_lt, nI_toInt (by omega)] at z
      have : (400 : Int32).toInt = 400 := by decide
      omega), bd_some, if_neg (show ¬ (1 : Int32) = 0 by decide), if_pos c, if_pos c, if_pos c]
    obtain ⟨s1, a1, b1, c1⟩ := F_write (x := x1) h (by omega)
    obtain ⟨s2, a2, b2', c2⟩ := F_write (x := x2) b1 (by omega)
    obtain ⟨s3, a3, b3, c3⟩ := F_write (x := x3) b2' (by omega)
    obtain ⟨s4, a4, b4, c4⟩ := F_write (x := x4) b3 (by omega)
    obtain ⟨s5, a5, b5, c5⟩ := F_write (x := x5) b4 (by omega)
    rw [a1, bv_some, a2, bv_some, a3, bv_some, a4, bv_some, a5, bv_some]
    exact ⟨s5, by rw [b5.1], b5, (((c1.trans c2).trans c3).trans c4).trans c5⟩
  · rw [if_pos (show (400 : Int32) < nI (L + 20) from nI_lt (a := 400) (by omega) (by omega)), bd_some, if_pos rfl, if_neg c, if_neg c, if_neg c]
    exact ⟨σ, rfl, h, Ch.rf _⟩
theorem P_feed {L : Nat} {tp : Nat → Int32} {x1 x2 x3 x4 x5 : Int32} {σ : AH} (h : TpR L tp σ) : ∃ τ, F_X12_feed x1 x2 x3 x4 x5 σ = some (feedV L, τ) ∧ TpR (feedL L) (feedT L tp x1 x2 x3 x4 x5) τ ∧ Ch [128] [(124, 0), (124, 6)] σ τ := by
  have h4 := h.2.1
  have c0 : Ch [128] [(124, 0), (124, 6)] σ (sI σ 124 0 0) := Ch.sI1 (Or.inl (by simp))
  have h0 : TpR L tp (sI σ 124 0 0) := ⟨by rw [gI_sI_ne (by decide)]; exact h.1, h.2.1, fun i hi => by rw [gI_sI_row (by decide)]; exact h.2.2 i hi⟩
  unfold F_X12_feed feedV feedL feedT
  rw [h0.1, fa_lit 20, nI_add]
  by_cases c : L ≤ 380
  · rw [if_pos (show nI (L + 20) ≤ (400 : Int32) from nI_le (b := 400) (by omega) (by decide)), if_pos c, if_pos c, if_pos c]
    obtain ⟨s1, a1, b1, c1⟩ := F_fourR (x := x1) h0 (by omega)
    obtain ⟨s2, a2, b2', c2⟩ := F_fourR (x := x2) b1 (by omega)
    obtain ⟨s3, a3, b3, c3⟩ := F_fourR (x := x3) b2' (by omega)
    obtain ⟨s4, a4, b4, c4⟩ := F_fourR (x := x4) b3 (by omega)
    obtain ⟨s5, a5, b5, c5⟩ := F_fourR (x := x5) b4 (by omega)
    rw [a1, bv_some, a2, bv_some, a3, bv_some, a4, bv_some, a5, bv_some]
    exact ⟨s5, by rw [b5.1], b5, c0.trans (((((c1.trans c2).trans c3).trans c4).trans c5).mono (by simp) (by simp))⟩
  · rw [if_neg (show ¬ nI (L + 20) ≤ (400 : Int32) from nI_ge (a := 400) (by omega) (by omega)), if_neg c, if_neg c, if_neg c]
    exact ⟨_, rfl, h0, c0⟩
def endV (L : Nat) (x : Int32) : Int32 := if x < 0 then -1 else if x ≤ nI L then x else -1
def endL (L : Nat) (x : Int32) : Nat := if x < 0 then L else if x ≤ nI L then cl x else L
theorem end_n {L : Nat} {x : Int32} (h4 : L ≤ 400) (h1 : ¬ x < 0) (h2 : x ≤ nI L) : x = nI (cl x) ∧ cl x ≤ L := by
  rw [Int32.lt_iff_toInt_lt] at h1
  rw [Int32.le_iff_toInt_le, nI_toInt (by omega)] at h2
  have z : (0 : Int32).toInt = 0 := by decide
  obtain ⟨j, j1, j2, j3⟩ := rg_nI (a := 0) (b := L) (x := x) ⟨by omega, by omega⟩ (by omega)
  rw [j3, show cl (nI j) = j from nI_clamp (by omega)]
  exact ⟨rfl, j2⟩
theorem C_end {L : Nat} {tp : Nat → Int32} {x : Int32} {σ : AH} (h : TpC L tp σ) : ∃ τ, F_X11_end x σ = some (endV L x, τ) ∧ TpC (endL L x) tp τ ∧ Ch [] [(22, 1)] σ τ := by
  unfold F_X11_end endV endL
  rw [h.1]
  by_cases c1 : x < 0
  · rw [if_pos c1, if_pos c1, if_pos c1]; exact ⟨σ, rfl, h, Ch.rf _⟩
  · rw [if_neg c1, if_neg c1, if_neg c1]
    by_cases c2 : x ≤ nI L
    · obtain ⟨e1, e2⟩ := end_n h.2.1 c1 c2
      have := h.2.1
      rw [if_pos c2, if_pos c2, if_pos c2]
      refine ⟨_, rfl, ⟨by rw [gI_sI_at]; exact e1, by omega, fun i hi => ?_⟩, Ch.sI1 (Or.inl (by simp))⟩
      rw [gI_sI_row (by decide)]; exact h.2.2 i (by omega)
    · rw [if_neg c2, if_neg c2, if_neg c2]; exact ⟨σ, rfl, h, Ch.rf _⟩
theorem P_end {L : Nat} {tp : Nat → Int32} {x : Int32} {σ : AH} (h : TpR L tp σ) : ∃ τ, F_X12_end x σ = some (endV L x, τ) ∧ TpR (endL L x) tp τ ∧ Ch [] [(124, 0), (124, 6)] σ τ := by
  have c0 : Ch [] [(124, 0), (124, 6)] σ (sI σ 124 0 0) := Ch.sI1 (Or.inl (by simp))
  have h0 : TpR L tp (sI σ 124 0 0) := ⟨by rw [gI_sI_ne (by decide)]; exact h.1, h.2.1, fun i hi => by rw [gI_sI_row (by decide)]; exact h.2.2 i hi⟩
  unfold F_X12_end endV endL
  rw [h0.1]
  by_cases c1 : x < 0
  · rw [if_pos c1, if_pos c1, if_pos c1]; exact ⟨_, rfl, h0, c0⟩
  · rw [if_neg c1, if_neg c1, if_neg c1]
    by_cases c2 : x ≤ nI L
    · obtain ⟨e1, e2⟩ := end_n h.2.1 c1 c2
      have := h.2.1
      rw [if_pos c2, if_pos c2, if_pos c2]
      refine ⟨_, rfl, ⟨by rw [gI_sI_at]; exact e1, by omega, fun i hi => ?_⟩, c0.trans (Ch.sI1 (Or.inl (by simp)))⟩
      rw [gI_sI_row (by decide)]; exact h0.2.2 i (by omega)
    · rw [if_neg c2, if_neg c2, if_neg c2]; exact ⟨_, rfl, h0, c0⟩
def countV (row : Nat → Int32) (n L : Nat) (x : Int32) : Int32 := if x = 0 then row 0 else if x = 1 then row 1 else if x = 2 then row 2 else if x = 3 then row 4 else if x = 4 then row 5 else if x = 5 then nI n else if x = 6 then row 6 else if x = 7 then row 11 else if x = 8 then row 8 else if x = 9 then nI L else -1
theorem C_count {row : Nat → Int32} {n L : Nat} {wi : Nat → Nat} {tp : Nat → Int32} {x : Int32} {σ : AH} (hA : AV row) (hB : BV row) (hE : EV row) (hT : TbB row σ) (hTE : TbE row σ) (h1 : gI σ 1 1 = nI (nA row)) (hw : CwI n wi σ) (h13 : gI σ 1 13 = row 11) (h14 : gI σ 1 14 = row 8) (hp : TpC L tp σ) : F_X11_count x σ = some (countV row n L x, σ) := by
  have rE : F_X8_rows 13 σ = some (nI (nE row), σ) := F_rows hTE
  unfold F_X11_count countV
  rw [rows_d hT, bd_some, rows_w hT, bd_some, rows_p hT, bd_some, rows_s hT, bd_some, rE, bd_some, h1, hw.1, h13, h14, hp.1, ← hA.1, ← hB.d.1, ← hB.w.1, ← hB.p.1, ← hB.s.1, ← hE.n.1]
  by_cases c0 : x = 0
  · rw [if_pos c0, if_pos c0]
  rw [if_neg c0, if_neg c0]
  by_cases c1 : x = 1
  · rw [if_pos c1, if_pos c1]
  rw [if_neg c1, if_neg c1]
  by_cases c2 : x = 2
  · rw [if_pos c2, if_pos c2]
  rw [if_neg c2, if_neg c2]
  by_cases c3 : x = 3
  · rw [if_pos c3, if_pos c3]
  rw [if_neg c3, if_neg c3]
  by_cases c4 : x = 4
  · rw [if_pos c4, if_pos c4]
  rw [if_neg c4, if_neg c4]
  by_cases c5 : x = 5
  · rw [if_pos c5, if_pos c5]
  rw [if_neg c5, if_neg c5]
  by_cases c6 : x = 6
  · rw [if_pos c6, if_pos c6]
  rw [if_neg c6, if_neg c6]
  by_cases c7 : x = 7
  · rw [if_pos c7, if_pos c7]
  rw [if_neg c7, if_neg c7]
  by_cases c8 : x = 8
  · rw [if_pos c8, if_pos c8]
  rw [if_neg c8, if_neg c8]
  by_cases c9 : x = 9
  · rw [if_pos c9, if_pos c9]
  rw [if_neg c9, if_neg c9]
theorem P_count {row : Nat → Int32} {n L : Nat} {wi : Nat → Nat} {tp : Nat → Int32} {x : Int32} {σ : AH} (hr : gI σ 125 = row) (hw : WsI n wi σ) (hp : TpR L tp σ) : F_X12_count x σ = some (countV row n L x, sI σ 124 0 0) := by
  have hr0 : gI (sI σ 124 0 0) 125 = row := by rw [gI_sI_row (by decide)]; exact hr
  have g48 : gI (sI σ 124 0 0) 124 48 = nI n := by rw [gI_sI_ne (by decide)]; exact hw.1
  have g6 : gI (sI σ 124 0 0) 124 6 = nI L := by rw [gI_sI_ne (by decide)]; exact hp.1
  unfold F_X12_count countV
  rw [hr0, g48, g6]
  by_cases c0 : x = 0
  · rw [if_pos c0, if_pos c0]
  rw [if_neg c0, if_neg c0]
  by_cases c1 : x = 1
  · rw [if_pos c1, if_pos c1]
  rw [if_neg c1, if_neg c1]
  by_cases c2 : x = 2
  · rw [if_pos c2, if_pos c2]
  rw [if_neg c2, if_neg c2]
  by_cases c3 : x = 3
  · rw [if_pos c3, if_pos c3]
  rw [if_neg c3, if_neg c3]
  by_cases c4 : x = 4
  · rw [if_pos c4, if_pos c4]
  rw [if_neg c4, if_neg c4]
  by_cases c5 : x = 5
  · rw [if_pos c5, if_pos c5]
  rw [if_neg c5, if_neg c5]
  by_cases c6 : x = 6
  · rw [if_pos c6, if_pos c6]
  rw [if_neg c6, if_neg c6]
  by_cases c7 : x = 7
  · rw [if_pos c7, if_pos c7]
  rw [if_neg c7, if_neg c7]
  by_cases c8 : x = 8
  · rw [if_pos c8, if_pos c8]
  rw [if_neg c8, if_neg c8]
  by_cases c9 : x = 9
  · rw [if_pos c9, if_pos c9]
  rw [if_neg c9, if_neg c9]
end
