section
theorem F_bringS {row : Nat → Int32} {k : Int32} {σ : AH} (hB : BV row) (hT : TbB row σ) (hk : gI σ 34 2 = k) : ∃ τ, F_X10_bringStarts σ = some τ ∧ YS (sw row k) τ ∧ Ch [38, 39] [] σ τ := by
  unfold F_X10_bringStarts
  rw [lt_e, lt_e]
  have k1 : Ch [38, 39] [] σ (sA σ 38 (filln (gI σ 38) 30 (-1))) := Ch.sA1 (by simp)
  have k2 : Ch [38, 39] [] (sA σ 38 (filln (gI σ 38) 30 (-1))) (sA (sA σ 38 (filln (gI σ 38) 30 (-1))) 39 (filln (gI (sA σ 38 (filln (gI σ 38) 30 (-1))) 39) 260 0)) := Ch.sA1 (by simp)
  have kS := k1.trans k2
  obtain ⟨g, hg⟩ := BIGe (nS row) (by have := hB.s.2.1; omega)
  have c0 : ∀ w n, ctW (fun _ => none) w n = 0 := by
    intro w n
    induction n with
    | zero => rfl
    | succ n ih =>
      have : ctW (fun _ => none) w (n + 1) = ctW (fun _ => none) w n + (if (none : Option Nat) = some w then 1 else 0) := rfl
      rw [this, ih, if_neg (by simp)]
  obtain ⟨τ, t1, t2, t3⟩ := bringS_loop (g := g) (k := k) hB (nS row) 0 _ (by omega) (hT.ch kS (by simp) (by simp)) (by rw [kS.rI (by simp) (by simp)]; exact hk) (by
    refine ⟨fun p hp => ?_, fun w hw => ?_⟩
    · rw [gI_sA_row (by decide), gI_sA_own]; unfold filln; rw [if_pos hp]; rfl
    · rw [gI_sA_own]; unfold filln; rw [if_pos hw]
      show (0 : Int32) = nI (ctW (fun _ => none) w 30)
      rw [c0]; rfl)
  rw [hg]
  exact ⟨τ, t1, t2, kS.trans t3⟩
/-! what the yard keeps of laws -/
def LcC (row : Nat → Int32) (k : Int32) (g : Nat → Int32) : Prop := ∀ q kn, q < 20 → kn < 3 → g (q * 3 + kn) = -2 ∨ g (q * 3 + kn) = cnV row k (nI (q * 13)) 0 4 (nI kn) 0 0
def FsC (row : Nat → Int32) (k : Int32) (g : Nat → Int32) : Prop := ∀ w, w < 260 → g w = -2 ∨ g w = cnV row k (nI w) 0 8 0 0 0
def hsN (d kn sg rm : Nat) : Nat := d * 54 + ((kn * 3 + sg) * 6 + rm - 1)
def NdC (row : Nat → Int32) (k : Int32) (gw gn : Nat → Int32) : Prop := ∀ d kn sg rm, d < 13 → kn < 3 → sg < 3 → 1 ≤ rm → rm ≤ 6 → gw (hsN d kn sg rm) = -1 ∨ ∃ w, w < 260 ∧ w % 13 = d ∧ gw (hsN d kn sg rm) = nI w ∧ ∀ m, m < 6 → gn (hsN d kn sg rm * 6 + m) = needV row k kn sg m rm w
/-- the yard is that of what is known in k, LATE by l; STARTS are s -/
def YdI (row : Nat → Int32) (k : Int32) (l : Nat) (s : Nat → Option Nat) (σ : AH) : Prop :=
  (gI σ 34 2 = k ∧ gI σ 34 3 = nI l) ∧ AR row k (nI l) (gI σ 35) (nD row) ∧ (∀ w c, w < 260 → c < 6 → gI σ 36 (w * 6 + c) = gg row k (nI c) (nI w)) ∧ YS s σ ∧ LcC row k (gI σ 40) ∧ FsC row k (gI σ 41) ∧ NdC row k (gI σ 43) (gI σ 42)
def YDc : List Nat := [35, 36, 38, 39, 40, 41, 43]
def YDf : List (Nat × Nat) := [(34, 2), (34, 3), (34, 4)]
theorem F_prepare25 {row : Nat → Int32} {k b : Int32} {l : Nat} {σ : AH} (hB : BV row) (hl : l ≤ 26) (hT : TbB row σ) : ∃ τ, F_X10_prepare_25 k (nI l) b σ = some τ ∧ YdI row k l (sw row k) τ ∧ gI τ 34 4 = b ∧ Ch YDc YDf σ τ := by
  unfold F_X10_prepare_25
  rw [lt_e, lt_e, lt_e]
  obtain ⟨σ0, e0⟩ : ∃ x, x = sI (sI (sI σ 34 2 k) 34 3 (nI l)) 34 4 b := ⟨_, rfl⟩
  rw [← e0]
  obtain ⟨σ1, e1⟩ : ∃ x, x = sA σ0 40 (filln (gI σ0 40) 60 (-2)) := ⟨_, rfl⟩
  rw [← e1]
  obtain ⟨σ2, e2⟩ : ∃ x, x = sA σ1 41 (filln (gI σ1 41) 260 (-2)) := ⟨_, rfl⟩
  rw [← e2]
  obtain ⟨σ3, e3⟩ : ∃ x, x = sA σ2 43 (filln (gI σ2 43) 702 (-1)) := ⟨_, rfl⟩
  rw [← e3]
  have c0 : Ch YDc YDf σ σ0 := by rw [e0]; exact ((Ch.sI1 (Or.inl (by simp [YDf]))).trans (Ch.sI1 (Or.inl (by simp [YDf])))).trans (Ch.sI1 (Or.inl (by simp [YDf])))
  have c1 : Ch YDc YDf σ0 σ1 := by rw [e1]; exact Ch.sA1 (by simp [YDc])
  have c2 : Ch YDc YDf σ1 σ2 := by rw [e2]; exact Ch.sA1 (by simp [YDc])
  have c3 : Ch YDc YDf σ2 σ3 := by rw [e3]; exact Ch.sA1 (by simp [YDc])
  have cc := ((c0.trans c1).trans c2).trans c3
  have hT3 := hT.ch cc (by simp [YDc]) (by simp [YDf])
  have r34 : gI σ3 34 = gI σ0 34 := by rw [e3, gI_sA_row (by decide), e2, gI_sA_row (by decide), e1, gI_sA_row (by decide)]
  have f2 : gI σ3 34 2 = k := by rw [r34, e0, gI_sI_ne (by decide), gI_sI_ne (by decide), gI_sI_at]
  have f3 : gI σ3 34 3 = nI l := by rw [r34, e0, gI_sI_ne (by decide), gI_sI_at]
  have f4 : gI σ3 34 4 = b := by rw [r34, e0, gI_sI_at]
  have g40 : ∀ q, q < 60 → gI σ3 40 q = -2 := fun q hq => by rw [e3, gI_sA_row (by decide), e2, gI_sA_row (by decide), e1, gI_sA_own]; unfold filln; rw [if_pos hq]
  have g41 : ∀ q, q < 260 → gI σ3 41 q = -2 := fun q hq => by rw [e3, gI_sA_row (by decide), e2, gI_sA_own]; unfold filln; rw [if_pos hq]
  have g43 : ∀ q, q < 702 → gI σ3 43 q = -1 := fun q hq => by rw [e3, gI_sA_own]; unfold filln; rw [if_pos hq]
  obtain ⟨τ1, a1, a2, a3⟩ := F_bringD (k := k) hB hl hT3 f2 f3
  have hT4 := hT3.ch a3 (by simp) (by simp)
  obtain ⟨τ2, b1, b2', b3⟩ := F_bringG (k := k) hB hT4 (by rw [a3.rI (by simp) (by simp)]; exact f2)
  have hT5 := hT4.ch b3 (by simp) (by simp)
  obtain ⟨τ3, d1, d2, d3⟩ := F_bringS (k := k) hB hT5 (by rw [b3.rI (by simp) (by simp), a3.rI (by simp) (by simp)]; exact f2)
  rw [a1, bv_some, b1, bv_some, d1, bv_some]
  have r : ∀ i, i ≠ 35 → i ≠ 36 → i ≠ 38 → i ≠ 39 → gI τ3 i = gI σ3 i := fun i h1 h2 h3 h4 => by
    rw [d3.rI (by simp [h3, h4]) (by simp), b3.rI (by simp [h2]) (by simp), a3.rI (by simp [h1]) (by simp)]
  refine ⟨τ3, rfl, ⟨⟨?_, ?_⟩, ?_, ?_, d2, ?_, ?_, ?_⟩, ?_, ?_⟩
  · rw [r 34 (by decide) (by decide) (by decide) (by decide)]; exact f2
  · rw [r 34 (by decide) (by decide) (by decide) (by decide)]; exact f3
  · rw [d3.rI (by simp) (by simp), b3.rI (by simp) (by simp)]; exact a2
  · rw [d3.rI (by simp) (by simp)]; exact b2'
  · rw [r 40 (by decide) (by decide) (by decide) (by decide)]; exact fun q kn h1 h2 => Or.inl (g40 _ (by omega))
  · rw [r 41 (by decide) (by decide) (by decide) (by decide)]; exact fun w hw => Or.inl (g41 w hw)
  · rw [r 43 (by decide) (by decide) (by decide) (by decide)]
    exact fun d kn sg rm h1 h2 h3 h4 h5 => Or.inl (g43 _ (by unfold hsN; omega))
  · rw [r 34 (by decide) (by decide) (by decide) (by decide)]; exact f4
  · exact ((cc.trans (a3.mono (by simp [YDc]) (by simp))).trans (b3.mono (by simp [YDc]) (by simp))).trans (d3.mono (by simp [YDc]) (by simp))
/-- prepare: the yard of (k, l), kept or made anew -/
theorem F_prepare {row : Nat → Int32} {k b : Int32} {l : Nat} {σ : AH} (hB : BV row) (hl : l ≤ 26) (hT : TbB row σ) (hC : gI σ 34 4 = b → ∀ l', l' ≤ 26 → gI σ 34 3 = nI l' → YdI row (gI σ 34 2) l' (sw row (gI σ 34 2)) σ) : ∃ τ, F_X10_prepare k (nI l) b σ = some τ ∧ YdI row k l (sw row k) τ ∧ gI τ 34 4 = b ∧ Ch YDc YDf σ τ := by
  have anew := F_prepare25 (k := k) (b := b) hB hl hT
  unfold F_X10_prepare
  by_cases c1 : gI σ 34 2 = k
  · rw [if_pos c1]
    by_cases c2 : gI σ 34 3 = nI l
    · rw [if_pos c2]
      by_cases c3 : gI σ 34 4 = b
      · rw [if_pos c3]
        have := hC c3 l hl c2
        rw [c1] at this
        exact ⟨σ, rfl, this, c3, Ch.rf _⟩
      · rw [if_neg c3]; exact anew
    · rw [if_neg c2]; exact anew
  · rw [if_neg c1]; exact anew
end
