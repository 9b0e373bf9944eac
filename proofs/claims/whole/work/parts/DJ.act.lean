section
/-! act: what it answers, in the reference; the TEXT read, in the class -/
def wk2 (x1 x2 : Int32) : Bool := rgB 0 259 x1 && rgB 0 259 x2
def actP (x1 x2 : Int32) (n : Nat) : Int32 := if wk2 x1 x2 = true then (if n = 24 then -5 else 0) else -1
def txt (L : Nat) (tp : Nat → Int32) : Nat × Option (List Cls) := prTx L tp 17 0 (bl L tp 0) 0
theorem act40 {y : Int32} {σ : AH} : F_X12_act_40 y σ = (if y = 0 then some (-1, sI (sI σ 124 6 0) 124 1 (-1)) else some (-5, sI (sI σ 124 6 0) 124 1 (-5))) := by
  unfold F_X12_act_40 F_X12_act_56
  by_cases c : y = 0
  · rw [if_pos c, if_pos c, F_told, bd_some, if_neg (show ¬ (0 : Int32) ≤ -1 by decide)]
  · rw [if_neg c, if_neg c, F_told, bd_some, if_neg (show ¬ (0 : Int32) ≤ -5 by decide)]
theorem act24 {x1 x2 : Int32} {σ : AH} : F_X12_act x1 x2 σ = F_X12_act_24 x1 x2 (if wk2 x1 x2 = true then 1 else 0) (sI σ 124 0 0) := by
  unfold F_X12_act wk2
  rw [F_isWeek, bd_some]
  cases c1 : rgB 0 259 x1 with
  | false =>
    rw [if_pos (show (if false = true then (1 : Int32) else 0) = 0 from rfl), Bool.false_and, if_neg (show ¬ false = true by decide)]; rfl
  | true =>
    rw [if_neg (show ¬ (if true = true then (1 : Int32) else 0) = 0 by decide), F_isWeek, bd_some, Bool.true_and]
    cases c2 : rgB 0 259 x2 with
    | false => rw [if_pos (show (if false = true then (1 : Int32) else 0) = 0 from rfl), if_neg (show ¬ false = true by decide)]; rfl
    | true => rw [if_neg (show ¬ (if true = true then (1 : Int32) else 0) = 0 by decide), if_pos rfl]
theorem actP_1 {x1 x2 : Int32} {n : Nat} (h : wk2 x1 x2 = false) : actP x1 x2 n = -1 := by unfold actP; rw [h, if_neg (by decide)]
theorem actP_5 {x1 x2 : Int32} {n : Nat} (h : wk2 x1 x2 = true) (hn : n = 24) : actP x1 x2 n = -5 := by unfold actP; rw [if_pos h, if_pos hn]
theorem actP_0 {x1 x2 : Int32} {n : Nat} (h : wk2 x1 x2 = true) (hn : n ≠ 24) : actP x1 x2 n = 0 := by unfold actP; rw [if_pos h, if_neg hn]
def ARf : List (Nat × Nat) := [(124, 0), (124, 1), (124, 6)]
theorem P_act_no {row : Nat → Int32} {x1 x2 : Int32} {σ : AH} (hr : gI σ 125 = row) (h0 : row 0 = nI (nA row)) (hA : nA row ≤ 24) (hp : actP x1 x2 (nA row) ≠ 0) : ∃ τ, F_X12_act x1 x2 σ = some (actP x1 x2 (nA row), τ) ∧ gI τ 124 6 = 0 ∧ gI τ 124 1 = actP x1 x2 (nA row) ∧ Ch [] ARf σ τ := by
  have kk : ∀ v : Int32, Ch [] ARf σ (sI (sI (sI σ 124 0 0) 124 6 0) 124 1 v) := fun v => ((Ch.sI1 (Or.inl (by simp [ARf]))).trans (Ch.sI1 (Or.inl (by simp [ARf])))).trans (Ch.sI1 (Or.inl (by simp [ARf])))
  have e6 : ∀ v : Int32, gI (sI (sI (sI σ 124 0 0) 124 6 0) 124 1 v) 124 6 = 0 := fun v => by rw [gI_sI_ne (by decide), gI_sI_at]
  have r1 : gI (sI σ 124 0 0) 125 0 = nI (nA row) := by rw [gI_sI_row (by decide), hr]; exact h0
  rw [act24]
  cases c : wk2 x1 x2 with
  | false =>
    rw [actP_1 c, if_neg (show ¬ false = true by decide)]
    unfold F_X12_act_24
    rw [if_pos rfl, act40, if_pos rfl]
    exact ⟨_, rfl, e6 _, gI_sI_at, kk _⟩
  | true =>
    by_cases n24 : nA row = 24
    · rw [actP_5 c n24, if_pos rfl]
      unfold F_X12_act_24
      rw [if_neg (show ¬ (1 : Int32) = 0 by decide), if_pos (show gI (sI σ 124 0 0) 125 0 = (24 : Int32) by rw [r1, n24]; rfl), act40, if_neg (show ¬ (1 : Int32) = 0 by decide)]
      exact ⟨_, rfl, e6 _, gI_sI_at, kk _⟩
    · exact absurd (actP_0 c n24) hp
def AGf : List (Nat × Nat) := [(124, 0), (124, 7), (124, 8), (124, 9), (124, 10), (124, 11), (124, 12), (124, 13), (124, 15), (124, 18)]
theorem act_in {L : Nat} {tp row : Nat → Int32} {x1 x2 : Int32} {σ : AH} (h : TpR L tp σ) (hr : gI σ 125 = row) (h0 : row 0 = nI (nA row)) (hA : nA row < 24) (hw : wk2 x1 x2 = true) : ∃ s, F_X12_act x1 x2 σ = (bv (F_X12_readClause s) fun q => F_X12_act_83 BIG x1 x2 q) ∧ RgQ L tp (bl L tp 0) 0 0 s ∧ gI s 124 13 = nI 0 ∧ Ch [] AGf σ s := by
  obtain ⟨s1, hs1⟩ : ∃ s1, s1 = sI σ 124 0 0 := ⟨_, rfl⟩
  have k1 : Ch [] [(124, 0)] σ s1 := by rw [hs1]; exact Ch.sI1 (Or.inl (by simp))
  have r1 : gI s1 125 0 = nI (nA row) := by rw [k1.rI (by simp) (by simp), hr]; exact h0
  obtain ⟨s2, hs2⟩ : ∃ s2, s2 = sI (sI (sI s1 124 8 0) 124 12 0) 124 11 (-1) := ⟨_, rfl⟩
  have k2 : Ch [] [(124, 8), (124, 12), (124, 11)] s1 s2 := by rw [hs2]; exact ((Ch.sI1 (Or.inl (by simp))).trans (Ch.sI1 (Or.inl (by simp)))).trans (Ch.sI1 (Or.inl (by simp)))
  have T2 : TpR L tp s2 := (h.ch k1 (by simp) (by simp)).ch k2 (by simp) (by simp)
  have e8 : gI s2 124 8 = nI 0 := by rw [hs2, gI_sI_ne (by decide), gI_sI_ne (by decide), gI_sI_at]; rfl
  obtain ⟨s3, n1, n2, n3⟩ := F_nextR T2 e8 (Nat.zero_le _)
  obtain ⟨s4, hs4⟩ : ∃ s4, s4 = sI (sI (sI s3 124 13 0) 124 15 0) 124 18 0 := ⟨_, rfl⟩
  have k4 : Ch [] [(124, 13), (124, 15), (124, 18)] s3 s4 := by rw [hs4]; exact ((Ch.sI1 (Or.inl (by simp))).trans (Ch.sI1 (Or.inl (by simp)))).trans (Ch.sI1 (Or.inl (by simp)))
  have T3 : TpR L tp s3 := T2.ch n3 (by simp) (by simp [TNf])
  have T4 : TpR L tp s4 := T3.ch k4 (by simp) (by simp)
  refine ⟨s4, ?_, ⟨⟨T4.1, T4.2.1, T4.2.2, ?_⟩, ⟨?_, ?_, ?_, ?_, n2.2.2.2.2⟩, ?_, ?_, ?_, Nat.zero_le _, Nat.zero_le _⟩, ?_, ?_⟩
  · rw [act24, if_pos hw]
    unfold F_X12_act_24 F_X12_begin
    rw [← hs1, if_neg (show ¬ (1 : Int32) = 0 by decide), r1, if_neg (show ¬ nI (nA row) = (24 : Int32) from fun z => by
      have := congrArg Int32.toNatClampNeg z
      rw [nI_clamp (by omega), show (24 : Int32).toNatClampNeg = 24 from rfl] at this
      omega), ← hs2, n1, bv_some, bv_some, ← hs4]
  · rw [k4.pI (by simp) (by simp), n3.pI (by simp) (by simp [TNf]), hs2, gI_sI_at]
  · rw [k4.pI (by simp) (by simp)]; exact n2.1
  · rw [k4.pI (by simp) (by simp)]; exact n2.2.1
  · rw [k4.pI (by simp) (by simp)]; exact n2.2.2.1
  · rw [k4.pL (by simp) (by simp)]; exact n2.2.2.2.1
  · rw [k4.pI (by simp) (by simp), n3.pI (by simp) (by simp [TNf]), hs2, gI_sI_ne (by decide), gI_sI_at]
  · rw [hs4, gI_sI_ne (by decide), gI_sI_at]; rfl
  · rw [hs4, gI_sI_at]; rfl
  · rw [hs4, gI_sI_ne (by decide), gI_sI_ne (by decide), gI_sI_at]; rfl
  · exact (((k1.mono (by simp) (by simp [AGf])).trans (k2.mono (by simp) (by simp [AGf]))).trans (n3.mono (by simp) (by simp [TNf, AGf]))).trans (k4.mono (by simp) (by simp [AGf]))
theorem P_act_b {L b : Nat} {tp row : Nat → Int32} {x1 x2 : Int32} {σ : AH} (h : TpR L tp σ) (hr : gI σ 125 = row) (h0 : row 0 = nI (nA row)) (hA : nA row < 24) (hw : wk2 x1 x2 = true) (ht : txt L tp = (b, none)) : ∃ τ, F_X12_act x1 x2 σ = some (-6, τ) ∧ gI τ 124 6 = 0 ∧ gI τ 124 1 = -6 ∧ gI τ 124 11 = nI b ∧ b ≤ L ∧ Ch RCc ACf σ τ := by
  obtain ⟨s, a1, a2, a3, a4⟩ := act_in h hr h0 hA hw
  obtain ⟨g, hg⟩ := BIGe 16 (by omega)
  obtain ⟨τ, t1, t2, t3⟩ := (text_R (g := g) (x1 := x1) (x2 := x2) 17 0 (bl L tp 0) 0 0 s (by omega) (by omega) a2 a3).1 b ht
  obtain ⟨τ', u1, u2, u3, u4, u5⟩ := act129_b (x1 := x1) (x2 := x2) t2
  refine ⟨τ', ?_, u2, u3, u4, t2.2.2.2, ?_⟩
  · rw [a1, hg, t1, u1]
  · exact ((a4.mono (by simp) (by simp [AGf, ACf])).trans (t3.mono (by simp) (by simp [RCf, ACf]))).trans (u5.mono (by simp) (by simp [ACf]))
theorem P_act_g {L b : Nat} {tp row : Nat → Int32} {x1 x2 : Int32} {σ : AH} {Cs : List Cls} (h : TpR L tp σ) (hr : gI σ 125 = row) (h0 : row 0 = nI (nA row)) (hA : nA row < 24) (hw : wk2 x1 x2 = true) (ht : txt L tp = (b, some Cs)) : ∃ τ, F_X12_act x1 x2 σ = some (nI (nA row), τ) ∧ gI τ 124 6 = 0 ∧ gI τ 124 1 = 0 ∧ gI τ 124 11 = -1 ∧ AcR row (gI τ 125) x1 x2 Cs ∧ Ch (125 :: RCc) ACf σ τ := by
  obtain ⟨s, a1, a2, a3, a4⟩ := act_in h hr h0 hA hw
  obtain ⟨g, hg⟩ := BIGe 16 (by omega)
  obtain ⟨τ, m', np', t1, t2, t3, t4, t5, t6, t7, t8, t9⟩ := (text_R (g := g) (x1 := x1) (x2 := x2) 17 0 (bl L tp 0) 0 0 s (by omega) (by omega) a2 a3).2 b Cs ht
  rw [Nat.zero_add] at t3 t4
  obtain ⟨τ', u1, u2, u3, u4, u5, u6⟩ := act129_g (row := row) (x1 := x1) (x2 := x2) (Cs := Cs) t2 (by rw [t9.rI (by simp [RCc]) (by simp [RCf]), a4.rI (by simp) (by simp [AGf])]; exact hr) h0 hA t3 t4 t8
  refine ⟨τ', ?_, u2, u3, by rw [u5]; exact t2.1.2.2.2, u4, ?_⟩
  · rw [a1, hg, t1, u1]
  · exact ((a4.mono (by simp) (by simp [AGf, ACf])).trans (t9.mono (by simp [RCc]) (by simp [RCf, ACf]))).trans u6
/-! the class reads -/
theorem C_read_in {L : Nat} {tp : Nat → Int32} {σ : AH} (h : TpC L tp σ) : ∃ s, F_X5_read σ = (bd (txF BIG s) fun v11 σ7 => (if v11 = 0 then (some ((gI σ7 22 9), σ7)) else (some ((-1 : Int32), σ7)))) ∧ CgS L tp (bl L tp 0) 0 0 s ∧ gI s 22 2 = nI 0 ∧ Ch [] CTf σ s := by
  obtain ⟨s1, hs1⟩ : ∃ s1, s1 = sI (sI (sI (sI σ 22 2 0) 22 7 0) 22 8 0) 22 10 0 := ⟨_, rfl⟩
  have k1 : Ch [] [(22, 2), (22, 7), (22, 8), (22, 10)] σ s1 := by rw [hs1]; exact (((Ch.sI1 (Or.inl (by simp))).trans (Ch.sI1 (Or.inl (by simp)))).trans (Ch.sI1 (Or.inl (by simp)))).trans (Ch.sI1 (Or.inl (by simp)))
  have T1 : TpC L tp s1 := h.ch k1 (by simp) (by simp)
  obtain ⟨s2, n1, n2, n3⟩ := F_stepC T1 (e := 0) (by rw [hs1, gI_sI_at]; rfl) (Nat.zero_le _)
  refine ⟨s2, ?_, ⟨T1.ch n3 (by simp) (by simp [TKf]), n2, ?_, ?_, Nat.zero_le _, Nat.zero_le _⟩, ?_, ?_⟩
  · unfold F_X5_read
    rw [← hs1, n1, bv_some, tx_read]
  · rw [n3.pI (by simp) (by simp [TKf]), hs1, gI_sI_ne (by decide), gI_sI_ne (by decide), gI_sI_at]; rfl
  · rw [n3.pI (by simp) (by simp [TKf]), hs1, gI_sI_ne (by decide), gI_sI_at]; rfl
  · rw [n3.pI (by simp) (by simp [TKf]), hs1, gI_sI_ne (by decide), gI_sI_ne (by decide), gI_sI_ne (by decide), gI_sI_at]; rfl
  · exact (k1.mono (by simp) (by simp [CTf])).trans (n3.mono (by simp) (by simp [TKf, CTf]))
theorem C_read_b {L b : Nat} {tp : Nat → Int32} {σ : AH} (h : TpC L tp σ) (ht : txt L tp = (b, none)) : ∃ τ, F_X5_read σ = some (nI b, τ) ∧ Ch CCc CTf σ τ := by
  obtain ⟨s, a1, a2, a3, a4⟩ := C_read_in h
  obtain ⟨g, hg⟩ := BIGe 16 (by omega)
  obtain ⟨τ, t1, t2, t3⟩ := (text_C (g := g) 17 0 (bl L tp 0) 0 0 s (by omega) (by omega) a2 a3).1 b ht
  refine ⟨τ, ?_, (a4.mono (by simp) (fun q hq => Or.inl hq)).trans t3⟩
  rw [a1, hg, t1, bd_some, if_pos rfl, t2.1]
theorem C_read_g {L b : Nat} {tp : Nat → Int32} {σ : AH} {Cs : List Cls} (h : TpC L tp σ) (ht : txt L tp = (b, some Cs)) : ∃ τ sz, F_X5_read σ = some (-1, τ) ∧ gI τ 22 2 = nI Cs.length ∧ gI τ 22 7 = nI sz ∧ sz ≤ 400 ∧ ClsC (gI τ 24) (gI τ 25) (gI τ 26) (gI τ 27) Cs 0 0 sz ∧ Ch CCc CTf σ τ := by
  obtain ⟨s, a1, a2, a3, a4⟩ := C_read_in h
  obtain ⟨g, hg⟩ := BIGe 16 (by omega)
  obtain ⟨τ, sz, np, t1, t2, t3, t4, t5, t6, t7, t8⟩ := (text_C (g := g) 17 0 (bl L tp 0) 0 0 s (by omega) (by omega) a2 a3).2 b Cs ht
  rw [Nat.zero_add] at t3
  refine ⟨τ, sz, ?_, t3, t2.2.2.1, ?_, t7, (a4.mono (by simp) (fun q hq => Or.inl hq)).trans t8⟩
  · rw [a1, hg, t1, bd_some, if_neg (show ¬ (1 : Int32) = 0 by decide)]
  · have := t2.b; have := t2.2.2.2.2.1; omega
end
