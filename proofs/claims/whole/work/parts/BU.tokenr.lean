section
/-! TOKENS of the reference -/
def TkR (L : Nat) (tp : Nat → Int32) (b : Nat) (σ : AH) : Prop := gI σ 124 7 = nI b ∧ gI σ 124 8 = nI (tkE L tp b) ∧ gI σ 124 9 = nI (tkT L tp b) ∧ gL σ 124 10 = tkW L tp b ∧ b ≤ L
def TNf : List (Nat × Nat) := [(124, 7), (124, 8), (124, 9), (124, 10)]
theorem nI_sub {a b : Nat} (h : b ≤ a) (ha : a < 2 ^ 31) : nI a - nI b = nI (a - b) := by
  apply Int32.toInt_inj.mp
  rw [Int32.toInt_sub, nI_toInt ha, nI_toInt (by omega), nI_toInt (by omega)]
  rw [Int.bmod_eq_of_le (by omega) (by omega)]
  omega
theorem gL_sL_i {σ : AH} {o k : Nat} {v : Int64} : gI (sL σ o k v) = gI σ := rfl
theorem next8 {L g : Nat} {tp : Nat → Int32} : ∀ (j p : Nat) (σ : AH), TpR L tp σ → gI σ 124 7 = nI p → p + j = L → ∃ τ, F_X12_next_8 (j + 1 + g) σ = F_X12_next_46 τ ∧ gI τ 124 7 = nI (spn blk tp j p) ∧ Ch [] [(124, 7)] σ τ := by
  intro j
  induction j with
  | zero =>
    intro p σ h h7 hp
    obtain ⟨h1, h2, h3⟩ := h
    rw [show 0 + 1 + g = g + 1 by omega]
    refine ⟨σ, ?_, h7, Ch.rf _⟩
    show B_X12_next_8 (F_X12_next_8 g) σ = _
    unfold B_X12_next_8
    rw [h1, h7, if_pos (nI_le (by omega) (by omega))]
  | succ j ih =>
    intro p σ h h7 hp
    obtain ⟨h1, h2, h3⟩ := id h
    rw [show j + 1 + 1 + g = (j + 1 + g) + 1 by omega]
    show ∃ τ, B_X12_next_8 (F_X12_next_8 (j + 1 + g)) σ = _ ∧ _
    unfold B_X12_next_8
    rw [h1, h7, if_neg (nI_ge (by omega) (by omega)), if_pos (inB_n (by omega) (by omega)), nI_clamp (by omega), h3 p (by omega), spn_s]
    unfold blk
    by_cases c : tp p = 32
    · rw [if_pos c, if_pos (decide_eq_true c), nI_1]
      have k1 : Ch [] [(124, 7)] σ (sI σ 124 7 (nI (p + 1))) := Ch.sI1 (Or.inl (by simp))
      obtain ⟨τ, t1, t2, t3⟩ := ih (p + 1) _ (h.ch k1 (by simp) (by simp)) gI_sI_at (by omega)
      exact ⟨τ, t1, t2, k1.trans t3⟩
    · rw [if_neg c, if_neg (fun z => c (of_decide_eq_true z))]
      exact ⟨σ, rfl, h7, Ch.rf _⟩
theorem next243_no {σ : AH} (h : gI σ 124 9 ≠ 2) : F_X12_next_243 BIG σ = some σ := by
  obtain ⟨g, hg⟩ := BIGe 0 (by decide)
  rw [hg, show 0 + 1 + g = g + 1 by omega]
  show B_X12_next_243 (F_X12_next_243 g) σ = _
  unfold B_X12_next_243
  rw [if_neg h]
theorem next149 {L b g : Nat} {tp : Nat → Int32} : ∀ (j p : Nat) (v : Int64) (σ : AH), TpR L tp σ → gI σ 124 7 = nI b → gI σ 124 8 = nI p → gI σ 124 9 = 1 → gL σ 124 10 = v → b ≤ p → p + j = L → ∃ τ, F_X12_next_149 (j + 1 + g) σ = some τ ∧ gI τ 124 8 = nI (spn ltr tp j p) ∧ gL τ 124 10 = wcd tp j p (p - b) v ∧ Ch [] [(124, 8), (124, 10)] σ τ := by
  intro j
  induction j with
  | zero =>
    intro p v σ h h7 h8 h9 hv hb hp
    obtain ⟨h1, h2, h3⟩ := h
    rw [show 0 + 1 + g = g + 1 by omega]
    refine ⟨σ, ?_, h8, hv, Ch.rf _⟩
    show B_X12_next_149 (F_X12_next_149 g) σ = _
    unfold B_X12_next_149
    rw [if_pos h9, h1, h8, if_pos (nI_le (by omega) (by omega)), next243_no (by rw [h9]; decide)]
  | succ j ih =>
    intro p v σ h h7 h8 h9 hv hb hp
    obtain ⟨h1, h2, h3⟩ := id h
    rw [show j + 1 + 1 + g = (j + 1 + g) + 1 by omega]
    show ∃ τ, B_X12_next_149 (F_X12_next_149 (j + 1 + g)) σ = _ ∧ _
    unfold B_X12_next_149
    rw [if_pos h9, h1, h8, if_neg (nI_ge (by omega) (by omega)), if_pos (inB_n (by omega) (by omega)), nI_clamp (by omega), h3 p (by omega), F_isSmallR, bd_some, spn_s, wcd_s]
    cases c : ltr (tp p) with
    | false =>
      rw [if_pos (show b2 false = 0 from rfl), if_neg (by decide), if_neg (by decide), next243_no (by rw [h9]; decide)]
      exact ⟨σ, rfl, h8, hv, Ch.rf _⟩
    | true =>
      have go : ∀ v' : Int64, v' = (if 10 ≤ p - b then -1 else v * 32 + (tp p).toInt64 - 96) → ∃ τ, F_X12_next_227 (F_X12_next_149 (j + 1 + g)) v' σ = some τ ∧ gI τ 124 8 = nI (spn ltr tp j (p + 1)) ∧ gL τ 124 10 = wcd tp j (p + 1) (p - b + 1) (if 10 ≤ p - b then -1 else v * 32 + (tp p).toInt64 - 96) ∧ Ch [] [(124, 8), (124, 10)] σ τ := fun v' e => by
        unfold F_X12_next_227
        have e8 : gI (sL σ 124 10 v') 124 8 = nI p := h8
        rw [e8, nI_1]
        have k1 : Ch [] [(124, 8), (124, 10)] σ (sI (sL σ 124 10 v') 124 8 (nI (p + 1))) := (Ch.sL1 (Or.inl (by simp))).trans (Ch.sI1 (Or.inl (by simp)))
        obtain ⟨τ, t1, t2, t3, t4⟩ := ih (p + 1) v' (sI (sL σ 124 10 v') 124 8 (nI (p + 1))) (h.ch k1 (by simp) (by simp)) (by rw [gI_sI_ne (by decide)]; exact h7) gI_sI_at (by rw [gI_sI_ne (by decide)]; exact h9) (show gL (sL σ 124 10 v') 124 10 = v' from gL_sL_at) (by omega) (by omega)
        rw [← e, show p - b + 1 = p + 1 - b by omega]
        exact ⟨τ, t1, t2, t3, k1.trans t4⟩
      rw [if_neg (show ¬ b2 true = 0 by decide), if_pos rfl, if_pos rfl, h7, h8, nI_sub hb (by omega)]
      by_cases d : 10 ≤ p - b
      · rw [if_pos (show (10 : Int32) ≤ nI (p - b) from nI_le (a := 10) d (by omega))]
        exact go (-1) (by rw [if_pos d])
      · rw [if_neg (show ¬ (10 : Int32) ≤ nI (p - b) from nI_ge (b := 10) (by omega) (by decide)), if_pos (inB_n (by omega) (by omega)), hv, nI_clamp (by omega), h3 p (by omega)]
        exact go (v * 32 + (tp p).toInt64 - 96) (by rw [if_neg d])
theorem next243 {L g : Nat} {tp : Nat → Int32} : ∀ (j p v : Nat) (σ : AH), TpR L tp σ → gI σ 124 8 = nI p → gI σ 124 9 = 2 → gL σ 124 10 = lN v → v ≤ 1000009 → p + j = L → ∃ τ, F_X12_next_243 (j + 1 + g) σ = some τ ∧ gI τ 124 8 = nI (spn dgt tp j p) ∧ gL τ 124 10 = lN (wnm tp j p v) ∧ Ch [] [(124, 8), (124, 10)] σ τ := by
  intro j
  induction j with
  | zero =>
    intro p v σ h h8 h9 hv hb hp
    obtain ⟨h1, h2, h3⟩ := h
    rw [show 0 + 1 + g = g + 1 by omega]
    refine ⟨σ, ?_, h8, hv, Ch.rf _⟩
    show B_X12_next_243 (F_X12_next_243 g) σ = _
    unfold B_X12_next_243
    rw [if_pos h9, h1, h8, if_pos (nI_le (by omega) (by omega))]
  | succ j ih =>
    intro p v σ h h8 h9 hv hb hp
    obtain ⟨h1, h2, h3⟩ := id h
    rw [show j + 1 + 1 + g = (j + 1 + g) + 1 by omega]
    show ∃ τ, B_X12_next_243 (F_X12_next_243 (j + 1 + g)) σ = _ ∧ _
    unfold B_X12_next_243
    rw [if_pos h9, h1, h8, if_neg (nI_ge (by omega) (by omega)), if_pos (inB_n (by omega) (by omega)), nI_clamp (by omega), h3 p (by omega), F_isDigitR, bd_some, spn_s, wnm_s]
    cases c : dgt (tp p) with
    | false =>
      rw [if_pos (show b2 false = 0 from rfl), if_neg (by decide), if_neg (by decide)]
      exact ⟨σ, rfl, h8, hv, Ch.rf _⟩
    | true =>
      obtain ⟨e1, e2, e3⟩ := dgt_n c
      have go : ∀ v' : Nat, v' ≤ 1000009 → v' = (if v ≤ 100000 then v * 10 + (cl (tp p) - 48) else v) → ∃ τ, F_X12_next_319 (F_X12_next_243 (j + 1 + g)) (lN v') σ = some τ ∧ gI τ 124 8 = nI (spn dgt tp j (p + 1)) ∧ gL τ 124 10 = lN (wnm tp j (p + 1) (if v ≤ 100000 then v * 10 + (cl (tp p) - 48) else v)) ∧ Ch [] [(124, 8), (124, 10)] σ τ := fun v' hv' e => by
        unfold F_X12_next_319
        have e8 : gI (sL σ 124 10 (lN v')) 124 8 = nI p := h8
        rw [e8, nI_1]
        have k1 : Ch [] [(124, 8), (124, 10)] σ (sI (sL σ 124 10 (lN v')) 124 8 (nI (p + 1))) := (Ch.sL1 (Or.inl (by simp))).trans (Ch.sI1 (Or.inl (by simp)))
        obtain ⟨τ, t1, t2, t3, t4⟩ := ih (p + 1) v' (sI (sL σ 124 10 (lN v')) 124 8 (nI (p + 1))) (h.ch k1 (by simp) (by simp)) gI_sI_at (by rw [gI_sI_ne (by decide)]; exact h9) (show gL (sL σ 124 10 (lN v')) 124 10 = lN v' from gL_sL_at) hv' (by omega)
        rw [← e]
        exact ⟨τ, t1, t2, t3, k1.trans t4⟩
      rw [if_neg (show ¬ b2 true = 0 by decide), if_pos rfl, if_pos rfl, hv]
      by_cases d : v ≤ 100000
      · have ev : lN v * (10 : Int64) + (tp p).toInt64 - (48 : Int64) = lN (v * 10 + (cl (tp p) - 48)) := by
          rw [e1, nI_l (by omega), show cl (nI (cl (tp p))) = cl (tp p) from nI_clamp (by omega), show (10 : Int64) = lN 10 from rfl, show (48 : Int64) = lN 48 from rfl, lN_mul, lN_add, lN_sub (by omega)]
          congr 1
          omega
        rw [if_pos (show lN v ≤ (100000 : Int64) from (lN_le (b := 100000) (by omega) (by decide)).mpr d), if_pos (by rw [h8]; exact inB_n (by omega) (by omega)), h8, nI_clamp (by omega), h3 p (by omega), ev]
        exact go _ (by omega) (by rw [if_pos d])
      · rw [if_neg (show ¬ lN v ≤ (100000 : Int64) from fun z => d ((lN_le (b := 100000) (by omega) (by decide)).mp z))]
        exact go v hb (by rw [if_neg d])
theorem F_nextR {L e : Nat} {tp : Nat → Int32} {σ : AH} (h : TpR L tp σ) (he : gI σ 124 8 = nI e) (hL : e ≤ L) : ∃ τ, F_X12_next σ = some τ ∧ TkR L tp (bl L tp e) τ ∧ Ch [] TNf σ τ := by
  have L4 := h.2.1
  obtain ⟨b1, b2'⟩ := bl_b (tp := tp) hL
  unfold F_X12_next
  have k0 : Ch [] TNf σ (sI σ 124 7 (nI e)) := Ch.sI1 (Or.inl (by simp [TNf]))
  obtain ⟨g, hg⟩ := BIGe (L - e) (by omega)
  obtain ⟨s0, a1, a2, a3⟩ := next8 (g := g) (L - e) e (sI σ 124 7 (nI e)) (h.ch k0 (by simp) (by simp [TNf])) gI_sI_at (by omega)
  have k1 : Ch [] TNf σ s0 := k0.trans (a3.mono (by simp) (by simp [TNf]))
  have T0 : TpR L tp s0 := h.ch k1 (by simp) (by simp [TNf])
  obtain ⟨b, hb⟩ : ∃ b, b = bl L tp e := ⟨_, rfl⟩
  have a2' : gI s0 124 7 = nI b := by rw [hb]; exact a2
  rw [← hb] at b1 b2' ⊢
  rw [he, hg, a1]
  unfold F_X12_next_46
  obtain ⟨s1, hs1⟩ : ∃ s1, s1 = sL (sI s0 124 8 (nI b)) 124 10 0 := ⟨_, rfl⟩
  rw [a2', ← hs1]
  have c1' : Ch [] TNf s0 s1 := by rw [hs1]; exact (Ch.sI1 (Or.inl (by simp [TNf]))).trans (Ch.sL1 (Or.inl (by simp [TNf])))
  have k2 : Ch [] TNf σ s1 := k1.trans c1'
  have T1 : TpR L tp s1 := h.ch k2 (by simp) (by simp [TNf])
  have g7 : gI s1 124 7 = nI b := by rw [hs1]; show gI (sI s0 124 8 (nI b)) 124 7 = _; rw [gI_sI_ne (by decide)]; exact a2'
  have g8 : gI s1 124 8 = nI b := by rw [hs1]; show gI (sI s0 124 8 (nI b)) 124 8 = _; exact gI_sI_at
  have g10 : gL s1 124 10 = 0 := by rw [hs1]; exact gL_sL_at
  -- the sort is known
  have srt : ∀ S : Nat, tkT L tp b = S → ∃ τ, F_X12_next_114 (nI S) s1 = some τ ∧ TkR L tp b τ ∧ Ch [] TNf σ τ := fun S hS => by
    unfold F_X12_next_114
    obtain ⟨s2, hs2⟩ : ∃ s2, s2 = sI s1 124 9 (nI S) := ⟨_, rfl⟩
    rw [← hs2]
    have c2 : Ch [] TNf s1 s2 := by rw [hs2]; exact Ch.sI1 (Or.inl (by simp [TNf]))
    have k3 : Ch [] TNf σ s2 := k2.trans c2
    have T2 : TpR L tp s2 := h.ch k3 (by simp) (by simp [TNf])
    have q9 : gI s2 124 9 = nI S := by rw [hs2]; exact gI_sI_at
    have q7 : gI s2 124 7 = nI b := by rw [hs2, gI_sI_ne (by decide)]; exact g7
    have q8 : gI s2 124 8 = nI b := by rw [hs2, gI_sI_ne (by decide)]; exact g8
    have q10 : gL s2 124 10 = 0 := by rw [hs2]; exact g10
    have none1 : ∀ s : AH, gI s 124 9 ≠ 1 → F_X12_next_149 BIG s = F_X12_next_243 BIG s := fun s hs => by
      obtain ⟨g', hg'⟩ := BIGe 0 (by decide)
      have : F_X12_next_149 BIG s = B_X12_next_149 (F_X12_next_149 g') s := by rw [hg', show 0 + 1 + g' = g' + 1 by omega]; rfl
      rw [this]
      unfold B_X12_next_149
      rw [if_neg hs]
    by_cases c : L ≤ b
    · have e0 : S = 0 := by rw [← hS, tkT_e c]
      subst e0
      rw [q9, if_neg (show ¬ nI 0 = (3 : Int32) by decide), none1 s2 (by rw [q9]; decide), next243_no (by rw [q9]; decide)]
      refine ⟨s2, rfl, ⟨q7, ?_, by rw [hS]; exact q9, ?_, b2'⟩, k3⟩
      · unfold tkE; rw [if_pos c]; exact q8
      · unfold tkW; rw [hS, if_pos rfl]; exact q10
    · cases d1 : ltr (tp b) with
      | true =>
        have e0 : S = 1 := by rw [← hS, tkT_w c d1]
        subst e0
        obtain ⟨g', hg'⟩ := BIGe (L - b) (by omega)
        obtain ⟨s3, t1, t2, t3, t4⟩ := next149 (b := b) (g := g') (L - b) b 0 s2 T2 q7 q8 q9 q10 (Nat.le_refl _) (by omega)
        rw [q9, if_neg (show ¬ nI 1 = (3 : Int32) by decide), hg', t1]
        refine ⟨s3, rfl, ⟨by rw [t4.pI (by simp) (by simp)]; exact q7, ?_, by rw [t4.pI (by simp) (by simp), hS]; exact q9, ?_, b2'⟩, k3.trans (t4.mono (by simp) (by simp [TNf]))⟩
        · unfold tkE; rw [if_neg c, if_pos d1]; exact t2
        · unfold tkW; rw [hS, if_neg (by decide), if_pos rfl, t3, Nat.sub_self]
      | false =>
        cases d2 : dgt (tp b) with
        | true =>
          have e0 : S = 2 := by rw [← hS, tkT_d c d1 d2]
          subst e0
          obtain ⟨g', hg'⟩ := BIGe (L - b) (by omega)
          obtain ⟨s3, t1, t2, t3, t4⟩ := next243 (g := g') (L - b) b 0 s2 T2 q8 q9 q10 (by omega) (by omega)
          rw [q9, if_neg (show ¬ nI 2 = (3 : Int32) by decide), none1 s2 (by rw [q9]; decide), hg', t1]
          refine ⟨s3, rfl, ⟨by rw [t4.pI (by simp) (by simp)]; exact q7, ?_, by rw [t4.pI (by simp) (by simp), hS]; exact q9, ?_, b2'⟩, k3.trans (t4.mono (by simp) (by simp [TNf]))⟩
          · unfold tkE; rw [if_neg c, d1, if_neg (by decide), if_pos d2]; exact t2
          · unfold tkW; rw [hS, if_neg (by decide), if_neg (by decide), if_pos rfl]; exact t3
        | false =>
          have e0 : S = 3 := by rw [← hS, tkT_s c d1 d2]
          subst e0
          obtain ⟨s3, hs3⟩ : ∃ s3, s3 = sI (sL s2 124 10 (tp b).toInt64) 124 8 (nI (b + 1)) := ⟨_, rfl⟩
          have c3 : Ch [] TNf s2 s3 := by rw [hs3]; exact (Ch.sL1 (Or.inl (by simp [TNf]))).trans (Ch.sI1 (Or.inl (by simp [TNf])))
          have p9 : gI s3 124 9 = nI 3 := by rw [hs3, gI_sI_ne (by decide)]; exact q9
          have e8 : gI (sL s2 124 10 (tp b).toInt64) 124 8 = nI b := q8
          rw [q9, if_pos (show nI 3 = (3 : Int32) from rfl), q7, if_pos (inB_n (by omega) (by omega)), lt_e, nI_clamp (by omega), T2.2.2 b (by omega), e8, nI_1, ← hs3, none1 s3 (by rw [p9]; decide), next243_no (by rw [p9]; decide)]
          refine ⟨s3, rfl, ⟨by rw [hs3, gI_sI_ne (by decide)]; exact q7, ?_, by rw [hS]; exact p9, ?_, b2'⟩, k3.trans c3⟩
          · unfold tkE; rw [if_neg c, d1, if_neg (by decide), d2, if_neg (by decide), hs3]; exact gI_sI_at
          · unfold tkW; rw [hS, if_neg (by decide), if_neg (by decide), if_neg (by decide), hs3]; exact gL_sL_at
  rw [g7, T1.1]
  by_cases c : L ≤ b
  · have e : b = L := by omega
    rw [if_pos (by rw [e])]
    exact srt 0 (tkT_e c)
  · rw [if_neg (fun z => by have := (nI_eq (by omega) (by omega)).mp z; omega), if_pos (inB_n (by omega) (by omega)), nI_clamp (by omega), T1.2.2 b (by omega), F_isSmallR, bd_some]
    cases d1 : ltr (tp b) with
    | true => rw [if_neg (show ¬ b2 true = 0 by decide)]; exact srt 1 (tkT_w c d1)
    | false =>
      rw [if_pos (show b2 false = 0 from rfl), if_pos (by rw [g7]; exact inB_n (by omega) (by omega)), g7, nI_clamp (by omega), T1.2.2 b (by omega), F_isDigitR, bd_some]
      cases d2 : dgt (tp b) with
      | true => rw [if_neg (show ¬ b2 true = 0 by decide)]; exact srt 2 (tkT_d c d1 d2)
      | false => rw [if_pos (show b2 false = 0 from rfl)]; exact srt 3 (tkT_s c d1 d2)
theorem F_next1 {L b : Nat} {tp : Nat → Int32} {σ : AH} (h : TpR L tp σ) (hk : TkR L tp b σ) : ∃ τ, F_X12_next σ = some τ ∧ TkR L tp (nxt L tp b) τ ∧ Ch [] TNf σ τ := F_nextR h hk.2.1 (tkE_b hk.2.2.2.2).2.1
end
