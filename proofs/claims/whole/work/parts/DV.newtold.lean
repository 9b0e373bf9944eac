section
/-! a told object anew -/
def tN (σ : AH) (o f : Nat) (w m : Int32) (L : Nat) : AH := sR (sR (aw (sI (sI (aw σ 8 (NO 8)) (nx σ) 0 w) (nx σ) 1 m) 100 L) (nx σ) 2 (some (nx σ + 1))) o f (some (nx σ))
theorem shOX_hi {σ : AH} {o k : Nat} (h : 166 ≤ o) : shOX σ o k = true := by unfold shOX; rw [shOK_new h]; rfl
theorem newTab {σ : AH} {o f L : Nat} {w m : Int32} {K : AH → Option AH} (hx : 166 ≤ nx σ) (ho : 166 ≤ o) (hL : w * imin m (8 : Int32) = nI L) (hL2 : L ≤ 2000000) : (lt (aw σ 8 (NO 8)) fun τ => bv (F_X8_init (nx σ) w m τ) fun σ' => if alB m_X9_init o = true then (if shOX σ' o f = true then (lt (sR σ' o f (some (nx σ))) K) else none) else none) = K (tN σ o f w m L) := by
  have e : F_X8_init (nx σ) w m (aw σ 8 (NO 8)) = some (sR (aw (sI (sI (aw σ 8 (NO 8)) (nx σ) 0 w) (nx σ) 1 m) 100 L) (nx σ) 2 (some (nx σ + 1))) := by
    unfold F_X8_init
    have al8 : alB m_X8_init (nx σ) = true := al_new rfl hx
    rw [if_pos kd_aw_new, if_pos (show nx σ < nx (aw σ 8 (NO 8)) by rw [nx_aw]; omega), if_pos al8, if_pos al8, hL, nI_clamp (by omega), if_pos (nI_pos (by omega)), if_pos hL2, lt_e, if_pos al8, if_pos (shOX_hi hx), lt_e]; rfl
  rw [lt_e, e, bv_some, if_pos (al_new rfl ho), if_pos (shOX_hi ho), lt_e]; rfl
def NewT (σ0 : AH) (j S : Nat) (σ : AH) : Prop := (nx σ = nx σ0 + 2 + 2 * j ∧ sl σ = sl σ0 + S) ∧ (∀ i, i < nx σ0 → kd σ i = kd σ0 i ∧ gI σ i = gI σ0 i ∧ gL σ i = gL σ0 i ∧ gR σ i = gR σ0 i) ∧ (kd σ (nx σ0) = (9, NO 9) ∧ kd σ (nx σ0 + 1) = (103, 24) ∧ gR σ (nx σ0 + 1) = fun _ => none) ∧ gR σ (nx σ0) 0 = some (nx σ0 + 1) ∧ (∀ i, i < j → gR σ (nx σ0) (2 + i) = some (nx σ0 + 2 + 2 * i)) ∧ ∀ i, i < j → TsI σ (nx σ0 + 2 + 2 * i) (wdJ i) (msJ i) (nx σ0 + 3 + 2 * i) (min (msJ i) 8 * wdJ i)
theorem NewT.step {σ0 σ : AH} {j S : Nat} (h : NewT σ0 j S σ) : NewT σ0 (j + 1) (S + 4 + min (msJ j) 8 * wdJ j) (tN σ (nx σ0) (2 + j) (nI (wdJ j)) (nI (msJ j)) (min (msJ j) 8 * wdJ j)) := by
  obtain ⟨⟨h1, h2⟩, h3, ⟨h4, h5, h6⟩, h7, h8, h9⟩ := h
  obtain ⟨o, ho⟩ : ∃ o, o = nx σ0 := ⟨_, rfl⟩
  rw [← ho] at h1 h3 h4 h5 h6 h7 h8 h9
  unfold NewT
  rw [← ho]
  obtain ⟨L, hL⟩ : ∃ L, L = min (msJ j) 8 * wdJ j := ⟨_, rfl⟩
  rw [← hL]
  obtain ⟨t, ht⟩ : ∃ t, t = nx σ := ⟨_, rfl⟩
  obtain ⟨τ, hτ⟩ : ∃ τ, τ = tN σ o (2 + j) (nI (wdJ j)) (nI (msJ j)) L := ⟨_, rfl⟩
  rw [← hτ]
  unfold tN at hτ
  rw [← ht] at hτ
  obtain ⟨u, hu⟩ : ∃ u, u = sI (sI (aw σ 8 (NO 8)) t 0 (nI (wdJ j))) t 1 (nI (msJ j)) := ⟨_, rfl⟩
  rw [← hu] at hτ
  have ux : nx u = t + 1 := by rw [hu, ht]; rfl
  have uk : ∀ i, i ≠ t → kd u i = kd σ i := fun i hi => by rw [hu]; exact kd_aw_old (by omega)
  have uk2 : kd u t = (8, NO 8) := by rw [hu, ht]; exact kd_aw_new
  have uR : ∀ i, i ≠ t → gR u i = gR σ i := fun i hi => by rw [hu, gR_sI, gR_sI]; exact gR_aw_old (by omega)
  have uR2 : gR u t = fun _ => none := by rw [hu, gR_sI, gR_sI, ht]; exact gR_aw_new
  have uI : ∀ i, i ≠ t → gI u i = gI σ i := fun i hi => by rw [hu, gI_sI_row hi, gI_sI_row hi]; exact gI_aw_old (by omega)
  have uL : ∀ i, i ≠ t → gL u i = gL σ i := fun i hi => by rw [hu]; show gL (aw σ 8 (NO 8)) i = _; exact gL_aw_old (t := 8) (n := NO 8) (by omega)
  have us_ : sl u = sl σ + 4 := by rw [hu]; rfl
  have τx : nx τ = t + 2 := by rw [hτ]; show nx u + 1 = _; omega
  have τs : sl τ = sl σ + 4 + L := by rw [hτ]; show sl u + L = _; omega
  have τk : ∀ i, i ≠ t + 1 → kd τ i = kd u i := fun i hi => by rw [hτ]; exact kd_aw_old (by omega)
  have τk2 : kd τ (t + 1) = (100, L) := by rw [hτ, ← ux]; exact kd_aw_new
  have τI : ∀ i, i ≠ t + 1 → gI τ i = gI u i := fun i hi => by rw [hτ, gI_sR, gI_sR]; exact gI_aw_old (by omega)
  have τL : ∀ i, i ≠ t + 1 → gL τ i = gL u i := fun i hi => by rw [hτ, gL_sR, gL_sR]; exact gL_aw_old (by omega)
  have τR : ∀ i, i ≠ o → i ≠ t → i ≠ t + 1 → gR τ i = gR u i := fun i h1 h2 h3 => by rw [hτ, gR_sR_row h1, gR_sR_row h2]; exact gR_aw_old (by omega)
  have τRt : gR τ t 2 = some (t + 1) := by rw [hτ, gR_sR_row (by omega), gR_sR_own, up_same]
  have τRo : ∀ k, k ≠ 2 + j → gR τ o k = gR u o k := fun k hk => by rw [hτ, gR_sR_own, up_ne _ _ _ hk, gR_sR_row (by omega), gR_aw_old (by omega)]
  have τRo2 : gR τ o (2 + j) = some t := by rw [hτ, gR_sR_own, up_same]
  refine ⟨⟨by omega, by omega⟩, fun i hi => ?_, ⟨?_, ?_, ?_⟩, ?_, fun i hi => ?_, fun i hi => ?_⟩
  · obtain ⟨a, b, c, d⟩ := h3 i hi
    exact ⟨by rw [τk i (by omega), uk i (by omega)]; exact a, by rw [τI i (by omega), uI i (by omega)]; exact b, by rw [τL i (by omega), uL i (by omega)]; exact c, by rw [τR i (by omega) (by omega) (by omega), uR i (by omega)]; exact d⟩
  · rw [τk o (by omega), uk o (by omega)]; exact h4
  · rw [τk _ (by omega), uk _ (by omega)]; exact h5
  · rw [τR _ (by omega) (by omega) (by omega), uR _ (by omega)]; exact h6
  · rw [τRo 0 (by omega), uR o (by omega)]; exact h7
  · by_cases z : i = j
    · rw [z, τRo2]; congr 1; omega
    · rw [τRo _ (by omega), uR o (by omega)]; exact h8 i (by omega)
  · by_cases z : i = j
    · have e1 : o + 2 + 2 * j = t := by omega
      have e2 : o + 3 + 2 * j = t + 1 := by omega
      rw [z, e1, e2, ← hL]
      refine ⟨⟨by rw [τk t (by omega)]; exact uk2, by omega⟩, ⟨?_, ?_⟩, τRt, ⟨τk2, by omega⟩⟩
      · rw [τI t (by omega), hu, gI_sI_ne (by decide), gI_sI_at]
      · rw [τI t (by omega), hu, gI_sI_at]
    · obtain ⟨⟨a1, a2⟩, ⟨b1, b2'⟩, c1, ⟨d1, d2⟩⟩ := h9 i (by omega)
      have q : gI τ (o + 2 + 2 * i) = gI σ (o + 2 + 2 * i) := by rw [τI _ (by omega), uI _ (by omega)]
      refine ⟨⟨by rw [τk _ (by omega), uk _ (by omega)]; exact a1, by omega⟩, ⟨by rw [q]; exact b1, by rw [q]; exact b2'⟩, by rw [τR _ (by omega) (by omega) (by omega), uR _ (by omega)]; exact c1, ⟨by rw [τk _ (by omega), uk _ (by omega)]; exact d1, by omega⟩⟩
theorem F_newTold {σ0 : AH} (hx : 166 ≤ nx σ0) : ∃ τ, F_X9_init (nx σ0) (aw σ0 9 (NO 9)) = some τ ∧ nx τ = nx σ0 + 20 ∧ sl τ = sl σ0 + 2944 ∧ (∀ i, i < nx σ0 → kd τ i = kd σ0 i ∧ gI τ i = gI σ0 i ∧ gL τ i = gL σ0 i ∧ gR τ i = gR σ0 i) ∧ Tst τ (nx σ0) ∧ (gR τ (nx σ0 + 1) = fun _ => none) ∧ us τ (nx σ0) = 352 ∧ ct τ (nx σ0) = 8 ∧ ∀ j, j < 8 → gR τ (nx σ0 + 2 + 2 * j) 2 = some (nx σ0 + 3 + 2 * j) := by
  obtain ⟨o, ho⟩ : ∃ o, o = nx σ0 := ⟨_, rfl⟩
  obtain ⟨s0, hs0⟩ : ∃ s, s = sR (aw (aw σ0 9 (NO 9)) 103 24) o 0 (some (nx (aw σ0 9 (NO 9)))) := ⟨_, rfl⟩
  have n0 : NewT σ0 0 40 s0 := by
    have e1 : nx (aw σ0 9 (NO 9)) = nx σ0 + 1 := rfl
    refine ⟨⟨by rw [hs0]; rfl, by rw [hs0]; rfl⟩, fun i hi => ⟨?_, ?_, ?_, ?_⟩, ⟨?_, ?_, ?_⟩, ?_, fun i hi => absurd hi (Nat.not_lt_zero i), fun i hi => absurd hi (Nat.not_lt_zero i)⟩
    · rw [hs0, kd_sR, kd_aw_old (by omega), kd_aw_old (by omega)]
    · rw [hs0, gI_sR, gI_aw_old (by omega), gI_aw_old (by omega)]
    · rw [hs0, gL_sR, gL_aw_old (by omega), gL_aw_old (by omega)]
    · rw [hs0, gR_sR_row (by omega), gR_aw_old (by omega), gR_aw_old (by omega)]
    · rw [hs0, kd_sR, kd_aw_old (by omega), kd_aw_new]
    · rw [hs0, kd_sR, ← e1, kd_aw_new]
    · rw [hs0, gR_sR_row (by omega), ← e1, gR_aw_new]
    · rw [hs0, ← ho, gR_sR_own, up_same, e1, ho]
  have n1 := n0.step
  have n2 := n1.step
  have n3 := n2.step
  have n4 := n3.step
  have n5 := n4.step
  have n6 := n5.step
  have n7 := n6.step
  have n8 := n7.step
  rw [← ho] at n1 n2 n3 n4 n5 n6 n7 n8
  obtain ⟨s1, hs1⟩ : ∃ s, s = tN s0 o (2 + 0) (nI (wdJ 0)) (nI (msJ 0)) (min (msJ 0) 8 * wdJ 0) := ⟨_, rfl⟩
  rw [← hs1] at n1 n2 n3 n4 n5 n6 n7 n8
  obtain ⟨s2, hs2⟩ : ∃ s, s = tN s1 o (2 + 1) (nI (wdJ 1)) (nI (msJ 1)) (min (msJ 1) 8 * wdJ 1) := ⟨_, rfl⟩
  rw [show (0 + 1 : Nat) = 1 from rfl, ← hs2] at n2 n3 n4 n5 n6 n7 n8
  obtain ⟨s3, hs3⟩ : ∃ s, s = tN s2 o (2 + 2) (nI (wdJ 2)) (nI (msJ 2)) (min (msJ 2) 8 * wdJ 2) := ⟨_, rfl⟩
  rw [show (1 + 1 : Nat) = 2 from rfl, ← hs3] at n3 n4 n5 n6 n7 n8
  obtain ⟨s4, hs4⟩ : ∃ s, s = tN s3 o (2 + 3) (nI (wdJ 3)) (nI (msJ 3)) (min (msJ 3) 8 * wdJ 3) := ⟨_, rfl⟩
  rw [show (2 + 1 : Nat) = 3 from rfl, ← hs4] at n4 n5 n6 n7 n8
  obtain ⟨s5, hs5⟩ : ∃ s, s = tN s4 o (2 + 4) (nI (wdJ 4)) (nI (msJ 4)) (min (msJ 4) 8 * wdJ 4) := ⟨_, rfl⟩
  rw [show (3 + 1 : Nat) = 4 from rfl, ← hs5] at n5 n6 n7 n8
  obtain ⟨s6, hs6⟩ : ∃ s, s = tN s5 o (2 + 5) (nI (wdJ 5)) (nI (msJ 5)) (min (msJ 5) 8 * wdJ 5) := ⟨_, rfl⟩
  rw [show (4 + 1 : Nat) = 5 from rfl, ← hs6] at n6 n7 n8
  obtain ⟨s7, hs7⟩ : ∃ s, s = tN s6 o (2 + 6) (nI (wdJ 6)) (nI (msJ 6)) (min (msJ 6) 8 * wdJ 6) := ⟨_, rfl⟩
  rw [show (5 + 1 : Nat) = 6 from rfl, ← hs7] at n7 n8
  obtain ⟨s8, hs8⟩ : ∃ s, s = tN s7 o (2 + 7) (nI (wdJ 7)) (nI (msJ 7)) (min (msJ 7) 8 * wdJ 7) := ⟨_, rfl⟩
  rw [show (6 + 1 : Nat) = 7 from rfl, ← hs8] at n8
  have hox : 166 ≤ o := by omega
  obtain ⟨τ, hτ⟩ : ∃ τ, τ = sR (aw (sR (aw s8 100 120) o 10 (some (nx s8))) 100 2400) o 11 (some (nx (sR (aw s8 100 120) o 10 (some (nx s8))))) := ⟨_, rfl⟩
  have al9 : alB m_X9_init o = true := al_new rfl hox
  have eF : F_X9_init (nx σ0) (aw σ0 9 (NO 9)) = some τ := by
    rw [← ho]
    unfold F_X9_init
    rw [if_pos (by rw [ho]; exact kd_aw_new), if_pos (by rw [ho, nx_aw]; omega), lt_e, if_pos al9, if_pos (shOX_hi hox), lt_e, ← hs0]
    rw [newTab (σ := s0) (o := o) (f := 2) (L := min (msJ 0) 8 * wdJ 0) (by have := n0.1.1; omega) hox (by decide) (by decide), show tN s0 o 2 (4 : Int32) (120 : Int32) (min (msJ 0) 8 * wdJ 0) = s1 from hs1.symm]
    rw [newTab (σ := s1) (o := o) (f := 3) (L := min (msJ 1) 8 * wdJ 1) (by have := n1.1.1; omega) hox (by decide) (by decide), show tN s1 o 3 (8 : Int32) (8 : Int32) (min (msJ 1) 8 * wdJ 1) = s2 from hs2.symm]
    rw [newTab (σ := s2) (o := o) (f := 4) (L := min (msJ 2) 8 * wdJ 2) (by have := n2.1.1; omega) hox (by decide) (by decide), show tN s2 o 4 (4 : Int32) (60 : Int32) (min (msJ 2) 8 * wdJ 2) = s3 from hs3.symm]
    rw [newTab (σ := s3) (o := o) (f := 5) (L := min (msJ 3) 8 * wdJ 3) (by have := n3.1.1; omega) hox (by decide) (by decide), show tN s3 o 5 (4 : Int32) (30 : Int32) (min (msJ 3) 8 * wdJ 3) = s4 from hs4.symm]
    rw [newTab (σ := s4) (o := o) (f := 6) (L := min (msJ 4) 8 * wdJ 4) (by have := n4.1.1; omega) hox (by decide) (by decide), show tN s4 o 6 (3 : Int32) (60 : Int32) (min (msJ 4) 8 * wdJ 4) = s5 from hs5.symm]
    rw [newTab (σ := s5) (o := o) (f := 7) (L := min (msJ 5) 8 * wdJ 5) (by have := n5.1.1; omega) hox (by decide) (by decide), show tN s5 o 7 (10 : Int32) (60 : Int32) (min (msJ 5) 8 * wdJ 5) = s6 from hs6.symm]
    rw [newTab (σ := s6) (o := o) (f := 8) (L := min (msJ 6) 8 * wdJ 6) (by have := n6.1.1; omega) hox (by decide) (by decide), show tN s6 o 8 (4 : Int32) (40 : Int32) (min (msJ 6) 8 * wdJ 6) = s7 from hs7.symm]
    rw [newTab (σ := s7) (o := o) (f := 9) (L := min (msJ 7) 8 * wdJ 7) (by have := n7.1.1; omega) hox (by decide) (by decide), show tN s7 o 9 (7 : Int32) (7830 : Int32) (min (msJ 7) 8 * wdJ 7) = s8 from hs8.symm]
    rw [lt_e, if_pos al9, if_pos (shOX_hi hox), lt_e, lt_e, if_pos al9, if_pos (shOX_hi hox), lt_e, ← hτ]
  obtain ⟨⟨x8, y8⟩, o8, ⟨k8, k8', r8⟩, r80, r8j, t8⟩ := n8
  rw [← ho] at x8 o8 k8 k8' r8 r80 r8j t8 ⊢
  have cs : 40 + 4 + min (msJ 0) 8 * wdJ 0 + 4 + min (msJ 1) 8 * wdJ 1 + 4 + min (msJ 2) 8 * wdJ 2 + 4 + min (msJ 3) 8 * wdJ 3 + 4 + min (msJ 4) 8 * wdJ 4 + 4 + min (msJ 5) 8 * wdJ 5 + 4 + min (msJ 6) 8 * wdJ 6 + 4 + min (msJ 7) 8 * wdJ 7 = 424 := by decide
  have y8' : sl s8 = sl σ0 + 424 := by rw [y8]; exact congrArg (sl σ0 + ·) cs
  obtain ⟨u, hu⟩ : ∃ u, u = sR (aw s8 100 120) o 10 (some (nx s8)) := ⟨_, rfl⟩
  rw [← hu] at hτ
  have ux : nx u = o + 19 := by rw [hu]; show nx s8 + 1 = _; omega
  have τx : nx τ = o + 20 := by rw [hτ]; show nx u + 1 = _; omega
  have τs : sl τ = sl σ0 + 2944 := by rw [hτ]; show sl u + 2400 = _; rw [hu]; show sl s8 + 120 + 2400 = _; omega
  have τk : ∀ i, i < o + 18 → kd τ i = kd s8 i := fun i hi => by rw [hτ, kd_sR, kd_aw_old (by omega), hu, kd_sR, kd_aw_old (by omega)]
  have τk18 : kd τ (o + 18) = (100, 120) := by rw [hτ, kd_sR, kd_aw_old (by omega), hu, kd_sR, show o + 18 = nx s8 by omega, kd_aw_new]
  have τk19 : kd τ (o + 19) = (100, 2400) := by rw [hτ, kd_sR, ← ux, kd_aw_new]
  have τI : ∀ i, i < o + 18 → gI τ i = gI s8 i := fun i hi => by rw [hτ, gI_sR, gI_aw_old (by omega), hu, gI_sR, gI_aw_old (by omega)]
  have τL : ∀ i, i < o + 18 → gL τ i = gL s8 i := fun i hi => by rw [hτ, gL_sR, gL_aw_old (by omega), hu, gL_sR, gL_aw_old (by omega)]
  have τR : ∀ i, i < o + 18 → i ≠ o → gR τ i = gR s8 i := fun i hi h => by rw [hτ, gR_sR_row h, gR_aw_old (by omega), hu, gR_sR_row h, gR_aw_old (by omega)]
  have τRo : ∀ k, k ≠ 10 → k ≠ 11 → gR τ o k = gR s8 o k := fun k h1 h2 => by rw [hτ, gR_sR_own, up_ne _ _ _ h2, gR_aw_old (by omega), hu, gR_sR_own, up_ne _ _ _ h1, gR_aw_old (by omega)]
  have τR10 : gR τ o 10 = some (o + 18) := by rw [hτ, gR_sR_own, up_ne _ _ _ (by decide), gR_aw_old (by omega), hu, gR_sR_own, up_same]; congr 1
  have τR11 : gR τ o 11 = some (o + 19) := by rw [hτ, gR_sR_own, up_same, ux]
  have tb : ∀ i, i < 8 → TsI τ (o + 2 + 2 * i) (wdJ i) (msJ i) (o + 3 + 2 * i) (min (msJ i) 8 * wdJ i) := fun i hi => by
    obtain ⟨⟨a1, a2⟩, ⟨b1, b2'⟩, c1, ⟨d1, d2⟩⟩ := t8 i hi
    exact ⟨⟨by rw [τk _ (by omega)]; exact a1, by omega⟩, ⟨by rw [τI _ (by omega)]; exact b1, by rw [τI _ (by omega)]; exact b2'⟩, by rw [τR _ (by omega) (by omega)]; exact c1, ⟨by rw [τk _ (by omega)]; exact d1, by omega⟩⟩
  have m8 : ∀ i, i < 8 → min (msJ i) 8 ∈ chT (msJ i) := by decide +kernel
  have cp : ∀ i, i < 8 → cpc τ o i = min (msJ i) 8 := fun i hi => (tb i hi).cp
  refine ⟨τ, by rw [ho]; exact eF, τx, τs, fun i hi => ?_, ⟨⟨by rw [τk o (by omega)]; exact k8, by omega⟩, ⟨by rw [τRo 0 (by decide) (by decide)]; exact r80, τR10, τR11, fun j hj => by rw [τRo _ (by omega) (by omega)]; exact r8j j hj⟩, ⟨by rw [τk _ (by omega)]; exact k8', τk18, τk19⟩, fun j hj => ⟨_, _, tb j hj, m8 j hj⟩⟩, by rw [τR _ (by omega) (by omega)]; exact r8, ?_, ?_, fun j hj => (tb j hj).2.2.1⟩
  · obtain ⟨a, b, c, d⟩ := o8 i hi
    exact ⟨by rw [τk i (by omega)]; exact a, by rw [τI i (by omega)]; exact b, by rw [τL i (by omega)]; exact c, by rw [τR i (by omega) (by omega)]; exact d⟩
  · unfold us sum8; dsimp only
    rw [cp 0 (by decide), cp 1 (by decide), cp 2 (by decide), cp 3 (by decide), cp 4 (by decide), cp 5 (by decide), cp 6 (by decide), cp 7 (by decide)]; decide +kernel
  · unfold ct sum8; dsimp only
    rw [cp 0 (by decide), cp 1 (by decide), cp 2 (by decide), cp 3 (by decide), cp 4 (by decide), cp 5 (by decide), cp 6 (by decide), cp 7 (by decide)]; decide +kernel
end
