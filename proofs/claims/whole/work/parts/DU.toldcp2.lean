section
/-! a told object's copy, all of it -/
theorem cpy_lt {f g : Nat → Int32} {n i : Nat} (h : i < n) : va_cpy f g 0 0 n i = f i := by
  unfold va_cpy
  rw [if_pos (by omega), Nat.zero_add, Nat.sub_zero]
theorem Gf.sI {P : Nat → Prop} {σ : AH} {o k : Nat} {v : Int32} (h : P o) : Gf P σ (sI σ o k v) := ⟨Nat.le_refl _, fun _ _ => rfl, fun i _ hp => ⟨gI_sI_row (fun e => hp (by rw [e]; exact h)), rfl, rfl⟩⟩
theorem Gf.sA {P : Nat → Prop} {σ : AH} {o : Nat} {g : Nat → Int32} (h : P o) : Gf P σ (sA σ o g) := ⟨Nat.le_refl _, fun _ _ => rfl, fun i _ hp => ⟨gI_sA_row (fun e => hp (by rw [e]; exact h)), rfl, rfl⟩⟩
theorem RmO.same {o : Nat} {σ τ : AH} (e1 : kd τ = kd σ) (e2 : nx τ = nx σ) (e3 : sl τ = sl σ) (e4 : ∀ j, j < 8 → gR τ (o + 2 + 2 * j) = gR σ (o + 2 + 2 * j)) : RmO o σ τ := by
  have e : ∀ j, j < 8 → cpc τ o j = cpc σ o j := fun j hj => by unfold cpc; rw [e1, e4 j hj]
  have eu : us τ o = us σ o := by unfold us sum8; dsimp only; rw [e 0 (by decide), e 1 (by decide), e 2 (by decide), e 3 (by decide), e 4 (by decide), e 5 (by decide), e 6 (by decide), e 7 (by decide)]
  have ec : ct τ o = ct σ o := by unfold ct sum8; dsimp only; rw [e 0 (by decide), e 1 (by decide), e 2 (by decide), e 3 (by decide), e 4 (by decide), e 5 (by decide), e 6 (by decide), e 7 (by decide)]
  exact ⟨by rw [eu, e3]; exact Nat.le_refl _, by rw [ec, e2]; exact Nat.le_refl _⟩
theorem F_told_copy {O : Nat → Nat} {σ : AH} {d s n : Nat} {row : Nat → Int32} {C : Nat → Nat → Int32} (hd : Tst σ d) (hs : Tst σ s) (hc : Tct row n C σ s) (wd : Oww O σ d) (ws : Oww O σ s) (dj : d + 20 ≤ s ∨ s + 20 ≤ d) (hA : nA row ≤ 24) :
    ∃ τ O', F_X9_copyFrom d s σ = some τ ∧ Tst τ d ∧ Tct row n C τ d ∧ Oww O' τ d ∧ (∀ i, i < nx σ → O' i = O i) ∧ Gf (Cof O d) σ τ ∧ RmO d σ τ := by
  have d0 := wd.1
  have s0 := ws.1
  have dx := hd.1.2
  have sx := hs.1.2
  obtain ⟨g, hg⟩ := BIGe 24 (by omega)
  have hP : ∀ i, Cof O d i → ¬ Cof O s i ∧ ¬ (166 ≤ i ∧ O i = 2) := fun i z => ⟨z.dis wd ws dj, z.act wd⟩
  have dd : d = 1 ∨ 166 ≤ d := d0.imp id (fun z => z.1)
  have ss : s = 1 ∨ 166 ≤ s := s0.imp id (fun z => z.1)
  obtain ⟨σa, a1, ⟨⟨k1, k2, k3⟩, k4, k5, k6⟩, a3⟩ := acts_loop (g := g) (d := d) (s := s) (σ0 := σ) hd.1.1 (by omega) hs.1.1 (by omega) hd.2.1.1 hs.2.1.1 hd.2.2.1.1 (by omega) hs.2.2.1.1 (by omega) (fun a b ha hb => ⟨hc.1.2.2 a b ha hb, (ws.2.2.2 a b ha hb).2.1⟩) dd (by omega) (by omega) 24 0 σ (by omega) ⟨⟨rfl, rfl, rfl⟩, rfl, rfl, fun _ _ => rfl⟩ (fun x hx => absurd hx (Nat.not_lt_zero x))
  obtain ⟨s1, hs1⟩ : ∃ x, x = sI σa d 1 (gI σa s 1) := ⟨_, rfl⟩
  have fa : Gf (Cof O d) σ σa := ⟨by rw [k2]; exact Nat.le_refl _, fun i _ => by rw [k1], fun i _ hp => ⟨by rw [k4], by rw [k5], k6 i (fun e => hp (Or.inl (by omega)))⟩⟩
  have f1 : Gf (Cof O d) σ s1 := fa.trans (by rw [hs1]; exact Gf.sI (Or.inl (by omega)))
  have K1 : kd s1 = kd σ := by rw [hs1]; exact k1
  have X1 : nx s1 = nx σ := by rw [hs1]; exact k2
  have R1 : ∀ i, i ≠ d + 1 → gR s1 i = gR σ i := fun i hi => by rw [hs1, gR_sI]; exact k6 i hi
  have R1d : ∀ x, x < 24 → gR s1 (d + 1) x = gR σ (s + 1) x := fun x hx => by rw [hs1, gR_sI]; exact a3 x hx
  have I1 : ∀ i, i ≠ d → gI s1 i = gI σ i := fun i hi => by rw [hs1, gI_sI_row hi, k4]
  have d1 : Tst s1 d := by
    refine ⟨⟨by rw [K1]; exact hd.1.1, by rw [X1]; exact dx⟩, by rw [R1 d (by omega)]; exact hd.2.1, by rw [K1]; exact hd.2.2.1, fun j hj => ?_⟩
    obtain ⟨b, c, ⟨t1, t2, t3, t4⟩, t5⟩ := hd.2.2.2 j hj
    exact ⟨b, c, ⟨by rw [K1, X1]; exact t1, by rw [I1 _ (by omega)]; exact t2, by rw [R1 _ (by omega)]; exact t3, by rw [K1, X1]; exact t4⟩, t5⟩
  have c1 : Tct row n C s1 s := hc.gf ws hA f1 hP
  have w1s : Oww O s1 s := ws.gf f1 (fun _ _ => rfl) (fun i z => ⟨fun q => (hP i z).1 (Or.inl q), (hP i z).2⟩)
  have h1s : Tst s1 s := hs.gf f1 (fun i q1 q2 z => (hP i z).1 (Or.inl ⟨q1, q2⟩))
  have w1d : Oww O s1 d := by
    refine ⟨d0, by rw [X1]; exact wd.2.1, fun j hj => ?_, fun a b ha hb => ?_⟩
    · obtain ⟨b, b1, b2', b3⟩ := wd.2.2.1 j hj
      exact ⟨b, by rw [R1 _ (by omega)]; exact b1, by rw [X1]; exact b2', b3⟩
    · rw [R1d a ha] at hb
      obtain ⟨q1, q2, q3, q4⟩ := ws.2.2.2 a b ha hb
      refine ⟨q1, by rw [X1]; exact q2, q3, fun i x hx => ?_⟩
      rw [R1 b (fun e => by
        rcases d0 with z | z
        · omega
        · have := z.2 (d + 1) (by omega) (by omega); rw [e] at q3; omega)] at hx
      rw [X1]; exact q4 i x hx
  have st : ∀ {j : Nat} {σ' : AH} {O' : Nat → Nat}, j < 8 → CpJ O s1 d row n C j O' σ' → ∃ τ O'', F_X8_copyFrom (d + 2 + 2 * j) (s + 2 + 2 * j) σ' = some τ ∧ CpJ O s1 d row n C (j + 1) O'' τ := fun hj h => h.step h1s c1 w1d w1s dj hA hj
  -- cells that a step's start has
  have kk : ∀ {j : Nat} {σ' : AH} {O' : Nat → Nat} (i : Nat), i < 8 → CpJ O s1 d row n C j O' σ' → gR σ' d (2 + i) = some (d + 2 + 2 * i) ∧ gR σ' s (2 + i) = some (s + 2 + 2 * i) ∧ (kd σ' (d + 2 + 2 * i) = (8, NO 8) ∧ d + 2 + 2 * i < nx σ') ∧ (kd σ' (s + 2 + 2 * i) = (8, NO 8) ∧ s + 2 + 2 * i < nx σ') := fun {j σ' O'} i hi h => by
    have t' : Tst σ' s := h1s.gf h.1 (fun x q1 q2 z => (hP x z).1 (Or.inl ⟨q1, q2⟩))
    obtain ⟨_, _, u1, _⟩ := h.2.2.1.1.2.2.2 i hi
    obtain ⟨_, _, u2, _⟩ := t'.2.2.2 i hi
    exact ⟨h.2.2.1.1.2.1.2.2.2 i hi, t'.2.1.2.2.2 i hi, u1.1, u2.1⟩
  have j0 : CpJ O s1 d row n C 0 O s1 := ⟨Gf.rf, fun _ _ => rfl, ⟨d1, w1d⟩, fun i hi => absurd hi (Nat.not_lt_zero i), RmO.rf, rfl, rfl⟩
  obtain ⟨t1, O1, e1, j1⟩ := st (j := 0) (by decide) j0
  obtain ⟨t2, O2, e2, j2⟩ := st (j := 1) (by decide) j1
  obtain ⟨t3, O3, e3, j3⟩ := st (j := 2) (by decide) j2
  obtain ⟨t4, O4, e4, j4⟩ := st (j := 3) (by decide) j3
  obtain ⟨t5, O5, e5, j5⟩ := st (j := 4) (by decide) j4
  obtain ⟨t6, O6, e6, j6⟩ := st (j := 5) (by decide) j5
  obtain ⟨t7, O7, e7, j7⟩ := st (j := 6) (by decide) j6
  obtain ⟨t8, O8, e8, j8⟩ := st (j := 7) (by decide) j7
  obtain ⟨v1, v2, v3, v4⟩ := kk 0 (by decide) j0
  obtain ⟨y1, y2, y3, y4⟩ := kk 1 (by decide) j1
  obtain ⟨z1, z2, z3, z4⟩ := kk 2 (by decide) j2
  obtain ⟨p1, p2, p3, p4⟩ := kk 3 (by decide) j3
  obtain ⟨q1, q2, q3, q4⟩ := kk 4 (by decide) j4
  obtain ⟨r1, r2, r3, r4⟩ := kk 5 (by decide) j5
  obtain ⟨m1, m2, m3, m4⟩ := kk 6 (by decide) j6
  obtain ⟨l1, l2, l3, l4⟩ := kk 7 (by decide) j7
  obtain ⟨f8, O8e, ⟨d8, w8⟩, tb8, rm8, xd8, xr8⟩ := id j8
  have s8 : Tst t8 s := h1s.gf f8 (fun i q1 q2 z => (hP i z).1 (Or.inl ⟨q1, q2⟩))
  have c8 : Tct row n C t8 s := c1.gf w1s hA f8 hP
  have x8 := f8.1
  obtain ⟨u9, hu9⟩ : ∃ x, x = sA t8 (d + 18) (va_cpy (gI t8 (s + 18)) (gI t8 (d + 18)) 0 0 120) := ⟨_, rfl⟩
  obtain ⟨u10, hu10⟩ : ∃ x, x = sA u9 (d + 19) (va_cpy (gI u9 (s + 19)) (gI u9 (d + 19)) 0 0 2400) := ⟨_, rfl⟩
  obtain ⟨τ, hτ⟩ : ∃ x, x = sI (sI (sI (sI u10 d 12 (gI u10 s 12)) d 13 (gI (sI u10 d 12 (gI u10 s 12)) s 13)) d 14 (gI (sI (sI u10 d 12 (gI u10 s 12)) d 13 (gI (sI u10 d 12 (gI u10 s 12)) s 13)) s 14)) d 15 (gI (sI (sI (sI u10 d 12 (gI u10 s 12)) d 13 (gI (sI u10 d 12 (gI u10 s 12)) s 13)) d 14 (gI (sI (sI u10 d 12 (gI u10 s 12)) d 13 (gI (sI u10 d 12 (gI u10 s 12)) s 13)) s 14)) s 15) := ⟨_, rfl⟩
  have gs : ∀ k, gI u10 s k = gI t8 s k := fun k => by rw [hu10, gI_sA_row (by omega), hu9, gI_sA_row (by omega)]
  have nsd : s ≠ d := by omega
  have hτ' : τ = sI (sI (sI (sI u10 d 12 (row 10)) d 13 (row 11)) d 14 (row 8)) d 15 (row 12) := by
    rw [hτ]
    simp only [gI_sI_row nsd, gs]
    rw [c8.2.2.2.1, c8.2.2.2.2.1, c8.2.2.2.2.2.1, c8.2.2.2.2.2.2]
  have F3 : Gf (fun i => i = d ∨ i = d + 18 ∨ i = d + 19) t8 τ := by
    rw [hτ', hu10, hu9]
    exact (((((Gf.sA (Or.inr (Or.inl rfl))).trans (Gf.sA (Or.inr (Or.inr rfl)))).trans (Gf.sI (Or.inl rfl))).trans (Gf.sI (Or.inl rfl))).trans (Gf.sI (Or.inl rfl))).trans (Gf.sI (Or.inl rfl))
  have Rτ : gR τ = gR t8 := by rw [hτ', hu10, hu9]; rfl
  have Kτ : kd τ = kd t8 := by rw [hτ', hu10, hu9]; rfl
  have Xτ : nx τ = nx t8 := by rw [hτ', hu10, hu9]; rfl
  have Iτ : ∀ i, i ≠ d → i ≠ d + 18 → i ≠ d + 19 → gI τ i = gI t8 i := fun i h1 h2 h3 => by rw [hτ', gI_sI_row h1, gI_sI_row h1, gI_sI_row h1, gI_sI_row h1, hu10, gI_sA_row h3, hu9, gI_sA_row h2]
  have Id : ∀ k, k ≠ 12 → k ≠ 13 → k ≠ 14 → k ≠ 15 → gI τ d k = gI t8 d k := fun k h1 h2 h3 h4 => by rw [hτ', gI_sI_ne h4, gI_sI_ne h3, gI_sI_ne h2, gI_sI_ne h1, hu10, gI_sA_row (by omega), hu9, gI_sA_row (by omega)]
  have d18 : gI τ (d + 18) = va_cpy (gI t8 (s + 18)) (gI t8 (d + 18)) 0 0 120 := by rw [hτ', gI_sI_row (by omega), gI_sI_row (by omega), gI_sI_row (by omega), gI_sI_row (by omega), hu10, gI_sA_row (by omega), hu9, gI_sA_own]
  have d19 : gI τ (d + 19) = va_cpy (gI t8 (s + 19)) (gI u9 (d + 19)) 0 0 2400 := by rw [hτ', gI_sI_row (by omega), gI_sI_row (by omega), gI_sI_row (by omega), gI_sI_row (by omega), hu10, gI_sA_own, show gI u9 (s + 19) = gI t8 (s + 19) by rw [hu9, gI_sA_row (by omega)]]
  have ald : alB m_X9_copyFrom d = true := al_cp9 (by omega)
  have al18 : alB m_X9_copyFrom (d + 18) = true := al_cp9 (by omega)
  have al19 : alB m_X9_copyFrom (d + 19) = true := al_cp9 (by omega)
  have b120 : (Int32.ofNat 120).toNatClampNeg = 120 := by decide
  have b2400 : (Int32.ofNat 2400).toNatClampNeg = 2400 := by decide
  have eF : F_X9_copyFrom d s σ = some τ := by
    unfold F_X9_copyFrom
    rw [if_pos hd.1.1, if_pos (show d < nx σ by omega), if_pos hs.1.1, if_pos (show s < nx σ by omega)]
    have ea : F_X9_copyFrom_2 BIG d s (0 : Int32) σ = F_X9_copyFrom_2 (1 + g) d s (nI 24) σa := by rw [hg]; exact a1
    rw [ea, Nat.add_comm 1 g]
    have un : F_X9_copyFrom_2 (g + 1) d s (nI 24) σa = B_X9_copyFrom_2 (F_X9_copyFrom_2 g) d s (nI 24) σa := rfl
    rw [un]
    unfold B_X9_copyFrom_2
    rw [if_pos (by rw [k1]; exact hd.1.1), if_pos (by rw [k2]; omega), if_pos (by rw [k1]; exact hs.1.1), if_pos (by rw [k2]; omega), if_pos (show (24 : Int32) ≤ nI 24 by decide), if_pos ald, ← hs1]
    rw [cpK v1 v2 v3 v4 e1, cpK y1 y2 y3 y4 e2, cpK z1 z2 z3 z4 e3, cpK p1 p2 p3 p4 e4, cpK q1 q2 q3 q4 e5, cpK r1 r2 r3 r4 e6, cpK m1 m2 m3 m4 e7, cpK l1 l2 l3 l4 e8]
    rw [s8.2.1.2.1, bo_some, if_pos ⟨by rw [s8.2.2.1.2.1], by omega⟩, d8.2.1.2.1, bo_some, if_pos ⟨by rw [d8.2.2.1.2.1], by omega⟩, bo_some, if_pos ⟨by rw [d8.2.2.1.2.1], by omega⟩, d8.2.2.1.2.1, s8.2.2.1.2.1]
    show (if ¬ Int32.ofNat 120 < 0 then _ else none) = _
    rw [if_pos (by decide), show (Int32.ofNat (100, 120).2).toNatClampNeg = 120 from b120, if_pos (by decide), if_pos (by decide), if_pos al18, lt_e, ← hu9]
    have e9 : gR u9 = gR t8 := by rw [hu9]; rfl
    have k9 : kd u9 = kd t8 := by rw [hu9]; rfl
    have n9 : nx u9 = nx t8 := by rw [hu9]; rfl
    rw [e9, k9, n9, s8.2.1.2.2.1, bo_some, if_pos ⟨by rw [s8.2.2.1.2.2], by omega⟩, d8.2.1.2.2.1, bo_some, if_pos ⟨by rw [d8.2.2.1.2.2], by omega⟩, bo_some, if_pos ⟨by rw [d8.2.2.1.2.2], by omega⟩, d8.2.2.1.2.2, s8.2.2.1.2.2]
    show (if ¬ Int32.ofNat 2400 < 0 then _ else none) = _
    rw [if_pos (by decide), show (Int32.ofNat (100, 2400).2).toNatClampNeg = 2400 from b2400, if_pos (by decide), if_pos (by decide), if_pos al19, lt_e, ← hu10, if_pos ald, if_pos ald, if_pos ald, lt_e, if_pos ald, ← hτ]
  have ft8 : Gf (Cof O d) σ t8 := f1.trans f8
  have fend : Gf (Cof O d) σ τ := ft8.trans (F3.mono (fun i hi => Or.inl (by omega)))
  refine ⟨τ, O8, eF, ⟨⟨by rw [Kτ]; exact d8.1.1, by rw [Xτ]; exact d8.1.2⟩, by rw [Rτ]; exact d8.2.1, by rw [Kτ]; exact d8.2.2.1, fun j hj => ?_⟩, ⟨⟨?_, fun a ha => ?_, fun a b ha hb => ?_⟩, fun j hj => ?_, ⟨fun i hi => ?_, fun i hi => ?_⟩, ?_, ?_, ?_, ?_⟩, ?_, fun i hi => O8e i (by rw [X1]; exact hi), fend, ?_⟩
  · obtain ⟨b, c, u1, u2⟩ := d8.2.2.2 j hj
    exact ⟨b, c, u1.gf F3 (by omega), u2⟩
  · rw [Id 1 (by decide) (by decide) (by decide) (by decide), xd8, hs1, gI_sI_at, k4]; exact hc.1.1
  · obtain ⟨b, b1, b2'⟩ := hc.1.2.1 a ha
    have qa := ws.2.2.2 a b (by omega) b1
    refine ⟨b, by rw [Rτ, xr8, R1d a (by omega)]; exact b1, b2'.g fend (fun z => z.act wd ⟨qa.1, qa.2.2.1⟩) (fun j x hx z => ?_)⟩
    obtain ⟨x1, x2, x3⟩ := qa.2.2.2 j x hx
    exact z.act wd ⟨x1, x3⟩
  · rw [Rτ, xr8, R1d a ha] at hb
    rw [fend.2.1 b (ws.2.2.2 a b ha hb).2.1]; exact hc.1.2.2 a b ha hb
  · obtain ⟨b, b1, b2', b3⟩ := w8.2.2.1 j hj
    exact (tb8 j hj).gf F3 b1 (by omega) (fun z => by
      rcases z with z | z | z
      · exact w8.blk hj b3 (i := d) (by omega) (by omega) (by omega) z.symm
      · exact w8.blk hj b3 (i := d + 18) (by omega) (by omega) (by omega) z.symm
      · exact w8.blk hj b3 (i := d + 19) (by omega) (by omega) (by omega) z.symm)
  · rw [d18, cpy_lt hi]; exact c8.2.2.1.1 i hi
  · rw [d19, cpy_lt hi]; exact c8.2.2.1.2 i hi
  · rw [hτ', gI_sI_ne (by decide), gI_sI_ne (by decide), gI_sI_ne (by decide), gI_sI_at]
  · rw [hτ', gI_sI_ne (by decide), gI_sI_ne (by decide), gI_sI_at]
  · rw [hτ', gI_sI_ne (by decide), gI_sI_at]
  · rw [hτ', gI_sI_at]
  · unfold Oww; rw [Rτ, Xτ]; exact w8
  · have r1' : RmO d σ s1 := RmO.same K1 X1 (by rw [hs1]; exact k3) (fun j hj => R1 _ (by omega))
    have r2' : RmO d t8 τ := RmO.same Kτ Xτ (by rw [hτ', hu10, hu9]; rfl) (fun j hj => by rw [Rτ])
    exact (r1'.trans rm8).trans r2'
end
