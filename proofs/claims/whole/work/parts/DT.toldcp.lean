section
/-! a told object's copy: table by table -/
theorem al_cp9 {i : Nat} (h : (1 ≤ i ∧ i ≤ 20) ∨ 166 ≤ i) : alB m_X9_copyFrom i = true := by
  rcases h with h | h
  · have : i = 1 ∨ i = 2 ∨ i = 3 ∨ i = 4 ∨ i = 5 ∨ i = 6 ∨ i = 7 ∨ i = 8 ∨ i = 9 ∨ i = 10 ∨ i = 11 ∨ i = 12 ∨ i = 13 ∨ i = 14 ∨ i = 15 ∨ i = 16 ∨ i = 17 ∨ i = 18 ∨ i = 19 ∨ i = 20 := by omega
    rcases this with h | h | h | h | h | h | h | h | h | h | h | h | h | h | h | h | h | h | h | h <;> subst h <;> decide
  · exact al_new rfl h
theorem sh_tab : ∀ j, j < 8 → shOK (3 + 2 * j) 2 = true := by decide +kernel
theorem Oww.blk {O : Nat → Nat} {σ : AH} {o j b i : Nat} (w : Oww O σ o) (hj : j < 8) (h : Aof O o j b) (h1 : o ≤ i) (h2 : i < o + 20) (h3 : i ≠ o + 3 + 2 * j) : i ≠ b := fun e => by
  rcases h with h | h
  · omega
  · rcases w.1 with z | z
    · omega
    · have := z.2 i h1 h2; rw [e] at this; omega
def CpJ (O0 : Nat → Nat) (σ0 : AH) (d : Nat) (row : Nat → Int32) (n : Nat) (C : Nat → Nat → Int32) (j : Nat) (O : Nat → Nat) (σ : AH) : Prop := Gf (Cof O0 d) σ0 σ ∧ (∀ i, i < nx σ0 → O i = O0 i) ∧ (Tst σ d ∧ Oww O σ d) ∧ (∀ i, i < j → TbG σ (d + 2 + 2 * i) (wdJ i) (msJ i) (nJ row n i) (CJ row C i)) ∧ RmO d σ0 σ ∧ gI σ d = gI σ0 d ∧ gR σ (d + 1) = gR σ0 (d + 1)
theorem CpJ.step {O0 O : Nat → Nat} {σ0 σ : AH} {d s n j : Nat} {row : Nat → Int32} {C : Nat → Nat → Int32} (hs : Tst σ0 s) (hc : Tct row n C σ0 s) (w0 : Oww O0 σ0 d) (ws : Oww O0 σ0 s) (dj : d + 20 ≤ s ∨ s + 20 ≤ d) (hA : nA row ≤ 24) (hj : j < 8) (h : CpJ O0 σ0 d row n C j O σ) : ∃ τ O', F_X8_copyFrom (d + 2 + 2 * j) (s + 2 + 2 * j) σ = some τ ∧ CpJ O0 σ0 d row n C (j + 1) O' τ := by
  obtain ⟨f, hO, ⟨hd, wd⟩, tb, rm, xd, xr⟩ := h
  have hP : ∀ i, Cof O0 d i → ¬ Cof O0 s i ∧ ¬ (166 ≤ i ∧ O0 i = 2) := fun i z => ⟨z.dis w0 ws dj, z.act w0⟩
  have hc' : Tct row n C σ s := hc.gf ws hA f hP
  have ws' : Oww O σ s := ws.gf f hO (fun i z => ⟨fun q => (hP i z).1 (Or.inl q), (hP i z).2⟩)
  have hs' : Tst σ s := hs.gf f (fun i q1 q2 z => (hP i z).1 (Or.inl ⟨q1, q2⟩))
  obtain ⟨t, ht⟩ : ∃ t, t = d + 2 + 2 * j := ⟨_, rfl⟩
  obtain ⟨t', ht'⟩ : ∃ t', t' = s + 2 + 2 * j := ⟨_, rfl⟩
  rw [← ht, ← ht']
  obtain ⟨b, c, d1, d2⟩ := hd.2.2.2 j hj
  obtain ⟨b2, c2, e1, e2⟩ := hs'.2.2.2 j hj
  have g1 := hc'.2.1 j hj
  rw [← ht] at d1
  rw [← ht'] at e1 g1
  have ab : Aof O d j b := by
    obtain ⟨x, x1, x2, x3⟩ := wd.2.2.1 j hj
    rw [← ht, d1.2.2.1] at x1; cases x1; exact x3
  have ab2 : Aof O s j b2 := by
    obtain ⟨x, x1, x2, x3⟩ := ws'.2.2.1 j hj
    rw [← ht', e1.2.2.1] at x1; cases x1; exact x3
  have d0 := wd.1
  have s0 := ws'.1
  have x166 := wd.2.1.1
  have bx := d1.2.2.2.2
  have hw := wdJ_pos j
  have hmw := mwJ j hj
  have hcm := chT_le _ (msJ_mem j) c d2
  have Dt : Cof O d t := Or.inl (by omega)
  have Db : Cof O d b := ab.cof hj
  have St : Cof O s t' := Or.inl (by omega)
  have Sb : Cof O s b2 := ab2.cof hj
  have dis : ∀ {i k : Nat}, Cof O d i → Cof O s k → i ≠ k := fun {i k} p q e => p.dis wd ws' dj (by rw [e]; exact q)
  have bt : b ≠ t := by rw [ht]; exact ab.ne wd hj hj
  obtain ⟨τ, b1, L1, q1, q2, q3, q4, q5⟩ := F_copyTab d1 g1 (by omega) (Nat.mul_le_mul_right _ hcm) (by rcases ab with z | z <;> omega) (fun b' hb' => by
    rw [e1.2.2.1] at hb'; cases hb'
    exact ⟨dis Db Sb, dis Dt Sb⟩) (dis Dt St) (dis Db St) bt (by omega) (by
    rcases d0 with z | z
    · rw [ht, z, show 1 + 2 + 2 * j = 3 + 2 * j by omega]; exact sh_tab j hj
    · exact shOK_new (by omega)) x166
  have fx := q5.1
  have nP : ∀ i, d ≤ i → i < d + 20 → i ≠ t → i ≠ d + 3 + 2 * j → ¬ (i = t ∨ i = b) := fun i h1 h2 h3 h4 z => by
    rcases z with z | z
    · exact h3 z
    · exact wd.blk hj ab h1 h2 h4 z
  -- the array that stands there now
  have now : ∃ c1, L1 = c1 * wdJ j ∧ c1 ∈ chT (msJ j) ∧ Aof (OwU O (nx σ) t) d j b1 ∧ sl τ + usR (msJ j) c * wdJ j ≤ sl σ + usR (msJ j) c1 * wdJ j ∧ nx τ + ctR (msJ j) c ≤ nx σ + ctR (msJ j) c1 := by
    rcases q4 with ⟨z1, z2, z3, z4⟩ | ⟨z1, z2, z3, z4, b', z5, z6⟩
    · exact ⟨c, z2, d2, by rw [z1]; exact ab.imp id (fun z => ⟨z.1, by rw [OwU_lo bx, z.2]⟩), by omega, by omega⟩
    · rw [e1.2.2.1] at z5; cases z5
      rw [e1.2.2.2.1] at z6
      have eL : L1 = c2 * wdJ j := by cases z6; rfl
      have lt : c < c2 := Nat.lt_of_mul_lt_mul_right (a := wdJ j) (by omega)
      obtain ⟨y1, y2⟩ := gw_tab _ (msJ_mem j) c d2 c2 e2 lt
      have mm : (usR (msJ j) c + c2) * wdJ j ≤ usR (msJ j) c2 * wdJ j := Nat.mul_le_mul_right _ y1
      have mm2 : (usR (msJ j) c + c2) * wdJ j = usR (msJ j) c * wdJ j + c2 * wdJ j := Nat.add_mul _ _ _
      exact ⟨c2, eL, e2, Or.inr ⟨by omega, by rw [z1, OwU_hi (Nat.le_refl _)]; exact ht⟩, by omega, by omega⟩
  obtain ⟨c1, n1, n2, n3, n4, n5⟩ := now
  have others : ∀ k, k < 8 → k ≠ j → ∃ bk ck, TsI σ (d + 2 + 2 * k) (wdJ k) (msJ k) bk (ck * wdJ k) ∧ TsI τ (d + 2 + 2 * k) (wdJ k) (msJ k) bk (ck * wdJ k) ∧ ck ∈ chT (msJ k) := fun k hk hne => by
    obtain ⟨bk, ck, k1, k2⟩ := hd.2.2.2 k hk
    exact ⟨bk, ck, k1, k1.gf q5 (nP _ (by omega) (by omega) (by omega) (by omega)), k2⟩
  refine ⟨τ, OwU O (nx σ) t, q1, f.step q5 (fun i hi z => ?_), fun i hi => by rw [OwU_lo (Nat.lt_of_lt_of_le hi f.1)]; exact hO i hi, ⟨⟨⟨?_, ?_⟩, ⟨?_, ?_, ?_, fun k hk => ?_⟩, ⟨?_, ?_, ?_⟩, fun k hk => ?_⟩, ⟨?_, ⟨by omega, ?_⟩, fun k hk => ?_, fun a x ha hx => ?_⟩⟩, fun i hi => ?_, rm.trans ?_, (q5.2.2 d (by have := hd.1.2; omega) (nP d (by omega) (by omega) (by omega) (by omega))).1.trans xd, (q5.2.2 (d + 1) (by have := hd.1.2; omega) (nP _ (by omega) (by omega) (by omega) (by omega))).2.2.trans xr⟩
  · rcases z with z | z
    · exact Or.inl (by omega)
    · rcases ab with y | y
      · exact Or.inl (by omega)
      · exact Or.inr ⟨by omega, j, hj, by rw [← hO i hi, z]; exact y.2⟩
  · rw [q5.2.1 d (by have := hd.1.2; omega)]; exact hd.1.1
  · have := hd.1.2; omega
  · rw [(q5.2.2 d (by have := hd.1.2; omega) (nP d (by omega) (by omega) (by omega) (by omega))).2.2]; exact hd.2.1.1
  · rw [(q5.2.2 d (by have := hd.1.2; omega) (nP d (by omega) (by omega) (by omega) (by omega))).2.2]; exact hd.2.1.2.1
  · rw [(q5.2.2 d (by have := hd.1.2; omega) (nP d (by omega) (by omega) (by omega) (by omega))).2.2]; exact hd.2.1.2.2.1
  · rw [(q5.2.2 d (by have := hd.1.2; omega) (nP d (by omega) (by omega) (by omega) (by omega))).2.2]; exact hd.2.1.2.2.2 k hk
  · rw [q5.2.1 _ (by have := hd.1.2; omega)]; exact hd.2.2.1.1
  · rw [q5.2.1 _ (by have := hd.1.2; omega)]; exact hd.2.2.1.2.1
  · rw [q5.2.1 _ (by have := hd.1.2; omega)]; exact hd.2.2.1.2.2
  · by_cases z : k = j
    · rw [z, ← ht]; exact ⟨b1, c1, by rw [← n1]; exact q3, n2⟩
    · obtain ⟨bk, ck, _, k2, k3⟩ := others k hk z
      exact ⟨bk, ck, k2, k3⟩
  · exact d0.imp id (fun z => ⟨z.1, fun i h1 h2 => by rw [OwU_lo (by have := wd.2.1.2; omega)]; exact z.2 i h1 h2⟩)
  · have := wd.2.1.2; omega
  · by_cases z : k = j
    · rw [z, ← ht]; exact ⟨b1, q3.2.2.1, q3.2.2.2.2, n3⟩
    · obtain ⟨x, x1, x2, x3⟩ := wd.2.2.1 k hk
      refine ⟨x, ?_, by omega, x3.imp id (fun y => ⟨y.1, by rw [OwU_lo x2]; exact y.2⟩)⟩
      rw [(q5.2.2 _ (by have := hd.1.2; omega) (nP _ (by omega) (by omega) (by omega) (by omega))).2.2]; exact x1
  · rw [(q5.2.2 (d + 1) (by have := hd.1.2; omega) (nP _ (by omega) (by omega) (by omega) (by omega))).2.2] at hx
    obtain ⟨a1, a2, a3, a4⟩ := wd.2.2.2 a x ha hx
    refine ⟨a1, by omega, by rw [OwU_lo a2]; exact a3, fun i y hy => ?_⟩
    rw [(q5.2.2 x a2 (fun z => by
      rcases z with z | z
      · exact Dt.act wd (by rw [← z]; exact ⟨a1, a3⟩)
      · exact Db.act wd (by rw [← z]; exact ⟨a1, a3⟩))).2.2] at hy
    obtain ⟨y1, y2, y3⟩ := a4 i y hy
    exact ⟨y1, by omega, by rw [OwU_lo y2]; exact y3⟩
  · by_cases z : i = j
    · rw [z, ← ht]; exact q2
    · obtain ⟨x, x1, x2, x3⟩ := wd.2.2.1 i (by omega)
      refine (tb i (by omega)).gf q5 x1 (nP _ (by omega) (by omega) (by omega) (by omega)) (fun y => ?_)
      rcases y with y | y
      · exact x3.ne wd (show i < 8 by omega) hj (by rw [← ht]; exact y)
      · exact x3.ne2 wd (show i < 8 by omega) hj z (by rw [y]; exact ab)
  · refine RmO.one hj (c := c) (c' := c1) (by rw [ht] at d1; exact d1.cp) (by rw [ht, n1] at q3; exact q3.cp) (fun k hk hne => ?_) n4 n5
    obtain ⟨bk, ck, k1, k2, k3⟩ := others k hk hne
    rw [k1.cp, k2.cp]
theorem cpK {σ τ : AH} {t t' d s k : Nat} {K : AH → Option AH} (r1 : gR σ d k = some t) (r2 : gR σ s k = some t') (k1 : kd σ t = (8, NO 8) ∧ t < nx σ) (k2 : kd σ t' = (8, NO 8) ∧ t' < nx σ) (e : F_X8_copyFrom t t' σ = some τ) : (bo (gR σ d k) fun b => if kd σ b = (8, NO 8) ∧ b < nx σ then (bo (gR σ s k) fun b' => if kd σ b' = (8, NO 8) ∧ b' < nx σ then (bv (F_X8_copyFrom b b' σ) K) else none) else none) = K τ := by
  rw [r1, bo_some, if_pos k1, r2, bo_some, if_pos k2, e, bv_some]
/-! the ACTS -/
def AcL (d : Nat) (σ τ : AH) : Prop := (kd τ = kd σ ∧ nx τ = nx σ ∧ sl τ = sl σ) ∧ gI τ = gI σ ∧ gL τ = gL σ ∧ ∀ i, i ≠ d + 1 → gR τ i = gR σ i
theorem acts_loop {g d s : Nat} {σ0 : AH} (k1 : kd σ0 d = (9, NO 9)) (k2 : d < nx σ0) (k3 : kd σ0 s = (9, NO 9)) (k4 : s < nx σ0) (r1 : gR σ0 d 0 = some (d + 1)) (r2 : gR σ0 s 0 = some (s + 1)) (a1 : kd σ0 (d + 1) = (103, 24)) (a2 : d + 1 < nx σ0) (a3 : kd σ0 (s + 1) = (103, 24)) (a4 : s + 1 < nx σ0) (hr : ∀ a b, a < 24 → gR σ0 (s + 1) a = some b → kd σ0 b = (0, NO 0) ∧ b < nx σ0) (hd : d = 1 ∨ 166 ≤ d) (n1 : s ≠ d + 1) (n2 : s ≠ d) : ∀ (j a : Nat) (σ : AH), a + j = 24 → AcL d σ0 σ → (∀ x, x < a → gR σ (d + 1) x = gR σ0 (s + 1) x) → ∃ τ, F_X9_copyFrom_2 (j + 1 + g) d s (nI a) σ = F_X9_copyFrom_2 (1 + g) d s (nI 24) τ ∧ AcL d σ0 τ ∧ ∀ x, x < 24 → gR τ (d + 1) x = gR σ0 (s + 1) x := by
  intro j
  induction j with
  | zero =>
    intro a σ ha h1 h2
    rw [show 0 + 1 + g = 1 + g by omega, show a = 24 by omega]
    exact ⟨σ, rfl, h1, fun x hx => h2 x (by omega)⟩
  | succ j ih =>
    intro a σ ha h1 h2
    obtain ⟨⟨e1, e2, e3⟩, e4, e5, e6⟩ := id h1
    have al9 : alB m_X9_copyFrom (d + 1) = true := al_cp9 (by omega)
    have sh9 : shOK (d + 1) a = true := by
      rcases hd with z | z
      · rw [z]; exact shOK_2
      · exact shOK_new (by omega)
    have sR1 : gR σ (s + 1) = gR σ0 (s + 1) := e6 _ (by omega)
    have go : ∀ v : Option Nat, gR σ0 (s + 1) a = v → ∃ τ, F_X9_copyFrom_2 (j + 1 + g) d s (nI (a + 1)) (sR σ (d + 1) a v) = F_X9_copyFrom_2 (1 + g) d s (nI 24) τ ∧ AcL d σ0 τ ∧ ∀ x, x < 24 → gR τ (d + 1) x = gR σ0 (s + 1) x := fun v hv => by
      refine ih (a + 1) (sR σ (d + 1) a v) (by omega) ⟨⟨e1, e2, e3⟩, e4, e5, fun i hi => by rw [gR_sR_row hi]; exact e6 i hi⟩ (fun x hx => ?_)
      rw [gR_sR_own]
      by_cases z : x = a
      · rw [z, up_same, hv]
      · rw [up_ne _ _ _ z]; exact h2 x (by omega)
    rw [show j + 1 + 1 + g = (j + 1 + g) + 1 by omega]
    have un : F_X9_copyFrom_2 (j + 1 + g + 1) d s (nI a) σ = B_X9_copyFrom_2 (F_X9_copyFrom_2 (j + 1 + g)) d s (nI a) σ := rfl
    have ia : inB (nI a) (kd σ (s + 1)).2 = true := by rw [e1, a3]; exact inB_n (by show a < 24; omega) (by decide)
    have ib : inB (nI a) (kd σ (d + 1)).2 = true := by rw [e1, a1]; exact inB_n (by show a < 24; omega) (by decide)
    rw [un]
    unfold B_X9_copyFrom_2
    rw [if_pos (by rw [e1]; exact k1), if_pos (by rw [e2]; exact k2), if_pos (by rw [e1]; exact k3), if_pos (by rw [e2]; exact k4), if_neg (show ¬ (24 : Int32) ≤ nI a from nI_ge (b := 24) (by omega) (by decide)), show gR σ d 0 = some (d + 1) by rw [e6 d (by omega)]; exact r1, bo_some, if_pos ⟨by rw [e1, a1], by rw [e2]; exact a2⟩, show gR σ s 0 = some (s + 1) by rw [e6 s n1]; exact r2, bo_some, if_pos ⟨by rw [e1, a3], by rw [e2]; exact a4⟩, if_pos ia, nI_clamp (by omega), nI_1]
    cases hv : gR σ (s + 1) a with
    | none =>
      obtain ⟨τ, t1, t2⟩ := go none (by rw [← sR1]; exact hv)
      refine ⟨τ, ?_, t2⟩
      rw [← t1]
      show (if alB m_X9_copyFrom (d + 1) = true then _ else none) = _
      rw [if_pos al9, if_pos ib, if_pos sh9, lt_e]
    | some b =>
      obtain ⟨τ, t1, t2⟩ := go (some b) (by rw [← sR1]; exact hv)
      obtain ⟨b1, b2'⟩ := hr a b (by omega) (by rw [← sR1]; exact hv)
      refine ⟨τ, ?_, t2⟩
      rw [← t1, on_some, if_pos ⟨by rw [e1]; exact b1, by rw [e2]; exact b2'⟩, if_pos al9, if_pos ib, if_pos sh9, lt_e]
end
