section
def opA (row : Nat → Int32) (a k : Nat) : Int32 := row (20 + 947 * a + 147 + 2 * k)
def arA (row : Nat → Int32) (a k : Nat) : Int32 := row (20 + 947 * a + 147 + 2 * k + 1)
theorem F_actAt {a : Nat} {σ : AH} : F_X12_actAt (nI a) σ = some (nI (20 + 947 * a), σ) := by
  simp only [F_X12_actAt, fa_lit, nI_add, pk_mul]
theorem F_clauseAt {a c : Nat} {σ : AH} : F_X12_clauseAt (nI a) (nI c) σ = some (nI (20 + 947 * a + 3 + 9 * c), σ) := by
  simp only [F_X12_clauseAt, F_actAt, bd_some, fa_lit, nI_add, pk_mul]
theorem inL {v : Int64} {σ : AH} : F_X12_in v (-1000000000 : Int64) (1000000000 : Int64) σ = some (if (chk v).isSome = true then 1 else 0, σ) := by
  unfold F_X12_in chk
  have h1 : (v < -1000000000) ↔ ¬ (-1000000000 ≤ v) := by rw [Int64.lt_iff_toInt_lt, Int64.le_iff_toInt_le]; omega
  have h2 : ((1000000000 : Int64) < v) ↔ ¬ (v ≤ 1000000000) := by rw [Int64.lt_iff_toInt_lt, Int64.le_iff_toInt_le]; omega
  by_cases c1 : -1000000000 ≤ v
  · rw [if_neg (fun q => h1.mp q c1)]
    by_cases c2 : v ≤ 1000000000
    · rw [if_neg (fun q => h2.mp q c2)]; simp [c1, c2]
    · rw [if_pos (h2.mpr c2)]; simp [c2]
  · rw [if_pos (h1.mpr c1)]; simp [c1]
/-- what reckon answers -/
def rkv (o : Int32) (a b : Int64) : Int64 :=
  if o = 8 then a + b else if o = 9 then a - b else if o = 10 then a * b else if o = 11 then (if b = 0 then 0 else a / b)
  else if o = 12 then (if b ≤ a then 0 else 1) else if o = 13 then (if a ≤ b then 0 else 1) else if o = 14 then (if a = b then 1 else 0)
  else if o = 15 then (if b ≤ a then b else a) else (if a ≤ b then b else a)
theorem F_reckon {o : Int32} {a b : Int64} {σ : AH} (h : gI σ 124 29 = 0) : ∃ τ, F_X12_reckon o a b σ = some (rkv o a b, τ) ∧ gI τ 124 29 = (if o = 11 ∧ b = 0 then 1 else 0) ∧ Ch [] [(124, 29)] σ τ := by
  have c0 := Ch.rf (cs := []) (fs := [(124, 29)]) σ
  unfold F_X12_reckon rkv
  by_cases h8 : o = 8
  · subst h8; exact ⟨σ, by simp, by simp [h], c0⟩
  by_cases h9 : o = 9
  · subst h9; exact ⟨σ, by simp, by simp [h], c0⟩
  by_cases h10 : o = 10
  · subst h10; exact ⟨σ, by simp, by simp [h], c0⟩
  by_cases h11 : o = 11
  · subst h11
    by_cases hb : b = 0
    · subst hb
      refine ⟨sI σ 124 29 1, ?_, ?_, Ch.sI1 (Or.inl (by simp))⟩
      · simp [F_X12_reckon_76, gI_sI_at]
      · simp [gI_sI_at]
    · refine ⟨sI σ 124 29 0, ?_, ?_, Ch.sI1 (Or.inl (by simp))⟩
      · simp [F_X12_reckon_76, gI_sI_at, hb]
      · simp [gI_sI_at, hb]
  have hn : gI σ 124 29 = if o = 11 ∧ b = 0 then 1 else 0 := by rw [h, if_neg (fun q => h11 q.1)]
  refine ⟨σ, ?_, hn, c0⟩
  simp only [h8, h9, h10, h11, if_false]
  by_cases h12 : o = 12
  · simp only [h12]; by_cases q : b ≤ a <;> simp [q]
  by_cases h13 : o = 13
  · simp only [h13]; by_cases q : a ≤ b <;> simp [q]
  by_cases h14 : o = 14
  · simp only [h14]; by_cases q : a = b <;> simp [q]
  by_cases h15 : o = 15
  · simp only [h15]; by_cases q : b ≤ a <;> simp [q]
  simp only [h12, h13, h14, h15, if_false]; by_cases q : a ≤ b <;> simp [q]
theorem rk_rkv {o : Int32} {a b : Int64} : rk o a b = if o = 11 ∧ b = 0 then none else chk (rkv o a b) := by
  unfold rk rkv
  by_cases h11 : o = 11
  · subst h11
    by_cases hb : b = 0
    · simp [hb]
    · simp [hb]
  · simp only [h11, false_and, if_false]
    by_cases h8 : o = 8
    · simp [h8]
    by_cases h9 : o = 9
    · simp [h9]
    by_cases h10 : o = 10
    · simp [h10]
    by_cases h12 : o = 12
    · simp [h12]
    by_cases h13 : o = 13
    · simp [h13]
    by_cases h14 : o = 14
    · simp [h14]
    by_cases h15 : o = 15
    · simp [h15]
    simp [h8, h9, h10, h12, h13, h14, h15]
theorem F_run_succ (f : Nat) : F_X12_run_11 (f + 1) = B_X12_run_11 (F_X12_run_11 f) := rfl
theorem ilt {x : Int32} {n : Nat} : ¬ (OfNat.ofNat n : Int32) ≤ x ↔ x < OfNat.ofNat n := by
  rw [Int32.le_iff_toInt_le, Int32.lt_iff_toInt_lt]; omega
set_option maxHeartbeats 4000000 in
theorem run_loop {a L g : Nat} {row st : Nat → Int32} (ha : a < 24) (hL : L ≤ 400) : ∀ (f k : Nat) (s : List Int64) (σ : AH) (res : Option Int64),
    gI σ 125 = row → gI σ 136 = st → gI σ 124 29 = 0 → StkR (gL σ 137) s → s.length ≤ 400 → k ≤ 400 → rrun (opA row a) (arA row a) st L f k s = some res →
    ∃ τ, F_X12_run_11 (f + 1 + g) (nI a) (nI L) (nI s.length) (nI k) σ = some τ ∧ (match res with | none => gI τ 124 29 = 1 | some v => gI τ 124 29 = 0 ∧ gL τ 124 30 = v) ∧ Ch [137] [(124, 29), (124, 30)] σ τ := by
  intro f
  induction f with
  | zero => intro k s σ res _ _ _ _ _ _ h; cases h
  | succ f ih =>
    intro k s σ res hr hst hb hS hs hk h
    have ef : f + 1 + 1 + g = (f + 1 + g) + 1 := by omega
    rw [ef, F_run_succ]
    unfold rrun at h
    unfold B_X12_run_11
    by_cases c1 : L ≤ k
    · rw [if_pos c1] at h
      rw [if_pos (nI_le c1 (by omega))]
      cases h
      unfold F_X12_run_254 F_X12_run_270
      by_cases c2 : s.length = 0
      · refine ⟨sL σ 124 30 0, ?_, ⟨hb, ?_⟩, Ch.sL1 (Or.inl (by simp))⟩
        · rw [c2, if_pos (by decide)]
        · rw [gL_sL_at]
          have : s = [] := List.eq_nil_of_length_eq_zero c2
          rw [this]; rfl
      · refine ⟨sL σ 124 30 (gL σ 137 0), ?_, ⟨hb, ?_⟩, Ch.sL1 (Or.inl (by simp))⟩
        · rw [if_neg (nI_nle (by omega) (by omega))]
        · rw [gL_sL_at, hS.bot (by omega)]
    · rw [if_neg c1] at h
      rw [if_neg (nI_ge (by omega) (by omega)), if_pos hb]
      have i1 : ((nI (20 + 947 * a) + (147 : Int32)) + ((2 : Int32) * nI k)) = nI (20 + 947 * a + 147 + 2 * k) := by simp only [fa_lit, nI_add, pk_mul]
      have i2 : nI (20 + 947 * a + 147 + 2 * k) + (1 : Int32) = nI (20 + 947 * a + 147 + 2 * k + 1) := by simp only [fa_lit, nI_add]
      have i3 : nI k + 1 = nI (k + 1) := nI_1 k
      simp only [F_actAt, bd_some, i1, i2, i3]
      rw [if_pos (inB_n (by omega) (by omega)), if_pos (inB_n (by omega) (by omega)), nI_clamp (by omega), nI_clamp (by omega), hr]
      have o1 : row (20 + 947 * a + 147 + 2 * k) = opA row a k := rfl
      have o2 : row (20 + 947 * a + 147 + 2 * k + 1) = arA row a k := rfl
      rw [o1, o2]
      generalize opA row a k = o at h ⊢
      generalize arA row a k = ag at h ⊢
      by_cases c8 : (8 : Int32) ≤ o
      · rw [if_pos c8]
        rw [if_neg (fun q => absurd c8 (ilt.mpr q))] at h
        by_cases c17 : (17 : Int32) ≤ o
        · rw [if_pos c17]
          rw [if_neg (fun q => absurd c17 (ilt.mpr q))] at h
          match s, hS, hs, h with
          | [], _, _, h => cases h
          | x :: t, hS, hs, h =>
            have hlen : (x :: t).length = t.length + 1 := rfl
            have j1 : nI (t.length + 1) - (1 : Int32) = nI t.length := nI_pred _
            have htop := hS.top
            have hle : t.length < 400 := by rw [hlen] at hs; omega
            simp only [hlen, j1]
            rw [if_pos (inB_n hle (by omega)), nI_clamp (by omega), htop]
            by_cases e17 : o = 17
            · simp only [e17, if_true] at h ⊢
              have hS2 : StkR (gL (sL σ 137 t.length (1 - x)) 137) ((1 - x) :: t) := by rw [gL_sL_own]; exact hS.tail.push _
              obtain ⟨τ, h1, h2, h3⟩ := ih (k + 1) ((1 - x) :: t) (sL σ 137 t.length (1 - x)) res hr hst hb hS2 hs (by omega) h
              rw [if_pos (inB_n hle (by omega))]
              exact ⟨τ, h1, h2, (Ch.sL1 (Or.inr (by simp))).trans h3⟩
            · simp only [e17, if_false] at h ⊢
              rw [if_pos (inB_n hle (by omega))]
              unfold F_X12_run_237
              have hm1 : nI (t.length + 1) + (-1) = nI t.length := pk_m1 _
              by_cases e18 : o = 18
              · simp only [e18, if_true] at h ⊢
                by_cases ex : x = 0
                · rw [if_pos ex] at h ⊢
                  by_cases ej : inB ag 401 = true
                  · rw [if_pos ej] at h
                    obtain ⟨j, hj, rfl⟩ := vp_in_of (inB_mp ej) (by decide)
                    rw [nI_clamp (by omega)] at h
                    exact ih j (x :: t) σ res hr hst hb hS hs (by omega) h
                  · rw [if_neg ej] at h; cases h
                · rw [if_neg ex] at h ⊢
                  rw [hm1]
                  exact ih (k + 1) t σ res hr hst hb hS.tail (by omega) (by omega) h
              · simp only [e18, if_false] at h ⊢
                by_cases ex : x = 1
                · rw [if_pos ex] at h ⊢
                  by_cases ej : inB ag 401 = true
                  · rw [if_pos ej] at h
                    obtain ⟨j, hj, rfl⟩ := vp_in_of (inB_mp ej) (by decide)
                    rw [nI_clamp (by omega)] at h
                    exact ih j (x :: t) σ res hr hst hb hS hs (by omega) h
                  · rw [if_neg ej] at h; cases h
                · rw [if_neg ex] at h ⊢
                  rw [hm1]
                  exact ih (k + 1) t σ res hr hst hb hS.tail (by omega) (by omega) h
        · rw [if_neg c17]
          rw [if_pos (ilt.mp c17)] at h
          match s, hS, hs, h with
          | [], _, _, h => cases h
          | [_], _, _, h => cases h
          | y :: x :: t, hS, hs, h =>
            have hlen : (y :: x :: t).length = t.length + 1 + 1 := rfl
            have hle : t.length + 1 < 400 := by rw [hlen] at hs; omega
            have m1 : nI (t.length + 1 + 1) + (-1) = nI (t.length + 1) := pk_m1 _
            have m2 : nI (t.length + 1) - (1 : Int32) = nI t.length := nI_pred _
            have hy : gL σ 137 (t.length + 1) = y := hS.top
            have hx : gL σ 137 t.length = x := hS.tail.top
            simp only [hlen, m1, m2]
            rw [if_pos (inB_n (by omega) (by omega)), if_pos (inB_n hle (by omega)), nI_clamp (by omega), nI_clamp (by omega), hx, hy]
            obtain ⟨τ, r1, r2, r3⟩ := F_reckon (o := o) (a := x) (b := y) hb
            rw [r1, bd_some, if_pos (inB_n (by omega) (by omega))]
            have g1 : gI (sL τ 137 t.length (rkv o x y)) 124 29 = gI τ 124 29 := rfl
            rw [g1, r2]
            dsimp only at h
            rw [rk_rkv] at h
            have r3' : Ch [137] [(124, 29), (124, 30)] σ τ := r3.mono (by simp) (by simp)
            have hrt : gI τ 125 = row := by rw [← hr]; exact r3.rI (by simp) (by simp)
            have hstt : gI τ 136 = st := by rw [← hst]; exact r3.rI (by simp) (by simp)
            have hLt : gL τ 137 = gL σ 137 := r3.rL (by simp) (by simp)
            unfold F_X12_run_175 F_X12_run_180
            by_cases cb : o = 11 ∧ y = 0
            · rw [if_pos cb] at h ⊢
              rw [if_neg (by decide), if_pos (Or.inr rfl)]
              cases h
              have e2 : F_X12_run_11 (f + 1 + g) = B_X12_run_11 (F_X12_run_11 (f + g)) := by
                have : f + 1 + g = (f + g) + 1 := by omega
                rw [this]; rfl
              rw [e2]
              unfold B_X12_run_11 F_X12_run_254 F_X12_run_270
              have b1 : gI (sI (sL τ 137 t.length (rkv o x y)) 124 29 1) 124 29 = 1 := gI_sI_at
              rw [b1, if_neg (by decide : ¬ (1 : Int32) = 0), ite_self, if_neg (nI_nle (by omega) (by omega))]
              refine ⟨_, rfl, (gI_sI_at (σ := sL τ 137 t.length (rkv o x y)) : gI (sI (sL τ 137 t.length (rkv o x y)) 124 29 1) 124 29 = 1), ?_⟩
              exact ((r3'.trans (Ch.sL1 (Or.inr (by simp)))).trans (Ch.sI1 (Or.inl (by simp)))).trans (Ch.sL1 (Or.inl (by simp)))
            · rw [if_neg cb] at h ⊢
              rw [if_pos rfl, inL, bd_some]
              cases hc : chk (rkv o x y) with
              | none =>
                rw [hc] at h
                cases h
                simp only [Option.isSome_none, Bool.false_eq_true, if_false, if_true]
                rw [if_pos (by simp)]
                have e2 : F_X12_run_11 (f + 1 + g) = B_X12_run_11 (F_X12_run_11 (f + g)) := by
                  have : f + 1 + g = (f + g) + 1 := by omega
                  rw [this]; rfl
                rw [e2]
                unfold B_X12_run_11 F_X12_run_254 F_X12_run_270
                have b1 : gI (sI (sL τ 137 t.length (rkv o x y)) 124 29 1) 124 29 = 1 := gI_sI_at
                rw [b1, if_neg (by decide : ¬ (1 : Int32) = 0), ite_self, if_neg (nI_nle (by omega) (by omega))]
                refine ⟨_, rfl, (gI_sI_at (σ := sL τ 137 t.length (rkv o x y)) : gI (sI (sL τ 137 t.length (rkv o x y)) 124 29 1) 124 29 = 1), ?_⟩
                exact ((r3'.trans (Ch.sL1 (Or.inr (by simp)))).trans (Ch.sI1 (Or.inl (by simp)))).trans (Ch.sL1 (Or.inl (by simp)))
              | some v =>
                have hv : v = rkv o x y := by
                  unfold chk at hc
                  split at hc
                  · cases hc; rfl
                  · cases hc
                rw [hc] at h
                simp only [Option.isSome_some, if_true]
                rw [if_neg (by decide), if_pos (by simp)]
                have hS2 : StkR (gL (sI (sL τ 137 t.length (rkv o x y)) 124 29 0) 137) (v :: t) := by
                  rw [gL_sI, gL_sL_own, hLt, ← hv]; exact hS.tail.tail.push _
                obtain ⟨τ2, h1, h2, h3⟩ := ih (k + 1) (v :: t) (sI (sL τ 137 t.length (rkv o x y)) 124 29 0) res hrt hstt gI_sI_at hS2 (by simp; omega) (by omega) h
                exact ⟨τ2, h1, h2, ((r3'.trans (Ch.sL1 (Or.inr (by simp)))).trans (Ch.sI1 (Or.inl (by simp)))).trans h3⟩
      · rw [if_neg c8]
        rw [if_pos (ilt.mp c8)] at h
        by_cases cl : s.length < 400
        · rw [if_pos cl] at h
          unfold F_X12_run_101
          have hp : nI s.length + 1 = nI (s.length + 1) := nI_1 _
          by_cases e0 : o = 0
          · rw [if_pos e0] at h ⊢
            rw [if_pos (inB_n cl (by omega)), nI_clamp (by omega), hp]
            obtain ⟨τ, h1, h2, h3⟩ := ih (k + 1) (ag.toInt64 :: s) (sL σ 137 s.length ag.toInt64) res hr hst hb (by rw [gL_sL_own]; exact hS.push _) (by simp; omega) (by omega) h
            exact ⟨τ, h1, h2, (Ch.sL1 (Or.inr (by simp))).trans h3⟩
          · rw [if_neg e0] at h ⊢
            by_cases ei : inB o 8 = true
            · rw [if_pos ei] at h ⊢
              rw [if_pos (inB_n cl (by omega)), nI_clamp (by omega), hp, hst]
              obtain ⟨τ, h1, h2, h3⟩ := ih (k + 1) ((st o.toNatClampNeg).toInt64 :: s) (sL σ 137 s.length (st o.toNatClampNeg).toInt64) res hr hst hb (by rw [gL_sL_own]; exact hS.push _) (by simp; omega) (by omega) h
              exact ⟨τ, h1, h2, (Ch.sL1 (Or.inr (by simp))).trans h3⟩
            · rw [if_neg ei] at h; cases h
        · rw [if_neg cl] at h; cases h
end
