section
/-! THE CLASS: how a SUM or TEST is worked out -/
def jnv (o : Int32) (a b : Int64) : Int64 :=
  if o = 2 then a + b else if o = 3 then a - b else if o = 4 then a * b else if o = 5 then a / b
  else if o = 6 then (if b ≤ a then b else a) else if o = 7 then (if a ≤ b then b else a) else if o = 8 then (if b ≤ a then 0 else 1) else if o = 9 then (if a ≤ b then 0 else 1) else (if a = b then 1 else 0)
def jn (o : Int32) (a b : Int64) : Option Int64 := if o = 5 ∧ b = 0 then none else chk (jnv o a b)
def ob (x : Option Int64) : Int64 := match x with | none => BRK | some v => v
theorem chk_brk {v x : Int64} (h : chk v = some x) : x = v ∧ x ≠ BRK := by
  unfold chk at h
  by_cases c : -1000000000 ≤ v ∧ v ≤ 1000000000
  · rw [if_pos c] at h
    cases h
    refine ⟨rfl, fun e => ?_⟩
    rw [e] at c
    exact absurd c.1 (by decide)
  · rw [if_neg c] at h; cases h
theorem F_joined169 {v : Int64} {σ : AH} : F_X3_joined_169 v σ = some (ob (chk v), σ) := by
  unfold F_X3_joined_169 F_X3_joined_187 chk
  have h2 : ((1000000000 : Int64) < v) ↔ ¬ (v ≤ 1000000000) := by rw [Int64.lt_iff_toInt_lt, Int64.le_iff_toInt_le]; omega
  by_cases c2 : v ≤ 1000000000
  · rw [if_neg (fun q => h2.mp q c2)]
    by_cases c1 : -1000000000 ≤ v
    · rw [if_pos c1, if_pos ⟨c1, c2⟩]; rfl
    · rw [if_neg c1, if_neg (fun q => c1 q.1)]; rfl
  · rw [if_pos (h2.mpr c2), if_neg (fun q => c2 q.2)]; rfl
theorem F_joined {o : Int32} {a b : Int64} {σ : AH} : F_X3_joined o a b σ = some (ob (jn o a b), σ) := by
  unfold F_X3_joined F_X3_joined_87 F_X3_joined_103 F_X3_joined_119 F_X3_joined_135 F_X3_joined_151 F_X3_joined_167 jn jnv
  simp only [F_joined169]
  by_cases h2 : o = 2
  · subst h2; simp
  by_cases h3 : o = 3
  · subst h3; simp
  by_cases h4 : o = 4
  · subst h4; simp
  by_cases h5 : o = 5
  · subst h5
    by_cases hb : b = 0
    · subst hb
      have : chk BRK = none := by decide
      simp [this]
    · simp [hb]
  simp only [h2, h3, h4, h5, if_false, false_and]
  by_cases h6 : o = 6
  · simp only [h6, if_true]; by_cases q : b ≤ a <;> simp [q]
  by_cases h7 : o = 7
  · simp only [h7, h6, if_true, if_false]; by_cases q : a ≤ b <;> simp [q]
  by_cases h8 : o = 8
  · simp only [h8, h7, h6, if_true, if_false]; by_cases q : b ≤ a <;> simp [q]
  by_cases h9 : o = 9
  · simp only [h9, h8, h7, h6, if_true, if_false]; by_cases q : a ≤ b <;> simp [q]
  simp only [h6, h7, h8, h9, if_false]; by_cases q : a = b <;> simp [q]
theorem jn_brk {o : Int32} {a b x : Int64} (h : jn o a b = some x) : x ≠ BRK := by
  unfold jn at h
  by_cases c : o = 5 ∧ b = 0
  · rw [if_pos c] at h; cases h
  · rw [if_neg c] at h; exact (chk_brk h).2
def crun (cd st : Nat → Int32) (L : Nat) : Nat → Nat → List Int64 → Option (Option Int64) := fun f => match f with
  | 0 => fun _ _ => none
  | f + 1 => fun i s =>
    if L ≤ i then some none
    else if (1 : Int32) < cd i &&& 15 then
      (if (11 : Int32) ≤ cd i &&& 15 then (match s with
        | [] => some none
        | a :: t => if cd i &&& 15 = 15 then some (some (bot (a :: t)))
          else if cd i &&& 15 = 11 then crun cd st L f (i + 1) ((1 - a) :: t)
          else if cd i &&& 15 = 14 then (if a = 0 then some none else crun cd st L f (i + 1) t)
          else if decide (a = 0) = decide (cd i &&& 15 = 13) then crun cd st L f (i + 1) t
          else if inB (cd i >>> ((4 : Int32) &&& 31)) 401 = true then (if cd i >>> ((4 : Int32) &&& 31) ≤ nI i then crun cd st L f (i + 1) (a :: t) else crun cd st L f (cd i >>> ((4 : Int32) &&& 31)).toNatClampNeg (a :: t)) else none)
      else (match s with
        | b :: a :: t => (match jn (cd i &&& 15) a b with | none => some none | some v => crun cd st L f (i + 1) (v :: t))
        | _ => some none))
    else if s.length < 64 then (if cd i &&& 15 = 0 then crun cd st L f (i + 1) ((cd i >>> ((4 : Int32) &&& 31)).toInt64 :: s)
      else if inB (cd i >>> ((4 : Int32) &&& 31)) 7 = true then crun cd st L f (i + 1) ((st (cd i >>> ((4 : Int32) &&& 31)).toNatClampNeg).toInt64 :: s) else none)
    else some none
theorem eval_loop {b L g : Nat} {cd st : Nat → Int32} (hL : L ≤ 400) : ∀ (f i : Nat) (s : List Int64) (σ : AH) (res : Option Int64),
    kd σ b = (100, L) → b < nx σ → gI σ b = cd → gI σ 32 = st → StkR (gL σ 33) s → s.length ≤ 64 → i ≤ 400 → b ≠ 33 → crun cd st L f i s = some res →
    ∃ τ, F_X3_evaluate_55 (f + g) b (nI s.length) (nI i) σ = some (ob res, τ) ∧ Ch [33] [] σ τ := by
  intro f
  induction f with
  | zero => intro i s σ res _ _ _ _ _ _ _ _ h; cases h
  | succ f ih =>
    intro i s σ res hk hb hc hst hS hs hi hne h
    have ef : f + 1 + g = (f + g) + 1 := by omega
    have e : F_X3_evaluate_55 (f + 1 + g) = B_X3_evaluate_55 (F_X3_evaluate_55 (f + g)) := by rw [ef]; rfl
    rw [e]
    unfold crun at h
    unfold B_X3_evaluate_55
    have gk : (kd σ b).1 = 100 ∧ b < nx σ := ⟨by rw [hk], hb⟩
    have gl : (kd σ b).2 = L := by rw [hk]
    rw [if_pos gk, gl, if_neg (nI_pos (by omega)), show Int32.ofNat L = nI L from rfl]
    by_cases c1 : L ≤ i
    · rw [if_pos c1] at h
      cases h
      rw [if_pos (nI_le c1 (by omega))]
      exact ⟨σ, rfl, Ch.rf _⟩
    · rw [if_neg c1] at h
      rw [if_neg (nI_ge (by omega) (by omega)), if_pos (inB_n (by omega) (by omega)), if_pos (inB_n (by omega) (by omega)), nI_clamp (by omega), hc]
      generalize ho : cd i &&& 15 = o at h ⊢
      generalize hr : cd i >>> ((4 : Int32) &&& 31) = r at h ⊢
      have nxt : ∀ (s' : List Int64) (σ' : AH), Ch [33] [] σ σ' → StkR (gL σ' 33) s' → s'.length ≤ 64 → crun cd st L f (i + 1) s' = some res → ∃ τ, F_X3_evaluate_350 (F_X3_evaluate_55 (f + g)) b (nI s'.length) (nI i) σ' = some (ob res, τ) ∧ Ch [33] [] σ τ := by
        intro s' σ' k1 k2 k3 k4
        unfold F_X3_evaluate_350
        have hk' : kd σ' b = (100, L) := by rw [k1.1]; exact hk
        have hb' : b < nx σ' := by rw [k1.2.1]; exact hb
        rw [if_pos ⟨by rw [hk'], hb'⟩, nI_1]
        obtain ⟨τ, t1, t2⟩ := ih (i + 1) s' σ' res hk' hb' (by rw [k1.rI (by simp; exact hne) (by simp)]; exact hc) (by rw [k1.rI (by simp) (by simp)]; exact hst) k2 k3 (by omega) hne k4
        exact ⟨τ, t1, k1.trans t2⟩
      by_cases c2 : (1 : Int32) < o
      · rw [if_pos c2] at h ⊢
        by_cases c11 : (11 : Int32) ≤ o
        · rw [if_pos c11] at h ⊢
          match s, hS, hs, h with
          | [], _, _, h =>
            cases h
            rw [if_neg (by decide)]
            exact ⟨σ, rfl, Ch.rf _⟩
          | x :: t, hS, hs, h =>
            have hlen : (x :: t).length = t.length + 1 := rfl
            have htl : t.length < 64 := by rw [hlen] at hs; omega
            have htop := hS.top
            have j1 : nI (t.length + 1) - (1 : Int32) = nI t.length := nI_pred _
            rw [hlen, if_pos (by rw [show (1 : Int32) = nI 1 from rfl]; exact nI_le (by omega) (by omega))]
            dsimp only at h
            by_cases c15 : o = 15
            · rw [if_pos c15] at h ⊢
              cases h
              exact ⟨σ, by rw [hS.bot (by simp)]; rfl, Ch.rf _⟩
            · rw [if_neg c15] at h ⊢
              by_cases d11 : o = 11
              · rw [if_pos d11] at h ⊢
                rw [j1, if_pos (inB_n htl (by omega)), if_pos (inB_n htl (by omega)), nI_clamp (by omega), htop]
                exact nxt ((1 - x) :: t) (sL σ 33 t.length (1 - x)) (Ch.sL1 (Or.inr (by simp))) (by rw [gL_sL_own]; exact hS.tail.push _) hs h
              · rw [if_neg d11] at h ⊢
                have e347 : crun cd st L f (i + 1) t = some res → ∃ τ, F_X3_evaluate_347 (F_X3_evaluate_55 (f + g)) b (nI (t.length + 1)) (nI i) σ = some (ob res, τ) ∧ Ch [33] [] σ τ := by
                  intro h'
                  unfold F_X3_evaluate_347
                  rw [if_pos gk, pk_m1]
                  exact nxt t σ (Ch.rf _) hS.tail (by omega) h'
                by_cases d14 : o = 14
                · rw [if_pos d14] at h ⊢
                  unfold F_X3_evaluate_267
                  rw [if_pos gk, j1, if_pos (inB_n htl (by omega)), nI_clamp (by omega), htop]
                  by_cases x0 : x = 0
                  · rw [if_pos x0] at h ⊢
                    cases h
                    exact ⟨σ, rfl, Ch.rf _⟩
                  · rw [if_neg x0] at h ⊢
                    unfold F_X3_evaluate_285
                    rw [if_pos gk, if_pos d14]
                    exact e347 h
                · rw [if_neg d14] at h ⊢
                  unfold F_X3_evaluate_285
                  rw [if_pos gk, if_neg d14, j1, if_pos (inB_n htl (by omega)), nI_clamp (by omega), htop]
                  have jmp : ∀ y0 y1 : Int32, y1 = y0 → (if inB r 401 = true then (if r ≤ nI i then crun cd st L f (i + 1) (x :: t) else crun cd st L f r.toNatClampNeg (x :: t)) else none) = some res → ∃ τ, F_X3_evaluate_323 (F_X3_evaluate_55 (f + g)) b (nI (t.length + 1)) (nI i) r y0 y1 σ = some (ob res, τ) ∧ Ch [33] [] σ τ := by
                    intro y0 y1 hy h'
                    unfold F_X3_evaluate_323 F_X3_evaluate_342
                    rw [if_pos gk, if_pos hy]
                    by_cases ej : inB r 401 = true
                    · rw [if_pos ej] at h'
                      by_cases cr : r ≤ nI i
                      · rw [if_pos cr] at h' ⊢
                        rw [if_pos gk]
                        exact nxt (x :: t) σ (Ch.rf _) hS hs h'
                      · rw [if_neg cr] at h' ⊢
                        obtain ⟨q, hq, rfl⟩ := vp_in_of (inB_mp ej) (by decide)
                        have hq1 : 1 ≤ q := by
                          rcases Nat.eq_zero_or_pos q with z | z
                          · subst z; exact absurd (nI_le (Nat.zero_le i) (by omega)) cr
                          · exact z
                        rw [if_pos gk]
                        unfold F_X3_evaluate_350
                        have m1 : nI q - (1 : Int32) = nI (q - 1) := pk_sub (b := 1) hq1
                        rw [if_pos gk, m1, nI_1, show q - 1 + 1 = q by omega]
                        rw [nI_clamp (by omega)] at h'
                        exact ih q (x :: t) σ res hk hb hc hst hS hs (by omega) hne h'
                    · rw [if_neg ej] at h'; cases h'
                  have stay : ∀ y0 y1 : Int32, ¬ y1 = y0 → crun cd st L f (i + 1) t = some res → ∃ τ, F_X3_evaluate_323 (F_X3_evaluate_55 (f + g)) b (nI (t.length + 1)) (nI i) r y0 y1 σ = some (ob res, τ) ∧ Ch [33] [] σ τ := by
                    intro y0 y1 hy h'
                    unfold F_X3_evaluate_323
                    rw [if_pos gk, if_neg hy]
                    exact e347 h'
                  unfold F_X3_evaluate_311
                  by_cases x0 : x = 0
                  · rw [if_pos x0]
                    rw [decide_eq_true x0] at h
                    by_cases d13 : o = 13
                    · rw [if_pos gk, if_pos d13]
                      rw [decide_eq_true d13, if_pos rfl] at h
                      exact stay _ _ (by decide) h
                    · rw [if_pos gk, if_neg d13]
                      rw [decide_eq_false d13, if_neg (by decide)] at h
                      exact jmp _ _ rfl h
                  · rw [if_neg x0]
                    rw [decide_eq_false x0] at h
                    by_cases d13 : o = 13
                    · rw [if_pos gk, if_pos d13]
                      rw [decide_eq_true d13, if_neg (by decide)] at h
                      exact jmp _ _ rfl h
                    · rw [if_pos gk, if_neg d13]
                      rw [decide_eq_false d13, if_pos rfl] at h
                      exact stay _ _ (by decide) h
        · rw [if_neg c11] at h ⊢
          match s, hS, hs, h with
          | [], _, _, h => cases h; rw [if_neg (by decide)]; exact ⟨σ, rfl, Ch.rf _⟩
          | [y], _, _, h => cases h; rw [if_neg (show ¬ (2 : Int32) ≤ nI [y].length from (by decide : ¬ (2 : Int32) ≤ nI 1))]; exact ⟨σ, rfl, Ch.rf _⟩
          | y :: x :: t, hS, hs, h =>
            have hlen : (y :: x :: t).length = t.length + 1 + 1 := rfl
            have htl : t.length + 1 < 64 := by rw [hlen] at hs; omega
            have m1 : nI (t.length + 1 + 1) + (-1) = nI (t.length + 1) := pk_m1 _
            have m2 : nI (t.length + 1) - (1 : Int32) = nI t.length := nI_pred _
            have hy : gL σ 33 (t.length + 1) = y := hS.top
            have hx : gL σ 33 t.length = x := hS.tail.top
            rw [hlen, if_pos (by rw [show (2 : Int32) = nI 2 from rfl]; exact nI_le (by omega) (by omega))]
            simp only [m1, m2]
            rw [if_pos (inB_n (by omega) (by omega)), if_pos (inB_n htl (by omega)), nI_clamp (by omega), nI_clamp (by omega), hx, hy, F_joined, bd_some, if_pos (inB_n (by omega) (by omega)), if_pos (inB_n (by omega) (by omega)), gL_sL_at]
            dsimp only at h
            cases hj : jn o x y with
            | none =>
              rw [hj] at h
              cases h
              rw [show ob none = BRK from rfl, if_pos rfl]
              exact ⟨_, rfl, Ch.sL1 (Or.inr (by simp))⟩
            | some v =>
              rw [hj] at h
              rw [show ob (some v) = v from rfl, if_neg (jn_brk hj)]
              exact nxt (v :: t) (sL σ 33 t.length v) (Ch.sL1 (Or.inr (by simp))) (by rw [gL_sL_own]; exact hS.tail.tail.push _) (by simp; omega) h
      · rw [if_neg c2] at h ⊢
        by_cases c64 : s.length < 64
        · rw [if_pos c64] at h
          rw [if_pos (by rw [show (64 : Int32) = nI 64 from rfl]; exact nI_lt c64 (by omega))]
          have push : ∀ v : Int64, crun cd st L f (i + 1) (v :: s) = some res → ∃ τ, F_X3_evaluate_129 (F_X3_evaluate_55 (f + g)) b (nI s.length) (nI i) v (nI s.length) σ = some (ob res, τ) ∧ Ch [33] [] σ τ := by
            intro v h'
            unfold F_X3_evaluate_129
            rw [if_pos gk, if_pos (inB_n c64 (by omega)), nI_clamp (by omega), nI_1]
            exact nxt (v :: s) (sL σ 33 s.length v) (Ch.sL1 (Or.inr (by simp))) (by rw [gL_sL_own]; exact hS.push _) (by simp; omega) h'
          by_cases e0 : o = 0
          · rw [if_pos e0] at h ⊢
            exact push _ h
          · rw [if_neg e0] at h ⊢
            by_cases e7 : inB r 7 = true
            · rw [if_pos e7] at h ⊢
              rw [hst]
              exact push _ h
            · rw [if_neg e7] at h; cases h
        · rw [if_neg c64] at h
          cases h
          rw [if_neg (by rw [show (64 : Int32) = nI 64 from rfl]; exact nI_nlt (by omega) (by omega))]
          exact ⟨σ, rfl, Ch.rf _⟩
end
