section
def YcI (row : Nat → Int32) (σ : AH) : Prop := gI σ 34 4 ≤ gI σ 0 12 ∧ (gI σ 34 4 = gI σ 0 12 → ∀ l', l' ≤ 26 → gI σ 34 3 = nI l' → YdI row (gI σ 34 2) l' (sw row (gI σ 34 2)) σ)
def RcI (row : Nat → Int32) (a : Nat) (σ : AH) : Prop := gI σ a 4 ≤ gI σ 0 12 ∧ (gI σ a 4 = gI σ 0 12 → ∀ l', l' ≤ 26 → gI σ a 3 = nI l' → RnI row (gI σ a 2) l' (sw row (gI σ a 2)) a 260 σ)
theorem i32_rfl {x : Int32} : x ≤ x := Int32.le_iff_toInt_le.mpr (Int.le_refl _)
theorem F_isOf {a : Nat} {k l B : Int32} {σ : AH} : F_X6_isOf a k l B σ = some (if gI σ a 2 = k ∧ gI σ a 3 = l ∧ gI σ a 4 = B then 1 else 0, σ) := by
  unfold F_X6_isOf
  by_cases h1 : gI σ a 2 = k
  · rw [if_pos h1]
    by_cases h2 : gI σ a 3 = l
    · rw [if_pos h2]
      by_cases h3 : gI σ a 4 = B
      · rw [if_pos h3, if_pos ⟨h1, h2, h3⟩]
      · rw [if_neg h3, if_neg (fun h => h3 h.2.2)]
    · rw [if_neg h2, if_neg (fun h => h2 h.2.1)]
  · rw [if_neg h1, if_neg (fun h => h1 h.1)]
def RFc (a : Nat) : List Nat := [a + 1 + 1, a + 1 + 2, a + 1 + 3, a + 1 + 4, a + 1 + 5, a + 1 + 6, a + 1 + 7, a + 1 + 8, a + 1 + 9, a + 11, 31, 32, 33, 35, 36, 37, 38, 39, 40, 41, 42, 43]
def RFf (a : Nat) : List (Nat × Nat) := [(28, 6), (34, 2), (34, 3), (34, 4), (a, 2), (a, 3), (a, 4), (a + 1, 2)]
theorem runFor_gen {row : Nat → Int32} {k : Int32} {l a : Nat} {H : AH → Option (Nat × AH)} {G : Nat → Int32 → AH → Option (Nat × AH)} {σ : AH} (hV : AV row) (hW : AW row) (hB : BV row) (hs : ∀ p w, sw row k p = some w → w < 260) (ha : 43 < a ∧ a + 20 < 124) (hl : l ≤ 26)
    (hH : ∀ σ, H σ = bd (F_X6_isOf a k (nI l) (gI σ 0 12) σ) fun v σ1 => if v = 0 then bv (F_X10_prepare k (nI l) (gI σ1 0 12) σ1) fun σ2 => bv (F_X6_open a k (nI l) (gI σ2 0 12) σ2) fun σ3 => G BIG 0 σ3 else some (a, σ1))
    (hst : ∀ f w σ, w < 260 → G (f + 1) (nI w) σ = bv (F_X10_passWeek (a + 1) (nI w) σ) fun σ1 => bv (F_X6_keepStock a (nI w) σ1) fun σ2 => G f (nI (w + 1)) σ2) (hen : ∀ f σ, G (f + 1) (nI 260) σ = some (a, σ))
    (hT : TbB row σ) (hLw : LwI row σ) (hY : YcI row σ) (hC : RcI row a σ) :
    ∃ τ, H σ = some (a, τ) ∧ RnI row k l (sw row k) a 260 τ ∧ TbB row τ ∧ LwI row τ ∧ YcI row τ ∧ RcI row a τ ∧ Ch (RFc a) (RFf a) σ τ := by
  rw [hH, F_isOf, bd_some]
  by_cases c : gI σ a 2 = k ∧ gI σ a 3 = nI l ∧ gI σ a 4 = gI σ 0 12
  · rw [if_pos c, if_neg (by decide)]
    have := hC.2 c.2.2 l hl c.2.1
    rw [c.1] at this
    exact ⟨σ, rfl, this, hT, hLw, hY, hC, Ch.rf _⟩
  · rw [if_neg c, if_pos rfl]
    obtain ⟨τ1, t1, t2, t3, t4⟩ := F_prepare (k := k) (b := gI σ 0 12) hB hl hT hY.2
    rw [t1, bv_some]
    have e0 : gI τ1 0 12 = gI σ 0 12 := t4.pI (by simp [YDc]) (by simp [YDf])
    rw [e0]
    unfold F_X6_open
    have k1 : Ch [] [(a, 2), (a, 3), (a, 4)] τ1 (sI (sI (sI τ1 a 2 k) a 3 (nI l)) a 4 (gI σ 0 12)) := ((Ch.sI1 (Or.inl (by simp))).trans (Ch.sI1 (Or.inl (by simp)))).trans (Ch.sI1 (Or.inl (by simp)))
    obtain ⟨τ2, u1, u2, u3, u4⟩ := F_empty (row := row) (k := k) (s := sw row k) (b := a + 1) (σ := sI (sI (sI τ1 a 2 k) a 3 (nI l)) a 4 (gI σ 0 12)) hB (by omega)
    rw [u1, bv_some]
    show ∃ τ, bv (some τ2) _ = _ ∧ _
    rw [bv_some]
    have c12 : Ch [a + 1 + 1, a + 1 + 3, a + 1 + 4, a + 1 + 5, a + 1 + 6, a + 1 + 7, a + 1 + 8, a + 1 + 9] [(a, 2), (a, 3), (a, 4), (a + 1, 2)] τ1 τ2 := (k1.mono (by simp) (by simp)).trans (u4.mono (by simp [STc]) (by simp))
    have T1 : TbB row τ1 := hT.ch t4 (by simp [YDc]) (by simp [YDf])
    have T2 : TbB row τ2 := T1.ch c12 (by simp; omega) (by simp; omega)
    have L1 : LwI row τ1 := hLw.ch t4 (by simp [YDc]) (by simp [YDf])
    have L2 : LwI row τ2 := L1.ch c12 (by simp; omega) (by simp; omega)
    obtain ⟨⟨y1, y2⟩, y3, y4, y5, y6, y7, y8⟩ := t2
    have rr : ∀ i, 34 ≤ i → i ≤ 43 → gI τ2 i = gI τ1 i := fun i h1 h2 => c12.rI (by simp; omega) (by simp; omega)
    have D2 : YdS row k l (sw row k) τ2 := by
      refine ⟨⟨?_, ?_, ?_, ?_, L2⟩, T2, ?_, ?_, y5.ch c12 (by simp; omega) (by simp; omega)⟩
      · rw [rr 34 (by decide) (by decide)]; exact y1
      · rw [rr 40 (by decide) (by decide)]; exact y6
      · rw [rr 41 (by decide) (by decide)]; exact y7
      · rw [rr 43 (by decide) (by decide), rr 42 (by decide) (by decide)]; exact y8
      · rw [rr 35 (by decide) (by decide)]; exact y3
      · rw [rr 36 (by decide) (by decide)]; exact y4
    obtain ⟨g, hg⟩ := BIGe 260 (by decide)
    obtain ⟨τ3, v1, v2, v3, v4⟩ := runs_loop (g := g) (l := l) hV hW hB hs ha hst hen 260 0 τ2 (by omega) D2 ⟨u2, fun w m h _ => absurd h (Nat.not_lt_zero w), fun i hi => Or.inl (u3 i hi), fun w h => absurd h (Nat.not_lt_zero w)⟩
    have cc : Ch (RFc a) (RFf a) σ τ3 := ((t4.mono (by simp [YDc, RFc]) (by simp [YDf, RFf])).trans (c12.mono (by simp [RFc]) (by simp [RFf]))).trans (v4.mono (by simp [RUc, PWc, RFc]) (by simp [RUf, PWf, RFf]))
    rw [hg]
    obtain ⟨⟨z1, z2, z3, z4, z5⟩, z6, z7, z8, z9⟩ := v2
    have f3 : gI τ3 34 3 = nI l := by rw [v4.rI (by simp [RUc, PWc]; omega) (by simp [RUf, PWf]; omega), rr 34 (by decide) (by decide)]; exact y2
    have ea : ∀ j, (j = 2 ∨ j = 3 ∨ j = 4) → gI τ3 a j = gI (sI (sI (sI τ1 a 2 k) a 3 (nI l)) a 4 (gI σ 0 12)) a j := fun j hj => by
      rw [v4.pI (by simp [RUc, PWc]; omega) (by simp [RUf, PWf]; omega), u4.pI (by simp [STc]; omega) (by simp)]
    have ea2 : gI τ3 a 2 = k := by rw [ea 2 (by simp), gI_sI_ne (by decide), gI_sI_ne (by decide), gI_sI_at]
    have ea3 : gI τ3 a 3 = nI l := by rw [ea 3 (by simp), gI_sI_ne (by decide), gI_sI_at]
    have nlI : ∀ x y, x ≤ 26 → y ≤ 26 → nI x = nI y → x = y := fun x y hx hy e => by
      have := congrArg cl e
      rw [show cl (nI x) = x from nI_clamp (by omega), show cl (nI y) = y from nI_clamp (by omega)] at this
      exact this
    have e12 : gI τ3 0 12 = gI σ 0 12 := cc.pI (by simp [RFc]) (by simp [RFf])
    refine ⟨τ3, v1, v3, z6, z5, ⟨?_, fun _ l' hl' e => ?_⟩, ⟨?_, fun _ l' hl' e => ?_⟩, cc⟩
    · rw [e12, v4.rI (i := 34) (by simp [RUc, PWc]; omega) (by simp [RUf, PWf]; omega), rr 34 (by decide) (by decide), t3]; exact i32_rfl
    · have : l' = l := nlI _ _ hl' hl (by rw [← e, f3])
      subst this
      rw [z1]
      exact ⟨⟨z1, f3⟩, z7, z8, z9, z2, z3, z4⟩
    · rw [e12, ea 4 (by simp), gI_sI_at]; exact i32_rfl
    · have : l' = l := nlI _ _ hl' hl (by rw [← e, ea3])
      subst this
      rw [ea2]; exact v3
/-- the two RUNS that are kept: prompt (44) and delayed (56) -/
theorem runFor_44 {row : Nat → Int32} {k : Int32} {l : Nat} {σ : AH} (hV : AV row) (hW : AW row) (hB : BV row) (hl : l ≤ 26) (hT : TbB row σ) (hLw : LwI row σ) (hY : YcI row σ) (hC : RcI row 44 σ) :
    ∃ τ, F_X11_runFor_21b (nI l) k σ = some (44, τ) ∧ RnI row k l (sw row k) 44 260 τ ∧ TbB row τ ∧ LwI row τ ∧ YcI row τ ∧ RcI row 44 τ ∧ Ch (RFc 44) (RFf 44) σ τ :=
  runFor_gen (a := 44) (H := fun s => F_X11_runFor_21b (nI l) k s) (G := F_X11_runFor_64b) hV hW hB (fun p w h => sw_lt hB h) (by decide) hl (fun _ => rfl) (fun f w s hw => by
    show B_X11_runFor_64b (F_X11_runFor_64b f) (nI w) s = _
    unfold B_X11_runFor_64b
    rw [fa_lit 260, if_neg (nI_ge hw (by omega)), nI_1]) (fun f s => by
    show B_X11_runFor_64b (F_X11_runFor_64b f) (nI 260) s = _
    unfold B_X11_runFor_64b
    rw [fa_lit 260, if_pos (nI_le (Nat.le_refl _) (by omega))]) hT hLw hY hC
theorem runFor_56 {row : Nat → Int32} {k : Int32} {l : Nat} {σ : AH} (hV : AV row) (hW : AW row) (hB : BV row) (hl : l ≤ 26) (hT : TbB row σ) (hLw : LwI row σ) (hY : YcI row σ) (hC : RcI row 56 σ) :
    ∃ τ, F_X11_runFor_21 (nI l) k σ = some (56, τ) ∧ RnI row k l (sw row k) 56 260 τ ∧ TbB row τ ∧ LwI row τ ∧ YcI row τ ∧ RcI row 56 τ ∧ Ch (RFc 56) (RFf 56) σ τ :=
  runFor_gen (a := 56) (H := fun s => F_X11_runFor_21 (nI l) k s) (G := F_X11_runFor_64) hV hW hB (fun p w h => sw_lt hB h) (by decide) hl (fun _ => rfl) (fun f w s hw => by
    show B_X11_runFor_64 (F_X11_runFor_64 f) (nI w) s = _
    unfold B_X11_runFor_64
    rw [fa_lit 260, if_neg (nI_ge hw (by omega)), nI_1]) (fun f s => by
    show B_X11_runFor_64 (F_X11_runFor_64 f) (nI 260) s = _
    unfold B_X11_runFor_64
    rw [fa_lit 260, if_pos (nI_le (Nat.le_refl _) (by omega))]) hT hLw hY hC
end
