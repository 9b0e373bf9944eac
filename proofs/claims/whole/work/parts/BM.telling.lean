section
/-! TELLING: a row more, on both sides -/
def gl (l : List Int32) : Nat → Int32 := fun j => l.getD j 0
def tlR (row : Nat → Int32) (nb B wd n : Nat) (g : Nat → Int32) : Nat → Int32 := fun i => if i = nb then nI (n + 1) else if B + n * wd ≤ i ∧ i < B + n * wd + wd then g (i - (B + n * wd)) else row i
theorem tlR_nb {row g : Nat → Int32} {nb B wd n : Nat} : tlR row nb B wd n g nb = nI (n + 1) := by unfold tlR; rw [if_pos rfl]
theorem tlR_lo {row g : Nat → Int32} {nb B wd n i : Nat} (h1 : i ≠ nb) (h2 : i < B + n * wd ∨ B + n * wd + wd ≤ i) : tlR row nb B wd n g i = row i := by unfold tlR; rw [if_neg h1, if_neg (by omega)]
theorem tlR_at {row g : Nat → Int32} {nb B wd n j : Nat} (h1 : nb < B) (h2 : j < wd) : tlR row nb B wd n g (B + n * wd + j) = g j := by
  unfold tlR; rw [if_neg (by omega), if_pos (by omega), show B + n * wd + j - (B + n * wd) = j by omega]
theorem tlR_old {row g : Nat → Int32} {nb B wd n s j : Nat} (h1 : nb < B) (hs : s < n) (hj : j < wd) : tlR row nb B wd n g (B + (s * wd + j)) = row (B + (s * wd + j)) := by
  have : (s + 1) * wd ≤ n * wd := Nat.mul_le_mul_right wd hs
  have e : (s + 1) * wd = s * wd + wd := Nat.succ_mul s wd
  exact tlR_lo (by omega) (by omega)
/-- what a telling answers: pre (why it is refused, or 0) -/
def tlV (pre : Int32) (mst n add : Nat) : Int32 := if pre = 0 then (if n = mst then -5 else nI (n + add)) else pre
def tlW (pre : Int32) (mst : Nat) (row : Nat → Int32) (nb B wd n : Nat) (g : Nat → Int32) : Nat → Int32 := if pre = 0 ∧ n ≠ mst then tlR row nb B wd n g else row
def tlP (b : Bool) : Int32 := if b = true then 0 else -1
theorem tl3 {row : Nat → Int32} {nb B n : Nat} {a0 a1 a2 : Int32} (h : nb < B) : va_up (va_up (va_up (va_up row (B + n * 3) a0) (B + n * 3 + 1) a1) (B + n * 3 + 2) a2) nb (nI (n + 1)) = tlR row nb B 3 n (gl [a0, a1, a2]) := by
  funext i
  unfold tlR
  by_cases c7 : i = nb
  · rw [if_pos c7, c7, up_same]
  · rw [if_neg c7, up_ne _ _ _ c7]
    by_cases c : B + n * 3 ≤ i ∧ i < B + n * 3 + 3
    · rw [if_pos c]
      have : i = B + n * 3 ∨ i = B + n * 3 + 1 ∨ i = B + n * 3 + 2 := by omega
      rcases this with rfl | rfl | rfl
      · rw [up_ne _ _ _ (by omega), up_ne _ _ _ (by omega), up_same, show B + n * 3 - (B + n * 3) = 0 by omega]; rfl
      · rw [up_ne _ _ _ (by omega), up_same, show B + n * 3 + 1 - (B + n * 3) = 1 by omega]; rfl
      · rw [up_same, show B + n * 3 + 2 - (B + n * 3) = 2 by omega]; rfl
    · rw [if_neg c, up_ne _ _ _ (by omega), up_ne _ _ _ (by omega), up_ne _ _ _ (by omega)]
theorem tl4 {row : Nat → Int32} {nb B n : Nat} {a0 a1 a2 a3 : Int32} (h : nb < B) : va_up (va_up (va_up (va_up (va_up row (B + n * 4) a0) (B + n * 4 + 1) a1) (B + n * 4 + 2) a2) (B + n * 4 + 3) a3) nb (nI (n + 1)) = tlR row nb B 4 n (gl [a0, a1, a2, a3]) := by
  funext i
  unfold tlR
  by_cases c7 : i = nb
  · rw [if_pos c7, c7, up_same]
  · rw [if_neg c7, up_ne _ _ _ c7]
    by_cases c : B + n * 4 ≤ i ∧ i < B + n * 4 + 4
    · rw [if_pos c]
      have : i = B + n * 4 ∨ i = B + n * 4 + 1 ∨ i = B + n * 4 + 2 ∨ i = B + n * 4 + 3 := by omega
      rcases this with rfl | rfl | rfl | rfl
      · rw [up_ne _ _ _ (by omega), up_ne _ _ _ (by omega), up_ne _ _ _ (by omega), up_same, show B + n * 4 - (B + n * 4) = 0 by omega]; rfl
      · rw [up_ne _ _ _ (by omega), up_ne _ _ _ (by omega), up_same, show B + n * 4 + 1 - (B + n * 4) = 1 by omega]; rfl
      · rw [up_ne _ _ _ (by omega), up_same, show B + n * 4 + 2 - (B + n * 4) = 2 by omega]; rfl
      · rw [up_same, show B + n * 4 + 3 - (B + n * 4) = 3 by omega]; rfl
    · rw [if_neg c, up_ne _ _ _ (by omega), up_ne _ _ _ (by omega), up_ne _ _ _ (by omega), up_ne _ _ _ (by omega)]
theorem tl8 {row : Nat → Int32} {nb B n : Nat} {a0 a1 a2 a3 a4 a5 a6 a7 : Int32} (h : nb < B) : va_up (va_up (va_up (va_up (va_up (va_up (va_up (va_up (va_up row (B + n * 8) a0) (B + n * 8 + 1) a1) (B + n * 8 + 2) a2) (B + n * 8 + 3) a3) (B + n * 8 + 4) a4) (B + n * 8 + 4 + 1) a5) (B + n * 8 + 4 + 2) a6) (B + n * 8 + 4 + 3) a7) nb (nI (n + 1)) = tlR row nb B 8 n (gl [a0, a1, a2, a3, a4, a5, a6, a7]) := by
  funext i
  unfold tlR
  by_cases c7 : i = nb
  · rw [if_pos c7, c7, up_same]
  · rw [if_neg c7, up_ne _ _ _ c7]
    by_cases c : B + n * 8 ≤ i ∧ i < B + n * 8 + 8
    · rw [if_pos c]
      have : i = B + n * 8 ∨ i = B + n * 8 + 1 ∨ i = B + n * 8 + 2 ∨ i = B + n * 8 + 3 ∨ i = B + n * 8 + 4 ∨ i = B + n * 8 + 4 + 1 ∨ i = B + n * 8 + 4 + 2 ∨ i = B + n * 8 + 4 + 3 := by omega
      rcases this with rfl | rfl | rfl | rfl | rfl | rfl | rfl | rfl
      · rw [up_ne _ _ _ (by omega), up_ne _ _ _ (by omega), up_ne _ _ _ (by omega), up_ne _ _ _ (by omega), up_ne _ _ _ (by omega), up_ne _ _ _ (by omega), up_ne _ _ _ (by omega), up_same, show B + n * 8 - (B + n * 8) = 0 by omega]; rfl
      · rw [up_ne _ _ _ (by omega), up_ne _ _ _ (by omega), up_ne _ _ _ (by omega), up_ne _ _ _ (by omega), up_ne _ _ _ (by omega), up_ne _ _ _ (by omega), up_same, show B + n * 8 + 1 - (B + n * 8) = 1 by omega]; rfl
      · rw [up_ne _ _ _ (by omega), up_ne _ _ _ (by omega), up_ne _ _ _ (by omega), up_ne _ _ _ (by omega), up_ne _ _ _ (by omega), up_same, show B + n * 8 + 2 - (B + n * 8) = 2 by omega]; rfl
      · rw [up_ne _ _ _ (by omega), up_ne _ _ _ (by omega), up_ne _ _ _ (by omega), up_ne _ _ _ (by omega), up_same, show B + n * 8 + 3 - (B + n * 8) = 3 by omega]; rfl
      · rw [up_ne _ _ _ (by omega), up_ne _ _ _ (by omega), up_ne _ _ _ (by omega), up_same, show B + n * 8 + 4 - (B + n * 8) = 4 by omega]; rfl
      · rw [up_ne _ _ _ (by omega), up_ne _ _ _ (by omega), up_same, show B + n * 8 + 4 + 1 - (B + n * 8) = 5 by omega]; rfl
      · rw [up_ne _ _ _ (by omega), up_same, show B + n * 8 + 4 + 2 - (B + n * 8) = 6 by omega]; rfl
      · rw [up_same, show B + n * 8 + 4 + 3 - (B + n * 8) = 7 by omega]; rfl
    · rw [if_neg c, up_ne _ _ _ (by omega), up_ne _ _ _ (by omega), up_ne _ _ _ (by omega), up_ne _ _ _ (by omega), up_ne _ _ _ (by omega), up_ne _ _ _ (by omega), up_ne _ _ _ (by omega), up_ne _ _ _ (by omega)]
theorem tl10 {row : Nat → Int32} {nb B n : Nat} {a0 a1 a2 a3 a4 a5 a6 a7 a8 a9 : Int32} (h : nb < B) : va_up (va_up (va_up (va_up (va_up (va_up (va_up (va_up (va_up (va_up (va_up row (B + n * 10) a0) (B + n * 10 + 1) a1) (B + n * 10 + 2) a2) (B + n * 10 + 3) a3) (B + n * 10 + 4) a4) (B + n * 10 + 4 + 1) a5) (B + n * 10 + 4 + 2) a6) (B + n * 10 + 4 + 3) a7) (B + n * 10 + 8) a8) (B + n * 10 + 9) a9) nb (nI (n + 1)) = tlR row nb B 10 n (gl [a0, a1, a2, a3, a4, a5, a6, a7, a8, a9]) := by
  funext i
  unfold tlR
  by_cases c7 : i = nb
  · rw [if_pos c7, c7, up_same]
  · rw [if_neg c7, up_ne _ _ _ c7]
    by_cases c : B + n * 10 ≤ i ∧ i < B + n * 10 + 10
    · rw [if_pos c]
      have : i = B + n * 10 ∨ i = B + n * 10 + 1 ∨ i = B + n * 10 + 2 ∨ i = B + n * 10 + 3 ∨ i = B + n * 10 + 4 ∨ i = B + n * 10 + 4 + 1 ∨ i = B + n * 10 + 4 + 2 ∨ i = B + n * 10 + 4 + 3 ∨ i = B + n * 10 + 8 ∨ i = B + n * 10 + 9 := by omega
      rcases this with rfl | rfl | rfl | rfl | rfl | rfl | rfl | rfl | rfl | rfl
      · rw [up_ne _ _ _ (by omega), up_ne _ _ _ (by omega), up_ne _ _ _ (by omega), up_ne _ _ _ (by omega), up_ne _ _ _ (by omega), up_ne _ _ _ (by omega), up_ne _ _ _ (by omega), up_ne _ _ _ (by omega), up_ne _ _ _ (by omega), up_same, show B + n * 10 - (B + n * 10) = 0 by omega]; rfl
      · rw [up_ne _ _ _ (by omega), up_ne _ _ _ (by omega), up_ne _ _ _ (by omega), up_ne _ _ _ (by omega), up_ne _ _ _ (by omega), up_ne _ _ _ (by omega), up_ne _ _ _ (by omega), up_ne _ _ _ (by omega), up_same, show B + n * 10 + 1 - (B + n * 10) = 1 by omega]; rfl
      · rw [up_ne _ _ _ (by omega), up_ne _ _ _ (by omega), up_ne _ _ _ (by omega), up_ne _ _ _ (by omega), up_ne _ _ _ (by omega), up_ne _ _ _ (by omega), up_ne _ _ _ (by omega), up_same, show B + n * 10 + 2 - (B + n * 10) = 2 by omega]; rfl
      · rw [up_ne _ _ _ (by omega), up_ne _ _ _ (by omega), up_ne _ _ _ (by omega), up_ne _ _ _ (by omega), up_ne _ _ _ (by omega), up_ne _ _ _ (by omega), up_same, show B + n * 10 + 3 - (B + n * 10) = 3 by omega]; rfl
      · rw [up_ne _ _ _ (by omega), up_ne _ _ _ (by omega), up_ne _ _ _ (by omega), up_ne _ _ _ (by omega), up_ne _ _ _ (by omega), up_same, show B + n * 10 + 4 - (B + n * 10) = 4 by omega]; rfl
      · rw [up_ne _ _ _ (by omega), up_ne _ _ _ (by omega), up_ne _ _ _ (by omega), up_ne _ _ _ (by omega), up_same, show B + n * 10 + 4 + 1 - (B + n * 10) = 5 by omega]; rfl
      · rw [up_ne _ _ _ (by omega), up_ne _ _ _ (by omega), up_ne _ _ _ (by omega), up_same, show B + n * 10 + 4 + 2 - (B + n * 10) = 6 by omega]; rfl
      · rw [up_ne _ _ _ (by omega), up_ne _ _ _ (by omega), up_same, show B + n * 10 + 4 + 3 - (B + n * 10) = 7 by omega]; rfl
      · rw [up_ne _ _ _ (by omega), up_same, show B + n * 10 + 8 - (B + n * 10) = 8 by omega]; rfl
      · rw [up_same, show B + n * 10 + 9 - (B + n * 10) = 9 by omega]; rfl
    · rw [if_neg c, up_ne _ _ _ (by omega), up_ne _ _ _ (by omega), up_ne _ _ _ (by omega), up_ne _ _ _ (by omega), up_ne _ _ _ (by omega), up_ne _ _ _ (by omega), up_ne _ _ _ (by omega), up_ne _ _ _ (by omega), up_ne _ _ _ (by omega), up_ne _ _ _ (by omega)]
/-! the class -/
theorem G_of_Tb {row : Nat → Int32} {σ : AH} {t nb B wd mst : Nat} (h : Tb row σ t nb B wd mst) : TbG σ t wd mst (cl (row nb)) (fun s j => row (B + (s * wd + j))) := by
  obtain ⟨a, ⟨b1, b2', b3, b4⟩, b, L, c1, c2, ⟨c4, c5⟩, c6, c7⟩ := h
  have hm := b4.2
  refine ⟨a, ⟨b1, b2', by rw [b3]; exact b4.1, by omega⟩, b, L, c1, c2, ⟨c4, c5⟩, c6, fun s j hs hj => c7 _ ?_⟩
  have : (s + 1) * wd ≤ cl (row nb) * wd := Nat.mul_le_mul_right wd hs
  have e : (s + 1) * wd = s * wd + wd := Nat.succ_mul s wd
  omega
theorem Tb_of_G {row : Nat → Int32} {σ : AH} {t nb B wd mst m : Nat} {C : Nat → Nat → Int32} (h : TbG σ t wd mst m C) (hn : row nb = nI m) (hw : 0 < wd) (hm : mst < 2 ^ 30) (hC : ∀ s j, s < m → j < wd → C s j = row (B + (s * wd + j))) : Tb row σ t nb B wd mst := by
  obtain ⟨a, ⟨b1, b2', b3, b4⟩, b, L, c1, c2, ⟨c4, c5⟩, c6, c7⟩ := h
  have e : cl (row nb) = m := by rw [hn]; exact nI_clamp (by omega)
  unfold Tb
  rw [e]
  refine ⟨a, ⟨b1, b2', by rw [b3, hn], ⟨by rw [e]; exact hn, by omega⟩⟩, b, L, c1, c2, ⟨c4, c5⟩, c6, fun i hi => ?_⟩
  have d1 : i / wd < m := (Nat.div_lt_iff_lt_mul hw).mpr hi
  have d2 : i % wd < wd := Nat.mod_lt _ hw
  have d3 : i / wd * wd + i % wd = i := by rw [Nat.mul_comm]; exact Nat.div_add_mod i wd
  have := c7 (i / wd) (i % wd) d1 d2
  rw [d3] at this
  rw [this, hC _ _ d1 d2, d3]
theorem F_isFullG {σ : AH} {t wd mst n : Nat} {C : Nat → Nat → Int32} (h : TbG σ t wd mst n C) (hm : mst < 2 ^ 30) : F_X8_isFull t σ = some (if n = mst then 1 else 0, σ) := by
  obtain ⟨⟨a1, a2⟩, ⟨b1, b2', b3, b4⟩, _⟩ := h
  unfold F_X8_isFull
  rw [if_pos a1, if_pos a2, b3, b2']
  by_cases c : n = mst
  · rw [if_pos c, c, if_neg (fun z => by rw [Int32.lt_iff_toInt_lt] at z; omega)]
  · rw [if_neg c, if_pos (nI_lt (by omega) (by omega))]
def TlS (s0 : AH) (t wd mst n b0 j : Nat) (C : Nat → Nat → Int32) (g : Nat → Int32) (τ : AH) : Prop := ∃ D b1, TbG τ t wd mst (n + 1) D ∧ (∀ s i, s < n → i < wd → D s i = C s i) ∧ (∀ i, i < j → D n i = g i) ∧ gR τ t 2 = some b1 ∧ ChX t [b0] [(t, 3)] s0 τ ∧ (b1 = b0 ∨ nx s0 ≤ b1)
theorem TlS.add {s0 : AH} {t wd mst n b0 : Nat} {C : Nat → Nat → Int32} {g : Nat → Int32} (h : TbG s0 t wd mst n C) (hb0 : gR s0 t 2 = some b0) (hn : n < mst) (ht : t < 166) (hx : 166 ≤ nx s0) (ha : alB m_X8_add t = true) (hs : shOK t 2 = true) (hm : mst * wd ≤ 2000000) (hm2 : 2 * mst < 2 ^ 31 ∧ wd = wdT t ∧ mst = msT t) : ∃ τ, F_X8_add t s0 = some (nI n, τ) ∧ TlS s0 t wd mst n b0 0 C g τ := by
  obtain ⟨τ, C', t1, t2, t3, t4⟩ := F_addG h hn ht hx ha hs hm hm2
  obtain ⟨_, _, b1, _, r, _⟩ := id t2
  refine ⟨τ, t1, C', b1, t2, t3, fun i hi => absurd hi (Nat.not_lt_zero i), r, t4.mono (by simp) (by simp), ?_⟩
  rcases t4.2.2.2.1 with z | ⟨b, z1, z2, z3⟩
  · rw [r, hb0] at z; cases z; exact Or.inl rfl
  · rw [r] at z1; cases z1; exact Or.inr z2
theorem TlS.put {s0 τ : AH} {t wd mst n b0 j : Nat} {C : Nat → Nat → Int32} {g : Nat → Int32} {x : Int32} (h : TlS s0 t wd mst n b0 j C g τ) (hj : j < wd) (hm : mst * wd < 2 ^ 30) (ht : t < 166) (ha : alB m_X8_put (t + 1) = true) (hg : g j = x) : ∃ τ', F_X8_put t (nI n) (nI j) x τ = some τ' ∧ TlS s0 t wd mst n b0 (j + 1) C g τ' := by
  obtain ⟨D, b1, d1, d2, d3, d4, d5, d6⟩ := h
  obtain ⟨b, p1, p2, p3, p4⟩ := F_putG (r := n) (c := j) (v := x) d1 (by omega) hj hm ht ha
  have e : b = b1 := by rw [d4] at p1; cases p1; rfl
  subst e
  refine ⟨_, p3, upC D n j x, b, p4, fun s i hs hi => ?_, fun i hi => ?_, d4, ?_, d6⟩
  · rw [upC_no (by omega)]; exact d2 s i hs hi
  · by_cases c : i = j
    · rw [c, upC_at, hg]
    · rw [upC_ne c]; exact d3 i (by omega)
  · obtain ⟨y1, y2, y3, y4, y5, y6⟩ := d5
    refine ⟨y1, y2, y3, y4, fun i hi hc k hk => ?_, y6.trans (GwR.same rfl rfl rfl rfl)⟩
    have ib : i ≠ b := fun z => by
      rcases d6 with q | q
      · exact hc (by simp [z, q])
      · omega
    have := y5 i hi hc k hk
    rw [gI_sI_row ib]; exact this
theorem TlS.done {row : Nat → Int32} {s0 τ : AH} {t nb B wd mst n b0 : Nat} {g : Nat → Int32} (h : TlS s0 t wd mst n b0 wd (fun s j => row (B + (s * wd + j))) g τ) (hw : 0 < wd) (hm : mst < 2 ^ 30) (hB : nb < B) : Tb (tlR row nb B wd n g) τ t nb B wd mst ∧ TbG τ t wd mst (n + 1) (fun s j => tlR row nb B wd n g (B + (s * wd + j))) ∧ ChX t [b0] [(t, 3)] s0 τ := by
  obtain ⟨D, b1, d1, d2, d3, d4, d5, d6⟩ := h
  have q : ∀ s j, s < n + 1 → j < wd → D s j = tlR row nb B wd n g (B + (s * wd + j)) := fun s j hs hj => by
    by_cases c : s = n
    · subst c
      rw [d3 j hj, ← Nat.add_assoc, tlR_at hB hj]
    · rw [d2 s j (by omega) hj, tlR_old hB (by omega) hj]
  have T := Tb_of_G (row := tlR row nb B wd n g) (nb := nb) (B := B) d1 tlR_nb hw hm q
  exact ⟨T, d1.congr (fun s j hs hj => (q s j hs hj).symm), d5⟩
end
