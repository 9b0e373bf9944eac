section
/-! a stay more, in the reference -/
def ad8 (a0 a1 a2 a3 a4 a6 a7 : Int32) : Nat → Int32 := fun j => if j = 0 then a0 else if j = 1 then a1 else if j = 2 then a2 else if j = 3 then a3 else if j = 4 then a4 else if j = 5 then 1000000 else if j = 6 then a6 else a7
def adR (row : Nat → Int32) (n : Nat) (f : Nat → Int32) : Nat → Int32 := fun i => if i = 7 then nI (n + 1) else if 29512 + 8 * n ≤ i ∧ i < 29512 + 8 * n + 8 then f (i - (29512 + 8 * n)) else row i
theorem F_addFour {B : Nat} {a b c d : Int32} {σ : AH} (h : B + 3 < 269832) : F_X12_addFour (nI B) a b c d σ = some (sI (sI (sI (sI σ 125 B a) 125 (B + 1) b) 125 (B + 2) c) 125 (B + 3) d) := by
  unfold F_X12_addFour
  have i1 : nI B + (1 : Int32) = nI (B + 1) := nI_1 B
  have i2 : nI B + (2 : Int32) = nI (B + 2) := by simp only [fa_lit, nI_add]
  have i3 : nI B + (3 : Int32) = nI (B + 3) := by simp only [fa_lit, nI_add]
  rw [i1, i2, i3, if_pos (inB_n (by omega) (by omega)), if_pos (inB_n (by omega) (by omega)), if_pos (inB_n (by omega) (by omega)), if_pos (inB_n (by omega) (by omega)), lt_e, nI_clamp (by omega), nI_clamp (by omega), nI_clamp (by omega), nI_clamp (by omega)]
theorem adR_eq {row : Nat → Int32} {n : Nat} {a0 a1 a2 a3 a4 a6 a7 : Int32} : va_up (va_up (va_up (va_up (va_up (va_up (va_up (va_up (va_up row (29512 + 8 * n) a0) (29512 + 8 * n + 1) a1) (29512 + 8 * n + 2) a2) (29512 + 8 * n + 3) a3) (29512 + 8 * n + 4) a4) (29512 + 8 * n + 5) 1000000) (29512 + 8 * n + 6) a6) (29512 + 8 * n + 7) a7) 7 (nI (n + 1)) = adR row n (ad8 a0 a1 a2 a3 a4 a6 a7) := by
  funext i
  unfold adR
  by_cases c7 : i = 7
  · rw [if_pos c7, c7, up_same]
  · rw [if_neg c7, up_ne _ _ _ c7]
    by_cases c : 29512 + 8 * n ≤ i ∧ i < 29512 + 8 * n + 8
    · rw [if_pos c]
      have : i = 29512 + 8 * n ∨ i = 29512 + 8 * n + 1 ∨ i = 29512 + 8 * n + 2 ∨ i = 29512 + 8 * n + 3 ∨ i = 29512 + 8 * n + 4 ∨ i = 29512 + 8 * n + 5 ∨ i = 29512 + 8 * n + 6 ∨ i = 29512 + 8 * n + 7 := by omega
      rcases this with rfl | rfl | rfl | rfl | rfl | rfl | rfl | rfl
      · rw [up_ne _ _ _ (by omega), up_ne _ _ _ (by omega), up_ne _ _ _ (by omega), up_ne _ _ _ (by omega), up_ne _ _ _ (by omega), up_ne _ _ _ (by omega), up_ne _ _ _ (by omega), up_same, show 29512 + 8 * n - (29512 + 8 * n) = 0 by omega]; rfl
      · rw [up_ne _ _ _ (by omega), up_ne _ _ _ (by omega), up_ne _ _ _ (by omega), up_ne _ _ _ (by omega), up_ne _ _ _ (by omega), up_ne _ _ _ (by omega), up_same, show 29512 + 8 * n + 1 - (29512 + 8 * n) = 1 by omega]; rfl
      · rw [up_ne _ _ _ (by omega), up_ne _ _ _ (by omega), up_ne _ _ _ (by omega), up_ne _ _ _ (by omega), up_ne _ _ _ (by omega), up_same, show 29512 + 8 * n + 2 - (29512 + 8 * n) = 2 by omega]; rfl
      · rw [up_ne _ _ _ (by omega), up_ne _ _ _ (by omega), up_ne _ _ _ (by omega), up_ne _ _ _ (by omega), up_same, show 29512 + 8 * n + 3 - (29512 + 8 * n) = 3 by omega]; rfl
      · rw [up_ne _ _ _ (by omega), up_ne _ _ _ (by omega), up_ne _ _ _ (by omega), up_same, show 29512 + 8 * n + 4 - (29512 + 8 * n) = 4 by omega]; rfl
      · rw [up_ne _ _ _ (by omega), up_ne _ _ _ (by omega), up_same, show 29512 + 8 * n + 5 - (29512 + 8 * n) = 5 by omega]; rfl
      · rw [up_ne _ _ _ (by omega), up_same, show 29512 + 8 * n + 6 - (29512 + 8 * n) = 6 by omega]; rfl
      · rw [up_same, show 29512 + 8 * n + 7 - (29512 + 8 * n) = 7 by omega]; rfl
    · rw [if_neg c, up_ne _ _ _ (by omega), up_ne _ _ _ (by omega), up_ne _ _ _ (by omega), up_ne _ _ _ (by omega), up_ne _ _ _ (by omega), up_ne _ _ _ (by omega), up_ne _ _ _ (by omega), up_ne _ _ _ (by omega)]
theorem F_addStay {row : Nat → Int32} {p : Nat} {x2 x3 x4 x5 x6 T : Int32} {σ : AH} (hV : SyV row) (hn : nY row < 30040) (hr : gI σ 125 = row) (hp : p < 30) (hT : gI σ 165 p = T) : ∃ τ, F_X12_addStay (nI p) x2 x3 x4 x5 x6 σ = some τ ∧ gI τ 125 = adR row (nY row) (ad8 (nI p) x2 x3 x4 T x5 x6) ∧ Ch [125] [] σ τ := by
  have n0 := hV.n.1
  unfold F_X12_addStay
  rw [hr, n0, F_stayAt, bd_some, F_addFour (by omega), bv_some, if_pos (inB_n hp (by omega)), nI_clamp (by omega)]
  have i4 : nI (29512 + 8 * nY row) + (4 : Int32) = nI (29512 + 8 * nY row + 4) := by simp only [fa_lit, nI_add]
  rw [i4, F_addFour (by omega), bv_some]
  have c4 : ∀ {s : AH} {k : Nat} {v : Int32}, Ch [125] [] s (sI s 125 k v) := fun {s k v} => Ch.sI1 (Or.inr (by simp))
  refine ⟨_, rfl, ?_, (((((((c4.trans c4).trans c4).trans c4).trans c4).trans c4).trans c4).trans c4).trans c4⟩
  rw [← adR_eq]
  simp only [gI_sI_own]
  rw [gI_sI_row (by decide), gI_sI_row (by decide), gI_sI_row (by decide), gI_sI_row (by decide), hT, hr]
  rw [up_ne _ _ _ (by omega), up_ne _ _ _ (by omega), up_ne _ _ _ (by omega), up_ne _ _ _ (by omega), up_ne _ _ _ (by omega), up_ne _ _ _ (by omega), up_ne _ _ _ (by omega), up_ne _ _ _ (by omega), n0, nI_1]
theorem adR_lo {row f : Nat → Int32} {n i : Nat} (h : i < 29512) (h7 : i ≠ 7) : adR row n f i = row i := by
  unfold adR; rw [if_neg h7, if_neg (by omega)]
theorem adR_sy {row f : Nat → Int32} {n s j : Nat} (hj : j < 8) : sy (adR row n f) s j = if s = n then f j else sy row s j := by
  unfold sy adR
  rw [if_neg (by omega)]
  by_cases e : s = n
  · rw [if_pos e, if_pos (by omega), e, show 29512 + 8 * n + j - (29512 + 8 * n) = j by omega]
  · rw [if_neg e, if_neg (by omega)]
/-- stays, without the last WEEK told -/
def StS (row : Nat → Int32) (oc : Nat → Nat → Option (Nat × Nat × Bool × Nat)) (W : Nat) : Prop := SyV row ∧ RpC (nP row) (nY row) (sy row) oc ∧ FrC (nY row) (sy row) W
theorem StI.s {row : Nat → Int32} {oc : Nat → Nat → Option (Nat × Nat × Bool × Nat)} {W : Nat} (h : StI row oc W) : StS row oc W := ⟨h.1, h.2.1, h.2.2.1⟩
theorem StS.lo {row row' : Nat → Int32} {oc : Nat → Nat → Option (Nat × Nat × Bool × Nat)} {W : Nat} (h : StS row oc W) (e : ∀ i, i ≠ 8 → i ≠ 10 → i ≠ 11 → i ≠ 12 → row' i = row i) : StS row' oc W := by
  have np : nP row' = nP row := by unfold nP; rw [e 4 (by decide) (by decide) (by decide) (by decide)]
  have ne : nE row' = nE row := by unfold nE; rw [e 6 (by decide) (by decide) (by decide) (by decide)]
  have ny : nY row' = nY row := by unfold nY; rw [e 7 (by decide) (by decide) (by decide) (by decide)]
  have es : sy row' = sy row := by
    funext s j; unfold sy
    exact e _ (by omega) (by omega) (by omega) (by omega)
  unfold StS SyV
  rw [np, ne, ny, es, e 7 (by decide) (by decide) (by decide) (by decide)]
  exact h
theorem StS.add {row : Nat → Int32} {oc : Nat → Nat → Option (Nat × Nat × Bool × Nat)} {W w p e c : Nat} {L T fl : Int32} (h : StS row oc W) (hN : nP row ≤ 30) (hn : nY row < 30040) (hW : W ≤ w) (hw : w < 260) (hp : p < nP row) (he : e < nE row) (hc : c < 10) (hE : nE row ≤ 60) (h0 : oc p w = none) (hL : nI w ≤ L) (hf : fl = 1 ∨ (fl = 0 ∧ L = nI w)) :
    StS (adR row (nY row) (ad8 (nI p) (nI e) (nI w) L T (nI c) fl)) (ocG oc p w (fun v => decide (T ≤ nI v)) (fun v => decide (L ≤ nI v)) e c) w ∧ nP (adR row (nY row) (ad8 (nI p) (nI e) (nI w) L T (nI c) fl)) = nP row ∧ nY (adR row (nY row) (ad8 (nI p) (nI e) (nI w) L T (nI c) fl)) = nY row + 1 := by
  obtain ⟨hV, hR, hF⟩ := h
  obtain ⟨f, hf8⟩ : ∃ f, f = ad8 (nI p) (nI e) (nI w) L T (nI c) fl := ⟨_, rfl⟩
  rw [← hf8]
  have f0 : f 0 = nI p := by rw [hf8]; rfl
  have f1 : f 1 = nI e := by rw [hf8]; rfl
  have f2 : f 2 = nI w := by rw [hf8]; rfl
  have f3 : f 3 = L := by rw [hf8]; rfl
  have f4 : f 4 = T := by rw [hf8]; rfl
  have f5 : f 5 = 1000000 := by rw [hf8]; rfl
  have f6 : f 6 = nI c := by rw [hf8]; rfl
  have f7 : f 7 = fl := by rw [hf8]; rfl
  obtain ⟨row', hrow⟩ : ∃ r, r = adR row (nY row) f := ⟨_, rfl⟩
  have np : nP row' = nP row := by unfold nP; rw [hrow, adR_lo (by decide) (by decide)]
  have ne : nE row' = nE row := by unfold nE; rw [hrow, adR_lo (by decide) (by decide)]
  have r7 : row' 7 = nI (nY row + 1) := by rw [hrow]; unfold adR; rw [if_pos rfl]
  have ny : nY row' = nY row + 1 := by show cl (row' 7) = _; rw [r7]; exact nI_clamp (by omega)
  have es : ∀ s j, j < 8 → sy row' s j = if s = nY row then f j else sy row s j := fun s j hj => by rw [hrow]; exact adR_sy hj
  have eo : ∀ s j, j < 8 → s ≠ nY row → sy row' s j = sy row s j := fun s j hj hs => by rw [es s j hj, if_neg hs]
  have en' : ∀ j, j < 8 → sy row' (nY row) j = f j := fun j hj => by rw [es _ j hj, if_pos rfl]
  rw [← hrow]
  -- only places 0 .. 7 count
  obtain ⟨D, hD⟩ : ∃ D : Nat → Nat → Int32, D = fun s j => if s = nY row then f j else sy row s j := ⟨_, rfl⟩
  have Do : ∀ s j, s ≠ nY row → D s j = sy row s j := fun s j hs => by rw [hD]; exact if_neg hs
  have Dn : ∀ j, D (nY row) j = f j := fun j => by rw [hD]; exact if_pos rfl
  obtain ⟨g1, g2⟩ := hR.goIn (n' := nY row + 1) (C' := D) (s := nY row) (e := e) (c := c) (ov := fun v => decide (T ≤ nI v)) (lv := fun v => decide (L ≤ nI v)) hF hN hW hw hp h0 (by omega) (by omega) (fun t ht hne => ⟨by omega, fun j => Do t j hne⟩) (fun z => absurd z (Nat.lt_irrefl _)) (by rw [Dn]; exact f0) (by rw [Dn, f1]; exact nI_clamp (by omega)) (by rw [Dn]; exact f2) (fun v _ => by rw [Dn, f3]) (fun v _ => by rw [Dn, f4]) (by rw [Dn, f5]; decide) (by rw [Dn, f6]; exact nI_clamp (by omega))
  have eD : ∀ s j, s < nY row + 1 → j < 8 → sy row' s j = D s j := fun s j _ hj => by rw [es s j hj, hD]
  refine ⟨⟨⟨?_, fun s hs => ?_⟩, ?_, ?_⟩, np, ny⟩
  · rw [r7]; exact ⟨(congrArg nI (nI_clamp (by omega))).symm, by rw [show cl (nI (nY row + 1)) = nY row + 1 from nI_clamp (by omega)]; omega⟩
  · rw [ny] at hs
    rw [np, ne]
    by_cases z : s = nY row
    · rw [z, en' 0 (by decide), en' 1 (by decide), en' 2 (by decide), en' 3 (by decide), en' 6 (by decide), en' 7 (by decide), f0, f1, f2, f3, f6, f7]
      have iN : ∀ a b, a < b → b < 2 ^ 30 → isN (nI a) b := fun a b h1 h2 => ⟨(congrArg nI (nI_clamp (by omega))).symm, by rw [show cl (nI a) = a from nI_clamp (by omega)]; exact h1⟩
      exact ⟨iN p _ hp (by omega), iN e _ he (by omega), iN w _ hw (by omega), hL, iN c _ hc (by omega), hf⟩
    · rw [eo s 0 (by decide) z, eo s 1 (by decide) z, eo s 2 (by decide) z, eo s 3 (by decide) z, eo s 6 (by decide) z, eo s 7 (by decide) z]
      exact hV.2 s (by omega)
  · rw [np, ny]; exact g1.same eD
  · rw [ny]; intro s hs; rw [eD s 2 hs (by decide)]; exact g2 s hs
end
