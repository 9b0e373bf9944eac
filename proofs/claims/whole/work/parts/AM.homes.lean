section
/-! HOMES -/
def hdW (row : Nat → Int32) (k : Int32) (p : Nat) : Int32 := if knD row k 0 p = -1 then 1000000 else knD row k 0 p
def huW (row : Nat → Int32) (k : Int32) (p : Nat) : Bool × Int64 × Int64 := fd row k (knD row k 0 p) (stO 0 (knD row k 0 p)) 6 0 0 0
def heW (row : Nat → Int32) (k : Int32) (p : Nat) : Int32 := if knD row k 0 p = -1 then 1000000 else if pK row p = 2 then (if (huW row k p).1 = true then knD row k 0 p + aln (huW row k p).2.1 else 1000000) else 1000000
def FHc : List Nat := RNc ++ [164, 165]
theorem homes_loop {row : Nat → Int32} {k : Int32} {g : Nat} {σ : AH} (hV : AV row) (hB : BV row) (hK : KI row k σ) (hD : ∀ p, p < nP row → gI σ 149 (3 * p + 2) = knD row k 0 p) :
    ∃ τ, F_X12_findHomes_8 (nP row + 1 + g) (0 : Int32) σ = some τ ∧ KI row k τ ∧ (∀ p, p < nP row → gI τ 164 p = hdW row k p ∧ gI τ 165 p = heW row k p) ∧ Ch [134, 135, 136, 137, 164, 165] FDf σ τ := by
  obtain ⟨p0, b30, p2⟩ := hB.p
  obtain ⟨τ, t1, t2, t3⟩ := loop_inv (N := nP row) (g := g) (cs := [134, 135, 136, 137, 164, 165]) (fs := FDf) (G := fun f x s => F_X12_findHomes_8 f x s) (E := fun s => some s) (P := fun i s => (KI row k s ∧ ∀ p, p < nP row → gI s 149 (3 * p + 2) = knD row k 0 p) ∧ ∀ p, p < i → gI s 164 p = hdW row k p ∧ gI s 165 p = heW row k p) (fun f i s hi h => by
    obtain ⟨⟨h1, h2⟩, h3⟩ := h
    have i1 : (3 : Int32) * nI i + (2 : Int32) = nI (3 * i + 2) := by simp only [fa_lit, nI_add, pk_mul]
    have q1 : inB (nI (3 * i + 2)) 90 = true := inB_n (by omega) (by omega)
    have n1 : (nI (3 * i + 2)).toNatClampNeg = 3 * i + 2 := nI_clamp (by omega)
    have q2 : inB (nI i) 30 = true := inB_n (by omega) (by omega)
    have n2 : (nI i).toNatClampNeg = i := nI_clamp (by omega)
    obtain ⟨D, hDe⟩ : ∃ D, D = knD row k 0 i := ⟨_, rfl⟩
    obtain ⟨s1, hs1⟩ : ∃ x, x = sI (sI s 164 i (hdW row k i)) 165 i (1000000 : Int32) := ⟨_, rfl⟩
    have c1 : Ch [164, 165] [] s s1 := by rw [hs1]; exact (Ch.sI1 (Or.inr (by simp))).trans (Ch.sI1 (Or.inr (by simp)))
    have K1 : KI row k s1 := h1.many c1 (by simp) (by simp)
    -- how it goes on
    have fin : ∀ s2, KI row k s2 → Ch [134, 135, 136, 137, 164, 165] FDf s s2 → (∀ p, p ≠ i → gI s2 164 p = gI s 164 p ∧ gI s2 165 p = gI s 165 p) → gI s2 164 i = hdW row k i → gI s2 165 i = heW row k i → ∃ τ, F_X12_findHomes_8 f (nI (i + 1)) s2 = F_X12_findHomes_8 f (nI (i + 1)) τ ∧ ((KI row k τ ∧ ∀ p, p < nP row → gI τ 149 (3 * p + 2) = knD row k 0 p) ∧ ∀ p, p < i + 1 → gI τ 164 p = hdW row k p ∧ gI τ 165 p = heW row k p) ∧ Ch [134, 135, 136, 137, 164, 165] FDf s τ := fun s2 a1 a2 a3 a4 a5 => by
      refine ⟨s2, rfl, ⟨⟨a1, fun p hp => by rw [a2.rI (by simp) (by simp [FDf])]; exact h2 p hp⟩, fun p hp => ?_⟩, a2⟩
      by_cases e : p = i
      · rw [e]; exact ⟨a4, a5⟩
      · rw [(a3 p e).1, (a3 p e).2]; exact h3 p (by omega)
    have e164 : gI s1 164 i = hdW row k i := by rw [hs1, gI_sI_row (by decide), gI_sI_at]
    have e165 : gI s1 165 i = 1000000 := by rw [hs1, gI_sI_at]
    have eo : ∀ p, p ≠ i → gI s1 164 p = gI s 164 p ∧ gI s1 165 p = gI s 165 p := fun p e => by rw [hs1, gI_sI_ne e, gI_sI_ne e, gI_sI_ne e, gI_sI_ne e]; exact ⟨rfl, rfl⟩
    have c1' : Ch [134, 135, 136, 137, 164, 165] FDf s s1 := c1.mono (by simp) (by simp)
    show ∃ τ, B_X12_findHomes_8 (F_X12_findHomes_8 f) (nI i) s = F_X12_findHomes_8 f (nI (i + 1)) τ ∧ _
    unfold B_X12_findHomes_8 F_X12_findHomes_46 F_X12_findHomes_106 F_X12_findHomes_107
    rw [h1.1, p0, if_neg (nI_ge hi (by omega)), i1, if_pos q1, n1, h2 i hi, nI_1, n2]
    by_cases c : knD row k 0 i = -1
    · have hw : hdW row k i = 1000000 := if_pos c
      have he : heW row k i = 1000000 := if_pos c
      rw [if_pos c, if_pos q2, if_pos q2, if_pos c]
      rw [hw] at hs1
      rw [← hs1]
      exact fin s1 K1 c1' eo e164 (by rw [he]; exact e165)
    · have hw : hdW row k i = knD row k 0 i := if_neg c
      rw [if_neg c, if_pos q2, if_pos q2, if_neg c]
      rw [hw] at hs1
      rw [← hs1, F_kindOf hB hi K1.1, bd_some]
      have lk : pK row i < 3 := (p2 i hi).2.1.2
      by_cases ck : pK row i = 2
      · rw [if_pos (show nI (pK row i) = (2 : Int32) by rw [ck]; rfl)]
        obtain ⟨s2, so1, so2, so3⟩ := F_setOnly' (r := 0) (w := knD row k 0 i) (σ := s1)
        have K2 : KI row k s2 := K1.ch so3 (K1.2.2.1.ch so3 (by simp) (by simp) (by simp) (by simp)) (by simp) (by simp) (by simp) (by simp) (by simp)
        obtain ⟨s3, u1, u2, u3, u4, u5⟩ := F_find8 (h := 6) (kd_ := 0) (sg := 0) (mt := 0) (w := knD row k 0 i) hV c K2.1 so2 K2.2.1 K2.2.2.1
        have K3 : KI row k s3 := K2.ch u5 u4 (by simp [FDc]) (by simp [FDc]) (by simp [FDc]) (by simp [FDc]) (by simp [FDf])
        have c3 : Ch [134, 135, 136, 137, 164, 165] FDf s s3 := (c1'.trans (so3.mono (by simp) (by simp))).trans (u5.mono (by simp [FDc]) (fun q hq => Or.inl hq))
        have r164 : gI s3 164 = gI s1 164 := by rw [u5.rI (by simp [FDc]) (by simp [FDf]), so3.rI (by simp) (by simp)]
        have r165 : gI s3 165 = gI s1 165 := by rw [u5.rI (by simp [FDc]) (by simp [FDf]), so3.rI (by simp) (by simp)]
        rw [so1, bv_some, u1, bd_some, if_pos q2, F_aln, bd_some, u2]
        have put : ∀ v : Int32, heW row k i = v → ∃ τ, F_X12_findHomes_8 f (nI (i + 1)) (sI s3 165 i v) = F_X12_findHomes_8 f (nI (i + 1)) τ ∧ ((KI row k τ ∧ ∀ p, p < nP row → gI τ 149 (3 * p + 2) = knD row k 0 p) ∧ ∀ p, p < i + 1 → gI τ 164 p = hdW row k p ∧ gI τ 165 p = heW row k p) ∧ Ch [134, 135, 136, 137, 164, 165] FDf s τ := fun v hv =>
          fin (sI s3 165 i v) (K3.gp (by decide)) (c3.trans (Ch.sI1 (Or.inr (by simp)))) (fun p e => by rw [gI_sI_ne e, gI_sI_ne e, r164, r165]; exact eo p e) (by rw [gI_sI_row (by decide), r164]; exact e164) (by rw [gI_sI_at, hv])
        cases hb : (fd row k (knD row k 0 i) (stO 0 (knD row k 0 i)) 6 0 0 0).1 with
        | false =>
          rw [if_pos (show b2 false = 0 from rfl)]
          exact put _ (by unfold heW huW; rw [if_neg c, if_pos ck, hb, if_neg (by decide)])
        | true =>
          rw [if_neg (show ¬ b2 true = 0 by decide), if_pos q2]
          exact put _ (by unfold heW huW; rw [if_neg c, if_pos ck, hb, if_pos rfl])
      · rw [if_neg (show ¬ nI (pK row i) = (2 : Int32) from fun e => ck ((nI_eq (b := 2) (by omega) (by decide)).mp e))]
        exact fin s1 K1 c1' eo e164 (by rw [e165]; unfold heW; rw [if_neg c, if_neg ck])) (fun f s h => by
    show B_X12_findHomes_8 (F_X12_findHomes_8 f) (nI (nP row)) s = _
    unfold B_X12_findHomes_8
    rw [h.1.1.1, p0, if_pos (nI_le (Nat.le_refl _) (by omega))]) (nP row) 0 σ (by omega) ⟨⟨hK, hD⟩, fun p hp => absurd hp (Nat.not_lt_zero p)⟩
  exact ⟨τ, t1, t2.1.1, t2.2, t3⟩
theorem F_findHomes {row : Nat → Int32} {k : Int32} {σ : AH} (hV : AV row) (hB : BV row) (hr : gI σ 125 = row) : ∃ τ, F_X12_findHomes k σ = some τ ∧ KI row k τ ∧ (∀ p, p < nP row → gI τ 164 p = hdW row k p ∧ gI τ 165 p = heW row k p) ∧ Ch FHc RNf σ τ := by
  have b30 := hB.p.2.1
  unfold F_X12_findHomes
  obtain ⟨τ1, t1, t2, t3, t4, t5, t6, t7⟩ := F_runAll (k := k) (lt_ := 0) hV hB hr
  obtain ⟨g, hg⟩ := BIGe (nP row) (by omega)
  obtain ⟨τ, u1, u2, u3, u4⟩ := homes_loop (g := g) hV hB t2 (fun p hp => t4.at (c := 149) (by decide) (by decide) (by decide) (by show 3 * p + 2 < 90; omega))
  rw [t1, bv_some, hg]
  exact ⟨τ, u1, u2, u3, (t7.mono (by simp [FHc]; intro i hi; exact Or.inl hi) (fun q hq => Or.inl hq)).trans (u4.mono (by simp [FHc, RNc]) (by simp [FDf, RNf]))⟩
end
