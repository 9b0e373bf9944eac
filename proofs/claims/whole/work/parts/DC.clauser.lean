section
/-! the reference reads a CLAUSE: its end -/
def RCc : List Nat := [129, 130, 131, 132, 133]
def RCf : List (Nat × Nat) := [(124, 7), (124, 8), (124, 9), (124, 10), (124, 11), (124, 12), (124, 13), (124, 15), (124, 18), (124, 21), (124, 22)]
theorem RR_RC {σ τ : AH} (c : Ch RRc RRf σ τ) : Ch RCc RCf σ τ := c.mono (by simp [RRc, RCc]) (by simp [RRf, RCf])
theorem r9_RC {σ τ : AH} (c : Ch [129] [] σ τ) : Ch RCc RCf σ τ := c.mono (by simp [RCc]) (by simp)
theorem RgB.ch {L b : Nat} {tp : Nat → Int32} {σ τ : AH} (h : RgB L tp b σ) (c : Ch [129] [] σ τ) : RgB L tp b τ := ⟨h.1.ch c (by simp) (by simp), by rw [c.pI (by simp) (by simp)]; exact h.2.1, by rw [c.pI (by simp) (by simp)]; exact h.2.2.1, h.2.2.2⟩
theorem RgQ.ch {L b m np : Nat} {tp : Nat → Int32} {σ τ : AH} (h : RgQ L tp b m np σ) (c : Ch [129] [(124, 13)] σ τ) : RgQ L tp b m np τ := by
  obtain ⟨h1, ⟨q1, q2, q3, q4, q5⟩, h3, h4, h5, h6, h7⟩ := h
  exact ⟨h1.ch c (by simp) (by simp), ⟨by rw [c.pI (by simp) (by simp)]; exact q1, by rw [c.pI (by simp) (by simp)]; exact q2, by rw [c.pI (by simp) (by simp)]; exact q3, by rw [c.pL (by simp) (by simp)]; exact q4, q5⟩, by rw [c.pI (by simp) (by simp)]; exact h3, by rw [c.pI (by simp) (by simp)]; exact h4, by rw [c.pI (by simp) (by simp)]; exact h5, h6, h7⟩
theorem RgQ.next {L b m np : Nat} {tp : Nat → Int32} {σ : AH} (h : RgQ L tp b m np σ) : ∃ τ, F_X12_next σ = some τ ∧ RgQ L tp (nxt L tp b) m np τ ∧ Ch [] TNf σ τ := by
  obtain ⟨h1, h2, h3, h4, h5, h6, h7⟩ := h
  obtain ⟨τ, t1, t2, t3⟩ := F_next1 h1.r h2
  have nb := nxt_b (tp := tp) h2.2.2.2.2
  exact ⟨τ, t1, ⟨h1.ch t3 (by simp) (by simp [TNf]), t2, by rw [t3.pI (by simp) (by simp [TNf])]; exact h3, by rw [t3.pI (by simp) (by simp [TNf])]; exact h4, by rw [t3.pI (by simp) (by simp [TNf])]; exact h5, by omega, h7⟩, t3⟩
theorem mustQ1 {L b m np : Nat} {tp : Nat → Int32} {σ : AH} {v : Int32} (h : RgQ L tp b m np σ) (hv : v ≠ 0) : ∃ τ, F_X12_must v σ = some τ ∧ RgQ L tp (nxt L tp b) m np τ ∧ Ch [] TNf σ τ := by
  obtain ⟨τ, t1, t2, t3⟩ := h.next
  refine ⟨τ, ?_, t2, t3⟩
  unfold F_X12_must F_X12_must_24
  rw [if_pos h.2.2.1, if_neg hv, if_pos h.2.2.1, t1, bv_some]
theorem mustQ0 {L b m np : Nat} {tp : Nat → Int32} {σ : AH} (h : RgQ L tp b m np σ) : ∃ τ, F_X12_must (0 : Int32) σ = some τ ∧ RgB L tp b τ ∧ Ch [] [(124, 11), (124, 12)] σ τ := by
  obtain ⟨h1, h2, h3, h4, h5, h6, h7⟩ := h
  unfold F_X12_must F_X12_must_24
  have e7 : gI (sI σ 124 12 1) 124 7 = nI b := by rw [gI_sI_ne (by decide)]; exact h2.1
  have e12 : gI (sI (sI σ 124 12 1) 124 11 (nI b)) 124 12 = 1 := by rw [gI_sI_ne (by decide), gI_sI_at]
  rw [if_pos h3, if_pos rfl, e7, e12, if_neg (show ¬ (1 : Int32) = 0 by decide)]
  have k : Ch [] [(124, 11), (124, 12)] σ (sI (sI σ 124 12 1) 124 11 (nI b)) := (Ch.sI1 (Or.inl (by simp))).trans (Ch.sI1 (Or.inl (by simp)))
  exact ⟨_, rfl, ⟨h1.r.ch k (by simp) (by simp), e12, gI_sI_at, h2.2.2.2.2⟩, k⟩
theorem choice1 {L b m np q : Nat} {tp : Nat → Int32} {σ : AH} (h : RgQ L tp b m np σ) (hq : q < 1000) : ∃ τ, F_X12_choice (nI q) σ = some (nI q, τ) ∧ RgQ L tp (nxt L tp b) m np τ ∧ Ch [] TNf σ τ := by
  obtain ⟨τ, t1, t2, t3⟩ := mustQ1 (v := 1) h (by decide)
  refine ⟨τ, ?_, t2, t3⟩
  unfold F_X12_choice F_X12_choice_11
  rw [if_neg (nI_neg1 (by omega)), t1, bv_some]
theorem choice0 {L b m np : Nat} {tp : Nat → Int32} {σ : AH} (h : RgQ L tp b m np σ) : ∃ τ, F_X12_choice (-1 : Int32) σ = some (-1, τ) ∧ RgB L tp b τ ∧ Ch [] [(124, 11), (124, 12)] σ τ := by
  obtain ⟨τ, t1, t2, t3⟩ := mustQ0 h
  refine ⟨τ, ?_, t2, t3⟩
  unfold F_X12_choice F_X12_choice_11
  rw [if_pos rfl, t1, bv_some]
theorem choiceX {L b : Nat} {tp : Nat → Int32} {σ : AH} {v : Int32} (h : RgB L tp b σ) : F_X12_choice v σ = some (v, σ) := by
  unfold F_X12_choice F_X12_choice_11
  by_cases z : v = -1
  · rw [if_pos z, F_mustX h.2.1, bv_some]
  · rw [if_neg z, F_mustX h.2.1, bv_some]
theorem ix9 {cn j : Nat} : nI (9 * cn) + nI j = nI (9 * cn + j) := nI_add _ _
theorem bad317 {L b cn : Nat} {tp : Nat → Int32} {σ : AH} (h : RgB L tp b σ) (hc : cn < 16) : ∃ τ, F_X12_readClause_317 (nI (9 * cn)) σ = some τ ∧ RgB L tp b τ ∧ Ch [129] [] σ τ := by
  unfold F_X12_readClause_317
  rw [show nI (9 * cn) + (7 : Int32) = nI (9 * cn + 7) from nI_add _ _, if_pos (inB_n (by omega) (by decide))]
  have k : Ch [129] [] σ (sI σ 129 (nI (9 * cn + 7)).toNatClampNeg (gI σ 124 15)) := Ch.sI1 (Or.inr (by simp))
  exact ⟨_, rfl, h.ch k, k⟩
theorem bad266 {L b cn : Nat} {tp : Nat → Int32} {σ : AH} (h : RgB L tp b σ) (hc : cn < 16) : ∃ τ, F_X12_readClause_266 (nI (9 * cn)) σ = some τ ∧ RgB L tp b τ ∧ Ch [129] [] σ τ := by
  unfold F_X12_readClause_266
  rw [show nI (9 * cn) + (5 : Int32) = nI (9 * cn + 5) from nI_add _ _, show nI (9 * cn) + (6 : Int32) = nI (9 * cn + 6) from nI_add _ _, if_pos (inB_n (by omega) (by decide)), if_pos (inB_n (by omega) (by decide)), lt_e]
  obtain ⟨s2, hs2⟩ : ∃ s2, s2 = sI (sI σ 129 (nI (9 * cn + 5)).toNatClampNeg (gI σ 124 15)) 129 (nI (9 * cn + 6)).toNatClampNeg (gI (sI σ 129 (nI (9 * cn + 5)).toNatClampNeg (gI σ 124 15)) 124 15) := ⟨_, rfl⟩
  rw [← hs2]
  have k : Ch [129] [] σ s2 := by rw [hs2]; exact (Ch.sI1 (Or.inr (by simp))).trans (Ch.sI1 (Or.inr (by simp)))
  have h2 := h.ch k
  obtain ⟨τ, t1, t2, t3⟩ := bad317 h2 hc
  rw [h2.2.1, if_neg (show ¬ (1 : Int32) = 0 by decide), t1]
  exact ⟨τ, rfl, t2, k.trans t3⟩
theorem bad235 {L b cn : Nat} {tp : Nat → Int32} {x1 y0 : Int32} {σ : AH} (h : RgB L tp b σ) (hc : cn < 16) : ∃ τ, F_X12_readClause_235 x1 (nI (9 * cn)) y0 (nI (9 * cn + 3)) σ = some τ ∧ RgB L tp b τ ∧ Ch [129] [] σ τ := by
  unfold F_X12_readClause_235
  rw [show nI (9 * cn) + (4 : Int32) = nI (9 * cn + 4) from nI_add _ _, if_pos (inB_n (by omega) (by decide)), if_pos (inB_n (by omega) (by decide))]
  obtain ⟨s2, hs2⟩ : ∃ s2, s2 = sI (sI σ 129 (nI (9 * cn + 3)).toNatClampNeg y0) 129 (nI (9 * cn + 4)).toNatClampNeg (gI (sI σ 129 (nI (9 * cn + 3)).toNatClampNeg y0) 124 15) := ⟨_, rfl⟩
  rw [← hs2]
  have k : Ch [129] [] σ s2 := by rw [hs2]; exact (Ch.sI1 (Or.inr (by simp))).trans (Ch.sI1 (Or.inr (by simp)))
  have h2 := h.ch k
  obtain ⟨τ, t1, t2, t3⟩ := bad266 h2 hc
  rw [h2.2.1, if_neg (show ¬ (1 : Int32) = 0 by decide), t1, ite_self]
  exact ⟨τ, rfl, t2, k.trans t3⟩
theorem bad210 {L b cn : Nat} {tp : Nat → Int32} {x1 y0 : Int32} {σ : AH} (h : RgB L tp b σ) (hc : cn < 16) : ∃ τ, F_X12_readClause_210 x1 (nI (9 * cn)) y0 (nI (9 * cn + 2)) σ = some τ ∧ RgB L tp b τ ∧ Ch [129] [] σ τ := by
  unfold F_X12_readClause_210
  rw [show nI (9 * cn) + (3 : Int32) = nI (9 * cn + 3) from nI_add _ _, if_pos (inB_n (by omega) (by decide))]
  obtain ⟨s2, hs2⟩ : ∃ s2, s2 = sI σ 129 (nI (9 * cn + 2)).toNatClampNeg y0 := ⟨_, rfl⟩
  rw [← hs2]
  have k : Ch [129] [] σ s2 := by rw [hs2]; exact Ch.sI1 (Or.inr (by simp))
  have h2 := h.ch k
  by_cases z : x1 = 1
  · obtain ⟨v, hv⟩ := materialX (σ := s2)
    obtain ⟨τ, t1, t2, t3⟩ := bad235 (x1 := x1) (y0 := v) h2 hc
    rw [if_pos z, hv, bd_some, choiceX h2, bd_some, t1]
    exact ⟨τ, rfl, t2, k.trans t3⟩
  · obtain ⟨τ, t1, t2, t3⟩ := bad235 (x1 := x1) (y0 := 0) h2 hc
    rw [if_neg z, t1]
    exact ⟨τ, rfl, t2, k.trans t3⟩
theorem bad198 {L b cn : Nat} {tp : Nat → Int32} {x1 : Int32} {σ : AH} (h : RgB L tp b σ) (hc : cn < 16) : ∃ τ, F_X12_readClause_198 x1 (nI (9 * cn)) (nI (9 * cn + 2)) σ = some τ ∧ RgB L tp b τ ∧ Ch [129] [] σ τ := by
  unfold F_X12_readClause_198
  obtain ⟨v, hv⟩ := stageX (σ := σ)
  obtain ⟨τ, t1, t2, t3⟩ := bad210 (x1 := x1) (y0 := v) h hc
  rw [hv, bd_some, choiceX h, bd_some, t1]
  exact ⟨τ, rfl, t2, t3⟩
theorem bad180 {L b cn : Nat} {tp : Nat → Int32} {x1 y0 : Int32} {σ : AH} (h : RgB L tp b σ) (hc : cn < 16) : ∃ τ, F_X12_readClause_180 x1 (nI (9 * cn)) y0 (nI (9 * cn + 1)) σ = some τ ∧ RgB L tp b τ ∧ Ch [129] [] σ τ := by
  unfold F_X12_readClause_180
  rw [show nI (9 * cn) + (2 : Int32) = nI (9 * cn + 2) from nI_add _ _, if_pos (inB_n (by omega) (by decide))]
  obtain ⟨s2, hs2⟩ : ∃ s2, s2 = sI σ 129 (nI (9 * cn + 1)).toNatClampNeg y0 := ⟨_, rfl⟩
  rw [← hs2]
  have k : Ch [129] [] σ s2 := by rw [hs2]; exact Ch.sI1 (Or.inr (by simp))
  have h2 := h.ch k
  obtain ⟨τ, t1, t2, t3⟩ := bad198 (x1 := x1) h2 hc
  obtain ⟨τ', t1', t2', t3'⟩ := bad210 (x1 := x1) (y0 := 0) h2 hc
  rw [t1, t1']
  by_cases z : x1 = 1
  · rw [if_pos z]; exact ⟨τ, rfl, t2, k.trans t3⟩
  · rw [if_neg z]
    by_cases z2 : x1 = 2
    · rw [if_pos z2]; exact ⟨τ, rfl, t2, k.trans t3⟩
    · rw [if_neg z2]; exact ⟨τ', rfl, t2', k.trans t3'⟩
/-- behind the SUM: if, and a TEST -/
theorem r266 {L b m np cn : Nat} {tp : Nat → Int32} {σ : AH} {hd : Nat × Nat × Nat × Nat} {S : Option Den} (h : RgQ L tp b m np σ) (hc : cn < 16) :
    (∀ b', prTl L tp hd S b np = (b', none) → ∃ τ, F_X12_readClause_266 (nI (9 * cn)) σ = some τ ∧ RgB L tp b' τ ∧ gI τ 124 13 = gI σ 124 13 ∧ Ch RCc RCf σ τ) ∧
    (∀ b' np' C, prTl L tp hd S b np = (b', some (np', C)) → ∃ τ m' T, C = (hd, S, T) ∧ F_X12_readClause_266 (nI (9 * cn)) σ = some τ ∧ RgQ L tp b' m' np' τ ∧ (b ≤ b' ∧ m ≤ m' ∧ np ≤ np') ∧ (∀ t, t < m → gI τ 130 t = gI σ 130 t ∧ gI τ 131 t = gI σ 131 t) ∧ (∀ t, t < 9 * cn + 5 → gI τ 129 t = gI σ 129 t) ∧ (gI τ 129 (9 * cn + 5) = nI m ∧ gI τ 129 (9 * cn + 6) = nI m ∧ gI τ 129 (9 * cn + 7) = nI m') ∧ (T = none → m' = m) ∧ (∀ D, T = some D → m < m' ∧ SgV 19 (gI τ 130) (gI τ 131) m m' (np' - np) D) ∧ gI τ 124 13 = gI σ 124 13 ∧ Ch RCc RCf σ τ) := by
  have e0 : ∃ s2, s2 = sI (sI σ 129 (9 * cn + 5) (nI m)) 129 (9 * cn + 6) (nI m) := ⟨_, rfl⟩
  obtain ⟨s2, hs2⟩ := e0
  have k2 : Ch [129] [] σ s2 := by rw [hs2]; exact (Ch.sI1 (Or.inr (by simp))).trans (Ch.sI1 (Or.inr (by simp)))
  have h2 : RgQ L tp b m np s2 := h.ch (k2.mono (by simp) (by simp))
  have F0 : F_X12_readClause_266 (nI (9 * cn)) σ = bd (F_X12_isWord (294 : Int64) s2) fun v94 σ90 => (if v94 = 0 then (F_X12_readClause_317 (nI (9 * cn)) σ90) else (bv (F_X12_next σ90) fun σ96 => (bv (F_X12_readExpression (1 : Int32) σ96) fun σ101 => (F_X12_readClause_317 (nI (9 * cn)) σ101)))) := by
    unfold F_X12_readClause_266
    have e15 : gI (sI σ 129 (9 * cn + 5) (nI m)) 124 15 = nI m := by rw [gI_sI_row (by decide)]; exact h.2.2.2.1
    rw [show nI (9 * cn) + (5 : Int32) = nI (9 * cn + 5) from nI_add _ _, show nI (9 * cn) + (6 : Int32) = nI (9 * cn + 6) from nI_add _ _, if_pos (inB_n (by omega) (by decide)), if_pos (inB_n (by omega) (by decide)), lt_e, nI_clamp (by omega), nI_clamp (by omega), h.2.2.2.1, e15, ← hs2, if_pos h2.2.2.1]
  have wi : F_X12_isWord (294 : Int64) s2 = some (b2 (isW L tp b wIf), s2) := F_isWordR h2.2.1 (by decide) (by decide)
  rw [wi, bd_some] at F0
  -- the last cell
  have last : ∀ (ρ : AH) (m' : Nat), gI ρ 124 15 = nI m' → F_X12_readClause_317 (nI (9 * cn)) ρ = some (sI ρ 129 (9 * cn + 7) (nI m')) := fun ρ m' e => by
    unfold F_X12_readClause_317
    rw [show nI (9 * cn) + (7 : Int32) = nI (9 * cn + 7) from nI_add _ _, if_pos (inB_n (by omega) (by decide)), nI_clamp (by omega), e]
  have c5 : ∀ t, t < 9 * cn + 5 → gI s2 129 t = gI σ 129 t := fun t ht => by rw [hs2, gI_sI_ne (by omega), gI_sI_ne (by omega)]
  have c6 : gI s2 129 (9 * cn + 5) = nI m := by rw [hs2, gI_sI_ne (by omega), gI_sI_at]
  have c7 : gI s2 129 (9 * cn + 6) = nI m := by rw [hs2, gI_sI_at]
  have e13 : gI s2 124 13 = gI σ 124 13 := k2.pI (by simp) (by simp)
  cases ci : isW L tp b wIf with
  | false =>
    have p0 : prTl L tp hd S b np = (b, some (np, hd, S, none)) := by unfold prTl; rw [if_neg (by rw [ci]; decide)]
    rw [ci, hpF, last s2 m h2.2.2.2.1] at F0
    refine ⟨fun b' e' => (by rw [p0] at e'; cases e'), fun b' np' C e' => ?_⟩
    rw [p0] at e'
    cases e'
    have k3 : Ch [129] [] s2 (sI s2 129 (9 * cn + 7) (nI m)) := Ch.sI1 (Or.inr (by simp))
    refine ⟨_, m, none, rfl, F0, h2.ch (k3.mono (by simp) (by simp)), ⟨Nat.le_refl _, Nat.le_refl _, Nat.le_refl _⟩, fun t ht => ?_, fun t ht => ?_, ⟨?_, ?_, gI_sI_at⟩, fun _ => rfl, (fun D z => by cases z), ?_, (r9_RC k2).trans (r9_RC k3)⟩
    · rw [gI_sI_row (by decide), gI_sI_row (by decide), k2.rI (by simp) (by simp), k2.rI (by simp) (by simp)]; exact ⟨rfl, rfl⟩
    · rw [gI_sI_ne (by omega)]; exact c5 t ht
    · rw [gI_sI_ne (by omega)]; exact c6
    · rw [gI_sI_ne (by omega)]; exact c7
    · rw [gI_sI_row (by decide)]; exact e13
  | true =>
    have p0 : prTl L tp hd S b np = (match prTs L tp 8 (nxt L tp b) np with
      | (b', none) => (b', none)
      | (b', some (n, D)) => (b', some (n, hd, S, some D))) := by unfold prTl; rw [if_pos ci]; rfl
    have nb := nxt_b (tp := tp) h.2.1.2.2.2.2
    obtain ⟨s3, a1, A1, a2⟩ := h2.next
    have k3 : Ch RCc RCf σ s3 := (r9_RC k2).trans (a2.mono (by simp) (by simp [TNf, RCf]))
    have e13' : gI s3 124 13 = gI σ 124 13 := by rw [a2.pI (by simp) (by simp [TNf])]; exact e13
    obtain ⟨r1, r2⟩ := F_testR A1
    rw [ci, hnT, a1, bv_some] at F0
    rcases hr : prTs L tp 8 (nxt L tp b) np with ⟨b2, _ | ⟨n2, D2⟩⟩
    · rw [hr] at p0
      obtain ⟨s4, u1, u2, u3⟩ := r1 b2 hr
      obtain ⟨τ, t1, t2, t3⟩ := bad317 u2 hc
      rw [u1, bv_some, t1] at F0
      refine ⟨fun b' e' => ?_, fun b' np' C e' => (by rw [p0] at e'; cases e')⟩
      rw [p0] at e'
      cases e'
      exact ⟨τ, F0, t2, by rw [t3.pI (by simp) (by simp), u3.pI (by simp [RRc]) (by simp [RRf])]; exact e13', (k3.trans (RR_RC u3)).trans (r9_RC t3)⟩
    · rw [hr] at p0
      obtain ⟨s4, m', u1, U1, u2, u3, u4, u5⟩ := r2 b2 n2 D2 hr
      rw [u1, bv_some, last s4 m' U1.2.2.2.1] at F0
      refine ⟨fun b' e' => (by rw [p0] at e'; cases e'), fun b' np' C e' => ?_⟩
      have e2 : (b2, some (n2, hd, S, some D2)) = (b', some (np', C)) := p0.symm.trans e'
      cases e2
      have k4 : Ch [129] [] s4 (sI s4 129 (9 * cn + 7) (nI m')) := Ch.sI1 (Or.inr (by simp))
      have r129 : gI s4 129 = gI s2 129 := by rw [u5.rI (by simp [RRc]) (by simp [RRf]), a2.rI (by simp) (by simp [TNf])]
      refine ⟨_, m', some D2, rfl, F0, U1.ch (k4.mono (by simp) (by simp)), ⟨by omega, by omega, by omega⟩, fun t ht => ?_, fun t ht => ?_, ⟨?_, ?_, gI_sI_at⟩, (fun z => by cases z), (fun D z => ?_), ?_, (k3.trans (RR_RC u5)).trans (r9_RC k4)⟩
      · have y := u3 t ht
        rw [gI_sI_row (by decide), gI_sI_row (by decide), y.1, y.2, a2.rI (by simp) (by simp [TNf]), a2.rI (by simp) (by simp [TNf]), k2.rI (by simp) (by simp), k2.rI (by simp) (by simp)]; exact ⟨rfl, rfl⟩
      · rw [gI_sI_ne (by omega), r129]; exact c5 t ht
      · rw [gI_sI_ne (by omega), r129]; exact c6
      · rw [gI_sI_ne (by omega), r129]; exact c7
      · cases z
        refine ⟨u2.2.1, ?_⟩
        rw [gI_sI_row (by decide), gI_sI_row (by decide)]; exact u4
      · rw [gI_sI_row (by decide), u5.pI (by simp [RRc]) (by simp [RRf])]; exact e13'
end
