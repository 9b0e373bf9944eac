section
/-! the reference reads a CLAUSE as a whole -/
def ClQ (C : Cls) (g op ar : Nat → Int32) (x m m' : Nat) : Prop := (g x = nI C.1.1 ∧ g (x + 1) = nI C.1.2.1 ∧ g (x + 2) = nI C.1.2.2.1 ∧ g (x + 3) = nI C.1.2.2.2) ∧ (C.1.1 = 0 → (g (x + 4) = 0 ∧ g (x + 5) = 0 ∧ g (x + 6) = 0 ∧ g (x + 7) = 0) ∧ m' = m) ∧ (C.1.1 ≠ 0 → ClT C g op ar x m m')
def RcQ (L : Nat) (tp : Nat → Int32) (r : Nat × Option (Nat × Cls)) (x : Option AH) (b m np cn : Nat) (σ : AH) : Prop :=
  (∀ b', r = (b', none) → ∃ τ, x = some τ ∧ RgB L tp b' τ ∧ Ch RCc RCf σ τ) ∧
  (∀ b' np' C, r = (b', some (np', C)) → ∃ τ m', x = some τ ∧ RgQ L tp b' m' np' τ ∧ gI τ 124 13 = nI (cn + 1) ∧ (b ≤ b' ∧ m ≤ m' ∧ np ≤ np') ∧ (∀ t, t < m → gI τ 130 t = gI σ 130 t ∧ gI τ 131 t = gI σ 131 t) ∧ (∀ t, t < 9 * cn → gI τ 129 t = gI σ 129 t) ∧ ClQ C (gI τ 129) (gI τ 130) (gI τ 131) (9 * cn) m m' ∧ Ch RCc RCf σ τ)
theorem RcQ.fail {L b m np cn b1 : Nat} {tp : Nat → Int32} {x : Option AH} {σ : AH} (h : ∃ τ, x = some τ ∧ RgB L tp b1 τ ∧ Ch RCc RCf σ τ) : RcQ L tp (b1, none) x b m np cn σ := ⟨fun b' e' => (by cases e'; exact h), fun b' np' C e' => (by cases e')⟩
/-- NUMBERS of a strike -/
theorem numR {L b m np n : Nat} {tp : Nat → Int32} {σ : AH} (h : RgQ L tp b m np σ) (hn : n ≤ 10000) :
    ((tkT L tp b = 2 ∧ tkN L tp b ≤ n) ∧ ∃ τ, F_X12_number (lN n) σ = some (nI (tkN L tp b), τ) ∧ RgQ L tp (nxt L tp b) m np τ ∧ Ch [] TNf σ τ) ∨
    (¬ (tkT L tp b = 2 ∧ tkN L tp b ≤ n) ∧ ∃ v τ, F_X12_number (lN n) σ = some (v, τ) ∧ RgB L tp b τ ∧ Ch [] [(124, 11), (124, 12)] σ τ) := by
  obtain ⟨s1, a1, A1, a2⟩ := mustQ1 (v := 1) h (by decide)
  obtain ⟨s0, z1, Z1, z2⟩ := mustQ0 h
  unfold F_X12_number F_X12_number_28 F_X12_number_29
  rw [a1, z1, bv_some, bv_some, h.2.1.2.2.1, h.2.1.2.2.2.1]
  by_cases c : tkT L tp b = 2
  · obtain ⟨w, w1, w2, w3, w4⟩ := tkN_W c
    rw [if_pos (show nI (tkT L tp b) = (2 : Int32) by rw [c]; rfl), w1]
    have cmp := lN_lt (a := n) (b := w) (by omega) (by omega)
    by_cases q : w ≤ n
    · have ww := w4 (by omega)
      left
      rw [if_neg (fun z => by have := cmp.mp z; omega), lN_i, ww]
      exact ⟨⟨c, by omega⟩, s1, rfl, A1, a2⟩
    · right
      rw [if_pos (cmp.mpr (by omega))]
      refine ⟨fun z => ?_, _, s0, rfl, Z1, z2⟩
      have := w3.mpr (by omega)
      have := w4 this
      omega
  · right
    rw [if_neg (show ¬ nI (tkT L tp b) = (2 : Int32) from fun z => c ((tkT_i (n := 2) (by decide)).mp z))]
    exact ⟨fun z => c z.1, _, s0, rfl, Z1, z2⟩
theorem numX {L b : Nat} {tp : Nat → Int32} {σ : AH} {x : Int64} (h : RgB L tp b σ) : ∃ v, F_X12_number x σ = some (v, σ) := by
  unfold F_X12_number F_X12_number_28 F_X12_number_29
  rw [F_mustX h.2.1, F_mustX h.2.1, bv_some]
  exact ifX (ifX ⟨_, rfl⟩ ⟨_, rfl⟩) ⟨_, rfl⟩
def skB (x2 : Int32) (σ : AH) : Option AH := (bd (F_X12_number (23 : Int64) σ) fun v18 σ14 => (if inB (x2 + (1 : Int32)) 144 = true then (bd (F_X12_isWord (113301093 : Int64) (sI σ14 129 ((x2 + (1 : Int32)).toNatClampNeg) v18)) fun v25 σ21 => (bv (F_X12_must v25 σ21) fun σ27 => (bd (F_X12_number (15 : Int64) σ27) fun v36 σ32 => (if inB (x2 + (2 : Int32)) 144 = true then (some (sI σ32 129 ((x2 + (2 : Int32)).toNatClampNeg) v36)) else none)))) else none))
/-- a strike -/
theorem rSk {L b m np cn : Nat} {tp : Nat → Int32} {σ : AH} (h : RgQ L tp b m np σ) (hc : cn < 16) (h13 : gI σ 124 13 = nI (cn + 1)) (h0 : gI σ 129 (9 * cn) = 0) (hz : ∀ j, j < 9 → gI σ 129 (9 * cn + j) = 0) : RcQ L tp (prSk L tp b np) (skB (nI (9 * cn)) σ) b m np cn σ := by
  unfold skB
  rw [show nI (9 * cn) + (1 : Int32) = nI (9 * cn + 1) from nI_add _ _, show nI (9 * cn) + (2 : Int32) = nI (9 * cn + 2) from nI_add _ _]
  -- the rest when it is bad
  have bad2 : ∀ (ρ : AH) (b1 : Nat), RgB L tp b1 ρ → ∃ τ, (bd (F_X12_number (15 : Int64) ρ) fun v36 σ32 => (if inB (nI (9 * cn + 2)) 144 = true then (some (sI σ32 129 ((nI (9 * cn + 2)).toNatClampNeg) v36)) else none)) = some τ ∧ RgB L tp b1 τ ∧ Ch [129] [] ρ τ := fun ρ b1 hb => by
    obtain ⟨v, hv⟩ := numX (x := 15) hb
    rw [hv, bd_some, if_pos (inB_n (by omega) (by decide))]
    have k : Ch [129] [] ρ (sI ρ 129 (nI (9 * cn + 2)).toNatClampNeg v) := Ch.sI1 (Or.inr (by simp))
    exact ⟨_, rfl, hb.ch k, k⟩
  have nb1 := nxt_b (tp := tp) h.2.1.2.2.2.2
  have nb2 := nxt_b (tp := tp) nb1.2.1
  have nb3 := nxt_b (tp := tp) nb2.2.1
  unfold prSk
  rcases numR (n := 23) h (by decide) with ⟨c1, s1, a1, A1, a2⟩ | ⟨c1, v, s1, a1, A1, a2⟩
  · have a1' : F_X12_number (23 : Int64) σ = some (nI (tkN L tp b), s1) := a1
    rw [if_pos c1, a1', bd_some, if_pos (inB_n (by omega) (by decide)), nI_clamp (by omega)]
    obtain ⟨s2, hs2⟩ : ∃ s2, s2 = sI s1 129 (9 * cn + 1) (nI (tkN L tp b)) := ⟨_, rfl⟩
    rw [← hs2]
    have k2 : Ch [129] [] s1 s2 := by rw [hs2]; exact Ch.sI1 (Or.inr (by simp))
    have h2 := A1.ch (k2.mono (by simp) (by simp))
    have kk2 : Ch RCc RCf σ s2 := (TN_RC a2).trans (r9_RC k2)
    have wc : F_X12_isWord (113301093 : Int64) s2 = some (b2 (isW L tp (nxt L tp b) wCls), s2) := F_isWordR h2.2.1 (by decide) (by decide)
    rw [wc, bd_some]
    cases cw : isW L tp (nxt L tp b) wCls with
    | false =>
      obtain ⟨s3, z1, Z1, z2⟩ := mustQ0 h2
      obtain ⟨τ, t1, t2, t3⟩ := bad2 s3 _ Z1
      rw [if_neg (by decide), show b2 false = (0 : Int32) from rfl, z1, bv_some, t1]
      exact RcQ.fail ⟨τ, rfl, t2, (kk2.trans (bb_RC z2)).trans (r9_RC t3)⟩
    | true =>
      obtain ⟨s3, z1, Z1, z2⟩ := mustQ1 (v := 1) h2 (by decide)
      rw [if_pos rfl, show b2 true = (1 : Int32) from rfl, z1, bv_some]
      have kk3 := kk2.trans (TN_RC z2)
      rcases numR (n := 15) Z1 (by decide) with ⟨d1, s4, e1, E1, e2⟩ | ⟨d1, v, s4, e1, E1, e2⟩
      · have e1' : F_X12_number (15 : Int64) s3 = some (nI (tkN L tp (nxt L tp (nxt L tp b))), s4) := e1
        rw [if_pos d1, e1', bd_some, if_pos (inB_n (by omega) (by decide)), nI_clamp (by omega)]
        refine ⟨fun b' e' => (by cases e'), fun b' np' C e' => ?_⟩
        cases e'
        have k5 : Ch [129] [] s4 (sI s4 129 (9 * cn + 2) (nI (tkN L tp (nxt L tp (nxt L tp b))))) := Ch.sI1 (Or.inr (by simp))
        have r4 : ∀ t, gI s4 129 t = gI s2 129 t := fun t => by rw [e2.rI (by simp) (by simp [TNf]), z2.rI (by simp) (by simp [TNf])]
        have r2 : ∀ t, t ≠ 9 * cn + 1 → gI s2 129 t = gI σ 129 t := fun t ht => by rw [hs2, gI_sI_ne ht, a2.rI (by simp) (by simp [TNf])]
        have r2' : gI s2 129 (9 * cn + 1) = nI (tkN L tp b) := by rw [hs2, gI_sI_at]
        refine ⟨_, m, rfl, E1.ch (k5.mono (by simp) (by simp)), ?_, ⟨by omega, Nat.le_refl _, Nat.le_refl _⟩, fun t ht => ?_, fun t ht => by rw [gI_sI_ne (by omega), r4, r2 t (by omega)], ⟨⟨?_, ?_, ?_, ?_⟩, fun _ => ⟨⟨?_, ?_, ?_, ?_⟩, rfl⟩, fun z => absurd rfl z⟩, (kk3.trans (TN_RC e2)).trans (r9_RC k5)⟩
        · rw [gI_sI_row (by decide), e2.pI (by simp) (by simp [TNf]), z2.pI (by simp) (by simp [TNf]), hs2, gI_sI_row (by decide), a2.pI (by simp) (by simp [TNf])]; exact h13
        · rw [gI_sI_row (by decide), gI_sI_row (by decide), e2.rI (by simp) (by simp [TNf]), z2.rI (by simp) (by simp [TNf]), k2.rI (by simp) (by simp), a2.rI (by simp) (by simp [TNf]), e2.rI (by simp) (by simp [TNf]), z2.rI (by simp) (by simp [TNf]), k2.rI (by simp) (by simp), a2.rI (by simp) (by simp [TNf])]; exact ⟨rfl, rfl⟩
        · rw [gI_sI_ne (by omega), r4, r2 _ (by omega)]; exact h0
        · rw [gI_sI_ne (by omega), r4]; exact r2'
        · exact gI_sI_at
        · rw [gI_sI_ne (by omega), r4, r2 _ (by omega)]; exact hz 3 (by decide)
        · rw [gI_sI_ne (by omega), r4, r2 _ (by omega)]; exact hz 4 (by decide)
        · rw [gI_sI_ne (by omega), r4, r2 _ (by omega)]; exact hz 5 (by decide)
        · rw [gI_sI_ne (by omega), r4, r2 _ (by omega)]; exact hz 6 (by decide)
        · rw [gI_sI_ne (by omega), r4, r2 _ (by omega)]; exact hz 7 (by decide)
      · have e1' : F_X12_number (15 : Int64) s3 = some (v, s4) := e1
        rw [if_neg d1, e1', bd_some, if_pos (inB_n (by omega) (by decide))]
        have k5 : Ch [129] [] s4 (sI s4 129 (nI (9 * cn + 2)).toNatClampNeg v) := Ch.sI1 (Or.inr (by simp))
        exact RcQ.fail ⟨_, rfl, E1.ch k5, (kk3.trans (bb_RC e2)).trans (r9_RC k5)⟩
  · have a1' : F_X12_number (23 : Int64) σ = some (v, s1) := a1
    rw [if_neg c1, a1', bd_some, if_pos (inB_n (by omega) (by decide))]
    have k2 : Ch [129] [] s1 (sI s1 129 (nI (9 * cn + 1)).toNatClampNeg v) := Ch.sI1 (Or.inr (by simp))
    have B2 := A1.ch k2
    obtain ⟨w, hw⟩ := wordX (x := 113301093) (σ := sI s1 129 (nI (9 * cn + 1)).toNatClampNeg v)
    obtain ⟨τ, t1, t2, t3⟩ := bad2 _ _ B2
    rw [hw, bd_some, F_mustX B2.2.1, bv_some, t1]
    exact RcQ.fail ⟨τ, rfl, t2, ((bb_RC a2).trans (r9_RC k2)).trans (r9_RC t3)⟩
/-- from the KIND on -/
theorem r156 {L b m np cn v : Nat} {tp : Nat → Int32} {σ : AH} (h : RgQ L tp b m np σ) (hc : cn < 16) (hv : v ≤ 7) : RcR L tp (prKd L tp v b np) (F_X12_readClause_156 (nI (v + 1)) (nI (9 * cn)) (b2 (decide (v = 0 ∨ v = 1 ∨ v = 3 ∨ v = 7))) σ) (9 * cn) 1 v b m np cn σ := by
  have nb := nxt_b (tp := tp) h.2.1.2.2.2.2
  unfold prKd F_X12_readClause_156
  rw [show nI (9 * cn) + (1 : Int32) = nI (9 * cn + 1) from nI_add _ _]
  cases c : decide (v = 0 ∨ v = 1 ∨ v = 3 ∨ v = 7) with
  | false =>
    rw [hpF, opW_0]
    exact r180 (k := 0) h hc hv
  | true =>
    rw [hnT, opW_1, F_kindR h.2.1, bd_some]
    cases ix : ixQ L tp b (wL 3) 0 with
    | none =>
      obtain ⟨s3, a1, a2, a3⟩ := choice0 h
      obtain ⟨τ, t1, t2, t3⟩ := bad180 (x1 := nI (v + 1)) (y0 := -1) a2 hc
      rw [show oI none = (-1 : Int32) from rfl, a1, bd_some, t1]
      exact RcR.fail ⟨τ, rfl, t2, by rw [t3.pI (by simp) (by simp), a3.pI (by simp) (by simp)], (bb_RC a3).trans (r9_RC t3)⟩
    | some q =>
      have q5 := ixQ_lt _ _ _ ix
      have wl5 : (wL 3).length = 3 := by decide
      obtain ⟨s3, a1, A1, a3⟩ := choice1 (q := q) h (by omega)
      rw [show oI (some q) = nI q from rfl, a1, bd_some]
      obtain ⟨r1, r2⟩ := r180 (k := q) A1 hc hv
      refine ⟨fun b' e' => ?_, fun b' np' C e' => ?_⟩
      · obtain ⟨τ, t1, t2, t3, t4⟩ := r1 b' e'
        exact ⟨τ, t1, t2, by rw [t3, a3.pI (by simp) (by simp [TNf])], (TN_RC a3).trans t4⟩
      · obtain ⟨τ, m', t1, t2, t3, t4, t5, t6, t7, t8, t9, t10, t11, t12⟩ := r2 b' np' C e'
        exact ⟨τ, m', t1, t2, t3, by omega, fun t ht => by rw [(t5 t ht).1, (t5 t ht).2, a3.rI (by simp) (by simp [TNf]), a3.rI (by simp) (by simp [TNf])]; exact ⟨rfl, rfl⟩, fun t ht => by rw [t6 t ht, a3.rI (by simp) (by simp [TNf])], t7, t8, t9, t10, by rw [t11, a3.pI (by simp) (by simp [TNf])], (TN_RC a3).trans t12⟩
/-- the nine cells are emptied first -/
theorem clr_loop {cn : Nat} {x1 : Int32} (hc : cn < 16) : ∀ (j i g : Nat) (σ : AH), i + j = 9 → (∀ t, t < i → gI σ 129 (9 * cn + t) = 0) → ∃ τ, F_X12_readClause_46 (j + 1 + g) x1 (nI (9 * cn)) (nI i) σ = F_X12_readClause_46 (g + 1) x1 (nI (9 * cn)) (9 : Int32) τ ∧ (∀ t, t < 9 → gI τ 129 (9 * cn + t) = 0) ∧ (∀ t, t < 9 * cn → gI τ 129 t = gI σ 129 t) ∧ Ch [129] [] σ τ := by
  intro j
  induction j with
  | zero =>
    intro i g σ hi hz
    refine ⟨σ, ?_, fun t ht => hz t (by omega), fun _ _ => rfl, Ch.rf _⟩
    rw [show i = 9 by omega, show 0 + 1 + g = g + 1 by omega]; rfl
  | succ j ih =>
    intro i g σ hi hz
    have F0 : F_X12_readClause_46 (j + 1 + 1 + g) x1 (nI (9 * cn)) (nI i) σ = F_X12_readClause_46 (j + 1 + g) x1 (nI (9 * cn)) (nI (i + 1)) (sI σ 129 (9 * cn + i) 0) := by
      rw [show j + 1 + 1 + g = (j + 1 + g) + 1 by omega]
      show B_X12_readClause_46 (F_X12_readClause_46 (j + 1 + g)) x1 (nI (9 * cn)) (nI i) σ = _
      unfold B_X12_readClause_46
      rw [if_neg (show ¬ (9 : Int32) ≤ nI i from nI_ge (b := 9) (by omega) (by decide)), show nI (9 * cn) + nI i = nI (9 * cn + i) from nI_add _ _, if_pos (inB_n (by omega) (by decide)), nI_clamp (by omega), nI_1]
    obtain ⟨τ, t1, t2, t3, t4⟩ := ih (i + 1) g (sI σ 129 (9 * cn + i) 0) (by omega) (fun t ht => by
      by_cases z : t = i
      · rw [z, gI_sI_at]
      · rw [gI_sI_ne (by omega)]; exact hz t (by omega))
    exact ⟨τ, by rw [F0, t1], t2, fun t ht => by rw [t3 t ht, gI_sI_ne (by omega)], Ch.trans (Ch.sI1 (Or.inr (by simp))) t4⟩
def prC (L : Nat) (tp : Nat → Int32) (cn b np : Nat) : Nat × Option (Nat × Cls) := if 16 ≤ cn then (b, none) else prCl L tp b np
theorem F_clauseR {L b m np cn : Nat} {tp : Nat → Int32} {σ : AH} (h : RgQ L tp b m np σ) (h13 : gI σ 124 13 = nI cn) (hc : cn ≤ 16) : RcQ L tp (prC L tp cn b np) (F_X12_readClause σ) b m np cn σ := by
  have nb := nxt_b (tp := tp) h.2.1.2.2.2.2
  have bad : ∀ x, F_X12_readClause σ = F_X12_readClause_24 x σ → RcQ L tp (b, none) (F_X12_readClause σ) b m np cn σ := fun x e => by
    obtain ⟨τ, t1, t2, t3⟩ := mustQ0 h
    unfold F_X12_readClause_24 F_X12_readClause_25 at e
    rw [t1, bv_some, t2.2.1, if_neg (show ¬ (1 : Int32) = 0 by decide)] at e
    exact RcQ.fail ⟨τ, e, t2, bb_RC t3⟩
  have F0 : F_X12_readClause σ = if (if isW L tp b wStr = true then 0 else oI1 (ixQ L tp b (wL 2) 0)) = (-1 : Int32) then F_X12_readClause_24 (if isW L tp b wStr = true then 0 else oI1 (ixQ L tp b (wL 2) 0)) σ else if (16 : Int32) ≤ nI cn then F_X12_readClause_24 (if isW L tp b wStr = true then 0 else oI1 (ixQ L tp b (wL 2) 0)) σ else F_X12_readClause_25 (if isW L tp b wStr = true then 0 else oI1 (ixQ L tp b (wL 2) 0)) (1 : Int32) σ := by
    unfold F_X12_readClause
    rw [F_headR h.2.1, bd_some, h13]
  unfold prC
  by_cases c16 : 16 ≤ cn
  · rw [if_pos c16]
    rw [if_pos (show (16 : Int32) ≤ nI cn from nI_le (a := 16) c16 (by omega)), ite_self] at F0
    exact bad _ F0
  rw [if_neg (show ¬ (16 : Int32) ≤ nI cn from nI_ge (b := 16) (by omega) (by decide))] at F0
  rw [if_neg c16]
  -- a head is there
  have go : ∀ hd : Nat, hd ≤ 8 → F_X12_readClause σ = F_X12_readClause_25 (nI hd) (1 : Int32) σ → ∃ s2, F_X12_readClause σ = B_X12_readClause_46 (fun _ _ _ _ => none) (nI hd) (nI (9 * cn)) (9 : Int32) s2 ∧ RgQ L tp (nxt L tp b) m np s2 ∧ gI s2 124 13 = nI cn ∧ (∀ t, t < 9 → gI s2 129 (9 * cn + t) = 0) ∧ (∀ t, t < 9 * cn → gI s2 129 t = gI σ 129 t) ∧ gI s2 130 = gI σ 130 ∧ gI s2 131 = gI σ 131 ∧ Ch RCc RCf σ s2 := fun hd h8 e => by
    obtain ⟨s1, t1, t2, t3⟩ := mustQ1 (v := 1) h (by decide)
    have e13 : gI s1 124 13 = nI cn := by rw [t3.pI (by simp) (by simp [TNf])]; exact h13
    obtain ⟨g, hg⟩ := BIGe 9 (by decide)
    obtain ⟨s2, u1, u2, u3, u4⟩ := clr_loop (cn := cn) (x1 := nI hd) (by omega) 9 0 g s1 rfl (fun t ht => absurd ht (Nat.not_lt_zero t))
    refine ⟨s2, ?_, t2.ch (u4.mono (by simp) (by simp)), by rw [u4.pI (by simp) (by simp)]; exact e13, u2, fun t ht => by rw [u3 t ht, t3.rI (by simp) (by simp [TNf])], by rw [u4.rI (by simp) (by simp), t3.rI (by simp) (by simp [TNf])], by rw [u4.rI (by simp) (by simp), t3.rI (by simp) (by simp [TNf])], (TN_RC t3).trans (r9_RC u4)⟩
    rw [e]
    unfold F_X12_readClause_25
    rw [t1, bv_some, if_pos t2.2.2.1, e13, show (9 : Int32) * nI cn = nI (9 * cn) from pk_mul _ _, hg]
    have u1' : F_X12_readClause_46 (9 + 1 + g) (nI hd) (nI (9 * cn)) (0 : Int32) s1 = F_X12_readClause_46 (g + 1) (nI hd) (nI (9 * cn)) (9 : Int32) s2 := u1
    rw [u1']
    show B_X12_readClause_46 (F_X12_readClause_46 g) (nI hd) (nI (9 * cn)) (9 : Int32) s2 = _
    unfold B_X12_readClause_46
    rw [if_pos (show (9 : Int32) ≤ 9 by decide), if_pos (show (9 : Int32) ≤ 9 by decide)]
  unfold prCl
  cases cs : isW L tp b wStr with
  | true =>
    rw [cs, bpT, if_neg (show ¬ (0 : Int32) = -1 by decide)] at F0
    obtain ⟨s2, u1, u2, u3, u4, u5, u6, u7, u8⟩ := go 0 (by decide) F0
    obtain ⟨s3, hs3⟩ : ∃ s3, s3 = sI (sI s2 129 (9 * cn) (nI 0)) 124 13 (nI (cn + 1)) := ⟨_, rfl⟩
    have k3 : Ch [129] [(124, 13)] s2 s3 := by rw [hs3]; exact (Ch.sI1 (Or.inr (by simp))).trans (Ch.sI1 (Or.inl (by simp)))
    have e13 : gI (sI s2 129 (9 * cn) (nI 0)) 124 13 = nI cn := by rw [gI_sI_row (by decide)]; exact u3
    have FB : F_X12_readClause σ = skB (nI (9 * cn)) s3 := by
      rw [u1]
      unfold B_X12_readClause_46 skB
      rw [if_pos (show (9 : Int32) ≤ 9 by decide), if_pos (inB_n (by omega) (by decide)), if_pos (show nI 0 = (0 : Int32) from rfl), nI_clamp (by omega), e13, nI_1, ← hs3]
    have r3 : ∀ t, t ≠ 9 * cn → gI s3 129 t = gI s2 129 t := fun t ht => by rw [hs3, gI_sI_row (by decide), gI_sI_ne ht]
    have r3' : gI s3 129 (9 * cn) = 0 := by rw [hs3, gI_sI_row (by decide), gI_sI_at]; rfl
    obtain ⟨q1, q2⟩ := rSk (cn := cn) (u2.ch k3) (by omega) (by rw [hs3, gI_sI_at]) r3' (fun j hj => by
      by_cases z : j = 0
      · rw [z]; exact r3'
      · rw [r3 _ (by omega)]; exact u4 j hj)
    have k3' : Ch RCc RCf σ s3 := u8.trans (k3.mono (by simp [RCc]) (by simp [RCf]))
    rw [if_pos rfl, FB]
    refine ⟨fun b' e' => ?_, fun b' np' C e' => ?_⟩
    · obtain ⟨τ, t1, t2, t3⟩ := q1 b' e'
      exact ⟨τ, t1, t2, k3'.trans t3⟩
    · obtain ⟨τ, m', t1, t2, t3, t4, t5, t6, t7, t8⟩ := q2 b' np' C e'
      exact ⟨τ, m', t1, t2, t3, by omega, fun t ht => by rw [(t5 t ht).1, (t5 t ht).2, k3.rI (by simp) (by simp), k3.rI (by simp) (by simp), u6, u7]; exact ⟨rfl, rfl⟩, fun t ht => by rw [t6 t ht, r3 _ (by omega)]; exact u5 t ht, t7, k3'.trans t8⟩
  | false =>
    rw [cs, bnF] at F0
    rw [if_neg (by decide)]
    cases ix : ixQ L tp b (wL 2) 0 with
    | none =>
      rw [ix, show oI1 none = (-1 : Int32) from rfl, if_pos rfl] at F0
      exact bad _ F0
    | some v =>
      have v8 := ixQ_lt _ _ _ ix
      have wl2 : (wL 2).length = 8 := by decide
      rw [ix, show oI1 (some v) = nI (v + 1) from rfl, if_neg (nI_neg1 (by omega))] at F0
      obtain ⟨s2, u1, u2, u3, u4, u5, u6, u7, u8⟩ := go (v + 1) (by omega) F0
      obtain ⟨s3, hs3⟩ : ∃ s3, s3 = sI (sI s2 129 (9 * cn) (nI (v + 1))) 124 13 (nI (cn + 1)) := ⟨_, rfl⟩
      have k3 : Ch [129] [(124, 13)] s2 s3 := by rw [hs3]; exact (Ch.sI1 (Or.inr (by simp))).trans (Ch.sI1 (Or.inl (by simp)))
      have e13 : gI (sI s2 129 (9 * cn) (nI (v + 1))) 124 13 = nI cn := by rw [gI_sI_row (by decide)]; exact u3
      have ne : ∀ x : Nat, x < 100 → v + 1 ≠ x → ¬ nI (v + 1) = nI x := fun x hx hn z => hn ((nI_eq (by omega) (by omega)).mp z)
      have FB : F_X12_readClause σ = F_X12_readClause_156 (nI (v + 1)) (nI (9 * cn)) (b2 (decide (v = 0 ∨ v = 1 ∨ v = 3 ∨ v = 7))) s3 := by
        rw [u1]
        unfold B_X12_readClause_46 F_X12_readClause_151
        rw [if_pos (show (9 : Int32) ≤ 9 by decide), if_pos (inB_n (by omega) (by decide)), if_neg (show ¬ nI (v + 1) = (0 : Int32) from ne 0 (by decide) (by omega)), nI_clamp (by omega), e13, nI_1, ← hs3]
        by_cases w0 : v = 0
        · rw [if_pos (show nI (v + 1) = (1 : Int32) by rw [w0]; rfl), decide_eq_true (Or.inl w0)]; rfl
        rw [if_neg (show ¬ nI (v + 1) = (1 : Int32) from ne 1 (by decide) (by omega))]
        by_cases w1 : v = 1
        · rw [if_pos (show nI (v + 1) = (2 : Int32) by rw [w1]; rfl), decide_eq_true (Or.inr (Or.inl w1))]; rfl
        rw [if_neg (show ¬ nI (v + 1) = (2 : Int32) from ne 2 (by decide) (by omega))]
        by_cases w3 : v = 3
        · rw [if_pos (show nI (v + 1) = (4 : Int32) by rw [w3]; rfl), decide_eq_true (Or.inr (Or.inr (Or.inl w3)))]; rfl
        rw [if_neg (show ¬ nI (v + 1) = (4 : Int32) from ne 4 (by decide) (by omega))]
        by_cases w7 : v = 7
        · rw [if_pos (show nI (v + 1) = (8 : Int32) by rw [w7]; rfl), decide_eq_true (Or.inr (Or.inr (Or.inr w7)))]; rfl
        rw [if_neg (show ¬ nI (v + 1) = (8 : Int32) from ne 8 (by decide) (by omega)), decide_eq_false (by omega)]; rfl
      have r3 : ∀ t, t ≠ 9 * cn → gI s3 129 t = gI s2 129 t := fun t ht => by rw [hs3, gI_sI_row (by decide), gI_sI_ne ht]
      have r3' : gI s3 129 (9 * cn) = nI (v + 1) := by rw [hs3, gI_sI_row (by decide), gI_sI_at]
      obtain ⟨q1, q2⟩ := r156 (cn := cn) (v := v) (u2.ch k3) (by omega) (by omega)
      have k3' : Ch RCc RCf σ s3 := u8.trans (k3.mono (by simp [RCc]) (by simp [RCf]))
      rw [FB]
      refine ⟨fun b' e' => ?_, fun b' np' C e' => ?_⟩
      · obtain ⟨τ, t1, t2, t3, t4⟩ := q1 b' e'
        exact ⟨τ, t1, t2, k3'.trans t4⟩
      · obtain ⟨τ, m', t1, t2, t3, t4, t5, t6, t7, t8, t9, t10, t11, t12⟩ := q2 b' np' C e'
        refine ⟨τ, m', t1, t2, by rw [t11, hs3, gI_sI_at], by omega, fun t ht => by rw [(t5 t ht).1, (t5 t ht).2, k3.rI (by simp) (by simp), k3.rI (by simp) (by simp), u6, u7]; exact ⟨rfl, rfl⟩, fun t ht => by rw [t6 t (by omega), r3 _ (by omega)]; exact u5 t ht, ⟨⟨by rw [t6 _ (by omega), r3', t3], t7 (by decide), t8 (by decide), t9 (by decide)⟩, fun z => absurd z (by omega), fun _ => t10⟩, k3'.trans t12⟩
end
