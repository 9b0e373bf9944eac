section
/-! the reference reads a CLAUSE: SUM, MATERIAL, STAGE, KIND -/
def ClT (C : Cls) (g op ar : Nat → Int32) (x m m' : Nat) : Prop := ∃ j, (m ≤ j ∧ j ≤ m') ∧ (g (x + 4) = nI m ∧ g (x + 5) = nI j ∧ g (x + 6) = nI j ∧ g (x + 7) = nI m') ∧ (C.1.1 = 8 → j = m ∧ C.2.1 = none) ∧ (C.1.1 ≠ 8 → ∃ D k, C.2.1 = some D ∧ k ≤ 60 ∧ m < j ∧ SgV 16 op ar m j k D) ∧ (C.2.2 = none → m' = j) ∧ (∀ D, C.2.2 = some D → ∃ k, k ≤ 60 ∧ j < m' ∧ SgV 19 op ar j m' k D)
def RcR (L : Nat) (tp : Nat → Int32) (r : Nat × Option (Nat × Cls)) (x : Option AH) (X j v b m np cn : Nat) (σ : AH) : Prop :=
  (∀ b', r = (b', none) → ∃ τ, x = some τ ∧ RgB L tp b' τ ∧ gI τ 124 13 = gI σ 124 13 ∧ Ch RCc RCf σ τ) ∧
  (∀ b' np' C, r = (b', some (np', C)) → ∃ τ m', x = some τ ∧ RgQ L tp b' m' np' τ ∧ C.1.1 = v + 1 ∧ (b ≤ b' ∧ m ≤ m' ∧ np ≤ np') ∧ (∀ t, t < m → gI τ 130 t = gI σ 130 t ∧ gI τ 131 t = gI σ 131 t) ∧ (∀ t, t < 9 * cn + j → gI τ 129 t = gI σ 129 t) ∧ (j ≤ 1 → gI τ 129 (X + 1) = nI C.1.2.1) ∧ (j ≤ 2 → gI τ 129 (X + 2) = nI C.1.2.2.1) ∧ (j ≤ 3 → gI τ 129 (X + 3) = nI C.1.2.2.2) ∧ ClT C (gI τ 129) (gI τ 130) (gI τ 131) X m m' ∧ gI τ 124 13 = gI σ 124 13 ∧ Ch RCc RCf σ τ)
theorem prTl_hd {L b np b' np' : Nat} {tp : Nat → Int32} {h : Nat × Nat × Nat × Nat} {S : Option Den} {C : Cls} (e : prTl L tp h S b np = (b', some (np', C))) : C.1 = h ∧ C.2.1 = S := by
  unfold prTl at e
  by_cases c : isW L tp b wIf = true
  · rw [if_pos c] at e
    rcases hr : prTs L tp 8 (nxt L tp b) np with ⟨b2, _ | ⟨n2, D2⟩⟩
    · rw [hr] at e; cases e
    · rw [hr] at e; cases e; exact ⟨rfl, rfl⟩
  · rw [if_neg c] at e; cases e; exact ⟨rfl, rfl⟩
theorem tl_clT {m j m' : Nat} {h : Nat × Nat × Nat × Nat} {S T : Option Den} {g op ar : Nat → Int32} {x : Nat} (hm : m ≤ j ∧ j ≤ m') (h4 : g (x + 4) = nI m ∧ g (x + 5) = nI j ∧ g (x + 6) = nI j ∧ g (x + 7) = nI m') (h8 : h.1 = 8 → j = m ∧ S = none) (h9 : h.1 ≠ 8 → ∃ D k, S = some D ∧ k ≤ 60 ∧ m < j ∧ SgV 16 op ar m j k D) (hT : T = none → m' = j) (hD : ∀ D, T = some D → ∃ k, k ≤ 60 ∧ j < m' ∧ SgV 19 op ar j m' k D) : ClT (h, S, T) g op ar x m m' := ⟨j, hm, h4, h8, h9, hT, hD⟩
theorem r235 {L b m np cn v k s mt : Nat} {tp : Nat → Int32} {σ : AH} (h : RgQ L tp b m np σ) (hc : cn < 16) (hv : v ≤ 7) : RcR L tp (prEx L tp v k s mt b np) (F_X12_readClause_235 (nI (v + 1)) (nI (9 * cn)) (nI mt) (nI (9 * cn + 3)) σ) (9 * cn) 3 v b m np cn σ := by
  obtain ⟨s2, hs2⟩ : ∃ s2, s2 = sI (sI σ 129 (9 * cn + 3) (nI mt)) 129 (9 * cn + 4) (nI m) := ⟨_, rfl⟩
  have k2 : Ch [129] [] σ s2 := by rw [hs2]; exact (Ch.sI1 (Or.inr (by simp))).trans (Ch.sI1 (Or.inr (by simp)))
  have h2 : RgQ L tp b m np s2 := h.ch (k2.mono (by simp) (by simp))
  have c3 : ∀ t, t < 9 * cn + 3 → gI s2 129 t = gI σ 129 t := fun t ht => by rw [hs2, gI_sI_ne (by omega), gI_sI_ne (by omega)]
  have c4 : gI s2 129 (9 * cn + 3) = nI mt := by rw [hs2, gI_sI_ne (by omega), gI_sI_at]
  have c5 : gI s2 129 (9 * cn + 4) = nI m := by rw [hs2, gI_sI_at]
  have e13 : gI s2 124 13 = gI σ 124 13 := k2.pI (by simp) (by simp)
  have s130 : gI s2 130 = gI σ 130 := k2.rI (by simp) (by simp)
  have s131 : gI s2 131 = gI σ 131 := k2.rI (by simp) (by simp)
  have F0 : F_X12_readClause_235 (nI (v + 1)) (nI (9 * cn)) (nI mt) (nI (9 * cn + 3)) σ = if nI (v + 1) = (8 : Int32) then F_X12_readClause_266 (nI (9 * cn)) s2 else bv (F_X12_readExpression (0 : Int32) s2) fun σ80 => F_X12_readClause_266 (nI (9 * cn)) σ80 := by
    unfold F_X12_readClause_235
    have e15 : gI (sI σ 129 (9 * cn + 3) (nI mt)) 124 15 = nI m := by rw [gI_sI_row (by decide)]; exact h.2.2.2.1
    rw [show nI (9 * cn) + (4 : Int32) = nI (9 * cn + 4) from nI_add _ _, if_pos (inB_n (by omega) (by decide)), if_pos (inB_n (by omega) (by decide)), nI_clamp (by omega), nI_clamp (by omega), e15, ← hs2, if_pos h2.2.2.1]
  by_cases v7 : v = 7
  · have p0 : prEx L tp v k s mt b np = prTl L tp (8, k, s, mt) none b np := by unfold prEx; rw [if_pos v7]
    rw [if_pos (show nI (v + 1) = (8 : Int32) by rw [v7]; rfl)] at F0
    obtain ⟨r1, r2⟩ := r266 (hd := (8, k, s, mt)) (S := none) h2 hc
    rw [p0, F0]
    refine ⟨fun b' e' => ?_, fun b' np' C e' => ?_⟩
    · obtain ⟨τ, t1, t2, t3, t4⟩ := r1 b' e'
      exact ⟨τ, t1, t2, t3.trans e13, (r9_RC k2).trans t4⟩
    · obtain ⟨τ, m', T, eC, t1, t2, t3, t4, t5, t6, t7, t8, t9, t10⟩ := r2 b' np' C e'
      subst eC
      have n60 := t2.2.2.2.2.2.2
      have sj : ∀ D, T = some D → ∃ k, k ≤ 60 ∧ m < m' ∧ SgV 19 (gI τ 130) (gI τ 131) m m' k D := fun D z => ⟨np' - np, by omega, (t8 D z).1, (t8 D z).2⟩
      refine ⟨τ, m', t1, t2, by show 8 = v + 1; omega, t3, fun t ht => by rw [(t4 t ht).1, (t4 t ht).2, s130, s131]; exact ⟨rfl, rfl⟩, fun t ht => by rw [t5 t (by omega)]; exact c3 t ht, fun z => absurd z (by decide), fun z => absurd z (by decide), fun _ => by rw [t5 _ (by omega)]; exact c4, tl_clT ⟨Nat.le_refl _, t3.2.1⟩ ⟨by rw [t5 _ (by omega)]; exact c5, t6⟩ (fun _ => ⟨rfl, rfl⟩) (fun z => absurd rfl z) t7 sj, t9.trans e13, (r9_RC k2).trans t10⟩
  · have v8 : ¬ nI (v + 1) = (8 : Int32) := fun z => by have := (nI_eq (b := 8) (by omega) (by decide)).mp z; omega
    rw [if_neg v8] at F0
    have p0 : prEx L tp v k s mt b np = (match prSm L tp 8 b np with
      | (b', none) => (b', none)
      | (b', some (n, D)) => prTl L tp (v + 1, k, s, mt) (some D) b' n) := by unfold prEx; rw [if_neg v7]; rfl
    obtain ⟨q1, q2⟩ := F_sumR h2
    rcases hr : prSm L tp 8 b np with ⟨b1, _ | ⟨n1, D1⟩⟩
    · rw [hr] at p0
      obtain ⟨s3, u1, u2, u3⟩ := q1 b1 hr
      obtain ⟨τ, t1, t2, t3⟩ := bad266 u2 hc
      rw [u1, bv_some, t1] at F0
      rw [p0, F0]
      refine ⟨fun b' e' => ?_, fun b' np' C e' => (by cases e')⟩
      cases e'
      exact ⟨τ, rfl, t2, by rw [t3.pI (by simp) (by simp), u3.pI (by simp [RRc]) (by simp [RRf])]; exact e13, ((r9_RC k2).trans (RR_RC u3)).trans (r9_RC t3)⟩
    · rw [hr] at p0
      have p1 : prEx L tp v k s mt b np = prTl L tp (v + 1, k, s, mt) (some D1) b1 n1 := p0
      obtain ⟨s3, m1, u1, U1, u2, u3, u4, u5⟩ := q2 b1 n1 D1 hr
      rw [u1, bv_some] at F0
      obtain ⟨r1, r2⟩ := r266 (hd := (v + 1, k, s, mt)) (S := some D1) U1 hc
      have k3 : Ch RCc RCf σ s3 := (r9_RC k2).trans (RR_RC u5)
      have e13' : gI s3 124 13 = gI σ 124 13 := by rw [u5.pI (by simp [RRc]) (by simp [RRf])]; exact e13
      have r129 : gI s3 129 = gI s2 129 := u5.rI (by simp [RRc]) (by simp [RRf])
      rw [p1, F0]
      refine ⟨fun b' e' => ?_, fun b' np' C e' => ?_⟩
      · obtain ⟨τ, t1, t2, t3, t4⟩ := r1 b' e'
        exact ⟨τ, t1, t2, t3.trans e13', k3.trans t4⟩
      · obtain ⟨τ, m', T, eC, t1, t2, t3, t4, t5, t6, t7, t8, t9, t10⟩ := r2 b' np' C e'
        subst eC
        have n60 := t2.2.2.2.2.2.2
        have sj : ∀ D, T = some D → ∃ k, k ≤ 60 ∧ m1 < m' ∧ SgV 19 (gI τ 130) (gI τ 131) m1 m' k D := fun D z => ⟨np' - n1, by omega, (t8 D z).1, (t8 D z).2⟩
        refine ⟨τ, m', t1, t2, rfl, by omega, fun t ht => ?_, fun t ht => by rw [t5 t (by omega), r129]; exact c3 t ht, fun z => absurd z (by decide), fun z => absurd z (by decide), fun _ => by rw [t5 _ (by omega), r129]; exact c4, tl_clT ⟨by omega, t3.2.1⟩ ⟨by rw [t5 _ (by omega), r129]; exact c5, t6⟩ (fun z => absurd z (by show ¬ v + 1 = 8; omega)) (fun _ => ⟨D1, n1 - np, rfl, by omega, u2.2.1, u4.cg (fun t a1 a2 => t4 t a2)⟩) t7 sj, t9.trans e13', k3.trans t10⟩
        have y1 := t4 t (by omega)
        have y2 := u3 t ht
        exact ⟨y1.1.trans (y2.1.trans (by rw [s130])), y1.2.trans (y2.2.trans (by rw [s131]))⟩
theorem opW_1 {L q b : Nat} {tp : Nat → Int32} : opW L tp true q b = (match ixQ L tp b (wL q) 0 with
  | none => (b, none)
  | some k => (nxt L tp b, some k)) := rfl
theorem opW_0 {L q b : Nat} {tp : Nat → Int32} : opW L tp false q b = (b, some 0) := rfl
theorem TN_RC {σ τ : AH} (c : Ch [] TNf σ τ) : Ch RCc RCf σ τ := c.mono (by simp) (by simp [TNf, RCf])
theorem bb_RC {σ τ : AH} (c : Ch [] [(124, 11), (124, 12)] σ τ) : Ch RCc RCf σ τ := c.mono (by simp) (by simp [RCf])
/-- a cell is written, and reading goes on -/
theorem RcR.cell {L b1 b m np cn v j j1 q : Nat} {tp : Nat → Int32} {r : Nat × Option (Nat × Cls)} {x : Option AH} {σ s : AH} (h : RcR L tp r x (9 * cn) j1 v b1 m np cn s) (hb : b ≤ b1) (hj : j1 = j + 1) (h1 : 1 ≤ j) (h3 : j ≤ 2) (kc : Ch RCc RCf σ s) (e13 : gI s 124 13 = gI σ 124 13) (hk : ∀ t, t < 9 * cn + j → gI s 129 t = gI σ 129 t) (hq : gI s 129 (9 * cn + j) = nI q) (h130 : gI s 130 = gI σ 130) (h131 : gI s 131 = gI σ 131)
    (hC : ∀ b' np' C, r = (b', some (np', C)) → (j = 1 → C.1.2.1 = q) ∧ (j = 2 → C.1.2.2.1 = q)) : RcR L tp r x (9 * cn) j v b m np cn σ := by
  obtain ⟨r1, r2⟩ := h
  refine ⟨fun b' e' => ?_, fun b' np' C e' => ?_⟩
  · obtain ⟨τ, t1, t2, t3, t4⟩ := r1 b' e'
    exact ⟨τ, t1, t2, t3.trans e13, kc.trans t4⟩
  · obtain ⟨τ, m', t1, t2, t3, t4, t5, t6, t7, t8, t9, t10, t11, t12⟩ := r2 b' np' C e'
    obtain ⟨q1, q2⟩ := hC b' np' C e'
    refine ⟨τ, m', t1, t2, t3, by omega, fun t ht => ⟨(t5 t ht).1.trans (by rw [h130]), (t5 t ht).2.trans (by rw [h131])⟩, fun t ht => by rw [t6 t (by omega)]; exact hk t ht, fun z => ?_, fun z => ?_, fun z => t9 (by omega), t10, t11.trans e13, kc.trans t12⟩
    · have y := t6 (9 * cn + j) (by omega)
      rw [hq] at y
      rw [q1 (by omega)]
      rw [show 9 * cn + 1 = 9 * cn + j by omega]; exact y
    · by_cases c2 : j = 2
      · have y := t6 (9 * cn + j) (by omega)
        rw [hq] at y
        rw [q2 c2]
        rw [show 9 * cn + 2 = 9 * cn + j by omega]; exact y
      · exact t8 (by omega)
theorem RcR.fail {L b m np cn v j b1 : Nat} {tp : Nat → Int32} {x : Option AH} {σ : AH} (h : ∃ τ, x = some τ ∧ RgB L tp b1 τ ∧ gI τ 124 13 = gI σ 124 13 ∧ Ch RCc RCf σ τ) : RcR L tp (b1, none) x (9 * cn) j v b m np cn σ := ⟨fun b' e' => (by cases e'; exact h), fun b' np' C e' => (by cases e')⟩
theorem prEx_m {L v k s m b np b' np' : Nat} {tp : Nat → Int32} {C : Cls} (e : prEx L tp v k s m b np = (b', some (np', C))) : C.1 = (v + 1, k, s, m) := by
  unfold prEx at e
  by_cases c : v = 7
  · rw [if_pos c] at e
    rw [(prTl_hd e).1, c]
  · rw [if_neg c] at e
    rcases hr : prSm L tp 8 b np with ⟨b2, _ | ⟨n2, D2⟩⟩
    · rw [hr] at e; cases e
    · rw [hr] at e
      exact (prTl_hd e).1
theorem prMt_m {L v k s b np b' np' : Nat} {tp : Nat → Int32} {C : Cls} (e : prMt L tp v k s b np = (b', some (np', C))) : C.1.1 = v + 1 ∧ C.1.2.1 = k ∧ C.1.2.2.1 = s := by
  unfold prMt at e
  rcases hr : opW L tp (decide (v = 0)) 5 b with ⟨b2, _ | m⟩
  · rw [hr] at e; cases e
  · rw [hr] at e
    have := prEx_m e
    rw [this]; exact ⟨rfl, rfl, rfl⟩
theorem prSg_m {L v k b np b' np' : Nat} {tp : Nat → Int32} {C : Cls} (e : prSg L tp v k b np = (b', some (np', C))) : C.1.1 = v + 1 ∧ C.1.2.1 = k := by
  unfold prSg at e
  rcases hr : opW L tp (decide (v = 0 ∨ v = 1)) 4 b with ⟨b2, _ | m⟩
  · rw [hr] at e; cases e
  · rw [hr] at e
    have := prMt_m e
    exact ⟨this.1, this.2.1⟩
theorem r210 {L b m np cn v k s : Nat} {tp : Nat → Int32} {σ : AH} (h : RgQ L tp b m np σ) (hc : cn < 16) (hv : v ≤ 7) : RcR L tp (prMt L tp v k s b np) (F_X12_readClause_210 (nI (v + 1)) (nI (9 * cn)) (nI s) (nI (9 * cn + 2)) σ) (9 * cn) 2 v b m np cn σ := by
  obtain ⟨s2, hs2⟩ : ∃ s2, s2 = sI σ 129 (9 * cn + 2) (nI s) := ⟨_, rfl⟩
  have k2 : Ch [129] [] σ s2 := by rw [hs2]; exact Ch.sI1 (Or.inr (by simp))
  have h2 : RgQ L tp b m np s2 := h.ch (k2.mono (by simp) (by simp))
  have e13 : gI s2 124 13 = gI σ 124 13 := k2.pI (by simp) (by simp)
  have s130 : gI s2 130 = gI σ 130 := k2.rI (by simp) (by simp)
  have s131 : gI s2 131 = gI σ 131 := k2.rI (by simp) (by simp)
  have c3 : ∀ t, t < 9 * cn + 2 → gI s2 129 t = gI σ 129 t := fun t ht => by rw [hs2, gI_sI_ne (by omega)]
  have c4 : gI s2 129 (9 * cn + 2) = nI s := by rw [hs2, gI_sI_at]
  have F0 : F_X12_readClause_210 (nI (v + 1)) (nI (9 * cn)) (nI s) (nI (9 * cn + 2)) σ = if nI (v + 1) = (1 : Int32) then (bd (F_X12_materialAt s2) fun v70 σ66 => (bd (F_X12_choice v70 σ66) fun v76 σ72 => (F_X12_readClause_235 (nI (v + 1)) (nI (9 * cn)) v76 (nI (9 * cn + 3)) σ72))) else F_X12_readClause_235 (nI (v + 1)) (nI (9 * cn)) (0 : Int32) (nI (9 * cn + 3)) s2 := by
    unfold F_X12_readClause_210
    rw [show nI (9 * cn) + (3 : Int32) = nI (9 * cn + 3) from nI_add _ _, if_pos (inB_n (by omega) (by decide)), nI_clamp (by omega), ← hs2]
  have nb := nxt_b (tp := tp) h.2.1.2.2.2.2
  rw [F0]
  unfold prMt
  by_cases v0 : v = 0
  · rw [if_pos (show nI (v + 1) = (1 : Int32) by rw [v0]; rfl), decide_eq_true v0, opW_1, F_materialR h2.2.1, bd_some]
    cases ix : ixQ L tp b (wL 5) 0 with
    | none =>
      obtain ⟨s3, a1, a2, a3⟩ := choice0 h2
      obtain ⟨τ, t1, t2, t3⟩ := bad235 (x1 := nI (v + 1)) (y0 := -1) a2 hc
      rw [show oI none = (-1 : Int32) from rfl, a1, bd_some, t1]
      exact RcR.fail ⟨τ, rfl, t2, by rw [t3.pI (by simp) (by simp), a3.pI (by simp) (by simp)]; exact e13, ((r9_RC k2).trans (bb_RC a3)).trans (r9_RC t3)⟩
    | some q =>
      have q5 := ixQ_lt _ _ _ ix
      have wl5 : (wL 5).length = 5 := by decide
      obtain ⟨s3, a1, A1, a3⟩ := choice1 (q := q) h2 (by omega)
      rw [show oI (some q) = nI q from rfl, a1, bd_some]
      have r := r235 (k := k) (s := s) (mt := q) A1 hc hv
      exact RcR.cell (j := 2) (q := s) r (by omega) rfl (by decide) (by decide) ((r9_RC k2).trans (TN_RC a3)) (by rw [a3.pI (by simp) (by simp [TNf])]; exact e13) (fun t ht => by rw [a3.rI (by simp) (by simp [TNf])]; exact c3 t ht) (by rw [a3.rI (by simp) (by simp [TNf])]; exact c4) (by rw [a3.rI (by simp) (by simp [TNf])]; exact s130) (by rw [a3.rI (by simp) (by simp [TNf])]; exact s131) (fun b' np' C e => ⟨fun z => absurd z (by decide), fun _ => by rw [prEx_m e]⟩)
  · rw [if_neg (show ¬ nI (v + 1) = (1 : Int32) from fun z => by have := (nI_eq (b := 1) (by omega) (by decide)).mp z; omega), decide_eq_false v0, opW_0]
    have r := r235 (k := k) (s := s) (mt := 0) h2 hc hv
    exact RcR.cell (j := 2) (q := s) r (Nat.le_refl _) rfl (by decide) (by decide) (r9_RC k2) e13 c3 c4 s130 s131 (fun b' np' C e => ⟨fun z => absurd z (by decide), fun _ => by rw [prEx_m e]⟩)
theorem r180 {L b m np cn v k : Nat} {tp : Nat → Int32} {σ : AH} (h : RgQ L tp b m np σ) (hc : cn < 16) (hv : v ≤ 7) : RcR L tp (prSg L tp v k b np) (F_X12_readClause_180 (nI (v + 1)) (nI (9 * cn)) (nI k) (nI (9 * cn + 1)) σ) (9 * cn) 1 v b m np cn σ := by
  obtain ⟨s2, hs2⟩ : ∃ s2, s2 = sI σ 129 (9 * cn + 1) (nI k) := ⟨_, rfl⟩
  have k2 : Ch [129] [] σ s2 := by rw [hs2]; exact Ch.sI1 (Or.inr (by simp))
  have h2 : RgQ L tp b m np s2 := h.ch (k2.mono (by simp) (by simp))
  have e13 : gI s2 124 13 = gI σ 124 13 := k2.pI (by simp) (by simp)
  have s130 : gI s2 130 = gI σ 130 := k2.rI (by simp) (by simp)
  have s131 : gI s2 131 = gI σ 131 := k2.rI (by simp) (by simp)
  have c3 : ∀ t, t < 9 * cn + 1 → gI s2 129 t = gI σ 129 t := fun t ht => by rw [hs2, gI_sI_ne (by omega)]
  have c4 : gI s2 129 (9 * cn + 1) = nI k := by rw [hs2, gI_sI_at]
  have F0 : F_X12_readClause_180 (nI (v + 1)) (nI (9 * cn)) (nI k) (nI (9 * cn + 1)) σ = if v = 0 ∨ v = 1 then F_X12_readClause_198 (nI (v + 1)) (nI (9 * cn)) (nI (9 * cn + 2)) s2 else F_X12_readClause_210 (nI (v + 1)) (nI (9 * cn)) (0 : Int32) (nI (9 * cn + 2)) s2 := by
    unfold F_X12_readClause_180
    rw [show nI (9 * cn) + (2 : Int32) = nI (9 * cn + 2) from nI_add _ _, if_pos (inB_n (by omega) (by decide)), nI_clamp (by omega), ← hs2]
    by_cases v0 : v = 0
    · rw [if_pos (show nI (v + 1) = (1 : Int32) by rw [v0]; rfl), if_pos (Or.inl v0)]
    · rw [if_neg (show ¬ nI (v + 1) = (1 : Int32) from fun z => by have := (nI_eq (b := 1) (by omega) (by decide)).mp z; omega)]
      by_cases v1 : v = 1
      · rw [if_pos (show nI (v + 1) = (2 : Int32) by rw [v1]; rfl), if_pos (Or.inr v1)]
      · rw [if_neg (show ¬ nI (v + 1) = (2 : Int32) from fun z => by have := (nI_eq (b := 2) (by omega) (by decide)).mp z; omega), if_neg (by omega)]
  have nb := nxt_b (tp := tp) h.2.1.2.2.2.2
  rw [F0]
  unfold prSg
  by_cases v0 : v = 0 ∨ v = 1
  · rw [if_pos v0, decide_eq_true v0, opW_1]
    unfold F_X12_readClause_198
    rw [F_stageR h2.2.1, bd_some]
    cases ix : ixQ L tp b (wL 4) 0 with
    | none =>
      obtain ⟨s3, a1, a2, a3⟩ := choice0 h2
      obtain ⟨τ, t1, t2, t3⟩ := bad210 (x1 := nI (v + 1)) (y0 := -1) a2 hc
      rw [show oI none = (-1 : Int32) from rfl, a1, bd_some, t1]
      exact RcR.fail ⟨τ, rfl, t2, by rw [t3.pI (by simp) (by simp), a3.pI (by simp) (by simp)]; exact e13, ((r9_RC k2).trans (bb_RC a3)).trans (r9_RC t3)⟩
    | some q =>
      have q5 := ixQ_lt _ _ _ ix
      have wl5 : (wL 4).length = 3 := by decide
      obtain ⟨s3, a1, A1, a3⟩ := choice1 (q := q) h2 (by omega)
      rw [show oI (some q) = nI q from rfl, a1, bd_some]
      have r := r210 (k := k) (s := q) A1 hc hv
      exact RcR.cell (j := 1) (q := k) r (by omega) rfl (by decide) (by decide) ((r9_RC k2).trans (TN_RC a3)) (by rw [a3.pI (by simp) (by simp [TNf])]; exact e13) (fun t ht => by rw [a3.rI (by simp) (by simp [TNf])]; exact c3 t ht) (by rw [a3.rI (by simp) (by simp [TNf])]; exact c4) (by rw [a3.rI (by simp) (by simp [TNf])]; exact s130) (by rw [a3.rI (by simp) (by simp [TNf])]; exact s131) (fun b' np' C e => ⟨fun _ => (prMt_m e).2.1, fun z => absurd z (by decide)⟩)
  · rw [if_neg v0, decide_eq_false v0, opW_0]
    have r := r210 (k := k) (s := 0) h2 hc hv
    exact RcR.cell (j := 1) (q := k) r (Nat.le_refl _) rfl (by decide) (by decide) (r9_RC k2) e13 c3 c4 s130 s131 (fun b' np' C e => ⟨fun _ => (prMt_m e).2.1, fun z => absurd z (by decide)⟩)
end
