section
theorem sh_no21 : ∀ q ∈ shRL, q.1 ≠ 21 := by decide +kernel
theorem sh_told : ∀ q ∈ shRL, q.1 = 0 ∨ 20 < q.1 ∨ (q.1 = 1 ∧ ((q.2.1 = 0 ∧ q.2.2 = 2) ∨ (q.2.1 = 10 ∧ q.2.2 = 19) ∨ (q.2.1 = 11 ∧ q.2.2 = 20) ∨ (2 ≤ q.2.1 ∧ q.2.1 < 10 ∧ q.2.2 = 3 + 2 * (q.2.1 - 2)))) := by decide +kernel
theorem ok21 {k : Nat} (hk : k < 3) : shOK 21 k = true := by
  rcases (show k = 0 ∨ k = 1 ∨ k = 2 by omega) with rfl | rfl | rfl <;> decide +kernel
theorem S_image {m : Nat} {x1 : Int32} {σ : AH} (h : Inv m σ) : StpI m σ (F_X11_image x1) (F_X12_image x1) := by
  obtain ⟨hS, hR, hX, O, row, oc, W, ns, no, mv, n, C, nw, wi, L, tp, hV, hY, hW, hC, hI, hM⟩ := h
  have hx := hS.1
  by_cases c1 : rgB 0 2 x1 = true
  rotate_left
  · obtain ⟨τ, hτ⟩ : ∃ τ, τ = sI σ 0 10 (-1) := ⟨_, rfl⟩
    have c : Ch [] [(0, 10)] σ τ := by rw [hτ]; exact Ch.sI1 (Or.inl (by simp))
    have iv : imgV x1 = -1 := by unfold imgV; rw [if_neg c1]
    obtain ⟨τ', u1, u2, _, u3, u4⟩ := P_image (x1 := x1) (σ := τ)
    rw [iv] at u1 u2
    obtain ⟨v1, v2⟩ := u3 c1
    have rI := hI.ch c (by decide) (by decide)
    have t1 : F_X11_image x1 σ = some (-1, τ) := by
      unfold F_X11_image
      rw [isIn02, bd_b (α := Int32), if_neg c1, answer_e, bd_some, show ftV (-1) = -1 from rfl, ← hτ]
    exact ⟨_, τ, τ', t1, u1, inv_fin (c.sh hS) (hX.1.ch c (by decide) (by decide)) ((hC.set hV.n24 c (by decide) (by decide) (hC.2.2.1.ch c (by decide) (by decide)) (hC.2.2.2.1.ch c (by decide) (by decide))).mo (Nat.le_succ m)) ((hM.ch hS c (by decide) (by decide)).g3 u4 (by decide) (by decide) v1 v2) ((hR.ch c).mo (Nat.le_succ m)) hV hY hW (by rw [hτ, gI_sI_at]) (by rw [u2]; rfl) (by rw [u4.pI (by decide) (by decide), c.pI (by decide) (by decide), c.pI (i := 0) (by decide) (by decide)]; exact hX.2.2) (rI.ch u4 (by decide) (by decide)) u4 qIM⟩
  have xN : isN x1 3 := isN_r c1 (by decide) (by decide)
  have k3 := xN.2
  have inb : inB x1 3 = true := by rw [xN.1]; exact inB_n xN.2 (by decide)
  rcases hM.1 (cl x1) k3 with ⟨a, b⟩ | ⟨o, a, b, im⟩
  · -- anew
    obtain ⟨s1, i1, i2, i3, i4, i5, i6, i7, i8, i9⟩ := F_newTold (σ0 := σ) hx
    obtain ⟨o, ho⟩ : ∃ o, o = nx σ := ⟨_, rfl⟩
    obtain ⟨s, hs⟩ : ∃ s, s = sR s1 21 (cl x1) (some o) := ⟨_, rfl⟩
    rw [← ho] at i1 i2 i5 i6 i7 i8 i9
    have g1 : Gf (fun i => i = 21) s1 s := by
      rw [hs]
      exact ⟨Nat.le_refl _, fun _ _ => rfl, fun i _ hp => ⟨rfl, rfl, gR_sR_row hp⟩⟩
    have g0 : Gf (fun _ => False) σ s1 := ⟨by omega, fun i hi => (i4 i hi).1, fun i hi _ => ⟨(i4 i hi).2.1, (i4 i hi).2.2.1, (i4 i hi).2.2.2⟩⟩
    have gs : Gf (fun i => i = 21) σ s := (g0.mono (Q := fun i => i = 21) (fun _ z => z.elim)).step g1 (fun i _ z => z)
    have sx : nx s = o + 20 := by rw [hs]; exact i2
    have ss : sl s = sl σ + 2944 := by rw [hs]; exact i3
    have R21 : ∀ l, l ≠ cl x1 → gR s 21 l = gR σ 21 l := fun l hl => by
      rw [hs, gR_sR_own, up_ne _ _ _ hl, (i4 21 (by omega)).2.2.2]
    have R21k : gR s 21 (cl x1) = some o := by rw [hs, gR_sR_own, up_same]
    obtain ⟨O2, hO2⟩ : ∃ O2, O2 = OwU O (nx σ) 1 := ⟨_, rfl⟩
    have Olo : ∀ i, i < nx σ → O2 i = O i := fun i hi => by rw [hO2]; exact OwU_lo hi
    have Ohi : ∀ i, nx σ ≤ i → O2 i = 1 := fun i hi => by rw [hO2]; unfold OwU; rw [if_pos hi]
    have eI : ∀ i, i < 166 → gI s i = gI σ i := fun i hi => by rw [hs, gI_sR, (i4 i (by omega)).2.1]
    have e : ∀ i, i = 0 ∨ (20 < i ∧ i < 166) → gI s i = gI σ i := fun i hi => eI i (by omega)
    have Ss : Sh s := ⟨by omega, fun i hi => by rw [gs.2.1 i (by omega)]; exact hS.2.1 i hi, fun q hq => by
      rw [(gs.2.2 q.1 (by have := shRL_lt q hq; omega) (sh_no21 q hq)).2.2]; exact hS.2.2 q hq⟩
    have hT : ToI O2 row n C 1 s := hC.1.gf hV.n24 gs Olo (fun i hi => Out1.no hC.1.2.2 ⟨by omega, by omega⟩)
    have ds : Tst s o := i5.gf g1 (fun i h1 h2 z => by omega)
    have wo : Oww O2 s o := by
      refine ⟨Or.inr ⟨by omega, fun i h1 h2 => Ohi i (by omega)⟩, ⟨by omega, by omega⟩, fun j hj => ?_, fun p q hp hq => ?_⟩
      · refine ⟨o + 3 + 2 * j, ?_, by omega, Or.inl rfl⟩
        rw [(g1.2.2 _ (by rw [show nx s1 = o + 20 from i2]; omega) (by omega)).2.2]; exact i9 j hj
      · rw [(g1.2.2 (o + 1) (by rw [show nx s1 = o + 20 from i2]; omega) (by omega)).2.2, i6] at hq
        cases hq
    have pre : ∀ l, l < 3 → l ≠ cl x1 → ∀ p, gR σ 21 l = some p → ImO O σ l p → ImO O2 s l p ∧ (us s p = us σ p ∧ ct s p = ct σ p) ∧ p + 20 ≤ o := fun l hl hne p hp im => by
      obtain ⟨p166, _, _, _, _, _, _, _, _, t, _⟩ := id im
      refine ⟨im.gf gs Olo (fun i hi => ?_) (fun x _ => by rw [eI 126 (by decide)]), us_gf t.1 gs (fun i h1 h2 z => by omega), by have := t.1.1.2; omega⟩
      exact Out1.no t.2.2 ⟨by omega, by omega⟩
    have hMs : ImP O2 s (cl x1) o := by
      refine ⟨fun l hl hne => ?_, fun k l p q hk hl hne h1 h2 => ?_, R21k, ds, wo, by omega⟩
      · rcases hM.1 l hl with ⟨a', b'⟩ | ⟨p, a', b', im⟩
        · exact Or.inl ⟨by rw [R21 l hne]; exact a', by rw [eI 127 (by decide)]; exact b'⟩
        · exact Or.inr ⟨p, by rw [R21 l hne]; exact a', by rw [eI 127 (by decide)]; exact b', (pre l hl hne p a' im).1⟩
      · have old : ∀ l, l < 3 → l ≠ cl x1 → ∀ p, gR s 21 l = some p → p + 20 ≤ o := fun l hl hne p hp => by
          rw [R21 l hne] at hp
          rcases hM.1 l hl with ⟨a', b'⟩ | ⟨p', a', b', im⟩
          · rw [a'] at hp; cases hp
          · rw [a'] at hp; cases hp
            exact (pre l hl hne p a' im).2.2
        by_cases z : k = cl x1
        · rw [z, R21k] at h1; cases h1
          exact Or.inr (old l hl (fun y => hne (by rw [z, y])) q h2)
        · by_cases z2 : l = cl x1
          · rw [z2, R21k] at h2; cases h2
            exact Or.inl (old k hk z p h1)
          · rw [R21 k z] at h1; rw [R21 l z2] at h2
            exact hM.2 k l p q hk hl hne h1 h2
    have hRs : RmI (m + 1) s := by
      obtain ⟨r1, r2⟩ := hR
      have e1 := us_gf hC.1.1 gs (fun i h1 h2 z => by omega)
      have el : ∀ l, l < 3 → usI σ l ≤ usI s l ∧ ctI σ l ≤ ctI s l := fun l hl => by
        by_cases z : l = cl x1
        · unfold usI ctI; rw [z, a]; exact ⟨Nat.zero_le _, Nat.zero_le _⟩
        · unfold usI ctI
          rw [R21 l z]
          rcases hM.1 l hl with ⟨a', b'⟩ | ⟨p, a', b', im⟩
          · rw [a']; exact ⟨Nat.le_refl _, Nat.le_refl _⟩
          · rw [a']
            have := (pre l hl z p a' im).2.1
            exact ⟨Nat.le_of_eq this.1.symm, Nat.le_of_eq this.2.symm⟩
      have l0 := el 0 (by decide)
      have l1 := el 1 (by decide)
      have l2 := el 2 (by decide)
      unfold usA at r1
      unfold ctA at r2
      unfold RmI usA ctA
      rw [e1.1, e1.2]
      exact ⟨by omega, by omega⟩
    obtain ⟨τ, τ', t1, t2, t3⟩ := image_end c1 Ss hRs (hX.sm e) hV hY hW ((hC.sm hV.1.1 hV.2.1 hV.2.2.1 hT e).mo (Nat.le_succ m)) (hI.sm e) hMs
    refine ⟨0, τ, τ', ?_, t2, t3⟩
    unfold F_X11_image
    rw [isIn02, bd_b (α := Int32), if_pos c1, if_pos inb]
    show on (gR σ 21 (cl x1)) _ _ = _
    rw [a]
    show (lt (aw σ 9 (NO 9)) fun τ13 => _) = _
    rw [lt_e]
    show (bv (F_X9_init (nx σ) (aw σ 9 (NO 9))) fun σ19 => _) = _
    rw [← ho, i1, bv_some, if_pos inb]
    show (if shOK 21 (cl x1) = true then _ else none) = _
    rw [if_pos (ok21 k3), lt_e]
    show F_X11_image_37 x1 (sR s1 21 (cl x1) (some o)) = _
    rw [← hs]; exact t1
  · have hMs : ImP O σ (cl x1) o := by
      obtain ⟨o166, _, _, _, _, _, _, _, _, t, _⟩ := im
      exact ⟨fun l hl _ => hM.1 l hl, hM.2, a, t.1, t.2.2, o166⟩
    obtain ⟨τ, τ', t1, t2, t3⟩ := image_end c1 hS (hR.mo (Nat.le_succ m)) hX hV hY hW (hC.mo (Nat.le_succ m)) hI hMs
    refine ⟨0, τ, τ', ?_, t2, t3⟩
    unfold F_X11_image
    rw [isIn02, bd_b (α := Int32), if_pos c1, if_pos inb]
    show on (gR σ 21 (cl x1)) _ _ = _
    rw [a]
    show (if kd σ o = (9, NO 9) ∧ o < nx σ then _ else none) = _
    rw [if_pos ⟨hMs.2.2.2.1.1.1, by have := hMs.2.2.2.1.1.2; omega⟩]
    exact t1
/-! back to an IMAGE -/
theorem Tct.cg {r r' : Nat → Int32} {oc : Nat → Nat → Option (Nat × Nat × Bool × Nat)} {W ns no mv n o : Nat} {C : Nat → Nat → Int32} {σ : AH} (h : Tct r n C σ o) (hV : RwV r oc W ns no mv) (e : ∀ i, i < 269832 → r' i = r i) : Tct r' n C σ o := by
  obtain ⟨⟨g1, g2, g3⟩, g4, ⟨g5, g6⟩, g12, g13, g14, g15⟩ := h
  have hA : RwA r r' := ⟨e 0 (by decide), fun i h1 h2 => e i (by omega)⟩
  have eA := nA_cg hA
  refine ⟨⟨by rw [eA]; exact g1, fun a ha => ?_, g3⟩, fun j hj => ?_, ⟨fun i hi => by rw [e _ (by omega)]; exact g5 i hi, fun i hi => by unfold stW; rw [e _ (by omega), e _ (by omega)]; exact g6 i hi⟩, by rw [e 10 (by decide)]; exact g12, by rw [e 11 (by decide)]; exact g13, by rw [e 8 (by decide)]; exact g14, by rw [e 12 (by decide)]; exact g15⟩
  · rw [eA] at ha
    obtain ⟨b, b1, b2'⟩ := g2 a ha
    exact ⟨b, b1, ActC_cg hA hV.1.1 ha b2'⟩
  · by_cases z : j = 7
    · have e1 : nJ r' n j = nJ r n j := by unfold nJ; rw [if_pos z, if_pos z]
      rw [e1]; exact (g4 j hj).congr (fun s k _ _ => by unfold CJ; rw [if_pos z, if_pos z])
    · have j7 : j < 7 := by omega
      obtain ⟨m1, m2, m3⟩ := jM j j7
      have e1 : nJ r' n j = nJ r n j := by rw [nJ_n j7, nJ_n j7, e _ (by omega)]
      rw [e1]
      refine (g4 j hj).congr (fun s k hs hk => ?_)
      rw [nJ_n j7] at hs
      have := jIx (Nat.lt_of_lt_of_le hs (hV.nJ_le j j7)) hk
      rw [CJ_n j7, CJ_n j7]
      exact e _ (by omega)
theorem CcI.st2 {row row' : Nat → Int32} {σ τ : AH} {m : Nat} (h : CcI row σ) (hl : LwI row' τ) (hc : CnI m σ) (hm : m < 1000) (e12 : gI τ 0 12 = gI σ 0 12 + 1) (e13 : gI τ 0 13 = gI σ 0 13 + 1) (e : ∀ i, 34 ≤ i → i < 115 → i ≠ 68 → gI τ i = gI σ i) (e68 : gI τ 68 7 = gI σ 68 7) : CcI row' τ := by
  have y := le_st hc.1 hm h.2.1.1
  have a := le_st hc.1 hm h.2.2.1.1
  have b := le_st hc.1 hm h.2.2.2.1.1
  have f := le_st hc.1 hm h.2.2.2.2.1.1
  have j := le_st hc.2 hm h.2.2.2.2.2.1
  refine ⟨hl, ⟨?_, fun z => ?_⟩, ⟨?_, fun z => ?_⟩, ⟨?_, fun z => ?_⟩, ⟨?_, fun z => ?_⟩, ⟨?_, fun z => ?_⟩⟩
  · rw [e 34 (by decide) (by decide) (by decide), e12]; exact y.1
  · rw [e 34 (by decide) (by decide) (by decide), e12] at z; exact absurd z y.2
  · rw [e 44 (by decide) (by decide) (by decide), e12]; exact a.1
  · rw [e 44 (by decide) (by decide) (by decide), e12] at z; exact absurd z a.2
  · rw [e 56 (by decide) (by decide) (by decide), e12]; exact b.1
  · rw [e 56 (by decide) (by decide) (by decide), e12] at z; exact absurd z b.2
  · rw [e68, e12]; exact f.1
  · rw [e68, e12] at z; exact absurd z f.2
  · rw [e 113 (by decide) (by decide) (by decide), e13]; exact j.1
  · rw [e 113 (by decide) (by decide) (by decide), e13] at z; exact absurd z j.2
theorem qBK : QUf [125] BKf := ⟨by decide, by decide⟩
def Bc4 : List (Nat × Nat) := [(22, 1), (68, 3), (28, 6), (0, 12), (0, 13), (0, 10)]
theorem S_back {m : Nat} {x1 : Int32} {σ : AH} (hm : m < 1000) (h : Inv m σ) : StpI m σ (F_X11_back x1) (F_X12_back x1) := by
  obtain ⟨hS, hR, hX, O, row, oc, W, ns, no, mv, n, C, nw, wi, L, tp, hV, hY, hW, hC, hI, hM⟩ := h
  have hx := hS.1
  have bad : ∀ v : Int32, v < 0 → F_X11_back x1 σ = some (v, sI σ 0 10 v) → bckV x1 (decide (gI σ 127 (cl x1) ≠ 0)) = v → StpI m σ (F_X11_back x1) (F_X12_back x1) := fun v hv t1 e => by
    obtain ⟨τ, hτ⟩ : ∃ τ, τ = sI σ 0 10 v := ⟨_, rfl⟩
    rw [← hτ] at t1
    have c : Ch [] [(0, 10)] σ τ := by rw [hτ]; exact Ch.sI1 (Or.inl (by simp))
    obtain ⟨τ', u1, u2, _, u3, u4⟩ := P_back (x1 := x1) (σ := τ)
    rw [c.rI (by decide) (by decide), e] at u1 u2 u3
    obtain ⟨v1, v2, v3⟩ := u3 (fun z => by rw [z] at hv; exact absurd hv (by decide))
    have rI := hI.ch c (by decide) (by decide)
    have fv : ftV v = v := by unfold ftV; rw [if_neg (Int32.not_le.mpr hv)]
    exact ⟨_, τ, τ', t1, u1, inv_fin (c.sh hS) (hX.1.ch c (by decide) (by decide)) ((hC.set hV.n24 c (by decide) (by decide) (hC.2.2.1.ch c (by decide) (by decide)) (hC.2.2.2.1.ch c (by decide) (by decide))).mo (Nat.le_succ m)) ((hM.ch hS c (by decide) (by decide)).ch (c.sh hS) u4 (by decide) (by decide)) ((hR.ch c).mo (Nat.le_succ m)) hV hY hW (by rw [hτ, gI_sI_at]) (by rw [u2, fv]) (by rw [u4.pI (by decide) (by decide), c.pI (by decide) (by decide), c.pI (i := 0) (by decide) (by decide)]; exact hX.2.2) ⟨by rw [v1]; exact rI.1, ⟨by rw [v3]; exact rI.2.1.1, by rw [u4.rI (by decide) (by decide)]; exact rI.2.1.2⟩, by
      obtain ⟨p1, p2, p3⟩ := rI.2.2
      exact ⟨by rw [v2]; exact p1, p2, by rw [u4.rI (by decide) (by decide)]; exact p3⟩⟩ u4 qBK⟩
  by_cases c1 : rgB 0 2 x1 = true
  rotate_left
  · refine bad (-1) (by decide) ?_ (by unfold bckV; rw [if_neg c1])
    unfold F_X11_back
    rw [isIn02, bd_b (α := Int32), if_neg c1, answer_e, bd_some, show ftV (-1) = -1 from rfl]
  have xN : isN x1 3 := isN_r c1 (by decide) (by decide)
  have k3 := xN.2
  have inb : inB x1 3 = true := by rw [xN.1]; exact inB_n xN.2 (by decide)
  rcases hM.1 (cl x1) k3 with ⟨a, b⟩ | ⟨o, a, b, im⟩
  · refine bad (-2) (by decide) ?_ (by unfold bckV; rw [if_pos c1, if_neg (by simp [b])])
    unfold F_X11_back
    rw [isIn02, bd_b (α := Int32), if_pos c1, if_pos inb]
    show on (gR σ 21 (cl x1)) _ _ = _
    rw [a]
    show (bd (F_X11_answer (-2 : Int32) σ) fun v56 σ52 => some (v56, σ52)) = _
    rw [answer_e, bd_some, show ftV (-2) = -2 from rfl]
  obtain ⟨o166, r, oc', W', ns', no', mv', n', C', t, v, y, ex⟩ := im
  have w1 := hC.1.2.2
  have hAr := v.n24
  obtain ⟨τ1, O', t1, t2, t3, t4, t5, t6, t7⟩ := F_told_copy hC.1.1 t.1 t.2.1 w1 t.2.2 (Or.inl (by omega)) hAr
  have cf : ∀ i, Cof O 1 i → (1 ≤ i ∧ i < 21) ∨ (166 ≤ i ∧ 3 ≤ O i ∧ O i < 18) := fun i z => by
    rcases z with z | ⟨z1, j, z2, z3⟩
    · exact Or.inl (by omega)
    · exact Or.inr (by omega)
  have sm : ∀ i, i < 166 → (i = 0 ∨ 20 < i) → gI τ1 i = gI σ i ∧ gR τ1 i = gR σ i := fun i hi h2 => by
    have q := t6.2.2 i (by omega) (fun z => by have := cf i z; omega)
    exact ⟨q.1, q.2.2⟩
  have S1 : Sh τ1 := by
    refine ⟨by have := t6.1; omega, fun i hi => by rw [t6.2.1 i (by omega)]; exact hS.2.1 i hi, fun q hq => ?_⟩
    rcases sh_told q hq with z | z | ⟨z, z2⟩
    · rw [(sm q.1 (by omega) (Or.inl z)).2]; exact hS.2.2 q hq
    · rw [(sm q.1 (shRL_lt q hq) (Or.inr z)).2]; exact hS.2.2 q hq
    · obtain ⟨p1, p2, p3, p4⟩ := t2.2.1
      rw [z]
      rcases z2 with ⟨y1, y2⟩ | ⟨y1, y2⟩ | ⟨y1, y2⟩ | ⟨y1, y1', y2⟩
      · rw [y1, y2]; exact p1
      · rw [y1, y2]; exact p2
      · rw [y1, y2]; exact p3
      · have := p4 (q.2.1 - 2) (by omega)
        rw [show 2 + (q.2.1 - 2) = q.2.1 by omega] at this
        rw [this, y2]
  have imP : ∀ i, Cof O 1 i → (i < 166 ∧ i ≠ 21 ∧ i ≠ 126 ∧ i ≠ 127) ∨ (166 ≤ i ∧ 3 ≤ O i ∧ O i < 18) := fun i hi => by
    rcases cf i hi with z | z
    · exact Or.inl (by omega)
    · exact Or.inr z
  have hM1 : ImI O' τ1 := hM.gf t6 hx t5 imP
  have hR1 : RmI (m + 1) τ1 := hR.st (by have := t7.1; omega) (by have := t7.2; omega) (fun k hk => hM.us t6 hx imP hk)
  obtain ⟨τ2, hτ2⟩ : ∃ τ, τ = sI (sI τ1 22 1 0) 68 3 0 := ⟨_, rfl⟩
  have c2 : Ch [29, 30] Bc4 τ1 τ2 := by rw [hτ2]; exact (Ch.sI1 (Or.inl (by simp [Bc4]))).trans (Ch.sI1 (Or.inl (by simp [Bc4])))
  have hT1 : ToI O' r n' C' 1 τ1 := ⟨t2, t3, t4⟩
  have hT2 := hT1.gf (O' := O') (P := fun i => i < 166 ∧ (i < 1 ∨ 20 < i)) hAr (c2.gf2 (by decide) (by decide)) (fun _ _ => rfl) (fun i hi => Out1.no t4 hi)
  obtain ⟨τ3, r1, r2, r3⟩ := F_reread v.1.1 v.1.2.1 (⟨hT2.2.1.1.1, hT2.2.1.1.2.1⟩ : ActsC r τ2)
  obtain ⟨τ4, hτ4⟩ : ∃ τ, τ = sI (sI (sI τ3 0 12 (gI τ3 0 12 + 1)) 0 13 (gI τ3 0 13 + 1)) 0 10 0 := ⟨_, rfl⟩
  have c4' : Ch [] [(0, 12), (0, 13), (0, 10)] τ3 τ4 := by rw [hτ4]; exact ((Ch.sI1 (Or.inl (by simp))).trans (Ch.sI1 (Or.inl (by simp)))).trans (Ch.sI1 (Or.inl (by simp)))
  have c3 : Ch [29, 30] Bc4 τ2 τ3 := r3.mono (fun q hq => hq) (fun q hq => by rcases List.mem_singleton.mp hq with rfl; exact Or.inl (by simp [Bc4]))
  have c4 : Ch [29, 30] Bc4 τ1 τ4 := (c2.trans c3).trans (c4'.mono (by simp) (fun q hq => by
    simp only [List.mem_cons, List.not_mem_nil, or_false] at hq
    rcases hq with rfl | rfl | rfl
    · exact Or.inl (by simp [Bc4])
    · exact Or.inl (by simp [Bc4])
    · exact Or.inl (by simp [Bc4])))
  have hT4 := hT1.gf (O' := O') (P := fun i => i < 166 ∧ (i < 1 ∨ 20 < i)) hAr (c4.gf2 (by decide) (by decide)) (fun _ _ => rfl) (fun i hi => Out1.no t4 hi)
  have hl4 : LwI r τ4 := r2.k2 c4' (by decide) (by decide)
  have k12 : gI τ3 0 12 = gI σ 0 12 := by rw [r3.pI (by decide) (by decide), hτ2, gI_sI_row (by decide), gI_sI_row (by decide), (sm 0 (by decide) (by decide)).1]
  have k13 : gI τ3 0 13 = gI σ 0 13 := by rw [r3.pI (by decide) (by decide), hτ2, gI_sI_row (by decide), gI_sI_row (by decide), (sm 0 (by decide) (by decide)).1]
  have e12 : gI τ4 0 12 = gI σ 0 12 + 1 := by rw [hτ4, gI_sI_ne (by decide), gI_sI_ne (by decide), gI_sI_at, k12]
  have e13 : gI τ4 0 13 = gI σ 0 13 + 1 := by rw [hτ4, gI_sI_ne (by decide), gI_sI_at, k13]
  have e10 : gI τ4 0 10 = 0 := by rw [hτ4, gI_sI_at]
  have t22 : gI τ4 22 1 = 0 := by rw [c4'.pI (by decide) (by decide), r3.pI (by decide) (by decide), hτ2, gI_sI_row (by decide), gI_sI_at]
  have t68 : gI τ4 68 3 = 0 := by rw [c4'.pI (by decide) (by decide), r3.pI (by decide) (by decide), hτ2, gI_sI_at]
  have S4 := c4.sh S1
  have fwd : F_X11_back x1 σ = some (0, τ4) := by
    unfold F_X11_back
    rw [isIn02, bd_b (α := Int32), if_pos c1, if_pos inb]
    show on (gR σ 21 (cl x1)) _ _ = _
    rw [a]
    show (if kd σ o = (9, NO 9) ∧ o < nx σ then _ else none) = _
    have ko : kd σ o = (9, NO 9) ∧ o < nx σ := ⟨t.1.1.1, by have := t.1.1.2; omega⟩
    rw [if_pos ko, if_pos inb]
    show on (gR σ 21 (cl x1)) _ _ = _
    rw [a]
    show (if kd σ o = (9, NO 9) ∧ o < nx σ then _ else none) = _
    rw [if_pos ko, t1, bv_some, ← hτ2, r1, bv_some, answer_e, bd_some, gI_sI_ne (by decide), show ftV 0 = 0 from rfl, ← hτ4]
  have g127 : gI τ4 127 = gI σ 127 := by rw [c4.rI (by decide) (by decide), (sm 127 (by decide) (by decide)).1]
  have g126 : gI τ4 126 = gI σ 126 := by rw [c4.rI (by decide) (by decide), (sm 126 (by decide) (by decide)).1]
  obtain ⟨τ', u1, u2, u3, _, u4⟩ := P_back (x1 := x1) (σ := τ4)
  have bv0 : bckV x1 (decide (gI τ4 127 (cl x1) ≠ 0)) = 0 := by unfold bckV; rw [if_pos c1, g127, b, if_pos (by decide)]
  rw [bv0] at u1 u2 u3
  obtain ⟨v1, v2, v3⟩ := u3 rfl
  obtain ⟨row', hrow⟩ : ∃ q, q = gI τ' 125 := ⟨_, rfl⟩
  rw [← hrow] at v1
  have er : ∀ i, i < 269832 → row' i = r i := fun i hi => by rw [v1 i hi, g126]; exact ex i hi
  have hA' : RwA r row' := ⟨er 0 (by decide), fun i h1 h2 => er i (by omega)⟩
  have hV' := v.cg er
  have eP : nP row' = nP r := by unfold nP; rw [er 4 (by decide)]
  have eE : nE row' = nE r := by unfold nE; rw [er 6 (by decide)]
  have hl' : LwI row' τ4 := LwI_cg hA' v.1.1 hl4
  have hcc : CcI row' τ4 := hC.2.1.st2 hl' hC.2.2.2.2 hm e12 e13 (fun i h1 h2 h3 => by
    rw [c4.rI (fun z => by simp only [List.mem_cons, List.not_mem_nil, or_false] at z; omega) (fun q hq z => by
      unfold Bc4 at hq; simp only [List.mem_cons, List.not_mem_nil, or_false] at hq
      rcases hq with rfl | rfl | rfl | rfl | rfl | rfl <;> dsimp only at z <;> omega), (sm i (by omega) (by omega)).1]) (by rw [c4.pI (by decide) (by decide), (sm 68 (by decide) (by decide)).1])
  obtain ⟨⟨c, cc1, cc2⟩, d, d1, d2⟩ := hC.2.2.2.2
  have hC4 : CIn (m + 1) O' row' n' C' 0 wi 0 tp τ4 := ⟨⟨hT4.1, hT4.2.1.cg v er, hT4.2.2⟩, hcc, ⟨by rw [t68]; rfl, fun i hi => absurd hi (Nat.not_lt_zero i)⟩, TpC.nil t22, ⟨c + 1, by omega, by rw [e12, cc2, nI_1]⟩, d + 1, by omega, by rw [e13, d2, nI_1]⟩
  have lb : LbI τ4 := by
    have l1 : LbI τ1 := by
      have q := hX.1
      unfold LbI BsR BsC at q ⊢
      rw [(sm 124 (by decide) (by decide)).1, (sm 68 (by decide) (by decide)).1, (sm 82 (by decide) (by decide)).1, (sm 153 (by decide) (by decide)).1]; exact q
    exact l1.ch c4 (by decide) (by decide)
  exact ⟨0, τ4, τ', fwd, u1, inv_fin S4 lb hC4 ((hM1.ch S1 c4 (by decide) (by decide)).ch S4 u4 (by decide) (by decide)) (hR1.ch c4) hV' (y.mo eP (by omega)) ⟨Nat.zero_le _, fun i hi => absurd hi (Nat.not_lt_zero i), fun i _ hi => absurd hi (Nat.not_lt_zero i), fun i hi => absurd hi (Nat.not_lt_zero i)⟩ e10 (by rw [u2]; rfl) (by rw [u4.pI (by decide) (by decide), c4.pI (by decide) (by decide), (sm 124 (by decide) (by decide)).1, c4.pI (i := 0) (by decide) (by decide), (sm 0 (by decide) (by decide)).1]; exact hX.2.2) ⟨hrow.symm, ⟨v3, fun i hi => absurd hi (Nat.not_lt_zero i)⟩, TpR.nil v2⟩ u4 qBK⟩
end
