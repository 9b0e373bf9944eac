section
/-! the end of a call that writes tape, WISHES or FAULT -/
def QUf (cs : List Nat) (fs : List (Nat × Nat)) : Prop := (∀ i ∈ cs, 124 < i ∧ i < 166 ∧ i ≠ 153) ∧ ∀ q ∈ fs, 124 ≤ q.1 ∧ q.1 < 166 ∧ q.1 ≠ 153 ∧ q ≠ (124, 50) ∧ q ≠ (124, 51) ∧ q ≠ (124, 53)
theorem inv_fin {m n nw L : Nat} {O' : Nat → Nat} {row' tp : Nat → Int32} {oc' : Nat → Nat → Option (Nat × Nat × Bool × Nat)} {W' ns' no' mv' : Nat} {C' : Nat → Nat → Int32} {wi : Nat → Nat} {v : Int32} {τ τ' : AH} {us : List Nat} {gs : List (Nat × Nat)} (S1 : Sh τ) (hL : LbI τ) (hC : CIn m O' row' n C' nw wi L tp τ) (hM : ImI O' τ') (hR : RmI m τ) (hV' : RwV row' oc' W' ns' no' mv') (hY' : StY row' n C' oc' W') (hW' : WiV row' nw wi) (e10 : gI τ 0 10 = v) (u3 : gI τ' 124 1 = v) (e11 : gI τ' 124 11 = gI τ 0 11) (hI : RIn row' nw wi L tp τ') (u4 : Ch us gs τ τ') (hq : QUf us gs) : Inv m τ' := by
  obtain ⟨q1, q2⟩ := hq
  have p0 : ∀ k, gI τ' 0 k = gI τ 0 k := fun k => u4.pI (fun z => by have := q1 _ z; omega) (fun z => by have : 124 ≤ 0 := (q2 _ z).1; omega)
  exact ⟨u4.sh S1, hR.ch u4, ⟨hL.ch u4 (fun i hi => by have := q1 i hi; omega) (fun q hq => by
    have := q2 q hq
    exact ⟨fun z => by rw [z] at this; omega, fun z => by rw [z] at this; omega, by omega, by omega, this.2.2.2.1, this.2.2.2.2.1, this.2.2.2.2.2⟩), by rw [u3, p0, e10], by rw [e11, p0]⟩, O', row', oc', W', ns', no', mv', n, C', nw, wi, L, tp, hV', hY', hW', hC.ch hV'.n24 u4 (fun i hi => by have := q1 i hi; omega) (fun q hq => by have := q2 q hq; exact ⟨by omega, by omega, by omega, fun z => by rw [z] at this; omega⟩) (hC.2.1.r u4 (fun i hi => by have := q1 i hi; omega) (fun q hq => by have := q2 q hq; omega)), hI, hM⟩
theorem actP_ft {x1 x2 : Int32} {n : Nat} (h : actP x1 x2 n ≠ 0) : ftV (actP x1 x2 n) = actP x1 x2 n := by
  unfold actP at h ⊢
  by_cases c : wk2 x1 x2 = true
  · rw [if_pos c] at h ⊢
    by_cases c2 : n = 24
    · rw [if_pos c2]; rfl
    · rw [if_neg c2] at h; exact absurd rfl h
  · rw [if_neg c]; rfl
theorem qAR : QUf [] ARf := ⟨by decide, by decide⟩
theorem qAC : QUf RCc ACf := ⟨by decide, by decide⟩
theorem qAG : QUf (125 :: RCc) ACf := ⟨by decide, by decide⟩
theorem TpC.nil {tp : Nat → Int32} {σ : AH} (h : gI σ 22 1 = 0) : TpC 0 tp σ := ⟨h, Nat.zero_le _, fun i hi => absurd hi (Nat.not_lt_zero i)⟩
theorem TpR.nil {tp : Nat → Int32} {σ : AH} (h : gI σ 124 6 = 0) : TpR 0 tp σ := ⟨h, Nat.zero_le _, fun i hi => absurd hi (Nat.not_lt_zero i)⟩
theorem sh_not2 : ∀ q ∈ shRL, q.1 ≠ 2 := by decide +kernel
theorem S_act {m : Nat} {x1 x2 : Int32} {σ : AH} (hm : m < 1000) (h : Inv m σ) : StpI m σ (F_X11_act x1 x2) (F_X12_act x1 x2) := by
  obtain ⟨hS, hR, hX, O, row, oc, W, ns, no, mv, n, C, nw, wi, L, tp, hV, hY, hW, hC, hI, hM⟩ := h
  have hB := hV.2.1
  have hA := hV.1.1
  have n24 := hV.n24
  have a1 : gI σ 1 1 = nI (nA row) := hC.2.1.1.1.1
  have r0 : row 0 = nI (nA row) := hA.1
  by_cases hp : actP x1 x2 (nA row) = 0
  rotate_left
  · obtain ⟨τ, hτ⟩ : ∃ τ, τ = sI (sI σ 22 1 0) 0 10 (ftV (actP x1 x2 (nA row))) := ⟨_, rfl⟩
    have c : Ch [] [(22, 1), (0, 10)] σ τ := by rw [hτ]; exact (Ch.sI1 (Or.inl (by simp))).trans (Ch.sI1 (Or.inl (by simp)))
    have t1 := C_act_no (x1 := x1) (x2 := x2) a1 n24 hp
    rw [← hτ] at t1
    have rI := hI.ch c (by decide) (by decide)
    obtain ⟨τ', u1, u2, u3, u4⟩ := P_act_no (x1 := x1) (x2 := x2) (σ := τ) rI.1 r0 n24 hp
    have c1 := (hC.set (tp' := tp) hV.n24 c (by decide) (by decide) (hC.2.2.1.ch c (by decide) (by decide)) (TpC.nil (by rw [hτ, gI_sI_row (by decide), gI_sI_at]))).mo (Nat.le_succ m)
    exact ⟨_, τ, τ', t1, u1, inv_fin (c.sh hS) (hX.1.ch c (by decide) (by decide)) c1 ((hM.ch hS c (by decide) (by decide)).ch (c.sh hS) u4 (by decide) (by decide)) ((hR.ch c).mo (Nat.le_succ m)) hV hY hW (by rw [hτ, gI_sI_at]) (by rw [u3, actP_ft hp]) (by rw [u4.pI (by decide) (by decide), c.pI (by decide) (by decide), c.pI (i := 0) (by decide) (by decide)]; exact hX.2.2) ⟨by rw [u4.rI (by decide) (by decide)]; exact rI.1, ⟨by rw [u4.pI (by decide) (by decide)]; exact rI.2.1.1, by rw [u4.rI (by decide) (by decide)]; exact rI.2.1.2⟩, TpR.nil u2⟩ u4 qAR⟩
  obtain ⟨w, n24'⟩ := actP_w hp
  have nlt : nA row < 24 := by omega
  obtain ⟨b, oC, ht⟩ : ∃ b oC, txt L tp = (b, oC) := ⟨_, _, rfl⟩
  have L400 := hC.2.2.2.1.2.1
  cases oC with
  | none =>
    obtain ⟨_, _, _, _, _, hb, _⟩ := P_act_b hI.2.2 hI.1 r0 nlt w ht
    obtain ⟨τ, t1, t2, t3, t4, c⟩ := C_act_b a1 n24 hC.2.2.2.1 hp ht (by omega)
    have rI := hI.ch c (by decide) (by decide)
    obtain ⟨τ', u1, u2, u3, u5, _, u4⟩ := P_act_b (σ := τ) rI.2.2 rI.1 r0 nlt w ht
    have c1 := (hC.set (tp' := tp) hV.n24 c (by decide) (by decide) (hC.2.2.1.ch c (by decide) (by decide)) (TpC.nil t3)).mo (Nat.le_succ m)
    exact ⟨_, τ, τ', t1, u1, inv_fin (c.sh hS) (hX.1.ch c (by decide) (by decide)) c1 ((hM.ch hS c (by decide) (by decide)).ch (c.sh hS) u4 (by decide) (by decide)) ((hR.ch c).mo (Nat.le_succ m)) hV hY hW t4 u3 (by rw [u5, t2]) ⟨by rw [u4.rI (by decide) (by decide)]; exact rI.1, ⟨by rw [u4.pI (by decide) (by decide)]; exact rI.2.1.1, by rw [u4.rI (by decide) (by decide)]; exact rI.2.1.2⟩, TpR.nil u2⟩ u4 qAC⟩
  | some Cs =>
    obtain ⟨_, _, _, _, _, hex, _⟩ := P_act_g hI.2.2 hI.1 r0 nlt w ht
    obtain ⟨s, τ, t1, t2, t3, c, t5⟩ := C_act_g hA hV.1.2.1 hC.2.1.1.1 hC.1.2.2.ow hS hC.2.2.2.1 hp ht ⟨_, hex⟩
    have hk := prTx_k 17 0 (bl L tp 0) 0 b Cs ht
    have Ss := c.sh hS
    have hx := Ss.1
    have rs := hI.ch c (by decide) (by decide)
    have Cs1 : CIn m O row n C nw wi 0 tp s → True := fun _ => trivial
    obtain ⟨⟨f1, f2⟩, f3, f4, f5, f6, f7, ⟨f8, f9, f10⟩, f11, f12, f13, gf⟩ := t3
    have sm : ∀ i, i < 166 → i ≠ 0 → i ≠ 1 → i ≠ 2 → i ≠ 22 → (i < 28 ∨ 30 < i) → gI τ i = gI s i ∧ gR τ i = gR s i := fun i h1 h2 h3 h4 h5 h6 => by
      have q := gf.2.2 i (by omega) (fun z => by
        simp only [List.mem_cons, List.not_mem_nil, or_false] at z; omega)
      exact ⟨q.1, q.2.2⟩
    have rt : RIn row nw wi L tp τ := by
      obtain ⟨b1, ⟨b2', b3⟩, b4⟩ := rs
      exact ⟨by rw [(sm 125 (by decide) (by decide) (by decide) (by decide) (by decide) (by decide)).1]; exact b1, ⟨by rw [(sm 124 (by decide) (by decide) (by decide) (by decide) (by decide) (by decide)).1]; exact b2', by rw [(sm 152 (by decide) (by decide) (by decide) (by decide) (by decide) (by decide)).1]; exact b3⟩, by unfold TpR at b4 ⊢; rw [(sm 124 (by decide) (by decide) (by decide) (by decide) (by decide) (by decide)).1, (sm 128 (by decide) (by decide) (by decide) (by decide) (by decide) (by decide)).1]; exact b4⟩
    obtain ⟨τ', u1, u2, u3, u5, u6, u4⟩ := P_act_g rt.2.2 rt.1 r0 nlt w ht
    obtain ⟨row', hrow⟩ : ∃ r, r = gI τ' 125 := ⟨_, rfl⟩
    rw [← hrow] at u6
    have hl := t2 row' u6
    have lo : ∀ i, i ≠ 0 → (i < 20 ∨ 22748 ≤ i) → row' i = row i := fun i h1 h2 => u6.2.2.2.2.2.2 i h1 (by omega)
    have hV' := hV.ac u6 nlt hk
    have eP : nP row' = nP row := by unfold nP; rw [lo 4 (by decide) (by omega)]
    have eE : nE row' = nE row := by unfold nE; rw [lo 6 (by decide) (by omega)]
    -- the class at s
    have hCs := hC.1.gf (O' := O) (P := fun i => i < 166 ∧ (i < 1 ∨ 20 < i)) n24 (c.gf2 (by decide) (by decide)) (fun _ _ => rfl) (fun i hi => Out1.no hC.1.2.2 hi)
    have hcs : CcI row s := hC.2.1.k c (by decide) (by decide)
    have hcn : CnI m s := hC.2.2.2.2.ch c (by decide) (by decide)
    obtain ⟨st, ct_, w1⟩ := hCs
    have hMs := hM.ch hS c (by decide) (by decide)
    obtain ⟨O2, hO2⟩ : ∃ O2, O2 = OwU O (nx s) 2 := ⟨_, rfl⟩
    have Olo : ∀ i, i < nx s → O2 i = O i := fun i hi => by rw [hO2]; exact OwU_lo hi
    have Ohi : ∀ i, nx s ≤ i → O2 i = 2 := fun i hi => by rw [hO2]; unfold OwU; rw [if_pos hi]
    have Pn : ∀ i, 2 < i → i ≠ 22 → i ≠ 28 → i ≠ 29 → i ≠ 30 → ¬ i ∈ [0, 1, 2, 22, 28, 29, 30] := fun i h1 h2 h3 h4 h5 z => by
      simp only [List.mem_cons, List.not_mem_nil, or_false] at z; omega
    have Pl : ∀ i, i ∈ [0, 1, 2, 22, 28, 29, 30] → i < 31 ∧ i ≠ 21 := by decide
    have sT : Tst τ 1 := by
      obtain ⟨s1, s2, s3, s4⟩ := st
      refine ⟨⟨by rw [gf.2.1 1 (by omega)]; exact s1.1, by have := s1.2; omega⟩, by rw [f9]; exact s2, ⟨by rw [gf.2.1 _ (by omega)]; exact s3.1, by rw [gf.2.1 _ (by omega)]; exact s3.2.1, by rw [gf.2.1 _ (by omega)]; exact s3.2.2⟩, fun j hj => ?_⟩
      obtain ⟨bb, q, q1, q2⟩ := s4 j hj
      exact ⟨bb, q, q1.gf gf (Pn _ (by omega) (by omega) (by omega) (by omega) (by omega)), q2⟩
    have wT : Oww O2 τ 1 := by
      refine ⟨Or.inl rfl, ⟨by omega, by omega⟩, fun j hj => ?_, fun a bb ha hb => ?_⟩
      · obtain ⟨bb, b1, b2', b3⟩ := w1.2.2.1 j hj
        refine ⟨bb, by rw [(sm (1 + 2 + 2 * j) (by omega) (by omega) (by omega) (by omega) (by omega) (by omega)).2]; exact b1, by omega, ?_⟩
        rcases b3 with z | z
        · exact Or.inl z
        · exact Or.inr ⟨z.1, by rw [Olo bb b2']; exact z.2⟩
      · have hb' : gR τ 2 a = some bb := hb
        by_cases z : a = nA row
        · rw [z, f12] at hb'
          cases hb'
          refine ⟨hx, by omega, Ohi _ (Nat.le_refl _), fun j hh hj => ?_⟩
          have := f13 j hh hj
          exact ⟨by omega, by omega, Ohi _ (by omega)⟩
        · rw [f11 a z] at hb'
          obtain ⟨b1, b2', b3, b4⟩ := w1.2.2.2 a bb ha hb'
          refine ⟨b1, by omega, by rw [Olo bb b2']; exact b3, fun j hh hj => ?_⟩
          rw [(gf.2.2 bb b2' (Pn _ (by omega) (by omega) (by omega) (by omega) (by omega))).2.2] at hj
          obtain ⟨x1', x2', x3'⟩ := b4 j hh hj
          exact ⟨x1', by omega, by rw [Olo hh x2']; exact x3'⟩
    have tT : Tct row' n C τ 1 := by
      obtain ⟨⟨g1, g2, g3⟩, g4, ⟨g5, g6⟩, g12, g13, g14, g15⟩ := ct_
      refine ⟨⟨hl.1.1, hl.1.2, fun a bb ha hb => ?_⟩, fun j hj => ?_, ⟨fun i hi => ?_, fun i hi => ?_⟩, by rw [f7 12 (by decide), lo 10 (by decide) (by omega)]; exact g12, by rw [f7 13 (by decide), lo 11 (by decide) (by omega)]; exact g13, by rw [f7 14 (by decide), lo 8 (by decide) (by omega)]; exact g14, by rw [f7 15 (by decide), lo 12 (by decide) (by omega)]; exact g15⟩
      · have hb' : gR τ 2 a = some bb := hb
        by_cases z : a = nA row
        · obtain ⟨b', b1, b2'⟩ := hl.1.2 a (by rw [u6.n nlt]; omega)
          rw [b1] at hb'; cases hb'
          exact b2'.1.1
        · rw [f11 a z] at hb'
          rw [gf.2.1 bb (w1.2.2.2 a bb ha hb').2.1]; exact g3 a bb ha hb'
      · obtain ⟨bb, b1, b2', b3⟩ := w1.2.2.1 j hj
        have nb : ¬ bb ∈ [0, 1, 2, 22, 28, 29, 30] := by
          rcases b3 with z | z
          · exact Pn _ (by omega) (by omega) (by omega) (by omega) (by omega)
          · exact Pn _ (by omega) (by omega) (by omega) (by omega) (by omega)
        have g := (g4 j hj).gf gf b1 (Pn _ (by omega) (by omega) (by omega) (by omega) (by omega)) nb
        by_cases z : j = 7
        · have e1 : nJ row' n j = nJ row n j := by unfold nJ; rw [if_pos z, if_pos z]
          rw [e1]; exact g.congr (fun s k _ _ => by unfold CJ; rw [if_pos z, if_pos z])
        · have j7 : j < 7 := by omega
          obtain ⟨m1, m2, m3⟩ := jM j j7
          have e1 : nJ row' n j = nJ row n j := by rw [nJ_n j7, nJ_n j7, lo _ (by omega) (by omega)]
          rw [e1]
          refine g.congr (fun s k hs hk => ?_)
          rw [nJ_n j7] at hs
          have := jIx (Nat.lt_of_lt_of_le hs (hV.nJ_le j j7)) hk
          rw [CJ_n j7, CJ_n j7]
          exact lo _ (by omega) (by omega)
      · show gI τ 19 i = _
        rw [(sm 19 (by decide) (by decide) (by decide) (by decide) (by decide) (by decide)).1, lo _ (by omega) (by omega)]; exact g5 i hi
      · show gI τ 20 i = _
        rw [(sm 20 (by decide) (by decide) (by decide) (by decide) (by decide) (by decide)).1]
        unfold stW
        rw [lo _ (by omega) (by omega), lo _ (by omega) (by omega)]; exact g6 i hi
    have St : Sh τ := by
      refine ⟨by omega, fun i hi => by rw [gf.2.1 i (by omega)]; exact Ss.2.1 i hi, fun q hq => ?_⟩
      have e : gR τ q.1 = gR s q.1 := by
        have q166 := shRL_lt q hq
        have q2 := sh_not2 q hq
        by_cases z : 22 ≤ q.1 ∧ q.1 < 31
        · exact f10 _ z.1 z.2
        · by_cases z0 : q.1 = 0
          · rw [z0]; exact f8
          · by_cases z1 : q.1 = 1
            · rw [z1]; exact f9
            · exact (sm q.1 (by omega) z0 z1 q2 (by omega) (by omega)).2
      rw [e]; exact Ss.2.2 q hq
    have imP : ∀ i, i ∈ [0, 1, 2, 22, 28, 29, 30] → (i < 166 ∧ i ≠ 21 ∧ i ≠ 126 ∧ i ≠ 127) ∨ (166 ≤ i ∧ 3 ≤ O i ∧ O i < 18) := fun i hi => by have := Pl i hi; exact Or.inl (by omega)
    have hMt := hMs.gf gf hx Olo imP
    have us1 : us τ 1 = us s 1 ∧ ct τ 1 = ct s 1 := by
      have e : ∀ j, j < 8 → cpc τ 1 j = cpc s 1 j := fun j hj => by
        obtain ⟨bb, q, q1, q2⟩ := st.2.2.2 j hj
        rw [q1.cp, (q1.gf gf (Pn _ (by omega) (by omega) (by omega) (by omega) (by omega))).cp]
      refine ⟨?_, ?_⟩
      · unfold us sum8; dsimp only; rw [e 0 (by decide), e 1 (by decide), e 2 (by decide), e 3 (by decide), e 4 (by decide), e 5 (by decide), e 6 (by decide), e 7 (by decide)]
      · unfold ct sum8; dsimp only; rw [e 0 (by decide), e 1 (by decide), e 2 (by decide), e 3 (by decide), e 4 (by decide), e 5 (by decide), e 6 (by decide), e 7 (by decide)]
    have hRt : RmI (m + 1) τ := (hR.ch c).st (by omega) (by omega) (fun k hk => hMs.us gf hx imP hk)
    have cell : ∀ i, 34 ≤ i → i < 166 → gI τ i = gI s i := fun i h1 h2 => (sm i h2 (by omega) (by omega) (by omega) (by omega) (by omega)).1
    have kk : Kk row row' s τ := Or.inr (Or.inl ⟨f5, f6 13 (by decide) (by decide), ⟨lo 6 (by decide) (by omega), fun i h1 h2 => lo i (by omega) (by omega)⟩⟩)
    obtain ⟨hcc, hcn'⟩ := kk.cc hcs hA hB hV.2.2.1 hl hcn hm (fun i h1 h2 => cell i h1 (by omega))
    have hCt : CIn (m + 1) O2 row' n C nw wi 0 tp τ := by
      refine ⟨⟨sT, tT, wT⟩, hcc, ?_, TpC.nil f3, hcn'⟩
      have wc := hC.2.2.1.ch c (by decide) (by decide)
      unfold CwI at wc ⊢
      rw [cell 68 (by decide) (by decide), cell 69 (by decide) (by decide)]; exact wc
    have lbt : LbI τ := by
      have a := hX.1.ch c (by decide) (by decide)
      unfold LbI BsR BsC at a ⊢
      rw [cell 124 (by decide) (by decide), cell 68 (by decide) (by decide), cell 82 (by decide) (by decide), cell 153 (by decide) (by decide)]
      exact a
    exact ⟨_, τ, τ', t1, u1, inv_fin St lbt hCt (hMt.ch St u4 (by decide) (by decide)) hRt hV' (hY.mo eP (by omega)) (hW.cg hB (by omega) (lo 5 (by decide) (by omega)) (fun i h1 h2 => lo i (by omega) (by omega))) f4 u3 (by rw [u5, f6 11 (by decide) (by decide), t5]) ⟨hrow.symm, ⟨by rw [u4.pI (by decide) (by decide)]; exact rt.2.1.1, by rw [u4.rI (by decide) (by decide)]; exact rt.2.1.2⟩, TpR.nil u2⟩ u4 qAG⟩
end
