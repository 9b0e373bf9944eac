section
/-! a table of now is told of: what stays -/
theorem sh_no2 : ∀ q ∈ shRL, ∀ j, j < 8 → ¬ (q.1 = 3 + 2 * j ∧ q.2.1 = 2) := by decide +kernel
theorem us_gf {P : Nat → Prop} {σ τ : AH} {o : Nat} (h : Tst σ o) (f : Gf P σ τ) (hP : ∀ i, o ≤ i → i < o + 20 → ¬ P i) : us τ o = us σ o ∧ ct τ o = ct σ o := by
  have e : ∀ j, j < 8 → cpc τ o j = cpc σ o j := fun j hj => by
    obtain ⟨b, c, t1, t2⟩ := h.2.2.2 j hj
    rw [t1.cp, (t1.gf f (hP _ (by omega) (by omega))).cp]
  refine ⟨?_, ?_⟩
  · unfold us sum8; dsimp only; rw [e 0 (by decide), e 1 (by decide), e 2 (by decide), e 3 (by decide), e 4 (by decide), e 5 (by decide), e 6 (by decide), e 7 (by decide)]
  · unfold ct sum8; dsimp only; rw [e 0 (by decide), e 1 (by decide), e 2 (by decide), e 3 (by decide), e 4 (by decide), e 5 (by decide), e 6 (by decide), e 7 (by decide)]
theorem ImI.us {O : Nat → Nat} {P : Nat → Prop} {σ τ : AH} (h : ImI O σ) (f : Gf P σ τ) (hx : 166 ≤ nx σ) (hP : ∀ i, P i → (i < 166 ∧ i ≠ 21 ∧ i ≠ 126 ∧ i ≠ 127) ∨ (166 ≤ i ∧ 3 ≤ O i ∧ O i < 18)) {k : Nat} (hk : k < 3) : usI τ k = usI σ k ∧ ctI τ k = ctI σ k := by
  have e21 : gR τ 21 = gR σ 21 := (f.2.2 21 (by omega) (fun z => by have := hP _ z; omega)).2.2
  unfold usI ctI
  rw [e21]
  rcases h.1 k hk with ⟨a, b⟩ | ⟨o, a, b, o166, r, oc, W, ns, no, mv, n, C, t, v, y, x⟩
  · rw [a]; exact ⟨rfl, rfl⟩
  · rw [a]
    exact us_gf t.1 f (fun i h1 h2 z => by
      have q := hP i z
      rcases t.2.2.1 with y | y
      · omega
      · have := y.2 i h1 h2; omega)
theorem RmI.st {m : Nat} {σ τ : AH} (h : RmI m σ) (h1 : sl τ + us σ 1 ≤ sl σ + us τ 1 + 3000) (h2 : nx τ + ct σ 1 ≤ nx σ + ct τ 1 + 30) (e : ∀ k, k < 3 → usI τ k = usI σ k ∧ ctI τ k = ctI σ k) : RmI (m + 1) τ := by
  obtain ⟨a, b⟩ := h
  unfold usA at a
  unfold ctA at b
  unfold RmI usA ctA
  rw [(e 0 (by decide)).1, (e 1 (by decide)).1, (e 2 (by decide)).1, (e 0 (by decide)).2, (e 1 (by decide)).2, (e 2 (by decide)).2]
  exact ⟨by omega, by omega⟩
theorem Ow.oww {O : Nat → Nat} {σ : AH} (h : Ow O σ) : Oww O σ 1 := by
  have hx := h.1
  refine ⟨Or.inl rfl, ⟨hx, by omega⟩, fun j hj => ?_, h.2.2⟩
  have ht : 3 + 2 * j ∈ tbs := by
    rcases (show j = 0 ∨ j = 1 ∨ j = 2 ∨ j = 3 ∨ j = 4 ∨ j = 5 ∨ j = 6 ∨ j = 7 by omega) with rfl | rfl | rfl | rfl | rfl | rfl | rfl | rfl <;> decide
  obtain ⟨b, b1, b2', b3⟩ := h.2.1 _ ht
  refine ⟨b, by rw [show 1 + 2 + 2 * j = 3 + 2 * j by omega]; exact b1, b2', ?_⟩
  rcases b3 with z | z
  · exact Or.inl (by omega)
  · exact Or.inr ⟨z.1, by omega⟩
def TlF (O : Nat → Nat) (row : Nat → Int32) (n : Nat) (C : Nat → Nat → Int32) (jt b0 : Nat) (ds : List Nat) (fs : List (Nat × Nat)) (σ τ : AH) : Prop := (Sh τ ∧ Tst τ 1 ∧ Oww (OwU O (nx σ) (3 + 2 * jt)) τ 1 ∧ ImI (OwU O (nx σ) (3 + 2 * jt)) τ ∧ ∀ m, RmI m σ → RmI (m + 1) τ) ∧ (∀ j, j < 8 → j ≠ jt → TbG τ (3 + 2 * j) (wdJ j) (msJ j) (nJ row n j) (CJ row C j)) ∧ (∀ i, 18 < i → i < 166 → i ∉ ds → gI τ i = gI σ i) ∧ (∀ k, (0, k) ∉ fs → gI τ 0 k = gI σ 0 k) ∧ (∀ k, (1, k) ∉ fs → gI τ 1 k = gI σ 1 k) ∧ (gR τ 2 = gR σ 2 ∧ ∀ i, i < nx σ → kd τ i = kd σ i) ∧ LwI row τ
theorem tell_fr {O : Nat → Nat} {row : Nat → Int32} {n jt b0 : Nat} {C : Nat → Nat → Int32} {ds : List Nat} {fs : List (Nat × Nat)} {σ τ : AH} (hS : Sh σ) (hT : ToI O row n C 1 σ) (hV : AV row) (hL : LwI row σ) (hM : ImI O σ) (hj : jt < 8) (hb0 : gR σ (3 + 2 * jt) 2 = some b0) (c : ChX (3 + 2 * jt) (b0 :: ds) fs σ τ) (hds : ∀ i ∈ ds, 114 < i ∧ i < 124) (hfs : ∀ q ∈ fs, q = (3 + 2 * jt, 3) ∨ q.1 = 0 ∨ (q.1 = 1 ∧ 12 ≤ q.2)) : TlF O row n C jt b0 ds fs σ τ := by
  obtain ⟨t, ht⟩ : ∃ t, t = 3 + 2 * jt := ⟨_, rfl⟩
  unfold TlF
  rw [← ht] at hb0 c hfs ⊢
  obtain ⟨st, ct_, w⟩ := hT
  have hx := hS.1
  have hO : Ow O σ := w.ow
  have ht' : t ∈ tbs := by
    rw [ht]
    rcases (show jt = 0 ∨ jt = 1 ∨ jt = 2 ∨ jt = 3 ∨ jt = 4 ∨ jt = 5 ∨ jt = 6 ∨ jt = 7 by omega) with rfl | rfl | rfl | rfl | rfl | rfl | rfl | rfl <;> decide
  obtain ⟨y, y1, y2, y3⟩ := hO.2.1 t ht'
  rw [hb0] at y1; cases y1
  have b18 : b0 ≤ 18 ∨ 166 ≤ b0 := by rcases y3 with z | z <;> omega
  have fsO : ∀ q ∈ fs, q.1 = t ∨ q.1 = 0 ∨ q.1 = 1 := fun q hq => by
    rcases hfs q hq with z | z | z
    · exact Or.inl (by rw [z])
    · exact Or.inr (Or.inl z)
    · exact Or.inr (Or.inr z.1)
  have gf : Gf (fun i => i = t ∨ i = b0 ∨ i ∈ ds ∨ i = 0 ∨ i = 1) σ τ := c.gf.mono (fun i hi => by
    rcases hi with z | z | ⟨k, z⟩
    · exact Or.inl z
    · rcases List.mem_cons.mp z with z | z
      · exact Or.inr (Or.inl z)
      · exact Or.inr (Or.inr (Or.inl z))
    · rcases fsO _ z with z | z | z
      · exact Or.inl z
      · exact Or.inr (Or.inr (Or.inr (Or.inl z)))
      · exact Or.inr (Or.inr (Or.inr (Or.inr z))))
  have imP : ∀ i, (i = t ∨ i = b0 ∨ i ∈ ds ∨ i = 0 ∨ i = 1) → (i < 166 ∧ i ≠ 21 ∧ i ≠ 126 ∧ i ≠ 127) ∨ (166 ≤ i ∧ 3 ≤ O i ∧ O i < 18) := fun i hi => by
    rcases hi with z | z | z | z | z
    · exact Or.inl (by omega)
    · rcases y3 with q | q
      · exact Or.inl (by omega)
      · exact Or.inr ⟨by omega, by rw [z]; omega, by rw [z]; omega⟩
    · have := hds i z; exact Or.inl (by omega)
    · exact Or.inl (by omega)
    · exact Or.inl (by omega)
  have tne : ∀ i, i ≠ t → i ≠ b0 → i ∉ ds → i ≠ 0 → i ≠ 1 → ¬ (i = t ∨ i = b0 ∨ i ∈ ds ∨ i = 0 ∨ i = 1) := fun i h1 h2 h3 h4 h5 z => by
    rcases z with z | z | z | z | z
    · exact h1 z
    · exact h2 z
    · exact h3 z
    · exact h4 z
    · exact h5 z
  have dsn : ∀ i, i < 21 → i ∉ ds := fun i hi z => by have := hds i z; omega
  -- the table's own
  obtain ⟨bb, cc, d1, d2⟩ := st.2.2.2 jt hj
  rw [show 1 + 2 + 2 * jt = t by omega] at d1
  have ebb : bb = b0 := by have := d1.2.2.1; rw [hb0] at this; cases this; rfl
  subst ebb
  obtain ⟨b', c', g1, g2, g3, g4, g5, g6, g7⟩ := c.2.2.2.2.2 bb cc hb0 (by rw [ht]; exact d1.2.2.2.1) y2 (by rw [ht]; exact d2)
  have tb : ∀ k, k ≠ 3 → gI τ t k = gI σ t k := fun k hk => (c.2.2.2.2.1 t (by omega) (fun z => by
    rcases List.mem_cons.mp z with z | z
    · rcases y3 with q | q <;> omega
    · exact dsn t (by omega) z) k (fun z => by
    rcases hfs _ z with q | q | q
    · exact hk (Prod.mk.inj q).2
    · have : t = 0 := q; omega
    · have : t = 1 := q.1; omega)).1
  have tI : TsI τ t (wdJ jt) (msJ jt) b' (c' * wdJ jt) := ⟨⟨by rw [c.2.1 t (by omega)]; exact d1.1.1, by have := c.1; omega⟩, ⟨by rw [tb 0 (by decide)]; exact d1.2.1.1, by rw [tb 1 (by decide)]; exact d1.2.1.2⟩, g1, ⟨by rw [ht] at g2; exact g2, g3⟩⟩
  have tJ : ∀ j, j < 8 → j ≠ jt → 3 + 2 * j ≠ t ∧ 3 + 2 * j ≠ bb := fun j hj hne => ⟨by omega, fun e => by rcases y3 with q | q <;> omega⟩
  have c4 : c' ∈ chT (msJ jt) := by rw [ht] at g4; exact g4
  have fx := c.1
  have st' : Tst τ 1 := by
    have e1 : gR τ 1 = gR σ 1 := funext fun k => c.2.2.1 1 k (by omega) (fun z => by omega)
    refine ⟨⟨by rw [c.2.1 1 (by omega)]; exact st.1.1, by omega⟩, by rw [e1]; exact st.2.1, ⟨by rw [c.2.1 _ (by omega)]; exact st.2.2.1.1, by rw [c.2.1 _ (by omega)]; exact st.2.2.1.2.1, by rw [c.2.1 _ (by omega)]; exact st.2.2.1.2.2⟩, fun j hj' => ?_⟩
    by_cases z : j = jt
    · rw [z, show 1 + 2 + 2 * jt = t by omega]; exact ⟨b', c', tI, c4⟩
    · obtain ⟨bk, ck, k1, k2⟩ := st.2.2.2 j hj'
      have q := tJ j hj' z
      rw [show 1 + 2 + 2 * j = 3 + 2 * j by omega] at k1 ⊢
      exact ⟨bk, ck, k1.gf gf (tne _ q.1 q.2 (dsn _ (by omega)) (by omega) (by omega)), k2⟩
  have rm : RmO 1 σ τ := by
    refine RmO.one hj (c := cc) (c' := c') (by rw [show t = 1 + 2 + 2 * jt by omega] at d1; exact d1.cp) (by rw [show t = 1 + 2 + 2 * jt by omega] at tI; exact tI.cp) (fun j hj' z => ?_) (by rw [ht] at g6; exact g6) (by rw [ht] at g7; exact g7)
    obtain ⟨bk, ck, k1, k2⟩ := st.2.2.2 j hj'
    have q := tJ j hj' z
    rw [k1.cp, (k1.gf gf (tne _ (by omega) (by omega) (dsn _ (by omega)) (by omega) (by omega))).cp]
  refine ⟨⟨⟨by omega, fun i hi => by rw [c.2.1 i (by omega)]; exact hS.2.1 i hi, fun q hq => ?_⟩, st', (hO.x ht' c).oww, hM.gf gf hx (fun i hi => OwU_lo hi) imP, fun m hm => hm.st (by have := rm.1; omega) (by have := rm.2; omega) (fun k hk => hM.us gf hx imP hk)⟩, fun j hj' z => ?_, fun i h1 h2 h3 => ?_, fun k hk => ?_, fun k hk => ?_, ⟨funext fun k => c.2.2.1 2 k (by omega) (fun z => by omega), c.2.1⟩, ?_⟩
  · rw [c.2.2.1 q.1 q.2.1 (by have := shRL_lt q hq; omega) (fun z => sh_no2 q hq jt hj ⟨by omega, z.2⟩)]; exact hS.2.2 q hq
  · have q := tJ j hj' z
    have g := ct_.2.1 j hj'
    rw [show 1 + 2 + 2 * j = 3 + 2 * j by omega] at g
    obtain ⟨bk, k1, k2, k3⟩ := w.2.2.1 j hj'
    rw [show 1 + 2 + 2 * j = 3 + 2 * j by omega] at k1
    refine g.gf gf k1 (tne _ q.1 q.2 (dsn _ (by omega)) (by omega) (by omega)) ?_
    have n1 : bk ≠ t := by have := k3.ne w hj' hj; omega
    have n2 : bk ≠ bb := fun e => by
      have ab : Aof O 1 jt bb := by
        rcases y3 with q | q
        · exact Or.inl (by omega)
        · exact Or.inr ⟨q.1, by omega⟩
      exact k3.ne2 w hj' hj z (by rw [e]; exact ab)
    have n3 : bk ≤ 18 ∨ 166 ≤ bk := by rcases k3 with q | q <;> omega
    have n4 : 3 ≤ bk := by rcases k3 with q | q <;> omega
    exact tne _ n1 n2 (fun z => by have := hds _ z; omega) (by omega) (by omega)
  · exact (gf.2.2 i (by omega) (tne i (by omega) (by omega) h3 (by omega) (by omega))).1
  · exact (c.2.2.2.2.1 0 (by omega) (fun z => by
      rcases List.mem_cons.mp z with z | z
      · rcases y3 with q | q <;> omega
      · exact dsn 0 (by omega) z) k hk).1
  · exact (c.2.2.2.2.1 1 (by omega) (fun z => by
      rcases List.mem_cons.mp z with z | z
      · rcases y3 with q | q <;> omega
      · exact dsn 1 (by omega) z) k hk).1
  · have yy : 166 ≤ nx σ := hx
    obtain ⟨l1, l2, l3⟩ := hL
    have sm : ∀ i, i = 28 ∨ i = 29 ∨ i = 30 ∨ i = 31 → gI τ i = gI σ i := fun i hi => (gf.2.2 i (by omega) (tne i (by omega) (by omega) (fun z => by have := hds _ z; omega) (by omega) (by omega))).1
    refine ⟨⟨?_, fun a ha => ?_⟩, ?_, ?_⟩
    · rw [(c.2.2.2.2.1 1 (by omega) (fun z => by
        rcases List.mem_cons.mp z with z | z
        · rcases y3 with q | q <;> omega
        · exact dsn 1 (by omega) z) 1 (fun z => by
        rcases hfs _ z with q | q | q
        · have : (1 : Nat) = t := (Prod.mk.inj q).1; omega
        · have : (1 : Nat) = 0 := q; omega
        · have : 12 ≤ 1 := q.2; omega)).1]; exact l1.1
    · obtain ⟨b, b1, b2'⟩ := l1.2 a ha
      have q := w.2.2.2 a b (by have := hV.2.1; omega) b1
      have nP : ∀ i, 166 ≤ i → O i = 2 → ¬ (i = t ∨ i = bb ∨ i ∈ ds ∨ i = 0 ∨ i = 1) := fun i h1 h2 z => by
        have := imP i z; omega
      refine ⟨b, by rw [c.2.2.1 2 a (by omega) (fun z => by omega)]; exact b1, b2'.g gf (nP b q.1 q.2.2.1) (fun j x hx' => ?_)⟩
      obtain ⟨x1, x2, x3⟩ := q.2.2.2 j x hx'
      exact nP x x1 x3
    · unfold CS at l2 ⊢; rw [sm 28 (by omega), sm 31 (by omega)]; exact l2
    · unfold ChnOK at l3 ⊢; rw [sm 29 (by omega), sm 30 (by omega)]; exact l3
end
