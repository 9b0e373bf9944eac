section
/-! THE INVARIANT -/
def StY (r : Nat → Int32) (n : Nat) (C : Nat → Nat → Int32) (oc : Nat → Nat → Option (Nat × Nat × Bool × Nat)) (W : Nat) : Prop := CyV (nP r) (nE r) n C ∧ RpC (nP r) n C oc ∧ FrC n C W ∧ CyE n C
def ToI (O : Nat → Nat) (row : Nat → Int32) (n : Nat) (C : Nat → Nat → Int32) (o : Nat) (σ : AH) : Prop := Tst σ o ∧ Tct row n C σ o ∧ Oww O σ o
def CcI (row : Nat → Int32) (σ : AH) : Prop := LwI row σ ∧ YcI row σ ∧ RcI row 44 σ ∧ RcI row 56 σ ∧ BfI row σ ∧ JcI row σ
def CnI (m : Nat) (σ : AH) : Prop := (∃ c, c ≤ m ∧ gI σ 0 12 = nI c) ∧ ∃ e, e ≤ m ∧ gI σ 0 13 = nI e
/-- what of now the class holds -/
def CIn (m : Nat) (O : Nat → Nat) (row : Nat → Int32) (n : Nat) (C : Nat → Nat → Int32) (nw : Nat) (wi : Nat → Nat) (L : Nat) (tp : Nat → Int32) (σ : AH) : Prop := ToI O row n C 1 σ ∧ CcI row σ ∧ CwI nw wi σ ∧ TpC L tp σ ∧ CnI m σ
/-- what of now the reference holds -/
def RIn (row : Nat → Int32) (nw : Nat) (wi : Nat → Nat) (L : Nat) (tp : Nat → Int32) (σ : AH) : Prop := gI σ 125 = row ∧ WsI nw wi σ ∧ TpR L tp σ
/-- what both hold -/
def XIn (σ : AH) : Prop := LbI σ ∧ gI σ 124 1 = gI σ 0 10 ∧ gI σ 124 11 = gI σ 0 11
/-- an IMAGE -/
def ImO (O : Nat → Nat) (σ : AH) (k o : Nat) : Prop := 166 ≤ o ∧ ∃ r oc W ns no mv n C, ToI O r n C o σ ∧ RwV r oc W ns no mv ∧ StY r n C oc W ∧ ∀ x, x < 269832 → gI σ 126 (269832 * k + x) = r x
def ImI (O : Nat → Nat) (σ : AH) : Prop := (∀ k, k < 3 → (gR σ 21 k = none ∧ gI σ 127 k = 0) ∨ ∃ o, gR σ 21 k = some o ∧ gI σ 127 k = 1 ∧ ImO O σ k o) ∧ ∀ k l o p, k < 3 → l < 3 → k ≠ l → gR σ 21 k = some o → gR σ 21 l = some p → o + 20 ≤ p ∨ p + 20 ≤ o
def usI (σ : AH) (k : Nat) : Nat := match gR σ 21 k with | none => 0 | some o => us σ o
def ctI (σ : AH) (k : Nat) : Nat := match gR σ 21 k with | none => 0 | some o => ct σ o
def usA (σ : AH) : Nat := us σ 1 + (usI σ 0 + (usI σ 1 + usI σ 2))
def ctA (σ : AH) : Nat := ct σ 1 + (ctI σ 0 + (ctI σ 1 + ctI σ 2))
def RmI (m : Nat) (σ : AH) : Prop := sl σ ≤ 1300000 + 3000 * m + usA σ ∧ nx σ ≤ 166 + 30 * m + ctA σ
def Inv (m : Nat) (σ : AH) : Prop := Sh σ ∧ RmI m σ ∧ XIn σ ∧ ∃ O row oc W ns no mv n C nw wi L tp, RwV row oc W ns no mv ∧ StY row n C oc W ∧ WiV row nw wi ∧ CIn m O row n C nw wi L tp σ ∧ RIn row nw wi L tp σ ∧ ImI O σ
/-! small cells' frames -/
theorem BfI.keep {row : Nat → Int32} {σ τ : AH} {cs : List Nat} {fs : List (Nat × Nat)} (h : BfI row σ) (c : Ch cs fs σ τ) (h1 : ∀ i ∈ cs, i ≠ 0 ∧ i ≠ 68 ∧ (i < 70 ∨ 79 < i)) (h2 : ∀ q ∈ fs, q ≠ (0, 12) ∧ q ≠ (68, 6) ∧ q ≠ (68, 7) ∧ (q.1 < 70 ∨ 79 < q.1)) : BfI row τ := by
  have e0 : gI τ 0 12 = gI σ 0 12 := c.pI (fun q => (h1 _ q).1 rfl) (fun q => (h2 _ q).1 rfl)
  have e6 : gI τ 68 6 = gI σ 68 6 := c.pI (fun q => (h1 _ q).2.1 rfl) (fun q => (h2 _ q).2.1 rfl)
  have e7 : gI τ 68 7 = gI σ 68 7 := c.pI (fun q => (h1 _ q).2.1 rfl) (fun q => (h2 _ q).2.2.1 rfl)
  refine ⟨by rw [e7, e0]; exact h.1, fun z q hq e => ?_⟩
  rw [e7, e0] at z
  rw [e6] at e
  exact (h.2 z q hq e).keep c (fun i hi => by have := h1 i hi; omega) (fun q hq => by have := h2 q hq; omega)
theorem YcI.k2 {row : Nat → Int32} {σ τ : AH} {cs : List Nat} {fs : List (Nat × Nat)} (h : YcI row σ) (c : Ch cs fs σ τ) (h1 : ∀ i ∈ cs, i ≠ 0 ∧ (i < 34 ∨ 43 < i)) (h2 : ∀ q ∈ fs, q ≠ (0, 12) ∧ (q.1 < 34 ∨ 43 < q.1)) : YcI row τ := by
  have ea : gI τ 34 = gI σ 34 := c.rI (fun q => by have := h1 _ q; omega) (fun q hq e => by have := h2 q hq; omega)
  have e0 : gI τ 0 12 = gI σ 0 12 := c.pI (fun q => (h1 _ q).1 rfl) (fun q => (h2 _ q).1 rfl)
  refine ⟨by rw [ea, e0]; exact h.1, fun z l' hl' e => ?_⟩
  rw [ea, e0] at z
  rw [ea] at e ⊢
  exact YdI_ch (h.2 z l' hl' e) c (fun i hi => (h1 i hi).2) (fun q hq => (h2 q hq).2)
theorem RcI.k2 {row : Nat → Int32} {a : Nat} {σ τ : AH} {cs : List Nat} {fs : List (Nat × Nat)} (h : RcI row a σ) (c : Ch cs fs σ τ) (h1 : ∀ i ∈ cs, i ≠ 0 ∧ (i < a ∨ a + 11 < i)) (h2 : ∀ q ∈ fs, q ≠ (0, 12) ∧ (q.1 < a ∨ a + 11 < q.1)) : RcI row a τ := by
  have ea : gI τ a = gI σ a := c.rI (fun q => by have := h1 _ q; omega) (fun q hq e => by have := h2 q hq; omega)
  have e0 : gI τ 0 12 = gI σ 0 12 := c.pI (fun q => (h1 _ q).1 rfl) (fun q => (h2 _ q).1 rfl)
  refine ⟨by rw [ea, e0]; exact h.1, fun z l' hl' e => ?_⟩
  rw [ea, e0] at z
  rw [ea] at e ⊢
  exact (h.2 z l' hl' e).keep c (fun i hi => by have := h1 i hi; omega) (fun q hq => by have := h2 q hq; omega)
theorem JcI.k2 {row : Nat → Int32} {σ τ : AH} {cs : List Nat} {fs : List (Nat × Nat)} (h : JcI row σ) (c : Ch cs fs σ τ) (h1 : ∀ i ∈ cs, i ≠ 0 ∧ i ≠ 113 ∧ i ≠ 114) (h2 : ∀ q ∈ fs, q ≠ (0, 13) ∧ q.1 ≠ 113 ∧ q.1 ≠ 114) : JcI row τ :=
  h.eq (c.pI (fun q => (h1 _ q).1 rfl) (fun q => (h2 _ q).1 rfl)) (c.rI (fun q => (h1 _ q).2.1 rfl) (fun q hq => (h2 q hq).2.1)) (c.rI (fun q => (h1 _ q).2.2 rfl) (fun q hq => (h2 q hq).2.2))
theorem LwI.k2 {row : Nat → Int32} {σ τ : AH} {cs : List Nat} {fs : List (Nat × Nat)} (h : LwI row σ) (c : Ch cs fs σ τ) (h1 : ∀ i ∈ cs, i < 166 ∧ i ≠ 1 ∧ (i < 28 ∨ 31 < i)) (h2 : ∀ q ∈ fs, q.1 < 166 ∧ q ≠ (1, 1) ∧ (q.1 < 28 ∨ 31 < q.1)) : LwI row τ :=
  ⟨h.1.ch c (fun i hi => by have := h1 i hi; exact ⟨this.1, this.2.1⟩) (fun q hq => by have := h2 q hq; exact ⟨this.1, this.2.1⟩), h.2.1.ch c (fun q => by have := h1 _ q; omega) (fun q => by have := h1 _ q; omega) (fun q hq => by have := h2 q hq; exact ⟨by omega, fun e => by rw [e] at this; omega⟩), h.2.2.ch c (fun q => by have := h1 _ q; omega) (fun q => by have := h1 _ q; omega) (fun q hq => by have := h2 q hq; omega)⟩
/-- caches, where none of their cells changes -/
theorem CcI.k {row : Nat → Int32} {σ τ : AH} {cs : List Nat} {fs : List (Nat × Nat)} (h : CcI row σ) (c : Ch cs fs σ τ) (h1 : ∀ i ∈ cs, i < 166 ∧ i ≠ 0 ∧ i ≠ 1 ∧ (i < 28 ∨ (67 < i ∧ i ≠ 68 ∧ (i < 70 ∨ 79 < i) ∧ i ≠ 113 ∧ i ≠ 114))) (h2 : ∀ q ∈ fs, q.1 < 166 ∧ q ≠ (1, 1) ∧ q ≠ (0, 12) ∧ q ≠ (0, 13) ∧ q ≠ (68, 6) ∧ q ≠ (68, 7) ∧ (q.1 < 28 ∨ (67 < q.1 ∧ (q.1 < 70 ∨ 79 < q.1) ∧ q.1 ≠ 113 ∧ q.1 ≠ 114))) : CcI row τ := by
  obtain ⟨l, y, a, b, f, j⟩ := h
  refine ⟨l.k2 c (fun i hi => by have := h1 i hi; omega) (fun q hq => by have := h2 q hq; exact ⟨this.1, this.2.1, by omega⟩), y.k2 c (fun i hi => by have := h1 i hi; omega) (fun q hq => by have := h2 q hq; exact ⟨this.2.2.1, by omega⟩), a.k2 c (fun i hi => by have := h1 i hi; omega) (fun q hq => by have := h2 q hq; exact ⟨this.2.2.1, by omega⟩), b.k2 c (fun i hi => by have := h1 i hi; omega) (fun q hq => by have := h2 q hq; exact ⟨this.2.2.1, by omega⟩), f.keep c (fun i hi => by have := h1 i hi; omega) (fun q hq => by have := h2 q hq; exact ⟨this.2.2.1, this.2.2.2.2.1, this.2.2.2.2.2.1, by omega⟩), j.k2 c (fun i hi => by have := h1 i hi; omega) (fun q hq => by have := h2 q hq; exact ⟨this.2.2.2.1, by omega, by omega⟩)⟩
/-! told objects under frames of small cells -/
theorem Ch.gf2 {cs : List Nat} {fs : List (Nat × Nat)} {P : Nat → Prop} {σ τ : AH} (c : Ch cs fs σ τ) (h1 : ∀ i ∈ cs, P i) (h2 : ∀ q ∈ fs, P q.1) : Gf P σ τ := c.gf.mono (fun i hi => by
  rcases hi with z | ⟨k, z⟩
  · exact h1 i z
  · exact h2 _ z)
/-- what can't be a told object's own -/
def Out1 (i : Nat) : Prop := i < 166 ∧ (i < 1 ∨ 20 < i)
theorem Out1.no {O : Nat → Nat} {σ : AH} {o i : Nat} (w : Oww O σ o) (h : Out1 i) : ¬ Cof O o i ∧ ¬ (166 ≤ i ∧ O i = 2) := by
  have w1 := w.1
  obtain ⟨h1, h2⟩ := h
  refine ⟨fun z => ?_, fun z => by omega⟩
  rcases z with z | z
  · omega
  · omega
theorem ToI.gf {O O' : Nat → Nat} {P : Nat → Prop} {row : Nat → Int32} {n o : Nat} {C : Nat → Nat → Int32} {σ τ : AH} (h : ToI O row n C o σ) (hA : nA row ≤ 24) (f : Gf P σ τ) (hO : ∀ i, i < nx σ → O' i = O i) (hP : ∀ i, P i → ¬ Cof O o i ∧ ¬ (166 ≤ i ∧ O i = 2)) : ToI O' row n C o τ :=
  ⟨h.1.gf f (fun i h1 h2 z => (hP i z).1 (Or.inl ⟨h1, h2⟩)), h.2.1.gf h.2.2 hA f hP, h.2.2.gf f hO (fun i z => ⟨fun q => (hP i z).1 (Or.inl q), (hP i z).2⟩)⟩
theorem RwV.n24 {row : Nat → Int32} {oc : Nat → Nat → Option (Nat × Nat × Bool × Nat)} {W ns no mv : Nat} (h : RwV row oc W ns no mv) : nA row ≤ 24 := h.1.1.2.1
/-- IMAGES, where none of their cells changes -/
theorem ImI.gf {O O' : Nat → Nat} {P : Nat → Prop} {σ τ : AH} (h : ImI O σ) (f : Gf P σ τ) (hx : 166 ≤ nx σ) (hO : ∀ i, i < nx σ → O' i = O i) (hP : ∀ i, P i → (i < 166 ∧ i ≠ 21 ∧ i ≠ 126 ∧ i ≠ 127) ∨ (166 ≤ i ∧ 3 ≤ O i ∧ O i < 18)) : ImI O' τ := by
  have e21 : gR τ 21 = gR σ 21 := (f.2.2 21 (by omega) (fun z => by have := hP _ z; omega)).2.2
  have e126 : gI τ 126 = gI σ 126 := (f.2.2 126 (by omega) (fun z => by have := hP _ z; omega)).1
  have e127 : gI τ 127 = gI σ 127 := (f.2.2 127 (by omega) (fun z => by have := hP _ z; omega)).1
  refine ⟨fun k hk => ?_, fun k l o p hk hl hne h1 h2 => h.2 k l o p hk hl hne (by rw [← e21]; exact h1) (by rw [← e21]; exact h2)⟩
  rcases h.1 k hk with ⟨a, b⟩ | ⟨o, a, b, o166, r, oc, W, ns, no, mv, n, C, t, v, y, x⟩
  · exact Or.inl ⟨by rw [e21]; exact a, by rw [e127]; exact b⟩
  · refine Or.inr ⟨o, by rw [e21]; exact a, by rw [e127]; exact b, o166, r, oc, W, ns, no, mv, n, C, t.gf v.n24 f hO (fun i z => ?_), v, y, by rw [e126]; exact x⟩
    have w := t.2.2
    have q := hP i z
    refine ⟨fun g => ?_, fun g => by omega⟩
    rcases g with g | ⟨g1, j, hj, g2⟩
    · rcases w.1 with y | y
      · omega
      · have := y.2 i g.1 g.2; omega
    · omega
theorem XIn.ch {σ τ : AH} {cs : List Nat} {fs : List (Nat × Nat)} (h : XIn σ) (c : Ch cs fs σ τ) (h1 : ∀ i ∈ cs, i ≠ 0 ∧ i ≠ 68 ∧ i ≠ 82 ∧ i ≠ 124 ∧ i ≠ 153) (h2 : ∀ q ∈ fs, q ≠ (0, 10) ∧ q ≠ (0, 11) ∧ q ≠ (68, 11) ∧ q ≠ (68, 13) ∧ q.1 ≠ 82 ∧ q.1 ≠ 153 ∧ q ≠ (124, 1) ∧ q ≠ (124, 11) ∧ q ≠ (124, 50) ∧ q ≠ (124, 51) ∧ q ≠ (124, 53)) : XIn τ := by
  have p : ∀ i k, (i = 0 ∨ i = 68 ∨ i = 124) → (i, k) ∉ fs → gI τ i k = gI σ i k := fun i k hi hk => c.pI (fun q => by have := h1 _ q; omega) hk
  have e82 : gI τ 82 = gI σ 82 := c.rI (fun q => by have := h1 _ q; omega) (fun q hq => (h2 q hq).2.2.2.2.1)
  have e153 : gI τ 153 = gI σ 153 := c.rI (fun q => by have := h1 _ q; omega) (fun q hq => (h2 q hq).2.2.2.2.2.1)
  obtain ⟨a, b, d⟩ := h
  refine ⟨?_, by rw [p 124 1 (by simp) (fun q => (h2 _ q).2.2.2.2.2.2.1 rfl), p 0 10 (by simp) (fun q => (h2 _ q).1 rfl)]; exact b, by rw [p 124 11 (by simp) (fun q => (h2 _ q).2.2.2.2.2.2.2.1 rfl), p 0 11 (by simp) (fun q => (h2 _ q).2.1 rfl)]; exact d⟩
  unfold LbI BsR BsC at a ⊢
  rw [p 124 50 (by simp) (fun q => (h2 _ q).2.2.2.2.2.2.2.2.1 rfl), p 124 51 (by simp) (fun q => (h2 _ q).2.2.2.2.2.2.2.2.2.1 rfl), p 124 53 (by simp) (fun q => (h2 _ q).2.2.2.2.2.2.2.2.2.2 rfl), p 68 11 (by simp) (fun q => (h2 _ q).2.2.1 rfl), p 68 13 (by simp) (fun q => (h2 _ q).2.2.2.1 rfl), e82, e153]
  exact a
theorem CnI.mo {m m' : Nat} {σ : AH} (h : CnI m σ) (hm : m ≤ m') : CnI m' σ := by
  obtain ⟨⟨c, c1, c2⟩, e, e1, e2⟩ := h
  exact ⟨⟨c, by omega, c2⟩, e, by omega, e2⟩
theorem CnI.ch {m : Nat} {σ τ : AH} {cs : List Nat} {fs : List (Nat × Nat)} (h : CnI m σ) (c : Ch cs fs σ τ) (h1 : 0 ∉ cs) (h2 : ∀ q ∈ fs, q ≠ (0, 12) ∧ q ≠ (0, 13)) : CnI m τ := by
  unfold CnI; rw [c.pI h1 (fun q => (h2 _ q).1 rfl), c.pI h1 (fun q => (h2 _ q).2 rfl)]; exact h
/-! room -/
theorem us_e {σ τ : AH} {o : Nat} (e1 : kd τ = kd σ) (e4 : ∀ j, j < 8 → gR τ (o + 2 + 2 * j) = gR σ (o + 2 + 2 * j)) : us τ o = us σ o ∧ ct τ o = ct σ o := by
  have e : ∀ j, j < 8 → cpc τ o j = cpc σ o j := fun j hj => by unfold cpc; rw [e1, e4 j hj]
  refine ⟨?_, ?_⟩
  · unfold us sum8; dsimp only; rw [e 0 (by decide), e 1 (by decide), e 2 (by decide), e 3 (by decide), e 4 (by decide), e 5 (by decide), e 6 (by decide), e 7 (by decide)]
  · unfold ct sum8; dsimp only; rw [e 0 (by decide), e 1 (by decide), e 2 (by decide), e 3 (by decide), e 4 (by decide), e 5 (by decide), e 6 (by decide), e 7 (by decide)]
theorem RmI.ch {m : Nat} {σ τ : AH} {cs : List Nat} {fs : List (Nat × Nat)} (h : RmI m σ) (c : Ch cs fs σ τ) : RmI m τ := by
  have e : ∀ o, us τ o = us σ o ∧ ct τ o = ct σ o := fun o => us_e c.1 (fun j _ => by rw [c.2.2.2.1])
  have eI : ∀ k, usI τ k = usI σ k ∧ ctI τ k = ctI σ k := fun k => by
    unfold usI ctI
    rw [c.2.2.2.1]
    cases gR σ 21 k with
    | none => exact ⟨rfl, rfl⟩
    | some o => exact e o
  have a1 : usA τ = usA σ := by unfold usA; rw [(e 1).1, (eI 0).1, (eI 1).1, (eI 2).1]
  have a2 : ctA τ = ctA σ := by unfold ctA; rw [(e 1).2, (eI 0).2, (eI 1).2, (eI 2).2]
  exact ⟨by rw [a1, c.2.2.1]; exact h.1, by rw [a2, c.2.1]; exact h.2⟩
theorem RmI.mo {m m' : Nat} {σ : AH} (h : RmI m σ) (hm : m ≤ m') : RmI m' σ := ⟨by have := h.1; omega, by have := h.2; omega⟩
end
