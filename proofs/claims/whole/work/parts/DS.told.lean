section
/-! a told object, at any place: the one of now (1), IMAGES -/
def wdJ (j : Nat) : Nat := wdT (3 + 2 * j)
def msJ (j : Nat) : Nat := msT (3 + 2 * j)
def nbJ (j : Nat) : Nat := if j = 0 then 1 else if j = 1 then 2 else if j = 2 then 3 else if j = 3 then 4 else if j = 4 then 5 else if j = 5 then 6 else 9
def BJ (j : Nat) : Nat := if j = 0 then 22748 else if j = 1 then 23228 else if j = 2 then 23292 else if j = 3 then 23532 else if j = 4 then 23652 else if j = 5 then 23832 else 24432
def nJ (row : Nat → Int32) (n j : Nat) : Nat := if j = 7 then n else cl (row (nbJ j))
def CJ (row : Nat → Int32) (C : Nat → Nat → Int32) (j : Nat) : Nat → Nat → Int32 := fun s k => if j = 7 then C s k else row (BJ j + (s * wdJ j + k))
theorem wdJ_pos (j : Nat) : 0 < wdJ j := by
  unfold wdJ wdT
  split
  · decide
  · split
    · decide
    · split
      · decide
      · split <;> decide
theorem mwJ : ∀ j, j < 8 → msJ j * wdJ j ≤ 60000 := by decide
theorem msJ_mem (j : Nat) : msJ j ∈ msL := msT_mem _
theorem chT_le : ∀ m ∈ msL, ∀ c ∈ chT m, c ≤ m := by decide +kernel
/-- as it is made -/
def Tst (σ : AH) (o : Nat) : Prop := (kd σ o = (9, NO 9) ∧ o + 20 ≤ nx σ) ∧ (gR σ o 0 = some (o + 1) ∧ gR σ o 10 = some (o + 18) ∧ gR σ o 11 = some (o + 19) ∧ ∀ j, j < 8 → gR σ o (2 + j) = some (o + 2 + 2 * j)) ∧ (kd σ (o + 1) = (103, 24) ∧ kd σ (o + 18) = (100, 120) ∧ kd σ (o + 19) = (100, 2400)) ∧ ∀ j, j < 8 → ∃ b c, TsI σ (o + 2 + 2 * j) (wdJ j) (msJ j) b (c * wdJ j) ∧ c ∈ chT (msJ j)
/-- what it holds -/
def Tct (row : Nat → Int32) (n : Nat) (C : Nat → Nat → Int32) (σ : AH) (o : Nat) : Prop := (gI σ o 1 = nI (nA row) ∧ (∀ a, a < nA row → ∃ b, gR σ (o + 1) a = some b ∧ ActC row σ a b) ∧ ∀ a b, a < 24 → gR σ (o + 1) a = some b → kd σ b = (0, NO 0)) ∧ (∀ j, j < 8 → TbG σ (o + 2 + 2 * j) (wdJ j) (msJ j) (nJ row n j) (CJ row C j)) ∧ ((∀ i, i < 120 → gI σ (o + 18) i = row (24592 + i)) ∧ ∀ i, i < 2400 → gI σ (o + 19) i = nI (stW row i)) ∧ gI σ o 12 = row 10 ∧ gI σ o 13 = row 11 ∧ gI σ o 14 = row 8 ∧ gI σ o 15 = row 12
/-- whose cells are whose: O of an array is its table, of a told object's own cells (but for the first) 1, of ACTS 2 -/
def Aof (O : Nat → Nat) (o j i : Nat) : Prop := i = o + 3 + 2 * j ∨ (166 ≤ i ∧ O i = o + 2 + 2 * j)
def Oww (O : Nat → Nat) (σ : AH) (o : Nat) : Prop := (o = 1 ∨ (166 ≤ o ∧ ∀ i, o ≤ i → i < o + 20 → O i = 1)) ∧ (166 ≤ nx σ ∧ o + 20 ≤ nx σ) ∧ (∀ j, j < 8 → ∃ b, gR σ (o + 2 + 2 * j) 2 = some b ∧ b < nx σ ∧ Aof O o j b) ∧ ∀ a b, a < 24 → gR σ (o + 1) a = some b → 166 ≤ b ∧ b < nx σ ∧ O b = 2 ∧ ∀ j h, gR σ b j = some h → 166 ≤ h ∧ h < nx σ ∧ O h = 2
def Cof (O : Nat → Nat) (o i : Nat) : Prop := (o ≤ i ∧ i < o + 20) ∨ (166 ≤ i ∧ ∃ j, j < 8 ∧ O i = o + 2 + 2 * j)
theorem Aof.cof {O : Nat → Nat} {o j i : Nat} (h : Aof O o j i) (hj : j < 8) : Cof O o i := by
  rcases h with h | h
  · exact Or.inl (by omega)
  · exact Or.inr ⟨h.1, j, hj, h.2⟩
theorem Aof.ne {O : Nat → Nat} {σ : AH} {o j k i : Nat} (w : Oww O σ o) (hj : j < 8) (hk : k < 8) (h : Aof O o j i) : i ≠ o + 2 + 2 * k := fun e => by
  rcases h with h | h
  · omega
  · rcases w.1 with z | z
    · omega
    · have := z.2 i (by omega) (by omega); omega
theorem Aof.ne2 {O : Nat → Nat} {σ : AH} {o j k i : Nat} (w : Oww O σ o) (hj : j < 8) (hk : k < 8) (hjk : j ≠ k) (h : Aof O o j i) (h2 : Aof O o k i) : False := by
  rcases h with h | h <;> rcases h2 with h2 | h2
  · omega
  · rcases w.1 with z | z
    · omega
    · have := z.2 i (by omega) (by omega); omega
  · rcases w.1 with z | z
    · omega
    · have := z.2 i (by omega) (by omega); omega
  · omega
theorem Cof.dis {O : Nat → Nat} {σ : AH} {o s i : Nat} (w : Oww O σ o) (v : Oww O σ s) (dj : o + 20 ≤ s ∨ s + 20 ≤ o) (h : Cof O o i) : ¬ Cof O s i := fun g => by
  rcases h with h | ⟨h1, j, hj, h2⟩ <;> rcases g with g | ⟨g1, k, hk, g2⟩
  · omega
  · rcases w.1 with z | z
    · omega
    · have := z.2 i h.1 h.2; have := v.1; omega
  · rcases v.1 with z | z
    · omega
    · have := z.2 i g.1 g.2; have := w.1; omega
  · omega
theorem Cof.act {O : Nat → Nat} {σ : AH} {o i : Nat} (w : Oww O σ o) (h : Cof O o i) : ¬ (166 ≤ i ∧ O i = 2) := fun g => by
  rcases h with h | ⟨h1, j, hj, h2⟩
  · rcases w.1 with z | z
    · omega
    · have := z.2 i h.1 h.2; omega
  · have := w.1; omega
/-! frames -/
theorem Gf.step {P Q : Nat → Prop} {a b c : AH} (h : Gf P a b) (g : Gf Q b c) (hq : ∀ i, i < nx a → Q i → P i) : Gf P a c := ⟨Nat.le_trans h.1 g.1, fun i hi => (g.2.1 i (Nat.lt_of_lt_of_le hi h.1)).trans (h.2.1 i hi), fun i hi hp => by
  have q := g.2.2 i (Nat.lt_of_lt_of_le hi h.1) (fun z => hp (hq i hi z))
  have r := h.2.2 i hi hp
  exact ⟨q.1.trans r.1, q.2.1.trans r.2.1, q.2.2.trans r.2.2⟩⟩
theorem TbG.gf {P : Nat → Prop} {σ τ : AH} {t wd mst n b : Nat} {C : Nat → Nat → Int32} (h : TbG σ t wd mst n C) (f : Gf P σ τ) (hb : gR σ t 2 = some b) (h1 : ¬ P t) (h2 : ¬ P b) : TbG τ t wd mst n C := by
  obtain ⟨⟨a1, a2⟩, ⟨b1, b2', b3, b4⟩, b', L, c1, ⟨c2, c3⟩, c4, c5, c6⟩ := h
  rw [hb] at c1
  cases c1
  have et := f.2.2 t a2 h1
  have eb := f.2.2 b c3 h2
  exact ⟨⟨by rw [f.2.1 t a2]; exact a1, Nat.lt_of_lt_of_le a2 f.1⟩, ⟨by rw [et.1]; exact b1, by rw [et.1]; exact b2', by rw [et.1]; exact b3, b4⟩, b, L, by rw [et.2.2]; exact hb, ⟨by rw [f.2.1 b c3]; exact c2, Nat.lt_of_lt_of_le c3 f.1⟩, c4, c5, by rw [eb.1]; exact c6⟩
theorem TsI.gf {P : Nat → Prop} {σ τ : AH} {t wd mst b L : Nat} (h : TsI σ t wd mst b L) (f : Gf P σ τ) (h1 : ¬ P t) : TsI τ t wd mst b L := by
  obtain ⟨⟨a1, a2⟩, ⟨b1, b2'⟩, c1, ⟨c2, c3⟩⟩ := h
  have et := f.2.2 t a2 h1
  exact ⟨⟨by rw [f.2.1 t a2]; exact a1, Nat.lt_of_lt_of_le a2 f.1⟩, ⟨by rw [et.1]; exact b1, by rw [et.1]; exact b2'⟩, by rw [et.2.2]; exact c1, ⟨by rw [f.2.1 b c3]; exact c2, Nat.lt_of_lt_of_le c3 f.1⟩⟩
theorem Tst.gf {P : Nat → Prop} {σ τ : AH} {o : Nat} (h : Tst σ o) (f : Gf P σ τ) (hP : ∀ i, o ≤ i → i < o + 20 → ¬ P i) : Tst τ o := by
  obtain ⟨⟨a1, a2⟩, ⟨r1, r2, r3, r4⟩, ⟨k1, k2, k3⟩, t⟩ := h
  have e := fun i (h1 : o ≤ i) (h2 : i < o + 20) => f.2.2 i (by omega) (hP i h1 h2)
  have e0 := (e o (Nat.le_refl _) (by omega)).2.2
  refine ⟨⟨by rw [f.2.1 o (by omega)]; exact a1, Nat.le_trans a2 f.1⟩, ⟨by rw [e0]; exact r1, by rw [e0]; exact r2, by rw [e0]; exact r3, by rw [e0]; exact r4⟩, ⟨by rw [f.2.1 _ (by omega)]; exact k1, by rw [f.2.1 _ (by omega)]; exact k2, by rw [f.2.1 _ (by omega)]; exact k3⟩, fun j hj => ?_⟩
  obtain ⟨b, c, t1, t2⟩ := t j hj
  exact ⟨b, c, t1.gf f (hP _ (by omega) (by omega)), t2⟩
theorem Oww.gf {P : Nat → Prop} {O O' : Nat → Nat} {σ τ : AH} {o : Nat} (h : Oww O σ o) (f : Gf P σ τ) (hO : ∀ i, i < nx σ → O' i = O i) (hP : ∀ i, P i → ¬ (o ≤ i ∧ i < o + 20) ∧ ¬ (166 ≤ i ∧ O i = 2)) : Oww O' τ o := by
  obtain ⟨h1, ⟨h2, h2'⟩, h3, h4⟩ := h
  have fx := f.1
  refine ⟨h1.imp id (fun z => ⟨z.1, fun i q1 q2 => by rw [hO i (by omega)]; exact z.2 i q1 q2⟩), ⟨by omega, by omega⟩, fun j hj => ?_, fun a b ha hb => ?_⟩
  · obtain ⟨b, b1, b2', b3⟩ := h3 j hj
    exact ⟨b, by rw [(f.2.2 _ (by omega) (fun z => (hP _ z).1 (by omega))).2.2]; exact b1, by omega, b3.imp id (fun z => ⟨z.1, by rw [hO b b2']; exact z.2⟩)⟩
  · rw [(f.2.2 _ (by omega) (fun z => (hP _ z).1 (by omega))).2.2] at hb
    obtain ⟨a1, a2, a3, a4⟩ := h4 a b ha hb
    refine ⟨a1, by omega, by rw [hO b a2]; exact a3, fun j x hx => ?_⟩
    rw [(f.2.2 b a2 (fun z => (hP _ z).2 ⟨a1, a3⟩)).2.2] at hx
    obtain ⟨x1, x2, x3⟩ := a4 j x hx
    exact ⟨x1, by omega, by rw [hO x x2]; exact x3⟩
theorem Tct.gf {P : Nat → Prop} {O : Nat → Nat} {row : Nat → Int32} {n : Nat} {C : Nat → Nat → Int32} {σ τ : AH} {o : Nat} (h : Tct row n C σ o) (w : Oww O σ o) (hA : nA row ≤ 24) (f : Gf P σ τ) (hP : ∀ i, P i → ¬ Cof O o i ∧ ¬ (166 ≤ i ∧ O i = 2)) : Tct row n C τ o := by
  obtain ⟨⟨a1, a2, a3⟩, t, ⟨g1, g2⟩, i12, i13, i14, i15⟩ := h
  obtain ⟨w1, ⟨w2, w2'⟩, w3, w4⟩ := id w
  have fx := f.1
  have blk : ∀ i, o ≤ i → i < o + 20 → ¬ P i := fun i q1 q2 z => (hP i z).1 (Or.inl ⟨q1, q2⟩)
  have e := fun i (q1 : o ≤ i) (q2 : i < o + 20) => f.2.2 i (by omega) (blk i q1 q2)
  have eo := (e o (Nat.le_refl _) (by omega)).1
  have eR : gR τ (o + 1) = gR σ (o + 1) := (e (o + 1) (by omega) (by omega)).2.2
  refine ⟨⟨by rw [eo]; exact a1, fun a ha => ?_, fun a b ha hb => ?_⟩, fun j hj => ?_, ⟨by rw [(e (o + 18) (by omega) (by omega)).1]; exact g1, by rw [(e (o + 19) (by omega) (by omega)).1]; exact g2⟩, by rw [eo]; exact i12, by rw [eo]; exact i13, by rw [eo]; exact i14, by rw [eo]; exact i15⟩
  · obtain ⟨b, b1, b2'⟩ := a2 a ha
    obtain ⟨q1, q2, q3, q4⟩ := w4 a b (by omega) b1
    refine ⟨b, by rw [eR]; exact b1, b2'.g f (fun z => (hP _ z).2 ⟨q1, q3⟩) (fun j x hx z => ?_)⟩
    obtain ⟨x1, x2, x3⟩ := q4 j x hx
    exact (hP _ z).2 ⟨x1, x3⟩
  · rw [eR] at hb
    rw [f.2.1 b (w4 a b ha hb).2.1]; exact a3 a b ha hb
  · obtain ⟨b, b1, b2', b3⟩ := w3 j hj
    exact (t j hj).gf f b1 (blk _ (by omega) (by omega)) (fun z => (hP _ z).1 (b3.cof hj))
/-! room -/
def sum8 (f : Nat → Nat) : Nat := f 0 + f 1 + f 2 + f 3 + f 4 + f 5 + f 6 + f 7
theorem sum8_up {f g : Nat → Nat} {j : Nat} (hj : j < 8) (h : ∀ i, i < 8 → i ≠ j → g i = f i) : sum8 g + f j = sum8 f + g j := by
  unfold sum8
  have q : ∀ i, i < 8 → g i = f i ∨ i = j := fun i hi => by
    by_cases z : i = j
    · exact Or.inr z
    · exact Or.inl (h i hi z)
  rcases (show j = 0 ∨ j = 1 ∨ j = 2 ∨ j = 3 ∨ j = 4 ∨ j = 5 ∨ j = 6 ∨ j = 7 by omega) with rfl | rfl | rfl | rfl | rfl | rfl | rfl | rfl
  · rw [h 1 (by decide) (by decide), h 2 (by decide) (by decide), h 3 (by decide) (by decide), h 4 (by decide) (by decide), h 5 (by decide) (by decide), h 6 (by decide) (by decide), h 7 (by decide) (by decide)]; omega
  · rw [h 0 (by decide) (by decide), h 2 (by decide) (by decide), h 3 (by decide) (by decide), h 4 (by decide) (by decide), h 5 (by decide) (by decide), h 6 (by decide) (by decide), h 7 (by decide) (by decide)]; omega
  · rw [h 0 (by decide) (by decide), h 1 (by decide) (by decide), h 3 (by decide) (by decide), h 4 (by decide) (by decide), h 5 (by decide) (by decide), h 6 (by decide) (by decide), h 7 (by decide) (by decide)]; omega
  · rw [h 0 (by decide) (by decide), h 1 (by decide) (by decide), h 2 (by decide) (by decide), h 4 (by decide) (by decide), h 5 (by decide) (by decide), h 6 (by decide) (by decide), h 7 (by decide) (by decide)]; omega
  · rw [h 0 (by decide) (by decide), h 1 (by decide) (by decide), h 2 (by decide) (by decide), h 3 (by decide) (by decide), h 5 (by decide) (by decide), h 6 (by decide) (by decide), h 7 (by decide) (by decide)]; omega
  · rw [h 0 (by decide) (by decide), h 1 (by decide) (by decide), h 2 (by decide) (by decide), h 3 (by decide) (by decide), h 4 (by decide) (by decide), h 6 (by decide) (by decide), h 7 (by decide) (by decide)]; omega
  · rw [h 0 (by decide) (by decide), h 1 (by decide) (by decide), h 2 (by decide) (by decide), h 3 (by decide) (by decide), h 4 (by decide) (by decide), h 5 (by decide) (by decide), h 7 (by decide) (by decide)]; omega
  · rw [h 0 (by decide) (by decide), h 1 (by decide) (by decide), h 2 (by decide) (by decide), h 3 (by decide) (by decide), h 4 (by decide) (by decide), h 5 (by decide) (by decide), h 6 (by decide) (by decide)]; omega
def cpc (σ : AH) (o j : Nat) : Nat := (kd σ ((gR σ (o + 2 + 2 * j) 2).getD 0)).2 / wdJ j
def us (σ : AH) (o : Nat) : Nat := sum8 (fun j => usR (msJ j) (cpc σ o j) * wdJ j)
def ct (σ : AH) (o : Nat) : Nat := sum8 (fun j => ctR (msJ j) (cpc σ o j))
theorem TsI.cp {σ : AH} {o j b c : Nat} (h : TsI σ (o + 2 + 2 * j) (wdJ j) (msJ j) b (c * wdJ j)) : cpc σ o j = c := by
  unfold cpc
  rw [h.2.2.1]
  show (kd σ b).2 / wdJ j = c
  rw [h.2.2.2.1]
  exact Nat.mul_div_cancel _ (wdJ_pos j)
/-- what is taken is counted -/
def RmO (o : Nat) (σ τ : AH) : Prop := sl τ + us σ o ≤ sl σ + us τ o ∧ nx τ + ct σ o ≤ nx σ + ct τ o
theorem RmO.rf {o : Nat} {σ : AH} : RmO o σ σ := ⟨Nat.le_refl _, Nat.le_refl _⟩
theorem RmO.trans {o : Nat} {a b c : AH} (h : RmO o a b) (g : RmO o b c) : RmO o a c := ⟨by have := h.1; have := g.1; omega, by have := h.2; have := g.2; omega⟩
theorem RmO.one {o j c c' : Nat} {σ τ : AH} (hj : j < 8) (h0 : cpc σ o j = c) (h1 : cpc τ o j = c') (h : ∀ i, i < 8 → i ≠ j → cpc τ o i = cpc σ o i) (hs : sl τ + usR (msJ j) c * wdJ j ≤ sl σ + usR (msJ j) c' * wdJ j) (hk : nx τ + ctR (msJ j) c ≤ nx σ + ctR (msJ j) c') : RmO o σ τ := by
  have a := sum8_up (f := fun i => usR (msJ i) (cpc σ o i) * wdJ i) (g := fun i => usR (msJ i) (cpc τ o i) * wdJ i) hj (fun i hi hne => by show usR _ (cpc τ o i) * _ = usR _ (cpc σ o i) * _; rw [h i hi hne])
  have b := sum8_up (f := fun i => ctR (msJ i) (cpc σ o i)) (g := fun i => ctR (msJ i) (cpc τ o i)) hj (fun i hi hne => by show ctR _ (cpc τ o i) = ctR _ (cpc σ o i); rw [h i hi hne])
  have a' : us τ o + usR (msJ j) c * wdJ j = us σ o + usR (msJ j) c' * wdJ j := by rw [← h0, ← h1]; exact a
  have b' : ct τ o + ctR (msJ j) c = ct σ o + ctR (msJ j) c' := by rw [← h0, ← h1]; exact b
  exact ⟨by omega, by omega⟩
end
