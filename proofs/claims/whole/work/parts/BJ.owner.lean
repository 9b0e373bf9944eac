section
/-! whose array is it: of a table (its own number), of ACTS (2) -/
def tbs : List Nat := [3, 5, 7, 9, 11, 13, 15, 17]
theorem tbs_f {t : Nat} (h : t ∈ tbs) : 3 ≤ t ∧ t < 18 ∧ t % 2 = 1 := by
  unfold tbs at h
  simp at h
  rcases h with h | h | h | h | h | h | h | h <;> subst h <;> decide
def Ow (O : Nat → Nat) (σ : AH) : Prop := 166 ≤ nx σ ∧ (∀ t, t ∈ tbs → ∃ b, gR σ t 2 = some b ∧ b < nx σ ∧ (b = t + 1 ∨ (166 ≤ b ∧ O b = t))) ∧ ∀ a b, a < 24 → gR σ 2 a = some b → 166 ≤ b ∧ b < nx σ ∧ O b = 2 ∧ ∀ j h, gR σ b j = some h → 166 ≤ h ∧ h < nx σ ∧ O h = 2
def OwU (O : Nat → Nat) (n t : Nat) : Nat → Nat := fun i => if n ≤ i then t else O i
theorem OwU_lo {O : Nat → Nat} {n t i : Nat} (h : i < n) : OwU O n t i = O i := by unfold OwU; rw [if_neg (by omega)]
theorem OwU_hi {O : Nat → Nat} {n t i : Nat} (h : n ≤ i) : OwU O n t i = t := by unfold OwU; rw [if_pos h]
theorem Ow.x {O : Nat → Nat} {σ τ : AH} {t : Nat} {cs : List Nat} {fs : List (Nat × Nat)} (h : Ow O σ) (ht : t ∈ tbs) (c : ChX t cs fs σ τ) : Ow (OwU O (nx σ) t) τ := by
  obtain ⟨h0, h1, h2⟩ := h
  obtain ⟨c1, c2, c3, c4, c5, _⟩ := c
  have tf := tbs_f ht
  refine ⟨by omega, fun s hs => ?_, fun a b ha hb => ?_⟩
  · have sf := tbs_f hs
    obtain ⟨b, b1, b2', b3⟩ := h1 s hs
    by_cases e : s = t
    · subst e
      rcases c4 with z | ⟨b', z1, z2, z3⟩
      · refine ⟨b, by rw [z]; exact b1, by omega, ?_⟩
        rw [OwU_lo b2']; exact b3
      · exact ⟨b', z1, z3, Or.inr ⟨by omega, OwU_hi z2⟩⟩
    · refine ⟨b, by rw [c3 s 2 (by omega) (fun z => e z.1)]; exact b1, by omega, ?_⟩
      rw [OwU_lo b2']; exact b3
  · rw [c3 2 a (by omega) (fun z => by omega)] at hb
    obtain ⟨a1, a2, a3, a4⟩ := h2 a b ha hb
    refine ⟨a1, by omega, by rw [OwU_lo a2]; exact a3, fun j x hx => ?_⟩
    rw [c3 b j a2 (fun z => by omega)] at hx
    obtain ⟨x1, x2, x3⟩ := a4 j x hx
    exact ⟨x1, by omega, by rw [OwU_lo x2]; exact x3⟩
/-- the array of another table -/
theorem Ow.ne {O : Nat → Nat} {σ : AH} {t t' b b0 : Nat} (h : Ow O σ) (ht : t ∈ tbs) (ht' : t' ∈ tbs) (hne : t ≠ t') (hb : gR σ t 2 = some b) (hb0 : gR σ t' 2 = some b0) : b ≠ b0 ∧ t ≠ b0 ∧ t + 1 ≠ b0 := by
  have tf := tbs_f ht
  have tf' := tbs_f ht'
  obtain ⟨x, x1, _, x3⟩ := h.2.1 t ht
  obtain ⟨y, y1, _, y3⟩ := h.2.1 t' ht'
  rw [hb] at x1; cases x1
  rw [hb0] at y1; cases y1
  refine ⟨fun z => ?_, by omega, by omega⟩
  subst z
  rcases x3 with x3 | x3
  · omega
  · rcases y3 with y3 | y3
    · omega
    · have := x3.2; have := y3.2; omega
theorem TbG.x {O : Nat → Nat} {σ τ : AH} {t t' wd mst n b0 : Nat} {C : Nat → Nat → Int32} {cs : List Nat} {fs : List (Nat × Nat)} (h : TbG σ t wd mst n C) (hO : Ow O σ) (ht : t ∈ tbs) (ht' : t' ∈ tbs) (hne : t ≠ t') (hb0 : gR σ t' 2 = some b0) (c : ChX t' (b0 :: cs) fs σ τ) (h1 : ∀ i ∈ cs, i < 166 ∧ i ≠ t ∧ i ≠ t + 1) (h2 : ∀ q ∈ fs, q.1 < 166 ∧ q.1 ≠ t ∧ q.1 ≠ t + 1) : TbG τ t wd mst n C := by
  obtain ⟨⟨a1, a2⟩, ⟨b1, b2', b3, b4⟩, b, L, d1, ⟨d2, d3⟩, d4, d5, d6⟩ := h
  obtain ⟨n1, n2, n3⟩ := hO.ne ht ht' hne d1 hb0
  obtain ⟨c1, c2, c3, c4, c5, _⟩ := c
  have rt : gI τ t = gI σ t := funext fun k => (c5 t a2 (fun z => by
    rcases List.mem_cons.mp z with z | z
    · exact n2 z
    · exact (h1 t z).2.1 rfl) k (fun z => (h2 _ z).2.1 rfl)).1
  have rb : gI τ b = gI σ b := funext fun k => (c5 b d3 (fun z => by
    rcases List.mem_cons.mp z with z | z
    · exact n1 z
    · have := h1 b z; omega) k (fun z => by have := h2 _ z; simp at this; omega)).1
  refine ⟨⟨by rw [c2 t a2]; exact a1, by omega⟩, ⟨by rw [rt]; exact b1, by rw [rt]; exact b2', by rw [rt]; exact b3, b4⟩, b, L, by rw [c3 t 2 a2 (fun z => hne z.1)]; exact d1, ⟨by rw [c2 b d3]; exact d2, by omega⟩, d4, d5, by rw [rb]; exact d6⟩
theorem Tb.x {row : Nat → Int32} {O : Nat → Nat} {σ τ : AH} {t t' nb B wd mst b0 : Nat} {cs : List Nat} {fs : List (Nat × Nat)} (h : Tb row σ t nb B wd mst) (hO : Ow O σ) (ht : t ∈ tbs) (ht' : t' ∈ tbs) (hne : t ≠ t') (hb0 : gR σ t' 2 = some b0) (c : ChX t' (b0 :: cs) fs σ τ) (h1 : ∀ i ∈ cs, i < 166 ∧ i ≠ t ∧ i ≠ t + 1) (h2 : ∀ q ∈ fs, q.1 < 166 ∧ q.1 ≠ t ∧ q.1 ≠ t + 1) : Tb row τ t nb B wd mst := by
  obtain ⟨⟨a1, a2⟩, ⟨b1, b2', b3, b4⟩, b, L, d1, ⟨d2, d3⟩, d4, d5, d6⟩ := h
  obtain ⟨n1, n2, n3⟩ := hO.ne ht ht' hne d1 hb0
  obtain ⟨c1, c2, c3, c4, c5, _⟩ := c
  have rt : gI τ t = gI σ t := funext fun k => (c5 t a2 (fun z => by
    rcases List.mem_cons.mp z with z | z
    · exact n2 z
    · exact (h1 t z).2.1 rfl) k (fun z => (h2 _ z).2.1 rfl)).1
  have rb : gI τ b = gI σ b := funext fun k => (c5 b d3 (fun z => by
    rcases List.mem_cons.mp z with z | z
    · exact n1 z
    · have := h1 b z; omega) k (fun z => by have := h2 _ z; simp at this; omega)).1
  refine ⟨⟨by rw [c2 t a2]; exact a1, by omega⟩, ⟨by rw [rt]; exact b1, by rw [rt]; exact b2', by rw [rt]; exact b3, b4⟩, b, L, by rw [c3 t 2 a2 (fun z => hne z.1)]; exact d1, ⟨by rw [c2 b d3]; exact d2, by omega⟩, d4, d5, by rw [rb]; exact d6⟩
/-- small cells under a table's growing -/
theorem ChX.lo {t : Nat} {cs : List Nat} {fs : List (Nat × Nat)} {σ τ : AH} (c : ChX t cs fs σ τ) (hx : 166 ≤ nx σ) {i : Nat} (hi : i < 166) (h1 : i ∉ cs) (h2 : ∀ q ∈ fs, q.1 ≠ i) : gI τ i = gI σ i := funext fun k => (c.2.2.2.2.1 i (by omega) h1 k (fun z => h2 _ z rfl)).1
theorem ChX.pt {t : Nat} {cs : List Nat} {fs : List (Nat × Nat)} {σ τ : AH} (c : ChX t cs fs σ τ) (hx : 166 ≤ nx σ) {i k : Nat} (hi : i < 166) (h1 : i ∉ cs) (h2 : (i, k) ∉ fs) : gI τ i k = gI σ i k := (c.2.2.2.2.1 i (by omega) h1 k h2).1
theorem ActsC.x {row : Nat → Int32} {O : Nat → Nat} {σ τ : AH} {t' b0 : Nat} {cs : List Nat} {fs : List (Nat × Nat)} (h : ActsC row σ) (hV : AV row) (hO : Ow O σ) (ht' : t' ∈ tbs) (hb0 : gR σ t' 2 = some b0) (c : ChX t' (b0 :: cs) fs σ τ) (h1 : ∀ i ∈ cs, i < 166 ∧ i ≠ 1) (h2 : ∀ q ∈ fs, q.1 < 166 ∧ q ≠ (1, 1)) : ActsC row τ := by
  have n24 := hV.2.1
  have tf' := tbs_f ht'
  obtain ⟨o0, o1, o2⟩ := id hO
  obtain ⟨y, y1, y2, y3⟩ := o1 t' ht'
  rw [hb0] at y1; cases y1
  obtain ⟨c1, c2, c3, c4, c5, _⟩ := id c
  have big : ∀ x, 166 ≤ x → x < nx σ → O x = 2 → gI τ x = gI σ x := fun x hx hx2 ho => funext fun k => (c5 x hx2 (fun z => by
    rcases List.mem_cons.mp z with z | z
    · subst z
      rcases y3 with y3 | y3
      · omega
      · have := y3.2; omega
    · have := h1 x z; omega) k (fun z => by have := (h2 _ z).1; simp at this; omega)).1
  refine ⟨?_, fun a ha => ?_⟩
  · have := (c5 1 (by omega) (fun z => by
      rcases List.mem_cons.mp z with z | z
      · rcases y3 with y3 | y3 <;> omega
      · exact (h1 1 z).2 rfl) 1 (fun z => (h2 _ z).2 rfl)).1
    rw [this]; exact h.1
  · obtain ⟨b, b1, ⟨k1, k2, k3⟩, ⟨g0, g1, g2⟩, hh, s, g, d, L, ⟨a1, a2, a3, a4⟩, ⟨s1, s2, s3, s4⟩, ⟨e1, e2, e3, e4⟩, ⟨d1, d2, d3, d4⟩, hL, hcl⟩ := h.2 a ha
    obtain ⟨w1, w2, w3, w4⟩ := o2 a b (by omega) b1
    have rb := big b w1 w2 w3
    have rh := big hh a4 a3 (w4 3 hh a1).2.2
    have rs := big s s4 s3 (w4 4 s s1).2.2
    have rg_ := big g e4 e3 (w4 5 g e1).2.2
    have rd := big d d4 d3 (w4 6 d d1).2.2
    have rR : ∀ j, gR τ b j = gR σ b j := fun j => c3 b j w2 (fun z => by omega)
    refine ⟨b, by rw [c3 2 a (by omega) (fun z => by omega)]; exact b1, ⟨by rw [c2 b k2]; exact k1, by omega, k3⟩, ⟨by rw [rb]; exact g0, by rw [rb]; exact g1, by rw [rb]; exact g2⟩, hh, s, g, d, L, ⟨by rw [rR]; exact a1, by rw [c2 hh a3]; exact a2, by omega, a4⟩, ⟨by rw [rR]; exact s1, by rw [c2 s s3]; exact s2, by omega, s4⟩, ⟨by rw [rR]; exact e1, by rw [c2 g e3]; exact e2, by omega, e4⟩, ⟨by rw [rR]; exact d1, by rw [c2 d d3]; exact d2, by omega, d4⟩, hL, fun q hq => ?_⟩
    rw [rh, rs, rg_, rd]; exact hcl q hq
theorem LwI.x {row : Nat → Int32} {O : Nat → Nat} {σ τ : AH} {t' b0 : Nat} {cs : List Nat} {fs : List (Nat × Nat)} (h : LwI row σ) (hV : AV row) (hO : Ow O σ) (ht' : t' ∈ tbs) (hb0 : gR σ t' 2 = some b0) (c : ChX t' (b0 :: cs) fs σ τ) (h1 : ∀ i ∈ cs, 32 ≤ i ∧ i < 166) (h2 : ∀ q ∈ fs, q.1 < 166 ∧ q ≠ (1, 1) ∧ q.1 ≠ 28 ∧ q.1 ≠ 29 ∧ q.1 ≠ 30 ∧ q.1 ≠ 31) : LwI row τ := by
  have tf' := tbs_f ht'
  obtain ⟨y, y1, y2, y3⟩ := hO.2.1 t' ht'
  rw [hb0] at y1; cases y1
  have sm : ∀ i, i = 28 ∨ i = 29 ∨ i = 30 ∨ i = 31 → gI τ i = gI σ i := fun i hi => c.lo hO.1 (by omega) (fun z => by
    rcases List.mem_cons.mp z with z | z
    · rcases y3 with y3 | y3 <;> omega
    · have := h1 i z; omega) (fun q hq z => by have := h2 q hq; omega)
  obtain ⟨l1, l2, l3⟩ := h
  refine ⟨l1.x hV hO ht' hb0 c (fun i hi => by have := h1 i hi; omega) (fun q hq => ⟨(h2 q hq).1, (h2 q hq).2.1⟩), ?_, ?_⟩
  · unfold CS at l2 ⊢; rw [sm 28 (by omega), sm 31 (by omega)]; exact l2
  · unfold ChnOK at l3 ⊢; rw [sm 29 (by omega), sm 30 (by omega)]; exact l3
/-! what reads small cells alone -/
theorem YcI.eq {row : Nat → Int32} {σ τ : AH} (h : YcI row σ) (e0 : gI τ 0 12 = gI σ 0 12) (e : ∀ i, 34 ≤ i → i ≤ 67 → gI τ i = gI σ i) : YcI row τ := by
  unfold YcI YdI YS at h ⊢
  rw [e0, e 34 (by decide) (by decide), e 35 (by decide) (by decide), e 36 (by decide) (by decide), e 38 (by decide) (by decide), e 39 (by decide) (by decide), e 40 (by decide) (by decide), e 41 (by decide) (by decide), e 42 (by decide) (by decide), e 43 (by decide) (by decide)]
  exact h
theorem SiI.eq {row : Nat → Int32} {k : Int32} {s : Nat → Option Nat} {b w : Nat} {R : Nat → Nat → Int32} {σ τ : AH} (h : SiI row k s b w R σ) (e37 : gI τ 37 = gI σ 37) (e : ∀ j, j ≤ 9 → gI τ (b + j) = gI σ (b + j)) : SiI row k s b w R τ := by
  have eb : gI τ b = gI σ b := e 0 (by decide)
  unfold SiI StR BgI LiP LiL LiU at h ⊢
  rw [e37, eb, e 1 (by decide), e 2 (by decide), e 3 (by decide), e 4 (by decide), e 5 (by decide), e 6 (by decide), e 7 (by decide), e 8 (by decide), e 9 (by decide)]
  exact h
theorem RcI.eq {row : Nat → Int32} {a : Nat} {σ τ : AH} (h : RcI row a σ) (ha : 34 ≤ a ∧ a + 11 ≤ 67) (e0 : gI τ 0 12 = gI σ 0 12) (e : ∀ i, 34 ≤ i → i ≤ 67 → gI τ i = gI σ i) : RcI row a τ := by
  refine ⟨by rw [e a (by omega) (by omega), e0]; exact h.1, fun h1 l' h2 h3 => ?_⟩
  rw [e a (by omega) (by omega)] at h1 h3 ⊢
  rw [e0] at h1
  obtain ⟨r1, r2, r3⟩ := h.2 h1 l' h2 h3
  refine ⟨r1.eq (e 37 (by decide) (by decide)) (fun j hj => e _ (by omega) (by omega)), ?_, ?_⟩
  · rw [e (a + 11) (by omega) (by omega)]; exact r2
  · unfold HbI at r3 ⊢
    rw [e (a + 1 + 7) (by omega) (by omega)]; exact r3
theorem BfI.eq {row : Nat → Int32} {σ τ : AH} (h : BfI row σ) (e0 : gI τ 0 12 = gI σ 0 12) (e37 : gI τ 37 = gI σ 37) (e6 : gI τ 68 6 = gI σ 68 6) (e7 : gI τ 68 7 = gI σ 68 7) (e : ∀ i, 70 ≤ i → i ≤ 79 → gI τ i = gI σ i) : BfI row τ := by
  refine ⟨by rw [e7, e0]; exact h.1, fun h1 q hq h2 => ?_⟩
  rw [e0, e7] at h1
  rw [e6] at h2
  exact (h.2 h1 q hq h2).eq e37 (fun j hj => e _ (by omega) (by omega))
theorem JcI.eq {row : Nat → Int32} {σ τ : AH} (h : JcI row σ) (e0 : gI τ 0 13 = gI σ 0 13) (e1 : gI τ 113 = gI σ 113) (e2 : gI τ 114 = gI σ 114) : JcI row τ := by
  unfold JcI at h ⊢
  rw [e0, e1, e2]; exact h
/-- RUNS, when a table of ENTRIES, LODGERS or stays grows -/
theorem RgI.x {row : Nat → Int32} {O : Nat → Nat} {σ τ : AH} {t' b0 : Nat} {cs : List Nat} {fs : List (Nat × Nat)} (h : RgI row σ) (hV : AV row) (hO : Ow O σ) (ht : t' = 13 ∨ t' = 15 ∨ t' = 17) (hb0 : gR σ t' 2 = some b0) (c : ChX t' (b0 :: cs) fs σ τ) (h1 : ∀ i ∈ cs, 68 ≤ i ∧ i < 166) (h2 : ∀ q ∈ fs, q.1 < 166 ∧ q ≠ (1, 1) ∧ q ≠ (0, 12) ∧ (q.1 = 0 ∨ q.1 = 1 ∨ q.1 = t' ∨ 68 ≤ q.1)) : RgI row τ := by
  have ht' : t' ∈ tbs := by unfold tbs; rcases ht with z | z | z <;> simp [z]
  obtain ⟨y, y1, y2, y3⟩ := hO.2.1 t' ht'
  rw [hb0] at y1; cases y1
  have sm : ∀ i, 19 ≤ i → i ≤ 67 → gI τ i = gI σ i := fun i h3 h4 => c.lo hO.1 (by omega) (fun z => by
    rcases List.mem_cons.mp z with z | z
    · rcases y3 with y3 | y3 <;> omega
    · have := h1 i z; omega) (fun q hq z => by have := h2 q hq; omega)
  have e0 : gI τ 0 12 = gI σ 0 12 := c.pt hO.1 (by decide) (fun z => by
    rcases List.mem_cons.mp z with z | z
    · rcases y3 with y3 | y3 <;> omega
    · have := h1 0 z; omega) (fun z => (h2 _ z).2.2.1 rfl)
  obtain ⟨⟨t1, t2, t3, t4, t5⟩, l, y, ra, rb⟩ := h
  have q1 : ∀ t, t ≤ 11 → ∀ i ∈ cs, i < 166 ∧ i ≠ t ∧ i ≠ t + 1 := fun t htt i hi => by have := h1 i hi; omega
  have q2 : ∀ t, 3 ≤ t → t ≤ 11 → ∀ q ∈ fs, q.1 < 166 ∧ q.1 ≠ t ∧ q.1 ≠ t + 1 := fun t h3 htt q hq => by have := h2 q hq; omega
  refine ⟨⟨t1.x hO (by simp [tbs]) ht' (by omega) hb0 c (q1 3 (by decide)) (q2 3 (by decide) (by decide)), t2.x hO (by simp [tbs]) ht' (by omega) hb0 c (q1 5 (by decide)) (q2 5 (by decide) (by decide)), t3.x hO (by simp [tbs]) ht' (by omega) hb0 c (q1 7 (by decide)) (q2 7 (by decide) (by decide)), t4.x hO (by simp [tbs]) ht' (by omega) hb0 c (q1 9 (by decide)) (q2 9 (by decide) (by decide)), t5.x hO (by simp [tbs]) ht' (by omega) hb0 c (q1 11 (by decide)) (q2 11 (by decide) (by decide))⟩, l.x hV hO ht' hb0 c (fun i hi => by have := h1 i hi; omega) (fun q hq => by have := h2 q hq; exact ⟨this.1, this.2.1, by omega, by omega, by omega, by omega⟩), y.eq e0 (fun i h3 h4 => sm i (by omega) h4), ra.eq (by decide) e0 (fun i h3 h4 => sm i (by omega) h4), rb.eq (by decide) e0 (fun i h3 h4 => sm i (by omega) h4)⟩
theorem ChX.step {t b0 b1 : Nat} {cs : List Nat} {fs : List (Nat × Nat)} {s0 s1 s2 : AH} (h : ChX t (b0 :: cs) fs s0 s1) (hb0 : gR s0 t 2 = some b0) (hb1 : gR s1 t 2 = some b1) (g : ChX t (b1 :: cs) fs s1 s2) : ChX t (b0 :: cs) fs s0 s2 := by
  obtain ⟨h1, h2, h3, h4, h5, h6⟩ := h
  obtain ⟨g1, g2, g3, g4, g5, g6⟩ := g
  refine ⟨by omega, fun i hi => by rw [g2 i (by omega), h2 i hi], fun o k ho hk => by rw [g3 o k (by omega) hk, h3 o k ho hk], ?_, fun i hi hc k hk => ?_, h6.trans g6⟩
  · rcases g4 with z | ⟨y, y1, y2, y3⟩
    · rcases h4 with x | ⟨y, y1, y2, y3⟩
      · exact Or.inl (by rw [z, x])
      · exact Or.inr ⟨y, by rw [z]; exact y1, y2, by omega⟩
    · exact Or.inr ⟨y, y1, by omega, y3⟩
  · have ib : i ≠ b1 := fun z => by
      rcases h4 with q | ⟨b', q1, q2, q3⟩
      · rw [hb1, hb0] at q; cases q; exact hc (by simp [z])
      · rw [hb1] at q1; cases q1; omega
    have p := g5 i (by omega) (fun z => by
      rcases List.mem_cons.mp z with z | z
      · exact ib z
      · exact hc (List.mem_cons_of_mem _ z)) k hk
    have q := h5 i hi hc k hk
    exact ⟨by rw [p.1, q.1], by rw [p.2, q.2]⟩
end
