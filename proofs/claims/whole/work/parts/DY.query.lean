section
/-! calls that tell nothing -/
theorem CIn.ch {m n nw L : Nat} {O : Nat → Nat} {row tp : Nat → Int32} {C : Nat → Nat → Int32} {wi : Nat → Nat} {σ τ : AH} {cs : List Nat} {fs : List (Nat × Nat)} (h : CIn m O row n C nw wi L tp σ) (hA : nA row ≤ 24) (c : Ch cs fs σ τ) (h1 : ∀ i ∈ cs, 28 ≤ i ∧ i < 166 ∧ i ≠ 68 ∧ i ≠ 69) (h2 : ∀ q ∈ fs, 28 ≤ q.1 ∧ q.1 < 166 ∧ q.1 ≠ 69 ∧ q ≠ (68, 3)) (hc : CcI row τ) : CIn m O row n C nw wi L tp τ := by
  obtain ⟨t, _, w, p, cn⟩ := h
  refine ⟨t.gf (P := fun i => 28 ≤ i ∧ i < 166) hA (c.gf2 (fun i hi => by have := h1 i hi; omega) (fun q hq => by have := h2 q hq; omega)) (fun _ _ => rfl) (fun i hi => Out1.no t.2.2 ⟨by omega, by omega⟩), hc, w.ch c ⟨fun q => by have := h1 _ q; omega, fun q => by have := h1 _ q; omega⟩ (fun q hq => by have := h2 q hq; exact ⟨this.2.2.2, this.2.2.1⟩), p.ch c ⟨fun q => by have := h1 _ q; omega, fun q => by have := h1 _ q; omega⟩ (fun q hq => by have := h2 q hq; exact ⟨fun e => by rw [e] at this; omega, by omega⟩), cn.ch c (fun q => by have := h1 _ q; omega) (fun q hq => by have := h2 q hq; exact ⟨fun e => by rw [e] at this; omega, fun e => by rw [e] at this; omega⟩)⟩
theorem RIn.ch {nw L : Nat} {row tp : Nat → Int32} {wi : Nat → Nat} {σ τ : AH} {cs : List Nat} {fs : List (Nat × Nat)} (h : RIn row nw wi L tp σ) (c : Ch cs fs σ τ) (h1 : ∀ i ∈ cs, i ≠ 124 ∧ i ≠ 125 ∧ i ≠ 128 ∧ i ≠ 152) (h2 : ∀ q ∈ fs, q ≠ (124, 6) ∧ q ≠ (124, 48) ∧ q.1 ≠ 125 ∧ q.1 ≠ 128 ∧ q.1 ≠ 152) : RIn row nw wi L tp τ := by
  obtain ⟨a, ⟨b1, b2'⟩, d⟩ := h
  exact ⟨by rw [c.rI (fun q => (h1 _ q).2.1 rfl) (fun q hq => (h2 q hq).2.2.1)]; exact a, ⟨by rw [c.pI (fun q => (h1 _ q).1 rfl) (fun q => (h2 _ q).2.1 rfl)]; exact b1, by rw [c.rI (fun q => (h1 _ q).2.2.2 rfl) (fun q hq => (h2 q hq).2.2.2.2)]; exact b2'⟩, d.ch c ⟨fun q => (h1 _ q).1 rfl, fun q => (h1 _ q).2.2.1 rfl⟩ (fun q hq => ⟨(h2 q hq).1, (h2 q hq).2.2.2.1⟩)⟩
theorem ImI.ch {O : Nat → Nat} {σ τ : AH} {cs : List Nat} {fs : List (Nat × Nat)} (h : ImI O σ) (hS : Sh σ) (c : Ch cs fs σ τ) (h1 : ∀ i ∈ cs, i < 166 ∧ i ≠ 21 ∧ i ≠ 126 ∧ i ≠ 127) (h2 : ∀ q ∈ fs, q.1 < 166 ∧ q.1 ≠ 21 ∧ q.1 ≠ 126 ∧ q.1 ≠ 127) : ImI O τ :=
  h.gf (P := fun i => i < 166 ∧ i ≠ 21 ∧ i ≠ 126 ∧ i ≠ 127) (c.gf2 h1 h2) hS.1 (fun _ _ => rfl) (fun i hi => Or.inl hi)
/-- the class's and the reference's cells that a call may use as it likes -/
def QCf (cs : List Nat) (fs : List (Nat × Nat)) : Prop := (∀ i ∈ cs, 28 ≤ i ∧ i < 124 ∧ i ≠ 68 ∧ i ≠ 69 ∧ i ≠ 82) ∧ ∀ q ∈ fs, 28 ≤ q.1 ∧ q.1 < 124 ∧ q.1 ≠ 69 ∧ q.1 ≠ 82 ∧ q ≠ (68, 3) ∧ q ≠ (68, 11) ∧ q ≠ (68, 13)
def QRf (cs : List Nat) (fs : List (Nat × Nat)) : Prop := (∀ i ∈ cs, 128 < i ∧ i < 166 ∧ i ≠ 152 ∧ i ≠ 153) ∧ ∀ q ∈ fs, 124 ≤ q.1 ∧ q.1 < 166 ∧ (q.1 = 124 ∨ 128 < q.1) ∧ q.1 ≠ 152 ∧ q.1 ≠ 153 ∧ q ≠ (124, 1) ∧ q ≠ (124, 6) ∧ q ≠ (124, 11) ∧ q ≠ (124, 48) ∧ q ≠ (124, 50) ∧ q ≠ (124, 51) ∧ q ≠ (124, 53)
theorem CcI.r {row : Nat → Int32} {σ τ : AH} {cs : List Nat} {fs : List (Nat × Nat)} (h : CcI row σ) (c : Ch cs fs σ τ) (h1 : ∀ i ∈ cs, 124 ≤ i ∧ i < 166) (h2 : ∀ q ∈ fs, 124 ≤ q.1 ∧ q.1 < 166) : CcI row τ :=
  h.k c (fun i hi => by have := h1 i hi; omega) (fun q hq => by
    have := h2 q hq
    exact ⟨by omega, fun e => by rw [e] at this; omega, fun e => by rw [e] at this; omega, fun e => by rw [e] at this; omega, fun e => by rw [e] at this; omega, fun e => by rw [e] at this; omega, by omega⟩)
theorem Inv.q {m : Nat} {O : Nat → Nat} {row : Nat → Int32} {oc : Nat → Nat → Option (Nat × Nat × Bool × Nat)} {W ns no mv n nw L : Nat} {C : Nat → Nat → Int32} {wi : Nat → Nat} {tp : Nat → Int32} {σ τ τ' : AH} {cs ds : List Nat} {fs gs : List (Nat × Nat)} (hS : Sh σ) (hR : RmI m σ) (hX : XIn σ) (hV : RwV row oc W ns no mv) (hY : StY row n C oc W) (hW : WiV row nw wi) (hC : CIn m O row n C nw wi L tp σ) (hI : RIn row nw wi L tp σ) (hM : ImI O σ) (c : Ch cs fs σ τ) (hq : QCf cs fs) (hc : CcI row τ) (d : Ch ds gs τ τ') (hr : QRf ds gs) : Inv (m + 1) τ' := by
  obtain ⟨q1, q2⟩ := hq
  obtain ⟨r1, r2⟩ := hr
  have S1 := c.sh hS
  have n68 : ∀ q ∈ fs, q ≠ (0, 10) ∧ q ≠ (0, 11) ∧ q ≠ (68, 11) ∧ q ≠ (68, 13) ∧ q.1 ≠ 82 ∧ q.1 ≠ 153 ∧ q ≠ (124, 1) ∧ q ≠ (124, 11) ∧ q ≠ (124, 50) ∧ q ≠ (124, 51) ∧ q ≠ (124, 53) := fun q hq => by
    have := q2 q hq
    exact ⟨fun e => by rw [e] at this; omega, fun e => by rw [e] at this; omega, this.2.2.2.2.2.1, this.2.2.2.2.2.2, by omega, by omega, fun e => by rw [e] at this; omega, fun e => by rw [e] at this; omega, fun e => by rw [e] at this; omega, fun e => by rw [e] at this; omega, fun e => by rw [e] at this; omega⟩
  have m68 : ∀ q ∈ gs, q ≠ (0, 10) ∧ q ≠ (0, 11) ∧ q ≠ (68, 11) ∧ q ≠ (68, 13) ∧ q.1 ≠ 82 ∧ q.1 ≠ 153 ∧ q ≠ (124, 1) ∧ q ≠ (124, 11) ∧ q ≠ (124, 50) ∧ q ≠ (124, 51) ∧ q ≠ (124, 53) := fun q hq => by
    have := r2 q hq
    exact ⟨fun e => by rw [e] at this; omega, fun e => by rw [e] at this; omega, fun e => by rw [e] at this; omega, fun e => by rw [e] at this; omega, by omega, by omega, this.2.2.2.2.2.1, this.2.2.2.2.2.2.2.1, this.2.2.2.2.2.2.2.2.2.1, this.2.2.2.2.2.2.2.2.2.2.1, this.2.2.2.2.2.2.2.2.2.2.2⟩
  refine ⟨d.sh S1, ((hR.ch c).ch d).mo (by omega), (hX.ch c (fun i hi => by have := q1 i hi; omega) n68).ch d (fun i hi => by have := r1 i hi; omega) m68, O, row, oc, W, ns, no, mv, n, C, nw, wi, L, tp, hV, hY, hW, ?_, ?_, ?_⟩
  · have h1 := hC.ch hV.n24 c (fun i hi => by have := q1 i hi; omega) (fun q hq => by have := q2 q hq; exact ⟨by omega, by omega, by omega, this.2.2.2.2.1⟩) hc
    have h2 := h1.ch hV.n24 d (fun i hi => by have := r1 i hi; omega) (fun q hq => by have := r2 q hq; exact ⟨by omega, by omega, by omega, fun e => by rw [e] at this; omega⟩) (hc.r d (fun i hi => by have := r1 i hi; omega) (fun q hq => by have := r2 q hq; omega))
    exact ⟨h2.1, h2.2.1, h2.2.2.1, h2.2.2.2.1, h2.2.2.2.2.mo (by omega)⟩
  · exact (hI.ch c (fun i hi => by have := q1 i hi; omega) (fun q hq => by have := q2 q hq; exact ⟨fun e => by rw [e] at this; omega, fun e => by rw [e] at this; omega, by omega, by omega, by omega⟩)).ch d (fun i hi => by have := r1 i hi; omega) (fun q hq => by have := r2 q hq; exact ⟨this.2.2.2.2.2.2.1, this.2.2.2.2.2.2.2.2.1, by omega, by omega, by omega⟩)
  · exact (hM.ch hS c (fun i hi => by have := q1 i hi; omega) (fun q hq => by have := q2 q hq; omega)).ch S1 d (fun i hi => by have := r1 i hi; omega) (fun q hq => by have := r2 q hq; omega)
/-! from what Tct says to the names in use -/
theorem Oww.ow {O : Nat → Nat} {σ : AH} (h : Oww O σ 1) : Ow O σ := by
  refine ⟨h.2.1.1, fun t ht => ?_, h.2.2.2⟩
  have key : ∀ j, j < 8 → t = 3 + 2 * j → ∃ b, gR σ t 2 = some b ∧ b < nx σ ∧ (b = t + 1 ∨ (166 ≤ b ∧ O b = t)) := fun j hj e => by
    obtain ⟨b, b1, b2', b3⟩ := h.2.2.1 j hj
    rw [show 1 + 2 + 2 * j = t by omega] at b1
    refine ⟨b, b1, b2', ?_⟩
    rcases b3 with z | z
    · exact Or.inl (by omega)
    · exact Or.inr ⟨z.1, by omega⟩
  unfold tbs at ht
  simp only [List.mem_cons, List.not_mem_nil, or_false] at ht
  rcases ht with e | e | e | e | e | e | e | e
  · exact key 0 (by decide) e
  · exact key 1 (by decide) e
  · exact key 2 (by decide) e
  · exact key 3 (by decide) e
  · exact key 4 (by decide) e
  · exact key 5 (by decide) e
  · exact key 6 (by decide) e
  · exact key 7 (by decide) e
theorem Tct.tbB {row : Nat → Int32} {n : Nat} {C : Nat → Nat → Int32} {σ : AH} (h : Tct row n C σ 1) (hB : BV row) : TbB row σ := by
  have b := BV_tb.mp hB
  exact ⟨Tb_of_G (h.2.1 0 (by decide)) b.1.1.1 (by decide) (by decide) (fun _ _ _ _ => rfl), Tb_of_G (h.2.1 1 (by decide)) b.2.1.1.1 (by decide) (by decide) (fun _ _ _ _ => rfl), Tb_of_G (h.2.1 2 (by decide)) b.2.2.1.1.1 (by decide) (by decide) (fun _ _ _ _ => rfl), Tb_of_G (h.2.1 3 (by decide)) b.2.2.2.1.1.1 (by decide) (by decide) (fun _ _ _ _ => rfl), Tb_of_G (h.2.1 4 (by decide)) b.2.2.2.2.1.1 (by decide) (by decide) (fun _ _ _ _ => rfl)⟩
theorem Tct.tbE {row : Nat → Int32} {n : Nat} {C : Nat → Nat → Int32} {σ : AH} (h : Tct row n C σ 1) (hE : EV row) : TbE row σ := Tb_of_G (h.2.1 5 (by decide)) hE.1.1 (by decide) (by decide) (fun _ _ _ _ => rfl)
theorem Tct.tbL {row : Nat → Int32} {n : Nat} {C : Nat → Nat → Int32} {σ : AH} (h : Tct row n C σ 1) (hL : LV row) : TbL row σ := Tb_of_G (h.2.1 6 (by decide)) hL.1.1 (by decide) (by decide) (fun _ _ _ _ => rfl)
theorem Tct.tbY {row : Nat → Int32} {n : Nat} {C : Nat → Nat → Int32} {σ : AH} (h : Tct row n C σ 1) : TbY σ n C := h.2.1 7 (by decide)
theorem Tct.tg {row : Nat → Int32} {n : Nat} {C : Nat → Nat → Int32} {σ : AH} (h : Tct row n C σ 1) (s : Tst σ 1) : TgI row σ := ⟨⟨s.1.1, by have := s.1.2; omega⟩, ⟨s.2.1.2.2.1, s.2.2.1.2.2, by have := s.1.2; omega⟩, h.2.2.1.1, h.2.2.1.2⟩
theorem CcI.rgI {row : Nat → Int32} {σ : AH} (h : CcI row σ) (t : TbB row σ) : RgI row σ := ⟨t, h.1, h.2.1, h.2.2.1, h.2.2.2.1⟩
theorem SaI_of {σ : AH} (h : Sh σ) : SaI σ := ⟨h.2.2 (80, 0, 83) (by decide +kernel), h.2.2 (80, 1, 93) (by decide +kernel), h.2.2 (80, 2, 103) (by decide +kernel)⟩
/-- caches behind a call that kept RUNS -/
theorem CcI.rg {row : Nat → Int32} {σ τ : AH} {cs : List Nat} {fs : List (Nat × Nat)} (h : CcI row σ) (r : RgI row τ) (c : Ch cs fs σ τ) (h1 : ∀ i ∈ cs, i ≠ 0 ∧ i < 68) (h2 : ∀ q ∈ fs, q.1 ≠ 0 ∧ q.1 < 68) : CcI row τ :=
  ⟨r.2.1, r.2.2.1, r.2.2.2.1, r.2.2.2.2, h.2.2.2.2.1.keep c (fun i hi => by have := h1 i hi; omega) (fun q hq => by have := h2 q hq; exact ⟨fun e => by rw [e] at this; omega, fun e => by rw [e] at this; omega, fun e => by rw [e] at this; omega, by omega⟩), h.2.2.2.2.2.k2 c (fun i hi => by have := h1 i hi; omega) (fun q hq => by have := h2 q hq; exact ⟨fun e => by rw [e] at this; omega, by omega, by omega⟩)⟩
/-- .. that asked the laws -/
theorem CcI.lw {row : Nat → Int32} {σ τ : AH} {cs : List Nat} {fs : List (Nat × Nat)} (h : CcI row σ) (r : LwI row τ) (c : Ch cs fs σ τ) (h1 : ∀ i ∈ cs, i ≠ 0 ∧ (i < 34 ∨ (114 < i ∧ i < 124))) (h2 : ∀ q ∈ fs, q.1 ≠ 0 ∧ (q.1 < 34 ∨ (114 < q.1 ∧ q.1 < 124))) : CcI row τ :=
  ⟨r, h.2.1.k2 c (fun i hi => by have := h1 i hi; omega) (fun q hq => by have := h2 q hq; exact ⟨fun e => by rw [e] at this; omega, by omega⟩), h.2.2.1.k2 c (fun i hi => by have := h1 i hi; omega) (fun q hq => by have := h2 q hq; exact ⟨fun e => by rw [e] at this; omega, by omega⟩), h.2.2.2.1.k2 c (fun i hi => by have := h1 i hi; omega) (fun q hq => by have := h2 q hq; exact ⟨fun e => by rw [e] at this; omega, by omega⟩), h.2.2.2.2.1.keep c (fun i hi => by have := h1 i hi; omega) (fun q hq => by have := h2 q hq; exact ⟨fun e => by rw [e] at this; omega, fun e => by rw [e] at this; omega, fun e => by rw [e] at this; omega, by omega⟩), h.2.2.2.2.2.k2 c (fun i hi => by have := h1 i hi; omega) (fun q hq => by have := h2 q hq; exact ⟨fun e => by rw [e] at this; omega, by omega, by omega⟩)⟩
theorem CcI.jc {row : Nat → Int32} {σ τ : AH} {cs : List Nat} {fs : List (Nat × Nat)} (h : CcI row σ) (r : JcI row τ) (c : Ch cs fs σ τ) (h1 : ∀ i ∈ cs, 112 < i ∧ i < 124) (h2 : ∀ q ∈ fs, 112 < q.1 ∧ q.1 < 124) : CcI row τ :=
  ⟨h.1.k2 c (fun i hi => by have := h1 i hi; omega) (fun q hq => by have := h2 q hq; exact ⟨by omega, fun e => by rw [e] at this; omega, by omega⟩), h.2.1.k2 c (fun i hi => by have := h1 i hi; omega) (fun q hq => by have := h2 q hq; exact ⟨fun e => by rw [e] at this; omega, by omega⟩), h.2.2.1.k2 c (fun i hi => by have := h1 i hi; omega) (fun q hq => by have := h2 q hq; exact ⟨fun e => by rw [e] at this; omega, by omega⟩), h.2.2.2.1.k2 c (fun i hi => by have := h1 i hi; omega) (fun q hq => by have := h2 q hq; exact ⟨fun e => by rw [e] at this; omega, by omega⟩), h.2.2.2.2.1.keep c (fun i hi => by have := h1 i hi; omega) (fun q hq => by have := h2 q hq; exact ⟨fun e => by rw [e] at this; omega, fun e => by rw [e] at this; omega, fun e => by rw [e] at this; omega, by omega⟩), r⟩
theorem CcI.ci {row : Nat → Int32} {n : Nat} {wi : Nat → Nat} {σ τ : AH} {cs : List Nat} {fs : List (Nat × Nat)} (h : CcI row σ) (r : CiI row n wi τ) (c : Ch cs fs σ τ) (h1 : ∀ i ∈ cs, i ≠ 0 ∧ i < 113) (h2 : ∀ q ∈ fs, q.1 ≠ 0 ∧ q.1 < 113) : CcI row τ :=
  ⟨r.1.2.1, r.1.2.2.1, r.1.2.2.2.1, r.1.2.2.2.2, r.2.1, h.2.2.2.2.2.k2 c (fun i hi => by have := h1 i hi; omega) (fun q hq => by have := h2 q hq; exact ⟨fun e => by rw [e] at this; omega, by omega, by omega⟩)⟩
end
