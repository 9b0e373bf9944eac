section
/-! caches behind a telling -/
theorem CcI.same {row row' : Nat → Int32} {σ τ : AH} (h : CcI row σ) (hV : AV row) (hB : BV row) (hE : EV row) (hl : LwI row' τ) (rb : RwB row row') (re : RwE row row') (e12 : gI τ 0 12 = gI σ 0 12) (e13 : gI τ 0 13 = gI σ 0 13) (e : ∀ i, 34 ≤ i → i < 115 → gI τ i = gI σ i) : CcI row' τ :=
  ⟨hl, YcI_cg rb hV hB (h.2.1.eq e12 (fun i h1 h2 => e i h1 (by omega))), RcI_cg rb hV hB (h.2.2.1.eq (by decide) e12 (fun i h1 h2 => e i h1 (by omega))), RcI_cg rb hV hB (h.2.2.2.1.eq (by decide) e12 (fun i h1 h2 => e i h1 (by omega))), BfI_cg rb hV hB (h.2.2.2.2.1.eq e12 (e 37 (by decide) (by decide)) (by rw [e 68 (by decide) (by decide)]) (by rw [e 68 (by decide) (by decide)]) (fun i h1 h2 => e i (by omega) (by omega))), JcI_cg re hE (h.2.2.2.2.2.eq e13 (e 113 (by decide) (by decide)) (e 114 (by decide) (by decide)))⟩
theorem le_st {x y : Int32} {m : Nat} (hy : ∃ c, c ≤ m ∧ y = nI c) (hm : m < 1000) (h : x ≤ y) : x ≤ y + 1 ∧ x ≠ y + 1 := by
  obtain ⟨c, c1, c2⟩ := hy
  rw [c2] at h ⊢
  rw [nI_1]
  have e1 : (nI c).toInt = c := nI_toInt (by omega)
  have e2 : (nI (c + 1)).toInt = (c + 1 : Nat) := nI_toInt (by omega)
  have h' := Int32.le_iff_toInt_le.mp h
  refine ⟨Int32.le_iff_toInt_le.mpr (by omega), fun e => ?_⟩
  rw [e] at h'; omega
theorem CcI.st12 {row row' : Nat → Int32} {σ τ : AH} {m : Nat} (h : CcI row σ) (hE : EV row) (hl : LwI row' τ) (re : RwE row row') (hc : CnI m σ) (hm : m < 1000) (e12 : gI τ 0 12 = gI σ 0 12 + 1) (e13 : gI τ 0 13 = gI σ 0 13) (e : ∀ i, 34 ≤ i → i < 115 → gI τ i = gI σ i) : CcI row' τ := by
  have y := le_st hc.1 hm h.2.1.1
  have a := le_st hc.1 hm h.2.2.1.1
  have b := le_st hc.1 hm h.2.2.2.1.1
  have f := le_st hc.1 hm h.2.2.2.2.1.1
  refine ⟨hl, ⟨?_, fun z => ?_⟩, ⟨?_, fun z => ?_⟩, ⟨?_, fun z => ?_⟩, ⟨?_, fun z => ?_⟩, JcI_cg re hE (h.2.2.2.2.2.eq e13 (e 113 (by decide) (by decide)) (e 114 (by decide) (by decide)))⟩
  · rw [e 34 (by decide) (by decide), e12]; exact y.1
  · rw [e 34 (by decide) (by decide), e12] at z; exact absurd z y.2
  · rw [e 44 (by decide) (by decide), e12]; exact a.1
  · rw [e 44 (by decide) (by decide), e12] at z; exact absurd z a.2
  · rw [e 56 (by decide) (by decide), e12]; exact b.1
  · rw [e 56 (by decide) (by decide), e12] at z; exact absurd z b.2
  · rw [e 68 (by decide) (by decide), e12]; exact f.1
  · rw [e 68 (by decide) (by decide), e12] at z; exact absurd z f.2
theorem CcI.st13 {row row' : Nat → Int32} {σ τ : AH} {m : Nat} (h : CcI row σ) (hV : AV row) (hB : BV row) (hl : LwI row' τ) (rb : RwB row row') (hc : CnI m σ) (hm : m < 1000) (e12 : gI τ 0 12 = gI σ 0 12) (e13 : gI τ 0 13 = gI σ 0 13 + 1) (e : ∀ i, 34 ≤ i → i < 115 → gI τ i = gI σ i) : CcI row' τ := by
  have f := le_st hc.2 hm h.2.2.2.2.2.1
  refine ⟨hl, YcI_cg rb hV hB (h.2.1.eq e12 (fun i h1 h2 => e i h1 (by omega))), RcI_cg rb hV hB (h.2.2.1.eq (by decide) e12 (fun i h1 h2 => e i h1 (by omega))), RcI_cg rb hV hB (h.2.2.2.1.eq (by decide) e12 (fun i h1 h2 => e i h1 (by omega))), BfI_cg rb hV hB (h.2.2.2.2.1.eq e12 (e 37 (by decide) (by decide)) (by rw [e 68 (by decide) (by decide)]) (by rw [e 68 (by decide) (by decide)]) (fun i h1 h2 => e i (by omega) (by omega))), ⟨?_, fun z => ?_⟩⟩
  · rw [e 113 (by decide) (by decide), e13]; exact f.1
  · rw [e 113 (by decide) (by decide), e13] at z; exact absurd z f.2
theorem RwB.rf {r : Nat → Int32} : RwB r r := ⟨fun _ _ => rfl, fun _ _ _ => rfl⟩
theorem RwE.rf {r : Nat → Int32} : RwE r r := ⟨rfl, fun _ _ _ => rfl⟩
/-- how the counters and the row go together -/
def Kk (row row' : Nat → Int32) (σ τ : AH) : Prop := (gI τ 0 12 = gI σ 0 12 ∧ gI τ 0 13 = gI σ 0 13 ∧ RwB row row' ∧ RwE row row') ∨ (gI τ 0 12 = gI σ 0 12 + 1 ∧ gI τ 0 13 = gI σ 0 13 ∧ RwE row row') ∨ (gI τ 0 12 = gI σ 0 12 ∧ gI τ 0 13 = gI σ 0 13 + 1 ∧ RwB row row')
theorem Kk.cc {row row' : Nat → Int32} {σ τ : AH} {m : Nat} (k : Kk row row' σ τ) (h : CcI row σ) (hV : AV row) (hB : BV row) (hE : EV row) (hl : LwI row' τ) (hc : CnI m σ) (hm : m < 1000) (e : ∀ i, 34 ≤ i → i < 115 → gI τ i = gI σ i) : CcI row' τ ∧ CnI (m + 1) τ := by
  obtain ⟨⟨c, c1, c2⟩, d, d1, d2⟩ := id hc
  rcases k with ⟨k1, k2, k3, k4⟩ | ⟨k1, k2, k3⟩ | ⟨k1, k2, k3⟩
  · exact ⟨h.same hV hB hE hl k3 k4 k1 k2 e, ⟨c, by omega, by rw [k1]; exact c2⟩, d, by omega, by rw [k2]; exact d2⟩
  · exact ⟨h.st12 hE hl k3 hc hm k1 k2 e, ⟨c + 1, by omega, by rw [k1, c2, nI_1]⟩, d, by omega, by rw [k2]; exact d2⟩
  · exact ⟨h.st13 hV hB hl k3 hc hm k1 k2 e, ⟨c, by omega, by rw [k1]; exact c2⟩, d + 1, by omega, by rw [k2, d2, nI_1]⟩
/-! the end of a telling -/
def QTf (cs : List Nat) (fs : List (Nat × Nat)) : Prop := (∀ i ∈ cs, 124 < i ∧ i < 166 ∧ (i = 125 ∨ 128 < i) ∧ i ≠ 152 ∧ i ≠ 153) ∧ ∀ q ∈ fs, 124 ≤ q.1 ∧ q.1 < 166 ∧ (q.1 = 124 ∨ q.1 = 125 ∨ 128 < q.1) ∧ q.1 ≠ 152 ∧ q.1 ≠ 153 ∧ q ≠ (124, 6) ∧ q ≠ (124, 11) ∧ q ≠ (124, 48) ∧ q ≠ (124, 50) ∧ q ≠ (124, 51) ∧ q ≠ (124, 53)
theorem qTD : QTf [125] TDf := ⟨by decide, by decide⟩
theorem inv_end {m n nw L : Nat} {O O' : Nat → Nat} {row row' tp : Nat → Int32} {oc' : Nat → Nat → Option (Nat × Nat × Bool × Nat)} {W' ns' no' mv' n' : Nat} {C C' : Nat → Nat → Int32} {wi : Nat → Nat} {v : Int32} {σ τ τ' : AH} {us : List Nat} {gs : List (Nat × Nat)} (hX : XIn σ) (hC : CIn m O row n C nw wi L tp σ) (hI : RIn row nw wi L tp σ) (S1 : Sh τ) (hT : ToI O' row' n' C' 1 τ) (hM : ImI O' τ) (hR : RmI (m + 1) τ) (hcc : CcI row' τ) (hcn : CnI (m + 1) τ) (e : ∀ i, 20 < i → i < 166 → (i < 115 ∨ 123 < i) → gI τ i = gI σ i) (e11 : gI τ 0 11 = gI σ 0 11) (hV' : RwV row' oc' W' ns' no' mv') (hY' : StY row' n' C' oc' W') (hW' : WiV row' nw wi) (e10 : gI τ 0 10 = v) (u2 : gI τ' 125 = row') (u3 : gI τ' 124 1 = v) (u4 : Ch us gs τ τ') (hq : QTf us gs) : Inv (m + 1) τ' := by
  have lb : LbI τ := by
    have a := hX.1
    unfold LbI BsR BsC at a ⊢
    rw [e 124 (by decide) (by decide) (by decide), e 68 (by decide) (by decide) (by decide), e 82 (by decide) (by decide) (by decide), e 153 (by decide) (by decide) (by decide)]
    exact a
  have c1 : CIn (m + 1) O' row' n' C' nw wi L tp τ := by
    obtain ⟨_, _, w, p, _⟩ := hC
    refine ⟨hT, hcc, ?_, ?_, hcn⟩
    · unfold CwI at w ⊢; rw [e 68 (by decide) (by decide) (by decide), e 69 (by decide) (by decide) (by decide)]; exact w
    · unfold TpC at p ⊢; rw [e 22 (by decide) (by decide) (by decide), e 23 (by decide) (by decide) (by decide)]; exact p
  obtain ⟨_, w, p⟩ := hI
  obtain ⟨q1, q2⟩ := hq
  have p0 : ∀ k, gI τ' 0 k = gI τ 0 k := fun k => u4.pI (fun z => by have := q1 _ z; omega) (fun z => by have : 124 ≤ 0 := (q2 _ z).1; omega)
  refine ⟨u4.sh S1, hR.ch u4, ⟨lb.ch u4 (fun i hi => by have := q1 i hi; omega) (fun q hq => by
    have := q2 q hq
    exact ⟨fun z => by rw [z] at this; omega, fun z => by rw [z] at this; omega, by omega, by omega, this.2.2.2.2.2.2.2.2.1, this.2.2.2.2.2.2.2.2.2.1, this.2.2.2.2.2.2.2.2.2.2⟩), ?_, ?_⟩, O', row', oc', W', ns', no', mv', n', C', nw, wi, L, tp, hV', hY', hW', c1.ch hV'.n24 u4 (fun i hi => by have := q1 i hi; omega) (fun q hq => by have := q2 q hq; exact ⟨by omega, by omega, by omega, fun z => by rw [z] at this; omega⟩) (hcc.r u4 (fun i hi => by have := q1 i hi; omega) (fun q hq => by have := q2 q hq; omega)), ⟨u2, ?_, ?_⟩, hM.ch S1 u4 (fun i hi => by have := q1 i hi; omega) (fun q hq => by have := q2 q hq; omega)⟩
  · rw [u3, p0, e10]
  · rw [u4.pI (fun z => by have := q1 _ z; omega) (fun z => (q2 _ z).2.2.2.2.2.2.1 rfl), p0, e 124 (by decide) (by decide) (by decide), e11]; exact hX.2.2
  · unfold WsI at w ⊢
    rw [u4.pI (fun z => by have := q1 _ z; omega) (fun z => (q2 _ z).2.2.2.2.2.2.2.1 rfl), u4.rI (i := 152) (fun z => by have := q1 _ z; omega) (fun q hq => (q2 q hq).2.2.2.1), e 124 (by decide) (by decide) (by decide), e 152 (by decide) (by decide) (by decide)]; exact w
  · have p1 : TpR L tp τ := by unfold TpR at p ⊢; rw [e 124 (by decide) (by decide) (by decide), e 128 (by decide) (by decide) (by decide)]; exact p
    exact p1.ch u4 ⟨fun z => by have := q1 _ z; omega, fun z => by have := q1 _ z; omega⟩ (fun q hq => ⟨(q2 q hq).2.2.2.2.2.1, by have := q2 q hq; omega⟩)
theorem tell_end {m n nw L : Nat} {O : Nat → Nat} {row row' tp : Nat → Int32} {oc' : Nat → Nat → Option (Nat × Nat × Bool × Nat)} {W' ns' no' mv' n' jt b0 : Nat} {C C' : Nat → Nat → Int32} {wi : Nat → Nat} {v : Int32} {σ τ τ' : AH} {ds us : List Nat} {fs gs : List (Nat × Nat)} (hR : RmI m σ) (hX : XIn σ) (hV : AV row) (hC : CIn m O row n C nw wi L tp σ) (hI : RIn row nw wi L tp σ) (F : TlF O row n C jt b0 ds fs σ τ) (hjt : jt < 8) (hds : ∀ i ∈ ds, 114 < i ∧ i < 124) (h11 : (0, 11) ∉ fs) (hO : ∀ j, j < 8 → j ≠ jt → nJ row' n' j = nJ row n j ∧ ∀ s k, s < nJ row n j → k < wdJ j → CJ row' C' j s k = CJ row C j s k) (hT : TbG τ (3 + 2 * jt) (wdJ jt) (msJ jt) (nJ row' n' jt) (CJ row' C' jt)) (hg : ∀ i, 24592 ≤ i → i < 29512 → row' i = row i) (hi : gI τ 1 12 = row' 10 ∧ gI τ 1 13 = row' 11 ∧ gI τ 1 14 = row' 8 ∧ gI τ 1 15 = row' 12) (hV' : RwV row' oc' W' ns' no' mv') (hY' : StY row' n' C' oc' W') (hW' : WiV row' nw wi) (hcc : CcI row' τ) (hcn : CnI (m + 1) τ) (e10 : gI τ 0 10 = v) (u2 : gI τ' 125 = row') (u3 : gI τ' 124 1 = v) (u4 : Ch us gs τ τ') (hq : QTf us gs) : Inv (m + 1) τ' := by
  obtain ⟨⟨f1, f2, f3, f4, f5⟩, f6, f7, f8, f9, ⟨f10, f11⟩, f12⟩ := F
  refine inv_end hX hC hI f1 ⟨f2, ⟨⟨hcc.1.1.1, hcc.1.1.2, fun a b ha hb => ?_⟩, fun j hj => ?_, ⟨fun i hi => ?_, fun i hi => ?_⟩, hi⟩, f3⟩ f4 (f5 m hR) hcc hcn (fun i h1 h2 h3 => f7 i (by omega) h2 (fun z => by have := hds i z; omega)) (f8 11 h11) hV' hY' hW' e10 u2 u3 u4 hq
  · have hb' : gR σ 2 a = some b := by rw [← f10]; exact hb
    rw [f11 b (hC.1.2.2.2.2.2 a b ha hb').2.1]
    exact hC.1.2.1.1.2.2 a b ha hb'
  · by_cases z : j = jt
    · rw [z, show 1 + 2 + 2 * jt = 3 + 2 * jt by omega]; exact hT
    · obtain ⟨o1, o2⟩ := hO j hj z
      rw [show 1 + 2 + 2 * j = 3 + 2 * j by omega, o1]
      exact (f6 j hj z).congr o2
  · show gI τ 19 i = _
    rw [f7 19 (by decide) (by decide) (fun z => by have := hds _ z; omega), hg _ (by omega) (by omega)]
    exact hC.1.2.1.2.2.1.1 i hi
  · show gI τ 20 i = _
    rw [f7 20 (by decide) (by decide) (fun z => by have := hds _ z; omega)]
    unfold stW
    rw [hg _ (by omega) (by omega), hg _ (by omega) (by omega)]
    exact hC.1.2.1.2.2.1.2 i hi
end
