section
/-! the reference reads: steps of the machine -/
def QI (lo hi : Nat) (Q : List (Nat × Nat)) : Prop := ∀ q, q ∈ Q → lo ≤ q.1 ∧ q.1 ≤ hi
def VcR (h : Nat) (op ar : Nat → Int32) (i j : Nat) : Prop := ∀ t, i ≤ t → t < j → ∃ c r, op t = nI c ∧ ar t = nI r ∧ c ≤ h ∧ r ≤ 10000
def SgV (h : Nat) (op ar : Nat → Int32) (i j k : Nat) (D : Den) : Prop := SgR op ar i j k D ∧ VcR h op ar i j
theorem SgV.cg {h : Nat} {op ar op' ar' : Nat → Int32} {i j k : Nat} {D : Den} (g : SgV h op ar i j k D) (e : ∀ t, i ≤ t → t < j → op' t = op t ∧ ar' t = ar t) : SgV h op' ar' i j k D := ⟨g.1.cg e, fun t h1 h2 => by
  obtain ⟨c, r, a1, a2, a3⟩ := g.2 t h1 h2
  exact ⟨c, r, by rw [(e t h1 h2).1]; exact a1, by rw [(e t h1 h2).2]; exact a2, a3⟩⟩
theorem SgV.mo {h h' : Nat} {op ar : Nat → Int32} {i j k : Nat} {D : Den} (g : SgV h op ar i j k D) (hh : h ≤ h') : SgV h' op ar i j k D := ⟨g.1, fun t h1 h2 => by
  obtain ⟨c, r, a1, a2, a3, a4⟩ := g.2 t h1 h2
  exact ⟨c, r, a1, a2, by omega, a4⟩⟩
theorem SgV.num {h : Nat} {op ar : Nat → Int32} {i r : Nat} (ho : op i = nI 0) (ha : ar i = nI r) (hr : r ≤ 10000) : SgV h op ar i (i + 1) 1 (fun _ => some (lN r)) := ⟨SgR.num ho ha (by omega), fun t h1 h2 => by
  rw [show t = i by omega]
  exact ⟨0, r, ho, ha, Nat.zero_le _, hr⟩⟩
theorem SgV.set {h : Nat} {op ar : Nat → Int32} {i q : Nat} (ho : op i = nI (q + 1)) (ha : ar i = 0) (hq : q < 7) (hh : 16 ≤ h) : SgV h op ar i (i + 1) 1 (fun st => some (st q).toInt64) := ⟨SgR.set ho hq, fun t h1 h2 => by
  rw [show t = i by omega]
  exact ⟨q + 1, 0, ho, ha, by omega, by omega⟩⟩
theorem SgV.bin {h : Nat} {op ar : Nat → Int32} {i m j k1 k2 o : Nat} {A B : Den} (hA : SgV h op ar i m k1 A) (hB : SgV h op ar m j k2 B) (him : i ≤ m) (hmj : m ≤ j) (hk : 1 ≤ k1) (ho : op j = nI o) (h8 : 8 ≤ o ∧ o ≤ 16) (ha : ar j = 0) (hh : 16 ≤ h) : SgV h op ar i (j + 1) (k1 + k2) (bnD (nI o) A B) := ⟨SgR.bin hA.1 hB.1 him hmj hk ho h8, fun t h1 h2 => by
  rcases Nat.lt_or_ge t m with z | z
  · exact hA.2 t h1 z
  rcases Nat.lt_or_ge t j with y | y
  · exact hB.2 t z y
  rw [show t = j by omega]
  exact ⟨o, 0, ho, ha, by omega, by omega⟩⟩
theorem SgV.nt {h : Nat} {op ar : Nat → Int32} {i j k : Nat} {A : Den} (hA : SgV h op ar i j k A) (hij : i ≤ j) (ho : op j = nI 17) (ha : ar j = 0) (hh : 17 ≤ h) : SgV h op ar i (j + 1) k (ntD A) := ⟨SgR.nt hA.1 hij ho, fun t h1 h2 => by
  rcases Nat.lt_or_ge t j with y | y
  · exact hA.2 t h1 y
  rw [show t = j by omega]
  exact ⟨17, 0, ho, ha, by omega, by omega⟩⟩
theorem SgV.ao {h c : Nat} {op ar : Nat → Int32} {i a j k1 k2 : Nat} {A B D : Den} (hA : VcR h op ar i a) (hB : VcR h op ar (a + 1) j) (hj : j ≤ 400) (ho : op a = nI c) (ha : ar a = nI j) (hc : c ≤ h) (hD : SgR op ar i j (k1 + k2) D) : SgV h op ar i j (k1 + k2) D := ⟨hD, fun t h1 h2 => by
  rcases Nat.lt_or_ge t a with z | z
  · exact hA t h1 z
  by_cases y : t = a
  · rw [y]; exact ⟨c, j, ho, ha, hc, by omega⟩
  · exact hB t (by omega) h2⟩
def hx (hi : Nat) : Nat := if hi ≤ 16 then 16 else 19
theorem hx_16 {hi : Nat} : 16 ≤ hx hi := by
  unfold hx
  by_cases c : hi ≤ 16
  · rw [if_pos c]; decide
  · rw [if_neg c]; decide
theorem hx_mo {a b : Nat} (h : a ≤ b) : hx a ≤ hx b := by
  unfold hx
  by_cases c : a ≤ 16
  · rw [if_pos c]
    by_cases d : b ≤ 16
    · rw [if_pos d]; decide
    · rw [if_neg d]; decide
  · rw [if_neg c, if_neg (by omega)]; decide
def PnR (h : Nat) (Q : List (Nat × Nat)) (op ar : Nat → Int32) (m i k : Nat) (D : Den) : Prop := (∀ q, q ∈ Q → i ≤ q.2 ∨ ¬ (q.1 = 18 ∨ q.1 = 19)) ∧ i < m ∧ SgV h (setQ Q (op, ar, m)).1 (setQ Q (op, ar, m)).2.1 i (setQ Q (op, ar, m)).2.2 k D
theorem PnR.mo {h h' : Nat} {Q : List (Nat × Nat)} {op ar : Nat → Int32} {m i k : Nat} {D : Den} (g : PnR h Q op ar m i k D) (hh : h ≤ h') : PnR h' Q op ar m i k D := ⟨g.1, g.2.1, g.2.2.mo hh⟩
theorem bnd_br {o : Nat} (h : 30 ≤ o) : bnd o = 0 := by unfold bnd; rw [if_pos h]
theorem bnd_6 {o : Nat} : bnd o ≤ 6 := by
  unfold bnd
  by_cases c1 : 30 ≤ o
  · rw [if_pos c1]; omega
  rw [if_neg c1]
  by_cases c2 : o = 19
  · rw [if_pos c2]; omega
  rw [if_neg c2]
  by_cases c3 : o = 18
  · rw [if_pos c3]; omega
  rw [if_neg c3]
  by_cases c4 : o = 17
  · rw [if_pos c4]; omega
  rw [if_neg c4]
  by_cases c5 : 12 ≤ o
  · rw [if_pos c5]; omega
  rw [if_neg c5]
  by_cases c6 : 10 ≤ o
  · rw [if_pos c6]; omega
  · rw [if_neg c6]; omega
theorem QI.b {lo hi lv : Nat} {Q : List (Nat × Nat)} (h : QI lo hi Q) (hb : ∀ o : Fin 40, lo ≤ o.val → o.val ≤ hi → lv ≤ bnd o.val) (hh : hi < 40) : QB lv Q := fun q hq => by
  have := h q hq
  exact hb ⟨q.1, by omega⟩ this.1 this.2
theorem QI.mono {lo hi lo' hi' : Nat} {Q : List (Nat × Nat)} (h : QI lo hi Q) (h1 : lo' ≤ lo) (h2 : hi ≤ hi') : QI lo' hi' Q := fun q hq => by have := h q hq; omega
theorem innr_app {Q P : List (Nat × Nat)} (h : ∀ q, q ∈ Q → q.1 < 30) : innr (Q ++ P) = innr P := by
  induction Q with
  | nil => rfl
  | cons q Q ih =>
    rw [List.cons_append, innr_c, if_neg (by have := h q (List.mem_cons_self ..); omega), ih (fun x hx => h x (List.mem_cons_of_mem _ hx))]
theorem cmpd_app {Q P : List (Nat × Nat)} (h : QI 8 11 Q) : cmpd (Q ++ P) = cmpd P := by
  induction Q with
  | nil => rfl
  | cons q Q ih =>
    rw [List.cons_append, cmpd_c, if_pos (h q (List.mem_cons_self ..)), ih (fun x hx => h x (List.mem_cons_of_mem _ hx))]
theorem PV.app {Q P : List (Nat × Nat)} (h : PV (Q ++ P)) : PV Q ∧ PV P := ⟨fun q hq => h q (List.mem_append_left _ hq), fun q hq => h q (List.mem_append_right _ hq)⟩
def Rn (x1 : Int32) (T : Nat) (σ : AH) (k T' : Nat) (τ : AH) : Prop := ∀ g, F_X12_readExpression_20 (g + k) x1 (nI T) σ = F_X12_readExpression_20 g x1 (nI T') τ
theorem Rn.trans {x1 : Int32} {T T' T'' k k' : Nat} {a b c : AH} (h : Rn x1 T a k T' b) (g : Rn x1 T' b k' T'' c) : Rn x1 T a (k + k') T'' c := fun n => by
  rw [show n + (k + k') = (n + k') + k by omega, h, g]
theorem Rn.rf {x1 : Int32} {T : Nat} {a : AH} : Rn x1 T a 0 T a := fun _ => rfl
theorem fe_1 {x1 : Int32} {σ τ : AH} {v : Int32} (h0 : gI σ 124 12 = 0) (h : F_X12_readPart σ = some (v, τ)) : ∀ g, F_X12_readExpression_20 (g + 1) x1 (nI 1) σ = F_X12_readExpression_20 g x1 v τ := fun g => by
  show B_X12_readExpression_20 (F_X12_readExpression_20 g) x1 (nI 1) σ = _
  unfold B_X12_readExpression_20 F_X12_readExpression_72
  rw [if_pos h0, if_neg (show ¬ nI 1 = (4 : Int32) by decide), if_neg (show ¬ nI 1 = (0 : Int32) by decide), if_pos (show nI 1 = (1 : Int32) from rfl), h, bd_some]
theorem fe_3 {x1 : Int32} {σ τ : AH} {v : Int32} (h0 : gI σ 124 12 = 0) (h : F_X12_behindSum x1 σ = some (v, τ)) : ∀ g, F_X12_readExpression_20 (g + 1) x1 (nI 3) σ = F_X12_readExpression_20 g x1 v τ := fun g => by
  show B_X12_readExpression_20 (F_X12_readExpression_20 g) x1 (nI 3) σ = _
  unfold B_X12_readExpression_20 F_X12_readExpression_72
  rw [if_pos h0, if_neg (show ¬ nI 3 = (4 : Int32) by decide), if_neg (show ¬ nI 3 = (0 : Int32) by decide), if_neg (show ¬ nI 3 = (1 : Int32) by decide), if_pos (show nI 3 = (3 : Int32) from rfl), h, bd_some]
theorem fe_2 {x1 : Int32} {σ τ : AH} {v : Int32} (h0 : gI σ 124 12 = 0) (h : F_X12_behindTest σ = some (v, τ)) : ∀ g, F_X12_readExpression_20 (g + 1) x1 (nI 2) σ = F_X12_readExpression_20 g x1 v τ := fun g => by
  show B_X12_readExpression_20 (F_X12_readExpression_20 g) x1 (nI 2) σ = _
  unfold B_X12_readExpression_20 F_X12_readExpression_72
  rw [if_pos h0, if_neg (show ¬ nI 2 = (4 : Int32) by decide), if_neg (show ¬ nI 2 = (0 : Int32) by decide), if_neg (show ¬ nI 2 = (1 : Int32) by decide), if_neg (show ¬ nI 2 = (3 : Int32) by decide), h, bd_some]
theorem fe_0 {x1 : Int32} {σ τ : AH} {v : Int32} (h0 : gI σ 124 12 = 0) (h : F_X12_readPlain σ = some (v, τ)) : ∀ g, F_X12_readExpression_20 (g + 1) x1 (nI 0) σ = F_X12_readExpression_20 g x1 v τ := fun g => by
  show B_X12_readExpression_20 (F_X12_readExpression_20 g) x1 (nI 0) σ = _
  unfold B_X12_readExpression_20 F_X12_readExpression_72
  rw [if_pos h0, if_neg (show ¬ nI 0 = (4 : Int32) by decide), if_pos (show nI 0 = (0 : Int32) from rfl), h, bd_some]
theorem fe_x {x1 v : Int32} {σ : AH} (h : gI σ 124 12 = 1) : ∀ g, F_X12_readExpression_20 (g + 1) x1 v σ = F_X12_readExpression_76 σ := fun g => by
  show B_X12_readExpression_20 (F_X12_readExpression_20 g) x1 v σ = _
  unfold B_X12_readExpression_20
  rw [h, if_neg (show ¬ (1 : Int32) = 0 by decide)]
/-- what reading comes to, in the reference -/
def RgR (L : Nat) (tp : Nat → Int32) (p : Nat → Nat → PR) (lo hi T0 T1 : Nat) (E : Nat → Prop) (x1 : Int32) (b m np o : Nat) (P : List (Nat × Nat)) (σ : AH) : Prop :=
  (∀ b', p b np = (b', none) → ∃ τ k m' P', (∀ g, F_X12_readExpression_20 (g + k + 1) x1 (nI T0) σ = F_X12_readExpression_76 τ) ∧ RgX L tp b' m' P' τ ∧ b ≤ b' ∧ k ≤ 4 * (b' - b) + 4 ∧ Ch RRc RRf σ τ) ∧
  (∀ b' np' D, p b np = (b', some (np', D)) → ∃ τ k m' Q, Rn x1 T0 σ k T1 τ ∧ RgS L tp b' m' np' o (Q ++ P) τ ∧ QI lo hi Q ∧ E b' ∧ (b < b' ∧ np < np' ∧ k ≤ 4 * (b' - b)) ∧ (∀ t, t < m → gI τ 130 t = gI σ 130 t ∧ gI τ 131 t = gI σ 131 t) ∧ PnR (hx hi) Q (gI τ 130) (gI τ 131) m' m (np' - np) D ∧ Ch RRc RRf σ τ)
theorem RgR.fail {L : Nat} {tp : Nat → Int32} {p : Nat → Nat → PR} {lo hi T0 T1 : Nat} {E : Nat → Prop} {x1 : Int32} {b m np o b0 : Nat} {P : List (Nat × Nat)} {σ : AH} (e : p b np = (b0, none)) (h : ∃ τ k m' P', (∀ g, F_X12_readExpression_20 (g + k + 1) x1 (nI T0) σ = F_X12_readExpression_76 τ) ∧ RgX L tp b0 m' P' τ ∧ b ≤ b0 ∧ k ≤ 4 * (b0 - b) + 4 ∧ Ch RRc RRf σ τ) : RgR L tp p lo hi T0 T1 E x1 b m np o P σ :=
  ⟨fun b' e' => (by rw [e] at e'; cases e'; exact h), fun b' np' D e' => (by rw [e] at e'; cases e')⟩
theorem RgR.good {L : Nat} {tp : Nat → Int32} {p : Nat → Nat → PR} {lo hi T0 T1 : Nat} {E : Nat → Prop} {x1 : Int32} {b m np o b0 n0 : Nat} {D0 : Den} {P : List (Nat × Nat)} {σ : AH} (e : p b np = (b0, some (n0, D0))) (h : ∃ τ k m' Q, Rn x1 T0 σ k T1 τ ∧ RgS L tp b0 m' n0 o (Q ++ P) τ ∧ QI lo hi Q ∧ E b0 ∧ (b < b0 ∧ np < n0 ∧ k ≤ 4 * (b0 - b)) ∧ (∀ t, t < m → gI τ 130 t = gI σ 130 t ∧ gI τ 131 t = gI σ 131 t) ∧ PnR (hx hi) Q (gI τ 130) (gI τ 131) m' m (n0 - np) D0 ∧ Ch RRc RRf σ τ) : RgR L tp p lo hi T0 T1 E x1 b m np o P σ :=
  ⟨fun b' e' => (by rw [e] at e'; cases e'), fun b' np' D e' => (by rw [e] at e'; cases e'; exact h)⟩
theorem RgS.same {L b m np o : Nat} {tp : Nat → Int32} {P : List (Nat × Nat)} {σ τ : AH} {cs : List Nat} {fs : List (Nat × Nat)} (h : RgS L tp b m np o P σ) (c : Ch cs fs σ τ) (h1 : ∀ i ∈ cs, i = 130 ∨ i = 131) (h2 : fs = []) : RgS L tp b m np o P τ := by
  subst h2
  obtain ⟨q1, ⟨r1, r2, r3, r4, r5⟩, q3, q4, q5, q6, q7, q8⟩ := h
  have n : ∀ x, x ≠ 130 → x ≠ 131 → x ∉ cs := fun x a1 a2 z => by have := h1 x z; omega
  have e : ∀ x k, x ≠ 130 → x ≠ 131 → gI τ x k = gI σ x k := fun x k a1 a2 => c.pI (n x a1 a2) (by simp)
  exact ⟨q1.ch c ⟨n _ (by decide) (by decide), n _ (by decide) (by decide)⟩ (by simp), ⟨by rw [e _ _ (by decide) (by decide)]; exact r1, by rw [e _ _ (by decide) (by decide)]; exact r2, by rw [e _ _ (by decide) (by decide)]; exact r3, by rw [c.pL (n _ (by decide) (by decide)) (by simp)]; exact r4, r5⟩, by rw [e _ _ (by decide) (by decide)]; exact q3, by rw [e _ _ (by decide) (by decide)]; exact q4, by rw [e _ _ (by decide) (by decide)]; exact q5, by rw [e _ _ (by decide) (by decide)]; exact q6, q7.ch c ⟨n _ (by decide) (by decide), n _ (by decide) (by decide), n _ (by decide) (by decide)⟩ (by simp), q8⟩
/-- opening a bracket -/
theorem F_openR {L b m np o br : Nat} {tp : Nat → Int32} {P : List (Nat × Nat)} {σ : AH} (h : RgS L tp b m np o P σ) (hb : b < L) (hbr : br < 40) : (8 ≤ o ∧ ∃ τ, F_X12_open (nI br) σ = some τ ∧ RgX L tp b m P τ ∧ Ch RRc RRf σ τ) ∨ (o < 8 ∧ ∃ τ, F_X12_open (nI br) σ = some τ ∧ RgS L tp (nxt L tp b) m np (o + 1) ((br, 0) :: P) τ ∧ gI τ 130 = gI σ 130 ∧ gI τ 131 = gI σ 131 ∧ Ch RRc RRf σ τ) := by
  have nb := nxt_b (tp := tp) h.b.1
  have o8 := h.2.2.2.2.2.2.2.2.2.1
  have bm := h.b
  unfold F_X12_open F_X12_open_15
  rw [h.2.2.2.2.2.1]
  by_cases c : 8 ≤ o
  · left
    obtain ⟨τ, t1, t2, t3⟩ := F_must0 h
    rw [if_pos (show (8 : Int32) ≤ nI o from nI_le (a := 8) c (by omega)), t1, bv_some, t2.2.1, if_neg (show ¬ (1 : Int32) = 0 by decide)]
    exact ⟨c, τ, rfl, t2, t3⟩
  · right
    obtain ⟨τ, t1, t2, t3, t4, t5⟩ := F_must1 (v := 1) h (by decide)
    rw [if_neg (show ¬ (8 : Int32) ≤ nI o from nI_ge (b := 8) (by omega) (by decide)), t1, bv_some, if_pos t2.2.2.1, t2.2.2.2.2.2.1, nI_1]
    obtain ⟨h1, h2, h3, h4, h5, h6, h7, h8, h9, h10, h11⟩ := t2
    have k1 : Ch [] [(124, 22)] τ (sI τ 124 22 (nI (o + 1))) := Ch.sI1 (Or.inl (by simp))
    obtain ⟨s2, a1, a2, a3⟩ := F_pushR (o := br) (a := 0) (h7.ch k1 (by simp) (by simp)) (by omega)
    have a1' : F_X12_push (nI br) (0 : Int32) (sI τ 124 22 (nI (o + 1))) = some s2 := a1
    rw [a1', bv_some]
    have k2 : Ch [132, 133] [(124, 22), (124, 21)] τ s2 := (k1.mono (by simp) (by simp)).trans (a3.mono (by simp) (by simp))
    refine ⟨by omega, s2, rfl, ⟨h1.ch k2 (by simp) (by simp), ?_, by rw [k2.pI (by simp) (by simp)]; exact h3, by rw [k2.pI (by simp) (by simp)]; exact h4, by rw [k2.pI (by simp) (by simp)]; exact h5, by rw [a3.pI (by simp) (by simp)]; exact gI_sI_at, a2, by rw [List.length_cons]; omega, h9, by omega, fun q hq => ?_⟩, by rw [k2.rI (by simp) (by simp)]; exact t3, by rw [k2.rI (by simp) (by simp)]; exact t4, t5.trans (k2.mono (by simp [RRc]) (by simp [RRf]))⟩
    · obtain ⟨q1, q2, q3, q4, q5⟩ := h2
      exact ⟨by rw [k2.pI (by simp) (by simp)]; exact q1, by rw [k2.pI (by simp) (by simp)]; exact q2, by rw [k2.pI (by simp) (by simp)]; exact q3, by rw [k2.pL (by simp) (by simp)]; exact q4, q5⟩
    · rcases List.mem_cons.mp hq with z | z
      · rw [z]; exact ⟨hbr, by show 0 < 400; decide⟩
      · exact h11 q z
/-- settling keeps the rest of the state -/
theorem RgS.settle {L b m np o lv : Nat} {tp : Nat → Int32} {Q P : List (Nat × Nat)} {σ : AH} (h : RgS L tp b m np o (Q ++ P) σ) (hQ : QB lv Q) (hP : TopLt lv P) (hlv : lv ≤ 6) : ∃ τ, F_X12_settle (nI lv) σ = some τ ∧ RgS L tp b (setQ Q (gI σ 130, gI σ 131, m)).2.2 np o P τ ∧ gI τ 130 = (setQ Q (gI σ 130, gI σ 131, m)).1 ∧ gI τ 131 = (setQ Q (gI σ 130, gI σ 131, m)).2.1 ∧ Ch RRc RRf σ τ := by
  obtain ⟨h1, h2, h3, h4, h5, h6, h7, h8, h9, h10, h11⟩ := h
  obtain ⟨v1, v2⟩ := h11.app
  have L4 := h1.2.1
  have bL := h2.2.2.2.2
  obtain ⟨τ, t1, t2, t3, t4, t5, t6⟩ := F_settleR hP v2 hlv hQ v1 h7 h4 (by omega)
  have sm := setQ_m Q (gI σ 130, gI σ 131, m)
  have sm2 : (setQ Q (gI σ 130, gI σ 131, m)).2.2 ≤ m + Q.length := sm.2
  rw [List.length_append] at h8
  refine ⟨τ, t1, ⟨h1.ch t6 (by simp) (by simp), ?_, by rw [t6.pI (by simp) (by simp)]; exact h3, t3, by rw [t6.pI (by simp) (by simp)]; exact h5, by rw [t6.pI (by simp) (by simp)]; exact h6, t2, by omega, h9, h10, v2⟩, t4, t5, t6.mono (by simp [RRc]) (by simp [RRf])⟩
  obtain ⟨q1, q2, q3, q4, q5⟩ := h2
  exact ⟨by rw [t6.pI (by simp) (by simp)]; exact q1, by rw [t6.pI (by simp) (by simp)]; exact q2, by rw [t6.pI (by simp) (by simp)]; exact q3, by rw [t6.pL (by simp) (by simp)]; exact q4, q5⟩
theorem RgS.push {L b m np o x a : Nat} {tp : Nat → Int32} {P : List (Nat × Nat)} {σ : AH} (h : RgS L tp b m np o P σ) (hm : m + P.length + 1 ≤ b) (hx : x < 40) (ha : a < 400) : ∃ τ, F_X12_push (nI x) (nI a) σ = some τ ∧ RgS L tp b m np o ((x, a) :: P) τ ∧ gI τ 130 = gI σ 130 ∧ gI τ 131 = gI σ 131 ∧ Ch RRc RRf σ τ := by
  obtain ⟨h1, h2, h3, h4, h5, h6, h7, h8, h9, h10, h11⟩ := h
  have L4 := h1.2.1
  have bL := h2.2.2.2.2
  obtain ⟨τ, t1, t2, t3⟩ := F_pushR (o := x) (a := a) h7 (by omega)
  refine ⟨τ, t1, ⟨h1.ch t3 (by simp) (by simp), ?_, by rw [t3.pI (by simp) (by simp)]; exact h3, by rw [t3.pI (by simp) (by simp)]; exact h4, by rw [t3.pI (by simp) (by simp)]; exact h5, by rw [t3.pI (by simp) (by simp)]; exact h6, t2, by rw [List.length_cons]; omega, h9, h10, fun q hq => ?_⟩, t3.rI (by simp) (by simp), t3.rI (by simp) (by simp), t3.mono (by simp [RRc]) (by simp [RRf])⟩
  · obtain ⟨q1, q2, q3, q4, q5⟩ := h2
    exact ⟨by rw [t3.pI (by simp) (by simp)]; exact q1, by rw [t3.pI (by simp) (by simp)]; exact q2, by rw [t3.pI (by simp) (by simp)]; exact q3, by rw [t3.pL (by simp) (by simp)]; exact q4, q5⟩
  · rcases List.mem_cons.mp hq with z | z
    · rw [z]; exact ⟨hx, ha⟩
    · exact h11 q z
end
