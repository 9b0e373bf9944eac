section
/-! the reference reads an expression -/
def RgQ (L : Nat) (tp : Nat → Int32) (b m np : Nat) (σ : AH) : Prop := TpG L tp σ ∧ TkR L tp b σ ∧ gI σ 124 12 = 0 ∧ gI σ 124 15 = nI m ∧ gI σ 124 18 = nI np ∧ m ≤ b ∧ np ≤ 60
def RgB (L : Nat) (tp : Nat → Int32) (b : Nat) (σ : AH) : Prop := TpR L tp σ ∧ gI σ 124 12 = 1 ∧ gI σ 124 11 = nI b ∧ b ≤ L
theorem RgQ.start {L b m np : Nat} {tp : Nat → Int32} {σ : AH} (h : RgQ L tp b m np σ) : RgS L tp b m np 0 [] (sI (sI σ 124 21 0) 124 22 0) := by
  obtain ⟨h1, ⟨q1, q2, q3, q4, q5⟩, h3, h4, h5, h6, h7⟩ := h
  have k : Ch [] [(124, 21), (124, 22)] σ (sI (sI σ 124 21 0) 124 22 0) := (Ch.sI1 (Or.inl (by simp))).trans (Ch.sI1 (Or.inl (by simp)))
  exact ⟨h1.ch k (by simp) (by simp), ⟨by rw [k.pI (by simp) (by simp)]; exact q1, by rw [k.pI (by simp) (by simp)]; exact q2, by rw [k.pI (by simp) (by simp)]; exact q3, by rw [k.pL (by simp) (by simp)]; exact q4, q5⟩, by rw [k.pI (by simp) (by simp)]; exact h3, by rw [k.pI (by simp) (by simp)]; exact h4, by rw [k.pI (by simp) (by simp)]; exact h5, gI_sI_at, ⟨by rw [gI_sI_ne (by decide)]; exact gI_sI_at, fun i hi => absurd hi (Nat.not_lt_zero i)⟩, h6, h7, by decide, (fun q hq => by cases hq)⟩
theorem RgS.q {L b m np o : Nat} {tp : Nat → Int32} {P : List (Nat × Nat)} {σ : AH} (h : RgS L tp b m np o P σ) : RgQ L tp b m np σ := by
  have := h.b
  exact ⟨h.1, h.2.1, h.2.2.1, h.2.2.2.1, h.2.2.2.2.1, by omega, h.2.2.2.2.2.2.2.2.1⟩
theorem pile_split : ∀ P : List (Nat × Nat), ∃ Q R, P = Q ++ R ∧ QB 1 Q ∧ TopLt 1 R := by
  intro P
  induction P with
  | nil => exact ⟨[], [], rfl, (fun q hq => by cases hq), (fun q hq => by cases hq)⟩
  | cons x P ih =>
    by_cases c : 1 ≤ bnd x.1
    · obtain ⟨Q, R, e, h1, h2⟩ := ih
      refine ⟨x :: Q, R, by rw [e]; rfl, fun q hq => ?_, h2⟩
      rcases List.mem_cons.mp hq with z | z
      · rw [z]; exact c
      · exact h1 q z
    · exact ⟨[], x :: P, rfl, (fun q hq => by cases hq), (fun q hq => by cases hq; omega)⟩
theorem RgX.done {L b m : Nat} {tp : Nat → Int32} {P : List (Nat × Nat)} {σ : AH} (h : RgX L tp b m P σ) : ∃ τ, F_X12_readExpression_76 σ = some τ ∧ RgB L tp b τ ∧ Ch RRc RRf σ τ := by
  obtain ⟨h1, h2, h3, h4, h5, h6, h7, h8⟩ := h
  obtain ⟨Q, R, e, q1, q2⟩ := pile_split P
  rw [e] at h5 h6 h7
  obtain ⟨v1, v2⟩ := h7.app
  obtain ⟨τ, t1, t2, t3, t4, t5, t6⟩ := F_settleR q2 v2 (by decide) q1 v1 h5 h4 h6
  have t1' : F_X12_settle (1 : Int32) σ = some τ := t1
  unfold F_X12_readExpression_76
  rw [t1', bv_some]
  exact ⟨τ, rfl, ⟨h1.ch t6 (by simp) (by simp), by rw [t6.pI (by simp) (by simp)]; exact h2, by rw [t6.pI (by simp) (by simp)]; exact h3, h8⟩, t6.mono (by simp [RRc]) (by simp [RRf])⟩
theorem fe_4 {x1 : Int32} {σ : AH} (h0 : gI σ 124 12 = 0) : ∀ g, F_X12_readExpression_20 (g + 1) x1 (4 : Int32) σ = F_X12_readExpression_76 σ := fun g => by
  show B_X12_readExpression_20 (F_X12_readExpression_20 g) x1 (4 : Int32) σ = _
  unfold B_X12_readExpression_20
  rw [if_pos h0, if_pos rfl]
/-- an expression as a whole -/
theorem expr_end {L b m np lo hi T0 T1 : Nat} {tp : Nat → Int32} {p : Nat → Nat → PR} {E : Nat → Prop} {x1 : Int32} {σ : AH} (h : RgQ L tp b m np σ) (hF : F_X12_readExpression x1 σ = F_X12_readExpression_20 BIG x1 (nI T0) (sI (sI σ 124 21 0) 124 22 0)) (hlo : 8 ≤ lo ∧ hi ≤ 19) (hr : RgR L tp p lo hi T0 T1 E x1 b m np 0 [] (sI (sI σ 124 21 0) 124 22 0))
    (hend : ∀ b m np Q τ, RgS L tp b m np 0 Q τ → QI lo hi Q → E b → ∀ g, F_X12_readExpression_20 (g + 1) x1 (nI T1) τ = F_X12_readExpression_20 g x1 (4 : Int32) τ) :
    (∀ b', p b np = (b', none) → ∃ τ, F_X12_readExpression x1 σ = some τ ∧ RgB L tp b' τ ∧ Ch RRc RRf σ τ) ∧
    (∀ b' np' D, p b np = (b', some (np', D)) → ∃ τ m', F_X12_readExpression x1 σ = some τ ∧ RgQ L tp b' m' np' τ ∧ (b < b' ∧ m < m' ∧ np < np') ∧ (∀ t, t < m → gI τ 130 t = gI σ 130 t ∧ gI τ 131 t = gI σ 131 t) ∧ SgV (hx hi) (gI τ 130) (gI τ 131) m m' (np' - np) D ∧ Ch RRc RRf σ τ) := by
  obtain ⟨r1, r2⟩ := hr
  have k0 : Ch RRc RRf σ (sI (sI σ 124 21 0) 124 22 0) := (Ch.sI1 (Or.inl (by simp [RRf]))).trans (Ch.sI1 (Or.inl (by simp [RRf])))
  have L4 := h.1.2.1
  have bL := h.2.1.2.2.2.2
  refine ⟨fun b' e' => ?_, fun b' np' D e' => ?_⟩
  · obtain ⟨τ, k, m', P', u1, u2, u3, u4, u5⟩ := r1 b' e'
    have b'L := u2.2.2.2.2.2.2.2
    obtain ⟨g, hg⟩ := BIGe k (by omega)
    obtain ⟨ρ, t1, t2, t3⟩ := u2.done
    refine ⟨ρ, ?_, t2, (k0.trans u5).trans t3⟩
    rw [hF, hg, show k + 1 + g = g + k + 1 by omega, u1, t1]
  · obtain ⟨τ, k, m', Q, u1, u2, u3, u4, u5, u6, u7, u8⟩ := r2 b' np' D e'
    have bm := u2.b
    obtain ⟨g, hg⟩ := BIGe (k + 1) (by omega)
    rw [List.append_nil] at u2
    obtain ⟨ρ, a1, A1, a2, a3, a4⟩ := RgS.settle (P := []) (lv := 1) (by rw [List.append_nil]; exact u2) (u3.b (fun o h1 h2 => by
      have all : ∀ o : Fin 40, 8 ≤ o.val → o.val ≤ 19 → 1 ≤ bnd o.val := by decide
      exact all o (by omega) (by omega)) (by omega)) (fun q hq => by cases hq) (by decide)
    have a1' : F_X12_settle (1 : Int32) τ = some ρ := a1
    have mm : m' ≤ (setQ Q (gI τ 130, gI τ 131, m')).2.2 := (setQ_m Q (gI τ 130, gI τ 131, m')).1
    have u72 := u7.2.1
    have sl := setQ_lo (i := m) Q (gI τ 130, gI τ 131, m') (by show m ≤ m'; omega) u7.1
    refine ⟨ρ, _, ?_, A1.q, ⟨u5.1, by omega, u5.2.1⟩, fun t ht => ?_, by rw [a2, a3]; exact u7.2.2, (k0.trans u8).trans a4⟩
    · rw [hF, hg, show k + 1 + 1 + g = (g + 1 + 1) + k by omega, u1, hend b' m' np' Q τ u2 u3 u4, fe_4 u2.2.2.1]
      unfold F_X12_readExpression_76
      rw [a1', bv_some]
    · rw [a2, a3]
      have y := u6 t ht
      have e1 : gI (sI (sI σ 124 21 0) 124 22 0) 130 t = gI σ 130 t := by rw [gI_sI_row (by decide), gI_sI_row (by decide)]
      have e2 : gI (sI (sI σ 124 21 0) 124 22 0) 131 t = gI σ 131 t := by rw [gI_sI_row (by decide), gI_sI_row (by decide)]
      exact ⟨(sl t ht).1.trans (y.1.trans e1), (sl t ht).2.trans (y.2.trans e2)⟩
theorem F_sumR {L b m np : Nat} {tp : Nat → Int32} {σ : AH} (h : RgQ L tp b m np σ) :
    (∀ b', prSm L tp 8 b np = (b', none) → ∃ τ, F_X12_readExpression (0 : Int32) σ = some τ ∧ RgB L tp b' τ ∧ Ch RRc RRf σ τ) ∧
    (∀ b' np' D, prSm L tp 8 b np = (b', some (np', D)) → ∃ τ m', F_X12_readExpression (0 : Int32) σ = some τ ∧ RgQ L tp b' m' np' τ ∧ (b < b' ∧ m < m' ∧ np < np') ∧ (∀ t, t < m → gI τ 130 t = gI σ 130 t ∧ gI τ 131 t = gI σ 131 t) ∧ SgV 16 (gI τ 130) (gI τ 131) m m' (np' - np) D ∧ Ch RRc RRf σ τ) := by
  refine expr_end (T0 := 1) (hi := 11) h ?_ (by decide) (Rg_sum 8 (by decide) 0 b m np [] _ h.start (fun q hq => by cases hq) trivial) (fun b m np Q τ hq hQ hE => fe_3 hq.2.2.1 ?_)
  · unfold F_X12_readExpression F_X12_readExpression_19
    rw [if_pos rfl]; rfl
  · have bm := hq.b
    have iq : innr Q = none := by
      have := innr_app (Q := Q) (P := []) (fun q hq => by have := hQ q hq; omega)
      rw [List.append_nil] at this
      exact this
    rw [beh57 hq hE]
    unfold F_X12_behindSum_57
    rw [if_pos rfl, F_innerR hq.2.2.2.2.2.2.1 hq.2.2.2.2.2.2.2.2.2.2 (by omega), bd_some, iq, show oI none = (-1 : Int32) from rfl, if_pos (show (-1 : Int32) ≤ 30 by decide), if_pos rfl, if_pos rfl]
theorem F_testR {L b m np : Nat} {tp : Nat → Int32} {σ : AH} (h : RgQ L tp b m np σ) :
    (∀ b', prTs L tp 8 b np = (b', none) → ∃ τ, F_X12_readExpression (1 : Int32) σ = some τ ∧ RgB L tp b' τ ∧ Ch RRc RRf σ τ) ∧
    (∀ b' np' D, prTs L tp 8 b np = (b', some (np', D)) → ∃ τ m', F_X12_readExpression (1 : Int32) σ = some τ ∧ RgQ L tp b' m' np' τ ∧ (b < b' ∧ m < m' ∧ np < np') ∧ (∀ t, t < m → gI τ 130 t = gI σ 130 t ∧ gI τ 131 t = gI σ 131 t) ∧ SgV 19 (gI τ 130) (gI τ 131) m m' (np' - np) D ∧ Ch RRc RRf σ τ) := by
  refine expr_end (T0 := 0) (hi := 19) h ?_ (by decide) (Rg_test 8 (by decide) 1 b m np [] _ h.start (fun q hq => by cases hq) (Or.inr ⟨rfl, by decide⟩)) (fun b m np Q τ hq hQ hE => fe_2 hq.2.2.1 ?_)
  · unfold F_X12_readExpression F_X12_readExpression_19
    rw [if_neg (show ¬ (1 : Int32) = 0 by decide)]; rfl
  · have bm := hq.b
    have iq : innr Q = none := by
      have := innr_app (Q := Q) (P := []) (fun q hq => by have := hQ q hq; omega)
      rw [List.append_nil] at this
      exact this
    unfold F_X12_behindTest
    rw [wordAnd hq.2.1, bd_some, hE.1, hpF, wordOr hq.2.1, bd_some, hE.2, hpF, F_innerR hq.2.2.2.2.2.2.1 hq.2.2.2.2.2.2.2.2.2.2 (by omega), bd_some, iq, show oI none = (-1 : Int32) from rfl, if_pos rfl]
end
