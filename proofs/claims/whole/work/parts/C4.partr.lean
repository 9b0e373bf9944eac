section
/-! the reference reads PARTS -/
def NA (L : Nat) (tp : Nat → Int32) (xs : List Int32) (b : Nat) : Prop := ∀ x, x ∈ xs → isS L tp b x = false
theorem RgS.pushNext {L b m np o x a : Nat} {tp : Nat → Int32} {P : List (Nat × Nat)} {σ : AH} (h : RgS L tp b m np o P σ) (hb : b < L) (hx : x < 40) (ha : a < 400) : ∃ s τ, F_X12_push (nI x) (nI a) σ = some s ∧ F_X12_next s = some τ ∧ RgS L tp (nxt L tp b) m np o ((x, a) :: P) τ ∧ gI τ 130 = gI σ 130 ∧ gI τ 131 = gI σ 131 ∧ Ch RRc RRf σ τ := by
  obtain ⟨h1, h2, h3, h4, h5, h6, h7, h8, h9, h10, h11⟩ := h
  have L4 := h1.2.1
  obtain ⟨s, t1, t2, t3⟩ := F_pushR (o := x) (a := a) h7 (by omega)
  have K : TkR L tp b s := by
    obtain ⟨q1, q2, q3, q4, q5⟩ := h2
    exact ⟨by rw [t3.pI (by simp) (by simp)]; exact q1, by rw [t3.pI (by simp) (by simp)]; exact q2, by rw [t3.pI (by simp) (by simp)]; exact q3, by rw [t3.pL (by simp) (by simp)]; exact q4, q5⟩
  obtain ⟨τ, u1, u2, u3⟩ := F_next1 (h1.ch t3 (by simp) (by simp)).r K
  have nb := nxt_b (tp := tp) h2.2.2.2.2
  have k : Ch [132, 133] [(124, 7), (124, 8), (124, 9), (124, 10), (124, 21)] σ τ := (t3.mono (by simp) (by simp)).trans (u3.mono (by simp) (by simp [TNf]))
  refine ⟨s, τ, t1, u1, ⟨h1.ch k (by simp) (by simp), u2, by rw [k.pI (by simp) (by simp)]; exact h3, by rw [k.pI (by simp) (by simp)]; exact h4, by rw [k.pI (by simp) (by simp)]; exact h5, by rw [k.pI (by simp) (by simp)]; exact h6, t2.ch u3 (by simp) (by simp [TNf]), by rw [List.length_cons]; omega, h9, h10, fun q hq => ?_⟩, k.rI (by simp) (by simp), k.rI (by simp) (by simp), k.mono (by simp [RRc]) (by simp [RRf])⟩
  rcases List.mem_cons.mp hq with z | z
  · rw [z]; exact ⟨hx, ha⟩
  · exact h11 q z
theorem b2_0 {b : Bool} : (b2 b = 0) ↔ b = false := by cases b <;> decide
theorem NA4 {L : Nat} {tp : Nat → Int32} {b : Nat} (h : NA L tp [42, 47, 43, 45] b) : isS L tp b 43 = false ∧ isS L tp b 45 = false ∧ isS L tp b 42 = false ∧ isS L tp b 47 = false := ⟨h 43 (by simp), h 45 (by simp), h 42 (by simp), h 47 (by simp)⟩
theorem beh57 {L b m np o : Nat} {tp : Nat → Int32} {P : List (Nat × Nat)} {x1 : Int32} {σ : AH} (h : RgS L tp b m np o P σ) (hn : NA L tp [42, 47, 43, 45] b) : F_X12_behindSum x1 σ = F_X12_behindSum_57 x1 (-1 : Int32) σ := by
  obtain ⟨n1, n2, n3, n4⟩ := NA4 hn
  unfold F_X12_behindSum
  rw [F_isSignR h.2.1, bd_some, n1, if_pos (show b2 false = 0 from rfl), F_isSignR h.2.1, bd_some, n2, if_pos (show b2 false = 0 from rfl), F_isSignR h.2.1, bd_some, n3, if_pos (show b2 false = 0 from rfl), F_isSignR h.2.1, bd_some, n4, if_pos (show b2 false = 0 from rfl)]
theorem beh_br {L b m np o br : Nat} {tp : Nat → Int32} {Q P : List (Nat × Nat)} {x1 : Int32} {σ : AH} (h : RgS L tp b m np o (Q ++ (br, 0) :: P) σ) (hQ : QI 8 11 Q) (hn : NA L tp [42, 47, 43, 45] b) (hbr : 31 ≤ br ∧ br < 40) : F_X12_behindSum x1 σ = bd (F_X12_behindBracket (nI br) σ) fun v s => some (v, s) := by
  have iq : innr (Q ++ (br, 0) :: P) = some br := by
    rw [innr_app (fun q hq => by have := hQ q hq; omega), innr_c, if_pos (show 30 ≤ br by omega)]
  have bm := h.b
  rw [beh57 h hn]
  unfold F_X12_behindSum_57
  rw [if_pos rfl, F_innerR h.2.2.2.2.2.2.1 h.2.2.2.2.2.2.2.2.2.2 (by omega), bd_some, iq, show oI (some br) = nI br from rfl, if_neg (show ¬ nI br ≤ (30 : Int32) from nI_ge (a := 30) (by omega) (by omega))]
theorem arith5 {Q : List (Nat × Nat)} (h : QI 8 11 Q) : QB 5 Q := h.b (by decide) (by decide)
theorem top_br {lv br a : Nat} {P : List (Nat × Nat)} (h : 30 ≤ br) (hl : 0 < lv) : TopLt lv ((br, a) :: P) := fun q hq => by
  cases hq
  show bnd br < lv
  rw [bnd_br h]; exact hl
/-- a bracket is closed -/
theorem brk93 {L b m np o br : Nat} {tp : Nat → Int32} {Q P : List (Nat × Nat)} {σ : AH} (h : RgS L tp b m np (o + 1) (Q ++ (br, 0) :: P) σ) (hQ : QI 8 11 Q) (hbr : br = 31 ∨ br = 34 ∨ br = 35) :
    (isS L tp b 93 = false ∧ ∃ τ, F_X12_behindBracket (nI br) σ = some (4, τ) ∧ RgX L tp b m (Q ++ (br, 0) :: P) τ ∧ Ch RRc RRf σ τ) ∨
    (isS L tp b 93 = true ∧ ∃ τ, (br = 31 → F_X12_behindBracket (nI br) σ = some (3, τ)) ∧ (br = 34 → F_X12_behindBracket (nI br) σ = F_X12_behindBracket_105 (15 : Int32) τ) ∧ (br = 35 → F_X12_behindBracket (nI br) σ = F_X12_behindBracket_105 (16 : Int32) τ) ∧ RgS L tp (nxt L tp b) (setQ Q (gI σ 130, gI σ 131, m)).2.2 np o P τ ∧ (setQ Q (gI σ 130, gI σ 131, m)).2.2 + P.length + 1 ≤ b ∧ gI τ 130 = (setQ Q (gI σ 130, gI σ 131, m)).1 ∧ gI τ 131 = (setQ Q (gI σ 130, gI σ 131, m)).2.1 ∧ Ch RRc RRf σ τ) := by
  have n32 : ¬ nI br = (32 : Int32) := by rcases hbr with z | z | z <;> rw [z] <;> decide
  have n33 : ¬ nI br = (33 : Int32) := by rcases hbr with z | z | z <;> rw [z] <;> decide
  have F0 : F_X12_behindBracket (nI br) σ = F_X12_behindBracket_31 (nI br) (0 : Int32) (93 : Int32) σ := by
    unfold F_X12_behindBracket F_X12_behindBracket_17
    rw [if_neg n32, if_neg n33, if_pos rfl]
  unfold F_X12_behindBracket_31 at F0
  rw [F_isSignR h.2.1, bd_some] at F0
  cases c : isS L tp b 93 with
  | false =>
    left
    obtain ⟨τ, t1, t2, t3⟩ := F_must0 h
    rw [c, show b2 false = (0 : Int32) from rfl, t1, bv_some, t2.2.1, if_neg (show ¬ (1 : Int32) = 0 by decide)] at F0
    exact ⟨rfl, τ, F0, t2, t3⟩
  | true =>
    right
    refine ⟨rfl, ?_⟩
    obtain ⟨s1, t1, t2, t3, t4, t5⟩ := F_must1 (v := 1) h (by decide)
    rw [c, show b2 true = (1 : Int32) from rfl, t1, bv_some, if_pos t2.2.2.1] at F0
    obtain ⟨s2, u1, u2, u3, u4, u5⟩ := t2.settle (arith5 hQ) (top_br (by rcases hbr with z | z | z <;> omega) (by decide)) (by decide)
    rw [t3, t4] at u2 u3 u4
    have u1' : F_X12_settle (5 : Int32) s1 = some s2 := u1
    obtain ⟨h1, h2, h3, h4, h5, h6, h7, h8, h9, h10, h11⟩ := u2
    rw [List.length_cons] at h8
    have sm : (setQ Q (gI σ 130, gI σ 131, m)).2.2 ≤ m + Q.length := (setQ_m Q (gI σ 130, gI σ 131, m)).2
    have hb8 := h.b.2.2
    rw [List.length_append, List.length_cons] at hb8
    have e21 : gI s2 124 21 - (1 : Int32) = nI P.length := by rw [h7.1, List.length_cons]; exact nI_back
    have e22 : gI (sI s2 124 21 (nI P.length)) 124 22 - (1 : Int32) = nI o := by rw [gI_sI_ne (by decide), h6]; exact nI_back
    rw [u1', bv_some, if_pos rfl, e21, e22] at F0
    obtain ⟨s3, hs3⟩ : ∃ s3, s3 = sI (sI s2 124 21 (nI P.length)) 124 22 (nI o) := ⟨_, rfl⟩
    rw [← hs3] at F0
    have k3 : Ch [] [(124, 21), (124, 22)] s2 s3 := by rw [hs3]; exact (Ch.sI1 (Or.inl (by simp))).trans (Ch.sI1 (Or.inl (by simp)))
    have P3 : PlR P s3 := by
      have := h7.tail
      rw [hs3]
      exact this.ch (Ch.sI1 (fs := [(124, 22)]) (cs := []) (Or.inl (by simp))) (by simp) (by simp)
    have S3 : RgS L tp (nxt L tp b) (setQ Q (gI σ 130, gI σ 131, m)).2.2 np o P s3 := by
      refine ⟨h1.ch k3 (by simp) (by simp), ?_, by rw [k3.pI (by simp) (by simp)]; exact h3, by rw [k3.pI (by simp) (by simp)]; exact h4, by rw [k3.pI (by simp) (by simp)]; exact h5, by rw [hs3]; exact gI_sI_at, P3, by omega, h9, by omega, fun q hq => h11 q (List.mem_cons_of_mem _ hq)⟩
      obtain ⟨q1, q2, q3, q4, q5⟩ := h2
      exact ⟨by rw [k3.pI (by simp) (by simp)]; exact q1, by rw [k3.pI (by simp) (by simp)]; exact q2, by rw [k3.pI (by simp) (by simp)]; exact q3, by rw [k3.pL (by simp) (by simp)]; exact q4, q5⟩
    refine ⟨s3, fun z => ?_, fun z => ?_, fun z => ?_, S3, by omega, by rw [k3.rI (by simp) (by simp)]; exact u3, by rw [k3.rI (by simp) (by simp)]; exact u4, (t5.trans u5).trans (k3.mono (by simp) (by simp [RRf]))⟩
    · rw [F0, z, if_pos (show nI 31 = (31 : Int32) from rfl)]
    · rw [F0, z, if_neg (show ¬ nI 34 = (31 : Int32) by decide), if_pos (show nI 34 = (34 : Int32) from rfl)]
    · rw [F0, z, if_neg (show ¬ nI 35 = (31 : Int32) by decide), if_neg (show ¬ nI 35 = (34 : Int32) by decide)]
/-- the comma of least and most -/
theorem brk44 {L b m np o br : Nat} {tp : Nat → Int32} {Q P : List (Nat × Nat)} {σ : AH} (h : RgS L tp b m np o (Q ++ (br, 0) :: P) σ) (hQ : QI 8 11 Q) (hbr : br = 32 ∨ br = 33) :
    (isS L tp b 44 = false ∧ ∃ τ, F_X12_behindBracket (nI br) σ = some (4, τ) ∧ RgX L tp b m (Q ++ (br, 0) :: P) τ ∧ Ch RRc RRf σ τ) ∨
    (isS L tp b 44 = true ∧ ∃ τ, F_X12_behindBracket (nI br) σ = some (1, τ) ∧ RgS L tp (nxt L tp b) (setQ Q (gI σ 130, gI σ 131, m)).2.2 np o ((br + 2, 0) :: P) τ ∧ gI τ 130 = (setQ Q (gI σ 130, gI σ 131, m)).1 ∧ gI τ 131 = (setQ Q (gI σ 130, gI σ 131, m)).2.1 ∧ Ch RRc RRf σ τ) := by
  have F0 : F_X12_behindBracket (nI br) σ = F_X12_behindBracket_31 (nI br) (1 : Int32) (44 : Int32) σ := by
    unfold F_X12_behindBracket F_X12_behindBracket_12 F_X12_behindBracket_17
    rcases hbr with z | z
    · rw [z, if_pos (show nI 32 = (32 : Int32) from rfl), if_neg (show ¬ (1 : Int32) = 0 by decide)]
    · rw [z, if_neg (show ¬ nI 33 = (32 : Int32) by decide), if_pos (show nI 33 = (33 : Int32) from rfl), if_neg (show ¬ (1 : Int32) = 0 by decide)]
  unfold F_X12_behindBracket_31 at F0
  rw [F_isSignR h.2.1, bd_some] at F0
  cases c : isS L tp b 44 with
  | false =>
    left
    obtain ⟨τ, t1, t2, t3⟩ := F_must0 h
    rw [c, show b2 false = (0 : Int32) from rfl, t1, bv_some, t2.2.1, if_neg (show ¬ (1 : Int32) = 0 by decide)] at F0
    exact ⟨rfl, τ, F0, t2, t3⟩
  | true =>
    right
    refine ⟨rfl, ?_⟩
    obtain ⟨s1, t1, t2, t3, t4, t5⟩ := F_must1 (v := 1) h (by decide)
    rw [c, show b2 true = (1 : Int32) from rfl, t1, bv_some, if_pos t2.2.2.1] at F0
    obtain ⟨s2, u1, u2, u3, u4, u5⟩ := t2.settle (arith5 hQ) (top_br (by rcases hbr with z | z <;> omega) (by decide)) (by decide)
    rw [t3, t4] at u2 u3 u4
    have u1' : F_X12_settle (5 : Int32) s1 = some s2 := u1
    obtain ⟨h1, h2, h3, h4, h5, h6, h7, h8, h9, h10, h11⟩ := u2
    rw [List.length_cons] at h8
    have e21 : gI s2 124 21 - (1 : Int32) = nI P.length := by rw [h7.1, List.length_cons]; exact nI_back
    rw [u1', bv_some, if_neg (show ¬ (1 : Int32) = 0 by decide), e21] at F0
    obtain ⟨s3, hs3⟩ : ∃ s3, s3 = sI s2 124 21 (nI P.length) := ⟨_, rfl⟩
    rw [← hs3] at F0
    have k3 : Ch [] [(124, 21)] s2 s3 := by rw [hs3]; exact Ch.sI1 (Or.inl (by simp))
    have P3 : PlR P s3 := by rw [hs3]; exact h7.tail
    have S3 : RgS L tp (nxt L tp b) (setQ Q (gI σ 130, gI σ 131, m)).2.2 np o P s3 := by
      refine ⟨h1.ch k3 (by simp) (by simp), ?_, by rw [k3.pI (by simp) (by simp)]; exact h3, by rw [k3.pI (by simp) (by simp)]; exact h4, by rw [k3.pI (by simp) (by simp)]; exact h5, by rw [k3.pI (by simp) (by simp)]; exact h6, P3, by omega, h9, h10, fun q hq => h11 q (List.mem_cons_of_mem _ hq)⟩
      obtain ⟨q1, q2, q3, q4, q5⟩ := h2
      exact ⟨by rw [k3.pI (by simp) (by simp)]; exact q1, by rw [k3.pI (by simp) (by simp)]; exact q2, by rw [k3.pI (by simp) (by simp)]; exact q3, by rw [k3.pL (by simp) (by simp)]; exact q4, q5⟩
    obtain ⟨s4, w1, w2, w3, w4, w5⟩ := S3.push (x := br + 2) (a := 0) (by omega) (by rcases hbr with z | z <;> omega) (by decide)
    have e2 : nI br + (2 : Int32) = nI (br + 2) := by rw [fa_lit 2, nI_add]
    have w1' : F_X12_push (nI (br + 2)) (0 : Int32) s3 = some s4 := w1
    rw [e2, w1', bv_some] at F0
    exact ⟨s4, F0, w2, by rw [w3, k3.rI (by simp) (by simp)]; exact u3, by rw [w4, k3.rI (by simp) (by simp)]; exact u4, ((t5.trans u5).trans (k3.mono (by simp) (by simp [RRf]))).trans w5⟩
end
