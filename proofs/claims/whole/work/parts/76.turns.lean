section
/-! a WEEK of the class is a WEEK of the reference -/
theorem gp_frame {row : Nat → Int32} {k : Int32} {w p q c : Nat} (hq : q ≠ p) (hc : 144 ≤ c ∧ c ≤ 147) : ∀ (f : Nat) (R : Nat → Nat → Int32), gpS row k w p f R c q = R c q := by
  have fn : ∀ R : Nat → Nat → Int32, fnR w p R c q = R c q := fun R => by
    unfold fnR; rw [rU_ne hq, rU_ne hq, rU_row (by omega)]
  have to : ∀ R : Nat → Nat → Int32, toR row k w p R c q = R c q := fun R => by
    unfold toR; rw [rU_ne hq, rU_row (by omega), rU_ne hq, tkS_row (by omega)]
  have g1 : ∀ R : Nat → Nat → Int32, gaR1 row p R c q = R c q := fun R => by
    unfold gaR1; rw [rU_ne hq, rU_row (by omega)]
  have ga : ∀ R : Nat → Nat → Int32, gaR row w p R c q = R c q := fun R => by
    unfold gaR
    split
    · rfl
    · split
      · rw [rU_ne hq, fn, g1]
      · rw [g1]
  intro f
  induction f with
  | zero => intro R; rfl
  | succ f ih =>
    intro R
    unfold gpS
    split
    · rfl
    · split
      · split
        · split
          · rw [ih, fn, to]
          · rw [ga, to]
        · rfl
      · exact ga R
/-- the visit of a PLOT in the line -/
def svR (row : Nat → Int32) (k : Int32) (w p : Nat) (R : Nat → Nat → Int32) : Nat → Nat → Int32 := if (3 : Int32) ≤ R 144 p then R else if pL row p ≤ w then gpR row k w p R else R
theorem sv_frame {row : Nat → Int32} {k : Int32} {w p q c : Nat} {R : Nat → Nat → Int32} (hq : q ≠ p) (hc : 144 ≤ c ∧ c ≤ 147) : svR row k w p R c q = R c q := by
  unfold svR
  split
  · rfl
  · split
    · exact gp_frame hq hc 4 R
    · rfl
theorem sv_fold {row : Nat → Int32} {k : Int32} {w : Nat} : ∀ (M : List Nat) (R R0 : Nat → Nat → Int32), M.Pairwise (fun x y => x ≠ y) → (∀ x, x ∈ M → R 144 x = R0 144 x) → M.foldl (fun R p => svR row k w p R) R = gwF row k w (M.filter (fun p => decide (¬ (3 : Int32) ≤ R0 144 p ∧ pL row p ≤ w))) R := by
  intro M
  induction M with
  | nil => intro R R0 _ _; rfl
  | cons p M ih =>
    intro R R0 hn h0
    obtain ⟨n1, n2⟩ := List.pairwise_cons.mp hn
    have e := h0 p List.mem_cons_self
    have step := ih (svR row k w p R) R0 n2 (fun x hx => by rw [sv_frame (fun q => n1 x hx q.symm) (by omega)]; exact h0 x (List.mem_cons_of_mem _ hx))
    rw [List.foldl_cons, step]
    by_cases c : ¬ (3 : Int32) ≤ R0 144 p ∧ pL row p ≤ w
    · have es : svR row k w p R = gpR row k w p R := by unfold svR; rw [e, if_neg c.1, if_pos c.2]
      rw [List.filter_cons_of_pos (p := fun p => decide (¬ (3 : Int32) ≤ R0 144 p ∧ pL row p ≤ w)) (decide_eq_true c), es]; rfl
    · have es : svR row k w p R = R := by
        unfold svR
        by_cases c1 : (3 : Int32) ≤ R 144 p
        · rw [if_pos c1]
        · rw [if_neg c1, if_neg (fun q => c ⟨by rw [← e]; exact c1, q⟩)]
      rw [List.filter_cons_of_neg (p := fun p => decide (¬ (3 : Int32) ≤ R0 144 p ∧ pL row p ≤ w)) (by rw [decide_eq_false c]; decide), es]
def tnB (row : Nat → Int32) (fi : Int32) (t p : Nat) : Bool := decide (decide (nI (pK row p) = fi) = decide (t = 0))
theorem turn_loop {row : Nat → Int32} {k fi : Int32} {b w t g : Nat} {L : List Nat} {K : Nat → Int32 → Int32 → Int32 → AH → Option AH} (hV : AV row) (hW : AW row) (hB : BV row) (hb : 44 < b ∧ b + 9 < 124) (hw : w < 260) (ht : t < 2) (hL : L.length ≤ 30) (hM : ∀ x, x ∈ L → x < nP row) : ∀ (L2 L1 S : List Nat) (R : Nat → Nat → Int32) (σ : AH), L = L1 ++ L2 → (S ++ L2.filter (tnB row fi t)).Pairwise (fun x y => x ≠ y) →
    gI σ b 2 = nI L.length → (∀ i, i < L.length → gI σ (b + 2) i = nI (L.getD i 0)) → (∀ x, x < nP row → x ∉ S → R 147 x = 0) → (∀ x, x ∈ S → pL row x ≤ w → BgP b R x σ) → SvI row k b R σ →
    ∃ τ, F_X10_passWeek_130 K (L2.length + 1 + g) b (nI w) fi (nI t) (nI L1.length) σ = K b (nI w) fi (nI t + 1) τ ∧ SvI row k b ((L2.filter (tnB row fi t)).foldl (fun R p => svR row k w p R) R) τ ∧
      (∀ x, x < nP row → x ∉ S ++ L2.filter (tnB row fi t) → (L2.filter (tnB row fi t)).foldl (fun R p => svR row k w p R) R 147 x = 0) ∧ (∀ x, x ∈ S ++ L2.filter (tnB row fi t) → pL row x ≤ w → BgP b ((L2.filter (tnB row fi t)).foldl (fun R p => svR row k w p R) R) x τ) ∧
      (∀ i, gI τ (b + 7) i = gI σ (b + 7) i ∨ (gI σ (b + 7) i = -1 ∧ gI τ (b + 7) i = nI w)) ∧ Ch (SVc b) SVf σ τ := by
  obtain ⟨p0, p1, p2⟩ := hB.p
  intro L2
  induction L2 with
  | nil =>
    intro L1 S R σ hL12 hN h2 hA h147 hBg hI
    rw [List.append_nil] at hL12
    subst hL12
    refine ⟨σ, ?_, hI, fun x hx hS => h147 x hx (by simpa using hS), fun x hx => hBg x (by simpa using hx), fun i => Or.inl rfl, Ch.rf _⟩
    show F_X10_passWeek_130 K (0 + 1 + g) b (nI w) fi (nI t) (nI L.length) σ = _
    rw [show 0 + 1 + g = g + 1 by omega]
    show B_X10_passWeek_130 K (F_X10_passWeek_130 K g) b (nI w) fi (nI t) (nI L.length) σ = _
    unfold B_X10_passWeek_130
    rw [h2, if_pos (nI_le (Nat.le_refl _) (by omega))]
  | cons p L2 ih =>
    intro L1 S R σ hL12 hN h2 hA h147 hBg hI
    have hlen : L.length = L1.length + (L2.length + 1) := by rw [hL12]; simp
    have hp : p < nP row := hM p (by rw [hL12]; simp)
    have hx : gI σ (b + 2) L1.length = nI p := by
      rw [hA L1.length (by omega), hL12, List.getD_eq_getElem?_getD, List.getElem?_append_right (Nat.le_refl _)]; simp
    have hL12' : L = (L1 ++ [p]) ++ L2 := by rw [hL12]; simp
    have l1 : (L1 ++ [p]).length = L1.length + 1 := by simp
    have ek : pl row p 1 = nI (pK row p) := (p2 p hp).2.1.1
    have a1 : F_X8_at 9 (nI p) (1 : Int32) σ = _ := at_pl (j := 1) hI.2.1 hp (by decide)
    have e : F_X10_passWeek_130 K ((p :: L2).length + 1 + g) = B_X10_passWeek_130 K (F_X10_passWeek_130 K (L2.length + 1 + g)) := by
      rw [show (p :: L2).length + 1 + g = (L2.length + 1 + g) + 1 by simp; omega]; rfl
    have skip : F_X10_passWeek_130 K (L2.length + 1 + g) b (nI w) fi (nI t) (nI (L1 ++ [p]).length) = F_X10_passWeek_130 K (L2.length + 1 + g) b (nI w) fi (nI t) (nI (L1.length + 1)) := by rw [l1]
    have head : F_X10_passWeek_130 K ((p :: L2).length + 1 + g) b (nI w) fi (nI t) (nI L1.length) σ = if tnB row fi t p = true then (bd (F_X7_isDone b (nI p) σ) fun v53 σ49 => (if v53 = 0 then (bv (F_X10_serve b (nI p) (nI w) σ49) fun σ55 => F_X10_passWeek_130 K (L2.length + 1 + g) b (nI w) fi (nI t) (nI (L1 ++ [p]).length) σ55) else F_X10_passWeek_130 K (L2.length + 1 + g) b (nI w) fi (nI t) (nI (L1 ++ [p]).length) σ49)) else F_X10_passWeek_130 K (L2.length + 1 + g) b (nI w) fi (nI t) (nI (L1 ++ [p]).length) σ := by
      rw [e, l1]; unfold B_X10_passWeek_130 F_X10_passWeek_170 F_X10_passWeek_180 F_X10_passWeek_200
      rw [h2, if_neg (nI_ge (by omega) (by omega)), if_pos (inB_n (by omega) (by omega)), nI_clamp (by omega), hx, a1, bd_some, ek, nI_1]
      rcases (show t = 0 ∨ t = 1 by omega) with rfl | rfl
      · by_cases c : nI (pK row p) = fi
        · have hc : tnB row fi 0 p = true := by unfold tnB; rw [decide_eq_true c]; decide
          rw [hc, if_pos c, if_pos (show nI 0 = 0 from rfl), if_pos rfl, if_pos rfl]
        · have hc : ¬ tnB row fi 0 p = true := by unfold tnB; rw [decide_eq_false c]; decide
          rw [if_neg hc, if_neg c, if_pos (show nI 0 = 0 from rfl), if_neg (by decide)]
      · by_cases c : nI (pK row p) = fi
        · have hc : ¬ tnB row fi 1 p = true := by unfold tnB; rw [decide_eq_true c]; decide
          rw [if_neg hc, if_pos c, if_neg (show ¬ nI 1 = 0 by decide), if_neg (by decide)]
        · have hc : tnB row fi 1 p = true := by unfold tnB; rw [decide_eq_false c]; decide
          rw [hc, if_neg c, if_neg (show ¬ nI 1 = 0 by decide), if_pos rfl, if_pos rfl]
    rw [head]
    by_cases c : tnB row fi t p = true
    · rw [if_pos c, List.filter_cons_of_pos c]
      rw [List.filter_cons_of_pos c] at hN
      have hN' : ((S ++ [p]) ++ L2.filter (tnB row fi t)).Pairwise (fun x y => x ≠ y) := by simpa using hN
      have hpS : p ∉ S := fun q => (List.pairwise_append.mp hN).2.2 p q p List.mem_cons_self rfl
      have eS : (S ++ [p]) ++ L2.filter (tnB row fi t) = S ++ p :: L2.filter (tnB row fi t) := by simp
      have g5 : gI σ (b + 5) p = R 144 p := hI.2.2.1.2.2.1 p hp
      have q1 : inB (nI p) 30 = true := inB_n (by omega) (by omega)
      have n1 : (nI p).toNatClampNeg = p := nI_clamp (by omega)
      have fold : (p :: L2.filter (tnB row fi t)).foldl (fun R p => svR row k w p R) R = (L2.filter (tnB row fi t)).foldl (fun R p => svR row k w p R) (svR row k w p R) := rfl
      unfold F_X7_isDone
      rw [if_pos q1, n1, g5, fold, ← eS]
      by_cases d : R 144 p < 3
      · have nd : ¬ (3 : Int32) ≤ R 144 p := fun q => Int32.lt_irrefl (Int32.lt_of_lt_of_le d q)
        rw [if_pos d, bd_some, if_pos rfl]
        obtain ⟨τ1, t1, t2, t3, t4, t5⟩ := F_serve hV hW hB hb hp hw (h147 p hp hpS) hI
        have es : svR row k w p R = if pL row p ≤ w then gpR row k w p R else R := by unfold svR; rw [if_neg nd]
        rw [← es] at t2
        rw [t1, bv_some]
        obtain ⟨τ2, u1, u2, u3, u4, u5, u6⟩ := ih (L1 ++ [p]) (S ++ [p]) (svR row k w p R) τ1 hL12' hN' (by rw [t5.pI (by simp [SVc]; omega) (by simp [SVf])]; exact h2) (by rw [t5.rI (by simp [SVc]; omega) (by simp [SVf]; omega)]; exact hA)
          (fun x hx hS => by
            have : x ≠ p := fun q => hS (by rw [q]; simp)
            rw [sv_frame this (by omega)]; exact h147 x hx (fun q => hS (List.mem_append_left _ q)))
          (fun x hx hl => by
            rcases List.mem_append.mp hx with q | q
            · have ne : x ≠ p := fun z => hpS (z ▸ q)
              have hb' := hBg x q hl
              unfold BgP at hb' ⊢
              rw [sv_frame ne (by omega), sv_frame ne (by omega), sv_frame ne (by omega)]
              intro z1 z2
              have := hb' z1 z2
              rcases t4 (3 * x + cl (R 144 x)) with y | ⟨y0, _⟩
              · rw [y]; exact this
              · exact absurd y0 (by omega)
            · rw [List.mem_singleton.mp q] at hl ⊢
              have := t3 hl
              rw [es, if_pos hl]; exact this) t2
        refine ⟨τ2, u1, u2, u3, u4, fun i => ?_, t5.trans u6⟩
        rcases t4 i with y | ⟨_, y1, y2⟩ <;> rcases u5 i with z | ⟨z1, z2⟩
        · exact Or.inl (z.trans y)
        · exact Or.inr ⟨y.symm.trans z1, z2⟩
        · exact Or.inr ⟨y1, z.trans y2⟩
        · exact Or.inr ⟨y1, z2⟩
      · have nd : (3 : Int32) ≤ R 144 p := Int32.not_lt.mp d
        have es : svR row k w p R = R := by unfold svR; rw [if_pos nd]
        rw [if_neg d, bd_some, if_neg (by decide), es]
        obtain ⟨τ2, u1, u2, u3, u4, u5, u6⟩ := ih (L1 ++ [p]) (S ++ [p]) R σ hL12' hN' h2 hA (fun x hx hS => h147 x hx (fun q => hS (List.mem_append_left _ q)))
          (fun x hx hl => by
            rcases List.mem_append.mp hx with q | q
            · exact hBg x q hl
            · rw [List.mem_singleton.mp q]
              intro z1 _
              exfalso
              have := (hI.2.2.2.1 p (by omega)).1
              rw [this.1] at nd
              exact absurd nd (nI_ge (b := 3) z1 (by omega))) hI
        exact ⟨τ2, u1, u2, u3, u4, u5, u6⟩
    · rw [if_neg c, List.filter_cons_of_neg c]
      rw [List.filter_cons_of_neg c] at hN
      exact ih (L1 ++ [p]) S R σ hL12' hN h2 hA h147 hBg hI
end
