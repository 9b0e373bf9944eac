section
/-! A PLOT in a WEEK -/
def nee (row : Nat → Int32) (k : Int32) (w p st m : Nat) : Int32 := needV row k (pK row p) st m (pR row p) w
def ctS (row : Nat → Int32) (k : Int32) (w p : Nat) (R : Nat → Nat → Int32) : Nat → Bool := fun m => match m with
  | 0 => true
  | m + 1 => ctS row k w p R m && !decide (R 142 m < nee row k w p (cl (R 144 p)) m)
def tkS (row : Nat → Int32) (k : Int32) (w p : Nat) (R : Nat → Nat → Int32) : Nat → Nat → Nat → Int32 := fun m => match m with
  | 0 => R
  | m + 1 => rU (tkS row k w p R m) 142 m (tkS row k w p R m 142 m - nee row k w p (cl (R 144 p)) m)
def fnR (w p : Nat) (R : Nat → Nat → Int32) : Nat → Nat → Int32 := rU (rU (rU R 149 (3 * p + cl (R 144 p)) (nI w)) 144 p (R 144 p + 1)) 145 p 0
def toR (row : Nat → Int32) (k : Int32) (w p : Nat) (R : Nat → Nat → Int32) : Nat → Nat → Int32 := rU (rU (rU (tkS row k w p R 5) 145 p 1) 148 (3 * p + cl (R 144 p)) (nI w)) 146 p (nee row k w p (cl (R 144 p)) 5)
def gaR1 (row : Nat → Int32) (p : Nat) (R : Nat → Nat → Int32) : Nat → Nat → Int32 := rU (rU R 143 (pC row p) (R 143 (pC row p) - 1)) 146 p (R 146 p - 1)
def gaR (row : Nat → Int32) (w p : Nat) (R : Nat → Nat → Int32) : Nat → Nat → Int32 := if R 143 (pC row p) ≤ 0 then R else if gaR1 row p R 146 p = 0 then rU (fnR w p (gaR1 row p R)) 147 p 1 else gaR1 row p R
def gpS (row : Nat → Int32) (k : Int32) (w p : Nat) : Nat → (Nat → Nat → Int32) → Nat → Nat → Int32 := fun f => match f with
  | 0 => fun R => R
  | f + 1 => fun R => if (3 : Int32) ≤ R 144 p then R
    else if R 145 p = 0 then (if ctS row k w p R 5 = true then (if toR row k w p R 146 p = 0 then gpS row k w p f (fnR w p (toR row k w p R)) else gaR row w p (toR row k w p R)) else R)
    else gaR row w p R
def gpR (row : Nat → Int32) (k : Int32) (w p : Nat) (R : Nat → Nat → Int32) : Nat → Nat → Int32 := gpS row k w p 4 R
/-- the state as it can be: stages 0 .. 3, truth values -/
def RV_ (R : Nat → Nat → Int32) : Prop := ∀ p, p < 30 → isN (R 144 p) 4 ∧ (R 145 p = 0 ∨ R 145 p = 1)
theorem RV_.put {R : Nat → Nat → Int32} (h : RV_ R) {c k : Nat} {v : Int32} (h1 : c ≠ 144) (h2 : c ≠ 145) : RV_ (rU R c k v) := fun p hp => by
  rw [rU_row (fun e => h1 e.symm), rU_row (fun e => h2 e.symm)]; exact h p hp
theorem tkS_row {row : Nat → Int32} {k : Int32} {w p : Nat} {R : Nat → Nat → Int32} {c : Nat} (h : c ≠ 142) : ∀ m, tkS row k w p R m c = R c := by
  intro m
  induction m with
  | zero => rfl
  | succ m ih => unfold tkS; rw [rU_row h, ih]
theorem RV_toR {row : Nat → Int32} {k : Int32} {w p : Nat} {R : Nat → Nat → Int32} (h : RV_ R) : RV_ (toR row k w p R) := by
  unfold toR
  refine RV_.put ?_ (by decide) (by decide)
  refine RV_.put ?_ (by decide) (by decide)
  intro q hq
  rw [rU_row (by decide), tkS_row (by decide)]
  refine ⟨(h q hq).1, ?_⟩
  by_cases e : q = p
  · subst e; rw [rU_at]; exact Or.inr rfl
  · rw [rU_ne e, tkS_row (by decide)]; exact (h q hq).2
theorem RV_fnR {w p : Nat} {R : Nat → Nat → Int32} (h : RV_ R) (hp : p < 30) (h3 : cl (R 144 p) < 3) : RV_ (fnR w p R) := by
  unfold fnR
  intro q hq
  refine ⟨?_, ?_⟩
  · rw [rU_row (by decide)]
    by_cases e : q = p
    · subst e
      rw [rU_at, (h q hq).1.1, show (1 : Int32) = nI 1 from rfl, nI_add]
      exact isN_nI (by omega) (by omega)
    · rw [rU_ne e, rU_row (by decide)]; exact (h q hq).1
  · by_cases e : q = p
    · subst e; rw [rU_at]; exact Or.inl rfl
    · rw [rU_ne e, rU_row (by decide), rU_row (by decide)]; exact (h q hq).2
def GPc : List Nat := [134, 135, 136, 137, 138, 142, 143, 144, 145, 146, 147, 148, 149]
theorem KI.gp {row : Nat → Int32} {k : Int32} {σ : AH} (h : KI row k σ) {c j : Nat} {v : Int32} (h1 : 140 ≤ c) : KI row k (sI σ c j v) :=
  h.ch (Ch.sI1 (cs := [c]) (fs := []) (Or.inr (by simp))) (h.2.2.1.ch (Ch.sI1 (cs := [c]) (fs := []) (Or.inr (by simp))) (by simp; omega) (by simp; omega) (by simp; omega) (by simp)) (by simp; omega) (by simp; omega) (by simp; omega) (by simp; omega) (by simp)
theorem take_loop {row : Nat → Int32} {k : Int32} {w p g : Nat} {R : Nat → Nat → Int32} (hV : AV row) (hB : BV row) (hp : p < nP row) (hw : w < 260) (h3 : cl (R 144 p) < 3) (hR : RV_ R) : ∀ (j m : Nat) (σ : AH), m + j = 5 → KI row k σ → RO_ σ R →
    ∃ τ, F_X12_canTake_5 (j + 1 + g) (nI p) (nI w) (b2 (ctS row k w p R m)) (nI m) σ = some (b2 (ctS row k w p R 5), τ) ∧ KI row k τ ∧ Ch NDc NDf σ τ := by
  obtain ⟨p0, p1, p2⟩ := hB.p
  intro j
  induction j with
  | zero =>
    intro m σ hm hK hO
    have e : F_X12_canTake_5 (0 + 1 + g) = B_X12_canTake_5 (F_X12_canTake_5 g) := by rw [show 0 + 1 + g = g + 1 by omega]; rfl
    have : m = 5 := by omega
    subst this
    rw [e]; unfold B_X12_canTake_5
    rw [if_pos (by decide), if_pos (by unfold b2; exact b01')]
    exact ⟨σ, rfl, hK, Ch.rf _⟩
  | succ j ih =>
    intro m σ hm hK hO
    have e : F_X12_canTake_5 (j + 1 + 1 + g) = B_X12_canTake_5 (F_X12_canTake_5 (j + 1 + g)) := by rw [show j + 1 + 1 + g = (j + 1 + g) + 1 by omega]; rfl
    rw [e]; unfold B_X12_canTake_5 F_X12_canTake_52 F_X12_canTake_53
    have step : ctS row k w p R (m + 1) = (ctS row k w p R m && !decide (R 142 m < nee row k w p (cl (R 144 p)) m)) := rfl
    rw [fa_lit 5, if_neg (nI_ge (by omega) (by omega)), nI_1]
    cases hc : ctS row k w p R m with
    | false =>
      rw [if_pos (by decide)]
      have := ih (m + 1) σ (by omega) hK hO
      rw [step, hc] at this
      exact this
    | true =>
      have st := hO 144 (by decide) (by decide) p (by show p < 30; omega)
      have es := (hR p (by omega)).1.1
      have bk : pK row p < 3 := (p2 p hp).2.1.2
      have br : pR row p < 7 := (p2 p hp).2.2.1.1.2
      have br1 : 1 ≤ pR row p := (p2 p hp).2.2.1.2
      obtain ⟨τ, t1, t2, t3⟩ := F_needOf (kn := pK row p) (sg := cl (R 144 p)) (mt := m) (rm := pR row p) (w := w) hV hK bk h3 (by omega) br1 (by omega) hw
      rw [if_neg (by decide), if_pos (inB_n (by omega) (by omega)), F_kindOf hB hp hK.1, bd_some, if_pos (inB_n (by omega) (by omega)), F_roomsOf hB hp hK.1, bd_some, nI_clamp (by omega), nI_clamp (by omega), st, es, t1, bd_some, hO 142 (by decide) (by decide) m (by show m < 5; omega)]
      have hO2 : RO_ τ R := hO.ch t3 (by simp [NDc]) (by simp [NDf])
      have hn : nee row k w p (cl (R 144 p)) m = needV row k (pK row p) (cl (R 144 p)) m (pR row p) w := rfl
      obtain ⟨τ2, u1, u2, u3⟩ := ih (m + 1) τ (by omega) t2 hO2
      rw [step, hc, hn] at u1
      by_cases c : R 142 m < needV row k (pK row p) (cl (R 144 p)) m (pR row p) w
      · rw [if_pos c]
        rw [decide_eq_true c] at u1
        exact ⟨τ2, u1, u2, t3.trans u3⟩
      · rw [if_neg c]
        rw [decide_eq_false c] at u1
        exact ⟨τ2, u1, u2, t3.trans u3⟩
theorem F_finish {w p : Nat} {R : Nat → Nat → Int32} {σ : AH} (hp : p < 30) (h3 : cl (R 144 p) < 3) (hR : RV_ R) (hO : RO_ σ R) : ∃ τ, F_X12_finish (nI p) (nI w) σ = some τ ∧ RO_ τ (fnR w p R) ∧ Ch [144, 145, 149] [] σ τ ∧ ∀ row k, KI row k σ → KI row k τ := by
  unfold F_X12_finish
  have st := hO 144 (by decide) (by decide) p (by show p < 30; omega)
  have es := (hR p hp).1.1
  have q1 : inB (nI p) 30 = true := inB_n hp (by omega)
  have n1 : (nI p).toNatClampNeg = p := nI_clamp (by omega)
  have i1 : (3 : Int32) * nI p + R 144 p = nI (3 * p + cl (R 144 p)) := by rw [es]; simp only [fa_lit, nI_add, pk_mul]; rw [← es]
  have q2 : inB (nI (3 * p + cl (R 144 p))) 90 = true := inB_n (by omega) (by omega)
  have n2 : (nI (3 * p + cl (R 144 p))).toNatClampNeg = 3 * p + cl (R 144 p) := nI_clamp (by omega)
  simp only [q1, n1, st, i1, q2, n2, if_true, lt_e]
  have g1 : gI (sI σ 149 (3 * p + cl (R 144 p)) (nI w)) 144 p = R 144 p := by rw [gI_sI_row (by decide), st]
  rw [g1]
  refine ⟨_, rfl, ?_, ((Ch.sI1 (Or.inr (by simp))).trans (Ch.sI1 (Or.inr (by simp)))).trans (Ch.sI1 (Or.inr (by simp))), ?_⟩
  · exact ((hO.put 149 _ _).put 144 _ _).put 145 _ _
  · intro row k hK
    exact ((hK.gp (by decide)).gp (by decide)).gp (by decide)
theorem plot_end {row : Nat → Int32} {k : Int32} {w p f : Nat} {R : Nat → Nat → Int32} {σ : AH} (hB : BV row) (hp : p < nP row) (h3 : cl (R 144 p) < 3) (hR : RV_ R) (hK : KI row k σ) (hO : RO_ σ R) (h1 : R 145 p = 1) :
    ∃ τ, F_X12_goPlot_152 (F_X12_goPlot_2 (f + 1)) (nI p) (nI w) 0 σ = some τ ∧ RO_ τ (gaR row w p R) ∧ KI row k τ ∧ Ch GPc NDf σ τ := by
  obtain ⟨p0, p1, p2⟩ := hB.p
  have bc : pC row p < 6 := (p2 p hp).1.2
  have stop : ∀ s, F_X12_goPlot_2 (f + 1) (nI p) (nI w) 0 s = some s := fun s => by
    show B_X12_goPlot_2 (F_X12_goPlot_2 f) (nI p) (nI w) 0 s = _
    unfold B_X12_goPlot_2
    rw [if_pos rfl]
  unfold F_X12_goPlot_152
  have q1 : inB (nI p) 30 = true := inB_n (by omega) (by omega)
  have n1 : (nI p).toNatClampNeg = p := nI_clamp (by omega)
  have q2 : inB (nI (pC row p)) 6 = true := inB_n bc (by omega)
  have n2 : (nI (pC row p)).toNatClampNeg = pC row p := nI_clamp (by omega)
  have has := hO 145 (by decide) (by decide) p (by show p < 30; omega)
  have gl := hO 143 (by decide) (by decide) (pC row p) (by show pC row p < 6; omega)
  have wl := hO 146 (by decide) (by decide) p (by show p < 30; omega)
  simp only [q1, n1, has, h1, F_councilOf hB hp hK.1, bd_some, q2, n2, gl, if_true, lt_e, stop]
  rw [if_neg (by decide)]
  by_cases c : R 143 (pC row p) ≤ 0
  · rw [if_pos c]
    refine ⟨σ, rfl, ?_, hK, Ch.rf _⟩
    unfold gaR; rw [if_pos c]; exact hO
  · rw [if_neg c]
    have g1 : gI (sI σ 143 (pC row p) (R 143 (pC row p) - 1)) 146 p = R 146 p := by rw [gI_sI_row (by decide), wl]
    rw [g1]
    have hO2 : RO_ (sI (sI σ 143 (pC row p) (R 143 (pC row p) - 1)) 146 p (R 146 p - 1)) (gaR1 row p R) := (hO.put 143 _ _).put 146 _ _
    have K2 : KI row k (sI (sI σ 143 (pC row p) (R 143 (pC row p) - 1)) 146 p (R 146 p - 1)) := (hK.gp (by decide)).gp (by decide)
    have C2 : Ch GPc NDf σ (sI (sI σ 143 (pC row p) (R 143 (pC row p) - 1)) 146 p (R 146 p - 1)) := (Ch.sI1 (Or.inr (by simp [GPc]))).trans (Ch.sI1 (Or.inr (by simp [GPc])))
    have R2 : RV_ (gaR1 row p R) := (hR.put (by decide) (by decide)).put (by decide) (by decide)
    have e144 : gaR1 row p R 144 = R 144 := by unfold gaR1; rw [rU_row (by decide), rU_row (by decide)]
    have w2 := hO2 146 (by decide) (by decide) p (by show p < 30; omega)
    rw [w2]
    have eg : gaR row w p R = if gaR1 row p R 146 p = 0 then rU (fnR w p (gaR1 row p R)) 147 p 1 else gaR1 row p R := by unfold gaR; rw [if_neg c]
    rw [eg]
    by_cases c0 : gaR1 row p R 146 p = 0
    · rw [if_pos c0, if_pos c0]
      obtain ⟨τ, t1, t2, t3, t4⟩ := F_finish (w := w) (p := p) (by omega) (by rw [e144]; exact h3) R2 hO2
      rw [t1, bv_some]
      exact ⟨_, rfl, t2.put 147 _ _, (t4 _ _ K2).gp (by decide), (C2.trans (t3.mono (by simp [GPc]) (by simp))).trans (Ch.sI1 (Or.inr (by simp [GPc])))⟩
    · rw [if_neg c0, if_neg c0]
      exact ⟨_, rfl, hO2, K2, C2⟩
theorem plot_take {row : Nat → Int32} {k : Int32} {w p g : Nat} {R : Nat → Nat → Int32} {K : Int32 → Int32 → Int32 → AH → Option AH} (hV : AV row) (hB : BV row) (hp : p < nP row) (hw : w < 260) (h3 : cl (R 144 p) < 3) (hR : RV_ R) : ∀ (j m : Nat) (σ : AH), m + j = 5 → KI row k σ → RO_ σ (tkS row k w p R m) →
    ∃ τ, F_X12_goPlot_39 K (j + 1 + g) (nI p) (nI w) 0 (nI m) σ = (if toR row k w p R 146 p = 0 then bv (F_X12_finish (nI p) (nI w) τ) (fun s => F_X12_goPlot_152 K (nI p) (nI w) 1 s) else F_X12_goPlot_152 K (nI p) (nI w) 0 τ) ∧ RO_ τ (toR row k w p R) ∧ KI row k τ ∧ Ch GPc NDf σ τ := by
  obtain ⟨p0, p1, p2⟩ := hB.p
  have bk : pK row p < 3 := (p2 p hp).2.1.2
  have br : pR row p < 7 := (p2 p hp).2.2.1.1.2
  have br1 : 1 ≤ pR row p := (p2 p hp).2.2.1.2
  have q1 : inB (nI p) 30 = true := inB_n (by omega) (by omega)
  have n1 : (nI p).toNatClampNeg = p := nI_clamp (by omega)
  have es := (hR p (by omega)).1.1
  have i1 : (3 : Int32) * nI p + R 144 p = nI (3 * p + cl (R 144 p)) := by rw [es]; simp only [fa_lit, nI_add, pk_mul]; rw [← es]
  have q2 : inB (nI (3 * p + cl (R 144 p))) 90 = true := inB_n (by omega) (by omega)
  have n2 : (nI (3 * p + cl (R 144 p))).toNatClampNeg = 3 * p + cl (R 144 p) := nI_clamp (by omega)
  intro j
  induction j with
  | zero =>
    intro m σ hm hK hO
    have e : F_X12_goPlot_39 K (0 + 1 + g) = B_X12_goPlot_39 K (F_X12_goPlot_39 K g) := by rw [show 0 + 1 + g = g + 1 by omega]; rfl
    have : m = 5 := by omega
    subst this
    have st : gI σ 144 p = R 144 p := by rw [hO 144 (by decide) (by decide) p (by show p < 30; omega), tkS_row (by decide)]
    rw [e]; unfold B_X12_goPlot_39
    rw [if_pos (by decide)]
    have g1 : gI (sI σ 145 p 1) 144 p = R 144 p := by rw [gI_sI_row (by decide), st]
    simp only [q1, n1, g1, i1, q2, n2, if_true, lt_e]
    have hO1 := (hO.put 145 p 1).put 148 (3 * p + cl (R 144 p)) (nI w)
    have K1 : KI row k (sI (sI σ 145 p 1) 148 (3 * p + cl (R 144 p)) (nI w)) := (hK.gp (by decide)).gp (by decide)
    have g2 : gI (sI (sI σ 145 p 1) 148 (3 * p + cl (R 144 p)) (nI w)) 144 p = R 144 p := by rw [gI_sI_row (by decide), gI_sI_row (by decide), st]
    obtain ⟨τ, t1, t2, t3⟩ := F_needOf (kn := pK row p) (sg := cl (R 144 p)) (mt := 5) (rm := pR row p) (w := w) hV K1 bk h3 (by omega) br1 (by omega) hw
    rw [F_kindOf hB hp K1.1, bd_some, F_roomsOf hB hp K1.1, bd_some, g2]
    rw [es.symm] at t1
    have t1' : F_X12_needOf (nI (pK row p)) (R 144 p) 5 (nI (pR row p)) (nI w) (sI (sI σ 145 p 1) 148 (3 * p + cl (R 144 p)) (nI w)) = some (needV row k (pK row p) (cl (R 144 p)) 5 (pR row p) w, τ) := t1
    rw [t1', bd_some, gI_sI_at]
    have hO2 : RO_ (sI τ 146 p (nee row k w p (cl (R 144 p)) 5)) (toR row k w p R) := (hO1.ch t3 (by simp [NDc]) (by simp [NDf])).put 146 p _
    refine ⟨sI τ 146 p (nee row k w p (cl (R 144 p)) 5), ?_, hO2, t2.gp (by decide), (((Ch.sI1 (Or.inr (by simp [GPc]))).trans (Ch.sI1 (Or.inr (by simp [GPc])))).trans (t3.mono (by simp [NDc, GPc]) (by simp [NDf]))).trans (Ch.sI1 (Or.inr (by simp [GPc])))⟩
    have e146 : toR row k w p R 146 p = needV row k (pK row p) (cl (R 144 p)) 5 (pR row p) w := by unfold toR; rw [rU_at]; rfl
    rw [e146]
    rfl
  | succ j ih =>
    intro m σ hm hK hO
    have e : F_X12_goPlot_39 K (j + 1 + 1 + g) = B_X12_goPlot_39 K (F_X12_goPlot_39 K (j + 1 + g)) := by rw [show j + 1 + 1 + g = (j + 1 + g) + 1 by omega]; rfl
    have st : gI σ 144 p = R 144 p := by rw [hO 144 (by decide) (by decide) p (by show p < 30; omega), tkS_row (by decide)]
    have sm := hO 142 (by decide) (by decide) m (by show m < 5; omega)
    rw [e]; unfold B_X12_goPlot_39
    obtain ⟨τ, t1, t2, t3⟩ := F_needOf (kn := pK row p) (sg := cl (R 144 p)) (mt := m) (rm := pR row p) (w := w) hV hK bk h3 (by omega) br1 (by omega) hw
    have q5 : inB (nI m) 5 = true := inB_n (by omega) (by omega)
    have n5 : (nI m).toNatClampNeg = m := nI_clamp (by omega)
    rw [fa_lit 5, if_neg (nI_ge (by omega) (by omega)), if_pos q5, F_kindOf hB hp hK.1, bd_some, if_pos q1, F_roomsOf hB hp hK.1, bd_some, n1, st]
    rw [es.symm] at t1
    rw [t1, bd_some, if_pos q5, n5, sm, nI_1]
    have hO2 : RO_ (sI τ 142 m (tkS row k w p R m 142 m - needV row k (pK row p) (cl (R 144 p)) m (pR row p) w)) (tkS row k w p R (m + 1)) := (hO.ch t3 (by simp [NDc]) (by simp [NDf])).put 142 m _
    obtain ⟨τ2, u1, u2, u3, u4⟩ := ih (m + 1) (sI τ 142 m (tkS row k w p R m 142 m - needV row k (pK row p) (cl (R 144 p)) m (pR row p) w)) (by omega) (t2.gp (by decide)) hO2
    exact ⟨τ2, u1, u2, u3, ((t3.mono (by simp [NDc, GPc]) (by simp [NDf])).trans (Ch.sI1 (Or.inr (by simp [GPc])))).trans u4⟩
end
