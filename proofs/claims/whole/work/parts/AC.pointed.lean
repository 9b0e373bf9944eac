section
theorem ins_gen2 {α : Type} {cell off p g lim : Nat} {M : Nat → Prop} {ah : Nat → Bool} {G : Nat → Nat → AH → α} {E : Nat → AH → α} {P : AH → Prop}
    (h0 : ∀ f σ, P σ → G (f + 1) 0 σ = E 0 σ)
    (hstop : ∀ f k σ x, P σ → k + 1 ≤ lim → gI σ cell (off + k) = nI x → M x → ah x = false → G (f + 1) (k + 1) σ = E (k + 1) σ)
    (hgo : ∀ f k σ x, P σ → k + 1 ≤ lim → gI σ cell (off + k) = nI x → M x → ah x = true → G (f + 1) (k + 1) σ = G f k (sI σ cell (off + k + 1) (nI x)))
    (hP : ∀ σ j v, off ≤ j → j ≤ off + lim → P σ → P (sI σ cell j v)) :
    ∀ (r s : List Nat) (σ : AH), P σ → r.length + s.length ≤ lim → (∀ x, x ∈ r → M x) → LRv (gI σ cell) off r → (∀ j, j < s.length → gI σ cell (off + r.length + s.length - j) = nI (s.getD j 0)) →
      ∃ k' σ', G (r.length + 1 + g) r.length σ = E k' σ' ∧ k' ≤ r.length ∧ P σ' ∧ LRv (va_up (gI σ' cell) (off + k') (nI p)) off (s ++ insR ah p r) ∧ Ch [cell] [] σ σ' := by
  intro r
  induction r with
  | nil =>
    intro s σ hPs hl hN hA hS
    refine ⟨0, σ, ?_, Nat.le_refl _, hPs, ?_, Ch.rf _⟩
    · show G (0 + 1 + g) 0 σ = _
      rw [show 0 + 1 + g = g + 1 by omega]; exact h0 g σ hPs
    · intro i hi
      have hlen : (s ++ insR ah p []).length = s.length + 1 := by simp [insR]
      rw [hlen] at hi ⊢
      by_cases e : i = 0
      · subst e
        rw [up_same]
        show nI p = nI ((s ++ [p]).getD (s.length + 1 - 1 - 0) 0)
        have : s.length + 1 - 1 - 0 = s.length := by omega
        rw [this]; simp [List.getD]
      · rw [up_ne _ _ _ (by omega)]
        have hj := hS (s.length - i) (by omega)
        have e2 : off + ([] : List Nat).length + s.length - (s.length - i) = off + i := by simp; omega
        rw [e2] at hj
        rw [hj]
        show _ = nI ((s ++ [p]).getD (s.length + 1 - 1 - i) 0)
        have e3 : s.length + 1 - 1 - i = s.length - i := by omega
        rw [e3]
        have : s.length - i < s.length := by omega
        simp only [List.getD, List.getElem?_append_left this]
  | cons x t ih =>
    intro s σ hPs hl hN hA hS
    have hlen : (x :: t).length = t.length + 1 := rfl
    have hx := hN x List.mem_cons_self
    have htop := hA.top
    rw [hlen] at hl
    rw [hlen, show t.length + 1 + 1 + g = (t.length + 1 + g) + 1 by omega]
    cases ha : ah x with
    | false =>
      refine ⟨t.length + 1, σ, hstop _ _ _ x hPs (by omega) htop hx ha, Nat.le_refl _, hPs, ?_, Ch.rf _⟩
      have ei : insR ah p (x :: t) = p :: x :: t := by unfold insR; rw [ha]; rfl
      rw [ei]
      intro i hi
      have hn : (s ++ p :: x :: t).length = s.length + 2 + t.length := by simp; omega
      rw [hn] at hi ⊢
      by_cases e : i = t.length + 1
      · subst e
        rw [up_same]
        have : s.length + 2 + t.length - 1 - (t.length + 1) = s.length := by omega
        rw [this]; simp [List.getD]
      · rw [up_ne _ _ _ (by omega)]
        by_cases c : i < t.length + 1
        · rw [hA i (by rw [hlen]; omega)]
          have e1 : s.length + 2 + t.length - 1 - i = s.length + (t.length + 1 - i) := by omega
          rw [e1]
          have e2 : (s ++ p :: x :: t).getD (s.length + (t.length + 1 - i)) 0 = (p :: x :: t).getD (t.length + 1 - i) 0 := by
            simp only [List.getD]
            rw [List.getElem?_append_right (by omega)]
            congr 2
            omega
          rw [e2, hlen]
          have e3 : t.length + 1 - i = (t.length + 1 - 1 - i) + 1 := by omega
          rw [e3, List.getD_cons_succ]
        · have hj := hS (s.length + 1 + t.length - i) (by omega)
          have e2 : off + (x :: t).length + s.length - (s.length + 1 + t.length - i) = off + i := by rw [hlen]; omega
          rw [e2] at hj
          rw [hj]
          have e3 : s.length + 2 + t.length - 1 - i = s.length + 1 + t.length - i := by omega
          rw [e3]
          have : s.length + 1 + t.length - i < s.length := by omega
          simp only [List.getD, List.getElem?_append_left this]
    | true =>
      rw [hgo _ _ _ x hPs (by omega) htop hx ha]
      have ei : insR ah p (x :: t) = x :: insR ah p t := by rw [insR]; rw [ha]; rfl
      obtain ⟨k', σ', g1, g2, g3, g4, g5⟩ := ih (s ++ [x]) (sI σ cell (off + t.length + 1) (nI x)) (hP _ _ _ (by omega) (by omega) hPs) (by simp; omega) (fun y hy => hN y (List.mem_cons_of_mem _ hy)) (fun i hi => by
        rw [gI_sI_ne (by omega)]; exact hA.tail i hi) (fun j hj => by
        have hsl : (s ++ [x]).length = s.length + 1 := by simp
        rw [hsl] at hj ⊢
        by_cases e : j = s.length
        · subst e
          have : off + t.length + (s.length + 1) - s.length = off + t.length + 1 := by omega
          rw [this, gI_sI_at]; simp [List.getD]
        · rw [gI_sI_ne (by omega)]
          have := hS j (by omega)
          rw [hlen] at this
          have e2 : off + t.length + (s.length + 1) - j = off + (t.length + 1) + s.length - j := by omega
          rw [e2, this]
          have hj2 : j < s.length := by omega
          simp only [List.getD, List.getElem?_append_left hj2])
      refine ⟨k', σ', g1, by omega, g3, ?_, (Ch.sI1 (Or.inr (by simp))).trans g5⟩
      rw [ei]
      rw [List.append_assoc] at g4
      exact g4
/-! points asked -/
def shV (v : Int64) : Int32 := (lmax (-1000000000 : Int64) (lmin (1000000000 : Int64) v)).toInt32
theorem F_shown {v : Int64} {σ : AH} : F_X12_shown v σ = some (shV v, σ) := by
  unfold F_X12_shown shV lmax lmin
  by_cases c1 : v ≤ (1000000000 : Int64)
  · rw [if_pos c1]
    by_cases c0 : v < (1000000000 : Int64)
    · rw [if_pos c0]
      by_cases c2 : (-1000000000 : Int64) ≤ v
      · rw [if_pos c2, if_neg (fun z => by rw [Int64.lt_iff_toInt_lt] at z; rw [Int64.le_iff_toInt_le] at c2; omega)]
      · rw [if_neg c2, if_pos (by rw [Int64.lt_iff_toInt_lt]; rw [Int64.le_iff_toInt_le] at c2; omega)]; rfl
    · have e : v = (1000000000 : Int64) := by
        rw [Int64.le_iff_toInt_le] at c1; rw [Int64.lt_iff_toInt_lt] at c0
        exact Int64.toInt_inj.mp (by omega)
      rw [if_neg c0, e]; rfl
  · rw [if_neg c1, if_neg (show ¬ v < (1000000000 : Int64) from fun z => c1 (by rw [Int64.le_iff_toInt_le]; rw [Int64.lt_iff_toInt_lt] at z; omega))]; rfl
def pointsV (row : Nat → Int32) (x1 x2 x3 : Int32) : Int32 := if ltB (nE row) x1 = true then (if rgB 0 259 x2 = true then (if rgB 0 259 x3 = true then (if x3 < en row (cl x1) 6 then -2000000000 else shV (ptV row x3 (cl x2) (cl x1))) else -2000000000) else -2000000000) else -2000000000
theorem P_points {row : Nat → Int32} {x1 x2 x3 : Int32} {σ : AH} (hV : AV row) (hE : EV row) (hr : gI σ 125 = row) : ∃ τ, F_X12_points x1 x2 x3 σ = some (pointsV row x1 x2 x3, τ) ∧ Ch PQc PQf σ τ := by
  have n60 := hE.n.2
  have c0 : Ch PQc PQf σ (sI σ 124 0 0) := Ch.sI1 (Or.inl (by simp [PQf]))
  have no : ∀ v : Int32, v = -2000000000 → ∃ τ, some ((-2000000000 : Int32), sI σ 124 0 0) = some (v, τ) ∧ Ch PQc PQf σ τ := fun v hv => ⟨_, by rw [hv], c0⟩
  unfold F_X12_points pointsV
  have ie : F_X12_isEntry x1 (sI σ 124 0 (0 : Int32)) = some (if ltB (nE row) x1 = true then 1 else 0, sI σ 124 0 0) := F_isEntryR hE hr
  simp only [ie, F_isWeek, bd_b (α := Int32)]
  by_cases c1 : ltB (nE row) x1 = true
  · rw [if_pos c1, if_pos c1]
    by_cases c2 : rgB 0 259 x2 = true
    · rw [if_pos c2, if_pos c2]
      by_cases c3 : rgB 0 259 x3 = true
      · rw [if_pos c3, if_pos c3]
        obtain ⟨e1, b1⟩ := ltB_n c1 (by omega)
        obtain ⟨e2, b2'⟩ := rg0_n (b := 259) c2 (by decide)
        have a6 : F_X12_entryAt x1 (6 : Int32) (sI σ 124 0 (0 : Int32)) = some (en row (cl x1) 6, sI σ 124 0 0) := by
          have := F_entryAt (σ := sI σ 124 0 (0 : Int32)) (e := cl x1) (j := 6) hE b1 (by decide) hr
          rw [← e1] at this; exact this
        rw [a6, bd_some]
        by_cases c4 : x3 < en row (cl x1) 6
        · rw [if_pos c4, if_neg (fun z => by rw [Int32.lt_iff_toInt_lt] at c4; rw [Int32.le_iff_toInt_le] at z; omega)]; exact no _ rfl
        · rw [if_neg c4, if_pos (by rw [Int32.lt_iff_toInt_lt] at c4; rw [Int32.le_iff_toInt_le]; omega)]
          obtain ⟨τ1, k1, k2, k3, k4⟩ := F_knowBy (k := x3) (σ := sI σ 124 0 0) (row := row) hr
          obtain ⟨τ, t1, t2, t3⟩ := F_reckonPoints (w := cl x2) hV hE b1 (by omega) k2
          rw [← e1, ← e2] at t1
          rw [k1, bv_some, t1, bd_some, F_shown, bd_some]
          exact ⟨τ, rfl, (c0.trans (k4.mono (by simp [PQc]) (by simp [PQf]))).trans (t3.mono (by simp [PTc, PQc]) (by simp [FDf, PQf]))⟩
      · rw [if_neg c3, if_neg c3]; exact no _ rfl
    · rw [if_neg c2, if_neg c2]; exact no _ rfl
  · rw [if_neg c1, if_neg c1]; exact no _ rfl
theorem C_points {row : Nat → Int32} {x1 x2 x3 : Int32} {σ : AH} (hV : AV row) (hW : AW row) (hE : EV row) (hT : TbE row σ) (hL : LwI row σ) : ∃ τ, F_X11_points x1 x2 x3 σ = some (pointsV row x1 x2 x3, τ) ∧ LwI row τ ∧ TbE row τ ∧ Ch LWc LWf σ τ := by
  have n60 := hE.n.2
  have no : ∀ v : Int32, v = -2000000000 → ∃ τ, some ((-2000000000 : Int32), σ) = some (v, τ) ∧ LwI row τ ∧ TbE row τ ∧ Ch LWc LWf σ τ := fun v hv => ⟨_, by rw [hv], hL, hT, Ch.rf _⟩
  unfold F_X11_points pointsV
  simp only [F_isWeekC, F_isKnownEntry hE hT, bd_b (α := Int32)]
  by_cases c1 : ltB (nE row) x1 = true
  · rw [if_pos c1]
    by_cases c2 : rgB 0 259 x2 = true
    · rw [if_pos c2, if_pos c2]
      by_cases c3 : rgB 0 259 x3 = true
      · rw [if_pos c3, if_pos c3]
        by_cases c4 : x3 < en row (cl x1) 6
        · rw [if_pos c4, if_neg (fun z => z.2 c4)]; exact no _ rfl
        · obtain ⟨e1, b1⟩ := ltB_n c1 (by omega)
          obtain ⟨e2, b2'⟩ := rg0_n (b := 259) c2 (by decide)
          rw [if_neg c4, if_pos ⟨c1, c4⟩]
          obtain ⟨τ, t1, t2, t3⟩ := F_settled (k := x3) (w := x2) hV hW hL
          obtain ⟨τ2, u1, u2, u3, u4⟩ := F_weightOf (e := cl x1) (w := cl x2) (k := x3) hV hW hE b1 (by omega) (hT.ch t3 (by simp [LWc]) (by simp [LWf])) (by rw [← e2]; exact t2)
          rw [← e1, ← e2] at u1
          rw [t1, bv_some, u1, bd_some]
          exact ⟨τ2, rfl, u2.1, u3, t3.trans (u4.mono (by simp [LWc]) (by simp))⟩
      · rw [if_neg c3, if_neg c3]; exact no _ rfl
    · rw [if_neg c2, if_neg c2]; exact no _ rfl
  · rw [if_neg c1]
    have nz : ¬ (ltB (nE row) x1 = true ∧ ¬ x3 < en row (cl x1) 6) := fun z => c1 z.1
    rw [if_neg nz]
    by_cases c2 : rgB 0 259 x2 = true
    · rw [if_pos c2]
      by_cases c3 : rgB 0 259 x3 = true
      · rw [if_pos c3]; exact no _ rfl
      · rw [if_neg c3]; exact no _ rfl
    · rw [if_neg c2]; exact no _ rfl
/-! the ORDER of a list -/
def inE (row : Nat → Int32) (k : Int32) (w c e : Nat) : Bool := decide (en row e 0 = nI c ∧ ¬ k < en row e 6 ∧ ¬ nI w < en row e 1)
def ahE (row : Nat → Int32) (k : Int32) (w p x : Nat) : Bool := if ptV row k w p = ptV row k w x then (if en row p 1 = en row x 1 then decide (p < x) else decide (¬ en row x 1 ≤ en row p 1)) else decide (¬ ptV row k w p ≤ ptV row k w x)
def lsS (row : Nat → Int32) (k : Int32) (w c : Nat) : Nat → List Nat := fun e => match e with
  | 0 => []
  | e + 1 => if inE row k w c e = true then insR (ahE row k w e) e (lsS row k w c e) else lsS row k w c e
theorem lsS_len {row : Nat → Int32} {k : Int32} {w c : Nat} : ∀ e, (lsS row k w c e).length ≤ e := by
  intro e
  induction e with
  | zero => exact Nat.le_refl _
  | succ e ih =>
    unfold lsS
    split
    · rw [insR_len]; omega
    · omega
theorem lsS_mem {row : Nat → Int32} {k : Int32} {w c : Nat} : ∀ e x, x ∈ lsS row k w c e → x < e := by
  intro e
  induction e with
  | zero => intro x h; cases h
  | succ e ih =>
    intro x h
    unfold lsS at h
    split at h
    · rcases insR_mem _ _ h with z | z
      · omega
      · have := ih x z; omega
    · have := ih x h; omega
theorem F_standsAhead {row : Nat → Int32} {k : Int32} {w p x : Nat} {σ : AH} (hE : EV row) (hp : p < nE row) (hx : x < nE row) (hr : gI σ 125 = row) (g1 : gL σ 161 p = ptV row k w p) (g2 : gL σ 161 x = ptV row k w x) : F_X12_standsAhead (nI p) (nI x) σ = some (b2 (ahE row k w p x), σ) := by
  have n60 := hE.n.2
  unfold F_X12_standsAhead ahE
  have qp : inB (nI p) 60 = true := inB_n (by omega) (by omega)
  have qx : inB (nI x) 60 = true := inB_n (by omega) (by omega)
  have np : (nI p).toNatClampNeg = p := nI_clamp (by omega)
  have nx_ : (nI x).toNatClampNeg = x := nI_clamp (by omega)
  have ap : F_X12_entryAt (nI p) (1 : Int32) σ = some (en row p 1, σ) := F_entryAt (j := 1) hE hp (by decide) hr
  have ax : F_X12_entryAt (nI x) (1 : Int32) σ = some (en row x 1, σ) := F_entryAt (j := 1) hE hx (by decide) hr
  simp only [qp, qx, np, nx_, if_true, ap, ax, bd_some, g1, g2]
  by_cases c1 : ptV row k w p = ptV row k w x
  · rw [if_pos c1, if_pos c1]
    by_cases c2 : en row p 1 = en row x 1
    · rw [if_pos c2, if_pos c2]
      by_cases c3 : p < x
      · rw [if_neg (nI_ge c3 (by omega)), decide_eq_true c3]; rfl
      · rw [if_pos (nI_le (by omega) (by omega)), decide_eq_false c3]; rfl
    · rw [if_neg c2, if_neg c2]
      by_cases c3 : en row x 1 ≤ en row p 1
      · rw [if_pos c3, decide_eq_false (fun z => z c3)]; rfl
      · rw [if_neg c3, decide_eq_true c3]; rfl
  · rw [if_neg c1, if_neg c1]
    by_cases c3 : ptV row k w p ≤ ptV row k w x
    · rw [if_pos c3, decide_eq_false (fun z => z c3)]; rfl
    · rw [if_neg c3, decide_eq_true c3]; rfl
theorem F_isAheadC {row : Nat → Int32} {k : Int32} {w p x : Nat} {σ : AH} (hE : EV row) (hp : p < nE row) (hx : x < nE row) (hT : TbE row σ) (g1 : gL σ 117 p = ptV row k w p) (g2 : gL σ 117 x = ptV row k w x) : F_X4_isAhead (nI p) (nI x) σ = some (b2 (ahE row k w p x), σ) := by
  have n60 := hE.n.2
  unfold F_X4_isAhead ahE
  have qp : inB (nI p) 60 = true := inB_n (by omega) (by omega)
  have qx : inB (nI x) 60 = true := inB_n (by omega) (by omega)
  have np : (nI p).toNatClampNeg = p := nI_clamp (by omega)
  have nx_ : (nI x).toNatClampNeg = x := nI_clamp (by omega)
  have ap : F_X8_at 13 (nI p) (1 : Int32) σ = some (en row p 1, σ) := at_en (j := 1) hT hp (by decide)
  have ax : F_X8_at 13 (nI x) (1 : Int32) σ = some (en row x 1, σ) := at_en (j := 1) hT hx (by decide)
  simp only [qp, qx, np, nx_, if_true, ap, ax, bd_some, g1, g2]
  by_cases c1 : ptV row k w p = ptV row k w x
  · rw [if_pos c1, if_pos c1]
    by_cases c2 : en row p 1 = en row x 1
    · rw [if_pos c2, if_pos c2]
      by_cases c3 : p < x
      · rw [if_neg (nI_ge c3 (by omega)), decide_eq_true c3]; rfl
      · rw [if_pos (nI_le (by omega) (by omega)), decide_eq_false c3]; rfl
    · rw [if_neg c2, if_neg c2]
      by_cases c3 : en row x 1 ≤ en row p 1
      · rw [if_pos c3, decide_eq_false (fun z => z c3)]; rfl
      · rw [if_neg c3, decide_eq_true c3]; rfl
  · rw [if_neg c1, if_neg c1]
    by_cases c3 : ptV row k w p ≤ ptV row k w x
    · rw [if_pos c3, decide_eq_false (fun z => z c3)]; rfl
    · rw [if_neg c3, decide_eq_true c3]; rfl
end
