section
/-! lacks -/
def lckV (row : Nat → Int32) (k : Int32) (p w : Nat) : Int32 := if runR row k 0 (w + 1) 144 p = 3 then 0 else match sw row k p with
  | none => 1
  | some a => if w < a then 1 else if lic row k (sw row k) p = true then (if pL row p ≤ w then (if runR row k 0 (w + 1) 145 p = 0 ∧ runR row k 0 (w + 1) 147 p = 0 then 4 else 5) else 3) else 2
theorem lckV_ke {row : Nat → Int32} {k k' : Int32} (h : KE row k k') (p w : Nat) : lckV row k p w = lckV row k' p w := by
  unfold lckV; rw [runR_ke h, sw_ke h, lic_ke h]
def lacksV (row : Nat → Int32) (x1 x2 x3 : Int32) : Int32 := if ltB (nP row) x1 = true then (if rgB 0 259 x2 = true then (if rgB 0 259 x3 = true then lckV row x3 (cl x1) (cl x2) else -1) else -1) else -1
theorem P_lacks {row : Nat → Int32} {x1 x2 x3 : Int32} {σ : AH} (hV : AV row) (hB : BV row) (hr : gI σ 125 = row) : ∃ τ, F_X12_lacks x1 x2 x3 σ = some (lacksV row x1 x2 x3, τ) ∧ Ch PQc PQf σ τ := by
  have c0 : Ch PQc PQf σ (sI σ 124 0 0) := Ch.sI1 (Or.inl (by simp [PQf]))
  have no : ∀ v : Int32, v = -1 → ∃ τ, some ((-1 : Int32), sI σ 124 0 0) = some (v, τ) ∧ Ch PQc PQf σ τ := fun v hv => ⟨_, by rw [hv], c0⟩
  obtain ⟨p0, b30, p2⟩ := hB.p
  unfold F_X12_lacks lacksV
  have ip : F_X12_isPlot x1 (sI σ 124 0 0) = some (if ltB (nP row) x1 = true then 1 else 0, sI σ 124 0 0) := F_isPlot hB hr
  simp only [ip, F_isWeek, bd_b (α := Int32)]
  by_cases c1 : ltB (nP row) x1 = true
  · rw [if_pos c1, if_pos c1]
    by_cases c2 : rgB 0 259 x2 = true
    · rw [if_pos c2, if_pos c2]
      by_cases c3 : rgB 0 259 x3 = true
      · rw [if_pos c3, if_pos c3]
        obtain ⟨e1, b1⟩ := ltB_n c1 (by omega)
        obtain ⟨e2, b2'⟩ := rg0_n (b := 259) c2 (by decide)
        obtain ⟨τ1, k1, k2, k3, k4⟩ := F_knowBy (k := x3) (σ := sI σ 124 0 0) (row := row) hr
        rw [k1, bv_some]
        obtain ⟨τ2, τ, r1, r2, r3, r4, r5, r6, r7, r8, r9⟩ := F_runs (lt_ := 0) (n := cl x2 + 1) hV hB (by omega) k2
        rw [r1, bv_some]
        have em : nI (cl x2 + 1) + (-1) = x2 := by rw [pk_m1]; exact e2.symm
        rw [em] at r2
        rw [r2, bv_some]
        have cF : Ch PQc PQf σ τ := (c0.trans (k4.mono (by simp [PQc]) (by simp [PQf]))).trans (r9.mono (by simp [RNc, PQc]) (by simp [RNf, PQf]))
        have fin : ∀ v u : Int32, v = u → ∃ τ', some (v, τ) = some (u, τ') ∧ Ch PQc PQf σ τ' := fun v u h => ⟨τ, by rw [h], cF⟩
        have q : inB x1 30 = true := by rw [e1]; exact inB_n (by omega) (by omega)
        have g4 : gI τ 144 x1.toNatClampNeg = runR row x3 0 (cl x2 + 1) 144 (cl x1) := r5.at (c := 144) (by decide) (by decide) (by decide) (by show cl x1 < 30; omega)
        have g5 : gI τ 145 x1.toNatClampNeg = runR row x3 0 (cl x2 + 1) 145 (cl x1) := r5.at (c := 145) (by decide) (by decide) (by decide) (by show cl x1 < 30; omega)
        have g7 : gI τ 147 x1.toNatClampNeg = runR row x3 0 (cl x2 + 1) 147 (cl x1) := r5.at (c := 147) (by decide) (by decide) (by decide) (by show cl x1 < 30; omega)
        have gs : gI τ 140 x1.toNatClampNeg = oI (sw row x3 (cl x1)) := r6 (cl x1) (by omega)
        have gl : gI τ 141 x1.toNatClampNeg = b2 (lic row x3 (sw row x3) (cl x1)) := r7 (cl x1) b1
        have i1 : (23532 : Int32) + (4 : Int32) * x1 + (3 : Int32) = nI (23532 + 4 * cl x1 + 3) := by
          have : (23532 : Int32) + (4 : Int32) * nI (cl x1) + (3 : Int32) = nI (23532 + 4 * cl x1 + 3) := by simp only [fa_lit, nI_add, pk_mul]
          rw [← e1] at this; exact this
        have q3 : inB (nI (23532 + 4 * cl x1 + 3)) 269832 = true := inB_n (by omega) (by omega)
        have n3 : (nI (23532 + 4 * cl x1 + 3)).toNatClampNeg = 23532 + 4 * cl x1 + 3 := nI_clamp (by omega)
        have gp : gI τ 125 (23532 + 4 * cl x1 + 3) = nI (pL row (cl x1)) := by rw [r3.1]; exact (p2 (cl x1) b1).2.2.2.1
        have bp : pL row (cl x1) < 260 := (p2 (cl x1) b1).2.2.2.2
        unfold F_X12_lacks_114 F_X12_lacks_110 F_X12_lacks_132
        simp only [q, i1, q3, n3, gp, if_true, g4, g5, g7, gs, gl]
        unfold lckV
        by_cases d3 : runR row x3 0 (cl x2 + 1) 144 (cl x1) = 3
        · rw [if_pos d3, if_pos d3]; exact fin _ _ rfl
        · rw [if_neg d3, if_neg d3]
          cases es : sw row x3 (cl x1) with
          | none => rw [show oI none = -1 from rfl, if_pos rfl]; exact fin _ _ rfl
          | some a =>
            have ba := sw_lt hB es
            rw [show oI (some a) = nI a from rfl, if_neg (nI_neg1 (by omega))]
            dsimp only
            by_cases d : cl x2 < a
            · rw [if_neg (by rw [e2]; exact nI_ge d (by omega)), if_pos d]; exact fin _ _ rfl
            · rw [if_pos (by rw [e2]; exact nI_le (by omega) (by omega)), if_neg d]
              cases lic row x3 (sw row x3) (cl x1) with
              | false => rw [if_pos (show b2 false = 0 from rfl), if_neg (by decide)]; exact fin _ _ rfl
              | true =>
                rw [if_neg (show ¬ b2 true = 0 by decide), if_pos rfl]
                by_cases f : pL row (cl x1) ≤ cl x2
                · rw [if_pos (by rw [e2]; exact nI_le f (by omega)), if_pos f]
                  by_cases g : runR row x3 0 (cl x2 + 1) 145 (cl x1) = 0
                  · rw [if_pos g]
                    by_cases h : runR row x3 0 (cl x2 + 1) 147 (cl x1) = 0
                    · rw [if_pos h, if_pos ⟨g, h⟩]; exact fin _ _ rfl
                    · rw [if_neg h, if_neg (fun z => h z.2)]; exact fin _ _ rfl
                  · rw [if_neg g, if_neg (fun z => g z.1)]; exact fin _ _ rfl
                · rw [if_neg (by rw [e2]; exact nI_ge (by omega) (by omega)), if_neg f]; exact fin _ _ rfl
      · rw [if_neg c3, if_neg c3]; exact no _ rfl
    · rw [if_neg c2, if_neg c2]; exact no _ rfl
  · rw [if_neg c1, if_neg c1]; exact no _ rfl
theorem sO_stay {row : Nat → Int32} {k : Int32} {p w : Nat} {m : Nat} (h : sO row k p m = some w) : ∀ j, sO row k p (m + j) = some w := by
  intro j
  induction j with
  | zero => exact h
  | succ j ih =>
    have : sO row k p (m + j + 1) = match sO row k p (m + j) with | some w => some w | none => if cl (sa row (m + j) 0) = p ∧ ¬ k < sa row (m + j) 2 then some (cl (sa row (m + j) 1)) else none := rfl
    rw [show m + (j + 1) = m + j + 1 by omega, this, ih]
theorem first_loop {row : Nat → Int32} {k : Int32} {p g : Nat} {σ : AH} (hB : BV row) (hp : p < 30) (hT : TbB row σ) : ∀ (j m : Nat), m + j = nS row → sO row k p m = none → F_X11_firstStart_2 (j + 1 + g) (nI p) k (nI m) σ = some (oI (sw row k p), σ) := by
  obtain ⟨s0, s1, s2⟩ := hB.s
  have n30 := hB.p.2.1
  intro j
  induction j with
  | zero =>
    intro m hm h
    have e : F_X11_firstStart_2 (0 + 1 + g) = B_X11_firstStart_2 (F_X11_firstStart_2 g) := by rw [Nat.zero_add, Nat.add_comm]; rfl
    rw [e]; unfold B_X11_firstStart_2
    rw [rows_s hT, bd_some, if_pos (nI_le (by omega) (by omega))]
    have : sw row k p = none := by unfold sw; rw [show nS row = m by omega]; exact h
    rw [this]; rfl
  | succ j ih =>
    intro m hm h
    have e : F_X11_firstStart_2 (j + 1 + 1 + g) = B_X11_firstStart_2 (F_X11_firstStart_2 (j + 1 + g)) := by rw [show j + 1 + 1 + g = (j + 1 + g) + 1 by omega]; rfl
    rw [e]; unfold B_X11_firstStart_2 F_X11_firstStart_61
    obtain ⟨v0, v1, v2⟩ := s2 m (by omega)
    have hl := v0.2
    have a0 : F_X8_at 11 (nI m) (0 : Int32) σ = some (sa row m 0, σ) := at_sa (j := 0) hT (by omega) (by omega)
    have a1 : F_X8_at 11 (nI m) (1 : Int32) σ = some (sa row m 1, σ) := at_sa (j := 1) hT (by omega) (by omega)
    have a2 : F_X8_at 11 (nI m) (2 : Int32) σ = some (sa row m 2, σ) := at_sa (j := 2) hT (by omega) (by omega)
    have st : sO row k p (m + 1) = if cl (sa row m 0) = p ∧ ¬ k < sa row m 2 then some (cl (sa row m 1)) else none := by
      have : sO row k p (m + 1) = match sO row k p m with | some w => some w | none => if cl (sa row m 0) = p ∧ ¬ k < sa row m 2 then some (cl (sa row m 1)) else none := rfl
      rw [this, h]
    rw [rows_s hT, bd_some, if_neg (nI_ge (by omega) (by omega)), a0, bd_some, nI_1]
    by_cases c : cl (sa row m 0) = p
    · rw [if_pos (by rw [v0.1, c]), a2, bd_some]
      by_cases d : k < sa row m 2
      · rw [if_pos d]; exact ih (m + 1) (by omega) (by rw [st, if_neg (fun q => q.2 d)])
      · rw [if_neg d, a1, bd_some]
        have : sw row k p = some (cl (sa row m 1)) := by
          unfold sw
          rw [show nS row = (m + 1) + j by omega]
          exact sO_stay (by rw [st, if_pos ⟨c, d⟩]) j
        rw [this]
        exact congrArg (fun v => some (v, σ)) v1.1
    · rw [if_neg (fun q => c (by rw [v0.1] at q; exact (nI_eq (by omega) (by omega)).mp q))]
      exact ih (m + 1) (by omega) (by rw [st, if_neg (fun q => c q.1)])
theorem F_firstStart {row : Nat → Int32} {k : Int32} {p : Nat} {σ : AH} (hB : BV row) (hp : p < 30) (hT : TbB row σ) : F_X11_firstStart (nI p) k σ = some (oI (sw row k p), σ) := by
  unfold F_X11_firstStart
  have := hB.s.2.1
  obtain ⟨g, hg⟩ := BIGe (nS row) (by omega)
  rw [hg]
  exact first_loop hB hp hT (nS row) 0 (by omega) rfl
theorem F_doneWeek {row : Nat → Int32} {k : Int32} {l a p : Nat} {s : Nat → Option Nat} {σ : AH} (hs : ∀ p w, s p = some w → w < 260) (hN : nP row ≤ 30) (hp : p < nP row) (h : RnI row k l s a 260 σ) : F_X6_doneWeek a (nI p) σ = some (rw_ row k l s 260 149 (3 * p + 2), σ) := by
  unfold F_X6_doneWeek
  have i1 : nI p * (3 : Int32) + (3 : Int32) - (1 : Int32) = nI (3 * p + 2) := by
    have : nI p * (3 : Int32) + (3 : Int32) = nI (3 * p + 3) := by simp only [fa_lit, nI_add, pk_mul]; rw [Nat.mul_comm]
    rw [this]; exact pk_sub (b := 1) (by omega)
  rw [i1, if_pos (inB_n (by omega) (by omega)), nI_clamp (by omega), (h.ends hs).2.2 _ (by omega)]
theorem F_isDoneBy {row : Nat → Int32} {k : Int32} {l a p w : Nat} {s : Nat → Option Nat} {σ : AH} (hs : ∀ p w, s p = some w → w < 260) (hN : nP row ≤ 30) (hp : p < nP row) (hw : w < 260) (h : RnI row k l s a 260 σ) : F_X6_isDoneBy a (nI p) (nI w) σ = some (if 3 ≤ cl (rw_ row k l s (w + 1) 144 p) then 1 else 0, σ) := by
  unfold F_X6_isDoneBy
  simp only [F_doneWeek hs hN hp h, bd_some]
  obtain ⟨o1, o2⟩ := rw_over (row := row) (k := k) (l := l) (s := s) hN (w := w) (p := p) (st := 2) hw (by omega) (by omega)
  by_cases c : 3 ≤ cl (rw_ row k l s (w + 1) 144 p)
  · obtain ⟨v, v1, v2⟩ := o1 (by omega)
    rw [v2, if_neg (nI_neg1 (by omega)), if_neg (nI_nlt (by omega) (by omega)), if_pos c]
  · rw [if_neg c]
    rcases o2 (by omega) with v | ⟨v, v1, v2, v3⟩
    · rw [v, if_pos rfl]
    · rw [v3, if_neg (nI_neg1 (by omega)), if_pos (nI_lt v1 (by omega))]
theorem waits_loop {row : Nat → Int32} {k : Int32} {l a p w g : Nat} {s : Nat → Option Nat} {σ : AH} (hs : ∀ p w, s p = some w → w < 260) (hN : nP row ≤ 30) (hp : p < nP row) (hw : w < 260) (h : RnI row k l s a 260 σ) (h3 : cl (rw_ row k l s (w + 1) 144 p) < 3) : ∀ (j st : Nat), st + j = cl (rw_ row k l s (w + 1) 144 p) → F_X7_waitsForNeeds_4 (j + 1 + g) (a + 1) (nI p) (nI w) (nI (3 * p + st)) σ = F_X7_waitsForNeeds_33 (a + 1) (nI w) (nI (3 * p + cl (rw_ row k l s (w + 1) 144 p))) σ := by
  have i1 : (nI p + (1 : Int32)) * (3 : Int32) = nI (3 * p + 3) := by
    simp only [fa_lit, nI_add, pk_mul]; congr 1; omega
  intro j
  induction j with
  | zero =>
    intro st hst
    have e : F_X7_waitsForNeeds_4 (0 + 1 + g) = B_X7_waitsForNeeds_4 (F_X7_waitsForNeeds_4 g) := by rw [Nat.zero_add, Nat.add_comm]; rfl
    rw [e]; unfold B_X7_waitsForNeeds_4
    have es : st = cl (rw_ row k l s (w + 1) 144 p) := by omega
    have q : inB (nI (3 * p + st)) 90 = true := inB_n (by omega) (by omega)
    have n : (nI (3 * p + st)).toNatClampNeg = 3 * p + st := nI_clamp (by omega)
    rw [i1, if_neg (nI_ge (by omega) (by omega)), if_pos q, if_pos q, n, (h.ends hs).2.2 _ (by omega), ← es]
    rcases (rw_over (row := row) (k := k) (l := l) (s := s) hN (w := w) (p := p) (st := st) hw (by omega) (by omega)).2 (by omega) with v | ⟨v, v1, v2, v3⟩
    · rw [v, if_pos rfl]
    · rw [v3, if_neg (nI_neg1 (by omega)), if_neg (nI_ge v1 (by omega))]
  | succ j ih =>
    intro st hst
    have e : F_X7_waitsForNeeds_4 (j + 1 + 1 + g) = B_X7_waitsForNeeds_4 (F_X7_waitsForNeeds_4 (j + 1 + g)) := by rw [show j + 1 + 1 + g = (j + 1 + g) + 1 by omega]; rfl
    rw [e]; unfold B_X7_waitsForNeeds_4
    have q : inB (nI (3 * p + st)) 90 = true := inB_n (by omega) (by omega)
    have n : (nI (3 * p + st)).toNatClampNeg = 3 * p + st := nI_clamp (by omega)
    rw [i1, if_neg (nI_ge (by omega) (by omega)), if_pos q, if_pos q, n, (h.ends hs).2.2 _ (by omega)]
    obtain ⟨v, v1, v2⟩ := (rw_over (row := row) (k := k) (l := l) (s := s) hN (w := w) (p := p) (st := st) hw (by omega) (by omega)).1 (by omega)
    rw [v2, if_neg (nI_neg1 (by omega)), if_pos (nI_le v1 (by omega)), nI_1]
    exact ih (st + 1) (by omega)
theorem F_waits {row : Nat → Int32} {k : Int32} {l a p w : Nat} {s : Nat → Option Nat} {σ : AH} (hs : ∀ p w, s p = some w → w < 260) (hN : nP row ≤ 30) (hp : p < nP row) (hw : w < 260) (h : RnI row k l s a 260 σ) (h3 : cl (rw_ row k l s (w + 1) 144 p) < 3) (hm : p ∈ linW (nP row) s (lic row k s) (w + 1)) (hl : pL row p ≤ w) :
    F_X7_waitsForNeeds (a + 1) (nI p) (nI w) σ = some (if rw_ row k l s (w + 1) 145 p = 0 ∧ rw_ row k l s (w + 1) 147 p = 0 then 1 else 0, σ) := by
  unfold F_X7_waitsForNeeds
  have i0 : nI p * (3 : Int32) = nI (3 * p + 0) := by simp only [fa_lit, nI_add, pk_mul]; rw [Nat.mul_comm]; rfl
  obtain ⟨g, hg⟩ := BIGe (cl (rw_ row k l s (w + 1) 144 p)) (by omega)
  rw [hg, i0, waits_loop hs hN hp hw h h3 _ 0 (by omega)]
  unfold F_X7_waitsForNeeds_33 F_X7_waitsForNeeds_57 F_X7_waitsForNeeds_58 F_X7_waitsForNeeds_85
  have q : inB (nI (3 * p + cl (rw_ row k l s (w + 1) 144 p))) 90 = true := inB_n (by omega) (by omega)
  have n : (nI (3 * p + cl (rw_ row k l s (w + 1) 144 p))).toNatClampNeg = 3 * p + cl (rw_ row k l s (w + 1) 144 p) := nI_clamp (by omega)
  have tk := (h.ends hs).2.1 (3 * p + cl (rw_ row k l s (w + 1) 144 p)) (by omega)
  have z0 : ((0 : Int32) = 0) = True := eq_self _
  have z1 : ((1 : Int32) = 0) = False := by decide
  simp only [q, n, tk, z0, z1, if_true, if_false]
  obtain ⟨b1, b2'⟩ := h.2.2
  obtain ⟨t1, t2⟩ := rw_took (row := row) (k := k) (l := l) (s := s) hN (w := w) (p := p) hw (by omega) h3
  obtain ⟨_, rv⟩ := rw_tk (row := row) (k := k) (l := l) (s := s) hN (w + 1) (by omega)
  rcases (rv p (by omega)).2 with c | c
  · obtain ⟨y1, y2⟩ := b2' w hw p hm hl h3 c
    by_cases d : rw_ row k l s (w + 1) 147 p = 0
    · obtain ⟨v, v1, v2⟩ := y1 d
      have ab : rw_ row k l s (w + 1) 145 p = 0 ∧ rw_ row k l s (w + 1) 147 p = 0 := ⟨c, d⟩
      rw [if_pos ab, v2, if_neg (nI_neg1 (by omega)), if_neg (nI_nlt (by omega) (by omega))]
      rcases t2 c with u | ⟨u, u1, u2, u3⟩
      · rw [u, if_pos rfl]
      · rw [u3, if_neg (nI_neg1 (by omega)), if_neg (nI_ge u1 (by omega))]
    · have ab : ¬ (rw_ row k l s (w + 1) 145 p = 0 ∧ rw_ row k l s (w + 1) 147 p = 0) := fun z => d z.2
      rw [if_neg ab]
      rcases y2 d with v | ⟨v, v1, v2, v3⟩
      · rw [v, if_pos rfl]
      · rw [v3, if_neg (nI_neg1 (by omega)), if_pos (nI_lt v1 (by omega))]
  · obtain ⟨u, u1, u2⟩ := t1 c
    rw [u2, if_neg (c := rw_ row k l s (w + 1) 145 p = 0 ∧ rw_ row k l s (w + 1) 147 p = 0) (fun z => absurd (z.1.symm.trans c) (by decide)), if_neg (nI_neg1 (n := u) (by omega)), if_pos (nI_le (a := u) u1 (by omega))]
    rcases b1 (3 * p + cl (rw_ row k l s (w + 1) 144 p)) (by omega) with v | ⟨v, v1, v2⟩
    · rw [v, if_pos rfl]
    · rw [v2, if_neg (nI_neg1 (by omega)), ite_self]
theorem C_lacks {row : Nat → Int32} {x1 x2 x3 : Int32} {σ : AH} (hV : AV row) (hW : AW row) (hB : BV row) (hI : RgI row σ) : ∃ τ, F_X11_lacks x1 x2 x3 σ = some (lacksV row x1 x2 x3, τ) ∧ RgI row τ ∧ Ch RGc RGf σ τ := by
  have no : ∀ v : Int32, v = -1 → ∃ τ, some ((-1 : Int32), σ) = some (v, τ) ∧ RgI row τ ∧ Ch RGc RGf σ τ := fun v hv => ⟨_, by rw [hv], hI, Ch.rf _⟩
  obtain ⟨p0, b30, p2⟩ := hB.p
  unfold F_X11_lacks lacksV
  simp only [F_isPlotC hB hI.1, F_isWeekC, bd_b (α := Int32)]
  by_cases c1 : ltB (nP row) x1 = true
  · rw [if_pos c1, if_pos c1]
    by_cases c2 : rgB 0 259 x2 = true
    · rw [if_pos c2, if_pos c2]
      by_cases c3 : rgB 0 259 x3 = true
      · rw [if_pos c3, if_pos c3]
        obtain ⟨e1, b1⟩ := ltB_n c1 (by omega)
        obtain ⟨e2, b2'⟩ := rg0_n (b := 259) c2 (by decide)
        obtain ⟨e3, b3⟩ := rg0_n (b := 259) c3 (by decide)
        have hk : (0 : Int32) ≤ x3 := by rw [e3]; exact nI_le (a := 0) (by omega) (by omega)
        obtain ⟨a, τ, t1, t2, t3, t4, t5, t6, t7, t8, t9⟩ := F_runFor (k := x3) (l := 0) hV hW hB hk (by omega) hI.1 hI.2.1 hI.2.2.1 hI.2.2.2.1 hI.2.2.2.2
        have t1' : F_X11_runFor x3 (0 : Int32) σ = some (a, τ) := t1
        rw [t1', bd_some]
        have ma : a ∈ runIds := by unfold runIds; rcases t2 with h | h <;> simp [h]
        rw [if_pos ma]
        have KE_ := (F_knowing hV hk hI.2.1 hI.1).2.1
        have hs : ∀ p w, sw row (ltK row x3) p = some w → w < 260 := fun p w h => sw_lt hB h
        have fin : ∀ v u : Int32, v = u → ∃ τ', some (v, τ) = some (u, τ') ∧ RgI row τ' ∧ Ch RGc RGf σ τ' := fun v u h => ⟨τ, by rw [h], ⟨t4, t5, t6, t7, t8⟩, t9⟩
        obtain ⟨_, rv⟩ := rw_tk (row := row) (k := ltK row x3) (l := 0) (s := sw row (ltK row x3)) b30 (cl x2 + 1) (by omega)
        have dn : F_X6_isDoneBy a x1 x2 τ = some (if 3 ≤ cl (rw_ row (ltK row x3) 0 (sw row (ltK row x3)) (cl x2 + 1) 144 (cl x1)) then 1 else 0, τ) := by
          have := F_isDoneBy (p := cl x1) (w := cl x2) hs b30 b1 (by omega) t3
          rw [← e1, ← e2] at this; exact this
        have eR : runR row (ltK row x3) 0 (cl x2 + 1) = rw_ row (ltK row x3) 0 (sw row (ltK row x3)) (cl x2 + 1) := rfl
        rw [lckV_ke KE_]
        unfold lckV
        rw [dn, bd_b (α := Int32), eR]
        have r1 := (rv (cl x1) (by omega)).1
        by_cases d : 3 ≤ cl (rw_ row (ltK row x3) 0 (sw row (ltK row x3)) (cl x2 + 1) 144 (cl x1))
        · have : rw_ row (ltK row x3) 0 (sw row (ltK row x3)) (cl x2 + 1) 144 (cl x1) = 3 := by
            rw [r1.1, show cl (rw_ row (ltK row x3) 0 (sw row (ltK row x3)) (cl x2 + 1) 144 (cl x1)) = 3 by have := r1.2; omega]; rfl
          rw [if_pos d, if_pos this]; exact fin _ _ rfl
        · have n3 : ¬ rw_ row (ltK row x3) 0 (sw row (ltK row x3)) (cl x2 + 1) 144 (cl x1) = 3 := fun q => d (by rw [q]; decide)
          rw [if_neg d, if_neg n3]
          have fs : F_X11_firstStart x1 x3 τ = some (oI (sw row (ltK row x3) (cl x1)), τ) := by
            have := F_firstStart (k := x3) (p := cl x1) (σ := τ) hB (by omega) t4
            rw [← e1, sw_ke KE_] at this; exact this
          rw [fs, bd_some]
          cases es : sw row (ltK row x3) (cl x1) with
          | none => rw [show oI none = -1 from rfl, if_pos rfl]; exact fin _ _ rfl
          | some b =>
            have bb := hs _ _ es
            rw [show oI (some b) = nI b from rfl, if_neg (nI_neg1 (by omega))]
            dsimp only
            by_cases f : cl x2 < b
            · rw [if_neg (by rw [e2]; exact nI_ge f (by omega)), if_pos f]; exact fin _ _ rfl
            · rw [if_pos (by rw [e2]; exact nI_le (by omega) (by omega)), if_neg f]
              have q : inB x1 30 = true := by rw [e1]; exact inB_n (by omega) (by omega)
              have lc : gI τ (a + 1 + 4) x1.toNatClampNeg = b2 (lic row (ltK row x3) (sw row (ltK row x3)) (cl x1)) := (t3.ends hs).1 (cl x1) b1
              rw [if_pos q, lc]
              cases el : lic row (ltK row x3) (sw row (ltK row x3)) (cl x1) with
              | false => rw [if_pos (show b2 false = 0 from rfl), if_neg (by decide)]; exact fin _ _ rfl
              | true =>
                rw [if_neg (show ¬ b2 true = 0 by decide), if_pos rfl]
                have at3 : F_X8_at 9 x1 (3 : Int32) τ = some (nI (pL row (cl x1)), τ) := by
                  have := at_pl (d := cl x1) (j := 3) t4 b1 (by omega)
                  rw [← e1] at this
                  refine this.trans ?_
                  exact congrArg (fun v => some (v, τ)) (p2 (cl x1) b1).2.2.2.1
                have bp : pL row (cl x1) < 260 := (p2 (cl x1) b1).2.2.2.2
                rw [at3, bd_some]
                unfold F_X11_lacks_99 F_X11_lacks_97
                by_cases g : pL row (cl x1) ≤ cl x2
                · rw [if_pos (by rw [e2]; exact nI_le g (by omega)), if_pos g]
                  have mm : cl x1 ∈ linW (nP row) (sw row (ltK row x3)) (lic row (ltK row x3) (sw row (ltK row x3))) (cl x2 + 1) := (linW_mem _ _).mpr ⟨b1, ⟨b, by omega, es⟩, el⟩
                  have wt : F_X7_waitsForNeeds (a + 1) x1 x2 τ = some (if rw_ row (ltK row x3) 0 (sw row (ltK row x3)) (cl x2 + 1) 145 (cl x1) = 0 ∧ rw_ row (ltK row x3) 0 (sw row (ltK row x3)) (cl x2 + 1) 147 (cl x1) = 0 then 1 else 0, τ) := by
                    have := F_waits (p := cl x1) (w := cl x2) hs b30 b1 (by omega) t3 (by omega) mm g
                    rw [← e1, ← e2] at this; exact this
                  rw [wt, bd_b (α := Int32)]
                  by_cases y : rw_ row (ltK row x3) 0 (sw row (ltK row x3)) (cl x2 + 1) 145 (cl x1) = 0 ∧ rw_ row (ltK row x3) 0 (sw row (ltK row x3)) (cl x2 + 1) 147 (cl x1) = 0
                  · rw [if_pos y, if_pos y]; exact fin _ _ rfl
                  · rw [if_neg y, if_neg y]; exact fin _ _ rfl
                · rw [if_neg (by rw [e2]; exact nI_ge (by omega) (by omega)), if_neg g]; exact fin _ _ rfl
      · rw [if_neg c3, if_neg c3]; exact no _ rfl
    · rw [if_neg c2, if_neg c2]; exact no _ rfl
  · rw [if_neg c1, if_neg c1]; exact no _ rfl
end
