section
/-! knock -/
def knS (A B : Nat → Int32) : Nat → Int32 := fun p => match p with
  | 0 => 0
  | p + 1 => if A p = -1 then knS A B p else knS A B p + ((if B p = -1 then 260 else B p) - A p)
def knD (row : Nat → Int32) (k l : Int32) (p : Nat) : Int32 := runR row k l 260 149 (3 * p + 2)
def knockV (row : Nat → Int32) (x1 x2 : Int32) : Int32 := if rgB 0 259 x1 = true then (if rgB 1 26 x2 = true then knS (knD row x1 0) (knD row x1 x2) (nP row) else -2000000000) else -2000000000
theorem knock_86 {row : Nat → Int32} {A B : Nat → Int32} {g : Nat} {σ : AH} (hB : BV row) (hr : gI σ 125 = row) (hA : ∀ p, p < nP row → gI σ 151 p = A p) (hBB : ∀ p, p < nP row → gI σ 149 (3 * p + 2) = B p) : ∀ (j p : Nat), p + j = nP row → F_X12_knock_86 (j + 1 + g) (knS A B p) (nI p) σ = some (knS A B (nP row), σ) := by
  obtain ⟨p0, b30, p2⟩ := hB.p
  intro j
  induction j with
  | zero =>
    intro p hp
    have e : F_X12_knock_86 (0 + 1 + g) = B_X12_knock_86 (F_X12_knock_86 g) := by rw [Nat.zero_add, Nat.add_comm]; rfl
    rw [e]; unfold B_X12_knock_86
    rw [hr, p0, if_pos (nI_le (by omega) (by omega)), show p = nP row by omega]
  | succ j ih =>
    intro p hp
    have e : F_X12_knock_86 (j + 1 + 1 + g) = B_X12_knock_86 (F_X12_knock_86 (j + 1 + g)) := by rw [show j + 1 + 1 + g = (j + 1 + g) + 1 by omega]; rfl
    rw [e]; unfold B_X12_knock_86 F_X12_knock_141 F_X12_knock_151
    have i1 : (3 : Int32) * nI p + (2 : Int32) = nI (3 * p + 2) := by simp only [fa_lit, nI_add, pk_mul]
    have q1 : inB (nI p) 30 = true := inB_n (by omega) (by omega)
    have n1 : (nI p).toNatClampNeg = p := nI_clamp (by omega)
    have q2 : inB (nI (3 * p + 2)) 90 = true := inB_n (by omega) (by omega)
    have n2 : (nI (3 * p + 2)).toNatClampNeg = 3 * p + 2 := nI_clamp (by omega)
    rw [hr, p0, if_neg (nI_ge (by omega) (by omega))]
    simp only [i1, q1, n1, q2, n2, if_true, nI_1, hA p (by omega), hBB p (by omega)]
    have ih' := ih (p + 1) (by omega)
    have st : knS A B (p + 1) = if A p = -1 then knS A B p else knS A B p + ((if B p = -1 then 260 else B p) - A p) := rfl
    rw [st] at ih'
    by_cases c : A p = -1
    · rw [if_pos c] at ih' ⊢; exact ih'
    · rw [if_neg c] at ih' ⊢
      by_cases d : B p = -1
      · rw [if_pos d] at ih' ⊢; exact ih'
      · rw [if_neg d] at ih' ⊢; exact ih'
theorem knock_36 {row : Nat → Int32} {k x2 : Int32} {g : Nat} (hB : BV row) : ∀ (j p : Nat) (σ : AH), p + j = nP row → KI row k σ → (∀ q, q < p → gI σ 151 q = gI σ 149 (3 * q + 2)) →
    ∃ τ, F_X12_knock_36 (j + 1 + g) x2 (nI p) σ = (bv (F_X12_beginRun x2 τ) fun σ19 => bv (F_X12_goTo (0 : Int32) (259 : Int32) σ19) fun σ24 => F_X12_knock_86 BIG (0 : Int32) (0 : Int32) σ24) ∧ KI row k τ ∧ (∀ q, q < nP row → gI τ 151 q = gI σ 149 (3 * q + 2)) ∧ Ch [151] [] σ τ := by
  obtain ⟨p0, b30, p2⟩ := hB.p
  intro j
  induction j with
  | zero =>
    intro p σ hp hK h
    have e : F_X12_knock_36 (0 + 1 + g) = B_X12_knock_36 (F_X12_knock_36 g) := by rw [Nat.zero_add, Nat.add_comm]; rfl
    rw [e]; unfold B_X12_knock_36
    rw [hK.1, p0, if_pos (nI_le (by omega) (by omega))]
    exact ⟨σ, rfl, hK, fun q hq => h q (by omega), Ch.rf _⟩
  | succ j ih =>
    intro p σ hp hK h
    have e : F_X12_knock_36 (j + 1 + 1 + g) = B_X12_knock_36 (F_X12_knock_36 (j + 1 + g)) := by rw [show j + 1 + 1 + g = (j + 1 + g) + 1 by omega]; rfl
    rw [e]; unfold B_X12_knock_36
    have i1 : (3 : Int32) * nI p + (2 : Int32) = nI (3 * p + 2) := by simp only [fa_lit, nI_add, pk_mul]
    have q1 : inB (nI p) 30 = true := inB_n (by omega) (by omega)
    have n1 : (nI p).toNatClampNeg = p := nI_clamp (by omega)
    have q2 : inB (nI (3 * p + 2)) 90 = true := inB_n (by omega) (by omega)
    have n2 : (nI (3 * p + 2)).toNatClampNeg = 3 * p + 2 := nI_clamp (by omega)
    rw [hK.1, p0, if_neg (nI_ge (by omega) (by omega)), i1, if_pos q2, if_pos q1, n1, n2, nI_1]
    obtain ⟨τ, t1, t2, t3, t4⟩ := ih (p + 1) (sI σ 151 p (gI σ 149 (3 * p + 2))) (by omega) (hK.gp (by decide)) (fun q hq => by
      rw [gI_sI_row (a := 149) (by decide)]
      by_cases c : q = p
      · subst c; rw [gI_sI_at]
      · rw [gI_sI_ne c]; exact h q (by omega))
    exact ⟨τ, t1, t2, fun q hq => by rw [t3 q hq, gI_sI_row (by decide)], (Ch.sI1 (Or.inr (by simp))).trans t4⟩
theorem P_knock {row : Nat → Int32} {x1 x2 : Int32} {σ : AH} (hV : AV row) (hB : BV row) (hr : gI σ 125 = row) : ∃ τ, F_X12_knock x1 x2 σ = some (knockV row x1 x2, τ) ∧ Ch PQc PQf σ τ := by
  have c0 : Ch PQc PQf σ (sI σ 124 0 0) := Ch.sI1 (Or.inl (by simp [PQf]))
  have no : ∀ v : Int32, v = -2000000000 → ∃ τ, some ((-2000000000 : Int32), sI σ 124 0 0) = some (v, τ) ∧ Ch PQc PQf σ τ := fun v hv => ⟨_, by rw [hv], c0⟩
  obtain ⟨p0, b30, p2⟩ := hB.p
  unfold F_X12_knock knockV
  simp only [F_isWeek, in126, bd_b (α := Int32)]
  by_cases c1 : rgB 0 259 x1 = true
  · rw [if_pos c1, if_pos c1]
    by_cases c2 : rgB 1 26 x2 = true
    · rw [if_pos c2, if_pos c2]
      obtain ⟨τ, t1, t2, t3, t4, t5, t6, t7⟩ := F_runAll (k := x1) (lt_ := 0) (σ := sI σ 124 0 0) hV hB hr
      rw [t1, bv_some]
      obtain ⟨g, hg⟩ := BIGe (nP row) (by omega)
      rw [show F_X12_knock_36 BIG = F_X12_knock_36 (nP row + 1 + g) by rw [hg]]
      obtain ⟨τ2, u1, u2, u3, u4⟩ := knock_36 (x2 := x2) (g := g) hB (nP row) 0 τ (by omega) t2 (fun q hq => absurd hq (Nat.not_lt_zero q))
      obtain ⟨τ3, τ4, r1, r2, r3, r4, r5, r6, r7, r8, r9⟩ := F_runs (lt_ := x2) (n := 260) hV hB (by omega) u2
      have em : nI 260 + (-1) = (259 : Int32) := by decide
      rw [em] at r2
      have u1' : F_X12_knock_36 (nP row + 1 + g) x2 (0 : Int32) τ = _ := u1
      rw [u1', r1, bv_some, r2, bv_some, hg]
      have kk := knock_86 (row := row) (A := knD row x1 0) (B := knD row x1 x2) (g := g) (σ := τ4) hB r3.1 (fun p hp => by
        rw [r9.rI (by simp [RNc]) (by simp [RNf]), u3 p hp]
        exact t4.at (c := 149) (by decide) (by decide) (by decide) (by show 3 * p + 2 < 90; omega)) (fun p hp => r5.at (c := 149) (by decide) (by decide) (by decide) (by show 3 * p + 2 < 90; omega)) (nP row) 0 (by omega)
      have kk' : F_X12_knock_86 (nP row + 1 + g) (0 : Int32) (0 : Int32) τ4 = _ := kk
      rw [kk']
      exact ⟨τ4, rfl, ((c0.trans (t7.mono (by simp [RNc, PQc]) (by simp [RNf, PQf]))).trans (u4.mono (by simp [PQc]) (by simp))).trans (r9.mono (by simp [RNc, PQc]) (by simp [RNf, PQf]))⟩
    · rw [if_neg c2, if_neg c2]; exact no _ rfl
  · rw [if_neg c1, if_neg c1]; exact no _ rfl
theorem knockC_loop {row : Nat → Int32} {A B : Nat → Int32} {a1 a2 g : Nat} {σ : AH} (hB : BV row) (hT : TbB row σ) (hA : ∀ p, p < nP row → F_X6_doneWeek a1 (nI p) σ = some (A p, σ)) (hBB : ∀ p, p < nP row → F_X6_doneWeek a2 (nI p) σ = some (B p, σ)) : ∀ (j p : Nat), p + j = nP row → F_X11_knock_41 (j + 1 + g) a1 a2 (knS A B p) (nI p) σ = some (knS A B (nP row), σ) := by
  obtain ⟨p0, b30, p2⟩ := hB.p
  intro j
  induction j with
  | zero =>
    intro p hp
    have e : F_X11_knock_41 (0 + 1 + g) = B_X11_knock_41 (F_X11_knock_41 g) := by rw [Nat.zero_add, Nat.add_comm]; rfl
    rw [e]; unfold B_X11_knock_41
    rw [rows_p hT, bd_some, if_pos (nI_le (by omega) (by omega)), show p = nP row by omega]
  | succ j ih =>
    intro p hp
    have e : F_X11_knock_41 (j + 1 + 1 + g) = B_X11_knock_41 (F_X11_knock_41 (j + 1 + g)) := by rw [show j + 1 + 1 + g = (j + 1 + g) + 1 by omega]; rfl
    rw [e]; unfold B_X11_knock_41 F_X11_knock_95 F_X11_knock_101
    rw [rows_p hT, bd_some, if_neg (nI_ge (by omega) (by omega)), hA p (by omega), bd_some, hBB p (by omega), bd_some, nI_1]
    have ih' := ih (p + 1) (by omega)
    have st : knS A B (p + 1) = if A p = -1 then knS A B p else knS A B p + ((if B p = -1 then 260 else B p) - A p) := rfl
    rw [st] at ih'
    by_cases c : A p = -1
    · rw [if_pos c] at ih' ⊢; exact ih'
    · rw [if_neg c] at ih' ⊢
      by_cases d : B p = -1
      · rw [if_pos d] at ih' ⊢; exact ih'
      · rw [if_neg d] at ih' ⊢; exact ih'
theorem C_knock {row : Nat → Int32} {x1 x2 : Int32} {σ : AH} (hV : AV row) (hW : AW row) (hB : BV row) (hI : RgI row σ) : ∃ τ, F_X11_knock x1 x2 σ = some (knockV row x1 x2, τ) ∧ RgI row τ ∧ Ch RGc RGf σ τ := by
  have no : ∀ v : Int32, v = -2000000000 → ∃ τ, some ((-2000000000 : Int32), σ) = some (v, τ) ∧ RgI row τ ∧ Ch RGc RGf σ τ := fun v hv => ⟨_, by rw [hv], hI, Ch.rf _⟩
  obtain ⟨p0, b30, p2⟩ := hB.p
  unfold F_X11_knock knockV
  simp only [F_isWeekC, isIn126, bd_b (α := Int32)]
  by_cases c1 : rgB 0 259 x1 = true
  · rw [if_pos c1, if_pos c1]
    by_cases c2 : rgB 1 26 x2 = true
    · rw [if_pos c2, if_pos c2]
      obtain ⟨e1, b1⟩ := rg0_n (b := 259) c1 (by decide)
      have h2 := rgB_iff.mp c2
      have e2 : isN x2 27 := isN.of (by have := h2.1; omega) (by have := h2.2; omega)
      have b2' : 1 ≤ cl x2 := by have := h2.1; unfold cl; rw [cl_toInt]; omega
      have b3 := e2.2
      have hk : (0 : Int32) ≤ x1 := by rw [e1]; exact nI_le (a := 0) (by omega) (by omega)
      obtain ⟨kn, KE_, _⟩ := F_knowing hV hk hI.2.1 hI.1
      have hs : ∀ p w, sw row (ltK row x1) p = some w → w < 260 := fun p w h => sw_lt hB h
      obtain ⟨τ, t1, t2, t3, t4, t5, t6, t7⟩ := runFor_44 (k := ltK row x1) (l := 0) hV hW hB (by omega) hI.1 hI.2.1 hI.2.2.1 hI.2.2.2.1
      have g56 : RcI row 56 τ := hI.2.2.2.2.keep t7 (by simp [RFc]) (by simp [RFf])
      have f1 : F_X11_runFor x1 (0 : Int32) σ = some (44, τ) := by
        unfold F_X11_runFor
        rw [kn, bd_some, if_pos rfl]; exact t1
      rw [f1, bd_some, if_pos (by unfold runIds; simp)]
      obtain ⟨kn2, _, _⟩ := F_knowing (σ := τ) hV hk t4 t3
      obtain ⟨τ2, u1, u2, u3, u4, u5, u6, u7⟩ := runFor_56 (k := ltK row x1) (l := cl x2) hV hW hB (by omega) t3 t4 t5 g56
      have f2 : F_X11_runFor x1 x2 τ = some (56, τ2) := by
        unfold F_X11_runFor
        have z : ¬ x2 = 0 := fun q => by rw [q] at b2'; exact absurd b2' (by decide)
        rw [kn2, bd_some, if_neg z]
        have := u1
        rw [← e2.1] at this; exact this
      rw [f2, bd_some, if_pos (by unfold runIds; simp)]
      have r44 := t2.keep u7 (by simp [RFc]) (by simp [RFf])
      have c44 : RcI row 44 τ2 := t6.keep u7 (by simp [RFc]) (by simp [RFf])
      obtain ⟨g, hg⟩ := BIGe (nP row) (by omega)
      have eA : ∀ p, knD row x1 0 p = rw_ row (ltK row x1) 0 (sw row (ltK row x1)) 260 149 (3 * p + 2) := fun p => by unfold knD; rw [runR_ke KE_]; rfl
      have eB : ∀ p, knD row x1 x2 p = rw_ row (ltK row x1) (cl x2) (sw row (ltK row x1)) 260 149 (3 * p + 2) := fun p => by unfold knD; rw [runR_ke KE_, runR_rw e2.1]
      have kk := knockC_loop (A := knD row x1 0) (B := knD row x1 x2) (g := g) hB u3 (fun p hp => by rw [eA]; exact F_doneWeek hs b30 hp r44) (fun p hp => by rw [eB]; exact F_doneWeek hs b30 hp u2) (nP row) 0 (by omega)
      rw [hg]
      have kk' : F_X11_knock_41 (nP row + 1 + g) 44 56 (0 : Int32) (0 : Int32) τ2 = _ := kk
      rw [kk']
      refine ⟨τ2, rfl, ⟨u3, u4, u5, c44, u6⟩, ?_⟩
      exact (t7.mono (fun i hi => List.mem_append_left _ hi) (fun q hq => Or.inl (List.mem_append_left _ hq))).trans (u7.mono (fun i hi => List.mem_append_right _ hi) (fun q hq => Or.inl (List.mem_append_right _ hq)))
    · rw [if_neg c2, if_neg c2]; exact no _ rfl
  · rw [if_neg c1, if_neg c1]; exact no _ rfl
end
