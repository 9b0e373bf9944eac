section
/-! roof: the class -/
theorem oc_entry {N n E : Nat} {C : Nat → Nat → Int32} {oc : Nat → Nat → Option (Nat × Nat × Bool × Nat)} (h : RpC N n C oc) (hE : ∀ s, s < n → cl (C s 1) < E) {p w : Nat} (hp : p < N) (hw : w < 260) {a : Nat × Nat × Bool × Nat} (ha : oc p w = some a) : a.1 < E := by
  obtain ⟨s, s1, s2, s3⟩ := (h p hp w hw).2.1 a ha
  have := (h p hp w hw).1 s s1 s2 s3
  rw [ha] at this
  cases this
  exact hE s s1
theorem rfP_congr {N E : Nat} {oc : Nat → Nat → Option (Nat × Nat × Bool × Nat)} {f f' : Nat → Int32} {fam : Int32} {w : Nat} {b : Bool} (hE : ∀ p a, p < N → oc p w = some a → a.1 < E) (h : ∀ e, e < E → f e = f' e) : ∀ j p, p + j = N → fsF (rfP oc f fam w b) j p = fsF (rfP oc f' fam w b) j p := by
  intro j
  induction j with
  | zero => intro p _; rfl
  | succ j ih =>
    intro p hp
    have e1 : ∀ g : Nat → Int32, fsF (rfP oc g fam w b) (j + 1) p = if rfP oc g fam w b p = true then some p else fsF (rfP oc g fam w b) j (p + 1) := fun _ => rfl
    rw [e1, e1, ih (p + 1) (by omega)]
    have e2 : rfP oc f fam w b p = rfP oc f' fam w b p := by
      unfold rfP
      cases o : oc p w with
      | none => rfl
      | some a => dsimp only; rw [h a.1 (hE p a (by omega) o)]
    rw [e2]
theorem roofOf_loop {row : Nat → Int32} {oc : Nat → Nat → Option (Nat × Nat × Bool × Nat)} {n w g : Nat} {C : Nat → Nat → Int32} {fam : Int32} {σ : AH} (hB : BV row) (hE : EV row) (hT : TbB row σ) (hY : TbY σ n C) (hV : CyV (nP row) (nE row) n C) (hR : RpC (nP row) n C oc) (hw : w < 260) : ∀ (j p : Nat), p + j = nP row → F_X2_roofOf_2 (j + 1 + g) fam (nI w) (nI p) σ = some (oI (fsF (rfP oc (gI σ 114) fam w true) j p), σ) := by
  have b30 := hB.p.2.1
  have e60 := hE.n.2
  have hn : n ≤ 7830 := hY.2.1.2.2.2
  intro j
  induction j with
  | zero =>
    intro p hp
    rw [show 0 + 1 + g = g + 1 by omega]
    show B_X2_roofOf_2 (F_X2_roofOf_2 g) fam (nI w) (nI p) σ = _
    unfold B_X2_roofOf_2
    rw [rows_p hT, bd_some, if_pos (nI_le (by omega) (by omega))]; rfl
  | succ j ih =>
    intro p hp
    rw [show j + 1 + 1 + g = (j + 1 + g) + 1 by omega]
    show B_X2_roofOf_2 (F_X2_roofOf_2 (j + 1 + g)) fam (nI w) (nI p) σ = _
    unfold B_X2_roofOf_2 F_X2_roofOf_57
    have lt : p < nP row := by omega
    have ih' := ih (p + 1) (by omega)
    have st : fsF (rfP oc (gI σ 114) fam w true) (j + 1) p = if rfP oc (gI σ 114) fam w true p = true then some p else fsF (rfP oc (gI σ 114) fam w true) j (p + 1) := rfl
    rw [rows_p hT, bd_some, if_neg (nI_ge lt (by omega)), F_livedStay hY, bd_some, nI_1, st]
    rcases lsY_oc hR lt hw with ⟨z1, z2⟩ | ⟨s, s1, s2, s3, s4⟩
    · have no : rfP oc (gI σ 114) fam w true p = false := by
        unfold rfP
        cases o : oc p w with
        | none => rfl
        | some a => dsimp only; rw [z2 a o]; cases decide (gI σ 114 a.1 = fam) <;> rfl
      rw [z1, show oI none = -1 from rfl, if_pos rfl, no, if_neg (by decide)]; exact ih'
    · obtain ⟨v0, v1, _, _⟩ := hV s s1
      have l1 := v1.2
      have a1 : F_X8_at 17 (nI s) (1 : Int32) σ = some (nI (cl (C s 1)), σ) := by rw [← v1.1]; exact F_atG (c := 1) hY s1 (by decide) (by decide)
      rw [s2, show oI (some s) = nI s from rfl, if_neg (nI_neg1 (by omega)), a1, bd_some, if_pos (inB_n (by omega) (by omega)), nI_clamp (by omega)]
      have er : rfP oc (gI σ 114) fam w true p = decide (gI σ 114 (cl (C s 1)) = fam) := by
        unfold rfP
        rw [s3]
        show (decide (gI σ 114 (cl (C s 1)) = fam) && (decide (C s 3 ≤ nI w) == true)) = _
        rw [decide_eq_true s4]; cases decide (gI σ 114 (cl (C s 1)) = fam) <;> rfl
      rw [er]
      by_cases c : gI σ 114 (cl (C s 1)) = fam
      · rw [if_pos c, decide_eq_true c, if_pos rfl]; rfl
      · rw [if_neg c, decide_eq_false c, if_neg (by decide)]; exact ih'
theorem C_roof {row : Nat → Int32} {oc : Nat → Nat → Option (Nat × Nat × Bool × Nat)} {n : Nat} {C : Nat → Nat → Int32} {f : Nat → Int32} {x1 x2 : Int32} {σ : AH} (hB : BV row) (hE : EV row) (hT : TbB row σ) (hTE : TbE row σ) (hY : TbY σ n C) (hV : CyV (nP row) (nE row) n C) (hR : RpC (nP row) n C oc) (hJ : JcI row σ) (hf : rgB 0 259 x2 = true → FmF row x2 f) :
    ∃ τ, F_X11_roof x1 x2 σ = some (roofV row oc f x1 x2, τ) ∧ JcI row τ ∧ Ch [114] [(113, 3), (113, 4)] σ τ := by
  have e60 := hE.n.2
  have b30 := hB.p.2.1
  unfold F_X11_roof roofV
  rw [F_isWeekC, bd_b (α := Int32), F_isKnownEntry hE hTE, bd_b (α := Int32)]
  by_cases c2 : rgB 0 259 x2 = true
  · rw [if_pos c2]
    by_cases c1 : ltB (nE row) x1 = true ∧ ¬ x2 < en row (cl x1) 6
    · rw [if_pos c1, if_pos (c := ltB (nE row) x1 = true ∧ rgB 0 259 x2 = true ∧ ¬ x2 < en row (cl x1) 6) ⟨c1.1, c2, c1.2⟩]
      obtain ⟨e1, b1⟩ := ltB_n c1.1 (by omega)
      obtain ⟨e2, b2'⟩ := rg0_n (b := 259) c2 (by decide)
      obtain ⟨τ, u1, u2, u3, u4⟩ := F_join (k := x2) hE hTE hJ
      have q : inB x1 60 = true := by rw [e1]; exact inB_n (by omega) (by omega)
      rw [u1, bv_some, if_pos q]
      have hT1 : TbB row τ := hT.ch u4 (by simp) (by simp)
      have hY1 : TbY τ n C := hY.ch u4 (by simp) (by simp)
      unfold F_X2_roofOf
      obtain ⟨g, hg⟩ := BIGe (nP row) (by omega)
      have k := roofOf_loop (g := g) (fam := gI τ 114 (cl x1)) (w := cl x2) hB hE hT1 hY1 hV hR (by omega) (nP row) 0 (by omega)
      rw [← e2] at k
      have k' : F_X2_roofOf_2 BIG (gI τ 114 x1.toNatClampNeg) x2 (0 : Int32) τ = some (oI (fsF (rfP oc (gI τ 114) (gI τ 114 (cl x1)) (cl x2) true) (nP row) 0), τ) := by rw [hg]; exact k
      rw [k', bd_some]
      refine ⟨τ, ?_, u3, u4⟩
      have fe : ∀ e, e < nE row → gI τ 114 e = f e := fun e he => fam_unique hE u2 (hf c2) he
      rw [fe _ b1, rfP_congr (f' := f) (E := nE row) (fun p a hp ha => oc_entry hR (fun s hs => (hV s hs).2.1.2) hp (by omega) ha) fe (nP row) 0 (by omega)]
    · rw [if_neg c1, if_neg (c := ltB (nE row) x1 = true ∧ rgB 0 259 x2 = true ∧ ¬ x2 < en row (cl x1) 6) (fun z => c1 ⟨z.1, z.2.2⟩)]
      exact ⟨σ, rfl, hJ, Ch.rf _⟩
  · rw [if_neg c2, if_neg (c := ltB (nE row) x1 = true ∧ rgB 0 259 x2 = true ∧ ¬ x2 < en row (cl x1) 6) (fun z => c2 z.2.1)]
    exact ⟨σ, rfl, hJ, Ch.rf _⟩
/-! under -/
def nL (row : Nat → Int32) : Nat := cl (row 9)
def lo (row : Nat → Int32) (d j : Nat) : Int32 := row (24432 + 4 * d + j)
def LV (row : Nat → Int32) : Prop := isN (row 9) 41 ∧ ∀ d, d < nL row → isN (lo row d 0) (nP row) ∧ isN (lo row d 1) 21 ∧ isN (lo row d 2) 260 ∧ isN (lo row d 3) 260
def TbL (row : Nat → Int32) (σ : AH) : Prop := Tb row σ 15 9 24432 4 40
theorem at_lo {row : Nat → Int32} {σ : AH} {d j : Nat} (h : TbL row σ) (hd : d < nL row) (hj : j < 4) : F_X8_at 15 (nI d) (nI j) σ = some (lo row d j, σ) := by
  have := F_at h hd hj (by decide)
  rw [this]
  unfold lo
  rw [show 24432 + (d * 4 + j) = 24432 + 4 * d + j by omega]
def lgB (row : Nat → Int32) (p w d : Nat) : Bool := decide (lo row d 0 = nI p ∧ lo row d 2 ≤ nI w ∧ nI w ≤ lo row d 3)
def lgN (row : Nat → Int32) (p w : Nat) : Nat → Nat := fun d => match d with
  | 0 => 0
  | d + 1 => lgN row p w d + (if lgB row p w d = true then cl (lo row d 1) else 0)
theorem underR_loop {row : Nat → Int32} {p w g S : Nat} {σ : AH} (hV : LV row) (hw : w < 260) (hr : gI σ 125 = row) : ∀ (j d : Nat), d + j = nL row → F_X12_under_60 (j + 1 + g) (nI p) (nI w) (nI (S + lgN row p w d)) (nI d) σ = some (nI (S + lgN row p w (nL row)), σ) := by
  have n0 : row 9 = nI (nL row) := hV.1.1
  have n40 : nL row ≤ 40 := by have := hV.1.2; unfold nL; omega
  intro j
  induction j with
  | zero =>
    intro d hd
    rw [show 0 + 1 + g = g + 1 by omega]
    show B_X12_under_60 (F_X12_under_60 g) (nI p) (nI w) (nI (S + lgN row p w d)) (nI d) σ = _
    unfold B_X12_under_60
    rw [hr, n0, if_pos (nI_le (by omega) (by omega)), show d = nL row by omega]
  | succ j ih =>
    intro d hd
    rw [show j + 1 + 1 + g = (j + 1 + g) + 1 by omega]
    show B_X12_under_60 (F_X12_under_60 (j + 1 + g)) (nI p) (nI w) (nI (S + lgN row p w d)) (nI d) σ = _
    unfold B_X12_under_60 F_X12_under_135 F_X12_under_136
    have lt : d < nL row := by omega
    obtain ⟨v0, v1, v2, v3⟩ := hV.2 d lt
    have l2 := v2.2
    have l3 := v3.2
    have i0 : (24432 : Int32) + (4 : Int32) * nI d = nI (24432 + 4 * d) := by simp only [fa_lit, nI_add, pk_mul]
    have i1 : nI (24432 + 4 * d) + (1 : Int32) = nI (24432 + 4 * d + 1) := nI_add _ 1
    have i2 : nI (24432 + 4 * d) + (2 : Int32) = nI (24432 + 4 * d + 2) := nI_add _ 2
    have i3 : nI (24432 + 4 * d) + (3 : Int32) = nI (24432 + 4 * d + 3) := nI_add _ 3
    have q0 : inB (nI (24432 + 4 * d)) 269832 = true := inB_n (by omega) (by omega)
    have q1 : inB (nI (24432 + 4 * d + 1)) 269832 = true := inB_n (by omega) (by omega)
    have q2 : inB (nI (24432 + 4 * d + 2)) 269832 = true := inB_n (by omega) (by omega)
    have q3 : inB (nI (24432 + 4 * d + 3)) 269832 = true := inB_n (by omega) (by omega)
    have n1 : (nI (24432 + 4 * d)).toNatClampNeg = 24432 + 4 * d := nI_clamp (by omega)
    have n2 : (nI (24432 + 4 * d + 1)).toNatClampNeg = 24432 + 4 * d + 1 := nI_clamp (by omega)
    have n3 : (nI (24432 + 4 * d + 2)).toNatClampNeg = 24432 + 4 * d + 2 := nI_clamp (by omega)
    have n4 : (nI (24432 + 4 * d + 3)).toNatClampNeg = 24432 + 4 * d + 3 := nI_clamp (by omega)
    have y0 : row (24432 + 4 * d) = lo row d 0 := rfl
    have y1 : row (24432 + 4 * d + 1) = nI (cl (lo row d 1)) := v1.1
    have y2 : row (24432 + 4 * d + 2) = lo row d 2 := rfl
    have y3 : row (24432 + 4 * d + 3) = lo row d 3 := rfl
    rw [hr, n0, if_neg (nI_ge lt (by omega))]
    simp only [i0, i1, i2, i3, q0, q1, q2, q3, n1, n2, n3, n4, if_true, hr, y0, y1, y2, y3, nI_1]
    have fi : F_X12_in (nI w).toInt64 (lo row d 2).toInt64 (lo row d 3).toInt64 σ = some (if lo row d 2 ≤ nI w ∧ nI w ≤ lo row d 3 then 1 else 0, σ) := by
      unfold F_X12_in
      have h1 : ((nI w).toInt64 < (lo row d 2).toInt64) ↔ ¬ lo row d 2 ≤ nI w := by rw [Int64.lt_iff_toInt_lt, Int32.toInt_toInt64, Int32.toInt_toInt64, Int32.le_iff_toInt_le]; omega
      have h2 : ((lo row d 3).toInt64 < (nI w).toInt64) ↔ ¬ nI w ≤ lo row d 3 := by rw [Int64.lt_iff_toInt_lt, Int32.toInt_toInt64, Int32.toInt_toInt64, Int32.le_iff_toInt_le]; omega
      by_cases c1 : lo row d 2 ≤ nI w
      · rw [if_neg (fun z => h1.mp z c1)]
        by_cases c2 : nI w ≤ lo row d 3
        · rw [if_neg (fun z => h2.mp z c2), if_pos ⟨c1, c2⟩]
        · rw [if_pos (h2.mpr c2), if_neg (fun z => c2 z.2)]
      · rw [if_pos (h1.mpr c1), if_neg (fun z => c1 z.1)]
    rw [fi, bd_b (α := Int32)]
    have ih' := ih (d + 1) (by omega)
    have st : lgN row p w (d + 1) = lgN row p w d + (if lgB row p w d = true then cl (lo row d 1) else 0) := rfl
    rw [st] at ih'
    have z0 : nI (S + lgN row p w d) + (0 : Int32) = nI (S + lgN row p w d + 0) := nI_add _ 0
    by_cases c0 : lo row d 0 = nI p
    · rw [if_pos c0]
      by_cases c1 : lo row d 2 ≤ nI w ∧ nI w ≤ lo row d 3
      · have t : lgB row p w d = true := decide_eq_true ⟨c0, c1.1, c1.2⟩
        rw [t, if_pos rfl] at ih'
        rw [if_pos c1, hr, y1, nI_add, Nat.add_assoc S]; exact ih'
      · have t : lgB row p w d = false := decide_eq_false (fun z => c1 z.2)
        rw [t, if_neg (by decide)] at ih'
        rw [if_neg c1, z0]; exact ih'
    · have t : lgB row p w d = false := decide_eq_false (fun z => c0 z.1)
      rw [t, if_neg (by decide)] at ih'
      rw [if_neg c0, z0]; exact ih'
theorem underC_loop {row : Nat → Int32} {p w g S : Nat} {σ : AH} (hV : LV row) (hT : TbL row σ) (hw : w < 260) : ∀ (j d : Nat), d + j = nL row → F_X11_under_64 (j + 1 + g) (nI p) (nI w) (nI (S + lgN row p w d)) (nI d) σ = some (nI (S + lgN row p w (nL row)), σ) := by
  have n40 : nL row ≤ 40 := by have := hV.1.2; unfold nL; omega
  have rw_ : F_X8_rows 15 σ = some (nI (nL row), σ) := F_rows hT
  intro j
  induction j with
  | zero =>
    intro d hd
    rw [show 0 + 1 + g = g + 1 by omega]
    show B_X11_under_64 (F_X11_under_64 g) (nI p) (nI w) (nI (S + lgN row p w d)) (nI d) σ = _
    unfold B_X11_under_64
    rw [rw_, bd_some, if_pos (nI_le (by omega) (by omega)), show d = nL row by omega]
  | succ j ih =>
    intro d hd
    rw [show j + 1 + 1 + g = (j + 1 + g) + 1 by omega]
    show B_X11_under_64 (F_X11_under_64 (j + 1 + g)) (nI p) (nI w) (nI (S + lgN row p w d)) (nI d) σ = _
    unfold B_X11_under_64 F_X11_under_148
    have lt : d < nL row := by omega
    obtain ⟨v0, v1, v2, v3⟩ := hV.2 d lt
    have a0 : F_X8_at 15 (nI d) (0 : Int32) σ = some (lo row d 0, σ) := at_lo (j := 0) hT lt (by decide)
    have a1 : F_X8_at 15 (nI d) (1 : Int32) σ = some (nI (cl (lo row d 1)), σ) := by rw [← v1.1]; exact at_lo (j := 1) hT lt (by decide)
    have a2 : F_X8_at 15 (nI d) (2 : Int32) σ = some (lo row d 2, σ) := at_lo (j := 2) hT lt (by decide)
    have a3 : F_X8_at 15 (nI d) (3 : Int32) σ = some (lo row d 3, σ) := at_lo (j := 3) hT lt (by decide)
    rw [rw_, bd_some, if_neg (nI_ge lt (by omega))]
    simp only [a0, a1, a2, a3, bd_some, nI_1, nI_add]
    have ih' := ih (d + 1) (by omega)
    have st : lgN row p w (d + 1) = lgN row p w d + (if lgB row p w d = true then cl (lo row d 1) else 0) := rfl
    rw [st] at ih'
    have no : lgB row p w d = false → F_X11_under_64 (j + 1 + g) (nI p) (nI w) (nI (S + lgN row p w d)) (nI (d + 1)) σ = some (nI (S + lgN row p w (nL row)), σ) := fun t => by
      rw [t, if_neg (by decide)] at ih'; exact ih'
    by_cases c0 : lo row d 0 = nI p
    · rw [if_pos c0]
      by_cases c1 : nI w < lo row d 2
      · rw [if_pos c1]
        exact no (decide_eq_false (fun z => by have := z.2.1; rw [Int32.le_iff_toInt_le] at this; rw [Int32.lt_iff_toInt_lt] at c1; omega))
      · rw [if_neg c1]
        by_cases c2 : lo row d 3 < nI w
        · rw [if_pos c2]
          exact no (decide_eq_false (fun z => by have := z.2.2; rw [Int32.le_iff_toInt_le] at this; rw [Int32.lt_iff_toInt_lt] at c2; omega))
        · rw [if_neg c2]
          have t : lgB row p w d = true := decide_eq_true ⟨c0, by rw [Int32.le_iff_toInt_le]; rw [Int32.lt_iff_toInt_lt] at c1; omega, by rw [Int32.le_iff_toInt_le]; rw [Int32.lt_iff_toInt_lt] at c2; omega⟩
          rw [t, if_pos rfl] at ih'
          rw [Nat.add_assoc S]; exact ih'
    · rw [if_neg c0]; exact no (decide_eq_false (fun z => c0 z.1))
def unP (row : Nat → Int32) (a : Option (Nat × Nat × Bool × Nat)) : Nat := match a with
  | none => 0
  | some a => if a.2.2.1 = true then cl (en row a.1 2) else 0
def underV (row : Nat → Int32) (oc : Nat → Nat → Option (Nat × Nat × Bool × Nat)) (x1 x2 : Int32) : Int32 := if ltB (nP row) x1 = true then (if rgB 0 259 x2 = true then nI (unP row (oc (cl x1) (cl x2)) + lgN row (cl x1) (cl x2) (nL row)) else -1) else -1
theorem P_under {row : Nat → Int32} {oc : Nat → Nat → Option (Nat × Nat × Bool × Nat)} {x1 x2 : Int32} {σ : AH} (hB : BV row) (hE : EV row) (hV : SyV row) (hL : LV row) (hR : RpC (nP row) (nY row) (sy row) oc) (hr : gI σ 125 = row) : F_X12_under x1 x2 σ = some (underV row oc x1 x2, sI σ 124 0 0) := by
  have b30 := hB.p.2.1
  have n30 := hV.n.2
  have n40 : nL row ≤ 40 := by have := hL.1.2; unfold nL; omega
  have e60 := hE.n.2
  unfold F_X12_under underV
  have ip : F_X12_isPlot x1 (sI σ 124 0 0) = some (if ltB (nP row) x1 = true then 1 else 0, sI σ 124 0 0) := F_isPlot hB hr
  rw [ip, bd_b (α := Int32), F_isWeek, bd_b (α := Int32)]
  by_cases c1 : ltB (nP row) x1 = true
  · rw [if_pos c1, if_pos c1]
    by_cases c2 : rgB 0 259 x2 = true
    · rw [if_pos c2, if_pos c2]
      obtain ⟨e1, b1⟩ := ltB_n c1 (by omega)
      obtain ⟨e2, b2'⟩ := rg0_n (b := 259) c2 (by decide)
      have hr0 : gI (sI σ 124 0 (0 : Int32)) 125 = row := hr
      have lv : F_X12_livingIn x1 x2 (sI σ 124 0 (0 : Int32)) = some (oI (lvS row (cl x1) (cl x2) (nY row)), sI σ 124 0 0) := by
        have := F_livingIn (p := cl x1) (w := cl x2) (σ := sI σ 124 0 (0 : Int32)) hV hr0
        rw [← e1, ← e2] at this; exact this
      obtain ⟨g, hg⟩ := BIGe (nL row) (by omega)
      have lg : ∀ S, F_X12_under_55 x1 x2 (nI S) (sI σ 124 0 0) = some (nI (S + lgN row (cl x1) (cl x2) (nL row)), sI σ 124 0 0) := fun S => by
        unfold F_X12_under_55
        have := underR_loop (g := g) (S := S) (p := cl x1) (w := cl x2) (σ := sI σ 124 0 0) hL (by omega) hr0 (nL row) 0 (by omega)
        rw [← e1, ← e2] at this
        rw [hg]; exact this
      rw [lv, bd_some]
      rcases lvS_oc hR b1 (show cl x2 < 260 by omega) with ⟨z1, z2⟩ | ⟨s, s1, s2, s3, s4⟩
      · have u0 : unP row (oc (cl x1) (cl x2)) = 0 := by
          unfold unP
          cases o : oc (cl x1) (cl x2) with
          | none => rfl
          | some a => dsimp only; rw [z2 a o, if_neg (by decide)]
        rw [z1, show oI none = -1 from rfl, if_pos rfl, u0]; exact lg 0
      · obtain ⟨v0, v1, v2, v3, v6, v7⟩ := hV.2 s s1
        obtain ⟨q1, n1⟩ := sy_at (s := s) (j := 1) (by omega) (by decide)
        have y1 : row (29512 + 8 * s + 1) = nI (cl (sy row s 1)) := v1.1
        have p2 := (hE.2 (cl (sy row s 1)) v1.2).2.2.1
        have ea : F_X12_entryAt (nI (cl (sy row s 1))) (nI 2) (sI σ 124 0 (0 : Int32)) = some (nI (cl (en row (cl (sy row s 1)) 2)), sI σ 124 0 0) := by
          have := F_entryAt (σ := sI σ 124 0 (0 : Int32)) (e := cl (sy row s 1)) (j := 2) hE v1.2 (by decide) hr0
          rw [p2.1] at this; exact this
        have u1 : unP row (oc (cl x1) (cl x2)) = cl (en row (cl (sy row s 1)) 2) := by
          unfold unP
          rw [s3]
          show (if decide (sy row s 3 ≤ nI (cl x2)) = true then cl (en row (cl (sy row s 1)) 2) else 0) = _
          rw [if_pos (decide_eq_true s4)]
        rw [s2, show oI (some s) = nI s from rfl, if_neg (nI_neg1 (by omega)), F_stayAt, bd_some, fa_lit 1, fa_lit 2, if_pos q1, n1, hr0, y1, ea, bd_some, u1]
        exact lg _
    · rw [if_neg c2, if_neg c2]
  · rw [if_neg c1, if_neg c1]
theorem C_under {row : Nat → Int32} {oc : Nat → Nat → Option (Nat × Nat × Bool × Nat)} {n : Nat} {C : Nat → Nat → Int32} {x1 x2 : Int32} {σ : AH} (hB : BV row) (hE : EV row) (hL : LV row) (hT : TbB row σ) (hTE : TbE row σ) (hTL : TbL row σ) (hY : TbY σ n C) (hV : CyV (nP row) (nE row) n C) (hR : RpC (nP row) n C oc) : F_X11_under x1 x2 σ = some (underV row oc x1 x2, σ) := by
  have b30 := hB.p.2.1
  have n40 : nL row ≤ 40 := by have := hL.1.2; unfold nL; omega
  have e60 := hE.n.2
  have hn : n ≤ 7830 := hY.2.1.2.2.2
  unfold F_X11_under underV
  rw [F_isPlotC hB hT, bd_b (α := Int32), F_isWeekC, bd_b (α := Int32)]
  by_cases c1 : ltB (nP row) x1 = true
  · rw [if_pos c1, if_pos c1]
    by_cases c2 : rgB 0 259 x2 = true
    · rw [if_pos c2, if_pos c2]
      obtain ⟨e1, b1⟩ := ltB_n c1 (by omega)
      obtain ⟨e2, b2'⟩ := rg0_n (b := 259) c2 (by decide)
      have lv : F_X2_livedStay x1 x2 σ = some (oI (lsY C n (cl x1) (cl x2)), σ) := by
        have := F_livedStay (p := cl x1) (w := cl x2) hY
        rw [← e1, ← e2] at this; exact this
      obtain ⟨g, hg⟩ := BIGe (nL row) (by omega)
      have lg : ∀ S, F_X11_under_59 x1 x2 (nI S) σ = some (nI (S + lgN row (cl x1) (cl x2) (nL row)), σ) := fun S => by
        unfold F_X11_under_59
        have := underC_loop (g := g) (S := S) (p := cl x1) (w := cl x2) hL hTL (by omega) (nL row) 0 (by omega)
        rw [← e1, ← e2] at this
        rw [hg]; exact this
      rw [lv, bd_some]
      rcases lsY_oc hR b1 (show cl x2 < 260 by omega) with ⟨z1, z2⟩ | ⟨s, s1, s2, s3, s4⟩
      · have u0 : unP row (oc (cl x1) (cl x2)) = 0 := by
          unfold unP
          cases o : oc (cl x1) (cl x2) with
          | none => rfl
          | some a => dsimp only; rw [z2 a o, if_neg (by decide)]
        rw [z1, show oI none = -1 from rfl, if_pos rfl, u0]; exact lg 0
      · obtain ⟨v0, v1, v2, v6⟩ := hV s s1
        have p2 := (hE.2 (cl (C s 1)) v1.2).2.2.1
        have a1 : F_X8_at 17 (nI s) (1 : Int32) σ = some (nI (cl (C s 1)), σ) := by rw [← v1.1]; exact F_atG (c := 1) hY s1 (by decide) (by decide)
        have a2 : F_X8_at 13 (nI (cl (C s 1))) (2 : Int32) σ = some (nI (cl (en row (cl (C s 1)) 2)), σ) := by rw [← p2.1]; exact at_en (j := 2) hTE v1.2 (by decide)
        have u1 : unP row (oc (cl x1) (cl x2)) = cl (en row (cl (C s 1)) 2) := by
          unfold unP
          rw [s3]
          show (if decide (C s 3 ≤ nI (cl x2)) = true then cl (en row (cl (C s 1)) 2) else 0) = _
          rw [if_pos (decide_eq_true s4)]
        rw [s2, show oI (some s) = nI s from rfl, if_neg (nI_neg1 (by omega)), a1, bd_some, a2, bd_some, u1]
        exact lg _
    · rw [if_neg c2, if_neg c2]
  · rw [if_neg c1, if_neg c1]
end
