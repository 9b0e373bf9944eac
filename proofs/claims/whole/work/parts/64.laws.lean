section
/-! what the class keeps of its ACTS is right -/
def LwI (row : Nat → Int32) (σ : AH) : Prop := ActsC row σ ∧ CS row σ ∧ ChnOK row σ
def LWc : List Nat := [31, 32, 33]
def LWf : List (Nat × Nat) := [(28, 6)]
theorem ChnOK.ch {row : Nat → Int32} {σ τ : AH} {cs : List Nat} {fs : List (Nat × Nat)} (h : ChnOK row σ) (c : Ch cs fs σ τ) (h1 : 29 ∉ cs) (h2 : 30 ∉ cs) (h3 : ∀ q ∈ fs, q.1 ≠ 29 ∧ q.1 ≠ 30) : ChnOK row τ :=
  ⟨fun h' hh => by rw [c.rI h1 (fun q hq => (h3 q hq).1)]; exact h.1 h' hh, fun p hp ho => by rw [c.rI h2 (fun q hq => (h3 q hq).2)]; exact h.2 p hp ho⟩
theorem CS.ch {row : Nat → Int32} {σ τ : AH} {cs : List Nat} {fs : List (Nat × Nat)} (h : CS row σ) (c : Ch cs fs σ τ) (h1 : 28 ∉ cs) (h2 : 31 ∉ cs) (h3 : ∀ q ∈ fs, q.1 ≠ 31 ∧ q ≠ (28, 6)) : CS row τ := by
  have e1 : gI τ 28 6 = gI σ 28 6 := c.pI h1 (fun q => (h3 _ q).2 rfl)
  have e2 : gI τ 31 = gI σ 31 := c.rI h2 (fun q hq => (h3 q hq).1)
  unfold CS
  rw [e1, e2]; exact h
/-- settled for WEEK w as known in k, and the setting of rooms and week asked -/
def Rdy (row : Nat → Int32) (k w r : Int32) (σ : AH) : Prop := LwI row σ ∧ FdOK row k w (gI σ 31) ∧ ∀ i, i < 8 → st8 (gI σ 32) i = stO r w i
theorem F_ask {r w : Int32} {σ : AH} : ∃ τ, F_X3_ask r w σ = some τ ∧ (∀ i, i < 8 → st8 (gI τ 32) i = stO r w i) ∧ Ch [32] [] σ τ := by
  unfold F_X3_ask
  rw [lt_e]
  refine ⟨_, rfl, fun i hi => ?_, ((Ch.sA1 (by simp)).trans (Ch.sI1 (Or.inr (by simp)))).trans (Ch.sI1 (Or.inr (by simp)))⟩
  rw [gI_sI_own, gI_sI_own, gI_sA_own]
  unfold st8 stO
  rcases (show i = 0 ∨ i = 1 ∨ i = 7 ∨ (i = 2 ∨ i = 3 ∨ i = 4 ∨ i = 5 ∨ i = 6) by omega) with rfl | rfl | rfl | h
  · rfl
  · rfl
  · rfl
  · rw [if_neg (by omega), up_ne _ _ _ (by omega), up_ne _ _ _ (by omega), up_ne _ _ _ (by omega), up_ne _ _ _ (by omega)]
    unfold filln
    rw [if_pos (by omega)]
theorem Rdy_of {row : Nat → Int32} {k w r : Int32} {σ : AH} (hV : AV row) (hW : AW row) (hL : LwI row σ) : ∃ τ1 τ, F_X3_settle w k σ = some τ1 ∧ F_X3_ask r w τ1 = some τ ∧ Rdy row k w r τ ∧ Ch LWc LWf σ τ := by
  obtain ⟨τ1, t1, t2, t3, t4⟩ := F_settle (k := k) (w := w) hV hW hL.1 hL.2.1
  obtain ⟨τ, u1, u2, u3⟩ := F_ask (r := r) (w := w) (σ := τ1)
  refine ⟨τ1, τ, t1, u1, ⟨⟨?_, t3.ch u3 (by simp) (by simp) (by simp), ?_⟩, by rw [u3.rI (by simp) (by simp)]; exact t2, u2⟩, (t4.mono (by simp [LWc]) (by simp [LWf])).trans (u3.mono (by simp [LWc]) (by simp))⟩
  · exact (hL.1.ch t4 (by simp) (by simp)).ch u3 (by simp) (by simp)
  · exact (hL.2.2.ch t4 (by simp) (by simp) (by simp)).ch u3 (by simp) (by simp) (by simp)
/-- what counts of a head -/
def cnV (row : Nat → Int32) (k w r : Int32) (H K S T : Int32) : Int32 := if (fd row k w (stO r w) H K S T).1 = true then aln (fd row k w (stO r w) H K S T).2.1 else -1
theorem Rdy_counted {row : Nat → Int32} {k w r : Int32} {h : Nat} {H K S T : Int32} {σ : AH} (hV : AV row) (hR : Rdy row k w r σ) (hh : h < 62) (hQ : QR row h H K S T) : ∃ τ, F_X3_counted (nI h) σ = some (cnV row k w r H K S T, τ) ∧ Rdy row k w r τ ∧ Ch LWc LWf σ τ := by
  obtain ⟨⟨a1, a2, a3⟩, a4, a5⟩ := hR
  obtain ⟨τ, t1, t2⟩ := F_counted (k := k) (w := w) (st := gI σ 32) hV hh a1 a4 a3 rfl
  refine ⟨τ, ?_, ⟨⟨a1.ch t2 (by simp) (by simp), a2.ch t2 (by simp) (by simp) (by simp), a3.ch t2 (by simp) (by simp) (by simp)⟩, by rw [t2.rI (by simp) (by simp)]; exact a4, by rw [t2.rI (by simp) (by simp)]; exact a5⟩, t2.mono (by simp [LWc]) (by simp)⟩
  rw [t1, cnA_fd hV hQ, fd_congr (st := st8 (gI σ 32)) (st' := stO r w) a5]
  rfl
theorem cnV_max {row : Nat → Int32} {k w r : Int32} {h : Nat} {H K S T : Int32} (hV : AV row) (hW : AW row) (hQ : QR row h H K S T) (h8 : H ≠ 8) : imax 0 (cnV row k w r H K S T) = if (fd row k w (stO r w) H K S T).1 = true then aln (fd row k w (stO r w) H K S T).2.1 else 0 := by
  -- the class's setting of the same numbers
  obtain ⟨st, hst⟩ : ∃ st : Nat → Int32, ∀ i, i < 8 → st8 st i = stO r w i := ⟨va_up (va_up (fun _ => 0) 0 r) 6 w, fun i hi => by
    unfold st8 stO
    rcases (show i = 0 ∨ i = 1 ∨ i = 7 ∨ (i = 2 ∨ i = 3 ∨ i = 4 ∨ i = 5 ∨ i = 6) by omega) with rfl | rfl | rfl | h
    · rfl
    · rfl
    · rfl
    · rw [if_neg (by omega), up_ne _ _ _ (by omega), up_ne _ _ _ (by omega), up_ne _ _ _ (by omega), up_ne _ _ _ (by omega)]⟩
  have hR := fd_lst (k := k) (w := w) (st := st) hV hQ
  rw [fd_congr (st := st8 st) (st' := stO r w) hst] at hR
  obtain ⟨r1, r2, _⟩ := hR
  unfold cnV
  cases hb : (fd row k w (stO r w) H K S T).1 with
  | false => rfl
  | true =>
    rw [hb] at r1
    rw [if_pos rfl, if_pos rfl]
    obtain ⟨x, hx⟩ := Option.isSome_iff_exists.mp r1.symm
    -- x is the SUM of a CLAUSE
    have hrg : rgI x := by
      have key : ∀ p y, lst row k w st h p = some y → rgI y := by
        intro p
        induction p with
        | zero => intro y hy; cases hy
        | succ p ih =>
          intro y hy
          have e1 : lst row k w st h (p + 1) = if okP row p = true ∧ hdP row p = h then (match hC row k w st p with | some x => some x | none => lst row k w st h p) else lst row k w st h p := rfl
          rw [e1] at hy
          by_cases c : okP row p = true ∧ hdP row p = h
          · rw [if_pos c] at hy
            obtain ⟨p1, p2⟩ := of_decide_eq_true c.1
            cases hc : hC row k w st p with
            | none => rw [hc] at hy; exact ih y hy
            | some z =>
              rw [hc] at hy
              have ez : z = y := by simpa using hy
              subst ez
              unfold hC at hc
              split at hc
              · have hrow : row (cA (p / 16) (p % 16)) ≠ 8 := by
                  intro q
                  have := hQ (p / 16) p1 (p % 16) p2
                  have hd : hdN row (p / 16) (p % 16) = h := c.2
                  rw [decide_eq_true hd] at this
                  have := (of_decide_eq_true this).1
                  exact h8 (this.symm.trans q)
                unfold cvv at hc
                rw [if_neg hrow] at hc
                exact hv_rg (hW _ p1 _ p2) hc
              · cases hc
          · rw [if_neg c] at hy; exact ih y hy
      exact key 384 x hx
    rw [r2 x hx]
    obtain ⟨j, j1, j2⟩ := aln_nn hrg
    rw [j2]
    unfold imax
    by_cases z : (0 : Int32) < nI j
    · rw [if_pos z]
    · rw [if_neg z]
      have : j = 0 := by
        rcases Nat.eq_zero_or_pos j with q | q
        · exact q
        · exact absurd (nI_lt (a := 0) q (by omega)) z
      subst this; rfl
theorem isIn02 {x : Int32} {σ : AH} : F_X11_isIn x (0 : Int32) (2 : Int32) σ = some (if rgB 0 2 x = true then 1 else 0, σ) := F_isIn (a := 0) (b := 2) (by decide) (by decide)
theorem isIn05 {x : Int32} {σ : AH} : F_X11_isIn x (0 : Int32) (5 : Int32) σ = some (if rgB 0 5 x = true then 1 else 0, σ) := F_isIn (a := 0) (b := 5) (by decide) (by decide)
theorem isIn16 {x : Int32} {σ : AH} : F_X11_isIn x (1 : Int32) (6 : Int32) σ = some (if rgB 1 6 x = true then 1 else 0, σ) := F_isIn (a := 1) (b := 6) (by decide) (by decide)
theorem QR_need {row : Nat → Int32} (hV : AV row) (hW : AW row) {kn sg mt : Nat} (hk : kn < 3) (hs : sg < 3) (hm : mt < 5) : QR row ((kn * 3 + sg) * 5 + mt) 1 (nI kn) (nI sg) (nI mt) := QR_of (hh := 1) hV hW (by omega) (by omega) hk hs hm (by omega) (by omega) (by omega)
theorem QR_work {row : Nat → Int32} (hV : AV row) (hW : AW row) {kn sg : Nat} (hk : kn < 3) (hs : sg < 3) : QR row (45 + (kn * 3 + sg)) 2 (nI kn) (nI sg) 0 := QR_of (hh := 2) (mt := 0) hV hW (by omega) (by omega) hk hs (by omega) (by omega) (by omega) (by omega)
theorem QR_points {row : Nat → Int32} (hV : AV row) (hW : AW row) : QR row 54 3 0 0 0 := QR_of (hh := 3) (kn := 0) (sg := 0) (mt := 0) hV hW (by omega) (by omega) (by omega) (by omega) (by omega) (by omega) (by omega) (by omega)
theorem QR_lic {row : Nat → Int32} (hV : AV row) (hW : AW row) {kn : Nat} (hk : kn < 3) : QR row (55 + kn) 4 (nI kn) 0 0 := QR_of (hh := 4) (sg := 0) (mt := 0) hV hW (by omega) (by omega) hk (by omega) (by omega) (by omega) (by omega) (by omega)
theorem QR_rent {row : Nat → Int32} (hV : AV row) (hW : AW row) : QR row 58 5 0 0 0 := QR_of (hh := 5) (kn := 0) (sg := 0) (mt := 0) hV hW (by omega) (by omega) (by omega) (by omega) (by omega) (by omega) (by omega) (by omega)
theorem QR_huts {row : Nat → Int32} (hV : AV row) (hW : AW row) : QR row 59 6 0 0 0 := QR_of (hh := 6) (kn := 0) (sg := 0) (mt := 0) hV hW (by omega) (by omega) (by omega) (by omega) (by omega) (by omega) (by omega) (by omega)
theorem QR_squat {row : Nat → Int32} (hV : AV row) (hW : AW row) : QR row 60 7 0 0 0 := QR_of (hh := 7) (kn := 0) (sg := 0) (mt := 0) hV hW (by omega) (by omega) (by omega) (by omega) (by omega) (by omega) (by omega) (by omega)
theorem QR_first {row : Nat → Int32} (hV : AV row) (hW : AW row) : QR row 61 8 0 0 0 := QR_of (hh := 8) (kn := 0) (sg := 0) (mt := 0) hV hW (by omega) (by omega) (by omega) (by omega) (by omega) (by omega) (by omega) (by omega)
/-- need of the class -/
theorem F_needHead {kn sg mt : Nat} {σ : AH} (hm : mt < 6) : F_X11_needHead (nI kn) (nI sg) (nI mt) σ = some (nI (if mt = 5 then 45 + (kn * 3 + sg) else (kn * 3 + sg) * 5 + mt), σ) := by
  unfold F_X11_needHead
  by_cases c : mt = 5
  · subst c
    rw [if_pos (show nI 5 = (5 : Int32) from rfl), if_pos rfl]
    simp only [fa_lit, nI_add, pk_mul]
  · rw [if_neg (show ¬ nI mt = (5 : Int32) from fun q => c ((nI_eq (b := 5) (by omega) (by omega)).mp q)), if_neg c]
    simp only [fa_lit, nI_add, pk_mul]
    rw [Nat.zero_add]
theorem Rdy_need {row : Nat → Int32} {k : Int32} {kn sg mt rm w : Nat} {σ : AH} (hV : AV row) (hW : AW row) (hR : Rdy row k (nI w) (nI rm) σ) (hk : kn < 3) (hs : sg < 3) (hm : mt < 6) : ∃ v τ, F_X3_counted (nI (if mt = 5 then 45 + (kn * 3 + sg) else (kn * 3 + sg) * 5 + mt)) σ = some (v, τ) ∧ imax 0 v = needV row k kn sg mt rm w ∧ Rdy row k (nI w) (nI rm) τ ∧ Ch LWc LWf σ τ := by
  by_cases c : mt = 5
  · rw [if_pos c]
    obtain ⟨τ, t1, t2, t3⟩ := Rdy_counted hV hR (by omega) (QR_work hV hW hk hs)
    refine ⟨_, τ, t1, ?_, t2, t3⟩
    rw [cnV_max hV hW (QR_work hV hW hk hs) (by decide)]
    unfold needV
    rw [if_pos (show 5 ≤ mt by omega)]
  · rw [if_neg c]
    obtain ⟨τ, t1, t2, t3⟩ := Rdy_counted hV hR (by omega) (QR_need hV hW hk hs (show mt < 5 by omega))
    refine ⟨_, τ, t1, ?_, t2, t3⟩
    rw [cnV_max hV hW (QR_need hV hW hk hs (show mt < 5 by omega)) (by decide)]
    unfold needV
    rw [if_neg (show ¬ 5 ≤ mt by omega)]
theorem C_need {row : Nat → Int32} {x1 x2 x3 x4 x5 x6 : Int32} {σ : AH} (hV : AV row) (hW : AW row) (hL : LwI row σ) : ∃ τ, F_X11_need x1 x2 x3 x4 x5 x6 σ = some (needP row x1 x2 x3 x4 x5 x6, τ) ∧ LwI row τ ∧ Ch LWc LWf σ τ := by
  have no : ∀ v : Int32, v = -1 → ∃ τ, some ((-1 : Int32), σ) = some (v, τ) ∧ LwI row τ ∧ Ch LWc LWf σ τ := fun v hv => ⟨_, by rw [hv], hL, Ch.rf _⟩
  unfold F_X11_need needP
  simp only [isIn02, isIn05, isIn16, F_isWeekC, bd_b (α := Int32)]
  by_cases c1 : rgB 0 2 x1 = true
  · rw [if_pos c1, if_pos c1]
    by_cases c2 : rgB 0 2 x2 = true
    · rw [if_pos c2, if_pos c2]
      by_cases c3 : rgB 0 5 x3 = true
      · rw [if_pos c3, if_pos c3]
        by_cases c4 : rgB 1 6 x4 = true
        · rw [if_pos c4, if_pos c4]
          by_cases c5 : rgB 0 259 x5 = true
          · rw [if_pos c5, if_pos c5]
            by_cases c6 : rgB 0 259 x6 = true
            · rw [if_pos c6, if_pos c6]
              obtain ⟨e1, b1⟩ := rg0_n (b := 2) c1 (by decide)
              obtain ⟨e2, b2'⟩ := rg0_n (b := 2) c2 (by decide)
              obtain ⟨e3, b3⟩ := rg0_n (b := 5) c3 (by decide)
              obtain ⟨e5, b5⟩ := rg0_n (b := 259) c5 (by decide)
              have h4 := rgB_iff.mp c4
              have e4 : isN x4 7 := isN.of (by have := h4.1; omega) (by have := h4.2; omega)
              obtain ⟨τ1, τ2, t1, t2, t3, t4⟩ := Rdy_of (k := x6) (w := x5) (r := x4) hV hW hL
              rw [t1, bv_some, t2, bv_some]
              have nh := F_needHead (kn := cl x1) (sg := cl x2) (mt := cl x3) (σ := τ2) (by omega)
              rw [← e1, ← e2, ← e3] at nh
              rw [nh, bd_some]
              have t3' : Rdy row x6 (nI (cl x5)) (nI (cl x4)) τ2 := by rw [← e5, ← e4.1]; exact t3
              obtain ⟨v, τ, u1, u2, u3, u4⟩ := Rdy_need (kn := cl x1) (sg := cl x2) (mt := cl x3) hV hW t3' (by omega) (by omega) (by omega)
              rw [u1, bd_some]
              exact ⟨τ, by rw [u2], u3.1, t4.trans u4⟩
            · rw [if_neg c6, if_neg c6]; exact no _ rfl
          · rw [if_neg c5, if_neg c5]; exact no _ rfl
        · rw [if_neg c4, if_neg c4]; exact no _ rfl
      · rw [if_neg c3, if_neg c3]; exact no _ rfl
    · rw [if_neg c2, if_neg c2]; exact no _ rfl
  · rw [if_neg c1, if_neg c1]; exact no _ rfl
/-- counts of the class -/
theorem C_counts {row : Nat → Int32} {x1 x2 x3 : Int32} {σ : AH} (hV : AV row) (hW : AW row) (hL : LwI row σ) : ∃ τ, F_X11_counts x1 x2 x3 σ = some (countsV row x1 x2 x3, τ) ∧ LwI row τ ∧ Ch LWc LWf σ τ := by
  have no : ∀ v : Int32, v = -1 → ∃ τ, some ((-1 : Int32), σ) = some (v, τ) ∧ LwI row τ ∧ Ch LWc LWf σ τ := fun v hv => ⟨_, by rw [hv], hL, Ch.rf _⟩
  unfold F_X11_counts countsV
  simp only [isIn05, F_isWeekC, bd_b (α := Int32)]
  by_cases c1 : rgB 0 5 x1 = true
  · rw [if_pos c1, if_pos c1]
    by_cases c2 : rgB 0 259 x2 = true
    · rw [if_pos c2, if_pos c2]
      by_cases c3 : rgB 0 259 x3 = true
      · rw [if_pos c3, if_pos c3]
        obtain ⟨e1, b1⟩ := rg0_n (b := 5) c1 (by decide)
        obtain ⟨τ1, τ2, t1, t2, t3, t4⟩ := Rdy_of (k := x3) (w := x2) (r := 0) hV hW hL
        rw [t1, bv_some, t2, bv_some]
        have fin : ∀ (h : Nat) (v : Int32), v = nI h → h < 62 → QR row h (cntH x1) (cntK x1) 0 0 → ∃ τ, bd (F_X3_counted v τ2) (fun v40 σ36 => some (v40, σ36)) = some (cntV row x1 x2 x3, τ) ∧ LwI row τ ∧ Ch LWc LWf σ τ := by
          intro h v hv hh hQ
          obtain ⟨τ, u1, u2, u3⟩ := Rdy_counted hV t3 hh hQ
          rw [hv, u1, bd_some]
          exact ⟨τ, rfl, u2.1, t4.trans u3⟩
        unfold F_X11_counts_86
        by_cases d3 : (3 : Int32) ≤ x1
        · rw [if_pos d3]
          have ek : cntK x1 = 0 := if_pos d3
          by_cases d4 : x1 = 3
          · rw [if_pos d4]
            have eh : cntH x1 = 6 := by unfold cntH; rw [if_pos d3, if_pos d4]
            exact fin 59 _ rfl (by omega) (by rw [eh, ek]; exact QR_huts hV hW)
          · rw [if_neg d4]
            by_cases d5 : x1 = 4
            · rw [if_pos d5]
              have eh : cntH x1 = 7 := by unfold cntH; rw [if_pos d3, if_neg d4, if_pos d5]
              exact fin 60 _ rfl (by omega) (by rw [eh, ek]; exact QR_squat hV hW)
            · rw [if_neg d5]
              have eh : cntH x1 = 8 := by unfold cntH; rw [if_pos d3, if_neg d4, if_neg d5]
              exact fin 61 _ rfl (by omega) (by rw [eh, ek]; exact QR_first hV hW)
        · rw [if_neg d3]
          have ek : cntK x1 = x1 := if_neg d3
          have eh : cntH x1 = 4 := if_neg d3
          have h3 : cl x1 < 3 := by
            rcases Nat.lt_or_ge (cl x1) 3 with z | z
            · exact z
            · rw [e1] at d3; exact absurd (nI_le (a := 3) z (by omega)) d3
          refine fin (55 + cl x1) _ ?_ (by omega) (by rw [eh, ek]; have := QR_lic hV hW h3; rw [← e1] at this; exact this)
          have : (55 : Int32) + nI (cl x1) = nI (55 + cl x1) := nI_add 55 _
          rw [← e1] at this; exact this
      · rw [if_neg c3, if_neg c3]; exact no _ rfl
    · rw [if_neg c2, if_neg c2]; exact no _ rfl
  · rw [if_neg c1, if_neg c1]; exact no _ rfl
/-! force -/
theorem F_isInN {x : Int32} {n : Nat} (hn : n < 2 ^ 31) {σ : AH} : F_X11_isIn x (0 : Int32) (nI n - (1 : Int32)) σ = some (if ltB n x = true then 1 else 0, σ) := by
  unfold F_X11_isIn ltB
  have e1 : (nI n - (1 : Int32)).toInt = (n : Int) - 1 := by
    rcases Nat.eq_zero_or_pos n with z | z
    · subst z; decide
    · have : nI n - 1 = nI (n - 1) := pk_sub (b := 1) z
      rw [this, nI_toInt (by omega)]; omega
  have h1 : (x < (0 : Int32)) ↔ x.toInt < 0 := by rw [Int32.lt_iff_toInt_lt, i0]
  have h2 : (nI n - (1 : Int32) < x) ↔ (n : Int) - 1 < x.toInt := by rw [Int32.lt_iff_toInt_lt, e1]
  by_cases c1 : x.toInt < 0
  · rw [if_pos (h1.mpr c1), if_neg]
    rw [decide_eq_true_iff]; omega
  · rw [if_neg (fun q => c1 (h1.mp q))]
    by_cases c2 : (n : Int) - 1 < x.toInt
    · rw [if_pos (h2.mpr c2), if_neg]
      rw [decide_eq_true_iff]; omega
    · rw [if_neg (fun q => c2 (h2.mp q)), if_pos]
      rw [decide_eq_true_iff]; omega
def forceV (row : Nat → Int32) (x1 x2 x3 x4 : Int32) : Int32 := if ltB (nA row) x1 = true then (if ltB (clN row (cl x1)) x2 = true then (if rgB 0 259 x3 = true then (if rgB 0 259 x4 = true then b2 (fbit row x4 x3 (cl x1) (cl x2)) else -1) else -1) else -1) else -1
theorem C_force {row : Nat → Int32} {x1 x2 x3 x4 : Int32} {σ : AH} (hV : AV row) (hW : AW row) (hL : LwI row σ) : ∃ τ, F_X11_force x1 x2 x3 x4 σ = some (forceV row x1 x2 x3 x4, τ) ∧ LwI row τ ∧ Ch LWc LWf σ τ := by
  have no : ∀ v : Int32, v = -1 → ∃ τ, some ((-1 : Int32), σ) = some (v, τ) ∧ LwI row τ ∧ Ch LWc LWf σ τ := fun v hv => ⟨_, by rw [hv], hL, Ch.rf _⟩
  have hn := hV.2.1
  unfold F_X11_force forceV
  have i1 : F_X11_isIn x1 (0 : Int32) ((gI σ 1 1) - (1 : Int32)) σ = some (if ltB (nA row) x1 = true then 1 else 0, σ) := by rw [hL.1.1]; exact F_isInN (by omega)
  simp only [i1, F_isWeekC, bd_b (α := Int32)]
  by_cases c1 : ltB (nA row) x1 = true
  · rw [if_pos c1, if_pos c1]
    obtain ⟨e1, b1⟩ := ltB_n c1 (by omega)
    obtain ⟨b, eb, hAb⟩ := hL.1.2 (cl x1) b1
    obtain ⟨⟨k1, k2, k3⟩, ⟨y1, y2, y3⟩, _⟩ := hAb
    have hc16 := (hV.2.2 (cl x1) b1).2.1
    have q1 : inB x1 24 = true := by rw [e1]; exact inB_n (by omega) (by omega)
    have eb' : gR σ 2 x1.toNatClampNeg = some b := eb
    have i2 : F_X11_isIn x2 (0 : Int32) ((gI σ b 2) - (1 : Int32)) σ = some (if ltB (clN row (cl x1)) x2 = true then 1 else 0, σ) := by rw [y3]; exact F_isInN (by omega)
    rw [if_pos q1, eb', on_some, if_pos (show kd σ b = (0, NO 0) ∧ b < nx σ from ⟨k1, k2⟩), i2, bd_b (α := Int32)]
    cases h3 : rgB 0 259 x3 with
    | false =>
      simp only [Bool.false_eq_true, if_false]
      exact no _ (by split <;> rfl)
    | true =>
      cases h4 : rgB 0 259 x4 with
      | false =>
        simp only [Bool.false_eq_true, if_false, if_true]
        exact no _ (by split <;> rfl)
      | true =>
        simp only [if_true]
        by_cases c2 : ltB (clN row (cl x1)) x2 = true
        · rw [if_pos c2, if_pos c2]
          obtain ⟨e2, b2'⟩ := ltB_n c2 (by omega)
          obtain ⟨τ, t1, t2, t3, t4⟩ := F_settle (k := x4) (w := x3) hV hW hL.1 hL.2.1
          rw [t1, bv_some]
          have fi := F_isForced (a := cl x1) (c := cl x2) hV b1 (by omega) t2
          rw [← e1, ← e2] at fi
          rw [fi, bd_some]
          refine ⟨τ, ?_, ⟨hL.1.ch t4 (by simp) (by simp), t3, hL.2.2.ch t4 (by simp) (by simp) (by simp)⟩, t4.mono (by simp [LWc]) (by simp [LWf])⟩
          cases fbit row x4 x3 (cl x1) (cl x2) <;> rfl
        · rw [if_neg c2, if_neg c2]; exact no _ rfl
  · rw [if_neg c1, if_neg c1]; exact no _ rfl
theorem P_force {row : Nat → Int32} {x1 x2 x3 x4 : Int32} {σ : AH} (hV : AV row) (hr : gI σ 125 = row) : ∃ τ, F_X12_force x1 x2 x3 x4 σ = some (forceV row x1 x2 x3 x4, τ) ∧ Ch PQc PQf σ τ := by
  have c0 : Ch PQc PQf σ (sI σ 124 0 0) := Ch.sI1 (Or.inl (by simp [PQf]))
  have no : ∀ v : Int32, v = -1 → ∃ τ, some ((-1 : Int32), sI σ 124 0 0) = some (v, τ) ∧ Ch PQc PQf σ τ := fun v hv => ⟨_, by rw [hv], c0⟩
  have hn := hV.2.1
  unfold F_X12_force forceV
  have i1 : F_X12_in x1.toInt64 (0 : Int64) (((gI (sI σ 124 0 0) 125 0)).toInt64 - (1 : Int64)) (sI σ 124 0 0) = some (if ltB (nA row) x1 = true then 1 else 0, sI σ 124 0 0) := by
    rw [gI_sI_row (by decide), hr, hV.1]; exact F_inN (by omega)
  rw [i1, bd_b (α := Int32)]
  by_cases c1 : ltB (nA row) x1 = true
  · rw [if_pos c1, if_pos c1]
    obtain ⟨e1, b1⟩ := ltB_n c1 (by omega)
    have hc := hV.2.2 (cl x1) b1
    have hc16 := hc.2.1
    have fa := F_actAt (a := cl x1) (σ := sI σ 124 0 0)
    rw [← e1] at fa
    have j2 : nI (20 + 947 * cl x1) + (2 : Int32) = nI (20 + 947 * cl x1 + 2) := nI_add _ _
    rw [fa, bd_some, j2, if_pos (inB_n (by omega) (by omega)), nI_clamp (by omega), gI_sI_row (by decide), hr, hc.1, F_inN (by omega), bd_b (α := Int32)]
    by_cases c2 : ltB (clN row (cl x1)) x2 = true
    · rw [if_pos c2, if_pos c2]
      obtain ⟨e2, b2'⟩ := ltB_n c2 (by omega)
      simp only [F_isWeek, bd_b (α := Int32)]
      by_cases c3 : rgB 0 259 x3 = true
      · rw [if_pos c3, if_pos c3]
        by_cases c4 : rgB 0 259 x4 = true
        · rw [if_pos c4, if_pos c4]
          obtain ⟨e3, b3⟩ := rg0_n (b := 259) c3 (by decide)
          obtain ⟨τ1, k1, k2, k3, k4⟩ := F_knowBy (k := x4) (σ := sI σ 124 0 0) (row := row) hr
          rw [k1, bv_some]
          obtain ⟨τ, t1, t2, t3, t4⟩ := F_findForce (w := x3) hV k2.1 k2.2.1 (fun e => by rw [k3] at e; rw [e3] at e; exact absurd e.symm (nI_neg1 (by omega)))
          have q1 : inB x1 24 = true := by rw [e1]; exact inB_n (by omega) (by omega)
          have i2 : (16 : Int32) * x1 + x2 = nI (16 * cl x1 + cl x2) := by
            have : (16 : Int32) * nI (cl x1) + nI (cl x2) = nI (16 * cl x1 + cl x2) := by simp only [fa_lit, nI_add, pk_mul]
            rw [← e1, ← e2] at this; exact this
          have o1 : gI τ 134 x1.toNatClampNeg = if onB row x4 x3 (cl x1) = true then 1 else 0 := t3.1 (cl x1) b1
          rw [t1, bv_some, if_pos q1, o1, i2, if_pos (inB_n (by omega) (by omega)), nI_clamp (by omega), t3.2 _ (by omega)]
          have cF : Ch PQc PQf σ τ := (c0.trans (k4.mono (by simp [PQc]) (by simp [PQf]))).trans (t4.mono (by simp [PQc]) (by simp [PQf]))
          unfold fbit
          cases onB row x4 x3 (cl x1)
          · exact ⟨τ, rfl, cF⟩
          · cases stk row x4 x3 (16 * cl x1 + cl x2)
            · exact ⟨τ, rfl, cF⟩
            · exact ⟨τ, rfl, cF⟩
        · rw [if_neg c4, if_neg c4]; exact no _ rfl
      · rw [if_neg c3, if_neg c3]; exact no _ rfl
    · rw [if_neg c2, if_neg c2]; exact no _ rfl
  · rw [if_neg c1, if_neg c1]; exact no _ rfl
end
