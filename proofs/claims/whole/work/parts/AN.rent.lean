section
/-! HOMES of the class -/
def ceW (row : Nat → Int32) (k : Int32) (p : Nat) : Int32 := if pK row p = 2 then (if cnV row k (knD row k 0 p) 0 6 0 0 0 = -1 then 2000000000 else knD row k 0 p + cnV row k (knD row k 0 p) 0 6 0 0 0) else 2000000000
theorem knD_rw {row : Nat → Int32} {k : Int32} (h : KE row k (ltK row k)) (p : Nat) : knD row k 0 p = rw_ row (ltK row k) 0 (sw row (ltK row k)) 260 149 (3 * p + 2) := by unfold knD; rw [runR_ke h]; rfl
theorem F_endOf {row : Nat → Int32} {k : Int32} {a p : Nat} {σ : AH} (hV : AV row) (hW : AW row) (hB : BV row) (hK : KE row k (ltK row k)) (hRn : RnI row (ltK row k) 0 (sw row (ltK row k)) a 260 σ) (hp : p < nP row) (hT : TbB row σ) (hL : LwI row σ) : ∃ τ, F_X2_endOf (nI p) a k σ = some (ceW row k p, τ) ∧ LwI row τ ∧ Ch LWc LWf σ τ := by
  obtain ⟨p0, b30, p2⟩ := hB.p
  unfold F_X2_endOf
  have lk : pK row p < 3 := (p2 p hp).2.1.2
  have a1 : F_X8_at 9 (nI p) (1 : Int32) σ = some (nI (pK row p), σ) := by
    have := at_pl (j := 1) hT hp (by decide)
    rw [show pl row p 1 = nI (pK row p) from (p2 p hp).2.1.1] at this; exact this
  rw [a1, bd_some]
  by_cases c : pK row p = 2
  · rw [if_pos (show nI (pK row p) = (2 : Int32) by rw [c]; rfl), F_doneWeek (fun p w h => sw_lt hB h) b30 hp hRn, ← knD_rw hK, bd_some]
    obtain ⟨τ1, τ2, t1, t2, t3, t4⟩ := Rdy_of (k := k) (w := knD row k 0 p) (r := 0) hV hW hL
    obtain ⟨τ3, u1, u2, u3⟩ := Rdy_counted hV t3 (h := 59) (by decide) (QR_huts hV hW)
    have u1' : F_X3_counted (59 : Int32) τ2 = some (cnV row k (knD row k 0 p) 0 6 0 0 0, τ3) := u1
    rw [t1, bv_some, t2, bv_some, u1', bd_some]
    unfold ceW
    rw [if_pos c]
    by_cases d : cnV row k (knD row k 0 p) 0 6 0 0 0 = -1
    · rw [if_pos d, if_pos d]; exact ⟨τ3, rfl, u2.1, t4.trans u3⟩
    · rw [if_neg d, if_neg d]; exact ⟨τ3, rfl, u2.1, t4.trans u3⟩
  · rw [if_neg (show ¬ nI (pK row p) = (2 : Int32) from fun e => c ((nI_eq (b := 2) (by omega) (by decide)).mp e))]
    unfold ceW
    rw [if_neg c]
    exact ⟨σ, rfl, hL, Ch.rf _⟩
theorem end_same {row : Nat → Int32} {k : Int32} {p w : Nat} (hV : AV row) (hW : AW row) (hw : w < 260) (hd : knD row k 0 p ≠ -1) : heW row k p ≤ nI w ↔ ceW row k p ≤ nI w := by
  have n1 : ¬ (1000000 : Int32) ≤ nI w := nI_ge (b := 1000000) (by omega) (by decide)
  have n2 : ¬ (2000000000 : Int32) ≤ nI w := nI_ge (b := 2000000000) (by omega) (by decide)
  unfold heW ceW
  rw [if_neg hd]
  by_cases c : pK row p = 2
  · rw [if_pos c, if_pos c]
    have mx := cnV_max (k := k) (w := knD row k 0 p) (r := 0) hV hW (QR_huts hV hW) (by decide)
    cases hb : (huW row k p).1 with
    | false =>
      have e : cnV row k (knD row k 0 p) 0 6 0 0 0 = -1 := by
        unfold cnV
        have : (fd row k (knD row k 0 p) (stO 0 (knD row k 0 p)) 6 0 0 0).1 = false := hb
        rw [this, if_neg (by decide)]
      rw [if_neg (by decide), e, if_pos rfl]
      exact ⟨fun z => absurd z n1, fun z => absurd z n2⟩
    | true =>
      have hb' : (fd row k (knD row k 0 p) (stO 0 (knD row k 0 p)) 6 0 0 0).1 = true := hb
      have e : cnV row k (knD row k 0 p) 0 6 0 0 0 = aln (huW row k p).2.1 := by
        unfold cnV; rw [hb', if_pos rfl]; rfl
      rw [hb', if_pos rfl] at mx
      have ge : (0 : Int32) ≤ cnV row k (knD row k 0 p) 0 6 0 0 0 := by
        have e2 : aln (fd row k (knD row k 0 p) (stO 0 (knD row k 0 p)) 6 0 0 0).2.1 = cnV row k (knD row k 0 p) 0 6 0 0 0 := e.symm
        rw [e2] at mx
        rw [← mx]; exact imax_l.1
      have ne : cnV row k (knD row k 0 p) 0 6 0 0 0 ≠ -1 := fun z => by rw [z] at ge; exact absurd ge (by decide)
      rw [if_pos rfl, if_neg ne, e]
  · rw [if_neg c, if_neg c]
    exact ⟨fun z => absurd z n1, fun z => absurd z n2⟩
def hoB (row : Nat → Int32) (k : Int32) (p w : Nat) : Bool := decide (knD row k 0 p ≠ -1) && (!decide (nI w < knD row k 0 p) && !decide (heW row k p ≤ nI w))
theorem F_isHome {row : Nat → Int32} {k : Int32} {p w : Nat} {σ : AH} (hp : p < 30) (hw : w < 260) (h1 : gI σ 164 p = hdW row k p) (h2 : gI σ 165 p = heW row k p) : F_X12_isHome (nI p) (nI w) σ = some (b2 (hoB row k p w), σ) := by
  unfold F_X12_isHome hoB
  have q : inB (nI p) 30 = true := inB_n hp (by omega)
  have n : (nI p).toNatClampNeg = p := nI_clamp (by omega)
  rw [if_pos q, if_pos q, n, h1, h2]
  unfold hdW
  by_cases c : knD row k 0 p = -1
  · have d : decide (knD row k 0 p ≠ -1) = false := decide_eq_false (fun z => z c)
    rw [if_pos c, d, if_pos (show nI w < (1000000 : Int32) from nI_lt (b := 1000000) (by omega) (by decide))]; rfl
  · rw [if_neg c, decide_eq_true c]
    by_cases d : nI w < knD row k 0 p
    · rw [if_pos d, decide_eq_true d]; rfl
    · rw [if_neg d, decide_eq_false d]
      by_cases e : heW row k p ≤ nI w
      · rw [if_pos e, decide_eq_true e]; rfl
      · rw [if_neg e, decide_eq_false e]; rfl
theorem F_isDoneD {row : Nat → Int32} {k : Int32} {a p w : Nat} {σ : AH} (hB : BV row) (hK : KE row k (ltK row k)) (hRn : RnI row (ltK row k) 0 (sw row (ltK row k)) a 260 σ) (hp : p < nP row) : F_X6_isDoneBy a (nI p) (nI w) σ = some (b2 (decide (knD row k 0 p ≠ -1) && !decide (nI w < knD row k 0 p)), σ) := by
  unfold F_X6_isDoneBy
  have dw : F_X6_doneWeek a (nI p) σ = some (knD row k 0 p, σ) := by rw [knD_rw hK]; exact F_doneWeek (fun p w h => sw_lt hB h) hB.p.2.1 hp hRn
  simp only [dw, bd_some]
  by_cases c : knD row k 0 p = -1
  · have d : decide (knD row k 0 p ≠ -1) = false := decide_eq_false (fun z => z c)
    rw [if_pos c, d]; rfl
  · rw [if_neg c, decide_eq_true c]
    by_cases d : nI w < knD row k 0 p
    · rw [if_pos d, decide_eq_true d]; rfl
    · rw [if_neg d, decide_eq_false d]; rfl
/-! rent -/
def liE (a : Option (Nat × Nat × Bool × Nat)) : Option Nat := match a with
  | none => none
  | some a => if a.2.2.1 = true then some a.1 else none
def stKr (row : Nat → Int32) (r : Int32) (w : Nat) (a : Option Nat) : Nat → Int32 := match a with
  | none => stO r (nI w)
  | some e => va_up (va_up (va_up (va_up (stO r (nI w)) 2 (en row e 2)) 3 (en row e 3)) 4 (en row e 5)) 6 (en row e 4)
def rnV (v : Int64) : Int32 := (lmax (0 : Int64) (lmin (1000000000 : Int64) v)).toInt32
def rentV (row : Nat → Int32) (oc : Nat → Nat → Option (Nat × Nat × Bool × Nat)) (x1 x2 x3 : Int32) : Int32 := if ltB (nP row) x1 = true then (if rgB 0 259 x2 = true then (if rgB 0 259 x3 = true then (if hoB row x3 (cl x1) (cl x2) = true then rnV (fd row x3 x2 (stKr row (nI (pR row (cl x1))) (cl x2) (liE (oc (cl x1) (cl x2)))) 5 0 0 0).2.2 else -1) else -1) else -1) else -1
theorem rn_shown {v : Int64} : (if (0 : Int64) ≤ v then shV v else 0) = rnV v := by
  unfold shV rnV lmax lmin
  by_cases c : (0 : Int64) ≤ v
  · rw [if_pos c]
    by_cases d : v < (1000000000 : Int64)
    · rw [if_pos d]
      by_cases e : v < (0 : Int64)
      · exfalso; rw [Int64.le_iff_toInt_le] at c; rw [Int64.lt_iff_toInt_lt] at e; omega
      · rw [if_neg e, if_neg (fun z => e (by
          rw [Int64.lt_iff_toInt_lt] at z ⊢
          have : (-1000000000 : Int64).toInt = -1000000000 := by decide
          have e0 : (0 : Int64).toInt = 0 := by decide
          omega))]
    · rw [if_neg d]; rfl
  · rw [if_neg c]
    have e : v < (0 : Int64) := by rw [Int64.le_iff_toInt_le] at c; rw [Int64.lt_iff_toInt_lt]; omega
    have d : v < (1000000000 : Int64) := by
      rw [Int64.lt_iff_toInt_lt] at e ⊢
      have : (1000000000 : Int64).toInt = 1000000000 := by decide
      have e0 : (0 : Int64).toInt = 0 := by decide
      omega
    rw [if_pos d, if_pos e]; rfl
theorem P_rent {row : Nat → Int32} {oc : Nat → Nat → Option (Nat × Nat × Bool × Nat)} {x1 x2 x3 : Int32} {σ : AH} (hA : AV row) (hB : BV row) (hE : EV row) (hV : SyV row) (hR : RpC (nP row) (nY row) (sy row) oc) (hr : gI σ 125 = row) : ∃ τ, F_X12_rent x1 x2 x3 σ = some (rentV row oc x1 x2 x3, τ) ∧ Ch FHc ((124, 0) :: RNf) σ τ := by
  have b30 := hB.p.2.1
  have n30 := hV.n.2
  have e60 := hE.n.2
  have c0 : Ch FHc ((124, 0) :: RNf) σ (sI σ 124 0 0) := Ch.sI1 (Or.inl (by simp))
  have no : ∀ v : Int32, v = -1 → ∃ τ, some ((-1 : Int32), sI σ 124 0 0) = some (v, τ) ∧ Ch FHc ((124, 0) :: RNf) σ τ := fun v hv => ⟨_, by rw [hv], c0⟩
  unfold F_X12_rent rentV
  have ip : F_X12_isPlot x1 (sI σ 124 0 0) = some (if ltB (nP row) x1 = true then 1 else 0, sI σ 124 0 0) := F_isPlot hB hr
  simp only [ip, F_isWeek, bd_b (α := Int32)]
  by_cases c1 : ltB (nP row) x1 = true
  · rw [if_pos c1, if_pos c1]
    by_cases c2 : rgB 0 259 x2 = true
    · rw [if_pos c2, if_pos c2]
      by_cases c3 : rgB 0 259 x3 = true
      · rw [if_pos c3, if_pos c3]
        obtain ⟨e1, b1⟩ := ltB_n c1 (by omega)
        obtain ⟨e2, b2'⟩ := rg0_n (b := 259) c2 (by decide)
        obtain ⟨p, hp⟩ : ∃ p, p = cl x1 := ⟨_, rfl⟩
        obtain ⟨w, hw⟩ : ∃ w, w = cl x2 := ⟨_, rfl⟩
        rw [← hp] at e1 b1 ⊢
        rw [← hw] at e2 b2' ⊢
        rw [e1, e2]
        obtain ⟨τ1, t1, t2, t3, t4⟩ := F_findHomes (k := x3) (σ := sI σ 124 0 0) hA hB hr
        have cA : Ch FHc ((124, 0) :: RNf) σ τ1 := c0.trans (t4.mono (fun i hi => hi) (fun q hq => Or.inl (List.mem_cons_of_mem _ hq)))
        rw [t1, bv_some, F_isHome (show p < 30 by omega) (by omega) (t3 p b1).1 (t3 p b1).2, bd_some]
        cases hh : hoB row x3 p w with
        | false => rw [if_pos (show b2 false = 0 from rfl), if_neg (by decide)]; exact ⟨τ1, rfl, cA⟩
        | true =>
          rw [if_neg (show ¬ b2 true = 0 by decide), if_pos rfl, F_livingIn hV t2.1, bd_some]
          obtain ⟨τ2, s1, s2, s3⟩ := F_setOnly' (r := 0) (w := nI w) (σ := τ1)
          have K2 : KI row x3 τ2 := t2.ch s3 (t2.2.2.1.ch s3 (by simp) (by simp) (by simp) (by simp)) (by simp) (by simp) (by simp) (by simp) (by simp)
          rw [s1, bv_some]
          -- what is set, then the find
          have fin : ∀ τ3 : AH, ∀ a : Option Nat, KI row x3 τ3 → Ch [136] [] τ1 τ3 → (∀ i, i < 8 → i ≠ 1 → gI τ3 136 i = stKr row (nI (pR row p)) w a i) → ∃ τ, F_X12_rent_83 (nI p) (nI w) τ3 = some (rnV (fd row x3 (nI w) (stKr row (nI (pR row p)) w a) 5 0 0 0).2.2, τ) ∧ Ch FHc ((124, 0) :: RNf) σ τ := fun τ3 a k3 ch3 st3 => by
            unfold F_X12_rent_83
            have c5 : Ch [136] [] τ3 (sI τ3 136 1 (nI (pR row p))) := Ch.sI1 (Or.inr (by simp))
            have K4 : KI row x3 (sI τ3 136 1 (nI (pR row p))) := k3.ch c5 (k3.2.2.1.ch c5 (by simp) (by simp) (by simp) (by simp)) (by simp) (by simp) (by simp) (by simp) (by simp)
            obtain ⟨τ4, u1, u2, u3, u4, u5⟩ := F_find8 (h := 5) (kd_ := 0) (sg := 0) (mt := 0) (w := nI w) (st := stKr row (nI (pR row p)) w a) hA (nI_neg1 (by omega)) K4.1 (fun i hi => by
              rw [gI_sI_own]
              by_cases e : i = 1
              · subst e; rw [up_same]
                unfold stKr
                cases a with
                | none => rfl
                | some e => rfl
              · rw [up_ne _ _ _ e]; exact st3 i hi e) K4.2.1 K4.2.2.1
            rw [F_roomsOf hB b1 k3.1, bd_some, u1, bd_some, u3, ← rn_shown]
            have cF : Ch FHc ((124, 0) :: RNf) σ τ4 := (cA.trans ((ch3.trans c5).mono (by simp [FHc, RNc]) (by simp))).trans (u5.mono (by simp [FDc, FHc, RNc]) (by simp [FDf, RNf]))
            by_cases z : (0 : Int64) ≤ (fd row x3 (nI w) (stKr row (nI (pR row p)) w a) 5 0 0 0).2.2
            · rw [if_pos z, if_pos z, F_shown, bd_some]; exact ⟨τ4, rfl, cF⟩
            · rw [if_neg z, if_neg z]; exact ⟨τ4, rfl, cF⟩
          have stO1 : ∀ (r : Int32) i, i ≠ 1 → stO 0 (nI w) i = stO r (nI w) i := fun r i hi => by
            unfold stO
            by_cases e : i = 7
            · subst e; rw [up_same, up_same]
            · rw [up_ne _ _ _ e, up_ne _ _ _ e, up_ne _ _ _ hi, up_ne _ _ _ hi]
          rcases lvS_oc hR b1 (show w < 260 by omega) with ⟨z1, z2⟩ | ⟨s, y1, y2, y3, y4⟩
          · have le : liE (oc p w) = none := by
              unfold liE
              cases o : oc p w with
              | none => rfl
              | some a => dsimp only; rw [z2 a o, if_neg (by decide)]
            rw [z1, show oI none = -1 from rfl, if_pos rfl, le]
            exact fin τ2 none K2 s3 (fun i hi h1 => by rw [s2 i hi]; exact stO1 _ i h1)
          · obtain ⟨v0, v1, _⟩ := hV.2 s y1
            obtain ⟨q1, n1⟩ := sy_at (s := s) (j := 1) (by omega) (by decide)
            have yy : row (29512 + 8 * s + 1) = nI (cl (sy row s 1)) := v1.1
            have le : liE (oc p w) = some (cl (sy row s 1)) := by
              unfold liE
              rw [y3]
              show (if decide (sy row s 3 ≤ nI w) = true then some (cl (sy row s 1)) else none) = _
              rw [if_pos (decide_eq_true y4)]
            obtain ⟨τ3, w1, w2, w3⟩ := F_setEntry (e := cl (sy row s 1)) (w := w) hE v1.2 K2.1
            have K3 : KI row x3 τ3 := K2.ch w3 (K2.2.2.1.ch w3 (by simp) (by simp) (by simp) (by simp)) (by simp) (by simp) (by simp) (by simp) (by simp)
            rw [y2, show oI (some s) = nI s from rfl, if_neg (nI_neg1 (by omega)), F_stayAt, bd_some, fa_lit 1, if_pos q1, n1, K2.1, yy, w1, bv_some, le]
            refine fin τ3 (some (cl (sy row s 1))) K3 (s3.trans w3) (fun i hi h1 => ?_)
            rw [w2 i hi]
            unfold stKr
            dsimp only
            by_cases c6 : i = 6
            · subst c6; rw [up_same, up_same]
            · rw [up_ne _ _ _ c6, up_ne _ _ _ c6]
              by_cases c4 : i = 4
              · subst c4; rw [up_same, up_same]
              · rw [up_ne _ _ _ c4, up_ne _ _ _ c4]
                by_cases c3' : i = 3
                · subst c3'; rw [up_same, up_same]
                · rw [up_ne _ _ _ c3', up_ne _ _ _ c3']
                  by_cases c2' : i = 2
                  · subst c2'; rw [up_same, up_same]
                  · rw [up_ne _ _ _ c2', up_ne _ _ _ c2']; exact stO1 _ i h1
      · rw [if_neg c3, if_neg c3]; exact no _ rfl
    · rw [if_neg c2, if_neg c2]; exact no _ rfl
  · rw [if_neg c1, if_neg c1]; exact no _ rfl
end
