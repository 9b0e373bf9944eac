section
/-! offer of the reference -/
theorem OfR.ch {row row' : Nat → Int32} {k : Int32} {w : Nat} {f : Nat → Int32} {oc : Nat → Nat → Option (Nat × Nat × Bool × Nat)} {σ τ : AH} (h : OfR row k w f row' oc σ) (hK : KI row' k τ) (c : Ch LSc LSf σ τ) : OfR row k w f row' oc τ := by
  obtain ⟨o1, o2, o3, o4, o5⟩ := h
  refine ⟨o1, hK, o3, fun x hx => by rw [c.rI (by simp [LSc]) (by simp [LSf, FDf])]; exact o4 x hx, fun p hp => ?_⟩
  rw [c.rI (by simp [LSc]) (by simp [LSf, FDf]), c.rI (by simp [LSc]) (by simp [LSf, FDf])]; exact o5 p hp
theorem lvP_lt {row : Nat → Int32} {oc : Nat → Nat → Option (Nat × Nat × Bool × Nat)} {f : Nat → Int32} {w e q : Nat} {b : Bool} (h : lvP row oc f w e b = some q) : q < nP row := by
  have := (fsF_some _ _ q h).2.1
  omega
theorem nxP_lt {row : Nat → Int32} {oc : Nat → Nat → Option (Nat × Nat × Bool × Nat)} {f : Nat → Int32} {w e q : Nat} (h : nxP row oc f w e = some q) : q < nP row := by
  unfold nxP at h
  cases z : lvP row oc f w e true with
  | some x => rw [z] at h; cases h; exact lvP_lt z
  | none => rw [z] at h; exact lvP_lt h
theorem one_end {g w n : Nat} {σ : AH} : F_X12_offerOne_5 (g + 1) (nI w) (-1 : Int32) (nI n) σ = some (nI n, σ) := by
  show B_X12_offerOne_5 (F_X12_offerOne_5 g) (nI w) (-1 : Int32) (nI n) σ = _
  unfold B_X12_offerOne_5
  rw [if_pos rfl]
theorem ofr_loop {row : Nat → Int32} {k : Int32} {w g : Nat} {f : Nat → Int32} (hA : AV row) (hB : BV row) (hE : EV row) (hw : w < 260) :
    ∀ (j n : Nat) (oc : Nat → Nat → Option (Nat × Nat × Bool × Nat)) (row' : Nat → Int32) (p : Option Nat) (σ : AH), n + j = 10 → (∀ q, p = some q → q < nP row) → OfR row k w f row' oc σ → nY row' + j ≤ 30040 →
      ∃ τ row'', F_X12_offerOne_5 (j + 2 + g) (nI w) (oI p) (nI n) σ = some (nI (chn row f k w j n oc p).1, τ) ∧ OfR row k w f row'' (chn row f k w j n oc p).2 τ ∧ nY row'' + n = nY row' + (chn row f k w j n oc p).1 ∧ Ch OFc LSf σ τ := by
  have b30 := hB.p.2.1
  have n60 := hE.n.2
  intro j
  induction j with
  | zero =>
    intro n oc row' p σ hn hp hO hy
    rw [show 0 + 2 + g = (g + 1) + 1 by omega, chn_z]
    refine ⟨σ, row', ?_, hO, by show nY row' + n = nY row' + n; rfl, Ch.rf _⟩
    show B_X12_offerOne_5 (F_X12_offerOne_5 (g + 1)) (nI w) (oI p) (nI n) σ = _
    unfold B_X12_offerOne_5
    have e10 : n = 10 := by omega
    rw [e10]
    by_cases c : oI p = -1
    · rw [if_pos c]
    · rw [if_neg c, if_pos (show (10 : Int32) ≤ nI 10 by decide)]
  | succ j ih =>
    intro n oc row' p σ hn hp hO hy
    rw [show j + 1 + 2 + g = (j + 2 + g) + 1 by omega]
    cases p with
    | none =>
      rw [chn_n]
      exact ⟨σ, row', one_end, hO, rfl, Ch.rf _⟩
    | some q =>
      have hq := hp q rfl
      obtain ⟨o1, o2, o3, o4, o5⟩ := id hO
      have A' : AV row' := AV_cg o1.b.a hA
      have B' : BV row' := BV_cg o1.b hB
      have E' : EV row' := EV_cg o1.e hE
      have np : nP row' = nP row := nP_cg o1.b
      have ne : nE row' = nE row := nE_cg o1.e
      have ho : F_X12_isHome (nI q) (nI w) σ = some (b2 (hoB row k q w), σ) := F_isHome (by omega) hw (o5 q hq).1 (o5 q hq).2
      have fr : F_X12_isFree (nI q) (nI w) σ = some (b2 (oc q w).isNone, σ) := F_isFreeR o3.1 o2.1 o3.2.1 (by rw [np]; exact hq) hw
      have stop : F_X12_offerOne_44 (F_X12_offerOne_5 (j + 2 + g)) (nI w) (nI q) (nI n) σ = some (nI n, σ) := by
        unfold F_X12_offerOne_44 F_X12_offerOne_45
        rw [if_pos rfl, show j + 2 + g = (j + 1 + g) + 1 by omega]
        exact one_end
      show ∃ τ row'', B_X12_offerOne_5 (F_X12_offerOne_5 (j + 2 + g)) (nI w) (nI q) (nI n) σ = _ ∧ _
      unfold B_X12_offerOne_5
      rw [if_neg (nI_neg1 (by omega)), if_neg (show ¬ (10 : Int32) ≤ nI n from nI_ge (b := 10) (by omega) (by decide)), ho, bd_some, fr, bd_some, chn_s]
      cases h1 : hoB row k q w with
      | false =>
        rw [if_pos (show b2 false = 0 from rfl), Bool.false_and, if_neg (by decide), stop]
        exact ⟨σ, row', rfl, hO, rfl, Ch.rf _⟩
      | true =>
        rw [if_neg (show ¬ b2 true = 0 by decide), Bool.true_and]
        cases h2 : (oc q w).isNone with
        | false =>
          rw [if_pos (show b2 false = 0 from rfl), if_neg (by decide), stop]
          exact ⟨σ, row', rfl, hO, rfl, Ch.rf _⟩
        | true =>
          have on_ : oc q w = none := Option.isNone_iff_eq_none.mp h2
          obtain ⟨τ, t1, t2, t3⟩ := F_whom (w := w) (p := q) (f := f) A' B' E' o3.1 o3.2.1 hw (by rw [np]; exact hq) o2 (fun e he => o4 e (by omega))
          have eg : whO row' oc f w q (lsS row' k w (pC row' q) (nE row')) (lsS row' k w (pC row' q) (nE row')).length 0 = gvE row oc f k w q := by
            rw [pC_cg o1.b (show q < 30 by omega), ne, lsS_cg o1.b.a o1.e hA _ n60]
            exact whO_cg o1.b o1.e hB (by omega) (fun x hx => by have := lsS_mem _ x hx; omega) rfl
          rw [if_neg (show ¬ b2 true = 0 by decide), if_pos rfl, t1, bd_some, eg]
          have O1 : OfR row k w f row' oc τ := hO.ch t2 t3
          have k1 : Ch OFc LSf σ τ := t3.mono (fun i hi => List.mem_cons_of_mem _ hi) (fun q hq => Or.inl hq)
          cases h3 : gvE row oc f k w q with
          | none =>
            have st2 : F_X12_offerOne_45 (F_X12_offerOne_5 (j + 2 + g)) (nI w) (nI q) (nI n) (-1 : Int32) τ = some (nI n, τ) := by
              unfold F_X12_offerOne_45
              rw [if_pos rfl, show j + 2 + g = (j + 1 + g) + 1 by omega]
              exact one_end
            rw [show oI none = -1 from rfl, st2]
            exact ⟨τ, row', rfl, O1, rfl, k1⟩
          | some e =>
            obtain ⟨le, _⟩ := gvE_in h3
            obtain ⟨τ2, row2, u1, u2, u3, u4⟩ := ofr_45 (K := F_X12_offerOne_5 (j + 2 + g)) hA hB hE hw hq (show n < 10 by omega) le O1 on_ (by omega)
            rw [show oI (some e) = nI e from rfl, u1]
            obtain ⟨τ3, row3, v1, v2, v3, v4⟩ := ih (n + 1) (ocM row oc f k w q e n) row2 (nxP row oc f w e) τ2 (by omega) (fun x hx => nxP_lt hx) u2 (by omega)
            refine ⟨τ3, row3, v1, v2, ?_, (k1.trans (u4.mono (by simp [OFc]) (by simp))).trans v4⟩
            show nY row3 + n = nY row' + (chn row f k w j (n + 1) (ocM row oc f k w q e n) (nxP row oc f w e)).1
            omega
/-- all PLOTS below p were offered -/
def offS (row : Nat → Int32) (f : Nat → Int32) (k : Int32) (w : Nat) (oc : Nat → Nat → Option (Nat × Nat × Bool × Nat)) : Nat → Nat × (Nat → Nat → Option (Nat × Nat × Bool × Nat)) := fun p => match p with
  | 0 => (0, oc)
  | p + 1 => ((offS row f k w oc p).1 + (chn row f k w 10 0 (offS row f k w oc p).2 (some p)).1, (chn row f k w 10 0 (offS row f k w oc p).2 (some p)).2)
theorem offS_s {row f : Nat → Int32} {k : Int32} {w p : Nat} {oc : Nat → Nat → Option (Nat × Nat × Bool × Nat)} : offS row f k w oc (p + 1) = ((offS row f k w oc p).1 + (chn row f k w 10 0 (offS row f k w oc p).2 (some p)).1, (chn row f k w 10 0 (offS row f k w oc p).2 (some p)).2) := rfl
theorem offS_le {row f : Nat → Int32} {k : Int32} {w : Nat} {oc : Nat → Nat → Option (Nat × Nat × Bool × Nat)} : ∀ p, (offS row f k w oc p).1 ≤ 10 * p := by
  intro p
  induction p with
  | zero => exact Nat.le_refl _
  | succ p ih =>
    rw [offS_s]
    have := (chn_le (row := row) (f := f) (k := k) (w := w) 10 0 (offS row f k w oc p).2 (some p)).2
    show (offS row f k w oc p).1 + (chn row f k w 10 0 (offS row f k w oc p).2 (some p)).1 ≤ _
    omega
def offerV (row : Nat → Int32) (oc : Nat → Nat → Option (Nat × Nat × Bool × Nat)) (W no : Nat) (f : Nat → Int32) (x1 : Int32) : Int32 := if rgB 0 259 x1 = true then (if nI W ≤ x1 then (if no = 100 then -5 else nI (offS row f x1 (cl x1) oc (nP row)).1) else -1) else -1
def offerO (row : Nat → Int32) (oc : Nat → Nat → Option (Nat × Nat × Bool × Nat)) (f : Nat → Int32) (v x1 : Int32) : Nat → Nat → Option (Nat × Nat × Bool × Nat) := if 0 ≤ v then (offS row f x1 (cl x1) oc (nP row)).2 else oc
def offerW (W : Nat) (v x1 : Int32) : Nat := if 0 ≤ v then cl x1 else W
def offerN (no : Nat) (v : Int32) : Nat := if 0 ≤ v then no + 1 else no
def offerM (mv : Nat) (v : Int32) : Nat := if 0 ≤ v then mv + cl v else mv
def OGc : List Nat := FHc ++ (160 :: OFc)
def OGf : List (Nat × Nat) := (124, 0) :: (124, 1) :: (RNf ++ LSf)
theorem offer_loop {row : Nat → Int32} {w no mv g : Nat} {f : Nat → Int32} {x1 : Int32} {oc : Nat → Nat → Option (Nat × Nat × Bool × Nat)} (hA : AV row) (hB : BV row) (hE : EV row) (hw : w < 260) (hx : x1 = nI w) (h10 : row 10 = nI no) (h11 : row 11 = nI mv) :
    ∀ (j p : Nat) (row' : Nat → Int32) (σ : AH), p + j = nP row → OfR row x1 w f row' (offS row f x1 w oc p).2 σ → nY row' = nY row + (offS row f x1 w oc p).1 → nY row + 300 ≤ 30040 →
      ∃ τ row'', F_X12_offer_62 (j + 1 + g) x1 (nI (offS row f x1 w oc p).1) (nI p) σ = some (nI (offS row f x1 w oc (nP row)).1, τ) ∧ gI τ 125 = row'' ∧ gI τ 124 1 = 0 ∧ RwS row row'' ∧ StI row'' (offS row f x1 w oc (nP row)).2 w ∧ row'' 8 = row 8 ∧ row'' 10 = nI (no + 1) ∧ row'' 11 = nI (mv + (offS row f x1 w oc (nP row)).1) ∧ nY row'' ≤ nY row + 300 ∧ Ch OGc OGf σ τ := by
  have b30 := hB.p.2.1
  intro j
  induction j with
  | zero =>
    intro p row' σ hp hO hy h300
    have ep : p = nP row := by omega
    subst ep
    obtain ⟨o1, o2, o3, o4, o5⟩ := id hO
    have hr : gI σ 125 = row' := o2.1
    have r4 : row' 4 = nI (nP row) := by rw [o1 4 (by decide) (by decide)]; exact hB.p.1
    have le := offS_le (row := row) (f := f) (k := x1) (w := w) (oc := oc) (nP row)
    rw [show 0 + 1 + g = g + 1 by omega]
    show ∃ τ row'', B_X12_offer_62 (F_X12_offer_62 g) x1 (nI (offS row f x1 w oc (nP row)).1) (nI (nP row)) σ = _ ∧ _
    unfold B_X12_offer_62
    rw [hr, r4, if_pos (Int32.le_refl _), told_e, bd_some]
    have e10 : row' 10 = nI no := by rw [o1 10 (by decide) (by decide)]; exact h10
    have e11 : row' 11 = nI mv := by rw [o1 11 (by decide) (by decide)]; exact h11
    have g10 : gI σ 125 10 = nI no := by rw [hr]; exact e10
    have g11 : gI (sI σ 125 10 (nI (no + 1))) 125 11 = nI mv := by rw [gI_sI_ne (by decide), hr]; exact e11
    rw [e10, nI_1, g11, nI_add]
    obtain ⟨r3, hr3⟩ : ∃ r3, r3 = va_up (va_up (va_up row' 10 (nI (no + 1))) 11 (nI (mv + (offS row f x1 w oc (nP row)).1))) 12 x1 := ⟨_, rfl⟩
    have lo_ : ∀ i, i ≠ 10 → i ≠ 11 → i ≠ 12 → r3 i = row' i := fun i h1 h2 h3 => by rw [hr3, up_ne _ _ _ h3, up_ne _ _ _ h2, up_ne _ _ _ h1]
    have S3 : StS r3 (offS row f x1 w oc (nP row)).2 w := o3.lo (fun i h8 h1 h2 h3 => lo_ i h1 h2 h3)
    have ny3 : nY r3 = nY row' := by unfold nY; rw [lo_ 7 (by decide) (by decide) (by decide)]
    have kc : Ch OGc OGf σ (sI (sI (sI (sI σ 125 10 (nI (no + 1))) 125 11 (nI (mv + (offS row f x1 w oc (nP row)).1))) 125 12 x1) 124 1 (ftV (nI (offS row f x1 w oc (nP row)).1))) := (((Ch.sI1 (Or.inr (by simp [OGc, OFc]))).trans (Ch.sI1 (Or.inr (by simp [OGc, OFc])))).trans (Ch.sI1 (Or.inr (by simp [OGc, OFc])))).trans (Ch.sI1 (Or.inl (by simp [OGf])))
    refine ⟨_, r3, rfl, ?_, ?_, fun i h1 h2 h3 h4 h5 h6 => ?_, ⟨S3.1, S3.2.1, S3.2.2, ?_, hw⟩, ?_, ?_, ?_, by omega, kc⟩
    · rw [gI_sI_row (by decide), hr3, gI_sI_own, gI_sI_own, gI_sI_own, hr]
    · rw [gI_sI_at]; unfold ftV; rw [if_pos (show (0 : Int32) ≤ nI (offS row f x1 w oc (nP row)).1 from nI_le (a := 0) (by omega) (by omega))]
    · rw [lo_ i h4 h5 h6]; exact o1 i h1 h2
    · rw [hr3, up_same]; exact hx
    · rw [lo_ 8 (by decide) (by decide) (by decide)]; exact o1 8 (by decide) (by decide)
    · rw [hr3, up_ne _ _ _ (by decide), up_ne _ _ _ (by decide), up_same]
    · rw [hr3, up_ne _ _ _ (by decide), up_same]
  | succ j ih =>
    intro p row' σ hp hO hy h300
    obtain ⟨o1, o2, o3, o4, o5⟩ := id hO
    have hr : gI σ 125 = row' := o2.1
    have r4 : row' 4 = nI (nP row) := by rw [o1 4 (by decide) (by decide)]; exact hB.p.1
    have le := offS_le (row := row) (f := f) (k := x1) (w := w) (oc := oc) p
    rw [show j + 1 + 1 + g = (j + 1 + g) + 1 by omega]
    show ∃ τ row'', B_X12_offer_62 (F_X12_offer_62 (j + 1 + g)) x1 (nI (offS row f x1 w oc p).1) (nI p) σ = _ ∧ _
    unfold B_X12_offer_62
    obtain ⟨G, hG⟩ := BIGe 11 (by decide)
    obtain ⟨τ, row2, t1, t2, t3, t4⟩ := ofr_loop (g := G) hA hB hE hw 10 0 (offS row f x1 w oc p).2 row' (some p) σ (by omega) (fun q hq => by cases hq; omega) hO (by omega)
    have oo : F_X12_offerOne (nI p) x1 σ = some (nI (chn row f x1 w 10 0 (offS row f x1 w oc p).2 (some p)).1, τ) := by
      unfold F_X12_offerOne
      rw [hG, hx, show 11 + 1 + G = 10 + 2 + G by omega]
      rw [hx] at t1
      exact t1
    rw [hr, r4, if_neg (nI_ge (by omega) (by omega)), oo, bd_some, nI_add, nI_1]
    obtain ⟨τ2, row3, u1, u2, u3, u4, u5, u6, u7, u8, u9, u10⟩ := ih (p + 1) row2 τ (by omega) (by rw [offS_s]; exact t2) (by rw [offS_s]; show nY row2 = nY row + ((offS row f x1 w oc p).1 + (chn row f x1 w 10 0 (offS row f x1 w oc p).2 (some p)).1); omega) h300
    rw [offS_s] at u1
    exact ⟨τ2, row3, u1, u2, u3, u4, u5, u6, u7, u8, u9, (t4.mono (by simp [OGc, OFc, LSc]) (fun q hq => Or.inl (by unfold OGf; simp; exact Or.inr (Or.inr (Or.inr hq))))).trans u10⟩
theorem P_offer {row : Nat → Int32} {oc : Nat → Nat → Option (Nat × Nat × Bool × Nat)} {W no mv : Nat} {x1 : Int32} {σ : AH} (hA : AV row) (hB : BV row) (hE : EV row) (hS : StI row oc W) (h10 : row 10 = nI no) (hno : no ≤ 100) (h11 : row 11 = nI mv) (hn : no < 100 → nY row + 300 ≤ 30040) (hr : gI σ 125 = row) :
    ∃ τ row' f, F_X12_offer x1 σ = some (offerV row oc W no f x1, τ) ∧ FmF row x1 f ∧ gI τ 125 = row' ∧ gI τ 124 1 = ftV (offerV row oc W no f x1) ∧ RwS row row' ∧ StI row' (offerO row oc f (offerV row oc W no f x1) x1) (offerW W (offerV row oc W no f x1) x1) ∧ row' 8 = row 8 ∧ row' 10 = nI (offerN no (offerV row oc W no f x1)) ∧ row' 11 = nI (offerM mv (offerV row oc W no f x1)) ∧ (nY row' + 300 * no ≤ nY row + 300 * offerN no (offerV row oc W no f x1)) ∧ Ch OGc OGf σ τ := by
  obtain ⟨hV, hR, hF, h12, hW⟩ := id hS
  have b30 := hB.p.2.1
  have c0 : Ch OGc OGf σ (sI σ 124 0 0) := Ch.sI1 (Or.inl (by simp [OGf]))
  have hr0 : gI (sI σ 124 0 0) 125 = row := by rw [gI_sI_row (by decide)]; exact hr
  obtain ⟨τ0, _, fm0, _⟩ := F_findFamilies (k := x1) (σ := sI σ 124 0 0) hE hr0
  have bad : ∀ (v : Int32), ¬ 0 ≤ v → (∀ f, offerV row oc W no f x1 = v) →
      ∃ τ row' f, (bd (F_X12_told v (sI σ 124 0 0)) fun v25 σ21 => some (v25, σ21)) = some (offerV row oc W no f x1, τ) ∧ FmF row x1 f ∧ gI τ 125 = row' ∧ gI τ 124 1 = ftV (offerV row oc W no f x1) ∧ RwS row row' ∧ StI row' (offerO row oc f (offerV row oc W no f x1) x1) (offerW W (offerV row oc W no f x1) x1) ∧ row' 8 = row 8 ∧ row' 10 = nI (offerN no (offerV row oc W no f x1)) ∧ row' 11 = nI (offerM mv (offerV row oc W no f x1)) ∧ (nY row' + 300 * no ≤ nY row + 300 * offerN no (offerV row oc W no f x1)) ∧ Ch OGc OGf σ τ := fun v hv e => by
    rw [told_e, bd_some]
    refine ⟨_, row, gI τ0 160, by rw [e], fm0, by rw [gI_sI_row (by decide)]; exact hr0, by rw [e]; exact gI_sI_at, RwS.rf, ?_, rfl, ?_, ?_, ?_, c0.trans (Ch.sI1 (Or.inl (by simp [OGf])))⟩
    · unfold offerO offerW; rw [e, if_neg hv, if_neg hv]; exact hS
    · unfold offerN; rw [e, if_neg hv]; exact h10
    · unfold offerM; rw [e, if_neg hv]; exact h11
    · unfold offerN; rw [e, if_neg hv]; exact Nat.le_refl _
  have n1 : ¬ (0 : Int32) ≤ -1 := by decide
  have n5 : ¬ (0 : Int32) ≤ -5 := by decide
  unfold F_X12_offer F_X12_offer_23
  rw [F_isWeek, bd_b (α := Int32), hr0, h12]
  by_cases c1 : rgB 0 259 x1 = true
  · rw [if_pos c1]
    by_cases c2 : nI W ≤ x1
    · rw [if_pos c2, h10]
      by_cases c3 : no = 100
      · rw [if_pos (show nI no = (100 : Int32) by rw [c3]; rfl)]
        exact bad (-5) n5 (fun f => by unfold offerV; rw [if_pos c1, if_pos c2, if_pos c3])
      · have ne : ¬ nI no = (100 : Int32) := fun z => c3 ((nI_eq (b := 100) (by omega) (by decide)).mp z)
        rw [if_neg ne]
        obtain ⟨e1, b1⟩ := rg0_n (b := 259) c1 (by decide)
        have lw : W ≤ cl x1 := by
          rw [e1, Int32.le_iff_toInt_le, nI_toInt (by omega), nI_toInt (by omega)] at c2; omega
        obtain ⟨τ1, t1, t2, t3, t4⟩ := F_findHomes (k := x1) (σ := sI σ 124 0 0) hA hB hr0
        obtain ⟨τ2, u1, u2, u3⟩ := F_findFamilies (k := x1) (σ := τ1) hE t2.1
        have K2 : KI row x1 τ2 := t2.ch u3 (t2.2.2.1.ch u3 (by simp) (by simp) (by simp) (by simp)) (by simp) (by simp) (by simp) (by simp) (by simp)
        rw [t1, bv_some, u1, bv_some]
        have k1 : Ch OGc OGf σ τ1 := c0.trans (t4.mono (fun i hi => List.mem_append_left _ hi) (fun q hq => Or.inl (by unfold OGf; simp; exact Or.inr (Or.inr (Or.inl hq)))))
        have k2 : Ch OGc OGf σ τ2 := k1.trans (u3.mono (by simp [OGc]) (by simp))
        have O2 : OfR row x1 (cl x1) (gI τ2 160) row oc τ2 := ⟨fun _ _ _ => rfl, K2, (hS.s).late lw (by omega), fun e _ => rfl, fun p hp => by rw [u3.rI (by simp) (by simp), u3.rI (by simp) (by simp)]; exact t3 p hp⟩
        obtain ⟨G, hG⟩ := BIGe (nP row) (by omega)
        obtain ⟨τ3, r3, v1, v2, v3, v4, v5, v6, v7, v8, v9, v10⟩ := offer_loop (g := G) (oc := oc) (f := gI τ2 160) hA hB hE (show cl x1 < 260 by omega) e1 h10 h11 (nP row) 0 row τ2 (by omega) O2 rfl (hn (by omega))
        have vv : offerV row oc W no (gI τ2 160) x1 = nI (offS row (gI τ2 160) x1 (cl x1) oc (nP row)).1 := by unfold offerV; rw [if_pos c1, if_pos c2, if_neg c3]
        have le := offS_le (row := row) (f := gI τ2 160) (k := x1) (w := cl x1) (oc := oc) (nP row)
        have pos : (0 : Int32) ≤ nI (offS row (gI τ2 160) x1 (cl x1) oc (nP row)).1 := nI_le (a := 0) (by omega) (by omega)
        have v1' : F_X12_offer_62 BIG x1 (0 : Int32) (0 : Int32) τ2 = some (nI (offS row (gI τ2 160) x1 (cl x1) oc (nP row)).1, τ3) := by rw [hG]; exact v1
        refine ⟨τ3, r3, gI τ2 160, by rw [v1', vv], u2, v2, ?_, v4, ?_, v6, ?_, ?_, ?_, k2.trans v10⟩
        · rw [v3, vv]; unfold ftV; rw [if_pos pos]
        · unfold offerO offerW; rw [vv, if_pos pos, if_pos pos]; exact v5
        · unfold offerN; rw [vv, if_pos pos]; exact v7
        · unfold offerM; rw [vv, if_pos pos, v8, show cl (nI (offS row (gI τ2 160) x1 (cl x1) oc (nP row)).1) = (offS row (gI τ2 160) x1 (cl x1) oc (nP row)).1 from nI_clamp (by omega)]
        · unfold offerN; rw [vv, if_pos pos]; omega
    · rw [if_neg c2]
      exact bad (-1) n1 (fun f => by unfold offerV; rw [if_pos c1, if_neg c2])
  · rw [if_neg c1]
    exact bad (-1) n1 (fun f => by unfold offerV; rw [if_neg c1])
end
