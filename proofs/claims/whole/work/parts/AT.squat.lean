section
/-! squat of the reference -/
/-- from when on one that squats from WEEK x on lives there -/
def sqL (row : Nat → Int32) (x : Int32) : Int32 := if (fd row x x (stO 0 x) 7 0 0 0).1 = true then x + aln (fd row x x (stO 0 x) 7 0 0 0).2.1 else 1000000
def squatV (row : Nat → Int32) (oc : Nat → Nat → Option (Nat × Nat × Bool × Nat)) (W ns : Nat) (f : Nat → Int32) (x1 x2 x3 : Int32) : Int32 :=
  if rgB 0 259 x3 = true then (if nI W ≤ x3 then (if ltB (nE row) x1 = true then (if ltB (nP row) x2 = true then (if en row (cl x1) 6 ≤ x3 then (if hoB row x3 (cl x2) (cl x3) = true then (if (oc (cl x2) (cl x3)).isNone = true then (if (fsF (rfP oc f (f (cl x1)) (cl x3) true) (nP row) 0).isNone = true then (if (fsF (rfP oc f (f (cl x1)) (cl x3) false) (nP row) 0).isNone = true then (if ns = 40 then -5 else nI (ns + 1)) else -3) else -3) else -3) else -3) else -2) else -2) else -2) else -1) else -1
def squatO (row : Nat → Int32) (oc : Nat → Nat → Option (Nat × Nat × Bool × Nat)) (v x1 x2 x3 : Int32) : Nat → Nat → Option (Nat × Nat × Bool × Nat) := if 0 < v then ocG oc (cl x2) (cl x3) (fun u => decide (heW row x3 (cl x2) ≤ nI u)) (fun u => decide (sqL row x3 ≤ nI u)) (cl x1) 0 else oc
def squatW (W : Nat) (v x3 : Int32) : Nat := if 0 < v then cl x3 else W
def squatN (ns : Nat) (v : Int32) : Nat := if 0 < v then ns + 1 else ns
def SQc : List Nat := FHc ++ [160, 125]
def SQf : List (Nat × Nat) := (124, 0) :: (124, 1) :: RNf
theorem P_squat {row : Nat → Int32} {oc : Nat → Nat → Option (Nat × Nat × Bool × Nat)} {W ns : Nat} {x1 x2 x3 : Int32} {σ : AH} (hA : AV row) (hB : BV row) (hE : EV row) (hS : StI row oc W) (h8 : row 8 = nI ns) (hns : ns ≤ 40) (hn : ns < 40 → nY row < 30040) (hq : ∀ x, rgB 0 259 x = true → x ≤ sqL row x) (hr : gI σ 125 = row) :
    ∃ τ row' f, F_X12_squat x1 x2 x3 σ = some (squatV row oc W ns f x1 x2 x3, τ) ∧ FmF row x3 f ∧ gI τ 125 = row' ∧ gI τ 124 1 = ftV (squatV row oc W ns f x1 x2 x3) ∧ RwS row row' ∧ StI row' (squatO row oc (squatV row oc W ns f x1 x2 x3) x1 x2 x3) (squatW W (squatV row oc W ns f x1 x2 x3) x3) ∧ row' 8 = nI (squatN ns (squatV row oc W ns f x1 x2 x3)) ∧ row' 10 = row 10 ∧ row' 11 = row 11 ∧ nY row' + ns = nY row + squatN ns (squatV row oc W ns f x1 x2 x3) ∧ Ch SQc SQf σ τ := by
  obtain ⟨hV, hR, hF, h12, hW⟩ := id hS
  have b30 := hB.p.2.1
  have n60 := hE.n.2
  have n30 := hV.n.2
  have c0 : Ch SQc SQf σ (sI σ 124 0 0) := Ch.sI1 (Or.inl (by simp [SQf]))
  have hr0 : gI (sI σ 124 0 0) 125 = row := by rw [gI_sI_row (by decide)]; exact hr
  have bad : ∀ (s : AH) (f : Nat → Int32) (v : Int32), FmF row x3 f → gI s 125 = row → Ch SQc SQf σ s → ¬ 0 < v → squatV row oc W ns f x1 x2 x3 = v →
      ∃ τ row' f, (bd (F_X12_told v s) fun v25 σ21 => some (v25, σ21)) = some (squatV row oc W ns f x1 x2 x3, τ) ∧ FmF row x3 f ∧ gI τ 125 = row' ∧ gI τ 124 1 = ftV (squatV row oc W ns f x1 x2 x3) ∧ RwS row row' ∧ StI row' (squatO row oc (squatV row oc W ns f x1 x2 x3) x1 x2 x3) (squatW W (squatV row oc W ns f x1 x2 x3) x3) ∧ row' 8 = nI (squatN ns (squatV row oc W ns f x1 x2 x3)) ∧ row' 10 = row 10 ∧ row' 11 = row 11 ∧ nY row' + ns = nY row + squatN ns (squatV row oc W ns f x1 x2 x3) ∧ Ch SQc SQf σ τ := fun s f v hf rs cs hv e => by
    rw [told_e, bd_some]
    refine ⟨_, row, f, by rw [e], hf, by rw [gI_sI_row (by decide)]; exact rs, by rw [e]; exact gI_sI_at, RwS.rf, ?_, ?_, rfl, rfl, ?_, cs.trans (Ch.sI1 (Or.inl (by simp [SQf])))⟩
    · unfold squatO squatW; rw [e, if_neg hv, if_neg hv]; exact hS
    · unfold squatN; rw [e, if_neg hv]; exact h8
    · unfold squatN; rw [e, if_neg hv]
  obtain ⟨τ0, _, fm0, _⟩ := F_findFamilies (k := x3) (σ := sI σ 124 0 0) hE hr0
  have ip : F_X12_isPlot x2 (sI σ 124 0 0) = some (if ltB (nP row) x2 = true then 1 else 0, sI σ 124 0 0) := F_isPlot hB hr0
  have ie : F_X12_isEntry x1 (sI σ 124 0 0) = some (if ltB (nE row) x1 = true then 1 else 0, sI σ 124 0 0) := F_isEntryR hE hr0
  unfold F_X12_squat F_X12_squat_23 F_X12_squat_56 F_X12_squat_123
  rw [F_isWeek, bd_b (α := Int32), hr0, h12, ie, bd_b (α := Int32), ip, bd_b (α := Int32)]
  by_cases c1 : rgB 0 259 x3 = true
  · rw [if_pos c1]
    by_cases c2 : nI W ≤ x3
    · rw [if_pos c2]
      by_cases c3 : ltB (nE row) x1 = true
      · rw [if_pos c3]
        by_cases c4 : ltB (nP row) x2 = true
        · rw [if_pos c4]
          obtain ⟨e1, b1⟩ := ltB_n c3 (by omega)
          obtain ⟨e2, b2'⟩ := ltB_n c4 (by omega)
          obtain ⟨e3, b3⟩ := rg0_n (b := 259) c1 (by decide)
          have a6 : F_X12_entryAt x1 (6 : Int32) (sI σ 124 0 (0 : Int32)) = some (en row (cl x1) 6, sI σ 124 0 0) := by
            have := F_entryAt (σ := sI σ 124 0 (0 : Int32)) (e := cl x1) (j := 6) hE b1 (by decide) hr0
            rw [← e1] at this; exact this
          rw [a6, bd_some]
          by_cases c5 : en row (cl x1) 6 ≤ x3
          · rw [if_pos c5]
            obtain ⟨τ1, t1, t2, t3, t4⟩ := F_findHomes (k := x3) (σ := sI σ 124 0 0) hA hB hr0
            have k1 : Ch SQc SQf σ τ1 := c0.trans (t4.mono (fun i hi => List.mem_append_left _ hi) (fun q hq => Or.inl (List.mem_cons_of_mem _ (List.mem_cons_of_mem _ hq))))
            obtain ⟨τ2, u1, u2, u3⟩ := F_findFamilies (k := x3) (σ := τ1) hE t2.1
            have k2 : Ch SQc SQf σ τ2 := k1.trans (u3.mono (by simp [SQc]) (by simp))
            have K2 : KI row x3 τ2 := t2.ch u3 (t2.2.2.1.ch u3 (by simp) (by simp) (by simp) (by simp)) (by simp) (by simp) (by simp) (by simp) (by simp)
            rw [t1, bv_some, u1, bv_some]
            have g164 : gI τ2 164 = gI τ1 164 := u3.rI (by simp) (by simp)
            have g165 : gI τ2 165 = gI τ1 165 := u3.rI (by simp) (by simp)
            have ih : F_X12_isHome x2 x3 τ2 = some (b2 (hoB row x3 (cl x2) (cl x3)), τ2) := by
              have := F_isHome (row := row) (k := x3) (p := cl x2) (w := cl x3) (σ := τ2) (by omega) (by omega) (by rw [g164]; exact (t3 _ b2').1) (by rw [g165]; exact (t3 _ b2').2)
              rw [← e2, ← e3] at this; exact this
            have fr : F_X12_isFree x2 x3 τ2 = some (b2 (oc (cl x2) (cl x3)).isNone, τ2) := by
              have := F_isFreeR (p := cl x2) (w := cl x3) hV K2.1 hR b2' (by omega)
              rw [← e2, ← e3] at this; exact this
            have q1 : inB x1 60 = true := by rw [e1]; exact inB_n (by omega) (by omega)
            have so : ∀ b, F_X12_stayOf (gI τ2 160 x1.toNatClampNeg) x3 (b2 b) τ2 = some (oI (soS row (gI τ2 160) (gI τ2 160 (cl x1)) (cl x3) b (nY row)), τ2) := fun b => by
              have := F_stayOf (f := gI τ2 160) (fam := gI τ2 160 (cl x1)) (w := cl x3) (b := b) hV hE K2.1 (fun _ _ => rfl)
              rw [← e3] at this; exact this
            have sn : ∀ b, (soS row (gI τ2 160) (gI τ2 160 (cl x1)) (cl x3) b (nY row) = none ∧ (fsF (rfP oc (gI τ2 160) (gI τ2 160 (cl x1)) (cl x3) b) (nP row) 0).isNone = true) ∨ ∃ s, s < nY row ∧ soS row (gI τ2 160) (gI τ2 160 (cl x1)) (cl x3) b (nY row) = some s ∧ (fsF (rfP oc (gI τ2 160) (gI τ2 160 (cl x1)) (cl x3) b) (nP row) 0).isNone = false := fun b => by
              rcases stayOf_oc (f := gI τ2 160) (fam := gI τ2 160 (cl x1)) (b := b) hB hV hR (show cl x3 < 260 by omega) with ⟨z1, z2⟩ | ⟨s, s1, s2, s3, _⟩
              · exact Or.inl ⟨z1, by rw [z2]; rfl⟩
              · exact Or.inr ⟨s, s1, s2, by rw [s3]; rfl⟩
            have so1 : F_X12_stayOf (gI τ2 160 x1.toNatClampNeg) x3 (1 : Int32) τ2 = _ := so true
            have so0 : F_X12_stayOf (gI τ2 160 x1.toNatClampNeg) x3 (0 : Int32) τ2 = _ := so false
            have vv : squatV row oc W ns (gI τ2 160) x1 x2 x3 = (if hoB row x3 (cl x2) (cl x3) = true then (if (oc (cl x2) (cl x3)).isNone = true then (if (fsF (rfP oc (gI τ2 160) (gI τ2 160 (cl x1)) (cl x3) true) (nP row) 0).isNone = true then (if (fsF (rfP oc (gI τ2 160) (gI τ2 160 (cl x1)) (cl x3) false) (nP row) 0).isNone = true then (if ns = 40 then -5 else nI (ns + 1)) else -3) else -3) else -3) else -3) := by
              unfold squatV; rw [if_pos c1, if_pos c2, if_pos c3, if_pos c4, if_pos c5]
            rw [ih, bd_some]
            cases hh : hoB row x3 (cl x2) (cl x3) with
            | false =>
              rw [if_pos (show b2 false = 0 from rfl)]
              exact bad τ2 _ (-3) u2 K2.1 k2 (by decide) (by rw [vv, hh, if_neg (by decide)])
            | true =>
              rw [hh, if_pos rfl] at vv
              rw [if_neg (show ¬ b2 true = 0 by decide), fr, bd_some]
              cases hi : (oc (cl x2) (cl x3)).isNone with
              | false =>
                rw [if_pos (show b2 false = 0 from rfl)]
                exact bad τ2 _ (-3) u2 K2.1 k2 (by decide) (by rw [vv, hi, if_neg (by decide)])
              | true =>
                rw [hi, if_pos rfl] at vv
                have on : oc (cl x2) (cl x3) = none := Option.isNone_iff_eq_none.mp hi
                rw [if_neg (show ¬ b2 true = 0 by decide), if_pos q1, so1, bd_some]
                rcases sn true with ⟨z1, z2⟩ | ⟨s, s1, s2, s3⟩
                · rw [z1, show oI none = -1 from rfl, if_pos rfl]
                  rw [z2, if_pos rfl] at vv
                  unfold F_X12_squat_107 F_X12_squat_123
                  rw [if_pos q1, so0, bd_some]
                  rcases sn false with ⟨y1, y2⟩ | ⟨s, s1, s2, s3⟩
                  · rw [y1, show oI none = -1 from rfl, if_pos rfl, K2.1, h8]
                    rw [y2, if_pos rfl] at vv
                    by_cases c40 : ns = 40
                    · rw [if_pos (show nI ns = (40 : Int32) by rw [c40]; rfl)]
                      exact bad τ2 _ (-5) u2 K2.1 k2 (by decide) (by rw [vv, if_pos c40])
                    · rw [if_neg (show ¬ nI ns = (40 : Int32) from fun e => c40 ((nI_eq (b := 40) (by omega) (by decide)).mp e))]
                      rw [if_neg c40] at vv
                      obtain ⟨τ3, v1, v2, v3⟩ := F_setOnly' (r := 0) (w := x3) (σ := τ2)
                      have K3 : KI row x3 τ3 := K2.ch v3 (K2.2.2.1.ch v3 (by simp) (by simp) (by simp) (by simp)) (by simp) (by simp) (by simp) (by simp) (by simp)
                      obtain ⟨τ4, w1, w2, w3, w4, w5⟩ := F_find8 (h := 7) (kd_ := 0) (sg := 0) (mt := 0) (w := x3) (st := stO 0 x3) hA (by rw [e3]; exact nI_neg1 (by omega)) K3.1 v2 K3.2.1 K3.2.2.1
                      rw [v1, bv_some, w1, bd_some]
                      have k4 : Ch SQc SQf σ τ4 := (k2.trans (v3.mono (by simp [SQc, FHc, RNc]) (by simp))).trans (w5.mono (by simp [SQc, FHc, RNc, FDc]) (by simp [FDf, SQf, RNf]))
                      have r4 : gI τ4 125 = row := by rw [w5.rI (by simp [FDc]) (by simp [FDf])]; exact K3.1
                      have h165 : gI τ4 165 (cl x2) = heW row x3 (cl x2) := by
                        rw [w5.rI (by simp [FDc]) (by simp [FDf]), v3.rI (by simp) (by simp), g165]; exact (t3 _ b2').2
                      have lw : W ≤ cl x3 := by
                        rw [e3, Int32.le_iff_toInt_le, nI_toInt (by omega), nI_toInt (by omega)] at c2; omega
                      have pos : (0 : Int32) < nI (ns + 1) := by
                        rw [Int32.lt_iff_toInt_lt, nI_toInt (by omega)]
                        have : (0 : Int32).toInt = 0 := by decide
                        omega
                      have fin : F_X12_squat_180 x1 x2 x3 (sqL row x3) τ4 = F_X12_squat_180 x1 x2 x3 (sqL row x3) τ4 → ∃ τ row' f, F_X12_squat_180 x1 x2 x3 (sqL row x3) τ4 = some (squatV row oc W ns f x1 x2 x3, τ) ∧ FmF row x3 f ∧ gI τ 125 = row' ∧ gI τ 124 1 = ftV (squatV row oc W ns f x1 x2 x3) ∧ RwS row row' ∧ StI row' (squatO row oc (squatV row oc W ns f x1 x2 x3) x1 x2 x3) (squatW W (squatV row oc W ns f x1 x2 x3) x3) ∧ row' 8 = nI (squatN ns (squatV row oc W ns f x1 x2 x3)) ∧ row' 10 = row 10 ∧ row' 11 = row 11 ∧ nY row' + ns = nY row + squatN ns (squatV row oc W ns f x1 x2 x3) ∧ Ch SQc SQf σ τ := fun _ => by
                        unfold F_X12_squat_180
                        have nn := hn (by omega)
                        obtain ⟨τ5, y1', y2', y3'⟩ := F_addStay (p := cl x2) (x2 := x1) (x3 := x3) (x4 := sqL row x3) (x5 := 0) (x6 := 1) hV nn r4 (by omega) h165
                        rw [← e2] at y1' y2'
                        obtain ⟨S1, S2, S3⟩ := hS.s.add (p := cl x2) (e := cl x1) (w := cl x3) (c := 0) (L := sqL row x3) (T := heW row x3 (cl x2)) (fl := 1) b30 nn lw (by omega) b2' b1 (by omega) n60 on (by rw [← e3]; exact hq x3 c1) (Or.inl rfl)
                        rw [← e1, ← e2, ← e3] at S1 S2 S3
                        obtain ⟨ra, hra⟩ : ∃ r, r = adR row (nY row) (ad8 x2 x1 x3 (sqL row x3) (heW row x3 (cl x2)) 0 1) := ⟨_, rfl⟩
                        have z0 : nI 0 = (0 : Int32) := rfl
                        rw [z0, ← hra] at S1 S2 S3
                        rw [← hra] at y2'
                        have alo : ∀ i, i < 29512 → i ≠ 7 → ra i = row i := fun i h1 h2 => by rw [hra]; exact adR_lo h1 h2
                        have g8 : gI τ5 125 8 = nI ns := by rw [y2', alo 8 (by decide) (by decide)]; exact h8
                        rw [y1', bv_some, g8, nI_1, told_e, bd_some]
                        obtain ⟨row', hrow⟩ : ∃ r, r = va_up (va_up ra 8 (nI (ns + 1))) 12 x3 := ⟨_, rfl⟩
                        have v8 : gI (sI (sI τ5 125 8 (nI (ns + 1))) 125 12 x3) 125 8 = nI (ns + 1) := by rw [gI_sI_ne (by decide), gI_sI_at]
                        have lo : ∀ i, i ≠ 8 → i ≠ 12 → row' i = ra i := fun i h1 h2 => by rw [hrow, up_ne _ _ _ h2, up_ne _ _ _ h1]
                        have S1' : StS row' _ (cl x3) := S1.lo (fun i h1 _ _ h2 => lo i h1 h2)
                        refine ⟨_, row', gI τ2 160, by rw [v8, vv], u2, ?_, ?_, fun i hi h1 h2 _ _ h3 => ?_, ⟨?_, ?_, ?_, ?_, ?_⟩, ?_, ?_, ?_, ?_, ?_⟩
                        · rw [gI_sI_row (by decide), gI_sI_own, gI_sI_own, y2', hrow]
                        · rw [vv]; exact gI_sI_at
                        · rw [lo i h2 h3, alo i hi h1]
                        · exact S1'.1
                        · unfold squatO; rw [vv, if_pos pos]; exact S1'.2.1
                        · unfold squatW; rw [vv, if_pos pos]; exact S1'.2.2
                        · unfold squatW; rw [vv, if_pos pos, hrow, up_same]; exact e3
                        · unfold squatW; rw [vv, if_pos pos]; omega
                        · unfold squatN; rw [vv, if_pos pos, hrow, up_ne _ _ _ (by decide), up_same]
                        · rw [lo 10 (by decide) (by decide), alo 10 (by decide) (by decide)]
                        · rw [lo 11 (by decide) (by decide), alo 11 (by decide) (by decide)]
                        · unfold squatN
                          rw [vv, if_pos pos]
                          have : nY row' = nY ra := by unfold nY; rw [lo 7 (by decide) (by decide)]
                          omega
                        · exact (((k4.trans (y3'.mono (by simp [SQc]) (by simp))).trans (Ch.sI1 (Or.inr (by simp [SQc])))).trans (Ch.sI1 (Or.inr (by simp [SQc])))).trans (Ch.sI1 (Or.inl (by simp [SQf])))
                      cases hb : (fd row x3 x3 (stO 0 x3) 7 0 0 0).1 with
                      | false =>
                        have es : sqL row x3 = 1000000 := by unfold sqL; rw [hb, if_neg (by decide)]
                        rw [if_pos (show b2 false = 0 from rfl)]
                        rw [es] at fin; exact fin rfl
                      | true =>
                        have es : sqL row x3 = x3 + aln (fd row x3 x3 (stO 0 x3) 7 0 0 0).2.1 := by unfold sqL; rw [hb, if_pos rfl]
                        rw [if_neg (show ¬ b2 true = 0 by decide), F_aln, bd_some, w2]
                        rw [es] at fin; exact fin rfl
                  · rw [s2, show oI (some s) = nI s from rfl, if_neg (nI_neg1 (by omega))]
                    exact bad τ2 _ (-3) u2 K2.1 k2 (by decide) (by rw [vv, s3, if_neg (by decide)])
                · rw [s2, show oI (some s) = nI s from rfl, if_neg (nI_neg1 (by omega))]
                  exact bad τ2 _ (-3) u2 K2.1 k2 (by decide) (by rw [vv, s3, if_neg (by decide)])
          · rw [if_neg c5]
            exact bad _ _ (-2) fm0 hr0 c0 (by decide) (by unfold squatV; rw [if_pos c1, if_pos c2, if_pos c3, if_pos c4, if_neg c5])
        · rw [if_neg c4]
          exact bad _ _ (-2) fm0 hr0 c0 (by decide) (by unfold squatV; rw [if_pos c1, if_pos c2, if_pos c3, if_neg c4])
      · rw [if_neg c3]
        exact bad _ _ (-2) fm0 hr0 c0 (by decide) (by unfold squatV; rw [if_pos c1, if_pos c2, if_neg c3])
    · rw [if_neg c2]
      exact bad _ _ (-1) fm0 hr0 c0 (by decide) (by unfold squatV; rw [if_pos c1, if_neg c2])
  · rw [if_neg c1]
    exact bad _ _ (-1) fm0 hr0 c0 (by decide) (by unfold squatV; rw [if_neg c1])
end
