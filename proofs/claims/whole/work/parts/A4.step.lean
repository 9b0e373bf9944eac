section
theorem LvI.keepBest {row : Nat → Int32} {q n t : Nat} {wi r : Nat → Nat} {σ τ : AH} (h : LvI row q n wi t r σ) (c : Ch [82] [(68, 12), (68, 13)] σ τ) : LvI row q n wi t r τ := by
  obtain ⟨iO, iC, iS, ⟨cur, c4, cR, cr⟩, iA⟩ := h
  have cc : Ch (BRc 3) BRf σ τ := c.mono (fun i hi => BRm.mpr (by simp at hi; omega)) (by simp [BRf])
  have ab : 68 < abT t ∧ (abT t + 9 < 82 ∨ 82 < abT t) := by unfold abT; split <;> omega
  exact ⟨iO.br cc (iO.1.fr c (by simp) (by simp)), iC.ch c (by simp) (by simp), iS.ch c, ⟨cur, c4, cR.ch c (by simp) (by simp), cr⟩, iA.keep c (by simp; omega) (by simp; omega)⟩
/-- back to what was ahead of the time: it has stayed -/
theorem LvI.back {row : Nat → Int32} {q n t : Nat} {wi r rm : Nat → Nat} {σ τ : AH} (h0 : LvI row q n wi t r σ) (h1 : LvI row q n wi (t + 1) rm τ) (hr : ∀ i, i < n → r i = if rm i ≤ t then rm i else 0) (c : Ch (BRc t) BRf σ τ) : LvI row q n wi t r τ := by
  obtain ⟨jO, jC, jS, ⟨cur, c4, cR, cr⟩, jA⟩ := h1
  have ab : 68 < abT t ∧ abT t + 9 < 83 + 10 * t ∧ (abT t + 9 < 81 ∨ 82 < abT t) := by unfold abT; split <;> omega
  refine ⟨jO, jC, jS, ⟨cur, c4, cR, fun i hi => ?_⟩, h0.2.2.2.2.keep c (fun i hi => by have := BRm.mp hi; omega) (by simp [BRf]; omega)⟩
  rw [hr i hi, cr i hi]
  by_cases a : cur i ≤ t
  · rw [if_pos (show cur i ≤ t + 1 by omega), if_pos a]
  · rw [if_neg a]
    by_cases b : cur i ≤ t + 1
    · rw [if_pos b, if_neg a]
    · rw [if_neg b]; split <;> rfl
theorem F_playTime {row : Nat → Int32} {q n t m : Nat} {wi r : Nat → Nat} {σ : AH} (hV : AV row) (hA : AW row) (hB : BV row) (hq : q < 20) (hW : WiV row n wi) (t3 : t < 3) (mlt : m < 64) (hrt : ∀ i, r i ≤ t) (hbit : ∀ i, i < n → m.testBit i = true → r i = 0) (hI : LvI row q n wi t r σ) :
    ∃ τ, F_X1_playTime (nI t) (nI m) σ = some τ ∧ LvI row q n wi (t + 1) (fun i => if m.testBit i = true then t + 1 else r i) τ ∧ Ch (PYc t) PYf σ τ := by
  have hn := hW.1
  have b30 := hB.p.2.1
  obtain ⟨iO, iC, iS, ⟨cur, k4, kR, kr⟩, iA⟩ := hI
  obtain ⟨rm, hrm⟩ : ∃ rm : Nat → Nat, rm = fun i => if m.testBit i = true then t + 1 else r i := ⟨_, rfl⟩
  have rmv : ∀ i, rm i = if m.testBit i = true then t + 1 else r i := fun i => by rw [hrm]
  have rm4 : ∀ i, rm i ≤ t + 1 := fun i => by rw [rmv]; have := hrt i; split <;> omega
  rw [← hrm]
  unfold F_X1_playTime
  obtain ⟨σ1, a1, a2f, a3⟩ := F_putTime (m := m) (t := t) hn mlt t3 k4 iC kR
  have a2 : CrI n rm σ1 := fun i hi => by
    rw [a2f i hi, rmv, kr i hi]
  rw [a1, bv_some]
  have c1 : Ch (PYc t) PYf σ σ1 := a3.mono (fun i hi => PYm.mpr (by simp at hi; omega)) (by simp)
  have O1 : OqI row q σ1 := iO.put a3
  have C1 := iC.ch a3 (by simp) (by simp)
  have S1 := iS.ch a3
  have ab : 68 < abT t ∧ abT t + 9 < 83 + 10 * t ∧ (abT t + 9 < 81 ∨ 82 < abT t) := by unfold abT; split <;> omega
  have A1 := iA.keep a3 (by simp; omega) (by simp)
  have f1 : gI σ1 68 4 = nI (13 * q) := O1.2.2.1.1
  have e1 : nI (13 * q) + nI t * (4 : Int32) = nI (13 * q + 4 * t) := by simp only [fa_lit, nI_add, pk_mul]; rw [Nat.mul_comm t 4]
  have e4 : nI (13 * q + 4 * t) + (4 : Int32) = nI (13 * q + 4 * t + 4) := nI_add _ 4
  have e13 : nI (13 * q) + (13 : Int32) = nI (13 * q + 13) := nI_add _ 13
  have play : ∃ τ, F_X1_playTime_33 (nI t) (nI (13 * q + 4 * t)) (nI (13 * q + wkT (t + 1))) σ1 = some τ ∧ LvI row q n wi (t + 1) rm τ ∧ Ch (PYc t) PYf σ τ := by
    unfold F_X1_playTime_33
    have qt : inB (nI t) 3 = true := inB_n t3 (by decide)
    have nt : (nI t).toNatClampNeg = t := nI_clamp (by omega)
    have gr : ∀ x, SaI x → gR x 80 t = some (83 + 10 * t) := fun x hx => by
      obtain ⟨x0, x1, x2⟩ := hx
      have : t = 0 ∨ t = 1 ∨ t = 2 := by omega
      rcases this with z | z | z <;> subst z
      · exact x0
      · exact x1
      · exact x2
    have mem : 83 + 10 * t ∈ siteIds := by
      have : t = 0 ∨ t = 1 ∨ t = 2 := by omega
      rcases this with z | z | z <;> subst z <;> decide
    have bb : 44 < 83 + 10 * t ∧ 83 + 10 * t + 9 < 124 := by omega
    have agr : AgW (sC (sQ row q) wi q r n) (sC (sQ row q) wi q rm n) (13 * q + 4 * t) := ag_t hW (fun i hi => by
      rw [rmv]
      by_cases y : m.testBit i = true
      · rw [if_pos y]; exact Or.inr ⟨Or.inl (hbit i hi y), Or.inr (by omega)⟩
      · rw [if_neg y]; exact Or.inl rfl)
    have ls0 : ∀ p w, sQ row q p = some w → w < 260 := fun p w h => sw_lt hB h
    have lr : ∀ p w, sC (sQ row q) wi q r n p = some w → w < 260 := sC_lt ls0 hq (fun i => by have := hrt i; omega) n
    have lm : ∀ p w, sC (sQ row q) wi q rm n p = some w → w < 260 := sC_lt ls0 hq (fun i => by have := rm4 i; omega) n
    have wk0 : wkT t = 4 * t := if_pos t3
    have A2 : SiI row (kL row q) (sC (sQ row q) wi q rm n) (abT t) (13 * q + 4 * t) (RjT row q n wi rm (4 * t)) σ1 := by
      have := SiI_ag agr (by rw [wk0] at A1; exact A1)
      have e : RjT row q n wi r (4 * t) = RjT row q n wi rm (4 * t) := rnS_ag b30 lr lm (4 * t) agr
      rw [e] at this; exact this
    obtain ⟨σ2, b1, b2', b3⟩ := F_copyFrom (b := 83 + 10 * t) (c := abT t) b30 bb (by omega) A2
    have c2 : Ch (PYc t) PYf σ1 σ2 := b3.mono (fun i hi => PYm.mpr (by simp [CFc] at hi; omega)) (fun z hz => Or.inr (PYm.mpr (by simp at hz; rw [hz]; simp; omega)))
    have C2 := C1.ch b3 (by simp [CFc]; omega) (by simp; omega)
    have R2 := a2.ch b3 (by simp [CFc]; omega) (by simp; omega)
    have D2 : YdS row (kL row q) 0 (sQ row q) σ2 := O1.1.fr b3 (by simp [CFc]; omega) (by simp; omega)
    have f2 : gI σ2 68 4 = nI (13 * q) := by rw [b3.rI (by simp [CFc]; omega) (by simp; omega)]; exact f1
    have gr1 : gR σ1 80 (nI t).toNatClampNeg = some (83 + 10 * t) := by rw [nt]; exact gr _ S1
    rw [if_pos qt, gr1, bo_some, if_pos mem]
    have cp : (if nI t = 0 then (F_X1_playTime_60b (nI t) (nI (13 * q + 4 * t)) (nI (13 * q + wkT (t + 1))) (83 + 10 * t) σ1) else (if inB (nI t - (1 : Int32)) 3 = true then (bo (gR σ1 80 (nI t - (1 : Int32)).toNatClampNeg) fun b12 => if b12 ∈ siteIds then (F_X1_playTime_60 (nI t) (nI (13 * q + 4 * t)) (nI (13 * q + wkT (t + 1))) b12 (83 + 10 * t) σ1) else none) else none)) = (bd (F_X8_rows 9 σ1) fun v23 σ19 => (bv (F_X7_copyFrom (83 + 10 * t) (abT t) v23 σ19) fun σ25 => (bv (F_X1_tellStarts (nI t) σ25) fun σ30 => (F_X1_playTime_81 BIG (nI t) (nI (13 * q + wkT (t + 1))) (nI (13 * q + 4 * t)) σ30)))) := by
      by_cases z : t = 0
      · rw [if_pos (show nI t = 0 by rw [z]; rfl), show abT t = 70 by unfold abT; rw [if_pos z]]; rfl
      · have em : nI t - (1 : Int32) = nI (t - 1) := pk_sub (b := 1) (by omega)
        have gr2 : gR σ1 80 (t - 1) = some (73 + 10 * t) := by
          obtain ⟨x0, x1, x2⟩ := S1
          have : t = 1 ∨ t = 2 := by omega
          rcases this with y | y <;> subst y
          · exact x0
          · exact x1
        have mem2 : 73 + 10 * t ∈ siteIds := by
          have : t = 1 ∨ t = 2 := by omega
          rcases this with y | y <;> subst y <;> decide
        rw [if_neg (show ¬ nI t = 0 from fun e => z ((nI_eq (b := 0) (by omega) (by decide)).mp e)), em, if_pos (inB_n (by omega) (by decide)), nI_clamp (by omega), gr2, bo_some, if_pos mem2, show abT t = 73 + 10 * t by unfold abT; rw [if_neg z]]; rfl
    rw [cp, rows_p O1.1.2.1, bd_some, b1, bv_some]
    obtain ⟨σ3, d1, d2, d3⟩ := F_tellStarts (k := kL row q) (t := t) (cs := fun _ => 0) hB hW hq t3 (fun i _ => by have := rm4 i; omega) C2 R2 f2 (fun _ _ _ => rfl) (by rw [sC_zero hW (fun _ _ => rfl)]; exact D2.2.2.2.2)
    rw [d1, bv_some]
    have C3 := C2.ch d3 (by simp) (by simp)
    have R3 := R2.ch d3 (by simp) (by simp)
    have D3 : YdS row (kL row q) 0 (sC (sQ row q) wi q (fun i => if rm i = t + 1 then t + 1 else 0) n) σ3 := D2.ys d3 d2
    have A3 := b2'.keep d3 (by simp; omega) (by simp)
    have c3 : Ch (PYc t) PYf σ2 σ3 := d3.mono (fun i hi => PYm.mpr (by simp at hi; omega)) (by simp)
    have S3 : SaI σ3 := (S1.ch b3).ch d3
    have yl : ∀ i, (fun i => if rm i = t + 1 then t + 1 else 0) i < 4 := fun i => by show (if rm i = t + 1 then t + 1 else 0) < 4; split <;> omega
    have ly : ∀ p w, sC (sQ row q) wi q (fun i => if rm i = t + 1 then t + 1 else 0) n p = some w → w < 260 := sC_lt ls0 hq yl n
    have wk1 : 4 * t < wkT (t + 1) ∧ wkT (t + 1) ≤ 13 := by unfold wkT; split <;> omega
    obtain ⟨g, hg⟩ := BIGe (wkT (t + 1) - 4 * t) (by omega)
    obtain ⟨σ4, v1, v2, v3, v4, v5⟩ := play_gen2 (g := g) (a := 13 * q) (c := 13 * q + 4 * t) (b := 83 + 10 * t) (m := 13 * q + wkT (t + 1)) (R := bR row q) (Q := SaI) (G := fun f x s => F_X1_playTime_81 f (nI t) (nI (13 * q + wkT (t + 1))) x s) (E := fun x => bv (F_X1_dropStarts x) fun σ51 => some σ51) hV hA hB lm ly bb (by omega) (fun i p h1 h2 => by
      by_cases c : ∃ k, k < n ∧ wi k = p
      · obtain ⟨j, hj, e⟩ := c
        subst e
        rw [sC_at n hW.2.2.1 j hj, sC_at n hW.2.2.1 j hj]
        show chW q (if rm j = t + 1 then t + 1 else 0) = some i ↔ _
        by_cases y : rm j = t + 1
        · rw [if_pos y, y]
        · rw [if_neg y]
          constructor
          · intro z; cases z
          · intro z
            have := rm4 j
            unfold chW at z
            by_cases x : rm j = 0
            · rw [if_pos x] at z; cases z
            · rw [if_neg x] at z; cases z; omega
      · rw [sC_off n (fun k hk e => c ⟨k, hk, e⟩), sC_off n (fun k hk e => c ⟨k, hk, e⟩)]) (fun x y c h => h.ch c) (fun f i x hi h => by
      show B_X1_playTime_81 (F_X1_playTime_81 f) (nI t) (nI (13 * q + wkT (t + 1))) (nI i) x = _
      unfold B_X1_playTime_81
      have gx : gR x 80 (nI t).toNatClampNeg = some (83 + 10 * t) := by rw [nt]; exact gr _ h
      rw [if_neg (nI_ge hi (by omega)), if_pos qt, gx, bo_some, if_pos mem, nI_1]) (fun f x h => by
      show B_X1_playTime_81 (F_X1_playTime_81 f) (nI t) (nI (13 * q + wkT (t + 1))) (nI (13 * q + wkT (t + 1))) x = _
      unfold B_X1_playTime_81
      rw [if_pos (nI_le (Nat.le_refl _) (by omega))]) (wkT (t + 1) - 4 * t) (4 * t) σ3 (by omega) (Nat.le_refl _) S3 D3 A3
    have v1' : F_X1_playTime_81 BIG (nI t) (nI (13 * q + wkT (t + 1))) (nI (13 * q + 4 * t)) σ3 = bv (F_X1_dropStarts σ4) fun σ51 => some σ51 := by rw [hg]; exact v1
    have C4 := C3.ch v5 (by simp [PWc]; omega) (by simp [PWf]; omega)
    have R4 := R3.ch v5 (by simp [PWc]; omega) (by simp [PWf]; omega)
    obtain ⟨σ5, w1, w2, w3⟩ := F_dropStarts (k := kL row q) hB hW hq yl C4 v3.2.2.2.2
    rw [v1', w1, bv_some]
    have c4 : Ch (PYc t) PYf σ3 σ4 := v5.mono (fun i hi => PYm.mpr (by simp [PWc] at hi; omega)) (fun z hz => by
      simp [PWf] at hz
      rcases hz with z1 | z1
      · exact Or.inl (by rw [z1]; simp [PYf])
      · exact Or.inr (PYm.mpr (by rw [z1]; simp; omega)))
    have c5 : Ch (PYc t) PYf σ4 σ5 := w3.mono (fun i hi => PYm.mpr (by simp at hi; omega)) (by simp)
    have cA : Ch (PYc t) PYf σ σ5 := (((c1.trans c2).trans c3).trans c4).trans c5
    have D5 : YdS row (kL row q) 0 (sQ row q) σ5 := v3.ys w3 w2
    have e13' : 13 * q + wkT (t + 1) - 13 * q = wkT (t + 1) := by omega
    rw [e13'] at v4
    have A5 : SiI row (kL row q) (sC (sQ row q) wi q rm n) (abT (t + 1)) (13 * q + wkT (t + 1)) (RjT row q n wi rm (wkT (t + 1))) σ5 := by
      have e : abT (t + 1) = 83 + 10 * t := by unfold abT; rw [if_neg (by omega)]; omega
      rw [e]; exact v4.keep w3 (by simp; omega) (by simp)
    exact ⟨σ5, rfl, ⟨iO.br (PY_BR cA) D5, C4.ch w3 (by simp) (by simp), (S3.ch v5).ch w3, ⟨rm, fun i => by have := rm4 i; omega, R4.ch w3 (by simp) (by simp), fun i _ => by rw [if_pos (rm4 i)]⟩, A5⟩, cA⟩
  rw [f1, e1, e13, e4]
  by_cases y : t = 2
  · have w1 : wkT (t + 1) = 13 := by unfold wkT; rw [if_neg (by omega)]
    rw [w1] at play
    rw [if_pos (show nI t = (2 : Int32) by rw [y]; rfl)]; exact play
  · have w1 : wkT (t + 1) = 4 * t + 4 := by unfold wkT; rw [if_pos (by omega)]; omega
    rw [w1, ← Nat.add_assoc] at play
    rw [if_neg (show ¬ nI t = (2 : Int32) from fun e => y ((nI_eq (b := 2) (by omega) (by decide)).mp e))]; exact play
end
