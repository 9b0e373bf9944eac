section

theorem st_70b {row : Nat → Int32} {q n t M m : Nat} {wi r : Nat → Nat} {V : (Nat → Nat) → Prop} {C : Int32 → Int32 → AH → Option AH} {K : Int32 → Int32 → Int32 → Int32 → Int32 → AH → Option AH} {σ : AH} (hV : AV row) (hA : AW row) (hB : BV row) (hq : q < 20) (hW : WiV row n wi) (hK : KE row (kQ q) (kL row q)) (ht : t = 0) (hrt : ∀ i, r i ≤ t) (hM : M < 64) (hMb : ∀ i, i < n → M.testBit i = decide (r i = 0)) (hm : m &&& M = m)
    (hC : ∀ (r' : Nat → Nat) (M' : Nat) (V' : (Nat → Nat) → Prop) (σ' : AH), (∀ i, r' i ≤ t + 1) → M' < 64 → (∀ i, i < n → M'.testBit i = decide (r' i = 0)) → BrI row q n wi (t + 1) r' σ' → VsI row q n wi V' σ' → ∃ τ, C (nI (t + 1)) (nI M') σ' = some τ ∧ BrI row q n wi (t + 1) r' τ ∧ VsI row q n wi (fun x => V' x ∨ ExT n (t + 1) r' x) τ ∧ Ch (BRc (t + 1)) BRf σ' τ)
    (hI : BrI row q n wi t r σ) (hv : VsI row q n wi V σ) :
    ∃ τ, B_X1_branch_70b C K (nI t) (nI M) (nI (13 * q + 4 * t)) (nI (13 * q + wkT (t + 1))) (nI m) σ = (if m = 0 then K (nI t) (nI M) (nI (13 * q + 4 * t)) (nI (13 * q + wkT (t + 1))) (-1) τ else K (nI t) (nI M) (nI (13 * q + 4 * t)) (nI (13 * q + wkT (t + 1))) (nI ((m - 1) &&& M)) τ) ∧ BrI row q n wi t r τ ∧ VsI row q n wi (fun x => V x ∨ ExT n (t + 1) (fun i => if m.testBit i = true then t + 1 else r i) x) τ ∧ Ch (BRc t) BRf σ τ := by
  have hn := hW.1
  have b30 := hB.p.2.1
  have t3 : t < 3 := by omega
  have mlt : m < 64 := by rw [← hm]; exact Nat.lt_of_le_of_lt Nat.and_le_right hM
  obtain ⟨iO, iC, iS, iR, iA⟩ := hI
  have hbit : ∀ i, i < n → m.testBit i = true → r i = 0 := fun i hi e => by
    have := sub_bit hm e
    rw [hMb i hi] at this
    exact of_decide_eq_true this
  obtain ⟨rm, hrm⟩ : ∃ rm : Nat → Nat, rm = fun i => if m.testBit i = true then t + 1 else r i := ⟨_, rfl⟩
  have rmv : ∀ i, rm i = if m.testBit i = true then t + 1 else r i := fun i => by rw [hrm]
  have rm4 : ∀ i, rm i ≤ t + 1 := fun i => by rw [rmv]; have := hrt i; split <;> omega
  rw [← hrm]
  unfold B_X1_branch_70b
  obtain ⟨σ1, a1, a2, a3⟩ := F_putTime (m := m) (v := t + 1) hn mlt iC iR
  rw [← hrm] at a2
  rw [if_neg (nI_pos (by omega)), show nI t + (1 : Int32) = nI (t + 1) from nI_1 t, a1, bv_some]
  have c1 : Ch (BRc t) BRf σ σ1 := a3.mono (fun i hi => BRm.mpr (by simp at hi; omega)) (by simp)
  have O1 : OqI row q σ1 := iO.put a3
  have C1 := iC.ch a3 (by simp) (by simp)
  have S1 := iS.ch a3
  have V1 : VsI row q n wi V σ1 := hv.ch a3 (by simp) (by simp)
  have ab : 68 < abT t ∧ abT t + 9 < 83 + 10 * t ∧ (abT t + 9 < 81 ∨ 82 < abT t) := by unfold abT; split <;> omega
  have A1 := iA.keep a3 (by simp; omega) (by simp)
  have kA : ∀ τ, Ch (BRc t) BRf σ τ → SiI row (kL row q) (sC (sQ row q) wi q r n) (abT t) (13 * q + wkT t) (RjT row q n wi r (wkT t)) τ := fun τ c => iA.keep c (fun i hi => by have := BRm.mp hi; omega) (by simp [BRf]; omega)
  -- the end of a step
  have fin : ∀ τ1, Ch (BRc t) BRf σ τ1 → OqI row q τ1 → CwI n wi τ1 → CrI n rm τ1 → VsI row q n wi (fun x => V x ∨ ExT n (t + 1) rm x) τ1 → ∃ τ, F_X1_branch_174b C K (nI t) (nI M) (nI (13 * q + 4 * t)) (nI (13 * q + wkT (t + 1))) (nI m) τ1 = (if m = 0 then K (nI t) (nI M) (nI (13 * q + 4 * t)) (nI (13 * q + wkT (t + 1))) (-1) τ else K (nI t) (nI M) (nI (13 * q + 4 * t)) (nI (13 * q + wkT (t + 1))) (nI ((m - 1) &&& M)) τ) ∧ BrI row q n wi t r τ ∧ VsI row q n wi (fun x => V x ∨ ExT n (t + 1) rm x) τ ∧ Ch (BRc t) BRf σ τ := by
    intro τ1 d1 d2 d3 d4 d5
    unfold F_X1_branch_174b F_X1_branch_196b
    obtain ⟨τ, e1, e2, e3⟩ := F_putTime (m := m) (v := 0) hn mlt d3 d4
    have e1' : F_X1_putTime (nI m) (0 : Int32) τ1 = some τ := e1
    rw [e1', bv_some]
    have cc : Ch (BRc t) BRf σ τ := d1.trans (e3.mono (fun i hi => BRm.mpr (by simp at hi; omega)) (by simp))
    refine ⟨τ, ?_, ⟨d2.put e3, d3.ch e3 (by simp) (by simp), iS.ch cc, fun i hi => ?_, kA τ cc⟩, d5.ch e3 (by simp) (by simp), cc⟩
    · by_cases z : m = 0
      · rw [if_pos z, if_pos (show nI m = 0 by rw [z]; rfl)]
      · have em : nI m - (1 : Int32) = nI (m - 1) := pk_sub (b := 1) (by omega)
        rw [if_neg z, if_neg (show ¬ nI m = 0 from fun e => z ((nI_eq (b := 0) (by omega) (by decide)).mp e)), em, fa_and]
    · rw [e2 i hi]
      show nI (if m.testBit i = true then 0 else rm i) = _
      rw [rmv]
      by_cases y : m.testBit i = true
      · rw [if_pos y, hbit i hi y]
      · rw [if_neg y, if_neg y]
  -- a ROW that is played
  have play : ∃ τ, F_X1_branch_100b C K (nI t) (nI M) (nI (13 * q + 4 * t)) (nI (13 * q + wkT (t + 1))) (nI m) σ1 = (if m = 0 then K (nI t) (nI M) (nI (13 * q + 4 * t)) (nI (13 * q + wkT (t + 1))) (-1) τ else K (nI t) (nI M) (nI (13 * q + 4 * t)) (nI (13 * q + wkT (t + 1))) (nI ((m - 1) &&& M)) τ) ∧ BrI row q n wi t r τ ∧ VsI row q n wi (fun x => V x ∨ ExT n (t + 1) rm x) τ ∧ Ch (BRc t) BRf σ τ := by
    unfold F_X1_branch_100b
    have qt : inB (nI t) 3 = true := inB_n t3 (by decide)
    have nt : (nI t).toNatClampNeg = t := nI_clamp (by omega)
    have gr : ∀ x, SaI x → gR x 80 t = some (83 + 10 * t) := fun x hx => by
      obtain ⟨x0, x1, x2⟩ := hx
      have : t = 0 ∨ t = 1 ∨ t = 2 := by omega
      rcases this with z | z | z <;> subst z
      · exact x0
      · exact x1
      · exact x2
    have mem : 83 + 10 * t ∈ siteIds := by
      have : t = 0 ∨ t = 1 ∨ t = 2 := by omega
      rcases this with z | z | z <;> subst z <;> decide
    have bb : 44 < 83 + 10 * t ∧ 83 + 10 * t + 9 < 124 := by omega
    have agr : AgW (sC (sQ row q) wi q r n) (sC (sQ row q) wi q rm n) (13 * q + 4 * t) := ag_t hW (fun i hi => by
      rw [rmv]
      by_cases y : m.testBit i = true
      · rw [if_pos y]; exact Or.inr ⟨Or.inl (hbit i hi y), Or.inr (by omega)⟩
      · rw [if_neg y]; exact Or.inl rfl)
    have ls0 : ∀ p w, sQ row q p = some w → w < 260 := fun p w h => sw_lt hB h
    have lr : ∀ p w, sC (sQ row q) wi q r n p = some w → w < 260 := sC_lt ls0 hq (fun i => by have := hrt i; omega) n
    have lm : ∀ p w, sC (sQ row q) wi q rm n p = some w → w < 260 := sC_lt ls0 hq (fun i => by have := rm4 i; omega) n
    have wk0 : wkT t = 4 * t := if_pos t3
    have A2 : SiI row (kL row q) (sC (sQ row q) wi q rm n) (abT t) (13 * q + 4 * t) (RjT row q n wi rm (4 * t)) σ1 := by
      have := SiI_ag agr (by rw [wk0] at A1; exact A1)
      have e : RjT row q n wi r (4 * t) = RjT row q n wi rm (4 * t) := rnS_ag b30 lr lm (4 * t) agr
      rw [e] at this; exact this
    obtain ⟨σ2, b1, b2', b3⟩ := F_copyFrom (b := 83 + 10 * t) (c := abT t) b30 bb (by omega) A2
    have c2 : Ch (BRc t) BRf σ1 σ2 := b3.mono (fun i hi => BRm.mpr (by simp [CFc] at hi; omega)) (fun z hz => Or.inr (BRm.mpr (by simp at hz; rw [hz]; simp; omega)))
    have C2 := C1.ch b3 (by simp [CFc]; omega) (by simp; omega)
    have R2 := a2.ch b3 (by simp [CFc]; omega) (by simp; omega)
    have D2 : YdS row (kL row q) 0 (sQ row q) σ2 := O1.1.fr b3 (by simp [CFc]; omega) (by simp; omega)
    have f2 : gI σ2 68 4 = nI (13 * q) := by rw [b3.rI (by simp [CFc]; omega) (by simp; omega)]; exact O1.2.2.1.1
    have gr1 : gR σ1 80 (nI t).toNatClampNeg = some (83 + 10 * t) := by rw [nt]; exact gr _ S1
    have cp : F_X7_copyFrom (83 + 10 * t) 70 (nI (nP row)) σ1 = some σ2 := by rw [show abT t = 70 by unfold abT; rw [if_pos ht]] at b1; exact b1
    rw [if_pos qt, gr1, bo_some, if_pos mem, rows_p O1.1.2.1, bd_some, cp, bv_some]
    obtain ⟨σ3, d1, d2, d3⟩ := F_tellStarts (k := kL row q) (t := t) (cs := fun _ => 0) hB hW hq t3 (fun i _ => by have := rm4 i; omega) C2 R2 f2 (fun _ _ _ => rfl) (by rw [sC_zero hW (fun _ _ => rfl)]; exact D2.2.2.2.2)
    rw [d1, bv_some]
    have C3 := C2.ch d3 (by simp) (by simp)
    have R3 := R2.ch d3 (by simp) (by simp)
    have D3 : YdS row (kL row q) 0 (sC (sQ row q) wi q (fun i => if rm i = t + 1 then t + 1 else 0) n) σ3 := D2.ys d3 d2
    have A3 := b2'.keep d3 (by simp; omega) (by simp)
    have c3 : Ch (BRc t) BRf σ2 σ3 := d3.mono (fun i hi => BRm.mpr (by simp at hi; omega)) (by simp)
    have S3 : SaI σ3 := (S1.ch b3).ch d3
    have yl : ∀ i, (fun i => if rm i = t + 1 then t + 1 else 0) i < 4 := fun i => by show (if rm i = t + 1 then t + 1 else 0) < 4; split <;> omega
    have ly : ∀ p w, sC (sQ row q) wi q (fun i => if rm i = t + 1 then t + 1 else 0) n p = some w → w < 260 := sC_lt ls0 hq yl n
    have wk1 : 4 * t < wkT (t + 1) ∧ wkT (t + 1) ≤ 13 := by unfold wkT; split <;> omega
    obtain ⟨g, hg⟩ := BIGe (wkT (t + 1) - 4 * t) (by omega)
    obtain ⟨σ4, v1, v2, v3, v4, v5⟩ := play_gen2 (g := g) (a := 13 * q) (c := 13 * q + 4 * t) (b := 83 + 10 * t) (m := 13 * q + wkT (t + 1)) (R := bR row q) (Q := SaI) (G := fun f x s => F_X1_branch_129b C K f (nI t) (nI M) (nI (13 * q + 4 * t)) (nI (13 * q + wkT (t + 1))) (nI m) x s) (E := fun x => bv (F_X1_dropStarts x) fun σ116 => bv (C (nI t + (1 : Int32)) (nI M &&& (nI m ^^^ (-1 : Int32))) σ116) fun σ121 => F_X1_branch_174b C K (nI t) (nI M) (nI (13 * q + 4 * t)) (nI (13 * q + wkT (t + 1))) (nI m) σ121) hV hA hB lm ly bb (by omega) (fun i p h1 h2 => by
      by_cases c : ∃ k, k < n ∧ wi k = p
      · obtain ⟨j, hj, e⟩ := c
        subst e
        rw [sC_at n hW.2.2.1 j hj, sC_at n hW.2.2.1 j hj]
        show chW q (if rm j = t + 1 then t + 1 else 0) = some i ↔ _
        by_cases y : rm j = t + 1
        · rw [if_pos y, y]
        · rw [if_neg y]
          constructor
          · intro z; cases z
          · intro z
            have := rm4 j
            unfold chW at z
            by_cases x : rm j = 0
            · rw [if_pos x] at z; cases z
            · rw [if_neg x] at z; cases z; omega
      · rw [sC_off n (fun k hk e => c ⟨k, hk, e⟩), sC_off n (fun k hk e => c ⟨k, hk, e⟩)]) (fun x y c h => h.ch c) (fun f i x hi h => by
      show B_X1_branch_129b C K (F_X1_branch_129b C K f) (nI t) (nI M) (nI (13 * q + 4 * t)) (nI (13 * q + wkT (t + 1))) (nI m) (nI i) x = _
      unfold B_X1_branch_129b
      have gx : gR x 80 (nI t).toNatClampNeg = some (83 + 10 * t) := by rw [nt]; exact gr _ h
      rw [if_neg (nI_ge hi (by omega)), if_pos qt, gx, bo_some, if_pos mem, nI_1]) (fun f x h => by
      show B_X1_branch_129b C K (F_X1_branch_129b C K f) (nI t) (nI M) (nI (13 * q + 4 * t)) (nI (13 * q + wkT (t + 1))) (nI m) (nI (13 * q + wkT (t + 1))) x = _
      unfold B_X1_branch_129b
      rw [if_pos (nI_le (Nat.le_refl _) (by omega))]) (wkT (t + 1) - 4 * t) (4 * t) σ3 (by omega) (Nat.le_refl _) S3 D3 A3
    have v1' : F_X1_branch_129b C K BIG (nI t) (nI M) (nI (13 * q + 4 * t)) (nI (13 * q + wkT (t + 1))) (nI m) (nI (13 * q + 4 * t)) σ3 = bv (F_X1_dropStarts σ4) fun σ116 => bv (C (nI t + (1 : Int32)) (nI M &&& (nI m ^^^ (-1 : Int32))) σ116) fun σ121 => F_X1_branch_174b C K (nI t) (nI M) (nI (13 * q + 4 * t)) (nI (13 * q + wkT (t + 1))) (nI m) σ121 := by rw [hg]; exact v1
    have C4 := C3.ch v5 (by simp [PWc]; omega) (by simp [PWf]; omega)
    have R4 := R3.ch v5 (by simp [PWc]; omega) (by simp [PWf]; omega)
    obtain ⟨σ5, w1, w2, w3⟩ := F_dropStarts (k := kL row q) hB hW hq yl C4 v3.2.2.2.2
    rw [v1', w1, bv_some, show nI t + (1 : Int32) = nI (t + 1) from nI_1 t, and_not hm]
    have c4 : Ch (BRc t) BRf σ3 σ4 := v5.mono (fun i hi => BRm.mpr (by simp [PWc] at hi; omega)) (fun z hz => by
      simp [PWf] at hz
      rcases hz with z1 | z1
      · exact Or.inl (by rw [z1]; simp [BRf])
      · exact Or.inr (BRm.mpr (by rw [z1]; simp; omega)))
    have c5 : Ch (BRc t) BRf σ4 σ5 := w3.mono (fun i hi => BRm.mpr (by simp at hi; omega)) (by simp)
    have cA : Ch (BRc t) BRf σ σ5 := (((c1.trans c2).trans c3).trans c4).trans c5
    have D5 : YdS row (kL row q) 0 (sQ row q) σ5 := v3.ys w3 w2
    have e13 : 13 * q + wkT (t + 1) - 13 * q = wkT (t + 1) := by omega
    rw [e13] at v4
    have A5 : SiI row (kL row q) (sC (sQ row q) wi q rm n) (abT (t + 1)) (13 * q + wkT (t + 1)) (RjT row q n wi rm (wkT (t + 1))) σ5 := by
      have e : abT (t + 1) = 83 + 10 * t := by unfold abT; rw [if_neg (by omega)]; omega
      rw [e]; exact v4.keep w3 (by simp; omega) (by simp)
    have V5 : VsI row q n wi V σ5 := by
      have c23 := ((V1.ch b3 (by simp [CFc]; omega) (by simp; omega)).ch d3 (by simp) (by simp)).ch v5 (by simp [PWc]; omega) (by simp [PWf]; omega)
      exact c23.ch w3 (by simp) (by simp)
    obtain ⟨τ1, x1, x2, x3, x4⟩ := hC rm (M ^^^ m) V σ5 rm4 (Nat.xor_lt_two_pow (n := 6) hM mlt) (fun i hi => by
      rw [Nat.testBit_xor, hMb i hi, rmv]
      by_cases y : m.testBit i = true
      · have := hbit i hi y
        rw [if_pos y, y, this]; simp
      · rw [if_neg y]
        have : m.testBit i = false := by simpa using y
        rw [this, Bool.xor_false]) ⟨iO.br cA D5, C4.ch w3 (by simp) (by simp), (S3.ch v5).ch w3, R4.ch w3 (by simp) (by simp), A5⟩ V5
    rw [x1, bv_some]
    obtain ⟨y1, y2, y3, y4, y5⟩ := x2
    exact fin τ1 (cA.trans (x4.mono (fun i hi => BRm.mpr (by have := BRm.mp hi; omega)) (fun z hz => Or.inl hz))) y1 y2 y4 x3
  have tz : nI t < (2 : Int32) := nI_lt (b := 2) (by omega) (by decide)
  rw [if_pos tz]
  exact play

theorem st_70 {row : Nat → Int32} {q n t M m : Nat} {wi r : Nat → Nat} {V : (Nat → Nat) → Prop} {C : Int32 → Int32 → AH → Option AH} {K : Int32 → Int32 → Nat → Int32 → Int32 → Int32 → AH → Option AH} {σ : AH} (hV : AV row) (hA : AW row) (hB : BV row) (hq : q < 20) (hW : WiV row n wi) (hK : KE row (kQ q) (kL row q)) (ht : 0 < t ∧ t < 3) (hrt : ∀ i, r i ≤ t) (hM : M < 64) (hMb : ∀ i, i < n → M.testBit i = decide (r i = 0)) (hm : m &&& M = m)
    (hC : ∀ (r' : Nat → Nat) (M' : Nat) (V' : (Nat → Nat) → Prop) (σ' : AH), (∀ i, r' i ≤ t + 1) → M' < 64 → (∀ i, i < n → M'.testBit i = decide (r' i = 0)) → BrI row q n wi (t + 1) r' σ' → VsI row q n wi V' σ' → ∃ τ, C (nI (t + 1)) (nI M') σ' = some τ ∧ BrI row q n wi (t + 1) r' τ ∧ VsI row q n wi (fun x => V' x ∨ ExT n (t + 1) r' x) τ ∧ Ch (BRc (t + 1)) BRf σ' τ)
    (hI : BrI row q n wi t r σ) (hv : VsI row q n wi V σ) :
    ∃ τ, B_X1_branch_70 C K (nI t) (nI M) (73 + 10 * t) (nI (13 * q + 4 * t)) (nI (13 * q + wkT (t + 1))) (nI m) σ = (if m = 0 then K (nI t) (nI M) (73 + 10 * t) (nI (13 * q + 4 * t)) (nI (13 * q + wkT (t + 1))) (-1) τ else K (nI t) (nI M) (73 + 10 * t) (nI (13 * q + 4 * t)) (nI (13 * q + wkT (t + 1))) (nI ((m - 1) &&& M)) τ) ∧ BrI row q n wi t r τ ∧ VsI row q n wi (fun x => V x ∨ ExT n (t + 1) (fun i => if m.testBit i = true then t + 1 else r i) x) τ ∧ Ch (BRc t) BRf σ τ := by
  have hn := hW.1
  have b30 := hB.p.2.1
  have t3 : t < 3 := by omega
  have mlt : m < 64 := by rw [← hm]; exact Nat.lt_of_le_of_lt Nat.and_le_right hM
  obtain ⟨iO, iC, iS, iR, iA⟩ := hI
  have hbit : ∀ i, i < n → m.testBit i = true → r i = 0 := fun i hi e => by
    have := sub_bit hm e
    rw [hMb i hi] at this
    exact of_decide_eq_true this
  obtain ⟨rm, hrm⟩ : ∃ rm : Nat → Nat, rm = fun i => if m.testBit i = true then t + 1 else r i := ⟨_, rfl⟩
  have rmv : ∀ i, rm i = if m.testBit i = true then t + 1 else r i := fun i => by rw [hrm]
  have rm4 : ∀ i, rm i ≤ t + 1 := fun i => by rw [rmv]; have := hrt i; split <;> omega
  rw [← hrm]
  unfold B_X1_branch_70
  obtain ⟨σ1, a1, a2, a3⟩ := F_putTime (m := m) (v := t + 1) hn mlt iC iR
  rw [← hrm] at a2
  rw [if_neg (nI_pos (by omega)), show nI t + (1 : Int32) = nI (t + 1) from nI_1 t, a1, bv_some]
  have c1 : Ch (BRc t) BRf σ σ1 := a3.mono (fun i hi => BRm.mpr (by simp at hi; omega)) (by simp)
  have O1 : OqI row q σ1 := iO.put a3
  have C1 := iC.ch a3 (by simp) (by simp)
  have S1 := iS.ch a3
  have V1 : VsI row q n wi V σ1 := hv.ch a3 (by simp) (by simp)
  have ab : 68 < abT t ∧ abT t + 9 < 83 + 10 * t ∧ (abT t + 9 < 81 ∨ 82 < abT t) := by unfold abT; split <;> omega
  have A1 := iA.keep a3 (by simp; omega) (by simp)
  have kA : ∀ τ, Ch (BRc t) BRf σ τ → SiI row (kL row q) (sC (sQ row q) wi q r n) (abT t) (13 * q + wkT t) (RjT row q n wi r (wkT t)) τ := fun τ c => iA.keep c (fun i hi => by have := BRm.mp hi; omega) (by simp [BRf]; omega)
  -- the end of a step
  have fin : ∀ τ1, Ch (BRc t) BRf σ τ1 → OqI row q τ1 → CwI n wi τ1 → CrI n rm τ1 → VsI row q n wi (fun x => V x ∨ ExT n (t + 1) rm x) τ1 → ∃ τ, F_X1_branch_174 C K (nI t) (nI M) (73 + 10 * t) (nI (13 * q + 4 * t)) (nI (13 * q + wkT (t + 1))) (nI m) τ1 = (if m = 0 then K (nI t) (nI M) (73 + 10 * t) (nI (13 * q + 4 * t)) (nI (13 * q + wkT (t + 1))) (-1) τ else K (nI t) (nI M) (73 + 10 * t) (nI (13 * q + 4 * t)) (nI (13 * q + wkT (t + 1))) (nI ((m - 1) &&& M)) τ) ∧ BrI row q n wi t r τ ∧ VsI row q n wi (fun x => V x ∨ ExT n (t + 1) rm x) τ ∧ Ch (BRc t) BRf σ τ := by
    intro τ1 d1 d2 d3 d4 d5
    unfold F_X1_branch_174 F_X1_branch_196
    obtain ⟨τ, e1, e2, e3⟩ := F_putTime (m := m) (v := 0) hn mlt d3 d4
    have e1' : F_X1_putTime (nI m) (0 : Int32) τ1 = some τ := e1
    rw [e1', bv_some]
    have cc : Ch (BRc t) BRf σ τ := d1.trans (e3.mono (fun i hi => BRm.mpr (by simp at hi; omega)) (by simp))
    refine ⟨τ, ?_, ⟨d2.put e3, d3.ch e3 (by simp) (by simp), iS.ch cc, fun i hi => ?_, kA τ cc⟩, d5.ch e3 (by simp) (by simp), cc⟩
    · by_cases z : m = 0
      · rw [if_pos z, if_pos (show nI m = 0 by rw [z]; rfl)]
      · have em : nI m - (1 : Int32) = nI (m - 1) := pk_sub (b := 1) (by omega)
        rw [if_neg z, if_neg (show ¬ nI m = 0 from fun e => z ((nI_eq (b := 0) (by omega) (by decide)).mp e)), em, fa_and]
    · rw [e2 i hi]
      show nI (if m.testBit i = true then 0 else rm i) = _
      rw [rmv]
      by_cases y : m.testBit i = true
      · rw [if_pos y, hbit i hi y]
      · rw [if_neg y, if_neg y]
  -- a ROW that is played
  have play : ∃ τ, F_X1_branch_100 C K (nI t) (nI M) (73 + 10 * t) (nI (13 * q + 4 * t)) (nI (13 * q + wkT (t + 1))) (nI m) σ1 = (if m = 0 then K (nI t) (nI M) (73 + 10 * t) (nI (13 * q + 4 * t)) (nI (13 * q + wkT (t + 1))) (-1) τ else K (nI t) (nI M) (73 + 10 * t) (nI (13 * q + 4 * t)) (nI (13 * q + wkT (t + 1))) (nI ((m - 1) &&& M)) τ) ∧ BrI row q n wi t r τ ∧ VsI row q n wi (fun x => V x ∨ ExT n (t + 1) rm x) τ ∧ Ch (BRc t) BRf σ τ := by
    unfold F_X1_branch_100
    have qt : inB (nI t) 3 = true := inB_n t3 (by decide)
    have nt : (nI t).toNatClampNeg = t := nI_clamp (by omega)
    have gr : ∀ x, SaI x → gR x 80 t = some (83 + 10 * t) := fun x hx => by
      obtain ⟨x0, x1, x2⟩ := hx
      have : t = 0 ∨ t = 1 ∨ t = 2 := by omega
      rcases this with z | z | z <;> subst z
      · exact x0
      · exact x1
      · exact x2
    have mem : 83 + 10 * t ∈ siteIds := by
      have : t = 0 ∨ t = 1 ∨ t = 2 := by omega
      rcases this with z | z | z <;> subst z <;> decide
    have bb : 44 < 83 + 10 * t ∧ 83 + 10 * t + 9 < 124 := by omega
    have agr : AgW (sC (sQ row q) wi q r n) (sC (sQ row q) wi q rm n) (13 * q + 4 * t) := ag_t hW (fun i hi => by
      rw [rmv]
      by_cases y : m.testBit i = true
      · rw [if_pos y]; exact Or.inr ⟨Or.inl (hbit i hi y), Or.inr (by omega)⟩
      · rw [if_neg y]; exact Or.inl rfl)
    have ls0 : ∀ p w, sQ row q p = some w → w < 260 := fun p w h => sw_lt hB h
    have lr : ∀ p w, sC (sQ row q) wi q r n p = some w → w < 260 := sC_lt ls0 hq (fun i => by have := hrt i; omega) n
    have lm : ∀ p w, sC (sQ row q) wi q rm n p = some w → w < 260 := sC_lt ls0 hq (fun i => by have := rm4 i; omega) n
    have wk0 : wkT t = 4 * t := if_pos t3
    have A2 : SiI row (kL row q) (sC (sQ row q) wi q rm n) (abT t) (13 * q + 4 * t) (RjT row q n wi rm (4 * t)) σ1 := by
      have := SiI_ag agr (by rw [wk0] at A1; exact A1)
      have e : RjT row q n wi r (4 * t) = RjT row q n wi rm (4 * t) := rnS_ag b30 lr lm (4 * t) agr
      rw [e] at this; exact this
    obtain ⟨σ2, b1, b2', b3⟩ := F_copyFrom (b := 83 + 10 * t) (c := abT t) b30 bb (by omega) A2
    have c2 : Ch (BRc t) BRf σ1 σ2 := b3.mono (fun i hi => BRm.mpr (by simp [CFc] at hi; omega)) (fun z hz => Or.inr (BRm.mpr (by simp at hz; rw [hz]; simp; omega)))
    have C2 := C1.ch b3 (by simp [CFc]; omega) (by simp; omega)
    have R2 := a2.ch b3 (by simp [CFc]; omega) (by simp; omega)
    have D2 : YdS row (kL row q) 0 (sQ row q) σ2 := O1.1.fr b3 (by simp [CFc]; omega) (by simp; omega)
    have f2 : gI σ2 68 4 = nI (13 * q) := by rw [b3.rI (by simp [CFc]; omega) (by simp; omega)]; exact O1.2.2.1.1
    have gr1 : gR σ1 80 (nI t).toNatClampNeg = some (83 + 10 * t) := by rw [nt]; exact gr _ S1
    have cp : F_X7_copyFrom (83 + 10 * t) (73 + 10 * t) (nI (nP row)) σ1 = some σ2 := by rw [show abT t = 73 + 10 * t by unfold abT; rw [if_neg (by omega)]] at b1; exact b1
    rw [if_pos qt, gr1, bo_some, if_pos mem, rows_p O1.1.2.1, bd_some, cp, bv_some]
    obtain ⟨σ3, d1, d2, d3⟩ := F_tellStarts (k := kL row q) (t := t) (cs := fun _ => 0) hB hW hq t3 (fun i _ => by have := rm4 i; omega) C2 R2 f2 (fun _ _ _ => rfl) (by rw [sC_zero hW (fun _ _ => rfl)]; exact D2.2.2.2.2)
    rw [d1, bv_some]
    have C3 := C2.ch d3 (by simp) (by simp)
    have R3 := R2.ch d3 (by simp) (by simp)
    have D3 : YdS row (kL row q) 0 (sC (sQ row q) wi q (fun i => if rm i = t + 1 then t + 1 else 0) n) σ3 := D2.ys d3 d2
    have A3 := b2'.keep d3 (by simp; omega) (by simp)
    have c3 : Ch (BRc t) BRf σ2 σ3 := d3.mono (fun i hi => BRm.mpr (by simp at hi; omega)) (by simp)
    have S3 : SaI σ3 := (S1.ch b3).ch d3
    have yl : ∀ i, (fun i => if rm i = t + 1 then t + 1 else 0) i < 4 := fun i => by show (if rm i = t + 1 then t + 1 else 0) < 4; split <;> omega
    have ly : ∀ p w, sC (sQ row q) wi q (fun i => if rm i = t + 1 then t + 1 else 0) n p = some w → w < 260 := sC_lt ls0 hq yl n
    have wk1 : 4 * t < wkT (t + 1) ∧ wkT (t + 1) ≤ 13 := by unfold wkT; split <;> omega
    obtain ⟨g, hg⟩ := BIGe (wkT (t + 1) - 4 * t) (by omega)
    obtain ⟨σ4, v1, v2, v3, v4, v5⟩ := play_gen2 (g := g) (a := 13 * q) (c := 13 * q + 4 * t) (b := 83 + 10 * t) (m := 13 * q + wkT (t + 1)) (R := bR row q) (Q := SaI) (G := fun f x s => F_X1_branch_129 C K f (nI t) (nI M) (73 + 10 * t) (nI (13 * q + 4 * t)) (nI (13 * q + wkT (t + 1))) (nI m) x s) (E := fun x => bv (F_X1_dropStarts x) fun σ116 => bv (C (nI t + (1 : Int32)) (nI M &&& (nI m ^^^ (-1 : Int32))) σ116) fun σ121 => F_X1_branch_174 C K (nI t) (nI M) (73 + 10 * t) (nI (13 * q + 4 * t)) (nI (13 * q + wkT (t + 1))) (nI m) σ121) hV hA hB lm ly bb (by omega) (fun i p h1 h2 => by
      by_cases c : ∃ k, k < n ∧ wi k = p
      · obtain ⟨j, hj, e⟩ := c
        subst e
        rw [sC_at n hW.2.2.1 j hj, sC_at n hW.2.2.1 j hj]
        show chW q (if rm j = t + 1 then t + 1 else 0) = some i ↔ _
        by_cases y : rm j = t + 1
        · rw [if_pos y, y]
        · rw [if_neg y]
          constructor
          · intro z; cases z
          · intro z
            have := rm4 j
            unfold chW at z
            by_cases x : rm j = 0
            · rw [if_pos x] at z; cases z
            · rw [if_neg x] at z; cases z; omega
      · rw [sC_off n (fun k hk e => c ⟨k, hk, e⟩), sC_off n (fun k hk e => c ⟨k, hk, e⟩)]) (fun x y c h => h.ch c) (fun f i x hi h => by
      show B_X1_branch_129 C K (F_X1_branch_129 C K f) (nI t) (nI M) (73 + 10 * t) (nI (13 * q + 4 * t)) (nI (13 * q + wkT (t + 1))) (nI m) (nI i) x = _
      unfold B_X1_branch_129
      have gx : gR x 80 (nI t).toNatClampNeg = some (83 + 10 * t) := by rw [nt]; exact gr _ h
      rw [if_neg (nI_ge hi (by omega)), if_pos qt, gx, bo_some, if_pos mem, nI_1]) (fun f x h => by
      show B_X1_branch_129 C K (F_X1_branch_129 C K f) (nI t) (nI M) (73 + 10 * t) (nI (13 * q + 4 * t)) (nI (13 * q + wkT (t + 1))) (nI m) (nI (13 * q + wkT (t + 1))) x = _
      unfold B_X1_branch_129
      rw [if_pos (nI_le (Nat.le_refl _) (by omega))]) (wkT (t + 1) - 4 * t) (4 * t) σ3 (by omega) (Nat.le_refl _) S3 D3 A3
    have v1' : F_X1_branch_129 C K BIG (nI t) (nI M) (73 + 10 * t) (nI (13 * q + 4 * t)) (nI (13 * q + wkT (t + 1))) (nI m) (nI (13 * q + 4 * t)) σ3 = bv (F_X1_dropStarts σ4) fun σ116 => bv (C (nI t + (1 : Int32)) (nI M &&& (nI m ^^^ (-1 : Int32))) σ116) fun σ121 => F_X1_branch_174 C K (nI t) (nI M) (73 + 10 * t) (nI (13 * q + 4 * t)) (nI (13 * q + wkT (t + 1))) (nI m) σ121 := by rw [hg]; exact v1
    have C4 := C3.ch v5 (by simp [PWc]; omega) (by simp [PWf]; omega)
    have R4 := R3.ch v5 (by simp [PWc]; omega) (by simp [PWf]; omega)
    obtain ⟨σ5, w1, w2, w3⟩ := F_dropStarts (k := kL row q) hB hW hq yl C4 v3.2.2.2.2
    rw [v1', w1, bv_some, show nI t + (1 : Int32) = nI (t + 1) from nI_1 t, and_not hm]
    have c4 : Ch (BRc t) BRf σ3 σ4 := v5.mono (fun i hi => BRm.mpr (by simp [PWc] at hi; omega)) (fun z hz => by
      simp [PWf] at hz
      rcases hz with z1 | z1
      · exact Or.inl (by rw [z1]; simp [BRf])
      · exact Or.inr (BRm.mpr (by rw [z1]; simp; omega)))
    have c5 : Ch (BRc t) BRf σ4 σ5 := w3.mono (fun i hi => BRm.mpr (by simp at hi; omega)) (by simp)
    have cA : Ch (BRc t) BRf σ σ5 := (((c1.trans c2).trans c3).trans c4).trans c5
    have D5 : YdS row (kL row q) 0 (sQ row q) σ5 := v3.ys w3 w2
    have e13 : 13 * q + wkT (t + 1) - 13 * q = wkT (t + 1) := by omega
    rw [e13] at v4
    have A5 : SiI row (kL row q) (sC (sQ row q) wi q rm n) (abT (t + 1)) (13 * q + wkT (t + 1)) (RjT row q n wi rm (wkT (t + 1))) σ5 := by
      have e : abT (t + 1) = 83 + 10 * t := by unfold abT; rw [if_neg (by omega)]; omega
      rw [e]; exact v4.keep w3 (by simp; omega) (by simp)
    have V5 : VsI row q n wi V σ5 := by
      have c23 := ((V1.ch b3 (by simp [CFc]; omega) (by simp; omega)).ch d3 (by simp) (by simp)).ch v5 (by simp [PWc]; omega) (by simp [PWf]; omega)
      exact c23.ch w3 (by simp) (by simp)
    obtain ⟨τ1, x1, x2, x3, x4⟩ := hC rm (M ^^^ m) V σ5 rm4 (Nat.xor_lt_two_pow (n := 6) hM mlt) (fun i hi => by
      rw [Nat.testBit_xor, hMb i hi, rmv]
      by_cases y : m.testBit i = true
      · have := hbit i hi y
        rw [if_pos y, y, this]; simp
      · rw [if_neg y]
        have : m.testBit i = false := by simpa using y
        rw [this, Bool.xor_false]) ⟨iO.br cA D5, C4.ch w3 (by simp) (by simp), (S3.ch v5).ch w3, R4.ch w3 (by simp) (by simp), A5⟩ V5
    rw [x1, bv_some]
    obtain ⟨y1, y2, y3, y4, y5⟩ := x2
    exact fin τ1 (cA.trans (x4.mono (fun i hi => BRm.mpr (by have := BRm.mp hi; omega)) (fun z hz => Or.inl hz))) y1 y2 y4 x3
  by_cases tz : t < 2
  · rw [if_pos (show nI t < (2 : Int32) from nI_lt (b := 2) tz (by decide))]
    exact play
  · rw [if_neg (show ¬ nI t < (2 : Int32) from nI_nlt (b := 2) (by omega) (by omega)), F_roomsBegun hB hW O1.1.2.1 C1 (fun i _ => by have := rm4 i; omega) a2, bd_some]
    have t2 : t = 2 := by omega
    have rb36 : rbN row wi rm n ≤ 36 := by
      have : ∀ j, j ≤ n → rbN row wi rm j ≤ 6 * j := by
        intro j
        induction j with
        | zero => intro _; exact Nat.le_refl _
        | succ j ih =>
          intro hj
          have e2 : rbN row wi rm (j + 1) = rbN row wi rm j + (if rm j = 0 then 0 else pR row (wi j)) := rfl
          have h6 : pR row (wi j) < 7 := (hB.p.2.2 (wi j) (hW.2.1 j (by omega))).2.2.1.1.2
          have := ih (by omega)
          rw [e2]
          split <;> omega
      have := this n (Nat.le_refl _)
      omega
    by_cases pz : nI (rbN row wi rm n) < gI σ1 68 12
    · rw [if_pos pz]
      refine fin σ1 c1 O1 C1 a2 ?_
      rcases V1 with ⟨z1, z2⟩ | ⟨y, z1, z2, z3, z4, z5⟩
      · rw [z1] at pz
        exfalso
        rw [Int32.lt_iff_toInt_lt, nI_toInt (by omega)] at pz
        have : (-1 : Int32).toInt = -1 := by decide
        omega
      · refine Or.inr ⟨y, z1, z2, z3, z4, fun x hx => ?_⟩
        rcases hx with w | w
        · exact z5 x w
        · have same : ∀ i, i < n → x i = rm i := fun i hi => by
            obtain ⟨g1, g2⟩ := w.2 i hi
            by_cases e : rm i = 0
            · rcases g2 e with g | g
              · rw [g, e]
              · have := w.1 i; omega
            · exact g1 e
          have l36y := hoC_le (q := q) (cs := y) hB hW
          rw [z3, nI_ltI (by omega) (by omega)] at pz
          have h1 := hoC_begun (row := row) (q := q) (wi := wi) (r := rm) hW
          have h2 := (hoC_congr (row := row) (q := q) (wi := wi) same).1
          unfold btr; omega
    · rw [if_neg pz]; exact play
end
