section
theorem YdI_ch {row : Nat → Int32} {k : Int32} {l : Nat} {s : Nat → Option Nat} {σ τ : AH} {cs : List Nat} {fs : List (Nat × Nat)} (h : YdI row k l s σ) (c : Ch cs fs σ τ) (h1 : ∀ i ∈ cs, i < 34 ∨ 43 < i) (h2 : ∀ q ∈ fs, q.1 < 34 ∨ 43 < q.1) : YdI row k l s τ := by
  have e : ∀ i, 34 ≤ i → i ≤ 43 → gI τ i = gI σ i := fun i l1 l2 => c.rI (fun q => by have := h1 i q; omega) (fun q hq e => by have := h2 q hq; omega)
  unfold YdI YS
  rw [e 34 (by omega) (by omega), e 35 (by omega) (by omega), e 36 (by omega) (by omega), e 38 (by omega) (by omega), e 39 (by omega) (by omega), e 40 (by omega) (by omega), e 41 (by omega) (by omega), e 42 (by omega) (by omega), e 43 (by omega) (by omega)]
  exact h
def kL (row : Nat → Int32) (q : Nat) : Int32 := ltK row (kQ q)
def sQ (row : Nat → Int32) (q : Nat) : Nat → Option Nat := sw row (kL row q)
def bR (row : Nat → Int32) (q : Nat) : Nat → Nat → Int32 := rw_ row (kL row q) 0 (sQ row q) (13 * q)
/-- the QUARTER's SITE that is kept -/
def BfI (row : Nat → Int32) (σ : AH) : Prop := gI σ 68 7 ≤ gI σ 0 12 ∧ (gI σ 68 7 = gI σ 0 12 → ∀ q, q < 20 → gI σ 68 6 = nI (13 * q) → SiI row (kL row q) (sQ row q) 70 (13 * q) (bR row q) σ)
/-- a QUARTER is open -/
def OqI (row : Nat → Int32) (q : Nat) (σ : AH) : Prop := YdS row (kL row q) 0 (sQ row q) σ ∧ (gI σ 34 3 = nI 0 ∧ gI σ 34 4 = gI σ 0 12) ∧ (gI σ 68 4 = nI (13 * q) ∧ gI σ 68 6 = nI (13 * q) ∧ gI σ 68 7 = gI σ 0 12) ∧ SiI row (kL row q) (sQ row q) 70 (13 * q) (bR row q) σ
def OQc : List Nat := [71, 72, 73, 74, 75, 76, 77, 78, 79, 31, 32, 33, 35, 36, 37, 38, 39, 40, 41, 42, 43]
def OQf : List (Nat × Nat) := [(28, 6), (34, 2), (34, 3), (34, 4), (68, 4), (68, 6), (68, 7), (70, 2)]
theorem OqI.yc {row : Nat → Int32} {q : Nat} {σ : AH} (h : OqI row q σ) : YcI row σ := by
  obtain ⟨⟨⟨z1, z2, z3, z4, z5⟩, z6, z7, z8, z9⟩, ⟨f3, f4⟩, _⟩ := h
  refine ⟨by rw [f4]; exact i32_rfl, fun _ l' hl' e => ?_⟩
  have : l' = 0 := by
    rw [f3] at e
    exact ((nI_eq (by omega) (by omega)).mp e).symm
  subst this
  rw [z1]
  exact ⟨⟨z1, f3⟩, z7, z8, z9, z2, z3, z4⟩
theorem OqI.bf {row : Nat → Int32} {q : Nat} {σ : AH} (hq : q < 20) (h : OqI row q σ) : BfI row σ := by
  refine ⟨by rw [h.2.2.1.2.2]; exact i32_rfl, fun _ q' hq' e => ?_⟩
  have : q' = q := by
    rw [h.2.2.1.2.1] at e
    have := (nI_eq (by omega) (by omega)).mp e
    omega
  subst this
  exact h.2.2.2
theorem F_openQuarter {row : Nat → Int32} {q : Nat} {σ : AH} (hV : AV row) (hW : AW row) (hB : BV row) (hq : q < 20) (hI : RgI row σ) (hF : BfI row σ) :
    ∃ τ, F_X1_openQuarter (nI q) (kL row q) (gI σ 0 12) σ = some τ ∧ OqI row q τ ∧ Ch OQc OQf σ τ := by
  have hs : ∀ p w, sQ row q p = some w → w < 260 := fun p w h => sw_lt hB h
  unfold F_X1_openQuarter
  have m13 : nI q * (13 : Int32) = nI (13 * q) := by simp only [fa_lit, pk_mul]; rw [Nat.mul_comm]
  rw [m13]
  obtain ⟨σ1, hσ⟩ : ∃ x, x = sI σ 68 4 (nI (13 * q)) := ⟨_, rfl⟩
  rw [← hσ]
  have c1 : Ch [] [(68, 4)] σ σ1 := by rw [hσ]; exact Ch.sI1 (Or.inl (by simp))
  have e34 : gI σ1 34 = gI σ 34 := c1.rI (by simp) (by simp)
  have e0 : gI σ1 0 = gI σ 0 := c1.rI (by simp) (by simp)
  have T1 : TbB row σ1 := hI.1.ch c1 (by simp) (by simp)
  have L1 : LwI row σ1 := hI.2.1.ch c1 (by simp) (by simp)
  obtain ⟨τ1, t1, t2, t3, t4⟩ := F_prepare (k := kL row q) (b := gI σ 0 12) (l := 0) (σ := σ1) hB (by omega) T1 (fun z l' hl' e => by
    rw [e34] at z e ⊢
    exact YdI_ch (hI.2.2.1.2 z l' hl' e) c1 (by simp) (by simp))
  have t1' : F_X10_prepare (kL row q) (0 : Int32) (gI σ 0 12) σ1 = some τ1 := t1
  rw [t1', bv_some]
  have T2 : TbB row τ1 := T1.ch t4 (by simp [YDc]) (by simp [YDf])
  have L2 : LwI row τ1 := L1.ch t4 (by simp [YDc]) (by simp [YDf])
  have cc : Ch OQc OQf σ τ1 := (c1.mono (by simp) (by simp [OQf])).trans (t4.mono (by simp [YDc, OQc]) (by simp [YDf, OQf]))
  have f4 : gI τ1 68 4 = nI (13 * q) := by rw [t4.rI (by simp [YDc]) (by simp [YDf]), hσ, gI_sI_at]
  have f6 : gI τ1 68 6 = gI σ 68 6 := by rw [t4.rI (by simp [YDc]) (by simp [YDf]), hσ, gI_sI_ne (by decide)]
  have f7 : gI τ1 68 7 = gI σ 68 7 := by rw [t4.rI (by simp [YDc]) (by simp [YDf]), hσ, gI_sI_ne (by decide)]
  have f0 : gI τ1 0 12 = gI σ 0 12 := by rw [t4.rI (by simp [YDc]) (by simp [YDf]), e0]
  obtain ⟨⟨y1, y2⟩, y3, y4, y5, y6, y7, y8⟩ := t2
  have D1 : YdS row (kL row q) 0 (sQ row q) τ1 := ⟨⟨y1, y6, y7, y8, L2⟩, T2, y3, y4, y5⟩
  have anew : ∃ τ, F_X1_openQuarter_37 (gI σ 0 12) τ1 = some τ ∧ OqI row q τ ∧ Ch OQc OQf σ τ := by
    unfold F_X1_openQuarter_37
    rw [f4]
    obtain ⟨σ2, hσ2⟩ : ∃ x, x = sI (sI τ1 68 6 (nI (13 * q))) 68 7 (gI σ 0 12) := ⟨_, rfl⟩
    rw [← hσ2]
    have c2 : Ch [] [(68, 6), (68, 7)] τ1 σ2 := by rw [hσ2]; exact (Ch.sI1 (Or.inl (by simp))).trans (Ch.sI1 (Or.inl (by simp)))
    obtain ⟨τ2, u1, u2, u3, u4⟩ := F_empty (row := row) (k := kL row q) (s := sQ row q) (b := 70) (σ := σ2) hB (by decide)
    rw [u1, bv_some]
    have c12 : Ch [71, 73, 74, 75, 76, 77, 78, 79] [(68, 6), (68, 7), (70, 2)] τ1 τ2 := (c2.mono (by simp) (by simp)).trans (u4.mono (by simp [STc]) (by simp))
    have rr : ∀ i, 34 ≤ i → i ≤ 43 → gI τ2 i = gI τ1 i := fun i h1 h2 => c12.rI (by simp; omega) (by simp; omega)
    have T3 : TbB row τ2 := T2.ch c12 (by simp) (by simp)
    have L3 : LwI row τ2 := L2.ch c12 (by simp) (by simp)
    have D2 : YdS row (kL row q) 0 (sQ row q) τ2 := by
      refine ⟨⟨?_, ?_, ?_, ?_, L3⟩, T3, ?_, ?_, y5.ch c12 (by simp) (by simp)⟩
      · rw [rr 34 (by decide) (by decide)]; exact y1
      · rw [rr 40 (by decide) (by decide)]; exact y6
      · rw [rr 41 (by decide) (by decide)]; exact y7
      · rw [rr 43 (by decide) (by decide), rr 42 (by decide) (by decide)]; exact y8
      · rw [rr 35 (by decide) (by decide)]; exact y3
      · rw [rr 36 (by decide) (by decide)]; exact y4
    have g68 : ∀ j, gI τ2 68 j = gI σ2 68 j := fun j => by rw [u4.rI (by simp [STc]) (by simp)]
    have Q0 : gI τ2 68 4 = nI (13 * q) := by rw [g68, hσ2, gI_sI_ne (by decide), gI_sI_ne (by decide)]; exact f4
    obtain ⟨g, hg⟩ := BIGe (13 * q) (by omega)
    obtain ⟨τ3, v1, v2, v3, v4, v5⟩ := play_gen (g := g) (a := 0) (b := 70) (m := 13 * q) (R := R0) (Q := fun x => gI x 68 4 = nI (13 * q)) (G := F_X1_openQuarter_60) (E := fun x => some x) hV hW hB hs hs (by decide) (by omega) (fun _ _ _ _ => Iff.rfl) (fun x y c h => by rw [c.rI (by simp [PWc]) (by simp [PWf])]; exact h) (fun f i x hi h => by
      show B_X1_openQuarter_60 (F_X1_openQuarter_60 f) (nI i) x = _
      unfold B_X1_openQuarter_60
      rw [h, if_neg (nI_ge hi (by omega)), nI_1]) (fun f x h => by
      show B_X1_openQuarter_60 (F_X1_openQuarter_60 f) (nI (13 * q)) x = _
      unfold B_X1_openQuarter_60
      rw [h, if_pos (nI_le (Nat.le_refl _) (by omega))]) (13 * q) 0 τ2 (by omega) Q0 D2 u2
    rw [hg]
    have v1' : F_X1_openQuarter_60 (13 * q + 1 + g) (0 : Int32) τ2 = some τ3 := v1
    have r68 : ∀ j, gI τ3 68 j = gI τ2 68 j := fun j => by rw [v5.rI (by simp [PWc]) (by simp [PWf])]
    have r0 : gI τ3 0 12 = gI σ 0 12 := by rw [v5.rI (by simp [PWc]) (by simp [PWf]), c12.rI (by simp) (by simp)]; exact f0
    have r34 : ∀ j, gI τ3 34 j = gI τ1 34 j := fun j => by rw [v5.rI (by simp [PWc]) (by simp [PWf]), rr 34 (by decide) (by decide)]
    refine ⟨τ3, v1', ⟨v3, ⟨?_, ?_⟩, ⟨?_, ?_, ?_⟩, v4⟩, ?_⟩
    · rw [r34]; exact y2
    · rw [r34, r0]; exact t3
    · exact v2
    · rw [r68, g68, hσ2, gI_sI_ne (by decide), gI_sI_at]
    · rw [r68, g68, hσ2, gI_sI_at, r0]
    · exact (cc.trans (c12.mono (by simp [OQc]) (by simp [OQf]))).trans (v5.mono (by simp [PWc, OQc]) (by simp [PWf, OQf]))
  rw [f4, f6, f7]
  by_cases d1 : gI σ 68 6 = nI (13 * q)
  · rw [if_pos d1]
    by_cases d2 : gI σ 68 7 = gI σ 0 12
    · rw [if_pos d2]
      have S0 := hF.2 d2 q hq d1
      refine ⟨τ1, rfl, ⟨D1, ⟨y2, by rw [f0]; exact t3⟩, ⟨f4, by rw [f6]; exact d1, by rw [f7, f0]; exact d2⟩, ?_⟩, cc⟩
      exact (S0.keep c1 (by simp) (by simp)).keep t4 (by simp [YDc]) (by simp [YDf])
    · rw [if_neg d2]; exact anew
  · rw [if_neg d1]; exact anew
/-- the SITES that Choice has -/
def SaI (σ : AH) : Prop := gR σ 80 0 = some 83 ∧ gR σ 80 1 = some 93 ∧ gR σ 80 2 = some 103
theorem SaI.ch {σ τ : AH} {cs : List Nat} {fs : List (Nat × Nat)} (h : SaI σ) (c : Ch cs fs σ τ) : SaI τ := by
  unfold SaI; rw [c.2.2.2.1]; exact h
theorem rnS_ke {row : Nat → Int32} {k k' : Int32} (h : KE row k k') {lt_ : Int32} {s : Nat → Option Nat} {lc : Nat → Bool} {a : Nat} {R : Nat → Nat → Int32} : ∀ j, rnS row k lt_ s lc a R j = rnS row k' lt_ s lc a R j := by
  intro j
  induction j with
  | zero => rfl
  | succ j ih => rw [rnS_s, rnS_s, ih, gwR_ke h]
/-- the QUARTER that the class plays is the one that the reference tries -/
theorem cR_L {row : Nat → Int32} {q n : Nat} {wi r : Nat → Nat} (h : KE row (kQ q) (kL row q)) : cR row q n wi r = rnS row (kL row q) (nI 0) (sC (sQ row q) wi q r n) (lic row (kL row q) (sC (sQ row q) wi q r n)) (13 * q) (bR row q) 13 := by
  unfold cR qR bfR
  rw [sw_ke h, lic_ke h, runR_ke h, rnS_ke h]
  rfl
theorem ag_q {row : Nat → Int32} {q n : Nat} {wi r : Nat → Nat} (hW : WiV row n wi) : AgW (sQ row q) (sC (sQ row q) wi q r n) (13 * q) := by
  intro p a ha
  by_cases c : ∃ k, k < n ∧ wi k = p
  · obtain ⟨j, hj, e⟩ := c
    subst e
    have n1 : sQ row q (wi j) = none := sw_none hW hj
    rw [n1, sC_at n hW.2.2.1 j hj]
    constructor
    · intro z; cases z
    · intro z
      unfold chW at z
      by_cases y : r j = 0
      · rw [if_pos y] at z; cases z
      · rw [if_neg y] at z; cases z; omega
  · rw [sC_off n (fun k hk e => c ⟨k, hk, e⟩)]
def PLc : List Nat := [31, 32, 33, 37, 38, 39, 40, 41, 42, 43, 84, 85, 86, 87, 88, 89, 90, 91, 92]
def PLf : List (Nat × Nat) := [(28, 6), (83, 2)]
theorem YdS.ys {row : Nat → Int32} {k : Int32} {l : Nat} {s s' : Nat → Option Nat} {σ τ : AH} (h : YdS row k l s σ) (c : Ch [38, 39] [] σ τ) (hY : YS s' τ) : YdS row k l s' τ := by
  obtain ⟨h1, h2, h3, h4, _⟩ := h
  refine ⟨h1.ch c (h1.2.2.2.2.ch c (by simp) (by simp)) (by simp) (by simp), h2.ch c (by simp) (by simp), ?_, ?_, hY⟩
  · rw [c.rI (by simp) (by simp)]; exact h3
  · rw [c.rI (by simp) (by simp)]; exact h4
theorem YdS.fr {row : Nat → Int32} {k : Int32} {l : Nat} {s : Nat → Option Nat} {σ τ : AH} {cs : List Nat} {fs : List (Nat × Nat)} (h : YdS row k l s σ) (c : Ch cs fs σ τ) (h1 : ∀ i ∈ cs, 44 ≤ i ∧ i < 124) (h2 : ∀ q ∈ fs, 44 ≤ q.1 ∧ q.1 < 124) : YdS row k l s τ := by
  obtain ⟨g1, g2, g3, g4, g5⟩ := h
  have e : ∀ i, 34 ≤ i → i < 44 → gI τ i = gI σ i := fun i l1 l2 => c.rI (fun q => by have := h1 i q; omega) (fun q hq e => by have := h2 q hq; omega)
  refine ⟨g1.ch c (g1.2.2.2.2.ch c (fun i hi => by have := h1 i hi; omega) (fun q hq => by have := h2 q hq; omega)) (fun i hi => by have := h1 i hi; omega) (fun q hq => by have := h2 q hq; omega), g2.ch c (fun i hi => by have := h1 i hi; omega) (fun q hq => by have := h2 q hq; omega), ?_, ?_, ?_⟩
  · rw [e 35 (by omega) (by omega)]; exact g3
  · rw [e 36 (by omega) (by omega)]; exact g4
  · unfold YS; rw [e 38 (by omega) (by omega), e 39 (by omega) (by omega)]; exact g5
theorem F_playRow {row : Nat → Int32} {q n : Nat} {wi r : Nat → Nat} {σ : AH} (hV : AV row) (hA : AW row) (hB : BV row) (hq : q < 20) (hW : WiV row n wi) (hK : KE row (kQ q) (kL row q)) (hr4 : ∀ i, r i < 4) (hO : OqI row q σ) (hC : CwI n wi σ) (hr : CrI n r σ) (hS : SaI σ) :
    ∃ τ, F_X1_playRow σ = some (83, τ) ∧ OqI row q τ ∧ CwI n wi τ ∧ SaI τ ∧ SiI row (kL row q) (sC (sQ row q) wi q r n) 83 (13 * q + 13) (cR row q n wi r) τ ∧ Ch PLc PLf σ τ := by
  have hs0 : ∀ p w, sQ row q p = some w → w < 260 := fun p w h => sw_lt hB h
  have hsr : ∀ p w, sC (sQ row q) wi q r n p = some w → w < 260 := sC_lt hs0 hq hr4 n
  have b30 := hB.p.2.1
  obtain ⟨hD, hf, h68, hSi⟩ := hO
  unfold F_X1_playRow
  have g0 : gR σ 80 (0 : Int32).toNatClampNeg = some 83 := hS.1
  rw [if_pos (by decide), g0, bo_some, if_pos (by decide), rows_p hD.2.1, bd_some]
  obtain ⟨τ1, a1, a2, a3⟩ := F_copyFrom (b := 83) (c := 70) b30 (by decide) (by decide) hSi
  rw [a1, bv_some]
  have D1 : YdS row (kL row q) 0 (sQ row q) τ1 := hD.fr a3 (by simp [CFc]) (by simp)
  have C1 : CwI n wi τ1 := hC.ch a3 (by simp [CFc]) (by simp)
  have r1 : CrI n r τ1 := hr.ch a3 (by simp [CFc]) (by simp)
  have f1 : gI τ1 68 4 = nI (13 * q) := by rw [a3.rI (by simp [CFc]) (by simp)]; exact h68.1
  obtain ⟨τ2, b1, b2', b3⟩ := F_tellStarts (k := kL row q) (t := 0) (cs := fun _ => 0) hB hW hq (by omega) (fun i _ => hr4 i) C1 r1 f1 (fun _ _ _ => rfl) (by rw [sC_zero hW (fun _ _ => rfl)]; exact D1.2.2.2.2)
  have C2 := C1.ch b3 (by simp) (by simp)
  have r2 := r1.ch b3 (by simp) (by simp)
  have f2 : gI τ2 68 4 = nI (13 * q) := by rw [b3.rI (by simp) (by simp)]; exact f1
  obtain ⟨τ3, c1, c2, c3⟩ := F_tellStarts (k := kL row q) (t := 1) hB hW hq (by omega) (fun i _ => hr4 i) C2 r2 f2 (fun i _ e => by show (if _ then _ else _) = 0; rw [if_neg (by omega)]) b2'
  have C3 := C2.ch c3 (by simp) (by simp)
  have r3 := r2.ch c3 (by simp) (by simp)
  have f3 : gI τ3 68 4 = nI (13 * q) := by rw [c3.rI (by simp) (by simp)]; exact f2
  obtain ⟨τ4, d1, d2, d3⟩ := F_tellStarts (k := kL row q) (t := 2) hB hW hq (by omega) (fun i _ => hr4 i) C3 r3 f3 (fun i _ e => by show (if _ then _ else _) = 0; rw [if_neg (by omega), if_neg (by omega)]) c2
  have C4 := C3.ch d3 (by simp) (by simp)
  have f4 : gI τ4 68 4 = nI (13 * q) := by rw [d3.rI (by simp) (by simp)]; exact f3
  have c14 : Ch [38, 39] [] τ1 τ4 := (b3.trans c3).trans d3
  have Y4 : YS (sC (sQ row q) wi q r n) τ4 := by
    rw [sC_congr (cs' := fun i => if r i = 2 + 1 then 2 + 1 else if r i = 1 + 1 then 1 + 1 else if r i = 0 + 1 then 0 + 1 else 0) n (fun i _ => by
      have := hr4 i
      by_cases x3 : r i = 3
      · rw [if_pos x3]; exact x3
      · rw [if_neg x3]
        by_cases x2 : r i = 2
        · rw [if_pos x2]; exact x2
        · rw [if_neg x2]
          by_cases x1 : r i = 1
          · rw [if_pos x1]; exact x1
          · rw [if_neg x1]; omega)]
    exact d2
  have D4 : YdS row (kL row q) 0 (sC (sQ row q) wi q r n) τ4 := D1.ys c14 Y4
  have S4 : SiI row (kL row q) (sC (sQ row q) wi q r n) 83 (13 * q) (bR row q) τ4 := SiI_ag (ag_q hW) (a2.keep c14 (by simp) (by simp))
  -- the three tellings as the loop does them
  obtain ⟨g3, hg3⟩ := BIGe 3 (by decide)
  have e27 : F_X1_playRow_27 BIG 83 (0 : Int32) τ1 = F_X1_playRow_48 BIG 83 (nI (13 * q)) τ4 := by
    rw [show F_X1_playRow_27 BIG = F_X1_playRow_27 (3 + 1 + g3) by rw [hg3], show 3 + 1 + g3 = (g3 + 3) + 1 by omega]
    show B_X1_playRow_27 (F_X1_playRow_27 (g3 + 3)) 83 (0 : Int32) τ1 = _
    unfold B_X1_playRow_27
    have b1' : F_X1_tellStarts (0 : Int32) τ1 = some τ2 := b1
    rw [if_neg (by decide), b1', bv_some]
    show B_X1_playRow_27 (F_X1_playRow_27 (g3 + 2)) 83 ((0 : Int32) + 1) τ2 = _
    unfold B_X1_playRow_27
    have c1' : F_X1_tellStarts ((0 : Int32) + 1) τ2 = some τ3 := c1
    rw [if_neg (by decide), c1', bv_some]
    show B_X1_playRow_27 (F_X1_playRow_27 (g3 + 1)) 83 ((0 : Int32) + 1 + 1) τ3 = _
    unfold B_X1_playRow_27
    have d1' : F_X1_tellStarts ((0 : Int32) + 1 + 1) τ3 = some τ4 := d1
    rw [if_neg (by decide), d1', bv_some]
    show B_X1_playRow_27 (F_X1_playRow_27 g3) 83 ((0 : Int32) + 1 + 1 + 1) τ4 = _
    unfold B_X1_playRow_27
    rw [if_pos (by decide), f4]
  rw [e27]
  obtain ⟨g, hg⟩ := BIGe 13 (by decide)
  have e13 : nI (13 * q) + (13 : Int32) = nI (13 * q + 13) := nI_add _ 13
  obtain ⟨τ5, v1, v2, v3, v4, v5⟩ := play_gen (g := g) (a := 13 * q) (b := 83) (m := 13 * q + 13) (R := bR row q) (Q := fun x => gI x 68 4 = nI (13 * q)) (G := fun f x s => F_X1_playRow_48 f 83 x s) (E := fun x => bv (F_X1_dropStarts x) fun σ24 => some (83, σ24)) hV hA hB hsr hsr (by decide) (by omega) (fun _ _ _ _ => Iff.rfl) (fun x y c h => by rw [c.rI (by simp [PWc]) (by simp [PWf])]; exact h) (fun f i x hi h => by
    show B_X1_playRow_48 (F_X1_playRow_48 f) 83 (nI i) x = _
    unfold B_X1_playRow_48
    rw [h, e13, if_neg (nI_ge hi (by omega)), nI_1]) (fun f x h => by
    show B_X1_playRow_48 (F_X1_playRow_48 f) 83 (nI (13 * q + 13)) x = _
    unfold B_X1_playRow_48
    rw [h, e13, if_pos (nI_le (Nat.le_refl _) (by omega))]) 13 0 τ4 (by omega) f4 D4 (by rw [rnS_z]; exact S4)
  have v1' : F_X1_playRow_48 BIG 83 (nI (13 * q)) τ4 = bv (F_X1_dropStarts τ5) fun σ24 => some (83, σ24) := by rw [hg]; exact v1
  have C5 : CwI n wi τ5 := C4.ch v5 (by simp [PWc]) (by simp [PWf])
  obtain ⟨τ6, w1, w2, w3⟩ := F_dropStarts (k := kL row q) hB hW hq hr4 C5 v3.2.2.2.2
  rw [v1', w1, bv_some]
  have c16 : Ch PLc PLf σ τ6 := (((a3.mono (by simp [CFc, PLc]) (by simp [PLf])).trans (c14.mono (by simp [PLc]) (by simp))).trans (v5.mono (by simp [PWc, PLc]) (by simp [PWf, PLf]))).trans (w3.mono (by simp [PLc]) (by simp))
  have e13' : 13 * q + 13 - 13 * q = 13 := by omega
  rw [e13', ← cR_L hK] at v4
  refine ⟨τ6, rfl, ⟨v3.ys w3 w2, ⟨?_, ?_⟩, ⟨?_, ?_, ?_⟩, hSi.keep c16 (by simp [PLc]) (by simp [PLf])⟩, C5.ch w3 (by simp) (by simp), hS.ch c16, v4.keep w3 (by simp) (by simp), c16⟩
  · rw [c16.rI (by simp [PLc]) (by simp [PLf])]; exact hf.1
  · rw [c16.rI (by simp [PLc]) (by simp [PLf]), c16.rI (by simp [PLc]) (by simp [PLf])]; exact hf.2
  · rw [c16.rI (by simp [PLc]) (by simp [PLf])]; exact h68.1
  · rw [c16.rI (by simp [PLc]) (by simp [PLf])]; exact h68.2.1
  · rw [c16.rI (by simp [PLc]) (by simp [PLf]), c16.rI (by simp [PLc]) (by simp [PLf])]; exact h68.2.2
end
