section
def BgI (row : Nat → Int32) (b : Nat) (R : Nat → Nat → Int32) (σ : AH) : Prop := ∀ q, q < nP row → ∀ s, s < 3 → cl (R 144 q) < s → gI σ (b + 7) (3 * q + s) = -1
def BgP (b : Nat) (R : Nat → Nat → Int32) (p : Nat) (σ : AH) : Prop := cl (R 144 p) < 3 → R 145 p = 0 → (R 147 p = 0 → gI σ (b + 7) (3 * p + cl (R 144 p)) ≠ -1) ∧ (R 147 p ≠ 0 → gI σ (b + 7) (3 * p + cl (R 144 p)) = -1)
def BgC (b w p : Nat) (σ τ : AH) : Prop := ∀ i, gI τ (b + 7) i = gI σ (b + 7) i ∨ (i / 3 = p ∧ gI σ (b + 7) i = -1 ∧ gI τ (b + 7) i = nI w)
theorem BgC.rf {b w p : Nat} {σ τ : AH} (h : gI τ (b + 7) = gI σ (b + 7)) : BgC b w p σ τ := fun i => Or.inl (by rw [h])
theorem BgC.trans {b w p : Nat} {σ τ υ : AH} (h : BgC b w p σ τ) (h' : BgC b w p τ υ) : BgC b w p σ υ := fun i => by
  rcases h i with a | ⟨a0, a1, a2⟩ <;> rcases h' i with c | ⟨c0, c1, c2⟩
  · exact Or.inl (c.trans a)
  · exact Or.inr ⟨c0, a.symm.trans c1, c2⟩
  · exact Or.inr ⟨a0, a1, c.trans a2⟩
  · exact Or.inr ⟨a0, a1, c2⟩
def SVc (b : Nat) : List Nat := [b + 1, b + 5, b + 6, b + 7, b + 8, b + 9, 31, 32, 33, 37, 42, 43]
def SVf : List (Nat × Nat) := [(28, 6)]
/-- what is kept while PLOTS are served -/
def SvI (row : Nat → Int32) (k : Int32) (b : Nat) (R : Nat → Nat → Int32) (σ : AH) : Prop := YK row k σ ∧ TbB row σ ∧ StR row b R σ ∧ RV_ R ∧ WI R ∧ BgI row b R σ
theorem YK.site {row : Nat → Int32} {k : Int32} {b : Nat} {σ τ : AH} {cs : List Nat} (hb : 44 < b ∧ b + 9 < 124) (h : YK row k σ) (c : Ch cs [] σ τ) (h1 : ∀ i ∈ cs, i = 37 ∨ b ≤ i ∧ i ≤ b + 9) : YK row k τ :=
  h.ch c (h.2.2.2.2.ch c (fun i hi => by have := h1 i hi; omega) (by simp)) (fun i hi => by have := h1 i hi; omega) (by simp)
theorem TbB.site {row : Nat → Int32} {b : Nat} {σ τ : AH} {cs : List Nat} (hb : 44 < b ∧ b + 9 < 124) (h : TbB row σ) (c : Ch cs [] σ τ) (h1 : ∀ i ∈ cs, i = 37 ∨ b ≤ i ∧ i ≤ b + 9) : TbB row τ :=
  h.ch c (fun i hi => by have := h1 i hi; omega) (by simp)
theorem i32_pos {x : Int32} (h : 0 < x) : ¬ x ≤ 0 := fun h' => Int32.lt_irrefl (Int32.lt_of_lt_of_le h h')
theorem i32_npos {x : Int32} (h : ¬ x ≤ 0) : 0 < x := Int32.not_le.mp h
theorem WI_fnR {w p : Nat} {R : Nat → Nat → Int32} (h : ∀ q, q < 30 → q ≠ p → R 145 q = 0 ∨ 0 < R 146 q) : WI (fnR w p R) := fun q hq => by
  unfold fnR
  by_cases c : q = p
  · subst c; rw [rU_at]; exact Or.inl rfl
  · rw [rU_ne c, rU_row (by decide), rU_row (by decide), rU_row (by decide), rU_row (by decide), rU_row (by decide)]; exact h q hq c
theorem BgI.of {row : Nat → Int32} {b : Nat} {R R' : Nat → Nat → Int32} {σ τ : AH} (h : BgI row b R σ) (h1 : ∀ q, q < nP row → cl (R 144 q) ≤ cl (R' 144 q)) (h2 : ∀ q, q < nP row → ∀ s, s < 3 → cl (R 144 q) < s → gI τ (b + 7) (3 * q + s) = gI σ (b + 7) (3 * q + s)) : BgI row b R' τ := fun q hq s hs hc => by
  have := h1 q hq
  rw [h2 q hq s hs (by omega)]; exact h q hq s hs (by omega)
theorem fnR_144 {w p s : Nat} {R : Nat → Nat → Int32} (e : R 144 p = nI s) (hs : s < 3) : fnR w p R 144 p = nI (s + 1) ∧ ∀ q, q ≠ p → fnR w p R 144 q = R 144 q := by
  unfold fnR
  refine ⟨?_, fun q c => ?_⟩
  · rw [rU_row (by decide), rU_at, e]; exact nI_1 s
  · rw [rU_row (by decide), rU_ne c, rU_row (by decide)]
theorem serve_end {row : Nat → Int32} {k : Int32} {b w p s : Nat} {x5 x6 x7 : Int32} {R : Nat → Nat → Int32} {σ : AH} {K : Nat → Int32 → Int32 → Int32 → Int32 → Int32 → Int32 → AH → Option AH} (hB : BV row) (hb : 44 < b ∧ b + 9 < 124) (hp : p < nP row) (hs : s < 3) (e : R 144 p = nI s) (h147 : R 147 p = 0) (h145 : R 145 p ≠ 0) (h146 : 0 < R 146 p) (hI : SvI row k b R σ) :
    ∃ τ, F_X10_serve_105 K b (nI p) (nI w) (nI (pC row p)) x5 x6 x7 σ = some τ ∧ SvI row k b (gaR row w p R) τ ∧ BgP b (gaR row w p R) p τ ∧ gI τ (b + 7) = gI σ (b + 7) ∧ Ch (SVc b) [] σ τ := by
  obtain ⟨p0, p1, p2⟩ := hB.p
  have bc : pC row p < 6 := (p2 p hp).1.2
  obtain ⟨hY, hT, hS, hR, hWI, hBg⟩ := hI
  have q1 : inB (nI p) 30 = true := inB_n (by omega) (by omega)
  have n1 : (nI p).toNatClampNeg = p := nI_clamp (by omega)
  have q2 : inB (nI (pC row p)) 6 = true := inB_n bc (by omega)
  have n2 : (nI (pC row p)).toNatClampNeg = pC row p := nI_clamp (by omega)
  have g6 : gI σ (b + 6) p = R 146 p := by rw [hS.2.2.2.1 p hp, if_neg h145]
  unfold F_X10_serve_105
  simp only [q1, n1, q2, n2, g6, hS.2.1 _ bc, if_true, lt_e]
  rw [if_neg (i32_pos h146)]
  by_cases c : R 143 (pC row p) ≤ 0
  · rw [if_pos c]
    have eg : gaR row w p R = R := by unfold gaR; rw [if_pos c]
    rw [eg]
    exact ⟨σ, rfl, ⟨hY, hT, hS, hR, hWI, hBg⟩, fun _ h => absurd h h145, rfl, Ch.rf _⟩
  · rw [if_neg c]
    have g1 : gI (sI σ 37 (pC row p) (R 143 (pC row p) - 1)) (b + 6) p = R 146 p := by rw [gI_sI_row (by omega), g6]
    rw [g1]
    have S2 : StR row b (gaR1 row p R) (sI (sI σ 37 (pC row p) (R 143 (pC row p) - 1)) (b + 6) p (R 146 p - 1)) := by
      obtain ⟨s1, s2, s3, s4, s5, s6⟩ := hS
      unfold gaR1
      refine ⟨fun m hm => ?_, fun c hc => ?_, fun q hq => ?_, fun q hq => ?_, fun i hi => ?_, fun i hi => ?_⟩
      · rw [gI_sI_row (by omega), gI_sI_row (by omega), rU_row (by decide), rU_row (by decide)]; exact s1 m hm
      · rw [gI_sI_row (by omega), rU_row (by decide)]
        by_cases d : c = pC row p
        · subst d; rw [gI_sI_at, rU_at]
        · rw [gI_sI_ne d, rU_ne d]; exact s2 c hc
      · rw [gI_sI_row (by omega), gI_sI_row (by omega), rU_row (by decide), rU_row (by decide)]; exact s3 q hq
      · by_cases d : q = p
        · subst d; rw [gI_sI_at, rU_at, rU_row (by decide), rU_row (by decide), if_neg h145]
        · rw [gI_sI_ne d, gI_sI_row (by omega), rU_row (c := 146) (d := 145) (by decide), rU_row (c := 143) (d := 145) (by decide), rU_ne d, rU_row (by decide)]; exact s4 q hq
      · rw [gI_sI_row (by omega), gI_sI_row (by omega), rU_row (by decide), rU_row (by decide)]; exact s5 i hi
      · rw [gI_sI_row (by omega), gI_sI_row (by omega), rU_row (by decide), rU_row (by decide)]; exact s6 i hi
    have C2 : Ch [b + 6, 37] [] σ (sI (sI σ 37 (pC row p) (R 143 (pC row p) - 1)) (b + 6) p (R 146 p - 1)) := (Ch.sI1 (Or.inr (by simp))).trans (Ch.sI1 (Or.inr (by simp)))
    have R2 : RV_ (gaR1 row p R) := (hR.put (by decide) (by decide)).put (by decide) (by decide)
    have z4 : gaR1 row p R 144 = R 144 := by unfold gaR1; rw [rU_row (by decide), rU_row (by decide)]
    have z5 : gaR1 row p R 145 = R 145 := by unfold gaR1; rw [rU_row (by decide), rU_row (by decide)]
    have z6 : gaR1 row p R 146 p = R 146 p - 1 := by unfold gaR1; rw [rU_at]
    have z6' : ∀ q, q ≠ p → gaR1 row p R 146 q = R 146 q := fun q d => by unfold gaR1; rw [rU_ne d, rU_row (by decide)]
    have eg : gaR row w p R = if gaR1 row p R 146 p = 0 then rU (fnR w p (gaR1 row p R)) 147 p 1 else gaR1 row p R := by unfold gaR; rw [if_neg c]
    have e7 : gI (sI (sI σ 37 (pC row p) (R 143 (pC row p) - 1)) (b + 6) p (R 146 p - 1)) (b + 7) = gI σ (b + 7) := C2.rI (by simp; omega) (by simp)
    rw [eg, gI_sI_at, z6]
    by_cases c0 : R 146 p - 1 = 0
    · rw [if_pos c0, if_pos c0]
      obtain ⟨τ, t1, t2, t3⟩ := F_finishStage (w := w) (by omega) hb.1 hp hs (z4 ▸ e) S2
      rw [t1, bv_some]
      have cc : Ch [b + 5, b + 6, b + 9, 37] [] σ τ := (C2.mono (by simp) (by simp)).trans (t3.mono (by simp) (by simp))
      have f4 := fnR_144 (w := w) (R := gaR1 row p R) (p := p) (z4 ▸ e) hs
      have y7 : gI τ (b + 7) = gI σ (b + 7) := cc.rI (by simp; omega) (by simp)
      refine ⟨τ, rfl, ⟨hY.site hb cc (by simp), hT.site hb cc (by simp), ?_, ?_, ?_, ?_⟩, ?_, y7, cc.mono (by simp [SVc]) (by simp)⟩
      · obtain ⟨s1, s2, s3, s4, s5, s6⟩ := t2
        refine ⟨?_, ?_, ?_, ?_, ?_, ?_⟩
        · rw [rU_row (by decide)]; exact s1
        · rw [rU_row (by decide)]; exact s2
        · rw [rU_row (by decide)]; exact s3
        · rw [rU_row (by decide), rU_row (by decide)]; exact s4
        · rw [rU_row (by decide)]; exact s5
        · rw [rU_row (by decide)]; exact s6
      · refine RV_.put (RV_fnR R2 (by omega) ?_) (by decide) (by decide)
        rw [z4, e]; show cl (nI s) < 3; rw [show cl (nI s) = s from nI_clamp (by omega)]; exact hs
      · have := WI_fnR (w := w) (p := p) (R := gaR1 row p R) (fun q hq d => by rw [z5, z6' q d]; exact hWI q hq)
        intro q hq
        rw [rU_row (by decide), rU_row (by decide)]; exact this q hq
      · refine hBg.of (fun q hq => ?_) (fun q hq s hs hc => by rw [y7])
        rw [rU_row (by decide)]
        by_cases d : q = p
        · subst d
          rw [f4.1, e, show cl (nI s) = s from nI_clamp (by omega), show cl (nI (s + 1)) = s + 1 from nI_clamp (by omega)]; omega
        · rw [f4.2 q d, z4]; exact Nat.le_refl _
      · intro a1 a2
        have z : rU (fnR w p (gaR1 row p R)) 147 p 1 144 p = nI (s + 1) := by rw [rU_row (by decide)]; exact f4.1
        rw [z, show cl (nI (s + 1)) = s + 1 from nI_clamp (by omega)] at a1 ⊢
        rw [rU_at, y7]
        refine ⟨fun h => absurd h (by decide), fun _ => hBg p hp (s + 1) a1 ?_⟩
        rw [e, show cl (nI s) = s from nI_clamp (by omega)]; omega
    · rw [if_neg c0, if_neg c0]
      refine ⟨_, rfl, ⟨hY.site hb C2 (by simp), hT.site hb C2 (by simp), S2, R2, ?_, ?_⟩, ?_, e7, C2.mono (by simp [SVc]) (by simp)⟩
      · intro q hq
        rw [z5]
        by_cases d : q = p
        · subst d
          rw [z6]
          refine Or.inr ?_
          have h1 := Int32.lt_iff_toInt_lt.mp h146
          have h2 : (R 146 q - 1).toInt ≠ 0 := fun h => c0 (Int32.toInt_inj.mp (by rw [h]; rfl))
          have h3 : (R 146 q - 1).toInt = (R 146 q).toInt - 1 := by
            have e0 : (0 : Int32).toInt = 0 := by decide
            have := (R 146 q).toInt_lt
            have e1 : (1 : Int32).toInt = 1 := by decide
            rw [Int32.toInt_sub, e1, Int.bmod_eq_of_le (by omega) (by omega)]
          have e0 : (0 : Int32).toInt = 0 := by decide
          rw [Int32.lt_iff_toInt_lt]; omega
        · rw [z6' q d]; exact hWI q hq
      · exact hBg.of (fun q hq => by rw [z4]; exact Nat.le_refl _) (fun q hq s hs hc => by rw [e7])
      · intro _ a2
        rw [z5] at a2; exact absurd a2 h145
theorem serve_loop {row : Nat → Int32} {k : Int32} {b w p g : Nat} (hV : AV row) (hW : AW row) (hB : BV row) (hb : 44 < b ∧ b + 9 < 124) (hp : p < nP row) (hw : w < 260) : ∀ (j s f : Nat) (R : Nat → Nat → Int32) (σ : AH), s + j = 3 → j < f → R 144 p = nI s → R 147 p = 0 → SvI row k b R σ →
    ∃ τ, F_X10_serve_67 (j + 1 + g) b (nI p) (nI w) (nI (pC row p)) (nI (pK row p)) (nI (pR row p)) (nI s) σ = some τ ∧ SvI row k b (gpS row k w p f R) τ ∧ BgP b (gpS row k w p f R) p τ ∧ BgC b w p σ τ ∧ Ch (SVc b) SVf σ τ := by
  obtain ⟨p0, p1, p2⟩ := hB.p
  have bk : pK row p < 3 := (p2 p hp).2.1.2
  have br : pR row p < 7 := (p2 p hp).2.2.1.1.2
  have br1 : 1 ≤ pR row p := (p2 p hp).2.2.1.2
  have q1 : inB (nI p) 30 = true := inB_n (by omega) (by omega)
  have n1 : (nI p).toNatClampNeg = p := nI_clamp (by omega)
  intro j
  induction j with
  | zero =>
    intro s f R σ hsj hf e h147 hI
    have hs : s = 3 := by omega
    subst hs
    obtain ⟨f, rfl⟩ : ∃ f', f = f' + 1 := ⟨f - 1, by omega⟩
    have eF : F_X10_serve_67 (0 + 1 + g) = B_X10_serve_67 (F_X10_serve_67 g) := by rw [show 0 + 1 + g = g + 1 by omega]; rfl
    have eG : gpS row k w p (f + 1) R = R := by
      unfold gpS
      rw [if_pos (by rw [e]; decide)]
    rw [eF, eG]; unfold B_X10_serve_67
    rw [if_pos (by decide)]
    exact ⟨σ, rfl, hI, fun a _ => absurd a (by rw [e]; decide), BgC.rf rfl, Ch.rf _⟩
  | succ j ih =>
    intro s f R σ hsj hf e h147 hI
    obtain ⟨f, rfl⟩ : ∃ f', f = f' + 1 := ⟨f - 1, by omega⟩
    have hs : s < 3 := by omega
    have es : cl (R 144 p) = s := by rw [e]; exact nI_clamp (by omega)
    have eF : F_X10_serve_67 (j + 1 + 1 + g) = B_X10_serve_67 (F_X10_serve_67 (j + 1 + g)) := by rw [show j + 1 + 1 + g = (j + 1 + g) + 1 by omega]; rfl
    have eG : gpS row k w p (f + 1) R = if R 145 p = 0 then (if ctS row k w p R 5 = true then (if toR row k w p R 146 p = 0 then gpS row k w p f (fnR w p (toR row k w p R)) else gaR row w p (toR row k w p R)) else R) else gaR row w p R := by
      have : ¬ (3 : Int32) ≤ R 144 p := by rw [e, fa_lit 3]; exact nI_ge hs (by omega)
      have e0 : gpS row k w p (f + 1) R = if (3 : Int32) ≤ R 144 p then R else if R 145 p = 0 then (if ctS row k w p R 5 = true then (if toR row k w p R 146 p = 0 then gpS row k w p f (fnR w p (toR row k w p R)) else gaR row w p (toR row k w p R)) else R) else gaR row w p R := rfl
      rw [e0, if_neg this]
    obtain ⟨hY, hT, hS, hR, hWI, hBg⟩ := hI
    rw [eF, eG]; unfold B_X10_serve_67
    rw [fa_lit 3, if_neg (nI_ge hs (by omega)), if_pos q1, n1, hS.2.2.2.1 p hp]
    by_cases c5 : R 145 p = 0
    · rw [if_pos c5, if_pos rfl, if_pos c5]
      obtain ⟨τ1, t1, t2, t3, t4⟩ := F_needsAt (kn := pK row p) (sg := s) (rm := pR row p) (w := w) hV hW hY bk hs br1 (by omega) hw
      have hP : hsN (w % 13) (pK row p) s (pR row p) < 702 := by unfold hsN; omega
      have S1 : StR row b R τ1 := hS.ch t4 (by unfold sib; simp; omega) (by unfold sib; simp; omega)
      obtain ⟨τ2, u1, u2, u3, u4, u5⟩ := F_takeNeeds (k := k) (by omega) hb.1 hp hs hP hw e S1 t3
      rw [t1, bd_some, u1, bd_some]
      have cc : Ch (SVc b) SVf σ τ2 := (t4.mono (by simp [SVc]) (by simp [SVf])).trans (u5.mono (by simp [SVc]) (by simp))
      have g7 : gI τ1 (b + 7) = gI σ (b + 7) := t4.rI (by simp; omega) (by simp; omega)
      have hC : BgC b w p σ τ2 := fun i => by
        rcases u4 i with h | ⟨h1, h2, h3⟩
        · exact Or.inl (by rw [h, g7])
        · exact Or.inr ⟨by omega, by rw [← g7]; exact h2, h3⟩
      have hB2 : BgI row b R τ2 := hBg.of (fun q hq => Nat.le_refl _) (fun q hq s' hs' hc => by
        rcases u4 (3 * q + s') with h | ⟨h1, h2, h3⟩
        · rw [h, g7]
        · have : q = p := by omega
          subst this
          omega)
      have Y2 : YK row k τ2 := t2.site hb u5 (by simp)
      have T1 : TbB row τ1 := hT.ch t4 (by simp) (by simp)
      have T2 : TbB row τ2 := T1.site hb u5 (by simp)
      by_cases ct : ctS row k w p R 5 = true
      · rw [if_pos ct] at u2 ⊢
        rw [ct, if_neg (show ¬ b2 true = 0 by decide)]
        have z4 : toR row k w p R 144 = R 144 := by unfold toR; rw [rU_row (by decide), rU_row (by decide), rU_row (by decide), tkS_row (by decide)]
        have z7 : toR row k w p R 147 = R 147 := by unfold toR; rw [rU_row (by decide), rU_row (by decide), rU_row (by decide), tkS_row (by decide)]
        have z5 : toR row k w p R 145 p = 1 := by unfold toR; rw [rU_row (by decide), rU_row (by decide), rU_at]
        have z5' : ∀ q, q ≠ p → toR row k w p R 145 q = R 145 q := fun q d => by unfold toR; rw [rU_row (by decide), rU_row (by decide), rU_ne d, tkS_row (by decide)]
        have z6' : ∀ q, q ≠ p → toR row k w p R 146 q = R 146 q := fun q d => by unfold toR; rw [rU_ne d, rU_row (by decide), rU_row (by decide), tkS_row (by decide)]
        have z6 : toR row k w p R 146 p = nee row k w p s 5 := by unfold toR; rw [rU_at, es]
        have e2 : toR row k w p R 144 p = nI s := by rw [z4]; exact e
        have R2 : RV_ (toR row k w p R) := RV_toR hR
        have nn : (0 : Int32) ≤ nee row k w p s 5 := needV_nn hV hW bk hs (by omega)
        by_cases c6 : toR row k w p R 146 p = 0
        · rw [if_pos c6]
          unfold F_X10_serve_105
          rw [if_pos q1, n1, u2.2.2.2.1 p hp, z5, if_neg (show ¬ (1 : Int32) = 0 by decide), c6, if_pos (Int32.le_refl _)]
          obtain ⟨τ3, v1, v2, v3⟩ := F_finishStage (w := w) (by omega) hb.1 hp hs e2 u2
          rw [v1, bv_some, nI_1]
          have f4 := fnR_144 (w := w) e2 hs
          have f7 : fnR w p (toR row k w p R) 147 p = 0 := by unfold fnR; rw [rU_row (by decide), rU_row (by decide), rU_row (by decide), z7]; exact h147
          have y7 : gI τ3 (b + 7) = gI τ2 (b + 7) := v3.rI (by simp) (by simp)
          have I3 : SvI row k b (fnR w p (toR row k w p R)) τ3 := ⟨Y2.site hb v3 (by simp), T2.site hb v3 (by simp), v2, RV_fnR R2 (by omega) (by rw [z4, es]; exact hs), WI_fnR (fun q hq d => by rw [z5' q d, z6' q d]; exact hWI q hq), hB2.of (fun q hq => by
            by_cases d : q = p
            · subst d; rw [f4.1, es, show cl (nI (s + 1)) = s + 1 from nI_clamp (by omega)]; omega
            · rw [f4.2 q d, z4]; exact Nat.le_refl _) (fun q hq s' hs' hc => by rw [y7])⟩
          obtain ⟨τ4, w1, w2, w3, w4, w5⟩ := ih (s + 1) f (fnR w p (toR row k w p R)) τ3 (by omega) (by omega) f4.1 f7 I3
          exact ⟨τ4, w1, w2, w3, hC.trans ((BgC.rf y7).trans w4), cc.trans ((v3.mono (by simp [SVc]) (by simp)).trans w5)⟩
        · rw [if_neg c6]
          have pos : 0 < toR row k w p R 146 p := by
            rw [z6] at c6 ⊢
            exact i32_npos (fun h => c6 (Int32.le_antisymm h nn))
          obtain ⟨τ3, v1, v2, v3, v4, v5⟩ := serve_end (w := w) (x5 := nI (pK row p)) (x6 := nI (pR row p)) (x7 := nI s) (K := F_X10_serve_67 (j + 1 + g)) hB hb hp hs e2 (by rw [z7]; exact h147) (by rw [z5]; decide) pos ⟨Y2, T2, u2, R2, (fun q hq => by
            by_cases d : q = p
            · subst d; exact Or.inr pos
            · rw [z5' q d, z6' q d]; exact hWI q hq), hB2.of (fun q hq => by rw [z4]; exact Nat.le_refl _) (fun _ _ _ _ _ => rfl)⟩
          exact ⟨τ3, v1, v2, v3, hC.trans (BgC.rf v4), cc.trans (v5.mono (fun _ h => h) (by simp))⟩
      · rw [if_neg ct] at u2 ⊢
        have ctf : ctS row k w p R 5 = false := by simpa using ct
        rw [ctf, if_pos (show b2 false = 0 by decide)]
        refine ⟨τ2, rfl, ⟨Y2, T2, u2, hR, hWI, hB2⟩, fun _ _ => ⟨fun _ => ?_, fun h => absurd h147 h⟩, hC, cc⟩
        rw [es]; exact u3
    · rw [if_neg c5, if_neg c5]
      have pos : 0 < R 146 p := (hWI p (by omega)).resolve_left c5
      rw [if_neg (fun h => by rw [h] at pos; exact absurd pos (by decide))]
      obtain ⟨τ3, v1, v2, v3, v4, v5⟩ := serve_end (w := w) (x5 := nI (pK row p)) (x6 := nI (pR row p)) (x7 := nI s) (K := F_X10_serve_67 (j + 1 + g)) hB hb hp hs e h147 c5 pos ⟨hY, hT, hS, hR, hWI, hBg⟩
      exact ⟨τ3, v1, v2, v3, BgC.rf v4, v5.mono (fun _ h => h) (by simp)⟩
/-- a PLOT is served as in the reference, if its ground is cleared -/
theorem F_serve {row : Nat → Int32} {k : Int32} {b w p : Nat} {R : Nat → Nat → Int32} {σ : AH} (hV : AV row) (hW : AW row) (hB : BV row) (hb : 44 < b ∧ b + 9 < 124) (hp : p < nP row) (hw : w < 260) (h147 : R 147 p = 0) (hI : SvI row k b R σ) :
    ∃ τ, F_X10_serve b (nI p) (nI w) σ = some τ ∧ SvI row k b (if pL row p ≤ w then gpR row k w p R else R) τ ∧ (pL row p ≤ w → BgP b (gpR row k w p R) p τ) ∧ BgC b w p σ τ ∧ Ch (SVc b) SVf σ τ := by
  obtain ⟨p0, p1, p2⟩ := hB.p
  have ec : pl row p 0 = nI (pC row p) := (p2 p hp).1.1
  have ek : pl row p 1 = nI (pK row p) := (p2 p hp).2.1.1
  have er : pl row p 2 = nI (pR row p) := (p2 p hp).2.2.1.1.1
  have el : isN (pl row p 3) 260 := (p2 p hp).2.2.2
  have el' : pl row p 3 = nI (pL row p) := el.1
  have bl : pL row p < 260 := el.2
  have hT := hI.2.1
  have a0 : F_X8_at 9 (nI p) (0 : Int32) σ = _ := at_pl (j := 0) hT hp (by decide)
  have a1 : F_X8_at 9 (nI p) (1 : Int32) σ = _ := at_pl (j := 1) hT hp (by decide)
  have a2 : F_X8_at 9 (nI p) (2 : Int32) σ = _ := at_pl (j := 2) hT hp (by decide)
  have a3 : F_X8_at 9 (nI p) (3 : Int32) σ = _ := at_pl (j := 3) hT hp (by decide)
  unfold F_X10_serve
  rw [a3, bd_some, el']
  by_cases c : pL row p ≤ w
  · have e4 := (hI.2.2.2.1 p (by omega)).1
    obtain ⟨g, hg⟩ := BIGe (3 - cl (R 144 p)) (by omega)
    rw [if_pos (nI_le c (by omega)), a0, bd_some, a1, bd_some, a2, bd_some, if_pos (inB_n (by omega) (by omega)), nI_clamp (by omega), hI.2.2.1.2.2.1 p hp, ec, ek, er, e4.1, hg, if_pos c]
    obtain ⟨τ, t1, t2, t3, t4, t5⟩ := serve_loop (g := g) hV hW hB hb hp hw (3 - cl (R 144 p)) (cl (R 144 p)) 4 R σ (by have := e4.2; omega) (by omega) e4.1 h147 hI
    exact ⟨τ, t1, t2, fun _ => t3, t4, t5⟩
  · rw [if_neg (nI_ge (by omega) (by omega)), if_neg c]
    exact ⟨σ, rfl, hI, fun h => absurd h c, BgC.rf rfl, Ch.rf _⟩
end
