section
/-! the state but the gangs, which every WEEK tells anew -/
def ROx (σ : AH) (R : Nat → Nat → Int32) : Prop := RO_ σ (va_up R 143 (gI σ 143))
theorem gwR_143 {row : Nat → Int32} {k lt_ : Int32} {s : Nat → Option Nat} {lc : Nat → Bool} {w : Nat} {R : Nat → Nat → Int32} {x : Nat → Int32} : gwR row k lt_ s lc w (va_up R 143 x) = gwR row k lt_ s lc w R := by
  unfold gwR
  rw [ordS_congr (R' := R) (up_ne _ _ _ (by decide)), up_ne _ _ _ (by decide)]
  congr 2
  funext c
  by_cases e3 : c = 143
  · subst e3; rw [up_same, up_same]
  · rw [up_ne _ _ _ e3, up_ne _ _ _ e3]
    by_cases e2 : c = 142
    · subst e2; rw [up_same, up_same]
    · rw [up_ne _ _ _ e2, up_ne _ _ _ e2, up_ne _ _ _ e3]
theorem RO_.x {σ : AH} {R : Nat → Nat → Int32} (h : RO_ σ R) : ROx σ R := fun c h1 h2 i hi => by
  by_cases e : c = 143
  · subst e; rw [up_same]
  · rw [up_ne _ _ _ e]; exact h c h1 h2 i hi
theorem ROx.at {σ : AH} {R : Nat → Nat → Int32} (h : ROx σ R) {c i : Nat} (h1 : 142 ≤ c) (h2 : c ≤ 149) (h3 : c ≠ 143) (hi : i < lenR c) : gI σ c i = R c i := by
  rw [h c h1 h2 i hi, up_ne _ _ _ h3]
def R0 : Nat → Nat → Int32 := fun c _ => if 148 ≤ c then -1 else 0
theorem RV_R0 : RV_ R0 := fun p hp => ⟨isN_nI (j := 0) (by decide) (by decide), Or.inl rfl⟩
theorem begin_35 {g : Nat} {K : AH → Option AH} (hK : ∀ s, F_X12_beginRun_77 BIG 0 s = K s) : ∀ (j i : Nat) (σ : AH), i + j = 30 → (∀ c q, 144 ≤ c → c ≤ 147 → q < i → gI σ c q = 0) → ∃ τ, F_X12_beginRun_35 (j + 1 + g) (nI i) σ = K τ ∧ (∀ c q, 144 ≤ c → c ≤ 147 → q < 30 → gI τ c q = 0) ∧ Ch [144, 145, 146, 147] [] σ τ := by
  intro j
  induction j with
  | zero =>
    intro i σ hi hz
    have e : F_X12_beginRun_35 (0 + 1 + g) = B_X12_beginRun_35 (F_X12_beginRun_35 g) := by rw [show 0 + 1 + g = g + 1 by omega]; rfl
    rw [e]; unfold B_X12_beginRun_35
    rw [fa_lit 30, if_pos (nI_le (by omega) (by omega)), hK]
    exact ⟨σ, rfl, fun c q h1 h2 h3 => hz c q h1 h2 (by omega), Ch.rf _⟩
  | succ j ih =>
    intro i σ hi hz
    have e : F_X12_beginRun_35 (j + 1 + 1 + g) = B_X12_beginRun_35 (F_X12_beginRun_35 (j + 1 + g)) := by rw [show j + 1 + 1 + g = (j + 1 + g) + 1 by omega]; rfl
    have q1 : inB (nI i) 30 = true := inB_n (by omega) (by omega)
    have n1 : (nI i).toNatClampNeg = i := nI_clamp (by omega)
    rw [e]; unfold B_X12_beginRun_35
    rw [fa_lit 30, if_neg (nI_ge (by omega) (by omega))]
    simp only [q1, n1, if_true, lt_e, nI_1]
    obtain ⟨τ, t1, t2, t3⟩ := ih (i + 1) (sI (sI (sI (sI σ 144 i 0) 145 i 0) 146 i 0) 147 i 0) (by omega) (fun c q h1 h2 h3 => by
      by_cases e : q = i
      · subst e
        rcases (show c = 144 ∨ c = 145 ∨ c = 146 ∨ c = 147 by omega) with rfl | rfl | rfl | rfl
        · rw [gI_sI_row (by decide), gI_sI_row (by decide), gI_sI_row (by decide), gI_sI_at]
        · rw [gI_sI_row (by decide), gI_sI_row (by decide), gI_sI_at]
        · rw [gI_sI_row (by decide), gI_sI_at]
        · rw [gI_sI_at]
      · rw [gI_sI_ne e, gI_sI_ne e, gI_sI_ne e, gI_sI_ne e]; exact hz c q h1 h2 (by omega))
    exact ⟨τ, t1, t2, ((((Ch.sI1 (Or.inr (by simp))).trans (Ch.sI1 (Or.inr (by simp)))).trans (Ch.sI1 (Or.inr (by simp)))).trans (Ch.sI1 (Or.inr (by simp)))).trans t3⟩
theorem begin_77 {g : Nat} : ∀ (j i : Nat) (σ : AH), i + j = 90 → (∀ c q, 148 ≤ c → c ≤ 149 → q < i → gI σ c q = -1) → ∃ τ, F_X12_beginRun_77 (j + 1 + g) (nI i) σ = some τ ∧ (∀ c q, 148 ≤ c → c ≤ 149 → q < 90 → gI τ c q = -1) ∧ Ch [148, 149] [] σ τ := by
  intro j
  induction j with
  | zero =>
    intro i σ hi hz
    have e : F_X12_beginRun_77 (0 + 1 + g) = B_X12_beginRun_77 (F_X12_beginRun_77 g) := by rw [show 0 + 1 + g = g + 1 by omega]; rfl
    rw [e]; unfold B_X12_beginRun_77
    rw [fa_lit 90, if_pos (nI_le (by omega) (by omega))]
    exact ⟨σ, rfl, fun c q h1 h2 h3 => hz c q h1 h2 (by omega), Ch.rf _⟩
  | succ j ih =>
    intro i σ hi hz
    have e : F_X12_beginRun_77 (j + 1 + 1 + g) = B_X12_beginRun_77 (F_X12_beginRun_77 (j + 1 + g)) := by rw [show j + 1 + 1 + g = (j + 1 + g) + 1 by omega]; rfl
    have q1 : inB (nI i) 90 = true := inB_n (by omega) (by omega)
    have n1 : (nI i).toNatClampNeg = i := nI_clamp (by omega)
    rw [e]; unfold B_X12_beginRun_77
    rw [fa_lit 90, if_neg (nI_ge (by omega) (by omega))]
    simp only [q1, n1, if_true, nI_1]
    obtain ⟨τ, t1, t2, t3⟩ := ih (i + 1) (sI (sI σ 148 i (-1)) 149 i (-1)) (by omega) (fun c q h1 h2 h3 => by
      by_cases e : q = i
      · subst e
        rcases (show c = 148 ∨ c = 149 by omega) with rfl | rfl
        · rw [gI_sI_row (by decide), gI_sI_at]
        · rw [gI_sI_at]
      · rw [gI_sI_ne e, gI_sI_ne e]; exact hz c q h1 h2 (by omega))
    exact ⟨τ, t1, t2, ((Ch.sI1 (Or.inr (by simp))).trans (Ch.sI1 (Or.inr (by simp)))).trans t3⟩
def BGc : List Nat := [134, 135, 136, 137, 140, 141, 142, 144, 145, 146, 147, 148, 149]
def BGf : List (Nat × Nat) := [(124, 24), (124, 29), (124, 30), (124, 31), (124, 32), (124, 45)]
theorem F_beginRun {row : Nat → Int32} {k lt_ : Int32} {σ : AH} (hV : AV row) (hB : BV row) (hK : KI row k σ) :
    ∃ τ, F_X12_beginRun lt_ σ = some τ ∧ KI row k τ ∧ ROx τ R0 ∧ gI τ 124 45 = lt_ ∧ (∀ q, q < 30 → gI τ 140 q = oI (sw row k q)) ∧ (∀ q, q < nP row → gI τ 141 q = b2 (lic row k (sw row k) q)) ∧ Ch BGc BGf σ τ := by
  unfold F_X12_beginRun
  have c0 : Ch [] [(124, 45)] σ (sI σ 124 45 lt_) := Ch.sI1 (Or.inl (by simp))
  have K0 : KI row k (sI σ 124 45 lt_) := hK.ch c0 (hK.2.2.1.ch c0 (by simp) (by simp) (by simp) (by simp)) (by simp) (by simp) (by simp) (by simp) (by simp)
  obtain ⟨τ1, a1, a2, a3⟩ := F_findStarts (k := k) hB K0.1 K0.2.1
  have K1 : KI row k τ1 := K0.ch a3 (K0.2.2.1.ch a3 (by simp) (by simp) (by simp) (by simp)) (by simp) (by simp) (by simp) (by simp) (by simp)
  rw [a1, bv_some]
  obtain ⟨τ2, b1, b2', b3, b4⟩ := F_license (s := sw row k) hV hB (fun p w h => sw_lt hB h) K1 a2
  rw [b1, bv_some]
  obtain ⟨g1, hg1⟩ := BIGe 5 (by decide)
  obtain ⟨g2, hg2⟩ := BIGe 30 (by decide)
  obtain ⟨g3, hg3⟩ := BIGe 90 (by decide)
  have L1 : F_X12_beginRun_15 BIG (0 : Int32) τ2 = F_X12_beginRun_35 BIG 0 (sA τ2 142 (filR (gI τ2 142) 5 0)) := by
    rw [hg1, show (0 : Int32) = nI 0 from rfl]
    refine (fill_gen (α := Option AH) (N := 5) (cell := 142) (v := 0) (G := fun f i s => F_X12_beginRun_15 f i s) (E := fun s => F_X12_beginRun_35 BIG 0 s) (fun f i s h => by
      show B_X12_beginRun_15 (F_X12_beginRun_15 f) (nI i) s = _
      unfold B_X12_beginRun_15
      rw [fa_lit 5, if_neg (nI_ge h (by omega)), if_pos (inB_n h (by omega)), nI_clamp (by omega), nI_1]) (fun f s => by
      show B_X12_beginRun_15 (F_X12_beginRun_15 f) (nI 5) s = _
      unfold B_X12_beginRun_15
      rw [fa_lit 5, if_pos (nI_le (Nat.le_refl _) (by omega))]) 5 0 τ2 rfl).trans ?_
    rw [hg1]; rfl
  have cA : Ch [142] [] τ2 (sA τ2 142 (filR (gI τ2 142) 5 0)) := Ch.sA1 (by simp)
  obtain ⟨τ3, d1, d2, d3⟩ := begin_35 (g := g2) (K := fun s => F_X12_beginRun_77 BIG 0 s) (fun s => rfl) 30 0 (sA τ2 142 (filR (gI τ2 142) 5 0)) rfl (fun c q _ _ h => absurd h (Nat.not_lt_zero q))
  obtain ⟨τ4, e1, e2, e3⟩ := begin_77 (g := g3) 90 0 τ3 rfl (fun c q _ _ h => absurd h (Nat.not_lt_zero q))
  have d1' : F_X12_beginRun_35 BIG 0 (sA τ2 142 (filR (gI τ2 142) 5 0)) = F_X12_beginRun_77 BIG 0 τ3 := by
    have := d1; rw [← hg2] at this; exact this
  have e1' : F_X12_beginRun_77 BIG 0 τ3 = some τ4 := by have := e1; rw [← hg3] at this; exact this
  have cc : Ch [142, 144, 145, 146, 147, 148, 149] [] τ2 τ4 := ((cA.mono (by simp) (by simp)).trans (d3.mono (by simp) (by simp))).trans (e3.mono (by simp) (by simp))
  refine ⟨τ4, by rw [L1, d1', e1'], ?_, ?_, ?_, fun q hq => ?_, fun q hq => ?_, ?_⟩
  · exact b3.ch cc (b3.2.2.1.ch cc (by simp) (by simp) (by simp) (by simp)) (by simp) (by simp) (by simp) (by simp) (by simp)
  · intro c h1 h2 i hi
    by_cases e : c = 143
    · subst e; rw [up_same]
    · rw [up_ne _ _ _ e]
      by_cases h8 : 148 ≤ c
      · rw [e2 c i h8 h2 (by
          have : lenR c = 90 := by unfold lenR; rw [if_neg (by omega), if_neg (by omega), if_neg (by omega)]
          omega)]
        unfold R0; rw [if_pos h8]
      · have z : R0 c i = 0 := by unfold R0; rw [if_neg h8]
        rw [z, e3.rI (by simp; omega) (by simp)]
        by_cases h4 : c = 142
        · subst h4
          rw [d3.rI (by simp) (by simp), gI_sA_own, filR_in (N := 5) hi]
        · exact d2 c i (by omega) (by omega) (by
            have : lenR c = 30 := by unfold lenR; rw [if_neg (by omega), if_neg (by omega), if_pos (by omega)]
            omega)
  · rw [cc.rI (by simp) (by simp), b4.pI (by simp [LCc]) (by simp [NDf]), a3.rI (by simp) (by simp), gI_sI_at]
  · rw [cc.rI (by simp) (by simp), b4.rI (by simp [LCc]) (by simp [NDf])]; exact a2 q hq
  · rw [cc.rI (by simp) (by simp)]; exact b2' q hq
  · exact (((c0.mono (by simp) (by simp [BGf])).trans (a3.mono (by simp [BGc]) (by simp))).trans (b4.mono (by simp [LCc, BGc]) (by simp [NDf, BGf]))).trans (cc.mono (by simp [BGc]) (by simp))
/-! WEEK by WEEK -/
def rnS (row : Nat → Int32) (k lt_ : Int32) (s : Nat → Option Nat) (lc : Nat → Bool) (a : Nat) (R : Nat → Nat → Int32) : Nat → Nat → Nat → Int32 := fun j => match j with
  | 0 => R
  | j + 1 => gwR row k lt_ s lc (a + j) (rnS row k lt_ s lc a R j)
theorem goTo_loop {row : Nat → Int32} {k lt_ : Int32} {s : Nat → Option Nat} {lc : Nat → Bool} {a n g : Nat} {R : Nat → Nat → Int32} (hV : AV row) (hB : BV row) (hs : ∀ p w, s p = some w → w < 260) (hn : a + n ≤ 260) : ∀ (j i : Nat) (σ : AH), i + j = n → KI row k σ → RV_ (rnS row k lt_ s lc a R i) → ROx σ (rnS row k lt_ s lc a R i) → gI σ 124 45 = lt_ → (∀ q, q < 30 → gI σ 140 q = oI (s q)) → (∀ q, q < nP row → gI σ 141 q = b2 (lc q)) →
    ∃ τ, F_X12_goTo_2 (j + 1 + g) (nI (a + n) + (-1)) (nI (a + i)) σ = some τ ∧ KI row k τ ∧ RV_ (rnS row k lt_ s lc a R n) ∧ ROx τ (rnS row k lt_ s lc a R n) ∧ Ch GWc NDf σ τ := by
  intro j
  induction j with
  | zero =>
    intro i σ hi hK hR hO hl ha hc
    have e : F_X12_goTo_2 (0 + 1 + g) = B_X12_goTo_2 (F_X12_goTo_2 g) := by rw [show 0 + 1 + g = g + 1 by omega]; rfl
    have : i = n := by omega
    subst this
    rw [e]; unfold B_X12_goTo_2
    rw [if_pos]
    · exact ⟨σ, rfl, hK, hR, hO, Ch.rf _⟩
    · rw [Int32.lt_iff_toInt_lt, ← m1_eq]
      by_cases z : a + i = 0
      · rw [z]; decide
      · obtain ⟨m, hm⟩ : ∃ m, a + i = m + 1 := ⟨a + i - 1, by omega⟩
        rw [hm, nI_pred, nI_toInt (by omega), nI_toInt (by omega)]; omega
  | succ j ih =>
    intro i σ hi hK hR hO hl ha hc
    have e : F_X12_goTo_2 (j + 1 + 1 + g) = B_X12_goTo_2 (F_X12_goTo_2 (j + 1 + g)) := by rw [show j + 1 + 1 + g = (j + 1 + g) + 1 by omega]; rfl
    rw [e]; unfold B_X12_goTo_2
    have em : nI (a + n) + (-1) = nI (a + n - 1) := nI_m1 (by omega)
    rw [em, if_neg (nI_nlt (by omega) (by omega)), ← em]
    have hR' : RV_ (va_up (rnS row k lt_ s lc a R i) 143 (gI σ 143)) := fun q hq => by rw [up_ne _ _ _ (by decide), up_ne _ _ _ (by decide)]; exact hR q hq
    obtain ⟨τ, t1, t2, t3, t4, t5⟩ := F_goWeek (w := a + i) hV hB hs (by omega) hK hR' hO hl ha hc
    rw [gwR_143] at t2 t3
    rw [t1, bv_some, nI_1, show a + i + 1 = a + (i + 1) by omega]
    obtain ⟨τ2, u1, u2, u3, u4, u5⟩ := ih (i + 1) τ (by omega) t4 t3 t2.x (by rw [t5.pI (by simp [GWc]) (by simp [NDf])]; exact hl) (fun q hq => by rw [t5.rI (by simp [GWc]) (by simp [NDf])]; exact ha q hq) (fun q hq => by rw [t5.rI (by simp [GWc]) (by simp [NDf])]; exact hc q hq)
    exact ⟨τ2, u1, u2, u3, u4, t5.trans u5⟩
/-- from WEEK a on, n WEEKS -/
theorem F_goTo {row : Nat → Int32} {k lt_ : Int32} {s : Nat → Option Nat} {lc : Nat → Bool} {a n : Nat} {R : Nat → Nat → Int32} {σ : AH} (hV : AV row) (hB : BV row) (hs : ∀ p w, s p = some w → w < 260) (hn : a + n ≤ 260) (hK : KI row k σ) (hR : RV_ R) (hO : ROx σ R) (hl : gI σ 124 45 = lt_) (ha : ∀ q, q < 30 → gI σ 140 q = oI (s q)) (hc : ∀ q, q < nP row → gI σ 141 q = b2 (lc q)) :
    ∃ τ, F_X12_goTo (nI a) (nI (a + n) + (-1)) σ = some τ ∧ KI row k τ ∧ RV_ (rnS row k lt_ s lc a R n) ∧ ROx τ (rnS row k lt_ s lc a R n) ∧ Ch GWc NDf σ τ := by
  unfold F_X12_goTo
  obtain ⟨g, hg⟩ := BIGe n (by omega)
  rw [hg]
  exact goTo_loop hV hB hs hn n 0 σ (by omega) hK hR hO hl ha hc
/-- the RUN as known in k, LATE by lt_, at the end of its first n WEEKS -/
def runR (row : Nat → Int32) (k lt_ : Int32) (n : Nat) : Nat → Nat → Int32 := rnS row k lt_ (sw row k) (lic row k (sw row k)) 0 R0 n
def RNc : List Nat := [134, 135, 136, 137, 138, 139, 140, 141, 142, 143, 144, 145, 146, 147, 148, 149, 150]
def RNf : List (Nat × Nat) := [(124, 23), (124, 24), (124, 29), (124, 30), (124, 31), (124, 32), (124, 45)]
/-- beginRun and goTo from what is known -/
theorem F_runs {row : Nat → Int32} {k lt_ : Int32} {n : Nat} {σ : AH} (hV : AV row) (hB : BV row) (hn : n ≤ 260) (hK : KI row k σ) :
    ∃ τ1 τ, F_X12_beginRun lt_ σ = some τ1 ∧ F_X12_goTo 0 (nI n + (-1)) τ1 = some τ ∧ KI row k τ ∧ RV_ (runR row k lt_ n) ∧ ROx τ (runR row k lt_ n) ∧ (∀ q, q < 30 → gI τ 140 q = oI (sw row k q)) ∧ (∀ q, q < nP row → gI τ 141 q = b2 (lic row k (sw row k) q)) ∧ gI τ 124 45 = lt_ ∧ Ch RNc RNf σ τ := by
  obtain ⟨τ1, a1, a2, a3, a4, a5, a6, a7⟩ := F_beginRun (lt_ := lt_) hV hB hK
  obtain ⟨τ2, b1, b2', b3, b4, b5⟩ := F_goTo (a := 0) (n := n) hV hB (fun p w h => sw_lt hB h) (by omega) a2 RV_R0 a3 a4 a5 a6
  rw [Nat.zero_add] at b1
  refine ⟨τ1, τ2, a1, b1, b2', b3, b4, fun q hq => ?_, fun q hq => ?_, ?_, ?_⟩
  · rw [b5.rI (by simp [GWc]) (by simp [NDf])]; exact a5 q hq
  · rw [b5.rI (by simp [GWc]) (by simp [NDf])]; exact a6 q hq
  · rw [b5.pI (by simp [GWc]) (by simp [NDf])]; exact a4
  · exact (a7.mono (by simp [BGc, RNc]) (by simp [BGf, RNf])).trans (b5.mono (by simp [GWc, RNc]) (by simp [NDf, RNf]))
end
