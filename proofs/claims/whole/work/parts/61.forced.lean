section
/-! bits -/
theorem fa_or (a b : Nat) : nI a ||| nI b = nI (a ||| b) := by
  apply Int32.toBitVec_inj.1
  show BitVec.ofNat 32 a ||| BitVec.ofNat 32 b = BitVec.ofNat 32 (a ||| b)
  apply BitVec.eq_of_getLsbD_eq
  intro i hi
  simp [hi]
theorem sh1 {a : Nat} (h : a < 32) : (1 : Int32) <<< (nI a &&& 31) = nI (2 ^ a) := by
  have : ∀ j : Fin 32, (1 : Int32) <<< (nI j.val &&& 31) = nI (2 ^ j.val) := by decide +kernel
  exact this ⟨a, h⟩
theorem smod_l {n : Nat} (h : n < 32) : ((nI n &&& 31).toBitVec.smod 32).toNat = n := by
  have : ∀ j : Fin 32, ((nI j.val &&& 31).toBitVec.smod 32).toNat = j.val := by decide +kernel
  exact this ⟨n, h⟩
theorem shr_bit {m c : Nat} (hm : m < 2 ^ 31) (hc : c < 32) : ((nI m >>> (nI c &&& 31)) &&& 1 = 0) ↔ m.testBit c = false := by
  rw [pk_shrN hm _ c (smod_l hc), pk_andN (Nat.lt_of_le_of_lt (Nat.div_le_self _ _) (by omega)) 1 (by decide)]
  have h2 : m / 2 ^ c % 2 ^ 1 < 2 := by omega
  have e : m.testBit c = decide (m / 2 ^ c % 2 = 1) := Nat.testBit_eq_decide_div_mod_eq
  rw [e, show (0 : Int32) = nI 0 from rfl, nI_eq (by omega) (by omega)]
  rw [decide_eq_false_iff_not]
  omega
def clr (m y : Nat) : Nat := m &&& (65535 ^^^ 2 ^ y)
theorem clr_lt {m y : Nat} (h : m < 65536) : clr m y < 65536 := Nat.lt_of_le_of_lt Nat.and_le_left h
theorem t65535 {i : Nat} (h : i < 16) : (65535 : Nat).testBit i = true := by
  have : ∀ j : Fin 16, (65535 : Nat).testBit j.val = true := by decide +kernel
  exact this ⟨i, h⟩
theorem clr_bit {m y i : Nat} (hi : i < 16) : (clr m y).testBit i = (m.testBit i && !decide (y = i)) := by
  unfold clr
  rw [Nat.testBit_and, Nat.testBit_xor, t65535 hi, Nat.testBit_two_pow]
  simp
theorem and_clr {m y : Nat} (hm : m < 65536) (hy : y < 16) : nI m &&& (((1 : Int32) <<< (nI y &&& 31)) ^^^ (-1)) = nI (clr m y) := by
  rw [sh1 (by omega)]
  apply Int32.toBitVec_inj.1
  show BitVec.ofNat 32 m &&& (BitVec.ofNat 32 (2 ^ y) ^^^ (-1 : Int32).toBitVec) = BitVec.ofNat 32 (clr m y)
  apply BitVec.eq_of_getLsbD_eq
  intro i hi
  have e1 : (-1 : Int32).toBitVec.getLsbD i = true := by
    have : ∀ j : Fin 32, (-1 : Int32).toBitVec.getLsbD j.val = true := by decide +kernel
    exact this ⟨i, hi⟩
  rw [BitVec.getLsbD_and, BitVec.getLsbD_xor, e1, BitVec.getLsbD_ofNat, BitVec.getLsbD_ofNat, BitVec.getLsbD_ofNat]
  simp only [hi, decide_true, Bool.true_and]
  by_cases h16 : i < 16
  · rw [clr_bit h16, Nat.testBit_two_pow]
    simp
  · have z : m.testBit i = false := Nat.testBit_lt_two_pow (Nat.lt_of_lt_of_le hm (by
      have : (2 : Nat) ^ 16 ≤ 2 ^ i := Nat.pow_le_pow_right (by decide) (by omega)
      exact this))
    have z2 : (clr m y).testBit i = false := by unfold clr; rw [Nat.testBit_and, z]; rfl
    rw [z, z2]; rfl
/-! THE CLASS: an ACT of its own beside the reference's -/
def hdN (row : Nat → Int32) (a c : Nat) : Nat :=
  if cl (row (cA a c)) = 0 then 62 else if cl (row (cA a c)) = 1 then (cl (row (cA a c + 1)) * 3 + cl (row (cA a c + 2))) * 5 + cl (row (cA a c + 3))
  else if cl (row (cA a c)) = 2 then 45 + (cl (row (cA a c + 1)) * 3 + cl (row (cA a c + 2))) else if cl (row (cA a c)) = 3 then 54 else if cl (row (cA a c)) = 4 then 55 + cl (row (cA a c + 1))
  else if cl (row (cA a c)) = 5 then 58 else if cl (row (cA a c)) = 6 then 59 else if cl (row (cA a c)) = 7 then 60 else 61
def cvv (row st : Nat → Int32) (a c : Nat) : Option Int64 := if row (cA a c) = 8 then (hv row st a c).map (fun _ => (row (cA a c + 1)).toInt64) else hv row st a c
def st8 (st : Nat → Int32) : Nat → Int32 := fun i => if i = 0 then 0 else st (i - 1)
def stN (row : Nat → Int32) (a c : Nat) : Nat := 16 * cl (row (cA a c + 1)) + cl (row (cA a c + 2))
def arrC (σ : AH) (b k : Nat) (n : Nat) (h : Nat) : Prop := gR σ b k = some h ∧ kd σ h = (100, n) ∧ h < nx σ ∧ 166 ≤ h
def ActC (row : Nat → Int32) (σ : AH) (a b : Nat) : Prop :=
  (kd σ b = (0, NO 0) ∧ b < nx σ ∧ 166 ≤ b) ∧ (gI σ b 0 = row (20 + 947 * a) ∧ gI σ b 1 = row (20 + 947 * a + 1) ∧ gI σ b 2 = nI (clN row a)) ∧
  ∃ h s g d L, arrC σ b 3 (clN row a) h ∧ arrC σ b 4 (clN row a) s ∧ arrC σ b 5 (clN row a) g ∧ arrC σ b 6 L d ∧ L ≤ 400 ∧
  ∀ c, c < clN row a → gI σ h c = nI (hdN row a c) ∧ (row (cA a c) = 0 → gI σ s c = nI (stN row a c)) ∧ isN (gI σ s c) 384 ∧
    ∃ i, i ≤ 400 ∧ gI σ g c = nI i ∧ (row (cA a c) ≠ 0 → ∀ st, crun (gI σ d) st L 402 i [] = some (cvv row (st8 st) a c))
def ActsC (row : Nat → Int32) (σ : AH) : Prop := gI σ 1 1 = nI (nA row) ∧ ∀ a, a < nA row → ∃ b, gR σ 2 a = some b ∧ ActC row σ a b
theorem ActC.ch {row : Nat → Int32} {σ τ : AH} {a b : Nat} {cs : List Nat} {fs : List (Nat × Nat)} (h : ActC row σ a b) (c : Ch cs fs σ τ) (h1 : ∀ i ∈ cs, i < 166) (h2 : ∀ q ∈ fs, q.1 < 166) : ActC row τ a b := by
  obtain ⟨⟨x1, x2, x3⟩, ⟨y1, y2, y3⟩, h', s, g, d, L, a1, a2, a3, a4, a5, a6⟩ := h
  have ar : ∀ {b k n h}, arrC σ b k n h → arrC τ b k n h := fun {b k n h} q => ⟨by rw [c.2.2.2.1]; exact q.1, by rw [c.1]; exact q.2.1, by rw [c.2.1]; exact q.2.2.1, q.2.2.2⟩
  have rw_ : ∀ i, 166 ≤ i → gI τ i = gI σ i := fun i hi => c.rI (fun q => by have := h1 i q; omega) (fun q hq => by have := h2 q hq; omega)
  refine ⟨⟨by rw [c.1]; exact x1, by rw [c.2.1]; exact x2, x3⟩, ⟨by rw [rw_ b x3]; exact y1, by rw [rw_ b x3]; exact y2, by rw [rw_ b x3]; exact y3⟩, h', s, g, d, L, ar a1, ar a2, ar a3, ar a4, a5, ?_⟩
  rw [rw_ h' a1.2.2.2, rw_ s a2.2.2.2, rw_ g a3.2.2.2, rw_ d a4.2.2.2]
  exact a6
theorem ActsC.ch {row : Nat → Int32} {σ τ : AH} {cs : List Nat} {fs : List (Nat × Nat)} (h : ActsC row σ) (c : Ch cs fs σ τ) (h1 : ∀ i ∈ cs, i < 166 ∧ i ≠ 1) (h2 : ∀ q ∈ fs, q.1 < 166 ∧ q ≠ (1, 1)) : ActsC row τ := by
  refine ⟨?_, fun a ha => ?_⟩
  · rw [c.pI (fun q => (h1 1 q).2 rfl) (fun q => (h2 _ q).2 rfl)]; exact h.1
  · obtain ⟨b, e, hb⟩ := h.2 a ha
    exact ⟨b, by rw [c.2.2.2.1]; exact e, hb.ch c (fun i hi => (h1 i hi).1) (fun q hq => (h2 q hq).1)⟩
/-- a CLAUSE's numbers as they can be -/
def ClW (row : Nat → Int32) (a c : Nat) : Prop := (row (cA a c) ≠ 0 → isN (row (cA a c + 1)) 3 ∧ isN (row (cA a c + 2)) 3 ∧ isN (row (cA a c + 3)) 5) ∧
  ((cl (row (cA a c)) = 3 ∨ 5 ≤ cl (row (cA a c)) ∧ cl (row (cA a c)) ≤ 7) → row (cA a c + 1) = 0) ∧ (3 ≤ cl (row (cA a c)) → row (cA a c + 2) = 0) ∧ (2 ≤ cl (row (cA a c)) → row (cA a c + 3) = 0) ∧
  ∀ q, cl (row (cA a c + 4)) ≤ q → q < cl (row (cA a c + 5)) → opA row a q < 17
def AW (row : Nat → Int32) : Prop := ∀ a, a < nA row → ∀ c, c < clN row a → ClW row a c
theorem hdN_lt {row : Nat → Int32} {a c : Nat} (h : ClW row a c) (h8 : cl (row (cA a c)) ≤ 8) (h0 : row (cA a c) ≠ 0) (hc : cl (row (cA a c)) ≠ 0) : hdN row a c < 62 := by
  obtain ⟨h1, _⟩ := h
  obtain ⟨a1, a2, a3⟩ := h1 h0
  have b1 := a1.2
  have b2' := a2.2
  have b3 := a3.2
  unfold hdN
  rw [if_neg hc]
  split
  · omega
  · split
    · omega
    · split
      · omega
      · split
        · omega
        · split
          · omega
          · split
            · omega
            · split
              · omega
              · omega
/-- forced is that of a WEEK -/
def fbit (row : Nat → Int32) (k w : Int32) (a c : Nat) : Bool := onB row k w a && !stk row k w (16 * a + c)
def FdOK (row : Nat → Int32) (k w : Int32) (g : Nat → Int32) : Prop := ∀ a, a < nA row → ∃ m, m < 65536 ∧ g a = nI m ∧ ∀ c, c < 16 → m.testBit c = fbit row k w a c
theorem F_isForced {row : Nat → Int32} {k w : Int32} {a c : Nat} {σ : AH} (hV : AV row) (ha : a < nA row) (hc : c < 16) (h : FdOK row k w (gI σ 31)) : F_X3_isForced (nI a) (nI c) σ = some (b2 (fbit row k w a c), σ) := by
  have hn := hV.2.1
  obtain ⟨m, m1, m2, m3⟩ := h a ha
  unfold F_X3_isForced
  rw [if_pos (inB_n (by omega) (by omega)), nI_clamp (by omega), m2]
  have := shr_bit (m := m) (c := c) (by omega) (by omega)
  rw [m3 c hc] at this
  cases hf : fbit row k w a c with
  | false => rw [hf] at this; rw [if_pos (this.mpr rfl)]; rfl
  | true => rw [hf] at this; rw [if_neg (fun q => by have := this.mp q; cases this)]; rfl
/-- while forced is being found: bits of what isn't struck so far -/
def FdS (s : Nat → Bool) (g : Nat → Int32) (n : Nat) : Prop := ∀ a, a < n → ∃ m, m < 65536 ∧ g a = nI m ∧ ∀ c, c < 16 → m.testBit c = !s (16 * a + c)
theorem forcedC_in {row : Nat → Int32} {a b : Nat} {x1 : Int32} {K : Int32 → Int32 → AH → Option AH} {g : Nat} {s0 : Nat → Bool} (hV : AV row) (hW : AW row) (ha : a < nA row) : ∀ (j c : Nat) (σ : AH), c + j = clN row a → ActC row σ a b → FdS (stkC row a s0 c) (gI σ 31) (a + 1) →
    ∃ τ, F_X3_findForced_58 K (j + 1 + g) x1 (nI a) b (nI c) σ = K x1 (nI a + (-1)) τ ∧ FdS (stkC row a s0 (clN row a)) (gI τ 31) (a + 1) ∧ Ch [31] [] σ τ ∧ (∀ q, a < q → gI τ 31 q = gI σ 31 q) := by
  have hn := hV.2.1
  obtain ⟨hc1, hc16, hC⟩ := hV.2.2 a ha
  intro j
  induction j with
  | zero =>
    intro c σ hc hA hF
    have e : F_X3_findForced_58 K (0 + 1 + g) = B_X3_findForced_58 K (F_X3_findForced_58 K g) := by rw [show 0 + 1 + g = g + 1 by omega]; rfl
    have : c = clN row a := by omega
    subst this
    obtain ⟨⟨k1, k2, k3⟩, ⟨_, _, k4⟩, _⟩ := hA
    rw [e]; unfold B_X3_findForced_58 F_X3_findForced_137
    rw [if_pos k1, if_pos k2, k4, if_pos (nI_le (Nat.le_refl _) (by omega))]
    exact ⟨σ, rfl, hF, Ch.rf _, fun _ _ => rfl⟩
  | succ j ih =>
    intro c σ hc hA hF
    have hcl : c < clN row a := by omega
    have e : F_X3_findForced_58 K (j + 1 + 1 + g) = B_X3_findForced_58 K (F_X3_findForced_58 K (j + 1 + g)) := by rw [show j + 1 + 1 + g = (j + 1 + g) + 1 by omega]; rfl
    have hA0 := hA
    obtain ⟨⟨k1, k2, k3⟩, ⟨_, _, k4⟩, h, s, g', d, L, a1, a2, a3, a4, a5, a6⟩ := hA
    obtain ⟨r1, r2, r3, _⟩ := a6 c hcl
    have gs : (kd σ s).1 = 100 ∧ s < nx σ := ⟨by rw [a2.2.1], a2.2.2.1⟩
    have gh : (kd σ h).1 = 100 ∧ h < nx σ := ⟨by rw [a1.2.1], a1.2.2.1⟩
    have ls : (kd σ s).2 = clN row a := by rw [a2.2.1]
    have lh : (kd σ h).2 = clN row a := by rw [a1.2.1]
    have qc : inB (nI c) (clN row a) = true := inB_n hcl (by omega)
    have nc : (nI c).toNatClampNeg = c := nI_clamp (by omega)
    rw [e]; unfold B_X3_findForced_58 F_X3_findForced_131
    rw [if_pos k1, if_pos k2, k4, if_neg (nI_ge hcl (by omega)), a2.1, bo_some, if_pos gs, ls, if_pos qc, a1.1, bo_some, if_pos gh, lh, if_pos qc, nc, r1, nI_1]
    have step : stkC row a s0 (c + 1) = if row (cA a c) = 0 ∧ stkC row a s0 c (16 * a + c) = false ∧ ¬ nI a ≤ row (cA a c + 1) then va_up (stkC row a s0 c) (16 * (row (cA a c + 1)).toNatClampNeg + (row (cA a c + 2)).toNatClampNeg) true else stkC row a s0 c := rfl
    obtain ⟨⟨hh, bh, ehh⟩, ⟨x, hx, ex⟩, ⟨y, hy, ey⟩, _⟩ := hC c hcl
    have hcl0 : cl (row (cA a c)) = hh := by rw [ehh]; exact nI_clamp (by omega)
    have same : stkC row a s0 (c + 1) = stkC row a s0 c → ∃ τ, (if kd σ b = (0, NO 0) then if b < nx σ then F_X3_findForced_58 K (j + 1 + g) x1 (nI a) b (nI (c + 1)) σ else none else none) = K x1 (nI a + (-1)) τ ∧ FdS (stkC row a s0 (clN row a)) (gI τ 31) (a + 1) ∧ Ch [31] [] σ τ ∧ (∀ q, a < q → gI τ 31 q = gI σ 31 q) := by
      intro hs
      rw [if_pos k1, if_pos k2]
      exact ih (c + 1) σ (by omega) hA0 (by rw [hs]; exact hF)
    by_cases c0 : row (cA a c) = 0
    · have e62 : hdN row a c = 62 := by
        unfold hdN
        have : cl (row (cA a c)) = 0 := by rw [c0]; rfl
        rw [if_pos this]
      rw [e62, if_pos (show nI 62 = (62 : Int32) from rfl)]
      -- isForced
      obtain ⟨m, m1, m2, m3⟩ := hF a (by omega)
      have F1 : F_X3_isForced (nI a) (nI c) σ = some (b2 (!stkC row a s0 c (16 * a + c)), σ) := by
        unfold F_X3_isForced
        rw [if_pos (inB_n (by omega) (by omega)), nI_clamp (by omega), m2]
        have := shr_bit (m := m) (c := c) (by omega) (by omega)
        rw [m3 c (by omega)] at this
        cases hf : stkC row a s0 c (16 * a + c) with
        | true => rw [hf] at this; rw [if_pos (this.mpr rfl)]; rfl
        | false => rw [hf] at this; rw [if_neg (fun q => by have := this.mp q; cases this)]; rfl
      rw [F1, bd_some]
      cases hs : stkC row a s0 c (16 * a + c) with
      | true =>
        rw [if_pos (by decide)]
        exact same (by rw [step, if_neg (fun q => by rw [hs] at q; cases q.2.1)])
      | false =>
        rw [if_neg (by decide)]
        have r2' := r2 c0
        have sn : stN row a c = 16 * x + y := by unfold stN; rw [ex, ey]; unfold cl; rw [nI_clamp (by omega), nI_clamp (by omega)]
        rw [sn] at r2'
        have dv1 : nI (16 * x + y) / (16 : Int32) = nI x := by
          have := pk_div (a := 16 * x + y) (d := 16) (by omega) (by decide) (by decide)
          rw [show (16 : Int32) = nI 16 from rfl, this]; congr 1; omega
        rw [r2', dv1]
        by_cases cx : a ≤ x
        · rw [if_pos (nI_le cx (by omega))]
          exact same (by rw [step, if_neg (fun q => q.2.2 (by rw [ex]; exact nI_le cx (by omega)))])
        · have qx : inB (nI x) 24 = true := inB_n (by omega) (by omega)
          rw [if_neg (nI_ge (by omega) (by omega)), if_pos qx, a2.1, bo_some, if_pos gs, ls, if_pos qc, if_pos qx, lt_e, r2', nI_clamp (by omega)]
          have rm : nI (16 * x + y) - nI (16 * x + y) / (16 : Int32) * (16 : Int32) = nI y := by
            have := pk_rem (a := 16 * x + y) (d := 16) (by omega) (by decide) (by decide)
            rw [show (16 : Int32) = nI 16 from rfl, this]; congr 1; omega
          obtain ⟨m', m1', m2', m3'⟩ := hF x (by omega)
          rw [rm, m2', and_clr m1' (by omega)]
          have kS : Ch [31] [] σ (sI σ 31 x (nI (clr m' y))) := Ch.sI1 (Or.inr (by simp))
          have hs1 : stkC row a s0 (c + 1) = va_up (stkC row a s0 c) (16 * x + y) true := by
            rw [step, if_pos ⟨c0, hs, by rw [ex]; exact nI_ge (by omega) (by omega)⟩, ex, ey, nI_clamp (by omega), nI_clamp (by omega)]
          rw [if_pos (by rw [kd_sI]; exact k1), if_pos (by rw [nx_sI]; exact k2)]
          obtain ⟨τ, t1, t2, t3, t4⟩ := ih (c + 1) (sI σ 31 x (nI (clr m' y))) (by omega) (hA0.ch kS (by simp) (by simp)) (by
            rw [hs1, gI_sI_own]
            intro q hq
            by_cases e : q = x
            · subst e
              refine ⟨clr m' y, clr_lt m1', up_same _ _ _, fun c' hc' => ?_⟩
              rw [clr_bit hc', m3' c' hc']
              by_cases e2 : y = c'
              · subst e2; rw [up_same]; simp
              · rw [up_ne _ _ _ (by omega)]; simp [e2]
            · obtain ⟨m'', n1, n2, n3⟩ := hF q hq
              refine ⟨m'', n1, by rw [up_ne _ _ _ e]; exact n2, fun c' hc' => ?_⟩
              rw [n3 c' hc', up_ne _ _ _ (by omega)])
          exact ⟨τ, t1, t2, kS.trans t3, fun q hq => by rw [t4 q hq, gI_sI_ne (by omega)]⟩
    · have e62 : ¬ nI (hdN row a c) = (62 : Int32) := by
        intro q
        have hne : hh ≠ 0 := fun z => c0 (by rw [ehh, z]; rfl)
        have hl := hdN_lt (hW a ha c hcl) (by omega) c0 (by omega)
        have := (nI_eq (a := hdN row a c) (b := 62) (by omega) (by omega)).mp q
        omega
      rw [if_neg e62]
      exact same (by rw [step, if_neg (fun q => c0 q.1)])
theorem stkC_hi {row : Nat → Int32} {a : Nat} (hV : AV row) (ha : a < nA row) {s : Nat → Bool} {i : Nat} (hi : 16 * a ≤ i) : ∀ c, c ≤ clN row a → stkC row a s c i = s i := by
  have hn := hV.2.1
  obtain ⟨hc1, hc16, hC⟩ := hV.2.2 a ha
  intro c
  induction c with
  | zero => intro _; rfl
  | succ c ih =>
    intro hc
    obtain ⟨_, ⟨x, hx, ex⟩, ⟨y, hy, ey⟩, _⟩ := hC c (by omega)
    unfold stkC
    split
    · rename_i q
      have hxa : x < a := by
        rcases Nat.lt_or_ge x a with z | z
        · exact z
        · exact absurd (by rw [ex]; exact nI_le z (by omega)) q.2.2
      rw [ex, ey, nI_clamp (by omega), nI_clamp (by omega), up_ne _ _ _ (by omega)]
      exact ih (by omega)
    · exact ih (by omega)
theorem stkM_hi {row : Nat → Int32} {k w : Int32} (hV : AV row) {i : Nat} : ∀ m s, m ≤ nA row → 16 * m ≤ i → stkM row k w m s i = s i := by
  intro m
  induction m with
  | zero => intro s _ _; rfl
  | succ m ih =>
    intro s hm hi
    unfold stkM
    rw [ih _ (by omega) (by omega)]
    split
    · exact stkC_hi hV (by omega) (by omega) _ (Nat.le_refl _)
    · rfl
theorem forcedC_out {row : Nat → Int32} {k w : Int32} {M g : Nat} (hV : AV row) (hW : AW row) (hM : M < 2 ^ 24) (hb : ∀ a, a < nA row → M.testBit a = onB row k w a) : ∀ (m : Nat) (s : Nat → Bool) (σ : AH), m ≤ nA row → ActsC row σ → stkM row k w m s = stk row k w → FdS s (gI σ 31) m → (∀ a, m ≤ a → a < nA row → ∃ m', m' < 65536 ∧ gI σ 31 a = nI m' ∧ ∀ c, c < 16 → m'.testBit c = fbit row k w a c) →
    ∃ τ, F_X3_findForced_19 (m + 1 + g) (nI M) (nI m + (-1)) σ = some τ ∧ FdOK row k w (gI τ 31) ∧ Ch [31] [] σ τ := by
  have hn := hV.2.1
  intro m
  induction m with
  | zero =>
    intro s σ _ hA hf hS hP
    have e : F_X3_findForced_19 (0 + 1 + g) = B_X3_findForced_19 (F_X3_findForced_19 g) := by rw [show 0 + 1 + g = g + 1 by omega]; rfl
    rw [e]; unfold B_X3_findForced_19
    rw [if_pos (by decide)]
    exact ⟨σ, rfl, fun a ha => hP a (Nat.zero_le _) ha, Ch.rf _⟩
  | succ m ih =>
    intro s σ hm hA hf hS hP
    have e : F_X3_findForced_19 (m + 1 + 1 + g) = B_X3_findForced_19 (F_X3_findForced_19 (m + 1 + g)) := by rw [show m + 1 + 1 + g = (m + 1 + g) + 1 by omega]; rfl
    have ha : m < nA row := by omega
    obtain ⟨b, eb, hAb⟩ := hA.2 m ha
    have hAb0 := hAb
    obtain ⟨⟨k1, k2, k3⟩, _⟩ := hAb
    have q1 : inB (nI m) 24 = true := inB_n (by omega) (by omega)
    have n1 : (nI m).toNatClampNeg = m := nI_clamp (by omega)
    rw [e, pk_m1]; unfold B_X3_findForced_19 F_X3_findForced_45 F_X3_findForced_137
    rw [if_neg (nI_pos (by omega)), if_pos q1, n1, eb, on_some, if_pos ⟨k1, k2⟩, if_pos q1]
    have bit := shr_bit (m := M) (c := m) (by omega) (by omega)
    rw [hb m ha] at bit
    have sM : stkM row k w (m + 1) s = stkM row k w m (if onB row k w m = true then stkC row m s (clN row m) else s) := rfl
    rw [sM] at hf
    have fin16 : ∀ c, c < 16 → stk row k w (16 * m + c) = s (16 * m + c) := fun c hc => by
      rw [← hf, stkM_hi hV m _ (by omega) (by omega)]
      split
      · exact stkC_hi hV ha (by omega) _ (Nat.le_refl _)
      · rfl
    cases ho : onB row k w m with
    | false =>
      rw [ho] at bit
      rw [if_pos (bit.mpr rfl)]
      rw [ho] at hf
      have kS : Ch [31] [] σ (sI σ 31 m 0) := Ch.sI1 (Or.inr (by simp))
      obtain ⟨τ, t1, t2, t3⟩ := ih s (sI σ 31 m 0) (by omega) (hA.ch kS (by simp) (by simp)) hf (fun a h => by
        obtain ⟨m', x1, x2, x3⟩ := hS a (by omega)
        exact ⟨m', x1, by rw [gI_sI_ne (by omega)]; exact x2, x3⟩) (fun a h1 h2 => by
        by_cases e : a = m
        · subst e
          refine ⟨0, by omega, by rw [gI_sI_at]; rfl, fun c hc => ?_⟩
          unfold fbit; rw [ho]; simp
        · rw [gI_sI_ne e]; exact hP a (by omega) h2)
      exact ⟨τ, t1, t2, kS.trans t3⟩
    | true =>
      rw [ho] at bit
      rw [if_neg (fun q => by have := bit.mp q; cases this)]
      rw [ho] at hf
      have hc16 := (hV.2.2 m ha).2.1
      obtain ⟨g2, hg2⟩ := BIGe (clN row m) (by omega)
      obtain ⟨τ, t1, t2, t3, t4⟩ := forcedC_in (x1 := nI M) (K := F_X3_findForced_19 (m + 1 + g)) (g := g2) (s0 := s) hV hW ha (clN row m) 0 σ (by omega) hAb0 hS
      have t1' : F_X3_findForced_58 (F_X3_findForced_19 (m + 1 + g)) BIG (nI M) (nI m) b 0 σ = F_X3_findForced_19 (m + 1 + g) (nI M) (nI m + (-1)) τ := by rw [hg2]; exact t1
      rw [t1']
      obtain ⟨τ2, u1, u2, u3⟩ := ih (stkC row m s (clN row m)) τ (by omega) (hA.ch t3 (by simp) (by simp)) hf (fun a h => t2 a (by omega)) (fun a h1 h2 => by
        by_cases e : a = m
        · subst e
          obtain ⟨m', x1, x2, x3⟩ := t2 a (by omega)
          refine ⟨m', x1, x2, fun c hc => ?_⟩
          rw [x3 c hc, stkC_hi hV ha (by omega) _ (Nat.le_refl _)]
          unfold fbit; rw [ho, fin16 c hc]; rfl
        · rw [t4 a (by omega)]; exact hP a (by omega) h2)
      exact ⟨τ2, u1, u2, t3.trans u3⟩
theorem F_findForced {row : Nat → Int32} {k w : Int32} {M : Nat} {σ : AH} (hV : AV row) (hW : AW row) (hM : M < 2 ^ 24) (hb : ∀ a, a < nA row → M.testBit a = onB row k w a) (hA : ActsC row σ) : ∃ τ, F_X3_findForced (nI M) σ = some τ ∧ FdOK row k w (gI τ 31) ∧ Ch [31] [] σ τ := by
  have hn := hV.2.1
  unfold F_X3_findForced
  have kS : Ch [31] [] σ (sA σ 31 (filln (gI σ 31) 24 65535)) := Ch.sA1 (by simp)
  have hA2 := hA.ch kS (by simp) (by simp)
  rw [lt_e, hA2.1, m1_eq]
  obtain ⟨g, hg⟩ := BIGe (nA row) (by omega)
  obtain ⟨τ, t1, t2, t3⟩ := forcedC_out (g := g) hV hW hM hb (nA row) (fun _ => false) (sA σ 31 (filln (gI σ 31) 24 65535)) (Nat.le_refl _) hA2 rfl (fun a h => ⟨65535, by omega, by rw [gI_sA_own]; unfold filln; rw [if_pos (by omega)]; rfl, fun c hc => by rw [t65535 hc]; rfl⟩) (fun a h1 h2 => absurd h2 (Nat.not_lt.mpr h1))
  rw [hg]
  exact ⟨τ, t1, t2, kS.trans t3⟩
/-! settle -/
def mkN (row : Nat → Int32) (k w : Int32) : Nat → Nat := fun n => match n with
  | 0 => 0
  | n + 1 => 2 ^ n * (if onB row k w n = true then 1 else 0) + mkN row k w n
theorem mkN_lt {row : Nat → Int32} {k w : Int32} : ∀ n, mkN row k w n < 2 ^ n := by
  intro n
  induction n with
  | zero => exact Nat.lt_of_lt_of_le Nat.zero_lt_one (Nat.le_refl _)
  | succ n ih =>
    unfold mkN
    have : (2 : Nat) ^ (n + 1) = 2 ^ n * 2 := Nat.pow_succ 2 n
    split <;> omega
theorem mkN_bit {row : Nat → Int32} {k w : Int32} : ∀ n a, a < n → (mkN row k w n).testBit a = onB row k w a := by
  intro n
  induction n with
  | zero => intro a h; omega
  | succ n ih =>
    intro a h
    unfold mkN
    rw [Nat.testBit_two_pow_mul_add _ (mkN_lt n)]
    by_cases c : a < n
    · rw [if_pos c]; exact ih a c
    · rw [if_neg c]
      have : a = n := by omega
      subst this
      rw [Nat.sub_self]
      cases onB row k w a <;> rfl
theorem stk_congr {row : Nat → Int32} {k w k' w' : Int32} (h : ∀ a, a < nA row → onB row k w a = onB row k' w' a) : stk row k w = stk row k' w' := by
  have : ∀ m s, m ≤ nA row → stkM row k w m s = stkM row k' w' m s := by
    intro m
    induction m with
    | zero => intro s _; rfl
    | succ m ih =>
      intro s hm
      unfold stkM
      rw [h m (by omega), ih _ (by omega)]
  exact this _ _ (Nat.le_refl _)
theorem FdOK.congr {row : Nat → Int32} {k w k' w' : Int32} {g : Nat → Int32} (h : ∀ a, a < nA row → onB row k w a = onB row k' w' a) (hF : FdOK row k w g) : FdOK row k' w' g := fun a ha => by
  obtain ⟨m, m1, m2, m3⟩ := hF a ha
  refine ⟨m, m1, m2, fun c hc => ?_⟩
  rw [m3 c hc]
  unfold fbit
  rw [h a ha, stk_congr h]
def CS (row : Nat → Int32) (σ : AH) : Prop := gI σ 28 6 = -1 ∨ ∃ k w, gI σ 28 6 = nI (mkN row k w (nA row)) ∧ FdOK row k w (gI σ 31)
theorem settle_loop {row : Nat → Int32} {k w : Int32} {g : Nat} {σ : AH} (hV : AV row) (hA : ActsC row σ) : ∀ (j a : Nat), a + j = nA row → F_X3_settle_5 (j + 1 + g) w k (nI (mkN row k w a)) (nI a) σ = F_X3_settle_5 (0 + 1 + g) w k (nI (mkN row k w (nA row))) (nI (nA row)) σ := by
  have hn := hV.2.1
  intro j
  induction j with
  | zero => intro a ha; rw [show a = nA row by omega]
  | succ j ih =>
    intro a ha
    rw [← ih (a + 1) (by omega)]
    have e : F_X3_settle_5 (j + 1 + 1 + g) = B_X3_settle_5 (F_X3_settle_5 (j + 1 + g)) := by rw [show j + 1 + 1 + g = (j + 1 + g) + 1 by omega]; rfl
    have ha' : a < nA row := by omega
    obtain ⟨b, eb, ⟨k1, k2, k3⟩, ⟨y1, y2, y3⟩, _⟩ := hA.2 a ha'
    rw [e]; unfold B_X3_settle_5 F_X3_settle_59
    rw [hA.1, if_neg (nI_ge ha' (by omega)), if_pos (inB_n (by omega) (by omega)), nI_clamp (by omega), eb, on_some, if_pos ⟨k1, k2⟩, y1, y2, nI_1, sh1 (by omega)]
    have st : mkN row k w (a + 1) = 2 ^ a * (if onB row k w a = true then 1 else 0) + mkN row k w a := rfl
    have or_ : nI (mkN row k w a) ||| nI (2 ^ a) = nI (2 ^ a * 1 + mkN row k w a) := by
      rw [fa_or, Nat.or_comm, Nat.two_pow_add_eq_or_of_lt (mkN_lt a) 1, Nat.mul_one]
    by_cases c1 : k < row (20 + 947 * a + 1)
    · rw [if_pos c1]
      have : onB row k w a = false := by unfold onB; exact decide_eq_false (fun q => q.1 c1)
      rw [st, this]; simp
    · rw [if_neg c1]
      by_cases c2 : w < row (20 + 947 * a)
      · rw [if_pos c2]
        have : onB row k w a = false := by unfold onB; exact decide_eq_false (fun q => q.2 c2)
        rw [st, this]; simp
      · rw [if_neg c2]
        have : onB row k w a = true := by unfold onB; exact decide_eq_true ⟨c1, c2⟩
        rw [st, this, if_pos rfl, or_]
theorem F_settle {row : Nat → Int32} {k w : Int32} {σ : AH} (hV : AV row) (hW : AW row) (hA : ActsC row σ) (hC : CS row σ) : ∃ τ, F_X3_settle w k σ = some τ ∧ FdOK row k w (gI τ 31) ∧ CS row τ ∧ Ch [31] [(28, 6)] σ τ := by
  have hn := hV.2.1
  unfold F_X3_settle
  obtain ⟨g, hg⟩ := BIGe (nA row) (by omega)
  have L := settle_loop (k := k) (w := w) (g := g) hV hA (nA row) 0 (by omega)
  have L' : F_X3_settle_5 BIG w k 0 0 σ = F_X3_settle_5 (0 + 1 + g) w k (nI (mkN row k w (nA row))) (nI (nA row)) σ := by rw [hg]; exact L
  have e : F_X3_settle_5 (0 + 1 + g) = B_X3_settle_5 (F_X3_settle_5 g) := by rw [show 0 + 1 + g = g + 1 by omega]; rfl
  rw [L', e]; unfold B_X3_settle_5
  have lt24 : mkN row k w (nA row) < 2 ^ 24 := Nat.lt_of_lt_of_le (mkN_lt _) (Nat.pow_le_pow_right (by decide) hn)
  rw [hA.1, if_pos (nI_le (Nat.le_refl _) (by omega))]
  by_cases c : nI (mkN row k w (nA row)) = gI σ 28 6
  · rw [if_pos c]
    refine ⟨σ, rfl, ?_, hC, Ch.rf _⟩
    rcases hC with h | ⟨k', w', h1, h2⟩
    · rw [h] at c; exact absurd c (nI_neg1 (by omega))
    · rw [h1] at c
      have lt24' : mkN row k' w' (nA row) < 2 ^ 24 := Nat.lt_of_lt_of_le (mkN_lt _) (Nat.pow_le_pow_right (by decide) hn)
      have ce := (nI_eq (by omega) (by omega)).mp c
      exact FdOK.congr (fun a ha => by rw [← mkN_bit (k := k') (w := w') _ a ha, ← mkN_bit (k := k) (w := w) _ a ha, ce]) h2
  · rw [if_neg c]
    have kS : Ch [31] [(28, 6)] σ (sI σ 28 6 (nI (mkN row k w (nA row)))) := Ch.sI1 (Or.inl (by simp))
    obtain ⟨τ, t1, t2, t3⟩ := F_findForced (k := k) (w := w) hV hW lt24 (fun a ha => mkN_bit _ a ha) (hA.ch kS (by simp) (by simp))
    rw [t1, bv_some]
    refine ⟨τ, rfl, t2, Or.inr ⟨k, w, ?_, t2⟩, kS.trans (t3.mono (by simp) (by simp))⟩
    rw [t3.rI (by simp) (by simp), gI_sI_at]
end
