section
/-! a loop that goes down to 0: the counter stands at j - 1 while j are left -/
theorem dn_s (i : Nat) : nI (i + 1) + (-1 : Int32) = nI i := by
  rw [← nI_1 i, Int32.add_assoc, show (1 : Int32) + (-1 : Int32) = 0 by decide, Int32.add_zero]
theorem loop_dn {α : Type} {N g : Nat} {cs : List Nat} {fs : List (Nat × Nat)} {P : Nat → AH → Prop} {G : Nat → Int32 → AH → α} {E : AH → α} (hs : ∀ f i σ, i < N → P (i + 1) σ → ∃ τ, G (f + 1) (nI i) σ = G f (nI i + (-1 : Int32)) τ ∧ P i τ ∧ Ch cs fs σ τ) (he : ∀ f σ, P 0 σ → G (f + 1) (-1 : Int32) σ = E σ) : ∀ (j : Nat) (σ : AH), j ≤ N → P j σ → ∃ τ, G (j + 1 + g) (nI j + (-1 : Int32)) σ = E τ ∧ P 0 τ ∧ Ch cs fs σ τ := by
  intro j
  induction j with
  | zero =>
    intro σ _ h
    rw [show 0 + 1 + g = g + 1 by omega, show nI 0 + (-1 : Int32) = -1 by rw [show nI 0 = (0 : Int32) from rfl]; decide]
    exact ⟨σ, he g σ h, h, Ch.rf _⟩
  | succ j ih =>
    intro σ hj h
    obtain ⟨τ, t1, t2, t3⟩ := hs (j + 1 + g) j σ (by omega) h
    obtain ⟨τ2, u1, u2, u3⟩ := ih τ (by omega) t2
    rw [dn_s, show j + 1 + 1 + g = (j + 1 + g) + 1 by omega, t1]
    exact ⟨τ2, u1, u2, t3.trans u3⟩
/-- which of a ROW have the digit c -/
def mC (n c : Nat) (x : Nat → Nat) : Nat := mk (fun i => decide (x i = c)) n
theorem mC_lt {n c : Nat} {x : Nat → Nat} : mC n c x < 2 ^ n := mk_lt n
theorem mC_bit {n c i : Nat} {x : Nat → Nat} (hi : i < n) : (mC n c x).testBit i = true ↔ x i = c := by
  unfold mC
  rw [mk_bit, decide_eq_true hi, Bool.true_and, decide_eq_true_iff]
theorem mC_out {n c i : Nat} {x : Nat → Nat} (hi : ¬ i < n) : ¬ (mC n c x).testBit i = true := by
  unfold mC
  rw [mk_bit, decide_eq_false hi, Bool.false_and]; decide
/-- ROWS by those that begin at each time -/
def rwA (a : Nat) : Nat → Nat := fun i => if a.testBit i = true then 0 + 1 else 0
def rwB (a b : Nat) : Nat → Nat := fun i => if b.testBit i = true then 1 + 1 else rwA a i
def rwC (a b c : Nat) : Nat → Nat := fun i => if c.testBit i = true then 2 + 1 else rwB a b i
theorem rwA_v (a i : Nat) : rwA a i = if a.testBit i = true then 0 + 1 else 0 := rfl
theorem rwB_v (a b i : Nat) : rwB a b i = if b.testBit i = true then 1 + 1 else rwA a i := rfl
theorem rwC_v (a b c i : Nat) : rwC a b c i = if c.testBit i = true then 2 + 1 else rwB a b i := rfl
theorem rwA_le (a i : Nat) : rwA a i ≤ 1 := by rw [rwA_v]; split <;> omega
theorem rwB_le (a b i : Nat) : rwB a b i ≤ 2 := by rw [rwB_v]; have := rwA_le a i; split <;> omega
theorem rwC_le (a b c i : Nat) : rwC a b c i ≤ 3 := by rw [rwC_v]; have := rwB_le a b i; split <;> omega
theorem rwC_is {n a b c : Nat} {x : Nat → Nat} (hx : ∀ i, x i < 4) (h1 : mC n 1 x = a) (h2 : mC n 2 x = b) (h3 : mC n 3 x = c) : ∀ i, i < n → x i = rwC a b c i := by
  intro i hi
  have l := hx i
  have k1 := mC_bit (n := n) (c := 1) (x := x) hi
  have k2 := mC_bit (n := n) (c := 2) (x := x) hi
  have k3 := mC_bit (n := n) (c := 3) (x := x) hi
  rw [h1] at k1
  rw [h2] at k2
  rw [h3] at k3
  rw [rwC_v, rwB_v, rwA_v]
  by_cases y3 : c.testBit i = true
  · rw [if_pos y3]; exact k3.mp y3
  · rw [if_neg y3]
    have z3 : ¬ x i = 3 := fun e => y3 (k3.mpr e)
    by_cases y2 : b.testBit i = true
    · rw [if_pos y2]; exact k2.mp y2
    · rw [if_neg y2]
      have z2 : ¬ x i = 2 := fun e => y2 (k2.mpr e)
      by_cases y1 : a.testBit i = true
      · rw [if_pos y1]; exact k1.mp y1
      · rw [if_neg y1]
        have z1 : ¬ x i = 1 := fun e => y1 (k1.mpr e)
        omega
/-- nobody begins at two times -/
theorem mC_and {n c d : Nat} {x : Nat → Nat} (h : c ≠ d) : mC n c x &&& mC n d x = 0 := by
  apply Nat.eq_of_testBit_eq
  intro i
  rw [Nat.testBit_and, Nat.zero_testBit]
  cases e1 : (mC n c x).testBit i with
  | false => rfl
  | true =>
    cases e2 : (mC n d x).testBit i with
    | false => rfl
    | true =>
      exfalso
      by_cases hi : i < n
      · exact h ((mC_bit hi).mp e1 ▸ (mC_bit hi).mp e2)
      · exact mC_out hi e1
theorem and_or0 {a b c : Nat} (h1 : c &&& a = 0) (h2 : c &&& b = 0) : c &&& (a ||| b) = 0 := by
  rw [Nat.and_or_distrib_left, h1, h2]; rfl
theorem and0_bit {u v i : Nat} (h : u &&& v = 0) (e : u.testBit i = true) : ¬ v.testBit i = true := fun e2 => by
  have := congrArg (fun x => Nat.testBit x i) h
  simp only [Nat.testBit_and, Nat.zero_testBit] at this
  rw [e, e2] at this; cases this
/-- what has too few rooms is no better than what is kept -/
theorem VsI.prune {row : Nat → Int32} {q n R : Nat} {wi : Nat → Nat} {V V' : (Nat → Nat) → Prop} {σ : AH} (hB : BV row) (hW : WiV row n wi) (hR : R ≤ 36) (h : VsI row q n wi V σ) (hp : nI R < gI σ 68 12) (hv : ∀ x, V' x → V x ∨ hoC row q n wi x ≤ R) : VsI row q n wi V' σ := by
  rcases h with ⟨z1, z2⟩ | ⟨y, z1, z2, z3, z4, z5⟩
  · rw [z1] at hp
    exfalso
    rw [Int32.lt_iff_toInt_lt, nI_toInt (by omega)] at hp
    have : (-1 : Int32).toInt = -1 := by decide
    omega
  · refine Or.inr ⟨y, z1, z2, z3, z4, fun x hx => ?_⟩
    rcases hv x hx with w | w
    · exact z5 x w
    · have l36y := hoC_le (q := q) (cs := y) hB hW
      rw [z3, nI_ltI (by omega) (by omega)] at hp
      unfold btr; omega
theorem rbN_le {row : Nat → Int32} {n : Nat} {wi r : Nat → Nat} (hB : BV row) (hW : WiV row n wi) : rbN row wi r n ≤ 36 := by
  have hn := hW.1
  have : ∀ j, j ≤ n → rbN row wi r j ≤ 6 * j := by
    intro j
    induction j with
    | zero => intro _; exact Nat.le_refl _
    | succ j ih =>
      intro hj
      have e2 : rbN row wi r (j + 1) = rbN row wi r j + (if r j = 0 then 0 else pR row (wi j)) := rfl
      have h6 : pR row (wi j) < 7 := (hB.p.2.2 (wi j) (hW.2.1 j (by omega))).2.2.1.1.2
      have := ih (by omega)
      rw [e2]
      split <;> omega
  have := this n (Nat.le_refl _)
  omega
/-- the third time: those that begin in the WEEK 8 of the QUARTER, all that go on from a and b -/
theorem lp_103 {row : Nat → Int32} {q n a b : Nat} {wi : Nat → Nat} {K : Int32 → Int32 → AH → Option (Int32 × AH)} {J : Int32 → Int32 → Int32 → AH → Option (Int32 × AH)} (hV : AV row) (hA : AW row) (hB : BV row) (hq : q < 20) (hW : WiV row n wi) (hK : KE row (kQ q) (kL row q)) (ha : a < 64) (hb : b < 64) (hab : b &&& a = 0) (V : (Nat → Nat) → Prop) (σ : AH) (hI : LvI row q n wi 2 (rwB a b) σ) (hv : VsI row q n wi V σ) :
    ∃ τ, F_X11_best_103 K J BIG (nI (2 ^ n - 1)) (nI a) (nI b) (nI (a ||| b)) (nI (2 ^ n - 1)) σ = J (nI (2 ^ n - 1)) (nI a) (nI b + (-1 : Int32)) τ ∧ LvI row q n wi 2 (rwB a b) τ ∧ VsI row q n wi (fun x => V x ∨ ((∀ i, x i < 4) ∧ mC n 1 x = a ∧ mC n 2 x = b)) τ ∧ Ch (BRc 2) BRf σ τ := by
  have hn := hW.1
  have p6 : 2 ^ n ≤ 64 := by
    have : 2 ^ n ≤ 2 ^ 6 := Nat.pow_le_pow_right (by decide) hn
    exact this
  have pos : 0 < 2 ^ n := Nat.pow_pos (by decide)
  have hor : a ||| b < 64 := Nat.or_lt_two_pow (n := 6) ha hb
  obtain ⟨g, hg⟩ := BIGe (2 ^ n) (by omega)
  obtain ⟨τ, t1, t2, t3⟩ := loop_dn (N := 2 ^ n) (g := g) (cs := BRc 2) (fs := BRf) (G := fun f x s => F_X11_best_103 K J f (nI (2 ^ n - 1)) (nI a) (nI b) (nI (a ||| b)) x s) (E := fun s => J (nI (2 ^ n - 1)) (nI a) (nI b + (-1 : Int32)) s) (P := fun j s => LvI row q n wi 2 (rwB a b) s ∧ VsI row q n wi (fun x => V x ∨ ((∀ i, x i < 4) ∧ mC n 1 x = a ∧ mC n 2 x = b ∧ j ≤ mC n 3 x)) s) (fun f c s hc h => by
    obtain ⟨L, vs⟩ := h
    have c64 : c < 64 := by omega
    show ∃ τ, B_X11_best_103 K J (F_X11_best_103 K J f) (nI (2 ^ n - 1)) (nI a) (nI b) (nI (a ||| b)) (nI c) s = F_X11_best_103 K J f (nI (2 ^ n - 1)) (nI a) (nI b) (nI (a ||| b)) (nI c + (-1 : Int32)) τ ∧ _
    unfold B_X11_best_103 F_X11_best_155
    rw [if_neg (nI_pos (by omega)), fa_and]
    by_cases z : c &&& (a ||| b) = 0
    · rw [if_pos (show nI (c &&& (a ||| b)) = 0 by rw [z]; rfl), fa_or]
      have hbits : ∀ i, c.testBit i = true → ¬ a.testBit i = true ∧ ¬ b.testBit i = true := fun i e => by
        have := and0_bit z e
        rw [Nat.testBit_or] at this
        exact ⟨fun w => this (by rw [w]; rfl), fun w => this (by rw [w, Bool.or_true])⟩
      have ro := F_roomsOfAll (r := rwC a b c) (M := (a ||| b) ||| c) (Nat.or_lt_two_pow (n := 6) hor c64) hB hW L.1.1.2.1 L.2.1 (fun i _ => by
        rw [Nat.testBit_or, Nat.testBit_or, rwC_v, rwB_v, rwA_v]
        by_cases y3 : c.testBit i = true
        · rw [if_pos y3, y3, Bool.or_true]; simp
        · rw [if_neg y3]
          by_cases y2 : b.testBit i = true
          · rw [if_pos y2, y2, Bool.or_true, Bool.true_or]; simp
          · rw [if_neg y2]
            by_cases y1 : a.testBit i = true
            · rw [if_pos y1, y1, Bool.true_or, Bool.true_or]; simp
            · rw [if_neg y1]
              simp [y1, y2, y3])
      rw [ro, bd_some]
      have rle := rbN_le (r := rwC a b c) hB hW
      have ho := hoC_begun (row := row) (q := q) (wi := wi) (r := rwC a b c) hW
      by_cases pz : nI (rbN row wi (rwC a b c) n) < gI s 68 12
      · rw [if_pos pz]
        refine ⟨s, rfl, ⟨L, vs.prune hB hW rle pz (fun x hx => ?_)⟩, Ch.rf _⟩
        rcases hx with w | ⟨w1, w2, w3, w4⟩
        · exact Or.inl (Or.inl w)
        · by_cases e : mC n 3 x = c
          · have h2 := (hoC_congr (row := row) (q := q) (wi := wi) (rwC_is w1 w2 w3 e)).1
            exact Or.inr (by omega)
          · exact Or.inl (Or.inr ⟨w1, w2, w3, by omega⟩)
      · rw [if_neg pz]
        obtain ⟨s1, u1, u2, u3⟩ := F_playTime (t := 2) (m := c) hV hA hB hq hW (by decide) c64 (fun i => rwB_le a b i) (fun i _ e => by
          obtain ⟨y1, y2⟩ := hbits i e
          rw [rwB_v, if_neg y2, rwA_v, if_neg y1]) L
        have u1' : F_X1_playTime (2 : Int32) (nI c) s = some s1 := u1
        have u2' : LvI row q n wi 3 (rwC a b c) s1 := u2
        rw [u1', bv_some]
        obtain ⟨jO, jC, jS, ⟨cur, k4, kR, kr⟩, jA⟩ := u2'
        have R3 : CrI n (rwC a b c) s1 := fun i hi => by
          have := k4 i
          rw [kR i hi, kr i hi, if_pos (show cur i ≤ 3 by omega)]
        have eR : RjT row q n wi (rwC a b c) (wkT 3) = cR row q n wi (rwC a b c) := (cR_L hK).symm
        have A3 : SiI row (kL row q) (sC (sQ row q) wi q (rwC a b c) n) 103 (13 * q + wkT 3) (cR row q n wi (rwC a b c)) s1 := by rw [← eR]; exact jA
        have vs1 := vs.ch u3 ⟨fun z => by have := PYm.mp z; omega, fun z => by have := PYm.mp z; omega⟩ (by simp [PYf])
        obtain ⟨s2, v1, v2, v3⟩ := F_keepIfBetter hB hW jO.1.2.1 jC jS (fun i => by have := rwC_le a b c i; omega) R3 A3 vs1
        rw [v1, bv_some]
        have L1 : LvI row q n wi 2 (rwB a b) s1 := L.back u2 (fun i _ => by
          show rwB a b i = if rwC a b c i ≤ 2 then rwC a b c i else 0
          rw [rwC_v]
          by_cases e : c.testBit i = true
          · obtain ⟨y1, y2⟩ := hbits i e
            rw [if_pos e, if_neg (by decide), rwB_v, if_neg y2, rwA_v, if_neg y1]
          · rw [if_neg e, if_pos (rwB_le a b i)]) (PY_BR u3)
        refine ⟨s2, rfl, ⟨L1.keepBest v3, v2.im (fun x hx => ?_)⟩, (PY_BR u3).trans (v3.mono (fun i hi => BRm.mpr (by simp at hi; omega)) (by simp [BRf]))⟩
        rcases hx with w | ⟨w1, w2, w3, w4⟩
        · exact Or.inl (Or.inl w)
        · by_cases e : mC n 3 x = c
          · exact Or.inr (rwC_is w1 w2 w3 e)
          · exact Or.inl (Or.inr ⟨w1, w2, w3, by omega⟩)
    · have zl : c &&& (a ||| b) < 64 := Nat.lt_of_le_of_lt Nat.and_le_left c64
      rw [if_neg (show ¬ nI (c &&& (a ||| b)) = 0 from fun e => z ((nI_eq (b := 0) (by omega) (by decide)).mp e))]
      refine ⟨s, rfl, ⟨L, vs.im (fun x hx => ?_)⟩, Ch.rf _⟩
      rcases hx with w | ⟨w1, w2, w3, w4⟩
      · exact Or.inl w
      · by_cases e : mC n 3 x = c
        · exact absurd (by rw [← e, ← w2, ← w3]; exact and_or0 (mC_and (by decide)) (mC_and (by decide))) z
        · exact Or.inr ⟨w1, w2, w3, by omega⟩) (fun f s h => by
    show B_X11_best_103 K J (F_X11_best_103 K J f) (nI (2 ^ n - 1)) (nI a) (nI b) (nI (a ||| b)) (-1 : Int32) s = _
    unfold B_X11_best_103 F_X11_best_161
    rw [if_pos (by decide)]) (2 ^ n) σ (Nat.le_refl _) ⟨hI, hv.im (fun x hx => by
      rcases hx with w | ⟨_, _, _, w4⟩
      · exact w
      · have := mC_lt (n := n) (c := 3) (x := x); omega)⟩
  have ec : nI (2 ^ n) + (-1 : Int32) = nI (2 ^ n - 1) := by
    have := dn_s (2 ^ n - 1)
    rw [show 2 ^ n - 1 + 1 = 2 ^ n by omega] at this; exact this
  have t1' : F_X11_best_103 K J (2 ^ n + 1 + g) (nI (2 ^ n - 1)) (nI a) (nI b) (nI (a ||| b)) (nI (2 ^ n) + (-1 : Int32)) σ = J (nI (2 ^ n - 1)) (nI a) (nI b + (-1 : Int32)) τ := t1
  rw [ec] at t1'
  rw [hg]
  exact ⟨τ, t1', t2.1, t2.2.im (fun x hx => hx.imp id (fun w => ⟨w.1, w.2.1, w.2.2, Nat.zero_le _⟩)), t3⟩
/-- the second time -/
theorem lp_69 {row : Nat → Int32} {q n a : Nat} {wi : Nat → Nat} {K : Int32 → Int32 → AH → Option (Int32 × AH)} (hV : AV row) (hA : AW row) (hB : BV row) (hq : q < 20) (hW : WiV row n wi) (hK : KE row (kQ q) (kL row q)) (ha : a < 64) (V : (Nat → Nat) → Prop) (σ : AH) (hI : LvI row q n wi 1 (rwA a) σ) (hv : VsI row q n wi V σ) :
    ∃ τ, F_X11_best_69 K BIG (nI (2 ^ n - 1)) (nI a) (nI (2 ^ n - 1)) σ = K (nI (2 ^ n - 1)) (nI a + (-1 : Int32)) τ ∧ LvI row q n wi 1 (rwA a) τ ∧ VsI row q n wi (fun x => V x ∨ ((∀ i, x i < 4) ∧ mC n 1 x = a)) τ ∧ Ch (BRc 1) BRf σ τ := by
  have hn := hW.1
  have p6 : 2 ^ n ≤ 64 := by
    have : 2 ^ n ≤ 2 ^ 6 := Nat.pow_le_pow_right (by decide) hn
    exact this
  have pos : 0 < 2 ^ n := Nat.pow_pos (by decide)
  obtain ⟨g, hg⟩ := BIGe (2 ^ n) (by omega)
  obtain ⟨τ, t1, t2, t3⟩ := loop_dn (N := 2 ^ n) (g := g) (cs := BRc 1) (fs := BRf) (G := fun f x s => F_X11_best_69 K f (nI (2 ^ n - 1)) (nI a) x s) (E := fun s => K (nI (2 ^ n - 1)) (nI a + (-1 : Int32)) s) (P := fun j s => LvI row q n wi 1 (rwA a) s ∧ VsI row q n wi (fun x => V x ∨ ((∀ i, x i < 4) ∧ mC n 1 x = a ∧ j ≤ mC n 2 x)) s) (fun f b s hb h => by
    obtain ⟨L, vs⟩ := h
    have b64 : b < 64 := by omega
    show ∃ τ, B_X11_best_69 K (F_X11_best_69 K f) (nI (2 ^ n - 1)) (nI a) (nI b) s = F_X11_best_69 K f (nI (2 ^ n - 1)) (nI a) (nI b + (-1 : Int32)) τ ∧ _
    unfold B_X11_best_69 F_X11_best_161
    rw [if_neg (nI_pos (by omega)), fa_and]
    by_cases z : b &&& a = 0
    · rw [if_pos (show nI (b &&& a) = 0 by rw [z]; rfl), fa_or]
      have hbits : ∀ i, b.testBit i = true → ¬ a.testBit i = true := fun i e => and0_bit z e
      obtain ⟨s1, u1, u2, u3⟩ := F_playTime (t := 1) (m := b) hV hA hB hq hW (by decide) b64 (fun i => rwA_le a i) (fun i _ e => by
        rw [rwA_v, if_neg (hbits i e)]) L
      have u1' : F_X1_playTime (1 : Int32) (nI b) s = some s1 := u1
      rw [u1', bv_some]
      have vs1 := vs.ch u3 ⟨fun z => by have := PYm.mp z; omega, fun z => by have := PYm.mp z; omega⟩ (by simp [PYf])
      obtain ⟨s2, v1, v2, v3, v4⟩ := lp_103 (K := K) (J := F_X11_best_69 K f) hV hA hB hq hW hK ha b64 z _ s1 u2 vs1
      rw [v1]
      have c2 : Ch (BRc 1) BRf s s2 := (PY_BR u3).trans (BR_up v4)
      refine ⟨s2, rfl, ⟨L.back v2 (fun i _ => ?_) c2, v3.im (fun x hx => ?_)⟩, c2⟩
      · rw [rwB_v]
        by_cases e : b.testBit i = true
        · rw [if_pos e, if_neg (by decide), rwA_v, if_neg (hbits i e)]
        · rw [if_neg e, if_pos (rwA_le a i)]
      · rcases hx with w | ⟨w1, w2, w3⟩
        · exact Or.inl (Or.inl w)
        · by_cases e : mC n 2 x = b
          · exact Or.inr ⟨w1, w2, e⟩
          · exact Or.inl (Or.inr ⟨w1, w2, by omega⟩)
    · have zl : b &&& a < 64 := Nat.lt_of_le_of_lt Nat.and_le_left b64
      rw [if_neg (show ¬ nI (b &&& a) = 0 from fun e => z ((nI_eq (b := 0) (by omega) (by decide)).mp e))]
      refine ⟨s, rfl, ⟨L, vs.im (fun x hx => ?_)⟩, Ch.rf _⟩
      rcases hx with w | ⟨w1, w2, w3⟩
      · exact Or.inl w
      · by_cases e : mC n 2 x = b
        · exact absurd (by rw [← e, ← w2]; exact mC_and (by decide)) z
        · exact Or.inr ⟨w1, w2, by omega⟩) (fun f s h => by
    show B_X11_best_69 K (F_X11_best_69 K f) (nI (2 ^ n - 1)) (nI a) (-1 : Int32) s = _
    unfold B_X11_best_69
    rw [if_pos (by decide)]) (2 ^ n) σ (Nat.le_refl _) ⟨hI, hv.im (fun x hx => by
      rcases hx with w | ⟨_, _, w3⟩
      · exact w
      · have := mC_lt (n := n) (c := 2) (x := x); omega)⟩
  have ec : nI (2 ^ n) + (-1 : Int32) = nI (2 ^ n - 1) := by
    have := dn_s (2 ^ n - 1)
    rw [show 2 ^ n - 1 + 1 = 2 ^ n by omega] at this; exact this
  have t1' : F_X11_best_69 K (2 ^ n + 1 + g) (nI (2 ^ n - 1)) (nI a) (nI (2 ^ n) + (-1 : Int32)) σ = K (nI (2 ^ n - 1)) (nI a + (-1 : Int32)) τ := t1
  rw [ec] at t1'
  rw [hg]
  exact ⟨τ, t1', t2.1, t2.2.im (fun x hx => hx.imp id (fun w => ⟨w.1, w.2, Nat.zero_le _⟩)), t3⟩
/-- the first time: all ROWS -/
theorem lp_53 {row : Nat → Int32} {q n : Nat} {wi : Nat → Nat} (hV : AV row) (hA : AW row) (hB : BV row) (hq : q < 20) (hW : WiV row n wi) (hK : KE row (kQ q) (kL row q)) (σ : AH) (hI : LvI row q n wi 0 (fun _ => 0) σ) (hv : VsI row q n wi (fun _ => False) σ) :
    ∃ τ, F_X11_best_53 BIG (nI (2 ^ n - 1)) (nI (2 ^ n - 1)) σ = some (gI τ 68 12, τ) ∧ LvI row q n wi 0 (fun _ => 0) τ ∧ VsI row q n wi (fun x => ∀ i, x i < 4) τ ∧ Ch (BRc 0) BRf σ τ := by
  have hn := hW.1
  have p6 : 2 ^ n ≤ 64 := by
    have : 2 ^ n ≤ 2 ^ 6 := Nat.pow_le_pow_right (by decide) hn
    exact this
  have pos : 0 < 2 ^ n := Nat.pow_pos (by decide)
  obtain ⟨g, hg⟩ := BIGe (2 ^ n) (by omega)
  obtain ⟨τ, t1, t2, t3⟩ := loop_dn (N := 2 ^ n) (g := g) (cs := BRc 0) (fs := BRf) (G := fun f x s => F_X11_best_53 f (nI (2 ^ n - 1)) x s) (E := fun s => some (gI s 68 12, s)) (P := fun j s => LvI row q n wi 0 (fun _ => 0) s ∧ VsI row q n wi (fun x => (∀ i, x i < 4) ∧ j ≤ mC n 1 x) s) (fun f a s ha h => by
    obtain ⟨L, vs⟩ := h
    have a64 : a < 64 := by omega
    show ∃ τ, B_X11_best_53 (F_X11_best_53 f) (nI (2 ^ n - 1)) (nI a) s = F_X11_best_53 f (nI (2 ^ n - 1)) (nI a + (-1 : Int32)) τ ∧ _
    unfold B_X11_best_53
    rw [if_neg (nI_pos (by omega))]
    obtain ⟨s1, u1, u2, u3⟩ := F_playTime (t := 0) (m := a) (r := fun _ => 0) hV hA hB hq hW (by decide) a64 (fun _ => Nat.le_refl _) (fun _ _ _ => rfl) L
    have u1' : F_X1_playTime (0 : Int32) (nI a) s = some s1 := u1
    have u2' : LvI row q n wi 1 (rwA a) s1 := u2
    rw [u1', bv_some]
    have vs1 := vs.ch u3 ⟨fun z => by have := PYm.mp z; omega, fun z => by have := PYm.mp z; omega⟩ (by simp [PYf])
    obtain ⟨s2, v1, v2, v3, v4⟩ := lp_69 (K := F_X11_best_53 f) hV hA hB hq hW hK a64 _ s1 u2' vs1
    rw [v1]
    have c2 : Ch (BRc 0) BRf s s2 := (PY_BR u3).trans (BR_up v4)
    refine ⟨s2, rfl, ⟨L.back v2 (fun i _ => ?_) c2, v3.im (fun x hx => ?_)⟩, c2⟩
    · show 0 = if rwA a i ≤ 0 then rwA a i else 0
      split <;> omega
    · by_cases e : mC n 1 x = a
      · exact Or.inr ⟨hx.1, e⟩
      · exact Or.inl ⟨hx.1, by have := hx.2; omega⟩) (fun f s h => by
    show B_X11_best_53 (F_X11_best_53 f) (nI (2 ^ n - 1)) (-1 : Int32) s = _
    unfold B_X11_best_53
    rw [if_pos (by decide)]) (2 ^ n) σ (Nat.le_refl _) ⟨hI, hv.im (fun x hx => by
      have := mC_lt (n := n) (c := 1) (x := x)
      have := hx.2
      omega)⟩
  have ec : nI (2 ^ n) + (-1 : Int32) = nI (2 ^ n - 1) := by
    have := dn_s (2 ^ n - 1)
    rw [show 2 ^ n - 1 + 1 = 2 ^ n by omega] at this; exact this
  have t1' : F_X11_best_53 (2 ^ n + 1 + g) (nI (2 ^ n - 1)) (nI (2 ^ n) + (-1 : Int32)) σ = some (gI τ 68 12, τ) := t1
  rw [ec] at t1'
  rw [hg]
  exact ⟨τ, t1', t2.1, t2.2.im (fun x hx => ⟨hx, Nat.zero_le _⟩), t3⟩
end
