section
/-! a loop that keeps what it keeps -/
theorem loop_inv {α : Type} {N g : Nat} {cs : List Nat} {fs : List (Nat × Nat)} {P : Nat → AH → Prop} {G : Nat → Int32 → AH → α} {E : AH → α} (hs : ∀ f i σ, i < N → P i σ → ∃ τ, G (f + 1) (nI i) σ = G f (nI (i + 1)) τ ∧ P (i + 1) τ ∧ Ch cs fs σ τ) (he : ∀ f σ, P N σ → G (f + 1) (nI N) σ = E σ) : ∀ (j i : Nat) (σ : AH), i + j = N → P i σ → ∃ τ, G (j + 1 + g) (nI i) σ = E τ ∧ P N τ ∧ Ch cs fs σ τ := by
  intro j
  induction j with
  | zero =>
    intro i σ hi h
    have : i = N := by omega
    subst this
    rw [show 0 + 1 + g = g + 1 by omega]
    exact ⟨σ, he g σ h, h, Ch.rf _⟩
  | succ j ih =>
    intro i σ hi h
    obtain ⟨τ, t1, t2, t3⟩ := hs (j + 1 + g) i σ (by omega) h
    obtain ⟨τ2, u1, u2, u3⟩ := ih (i + 1) τ (by omega) t2
    rw [show j + 1 + 1 + g = (j + 1 + g) + 1 by omega, t1]
    exact ⟨τ2, u1, u2, t3.trans u3⟩
/-! what does not matter for the WEEKS to come: justOver and the gangs left -/
def eq7 (R R' : Nat → Nat → Int32) : Prop := ∀ c, c ≠ 147 → R c = R' c
theorem eq7_rU {R R' : Nat → Nat → Int32} (h : eq7 R R') (c i : Nat) (v : Int32) : eq7 (rU R c i v) (rU R' c i v) := fun d hd => by
  by_cases e : d = c
  · subst e; unfold rU; rw [up_same, up_same, h d hd]
  · rw [rU_row e, rU_row e]; exact h d hd
theorem eq7_fn {w p : Nat} {R R' : Nat → Nat → Int32} (h : eq7 R R') : eq7 (fnR w p R) (fnR w p R') := by
  unfold fnR
  rw [h 144 (by decide)]
  exact eq7_rU (eq7_rU (eq7_rU h _ _ _) _ _ _) _ _ _
theorem eq7_tk {row : Nat → Int32} {k : Int32} {w p : Nat} {R R' : Nat → Nat → Int32} (h : eq7 R R') : ∀ m, eq7 (tkS row k w p R m) (tkS row k w p R' m) := by
  intro m
  induction m with
  | zero => exact h
  | succ m ih =>
    unfold tkS
    rw [ih 142 (by decide), h 144 (by decide)]
    exact eq7_rU ih _ _ _
theorem eq7_to {row : Nat → Int32} {k : Int32} {w p : Nat} {R R' : Nat → Nat → Int32} (h : eq7 R R') : eq7 (toR row k w p R) (toR row k w p R') := by
  unfold toR
  rw [h 144 (by decide)]
  exact eq7_rU (eq7_rU (eq7_rU (eq7_tk h 5) _ _ _) _ _ _) _ _ _
theorem eq7_ct {row : Nat → Int32} {k : Int32} {w p : Nat} {R R' : Nat → Nat → Int32} (h : eq7 R R') : ∀ m, ctS row k w p R m = ctS row k w p R' m := by
  intro m
  induction m with
  | zero => rfl
  | succ m ih => unfold ctS; rw [ih, h 142 (by decide), h 144 (by decide)]
theorem eq7_ga {row : Nat → Int32} {w p : Nat} {R R' : Nat → Nat → Int32} (h : eq7 R R') : eq7 (gaR row w p R) (gaR row w p R') := by
  have g1 : eq7 (gaR1 row p R) (gaR1 row p R') := by
    unfold gaR1
    rw [h 143 (by decide), h 146 (by decide)]
    exact eq7_rU (eq7_rU h _ _ _) _ _ _
  unfold gaR
  rw [h 143 (by decide), g1 146 (by decide)]
  split
  · exact h
  · split
    · exact eq7_rU (eq7_fn g1) _ _ _
    · exact g1
theorem eq7_gp {row : Nat → Int32} {k : Int32} {w p : Nat} : ∀ (f : Nat) (R R' : Nat → Nat → Int32), eq7 R R' → eq7 (gpS row k w p f R) (gpS row k w p f R') := by
  intro f
  induction f with
  | zero => intro R R' h; exact h
  | succ f ih =>
    intro R R' h
    unfold gpS
    rw [h 144 (by decide), h 145 (by decide), eq7_ct h, eq7_to (row := row) (k := k) (w := w) (p := p) h 146 (by decide)]
    split
    · exact h
    · split
      · split
        · split
          · exact ih _ _ (eq7_fn (eq7_to h))
          · exact eq7_ga (eq7_to h)
        · exact h
      · exact eq7_ga h
theorem eq7_gwF {row : Nat → Int32} {k : Int32} {w : Nat} : ∀ (L : List Nat) (R R' : Nat → Nat → Int32), eq7 R R' → eq7 (gwF row k w L R) (gwF row k w L R') := by
  intro L
  induction L with
  | nil => intro R R' h; exact h
  | cons x L ih => intro R R' h; exact ih _ _ (eq7_gp 4 _ _ h)
def eqv (R R' : Nat → Nat → Int32) : Prop := ∀ c, c ≠ 143 → c ≠ 147 → R c = R' c
theorem eqv_gw {row : Nat → Int32} {k lt_ : Int32} {s : Nat → Option Nat} {lc : Nat → Bool} {w : Nat} {R R' : Nat → Nat → Int32} (h : eqv R R') : eq7 (gwR row k lt_ s lc w R) (gwR row k lt_ s lc w R') := by
  unfold gwR
  rw [ordS_congr (R' := R') (h 144 (by decide) (by decide)), h 142 (by decide) (by decide)]
  refine eq7_gwF _ _ _ (fun c hc => ?_)
  rw [jzS_row hc, jzS_row hc]
  by_cases e3 : c = 143
  · subst e3; rw [up_same, up_same]
  · rw [up_ne _ _ _ e3, up_ne _ _ _ e3]
    by_cases e2 : c = 142
    · subst e2; rw [up_same, up_same]
    · rw [up_ne _ _ _ e2, up_ne _ _ _ e2]; exact h c e3 hc
theorem eqv_rn {row : Nat → Int32} {k lt_ : Int32} {s : Nat → Option Nat} {lc : Nat → Bool} {a : Nat} {R R' : Nat → Nat → Int32} (h : eqv R R') : ∀ j, eqv (rnS row k lt_ s lc a R j) (rnS row k lt_ s lc a R' j) := by
  intro j
  induction j with
  | zero => exact h
  | succ j ih => exact fun c h3 h7 => eqv_gw ih c h7
/-! STARTS that are tried -/
def chW (q c : Nat) : Option Nat := if c = 0 then none else some (13 * q + 4 * (c - 1))
def sC (s : Nat → Option Nat) (wi : Nat → Nat) (q : Nat) (cs : Nat → Nat) : Nat → Nat → Option Nat := fun n => match n with
  | 0 => s
  | n + 1 => upS (sC s wi q cs n) (wi n) (chW q (cs n))
theorem sC_lt {s : Nat → Option Nat} {wi : Nat → Nat} {q : Nat} {cs : Nat → Nat} (hs : ∀ p w, s p = some w → w < 260) (hq : q < 20) (hc : ∀ i, cs i < 4) : ∀ n p w, sC s wi q cs n p = some w → w < 260 := by
  intro n
  induction n with
  | zero => exact hs
  | succ n ih =>
    intro p w h
    unfold sC upS at h
    by_cases e : p = wi n
    · rw [if_pos e] at h
      unfold chW at h
      have := hc n
      by_cases z : cs n = 0
      · rw [if_pos z] at h; cases h
      · rw [if_neg z] at h; cases h; omega
    · rw [if_neg e] at h; exact ih p w h
def hoN (row : Nat → Int32) (wi : Nat → Nat) (R : Nat → Nat → Int32) : Nat → Nat := fun n => match n with
  | 0 => 0
  | n + 1 => hoN row wi R n + (if R 144 (wi n) = 3 then pR row (wi n) else 0)
def shN (wi : Nat → Nat) (R : Nat → Nat → Int32) : Nat → Nat := fun n => match n with
  | 0 => 0
  | n + 1 => shN wi R n + (if ¬ (3 : Int32) ≤ R 144 (wi n) ∧ R 148 (3 * wi n) ≠ -1 then 1 else 0)
def kQ (q : Nat) : Int32 := nI (13 * q)
/-- ahead of the QUARTER -/
def bfR (row : Nat → Int32) (q : Nat) : Nat → Nat → Int32 := runR row (kQ q) 0 (13 * q)
/-- at its end, with the STARTS s -/
def qR (row : Nat → Int32) (q : Nat) (s : Nat → Option Nat) : Nat → Nat → Int32 := rnS row (kQ q) 0 s (lic row (kQ q) s) (13 * q) (bfR row q) 13
def KpI (R : Nat → Nat → Int32) (σ : AH) : Prop := (∀ m, m < 5 → gI σ 154 m = R 142 m) ∧ (∀ p, p < 30 → gI σ 155 p = R 144 p ∧ gI σ 156 p = R 145 p ∧ gI σ 157 p = R 146 p) ∧ (∀ i, i < 90 → gI σ 158 i = R 148 i ∧ gI σ 159 i = R 149 i)
theorem KpI.ch {R : Nat → Nat → Int32} {σ τ : AH} {cs : List Nat} {fs : List (Nat × Nat)} (h : KpI R σ) (c : Ch cs fs σ τ) (h1 : ∀ i ∈ cs, i < 154 ∨ 159 < i) (h2 : ∀ q ∈ fs, q.1 < 154 ∨ 159 < q.1) : KpI R τ := by
  have e : ∀ i, 154 ≤ i → i ≤ 159 → gI τ i = gI σ i := fun i l1 l2 => c.rI (fun q => by have := h1 i q; omega) (fun q hq e => by have := h2 q hq; omega)
  unfold KpI
  rw [e 154 (by omega) (by omega), e 155 (by omega) (by omega), e 156 (by omega) (by omega), e 157 (by omega) (by omega), e 158 (by omega) (by omega), e 159 (by omega) (by omega)]
  exact h
theorem nar_bb {x : Int32} (h : x = 0 ∨ x = 1) : vp_nar .boolean x = x := by rcases h with rfl | rfl; exact nar0; exact nar1
theorem ahead_101 {R : Nat → Nat → Int32} {σ : AH} (hR : ∀ i, i < 90 → gI σ 148 i = R 148 i ∧ gI σ 149 i = R 149 i) : ∃ τ, F_X12_goAhead_101 BIG (0 : Int32) σ = some τ ∧ (∀ i, i < 90 → gI τ 158 i = R 148 i ∧ gI τ 159 i = R 149 i) ∧ Ch [158, 159] [] σ τ := by
  obtain ⟨g, hg⟩ := BIGe 90 (by decide)
  rw [hg]
  obtain ⟨τ, t1, t2, t3⟩ := loop_inv (N := 90) (g := g) (cs := [158, 159]) (fs := []) (G := fun f x s => F_X12_goAhead_101 f x s) (E := fun s => some s) (P := fun i s => (∀ j, j < 90 → gI s 148 j = R 148 j ∧ gI s 149 j = R 149 j) ∧ ∀ j, j < i → gI s 158 j = R 148 j ∧ gI s 159 j = R 149 j) (fun f i s hi h => by
    refine ⟨sI (sI s 158 i (R 148 i)) 159 i (R 149 i), ?_, ⟨fun j hj => ?_, fun j hj => ?_⟩, (Ch.sI1 (Or.inr (by simp))).trans (Ch.sI1 (Or.inr (by simp)))⟩
    · show B_X12_goAhead_101 (F_X12_goAhead_101 f) (nI i) s = _
      unfold B_X12_goAhead_101
      have q : inB (nI i) 90 = true := inB_n hi (by omega)
      have n : (nI i).toNatClampNeg = i := nI_clamp (by omega)
      rw [fa_lit 90, if_neg (nI_ge hi (by omega)), if_pos q, if_pos q, if_pos q, if_pos q, lt_e, n, gI_sI_row (a := 149) (by decide), (h.1 i hi).1, (h.1 i hi).2, nI_1]
    · rw [gI_sI_row (by decide), gI_sI_row (by decide), gI_sI_row (by decide), gI_sI_row (by decide)]; exact h.1 j hj
    · by_cases e : j = i
      · subst e; rw [gI_sI_row (a := 158) (by decide), gI_sI_at, gI_sI_at]; exact ⟨rfl, rfl⟩
      · rw [gI_sI_ne e, gI_sI_ne e, gI_sI_ne e, gI_sI_ne e]; exact h.2 j (by omega)) (fun f s h => by
    show B_X12_goAhead_101 (F_X12_goAhead_101 f) (nI 90) s = _
    unfold B_X12_goAhead_101
    rw [fa_lit 90, if_pos (nI_le (Nat.le_refl _) (by decide))]) 90 0 σ (by omega) ⟨hR, fun j hj => absurd hj (Nat.not_lt_zero j)⟩
  exact ⟨τ, t1, t2.2, t3⟩
theorem ahead_51 {R : Nat → Nat → Int32} {σ : AH} (hV : RV_ R) (hR : ∀ p, p < 30 → gI σ 144 p = R 144 p ∧ gI σ 145 p = R 145 p ∧ gI σ 146 p = R 146 p) : ∃ τ, F_X12_goAhead_51 BIG (0 : Int32) σ = F_X12_goAhead_101 BIG (0 : Int32) τ ∧ (∀ p, p < 30 → gI τ 155 p = R 144 p ∧ gI τ 156 p = R 145 p ∧ gI τ 157 p = R 146 p) ∧ Ch [155, 156, 157] [] σ τ := by
  obtain ⟨g, hg⟩ := BIGe 30 (by decide)
  rw [show F_X12_goAhead_51 BIG = F_X12_goAhead_51 (30 + 1 + g) by rw [hg]]
  obtain ⟨τ, t1, t2, t3⟩ := loop_inv (N := 30) (g := g) (cs := [155, 156, 157]) (fs := []) (G := fun f x s => F_X12_goAhead_51 f x s) (E := fun s => F_X12_goAhead_101 BIG (0 : Int32) s) (P := fun i s => (∀ j, j < 30 → gI s 144 j = R 144 j ∧ gI s 145 j = R 145 j ∧ gI s 146 j = R 146 j) ∧ ∀ j, j < i → gI s 155 j = R 144 j ∧ gI s 156 j = R 145 j ∧ gI s 157 j = R 146 j) (fun f i s hi h => by
    refine ⟨sI (sI (sI s 155 i (R 144 i)) 156 i (R 145 i)) 157 i (R 146 i), ?_, ⟨fun j hj => ?_, fun j hj => ?_⟩, ((Ch.sI1 (Or.inr (by simp))).trans (Ch.sI1 (Or.inr (by simp)))).trans (Ch.sI1 (Or.inr (by simp)))⟩
    · show B_X12_goAhead_51 (F_X12_goAhead_51 f) (nI i) s = _
      unfold B_X12_goAhead_51
      have q : inB (nI i) 30 = true := inB_n hi (by omega)
      have n : (nI i).toNatClampNeg = i := nI_clamp (by omega)
      rw [fa_lit 30, if_neg (nI_ge hi (by omega)), if_pos q, if_pos q, if_pos q, if_pos q, lt_e, if_pos q, if_pos q, n, gI_sI_row (a := 145) (by decide), (h.1 i hi).1, (h.1 i hi).2.1, nar_bb (hV i hi).2, gI_sI_row (a := 146) (by decide), gI_sI_row (a := 146) (by decide), (h.1 i hi).2.2, nI_1]
    · rw [gI_sI_row (by decide), gI_sI_row (by decide), gI_sI_row (by decide), gI_sI_row (by decide), gI_sI_row (by decide), gI_sI_row (by decide), gI_sI_row (by decide), gI_sI_row (by decide), gI_sI_row (by decide)]; exact h.1 j hj
    · by_cases e : j = i
      · subst e; rw [gI_sI_row (a := 155) (by decide), gI_sI_row (a := 155) (by decide), gI_sI_at, gI_sI_row (a := 156) (by decide), gI_sI_at, gI_sI_at]; exact ⟨rfl, rfl, rfl⟩
      · simp only [gI_sI_ne e]; exact h.2 j (by omega)) (fun f s h => by
    show B_X12_goAhead_51 (F_X12_goAhead_51 f) (nI 30) s = _
    unfold B_X12_goAhead_51
    rw [fa_lit 30, if_pos (nI_le (Nat.le_refl _) (by decide))]) 30 0 σ (by omega) ⟨hR, fun j hj => absurd hj (Nat.not_lt_zero j)⟩
  exact ⟨τ, t1, t2.2, t3⟩
theorem ahead_26 {R : Nat → Nat → Int32} {σ : AH} (hR : ∀ m, m < 5 → gI σ 142 m = R 142 m) : ∃ τ, F_X12_goAhead_26 BIG (0 : Int32) σ = F_X12_goAhead_51 BIG (0 : Int32) τ ∧ (∀ m, m < 5 → gI τ 154 m = R 142 m) ∧ Ch [154] [] σ τ := by
  obtain ⟨g, hg⟩ := BIGe 5 (by decide)
  rw [show F_X12_goAhead_26 BIG = F_X12_goAhead_26 (5 + 1 + g) by rw [hg]]
  obtain ⟨τ, t1, t2, t3⟩ := loop_inv (N := 5) (g := g) (cs := [154]) (fs := []) (G := fun f x s => F_X12_goAhead_26 f x s) (E := fun s => F_X12_goAhead_51 BIG (0 : Int32) s) (P := fun i s => (∀ j, j < 5 → gI s 142 j = R 142 j) ∧ ∀ j, j < i → gI s 154 j = R 142 j) (fun f i s hi h => by
    refine ⟨sI s 154 i (R 142 i), ?_, ⟨fun j hj => ?_, fun j hj => ?_⟩, Ch.sI1 (Or.inr (by simp))⟩
    · show B_X12_goAhead_26 (F_X12_goAhead_26 f) (nI i) s = _
      unfold B_X12_goAhead_26
      have q : inB (nI i) 5 = true := inB_n hi (by omega)
      have n : (nI i).toNatClampNeg = i := nI_clamp (by omega)
      rw [fa_lit 5, if_neg (nI_ge hi (by omega)), if_pos q, if_pos q, n, h.1 i hi, nI_1]
    · rw [gI_sI_row (by decide)]; exact h.1 j hj
    · by_cases e : j = i
      · subst e; rw [gI_sI_at]
      · rw [gI_sI_ne e]; exact h.2 j (by omega)) (fun f s h => by
    show B_X12_goAhead_26 (F_X12_goAhead_26 f) (nI 5) s = _
    unfold B_X12_goAhead_26
    rw [fa_lit 5, if_pos (nI_le (Nat.le_refl _) (by decide))]) 5 0 σ (by omega) ⟨hR, fun j hj => absurd hj (Nat.not_lt_zero j)⟩
  exact ⟨τ, t1, t2.2, t3⟩
def GAc : List Nat := RNc ++ [154, 155, 156, 157, 158, 159]
theorem F_goAhead {row : Nat → Int32} {q : Nat} {σ : AH} (hV : AV row) (hB : BV row) (hq : q < 20) (hr : gI σ 125 = row) :
    ∃ τ, F_X12_goAhead (nI q) σ = some τ ∧ KI row (kQ q) τ ∧ KpI (bfR row q) τ ∧ RV_ (bfR row q) ∧ (∀ p, p < 30 → gI τ 140 p = oI (sw row (kQ q) p)) ∧ gI τ 124 45 = 0 ∧ Ch GAc RNf σ τ := by
  unfold F_X12_goAhead
  have i1 : (13 : Int32) * nI q = kQ q := by unfold kQ; simp only [fa_lit, pk_mul]
  obtain ⟨τ1, k1, k2, k3, k4⟩ := F_knowBy (k := kQ q) (σ := σ) (row := row) hr
  obtain ⟨τ2, τ, r1, r2, r3, r4, r5, r6, r7, r8, r9⟩ := F_runs (lt_ := 0) (n := 13 * q) hV hB (by omega) k2
  rw [i1, k1, bv_some, r1, bv_some]
  have r2' : F_X12_goTo 0 (kQ q - 1) τ2 = some τ := by unfold kQ; rw [m1_eq]; exact r2
  rw [r2', bv_some]
  have at_ : ∀ c i, 142 ≤ c → c ≤ 149 → c ≠ 143 → i < lenR c → gI τ c i = bfR row q c i := fun c i h1 h2 h3 h4 => r5.at h1 h2 h3 h4
  obtain ⟨a1, b1, b2', b3⟩ := ahead_26 (R := bfR row q) (σ := τ) (fun m hm => at_ 142 m (by decide) (by decide) (by decide) hm)
  obtain ⟨a2, c1, c2, c3⟩ := ahead_51 (R := bfR row q) (σ := a1) r4 (fun p hp => by
    rw [b3.rI (by simp) (by simp), b3.rI (by simp) (by simp), b3.rI (by simp) (by simp)]
    exact ⟨at_ 144 p (by decide) (by decide) (by decide) hp, at_ 145 p (by decide) (by decide) (by decide) hp, at_ 146 p (by decide) (by decide) (by decide) hp⟩)
  have bc := (b3.mono (ds := [154, 155, 156, 157, 158, 159]) (gs := []) (by simp) (by simp)).trans (c3.mono (by simp) (by simp))
  obtain ⟨a3, d1, d2, d3⟩ := ahead_101 (R := bfR row q) (σ := a2) (fun i hi => by
    rw [bc.rI (by simp) (by simp), bc.rI (by simp) (by simp)]
    exact ⟨at_ 148 i (by decide) (by decide) (by decide) hi, at_ 149 i (by decide) (by decide) (by decide) hi⟩)
  have bd' : Ch [154, 155, 156, 157, 158, 159] [] τ a3 := bc.trans (d3.mono (by simp) (by simp))
  rw [b1, c1, d1]
  refine ⟨a3, rfl, ?_, ⟨?_, ?_, d2⟩, r4, ?_, ?_, ?_⟩
  · exact r3.ch bd' (r3.2.2.1.ch bd' (by simp) (by simp) (by simp) (by simp)) (by simp) (by simp) (by simp) (by simp) (by simp)
  · rw [d3.rI (by simp) (by simp), c3.rI (by simp) (by simp)]; exact b2'
  · rw [d3.rI (by simp) (by simp), d3.rI (by simp) (by simp), d3.rI (by simp) (by simp)]; exact c2
  · rw [bd'.rI (by simp) (by simp)]; exact r6
  · rw [bd'.rI (by simp) (by simp)]; exact r8
  · exact ((k4.mono (by simp [RNc, GAc]) (by simp [RNf])).trans (r9.mono (fun i hi => List.mem_append_left _ hi) (fun q hq => Or.inl hq))).trans (bd'.mono (by simp [GAc]) (by simp))
end
