section
/-! what a RUN has written of a PLOT's STAGES, and that it stays -/
def TkI (n : Nat) (R : Nat → Nat → Int32) : Prop := ∀ p, p < 30 → ∀ s, s < 3 →
  ((s < cl (R 144 p) ∧ ∃ v, v < n ∧ R 149 (3 * p + s) = nI v) ∨ (cl (R 144 p) ≤ s ∧ R 149 (3 * p + s) = -1)) ∧
  (((s < cl (R 144 p) ∨ (s = cl (R 144 p) ∧ R 145 p = 1)) ∧ ∃ v, v < n ∧ R 148 (3 * p + s) = nI v) ∨ ((cl (R 144 p) < s ∨ (s = cl (R 144 p) ∧ R 145 p = 0)) ∧ R 148 (3 * p + s) = -1))
def Kp (w : Nat) (R R' : Nat → Nat → Int32) : Prop := ∀ c, (c = 148 ∨ c = 149) → ∀ i, R' c i = R c i ∨ (R c i = -1 ∧ R' c i = nI w)
theorem Kp.rf (w : Nat) (R : Nat → Nat → Int32) : Kp w R R := fun c _ i => Or.inl rfl
theorem Kp.tr {w : Nat} {R R' R2 : Nat → Nat → Int32} (hw : w < 2 ^ 31) (h : Kp w R R') (h2 : Kp w R' R2) : Kp w R R2 := fun c hc i => by
  rcases h c hc i with a | ⟨a, b⟩
  · rcases h2 c hc i with d | ⟨d, e⟩
    · exact Or.inl (by rw [d, a])
    · exact Or.inr ⟨by rw [← a]; exact d, e⟩
  · rcases h2 c hc i with d | ⟨d, e⟩
    · exact Or.inr ⟨a, by rw [d, b]⟩
    · rw [b] at d; exact absurd d (nI_neg1 hw)
theorem TkI.up {n m : Nat} {R : Nat → Nat → Int32} (h : TkI n R) (hm : n ≤ m) : TkI m R := fun p hp s hs => by
  obtain ⟨a, b⟩ := h p hp s hs
  refine ⟨?_, ?_⟩
  · rcases a with ⟨a, v, c, d⟩ | a
    · exact Or.inl ⟨a, v, by omega, d⟩
    · exact Or.inr a
  · rcases b with ⟨a, v, c, d⟩ | a
    · exact Or.inl ⟨a, v, by omega, d⟩
    · exact Or.inr a
/-- a STAGE begins -/
theorem Tk_a {n w p : Nat} {R R' : Nat → Nat → Int32} (h : TkI n R) (hp : p < 30) (h3 : cl (R 144 p) < 3) (h0 : R 145 p = 0) (hw : w < n) (e144 : R' 144 = R 144) (e145 : R' 145 p = 1) (f145 : ∀ q, q ≠ p → R' 145 q = R 145 q) (e149 : R' 149 = R 149) (e148 : R' 148 (3 * p + cl (R 144 p)) = nI w) (f148 : ∀ i, i ≠ 3 * p + cl (R 144 p) → R' 148 i = R 148 i) : TkI n R' ∧ Kp w R R' := by
  have was : R 148 (3 * p + cl (R 144 p)) = -1 := by
    rcases (h p hp _ h3).2 with ⟨a, _⟩ | ⟨_, a⟩
    · rcases a with a | ⟨_, a⟩
      · omega
      · rw [h0] at a; exact absurd a (by decide)
    · exact a
  refine ⟨fun q hq s hs => ?_, fun c hc i => ?_⟩
  · obtain ⟨a, b⟩ := h q hq s hs
    refine ⟨by rw [e144, e149]; exact a, ?_⟩
    rw [e144]
    by_cases eq : q = p
    · subst eq
      by_cases es : s = cl (R 144 q)
      · rw [es]; exact Or.inl ⟨Or.inr ⟨rfl, e145⟩, w, hw, e148⟩
      · rw [f148 _ (by omega)]
        rcases b with ⟨c, d⟩ | ⟨c, d⟩
        · exact Or.inl ⟨Or.inl (by rcases c with c | c <;> omega), d⟩
        · exact Or.inr ⟨Or.inl (by rcases c with c | c <;> omega), d⟩
    · rw [f148 _ (by omega), f145 q eq]; exact b
  · rcases hc with c | c
    · subst c
      by_cases e : i = 3 * p + cl (R 144 p)
      · subst e; exact Or.inr ⟨was, e148⟩
      · exact Or.inl (f148 i e)
    · subst c; exact Or.inl (by rw [e149])
/-- a STAGE is over -/
theorem Tk_b {n w p : Nat} {R R' : Nat → Nat → Int32} (h : TkI n R) (hp : p < 30) (h3 : cl (R 144 p) < 3) (h0 : R 145 p = 1) (hw : w < n) (e144 : cl (R' 144 p) = cl (R 144 p) + 1) (f144 : ∀ q, q ≠ p → R' 144 q = R 144 q) (e145 : R' 145 p = 0) (f145 : ∀ q, q ≠ p → R' 145 q = R 145 q) (e148 : R' 148 = R 148) (e149 : R' 149 (3 * p + cl (R 144 p)) = nI w) (f149 : ∀ i, i ≠ 3 * p + cl (R 144 p) → R' 149 i = R 149 i) : TkI n R' ∧ Kp w R R' := by
  have was : R 149 (3 * p + cl (R 144 p)) = -1 := by
    rcases (h p hp _ h3).1 with ⟨a, _⟩ | ⟨_, a⟩
    · omega
    · exact a
  refine ⟨fun q hq s hs => ?_, fun c hc i => ?_⟩
  · obtain ⟨a, b⟩ := h q hq s hs
    by_cases eq : q = p
    · subst eq
      rw [e144, e148]
      refine ⟨?_, ?_⟩
      · by_cases es : s = cl (R 144 q)
        · rw [es]; exact Or.inl ⟨by omega, w, hw, e149⟩
        · rw [f149 _ (by omega)]
          rcases a with ⟨c, d⟩ | ⟨c, d⟩
          · exact Or.inl ⟨by omega, d⟩
          · exact Or.inr ⟨by omega, d⟩
      · rcases b with ⟨c, d⟩ | ⟨c, d⟩
        · exact Or.inl ⟨Or.inl (by rcases c with c | c <;> omega), d⟩
        · refine Or.inr ⟨?_, d⟩
          rcases c with c | ⟨c, c2⟩
          · by_cases z : s = cl (R 144 q) + 1
            · exact Or.inr ⟨z, e145⟩
            · exact Or.inl (by omega)
          · rw [h0] at c2; exact absurd c2 (by decide)
    · rw [f144 q eq, f145 q eq, e148, f149 _ (by omega)]; exact ⟨a, b⟩
  · rcases hc with c | c
    · subst c; exact Or.inl (by rw [e148])
    · subst c
      by_cases e : i = 3 * p + cl (R 144 p)
      · subst e; exact Or.inr ⟨was, e149⟩
      · exact Or.inl (f149 i e)
theorem Tk_c {n w : Nat} {R R' : Nat → Nat → Int32} (h : TkI n R) (e : ∀ c, (c = 144 ∨ c = 145 ∨ c = 148 ∨ c = 149) → R' c = R c) : TkI n R' ∧ Kp w R R' := by
  refine ⟨fun q hq s hs => ?_, fun c hc i => Or.inl ?_⟩
  · rw [e 144 (by simp), e 145 (by simp), e 148 (by simp), e 149 (by simp)]; exact h q hq s hs
  · rw [e c (by rcases hc with c | c <;> simp [c])]
theorem Tk_to {row : Nat → Int32} {k : Int32} {n w p : Nat} {R : Nat → Nat → Int32} (h : TkI n R) (hp : p < 30) (h3 : cl (R 144 p) < 3) (h0 : R 145 p = 0) (hw : w < n) : TkI n (toR row k w p R) ∧ Kp w R (toR row k w p R) := by
  refine Tk_a h hp h3 h0 hw to144 to145 (fun q hq => ?_) ?_ ?_ (fun i hi => ?_)
  · unfold toR; rw [rU_ne hq, rU_row (by decide), rU_ne hq, tkS_row (by decide)]
  · unfold toR; rw [rU_row (by decide), rU_row (by decide), rU_row (by decide), tkS_row (by decide)]
  · unfold toR; rw [rU_row (by decide), rU_at]
  · unfold toR; rw [rU_row (by decide), rU_ne hi, rU_row (by decide), tkS_row (by decide)]
theorem Tk_fn {n w p : Nat} {R : Nat → Nat → Int32} (h : TkI n R) (hR : RV_ R) (hp : p < 30) (h3 : cl (R 144 p) < 3) (h0 : R 145 p = 1) (hw : w < n) : TkI n (fnR w p R) ∧ Kp w R (fnR w p R) := by
  refine Tk_b h hp h3 h0 hw (fn144 (hR p hp).1 h3) (fun q hq => ?_) ?_ (fun q hq => ?_) ?_ ?_ (fun i hi => ?_)
  · unfold fnR; rw [rU_ne hq, rU_ne hq, rU_row (by decide)]
  · unfold fnR; rw [rU_at]
  · unfold fnR; rw [rU_ne hq, rU_row (by decide), rU_row (by decide)]
  · unfold fnR; rw [rU_row (by decide), rU_row (by decide), rU_row (by decide)]
  · unfold fnR; rw [rU_row (by decide), rU_row (by decide), rU_at]
  · unfold fnR; rw [rU_row (by decide), rU_row (by decide), rU_ne hi]
theorem Tk_ga {row : Nat → Int32} {n w p : Nat} {R : Nat → Nat → Int32} (h : TkI n R) (hR : RV_ R) (hp : p < 30) (h3 : cl (R 144 p) < 3) (h0 : R 145 p = 1) (hw : w < n) (hn : n < 2 ^ 31) : TkI n (gaR row w p R) ∧ Kp w R (gaR row w p R) := by
  have g1 : ∀ c, (c = 144 ∨ c = 145 ∨ c = 148 ∨ c = 149) → gaR1 row p R c = R c := fun c hc => by
    unfold gaR1; rw [rU_row (by omega), rU_row (by omega)]
  have k1 := Tk_c (w := w) h g1
  have r1 : RV_ (gaR1 row p R) := fun q hq => by rw [g1 144 (by simp), g1 145 (by simp)]; exact hR q hq
  unfold gaR
  split
  · exact ⟨h, Kp.rf _ _⟩
  · split
    · have k2 := Tk_fn (w := w) k1.1 r1 hp (by rw [g1 144 (by simp)]; exact h3) (by rw [g1 145 (by simp)]; exact h0) hw
      have k3 := Tk_c (w := w) (R' := rU (fnR w p (gaR1 row p R)) 147 p 1) k2.1 (fun c hc => rU_row (by omega))
      exact ⟨k3.1, (k1.2.tr (by omega) k2.2).tr (by omega) k3.2⟩
    · exact k1
theorem Tk_gp {row : Nat → Int32} {k : Int32} {n w p : Nat} (hp : p < 30) (hw : w < n) (hn : n < 2 ^ 31) : ∀ (f : Nat) (R : Nat → Nat → Int32), RV_ R → TkI n R → TkI n (gpS row k w p f R) ∧ Kp w R (gpS row k w p f R) := by
  intro f
  induction f with
  | zero => intro R _ h; exact ⟨h, Kp.rf _ _⟩
  | succ f ih =>
    intro R hR h
    unfold gpS
    by_cases c : (3 : Int32) ≤ R 144 p
    · rw [if_pos c]; exact ⟨h, Kp.rf _ _⟩
    · rw [if_neg c]
      have h3 := lt3 (hR p hp).1 c
      by_cases d : R 145 p = 0
      · rw [if_pos d]
        by_cases e : ctS row k w p R 5 = true
        · rw [if_pos e]
          have k1 := Tk_to (row := row) (k := k) h hp h3 d hw
          have r1 : RV_ (toR row k w p R) := RV_toR hR
          have h3' : cl (toR row k w p R 144 p) < 3 := by rw [to144]; exact h3
          by_cases z : toR row k w p R 146 p = 0
          · rw [if_pos z]
            have k2 := Tk_fn (w := w) k1.1 r1 hp h3' to145 hw
            have k3 := ih _ (RV_fnR r1 hp h3') k2.1
            exact ⟨k3.1, (k1.2.tr (by omega) k2.2).tr (by omega) k3.2⟩
          · rw [if_neg z]
            have k2 := Tk_ga (row := row) (w := w) k1.1 r1 hp h3' to145 hw hn
            exact ⟨k2.1, k1.2.tr (by omega) k2.2⟩
        · rw [if_neg e]; exact ⟨h, Kp.rf _ _⟩
      · rw [if_neg d]
        exact Tk_ga h hR hp h3 (by rcases (hR p hp).2 with q | q; exact absurd q d; exact q) hw hn
theorem Tk_gwF {row : Nat → Int32} {k : Int32} {n w : Nat} (hw : w < n) (hn : n < 2 ^ 31) : ∀ (L : List Nat) (R : Nat → Nat → Int32), (∀ x, x ∈ L → x < 30) → RV_ R → TkI n R → TkI n (gwF row k w L R) ∧ Kp w R (gwF row k w L R) := by
  intro L
  induction L with
  | nil => intro R _ _ h; exact ⟨h, Kp.rf _ _⟩
  | cons x L ih =>
    intro R hL hR h
    have k1 := Tk_gp (row := row) (k := k) (hL x (List.mem_cons_self ..)) hw hn 4 R hR h
    have r1 : RV_ (gpR row k w x R) := RV_gpS (hL x (List.mem_cons_self ..)) 4 R hR
    have k2 := ih (gpR row k w x R) (fun y hy => hL y (List.mem_cons_of_mem _ hy)) r1 k1.1
    exact ⟨k2.1, k1.2.tr (by omega) k2.2⟩
theorem Tk_gw {row : Nat → Int32} {k lt_ : Int32} {s : Nat → Option Nat} {lc : Nat → Bool} {n w : Nat} {R : Nat → Nat → Int32} (hN : nP row ≤ 30) (hw : w < n) (hn : n < 2 ^ 31) (hR : RV_ R) (h : TkI n R) : TkI n (gwR row k lt_ s lc w R) ∧ Kp w R (gwR row k lt_ s lc w R) ∧ RV_ (gwR row k lt_ s lc w R) := by
  have e : ∀ c, c ≠ 142 → c ≠ 143 → c ≠ 147 → jzS (va_up (va_up R 142 (wkS row (nI w) (dvS row k lt_ (nI w) (R 142) (nD row)) (nW row))) 143 (fun c => gg row k (nI c) (nI w))) (nP row) c = R c := fun c h1 h2 h3 => by
    rw [jzS_row h3, up_ne _ _ _ h2, up_ne _ _ _ h1]
  have k1 := Tk_c (w := w) (R' := jzS (va_up (va_up R 142 (wkS row (nI w) (dvS row k lt_ (nI w) (R 142) (nD row)) (nW row))) 143 (fun c => gg row k (nI c) (nI w))) (nP row)) h (fun c hc => e c (by omega) (by omega) (by omega))
  have r1 : RV_ (jzS (va_up (va_up R 142 (wkS row (nI w) (dvS row k lt_ (nI w) (R 142) (nD row)) (nW row))) 143 (fun c => gg row k (nI c) (nI w))) (nP row)) := fun q hq => by rw [e 144 (by decide) (by decide) (by decide), e 145 (by decide) (by decide) (by decide)]; exact hR q hq
  have hL : ∀ x, x ∈ (ordS row s lc R w (firstV row k w) (nP row)).reverse → x < 30 := fun x hx => by
    have := ordS_mem _ x (List.mem_reverse.mp hx); omega
  have k2 := Tk_gwF (row := row) (k := k) hw hn _ _ hL r1 k1.1
  unfold gwR
  exact ⟨k2.1, k1.2.tr (by omega) k2.2, RV_gwF _ _ r1 hL⟩
theorem TkI_0 : TkI 0 R0 := fun p hp s hs => ⟨Or.inr ⟨Nat.zero_le _, rfl⟩, Or.inr ⟨by
  have : cl (R0 144 p) = 0 := rfl
  rw [this]
  rcases Nat.eq_zero_or_pos s with z | z
  · exact Or.inr ⟨z, rfl⟩
  · exact Or.inl z, rfl⟩⟩
theorem rw_tk {row : Nat → Int32} {k : Int32} {l : Nat} {s : Nat → Option Nat} (hN : nP row ≤ 30) : ∀ n, n ≤ 260 → TkI n (rw_ row k l s n) ∧ RV_ (rw_ row k l s n) := by
  intro n
  induction n with
  | zero => intro _; exact ⟨TkI_0, RV_R0⟩
  | succ n ih =>
    intro hn
    obtain ⟨a, b⟩ := ih (by omega)
    have := Tk_gw (row := row) (k := k) (lt_ := nI l) (s := s) (lc := lic row k s) (w := n) hN (Nat.lt_succ_self n) (by omega) b (a.up (Nat.le_succ n))
    rw [rw_s]
    exact ⟨this.1, this.2.2⟩
theorem rw_k {row : Nat → Int32} {k : Int32} {l : Nat} {s : Nat → Option Nat} (hN : nP row ≤ 30) {n : Nat} : ∀ j, n + j ≤ 260 → ∀ c, (c = 148 ∨ c = 149) → ∀ i, rw_ row k l s (n + j) c i = rw_ row k l s n c i ∨ (rw_ row k l s n c i = -1 ∧ ∃ v, n ≤ v ∧ v < n + j ∧ rw_ row k l s (n + j) c i = nI v) := by
  intro j
  induction j with
  | zero => intro _ c hc i; exact Or.inl rfl
  | succ j ih =>
    intro hj c hc i
    obtain ⟨a, b⟩ := rw_tk (row := row) (k := k) (l := l) (s := s) hN (n + j) (by omega)
    have st := (Tk_gw (row := row) (k := k) (lt_ := nI l) (s := s) (lc := lic row k s) (w := n + j) hN (Nat.lt_succ_self (n + j)) (by omega) b (a.up (Nat.le_succ _))).2.1 c hc i
    rw [show n + (j + 1) = (n + j) + 1 by omega, rw_s]
    rcases ih (by omega) c hc i with d | ⟨d, v, v1, v2, v3⟩
    · rcases st with e | ⟨e, f⟩
      · exact Or.inl (by rw [e, d])
      · exact Or.inr ⟨by rw [← d]; exact e, n + j, by omega, by omega, f⟩
    · rcases st with e | ⟨e, f⟩
      · exact Or.inr ⟨d, v, v1, by omega, by rw [e, v3]⟩
      · rw [v3] at e; exact absurd e (nI_neg1 (by omega))
/-- at the end of all WEEKS: which STAGES were over, begun, by the end of WEEK w -/
theorem rw_over {row : Nat → Int32} {k : Int32} {l : Nat} {s : Nat → Option Nat} (hN : nP row ≤ 30) {w p st : Nat} (hw : w < 260) (hp : p < 30) (hst : st < 3) :
    (st < cl (rw_ row k l s (w + 1) 144 p) → ∃ v, v ≤ w ∧ rw_ row k l s 260 149 (3 * p + st) = nI v) ∧ (cl (rw_ row k l s (w + 1) 144 p) ≤ st → rw_ row k l s 260 149 (3 * p + st) = -1 ∨ ∃ v, w < v ∧ v < 260 ∧ rw_ row k l s 260 149 (3 * p + st) = nI v) := by
  obtain ⟨a, _⟩ := rw_tk (row := row) (k := k) (l := l) (s := s) hN (w + 1) (by omega)
  have kk := rw_k (row := row) (k := k) (l := l) (s := s) hN (n := w + 1) (260 - (w + 1)) (by omega) 149 (Or.inr rfl) (3 * p + st)
  rw [show w + 1 + (260 - (w + 1)) = 260 by omega] at kk
  have t := (a p hp st hst).1
  refine ⟨fun h => ?_, fun h => ?_⟩
  · rcases t with ⟨_, v, v1, v2⟩ | ⟨z, _⟩
    · refine ⟨v, by omega, ?_⟩
      rcases kk with e | ⟨e, _⟩
      · rw [e, v2]
      · rw [v2] at e; exact absurd e (nI_neg1 (by omega))
    · omega
  · rcases t with ⟨z, _⟩ | ⟨_, z⟩
    · omega
    · rcases kk with e | ⟨_, v, v1, v2, v3⟩
      · exact Or.inl (by rw [e, z])
      · exact Or.inr ⟨v, by omega, by omega, v3⟩
theorem rw_took {row : Nat → Int32} {k : Int32} {l : Nat} {s : Nat → Option Nat} (hN : nP row ≤ 30) {w p : Nat} (hw : w < 260) (hp : p < 30) (hst : cl (rw_ row k l s (w + 1) 144 p) < 3) :
    (rw_ row k l s (w + 1) 145 p = 1 → ∃ v, v ≤ w ∧ rw_ row k l s 260 148 (3 * p + cl (rw_ row k l s (w + 1) 144 p)) = nI v) ∧ (rw_ row k l s (w + 1) 145 p = 0 → rw_ row k l s 260 148 (3 * p + cl (rw_ row k l s (w + 1) 144 p)) = -1 ∨ ∃ v, w < v ∧ v < 260 ∧ rw_ row k l s 260 148 (3 * p + cl (rw_ row k l s (w + 1) 144 p)) = nI v) := by
  obtain ⟨a, _⟩ := rw_tk (row := row) (k := k) (l := l) (s := s) hN (w + 1) (by omega)
  have kk := rw_k (row := row) (k := k) (l := l) (s := s) hN (n := w + 1) (260 - (w + 1)) (by omega) 148 (Or.inl rfl) (3 * p + cl (rw_ row k l s (w + 1) 144 p))
  rw [show w + 1 + (260 - (w + 1)) = 260 by omega] at kk
  have t := (a p hp _ hst).2
  refine ⟨fun h => ?_, fun h => ?_⟩
  · rcases t with ⟨_, v, v1, v2⟩ | ⟨z, _⟩
    · refine ⟨v, by omega, ?_⟩
      rcases kk with e | ⟨e, _⟩
      · rw [e, v2]
      · rw [v2] at e; exact absurd e (nI_neg1 (by omega))
    · rcases z with z | ⟨_, z⟩
      · omega
      · rw [h] at z; exact absurd z (by decide)
  · rcases t with ⟨z, _⟩ | ⟨_, z⟩
    · rcases z with z | ⟨_, z⟩
      · omega
      · rw [h] at z; exact absurd z (by decide)
    · rcases kk with e | ⟨_, v, v1, v2, v3⟩
      · exact Or.inl (by rw [e, z])
      · exact Or.inr ⟨v, by omega, by omega, v3⟩
end
