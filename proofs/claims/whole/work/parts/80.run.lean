section
/-! a whole RUN of the class -/
def rw_ (row : Nat → Int32) (k : Int32) (l : Nat) (s : Nat → Option Nat) (n : Nat) : Nat → Nat → Int32 := rnS row k (nI l) s (lic row k s) 0 R0 n
theorem rw_s {row : Nat → Int32} {k : Int32} {l : Nat} {s : Nat → Option Nat} {n : Nat} : rw_ row k l s (n + 1) = gwR row k (nI l) s (lic row k s) n (rw_ row k l s n) := by
  unfold rw_
  have e : rnS row k (nI l) s (lic row k s) 0 R0 (n + 1) = gwR row k (nI l) s (lic row k s) (0 + n) (rnS row k (nI l) s (lic row k s) 0 R0 n) := rfl
  rw [e, Nat.zero_add]
/-- when a STAGE began, as 'lacks' will ask: for every WEEK that passed -/
def HbI (row : Nat → Int32) (k : Int32) (l : Nat) (s : Nat → Option Nat) (b n : Nat) (σ : AH) : Prop :=
  (∀ i, i < 90 → gI σ (b + 7) i = -1 ∨ ∃ v, v < n ∧ gI σ (b + 7) i = nI v) ∧
  ∀ w, w < n → ∀ x, x ∈ linW (nP row) s (lic row k s) (w + 1) → pL row x ≤ w → cl (rw_ row k l s (w + 1) 144 x) < 3 → rw_ row k l s (w + 1) 145 x = 0 →
    (rw_ row k l s (w + 1) 147 x = 0 → ∃ v, v ≤ w ∧ gI σ (b + 7) (3 * x + cl (rw_ row k l s (w + 1) 144 x)) = nI v) ∧
    (rw_ row k l s (w + 1) 147 x ≠ 0 → gI σ (b + 7) (3 * x + cl (rw_ row k l s (w + 1) 144 x)) = -1 ∨ ∃ v, w < v ∧ v < n ∧ gI σ (b + 7) (3 * x + cl (rw_ row k l s (w + 1) 144 x)) = nI v)
theorem HbI_step {row : Nat → Int32} {k : Int32} {l : Nat} {s : Nat → Option Nat} {b n : Nat} {σ τ : AH} (hN : nP row ≤ 30) (hn : n < 260) (h : HbI row k l s b n σ) (h1 : ∀ x, x ∈ linW (nP row) s (lic row k s) (n + 1) → pL row x ≤ n → BgP b (rw_ row k l s (n + 1)) x τ) (h2 : ∀ i, gI τ (b + 7) i = gI σ (b + 7) i ∨ (gI σ (b + 7) i = -1 ∧ gI τ (b + 7) i = nI n)) : HbI row k l s b (n + 1) τ := by
  have v1 : ∀ i, i < 90 → gI τ (b + 7) i = -1 ∨ ∃ v, v < n + 1 ∧ gI τ (b + 7) i = nI v := fun i hi => by
    rcases h2 i with a | ⟨_, a⟩
    · rw [a]
      rcases h.1 i hi with c | ⟨v, c1, c2⟩
      · exact Or.inl c
      · exact Or.inr ⟨v, by omega, c2⟩
    · exact Or.inr ⟨n, by omega, a⟩
  have same : ∀ i v, v < n → gI σ (b + 7) i = nI v → gI τ (b + 7) i = nI v := fun i v hv e => by
    rcases h2 i with a | ⟨a, _⟩
    · rw [a]; exact e
    · rw [e] at a; exact absurd a (nI_neg1 (by omega))
  refine ⟨v1, fun w hw x hx hl h3 h4 => ?_⟩
  by_cases c : w = n
  · subst c
    have := h1 x hx hl h3 h4
    have hxn := ((linW_mem _ x).mp hx).1
    refine ⟨fun z => ?_, fun z => Or.inl (this.2 z)⟩
    rcases v1 (3 * x + cl (rw_ row k l s (w + 1) 144 x)) (by omega) with q | ⟨v, q1, q2⟩
    · exact absurd q (this.1 z)
    · exact ⟨v, by omega, q2⟩
  · obtain ⟨g1, g2⟩ := h.2 w (by omega) x hx hl h3 h4
    refine ⟨fun z => ?_, fun z => ?_⟩
    · obtain ⟨v, q1, q2⟩ := g1 z
      exact ⟨v, q1, same _ v (by omega) q2⟩
    · rcases g2 z with q | ⟨v, q1, q2, q3⟩
      · rcases h2 (3 * x + cl (rw_ row k l s (w + 1) 144 x)) with a | ⟨_, a⟩
        · exact Or.inl (by rw [a]; exact q)
        · exact Or.inr ⟨n, by omega, by omega, a⟩
      · exact Or.inr ⟨v, q1, by omega, same _ v q2 q3⟩
theorem SiI.ch {row : Nat → Int32} {k : Int32} {s : Nat → Option Nat} {b w : Nat} {R : Nat → Nat → Int32} {σ τ : AH} {cs : List Nat} (h : SiI row k s b w R σ) (c : Ch cs [] σ τ) (h1 : ∀ i ∈ cs, i ≠ 37 ∧ (i < b ∨ b + 9 < i)) : SiI row k s b w R τ := by
  obtain ⟨a1, a2, a3, a4, a5⟩ := h
  have no : ∀ i, (i = 37 ∨ (b ≤ i ∧ i ≤ b + 9)) → i ∉ cs := fun i hi q => by have := h1 i q; omega
  have e37 : gI τ 37 = gI σ 37 := c.rI (no 37 (Or.inl rfl)) (by simp)
  have e7 : gI τ (b + 7) = gI σ (b + 7) := c.rI (no _ (by omega)) (by simp)
  refine ⟨?_, a2, a3, ?_, ?_⟩
  · rw [e37]
    exact a1.ch c (fun i hi => no i (by unfold sib at hi; simp at hi; omega)) (by simp)
  · exact a4.of (fun q hq => Nat.le_refl _) (fun q hq s hs hc => by rw [e7])
  · exact a5.ch c ⟨no _ (by omega), no _ (by omega), no _ (by omega), no _ (by omega)⟩ (by simp)
def RnI (row : Nat → Int32) (k : Int32) (l : Nat) (s : Nat → Option Nat) (a n : Nat) (σ : AH) : Prop :=
  SiI row k s (a + 1) n (rw_ row k l s n) σ ∧ (∀ w m, w < n → m < 5 → gI σ (a + 11) (w * 5 + m) = rw_ row k l s (w + 1) 142 m) ∧ HbI row k l s (a + 1) n σ
def RUc (a : Nat) : List Nat := (a + 11) :: PWc (a + 1)
def RUf (a : Nat) : List (Nat × Nat) := PWf (a + 1)
theorem runs_loop {row : Nat → Int32} {k : Int32} {l : Nat} {s : Nat → Option Nat} {a g : Nat} {G : Nat → Int32 → AH → Option (Nat × AH)} (hV : AV row) (hW : AW row) (hB : BV row) (hs : ∀ p w, s p = some w → w < 260) (ha : 43 < a ∧ a + 20 < 124)
    (hst : ∀ f w σ, w < 260 → G (f + 1) (nI w) σ = bv (F_X10_passWeek (a + 1) (nI w) σ) fun σ1 => bv (F_X6_keepStock a (nI w) σ1) fun σ2 => G f (nI (w + 1)) σ2) (hen : ∀ f σ, G (f + 1) (nI 260) σ = some (a, σ)) : ∀ (j w : Nat) (σ : AH), w + j = 260 → YdS row k l s σ → RnI row k l s a w σ →
    ∃ τ, G (j + 1 + g) (nI w) σ = some (a, τ) ∧ YdS row k l s τ ∧ RnI row k l s a 260 τ ∧ Ch (RUc a) (RUf a) σ τ := by
  have hN : nP row ≤ 30 := hB.p.2.1
  intro j
  induction j with
  | zero =>
    intro w σ hw hD hR
    have : w = 260 := by omega
    subst this
    rw [show 0 + 1 + g = g + 1 by omega, hen]
    exact ⟨σ, rfl, hD, hR, Ch.rf _⟩
  | succ j ih =>
    intro w σ hw hD hR
    have hb : 44 < a + 1 ∧ a + 1 + 9 < 124 := by omega
    obtain ⟨r1, r2, r3⟩ := hR
    obtain ⟨τ1, t1, t2, t3, t4, t5, t6⟩ := F_passWeek hV hW hB hs hb (w := w) (by omega) hD r1
    obtain ⟨τ2, u1, u2, u3, u4⟩ := F_keepStock (a := a) (w := w) (σ := τ1) (by omega)
    rw [show j + 1 + 1 + g = (j + 1 + g) + 1 by omega, hst _ w σ (by omega), t1, bv_some, u1, bv_some]
    rw [← rw_s] at t3 t4
    have hb' : 44 < a + 11 ∧ a + 11 + 9 < 124 := by omega
    obtain ⟨d1, d2, d3, d4, d5⟩ := t2
    have D2 : YdS row k l s τ2 := ⟨d1.site hb' u4 (by simp), d2.site hb' u4 (by simp), by rw [u4.rI (by simp; omega) (by simp)]; exact d3, by rw [u4.rI (by simp; omega) (by simp)]; exact d4, d5.ch u4 (by simp; omega) (by simp)⟩
    have I2 : SiI row k s (a + 1) (w + 1) (rw_ row k l s (w + 1)) τ2 := t3.ch u4 (by simp; omega)
    have e7 : gI τ2 (a + 1 + 7) = gI τ1 (a + 1 + 7) := u4.rI (by simp) (by simp)
    have e11 : gI τ1 (a + 11) = gI σ (a + 11) := t6.rI (by simp [PWc]; omega) (by simp [PWf]; omega)
    have H2 : HbI row k l s (a + 1) (w + 1) τ2 := HbI_step hN (by omega) r3 (fun x hx hl => by
      have := t4 x hx hl
      unfold BgP at this ⊢
      rw [e7]; exact this) (fun i => by rw [e7]; exact t5 i)
    obtain ⟨τ3, v1, v2, v3, v4⟩ := ih (w + 1) τ2 (by omega) D2 ⟨I2, fun w' m hw' hm => by
      by_cases c : w' = w
      · subst c
        rw [u2 m hm, t3.1.1 m hm, up_ne _ _ _ (by decide)]
      · rw [u3 _ (by omega), e11]; exact r2 w' m (by omega) hm, H2⟩
    exact ⟨τ3, v1, v2, v3, ((t6.mono (by simp [RUc, PWc]) (by simp [RUf, PWf])).trans (u4.mono (by simp [RUc]) (by simp))).trans v4⟩
end
