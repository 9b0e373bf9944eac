section
/-! the class joins FAMILIES -/
def mo (u v : Nat) (y : Int32) : Int32 := if y = nI u ∨ y = nI v then nI (min u v) else y
theorem imin_n {u v : Nat} (hu : u < 2 ^ 31) (hv : v < 2 ^ 31) : imin (nI u) (nI v) = nI (min u v) := by
  unfold imin
  by_cases c : v < u
  · rw [if_pos (nI_lt c hu), Nat.min_eq_right (by omega)]
  · rw [if_neg (nI_nlt (by omega) hv), Nat.min_eq_left (by omega)]
theorem F_makeOne {u v e : Nat} {σ : AH} (hu : u < 60) (hv : v < 60) (he : e < 60) : ∃ τ, F_X4_makeOne (nI u) (nI v) (nI e) σ = some τ ∧ (∀ x, x ≤ e → gI τ 114 x = mo u v (gI σ 114 x)) ∧ Ch [114] [] σ τ := by
  unfold F_X4_makeOne
  rw [imin_n (by omega) (by omega)]
  obtain ⟨g, hg⟩ := BIGe (e + 1) (by omega)
  rw [hg]
  obtain ⟨τ, t1, t2, t3⟩ := loop_inv (N := e + 1) (g := g) (cs := [114]) (fs := []) (G := fun f x s => F_X4_makeOne_10 f (nI u) (nI v) (nI e) (nI (min u v)) x s) (E := fun s => some s) (P := fun i s => ∀ x, x ≤ e → gI s 114 x = if x < i then mo u v (gI σ 114 x) else gI σ 114 x) (fun f i s hi h => by
    have q : inB (nI i) 60 = true := inB_n (by omega) (by omega)
    have n : (nI i).toNatClampNeg = i := nI_clamp (by omega)
    have hi' := h i (by omega)
    rw [if_neg (Nat.lt_irrefl i)] at hi'
    have un : F_X4_makeOne_10 (f + 1) (nI u) (nI v) (nI e) (nI (min u v)) (nI i) s = if gI σ 114 i = nI u ∨ gI σ 114 i = nI v then F_X4_makeOne_10 f (nI u) (nI v) (nI e) (nI (min u v)) (nI (i + 1)) (sI s 114 i (nI (min u v))) else F_X4_makeOne_10 f (nI u) (nI v) (nI e) (nI (min u v)) (nI (i + 1)) s := by
      show B_X4_makeOne_10 (F_X4_makeOne_10 f) (nI u) (nI v) (nI e) (nI (min u v)) (nI i) s = _
      unfold B_X4_makeOne_10 F_X4_makeOne_38 F_X4_makeOne_47
      rw [if_neg (nI_nlt (by omega) (by omega))]
      simp only [q, n, if_true, hi', nI_1]
      by_cases c1 : gI σ 114 i = nI u
      · rw [if_pos c1, if_pos (Or.inl c1)]
      · rw [if_neg c1]
        by_cases c2 : gI σ 114 i = nI v
        · rw [if_pos c2, if_pos (Or.inr c2)]
        · rw [if_neg c2, if_neg (fun z => z.elim c1 c2)]
    show ∃ τ, F_X4_makeOne_10 (f + 1) (nI u) (nI v) (nI e) (nI (min u v)) (nI i) s = F_X4_makeOne_10 f (nI u) (nI v) (nI e) (nI (min u v)) (nI (i + 1)) τ ∧ _
    rw [un]
    by_cases c : gI σ 114 i = nI u ∨ gI σ 114 i = nI v
    · rw [if_pos c]
      refine ⟨_, rfl, fun x hx => ?_, Ch.sI1 (Or.inr (by simp))⟩
      by_cases ex : x = i
      · subst ex; rw [gI_sI_at, if_pos (Nat.lt_succ_self x)]; unfold mo; rw [if_pos c]
      · rw [gI_sI_ne ex, h x hx]
        by_cases y : x < i
        · rw [if_pos y, if_pos (by omega)]
        · rw [if_neg y, if_neg (by omega)]
    · rw [if_neg c]
      refine ⟨_, rfl, fun x hx => ?_, Ch.rf _⟩
      by_cases ex : x = i
      · subst ex; rw [hi', if_pos (Nat.lt_succ_self x)]; unfold mo; rw [if_neg c]
      · rw [h x hx]
        by_cases y : x < i
        · rw [if_pos y, if_pos (by omega)]
        · rw [if_neg y, if_neg (by omega)]) (fun f s h => by
    show B_X4_makeOne_10 (F_X4_makeOne_10 f) (nI u) (nI v) (nI e) (nI (min u v)) (nI (e + 1)) s = _
    unfold B_X4_makeOne_10
    rw [if_pos (nI_lt (Nat.lt_succ_self e) (by omega))]) (e + 1) 0 σ (by omega) (fun x hx => by rw [if_neg (Nat.not_lt_zero x)])
  exact ⟨τ, t1, fun x hx => by rw [t2 x hx, if_pos (by omega)], t3⟩
/-- joined so far: ENTRIES ahead of e among each other, and e with those ahead of o -/
def JnI (row : Nat → Int32) (k : Int32) (e o : Nat) (f : Nat → Int32) : Prop := LbP row k (e + 1) f ∧ (∀ a b, a < e → b < e → knE row k a → knE row k b → alk row a b = true → f a = f b) ∧ ∀ b, b < o → knE row k b → alk row e b = true → f b = f e
theorem JnI_join {row : Nat → Int32} {k : Int32} {e o u v : Nat} {f f' : Nat → Int32} (he : e < 60) (ho : o < e) (h : JnI row k e o f) (ko : knE row k o) (ke : knE row k e) (u1 : u ≤ o) (u2 : knE row k u) (hu : f o = nI u) (v1 : v ≤ e) (v2 : knE row k v) (hv : f e = nI v) (ha : alk row e o = true) (hf : ∀ x, x ≤ e → f' x = mo u v (f x)) : JnI row k e (o + 1) f' := by
  obtain ⟨⟨l1, l2⟩, p, r⟩ := h
  have mm : min u v = u ∨ min u v = v := by omega
  have km : knE row k (min u v) := by rcases mm with z | z <;> rw [z] <;> assumption
  have same : ∀ a b, a ≤ e → b ≤ e → f a = f b → f' a = f' b := fun a b h1 h2 h3 => by rw [hf a h1, hf b h2, h3]
  refine ⟨⟨fun x hx => ⟨fun nk => ?_, fun kx => ?_⟩, fun g hg x hx kx => ?_⟩, fun a b ha' hb' ka kb hab => same a b (by omega) (by omega) (p a b ha' hb' ka kb hab), fun b hb kb hab => ?_⟩
  · rw [hf x (by omega), (l1 x hx).1 nk]
    unfold mo
    rw [if_neg (fun z => by rcases z with z | z <;> exact absurd z.symm (nI_neg1 (by omega)))]
  · obtain ⟨j, j1, j2, j3⟩ := (l1 x hx).2 kx
    rw [hf x (by omega), j3]
    unfold mo
    by_cases c : nI j = nI u ∨ nI j = nI v
    · rw [if_pos c]
      have : j = u ∨ j = v := c.imp (fun z => (nI_eq (by omega) (by omega)).mp z) (fun z => (nI_eq (by omega) (by omega)).mp z)
      exact ⟨min u v, by omega, km, rfl⟩
    · rw [if_neg c]; exact ⟨j, j1, j2, rfl⟩
  · obtain ⟨j, j1, j2, j3⟩ := (l1 x hx).2 kx
    have gx := l2 g hg x hx kx
    have go := l2 g hg o (by omega) ko
    have ge := l2 g hg e (by omega) ke
    have goe := hg e o (by omega) (by omega) ke ko ha
    rw [hu, show cl (nI u) = u from nI_clamp (by omega)] at go
    rw [hv, show cl (nI v) = v from nI_clamp (by omega)] at ge
    have guv : g u = g v := by rw [← go, ← ge, goe]
    rw [j3, show cl (nI j) = j from nI_clamp (by omega)] at gx
    rw [hf x (by omega), j3]
    unfold mo
    by_cases c : nI j = nI u ∨ nI j = nI v
    · rw [if_pos c, show cl (nI (min u v)) = min u v from nI_clamp (by omega)]
      have hj : j = u ∨ j = v := c.imp (fun z => (nI_eq (by omega) (by omega)).mp z) (fun z => (nI_eq (by omega) (by omega)).mp z)
      have gj : g j = g u := by rcases hj with z | z <;> rw [z]; exact guv.symm
      rw [gx, gj]
      rcases mm with z | z <;> rw [z]; exact guv
    · rw [if_neg c, show cl (nI j) = j from nI_clamp (by omega)]; exact gx
  · by_cases c : b = o
    · subst c
      have eo : f' b = nI (min u v) := by rw [hf b (by omega), hu]; unfold mo; rw [if_pos (Or.inl rfl)]
      have ee : f' e = nI (min u v) := by rw [hf e (by omega), hv]; unfold mo; rw [if_pos (Or.inr rfl)]
      rw [eo, ee]
    · exact same b e (by omega) (by omega) (r b (by omega) kb hab)
theorem TbE.ch {row : Nat → Int32} {σ τ : AH} {cs : List Nat} {fs : List (Nat × Nat)} (h : TbE row σ) (c : Ch cs fs σ τ) (h1 : ∀ i ∈ cs, i < 166 ∧ i ≠ 13 ∧ i ≠ 14) (h2 : ∀ q ∈ fs, q.1 < 166 ∧ q.1 ≠ 13 ∧ q.1 ≠ 14) : TbE row τ := Tb.ch h c (fun i hi => by have := h1 i hi; omega) (fun q hq => by have := h2 q hq; omega)
theorem join_74 {row : Nat → Int32} {k : Int32} {e g : Nat} {K : Int32 → Int32 → AH → Option AH} (hE : EV row) (he : e < nE row) (ke : knE row k e) : ∀ (j o : Nat) (σ : AH), o + j = e → TbE row σ → JnI row k e o (gI σ 114) →
    ∃ τ, F_X4_join_74 K (j + 1 + g) k (nI e) (nI o) σ = K k (nI (e + 1)) τ ∧ TbE row τ ∧ JnI row k e e (gI τ 114) ∧ Ch [114] [] σ τ := by
  obtain ⟨n0, n60⟩ := hE.n
  intro j
  induction j with
  | zero =>
    intro o σ ho hT hJ
    rw [show 0 + 1 + g = g + 1 by omega]
    show ∃ τ, B_X4_join_74 K (F_X4_join_74 K g) k (nI e) (nI o) σ = _ ∧ _
    unfold B_X4_join_74 F_X4_join_151
    rw [if_pos (nI_le (by omega) (by omega)), nI_1]
    rw [show o = e by omega] at hJ
    exact ⟨σ, rfl, hT, hJ, Ch.rf _⟩
  | succ j ih =>
    intro o σ ho hT hJ
    rw [show j + 1 + 1 + g = (j + 1 + g) + 1 by omega]
    show ∃ τ, B_X4_join_74 K (F_X4_join_74 K (j + 1 + g)) k (nI e) (nI o) σ = _ ∧ _
    unfold B_X4_join_74 F_X4_join_151 F_X4_join_145
    have qe : inB (nI e) 60 = true := inB_n (by omega) (by omega)
    have qo : inB (nI o) 60 = true := inB_n (by omega) (by omega)
    have ne : (nI e).toNatClampNeg = e := nI_clamp (by omega)
    have no : (nI o).toNatClampNeg = o := nI_clamp (by omega)
    obtain ⟨v, v1, v2, v3⟩ := (hJ.1.1 e (by omega)).2 ke
    rw [if_neg (nI_ge (by omega) (by omega))]
    simp only [qe, qo, ne, no, if_true, nI_1, F_isAlike hE he (show o < nE row by omega) hT, bd_some]
    rw [if_neg (show ¬ gI σ 114 e = -1 by rw [v3]; exact nI_neg1 (by omega))]
    have skip : (knE row k o → alk row e o = true → gI σ 114 o = gI σ 114 e) → ∃ τ, F_X4_join_74 K (j + 1 + g) k (nI e) (nI (o + 1)) σ = K k (nI (e + 1)) τ ∧ TbE row τ ∧ JnI row k e e (gI τ 114) ∧ Ch [114] [] σ τ := fun hs =>
      ih (o + 1) σ (by omega) hT ⟨hJ.1, hJ.2.1, fun b hb kb hab => by
        by_cases c : b = o
        · rw [c] at kb hab ⊢; exact hs kb hab
        · exact hJ.2.2 b (by omega) kb hab⟩
    by_cases c1 : gI σ 114 o = -1
    · rw [if_pos c1]
      refine skip (fun ko _ => ?_)
      obtain ⟨u, u1, u2, u3⟩ := (hJ.1.1 o (by omega)).2 ko
      rw [u3] at c1; exact absurd c1 (nI_neg1 (by omega))
    · rw [if_neg c1]
      by_cases c2 : gI σ 114 o = gI σ 114 e
      · rw [if_pos c2]; exact skip (fun _ _ => c2)
      · rw [if_neg c2]
        cases c3 : alk row e o with
        | false => rw [if_pos (show b2 false = 0 from rfl)]; exact skip (fun _ z => by rw [c3] at z; cases z)
        | true =>
          rw [if_neg (show ¬ b2 true = 0 by decide)]
          have ko : knE row k o := by
            by_cases z : knE row k o
            · exact z
            · exact absurd ((hJ.1.1 o (by omega)).1 z) c1
          obtain ⟨u, u1, u2, u3⟩ := (hJ.1.1 o (by omega)).2 ko
          obtain ⟨τ, t1, t2, t3⟩ := F_makeOne (u := u) (v := v) (e := e) (σ := σ) (by omega) (by omega) (by omega)
          rw [u3, v3, t1, bv_some]
          obtain ⟨τ2, w1, w2, w3, w4⟩ := ih (o + 1) τ (by omega) (hT.ch t3 (by simp) (by simp)) (JnI_join (by omega) (by omega) hJ ko ke u1 u2 u3 v1 v2 v3 c3 t2)
          exact ⟨τ2, w1, w2, w3, t3.trans w4⟩
theorem join_29 {row : Nat → Int32} {k : Int32} {g : Nat} (hE : EV row) : ∀ (j e : Nat) (σ : AH), e + j = nE row → TbE row σ → LbP row k e (gI σ 114) → (∀ a b, a < e → b < e → knE row k a → knE row k b → alk row a b = true → gI σ 114 a = gI σ 114 b) →
    ∃ τ, F_X4_join_29 (j + 1 + g) k (nI e) σ = some τ ∧ FmF row k (gI τ 114) ∧ Ch [114] [] σ τ := by
  obtain ⟨n0, n60⟩ := hE.n
  intro j
  induction j with
  | zero =>
    intro e σ he hT hL hP
    rw [show 0 + 1 + g = g + 1 by omega]
    show ∃ τ, B_X4_join_29 (F_X4_join_29 g) k (nI e) σ = _ ∧ _
    unfold B_X4_join_29
    rw [rows_e hT, bd_some, if_pos (nI_le (by omega) (by omega))]
    rw [show e = nE row by omega] at hL hP
    exact ⟨σ, rfl, ⟨hL, hP⟩, Ch.rf _⟩
  | succ j ih =>
    intro e σ he hT hL hP
    have lt : e < nE row := by omega
    rw [show j + 1 + 1 + g = (j + 1 + g) + 1 by omega]
    show ∃ τ, B_X4_join_29 (F_X4_join_29 (j + 1 + g)) k (nI e) σ = _ ∧ _
    unfold B_X4_join_29 F_X4_join_70
    have a6 : F_X8_at 13 (nI e) (6 : Int32) σ = some (en row e 6, σ) := at_en (j := 6) hT lt (by decide)
    have q : inB (nI e) 60 = true := inB_n (by omega) (by omega)
    have n : (nI e).toNatClampNeg = e := nI_clamp (by omega)
    rw [rows_e hT, bd_some, if_neg (nI_ge lt (by omega)), a6, bd_some, if_pos q, n]
    obtain ⟨g', hg'⟩ := BIGe e (by omega)
    have old : ∀ v x, x < e → va_up (gI σ 114) e v x = gI σ 114 x := fun v x hx => up_ne _ _ _ (by omega)
    by_cases c : k < en row e 6
    · rw [if_pos c]
      have nk : ¬ knE row k e := fun z => z c
      have k1 : Ch [114] [] σ (sI σ 114 e (-1)) := Ch.sI1 (Or.inr (by simp))
      have T1 : TbE row (sI σ 114 e (-1)) := hT.ch k1 (by simp) (by simp)
      have go : F_X4_join_74 (F_X4_join_29 (j + 1 + g)) BIG k (nI e) (0 : Int32) (sI σ 114 e (-1)) = F_X4_join_29 (j + 1 + g) k (nI (e + 1)) (sI σ 114 e (-1)) := by
        rw [hg', show e + 1 + g' = (e + g') + 1 by omega]
        show B_X4_join_74 (F_X4_join_29 (j + 1 + g)) (F_X4_join_74 (F_X4_join_29 (j + 1 + g)) (e + g')) k (nI e) (0 : Int32) (sI σ 114 e (-1)) = _
        unfold B_X4_join_74 F_X4_join_151
        rw [nI_1, if_pos q, n, gI_sI_at, if_pos rfl]
        split <;> rfl
      rw [go]
      obtain ⟨τ, t1, t2, t3⟩ := ih (e + 1) (sI σ 114 e (-1)) (by omega) T1 (by
        rw [gI_sI_own]
        refine ⟨fun x hx => ?_, fun gg hg x hx kx => ?_⟩
        · by_cases ex : x = e
          · subst ex; rw [up_same]; exact ⟨fun _ => rfl, fun z => absurd z nk⟩
          · rw [old _ x (by omega)]; exact hL.1 x (by omega)
        · have ex : x ≠ e := fun z => nk (by rw [← z]; exact kx)
          rw [old _ x (by omega)]
          exact hL.2 gg (fun a b ha hb => hg a b (by omega) (by omega)) x (by omega) kx) (fun a b ha hb ka kb hab => by
        have ea : a ≠ e := fun z => nk (by rw [← z]; exact ka)
        have eb : b ≠ e := fun z => nk (by rw [← z]; exact kb)
        rw [gI_sI_own, old _ a (by omega), old _ b (by omega)]
        exact hP a b (by omega) (by omega) ka kb hab)
      exact ⟨τ, t1, t2, k1.trans t3⟩
    · rw [if_neg c, if_pos q]
      have k1 : Ch [114] [] σ (sI σ 114 e (nI e)) := Ch.sI1 (Or.inr (by simp))
      have T1 : TbE row (sI σ 114 e (nI e)) := hT.ch k1 (by simp) (by simp)
      obtain ⟨τ, t1, t2, t3, t4⟩ := join_74 (g := g') (K := F_X4_join_29 (j + 1 + g)) hE lt (show knE row k e from c) e 0 (sI σ 114 e (nI e)) (by omega) T1 (by
        rw [gI_sI_own]
        refine ⟨⟨fun x hx => ?_, fun gg hg x hx kx => ?_⟩, fun a b ha hb ka kb hab => ?_, fun b hb => absurd hb (Nat.not_lt_zero b)⟩
        · by_cases ex : x = e
          · subst ex; rw [up_same]; exact ⟨fun z => absurd c z, fun z => ⟨x, Nat.le_refl _, z, rfl⟩⟩
          · rw [old _ x (by omega)]; exact hL.1 x (by omega)
        · by_cases ex : x = e
          · subst ex; rw [up_same, show cl (nI x) = x from nI_clamp (by omega)]
          · rw [old _ x (by omega)]
            exact hL.2 gg (fun a b ha hb => hg a b (by omega) (by omega)) x (by omega) kx
        · rw [old _ a ha, old _ b hb]; exact hP a b ha hb ka kb hab)
      have t1' : F_X4_join_74 (F_X4_join_29 (j + 1 + g)) BIG k (nI e) (0 : Int32) (sI σ 114 e (nI e)) = F_X4_join_29 (j + 1 + g) k (nI (e + 1)) τ := by rw [hg']; exact t1
      rw [t1']
      obtain ⟨τ2, u1, u2, u3⟩ := ih (e + 1) τ (by omega) t2 t3.1 (fun a b ha hb ka kb hab => by
        rcases Nat.lt_or_ge a e with za | za
        · rcases Nat.lt_or_ge b e with zb | zb
          · exact t3.2.1 a b za zb ka kb hab
          · have eb : b = e := by omega
            subst eb
            exact t3.2.2 a za ka (by rw [alk_sym]; exact hab)
        · have ea : a = e := by omega
          subst ea
          rcases Nat.lt_or_ge b a with zb | zb
          · exact (t3.2.2 b zb kb hab).symm
          · rw [show b = a by omega])
      exact ⟨τ2, u1, u2, (k1.trans t4).trans u3⟩
/-- what the class has joined is right while no ENTRY was told or marked since -/
def JcI (row : Nat → Int32) (σ : AH) : Prop := gI σ 113 4 ≤ gI σ 0 13 ∧ (gI σ 113 4 = gI σ 0 13 → FmF row (gI σ 113 3) (gI σ 114))
theorem F_join {row : Nat → Int32} {k : Int32} {σ : AH} (hE : EV row) (hT : TbE row σ) (hJ : JcI row σ) : ∃ τ, F_X4_join k (gI σ 0 13) σ = some τ ∧ FmF row k (gI τ 114) ∧ JcI row τ ∧ Ch [114] [(113, 3), (113, 4)] σ τ := by
  have n60 := hE.n.2
  unfold F_X4_join
  have anew : ∃ τ, F_X4_join_17 k (gI σ 0 13) σ = some τ ∧ FmF row k (gI τ 114) ∧ JcI row τ ∧ Ch [114] [(113, 3), (113, 4)] σ τ := by
    unfold F_X4_join_17
    have k1 : Ch [114] [(113, 3), (113, 4)] σ (sI (sI σ 113 3 k) 113 4 (gI σ 0 13)) := (Ch.sI1 (Or.inl (by simp))).trans (Ch.sI1 (Or.inl (by simp)))
    obtain ⟨g, hg⟩ := BIGe (nE row) (by omega)
    obtain ⟨τ, t1, t2, t3⟩ := join_29 (k := k) (g := g) hE (nE row) 0 (sI (sI σ 113 3 k) 113 4 (gI σ 0 13)) (by omega) (hT.ch k1 (by simp) (by simp)) ⟨fun e he => absurd he (Nat.not_lt_zero e), fun _ _ e he => absurd he (Nat.not_lt_zero e)⟩ (fun a b ha => absurd ha (Nat.not_lt_zero a))
    rw [hg]
    refine ⟨τ, t1, t2, ⟨?_, fun _ => ?_⟩, k1.trans (t3.mono (by simp) (by simp))⟩
    · rw [show gI τ 113 4 = gI σ 0 13 by rw [t3.rI (by simp) (by simp), gI_sI_at], show gI τ 0 13 = gI σ 0 13 by rw [t3.rI (by simp) (by simp), gI_sI_row (by decide), gI_sI_row (by decide)]]; exact i32_rfl
    rw [show gI τ 113 3 = k by rw [t3.rI (by simp) (by simp), gI_sI_ne (by decide), gI_sI_at]]; exact t2
  by_cases c1 : gI σ 113 3 = k
  · rw [if_pos c1]
    by_cases c2 : gI σ 113 4 = gI σ 0 13
    · rw [if_pos c2]
      exact ⟨σ, rfl, by rw [← c1]; exact hJ.2 c2, hJ, Ch.rf _⟩
    · rw [if_neg c2]; exact anew
  · rw [if_neg c1]; exact anew
/-! family -/
theorem F_isEntryR {row : Nat → Int32} {x : Int32} {σ : AH} (hE : EV row) (hr : gI σ 125 = row) : F_X12_isEntry x σ = some (if ltB (nE row) x = true then 1 else 0, σ) := by
  unfold F_X12_isEntry
  have := hE.n.2
  rw [hr, hE.n.1, F_inN (by omega), bd_some, if_pos b01']
theorem F_isEntryC {row : Nat → Int32} {x : Int32} {σ : AH} (hE : EV row) (hT : TbE row σ) : F_X11_isEntry x σ = some (if ltB (nE row) x = true then 1 else 0, σ) := by
  unfold F_X11_isEntry
  have := hE.n.2
  rw [rows_e hT, bd_some, isInN (by omega), bd_some, if_pos b01']
theorem F_isKnownEntry {row : Nat → Int32} {x k : Int32} {σ : AH} (hE : EV row) (hT : TbE row σ) : F_X11_isKnownEntry x k σ = some (if ltB (nE row) x = true ∧ ¬ k < en row (cl x) 6 then 1 else 0, σ) := by
  unfold F_X11_isKnownEntry
  have n60 := hE.n.2
  rw [F_isEntryC hE hT, bd_b (α := Int32)]
  by_cases c : ltB (nE row) x = true
  · obtain ⟨e1, b1⟩ := ltB_n c (by omega)
    have a6 : F_X8_at 13 x (6 : Int32) σ = some (en row (cl x) 6, σ) := by
      have := at_en (e := cl x) (j := 6) hT b1 (by decide)
      rw [← e1] at this; exact this
    rw [if_pos c, a6, bd_some]
    by_cases d : k < en row (cl x) 6
    · rw [if_pos d, if_neg (fun q => q.2 d)]
    · rw [if_neg d, if_pos ⟨c, d⟩]
  · rw [if_neg c, if_neg (fun q => c q.1)]
theorem PC_family {row : Nat → Int32} {x1 x2 : Int32} {σ : AH} (hE : EV row) (hr : gI σ 125 = row) : ∃ v τ, F_X12_family x1 x2 σ = some (v, τ) ∧ Ch [160] [(124, 0)] σ τ ∧ ∀ σ', TbE row σ' → JcI row σ' → ∃ τ', F_X11_family x1 x2 σ' = some (v, τ') ∧ JcI row τ' ∧ Ch [114] [(113, 3), (113, 4)] σ' τ' := by
  have n60 := hE.n.2
  unfold F_X12_family F_X11_family
  have c0 : Ch [160] [(124, 0)] σ (sI σ 124 0 0) := Ch.sI1 (Or.inl (by simp))
  have ie : F_X12_isEntry x1 (sI σ 124 0 (0 : Int32)) = some (if ltB (nE row) x1 = true then 1 else 0, sI σ 124 0 0) := F_isEntryR hE hr
  rw [ie, bd_b (α := Int32), F_isWeek, bd_b (α := Int32)]
  by_cases c1 : ltB (nE row) x1 = true
  · rw [if_pos c1]
    by_cases c2 : rgB 0 259 x2 = true
    · rw [if_pos c2]
      obtain ⟨e1, b1⟩ := ltB_n c1 (by omega)
      obtain ⟨τ, t1, t2, t3⟩ := F_findFamilies (k := x2) (σ := sI σ 124 0 0) hE hr
      have q : inB x1 60 = true := by rw [e1]; exact inB_n (by omega) (by omega)
      rw [t1, bv_some, if_pos q]
      refine ⟨_, _, rfl, c0.trans (t3.mono (by simp) (by simp)), fun σ' hT hJ => ?_⟩
      rw [F_isWeekC, bd_b (α := Int32), if_pos c2, F_isKnownEntry hE hT, bd_b (α := Int32)]
      by_cases kn : knE row x2 (cl x1)
      · rw [if_pos ⟨c1, kn⟩]
        obtain ⟨τ', u1, u2, u3, u4⟩ := F_join (k := x2) hE hT hJ
        rw [u1, bv_some, if_pos q]
        refine ⟨τ', ?_, u3, u4⟩
        have : gI τ' 114 x1.toNatClampNeg = gI τ 160 x1.toNatClampNeg := fam_unique hE u2 t2 b1
        rw [this]
      · rw [if_neg (fun z => kn z.2)]
        have : gI τ 160 x1.toNatClampNeg = -1 := (t2.1.1 (cl x1) b1).1 kn
        rw [this]
        exact ⟨σ', rfl, hJ, Ch.rf _⟩
    · rw [if_neg c2]
      refine ⟨_, _, rfl, c0, fun σ' hT hJ => ?_⟩
      rw [F_isWeekC, bd_b (α := Int32), if_neg c2]
      exact ⟨σ', rfl, hJ, Ch.rf _⟩
  · rw [if_neg c1]
    refine ⟨_, _, rfl, c0, fun σ' hT hJ => ?_⟩
    rw [F_isWeekC, bd_b (α := Int32), F_isKnownEntry hE hT, bd_b (α := Int32), if_neg (c := ltB (nE row) x1 = true ∧ ¬ x2 < en row (cl x1) 6) (fun z => c1 z.1)]
    by_cases c2 : rgB 0 259 x2 = true
    · rw [if_pos c2]; exact ⟨σ', rfl, hJ, Ch.rf _⟩
    · rw [if_neg c2]; exact ⟨σ', rfl, hJ, Ch.rf _⟩
end
