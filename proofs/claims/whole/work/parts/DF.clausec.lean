section
/-! the class reads a CLAUSE -/
theorem cr_14 {cd st : Nat → Int32} {L f i : Nat} {x : Int64} {s : List Int64} (hi : i < L) (hc : cd i = nI (14 + 16 * 0)) : crun cd st L (f + 1) i (x :: s) = if x = 0 then some none else crun cd st L f (i + 1) s := by
  rw [crun_s, if_neg (by omega), hc, code_lo (by decide) (by decide), if_pos (by decide), if_pos (by decide)]
  show (if nI 14 = (15 : Int32) then _ else if nI 14 = (11 : Int32) then _ else if nI 14 = (14 : Int32) then _ else _) = _
  rw [if_neg (by decide), if_neg (by decide), if_pos (show nI 14 = (14 : Int32) from rfl)]
theorem cr_15 {cd st : Nat → Int32} {L f i : Nat} {x : Int64} {s : List Int64} (hi : i < L) (hc : cd i = nI (15 + 16 * 0)) : crun cd st L (f + 1) i (x :: s) = some (some (bot (x :: s))) := by
  rw [crun_s, if_neg (by omega), hc, code_lo (by decide) (by decide), if_pos (by decide), if_pos (by decide)]
  show (if nI 15 = (15 : Int32) then _ else _) = _
  rw [if_pos (show nI 15 = (15 : Int32) from rfl)]
def thn (x : Option Int64) (T : Option Den) (st : Nat → Int32) : Option Int64 := match x with
  | none => none
  | some v => match T with
    | none => some v
    | some D => match D st with
      | none => none
      | some t => if t = 0 then none else some v
def CcD (cd : Nat → Int32) (i j : Nat) (V : Den) : Prop := ∀ cd' : Nat → Int32, (∀ t, i ≤ t → t < j → cd' t = cd t) → ∀ (st : Nat → Int32) (N f : Nat), j ≤ N → j - i < f → crun cd' st N f i [] = some (V st)
theorem CcD.cg {cd cd' : Nat → Int32} {i j : Nat} {V : Den} (h : CcD cd i j V) (e : ∀ t, i ≤ t → t < j → cd' t = cd t) : CcD cd' i j V := fun cd2 e2 => h cd2 (fun t h1 h2 => by rw [e2 t h1 h2, e t h1 h2])
theorem bot_1 {v : Int64} : bot [v] = v := rfl
theorem CcD.one {cd : Nat → Int32} {i j k : Nat} {W : Den} (h : SgC cd i j k W) (hij : i ≤ j) (hk : k ≤ 60) (h15 : cd j = nI (15 + 16 * 0)) : CcD cd i (j + 1) (fun st => thn (W st) none st) := fun cd' e st N f hN hf => by
  obtain ⟨f1, a1, a2⟩ := h cd' (fun t t1 t2 => e t t1 (by omega)) st N [] f (by omega) (by show 0 + k ≤ 64; omega) (by omega)
  show crun cd' st N f i [] = some (thn (W st) none st)
  rw [a2]
  cases w : W st with
  | none => rfl
  | some v =>
    obtain ⟨g, rfl⟩ : ∃ g, f1 = g + 1 := ⟨f1 - 1, by omega⟩
    show crun cd' st N (g + 1) j [v] = _
    rw [cr_15 (by omega) (by rw [e j hij (by omega)]; exact h15), bot_1]; rfl
theorem CcD.two {cd : Nat → Int32} {i j l k1 k2 : Nat} {W D : Den} (h : SgC cd i j k1 W) (g : SgC cd j l k2 D) (hij : i ≤ j) (hjl : j ≤ l) (hk : k1 ≤ 60) (hk2 : k2 ≤ 60) (h14 : cd l = nI (14 + 16 * 0)) (h15 : cd (l + 1) = nI (15 + 16 * 0)) : CcD cd i (l + 1 + 1) (fun st => thn (W st) (some D) st) := fun cd' e st N f hN hf => by
  obtain ⟨f1, a1, a2⟩ := h cd' (fun t t1 t2 => e t t1 (by omega)) st N [] f (by omega) (by show 0 + k1 ≤ 64; omega) (by omega)
  show crun cd' st N f i [] = some (thn (W st) (some D) st)
  rw [a2]
  cases w : W st with
  | none => rfl
  | some v =>
    obtain ⟨f2, c1, c2⟩ := g cd' (fun t t1 t2 => e t (by omega) (by omega)) st N [v] f1 (by omega) (by show 1 + k2 ≤ 64; omega) (by omega)
    show crun cd' st N f1 j [v] = _
    rw [c2]
    show _ = some (match D st with | none => none | some t => if t = 0 then none else some v)
    cases d : D st with
    | none => rfl
    | some t =>
      obtain ⟨f3, rfl⟩ : ∃ f3, f2 = f3 + 1 + 1 := ⟨f2 - 2, by omega⟩
      show crun cd' st N (f3 + 1 + 1) l [t, v] = some (if t = 0 then none else some v)
      rw [cr_14 (by omega) (by rw [e l (by omega) (by omega)]; exact h14)]
      by_cases z : t = 0
      · rw [if_pos z, if_pos z]
      · rw [if_neg z, if_neg z, cr_15 (by omega) (by rw [e (l + 1) (by omega) (by omega)]; exact h15), bot_1]
theorem CgS.ch {L b sz np : Nat} {tp : Nat → Int32} {σ τ : AH} (h : CgS L tp b sz np σ) (c : Ch [24, 25, 26] [(22, 2)] σ τ) : CgS L tp b sz np τ := by
  obtain ⟨h1, ⟨q1, q2, q3, q4, q5⟩, h3, h4, h5, h6⟩ := h
  exact ⟨h1.ch c (by simp) (by simp), ⟨by rw [c.pI (by simp) (by simp)]; exact q1, by rw [c.pI (by simp) (by simp)]; exact q2, by rw [c.pI (by simp) (by simp)]; exact q3, by rw [c.pI (by simp) (by simp)]; exact q4, q5⟩, by rw [c.pI (by simp) (by simp)]; exact h3, by rw [c.pI (by simp) (by simp)]; exact h4, h5, h6⟩
def TLC (σ10 : AH) : Option (Int32 × AH) := (bd (F_X5_isWord 8 σ10) fun v20 σ16 => (if v20 = 0 then (F_X5_readClause_80 σ16) else (bv (F_X5_step σ16) fun σ22 => (bd (G_X5_readTest (0 : Int32) σ22) fun v31 σ27 => (if v31 = 0 then (some ((0 : Int32), σ27)) else (bv (F_X5_emit (14 : Int32) (0 : Int32) σ27) fun σ33 => (F_X5_readClause_80 σ33)))))))
theorem tlC1 {L b sz sz1 np kk : Nat} {tp : Nat → Int32} {σ : AH} {hd : Nat × Nat × Nat × Nat} {S : Option Den} {W : Den} (h : CgS L tp b sz1 np σ) (hb : sz1 + 1 ≤ b) (hs : sz < sz1) (hW : SgC (gI σ 27) sz sz1 kk W) (hk : kk ≤ 60) :
    (∀ b', prTl L tp hd S b np = (b', none) → ∃ τ, TLC σ = some (0, τ) ∧ TkC L tp b' τ ∧ Ch [27] RDf σ τ) ∧
    (∀ b' np' C, prTl L tp hd S b np = (b', some (np', C)) → ∃ τ sz' T, C = (hd, S, T) ∧ TLC σ = some (1, τ) ∧ CgS L tp b' sz' np' τ ∧ (b ≤ b' ∧ sz1 < sz' ∧ np ≤ np') ∧ (∀ t, t < sz → gI τ 27 t = gI σ 27 t) ∧ CcD (gI τ 27) sz sz' (fun st => thn (W st) T st) ∧ (∀ D, T = some D → is01 D) ∧ Ch [27] RDf σ τ) := by
  have wi : F_X5_isWord 8 σ = some (b2 (isW L tp b wIf), σ) := F_isWordC (k := 8) (w := wIf) h.1 h.2.1 (by decide) rfl
  unfold TLC F_X5_readClause_80
  rw [wi, bd_some]
  cases ci : isW L tp b wIf with
  | false =>
    have p0 : prTl L tp hd S b np = (b, some (np, hd, S, none)) := by unfold prTl; rw [if_neg (by rw [ci]; decide)]
    obtain ⟨s1, e1, E1, e2, e3⟩ := h.emit (c := 15) (r := 0) hb (by decide) (by decide)
    have e1' : F_X5_emit (15 : Int32) (0 : Int32) σ = some s1 := e1
    rw [hpF, e1', bv_some]
    refine ⟨fun b' e' => (by rw [p0] at e'; cases e'), fun b' np' C e' => ?_⟩
    rw [p0] at e'
    cases e'
    refine ⟨s1, sz1 + 1, none, rfl, rfl, E1, ⟨Nat.le_refl _, by omega, Nat.le_refl _⟩, fun t ht => by rw [e2, va_lo (by omega)], CcD.one (hW.cg (fun t t1 t2 => by rw [e2, va_lo t2])) (by omega) hk (by rw [e2, up_same]), (fun D z => by cases z), e3⟩
  | true =>
    have p0 : prTl L tp hd S b np = (match prTs L tp 8 (nxt L tp b) np with
      | (b', none) => (b', none)
      | (b', some (n, D)) => (b', some (n, hd, S, some D))) := by unfold prTl; rw [if_pos ci]; rfl
    have bL := h.b
    have nb := nxt_b (tp := tp) bL.1
    have n2 := isW_nxt ci bL.1
    have wl : wIf.length = 2 := by decide
    obtain ⟨s1, a1, A1, a3, a4⟩ := h.step
    obtain ⟨r1, r2⟩ := Cg_G.2 _ _ _ _ A1
    rw [hnT, a1, bv_some]
    rcases hr : prTs L tp 8 (nxt L tp b) np with ⟨b2, _ | ⟨n2', D2⟩⟩
    · rw [hr] at p0
      obtain ⟨s2, u1, u2, u3⟩ := r1 b2 hr
      rw [u1, bd_some, if_pos rfl]
      refine ⟨fun b' e' => ?_, fun b' np' C e' => (by rw [p0] at e'; cases e')⟩
      rw [p0] at e'
      cases e'
      exact ⟨s2, rfl, u2, (TKf_RDf a4).trans u3⟩
    · rw [hr] at p0
      obtain ⟨s2, sz2, u1, U2, u2, u4, u5, u7, u6⟩ := r2 b2 n2' D2 hr
      have n60 := U2.2.2.2.2.2
      obtain ⟨s3, e1, E1, e2, e3⟩ := U2.emit (c := 14) (r := 0) (by omega) (by decide) (by decide)
      have e1' : F_X5_emit (14 : Int32) (0 : Int32) s2 = some s3 := e1
      obtain ⟨s4, f1, G1, f2, f3⟩ := E1.emit (c := 15) (r := 0) (by omega) (by decide) (by decide)
      have f1' : F_X5_emit (15 : Int32) (0 : Int32) s3 = some s4 := f1
      rw [u1, bd_some, if_neg (show ¬ (1 : Int32) = 0 by decide), e1', bv_some, f1', bv_some]
      refine ⟨fun b' e' => (by rw [p0] at e'; cases e'), fun b' np' C e' => ?_⟩
      have e5 : (b2, some (n2', hd, S, some D2)) = (b', some (np', C)) := p0.symm.trans e'
      cases e5
      have lo : ∀ t, t < sz2 → gI s4 27 t = gI s2 27 t := fun t ht => by rw [f2, va_lo (by omega), e2, va_lo ht]
      refine ⟨s4, sz2 + 1 + 1, some D2, rfl, rfl, G1, ⟨by omega, by omega, by omega⟩, fun t ht => by rw [lo t (by omega), u4 t (by omega), a3], CcD.two (j := sz1) (hW.cg (fun t t1 t2 => by rw [lo t (by omega), u4 t t2, a3])) (u5.cg (fun t t1 t2 => lo t t2)) (by omega) (by omega) hk (by omega) (by rw [f2, va_lo (by omega), e2, up_same]) (by rw [f2, up_same]), (fun D z => by cases z; exact u7 rfl), (((TKf_RDf a4).trans u6).trans e3).trans f3⟩
def CCc : List Nat := [24, 25, 26, 27]
theorem RD_CC {σ τ : AH} (c : Ch [27] RDf σ τ) : Ch CCc RDf σ τ := c.mono (by simp [CCc]) (fun q hq => Or.inl hq)
def hdV (h : Nat × Nat × Nat × Nat) : Nat := if h.1 = 0 then 62 else if h.1 = 1 then (h.2.1 * 3 + h.2.2.1) * 5 + h.2.2.2 else if h.1 = 2 then 45 + (h.2.1 * 3 + h.2.2.1) else if h.1 = 3 then 54 else if h.1 = 4 then 55 + h.2.1 else if h.1 = 5 then 58 else if h.1 = 6 then 59 else if h.1 = 7 then 60 else 61
/-- what a CLAUSE comes to -/
def valC (C : Cls) : Den := fun st => thn (if C.1.1 = 8 then some (lN C.1.2.1) else match C.2.1 with | none => none | some D => D st) C.2.2 st
def CcR (L : Nat) (tp : Nat → Int32) (r : Nat × Option (Nat × Cls)) (x : Option (Int32 × AH)) (b sz np cn : Nat) (σ : AH) : Prop :=
  (∀ b', r = (b', none) → ∃ τ, x = some (0, τ) ∧ TkC L tp b' τ ∧ Ch CCc RDf σ τ) ∧
  (∀ b' np' C, r = (b', some (np', C)) → ∃ τ sz', x = some (1, τ) ∧ CgS L tp b' sz' np' τ ∧ (b ≤ b' ∧ sz ≤ sz' ∧ np ≤ np') ∧ (gI τ 24 cn = nI (hdV C.1) ∧ ∀ t, t ≠ cn → gI τ 24 t = gI σ 24 t) ∧ (∀ t, gI τ 25 t = gI σ 25 t) ∧ (∀ t, gI τ 26 t = gI σ 26 t) ∧ (∀ t, t < sz → gI τ 27 t = gI σ 27 t) ∧ CcD (gI τ 27) sz sz' (valC C) ∧ (∀ D, C.2.2 = some D → is01 D) ∧ Ch CCc RDf σ τ)
def HBC (x : Option (Int32 × AH)) : Option (Int32 × AH) := bd x fun v14 σ10 => if v14 = 0 then some ((0 : Int32), σ10) else TLC σ10
theorem HBC_0 {σ : AH} : HBC (some (0, σ)) = some (0, σ) := by unfold HBC; rw [bd_some, if_pos rfl]
theorem HBC_1 {σ : AH} : HBC (some (1, σ)) = TLC σ := by unfold HBC; rw [bd_some, if_neg (by decide)]
theorem hb150 {L b sz np cn v k s mt : Nat} {tp : Nat → Int32} {σ : AH} (h : CgS L tp b sz np σ) (hb : sz + 2 ≤ b) (hc : cn < 16) (hv : v ≤ 7) (hk : k < 1000) : CcR L tp (prEx L tp v k s mt b np) (HBC (F_X5_readHead_150 (nI v) (nI k) (nI (hdV (v + 1, k, s, mt))) (nI cn) σ)) b sz np cn σ := by
  obtain ⟨s1, hs1⟩ : ∃ s1, s1 = sI σ 24 cn (nI (hdV (v + 1, k, s, mt))) := ⟨_, rfl⟩
  have k1 : Ch [24] [] σ s1 := by rw [hs1]; exact Ch.sI1 (Or.inr (by simp))
  have h1 : CgS L tp b sz np s1 := h.ch (k1.mono (by simp) (by simp))
  have r24 : gI s1 24 cn = nI (hdV (v + 1, k, s, mt)) ∧ ∀ t, t ≠ cn → gI s1 24 t = gI σ 24 t := ⟨by rw [hs1, gI_sI_at], fun t ht => by rw [hs1, gI_sI_ne ht]⟩
  have r27 : gI s1 27 = gI σ 27 := k1.rI (by simp) (by simp)
  have kc1 : Ch CCc RDf σ s1 := k1.mono (by simp [CCc]) (by simp)
  have F0 : F_X5_readHead_150 (nI v) (nI k) (nI (hdV (v + 1, k, s, mt))) (nI cn) σ = if nI v = (7 : Int32) then (bv (F_X5_emit (0 : Int32) (nI k) s1) fun σ45 => (some ((1 : Int32), σ45))) else (bd (G_X5_readSum (0 : Int32) s1) fun v43 σ39 => (if v43 = 0 ∨ v43 = 1 then some (v43, σ39) else none)) := by
    unfold F_X5_readHead_150
    rw [if_pos (inB_n (by omega) (by decide)), nI_clamp (by omega), ← hs1]
  rw [F0]
  by_cases v7 : v = 7
  · obtain ⟨s2, e1, E1, e2, e3⟩ := h1.emit (c := 0) (r := k) (by omega) (by decide) (by omega)
    have e1' : F_X5_emit (0 : Int32) (nI k) s1 = some s2 := e1
    rw [if_pos (show nI v = (7 : Int32) by rw [v7]; rfl), e1', bv_some, HBC_1]
    have p0 : prEx L tp v k s mt b np = prTl L tp (8, k, s, mt) none b np := by unfold prEx; rw [if_pos v7]
    rw [p0]
    obtain ⟨r1, r2⟩ := tlC1 (hd := (8, k, s, mt)) (S := none) (sz := sz) E1 (by omega) (by omega) (SgC.num (by rw [e2, up_same]) (by omega)) (by decide)
    refine ⟨fun b' e' => ?_, fun b' np' C e' => ?_⟩
    · obtain ⟨τ, t1, t2, t3⟩ := r1 b' e'
      exact ⟨τ, t1, t2, (kc1.trans (RD_CC e3)).trans (RD_CC t3)⟩
    · obtain ⟨τ, sz', T, eC, t1, t2, t3, t4, t5, t6, t7⟩ := r2 b' np' C e'
      subst eC
      have kt : Ch [27] RDf s1 τ := e3.trans t7
      have q24 : gI τ 24 = gI s1 24 := kt.rI (by simp) (by simp [RDf])
      have q25 : gI τ 25 = gI σ 25 := by rw [kt.rI (by simp) (by simp [RDf]), k1.rI (by simp) (by simp)]
      have q26 : gI τ 26 = gI σ 26 := by rw [kt.rI (by simp) (by simp [RDf]), k1.rI (by simp) (by simp)]
      refine ⟨τ, sz', t1, t2, by omega, ?_, fun t => by rw [q25], fun t => by rw [q26], fun t ht => by rw [t4 t ht, e2, va_lo ht, r27], t5, t6, kc1.trans (RD_CC kt)⟩
      rw [q24]
      rw [v7] at r24
      exact r24
  · have v7' : ¬ nI v = (7 : Int32) := fun z => v7 ((nI_eq (b := 7) (by omega) (by decide)).mp z)
    have p0 : prEx L tp v k s mt b np = (match prSm L tp 8 b np with
      | (b', none) => (b', none)
      | (b', some (n, D)) => prTl L tp (v + 1, k, s, mt) (some D) b' n) := by unfold prEx; rw [if_neg v7]; rfl
    obtain ⟨q1, q2⟩ := Cg_G.1 _ _ _ _ h1
    rw [if_neg v7']
    rcases hr : prSm L tp 8 b np with ⟨b1, _ | ⟨n1, D1⟩⟩
    · rw [hr] at p0
      obtain ⟨s2, u1, u2, u3⟩ := q1 b1 hr
      rw [u1, bd_some, if_pos (Or.inl rfl), HBC_0, p0]
      refine ⟨fun b' e' => ?_, fun b' np' C e' => (by cases e')⟩
      cases e'
      exact ⟨s2, rfl, u2, kc1.trans (RD_CC u3)⟩
    · rw [hr] at p0
      have p1 : prEx L tp v k s mt b np = prTl L tp (v + 1, k, s, mt) (some D1) b1 n1 := p0
      obtain ⟨s2, sz2, u1, U2, u2, u4, u5, _, u6⟩ := q2 b1 n1 D1 hr
      have n60 := U2.2.2.2.2.2
      rw [u1, bd_some, if_pos (Or.inr rfl), HBC_1, p1]
      obtain ⟨r1, r2⟩ := tlC1 (hd := (v + 1, k, s, mt)) (S := some D1) (sz := sz) U2 (by omega) (by omega) u5 (by omega)
      refine ⟨fun b' e' => ?_, fun b' np' C e' => ?_⟩
      · obtain ⟨τ, t1, t2, t3⟩ := r1 b' e'
        exact ⟨τ, t1, t2, (kc1.trans (RD_CC u6)).trans (RD_CC t3)⟩
      · obtain ⟨τ, sz', T, eC, t1, t2, t3, t4, t5, t6, t7⟩ := r2 b' np' C e'
        subst eC
        have kt : Ch [27] RDf s1 τ := u6.trans t7
        have q24 : gI τ 24 = gI s1 24 := kt.rI (by simp) (by simp [RDf])
        have q25 : gI τ 25 = gI σ 25 := by rw [kt.rI (by simp) (by simp [RDf]), k1.rI (by simp) (by simp)]
        have q26 : gI τ 26 = gI σ 26 := by rw [kt.rI (by simp) (by simp [RDf]), k1.rI (by simp) (by simp)]
        refine ⟨τ, sz', t1, t2, by omega, by rw [q24]; exact r24, fun t => by rw [q25], fun t => by rw [q26], fun t ht => by rw [t4 t ht, u4 t ht, r27], ?_, t6, kc1.trans (RD_CC kt)⟩
        have ev : valC ((v + 1, k, s, mt), some D1, T) = fun st => thn (D1 st) T st := by
          funext st
          unfold valC
          show thn (if v + 1 = 8 then _ else D1 st) T st = _
          rw [if_neg (by omega)]
        rw [ev]; exact t5
end
