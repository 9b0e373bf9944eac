section
/-! a TEXT of CLAUSES, in both -/
def prTx (L : Nat) (tp : Nat → Int32) : Nat → Nat → Nat → Nat → Nat × Option (List Cls) := fun f => match f with
  | 0 => fun _ b _ => (b, none)
  | f + 1 => fun cn b np => match prC L tp cn b np with
    | (b1, none) => (b1, none)
    | (b1, some (n1, C)) => if isS L tp b1 59 = true then (match prTx L tp f (cn + 1) (nxt L tp b1) n1 with
      | (b2, none) => (b2, none)
      | (b2, some Cs) => (b2, some (C :: Cs))) else if tkT L tp b1 = 0 then (b1, some [C]) else (b1, none)
def prTx1 (L : Nat) (tp : Nat → Int32) (f cn b1 n1 : Nat) (C : Cls) : Nat × Option (List Cls) := if isS L tp b1 59 = true then (match prTx L tp f (cn + 1) (nxt L tp b1) n1 with
      | (b2, none) => (b2, none)
      | (b2, some Cs) => (b2, some (C :: Cs))) else if tkT L tp b1 = 0 then (b1, some [C]) else (b1, none)
theorem prTx_s {L f cn b np : Nat} {tp : Nat → Int32} : prTx L tp (f + 1) cn b np = match prC L tp cn b np with
    | (b1, none) => (b1, none)
    | (b1, some (n1, C)) => prTx1 L tp f cn b1 n1 C := rfl
def ClsR (g op ar : Nat → Int32) : List Cls → Nat → Nat → Nat → Prop := fun Cs => match Cs with
  | [] => fun _ m m' => m' = m
  | C :: Cs => fun cn m m' => ∃ m1, m ≤ m1 ∧ m1 ≤ m' ∧ ClQ C g op ar (9 * cn) m m1 ∧ ClsR g op ar Cs (cn + 1) m1 m'
theorem ClsR_c {g op ar : Nat → Int32} {C : Cls} {Cs : List Cls} {cn m m' : Nat} : ClsR g op ar (C :: Cs) cn m m' = ∃ m1, m ≤ m1 ∧ m1 ≤ m' ∧ ClQ C g op ar (9 * cn) m m1 ∧ ClsR g op ar Cs (cn + 1) m1 m' := rfl
theorem ClQ.cg {C : Cls} {g op ar g' op' ar' : Nat → Int32} {x m m' : Nat} (h : ClQ C g op ar x m m') (e1 : ∀ t, x ≤ t → t < x + 9 → g' t = g t) (e2 : ∀ t, t < m' → op' t = op t ∧ ar' t = ar t) : ClQ C g' op' ar' x m m' := by
  obtain ⟨⟨a1, a2, a3, a4⟩, b1, c1⟩ := h
  refine ⟨⟨by rw [e1 _ (by omega) (by omega)]; exact a1, by rw [e1 _ (by omega) (by omega)]; exact a2, by rw [e1 _ (by omega) (by omega)]; exact a3, by rw [e1 _ (by omega) (by omega)]; exact a4⟩, fun z => ?_, fun z => ?_⟩
  · rw [e1 _ (by omega) (by omega), e1 _ (by omega) (by omega), e1 _ (by omega) (by omega), e1 _ (by omega) (by omega)]; exact b1 z
  · obtain ⟨j, j1, j2, j3, j4, j5, j6⟩ := c1 z
    refine ⟨j, j1, ?_, j3, fun z => ?_, j5, fun D z => ?_⟩
    · rw [e1 _ (by omega) (by omega), e1 _ (by omega) (by omega), e1 _ (by omega) (by omega), e1 _ (by omega) (by omega)]; exact j2
    · obtain ⟨D, k, d1, d2, d3, d4⟩ := j4 z
      exact ⟨D, k, d1, d2, d3, d4.cg (fun t t1 t2 => e2 t (by omega))⟩
    · obtain ⟨k, d1, d2, d3⟩ := j6 D z
      exact ⟨k, d1, d2, d3.cg (fun t t1 t2 => e2 t (by omega))⟩
theorem act110_b {L b : Nat} {tp : Nat → Int32} {x1 x2 : Int32} {σ : AH} (h : RgB L tp b σ) : F_X12_act_110 x1 x2 σ = F_X12_act_129 x1 x2 σ := by
  unfold F_X12_act_110
  rw [h.2.1, if_neg (show ¬ (1 : Int32) = 0 by decide)]
theorem act83_b {L b g : Nat} {tp : Nat → Int32} {x1 x2 : Int32} {σ : AH} (h : RgB L tp b σ) : F_X12_act_83 (g + 1) x1 x2 σ = F_X12_act_129 x1 x2 σ := by
  show B_X12_act_83 (F_X12_act_83 g) x1 x2 σ = _
  unfold B_X12_act_83
  rw [h.2.1, if_neg (show ¬ (1 : Int32) = 0 by decide), act110_b h]
/-- the reference -/
theorem text_R {L g : Nat} {tp : Nat → Int32} {x1 x2 : Int32} : ∀ (f cn b m np : Nat) (σ : AH), 17 ≤ f + cn → cn ≤ 16 → RgQ L tp b m np σ → gI σ 124 13 = nI cn →
    (∀ b', prTx L tp f cn b np = (b', none) → ∃ τ, (bv (F_X12_readClause σ) fun s => F_X12_act_83 (f + g) x1 x2 s) = F_X12_act_129 x1 x2 τ ∧ RgB L tp b' τ ∧ Ch RCc RCf σ τ) ∧
    (∀ b' Cs, prTx L tp f cn b np = (b', some Cs) → ∃ τ m' np', (bv (F_X12_readClause σ) fun s => F_X12_act_83 (f + g) x1 x2 s) = F_X12_act_129 x1 x2 τ ∧ RgQ L tp b' m' np' τ ∧ gI τ 124 13 = nI (cn + Cs.length) ∧ cn + Cs.length ≤ 16 ∧ m ≤ m' ∧ (∀ t, t < m → gI τ 130 t = gI σ 130 t ∧ gI τ 131 t = gI σ 131 t) ∧ (∀ t, t < 9 * cn → gI τ 129 t = gI σ 129 t) ∧ ClsR (gI τ 129) (gI τ 130) (gI τ 131) Cs cn m m' ∧ Ch RCc RCf σ τ) := by
  intro f
  induction f with
  | zero => intro cn b m np σ h1 h2; omega
  | succ f ih =>
    intro cn b m np σ h1 h2 h h13
    obtain ⟨r1, r2⟩ := F_clauseR h h13 h2
    rw [prTx_s]
    rcases hr : prC L tp cn b np with ⟨b1, _ | ⟨n1, C⟩⟩
    · obtain ⟨s1, u1, u2, u3⟩ := r1 b1 hr
      rw [u1, bv_some, show f + 1 + g = (f + g) + 1 by omega, act83_b u2]
      refine ⟨fun b' e' => ?_, fun b' Cs e' => (by cases e')⟩
      cases e'
      exact ⟨s1, rfl, u2, u3⟩
    · obtain ⟨s1, m1, u1, U1, u2, u3, u4, u5, u6, u7⟩ := r2 b1 n1 C hr
      have cn16 : cn < 16 := by
        rcases Nat.lt_or_ge cn 16 with z | z
        · exact z
        · unfold prC at hr; rw [if_pos z] at hr; cases hr
      show (∀ b', prTx1 L tp f cn b1 n1 C = (b', none) → _) ∧ (∀ b' Cs, prTx1 L tp f cn b1 n1 C = (b', some Cs) → _)
      rw [u1, bv_some]
      have F0 : F_X12_act_83 (f + 1 + g) x1 x2 s1 = if b2 (isS L tp b1 59) = 0 then F_X12_act_110 x1 x2 s1 else (bv (F_X12_next s1) fun σ30 => (bv (F_X12_readClause σ30) fun σ35 => (F_X12_act_83 (f + g) x1 x2 σ35))) := by
        rw [show f + 1 + g = (f + g) + 1 by omega]
        show B_X12_act_83 (F_X12_act_83 (f + g)) x1 x2 s1 = _
        unfold B_X12_act_83
        rw [if_pos U1.2.2.1, F_isSignR U1.2.1, bd_some]
      rw [F0]
      unfold prTx1
      cases c59 : isS L tp b1 59 with
      | true =>
        obtain ⟨s2, a1, A1, a2⟩ := U1.next
        have nb := nxt_b (tp := tp) U1.2.1.2.2.2.2
        rw [hnT, a1, bv_some, if_pos rfl]
        obtain ⟨q1, q2⟩ := ih (cn + 1) (nxt L tp b1) m1 n1 s2 (by omega) (by omega) A1 (by rw [a2.pI (by simp) (by simp [TNf])]; exact u2)
        have k2 := u7.trans (TN_RC a2)
        rcases hr2 : prTx L tp f (cn + 1) (nxt L tp b1) n1 with ⟨b2, _ | Cs2⟩
        · obtain ⟨τ, t1, t2, t3⟩ := q1 b2 hr2
          rw [t1]
          refine ⟨fun b' e' => ?_, fun b' Cs e' => (by cases e')⟩
          cases e'
          exact ⟨τ, rfl, t2, k2.trans t3⟩
        · obtain ⟨τ, m', np', t1, t2, t3, t4, t5, t6, t7, t8, t9⟩ := q2 b2 Cs2 hr2
          rw [t1]
          refine ⟨fun b' e' => (by cases e'), fun b' Cs e' => ?_⟩
          cases e'
          refine ⟨τ, m', np', rfl, t2, by rw [t3, List.length_cons]; congr 1; omega, by rw [List.length_cons]; omega, by omega, fun t ht => ?_, fun t ht => ?_, ?_, k2.trans t9⟩
          · rw [(t6 t (by omega)).1, (t6 t (by omega)).2, a2.rI (by simp) (by simp [TNf]), a2.rI (by simp) (by simp [TNf])]; exact u4 t ht
          · rw [t7 t (by omega), a2.rI (by simp) (by simp [TNf])]; exact u5 t ht
          · rw [ClsR_c]
            refine ⟨m1, u3.2.1, t5, u6.cg (fun t t1 t2 => ?_) (fun t ht => ?_), t8⟩
            · rw [t7 t (by omega), a2.rI (by simp) (by simp [TNf])]
            · rw [(t6 t ht).1, (t6 t ht).2, a2.rI (by simp) (by simp [TNf]), a2.rI (by simp) (by simp [TNf])]; exact ⟨rfl, rfl⟩
      | false =>
        rw [hpF, if_neg (by decide)]
        unfold F_X12_act_110
        rw [if_pos U1.2.2.1, U1.2.1.2.2.1]
        by_cases c0 : tkT L tp b1 = 0
        · rw [if_pos c0, if_pos (show nI (tkT L tp b1) = (0 : Int32) by rw [c0]; rfl)]
          refine ⟨fun b' e' => (by cases e'), fun b' Cs e' => ?_⟩
          cases e'
          refine ⟨s1, m1, n1, rfl, U1, u2, by show cn + 1 ≤ 16; omega, u3.2.1, u4, u5, ?_, u7⟩
          rw [ClsR_c]
          exact ⟨m1, u3.2.1, Nat.le_refl _, u6, rfl⟩
        · rw [if_neg c0, if_neg (show ¬ nI (tkT L tp b1) = (0 : Int32) from fun z => c0 ((tkT_i (n := 0) (by decide)).mp z))]
          obtain ⟨s2, a1, A1, a2⟩ := mustQ0 U1
          rw [a1, bv_some]
          refine ⟨fun b' e' => ?_, fun b' Cs e' => (by cases e')⟩
          cases e'
          exact ⟨s2, rfl, A1, u7.trans (bb_RC a2)⟩
/-! the class -/
def ClC1 (C : Cls) (h s g cd : Nat → Int32) (cn sz sz' : Nat) : Prop := h cn = nI (hdV C.1) ∧ s cn = nI (if C.1.1 = 0 then 16 * C.1.2.1 + C.1.2.2.1 else 0) ∧ g cn = nI sz ∧ (C.1.1 ≠ 0 → CcD cd sz sz' (valC C)) ∧ ∀ D, C.2.2 = some D → is01 D
def ClsC (h s g cd : Nat → Int32) : List Cls → Nat → Nat → Nat → Prop := fun Cs => match Cs with
  | [] => fun _ m m' => m' = m
  | C :: Cs => fun cn m m' => ∃ m1, m ≤ m1 ∧ m1 ≤ m' ∧ ClC1 C h s g cd cn m m1 ∧ ClsC h s g cd Cs (cn + 1) m1 m'
theorem ClsC_c {h s g cd : Nat → Int32} {C : Cls} {Cs : List Cls} {cn m m' : Nat} : ClsC h s g cd (C :: Cs) cn m m' = ∃ m1, m ≤ m1 ∧ m1 ≤ m' ∧ ClC1 C h s g cd cn m m1 ∧ ClsC h s g cd Cs (cn + 1) m1 m' := rfl
def CTf : List (Nat × Nat) := [(22, 2), (22, 7), (22, 8), (22, 9), (22, 10), (22, 11), (22, 12)]
theorem CC_CT {σ τ : AH} (c : Ch CCc RDf σ τ) : Ch CCc CTf σ τ := c.mono (fun q hq => hq) (by simp [RDf, CTf])
/-- the CLAUSES of a TEXT one by one: 0 or 1, as a loop of my own; readTx: what read does with it -/
def txB (k : AH → Option (Int32 × AH)) (σ : AH) : Option (Int32 × AH) := (if (16 : Int32) ≤ (gI σ 22 2) then (some ((0 : Int32), σ)) else (bd (F_X5_readClause σ) fun v6 σ2 => (if v6 = 0 then (some ((0 : Int32), σ2)) else (if (gI (sI σ2 22 2 ((gI σ2 22 2) + (1 : Int32))) 22 11) = 0 then (some ((1 : Int32), (sI σ2 22 2 ((gI σ2 22 2) + (1 : Int32))))) else (bd (F_X5_takeSign (59 : Int32) (sI σ2 22 2 ((gI σ2 22 2) + (1 : Int32)))) fun v12 σ8 => (if v12 = 0 then (some ((0 : Int32), σ8)) else (k σ8)))))))
def txF : Nat → AH → Option (Int32 × AH) := fun k => match k with | 0 => fun _ => none | k + 1 => txB (txF k)
theorem tx_read : ∀ (f : Nat) (σ : AH), F_X5_read_24 f σ = bd (txF f σ) fun v11 σ7 => (if v11 = 0 then (some ((gI σ7 22 9), σ7)) else (some ((-1 : Int32), σ7))) := by
  intro f
  induction f with
  | zero => intro σ; rfl
  | succ f ih =>
    intro σ
    show B_X5_read_24 (F_X5_read_24 f) σ = bd (txB (txF f) σ) _
    unfold B_X5_read_24 txB F_X5_read_73
    simp only [bd_bd, bd_ite, bd_some, ih, if_true, if_false, show ((1 : Int32) = 0) = False from eq_false (by decide)]
theorem text_C {L g : Nat} {tp : Nat → Int32} : ∀ (f cn b sz np : Nat) (σ : AH), 17 ≤ f + cn → cn ≤ 16 → CgS L tp b sz np σ → gI σ 22 2 = nI cn →
    (∀ b', prTx L tp f cn b np = (b', none) → ∃ τ, txF (f + g) σ = some (0, τ) ∧ TkC L tp b' τ ∧ Ch CCc CTf σ τ) ∧
    (∀ b' Cs, prTx L tp f cn b np = (b', some Cs) → ∃ τ sz' np', txF (f + g) σ = some (1, τ) ∧ CgS L tp b' sz' np' τ ∧ gI τ 22 2 = nI (cn + Cs.length) ∧ sz ≤ sz' ∧ (∀ t, t < sz → gI τ 27 t = gI σ 27 t) ∧ (∀ t, t < cn → gI τ 24 t = gI σ 24 t ∧ gI τ 25 t = gI σ 25 t ∧ gI τ 26 t = gI σ 26 t) ∧ ClsC (gI τ 24) (gI τ 25) (gI τ 26) (gI τ 27) Cs cn sz sz' ∧ Ch CCc CTf σ τ) := by
  intro f
  induction f with
  | zero => intro cn b sz np σ h1 h2; omega
  | succ f ih =>
    intro cn b sz np σ h1 h2 h h22
    have F0 : txF (f + 1 + g) σ = txB (txF (f + g)) σ := by rw [show f + 1 + g = (f + g) + 1 by omega]; rfl
    unfold txB at F0
    rw [h22] at F0
    rw [prTx_s]
    by_cases c16 : 16 ≤ cn
    · rw [if_pos (show (16 : Int32) ≤ nI cn from nI_le (a := 16) c16 (by omega))] at F0
      have pc : prC L tp cn b np = (b, none) := by unfold prC; rw [if_pos c16]
      rw [pc, F0]
      refine ⟨fun b' e' => ?_, fun b' Cs e' => (by cases e')⟩
      cases e'
      exact ⟨σ, rfl, h.2.1, Ch.rf _⟩
    rw [if_neg (show ¬ (16 : Int32) ≤ nI cn from nI_ge (b := 16) (by omega) (by decide))] at F0
    have pc : prC L tp cn b np = prCl L tp b np := by unfold prC; rw [if_neg c16]
    obtain ⟨r1, r2⟩ := F_clauseC h h22 (by omega)
    rw [pc]
    rcases hr : prCl L tp b np with ⟨b1, _ | ⟨n1, C⟩⟩
    · obtain ⟨s1, u1, u2, u3⟩ := r1 b1 hr
      rw [u1, bd_some, if_pos rfl] at F0
      rw [F0]
      refine ⟨fun b' e' => ?_, fun b' Cs e' => (by cases e')⟩
      cases e'
      exact ⟨s1, rfl, u2, CC_CT u3⟩
    · obtain ⟨s1, sz1, u1, U1, u2, u3, u4, u5, u6, u7, u8, u9⟩ := r2 b1 n1 C hr
      rw [u1, bd_some, if_neg (show ¬ (1 : Int32) = 0 by decide)] at F0
      show (∀ b', prTx1 L tp f cn b1 n1 C = (b', none) → _) ∧ (∀ b' Cs, prTx1 L tp f cn b1 n1 C = (b', some Cs) → _)
      have e22 : gI s1 22 2 = nI cn := by rw [u9.pI (by simp [CCc]) (by simp [RDf])]; exact h22
      obtain ⟨s2, hs2⟩ : ∃ s2, s2 = sI s1 22 2 (nI (cn + 1)) := ⟨_, rfl⟩
      have k2 : Ch [] [(22, 2)] s1 s2 := by rw [hs2]; exact Ch.sI1 (Or.inl (by simp))
      have U2 := U1.ch (k2.mono (by simp) (by simp))
      have kk2 : Ch CCc CTf σ s2 := (CC_CT u9).trans (k2.mono (by simp) (by simp [CTf]))
      rw [e22, nI_1, ← hs2, U2.2.1.2.2.1] at F0
      have c1 : ClC1 C (gI s2 24) (gI s2 25) (gI s2 26) (gI s2 27) cn sz sz1 := by
        rw [k2.rI (by simp) (by simp), k2.rI (by simp) (by simp), k2.rI (by simp) (by simp), k2.rI (by simp) (by simp)]
        exact ⟨u3.1, u4.1, u5.1, u7, u8⟩
      have lo27 : ∀ t, t < sz → gI s2 27 t = gI σ 27 t := fun t ht => by rw [k2.rI (by simp) (by simp)]; exact u6 t ht
      have lo24 : ∀ t, t < cn → gI s2 24 t = gI σ 24 t ∧ gI s2 25 t = gI σ 25 t ∧ gI s2 26 t = gI σ 26 t := fun t ht => by
        rw [k2.rI (by simp) (by simp), k2.rI (by simp) (by simp), k2.rI (by simp) (by simp)]
        exact ⟨u3.2 t (by omega), u4.2 t (by omega), u5.2 t (by omega)⟩
      rw [F0]
      unfold prTx1
      by_cases c0 : tkT L tp b1 = 0
      · have n59 : isS L tp b1 59 = false := by
          cases z : isS L tp b1 59 with
          | false => rfl
          | true => have := isS_sort z; omega
        rw [n59, if_neg (by decide), if_pos c0, if_pos (show nI (tkT L tp b1) = (0 : Int32) by rw [c0]; rfl)]
        refine ⟨fun b' e' => (by cases e'), fun b' Cs e' => ?_⟩
        cases e'
        refine ⟨s2, sz1, n1, rfl, U2, by rw [hs2, gI_sI_at]; rfl, u2.2.1, lo27, lo24, ?_, kk2⟩
        rw [ClsC_c]
        exact ⟨sz1, u2.2.1, Nat.le_refl _, c1, rfl⟩
      · rw [if_neg (show ¬ nI (tkT L tp b1) = (0 : Int32) from fun z => c0 ((tkT_i (n := 0) (by decide)).mp z))]
        rcases F_takeSignC (x := 59) U2.1 U2.2.1 with ⟨z1, z2⟩ | ⟨z1, s3, a1, a2, a3⟩
        · rw [z1, z2, bd_some, if_pos rfl, if_neg (by decide), if_neg c0]
          refine ⟨fun b' e' => ?_, fun b' Cs e' => (by cases e')⟩
          cases e'
          exact ⟨s2, rfl, U2.2.1, kk2⟩
        · have nb := nxt_b (tp := tp) U2.b.1
          have U3 : CgS L tp (nxt L tp b1) sz1 n1 s3 := by
            obtain ⟨h1, h2, h3, h4, h5, h6⟩ := U2
            exact ⟨h1.ch a3 (by simp) (by simp [TKf]), a2, by rw [a3.pI (by simp) (by simp [TKf])]; exact h3, by rw [a3.pI (by simp) (by simp [TKf])]; exact h4, by omega, h6⟩
          have kk3 : Ch CCc CTf σ s3 := kk2.trans (a3.mono (by simp) (by simp [TKf, CTf]))
          obtain ⟨q1, q2⟩ := ih (cn + 1) (nxt L tp b1) sz1 n1 s3 (by omega) (by omega) U3 (by rw [a3.pI (by simp) (by simp [TKf]), hs2, gI_sI_at])
          rw [z1, a1, bd_some, if_neg (show ¬ (1 : Int32) = 0 by decide), if_pos rfl]
          rcases hr2 : prTx L tp f (cn + 1) (nxt L tp b1) n1 with ⟨b2, _ | Cs2⟩
          · obtain ⟨τ, t1, t2, t3⟩ := q1 b2 hr2
            rw [t1]
            refine ⟨fun b' e' => ?_, fun b' Cs e' => (by cases e')⟩
            cases e'
            exact ⟨τ, rfl, t2, kk3.trans t3⟩
          · obtain ⟨τ, sz', np', t1, t2, t3, t4, t5, t6, t7, t8⟩ := q2 b2 Cs2 hr2
            rw [t1]
            refine ⟨fun b' e' => (by cases e'), fun b' Cs e' => ?_⟩
            cases e'
            have e3 : ∀ x, x ≠ 22 → gI s3 x = gI s2 x := fun x hx => a3.rI (by simp) (fun q hq => by
              simp only [TKf, List.mem_cons, List.not_mem_nil, or_false] at hq
              rcases hq with z | z | z | z <;> rw [z] <;> exact fun w => hx w.symm)
            refine ⟨τ, sz', np', rfl, t2, by rw [t3, List.length_cons]; congr 1; omega, by omega, fun t ht => by rw [t5 t (by omega), e3 27 (by decide)]; exact lo27 t ht, fun t ht => ?_, ?_, kk3.trans t8⟩
            · have y := t6 t (by omega)
              rw [y.1, y.2.1, y.2.2, e3 24 (by decide), e3 25 (by decide), e3 26 (by decide)]; exact lo24 t ht
            · rw [ClsC_c]
              have y := t6 cn (by omega)
              refine ⟨sz1, u2.2.1, t4, ⟨by rw [y.1, e3 24 (by decide)]; exact c1.1, by rw [y.2.1, e3 25 (by decide)]; exact c1.2.1, by rw [y.2.2, e3 26 (by decide)]; exact c1.2.2.1, fun z => (c1.2.2.2.1 z).cg (fun t t1 t2 => by rw [t5 t t2, e3 27 (by decide)]), c1.2.2.2.2⟩, t7⟩
end
