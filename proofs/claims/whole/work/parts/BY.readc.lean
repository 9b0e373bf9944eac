section
/-! the class reads PARTS -/
def RDf : List (Nat × Nat) := [(22, 7), (22, 8), (22, 9), (22, 10), (22, 11), (22, 12)]
def CgS (L : Nat) (tp : Nat → Int32) (b sz np : Nat) (σ : AH) : Prop := TpC L tp σ ∧ TkC L tp b σ ∧ gI σ 22 7 = nI sz ∧ gI σ 22 8 = nI np ∧ sz ≤ b ∧ np ≤ 60
def CgR (L : Nat) (tp : Nat → Int32) (p : Nat → Nat → PR) (f : AH → Option (Int32 × AH)) (tst : Bool) (b sz np : Nat) (σ : AH) : Prop :=
  (∀ b', p b np = (b', none) → ∃ τ, f σ = some (0, τ) ∧ TkC L tp b' τ ∧ Ch [27] RDf σ τ) ∧
  (∀ b' np' D, p b np = (b', some (np', D)) → ∃ τ sz', f σ = some (1, τ) ∧ CgS L tp b' sz' np' τ ∧ (b < b' ∧ sz < sz' ∧ sz' + b ≤ sz + b' ∧ np < np') ∧ (∀ i, i < sz → gI τ 27 i = gI σ 27 i) ∧ SgC (gI τ 27) sz sz' (np' - np) D ∧ (tst = true → is01 D) ∧ Ch [27] RDf σ τ)
def CgP (L : Nat) (tp : Nat → Int32) (p : Nat → Nat → PR) (f : AH → Option (Int32 × AH)) (tst : Bool) : Prop := ∀ b sz np σ, CgS L tp b sz np σ → CgR L tp p f tst b sz np σ
theorem CgR.fail {L : Nat} {tp : Nat → Int32} {p : Nat → Nat → PR} {f : AH → Option (Int32 × AH)} {tst : Bool} {b sz np b0 : Nat} {σ : AH} (e : p b np = (b0, none)) (h : ∃ τ, f σ = some (0, τ) ∧ TkC L tp b0 τ ∧ Ch [27] RDf σ τ) : CgR L tp p f tst b sz np σ :=
  ⟨fun b' e' => (by rw [e] at e'; cases e'; exact h), fun b' np' D e' => (by rw [e] at e'; cases e')⟩
theorem CgR.good {L : Nat} {tp : Nat → Int32} {p : Nat → Nat → PR} {f : AH → Option (Int32 × AH)} {tst : Bool} {b sz np b0 n0 : Nat} {D0 : Den} {σ : AH} (e : p b np = (b0, some (n0, D0))) (h : ∃ τ sz', f σ = some (1, τ) ∧ CgS L tp b0 sz' n0 τ ∧ (b < b0 ∧ sz < sz' ∧ sz' + b ≤ sz + b0 ∧ np < n0) ∧ (∀ i, i < sz → gI τ 27 i = gI σ 27 i) ∧ SgC (gI τ 27) sz sz' (n0 - np) D0 ∧ (tst = true → is01 D0) ∧ Ch [27] RDf σ τ) : CgR L tp p f tst b sz np σ :=
  ⟨fun b' e' => (by rw [e] at e'; cases e'), fun b' np' D e' => (by rw [e] at e'; cases e'; exact h)⟩
theorem TKf_RDf {σ τ : AH} (c : Ch [] TKf σ τ) : Ch [27] RDf σ τ := c.mono (by simp) (by simp [TKf, RDf])
theorem CgS.step {L b sz np : Nat} {tp : Nat → Int32} {σ : AH} (h : CgS L tp b sz np σ) : ∃ τ, F_X5_step σ = some τ ∧ CgS L tp (nxt L tp b) sz np τ ∧ gI τ 27 = gI σ 27 ∧ Ch [] TKf σ τ := by
  obtain ⟨h1, h2, h3, h4, h5, h6⟩ := h
  obtain ⟨τ, t1, t2, t3⟩ := F_step1 h1 h2
  have := nxt_b (tp := tp) h2.2.2.2.2
  exact ⟨τ, t1, ⟨h1.ch t3 (by simp) (by simp [TKf]), t2, by rw [t3.pI (by simp) (by simp [TKf])]; exact h3, by rw [t3.pI (by simp) (by simp [TKf])]; exact h4, by omega, h6⟩, t3.rI (by simp) (by simp [TKf]), t3⟩
theorem F_emitC {c r sz : Nat} {σ : AH} (h7 : gI σ 22 7 = nI sz) (hs : sz < 400) (hc : c < 16) (hr : r < 2 ^ 20) : ∃ τ, F_X5_emit (nI c) (nI r) σ = some τ ∧ gI τ 22 7 = nI (sz + 1) ∧ gI τ 27 = va_up (gI σ 27) sz (nI (c + 16 * r)) ∧ Ch [27] [(22, 7)] σ τ := by
  unfold F_X5_emit
  rw [h7, if_neg (show ¬ (400 : Int32) ≤ nI sz from nI_ge (b := 400) hs (by decide)), if_pos (inB_n hs (by decide)), nI_clamp (by omega), code_or hc hr, lt_e, gI_sI_row (o := 27) (a := 22) (by decide), h7, nI_1]
  exact ⟨_, rfl, gI_sI_at, by rw [gI_sI_row (by decide), gI_sI_own], (Ch.sI1 (Or.inr (by simp))).trans (Ch.sI1 (Or.inl (by simp)))⟩
theorem CgS.emit {L b sz np c r : Nat} {tp : Nat → Int32} {σ : AH} (h : CgS L tp b sz np σ) (hs : sz + 1 ≤ b) (hc : c < 16) (hr : r < 2 ^ 20) : ∃ τ, F_X5_emit (nI c) (nI r) σ = some τ ∧ CgS L tp b (sz + 1) np τ ∧ gI τ 27 = va_up (gI σ 27) sz (nI (c + 16 * r)) ∧ Ch [27] RDf σ τ := by
  obtain ⟨h1, h2, h3, h4, h5, h6⟩ := h
  have L4 := h1.2.1
  have bl := h2.2.2.2.2
  obtain ⟨τ, t1, t2, t3, t4⟩ := F_emitC (c := c) (r := r) h3 (by omega) hc hr
  refine ⟨τ, t1, ⟨h1.ch t4 (by simp) (by simp), ?_, t2, by rw [t4.pI (by simp) (by simp)]; exact h4, hs, h6⟩, t3, t4.mono (by simp) (by simp [RDf])⟩
  obtain ⟨k1, k2, k3, k4, k5⟩ := h2
  exact ⟨by rw [t4.pI (by simp) (by simp)]; exact k1, by rw [t4.pI (by simp) (by simp)]; exact k2, by rw [t4.pI (by simp) (by simp)]; exact k3, by rw [t4.pI (by simp) (by simp)]; exact k4, k5⟩
theorem F_takeLeafC {L b sz np c r : Nat} {tp : Nat → Int32} {σ : AH} (h : CgS L tp b sz np σ) (hb : b < L) (hc : c < 16) (hr : r < 2 ^ 20) : (¬ np < 60 ∧ F_X5_takeLeaf (nI c) (nI r) σ = some (0, σ)) ∨ (np < 60 ∧ ∃ τ, F_X5_takeLeaf (nI c) (nI r) σ = some (1, τ) ∧ CgS L tp (nxt L tp b) (sz + 1) (np + 1) τ ∧ gI τ 27 = va_up (gI σ 27) sz (nI (c + 16 * r)) ∧ Ch [27] RDf σ τ) := by
  obtain ⟨h1, h2, h3, h4, h5, h6⟩ := h
  have L4 := h1.2.1
  unfold F_X5_takeLeaf
  rw [h4]
  by_cases q : np < 60
  · right
    rw [if_pos (show nI np < (60 : Int32) from nI_lt (b := 60) q (by decide)), nI_1]
    have k1 : Ch [] [(22, 8)] σ (sI σ 22 8 (nI (np + 1))) := Ch.sI1 (Or.inl (by simp))
    obtain ⟨s2, a1, a2, a3, a4⟩ := F_emitC (c := c) (r := r) (σ := sI σ 22 8 (nI (np + 1))) (by rw [gI_sI_ne (by decide)]; exact h3) (by omega) hc hr
    have k2 : Ch [27] RDf σ s2 := (k1.mono (by simp) (by simp [RDf])).trans (a4.mono (by simp) (by simp [RDf]))
    have T2 : TpC L tp s2 := h1.ch k2 (by simp) (by simp [RDf])
    have e : ∀ k, k = 9 ∨ k = 10 ∨ k = 11 ∨ k = 12 → gI s2 22 k = gI σ 22 k := fun k hk => by
      rw [a4.pI (by simp) (by simp; omega), k1.pI (by simp) (by simp; omega)]
    obtain ⟨g1, g2, g3, g4, g5⟩ := id h2
    have K2 : TkC L tp b s2 := ⟨by rw [e 9 (by omega)]; exact g1, by rw [e 10 (by omega)]; exact g2, by rw [e 11 (by omega)]; exact g3, by rw [e 12 (by omega)]; exact g4, g5⟩
    obtain ⟨s3, b1, b2', b3⟩ := F_step1 T2 K2
    have nb := nxt_b (tp := tp) g5
    rw [a1, bv_some, b1, bv_some]
    refine ⟨q, s3, rfl, ⟨T2.ch b3 (by simp) (by simp [TKf]), b2', by rw [b3.pI (by simp) (by simp [TKf])]; exact a2, ?_, by omega, by omega⟩, ?_, k2.trans (TKf_RDf b3)⟩
    · rw [b3.pI (by simp) (by simp [TKf]), a4.pI (by simp) (by simp)]; exact gI_sI_at
    · rw [b3.rI (by simp) (by simp [TKf]), a3, gI_sI_row (by decide)]
  · left
    exact ⟨q, by rw [if_neg (show ¬ nI np < (60 : Int32) from fun z => by rw [Int32.lt_iff_toInt_lt, nI_toInt (by omega)] at z; have : (60 : Int32).toInt = 60 := (by decide); omega)]⟩
theorem CgS.b {L b sz np : Nat} {tp : Nat → Int32} {σ : AH} (h : CgS L tp b sz np σ) : b ≤ L ∧ L ≤ 400 := ⟨h.2.1.2.2.2.2, h.1.2.1⟩
theorem va_lo {f : Nat → Int32} {k i : Nat} {v : Int32} (h : i < k) : va_up f k v i = f i := up_ne _ _ _ (by omega)
theorem CgPart {L d : Nat} {tp : Nat → Int32} {S : Nat → Nat → PR} {c : Int32 → AH → Option (Int32 × AH)} {ok : Bool} (hok : ok = decide (d < 8)) (hd : d ≤ 8) (hS : ok = true → CgP L tp S (c (nI (d + 1))) false) : CgP L tp (prPart L tp S ok) (F_X5_readPart c (nI d)) false := by
  intro b sz np σ h
  obtain ⟨h1, h2, h3, h4, h5, h6⟩ := id h
  obtain ⟨bL, L4⟩ := h.b
  have N6 : tkN L tp b ≤ 1000000 := by
    unfold tkN
    by_cases c : tkT L tp b = 2
    · rw [if_pos c]; exact cnm_le _ _ _ (by decide)
    · rw [if_neg c]; decide
  have id0 : ∃ τ, some ((0 : Int32), σ) = some ((0 : Int32), τ) ∧ TkC L tp b τ ∧ Ch [27] RDf σ τ := ⟨σ, rfl, h2, Ch.rf _⟩
  have g11 : gI σ 22 11 = nI (tkT L tp b) := h2.2.2.1
  have g12 : gI σ 22 12 = nI (tkN L tp b) := h2.2.2.2.1
  by_cases t2 : tkT L tp b = 2
  · have lt := tkT_lt (L := L) (tp := tp) (b := b) (by rw [t2]; decide)
    have nb := nxt_b (tp := tp) bL
    have f0 : F_X5_readPart c (nI d) σ = if (10000 : Int32) < nI (tkN L tp b) then some (0, σ) else (bd (F_X5_takeLeaf (0 : Int32) (nI (tkN L tp b)) σ) fun v60 σ56 => if v60 = 0 then some (0, σ56) else some (1, σ56)) := by
      unfold F_X5_readPart
      rw [g11, g12, if_pos (show nI (tkT L tp b) = (2 : Int32) by rw [t2]; rfl)]
    by_cases q : tkN L tp b ≤ 10000
    · have f1 : ¬ (10000 : Int32) < nI (tkN L tp b) := fun z => by rw [Int32.lt_iff_toInt_lt, nI_toInt (by omega)] at z; have : (10000 : Int32).toInt = 10000 := (by decide); omega
      rw [if_neg f1] at f0
      rcases F_takeLeafC (c := 0) (r := tkN L tp b) h lt (by decide) (by omega) with ⟨a1, a2⟩ | ⟨a1, s1, a2, a3, a4, a5⟩
      · have a2' : F_X5_takeLeaf (0 : Int32) (nI (tkN L tp b)) σ = some (0, σ) := a2
        refine CgR.fail (b0 := b) (by unfold prPart; rw [if_pos t2, if_neg (fun z => a1 z.2)]) ?_
        rw [f0, a2', bd_some, if_pos rfl]; exact id0
      · have a2' : F_X5_takeLeaf (0 : Int32) (nI (tkN L tp b)) σ = some (1, s1) := a2
        refine CgR.good (by unfold prPart; rw [if_pos t2, if_pos ⟨q, a1⟩]) ?_
        rw [f0, a2', bd_some, if_neg (show ¬ (1 : Int32) = 0 by decide)]
        refine ⟨s1, sz + 1, rfl, a3, by omega, fun i hi => by rw [a4, va_lo hi], ?_, (fun z => by cases z), a5⟩
        rw [show np + 1 - np = 1 by omega]
        exact SgC.num (by rw [a4, up_same]) (by omega)
    · have f1 : (10000 : Int32) < nI (tkN L tp b) := nI_lt (a := 10000) (by omega) (by omega)
      rw [if_pos f1] at f0
      refine CgR.fail (b0 := b) (by unfold prPart; rw [if_pos t2, if_neg (fun z => q z.1)]) ?_
      rw [f0]; exact id0
  · have wi := F_wordInC (k := 6) h1 h2 (by decide)
    have f0 : F_X5_readPart c (nI d) σ = (if oI (ixQ L tp b (wL 6) 0) = (-1 : Int32) then (if nI d < (8 : Int32) then (bd (F_X5_takeSign (91 : Int32) σ) fun v12 σ8 => (if v12 = 0 then (bd (F_X5_takeWord 7 σ8) fun v18 σ14 => (if v18 = (-1 : Int32) then (some ((0 : Int32), σ14)) else (bd (F_X5_takeSign (91 : Int32) σ14) fun v24 σ20 => (if v24 = 0 then (some ((0 : Int32), σ20)) else (bd (c (nI d + (1 : Int32)) σ20) fun v30 σ26 => (if v30 = 0 then (some ((0 : Int32), σ26)) else (bd (F_X5_takeSign (44 : Int32) σ26) fun v36 σ32 => (if v36 = 0 then (F_X5_readPart_156 c σ32) else (F_X5_readPart_137 c (nI d) v18 σ32))))))))) else (bd (c (nI d + (1 : Int32)) σ8) fun v42 σ38 => (if v42 = 0 then (some ((0 : Int32), σ38)) else (bd (F_X5_takeSign (93 : Int32) σ38) fun v48 σ44 => (if v48 = 0 then (some ((0 : Int32), σ44)) else (some ((1 : Int32), σ44)))))))) else (some ((0 : Int32), σ))) else (bd (F_X5_takeLeaf (1 : Int32) (oI (ixQ L tp b (wL 6) 0)) σ) fun v54 σ50 => (if v54 = 0 ∨ v54 = 1 then some (v54, σ50) else none))) := by
      unfold F_X5_readPart
      rw [g11, if_neg (show ¬ nI (tkT L tp b) = (2 : Int32) from fun z => t2 ((tkT_i (n := 2) (by decide)).mp z)), wi, bd_some]
    cases ix : ixQ L tp b (wL 6) 0 with
    | some q =>
      have q7 := ixQ_lt _ _ _ ix
      have wl6 : (wL 6).length = 7 := by decide
      have lt : b < L := by
        refine tkT_lt (L := L) (tp := tp) (b := b) (fun z => ?_)
        have : ∀ (ws : List (List Int32)) (q : Nat), ixQ L tp b ws q = none := by
          intro ws
          induction ws with
          | nil => intro q; rfl
          | cons w t ih =>
            intro q
            rw [ixQ_c, if_neg (fun y => by have := isW_sort y; omega)]
            exact ih _
        rw [this] at ix; cases ix
      have nb := nxt_b (tp := tp) bL
      rw [ix, show oI (some q) = nI q from rfl, if_neg (nI_neg1 (by omega))] at f0
      rcases F_takeLeafC (c := 1) (r := q) h lt (by decide) (by omega) with ⟨a1, a2⟩ | ⟨a1, s1, a2, a3, a4, a5⟩
      · have a2' : F_X5_takeLeaf (1 : Int32) (nI q) σ = some (0, σ) := a2
        refine CgR.fail (b0 := b) (by unfold prPart; rw [if_neg t2, ix]; show (if np < 60 then _ else _) = _; rw [if_neg a1]) ?_
        rw [f0, a2', bd_some, if_pos (Or.inl rfl)]; exact id0
      · have a2' : F_X5_takeLeaf (1 : Int32) (nI q) σ = some (1, s1) := a2
        refine CgR.good (b0 := nxt L tp b) (n0 := np + 1) (D0 := fun st => some (st q).toInt64) (by unfold prPart; rw [if_neg t2, ix]; show (if np < 60 then _ else _) = _; rw [if_pos a1]) ?_
        rw [f0, a2', bd_some, if_pos (Or.inr rfl)]
        refine ⟨s1, sz + 1, rfl, a3, by omega, fun i hi => by rw [a4, va_lo hi], ?_, (fun z => by cases z), a5⟩
        rw [show np + 1 - np = 1 by omega]
        exact SgC.set (by rw [a4, up_same]) (by omega)
    | none =>
      rw [ix, show oI none = -1 from rfl, if_pos rfl] at f0
      cases o : ok with
      | false =>
        have d8 : ¬ nI d < (8 : Int32) := fun z => by
          rw [Int32.lt_iff_toInt_lt, nI_toInt (by omega)] at z
          have : (8 : Int32).toInt = 8 := by decide
          rw [o] at hok
          exact of_decide_eq_false hok.symm (by omega)
        rw [if_neg d8] at f0
        refine CgR.fail (b0 := b) (by unfold prPart; rw [if_neg t2, ix]; rfl) ?_
        rw [f0]; exact id0
      | true =>
        have dl : d < 8 := by rw [o] at hok; exact of_decide_eq_true hok.symm
        have hS' := hS o
        rw [if_pos (show nI d < (8 : Int32) from nI_lt (b := 8) dl (by decide)), nI_1] at f0
        have p0 : prPart L tp S true b np = if isS L tp b 91 = true then prSq L tp S (nxt L tp b) np else match ixQ L tp b (wL 7) 0 with
            | none => (b, none)
            | some q => prLm L tp S q (nxt L tp b) np := by
          unfold prPart; rw [if_neg t2, ix]; rfl
        rcases F_takeSignC (x := 91) h1 h2 with ⟨z1, z2⟩ | ⟨z1, s1, z2, z3, z4⟩
        · rw [z1, if_neg (by decide)] at p0
          rw [z2, bd_some, if_pos rfl] at f0
          rcases F_takeWordC (k := 7) h1 h2 (by decide) with ⟨y1, y2⟩ | ⟨q, y1, y2, s1, y3, y4, y5⟩
          · rw [y1] at p0
            rw [y2, bd_some, if_pos rfl] at f0
            exact CgR.fail p0 (by rw [f0]; exact id0)
          · have wl7 : (wL 7).length = 2 := by decide
            rw [y1] at p0
            have p1 : prPart L tp S true b np = prLm L tp S q (nxt L tp b) np := p0
            rw [y3, bd_some, if_neg (nI_neg1 (by omega))] at f0
            have lt : b < L := by
              refine tkT_lt (L := L) (tp := tp) (b := b) (fun z => ?_)
              have n0 : ∀ w, isW L tp b w = false := fun w => by
                cases y : isW L tp b w with
                | false => rfl
                | true => have := isW_sort y; omega
              have : ixQ L tp b (wL 7) 0 = none := by show ixQ L tp b [_, _] 0 = none; rw [ixQ_c, n0, if_neg (by decide), ixQ_c, n0, if_neg (by decide), ixQ_n]
              rw [this] at y1; cases y1
            have nb := nxt_b (tp := tp) bL
            have S1 : CgS L tp (nxt L tp b) sz np s1 := ⟨h1.ch y5 (by simp) (by simp [TKf]), y4, by rw [y5.pI (by simp) (by simp [TKf])]; exact h3, by rw [y5.pI (by simp) (by simp [TKf])]; exact h4, by omega, h6⟩
            have k1 : Ch [27] RDf σ s1 := TKf_RDf y5
            have c1 : gI s1 27 = gI σ 27 := y5.rI (by simp) (by simp [TKf])
            unfold prLm at p1
            rcases F_takeSignC (x := 91) S1.1 S1.2.1 with ⟨x1, x2⟩ | ⟨x1, s2, x2, x3, x4⟩
            · rw [x1, if_neg (by decide)] at p1
              rw [x2, bd_some, if_pos rfl] at f0
              exact CgR.fail p1 (by rw [f0]; exact ⟨s1, rfl, S1.2.1, k1⟩)
            · rw [x1, if_pos rfl] at p1
              rw [x2, bd_some, if_neg (show ¬ (1 : Int32) = 0 by decide)] at f0
              have nb1 := nxt_b (tp := tp) nb.2.1
              have S2 : CgS L tp (nxt L tp (nxt L tp b)) sz np s2 := ⟨S1.1.ch x4 (by simp) (by simp [TKf]), x3, by rw [x4.pI (by simp) (by simp [TKf])]; exact S1.2.2.1, by rw [x4.pI (by simp) (by simp [TKf])]; exact S1.2.2.2.1, by omega, h6⟩
              have k2 : Ch [27] RDf σ s2 := k1.trans (TKf_RDf x4)
              have c2 : gI s2 27 = gI σ 27 := by rw [x4.rI (by simp) (by simp [TKf])]; exact c1
              unfold prLm1 at p1
              obtain ⟨r1, r2⟩ := hS' _ _ _ _ S2
              rcases hr : S (nxt L tp (nxt L tp b)) np with ⟨b2, _ | ⟨n2, D2⟩⟩
              · rw [hr] at p1
                obtain ⟨s3, u1, u2, u3⟩ := r1 b2 hr
                rw [u1, bd_some, if_pos rfl] at f0
                exact CgR.fail p1 (by rw [f0]; exact ⟨s3, rfl, u2, k2.trans u3⟩)
              · rw [hr] at p1
                obtain ⟨s3, z3', u1, U3, u2, u4, u5, _, u6⟩ := r2 b2 n2 D2 hr
                have k3 : Ch [27] RDf σ s3 := k2.trans u6
                rw [u1, bd_some, if_neg (show ¬ (1 : Int32) = 0 by decide)] at f0
                have p2 : prPart L tp S true b np = if isS L tp b2 44 = true then prLm2 L tp S q (nxt L tp b2) n2 D2 else (b2, none) := p1
                rcases F_takeSignC (x := 44) U3.1 U3.2.1 with ⟨w1, w2⟩ | ⟨w1, s4, w2, w3, w4⟩
                · rw [w1, if_neg (by decide)] at p2
                  rw [w2, bd_some, if_pos rfl] at f0
                  unfold F_X5_readPart_156 at f0
                  exact CgR.fail p2 (by rw [f0]; exact ⟨s3, rfl, U3.2.1, k3⟩)
                · rw [w1, if_pos rfl] at p2
                  rw [w2, bd_some, if_neg (show ¬ (1 : Int32) = 0 by decide)] at f0
                  unfold F_X5_readPart_137 F_X5_readPart_156 F_X5_readPart_170 at f0
                  rw [nI_1] at f0
                  have b2L := U3.b.1
                  have nb2 := nxt_b (tp := tp) b2L
                  have S4 : CgS L tp (nxt L tp b2) z3' n2 s4 := ⟨U3.1.ch w4 (by simp) (by simp [TKf]), w3, by rw [w4.pI (by simp) (by simp [TKf])]; exact U3.2.2.1, by rw [w4.pI (by simp) (by simp [TKf])]; exact U3.2.2.2.1, by have := U3.2.2.2.2.1; omega, U3.2.2.2.2.2⟩
                  have c4 : gI s4 27 = gI s3 27 := w4.rI (by simp) (by simp [TKf])
                  have k4 : Ch [27] RDf σ s4 := k3.trans (TKf_RDf w4)
                  unfold prLm2 at p2
                  obtain ⟨r3, r4⟩ := hS' _ _ _ _ S4
                  rcases hr2 : S (nxt L tp b2) n2 with ⟨b3, _ | ⟨n3, D3⟩⟩
                  · rw [hr2] at p2
                    obtain ⟨s5, v1, v2, v3⟩ := r3 b3 hr2
                    rw [v1, bd_some, if_pos rfl] at f0
                    exact CgR.fail p2 (by rw [f0]; exact ⟨s5, rfl, v2, k4.trans v3⟩)
                  · rw [hr2] at p2
                    obtain ⟨s5, z5, v1, V5, v2, v4, v5, _, v6⟩ := r4 b3 n3 D3 hr2
                    have k5 : Ch [27] RDf σ s5 := k4.trans v6
                    rw [v1, bd_some, if_neg (show ¬ (1 : Int32) = 0 by decide)] at f0
                    have p3 : prPart L tp S true b np = if isS L tp b3 93 = true then (nxt L tp b3, some (n3, bnD (if q = 0 then 15 else 16) D2 D3)) else (b3, none) := p2
                    rcases F_takeSignC (x := 93) V5.1 V5.2.1 with ⟨t1, t3⟩ | ⟨t1, s6, t3, t4, t5⟩
                    · rw [t1, if_neg (by decide)] at p3
                      rw [t3, bd_some, if_pos rfl] at f0
                      exact CgR.fail p3 (by rw [f0]; exact ⟨s5, rfl, V5.2.1, k5⟩)
                    · rw [t1, if_pos rfl] at p3
                      rw [t3, bd_some, if_neg (show ¬ (1 : Int32) = 0 by decide)] at f0
                      have b3L := V5.b.1
                      have nb3 := nxt_b (tp := tp) b3L
                      have S6 : CgS L tp (nxt L tp b3) z5 n3 s6 := ⟨V5.1.ch t5 (by simp) (by simp [TKf]), t4, by rw [t5.pI (by simp) (by simp [TKf])]; exact V5.2.2.1, by rw [t5.pI (by simp) (by simp [TKf])]; exact V5.2.2.2.1, by have := V5.2.2.2.2.1; omega, V5.2.2.2.2.2⟩
                      have c6 : gI s6 27 = gI s5 27 := t5.rI (by simp) (by simp [TKf])
                      have fin : ∀ (oc pc : Nat), 2 ≤ oc ∧ oc ≤ 10 → (∀ a b, jn (nI oc) a b = rk (nI pc) a b) → (if q = 0 then (15 : Int32) else 16) = nI pc → ∃ τ sz', (bv (F_X5_emit (nI oc) (0 : Int32) s6) fun σ74 => some ((1 : Int32), σ74)) = some (1, τ) ∧ CgS L tp (nxt L tp b3) sz' n3 τ ∧ (b < nxt L tp b3 ∧ sz < sz' ∧ sz' + b ≤ sz + nxt L tp b3 ∧ np < n3) ∧ (∀ i, i < sz → gI τ 27 i = gI σ 27 i) ∧ SgC (gI τ 27) sz sz' (n3 - np) (bnD (if q = 0 then 15 else 16) D2 D3) ∧ (false = true → is01 (bnD (if q = 0 then 15 else 16) D2 D3)) ∧ Ch [27] RDf σ τ := fun oc pc hoc hjn hq => by
                        obtain ⟨s7, e1, e2, e3, e4⟩ := S6.emit (c := oc) (r := 0) (by omega) (by omega) (by decide)
                        have e1' : F_X5_emit (nI oc) (0 : Int32) s6 = some s7 := e1
                        rw [e1', bv_some]
                        refine ⟨s7, z5 + 1, rfl, e2, by omega, fun i hi => ?_, ?_, (fun z => by cases z), (k5.trans (TKf_RDf t5)).trans e4⟩
                        · rw [e3, va_lo (by omega), c6, v4 i (by omega), c4, u4 i hi, c2]
                        · rw [hq, show n3 - np = (n2 - np) + (n3 - n2) by omega]
                          refine SgC.bin (o := oc) ((u5.cg (fun t t1 t2 => ?_))) (v5.cg (fun t t1 t2 => ?_)) (by omega) (by omega) (by omega) (by rw [e3, up_same]) hoc hjn
                          · rw [e3, va_lo (by omega), c6, v4 t (by omega), c4]
                          · rw [e3, va_lo (by omega), c6]
                      refine CgR.good p3 ?_
                      rw [f0]
                      by_cases q0 : q = 0
                      · rw [if_pos (by rw [q0]; rfl)]
                        exact fin 6 15 (by decide) (fun a b => jn_rk (by simp)) (by rw [if_pos q0]; rfl)
                      · rw [if_neg (show ¬ nI q = (0 : Int32) from fun z => q0 ((nI_eq (b := 0) (by omega) (by decide)).mp z))]
                        exact fin 7 16 (by decide) (fun a b => jn_rk (by simp)) (by rw [if_neg q0]; rfl)
        · rw [z1, if_pos rfl] at p0
          rw [z2, bd_some, if_neg (show ¬ (1 : Int32) = 0 by decide)] at f0
          have lt := tkT_lt (L := L) (tp := tp) (b := b) (by rw [isS_sort z1]; decide)
          have nb := nxt_b (tp := tp) bL
          have S1 : CgS L tp (nxt L tp b) sz np s1 := ⟨h1.ch z4 (by simp) (by simp [TKf]), z3, by rw [z4.pI (by simp) (by simp [TKf])]; exact h3, by rw [z4.pI (by simp) (by simp [TKf])]; exact h4, by omega, h6⟩
          have c1 : gI s1 27 = gI σ 27 := z4.rI (by simp) (by simp [TKf])
          have k1 : Ch [27] RDf σ s1 := TKf_RDf z4
          unfold prSq at p0
          obtain ⟨r1, r2⟩ := hS' _ _ _ _ S1
          rcases hr : S (nxt L tp b) np with ⟨b2, _ | ⟨n2, D2⟩⟩
          · rw [hr] at p0
            obtain ⟨s3, u1, u2, u3⟩ := r1 b2 hr
            rw [u1, bd_some, if_pos rfl] at f0
            exact CgR.fail p0 (by rw [f0]; exact ⟨s3, rfl, u2, k1.trans u3⟩)
          · rw [hr] at p0
            obtain ⟨s3, z3', u1, U3, u2, u4, u5, _, u6⟩ := r2 b2 n2 D2 hr
            rw [u1, bd_some, if_neg (show ¬ (1 : Int32) = 0 by decide)] at f0
            have p2 : prPart L tp S true b np = if isS L tp b2 93 = true then (nxt L tp b2, some (n2, D2)) else (b2, none) := p0
            rcases F_takeSignC (x := 93) U3.1 U3.2.1 with ⟨w1, w2⟩ | ⟨w1, s4, w2, w3, w4⟩
            · rw [w1, if_neg (by decide)] at p2
              rw [w2, bd_some, if_pos rfl] at f0
              exact CgR.fail p2 (by rw [f0]; exact ⟨s3, rfl, U3.2.1, k1.trans u6⟩)
            · rw [w1, if_pos rfl] at p2
              rw [w2, bd_some, if_neg (show ¬ (1 : Int32) = 0 by decide)] at f0
              have b2L := U3.b.1
              have nb2 := nxt_b (tp := tp) b2L
              have c4 : gI s4 27 = gI s3 27 := w4.rI (by simp) (by simp [TKf])
              refine CgR.good p2 ?_
              rw [f0]
              refine ⟨s4, z3', rfl, ⟨U3.1.ch w4 (by simp) (by simp [TKf]), w3, by rw [w4.pI (by simp) (by simp [TKf])]; exact U3.2.2.1, by rw [w4.pI (by simp) (by simp [TKf])]; exact U3.2.2.2.1, by have := U3.2.2.2.2.1; omega, U3.2.2.2.2.2⟩, by omega, fun i hi => by rw [c4, u4 i hi, c1], by rw [c4]; exact u5, (fun z => by cases z), (k1.trans u6).trans (TKf_RDf w4)⟩
end
