section
/-! the class reads TERMS, SUMS, and rows of TESTS -/
theorem readTerm_loop {L d g : Nat} {tp : Nat → Int32} {P : Nat → Nat → PR} {c : Int32 → AH → Option (Int32 × AH)} (hP : CgP L tp P (c (nI d)) false) : ∀ (f i b sz np sz0 np0 : Nat) (D : Den) (σ : AH), i + f = 401 → i ≤ b → CgS L tp b sz np σ → sz0 < sz → np0 < np → SgC (gI σ 27) sz0 sz (np - np0) D →
    (∀ b', prLoop L tp 42 47 10 11 P f b np D = (b', none) → ∃ τ, F_X5_readTerm_12 c (f + g) (nI d) (nI i) σ = some (0, τ) ∧ TkC L tp b' τ ∧ Ch [27] RDf σ τ) ∧
    (∀ b' np' D', prLoop L tp 42 47 10 11 P f b np D = (b', some (np', D')) → ∃ τ sz', F_X5_readTerm_12 c (f + g) (nI d) (nI i) σ = some (1, τ) ∧ CgS L tp b' sz' np' τ ∧ (b ≤ b' ∧ sz ≤ sz' ∧ sz' + b ≤ sz + b' ∧ np ≤ np') ∧ (∀ t, t < sz0 → gI τ 27 t = gI σ 27 t) ∧ SgC (gI τ 27) sz0 sz' (np' - np0) D' ∧ Ch [27] RDf σ τ) := by
  intro f
  induction f with
  | zero =>
    intro i b sz np sz0 np0 D σ hi hib h
    have := h.b
    omega
  | succ f ih =>
    intro i b sz np sz0 np0 D σ hi hib h hz hn hseg
    obtain ⟨bL, L4⟩ := h.b
    have szb := h.2.2.2.2.1
    have F0 : F_X5_readTerm_12 c (f + 1 + g) (nI d) (nI i) σ = B_X5_readTerm_12 c (F_X5_readTerm_12 c (f + g)) (nI d) (nI i) σ := by rw [show f + 1 + g = (f + g) + 1 by omega]; rfl
    have stop : prLoop L tp 42 47 10 11 P (f + 1) b np D = (b, some (np, D)) → B_X5_readTerm_12 c (F_X5_readTerm_12 c (f + g)) (nI d) (nI i) σ = some (1, σ) → (∀ b', prLoop L tp 42 47 10 11 P (f + 1) b np D = (b', none) → ∃ τ, F_X5_readTerm_12 c (f + 1 + g) (nI d) (nI i) σ = some (0, τ) ∧ TkC L tp b' τ ∧ Ch [27] RDf σ τ) ∧ (∀ b' np' D', prLoop L tp 42 47 10 11 P (f + 1) b np D = (b', some (np', D')) → ∃ τ sz', F_X5_readTerm_12 c (f + 1 + g) (nI d) (nI i) σ = some (1, τ) ∧ CgS L tp b' sz' np' τ ∧ (b ≤ b' ∧ sz ≤ sz' ∧ sz' + b ≤ sz + b' ∧ np ≤ np') ∧ (∀ t, t < sz0 → gI τ 27 t = gI σ 27 t) ∧ SgC (gI τ 27) sz0 sz' (np' - np0) D' ∧ Ch [27] RDf σ τ) := fun e1 e2 => by
      rw [e1, F0, e2]
      exact ⟨fun b' e' => (by cases e'), fun b' np' D' e' => (by cases e'; exact ⟨σ, sz, rfl, h, ⟨Nat.le_refl _, Nat.le_refl _, Nat.le_refl _, Nat.le_refl _⟩, fun _ _ => rfl, hseg, Ch.rf _⟩)⟩
    by_cases c400 : i = 400
    · have z0 : tkT L tp b = 0 := tkT_e (by omega)
      have n1 : ¬ (isS L tp b 42 = true ∨ isS L tp b 47 = true) := fun z => by
        rcases z with z | z <;> · have := isS_sort z; omega
      refine stop (by rw [prLoop_s, if_neg n1]) ?_
      unfold B_X5_readTerm_12
      rw [if_pos (show (400 : Int32) ≤ nI i by rw [c400]; decide)]
    · have n400 : ¬ (400 : Int32) ≤ nI i := nI_ge (b := 400) (by omega) (by decide)
      have sX := F_isSignC (x := 42) h.1 h.2.1
      have sY := F_isSignC (x := 47) h.1 h.2.1
      -- the sign is there
      have go : ∀ (cc oo : Nat), (isS L tp b 42 = true ∨ isS L tp b 47 = true) → 2 ≤ cc ∧ cc ≤ 10 → (∀ a b, jn (nI cc) a b = rk (nI oo) a b) → (if isS L tp b 42 = true then (10 : Int32) else 11) = nI oo → B_X5_readTerm_12 c (F_X5_readTerm_12 c (f + g)) (nI d) (nI i) σ = F_X5_readTerm_51 c (F_X5_readTerm_12 c (f + g)) (nI d) (nI i) (nI cc) σ → (∀ b', prLoop L tp 42 47 10 11 P (f + 1) b np D = (b', none) → ∃ τ, F_X5_readTerm_12 c (f + 1 + g) (nI d) (nI i) σ = some (0, τ) ∧ TkC L tp b' τ ∧ Ch [27] RDf σ τ) ∧ (∀ b' np' D', prLoop L tp 42 47 10 11 P (f + 1) b np D = (b', some (np', D')) → ∃ τ sz', F_X5_readTerm_12 c (f + 1 + g) (nI d) (nI i) σ = some (1, τ) ∧ CgS L tp b' sz' np' τ ∧ (b ≤ b' ∧ sz ≤ sz' ∧ sz' + b ≤ sz + b' ∧ np ≤ np') ∧ (∀ t, t < sz0 → gI τ 27 t = gI σ 27 t) ∧ SgC (gI τ 27) sz0 sz' (np' - np0) D' ∧ Ch [27] RDf σ τ) := fun cc oo sg hcc hjn hoo eB => by
        have lt : b < L := tkT_lt (L := L) (tp := tp) (b := b) (fun z => by rcases sg with y | y <;> · have := isS_sort y; omega)
        have nb := nxt_b (tp := tp) bL
        obtain ⟨s1, a1, S1, a3, a4⟩ := h.step
        obtain ⟨r1, r2⟩ := hP _ _ _ _ S1
        rw [prLoop_s, if_pos sg, F0, eB]
        unfold F_X5_readTerm_51
        rw [a1, bv_some]
        rcases hr : P (nxt L tp b) np with ⟨b2, _ | ⟨n2, D2⟩⟩
        · obtain ⟨s2, u1, u2, u3⟩ := r1 b2 hr
          rw [u1, bd_some, if_pos rfl]
          refine ⟨fun b' e' => ?_, fun b' np' D' e' => (by cases e')⟩
          cases e'
          exact ⟨s2, rfl, u2, (TKf_RDf a4).trans u3⟩
        · obtain ⟨s2, z2, u1, U2, u2, u4, u5, _, u6⟩ := r2 b2 n2 D2 hr
          obtain ⟨s3, e1, E3, e3, e4⟩ := U2.emit (c := cc) (r := 0) (by omega) (by omega) (by decide)
          have e1' : F_X5_emit (nI cc) (0 : Int32) s2 = some s3 := e1
          rw [u1, bd_some, if_neg (show ¬ (1 : Int32) = 0 by decide), e1', bv_some, nI_1]
          have k3 : Ch [27] RDf σ s3 := ((TKf_RDf a4).trans u6).trans e4
          have seg : SgC (gI s3 27) sz0 (z2 + 1) (n2 - np0) (bnD (if isS L tp b 42 = true then (10 : Int32) else 11) D D2) := by
            rw [hoo, show n2 - np0 = (np - np0) + (n2 - np) by omega]
            refine SgC.bin (o := cc) (m := sz) (hseg.cg (fun t t1 t2 => ?_)) (u5.cg (fun t t1 t2 => ?_)) (by omega) (by omega) (by omega) (by rw [e3, up_same]) hcc hjn
            · rw [e3, va_lo (by omega), u4 t (by omega), a3]
            · rw [e3, va_lo (by omega)]
          obtain ⟨q1, q2⟩ := ih (i + 1) b2 (z2 + 1) n2 sz0 np0 _ s3 (by omega) (by omega) E3 (by omega) (by omega) seg
          refine ⟨fun b' e' => ?_, fun b' np' D' e' => ?_⟩
          · obtain ⟨τ, t1, t2, t3⟩ := q1 b' e'
            exact ⟨τ, t1, t2, k3.trans t3⟩
          · obtain ⟨τ, sz', t1, t2, t3, t4, t5, t6⟩ := q2 b' np' D' e'
            refine ⟨τ, sz', t1, t2, by omega, fun t ht => ?_, t5, k3.trans t6⟩
            rw [t4 t ht, e3, va_lo (by omega), u4 t (by omega), a3]
      cases cX : isS L tp b 42 with
      | true =>
        refine go 4 10 (Or.inl cX) (by decide) (fun a b => jn_rk (by simp)) (by rw [if_pos cX]; rfl) ?_
        unfold B_X5_readTerm_12 F_X5_readTerm_37
        rw [if_neg n400, sX, bd_some, cX, if_neg (show ¬ b2 true = 0 by decide), sX, bd_some, cX, if_neg (show ¬ b2 true = 0 by decide)]; rfl
      | false =>
        cases cY : isS L tp b 47 with
        | true =>
          refine go 5 11 (Or.inr cY) (by decide) (fun a b => jn_rk (by simp)) (by rw [if_neg (by rw [cX]; decide)]; rfl) ?_
          unfold B_X5_readTerm_12 F_X5_readTerm_37
          rw [if_neg n400, sX, bd_some, cX, if_pos (show b2 false = 0 from rfl), sY, bd_some, cY, if_neg (show ¬ b2 true = 0 by decide), sX, bd_some, cX, if_pos (show b2 false = 0 from rfl)]; rfl
        | false =>
          refine stop (by rw [prLoop_s, if_neg (fun z => by rcases z with z | z <;> simp [cX, cY] at z)]) ?_
          unfold B_X5_readTerm_12
          rw [if_neg n400, sX, bd_some, cX, if_pos (show b2 false = 0 from rfl), sY, bd_some, cY, if_pos (show b2 false = 0 from rfl)]
theorem Cg_readTerm {L d : Nat} {tp : Nat → Int32} {P : Nat → Nat → PR} {c : Int32 → AH → Option (Int32 × AH)} (hP : CgP L tp P (c (nI d)) false) : CgP L tp (prRow L tp 42 47 10 11 P) (F_X5_readTerm c (nI d)) false := by
  intro b sz np σ h
  obtain ⟨r1, r2⟩ := hP _ _ _ _ h
  obtain ⟨g, hg⟩ := BIGe 400 (by decide)
  unfold CgR prRow F_X5_readTerm
  rcases hr : P b np with ⟨b2, _ | ⟨n2, D2⟩⟩
  · obtain ⟨s2, u1, u2, u3⟩ := r1 b2 hr
    rw [u1, bd_some, if_pos rfl]
    refine ⟨fun b' e' => ?_, fun b' np' D' e' => (by cases e')⟩
    cases e'
    exact ⟨s2, rfl, u2, u3⟩
  · obtain ⟨s2, z2, u1, U2, u2, u4, u5, _, u6⟩ := r2 b2 n2 D2 hr
    obtain ⟨q1, q2⟩ := readTerm_loop (g := g) hP 401 0 b2 z2 n2 sz np D2 s2 (by omega) (by omega) U2 (by omega) (by omega) u5
    have hg' : F_X5_readTerm_12 c BIG (nI d) (0 : Int32) s2 = F_X5_readTerm_12 c (401 + g) (nI d) (nI 0) s2 := by rw [hg]; rfl
    rw [u1, bd_some, if_neg (show ¬ (1 : Int32) = 0 by decide), hg']
    refine ⟨fun b' e' => ?_, fun b' np' D' e' => ?_⟩
    · obtain ⟨τ, t1, t2, t3⟩ := q1 b' e'
      exact ⟨τ, t1, t2, u6.trans t3⟩
    · obtain ⟨τ, sz', t1, t2, t3, t4, t5, t6⟩ := q2 b' np' D' e'
      exact ⟨τ, sz', t1, t2, by omega, fun i hi => by rw [t4 i hi, u4 i hi], t5, (fun z => by cases z), u6.trans t6⟩
theorem readSum_loop {L d g : Nat} {tp : Nat → Int32} {P : Nat → Nat → PR} {c : Int32 → AH → Option (Int32 × AH)} (hP : CgP L tp P (c (nI d)) false) : ∀ (f i b sz np sz0 np0 : Nat) (D : Den) (σ : AH), i + f = 401 → i ≤ b → CgS L tp b sz np σ → sz0 < sz → np0 < np → SgC (gI σ 27) sz0 sz (np - np0) D →
    (∀ b', prLoop L tp 43 45 8 9 P f b np D = (b', none) → ∃ τ, F_X5_readSum_12 c (f + g) (nI d) (nI i) σ = some (0, τ) ∧ TkC L tp b' τ ∧ Ch [27] RDf σ τ) ∧
    (∀ b' np' D', prLoop L tp 43 45 8 9 P f b np D = (b', some (np', D')) → ∃ τ sz', F_X5_readSum_12 c (f + g) (nI d) (nI i) σ = some (1, τ) ∧ CgS L tp b' sz' np' τ ∧ (b ≤ b' ∧ sz ≤ sz' ∧ sz' + b ≤ sz + b' ∧ np ≤ np') ∧ (∀ t, t < sz0 → gI τ 27 t = gI σ 27 t) ∧ SgC (gI τ 27) sz0 sz' (np' - np0) D' ∧ Ch [27] RDf σ τ) := by
  intro f
  induction f with
  | zero =>
    intro i b sz np sz0 np0 D σ hi hib h
    have := h.b
    omega
  | succ f ih =>
    intro i b sz np sz0 np0 D σ hi hib h hz hn hseg
    obtain ⟨bL, L4⟩ := h.b
    have szb := h.2.2.2.2.1
    have F0 : F_X5_readSum_12 c (f + 1 + g) (nI d) (nI i) σ = B_X5_readSum_12 c (F_X5_readSum_12 c (f + g)) (nI d) (nI i) σ := by rw [show f + 1 + g = (f + g) + 1 by omega]; rfl
    have stop : prLoop L tp 43 45 8 9 P (f + 1) b np D = (b, some (np, D)) → B_X5_readSum_12 c (F_X5_readSum_12 c (f + g)) (nI d) (nI i) σ = some (1, σ) → (∀ b', prLoop L tp 43 45 8 9 P (f + 1) b np D = (b', none) → ∃ τ, F_X5_readSum_12 c (f + 1 + g) (nI d) (nI i) σ = some (0, τ) ∧ TkC L tp b' τ ∧ Ch [27] RDf σ τ) ∧ (∀ b' np' D', prLoop L tp 43 45 8 9 P (f + 1) b np D = (b', some (np', D')) → ∃ τ sz', F_X5_readSum_12 c (f + 1 + g) (nI d) (nI i) σ = some (1, τ) ∧ CgS L tp b' sz' np' τ ∧ (b ≤ b' ∧ sz ≤ sz' ∧ sz' + b ≤ sz + b' ∧ np ≤ np') ∧ (∀ t, t < sz0 → gI τ 27 t = gI σ 27 t) ∧ SgC (gI τ 27) sz0 sz' (np' - np0) D' ∧ Ch [27] RDf σ τ) := fun e1 e2 => by
      rw [e1, F0, e2]
      exact ⟨fun b' e' => (by cases e'), fun b' np' D' e' => (by cases e'; exact ⟨σ, sz, rfl, h, ⟨Nat.le_refl _, Nat.le_refl _, Nat.le_refl _, Nat.le_refl _⟩, fun _ _ => rfl, hseg, Ch.rf _⟩)⟩
    by_cases c400 : i = 400
    · have z0 : tkT L tp b = 0 := tkT_e (by omega)
      have n1 : ¬ (isS L tp b 43 = true ∨ isS L tp b 45 = true) := fun z => by
        rcases z with z | z <;> · have := isS_sort z; omega
      refine stop (by rw [prLoop_s, if_neg n1]) ?_
      unfold B_X5_readSum_12
      rw [if_pos (show (400 : Int32) ≤ nI i by rw [c400]; decide)]
    · have n400 : ¬ (400 : Int32) ≤ nI i := nI_ge (b := 400) (by omega) (by decide)
      have sX := F_isSignC (x := 43) h.1 h.2.1
      have sY := F_isSignC (x := 45) h.1 h.2.1
      -- the sign is there
      have go : ∀ (cc oo : Nat), (isS L tp b 43 = true ∨ isS L tp b 45 = true) → 2 ≤ cc ∧ cc ≤ 10 → (∀ a b, jn (nI cc) a b = rk (nI oo) a b) → (if isS L tp b 43 = true then (8 : Int32) else 9) = nI oo → B_X5_readSum_12 c (F_X5_readSum_12 c (f + g)) (nI d) (nI i) σ = F_X5_readSum_51 c (F_X5_readSum_12 c (f + g)) (nI d) (nI i) (nI cc) σ → (∀ b', prLoop L tp 43 45 8 9 P (f + 1) b np D = (b', none) → ∃ τ, F_X5_readSum_12 c (f + 1 + g) (nI d) (nI i) σ = some (0, τ) ∧ TkC L tp b' τ ∧ Ch [27] RDf σ τ) ∧ (∀ b' np' D', prLoop L tp 43 45 8 9 P (f + 1) b np D = (b', some (np', D')) → ∃ τ sz', F_X5_readSum_12 c (f + 1 + g) (nI d) (nI i) σ = some (1, τ) ∧ CgS L tp b' sz' np' τ ∧ (b ≤ b' ∧ sz ≤ sz' ∧ sz' + b ≤ sz + b' ∧ np ≤ np') ∧ (∀ t, t < sz0 → gI τ 27 t = gI σ 27 t) ∧ SgC (gI τ 27) sz0 sz' (np' - np0) D' ∧ Ch [27] RDf σ τ) := fun cc oo sg hcc hjn hoo eB => by
        have lt : b < L := tkT_lt (L := L) (tp := tp) (b := b) (fun z => by rcases sg with y | y <;> · have := isS_sort y; omega)
        have nb := nxt_b (tp := tp) bL
        obtain ⟨s1, a1, S1, a3, a4⟩ := h.step
        obtain ⟨r1, r2⟩ := hP _ _ _ _ S1
        rw [prLoop_s, if_pos sg, F0, eB]
        unfold F_X5_readSum_51
        rw [a1, bv_some]
        rcases hr : P (nxt L tp b) np with ⟨b2, _ | ⟨n2, D2⟩⟩
        · obtain ⟨s2, u1, u2, u3⟩ := r1 b2 hr
          rw [u1, bd_some, if_pos rfl]
          refine ⟨fun b' e' => ?_, fun b' np' D' e' => (by cases e')⟩
          cases e'
          exact ⟨s2, rfl, u2, (TKf_RDf a4).trans u3⟩
        · obtain ⟨s2, z2, u1, U2, u2, u4, u5, _, u6⟩ := r2 b2 n2 D2 hr
          obtain ⟨s3, e1, E3, e3, e4⟩ := U2.emit (c := cc) (r := 0) (by omega) (by omega) (by decide)
          have e1' : F_X5_emit (nI cc) (0 : Int32) s2 = some s3 := e1
          rw [u1, bd_some, if_neg (show ¬ (1 : Int32) = 0 by decide), e1', bv_some, nI_1]
          have k3 : Ch [27] RDf σ s3 := ((TKf_RDf a4).trans u6).trans e4
          have seg : SgC (gI s3 27) sz0 (z2 + 1) (n2 - np0) (bnD (if isS L tp b 43 = true then (8 : Int32) else 9) D D2) := by
            rw [hoo, show n2 - np0 = (np - np0) + (n2 - np) by omega]
            refine SgC.bin (o := cc) (m := sz) (hseg.cg (fun t t1 t2 => ?_)) (u5.cg (fun t t1 t2 => ?_)) (by omega) (by omega) (by omega) (by rw [e3, up_same]) hcc hjn
            · rw [e3, va_lo (by omega), u4 t (by omega), a3]
            · rw [e3, va_lo (by omega)]
          obtain ⟨q1, q2⟩ := ih (i + 1) b2 (z2 + 1) n2 sz0 np0 _ s3 (by omega) (by omega) E3 (by omega) (by omega) seg
          refine ⟨fun b' e' => ?_, fun b' np' D' e' => ?_⟩
          · obtain ⟨τ, t1, t2, t3⟩ := q1 b' e'
            exact ⟨τ, t1, t2, k3.trans t3⟩
          · obtain ⟨τ, sz', t1, t2, t3, t4, t5, t6⟩ := q2 b' np' D' e'
            refine ⟨τ, sz', t1, t2, by omega, fun t ht => ?_, t5, k3.trans t6⟩
            rw [t4 t ht, e3, va_lo (by omega), u4 t (by omega), a3]
      cases cX : isS L tp b 43 with
      | true =>
        refine go 2 8 (Or.inl cX) (by decide) (fun a b => jn_rk (by simp)) (by rw [if_pos cX]; rfl) ?_
        unfold B_X5_readSum_12 F_X5_readSum_37
        rw [if_neg n400, sX, bd_some, cX, if_neg (show ¬ b2 true = 0 by decide), sX, bd_some, cX, if_neg (show ¬ b2 true = 0 by decide)]; rfl
      | false =>
        cases cY : isS L tp b 45 with
        | true =>
          refine go 3 9 (Or.inr cY) (by decide) (fun a b => jn_rk (by simp)) (by rw [if_neg (by rw [cX]; decide)]; rfl) ?_
          unfold B_X5_readSum_12 F_X5_readSum_37
          rw [if_neg n400, sX, bd_some, cX, if_pos (show b2 false = 0 from rfl), sY, bd_some, cY, if_neg (show ¬ b2 true = 0 by decide), sX, bd_some, cX, if_pos (show b2 false = 0 from rfl)]; rfl
        | false =>
          refine stop (by rw [prLoop_s, if_neg (fun z => by rcases z with z | z <;> simp [cX, cY] at z)]) ?_
          unfold B_X5_readSum_12
          rw [if_neg n400, sX, bd_some, cX, if_pos (show b2 false = 0 from rfl), sY, bd_some, cY, if_pos (show b2 false = 0 from rfl)]
theorem Cg_readSum {L d : Nat} {tp : Nat → Int32} {P : Nat → Nat → PR} {c : Int32 → AH → Option (Int32 × AH)} (hP : CgP L tp P (c (nI d)) false) : CgP L tp (prRow L tp 43 45 8 9 P) (F_X5_readSum c (nI d)) false := by
  intro b sz np σ h
  obtain ⟨r1, r2⟩ := hP _ _ _ _ h
  obtain ⟨g, hg⟩ := BIGe 400 (by decide)
  unfold CgR prRow F_X5_readSum
  rcases hr : P b np with ⟨b2, _ | ⟨n2, D2⟩⟩
  · obtain ⟨s2, u1, u2, u3⟩ := r1 b2 hr
    rw [u1, bd_some, if_pos rfl]
    refine ⟨fun b' e' => ?_, fun b' np' D' e' => (by cases e')⟩
    cases e'
    exact ⟨s2, rfl, u2, u3⟩
  · obtain ⟨s2, z2, u1, U2, u2, u4, u5, _, u6⟩ := r2 b2 n2 D2 hr
    obtain ⟨q1, q2⟩ := readSum_loop (g := g) hP 401 0 b2 z2 n2 sz np D2 s2 (by omega) (by omega) U2 (by omega) (by omega) u5
    have hg' : F_X5_readSum_12 c BIG (nI d) (0 : Int32) s2 = F_X5_readSum_12 c (401 + g) (nI d) (nI 0) s2 := by rw [hg]; rfl
    rw [u1, bd_some, if_neg (show ¬ (1 : Int32) = 0 by decide), hg']
    refine ⟨fun b' e' => ?_, fun b' np' D' e' => ?_⟩
    · obtain ⟨τ, t1, t2, t3⟩ := q1 b' e'
      exact ⟨τ, t1, t2, u6.trans t3⟩
    · obtain ⟨τ, sz', t1, t2, t3, t4, t5, t6⟩ := q2 b' np' D' e'
      exact ⟨τ, sz', t1, t2, by omega, fun i hi => by rw [t4 i hi, u4 i hi], t5, (fun z => by cases z), u6.trans t6⟩
theorem readBoth_loop {L d g : Nat} {tp : Nat → Int32} {P : Nat → Nat → PR} {c : Int32 → AH → Option (Int32 × AH)} (hP : CgP L tp P (c (nI d)) true) : ∀ (f i b sz np sz0 np0 : Nat) (D : Den) (σ : AH), i + f = 401 → i ≤ b → CgS L tp b sz np σ → sz0 < sz → np0 < np → is01 D → SgC (gI σ 27) sz0 sz (np - np0) D →
    (∀ b', prAo L tp wAnd anD P f b np D = (b', none) → ∃ τ, F_X5_readBoth_12 c (f + g) (nI d) (nI i) σ = some (0, τ) ∧ TkC L tp b' τ ∧ Ch [27] RDf σ τ) ∧
    (∀ b' np' D', prAo L tp wAnd anD P f b np D = (b', some (np', D')) → ∃ τ sz', F_X5_readBoth_12 c (f + g) (nI d) (nI i) σ = some (1, τ) ∧ CgS L tp b' sz' np' τ ∧ (b ≤ b' ∧ sz ≤ sz' ∧ sz' + b ≤ sz + b' ∧ np ≤ np') ∧ (∀ t, t < sz0 → gI τ 27 t = gI σ 27 t) ∧ SgC (gI τ 27) sz0 sz' (np' - np0) D' ∧ is01 D' ∧ Ch [27] RDf σ τ) := by
  intro f
  induction f with
  | zero =>
    intro i b sz np sz0 np0 D σ hi hib h
    have := h.b
    omega
  | succ f ih =>
    intro i b sz np sz0 np0 D σ hi hib h hz hn h01 hseg
    obtain ⟨bL, L4⟩ := h.b
    have szb := h.2.2.2.2.1
    have F0 : F_X5_readBoth_12 c (f + 1 + g) (nI d) (nI i) σ = B_X5_readBoth_12 c (F_X5_readBoth_12 c (f + g)) (nI d) (nI i) σ := by rw [show f + 1 + g = (f + g) + 1 by omega]; rfl
    have stop : prAo L tp wAnd anD P (f + 1) b np D = (b, some (np, D)) → B_X5_readBoth_12 c (F_X5_readBoth_12 c (f + g)) (nI d) (nI i) σ = some (1, σ) → (∀ b', prAo L tp wAnd anD P (f + 1) b np D = (b', none) → ∃ τ, F_X5_readBoth_12 c (f + 1 + g) (nI d) (nI i) σ = some (0, τ) ∧ TkC L tp b' τ ∧ Ch [27] RDf σ τ) ∧ (∀ b' np' D', prAo L tp wAnd anD P (f + 1) b np D = (b', some (np', D')) → ∃ τ sz', F_X5_readBoth_12 c (f + 1 + g) (nI d) (nI i) σ = some (1, τ) ∧ CgS L tp b' sz' np' τ ∧ (b ≤ b' ∧ sz ≤ sz' ∧ sz' + b ≤ sz + b' ∧ np ≤ np') ∧ (∀ t, t < sz0 → gI τ 27 t = gI σ 27 t) ∧ SgC (gI τ 27) sz0 sz' (np' - np0) D' ∧ is01 D' ∧ Ch [27] RDf σ τ) := fun e1 e2 => by
      rw [e1, F0, e2]
      exact ⟨fun b' e' => (by cases e'), fun b' np' D' e' => (by cases e'; exact ⟨σ, sz, rfl, h, ⟨Nat.le_refl _, Nat.le_refl _, Nat.le_refl _, Nat.le_refl _⟩, fun _ _ => rfl, hseg, h01, Ch.rf _⟩)⟩
    by_cases c400 : i = 400
    · have z0 : tkT L tp b = 0 := tkT_e (by omega)
      refine stop (by rw [prAo_s, if_neg (fun z => by have := isW_sort z; omega)]) ?_
      unfold B_X5_readBoth_12
      rw [if_pos (show (400 : Int32) ≤ nI i by rw [c400]; decide)]
    · have n400 : ¬ (400 : Int32) ≤ nI i := nI_ge (b := 400) (by omega) (by decide)
      have sW := F_isWordC (k := 10) (w := wAnd) h.1 h.2.1 (by decide) rfl
      cases cW : isW L tp b wAnd with
      | false =>
        refine stop (by rw [prAo_s, if_neg (by rw [cW]; decide)]) ?_
        unfold B_X5_readBoth_12
        rw [if_neg n400, sW, bd_some, cW, if_pos (show b2 false = 0 from rfl)]
      | true =>
        have lt : b < L := tkT_lt (L := L) (tp := tp) (b := b) (by rw [isW_sort cW]; decide)
        have nb := nxt_b (tp := tp) bL
        obtain ⟨s1, a1, S1, a3, a4⟩ := h.step
        obtain ⟨s1', e1, E1, e3, e4⟩ := S1.emit (c := 12) (r := 0) (by omega) (by decide) (by decide)
        have e1' : F_X5_emit (12 : Int32) (0 : Int32) s1 = some s1' := e1
        obtain ⟨r1, r2⟩ := hP _ _ _ _ E1
        rw [prAo_s, if_pos cW, F0]
        unfold B_X5_readBoth_12
        rw [if_neg n400, sW, bd_some, cW, if_neg (show ¬ b2 true = 0 by decide), a1, bv_some, e1', bv_some, S1.2.2.1]
        have k1 : Ch [27] RDf σ s1' := (TKf_RDf a4).trans e4
        rcases hr : P (nxt L tp b) np with ⟨b2, _ | ⟨n2, D2⟩⟩
        · obtain ⟨s2, u1, u2, u3⟩ := r1 b2 hr
          rw [u1, bd_some, if_pos rfl]
          refine ⟨fun b' e' => ?_, fun b' np' D' e' => (by cases e')⟩
          cases e'
          exact ⟨s2, rfl, u2, k1.trans u3⟩
        · obtain ⟨s2, z2, u1, U2, u2, u4, u5, u7, u6⟩ := r2 b2 n2 D2 hr
          have bz := U2.b
          have z4 : z2 ≤ 400 := by have := U2.2.2.2.2.1; omega
          have pv : (12 : Int32) ||| (nI z2 <<< ((4 : Int32) &&& 31)) = nI (12 + 16 * z2) := code_or (c := 12) (by decide) (by omega)
          rw [u1, bd_some, if_neg (show ¬ (1 : Int32) = 0 by decide), if_pos (inB_n (show sz < 400 by omega) (by decide)), nI_clamp (by omega), U2.2.2.1, pv, nI_1]
          obtain ⟨s3, hs3⟩ : ∃ s3, s3 = sI s2 27 sz (nI (12 + 16 * z2)) := ⟨_, rfl⟩
          rw [← hs3]
          have c3 : Ch [27] [] s2 s3 := by rw [hs3]; exact Ch.sI1 (Or.inr (by simp))
          have g3 : gI s3 27 = va_up (gI s2 27) sz (nI (12 + 16 * z2)) := by rw [hs3]; exact gI_sI_own
          have k3 : Ch [27] RDf σ s3 := (k1.trans u6).trans (c3.mono (by simp) (by simp))
          have E3 : CgS L tp b2 z2 n2 s3 := by
            obtain ⟨v1, ⟨y1, y2, y3, y4, y5⟩, v3, v4, v5, v6⟩ := U2
            exact ⟨v1.ch c3 (by simp) (by simp), ⟨by rw [c3.pI (by simp) (by simp)]; exact y1, by rw [c3.pI (by simp) (by simp)]; exact y2, by rw [c3.pI (by simp) (by simp)]; exact y3, by rw [c3.pI (by simp) (by simp)]; exact y4, y5⟩, by rw [c3.pI (by simp) (by simp)]; exact v3, by rw [c3.pI (by simp) (by simp)]; exact v4, v5, v6⟩
          have seg : SgC (gI s3 27) sz0 z2 (n2 - np0) (anD D D2) := by
            rw [show n2 - np0 = (np - np0) + (n2 - np) by omega]
            refine SgC.an (hseg.cg (fun t t1 t2 => ?_)) (u5.cg (fun t t1 t2 => ?_)) (by omega) (by omega) z4 (by rw [g3, up_same])
            · rw [g3, va_lo (by omega), u4 t (by omega), e3, va_lo (by omega), a3]
            · rw [g3, up_ne _ _ _ (by omega)]
          obtain ⟨q1, q2⟩ := ih (i + 1) b2 z2 n2 sz0 np0 _ s3 (by omega) (by omega) E3 (by omega) (by omega) (is01_an h01 (u7 rfl)) seg
          refine ⟨fun b' e' => ?_, fun b' np' D' e' => ?_⟩
          · obtain ⟨τ, t1, t2, t3⟩ := q1 b' e'
            exact ⟨τ, t1, t2, k3.trans t3⟩
          · obtain ⟨τ, sz', t1, t2, t3, t4, t5, t7, t6⟩ := q2 b' np' D' e'
            refine ⟨τ, sz', t1, t2, by omega, fun t ht => ?_, t5, t7, k3.trans t6⟩
            rw [t4 t ht, g3, va_lo (by omega), u4 t (by omega), e3, va_lo (by omega), a3]
theorem Cg_readBoth {L d : Nat} {tp : Nat → Int32} {P : Nat → Nat → PR} {c : Int32 → AH → Option (Int32 × AH)} (hP : CgP L tp P (c (nI d)) true) : CgP L tp (prAr L tp wAnd anD P) (F_X5_readBoth c (nI d)) true := by
  intro b sz np σ h
  obtain ⟨r1, r2⟩ := hP _ _ _ _ h
  obtain ⟨g, hg⟩ := BIGe 400 (by decide)
  unfold CgR prAr F_X5_readBoth
  rcases hr : P b np with ⟨b2, _ | ⟨n2, D2⟩⟩
  · obtain ⟨s2, u1, u2, u3⟩ := r1 b2 hr
    rw [u1, bd_some, if_pos rfl]
    refine ⟨fun b' e' => ?_, fun b' np' D' e' => (by cases e')⟩
    cases e'
    exact ⟨s2, rfl, u2, u3⟩
  · obtain ⟨s2, z2, u1, U2, u2, u4, u5, u7, u6⟩ := r2 b2 n2 D2 hr
    obtain ⟨q1, q2⟩ := readBoth_loop (g := g) hP 401 0 b2 z2 n2 sz np D2 s2 (by omega) (by omega) U2 (by omega) (by omega) (u7 rfl) u5
    have hg' : F_X5_readBoth_12 c BIG (nI d) (0 : Int32) s2 = F_X5_readBoth_12 c (401 + g) (nI d) (nI 0) s2 := by rw [hg]; rfl
    rw [u1, bd_some, if_neg (show ¬ (1 : Int32) = 0 by decide), hg']
    refine ⟨fun b' e' => ?_, fun b' np' D' e' => ?_⟩
    · obtain ⟨τ, t1, t2, t3⟩ := q1 b' e'
      exact ⟨τ, t1, t2, u6.trans t3⟩
    · obtain ⟨τ, sz', t1, t2, t3, t4, t5, t7, t6⟩ := q2 b' np' D' e'
      exact ⟨τ, sz', t1, t2, by omega, fun i hi => by rw [t4 i hi, u4 i hi], t5, (fun _ => t7), u6.trans t6⟩
theorem readTest_loop {L d g : Nat} {tp : Nat → Int32} {P : Nat → Nat → PR} {c : Int32 → AH → Option (Int32 × AH)} (hP : CgP L tp P (c (nI d)) true) : ∀ (f i b sz np sz0 np0 : Nat) (D : Den) (σ : AH), i + f = 401 → i ≤ b → CgS L tp b sz np σ → sz0 < sz → np0 < np → is01 D → SgC (gI σ 27) sz0 sz (np - np0) D →
    (∀ b', prAo L tp wOr orD P f b np D = (b', none) → ∃ τ, F_X5_readTest_12 c (f + g) (nI d) (nI i) σ = some (0, τ) ∧ TkC L tp b' τ ∧ Ch [27] RDf σ τ) ∧
    (∀ b' np' D', prAo L tp wOr orD P f b np D = (b', some (np', D')) → ∃ τ sz', F_X5_readTest_12 c (f + g) (nI d) (nI i) σ = some (1, τ) ∧ CgS L tp b' sz' np' τ ∧ (b ≤ b' ∧ sz ≤ sz' ∧ sz' + b ≤ sz + b' ∧ np ≤ np') ∧ (∀ t, t < sz0 → gI τ 27 t = gI σ 27 t) ∧ SgC (gI τ 27) sz0 sz' (np' - np0) D' ∧ is01 D' ∧ Ch [27] RDf σ τ) := by
  intro f
  induction f with
  | zero =>
    intro i b sz np sz0 np0 D σ hi hib h
    have := h.b
    omega
  | succ f ih =>
    intro i b sz np sz0 np0 D σ hi hib h hz hn h01 hseg
    obtain ⟨bL, L4⟩ := h.b
    have szb := h.2.2.2.2.1
    have F0 : F_X5_readTest_12 c (f + 1 + g) (nI d) (nI i) σ = B_X5_readTest_12 c (F_X5_readTest_12 c (f + g)) (nI d) (nI i) σ := by rw [show f + 1 + g = (f + g) + 1 by omega]; rfl
    have stop : prAo L tp wOr orD P (f + 1) b np D = (b, some (np, D)) → B_X5_readTest_12 c (F_X5_readTest_12 c (f + g)) (nI d) (nI i) σ = some (1, σ) → (∀ b', prAo L tp wOr orD P (f + 1) b np D = (b', none) → ∃ τ, F_X5_readTest_12 c (f + 1 + g) (nI d) (nI i) σ = some (0, τ) ∧ TkC L tp b' τ ∧ Ch [27] RDf σ τ) ∧ (∀ b' np' D', prAo L tp wOr orD P (f + 1) b np D = (b', some (np', D')) → ∃ τ sz', F_X5_readTest_12 c (f + 1 + g) (nI d) (nI i) σ = some (1, τ) ∧ CgS L tp b' sz' np' τ ∧ (b ≤ b' ∧ sz ≤ sz' ∧ sz' + b ≤ sz + b' ∧ np ≤ np') ∧ (∀ t, t < sz0 → gI τ 27 t = gI σ 27 t) ∧ SgC (gI τ 27) sz0 sz' (np' - np0) D' ∧ is01 D' ∧ Ch [27] RDf σ τ) := fun e1 e2 => by
      rw [e1, F0, e2]
      exact ⟨fun b' e' => (by cases e'), fun b' np' D' e' => (by cases e'; exact ⟨σ, sz, rfl, h, ⟨Nat.le_refl _, Nat.le_refl _, Nat.le_refl _, Nat.le_refl _⟩, fun _ _ => rfl, hseg, h01, Ch.rf _⟩)⟩
    by_cases c400 : i = 400
    · have z0 : tkT L tp b = 0 := tkT_e (by omega)
      refine stop (by rw [prAo_s, if_neg (fun z => by have := isW_sort z; omega)]) ?_
      unfold B_X5_readTest_12
      rw [if_pos (show (400 : Int32) ≤ nI i by rw [c400]; decide)]
    · have n400 : ¬ (400 : Int32) ≤ nI i := nI_ge (b := 400) (by omega) (by decide)
      have sW := F_isWordC (k := 11) (w := wOr) h.1 h.2.1 (by decide) rfl
      cases cW : isW L tp b wOr with
      | false =>
        refine stop (by rw [prAo_s, if_neg (by rw [cW]; decide)]) ?_
        unfold B_X5_readTest_12
        rw [if_neg n400, sW, bd_some, cW, if_pos (show b2 false = 0 from rfl)]
      | true =>
        have lt : b < L := tkT_lt (L := L) (tp := tp) (b := b) (by rw [isW_sort cW]; decide)
        have nb := nxt_b (tp := tp) bL
        obtain ⟨s1, a1, S1, a3, a4⟩ := h.step
        obtain ⟨s1', e1, E1, e3, e4⟩ := S1.emit (c := 13) (r := 0) (by omega) (by decide) (by decide)
        have e1' : F_X5_emit (13 : Int32) (0 : Int32) s1 = some s1' := e1
        obtain ⟨r1, r2⟩ := hP _ _ _ _ E1
        rw [prAo_s, if_pos cW, F0]
        unfold B_X5_readTest_12
        rw [if_neg n400, sW, bd_some, cW, if_neg (show ¬ b2 true = 0 by decide), a1, bv_some, e1', bv_some, S1.2.2.1]
        have k1 : Ch [27] RDf σ s1' := (TKf_RDf a4).trans e4
        rcases hr : P (nxt L tp b) np with ⟨b2, _ | ⟨n2, D2⟩⟩
        · obtain ⟨s2, u1, u2, u3⟩ := r1 b2 hr
          rw [u1, bd_some, if_pos rfl]
          refine ⟨fun b' e' => ?_, fun b' np' D' e' => (by cases e')⟩
          cases e'
          exact ⟨s2, rfl, u2, k1.trans u3⟩
        · obtain ⟨s2, z2, u1, U2, u2, u4, u5, u7, u6⟩ := r2 b2 n2 D2 hr
          have bz := U2.b
          have z4 : z2 ≤ 400 := by have := U2.2.2.2.2.1; omega
          have pv : (13 : Int32) ||| (nI z2 <<< ((4 : Int32) &&& 31)) = nI (13 + 16 * z2) := code_or (c := 13) (by decide) (by omega)
          rw [u1, bd_some, if_neg (show ¬ (1 : Int32) = 0 by decide), if_pos (inB_n (show sz < 400 by omega) (by decide)), nI_clamp (by omega), U2.2.2.1, pv, nI_1]
          obtain ⟨s3, hs3⟩ : ∃ s3, s3 = sI s2 27 sz (nI (13 + 16 * z2)) := ⟨_, rfl⟩
          rw [← hs3]
          have c3 : Ch [27] [] s2 s3 := by rw [hs3]; exact Ch.sI1 (Or.inr (by simp))
          have g3 : gI s3 27 = va_up (gI s2 27) sz (nI (13 + 16 * z2)) := by rw [hs3]; exact gI_sI_own
          have k3 : Ch [27] RDf σ s3 := (k1.trans u6).trans (c3.mono (by simp) (by simp))
          have E3 : CgS L tp b2 z2 n2 s3 := by
            obtain ⟨v1, ⟨y1, y2, y3, y4, y5⟩, v3, v4, v5, v6⟩ := U2
            exact ⟨v1.ch c3 (by simp) (by simp), ⟨by rw [c3.pI (by simp) (by simp)]; exact y1, by rw [c3.pI (by simp) (by simp)]; exact y2, by rw [c3.pI (by simp) (by simp)]; exact y3, by rw [c3.pI (by simp) (by simp)]; exact y4, y5⟩, by rw [c3.pI (by simp) (by simp)]; exact v3, by rw [c3.pI (by simp) (by simp)]; exact v4, v5, v6⟩
          have seg : SgC (gI s3 27) sz0 z2 (n2 - np0) (orD D D2) := by
            rw [show n2 - np0 = (np - np0) + (n2 - np) by omega]
            refine SgC.or (hseg.cg (fun t t1 t2 => ?_)) h01 (u5.cg (fun t t1 t2 => ?_)) (by omega) (by omega) z4 (by rw [g3, up_same])
            · rw [g3, va_lo (by omega), u4 t (by omega), e3, va_lo (by omega), a3]
            · rw [g3, up_ne _ _ _ (by omega)]
          obtain ⟨q1, q2⟩ := ih (i + 1) b2 z2 n2 sz0 np0 _ s3 (by omega) (by omega) E3 (by omega) (by omega) (is01_or h01 (u7 rfl)) seg
          refine ⟨fun b' e' => ?_, fun b' np' D' e' => ?_⟩
          · obtain ⟨τ, t1, t2, t3⟩ := q1 b' e'
            exact ⟨τ, t1, t2, k3.trans t3⟩
          · obtain ⟨τ, sz', t1, t2, t3, t4, t5, t7, t6⟩ := q2 b' np' D' e'
            refine ⟨τ, sz', t1, t2, by omega, fun t ht => ?_, t5, t7, k3.trans t6⟩
            rw [t4 t ht, g3, va_lo (by omega), u4 t (by omega), e3, va_lo (by omega), a3]
theorem Cg_readTest {L d : Nat} {tp : Nat → Int32} {P : Nat → Nat → PR} {c : Int32 → AH → Option (Int32 × AH)} (hP : CgP L tp P (c (nI d)) true) : CgP L tp (prAr L tp wOr orD P) (F_X5_readTest c (nI d)) true := by
  intro b sz np σ h
  obtain ⟨r1, r2⟩ := hP _ _ _ _ h
  obtain ⟨g, hg⟩ := BIGe 400 (by decide)
  unfold CgR prAr F_X5_readTest
  rcases hr : P b np with ⟨b2, _ | ⟨n2, D2⟩⟩
  · obtain ⟨s2, u1, u2, u3⟩ := r1 b2 hr
    rw [u1, bd_some, if_pos rfl]
    refine ⟨fun b' e' => ?_, fun b' np' D' e' => (by cases e')⟩
    cases e'
    exact ⟨s2, rfl, u2, u3⟩
  · obtain ⟨s2, z2, u1, U2, u2, u4, u5, u7, u6⟩ := r2 b2 n2 D2 hr
    obtain ⟨q1, q2⟩ := readTest_loop (g := g) hP 401 0 b2 z2 n2 sz np D2 s2 (by omega) (by omega) U2 (by omega) (by omega) (u7 rfl) u5
    have hg' : F_X5_readTest_12 c BIG (nI d) (0 : Int32) s2 = F_X5_readTest_12 c (401 + g) (nI d) (nI 0) s2 := by rw [hg]; rfl
    rw [u1, bd_some, if_neg (show ¬ (1 : Int32) = 0 by decide), hg']
    refine ⟨fun b' e' => ?_, fun b' np' D' e' => ?_⟩
    · obtain ⟨τ, t1, t2, t3⟩ := q1 b' e'
      exact ⟨τ, t1, t2, u6.trans t3⟩
    · obtain ⟨τ, sz', t1, t2, t3, t4, t5, t7, t6⟩ := q2 b' np' D' e'
      exact ⟨τ, sz', t1, t2, by omega, fun i hi => by rw [t4 i hi, u4 i hi], t5, (fun _ => t7), u6.trans t6⟩
end
