section
/-! the class reads TESTS -/
theorem bd_bd {α β γ : Type} (x : Option (α × AH)) (f : α → AH → Option (β × AH)) (g : β → AH → Option γ) : bd (bd x f) g = bd x (fun v s => bd (f v s) g) := by
  cases x <;> rfl
theorem bd_bv {β γ : Type} (x : Option AH) (f : AH → Option (β × AH)) (g : β → AH → Option γ) : bd (bv x f) g = bv x (fun s => bd (f s) g) := by
  cases x <;> rfl
theorem bd_ite {α β : Type} {c : Prop} [Decidable c] (x y : Option (α × AH)) (f : α → AH → Option β) : bd (if c then x else y) f = if c then bd x f else bd y f := by
  by_cases h : c
  · rw [if_pos h, if_pos h]
  · rw [if_neg h, if_neg h]
/-- two SUMS and the sign between them, cut out of readPlain -/
def cmpG (c : Int32 → AH → Option (Int32 × AH)) (x1 : Int32) (y0 : Int32) (σ : AH) : Option (Int32 × AH) := (if y0 = (-1 : Int32) then (some ((0 : Int32), σ)) else (bv (F_X5_step σ) fun σ26 => (bd (c x1 σ26) fun v35 σ31 => (if v35 = 0 then (some ((0 : Int32), σ31)) else (bv (F_X5_emit y0 (0 : Int32) σ31) fun σ37 => (some ((1 : Int32), σ37)))))))
def cmpF (c : Int32 → AH → Option (Int32 × AH)) (x1 : Int32) (σ : AH) : Option (Int32 × AH) := (bd (c x1 σ) fun v6 σ2 => (if v6 = 0 then (some ((0 : Int32), σ2)) else (bd (F_X5_isSign (60 : Int32) σ2) fun v12 σ8 => (if v12 = 0 then (bd (F_X5_isSign (62 : Int32) σ8) fun v18 σ14 => (if v18 = 0 then (bd (F_X5_isSign (61 : Int32) σ14) fun v24 σ20 => (if v24 = 0 then (cmpG c x1 (-1 : Int32) σ20) else (cmpG c x1 (10 : Int32) σ20))) else (cmpG c x1 (9 : Int32) σ14))) else (cmpG c x1 (8 : Int32) σ8)))))
/-- what stands behind a plain TEST -/
def plE (x2 v : Int32) (σ : AH) : Option (Int32 × AH) := if v = 0 then some ((0 : Int32), σ) else (if x2 = 0 then (some ((1 : Int32), σ)) else (bv (F_X5_emit (11 : Int32) (0 : Int32) σ) fun s => (some ((1 : Int32), s))))
theorem plain_40 {cS cB : Int32 → AH → Option (Int32 × AH)} {x1 x2 : Int32} {σ : AH} : F_X5_readPlain_40 cS cB x1 x2 σ = bd (F_X5_isSign (40 : Int32) σ) fun v17 σ13 => if v17 = 0 then bd (cmpF cS x1 σ13) (fun v s => plE x2 v s) else bd (cB x1 σ13) (fun v s => plE x2 v s) := by
  unfold F_X5_readPlain_40 cmpF plE
  simp only [bd_bd, bd_bv, bd_ite, bd_some, cmpG, F_X5_readPlain_112, F_X5_readPlain_140, if_true, if_false, show ((1 : Int32) = 0) = False from eq_false (by decide)]
theorem Cg_compare {L d : Nat} {tp : Nat → Int32} {S : Nat → Nat → PR} {c : Int32 → AH → Option (Int32 × AH)} (hS : CgP L tp S (c (nI d)) false) : CgP L tp (prCm L tp S) (cmpF c (nI d)) true := by
  intro b sz np σ h
  obtain ⟨r1, r2⟩ := hS _ _ _ _ h
  have F0 : cmpF c (nI d) σ = (bd (c (nI d) σ) fun v6 σ2 => (if v6 = 0 then (some ((0 : Int32), σ2)) else (bd (F_X5_isSign (60 : Int32) σ2) fun v12 σ8 => (if v12 = 0 then (bd (F_X5_isSign (62 : Int32) σ8) fun v18 σ14 => (if v18 = 0 then (bd (F_X5_isSign (61 : Int32) σ14) fun v24 σ20 => (if v24 = 0 then (cmpG c (nI d) (-1 : Int32) σ20) else (cmpG c (nI d) (10 : Int32) σ20))) else (cmpG c (nI d) (9 : Int32) σ14))) else (cmpG c (nI d) (8 : Int32) σ8))))) := rfl
  rcases hr : S b np with ⟨b1, _ | ⟨n1, D1⟩⟩
  · obtain ⟨s1, u1, u2, u3⟩ := r1 b1 hr
    rw [u1, bd_some, if_pos rfl] at F0
    exact CgR.fail (by unfold prCm; rw [hr]) ⟨s1, F0, u2, u3⟩
  · obtain ⟨s1, z1, u1, U1, u2, u4, u5, _, u6⟩ := r2 b1 n1 D1 hr
    have q60 := F_isSignC (x := 60) U1.1 U1.2.1
    have q62 := F_isSignC (x := 62) U1.1 U1.2.1
    have q61 := F_isSignC (x := 61) U1.1 U1.2.1
    rw [u1, bd_some, if_neg (show ¬ (1 : Int32) = 0 by decide), q60, bd_some] at F0
    have p0 : prCm L tp S b np = match cmO L tp b1 with | none => (b1, none) | some o => prCm2 S o (nxt L tp b1) n1 D1 := by unfold prCm; rw [hr]; rfl
    have go : ∀ (cc oo : Nat), (oo = 12 ∨ oo = 13 ∨ oo = 14) → cmO L tp b1 = some (nI oo) → b1 < L → 2 ≤ cc ∧ cc ≤ 10 → (∀ a b, jn (nI cc) a b = rk (nI oo) a b) → cmpF c (nI d) σ = cmpG c (nI d) (nI cc) s1 → CgR L tp (prCm L tp S) (cmpF c (nI d)) true b sz np σ := fun cc oo ho hc lt hcc hjn eF => by
      rw [hc] at p0
      have p1 : prCm L tp S b np = prCm2 S (nI oo) (nxt L tp b1) n1 D1 := p0
      have nb := nxt_b (tp := tp) U1.b.1
      obtain ⟨s2, a1, S2, a3, a4⟩ := U1.step
      unfold cmpG at eF
      rw [if_neg (nI_neg1 (by omega)), a1, bv_some] at eF
      obtain ⟨r3, r4⟩ := hS _ _ _ _ S2
      unfold prCm2 at p1
      rcases hr2 : S (nxt L tp b1) n1 with ⟨b2, _ | ⟨n2, D2⟩⟩
      · rw [hr2] at p1
        obtain ⟨s3, v1, v2, v3⟩ := r3 b2 hr2
        rw [v1, bd_some, if_pos rfl] at eF
        exact CgR.fail p1 ⟨s3, eF, v2, (u6.trans (TKf_RDf a4)).trans v3⟩
      · rw [hr2] at p1
        obtain ⟨s3, z3, v1, V3, v2, v4, v5, _, v6⟩ := r4 b2 n2 D2 hr2
        have z1b := U1.2.2.2.2.1
        obtain ⟨s4, e1, E4, e3, e4⟩ := V3.emit (c := cc) (r := 0) (by omega) (by omega) (by decide)
        have e1' : F_X5_emit (nI cc) (0 : Int32) s3 = some s4 := e1
        rw [v1, bd_some, if_neg (show ¬ (1 : Int32) = 0 by decide), e1', bv_some] at eF
        refine CgR.good p1 ⟨s4, z3 + 1, eF, E4, by omega, fun i hi => ?_, ?_, (fun _ => is01_bn ?_), ((u6.trans (TKf_RDf a4)).trans v6).trans e4⟩
        · rw [e3, va_lo (by omega), v4 i (by omega), a3, u4 i hi]
        · rw [show n2 - np = (n1 - np) + (n2 - n1) by omega]
          refine SgC.bin (o := cc) (u5.cg (fun t t1 t2 => ?_)) (v5.cg (fun t t1 t2 => ?_)) (by omega) (by omega) (by omega) (by rw [e3, up_same]) hcc hjn
          · rw [e3, va_lo (by omega), v4 t (by omega), a3]
          · rw [e3, va_lo (by omega)]
        · rcases ho with z | z | z <;> rw [z] <;> decide
    have lt : ∀ x, isS L tp b1 x = true → b1 < L := fun x z => tkT_lt (L := L) (tp := tp) (b := b1) (by rw [isS_sort z]; decide)
    cases c60 : isS L tp b1 60 with
    | true =>
      rw [c60, if_neg (show ¬ b2 true = 0 by decide)] at F0
      exact go 8 12 (by decide) (by unfold cmO; rw [if_pos c60]; rfl) (lt _ c60) (by decide) (fun a b => jn_rk (by simp)) F0
    | false =>
      rw [c60, if_pos (show b2 false = 0 from rfl), q62, bd_some] at F0
      cases c62 : isS L tp b1 62 with
      | true =>
        rw [c62, if_neg (show ¬ b2 true = 0 by decide)] at F0
        exact go 9 13 (by decide) (by unfold cmO; rw [if_neg (by rw [c60]; decide), if_pos c62]; rfl) (lt _ c62) (by decide) (fun a b => jn_rk (by simp)) F0
      | false =>
        rw [c62, if_pos (show b2 false = 0 from rfl), q61, bd_some] at F0
        cases c61 : isS L tp b1 61 with
        | true =>
          rw [c61, if_neg (show ¬ b2 true = 0 by decide)] at F0
          exact go 10 14 (by decide) (by unfold cmO; rw [if_neg (by rw [c60]; decide), if_neg (by rw [c62]; decide), if_pos c61]; rfl) (lt _ c61) (by decide) (fun a b => jn_rk (by simp)) F0
        | false =>
          rw [c61, if_pos (show b2 false = 0 from rfl)] at F0
          unfold cmpG at F0
          rw [if_pos rfl] at F0
          have cn : cmO L tp b1 = none := by unfold cmO; rw [if_neg (by rw [c60]; decide), if_neg (by rw [c62]; decide), if_neg (by rw [c61]; decide)]
          rw [cn] at p0
          exact CgR.fail p0 ⟨s1, F0, U1.2.1, u6⟩
theorem Cg_bracket {L d : Nat} {tp : Nat → Int32} {T : Nat → Nat → PR} {c : Int32 → AH → Option (Int32 × AH)} {ok : Bool} (hok : ok = decide (d < 8)) (hd : d ≤ 8) (hT : ok = true → CgP L tp T (c (nI (d + 1))) true) : CgP L tp (prBr L tp T ok) (F_X5_readBracket c (nI d)) true := by
  intro b sz np σ h
  cases o : ok with
  | false =>
    have d8 : ¬ nI d < (8 : Int32) := fun z => by
      rw [Int32.lt_iff_toInt_lt, nI_toInt (by omega)] at z
      have : (8 : Int32).toInt = 8 := by decide
      rw [o] at hok
      exact of_decide_eq_false hok.symm (by omega)
    refine CgR.fail (b0 := b) (by unfold prBr; rw [if_neg (by decide)]) ⟨σ, ?_, h.2.1, Ch.rf _⟩
    unfold F_X5_readBracket
    rw [if_neg d8]
  | true =>
    have dl : d < 8 := by rw [o] at hok; exact of_decide_eq_true hok.symm
    obtain ⟨s1, a1, S1, a3, a4⟩ := h.step
    have nb := nxt_b (tp := tp) h.b.1
    obtain ⟨r1, r2⟩ := hT o _ _ _ _ S1
    have F0 : F_X5_readBracket c (nI d) σ = (bd (c (nI (d + 1)) s1) fun v11 σ7 => (if v11 = 0 then (some ((0 : Int32), σ7)) else (bd (F_X5_takeSign (41 : Int32) σ7) fun v17 σ13 => (if v17 = 0 then (some ((0 : Int32), σ13)) else (some ((1 : Int32), σ13)))))) := by
      unfold F_X5_readBracket
      rw [if_pos (show nI d < (8 : Int32) from nI_lt (b := 8) dl (by decide)), a1, bv_some, nI_1]
    rcases hr : T (nxt L tp b) np with ⟨b1, _ | ⟨n1, D1⟩⟩
    · obtain ⟨s2, u1, u2, u3⟩ := r1 b1 hr
      rw [u1, bd_some, if_pos rfl] at F0
      exact CgR.fail (by unfold prBr; rw [if_pos rfl, hr]) ⟨s2, F0, u2, (TKf_RDf a4).trans u3⟩
    · obtain ⟨s2, z2, u1, U2, u2, u4, u5, u7, u6⟩ := r2 b1 n1 D1 hr
      rw [u1, bd_some, if_neg (show ¬ (1 : Int32) = 0 by decide)] at F0
      have p0 : prBr L tp T true b np = if isS L tp b1 41 = true then (nxt L tp b1, some (n1, D1)) else (b1, none) := by unfold prBr; rw [if_pos rfl, hr]
      have k2 : Ch [27] RDf σ s2 := (TKf_RDf a4).trans u6
      rcases F_takeSignC (x := 41) U2.1 U2.2.1 with ⟨w1, w2⟩ | ⟨w1, s4, w2, w3, w4⟩
      · rw [w1, if_neg (by decide)] at p0
        rw [w2, bd_some, if_pos rfl] at F0
        exact CgR.fail p0 ⟨s2, F0, U2.2.1, k2⟩
      · rw [w1, if_pos rfl] at p0
        rw [w2, bd_some, if_neg (show ¬ (1 : Int32) = 0 by decide)] at F0
        have nb2 := nxt_b (tp := tp) U2.b.1
        have c4 : gI s4 27 = gI s2 27 := w4.rI (by simp) (by simp [TKf])
        have zb := U2.2.2.2.2.1
        refine CgR.good p0 ⟨s4, z2, F0, ⟨U2.1.ch w4 (by simp) (by simp [TKf]), w3, by rw [w4.pI (by simp) (by simp [TKf])]; exact U2.2.2.1, by rw [w4.pI (by simp) (by simp [TKf])]; exact U2.2.2.2.1, by omega, U2.2.2.2.2.2⟩, by omega, fun i hi => by rw [c4, u4 i hi, a3], by rw [c4]; exact u5, (fun _ => u7 rfl), k2.trans (TKf_RDf w4)⟩
theorem plain_loop {L d g : Nat} {tp : Nat → Int32} {C B : Nat → Nat → PR} {cS cB : Int32 → AH → Option (Int32 × AH)} (hC : CgP L tp C (cmpF cS (nI d)) true) (hB : CgP L tp B (cB (nI d)) true) : ∀ (f i b b0 sz np : Nat) (t : Bool) (σ : AH), i + f = 401 → i ≤ b → CgS L tp b sz np σ → sz ≤ b0 → b0 ≤ b → (t = true → b0 + 1 ≤ b) →
    (∀ b', prPl L tp C B f t b np = (b', none) → ∃ τ, F_X5_readPlain_4 cS cB (f + g) (nI d) (b2 t) (nI i) σ = some (0, τ) ∧ TkC L tp b' τ ∧ Ch [27] RDf σ τ) ∧
    (∀ b' np' D', prPl L tp C B f t b np = (b', some (np', D')) → ∃ τ sz', F_X5_readPlain_4 cS cB (f + g) (nI d) (b2 t) (nI i) σ = some (1, τ) ∧ CgS L tp b' sz' np' τ ∧ (b0 < b' ∧ sz < sz' ∧ sz' + b0 ≤ sz + b' ∧ np < np') ∧ (∀ x, x < sz → gI τ 27 x = gI σ 27 x) ∧ SgC (gI τ 27) sz sz' (np' - np) D' ∧ is01 D' ∧ Ch [27] RDf σ τ) := by
  intro f
  induction f with
  | zero =>
    intro i b b0 sz np t σ hi hib h
    have := h.b
    omega
  | succ f ih =>
    intro i b b0 sz np t σ hi hib h szb hb0 ht
    obtain ⟨bL, L4⟩ := h.b
    have F0 : F_X5_readPlain_4 cS cB (f + 1 + g) (nI d) (b2 t) (nI i) σ = B_X5_readPlain_4 cS cB (F_X5_readPlain_4 cS cB (f + g)) (nI d) (b2 t) (nI i) σ := by rw [show f + 1 + g = (f + g) + 1 by omega]; rfl
    -- behind all 'not'
    have last : prPl L tp C B (f + 1) t b np = prPl0 L tp C B t b np → B_X5_readPlain_4 cS cB (F_X5_readPlain_4 cS cB (f + g)) (nI d) (b2 t) (nI i) σ = F_X5_readPlain_40 cS cB (nI d) (b2 t) σ → (∀ b', prPl L tp C B (f + 1) t b np = (b', none) → ∃ τ, F_X5_readPlain_4 cS cB (f + 1 + g) (nI d) (b2 t) (nI i) σ = some (0, τ) ∧ TkC L tp b' τ ∧ Ch [27] RDf σ τ) ∧
        (∀ b' np' D', prPl L tp C B (f + 1) t b np = (b', some (np', D')) → ∃ τ sz', F_X5_readPlain_4 cS cB (f + 1 + g) (nI d) (b2 t) (nI i) σ = some (1, τ) ∧ CgS L tp b' sz' np' τ ∧ (b0 < b' ∧ sz < sz' ∧ sz' + b0 ≤ sz + b' ∧ np < np') ∧ (∀ x, x < sz → gI τ 27 x = gI σ 27 x) ∧ SgC (gI τ 27) sz sz' (np' - np) D' ∧ is01 D' ∧ Ch [27] RDf σ τ) := fun e1 e2 => by
      have ex : ∃ (p : Nat → Nat → PR) (fF : AH → Option (Int32 × AH)), CgP L tp p fF true ∧ prPl0 L tp C B t b np = (match p b np with | (b1, none) => (b1, none) | (b1, some (n1, D)) => (b1, some (n1, if t = true then ntD D else D))) ∧ F_X5_readPlain_40 cS cB (nI d) (b2 t) σ = (bd (fF σ) fun v s => plE (b2 t) v s) := by
        unfold prPl0
        rw [plain_40, F_isSignC h.1 h.2.1, bd_some]
        cases isS L tp b 40 with
        | true => rw [if_pos rfl, if_neg (show ¬ b2 true = 0 by decide)]; exact ⟨B, cB (nI d), hB, rfl, rfl⟩
        | false => rw [if_neg (by decide), if_pos (show b2 false = 0 from rfl)]; exact ⟨C, cmpF cS (nI d), hC, rfl, rfl⟩
      obtain ⟨p, fF, hp, p1, p2⟩ := ex
      obtain ⟨r1, r2⟩ := hp _ _ _ _ h
      rw [e1, p1, F0, e2, p2]
      rcases hr : p b np with ⟨b1, _ | ⟨n1, D1⟩⟩
      · obtain ⟨s1, u1, u2, u3⟩ := r1 b1 hr
        rw [u1, bd_some]
        unfold plE
        rw [if_pos rfl]
        refine ⟨fun b' e' => ?_, fun b' np' D' e' => (by cases e')⟩
        cases e'
        exact ⟨s1, rfl, u2, u3⟩
      · obtain ⟨s1, z1, u1, U1, u2, u4, u5, u7, u6⟩ := r2 b1 n1 D1 hr
        rw [u1, bd_some]
        unfold plE
        rw [if_neg (show ¬ (1 : Int32) = 0 by decide)]
        refine ⟨fun b' e' => (by cases e'), fun b' np' D' e' => ?_⟩
        cases t with
        | false =>
          rw [if_pos (show b2 false = 0 from rfl)]
          have e3 : (b1, some (n1, D1)) = (b', some (np', D')) := e'
          cases e3
          exact ⟨s1, z1, rfl, U1, by omega, u4, u5, u7 rfl, u6⟩
        | true =>
          have hb := ht rfl
          obtain ⟨s2, e1', E2, e3, e4⟩ := U1.emit (c := 11) (r := 0) (by omega) (by decide) (by decide)
          have e1'' : F_X5_emit (11 : Int32) (0 : Int32) s1 = some s2 := e1'
          rw [if_neg (show ¬ b2 true = 0 by decide), e1'', bv_some]
          have e5 : (b1, some (n1, ntD D1)) = (b', some (np', D')) := e'
          cases e5
          refine ⟨s2, z1 + 1, rfl, E2, by omega, fun x hx => by rw [e3, va_lo (by omega), u4 x hx], ?_, is01_nt (u7 rfl), u6.trans e4⟩
          exact SgC.nt (u5.cg (fun x x1 x2 => by rw [e3, va_lo x2])) (by omega) (by rw [e3, up_same])
    by_cases c400 : i = 400
    · have z0 : tkT L tp b = 0 := tkT_e (by omega)
      refine last (by rw [prPl_s, if_neg (fun z => by have := isW_sort z; omega)]) ?_
      unfold B_X5_readPlain_4
      rw [if_pos (show (400 : Int32) ≤ nI i by rw [c400]; decide)]
    · have n400 : ¬ (400 : Int32) ≤ nI i := nI_ge (b := 400) (by omega) (by decide)
      have sW := F_isWordC (k := 9) (w := wNot) h.1 h.2.1 (by decide) rfl
      cases cW : isW L tp b wNot with
      | false =>
        refine last (by rw [prPl_s, if_neg (by rw [cW]; decide)]) ?_
        unfold B_X5_readPlain_4
        rw [if_neg n400, sW, bd_some, cW, if_pos (show b2 false = 0 from rfl)]
      | true =>
        have lt : b < L := tkT_lt (L := L) (tp := tp) (b := b) (by rw [isW_sort cW]; decide)
        have nb := nxt_b (tp := tp) bL
        obtain ⟨s1, a1, S1, a3, a4⟩ := h.step
        have e2 : B_X5_readPlain_4 cS cB (F_X5_readPlain_4 cS cB (f + g)) (nI d) (b2 t) (nI i) σ = F_X5_readPlain_4 cS cB (f + g) (nI d) (b2 (!t)) (nI (i + 1)) s1 := by
          unfold B_X5_readPlain_4 F_X5_readPlain_33
          rw [if_neg n400, sW, bd_some, cW, if_neg (show ¬ b2 true = 0 by decide), a1, bv_some, nI_1]
          cases t with
          | false => rw [if_pos (show b2 false = 0 from rfl)]; rfl
          | true => rw [if_neg (show ¬ b2 true = 0 by decide)]; rfl
        rw [prPl_s, if_pos cW, F0, e2]
        obtain ⟨q1, q2⟩ := ih (i + 1) (nxt L tp b) b0 sz np (!t) s1 (by omega) (by omega) S1 szb (by omega) (fun _ => by omega)
        refine ⟨fun b' e' => ?_, fun b' np' D' e' => ?_⟩
        · obtain ⟨τ, t1, t2, t3⟩ := q1 b' e'
          exact ⟨τ, t1, t2, (TKf_RDf a4).trans t3⟩
        · obtain ⟨τ, sz', t1, t2, t3, t4, t5, t7, t6⟩ := q2 b' np' D' e'
          exact ⟨τ, sz', t1, t2, t3, fun x hx => by rw [t4 x hx, a3], t5, t7, (TKf_RDf a4).trans t6⟩
theorem Cg_plain {L d : Nat} {tp : Nat → Int32} {C B : Nat → Nat → PR} {cS cB : Int32 → AH → Option (Int32 × AH)} (hC : CgP L tp C (cmpF cS (nI d)) true) (hB : CgP L tp B (cB (nI d)) true) : CgP L tp (prPl L tp C B 401 false) (F_X5_readPlain cS cB (nI d)) true := by
  intro b sz np σ h
  obtain ⟨g, hg⟩ := BIGe 400 (by decide)
  obtain ⟨q1, q2⟩ := plain_loop (g := g) hC hB 401 0 b b sz np false σ (by omega) (by omega) h h.2.2.2.2.1 (Nat.le_refl _) (fun z => by cases z)
  have hg' : F_X5_readPlain cS cB (nI d) σ = F_X5_readPlain_4 cS cB (401 + g) (nI d) (b2 false) (nI 0) σ := by unfold F_X5_readPlain; rw [hg]; rfl
  unfold CgR
  rw [hg']
  exact ⟨q1, fun b' np' D' e' => by
    obtain ⟨τ, sz', t1, t2, t3, t4, t5, t7, t6⟩ := q2 b' np' D' e'
    exact ⟨τ, sz', t1, t2, t3, t4, t5, (fun _ => t7), t6⟩⟩
/-! all together -/
theorem Cg_sum {L : Nat} {tp : Nat → Int32} : ∀ (k F : Nat), k ≤ 8 → 3 * k ≤ F → CgP L tp (prSm L tp k) (RK (F + 3) 4 (nI (8 - k))) false := by
  intro k
  induction k with
  | zero =>
    intro F _ hF
    rw [prSm_z, RK_4, RK_5, RK_6]
    exact Cg_readSum (c := F_X5_readTerm (F_X5_readPart (RK F 4))) (Cg_readTerm (c := F_X5_readPart (RK F 4)) (CgPart (by decide) (by decide) (fun z => by cases z)))
  | succ k ih =>
    intro F hk hF
    obtain ⟨F', rfl⟩ : ∃ F', F = F' + 3 := ⟨F - 3, by omega⟩
    rw [prSm_s, RK_4, RK_5, RK_6]
    have h := ih F' (by omega) (by omega)
    refine Cg_readSum (c := F_X5_readTerm (F_X5_readPart (RK (F' + 3) 4))) (Cg_readTerm (c := F_X5_readPart (RK (F' + 3) 4)) (CgPart (S := prSm L tp k) (by rw [decide_eq_true (by omega)]) (by omega) (fun _ => ?_)))
    rw [show 8 - (k + 1) + 1 = 8 - k by omega]
    exact h
theorem Cg_test {L : Nat} {tp : Nat → Int32} : ∀ (k F : Nat), k ≤ 8 → 4 * k + 3 ≤ F → CgP L tp (prTs L tp k) (RK (F + 4) 0 (nI (8 - k))) true := by
  intro k
  induction k with
  | zero =>
    intro F _ hF
    obtain ⟨F', rfl⟩ : ∃ F', F = F' + 2 := ⟨F - 2, by omega⟩
    have s := Cg_sum (L := L) (tp := tp) 0 F' (by omega) (by omega)
    rw [prTs_z, RK_0, RK_1, RK_2, RK_3]
    exact Cg_readTest (c := F_X5_readBoth (F_X5_readPlain (RK (F' + 3) 4) (F_X5_readBracket (RK (F' + 2) 0)))) (Cg_readBoth (c := F_X5_readPlain (RK (F' + 3) 4) (F_X5_readBracket (RK (F' + 2) 0))) (Cg_plain (cS := RK (F' + 3) 4) (cB := F_X5_readBracket (RK (F' + 2) 0)) (Cg_compare s) (Cg_bracket (by decide) (by decide) (fun z => by cases z))))
  | succ k ih =>
    intro F hk hF
    obtain ⟨F', rfl⟩ : ∃ F', F = F' + 4 := ⟨F - 4, by omega⟩
    have s := Cg_sum (L := L) (tp := tp) (k + 1) (F' + 2) (by omega) (by omega)
    have h := ih F' (by omega) (by omega)
    rw [prTs_s, RK_0, RK_1, RK_2, RK_3]
    refine Cg_readTest (c := F_X5_readBoth (F_X5_readPlain (RK (F' + 5) 4) (F_X5_readBracket (RK (F' + 4) 0)))) (Cg_readBoth (c := F_X5_readPlain (RK (F' + 5) 4) (F_X5_readBracket (RK (F' + 4) 0))) (Cg_plain (cS := RK (F' + 5) 4) (cB := F_X5_readBracket (RK (F' + 4) 0)) (Cg_compare s) (Cg_bracket (T := prTs L tp k) (by rw [decide_eq_true (by omega)]) (by omega) (fun _ => ?_))))
    rw [show 8 - (k + 1) + 1 = 8 - k by omega]
    exact h
theorem Cg_G {L : Nat} {tp : Nat → Int32} : CgP L tp (prSm L tp 8) (G_X5_readSum 0) false ∧ CgP L tp (prTs L tp 8) (G_X5_readTest 0) true :=
  ⟨Cg_sum 8 61 (by decide) (by decide), Cg_test 8 60 (by decide) (by decide)⟩
end
