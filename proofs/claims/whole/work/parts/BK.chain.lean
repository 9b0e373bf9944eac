section
/-! one chain of moves, in the class -/
def OcY (row : Nat → Int32) (k : Int32) (w : Nat) (oc : Nat → Nat → Option (Nat × Nat × Bool × Nat)) (n : Nat) (C : Nat → Nat → Int32) (σ : AH) : Prop := TbY σ n C ∧ CyV (nP row) (nE row) n C ∧ RpC (nP row) n C oc ∧ FrC n C w ∧ CyE n C ∧ LkI row n C k w (nP row) σ
def OcB (row : Nat → Int32) (k : Int32) (w : Nat) (f : Nat → Int32) (O : Nat → Nat) (σ : AH) : Prop := SoI row k w 6 σ ∧ (∀ e, e < nE row → gI σ 114 e = f e) ∧ TbB row σ ∧ TbE row σ ∧ Ow O σ
theorem Ow.b17 {O : Nat → Nat} {σ : AH} {b : Nat} (h : Ow O σ) (hb : gR σ 17 2 = some b) : b = 18 ∨ 166 ≤ b := by
  obtain ⟨y, y1, _, y3⟩ := h.2.1 17 (by simp [tbs])
  rw [hb] at y1; cases y1
  rcases y3 with z | z
  · exact Or.inl z
  · exact Or.inr z.1
theorem OcB.x {row : Nat → Int32} {k : Int32} {w b0 : Nat} {f : Nat → Int32} {O : Nat → Nat} {σ τ : AH} (h : OcB row k w f O σ) (hb0 : gR σ 17 2 = some b0) (c : ChX 17 [b0, 121, 122, 123] [(17, 3)] σ τ) : OcB row k w f (OwU O (nx σ) 17) τ := by
  obtain ⟨s1, s2, ⟨t1, t2, t3, t4, t5⟩, s4, s5⟩ := h
  have hb := s5.b17 hb0
  have sm : ∀ i, i = 114 ∨ i = 115 ∨ i = 116 → gI τ i = gI σ i := fun i hi => c.lo s5.1 (by omega) (by simp; omega) (by simp; omega)
  refine ⟨fun d hd => by rw [sm 115 (by omega), sm 116 (by omega)]; exact s1 d hd, fun e he => by rw [sm 114 (by omega)]; exact s2 e he, ⟨t1.x s5 (by simp [tbs]) (by simp [tbs]) (by decide) hb0 c (by simp) (by simp), t2.x s5 (by simp [tbs]) (by simp [tbs]) (by decide) hb0 c (by simp) (by simp), t3.x s5 (by simp [tbs]) (by simp [tbs]) (by decide) hb0 c (by simp) (by simp), t4.x s5 (by simp [tbs]) (by simp [tbs]) (by decide) hb0 c (by simp) (by simp), t5.x s5 (by simp [tbs]) (by simp [tbs]) (by decide) hb0 c (by simp) (by simp)⟩, Tb.x s4 s5 (by simp [tbs]) (by simp [tbs]) (by decide) hb0 c (by simp) (by simp), s5.x (by simp [tbs]) c⟩
theorem leave1 {row : Nat → Int32} {k : Int32} {w n b : Nat} {oc : Nat → Nat → Option (Nat × Nat × Bool × Nat)} {C : Nat → Nat → Int32} {σ : AH} (hB : BV row) (hw : w < 260) (h : OcY row k w oc n C σ) (q : Option Nat) (hq : ∀ x, q = some x → x < nP row ∧ (oc x w).isSome = true) (hb : gR σ 17 2 = some b) : ∃ τ C', F_X2_leave (oI q) (nI w) σ = some τ ∧ OcY row k w (ocX oc q w) n C' τ ∧ gR τ 17 2 = some b ∧ Ch [b, 121] [] σ τ := by
  have b30 := hB.p.2.1
  cases q with
  | none => exact ⟨σ, C, leave_none, h, hb, Ch.rf _⟩
  | some x =>
    obtain ⟨hx, ho⟩ := hq x rfl
    obtain ⟨hY, hV, hR, hF, hE, hL⟩ := h
    rcases stayIn_oc hR hx hw with ⟨z1, _⟩ | ⟨s, s1, s2, s3, s4, s5⟩
    · rw [z1] at ho; cases ho
    · have g121 : gI σ 121 x = nI s := by rw [(hL x hx).2, s2]; rfl
      obtain ⟨τ, t1, t2, t3, t4, t5⟩ := F_leave (w := w) hY (show x < 30 by omega) g121 s1 hb
      obtain ⟨L1, L2⟩ := hR.leave hF b30 (Nat.le_refl w) hw hx s1 s4 s5
      have hb' : b = 18 ∨ 166 ≤ b := by
        obtain ⟨_, _, b', _, d1, _, _, d4, _⟩ := id hY
        rw [hb] at d1; cases d1; exact d4
      refine ⟨τ, upC C s 5 (nI w), t1, ⟨t2, fun t ht => ?_, L1, L2, CyE.leave hV hE s1 hw s5, hL.leave hR hF b30 (Nat.le_refl w) hw hx s1 s4 s5 ?_ t3⟩, t4, t5.mono (by simp) (by simp)⟩
      · rw [upC_ne (by decide), upC_ne (by decide), upC_ne (by decide), upC_ne (by decide)]; exact hV t ht
      · exact t5.rI (by simp; omega) (by simp)
theorem lo_ce {row : Nat → Int32} {k : Int32} {p w : Nat} (hA : AV row) (hW : AW row) (hw : w < 260) (h : hoB row k p w = true) : loW row k p w = ceW row k p ∧ ¬ ceW row k p ≤ nI w := by
  have hl := ho_lo (k := k) (p := p) hA hW hw
  rw [h] at hl
  have np : ¬ loW row k p w ≤ 0 := fun z => by rw [decide_eq_true z] at hl; cases hl
  unfold loW at np ⊢
  by_cases d : dnB row k p w = true
  · rw [if_pos d] at np ⊢
    by_cases c : ceW row k p ≤ nI w
    · rw [if_pos c] at np; exact absurd (Int32.le_refl 0) np
    · rw [if_neg c]; exact ⟨rfl, c⟩
  · rw [if_neg d] at np; exact absurd (Int32.le_refl 0) np
theorem go1 {row : Nat → Int32} {k : Int32} {w n b p e c : Nat} {oc : Nat → Nat → Option (Nat × Nat × Bool × Nat)} {C : Nat → Nat → Int32} {σ : AH} (hA : AV row) (hW : AW row) (hB : BV row) (hE : EV row) (hw : w < 260) (hp : p < nP row) (he : e < nE row) (hc : c < 10) (h : OcY row k w oc n C σ) (hx : 166 ≤ nx σ) (hb : gR σ 17 2 = some b) (hh : hoB row k p w = true) (h0 : oc p w = none) :
    ∃ τ n' C' b1, F_X2_goIn (nI e) (nI p) (nI w) (nI w) (nI c) σ = some τ ∧ OcY row k w (ocG oc p w (fun u => decide (heW row k p ≤ nI u)) (fun u => decide (nI w ≤ nI u)) e c) n' C' τ ∧ gR τ 17 2 = some b1 ∧ ChX 17 [b, 121] [(17, 3)] σ τ := by
  have b30 := hB.p.2.1
  have n60 := hE.n.2
  obtain ⟨hY, hV, hR, hF, hCE, hL⟩ := h
  obtain ⟨l1, l2⟩ := lo_ce hA hW hw hh
  have nk : knD row k 0 p ≠ -1 := by
    unfold hoB at hh; exact of_decide_eq_true (Bool.and_eq_true_iff.mp hh).1
  have hb' : b = 18 ∨ 166 ≤ b := by
    obtain ⟨_, _, b', _, d1, _, _, d4, _⟩ := id hY
    rw [hb] at d1; cases d1; exact d4
  obtain ⟨τ, s, n', b0', b1', p1, p2, p3, p4, p5, p6, p7, p8, p9, p10, p11⟩ := F_goIn (p := p) (x1 := nI e) (x3 := nI w) (x4 := nI w) (x5 := nI c) hY hx (fun h => stays_room b30 hV hR hCE h) (by omega)
  have eb : b0' = b := by rw [hb] at p9; cases p9; rfl
  rw [eb] at p11
  obtain ⟨D, hD⟩ : ∃ D : Nat → Nat → Int32, D = fun t j => if t = s then gi7 (nI p) (nI e) (nI w) (nI w) (gI σ 120 p) (nI c) j else C t j := ⟨_, rfl⟩
  rw [← hD] at p2
  have Do : ∀ t j, t ≠ s → D t j = C t j := fun t j h => by rw [hD]; exact if_neg h
  have Ds : ∀ j, D s j = gi7 (nI p) (nI e) (nI w) (nI w) (gI σ 120 p) (nI c) j := fun j => by rw [hD]; exact if_pos rfl
  have D0 : D s 0 = nI p := by rw [Ds]; rfl
  have D1 : D s 1 = nI e := by rw [Ds]; rfl
  have D2 : D s 2 = nI w := by rw [Ds]; rfl
  have D3 : D s 3 = nI w := by rw [Ds]; rfl
  have D4 : D s 4 = ceW row k p := by rw [Ds]; show gI σ 120 p = _; rw [(hL p hp).1]; exact l1
  have D5 : D s 5 = 2000000000 := by rw [Ds]; rfl
  have D6 : D s 6 = nI c := by rw [Ds]; rfl
  have oth : ∀ t, t < n' → t ≠ s → t < n ∧ ∀ j, D t j = C t j := fun t ht hne => ⟨p6 t ht hne, fun j => Do t j hne⟩
  have i5 : (260 : Int32) ≤ D s 5 := by rw [D5]; decide
  obtain ⟨G1, G2⟩ := hR.goIn (n' := n') (C' := D) (s := s) (w := w) (p := p) (e := e) (c := c) (ov := fun u => decide (heW row k p ≤ nI u)) (lv := fun u => decide (nI w ≤ nI u)) hF b30 (Nat.le_refl w) hw hp h0 p4 p3 oth (fun z => empty_cv (p7 z)) D0 (by rw [D1]; exact nI_clamp (by omega)) D2 (fun v hv => by rw [D3]) (fun v hv => by rw [D4]; exact decide_eq_decide.mpr (end_same hA hW hv nk).symm) i5 (by rw [D6]; exact nI_clamp (by omega))
  have GE : CyE n' D := hCE.goIn (s := s) (w := w) oth hw D2 (by rw [D4]; exact l2) i5
  have cv : cvB D s w = true := by
    rw [cv_iff (by omega), D2, D4, D5, nI_toInt (by omega)]
    rw [Int32.le_iff_toInt_le, nI_toInt (by omega)] at l2
    have : (2000000000 : Int32).toInt = 2000000000 := by decide
    omega
  refine ⟨τ, n', D, b1', p1, ⟨p2, fun t ht => ?_, G1, G2, GE, ?_⟩, p10, p11.mono (by simp) (by simp)⟩
  · by_cases z : t = s
    · rw [z, D0, D1, D2, D6]
      exact ⟨isN_nI hp (by omega), isN_nI he (by omega), isN_nI hw (by omega), isN_nI hc (by omega)⟩
    · rw [Do t _ z, Do t _ z, Do t _ z, Do t _ z]; exact hV t (p6 t ht z)
  · refine hL.goIn G1 b30 hw hp p4 p3 oth p7 D0 cv (fun q _ => ?_) (fun q hq hne => ?_) p8
    · rw [p11.lo hx (by decide) (by simp; omega) (by simp)]
    · exact p11.pt hx (by decide) (by simp; omega) (by simp; omega)
/-- one move of the class -/
theorem gvc_34 {row : Nat → Int32} {k : Int32} {w n p e c g : Nat} {b : Nat} {f : Nat → Int32} {O : Nat → Nat} {oc : Nat → Nat → Option (Nat × Nat × Bool × Nat)} {C : Nat → Nat → Int32} {K : Int32 → Int32 → Int32 → AH → Option (Int32 × AH)} {σ : AH} (hA : AV row) (hW : AW row) (hB : BV row) (hE : EV row) (hw : w < 260) (hp : p < nP row) (he : e < nE row) (hc : c < 10) (hf : f e = nI g) (hg : g < 60) (hfv : ∀ e, e < nE row → f e = -1 ∨ ∃ g, g < 60 ∧ f e = nI g) (h : OcY row k w oc n C σ) (hO : OcB row k w f O σ) (hRf : RfI (nP row) oc f w 0 σ) (hb : gR σ 17 2 = some b) (hh : hoB row k p w = true) (h0 : oc p w = none) :
    ∃ τ n' C' O' b1, F_X2_giveInChain_34 K (nI w) (nI p) (nI c) (nI e) σ = K (nI w) (oI (nxP row oc f w e)) (nI (c + 1)) τ ∧ OcY row k w (ocM row oc f k w p e c) n' C' τ ∧ OcB row k w f O' τ ∧ RfI (nP row) (ocM row oc f k w p e c) f w 0 τ ∧ gR τ 17 2 = some b1 ∧ ChX 17 [b, 121, 122, 123] [(17, 3)] σ τ := by
  have b30 := hB.p.2.1
  have n60 := hE.n.2
  have hx := hO.2.2.2.2.1
  have hb' := hO.2.2.2.2.b17 hb
  have r := hRf g hg
  rw [Nat.sub_zero] at r
  have l1 : gI σ 122 g = oI (lvP row oc f w e true) := by unfold lvP; rw [hf]; exact r.1
  have l2 : gI σ 123 g = oI (lvP row oc f w e false) := by unfold lvP; rw [hf]; exact r.2
  have sm : ∀ x bb, lvP row oc f w e bb = some x → x < nP row ∧ ∃ a, oc x w = some a ∧ a.2.2.1 = bb := fun x bb z => by
    have q := fsF_some _ _ x z
    refine ⟨lvP_lt z, ?_⟩
    have q1 := q.2.2.1
    unfold rfP at q1
    cases o : oc x w with
    | none => rw [o] at q1; cases q1
    | some a =>
      rw [o] at q1
      exact ⟨a, rfl, eq_of_beq (Bool.and_eq_true_iff.mp q1).2⟩
  have q60 : inB (nI e) 60 = true := inB_n (by omega) (by omega)
  have ce : (nI e).toNatClampNeg = e := nI_clamp (by omega)
  have qg : inB (nI g) 60 = true := inB_n hg (by omega)
  have cg : (nI g).toNatClampNeg = g := nI_clamp (by omega)
  have g114 : gI σ 114 e = nI g := by rw [hO.2.1 e he]; exact hf
  have body : ∀ y0 : Int32, y0 = oI (nxP row oc f w e) → ∃ τ n' C' O' b1, F_X2_giveInChain_85 K (nI w) (nI p) (nI c) (nI e) (nI g) y0 σ = K (nI w) (oI (nxP row oc f w e)) (nI (c + 1)) τ ∧ OcY row k w (ocM row oc f k w p e c) n' C' τ ∧ OcB row k w f O' τ ∧ RfI (nP row) (ocM row oc f k w p e c) f w 0 τ ∧ gR τ 17 2 = some b1 ∧ ChX 17 [b, 121, 122, 123] [(17, 3)] σ τ := fun y0 ey => by
    obtain ⟨s1, C1, a1, a2, a3, a4⟩ := leave1 hB hw h (lvP row oc f w e true) (fun x z => by
      obtain ⟨z1, a, z2, _⟩ := sm x true z
      exact ⟨z1, by rw [z2]; rfl⟩) hb
    have g123 : gI s1 123 g = oI (lvP row oc f w e false) := by rw [a4.rI (by simp; omega) (by simp)]; exact l2
    obtain ⟨s2, C2, c1, c2, c3, c4⟩ := leave1 hB hw a2 (lvP row oc f w e false) (fun x z => by
      obtain ⟨z1, a, z2, z3⟩ := sm x false z
      refine ⟨z1, ?_⟩
      cases y : lvP row oc f w e true with
      | none => show (oc x w).isSome = true; rw [z2]; rfl
      | some x1 =>
        obtain ⟨_, a', y2, y3⟩ := sm x1 true y
        have ne : ¬ (x = x1 ∧ w ≤ w) := fun q => by
          rw [q.1, y2] at z2; cases z2; rw [y3] at z3; cases z3
        show (ocL oc x1 w x w).isSome = true
        unfold ocL
        rw [if_neg ne, z2]; rfl) a3
    have lw0 : ∀ (oc1 : Nat → Nat → Option (Nat × Nat × Bool × Nat)) (q : Option Nat), oc1 p w = none → ocX oc1 q w p w = none := fun oc1 q z => by
      cases q with
      | none => exact z
      | some q =>
        show ocL oc1 q w p w = none
        unfold ocL
        by_cases c : p = q ∧ w ≤ w
        · rw [if_pos c]
        · rw [if_neg c]; exact z
    have x2 : nx s2 = nx σ := by rw [c4.2.1, a4.2.1]
    obtain ⟨s3, n3, C3, b3, d1, d2, d3, d4⟩ := go1 hA hW hB hE hw hp he hc c2 (by omega) c3 hh (lw0 _ _ (lw0 oc _ h0))
    have k2 : ChX 17 [b, 121, 122, 123] [(17, 3)] σ s2 := (Ch.x (a4.mono (by simp) (by simp))).trans (Ch.x (c4.mono (by simp) (by simp)))
    have k3 : ChX 17 [b, 121, 122, 123] [(17, 3)] σ s3 := k2.trans (d4.mono (by simp) (by simp))
    have O3 := hO.x hb k3
    obtain ⟨s4, e1, e2, e3⟩ := F_findRoofs (f := f) hB hE O3.2.2.1 d2.1 d2.2.1 d2.2.2.1 hw (fun q hq => (d2.2.2.2.2.2 q hq).2) O3.2.1 hfv
    have k4 : ChX 17 [b, 121, 122, 123] [(17, 3)] σ s4 := k3.trans (Ch.x (e3.mono (by simp) (by simp)))
    have Y4 : OcY row k w (ocM row oc f k w p e c) n3 C3 s4 := by
      obtain ⟨y1, y2, y3, y4, y5, y6⟩ := d2
      exact ⟨TbG.ch y1 e3 (by simp) (by simp), y2, y3, y4, y5, fun q hq => by rw [e3.rI (by simp) (by simp), e3.rI (by simp) (by simp)]; exact y6 q hq⟩
    refine ⟨s4, n3, C3, _, b3, ?_, Y4, hO.x hb k4, e2, by rw [e3.2.2.2.1]; exact d3, k4⟩
    unfold F_X2_giveInChain_85
    rw [if_pos qg, cg, l1, a1, bv_some, if_pos qg, g123, c1, bv_some, d1, bv_some, e1, bv_some, ey, nI_1]
  unfold F_X2_giveInChain_34
  rw [if_neg (nI_neg1 (by omega)), if_pos q60, ce, g114, if_pos qg, cg, l1, l2]
  cases z : lvP row oc f w e true with
  | none =>
    rw [show oI none = -1 from rfl, if_pos rfl, if_pos qg]
    exact body _ (by unfold nxP; rw [z])
  | some x =>
    have := lvP_lt z
    rw [show oI (some x) = nI x from rfl, if_neg (nI_neg1 (by omega)), if_pos qg]
    exact body _ (by unfold nxP; rw [z]; rfl)
theorem chain_loop {row : Nat → Int32} {k : Int32} {w G : Nat} {f : Nat → Int32} (hA : AV row) (hW : AW row) (hB : BV row) (hE : EV row) (hw : w < 260) (hF : FmF row k f) :
    ∀ (j c n b : Nat) (oc : Nat → Nat → Option (Nat × Nat × Bool × Nat)) (C : Nat → Nat → Int32) (O : Nat → Nat) (p : Option Nat) (σ : AH), c + j = 10 → (∀ q, p = some q → q < nP row) → OcY row k w oc n C σ → OcB row k w f O σ → RfI (nP row) oc f w 0 σ → gR σ 17 2 = some b →
      ∃ τ n' C' O' b1, F_X2_giveInChain_5 (j + 1 + G) (nI w) (oI p) (nI c) σ = some (nI (chn row f k w j c oc p).1, τ) ∧ OcY row k w (chn row f k w j c oc p).2 n' C' τ ∧ OcB row k w f O' τ ∧ RfI (nP row) (chn row f k w j c oc p).2 f w 0 τ ∧ gR τ 17 2 = some b1 ∧ ChX 17 [b, 121, 122, 123] [(17, 3)] σ τ := by
  have b30 := hB.p.2.1
  have n60 := hE.n.2
  have hfv : ∀ e, e < nE row → f e = -1 ∨ ∃ g, g < 60 ∧ f e = nI g := fun e he => fam_val hE hF he
  intro j
  induction j with
  | zero =>
    intro c n b oc C O p σ hc hp hY hO hRf hb
    rw [show 0 + 1 + G = G + 1 by omega, chn_z]
    refine ⟨σ, n, C, O, b, ?_, hY, hO, hRf, hb, Ch.x (Ch.rf _)⟩
    show B_X2_giveInChain_5 (F_X2_giveInChain_5 G) (nI w) (oI p) (nI c) σ = _
    unfold B_X2_giveInChain_5
    have e10 : c = 10 := by omega
    rw [e10, if_pos (show (10 : Int32) ≤ nI 10 by decide)]; rfl
  | succ j ih =>
    intro c n b oc C O p σ hc hp hY hO hRf hb
    have hn : n ≤ 7830 := hY.1.2.1.2.2.2
    rw [show j + 1 + 1 + G = (j + 1 + G) + 1 by omega]
    show ∃ τ n' C' O' b1, B_X2_giveInChain_5 (F_X2_giveInChain_5 (j + 1 + G)) (nI w) (oI p) (nI c) σ = _ ∧ _
    unfold B_X2_giveInChain_5
    rw [if_neg (show ¬ (10 : Int32) ≤ nI c from nI_ge (b := 10) (by omega) (by decide))]
    have stop : ∀ x3 : Int32, F_X2_giveInChain_33 (F_X2_giveInChain_5 (j + 1 + G)) (nI w) x3 (nI c) σ = some (nI c, σ) := fun x3 => by
      unfold F_X2_giveInChain_33 F_X2_giveInChain_34
      rw [if_pos rfl]
    cases p with
    | none =>
      rw [chn_n, show oI none = -1 from rfl, if_pos rfl, stop]
      exact ⟨σ, n, C, O, b, rfl, hY, hO, hRf, hb, Ch.x (Ch.rf _)⟩
    | some q =>
      have hq := hp q rfl
      have fr := F_isFreeC (p := q) hA hW hB hY.2.2.1 hw hq hn hY.2.2.2.2.2
      rw [chn_s, show oI (some q) = nI q from rfl, if_neg (nI_neg1 (by omega)), fr, bd_some]
      cases hh : (hoB row k q w && (oc q w).isNone) with
      | false =>
        rw [if_pos (show b2 false = 0 from rfl), if_neg (by decide), stop]
        exact ⟨σ, n, C, O, b, rfl, hY, hO, hRf, hb, Ch.x (Ch.rf _)⟩
      | true =>
        obtain ⟨h1, h2⟩ := Bool.and_eq_true_iff.mp hh
        have on_ : oc q w = none := Option.isNone_iff_eq_none.mp h2
        have pc : pC row q < 6 := (hB.p.2.2 q hq).1.2
        have ff := F_firstFor (p := q) (k := k) (oc := oc) hB hE hO.2.2.1 hO.2.2.2.1 hw hq hO.2.1 hF (hO.1 _ pc).1 (hO.1 _ pc).2 hRf
        have ff' : F_X2_firstFor (nI q) σ = some (oI (gvE row oc f k w q), σ) := ff
        rw [if_neg (show ¬ b2 true = 0 by decide), if_pos rfl, ff', bd_some]
        cases h3 : gvE row oc f k w q with
        | none =>
          have st2 : F_X2_giveInChain_34 (F_X2_giveInChain_5 (j + 1 + G)) (nI w) (nI q) (nI c) (-1 : Int32) σ = some (nI c, σ) := by
            unfold F_X2_giveInChain_34
            rw [if_pos rfl]
          rw [show oI none = -1 from rfl, st2]
          exact ⟨σ, n, C, O, b, rfl, hY, hO, hRf, hb, Ch.x (Ch.rf _)⟩
        | some e =>
          obtain ⟨le, ie⟩ := gvE_in h3
          unfold inE at ie
          have kn := (of_decide_eq_true ie).2.1
          obtain ⟨g, g1, _, g3⟩ := (hF.1.1 e le).2 kn
          obtain ⟨τ, n1, C1, O1, b1, t1, t2, t3, t4, t5, t6⟩ := gvc_34 (K := F_X2_giveInChain_5 (j + 1 + G)) (c := c) hA hW hB hE hw hq le (by omega) g3 (by omega) hfv hY hO hRf hb h1 on_
          rw [show oI (some e) = nI e from rfl, t1]
          obtain ⟨τ2, n2, C2, O2, b2', u1, u2, u3, u4, u5, u6⟩ := ih (c + 1) n1 b1 (ocM row oc f k w q e c) C1 O1 (nxP row oc f w e) τ (by omega) (fun x hx => nxP_lt hx) t2 t3 t4 t5
          exact ⟨τ2, n2, C2, O2, b2', u1, u2, u3, u4, u5, t6.step hb t5 u6⟩
theorem give_loop {row : Nat → Int32} {k : Int32} {w G b0 : Nat} {f : Nat → Int32} {oc : Nat → Nat → Option (Nat × Nat × Bool × Nat)} {s0 : AH} (hA : AV row) (hW : AW row) (hB : BV row) (hE : EV row) (hw : w < 260) (hF : FmF row k f) (hb0 : gR s0 17 2 = some b0) :
    ∀ (j p n b : Nat) (C : Nat → Nat → Int32) (O : Nat → Nat) (σ : AH), p + j = nP row → OcY row k w (offS row f k w oc p).2 n C σ → OcB row k w f O σ → RfI (nP row) (offS row f k w oc p).2 f w 0 σ → gR σ 17 2 = some b → ChX 17 [b0, 121, 122, 123] [(17, 3)] s0 σ →
      ∃ τ n' C' O', F_X2_giveAll_4 (j + 1 + G) (nI w) (nI (offS row f k w oc p).1) (nI p) σ = some (nI (offS row f k w oc (nP row)).1, τ) ∧ OcY row k w (offS row f k w oc (nP row)).2 n' C' τ ∧ OcB row k w f O' τ ∧ ChX 17 [b0, 121, 122, 123] [(17, 3)] s0 τ := by
  have b30 := hB.p.2.1
  intro j
  induction j with
  | zero =>
    intro p n b C O σ hp hY hO hRf hb c
    have ep : p = nP row := by omega
    subst ep
    rw [show 0 + 1 + G = G + 1 by omega]
    refine ⟨σ, n, C, O, ?_, hY, hO, c⟩
    show B_X2_giveAll_4 (F_X2_giveAll_4 G) (nI w) (nI (offS row f k w oc (nP row)).1) (nI (nP row)) σ = _
    unfold B_X2_giveAll_4
    rw [rows_p hO.2.2.1, bd_some, if_pos (Int32.le_refl _)]
  | succ j ih =>
    intro p n b C O σ hp hY hO hRf hb c
    rw [show j + 1 + 1 + G = (j + 1 + G) + 1 by omega]
    show ∃ τ n' C' O', B_X2_giveAll_4 (F_X2_giveAll_4 (j + 1 + G)) (nI w) (nI (offS row f k w oc p).1) (nI p) σ = _ ∧ _
    unfold B_X2_giveAll_4
    obtain ⟨g, hg⟩ := BIGe 10 (by decide)
    obtain ⟨τ, n1, C1, O1, b1, t1, t2, t3, t4, t5, t6⟩ := chain_loop (G := g) hA hW hB hE hw hF 10 0 n b (offS row f k w oc p).2 C O (some p) σ (by omega) (fun q hq => by cases hq; omega) hY hO hRf hb
    have oo : F_X2_giveInChain (nI p) (nI w) σ = some (nI (chn row f k w 10 0 (offS row f k w oc p).2 (some p)).1, τ) := by
      unfold F_X2_giveInChain
      rw [hg]; exact t1
    rw [rows_p hO.2.2.1, bd_some, if_neg (nI_ge (by omega) (by omega)), oo, bd_some, nI_add, nI_1]
    obtain ⟨τ2, n2, C2, O2, u1, u2, u3, u4⟩ := ih (p + 1) n1 b1 C1 O1 τ (by omega) (by rw [offS_s]; exact t2) t3 (by rw [offS_s]; exact t4) t5 (c.step hb0 hb t6)
    rw [offS_s] at u1
    exact ⟨τ2, n2, C2, O2, u1, u2, u3, u4⟩
end
