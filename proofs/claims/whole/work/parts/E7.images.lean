section
/-! IMAGES -/
theorem ImO.gf {O O' : Nat → Nat} {P : Nat → Prop} {σ τ : AH} {k o : Nat} (h : ImO O σ k o) (f : Gf P σ τ) (hO : ∀ i, i < nx σ → O' i = O i) (hP : ∀ i, P i → ¬ Cof O o i ∧ ¬ (166 ≤ i ∧ O i = 2)) (e : ∀ x, x < 269832 → gI τ 126 (269832 * k + x) = gI σ 126 (269832 * k + x)) : ImO O' τ k o := by
  obtain ⟨o166, r, oc, W, ns, no, mv, n, C, t, v, y, x⟩ := h
  exact ⟨o166, r, oc, W, ns, no, mv, n, C, t.gf v.n24 f hO hP, v, y, fun i hi => by rw [e i hi]; exact x i hi⟩
theorem ImI.g3 {O : Nat → Nat} {σ τ : AH} {cs : List Nat} {fs : List (Nat × Nat)} (h : ImI O σ) (c : Ch cs fs σ τ) (h1 : ∀ i ∈ cs, i < 166 ∧ 20 < i) (h2 : ∀ q ∈ fs, q.1 < 166 ∧ (q.1 < 1 ∨ 20 < q.1)) (e126 : gI τ 126 = gI σ 126) (e127 : gI τ 127 = gI σ 127) : ImI O τ := by
  have f : Gf Out1 σ τ := c.gf2 (fun i hi => by have := h1 i hi; exact ⟨by omega, by omega⟩) (fun q hq => h2 q hq)
  have eR : gR τ = gR σ := c.2.2.2.1
  refine ⟨fun k hk => ?_, fun k l o p hk hl hne g1 g2 => h.2 k l o p hk hl hne (by rw [← eR]; exact g1) (by rw [← eR]; exact g2)⟩
  rcases h.1 k hk with ⟨a, b⟩ | ⟨o, a, b, im⟩
  · exact Or.inl ⟨by rw [eR]; exact a, by rw [e127]; exact b⟩
  · exact Or.inr ⟨o, by rw [eR]; exact a, by rw [e127]; exact b, im.gf f (fun _ _ => rfl) (fun i hi => by
      obtain ⟨_, _, _, _, _, _, _, _, _, t, _⟩ := im
      exact hi.no t.2.2) (fun x _ => by rw [e126])⟩
/-- what of now stays, if no small cell's numbers change -/
theorem CIn.sm {m n nw L : Nat} {O O' : Nat → Nat} {row tp : Nat → Int32} {C : Nat → Nat → Int32} {wi : Nat → Nat} {σ τ : AH} (h : CIn m O row n C nw wi L tp σ) (hV : AV row) (hB : BV row) (hE : EV row) (hT : ToI O' row n C 1 τ) (e : ∀ i, i = 0 ∨ (20 < i ∧ i < 166) → gI τ i = gI σ i) : CIn m O' row n C nw wi L tp τ := by
  obtain ⟨_, k, w, p, cn⟩ := h
  have hl : LwI row τ := by
    obtain ⟨l1, l2, l3⟩ := k.1
    refine ⟨⟨hT.2.1.1.1, hT.2.1.1.2.1⟩, ?_, ?_⟩
    · unfold CS at l2 ⊢; rw [e 28 (by omega), e 31 (by omega)]; exact l2
    · unfold ChnOK at l3 ⊢; rw [e 29 (by omega), e 30 (by omega)]; exact l3
  refine ⟨hT, k.same hV hB hE hl RwB.rf RwE.rf (by rw [e 0 (by omega)]) (by rw [e 0 (by omega)]) (fun i h1 h2 => e i (by omega)), ?_, ?_, ?_⟩
  · unfold CwI at w ⊢; rw [e 68 (by omega), e 69 (by omega)]; exact w
  · unfold TpC at p ⊢; rw [e 22 (by omega), e 23 (by omega)]; exact p
  · unfold CnI at cn ⊢; rw [e 0 (by omega)]; exact cn
theorem RIn.sm {nw L : Nat} {row tp : Nat → Int32} {wi : Nat → Nat} {σ τ : AH} (h : RIn row nw wi L tp σ) (e : ∀ i, i = 0 ∨ (20 < i ∧ i < 166) → gI τ i = gI σ i) : RIn row nw wi L tp τ := by
  obtain ⟨a, w, p⟩ := h
  refine ⟨by rw [e 125 (by omega)]; exact a, ?_, ?_⟩
  · unfold WsI at w ⊢; rw [e 124 (by omega), e 152 (by omega)]; exact w
  · unfold TpR at p ⊢; rw [e 124 (by omega), e 128 (by omega)]; exact p
theorem XIn.sm {σ τ : AH} (h : XIn σ) (e : ∀ i, i = 0 ∨ (20 < i ∧ i < 166) → gI τ i = gI σ i) : XIn τ := by
  unfold XIn LbI BsR BsC at h ⊢
  rw [e 124 (by omega), e 68 (by omega), e 82 (by omega), e 153 (by omega), e 0 (by omega)]; exact h
/-- an IMAGE that is to be written -/
def ImP (O : Nat → Nat) (σ : AH) (k o : Nat) : Prop := (∀ l, l < 3 → l ≠ k → (gR σ 21 l = none ∧ gI σ 127 l = 0) ∨ ∃ p, gR σ 21 l = some p ∧ gI σ 127 l = 1 ∧ ImO O σ l p) ∧ (∀ k l o p, k < 3 → l < 3 → k ≠ l → gR σ 21 k = some o → gR σ 21 l = some p → o + 20 ≤ p ∨ p + 20 ≤ o) ∧ gR σ 21 k = some o ∧ Tst σ o ∧ Oww O σ o ∧ 166 ≤ o
theorem im_room {m k o : Nat} {s τ : AH} (hR : RmI m s) (hk : k < 3) (e1 : us τ 1 = us s 1 ∧ ct τ 1 = ct s 1) (el : ∀ l, l < 3 → l ≠ k → usI τ l = usI s l ∧ ctI τ l = ctI s l) (g : gR s 21 k = some o) (g' : gR τ 21 k = some o) (r : RmO o s τ) : RmI m τ := by
  have a : usI s k = us s o := by unfold usI; rw [g]
  have b : ctI s k = ct s o := by unfold ctI; rw [g]
  have a' : usI τ k = us τ o := by unfold usI; rw [g']
  have b' : ctI τ k = ct τ o := by unfold ctI; rw [g']
  obtain ⟨h1, h2⟩ := hR
  obtain ⟨r1, r2⟩ := r
  rw [← a, ← a'] at r1
  rw [← b, ← b'] at r2
  unfold usA at h1
  unfold ctA at h2
  unfold RmI usA ctA
  rw [e1.1, e1.2]
  rcases (show k = 0 ∨ k = 1 ∨ k = 2 by omega) with rfl | rfl | rfl
  · rw [(el 1 (by decide) (by decide)).1, (el 2 (by decide) (by decide)).1, (el 1 (by decide) (by decide)).2, (el 2 (by decide) (by decide)).2]; exact ⟨by omega, by omega⟩
  · rw [(el 0 (by decide) (by decide)).1, (el 2 (by decide) (by decide)).1, (el 0 (by decide) (by decide)).2, (el 2 (by decide) (by decide)).2]; exact ⟨by omega, by omega⟩
  · rw [(el 0 (by decide) (by decide)).1, (el 1 (by decide) (by decide)).1, (el 0 (by decide) (by decide)).2, (el 1 (by decide) (by decide)).2]; exact ⟨by omega, by omega⟩
theorem qIM : QUf [126, 127] IMf := ⟨by decide, by decide⟩
theorem imIx {k l x : Nat} (hk : k < 3) (hl : l < 3) (h : l ≠ k) (hx : x < 269832) : 269832 * l + x < 269832 * k ∨ 269832 * k + 269832 ≤ 269832 * l + x := by
  rcases (show k = 0 ∨ k = 1 ∨ k = 2 by omega) with rfl | rfl | rfl <;> rcases (show l = 0 ∨ l = 1 ∨ l = 2 by omega) with rfl | rfl | rfl <;> omega
theorem image_end {m n nw L : Nat} {O : Nat → Nat} {row tp : Nat → Int32} {oc : Nat → Nat → Option (Nat × Nat × Bool × Nat)} {W ns no mv o : Nat} {C : Nat → Nat → Int32} {wi : Nat → Nat} {x1 : Int32} {s : AH} (c1 : rgB 0 2 x1 = true) (hS : Sh s) (hR : RmI m s) (hX : XIn s) (hV : RwV row oc W ns no mv) (hY : StY row n C oc W) (hW : WiV row nw wi) (hC : CIn m O row n C nw wi L tp s) (hI : RIn row nw wi L tp s) (hM : ImP O s (cl x1) o) : ∃ τ τ', F_X11_image_37 x1 s = some (0, τ) ∧ F_X12_image x1 τ = some (0, τ') ∧ Inv m τ' := by
  obtain ⟨k, hk⟩ : ∃ k, k = cl x1 := ⟨_, rfl⟩
  rw [← hk] at hM
  have xN : isN x1 3 := isN_r c1 (by decide) (by decide)
  have k3 : k < 3 := by rw [hk]; exact xN.2
  obtain ⟨m1, m2, m3, m4, m5, m6⟩ := hM
  have hx := hS.1
  have w1 := hC.1.2.2
  have hA := hV.n24
  obtain ⟨τ1, O', t1, t2, t3, t4, t5, t6, t7⟩ := F_told_copy m4 hC.1.1 hC.1.2.1 m5 w1 (Or.inr (by omega)) hA
  have dsj : ∀ i, Cof O o i → ¬ Cof O 1 i ∧ ¬ (166 ≤ i ∧ O i = 2) := fun i z => ⟨z.dis m5 w1 (Or.inr (by omega)), z.act m5⟩
  have big : ∀ i, Cof O o i → 166 ≤ i := fun i z => by
    rcases z with z | z
    · omega
    · exact z.1
  have sm : ∀ i, i < 166 → gI τ1 i = gI s i ∧ gR τ1 i = gR s i := fun i hi => by
    have q := t6.2.2 i (by omega) (fun z => by have := big i z; omega)
    exact ⟨q.1, q.2.2⟩
  have hT1 : ToI O' row n C 1 τ1 := hC.1.gf hA t6 t5 dsj
  have S1 : Sh τ1 := ⟨by have := t6.1; omega, fun i hi => by rw [t6.2.1 i (by omega)]; exact hS.2.1 i hi, fun q hq => by rw [(sm q.1 (shRL_lt q hq)).2]; exact hS.2.2 q hq⟩
  have e : ∀ i, i = 0 ∨ (20 < i ∧ i < 166) → gI τ1 i = gI s i := fun i hi => (sm i (by omega)).1
  have hC1 := hC.sm hV.1.1 hV.2.1 hV.2.2.1 hT1 e
  have hI1 := hI.sm e
  have hX1 := hX.sm e
  have e21 : gR τ1 21 = gR s 21 := (sm 21 (by decide)).2
  have im1 : ∀ l, l < 3 → l ≠ k → ∀ p, gR s 21 l = some p → ImO O s l p → ImO O' τ1 l p ∧ us τ1 p = us s p ∧ ct τ1 p = ct s p := fun l hl hne p hp im => by
    have dj := m2 k l o p k3 hl (fun z => hne z.symm) m3 hp
    have hh : ∀ i, Cof O o i → ¬ Cof O p i ∧ ¬ (166 ≤ i ∧ O i = 2) := fun i z => by
      obtain ⟨_, _, _, _, _, _, _, _, _, t, _⟩ := id im
      exact ⟨z.dis m5 t.2.2 dj, z.act m5⟩
    refine ⟨im.gf t6 t5 hh (fun x _ => by rw [(sm 126 (by decide)).1]), ?_⟩
    obtain ⟨_, _, _, _, _, _, _, _, _, t, _⟩ := id im
    exact us_gf t.1 t6 (fun i h1 h2 z => (hh i z).1 (Or.inl ⟨h1, h2⟩))
  have hR1 : RmI m τ1 := im_room hR k3 (us_gf hC.1.1 t6 (fun i h1 h2 z => (dsj i z).1 (Or.inl ⟨h1, h2⟩))) (fun l hl hne => by
    unfold usI ctI
    rw [e21]
    rcases m1 l hl hne with ⟨a, b⟩ | ⟨p, a, b, im⟩
    · rw [a]; exact ⟨rfl, rfl⟩
    · rw [a]; exact (im1 l hl hne p a im).2) m3 (by rw [e21]; exact m3) t7
  obtain ⟨τ, hτ⟩ : ∃ τ, τ = sI τ1 0 10 0 := ⟨_, rfl⟩
  have c : Ch [] [(0, 10)] τ1 τ := by rw [hτ]; exact Ch.sI1 (Or.inl (by simp))
  obtain ⟨τ', u1, u2, u3, _, u4⟩ := P_image (x1 := x1) (σ := τ)
  have iv : imgV x1 = 0 := by unfold imgV; rw [if_pos c1]
  rw [iv] at u1 u2
  rw [← hk] at u3
  obtain ⟨v1, v2, v3, v4⟩ := u3 c1
  refine ⟨τ, τ', ?_, u1, ?_⟩
  · unfold F_X11_image_37
    have ck : x1.toNatClampNeg = k := hk.symm
    rw [if_pos (show inB x1 3 = true by rw [xN.1]; exact inB_n xN.2 (by decide)), ck, m3]
    show (if kd s o = (9, NO 9) ∧ o < nx s then _ else none) = _
    rw [if_pos ⟨m4.1.1, by have := m4.1.2; omega⟩, t1, bv_some, answer_e, bd_some, show ftV 0 = 0 from rfl, ← hτ]
  have rt := hI1.ch c (by decide) (by decide)
  have ct1 := hC1.set hA c (by decide) (by decide) (hC1.2.2.1.ch c (by decide) (by decide)) (hC1.2.2.2.1.ch c (by decide) (by decide))
  have fo : Gf Out1 τ1 τ' := (c.gf2 (P := Out1) (fun i hi => by cases hi) (fun q hq => by rcases List.mem_singleton.mp hq with rfl; exact ⟨by decide, by decide⟩)).trans (u4.gf2 (fun i hi => by
      simp only [List.mem_cons, List.not_mem_nil, or_false] at hi; exact ⟨by omega, by omega⟩) (fun q hq => by
      unfold IMf at hq; simp only [List.mem_cons, List.not_mem_nil, or_false] at hq
      rcases hq with rfl | rfl <;> exact ⟨by decide, by decide⟩))
  have R21 : gR τ' 21 = gR s 21 := by rw [u4.2.2.2.1, c.2.2.2.1, e21]
  have g126 : gI τ 126 = gI s 126 := by rw [c.rI (by decide) (by decide)]; exact (sm 126 (by decide)).1
  have g127 : gI τ 127 = gI s 127 := by rw [c.rI (by decide) (by decide)]; exact (sm 127 (by decide)).1
  have hM' : ImI O' τ' := by
    refine ⟨fun l hl => ?_, fun k l o p hk hl hne g1 g2 => m2 k l o p hk hl hne (by rw [← R21]; exact g1) (by rw [← R21]; exact g2)⟩
    by_cases z : l = k
    · subst z
      have kT : ToI O' row n C o τ1 := ⟨t2, t3, t4⟩
      refine Or.inr ⟨o, by rw [R21]; exact m3, v3, m6, row, oc, W, ns, no, mv, n, C, kT.gf hA fo (fun _ _ => rfl) (fun i hi => hi.no t4), hV, hY, fun x hx' => ?_⟩
      rw [v1 x hx', rt.1]
    · have v4' := v4 l z
      rcases m1 l hl z with ⟨a, b⟩ | ⟨p, a, b, im⟩
      · exact Or.inl ⟨by rw [R21]; exact a, by rw [v4', g127]; exact b⟩
      · have im' := (im1 l hl z p a im).1
        refine Or.inr ⟨p, by rw [R21]; exact a, by rw [v4', g127]; exact b, im'.gf fo (fun _ _ => rfl) (fun i hi => ?_) (fun x hx' => ?_)⟩
        · obtain ⟨_, _, _, _, _, _, _, _, _, t, _⟩ := id im'
          exact hi.no t.2.2
        · rw [v2 _ (imIx k3 hl z hx'), c.rI (by decide) (by decide)]
  exact inv_fin (c.sh S1) (hX1.1.ch c (by decide) (by decide)) ct1 hM' (hR1.ch c) hV hY hW (by rw [hτ, gI_sI_at]) (by rw [u2]; rfl) (by rw [u4.pI (by decide) (by decide), c.pI (by decide) (by decide), c.pI (i := 0) (by decide) (by decide)]; exact hX1.2.2) (rt.ch u4 (by decide) (by decide)) u4 qIM
end
