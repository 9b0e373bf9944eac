section
/-! ROWS THAT AGREE: in ACTS (RwA), in all that a RUN asks (RwB), in ENTRIES (RwE) -/
def RwA (r r' : Nat → Int32) : Prop := r' 0 = r 0 ∧ ∀ i, 20 ≤ i → i < 22748 → r' i = r i
def RwB (r r' : Nat → Int32) : Prop := (∀ i, i < 6 → r' i = r i) ∧ ∀ i, 20 ≤ i → i < 23832 → r' i = r i
def RwE (r r' : Nat → Int32) : Prop := r' 6 = r 6 ∧ ∀ i, 23832 ≤ i → i < 24432 → r' i = r i
theorem RwB.a {r r' : Nat → Int32} (h : RwB r r') : RwA r r' := ⟨h.1 0 (by decide), fun i h1 h2 => h.2 i h1 (by omega)⟩
theorem RwA.c {r r' : Nat → Int32} (h : RwA r r') {a c : Nat} (ha : a < 24) (hc : c < 16) (j : Nat) (hj : j < 9) : r' (cA a c + j) = r (cA a c + j) := by
  unfold cA; exact h.2 _ (by omega) (by omega)
theorem RwA.c0 {r r' : Nat → Int32} (h : RwA r r') {a c : Nat} (ha : a < 24) (hc : c < 16) : r' (cA a c) = r (cA a c) := h.c ha hc 0 (by decide)
theorem nA_cg {r r' : Nat → Int32} (h : RwA r r') : nA r' = nA r := by unfold nA; rw [h.1]
theorem clN_cg {r r' : Nat → Int32} (h : RwA r r') {a : Nat} (ha : a < 24) : clN r' a = clN r a := by unfold clN; rw [h.2 _ (by omega) (by omega)]
theorem onB_cg {r r' : Nat → Int32} (h : RwA r r') {k w : Int32} {a : Nat} (ha : a < 24) : onB r' k w a = onB r k w a := by
  unfold onB; rw [h.2 (20 + 947 * a + 1) (by omega) (by omega), h.2 (20 + 947 * a) (by omega) (by omega)]
theorem stkC_cg {r r' : Nat → Int32} (h : RwA r r') {a : Nat} {s : Nat → Bool} (ha : a < 24) : ∀ c, c ≤ 16 → stkC r' a s c = stkC r a s c := by
  intro c
  induction c with
  | zero => intro _; rfl
  | succ c ih =>
    intro hc
    unfold stkC
    rw [ih (by omega), h.c0 ha (show c < 16 by omega), h.c ha (show c < 16 by omega) 1 (by decide), h.c ha (show c < 16 by omega) 2 (by decide)]
theorem stkM_cg {r r' : Nat → Int32} (h : RwA r r') (hV : AV r) {k w : Int32} : ∀ m, m ≤ nA r → ∀ s, stkM r' k w m s = stkM r k w m s := by
  have n24 := hV.2.1
  intro m
  induction m with
  | zero => intro _ s; rfl
  | succ m ih =>
    intro hm s
    unfold stkM
    rw [onB_cg h (show m < 24 by omega), clN_cg h (show m < 24 by omega), stkC_cg h (show m < 24 by omega) _ (hV.2.2 m (by omega)).2.1, ih (by omega)]
theorem stk_cg {r r' : Nat → Int32} (h : RwA r r') (hV : AV r) {k w : Int32} : stk r' k w = stk r k w := by
  unfold stk; rw [nA_cg h, stkM_cg h hV _ (Nat.le_refl _)]
theorem rrun_cg {op ar op' ar' st : Nat → Int32} {L : Nat} (h : ∀ k, k < L → op' k = op k ∧ ar' k = ar k) : ∀ f k s, rrun op' ar' st L f k s = rrun op ar st L f k s := by
  intro f
  induction f with
  | zero => intro k s; rfl
  | succ f ih =>
    intro k s
    unfold rrun
    by_cases c : L ≤ k
    · rw [if_pos c, if_pos c]
    · rw [if_neg c, if_neg c, (h k (by omega)).1, (h k (by omega)).2]
      simp only [ih]
theorem op_cg {r r' : Nat → Int32} (h : RwA r r') {a L : Nat} (ha : a < 24) (hL : L ≤ 400) : ∀ k, k < L → opA r' a k = opA r a k ∧ arA r' a k = arA r a k := fun k hk => by
  unfold opA arA
  exact ⟨h.2 _ (by omega) (by omega), h.2 _ (by omega) (by omega)⟩
theorem evR_cg {r r' : Nat → Int32} (h : RwA r r') {a i j : Nat} {st : Nat → Int32} (ha : a < 24) (hj : j ≤ 400) : evR r' a i j st = evR r a i j st := by
  unfold evR; rw [rrun_cg (op_cg h ha hj)]
theorem ClV.ends {r : Nat → Int32} {a c : Nat} (h : ClV r a c) : (r (cA a c + 5)).toNatClampNeg ≤ 400 ∧ (r (cA a c + 7)).toNatClampNeg ≤ 400 := by
  obtain ⟨_, _, _, i, j, k, l, ⟨b1, b2', b3, b4⟩, e4, e5, e6, e7, _⟩ := h
  rw [e5, e7, nI_clamp (by omega), nI_clamp (by omega)]
  exact ⟨b2', b4⟩
theorem hv_cg {r r' : Nat → Int32} (h : RwA r r') (hV : AV r) {a c : Nat} {st : Nat → Int32} (ha : a < nA r) (hc : c < clN r a) : hv r' st a c = hv r st a c := by
  have n24 := hV.2.1
  obtain ⟨_, c16, cv⟩ := hV.2.2 a ha
  have b := (cv c hc).ends
  unfold hv
  rw [h.c0 (by omega) (by omega), h.c (by omega) (by omega) 4 (by decide), h.c (by omega) (by omega) 5 (by decide), h.c (by omega) (by omega) 6 (by decide), h.c (by omega) (by omega) 7 (by decide), evR_cg h (by omega) b.1, evR_cg h (by omega) b.2]
theorem hold_cg {r r' : Nat → Int32} (h : RwA r r') (hV : AV r) {k w : Int32} {a c : Nat} {st : Nat → Int32} (ha : a < nA r) (hc : c < clN r a) : hold r' k w st a c = hold r k w st a c := by
  have n24 := hV.2.1
  unfold hold
  rw [onB_cg h (by omega), stk_cg h hV, hv_cg h hV ha hc]
theorem itsB_cg {r r' : Nat → Int32} (h : RwA r r') {H kd_ sg mt : Int32} {a c : Nat} (ha : a < 24) (hc : c < 16) : itsB r' H kd_ sg mt a c = itsB r H kd_ sg mt a c := by
  unfold itsB
  rw [h.c0 ha hc, h.c ha hc 1 (by decide), h.c ha hc 2 (by decide), h.c ha hc 3 (by decide)]
theorem fdC_cg {r r' : Nat → Int32} (h : RwA r r') (hV : AV r) {k w : Int32} {st : Nat → Int32} {H kd_ sg mt : Int32} {a : Nat} {s : Bool × Int64 × Int64} (ha : a < nA r) : ∀ c, c ≤ clN r a → fdC r' k w st H kd_ sg mt a s c = fdC r k w st H kd_ sg mt a s c := by
  have n24 := hV.2.1
  have c16 := (hV.2.2 a ha).2.1
  intro c
  induction c with
  | zero => intro _; rfl
  | succ c ih =>
    intro hc
    unfold fdC
    rw [hold_cg h hV ha (show c < clN r a by omega), ih (by omega), itsB_cg h (by omega) (show c < 16 by omega), h.c (show a < 24 by omega) (show c < 16 by omega) 1 (by decide)]
theorem fdA_cg {r r' : Nat → Int32} (h : RwA r r') (hV : AV r) {k w : Int32} {st : Nat → Int32} {H kd_ sg mt : Int32} : ∀ a, a ≤ nA r → fdA r' k w st H kd_ sg mt a = fdA r k w st H kd_ sg mt a := by
  have n24 := hV.2.1
  intro a
  induction a with
  | zero => intro _; rfl
  | succ a ih => intro ha; unfold fdA; rw [ih (by omega), clN_cg h (show a < 24 by omega), fdC_cg h hV (by omega) _ (Nat.le_refl _)]
theorem fd_cg {r r' : Nat → Int32} (h : RwA r r') (hV : AV r) (k w : Int32) (st : Nat → Int32) (H kd_ sg mt : Int32) : fd r' k w st H kd_ sg mt = fd r k w st H kd_ sg mt := by
  unfold fd; rw [nA_cg h]; exact fdA_cg h hV _ (Nat.le_refl _)
theorem ClV_cg {r r' : Nat → Int32} (h : RwA r r') {a c : Nat} (ha : a < 24) (hc : c < 16) (hV : ClV r a c) : ClV r' a c := by
  obtain ⟨h1, h2, h3, i, j, k, l, b, e4, e5, e6, e7, e8⟩ := hV
  refine ⟨by rw [h.c0 ha hc]; exact h1, by rw [h.c ha hc 1 (by decide)]; exact h2, by rw [h.c ha hc 2 (by decide)]; exact h3, i, j, k, l, b, by rw [h.c ha hc 4 (by decide)]; exact e4, by rw [h.c ha hc 5 (by decide)]; exact e5, by rw [h.c ha hc 6 (by decide)]; exact e6, by rw [h.c ha hc 7 (by decide)]; exact e7, fun st => ?_⟩
  rw [rrun_cg (op_cg h ha b.2.1), rrun_cg (op_cg h ha b.2.2.2)]; exact e8 st
theorem AV_cg {r r' : Nat → Int32} (h : RwA r r') (hV : AV r) : AV r' := by
  have n24 := hV.2.1
  refine ⟨by rw [nA_cg h, h.1]; exact hV.1, by rw [nA_cg h]; exact n24, fun a ha => ?_⟩
  rw [nA_cg h] at ha
  obtain ⟨e, c16, cv⟩ := hV.2.2 a ha
  rw [clN_cg h (show a < 24 by omega), h.2 (20 + 947 * a + 2) (by omega) (by omega)]
  exact ⟨e, c16, fun c hc => ClV_cg h (by omega) (by omega) (cv c hc)⟩
theorem AW_cg {r r' : Nat → Int32} (h : RwA r r') (hV : AV r) (hW : AW r) : AW r' := by
  have n24 := hV.2.1
  intro a ha c hc
  rw [nA_cg h] at ha
  rw [clN_cg h (show a < 24 by omega)] at hc
  obtain ⟨_, c16, cv⟩ := hV.2.2 a ha
  have b := (cv c hc).ends
  have ha' : a < 24 := by omega
  have hc' : c < 16 := by omega
  have w := hW a ha c hc
  unfold ClW at w ⊢
  rw [h.c0 ha' hc', h.c ha' hc' 1 (by decide), h.c ha' hc' 2 (by decide), h.c ha' hc' 3 (by decide), h.c ha' hc' 4 (by decide), h.c ha' hc' 5 (by decide)]
  refine ⟨w.1, w.2.1, w.2.2.1, w.2.2.2.1, fun q h1 h2 => ?_⟩
  have b1 : cl (r (cA a c + 5)) ≤ 400 := b.1
  rw [(op_cg h ha' (show q + 1 ≤ 400 by omega) q (by omega)).1]
  exact w.2.2.2.2 q h1 h2
/-! what the class keeps of ACTS -/
theorem hdN_cg {r r' : Nat → Int32} (h : RwA r r') {a c : Nat} (ha : a < 24) (hc : c < 16) : hdN r' a c = hdN r a c := by
  unfold hdN; rw [h.c0 ha hc, h.c ha hc 1 (by decide), h.c ha hc 2 (by decide), h.c ha hc 3 (by decide)]
theorem stN_cg {r r' : Nat → Int32} (h : RwA r r') {a c : Nat} (ha : a < 24) (hc : c < 16) : stN r' a c = stN r a c := by
  unfold stN; rw [h.c ha hc 1 (by decide), h.c ha hc 2 (by decide)]
theorem cvv_cg {r r' : Nat → Int32} (h : RwA r r') (hV : AV r) {a c : Nat} {st : Nat → Int32} (ha : a < nA r) (hc : c < clN r a) : cvv r' st a c = cvv r st a c := by
  have n24 := hV.2.1
  have c16 := (hV.2.2 a ha).2.1
  unfold cvv
  rw [hv_cg h hV ha hc, h.c0 (by omega) (by omega), h.c (show a < 24 by omega) (show c < 16 by omega) 1 (by decide)]
theorem ActC_cg {r r' : Nat → Int32} {σ : AH} {a b : Nat} (h : RwA r r') (hV : AV r) (ha : a < nA r) (hA : ActC r σ a b) : ActC r' σ a b := by
  have n24 := hV.2.1
  have c16 := (hV.2.2 a ha).2.1
  have ha' : a < 24 := by omega
  obtain ⟨h1, h2, hh, s, g, d, L, a1, a2, a3, a4, a5, a6⟩ := hA
  unfold ActC
  rw [clN_cg h ha', h.2 (20 + 947 * a) (by omega) (by omega), h.2 (20 + 947 * a + 1) (by omega) (by omega)]
  refine ⟨h1, h2, hh, s, g, d, L, a1, a2, a3, a4, a5, fun c hc => ?_⟩
  obtain ⟨b1, b2', b3, i, b4, b5, b6⟩ := a6 c hc
  have hc' : c < 16 := by omega
  rw [hdN_cg h ha' hc', stN_cg h ha' hc', h.c0 ha' hc']
  exact ⟨b1, b2', b3, i, b4, b5, fun z st => by rw [cvv_cg h hV ha hc]; exact b6 z st⟩
theorem ActsC_cg {r r' : Nat → Int32} {σ : AH} (h : RwA r r') (hV : AV r) (hA : ActsC r σ) : ActsC r' σ := by
  refine ⟨by rw [nA_cg h]; exact hA.1, fun a ha => ?_⟩
  rw [nA_cg h] at ha
  obtain ⟨b, b1, b2'⟩ := hA.2 a ha
  exact ⟨b, b1, ActC_cg h hV ha b2'⟩
theorem fbit_cg {r r' : Nat → Int32} (h : RwA r r') (hV : AV r) {k w : Int32} {a c : Nat} (ha : a < 24) : fbit r' k w a c = fbit r k w a c := by
  unfold fbit; rw [onB_cg h ha, stk_cg h hV]
theorem FdOK_cg {r r' : Nat → Int32} (h : RwA r r') (hV : AV r) {k w : Int32} {g : Nat → Int32} (hF : FdOK r k w g) : FdOK r' k w g := by
  have n24 := hV.2.1
  intro a ha
  rw [nA_cg h] at ha
  obtain ⟨m, m1, m2, m3⟩ := hF a ha
  exact ⟨m, m1, m2, fun c hc => by rw [fbit_cg h hV (by omega)]; exact m3 c hc⟩
theorem mkN_cg {r r' : Nat → Int32} (h : RwA r r') {k w : Int32} : ∀ n, n ≤ 24 → mkN r' k w n = mkN r k w n := by
  intro n
  induction n with
  | zero => intro _; rfl
  | succ n ih => intro hn; unfold mkN; rw [ih (by omega), onB_cg h (show n < 24 by omega)]
theorem CS_cg {r r' : Nat → Int32} {σ : AH} (h : RwA r r') (hV : AV r) (hC : CS r σ) : CS r' σ := by
  have n24 := hV.2.1
  rcases hC with z | ⟨k, w, z1, z2⟩
  · exact Or.inl z
  · exact Or.inr ⟨k, w, by rw [nA_cg h, mkN_cg h _ n24]; exact z1, FdOK_cg h hV z2⟩
theorem okP_cg {r r' : Nat → Int32} (h : RwA r r') (hV : AV r) (p : Nat) : okP r' p = okP r p := by
  have n24 := hV.2.1
  unfold okP
  rw [nA_cg h]
  by_cases c : p / 16 < nA r
  · rw [clN_cg h (show p / 16 < 24 by omega)]
  · rw [decide_eq_false (fun z => c z.1), decide_eq_false (fun z => c z.1)]
theorem hdP_cg {r r' : Nat → Int32} (h : RwA r r') (hV : AV r) {p : Nat} (ok : okP r p = true) : hdP r' p = hdP r p := by
  have n24 := hV.2.1
  have z := of_decide_eq_true ok
  have c16 := (hV.2.2 _ z.1).2.1
  unfold hdP
  exact hdN_cg h (by omega) (by omega)
theorem prv_cg {r r' : Nat → Int32} (h : RwA r r') (hV : AV r) {hd : Nat} : ∀ p, prv r' hd p = prv r hd p := by
  intro p
  induction p with
  | zero => rfl
  | succ p ih =>
    unfold prv
    rw [okP_cg h hV, ih]
    by_cases c : okP r p = true
    · rw [hdP_cg h hV c]
    · rw [if_neg (fun z => c z.1), if_neg (fun z => c z.1)]
theorem ChnOK_cg {r r' : Nat → Int32} {σ : AH} (h : RwA r r') (hV : AV r) (hC : ChnOK r σ) : ChnOK r' σ := by
  refine ⟨fun hd hh => by rw [prv_cg h hV]; exact hC.1 hd hh, fun p hp ok => ?_⟩
  rw [okP_cg h hV] at ok
  rw [prv_cg h hV, hdP_cg h hV ok]; exact hC.2 p hp ok
theorem LwI_cg {r r' : Nat → Int32} {σ : AH} (h : RwA r r') (hV : AV r) (hL : LwI r σ) : LwI r' σ := ⟨ActsC_cg h hV hL.1, CS_cg h hV hL.2.1, ChnOK_cg h hV hL.2.2⟩
/-! what the reference keeps of a WEEK of knowing -/
theorem needV_cg {r r' : Nat → Int32} (h : RwA r r') (hV : AV r) (k : Int32) (kn sg mt rm w : Nat) : needV r' k kn sg mt rm w = needV r k kn sg mt rm w := by
  unfold needV; rw [fd_cg h hV, fd_cg h hV]
theorem firstV_cg {r r' : Nat → Int32} (h : RwA r r') (hV : AV r) (k : Int32) (w : Nat) : firstV r' k w = firstV r k w := by
  unfold firstV; rw [fd_cg h hV]
theorem cnV_cg {r r' : Nat → Int32} (h : RwA r r') (hV : AV r) (k w rr H K S T : Int32) : cnV r' k w rr H K S T = cnV r k w rr H K S T := by
  unfold cnV; rw [fd_cg h hV]
theorem KI_cg {r r' : Nat → Int32} {k : Int32} {σ τ : AH} {cs : List Nat} {fs : List (Nat × Nat)} (h : RwA r r') (hV : AV r) (hK : KI r k σ) (hr : gI τ 125 = r') (c : Ch cs fs σ τ) (h1 : ∀ i ∈ cs, i ≠ 124 ∧ i ≠ 134 ∧ i ≠ 135 ∧ i ≠ 138 ∧ i ≠ 139) (h2 : ∀ q ∈ fs, q ≠ (124, 23) ∧ q ≠ (124, 24) ∧ q.1 ≠ 134 ∧ q.1 ≠ 135 ∧ q.1 ≠ 138 ∧ q.1 ≠ 139) : KI r' k τ := by
  have n24 := hV.2.1
  obtain ⟨_, k1, k2, k3, k4⟩ := hK
  have e23 : gI τ 124 23 = gI σ 124 23 := c.pI (fun z => (h1 _ z).1 rfl) (fun z => (h2 _ z).1 rfl)
  have e24 : gI τ 124 24 = gI σ 124 24 := c.pI (fun z => (h1 _ z).1 rfl) (fun z => (h2 _ z).2.1 rfl)
  have e134 : gI τ 134 = gI σ 134 := c.rI (fun z => (h1 _ z).2.1 rfl) (fun q hq => (h2 q hq).2.2.1)
  have e135 : gI τ 135 = gI σ 135 := c.rI (fun z => (h1 _ z).2.2.1 rfl) (fun q hq => (h2 q hq).2.2.2.1)
  have e138 : gI τ 138 = gI σ 138 := c.rI (fun z => (h1 _ z).2.2.2.1 rfl) (fun q hq => (h2 q hq).2.2.2.2.1)
  have e139 : gI τ 139 = gI σ 139 := c.rI (fun z => (h1 _ z).2.2.2.2 rfl) (fun q hq => (h2 q hq).2.2.2.2.2)
  refine ⟨hr, by rw [e23]; exact k1, ?_, ?_, ?_⟩
  · unfold FI FOK at k2 ⊢
    rw [e24, e134, e135, nA_cg h, stk_cg h hV]
    rcases k2 with z | z
    · exact Or.inl z
    · exact Or.inr ⟨fun a ha => by rw [onB_cg h (by omega)]; exact z.1 a ha, z.2⟩
  · intro kn sg mt rm w a1 a2 a3 a4 a5 a6
    rw [e138, needV_cg h hV]; exact k3 kn sg mt rm w a1 a2 a3 a4 a5 a6
  · intro w hw
    rw [e139, firstV_cg h hV]; exact k4 w hw
end
