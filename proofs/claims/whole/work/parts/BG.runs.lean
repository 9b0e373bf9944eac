section
/-! rows that agree in all that a RUN asks have one RUN -/
theorem nD_cg {r r' : Nat → Int32} (h : RwB r r') : nD r' = nD r := by unfold nD; rw [h.1 1 (by decide)]
theorem nW_cg {r r' : Nat → Int32} (h : RwB r r') : nW r' = nW r := by unfold nW; rw [h.1 2 (by decide)]
theorem nG_cg {r r' : Nat → Int32} (h : RwB r r') : nG r' = nG r := by unfold nG; rw [h.1 3 (by decide)]
theorem nP_cg {r r' : Nat → Int32} (h : RwB r r') : nP r' = nP r := by unfold nP; rw [h.1 4 (by decide)]
theorem nS_cg {r r' : Nat → Int32} (h : RwB r r') : nS r' = nS r := by unfold nS; rw [h.1 5 (by decide)]
theorem dv_cg {r r' : Nat → Int32} (h : RwB r r') {d j : Nat} (hd : d < 120) (hj : j < 4) : dv r' d j = dv r d j := h.2 _ (by omega) (by omega)
theorem wk_cg {r r' : Nat → Int32} (h : RwB r r') {d j : Nat} (hd : d < 8) (hj : j < 8) : wk r' d j = wk r d j := h.2 _ (by omega) (by omega)
theorem ga_cg {r r' : Nat → Int32} (h : RwB r r') {d j : Nat} (hd : d < 60) (hj : j < 4) : ga r' d j = ga r d j := h.2 _ (by omega) (by omega)
theorem pl_cg {r r' : Nat → Int32} (h : RwB r r') {d j : Nat} (hd : d < 30) (hj : j < 4) : pl r' d j = pl r d j := h.2 _ (by omega) (by omega)
theorem sa_cg {r r' : Nat → Int32} (h : RwB r r') {d j : Nat} (hd : d < 60) (hj : j < 3) : sa r' d j = sa r d j := h.2 _ (by omega) (by omega)
theorem pC_cg {r r' : Nat → Int32} (h : RwB r r') {p : Nat} (hp : p < 30) : pC r' p = pC r p := by unfold pC; rw [pl_cg h hp (by decide)]
theorem pK_cg {r r' : Nat → Int32} (h : RwB r r') {p : Nat} (hp : p < 30) : pK r' p = pK r p := by unfold pK; rw [pl_cg h hp (by decide)]
theorem pR_cg {r r' : Nat → Int32} (h : RwB r r') {p : Nat} (hp : p < 30) : pR r' p = pR r p := by unfold pR; rw [pl_cg h hp (by decide)]
theorem pL_cg {r r' : Nat → Int32} (h : RwB r r') {p : Nat} (hp : p < 30) : pL r' p = pL r p := by unfold pL; rw [pl_cg h hp (by decide)]
theorem BV_cg {r r' : Nat → Int32} (h : RwB r r') (hB : BV r) : BV r' := by
  have b1 := hB.d.2.1
  have b2' := hB.w.2.1
  have b3 := hB.g.2.1
  have b4 := hB.p.2.1
  have b5 := hB.s.2.1
  obtain ⟨⟨d1, d2⟩, ⟨w1, w2⟩, ⟨g1, g2⟩, ⟨p1, p2⟩, ⟨s1, s2⟩⟩ := hB
  refine ⟨⟨by rw [h.1 1 (by decide)]; exact d1, fun d hd => ?_⟩, ⟨by rw [h.1 2 (by decide)]; exact w1, fun d hd => ?_⟩, ⟨by rw [h.1 3 (by decide)]; exact g1, fun d hd => ?_⟩, ⟨by rw [h.1 4 (by decide)]; exact p1, fun d hd => ?_⟩, ⟨by rw [h.1 5 (by decide)]; exact s1, fun d hd => ?_⟩⟩
  · rw [nD_cg h] at hd
    rw [dv_cg h (by omega) (by decide), dv_cg h (by omega) (by decide), dv_cg h (by omega) (by decide), dv_cg h (by omega) (by decide)]; exact d2 d hd
  · rw [nW_cg h] at hd
    rw [wk_cg h (by omega) (by decide), wk_cg h (by omega) (by decide), wk_cg h (by omega) (by decide), wk_cg h (by omega) (by decide), wk_cg h (by omega) (by decide), wk_cg h (by omega) (by decide), wk_cg h (by omega) (by decide), wk_cg h (by omega) (by decide)]; exact w2 d hd
  · rw [nG_cg h] at hd
    rw [ga_cg h (by omega) (by decide), ga_cg h (by omega) (by decide), ga_cg h (by omega) (by decide), ga_cg h (by omega) (by decide)]; exact g2 d hd
  · rw [nP_cg h] at hd
    rw [pl_cg h (by omega) (by decide), pl_cg h (by omega) (by decide), pl_cg h (by omega) (by decide), pl_cg h (by omega) (by decide)]; exact p2 d hd
  · rw [nS_cg h] at hd
    rw [nP_cg h, sa_cg h (by omega) (by decide), sa_cg h (by omega) (by decide), sa_cg h (by omega) (by decide)]; exact s2 d hd
theorem sO_cg {r r' : Nat → Int32} (h : RwB r r') {k : Int32} {p : Nat} : ∀ m, m ≤ 60 → sO r' k p m = sO r k p m := by
  intro m
  induction m with
  | zero => intro _; rfl
  | succ m ih =>
    intro hm
    unfold sO
    rw [ih (by omega), sa_cg h (show m < 60 by omega) (show 0 < 3 by decide), sa_cg h (show m < 60 by omega) (show 1 < 3 by decide), sa_cg h (show m < 60 by omega) (show 2 < 3 by decide)]
theorem sw_cg {r r' : Nat → Int32} (h : RwB r r') (hB : BV r) (k : Int32) : sw r' k = sw r k := funext fun p => by
  unfold sw; rw [nS_cg h]; exact sO_cg h _ hB.s.2.1
theorem sameB_cg {r r' : Nat → Int32} (h : RwB r r') {s : Nat → Option Nat} {p o : Nat} (hp : p < 30) (ho : o < 30) : sameB r' s p o = sameB r s p o := by
  unfold sameB; rw [pC_cg h hp, pC_cg h ho, pK_cg h hp, pK_cg h ho]
theorem ahC_cg {r r' : Nat → Int32} (h : RwB r r') {s : Nat → Option Nat} {p : Nat} (hp : p < 30) : ∀ m, m ≤ 30 → ahC r' s p m = ahC r s p m := by
  intro m
  induction m with
  | zero => intro _; rfl
  | succ m ih => intro hm; unfold ahC; rw [ih (by omega), sameB_cg h hp (show m < 30 by omega)]
theorem lcQ_cg {r r' : Nat → Int32} (h : RwB r r') (hV : AV r) (k : Int32) (kn q : Nat) : lcQ r' k kn q = lcQ r k kn q := fd_cg h.a hV _ _ _ _ _ _ _
theorem lic_cg {r r' : Nat → Int32} (h : RwB r r') (hV : AV r) (hB : BV r) {k : Int32} {s : Nat → Option Nat} {p : Nat} (hp : p < 30) : lic r' k s p = lic r k s p := by
  unfold lic
  cases s p with
  | none => rfl
  | some w => show (if _ then _ else _) = (if _ then _ else _); rw [lcQ_cg h hV, pK_cg h hp, nP_cg h, ahC_cg h hp _ hB.p.2.1]
theorem dvA_cg {r r' : Nat → Int32} (h : RwB r r') {k l w : Int32} {d : Nat} (hd : d < 120) : dvA r' k l w d = dvA r k l w d := by
  unfold dvA; rw [dv_cg h hd (show 0 < 4 by decide), dv_cg h hd (show 1 < 4 by decide), dv_cg h hd (show 2 < 4 by decide), dv_cg h hd (show 3 < 4 by decide)]
theorem dvS_cg {r r' : Nat → Int32} (h : RwB r r') {k l w : Int32} {s : Nat → Int32} : ∀ d, d ≤ 120 → dvS r' k l w s d = dvS r k l w s d := by
  intro d
  induction d with
  | zero => intro _; rfl
  | succ d ih => intro hd; unfold dvS; rw [ih (by omega), dvA_cg h (show d < 120 by omega), dv_cg h (show d < 120 by omega) (show 0 < 4 by decide)]
theorem wkD_cg {r r' : Nat → Int32} (h : RwB r r') {w : Int32} {i : Nat} {s : Nat → Int32} (hi : i < 8) : wkD r' w i s = wkD r w i s := by
  have e : ∀ j, j < 8 → wk r' i j = wk r i j := fun j hj => wk_cg h hi hj
  have n1 : wkN1 r' i = wkN1 r i := by unfold wkN1; rw [e 0 (by decide), e 1 (by decide), e 2 (by decide), e 3 (by decide)]
  have n2 : wkN2 r' i = wkN2 r i := by unfold wkN2; rw [e 0 (by decide), e 2 (by decide), e 3 (by decide)]
  have b1 : wkB1 r' i s = wkB1 r i s := by unfold wkB1; rw [n1, e 6 (by decide), e 0 (by decide)]
  have b : wkB r' i s = wkB r i s := by unfold wkB; rw [n2, b1, e 2 (by decide)]
  have u1 : wkU1 r' i s = wkU1 r i s := by unfold wkU1; rw [b, n1, e 0 (by decide)]
  have u2 : wkU2 r' i s = wkU2 r i s := by unfold wkU2; rw [u1, b, n2, e 2 (by decide)]
  unfold wkD
  rw [u2, b, e 4 (by decide), e 5 (by decide), e 7 (by decide)]
theorem wkS_cg {r r' : Nat → Int32} (h : RwB r r') {w : Int32} {s : Nat → Int32} : ∀ d, d ≤ 8 → wkS r' w s d = wkS r w s d := by
  intro d
  induction d with
  | zero => intro _; rfl
  | succ d ih => intro hd; unfold wkS; rw [ih (by omega), wkD_cg h (show d < 8 by omega)]
theorem ggS_cg {r r' : Nat → Int32} (h : RwB r r') {k c w : Int32} : ∀ d, d ≤ 60 → ggS r' k c w d = ggS r k c w d := by
  intro d
  induction d with
  | zero => intro _; rfl
  | succ d ih =>
    intro hd
    unfold ggS
    rw [ih (by omega), ga_cg h (show d < 60 by omega) (show 0 < 4 by decide), ga_cg h (show d < 60 by omega) (show 1 < 4 by decide), ga_cg h (show d < 60 by omega) (show 2 < 4 by decide), ga_cg h (show d < 60 by omega) (show 3 < 4 by decide)]
theorem gg_cg {r r' : Nat → Int32} (h : RwB r r') (hB : BV r) (k c w : Int32) : gg r' k c w = gg r k c w := by
  unfold gg; rw [nG_cg h, ggS_cg h _ hB.g.2.1]
theorem nee_cg {r r' : Nat → Int32} (h : RwB r r') (hV : AV r) {k : Int32} {w p st m : Nat} (hp : p < 30) : nee r' k w p st m = nee r k w p st m := by
  unfold nee; rw [needV_cg h.a hV, pK_cg h hp, pR_cg h hp]
theorem ctS_cg {r r' : Nat → Int32} (h : RwB r r') (hV : AV r) {k : Int32} {w p : Nat} {R : Nat → Nat → Int32} (hp : p < 30) : ∀ m, ctS r' k w p R m = ctS r k w p R m := by
  intro m
  induction m with
  | zero => rfl
  | succ m ih => unfold ctS; rw [ih, nee_cg h hV hp]
theorem toR_cg {r r' : Nat → Int32} (h : RwB r r') (hV : AV r) {k : Int32} {w p : Nat} {R : Nat → Nat → Int32} (hp : p < 30) : toR r' k w p R = toR r k w p R := by
  have t : ∀ m, tkS r' k w p R m = tkS r k w p R m := by
    intro m
    induction m with
    | zero => rfl
    | succ m ih => unfold tkS; rw [ih, nee_cg h hV hp]
  unfold toR
  rw [t, nee_cg h hV hp]
theorem gaR_cg {r r' : Nat → Int32} (h : RwB r r') {w p : Nat} {R : Nat → Nat → Int32} (hp : p < 30) : gaR r' w p R = gaR r w p R := by
  unfold gaR gaR1; rw [pC_cg h hp]
theorem gpS_cg {r r' : Nat → Int32} (h : RwB r r') (hV : AV r) {k : Int32} {w p : Nat} (hp : p < 30) : ∀ f R, gpS r' k w p f R = gpS r k w p f R := by
  intro f
  induction f with
  | zero => intro R; rfl
  | succ f ih => intro R; unfold gpS; rw [ctS_cg h hV hp, toR_cg h hV hp, ih, gaR_cg h hp, gaR_cg h hp]
theorem gpR_cg {r r' : Nat → Int32} (h : RwB r r') (hV : AV r) {k : Int32} {w p : Nat} (hp : p < 30) (R : Nat → Nat → Int32) : gpR r' k w p R = gpR r k w p R := by
  unfold gpR; exact gpS_cg h hV hp _ R
theorem gwF_c {r : Nat → Int32} {k : Int32} {w p : Nat} {L : List Nat} {R : Nat → Nat → Int32} : gwF r k w (p :: L) R = gwF r k w L (gpR r k w p R) := by
  unfold gwF; rw [List.foldl_cons]
theorem gwF_cg {r r' : Nat → Int32} (h : RwB r r') (hV : AV r) {k : Int32} {w : Nat} : ∀ (L : List Nat), (∀ p, p ∈ L → p < 30) → ∀ R, gwF r' k w L R = gwF r k w L R := by
  intro L
  induction L with
  | nil => intro _ R; unfold gwF; rw [List.foldl_nil, List.foldl_nil]
  | cons p L ih =>
    intro hL R
    rw [gwF_c, gwF_c, gpR_cg h hV (hL p (List.mem_cons_self ..)), ih (fun q hq => hL q (List.mem_cons_of_mem _ hq))]
theorem insR_cg {ah ah' : Nat → Bool} {p : Nat} : ∀ (L : List Nat), (∀ x, x ∈ L → ah' x = ah x) → insR ah' p L = insR ah p L := by
  intro L
  induction L with
  | nil => intro _; rfl
  | cons x t ih =>
    intro hL
    have e : ∀ f : Nat → Bool, insR f p (x :: t) = if f x = true then x :: insR f p t else p :: x :: t := fun _ => rfl
    rw [e, e, hL x (List.mem_cons_self ..), ih (fun y hy => hL y (List.mem_cons_of_mem _ hy))]
theorem ahB_cg {r r' : Nat → Int32} (h : RwB r r') {s : Nat → Option Nat} {fi : Int32} {p x : Nat} (hp : p < 30) (hx : x < 30) : ahB r' s fi p x = ahB r s fi p x := by
  unfold ahB; rw [pK_cg h hp, pK_cg h hx]
theorem onP_cg {r r' : Nat → Int32} (h : RwB r r') {s : Nat → Option Nat} {lc lc' : Nat → Bool} (hl : ∀ p, p < 30 → lc' p = lc p) {R : Nat → Nat → Int32} {w p : Nat} (hp : p < 30) : onP r' s lc' R w p = onP r s lc R w p := by
  unfold onP; rw [hl p hp, pL_cg h hp]
theorem ordS_cg {r r' : Nat → Int32} (h : RwB r r') {s : Nat → Option Nat} {lc lc' : Nat → Bool} (hl : ∀ p, p < 30 → lc' p = lc p) {R : Nat → Nat → Int32} {w : Nat} {fi : Int32} : ∀ p, p ≤ 30 → ordS r' s lc' R w fi p = ordS r s lc R w fi p := by
  intro p
  induction p with
  | zero => intro _; rfl
  | succ p ih =>
    intro hp
    unfold ordS
    rw [onP_cg h hl (show p < 30 by omega), ih (by omega), insR_cg _ (fun x hx => ahB_cg h (show p < 30 by omega) (by have := ordS_mem _ x hx; omega))]
theorem gwR_cg {r r' : Nat → Int32} (h : RwB r r') (hV : AV r) (hB : BV r) {k l : Int32} {s : Nat → Option Nat} {lc lc' : Nat → Bool} (hl : ∀ p, p < 30 → lc' p = lc p) {w : Nat} {R : Nat → Nat → Int32} : gwR r' k l s lc' w R = gwR r k l s lc w R := by
  have b30 := hB.p.2.1
  unfold gwR
  have e : (fun c => gg r' k (nI c) (nI w)) = fun c => gg r k (nI c) (nI w) := funext fun c => gg_cg h hB _ _ _
  rw [nP_cg h, nD_cg h, nW_cg h, e, firstV_cg h.a hV, ordS_cg h hl _ b30, dvS_cg h _ hB.d.2.1, wkS_cg h _ hB.w.2.1, gwF_cg h hV _ (fun p hp => by have := ordS_mem _ p (List.mem_reverse.mp hp); omega)]
theorem rnS_cg {r r' : Nat → Int32} (h : RwB r r') (hV : AV r) (hB : BV r) {k l : Int32} {s : Nat → Option Nat} {lc lc' : Nat → Bool} (hl : ∀ p, p < 30 → lc' p = lc p) {a : Nat} {R : Nat → Nat → Int32} : ∀ j, rnS r' k l s lc' a R j = rnS r k l s lc a R j := by
  intro j
  induction j with
  | zero => rfl
  | succ j ih => unfold rnS; rw [ih, gwR_cg h hV hB hl]
theorem rw_cg {r r' : Nat → Int32} (h : RwB r r') (hV : AV r) (hB : BV r) (k : Int32) (l : Nat) (s : Nat → Option Nat) (n : Nat) : rw_ r' k l s n = rw_ r k l s n := by
  unfold rw_; exact rnS_cg h hV hB (fun p hp => lic_cg h hV hB hp) n
theorem runR_cg {r r' : Nat → Int32} (h : RwB r r') (hV : AV r) (hB : BV r) (k l : Int32) (n : Nat) : runR r' k l n = runR r k l n := by
  unfold runR; rw [sw_cg h hB]; exact rnS_cg h hV hB (fun p hp => lic_cg h hV hB hp) n
theorem knD_cg {r r' : Nat → Int32} (h : RwB r r') (hV : AV r) (hB : BV r) (k l : Int32) (p : Nat) : knD r' k l p = knD r k l p := by
  unfold knD; rw [runR_cg h hV hB]
theorem gtS_cg {x x' : Nat → Int32} {k : Int32} : ∀ n, (∀ d, d < n → x' d = x d) → gtS x' k n = gtS x k n := by
  intro n
  induction n with
  | zero => intro _; rfl
  | succ n ih => intro hx; unfold gtS; rw [ih (fun d hd => hx d (by omega)), hx n (by omega)]
theorem ltK_cg {r r' : Nat → Int32} (h : RwB r r') (hV : AV r) (hB : BV r) (k : Int32) : ltK r' k = ltK r k := by
  have b0 := hV.2.1
  have b1 := hB.d.2.1
  have b3 := hB.g.2.1
  have b5 := hB.s.2.1
  unfold ltK
  rw [nA_cg h.a, nD_cg h, nG_cg h, nS_cg h, gtS_cg (nA r) (x := akR r) (x' := akR r') (fun d hd => h.2 _ (by omega) (by omega)), gtS_cg (nD r) (x := fun d => r (22748 + (d * 4 + 3))) (x' := fun d => r' (22748 + (d * 4 + 3))) (fun d hd => h.2 _ (by omega) (by omega)), gtS_cg (nG r) (x := fun d => r (23292 + (d * 4 + 3))) (x' := fun d => r' (23292 + (d * 4 + 3))) (fun d hd => h.2 _ (by omega) (by omega)), gtS_cg (nS r) (x := fun d => r (23652 + (d * 3 + 2))) (x' := fun d => r' (23652 + (d * 3 + 2))) (fun d hd => h.2 _ (by omega) (by omega))]
/-! what the class keeps of RUNS -/
theorem Tb_cg {r r' : Nat → Int32} {σ : AH} {t nb B wd mst : Nat} (hT : Tb r σ t nb B wd mst) (e0 : r' nb = r nb) (e1 : ∀ i, i < mst * wd → r' (B + i) = r (B + i)) : Tb r' σ t nb B wd mst := by
  obtain ⟨a, ⟨b1, b2', b3, b4⟩, b, L, c1, c2, ⟨c3, c4⟩, c5, c6⟩ := hT
  unfold Tb
  rw [e0]
  exact ⟨a, ⟨b1, b2', b3, b4⟩, b, L, c1, c2, ⟨c3, c4⟩, c5, fun i hi => by rw [e1 i (by omega)]; exact c6 i hi⟩
theorem TbB_cg {r r' : Nat → Int32} {σ : AH} (h : RwB r r') (hT : TbB r σ) : TbB r' σ :=
  ⟨Tb_cg hT.1 (h.1 1 (by decide)) (fun i hi => h.2 _ (by omega) (by omega)), Tb_cg hT.2.1 (h.1 2 (by decide)) (fun i hi => h.2 _ (by omega) (by omega)), Tb_cg hT.2.2.1 (h.1 3 (by decide)) (fun i hi => h.2 _ (by omega) (by omega)), Tb_cg hT.2.2.2.1 (h.1 4 (by decide)) (fun i hi => h.2 _ (by omega) (by omega)), Tb_cg hT.2.2.2.2 (h.1 5 (by decide)) (fun i hi => h.2 _ (by omega) (by omega))⟩
theorem arS_cg {r r' : Nat → Int32} (h : RwB r r') {k l : Int32} {w m : Nat} : ∀ d, d ≤ 120 → arS r' k l w m d = arS r k l w m d := by
  intro d
  induction d with
  | zero => intro _; rfl
  | succ d ih => intro hd; unfold arS; rw [ih (by omega), dvA_cg h (show d < 120 by omega), dv_cg h (show d < 120 by omega) (show 0 < 4 by decide)]
theorem LcC_cg {r r' : Nat → Int32} (h : RwA r r') (hV : AV r) {k : Int32} {g : Nat → Int32} (hc : LcC r k g) : LcC r' k g := fun q kn h1 h2 => by rw [cnV_cg h hV]; exact hc q kn h1 h2
theorem FsC_cg {r r' : Nat → Int32} (h : RwA r r') (hV : AV r) {k : Int32} {g : Nat → Int32} (hc : FsC r k g) : FsC r' k g := fun w hw => by rw [cnV_cg h hV]; exact hc w hw
theorem NdC_cg {r r' : Nat → Int32} (h : RwA r r') (hV : AV r) {k : Int32} {gw gn : Nat → Int32} (hc : NdC r k gw gn) : NdC r' k gw gn := fun d kn sg rm h1 h2 h3 h4 h5 => by
  rcases hc d kn sg rm h1 h2 h3 h4 h5 with z | ⟨w, w1, w2, w3, w4⟩
  · exact Or.inl z
  · exact Or.inr ⟨w, w1, w2, w3, fun m hm => by rw [needV_cg h hV]; exact w4 m hm⟩
theorem YdI_cg {r r' : Nat → Int32} (h : RwB r r') (hV : AV r) (hB : BV r) {k : Int32} {l : Nat} {s : Nat → Option Nat} {σ : AH} (hY : YdI r k l s σ) : YdI r' k l s σ := by
  obtain ⟨y1, y2, y3, y4, y5, y6, y7⟩ := hY
  refine ⟨y1, fun w m hw hm => ?_, fun w c hw hc => by rw [gg_cg h hB]; exact y3 w c hw hc, y4, LcC_cg h.a hV y5, FsC_cg h.a hV y6, NdC_cg h.a hV y7⟩
  rw [nD_cg h, arS_cg h _ hB.d.2.1]; exact y2 w m hw hm
theorem YcI_cg {r r' : Nat → Int32} (h : RwB r r') (hV : AV r) (hB : BV r) {σ : AH} (hY : YcI r σ) : YcI r' σ := ⟨hY.1, fun e l' h1 h2 => by
  rw [sw_cg h hB]; exact YdI_cg h hV hB (hY.2 e l' h1 h2)⟩
theorem linP_cg {s : Nat → Option Nat} {lc lc' : Nat → Bool} (hl : ∀ p, p < 30 → lc' p = lc p) {w : Nat} : ∀ n, n ≤ 30 → linP s lc' w n = linP s lc w n := by
  intro n
  induction n with
  | zero => intro _; rfl
  | succ n ih => intro hn; rw [linP_s, linP_s, hl n (by omega), ih (by omega)]
theorem linW_cg {s : Nat → Option Nat} {lc lc' : Nat → Bool} (hl : ∀ p, p < 30 → lc' p = lc p) {N : Nat} (hN : N ≤ 30) : ∀ w, linW N s lc' w = linW N s lc w := by
  intro w
  induction w with
  | zero => rfl
  | succ w ih => rw [linW_s, linW_s, ih, linP_cg hl _ hN]
theorem usN_cg {r r' : Nat → Int32} (h : RwB r r') (hV : AV r) (hB : BV r) {k : Int32} {s : Nat → Option Nat} {w n c kn : Nat} : usN r' k s w n c kn = usN r k s w n c kn := by
  have b30 := hB.p.2.1
  have e : agN r' s w n c kn = agN r s w n c kn := by
    unfold agN
    rw [nP_cg h]
    exact cnt_congr _ (fun o ho => by unfold agB; rw [pC_cg h (show o < 30 by omega), pK_cg h (show o < 30 by omega)])
  unfold usN
  rw [lcQ_cg h hV, e]
theorem LiL_cg {r r' : Nat → Int32} (h : RwB r r') (hV : AV r) (hB : BV r) {k : Int32} {s : Nat → Option Nat} {b w : Nat} {σ : AH} (hL : LiL r k s b w 0 σ) : LiL r' k s b w 0 σ := by
  have b30 := hB.p.2.1
  have hl : ∀ p, p < 30 → lic r' k s p = lic r k s p := fun p hp => lic_cg h hV hB hp
  have e : lin (nP r) s (lic r' k s) w 0 = lin (nP r) s (lic r k s) w 0 := by
    unfold lin; rw [linW_cg hl b30, linP_cg hl _ (by omega)]
  unfold LiL at hL ⊢
  rw [nP_cg h, e]
  refine ⟨hL.1, hL.2.1, fun p hp => ?_⟩
  have : stB s (lic r' k s) w 0 p = stB s (lic r k s) w 0 p := by unfold stB; rw [hl p (by omega)]
  rw [this]; exact hL.2.2 p hp
theorem SiI_cg {r r' : Nat → Int32} (h : RwB r r') (hV : AV r) (hB : BV r) {k : Int32} {s : Nat → Option Nat} {b w : Nat} {R : Nat → Nat → Int32} {σ : AH} (hS : SiI r k s b w R σ) : SiI r' k s b w R σ := by
  obtain ⟨s1, s2, s3, s4, s5, s6⟩ := hS
  refine ⟨?_, s2, s3, ?_, LiL_cg h hV hB s5, ?_⟩
  · unfold StR at s1 ⊢; rw [nP_cg h]; exact s1
  · unfold BgI at s4 ⊢; rw [nP_cg h]; exact s4
  · rcases s6 with z | z
    · exact Or.inl z
    · exact Or.inr (fun c kn hc hk => by rw [usN_cg h hV hB]; exact z c kn hc hk)
theorem RnI_cg {r r' : Nat → Int32} (h : RwB r r') (hV : AV r) (hB : BV r) {k : Int32} {l : Nat} {s : Nat → Option Nat} {a n : Nat} {σ : AH} (hR : RnI r k l s a n σ) : RnI r' k l s a n σ := by
  have b30 := hB.p.2.1
  have hl : ∀ p, p < 30 → lic r' k s p = lic r k s p := fun p hp => lic_cg h hV hB hp
  obtain ⟨r1, r2, r3, r4⟩ := hR
  refine ⟨by rw [rw_cg h hV hB]; exact SiI_cg h hV hB r1, fun w m hw hm => by rw [rw_cg h hV hB]; exact r2 w m hw hm, r3, fun w hw x hx hp => ?_⟩
  rw [nP_cg h, linW_cg hl b30] at hx
  have lx := (linW_mem _ x).mp hx
  rw [pL_cg h (by omega)] at hp
  rw [rw_cg h hV hB]
  exact r4 w hw x hx hp
theorem RcI_cg {r r' : Nat → Int32} (h : RwB r r') (hV : AV r) (hB : BV r) {a : Nat} {σ : AH} (hR : RcI r a σ) : RcI r' a σ := ⟨hR.1, fun e l' h1 h2 => by
  rw [sw_cg h hB]; exact RnI_cg h hV hB (hR.2 e l' h1 h2)⟩
theorem RgI_cg {r r' : Nat → Int32} (h : RwB r r') (hV : AV r) (hB : BV r) {σ : AH} (hR : RgI r σ) : RgI r' σ :=
  ⟨TbB_cg h hR.1, LwI_cg h.a hV hR.2.1, YcI_cg h hV hB hR.2.2.1, RcI_cg h hV hB hR.2.2.2.1, RcI_cg h hV hB hR.2.2.2.2⟩
theorem BfI_cg {r r' : Nat → Int32} (h : RwB r r') (hV : AV r) (hB : BV r) {σ : AH} (hR : BfI r σ) : BfI r' σ := ⟨hR.1, fun e q hq h2 => by
  have ek : kL r' q = kL r q := by unfold kL; exact ltK_cg h hV hB _
  have es : sQ r' q = sQ r q := by unfold sQ; rw [ek, sw_cg h hB]
  have eb : bR r' q = bR r q := by unfold bR; rw [ek, es, rw_cg h hV hB]
  rw [ek, es, eb]
  exact SiI_cg h hV hB (hR.2 e q hq h2)⟩
/-! HOMES -/
theorem heW_cg {r r' : Nat → Int32} (h : RwB r r') (hV : AV r) (hB : BV r) {k : Int32} {p : Nat} (hp : p < 30) : heW r' k p = heW r k p := by
  unfold heW huW; rw [knD_cg h hV hB, pK_cg h hp, fd_cg h.a hV]
theorem hdW_cg {r r' : Nat → Int32} (h : RwB r r') (hV : AV r) (hB : BV r) {k : Int32} {p : Nat} : hdW r' k p = hdW r k p := by
  unfold hdW; rw [knD_cg h hV hB]
theorem ceW_cg {r r' : Nat → Int32} (h : RwB r r') (hV : AV r) (hB : BV r) {k : Int32} {p : Nat} (hp : p < 30) : ceW r' k p = ceW r k p := by
  unfold ceW; rw [knD_cg h hV hB, pK_cg h hp, cnV_cg h.a hV]
theorem hoB_cg {r r' : Nat → Int32} (h : RwB r r') (hV : AV r) (hB : BV r) {k : Int32} {p w : Nat} (hp : p < 30) : hoB r' k p w = hoB r k p w := by
  unfold hoB; rw [knD_cg h hV hB, heW_cg h hV hB hp]
theorem loW_cg {r r' : Nat → Int32} (h : RwB r r') (hV : AV r) (hB : BV r) {k : Int32} {p w : Nat} (hp : p < 30) : loW r' k p w = loW r k p w := by
  unfold loW dnB; rw [knD_cg h hV hB, ceW_cg h hV hB hp]
/-! ENTRIES -/
theorem nE_cg {r r' : Nat → Int32} (h : RwE r r') : nE r' = nE r := by unfold nE; rw [h.1]
theorem en_cg {r r' : Nat → Int32} (h : RwE r r') {e j : Nat} (he : e < 60) (hj : j < 10) : en r' e j = en r e j := h.2 _ (by omega) (by omega)
theorem EV_cg {r r' : Nat → Int32} (h : RwE r r') (hE : EV r) : EV r' := by
  have n60 := hE.n.2
  refine ⟨by rw [h.1]; exact hE.1, fun e he => ?_⟩
  rw [nE_cg h] at he
  have he' : e < 60 := by omega
  obtain ⟨e0, e1, e2, e3, e4, e5, e6, e7⟩ := hE.2 e he
  rw [en_cg h he' (show 0 < 10 by decide), en_cg h he' (show 1 < 10 by decide), en_cg h he' (show 2 < 10 by decide), en_cg h he' (show 3 < 10 by decide), en_cg h he' (show 4 < 10 by decide), en_cg h he' (show 5 < 10 by decide), en_cg h he' (show 6 < 10 by decide)]
  exact ⟨e0, e1, e2, e3, e4, e5, e6, fun m h1 h2 => by rw [en_cg h he' h2]; exact e7 m h1 h2⟩
theorem TbE_cg {r r' : Nat → Int32} {σ : AH} (h : RwE r r') (hT : TbE r σ) : TbE r' σ := Tb_cg hT h.1 (fun i hi => h.2 _ (by omega) (by omega))
theorem knE_cg {r r' : Nat → Int32} (h : RwE r r') {k : Int32} {e : Nat} (he : e < 60) : knE r' k e = knE r k e := by unfold knE; rw [en_cg h he (by decide)]
theorem alk_cg {r r' : Nat → Int32} (h : RwE r r') {a b : Nat} (ha : a < 60) (hb : b < 60) : alk r' a b = alk r a b := by
  have e : ∀ m, m ≤ 3 → smN r' a b m = smN r a b m ∧ unN r' a b m = unN r a b m := by
    intro m
    induction m with
    | zero => intro _; exact ⟨rfl, rfl⟩
    | succ m ih =>
      intro hm
      unfold smN unN
      rw [(ih (by omega)).1, (ih (by omega)).2, en_cg h ha (show 7 + m < 10 by omega), en_cg h hb (show 7 + m < 10 by omega)]
      exact ⟨rfl, rfl⟩
  unfold alk
  rw [(e 3 (by decide)).1, (e 3 (by decide)).2]
theorem FmF_cg {r r' : Nat → Int32} (h : RwE r r') (hE : EV r) {k : Int32} {f : Nat → Int32} (hF : FmF r k f) : FmF r' k f := by
  have n60 := hE.n.2
  obtain ⟨⟨f1, f2⟩, f3⟩ := hF
  unfold FmF LbP
  rw [nE_cg h]
  refine ⟨⟨fun e he => ⟨fun z => (f1 e he).1 (by rw [knE_cg h (by omega)] at z; exact z), fun z => ?_⟩, fun g hg e he z => f2 g (fun a b ha hb ka kb hab => ?_) e he (by rw [knE_cg h (by omega)] at z; exact z)⟩, fun a b ha hb ka kb hab => ?_⟩
  · rw [knE_cg h (by omega)] at z
    obtain ⟨j, j1, j2, j3⟩ := (f1 e he).2 z
    exact ⟨j, j1, by rw [knE_cg h (by omega)]; exact j2, j3⟩
  · exact hg a b ha hb (by rw [knE_cg h (by omega)]; exact ka) (by rw [knE_cg h (by omega)]; exact kb) (by rw [alk_cg h (by omega) (by omega)]; exact hab)
  · rw [knE_cg h (by omega)] at ka kb
    rw [alk_cg h (by omega) (by omega)] at hab
    exact f3 a b ha hb ka kb hab
theorem JcI_cg {r r' : Nat → Int32} {σ : AH} (h : RwE r r') (hE : EV r) (hJ : JcI r σ) : JcI r' σ := ⟨hJ.1, fun e => FmF_cg h hE (hJ.2 e)⟩
theorem ptV_cg {r r' : Nat → Int32} (ha : RwA r r') (h : RwE r r') (hV : AV r) {k : Int32} {w e : Nat} (he : e < 60) : ptV r' k w e = ptV r k w e := by
  unfold ptV stE wtE
  rw [fd_cg ha hV, en_cg h he (show 1 < 10 by decide), en_cg h he (show 2 < 10 by decide), en_cg h he (show 3 < 10 by decide), en_cg h he (show 4 < 10 by decide), en_cg h he (show 5 < 10 by decide)]
theorem lsS_cg {r r' : Nat → Int32} (ha : RwA r r') (h : RwE r r') (hV : AV r) {k : Int32} {w c : Nat} : ∀ e, e ≤ 60 → lsS r' k w c e = lsS r k w c e := by
  intro e
  induction e with
  | zero => intro _; rfl
  | succ e ih =>
    intro he
    have he' : e < 60 := by omega
    have i : inE r' k w c e = inE r k w c e := by
      unfold inE; rw [en_cg h he' (show 0 < 10 by decide), en_cg h he' (show 1 < 10 by decide), en_cg h he' (show 6 < 10 by decide)]
    rw [lsS_s, lsS_s, i, ih (by omega), insR_cg _ (fun x hx => ?_)]
    have := lsS_mem _ x hx
    unfold ahE
    rw [ptV_cg ha h hV he', ptV_cg ha h hV (show x < 60 by omega), en_cg h he' (show 1 < 10 by decide), en_cg h (show x < 60 by omega) (show 1 < 10 by decide)]
end
