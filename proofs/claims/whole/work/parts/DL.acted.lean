section
/-! one ACT's cells: pointwise -/
def AtE (r r' : Nat → Int32) (a : Nat) : Prop := ∀ i, 20 + 947 * a ≤ i → i < 20 + 947 * a + 947 → r' i = r i
theorem AtE.c {r r' : Nat → Int32} {a c : Nat} (h : AtE r r' a) (hc : c < 16) (j : Nat) (hj : j < 9) : r' (cA a c + j) = r (cA a c + j) := by
  unfold cA; exact h _ (by omega) (by omega)
theorem AtE.c0 {r r' : Nat → Int32} {a c : Nat} (h : AtE r r' a) (hc : c < 16) : r' (cA a c) = r (cA a c) := h.c hc 0 (by decide)
theorem AtE.op {r r' : Nat → Int32} {a L : Nat} (h : AtE r r' a) (hL : L ≤ 400) : ∀ k, k < L → opA r' a k = opA r a k ∧ arA r' a k = arA r a k := fun k hk => by
  unfold opA arA
  exact ⟨h _ (by omega) (by omega), h _ (by omega) (by omega)⟩
theorem AtE.kN {r r' : Nat → Int32} {a : Nat} (h : AtE r r' a) : clN r' a = clN r a := by unfold clN; rw [h _ (by omega) (by omega)]
theorem AtE.ev {r r' : Nat → Int32} {a i j : Nat} {st : Nat → Int32} (h : AtE r r' a) (hj : j ≤ 400) : evR r' a i j st = evR r a i j st := by
  unfold evR; rw [rrun_cg (h.op hj)]
theorem AtE.kH {r r' : Nat → Int32} {a c : Nat} {st : Nat → Int32} (h : AtE r r' a) (hc : c < 16) (hV : ClV r a c) : hv r' st a c = hv r st a c := by
  have b := hV.ends
  unfold hv
  rw [h.c0 hc, h.c hc 4 (by decide), h.c hc 5 (by decide), h.c hc 6 (by decide), h.c hc 7 (by decide), h.ev b.1, h.ev b.2]
theorem AtE.kC {r r' : Nat → Int32} {a c : Nat} {st : Nat → Int32} (h : AtE r r' a) (hc : c < 16) (hV : ClV r a c) : cvv r' st a c = cvv r st a c := by
  unfold cvv
  rw [h.kH hc hV, h.c0 hc, h.c hc 1 (by decide)]
theorem AtE.clV {r r' : Nat → Int32} {a c : Nat} (h : AtE r r' a) (hc : c < 16) (hV : ClV r a c) : ClV r' a c := by
  obtain ⟨h1, h2, h3, i, j, k, l, b, e4, e5, e6, e7, e8⟩ := hV
  refine ⟨by rw [h.c0 hc]; exact h1, by rw [h.c hc 1 (by decide)]; exact h2, by rw [h.c hc 2 (by decide)]; exact h3, i, j, k, l, b, by rw [h.c hc 4 (by decide)]; exact e4, by rw [h.c hc 5 (by decide)]; exact e5, by rw [h.c hc 6 (by decide)]; exact e6, by rw [h.c hc 7 (by decide)]; exact e7, fun st => ?_⟩
  rw [rrun_cg (h.op b.2.1), rrun_cg (h.op b.2.2.2)]; exact e8 st
theorem AtE.clW {r r' : Nat → Int32} {a c : Nat} (h : AtE r r' a) (hc : c < 16) (hV : ClV r a c) (w : ClW r a c) : ClW r' a c := by
  have b := hV.ends
  unfold ClW at w ⊢
  rw [h.c0 hc, h.c hc 1 (by decide), h.c hc 2 (by decide), h.c hc 3 (by decide), h.c hc 4 (by decide), h.c hc 5 (by decide)]
  refine ⟨w.1, w.2.1, w.2.2.1, w.2.2.2.1, fun q h1 h2 => ?_⟩
  have b1 : cl (r (cA a c + 5)) ≤ 400 := b.1
  rw [(h.op (show q + 1 ≤ 400 by omega) q (by omega)).1]
  exact w.2.2.2.2 q h1 h2
theorem AtE.actC {r r' : Nat → Int32} {σ : AH} {a b : Nat} (h : AtE r r' a) (hV : clN r a ≤ 16 ∧ ∀ c, c < clN r a → ClV r a c) (hA : ActC r σ a b) : ActC r' σ a b := by
  obtain ⟨h1, h2, hh, s, g, d, L, a1, a2, a3, a4, a5, a6⟩ := hA
  unfold ActC
  rw [h.kN, h (20 + 947 * a) (by omega) (by omega), h (20 + 947 * a + 1) (by omega) (by omega)]
  refine ⟨h1, h2, hh, s, g, d, L, a1, a2, a3, a4, a5, fun c hc => ?_⟩
  obtain ⟨b1, b2', b3, i, b4, b5, b6⟩ := a6 c hc
  have hc' : c < 16 := by omega
  have e1 : hdN r' a c = hdN r a c := by unfold hdN; rw [h.c0 hc', h.c hc' 1 (by decide), h.c hc' 2 (by decide), h.c hc' 3 (by decide)]
  have e2 : stN r' a c = stN r a c := by unfold stN; rw [h.c hc' 1 (by decide), h.c hc' 2 (by decide)]
  rw [e1, e2, h.c0 hc']
  exact ⟨b1, b2', b3, i, b4, b5, fun z st => by rw [h.kC hc' (hV.2 c hc)]; exact b6 z st⟩
/-! the new ACT's -/
theorem sg_run {op ar : Nat → Int32} {i j k : Nat} {D : Den} {st : Nat → Int32} (h : SgR op ar i j k D) (hk : k ≤ 60) (hj : j ≤ 400) : rrun op ar (st8 st) j 401 i [] = some (D st) := by
  obtain ⟨f', h1, h2⟩ := h op ar (fun _ _ _ => ⟨rfl, rfl⟩) st j [] 401 (Nat.le_refl _) (by simp; omega) (by omega)
  rw [h2]
  cases D st with
  | none => rfl
  | some v =>
    obtain ⟨f, rfl⟩ : ∃ f, f' = f + 1 := ⟨f' - 1, by omega⟩
    show rrun op ar (st8 st) j (f + 1) j [v] = _
    unfold rrun
    rw [if_pos (Nat.le_refl _)]; rfl
theorem nil_run {op ar st : Nat → Int32} {i : Nat} : rrun op ar st i 401 i [] = some (some 0) := by
  show rrun op ar st i (400 + 1) i [] = _
  unfold rrun
  rw [if_pos (Nat.le_refl _)]; rfl
theorem st_any {st : Nat → Int32} {op ar : Nat → Int32} {L f k : Nat} {s : List Int64} : rrun op ar st L f k s = rrun op ar (st8 (fun i => st (i + 1))) L f k s := by
  refine rrun_c1 (fun i h1 h2 => ?_) f k s
  unfold st8
  rw [if_neg (by omega)]
  show st i = st (i - 1 + 1)
  rw [show i - 1 + 1 = i by omega]
def ClZ (C : Cls) (row : Nat → Int32) (a c i j : Nat) : Prop := (row (cA a c) = nI C.1.1 ∧ row (cA a c + 1) = nI C.1.2.1 ∧ row (cA a c + 2) = nI C.1.2.2.1 ∧ row (cA a c + 3) = nI C.1.2.2.2) ∧ (C.1.1 = 0 → row (cA a c + 4) = 0 ∧ row (cA a c + 5) = 0 ∧ row (cA a c + 6) = 0 ∧ row (cA a c + 7) = 0) ∧ (C.1.1 ≠ 0 → ∃ y, (i ≤ y ∧ y ≤ j) ∧ (row (cA a c + 4) = nI i ∧ row (cA a c + 5) = nI y ∧ row (cA a c + 6) = nI y ∧ row (cA a c + 7) = nI j) ∧ (C.1.1 = 8 → y = i ∧ C.2.1 = none) ∧ (C.1.1 ≠ 8 → ∃ D k, C.2.1 = some D ∧ k ≤ 60 ∧ i < y ∧ SgV 16 (opA row a) (arA row a) i y k D) ∧ (C.2.2 = none → j = y) ∧ (∀ D, C.2.2 = some D → ∃ k, k ≤ 60 ∧ y < j ∧ SgV 19 (opA row a) (arA row a) y j k D))
theorem AcR.z {row row' : Nat → Int32} {x1 x2 : Int32} {Cs : List Cls} (h : AcR row row' x1 x2 Cs) {c : Nat} {C : Cls} (hC : Cs[c]? = some C) : ∃ i j, i ≤ j ∧ j ≤ 400 ∧ ClZ C row' (nA row) c i j := by
  obtain ⟨m, m4, q⟩ := h.2.2.2.2.2.1
  obtain ⟨i, j, a1, a2, a3, a4⟩ := (ClsR_at Cs 0 0 m q).2 c C hC
  rw [Nat.zero_add] at a4
  obtain ⟨⟨b0, b1, b2', b3⟩, b4, b5⟩ := a4
  have g : ∀ k, row' (20 + 947 * nA row + 3 + (9 * c + k)) = row' (cA (nA row) c + k) := fun k => by congr 1; unfold cA; omega
  refine ⟨i, j, a2, by omega, ⟨b0, (g 1).symm.trans b1, (g 2).symm.trans b2', (g 3).symm.trans b3⟩, fun z => ?_, fun z => ?_⟩
  · obtain ⟨⟨d1, d2, d3, d4⟩, _⟩ := b4 z
    exact ⟨(g 4).symm.trans d1, (g 5).symm.trans d2, (g 6).symm.trans d3, (g 7).symm.trans d4⟩
  · obtain ⟨y, y1, ⟨d1, d2, d3, d4⟩, y3, y4, y5, y6⟩ := b5 z
    exact ⟨y, y1, ⟨(g 4).symm.trans d1, (g 5).symm.trans d2, (g 6).symm.trans d3, (g 7).symm.trans d4⟩, y3, y4, y5, y6⟩
theorem nI_n0 {x : Nat} (h : x ≠ 0) (hx : x < 2 ^ 31) : nI x ≠ 0 := fun z => by
  have := congrArg Int32.toNatClampNeg z
  rw [nI_clamp hx] at this
  exact h (this.trans rfl)
theorem nI_n8 {x : Nat} (h : x ≠ 8) (hx : x < 2 ^ 31) : nI x ≠ 8 := fun z => by
  have := congrArg Int32.toNatClampNeg z
  rw [nI_clamp hx] at this
  exact h (this.trans rfl)
theorem cl_nI {x : Nat} (hx : x < 2 ^ 31) : cl (nI x) = x := nI_clamp hx
theorem ClZ.v {C : Cls} {row : Nat → Int32} {a c i j : Nat} (h : ClZ C row a c i j) (hk : HdK C) (hi : i ≤ j) (hj : j ≤ 400) : ClV row a c := by
  obtain ⟨⟨b0, b1, b2', b3⟩, b4, b5⟩ := h
  by_cases z : C.1.1 = 0
  · obtain ⟨d1, d2, d3, d4⟩ := b4 z
    exact ⟨⟨C.1.1, hk.1, b0⟩, ⟨_, hk.2.1, b1⟩, ⟨_, hk.2.2.1, b2'⟩, 0, 0, 0, 0, ⟨by decide, by decide, by decide, by decide⟩, d1, d2, d3, d4, fun st => ⟨⟨_, nil_run⟩, ⟨_, nil_run⟩⟩⟩
  · obtain ⟨y, y1, ⟨d1, d2, d3, d4⟩, y3, y4, y5, y6⟩ := b5 z
    refine ⟨⟨C.1.1, hk.1, b0⟩, ⟨_, hk.2.1, b1⟩, ⟨_, hk.2.2.1, b2'⟩, i, y, y, j, ⟨by omega, by omega, by omega, by omega⟩, d1, d2, d3, d4, fun st => ⟨?_, ?_⟩⟩
    · by_cases z8 : C.1.1 = 8
      · rw [(y3 z8).1]; exact ⟨_, nil_run⟩
      · obtain ⟨D, k, e1, e2, e3, e4⟩ := y4 z8
        rw [st_any, sg_run e4.1 e2 (by omega)]; exact ⟨_, rfl⟩
    · cases hT : C.2.2 with
      | none => rw [y5 hT]; exact ⟨_, nil_run⟩
      | some D =>
        obtain ⟨k, e2, e3, e4⟩ := y6 D hT
        rw [st_any, sg_run e4.1 e2 (by omega)]; exact ⟨_, rfl⟩
theorem ClZ.w {C : Cls} {row : Nat → Int32} {a c i j : Nat} (h : ClZ C row a c i j) (hk : HdK C) (hi : i ≤ j) (hj : j ≤ 400) : ClW row a c := by
  obtain ⟨⟨b0, b1, b2', b3⟩, b4, b5⟩ := h
  obtain ⟨k1, k2, k3, k4, k5, k6, k7⟩ := hk
  unfold ClW
  rw [b0, b1, b2', b3, cl_nI (by omega)]
  refine ⟨fun z => ?_, fun z => ?_, fun z => ?_, fun z => ?_, fun q h1 h2 => ?_⟩
  · have q0 : C.1.1 ≠ 0 := fun e => z (by rw [e]; rfl)
    obtain ⟨l1, l2, l3⟩ := k4 q0
    exact ⟨isN_nI l1 (by omega), isN_nI l2 (by omega), isN_nI l3 (by omega)⟩
  · rw [k5 z]; rfl
  · rw [k6 z]; rfl
  · rw [k7 z]; rfl
  · by_cases z : C.1.1 = 0
    · obtain ⟨d1, d2, d3, d4⟩ := b4 z
      rw [d2] at h2
      exact absurd h2 (Nat.not_lt_zero _)
    · obtain ⟨y, y1, ⟨d1, d2, d3, d4⟩, y3, y4, y5, y6⟩ := b5 z
      rw [d1, cl_nI (by omega)] at h1
      rw [d2, cl_nI (by omega)] at h2
      by_cases z8 : C.1.1 = 8
      · have := (y3 z8).1; omega
      · obtain ⟨D, k, e1, e2, e3, e4⟩ := y4 z8
        obtain ⟨o, r, o1, o2, o3, o4⟩ := e4.2 q h1 h2
        rw [o1]; exact nI_lt (b := 17) (by omega) (by decide)
theorem thn_hv {S : Option Int64} {T : Den} {st : Nat → Int32} : (match T st with | none => none | some v => if v = 0 then none else S) = thn S (some T) st := by
  unfold thn
  dsimp only
  generalize T st = t
  cases S with
  | none => cases t with
    | none => rfl
    | some v => show (if v = 0 then none else none) = none; by_cases z : v = 0
                · rw [if_pos z]
                · rw [if_neg z]
  | some x => cases t with
    | none => rfl
    | some v => rfl
theorem thn_no {S : Option Int64} {st : Nat → Int32} : thn S none st = S := by
  unfold thn; cases S <;> rfl
theorem thn_map {x y : Int64} {T : Option Den} {st : Nat → Int32} : (thn (some x) T st).map (fun _ => y) = thn (some y) T st := by
  unfold thn
  cases T with
  | none => rfl
  | some D =>
    dsimp only
    generalize D st = t
    cases t with
    | none => rfl
    | some v =>
      show ((if v = 0 then none else some x) : Option Int64).map (fun _ => y) = if v = 0 then none else some y
      by_cases z : v = 0
      · rw [if_pos z, if_pos z]; rfl
      · rw [if_neg z, if_neg z]; rfl
theorem ClZ.val {C : Cls} {row st : Nat → Int32} {a c i j : Nat} (h : ClZ C row a c i j) (hk : HdK C) (hi : i ≤ j) (hj : j ≤ 400) (h0 : C.1.1 ≠ 0) : cvv row (st8 st) a c = valC C st := by
  obtain ⟨⟨b0, b1, b2', b3⟩, b4, b5⟩ := h
  obtain ⟨k1, k2, k3, k4, k5, k6, k7⟩ := hk
  obtain ⟨y, y1, ⟨d1, d2, d3, d4⟩, y3, y4, y5, y6⟩ := b5 h0
  have H : ∀ S, evR row a i y (st8 st) = S → hv row (st8 st) a c = thn S C.2.2 st := by
    intro S hS
    unfold hv
    rw [b0, d1, d2, d3, d4, nI_clamp (show i < 2 ^ 31 by omega), nI_clamp (show y < 2 ^ 31 by omega), nI_clamp (show j < 2 ^ 31 by omega), if_neg (nI_n0 h0 (by omega)), hS]
    cases hT : C.2.2 with
    | none => rw [y5 hT, if_pos (nI_le (Nat.le_refl _) (by omega)), thn_no]
    | some T =>
      obtain ⟨k, e2, e3, e4⟩ := y6 T hT
      have eT : evR row a y j (st8 st) = T st := by unfold evR; rw [sg_run e4.1 e2 (by omega)]; rfl
      rw [if_neg (nI_ge e3 (by omega)), eT]
      exact thn_hv
  unfold cvv valC
  rw [b0, b1]
  by_cases z8 : C.1.1 = 8
  · rw [z8, if_pos rfl, if_pos (show nI 8 = (8 : Int32) from rfl), H (some 0) (by rw [(y3 z8).1]; unfold evR; rw [nil_run]; rfl), thn_map, nI_l (by omega)]
  · rw [if_neg (nI_n8 z8 (by omega)), if_neg z8]
    obtain ⟨D, k, e1, e2, e3, e4⟩ := y4 z8
    rw [H (D st) (by unfold evR; rw [sg_run e4.1 e2 (by omega)]; rfl), e1]
end
