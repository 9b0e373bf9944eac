section
/-! rows as they can be, behind each telling -/
theorem isN.mo {x : Int32} {n m : Nat} (h : isN x n) (hm : n ≤ m) : isN x m := ⟨h.1, Nat.lt_of_lt_of_le h.2 hm⟩
theorem isN_r {x : Int32} {a b : Int} {n : Nat} (h : rgB a b x = true) (h0 : 0 ≤ a) (hn : b < n) : isN x n := by
  have := rgB_iff.mp h
  unfold rg at this
  exact isN.of (by omega) (by omega)
def tbP (r : Nat → Int32) (nb B wd mst : Nat) (Q : (Nat → Int32) → Prop) : Prop := isN (r nb) (mst + 1) ∧ ∀ d, d < cl (r nb) → Q (fun j => r (B + wd * d + j))
def lcl (wd : Nat) (Q : (Nat → Int32) → Prop) : Prop := ∀ f f' : Nat → Int32, (∀ j, j < wd → f' j = f j) → Q f → Q f'
theorem tbP.mo {r r' : Nat → Int32} {nb B wd mst : Nat} {Q Q' : (Nat → Int32) → Prop} (h : tbP r nb B wd mst Q) (hq : lcl wd Q) (hQ : ∀ f, Q f → Q' f) (e0 : r' nb = r nb) (e : ∀ i, B ≤ i → i < B + mst * wd → r' i = r i) : tbP r' nb B wd mst Q' := by
  refine ⟨by rw [e0]; exact h.1, fun d hd => ?_⟩
  rw [e0] at hd
  refine hQ _ (hq _ _ (fun j hj => ?_) (h.2 d hd))
  have hm : d + 1 ≤ mst := by have := h.1.2; omega
  have q : (d + 1) * wd ≤ mst * wd := Nat.mul_le_mul_right wd hm
  have q2 : (d + 1) * wd = d * wd + wd := Nat.succ_mul d wd
  have q3 : wd * d = d * wd := Nat.mul_comm _ _
  exact e _ (by omega) (by omega)
theorem tbP.new {r g : Nat → Int32} {nb B wd mst : Nat} {Q : (Nat → Int32) → Prop} (h : tbP r nb B wd mst Q) (hq : lcl wd Q) (hn : cl (r nb) ≠ mst) (hm : mst < 2 ^ 30) (hB : nb < B) (hg : Q g) : tbP (tlR r nb B wd (cl (r nb)) g) nb B wd mst Q := by
  have h2 := h.1.2
  have c1 : cl (tlR r nb B wd (cl (r nb)) g nb) = cl (r nb) + 1 := by rw [tlR_nb]; exact nI_clamp (by omega)
  refine ⟨by rw [tlR_nb]; exact isN_nI (by omega) (by omega), fun d hd => ?_⟩
  rw [c1] at hd
  by_cases z : d = cl (r nb)
  · refine hq g _ (fun j hj => ?_) hg
    show tlR r nb B wd (cl (r nb)) g (B + wd * d + j) = _
    rw [z, Nat.mul_comm wd, tlR_at hB hj]
  · refine hq _ _ (fun j hj => ?_) (h.2 d (by omega))
    show tlR r nb B wd (cl (r nb)) g (B + wd * d + j) = r (B + wd * d + j)
    have := tlR_old (row := r) (g := g) (nb := nb) (B := B) (wd := wd) (n := cl (r nb)) (s := d) (j := j) hB (by omega) hj
    rw [← Nat.add_assoc] at this
    rw [Nat.mul_comm wd]; exact this
theorem tlR_out {r g : Nat → Int32} {nb B wd mst n i : Nat} (hn : n < mst) (h1 : i ≠ nb) (h2 : i < B ∨ B + mst * wd ≤ i) : tlR r nb B wd n g i = r i := by
  have q : (n + 1) * wd ≤ mst * wd := Nat.mul_le_mul_right wd hn
  have q2 : (n + 1) * wd = n * wd + wd := Nat.succ_mul n wd
  exact tlR_lo h1 (by omega)
def QD (f : Nat → Int32) : Prop := isN (f 0) 5 ∧ isN (f 1) 260 ∧ isN (f 2) 100001 ∧ isN (f 3) 260
def QW (f : Nat → Int32) : Prop := isN (f 0) 5 ∧ isN (f 1) 1001 ∧ isN (f 2) 5 ∧ isN (f 3) 1001 ∧ isN (f 4) 5 ∧ isN (f 5) 10001 ∧ isN (f 6) 101 ∧ isN (f 7) 260
def QG (f : Nat → Int32) : Prop := isN (f 0) 6 ∧ isN (f 1) 51 ∧ isN (f 2) 260 ∧ isN (f 3) 260
def QP (f : Nat → Int32) : Prop := isN (f 0) 6 ∧ isN (f 1) 3 ∧ (isN (f 2) 7 ∧ 1 ≤ cl (f 2)) ∧ isN (f 3) 260
def QS (N : Nat) (f : Nat → Int32) : Prop := isN (f 0) N ∧ isN (f 1) 260 ∧ isN (f 2) 260
def QE (f : Nat → Int32) : Prop := isN (f 0) 6 ∧ isN (f 1) 260 ∧ isN (f 2) 21 ∧ isN (f 3) 20 ∧ isN (f 4) 10 ∧ isN (f 5) 2 ∧ isN (f 6) 260 ∧ ∀ m, 7 ≤ m → m < 10 → f m = -1 ∨ isN (f m) 10000
def QL (N : Nat) (f : Nat → Int32) : Prop := isN (f 0) N ∧ isN (f 1) 21 ∧ isN (f 2) 260 ∧ isN (f 3) 260
theorem lD : lcl 4 QD := fun f f' e q => by unfold QD at q ⊢; rw [e 0 (by decide), e 1 (by decide), e 2 (by decide), e 3 (by decide)]; exact q
theorem lW : lcl 8 QW := fun f f' e q => by unfold QW at q ⊢; rw [e 0 (by decide), e 1 (by decide), e 2 (by decide), e 3 (by decide), e 4 (by decide), e 5 (by decide), e 6 (by decide), e 7 (by decide)]; exact q
theorem lG : lcl 4 QG := fun f f' e q => by unfold QG at q ⊢; rw [e 0 (by decide), e 1 (by decide), e 2 (by decide), e 3 (by decide)]; exact q
theorem lP : lcl 4 QP := fun f f' e q => by unfold QP at q ⊢; rw [e 0 (by decide), e 1 (by decide), e 2 (by decide), e 3 (by decide)]; exact q
theorem lS {N : Nat} : lcl 3 (QS N) := fun f f' e q => by unfold QS at q ⊢; rw [e 0 (by decide), e 1 (by decide), e 2 (by decide)]; exact q
theorem lE : lcl 10 QE := fun f f' e q => by
  unfold QE at q ⊢
  rw [e 0 (by decide), e 1 (by decide), e 2 (by decide), e 3 (by decide), e 4 (by decide), e 5 (by decide), e 6 (by decide)]
  exact ⟨q.1, q.2.1, q.2.2.1, q.2.2.2.1, q.2.2.2.2.1, q.2.2.2.2.2.1, q.2.2.2.2.2.2.1, fun m h1 h2 => by rw [e m h2]; exact q.2.2.2.2.2.2.2 m h1 h2⟩
theorem lL {N : Nat} : lcl 4 (QL N) := fun f f' e q => by unfold QL at q ⊢; rw [e 0 (by decide), e 1 (by decide), e 2 (by decide), e 3 (by decide)]; exact q
theorem BV_tb {r : Nat → Int32} : BV r ↔ tbP r 1 22748 4 120 QD ∧ tbP r 2 23228 8 8 QW ∧ tbP r 3 23292 4 60 QG ∧ tbP r 4 23532 4 30 QP ∧ tbP r 5 23652 3 60 (QS (nP r)) := Iff.rfl
theorem EV_tb {r : Nat → Int32} : EV r ↔ tbP r 6 23832 10 60 QE := Iff.rfl
theorem LV_tb {r : Nat → Int32} : LV r ↔ tbP r 9 24432 4 40 (QL (nP r)) := Iff.rfl
theorem QS.mo {N M : Nat} (h : N ≤ M) : ∀ f, QS N f → QS M f := fun _ q => ⟨q.1.mo h, q.2⟩
theorem QL.mo {N M : Nat} (h : N ≤ M) : ∀ f, QL N f → QL M f := fun _ q => ⟨q.1.mo h, q.2⟩
theorem TV_mo {r r' : Nat → Int32} (h : TV r) (e : ∀ i, 24592 ≤ i → i < 29512 → r' i = r i) : TV r' := ⟨fun i hi => by rw [e _ (by omega) (by omega)]; exact h.1 i hi, fun i hi => by rw [e _ (by omega) (by omega), e _ (by omega) (by omega)]; exact h.2 i hi⟩
theorem SyV_mo {r r' : Nat → Int32} (h : SyV r) (e7 : r' 7 = r 7) (e : ∀ i, 29512 ≤ i → i < 269832 → r' i = r i) (hp : nP r ≤ nP r') (he : nE r ≤ nE r') : SyV r' := by
  have n := h.n.2
  have ny : nY r' = nY r := by unfold nY; rw [e7]
  refine ⟨by rw [e7]; exact h.1, fun s hs => ?_⟩
  rw [ny] at hs
  have q : ∀ j, j < 8 → sy r' s j = sy r s j := fun j hj => e _ (by omega) (by omega)
  rw [q 0 (by decide), q 1 (by decide), q 2 (by decide), q 3 (by decide), q 6 (by decide), q 7 (by decide)]
  obtain ⟨a, b, c⟩ := h.2 s hs
  exact ⟨a.mo hp, b.mo he, c⟩
theorem FrC.same {n W : Nat} {C C' : Nat → Nat → Int32} (h : FrC n C W) (e : ∀ s j, s < n → j < 8 → C' s j = C s j) : FrC n C' W := fun s hs => by rw [e s 2 hs (by decide)]; exact h s hs
theorem StI_mo {r r' : Nat → Int32} {oc : Nat → Nat → Option (Nat × Nat × Bool × Nat)} {W : Nat} (h : StI r oc W) (e7 : r' 7 = r 7) (e12 : r' 12 = r 12) (e : ∀ i, 29512 ≤ i → i < 269832 → r' i = r i) (hp : nP r' = nP r) (he : nE r ≤ nE r') : StI r' oc W := by
  obtain ⟨h1, h2, h3, h4, h5⟩ := h
  have n := h1.n.2
  have ny : nY r' = nY r := by unfold nY; rw [e7]
  have q : ∀ s j, s < nY r → j < 8 → sy r' s j = sy r s j := fun s j hs hj => e _ (by omega) (by omega)
  exact ⟨SyV_mo h1 e7 e (Nat.le_of_eq hp.symm) he, by rw [hp, ny]; exact h2.same q, by rw [ny]; exact h3.same q, by rw [e12]; exact h4, h5⟩
/-- a PLOT more, empty -/
def ocP (N : Nat) (oc : Nat → Nat → Option (Nat × Nat × Bool × Nat)) : Nat → Nat → Option (Nat × Nat × Bool × Nat) := fun p w => if p < N then oc p w else none
theorem RpC.pl {N n : Nat} {C : Nat → Nat → Int32} {oc : Nat → Nat → Option (Nat × Nat × Bool × Nat)} (h : RpC N n C oc) (hN : N ≤ 30) (hC : ∀ s, s < n → isN (C s 0) N) : RpC (N + 1) n C (ocP N oc) := by
  intro p hp w hw
  by_cases z : p < N
  · obtain ⟨a, b, c⟩ := h p z w hw
    have e : ocP N oc p w = oc p w := by unfold ocP; rw [if_pos z]
    rw [e]; exact ⟨a, b, c⟩
  · have no : ∀ s, s < n → C s 0 ≠ nI p := fun s hs q => by
      have i := hC s hs
      have := i.2
      rw [q] at this
      rw [show cl (nI p) = p from nI_clamp (by omega)] at this
      exact z this
    refine ⟨fun s hs q => absurd q (no s hs), fun a q => ?_, fun s t hs _ q => absurd q (no s hs)⟩
    unfold ocP at q
    rw [if_neg z] at q; cases q
theorem StI_pl {r r' : Nat → Int32} {oc : Nat → Nat → Option (Nat × Nat × Bool × Nat)} {W : Nat} (h : StI r oc W) (hN : nP r ≤ 30) (e7 : r' 7 = r 7) (e12 : r' 12 = r 12) (e : ∀ i, 29512 ≤ i → i < 269832 → r' i = r i) (hp : nP r' = nP r + 1) (he : nE r ≤ nE r') : StI r' (ocP (nP r) oc) W := by
  obtain ⟨h1, h2, h3, h4, h5⟩ := h
  have n := h1.n.2
  have ny : nY r' = nY r := by unfold nY; rw [e7]
  have q : ∀ s j, s < nY r → j < 8 → sy r' s j = sy r s j := fun s j hs hj => e _ (by omega) (by omega)
  exact ⟨SyV_mo h1 e7 e (by omega) he, by rw [hp, ny]; exact (h2.pl hN (fun s hs => (h1.2 s hs).1)).same q, by rw [ny]; exact h3.same q, by rw [e12]; exact h4, h5⟩
/-- a row as it can be -/
def RwV (row : Nat → Int32) (oc : Nat → Nat → Option (Nat × Nat × Bool × Nat)) (W ns no mv : Nat) : Prop := (AV row ∧ AW row ∧ AX row) ∧ BV row ∧ EV row ∧ TV row ∧ LV row ∧ StI row oc W ∧ (row 8 = nI ns ∧ ns ≤ 40) ∧ (row 10 = nI no ∧ no ≤ 100) ∧ row 11 = nI mv ∧ nY row ≤ 300 * no + ns
theorem RwV.of {r r' : Nat → Int32} {oc oc' : Nat → Nat → Option (Nat × Nat × Bool × Nat)} {W ns no mv : Nat} (h : RwV r oc W ns no mv) (hA : RwA r r') (hB : BV r') (hE : EV r') (hT : TV r') (hL : LV r') (hS : StI r' oc' W) (e : ∀ i, (i = 7 ∨ i = 8 ∨ i = 10 ∨ i = 11) → r' i = r i) : RwV r' oc' W ns no mv := by
  obtain ⟨⟨v, w, x⟩, b, en_, t, l, s, n8, n10, n11, ny⟩ := h
  exact ⟨⟨AV_cg hA v, AW_cg hA v w, AX_cg hA v x⟩, hB, hE, hT, hL, hS, by rw [e 8 (by simp)]; exact n8, by rw [e 10 (by simp)]; exact n10, by rw [e 11 (by simp)]; exact n11, by unfold nY at ny ⊢; rw [e 7 (by simp)]; exact ny⟩
/-- what may change: the tables ahead of LODGERS -/
theorem RwV.of1 {r r' : Nat → Int32} {oc : Nat → Nat → Option (Nat × Nat × Bool × Nat)} {W ns no mv : Nat} (h : RwV r oc W ns no mv) (e : ∀ i, (i = 0 ∨ (7 ≤ i ∧ i < 22748) ∨ (24432 ≤ i ∧ i < 269832)) → r' i = r i) (hB : BV r') (hE : EV r') (hp : nP r' = nP r) (he : nE r ≤ nE r') : RwV r' oc W ns no mv := by
  refine h.of ⟨e 0 (by omega), fun i h1 h2 => e i (by omega)⟩ hB hE (TV_mo h.2.2.2.1 (fun i h1 h2 => e i (by omega))) ?_ (StI_mo h.2.2.2.2.2.1 (e 7 (by omega)) (e 12 (by omega)) (fun i h1 h2 => e i (by omega)) hp he) (fun i hi => e i (by omega))
  exact LV_tb.mpr ((LV_tb.mp h.2.2.2.2.1).mo lL (QL.mo (Nat.le_of_eq hp.symm)) (e 9 (by omega)) (fun i h1 h2 => e i (by omega)))
theorem tl_id {r g : Nat → Int32} {pre : Int32} {mst nb B wd n : Nat} {P : (Nat → Int32) → Prop} (h0 : P r) (h1 : pre = 0 → n ≠ mst → P (tlR r nb B wd n g)) : P (tlW pre mst r nb B wd n g) := by
  by_cases c : pre = 0 ∧ n ≠ mst
  · rw [tlW_yes c.1 c.2]; exact h1 c.1 c.2
  · rw [tlW_no c]; exact h0
theorem tlP_0 {b : Bool} (h : tlP b = 0) : b = true := by
  cases b with
  | true => rfl
  | false => exact absurd h (by decide)
theorem RwV.dv {r : Nat → Int32} {oc : Nat → Nat → Option (Nat × Nat × Bool × Nat)} {W ns no mv : Nat} {x1 x2 x3 x4 : Int32} (h : RwV r oc W ns no mv) : RwV (tlW (dvP x1 x2 x3 x4) 120 r 1 22748 4 (nD r) (gl [x1, x2, x3, x4])) oc W ns no mv := by
  refine tl_id (P := fun r' => RwV r' oc W ns no mv) h (fun hp hn => ?_)
  have hB := BV_tb.mp h.2.1
  have n1 := hB.1.1.2
  have hn' : nD r < 120 := by unfold nD at hn ⊢; omega
  have b := tlP_0 hp
  simp only [Bool.and_eq_true] at b
  have lo : ∀ i, i ≠ 1 → (i < 22748 ∨ 23228 ≤ i) → tlR r 1 22748 4 (nD r) (gl [x1, x2, x3, x4]) i = r i := fun i h1 h2 => tlR_out hn' h1 (by omega)
  have eP : nP (tlR r 1 22748 4 (nD r) (gl [x1, x2, x3, x4])) = nP r := by unfold nP; rw [lo 4 (by decide) (by omega)]
  refine h.of1 (fun i hi => lo i (by omega) (by omega)) (BV_tb.mpr ⟨hB.1.new lD hn (by decide) (by decide) ⟨isN_r b.1 (by decide) (by decide), isN_r b.2.1 (by decide) (by decide), isN_r b.2.2.1 (by decide) (by decide), isN_r b.2.2.2 (by decide) (by decide)⟩, hB.2.1.mo lW (fun _ q => q) (lo _ (by decide) (by omega)) (fun i h1 h2 => lo i (by omega) (by omega)), hB.2.2.1.mo lG (fun _ q => q) (lo _ (by decide) (by omega)) (fun i h1 h2 => lo i (by omega) (by omega)), hB.2.2.2.1.mo lP (fun _ q => q) (lo _ (by decide) (by omega)) (fun i h1 h2 => lo i (by omega) (by omega)), hB.2.2.2.2.mo lS (QS.mo (Nat.le_of_eq eP.symm)) (lo _ (by decide) (by omega)) (fun i h1 h2 => lo i (by omega) (by omega))⟩) (EV_tb.mpr ((EV_tb.mp h.2.2.1).mo lE (fun _ q => q) (lo _ (by decide) (by omega)) (fun i h1 h2 => lo i (by omega) (by omega)))) eP (by unfold nE; rw [lo 6 (by decide) (by omega)]; exact Nat.le_refl _)
theorem RwV.wo {r : Nat → Int32} {oc : Nat → Nat → Option (Nat × Nat × Bool × Nat)} {W ns no mv : Nat} {x1 x2 x3 x4 x5 x6 x7 x8 : Int32} (h : RwV r oc W ns no mv) : RwV (tlW (woP x1 x2 x3 x4 x5 x6 x7 x8) 8 r 2 23228 8 (nW r) (gl [x1, x2, x3, x4, x5, x6, x7, x8])) oc W ns no mv := by
  refine tl_id (P := fun r' => RwV r' oc W ns no mv) h (fun hp hn => ?_)
  have hB := BV_tb.mp h.2.1
  have n1 := hB.2.1.1.2
  have hn' : nW r < 8 := by unfold nW at hn ⊢; omega
  have b := tlP_0 hp
  simp only [Bool.and_eq_true] at b
  obtain ⟨g1, g3, g5, g2, g4, g6, g7, g8⟩ := b
  have lo : ∀ i, i ≠ 2 → (i < 23228 ∨ 23292 ≤ i) → tlR r 2 23228 8 (nW r) (gl [x1, x2, x3, x4, x5, x6, x7, x8]) i = r i := fun i h1 h2 => tlR_out hn' h1 (by omega)
  have eP : nP (tlR r 2 23228 8 (nW r) (gl [x1, x2, x3, x4, x5, x6, x7, x8])) = nP r := by unfold nP; rw [lo 4 (by decide) (by omega)]
  refine h.of1 (fun i hi => lo i (by omega) (by omega)) (BV_tb.mpr ⟨hB.1.mo lD (fun _ q => q) (lo _ (by decide) (by omega)) (fun i h1 h2 => lo i (by omega) (by omega)), hB.2.1.new lW hn (by decide) (by decide) ⟨isN_r g1 (by decide) (by decide), isN_r g2 (by decide) (by decide), isN_r g3 (by decide) (by decide), isN_r g4 (by decide) (by decide), isN_r g5 (by decide) (by decide), isN_r g6 (by decide) (by decide), isN_r g7 (by decide) (by decide), isN_r g8 (by decide) (by decide)⟩, hB.2.2.1.mo lG (fun _ q => q) (lo _ (by decide) (by omega)) (fun i h1 h2 => lo i (by omega) (by omega)), hB.2.2.2.1.mo lP (fun _ q => q) (lo _ (by decide) (by omega)) (fun i h1 h2 => lo i (by omega) (by omega)), hB.2.2.2.2.mo lS (QS.mo (Nat.le_of_eq eP.symm)) (lo _ (by decide) (by omega)) (fun i h1 h2 => lo i (by omega) (by omega))⟩) (EV_tb.mpr ((EV_tb.mp h.2.2.1).mo lE (fun _ q => q) (lo _ (by decide) (by omega)) (fun i h1 h2 => lo i (by omega) (by omega)))) eP (by unfold nE; rw [lo 6 (by decide) (by omega)]; exact Nat.le_refl _)
theorem RwV.ga {r : Nat → Int32} {oc : Nat → Nat → Option (Nat × Nat × Bool × Nat)} {W ns no mv : Nat} {x1 x2 x3 x4 : Int32} (h : RwV r oc W ns no mv) : RwV (tlW (gaP x1 x2 x3 x4) 60 r 3 23292 4 (nG r) (gl [x1, x2, x3, x4])) oc W ns no mv := by
  refine tl_id (P := fun r' => RwV r' oc W ns no mv) h (fun hp hn => ?_)
  have hB := BV_tb.mp h.2.1
  have n1 := hB.2.2.1.1.2
  have hn' : nG r < 60 := by unfold nG at hn ⊢; omega
  have b := tlP_0 hp
  simp only [Bool.and_eq_true] at b
  have lo : ∀ i, i ≠ 3 → (i < 23292 ∨ 23532 ≤ i) → tlR r 3 23292 4 (nG r) (gl [x1, x2, x3, x4]) i = r i := fun i h1 h2 => tlR_out hn' h1 (by omega)
  have eP : nP (tlR r 3 23292 4 (nG r) (gl [x1, x2, x3, x4])) = nP r := by unfold nP; rw [lo 4 (by decide) (by omega)]
  refine h.of1 (fun i hi => lo i (by omega) (by omega)) (BV_tb.mpr ⟨hB.1.mo lD (fun _ q => q) (lo _ (by decide) (by omega)) (fun i h1 h2 => lo i (by omega) (by omega)), hB.2.1.mo lW (fun _ q => q) (lo _ (by decide) (by omega)) (fun i h1 h2 => lo i (by omega) (by omega)), hB.2.2.1.new lG hn (by decide) (by decide) ⟨isN_r b.1 (by decide) (by decide), isN_r b.2.1 (by decide) (by decide), isN_r b.2.2.1 (by decide) (by decide), isN_r b.2.2.2 (by decide) (by decide)⟩, hB.2.2.2.1.mo lP (fun _ q => q) (lo _ (by decide) (by omega)) (fun i h1 h2 => lo i (by omega) (by omega)), hB.2.2.2.2.mo lS (QS.mo (Nat.le_of_eq eP.symm)) (lo _ (by decide) (by omega)) (fun i h1 h2 => lo i (by omega) (by omega))⟩) (EV_tb.mpr ((EV_tb.mp h.2.2.1).mo lE (fun _ q => q) (lo _ (by decide) (by omega)) (fun i h1 h2 => lo i (by omega) (by omega)))) eP (by unfold nE; rw [lo 6 (by decide) (by omega)]; exact Nat.le_refl _)
theorem RwV.st {r : Nat → Int32} {oc : Nat → Nat → Option (Nat × Nat × Bool × Nat)} {W ns no mv n : Nat} {wi : Nat → Nat} {x1 x2 x3 : Int32} (h : RwV r oc W ns no mv) : RwV (tlW (stP r n wi x1 x2 x3) 60 r 5 23652 3 (nS r) (gl [x1, x2, x3])) oc W ns no mv := by
  refine tl_id (P := fun r' => RwV r' oc W ns no mv) h (fun hp hn => ?_)
  have hB := BV_tb.mp h.2.1
  have n1 := hB.2.2.2.2.1.2
  have n4 := hB.2.2.2.1.1.2
  have hn' : nS r < 60 := by unfold nS at hn ⊢; omega
  have b : (rgB 0 259 x2 = true ∧ rgB 0 259 x3 = true) ∧ ltB (nP r) x1 = true := by
    unfold stP at hp
    by_cases c1 : (rgB 0 259 x2 && rgB 0 259 x3) = true
    · rw [if_pos c1] at hp
      by_cases c2 : ltB (nP r) x1 = true
      · simp only [Bool.and_eq_true] at c1; exact ⟨c1, c2⟩
      · rw [if_neg c2] at hp; exact absurd hp (by decide)
    · rw [if_neg c1] at hp; exact absurd hp (by decide)
  have lo : ∀ i, i ≠ 5 → (i < 23652 ∨ 23832 ≤ i) → tlR r 5 23652 3 (nS r) (gl [x1, x2, x3]) i = r i := fun i h1 h2 => tlR_out hn' h1 (by omega)
  have eP : nP (tlR r 5 23652 3 (nS r) (gl [x1, x2, x3])) = nP r := by unfold nP; rw [lo 4 (by decide) (by omega)]
  have p30 : nP r < 31 := n4
  have q5 : tbP (tlR r 5 23652 3 (nS r) (gl [x1, x2, x3])) 5 23652 3 60 (QS (nP r)) := hB.2.2.2.2.new lS hn (by decide) (by decide) ⟨ltB_n b.2 (by omega), isN_r b.1.1 (by decide) (by decide), isN_r b.1.2 (by decide) (by decide)⟩
  refine h.of1 (fun i hi => lo i (by omega) (by omega)) (BV_tb.mpr ⟨hB.1.mo lD (fun _ q => q) (lo _ (by decide) (by omega)) (fun i h1 h2 => lo i (by omega) (by omega)), hB.2.1.mo lW (fun _ q => q) (lo _ (by decide) (by omega)) (fun i h1 h2 => lo i (by omega) (by omega)), hB.2.2.1.mo lG (fun _ q => q) (lo _ (by decide) (by omega)) (fun i h1 h2 => lo i (by omega) (by omega)), hB.2.2.2.1.mo lP (fun _ q => q) (lo _ (by decide) (by omega)) (fun i h1 h2 => lo i (by omega) (by omega)), by rw [eP]; exact q5⟩) (EV_tb.mpr ((EV_tb.mp h.2.2.1).mo lE (fun _ q => q) (lo _ (by decide) (by omega)) (fun i h1 h2 => lo i (by omega) (by omega)))) eP (by unfold nE; rw [lo 6 (by decide) (by omega)]; exact Nat.le_refl _)
theorem RwV.et {r : Nat → Int32} {oc : Nat → Nat → Option (Nat × Nat × Bool × Nat)} {W ns no mv : Nat} {x1 x2 x3 x4 x5 x6 x7 : Int32} (h : RwV r oc W ns no mv) : RwV (tlW (entP x1 x2 x3 x4 x5 x6 x7) 60 r 6 23832 10 (nE r) (gl [x1, x2, x3, x4, x5, x6, x7, -1, -1, -1])) oc W ns no mv := by
  refine tl_id (P := fun r' => RwV r' oc W ns no mv) h (fun hp hn => ?_)
  have hB := BV_tb.mp h.2.1
  have hE := EV_tb.mp h.2.2.1
  have n1 := hE.1.2
  have hn' : nE r < 60 := by unfold nE at hn ⊢; omega
  have b := tlP_0 hp
  simp only [Bool.and_eq_true, decide_eq_true_eq] at b
  obtain ⟨g1, g2, g3, g4, g5, g6, g7⟩ := b
  have g3' := rgB_iff.mp g3
  unfold rg at g3'
  have lo : ∀ i, i ≠ 6 → (i < 23832 ∨ 24432 ≤ i) → tlR r 6 23832 10 (nE r) (gl [x1, x2, x3, x4, x5, x6, x7, -1, -1, -1]) i = r i := fun i h1 h2 => tlR_out hn' h1 (by omega)
  have eP : nP (tlR r 6 23832 10 (nE r) (gl [x1, x2, x3, x4, x5, x6, x7, -1, -1, -1])) = nP r := by unfold nP; rw [lo 4 (by decide) (by omega)]
  have eE : nE (tlR r 6 23832 10 (nE r) (gl [x1, x2, x3, x4, x5, x6, x7, -1, -1, -1])) = nE r + 1 := by
    show cl _ = _
    rw [tlR_nb]; exact nI_clamp (by omega)
  have q6 : QE (gl [x1, x2, x3, x4, x5, x6, x7, -1, -1, -1]) := ⟨isN_r g1 (by decide) (by decide), isN_r g2 (by decide) (by decide), isN_r g3 (by decide) (by decide), isN.of g4.1 (by show x4.toInt < ((20 : Nat) : Int); omega), isN_r g5 (by decide) (by decide), isN_r g6 (by decide) (by decide), isN_r g7 (by decide) (by decide), fun m h1 h2 => Or.inl (by
    rcases (show m = 7 ∨ m = 8 ∨ m = 9 by omega) with rfl | rfl | rfl <;> rfl)⟩
  refine h.of1 (fun i hi => lo i (by omega) (by omega)) (BV_tb.mpr ⟨hB.1.mo lD (fun _ q => q) (lo _ (by decide) (by omega)) (fun i h1 h2 => lo i (by omega) (by omega)), hB.2.1.mo lW (fun _ q => q) (lo _ (by decide) (by omega)) (fun i h1 h2 => lo i (by omega) (by omega)), hB.2.2.1.mo lG (fun _ q => q) (lo _ (by decide) (by omega)) (fun i h1 h2 => lo i (by omega) (by omega)), hB.2.2.2.1.mo lP (fun _ q => q) (lo _ (by decide) (by omega)) (fun i h1 h2 => lo i (by omega) (by omega)), hB.2.2.2.2.mo lS (QS.mo (Nat.le_of_eq eP.symm)) (lo _ (by decide) (by omega)) (fun i h1 h2 => lo i (by omega) (by omega))⟩) (EV_tb.mpr (hE.new lE hn (by decide) (by decide) q6)) eP (by omega)
theorem RwV.mk {r : Nat → Int32} {oc : Nat → Nat → Option (Nat × Nat × Bool × Nat)} {W ns no mv : Nat} {x1 x2 x3 : Int32} (h : RwV r oc W ns no mv) : RwV (markR r x1 x2 x3) oc W ns no mv := by
  unfold markR
  by_cases c : markV r x1 x2 x3 = 0
  rotate_left
  · rw [if_neg c]; exact h
  rw [if_pos c]
  have hB := BV_tb.mp h.2.1
  have hE := EV_tb.mp h.2.2.1
  have n1 : nE r < 61 := hE.1.2
  have b : (rgB 0 2 x2 = true ∧ rgB 0 9999 x3 = true) ∧ ltB (nE r) x1 = true := by
    unfold markV at c
    by_cases c1 : (rgB 0 2 x2 && rgB 0 9999 x3) = true
    · rw [if_pos c1] at c
      by_cases c2 : ltB (nE r) x1 = true
      · simp only [Bool.and_eq_true] at c1; exact ⟨c1, c2⟩
      · rw [if_neg c2] at c; exact absurd c (by decide)
    · rw [if_neg c1] at c; exact absurd c (by decide)
  have i1 := ltB_n b.2 (by omega)
  have i2 : isN x2 3 := isN_r b.1.1 (by decide) (by decide)
  have i3 : isN x3 10000 := isN_r b.1.2 (by decide) (by decide)
  have k1 := i1.2
  have k2 := i2.2
  obtain ⟨P, hP⟩ : ∃ P, P = 23832 + (cl x1 * 10 + (7 + cl x2)) := ⟨_, rfl⟩
  rw [← hP]
  have lo : ∀ i, (i < 23832 ∨ 24432 ≤ i) → va_up r P x3 i = r i := fun i hi => up_ne _ _ _ (by omega)
  have eP : nP (va_up r P x3) = nP r := by unfold nP; rw [lo 4 (by omega)]
  have eE : nE (va_up r P x3) = nE r := by unfold nE; rw [lo 6 (by omega)]
  refine h.of1 (fun i hi => lo i (by omega)) (BV_tb.mpr ⟨hB.1.mo lD (fun _ q => q) (lo _ (by omega)) (fun i h1 h2 => lo i (by omega)), hB.2.1.mo lW (fun _ q => q) (lo _ (by omega)) (fun i h1 h2 => lo i (by omega)), hB.2.2.1.mo lG (fun _ q => q) (lo _ (by omega)) (fun i h1 h2 => lo i (by omega)), hB.2.2.2.1.mo lP (fun _ q => q) (lo _ (by omega)) (fun i h1 h2 => lo i (by omega)), hB.2.2.2.2.mo lS (QS.mo (Nat.le_of_eq eP.symm)) (lo _ (by omega)) (fun i h1 h2 => lo i (by omega))⟩) ?_ eP (by omega)
  refine ⟨by rw [lo 6 (by omega)]; exact h.2.2.1.1, fun e he => ?_⟩
  rw [eE] at he
  obtain ⟨a0, a1, a2, a3, a4, a5, a6, a7⟩ := h.2.2.1.2 e he
  have q : ∀ j, j < 7 → en (va_up r P x3) e j = en r e j := fun j hj => up_ne _ _ _ (by omega)
  rw [q 0 (by decide), q 1 (by decide), q 2 (by decide), q 3 (by decide), q 4 (by decide), q 5 (by decide), q 6 (by decide)]
  refine ⟨a0, a1, a2, a3, a4, a5, a6, fun m m1 m2 => ?_⟩
  by_cases z : 23832 + 10 * e + m = P
  · have : en (va_up r P x3) e m = x3 := by show va_up r P x3 (23832 + 10 * e + m) = _; rw [z, up_same]
    rw [this]; exact Or.inr i3
  · have : en (va_up r P x3) e m = en r e m := up_ne _ _ _ z
    rw [this]; exact a7 m m1 m2
theorem RwV.pt {r : Nat → Int32} {oc : Nat → Nat → Option (Nat × Nat × Bool × Nat)} {W ns no mv : Nat} {x1 x2 x3 x4 : Int32} (h : RwV r oc W ns no mv) (hp : ptP x1 x2 x3 x4 = 0) (hn : nP r ≠ 30) : RwV (tlR r 4 23532 4 (nP r) (gl [x1, x2, x3, x4])) (ocP (nP r) oc) W ns no mv ∧ nP (tlR r 4 23532 4 (nP r) (gl [x1, x2, x3, x4])) = nP r + 1 := by
  have hB := BV_tb.mp h.2.1
  have n1 := hB.2.2.2.1.1.2
  have hn' : nP r < 30 := by unfold nP at hn ⊢; omega
  have b := tlP_0 hp
  simp only [Bool.and_eq_true] at b
  have lo : ∀ i, i ≠ 4 → (i < 23532 ∨ 23652 ≤ i) → tlR r 4 23532 4 (nP r) (gl [x1, x2, x3, x4]) i = r i := fun i h1 h2 => tlR_out hn' h1 (by omega)
  have eP : nP (tlR r 4 23532 4 (nP r) (gl [x1, x2, x3, x4])) = nP r + 1 := by
    show cl _ = _
    rw [tlR_nb]; exact nI_clamp (by omega)
  have eE : nE (tlR r 4 23532 4 (nP r) (gl [x1, x2, x3, x4])) = nE r := by unfold nE; rw [lo 6 (by decide) (by omega)]
  have b3 := rgB_iff.mp b.2.2.1
  unfold rg at b3
  have i3 : isN x3 7 := isN_r b.2.2.1 (by decide) (by decide)
  have c3 : 1 ≤ cl x3 := by show 1 ≤ x3.toInt.toNat; omega
  refine ⟨h.of ⟨lo 0 (by decide) (by omega), fun i h1 h2 => lo i (by omega) (by omega)⟩ (BV_tb.mpr ⟨hB.1.mo lD (fun _ q => q) (lo _ (by decide) (by omega)) (fun i h1 h2 => lo i (by omega) (by omega)), hB.2.1.mo lW (fun _ q => q) (lo _ (by decide) (by omega)) (fun i h1 h2 => lo i (by omega) (by omega)), hB.2.2.1.mo lG (fun _ q => q) (lo _ (by decide) (by omega)) (fun i h1 h2 => lo i (by omega) (by omega)), hB.2.2.2.1.new lP hn (by decide) (by decide) ⟨isN_r b.1 (by decide) (by decide), isN_r b.2.1 (by decide) (by decide), ⟨i3, c3⟩, isN_r b.2.2.2 (by decide) (by decide)⟩, hB.2.2.2.2.mo lS (QS.mo (by omega)) (lo _ (by decide) (by omega)) (fun i h1 h2 => lo i (by omega) (by omega))⟩) (EV_tb.mpr ((EV_tb.mp h.2.2.1).mo lE (fun _ q => q) (lo _ (by decide) (by omega)) (fun i h1 h2 => lo i (by omega) (by omega)))) (TV_mo h.2.2.2.1 (fun i h1 h2 => lo i (by omega) (by omega))) (LV_tb.mpr ((LV_tb.mp h.2.2.2.2.1).mo lL (QL.mo (by omega)) (lo _ (by decide) (by omega)) (fun i h1 h2 => lo i (by omega) (by omega)))) (StI_pl h.2.2.2.2.2.1 (by omega) (lo 7 (by decide) (by omega)) (lo 12 (by decide) (by omega)) (fun i h1 h2 => lo i (by omega) (by omega)) eP (Nat.le_of_eq eE.symm)) (fun i hi => lo i (by omega) (by omega)), eP⟩
theorem RwV.lo {r : Nat → Int32} {oc : Nat → Nat → Option (Nat × Nat × Bool × Nat)} {W ns no mv : Nat} {x1 x2 x3 x4 : Int32} (h : RwV r oc W ns no mv) : RwV (tlW (loP r x1 x2 x3 x4) 40 r 9 24432 4 (nL r) (gl [x1, x2, x3, x4])) oc W ns no mv := by
  refine tl_id (P := fun r' => RwV r' oc W ns no mv) h (fun hp hn => ?_)
  have hB := BV_tb.mp h.2.1
  have hL := LV_tb.mp h.2.2.2.2.1
  have n1 := hL.1.2
  have n4 : nP r < 31 := hB.2.2.2.1.1.2
  have hn' : nL r < 40 := by unfold nL at hn ⊢; omega
  have b : (rgB 1 20 x2 = true ∧ rgB 0 259 x4 = true ∧ rgB 0 259 x3 = true) ∧ ltB (nP r) x1 = true := by
    unfold loP at hp
    by_cases c1 : (rgB 1 20 x2 && (rgB 0 259 x4 && (rgB 0 259 x3 && decide (x3 ≤ x4)))) = true
    · rw [if_pos c1] at hp
      by_cases c2 : ltB (nP r) x1 = true
      · simp only [Bool.and_eq_true] at c1; exact ⟨⟨c1.1, c1.2.1, c1.2.2.1⟩, c2⟩
      · rw [if_neg c2] at hp; exact absurd hp (by decide)
    · rw [if_neg c1] at hp; exact absurd hp (by decide)
  have lo : ∀ i, i ≠ 9 → (i < 24432 ∨ 24592 ≤ i) → tlR r 9 24432 4 (nL r) (gl [x1, x2, x3, x4]) i = r i := fun i h1 h2 => tlR_out hn' h1 (by omega)
  have eP : nP (tlR r 9 24432 4 (nL r) (gl [x1, x2, x3, x4])) = nP r := by unfold nP; rw [lo 4 (by decide) (by omega)]
  have eE : nE (tlR r 9 24432 4 (nL r) (gl [x1, x2, x3, x4])) = nE r := by unfold nE; rw [lo 6 (by decide) (by omega)]
  have q9 : tbP (tlR r 9 24432 4 (nL r) (gl [x1, x2, x3, x4])) 9 24432 4 40 (QL (nP r)) := hL.new lL hn (by decide) (by decide) ⟨ltB_n b.2 (by omega), isN_r b.1.1 (by decide) (by decide), isN_r b.1.2.2 (by decide) (by decide), isN_r b.1.2.1 (by decide) (by decide)⟩
  refine h.of ⟨lo 0 (by decide) (by omega), fun i h1 h2 => lo i (by omega) (by omega)⟩ (BV_cg ⟨fun i hi => lo i (by omega) (by omega), fun i h1 h2 => lo i (by omega) (by omega)⟩ h.2.1) (EV_cg ⟨lo 6 (by decide) (by omega), fun i h1 h2 => lo i (by omega) (by omega)⟩ h.2.2.1) (TV_mo h.2.2.2.1 (fun i h1 h2 => lo i (by omega) (by omega))) (LV_tb.mpr (by rw [eP]; exact q9)) (StI_mo h.2.2.2.2.2.1 (lo 7 (by decide) (by omega)) (lo 12 (by decide) (by omega)) (fun i h1 h2 => lo i (by omega) (by omega)) eP (Nat.le_of_eq eE.symm)) (fun i hi => lo i (by omega) (by omega))
/-- only TARGETS and STREETS change -/
theorem RwV.of2 {r r' : Nat → Int32} {oc : Nat → Nat → Option (Nat × Nat × Bool × Nat)} {W ns no mv : Nat} (h : RwV r oc W ns no mv) (e : ∀ i, (i < 24592 ∨ 29512 ≤ i) → r' i = r i) (hT : TV r') : RwV r' oc W ns no mv := by
  have eP : nP r' = nP r := by unfold nP; rw [e 4 (by omega)]
  have eE : nE r' = nE r := by unfold nE; rw [e 6 (by omega)]
  exact h.of ⟨e 0 (by omega), fun i h1 h2 => e i (by omega)⟩ (BV_cg ⟨fun i hi => e i (by omega), fun i h1 h2 => e i (by omega)⟩ h.2.1) (EV_cg ⟨e 6 (by omega), fun i h1 h2 => e i (by omega)⟩ h.2.2.1) hT (LV_tb.mpr ((LV_tb.mp h.2.2.2.2.1).mo lL (QL.mo (Nat.le_of_eq eP.symm)) (e 9 (by omega)) (fun i h1 h2 => e i (by omega)))) (StI_mo h.2.2.2.2.2.1 (e 7 (by omega)) (e 12 (by omega)) (fun i h1 h2 => e i (by omega)) eP (Nat.le_of_eq eE.symm)) (fun i hi => e i (by omega))
theorem isN.inc {x : Int32} {n : Nat} (h : isN x n) (hn : n < 2 ^ 30) : isN (x + 1) (n + 1) := by
  have := h.2
  rw [h.1, nI_1]; exact isN_nI (by omega) (by omega)
theorem RwV.tg {r : Nat → Int32} {oc : Nat → Nat → Option (Nat × Nat × Bool × Nat)} {W ns no mv : Nat} {x1 x2 x3 : Int32} (h : RwV r oc W ns no mv) : RwV (targetR r x1 x2 x3) oc W ns no mv := by
  unfold targetR
  by_cases c : rgB 0 5 x1 = true ∧ rgB 0 19 x2 = true
  rotate_left
  · rw [if_neg c]; exact h
  rw [if_pos c]
  by_cases c3 : rgB 0 10000 x3 = true
  rotate_left
  · rw [if_neg c3]; exact h
  rw [if_pos c3]
  have i1 : isN x1 6 := isN_r c.1 (by decide) (by decide)
  have i2 : isN x2 20 := isN_r c.2 (by decide) (by decide)
  have i3 : isN x3 10001 := isN_r c3 (by decide) (by decide)
  have k1 := i1.2
  have k2 := i2.2
  obtain ⟨P, hP⟩ : ∃ P, P = 24592 + (20 * cl x1 + cl x2) := ⟨_, rfl⟩
  rw [← hP]
  refine h.of2 (fun i hi => up_ne _ _ _ (by omega)) ⟨fun i hi => ?_, fun i hi => ?_⟩
  · by_cases z : 24592 + i = P
    · rw [z, up_same]; exact i3.inc (by decide)
    · rw [up_ne _ _ _ z]; exact h.2.2.2.1.1 i hi
  · rw [up_ne _ _ _ (show 24712 + i ≠ P by omega), up_ne _ _ _ (show 27112 + i ≠ P by omega)]; exact h.2.2.2.1.2 i hi
theorem RwV.sr {r : Nat → Int32} {oc : Nat → Nat → Option (Nat × Nat × Bool × Nat)} {W ns no mv B : Nat} {x1 x2 x3 x4 : Int32} (hB : B = 24712 ∨ B = 27112) (h : RwV r oc W ns no mv) : RwV (streetR r B x1 x2 x3 x4) oc W ns no mv := by
  unfold streetR
  by_cases c : stOK x1 x2 x3 x4 = true
  rotate_left
  · rw [if_neg c]; exact h
  rw [if_pos c]
  have c' := of_decide_eq_true c
  have i1 : isN x1 6 := isN_r c'.1.1 (by decide) (by decide)
  have i2 : isN x2 20 := isN_r c'.1.2 (by decide) (by decide)
  have i3 : isN x3 20 := isN_r c'.2.1 (by decide) (by decide)
  have i4 : isN x4 1001 := isN_r c'.2.2 (by decide) (by decide)
  have k1 := i1.2
  have k2 := i2.2
  have k3 := i3.2
  obtain ⟨S, hS⟩ : ∃ S, S = stN_ x1 x2 x3 := ⟨_, rfl⟩
  have hS' : S < 2400 := by rw [hS]; unfold stN_; omega
  rw [← hS]
  refine h.of2 (fun i hi => up_ne _ _ _ (by omega)) ⟨fun i hi => ?_, fun i hi => ?_⟩
  · rw [up_ne _ _ _ (show 24592 + i ≠ B + S by omega)]; exact h.2.2.2.1.1 i hi
  · obtain ⟨t1, t2⟩ := h.2.2.2.1.2 i hi
    refine ⟨?_, ?_⟩
    · by_cases z : 24712 + i = B + S
      · rw [z, up_same]; exact i4.inc (by decide)
      · rw [up_ne _ _ _ z]; exact t1
    · by_cases z : 27112 + i = B + S
      · rw [z, up_same]; exact i4.inc (by decide)
      · rw [up_ne _ _ _ z]; exact t2
/-- only stays change -/
theorem RwV.mv {r r' : Nat → Int32} {oc oc' : Nat → Nat → Option (Nat × Nat × Bool × Nat)} {W W' ns ns' no no' mv mv' : Nat} (h : RwV r oc W ns no mv) (e : RwS r r') (hS : StI r' oc' W') (e8 : r' 8 = nI ns') (n8 : ns' ≤ 40) (e10 : r' 10 = nI no') (n10 : no' ≤ 100) (e11 : r' 11 = nI mv') (hy : nY r' ≤ 300 * no' + ns') : RwV r' oc' W' ns' no' mv' := by
  obtain ⟨⟨v, w, x⟩, b, en_, t, l, s, _, _, _, _⟩ := h
  have q : ∀ i, i < 29512 → (i < 7 ∨ i = 9 ∨ 12 < i) → r' i = r i := fun i h1 h2 => e i h1 (by omega) (by omega) (by omega) (by omega) (by omega)
  have hA : RwA r r' := ⟨q 0 (by decide) (by omega), fun i h1 h2 => q i (by omega) (by omega)⟩
  have eP : nP r' = nP r := by unfold nP; rw [q 4 (by decide) (by omega)]
  exact ⟨⟨AV_cg hA v, AW_cg hA v w, AX_cg hA v x⟩, BV_cg ⟨fun i hi => q i (by omega) (by omega), fun i h1 h2 => q i (by omega) (by omega)⟩ b, EV_cg ⟨q 6 (by decide) (by omega), fun i h1 h2 => q i (by omega) (by omega)⟩ en_, TV_mo t (fun i h1 h2 => q i (by omega) (by omega)), LV_tb.mpr ((LV_tb.mp l).mo lL (QL.mo (Nat.le_of_eq eP.symm)) (q 9 (by decide) (by omega)) (fun i h1 h2 => q i (by omega) (by omega))), hS, ⟨e8, n8⟩, ⟨e10, n10⟩, e11, hy⟩
theorem RwV.ac {r r' : Nat → Int32} {oc : Nat → Nat → Option (Nat × Nat × Bool × Nat)} {W ns no mv : Nat} {x1 x2 : Int32} {Cs : List Cls} (h : RwV r oc W ns no mv) (hR : AcR r r' x1 x2 Cs) (n24 : nA r < 24) (hk : ∀ C ∈ Cs, HdK C) : RwV r' oc W ns no mv := by
  obtain ⟨⟨v, w, x⟩, b, en_, t, l, s, n8, n10, n11, ny⟩ := h
  have e : ∀ i, i ≠ 0 → (i < 20 ∨ 22748 ≤ i) → r' i = r i := fun i h1 h2 => hR.2.2.2.2.2.2 i h1 (by omega)
  have eP : nP r' = nP r := by unfold nP; rw [e 4 (by decide) (by omega)]
  have eE : nE r' = nE r := by unfold nE; rw [e 6 (by decide) (by omega)]
  have hB := BV_tb.mp b
  refine ⟨⟨hR.av v n24 hk, hR.aw v w n24 hk, hR.ax v x n24 hk⟩, BV_tb.mpr ⟨hB.1.mo lD (fun _ q => q) (e _ (by decide) (by omega)) (fun i h1 h2 => e i (by omega) (by omega)), hB.2.1.mo lW (fun _ q => q) (e _ (by decide) (by omega)) (fun i h1 h2 => e i (by omega) (by omega)), hB.2.2.1.mo lG (fun _ q => q) (e _ (by decide) (by omega)) (fun i h1 h2 => e i (by omega) (by omega)), hB.2.2.2.1.mo lP (fun _ q => q) (e _ (by decide) (by omega)) (fun i h1 h2 => e i (by omega) (by omega)), hB.2.2.2.2.mo lS (QS.mo (Nat.le_of_eq eP.symm)) (e _ (by decide) (by omega)) (fun i h1 h2 => e i (by omega) (by omega))⟩, EV_cg ⟨e 6 (by decide) (by omega), fun i h1 h2 => e i (by omega) (by omega)⟩ en_, TV_mo t (fun i h1 h2 => e i (by omega) (by omega)), LV_tb.mpr ((LV_tb.mp l).mo lL (QL.mo (Nat.le_of_eq eP.symm)) (e 9 (by decide) (by omega)) (fun i h1 h2 => e i (by omega) (by omega))), StI_mo s (e 7 (by decide) (by omega)) (e 12 (by decide) (by omega)) (fun i h1 h2 => e i (by omega) (by omega)) eP (Nat.le_of_eq eE.symm), by rw [e 8 (by decide) (by omega)]; exact n8, by rw [e 10 (by decide) (by omega)]; exact n10, by rw [e 11 (by decide) (by omega)]; exact n11, by unfold nY at ny ⊢; rw [e 7 (by decide) (by omega)]; exact ny⟩
/-- all that there is of a row -/
theorem RwV.cg {r r' : Nat → Int32} {oc : Nat → Nat → Option (Nat × Nat × Bool × Nat)} {W ns no mv : Nat} (h : RwV r oc W ns no mv) (e : ∀ i, i < 269832 → r' i = r i) : RwV r' oc W ns no mv := by
  have eP : nP r' = nP r := by unfold nP; rw [e 4 (by decide)]
  have eE : nE r' = nE r := by unfold nE; rw [e 6 (by decide)]
  exact h.of ⟨e 0 (by decide), fun i h1 h2 => e i (by omega)⟩ (BV_cg ⟨fun i hi => e i (by omega), fun i h1 h2 => e i (by omega)⟩ h.2.1) (EV_cg ⟨e 6 (by decide), fun i h1 h2 => e i (by omega)⟩ h.2.2.1) (TV_mo h.2.2.2.1 (fun i h1 h2 => e i (by omega))) (LV_tb.mpr ((LV_tb.mp h.2.2.2.2.1).mo lL (QL.mo (Nat.le_of_eq eP.symm)) (e 9 (by omega)) (fun i h1 h2 => e i (by omega)))) (StI_mo h.2.2.2.2.2.1 (e 7 (by omega)) (e 12 (by omega)) (fun i h1 h2 => e i (by omega)) eP (Nat.le_of_eq eE.symm)) (fun i hi => e i (by omega))
end
