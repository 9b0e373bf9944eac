section
/-! offer: one chain of moves -/
def gvE (row : Nat → Int32) (oc : Nat → Nat → Option (Nat × Nat × Bool × Nat)) (f : Nat → Int32) (k : Int32) (w p : Nat) : Option Nat := whO row oc f w p (lsS row k w (pC row p) (nE row)) (lsS row k w (pC row p) (nE row)).length 0
def lvP (row : Nat → Int32) (oc : Nat → Nat → Option (Nat × Nat × Bool × Nat)) (f : Nat → Int32) (w e : Nat) (b : Bool) : Option Nat := fsF (rfP oc f (f e) w b) (nP row) 0
def ocX (oc : Nat → Nat → Option (Nat × Nat × Bool × Nat)) (q : Option Nat) (w : Nat) : Nat → Nat → Option (Nat × Nat × Bool × Nat) := match q with
  | none => oc
  | some q => ocL oc q w
def ocM (row : Nat → Int32) (oc : Nat → Nat → Option (Nat × Nat × Bool × Nat)) (f : Nat → Int32) (k : Int32) (w p e n : Nat) : Nat → Nat → Option (Nat × Nat × Bool × Nat) := ocG (ocX (ocX oc (lvP row oc f w e true) w) (lvP row oc f w e false) w) p w (fun u => decide (heW row k p ≤ nI u)) (fun u => decide (nI w ≤ nI u)) e n
def nxP (row : Nat → Int32) (oc : Nat → Nat → Option (Nat × Nat × Bool × Nat)) (f : Nat → Int32) (w e : Nat) : Option Nat := match lvP row oc f w e true with
  | some q => some q
  | none => lvP row oc f w e false
/-- j moves more, n were done: how many in all, who is where then -/
def chn (row : Nat → Int32) (f : Nat → Int32) (k : Int32) (w : Nat) : Nat → Nat → (Nat → Nat → Option (Nat × Nat × Bool × Nat)) → Option Nat → Nat × (Nat → Nat → Option (Nat × Nat × Bool × Nat)) := fun j => match j with
  | 0 => fun n oc _ => (n, oc)
  | j + 1 => fun n oc p => match p with
    | none => (n, oc)
    | some p => if (hoB row k p w && (oc p w).isNone) = true then (match gvE row oc f k w p with
      | none => (n, oc)
      | some e => chn row f k w j (n + 1) (ocM row oc f k w p e n) (nxP row oc f w e)) else (n, oc)
theorem chn_z {row f : Nat → Int32} {k : Int32} {w n : Nat} {oc : Nat → Nat → Option (Nat × Nat × Bool × Nat)} {p : Option Nat} : chn row f k w 0 n oc p = (n, oc) := rfl
theorem chn_n {row f : Nat → Int32} {k : Int32} {w n j : Nat} {oc : Nat → Nat → Option (Nat × Nat × Bool × Nat)} : chn row f k w j n oc none = (n, oc) := by cases j <;> rfl
theorem chn_s {row f : Nat → Int32} {k : Int32} {w n j p : Nat} {oc : Nat → Nat → Option (Nat × Nat × Bool × Nat)} : chn row f k w (j + 1) n oc (some p) = if (hoB row k p w && (oc p w).isNone) = true then (match gvE row oc f k w p with
      | none => (n, oc)
      | some e => chn row f k w j (n + 1) (ocM row oc f k w p e n) (nxP row oc f w e)) else (n, oc) := rfl
theorem chn_le {row f : Nat → Int32} {k : Int32} {w : Nat} : ∀ j n oc p, n ≤ (chn row f k w j n oc p).1 ∧ (chn row f k w j n oc p).1 ≤ n + j := by
  intro j
  induction j with
  | zero => intro n oc p; rw [chn_z]; exact ⟨Nat.le_refl _, Nat.le_refl _⟩
  | succ j ih =>
    intro n oc p
    cases p with
    | none => rw [chn_n]; exact ⟨Nat.le_refl _, Nat.le_add_right _ _⟩
    | some p =>
      rw [chn_s]
      by_cases c : (hoB row k p w && (oc p w).isNone) = true
      · rw [if_pos c]
        cases gvE row oc f k w p with
        | none => exact ⟨Nat.le_refl _, Nat.le_add_right _ _⟩
        | some e =>
          have := ih (n + 1) (ocM row oc f k w p e n) (nxP row oc f w e)
          show n ≤ (chn row f k w j (n + 1) (ocM row oc f k w p e n) (nxP row oc f w e)).1 ∧ _
          exact ⟨by omega, by have := this.2; show (chn row f k w j (n + 1) (ocM row oc f k w p e n) (nxP row oc f w e)).1 ≤ _; omega⟩
      · rw [if_neg c]; exact ⟨Nat.le_refl _, Nat.le_add_right _ _⟩
theorem fsF_cg {P Q : Nat → Bool} : ∀ j s, (∀ i, s ≤ i → i < s + j → P i = Q i) → fsF P j s = fsF Q j s := by
  intro j
  induction j with
  | zero => intro s _; rfl
  | succ j ih =>
    intro s h
    have e : ∀ F : Nat → Bool, fsF F (j + 1) s = if F s = true then some s else fsF F j (s + 1) := fun _ => rfl
    rw [e, e, h s (Nat.le_refl _) (by omega), ih (s + 1) (fun i h1 h2 => h i (by omega) (by omega))]
/-- rows that differ in stays only -/
def RwI (row row' : Nat → Int32) : Prop := ∀ i, i < 29512 → i ≠ 7 → row' i = row i
theorem RwI.b {row row' : Nat → Int32} (h : RwI row row') : RwB row row' := ⟨fun i hi => h i (by omega) (by omega), fun i h1 h2 => h i (by omega) (by omega)⟩
theorem RwI.e {row row' : Nat → Int32} (h : RwI row row') : RwE row row' := ⟨h 6 (by decide) (by decide), fun i h1 h2 => h i (by omega) (by omega)⟩
theorem whO_cg {row row' : Nat → Int32} (hb : RwB row row') (he : RwE row row') (hB : BV row) {oc : Nat → Nat → Option (Nat × Nat × Bool × Nat)} {f : Nat → Int32} {w p : Nat} {L : List Nat} (hp : p < 30) (hL : ∀ x, x ∈ L → x < 60) {j : Nat} (hj : j = L.length) : whO row' oc f w p L j 0 = whO row oc f w p L j 0 := by
  have b30 := hB.p.2.1
  have e : fsF (fun i => whE row' oc f w p (lxL L i)) j 0 = fsF (fun i => whE row oc f w p (lxL L i)) j 0 := fsF_cg _ _ (fun i _ hi => by
    have m : lxL L i < 60 := hL _ (lxL_mem (by omega))
    show whE row' oc f w p (lxL L i) = whE row oc f w p (lxL L i)
    unfold whE
    rw [nP_cg hb, pR_cg hb hp, en_cg he m (show 2 < 10 by decide)]
    cases z : fsF (rfP oc f (f (lxL L i)) w true) (nP row) 0 with
    | none => rfl
    | some q =>
      have hq := (fsF_some _ _ q z).2.1
      show (!decide (nI (pR row p) ≤ nI (pR row' q)) && _) = (!decide (nI (pR row p) ≤ nI (pR row q)) && _)
      rw [pR_cg hb (show q < 30 by omega)])
  unfold whO
  rw [e]
theorem whO_in {row : Nat → Int32} {oc : Nat → Nat → Option (Nat × Nat × Bool × Nat)} {f : Nat → Int32} {w p e : Nat} {L : List Nat} (h : whO row oc f w p L L.length 0 = some e) : e ∈ L := by
  unfold whO at h
  cases z : fsF (fun i => whE row oc f w p (lxL L i)) L.length 0 with
  | none => rw [z] at h; cases h
  | some i =>
    rw [z] at h
    have hi := (fsF_some _ _ i z).2.1
    cases h
    exact lxL_mem (by omega)
theorem gvE_in {row : Nat → Int32} {oc : Nat → Nat → Option (Nat × Nat × Bool × Nat)} {f : Nat → Int32} {k : Int32} {w p e : Nat} (h : gvE row oc f k w p = some e) : e < nE row ∧ inE row k w (pC row p) e = true := by
  have m := whO_in h
  exact ⟨lsS_mem _ e m, lsS_in _ e m⟩
/-- a stay ends, in the reference -/
theorem StS.leave {row : Nat → Int32} {oc : Nat → Nat → Option (Nat × Nat × Bool × Nat)} {w q s : Nat} (h : StS row oc w) (hN : nP row ≤ 30) (hw : w < 260) (hq : q < nP row) (hs : s < nY row) (h0 : sy row s 0 = nI q) (hc : cvB (sy row) s w = true) : StS (va_up row (29512 + 8 * s + 5) (nI w)) (ocL oc q w) w ∧ sy (va_up row (29512 + 8 * s + 5) (nI w)) = (fun t j => if 29512 + 8 * t + j = 29512 + 8 * s + 5 then nI w else sy row t j) := by
  obtain ⟨hV, hR, hF⟩ := h
  have es : sy (va_up row (29512 + 8 * s + 5) (nI w)) = (fun t j => if 29512 + 8 * t + j = 29512 + 8 * s + 5 then nI w else sy row t j) := by
    funext t j
    unfold sy
    by_cases e : 29512 + 8 * t + j = 29512 + 8 * s + 5
    · rw [if_pos e, e, up_same]
    · rw [if_neg e, up_ne _ _ _ e]
  have lo_ : ∀ i, i < 29512 → va_up row (29512 + 8 * s + 5) (nI w) i = row i := fun i hi => up_ne _ _ _ (by omega)
  have np : nP (va_up row (29512 + 8 * s + 5) (nI w)) = nP row := by unfold nP; rw [lo_ 4 (by decide)]
  have ne : nE (va_up row (29512 + 8 * s + 5) (nI w)) = nE row := by unfold nE; rw [lo_ 6 (by decide)]
  have ny : nY (va_up row (29512 + 8 * s + 5) (nI w)) = nY row := by unfold nY; rw [lo_ 7 (by decide)]
  obtain ⟨L1, L2⟩ := hR.leave hF hN (Nat.le_refl w) hw hq hs h0 hc
  have no : ∀ t j, j < 8 → j ≠ 5 → (if 29512 + 8 * t + j = 29512 + 8 * s + 5 then nI w else sy row t j) = sy row t j := fun t j h1 h2 => if_neg (by omega)
  refine ⟨⟨⟨by rw [lo_ 7 (by decide)]; exact hV.1, fun t ht => ?_⟩, ?_, ?_⟩, es⟩
  · rw [ny] at ht
    rw [es, np, ne]
    show isN (if _ then _ else _) _ ∧ isN (if _ then _ else _) _ ∧ isN (if _ then _ else _) _ ∧ (if _ then _ else _) ≤ (if _ then _ else _) ∧ isN (if _ then _ else _) _ ∧ ((if _ then _ else _) = _ ∨ ((if _ then _ else _) = _ ∧ (if _ then _ else _) = (if _ then _ else _)))
    rw [no t 0 (by decide) (by decide), no t 1 (by decide) (by decide), no t 2 (by decide) (by decide), no t 3 (by decide) (by decide), no t 6 (by decide) (by decide), no t 7 (by decide) (by decide)]
    exact hV.2 t ht
  · rw [np, ny, es]
    refine L1.same (fun t j ht hj => ?_)
    unfold upC
    by_cases e : t = s ∧ j = 5
    · rw [if_pos e, if_pos (by omega)]
    · rw [if_neg e, if_neg (by omega)]
  · rw [ny, es]
    intro t ht
    show (if _ then _ else _) ≤ _
    rw [no t 2 (by decide) (by decide)]
    have := L2 t ht
    rw [upC_ne (by decide)] at this
    exact this
theorem StS.late {row : Nat → Int32} {oc : Nat → Nat → Option (Nat × Nat × Bool × Nat)} {W w : Nat} (h : StS row oc W) (hW : W ≤ w) (hw : w < 260) : StS row oc w := ⟨h.1, h.2.1, fun s hs => h.2.2.le hW hw hs⟩
/-- the reference amid offer: row' of rows that differ in stays only -/
def OfR (row : Nat → Int32) (k : Int32) (w : Nat) (f : Nat → Int32) (row' : Nat → Int32) (oc : Nat → Nat → Option (Nat × Nat × Bool × Nat)) (σ : AH) : Prop := RwI row row' ∧ KI row' k σ ∧ StS row' oc w ∧ (∀ e, e < nE row → gI σ 160 e = f e) ∧ ∀ p, p < nP row → gI σ 164 p = hdW row k p ∧ gI σ 165 p = heW row k p
def OFc : List Nat := 125 :: LSc
theorem OfR.up {row row' row'' : Nat → Int32} {k : Int32} {w : Nat} {f : Nat → Int32} {oc oc' : Nat → Nat → Option (Nat × Nat × Bool × Nat)} {σ τ : AH} (hA : AV row) (h : OfR row k w f row' oc σ) (hi : RwI row row'') (hS : StS row'' oc' w) (hr : gI τ 125 = row'') (c : Ch [125] [] σ τ) : OfR row k w f row'' oc' τ := by
  obtain ⟨o1, o2, o3, o4, o5⟩ := h
  have A' : AV row' := AV_cg o1.b.a hA
  have e : RwA row' row'' := ⟨by rw [hi 0 (by decide) (by decide), o1 0 (by decide) (by decide)], fun i h1 h2 => by rw [hi i (by omega) (by omega), o1 i (by omega) (by omega)]⟩
  refine ⟨hi, KI_cg e A' o2 hr c (by simp) (by simp), hS, fun x hx => by rw [c.rI (by simp) (by simp)]; exact o4 x hx, fun p hp => by rw [c.rI (by simp) (by simp), c.rI (by simp) (by simp)]; exact o5 p hp⟩
theorem gI_up {σ : AH} {row : Nat → Int32} {i : Nat} {v : Int32} (h : gI σ 125 = row) : gI (sI σ 125 i v) 125 = va_up row i v := by rw [gI_sI_own, h]
/-- one move of the reference -/
theorem ofr_45 {row row' : Nat → Int32} {k : Int32} {w p n e : Nat} {f : Nat → Int32} {oc : Nat → Nat → Option (Nat × Nat × Bool × Nat)} {K : Int32 → Int32 → Int32 → AH → Option (Int32 × AH)} {σ : AH} (hA : AV row) (hB : BV row) (hE : EV row) (hw : w < 260) (hp : p < nP row) (hn : n < 10) (he : e < nE row) (hO : OfR row k w f row' oc σ) (h0 : oc p w = none) (hy : nY row' < 30040) :
    ∃ τ row'', F_X12_offerOne_45 K (nI w) (nI p) (nI n) (nI e) σ = K (nI w) (oI (nxP row oc f w e)) (nI (n + 1)) τ ∧ OfR row k w f row'' (ocM row oc f k w p e n) τ ∧ nY row'' = nY row' + 1 ∧ Ch [125] [] σ τ := by
  have b30 := hB.p.2.1
  have n60 := hE.n.2
  obtain ⟨o1, o2, o3, o4, o5⟩ := id hO
  have A' : AV row' := AV_cg o1.b.a hA
  have B' : BV row' := BV_cg o1.b hB
  have E' : EV row' := EV_cg o1.e hE
  have np : nP row' = nP row := nP_cg o1.b
  have ne : nE row' = nE row := nE_cg o1.e
  have hr : gI σ 125 = row' := o2.1
  obtain ⟨hV, hR, hF⟩ := o3
  have n30 := hV.n.2
  have f160 : ∀ x, x < nE row' → gI σ 160 x = f x := fun x hx => o4 x (by omega)
  have so1 : F_X12_stayOf (f e) (nI w) (1 : Int32) σ = some (oI (soS row' f (f e) w true (nY row')), σ) := F_stayOf (b := true) hV E' hr f160
  have so2 : F_X12_stayOf (f e) (nI w) (0 : Int32) σ = some (oI (soS row' f (f e) w false (nY row')), σ) := F_stayOf (b := false) hV E' hr f160
  have q60 : inB (nI e) 60 = true := inB_n (by omega) (by omega)
  have g160 : gI σ 160 (nI e).toNatClampNeg = f e := by rw [nI_clamp (by omega)]; exact o4 e he
  -- the last step: a stay more
  have last : ∀ (s1 : AH) (r1 : Nat → Int32) (oc1 : Nat → Nat → Option (Nat × Nat × Bool × Nat)) (x8 : Int32), OfR row k w f r1 oc1 s1 → nY r1 = nY row' → Ch [125] [] σ s1 → oc1 p w = none →
      ∃ τ row'', F_X12_offerOne_171 K (nI w) (nI p) (nI n) (nI e) x8 s1 = K (nI w) x8 (nI (n + 1)) τ ∧ OfR row k w f row'' (ocG oc1 p w (fun u => decide (heW row k p ≤ nI u)) (fun u => decide (nI w ≤ nI u)) e n) τ ∧ nY row'' = nY row' + 1 ∧ Ch [125] [] σ τ := fun s1 r1 oc1 x8 O1 y1 k1 z1 => by
    obtain ⟨p1, p2, p3, p4, p5⟩ := id O1
    unfold F_X12_offerOne_171
    obtain ⟨τ, t1, t2, t3⟩ := F_addStay (p := p) (x2 := nI e) (x3 := nI w) (x4 := nI w) (x5 := nI n) (x6 := 0) (T := heW row k p) p3.1 (by omega) p2.1 (by omega) (p5 p hp).2
    rw [t1, bv_some, nI_1]
    obtain ⟨a1, a2, a3⟩ := p3.add (T := heW row k p) (L := nI w) (fl := 0) (e := e) (c := n) (by rw [nP_cg p1.b]; exact b30) (by omega) (Nat.le_refl w) hw (by rw [nP_cg p1.b]; exact hp) (by rw [nE_cg p1.e]; exact he) hn (by rw [nE_cg p1.e]; exact n60) z1 (Int32.le_refl _) (Or.inr ⟨rfl, rfl⟩)
    refine ⟨τ, _, rfl, O1.up hA (fun i h1 h2 => ?_) a1 t2 t3, by rw [a3, y1], k1.trans t3⟩
    rw [adR_lo h1 h2]; exact p1 i h1 h2
  have lw0 : ∀ (oc1 : Nat → Nat → Option (Nat × Nat × Bool × Nat)) (q : Option Nat), oc1 p w = none → ocX oc1 q w p w = none := fun oc1 q z => by
    cases q with
    | none => exact z
    | some q =>
      show ocL oc1 q w p w = none
      unfold ocL
      by_cases c : p = q ∧ w ≤ w
      · rw [if_pos c]
      · rw [if_neg c]; exact z
  -- one that leaves
  have lv : ∀ (s1 : AH) (r1 : Nat → Int32) (oc1 : Nat → Nat → Option (Nat × Nat × Bool × Nat)) (q s : Nat), OfR row k w f r1 oc1 s1 → nY r1 = nY row' → q < nP row → s < nY row' → sy r1 s 0 = nI q → cvB (sy r1) s w = true →
      OfR row k w f (va_up r1 (29512 + 8 * s + 5) (nI w)) (ocL oc1 q w) (sI s1 125 (29512 + 8 * s + 5) (nI w)) ∧ nY (va_up r1 (29512 + 8 * s + 5) (nI w)) = nY row' ∧ Ch [125] [] s1 (sI s1 125 (29512 + 8 * s + 5) (nI w)) ∧ (∀ t, t ≠ s → sy (va_up r1 (29512 + 8 * s + 5) (nI w)) t 0 = sy r1 t 0 ∧ cvB (sy (va_up r1 (29512 + 8 * s + 5) (nI w))) t w = cvB (sy r1) t w) := fun s1 r1 oc1 q s O1 y1 hq hs h1 h2 => by
    obtain ⟨p1, p2, p3, p4, p5⟩ := id O1
    have kc : Ch [125] [] s1 (sI s1 125 (29512 + 8 * s + 5) (nI w)) := Ch.sI1 (Or.inr (by simp))
    obtain ⟨L1, L2⟩ := p3.leave (by rw [nP_cg p1.b]; exact b30) hw (by rw [nP_cg p1.b]; exact hq) (by rw [y1]; exact hs) h1 h2
    refine ⟨O1.up hA (fun i a1 a2 => by rw [up_ne _ _ _ (by omega)]; exact p1 i a1 a2) L1 (gI_up p2.1) kc, ?_, kc, fun t ht => ?_⟩
    · unfold nY at y1 ⊢; rw [up_ne _ _ _ (by omega)]; exact y1
    · have no : ∀ j, j < 8 → sy (va_up r1 (29512 + 8 * s + 5) (nI w)) t j = sy r1 t j := fun j hj => by
        rw [L2]; exact if_neg (by omega)
      refine ⟨no 0 (by decide), ?_⟩
      unfold cvB
      rw [no 2 (by decide), no 4 (by decide), no 5 (by decide)]
  have f5 : ∀ s, s < nY row' → inB (nI (29512 + 8 * s) + (5 : Int32)) 269832 = true ∧ (nI (29512 + 8 * s) + (5 : Int32)).toNatClampNeg = 29512 + 8 * s + 5 := fun s hs => sy_at (j := 5) (by omega) (by decide)
  have f0 : ∀ s, s < nY row' → inB (nI (29512 + 8 * s)) 269832 = true ∧ (nI (29512 + 8 * s)).toNatClampNeg = 29512 + 8 * s := fun s hs => ⟨inB_n (by omega) (by omega), nI_clamp (by omega)⟩
  unfold F_X12_offerOne_45 F_X12_offerOne_129 F_X12_offerOne_151
  rw [if_neg (nI_neg1 (by omega)), if_pos q60, g160, so1, bd_some, if_pos q60, g160, so2, bd_some]
  unfold ocM nxP lvP
  rcases stayOf_oc (f := f) (fam := f e) (b := true) B' hV hR hw with ⟨z1, z2⟩ | ⟨s, s1, s2, s3, s4, s5⟩
  · rw [np] at z2
    rw [z1, z2, show oI none = -1 from rfl, if_pos rfl]
    rcases stayOf_oc (f := f) (fam := f e) (b := false) B' hV hR hw with ⟨y1, y2⟩ | ⟨t, t1, t2, t3, t4, t5⟩
    · rw [np] at y2
      rw [y1, y2, show oI none = -1 from rfl, if_pos rfl, if_pos rfl, if_pos rfl]
      exact last σ row' oc (-1) hO rfl (Ch.rf _) h0
    · rw [np] at t3
      obtain ⟨v0, _⟩ := hV.2 t t1
      have e0 : gI σ 125 (29512 + 8 * t) = nI (cl (sy row' t 0)) := by rw [hr]; exact v0.1
      rw [t2, t3, show oI (some t) = nI t from rfl, if_neg (nI_neg1 (by omega)), F_stayAt, bd_some, if_pos (f0 t t1).1, (f0 t t1).2, e0, if_pos rfl, if_neg (nI_neg1 (by omega)), F_stayAt, bd_some, if_pos (f5 t t1).1, (f5 t t1).2]
      obtain ⟨O2, y2, k2, _⟩ := lv σ row' oc (cl (sy row' t 0)) t hO rfl (by rw [← np]; exact v0.2) t1 v0.1 t4
      exact last _ _ _ _ O2 y2 k2 (lw0 oc (some _) h0)
  · rw [np] at s3
    obtain ⟨u0, _⟩ := hV.2 s s1
    have e0 : gI σ 125 (29512 + 8 * s) = nI (cl (sy row' s 0)) := by rw [hr]; exact u0.1
    rw [s2, s3, show oI (some s) = nI s from rfl, if_neg (nI_neg1 (by omega)), F_stayAt, bd_some, if_pos (f0 s s1).1, (f0 s s1).2, e0, if_neg (nI_neg1 (by omega)), F_stayAt, bd_some, if_pos (f5 s s1).1, (f5 s s1).2]
    obtain ⟨O2, y2, k2, sm⟩ := lv σ row' oc (cl (sy row' s 0)) s hO rfl (by rw [← np]; exact u0.2) s1 u0.1 s4
    rcases stayOf_oc (f := f) (fam := f e) (b := false) B' hV hR hw with ⟨y1, y2'⟩ | ⟨t, t1, t2, t3, t4, t5⟩
    · rw [np] at y2'
      rw [y1, y2', show oI none = -1 from rfl, if_pos rfl]
      exact last _ _ _ _ O2 y2 k2 (lw0 oc (some _) h0)
    · rw [np] at t3
      obtain ⟨v0, _⟩ := hV.2 t t1
      have ts : t ≠ s := fun z => by
        have h1 := (fsF_some _ _ _ s3).2.2.1
        have h2 := (fsF_some _ _ _ t3).2.2.1
        unfold rfP at h1 h2
        rw [s5] at h1
        rw [t5] at h2
        have g1 := (Bool.and_eq_true_iff.mp h1).2
        have g2 := (Bool.and_eq_true_iff.mp h2).2
        rw [z] at g2
        rw [eq_of_beq g1] at g2
        cases g2
      rw [t2, t3, show oI (some t) = nI t from rfl, if_neg (nI_neg1 (by omega)), F_stayAt, bd_some, if_pos (f5 t t1).1, (f5 t t1).2]
      obtain ⟨O3, y3, k3, _⟩ := lv _ _ _ (cl (sy row' t 0)) t O2 y2 (by rw [← np]; exact v0.2) t1 (by rw [(sm t ts).1]; exact v0.1) (by rw [(sm t ts).2]; exact t4)
      exact last _ _ _ _ O3 y3 (k2.trans k3) (lw0 _ (some _) (lw0 oc (some _) h0))
end
