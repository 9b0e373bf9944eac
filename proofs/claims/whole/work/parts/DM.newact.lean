section
/-! the ACT anew, in row and class -/
theorem AcR.old {row row' : Nat → Int32} {x1 x2 : Int32} {Cs : List Cls} (h : AcR row row' x1 x2 Cs) {a : Nat} (ha : a < nA row) : AtE row row' a := fun i h1 h2 => h.2.2.2.2.2.2 i (by omega) (Or.inl (by omega))
theorem AcR.n {row row' : Nat → Int32} {x1 x2 : Int32} {Cs : List Cls} (h : AcR row row' x1 x2 Cs) (n24 : nA row < 24) : nA row' = nA row + 1 := by
  show (row' 0).toNatClampNeg = _
  rw [h.1]; exact nI_clamp (by omega)
theorem AcR.c {row row' : Nat → Int32} {x1 x2 : Int32} {Cs : List Cls} (h : AcR row row' x1 x2 Cs) : clN row' (nA row) = Cs.length := by
  have := h.2.2.2.2.1
  show (row' (20 + 947 * nA row + 2)).toNatClampNeg = _
  rw [h.2.2.2.1]; exact nI_clamp (by omega)
theorem AcR.av {row row' : Nat → Int32} {x1 x2 : Int32} {Cs : List Cls} (h : AcR row row' x1 x2 Cs) (hV : AV row) (n24 : nA row < 24) (hk : ∀ C ∈ Cs, HdK C) : AV row' := by
  refine ⟨by rw [h.n n24]; exact h.1, by rw [h.n n24]; omega, fun a ha => ?_⟩
  rw [h.n n24] at ha
  rcases Nat.lt_or_ge a (nA row) with z | z
  · have q := h.old z
    obtain ⟨e, c16, cv⟩ := hV.2.2 a z
    rw [q.kN, q (20 + 947 * a + 2) (by omega) (by omega)]
    exact ⟨e, c16, fun c hc => q.clV (by omega) (cv c hc)⟩
  · have e : a = nA row := by omega
    subst e
    rw [h.c]
    refine ⟨h.2.2.2.1, h.2.2.2.2.1, fun c hc => ?_⟩
    obtain ⟨i, j, a1, a2, a3⟩ := h.z (List.getElem?_eq_getElem hc)
    exact a3.v (hk _ (List.getElem_mem hc)) a1 a2
theorem AcR.aw {row row' : Nat → Int32} {x1 x2 : Int32} {Cs : List Cls} (h : AcR row row' x1 x2 Cs) (hV : AV row) (hW : AW row) (n24 : nA row < 24) (hk : ∀ C ∈ Cs, HdK C) : AW row' := by
  intro a ha c hc
  rw [h.n n24] at ha
  rcases Nat.lt_or_ge a (nA row) with z | z
  · have q := h.old z
    obtain ⟨e, c16, cv⟩ := hV.2.2 a z
    rw [q.kN] at hc
    exact q.clW (by omega) (cv c hc) (hW a z c hc)
  · have e : a = nA row := by omega
    subst e
    rw [h.c] at hc
    obtain ⟨i, j, a1, a2, a3⟩ := h.z (List.getElem?_eq_getElem hc)
    exact a3.w (hk _ (List.getElem_mem hc)) a1 a2
theorem ClsC.cg {h s g cd h' s' g' cd' : Nat → Int32} : ∀ (Cs : List Cls) (cn m m' : Nat), ClsC h s g cd Cs cn m m' → (∀ t, t < cn + Cs.length → h' t = h t ∧ s' t = s t ∧ g' t = g t) → (∀ t, t < m' → cd' t = cd t) → ClsC h' s' g' cd' Cs cn m m' := by
  intro Cs
  induction Cs with
  | nil => intro cn m m' h _ _; exact h
  | cons C Cs ih =>
    intro cn m m' q e1 e2
    rw [ClsC_c] at q ⊢
    obtain ⟨m1, h1, h2, ⟨c1, c2, c3, c4, c5⟩, h4⟩ := q
    rw [List.length_cons] at e1
    have z := e1 cn (by omega)
    exact ⟨m1, h1, h2, ⟨by rw [z.1]; exact c1, by rw [z.2.1]; exact c2, by rw [z.2.2]; exact c3, fun w => (c4 w).cg (fun t t1 t2 => e2 t (by omega)), c5⟩, ih (cn + 1) m1 m' h4 (fun t ht => e1 t (by omega)) e2⟩
theorem ActC_new {row row' : Nat → Int32} {x1 x2 : Int32} {Cs : List Cls} {s : AH} {n b1 b2 b3 b4 sz : Nat} (hR : AcR row row' x1 x2 Cs) (hk : ∀ C ∈ Cs, HdK C) (o : kd s n = (0, NO 0) ∧ n < nx s ∧ 166 ≤ n) (g0 : gI s n 0 = x1) (g1 : gI s n 1 = x2) (g2 : gI s n 2 = nI Cs.length) (a3 : arrC s n 3 Cs.length b1) (a4 : arrC s n 4 Cs.length b2) (a5 : arrC s n 5 Cs.length b3) (a6 : arrC s n 6 sz b4) (hsz : sz ≤ 400) (hC : ClsC (gI s b1) (gI s b2) (gI s b3) (gI s b4) Cs 0 0 sz) : ActC row' s (nA row) n := by
  unfold ActC
  rw [hR.c]
  refine ⟨o, ⟨by rw [g0]; exact hR.2.1.symm, by rw [g1]; exact hR.2.2.1.symm, g2⟩, b1, b2, b3, b4, sz, a3, a4, a5, a6, hsz, fun c hc => ?_⟩
  obtain ⟨i, j, i1, i2, z⟩ := hR.z (List.getElem?_eq_getElem hc)
  obtain ⟨i', j', u1, u2, u3, w1, w2, w3, w4, w5⟩ := (ClsC_at Cs 0 0 sz hC).2 c _ (List.getElem?_eq_getElem hc)
  have k := hk _ (List.getElem_mem hc)
  have zv := fun st => z.val (st := st) k i1 i2
  rw [Nat.zero_add] at w1 w2 w3
  obtain ⟨⟨r0, r1, r2, r3⟩, r4, r5⟩ := z
  obtain ⟨k1, k2, k3, k4, k5, k6, k7⟩ := id k
  have cl0 : cl (row' (cA (nA row) c)) = Cs[c].1.1 := by rw [r0]; exact cl_nI (by omega)
  have cl1 : cl (row' (cA (nA row) c + 1)) = Cs[c].1.2.1 := by rw [r1]; exact cl_nI (by omega)
  have cl2 : cl (row' (cA (nA row) c + 2)) = Cs[c].1.2.2.1 := by rw [r2]; exact cl_nI (by omega)
  refine ⟨?_, fun e => ?_, ?_, i', by omega, w3, fun e st => ?_⟩
  · rw [w1]; unfold hdN hdV; rw [cl0]
    by_cases e : Cs[c].1.1 = 0
    · rw [if_pos e, if_pos e]
    · have m4 := (k4 e).2.2
      have cl3 : cl (row' (cA (nA row) c + 3)) = Cs[c].1.2.2.2 := by rw [r3]; exact cl_nI (by omega)
      rw [cl1, cl2, cl3]
  · have e0 : Cs[c].1.1 = 0 := by rw [← cl0, e]; rfl
    rw [w2, if_pos e0]; unfold stN; rw [cl1, cl2]
  · rw [w2]
    by_cases e0 : Cs[c].1.1 = 0
    · rw [if_pos e0]; exact isN_nI (by omega) (by omega)
    · rw [if_neg e0]; exact isN_nI (by decide) (by decide)
  · have e0 : Cs[c].1.1 ≠ 0 := fun q => e (by rw [r0, q]; rfl)
    rw [zv st e0]
    exact w4 e0 _ (fun _ _ _ => rfl) st sz 402 u3 (by omega)
/-! copies -/
def cpF (w k : Nat) (g : Nat → Int32) : Nat → Int32 := fun j => if j < w ∧ j < k then g j else 0
def cpS (σ : AH) (b w k o f : Nat) : AH := sR (sA (aw σ 100 k) (nx σ) (cpF w k (gI σ b))) o f (some (nx σ))
theorem cpO {σ : AH} {b k w : Nat} (hb : kd σ b = (100, w)) (hn : b < nx σ) (hk : k ≤ 2000000) (hw : w ≤ 2000000) (hx : 166 ≤ nx σ) : F_J7_copyOf_59c91 b (nI k) σ = some (nx σ, sA (aw σ 100 k) (nx σ) (cpF w k (gI σ b))) := by
  unfold F_J7_copyOf_59c91 cpF
  rw [hb, if_pos ⟨rfl, hn⟩, nI_clamp (by omega), if_pos ⟨(by rw [Int32.lt_iff_toInt_lt, nI_toInt (by omega), i0]; omega), hk, hw, hx⟩]
theorem cpS_nx {σ : AH} {b w k o f : Nat} : nx (cpS σ b w k o f) = nx σ + 1 := rfl
theorem cpS_sl {σ : AH} {b w k o f : Nat} : sl (cpS σ b w k o f) = sl σ + k := rfl
theorem cpS_kd {σ : AH} {b w k o f i : Nat} (h : i ≠ nx σ) : kd (cpS σ b w k o f) i = kd σ i := kd_aw_old h
theorem cpS_kn {σ : AH} {b w k o f : Nat} : kd (cpS σ b w k o f) (nx σ) = (100, k) := kd_aw_new
theorem cpS_gI {σ : AH} {b w k o f i : Nat} (h : i ≠ nx σ) : gI (cpS σ b w k o f) i = gI σ i := by unfold cpS; rw [gI_sR, gI_sA_row h, gI_aw_old h]
theorem cpS_gn {σ : AH} {b w k o f : Nat} : gI (cpS σ b w k o f) (nx σ) = cpF w k (gI σ b) := by unfold cpS; rw [gI_sR, gI_sA_own]
theorem cpS_gL {σ : AH} {b w k o f i : Nat} (h : i ≠ nx σ) : gL (cpS σ b w k o f) i = gL σ i := by unfold cpS; rw [gL_sR, gL_sA, gL_aw_old h]
theorem cpS_gR {σ : AH} {b w k o f i : Nat} (h : i ≠ nx σ) (ho : i ≠ o) : gR (cpS σ b w k o f) i = gR σ i := by unfold cpS; rw [gR_sR_row ho, gR_sA, gR_aw_old h]
theorem cpS_go {σ : AH} {b w k o f j : Nat} (h : o ≠ nx σ) : gR (cpS σ b w k o f) o j = if j = f then some (nx σ) else gR σ o j := by
  unfold cpS
  rw [gR_sR_own]
  by_cases e : j = f
  · rw [if_pos e, e, up_same]
  · rw [if_neg e, up_ne _ _ _ e, gR_sA, gR_aw_old h]
theorem cpS_gz {σ : AH} {b w k o f : Nat} (h : o ≠ nx σ) : gR (cpS σ b w k o f) (nx σ) = fun _ => none := by unfold cpS; rw [gR_sR_row (fun z => h z.symm), gR_sA, gR_aw_new]
theorem al_new {f : MI} {i : Nat} (hf : f.2.2.2.2.2 = true) (h : 166 ≤ i) : alB f i = true := by unfold alB; rw [hf]; simp [h]
end
