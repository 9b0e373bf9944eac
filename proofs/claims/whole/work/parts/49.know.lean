section
/-- a loop that fills places of a row with one number -/
theorem fill_gen {α : Type} {N cell g : Nat} {v : Int32} {G : Nat → Int32 → AH → α} {E : AH → α} (hs : ∀ f i σ, i < N → G (f + 1) (nI i) σ = G f (nI (i + 1)) (sI σ cell i v)) (he : ∀ f σ, G (f + 1) (nI N) σ = E σ) : ∀ (j i : Nat) (σ : AH), i + j = N → G (j + 1 + g) (nI i) σ = E (sA σ cell (fun q => if i ≤ q ∧ q < N then v else gI σ cell q)) := by
  intro j
  induction j with
  | zero =>
    intro i σ hi
    have : i = N := by omega
    subst this
    rw [show 0 + 1 + g = g + 1 by omega, he]
    congr 1
    rw [sA_self]
    funext q
    rw [if_neg (by omega)]
  | succ j ih =>
    intro i σ hi
    rw [show j + 1 + 1 + g = (j + 1 + g) + 1 by omega, hs _ _ _ (by omega), ih (i + 1) _ (by omega), sA_sI]
    congr 2
    funext q
    by_cases e : q = i
    · subst e
      rw [if_neg (by omega), if_pos ⟨Nat.le_refl _, by omega⟩, gI_sI_at]
    · by_cases h1 : i + 1 ≤ q ∧ q < N
      · rw [if_pos h1, if_pos ⟨by omega, h1.2⟩]
      · rw [if_neg h1, if_neg (by omega), gI_sI_ne e]
def filR (g : Nat → Int32) (N : Nat) (v : Int32) : Nat → Int32 := fun q => if 0 ≤ q ∧ q < N then v else g q
theorem filR_in {g : Nat → Int32} {N q : Nat} {v : Int32} (h : q < N) : filR g N v q = v := if_pos ⟨Nat.zero_le _, h⟩
theorem F_setOnly {r w : Int32} {σ : AH} : F_X12_setOnly r w σ = some (sI (sI (sA σ 136 (filR (gI σ 136) 8 0)) 136 1 r) 136 7 w) := by
  obtain ⟨g, hg⟩ := BIGe 8 (by decide)
  unfold F_X12_setOnly
  rw [hg, show (0 : Int32) = nI 0 from rfl]
  exact fill_gen (α := Option AH) (N := 8) (cell := 136) (v := 0) (G := fun f i s => F_X12_setOnly_2 f r w i s) (E := fun s => some (sI (sI s 136 1 r) 136 7 w)) (fun f i s h => by
    show B_X12_setOnly_2 (F_X12_setOnly_2 f) r w (nI i) s = _
    unfold B_X12_setOnly_2
    rw [fa_lit 8, if_neg (nI_ge h (by omega)), if_pos (inB_n h (by omega)), nI_clamp (by omega), nI_1]) (fun f s => by
    show B_X12_setOnly_2 (F_X12_setOnly_2 f) r w (nI 8) s = _
    unfold B_X12_setOnly_2
    rw [fa_lit 8, if_pos (nI_le (Nat.le_refl _) (by omega))]) 8 0 σ rfl
/-- the setting with rooms and week alone -/
def stO (r w : Int32) : Nat → Int32 := va_up (va_up (fun _ => 0) 1 r) 7 w
theorem F_setOnly' {r w : Int32} {σ : AH} : ∃ τ, F_X12_setOnly r w σ = some τ ∧ (∀ i, i < 8 → gI τ 136 i = stO r w i) ∧ Ch [136] [] σ τ := by
  refine ⟨_, F_setOnly, fun i hi => ?_, ((Ch.sA1 (by simp)).trans (Ch.sI1 (Or.inr (by simp)))).trans (Ch.sI1 (Or.inr (by simp)))⟩
  rw [gI_sI_own, gI_sI_own, gI_sA_own]
  unfold stO
  by_cases e7 : i = 7
  · subst e7; rw [up_same, up_same]
  · rw [up_ne _ _ _ e7, up_ne _ _ _ e7]
    by_cases e1 : i = 1
    · subst e1; rw [up_same, up_same]
    · rw [up_ne _ _ _ e1, up_ne _ _ _ e1, filR_in hi]
theorem rrun_congr {op ar st st' : Nat → Int32} {L : Nat} (h : ∀ i, i < 8 → st i = st' i) : ∀ (f k : Nat) (s : List Int64), rrun op ar st L f k s = rrun op ar st' L f k s := by
  intro f
  induction f with
  | zero => intro k s; rfl
  | succ f ih =>
    intro k s
    have hx : ∀ o : Int32, inB o 8 = true → st o.toNatClampNeg = st' o.toNatClampNeg := fun o ho => h _ (by
      have := inB_rg.mp ho
      rw [cl_toInt]; omega)
    unfold rrun
    by_cases c1 : L ≤ k
    · rw [if_pos c1, if_pos c1]
    · rw [if_neg c1, if_neg c1]
      by_cases c2 : op k < 8
      · rw [if_pos c2, if_pos c2]
        by_cases c3 : s.length < 400
        · rw [if_pos c3, if_pos c3]
          by_cases c4 : op k = 0
          · rw [if_pos c4, if_pos c4, ih]
          · rw [if_neg c4, if_neg c4]
            by_cases c5 : inB (op k) 8 = true
            · rw [if_pos c5, if_pos c5, ih, hx _ c5]
            · rw [if_neg c5, if_neg c5]
        · rw [if_neg c3, if_neg c3]
      · rw [if_neg c2, if_neg c2]
        simp only [ih]
theorem evR_congr {row st st' : Nat → Int32} {a i j : Nat} (h : ∀ i, i < 8 → st i = st' i) : evR row a i j st = evR row a i j st' := by unfold evR; rw [rrun_congr h]
theorem hv_congr {row st st' : Nat → Int32} {a c : Nat} (h : ∀ i, i < 8 → st i = st' i) : hv row st a c = hv row st' a c := by
  unfold hv; rw [evR_congr (st := st) (st' := st') h, evR_congr (i := (row (cA a c + 6)).toNatClampNeg) (st := st) (st' := st') h]
theorem hold_congr {row st st' : Nat → Int32} {k w : Int32} {a c : Nat} (h : ∀ i, i < 8 → st i = st' i) : hold row k w st a c = hold row k w st' a c := by unfold hold; rw [hv_congr h]
theorem fd_congr {row st st' : Nat → Int32} {k w h kd_ sg mt : Int32} (hs : ∀ i, i < 8 → st i = st' i) : fd row k w st h kd_ sg mt = fd row k w st' h kd_ sg mt := by
  have h1 : ∀ a s c, fdC row k w st h kd_ sg mt a s c = fdC row k w st' h kd_ sg mt a s c := by
    intro a s c
    induction c with
    | zero => rfl
    | succ c ih => unfold fdC; rw [ih, hold_congr hs]
  have h2 : ∀ a, fdA row k w st h kd_ sg mt a = fdA row k w st' h kd_ sg mt a := by
    intro a
    induction a with
    | zero => rfl
    | succ a ih => unfold fdA; rw [ih, h1]
  exact h2 _
/-- find, with the setting of the eight places -/
theorem F_find8 {row st : Nat → Int32} {k w h kd_ sg mt : Int32} {σ : AH} (hV : AV row) (hw : w ≠ -1) (hr : gI σ 125 = row) (hst : ∀ i, i < 8 → gI σ 136 i = st i) (hk : gI σ 124 23 = k) (hf : FI row k σ) :
    ∃ τ, F_X12_find h kd_ sg mt w σ = some (b2 (fd row k w st h kd_ sg mt).1, τ) ∧ gL τ 124 31 = (fd row k w st h kd_ sg mt).2.1 ∧ gL τ 124 32 = (fd row k w st h kd_ sg mt).2.2 ∧ FI row k τ ∧ Ch FDc FDf σ τ := by
  rw [← fd_congr (st := gI σ 136) (st' := st) hst]
  exact F_find hV hw hr rfl hk hf
def aln (x : Int64) : Int32 := if 0 ≤ x then x.toInt32 else 0
theorem F_aln {σ : AH} : F_X12_atLeastNought σ = some (aln (gL σ 124 31), σ) := by
  unfold F_X12_atLeastNought aln
  by_cases h : (0 : Int64) ≤ gL σ 124 31
  · rw [if_pos h, if_pos h]
  · rw [if_neg h, if_neg h]
/-- a need (material 5: the work) -/
def needV (row : Nat → Int32) (k : Int32) (kn sg mt rm w : Nat) : Int32 :=
  if 5 ≤ mt then (if (fd row k (nI w) (stO (nI rm) (nI w)) 2 (nI kn) (nI sg) 0).1 = true then aln (fd row k (nI w) (stO (nI rm) (nI w)) 2 (nI kn) (nI sg) 0).2.1 else 0)
  else (if (fd row k (nI w) (stO (nI rm) (nI w)) 1 (nI kn) (nI sg) (nI mt)).1 = true then aln (fd row k (nI w) (stO (nI rm) (nI w)) 1 (nI kn) (nI sg) (nI mt)).2.1 else 0)
def firstV (row : Nat → Int32) (k : Int32) (w : Nat) : Int32 := if (fd row k (nI w) (stO 0 (nI w)) 8 0 0 0).1 = true then (fd row k (nI w) (stO 0 (nI w)) 8 0 0 0).2.1.toInt32 else -1
def nIx (kn sg mt rm w : Nat) : Nat := (((w * 3 + kn) * 3 + sg) * 6 + mt) * 6 + rm - 1
def NC (row : Nat → Int32) (k : Int32) (g : Nat → Int32) : Prop := ∀ kn sg mt rm w, kn < 3 → sg < 3 → mt < 6 → 1 ≤ rm → rm ≤ 6 → w < 260 → g (nIx kn sg mt rm w) = -2 ∨ g (nIx kn sg mt rm w) = needV row k kn sg mt rm w
def FC (row : Nat → Int32) (k : Int32) (g : Nat → Int32) : Prop := ∀ w, w < 260 → g w = -2 ∨ g w = firstV row k w
/-- what the reference keeps of a WEEK of knowing is right -/
def KI (row : Nat → Int32) (k : Int32) (σ : AH) : Prop := gI σ 125 = row ∧ gI σ 124 23 = k ∧ FI row k σ ∧ NC row k (gI σ 138) ∧ FC row k (gI σ 139)
theorem KI.ch {row : Nat → Int32} {k : Int32} {σ τ : AH} {cs : List Nat} {fs : List (Nat × Nat)} (h : KI row k σ) (c : Ch cs fs σ τ) (hf : FI row k τ) (h1 : 125 ∉ cs) (h2 : 124 ∉ cs) (h3 : 138 ∉ cs) (h4 : 139 ∉ cs) (h5 : ∀ q ∈ fs, q.1 = 124 ∧ q.2 ≠ 23) : KI row k τ := by
  obtain ⟨a1, a2, a3, a4, a5⟩ := h
  refine ⟨?_, ?_, hf, ?_, ?_⟩
  · rw [c.rI h1 (fun q hq e => by have := (h5 q hq).1; omega)]; exact a1
  · rw [c.pI h2 (fun q => (h5 _ q).2 rfl)]; exact a2
  · rw [c.rI h3 (fun q hq e => by have := (h5 q hq).1; omega)]; exact a4
  · rw [c.rI h4 (fun q hq e => by have := (h5 q hq).1; omega)]; exact a5
theorem FI.ch {row : Nat → Int32} {k : Int32} {σ τ : AH} {cs : List Nat} {fs : List (Nat × Nat)} (h : FI row k σ) (c : Ch cs fs σ τ) (h1 : 134 ∉ cs) (h2 : 135 ∉ cs) (h3 : 124 ∉ cs) (h5 : ∀ q ∈ fs, q.1 ≠ 134 ∧ q.1 ≠ 135 ∧ q ≠ (124, 24)) : FI row k τ := by
  have e : gI τ 124 24 = gI σ 124 24 := c.pI h3 (fun q => (h5 _ q).2.2 rfl)
  rcases h with h | h
  · exact Or.inl (e.trans h)
  · refine Or.inr ?_
    rw [e]
    exact ⟨fun a ha => by rw [c.rI h1 (fun q hq => (h5 q hq).1)]; exact h.1 a ha, by rw [c.rI h2 (fun q hq => (h5 q hq).2.1)]; exact h.2⟩
theorem nI_neg1 {n : Nat} (h : n < 2 ^ 31) : nI n ≠ -1 := fun e => by
  have := congrArg Int32.toInt e
  rw [nI_toInt h] at this
  have h2 : (-1 : Int32).toInt = -1 := by decide
  omega
def NDc : List Nat := [134, 135, 136, 137, 138]
def NDf : List (Nat × Nat) := [(124, 24), (124, 29), (124, 30), (124, 31), (124, 32)]
theorem F_needOf {row : Nat → Int32} {k : Int32} {kn sg mt rm w : Nat} {σ : AH} (hV : AV row) (hK : KI row k σ) (h1 : kn < 3) (h2 : sg < 3) (h3 : mt < 6) (h4 : 1 ≤ rm) (h5 : rm ≤ 6) (h6 : w < 260) :
    ∃ τ, F_X12_needOf (nI kn) (nI sg) (nI mt) (nI rm) (nI w) σ = some (needV row k kn sg mt rm w, τ) ∧ KI row k τ ∧ Ch NDc NDf σ τ := by
  unfold F_X12_needOf
  have ei : ((((((((nI w * (3 : Int32)) + nI kn) * (3 : Int32)) + nI sg) * (6 : Int32)) + nI mt) * (6 : Int32)) + nI rm) - (1 : Int32) = nI (nIx kn sg mt rm w) := by
    simp only [fa_lit, nI_add, pk_mul]
    exact pk_sub (by omega)
  have hi : nIx kn sg mt rm w < 84240 := by unfold nIx; omega
  have q1 : inB (nI (nIx kn sg mt rm w)) 84240 = true := inB_n hi (by omega)
  have q2 : (nI (nIx kn sg mt rm w)).toNatClampNeg = nIx kn sg mt rm w := nI_clamp (by omega)
  simp only [ei, q1, q2, if_true]
  by_cases c : gI σ 138 (nIx kn sg mt rm w) = -2
  · rw [if_pos c]
    obtain ⟨σ1, s1, s2, s3⟩ := F_setOnly' (r := nI rm) (w := nI w) (σ := σ)
    have K1 : KI row k σ1 := hK.ch s3 (hK.2.2.1.ch s3 (by simp) (by simp) (by simp) (by simp)) (by simp) (by simp) (by simp) (by simp) (by simp)
    rw [s1, bv_some]
    have fin : ∀ (τ : AH) (b : Bool) (x : Int64), KI row k τ → gL τ 124 31 = x → Ch NDc NDf σ τ → (if b = true then aln x else 0) = needV row k kn sg mt rm w →
        ∃ τ', F_X12_needOf_73 (nI (nIx kn sg mt rm w)) (b2 b) τ = some (needV row k kn sg mt rm w, τ') ∧ KI row k τ' ∧ Ch NDc NDf σ τ' := by
      intro τ b x K2 hx c2 hn
      have end_ : ∀ y : Int32, y = needV row k kn sg mt rm w → ∃ τ', F_X12_needOf_94 (nI (nIx kn sg mt rm w)) y (nI (nIx kn sg mt rm w)) τ = some (needV row k kn sg mt rm w, τ') ∧ KI row k τ' ∧ Ch NDc NDf σ τ' := by
        intro y hy
        unfold F_X12_needOf_94 F_X12_needOf_95
        simp only [q1, q2, if_true]
        refine ⟨sI τ 138 (nIx kn sg mt rm w) y, ?_, ⟨K2.1, K2.2.1, ?_, ?_, K2.2.2.2.2⟩, c2.trans (Ch.sI1 (Or.inr (by simp [NDc])))⟩
        · rw [gI_sI_at, hy]
        · exact K2.2.2.1.ch (Ch.sI1 (cs := [138]) (fs := []) (Or.inr (by simp))) (by simp) (by simp) (by simp) (by simp)
        · intro kn' sg' mt' rm' w' g1 g2 g3 g4 g5 g6
          by_cases e : nIx kn' sg' mt' rm' w' = nIx kn sg mt rm w
          · rw [e, gI_sI_at, hy]
            unfold nIx at e
            have e1 : rm' = rm := by omega
            have e2 : mt' = mt := by omega
            have e3 : sg' = sg := by omega
            have e4 : kn' = kn := by omega
            have e5 : w' = w := by omega
            subst e1 e2 e3 e4 e5
            exact Or.inr rfl
          · rw [gI_sI_ne e]; exact K2.2.2.2.1 kn' sg' mt' rm' w' g1 g2 g3 g4 g5 g6
      unfold F_X12_needOf_73
      cases b with
      | false => rw [if_pos (by decide)]; exact end_ _ hn
      | true =>
        rw [if_neg (by decide), F_aln, bd_some, hx]
        exact end_ _ hn
    by_cases c5 : 5 ≤ mt
    · rw [fa_lit 5, if_pos (nI_le c5 (by omega))]
      obtain ⟨τ, t1, t2, t3, t4, t5⟩ := F_find8 (h := 2) (kd_ := nI kn) (sg := nI sg) (mt := 0) (w := nI w) hV (nI_neg1 (by omega)) K1.1 s2 K1.2.1 K1.2.2.1
      rw [t1, bd_some]
      refine fin τ _ _ (K1.ch t5 t4 (by simp [FDc]) (by simp [FDc]) (by simp [FDc]) (by simp [FDc]) (by simp [FDf])) t2 ((s3.mono (by simp [NDc]) (by simp)).trans (t5.mono (by simp [FDc, NDc]) (by simp [FDf, NDf]))) ?_
      unfold needV; rw [if_pos c5]
    · rw [fa_lit 5, if_neg (nI_ge (by omega) (by omega))]
      obtain ⟨τ, t1, t2, t3, t4, t5⟩ := F_find8 (h := 1) (kd_ := nI kn) (sg := nI sg) (mt := nI mt) (w := nI w) hV (nI_neg1 (by omega)) K1.1 s2 K1.2.1 K1.2.2.1
      rw [t1, bd_some]
      refine fin τ _ _ (K1.ch t5 t4 (by simp [FDc]) (by simp [FDc]) (by simp [FDc]) (by simp [FDc]) (by simp [FDf])) t2 ((s3.mono (by simp [NDc]) (by simp)).trans (t5.mono (by simp [FDc, NDc]) (by simp [FDf, NDf]))) ?_
      unfold needV; rw [if_neg c5]
  · rw [if_neg c]
    unfold F_X12_needOf_95
    rw [if_pos q1, q2]
    refine ⟨σ, ?_, hK, Ch.rf _⟩
    rcases hK.2.2.2.1 kn sg mt rm w h1 h2 h3 h4 h5 h6 with e | e
    · exact absurd e c
    · rw [e]
def NEc : List Nat := [134, 135, 136, 137, 139]
theorem F_firstOf {row : Nat → Int32} {k : Int32} {w : Nat} {σ : AH} (hV : AV row) (hK : KI row k σ) (h6 : w < 260) :
    ∃ τ, F_X12_firstOf (nI w) σ = some (firstV row k w, τ) ∧ KI row k τ ∧ Ch NEc NDf σ τ := by
  unfold F_X12_firstOf
  have q1 : inB (nI w) 260 = true := inB_n h6 (by omega)
  have q2 : (nI w).toNatClampNeg = w := nI_clamp (by omega)
  simp only [q1, q2, if_true]
  by_cases c : gI σ 139 w = -2
  · rw [if_pos c]
    obtain ⟨σ1, s1, s2, s3⟩ := F_setOnly' (r := 0) (w := nI w) (σ := σ)
    have K1 : KI row k σ1 := hK.ch s3 (hK.2.2.1.ch s3 (by simp) (by simp) (by simp) (by simp)) (by simp) (by simp) (by simp) (by simp) (by simp)
    rw [s1, bv_some]
    obtain ⟨τ, t1, t2, t3, t4, t5⟩ := F_find8 (h := 8) (kd_ := 0) (sg := 0) (mt := 0) (w := nI w) hV (nI_neg1 (by omega)) K1.1 s2 K1.2.1 K1.2.2.1
    rw [t1, bd_some]
    have K2 : KI row k τ := K1.ch t5 t4 (by simp [FDc]) (by simp [FDc]) (by simp [FDc]) (by simp [FDc]) (by simp [FDf])
    have c2 : Ch NEc NDf σ τ := (s3.mono (by simp [NEc]) (by simp)).trans (t5.mono (by simp [FDc, NEc]) (by simp [FDf, NDf]))
    have end_ : ∀ y : Int32, y = firstV row k w → ∃ τ', F_X12_firstOf_44 (nI w) y (nI w) τ = some (firstV row k w, τ') ∧ KI row k τ' ∧ Ch NEc NDf σ τ' := by
      intro y hy
      unfold F_X12_firstOf_44 F_X12_firstOf_45
      simp only [q1, q2, if_true]
      refine ⟨sI τ 139 w y, ?_, ⟨K2.1, K2.2.1, ?_, K2.2.2.2.1, ?_⟩, c2.trans (Ch.sI1 (Or.inr (by simp [NEc])))⟩
      · rw [gI_sI_at, hy]
      · exact K2.2.2.1.ch (Ch.sI1 (cs := [139]) (fs := []) (Or.inr (by simp))) (by simp) (by simp) (by simp) (by simp)
      · intro w' hw'
        by_cases e : w' = w
        · subst e; rw [gI_sI_at, hy]; exact Or.inr rfl
        · rw [gI_sI_ne e]; exact K2.2.2.2.2 w' hw'
    have hf : firstV row k w = if (fd row k (nI w) (stO 0 (nI w)) 8 0 0 0).1 = true then (fd row k (nI w) (stO 0 (nI w)) 8 0 0 0).2.1.toInt32 else -1 := rfl
    cases hb : (fd row k (nI w) (stO 0 (nI w)) 8 0 0 0).1 with
    | false => rw [if_pos (by decide)]; exact end_ _ (by rw [hf, hb]; rfl)
    | true => rw [if_neg (by decide), t2]; exact end_ _ (by rw [hf, hb]; rfl)
  · rw [if_neg c]
    unfold F_X12_firstOf_45
    rw [if_pos q1, q2]
    refine ⟨σ, ?_, hK, Ch.rf _⟩
    rcases hK.2.2.2.2 w h6 with e | e
    · exact absurd e c
    · rw [e]
theorem F_knowBy {k : Int32} {σ : AH} {row : Nat → Int32} (hr : gI σ 125 = row) : ∃ τ, F_X12_knowBy k σ = some τ ∧ KI row k τ ∧ gI τ 124 24 = -1 ∧ Ch [138, 139] [(124, 23), (124, 24)] σ τ := by
  unfold F_X12_knowBy
  obtain ⟨g, hg⟩ := BIGe 84240 (by decide)
  obtain ⟨g2, hg2⟩ := BIGe 260 (by decide)
  have L2 : ∀ s, F_X12_knowBy_34 BIG (0 : Int32) s = some (sA s 139 (filR (gI s 139) 260 (-2))) := by
    intro s
    rw [hg2, show (0 : Int32) = nI 0 from rfl]
    exact fill_gen (α := Option AH) (N := 260) (cell := 139) (v := -2) (G := fun f i s => F_X12_knowBy_34 f i s) (E := fun s => some s) (fun f i s h => by
      show B_X12_knowBy_34 (F_X12_knowBy_34 f) (nI i) s = _
      unfold B_X12_knowBy_34
      rw [fa_lit 260, if_neg (nI_ge h (by omega)), if_pos (inB_n h (by omega)), nI_clamp (by omega), nI_1]) (fun f s => by
      show B_X12_knowBy_34 (F_X12_knowBy_34 f) (nI 260) s = _
      unfold B_X12_knowBy_34
      rw [fa_lit 260, if_pos (nI_le (Nat.le_refl _) (by omega))]) 260 0 s rfl
  have L1 : ∀ s, F_X12_knowBy_12 BIG (0 : Int32) s = F_X12_knowBy_34 BIG (0 : Int32) (sA s 138 (filR (gI s 138) 84240 (-2))) := by
    intro s
    rw [hg, show (0 : Int32) = nI 0 from rfl]
    exact fill_gen (α := Option AH) (N := 84240) (cell := 138) (v := -2) (G := fun f i s => F_X12_knowBy_12 f i s) (E := fun s => F_X12_knowBy_34 (84240 + 1 + g) (nI 0) s) (fun f i s h => by
      show B_X12_knowBy_12 (F_X12_knowBy_12 f) (nI i) s = _
      unfold B_X12_knowBy_12
      rw [fa_lit 84240, if_neg (nI_ge h (by omega)), if_pos (inB_n h (by omega)), nI_clamp (by omega), nI_1]) (fun f s => by
      show B_X12_knowBy_12 (F_X12_knowBy_12 f) (nI 84240) s = _
      unfold B_X12_knowBy_12
      rw [fa_lit 84240, if_pos (nI_le (Nat.le_refl _) (by omega)), hg]; rfl) 84240 0 s rfl
  rw [L1, L2]
  refine ⟨_, rfl, ⟨?_, ?_, Or.inl ?_, ?_, ?_⟩, ?_, ?_⟩
  · exact hr
  · rw [gI_sA_row (by decide), gI_sA_row (by decide), gI_sI_ne (by decide), gI_sI_at]
  · rw [gI_sA_row (by decide), gI_sA_row (by decide), gI_sI_at]
  · rw [gI_sA_row (by decide), gI_sA_own]
    intro kn sg mt rm w g1 g2 g3 g4 g5 g6
    exact Or.inl (filR_in (by unfold nIx; omega))
  · rw [gI_sA_own]
    exact fun w hw => Or.inl (filR_in hw)
  · rw [gI_sA_row (by decide), gI_sA_row (by decide), gI_sI_at]
  · exact (((Ch.sI1 (Or.inl (by simp))).trans (Ch.sI1 (Or.inl (by simp)))).trans (Ch.sA1 (by simp))).trans (Ch.sA1 (by simp))
end
