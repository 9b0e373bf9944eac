section
/-! no value is BROKEN's own number -/
theorem rrun_bd {op ar st : Nat → Int32} {L : Nat} : ∀ (f k : Nat) (s : List Int64) (M : Int) (x : Int64), 2147483648 ≤ M → M + f ≤ 4611686018427387904 → (∀ v ∈ s, -M ≤ v.toInt ∧ v.toInt ≤ M) → rrun op ar st L f k s = some (some x) → -(M + f) ≤ x.toInt ∧ x.toInt ≤ M + f := by
  intro f
  induction f with
  | zero => intro k s M x _ _ _ h; cases h
  | succ f ih =>
    intro k s M x hM hf hs h
    unfold rrun at h
    have go : ∀ k' s', rrun op ar st L f k' s' = some (some x) → (∀ v ∈ s', -(M + 1) ≤ v.toInt ∧ v.toInt ≤ M + 1) → -(M + ((f + 1 : Nat) : Int)) ≤ x.toInt ∧ x.toInt ≤ M + ((f + 1 : Nat) : Int) := by
      intro k' s' h' hs'
      have := ih k' s' (M + 1) x (by omega) (by omega) hs' h'
      omega
    have w1 : ∀ v ∈ s, -(M + 1) ≤ v.toInt ∧ v.toInt ≤ M + 1 := fun v hv => by have := hs v hv; omega
    have i32 : ∀ y : Int32, -(M + 1) ≤ y.toInt64.toInt ∧ y.toInt64.toInt ≤ M + 1 := fun y => by
      rw [Int32.toInt_toInt64]
      have h1 := Int32.toInt_lt y
      have h2 := Int32.le_toInt y
      omega
    by_cases c1 : L ≤ k
    · rw [if_pos c1] at h
      cases h
      unfold bot
      rcases Nat.eq_zero_or_pos s.length with z | z
      · have : s = [] := List.eq_nil_of_length_eq_zero z
        subst this
        show -(M + ((f + 1 : Nat) : Int)) ≤ (0 : Int64).toInt ∧ (0 : Int64).toInt ≤ M + ((f + 1 : Nat) : Int)
        have : (0 : Int64).toInt = 0 := by decide
        omega
      · have hm : s.getD (s.length - 1) 0 ∈ s := by
          simp only [List.getD]
          have hlt : s.length - 1 < s.length := by omega
          rw [List.getElem?_eq_getElem hlt]
          exact List.getElem_mem hlt
        have := hs _ hm
        omega
    · rw [if_neg c1] at h
      by_cases c2 : op k < 8
      · rw [if_pos c2] at h
        split at h
        · split at h
          · exact go _ _ h (fun v hv => by
              rcases List.mem_cons.mp hv with rfl | hv
              · exact i32 _
              · exact w1 v hv)
          · split at h
            · exact go _ _ h (fun v hv => by
                rcases List.mem_cons.mp hv with rfl | hv
                · exact i32 _
                · exact w1 v hv)
            · cases h
        · cases h
      · rw [if_neg c2] at h
        by_cases c3 : op k < 17
        · rw [if_pos c3] at h
          match s, h, w1 with
          | [], h, _ => cases h
          | [_], h, _ => cases h
          | b :: a :: t, h, w1 =>
            dsimp only at h
            cases hr : rk (op k) a b with
            | none => rw [hr] at h; cases h
            | some v =>
              rw [hr] at h
              refine go _ _ h (fun u hu => ?_)
              rcases List.mem_cons.mp hu with rfl | hu
              · rw [rk_rkv] at hr
                split at hr
                · cases hr
                · unfold chk at hr
                  split at hr
                  · rename_i _ q
                    cases hr
                    have q1 := Int64.le_iff_toInt_le.mp q.1
                    have q2 := Int64.le_iff_toInt_le.mp q.2
                    have e1 : (-1000000000 : Int64).toInt = -1000000000 := by decide
                    have e2 : (1000000000 : Int64).toInt = 1000000000 := by decide
                    omega
                  · cases hr
              · exact w1 u (List.mem_cons_of_mem _ (List.mem_cons_of_mem _ hu))
        · rw [if_neg c3] at h
          match s, h, hs, w1 with
          | [], h, _, _ => cases h
          | a :: t, h, hs, w1 =>
            dsimp only at h
            have wt : ∀ v ∈ t, -(M + 1) ≤ v.toInt ∧ v.toInt ≤ M + 1 := fun v hv => w1 v (List.mem_cons_of_mem _ hv)
            split at h
            · refine go _ _ h (fun u hu => ?_)
              rcases List.mem_cons.mp hu with rfl | hu
              · have ha := hs a List.mem_cons_self
                have e1 : (1 : Int64).toInt = 1 := by decide
                have : (1 - a).toInt = 1 - a.toInt := by
                  rw [Int64.toInt_sub, e1]
                  exact Int.bmod_eq_of_le (by omega) (by omega)
                omega
              · exact wt u hu
            · by_cases c4 : a = (if op k = 18 then 0 else 1)
              · rw [if_pos c4] at h
                by_cases c5 : inB (ar k) 401 = true
                · rw [if_pos c5] at h; exact go _ _ h w1
                · rw [if_neg c5] at h; cases h
              · rw [if_neg c4] at h; exact go _ _ h wt
theorem evR_brk {row st : Nat → Int32} {a i j : Nat} {x : Int64} (h : evR row a i j st = some x) : x ≠ BRK := by
  unfold evR at h
  cases e : rrun (opA row a) (arA row a) st j 401 i [] with
  | none => rw [e] at h; cases h
  | some v =>
    rw [e] at h
    have hv : v = some x := h
    subst hv
    have := rrun_bd 401 i [] 2147483648 x (by omega) (by omega) (fun v hv => by cases hv) e
    intro q
    rw [q] at this
    have e2 : BRK.toInt = -4000000000000000000 := by decide
    omega
theorem hv_brk {row st : Nat → Int32} {a c : Nat} {x : Int64} (h : hv row st a c = some x) : x ≠ BRK := by
  unfold hv at h
  split at h
  · cases h
  · split at h
    · exact evR_brk h
    · split at h
      · cases h
      · split at h
        · cases h
        · exact evR_brk h
theorem cvv_brk {row st : Nat → Int32} {a c : Nat} {x : Int64} (h : cvv row st a c = some x) : x ≠ BRK := by
  unfold cvv at h
  split at h
  · cases e : hv row st a c with
    | none => rw [e] at h; cases h
    | some v =>
      rw [e] at h
      have : (row (cA a c + 1)).toInt64 = x := by simpa using h
      intro q
      rw [q] at this
      have h2 := congrArg Int64.toInt this
      rw [Int32.toInt_toInt64] at h2
      have e2 : BRK.toInt = -4000000000000000000 := by decide
      have h3 := Int32.le_toInt (row (cA a c + 1))
      omega
  · exact hv_brk h
/-! places of CLAUSES: 16 times the ACT and the CLAUSE -/
def okP (row : Nat → Int32) (p : Nat) : Bool := decide (p / 16 < nA row ∧ p % 16 < clN row (p / 16))
def hdP (row : Nat → Int32) (p : Nat) : Nat := hdN row (p / 16) (p % 16)
def prv (row : Nat → Int32) (h : Nat) : Nat → Option Nat := fun p => match p with
  | 0 => none
  | p + 1 => if okP row p = true ∧ hdP row p = h then some p else prv row h p
theorem prv_lt {row : Nat → Int32} {h : Nat} : ∀ p q, prv row h p = some q → q < p ∧ okP row q = true ∧ hdP row q = h := by
  intro p
  induction p with
  | zero => intro q e; cases e
  | succ p ih =>
    intro q e
    unfold prv at e
    split at e
    · rename_i z; cases e; exact ⟨by omega, z⟩
    · obtain ⟨a, b⟩ := ih q e; exact ⟨by omega, b⟩
def ChnOK (row : Nat → Int32) (σ : AH) : Prop := (∀ h, h < 63 → gI σ 29 h = oI (prv row h 384)) ∧ ∀ p, p < 384 → okP row p = true → gI σ 30 p = oI (prv row (hdP row p) p)
/-- what a CLAUSE tells in the class, if it HOLDS -/
def hC (row : Nat → Int32) (k w : Int32) (st : Nat → Int32) (p : Nat) : Option Int64 := if fbit row k w (p / 16) (p % 16) = true then cvv row (st8 st) (p / 16) (p % 16) else none
theorem F_evaluate {row : Nat → Int32} {k w : Int32} {p : Nat} {σ : AH} (hV : AV row) (hA : ActsC row σ) (hF : FdOK row k w (gI σ 31)) (hp : okP row p = true) (h0 : hdP row p ≠ 62) : ∃ τ, F_X3_evaluate (nI p) σ = some (ob (hC row k w (gI σ 32) p), τ) ∧ Ch [33] [] σ τ := by
  have hn := hV.2.1
  obtain ⟨p1, p2⟩ := of_decide_eq_true hp
  obtain ⟨b, eb, hAb⟩ := hA.2 (p / 16) p1
  obtain ⟨⟨k1, k2, k3⟩, _, h, s, g, d, L, a1, a2, a3, a4, a5, a6⟩ := hAb
  have hc16 := (hV.2.2 (p / 16) p1).2.1
  unfold F_X3_evaluate
  have d1 : nI p / (16 : Int32) = nI (p / 16) := pk_div (d := 16) (by omega) (by decide) (by decide)
  have d2 : nI p - nI (p / 16) * (16 : Int32) = nI (p % 16) := by
    rw [← d1]; exact pk_rem (d := 16) (by omega) (by decide) (by decide)
  rw [d1, d2, if_pos (inB_n (by omega) (by omega)), nI_clamp (by omega), eb, on_some, if_pos ⟨k1, k2⟩, F_isForced hV p1 (by omega) hF, bd_some]
  unfold hC
  cases hf : fbit row k w (p / 16) (p % 16) with
  | false =>
    rw [if_pos (by decide), if_neg (by decide)]
    exact ⟨σ, rfl, Ch.rf _⟩
  | true =>
    obtain ⟨_, _, _, i, hi, ei, hcr⟩ := a6 (p % 16) p2
    have hne : row (cA (p / 16) (p % 16)) ≠ 0 := fun z => h0 (by
      unfold hdP hdN
      have : cl (row (cA (p / 16) (p % 16))) = 0 := by rw [z]; rfl
      rw [if_pos this])
    rw [if_neg (by decide), if_pos rfl, a4.1, bo_some, if_pos ⟨by rw [a4.2.1], a4.2.2.1⟩, a3.1, bo_some, if_pos ⟨by rw [a3.2.1], a3.2.2.1⟩, a3.2.1, if_pos (inB_n p2 (by omega)), nI_clamp (by omega), ei]
    obtain ⟨g2, hg2⟩ := BIGe 402 (by decide)
    obtain ⟨τ, t1, t2⟩ := eval_loop (b := d) (L := L) (g := 1 + g2) a5 402 i [] σ _ a4.2.1 a4.2.2.1 rfl rfl StkR.nil (by decide) hi (by have := a4.2.2.2; omega) (hcr hne (gI σ 32))
    refine ⟨τ, ?_, t2⟩
    rw [hg2, show 402 + 1 + g2 = 402 + (1 + g2) by omega]
    exact t1
def lst (row : Nat → Int32) (k w : Int32) (st : Nat → Int32) (h : Nat) : Nat → Option Int64 := fun p => match p with
  | 0 => none
  | p + 1 => if okP row p = true ∧ hdP row p = h then (match hC row k w st p with | some x => some x | none => lst row k w st h p) else lst row k w st h p
def tot (row : Nat → Int32) (k w : Int32) (st : Nat → Int32) (h : Nat) : Nat → Int64 := fun p => match p with
  | 0 => 0
  | p + 1 => if okP row p = true ∧ hdP row p = h then (match hC row k w st p with | some x => tot row k w st h p + x | none => tot row k w st h p) else tot row k w st h p
theorem lst_prv {row : Nat → Int32} {k w : Int32} {st : Nat → Int32} {h : Nat} : ∀ p, lst row k w st h p = match prv row h p with | none => none | some q => (match hC row k w st q with | some x => some x | none => lst row k w st h q) := by
  intro p
  induction p with
  | zero => rfl
  | succ p ih =>
    have e1 : lst row k w st h (p + 1) = if okP row p = true ∧ hdP row p = h then (match hC row k w st p with | some x => some x | none => lst row k w st h p) else lst row k w st h p := rfl
    have e2 : prv row h (p + 1) = if okP row p = true ∧ hdP row p = h then some p else prv row h p := rfl
    rw [e1, e2]
    by_cases c : okP row p = true ∧ hdP row p = h
    · rw [if_pos c, if_pos c]
    · rw [if_neg c, if_neg c]; exact ih
theorem tot_prv {row : Nat → Int32} {k w : Int32} {st : Nat → Int32} {h : Nat} : ∀ p, tot row k w st h p = match prv row h p with | none => 0 | some q => (match hC row k w st q with | some x => tot row k w st h q + x | none => tot row k w st h q) := by
  intro p
  induction p with
  | zero => rfl
  | succ p ih =>
    have e1 : tot row k w st h (p + 1) = if okP row p = true ∧ hdP row p = h then (match hC row k w st p with | some x => tot row k w st h p + x | none => tot row k w st h p) else tot row k w st h p := rfl
    have e2 : prv row h (p + 1) = if okP row p = true ∧ hdP row p = h then some p else prv row h p := rfl
    rw [e1, e2]
    by_cases c : okP row p = true ∧ hdP row p = h
    · rw [if_pos c, if_pos c]
    · rw [if_neg c, if_neg c]; exact ih
theorem hC_brk {row : Nat → Int32} {k w : Int32} {st : Nat → Int32} {p : Nat} {x : Int64} (h : hC row k w st p = some x) : x ≠ BRK := by
  unfold hC at h
  split at h
  · exact cvv_brk h
  · cases h
def cnA (x : Option Int64) : Int32 := match x with | none => -1 | some v => aln v
theorem counted_loop {row : Nat → Int32} {k w : Int32} {st : Nat → Int32} {h g : Nat} (hV : AV row) (hh : h < 62) : ∀ (j p i : Nat) (σ : AH), p ≤ j → p + i ≤ 384 → ActsC row σ → FdOK row k w (gI σ 31) → ChnOK row σ → gI σ 32 = st →
    ∃ τ, F_X3_counted_9 (j + 1 + g) (oI (prv row h p)) (nI i) σ = some (cnA (lst row k w st h p), τ) ∧ Ch [33] [] σ τ := by
  intro j
  induction j with
  | zero =>
    intro p i σ hp hi hA hF hCn hst
    have e : F_X3_counted_9 (0 + 1 + g) = B_X3_counted_9 (F_X3_counted_9 g) := by rw [show 0 + 1 + g = g + 1 by omega]; rfl
    have : p = 0 := by omega
    subst this
    rw [e]; unfold B_X3_counted_9
    rw [show oI (prv row h 0) = -1 from rfl]
    rw [show lst row k w st h 0 = none from rfl, if_pos (show (-1 : Int32) < 0 by decide), ite_self]
    exact ⟨σ, rfl, Ch.rf _⟩
  | succ j ih =>
    intro p i σ hp hi hA hF hCn hst
    have e : F_X3_counted_9 (j + 1 + 1 + g) = B_X3_counted_9 (F_X3_counted_9 (j + 1 + g)) := by rw [show j + 1 + 1 + g = (j + 1 + g) + 1 by omega]; rfl
    rw [e]; unfold B_X3_counted_9
    rw [lst_prv]
    cases hp2 : prv row h p with
    | none =>
      rw [show oI none = -1 from rfl, if_pos (show (-1 : Int32) < 0 by decide), ite_self]
      exact ⟨σ, rfl, Ch.rf _⟩
    | some q =>
      obtain ⟨q1, q2, q3⟩ := prv_lt p q hp2
      rw [show oI (some q) = nI q from rfl, fa_lit 384, if_neg (nI_ge (by omega) (by omega)), if_neg (nI_pos (by omega))]
      obtain ⟨τ, t1, t2⟩ := F_evaluate (k := k) (w := w) hV hA hF q2 (by omega)
      rw [t1, bd_some, hst]
      dsimp only
      cases hc : hC row k w st q with
      | some x =>
        rw [show ob (some x) = x from rfl, if_neg (hC_brk hc)]
        show ∃ τ', (if (0 : Int64) ≤ x then some (x.toInt32, τ) else some (0, τ)) = some (aln x, τ') ∧ _
        unfold aln
        by_cases z : (0 : Int64) ≤ x
        · rw [if_pos z, if_pos z]; exact ⟨τ, rfl, t2⟩
        · rw [if_neg z, if_neg z]; exact ⟨τ, rfl, t2⟩
      | none =>
        rw [show ob none = BRK from rfl, if_pos rfl, if_pos (inB_n (by omega) (by omega)), nI_clamp (by omega)]
        have hC2 : ChnOK row τ := ⟨fun h' hh' => by rw [t2.rI (by simp) (by simp)]; exact hCn.1 h' hh', fun p' hp' ho => by rw [t2.rI (by simp) (by simp)]; exact hCn.2 p' hp' ho⟩
        rw [hC2.2 q (by omega) q2, q3, nI_1]
        obtain ⟨τ2, u1, u2⟩ := ih q (i + 1) τ (by omega) (by omega) (hA.ch t2 (by simp) (by simp)) (by rw [t2.rI (by simp) (by simp)]; exact hF) hC2 (by rw [t2.rI (by simp) (by simp)]; exact hst)
        exact ⟨τ2, u1, t2.trans u2⟩
theorem F_counted {row : Nat → Int32} {k w : Int32} {st : Nat → Int32} {h : Nat} {σ : AH} (hV : AV row) (hh : h < 62) (hA : ActsC row σ) (hF : FdOK row k w (gI σ 31)) (hCn : ChnOK row σ) (hst : gI σ 32 = st) : ∃ τ, F_X3_counted (nI h) σ = some (cnA (lst row k w st h 384), τ) ∧ Ch [33] [] σ τ := by
  unfold F_X3_counted
  rw [if_pos (inB_n (by omega) (by omega)), nI_clamp (by omega), hCn.1 h (by omega)]
  obtain ⟨g, hg⟩ := BIGe 384 (by decide)
  rw [hg]
  exact counted_loop hV hh 384 384 0 σ (Nat.le_refl _) (by omega) hA hF hCn hst
theorem total_loop {row : Nat → Int32} {k w : Int32} {st : Nat → Int32} {h g : Nat} (hV : AV row) (hh : h < 62) : ∀ (j p i : Nat) (acc : Int64) (σ : AH), p ≤ j → p + i ≤ 384 → ActsC row σ → FdOK row k w (gI σ 31) → ChnOK row σ → gI σ 32 = st →
    ∃ τ, F_X3_total_13 (j + 1 + g) acc (oI (prv row h p)) (nI i) σ = some (acc + tot row k w st h p, τ) ∧ Ch [33] [] σ τ := by
  intro j
  induction j with
  | zero =>
    intro p i acc σ hp hi hA hF hCn hst
    have e : F_X3_total_13 (0 + 1 + g) = B_X3_total_13 (F_X3_total_13 g) := by rw [show 0 + 1 + g = g + 1 by omega]; rfl
    have : p = 0 := by omega
    subst this
    rw [e]; unfold B_X3_total_13
    rw [show oI (prv row h 0) = -1 from rfl, show tot row k w st h 0 = 0 from rfl, if_pos (show (-1 : Int32) < 0 by decide), ite_self, Int64.add_zero]
    exact ⟨σ, rfl, Ch.rf _⟩
  | succ j ih =>
    intro p i acc σ hp hi hA hF hCn hst
    have e : F_X3_total_13 (j + 1 + 1 + g) = B_X3_total_13 (F_X3_total_13 (j + 1 + g)) := by rw [show j + 1 + 1 + g = (j + 1 + g) + 1 by omega]; rfl
    rw [e]; unfold B_X3_total_13 F_X3_total_50
    rw [tot_prv]
    cases hp2 : prv row h p with
    | none =>
      rw [show oI none = -1 from rfl, if_pos (show (-1 : Int32) < 0 by decide), ite_self]
      exact ⟨σ, by rw [Int64.add_zero], Ch.rf _⟩
    | some q =>
      obtain ⟨q1, q2, q3⟩ := prv_lt p q hp2
      rw [show oI (some q) = nI q from rfl, fa_lit 384, if_neg (nI_ge (by omega) (by omega)), if_neg (nI_pos (by omega))]
      obtain ⟨τ, t1, t2⟩ := F_evaluate (k := k) (w := w) hV hA hF q2 (by omega)
      rw [t1, bd_some, hst]
      have hC2 : ChnOK row τ := ⟨fun h' hh' => by rw [t2.rI (by simp) (by simp)]; exact hCn.1 h' hh', fun p' hp' ho => by rw [t2.rI (by simp) (by simp)]; exact hCn.2 p' hp' ho⟩
      have q4 : inB (nI q) 384 = true := inB_n (by omega) (by omega)
      have n4 : (nI q).toNatClampNeg = q := nI_clamp (by omega)
      simp only [q4, n4, if_true, hC2.2 q (by omega) q2, q3, nI_1]
      have hi2 := fun acc' => ih q (i + 1) acc' τ (by omega) (by omega) (hA.ch t2 (by simp) (by simp)) (by rw [t2.rI (by simp) (by simp)]; exact hF) hC2 (by rw [t2.rI (by simp) (by simp)]; exact hst)
      cases hc : hC row k w st q with
      | some x =>
        rw [show ob (some x) = x from rfl, if_neg (hC_brk hc)]
        obtain ⟨τ2, u1, u2⟩ := hi2 (acc + x)
        refine ⟨τ2, ?_, t2.trans u2⟩
        rw [u1]
        dsimp only
        rw [Int64.add_assoc, Int64.add_comm x]
      | none =>
        rw [show ob none = BRK from rfl, if_pos rfl]
        obtain ⟨τ2, u1, u2⟩ := hi2 acc
        exact ⟨τ2, u1, t2.trans u2⟩
theorem F_total {row : Nat → Int32} {k w : Int32} {st : Nat → Int32} {h : Nat} {σ : AH} (hV : AV row) (hh : h < 62) (hA : ActsC row σ) (hF : FdOK row k w (gI σ 31)) (hCn : ChnOK row σ) (hst : gI σ 32 = st) : ∃ τ, F_X3_total (nI h) σ = some (tot row k w st h 384, τ) ∧ Ch [33] [] σ τ := by
  unfold F_X3_total
  rw [if_pos (inB_n (by omega) (by omega)), nI_clamp (by omega), hCn.1 h (by omega)]
  obtain ⟨g, hg⟩ := BIGe 384 (by decide)
  rw [hg]
  obtain ⟨τ, t1, t2⟩ := total_loop (g := g) (k := k) (w := w) hV hh 384 384 0 0 σ (Nat.le_refl _) (by omega) hA hF hCn hst
  rw [Int64.zero_add] at t1
  exact ⟨τ, t1, t2⟩
end
