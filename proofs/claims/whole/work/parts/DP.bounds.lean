section
/-! what a SUM can come to, where NUMBERS go up to 10,000 -/
def rgM (v : Int64) : Prop := -1000000000 ≤ v.toInt ∧ v.toInt ≤ 1000000000
def AX (row : Nat → Int32) : Prop := ∀ a, a < nA row → ∀ c, c < clN row a → ∀ q, cl (row (cA a c + 4)) ≤ q → q < cl (row (cA a c + 5)) → ∃ r, r ≤ 10000 ∧ arA row a q = nI r
theorem rgM_nI {y : Int32} (h : ∃ r, r ≤ 10000 ∧ y = nI r) : rgM y.toInt64 := by
  obtain ⟨r, h1, h2⟩ := h
  unfold rgM
  rw [Int32.toInt_toInt64, h2, nI_toInt (by omega)]
  omega
theorem rrun_rgM {op ar st : Nat → Int32} {L k0 : Nat} (ho : ∀ q, k0 ≤ q → q < L → op q < 17) (ha : ∀ q, k0 ≤ q → q < L → ∃ r, r ≤ 10000 ∧ ar q = nI r) (hst : ∀ i, ∃ r, r ≤ 10000 ∧ st i = nI r) : ∀ (f k : Nat) (s : List Int64) (x : Int64), k0 ≤ k → (∀ v ∈ s, rgM v) → rrun op ar st L f k s = some (some x) → rgM x := by
  intro f
  induction f with
  | zero => intro k s x _ _ h; cases h
  | succ f ih =>
    intro k s x hk hs h
    unfold rrun at h
    by_cases c1 : L ≤ k
    · rw [if_pos c1] at h
      cases h
      unfold bot
      rcases Nat.eq_zero_or_pos s.length with z | z
      · have : s = [] := List.eq_nil_of_length_eq_zero z
        subst this
        show rgM 0
        unfold rgM
        have : (0 : Int64).toInt = 0 := by decide
        omega
      · have hm : s.getD (s.length - 1) 0 ∈ s := by
          simp only [List.getD]
          have hlt : s.length - 1 < s.length := by omega
          rw [List.getElem?_eq_getElem hlt]
          exact List.getElem_mem hlt
        exact hs _ hm
    · rw [if_neg c1] at h
      by_cases c2 : op k < 8
      · rw [if_pos c2] at h
        split at h
        · split at h
          · exact ih _ _ x (by omega) (fun v hv => by
              rcases List.mem_cons.mp hv with rfl | hv
              · exact rgM_nI (ha k hk (by omega))
              · exact hs v hv) h
          · split at h
            · exact ih _ _ x (by omega) (fun v hv => by
                rcases List.mem_cons.mp hv with rfl | hv
                · exact rgM_nI (hst _)
                · exact hs v hv) h
            · cases h
        · cases h
      · rw [if_neg c2, if_pos (ho k hk (by omega))] at h
        match s, h, hs with
        | [], h, _ => cases h
        | [_], h, _ => cases h
        | b :: a :: t, h, hs =>
          dsimp only at h
          cases hr : rk (op k) a b with
          | none => rw [hr] at h; cases h
          | some v =>
            rw [hr] at h
            refine ih _ _ x (by omega) (fun u hu => ?_) h
            rcases List.mem_cons.mp hu with rfl | hu
            · rw [rk_rkv] at hr
              split at hr
              · cases hr
              · unfold chk at hr
                split at hr
                · rename_i _ q
                  cases hr
                  have q1 := Int64.le_iff_toInt_le.mp q.1
                  have q2 := Int64.le_iff_toInt_le.mp q.2
                  have e1 : (-1000000000 : Int64).toInt = -1000000000 := by decide
                  have e2 : (1000000000 : Int64).toInt = 1000000000 := by decide
                  unfold rgM
                  omega
                · cases hr
            · exact hs u (List.mem_cons_of_mem _ (List.mem_cons_of_mem _ hu))
theorem hv_rgM {row st : Nat → Int32} {a c : Nat} {x : Int64} (hW : ClW row a c) (hX : ∀ q, cl (row (cA a c + 4)) ≤ q → q < cl (row (cA a c + 5)) → ∃ r, r ≤ 10000 ∧ arA row a q = nI r) (hst : ∀ i, ∃ r, r ≤ 10000 ∧ st i = nI r) (h : hv row st a c = some x) : rgM x := by
  have ev : ∀ y, evR row a (row (cA a c + 4)).toNatClampNeg (row (cA a c + 5)).toNatClampNeg st = some y → rgM y := by
    intro y hy
    unfold evR at hy
    cases e : rrun (opA row a) (arA row a) st (row (cA a c + 5)).toNatClampNeg 401 (row (cA a c + 4)).toNatClampNeg [] with
    | none => rw [e] at hy; cases hy
    | some v =>
      rw [e] at hy
      have hv : v = some y := hy
      subst hv
      exact rrun_rgM hW.2.2.2.2 hX hst 401 _ [] y (Nat.le_refl _) (fun v hv => by cases hv) e
  unfold hv at h
  split at h
  · cases h
  · split at h
    · exact ev x h
    · split at h
      · cases h
      · split at h
        · cases h
        · exact ev x h
theorem fdA_rgM {row st : Nat → Int32} {k w H K S T : Int32} (hW : AW row) (hX : AX row) (hst : ∀ i, ∃ r, r ≤ 10000 ∧ st i = nI r) (h8 : H ≠ 8) : ∀ a, a ≤ nA row → (fdA row k w st H K S T a).1 = true → rgM (fdA row k w st H K S T a).2.1 := by
  intro a
  induction a with
  | zero => intro _ h; cases h
  | succ a ih =>
    intro ha
    have hc : ∀ c, c ≤ clN row a → (fdC row k w st H K S T a (fdA row k w st H K S T a) c).1 = true → rgM (fdC row k w st H K S T a (fdA row k w st H K S T a) c).2.1 := by
      intro c
      induction c with
      | zero => intro _; exact ih (by omega)
      | succ c ih2 =>
        intro hc
        have e : fdC row k w st H K S T a (fdA row k w st H K S T a) (c + 1) = if itsB row H K S T a c = true then (match hold row k w st a c with | none => fdC row k w st H K S T a (fdA row k w st H K S T a) c | some x => (true, if H = 8 then (row (cA a c + 1)).toInt64 else x, (fdC row k w st H K S T a (fdA row k w st H K S T a) c).2.2 + x)) else fdC row k w st H K S T a (fdA row k w st H K S T a) c := rfl
        rw [e]
        by_cases c1 : itsB row H K S T a c = true
        · rw [if_pos c1]
          cases hh : hold row k w st a c with
          | none => exact ih2 (by omega)
          | some x =>
            intro _
            show rgM (if H = 8 then (row (cA a c + 1)).toInt64 else x)
            rw [if_neg h8]
            unfold hold at hh
            split at hh
            · split at hh
              · cases hh
              · exact hv_rgM (hW a (by omega) c (by omega)) (hX a (by omega) c (by omega)) hst hh
            · cases hh
        · rw [if_neg c1]; exact ih2 (by omega)
    exact hc _ (Nat.le_refl _)
theorem AX_sq {row : Nat → Int32} (hW : AW row) (hX : AX row) : ∀ x, rgB 0 259 x = true → x ≤ sqL row x := by
  intro x hx
  have hx' := rgB_iff.mp hx
  unfold rg at hx'
  have xN : isN x 260 := isN.of hx'.1 (by omega)
  unfold sqL
  by_cases c : (fd row x x (stO 0 x) 7 0 0 0).1 = true
  · rw [if_pos c]
    have hr : rgM (fd row x x (stO 0 x) 7 0 0 0).2.1 := by
      unfold fd at c ⊢
      refine fdA_rgM hW hX (fun i => ?_) (by decide) _ (Nat.le_refl _) c
      unfold stO
      by_cases i7 : i = 7
      · rw [i7, up_same]; exact ⟨cl x, by have := xN.2; omega, xN.1⟩
      · rw [up_ne _ _ _ i7]
        by_cases i1 : i = 1
        · rw [i1, up_same]; exact ⟨0, by omega, rfl⟩
        · rw [up_ne _ _ _ i1]; exact ⟨0, by omega, rfl⟩
    generalize (fd row x x (stO 0 x) 7 0 0 0).2.1 = v at hr
    have ha : 0 ≤ (aln v).toInt ∧ (aln v).toInt ≤ 1000000000 := by
      unfold aln
      by_cases z : (0 : Int64) ≤ v
      · rw [if_pos z, Int64.toInt_toInt32, Int.bmod_eq_of_le (by have := hr.1; omega) (by have := hr.2; omega)]
        have := Int64.le_iff_toInt_le.mp z
        have e0 : (0 : Int64).toInt = 0 := by decide
        exact ⟨by omega, hr.2⟩
      · rw [if_neg z, i0]; omega
    rw [Int32.le_iff_toInt_le, Int32.toInt_add, Int.bmod_eq_of_le (by omega) (by omega)]
    omega
  · rw [if_neg c, Int32.le_iff_toInt_le]
    have : (1000000 : Int32).toInt = 1000000 := rfl
    omega
theorem AX_cg {r r' : Nat → Int32} (h : RwA r r') (hV : AV r) (hX : AX r) : AX r' := by
  intro a ha c hc q q1 q2
  have n24 := hV.2.1
  rw [nA_cg h] at ha
  rw [clN_cg h (by omega)] at hc
  have c16 := (hV.2.2 a ha).2.1
  have b := ((hV.2.2 a ha).2.2 c hc).ends
  rw [h.c (by omega) (show c < 16 by omega) 4 (by decide)] at q1
  rw [h.c (by omega) (show c < 16 by omega) 5 (by decide)] at q2
  have b1 : cl (r (cA a c + 5)) ≤ 400 := b.1
  rw [(op_cg h (show a < 24 by omega) (show q + 1 ≤ 400 by omega) q (by omega)).2]
  exact hX a ha c hc q q1 q2
theorem AcR.ax {row row' : Nat → Int32} {x1 x2 : Int32} {Cs : List Cls} (h : AcR row row' x1 x2 Cs) (hV : AV row) (hX : AX row) (n24 : nA row < 24) (hk : ∀ C ∈ Cs, HdK C) : AX row' := by
  intro a ha c hc q q1 q2
  rw [h.n n24] at ha
  rcases Nat.lt_or_ge a (nA row) with z | z
  · have qq := h.old z
    obtain ⟨e, c16, cv⟩ := hV.2.2 a z
    rw [qq.kN] at hc
    have b := (cv c hc).ends
    rw [qq.c (show c < 16 by omega) 4 (by decide)] at q1
    rw [qq.c (show c < 16 by omega) 5 (by decide)] at q2
    have b1 : cl (row (cA a c + 5)) ≤ 400 := b.1
    rw [(qq.op (show q + 1 ≤ 400 by omega) q (by omega)).2]
    exact hX a z c hc q q1 q2
  · have e : a = nA row := by omega
    subst e
    rw [h.c] at hc
    obtain ⟨i, j, a1, a2, ⟨⟨b0, b1, b2', b3⟩, b4, b5⟩⟩ := h.z (List.getElem?_eq_getElem hc)
    by_cases z0 : Cs[c].1.1 = 0
    · obtain ⟨d1, d2, d3, d4⟩ := b4 z0
      rw [d2] at q2
      exact absurd q2 (Nat.not_lt_zero _)
    · obtain ⟨y, y1, ⟨d1, d2, d3, d4⟩, y3, y4, y5, y6⟩ := b5 z0
      rw [d1, cl_nI (by omega)] at q1
      rw [d2, cl_nI (by omega)] at q2
      by_cases z8 : Cs[c].1.1 = 8
      · have := (y3 z8).1; omega
      · obtain ⟨D, k, e1, e2, e3, e4⟩ := y4 z8
        obtain ⟨o, r, o1, o2, o3, o4⟩ := e4.2 q q1 q2
        exact ⟨r, o4, o2⟩
end
