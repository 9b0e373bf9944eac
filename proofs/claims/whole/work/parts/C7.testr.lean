section
/-! the reference reads TESTS -/
def cxT (P : List (Nat × Nat)) (x1 : Int32) : Prop := innr P = some 30 ∨ (innr P = none ∧ x1 ≠ 0)
theorem hnT {α : Type} {x y : α} : (if b2 true = 0 then x else y) = y := if_neg (show ¬ b2 true = 0 by decide)
theorem hpF {α : Type} {x y : α} : (if b2 false = 0 then x else y) = x := if_pos (show b2 false = 0 from rfl)
theorem cxT.app {Q P : List (Nat × Nat)} {x1 : Int32} (h : cxT P x1) (hQ : ∀ q, q ∈ Q → q.1 < 30) : cxT (Q ++ P) x1 := by
  unfold cxT
  rw [innr_app hQ]; exact h
theorem cmpd_f {P : List (Nat × Nat)} (h : TopLt 4 P) : cmpd P = false := by
  cases P with
  | nil => rfl
  | cons q P =>
    have h' : bnd q.1 < 4 := h q rfl
    have : 17 ≤ q.1 := by
      rcases Nat.lt_or_ge q.1 17 with z | z
      · exfalso
        have all : ∀ r : Fin 17, 4 ≤ bnd r.val := by decide
        have := all ⟨q.1, z⟩
        have e : 4 ≤ bnd q.1 := this
        omega
      · exact z
    rw [cmpd_c, if_neg (by omega), decide_eq_false (by omega)]
theorem beh111 {L b m np o : Nat} {tp : Nat → Int32} {P : List (Nat × Nat)} {x1 : Int32} {σ : AH} (h : RgS L tp b m np o P σ) (hn : NA L tp [42, 47, 43, 45] b) (hc : cxT P x1) : F_X12_behindSum x1 σ = F_X12_behindSum_111 σ := by
  have bm := h.b
  rw [beh57 h hn]
  unfold F_X12_behindSum_57
  rw [if_pos rfl, F_innerR h.2.2.2.2.2.2.1 h.2.2.2.2.2.2.2.2.2.2 (by omega), bd_some]
  rcases hc with z | z
  · rw [z, show oI (some 30) = (30 : Int32) from rfl, if_pos (show (30 : Int32) ≤ 30 by decide), if_neg (show ¬ (30 : Int32) = -1 by decide)]
  · rw [z.1, show oI none = (-1 : Int32) from rfl, if_pos (show (-1 : Int32) ≤ 30 by decide), if_pos rfl, if_neg z.2]
theorem Rg_cmp {L o : Nat} {tp : Nat → Int32} {S : Nat → Nat → PR} (hS : RgP L tp S 8 11 5 1 3 (NA L tp [42, 47, 43, 45]) o (fun _ _ => True)) : RgP L tp (prCm L tp S) 8 14 4 1 2 (fun _ => True) o cxT := by
  intro x1 b m np P σ h hT hc
  obtain ⟨r1, r2⟩ := hS x1 _ _ _ _ _ h (fun q hq => Nat.lt_succ_of_lt (hT q hq)) trivial
  have bm0 := h.b
  rcases hr : S b np with ⟨b1, _ | ⟨n1, D1⟩⟩
  · exact RgR.fail (b0 := b1) (by unfold prCm; rw [hr]) (r1 b1 hr)
  · have pc : prCm L tp S b np = (match cmO L tp b1 with
      | none => (b1, none)
      | some o => prCm2 S o (nxt L tp b1) n1 D1) := by unfold prCm; rw [hr]; rfl
    obtain ⟨s1, k, m1, Q1, u1, u2, u3, u4, u5, u6, u7, u8⟩ := r2 b1 n1 D1 hr
    have u72 := u7.2.1
    have bm := u2.b
    have F0 := beh111 u2 u4 (hc.app (fun q hq => by have := u3 q hq; omega))
    unfold F_X12_behindSum_111 at F0
    rw [F_isComparedR u2.2.2.2.2.2.2.1 u2.2.2.2.2.2.2.2.2.2.2 (by omega), bd_some, cmpd_app u3, cmpd_f hT, hpF, F_isSignR u2.2.1, bd_some] at F0
    -- no sign of comparing, or one
    have none' : isS L tp b1 60 = false → isS L tp b1 62 = false → isS L tp b1 61 = false → ∃ τ, F_X12_behindSum x1 s1 = some (1, τ) ∧ RgX L tp b1 m1 (Q1 ++ P) τ ∧ Ch RRc RRf s1 τ := fun c1 c2 c3 => by
      obtain ⟨τ, t1, t2, t3⟩ := F_must0 u2
      refine ⟨τ, ?_, t2, t3⟩
      rw [F0, c1, hpF, F_isSignR u2.2.1, bd_some, c2, hpF]
      unfold F_X12_behindSum_150 F_X12_behindSum_172
      rw [if_pos rfl, F_isSignR u2.2.1, bd_some, c3, hpF, t1, bv_some, t2.2.1, if_neg (show ¬ (1 : Int32) = 0 by decide)]
    have one' : ∀ c : Nat, 12 ≤ c ∧ c ≤ 14 → b1 < L → F_X12_behindSum x1 s1 = F_X12_behindSum_172 (nI c) (1 : Int32) s1 → ∃ τ, F_X12_behindSum x1 s1 = some (1, τ) ∧ RgS L tp (nxt L tp b1) (setQ Q1 (gI s1 130, gI s1 131, m1)).2.2 n1 o ((c, 0) :: P) τ ∧ gI τ 130 = (setQ Q1 (gI s1 130, gI s1 131, m1)).1 ∧ gI τ 131 = (setQ Q1 (gI s1 130, gI s1 131, m1)).2.1 ∧ Ch RRc RRf s1 τ := fun c hc' lt e => by
      have nb := nxt_b (tp := tp) bm.1
      obtain ⟨t, t1, t2, t3, t4, t5⟩ := F_must1 (v := 1) u2 (by decide)
      obtain ⟨s2, a1, A1, a2, a3, a4⟩ := t2.settle (lv := 5) (arith5 u3) (fun q hq => Nat.lt_succ_of_lt (hT q hq)) (by decide)
      rw [t3, t4] at A1 a2 a3
      have sm : (setQ Q1 (gI s1 130, gI s1 131, m1)).2.2 ≤ m1 + Q1.length := (setQ_m Q1 (gI s1 130, gI s1 131, m1)).2
      have b8 := bm.2.2
      rw [List.length_append] at b8
      obtain ⟨s3, c1, C1, c2, c3, c4⟩ := A1.push (x := c) (a := 0) (by omega) (by omega) (by decide)
      have c1' : F_X12_push (nI c) (0 : Int32) s2 = some s3 := c1
      have a1' : F_X12_settle (5 : Int32) t = some s2 := a1
      refine ⟨s3, ?_, C1, by rw [c2, a2], by rw [c3, a3], (t5.trans a4).trans c4⟩
      rw [e]
      unfold F_X12_behindSum_172
      rw [t1, bv_some, if_pos t2.2.2.1, a1', bv_some, c1', bv_some]
    have split : (cmO L tp b1 = none ∧ ∃ τ, F_X12_behindSum x1 s1 = some (1, τ) ∧ RgX L tp b1 m1 (Q1 ++ P) τ ∧ Ch RRc RRf s1 τ) ∨ (∃ c : Nat, (12 ≤ c ∧ c ≤ 14) ∧ cmO L tp b1 = some (nI c) ∧ b1 < L ∧ ∃ τ, F_X12_behindSum x1 s1 = some (1, τ) ∧ RgS L tp (nxt L tp b1) (setQ Q1 (gI s1 130, gI s1 131, m1)).2.2 n1 o ((c, 0) :: P) τ ∧ gI τ 130 = (setQ Q1 (gI s1 130, gI s1 131, m1)).1 ∧ gI τ 131 = (setQ Q1 (gI s1 130, gI s1 131, m1)).2.1 ∧ Ch RRc RRf s1 τ) := by
      cases c1 : isS L tp b1 60 with
      | true =>
        have lt := tkT_lt (L := L) (tp := tp) (b := b1) (by rw [isS_sort c1]; decide)
        refine Or.inr ⟨12, by decide, by unfold cmO; rw [if_pos c1]; rfl, lt, one' 12 (by decide) lt ?_⟩
        rw [F0, c1, hnT]
        unfold F_X12_behindSum_150 F_X12_behindSum_167
        rw [if_neg (show ¬ (12 : Int32) = 14 by decide)]; rfl
      | false =>
        cases c2 : isS L tp b1 62 with
        | true =>
          have lt := tkT_lt (L := L) (tp := tp) (b := b1) (by rw [isS_sort c2]; decide)
          refine Or.inr ⟨13, by decide, by unfold cmO; rw [if_neg (by rw [c1]; decide), if_pos c2]; rfl, lt, one' 13 (by decide) lt ?_⟩
          rw [F0, c1, hpF, F_isSignR u2.2.1, bd_some, c2, hnT]
          unfold F_X12_behindSum_150 F_X12_behindSum_167
          rw [if_neg (show ¬ (13 : Int32) = 14 by decide)]; rfl
        | false =>
          cases c3 : isS L tp b1 61 with
          | true =>
            have lt := tkT_lt (L := L) (tp := tp) (b := b1) (by rw [isS_sort c3]; decide)
            refine Or.inr ⟨14, by decide, by unfold cmO; rw [if_neg (by rw [c1]; decide), if_neg (by rw [c2]; decide), if_pos c3]; rfl, lt, one' 14 (by decide) lt ?_⟩
            rw [F0, c1, hpF, F_isSignR u2.2.1, bd_some, c2, hpF]
            unfold F_X12_behindSum_150 F_X12_behindSum_167
            rw [if_pos rfl, F_isSignR u2.2.1, bd_some, c3, hnT]; rfl
          | false =>
            exact Or.inl ⟨by unfold cmO; rw [if_neg (by rw [c1]; decide), if_neg (by rw [c2]; decide), if_neg (by rw [c3]; decide)], none' c1 c2 c3⟩
    rcases split with ⟨co, τ, t1, t2, t3⟩ | ⟨c, hcc, co, lt, s2, a1, A1, a2, a3, a4⟩
    · rw [co] at pc
      exact RgR.fail pc ⟨τ, k + 1, m1, _, fun g => by rw [show g + (k + 1) + 1 = (g + 1 + 1) + k by omega, u1, fail1 (fe_3 u2.2.2.1 t1) t2], t2, by omega, by omega, u8.trans t3⟩
    · have nb := nxt_b (tp := tp) bm.1
      have rr : Rn x1 1 σ (k + 1) 1 s2 := u1.trans (fe_3 u2.2.2.1 a1)
      have k2 := u8.trans a4
      obtain ⟨mS, hmS⟩ : ∃ mS, mS = (setQ Q1 (gI s1 130, gI s1 131, m1)).2.2 := ⟨_, rfl⟩
      rw [← hmS] at A1
      have mm : m1 ≤ mS := by rw [hmS]; exact (setQ_m Q1 (gI s1 130, gI s1 131, m1)).1
      have bc : bnd c = 4 := by
        have all : ∀ r : Fin 40, 12 ≤ r.val → r.val ≤ 14 → bnd r.val = 4 := by decide
        exact all ⟨c, by omega⟩ hcc.1 hcc.2
      obtain ⟨r3, r4⟩ := hS x1 _ _ _ _ _ A1 (fun q hq => by cases hq; show bnd c < 5; omega) trivial
      rw [co] at pc
      have pc2 : prCm L tp S b np = prCm2 S (nI c) (nxt L tp b1) n1 D1 := pc
      unfold prCm2 at pc2
      rcases hr2 : S (nxt L tp b1) n1 with ⟨b2, _ | ⟨n2, D2⟩⟩
      · obtain ⟨τ, k', m', P', v1, v2, v3, v4, v5⟩ := r3 b2 hr2
        rw [hr2] at pc2
        exact RgR.fail pc2 ⟨τ, k + 1 + k', m', P', fun g => by rw [show g + (k + 1 + k') + 1 = (g + k' + 1) + (k + 1) by omega, rr, v1], v2, by omega, by omega, k2.trans v5⟩
      · obtain ⟨s3, k', m3, Q2, v1, v2, v3, v4, v5, v6, v7, v8⟩ := r4 b2 n2 D2 hr2
        rw [hr2] at pc2
        have bm3 := v2.b
        have v72 := v7.2.1
        have G0 := beh111 v2 v4 (x1 := x1) (by
          refine cxT.app (Q := Q2) (P := (c, 0) :: P) ?_ (fun q hq => by have := v3 q hq; omega)
          exact cxT.app (Q := [(c, 0)]) (P := P) hc (fun q hq => by rw [List.mem_singleton.mp hq]; show c < 30; omega))
        unfold F_X12_behindSum_111 at G0
        rw [F_isComparedR v2.2.2.2.2.2.2.1 v2.2.2.2.2.2.2.2.2.2.2 (by omega), bd_some, cmpd_app v3, cmpd_c, if_neg (show ¬ (8 ≤ (c, 0).1 ∧ (c, 0).1 ≤ 11) from fun z => by have z' : 8 ≤ c ∧ c ≤ 11 := z; omega), show decide (12 ≤ (c, 0).1 ∧ (c, 0).1 ≤ 14) = true from decide_eq_true hcc, hnT] at G0
        have rr3 : Rn x1 1 σ (k + 1 + k' + 1) 2 s3 := (rr.trans v1).trans (fe_3 v2.2.2.1 G0)
        have eQ : Q2 ++ (c, 0) :: P = (Q2 ++ [(c, 0)]) ++ P := by rw [List.append_assoc]; rfl
        have no : ∀ q, q ∈ Q2 → ¬ (q.1 = 18 ∨ q.1 = 19) := fun q hq z => by have := v3 q hq; omega
        have low1 := setQ_lo (i := m) Q1 (gI s1 130, gI s1 131, m1) (by show m ≤ m1; omega) u7.1
        have low2 := setQ_lo (i := mS) Q2 (gI s3 130, gI s3 131, m3) (by show mS ≤ m3; omega) (fun q hq => Or.inr (no q hq))
        have mm2 : m3 ≤ (setQ Q2 (gI s3 130, gI s3 131, m3)).2.2 := (setQ_m Q2 (gI s3 130, gI s3 131, m3)).1
        refine RgR.good pc2 ⟨s3, k + 1 + k' + 1, m3, Q2 ++ [(c, 0)], rr3, by rw [← eQ]; exact v2, fun q hq => ?_, trivial, by omega, fun t ht => ?_, ⟨fun q hq => ?_, by omega, ?_⟩, k2.trans v8⟩
        · rcases List.mem_append.mp hq with z | z
          · have := v3 q z; omega
          · rw [List.mem_singleton.mp z]; show 8 ≤ c ∧ c ≤ 14; omega
        · have y0 := v6 t (by omega)
          have y1 := low1 t ht
          have y2 := u6 t ht
          exact ⟨y0.1.trans ((by rw [a2] : gI s2 130 t = (setQ Q1 (gI s1 130, gI s1 131, m1)).1 t).trans (y1.1.trans y2.1)), y0.2.trans ((by rw [a3] : gI s2 131 t = (setQ Q1 (gI s1 130, gI s1 131, m1)).2.1 t).trans (y1.2.trans y2.2))⟩
        · rcases List.mem_append.mp hq with z | z
          · exact Or.inr (no q z)
          · rw [List.mem_singleton.mp z]; exact Or.inr (fun w => by have w' : c = 18 ∨ c = 19 := w; omega)
        · rw [setQ_app, setQ_c, if_neg (show ¬ ((c, 0).1 = 18 ∨ (c, 0).1 = 19) from fun w => by have w' : c = 18 ∨ c = 19 := w; omega), setQ_n, show n2 - np = (n1 - np) + (n2 - n1) by omega]
          refine SgV.bin (m := mS) (SgV.cg (op := (setQ Q1 (gI s1 130, gI s1 131, m1)).1) (ar := (setQ Q1 (gI s1 130, gI s1 131, m1)).2.1) (by rw [hmS]; exact u7.2.2.mo (hx_mo (by decide))) (fun t t1 t2 => ?_)) ((v7.2.2.mo (hx_mo (by decide))).cg (fun t t1 t2 => ⟨va_lo t2, va_lo t2⟩)) (by omega) (by omega) (by omega) (by show va_up _ _ _ _ = _; rw [up_same]) (by omega) (by show va_up _ _ _ _ = _; rw [up_same]) hx_16
          have y1 := low2 t t2
          have y2 := v6 t t2
          exact ⟨(va_lo (by omega)).trans (y1.1.trans (y2.1.trans (by rw [a2]))), (va_lo (by omega)).trans (y1.2.trans (y2.2.trans (by rw [a3])))⟩
end
