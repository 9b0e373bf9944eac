def BRK : Int64 := -4000000000000000000
section ERules
variable {X : Sx} {l : Launch} {f : MI} {D pc : Nat} {lv : List (Nat × Value)} {st : List Value} {σ σ' : AH} {r : Option Value}
theorem vp_lit {i : Int32} {n : Nat} (h : decide (¬ (i < 0 ∨ n ≤ i.toNatClampNeg)) = true) : vp_in i n := (of_decide_eq_true h : ¬ (i < 0 ∨ n ≤ i.toNatClampNeg))
theorem nar_b {x : Int32} (h : x = 0 ∨ x = 1) : narrow .boolean (.int x) = .int x := by rcases h with rfl | rfl <;> decide +kernel
theorem fit_b {x : Int32} (h : x = 0 ∨ x = 1) : fits .boolean (.int x) = true := by rcases h with rfl | rfl <;> decide +kernel
theorem lc_eq (x y : Int64) : (lg_cmp x y = 0) ↔ x = y := lg_cmp_eq x y
theorem lc_lt (x y : Int64) : (lg_cmp x y < 0) ↔ x < y := lg_cmp_lt x y
theorem lc_ge (x y : Int64) : (0 ≤ lg_cmp x y) ↔ y ≤ x := lg_cmp_ge x y
theorem lc_gt (x y : Int64) : (0 < lg_cmp x y) ↔ y < x := lg_cmp_gt x y
theorem lc_le (x y : Int64) : (lg_cmp x y ≤ 0) ↔ x ≤ y := lg_cmp_le x y
theorem i32_out {x : Int32} (lo hi : Int) (h : ∀ k : Int, lo ≤ k → k ≤ hi → ¬ x = Int32.ofInt k) : x.toInt < lo ∨ hi < x.toInt := by
  by_cases h1 : x.toInt < lo
  · exact Or.inl h1
  · by_cases h2 : hi < x.toInt
    · exact Or.inr h2
    · exact absurd (Int32.ofInt_toInt x).symm (h x.toInt (by omega) (by omega))
theorem E_iald2 {a n : Nat} {i : Int32} (j : Nat) (hd : decode f.2.1 pc = .ok (.iaload, 1)) (hk : kd σ a = (100, n)) (ha : a < nx σ) (hin : vp_in i n) (hj : i.toNatClampNeg = j) (kk : E X l f D (pc + 1) lv (.int (gI σ a j) :: st) σ r σ') : E X l f D pc lv (.int i :: .ref a :: st) σ r σ' := by subst hj; exact E_iald hd hk ha hin kk
theorem E_zald2 {a n : Nat} {i : Int32} (j : Nat) (hd : decode f.2.1 pc = .ok (.baload, 1)) (hk : kd σ a = (101, n)) (ha : a < nx σ) (hin : vp_in i n) (hj : i.toNatClampNeg = j) (kk : E X l f D (pc + 1) lv (.int (gI σ a j) :: st) σ r σ') : E X l f D pc lv (.int i :: .ref a :: st) σ r σ' := by subst hj; exact E_zald hd hk ha hin kk
theorem E_lald2 {a n : Nat} {i : Int32} (j : Nat) (hd : decode f.2.1 pc = .ok (.laload, 1)) (hk : kd σ a = (102, n)) (ha : a < nx σ) (hin : vp_in i n) (hj : i.toNatClampNeg = j) (kk : E X l f D (pc + 1) lv (.long (gL σ a j) :: st) σ r σ') : E X l f D pc lv (.int i :: .ref a :: st) σ r σ' := by subst hj; exact E_lald hd hk ha hin kk
theorem E_iast2 {a n : Nat} {i x : Int32} (j : Nat) (hd : decode f.2.1 pc = .ok (.iastore, 1)) (hk : kd σ a = (100, n)) (ha : a < nx σ) (hal : al f a) (hin : vp_in i n) (hj : i.toNatClampNeg = j) (kk : E X l f D (pc + 1) lv st (sI σ a j x) r σ') : E X l f D pc lv (.int x :: .int i :: .ref a :: st) σ r σ' := by subst hj; exact E_iast hd hk ha hal hin kk
theorem E_zast2 {a n : Nat} {i x : Int32} (j : Nat) (y : Int32) (hy : vp_nar .boolean x = y) (hd : decode f.2.1 pc = .ok (.bastore, 1)) (hk : kd σ a = (101, n)) (ha : a < nx σ) (hal : al f a) (hin : vp_in i n) (hj : i.toNatClampNeg = j) (kk : E X l f D (pc + 1) lv st (sI σ a j y) r σ') : E X l f D pc lv (.int x :: .int i :: .ref a :: st) σ r σ' := by subst hj; subst hy; exact E_zast hd hk ha hal hin kk
theorem E_last2 {a n : Nat} {i : Int32} {x : Int64} (j : Nat) (hd : decode f.2.1 pc = .ok (.lastore, 1)) (hk : kd σ a = (102, n)) (ha : a < nx σ) (hal : al f a) (hin : vp_in i n) (hj : i.toNatClampNeg = j) (kk : E X l f D (pc + 1) lv st (sL σ a j x) r σ') : E X l f D pc lv (.long x :: .int i :: .ref a :: st) σ r σ' := by subst hj; exact E_last hd hk ha hal hin kk
theorem E_alen2 {a t n : Nat} (v : Int32) (hd : decode f.2.1 pc = .ok (.arraylength, 1)) (hk : kd σ a = (t, n)) (ha : a < nx σ) (ht : 100 ≤ t) (ht2 : t < 106) (hv : Int32.ofNat n = v) (kk : E X l f D (pc + 1) lv (.int v :: st) σ r σ') : E X l f D pc lv (.ref a :: st) σ r σ' := by subst hv; exact E_alen hd hk ha ht ht2 kk
theorem E_copy2 {idx a b n0' n1' : Nat} {sp dp n : Int32} (sp' dp' n' : Nat) (hd : decode f.2.1 pc = .ok (.invokestatic idx, 3)) (hlk : Cond.methodLink f.1.cls idx arraycopyName ∈ lw_good) (hka : kd σ a = (100, n0')) (ha : a < nx σ) (hkb : kd σ b = (100, n1')) (hb : b < nx σ) (h1 : ¬ sp < 0) (h2 : ¬ dp < 0) (h3 : ¬ n < 0) (e1 : sp.toNatClampNeg = sp') (e2 : dp.toNatClampNeg = dp') (e3 : n.toNatClampNeg = n') (h4 : sp' + n' ≤ n0') (h5 : dp' + n' ≤ n1') (hD : 1 ≤ D) (hcat : (st.map fun v => v.category).sum ≤ 8) (hal : al f b)
    (kk : E X l f D (pc + 3) lv st (sA σ b (va_cpy (gI σ a) (gI σ b) sp' dp' n')) r σ') : E X l f D pc lv (.int n :: .int dp :: .ref b :: .int sp :: .ref a :: st) σ r σ' := by
  subst e1; subst e2; subst e3
  exact E_copy hd hlk hka ha hkb hb h1 h2 h3 h4 h5 hD hcat hal kk
def imax (x y : Int32) : Int32 := if x < y then y else x
def imin (x y : Int32) : Int32 := if y < x then y else x
def lmax (x y : Int64) : Int64 := if y < x then x else y
def lmin (x y : Int64) : Int64 := if y < x then y else x
theorem E_mmax {idx : Nat} {x y : Int32} (hd : decode f.2.1 pc = .ok (.invokestatic idx, 3)) (hlk : Cond.methodLink f.1.cls idx Lib.Math.max.name ∈ lw_good) (hD : 1 ≤ D) (hcat : (st.map fun v => v.category).sum ≤ 8) (kk : E X l f D (pc + 3) lv (.int (imax x y) :: st) σ r σ') : E X l f D pc lv (.int y :: .int x :: st) σ r σ' := by
  refine ⟨kk.1, fun p e R s m args below meth c G cAs A ρ H locs ls n0 s0 ρ0 hF hW hS hl o1 o2 hn0 hρ => ?_⟩
  have hm1 := kk.1.1
  have hm2 := kk.1.2.1
  have hloc : ((st.map (rv ρ)).map fun v => v.category).sum + 13 ≤ R.locals := by
    have h64 := hF.2.2.2.2.1.2
    have : 64 * 1 ≤ 64 * D := Nat.mul_le_mul_left 64 hD
    rw [cat_sum]
    omega
  refine va_mmax (ls := ls) hF.1.1 hF.1.2.1 (hF.1.2.2.trans hl.1.symm) hF.2.2.1 (hF.2.2.2.1 _ hlk) (hF.2.2.2.1 _ (mem_good (by decide +kernel))) (hF.2.2.2.1 _ (mem_good (by decide +kernel))) (hF.2.2.2.1 _ (mem_good (by decide +kernel))) (Nat.le_trans hD hF.2.2.2.2.1.1) hloc (by omega) (by omega) hd ?_
  exact kk.2 p e R s m args below meth c G cAs A ρ H locs ls n0 s0 ρ0 hF hW hS hl o1 (okl_cons.mpr ⟨trivial, okl_tail (okl_tail o2)⟩) hn0 hρ
theorem E_mmin {idx : Nat} {x y : Int32} (hd : decode f.2.1 pc = .ok (.invokestatic idx, 3)) (hlk : Cond.methodLink f.1.cls idx Lib.Math.min.name ∈ lw_good) (hD : 1 ≤ D) (hcat : (st.map fun v => v.category).sum ≤ 8) (kk : E X l f D (pc + 3) lv (.int (imin x y) :: st) σ r σ') : E X l f D pc lv (.int y :: .int x :: st) σ r σ' := by
  refine ⟨kk.1, fun p e R s m args below meth c G cAs A ρ H locs ls n0 s0 ρ0 hF hW hS hl o1 o2 hn0 hρ => ?_⟩
  have hm1 := kk.1.1
  have hm2 := kk.1.2.1
  have hloc : ((st.map (rv ρ)).map fun v => v.category).sum + 13 ≤ R.locals := by
    have h64 := hF.2.2.2.2.1.2
    have : 64 * 1 ≤ 64 * D := Nat.mul_le_mul_left 64 hD
    rw [cat_sum]
    omega
  refine va_mmin (ls := ls) hF.1.1 hF.1.2.1 (hF.1.2.2.trans hl.1.symm) hF.2.2.1 (hF.2.2.2.1 _ hlk) (hF.2.2.2.1 _ (mem_good (by decide +kernel))) (hF.2.2.2.1 _ (mem_good (by decide +kernel))) (hF.2.2.2.1 _ (mem_good (by decide +kernel))) (Nat.le_trans hD hF.2.2.2.2.1.1) hloc (by omega) (by omega) hd ?_
  exact kk.2 p e R s m args below meth c G cAs A ρ H locs ls n0 s0 ρ0 hF hW hS hl o1 (okl_cons.mpr ⟨trivial, okl_tail (okl_tail o2)⟩) hn0 hρ
theorem E_lmax {idx : Nat} {x y : Int64} (hd : decode f.2.1 pc = .ok (.invokestatic idx, 3)) (hlk : Cond.methodLink f.1.cls idx Lib.MathLoose.max_long.x ∈ lw_good) (hD : 1 ≤ D) (hcat : (st.map fun v => v.category).sum ≤ 8) (kk : E X l f D (pc + 3) lv (.long (lmax x y) :: st) σ r σ') : E X l f D pc lv (.long y :: .long x :: st) σ r σ' := by
  refine ⟨kk.1, fun p e R s m args below meth c G cAs A ρ H locs ls n0 s0 ρ0 hF hW hS hl o1 o2 hn0 hρ => ?_⟩
  have hm1 := kk.1.1
  have hm2 := kk.1.2.1
  have hloc : ((st.map (rv ρ)).map fun v => v.category).sum + 15 ≤ R.locals := by
    have h64 := hF.2.2.2.2.1.2
    have : 64 * 1 ≤ 64 * D := Nat.mul_le_mul_left 64 hD
    rw [cat_sum]
    omega
  refine va_mmax_long (ls := ls) hF.1.1 hF.1.2.1 (hF.1.2.2.trans hl.1.symm) hF.2.2.1 (hF.2.2.2.1 _ hlk) (hF.2.2.2.1 _ (mem_good (by decide +kernel))) (hF.2.2.2.1 _ (mem_good (by decide +kernel))) (hF.2.2.2.1 _ (mem_good (by decide +kernel))) (Nat.le_trans hD hF.2.2.2.2.1.1) hloc (by omega) (by omega) hd ?_
  exact kk.2 p e R s m args below meth c G cAs A ρ H locs ls n0 s0 ρ0 hF hW hS hl o1 (okl_cons.mpr ⟨trivial, okl_tail (okl_tail o2)⟩) hn0 hρ
theorem E_lmin {idx : Nat} {x y : Int64} (hd : decode f.2.1 pc = .ok (.invokestatic idx, 3)) (hlk : Cond.methodLink f.1.cls idx Lib.MathLoose.min_long.x ∈ lw_good) (hD : 1 ≤ D) (hcat : (st.map fun v => v.category).sum ≤ 8) (kk : E X l f D (pc + 3) lv (.long (lmin x y) :: st) σ r σ') : E X l f D pc lv (.long y :: .long x :: st) σ r σ' := by
  refine ⟨kk.1, fun p e R s m args below meth c G cAs A ρ H locs ls n0 s0 ρ0 hF hW hS hl o1 o2 hn0 hρ => ?_⟩
  have hm1 := kk.1.1
  have hm2 := kk.1.2.1
  have hloc : ((st.map (rv ρ)).map fun v => v.category).sum + 15 ≤ R.locals := by
    have h64 := hF.2.2.2.2.1.2
    have : 64 * 1 ≤ 64 * D := Nat.mul_le_mul_left 64 hD
    rw [cat_sum]
    omega
  refine va_mmin_long (ls := ls) hF.1.1 hF.1.2.1 (hF.1.2.2.trans hl.1.symm) hF.2.2.1 (hF.2.2.2.1 _ hlk) (hF.2.2.2.1 _ (mem_good (by decide +kernel))) (hF.2.2.2.1 _ (mem_good (by decide +kernel))) (hF.2.2.2.1 _ (mem_good (by decide +kernel))) (Nat.le_trans hD hF.2.2.2.2.1.1) hloc (by omega) (by omega) hd ?_
  exact kk.2 p e R s m args below meth c G cAs A ρ H locs ls n0 s0 ρ0 hF hW hS hl o1 (okl_cons.mpr ⟨trivial, okl_tail (okl_tail o2)⟩) hn0 hρ
theorem E_callVS {g : MI} {d n idx i : Nat} {As rest : List Value} {r1 : Option Value} {σ1 : AH} (hd : decode f.2.1 pc = .ok (.invokevirtual idx, 3)) (hM : MOk g n) (hi : Cond.instanceMethod g.1 ∈ lw_good) (hsel : Cond.selects g.1.cls g.1 g.1 ∈ lw_good) (hlk : Cond.methodLink f.1.cls idx g.1 ∈ lw_good) (hD : d + 1 ≤ D) (hn : As.length = n) (hst : st = As.reverse ++ (.ref (1000001 + i)) :: rest) (hcat : (rest.map fun v => v.category).sum ≤ 8)
    (hmem : i < 12) (hcc : g.1.cls = "java/lang/String") (hsub : subB g f = true) (hC : Call X l g d ((.ref (1000001 + i)) :: As) σ r1 σ1) (kk : E X l f D (pc + 3) lv (r1.toList ++ rest) σ1 r σ') : E X l f D pc lv st σ r σ' := by
  refine ⟨(hC.1.sub hsub).trans kk.1, fun p e R s m args below meth c G cAs A ρ H locs ls n0 s0 ρ0 hF hW hS hl o1 o2 hn0 hρ => ?_⟩
  subst hst
  have hm1 := hC.1.1
  have hm2 := hC.1.2.1
  have hk1 := kk.1.1
  have hk2 := kk.1.2.1
  have oA : okl (nx σ) ((.ref (1000001 + i)) :: As) := by
    intro v hv
    rcases List.mem_cons.mp hv with rfl | hv
    · exact o2 _ (List.mem_append_right _ List.mem_cons_self)
    · exact o2 _ (List.mem_append_left _ (List.mem_reverse.mpr hv))
  have oR : okl (nx σ) rest := fun v hv => o2 _ (List.mem_append_right _ (List.mem_cons_of_mem _ hv))
  refine E_run (hC.1.sub hsub) kk hF hW hS hl o1 oR hn0 hρ (a := (Value.ref (ρ (1000001 + i)) :: As.map (rv ρ)).toArray) ?_
  refine va_runV (Ts := lw_good) (own := f.1.cls) (C := g.1.cls) (As := As.map (rv ρ)) ⟨hF.1.1, hF.1.2.1, hF.1.2.2, hF.2.2.1, hF.2.2.2.1⟩ (hC.2 G cAs ρ H.size)
    ⟨callB_of n hF.2.2.2.1 (goodIn_good (wsM_good hM)) rfl rfl rfl (hF.2.2.2.1 _ hM.2.1) (hF.2.2.2.1 _ hlk) hM.2.2.1 (rm_ok hD hF.2.2.2.2.1 hM.2.2.2.1), hF.2.2.2.1 _ hi, hF.2.2.2.1 _ hsel⟩
    ⟨PcM_blind, ?_, fun U hU hWm => pre_of hF hW hS (by omega) oA U hU hWm⟩ rfl (by rw [List.length_map]; exact hn) hl.1 ?_ ?_ hd ⟨by omega, by omega⟩
  · rw [hcc]
    exact vk_recv (i := i) (adK := fun i => ρ (1000001 + i)) hF.2.2.2.2.2.2.2.1 hmem hS
  · show List.map (rv ρ) (As.reverse ++ (.ref (1000001 + i)) :: rest) = _
    rw [List.map_append, List.map_reverse]; rfl
  · exact lv_room (by rw [cat_sum]; exact hcat)
end ERules
