section NRules
variable {X : Sx} {l : Launch} {f : MI} {D pc : Nat} {lv : List (Nat × Value)} {st : List Value} {σ σ' : AH} {r : Option Value}
theorem gI_sA {o : Nat} {g : Nat → Int32} : gI (sA σ o g) o = g := up_same (gI σ) o g
theorem E_copy {idx a b n0' n1' : Nat} {sp dp n : Int32} (hd : decode f.2.1 pc = .ok (.invokestatic idx, 3)) (hlk : Cond.methodLink f.1.cls idx arraycopyName ∈ lw_good) (hka : kd σ a = (100, n0')) (ha : a < nx σ) (hkb : kd σ b = (100, n1')) (hb : b < nx σ) (h1 : ¬ sp < 0) (h2 : ¬ dp < 0) (h3 : ¬ n < 0) (h4 : sp.toNatClampNeg + n.toNatClampNeg ≤ n0') (h5 : dp.toNatClampNeg + n.toNatClampNeg ≤ n1') (hD : 1 ≤ D) (hcat : (st.map fun v => v.category).sum ≤ 8)
    (kk : E X l f D (pc + 3) lv st (sA σ b (va_cpy (gI σ a) (gI σ b) sp.toNatClampNeg dp.toNatClampNeg n.toNatClampNeg)) r σ') : E X l f D pc lv (.int n :: .int dp :: .ref b :: .int sp :: .ref a :: st) σ r σ' := by
  refine ⟨⟨kk.1.1, kk.1.2.1, kk.1.2.2⟩, fun p e R s m args below meth c G cAs A ρ H locs ls n0 s0 ρ0 hF hW hS hl o1 o2 hn0 hρ => ?_⟩
  have hloc : ((st.map (rv ρ)).map fun v => v.category).sum + (nativeFrameWords "java/lang/System" "arraycopy" 5 + 11) ≤ R.locals := by
    have h64 := hF.2.2.2.2.1.2
    have : 64 * 1 ≤ 64 * D := Nat.mul_le_mul_left 64 hD
    have hw : nativeFrameWords "java/lang/System" "arraycopy" 5 ≤ 40 := by decide +kernel
    rw [cat_sum]
    omega
  refine va_copyi (ls := ls) hF.1.1 hF.1.2.1 (hF.1.2.2.trans hl.1.symm) hF.2.2.1 (hF.2.2.2.1 _ hlk) (hF.2.2.2.1 _ (mem_good (by decide +kernel))) (hF.2.2.2.1 _ (mem_good (by decide +kernel))) (hF.2.2.2.1 _ (mem_good (by decide +kernel))) hW.1 hW.2.1 hW.2.2.1 hS a b 0 0 (c0 := cAs 100) (c1 := cAs 100) (n0 := n0') (n1 := n1') (f := gI σ a) (g := gI σ b) (ty := .int) (by rw [wsA_arr ha hka (by omega)]; rfl) (by rw [wsA_arr hb hkb (by omega)]; rfl) rfl rfl (by decide) h1 h2 h3 h4 h5 (fun _ _ => rfl) (Nat.le_trans hD hF.2.2.2.2.1.1) hloc hd (fun H1 locs1 p1 d1 s1 => ?_)
  have hset : (wsA cAs ρ σ).set b (ρ b, .inl (cAs 100, n1', .inl (va_cpy (gI σ a) (gI σ b) sp.toNatClampNeg dp.toNatClampNeg n.toNatClampNeg))) = wsA cAs ρ (sA σ b (va_cpy (gI σ a) (gI σ b) sp.toNatClampNeg dp.toNatClampNeg n.toNatClampNeg)) := by
    refine wsA_set (σ := σ) (τ := sA σ b (va_cpy (gI σ a) (gI σ b) sp.toNatClampNeg dp.toNatClampNeg n.toNatClampNeg)) rfl (fun i hi => ent_sA hi) ?_
    have e0 : kd (sA σ b (va_cpy (gI σ a) (gI σ b) sp.toNatClampNeg dp.toNatClampNeg n.toNatClampNeg)) b = (100, n1') := hkb
    rw [ent, e0]
    simp only [cont]
    rw [gI_sA]; rfl
  rw [hset] at p1 d1
  exact kk.2 p e R s m args below meth c G cAs A ρ H1 locs1 ls n0 s0 ρ0 hF ⟨hW.1, p1, d1, hW.2.2.2⟩ s1 hl o1 (okl_tail (okl_tail (okl_tail (okl_tail (okl_tail o2))))) hn0 hρ
theorem E_castA {idx a n : Nat} (hd : decode f.2.1 pc = .ok (.checkcast idx, 3)) (hlk : Cond.classLink f.1.cls idx "[I" ∈ lw_good) (hka : kd σ a = (100, n)) (ha : a < nx σ) (kk : E X l f D (pc + 3) lv (.ref a :: st) σ r σ') : E X l f D pc lv (.ref a :: st) σ r σ' := by
  refine ⟨kk.1, fun p e R s m args below meth c G cAs A ρ H locs ls n0 s0 ρ0 hF hW hS hl o1 o2 hn0 hρ => ?_⟩
  refine va_castA hF.1.1 hF.1.2.1 hF.2.2.1 (hF.2.2.2.1 _ hlk) hW.2.1 a (wsA_arr ha hka (by omega)) (hW.1.2 0 (cAs 100, .int) rfl).2 hd ?_
  exact kk.2 p e R s m args below meth c G cAs A ρ H locs ls n0 s0 ρ0 hF hW hS hl o1 o2 hn0 hρ
end NRules
