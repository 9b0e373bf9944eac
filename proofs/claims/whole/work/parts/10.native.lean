section NRules
variable {X : Sx} {l : Launch} {f : MI} {D pc : Nat} {lv : List (Nat × Value)} {st : List Value} {σ σ' : AH} {r : Option Value}
theorem gI_sA {o : Nat} {g : Nat → Int32} : gI (sA σ o g) o = g := up_same (gI σ) o g
theorem E_copy {idx a b n0' n1' : Nat} {sp dp n : Int32} (hd : decode f.2.1 pc = .ok (.invokestatic idx, 3)) (hlk : Cond.methodLink f.1.cls idx arraycopyName ∈ lw_good) (hka : kd σ a = (100, n0')) (ha : a < nx σ) (hkb : kd σ b = (100, n1')) (hb : b < nx σ) (h1 : ¬ sp < 0) (h2 : ¬ dp < 0) (h3 : ¬ n < 0) (h4 : sp.toNatClampNeg + n.toNatClampNeg ≤ n0') (h5 : dp.toNatClampNeg + n.toNatClampNeg ≤ n1') (hD : 1 ≤ D) (hcat : (st.map fun v => v.category).sum ≤ 8) (hal : al f b)
    (kk : E X l f D (pc + 3) lv st (sA σ b (va_cpy (gI σ a) (gI σ b) sp.toNatClampNeg dp.toNatClampNeg n.toNatClampNeg)) r σ') : E X l f D pc lv (.int n :: .int dp :: .ref b :: .int sp :: .ref a :: st) σ r σ' := by
  refine ⟨kk.1.step (σ := σ) rfl rfl rfl (fun h => h) hal (fun i hi => row_sA hi), fun p e R s m args below meth c G cAs A ρ H locs ls n0 s0 ρ0 hF hW hS hl o1 o2 hn0 hρ => ?_⟩
  have hloc : ((st.map (rv ρ)).map fun v => v.category).sum + (nativeFrameWords "java/lang/System" "arraycopy" 5 + 11) ≤ R.locals := by
    have h64 := hF.2.2.2.2.1.2
    have : 64 * 1 ≤ 64 * D := Nat.mul_le_mul_left 64 hD
    have hw : nativeFrameWords "java/lang/System" "arraycopy" 5 ≤ 40 := by decide +kernel
    rw [cat_sum]
    omega
  refine va_copyi (ls := ls) hF.1.1 hF.1.2.1 (hF.1.2.2.trans hl.1.symm) hF.2.2.1 (hF.2.2.2.1 _ hlk) (hF.2.2.2.1 _ (mem_good (by decide +kernel))) (hF.2.2.2.1 _ (mem_good (by decide +kernel))) (hF.2.2.2.1 _ (mem_good (by decide +kernel))) hW.1 hW.2.1 hW.2.2.1 hS a b 0 0 (c0 := cAs 100) (c1 := cAs 100) (n0 := n0') (n1 := n1') (f := gI σ a) (g := gI σ b) (ty := .int) (by rw [wsA_arr ha hka (by omega)]; rfl) (by rw [wsA_arr hb hkb (by omega)]; rfl) rfl rfl (by decide) h1 h2 h3 h4 h5 (fun _ _ => rfl) (Nat.le_trans hD hF.2.2.2.2.1.1) hloc hd (fun H1 locs1 p1 d1 s1 => ?_)
  have hset : (wsA cAs ρ σ).set b (ρ b, .inl (cAs 100, n1', .inl (va_cpy (gI σ a) (gI σ b) sp.toNatClampNeg dp.toNatClampNeg n.toNatClampNeg))) = wsA cAs ρ (sA σ b (va_cpy (gI σ a) (gI σ b) sp.toNatClampNeg dp.toNatClampNeg n.toNatClampNeg)) := by
    refine wsA_set (σ := σ) (τ := sA σ b (va_cpy (gI σ a) (gI σ b) sp.toNatClampNeg dp.toNatClampNeg n.toNatClampNeg)) rfl (fun i hi => ent_sA hi) ?_
    have e0 : kd (sA σ b (va_cpy (gI σ a) (gI σ b) sp.toNatClampNeg dp.toNatClampNeg n.toNatClampNeg)) b = (100, n1') := hkb
    rw [ent, e0]
    simp only [cont]
    rw [gI_sA]; rfl
  rw [hset] at p1 d1
  exact kk.2 p e R s m args below meth c G cAs A ρ H1 locs1 ls n0 s0 ρ0 hF ⟨hW.1, p1, d1, hW.2.2.2⟩ s1 hl o1 (okl_tail (okl_tail (okl_tail (okl_tail (okl_tail o2))))) hn0 hρ
theorem E_castA {idx a n : Nat} (hd : decode f.2.1 pc = .ok (.checkcast idx, 3)) (hlk : Cond.classLink f.1.cls idx "[I" ∈ lw_good) (hka : kd σ a = (100, n)) (ha : a < nx σ) (kk : E X l f D (pc + 3) lv (.ref a :: st) σ r σ') : E X l f D pc lv (.ref a :: st) σ r σ' := by
  refine ⟨kk.1, fun p e R s m args below meth c G cAs A ρ H locs ls n0 s0 ρ0 hF hW hS hl o1 o2 hn0 hρ => ?_⟩
  refine va_castA hF.1.1 hF.1.2.1 hF.2.2.1 (hF.2.2.2.1 _ hlk) hW.2.1 a (wsA_arr ha hka (by omega)) (hW.1.2 0 (cAs 100, .int) rfl).2 hd ?_
  exact kk.2 p e R s m args below meth c G cAs A ρ H locs ls n0 s0 ρ0 hF hW hS hl o1 o2 hn0 hρ
theorem E_after2 {n pc2 : Nat} {τ : AH} {st2 : List Value} (kk : E X l f D pc2 lv (.ref (nx σ) :: st2) τ r σ') (e1 : nx τ = nx σ + 1) (e2 : sl τ = sl σ + n) (hct : Clo τ) {p : Program} {e : Env} {R : Room} {s : State} {m : MethodId} {args : Array Value} {below : List Frame} {meth : Method} {c : Code} {G : va_G} {cAs : Nat → ClassId} {A : Nat → Prop} {ρ : Nat → Nat} {locs : List Loc} {ls : Array Slot} {n0 s0 : Nat} {ρ0 : Nat → Nat}
    (hF : Fr X f D A ρ p R s m args meth c) (hl : lv_has ls f.2.2.1 (lv.map fun q => (q.1, rv ρ q.2))) (o1 : okl (nx σ) (lv.map Prod.snd)) (o2 : okl (nx σ) st2) (hK : va_K G vwCl (tysA cAs) s)
    (hn0 : n0 ≤ nx σ ∧ s0 ≤ sl σ ∧ nx σ' - n0 ≤ R.cells ∧ sl σ' - s0 ≤ R.slots ∧ nx σ' ≤ 700000) (hρ : ∀ i, (i < n0 ∨ 1000000 ≤ i) → ρ i = ρ0 i) (q : Nat) (H1 : Heap) (wsN : va_W) (hws : nx σ < 1000000 → wsN = wsA cAs (va_up ρ (nx σ) q) τ)
    (hP : va_P G vwCl wsN H1) (hD : va_D A wsN) (hS : va_S A s.heap H1 locs) :
    W p l e R s m args below meth c H1 locs (nx σ - n0 + 1) (sl σ - s0 + n) (MQ below (Qe G cAs A ρ0 n0 r σ') args s (nx σ' - n0) (sl σ' - s0) A) (F0 m pc2 ls (.ref q :: st2.map (rv ρ))) := by
  obtain ⟨hm, kw⟩ := kk
  have hm1 := hm.1
  have hn : nx σ < 1000000 := by omega
  have g1 : nx σ ≤ nx τ := by omega
  have g2 : nx σ < nx τ := by omega
  have g3 : sl σ ≤ sl τ := by omega
  rw [hws hn] at hP hD
  have hag : ∀ i, (i < nx σ ∨ 1000000 ≤ i) → va_up ρ (nx σ) q i = ρ i := fun i hi => up_ne _ _ _ (by omega)
  have hl2 : (lv.map fun z => (z.1, rv (va_up ρ (nx σ) q) z.2)) = lv.map fun z => (z.1, rv ρ z.2) :=
    List.map_congr_left fun z hz => by rw [rv_eq (o1 z.2 (List.mem_map.mpr ⟨z, hz, rfl⟩)) hag]
  have hst2 : st2.map (rv (va_up ρ (nx σ) q)) = st2.map (rv ρ) := rv_eql o2 hag
  have := kw p e R s m args below meth c G cAs A (va_up ρ (nx σ) q) H1 locs ls n0 s0 ρ0 (hF.re fun i hi => hag i (Or.inr hi)) ⟨hK, hP, hD, hct⟩ hS (by rw [hl2]; exact hl) (okl_mono g1 o1) (okl_cons.mpr ⟨Or.inl g2, okl_mono g1 o2⟩) ⟨Nat.le_trans hn0.1 g1, Nat.le_trans hn0.2.1 g3, hn0.2.2⟩ (fun i hi => by rw [hag i (by omega)]; exact hρ i hi)
  rw [show nx τ - n0 = nx σ - n0 + 1 by omega, show sl τ - s0 = sl σ - s0 + n by omega, List.map_cons, hst2] at this
  rw [show rv (va_up ρ (nx σ) q) (.ref (nx σ)) = .ref q from by show Value.ref (va_up ρ (nx σ) q (nx σ)) = _; rw [up_same]] at this
  exact this
theorem E_clone {idx a n : Nat} (hd : decode f.2.1 pc = .ok (.invokevirtual idx, 3)) (hlk : Cond.methodLink f.1.cls idx ⟨"[I", "clone", "()Ljava/lang/Object;"⟩ ∈ lw_good) (hka : kd σ a = (100, n)) (ha : a < nx σ) (hD : 1 ≤ D) (hcat : (st.map fun v => v.category).sum ≤ 8) (hal : al f (nx σ))
    (kk : E X l f D (pc + 3) lv (.ref (nx σ) :: st) (sA (aw σ 100 n) (nx σ) (gI σ a)) r σ') : E X l f D pc lv (.ref a :: st) σ r σ' := by
  have hm := kk.1
  have e1 : nx (sA (aw σ 100 n) (nx σ) (gI σ a)) = nx σ + 1 := rfl
  have e2 : sl (sA (aw σ 100 n) (nx σ) (gI σ a)) = sl σ + n := rfl
  have hm0 : Mono f (aw σ 100 n) σ' := ⟨hm.1, hm.2.1, hm.2.2.1, hm.2.2.2.1, fun i hi ha => by
    by_cases hi2 : i = nx σ
    · subst hi2
      exact absurd (hal : al f (nx σ)) ha
    · exact (row_sA hi2).trans (hm.2.2.2.2 i hi ha)⟩
  refine ⟨Mono_aw hm0, fun p e R s m args below meth c G cAs A ρ H locs ls n0 s0 ρ0 hF hW hS hl o1 o2 hn0 hρ => ?_⟩
  have hm1 := hm.1
  have hm2 := hm.2.1
  have hloc : ((st.map (rv ρ)).map fun v => v.category).sum + 14 ≤ R.locals := by
    have h64 := hF.2.2.2.2.1.2
    have : 64 * 1 ≤ 64 * D := Nat.mul_le_mul_left 64 hD
    rw [cat_sum]
    omega
  refine va_clone (ls := ls) (ad := "[I") (x := (n, .inl (gI σ a))) (ty := .int) hF.1.1 hF.1.2.1 (hF.1.2.2.trans hl.1.symm) hF.2.2.1 (hF.2.2.2.1 _ hlk) (hF.2.2.2.1 _ (mem_good (by decide +kernel))) (hF.2.2.2.1 _ (mem_good (by decide +kernel))) (hF.2.2.2.1 _ (mem_good (by decide +kernel))) (hF.2.2.2.1 _ (mem_good (by decide +kernel))) hF.2.2.2.2.2.2.2.2.2.2.2.2.2 hW.1 hW.2.1 hW.2.2.1 hS hF.2.2.2.2.2.1 a 0 (by rw [wsA_arr ha hka (by omega)]; rfl) rfl (hW.1.2 0 (cAs 100, .int) rfl).2 ?_ (Nat.le_trans hD hF.2.2.2.2.1.1) hloc (by omega) (by show sl σ - s0 + n ≤ _; omega) hd (fun q H1 hK2 hP2 hD2 hS2 => ?_)
  · intro i v hv
    have hs : (vp_cell (cAs 100) (n, .inl (gI σ a))) = arrV (cAs 100) n (fun k => .int (gI σ a k)) := rfl
    rw [hs] at hv
    have : ∃ x : Int32, v = .int x := by
      have hv2 : (Array.ofFn (n := n) fun j => Value.int (gI σ a j.val))[i]? = some v := hv
      rw [Array.getElem?_ofFn] at hv2
      split at hv2
      · cases hv2; exact ⟨_, rfl⟩
      · cases hv2
    obtain ⟨x, rfl⟩ := this
    rfl
  · refine E_after2 kk e1 e2 (Clo_aw (t := 100) (n := n) hW.2.2.2) hF hl o1 (okl_tail o2) hW.1 hn0 hρ q H1 _ (fun hn => ?_) hP2 hD2 hS2
    rw [show (Sum.inl (cAs 100, n, Sum.inl (gI σ a)) : va_E) = ent cAs (va_up ρ (nx σ) q) (sA (aw σ 100 n) (nx σ) (gI σ a)) (nx σ) from ?_]
    · apply List.ext_getElem?
      intro i
      rcases Nat.lt_trichotomy i (nx σ) with h | h | h
      · rw [List.getElem?_append_left (by rw [wsA_len]; exact h), wsA_get h, wsA_get (by omega), ent_sA (by omega), ent_aw hW.2.2.2 hn h, up_ne _ _ _ (by omega)]
      · subst h
        rw [List.getElem?_append_right (by rw [wsA_len]; exact Nat.le_refl _), wsA_get (by omega), wsA_len, up_same]
        simp
      · rw [List.getElem?_eq_none (by simp [wsA_len]; omega), List.getElem?_eq_none (by rw [wsA_len]; omega)]
    · have k0 : kd (sA (aw σ 100 n) (nx σ) (gI σ a)) (nx σ) = (100, n) := up_same _ _ _
      rw [ent, k0]
      simp only [cont]
      rw [gI_sA]; rfl
end NRules
