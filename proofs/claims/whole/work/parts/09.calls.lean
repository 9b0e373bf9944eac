theorem good_of_mem {w : Cond} (h : w ∈ lw_good) : (w.onTables && w.keeps) = true ∨ ∃ ty, w = .arrayClass ty := good_of_word (List.mem_filter.mp h).2
theorem goodIn_good {ws : List Cond} (h : ∀ w ∈ ws, w ∈ lw_good) : GoodIn lw_good ws := fun w hw => ⟨h w hw, good_of_mem (h w hw)⟩
def codeW (g : MI) : Cond := Cond.code g.1 g.2.1 g.2.2.1 g.2.2.2.1
def MOk (g : MI) (n : Nat) : Prop := codeW g ∈ lw_good ∧ Cond.initialized g.1.cls ∈ lw_good ∧ (g.1.cls ≠ "java/lang/invoke/MethodHandle" ∧ g.1.cls ≠ "java/lang/invoke/VarHandle" ∧ (parseMethodDescriptor g.1.desc).map (fun d => d.parameters.length) = some n) ∧ g.2.2.1 ≤ 40 ∧ plainName g.1.cls = true
theorem wsM_good {g : MI} {n : Nat} (h : MOk g n) : ∀ w ∈ wsM g, w ∈ lw_good := by
  intro w hw
  rcases List.mem_cons.mp hw with rfl | hw
  · exact h.1
  · exact hw
theorem Ar_sub {A : Nat → Prop} {ρ : Nat → Nat} {σ : AH} {cAs : Nat → ClassId} {H : Heap} {s : State} (hD : va_D A (wsA cAs ρ σ)) (hA : ∀ q : Nat, s.heap.size ≤ q → A q) (hz : s.heap.size ≤ H.size) : ∀ q, Ar ρ σ H.size q → A q := by
  intro q hq
  rcases hq with ⟨i, hi, rfl⟩ | hq
  · exact hD.2 i _ (wsA_get hi)
  · exact hA q (Nat.le_trans hz hq)
theorem PcM_blind {X : Sx} {G : va_G} {cAs : Nat → ClassId} {ρ : Nat → Nat} {sz : Nat} {av : List Value} {σ σ' : AH} : FrameBlind (PcM X G cAs ρ sz av σ σ') := by
  intro a U g mk h
  obtain ⟨h1, h2, h3, h4, h5⟩ := h
  exact ⟨h1, h2, ⟨h3.1.moved (u := U) (U := U.calling g mk a) (Vm.Alike.refl U.vm), h3.2⟩, h4, h5⟩
section CRules
variable {X : Sx} {l : Launch} {f : MI} {D pc : Nat} {lv : List (Nat × Value)} {st : List Value} {σ σ' : AH} {r : Option Value}
/-- the rest of a walk behind a call that was run -/
theorem E_run {rest : List Value} {r1 : Option Value} {σ1 : AH} (hm : Mono f σ σ1) (kk : E X l f D (pc + 3) lv (r1.toList ++ rest) σ1 r σ') {p : Program} {e : Env} {R : Room} {s : State} {m : MethodId} {args : Array Value} {below : List Frame} {meth : Method} {c : Code} {G : va_G} {cAs : Nat → ClassId} {A : Nat → Prop} {ρ : Nat → Nat} {H : Heap} {locs : List Loc} {ls : Array Slot} {n0 s0 : Nat} {ρ0 : Nat → Nat} {st0 : List Value} {a : Array Value}
    (hF : Fr X f D A ρ p R s m args meth c) (hW : Wd G cAs A ρ σ s H) (hS : va_S A s.heap H locs) (hl : lv_has ls f.2.2.1 (lv.map fun q => (q.1, rv ρ q.2))) (o1 : okl (nx σ) (lv.map Prod.snd)) (o2 : okl (nx σ) rest)
    (hn0 : n0 ≤ nx σ ∧ s0 ≤ sl σ ∧ nx σ' - n0 ≤ R.cells ∧ sl σ' - s0 ≤ R.slots ∧ nx σ' ≤ 700000) (hρ : ∀ i, (i < n0 ∨ 1000000 ≤ i) → ρ i = ρ0 i)
    (hr : va_Run p l e R s m args below meth c H locs (nx σ - n0) (sl σ - s0) (nx σ1 - nx σ) (sl σ1 - sl σ) (F0 m pc ls st0) (rest.map (rv ρ)) (Qe G cAs (Ar ρ σ H.size) ρ (nx σ) r1 σ1 a) (Ar ρ σ H.size)) :
    W p l e R s m args below meth c H locs (nx σ - n0) (sl σ - s0) (MQ below (Qe G cAs A ρ0 n0 r σ') args s (nx σ' - n0) (sl σ' - s0) A) (F0 m pc ls st0) := by
  intro T hT X0
  obtain ⟨v, st₀, t, T', L, h0, X', hL, e1, e2, ⟨⟨ρ1, hρ1, hv, hWd, hok⟩, hz, hk⟩, stp⟩ := hr T hT X0
  cases hv
  rw [h0] at hz hk
  have hsub := Ar_sub hW.2.2.1 hF.2.2.2.2.2.1 hS.1
  have hm1 := hm.1
  have hm2 := hm.2.1
  have hk1 := kk.1.1
  have hk2 := kk.1.2.1
  have hag : ∀ i, (i < nx σ ∨ 1000000 ≤ i) → ρ1 i = ρ i := hρ1
  have hl2 : (lv.map fun z => (z.1, rv ρ1 z.2)) = lv.map fun z => (z.1, rv ρ z.2) :=
    List.map_congr_left fun z hz => by rw [rv_eq (o1 z.2 (List.mem_map.mpr ⟨z, hz, rfl⟩)) hag]
  have hst2 : rest.map (rv ρ1) = rest.map (rv ρ) := rv_eql o2 hag
  have hS1 : va_S A s.heap T'.heap (locs ++ L) := ⟨Nat.le_trans hS.1 (by rw [e1]; exact hz), fun q h1 h2 => by rw [e1, hk q (Nat.lt_of_lt_of_le h1 hS.1) (fun z => h2 (hsub q z))]; exact hS.2.1 q h1 h2, fun q hq => by
      rcases List.mem_append.mp hq with h | h
      · exact hS.2.2 q h
      · exact hsub _ (hL q h)⟩
  have hW1 : Wd G cAs A ρ1 σ1 s T'.heap := by
    obtain ⟨w1, w2, w3, w4⟩ := hWd
    refine ⟨w1.moved (by rw [← e2]; exact X'.warmed.alike.symm), by rw [e1]; exact w2, w3.weaken (fun _ q _ h => hsub _ h), w4⟩
  have hc1 : nx σ - n0 + (nx σ1 - nx σ) = nx σ1 - n0 := by omega
  have hc2 : sl σ - s0 + (sl σ1 - sl σ) = sl σ1 - s0 := by omega
  rw [hc1, hc2] at X'
  obtain ⟨t2, a1, b1⟩ := kk.2 p e R s m args below meth c G cAs A ρ1 T'.heap (locs ++ L) ls n0 s0 ρ0 (hF.re fun i hi => hag i (Or.inr hi)) hW1 hS1 (by rw [hl2]; exact hl) (okl_mono hm1 o1)
    (fun v hv => (List.mem_append.mp hv).elim (fun h => hok v h) (fun h => okv_mono hm1 (o2 v h))) ⟨by omega, by omega, hn0.2.2⟩ (fun i hi => by rw [hag i (by omega)]; exact hρ i hi) T' rfl X'
  refine ⟨t2, stp t2 ?_, b1⟩
  have hstk : (r1.toList ++ rest).map (rv ρ1) = (r1.map (rv ρ1)).toList ++ rest.map (rv ρ) := by
    rw [List.map_append, hst2]
    cases r1 <;> rfl
  rw [hstk] at a1
  exact a1
theorem pre_of {X : Sx} {G : va_G} {cAs : Nat → ClassId} {A : Nat → Prop} {ρ : Nat → Nat} {s : State} {H : Heap} {locs : List Loc} {av : List Value} {σ σ1 : AH} {p : Program} {R : Room} {m : MethodId} {args : Array Value} {meth : Method} {c : Code} (hF : Fr X f D A ρ p R s m args meth c) (hW : Wd G cAs A ρ σ s H) (hS : va_S A s.heap H locs) (h7 : nx σ1 ≤ 700000) (ho : okl (nx σ) av) (U : State) (hU : U.heap = H) (hWm : s.WarmedH U.vm) : PcM X G cAs ρ H.size av σ σ1 (av.map (rv ρ)).toArray U := by
  refine ⟨rfl, by rw [hU], ?_, hF.2.2.2.2.2.2.move hS hWm hU (Ar_sub hW.2.2.1 hF.2.2.2.2.2.1 hS.1) (fun _ _ => rfl), h7, ho⟩
  obtain ⟨w1, w2, w3, w4⟩ := hW
  refine ⟨w1.moved hWm.alike, by rw [hU]; exact w2, ⟨w3.1, fun k q hk => ?_⟩, w4⟩
  have hlt : k < nx σ := by
    have := (List.getElem?_eq_some_iff.mp hk).1
    rwa [wsA_len] at this
  rw [wsA_get hlt] at hk
  cases hk
  exact Or.inl ⟨k, hlt, rfl⟩
theorem cat_sum (ρ : Nat → Nat) (vs : List Value) : ((vs.map (rv ρ)).map fun v => v.category) = vs.map fun v => v.category := by
  rw [List.map_map]; exact List.map_congr_left fun v _ => rv_cat ρ v
theorem rm_ok {d n k : Nat} {g : MI} {R : Room} (hD : d + 1 ≤ D) (hR : D ≤ R.frames ∧ 64 * D ≤ R.locals) (hg : g.2.2.1 ≤ 40) : (rmM d n k).frames + 1 ≤ R.frames ∧ 8 + (g.2.2.1 + 11) + (rmM d n k).locals ≤ R.locals := by
  refine ⟨Nat.le_trans hD hR.1, ?_⟩
  show 8 + (g.2.2.1 + 11) + 64 * d ≤ R.locals
  have := Nat.mul_le_mul_left 64 hD
  omega
theorem E_callV {g : MI} {d n idx b ci : Nat} {As rest : List Value} {r1 : Option Value} {σ1 : AH} (hd : decode f.2.1 pc = .ok (.invokevirtual idx, 3)) (hM : MOk g n) (hi : Cond.instanceMethod g.1 ∈ lw_good) (hsel : Cond.selects g.1.cls g.1 g.1 ∈ lw_good) (hlk : Cond.methodLink f.1.cls idx g.1 ∈ lw_good) (hD : d + 1 ≤ D) (hn : As.length = n) (hst : st = As.reverse ++ .ref b :: rest) (hcat : (rest.map fun v => v.category).sum ≤ 8)
    (hkb : kd σ b = (ci, NO ci)) (hb : b < nx σ) (hc : ci < 13) (hcc : g.1.cls = RO ci) (hsub : subB g f = true) (hC : Call X l g d (.ref b :: As) σ r1 σ1) (kk : E X l f D (pc + 3) lv (r1.toList ++ rest) σ1 r σ') : E X l f D pc lv st σ r σ' := by
  refine ⟨(hC.1.sub hsub).trans kk.1, fun p e R s m args below meth c G cAs A ρ H locs ls n0 s0 ρ0 hF hW hS hl o1 o2 hn0 hρ => ?_⟩
  subst hst
  have hm1 := hC.1.1
  have hm2 := hC.1.2.1
  have hk1 := kk.1.1
  have hk2 := kk.1.2.1
  have oA : okl (nx σ) (.ref b :: As) := by
    intro v hv
    rcases List.mem_cons.mp hv with rfl | hv
    · exact o2 _ (List.mem_append_right _ List.mem_cons_self)
    · exact o2 _ (List.mem_append_left _ (List.mem_reverse.mpr hv))
  have oR : okl (nx σ) rest := fun v hv => o2 _ (List.mem_append_right _ (List.mem_cons_of_mem _ hv))
  refine E_run (hC.1.sub hsub) kk hF hW hS hl o1 oR hn0 hρ (a := (Value.ref (ρ b) :: As.map (rv ρ)).toArray) ?_
  refine va_runV (Ts := lw_good) (own := f.1.cls) (C := g.1.cls) (As := As.map (rv ρ)) ⟨hF.1.1, hF.1.2.1, hF.1.2.2, hF.2.2.1, hF.2.2.2.1⟩ (hC.2 G cAs ρ H.size)
    ⟨callB_of n hF.2.2.2.1 (goodIn_good (wsM_good hM)) rfl rfl rfl (hF.2.2.2.1 _ hM.2.1) (hF.2.2.2.1 _ hlk) hM.2.2.1 (rm_ok hD hF.2.2.2.2.1 hM.2.2.2.1), hF.2.2.2.1 _ hi, hF.2.2.2.1 _ hsel⟩
    ⟨PcM_blind, ?_, fun U hU hWm => pre_of hF hW hS (by omega) oA U hU hWm⟩ rfl (by rw [List.length_map]; exact hn) hl.1 ?_ ?_ hd ⟨by omega, by omega⟩
  · rw [hcc]
    exact va_recv hW.1 hW.2.1 (clsok hc).1 (wsA_obj hb hkb (by omega))
  · show List.map (rv ρ) (As.reverse ++ .ref b :: rest) = _
    rw [List.map_append, List.map_reverse]; rfl
  · exact lv_room (by rw [cat_sum]; exact hcat)
theorem E_callS {g : MI} {d n idx : Nat} {As rest : List Value} {r1 : Option Value} {σ1 : AH} (hd : decode f.2.1 pc = .ok (.invokestatic idx, 3)) (hM : MOk g n) (hi : Cond.static g.1 ∈ lw_good) (hlk : Cond.methodLink f.1.cls idx g.1 ∈ lw_good) (hD : d + 1 ≤ D) (hn : As.length = n) (hst : st = As.reverse ++ rest) (hcat : (rest.map fun v => v.category).sum ≤ 8)
    (hsub : subB g f = true) (hC : Call X l g d As σ r1 σ1) (kk : E X l f D (pc + 3) lv (r1.toList ++ rest) σ1 r σ') : E X l f D pc lv st σ r σ' := by
  refine ⟨(hC.1.sub hsub).trans kk.1, fun p e R s m args below meth c G cAs A ρ H locs ls n0 s0 ρ0 hF hW hS hl o1 o2 hn0 hρ => ?_⟩
  subst hst
  have hm1 := hC.1.1
  have hm2 := hC.1.2.1
  have hk1 := kk.1.1
  have hk2 := kk.1.2.1
  have oA : okl (nx σ) As := fun v hv => o2 _ (List.mem_append_left _ (List.mem_reverse.mpr hv))
  have oR : okl (nx σ) rest := fun v hv => o2 _ (List.mem_append_right _ hv)
  refine E_run (hC.1.sub hsub) kk hF hW hS hl o1 oR hn0 hρ (a := (As.map (rv ρ)).toArray) ?_
  refine va_runS (Ts := lw_good) (own := f.1.cls) (As := As.map (rv ρ)) ⟨hF.1.1, hF.1.2.1, hF.1.2.2, hF.2.2.1, hF.2.2.2.1⟩ (hC.2 G cAs ρ H.size)
    ⟨callB_of n hF.2.2.2.1 (goodIn_good (wsM_good hM)) rfl rfl rfl (hF.2.2.2.1 _ hM.2.1) (hF.2.2.2.1 _ hlk) hM.2.2.1 (rm_ok hD hF.2.2.2.2.1 hM.2.2.2.1), hF.2.2.2.1 _ hi⟩
    ⟨PcM_blind, fun U hU hWm => pre_of hF hW hS (by omega) oA U hU hWm⟩ rfl (by rw [List.length_map]; exact hn) hl.1 ?_ ?_ hd ⟨by omega, by omega⟩
  · show List.map (rv ρ) (As.reverse ++ rest) = _
    rw [List.map_append, List.map_reverse]
  · exact lv_room (by rw [cat_sum]; exact hcat)
theorem E_callSN {g : MI} {d n idx : Nat} {As rest : List Value} {r1 : Option Value} {σ1 : AH} (hd : decode f.2.1 pc = .ok (.invokestatic idx, 3)) (hM : MOk g n) (hi : Cond.static g.1 ∈ lw_good) (hlk : (f.1.cls, idx, g.1) ∈ nestT) (hD : d + 1 ≤ D) (hn : As.length = n) (hst : st = As.reverse ++ rest) (hcat : (rest.map fun v => v.category).sum ≤ 8)
    (hsub : subB g f = true) (hC : Call X l g d As σ r1 σ1) (kk : E X l f D (pc + 3) lv (r1.toList ++ rest) σ1 r σ') : E X l f D pc lv st σ r σ' := by
  refine ⟨(hC.1.sub hsub).trans kk.1, fun p e R s m args below meth c G cAs A ρ H locs ls n0 s0 ρ0 hF hW hS hl o1 o2 hn0 hρ => ?_⟩
  subst hst
  have hm1 := hC.1.1
  have hm2 := hC.1.2.1
  have hk1 := kk.1.1
  have hk2 := kk.1.2.1
  have oA : okl (nx σ) As := fun v hv => o2 _ (List.mem_append_left _ (List.mem_reverse.mpr hv))
  have oR : okl (nx σ) rest := fun v hv => o2 _ (List.mem_append_right _ hv)
  refine E_run (hC.1.sub hsub) kk hF hW hS hl o1 oR hn0 hρ (a := (As.map (rv ρ)).toArray) ?_
  refine va_runSN (Ts := lw_good) (own := f.1.cls) (As := As.map (rv ρ)) ⟨hF.1.1, hF.1.2.1, hF.1.2.2, hF.2.2.1, hF.2.2.2.1⟩ (hC.2 G cAs ρ H.size)
    ⟨va_cnB n hF.2.2.2.1 (goodIn_good (wsM_good hM)) rfl rfl rfl (hF.2.2.2.2.2.2.2.2.2.2.2.2.1 _ hlk) (hF.2.2.2.1 _ hM.2.1) hM.2.2.1 (rm_ok hD hF.2.2.2.2.1 hM.2.2.2.1), hF.2.2.2.1 _ hi, trivial⟩
    ⟨PcM_blind, fun U hU hWm => pre_of hF hW hS (by omega) oA U hU hWm⟩ rfl (by rw [List.length_map]; exact hn) hl.1 ?_ ?_ hd ⟨by omega, by omega⟩
  · show List.map (rv ρ) (As.reverse ++ rest) = _
    rw [List.map_append, List.map_reverse]
  · exact lv_room (by rw [cat_sum]; exact hcat)
theorem E_callI {g : MI} {d n idx b : Nat} {As rest : List Value} {r1 : Option Value} {σ1 : AH} (hd : decode f.2.1 pc = .ok (.invokespecial idx, 3)) (hM : MOk g n) (hi : Cond.instanceMethod g.1 ∈ lw_good) (hin : g.1.name = "<init>") (hret : g.2.2.2.1 = none) (hlk : Cond.methodLink f.1.cls idx g.1 ∈ lw_good) (hD : d + 1 ≤ D) (hn : As.length = n) (hst : st = As.reverse ++ .ref b :: rest) (hcat : (rest.map fun v => v.category).sum ≤ 8)
    (hsub : subB g f = true) (hC : Call X l g d (.ref b :: As) σ r1 σ1) (kk : E X l f D (pc + 3) lv (r1.toList ++ rest) σ1 r σ') : E X l f D pc lv st σ r σ' := by
  refine ⟨(hC.1.sub hsub).trans kk.1, fun p e R s m args below meth c G cAs A ρ H locs ls n0 s0 ρ0 hF hW hS hl o1 o2 hn0 hρ => ?_⟩
  subst hst
  have hm1 := hC.1.1
  have hm2 := hC.1.2.1
  have hk1 := kk.1.1
  have hk2 := kk.1.2.1
  have oA : okl (nx σ) (.ref b :: As) := by
    intro v hv
    rcases List.mem_cons.mp hv with rfl | hv
    · exact o2 _ (List.mem_append_right _ List.mem_cons_self)
    · exact o2 _ (List.mem_append_left _ (List.mem_reverse.mpr hv))
  have oR : okl (nx σ) rest := fun v hv => o2 _ (List.mem_append_right _ (List.mem_cons_of_mem _ hv))
  refine E_run (hC.1.sub hsub) kk hF hW hS hl o1 oR hn0 hρ (a := (Value.ref (ρ b) :: As.map (rv ρ)).toArray) ?_
  refine va_runI (Ts := lw_good) (own := f.1.cls) (As := As.map (rv ρ)) ⟨hF.1.1, hF.1.2.1, hF.1.2.2, hF.2.2.1, hF.2.2.2.1⟩ (hC.2 G cAs ρ H.size)
    ⟨by rw [← hret]; exact callB_of n hF.2.2.2.1 (goodIn_good (wsM_good hM)) rfl rfl rfl (hF.2.2.2.1 _ hM.2.1) (hF.2.2.2.1 _ hlk) hM.2.2.1 (rm_ok hD hF.2.2.2.2.1 hM.2.2.2.1), hin, hF.2.2.2.1 _ hi⟩
    ⟨PcM_blind, fun U hU hWm => pre_of hF hW hS (by omega) oA U hU hWm⟩ rfl (by rw [List.length_map]; exact hn) hl.1 ?_ ?_ hd ⟨by omega, by omega⟩
  · show List.map (rv ρ) (As.reverse ++ .ref b :: rest) = _
    rw [List.map_append, List.map_reverse]; rfl
  · exact lv_room (by rw [cat_sum]; exact hcat)
theorem E_callIN {g : MI} {d n idx b : Nat} {As rest : List Value} {r1 : Option Value} {σ1 : AH} (hd : decode f.2.1 pc = .ok (.invokespecial idx, 3)) (hM : MOk g n) (hi : Cond.instanceMethod g.1 ∈ lw_good) (hin : g.1.name = "<init>") (hret : g.2.2.2.1 = none) (hlk : (f.1.cls, idx, g.1) ∈ nestT) (hD : d + 1 ≤ D) (hn : As.length = n) (hst : st = As.reverse ++ .ref b :: rest) (hcat : (rest.map fun v => v.category).sum ≤ 8)
    (hsub : subB g f = true) (hC : Call X l g d (.ref b :: As) σ r1 σ1) (kk : E X l f D (pc + 3) lv (r1.toList ++ rest) σ1 r σ') : E X l f D pc lv st σ r σ' := by
  refine ⟨(hC.1.sub hsub).trans kk.1, fun p e R s m args below meth c G cAs A ρ H locs ls n0 s0 ρ0 hF hW hS hl o1 o2 hn0 hρ => ?_⟩
  subst hst
  have hm1 := hC.1.1
  have hm2 := hC.1.2.1
  have hk1 := kk.1.1
  have hk2 := kk.1.2.1
  have oA : okl (nx σ) (.ref b :: As) := by
    intro v hv
    rcases List.mem_cons.mp hv with rfl | hv
    · exact o2 _ (List.mem_append_right _ List.mem_cons_self)
    · exact o2 _ (List.mem_append_left _ (List.mem_reverse.mpr hv))
  have oR : okl (nx σ) rest := fun v hv => o2 _ (List.mem_append_right _ (List.mem_cons_of_mem _ hv))
  refine E_run (hC.1.sub hsub) kk hF hW hS hl o1 oR hn0 hρ (a := (Value.ref (ρ b) :: As.map (rv ρ)).toArray) ?_
  refine va_runIN (Ts := lw_good) (own := f.1.cls) (As := As.map (rv ρ)) ⟨hF.1.1, hF.1.2.1, hF.1.2.2, hF.2.2.1, hF.2.2.2.1⟩ (hC.2 G cAs ρ H.size)
    ⟨by rw [← hret]; exact va_cnB n hF.2.2.2.1 (goodIn_good (wsM_good hM)) rfl rfl rfl (hF.2.2.2.2.2.2.2.2.2.2.2.2.1 _ hlk) (hF.2.2.2.1 _ hM.2.1) hM.2.2.1 (rm_ok hD hF.2.2.2.2.1 hM.2.2.2.1), hin, hF.2.2.2.1 _ hi⟩
    ⟨PcM_blind, fun U hU hWm => pre_of hF hW hS (by omega) oA U hU hWm⟩ rfl (by rw [List.length_map]; exact hn) hl.1 ?_ ?_ hd ⟨by omega, by omega⟩
  · show List.map (rv ρ) (As.reverse ++ .ref b :: rest) = _
    rw [List.map_append, List.map_reverse]; rfl
  · exact lv_room (by rw [cat_sum]; exact hcat)
theorem E_callSA {g : MI} {d n idx : Nat} {As rest : List Value} {r1 : Option Value} {σ1 : AH} (hd : decode f.2.1 pc = .ok (.invokestatic idx, 3)) (hM : MOk g n) (hi : Cond.static g.1 ∈ lw_good) (hlk : Cond.methodLink f.1.cls idx g.1 ∈ lw_good) (hD : d + 1 ≤ D) (hn : As.length = n) (hst : st = As.reverse ++ rest) (hcat : (rest.map fun v => v.category).sum ≤ 8)
    (hsub : ∀ i, al g i → al f i) (hC : Call X l g d As σ r1 σ1) (kk : E X l f D (pc + 3) lv (r1.toList ++ rest) σ1 r σ') : E X l f D pc lv st σ r σ' := by
  refine ⟨(hC.1.subA hsub).trans kk.1, fun p e R s m args below meth c G cAs A ρ H locs ls n0 s0 ρ0 hF hW hS hl o1 o2 hn0 hρ => ?_⟩
  subst hst
  have hm1 := hC.1.1
  have hm2 := hC.1.2.1
  have hk1 := kk.1.1
  have hk2 := kk.1.2.1
  have oA : okl (nx σ) As := fun v hv => o2 _ (List.mem_append_left _ (List.mem_reverse.mpr hv))
  have oR : okl (nx σ) rest := fun v hv => o2 _ (List.mem_append_right _ hv)
  refine E_run (hC.1.subA hsub) kk hF hW hS hl o1 oR hn0 hρ (a := (As.map (rv ρ)).toArray) ?_
  refine va_runS (Ts := lw_good) (own := f.1.cls) (As := As.map (rv ρ)) ⟨hF.1.1, hF.1.2.1, hF.1.2.2, hF.2.2.1, hF.2.2.2.1⟩ (hC.2 G cAs ρ H.size)
    ⟨callB_of n hF.2.2.2.1 (goodIn_good (wsM_good hM)) rfl rfl rfl (hF.2.2.2.1 _ hM.2.1) (hF.2.2.2.1 _ hlk) hM.2.2.1 (rm_ok hD hF.2.2.2.2.1 hM.2.2.2.1), hF.2.2.2.1 _ hi⟩
    ⟨PcM_blind, fun U hU hWm => pre_of hF hW hS (by omega) oA U hU hWm⟩ rfl (by rw [List.length_map]; exact hn) hl.1 ?_ ?_ hd ⟨by omega, by omega⟩
  · show List.map (rv ρ) (As.reverse ++ rest) = _
    rw [List.map_append, List.map_reverse]
  · exact lv_room (by rw [cat_sum]; exact hcat)
theorem sl_len (vs : List Value) : (lg_sl vs).length = (vs.map fun v => v.category).sum := by
  induction vs with
  | nil => rfl
  | cons v vs ih =>
    have h : lg_sl (v :: vs) = (if v.category = 2 then [.val v, .second] else [.val v]) ++ lg_sl vs := rfl
    rw [h, List.length_append, ih, List.map_cons, List.sum_cons]
    rcases lv_cat v with q | q <;> simp [q]
/-- a walk from the entry is a contract -/
theorem Call.ofE {g : MI} {n d : Nat} {av : List Value} {lv0 : List (Nat × Value)} (hM : MOk g n) (hlv : lv_args 0 av = lv0) (hlen : (av.map fun v => v.category).sum ≤ g.2.2.1) (k : E X l g d 0 lv0 [] σ r σ') : Call X l g d av σ r σ' := by
  refine ⟨k.1, fun G cAs ρ sz => ?_⟩
  refine Met.ofW (cc := g.2.1) (maxL := g.2.2.1) (ret := g.2.2.2.1) (ws' := lw_good) hM.2.2.2.2 rfl ?_
  intro p e s m args below meth c s₁ B hml hv
  obtain ⟨rfl, hsz, hW, hSp, h7, hok⟩ := hv
  have hts := atoms_spec (ws := wsM g) B.pre
  have hown : s.vm.findClass g.1.cls = some m.cls := findClass_of_methodNamed B.named
  have hnm : meth.name = g.1.name := (name_of_methodNamed B.named B.method).1
  have hl := lv_entry (av.map (rv ρ)) (n := g.2.2.1) (by rw [sl_len, cat_sum]; exact hlen)
  rw [lg_entry_eq]
  generalize (lg_sl (av.map (rv ρ)) ++ List.replicate (g.2.2.1 - (lg_sl (av.map (rv ρ))).length) Slot.unset).toArray = ls at hl ⊢
  rw [lv_args_map, hlv] at hl
  have hm1 := k.1.1
  have hm2 := k.1.2.1
  have hks : ∀ v, v ∈ lv0.map Prod.snd → v ∈ av := by
    rw [← hlv]
    intro v hv
    have : ∀ (vs : List Value) (j : Nat), (lv_args j vs).map Prod.snd = vs := by
      intro vs
      induction vs with
      | nil => intro j; rfl
      | cons w ws ih => intro j; simp [lv_args, ih]
    rwa [this] at hv
  have := k.2 p e (rmM d (nx σ' - nx σ) (sl σ' - sl σ)) s m (av.map (rv ρ)).toArray below meth c G cAs (Ar ρ σ sz) ρ s.heap [] ls (nx σ) (sl σ) ρ
    ⟨⟨B.exec, B.bytes, hml⟩, ⟨B.returns, hnm, B.notSynchronized⟩, hown, fun w hw => hts w (List.mem_cons_of_mem _ hw), ⟨Nat.le_refl _, Nat.le_refl _⟩, fun q hq => Or.inr (by rw [← hsz]; exact hq), hSp⟩ hW va_S.rf hl (fun v hv => hok v (hks v hv)) (fun v hv => by cases hv) ⟨Nat.le_refl _, Nat.le_refl _, Nat.le_refl _, Nat.le_refl _, h7⟩ (fun _ _ => rfl)
  rw [Nat.sub_self, Nat.sub_self] at this
  exact this
end CRules
