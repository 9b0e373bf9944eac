theorem defOk : ∀ c, c < 13 → ∀ j, j < NO c → defaultValue (tyO c j) = (match ftk (tyO c j) with | 0 => .int 0 | 1 => .long 0 | _ => .null) := by decide +kernel
section ARules
variable {X : Sx} {l : Launch} {f : MI} {D pc : Nat} {lv : List (Nat × Value)} {st : List Value} {σ σ' : AH} {r : Option Value}
theorem Clo_aw {t n : Nat} (h : Clo σ) : Clo (aw σ t n) := by
  intro o k b hb
  have hb' : va_up (gR σ) (nx σ) (fun _ => none) o k = some b := hb
  by_cases h1 : o = nx σ
  · subst h1
    rw [up_same] at hb'
    cases hb'
  · rw [up_ne _ _ _ h1] at hb'
    rcases h o k b hb' with q | q
    · exact Or.inl (Nat.lt_succ_of_lt q)
    · exact Or.inr q
theorem map_re {n q : Nat} {ρ : Nat → Nat} {v : Option Nat} (h : ∀ b, v = some b → b < n ∨ 1000000 ≤ b) (hn : n < 1000000) : v.map (va_up ρ n q) = v.map ρ := by
  cases v with
  | none => rfl
  | some b =>
    show some _ = some _
    rw [up_ne _ _ _ (by have := h b rfl; omega)]
theorem ent_aw {cAs : Nat → ClassId} {ρ : Nat → Nat} {t n q i : Nat} (hc : Clo σ) (hn : nx σ < 1000000) (hi : i < nx σ) : ent cAs (va_up ρ (nx σ) q) (aw σ t n) i = ent cAs ρ σ i := by
  have hne : i ≠ nx σ := by omega
  have h0 : kd (aw σ t n) i = kd σ i := up_ne _ _ _ hne
  have h1 : gI (aw σ t n) i = gI σ i := up_ne _ _ _ hne
  have h2 : gL (aw σ t n) i = gL σ i := up_ne _ _ _ hne
  have h3 : gR (aw σ t n) i = gR σ i := up_ne _ _ _ hne
  have h4 : fval (va_up ρ (nx σ) q) (aw σ t n) i = fval ρ σ i := by
    funext c k
    simp only [fval, h1, h2, h3]
    rw [map_re (fun b hb => hc i k b hb) hn]
  have h5 : cont (va_up ρ (nx σ) q) (aw σ t n) i = cont ρ σ i := by
    funext c
    simp only [cont, h1, h2, h3]
    congr; funext k
    rw [map_re (fun b hb => hc i k b hb) hn]
  unfold ent
  rw [h0, h4, h5]
theorem ws_aw {cAs : Nat → ClassId} {ρ : Nat → Nat} {t n q : Nat} (hc : Clo σ) (hn : nx σ < 1000000) : wsA cAs ρ σ ++ [(q, ent cAs (va_up ρ (nx σ) q) (aw σ t n) (nx σ))] = wsA cAs (va_up ρ (nx σ) q) (aw σ t n) := by
  apply List.ext_getElem?
  intro i
  have hnx : nx (aw σ t n) = nx σ + 1 := rfl
  rcases Nat.lt_trichotomy i (nx σ) with h | h | h
  · rw [List.getElem?_append_left (by rw [wsA_len]; exact h), wsA_get h, wsA_get (by omega), ent_aw hc hn h, up_ne _ _ _ (by omega)]
  · subst h
    rw [List.getElem?_append_right (by rw [wsA_len]; exact Nat.le_refl _), wsA_get (by omega), wsA_len, up_same]
    simp
  · rw [List.getElem?_eq_none (by simp [wsA_len]; omega), List.getElem?_eq_none (by rw [wsA_len]; omega)]
theorem row_aw {t n i : Nat} (hi : i < nx σ) : Row σ (aw σ t n) i := ⟨up_ne _ _ _ (Nat.ne_of_lt hi), up_ne _ _ _ (Nat.ne_of_lt hi), up_ne _ _ _ (Nat.ne_of_lt hi)⟩
theorem Mono_aw {t n : Nat} (h : Mono f (aw σ t n) σ') : Mono f σ σ' := by
  obtain ⟨h1, h2, h3, h4, h5⟩ := h
  have e1 : nx (aw σ t n) = nx σ + 1 := rfl
  have e2 : sl (aw σ t n) = sl σ + n := rfl
  refine ⟨by omega, by omega, fun i hi => ?_, fun q => h4 (Sh_aw q), fun i hi ha => (row_aw hi).trans (h5 i (by omega) ha)⟩
  rw [h3 i (by omega)]
  exact up_ne _ _ _ (by omega)
/-- the rest of a walk behind a new cell -/
theorem E_after {t n pc2 : Nat} {st2 : List Value} (kk : E X l f D pc2 lv (.ref (nx σ) :: st2) (aw σ t n) r σ') {p : Program} {e : Env} {R : Room} {s : State} {m : MethodId} {args : Array Value} {below : List Frame} {meth : Method} {c : Code} {G : va_G} {cAs : Nat → ClassId} {A : Nat → Prop} {ρ : Nat → Nat} {locs : List Loc} {ls : Array Slot} {n0 s0 : Nat} {ρ0 : Nat → Nat}
    (hF : Fr X f D A ρ p R s m args meth c) (hl : lv_has ls f.2.2.1 (lv.map fun q => (q.1, rv ρ q.2))) (o1 : okl (nx σ) (lv.map Prod.snd)) (o2 : okl (nx σ) st2) (hc : Clo σ) (hK : va_K G vwCl (tysA cAs) s)
    (hn0 : n0 ≤ nx σ ∧ s0 ≤ sl σ ∧ nx σ' - n0 ≤ R.cells ∧ sl σ' - s0 ≤ R.slots ∧ nx σ' ≤ 700000) (hρ : ∀ i, (i < n0 ∨ 1000000 ≤ i) → ρ i = ρ0 i) (q : Nat) (H1 : Heap) (en : va_E) (hen : en = ent cAs (va_up ρ (nx σ) q) (aw σ t n) (nx σ))
    (hP : va_P G vwCl (wsA cAs ρ σ ++ [(q, en)]) H1) (hD : va_D A (wsA cAs ρ σ ++ [(q, en)])) (hS : va_S A s.heap H1 locs) :
    W p l e R s m args below meth c H1 locs (nx σ - n0 + 1) (sl σ - s0 + n) (MQ below (Qe G cAs A ρ0 n0 r σ') args s (nx σ' - n0) (sl σ' - s0) A) (F0 m pc2 ls (.ref q :: st2.map (rv ρ))) := by
  subst hen
  obtain ⟨hm, kw⟩ := kk
  have hm1 := hm.1
  have e1 : nx (aw σ t n) = nx σ + 1 := rfl
  have e2 : sl (aw σ t n) = sl σ + n := rfl
  have hn : nx σ < 1000000 := by omega
  have g1 : nx σ ≤ nx (aw σ t n) := Nat.le_succ _
  have g2 : nx σ < nx (aw σ t n) := Nat.lt_succ_self _
  have g3 : sl σ ≤ sl (aw σ t n) := Nat.le_add_right _ _
  rw [ws_aw hc hn] at hP hD
  have hag : ∀ i, (i < nx σ ∨ 1000000 ≤ i) → va_up ρ (nx σ) q i = ρ i := fun i hi => up_ne _ _ _ (by omega)
  have hl2 : (lv.map fun z => (z.1, rv (va_up ρ (nx σ) q) z.2)) = lv.map fun z => (z.1, rv ρ z.2) :=
    List.map_congr_left fun z hz => by rw [rv_eq (o1 z.2 (List.mem_map.mpr ⟨z, hz, rfl⟩)) hag]
  have hst2 : st2.map (rv (va_up ρ (nx σ) q)) = st2.map (rv ρ) := rv_eql o2 hag
  have := kw p e R s m args below meth c G cAs A (va_up ρ (nx σ) q) H1 locs ls n0 s0 ρ0 (hF.re fun i hi => hag i (Or.inr hi)) ⟨hK, hP, hD, Clo_aw hc⟩ hS (by rw [hl2]; exact hl) (okl_mono g1 o1) (okl_cons.mpr ⟨Or.inl g2, okl_mono g1 o2⟩) ⟨Nat.le_trans hn0.1 g1, Nat.le_trans hn0.2.1 g3, hn0.2.2⟩ (fun i hi => by rw [hag i (by omega)]; exact hρ i hi)
  rw [show nx (aw σ t n) - n0 = nx σ - n0 + 1 by omega, show sl (aw σ t n) - s0 = sl σ - s0 + n by omega, List.map_cons, hst2] at this
  rw [show rv (va_up ρ (nx σ) q) (.ref (nx σ)) = .ref q from by show Value.ref (va_up ρ (nx σ) q (nx σ)) = _; rw [up_same]] at this
  exact this
theorem E_newaI {n : Int32} (N : Nat) (hd : decode f.2.1 pc = .ok (.newarray .int, 2)) (hw : Cond.arrayClass .int ∈ lw_good) (hn : ¬ n < 0) (hN : n.toNatClampNeg = N) (hb : N ≤ 2000000) (kk : E X l f D (pc + 2) lv (.ref (nx σ) :: st) (aw σ 100 N) r σ') : E X l f D pc lv (.int n :: st) σ r σ' := by
  have hm := kk.1
  have e1 : nx (aw σ 100 N) = nx σ + 1 := rfl
  have e2 : sl (aw σ 100 N) = sl σ + N := rfl
  refine ⟨Mono_aw hm, fun p e R s m args below meth c G cAs A ρ H locs ls n0 s0 ρ0 hF hW hS hl o1 o2 hn0 hρ => ?_⟩
  have hm1 := hm.1
  have hm2 := hm.2.1
  have hby : N * componentBytes .int ≤ 536870912 := Nat.le_trans (Nat.mul_le_mul hb (by decide : componentBytes .int ≤ 8)) (by decide)
  refine va_newa (atype := .int) (ty := .int) (a0 := (N, .inl (fun _ => 0))) hF.1.1 hF.1.2.1 (hF.2.2.2.1 _ hw) rfl hW.1 hW.2.1 hW.2.2.1 hS hF.2.2.2.2.2.1 (fun _ => rfl) hn hN hby (by omega) (by omega) hd (fun q cA H1 hK2 hP2 hD2 hS2 => ?_)
  have hcA : cA = cAs 100 := by
    have h1 := (hK2.2 6 (cA, .int) rfl).2
    have h2 := (hW.1.2 0 (cAs 100, .int) rfl).2
    exact Option.some.inj (Eq.trans (Eq.symm h1) h2)
  subst hcA
  refine E_after kk hF hl o1 (okl_tail o2) hW.2.2.2 hW.1 hn0 hρ q H1 _ ?_ hP2 hD2 hS2
  have k0 : kd (aw σ 100 N) (nx σ) = (100, N) := up_same _ _ _
  have k1 : gI (aw σ 100 N) (nx σ) = fun _ => 0 := up_same _ _ _
  have k2 : gL (aw σ 100 N) (nx σ) = fun _ => 0 := up_same _ _ _
  rw [ent, k0]
  simp only [cont, k1, k2]
  rfl
theorem E_newaZ {n : Int32} (N : Nat) (hd : decode f.2.1 pc = .ok (.newarray .boolean, 2)) (hw : Cond.arrayClass .boolean ∈ lw_good) (hn : ¬ n < 0) (hN : n.toNatClampNeg = N) (hb : N ≤ 2000000) (kk : E X l f D (pc + 2) lv (.ref (nx σ) :: st) (aw σ 101 N) r σ') : E X l f D pc lv (.int n :: st) σ r σ' := by
  have hm := kk.1
  have e1 : nx (aw σ 101 N) = nx σ + 1 := rfl
  have e2 : sl (aw σ 101 N) = sl σ + N := rfl
  refine ⟨Mono_aw hm, fun p e R s m args below meth c G cAs A ρ H locs ls n0 s0 ρ0 hF hW hS hl o1 o2 hn0 hρ => ?_⟩
  have hm1 := hm.1
  have hm2 := hm.2.1
  have hby : N * componentBytes .boolean ≤ 536870912 := Nat.le_trans (Nat.mul_le_mul hb (by decide : componentBytes .boolean ≤ 8)) (by decide)
  refine va_newa (atype := .boolean) (ty := .boolean) (a0 := (N, .inl (fun _ => 0))) hF.1.1 hF.1.2.1 (hF.2.2.2.1 _ hw) rfl hW.1 hW.2.1 hW.2.2.1 hS hF.2.2.2.2.2.1 (fun _ => rfl) hn hN hby (by omega) (by omega) hd (fun q cA H1 hK2 hP2 hD2 hS2 => ?_)
  have hcA : cA = cAs 101 := by
    have h1 := (hK2.2 6 (cA, .boolean) rfl).2
    have h2 := (hW.1.2 1 (cAs 101, .boolean) rfl).2
    exact Option.some.inj (Eq.trans (Eq.symm h1) h2)
  subst hcA
  refine E_after kk hF hl o1 (okl_tail o2) hW.2.2.2 hW.1 hn0 hρ q H1 _ ?_ hP2 hD2 hS2
  have k0 : kd (aw σ 101 N) (nx σ) = (101, N) := up_same _ _ _
  have k1 : gI (aw σ 101 N) (nx σ) = fun _ => 0 := up_same _ _ _
  have k2 : gL (aw σ 101 N) (nx σ) = fun _ => 0 := up_same _ _ _
  rw [ent, k0]
  simp only [cont, k1, k2]
  rfl
theorem E_newaL {n : Int32} (N : Nat) (hd : decode f.2.1 pc = .ok (.newarray .long, 2)) (hw : Cond.arrayClass .long ∈ lw_good) (hn : ¬ n < 0) (hN : n.toNatClampNeg = N) (hb : N ≤ 2000000) (kk : E X l f D (pc + 2) lv (.ref (nx σ) :: st) (aw σ 102 N) r σ') : E X l f D pc lv (.int n :: st) σ r σ' := by
  have hm := kk.1
  have e1 : nx (aw σ 102 N) = nx σ + 1 := rfl
  have e2 : sl (aw σ 102 N) = sl σ + N := rfl
  refine ⟨Mono_aw hm, fun p e R s m args below meth c G cAs A ρ H locs ls n0 s0 ρ0 hF hW hS hl o1 o2 hn0 hρ => ?_⟩
  have hm1 := hm.1
  have hm2 := hm.2.1
  have hby : N * componentBytes .long ≤ 536870912 := Nat.le_trans (Nat.mul_le_mul hb (by decide : componentBytes .long ≤ 8)) (by decide)
  refine va_newa (atype := .long) (ty := .long) (a0 := (N, .inr (.inl (fun _ => 0)))) hF.1.1 hF.1.2.1 (hF.2.2.2.1 _ hw) rfl hW.1 hW.2.1 hW.2.2.1 hS hF.2.2.2.2.2.1 (fun _ => rfl) hn hN hby (by omega) (by omega) hd (fun q cA H1 hK2 hP2 hD2 hS2 => ?_)
  have hcA : cA = cAs 102 := by
    have h1 := (hK2.2 6 (cA, .long) rfl).2
    have h2 := (hW.1.2 2 (cAs 102, .long) rfl).2
    exact Option.some.inj (Eq.trans (Eq.symm h1) h2)
  subst hcA
  refine E_after kk hF hl o1 (okl_tail o2) hW.2.2.2 hW.1 hn0 hρ q H1 _ ?_ hP2 hD2 hS2
  have k0 : kd (aw σ 102 N) (nx σ) = (102, N) := up_same _ _ _
  have k1 : gI (aw σ 102 N) (nx σ) = fun _ => 0 := up_same _ _ _
  have k2 : gL (aw σ 102 N) (nx σ) = fun _ => 0 := up_same _ _ _
  rw [ent, k0]
  simp only [cont, k1, k2]
  rfl
theorem E_newq {n : Int32} {idx : Nat} (N t : Nat) (hd : decode f.2.1 pc = .ok (.anewarray idx, 3)) (ht : t = 103 ∨ t = 104 ∨ t = 105) (hw : Cond.classLink f.1.cls idx (rcl t) ∈ lw_good) (hn : ¬ n < 0) (hN : n.toNatClampNeg = N) (hb : N ≤ 1000) (kk : E X l f D (pc + 3) lv (.ref (nx σ) :: st) (aw σ t N) r σ') : E X l f D pc lv (.int n :: st) σ r σ' := by
  have hm := kk.1
  have e1 : nx (aw σ t N) = nx σ + 1 := rfl
  have e2 : sl (aw σ t N) = sl σ + N := rfl
  refine ⟨Mono_aw hm, fun p e R s m args below meth c G cAs A ρ H locs ls n0 s0 ρ0 hF hW hS hl o1 o2 hn0 hρ => ?_⟩
  have hm1 := hm.1
  have hm2 := hm.2.1
  have hov : va_AO (rcl t) s := by
    obtain ⟨z1, z2, z3⟩ := hF.2.2.2.2.2.2.2.2.2.2.2.1
    rcases ht with rfl | rfl | rfl
    · exact z1
    · exact z2
    · exact z3
  refine va_newq (C := rcl t) hF.1.1 hF.1.2.1 hF.2.2.1 (hF.2.2.2.1 _ hw) hov hW.1 hW.2.1 hW.2.2.1 hS hF.2.2.2.2.2.1 hn hN (by omega) (by omega) (by omega) hd (fun q cA H1 hK2 hP2 hD2 hS2 => ?_)
  have hcA : cA = cAs t := by
    obtain ⟨ka1, co1, -, -, -, h1⟩ := (hK2.2 6 (cA, .object (rcl t)) rfl).2
    obtain ⟨ka2, co2, -, -, -, h2⟩ := (hW.1.2 (t - 100) (cAs t, .object (rcl t)) (ty_ref cAs ht)).2
    exact Option.some.inj (Eq.trans (Eq.symm h1) h2)
  subst hcA
  refine E_after kk hF hl o1 (okl_tail o2) hW.2.2.2 hW.1 hn0 hρ q H1 _ ?_ hP2 hD2 hS2
  have k0 : kd (aw σ t N) (nx σ) = (t, N) := up_same _ _ _
  have k1 : gR (aw σ t N) (nx σ) = fun _ => none := up_same _ _ _
  rw [ent, k0]
  simp only
  rw [if_neg (by omega), cont_ref _ _ ht, k1]
  rfl
theorem E_new {idx : Nat} (ci : Nat) (hd : decode f.2.1 pc = .ok (.new idx, 3)) (hc : ci < 13) (hw : Cond.classLink f.1.cls idx (RO ci) ∈ lw_good) (kk : E X l f D (pc + 3) lv (.ref (nx σ) :: st) (aw σ ci (NO ci)) r σ') : E X l f D pc lv st σ r σ' := by
  have hm := kk.1
  have e1 : nx (aw σ ci (NO ci)) = nx σ + 1 := rfl
  have e2 : sl (aw σ ci (NO ci)) = sl σ + NO ci := rfl
  refine ⟨Mono_aw hm, fun p e R s m args below meth c G cAs A ρ H locs ls n0 s0 ρ0 hF hW hS hl o1 o2 hn0 hρ => ?_⟩
  have hm1 := hm.1
  have hm2 := hm.2.1
  obtain ⟨q1, q2, q3, q4, q5, q6⟩ := clsok hc
  refine va_new (C := RO ci) (T := TO ci) (N := NO ci) (ci := ci) (fs := (List.range (NO ci)).map (fval ρ (aw σ ci (NO ci)) (nx σ) ci)) hF.1.1 hF.1.2.1 hF.2.2.2.1 q2 (tyO ci) q3 hF.2.2.1 (hF.2.2.2.1 _ hw) (hF.2.2.2.1 _ q5) (hF.2.2.2.1 _ q6) hW.1 hW.2.1 hW.2.2.1 hS hF.2.2.2.2.2.1 q1 ?_ (by omega) (by omega) hd (fun q H1 hP2 hD2 hS2 => ?_)
  · intro j hj
    rw [defOk ci hc j hj]
    have k1 : gI (aw σ ci (NO ci)) (nx σ) = fun _ => 0 := up_same _ _ _
    have k2 : gL (aw σ ci (NO ci)) (nx σ) = fun _ => 0 := up_same _ _ _
    have k3 : gR (aw σ ci (NO ci)) (nx σ) = fun _ => none := up_same _ _ _
    show _ = List.getD _ j _
    rw [List.getD_eq_getElem?_getD, fv_get hj]
    simp only [fval, k1, k2, k3]
    show _ = (match ftk (tyO ci j) with | 0 => Value.int 0 | 1 => Value.long 0 | _ => va_rf (Option.map ρ none))
    split <;> rfl
  · refine E_after kk hF hl o1 o2 hW.2.2.2 hW.1 hn0 hρ q H1 _ ?_ hP2 hD2 hS2
    have k0 : kd (aw σ ci (NO ci)) (nx σ) = (ci, NO ci) := up_same _ _ _
    have k3 : gR (aw σ ci (NO ci)) (nx σ) = fun _ => none := up_same _ _ _
    rw [ent, k0]
    simp only
    rw [if_pos (by omega)]
    congr 2
    apply List.map_congr_left
    intro k hk
    simp only [fval, k3]
    rfl
theorem E_objInit {idx b : Nat} (hd : decode f.2.1 pc = .ok (.invokespecial idx, 3)) (hw : Cond.methodLink f.1.cls idx Lib.objectInit ∈ lw_good) (hD : 1 ≤ D) (hst : (st.map fun v => v.category).sum + 12 ≤ 64) (kk : E X l f D (pc + 3) lv st σ r σ') : E X l f D pc lv (.ref b :: st) σ r σ' := by
  refine ⟨kk.1, fun p e R s m args below meth c G cAs A ρ H locs ls n0 s0 ρ0 hF hW hS hl o1 o2 hn0 hρ => ?_⟩
  have hc : (st.map (rv ρ)).map (fun v => v.category) = st.map fun v => v.category := by
    rw [List.map_map]; exact List.map_congr_left fun v _ => rv_cat ρ v
  refine W.objInit hF.1.1 hF.1.2.1 hF.2.2.1 (hF.2.2.2.1 _ hw) (hF.2.2.2.1 _ (mem_good (by decide +kernel))) (hF.2.2.2.1 _ (mem_good (by decide +kernel))) rfl (by rw [hF.1.2.2]; exact hl.1) rfl hd (Nat.le_trans hD hF.2.2.2.2.1.1) ?_ ?_
  · have h64 := hF.2.2.2.2.1.2
    rw [hc]
    have h0 : (F0 m pc ls (List.map (rv ρ) (Value.ref b :: st))).monitorRoom = 0 := rfl
    have : 64 * 1 ≤ 64 * D := Nat.mul_le_mul_left 64 hD
    rw [h0]
    omega
  · exact kk.2 p e R s m args below meth c G cAs A ρ H locs ls n0 s0 ρ0 hF hW hS hl o1 (okl_tail o2) hn0 hρ

end ARules
