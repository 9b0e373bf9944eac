section HRules
variable {X : Sx} {l : Launch} {f : MI} {D pc : Nat} {lv : List (Nat × Value)} {st : List Value} {σ σ' : AH} {r : Option Value}
theorem fv_get {ρ : Nat → Nat} {o ci n k : Nat} (hk : k < n) : ((List.range n).map (fval ρ σ o ci))[k]? = some (fval ρ σ o ci k) := by simp [hk]
theorem E_get {o ci k idx : Nat} {v : Value} (hd : decode f.2.1 pc = .ok (.getfield idx, 3)) (hL : FLink f.1.cls idx ci k) (hk : kd σ o = (ci, NO ci)) (ho : o < nx σ) (hv : ∀ ρ, fval ρ σ o ci k = rv ρ v) (hov : Clo σ → okv (nx σ) v) (kk : E X l f D (pc + 3) lv (v :: st) σ r σ') : E X l f D pc lv (.ref o :: st) σ r σ' := by
  refine ⟨kk.1, fun p e R s m args below meth c G cAs A ρ H locs ls n0 s0 ρ0 hF hW hS hl o1 o2 hn0 hρ => ?_⟩
  obtain ⟨hc, hkn, hlk⟩ := hL
  obtain ⟨q1, q2, q3, q4, q5⟩ := clsok hc
  refine va_get (C := RO ci) (T := TO ci) (N := NO ci) hF.1.1 hF.1.2.1 hF.2.2.2.1 q2 hF.2.2.1 hW.1 hW.2.1 o (wsA_obj ho hk (by omega)) q1 k hkn (hF.2.2.2.1 _ hlk) (fun _ h => h) (v := rv ρ v) (by rw [fv_get hkn, hv]) hd ?_
  exact kk.2 p e R s m args below meth c G cAs A ρ H locs ls n0 s0 ρ0 hF hW hS hl o1 (okl_cons.mpr ⟨hov hW.2.2.2, okl_tail o2⟩) hn0 hρ
theorem E_getI {o ci k idx : Nat} (hd : decode f.2.1 pc = .ok (.getfield idx, 3)) (hL : FLink f.1.cls idx ci k) (ht : ftk (tyO ci k) = 0) (hk : kd σ o = (ci, NO ci)) (ho : o < nx σ) (kk : E X l f D (pc + 3) lv (.int (gI σ o k) :: st) σ r σ') : E X l f D pc lv (.ref o :: st) σ r σ' :=
  E_get (v := .int (gI σ o k)) hd hL hk ho (fun ρ => by simp only [fval, ht]; rfl) (fun _ => trivial) kk
theorem E_getL {o ci k idx : Nat} (hd : decode f.2.1 pc = .ok (.getfield idx, 3)) (hL : FLink f.1.cls idx ci k) (ht : ftk (tyO ci k) = 1) (hk : kd σ o = (ci, NO ci)) (ho : o < nx σ) (kk : E X l f D (pc + 3) lv (.long (gL σ o k) :: st) σ r σ') : E X l f D pc lv (.ref o :: st) σ r σ' :=
  E_get (v := .long (gL σ o k)) hd hL hk ho (fun ρ => by simp only [fval, ht]; rfl) (fun _ => trivial) kk
theorem E_getR {o ci k idx : Nat} (b : Nat) (hd : decode f.2.1 pc = .ok (.getfield idx, 3)) (hL : FLink f.1.cls idx ci k) (ht : ftk (tyO ci k) = 2) (hk : kd σ o = (ci, NO ci)) (ho : o < nx σ) (hb : gR σ o k = some b) (kk : E X l f D (pc + 3) lv (.ref b :: st) σ r σ') : E X l f D pc lv (.ref o :: st) σ r σ' :=
  E_get (v := .ref b) hd hL hk ho (fun ρ => by simp only [fval, ht, hb]; rfl) (fun h => h o k b hb) kk
theorem gI_row {o k : Nat} {v : Int32} : gI (sI σ o k v) o = va_up (gI σ o) k v := up_same (gI σ) o _
theorem gL_row {o k : Nat} {v : Int64} : gL (sL σ o k v) o = va_up (gL σ o) k v := up_same (gL σ) o _
theorem gR_row {o k : Nat} {v : Option Nat} : gR (sR σ o k v) o = va_up (gR σ o) k v := up_same (gR σ) o _
theorem row_sI {o k : Nat} {v : Int32} {i : Nat} (h : i ≠ o) : Row σ (sI σ o k v) i := ⟨up_ne (gI σ) o _ h, rfl, rfl⟩
theorem row_sA {o : Nat} {v : Nat → Int32} {i : Nat} (h : i ≠ o) : Row σ (sA σ o v) i := ⟨up_ne (gI σ) o _ h, rfl, rfl⟩
theorem row_sL {o k : Nat} {v : Int64} {i : Nat} (h : i ≠ o) : Row σ (sL σ o k v) i := ⟨rfl, up_ne (gL σ) o _ h, rfl⟩
theorem row_sR {o k : Nat} {v : Option Nat} {i : Nat} (h : i ≠ o) : Row σ (sR σ o k v) i := ⟨rfl, rfl, up_ne (gR σ) o _ h⟩
theorem Clo.sI {o k : Nat} {v : Int32} (h : Clo σ) : Clo (sI σ o k v) := h
theorem Clo.sA {o : Nat} {v : Nat → Int32} (h : Clo σ) : Clo (sA σ o v) := h
theorem Clo.sL {o k : Nat} {v : Int64} (h : Clo σ) : Clo (sL σ o k v) := h
theorem Clo.sR {o k : Nat} {v : Option Nat} (h : Clo σ) (hv : ∀ b, v = some b → b < nx σ ∨ 1000000 ≤ b) : Clo (sR σ o k v) := by
  intro o' k' b hb
  have hb' : va_up (gR σ) o (va_up (gR σ o) k v) o' k' = some b := hb
  by_cases h1 : o' = o
  · subst h1
    rw [up_same] at hb'
    by_cases h2 : k' = k
    · subst h2
      rw [up_same] at hb'
      exact hv b hb'
    · rw [up_ne _ _ _ h2] at hb'
      exact h o' k' b hb'
  · rw [up_ne _ _ _ h1] at hb'
    exact h o' k' b hb'

/-- a put, in general: τ is σ with one field of cell o anew -/
theorem E_put {o ci k idx : Nat} {v : Value} (τ : AH) (hd : decode f.2.1 pc = .ok (.putfield idx, 3)) (hL : FLink f.1.cls idx ci k) (hfin : (TO ci k).2.2.2 = false ∨ ((TO ci k).2.2.2 = true ∧ f.1.name = "<init>" ∧ (TO ci k).1 = f.1.cls)) (hk : kd σ o = (ci, NO ci)) (ho : o < nx σ) (hnar : narrow (tyO ci k) v = v) (hfit : fits (tyO ci k) v = true) (hv0 : ∀ ρ, rv ρ v = v ∨ (narrow (tyO ci k) (rv ρ v) = rv ρ v ∧ fits (tyO ci k) (rv ρ v) = true))
    (e1 : nx τ = nx σ) (e2 : sl τ = sl σ) (e3 : kd τ = kd σ) (hal : al f o) (e8 : ∀ i, i ≠ o → Row σ τ i) (esh : Sh σ → Sh τ) (e4 : okv (nx σ) v → Clo σ → Clo τ) (e5 : ∀ cAs ρ i, i ≠ o → ent cAs ρ τ i = ent cAs ρ σ i) (e6 : ∀ ρ, fval ρ τ o ci k = rv ρ v) (e7 : ∀ ρ j, j ≠ k → fval ρ τ o ci j = fval ρ σ o ci j)
    (kk : E X l f D (pc + 3) lv st τ r σ') : E X l f D pc lv (v :: .ref o :: st) σ r σ' := by
  refine ⟨kk.1.step e1 e2 e3 esh hal e8, fun p e R s m args below meth c G cAs A ρ H locs ls n0 s0 ρ0 hF hW hS hl o1 o2 hn0 hρ => ?_⟩
  obtain ⟨hc, hkn, hlk⟩ := hL
  obtain ⟨q1, q2, q3, q4, q5⟩ := clsok hc
  have hset : ∀ ρ, (wsA cAs ρ σ).set o (ρ o, .inr (ci, ((List.range (NO ci)).map (fval ρ σ o ci)).set k (rv ρ v))) = wsA cAs ρ τ := fun ρ => by
    refine wsA_set e1 (fun i hi => e5 cAs ρ i hi) ?_
    rw [fv_set (h := fval ρ τ o ci) (e6 ρ) (e7 ρ), ent, e3, hk]
    simp only
    rw [if_pos (by omega)]
  have hnar' : narrow (tyO ci k) (rv ρ v) = rv ρ v := by rcases hv0 ρ with h | h; rw [h]; exact hnar; exact h.1
  have hfit' : fits (tyO ci k) (rv ρ v) = true := by rcases hv0 ρ with h | h; rw [h]; exact hfit; exact h.2
  have hlen : k < ((List.range (NO ci)).map (fval ρ σ o ci)).length := by simpa using hkn
  have hok := e4 (okl_cons.mp o2).1 hW.2.2.2
  have fin : ∀ (H1 : Heap) (locs1 : List Loc), va_P G vwCl ((wsA cAs ρ σ).set o (ρ o, .inr (ci, ((List.range (NO ci)).map (fval ρ σ o ci)).set k (rv ρ v)))) H1 → va_D A ((wsA cAs ρ σ).set o (ρ o, .inr (ci, ((List.range (NO ci)).map (fval ρ σ o ci)).set k (rv ρ v)))) → va_S A s.heap H1 locs1 → W p l e R s m args below meth c H1 locs1 (nx σ - n0) (sl σ - s0) (MQ below (Qe G cAs A ρ0 n0 r σ') args s (nx σ' - n0) (sl σ' - s0) A) (F0 m (pc + 3) ls (st.map (rv ρ))) := by
    intro H1 locs1 p1 d1 s1
    rw [hset] at p1 d1
    have := kk.2 p e R s m args below meth c G cAs A ρ H1 locs1 ls n0 s0 ρ0 hF ⟨hW.1, p1, d1, hok⟩ s1 hl (by rw [e1]; exact o1) (by rw [e1]; exact okl_tail (okl_tail o2)) (by rw [e1, e2]; exact hn0) hρ
    rw [e1, e2] at this
    exact this
  rcases hfin with hfin | ⟨hfin, hin, hdecl⟩
  · exact va_put (C := RO ci) (T := TO ci) (N := NO ci) hF.1.1 hF.1.2.1 hF.2.2.2.1 q2 (tyO ci) q3 q4 hF.2.2.1 hW.1 hW.2.1 hW.2.2.1 hS o (wsA_obj ho hk (by omega)) q1 k hkn (hF.2.2.2.1 _ hlk) (fun _ h => h) hfin (q3 k hkn) hnar' hfit' hlen hd fin
  · exact va_putF (C := RO ci) (T := TO ci) (N := NO ci) hF.1.1 hF.1.2.1 hF.2.2.2.1 q2 (tyO ci) q3 q4 hF.2.2.1 hW.1 hW.2.1 hW.2.2.1 hS o (wsA_obj ho hk (by omega)) q1 k hkn (hF.2.2.2.1 _ hlk) (fun _ h => h) hfin (hF.2.1.2.1.trans hin) hdecl (q3 k hkn) hnar' hfit' hlen hd fin

theorem E_putI {o ci k idx : Nat} {x : Int32} (hd : decode f.2.1 pc = .ok (.putfield idx, 3)) (hL : FLink f.1.cls idx ci k) (ht : ftk (tyO ci k) = 0) (hfin : (TO ci k).2.2.2 = false ∨ ((TO ci k).2.2.2 = true ∧ f.1.name = "<init>" ∧ (TO ci k).1 = f.1.cls)) (hk : kd σ o = (ci, NO ci)) (ho : o < nx σ) (hal : al f o) (hnar : narrow (tyO ci k) (.int x) = .int x) (hfit : fits (tyO ci k) (.int x) = true)
    (kk : E X l f D (pc + 3) lv st (sI σ o k x) r σ') : E X l f D pc lv (.int x :: .ref o :: st) σ r σ' := by
  refine E_put (sI σ o k x) hd hL hfin hk ho hnar hfit (fun _ => Or.inl rfl) rfl rfl rfl hal (fun i hi => row_sI hi) (fun h => h) (fun _ h => h) (fun _ _ _ h => ent_sI h) (fun ρ => ?_) (fun ρ j hj => ?_) kk
  · simp only [fval, ht]
    rw [gI_row, up_same]; rfl
  · simp only [fval]
    have e : gI (sI σ o k x) o j = gI σ o j := by
      rw [gI_row, up_ne _ _ _ hj]
    rw [e]; rfl
theorem E_putL {o ci k idx : Nat} {x : Int64} (hd : decode f.2.1 pc = .ok (.putfield idx, 3)) (hL : FLink f.1.cls idx ci k) (ht : ftk (tyO ci k) = 1) (hfin : (TO ci k).2.2.2 = false ∨ ((TO ci k).2.2.2 = true ∧ f.1.name = "<init>" ∧ (TO ci k).1 = f.1.cls)) (hk : kd σ o = (ci, NO ci)) (ho : o < nx σ) (hal : al f o) (hnar : narrow (tyO ci k) (.long x) = .long x) (hfit : fits (tyO ci k) (.long x) = true)
    (kk : E X l f D (pc + 3) lv st (sL σ o k x) r σ') : E X l f D pc lv (.long x :: .ref o :: st) σ r σ' := by
  refine E_put (sL σ o k x) hd hL hfin hk ho hnar hfit (fun _ => Or.inl rfl) rfl rfl rfl hal (fun i hi => row_sL hi) (fun h => h) (fun _ h => h) (fun _ _ _ h => ent_sL h) (fun ρ => ?_) (fun ρ j hj => ?_) kk
  · simp only [fval, ht]
    rw [gL_row, up_same]; rfl
  · simp only [fval]
    have e : gL (sL σ o k x) o j = gL σ o j := by
      rw [gL_row, up_ne _ _ _ hj]
    rw [e]; rfl
theorem E_putR {o ci k idx b : Nat} (hd : decode f.2.1 pc = .ok (.putfield idx, 3)) (hL : FLink f.1.cls idx ci k) (ht : ftk (tyO ci k) = 2) (hfin : (TO ci k).2.2.2 = false ∨ ((TO ci k).2.2.2 = true ∧ f.1.name = "<init>" ∧ (TO ci k).1 = f.1.cls)) (hk : kd σ o = (ci, NO ci)) (ho : o < nx σ) (hal : al f o) (hsh : Sh σ → Sh (sR σ o k (some b)))
    (kk : E X l f D (pc + 3) lv st (sR σ o k (some b)) r σ') : E X l f D pc lv (.ref b :: .ref o :: st) σ r σ' := by
  have hn : ∀ a : Nat, narrow (tyO ci k) (.ref a) = .ref a ∧ fits (tyO ci k) (.ref a) = true := by
    intro a
    cases h : tyO ci k <;> rw [h] at ht <;> first | (exact ⟨rfl, rfl⟩) | (simp [ftk] at ht)
  refine E_put (sR σ o k (some b)) hd hL hfin hk ho (hn b).1 (hn b).2 (fun ρ => Or.inr (hn (ρ b))) rfl rfl rfl hal (fun i hi => row_sR hi) hsh (fun hv h => h.sR (fun b' e => by cases e; exact hv)) (fun _ _ _ h => ent_sR h) (fun ρ => ?_) (fun ρ j hj => ?_) kk
  · simp only [fval, ht]
    rw [gR_row, up_same]; rfl
  · simp only [fval]
    have e : gR (sR σ o k (some b)) o j = gR σ o j := by
      rw [gR_row, up_ne _ _ _ hj]
    rw [e]; rfl
theorem ty_at (cAs : Nat → ClassId) : (tysA cAs)[0]? = some (cAs 100, .int) ∧ (tysA cAs)[1]? = some (cAs 101, .boolean) ∧ (tysA cAs)[2]? = some (cAs 102, .long) := ⟨rfl, rfl, rfl⟩
def rcl (t : Nat) : String := if t = 103 then "WarHouses$Act" else if t = 104 then "WarHouses$Told" else "WarHouses$Site"
theorem ty_ref (cAs : Nat → ClassId) {t : Nat} (h : t = 103 ∨ t = 104 ∨ t = 105) : (tysA cAs)[t - 100]? = some (cAs t, .object (rcl t)) := by rcases h with rfl | rfl | rfl <;> rfl
theorem E_iald {a n : Nat} {i : Int32} (hd : decode f.2.1 pc = .ok (.iaload, 1)) (hk : kd σ a = (100, n)) (ha : a < nx σ) (hin : vp_in i n) (kk : E X l f D (pc + 1) lv (.int (gI σ a i.toNatClampNeg) :: st) σ r σ') : E X l f D pc lv (.int i :: .ref a :: st) σ r σ' := by
  refine ⟨kk.1, fun p e R s m args below meth c G cAs A ρ H locs ls n0 s0 ρ0 hF hW hS hl o1 o2 hn0 hρ => ?_⟩
  refine va_iald hF.1.1 hF.1.2.1 hW.1 hW.2.1 a 0 (cA := cAs 100) (n := n) (f := gI σ a) (by rw [wsA_arr ha hk (by omega)]; rfl) rfl hin hd ?_
  exact kk.2 p e R s m args below meth c G cAs A ρ H locs ls n0 s0 ρ0 hF hW hS hl o1 (okl_cons.mpr ⟨trivial, okl_tail (okl_tail o2)⟩) hn0 hρ
theorem E_zald {a n : Nat} {i : Int32} (hd : decode f.2.1 pc = .ok (.baload, 1)) (hk : kd σ a = (101, n)) (ha : a < nx σ) (hin : vp_in i n) (kk : E X l f D (pc + 1) lv (.int (gI σ a i.toNatClampNeg) :: st) σ r σ') : E X l f D pc lv (.int i :: .ref a :: st) σ r σ' := by
  refine ⟨kk.1, fun p e R s m args below meth c G cAs A ρ H locs ls n0 s0 ρ0 hF hW hS hl o1 o2 hn0 hρ => ?_⟩
  refine va_zald hF.1.1 hF.1.2.1 hW.1 hW.2.1 a 1 (cA := cAs 101) (n := n) (f := gI σ a) (by rw [wsA_arr ha hk (by omega)]; rfl) rfl hin hd ?_
  exact kk.2 p e R s m args below meth c G cAs A ρ H locs ls n0 s0 ρ0 hF hW hS hl o1 (okl_cons.mpr ⟨trivial, okl_tail (okl_tail o2)⟩) hn0 hρ
theorem E_lald {a n : Nat} {i : Int32} (hd : decode f.2.1 pc = .ok (.laload, 1)) (hk : kd σ a = (102, n)) (ha : a < nx σ) (hin : vp_in i n) (kk : E X l f D (pc + 1) lv (.long (gL σ a i.toNatClampNeg) :: st) σ r σ') : E X l f D pc lv (.int i :: .ref a :: st) σ r σ' := by
  refine ⟨kk.1, fun p e R s m args below meth c G cAs A ρ H locs ls n0 s0 ρ0 hF hW hS hl o1 o2 hn0 hρ => ?_⟩
  refine va_lald hF.1.1 hF.1.2.1 hW.1 hW.2.1 a 2 (cA := cAs 102) (n := n) (f := gL σ a) (by rw [wsA_arr ha hk (by omega)]; rfl) rfl hin hd ?_
  exact kk.2 p e R s m args below meth c G cAs A ρ H locs ls n0 s0 ρ0 hF hW hS hl o1 (okl_cons.mpr ⟨trivial, okl_tail (okl_tail o2)⟩) hn0 hρ
theorem E_iast {a n : Nat} {i : Int32} {x : Int32} (hd : decode f.2.1 pc = .ok (.iastore, 1)) (hk : kd σ a = (100, n)) (ha : a < nx σ) (hal : al f a) (hin : vp_in i n) (kk : E X l f D (pc + 1) lv st (sI σ a i.toNatClampNeg x) r σ') : E X l f D pc lv (.int x :: .int i :: .ref a :: st) σ r σ' := by
  refine ⟨kk.1.step (σ := σ) rfl rfl rfl (fun h => h) hal (fun i hi => row_sI hi), fun p e R s m args below meth c G cAs A ρ H locs ls n0 s0 ρ0 hF hW hS hl o1 o2 hn0 hρ => ?_⟩
  refine va_iast hF.1.1 hF.1.2.1 hW.1 hW.2.1 hW.2.2.1 hS a 0 (cA := cAs 100) (n := n) (f := gI σ a) (by rw [wsA_arr ha hk (by omega)]; rfl) rfl hin hd (fun H1 locs1 p1 d1 s1 => ?_)
  have hset : (wsA cAs ρ σ).set a (ρ a, .inl (cAs 100, n, .inl (upd (gI σ a) i.toNatClampNeg x))) = wsA cAs ρ (sI σ a i.toNatClampNeg x) := by
    refine wsA_set (σ := σ) (τ := sI σ a i.toNatClampNeg x) rfl (fun i hi => ent_sI hi) ?_
    have e0 : kd (sI σ a i.toNatClampNeg x) a = (100, n) := hk
    have e1 : gI (sI σ a i.toNatClampNeg x) a = upd (gI σ a) i.toNatClampNeg x := by
      rw [gI_row]; rfl
    rw [ent, e0]
    simp only [cont]
    rw [e1]; rfl
  rw [hset] at p1 d1
  exact kk.2 p e R s m args below meth c G cAs A ρ H1 locs1 ls n0 s0 ρ0 hF ⟨hW.1, p1, d1, hW.2.2.2⟩ s1 hl o1 (okl_tail (okl_tail (okl_tail o2))) hn0 hρ
theorem E_zast {a n : Nat} {i : Int32} {x : Int32} (hd : decode f.2.1 pc = .ok (.bastore, 1)) (hk : kd σ a = (101, n)) (ha : a < nx σ) (hal : al f a) (hin : vp_in i n) (kk : E X l f D (pc + 1) lv st (sI σ a i.toNatClampNeg (vp_nar .boolean x)) r σ') : E X l f D pc lv (.int x :: .int i :: .ref a :: st) σ r σ' := by
  refine ⟨kk.1.step (σ := σ) rfl rfl rfl (fun h => h) hal (fun i hi => row_sI hi), fun p e R s m args below meth c G cAs A ρ H locs ls n0 s0 ρ0 hF hW hS hl o1 o2 hn0 hρ => ?_⟩
  refine va_zast hF.1.1 hF.1.2.1 hW.1 hW.2.1 hW.2.2.1 hS a 1 (cA := cAs 101) (n := n) (f := gI σ a) (by rw [wsA_arr ha hk (by omega)]; rfl) rfl hin hd (fun H1 locs1 p1 d1 s1 => ?_)
  have hset : (wsA cAs ρ σ).set a (ρ a, .inl (cAs 101, n, .inl (upd (gI σ a) i.toNatClampNeg (vp_nar .boolean x)))) = wsA cAs ρ (sI σ a i.toNatClampNeg (vp_nar .boolean x)) := by
    refine wsA_set (σ := σ) (τ := sI σ a i.toNatClampNeg (vp_nar .boolean x)) rfl (fun i hi => ent_sI hi) ?_
    have e0 : kd (sI σ a i.toNatClampNeg (vp_nar .boolean x)) a = (101, n) := hk
    have e1 : gI (sI σ a i.toNatClampNeg (vp_nar .boolean x)) a = upd (gI σ a) i.toNatClampNeg (vp_nar .boolean x) := by
      rw [gI_row]; rfl
    rw [ent, e0]
    simp only [cont]
    rw [e1]; rfl
  rw [hset] at p1 d1
  exact kk.2 p e R s m args below meth c G cAs A ρ H1 locs1 ls n0 s0 ρ0 hF ⟨hW.1, p1, d1, hW.2.2.2⟩ s1 hl o1 (okl_tail (okl_tail (okl_tail o2))) hn0 hρ
theorem E_last {a n : Nat} {i : Int32} {x : Int64} (hd : decode f.2.1 pc = .ok (.lastore, 1)) (hk : kd σ a = (102, n)) (ha : a < nx σ) (hal : al f a) (hin : vp_in i n) (kk : E X l f D (pc + 1) lv st (sL σ a i.toNatClampNeg x) r σ') : E X l f D pc lv (.long x :: .int i :: .ref a :: st) σ r σ' := by
  refine ⟨kk.1.step (σ := σ) rfl rfl rfl (fun h => h) hal (fun i hi => row_sL hi), fun p e R s m args below meth c G cAs A ρ H locs ls n0 s0 ρ0 hF hW hS hl o1 o2 hn0 hρ => ?_⟩
  refine va_last hF.1.1 hF.1.2.1 hW.1 hW.2.1 hW.2.2.1 hS a 2 (cA := cAs 102) (n := n) (f := gL σ a) (by rw [wsA_arr ha hk (by omega)]; rfl) rfl hin hd (fun H1 locs1 p1 d1 s1 => ?_)
  have hset : (wsA cAs ρ σ).set a (ρ a, .inl (cAs 102, n, .inr <| .inl (vp_updL (gL σ a) i.toNatClampNeg x))) = wsA cAs ρ (sL σ a i.toNatClampNeg x) := by
    refine wsA_set (σ := σ) (τ := sL σ a i.toNatClampNeg x) rfl (fun i hi => ent_sL hi) ?_
    have e0 : kd (sL σ a i.toNatClampNeg x) a = (102, n) := hk
    have e1 : gL (sL σ a i.toNatClampNeg x) a = vp_updL (gL σ a) i.toNatClampNeg x := by
      rw [gL_row]; rfl
    rw [ent, e0]
    simp only [cont]
    rw [e1]; rfl
  rw [hset] at p1 d1
  exact kk.2 p e R s m args below meth c G cAs A ρ H1 locs1 ls n0 s0 ρ0 hF ⟨hW.1, p1, d1, hW.2.2.2⟩ s1 hl o1 (okl_tail (okl_tail (okl_tail o2))) hn0 hρ
theorem E_alen {a t n : Nat} (hd : decode f.2.1 pc = .ok (.arraylength, 1)) (hk : kd σ a = (t, n)) (ha : a < nx σ) (ht : 100 ≤ t) (ht2 : t < 106) (kk : E X l f D (pc + 1) lv (.int (Int32.ofNat n) :: st) σ r σ') : E X l f D pc lv (.ref a :: st) σ r σ' := by
  refine ⟨kk.1, fun p e R s m args below meth c G cAs A ρ H locs ls n0 s0 ρ0 hF hW hS hl o1 o2 hn0 hρ => ?_⟩
  have ht3 : ∃ ty, (tysA cAs)[t - 100]? = some (cAs t, ty) := by
    rcases (show t = 100 ∨ t = 101 ∨ t = 102 ∨ t = 103 ∨ t = 104 ∨ t = 105 by omega) with rfl | rfl | rfl | rfl | rfl | rfl <;> exact ⟨_, rfl⟩
  obtain ⟨ty, hty⟩ := ht3
  refine va_alen hF.1.1 hF.1.2.1 hW.1 hW.2.1 a (t - 100) (wsA_arr ha hk ht) hty rfl hd ?_
  exact kk.2 p e R s m args below meth c G cAs A ρ H locs ls n0 s0 ρ0 hF hW hS hl o1 (okl_cons.mpr ⟨trivial, okl_tail o2⟩) hn0 hρ
theorem cont_ref (ρ : Nat → Nat) (a : Nat) {t : Nat} (h : t = 103 ∨ t = 104 ∨ t = 105) : cont ρ σ a t = .inr (.inr (.inr (.inr (fun k => (gR σ a k).map ρ)))) := by rcases h with rfl | rfl | rfl <;> rfl
theorem E_aald {a t n : Nat} {i : Int32} (b : Nat) (hd : decode f.2.1 pc = .ok (.aaload, 1)) (hk : kd σ a = (t, n)) (ha : a < nx σ) (ht : t = 103 ∨ t = 104 ∨ t = 105) (hin : vp_in i n) (hb : gR σ a i.toNatClampNeg = some b) (kk : E X l f D (pc + 1) lv (.ref b :: st) σ r σ') : E X l f D pc lv (.int i :: .ref a :: st) σ r σ' := by
  refine ⟨kk.1, fun p e R s m args below meth c G cAs A ρ H locs ls n0 s0 ρ0 hF hW hS hl o1 o2 hn0 hρ => ?_⟩
  refine va_aldq hF.1.1 hF.1.2.1 hW.1 hW.2.1 a (t - 100) (cA := cAs t) (C := rcl t) (n := n) (f := fun k => (gR σ a k).map ρ) (by rw [wsA_arr ha hk (by omega), cont_ref ρ a ht]) (ty_ref cAs ht) hin hd ?_
  rw [hb]
  exact kk.2 p e R s m args below meth c G cAs A ρ H locs ls n0 s0 ρ0 hF hW hS hl o1 (okl_cons.mpr ⟨hW.2.2.2 _ _ _ hb, okl_tail (okl_tail o2)⟩) hn0 hρ
theorem E_aaldN {a t n : Nat} {i : Int32} (hd : decode f.2.1 pc = .ok (.aaload, 1)) (hk : kd σ a = (t, n)) (ha : a < nx σ) (ht : t = 103 ∨ t = 104 ∨ t = 105) (hin : vp_in i n) (hb : gR σ a i.toNatClampNeg = none) (kk : E X l f D (pc + 1) lv (.null :: st) σ r σ') : E X l f D pc lv (.int i :: .ref a :: st) σ r σ' := by
  refine ⟨kk.1, fun p e R s m args below meth c G cAs A ρ H locs ls n0 s0 ρ0 hF hW hS hl o1 o2 hn0 hρ => ?_⟩
  refine va_aldq hF.1.1 hF.1.2.1 hW.1 hW.2.1 a (t - 100) (cA := cAs t) (C := rcl t) (n := n) (f := fun k => (gR σ a k).map ρ) (by rw [wsA_arr ha hk (by omega), cont_ref ρ a ht]) (ty_ref cAs ht) hin hd ?_
  rw [hb]
  exact kk.2 p e R s m args below meth c G cAs A ρ H locs ls n0 s0 ρ0 hF hW hS hl o1 (okl_cons.mpr ⟨trivial, okl_tail (okl_tail o2)⟩) hn0 hρ
theorem map_up {α β : Type} (g : α → β) (f : Nat → α) (k : Nat) (v : α) : (fun j => g (va_up f k v j)) = va_up (fun j => g (f j)) k (g v) := by
  funext j
  by_cases h : j = k
  · subst h; rw [up_same, up_same]
  · rw [up_ne _ _ _ h, up_ne _ _ _ h]
theorem ws_aast {cAs : Nat → ClassId} {ρ : Nat → Nat} {a t n : Nat} {k : Nat} {v : Option Nat} (hk : kd σ a = (t, n)) (ht : t = 103 ∨ t = 104 ∨ t = 105) : (wsA cAs ρ σ).set a (ρ a, .inl (cAs t, n, .inr (.inr (.inr (.inr (va_up (fun k => (gR σ a k).map ρ) k (v.map ρ))))))) = wsA cAs ρ (sR σ a k v) := by
  refine wsA_set (σ := σ) (τ := sR σ a k v) rfl (fun i hi => ent_sR hi) ?_
  have e0 : kd (sR σ a k v) a = (t, n) := hk
  have e1 : gR (sR σ a k v) a = va_up (gR σ a) k v := by
    rw [gR_row]
  rw [ent, e0]
  simp only
  rw [if_neg (by omega), cont_ref ρ a ht, e1, map_up]
theorem E_aast {a t n ci b : Nat} {i : Int32} (hd : decode f.2.1 pc = .ok (.aastore, 1)) (hk : kd σ a = (t, n)) (ha : a < nx σ) (ht : t = 103 ∨ t = 104 ∨ t = 105) (hin : vp_in i n) (hkb : kd σ b = (ci, NO ci)) (hb : b < nx σ) (hc : ci < 13) (hcc : RO ci = rcl t) (hal : al f a) (hsh : Sh σ → Sh (sR σ a i.toNatClampNeg (some b))) (kk : E X l f D (pc + 1) lv st (sR σ a i.toNatClampNeg (some b)) r σ') : E X l f D pc lv (.ref b :: .int i :: .ref a :: st) σ r σ' := by
  refine ⟨kk.1.step (σ := σ) rfl rfl rfl hsh hal (fun i hi => row_sR hi), fun p e R s m args below meth c G cAs A ρ H locs ls n0 s0 ρ0 hF hW hS hl o1 o2 hn0 hρ => ?_⟩
  refine va_astq hF.1.1 hF.1.2.1 hW.1 hW.2.1 hW.2.2.1 hS a (t - 100) b ci (cA := cAs t) (r := (RO ci, TO ci, NO ci)) (n := n) (f := fun k => (gR σ a k).map ρ) (by rw [wsA_arr ha hk (by omega), cont_ref ρ a ht]) (by rw [hcc]; exact ty_ref cAs ht) (wsA_obj hb hkb (by omega)) (clsok hc).1 hin hd (fun H1 locs1 p1 d1 s1 => ?_)
  have hset := ws_aast (cAs := cAs) (ρ := ρ) (k := i.toNatClampNeg) (v := some b) hk ht
  rw [show (some b : Option Nat).map ρ = some (ρ b) from rfl] at hset
  rw [hset] at p1 d1
  exact kk.2 p e R s m args below meth c G cAs A ρ H1 locs1 ls n0 s0 ρ0 hF ⟨hW.1, p1, d1, hW.2.2.2.sR (fun b' e => by cases e; exact Or.inl hb)⟩ s1 hl o1 (okl_tail (okl_tail (okl_tail o2))) hn0 hρ
theorem E_aastN {a t n : Nat} {i : Int32} (hd : decode f.2.1 pc = .ok (.aastore, 1)) (hk : kd σ a = (t, n)) (ha : a < nx σ) (ht : t = 103 ∨ t = 104 ∨ t = 105) (hin : vp_in i n) (hal : al f a) (hsh : Sh σ → Sh (sR σ a i.toNatClampNeg none)) (kk : E X l f D (pc + 1) lv st (sR σ a i.toNatClampNeg none) r σ') : E X l f D pc lv (.null :: .int i :: .ref a :: st) σ r σ' := by
  refine ⟨kk.1.step (σ := σ) rfl rfl rfl hsh hal (fun i hi => row_sR hi), fun p e R s m args below meth c G cAs A ρ H locs ls n0 s0 ρ0 hF hW hS hl o1 o2 hn0 hρ => ?_⟩
  refine va_astqN hF.1.1 hF.1.2.1 hW.1 hW.2.1 hW.2.2.1 hS a (t - 100) (cA := cAs t) (C := rcl t) (n := n) (f := fun k => (gR σ a k).map ρ) (by rw [wsA_arr ha hk (by omega), cont_ref ρ a ht]) (ty_ref cAs ht) hin hd (fun H1 locs1 p1 d1 s1 => ?_)
  have hset := ws_aast (cAs := cAs) (ρ := ρ) (k := i.toNatClampNeg) (v := none) hk ht
  rw [show (none : Option Nat).map ρ = none from rfl] at hset
  rw [hset] at p1 d1
  exact kk.2 p e R s m args below meth c G cAs A ρ H1 locs1 ls n0 s0 ρ0 hF ⟨hW.1, p1, d1, hW.2.2.2.sR (fun b' e => by cases e)⟩ s1 hl o1 (okl_tail (okl_tail (okl_tail o2))) hn0 hρ

end HRules
