def st_idx : List Nat := [97, 118, 120, 125, 127, 129, 166, 168, 109, 151, 149, 144]
def st_tx : List String := ["strike", "clause", "need work points licence rent huts squat first", "brick steel hut", "base shell fit", "bricks timber steel coal kits", "rooms persons children ill waited have week", "least most", "if", "not", "and", "or"]
def st_len : List Nat := [6, 6, 46, 15, 14, 29, 43, 10, 2, 3, 3, 2]
def st_byt : List (List Int32) := [[115, 116, 114, 105, 107, 101], [99, 108, 97, 117, 115, 101], [110, 101, 101, 100, 32, 119, 111, 114, 107, 32, 112, 111, 105, 110, 116, 115, 32, 108, 105, 99, 101, 110, 99, 101, 32, 114, 101, 110, 116, 32, 104, 117, 116, 115, 32, 115, 113, 117, 97, 116, 32, 102, 105, 114, 115, 116], [98, 114, 105, 99, 107, 32, 115, 116, 101, 101, 108, 32, 104, 117, 116], [98, 97, 115, 101, 32, 115, 104, 101, 108, 108, 32, 102, 105, 116], [98, 114, 105, 99, 107, 115, 32, 116, 105, 109, 98, 101, 114, 32, 115, 116, 101, 101, 108, 32, 99, 111, 97, 108, 32, 107, 105, 116, 115], [114, 111, 111, 109, 115, 32, 112, 101, 114, 115, 111, 110, 115, 32, 99, 104, 105, 108, 100, 114, 101, 110, 32, 105, 108, 108, 32, 119, 97, 105, 116, 101, 100, 32, 104, 97, 118, 101, 32, 119, 101, 101, 107], [108, 101, 97, 115, 116, 32, 109, 111, 115, 116], [105, 102], [110, 111, 116], [97, 110, 100], [111, 114]]
def nestT : List (String × Nat × MethodName) := [("WarHouses", 9, ⟨"WarHouses$Told", "<init>", "()V"⟩), ("WarHouses", 22, ⟨"WarHouses$Reader", "<init>", "()V"⟩), ("WarHouses", 47, ⟨"WarHouses$Run", "<init>", "()V"⟩), ("WarHouses$Run", 11, ⟨"WarHouses$Site", "<init>", "()V"⟩), ("WarHouses$Choice", 17, ⟨"WarHouses$Site", "<init>", "()V"⟩), ("WarHouses$Reader", 131, ⟨"WarHouses", "needHead", "(III)I"⟩), ("WarHouses$Yard", 187, ⟨"WarHouses", "needHead", "(III)I"⟩)]
/-- what is there beside my cells and never written: the script (number 1000000), the String constants (1000001 ..), statics -/
def Sp (X : Sx) (A : Nat → Prop) (ρ : Nat → Nat) (U : State) (H : Heap) : Prop :=
  (va_X (ρ 1000000) X.1 X.2 U H ∧ ρ 1000000 < H.size ∧ ¬ A (ρ 1000000)) ∧ vk_S 12 st_len st_byt (fun i => ρ (1000001 + i)) (fun i => ρ (2000001 + i)) A U H ∧
  (∀ i, i < 12 → vk_R "WarHouses$Reader" (st_idx.getD i 0) (st_tx.getD i "") (ρ (1000001 + i)) U) ∧
  va_Z "java/lang/String" "COMPACT_STRINGS" "Z" (.int 1) A U H ∧ va_Zq "jdk/internal/util/Preconditions" "SIOOBE_FORMATTER" "Ljava/util/function/BiFunction;" A U H ∧
  (va_AO "WarHouses$Act" U ∧ va_AO "WarHouses$Told" U ∧ va_AO "WarHouses$Site" U) ∧ (∀ q ∈ nestT, va_Nw (.methodLinkNest q.1 q.2.1 q.2.2 "WarHouses") U) ∧ va_Nw (.castable "[I" "java/lang/Cloneable") U
theorem Sp.move {X : Sx} {A B : Nat → Prop} {ρ ρ' : Nat → Nat} {s U : State} {H : Heap} {locs : List Loc} (h : Sp X A ρ s s.heap) (hS : va_S A s.heap H locs) (hW : s.WarmedH U.vm) (hH : U.heap = H) (hB : ∀ q, B q → A q) (hρ : ∀ i, 1000000 ≤ i → ρ' i = ρ i) : Sp X B ρ' U U.heap := by
  obtain ⟨⟨h1, h2, h3⟩, h4, h5, h6, h7, ⟨h8, h9, h10⟩, h11, h12⟩ := h
  have e0 := hρ 1000000 (by omega)
  have e1 : (fun i => ρ' (1000001 + i)) = fun i => ρ (1000001 + i) := by funext i; exact hρ _ (by omega)
  have e2 : (fun i => ρ' (2000001 + i)) = fun i => ρ (2000001 + i) := by funext i; exact hρ _ (by omega)
  have hk : ∀ a : Nat, a < s.heap.size → ¬ A a → H[a]? = s.heap[a]? := hS.2.1
  refine ⟨⟨?_, ?_, ?_⟩, ?_, ?_, ?_, ?_, ⟨?_, ?_, ?_⟩, ?_, ?_⟩
  · rw [e0, hH]; exact ((h1.kept (hk _ h2 h3)).moved hW.alike)
  · rw [e0, hH]; exact Nat.lt_of_lt_of_le h2 hS.1
  · rw [e0]; exact fun z => h3 (hB _ z)
  · rw [e1, e2, hH]; exact ((h4.kept hk).narrow hB).moved hW.alike
  · intro i hi; rw [hρ _ (by omega)]; exact (h5 i hi).warm hW
  · rw [hH]; exact ((h6.kept hk).narrow hB).moved hW.alike
  · rw [hH]; exact ((h7.kept hk).narrow hB).moved hW.alike
  · exact h8.moved hW.alike
  · exact h9.moved hW.alike
  · exact h10.moved hW.alike
  · exact fun q hq => (h11 q hq).warmM hW
  · exact h12.warmC hW
def Clo (σ : AH) : Prop := ∀ o k b, gR σ o k = some b → b < nx σ ∨ 1000000 ≤ b
def Wd (G : va_G) (cAs : Nat → ClassId) (A : Nat → Prop) (ρ : Nat → Nat) (σ : AH) (U : State) (H : Heap) : Prop :=
  va_K G vwCl (tysA cAs) U ∧ va_P G vwCl (wsA cAs ρ σ) H ∧ va_D A (wsA cAs ρ σ) ∧ Clo σ
theorem Wd.moved {G : va_G} {cAs : Nat → ClassId} {A : Nat → Prop} {ρ : Nat → Nat} {σ : AH} {u U : State} {H : Heap} (h : Wd G cAs A ρ σ u H) (hvm : u.vm.Alike U.vm) : Wd G cAs A ρ σ U H := ⟨h.1.moved hvm, h.2⟩
/-- row i is the same -/
def Row (σ σ' : AH) (i : Nat) : Prop := gI σ' i = gI σ i ∧ gL σ' i = gL σ i ∧ gR σ' i = gR σ i
def Mono (f : MI) (σ σ' : AH) : Prop := nx σ ≤ nx σ' ∧ sl σ ≤ sl σ' ∧ (∀ i, i < nx σ → kd σ' i = kd σ i) ∧ (Sh σ → Sh σ') ∧ ∀ i, i < nx σ → ¬ al f i → Row σ σ' i
theorem Row.trans {a b c : AH} {i : Nat} (h : Row a b i) (k : Row b c i) : Row a c i := ⟨k.1.trans h.1, k.2.1.trans h.2.1, k.2.2.trans h.2.2⟩
theorem Mono.rf {f : MI} (σ : AH) : Mono f σ σ := ⟨Nat.le_refl _, Nat.le_refl _, fun _ _ => rfl, fun h => h, fun _ _ _ => ⟨rfl, rfl, rfl⟩⟩
theorem Mono.trans {f : MI} {a b c : AH} (h : Mono f a b) (k : Mono f b c) : Mono f a c := ⟨Nat.le_trans h.1 k.1, Nat.le_trans h.2.1 k.2.1, fun i hi => (k.2.2.1 i (Nat.lt_of_lt_of_le hi h.1)).trans (h.2.2.1 i hi), fun q => k.2.2.2.1 (h.2.2.2.1 q), fun i hi ha => (h.2.2.2.2 i hi ha).trans (k.2.2.2.2 i (Nat.lt_of_lt_of_le hi h.1) ha)⟩
theorem Mono.sub {g f : MI} {a b : AH} (hs : subB g f = true) (h : Mono g a b) : Mono f a b := ⟨h.1, h.2.1, h.2.2.1, h.2.2.2.1, fun i hi ha => h.2.2.2.2 i hi (fun q => ha (al_sub hs q))⟩
theorem Mono.subA {g f : MI} {a b : AH} (hs : ∀ i, al g i → al f i) (h : Mono g a b) : Mono f a b := ⟨h.1, h.2.1, h.2.2.1, h.2.2.2.1, fun i hi ha => h.2.2.2.2 i hi (fun q => ha (hs i q))⟩
/-- a step that leaves kinds and counts, and all rows but one -/
theorem Mono.step {f : MI} {σ τ σ' : AH} {o : Nat} (h : Mono f τ σ') (e1 : nx τ = nx σ) (e2 : sl τ = sl σ) (e3 : kd τ = kd σ) (hsh : Sh σ → Sh τ) (ho : al f o) (hr : ∀ i, i ≠ o → Row σ τ i) : Mono f σ σ' :=
  ⟨by rw [← e1]; exact h.1, by rw [← e2]; exact h.2.1, fun i hi => by rw [← e3]; exact h.2.2.1 i (by rw [e1]; exact hi), fun q => h.2.2.2.1 (hsh q), fun i hi ha => (hr i (fun e => ha (e ▸ ho))).trans (h.2.2.2.2 i (by rw [e1]; exact hi) ha)⟩
def Fr (X : Sx) (f : MI) (D : Nat) (A : Nat → Prop) (ρ : Nat → Nat) (p : Program) (R : Room) (s : State) (m : MethodId) (args : Array Value) (meth : Method) (c : Code) : Prop :=
  (p.tables.exec = Jvm.exec ∧ c.code = f.2.1 ∧ c.maxLocals = f.2.2.1) ∧ (meth.sig.returnType = f.2.2.2.1 ∧ meth.name = f.1.name ∧ meth.locks = false) ∧ s.vm.findClass f.1.cls = some m.cls ∧ (∀ w ∈ lw_good, w.before args s = true) ∧
  (D ≤ R.frames ∧ 64 * D ≤ R.locals) ∧ (∀ q : Nat, s.heap.size ≤ q → A q) ∧ Sp X A ρ s s.heap
theorem Fr.re {X : Sx} {f : MI} {D : Nat} {A : Nat → Prop} {ρ ρ' : Nat → Nat} {p : Program} {R : Room} {s : State} {m : MethodId} {args : Array Value} {meth : Method} {c : Code} (h : Fr X f D A ρ p R s m args meth c) (hρ : ∀ i, 1000000 ≤ i → ρ' i = ρ i) : Fr X f D A ρ' p R s m args meth c := by
  obtain ⟨h1, h2, h3, h4, h5, h6, h7⟩ := h
  refine ⟨h1, h2, h3, h4, h5, h6, ?_⟩
  obtain ⟨⟨g1, g2, g3⟩, g4, g5, g6⟩ := h7
  have e0 := hρ 1000000 (by omega)
  have e1 : (fun i => ρ' (1000001 + i)) = fun i => ρ (1000001 + i) := by funext i; exact hρ _ (by omega)
  have e2 : (fun i => ρ' (2000001 + i)) = fun i => ρ (2000001 + i) := by funext i; exact hρ _ (by omega)
  refine ⟨⟨by rw [e0]; exact g1, by rw [e0]; exact g2, by rw [e0]; exact g3⟩, by rw [e1, e2]; exact g4, fun i hi => by rw [hρ _ (by omega)]; exact g5 i hi, g6⟩
/-- the end of a method: its answer r, my heap σ' -/
def Qe (G : va_G) (cAs : Nat → ClassId) (A : Nat → Prop) (ρ0 : Nat → Nat) (n0 : Nat) (r : Option Value) (σ' : AH) : Array Value → State → Outcome → State → Prop := fun _ st oc t =>
  (∃ ρ' : Nat → Nat, (∀ i, (i < n0 ∨ 1000000 ≤ i) → ρ' i = ρ0 i) ∧ oc = .returned (r.map (rv ρ')) ∧ Wd G cAs A ρ' σ' t t.heap ∧ okl (nx σ') r.toList) ∧ va_F A st t
/-- THE JUDGEMENT: method f, at pc with locals lv and stack st over my heap σ, with D frames left, comes to its end with the answer r and my heap σ' -/
def E (X : Sx) (l : Launch) (f : MI) (D pc : Nat) (lv : List (Nat × Value)) (st : List Value) (σ : AH) (r : Option Value) (σ' : AH) : Prop :=
  Mono f σ σ' ∧ ∀ (p : Program) (e : Env) (R : Room) (s : State) (m : MethodId) (args : Array Value) (below : List Frame) (meth : Method) (c : Code) (G : va_G) (cAs : Nat → ClassId) (A : Nat → Prop) (ρ : Nat → Nat) (H : Heap) (locs : List Loc) (ls : Array Slot) (n0 s0 : Nat) (ρ0 : Nat → Nat),
    Fr X f D A ρ p R s m args meth c → Wd G cAs A ρ σ s H → va_S A s.heap H locs → lv_has ls f.2.2.1 (lv.map fun q => (q.1, rv ρ q.2)) → okl (nx σ) (lv.map Prod.snd) → okl (nx σ) st →
    (n0 ≤ nx σ ∧ s0 ≤ sl σ ∧ nx σ' - n0 ≤ R.cells ∧ sl σ' - s0 ≤ R.slots ∧ nx σ' ≤ 700000) → (∀ i, (i < n0 ∨ 1000000 ≤ i) → ρ i = ρ0 i) →
    W p l e R s m args below meth c H locs (nx σ - n0) (sl σ - s0) (MQ below (Qe G cAs A ρ0 n0 r σ') args s (nx σ' - n0) (sl σ' - s0) A) (F0 m pc ls (st.map (rv ρ)))
def Ar (ρ : Nat → Nat) (σ : AH) (sz : Nat) : Nat → Prop := fun q => (∃ i, i < nx σ ∧ q = ρ i) ∨ sz ≤ q
def wsM (g : MI) : List Cond := Cond.code g.1 g.2.1 g.2.2.1 g.2.2.2.1 :: lw_good
def rmM (d k n : Nat) : Room := { frames := d, cells := k, slots := n, locals := 64 * d }
def PcM (X : Sx) (G : va_G) (cAs : Nat → ClassId) (ρ : Nat → Nat) (sz : Nat) (av : List Value) (σ σ' : AH) : Array Value → State → Prop :=
  va_Pc (av.map (rv ρ)) (fun U => U.heap.size = sz ∧ Wd G cAs (Ar ρ σ sz) ρ σ U U.heap ∧ Sp X (Ar ρ σ sz) ρ U U.heap ∧ nx σ' ≤ 700000 ∧ okl (nx σ) av)
/-- a method's contract, of one state: called with av over σ it answers r and leaves σ' -/
def Call (X : Sx) (l : Launch) (g : MI) (d : Nat) (av : List Value) (σ : AH) (r : Option Value) (σ' : AH) : Prop :=
  Mono g σ σ' ∧ ∀ (G : va_G) (cAs : Nat → ClassId) (ρ : Nat → Nat) (sz : Nat), Met l g.1 (wsM g) (rmM d (nx σ' - nx σ) (sl σ' - sl σ)) (PcM X G cAs ρ sz av σ σ') (Qe G cAs (Ar ρ σ sz) ρ (nx σ) r σ') (nx σ' - nx σ) (sl σ' - sl σ) (Ar ρ σ sz)

theorem lv_args_map (ρ : Nat → Nat) : ∀ (vs : List Value) (k : Nat), lv_args k (vs.map (rv ρ)) = (lv_args k vs).map fun q => (q.1, rv ρ q.2)
  | [], k => rfl
  | v :: vs, k => by
    have h := lv_args_map ρ vs
    cases v <;> simp [lv_args, rv, Value.category, h]
