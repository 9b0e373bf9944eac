/-! MY HEAP: cells by numbers (0, 1, 2 ..), each of a kind (class number, or 100 int[], 101 boolean[], 102 long[], 103 Act[], 104 Told[], 105 Site[]) and a length; ints, longs and references by cell and place -/
abbrev AH : Type := (Nat → Nat × Nat) × (Nat → Nat → Int32) × (Nat → Nat → Int64) × (Nat → Nat → Option Nat) × Nat × Nat
def kd (σ : AH) : Nat → Nat × Nat := σ.1
def gI (σ : AH) : Nat → Nat → Int32 := σ.2.1
def gL (σ : AH) : Nat → Nat → Int64 := σ.2.2.1
def gR (σ : AH) : Nat → Nat → Option Nat := σ.2.2.2.1
def nx (σ : AH) : Nat := σ.2.2.2.2.1
def sl (σ : AH) : Nat := σ.2.2.2.2.2
def sI (σ : AH) (o k : Nat) (v : Int32) : AH := (kd σ, va_up (gI σ) o (va_up (gI σ o) k v), gL σ, gR σ, nx σ, sl σ)
def sL (σ : AH) (o k : Nat) (v : Int64) : AH := (kd σ, gI σ, va_up (gL σ) o (va_up (gL σ o) k v), gR σ, nx σ, sl σ)
def sR (σ : AH) (o k : Nat) (v : Option Nat) : AH := (kd σ, gI σ, gL σ, va_up (gR σ) o (va_up (gR σ o) k v), nx σ, sl σ)
/-- a whole int array anew -/
def sA (σ : AH) (o : Nat) (g : Nat → Int32) : AH := (kd σ, va_up (gI σ) o g, gL σ, gR σ, nx σ, sl σ)
def aw (σ : AH) (t n : Nat) : AH := (va_up (kd σ) (nx σ) (t, n), va_up (gI σ) (nx σ) (fun _ => 0), va_up (gL σ) (nx σ) (fun _ => 0), va_up (gR σ) (nx σ) (fun _ => none), nx σ + 1, sl σ + n)
def RO : Nat → String := fun c => match c with
  | 0 => RX0
  | 1 => RX1
  | 2 => RX2
  | 3 => RX3
  | 4 => RX4
  | 5 => RX5
  | 6 => RX6
  | 7 => RX7
  | 8 => RX8
  | 9 => RX9
  | 10 => RX10
  | 11 => RX11
  | _ => RX12
def TO : Nat → u_T := fun c => match c with
  | 0 => TX0
  | 1 => TX1
  | 2 => TX2
  | 3 => TX3
  | 4 => TX4
  | 5 => TX5
  | 6 => TX6
  | 7 => TX7
  | 8 => TX8
  | 9 => TX9
  | 10 => TX10
  | 11 => TX11
  | _ => TX12
def tyO : Nat → Nat → FieldType := fun c => match c with
  | 0 => tyX0
  | 1 => tyX1
  | 2 => tyX2
  | 3 => tyX3
  | 4 => tyX4
  | 5 => tyX5
  | 6 => tyX6
  | 7 => tyX7
  | 8 => tyX8
  | 9 => tyX9
  | 10 => tyX10
  | 11 => tyX11
  | _ => tyX12
def NO : Nat → Nat := fun c => match c with
  | 0 => 7
  | 1 => 14
  | 2 => 7
  | 3 => 7
  | 4 => 9
  | 5 => 13
  | 6 => 5
  | 7 => 10
  | 8 => 4
  | 9 => 16
  | 10 => 14
  | 11 => 14
  | _ => 69
def ftk (t : FieldType) : Nat := match t with | .long => 1 | .object _ => 2 | .array _ => 2 | _ => 0
def fval (ρ : Nat → Nat) (σ : AH) (o c k : Nat) : Value := match ftk (tyO c k) with | 0 => .int (gI σ o k) | 1 => .long (gL σ o k) | _ => va_rf ((gR σ o k).map ρ)
def cont (ρ : Nat → Nat) (σ : AH) (i t : Nat) : (Nat → Int32) ⊕ (Nat → Int64) ⊕ (Nat → UInt32) ⊕ (Nat → UInt64) ⊕ (Nat → Option Nat) := if t ≤ 101 then .inl (gI σ i) else if t = 102 then .inr (.inl (gL σ i)) else .inr (.inr (.inr (.inr (fun k => (gR σ i k).map ρ))))
def ent (cAs : Nat → ClassId) (ρ : Nat → Nat) (σ : AH) (i : Nat) : va_E := if (kd σ i).1 < 100 then .inr ((kd σ i).1, (List.range (kd σ i).2).map (fval ρ σ i (kd σ i).1)) else .inl (cAs (kd σ i).1, (kd σ i).2, cont ρ σ i (kd σ i).1)
def wsA (cAs : Nat → ClassId) (ρ : Nat → Nat) (σ : AH) : va_W := (List.range (nx σ)).map (fun i => (ρ i, ent cAs ρ σ i))
def tysA (cAs : Nat → ClassId) : List (ClassId × FieldType) := [(cAs 100, .int), (cAs 101, .boolean), (cAs 102, .long), (cAs 103, .object "WarHouses$Act"), (cAs 104, .object "WarHouses$Told"), (cAs 105, .object "WarHouses$Site")]
def rv (ρ : Nat → Nat) : Value → Value | .ref a => .ref (ρ a) | v => v
def okv (n : Nat) : Value → Prop | .ref a => a < n ∨ 1000000 ≤ a | _ => True
def okl (n : Nat) (vs : List Value) : Prop := ∀ v ∈ vs, okv n v
/-- a method: name, code, locals, result, the cells that it may write (numbers; and whether those from 166 on) -/
abbrev MI : Type := MethodName × ByteArray × Nat × Option FieldType × List Nat × Bool
def al (f : MI) (i : Nat) : Prop := f.2.2.2.2.1.contains i = true ∨ (f.2.2.2.2.2 = true ∧ 166 ≤ i)
def subB (g f : MI) : Bool := g.2.2.2.2.1.all (fun i => f.2.2.2.2.1.contains i) && (!g.2.2.2.2.2 || f.2.2.2.2.2)
theorem al_sub {g f : MI} (h : subB g f = true) {i : Nat} (ha : al g i) : al f i := by
  simp only [subB, Bool.and_eq_true, List.all_eq_true, Bool.or_eq_true, Bool.not_eq_true'] at h
  rcases ha with ha | ⟨ha, hi⟩
  · exact Or.inl (h.1 i (by simpa using ha))
  · rcases h.2 with q | q
    · rw [ha] at q; cases q
    · exact Or.inr ⟨q, hi⟩
def lw_good : List Cond := lw_tbl.filter goodWord
abbrev Sx : Type := Nat × (Nat → Int32)
theorem wsA_len (cAs : Nat → ClassId) (ρ : Nat → Nat) (σ : AH) : (wsA cAs ρ σ).length = nx σ := by simp [wsA]
theorem wsA_get {cAs : Nat → ClassId} {ρ : Nat → Nat} {σ : AH} {i : Nat} (h : i < nx σ) : (wsA cAs ρ σ)[i]? = some (ρ i, ent cAs ρ σ i) := by
  simp [wsA, h]
theorem wsA_obj {cAs : Nat → ClassId} {ρ : Nat → Nat} {σ : AH} {i c n : Nat} (h : i < nx σ) (hk : kd σ i = (c, n)) (hc : c < 100) : (wsA cAs ρ σ)[i]? = some (ρ i, .inr (c, (List.range n).map (fval ρ σ i c))) := by
  rw [wsA_get h, ent, hk]; simp [hc]
theorem wsA_arr {cAs : Nat → ClassId} {ρ : Nat → Nat} {σ : AH} {i c n : Nat} (h : i < nx σ) (hk : kd σ i = (c, n)) (hc : 100 ≤ c) : (wsA cAs ρ σ)[i]? = some (ρ i, .inl (cAs c, n, cont ρ σ i c)) := by
  rw [wsA_get h, ent, hk]; simp [Nat.not_lt.mpr hc]
theorem up_same {α : Type} (f : Nat → α) (k : Nat) (v : α) : va_up f k v k = v := by simp [va_up]
theorem up_ne {α : Type} (f : Nat → α) (k : Nat) (v : α) {j : Nat} (h : j ≠ k) : va_up f k v j = f j := by simp [va_up, h]
/-- two heaps that differ in one cell alone, in what it holds -/
theorem wsA_set {cAs : Nat → ClassId} {ρ : Nat → Nat} {σ τ : AH} {o : Nat} (hn : nx τ = nx σ) (he : ∀ i, i ≠ o → ent cAs ρ τ i = ent cAs ρ σ i) {x : Nat × va_E} (hx : x = (ρ o, ent cAs ρ τ o)) : (wsA cAs ρ σ).set o x = wsA cAs ρ τ := by
  subst hx
  apply List.ext_getElem?
  intro i
  rw [List.getElem?_set]
  by_cases hi : o = i
  · subst hi
    by_cases hl : o < nx σ
    · rw [if_pos rfl, if_pos (by rw [wsA_len]; exact hl), wsA_get (by rw [hn]; exact hl)]
    · rw [if_pos rfl, if_neg (by rw [wsA_len]; exact hl)]
      simp [wsA, hn, hl]
  · rw [if_neg hi]
    by_cases hl : i < nx σ
    · rw [wsA_get hl, wsA_get (by rw [hn]; exact hl), he i (fun h => hi h.symm)]
    · simp [wsA, hn, hl]
theorem ent_sI {cAs : Nat → ClassId} {ρ : Nat → Nat} {σ : AH} {o k : Nat} {v : Int32} {i : Nat} (h : i ≠ o) : ent cAs ρ (sI σ o k v) i = ent cAs ρ σ i := by
  have h1 : gI (sI σ o k v) i = gI σ i := by show va_up _ _ _ i = _; rw [up_ne _ _ _ h]
  have h2 : fval ρ (sI σ o k v) i = fval ρ σ i := by funext c k'; simp only [fval, h1]; rfl
  have h3 : cont ρ (sI σ o k v) i = cont ρ σ i := by funext c; simp only [cont, h1]; rfl
  unfold ent
  rw [h2, h3]
  rfl
theorem ent_sA {cAs : Nat → ClassId} {ρ : Nat → Nat} {σ : AH} {o : Nat} {g : Nat → Int32} {i : Nat} (h : i ≠ o) : ent cAs ρ (sA σ o g) i = ent cAs ρ σ i := by
  have h1 : gI (sA σ o g) i = gI σ i := by show va_up _ _ _ i = _; rw [up_ne _ _ _ h]
  have h2 : fval ρ (sA σ o g) i = fval ρ σ i := by funext c k'; simp only [fval, h1]; rfl
  have h3 : cont ρ (sA σ o g) i = cont ρ σ i := by funext c; simp only [cont, h1]; rfl
  unfold ent
  rw [h2, h3]
  rfl
theorem ent_sL {cAs : Nat → ClassId} {ρ : Nat → Nat} {σ : AH} {o k : Nat} {v : Int64} {i : Nat} (h : i ≠ o) : ent cAs ρ (sL σ o k v) i = ent cAs ρ σ i := by
  have h1 : gL (sL σ o k v) i = gL σ i := by show va_up _ _ _ i = _; rw [up_ne _ _ _ h]
  have h2 : fval ρ (sL σ o k v) i = fval ρ σ i := by funext c k'; simp only [fval, h1]; rfl
  have h3 : cont ρ (sL σ o k v) i = cont ρ σ i := by funext c; simp only [cont, h1]; rfl
  unfold ent
  rw [h2, h3]
  rfl
theorem ent_sR {cAs : Nat → ClassId} {ρ : Nat → Nat} {σ : AH} {o k : Nat} {v : Option Nat} {i : Nat} (h : i ≠ o) : ent cAs ρ (sR σ o k v) i = ent cAs ρ σ i := by
  have h1 : gR (sR σ o k v) i = gR σ i := by show va_up _ _ _ i = _; rw [up_ne _ _ _ h]
  have h2 : fval ρ (sR σ o k v) i = fval ρ σ i := by funext c k'; simp only [fval, h1]; rfl
  have h3 : cont ρ (sR σ o k v) i = cont ρ σ i := by funext c; simp only [cont, h1]; rfl
  unfold ent
  rw [h2, h3]
  rfl
/-- the fields behind a put -/
theorem fv_set {n k : Nat} {g h : Nat → Value} {v : Value} (hv : h k = v) (ho : ∀ j, j ≠ k → h j = g j) : ((List.range n).map g).set k v = (List.range n).map h := by
  apply List.ext_getElem?
  intro i
  rw [List.getElem?_set]
  by_cases hi : k = i
  · subst hi
    by_cases hl : k < n
    · simp [hl, hv]
    · simp [hl]
  · rw [if_neg hi]
    by_cases hl : i < n
    · simp [hl, ho i (fun q => hi q.symm)]
    · simp [hl]
theorem rv_cat (ρ : Nat → Nat) (v : Value) : (rv ρ v).category = v.category := by cases v <;> rfl
theorem rv_eq {ρ ρ' : Nat → Nat} {n : Nat} {v : Value} (h : okv n v) (ha : ∀ i, (i < n ∨ 1000000 ≤ i) → ρ' i = ρ i) : rv ρ' v = rv ρ v := by
  cases v <;> first | rfl | (simp only [rv]; rw [ha _ h])
theorem rv_eql {ρ ρ' : Nat → Nat} {n : Nat} {vs : List Value} (h : okl n vs) (ha : ∀ i, (i < n ∨ 1000000 ≤ i) → ρ' i = ρ i) : vs.map (rv ρ') = vs.map (rv ρ) :=
  List.map_congr_left fun v hv => rv_eq (h v hv) ha
theorem okv_mono {n m : Nat} (h : n ≤ m) {v : Value} (hv : okv n v) : okv m v := by
  cases v <;> first | trivial | exact hv.elim (fun q => Or.inl (Nat.lt_of_lt_of_le q h)) Or.inr
theorem okl_mono {n m : Nat} (h : n ≤ m) {vs : List Value} (hv : okl n vs) : okl m vs := fun v q => okv_mono h (hv v q)
theorem okl_cons {n : Nat} {v : Value} {vs : List Value} : okl n (v :: vs) ↔ okv n v ∧ okl n vs := by simp [okl]
theorem okl_tail {n : Nat} {v : Value} {vs : List Value} (h : okl n (v :: vs)) : okl n vs := (okl_cons.mp h).2
/-- the cells that the constructors make, in the order of their making: kinds and lengths; references that are never written anew -/
def shKL : List (Nat × Nat) := [(11, 14), (9, 16), (103, 24), (8, 4), (100, 32), (8, 4), (100, 64), (8, 4), (100, 32), (8, 4), (100, 32), (8, 4), (100, 24), (8, 4), (100, 80), (8, 4), (100, 32), (8, 4), (100, 56), (100, 120), (100, 2400), (104, 3), (5, 13), (100, 400), (100, 16), (100, 16), (100, 16), (100, 400), (3, 7), (100, 63), (100, 384), (100, 24), (100, 7), (102, 64), (10, 14), (100, 1300), (100, 1560), (100, 6), (100, 30), (100, 260), (100, 60), (100, 260), (100, 4212), (100, 702), (6, 5), (7, 10), (100, 5), (100, 30), (100, 18), (100, 30), (100, 30), (100, 30), (100, 90), (100, 90), (100, 90), (100, 1300), (6, 5), (7, 10), (100, 5), (100, 30), (100, 18), (100, 30), (100, 30), (100, 30), (100, 90), (100, 90), (100, 90), (100, 1300), (1, 14), (100, 6), (7, 10), (100, 5), (100, 30), (100, 18), (100, 30), (100, 30), (100, 30), (100, 90), (100, 90), (100, 90), (105, 3), (100, 6), (100, 6), (7, 10), (100, 5), (100, 30), (100, 18), (100, 30), (100, 30), (100, 30), (100, 90), (100, 90), (100, 90), (7, 10), (100, 5), (100, 30), (100, 18), (100, 30), (100, 30), (100, 30), (100, 90), (100, 90), (100, 90), (7, 10), (100, 5), (100, 30), (100, 18), (100, 30), (100, 30), (100, 30), (100, 90), (100, 90), (100, 90), (4, 9), (100, 60), (100, 360), (100, 6), (102, 60), (100, 60), (2, 7), (100, 30), (100, 30), (100, 60), (100, 60), (12, 69), (100, 269832), (100, 809496), (101, 3), (100, 400), (100, 144), (100, 400), (100, 400), (100, 400), (100, 400), (101, 24), (101, 384), (100, 8), (102, 400), (100, 84240), (100, 260), (100, 30), (101, 30), (100, 5), (100, 6), (100, 30), (101, 30), (100, 30), (101, 30), (100, 90), (100, 90), (100, 30), (100, 30), (100, 6), (100, 6), (100, 5), (100, 30), (101, 30), (100, 30), (100, 90), (100, 90), (100, 60), (102, 60), (100, 60), (100, 60), (100, 30), (100, 30)]
def shRL : List (Nat × Nat × Nat) := [(1, 0, 2), (1, 2, 3), (1, 3, 5), (1, 4, 7), (1, 5, 9), (1, 6, 11), (1, 7, 13), (1, 8, 15), (1, 9, 17), (1, 10, 19), (1, 11, 20), (0, 0, 1), (0, 1, 21), (0, 2, 22), (22, 0, 23), (22, 3, 24), (22, 4, 25), (22, 5, 26), (22, 6, 27), (0, 3, 28), (28, 1, 29), (28, 2, 30), (28, 3, 31), (28, 4, 32), (28, 5, 33), (28, 0, 1), (0, 4, 34), (34, 5, 35), (34, 6, 36), (34, 7, 37), (34, 8, 38), (34, 9, 39), (34, 10, 40), (34, 11, 41), (34, 12, 42), (34, 13, 43), (34, 0, 1), (34, 1, 28), (45, 0, 46), (45, 1, 47), (45, 3, 48), (45, 4, 49), (45, 5, 50), (45, 6, 51), (45, 7, 52), (45, 8, 53), (45, 9, 54), (44, 0, 45), (44, 1, 55), (0, 5, 44), (57, 0, 58), (57, 1, 59), (57, 3, 60), (57, 4, 61), (57, 5, 62), (57, 6, 63), (57, 7, 64), (57, 8, 65), (57, 9, 66), (56, 0, 57), (56, 1, 67), (0, 6, 56), (0, 7, 68), (68, 2, 69), (70, 0, 71), (70, 1, 72), (70, 3, 73), (70, 4, 74), (70, 5, 75), (70, 6, 76), (70, 7, 77), (70, 8, 78), (70, 9, 79), (68, 5, 70), (68, 8, 80), (68, 9, 81), (68, 10, 82), (68, 0, 1), (68, 1, 34), (83, 0, 84), (83, 1, 85), (83, 3, 86), (83, 4, 87), (83, 5, 88), (83, 6, 89), (83, 7, 90), (83, 8, 91), (83, 9, 92), (80, 0, 83), (93, 0, 94), (93, 1, 95), (93, 3, 96), (93, 4, 97), (93, 5, 98), (93, 6, 99), (93, 7, 100), (93, 8, 101), (93, 9, 102), (80, 1, 93), (103, 0, 104), (103, 1, 105), (103, 3, 106), (103, 4, 107), (103, 5, 108), (103, 6, 109), (103, 7, 110), (103, 8, 111), (103, 9, 112), (80, 2, 103), (0, 8, 113), (113, 2, 114), (113, 5, 115), (113, 6, 116), (113, 7, 117), (113, 8, 118), (113, 0, 1), (113, 1, 28), (0, 9, 119), (119, 3, 120), (119, 4, 121), (119, 5, 122), (119, 6, 123), (119, 0, 1), (119, 1, 28), (119, 2, 113), (124, 2, 125), (124, 3, 126), (124, 4, 127), (124, 5, 128), (124, 14, 129), (124, 16, 130), (124, 17, 131), (124, 19, 132), (124, 20, 133), (124, 25, 134), (124, 26, 135), (124, 27, 136), (124, 28, 137), (124, 33, 138), (124, 34, 139), (124, 35, 140), (124, 36, 141), (124, 37, 142), (124, 38, 143), (124, 39, 144), (124, 40, 145), (124, 41, 146), (124, 42, 147), (124, 43, 148), (124, 44, 149), (124, 46, 150), (124, 47, 151), (124, 49, 152), (124, 52, 153), (124, 54, 154), (124, 55, 155), (124, 56, 156), (124, 57, 157), (124, 58, 158), (124, 59, 159), (124, 62, 160), (124, 63, 161), (124, 64, 162), (124, 66, 163), (124, 67, 164), (124, 68, 165)]
def Sh (σ : AH) : Prop := 166 ≤ nx σ ∧ (∀ i, i < 166 → kd σ i = shKL.getD i (0, 0)) ∧ ∀ q ∈ shRL, gR σ q.1 q.2.1 = some q.2.2
theorem shRL_lt : ∀ q ∈ shRL, q.1 < 166 := by decide +kernel
theorem Sh_sR {σ : AH} {o k : Nat} {v : Option Nat} (h : Sh σ) (hne : ∀ q ∈ shRL, ¬ (q.1 = o ∧ q.2.1 = k)) : Sh (sR σ o k v) := by
  refine ⟨h.1, h.2.1, fun q hq => ?_⟩
  show va_up (gR σ) o (va_up (gR σ o) k v) q.1 q.2.1 = _
  by_cases h1 : q.1 = o
  · rw [h1, up_same, up_ne _ _ _ (fun e => hne q hq ⟨h1, e⟩), ← h1]
    exact h.2.2 q hq
  · rw [up_ne _ _ _ h1]
    exact h.2.2 q hq
theorem Sh_sR_new {σ : AH} {o k : Nat} {v : Option Nat} (h : Sh σ) (hne : 166 ≤ o) : Sh (sR σ o k v) := Sh_sR h fun q hq e => by have := shRL_lt q hq; omega
theorem Sh_aw {σ : AH} {t n : Nat} (h : Sh σ) : Sh (aw σ t n) := by
  have h1 := h.1
  refine ⟨Nat.le_succ_of_le h1, fun i hi => ?_, fun q hq => ?_⟩
  · show va_up (kd σ) (nx σ) (t, n) i = _
    rw [up_ne _ _ _ (by omega)]
    exact h.2.1 i hi
  · have := shRL_lt q hq
    show va_up (gR σ) (nx σ) (fun _ => none) q.1 q.2.1 = _
    rw [up_ne _ _ _ (by omega)]
    exact h.2.2 q hq
