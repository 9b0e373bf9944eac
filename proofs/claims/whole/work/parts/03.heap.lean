/-! MY HEAP: cells by numbers (0, 1, 2 ..), each of a kind (class number, or 100 int[], 101 boolean[], 102 long[], 103 Act[], 104 Told[], 105 Site[]) and a length; ints, longs and references by cell and place -/
abbrev AH : Type := (Nat → Nat × Nat) × (Nat → Nat → Int32) × (Nat → Nat → Int64) × (Nat → Nat → Option Nat) × Nat × Nat
def kd (σ : AH) : Nat → Nat × Nat := σ.1
def gI (σ : AH) : Nat → Nat → Int32 := σ.2.1
def gL (σ : AH) : Nat → Nat → Int64 := σ.2.2.1
def gR (σ : AH) : Nat → Nat → Option Nat := σ.2.2.2.1
def nx (σ : AH) : Nat := σ.2.2.2.2.1
def sl (σ : AH) : Nat := σ.2.2.2.2.2
def sI (σ : AH) (o k : Nat) (v : Int32) : AH := (kd σ, va_up (gI σ) o (va_up (gI σ o) k v), gL σ, gR σ, nx σ, sl σ)
def sL (σ : AH) (o k : Nat) (v : Int64) : AH := (kd σ, gI σ, va_up (gL σ) o (va_up (gL σ o) k v), gR σ, nx σ, sl σ)
def sR (σ : AH) (o k : Nat) (v : Option Nat) : AH := (kd σ, gI σ, gL σ, va_up (gR σ) o (va_up (gR σ o) k v), nx σ, sl σ)
/-- a whole int array anew -/
def sA (σ : AH) (o : Nat) (g : Nat → Int32) : AH := (kd σ, va_up (gI σ) o g, gL σ, gR σ, nx σ, sl σ)
def aw (σ : AH) (t n : Nat) : AH := (va_up (kd σ) (nx σ) (t, n), va_up (gI σ) (nx σ) (fun _ => 0), va_up (gL σ) (nx σ) (fun _ => 0), va_up (gR σ) (nx σ) (fun _ => none), nx σ + 1, sl σ + n)
def RO : Nat → String := fun c => match c with
  | 0 => RX0
  | 1 => RX1
  | 2 => RX2
  | 3 => RX3
  | 4 => RX4
  | 5 => RX5
  | 6 => RX6
  | 7 => RX7
  | 8 => RX8
  | 9 => RX9
  | 10 => RX10
  | 11 => RX11
  | _ => RX12
def TO : Nat → u_T := fun c => match c with
  | 0 => TX0
  | 1 => TX1
  | 2 => TX2
  | 3 => TX3
  | 4 => TX4
  | 5 => TX5
  | 6 => TX6
  | 7 => TX7
  | 8 => TX8
  | 9 => TX9
  | 10 => TX10
  | 11 => TX11
  | _ => TX12
def tyO : Nat → Nat → FieldType := fun c => match c with
  | 0 => tyX0
  | 1 => tyX1
  | 2 => tyX2
  | 3 => tyX3
  | 4 => tyX4
  | 5 => tyX5
  | 6 => tyX6
  | 7 => tyX7
  | 8 => tyX8
  | 9 => tyX9
  | 10 => tyX10
  | 11 => tyX11
  | _ => tyX12
def NO : Nat → Nat := fun c => match c with
  | 0 => 7
  | 1 => 14
  | 2 => 7
  | 3 => 7
  | 4 => 9
  | 5 => 13
  | 6 => 5
  | 7 => 10
  | 8 => 4
  | 9 => 16
  | 10 => 14
  | 11 => 14
  | _ => 69
def ftk (t : FieldType) : Nat := match t with | .long => 1 | .object _ => 2 | .array _ => 2 | _ => 0
def fval (ρ : Nat → Nat) (σ : AH) (o c k : Nat) : Value := match ftk (tyO c k) with | 0 => .int (gI σ o k) | 1 => .long (gL σ o k) | _ => va_rf ((gR σ o k).map ρ)
def cont (ρ : Nat → Nat) (σ : AH) (i t : Nat) : (Nat → Int32) ⊕ (Nat → Int64) ⊕ (Nat → UInt32) ⊕ (Nat → UInt64) ⊕ (Nat → Option Nat) := if t ≤ 101 then .inl (gI σ i) else if t = 102 then .inr (.inl (gL σ i)) else .inr (.inr (.inr (.inr (fun k => (gR σ i k).map ρ))))
def ent (cAs : Nat → ClassId) (ρ : Nat → Nat) (σ : AH) (i : Nat) : va_E := if (kd σ i).1 < 100 then .inr ((kd σ i).1, (List.range (kd σ i).2).map (fval ρ σ i (kd σ i).1)) else .inl (cAs (kd σ i).1, (kd σ i).2, cont ρ σ i (kd σ i).1)
def wsA (cAs : Nat → ClassId) (ρ : Nat → Nat) (σ : AH) : va_W := (List.range (nx σ)).map (fun i => (ρ i, ent cAs ρ σ i))
def tysA (cAs : Nat → ClassId) : List (ClassId × FieldType) := [(cAs 100, .int), (cAs 101, .boolean), (cAs 102, .long), (cAs 103, .object "WarHouses$Act"), (cAs 104, .object "WarHouses$Told"), (cAs 105, .object "WarHouses$Site")]
def rv (ρ : Nat → Nat) : Value → Value | .ref a => .ref (ρ a) | v => v
def okv (n : Nat) : Value → Prop | .ref a => a < n ∨ 1000000 ≤ a | _ => True
def okl (n : Nat) (vs : List Value) : Prop := ∀ v ∈ vs, okv n v
abbrev MI : Type := MethodName × ByteArray × Nat × Option FieldType
def lw_good : List Cond := lw_tbl.filter goodWord
abbrev Sx : Type := Nat × (Nat → Int32)
theorem wsA_len (cAs : Nat → ClassId) (ρ : Nat → Nat) (σ : AH) : (wsA cAs ρ σ).length = nx σ := by simp [wsA]
theorem wsA_get {cAs : Nat → ClassId} {ρ : Nat → Nat} {σ : AH} {i : Nat} (h : i < nx σ) : (wsA cAs ρ σ)[i]? = some (ρ i, ent cAs ρ σ i) := by
  simp [wsA, h]
theorem wsA_obj {cAs : Nat → ClassId} {ρ : Nat → Nat} {σ : AH} {i c n : Nat} (h : i < nx σ) (hk : kd σ i = (c, n)) (hc : c < 100) : (wsA cAs ρ σ)[i]? = some (ρ i, .inr (c, (List.range n).map (fval ρ σ i c))) := by
  rw [wsA_get h, ent, hk]; simp [hc]
theorem wsA_arr {cAs : Nat → ClassId} {ρ : Nat → Nat} {σ : AH} {i c n : Nat} (h : i < nx σ) (hk : kd σ i = (c, n)) (hc : 100 ≤ c) : (wsA cAs ρ σ)[i]? = some (ρ i, .inl (cAs c, n, cont ρ σ i c)) := by
  rw [wsA_get h, ent, hk]; simp [Nat.not_lt.mpr hc]
theorem up_same {α : Type} (f : Nat → α) (k : Nat) (v : α) : va_up f k v k = v := by simp [va_up]
theorem up_ne {α : Type} (f : Nat → α) (k : Nat) (v : α) {j : Nat} (h : j ≠ k) : va_up f k v j = f j := by simp [va_up, h]
/-- two heaps that differ in one cell alone, in what it holds -/
theorem wsA_set {cAs : Nat → ClassId} {ρ : Nat → Nat} {σ τ : AH} {o : Nat} (hn : nx τ = nx σ) (he : ∀ i, i ≠ o → ent cAs ρ τ i = ent cAs ρ σ i) {x : Nat × va_E} (hx : x = (ρ o, ent cAs ρ τ o)) : (wsA cAs ρ σ).set o x = wsA cAs ρ τ := by
  subst hx
  apply List.ext_getElem?
  intro i
  rw [List.getElem?_set]
  by_cases hi : o = i
  · subst hi
    by_cases hl : o < nx σ
    · rw [if_pos rfl, if_pos (by rw [wsA_len]; exact hl), wsA_get (by rw [hn]; exact hl)]
    · rw [if_pos rfl, if_neg (by rw [wsA_len]; exact hl)]
      simp [wsA, hn, hl]
  · rw [if_neg hi]
    by_cases hl : i < nx σ
    · rw [wsA_get hl, wsA_get (by rw [hn]; exact hl), he i (fun h => hi h.symm)]
    · simp [wsA, hn, hl]
theorem ent_sI {cAs : Nat → ClassId} {ρ : Nat → Nat} {σ : AH} {o k : Nat} {v : Int32} {i : Nat} (h : i ≠ o) : ent cAs ρ (sI σ o k v) i = ent cAs ρ σ i := by
  have h1 : gI (sI σ o k v) i = gI σ i := by show va_up _ _ _ i = _; rw [up_ne _ _ _ h]
  have h2 : fval ρ (sI σ o k v) i = fval ρ σ i := by funext c k'; simp only [fval, h1]; rfl
  have h3 : cont ρ (sI σ o k v) i = cont ρ σ i := by funext c; simp only [cont, h1]; rfl
  unfold ent
  rw [h2, h3]
  rfl
theorem ent_sA {cAs : Nat → ClassId} {ρ : Nat → Nat} {σ : AH} {o : Nat} {g : Nat → Int32} {i : Nat} (h : i ≠ o) : ent cAs ρ (sA σ o g) i = ent cAs ρ σ i := by
  have h1 : gI (sA σ o g) i = gI σ i := by show va_up _ _ _ i = _; rw [up_ne _ _ _ h]
  have h2 : fval ρ (sA σ o g) i = fval ρ σ i := by funext c k'; simp only [fval, h1]; rfl
  have h3 : cont ρ (sA σ o g) i = cont ρ σ i := by funext c; simp only [cont, h1]; rfl
  unfold ent
  rw [h2, h3]
  rfl
theorem ent_sL {cAs : Nat → ClassId} {ρ : Nat → Nat} {σ : AH} {o k : Nat} {v : Int64} {i : Nat} (h : i ≠ o) : ent cAs ρ (sL σ o k v) i = ent cAs ρ σ i := by
  have h1 : gL (sL σ o k v) i = gL σ i := by show va_up _ _ _ i = _; rw [up_ne _ _ _ h]
  have h2 : fval ρ (sL σ o k v) i = fval ρ σ i := by funext c k'; simp only [fval, h1]; rfl
  have h3 : cont ρ (sL σ o k v) i = cont ρ σ i := by funext c; simp only [cont, h1]; rfl
  unfold ent
  rw [h2, h3]
  rfl
theorem ent_sR {cAs : Nat → ClassId} {ρ : Nat → Nat} {σ : AH} {o k : Nat} {v : Option Nat} {i : Nat} (h : i ≠ o) : ent cAs ρ (sR σ o k v) i = ent cAs ρ σ i := by
  have h1 : gR (sR σ o k v) i = gR σ i := by show va_up _ _ _ i = _; rw [up_ne _ _ _ h]
  have h2 : fval ρ (sR σ o k v) i = fval ρ σ i := by funext c k'; simp only [fval, h1]; rfl
  have h3 : cont ρ (sR σ o k v) i = cont ρ σ i := by funext c; simp only [cont, h1]; rfl
  unfold ent
  rw [h2, h3]
  rfl
/-- the fields behind a put -/
theorem fv_set {n k : Nat} {g h : Nat → Value} {v : Value} (hv : h k = v) (ho : ∀ j, j ≠ k → h j = g j) : ((List.range n).map g).set k v = (List.range n).map h := by
  apply List.ext_getElem?
  intro i
  rw [List.getElem?_set]
  by_cases hi : k = i
  · subst hi
    by_cases hl : k < n
    · simp [hl, hv]
    · simp [hl]
  · rw [if_neg hi]
    by_cases hl : i < n
    · simp [hl, ho i (fun q => hi q.symm)]
    · simp [hl]
theorem rv_cat (ρ : Nat → Nat) (v : Value) : (rv ρ v).category = v.category := by cases v <;> rfl
theorem rv_eq {ρ ρ' : Nat → Nat} {n : Nat} {v : Value} (h : okv n v) (ha : ∀ i, (i < n ∨ 1000000 ≤ i) → ρ' i = ρ i) : rv ρ' v = rv ρ v := by
  cases v <;> first | rfl | (simp only [rv]; rw [ha _ h])
theorem rv_eql {ρ ρ' : Nat → Nat} {n : Nat} {vs : List Value} (h : okl n vs) (ha : ∀ i, (i < n ∨ 1000000 ≤ i) → ρ' i = ρ i) : vs.map (rv ρ') = vs.map (rv ρ) :=
  List.map_congr_left fun v hv => rv_eq (h v hv) ha
theorem okv_mono {n m : Nat} (h : n ≤ m) {v : Value} (hv : okv n v) : okv m v := by
  cases v <;> first | trivial | exact hv.elim (fun q => Or.inl (Nat.lt_of_lt_of_le q h)) Or.inr
theorem okl_mono {n m : Nat} (h : n ≤ m) {vs : List Value} (hv : okl n vs) : okl m vs := fun v q => okv_mono h (hv v q)
theorem okl_cons {n : Nat} {v : Value} {vs : List Value} : okl n (v :: vs) ↔ okv n v ∧ okl n vs := by simp [okl]
theorem okl_tail {n : Nat} {v : Value} {vs : List Value} (h : okl n (v :: vs)) : okl n vs := (okl_cons.mp h).2
