section
/-! CHANGES: all is as it was but the rows cs and the single places fs -/
def Ch (cs : List Nat) (fs : List (Nat × Nat)) (σ σ' : AH) : Prop :=
  kd σ' = kd σ ∧ nx σ' = nx σ ∧ sl σ' = sl σ ∧ gR σ' = gR σ ∧ ∀ i, i ∉ cs → ∀ k, (i, k) ∉ fs → gI σ' i k = gI σ i k ∧ gL σ' i k = gL σ i k
theorem Ch.rf {cs : List Nat} {fs : List (Nat × Nat)} (σ : AH) : Ch cs fs σ σ := ⟨rfl, rfl, rfl, rfl, fun _ _ _ _ => ⟨rfl, rfl⟩⟩
theorem Ch.trans {cs : List Nat} {fs : List (Nat × Nat)} {a b c : AH} (h : Ch cs fs a b) (g : Ch cs fs b c) : Ch cs fs a c :=
  ⟨g.1.trans h.1, g.2.1.trans h.2.1, g.2.2.1.trans h.2.2.1, g.2.2.2.1.trans h.2.2.2.1, fun i hi k hk => ⟨(g.2.2.2.2 i hi k hk).1.trans (h.2.2.2.2 i hi k hk).1, (g.2.2.2.2 i hi k hk).2.trans (h.2.2.2.2 i hi k hk).2⟩⟩
theorem Ch.mono {cs ds : List Nat} {fs gs : List (Nat × Nat)} {a b : AH} (h : Ch cs fs a b) (h1 : ∀ i ∈ cs, i ∈ ds) (h2 : ∀ q ∈ fs, q ∈ gs ∨ q.1 ∈ ds) : Ch ds gs a b :=
  ⟨h.1, h.2.1, h.2.2.1, h.2.2.2.1, fun i hi k hk => h.2.2.2.2 i (fun q => hi (h1 i q)) k (fun q => (h2 _ q).elim hk hi)⟩
theorem Ch.sI1 {cs : List Nat} {fs : List (Nat × Nat)} {σ : AH} {o k : Nat} {v : Int32} (h : (o, k) ∈ fs ∨ o ∈ cs) : Ch cs fs σ (sI σ o k v) :=
  ⟨rfl, rfl, rfl, rfl, fun i hi j hj => ⟨by
    by_cases e : i = o
    · subst e
      have : j ≠ k := fun e => by subst e; exact h.elim hj hi
      rw [gI_sI_ne this]
    · rw [gI_sI_row e], rfl⟩⟩
theorem Ch.sL1 {cs : List Nat} {fs : List (Nat × Nat)} {σ : AH} {o k : Nat} {v : Int64} (h : (o, k) ∈ fs ∨ o ∈ cs) : Ch cs fs σ (sL σ o k v) :=
  ⟨rfl, rfl, rfl, rfl, fun i hi j hj => ⟨rfl, by
    by_cases e : i = o
    · subst e
      have : j ≠ k := fun e => by subst e; exact h.elim hj hi
      rw [gL_sL_ne this]
    · rw [gL_sL_row e]⟩⟩
theorem Ch.sA1 {cs : List Nat} {fs : List (Nat × Nat)} {σ : AH} {o : Nat} {g : Nat → Int32} (h : o ∈ cs) : Ch cs fs σ (sA σ o g) :=
  ⟨rfl, rfl, rfl, rfl, fun i hi j hj => ⟨by
    have e : i ≠ o := fun e => by subst e; exact hi h
    rw [gI_sA_row e], rfl⟩⟩
theorem Ch.rI {cs : List Nat} {fs : List (Nat × Nat)} {a b : AH} (h : Ch cs fs a b) {i : Nat} (h1 : i ∉ cs) (h2 : ∀ q ∈ fs, q.1 ≠ i) : gI b i = gI a i := funext fun k => (h.2.2.2.2 i h1 k (fun q => h2 _ q rfl)).1
theorem Ch.rL {cs : List Nat} {fs : List (Nat × Nat)} {a b : AH} (h : Ch cs fs a b) {i : Nat} (h1 : i ∉ cs) (h2 : ∀ q ∈ fs, q.1 ≠ i) : gL b i = gL a i := funext fun k => (h.2.2.2.2 i h1 k (fun q => h2 _ q rfl)).2
theorem Ch.pI {cs : List Nat} {fs : List (Nat × Nat)} {a b : AH} (h : Ch cs fs a b) {i k : Nat} (h1 : i ∉ cs) (h2 : (i, k) ∉ fs) : gI b i k = gI a i k := (h.2.2.2.2 i h1 k h2).1
theorem Ch.pL {cs : List Nat} {fs : List (Nat × Nat)} {a b : AH} (h : Ch cs fs a b) {i k : Nat} (h1 : i ∉ cs) (h2 : (i, k) ∉ fs) : gL b i k = gL a i k := (h.2.2.2.2 i h1 k h2).2
theorem Ch.sh {cs : List Nat} {fs : List (Nat × Nat)} {a b : AH} (h : Ch cs fs a b) (hs : Sh a) : Sh b := by
  refine ⟨by rw [h.2.1]; exact hs.1, by rw [h.1]; exact hs.2.1, by rw [h.2.2.2.1]; exact hs.2.2⟩
/-! numbers -/
theorem fa_lit (n : Nat) : (OfNat.ofNat n : Int32) = nI n := rfl
theorem nI_m1 {n : Nat} (h : 1 ≤ n) : nI n + (-1) = nI (n - 1) := by
  obtain ⟨m, rfl⟩ : ∃ m, n = m + 1 := ⟨n - 1, by omega⟩
  exact pk_m1 m
/-! REFERENCE: how a SUM or TEST is worked out -/
def chk (v : Int64) : Option Int64 := if -1000000000 ≤ v ∧ v ≤ 1000000000 then some v else none
def rk (o : Int32) (a b : Int64) : Option Int64 :=
  if o = 8 then chk (a + b) else if o = 9 then chk (a - b) else if o = 10 then chk (a * b) else if o = 11 then (if b = 0 then none else chk (a / b))
  else if o = 12 then chk (if b ≤ a then 0 else 1) else if o = 13 then chk (if a ≤ b then 0 else 1) else if o = 14 then chk (if a = b then 1 else 0)
  else if o = 15 then chk (if b ≤ a then b else a) else chk (if a ≤ b then b else a)
def bot (s : List Int64) : Int64 := s.getD (s.length - 1) 0
def rrun (op ar st : Nat → Int32) (L : Nat) : Nat → Nat → List Int64 → Option (Option Int64) := fun f => match f with
  | 0 => fun _ _ => none
  | f + 1 => fun k s =>
    if L ≤ k then some (some (bot s))
    else if op k < 8 then (if s.length < 400 then (if op k = 0 then rrun op ar st L f (k + 1) ((ar k).toInt64 :: s) else if inB (op k) 8 = true then rrun op ar st L f (k + 1) ((st (op k).toNatClampNeg).toInt64 :: s) else none) else none)
    else if op k < 17 then (match s with
      | b :: a :: t => (match rk (op k) a b with | none => some none | some v => rrun op ar st L f (k + 1) (v :: t))
      | _ => none)
    else match s with
      | a :: t => if op k = 17 then rrun op ar st L f (k + 1) ((1 - a) :: t) else if a = (if op k = 18 then 0 else 1) then (if inB (ar k) 401 = true then rrun op ar st L f (ar k).toNatClampNeg s else none) else rrun op ar st L f (k + 1) t
      | _ => none
def StkR (g : Nat → Int64) (s : List Int64) : Prop := ∀ i, i < s.length → g i = s.getD (s.length - 1 - i) 0
theorem StkR.nil {g : Nat → Int64} : StkR g [] := fun i h => absurd h (Nat.not_lt_zero i)
theorem StkR.tail {g : Nat → Int64} {a : Int64} {s : List Int64} (h : StkR g (a :: s)) : StkR g s := fun i hi => by
  have := h i (by simp; omega)
  rw [this]
  have e : (a :: s).length - 1 - i = (s.length - 1 - i) + 1 := by simp; omega
  rw [e, List.getD_cons_succ]
theorem StkR.top {g : Nat → Int64} {a : Int64} {s : List Int64} (h : StkR g (a :: s)) : g s.length = a := by
  have := h s.length (by simp)
  rw [this]
  simp
theorem StkR.push {g : Nat → Int64} {s : List Int64} (h : StkR g s) (v : Int64) : StkR (va_up g s.length v) (v :: s) := fun i hi => by
  by_cases e : i = s.length
  · subst e; rw [up_same]; simp
  · have hi2 : i < s.length := by simp at hi; omega
    rw [up_ne _ _ _ e, h i hi2]
    have e : (v :: s).length - 1 - i = (s.length - 1 - i) + 1 := by simp; omega
    rw [e, List.getD_cons_succ]
theorem StkR.bot {g : Nat → Int64} {s : List Int64} (h : StkR g s) (hs : 0 < s.length) : g 0 = bot s := by
  have := h 0 hs
  rw [this]; rfl
end
