section
/-! THE METHODS AS FUNCTIONS: F_<method> args heap : Option (answer × heap); none = the machine would throw, or the loop's fuel BIG is used up -/
def BIG : Nat := 1000000000
def bd {α β : Type} (x : Option (α × AH)) (f : α → AH → Option β) : Option β := match x with | none => none | some q => f q.1 q.2
def bv {β : Type} (x : Option AH) (f : AH → Option β) : Option β := match x with | none => none | some q => f q
def bo {β : Type} (x : Option Nat) (f : Nat → Option β) : Option β := match x with | none => none | some q => f q
def on {β : Type} (x : Option Nat) (a : Option β) (f : Nat → Option β) : Option β := match x with | none => a | some q => f q
def lt {β : Type} (s : AH) (f : AH → Option β) : Option β := f s
theorem of_bd {α β : Type} {x : Option (α × AH)} {f : α → AH → Option β} {y : β} (h : bd x f = some y) : ∃ v s, x = some (v, s) ∧ f v s = some y := by
  cases x with
  | none => cases h
  | some q => exact ⟨q.1, q.2, rfl, h⟩
theorem of_bv {β : Type} {x : Option AH} {f : AH → Option β} {y : β} (h : bv x f = some y) : ∃ s, x = some s ∧ f s = some y := by
  cases x with
  | none => cases h
  | some q => exact ⟨q, rfl, h⟩
theorem of_bo {β : Type} {x : Option Nat} {f : Nat → Option β} {y : β} (h : bo x f = some y) : ∃ s, x = some s ∧ f s = some y := by
  cases x with
  | none => cases h
  | some q => exact ⟨q, rfl, h⟩
theorem of_on0 {β : Type} {x : Option Nat} {a : Option β} {f : Nat → Option β} {y : β} (h : on x a f = some y) (e : x = none) : a = some y := by subst e; exact h
theorem of_on1 {β : Type} {x : Option Nat} {a : Option β} {f : Nat → Option β} {y : β} {b : Nat} (h : on x a f = some y) (e : x = some b) : f b = some y := by subst e; exact h
theorem of_lt {β : Type} {s t : AH} {f : AH → Option β} {y : Option β} (h : lt s f = y) (e : t = s) : f t = y := by subst e; exact h
theorem of_gd {P : Prop} [Decidable P] {β : Type} {x : Option β} {y : β} (h : (if P then x else none) = some y) : P ∧ x = some y := by
  by_cases p : P
  · rw [if_pos p] at h; exact ⟨p, h⟩
  · rw [if_neg p] at h; cases h
theorem of_ifp {c : Prop} [Decidable c] {β : Type} {x y z : Option β} (h : (if c then x else y) = z) (p : c) : x = z := by rw [if_pos p] at h; exact h
theorem of_ifn {c : Prop} [Decidable c] {β : Type} {x y z : Option β} (h : (if c then x else y) = z) (p : ¬ c) : y = z := by rw [if_neg p] at h; exact h
theorem ret_i {a v : Int32} {s t : AH} (h : some (a, s) = some (v, t)) : (some (Value.int v) = some (Value.int a) ∧ t = s) := by cases h; exact ⟨rfl, rfl⟩
theorem ret_l {a v : Int64} {s t : AH} (h : some (a, s) = some (v, t)) : (some (Value.long v) = some (Value.long a) ∧ t = s) := by cases h; exact ⟨rfl, rfl⟩
theorem ret_r {a v : Nat} {s t : AH} (h : some (a, s) = some (v, t)) : (some (Value.ref v) = some (Value.ref a) ∧ t = s) := by cases h; exact ⟨rfl, rfl⟩
theorem ret_v {s t : AH} (h : some s = some t) : ((none : Option Value) = none ∧ t = s) := by cases h; exact ⟨rfl, rfl⟩
theorem ite_i {c : Prop} [Decidable c] {A B : Prop} (h1 : c → A) (h2 : ¬ c → B) : if c then A else B := by
  by_cases p : c
  · rw [if_pos p]; exact h1 p
  · rw [if_neg p]; exact h2 p
theorem bif_i {c : Prop} {A B : Prop} (h1 : c → A) (h2 : ¬ c → B) : (c → A) ∧ (¬ c → B) := ⟨h1, h2⟩
def inB (i : Int32) (n : Nat) : Bool := decide (¬ (i < 0 ∨ n ≤ i.toNatClampNeg))
theorem inB_mp {i : Int32} {n : Nat} (h : inB i n = true) : vp_in i n := vp_lit h
theorem inB_n {j n : Nat} (h : j < n) (hn : n < 2 ^ 31) : inB (nI j) n = true := decide_eq_true (nI_in h hn)
def alB (f : MI) (i : Nat) : Bool := f.2.2.2.2.1.contains i || (f.2.2.2.2.2 && decide (166 ≤ i))
theorem alB_mp {f : MI} {i : Nat} (h : alB f i = true) : al f i := by
  simp only [alB, Bool.or_eq_true, Bool.and_eq_true, decide_eq_true_eq] at h
  exact h
def shOK (o k : Nat) : Bool := shRL.all (fun q => !(q.1 == o && q.2.1 == k))
theorem shOK_mp {σ : AH} {o k : Nat} {v : Option Nat} (h : shOK o k = true) (hs : Sh σ) : Sh (sR σ o k v) := by
  refine Sh_sR hs fun q hq e => ?_
  have := List.all_eq_true.mp h q hq
  simp [e.1, e.2] at this
/-- as long as things are made, nothing is ever written anew -/
def shOX (σ : AH) (o k : Nat) : Bool := shOK o k || decide (nx σ < 166) || (gR σ o k).isNone
theorem shOX_mp {σ : AH} {o k : Nat} {v : Option Nat} (h : shOX σ o k = true) (hs : Sh σ) : Sh (sR σ o k v) := by
  simp only [shOX, Bool.or_eq_true, decide_eq_true_eq] at h
  rcases h with (h | h) | h
  · exact shOK_mp h hs
  · exact absurd hs.1 (by omega)
  · have hn : gR σ o k = none := Option.isNone_iff_eq_none.mp h
    refine shOK_mp (List.all_eq_true.mpr fun q hq => ?_) hs
    have e := hs.2.2 q hq
    cases e1 : (q.1 == o && q.2.1 == k) with
    | false => rfl
    | true =>
      rw [Bool.and_eq_true, beq_iff_eq, beq_iff_eq] at e1
      rw [e1.1, e1.2, hn] at e
      cases e
theorem shOK_new {o k : Nat} (h : 166 ≤ o) : shOK o k = true := by
  refine List.all_eq_true.mpr fun q hq => ?_
  have := shRL_lt q hq
  have h2 : (q.1 == o) = false := by simp; omega
  simp [h2]
def F_J0_length_8abf5 (i : Nat) (σ : AH) : Option (Int32 × AH) := some (nI (st_len.getD i 0), σ)
def F_J0_charAt_5068e (i : Nat) (k : Int32) (σ : AH) : Option (Int32 × AH) := if inB k (st_len.getD i 0) = true then some ((st_byt.getD i []).getD k.toNatClampNeg 0, σ) else none
def F_J7_copyOf_59c91 (b : Nat) (n : Int32) (σ : AH) : Option (Nat × AH) := if (kd σ b).1 = 100 ∧ b < nx σ then (if ¬ n < 0 ∧ n.toNatClampNeg ≤ 2000000 ∧ (kd σ b).2 ≤ 2000000 ∧ 166 ≤ nx σ then some (nx σ, sA (aw σ 100 n.toNatClampNeg) (nx σ) (fun j => if j < (kd σ b).2 ∧ j < n.toNatClampNeg then gI σ b j else 0)) else none) else none
theorem f_J0_length_8abf5 {X : Sx} {l : Launch} {i : Nat} {σ : AH} {v : Int32} {σ' : AH} (hi : i < 12) (h : F_J0_length_8abf5 i σ = some (v, σ')) : Call X l m_J0_length_8abf5 3 [.ref (1000001 + i)] σ (some (.int v)) σ' := by
  unfold F_J0_length_8abf5 at h
  cases h
  exact call_len (by decide) hi
theorem f_J0_charAt_5068e {X : Sx} {l : Launch} {i : Nat} {k : Int32} {σ : AH} {v : Int32} {σ' : AH} (hi : i < 12) (h : F_J0_charAt_5068e i k σ = some (v, σ')) : Call X l m_J0_charAt_5068e 6 [.ref (1000001 + i), .int k] σ (some (.int v)) σ' := by
  unfold F_J0_charAt_5068e at h
  obtain ⟨c, h⟩ := of_gd h
  cases h
  exact call_chr (by decide) hi (inB_mp c)
theorem f_J7_copyOf_59c91 {X : Sx} {l : Launch} {b : Nat} {n : Int32} {σ : AH} {v : Nat} {σ' : AH} (h : F_J7_copyOf_59c91 b n σ = some (v, σ')) : Call X l m_J7_copyOf_59c91 4 [.ref b, .int n] σ (some (.ref v)) σ' := by
  unfold F_J7_copyOf_59c91 at h
  obtain ⟨⟨a1, a2⟩, h⟩ := of_gd h
  obtain ⟨⟨b0, b1, b2', b3⟩, h⟩ := of_gd h
  cases h
  exact call_cpy (by decide) (show kd σ b = (100, (kd σ b).2) from Prod.ext a1 rfl) a2 b0 b1 b2' b3
end
