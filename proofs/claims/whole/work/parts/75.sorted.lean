section
/-! one order: the line of the class by its two turns, and the order of the reference -/
theorem sorted_unique {ky : Nat → Nat} : ∀ A B : List Nat, A.Pairwise (fun x y => ky x < ky y) → B.Pairwise (fun x y => ky x < ky y) → (∀ x, x ∈ A ↔ x ∈ B) → A = B := by
  intro A
  induction A with
  | nil =>
    intro B _ _ h
    cases B with
    | nil => rfl
    | cons b B => exact absurd ((h b).mpr List.mem_cons_self) (by simp)
  | cons a A ih =>
    intro B hA hB h
    cases B with
    | nil => exact absurd ((h a).mp List.mem_cons_self) (by simp)
    | cons b B =>
      obtain ⟨a1, a2⟩ := List.pairwise_cons.mp hA
      obtain ⟨b1, b2'⟩ := List.pairwise_cons.mp hB
      have e : a = b := by
        by_cases c : a = b
        · exact c
        · have h1 := (h a).mp List.mem_cons_self
          have h2 := (h b).mpr List.mem_cons_self
          rcases List.mem_cons.mp h1 with q | q
          · exact q
          · rcases List.mem_cons.mp h2 with r | r
            · exact r.symm
            · have := a1 b r
              have := b1 a q
              omega
      subst e
      rw [ih B a2 b2' (fun x => ⟨fun hx => by
        have := (h x).mp (List.mem_cons_of_mem _ hx)
        rcases List.mem_cons.mp this with q | q
        · have := a1 x hx; rw [q] at this; omega
        · exact q, fun hx => by
        have := (h x).mpr (List.mem_cons_of_mem _ hx)
        rcases List.mem_cons.mp this with q | q
        · have := b1 x hx; rw [q] at this; omega
        · exact q⟩)]
theorem insR_mem' {ah : Nat → Bool} {p : Nat} (r : List Nat) : ∀ x, x ∈ insR ah p r ↔ x = p ∨ x ∈ r := by
  intro x
  refine ⟨insR_mem r x, ?_⟩
  induction r with
  | nil =>
    rintro (h | h)
    · rw [h]; exact List.mem_singleton.mpr rfl
    · exact absurd h (by simp)
  | cons y t ih =>
    intro h
    unfold insR
    split
    · rcases h with h | h
      · exact List.mem_cons_of_mem _ (ih (Or.inl h))
      · rcases List.mem_cons.mp h with q | q
        · rw [q]; exact List.mem_cons_self
        · exact List.mem_cons_of_mem _ (ih (Or.inr q))
    · rcases h with h | h
      · rw [h]; exact List.mem_cons_self
      · exact List.mem_cons_of_mem _ h
theorem insR_sorted {ky : Nat → Nat} {ah : Nat → Bool} {p : Nat} : ∀ r : List Nat, r.Pairwise (fun x y => ky y < ky x) → (∀ x, x ∈ r → ah x = decide (ky p < ky x)) → (∀ x, x ∈ r → ky x ≠ ky p) → (insR ah p r).Pairwise (fun x y => ky y < ky x) := by
  intro r
  induction r with
  | nil => intro _ _ _; unfold insR; exact List.pairwise_singleton _ _
  | cons x t ih =>
    intro hr ha hn
    obtain ⟨r1, r2⟩ := List.pairwise_cons.mp hr
    unfold insR
    rw [ha x List.mem_cons_self]
    by_cases c : ky p < ky x
    · rw [if_pos (decide_eq_true c)]
      refine List.pairwise_cons.mpr ⟨fun y hy => ?_, ih r2 (fun y hy => ha y (List.mem_cons_of_mem _ hy)) (fun y hy => hn y (List.mem_cons_of_mem _ hy))⟩
      rcases (insR_mem' t y).mp hy with q | q
      · rw [q]; exact c
      · exact r1 y q
    · rw [if_neg (by rw [decide_eq_false c]; decide)]
      have := hn x List.mem_cons_self
      refine List.pairwise_cons.mpr ⟨fun y hy => ?_, hr⟩
      rcases List.mem_cons.mp hy with q | q
      · rw [q]; omega
      · have := r1 y q; omega
def stK (s : Nat → Option Nat) (p : Nat) : Nat := match s p with
  | none => 0
  | some a => 30 * a + p
def ky (row : Nat → Int32) (s : Nat → Option Nat) (fi : Int32) (p : Nat) : Nat := (if nI (pK row p) = fi then 0 else 10000) + stK s p
theorem ahB_ky {row : Nat → Int32} {s : Nat → Option Nat} {fi : Int32} {p x a c : Nat} (hp : p < 30) (hx : x < 30) (ha : s p = some a) (hc : s x = some c) (la : a < 260) (lc : c < 260) : ahB row s fi p x = decide (ky row s fi p < ky row s fi x) := by
  have kp : stK s p = 30 * a + p := by unfold stK; rw [ha]
  have kx : stK s x = 30 * c + x := by unfold stK; rw [hc]
  unfold ahB ky
  rw [kp, kx, ha, hc]
  have oe : (oI (some a) = oI (some c)) ↔ a = c := by
    refine ⟨fun q => ?_, fun q => by rw [q]⟩
    have q' : nI a = nI c := q
    have := congrArg cl q'
    rw [show cl (nI a) = a from nI_clamp (by omega), show cl (nI c) = c from nI_clamp (by omega)] at this
    exact this
  have ol : (oI (some c) ≤ oI (some a)) ↔ c ≤ a := nI_leI (by omega) (by omega)
  by_cases c1 : nI (pK row p) = fi <;> by_cases c2 : nI (pK row x) = fi
  · rw [decide_eq_true c1, decide_eq_true c2, if_pos rfl, if_pos c1, if_pos c2]
    by_cases e : a = c
    · rw [if_pos (oe.mpr e)]; apply decide_eq_decide.mpr; omega
    · rw [if_neg (fun q => e (oe.mp q))]; apply decide_eq_decide.mpr; rw [ol]; omega
  · rw [decide_eq_true c1, decide_eq_false c2, if_neg (by decide), if_pos c1, if_neg c2]
    symm; apply decide_eq_true; omega
  · rw [decide_eq_false c1, decide_eq_true c2, if_neg (by decide), if_neg c1, if_pos c2]
    symm; apply decide_eq_false; omega
  · rw [decide_eq_false c1, decide_eq_false c2, if_pos rfl, if_neg c1, if_neg c2]
    by_cases e : a = c
    · rw [if_pos (oe.mpr e)]; apply decide_eq_decide.mpr; omega
    · rw [if_neg (fun q => e (oe.mp q))]; apply decide_eq_decide.mpr; rw [ol]; omega
theorem ordS_mem' {row : Nat → Int32} {s : Nat → Option Nat} {lc : Nat → Bool} {R : Nat → Nat → Int32} {w : Nat} {fi : Int32} : ∀ n x, x ∈ ordS row s lc R w fi n ↔ x < n ∧ onP row s lc R w x = true := by
  intro n
  induction n with
  | zero => intro x; exact ⟨fun h => absurd h (by unfold ordS; simp), fun h => absurd h.1 (by omega)⟩
  | succ n ih =>
    intro x
    unfold ordS
    by_cases c : onP row s lc R w n = true
    · rw [if_pos c, insR_mem', ih]
      constructor
      · rintro (h | h)
        · rw [h]; exact ⟨by omega, c⟩
        · exact ⟨by omega, h.2⟩
      · rintro ⟨h1, h2⟩
        by_cases e : x = n
        · exact Or.inl e
        · exact Or.inr ⟨by omega, h2⟩
    · rw [if_neg c, ih]
      constructor
      · rintro ⟨h1, h2⟩; exact ⟨by omega, h2⟩
      · rintro ⟨h1, h2⟩
        by_cases e : x = n
        · subst e; exact absurd h2 c
        · exact ⟨by omega, h2⟩
theorem onP_some {row : Nat → Int32} {s : Nat → Option Nat} {lc : Nat → Bool} {R : Nat → Nat → Int32} {w p : Nat} (h : onP row s lc R w p = true) : ∃ a, s p = some a := by
  unfold onP at h
  cases e : s p with
  | none => rw [e] at h; cases h
  | some a => exact ⟨a, rfl⟩
theorem ordS_sorted {row : Nat → Int32} {s : Nat → Option Nat} {lc : Nat → Bool} {R : Nat → Nat → Int32} {w : Nat} {fi : Int32} (hs : ∀ p w, s p = some w → w < 260) : ∀ n, n ≤ 30 → (ordS row s lc R w fi n).Pairwise (fun x y => ky row s fi y < ky row s fi x) := by
  intro n
  induction n with
  | zero => intro _; exact List.Pairwise.nil
  | succ n ih =>
    intro hn
    unfold ordS
    by_cases c : onP row s lc R w n = true
    · rw [if_pos c]
      obtain ⟨a, ha⟩ := onP_some c
      refine insR_sorted _ (ih (by omega)) (fun x hx => ?_) (fun x hx => ?_)
      · obtain ⟨x1, x2⟩ := (ordS_mem' n x).mp hx
        obtain ⟨d, hd⟩ := onP_some x2
        exact ahB_ky (by omega) (by omega) ha hd (hs _ _ ha) (hs _ _ hd)
      · obtain ⟨x1, x2⟩ := (ordS_mem' n x).mp hx
        obtain ⟨d, hd⟩ := onP_some x2
        have := hs _ _ ha
        have := hs _ _ hd
        unfold ky stK
        rw [ha, hd]
        show _ + (30 * d + x) ≠ _ + (30 * a + n)
        split <;> split <;> omega
    · rw [if_neg c]; exact ih (by omega)
theorem linP_mem {s : Nat → Option Nat} {lc : Nat → Bool} {w : Nat} : ∀ n x, x ∈ linP s lc w n ↔ x < n ∧ s x = some w ∧ lc x = true := by
  intro n
  induction n with
  | zero => intro x; exact ⟨fun h => absurd h (by unfold linP; simp), fun h => absurd h.1 (by omega)⟩
  | succ n ih =>
    intro x
    unfold linP
    by_cases c : s n = some w ∧ lc n = true
    · rw [if_pos c, List.mem_append, ih, List.mem_singleton]
      constructor
      · rintro (h | h)
        · exact ⟨by omega, h.2⟩
        · rw [h]; exact ⟨by omega, c⟩
      · rintro ⟨h1, h2⟩
        by_cases e : x = n
        · exact Or.inr e
        · exact Or.inl ⟨by omega, h2⟩
    · rw [if_neg c, ih]
      constructor
      · rintro ⟨h1, h2⟩; exact ⟨by omega, h2⟩
      · rintro ⟨h1, h2⟩
        by_cases e : x = n
        · subst e; exact absurd h2 c
        · exact ⟨by omega, h2⟩
theorem linW_mem {N : Nat} {s : Nat → Option Nat} {lc : Nat → Bool} : ∀ w x, x ∈ linW N s lc w ↔ x < N ∧ (∃ a, a < w ∧ s x = some a) ∧ lc x = true := by
  intro w
  induction w with
  | zero => intro x; exact ⟨fun h => absurd h (by unfold linW; simp), fun ⟨_, ⟨a, h, _⟩, _⟩ => absurd h (by omega)⟩
  | succ w ih =>
    intro x
    unfold linW
    rw [List.mem_append, ih, linP_mem]
    constructor
    · rintro (⟨h1, ⟨a, h2, h3⟩, h4⟩ | ⟨h1, h2, h3⟩)
      · exact ⟨h1, ⟨a, by omega, h3⟩, h4⟩
      · exact ⟨h1, ⟨w, by omega, h2⟩, h3⟩
    · rintro ⟨h1, ⟨a, h2, h3⟩, h4⟩
      by_cases e : a = w
      · subst e; exact Or.inr ⟨h1, h3, h4⟩
      · exact Or.inl ⟨h1, ⟨a, by omega, h3⟩, h4⟩
theorem linP_sorted {s : Nat → Option Nat} {lc : Nat → Bool} {w : Nat} : ∀ n, (linP s lc w n).Pairwise (fun x y => stK s x < stK s y) := by
  intro n
  induction n with
  | zero => exact List.Pairwise.nil
  | succ n ih =>
    unfold linP
    by_cases c : s n = some w ∧ lc n = true
    · rw [if_pos c]
      refine List.pairwise_append.mpr ⟨ih, List.pairwise_singleton _ _, fun x hx y hy => ?_⟩
      rw [List.mem_singleton.mp hy]
      obtain ⟨x1, x2, x3⟩ := (linP_mem n x).mp hx
      unfold stK
      rw [x2, c.1]
      show 30 * w + x < 30 * w + n
      omega
    · rw [if_neg c]; exact ih
theorem linW_sorted {N : Nat} {s : Nat → Option Nat} {lc : Nat → Bool} (hN : N ≤ 30) : ∀ w, (linW N s lc w).Pairwise (fun x y => stK s x < stK s y) := by
  intro w
  induction w with
  | zero => exact List.Pairwise.nil
  | succ w ih =>
    unfold linW
    refine List.pairwise_append.mpr ⟨ih, linP_sorted N, fun x hx y hy => ?_⟩
    obtain ⟨x1, ⟨a, x2, x3⟩, x4⟩ := (linW_mem w x).mp hx
    obtain ⟨y1, y2, y3⟩ := (linP_mem N y).mp hy
    unfold stK
    rw [x3, y2]
    show 30 * a + x < 30 * w + y
    omega
/-- the two turns of the class are the order of the reference -/
theorem turns_ord {row : Nat → Int32} {s : Nat → Option Nat} {lc : Nat → Bool} {R : Nat → Nat → Int32} {w : Nat} {fi : Int32} (hN : nP row ≤ 30) (hs : ∀ p w, s p = some w → w < 260) :
    (ordS row s lc R w fi (nP row)).reverse = ((linW (nP row) s lc (w + 1)).filter (fun p => decide (nI (pK row p) = fi)) ++ (linW (nP row) s lc (w + 1)).filter (fun p => !decide (nI (pK row p) = fi))).filter (fun p => onP row s lc R w p) := by
  have hl := linW_sorted (s := s) (lc := lc) hN (w + 1)
  have b : ∀ x, x ∈ linW (nP row) s lc (w + 1) → stK s x < 10000 := fun x hx => by
    obtain ⟨x1, ⟨a, x2, x3⟩, x4⟩ := (linW_mem _ x).mp hx
    have := hs _ _ x3
    unfold stK; rw [x3]; show 30 * a + x < 10000; omega
  refine sorted_unique (ky := ky row s fi) _ _ ?_ ?_ (fun x => ?_)
  · exact List.pairwise_reverse.mpr (ordS_sorted hs _ hN)
  · refine List.Pairwise.filter _ (List.pairwise_append.mpr ⟨?_, ?_, ?_⟩)
    · refine List.Pairwise.imp_of_mem (fun {x y} hx hy h => ?_) (hl.filter _)
      have h1 := (List.mem_filter.mp hx).2
      have h2 := (List.mem_filter.mp hy).2
      unfold ky
      rw [if_pos (of_decide_eq_true h1), if_pos (of_decide_eq_true h2)]; omega
    · refine List.Pairwise.imp_of_mem (fun {x y} hx hy h => ?_) (hl.filter _)
      have h1 := (List.mem_filter.mp hx).2
      have h2 := (List.mem_filter.mp hy).2
      unfold ky
      rw [if_neg (by simpa using h1), if_neg (by simpa using h2)]; omega
    · intro x hx y hy
      have h1 := List.mem_filter.mp hx
      have h2 := List.mem_filter.mp hy
      have := b x h1.1
      unfold ky
      rw [if_pos (of_decide_eq_true h1.2), if_neg (by simpa using h2.2)]; omega
  · rw [List.mem_reverse, ordS_mem', List.mem_filter, List.mem_append, List.mem_filter, List.mem_filter, linW_mem]
    constructor
    · rintro ⟨h1, h2⟩
      refine ⟨?_, h2⟩
      have h3 := h2
      unfold onP at h3
      cases e : s x with
      | none => rw [e] at h3; cases h3
      | some a =>
        rw [e] at h3
        obtain ⟨g1, g2, g3, g4⟩ := of_decide_eq_true h3
        by_cases c : nI (pK row x) = fi
        · exact Or.inl ⟨⟨h1, ⟨a, by omega, rfl⟩, g3⟩, decide_eq_true c⟩
        · exact Or.inr ⟨⟨h1, ⟨a, by omega, rfl⟩, g3⟩, by simp [c]⟩
    · rintro ⟨h1 | h1, h2⟩
      · exact ⟨h1.1.1, h2⟩
      · exact ⟨h1.1.1, h2⟩
end
