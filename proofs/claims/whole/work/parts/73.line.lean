section
/-! the LINE of PLOTS that started and are LICENSED -/
def cnt (f : Nat → Bool) : Nat → Nat := fun n => match n with
  | 0 => 0
  | n + 1 => cnt f n + (if f n = true then 1 else 0)
theorem cnt_congr {f g : Nat → Bool} : ∀ n, (∀ o, o < n → f o = g o) → cnt f n = cnt g n := by
  intro n
  induction n with
  | zero => intro _; rfl
  | succ n ih => intro h; unfold cnt; rw [ih (fun o ho => h o (by omega)), h n (by omega)]
theorem cnt_one {f g : Nat → Bool} {p : Nat} (hf : f p = false) (hg : g p = true) (h : ∀ o, o ≠ p → f o = g o) : ∀ n, p < n → cnt g n = cnt f n + 1 := by
  intro n
  induction n with
  | zero => intro h; omega
  | succ n ih =>
    intro hp
    unfold cnt
    by_cases c : n = p
    · subst c
      rw [hf, hg, cnt_congr n (fun o ho => (h o (by omega)).symm)]
      rfl
    · rw [ih (by omega), h n c]; omega
theorem cnt_le {f : Nat → Bool} : ∀ n, cnt f n ≤ n := by
  intro n
  induction n with
  | zero => exact Nat.le_refl _
  | succ n ih => unfold cnt; split <;> omega
theorem cnt_lt {f : Nat → Bool} {p : Nat} (hf : f p = false) : ∀ n, p < n → cnt f n < n := by
  intro n
  induction n with
  | zero => intro h; omega
  | succ n ih =>
    intro hp
    unfold cnt
    by_cases c : n = p
    · subst c
      rw [hf, if_neg (by decide)]
      have := cnt_le (f := f) n
      omega
    · have := ih (by omega)
      split <;> omega
theorem cnt_0 {f : Nat → Bool} : ∀ n, (∀ o, o < n → f o = false) → cnt f n = 0 := by
  intro n
  induction n with
  | zero => intro _; rfl
  | succ n ih => intro h; unfold cnt; rw [ih (fun o ho => h o (by omega)), h n (by omega)]; rfl
theorem ahC_cnt {row : Nat → Int32} {s : Nat → Option Nat} {p : Nat} : ∀ n, ahC row s p n = cnt (sameB row s p) n := by
  intro n
  induction n with
  | zero => rfl
  | succ n ih => unfold ahC cnt; rw [ih]
/-- ahead of (w, n), in the QUARTER of w -/
def agB (row : Nat → Int32) (s : Nat → Option Nat) (w n c kn : Nat) (o : Nat) : Bool := match s o with
  | none => false
  | some a => decide (pC row o = c ∧ pK row o = kn ∧ a / 13 = w / 13 ∧ (a < w ∨ (a = w ∧ o < n)))
def agN (row : Nat → Int32) (s : Nat → Option Nat) (w n c kn : Nat) : Nat := cnt (agB row s w n c kn) (nP row)
theorem agB_same {row : Nat → Int32} {s : Nat → Option Nat} {w p : Nat} (h : s p = some w) (o : Nat) : agB row s w p (pC row p) (pK row p) o = sameB row s p o := by
  unfold agB sameB
  cases s o with
  | none => rfl
  | some a => rw [h]
theorem agB_ne {row : Nat → Int32} {s : Nat → Option Nat} {w n c kn o : Nat} (h : ¬ (s o = some w ∧ o = n ∧ pC row o = c ∧ pK row o = kn)) : agB row s w (n + 1) c kn o = agB row s w n c kn o := by
  unfold agB
  cases e : s o with
  | none => rfl
  | some a =>
    rw [e] at h
    show decide _ = decide _
    apply decide_eq_decide.mpr
    constructor
    · rintro ⟨h1, h2, h3, h4⟩
      refine ⟨h1, h2, h3, ?_⟩
      rcases h4 with h4 | ⟨h4, h5⟩
      · exact Or.inl h4
      · refine Or.inr ⟨h4, ?_⟩
        rcases Nat.lt_or_ge o n with z | z
        · exact z
        · exact absurd ⟨by rw [h4], by omega, h1, h2⟩ h
    · rintro ⟨h1, h2, h3, h4⟩
      refine ⟨h1, h2, h3, ?_⟩
      rcases h4 with h4 | ⟨h4, h5⟩
      · exact Or.inl h4
      · exact Or.inr ⟨h4, by omega⟩
theorem agN_step {row : Nat → Int32} {s : Nat → Option Nat} {w p : Nat} (hp : p < nP row) (h : s p = some w) : agN row s w (p + 1) (pC row p) (pK row p) = agN row s w p (pC row p) (pK row p) + 1 := by
  unfold agN
  refine cnt_one (p := p) ?_ ?_ (fun o ho => (agB_ne (fun q => ho q.2.1)).symm) _ hp
  · unfold agB; rw [h]; simp
  · unfold agB; rw [h]; simp
theorem agN_same {row : Nat → Int32} {s : Nat → Option Nat} {w n c kn : Nat} (h : ¬ (s n = some w ∧ pC row n = c ∧ pK row n = kn)) : agN row s w (n + 1) c kn = agN row s w n c kn := by
  unfold agN
  refine cnt_congr _ (fun o ho => agB_ne (fun q => h ?_))
  obtain ⟨q1, q2, q3, q4⟩ := q
  subst q2
  exact ⟨q1, q3, q4⟩
theorem agN_week {row : Nat → Int32} {s : Nat → Option Nat} {w c kn : Nat} : agN row s (w + 1) 0 c kn = if (w + 1) % 13 = 0 then 0 else agN row s w (nP row) c kn := by
  unfold agN
  by_cases z : (w + 1) % 13 = 0
  · rw [if_pos z]
    refine cnt_0 _ (fun o ho => ?_)
    unfold agB
    cases s o with
    | none => rfl
    | some a =>
      apply decide_eq_false
      rintro ⟨h1, h2, h3, h4⟩
      omega
  · rw [if_neg z]
    refine cnt_congr _ (fun o ho => ?_)
    unfold agB
    cases s o with
    | none => rfl
    | some a =>
      apply decide_eq_decide.mpr
      constructor
      · rintro ⟨h1, h2, h3, h4⟩; exact ⟨h1, h2, by omega, by omega⟩
      · rintro ⟨h1, h2, h3, h4⟩; exact ⟨h1, h2, by omega, by omega⟩
theorem agN_0 {row : Nat → Int32} {s : Nat → Option Nat} {c kn : Nat} : agN row s 0 0 c kn = 0 := by
  unfold agN
  refine cnt_0 _ (fun o ho => ?_)
  unfold agB
  cases s o with
  | none => rfl
  | some a =>
    apply decide_eq_false
    rintro ⟨h1, h2, h3, h4⟩
    omega
/-- LICENCES used -/
def usN (row : Nat → Int32) (k : Int32) (s : Nat → Option Nat) (w n c kn : Nat) : Nat := if (lcQ row k kn (w / 13 * 13)).1 = true then min (agN row s w n c kn) (cl (aln (lcQ row k kn (w / 13 * 13)).2.1)) else agN row s w n c kn
def linP (s : Nat → Option Nat) (lc : Nat → Bool) (w : Nat) : Nat → List Nat := fun n => match n with
  | 0 => []
  | n + 1 => if s n = some w ∧ lc n = true then linP s lc w n ++ [n] else linP s lc w n
def linW (N : Nat) (s : Nat → Option Nat) (lc : Nat → Bool) : Nat → List Nat := fun w => match w with
  | 0 => []
  | w + 1 => linW N s lc w ++ linP s lc w N
def lin (N : Nat) (s : Nat → Option Nat) (lc : Nat → Bool) (w n : Nat) : List Nat := linW N s lc w ++ linP s lc w n
def stB (s : Nat → Option Nat) (lc : Nat → Bool) (w n : Nat) (o : Nat) : Bool := match s o with
  | none => false
  | some a => lc o && decide (a < w ∨ (a = w ∧ o < n))
theorem stB_ne {s : Nat → Option Nat} {lc : Nat → Bool} {w n o : Nat} (h : ¬ (s o = some w ∧ o = n ∧ lc o = true)) : stB s lc w (n + 1) o = stB s lc w n o := by
  unfold stB
  cases e : s o with
  | none => rfl
  | some a =>
    rw [e] at h
    show (lc o && _) = (lc o && _)
    cases hl : lc o with
    | false => rfl
    | true =>
      rw [Bool.true_and, Bool.true_and]
      apply decide_eq_decide.mpr
      constructor
      · rintro (h4 | ⟨h4, h5⟩)
        · exact Or.inl h4
        · refine Or.inr ⟨h4, ?_⟩
          rcases Nat.lt_or_ge o n with z | z
          · exact z
          · exact absurd ⟨by rw [h4], by omega, hl⟩ h
      · rintro (h4 | ⟨h4, h5⟩)
        · exact Or.inl h4
        · exact Or.inr ⟨h4, by omega⟩
theorem stB_week {s : Nat → Option Nat} {lc : Nat → Bool} {w N o : Nat} (h : o < N) : stB s lc (w + 1) 0 o = stB s lc w N o := by
  unfold stB
  cases s o with
  | none => rfl
  | some a =>
    show (lc o && _) = (lc o && _)
    congr 1
    apply decide_eq_decide.mpr
    omega
theorem lin_len {N : Nat} {s : Nat → Option Nat} {lc : Nat → Bool} : ∀ w n, n ≤ N → (lin N s lc w n).length = cnt (stB s lc w n) N := by
  intro w
  induction w with
  | zero =>
    intro n
    induction n with
    | zero =>
      intro _
      rw [cnt_0]
      · rfl
      · intro o ho
        unfold stB
        cases s o with
        | none => rfl
        | some a => show (lc o && _) = false; rw [decide_eq_false (by omega), Bool.and_false]
    | succ n ih =>
      intro hn
      have e := ih (by omega)
      unfold lin at e ⊢
      unfold linP
      by_cases c : s n = some 0 ∧ lc n = true
      · rw [if_pos c, ← List.append_assoc, List.length_append, e]
        refine (cnt_one (p := n) ?_ ?_ (fun o ho => (stB_ne (fun q => ho q.2.1)).symm) _ (by omega)).symm
        · unfold stB; rw [c.1]; simp
        · unfold stB; rw [c.1]; simp [c.2]
      · rw [if_neg c, e]
        exact cnt_congr _ (fun o ho => (stB_ne (fun q => c (by obtain ⟨q1, q2, q3⟩ := q; subst q2; exact ⟨q1, q3⟩))).symm)
  | succ w ihw =>
    intro n
    induction n with
    | zero =>
      intro _
      have e := ihw N (Nat.le_refl _)
      have e2 : lin N s lc (w + 1) 0 = lin N s lc w N := by unfold lin; show linW N s lc w ++ linP s lc w N ++ [] = _; rw [List.append_nil]
      rw [e2, e]
      exact cnt_congr _ (fun o ho => (stB_week ho).symm)
    | succ n ih =>
      intro hn
      have e := ih (by omega)
      unfold lin at e ⊢
      unfold linP
      by_cases c : s n = some (w + 1) ∧ lc n = true
      · rw [if_pos c, ← List.append_assoc, List.length_append, e]
        refine (cnt_one (p := n) ?_ ?_ (fun o ho => (stB_ne (fun q => ho q.2.1)).symm) _ (by omega)).symm
        · unfold stB; rw [c.1]; simp
        · unfold stB; rw [c.1]; simp [c.2]
      · rw [if_neg c, e]
        exact cnt_congr _ (fun o ho => (stB_ne (fun q => c (by obtain ⟨q1, q2, q3⟩ := q; subst q2; exact ⟨q1, q3⟩))).symm)
theorem aln_nI {row : Nat → Int32} {k : Int32} {kn q : Nat} (hV : AV row) (hW : AW row) (hk : kn < 3) (h : (lcQ row k kn q).1 = true) : aln (lcQ row k kn q).2.1 = nI (cl (aln (lcQ row k kn q).2.1)) ∧ cl (aln (lcQ row k kn q).2.1) < 2 ^ 31 ∧ aln (lcQ row k kn q).2.1 ≠ -1 := by
  have key := cnV_max (k := k) (w := nI q) (r := 0) hV hW (QR_lic hV hW hk) (by decide)
  have h' : (fd row k (nI q) (stO 0 (nI q)) 4 (nI kn) 0 0).1 = true := h
  rw [if_pos h'] at key
  have key' : imax 0 (cnV row k (nI q) 0 4 (nI kn) 0 0) = aln (lcQ row k kn q).2.1 := key
  have nn : (0 : Int32) ≤ aln (lcQ row k kn q).2.1 := by
    rw [← key']
    unfold imax
    by_cases c : (0 : Int32) < cnV row k (nI q) 0 4 (nI kn) 0 0
    · rw [if_pos c]; rw [Int32.le_iff_toInt_le]; rw [Int32.lt_iff_toInt_lt] at c; omega
    · rw [if_neg c]; exact Int32.le_refl _
  have n0 := Int32.le_iff_toInt_le.mp nn
  have e0 : (0 : Int32).toInt = 0 := by decide
  have lt := (aln (lcQ row k kn q).2.1).toInt_lt
  have := isN.of (n := 2 ^ 31) (x := aln (lcQ row k kn q).2.1) (by omega) (by omega)
  refine ⟨this.1, this.2, fun e => ?_⟩
  rw [e] at nn; exact absurd nn (by decide)
end
