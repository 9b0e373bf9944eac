section
/-! STARTS that agree ahead of a WEEK give one line, one licence, one run so far -/
def AgW (s s' : Nat → Option Nat) (w : Nat) : Prop := ∀ p a, a < w → (s p = some a ↔ s' p = some a)
theorem AgW.sym {s s' : Nat → Option Nat} {w : Nat} (h : AgW s s' w) : AgW s' s w := fun p a ha => (h p a ha).symm
theorem AgW.le {s s' : Nat → Option Nat} {w v : Nat} (h : AgW s s' w) (hv : v ≤ w) : AgW s s' v := fun p a ha => h p a (by omega)
theorem AgW.tr {s s' s2 : Nat → Option Nat} {w : Nat} (h : AgW s s' w) (h2 : AgW s' s2 w) : AgW s s2 w := fun p a ha => (h p a ha).trans (h2 p a ha)
theorem sameB_ag {row : Nat → Int32} {s s' : Nat → Option Nat} {w p a : Nat} (h : AgW s s' w) (hp : s p = some a) (ha : a < w) (o : Nat) : sameB row s p o = sameB row s' p o := by
  have hp' := (h p a ha).mp hp
  unfold sameB
  rw [hp, hp']
  have no : ∀ b, ¬ b < w → decide (pC row o = pC row p ∧ pK row o = pK row p ∧ b / 13 = a / 13 ∧ (b < a ∨ (b = a ∧ o < p))) = false := fun b hb => decide_eq_false (fun q => by omega)
  cases e : s o with
  | none =>
    cases e' : s' o with
    | none => rfl
    | some b =>
      by_cases hb : b < w
      · have := (h o b hb).mpr e'; rw [e] at this; cases this
      · show false = decide _; rw [no b hb]
  | some a' =>
    by_cases hb : a' < w
    · rw [(h o a' hb).mp e]
    · cases e' : s' o with
      | none => show decide _ = false; exact no a' hb
      | some b =>
        by_cases hb2 : b < w
        · have := (h o b hb2).mpr e'; rw [e] at this; cases this; exact absurd hb2 hb
        · show decide _ = decide _; rw [no a' hb, no b hb2]
theorem ahC_ag {row : Nat → Int32} {s s' : Nat → Option Nat} {w p a : Nat} (h : AgW s s' w) (hp : s p = some a) (ha : a < w) : ∀ m, ahC row s p m = ahC row s' p m := by
  intro m
  induction m with
  | zero => rfl
  | succ m ih => unfold ahC; rw [ih, sameB_ag h hp ha]
theorem lic_ag {row : Nat → Int32} {k : Int32} {s s' : Nat → Option Nat} {w p a : Nat} (h : AgW s s' w) (hp : s p = some a) (ha : a < w) : lic row k s p = lic row k s' p := by
  unfold lic
  rw [hp, (h p a ha).mp hp]
  show (if _ then _ else _) = (if _ then _ else _)
  rw [ahC_ag h hp ha]
theorem linP_s {s : Nat → Option Nat} {lc : Nat → Bool} {w n : Nat} : linP s lc w (n + 1) = if s n = some w ∧ lc n = true then linP s lc w n ++ [n] else linP s lc w n := rfl
theorem linP_z {s : Nat → Option Nat} {lc : Nat → Bool} {w : Nat} : linP s lc w 0 = [] := rfl
theorem linW_s {N : Nat} {s : Nat → Option Nat} {lc : Nat → Bool} {w : Nat} : linW N s lc (w + 1) = linW N s lc w ++ linP s lc w N := rfl
theorem linW_z {N : Nat} {s : Nat → Option Nat} {lc : Nat → Bool} : linW N s lc 0 = [] := rfl
theorem rnS_s {row : Nat → Int32} {k lt_ : Int32} {s : Nat → Option Nat} {lc : Nat → Bool} {a j : Nat} {R : Nat → Nat → Int32} : rnS row k lt_ s lc a R (j + 1) = gwR row k lt_ s lc (a + j) (rnS row k lt_ s lc a R j) := rfl
theorem rnS_z {row : Nat → Int32} {k lt_ : Int32} {s : Nat → Option Nat} {lc : Nat → Bool} {a : Nat} {R : Nat → Nat → Int32} : rnS row k lt_ s lc a R 0 = R := rfl
theorem linP_ag {row : Nat → Int32} {k : Int32} {s s' : Nat → Option Nat} {w v : Nat} (h : AgW s s' w) (hv : v < w) : ∀ n, linP s (lic row k s) v n = linP s' (lic row k s') v n := by
  intro n
  induction n with
  | zero => rw [linP_z, linP_z]
  | succ n ih =>
    rw [linP_s, linP_s, ih]
    by_cases c : s n = some v
    · have c' := (h n v hv).mp c
      rw [lic_ag h c hv]
      by_cases d : lic row k s' n = true
      · rw [if_pos ⟨c, d⟩, if_pos ⟨c', d⟩]
      · rw [if_neg (fun q => d q.2), if_neg (fun q => d q.2)]
    · rw [if_neg (fun q => c q.1), if_neg (fun q => c ((h n v hv).mpr q.1))]
theorem linW_ag {row : Nat → Int32} {k : Int32} {s s' : Nat → Option Nat} {N : Nat} : ∀ w, AgW s s' w → linW N s (lic row k s) w = linW N s' (lic row k s') w := by
  intro w
  induction w with
  | zero => intro _; rw [linW_z, linW_z]
  | succ w ih => intro h; rw [linW_s, linW_s, ih (h.le (Nat.le_succ w)), linP_ag h (Nat.lt_succ_self w)]
theorem stB_ag {row : Nat → Int32} {k : Int32} {s s' : Nat → Option Nat} {w p : Nat} (h : AgW s s' w) : stB s (lic row k s) w 0 p = stB s' (lic row k s') w 0 p := by
  have key : ∀ t : Nat → Option Nat, stB t (lic row k t) w 0 p = match t p with | none => false | some a => (lic row k t p && decide (a < w)) := fun t => by
    unfold stB
    cases t p with
    | none => rfl
    | some a =>
      show (_ && decide _) = (_ && decide _)
      rw [show decide (a < w ∨ (a = w ∧ p < 0)) = decide (a < w) from decide_eq_decide.mpr ⟨fun q => by omega, fun q => Or.inl q⟩]
  rw [key, key]
  cases e : s p with
  | none =>
    cases e' : s' p with
    | none => rfl
    | some b =>
      by_cases hb : b < w
      · have := (h p b hb).mpr e'; rw [e] at this; cases this
      · show false = (_ && decide _); rw [decide_eq_false hb, Bool.and_false]
  | some a =>
    by_cases ha : a < w
    · rw [(h p a ha).mp e]
      show (_ && _) = (_ && _)
      rw [lic_ag h e ha]
    · cases e' : s' p with
      | none => show (_ && decide _) = false; rw [decide_eq_false ha, Bool.and_false]
      | some b =>
        by_cases hb : b < w
        · have := (h p b hb).mpr e'; rw [e] at this; cases this; exact absurd hb ha
        · show (_ && decide _) = (_ && decide _); rw [decide_eq_false ha, decide_eq_false hb, Bool.and_false, Bool.and_false]
theorem agB_ag {row : Nat → Int32} {s s' : Nat → Option Nat} {w c kn : Nat} (h : AgW s s' w) (o : Nat) : agB row s w 0 c kn o = agB row s' w 0 c kn o := by
  have no : ∀ b, ¬ b < w → decide (pC row o = c ∧ pK row o = kn ∧ b / 13 = w / 13 ∧ (b < w ∨ (b = w ∧ o < 0))) = false := fun b hb => decide_eq_false (fun q => by omega)
  unfold agB
  cases e : s o with
  | none =>
    cases e' : s' o with
    | none => rfl
    | some b =>
      by_cases hb : b < w
      · have := (h o b hb).mpr e'; rw [e] at this; cases this
      · show false = decide _; rw [no b hb]
  | some a =>
    by_cases ha : a < w
    · rw [(h o a ha).mp e]
    · cases e' : s' o with
      | none => show decide _ = false; exact no a ha
      | some b =>
        by_cases hb : b < w
        · have := (h o b hb).mpr e'; rw [e] at this; cases this; exact absurd hb ha
        · show decide _ = decide _; rw [no a ha, no b hb]
theorem usN_ag {row : Nat → Int32} {k : Int32} {s s' : Nat → Option Nat} {w c kn : Nat} (h : AgW s s' w) : usN row k s w 0 c kn = usN row k s' w 0 c kn := by
  have e : agN row s w 0 c kn = agN row s' w 0 c kn := by unfold agN; exact cnt_congr _ (fun o _ => agB_ag h o)
  unfold usN
  rw [e]
theorem SiI_ag {row : Nat → Int32} {k : Int32} {s s' : Nat → Option Nat} {b w : Nat} {R : Nat → Nat → Int32} {σ : AH} (h : AgW s s' w) (hI : SiI row k s b w R σ) : SiI row k s' b w R σ := by
  obtain ⟨a1, a2, a3, a4, ⟨b1, b2', b3⟩, b4⟩ := hI
  have el : lin (nP row) s (lic row k s) w 0 = lin (nP row) s' (lic row k s') w 0 := by
    unfold lin
    rw [linW_ag w h, linP_z, linP_z]
  refine ⟨a1, a2, a3, a4, ⟨?_, ?_, ?_⟩, ?_⟩
  · rw [← el]; exact b1
  · rw [← el]; exact b2'
  · intro p hp; rw [b3 p hp, stB_ag h]
  · rcases b4 with z | z
    · exact Or.inl z
    · exact Or.inr (fun c kn hc hk => by rw [z c kn hc hk, usN_ag h])
theorem gwR_ag {row : Nat → Int32} {k lt_ : Int32} {s s' : Nat → Option Nat} {w : Nat} {R : Nat → Nat → Int32} (hN : nP row ≤ 30) (hs : ∀ p w, s p = some w → w < 260) (hs' : ∀ p w, s' p = some w → w < 260) (h : AgW s s' (w + 1)) : gwR row k lt_ s (lic row k s) w R = gwR row k lt_ s' (lic row k s') w R := by
  have e144 : jzS (va_up (va_up R 142 (wkS row (nI w) (dvS row k lt_ (nI w) (R 142) (nD row)) (nW row))) 143 (fun c => gg row k (nI c) (nI w))) (nP row) 144 = R 144 := by
    rw [jzS_row (by decide), up_ne _ _ _ (by decide), up_ne _ _ _ (by decide)]
  have t1 := (turns_gw (k := k) (fi := firstV row k w) (s := s) (lc := lic row k s) (w := w) (R := R) hN hs e144).2
  have t2 := (turns_gw (k := k) (fi := firstV row k w) (s := s') (lc := lic row k s') (w := w) (R := R) hN hs' e144).2
  rw [linW_ag (w + 1) h] at t1
  unfold gwR
  rw [← t1, ← t2]
theorem rnS_ag {row : Nat → Int32} {k lt_ : Int32} {s s' : Nat → Option Nat} {a : Nat} {R : Nat → Nat → Int32} (hN : nP row ≤ 30) (hs : ∀ p w, s p = some w → w < 260) (hs' : ∀ p w, s' p = some w → w < 260) : ∀ j, AgW s s' (a + j) → rnS row k lt_ s (lic row k s) a R j = rnS row k lt_ s' (lic row k s') a R j := by
  intro j
  induction j with
  | zero => intro _; rw [rnS_z, rnS_z]
  | succ j ih =>
    intro h
    have h' : AgW s s' (a + j + 1) := h
    rw [rnS_s, rnS_s, ih (h.le (by omega)), gwR_ag hN hs hs' h']
/-! a PLOT that does not START stays as it was -/
theorem gwF_off {row : Nat → Int32} {k : Int32} {w x : Nat} : ∀ (L : List Nat) (R : Nat → Nat → Int32), x ∉ L → gwF row k w L R 144 x = R 144 x := by
  intro L
  induction L with
  | nil => intro R _; rfl
  | cons y L ih =>
    intro R h
    have h1 : x ≠ y := fun e => h (by rw [e]; exact List.mem_cons_self ..)
    have h2 : x ∉ L := fun q => h (List.mem_cons_of_mem _ q)
    show gwF row k w L (gpR row k w y R) 144 x = _
    rw [ih _ h2]
    exact gp_frame h1 (by omega) 4 R
theorem ordS_on {row : Nat → Int32} {s : Nat → Option Nat} {lc : Nat → Bool} {R : Nat → Nat → Int32} {w : Nat} {fi : Int32} : ∀ n x, x ∈ ordS row s lc R w fi n → onP row s lc R w x = true := by
  intro n
  induction n with
  | zero => intro x hx; unfold ordS at hx; cases hx
  | succ n ih =>
    intro x hx
    unfold ordS at hx
    by_cases c : onP row s lc R w n = true
    · rw [if_pos c] at hx
      rcases insR_mem _ _ hx with e | e
      · rw [e]; exact c
      · exact ih x e
    · rw [if_neg c] at hx; exact ih x hx
theorem gwR_off {row : Nat → Int32} {k lt_ : Int32} {s : Nat → Option Nat} {lc : Nat → Bool} {w x : Nat} {R : Nat → Nat → Int32} (h : s x = none) : gwR row k lt_ s lc w R 144 x = R 144 x := by
  unfold gwR
  rw [gwF_off]
  · rw [jzS_row (by decide), up_ne _ _ _ (by decide), up_ne _ _ _ (by decide)]
  · intro q
    have := ordS_on _ x (List.mem_reverse.mp q)
    unfold onP at this
    rw [h] at this
    cases this
theorem rnS_off {row : Nat → Int32} {k lt_ : Int32} {s : Nat → Option Nat} {lc : Nat → Bool} {a x : Nat} {R : Nat → Nat → Int32} (h : s x = none) : ∀ j, rnS row k lt_ s lc a R j 144 x = R 144 x := by
  intro j
  induction j with
  | zero => rw [rnS_z]
  | succ j ih => rw [rnS_s, gwR_off h, ih]
end
