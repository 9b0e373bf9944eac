section
/-! two WEEKS in which just the same is known have one RUN -/
def KE (row : Nat → Int32) (k k' : Int32) : Prop := (∀ a, a < nA row → (k < row (20 + 947 * a + 1) ↔ k' < row (20 + 947 * a + 1))) ∧ (∀ d, d < nD row → (k < dv row d 3 ↔ k' < dv row d 3)) ∧ (∀ d, d < nG row → (k < ga row d 3 ↔ k' < ga row d 3)) ∧ (∀ d, d < nS row → (k < sa row d 2 ↔ k' < sa row d 2))
theorem onB_ke {row : Nat → Int32} {k k' w : Int32} (h : KE row k k') {a : Nat} (ha : a < nA row) : onB row k w a = onB row k' w a := by
  unfold onB
  apply decide_eq_decide.mpr
  exact and_congr (not_congr (h.1 a ha)) Iff.rfl
theorem stkM_ke {row : Nat → Int32} {k k' w : Int32} (h : KE row k k') : ∀ m, m ≤ nA row → ∀ s, stkM row k w m s = stkM row k' w m s := by
  intro m
  induction m with
  | zero => intro _ s; rfl
  | succ m ih =>
    intro hm s
    unfold stkM
    rw [onB_ke h (show m < nA row by omega), ih (by omega)]
theorem hold_ke {row : Nat → Int32} {k k' w : Int32} (h : KE row k k') {st : Nat → Int32} {a c : Nat} (ha : a < nA row) : hold row k w st a c = hold row k' w st a c := by
  unfold hold stk
  rw [onB_ke h ha, stkM_ke h _ (Nat.le_refl _)]
theorem fdC_ke {row : Nat → Int32} {k k' w : Int32} (h : KE row k k') {st : Nat → Int32} {H kd_ sg mt : Int32} {a : Nat} {s : Bool × Int64 × Int64} (ha : a < nA row) : ∀ c, fdC row k w st H kd_ sg mt a s c = fdC row k' w st H kd_ sg mt a s c := by
  intro c
  induction c with
  | zero => rfl
  | succ c ih => unfold fdC; rw [hold_ke h ha, ih]
theorem fdA_ke {row : Nat → Int32} {k k' w : Int32} (h : KE row k k') {st : Nat → Int32} {H kd_ sg mt : Int32} : ∀ a, a ≤ nA row → fdA row k w st H kd_ sg mt a = fdA row k' w st H kd_ sg mt a := by
  intro a
  induction a with
  | zero => intro _; rfl
  | succ a ih => intro ha; unfold fdA; rw [ih (by omega), fdC_ke h (by omega)]
theorem fd_ke {row : Nat → Int32} {k k' : Int32} (h : KE row k k') (w : Int32) (st : Nat → Int32) (H kd_ sg mt : Int32) : fd row k w st H kd_ sg mt = fd row k' w st H kd_ sg mt := fdA_ke h _ (Nat.le_refl _)
theorem needV_ke {row : Nat → Int32} {k k' : Int32} (h : KE row k k') (kn sg mt rm w : Nat) : needV row k kn sg mt rm w = needV row k' kn sg mt rm w := by
  unfold needV; rw [fd_ke h, fd_ke h]
theorem firstV_ke {row : Nat → Int32} {k k' : Int32} (h : KE row k k') (w : Nat) : firstV row k w = firstV row k' w := by
  unfold firstV; rw [fd_ke h]
theorem sO_ke {row : Nat → Int32} {k k' : Int32} (h : KE row k k') {p : Nat} : ∀ m, m ≤ nS row → sO row k p m = sO row k' p m := by
  intro m
  induction m with
  | zero => intro _; rfl
  | succ m ih =>
    intro hm
    unfold sO
    rw [ih (by omega)]
    cases sO row k' p m with
    | some w => rfl
    | none =>
      have i := h.2.2.2 m (by omega)
      by_cases c : cl (sa row m 0) = p ∧ ¬ k' < sa row m 2
      · show (if _ then _ else _) = (if _ then _ else _)
        rw [if_pos c, if_pos ⟨c.1, fun q => c.2 (i.mp q)⟩]
      · show (if _ then _ else _) = (if _ then _ else _)
        rw [if_neg c, if_neg (fun q => c ⟨q.1, fun z => q.2 (i.mpr z)⟩)]
theorem sw_ke {row : Nat → Int32} {k k' : Int32} (h : KE row k k') : sw row k = sw row k' := funext fun p => sO_ke h _ (Nat.le_refl _)
theorem lic_ke {row : Nat → Int32} {k k' : Int32} (h : KE row k k') (s : Nat → Option Nat) : lic row k s = lic row k' s := funext fun p => by
  have e : ∀ kn q, lcQ row k kn q = lcQ row k' kn q := fun kn q => by unfold lcQ; exact fd_ke h _ _ _ _ _ _
  unfold lic
  cases s p with
  | none => rfl
  | some w => show (if _ then _ else _) = (if _ then _ else _); rw [e]
theorem dvS_ke {row : Nat → Int32} {k k' lt_ w : Int32} (h : KE row k k') {s : Nat → Int32} : ∀ d, d ≤ nD row → dvS row k lt_ w s d = dvS row k' lt_ w s d := by
  intro d
  induction d with
  | zero => intro _; rfl
  | succ d ih =>
    intro hd
    have i := h.2.1 d (by omega)
    have e : dvA row k lt_ w d = dvA row k' lt_ w d := by
      unfold dvA
      by_cases c : k < dv row d 3
      · rw [if_pos c, if_pos (i.mp c)]
      · rw [if_neg c, if_neg (fun q => c (i.mpr q))]
    unfold dvS
    rw [ih (by omega), e]
theorem ggS_ke {row : Nat → Int32} {k k' c w : Int32} (h : KE row k k') : ∀ d, d ≤ nG row → ggS row k c w d = ggS row k' c w d := by
  intro d
  induction d with
  | zero => intro _; rfl
  | succ d ih =>
    intro hd
    have i := h.2.2.1 d (by omega)
    unfold ggS
    rw [ih (by omega)]
    by_cases z : ga row d 0 = c ∧ ¬ k' < ga row d 3 ∧ ¬ w < ga row d 2 ∧ ¬ ga row d 2 < (ggS row k' c w d).2
    · rw [if_pos z, if_pos ⟨z.1, fun q => z.2.1 (i.mp q), z.2.2⟩]
    · rw [if_neg z, if_neg (fun q => z ⟨q.1, fun y => q.2.1 (i.mpr y), q.2.2⟩)]
theorem gg_ke {row : Nat → Int32} {k k' : Int32} (h : KE row k k') (c w : Int32) : gg row k c w = gg row k' c w := by unfold gg; rw [ggS_ke h _ (Nat.le_refl _)]
theorem nee_ke {row : Nat → Int32} {k k' : Int32} (h : KE row k k') (w p st m : Nat) : nee row k w p st m = nee row k' w p st m := needV_ke h _ _ _ _ _
theorem ctS_ke {row : Nat → Int32} {k k' : Int32} (h : KE row k k') {w p : Nat} {R : Nat → Nat → Int32} : ∀ m, ctS row k w p R m = ctS row k' w p R m := by
  intro m
  induction m with
  | zero => rfl
  | succ m ih => unfold ctS; rw [ih, nee_ke h]
theorem toR_ke {row : Nat → Int32} {k k' : Int32} (h : KE row k k') {w p : Nat} {R : Nat → Nat → Int32} : toR row k w p R = toR row k' w p R := by
  have t : ∀ m, tkS row k w p R m = tkS row k' w p R m := by
    intro m
    induction m with
    | zero => rfl
    | succ m ih => unfold tkS; rw [ih, nee_ke h]
  unfold toR
  rw [t, nee_ke h]
theorem gpS_ke {row : Nat → Int32} {k k' : Int32} (h : KE row k k') {w p : Nat} : ∀ f R, gpS row k w p f R = gpS row k' w p f R := by
  intro f
  induction f with
  | zero => intro R; rfl
  | succ f ih => intro R; unfold gpS; rw [ctS_ke h, toR_ke h, ih]
theorem gpR_ke {row : Nat → Int32} {k k' : Int32} (h : KE row k k') (w p : Nat) (R : Nat → Nat → Int32) : gpR row k w p R = gpR row k' w p R := by
  unfold gpR; exact gpS_ke h _ R
theorem gwF_ke {row : Nat → Int32} {k k' : Int32} (h : KE row k k') {w : Nat} (L : List Nat) (R : Nat → Nat → Int32) : gwF row k w L R = gwF row k' w L R := by
  have e : (fun (R : Nat → Nat → Int32) (p : Nat) => gpR row k w p R) = fun R p => gpR row k' w p R := funext fun R => funext fun p => gpR_ke h w p R
  unfold gwF
  rw [e]
theorem gwR_ke {row : Nat → Int32} {k k' : Int32} (h : KE row k k') {lt_ : Int32} {s : Nat → Option Nat} {lc : Nat → Bool} {w : Nat} {R : Nat → Nat → Int32} : gwR row k lt_ s lc w R = gwR row k' lt_ s lc w R := by
  unfold gwR
  rw [gwF_ke h, firstV_ke h, dvS_ke h _ (Nat.le_refl _)]
  have e : (fun c => gg row k (nI c) (nI w)) = fun c => gg row k' (nI c) (nI w) := funext fun c => gg_ke h _ _
  rw [e]
theorem runR_ke {row : Nat → Int32} {k k' : Int32} (h : KE row k k') (lt_ : Int32) (n : Nat) : runR row k lt_ n = runR row k' lt_ n := by
  unfold runR
  rw [sw_ke h, lic_ke h]
  induction n with
  | zero => rfl
  | succ n ih => unfold rnS; rw [ih, gwR_ke h]
end
