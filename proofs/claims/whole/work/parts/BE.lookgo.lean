section
/-- what looking round found stays right behind a going in -/
theorem LkI.goIn {row : Nat → Int32} {N n n' w p s : Nat} {C D : Nat → Nat → Int32} {k : Int32} {oc' : Nat → Nat → Option (Nat × Nat × Bool × Nat)} {σ τ : AH} (h : LkI row n C k w N σ) (hR' : RpC N n' D oc') (hN : N ≤ 30) (hw : w < 260) (hp : p < N) (hn : n ≤ n') (hs : s < n') (ho : ∀ t, t < n' → t ≠ s → t < n ∧ ∀ j, D t j = C t j) (he : s < n → C s 2 = C s 5) (c0 : D s 0 = nI p) (hc : cvB D s w = true) (h120 : ∀ q, q < N → gI τ 120 q = gI σ 120 q) (h121 : ∀ q, q < N → q ≠ p → gI τ 121 q = gI σ 121 q) (hp121 : gI τ 121 p = nI s) : LkI row n' D k w N τ := fun q hq => by
  rw [h120 q hq]
  refine ⟨(h q hq).1, ?_⟩
  by_cases e : q = p
  · rw [e, hp121]
    rcases stayIn_oc hR' hp hw with ⟨z1, _⟩ | ⟨t, t1, t2, _, t4, t5⟩
    · have := (hR' p hp w hw).1 s hs c0 hc
      rw [z1] at this; cases this
    · have z : t = s := (hR' p hp w hw).2.2 t s t1 hs t4 c0 t5 hc
      rw [t2, z]; rfl
  · rw [h121 q hq e, (h q hq).2]
    have ns : inB_ D q w s = false := by
      unfold inB_
      rw [c0, decide_eq_false (fun y => e ((nI_eq (by omega) (by omega)).mp y).symm), Bool.false_and]
    have cs : s < n → inB_ C q w s = false := fun z => by
      unfold inB_; rw [empty_cv (he z) w hw, Bool.and_false]
    have eq : ∀ t, t < n' → t ≠ s → inB_ D q w t = inB_ C q w t := fun t ht hne => by
      obtain ⟨_, b⟩ := ho t ht hne
      unfold inB_ cvB; rw [b, b, b, b]
    cases z : fsF (inB_ C q w) n 0 with
    | none =>
      have no := fsF_none _ _ z
      rw [fsF_no (fun y hy => ?_)]
      by_cases ys : y = s
      · rw [ys]; exact ns
      · rw [eq y hy ys]; exact no y (Nat.zero_le y) (by have := (ho y hy ys).1; omega)
    | some x =>
      obtain ⟨_, x1, x2, x3⟩ := fsF_some _ _ x z
      have xs : x ≠ s := fun y => by
        rw [y] at x2 x1
        rw [cs (by omega)] at x2; cases x2
      rw [fsF_is (x := x) (by omega) (by rw [eq x (by omega) xs]; exact x2) (fun y hy => ?_)]
      by_cases ys : y = s
      · rw [ys]; exact ns
      · rw [eq y (by omega) ys]; exact x3 y (Nat.zero_le y) hy
end
