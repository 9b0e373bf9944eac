section
/-! a SUM is an int -/
def rgI (v : Int64) : Prop := -2147483648 ≤ v.toInt ∧ v.toInt ≤ 2147483647
theorem rrun_rg {op ar st : Nat → Int32} {L k0 : Nat} (ho : ∀ q, k0 ≤ q → q < L → op q < 17) : ∀ (f k : Nat) (s : List Int64) (x : Int64), k0 ≤ k → (∀ v ∈ s, rgI v) → rrun op ar st L f k s = some (some x) → rgI x := by
  intro f
  induction f with
  | zero => intro k s x _ _ h; cases h
  | succ f ih =>
    intro k s x hk hs h
    unfold rrun at h
    have i32 : ∀ y : Int32, rgI y.toInt64 := fun y => by
      unfold rgI
      rw [Int32.toInt_toInt64]
      have h1 := Int32.toInt_lt y
      have h2 := Int32.le_toInt y
      omega
    by_cases c1 : L ≤ k
    · rw [if_pos c1] at h
      cases h
      unfold bot
      rcases Nat.eq_zero_or_pos s.length with z | z
      · have : s = [] := List.eq_nil_of_length_eq_zero z
        subst this
        show rgI 0
        unfold rgI
        have : (0 : Int64).toInt = 0 := by decide
        omega
      · have hm : s.getD (s.length - 1) 0 ∈ s := by
          simp only [List.getD]
          have hlt : s.length - 1 < s.length := by omega
          rw [List.getElem?_eq_getElem hlt]
          exact List.getElem_mem hlt
        exact hs _ hm
    · rw [if_neg c1] at h
      by_cases c2 : op k < 8
      · rw [if_pos c2] at h
        split at h
        · split at h
          · exact ih _ _ x (by omega) (fun v hv => by
              rcases List.mem_cons.mp hv with rfl | hv
              · exact i32 _
              · exact hs v hv) h
          · split at h
            · exact ih _ _ x (by omega) (fun v hv => by
                rcases List.mem_cons.mp hv with rfl | hv
                · exact i32 _
                · exact hs v hv) h
            · cases h
        · cases h
      · rw [if_neg c2, if_pos (ho k hk (by omega))] at h
        match s, h, hs with
        | [], h, _ => cases h
        | [_], h, _ => cases h
        | b :: a :: t, h, hs =>
          dsimp only at h
          cases hr : rk (op k) a b with
          | none => rw [hr] at h; cases h
          | some v =>
            rw [hr] at h
            refine ih _ _ x (by omega) (fun u hu => ?_) h
            rcases List.mem_cons.mp hu with rfl | hu
            · rw [rk_rkv] at hr
              split at hr
              · cases hr
              · unfold chk at hr
                split at hr
                · rename_i _ q
                  cases hr
                  have q1 := Int64.le_iff_toInt_le.mp q.1
                  have q2 := Int64.le_iff_toInt_le.mp q.2
                  have e1 : (-1000000000 : Int64).toInt = -1000000000 := by decide
                  have e2 : (1000000000 : Int64).toInt = 1000000000 := by decide
                  unfold rgI
                  omega
                · cases hr
            · exact hs u (List.mem_cons_of_mem _ (List.mem_cons_of_mem _ hu))
theorem hv_rg {row st : Nat → Int32} {a c : Nat} {x : Int64} (hW : ClW row a c) (h : hv row st a c = some x) : rgI x := by
  have ev : ∀ y, evR row a (row (cA a c + 4)).toNatClampNeg (row (cA a c + 5)).toNatClampNeg st = some y → rgI y := by
    intro y hy
    unfold evR at hy
    cases e : rrun (opA row a) (arA row a) st (row (cA a c + 5)).toNatClampNeg 401 (row (cA a c + 4)).toNatClampNeg [] with
    | none => rw [e] at hy; cases hy
    | some v =>
      rw [e] at hy
      have hv : v = some y := hy
      subst hv
      exact rrun_rg hW.2.2.2.2 401 _ [] y (Nat.le_refl _) (fun v hv => by cases hv) e
  unfold hv at h
  split at h
  · cases h
  · split at h
    · exact ev x h
    · split at h
      · cases h
      · split at h
        · cases h
        · exact ev x h
theorem aln_nn {x : Int64} (h : rgI x) : ∃ j, j < 2 ^ 31 ∧ aln x = nI j := by
  unfold aln
  by_cases c : (0 : Int64) ≤ x
  · rw [if_pos c]
    have c' := Int64.le_iff_toInt_le.mp c
    have e0 : (0 : Int64).toInt = 0 := by decide
    obtain ⟨h1, h2⟩ := h
    refine ⟨x.toInt.toNat, by omega, Int32.toInt_inj.mp ?_⟩
    rw [nI_toInt (by omega), Int64.toInt_toInt32]
    rw [Int.bmod_eq_of_le (by omega) (by omega)]
    omega
  · rw [if_neg c]; exact ⟨0, by omega, rfl⟩
/-! the class's heads and the reference's questions -/
def QR (row : Nat → Int32) (h : Nat) (H K S T : Int32) : Prop := ∀ a, a < nA row → ∀ c, c < clN row a → itsB row H K S T a c = decide (hdN row a c = h)
theorem okP_at {row : Nat → Int32} {a c : Nat} (ha : a < nA row) (hc : c < clN row a) (h16 : c < 16) : okP row (16 * a + c) = true ∧ hdP row (16 * a + c) = hdN row a c ∧ (16 * a + c) / 16 = a ∧ (16 * a + c) % 16 = c := by
  have e1 : (16 * a + c) / 16 = a := by omega
  have e2 : (16 * a + c) % 16 = c := by omega
  refine ⟨?_, ?_, e1, e2⟩
  · unfold okP; rw [e1, e2]; exact decide_eq_true ⟨ha, hc⟩
  · unfold hdP; rw [e1, e2]
theorem hC_hold {row : Nat → Int32} {k w : Int32} {st : Nat → Int32} {a c : Nat} (h16 : c < 16) : hC row k w st (16 * a + c) = if row (cA a c) = 8 then (hold row k w (st8 st) a c).map (fun _ => (row (cA a c + 1)).toInt64) else hold row k w (st8 st) a c := by
  have e1 : (16 * a + c) / 16 = a := by omega
  have e2 : (16 * a + c) % 16 = c := by omega
  unfold hC cvv hold fbit
  rw [e1, e2]
  cases onB row k w a
  · simp
  · cases stk row k w (16 * a + c)
    · simp
    · simp
def Rl (row : Nat → Int32) (k w : Int32) (st : Nat → Int32) (h : Nat) (H : Int32) (p : Nat) (s : Bool × Int64 × Int64) : Prop := s.1 = (lst row k w st h p).isSome ∧ (∀ x, lst row k w st h p = some x → s.2.1 = x) ∧ (H ≠ 8 → s.2.2 = tot row k w st h p)
theorem Rl_no {row : Nat → Int32} {k w : Int32} {st : Nat → Int32} {h : Nat} {H : Int32} {p : Nat} {s : Bool × Int64 × Int64} (hR : Rl row k w st h H p s) (hn : ¬ (okP row p = true ∧ hdP row p = h)) : Rl row k w st h H (p + 1) s := by
  have e1 : lst row k w st h (p + 1) = lst row k w st h p := by
    have : lst row k w st h (p + 1) = if okP row p = true ∧ hdP row p = h then (match hC row k w st p with | some x => some x | none => lst row k w st h p) else lst row k w st h p := rfl
    rw [this, if_neg hn]
  have e2 : tot row k w st h (p + 1) = tot row k w st h p := by
    have : tot row k w st h (p + 1) = if okP row p = true ∧ hdP row p = h then (match hC row k w st p with | some x => tot row k w st h p + x | none => tot row k w st h p) else tot row k w st h p := rfl
    rw [this, if_neg hn]
  unfold Rl; rw [e1, e2]; exact hR
theorem Rl_gap {row : Nat → Int32} {k w : Int32} {st : Nat → Int32} {h : Nat} {H : Int32} {s : Bool × Int64 × Int64} {p : Nat} (hR : Rl row k w st h H p s) : ∀ j, (∀ q, p ≤ q → q < p + j → okP row q = false) → Rl row k w st h H (p + j) s := by
  intro j
  induction j with
  | zero => intro _; exact hR
  | succ j ih =>
    intro hq
    exact Rl_no (p := p + j) (ih (fun q h1 h2 => hq q h1 (by omega))) (fun z => by rw [hq (p + j) (by omega) (by omega)] at z; cases z.1)
theorem Rl_C {row : Nat → Int32} {k w : Int32} {st : Nat → Int32} {h : Nat} {H K S T : Int32} {a : Nat} {s : Bool × Int64 × Int64} (hV : AV row) (hQ : QR row h H K S T) (ha : a < nA row) (hR : Rl row k w st h H (16 * a) s) : ∀ c, c ≤ clN row a → Rl row k w st h H (16 * a + c) (fdC row k w (st8 st) H K S T a s c) := by
  have hc16 := (hV.2.2 a ha).2.1
  intro c
  induction c with
  | zero => intro _; exact hR
  | succ c ih =>
    intro hc
    have hi := ih (by omega)
    obtain ⟨o1, o2, o3, o4⟩ := okP_at (row := row) ha (show c < clN row a by omega) (by omega)
    have step : fdC row k w (st8 st) H K S T a s (c + 1) = if itsB row H K S T a c = true then (match hold row k w (st8 st) a c with | none => fdC row k w (st8 st) H K S T a s c | some x => (true, if H = 8 then (row (cA a c + 1)).toInt64 else x, (fdC row k w (st8 st) H K S T a s c).2.2 + x)) else fdC row k w (st8 st) H K S T a s c := rfl
    rw [step, hQ a ha c (by omega), show 16 * a + (c + 1) = (16 * a + c) + 1 by omega]
    by_cases hd : hdN row a c = h
    · rw [if_pos (decide_eq_true hd)]
      have hits : itsB row H K S T a c = true := by rw [hQ a ha c (by omega)]; exact decide_eq_true hd
      have hrow : row (cA a c) = H := (of_decide_eq_true hits).1
      have el : lst row k w st h (16 * a + c + 1) = (match hC row k w st (16 * a + c) with | some x => some x | none => lst row k w st h (16 * a + c)) := by
        have : lst row k w st h (16 * a + c + 1) = if okP row (16 * a + c) = true ∧ hdP row (16 * a + c) = h then (match hC row k w st (16 * a + c) with | some x => some x | none => lst row k w st h (16 * a + c)) else lst row k w st h (16 * a + c) := rfl
        rw [this, if_pos ⟨o1, by rw [o2]; exact hd⟩]
      have et : tot row k w st h (16 * a + c + 1) = (match hC row k w st (16 * a + c) with | some x => tot row k w st h (16 * a + c) + x | none => tot row k w st h (16 * a + c)) := by
        have : tot row k w st h (16 * a + c + 1) = if okP row (16 * a + c) = true ∧ hdP row (16 * a + c) = h then (match hC row k w st (16 * a + c) with | some x => tot row k w st h (16 * a + c) + x | none => tot row k w st h (16 * a + c)) else tot row k w st h (16 * a + c) := rfl
        rw [this, if_pos ⟨o1, by rw [o2]; exact hd⟩]
      have eh := hC_hold (row := row) (k := k) (w := w) (st := st) (a := a) (c := c) (by omega)
      rw [hrow] at eh
      unfold Rl
      rw [el, et, eh]
      cases hh : hold row k w (st8 st) a c with
      | none =>
        have : (if H = 8 then (none : Option Int64).map (fun _ => (row (cA a c + 1)).toInt64) else none) = none := by split <;> rfl
        rw [this]
        exact hi
      | some x =>
        by_cases c8 : H = 8
        · rw [if_pos c8]
          refine ⟨rfl, fun y hy => ?_, fun z => absurd c8 z⟩
          have : (row (cA a c + 1)).toInt64 = y := by simpa using hy
          dsimp only
          rw [if_pos c8]; exact this
        · rw [if_neg c8]
          refine ⟨rfl, fun y hy => ?_, fun _ => ?_⟩
          · have : x = y := by simpa using hy
            dsimp only
            rw [if_neg c8]; exact this
          · dsimp only
            rw [hi.2.2 c8]
    · rw [if_neg (by rw [decide_eq_false hd]; decide)]
      exact Rl_no hi (fun z => hd (by rw [← o2]; exact z.2))
theorem Rl_A {row : Nat → Int32} {k w : Int32} {st : Nat → Int32} {h : Nat} {H K S T : Int32} (hV : AV row) (hQ : QR row h H K S T) : ∀ a, a ≤ nA row → Rl row k w st h H (16 * a) (fdA row k w (st8 st) H K S T a) := by
  intro a
  induction a with
  | zero => intro _; exact ⟨rfl, (fun x hx => by cases hx), (fun _ => rfl)⟩
  | succ a ih =>
    intro ha
    have hc16 := (hV.2.2 a (by omega)).2.1
    have h1 := Rl_C hV hQ (by omega) (ih (by omega)) (clN row a) (Nat.le_refl _)
    have h2 := Rl_gap h1 (16 - clN row a) (fun q q1 q2 => by
      unfold okP
      refine decide_eq_false (fun z => ?_)
      have e1 : q / 16 = a := by omega
      rw [e1] at z
      omega)
    rw [show 16 * a + clN row a + (16 - clN row a) = 16 * (a + 1) by omega] at h2
    exact h2
/-- what counts, in the class and in the reference -/
theorem fd_lst {row : Nat → Int32} {k w : Int32} {st : Nat → Int32} {h : Nat} {H K S T : Int32} (hV : AV row) (hQ : QR row h H K S T) : Rl row k w st h H 384 (fd row k w (st8 st) H K S T) := by
  have hn := hV.2.1
  have h1 := Rl_A (k := k) (w := w) (st := st) hV hQ (nA row) (Nat.le_refl _)
  have h2 := Rl_gap h1 (384 - 16 * nA row) (fun q q1 q2 => by
    unfold okP
    exact decide_eq_false (fun z => by omega))
  rw [show 16 * nA row + (384 - 16 * nA row) = 384 by omega] at h2
  exact h2
theorem cnA_fd {row : Nat → Int32} {k w : Int32} {st : Nat → Int32} {h : Nat} {H K S T : Int32} (hV : AV row) (hQ : QR row h H K S T) : cnA (lst row k w st h 384) = if (fd row k w (st8 st) H K S T).1 = true then aln (fd row k w (st8 st) H K S T).2.1 else -1 := by
  obtain ⟨r1, r2, _⟩ := fd_lst (k := k) (w := w) (st := st) hV hQ
  rw [r1]
  cases hl : lst row k w st h 384 with
  | none => rfl
  | some x => rw [r2 x hl]; rfl
theorem tot_fd {row : Nat → Int32} {k w : Int32} {st : Nat → Int32} {h : Nat} {H K S T : Int32} (hV : AV row) (hQ : QR row h H K S T) (h8 : H ≠ 8) : tot row k w st h 384 = (fd row k w (st8 st) H K S T).2.2 := ((fd_lst hV hQ).2.2 h8).symm
def qF (hh kn sg mt : Nat) : Nat := if hh = 1 then (kn * 3 + sg) * 5 + mt else if hh = 2 then 45 + (kn * 3 + sg) else if hh = 3 then 54 else if hh = 4 then 55 + kn else if hh = 5 then 58 else if hh = 6 then 59 else if hh = 7 then 60 else 61
theorem qF_lt {hh kn sg mt : Nat} (h1 : 1 ≤ hh) (h8 : hh ≤ 8) (hk : kn < 3) (hs : sg < 3) (hm : mt < 5) : qF hh kn sg mt < 62 := by
  rcases (show hh = 1 ∨ hh = 2 ∨ hh = 3 ∨ hh = 4 ∨ hh = 5 ∨ hh = 6 ∨ hh = 7 ∨ hh = 8 by omega) with rfl | rfl | rfl | rfl | rfl | rfl | rfl | rfl
  · show (kn * 3 + sg) * 5 + mt < 62; omega
  · show 45 + (kn * 3 + sg) < 62; omega
  · show 54 < 62; omega
  · show 55 + kn < 62; omega
  · show 58 < 62; omega
  · show 59 < 62; omega
  · show 60 < 62; omega
  · show 61 < 62; omega
theorem qF_inj {n x y t hh kn sg mt : Nat} (n1 : 1 ≤ n) (n8 : n ≤ 8) (bx : x < 3) (by_ : y < 3) (bt : t < 5) (h1 : 1 ≤ hh) (h8 : hh ≤ 8) (hk : kn < 3) (hs : sg < 3) (hm : mt < 5)
    (zx : (n = 3 ∨ 5 ≤ n ∧ n ≤ 7) → x = 0) (zy : 3 ≤ n → y = 0) (zt : 2 ≤ n → t = 0) (z1 : (hh = 3 ∨ 5 ≤ hh ∧ hh ≤ 7) → kn = 0) (z2 : 3 ≤ hh → sg = 0) (z3 : 2 ≤ hh → mt = 0) : (n = hh ∧ (hh = 8 ∨ (x = kn ∧ y = sg ∧ t = mt))) ↔ qF n x y t = qF hh kn sg mt := by
  have zx' : ¬ (n = 3 ∨ 5 ≤ n ∧ n ≤ 7) ∨ x = 0 := (Decidable.em _).elim (fun q => Or.inr (zx q)) Or.inl
  have zy' : ¬ 3 ≤ n ∨ y = 0 := (Decidable.em _).elim (fun q => Or.inr (zy q)) Or.inl
  have zt' : ¬ 2 ≤ n ∨ t = 0 := (Decidable.em _).elim (fun q => Or.inr (zt q)) Or.inl
  have z1' : ¬ (hh = 3 ∨ 5 ≤ hh ∧ hh ≤ 7) ∨ kn = 0 := (Decidable.em _).elim (fun q => Or.inr (z1 q)) Or.inl
  have z2' : ¬ 3 ≤ hh ∨ sg = 0 := (Decidable.em _).elim (fun q => Or.inr (z2 q)) Or.inl
  have z3' : ¬ 2 ≤ hh ∨ mt = 0 := (Decidable.em _).elim (fun q => Or.inr (z3 q)) Or.inl
  clear zx zy zt z1 z2 z3
  have f1 : ∀ a b c, qF 1 a b c = (a * 3 + b) * 5 + c := fun _ _ _ => rfl
  have f2 : ∀ a b c, qF 2 a b c = 45 + (a * 3 + b) := fun _ _ _ => rfl
  have f3 : ∀ a b c, qF 3 a b c = 54 := fun _ _ _ => rfl
  have f4 : ∀ a b c, qF 4 a b c = 55 + a := fun _ _ _ => rfl
  have f5 : ∀ a b c, qF 5 a b c = 58 := fun _ _ _ => rfl
  have f6 : ∀ a b c, qF 6 a b c = 59 := fun _ _ _ => rfl
  have f7 : ∀ a b c, qF 7 a b c = 60 := fun _ _ _ => rfl
  have f8 : ∀ a b c, qF 8 a b c = 61 := fun _ _ _ => rfl
  rcases (show n = 1 ∨ n = 2 ∨ n = 3 ∨ n = 4 ∨ n = 5 ∨ n = 6 ∨ n = 7 ∨ n = 8 by omega) with rfl | rfl | rfl | rfl | rfl | rfl | rfl | rfl <;>
  rcases (show hh = 1 ∨ hh = 2 ∨ hh = 3 ∨ hh = 4 ∨ hh = 5 ∨ hh = 6 ∨ hh = 7 ∨ hh = 8 by omega) with rfl | rfl | rfl | rfl | rfl | rfl | rfl | rfl <;>
  simp only [f1, f2, f3, f4, f5, f6, f7, f8, true_and, false_or, true_or, iff_true, eq_self] <;> omega
theorem QR_of {row : Nat → Int32} (hV : AV row) (hW : AW row) {hh kn sg mt : Nat} (h1 : 1 ≤ hh) (h8 : hh ≤ 8) (hk : kn < 3) (hs : sg < 3) (hm : mt < 5)
    (z1 : (hh = 3 ∨ 5 ≤ hh ∧ hh ≤ 7) → kn = 0) (z2 : 3 ≤ hh → sg = 0) (z3 : 2 ≤ hh → mt = 0) : QR row (qF hh kn sg mt) (nI hh) (nI kn) (nI sg) (nI mt) := by
  intro a ha c hc
  obtain ⟨⟨n, bn, en⟩, ⟨x, bx, ex⟩, ⟨y, by_, ey⟩, _⟩ := (hV.2.2 a ha).2.2 c hc
  obtain ⟨w1, w2, w3, w4, _⟩ := hW a ha c hc
  have cn : cl (row (cA a c)) = n := by rw [en]; exact nI_clamp (by omega)
  have cx : cl (row (cA a c + 1)) = x := by rw [ex]; exact nI_clamp (by omega)
  have cy : cl (row (cA a c + 2)) = y := by rw [ey]; exact nI_clamp (by omega)
  rw [cn] at w2 w3 w4
  unfold itsB
  apply decide_eq_decide.mpr
  rcases Nat.eq_zero_or_pos n with z | z
  · subst z
    have e62 : hdN row a c = 62 := by unfold hdN; rw [cn, if_pos rfl]
    rw [e62, en]
    have := qF_lt h1 h8 hk hs hm
    constructor
    · intro q
      have := (nI_eq (by omega) (by omega)).mp q.1
      omega
    · intro q; omega
  · obtain ⟨u1, u2, u3⟩ := w1 (by rw [en]; exact fun q => by have := (nI_eq (a := n) (b := 0) (by omega) (by omega)).mp q; omega)
    have bx3 : x < 3 := by have := u1.2; rw [cx] at this; exact this
    have by3 : y < 3 := by have := u2.2; rw [cy] at this; exact this
    obtain ⟨t, ht⟩ : ∃ t, t = cl (row (cA a c + 3)) := ⟨_, rfl⟩
    have bz5 : t < 5 := by rw [ht]; exact u3.2
    have ez : row (cA a c + 3) = nI t := by rw [ht]; exact u3.1
    have zx : (n = 3 ∨ 5 ≤ n ∧ n ≤ 7) → x = 0 := fun q => by have := w2 q; rw [ex] at this; exact (nI_eq (a := x) (b := 0) (by omega) (by omega)).mp this
    have zy : 3 ≤ n → y = 0 := fun q => by have := w3 q; rw [ey] at this; exact (nI_eq (a := y) (b := 0) (by omega) (by omega)).mp this
    have zt : 2 ≤ n → t = 0 := fun q => by have := w4 q; rw [ez] at this; exact (nI_eq (a := t) (b := 0) (by omega) (by omega)).mp this
    have e8 : (nI hh = (8 : Int32)) ↔ hh = 8 := nI_eq (b := 8) (by omega) (by omega)
    have eh : hdN row a c = qF n x y t := by
      unfold hdN qF
      rw [cn, cx, cy, ← ht, if_neg (by omega)]
    rw [eh, en, ex, ey, ez, nI_eq (by omega) (by omega), nI_eq (by omega) (by omega), nI_eq (by omega) (by omega), nI_eq (by omega) (by omega), e8]
    exact qF_inj z bn bx3 by3 bz5 h1 h8 hk hs hm zx zy zt z1 z2 z3
end
