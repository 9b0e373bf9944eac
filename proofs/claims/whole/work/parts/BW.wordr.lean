section
/-! signs and words: the small methods -/
theorem tkT_3 {L : Nat} {tp : Nat → Int32} {b : Nat} : tkT L tp b ≤ 3 := by
  unfold tkT
  by_cases c : L ≤ b
  · rw [if_pos c]; omega
  · rw [if_neg c]
    by_cases c1 : ltr (tp b) = true
    · rw [if_pos c1]; omega
    · rw [if_neg c1]
      by_cases c2 : dgt (tp b) = true
      · rw [if_pos c2]; omega
      · rw [if_neg c2]; omega
theorem tkT_i {L : Nat} {tp : Nat → Int32} {b n : Nat} (hn : n < 2 ^ 31) : (nI (tkT L tp b) = nI n) ↔ tkT L tp b = n := nI_eq (by have := tkT_3 (L := L) (tp := tp) (b := b); omega) hn
theorem F_isSignC {L b : Nat} {tp : Nat → Int32} {x : Int32} {σ : AH} (h : TpC L tp σ) (hk : TkC L tp b σ) : F_X5_isSign x σ = some (b2 (isS L tp b x), σ) := by
  have L4 := h.2.1
  unfold F_X5_isSign isS
  rw [hk.2.2.1, hk.1]
  by_cases c : tkT L tp b = 3
  · have lt := tkT_lt (L := L) (tp := tp) (b := b) (by rw [c]; decide)
    rw [if_pos (show nI (tkT L tp b) = (3 : Int32) by rw [c]; rfl), if_pos (inB_n (by omega) (by omega)), nI_clamp (by omega), h.2.2 b lt, decide_eq_true c, Bool.true_and]
    by_cases c2 : tp b = x
    · rw [if_pos c2, decide_eq_true c2]; rfl
    · rw [if_neg c2, decide_eq_false c2]; rfl
  · rw [if_neg (show ¬ nI (tkT L tp b) = (3 : Int32) from fun z => c ((tkT_i (n := 3) (by decide)).mp z)), decide_eq_false c, Bool.false_and]; rfl
theorem F_takeSignC {L b : Nat} {tp : Nat → Int32} {x : Int32} {σ : AH} (h : TpC L tp σ) (hk : TkC L tp b σ) : (isS L tp b x = false ∧ F_X5_takeSign x σ = some (0, σ)) ∨ (isS L tp b x = true ∧ ∃ τ, F_X5_takeSign x σ = some (1, τ) ∧ TkC L tp (nxt L tp b) τ ∧ Ch [] TKf σ τ) := by
  unfold F_X5_takeSign
  rw [F_isSignC h hk, bd_some]
  cases c : isS L tp b x with
  | false => left; exact ⟨rfl, by rw [if_pos (show b2 false = 0 from rfl)]⟩
  | true =>
    right
    obtain ⟨τ, t1, t2, t3⟩ := F_step1 h hk
    exact ⟨rfl, τ, by rw [if_neg (show ¬ b2 true = 0 by decide), t1, bv_some], t2, t3⟩
theorem F_takeWordC {L b k : Nat} {tp : Nat → Int32} {σ : AH} (h : TpC L tp σ) (hk : TkC L tp b σ) (h12 : k < 12) : (ixQ L tp b (wL k) 0 = none ∧ F_X5_takeWord k σ = some (-1, σ)) ∨ (∃ q, ixQ L tp b (wL k) 0 = some q ∧ q < (wL k).length ∧ ∃ τ, F_X5_takeWord k σ = some (nI q, τ) ∧ TkC L tp (nxt L tp b) τ ∧ Ch [] TKf σ τ) := by
  have wl : ∀ j : Fin 12, (wL j.val).length ≤ 8 := by decide +kernel
  have wl' : (wL k).length ≤ 8 := wl ⟨k, h12⟩
  unfold F_X5_takeWord
  rw [F_wordInC h hk h12, bd_some]
  cases c : ixQ L tp b (wL k) 0 with
  | none => left; exact ⟨rfl, by rw [show oI none = -1 from rfl, if_pos rfl]⟩
  | some q =>
    right
    have lt := ixQ_lt _ _ _ c
    obtain ⟨τ, t1, t2, t3⟩ := F_step1 h hk
    exact ⟨q, rfl, by omega, τ, by rw [show oI (some q) = nI q from rfl, if_neg (nI_neg1 (by omega)), t1, bv_some], t2, t3⟩
theorem F_isWordC {L b k : Nat} {tp : Nat → Int32} {w : List Int32} {σ : AH} (h : TpC L tp σ) (hk : TkC L tp b σ) (h12 : k < 12) (hw : wL k = [w]) : F_X5_isWord k σ = some (b2 (isW L tp b w), σ) := by
  unfold F_X5_isWord
  rw [F_wordInC h hk h12, bd_some, hw, ixQ_c, ixQ_n]
  cases isW L tp b w with
  | true => rfl
  | false => rfl
/-! the reference -/
theorem F_isSignR {L b : Nat} {tp : Nat → Int32} {x : Int32} {σ : AH} (hk : TkR L tp b σ) : F_X12_isSign x σ = some (b2 (isS L tp b x), σ) := by
  unfold F_X12_isSign isS
  rw [hk.2.2.1, hk.2.2.2.1]
  by_cases c : tkT L tp b = 3
  · have e : tkW L tp b = (tp b).toInt64 := by unfold tkW; rw [c, if_neg (by decide), if_neg (by decide), if_neg (by decide)]
    rw [if_pos (show nI (tkT L tp b) = (3 : Int32) by rw [c]; rfl), e, decide_eq_true c, Bool.true_and]
    by_cases c2 : tp b = x
    · rw [if_pos (by rw [c2]), decide_eq_true c2]; rfl
    · have ne : ¬ (tp b).toInt64 = x.toInt64 := fun z => c2 (by
        have := congrArg Int64.toInt z
        rw [Int32.toInt_toInt64, Int32.toInt_toInt64] at this
        exact Int32.toInt_inj.mp this)
      rw [if_neg ne, decide_eq_false c2]; rfl
  · rw [if_neg (show ¬ nI (tkT L tp b) = (3 : Int32) from fun z => c ((tkT_i (n := 3) (by decide)).mp z)), decide_eq_false c, Bool.false_and]; rfl
/-- letters as a number -/
def cdF (f : Nat → Nat) : Nat → Nat := fun n => match n with
  | 0 => 0
  | n + 1 => cdF f n * 32 + f n
theorem cdF_s {f : Nat → Nat} {n : Nat} : cdF f (n + 1) = cdF f n * 32 + f n := rfl
theorem cdF_inj {f g : Nat → Nat} (hf : ∀ t, 1 ≤ f t ∨ f t = 0) : ∀ n m, (∀ t, t < n → 1 ≤ f t ∧ f t < 32) → (∀ t, t < m → 1 ≤ g t ∧ g t < 32) → cdF f n = cdF g m → n = m ∧ ∀ t, t < n → f t = g t := by
  intro n
  induction n with
  | zero =>
    intro m _ h2 e
    cases m with
    | zero => exact ⟨rfl, fun t ht => absurd ht (Nat.not_lt_zero t)⟩
    | succ m =>
      rw [cdF_s] at e
      have := h2 m (by omega)
      have e0 : cdF f 0 = 0 := rfl
      omega
  | succ n ih =>
    intro m h1 h2 e
    cases m with
    | zero =>
      rw [cdF_s] at e
      have := h1 n (by omega)
      have e0 : cdF g 0 = 0 := rfl
      omega
    | succ m =>
      rw [cdF_s, cdF_s] at e
      have a1 := h1 n (by omega)
      have a2 := h2 m (by omega)
      have e1 : f n = g m := by omega
      have e2 : cdF f n = cdF g m := by omega
      obtain ⟨i1, i2⟩ := ih m (fun t ht => h1 t (by omega)) (fun t ht => h2 t (by omega)) e2
      subst i1
      refine ⟨rfl, fun t ht => ?_⟩
      by_cases c : t = n
      · rw [c]; exact e1
      · exact i2 t (by omega)
theorem cdF_lt {f : Nat → Nat} : ∀ n, (∀ t, t < n → f t < 32) → cdF f n < 32 ^ n := by
  intro n
  induction n with
  | zero => intro _; show 0 < 32 ^ 0; decide
  | succ n ih =>
    intro h
    have a := ih (fun t ht => h t (by omega))
    have b := h n (by omega)
    rw [cdF_s, Nat.pow_succ]
    omega
theorem cdF_cg {f g : Nat → Nat} : ∀ n, (∀ t, t < n → f t = g t) → cdF f n = cdF g n := by
  intro n
  induction n with
  | zero => intro _; rfl
  | succ n ih => intro h; rw [cdF_s, cdF_s, ih (fun t ht => h t (by omega)), h n (by omega)]
theorem ltr_n {x : Int32} (h : ltr x = true) : x = nI (cl x) ∧ 97 ≤ cl x ∧ cl x ≤ 122 := by
  unfold ltr at h
  have h' := Bool.and_eq_true_iff.mp h
  have a1 : ¬ x < 97 := by simpa using h'.1
  have a2 : ¬ (122 : Int32) < x := by simpa using h'.2
  rw [Int32.lt_iff_toInt_lt] at a1 a2
  have e1 : (97 : Int32).toInt = 97 := by decide
  have e2 : (122 : Int32).toInt = 122 := by decide
  obtain ⟨j, j1, j2, j3⟩ := rg_nI (a := 97) (b := 122) (x := x) ⟨by omega, by omega⟩ (by decide)
  rw [j3, show cl (nI j) = j from nI_clamp (by omega)]
  exact ⟨rfl, j1, j2⟩
theorem spn_all {P : Int32 → Bool} {tp : Nat → Int32} : ∀ j p i, p ≤ i → i < spn P tp j p → P (tp i) = true := by
  intro j
  induction j with
  | zero => intro p i h1 h2; have : spn P tp 0 p = p := rfl; omega
  | succ j ih =>
    intro p i h1 h2
    rw [spn_s] at h2
    by_cases c : P (tp p) = true
    · rw [if_pos c] at h2
      by_cases e : i = p
      · rw [e]; exact c
      · exact ih (p + 1) i (by omega) h2
    · rw [if_neg c] at h2; omega
def tpL (tp : Nat → Int32) (b : Nat) : Nat → Nat := fun t => cl (tp (b + t)) - 96
theorem wcd_v {tp : Nat → Int32} {b : Nat} : ∀ j p k v, p = b + k → ((k ≤ 10 ∧ v = lN (cdF (tpL tp b) k)) ∨ (10 < k ∧ v = -1)) → (spn ltr tp j p - b ≤ 10 ∧ wcd tp j p k v = lN (cdF (tpL tp b) (spn ltr tp j p - b))) ∨ (10 < spn ltr tp j p - b ∧ wcd tp j p k v = -1) := by
  intro j
  induction j with
  | zero =>
    intro p k v hp h
    have e1 : spn ltr tp 0 p = p := rfl
    have e2 : wcd tp 0 p k v = v := rfl
    rw [e1, e2, hp, show b + k - b = k by omega]
    exact h
  | succ j ih =>
    intro p k v hp h
    rw [spn_s, wcd_s]
    by_cases c : ltr (tp p) = true
    · rw [if_pos c, if_pos c]
      refine ih (p + 1) (k + 1) _ (by omega) ?_
      obtain ⟨l1, l2, l3⟩ := ltr_n c
      by_cases d : 10 ≤ k
      · right; exact ⟨by omega, by rw [if_pos d]⟩
      · left
        refine ⟨by omega, ?_⟩
        rcases h with ⟨h1, h2⟩ | ⟨h1, h2⟩
        · rw [if_neg d, h2, cdF_s]
          have e : tpL tp b k = cl (tp p) - 96 := by unfold tpL; rw [hp]
          rw [e, l1, nI_l (by omega), show cl (nI (cl (tp p))) = cl (tp p) from nI_clamp (by omega), show (32 : Int64) = lN 32 from rfl, show (96 : Int64) = lN 96 from rfl, lN_mul, lN_add, lN_sub (by omega)]
          congr 1
          omega
        · omega
    · rw [if_neg c, if_neg c, hp, show b + k - b = k by omega]
      exact h
def wOK (w : List Int32) : Bool := decide (w.length ≤ 10) && w.all ltr
theorem wOK_l {w : List Int32} (h : wOK w = true) {t : Nat} (ht : t < w.length) : ltr (w.getD t 0) = true := by
  have h' := (Bool.and_eq_true_iff.mp h).2
  rw [List.getD_eq_getElem?_getD, List.getElem?_eq_getElem ht]
  exact List.all_eq_true.mp h' _ (List.getElem_mem ht)
theorem F_isWordR {L b : Nat} {tp : Nat → Int32} {w : List Int32} {x : Int64} {σ : AH} (hk : TkR L tp b σ) (hw : wOK w = true) (hx : x = lN (cdF (fun t => cl (w.getD t 0) - 96) w.length)) : F_X12_isWord x σ = some (b2 (isW L tp b w), σ) := by
  have w10 : w.length ≤ 10 := of_decide_eq_true (Bool.and_eq_true_iff.mp hw).1
  have wb : ∀ t, t < w.length → 1 ≤ cl (w.getD t 0) - 96 ∧ cl (w.getD t 0) - 96 < 32 := fun t ht => by
    have := ltr_n (wOK_l hw ht); omega
  unfold F_X12_isWord
  rw [hk.2.2.1, hk.2.2.2.1]
  by_cases c : tkT L tp b = 1
  · rw [if_pos (show nI (tkT L tp b) = (1 : Int32) by rw [c]; rfl)]
    have nl : ¬ L ≤ b := fun z => by rw [tkT_e z] at c; cases c
    have d1 : ltr (tp b) = true := by
      cases d : ltr (tp b) with
      | true => rfl
      | false =>
        cases d2 : dgt (tp b) with
        | true => rw [tkT_d nl d d2] at c; cases c
        | false => rw [tkT_s nl d d2] at c; cases c
    have eE : tkE L tp b = spn ltr tp (L - b) b := by unfold tkE; rw [if_neg nl, if_pos d1]
    have eW : tkW L tp b = wcd tp (L - b) b 0 0 := by unfold tkW; rw [c, if_neg (by decide), if_pos rfl]
    have sb := spn_b (P := ltr) (tp := tp) (L - b) b
    have tb : ∀ t, t < tkE L tp b - b → 1 ≤ tpL tp b t ∧ tpL tp b t < 32 := fun t ht => by
      have := ltr_n (spn_all (P := ltr) (tp := tp) (L - b) b (b + t) (by omega) (by rw [← eE]; omega))
      unfold tpL; omega
    have key : (wcd tp (L - b) b 0 0 = x) ↔ isW L tp b w = true := by
      unfold isW
      rw [c, decide_eq_true rfl, Bool.true_and, Bool.and_eq_true, decide_eq_true_iff, eqA_iff]
      rcases wcd_v (tp := tp) (b := b) (L - b) b 0 0 rfl (Or.inl ⟨by omega, rfl⟩) with ⟨v1, v2⟩ | ⟨v1, v2⟩
      · rw [v2, ← eE, hx]
        rw [← eE] at v1
        have lt1 : cdF (tpL tp b) (tkE L tp b - b) < 2 ^ 63 := Nat.lt_of_lt_of_le (cdF_lt _ (fun t ht => (tb t ht).2)) (Nat.le_trans (Nat.pow_le_pow_right (by decide) v1) (by decide))
        have lt2 : cdF (fun t => cl (w.getD t 0) - 96) w.length < 2 ^ 63 := Nat.lt_of_lt_of_le (cdF_lt _ (fun t ht => (wb t ht).2)) (Nat.le_trans (Nat.pow_le_pow_right (by decide) w10) (by decide))
        rw [pk_lEQ lt1 lt2]
        constructor
        · intro e
          obtain ⟨n1, n2⟩ := cdF_inj (fun t => by omega) _ _ tb wb e
          refine ⟨by omega, fun i _ hi => ?_⟩
          have q := n2 i (by omega)
          have l1 := ltr_n (spn_all (P := ltr) (tp := tp) (L - b) b (b + i) (by omega) (by rw [← eE]; omega))
          have l2 := ltr_n (wOK_l hw (show i < w.length by omega))
          unfold tpL at q
          rw [l1.1, l2.1]
          congr 1
          omega
        · intro e
          rw [show tkE L tp b - b = w.length by omega]
          exact cdF_cg _ (fun t ht => by unfold tpL; rw [e.2 t (by omega) (by omega)])
      · rw [v2, hx]
        constructor
        · intro e
          have lt2 : cdF (fun t => cl (w.getD t 0) - 96) w.length < 2 ^ 63 := Nat.lt_of_lt_of_le (cdF_lt _ (fun t ht => (wb t ht).2)) (Nat.le_trans (Nat.pow_le_pow_right (by decide) w10) (by decide))
          have := congrArg Int64.toInt e
          rw [pk_lT lt2] at this
          have m1 : (-1 : Int64).toInt = -1 := by decide
          omega
        · intro e
          rw [← eE] at v1
          omega
    rw [eW]
    by_cases d : wcd tp (L - b) b 0 0 = x
    · rw [if_pos d, key.mp d]; rfl
    · rw [if_neg d]
      have : isW L tp b w = false := by
        cases z : isW L tp b w with
        | false => rfl
        | true => exact absurd (key.mpr z) d
      rw [this]; rfl
  · rw [if_neg (show ¬ nI (tkT L tp b) = (1 : Int32) from fun z => c ((tkT_i (n := 1) (by decide)).mp z))]
    unfold isW
    rw [decide_eq_false c, Bool.false_and]; rfl
end
