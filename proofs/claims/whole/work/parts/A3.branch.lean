section
/-! the branches of Choice -/
theorem play_gen2 {α : Type} {row : Nat → Int32} {k : Int32} {s sy : Nat → Option Nat} {a c b m g : Nat} {R : Nat → Nat → Int32} {Q : AH → Prop} {G : Nat → Int32 → AH → Option α} {E : AH → Option α} (hV : AV row) (hW : AW row) (hB : BV row) (hs : ∀ p w, s p = some w → w < 260) (hsy : ∀ p w, sy p = some w → w < 260) (hb : 44 < b ∧ b + 9 < 124) (hm : m ≤ 260)
    (hag : ∀ i p, c ≤ i → i < m → (sy p = some i ↔ s p = some i)) (hQ : ∀ σ τ, Ch (PWc b) (PWf b) σ τ → Q σ → Q τ)
    (hst : ∀ f i σ, i < m → Q σ → G (f + 1) (nI i) σ = bv (F_X10_passWeek b (nI i) σ) fun σ1 => G f (nI (i + 1)) σ1) (hen : ∀ f σ, Q σ → G (f + 1) (nI m) σ = E σ) : ∀ (j i : Nat) (σ : AH), a + i + j = m → c ≤ a + i → Q σ → YdS row k 0 sy σ → SiI row k s b (a + i) (rnS row k (nI 0) s (lic row k s) a R i) σ →
    ∃ τ, G (j + 1 + g) (nI (a + i)) σ = E τ ∧ Q τ ∧ YdS row k 0 sy τ ∧ SiI row k s b m (rnS row k (nI 0) s (lic row k s) a R (m - a)) τ ∧ Ch (PWc b) (PWf b) σ τ := by
  intro j
  induction j with
  | zero =>
    intro i σ hi hc q1 h1 h2
    have e : a + i = m := by omega
    have e2 : i = m - a := by omega
    rw [show 0 + 1 + g = g + 1 by omega, e, hen g σ q1]
    rw [e] at h2
    rw [e2] at h2
    exact ⟨σ, rfl, q1, h1, h2, Ch.rf _⟩
  | succ j ih =>
    intro i σ hi hc q1 h1 h2
    obtain ⟨τ, t1, t2, t3, _, _, t6⟩ := F_passWeek2 hV hW hB hs hsy (fun p _ => hag (a + i) p hc (by omega)) hb (w := a + i) (by omega) h1 h2
    rw [show j + 1 + 1 + g = (j + 1 + g) + 1 by omega, hst _ _ _ (by omega) q1, t1, bv_some]
    rw [← rnS_s] at t3
    obtain ⟨τ2, u1, u2, u3, u4, u5⟩ := ih (i + 1) τ (by omega) (by omega) (hQ _ _ t6 q1) t2 t3
    exact ⟨τ2, u1, u2, u3, u4, t6.trans u5⟩
/-- better: more housed, fewer shells, the lower ROW -/
def btr (row : Nat → Int32) (q n : Nat) (wi x y : Nat → Nat) : Prop := hoC row q n wi y < hoC row q n wi x ∨ (hoC row q n wi x = hoC row q n wi y ∧ (shC row q n wi x < shC row q n wi y ∨ (shC row q n wi x = shC row q n wi y ∧ cdN x n < cdN y n)))
/-- what is kept is the best of what was seen -/
def VsI (row : Nat → Int32) (q n : Nat) (wi : Nat → Nat) (V : (Nat → Nat) → Prop) (σ : AH) : Prop := (gI σ 68 12 = -1 ∧ ∀ x, ¬ V x) ∨ ∃ y : Nat → Nat, (∀ i, y i < 4) ∧ (∀ i, i < n → gI σ 82 i = nI (y i)) ∧ gI σ 68 12 = nI (hoC row q n wi y) ∧ gI σ 68 13 = nI (shC row q n wi y) ∧ ∀ x, V x → ¬ btr row q n wi x y
theorem VsI.im {row : Nat → Int32} {q n : Nat} {wi : Nat → Nat} {V V' : (Nat → Nat) → Prop} {σ : AH} (h : VsI row q n wi V σ) (hi : ∀ x, V' x → V x) : VsI row q n wi V' σ := by
  rcases h with ⟨a, b⟩ | ⟨y, a, b, c, d, e⟩
  · exact Or.inl ⟨a, fun x hx => b x (hi x hx)⟩
  · exact Or.inr ⟨y, a, b, c, d, fun x hx => e x (hi x hx)⟩
theorem VsI.ch {row : Nat → Int32} {q n : Nat} {wi : Nat → Nat} {V : (Nat → Nat) → Prop} {σ τ : AH} {cs : List Nat} {fs : List (Nat × Nat)} (h : VsI row q n wi V σ) (c : Ch cs fs σ τ) (h1 : 68 ∉ cs ∧ 82 ∉ cs) (h2 : ∀ q ∈ fs, q ≠ (68, 12) ∧ q ≠ (68, 13) ∧ q.1 ≠ 82) : VsI row q n wi V τ := by
  have e12 : gI τ 68 12 = gI σ 68 12 := c.pI h1.1 (fun q => (h2 _ q).1 rfl)
  have e13 : gI τ 68 13 = gI σ 68 13 := c.pI h1.1 (fun q => (h2 _ q).2.1 rfl)
  have e82 : gI τ 82 = gI σ 82 := c.rI h1.2 (fun q hq => (h2 q hq).2.2)
  unfold VsI; rw [e12, e13, e82]; exact h
theorem F_keepIfBetter {row : Nat → Int32} {k : Int32} {s : Nat → Option Nat} {q n w : Nat} {wi r : Nat → Nat} {V : (Nat → Nat) → Prop} {σ : AH} (hB : BV row) (hW : WiV row n wi) (hT : TbB row σ) (hC : CwI n wi σ) (hA : SaI σ) (hr4 : ∀ i, r i < 4) (hr : CrI n r σ) (hS : SiI row k s 103 w (cR row q n wi r) σ) (h : VsI row q n wi V σ) :
    ∃ τ, F_X1_keepIfBetter σ = some τ ∧ VsI row q n wi (fun x => V x ∨ ∀ i, i < n → x i = r i) τ ∧ Ch [82] [(68, 12), (68, 13)] σ τ := by
  have hn := hW.1
  have l36 := hoC_le (q := q) (cs := r) hB hW
  have l6 := shC_le (row := row) (q := q) (cs := r) hW
  unfold F_X1_keepIfBetter
  have eh : hoN row wi (cR row q n wi r) n = hoC row q n wi r := rfl
  have es : shN wi (cR row q n wi r) n = shC row q n wi r := rfl
  have g2 : gR σ 80 (2 : Int32).toNatClampNeg = some 103 := hA.2.2
  rw [if_pos (by decide), g2, bo_some, if_pos (by decide), F_housedIn hB hW hT hC hS, bd_some, if_pos (by decide), g2, bo_some, if_pos (by decide), F_shellsIn hB hW hC hS, bd_some, eh, es]
  have same : ∀ x : Nat → Nat, (∀ i, i < n → x i = r i) → hoC row q n wi x = hoC row q n wi r ∧ shC row q n wi x = shC row q n wi r ∧ cdN x n = cdN r n := fun x hx => ⟨(hoC_congr hx).1, (hoC_congr hx).2, cdN_congr n hx⟩
  have put : (∀ x, V x → ¬ btr row q n wi x r) → ∃ τ, F_X1_keepIfBetter_61 (nI (hoC row q n wi r)) (nI (shC row q n wi r)) σ = some τ ∧ VsI row q n wi (fun x => V x ∨ ∀ i, i < n → x i = r i) τ ∧ Ch [82] [(68, 12), (68, 13)] σ τ := fun hv => by
    unfold F_X1_keepIfBetter_61
    rw [if_pos (Nat.le_refl _), if_pos (Nat.le_refl _), lt_e]
    refine ⟨_, rfl, Or.inr ⟨r, hr4, fun i hi => ?_, ?_, ?_, fun x hx => ?_⟩, ((Ch.sI1 (Or.inl (by simp))).trans (Ch.sI1 (Or.inl (by simp)))).trans (Ch.sA1 (by simp))⟩
    · rw [gI_sA_own, cpy0 (by omega), gI_sI_row (by decide), gI_sI_row (by decide)]; exact hr i hi
    · rw [gI_sA_row (by decide), gI_sI_ne (by decide), gI_sI_at]
    · rw [gI_sA_row (by decide), gI_sI_at]
    · rcases hx with z | z
      · exact hv x z
      · obtain ⟨s1, s2, s3⟩ := same x z
        unfold btr; omega
  have stay : ∀ y : Nat → Nat, (∀ i, y i < 4) → (∀ i, i < n → gI σ 82 i = nI (y i)) → gI σ 68 12 = nI (hoC row q n wi y) → gI σ 68 13 = nI (shC row q n wi y) → (∀ x, V x → ¬ btr row q n wi x y) → ¬ btr row q n wi r y → ∃ τ, some σ = some τ ∧ VsI row q n wi (fun x => V x ∨ ∀ i, i < n → x i = r i) τ ∧ Ch [82] [(68, 12), (68, 13)] σ τ := fun y a1 a2 a3 a4 a5 a6 => by
    refine ⟨σ, rfl, Or.inr ⟨y, a1, a2, a3, a4, fun x hx => ?_⟩, Ch.rf _⟩
    rcases hx with z | z
    · exact a5 x z
    · obtain ⟨s1, s2, s3⟩ := same x z
      unfold btr at a6 ⊢; omega
  rcases h with ⟨a, b⟩ | ⟨y, a, b, c, d, e⟩
  · rw [a, if_pos (by rw [Int32.lt_iff_toInt_lt, nI_toInt (by omega)]; have : (-1 : Int32).toInt = -1 := by decide
                      omega)]
    exact put (fun x hx => absurd hx (b x))
  · have l36y := hoC_le (q := q) (cs := y) hB hW
    have l6y := shC_le (row := row) (q := q) (cs := y) hW
    have go : btr row q n wi r y → ∀ x, V x → ¬ btr row q n wi x r := fun g x hx => by
      have := e x hx
      unfold btr at g this ⊢; omega
    rw [c, d]
    by_cases c1 : hoC row q n wi y < hoC row q n wi r
    · rw [if_pos (nI_lt c1 (by omega))]
      exact put (go (Or.inl c1))
    · rw [if_neg (nI_nlt (by omega) (by omega))]
      by_cases c2 : hoC row q n wi r = hoC row q n wi y
      · rw [if_pos (by rw [c2])]
        by_cases c3 : shC row q n wi r < shC row q n wi y
        · rw [if_pos (nI_lt c3 (by omega))]
          exact put (go (Or.inr ⟨c2, Or.inl c3⟩))
        · rw [if_neg (nI_nlt (by omega) (by omega))]
          by_cases c4 : shC row q n wi r = shC row q n wi y
          · rw [if_pos (by rw [c4]), F_isRowAhead hn hC hr4 a hr b, bd_b (α := Int32)]
            by_cases c5 : cdN r n < cdN y n
            · rw [if_pos c5]
              exact put (go (Or.inr ⟨c2, Or.inr ⟨c4, c5⟩⟩))
            · rw [if_neg c5]
              exact stay y a b c d e (by unfold btr; omega)
          · rw [if_neg (fun z => c4 ((nI_eq (by omega) (by omega)).mp z))]
            exact stay y a b c d e (by unfold btr; omega)
      · rw [if_neg (fun z => c2 ((nI_eq (by omega) (by omega)).mp z))]
        exact stay y a b c d e (by unfold btr; omega)
/-! what the tries from one time on may write -/
def BRc (t : Nat) : List Nat := (List.range 113).filter (fun i => decide ((31 ≤ i ∧ i < 44 ∧ i ≠ 34 ∧ i ≠ 35 ∧ i ≠ 36) ∨ i = 81 ∨ i = 82 ∨ 83 + 10 * t ≤ i))
def BRf : List (Nat × Nat) := [(28, 6), (68, 12), (68, 13)]
theorem BRm {t i : Nat} : i ∈ BRc t ↔ i < 113 ∧ ((31 ≤ i ∧ i < 44 ∧ i ≠ 34 ∧ i ≠ 35 ∧ i ≠ 36) ∨ i = 81 ∨ i = 82 ∨ 83 + 10 * t ≤ i) := by
  unfold BRc
  rw [List.mem_filter, List.mem_range, decide_eq_true_iff]
/-! what one play writes -/
def PYc (t : Nat) : List Nat := (List.range 113).filter (fun i => decide ((31 ≤ i ∧ i < 44 ∧ i ≠ 34 ∧ i ≠ 35 ∧ i ≠ 36) ∨ i = 81 ∨ 83 + 10 * t ≤ i))
def PYf : List (Nat × Nat) := [(28, 6)]
theorem PYm {t i : Nat} : i ∈ PYc t ↔ i < 113 ∧ ((31 ≤ i ∧ i < 44 ∧ i ≠ 34 ∧ i ≠ 35 ∧ i ≠ 36) ∨ i = 81 ∨ 83 + 10 * t ≤ i) := by
  unfold PYc
  rw [List.mem_filter, List.mem_range, decide_eq_true_iff]
theorem PY_BR {t : Nat} {σ τ : AH} (c : Ch (PYc t) PYf σ τ) : Ch (BRc t) BRf σ τ := c.mono (fun i hi => BRm.mpr (by have := PYm.mp hi; omega)) (by simp [PYf, BRf])
theorem BR_up {t : Nat} {σ τ : AH} (c : Ch (BRc (t + 1)) BRf σ τ) : Ch (BRc t) BRf σ τ := c.mono (fun i hi => BRm.mpr (by have := BRm.mp hi; omega)) (fun z hz => Or.inl hz)
def abT (t : Nat) : Nat := if t = 0 then 70 else 73 + 10 * t
def wkT (t : Nat) : Nat := if t < 3 then 4 * t else 13
/-- the QUARTER so far, with the choices r -/
def RjT (row : Nat → Int32) (q n : Nat) (wi r : Nat → Nat) (j : Nat) : Nat → Nat → Int32 := rnS row (kL row q) (nI 0) (sC (sQ row q) wi q r n) (lic row (kL row q) (sC (sQ row q) wi q r n)) (13 * q) (bR row q) j
/-- some have begun ahead of time t (r), the others rest; what began later was put back or will be -/
def LvI (row : Nat → Int32) (q n : Nat) (wi : Nat → Nat) (t : Nat) (r : Nat → Nat) (σ : AH) : Prop := OqI row q σ ∧ CwI n wi σ ∧ SaI σ ∧ (∃ cur : Nat → Nat, (∀ i, cur i < 4) ∧ CrI n cur σ ∧ ∀ i, i < n → r i = if cur i ≤ t then cur i else 0) ∧ SiI row (kL row q) (sC (sQ row q) wi q r n) (abT t) (13 * q + wkT t) (RjT row q n wi r (wkT t)) σ
theorem OqI.br {row : Nat → Int32} {q t : Nat} {σ τ : AH} (h : OqI row q σ) (c : Ch (BRc t) BRf σ τ) (hD : YdS row (kL row q) 0 (sQ row q) τ) : OqI row q τ := by
  obtain ⟨_, ⟨o2, o3⟩, ⟨o4, o5, o6⟩, o7⟩ := h
  have e34 : gI τ 34 = gI σ 34 := c.rI (fun z => by have := BRm.mp z; omega) (by simp [BRf])
  have e0 : gI τ 0 = gI σ 0 := c.rI (fun z => by have := BRm.mp z; omega) (by simp [BRf])
  have e68 : ∀ j, j < 10 → gI τ 68 j = gI σ 68 j := fun j hj => c.pI (fun z => by have := BRm.mp z; omega) (by simp [BRf]; omega)
  refine ⟨hD, ⟨?_, ?_⟩, ⟨?_, ?_, ?_⟩, o7.keep c (fun i hi => by have := BRm.mp hi; omega) (by simp [BRf])⟩
  · rw [e34]; exact o2
  · rw [e34, e0]; exact o3
  · rw [e68 4 (by omega)]; exact o4
  · rw [e68 6 (by omega)]; exact o5
  · rw [e68 7 (by omega), e0]; exact o6
theorem ag_t {row : Nat → Int32} {q n t : Nat} {wi r r' : Nat → Nat} (hW : WiV row n wi) (h : ∀ i, i < n → r i = r' i ∨ ((r i = 0 ∨ t < r i) ∧ (r' i = 0 ∨ t < r' i))) : AgW (sC (sQ row q) wi q r n) (sC (sQ row q) wi q r' n) (13 * q + 4 * t) := by
  intro p a ha
  by_cases c : ∃ k, k < n ∧ wi k = p
  · obtain ⟨j, hj, e⟩ := c
    subst e
    rw [sC_at n hW.2.2.1 j hj, sC_at n hW.2.2.1 j hj]
    rcases h j hj with z | ⟨z1, z2⟩
    · rw [z]
    · have no : ∀ v, (v = 0 ∨ t < v) → ¬ chW q v = some a := fun v hv e => by
        unfold chW at e
        by_cases y : v = 0
        · rw [if_pos y] at e; cases e
        · rw [if_neg y] at e; cases e; omega
      exact ⟨fun z => absurd z (no _ z1), fun z => absurd z (no _ z2)⟩
  · rw [sC_off n (fun k hk e => c ⟨k, hk, e⟩), sC_off n (fun k hk e => c ⟨k, hk, e⟩)]
theorem hoC_begun {row : Nat → Int32} {q n : Nat} {wi r : Nat → Nat} (hW : WiV row n wi) : hoC row q n wi r ≤ rbN row wi r n := by
  have hz : ∀ i, i < n → r i = 0 → ¬ cR row q n wi r 144 (wi i) = 3 := fun i hi z e => by
    have n0 : sw row (kQ q) (wi i) = none := sw_none hW hi
    have n1 : sC (sw row (kQ q)) wi q r n (wi i) = none := by rw [sC_at n hW.2.2.1 i hi, z]; rfl
    unfold cR qR at e
    rw [rnS_off n1] at e
    unfold bfR runR at e
    rw [rnS_off n0] at e
    have e' : (0 : Int32) = 3 := e
    exact absurd e' (by decide)
  have : ∀ m, m ≤ n → hoN row wi (cR row q n wi r) m ≤ rbN row wi r m := by
    intro m
    induction m with
    | zero => intro _; exact Nat.le_refl _
    | succ m ih =>
      intro hm
      have e1 : hoN row wi (cR row q n wi r) (m + 1) = hoN row wi (cR row q n wi r) m + (if cR row q n wi r 144 (wi m) = 3 then pR row (wi m) else 0) := rfl
      have e2 : rbN row wi r (m + 1) = rbN row wi r m + (if r m = 0 then 0 else pR row (wi m)) := rfl
      have := ih (by omega)
      rw [e1, e2]
      by_cases c : r m = 0
      · rw [if_neg (hz m (by omega) c), if_pos c]; omega
      · rw [if_neg c]; split <;> omega
  exact this n (Nat.le_refl _)
end
