section
/-! WORDS and signs on both sides -/
def eqA (g : Nat → Int32) (tp : Nat → Int32) (b : Nat) : Nat → Nat → Bool := fun j => match j with
  | 0 => fun _ => true
  | j + 1 => fun t => decide (tp (b + t) = g t) && eqA g tp b j (t + 1)
theorem eqA_s {g tp : Nat → Int32} {b j t : Nat} : eqA g tp b (j + 1) t = (decide (tp (b + t) = g t) && eqA g tp b j (t + 1)) := rfl
theorem eqA_iff {g tp : Nat → Int32} {b : Nat} : ∀ j t, eqA g tp b j t = true ↔ ∀ i, t ≤ i → i < t + j → tp (b + i) = g i := by
  intro j
  induction j with
  | zero => intro t; exact ⟨fun _ i h1 h2 => by omega, fun _ => rfl⟩
  | succ j ih =>
    intro t
    rw [eqA_s, Bool.and_eq_true, decide_eq_true_iff, ih (t + 1)]
    constructor
    · intro h i h1 h2
      by_cases e : i = t
      · rw [e]; exact h.1
      · exact h.2 i (by omega) (by omega)
    · intro h
      exact ⟨h t (Nat.le_refl _) (by omega), fun i h1 h2 => h i (by omega) (by omega)⟩
theorem eqA_cg {g g' tp : Nat → Int32} {b n : Nat} (h : ∀ i, i < n → g i = g' i) : eqA g tp b n 0 = eqA g' tp b n 0 := by
  have := eqA_iff (g := g) (tp := tp) (b := b) n 0
  have h' := eqA_iff (g := g') (tp := tp) (b := b) n 0
  apply Bool.eq_iff_iff.mpr
  rw [this, h']
  exact ⟨fun z i h1 h2 => by rw [← h i (by omega)]; exact z i h1 h2, fun z i h1 h2 => by rw [h i (by omega)]; exact z i h1 h2⟩
def isW (L : Nat) (tp : Nat → Int32) (b : Nat) (w : List Int32) : Bool := decide (tkT L tp b = 1) && (decide (tkE L tp b = b + w.length) && eqA (fun t => w.getD t 0) tp b w.length 0)
def isS (L : Nat) (tp : Nat → Int32) (b : Nat) (x : Int32) : Bool := decide (tkT L tp b = 3) && decide (tp b = x)
def ixQ (L : Nat) (tp : Nat → Int32) (b : Nat) : List (List Int32) → Nat → Option Nat := fun ws => match ws with
  | [] => fun _ => none
  | w :: t => fun q => if isW L tp b w = true then some q else ixQ L tp b t (q + 1)
theorem ixQ_c {L : Nat} {tp : Nat → Int32} {b q : Nat} {w : List Int32} {t : List (List Int32)} : ixQ L tp b (w :: t) q = if isW L tp b w = true then some q else ixQ L tp b t (q + 1) := rfl
theorem ixQ_n {L : Nat} {tp : Nat → Int32} {b q : Nat} : ixQ L tp b [] q = none := rfl
theorem ixQ_lt {L : Nat} {tp : Nat → Int32} {b : Nat} : ∀ (ws : List (List Int32)) (q r : Nat), ixQ L tp b ws q = some r → q ≤ r ∧ r < q + ws.length := by
  intro ws
  induction ws with
  | nil => intro q r h; cases h
  | cons w t ih =>
    intro q r h
    rw [ixQ_c] at h
    by_cases c : isW L tp b w = true
    · rw [if_pos c] at h; cases h; exact ⟨Nat.le_refl _, by rw [List.length_cons]; omega⟩
    · rw [if_neg c] at h
      have := ih (q + 1) r h
      rw [List.length_cons]
      omega
theorem isW_sort {L : Nat} {tp : Nat → Int32} {b : Nat} {w : List Int32} (h : isW L tp b w = true) : tkT L tp b = 1 := of_decide_eq_true (Bool.and_eq_true_iff.mp h).1
theorem isS_sort {L : Nat} {tp : Nat → Int32} {b : Nat} {x : Int32} (h : isS L tp b x = true) : tkT L tp b = 3 := of_decide_eq_true (Bool.and_eq_true_iff.mp h).1
theorem tkT_lt {L : Nat} {tp : Nat → Int32} {b : Nat} (h : tkT L tp b ≠ 0) : b < L := by
  rcases Nat.lt_or_ge b L with z | z
  · exact z
  · exact absurd (tkT_e z) h
def wds : List (List (List Int32)) := [[[115, 116, 114, 105, 107, 101]], [[99, 108, 97, 117, 115, 101]],
  [[110, 101, 101, 100], [119, 111, 114, 107], [112, 111, 105, 110, 116, 115], [108, 105, 99, 101, 110, 99, 101], [114, 101, 110, 116], [104, 117, 116, 115], [115, 113, 117, 97, 116], [102, 105, 114, 115, 116]],
  [[98, 114, 105, 99, 107], [115, 116, 101, 101, 108], [104, 117, 116]], [[98, 97, 115, 101], [115, 104, 101, 108, 108], [102, 105, 116]],
  [[98, 114, 105, 99, 107, 115], [116, 105, 109, 98, 101, 114], [115, 116, 101, 101, 108], [99, 111, 97, 108], [107, 105, 116, 115]],
  [[114, 111, 111, 109, 115], [112, 101, 114, 115, 111, 110, 115], [99, 104, 105, 108, 100, 114, 101, 110], [105, 108, 108], [119, 97, 105, 116, 101, 100], [104, 97, 118, 101], [119, 101, 101, 107]],
  [[108, 101, 97, 115, 116], [109, 111, 115, 116]], [[105, 102]], [[110, 111, 116]], [[97, 110, 100]], [[111, 114]]]
def wL (k : Nat) : List (List Int32) := wds.getD k []
/-! the class -/
def isM (L : Nat) (tp : Nat → Int32) (b k x y : Nat) : Bool := decide (tkT L tp b = 1) && (decide (tkE L tp b = b + (y - x)) && eqA (fun t => (st_byt.getD k []).getD (x + t) 0) tp b (y - x) 0)
theorem spelled28 {L b k x y g : Nat} {tp : Nat → Int32} {σ : AH} (h : TpC L tp σ) (hk : TkC L tp b σ) (hy : y ≤ st_len.getD k 0) (hl : st_len.getD k 0 ≤ 400) (hE : tkE L tp b = b + (y - x)) : ∀ (j t : Nat), x + t + j = y → F_X5_isSpelled_28 (j + 1 + g) k (nI x) (nI y) (nI (x + t)) σ = some (b2 (eqA (fun t => (st_byt.getD k []).getD (x + t) 0) tp b j t), σ) := by
  obtain ⟨h1, h2, h3⟩ := h
  have eb := (tkE_b (tp := tp) hk.2.2.2.2)
  intro j
  induction j with
  | zero =>
    intro t ht
    rw [show 0 + 1 + g = g + 1 by omega]
    show B_X5_isSpelled_28 (F_X5_isSpelled_28 g) k (nI x) (nI y) (nI (x + t)) σ = _
    unfold B_X5_isSpelled_28
    rw [if_pos (nI_le (by omega) (by omega))]; rfl
  | succ j ih =>
    intro t ht
    rw [show j + 1 + 1 + g = (j + 1 + g) + 1 by omega]
    show B_X5_isSpelled_28 (F_X5_isSpelled_28 (j + 1 + g)) k (nI x) (nI y) (nI (x + t)) σ = _
    unfold B_X5_isSpelled_28
    have ix : nI b + nI (x + t) - nI x = nI (b + t) := by rw [nI_add, nI_sub (by omega) (by omega)]; congr 1; omega
    have ca : F_J0_charAt_5068e k (nI (x + t)) σ = some ((st_byt.getD k []).getD (x + t) 0, σ) := by
      unfold F_J0_charAt_5068e
      rw [if_pos (inB_n (by omega) (by omega)), nI_clamp (by omega)]
    rw [if_neg (nI_ge (by omega) (by omega)), hk.1, ix, if_pos (inB_n (by omega) (by omega)), ca, bd_some, nI_clamp (by omega), h3 (b + t) (by omega), eqA_s, nI_1]
    by_cases c : tp (b + t) = (st_byt.getD k []).getD (x + t) 0
    · rw [if_pos c, decide_eq_true c, Bool.true_and]
      exact ih (t + 1) (by omega)
    · rw [if_neg c, decide_eq_false c, Bool.false_and]; rfl
theorem F_isSpelledC {L b k x y : Nat} {tp : Nat → Int32} {σ : AH} (h : TpC L tp σ) (hk : TkC L tp b σ) (hxy : x ≤ y) (hy : y ≤ st_len.getD k 0) (hl : st_len.getD k 0 ≤ 400) : F_X5_isSpelled k (nI x) (nI y) σ = some (b2 (isM L tp b k x y), σ) := by
  have eb := (tkE_b (tp := tp) hk.2.2.2.2)
  have L4 := h.2.1
  have ts : tkT L tp b ≤ 3 := by
    unfold tkT
    by_cases c : L ≤ b
    · rw [if_pos c]; omega
    · rw [if_neg c]
      by_cases c1 : ltr (tp b) = true
      · rw [if_pos c1]; omega
      · rw [if_neg c1]
        by_cases c2 : dgt (tp b) = true
        · rw [if_pos c2]; omega
        · rw [if_neg c2]; omega
  unfold F_X5_isSpelled isM
  rw [hk.2.2.1, hk.1, hk.2.1, nI_sub eb.1 (by omega), nI_sub hxy (by omega)]
  by_cases c1 : tkT L tp b = 1
  · rw [if_pos (show nI (tkT L tp b) = (1 : Int32) by rw [c1]; rfl), decide_eq_true c1, Bool.true_and]
    by_cases c2 : tkE L tp b = b + (y - x)
    · rw [if_pos (by rw [c2]; congr 1; omega), decide_eq_true c2, Bool.true_and]
      obtain ⟨g, hg⟩ := BIGe (y - x) (by omega)
      have := spelled28 (g := g) h hk hy hl c2 (y - x) 0 (by omega)
      rw [hg]; exact this
    · rw [if_neg (fun z => c2 (by have := (nI_eq (by omega) (by omega)).mp z; omega)), decide_eq_false c2, Bool.false_and]; rfl
  · rw [if_neg (show ¬ nI (tkT L tp b) = (1 : Int32) from fun z => c1 ((nI_eq (b := 1) (by omega) (by decide)).mp z)), decide_eq_false c1, Bool.false_and]; rfl
def wIx (M : Nat → Nat → Bool) (cs : List Int32) : Nat → Nat → Nat → Nat → Option Nat := fun j => match j with
  | 0 => fun _ _ _ => none
  | j + 1 => fun i x q => if i = cs.length then (if M x i = true then some q else wIx M cs j (i + 1) (i + 1) (q + 1)) else if cs.getD i 0 = 32 then (if M x i = true then some q else wIx M cs j (i + 1) (i + 1) (q + 1)) else wIx M cs j (i + 1) x q
theorem wIx_s {M : Nat → Nat → Bool} {cs : List Int32} {j i x q : Nat} : wIx M cs (j + 1) i x q = if i = cs.length then (if M x i = true then some q else wIx M cs j (i + 1) (i + 1) (q + 1)) else if cs.getD i 0 = 32 then (if M x i = true then some q else wIx M cs j (i + 1) (i + 1) (q + 1)) else wIx M cs j (i + 1) x q := rfl
theorem wordIn7 {L b k g : Nat} {tp : Nat → Int32} {σ : AH} (h : TpC L tp σ) (hk : TkC L tp b σ) (hl : st_len.getD k 0 ≤ 400) (hc : (st_byt.getD k []).length = st_len.getD k 0) : ∀ (j i x q : Nat), i + j = st_len.getD k 0 + 1 → x ≤ i → F_X5_wordIn_7 (j + 1 + g) k (nI q) (nI x) (nI i) σ = some (oI (wIx (isM L tp b k) (st_byt.getD k []) j i x q), σ) := by
  have ln : ∀ s : AH, F_J0_length_8abf5 k s = some (nI (st_len.getD k 0), s) := fun s => rfl
  intro j
  induction j with
  | zero =>
    intro i x q hi hx
    rw [show 0 + 1 + g = g + 1 by omega]
    show B_X5_wordIn_7 (F_X5_wordIn_7 g) k (nI q) (nI x) (nI i) σ = _
    unfold B_X5_wordIn_7
    rw [ln, bd_some, if_pos (nI_lt (by omega) (by omega))]; rfl
  | succ j ih =>
    intro i x q hi hx
    rw [show j + 1 + 1 + g = (j + 1 + g) + 1 by omega]
    show B_X5_wordIn_7 (F_X5_wordIn_7 (j + 1 + g)) k (nI q) (nI x) (nI i) σ = _
    unfold B_X5_wordIn_7
    have sp : F_X5_wordIn_36 (F_X5_wordIn_7 (j + 1 + g)) k (nI q) (nI x) (nI i) σ = some (oI (if isM L tp b k x i = true then some q else wIx (isM L tp b k) (st_byt.getD k []) j (i + 1) (i + 1) (q + 1)), σ) := by
      unfold F_X5_wordIn_36 F_X5_wordIn_57
      rw [F_isSpelledC h hk hx (by omega) hl, bd_some, nI_1, nI_1]
      cases isM L tp b k x i with
      | true => rw [if_neg (show ¬ b2 true = 0 by decide), if_pos rfl]; rfl
      | false => rw [if_pos (show b2 false = 0 from rfl), if_neg (by decide)]; exact ih (i + 1) (i + 1) (q + 1) (by omega) (by omega)
    rw [ln, bd_some, if_neg (show ¬ nI (st_len.getD k 0) < nI i from fun z => by rw [Int32.lt_iff_toInt_lt, nI_toInt (by omega), nI_toInt (by omega)] at z; omega), ln, bd_some, wIx_s, hc]
    by_cases c : i = st_len.getD k 0
    · rw [if_pos (by rw [c]), if_pos c]; exact sp
    · have ca : F_J0_charAt_5068e k (nI i) σ = some ((st_byt.getD k []).getD i 0, σ) := by
        unfold F_J0_charAt_5068e
        rw [if_pos (inB_n (by omega) (by omega)), nI_clamp (by omega)]
      rw [if_neg (fun z => c ((nI_eq (by omega) (by omega)).mp z)), if_neg c, ca, bd_some]
      by_cases c2 : (st_byt.getD k []).getD i 0 = 32
      · rw [if_pos c2, if_pos c2]; exact sp
      · rw [if_neg c2, if_neg c2]
        unfold F_X5_wordIn_57
        rw [nI_1]
        exact ih (i + 1) x q (by omega) (by omega)
theorem isM_w {L b k x y : Nat} {tp : Nat → Int32} {w : List Int32} (hl : w.length = y - x) (hg : ∀ i, i < y - x → (st_byt.getD k []).getD (x + i) 0 = w.getD i 0) : isM L tp b k x y = isW L tp b w := by
  unfold isM isW
  rw [hl, eqA_cg hg]
theorem F_wordInC {L b k : Nat} {tp : Nat → Int32} {σ : AH} (h : TpC L tp σ) (hk : TkC L tp b σ) (h12 : k < 12) : F_X5_wordIn k σ = some (oI (ixQ L tp b (wL k) 0), σ) := by
  have lens : ∀ j : Fin 12, st_len.getD j.val 0 ≤ 400 ∧ (st_byt.getD j.val []).length = st_len.getD j.val 0 := by decide +kernel
  have hl : st_len.getD k 0 ≤ 400 := (lens ⟨k, h12⟩).1
  have hc : (st_byt.getD k []).length = st_len.getD k 0 := (lens ⟨k, h12⟩).2
  unfold F_X5_wordIn
  obtain ⟨g, hg⟩ := BIGe (st_len.getD k 0 + 1) (by omega)
  have lp := wordIn7 (g := g) h hk hl hc (st_len.getD k 0 + 1) 0 0 0 (by omega) (by omega)
  have lp' : F_X5_wordIn_7 BIG k (0 : Int32) (0 : Int32) (0 : Int32) σ = some (oI (wIx (isM L tp b k) (st_byt.getD k []) (st_len.getD k 0 + 1) 0 0 0), σ) := by rw [hg]; exact lp
  rw [lp']
  have m : ∀ x y w, w.length = y - x → (∀ i : Fin (y - x), (st_byt.getD k []).getD (x + i.val) 0 = w.getD i.val 0) → isM L tp b k x y = isW L tp b w := fun x y w e1 e2 => isM_w e1 (fun i hi => e2 ⟨i, hi⟩)
  have ks : k = 0 ∨ k = 1 ∨ k = 2 ∨ k = 3 ∨ k = 4 ∨ k = 5 ∨ k = 6 ∨ k = 7 ∨ k = 8 ∨ k = 9 ∨ k = 10 ∨ k = 11 := by omega
  rcases ks with rfl | rfl | rfl | rfl | rfl | rfl | rfl | rfl | rfl | rfl | rfl | rfl
  · have e : ∀ M : Nat → Nat → Bool, wIx M (st_byt.getD 0 []) (st_len.getD 0 0 + 1) 0 0 0 = if M 0 6 = true then some 0 else none := fun M => rfl
    rw [e, m 0 6 [115, 116, 114, 105, 107, 101] rfl (by decide +kernel)]; rfl
  · have e : ∀ M : Nat → Nat → Bool, wIx M (st_byt.getD 1 []) (st_len.getD 1 0 + 1) 0 0 0 = if M 0 6 = true then some 0 else none := fun M => rfl
    rw [e, m 0 6 [99, 108, 97, 117, 115, 101] rfl (by decide +kernel)]; rfl
  · have e : ∀ M : Nat → Nat → Bool, wIx M (st_byt.getD 2 []) (st_len.getD 2 0 + 1) 0 0 0 = if M 0 4 = true then some 0 else if M 5 9 = true then some 1 else if M 10 16 = true then some 2 else if M 17 24 = true then some 3 else if M 25 29 = true then some 4 else if M 30 34 = true then some 5 else if M 35 40 = true then some 6 else if M 41 46 = true then some 7 else none := fun M => rfl
    rw [e, m 0 4 [110, 101, 101, 100] rfl (by decide +kernel), m 5 9 [119, 111, 114, 107] rfl (by decide +kernel), m 10 16 [112, 111, 105, 110, 116, 115] rfl (by decide +kernel), m 17 24 [108, 105, 99, 101, 110, 99, 101] rfl (by decide +kernel), m 25 29 [114, 101, 110, 116] rfl (by decide +kernel), m 30 34 [104, 117, 116, 115] rfl (by decide +kernel), m 35 40 [115, 113, 117, 97, 116] rfl (by decide +kernel), m 41 46 [102, 105, 114, 115, 116] rfl (by decide +kernel)]; rfl
  · have e : ∀ M : Nat → Nat → Bool, wIx M (st_byt.getD 3 []) (st_len.getD 3 0 + 1) 0 0 0 = if M 0 5 = true then some 0 else if M 6 11 = true then some 1 else if M 12 15 = true then some 2 else none := fun M => rfl
    rw [e, m 0 5 [98, 114, 105, 99, 107] rfl (by decide +kernel), m 6 11 [115, 116, 101, 101, 108] rfl (by decide +kernel), m 12 15 [104, 117, 116] rfl (by decide +kernel)]; rfl
  · have e : ∀ M : Nat → Nat → Bool, wIx M (st_byt.getD 4 []) (st_len.getD 4 0 + 1) 0 0 0 = if M 0 4 = true then some 0 else if M 5 10 = true then some 1 else if M 11 14 = true then some 2 else none := fun M => rfl
    rw [e, m 0 4 [98, 97, 115, 101] rfl (by decide +kernel), m 5 10 [115, 104, 101, 108, 108] rfl (by decide +kernel), m 11 14 [102, 105, 116] rfl (by decide +kernel)]; rfl
  · have e : ∀ M : Nat → Nat → Bool, wIx M (st_byt.getD 5 []) (st_len.getD 5 0 + 1) 0 0 0 = if M 0 6 = true then some 0 else if M 7 13 = true then some 1 else if M 14 19 = true then some 2 else if M 20 24 = true then some 3 else if M 25 29 = true then some 4 else none := fun M => rfl
    rw [e, m 0 6 [98, 114, 105, 99, 107, 115] rfl (by decide +kernel), m 7 13 [116, 105, 109, 98, 101, 114] rfl (by decide +kernel), m 14 19 [115, 116, 101, 101, 108] rfl (by decide +kernel), m 20 24 [99, 111, 97, 108] rfl (by decide +kernel), m 25 29 [107, 105, 116, 115] rfl (by decide +kernel)]; rfl
  · have e : ∀ M : Nat → Nat → Bool, wIx M (st_byt.getD 6 []) (st_len.getD 6 0 + 1) 0 0 0 = if M 0 5 = true then some 0 else if M 6 13 = true then some 1 else if M 14 22 = true then some 2 else if M 23 26 = true then some 3 else if M 27 33 = true then some 4 else if M 34 38 = true then some 5 else if M 39 43 = true then some 6 else none := fun M => rfl
    rw [e, m 0 5 [114, 111, 111, 109, 115] rfl (by decide +kernel), m 6 13 [112, 101, 114, 115, 111, 110, 115] rfl (by decide +kernel), m 14 22 [99, 104, 105, 108, 100, 114, 101, 110] rfl (by decide +kernel), m 23 26 [105, 108, 108] rfl (by decide +kernel), m 27 33 [119, 97, 105, 116, 101, 100] rfl (by decide +kernel), m 34 38 [104, 97, 118, 101] rfl (by decide +kernel), m 39 43 [119, 101, 101, 107] rfl (by decide +kernel)]; rfl
  · have e : ∀ M : Nat → Nat → Bool, wIx M (st_byt.getD 7 []) (st_len.getD 7 0 + 1) 0 0 0 = if M 0 5 = true then some 0 else if M 6 10 = true then some 1 else none := fun M => rfl
    rw [e, m 0 5 [108, 101, 97, 115, 116] rfl (by decide +kernel), m 6 10 [109, 111, 115, 116] rfl (by decide +kernel)]; rfl
  · have e : ∀ M : Nat → Nat → Bool, wIx M (st_byt.getD 8 []) (st_len.getD 8 0 + 1) 0 0 0 = if M 0 2 = true then some 0 else none := fun M => rfl
    rw [e, m 0 2 [105, 102] rfl (by decide +kernel)]; rfl
  · have e : ∀ M : Nat → Nat → Bool, wIx M (st_byt.getD 9 []) (st_len.getD 9 0 + 1) 0 0 0 = if M 0 3 = true then some 0 else none := fun M => rfl
    rw [e, m 0 3 [110, 111, 116] rfl (by decide +kernel)]; rfl
  · have e : ∀ M : Nat → Nat → Bool, wIx M (st_byt.getD 10 []) (st_len.getD 10 0 + 1) 0 0 0 = if M 0 3 = true then some 0 else none := fun M => rfl
    rw [e, m 0 3 [97, 110, 100] rfl (by decide +kernel)]; rfl
  · have e : ∀ M : Nat → Nat → Bool, wIx M (st_byt.getD 11 []) (st_len.getD 11 0 + 1) 0 0 0 = if M 0 2 = true then some 0 else none := fun M => rfl
    rw [e, m 0 2 [111, 114] rfl (by decide +kernel)]; rfl
end
