section
/-! TOKENS on both sides -/
def ltr (x : Int32) : Bool := !decide (x < 97) && !decide (122 < x)
def dgt (x : Int32) : Bool := !decide (x < 48) && !decide (57 < x)
def blk (x : Int32) : Bool := decide (x = 32)
/-- the end of a row of such bytes from p on, j are left -/
def spn (P : Int32 → Bool) (tp : Nat → Int32) : Nat → Nat → Nat := fun j => match j with
  | 0 => fun p => p
  | j + 1 => fun p => if P (tp p) = true then spn P tp j (p + 1) else p
theorem spn_s {P : Int32 → Bool} {tp : Nat → Int32} {j p : Nat} : spn P tp (j + 1) p = if P (tp p) = true then spn P tp j (p + 1) else p := rfl
theorem spn_b {P : Int32 → Bool} {tp : Nat → Int32} : ∀ j p, p ≤ spn P tp j p ∧ spn P tp j p ≤ p + j := by
  intro j
  induction j with
  | zero => intro p; exact ⟨Nat.le_refl _, Nat.le_refl _⟩
  | succ j ih =>
    intro p
    rw [spn_s]
    by_cases c : P (tp p) = true
    · rw [if_pos c]; have := ih (p + 1); omega
    · rw [if_neg c]; omega
def bl (L : Nat) (tp : Nat → Int32) (p : Nat) : Nat := spn blk tp (L - p) p
def tkT (L : Nat) (tp : Nat → Int32) (b : Nat) : Nat := if L ≤ b then 0 else if ltr (tp b) = true then 1 else if dgt (tp b) = true then 2 else 3
def tkE (L : Nat) (tp : Nat → Int32) (b : Nat) : Nat := if L ≤ b then b else if ltr (tp b) = true then spn ltr tp (L - b) b else if dgt (tp b) = true then spn dgt tp (L - b) b else b + 1
def nxt (L : Nat) (tp : Nat → Int32) (b : Nat) : Nat := bl L tp (tkE L tp b)
theorem bl_b {L : Nat} {tp : Nat → Int32} {p : Nat} (h : p ≤ L) : p ≤ bl L tp p ∧ bl L tp p ≤ L := by
  unfold bl
  have := spn_b (P := blk) (tp := tp) (L - p) p
  omega
theorem tkE_b {L : Nat} {tp : Nat → Int32} {b : Nat} (h : b ≤ L) : b ≤ tkE L tp b ∧ tkE L tp b ≤ L ∧ (b < L → b < tkE L tp b) := by
  unfold tkE
  by_cases c : L ≤ b
  · rw [if_pos c]; omega
  · rw [if_neg c]
    obtain ⟨d, hd⟩ : ∃ d, L - b = d + 1 := ⟨L - b - 1, by omega⟩
    by_cases c1 : ltr (tp b) = true
    · rw [if_pos c1, hd, spn_s, if_pos c1]
      have := spn_b (P := ltr) (tp := tp) d (b + 1)
      omega
    · rw [if_neg c1]
      by_cases c2 : dgt (tp b) = true
      · rw [if_pos c2, hd, spn_s, if_pos c2]
        have := spn_b (P := dgt) (tp := tp) d (b + 1)
        omega
      · rw [if_neg c2]; omega
theorem nxt_b {L : Nat} {tp : Nat → Int32} {b : Nat} (h : b ≤ L) : b ≤ nxt L tp b ∧ nxt L tp b ≤ L ∧ (b < L → b < nxt L tp b) := by
  obtain ⟨h1, h2, h3⟩ := tkE_b (tp := tp) h
  have := bl_b (tp := tp) h2
  unfold nxt
  omega
/-! numbers -/
def cnm (tp : Nat → Int32) : Nat → Nat → Nat → Nat := fun j => match j with
  | 0 => fun _ v => v
  | j + 1 => fun p v => if dgt (tp p) = true then cnm tp j (p + 1) (min 1000000 (v * 10 + (cl (tp p) - 48))) else v
def wnm (tp : Nat → Int32) : Nat → Nat → Nat → Nat := fun j => match j with
  | 0 => fun _ v => v
  | j + 1 => fun p v => if dgt (tp p) = true then wnm tp j (p + 1) (if v ≤ 100000 then v * 10 + (cl (tp p) - 48) else v) else v
theorem cnm_s {tp : Nat → Int32} {j p v : Nat} : cnm tp (j + 1) p v = if dgt (tp p) = true then cnm tp j (p + 1) (min 1000000 (v * 10 + (cl (tp p) - 48))) else v := rfl
theorem wnm_s {tp : Nat → Int32} {j p v : Nat} : wnm tp (j + 1) p v = if dgt (tp p) = true then wnm tp j (p + 1) (if v ≤ 100000 then v * 10 + (cl (tp p) - 48) else v) else v := rfl
theorem dgt_n {x : Int32} (h : dgt x = true) : x = nI (cl x) ∧ 48 ≤ cl x ∧ cl x ≤ 57 := by
  unfold dgt at h
  have h' := Bool.and_eq_true_iff.mp h
  have a1 : ¬ x < 48 := by simpa using h'.1
  have a2 : ¬ (57 : Int32) < x := by simpa using h'.2
  rw [Int32.lt_iff_toInt_lt] at a1 a2
  have e1 : (48 : Int32).toInt = 48 := by decide
  have e2 : (57 : Int32).toInt = 57 := by decide
  obtain ⟨j, j1, j2, j3⟩ := rg_nI (a := 48) (b := 57) (x := x) ⟨by omega, by omega⟩ (by decide)
  rw [j3, show cl (nI j) = j from nI_clamp (by omega)]
  exact ⟨rfl, j1, j2⟩
theorem cw_nm {tp : Nat → Int32} : ∀ j p c w, (c ≤ 100000 ∧ w = c) ∨ (100000 < c ∧ 100000 < w) → (cnm tp j p c ≤ 100000 ∧ wnm tp j p w = cnm tp j p c) ∨ (100000 < cnm tp j p c ∧ 100000 < wnm tp j p w) := by
  intro j
  induction j with
  | zero => intro p c w h; exact h
  | succ j ih =>
    intro p c w h
    rw [cnm_s, wnm_s]
    by_cases d : dgt (tp p) = true
    · rw [if_pos d, if_pos d]
      refine ih (p + 1) _ _ ?_
      have := dgt_n d
      rcases h with ⟨h1, h2⟩ | ⟨h1, h2⟩
      · subst h2
        rw [if_pos h1]
        omega
      · rw [if_neg (by omega)]
        omega
    · rw [if_neg d, if_neg d]; exact h
theorem cnm_le {tp : Nat → Int32} : ∀ j p c, c ≤ 1000000 → cnm tp j p c ≤ 1000000 := by
  intro j
  induction j with
  | zero => intro p c h; exact h
  | succ j ih =>
    intro p c h
    rw [cnm_s]
    by_cases d : dgt (tp p) = true
    · rw [if_pos d]; exact ih _ _ (Nat.min_le_left _ _)
    · rw [if_neg d]; exact h
theorem wnm_le {tp : Nat → Int32} : ∀ j p c, c ≤ 1000009 → wnm tp j p c ≤ 1000009 := by
  intro j
  induction j with
  | zero => intro p c h; exact h
  | succ j ih =>
    intro p c h
    rw [wnm_s]
    by_cases d : dgt (tp p) = true
    · rw [if_pos d]
      have := dgt_n d
      refine ih _ _ ?_
      by_cases e : c ≤ 100000
      · rw [if_pos e]; omega
      · rw [if_neg e]; exact h
    · rw [if_neg d]; exact h
def tkN (L : Nat) (tp : Nat → Int32) (b : Nat) : Nat := if tkT L tp b = 2 then cnm tp (L - b) b 0 else 0
theorem tkT_e {L : Nat} {tp : Nat → Int32} {b : Nat} (h : L ≤ b) : tkT L tp b = 0 := by unfold tkT; rw [if_pos h]
theorem tkT_w {L : Nat} {tp : Nat → Int32} {b : Nat} (h : ¬ L ≤ b) (h1 : ltr (tp b) = true) : tkT L tp b = 1 := by unfold tkT; rw [if_neg h, if_pos h1]
theorem tkT_d {L : Nat} {tp : Nat → Int32} {b : Nat} (h : ¬ L ≤ b) (h1 : ltr (tp b) = false) (h2 : dgt (tp b) = true) : tkT L tp b = 2 := by unfold tkT; rw [if_neg h, h1, if_neg (by decide), if_pos h2]
theorem tkT_s {L : Nat} {tp : Nat → Int32} {b : Nat} (h : ¬ L ≤ b) (h1 : ltr (tp b) = false) (h2 : dgt (tp b) = false) : tkT L tp b = 3 := by unfold tkT; rw [if_neg h, h1, if_neg (by decide), h2, if_neg (by decide)]
/-! words of the reference -/
def wcd (tp : Nat → Int32) : Nat → Nat → Nat → Int64 → Int64 := fun j => match j with
  | 0 => fun _ _ v => v
  | j + 1 => fun p k v => if ltr (tp p) = true then wcd tp j (p + 1) (k + 1) (if 10 ≤ k then -1 else v * 32 + (tp p).toInt64 - 96) else v
theorem wcd_s {tp : Nat → Int32} {j p k : Nat} {v : Int64} : wcd tp (j + 1) p k v = if ltr (tp p) = true then wcd tp j (p + 1) (k + 1) (if 10 ≤ k then -1 else v * 32 + (tp p).toInt64 - 96) else v := rfl
def tkW (L : Nat) (tp : Nat → Int32) (b : Nat) : Int64 := if tkT L tp b = 0 then 0 else if tkT L tp b = 1 then wcd tp (L - b) b 0 0 else if tkT L tp b = 2 then lN (wnm tp (L - b) b 0) else (tp b).toInt64
/-! the class -/
def TkC (L : Nat) (tp : Nat → Int32) (b : Nat) (σ : AH) : Prop := gI σ 22 9 = nI b ∧ gI σ 22 10 = nI (tkE L tp b) ∧ gI σ 22 11 = nI (tkT L tp b) ∧ gI σ 22 12 = nI (tkN L tp b) ∧ b ≤ L
def TKf : List (Nat × Nat) := [(22, 9), (22, 10), (22, 11), (22, 12)]
theorem F_isLetterC {x : Int32} {σ : AH} : F_X5_isLetter x σ = some (b2 (ltr x), σ) := by
  unfold F_X5_isLetter ltr
  by_cases c1 : x < 97
  · rw [if_pos c1, decide_eq_true c1]; rfl
  · rw [if_neg c1, decide_eq_false c1]
    by_cases c2 : (122 : Int32) < x
    · rw [if_pos c2, decide_eq_true c2]; rfl
    · rw [if_neg c2, decide_eq_false c2]; rfl
theorem F_isDigitC {x : Int32} {σ : AH} : F_X5_isDigit x σ = some (b2 (dgt x), σ) := by
  unfold F_X5_isDigit dgt
  by_cases c1 : x < 48
  · rw [if_pos c1, decide_eq_true c1]; rfl
  · rw [if_neg c1, decide_eq_false c1]
    by_cases c2 : (57 : Int32) < x
    · rw [if_pos c2, decide_eq_true c2]; rfl
    · rw [if_neg c2, decide_eq_false c2]; rfl
theorem F_isSmallR {x : Int32} {σ : AH} : F_X12_isSmall x σ = some (b2 (ltr x), σ) := F_isLetterC
theorem F_isDigitR {x : Int32} {σ : AH} : F_X12_isDigit x σ = some (b2 (dgt x), σ) := F_isDigitC
theorem step5 {L g : Nat} {tp : Nat → Int32} {σ : AH} (h : TpC L tp σ) : ∀ (j p : Nat), p + j = L → F_X5_step_5 (j + 1 + g) (nI p) σ = F_X5_step_30 (nI (spn blk tp j p)) σ := by
  obtain ⟨h1, h2, h3⟩ := h
  intro j
  induction j with
  | zero =>
    intro p hp
    rw [show 0 + 1 + g = g + 1 by omega]
    show B_X5_step_5 (F_X5_step_5 g) (nI p) σ = _
    unfold B_X5_step_5
    rw [h1, if_pos (nI_le (by omega) (by omega))]; rfl
  | succ j ih =>
    intro p hp
    rw [show j + 1 + 1 + g = (j + 1 + g) + 1 by omega]
    show B_X5_step_5 (F_X5_step_5 (j + 1 + g)) (nI p) σ = _
    unfold B_X5_step_5
    rw [h1, if_neg (nI_ge (by omega) (by omega)), if_pos (inB_n (by omega) (by omega)), nI_clamp (by omega), h3 p (by omega), spn_s]
    unfold blk
    by_cases c : tp p = 32
    · rw [if_pos c, if_pos (decide_eq_true c), nI_1]; exact ih (p + 1) (by omega)
    · rw [if_neg c, if_neg (fun z => c (of_decide_eq_true z))]
theorem step73 {L g : Nat} {tp : Nat → Int32} {σ : AH} (h : TpC L tp σ) : ∀ (j p : Nat), p + j = L → F_X5_step_73 (j + 1 + g) (nI p) σ = F_X5_step_176 (nI (spn ltr tp j p)) σ := by
  obtain ⟨h1, h2, h3⟩ := h
  intro j
  induction j with
  | zero =>
    intro p hp
    rw [show 0 + 1 + g = g + 1 by omega]
    show B_X5_step_73 (F_X5_step_73 g) (nI p) σ = _
    unfold B_X5_step_73
    rw [h1, if_pos (nI_le (by omega) (by omega))]; rfl
  | succ j ih =>
    intro p hp
    rw [show j + 1 + 1 + g = (j + 1 + g) + 1 by omega]
    show B_X5_step_73 (F_X5_step_73 (j + 1 + g)) (nI p) σ = _
    unfold B_X5_step_73
    rw [h1, if_neg (nI_ge (by omega) (by omega)), if_pos (inB_n (by omega) (by omega)), nI_clamp (by omega), h3 p (by omega), F_isLetterC, bd_some, spn_s]
    cases c : ltr (tp p) with
    | true => rw [if_neg (show ¬ b2 true = 0 by decide), if_pos rfl, nI_1]; exact ih (p + 1) (by omega)
    | false => rw [if_pos (show b2 false = 0 from rfl), if_neg (by decide)]
theorem step116 {L g : Nat} {tp : Nat → Int32} : ∀ (j p v : Nat) (σ : AH), TpC L tp σ → p + j = L → v ≤ 1000000 → gI σ 22 12 = nI v → ∃ τ, F_X5_step_116 (j + 1 + g) (nI p) σ = F_X5_step_176 (nI (spn dgt tp j p)) τ ∧ gI τ 22 12 = nI (cnm tp j p v) ∧ Ch [] [(22, 12)] σ τ := by
  intro j
  induction j with
  | zero =>
    intro p v σ h hp hv h12
    obtain ⟨h1, h2, h3⟩ := h
    rw [show 0 + 1 + g = g + 1 by omega]
    refine ⟨σ, ?_, h12, Ch.rf _⟩
    show B_X5_step_116 (F_X5_step_116 g) (nI p) σ = _
    unfold B_X5_step_116
    rw [h1, if_pos (nI_le (by omega) (by omega))]; rfl
  | succ j ih =>
    intro p v σ h hp hv h12
    obtain ⟨h1, h2, h3⟩ := id h
    rw [show j + 1 + 1 + g = (j + 1 + g) + 1 by omega]
    show ∃ τ, B_X5_step_116 (F_X5_step_116 (j + 1 + g)) (nI p) σ = _ ∧ _
    unfold B_X5_step_116
    rw [h1, if_neg (nI_ge (by omega) (by omega)), if_pos (inB_n (by omega) (by omega)), nI_clamp (by omega), h3 p (by omega), F_isDigitC, bd_some, spn_s, cnm_s]
    cases c : dgt (tp p) with
    | false =>
      rw [if_pos (show b2 false = 0 from rfl), if_neg (by decide), if_neg (by decide)]
      exact ⟨σ, rfl, h12, Ch.rf _⟩
    | true =>
      obtain ⟨e1, e2, e3⟩ := dgt_n c
      have ev : nI v * (10 : Int32) + tp p - (48 : Int32) = nI (v * 10 + (cl (tp p) - 48)) := by
        rw [fa_lit 10, pk_mul, e1, nI_add, show cl (nI (cl (tp p))) = cl (tp p) from nI_clamp (by omega), fa_lit 48]
        apply Int32.toInt_inj.mp
        rw [Int32.toInt_sub, nI_toInt (by omega), nI_toInt (by decide), nI_toInt (by omega)]
        rw [Int.bmod_eq_of_le (by omega) (by omega)]
        omega
      rw [if_neg (show ¬ b2 true = 0 by decide), if_pos (inB_n (by omega) (by omega)), h12, h3 p (by omega), ev, nI_1, if_pos rfl, if_pos rfl]
      have im : imin (1000000 : Int32) (nI (v * 10 + (cl (tp p) - 48))) = nI (min 1000000 (v * 10 + (cl (tp p) - 48))) := imin_n (u := 1000000) (by omega) (by omega)
      rw [im]
      have k1 : Ch [] [(22, 12)] σ (sI σ 22 12 (nI (min 1000000 (v * 10 + (cl (tp p) - 48))))) := Ch.sI1 (Or.inl (by simp))
      obtain ⟨τ, t1, t2, t3⟩ := ih (p + 1) (min 1000000 (v * 10 + (cl (tp p) - 48))) _ (h.ch k1 (by simp) (by simp)) (by omega) (Nat.min_le_left _ _) gI_sI_at
      exact ⟨τ, t1, t2, k1.trans t3⟩
theorem F_stepC {L e : Nat} {tp : Nat → Int32} {σ : AH} (h : TpC L tp σ) (he : gI σ 22 10 = nI e) (hL : e ≤ L) : ∃ τ, F_X5_step σ = some τ ∧ TkC L tp (bl L tp e) τ ∧ Ch [] TKf σ τ := by
  have L4 := h.2.1
  obtain ⟨b1, b2'⟩ := bl_b (tp := tp) hL
  unfold F_X5_step
  obtain ⟨g, hg⟩ := BIGe (L - e) (by omega)
  have s5 := step5 (g := g) h (L - e) e (by omega)
  have s5' : F_X5_step_5 BIG (nI e) σ = F_X5_step_30 (nI (bl L tp e)) σ := by rw [hg]; exact s5
  rw [he, s5']
  obtain ⟨b, hb⟩ : ∃ b, b = bl L tp e := ⟨_, rfl⟩
  rw [← hb] at b1 b2' ⊢
  unfold F_X5_step_30
  obtain ⟨s1, hs1⟩ : ∃ s1, s1 = sI (sI σ 22 9 (nI b)) 22 12 0 := ⟨_, rfl⟩
  rw [show sI (sI σ 22 9 (nI b)) 22 12 (0 : Int32) = s1 from hs1.symm]
  have k1 : Ch [] TKf σ s1 := by rw [hs1]; exact (Ch.sI1 (Or.inl (by simp [TKf]))).trans (Ch.sI1 (Or.inl (by simp [TKf])))
  have T1 : TpC L tp s1 := h.ch k1 (by simp) (by simp [TKf])
  have g9 : gI s1 22 9 = nI b := by rw [hs1, gI_sI_ne (by decide), gI_sI_at]
  have g12 : gI s1 22 12 = 0 := by rw [hs1, gI_sI_at]
  have fin : ∀ (s2 : AH) (e' S N : Nat), Ch [] TKf σ s2 → gI s2 22 9 = nI b → gI s2 22 11 = nI S → gI s2 22 12 = nI N → tkE L tp b = e' → tkT L tp b = S → tkN L tp b = N → ∃ τ, F_X5_step_176 (nI e') s2 = some τ ∧ TkC L tp b τ ∧ Ch [] TKf σ τ := fun s2 e' S N k2 q9 q11 q12 z1 z2 z3 => by
    unfold F_X5_step_176
    have c3 : Ch [] TKf s2 (sI s2 22 10 (nI e')) := Ch.sI1 (Or.inl (by simp [TKf]))
    exact ⟨_, rfl, ⟨by rw [gI_sI_ne (by decide)]; exact q9, by rw [z1]; exact gI_sI_at, by rw [gI_sI_ne (by decide), z2]; exact q11, by rw [gI_sI_ne (by decide), z3]; exact q12, b2'⟩, k2.trans c3⟩
  rw [T1.1]
  by_cases c : L ≤ b
  · rw [if_neg (show ¬ nI b < nI L from fun z => by rw [Int32.lt_iff_toInt_lt, nI_toInt (by omega), nI_toInt (by omega)] at z; omega)]
    have cc : Ch [] TKf s1 (sI s1 22 11 0) := Ch.sI1 (Or.inl (by simp [TKf]))
    refine fin _ b 0 0 (k1.trans cc) (by rw [gI_sI_ne (by decide)]; exact g9) gI_sI_at (by rw [gI_sI_ne (by decide)]; exact g12) ?_ ?_ ?_
    · unfold tkE; rw [if_pos c]
    · exact tkT_e c
    · unfold tkN; rw [tkT_e c, if_neg (by decide)]
  · rw [if_pos (nI_lt (by omega) (by omega)), if_pos (inB_n (by omega) (by omega)), nI_clamp (by omega), T1.2.2 b (by omega), F_isLetterC, bd_some]
    cases c1 : ltr (tp b) with
    | true =>
      rw [if_neg (show ¬ b2 true = 0 by decide)]
      have cc : Ch [] TKf s1 (sI s1 22 11 1) := Ch.sI1 (Or.inl (by simp [TKf]))
      obtain ⟨g', hg'⟩ := BIGe (L - b) (by omega)
      have T2 : TpC L tp (sI s1 22 11 1) := T1.ch cc (by simp) (by simp [TKf])
      rw [hg', step73 T2 (L - b) b (by omega)]
      refine fin _ _ 1 0 (k1.trans cc) (by rw [gI_sI_ne (by decide)]; exact g9) gI_sI_at (by rw [gI_sI_ne (by decide)]; exact g12) ?_ ?_ ?_
      · unfold tkE; rw [if_neg c, if_pos c1]
      · exact tkT_w c c1
      · unfold tkN; rw [tkT_w c c1, if_neg (by decide)]
    | false =>
      rw [if_pos (show b2 false = 0 from rfl), if_pos (inB_n (by omega) (by omega)), T1.2.2 b (by omega), F_isDigitC, bd_some]
      cases c2 : dgt (tp b) with
      | true =>
        rw [if_neg (show ¬ b2 true = 0 by decide)]
        have cc : Ch [] TKf s1 (sI s1 22 11 2) := Ch.sI1 (Or.inl (by simp [TKf]))
        obtain ⟨g', hg'⟩ := BIGe (L - b) (by omega)
        have T2 : TpC L tp (sI s1 22 11 2) := T1.ch cc (by simp) (by simp [TKf])
        obtain ⟨s3, t1, t2, t3⟩ := step116 (g := g') (L - b) b 0 _ T2 (by omega) (by omega) (by rw [gI_sI_ne (by decide)]; exact g12)
        rw [hg', t1]
        refine fin _ _ 2 _ ((k1.trans cc).trans (t3.mono (by simp) (by simp [TKf]))) (by rw [t3.pI (by simp) (by simp), gI_sI_ne (by decide)]; exact g9) (by rw [t3.pI (by simp) (by simp)]; exact gI_sI_at) t2 ?_ ?_ ?_
        · unfold tkE; rw [if_neg c, if_neg (by rw [c1]; decide), if_pos c2]
        · exact tkT_d c c1 c2
        · unfold tkN; rw [tkT_d c c1 c2, if_pos rfl]
      | false =>
        rw [if_pos (show b2 false = 0 from rfl), nI_1]
        have cc : Ch [] TKf s1 (sI s1 22 11 3) := Ch.sI1 (Or.inl (by simp [TKf]))
        refine fin _ _ 3 0 (k1.trans cc) (by rw [gI_sI_ne (by decide)]; exact g9) gI_sI_at (by rw [gI_sI_ne (by decide)]; exact g12) ?_ ?_ ?_
        · unfold tkE; rw [if_neg c, if_neg (by rw [c1]; decide), if_neg (by rw [c2]; decide)]
        · exact tkT_s c c1 c2
        · unfold tkN; rw [tkT_s c c1 c2, if_neg (by decide)]
theorem F_step1 {L b : Nat} {tp : Nat → Int32} {σ : AH} (h : TpC L tp σ) (hk : TkC L tp b σ) : ∃ τ, F_X5_step σ = some τ ∧ TkC L tp (nxt L tp b) τ ∧ Ch [] TKf σ τ := F_stepC h hk.2.1 (tkE_b hk.2.2.2.2).2.1
end
