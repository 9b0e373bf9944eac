section
theorem isW_inj {L b : Nat} {tp : Nat → Int32} {w w' : List Int32} (h : isW L tp b w = true) (h' : isW L tp b w' = true) : w = w' := by
  unfold isW at h h'
  obtain ⟨_, a⟩ := Bool.and_eq_true_iff.mp h
  obtain ⟨a1, a2⟩ := Bool.and_eq_true_iff.mp a
  obtain ⟨_, c⟩ := Bool.and_eq_true_iff.mp h'
  obtain ⟨c1, c2⟩ := Bool.and_eq_true_iff.mp c
  have e1 := of_decide_eq_true a1
  have e2 := of_decide_eq_true c1
  have hl : w.length = w'.length := by omega
  have f1 := (eqA_iff _ _).mp a2
  have f2 := (eqA_iff _ _).mp c2
  apply List.ext_getElem hl
  intro i h1 h2
  have g1 := f1 i (by omega) (by omega)
  have g2 := f2 i (by omega) (by omega)
  rw [g1] at g2
  have g3 : w.getD i 0 = w'.getD i 0 := g2
  rw [List.getD_eq_getElem?_getD, List.getElem?_eq_getElem h1, List.getD_eq_getElem?_getD, List.getElem?_eq_getElem h2] at g3
  exact g3
theorem ixQ_w {L b : Nat} {tp : Nat → Int32} : ∀ (ws : List (List Int32)) (q r : Nat), ixQ L tp b ws q = some r → isW L tp b (ws.getD (r - q) []) = true := by
  intro ws
  induction ws with
  | nil => intro q r h; cases h
  | cons w t ih =>
    intro q r h
    rw [ixQ_c] at h
    by_cases c : isW L tp b w = true
    · rw [if_pos c] at h
      cases h
      rw [Nat.sub_self, List.getD_cons_zero]; exact c
    · rw [if_neg c] at h
      have lt := ixQ_lt _ _ _ h
      have := ih (q + 1) r h
      rw [show r - q = (r - (q + 1)) + 1 by omega, List.getD_cons_succ]
      exact this
theorem ixQ_no {L b : Nat} {tp : Nat → Int32} (h : tkT L tp b ≠ 1) : ∀ (ws : List (List Int32)) (q : Nat), ixQ L tp b ws q = none := by
  intro ws
  induction ws with
  | nil => intro q; rfl
  | cons w t ih => intro q; rw [ixQ_c, if_neg (fun y => h (isW_sort y))]; exact ih _
def oI1 (x : Option Nat) : Int32 := match x with | none => -1 | some q => nI (q + 1)
theorem F_partAtR {L b : Nat} {tp : Nat → Int32} {σ : AH} (hk : TkR L tp b σ) : F_X12_partAt σ = some (oI1 (ixQ L tp b (wL 6) 0), σ) := by
  have w0 : F_X12_isWord (19381683 : Int64) σ = some (b2 (isW L tp b [114, 111, 111, 109, 115]), σ) := F_isWordR hk (by decide) (by decide)
  have w1 : F_X12_isWord (17367154131 : Int64) σ = some (b2 (isW L tp b [112, 101, 114, 115, 111, 110, 115]), σ) := F_isWordR hk (by decide) (by decide)
  have w2 : F_X12_isWord (111983872174 : Int64) σ = some (b2 (isW L tp b [99, 104, 105, 108, 100, 114, 101, 110]), σ) := F_isWordR hk (by decide) (by decide)
  have w3 : F_X12_isWord (9612 : Int64) σ = some (b2 (isW L tp b [105, 108, 108]), σ) := F_isWordR hk (by decide) (by decide)
  have w4 : F_X12_isWord (773116068 : Int64) σ = some (b2 (isW L tp b [119, 97, 105, 116, 101, 100]), σ) := F_isWordR hk (by decide) (by decide)
  have w5 : F_X12_isWord (263877 : Int64) σ = some (b2 (isW L tp b [104, 97, 118, 101]), σ) := F_isWordR hk (by decide) (by decide)
  have w6 : F_X12_isWord (758955 : Int64) σ = some (b2 (isW L tp b [119, 101, 101, 107]), σ) := F_isWordR hk (by decide) (by decide)
  have e : ixQ L tp b (wL 6) 0 = if isW L tp b [114, 111, 111, 109, 115] = true then some 0 else if isW L tp b [112, 101, 114, 115, 111, 110, 115] = true then some 1 else if isW L tp b [99, 104, 105, 108, 100, 114, 101, 110] = true then some 2 else if isW L tp b [105, 108, 108] = true then some 3 else if isW L tp b [119, 97, 105, 116, 101, 100] = true then some 4 else if isW L tp b [104, 97, 118, 101] = true then some 5 else if isW L tp b [119, 101, 101, 107] = true then some 6 else none := rfl
  rw [e]
  have hn : ∀ {α : Type} {x y : α}, (if b2 true = 0 then x else y) = y := fun {α x y} => if_neg (show ¬ b2 true = 0 by decide)
  have hp : ∀ {α : Type} {x y : α}, (if b2 false = 0 then x else y) = x := fun {α x y} => if_pos (show b2 false = 0 from rfl)
  have bn : ∀ {α : Type} {x y : α}, (if false = true then x else y) = y := fun {α x y} => if_neg (by decide)
  have bp : ∀ {α : Type} {x y : α}, (if true = true then x else y) = x := fun {α x y} => if_pos rfl
  unfold F_X12_partAt
  rw [w0, bd_some]
  cases c0 : isW L tp b [114, 111, 111, 109, 115] with
  | true =>
    unfold F_X12_partAt_30
    rw [hn, bp, w0, bd_some, c0, hn]; rfl
  | false =>
    rw [hp, bn, w1, bd_some]
    cases c1 : isW L tp b [112, 101, 114, 115, 111, 110, 115] with
    | true =>
      unfold F_X12_partAt_30
      rw [hn, bp, w0, bd_some, c0, hp, w1, bd_some, c1, hn]; rfl
    | false =>
      rw [hp, bn, w2, bd_some]
      cases c2 : isW L tp b [99, 104, 105, 108, 100, 114, 101, 110] with
      | true =>
        unfold F_X12_partAt_30
        rw [hn, bp, w0, bd_some, c0, hp, w1, bd_some, c1, hp]; rfl
      | false =>
        rw [hp, bn, w3, bd_some]
        cases c3 : isW L tp b [105, 108, 108] with
        | true => rw [hn, bp]; rfl
        | false =>
          rw [hp, bn, w4, bd_some]
          cases c4 : isW L tp b [119, 97, 105, 116, 101, 100] with
          | true => rw [hn, bp]; rfl
          | false =>
            rw [hp, bn, w5, bd_some]
            cases c5 : isW L tp b [104, 97, 118, 101] with
            | true => rw [hn, bp]; rfl
            | false =>
              rw [hp, bn, w6, bd_some]
              cases c6 : isW L tp b [119, 101, 101, 107] with
              | true => rw [hn, bp]; rfl
              | false => rw [hp, bn]; rfl
/-- a NUMBER or setting, in the reference -/
theorem leafR {L b m np o c r : Nat} {tp : Nat → Int32} {P : List (Nat × Nat)} {x1 : Int32} {σ : AH} (h : RgS L tp b m np o P σ) (hb : b < L) (hnp : np < 60) (hx : (if x1 = (-1 : Int32) then (0 : Int32) else x1) = nI c) : ∃ τ, F_X12_readPart_138 x1 (nI r) (1 : Int32) σ = some (3, τ) ∧ RgS L tp (nxt L tp b) (m + 1) (np + 1) o P τ ∧ gI τ 130 = va_up (gI σ 130) m (nI c) ∧ gI τ 131 = va_up (gI σ 131) m (nI r) ∧ Ch RRc RRf σ τ := by
  have nb := nxt_b (tp := tp) h.b.1
  have bm := h.b
  obtain ⟨s1, t1, t2, t3, t4, t5⟩ := F_must1 (v := 1) h (by decide)
  obtain ⟨h1, h2, h3, h4, h5, h6, h7, h8, h9, h10, h11⟩ := t2
  obtain ⟨s2, e1, e2, e3, e4, e5⟩ := F_emitR (x := nI c) (y := nI r) h4 (by omega)
  unfold F_X12_readPart_138 F_X12_readPart_159
  have F0 : (if x1 = (-1 : Int32) then (bv (F_X12_emit (0 : Int32) (nI r) s1) fun σ58 => some ((3 : Int32), sI σ58 124 18 ((gI σ58 124 18) + (1 : Int32)))) else (bv (F_X12_emit x1 (nI r) s1) fun σ58 => some ((3 : Int32), sI σ58 124 18 ((gI σ58 124 18) + (1 : Int32))))) = (bv (F_X12_emit (nI c) (nI r) s1) fun σ58 => some ((3 : Int32), sI σ58 124 18 ((gI σ58 124 18) + (1 : Int32)))) := by
    by_cases z : x1 = -1
    · rw [if_pos z] at hx ⊢; rw [hx]
    · rw [if_neg z] at hx ⊢; rw [hx]
  have q18 : gI s2 124 18 = nI np := by rw [e5.pI (by simp) (by simp)]; exact h5
  rw [t1, bv_some, if_pos h3, F0, e1, bv_some, q18, nI_1]
  have k3 : Ch [130, 131] [(124, 15), (124, 18)] s1 (sI s2 124 18 (nI (np + 1))) := (e5.mono (by simp) (by simp)).trans (Ch.sI1 (Or.inl (by simp)))
  refine ⟨_, rfl, ⟨h1.ch k3 (by simp) (by simp), ?_, by rw [k3.pI (by simp) (by simp)]; exact h3, by rw [gI_sI_ne (by decide)]; exact e2, gI_sI_at, by rw [k3.pI (by simp) (by simp)]; exact h6, h7.ch k3 (by simp) (by simp), by omega, by omega, h10, h11⟩, by rw [gI_sI_row (by decide), e3, t3], by rw [gI_sI_row (by decide), e4, t4], t5.trans (k3.mono (by simp [RRc]) (by simp [RRf]))⟩
  obtain ⟨q1, q2, q3, q4, q5⟩ := h2
  exact ⟨by rw [k3.pI (by simp) (by simp)]; exact q1, by rw [k3.pI (by simp) (by simp)]; exact q2, by rw [k3.pI (by simp) (by simp)]; exact q3, by rw [k3.pL (by simp) (by simp)]; exact q4, q5⟩
theorem leafX {L b m np o : Nat} {tp : Nat → Int32} {P : List (Nat × Nat)} {x1 x3 : Int32} {σ : AH} (h : RgS L tp b m np o P σ) : ∃ τ, F_X12_readPart_137 x1 x3 σ = some (3, τ) ∧ RgX L tp b m P τ ∧ Ch RRc RRf σ τ := by
  obtain ⟨s1, t1, t2, t3⟩ := F_must0 h
  unfold F_X12_readPart_137 F_X12_readPart_138
  rw [t1, bv_some, t2.2.1, if_neg (show ¬ (1 : Int32) = 0 by decide)]
  exact ⟨s1, rfl, t2, t3⟩
theorem tkN_W {L b : Nat} {tp : Nat → Int32} (h : tkT L tp b = 2) : ∃ w, tkW L tp b = lN w ∧ w ≤ 1000009 ∧ (w ≤ 10000 ↔ tkN L tp b ≤ 10000) ∧ (w ≤ 10000 → w = tkN L tp b) := by
  refine ⟨wnm tp (L - b) b 0, ?_, wnm_le _ _ _ (by decide), ?_⟩
  · unfold tkW; rw [h, if_neg (by decide), if_neg (by decide), if_pos rfl]
  · have e : tkN L tp b = cnm tp (L - b) b 0 := by unfold tkN; rw [if_pos h]
    have := cw_nm (tp := tp) (L - b) b 0 0 (Or.inl ⟨by decide, rfl⟩)
    rw [e]
    omega
/-- readPart where it is no bracket and no least, most -/
theorem part_word {L b m np o : Nat} {tp : Nat → Int32} {P : List (Nat × Nat)} {σ : AH} (h : RgS L tp b m np o P σ) (n1 : isS L tp b 91 = false) (n2 : isW L tp b [108, 101, 97, 115, 116] = false) (n3 : isW L tp b [109, 111, 115, 116] = false) : F_X12_readPart σ = if tkT L tp b = 2 then (if (10000 : Int64) < tkW L tp b then F_X12_readPart_98 (oI1 (ixQ L tp b (wL 6) 0)) σ else F_X12_readPart_99 (oI1 (ixQ L tp b (wL 6) 0)) (1 : Int32) σ) else F_X12_readPart_98 (oI1 (ixQ L tp b (wL 6) 0)) σ := by
  have hk := h.2.1
  have wl : F_X12_isWord (12748404 : Int64) σ = some (b2 (isW L tp b [108, 101, 97, 115, 116]), σ) := F_isWordR hk (by decide) (by decide)
  have wm : F_X12_isWord (441972 : Int64) σ = some (b2 (isW L tp b [109, 111, 115, 116]), σ) := F_isWordR hk (by decide) (by decide)
  unfold F_X12_readPart
  rw [F_isSignR hk, bd_some, n1, if_pos (show b2 false = 0 from rfl), wl, bd_some, n2, if_pos (show b2 false = 0 from rfl), wm, bd_some, n3, if_pos (show b2 false = 0 from rfl), F_partAtR hk, bd_some, hk.2.2.1, hk.2.2.2.1]
  by_cases c : tkT L tp b = 2
  · rw [if_pos (show nI (tkT L tp b) = (2 : Int32) by rw [c]; rfl), if_pos c]
  · rw [if_neg (show ¬ nI (tkT L tp b) = (2 : Int32) from fun z => c ((tkT_i (n := 2) (by decide)).mp z)), if_neg c]
def RgP (L : Nat) (tp : Nat → Int32) (p : Nat → Nat → PR) (lo hi lv T0 T1 : Nat) (E : Nat → Prop) (o : Nat) (cx : List (Nat × Nat) → Int32 → Prop) : Prop := ∀ x1 b m np P σ, RgS L tp b m np o P σ → TopLt lv P → cx P x1 → RgR L tp p lo hi T0 T1 E x1 b m np o P σ
theorem fail1 {L b m' T : Nat} {tp : Nat → Int32} {x1 v : Int32} {P' : List (Nat × Nat)} {σ τ : AH} (h : ∀ g, F_X12_readExpression_20 (g + 1) x1 (nI T) σ = F_X12_readExpression_20 g x1 v τ) (hx : RgX L tp b m' P' τ) : ∀ g, F_X12_readExpression_20 (g + 1 + 1) x1 (nI T) σ = F_X12_readExpression_76 τ := fun g => by
  rw [h, fe_x hx.2.1]
theorem PnR.nil {hh : Nat} {op ar : Nat → Int32} {m i k : Nat} {D : Den} (h : SgV hh op ar i m k D) (hi : i < m) : PnR hh [] op ar m i k D := ⟨(fun q hq => by cases hq), hi, h⟩
theorem Rg_part {L o : Nat} {tp : Nat → Int32} {S : Nat → Nat → PR} {ok : Bool} (hok : ok = decide (o < 8)) (hS : ok = true → RgP L tp S 8 11 5 1 3 (NA L tp [42, 47, 43, 45]) (o + 1) (fun _ _ => True)) : RgP L tp (prPart L tp S ok) 10 11 7 1 3 (fun _ => True) o (fun _ _ => True) := by
  intro x1 b m np P σ h _ _
  have bm := h.b
  have h0 := h.2.2.1
  have nb := nxt_b (tp := tp) bm.1
  have np60 := h.2.2.2.2.2.2.2.2.1
  have fx : ∀ (v : Int32) (τ : AH) (m' : Nat) (P' : List (Nat × Nat)), F_X12_readPart σ = some (v, τ) → RgX L tp b m' P' τ → Ch RRc RRf σ τ → ∃ τ k m' P', (∀ g, F_X12_readExpression_20 (g + k + 1) x1 (nI 1) σ = F_X12_readExpression_76 τ) ∧ RgX L tp b m' P' τ ∧ b ≤ b ∧ k ≤ 4 * (b - b) + 4 ∧ Ch RRc RRf σ τ := fun v τ m' P' e hx c => ⟨τ, 1, m', P', fail1 (fe_1 h0 e) hx, hx, Nat.le_refl _, by omega, c⟩
  by_cases t2 : tkT L tp b = 2
  · have lt := tkT_lt (L := L) (tp := tp) (b := b) (by rw [t2]; decide)
    have n1 : isS L tp b 91 = false := by
      cases z : isS L tp b 91 with
      | false => rfl
      | true => have := isS_sort z; omega
    have nw : ∀ w, isW L tp b w = false := fun w => by
      cases z : isW L tp b w with
      | false => rfl
      | true => have := isW_sort z; omega
    have F0 := part_word h n1 (nw _) (nw _)
    rw [if_pos t2, ixQ_no (by omega), show oI1 none = -1 from rfl] at F0
    obtain ⟨w, w1, w2, w3, w4⟩ := tkN_W t2
    rw [w1] at F0
    have cmp : ((10000 : Int64) < lN w) ↔ ¬ w ≤ 10000 := by
      have := lN_lt (a := 10000) (b := w) (by decide) (by omega)
      rw [show (10000 : Int64) = lN 10000 from rfl, this]; omega
    by_cases q : tkN L tp b ≤ 10000
    · rw [if_neg (fun z => cmp.mp z (w3.mpr q))] at F0
      unfold F_X12_readPart_99 F_X12_readPart_113 F_X12_readPart_124 at F0
      rw [if_neg (show ¬ (1 : Int32) = 0 by decide), if_pos rfl, if_neg (show ¬ (1 : Int32) = 0 by decide), h.2.2.2.2.1, h.2.1.2.2.2.1, w1, lN_i, w4 (w3.mpr q)] at F0
      by_cases n60 : np < 60
      · obtain ⟨τ, u1, u2, u3, u4, u5⟩ := leafR (c := 0) (r := tkN L tp b) (x1 := -1) h lt n60 rfl
        rw [if_neg (show ¬ (60 : Int32) ≤ nI np from nI_ge (b := 60) n60 (by decide)), u1] at F0
        refine RgR.good (by unfold prPart; rw [if_pos t2, if_pos ⟨q, n60⟩]) ⟨τ, 1, m + 1, [], fe_1 h0 F0, u2, (fun q hq => by cases hq), trivial, by omega, fun t ht => ⟨by rw [u3, va_lo ht], by rw [u4, va_lo ht]⟩, ?_, u5⟩
        rw [show np + 1 - np = 1 by omega]
        exact PnR.nil (SgV.num (by rw [u3, up_same]) (by rw [u4, up_same]) q) (by omega)
      · obtain ⟨τ, u1, u2, u3⟩ := leafX (x1 := -1) (x3 := nI (tkN L tp b)) h
        rw [if_pos (show (60 : Int32) ≤ nI np from nI_le (a := 60) (by omega) (by omega)), u1] at F0
        exact RgR.fail (by unfold prPart; rw [if_pos t2, if_neg (fun z => n60 z.2)]) (fx _ _ _ _ F0 u2 u3)
    · rw [if_pos (cmp.mpr (fun z => q (w3.mp z)))] at F0
      obtain ⟨τ, u1, u2, u3⟩ := leafX (x1 := -1) (x3 := 0) h
      unfold F_X12_readPart_98 F_X12_readPart_99 F_X12_readPart_113 at F0
      rw [if_pos rfl, if_pos rfl, if_pos rfl, u1] at F0
      exact RgR.fail (by unfold prPart; rw [if_pos t2, if_neg (fun z => q z.1)]) (fx _ _ _ _ F0 u2 u3)
  · cases ix : ixQ L tp b (wL 6) 0 with
    | some q =>
      have wq := ixQ_w _ _ _ ix
      rw [Nat.sub_zero] at wq
      have q7 := ixQ_lt _ _ _ ix
      have wl6 : (wL 6).length = 7 := by decide
      have lt := tkT_lt (L := L) (tp := tp) (b := b) (by rw [isW_sort wq]; decide)
      have n1 : isS L tp b 91 = false := by
        cases z : isS L tp b 91 with
        | false => rfl
        | true => have := isS_sort z; have := isW_sort wq; omega
      have dif : ∀ r : Fin 7, (wL 6).getD r.val [] ≠ [108, 101, 97, 115, 116] ∧ (wL 6).getD r.val [] ≠ [109, 111, 115, 116] := by decide +kernel
      have d := dif ⟨q, by omega⟩
      have n2 : isW L tp b [108, 101, 97, 115, 116] = false := by
        cases z : isW L tp b [108, 101, 97, 115, 116] with
        | false => rfl
        | true => exact absurd (isW_inj wq z) d.1
      have n3 : isW L tp b [109, 111, 115, 116] = false := by
        cases z : isW L tp b [109, 111, 115, 116] with
        | false => rfl
        | true => exact absurd (isW_inj wq z) d.2
      have F0 := part_word h n1 n2 n3
      rw [if_neg t2, ix, show oI1 (some q) = nI (q + 1) from rfl] at F0
      unfold F_X12_readPart_98 F_X12_readPart_99 F_X12_readPart_113 F_X12_readPart_124 at F0
      rw [if_pos rfl, if_neg (nI_neg1 (by omega)), h.2.2.2.2.1] at F0
      by_cases n60 : np < 60
      · obtain ⟨τ, u1, u2, u3, u4, u5⟩ := leafR (c := q + 1) (r := 0) (x1 := nI (q + 1)) h lt n60 (by rw [if_neg (nI_neg1 (by omega))])
        have u1' : F_X12_readPart_138 (nI (q + 1)) (0 : Int32) (1 : Int32) σ = some (3, τ) := u1
        rw [if_neg (show ¬ (60 : Int32) ≤ nI np from nI_ge (b := 60) n60 (by decide)), u1'] at F0
        refine RgR.good (b0 := nxt L tp b) (n0 := np + 1) (D0 := fun st => some (st q).toInt64) (by unfold prPart; rw [if_neg t2, ix]; show (if np < 60 then _ else _) = _; rw [if_pos n60]) ⟨τ, 1, m + 1, [], fe_1 h0 F0, u2, (fun q hq => by cases hq), trivial, by omega, fun t ht => ⟨by rw [u3, va_lo ht], by rw [u4, va_lo ht]⟩, ?_, u5⟩
        rw [show np + 1 - np = 1 by omega]
        exact PnR.nil (SgV.set (by rw [u3, up_same]) (by rw [u4, up_same]; rfl) (by omega) hx_16) (by omega)
      · obtain ⟨τ, u1, u2, u3⟩ := leafX (x1 := nI (q + 1)) (x3 := 0) h
        rw [if_pos (show (60 : Int32) ≤ nI np from nI_le (a := 60) (by omega) (by omega)), u1] at F0
        exact RgR.fail (b0 := b) (by unfold prPart; rw [if_neg t2, ix]; show (if np < 60 then _ else _) = _; rw [if_neg n60]) (fx _ _ _ _ F0 u2 u3)
    | none =>
      have p0 : prPart L tp S ok b np = if ok = true then (if isS L tp b 91 = true then prSq L tp S (nxt L tp b) np else match ixQ L tp b (wL 7) 0 with
            | none => (b, none)
            | some q => prLm L tp S q (nxt L tp b) np) else (b, none) := by
        unfold prPart; rw [if_neg t2, ix]; rfl
      cases s91 : isS L tp b 91 with
      | true =>
        have lt := tkT_lt (L := L) (tp := tp) (b := b) (by rw [isS_sort s91]; decide)
        have F0 : F_X12_readPart σ = bv (F_X12_open (31 : Int32) σ) fun σ26 => some ((1 : Int32), σ26) := by
          unfold F_X12_readPart
          rw [F_isSignR h.2.1, bd_some, s91, if_neg (show ¬ b2 true = 0 by decide)]
        rcases F_openR (br := 31) h lt (by decide) with ⟨o8, τ, a1, a2, a3⟩ | ⟨o8, s1, a1, a2, a3, a4, a5⟩
        · have a1' : F_X12_open (31 : Int32) σ = some τ := a1
          rw [a1', bv_some] at F0
          have okf : ok = false := by rw [hok, decide_eq_false (by omega)]
          rw [okf, if_neg (by decide)] at p0
          rw [okf]
          exact RgR.fail p0 (fx _ _ _ _ F0 a2 a3)
        · have a1' : F_X12_open (31 : Int32) σ = some s1 := a1
          rw [a1', bv_some] at F0
          have okt : ok = true := by rw [hok, decide_eq_true o8]
          rw [okt, if_pos rfl, s91, if_pos rfl] at p0
          rw [okt]
          have r0 : Rn x1 1 σ 1 1 s1 := fe_1 h0 F0
          obtain ⟨r1, r2⟩ := hS okt x1 _ _ _ _ _ a2 (top_br (by decide) (by decide)) trivial
          unfold prSq at p0
          rcases hr : S (nxt L tp b) np with ⟨b2, _ | ⟨n2, D2⟩⟩
          · rw [hr] at p0
            obtain ⟨τ, k, m', P', u1, u2, u3, u4, u5⟩ := r1 b2 hr
            exact RgR.fail p0 ⟨τ, 1 + k, m', P', fun g => by rw [show g + (1 + k) + 1 = (g + k + 1) + 1 by omega, r0, u1], u2, by omega, by omega, a5.trans u5⟩
          · rw [hr] at p0
            have p1 : prPart L tp S true b np = if isS L tp b2 93 = true then (nxt L tp b2, some (n2, D2)) else (b2, none) := p0
            obtain ⟨s2, k, m2, Q, u1, u2, u3, u4, u5, u6, u7, u8⟩ := r2 b2 n2 D2 hr
            have bb := beh_br (x1 := x1) u2 u3 u4 (by decide)
            have rr : Rn x1 1 σ (1 + k) 3 s2 := r0.trans u1
            rcases brk93 u2 u3 (Or.inl rfl) with ⟨c1, τ, c2, c3, c4⟩ | ⟨c1, τ, c2, _, _, c3, c9, c4, c5, c6⟩
            · rw [c1, if_neg (by decide)] at p1
              rw [c2, bd_some] at bb
              exact RgR.fail p1 ⟨τ, 1 + k + 1, _, _, fun g => by rw [show g + (1 + k + 1) + 1 = (g + 1 + 1) + (1 + k) by omega, rr, fail1 (fe_3 u2.2.2.1 bb) c3], c3, by omega, by omega, (a5.trans u8).trans c4⟩
            · rw [c1, if_pos rfl] at p1
              rw [c2 rfl, bd_some] at bb
              have nb2 := nxt_b (tp := tp) u2.b.1
              have sl := setQ_lo (i := m) Q (gI s2 130, gI s2 131, m2) (by have := u7.2.1; show m ≤ m2; omega) u7.1
              have mm : m2 ≤ (setQ Q (gI s2 130, gI s2 131, m2)).2.2 := (setQ_m Q (gI s2 130, gI s2 131, m2)).1
              refine RgR.good p1 ⟨τ, 1 + k + 1, _, [], rr.trans (fe_3 u2.2.2.1 bb), c3, (fun q hq => by cases hq), trivial, by omega, fun t ht => ?_, ?_, (a5.trans u8).trans c6⟩
              · have := sl t ht
                rw [c4, c5]
                exact ⟨this.1.trans ((u6 t ht).1.trans (by rw [a3])), this.2.trans ((u6 t ht).2.trans (by rw [a4]))⟩
              · refine PnR.nil ?_ (by have := u7.2.1; omega)
                rw [c4, c5]
                exact u7.2.2
      | false =>
        have wl : F_X12_isWord (12748404 : Int64) σ = some (b2 (isW L tp b [108, 101, 97, 115, 116]), σ) := F_isWordR h.2.1 (by decide) (by decide)
        have wm : F_X12_isWord (441972 : Int64) σ = some (b2 (isW L tp b [109, 111, 115, 116]), σ) := F_isWordR h.2.1 (by decide) (by decide)
        have i7 : ixQ L tp b (wL 7) 0 = if isW L tp b [108, 101, 97, 115, 116] = true then some 0 else if isW L tp b [109, 111, 115, 116] = true then some 1 else none := rfl
        -- least or most
        have go : ∀ q, (q = 0 ∨ q = 1) → ixQ L tp b (wL 7) 0 = some q → b < L → F_X12_readPart σ = F_X12_readPart_55 (nI (32 + q)) σ → RgR L tp (prPart L tp S ok) 10 11 1 3 (fun _ => True) x1 b m np o P σ := fun q hq iq lt F0 => by
          unfold F_X12_readPart_55 at F0
          rcases F_openR (br := 32 + q) h lt (by omega) with ⟨o8, τ, a1, a2, a3⟩ | ⟨o8, s1, a1, a2, a3, a4, a5⟩
          · have okf : ok = false := by rw [hok, decide_eq_false (by omega)]
            have sg : ∃ v, F_X12_isSign (91 : Int32) τ = some (v, τ) := by
              unfold F_X12_isSign
              by_cases z1 : gI τ 124 9 = (3 : Int32)
              · rw [if_pos z1]
                by_cases z2 : gL τ 124 10 = (91 : Int32).toInt64
                · rw [if_pos z2]; exact ⟨_, rfl⟩
                · rw [if_neg z2]; exact ⟨_, rfl⟩
              · rw [if_neg z1]; exact ⟨_, rfl⟩
            obtain ⟨v, hv⟩ := sg
            rw [a1, bv_some, hv, bd_some, F_mustX a2.2.1, bv_some] at F0
            rw [okf, if_neg (by decide)] at p0
            rw [okf]
            exact RgR.fail p0 (fx _ _ _ _ F0 a2 a3)
          · have okt : ok = true := by rw [hok, decide_eq_true o8]
            rw [okt, if_pos rfl, s91, if_neg (by decide), iq] at p0
            have p1 : prPart L tp S true b np = prLm L tp S q (nxt L tp b) np := p0
            rw [okt]
            rw [a1, bv_some, F_isSignR a2.2.1, bd_some] at F0
            unfold prLm at p1
            cases s2 : isS L tp (nxt L tp b) 91 with
            | false =>
              obtain ⟨τ, t1, t2', t3⟩ := F_must0 a2
              rw [s2, show b2 false = (0 : Int32) from rfl, t1, bv_some] at F0
              rw [s2, if_neg (by decide)] at p1
              exact RgR.fail p1 ⟨τ, 1, _, _, fail1 (fe_1 h0 F0) t2', t2', by omega, by omega, a5.trans t3⟩
            | true =>
              obtain ⟨s3, t1, t2', t3, t4, t5⟩ := F_must1 (v := 1) a2 (by decide)
              have nb1 := nxt_b (tp := tp) nb.2.1
              rw [s2, show b2 true = (1 : Int32) from rfl, t1, bv_some] at F0
              rw [s2, if_pos rfl] at p1
              have r0 : Rn x1 1 σ 1 1 s3 := fe_1 h0 F0
              obtain ⟨r1, r2⟩ := hS okt x1 _ _ _ _ _ t2' (top_br (by omega) (by decide)) trivial
              unfold prLm1 at p1
              rcases hr : S (nxt L tp (nxt L tp b)) np with ⟨b2, _ | ⟨n2, D2⟩⟩
              · rw [hr] at p1
                obtain ⟨τ, k, m', P', u1, u2, u3, u4, u5⟩ := r1 b2 hr
                exact RgR.fail p1 ⟨τ, 1 + k, m', P', fun g => by rw [show g + (1 + k) + 1 = (g + k + 1) + 1 by omega, r0, u1], u2, by omega, by omega, (a5.trans t5).trans u5⟩
              · rw [hr] at p1
                have p2 : prPart L tp S true b np = if isS L tp b2 44 = true then prLm2 L tp S q (nxt L tp b2) n2 D2 else (b2, none) := p1
                obtain ⟨s4, k, m2, Q, u1, u2, u3, u4, u5, u6, u7, u8⟩ := r2 b2 n2 D2 hr
                have bb := beh_br (x1 := x1) u2 u3 u4 (by omega)
                have rr : Rn x1 1 σ (1 + k) 3 s4 := r0.trans u1
                have k4 : Ch RRc RRf σ s4 := (a5.trans t5).trans u8
                rcases brk44 u2 u3 (by rcases hq with z | z <;> rw [z] <;> simp) with ⟨c1, τ, c2, c3, c4⟩ | ⟨c1, s5, c2, c3, c4, c5, c6⟩
                · rw [c1, if_neg (by decide)] at p2
                  rw [c2, bd_some] at bb
                  exact RgR.fail p2 ⟨τ, 1 + k + 1, _, _, fun g => by rw [show g + (1 + k + 1) + 1 = (g + 1 + 1) + (1 + k) by omega, rr, fail1 (fe_3 u2.2.2.1 bb) c3], c3, by omega, by omega, k4.trans c4⟩
                · rw [c1, if_pos rfl] at p2
                  rw [c2, bd_some] at bb
                  have nb2 := nxt_b (tp := tp) u2.b.1
                  have rr5 : Rn x1 1 σ (1 + k + 1) 1 s5 := rr.trans (fe_3 u2.2.2.1 bb)
                  have sl := setQ_lo (i := m) Q (gI s4 130, gI s4 131, m2) (by have := u7.2.1; show m ≤ m2; omega) u7.1
                  have mm : m2 ≤ (setQ Q (gI s4 130, gI s4 131, m2)).2.2 := (setQ_m Q (gI s4 130, gI s4 131, m2)).1
                  have u72 := u7.2.1
                  obtain ⟨r3, r4⟩ := hS okt x1 _ _ _ _ _ c3 (top_br (by omega) (by decide)) trivial
                  unfold prLm2 at p2
                  rcases hr2 : S (nxt L tp b2) n2 with ⟨b3, _ | ⟨n3, D3⟩⟩
                  · rw [hr2] at p2
                    obtain ⟨τ, k', m', P', v1, v2, v3, v4, v5⟩ := r3 b3 hr2
                    exact RgR.fail p2 ⟨τ, 1 + k + 1 + k', m', P', fun g => by rw [show g + (1 + k + 1 + k') + 1 = (g + k' + 1) + (1 + k + 1) by omega, rr5, v1], v2, by omega, by omega, (k4.trans c6).trans v5⟩
                  · rw [hr2] at p2
                    have p3 : prPart L tp S true b np = if isS L tp b3 93 = true then (nxt L tp b3, some (n3, bnD (if q = 0 then 15 else 16) D2 D3)) else (b3, none) := p2
                    obtain ⟨s6, k', m3, Q', v1, v2, v3, v4, v5, v6, v7, v8⟩ := r4 b3 n3 D3 hr2
                    have bb2 := beh_br (x1 := x1) v2 v3 v4 (by omega)
                    have rr6 : Rn x1 1 σ (1 + k + 1 + k') 3 s6 := rr5.trans v1
                    have k6 : Ch RRc RRf σ s6 := (k4.trans c6).trans v8
                    rcases brk93 v2 v3 (by rcases hq with z | z <;> rw [z] <;> simp) with ⟨d1, τ, d2, d3, d4⟩ | ⟨d1, s7, _, d2, d2', d3, d9, d4, d5, d6⟩
                    · rw [d1, if_neg (by decide)] at p3
                      rw [d2, bd_some] at bb2
                      exact RgR.fail p3 ⟨τ, 1 + k + 1 + k' + 1, _, _, fun g => by rw [show g + (1 + k + 1 + k' + 1) + 1 = (g + 1 + 1) + (1 + k + 1 + k') by omega, rr6, fail1 (fe_3 v2.2.2.1 bb2) d3], d3, by omega, by omega, k6.trans d4⟩
                    · rw [d1, if_pos rfl] at p3
                      have nb3 := nxt_b (tp := tp) v2.b.1
                      have v72 := v7.2.1
                      obtain ⟨mE, hmE⟩ : ∃ mE, mE = (setQ Q' (gI s6 130, gI s6 131, m3)).2.2 := ⟨_, rfl⟩
                      have mm3 : m3 ≤ mE := by rw [hmE]; exact (setQ_m Q' (gI s6 130, gI s6 131, m3)).1
                      rw [← hmE] at d3 d9
                      have bm7 := d3.b
                      -- the word itself
                      have em : ∃ τ, F_X12_behindBracket (nI (32 + q + 2)) s6 = some (3, τ) ∧ RgS L tp (nxt L tp b3) (mE + 1) n3 o P τ ∧ gI τ 130 = va_up (gI s7 130) mE (nI (15 + q)) ∧ gI τ 131 = va_up (gI s7 131) mE 0 ∧ Ch RRc RRf s7 τ := by
                        obtain ⟨g1, g2, g3, g4, g5, g6, g7, g8, g9, g10, g11⟩ := id d3
                        obtain ⟨s8, e1, e2, e3, e4, e5⟩ := F_emitR (x := nI (15 + q)) (y := 0) g4 (by omega)
                        have eb : F_X12_behindBracket (nI (32 + q + 2)) s6 = F_X12_behindBracket_105 (nI (15 + q)) s7 := by
                          rcases hq with z | z
                          · have y := d2 (by rw [z]); rw [z] at y ⊢; exact y
                          · have y := d2' (by rw [z]); rw [z] at y ⊢; exact y
                        unfold F_X12_behindBracket_105 at eb
                        rw [e1, bv_some] at eb
                        refine ⟨s8, eb, ⟨g1.ch e5 (by simp) (by simp), ?_, by rw [e5.pI (by simp) (by simp)]; exact g3, e2, by rw [e5.pI (by simp) (by simp)]; exact g5, by rw [e5.pI (by simp) (by simp)]; exact g6, g7.ch e5 (by simp) (by simp), by omega, g9, g10, g11⟩, e3, e4, e5.mono (by simp [RRc]) (by simp [RRf])⟩
                        obtain ⟨q1, q2, q3, q4, q5⟩ := g2
                        exact ⟨by rw [e5.pI (by simp) (by simp)]; exact q1, by rw [e5.pI (by simp) (by simp)]; exact q2, by rw [e5.pI (by simp) (by simp)]; exact q3, by rw [e5.pL (by simp) (by simp)]; exact q4, q5⟩
                      obtain ⟨s8, e1, e2, e3, e4, e5⟩ := em
                      rw [e1, bd_some] at bb2
                      have sl2 := setQ_lo (i := (setQ Q (gI s4 130, gI s4 131, m2)).2.2) Q' (gI s6 130, gI s6 131, m3) (by show _ ≤ m3; omega) v7.1
                      -- below, all is as it was
                      have low : ∀ t, t < (setQ Q (gI s4 130, gI s4 131, m2)).2.2 → gI s8 130 t = (setQ Q (gI s4 130, gI s4 131, m2)).1 t ∧ gI s8 131 t = (setQ Q (gI s4 130, gI s4 131, m2)).2.1 t := fun t ht => by
                        rw [e3, e4, va_lo (by omega), va_lo (by omega), d4, d5]
                        have y1 := sl2 t ht
                        have y2 := v6 t ht
                        exact ⟨y1.1.trans (y2.1.trans (by rw [c4])), y1.2.trans (y2.2.trans (by rw [c5]))⟩
                      refine RgR.good p3 ⟨s8, 1 + k + 1 + k' + 1, mE + 1, [], rr6.trans (fe_3 v2.2.2.1 bb2), e2, (fun q hq => by cases hq), trivial, by omega, fun t ht => ?_, ?_, (k6.trans d6).trans e5⟩
                      · have y0 := low t (by omega)
                        have y1 := sl t ht
                        have y2 := u6 t ht
                        exact ⟨y0.1.trans (y1.1.trans (y2.1.trans (by rw [t3, a3]))), y0.2.trans (y1.2.trans (y2.2.trans (by rw [t4, a4])))⟩
                      · have hq' : (if q = 0 then (15 : Int32) else 16) = nI (15 + q) := by rcases hq with z | z <;> rw [z] <;> rfl
                        rw [hq', show n3 - np = (n2 - np) + (n3 - n2) by omega]
                        refine PnR.nil (SgV.bin (m := (setQ Q (gI s4 130, gI s4 131, m2)).2.2) (u7.2.2.cg (fun t t1 t2 => ?_)) (SgV.cg (op := gI s7 130) (ar := gI s7 131) ?_ (fun t t1 t2 => ?_)) (by omega) (by omega) (by omega) (by rw [e3, up_same]) (by omega) (by rw [e4, up_same]) hx_16) (by omega)
                        · exact low t t2
                        · rw [d4, d5, hmE]; exact v7.2.2
                        · exact ⟨by rw [e3, va_lo t2], by rw [e4, va_lo t2]⟩
        cases w1 : isW L tp b [108, 101, 97, 115, 116] with
        | true =>
          refine go 0 (Or.inl rfl) (by rw [i7, if_pos w1]) (tkT_lt (L := L) (tp := tp) (b := b) (by rw [isW_sort w1]; decide)) ?_
          unfold F_X12_readPart F_X12_readPart_37
          rw [F_isSignR h.2.1, bd_some, s91, if_pos (show b2 false = 0 from rfl), wl, bd_some, w1, if_neg (show ¬ b2 true = 0 by decide), wl, bd_some, w1, if_neg (show ¬ b2 true = 0 by decide)]; rfl
        | false =>
          cases w2 : isW L tp b [109, 111, 115, 116] with
          | true =>
            refine go 1 (Or.inr rfl) (by rw [i7, if_neg (by rw [w1]; decide), if_pos w2]) (tkT_lt (L := L) (tp := tp) (b := b) (by rw [isW_sort w2]; decide)) ?_
            unfold F_X12_readPart F_X12_readPart_37
            rw [F_isSignR h.2.1, bd_some, s91, if_pos (show b2 false = 0 from rfl), wl, bd_some, w1, if_pos (show b2 false = 0 from rfl), wm, bd_some, w2, if_neg (show ¬ b2 true = 0 by decide), wl, bd_some, w1, if_pos (show b2 false = 0 from rfl)]; rfl
          | false =>
            have F0 := part_word h s91 w1 w2
            rw [if_neg t2, ix, show oI1 none = -1 from rfl] at F0
            obtain ⟨τ, u1, u2, u3⟩ := leafX (x1 := -1) (x3 := 0) h
            unfold F_X12_readPart_98 F_X12_readPart_99 F_X12_readPart_113 at F0
            rw [if_pos rfl, if_pos rfl, if_pos rfl, u1] at F0
            have i7' : ixQ L tp b (wL 7) 0 = none := by rw [i7, if_neg (by rw [w1]; decide), if_neg (by rw [w2]; decide)]
            rw [s91, if_neg (show ¬ false = true by decide), i7'] at p0
            refine RgR.fail (b0 := b) (p0.trans ?_) (fx _ _ _ _ F0 u2 u3)
            cases ok with
            | true => rw [if_pos rfl]
            | false => rw [if_neg (by decide)]
end
