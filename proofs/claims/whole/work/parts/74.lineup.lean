section
def LiL (row : Nat → Int32) (k : Int32) (s : Nat → Option Nat) (b w n : Nat) (σ : AH) : Prop :=
  gI σ b 2 = nI (lin (nP row) s (lic row k s) w n).length ∧ (∀ i, i < (lin (nP row) s (lic row k s) w n).length → gI σ (b + 2) i = nI ((lin (nP row) s (lic row k s) w n).getD i 0)) ∧ (∀ p, p < nP row → gI σ (b + 4) p = b2 (stB s (lic row k s) w n p))
def LiU (row : Nat → Int32) (k : Int32) (s : Nat → Option Nat) (b w n : Nat) (σ : AH) : Prop := ∀ c kn, c < 6 → kn < 3 → gI σ (b + 3) (c * 3 + kn) = nI (usN row k s w n c kn)
theorem LiL.ch {row : Nat → Int32} {k : Int32} {s : Nat → Option Nat} {b w n : Nat} {σ τ : AH} {cs : List Nat} {fs : List (Nat × Nat)} (h : LiL row k s b w n σ) (c : Ch cs fs σ τ) (h1 : b ∉ cs ∧ b + 2 ∉ cs ∧ b + 4 ∉ cs) (h2 : ∀ q ∈ fs, q.1 ≠ b ∧ q.1 ≠ b + 2 ∧ q.1 ≠ b + 4) : LiL row k s b w n τ := by
  obtain ⟨a1, a2, a3⟩ := h
  refine ⟨?_, ?_, ?_⟩
  · rw [c.rI h1.1 (fun q hq => (h2 q hq).1)]; exact a1
  · rw [c.rI h1.2.1 (fun q hq => (h2 q hq).2.1)]; exact a2
  · rw [c.rI h1.2.2 (fun q hq => (h2 q hq).2.2)]; exact a3
theorem LiU.ch {row : Nat → Int32} {k : Int32} {s : Nat → Option Nat} {b w n : Nat} {σ τ : AH} {cs : List Nat} {fs : List (Nat × Nat)} (h : LiU row k s b w n σ) (c : Ch cs fs σ τ) (h1 : b + 3 ∉ cs) (h2 : ∀ q ∈ fs, q.1 ≠ b + 3) : LiU row k s b w n τ := by
  intro c' kn hc hk
  rw [c.rI h1 h2]; exact h c' kn hc hk
theorem YS.ch {s : Nat → Option Nat} {σ τ : AH} {cs : List Nat} {fs : List (Nat × Nat)} (h : YS s σ) (c : Ch cs fs σ τ) (h1 : 38 ∉ cs ∧ 39 ∉ cs) (h2 : ∀ q ∈ fs, q.1 ≠ 38 ∧ q.1 ≠ 39) : YS s τ :=
  ⟨by rw [c.rI h1.1 (fun q hq => (h2 q hq).1)]; exact h.1, by rw [c.rI h1.2 (fun q hq => (h2 q hq).2)]; exact h.2⟩
theorem lic_iff {row : Nat → Int32} {k : Int32} {s : Nat → Option Nat} {w p : Nat} (hV : AV row) (hW : AW row) (hn : nP row ≤ 30) (hk : pK row p < 3) (h : s p = some w) : lic row k s p = true ↔ ((lcQ row k (pK row p) (w / 13 * 13)).1 = true → agN row s w p (pC row p) (pK row p) < cl (aln (lcQ row k (pK row p) (w / 13 * 13)).2.1)) := by
  have e : ahC row s p (nP row) = agN row s w p (pC row p) (pK row p) := by
    rw [ahC_cnt]; unfold agN
    exact cnt_congr _ (fun o ho => (agB_same h o).symm)
  unfold lic
  rw [h]
  show (if _ then _ else _) = true ↔ _
  by_cases c : (lcQ row k (pK row p) (w / 13 * 13)).1 = true
  · obtain ⟨a1, a2, a3⟩ := aln_nI hV hW hk c
    rw [if_pos c, e, decide_eq_true_iff, a1]
    have hb : agN row s w p (pC row p) (pK row p) ≤ nP row := cnt_le _
    rw [nI_leI (by omega) (by omega), show cl (nI (cl (aln (lcQ row k (pK row p) (w / 13 * 13)).2.1))) = cl (aln (lcQ row k (pK row p) (w / 13 * 13)).2.1) from nI_clamp a2]
    exact ⟨fun h _ => by omega, fun h => by have := h c; omega⟩
  · rw [if_neg c]
    exact ⟨fun _ h => absurd h c, fun _ => rfl⟩
theorem usN_same {row : Nat → Int32} {k : Int32} {s : Nat → Option Nat} {w n c kn : Nat} (h : ¬ (s n = some w ∧ pC row n = c ∧ pK row n = kn)) : usN row k s w (n + 1) c kn = usN row k s w n c kn := by
  unfold usN; rw [agN_same h]
theorem usN_no {row : Nat → Int32} {k : Int32} {s : Nat → Option Nat} {w p c kn : Nat} (hV : AV row) (hW : AW row) (hn : nP row ≤ 30) (hp : p < nP row) (hk : pK row p < 3) (h : s p = some w) (hl : lic row k s p = false) : usN row k s w (p + 1) c kn = usN row k s w p c kn := by
  by_cases g : pC row p = c ∧ pK row p = kn
  · obtain ⟨g1, g2⟩ := g
    subst g1 g2
    have hl' : ¬ lic row k s p = true := by rw [hl]; decide
    rw [lic_iff hV hW hn hk h] at hl'
    have hq : (lcQ row k (pK row p) (w / 13 * 13)).1 = true := by
      by_cases c : (lcQ row k (pK row p) (w / 13 * 13)).1 = true
      · exact c
      · exact absurd (fun q => absurd q c) hl'
    have ge : ¬ agN row s w p (pC row p) (pK row p) < cl (aln (lcQ row k (pK row p) (w / 13 * 13)).2.1) := fun q => hl' (fun _ => q)
    unfold usN
    rw [if_pos hq, if_pos hq, agN_step hp h]
    omega
  · exact usN_same (fun q => g q.2)
theorem usN_yes {row : Nat → Int32} {k : Int32} {s : Nat → Option Nat} {w p : Nat} (hV : AV row) (hW : AW row) (hn : nP row ≤ 30) (hp : p < nP row) (hk : pK row p < 3) (h : s p = some w) (hl : lic row k s p = true) : usN row k s w (p + 1) (pC row p) (pK row p) = usN row k s w p (pC row p) (pK row p) + 1 := by
  rw [lic_iff hV hW hn hk h] at hl
  unfold usN
  rw [agN_step hp h]
  by_cases c : (lcQ row k (pK row p) (w / 13 * 13)).1 = true
  · have := hl c
    rw [if_pos c, if_pos c]; omega
  · rw [if_neg c, if_neg c]
theorem lin_no {N : Nat} {s : Nat → Option Nat} {lc : Nat → Bool} {w n : Nat} (h : ¬ (s n = some w ∧ lc n = true)) : lin N s lc w (n + 1) = lin N s lc w n := by
  unfold lin
  have e : linP s lc w (n + 1) = if s n = some w ∧ lc n = true then linP s lc w n ++ [n] else linP s lc w n := rfl
  rw [e, if_neg h]
theorem lin_yes {N : Nat} {s : Nat → Option Nat} {lc : Nat → Bool} {w n : Nat} (h : s n = some w ∧ lc n = true) : lin N s lc w (n + 1) = lin N s lc w n ++ [n] := by
  unfold lin
  have e : linP s lc w (n + 1) = if s n = some w ∧ lc n = true then linP s lc w n ++ [n] else linP s lc w n := rfl
  rw [e, if_pos h, List.append_assoc]
theorem LiL_no {row : Nat → Int32} {k : Int32} {s : Nat → Option Nat} {b w n : Nat} {σ : AH} (h : ¬ (s n = some w ∧ lic row k s n = true)) (hL : LiL row k s b w n σ) : LiL row k s b w (n + 1) σ := by
  obtain ⟨a1, a2, a3⟩ := hL
  unfold LiL
  rw [lin_no h]
  refine ⟨a1, a2, fun p hp => ?_⟩
  rw [stB_ne (fun q => h (by obtain ⟨q1, q2, q3⟩ := q; subst q2; exact ⟨q1, q3⟩))]; exact a3 p hp
theorem LiN_all {row : Nat → Int32} {k : Int32} {s : Nat → Option Nat} {b w : Nat} {σ : AH} (h : ∀ o, o < nP row → s o ≠ some w) : ∀ j n, n + j = nP row → LiL row k s b w n σ → LiU row k s b w n σ → LiL row k s b w (nP row) σ ∧ LiU row k s b w (nP row) σ := by
  intro j
  induction j with
  | zero => intro n hn h1 h2; rw [show n = nP row by omega] at h1 h2; exact ⟨h1, h2⟩
  | succ j ih =>
    intro n hn h1 h2
    have hne := h n (by omega)
    exact ih (n + 1) (by omega) (LiL_no (fun q => hne q.1) h1) (fun c kn hc hk => by rw [usN_same (fun q => hne q.1)]; exact h2 c kn hc hk)
theorem getD_app1 {L : List Nat} {p i : Nat} (h : i < L.length) : (L ++ [p]).getD i 0 = L.getD i 0 := by
  rw [List.getD_eq_getElem?_getD, List.getD_eq_getElem?_getD, List.getElem?_append_left h]
theorem getD_app2 {L : List Nat} {p : Nat} : (L ++ [p]).getD L.length 0 = p := by
  rw [List.getD_eq_getElem?_getD, List.getElem?_append_right (Nat.le_refl _)]; simp
def LUc (b : Nat) : List Nat := [b + 2, b + 3, b + 4, 31, 32, 33, 40]
def LUf (b : Nat) : List (Nat × Nat) := [(28, 6), (b, 2)]
theorem line_loop {row : Nat → Int32} {k : Int32} {s sy : Nat → Option Nat} {b w g : Nat} (hV : AV row) (hW : AW row) (hB : BV row) (hs : ∀ p w, sy p = some w → w < 260) (hag : ∀ p, p < 30 → (sy p = some w ↔ s p = some w)) (hb : 44 < b ∧ b + 9 < 124) (hw : w < 260) : ∀ (j n : Nat) (σ : AH), n + j = nP row → YK row k σ → TbB row σ → YS sy σ → LiL row k s b w n σ → LiU row k s b w n σ →
    ∃ τ, F_X10_lineUp_17 (j + 1 + g) b (nI w) (nI n) σ = some τ ∧ LiL row k s b w (nP row) τ ∧ LiU row k s b w (nP row) τ ∧ YK row k τ ∧ Ch (LUc b) (LUf b) σ τ := by
  obtain ⟨p0, p1, p2⟩ := hB.p
  have qw : inB (nI w) 260 = true := inB_n hw (by omega)
  have nw : (nI w).toNatClampNeg = w := nI_clamp (by omega)
  have dw : nI w / (13 : Int32) = nI (w / 13) := pk_div (d := 13) (by omega) (by decide) (by decide)
  intro j
  induction j with
  | zero =>
    intro n σ hn hY hT hS hL hU
    have e : F_X10_lineUp_17 (0 + 1 + g) = B_X10_lineUp_17 (F_X10_lineUp_17 g) := by rw [show 0 + 1 + g = g + 1 by omega]; rfl
    have : n = nP row := by omega
    subst this
    rw [e]; unfold B_X10_lineUp_17
    refine ⟨σ, ?_, hL, hU, hY, Ch.rf _⟩
    rw [if_pos qw, rows_p hT, bd_some, if_pos (nI_le (Nat.le_refl _) (by omega))]
    split <;> rfl
  | succ j ih =>
    intro n σ hn hY hT hS hL hU
    have e : F_X10_lineUp_17 (j + 1 + 1 + g) = B_X10_lineUp_17 (F_X10_lineUp_17 (j + 1 + g)) := by rw [show j + 1 + 1 + g = (j + 1 + g) + 1 by omega]; rfl
    have hnP : n < nP row := by omega
    rw [e]; unfold B_X10_lineUp_17 F_X10_lineUp_160
    rw [if_pos qw, nw, hS.2 w hw, rows_p hT, bd_some, if_neg (nI_ge hnP (by omega)), if_pos (inB_n (by omega) (by omega)), nI_clamp (by omega), hS.1 n (by omega), nI_1]
    by_cases z : ctW sy w 30 = 0
    · have none' : ∀ o, o < nP row → s o ≠ some w := fun o ho q => by
        have := (ctW_pos (s := sy) (w := w) 30).mpr ⟨o, by omega, (hag o (by omega)).mpr q⟩
        omega
      rw [if_pos (by rw [z]; decide)]
      obtain ⟨h1, h2⟩ := LiN_all none' (j + 1) n hn hL hU
      exact ⟨σ, rfl, h1, h2, hY, Ch.rf _⟩
    · have c30 := ctW_le (s := sy) (w := w) 30
      rw [if_neg (show ¬ nI (ctW sy w 30) ≤ 0 from nI_ge (a := 0) (by omega) (by omega))]
      by_cases c : s n = some w
      · rw [if_pos (show oI (sy n) = nI w by rw [(hag n (by omega)).mpr c]; rfl)]
        obtain ⟨v0, v1, v2, v3⟩ := p2 n hnP
        have bk : pK row n < 3 := v1.2
        have bc : pC row n < 6 := v0.2
        have ek : pl row n 1 = nI (pK row n) := v1.1
        have ec : pl row n 0 = nI (pC row n) := v0.1
        have ln := lin_len (s := s) (lc := lic row k s) w n (by omega : n ≤ nP row)
        have lt30 : (lin (nP row) s (lic row k s) w n).length < nP row := by
          rw [ln]
          refine cnt_lt (p := n) ?_ _ hnP
          unfold stB; rw [c]; simp
        have a0 : F_X8_at 9 (nI n) (0 : Int32) σ = _ := at_pl (j := 0) hT hnP (by decide)
        have a1 : F_X8_at 9 (nI n) (1 : Int32) σ = _ := at_pl (j := 1) hT hnP (by decide)
        obtain ⟨τ1, t1, t2, t3⟩ := F_licencesFor (kn := pK row n) (q := w / 13) hV hW hY bk (by omega)
        have gi : nI (pC row n) * (3 : Int32) + nI (pK row n) = nI (pC row n * 3 + pK row n) := by simp only [fa_lit, nI_add, pk_mul]
        have gq : inB (nI (pC row n * 3 + pK row n)) 18 = true := inB_n (by omega) (by omega)
        have gn : (nI (pC row n * 3 + pK row n)).toNatClampNeg = pC row n * 3 + pK row n := nI_clamp (by omega)
        rw [hL.1, if_neg (show ¬ (30 : Int32) ≤ nI _ from nI_ge (b := 30) (by omega) (by omega)), a1, bd_some, a0, bd_some, ek, ec, dw, t1, bd_some, gi]
        have L1 : LiL row k s b w n τ1 := hL.ch t3 (by simp; omega) (by simp; omega)
        have U1 : LiU row k s b w n τ1 := hU.ch t3 (by simp; omega) (by simp; omega)
        have S1 : YS sy τ1 := hS.ch t3 (by simp) (by simp)
        have T1 : TbB row τ1 := hT.ch t3 (by simp) (by simp)
        have ecn : cnV row k (nI (w / 13 * 13)) 0 4 (nI (pK row n)) 0 0 = if (lcQ row k (pK row n) (w / 13 * 13)).1 = true then aln (lcQ row k (pK row n) (w / 13 * 13)).2.1 else -1 := rfl
        have hu := U1 (pC row n) (pK row n) bc bk
        by_cases hl : lic row k s n = true
        · have goal : ∃ τ, F_X10_lineUp_122 (F_X10_lineUp_17 (j + 1 + g)) b (nI w) (nI n) (nI (pC row n * 3 + pK row n)) τ1 = some τ ∧ LiL row k s b w (nP row) τ ∧ LiU row k s b w (nP row) τ ∧ YK row k τ ∧ Ch (LUc b) (LUf b) σ τ := by
            have qn : inB (nI n) 30 = true := inB_n (by omega) (by omega)
            have nn : (nI n).toNatClampNeg = n := nI_clamp (by omega)
            have gl : ∀ v, gI (sI (sI τ1 (b + 3) (pC row n * 3 + pK row n) v) (b + 4) n 1) b 2 = nI (lin (nP row) s (lic row k s) w n).length := fun v => by rw [gI_sI_row (by omega), gI_sI_row (by omega)]; exact L1.1
            have ql : inB (nI (lin (nP row) s (lic row k s) w n).length) 30 = true := inB_n (by omega) (by omega)
            have nl : (nI (lin (nP row) s (lic row k s) w n).length).toNatClampNeg = (lin (nP row) s (lic row k s) w n).length := nI_clamp (by omega)
            unfold F_X10_lineUp_122 F_X10_lineUp_160
            simp only [gq, gn, qn, nn, if_true, lt_e, gl, ql, nl, hu, nI_1]
            have gl2 : gI (sI (sI (sI τ1 (b + 3) (pC row n * 3 + pK row n) (nI (usN row k s w n (pC row n) (pK row n) + 1))) (b + 4) n 1) (b + 2) (lin (nP row) s (lic row k s) w n).length (nI n)) b 2 = nI (lin (nP row) s (lic row k s) w n).length := by rw [gI_sI_row (by omega)]; exact gl _
            rw [gl2, nI_1]
            have kE : Ch [b + 2, b + 3, b + 4] [(b, 2)] τ1 (sI (sI (sI (sI τ1 (b + 3) (pC row n * 3 + pK row n) (nI (usN row k s w n (pC row n) (pK row n) + 1))) (b + 4) n 1) (b + 2) (lin (nP row) s (lic row k s) w n).length (nI n)) b 2 (nI ((lin (nP row) s (lic row k s) w n).length + 1))) := (((Ch.sI1 (Or.inr (by simp))).trans (Ch.sI1 (Or.inr (by simp)))).trans (Ch.sI1 (Or.inr (by simp)))).trans (Ch.sI1 (Or.inl (by simp)))
            have Y2 : YK row k _ := t2.ch kE (t2.2.2.2.2.ch kE (by simp; omega) (by simp; omega)) (by simp; omega) (by simp; omega)
            have T2 : TbB row _ := T1.ch kE (by simp; omega) (by simp; omega)
            have S2 : YS sy _ := S1.ch kE (by simp; omega) (by simp; omega)
            have cc : Ch (LUc b) (LUf b) σ _ := (t3.mono (by simp [LUc]) (by simp [LUf])).trans (kE.mono (by simp [LUc]) (by simp [LUf]))
            obtain ⟨τ, u1, u2, u3, u4, u5⟩ := ih (n + 1) _ (by omega) Y2 T2 S2 (by
              unfold LiL
              rw [lin_yes ⟨c, hl⟩]
              refine ⟨?_, fun i hi => ?_, fun p hp => ?_⟩
              · rw [gI_sI_at, List.length_append]; rfl
              · rw [gI_sI_row (by omega)]
                by_cases ci : i = (lin (nP row) s (lic row k s) w n).length
                · subst ci; rw [gI_sI_at, getD_app2]
                · rw [List.length_append] at hi
                  have hi' : i < (lin (nP row) s (lic row k s) w n).length := by simp at hi; omega
                  rw [gI_sI_ne ci, gI_sI_row (by omega), gI_sI_row (by omega), getD_app1 hi']; exact L1.2.1 i hi'
              · rw [gI_sI_row (by omega), gI_sI_row (by omega)]
                by_cases cp : p = n
                · subst cp
                  rw [gI_sI_at]
                  unfold stB; rw [c]; simp [hl]; rfl
                · rw [gI_sI_ne cp, gI_sI_row (by omega), stB_ne (fun q => cp q.2.1)]; exact L1.2.2 p hp) (by
              intro c' kn hc hk
              rw [gI_sI_row (by omega), gI_sI_row (by omega), gI_sI_row (by omega)]
              by_cases cg : c' * 3 + kn = pC row n * 3 + pK row n
              · have e1 : c' = pC row n := by omega
                have e2 : kn = pK row n := by omega
                subst e1 e2
                rw [gI_sI_at, usN_yes hV hW (by omega) hnP bk c hl]
              · rw [gI_sI_ne cg, usN_same (fun q => cg (by rw [q.2.1, q.2.2]))]; exact U1 c' kn hc hk)
            exact ⟨τ, u1, u2, u3, u4, cc.trans u5⟩
          have hli := (lic_iff hV hW (by omega) bk c).mp hl
          by_cases cq : (lcQ row k (pK row n) (w / 13 * 13)).1 = true
          · obtain ⟨b1, b2', b3⟩ := aln_nI hV hW bk cq
            rw [ecn, if_pos cq, if_neg b3, if_pos gq, gn, hu, b1]
            rw [if_neg ?_]
            · exact goal
            · have us : usN row k s w n (pC row n) (pK row n) = agN row s w n (pC row n) (pK row n) := by
                unfold usN; rw [if_pos cq]; have := hli cq; omega
              rw [us]
              exact nI_ge (hli cq) b2'
          · rw [ecn, if_neg cq, if_pos rfl]
            exact goal
        · have hl' : lic row k s n = false := by simpa using hl
          have cq : (lcQ row k (pK row n) (w / 13 * 13)).1 = true := by
            by_cases c' : (lcQ row k (pK row n) (w / 13 * 13)).1 = true
            · exact c'
            · exact absurd ((lic_iff hV hW (by omega) bk c).mpr (fun q => absurd q c')) hl
          obtain ⟨b1, b2', b3⟩ := aln_nI hV hW bk cq
          have ge : ¬ agN row s w n (pC row n) (pK row n) < cl (aln (lcQ row k (pK row n) (w / 13 * 13)).2.1) := fun q => hl ((lic_iff hV hW (by omega) bk c).mpr (fun _ => q))
          have us : usN row k s w n (pC row n) (pK row n) = cl (aln (lcQ row k (pK row n) (w / 13 * 13)).2.1) := by
            unfold usN; rw [if_pos cq]; omega
          rw [ecn, if_pos cq, if_neg b3, if_pos gq, gn, hu, b1, us, if_pos (nI_le (Nat.le_refl _) b2')]
          obtain ⟨τ, u1, u2, u3, u4, u5⟩ := ih (n + 1) τ1 (by omega) t2 T1 S1 (LiL_no (fun q => hl q.2) L1) (fun c' kn hc hk => by rw [usN_no hV hW (by omega) hnP bk c hl']; exact U1 c' kn hc hk)
          exact ⟨τ, u1, u2, u3, u4, (t3.mono (by simp [LUc]) (by simp [LUf])).trans u5⟩
      · have ne : ¬ oI (sy n) = nI w := fun q => c ((hag n (by omega)).mp <| by
          cases e : sy n with
          | none => rw [e] at q; exact absurd q.symm (nI_neg1 (by omega))
          | some a =>
            rw [e] at q
            have q' : nI a = nI w := q
            have := congrArg cl q'
            have ha := hs n a e
            rw [show cl (nI a) = a from nI_clamp (by omega), show cl (nI w) = w from nI_clamp (by omega)] at this
            rw [this])
        rw [if_neg ne]
        exact ih (n + 1) σ (by omega) hY hT hS (LiL_no (fun q => c q.1) hL) (fun c' kn hc hk => by rw [usN_same (fun q => c q.1)]; exact hU c' kn hc hk)
end
