section
/-- what Choice needs and keeps -/
def CiI (row : Nat → Int32) (n : Nat) (wi : Nat → Nat) (σ : AH) : Prop := RgI row σ ∧ BfI row σ ∧ CwI n wi σ ∧ SaI σ
def CQc : List Nat := [31, 32, 33, 35, 36, 37, 38, 39, 40, 41, 42, 43, 71, 72, 73, 74, 75, 76, 77, 78, 79, 81, 83, 84, 85, 86, 87, 88, 89, 90, 91, 92, 93, 94, 95, 96, 97, 98, 99, 100, 101, 102, 103, 104, 105, 106, 107, 108, 109, 110, 111, 112]
def CQf : List (Nat × Nat) := [(28, 6), (34, 2), (34, 3), (34, 4), (68, 4), (68, 6), (68, 7), (70, 2), (83, 2), (93, 2), (103, 2)]
def BQc : List Nat := 82 :: CQc
def BQf : List (Nat × Nat) := (68, 11) :: (68, 12) :: (68, 13) :: CQf
theorem CiI.to {row : Nat → Int32} {q n : Nat} {wi : Nat → Nat} {σ τ : AH} (hq : q < 20) (h : CiI row n wi σ) (c : Ch CQc CQf σ τ) (hO : OqI row q τ) : CiI row n wi τ := by
  obtain ⟨⟨_, _, _, r44, r56⟩, _, hC, hS⟩ := h
  exact ⟨⟨hO.1.2.1, hO.1.1.2.2.2.2, hO.yc, r44.keep c (by simp [CQc]) (by simp [CQf]), r56.keep c (by simp [CQc]) (by simp [CQf])⟩, hO.bf hq, hC.ch c (by simp [CQc]) (by simp [CQf]), hS.ch c⟩
theorem CiI.toB {row : Nat → Int32} {q n : Nat} {wi : Nat → Nat} {σ τ : AH} (hq : q < 20) (h : CiI row n wi σ) (c : Ch BQc BQf σ τ) (hO : OqI row q τ) : CiI row n wi τ := by
  obtain ⟨⟨_, _, _, r44, r56⟩, _, hC, hS⟩ := h
  exact ⟨⟨hO.1.2.1, hO.1.1.2.2.2.2, hO.yc, r44.keep c (by simp [BQc, CQc]) (by simp [BQf, CQf]), r56.keep c (by simp [BQc, CQc]) (by simp [BQf, CQf])⟩, hO.bf hq, hC.ch c (by simp [BQc, CQc]) (by simp [BQf, CQf]), hS.ch c⟩
theorem isIn019 {x : Int32} {σ : AH} : F_X11_isIn x (0 : Int32) (19 : Int32) σ = some (if rgB 0 19 x = true then 1 else 0, σ) := F_isIn (a := 0) (b := 19) (by decide) (by decide)
/-- a QUARTER that is asked for is opened -/
theorem opened {row : Nat → Int32} {q n : Nat} {wi : Nat → Nat} {σ : AH} (hV : AV row) (hA : AW row) (hB : BV row) (hq : q < 20) (h : CiI row n wi σ) :
    F_X11_knowing (nI q * (13 : Int32)) σ = some (kL row q, σ) ∧ KE row (kQ q) (kL row q) ∧ ∃ τ, F_X1_openQuarter (nI q) (kL row q) (gI σ 0 12) σ = some τ ∧ OqI row q τ ∧ CwI n wi τ ∧ SaI τ ∧ Ch OQc OQf σ τ := by
  have e : nI q * (13 : Int32) = kQ q := by unfold kQ; simp only [fa_lit, pk_mul]; rw [Nat.mul_comm]
  have hk : (0 : Int32) ≤ kQ q := nI_le (a := 0) (by omega) (by omega)
  obtain ⟨a1, a2, _⟩ := F_knowing hV hk h.1.2.1 h.1.1
  obtain ⟨τ, t1, t2, t3⟩ := F_openQuarter hV hA hB hq h.1 h.2.1
  rw [e]
  exact ⟨a1, a2, τ, t1, t2, h.2.2.1.ch t3 (by simp [OQc]) (by simp [OQf]), h.2.2.2.ch t3, t3⟩
theorem C_judge {row : Nat → Int32} {n : Nat} {wi : Nat → Nat} {x1 x2 : Int32} {σ : AH} (hV : AV row) (hA : AW row) (hB : BV row) (hW : WiV row n wi) (h : CiI row n wi σ) :
    ∃ τ, F_X11_judge x1 x2 σ = some (judgeV row n wi x1 x2, τ) ∧ CiI row n wi τ ∧ Ch CQc CQf σ τ := by
  have hn := hW.1
  have p4 := pow4_le hn
  unfold F_X11_judge judgeV
  rw [isIn019, bd_b (α := Int32), h.2.2.1.1, sh2n hn, isInN (by omega), bd_b (α := Int32)]
  by_cases c1 : rgB 0 19 x1 = true
  · rw [if_pos c1, if_pos c1]
    by_cases c2 : ltB (4 ^ n) x2 = true
    · rw [if_pos c2, if_pos c2]
      obtain ⟨e1, b1⟩ := rg0_n (b := 19) c1 (by decide)
      obtain ⟨e2, b2'⟩ := ltB_n c2 (by omega)
      obtain ⟨q, hq⟩ : ∃ q, q = cl x1 := ⟨_, rfl⟩
      obtain ⟨Y, hY⟩ : ∃ Y, Y = cl x2 := ⟨_, rfl⟩
      rw [← hq] at e1 b1 ⊢
      rw [← hY] at e2 b2' ⊢
      rw [e1, e2]
      obtain ⟨k1, k2, τ, t1, t2, t3, t4, t5⟩ := opened hV hA hB (show q < 20 by omega) h
      rw [k1, bd_some, t1, bv_some]
      obtain ⟨τ1, u1, u2, u3⟩ := F_tell (Y := Y) (σ := τ) (by omega)
      rw [u1, bv_some]
      have O1 : OqI row q τ1 := by
        obtain ⟨o1, ⟨o2, o3⟩, ⟨o4, o5, o6⟩, o7⟩ := t2
        refine ⟨o1.fr u3 (by simp) (by simp), ⟨?_, ?_⟩, ⟨?_, ?_, ?_⟩, o7.keep u3 (by simp) (by simp)⟩
        · rw [u3.rI (by simp) (by simp)]; exact o2
        · rw [u3.rI (by simp) (by simp), u3.rI (by simp) (by simp)]; exact o3
        · rw [u3.rI (by simp) (by simp)]; exact o4
        · rw [u3.rI (by simp) (by simp)]; exact o5
        · rw [u3.rI (by simp) (by simp), u3.rI (by simp) (by simp)]; exact o6
      obtain ⟨τ2, v1, v2, v3, v4, v5, v6⟩ := F_playRow (r := fun i => Y / 4 ^ i % 4) hV hA hB (show q < 20 by omega) hW k2 (fun i => Nat.mod_lt _ (by decide)) O1 (t3.ch u3 (by simp) (by simp)) (fun i hi => u2 i (by omega)) (t4.ch u3)
      rw [v1, bd_some, if_pos (by decide), F_housedIn hB hW v2.1.2.1 v3 v5, bd_some, F_shellsIn hB hW v3 v5, bd_some]
      have ar : ∀ A B : Nat, nI A * (10 : Int32) + nI B = nI (10 * A + B) := fun A B => by simp only [fa_lit, nI_add, pk_mul]; rw [Nat.mul_comm]
      rw [ar]
      have cc : Ch CQc CQf σ τ2 := ((t5.mono (by simp [OQc, CQc]) (by simp [OQf, CQf])).trans (u3.mono (by simp [CQc]) (by simp))).trans (v6.mono (by simp [PLc, CQc]) (by simp [PLf, CQf]))
      exact ⟨τ2, rfl, h.to (by omega) cc v2, cc⟩
    · rw [if_neg c2, if_neg c2]; exact ⟨σ, rfl, h, Ch.rf _⟩
  · rw [if_neg c1, if_neg c1]; exact ⟨σ, rfl, h, Ch.rf _⟩
theorem pw_one {k c i : Nat} (hc : c < 4) (hk : k < 6) (hi : i < 6) : c * 4 ^ k / 4 ^ i % 4 = one k c i := by
  have h := dg_one (n := 6) (k := 5 - k) (c := c) hc (5 - i) (by omega) (by omega)
  unfold dg at h
  rw [show 6 - 1 - (5 - k) = k by omega, show 6 - 1 - (5 - i) = i by omega] at h
  rw [h]
  unfold one
  by_cases e : i = k
  · rw [if_pos e, if_pos (by omega)]
  · rw [if_neg e, if_neg (by omega)]
/-- while the tries of a QUARTER go on -/
def OjI (row : Nat → Int32) (q n : Nat) (wi : Nat → Nat) (σ : AH) : Prop := OqI row q σ ∧ CwI n wi σ ∧ SaI σ
theorem OqI.put {row : Nat → Int32} {q : Nat} {σ τ : AH} (h : OqI row q σ) (u3 : Ch [81] [] σ τ) : OqI row q τ := by
  obtain ⟨o1, ⟨o2, o3⟩, ⟨o4, o5, o6⟩, o7⟩ := h
  refine ⟨o1.fr u3 (by simp) (by simp), ⟨?_, ?_⟩, ⟨?_, ?_, ?_⟩, o7.keep u3 (by simp) (by simp)⟩
  · rw [u3.rI (by simp) (by simp)]; exact o2
  · rw [u3.rI (by simp) (by simp), u3.rI (by simp) (by simp)]; exact o3
  · rw [u3.rI (by simp) (by simp)]; exact o4
  · rw [u3.rI (by simp) (by simp)]; exact o5
  · rw [u3.rI (by simp) (by simp), u3.rI (by simp) (by simp)]; exact o6
theorem cnB_up {row : Nat → Int32} {q n k : Nat} {wi : Nat → Nat} : ∀ j c, cnB row q n wi k c = true → cnB row q n wi k (c + j) = true := by
  intro j
  induction j with
  | zero => intro c h; exact h
  | succ j ih =>
    intro c h
    have e : cnB row q n wi k (c + j + 1) = (cnB row q n wi k (c + j) || decide (0 < hoC row q n wi (one k (c + j + 1)))) := rfl
    rw [show c + (j + 1) = c + j + 1 by omega, e, ih c h]; rfl
theorem boundC_53 {row : Nat → Int32} {q n k g : Nat} {wi : Nat → Nat} {x2 : Int32} {K : Int32 → Int32 → AH → Option (Int32 × AH)} (hV : AV row) (hA : AW row) (hB : BV row) (hq : q < 20) (hW : WiV row n wi) (hK : KE row (kQ q) (kL row q)) (hk : k < n) : ∀ (j c : Nat) (σ : AH), c + j = 3 → OjI row q n wi σ →
    ∃ τ, F_X11_bound_53 K (j + 1 + g) x2 (nI k) (b2 (cnB row q n wi k c)) (nI (c + 1)) σ = F_X11_bound_107 K x2 (nI k) (b2 (cnB row q n wi k 3)) τ ∧ OjI row q n wi τ ∧ Ch CQc CQf σ τ := by
  have hn := hW.1
  intro j
  induction j with
  | zero =>
    intro c σ hc hO
    have e : c = 3 := by omega
    subst e
    rw [show 0 + 1 + g = g + 1 by omega]
    show ∃ τ, B_X11_bound_53 K (F_X11_bound_53 K g) x2 (nI k) (b2 (cnB row q n wi k 3)) (nI (3 + 1)) σ = _ ∧ _
    unfold B_X11_bound_53
    rw [fa_lit 3, if_pos (nI_lt (by omega) (by decide))]
    exact ⟨σ, rfl, hO, Ch.rf _⟩
  | succ j ih =>
    intro c σ hc hO
    rw [show j + 1 + 1 + g = (j + 1 + g) + 1 by omega]
    show ∃ τ, B_X11_bound_53 K (F_X11_bound_53 K (j + 1 + g)) x2 (nI k) (b2 (cnB row q n wi k c)) (nI (c + 1)) σ = _ ∧ _
    unfold B_X11_bound_53 F_X11_bound_99
    rw [fa_lit 3, if_neg (nI_nlt (by omega) (by omega))]
    cases hb : cnB row q n wi k c with
    | true =>
      have b3 := cnB_up (j + 1) c hb
      rw [show c + (j + 1) = 3 by omega] at b3
      rw [if_neg (show ¬ b2 true = 0 by decide), b3]
      exact ⟨σ, rfl, hO, Ch.rf _⟩
    | false =>
      rw [if_pos (show b2 false = 0 from rfl)]
      have e2 : (2 : Int32) * nI k = nI (2 * k) := by simp only [fa_lit, pk_mul]
      have pw : 4 ^ k ≤ 1024 := by
        have : 4 ^ k ≤ 4 ^ 5 := Nat.pow_le_pow_right (by decide) (by omega)
        exact this
      have m1 : (c + 1) * 4 ^ k ≤ 3 * 1024 := Nat.mul_le_mul (by omega) pw
      have e4 : nI (c + 1) <<< (nI (2 * k) &&& 31) = nI ((c + 1) * 4 ^ k) := by
        rw [pk_shlN _ (2 * k) (smod_l (by omega)) (by rw [Nat.pow_mul]; exact Nat.lt_of_le_of_lt m1 (by decide)), Nat.pow_mul]
      obtain ⟨τ1, u1, u2, u3⟩ := F_tell (Y := (c + 1) * 4 ^ k) (σ := σ) (by omega)
      rw [e2, e4, u1, bv_some]
      obtain ⟨τ2, v1, v2, v3, v4, v5, v6⟩ := F_playRow (r := one k (c + 1)) hV hA hB hq hW hK (fun i => by unfold one; split <;> omega) (hO.1.put u3) (hO.2.1.ch u3 (by simp) (by simp)) (fun i hi => by rw [u2 i (by omega), pw_one (by omega) (by omega) (by omega)]) (hO.2.2.ch u3)
      rw [v1, bd_some, if_pos (by decide), F_housedIn hB hW v2.1.2.1 v3 v5, bd_some, nI_1]
      have cc : Ch CQc CQf σ τ2 := (u3.mono (by simp [CQc]) (by simp)).trans (v6.mono (by simp [PLc, CQc]) (by simp [PLf, CQf]))
      have l36 := hoC_le (q := q) (cs := one k (c + 1)) hB hW
      have eh : hoN row wi (cR row q n wi (one k (c + 1))) n = hoC row q n wi (one k (c + 1)) := rfl
      rw [eh]
      have bs : cnB row q n wi k (c + 1) = (cnB row q n wi k c || decide (0 < hoC row q n wi (one k (c + 1)))) := rfl
      rw [hb, Bool.false_or] at bs
      obtain ⟨τ3, w1, w2, w3⟩ := ih (c + 1) τ2 (by omega) ⟨v2, v3, v4⟩
      refine ⟨τ3, ?_, w2, cc.trans w3⟩
      rw [bs] at w1
      by_cases z : 0 < hoC row q n wi (one k (c + 1))
      · rw [if_neg (show ¬ nI _ ≤ (0 : Int32) from nI_ge (a := 0) z (by omega))]
        rw [decide_eq_true z] at w1; exact w1
      · rw [if_pos (show nI _ ≤ (0 : Int32) from nI_le (b := 0) (by omega) (by decide))]
        rw [decide_eq_false z] at w1; exact w1
theorem boundC_loop {row : Nat → Int32} {q n g : Nat} {wi : Nat → Nat} (hV : AV row) (hA : AW row) (hB : BV row) (hq : q < 20) (hW : WiV row n wi) (hK : KE row (kQ q) (kL row q)) : ∀ (j k : Nat) (σ : AH), k + j = n → OjI row q n wi σ →
    ∃ τ, F_X11_bound_36 (j + 1 + g) (nI (bnS row q n wi k)) (nI k) σ = some (nI (bnS row q n wi n), τ) ∧ OjI row q n wi τ ∧ Ch CQc CQf σ τ := by
  have hn := hW.1
  intro j
  induction j with
  | zero =>
    intro k σ hk hO
    rw [show 0 + 1 + g = g + 1 by omega]
    show ∃ τ, B_X11_bound_36 (F_X11_bound_36 g) (nI (bnS row q n wi k)) (nI k) σ = _ ∧ _
    unfold B_X11_bound_36
    rw [hO.2.1.1, if_pos (nI_le (by omega) (by omega)), show k = n by omega]
    exact ⟨σ, rfl, hO, Ch.rf _⟩
  | succ j ih =>
    intro k σ hk hO
    rw [show j + 1 + 1 + g = (j + 1 + g) + 1 by omega]
    show ∃ τ, B_X11_bound_36 (F_X11_bound_36 (j + 1 + g)) (nI (bnS row q n wi k)) (nI k) σ = _ ∧ _
    unfold B_X11_bound_36
    obtain ⟨g3, hg3⟩ := BIGe 3 (by decide)
    obtain ⟨τ, t1, t2, t3⟩ := boundC_53 (g := g3) (x2 := nI (bnS row q n wi k)) (K := F_X11_bound_36 (j + 1 + g)) hV hA hB hq hW hK (show k < n by omega) 3 0 σ (by omega) hO
    have t1' : F_X11_bound_53 (F_X11_bound_36 (j + 1 + g)) BIG (nI (bnS row q n wi k)) (nI k) (0 : Int32) (1 : Int32) σ = F_X11_bound_107 (F_X11_bound_36 (j + 1 + g)) (nI (bnS row q n wi k)) (nI k) (b2 (cnB row q n wi k 3)) τ := by rw [hg3]; exact t1
    rw [hO.2.1.1, if_neg (nI_ge (by omega) (by omega)), t1']
    unfold F_X11_bound_107 F_X11_bound_125
    have st : bnS row q n wi (k + 1) = bnS row q n wi k + (if cnB row q n wi k 3 = true then pR row (wi k) else 0) := rfl
    obtain ⟨τ2, u1, u2, u3⟩ := ih (k + 1) τ (by omega) t2
    rw [st] at u1
    refine ⟨τ2, ?_, u2, t3.trans u3⟩
    rw [F_roomsOfC hB hW t2.1.1.2.1 t2.2.1 (show k < n by omega), bd_some, nI_1, nI_add]
    cases hb : cnB row q n wi k 3 with
    | false =>
      rw [hb, if_neg (by decide)] at u1
      rw [if_pos (show b2 false = 0 from rfl), show nI (bnS row q n wi k) + (0 : Int32) = nI (bnS row q n wi k + 0) from nI_add _ 0]
      exact u1
    | true =>
      rw [hb, if_pos rfl] at u1
      rw [if_neg (show ¬ b2 true = 0 by decide)]; exact u1
theorem C_bound {row : Nat → Int32} {n : Nat} {wi : Nat → Nat} {x1 : Int32} {σ : AH} (hV : AV row) (hA : AW row) (hB : BV row) (hW : WiV row n wi) (h : CiI row n wi σ) :
    ∃ τ, F_X11_bound x1 σ = some (boundV row n wi x1, τ) ∧ CiI row n wi τ ∧ Ch CQc CQf σ τ := by
  have hn := hW.1
  unfold F_X11_bound boundV
  rw [isIn019, bd_b (α := Int32)]
  by_cases c1 : rgB 0 19 x1 = true
  · rw [if_pos c1, if_pos c1]
    obtain ⟨e1, b1⟩ := rg0_n (b := 19) c1 (by decide)
    obtain ⟨q, hq⟩ : ∃ q, q = cl x1 := ⟨_, rfl⟩
    rw [← hq] at e1 b1 ⊢
    rw [e1]
    obtain ⟨k1, k2, τ, t1, t2, t3, t4, t5⟩ := opened hV hA hB (show q < 20 by omega) h
    rw [k1, bd_some, t1, bv_some]
    obtain ⟨g, hg⟩ := BIGe n (by omega)
    obtain ⟨τ2, u1, u2, u3⟩ := boundC_loop (g := g) hV hA hB (show q < 20 by omega) hW k2 n 0 τ (by omega) ⟨t2, t3, t4⟩
    have u1' : F_X11_bound_36 BIG (0 : Int32) (0 : Int32) τ = some (nI (bnS row q n wi n), τ2) := by rw [hg]; exact u1
    rw [u1']
    have cc : Ch CQc CQf σ τ2 := (t5.mono (by simp [OQc, CQc]) (by simp [OQf, CQf])).trans u3
    exact ⟨τ2, rfl, h.to (by omega) cc u2.1, cc⟩
  · rw [if_neg c1, if_neg c1]; exact ⟨σ, rfl, h, Ch.rf _⟩
end
