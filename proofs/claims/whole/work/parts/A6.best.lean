section
theorem br {row : Nat → Int32} {q n : Nat} {wi : Nat → Nat} (hV : AV row) (hA : AW row) (hB : BV row) (hq : q < 20) (hW : WiV row n wi) (hK : KE row (kQ q) (kL row q)) : ∀ (u t : Nat), t + u = 3 → ∀ (m : Nat), u + 1 ≤ m → ∀ (r : Nat → Nat) (M : Nat) (V : (Nat → Nat) → Prop) (σ : AH), (∀ i, r i ≤ t) → M < 64 → (∀ i, i < n → M.testBit i = decide (r i = 0)) → BrI row q n wi t r σ → VsI row q n wi V σ →
    ∃ τ, BK m (nI t) (nI M) σ = some τ ∧ BrI row q n wi t r τ ∧ VsI row q n wi (fun x => V x ∨ ExT n t r x) τ ∧ Ch (BRc t) BRf σ τ := by
  have hn := hW.1
  intro u
  induction u with
  | zero =>
    intro t ht m hm r M V σ hr hM hb hI hv
    have e3 : t = 3 := by omega
    subst e3
    obtain ⟨m', rfl⟩ : ∃ m', m = m' + 1 := ⟨m - 1, by omega⟩
    obtain ⟨iO, iC, iS, iR, iA⟩ := hI
    show ∃ τ, F_X1_branch (BK m') (nI 3) (nI M) σ = some τ ∧ _
    unfold F_X1_branch
    have g2 : gR σ 80 (2 : Int32).toNatClampNeg = some 103 := iS.2.2
    have eR : RjT row q n wi r (wkT 3) = cR row q n wi r := (cR_L hK).symm
    have A : SiI row (kL row q) (sC (sQ row q) wi q r n) 103 (13 * q + wkT 3) (cR row q n wi r) σ := by rw [← eR]; exact iA
    obtain ⟨τ, t1, t2, t3⟩ := F_keepIfBetter hB hW iO.1.2.1 iC (fun i => by have := hr i; omega) iR A hv
    rw [if_neg (show ¬ nI 3 < (3 : Int32) by decide), if_pos (by decide), g2, bo_some, if_pos (by decide), t1, bv_some]
    have cc : Ch (BRc 3) BRf σ τ := t3.mono (fun i hi => BRm.mpr (by simp at hi; omega)) (by simp [BRf])
    refine ⟨τ, rfl, ⟨iO.br cc (iO.1.fr t3 (by simp) (by simp)), iC.ch t3 (by simp) (by simp), iS.ch t3, iR.ch t3 (by simp) (by simp), ?_⟩, t2.im (fun x hx => ?_), cc⟩
    · have : abT 3 = 103 := rfl
      exact iA.keep t3 (by rw [this]; simp) (by rw [this]; simp)
    · rcases hx with z | z
      · exact Or.inl z
      · refine Or.inr (fun i hi => ?_)
        obtain ⟨g1, g2⟩ := z.2 i hi
        by_cases e : r i = 0
        · rcases g2 e with g | g
          · rw [g, e]
          · have := z.1 i; omega
        · exact g1 e
  | succ u ih =>
    intro t ht m hm r M V σ hr hM hb hI hv
    obtain ⟨m', rfl⟩ : ∃ m', m = m' + 1 := ⟨m - 1, by omega⟩
    show ∃ τ, F_X1_branch (BK m') (nI t) (nI M) σ = some τ ∧ _
    unfold F_X1_branch
    have t3 : t < 3 := by omega
    rw [if_pos (show nI t < (3 : Int32) from nI_lt (b := 3) t3 (by decide))]
    have f4 : gI σ 68 4 = nI (13 * q) := hI.1.2.2.1.1
    have e1 : nI (13 * q) + nI t * (4 : Int32) = nI (13 * q + 4 * t) := by simp only [fa_lit, nI_add, pk_mul]; rw [Nat.mul_comm t 4]
    have e4 : nI (13 * q + 4 * t) + (4 : Int32) = nI (13 * q + 4 * t + 4) := nI_add _ 4
    have e13 : nI (13 * q) + (13 : Int32) = nI (13 * q + 13) := nI_add _ 13
    have hC := ih (t + 1) (by omega) m' (by omega)
    have all : ∀ x, ExT n t r x → tmT n t r x ≤ M := fun x _ => by
      have : tmT n t r x &&& M = tmT n t r x := sub_of (fun i e => by
        unfold tmT at e
        rw [mk_bit] at e
        have e' := Bool.and_eq_true_iff.mp e
        have hi := of_decide_eq_true e'.1
        have hb' := of_decide_eq_true e'.2
        rw [hb i hi, decide_eq_true hb'.1])
      rw [← this]; exact Nat.and_le_right
    obtain ⟨g, hg⟩ := BIGe (M + 1) (by omega)
    have hg' : BIG = M + 2 + g := by rw [hg]
    by_cases z : t = 0
    · rw [if_pos (show nI t = 0 by rw [z]; rfl)]
      unfold F_X1_branch_35b F_X1_branch_65b
      have w1 : wkT (t + 1) = 4 * t + 4 := by unfold wkT; rw [if_pos (by omega)]; omega
      rw [if_neg (show ¬ nI t = (2 : Int32) from fun e => by have := (nI_eq (b := 2) (by omega) (by decide)).mp e; omega), f4, e1, e4]
      obtain ⟨τ, a1, a2, a3, a4⟩ := lp_70b (C := BK m') hV hA hB hq hW hK z hr hM hb (fun r' M' V' σ' => hC r' M' V' σ') M (Nat.and_self M) g V σ hI hv
      rw [w1, ← Nat.add_assoc] at a1
      rw [hg']
      exact ⟨τ, a1, a2, a3.im (fun x hx => hx.imp id (fun w => ⟨w, all x w⟩)), a4⟩
    · rw [if_neg (show ¬ nI t = 0 from fun e => z ((nI_eq (b := 0) (by omega) (by decide)).mp e))]
      have em : nI t - (1 : Int32) = nI (t - 1) := pk_sub (b := 1) (by omega)
      have gr : gR σ 80 (t - 1) = some (73 + 10 * t) := by
        obtain ⟨x0, x1, x2⟩ := hI.2.2.1
        have : t = 1 ∨ t = 2 := by omega
        rcases this with y | y <;> subst y
        · exact x0
        · exact x1
      have mem : 73 + 10 * t ∈ siteIds := by
        have : t = 1 ∨ t = 2 := by omega
        rcases this with y | y <;> subst y <;> decide
      rw [em, if_pos (inB_n (by omega) (by decide)), nI_clamp (by omega), gr, bo_some, if_pos mem]
      unfold F_X1_branch_35 F_X1_branch_65
      rw [f4, e1, e4, e13, hg']
      obtain ⟨τ, a1, a2, a3, a4⟩ := lp_70 (C := BK m') hV hA hB hq hW hK ⟨by omega, t3⟩ hr hM hb (fun r' M' V' σ' => hC r' M' V' σ') M (Nat.and_self M) g V σ hI hv
      refine ⟨τ, ?_, a2, a3.im (fun x hx => hx.imp id (fun w => ⟨w, all x w⟩)), a4⟩
      by_cases y : t = 2
      · have w1 : wkT (t + 1) = 13 := by unfold wkT; rw [if_neg (by omega)]
        rw [w1] at a1
        rw [if_pos (show nI t = (2 : Int32) by rw [y]; rfl)]; exact a1
      · have w1 : wkT (t + 1) = 4 * t + 4 := by unfold wkT; rw [if_pos (by omega)]; omega
        rw [w1, ← Nat.add_assoc] at a1
        rw [if_neg (show ¬ nI t = (2 : Int32) from fun e => y ((nI_eq (b := 2) (by omega) (by decide)).mp e))]; exact a1
/-- what 'chosen' tells, in the class -/
def BsC (m : Nat) (v : Int32) (c : Nat → Int32) (τ : AH) : Prop := gI τ 68 11 = nI m ∧ gI τ 68 13 = v ∧ ∀ k, k < m → gI τ 82 k = c k
theorem best_is {row : Nat → Int32} {q n : Nat} {wi y : Nat → Nat} (hy : ∀ i, y i < 4) (h : ∀ x : Nat → Nat, (∀ i, x i < 4) → ¬ btr row q n wi x y) : hoC row q n wi y = hoC row q n wi (dg n (bestX row q n wi)) ∧ shC row q n wi y = shC row q n wi (dg n (bestX row q n wi)) ∧ ∀ k, k < n → y k = dg n (bestX row q n wi) k := by
  have pos : 0 < 4 ^ n := Nat.pow_pos (by decide)
  have lB : bestX row q n wi < 4 ^ n := bsI_lt _ pos
  have lY := cdN_lt hy n
  have same : ∀ k, k < n → dg n (cdN y n) k = y k := fun k hk => cdN_dg hy hk
  obtain ⟨s1, s2⟩ := hoC_congr (row := row) (q := q) (wi := wi) same
  have b1 := bsI_best (h := fun X => hoC row q n wi (dg n X)) (s := fun X => shC row q n wi (dg n X)) (4 ^ n) (cdN y n) lY
  have b2' := h (dg n (bestX row q n wi)) (fun i => dg_lt)
  have eB : cdN (dg n (bestX row q n wi)) n = bestX row q n wi := by
    rw [dg_cdN lB n (Nat.le_refl _), Nat.sub_self, Nat.pow_zero, Nat.div_one]
  unfold btr at b2'
  rw [eB] at b2'
  have fold : bsI (fun X => hoC row q n wi (dg n X)) (fun X => shC row q n wi (dg n X)) (4 ^ n) = bestX row q n wi := rfl
  rw [fold] at b1
  rw [s1, s2] at b1
  have eX : bestX row q n wi = cdN y n := by omega
  refine ⟨by omega, by omega, fun k hk => ?_⟩
  rw [eX, same k hk]
theorem C_best {row : Nat → Int32} {n : Nat} {wi : Nat → Nat} {x1 : Int32} {σ : AH} (hV : AV row) (hA : AW row) (hB : BV row) (hW : WiV row n wi) (h : CiI row n wi σ) :
    ∃ τ, F_X11_best x1 σ = some (bestV row n wi x1, τ) ∧ CiI row n wi τ ∧ (rgB 0 19 x1 = true → BsC n (nI (shC row (cl x1) n wi (dg n (bestX row (cl x1) n wi)))) (fun k => nI (dg n (bestX row (cl x1) n wi) k)) τ) ∧ (¬ rgB 0 19 x1 = true → τ = σ) ∧ Ch BQc BQf σ τ := by
  have hn := hW.1
  unfold F_X11_best bestV
  rw [isIn019, bd_b (α := Int32)]
  by_cases c1 : rgB 0 19 x1 = true
  · rw [if_pos c1, if_pos c1]
    obtain ⟨e1, b1⟩ := rg0_n (b := 19) c1 (by decide)
    obtain ⟨q, hq⟩ : ∃ q, q = cl x1 := ⟨_, rfl⟩
    rw [← hq] at e1 b1 ⊢
    rw [e1]
    obtain ⟨k1, k2, τ, t1, t2, t3, t4, t5⟩ := opened hV hA hB (show q < 20 by omega) h
    rw [k1, bd_some, t1, bv_some]
    unfold F_X1_forget
    rw [lt_e, bv_some]
    obtain ⟨σ1, hσ⟩ : ∃ x, x = sI (sI (sI (sA τ 81 (filln (gI τ 81) 6 (0 : Int32))) 68 12 (-1 : Int32)) 68 13 (-1 : Int32)) 68 11 (gI (sI (sI (sA τ 81 (filln (gI τ 81) 6 (0 : Int32))) 68 12 (-1 : Int32)) 68 13 (-1 : Int32)) 68 3) := ⟨_, rfl⟩
    rw [← hσ]
    have c2 : Ch [81] [(68, 11), (68, 12), (68, 13)] τ σ1 := by
      rw [hσ]
      exact (((Ch.sA1 (by simp)).trans (Ch.sI1 (Or.inl (by simp)))).trans (Ch.sI1 (Or.inl (by simp)))).trans (Ch.sI1 (Or.inl (by simp)))
    have C1 : CwI n wi σ1 := t3.ch c2 (by simp) (by simp)
    have R1 : CrI n (fun _ => 0) σ1 := fun i hi => by
      rw [hσ, gI_sI_row (by decide), gI_sI_row (by decide), gI_sI_row (by decide), gI_sA_own]
      unfold filln; rw [if_pos (by omega)]; rfl
    have O1 : OqI row q σ1 := by
      obtain ⟨o1, ⟨o2, o3⟩, ⟨o4, o5, o6⟩, o7⟩ := t2
      have e68 : ∀ j, j < 10 → gI σ1 68 j = gI τ 68 j := fun j hj => c2.pI (by simp) (by simp; omega)
      refine ⟨o1.fr c2 (by simp) (by simp), ⟨?_, ?_⟩, ⟨?_, ?_, ?_⟩, o7.keep c2 (by simp) (by simp)⟩
      · rw [c2.rI (by simp) (by simp)]; exact o2
      · rw [c2.rI (by simp) (by simp), c2.rI (by simp) (by simp)]; exact o3
      · rw [e68 4 (by omega)]; exact o4
      · rw [e68 6 (by omega)]; exact o5
      · rw [e68 7 (by omega), c2.rI (by simp) (by simp)]; exact o6
    have f12 : gI σ1 68 12 = -1 := by rw [hσ, gI_sI_ne (by decide), gI_sI_ne (by decide), gI_sI_at]
    have f11 : gI σ1 68 11 = nI n := by
      rw [hσ, gI_sI_at, gI_sI_ne (by decide), gI_sI_ne (by decide), gI_sA_row (by decide)]; exact t3.1
    have p6 : 2 ^ n ≤ 64 := by
      have : 2 ^ n ≤ 2 ^ 6 := Nat.pow_le_pow_right (by decide) hn
      exact this
    have pos : 0 < 2 ^ n := Nat.pow_pos (by decide)
    have eM : ((1 : Int32) <<< (nI n &&& 31)) - (1 : Int32) = nI (2 ^ n - 1) := by
      rw [sh1 (by omega)]; exact pk_sub (b := 1) (by omega)
    have B1 : BrI row q n wi 0 (fun _ => 0) σ1 := by
      refine ⟨O1, C1, t4.ch c2, R1, ?_⟩
      have e0 : sC (sQ row q) wi q (fun _ => 0) n = sQ row q := sC_zero hW (fun _ _ => rfl)
      unfold RjT
      rw [e0]
      exact O1.2.2.2
    obtain ⟨τ2, u1, u2, u3, u4⟩ := br hV hA hB (show q < 20 by omega) hW k2 3 0 (by omega) 8 (by omega) (fun _ => 0) (2 ^ n - 1) (fun _ => False) σ1 (fun _ => Nat.le_refl _) (by omega) (fun i hi => by rw [Nat.testBit_two_pow_sub_one, decide_eq_true hi, decide_eq_true rfl]) B1 (Or.inl ⟨f12, fun _ h => h⟩)
    have u1' : G_X1_branch (0 : Int32) (((1 : Int32) <<< (gI σ1 68 3 &&& 31)) - (1 : Int32)) σ1 = some τ2 := by rw [C1.1, eM]; exact u1
    rw [u1', bv_some]
    have sub : ∀ i : Fin 113, i.val ∈ BRc 0 → i.val ∈ BQc := by decide +kernel
    have cc : Ch BQc BQf σ τ2 := ((t5.mono (by simp [OQc, BQc, CQc]) (by simp [OQf, BQf, CQf])).trans (c2.mono (by simp [BQc, CQc]) (by simp [BQf, CQf]))).trans (u4.mono (fun i hi => sub ⟨i, (BRm.mp hi).1⟩ hi) (by simp [BRf, BQf, CQf]))
    have ex : ∀ x : Nat → Nat, (∀ i, x i < 4) → ExT n 0 (fun _ => 0) x := fun x hx => ⟨hx, fun i hi => ⟨fun z => absurd rfl z, fun _ => by omega⟩⟩
    rcases u3 with ⟨_, z⟩ | ⟨y, y1, y2, y3, y4, y5⟩
    · exact absurd (Or.inr (ex (fun _ => 0) (fun _ => by decide))) (z (fun _ => 0))
    · obtain ⟨w1, w2, w3⟩ := best_is y1 (fun x hx => y5 x (Or.inr (ex x hx)))
      rw [y3, w1]
      refine ⟨τ2, rfl, h.toB (by omega) cc u2.1, fun _ => ⟨?_, ?_, fun k hk => ?_⟩, fun z => absurd (by rw [← e1]; exact c1) z, cc⟩
      · rw [u4.pI (fun z => by have := BRm.mp z; omega) (by simp [BRf])]; exact f11
      · rw [y4, w2]
      · rw [y2 k hk, w3 k hk]
  · rw [if_neg c1, if_neg c1]
    exact ⟨σ, rfl, h, fun z => absurd z c1, fun _ => rfl, Ch.rf _⟩
end
