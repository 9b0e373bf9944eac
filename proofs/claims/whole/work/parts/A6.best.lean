section
/-- what 'chosen' tells, in the class -/
def BsC (m : Nat) (v : Int32) (c : Nat → Int32) (τ : AH) : Prop := gI τ 68 11 = nI m ∧ gI τ 68 13 = v ∧ ∀ k, k < m → gI τ 82 k = c k
theorem best_is {row : Nat → Int32} {q n : Nat} {wi y : Nat → Nat} (hy : ∀ i, y i < 4) (h : ∀ x : Nat → Nat, (∀ i, x i < 4) → ¬ btr row q n wi x y) : hoC row q n wi y = hoC row q n wi (dg n (bestX row q n wi)) ∧ shC row q n wi y = shC row q n wi (dg n (bestX row q n wi)) ∧ ∀ k, k < n → y k = dg n (bestX row q n wi) k := by
  have pos : 0 < 4 ^ n := Nat.pow_pos (by decide)
  have lB : bestX row q n wi < 4 ^ n := bsI_lt _ pos
  have lY := cdN_lt hy n
  have same : ∀ k, k < n → dg n (cdN y n) k = y k := fun k hk => cdN_dg hy hk
  obtain ⟨s1, s2⟩ := hoC_congr (row := row) (q := q) (wi := wi) same
  have b1 := bsI_best (h := fun X => hoC row q n wi (dg n X)) (s := fun X => shC row q n wi (dg n X)) (4 ^ n) (cdN y n) lY
  have b2' := h (dg n (bestX row q n wi)) (fun i => dg_lt)
  have eB : cdN (dg n (bestX row q n wi)) n = bestX row q n wi := by
    rw [dg_cdN lB n (Nat.le_refl _), Nat.sub_self, Nat.pow_zero, Nat.div_one]
  unfold btr at b2'
  rw [eB] at b2'
  have fold : bsI (fun X => hoC row q n wi (dg n X)) (fun X => shC row q n wi (dg n X)) (4 ^ n) = bestX row q n wi := rfl
  rw [fold] at b1
  rw [s1, s2] at b1
  have eX : bestX row q n wi = cdN y n := by omega
  refine ⟨by omega, by omega, fun k hk => ?_⟩
  rw [eX, same k hk]
theorem C_best {row : Nat → Int32} {n : Nat} {wi : Nat → Nat} {x1 : Int32} {σ : AH} (hV : AV row) (hA : AW row) (hB : BV row) (hW : WiV row n wi) (h : CiI row n wi σ) :
    ∃ τ, F_X11_best x1 σ = some (bestV row n wi x1, τ) ∧ CiI row n wi τ ∧ (rgB 0 19 x1 = true → BsC n (nI (shC row (cl x1) n wi (dg n (bestX row (cl x1) n wi)))) (fun k => nI (dg n (bestX row (cl x1) n wi) k)) τ) ∧ (¬ rgB 0 19 x1 = true → τ = σ) ∧ Ch BQc BQf σ τ := by
  have hn := hW.1
  unfold F_X11_best bestV
  rw [isIn019, bd_b (α := Int32)]
  by_cases c1 : rgB 0 19 x1 = true
  · rw [if_pos c1, if_pos c1]
    obtain ⟨e1, b1⟩ := rg0_n (b := 19) c1 (by decide)
    obtain ⟨q, hq⟩ : ∃ q, q = cl x1 := ⟨_, rfl⟩
    rw [← hq] at e1 b1 ⊢
    rw [e1]
    obtain ⟨k1, k2, τ, t1, t2, t3, t4, t5⟩ := opened hV hA hB (show q < 20 by omega) h
    rw [k1, bd_some, t1, bv_some]
    unfold F_X1_forget
    rw [lt_e, bv_some]
    obtain ⟨σ1, hσ⟩ : ∃ x, x = sI (sI (sI (sA τ 81 (filln (gI τ 81) 6 (0 : Int32))) 68 12 (-1 : Int32)) 68 13 (-1 : Int32)) 68 11 (gI (sI (sI (sA τ 81 (filln (gI τ 81) 6 (0 : Int32))) 68 12 (-1 : Int32)) 68 13 (-1 : Int32)) 68 3) := ⟨_, rfl⟩
    rw [← hσ]
    have c2 : Ch [81] [(68, 11), (68, 12), (68, 13)] τ σ1 := by
      rw [hσ]
      exact (((Ch.sA1 (by simp)).trans (Ch.sI1 (Or.inl (by simp)))).trans (Ch.sI1 (Or.inl (by simp)))).trans (Ch.sI1 (Or.inl (by simp)))
    have C1 : CwI n wi σ1 := t3.ch c2 (by simp) (by simp)
    have R1 : CrI n (fun _ => 0) σ1 := fun i hi => by
      rw [hσ, gI_sI_row (by decide), gI_sI_row (by decide), gI_sI_row (by decide), gI_sA_own]
      unfold filln; rw [if_pos (by omega)]; rfl
    have O1 : OqI row q σ1 := by
      obtain ⟨o1, ⟨o2, o3⟩, ⟨o4, o5, o6⟩, o7⟩ := t2
      have e68 : ∀ j, j < 10 → gI σ1 68 j = gI τ 68 j := fun j hj => c2.pI (by simp) (by simp; omega)
      refine ⟨o1.fr c2 (by simp) (by simp), ⟨?_, ?_⟩, ⟨?_, ?_, ?_⟩, o7.keep c2 (by simp) (by simp)⟩
      · rw [c2.rI (by simp) (by simp)]; exact o2
      · rw [c2.rI (by simp) (by simp), c2.rI (by simp) (by simp)]; exact o3
      · rw [e68 4 (by omega)]; exact o4
      · rw [e68 6 (by omega)]; exact o5
      · rw [e68 7 (by omega), c2.rI (by simp) (by simp)]; exact o6
    have f12 : gI σ1 68 12 = -1 := by rw [hσ, gI_sI_ne (by decide), gI_sI_ne (by decide), gI_sI_at]
    have f11 : gI σ1 68 11 = nI n := by
      rw [hσ, gI_sI_at, gI_sI_ne (by decide), gI_sI_ne (by decide), gI_sA_row (by decide)]; exact t3.1
    have p6 : 2 ^ n ≤ 64 := by
      have : 2 ^ n ≤ 2 ^ 6 := Nat.pow_le_pow_right (by decide) hn
      exact this
    have pos : 0 < 2 ^ n := Nat.pow_pos (by decide)
    have eM : ((1 : Int32) <<< (nI n &&& 31)) - (1 : Int32) = nI (2 ^ n - 1) := by
      rw [sh1 (by omega)]; exact pk_sub (b := 1) (by omega)
    have B1 : LvI row q n wi 0 (fun _ => 0) σ1 := by
      refine ⟨O1, C1, t4.ch c2, ⟨fun _ => 0, fun _ => (show 0 < 4 by decide), R1, fun _ _ => rfl⟩, ?_⟩
      have e0 : sC (sQ row q) wi q (fun _ => 0) n = sQ row q := sC_zero hW (fun _ _ => rfl)
      unfold RjT
      rw [e0]
      exact O1.2.2.2
    obtain ⟨τ2, u1, u2, u3, u4⟩ := lp_53 hV hA hB (show q < 20 by omega) hW k2 σ1 B1 (Or.inl ⟨f12, fun _ h => h⟩)
    rw [C1.1, eM, u1]
    have sub : ∀ i : Fin 113, i.val ∈ BRc 0 → i.val ∈ BQc := by decide +kernel
    have cc : Ch BQc BQf σ τ2 := ((t5.mono (by simp [OQc, BQc, CQc]) (by simp [OQf, BQf, CQf])).trans (c2.mono (by simp [BQc, CQc]) (by simp [BQf, CQf]))).trans (u4.mono (fun i hi => sub ⟨i, (BRm.mp hi).1⟩ hi) (by simp [BRf, BQf, CQf]))
    rcases u3 with ⟨_, z⟩ | ⟨y, y1, y2, y3, y4, y5⟩
    · exact absurd (show ∀ i : Nat, (fun _ : Nat => (0 : Nat)) i < 4 from fun _ => (show 0 < 4 by decide)) (z (fun _ => 0))
    · obtain ⟨w1, w2, w3⟩ := best_is y1 (fun x hx => y5 x hx)
      rw [y3, w1]
      refine ⟨τ2, rfl, h.toB (by omega) cc u2.1, fun _ => ⟨?_, ?_, fun k hk => ?_⟩, fun z => absurd (by rw [← e1]; exact c1) z, cc⟩
      · rw [u4.pI (fun z => by have := BRm.mp z; omega) (by simp [BRf])]; exact f11
      · rw [y4, w2]
      · rw [y2 k hk, w3 k hk]
  · rw [if_neg c1, if_neg c1]
    exact ⟨σ, rfl, h, fun z => absurd z c1, fun _ => rfl, Ch.rf _⟩
end
