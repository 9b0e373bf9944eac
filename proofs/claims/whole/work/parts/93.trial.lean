section
/-! a ROW of choices is tried -/
def dg (n X i : Nat) : Nat := X / 4 ^ (n - 1 - i) % 4
theorem dg_lt {n X i : Nat} : dg n X i < 4 := Nat.mod_lt _ (by decide)
theorem dg_sh {n X i : Nat} (hX : X < 4096) (hn : n ≤ 6) (hi : i < n) : (nI X >>> (((2 : Int32) * ((nI n - (1 : Int32)) - nI i)) &&& 31)) &&& (3 : Int32) = nI (dg n X i) := by
  have e1 : nI n - (1 : Int32) = nI (n - 1) := pk_sub (b := 1) (by omega)
  have e2 : nI (n - 1) - nI i = nI (n - 1 - i) := pk_sub (by omega)
  have e3 : (2 : Int32) * nI (n - 1 - i) = nI (2 * (n - 1 - i)) := by simp only [fa_lit, pk_mul]
  rw [e1, e2, e3, pk_shrN (by omega) _ (2 * (n - 1 - i)) (smod_l (by omega)), pk_andN (Nat.lt_of_le_of_lt (Nat.div_le_self _ _) (by omega)) 2 (by decide)]
  unfold dg
  rw [Nat.pow_mul]
theorem try_2 {R : Nat → Nat → Int32} {x1 x2 : Int32} {σ : AH} (hR : KpI R σ) : ∃ τ, F_X12_tryRow_2 BIG x1 x2 (0 : Int32) σ = F_X12_tryRow_27 BIG x1 x2 (0 : Int32) τ ∧ (∀ m, m < 5 → gI τ 142 m = R 142 m) ∧ Ch [142] [] σ τ := by
  obtain ⟨g, hg⟩ := BIGe 5 (by decide)
  rw [show F_X12_tryRow_2 BIG = F_X12_tryRow_2 (5 + 1 + g) by rw [hg]]
  obtain ⟨τ, t1, t2, t3⟩ := loop_inv (N := 5) (g := g) (cs := [142]) (fs := []) (G := fun f x s => F_X12_tryRow_2 f x1 x2 x s) (E := fun s => F_X12_tryRow_27 BIG x1 x2 (0 : Int32) s) (P := fun i s => (∀ j, j < 5 → gI s 154 j = R 142 j) ∧ ∀ j, j < i → gI s 142 j = R 142 j) (fun f i s hi h => by
    refine ⟨sI s 142 i (R 142 i), ?_, ⟨fun j hj => ?_, fun j hj => ?_⟩, Ch.sI1 (Or.inr (by simp))⟩
    · show B_X12_tryRow_2 (F_X12_tryRow_2 f) x1 x2 (nI i) s = _
      unfold B_X12_tryRow_2
      have q : inB (nI i) 5 = true := inB_n hi (by omega)
      have n : (nI i).toNatClampNeg = i := nI_clamp (by omega)
      rw [fa_lit 5, if_neg (nI_ge hi (by omega)), if_pos q, if_pos q, n, h.1 i hi, nI_1]
    · rw [gI_sI_row (by decide)]; exact h.1 j hj
    · by_cases e : j = i
      · subst e; rw [gI_sI_at]
      · rw [gI_sI_ne e]; exact h.2 j (by omega)) (fun f s h => by
    show B_X12_tryRow_2 (F_X12_tryRow_2 f) x1 x2 (nI 5) s = _
    unfold B_X12_tryRow_2
    rw [fa_lit 5, if_pos (nI_le (Nat.le_refl _) (by decide))]) 5 0 σ (by omega) ⟨hR.1, fun j hj => absurd hj (Nat.not_lt_zero j)⟩
  exact ⟨τ, t1, t2.2, t3⟩
theorem try_27 {R : Nat → Nat → Int32} {x1 x2 : Int32} {σ : AH} (hV : RV_ R) (hR : KpI R σ) : ∃ τ, F_X12_tryRow_27 BIG x1 x2 (0 : Int32) σ = F_X12_tryRow_77 BIG x1 x2 (0 : Int32) τ ∧ (∀ p, p < 30 → gI τ 144 p = R 144 p ∧ gI τ 145 p = R 145 p ∧ gI τ 146 p = R 146 p) ∧ Ch [144, 145, 146] [] σ τ := by
  obtain ⟨g, hg⟩ := BIGe 30 (by decide)
  rw [show F_X12_tryRow_27 BIG = F_X12_tryRow_27 (30 + 1 + g) by rw [hg]]
  obtain ⟨τ, t1, t2, t3⟩ := loop_inv (N := 30) (g := g) (cs := [144, 145, 146]) (fs := []) (G := fun f x s => F_X12_tryRow_27 f x1 x2 x s) (E := fun s => F_X12_tryRow_77 BIG x1 x2 (0 : Int32) s) (P := fun i s => (∀ j, j < 30 → gI s 155 j = R 144 j ∧ gI s 156 j = R 145 j ∧ gI s 157 j = R 146 j) ∧ ∀ j, j < i → gI s 144 j = R 144 j ∧ gI s 145 j = R 145 j ∧ gI s 146 j = R 146 j) (fun f i s hi h => by
    refine ⟨sI (sI (sI s 144 i (R 144 i)) 145 i (R 145 i)) 146 i (R 146 i), ?_, ⟨fun j hj => ?_, fun j hj => ?_⟩, ((Ch.sI1 (Or.inr (by simp))).trans (Ch.sI1 (Or.inr (by simp)))).trans (Ch.sI1 (Or.inr (by simp)))⟩
    · show B_X12_tryRow_27 (F_X12_tryRow_27 f) x1 x2 (nI i) s = _
      unfold B_X12_tryRow_27
      have q : inB (nI i) 30 = true := inB_n hi (by omega)
      have n : (nI i).toNatClampNeg = i := nI_clamp (by omega)
      rw [fa_lit 30, if_neg (nI_ge hi (by omega)), if_pos q, if_pos q, if_pos q, if_pos q, lt_e, if_pos q, if_pos q, n, gI_sI_row (a := 156) (by decide), (h.1 i hi).1, (h.1 i hi).2.1, nar_bb (hV i hi).2, gI_sI_row (a := 157) (by decide), gI_sI_row (a := 157) (by decide), (h.1 i hi).2.2, nI_1]
    · rw [gI_sI_row (by decide), gI_sI_row (by decide), gI_sI_row (by decide), gI_sI_row (by decide), gI_sI_row (by decide), gI_sI_row (by decide), gI_sI_row (by decide), gI_sI_row (by decide), gI_sI_row (by decide)]; exact h.1 j hj
    · by_cases e : j = i
      · subst e; rw [gI_sI_row (a := 144) (by decide), gI_sI_row (a := 144) (by decide), gI_sI_at, gI_sI_row (a := 145) (by decide), gI_sI_at, gI_sI_at]; exact ⟨rfl, rfl, rfl⟩
      · simp only [gI_sI_ne e]; exact h.2 j (by omega)) (fun f s h => by
    show B_X12_tryRow_27 (F_X12_tryRow_27 f) x1 x2 (nI 30) s = _
    unfold B_X12_tryRow_27
    rw [fa_lit 30, if_pos (nI_le (Nat.le_refl _) (by decide))]) 30 0 σ (by omega) ⟨hR.2.1, fun j hj => absurd hj (Nat.not_lt_zero j)⟩
  exact ⟨τ, t1, t2.2, t3⟩
theorem try_77 {R : Nat → Nat → Int32} {x1 x2 : Int32} {σ : AH} (hR : KpI R σ) : ∃ τ, F_X12_tryRow_77 BIG x1 x2 (0 : Int32) σ = F_X12_tryRow_115 BIG x1 x2 (0 : Int32) τ ∧ (∀ i, i < 90 → gI τ 148 i = R 148 i ∧ gI τ 149 i = R 149 i) ∧ Ch [148, 149] [] σ τ := by
  obtain ⟨g, hg⟩ := BIGe 90 (by decide)
  rw [show F_X12_tryRow_77 BIG = F_X12_tryRow_77 (90 + 1 + g) by rw [hg]]
  obtain ⟨τ, t1, t2, t3⟩ := loop_inv (N := 90) (g := g) (cs := [148, 149]) (fs := []) (G := fun f x s => F_X12_tryRow_77 f x1 x2 x s) (E := fun s => F_X12_tryRow_115 BIG x1 x2 (0 : Int32) s) (P := fun i s => (∀ j, j < 90 → gI s 158 j = R 148 j ∧ gI s 159 j = R 149 j) ∧ ∀ j, j < i → gI s 148 j = R 148 j ∧ gI s 149 j = R 149 j) (fun f i s hi h => by
    refine ⟨sI (sI s 148 i (R 148 i)) 149 i (R 149 i), ?_, ⟨fun j hj => ?_, fun j hj => ?_⟩, (Ch.sI1 (Or.inr (by simp))).trans (Ch.sI1 (Or.inr (by simp)))⟩
    · show B_X12_tryRow_77 (F_X12_tryRow_77 f) x1 x2 (nI i) s = _
      unfold B_X12_tryRow_77
      have q : inB (nI i) 90 = true := inB_n hi (by omega)
      have n : (nI i).toNatClampNeg = i := nI_clamp (by omega)
      rw [fa_lit 90, if_neg (nI_ge hi (by omega)), if_pos q, if_pos q, if_pos q, if_pos q, lt_e, n, gI_sI_row (a := 159) (by decide), (h.1 i hi).1, (h.1 i hi).2, nI_1]
    · rw [gI_sI_row (by decide), gI_sI_row (by decide), gI_sI_row (by decide), gI_sI_row (by decide)]; exact h.1 j hj
    · by_cases e : j = i
      · subst e; rw [gI_sI_row (a := 148) (by decide), gI_sI_at, gI_sI_at]; exact ⟨rfl, rfl⟩
      · rw [gI_sI_ne e, gI_sI_ne e, gI_sI_ne e, gI_sI_ne e]; exact h.2 j (by omega)) (fun f s h => by
    show B_X12_tryRow_77 (F_X12_tryRow_77 f) x1 x2 (nI 90) s = _
    unfold B_X12_tryRow_77
    rw [fa_lit 90, if_pos (nI_le (Nat.le_refl _) (by decide))]) 90 0 σ (by omega) ⟨hR.2.2, fun j hj => absurd hj (Nat.not_lt_zero j)⟩
  exact ⟨τ, t1, t2.2, t3⟩
/-- WISHES -/
def WsI (n : Nat) (wi : Nat → Nat) (σ : AH) : Prop := gI σ 124 48 = nI n ∧ ∀ i, i < n → gI σ 152 i = nI (wi i)
theorem try_115 {q n X : Nat} {wi : Nat → Nat} {s : Nat → Option Nat} {σ : AH} (hn : n ≤ 6) (hq : q < 20) (hX : X < 4096) (hw : ∀ i, i < n → wi i < 30) (hW : WsI n wi σ) (ha : ∀ p, p < 30 → gI σ 140 p = oI (s p)) :
    ∃ τ, F_X12_tryRow_115 BIG (nI q) (nI X) (0 : Int32) σ = (bv (F_X12_license τ) fun σ20 => bv (F_X12_goTo ((13 : Int32) * nI q) ((13 : Int32) * nI q + (12 : Int32)) σ20) fun σ25 => F_X12_tryRow_207 BIG (0 : Int32) (sI (sI σ25 124 60 (0 : Int32)) 124 61 (0 : Int32))) ∧ (∀ p, p < 30 → gI τ 140 p = oI (sC s wi q (dg n X) n p)) ∧ Ch [140] [] σ τ := by
  obtain ⟨g, hg⟩ := BIGe n (by omega)
  rw [show F_X12_tryRow_115 BIG = F_X12_tryRow_115 (n + 1 + g) by rw [hg]]
  obtain ⟨τ, t1, t2, t3⟩ := loop_inv (N := n) (g := g) (cs := [140]) (fs := []) (G := fun f x s => F_X12_tryRow_115 f (nI q) (nI X) x s) (E := fun τ => bv (F_X12_license τ) fun σ20 => bv (F_X12_goTo ((13 : Int32) * nI q) ((13 : Int32) * nI q + (12 : Int32)) σ20) fun σ25 => F_X12_tryRow_207 BIG (0 : Int32) (sI (sI σ25 124 60 (0 : Int32)) 124 61 (0 : Int32))) (P := fun i t => WsI n wi t ∧ ∀ p, p < 30 → gI t 140 p = oI (sC s wi q (dg n X) i p)) (fun f i t hi h => by
    obtain ⟨⟨h1, h2⟩, h3⟩ := h
    have b := hw i hi
    have st : F_X12_tryRow_115 (f + 1) (nI q) (nI X) (nI i) t = F_X12_tryRow_115 f (nI q) (nI X) (nI (i + 1)) (sI t 140 (wi i) (oI (chW q (dg n X i)))) := by
      show B_X12_tryRow_115 (F_X12_tryRow_115 f) (nI q) (nI X) (nI i) t = _
      unfold B_X12_tryRow_115 F_X12_tryRow_169
      have q1 : inB (nI i) 6 = true := inB_n (by omega) (by omega)
      have n1 : (nI i).toNatClampNeg = i := nI_clamp (by omega)
      have q2 : inB (nI (wi i)) 30 = true := inB_n (by omega) (by omega)
      have n2 : (nI (wi i)).toNatClampNeg = wi i := nI_clamp (by omega)
      have d4 : dg n X i < 4 := dg_lt
      rw [h1, if_neg (nI_ge hi (by omega)), if_pos q1, n1, h2 i hi, if_pos q2, if_pos q2, n2, dg_sh hX hn hi, nI_1]
      unfold chW
      by_cases z : dg n X i = 0
      · rw [if_pos z, if_pos (by rw [z]; rfl)]; rfl
      · rw [if_neg z, if_neg (show ¬ nI (dg n X i) = 0 from fun e => z ((nI_eq (b := 0) (by omega) (by decide)).mp e))]
        have e1 : nI (dg n X i) - (1 : Int32) = nI (dg n X i - 1) := pk_sub (b := 1) (by omega)
        have e2 : (13 : Int32) * nI q + (4 : Int32) * nI (dg n X i - 1) = nI (13 * q + 4 * (dg n X i - 1)) := by simp only [fa_lit, nI_add, pk_mul]
        rw [e1, e2]; rfl
    refine ⟨_, st, ⟨⟨?_, fun j hj => ?_⟩, fun p hp => ?_⟩, Ch.sI1 (Or.inr (by simp))⟩
    · rw [gI_sI_row (by decide)]; exact h1
    · rw [gI_sI_row (by decide)]; exact h2 j hj
    · show _ = oI (upS _ _ _ p)
      unfold upS
      by_cases e : p = wi i
      · rw [if_pos e, e, gI_sI_at]
      · rw [if_neg e, gI_sI_ne e]; exact h3 p hp) (fun f t h => by
    show B_X12_tryRow_115 (F_X12_tryRow_115 f) (nI q) (nI X) (nI n) t = _
    unfold B_X12_tryRow_115
    rw [h.1.1, if_pos (nI_le (Nat.le_refl _) (by omega))]) n 0 σ (by omega) ⟨hW, ha⟩
  exact ⟨τ, t1, t2.2, t3⟩
theorem shN_le {wi : Nat → Nat} {R : Nat → Nat → Int32} : ∀ n, shN wi R n ≤ n := by
  intro n
  induction n with
  | zero => exact Nat.le_refl _
  | succ n ih => unfold shN; split <;> omega
theorem try_207 {row : Nat → Int32} {R : Nat → Nat → Int32} {n : Nat} {wi : Nat → Nat} {σ : AH} (hB : BV row) (hn : n ≤ 6) (hw : ∀ i, i < n → wi i < nP row) (hr : gI σ 125 = row) (hW : WsI n wi σ) (h4 : ∀ p, p < 30 → gI σ 144 p = R 144 p) (h8 : ∀ i, i < 90 → gI σ 148 i = R 148 i) (z1 : gI σ 124 60 = 0) (z2 : gI σ 124 61 = 0) :
    ∃ τ, F_X12_tryRow_207 BIG (0 : Int32) σ = some τ ∧ gI τ 124 60 = nI (hoN row wi R n) ∧ gI τ 124 61 = nI (shN wi R n) ∧ Ch [] [(124, 60), (124, 61)] σ τ := by
  obtain ⟨p0, b30, p2⟩ := hB.p
  obtain ⟨g, hg⟩ := BIGe n (by omega)
  rw [hg]
  obtain ⟨τ, t1, t2, t3⟩ := loop_inv (N := n) (g := g) (cs := []) (fs := [(124, 60), (124, 61)]) (G := fun f x s => F_X12_tryRow_207 f x s) (E := fun s => some s) (P := fun i t => (gI t 125 = row ∧ WsI n wi t ∧ (∀ p, p < 30 → gI t 144 p = R 144 p) ∧ (∀ i, i < 90 → gI t 148 i = R 148 i)) ∧ gI t 124 60 = nI (hoN row wi R i) ∧ gI t 124 61 = nI (shN wi R i)) (fun f i t hi h => by
    obtain ⟨⟨g1, ⟨g2, g3⟩, g4, g5⟩, g6, g7⟩ := h
    have b := hw i hi
    have q1 : inB (nI i) 6 = true := inB_n (by omega) (by omega)
    have n1 : (nI i).toNatClampNeg = i := nI_clamp (by omega)
    have q2 : inB (nI (wi i)) 30 = true := inB_n (by omega) (by omega)
    have n2 : (nI (wi i)).toNatClampNeg = wi i := nI_clamp (by omega)
    have e3 : (3 : Int32) * nI (wi i) = nI (3 * wi i) := by simp only [fa_lit, pk_mul]
    have q3 : inB (nI (3 * wi i)) 90 = true := inB_n (by omega) (by omega)
    have n3 : (nI (3 * wi i)).toNatClampNeg = 3 * wi i := nI_clamp (by omega)
    have keep : ∀ u v : Int32, (gI (sI (sI t 124 60 u) 124 61 v) 125 = row ∧ WsI n wi (sI (sI t 124 60 u) 124 61 v) ∧ (∀ p, p < 30 → gI (sI (sI t 124 60 u) 124 61 v) 144 p = R 144 p) ∧ (∀ i, i < 90 → gI (sI (sI t 124 60 u) 124 61 v) 148 i = R 148 i)) := fun u v => by
      unfold WsI
      rw [gI_sI_row (a := 125) (by decide), gI_sI_row (a := 125) (by decide), gI_sI_row (a := 144) (by decide), gI_sI_row (a := 144) (by decide), gI_sI_row (a := 148) (by decide), gI_sI_row (a := 148) (by decide), gI_sI_row (a := 152) (by decide), gI_sI_row (a := 152) (by decide), gI_sI_ne (j := 48) (by decide), gI_sI_ne (j := 48) (by decide)]
      exact ⟨g1, ⟨g2, g3⟩, g4, g5⟩
    have sh : ∀ u : Int32, F_X12_tryRow_249 (F_X12_tryRow_207 f) (nI i) u (nI (hoN row wi R i)) t = F_X12_tryRow_207 f (nI (i + 1)) (sI (sI t 124 60 (nI (hoN row wi R i) + u)) 124 61 (nI (shN wi R (i + 1)))) := fun u => by
      unfold F_X12_tryRow_249 F_X12_tryRow_294 F_X12_tryRow_295
      have s152 : gI (sI t 124 60 (nI (hoN row wi R i) + u)) 152 = gI t 152 := gI_sI_row (by decide)
      have s144 : gI (sI t 124 60 (nI (hoN row wi R i) + u)) 144 = gI t 144 := gI_sI_row (by decide)
      have s148 : gI (sI t 124 60 (nI (hoN row wi R i) + u)) 148 = gI t 148 := gI_sI_row (by decide)
      have s61 : gI (sI t 124 60 (nI (hoN row wi R i) + u)) 124 61 = nI (shN wi R i) := by rw [gI_sI_ne (by decide)]; exact g7
      simp only [q1, n1, if_true, s152, g3 i hi, q2, n2, s144, g4 _ (show wi i < 30 by omega), e3, q3, n3, s148, g5 _ (show 3 * wi i < 90 by omega), s61, nI_1]
      have st : shN wi R (i + 1) = shN wi R i + (if ¬ (3 : Int32) ≤ R 144 (wi i) ∧ R 148 (3 * wi i) ≠ -1 then 1 else 0) := rfl
      rw [st]
      by_cases c : (3 : Int32) ≤ R 144 (wi i)
      · rw [if_pos c, if_neg (fun z => z.1 c), show nI (shN wi R i) + (0 : Int32) = nI (shN wi R i + 0) from nI_add _ 0]
      · rw [if_neg c]
        by_cases d : R 148 (3 * wi i) = -1
        · rw [if_pos d, if_neg (fun z => z.2 d), show nI (shN wi R i) + (0 : Int32) = nI (shN wi R i + 0) from nI_add _ 0]
        · rw [if_neg d, if_pos ⟨c, d⟩]
    have st : hoN row wi R (i + 1) = hoN row wi R i + (if R 144 (wi i) = 3 then pR row (wi i) else 0) := rfl
    refine ⟨sI (sI t 124 60 (nI (hoN row wi R (i + 1)))) 124 61 (nI (shN wi R (i + 1))), ?_, ⟨keep _ _, by rw [gI_sI_ne (by decide), gI_sI_at], gI_sI_at⟩, (Ch.sI1 (Or.inl (by simp))).trans (Ch.sI1 (Or.inl (by simp)))⟩
    show B_X12_tryRow_207 (F_X12_tryRow_207 f) (nI i) t = _
    unfold B_X12_tryRow_207
    rw [g2, if_neg (nI_ge hi (by omega)), if_pos q1, n1, g3 i hi, if_pos q2, n2, g4 _ (show wi i < 30 by omega), g6, st]
    by_cases c : R 144 (wi i) = 3
    · rw [if_pos c, if_pos c, if_pos q1, F_roomsOf hB b g1, bd_some, sh, nI_add]
    · rw [if_neg c, if_neg c, sh, show nI (hoN row wi R i) + (0 : Int32) = nI (hoN row wi R i + 0) from nI_add _ 0]) (fun f t h => by
    show B_X12_tryRow_207 (F_X12_tryRow_207 f) (nI n) t = _
    unfold B_X12_tryRow_207
    rw [h.1.2.1.1, if_pos (nI_le (Nat.le_refl _) (by omega))]) n 0 σ (by omega) ⟨⟨hr, hW, h4, h8⟩, z1, z2⟩
  exact ⟨τ, t1, t2.2.1, t2.2.2, t3⟩
/-- what tryRow needs and keeps -/
def TrI (row : Nat → Int32) (q n : Nat) (wi : Nat → Nat) (s : Nat → Option Nat) (σ : AH) : Prop :=
  KI row (kQ q) σ ∧ KpI (bfR row q) σ ∧ gI σ 124 45 = 0 ∧ WsI n wi σ ∧ (∀ p, p < 30 → gI σ 140 p = oI (s p))
def TRf : List (Nat × Nat) := (124, 60) :: (124, 61) :: NDf
theorem KI.many {row : Nat → Int32} {k : Int32} {σ τ : AH} {cs : List Nat} {fs : List (Nat × Nat)} (h : KI row k σ) (c : Ch cs fs σ τ) (h1 : ∀ i ∈ cs, 140 ≤ i) (h2 : ∀ q ∈ fs, q.1 = 124 ∧ q.2 ≠ 23 ∧ q.2 ≠ 24) : KI row k τ := by
  have f : ∀ i, i < 140 → i ∉ cs := fun i hi q => by have := h1 i q; omega
  refine h.ch c (h.2.2.1.ch c (f _ (by omega)) (f _ (by omega)) (f _ (by omega)) ?_) (f _ (by omega)) (f _ (by omega)) (f _ (by omega)) (f _ (by omega)) (fun q hq => ⟨(h2 q hq).1, (h2 q hq).2.1⟩)
  exact fun q hq => ⟨by rw [(h2 q hq).1]; decide, by rw [(h2 q hq).1]; decide, fun e => (h2 q hq).2.2 (by rw [e])⟩
theorem F_tryRow {row : Nat → Int32} {q n X : Nat} {wi : Nat → Nat} {s : Nat → Option Nat} {σ : AH} (hV : AV row) (hB : BV row) (hq : q < 20) (hn : n ≤ 6) (hX : X < 4096) (hw : ∀ i, i < n → wi i < nP row) (hs : ∀ p w, s p = some w → w < 260) (hR : RV_ (bfR row q)) (h : TrI row q n wi s σ) :
    ∃ τ, F_X12_tryRow (nI q) (nI X) σ = some τ ∧ TrI row q n wi (sC s wi q (dg n X) n) τ ∧ gI τ 124 60 = nI (hoN row wi (qR row q (sC s wi q (dg n X) n)) n) ∧ gI τ 124 61 = nI (shN wi (qR row q (sC s wi q (dg n X) n)) n) ∧ Ch RNc TRf σ τ := by
  obtain ⟨hK, hKp, hl, hW, ha⟩ := h
  have b30 := hB.p.2.1
  obtain ⟨s', hs'⟩ : ∃ s', s' = sC s wi q (dg n X) n := ⟨_, rfl⟩
  have lt' : ∀ p w, s' p = some w → w < 260 := by rw [hs']; exact sC_lt hs hq (fun i => dg_lt) n
  unfold F_X12_tryRow
  obtain ⟨τ1, a1, a2, a3⟩ := try_2 (x1 := nI q) (x2 := nI X) hKp
  have K1 := hKp.ch a3 (by simp) (by simp)
  obtain ⟨τ2, b1, b2', b3⟩ := try_27 (x1 := nI q) (x2 := nI X) hR K1
  have K2 := K1.ch b3 (by simp) (by simp)
  obtain ⟨τ3, c1, c2, c3⟩ := try_77 (x1 := nI q) (x2 := nI X) K2
  have c13 : Ch [142, 144, 145, 146, 148, 149] [] σ τ3 := ((a3.mono (by simp) (by simp)).trans (b3.mono (by simp) (by simp))).trans (c3.mono (by simp) (by simp))
  have W3 : WsI n wi τ3 := by unfold WsI; rw [c13.rI (by simp) (by simp), c13.rI (by simp) (by simp)]; exact hW
  obtain ⟨τ4, d1, d2, d3⟩ := try_115 (s := s) hn hq hX (fun i hi => by have := hw i hi; omega) W3 (fun p hp => by rw [c13.rI (by simp) (by simp)]; exact ha p hp)
  rw [← hs'] at d2 ⊢
  have c14 : Ch [140, 142, 144, 145, 146, 148, 149] [] σ τ4 := (c13.mono (by simp) (by simp)).trans (d3.mono (by simp) (by simp))
  have K4 : KI row (kQ q) τ4 := hK.many c14 (by simp) (by simp)
  rw [a1, b1, c1, d1]
  obtain ⟨τ5, e1, e2, e3, e4⟩ := F_license hV hB lt' K4 d2
  rw [e1, bv_some]
  have c15 : Ch (140 :: 142 :: 144 :: 145 :: 146 :: 148 :: 149 :: LCc) NDf σ τ5 := (c14.mono (by simp) (by simp)).trans (e4.mono (by simp [LCc]) (by simp [NDf]))
  have c35 : Ch (140 :: LCc) NDf τ3 τ5 := (d3.mono (by simp) (by simp)).trans (e4.mono (by simp [LCc]) (by simp [NDf]))
  have c25 : Ch (140 :: 148 :: 149 :: LCc) NDf τ2 τ5 := (c3.mono (by simp) (by simp)).trans (c35.mono (by simp [LCc]) (by simp [NDf]))
  have c15' : Ch (140 :: 144 :: 145 :: 146 :: 148 :: 149 :: LCc) NDf τ1 τ5 := (b3.mono (by simp) (by simp)).trans (c25.mono (by simp [LCc]) (by simp [NDf]))
  obtain ⟨R', hR'⟩ : ∃ R', R' = va_up (bfR row q) 147 (gI τ5 147) := ⟨_, rfl⟩
  have RV' : RV_ R' := fun p hp => by rw [hR', up_ne _ _ _ (by decide), up_ne _ _ _ (by decide)]; exact hR p hp
  have RO5 : ROx τ5 R' := by
    intro c h1 h2 i hi
    by_cases x3 : c = 143
    · subst x3; rw [up_same]
    · rw [up_ne _ _ _ x3, hR']
      by_cases x7 : c = 147
      · subst x7; rw [up_same]
      · rw [up_ne _ _ _ x7]
        have hc : c = 142 ∨ c = 144 ∨ c = 145 ∨ c = 146 ∨ c = 148 ∨ c = 149 := by omega
        rcases hc with e | e | e | e | e | e
        · subst e; rw [c15'.rI (by simp [LCc]) (by simp [NDf])]; exact a2 i hi
        · subst e; rw [c25.rI (by simp [LCc]) (by simp [NDf])]; exact (b2' i hi).1
        · subst e; rw [c25.rI (by simp [LCc]) (by simp [NDf])]; exact (b2' i hi).2.1
        · subst e; rw [c25.rI (by simp [LCc]) (by simp [NDf])]; exact (b2' i hi).2.2
        · subst e; rw [c35.rI (by simp [LCc]) (by simp [NDf])]; exact (c2 i hi).1
        · subst e; rw [c35.rI (by simp [LCc]) (by simp [NDf])]; exact (c2 i hi).2
  have g0 : ∀ p, p < 30 → gI τ5 140 p = oI (s' p) := by rw [e4.rI (by simp [LCc]) (by simp [NDf])]; exact d2
  have l5 : gI τ5 124 45 = 0 := by rw [c15.pI (by simp [LCc]) (by simp [NDf])]; exact hl
  obtain ⟨τ6, f1, f2, f3, f4, f5⟩ := F_goTo (a := 13 * q) (n := 13) (lt_ := 0) (lc := lic row (kQ q) s') hV hB lt' (by omega) e3 RV' RO5 l5 g0 e2
  have i1 : (13 : Int32) * nI q = nI (13 * q) := by simp only [fa_lit, pk_mul]
  have i2 : nI (13 * q) + (12 : Int32) = nI (13 * q + 13) + (-1) := by rw [show 13 * q + 13 = (13 * q + 12) + 1 by omega, pk_m1]; exact nI_add _ 12
  rw [i1, i2, f1, bv_some]
  have c16 : Ch RNc NDf σ τ6 := (c15.mono (by simp [LCc, RNc]) (by simp [NDf])).trans (f5.mono (by simp [GWc, RNc]) (by simp [NDf]))
  have ee : eqv (rnS row (kQ q) 0 s' (lic row (kQ q) s') (13 * q) R' 13) (qR row q s') := eqv_rn (fun c h3 h7 => by rw [hR', up_ne _ _ _ h7]) 13
  have cz : Ch [] [(124, 60), (124, 61)] τ6 (sI (sI τ6 124 60 (0 : Int32)) 124 61 (0 : Int32)) := (Ch.sI1 (Or.inl (by simp))).trans (Ch.sI1 (Or.inl (by simp)))
  have c17 : Ch RNc TRf σ (sI (sI τ6 124 60 (0 : Int32)) 124 61 (0 : Int32)) := (c16.mono (fun i hi => hi) (by simp [NDf, TRf])).trans (cz.mono (by simp) (by simp [TRf]))
  have W7 : WsI n wi (sI (sI τ6 124 60 (0 : Int32)) 124 61 (0 : Int32)) := by
    unfold WsI; rw [c17.pI (by simp [RNc]) (by simp [TRf, NDf]), c17.rI (by simp [RNc]) (by simp [TRf, NDf])]; exact hW
  obtain ⟨τ8, g1, g2, g3, g4⟩ := try_207 (row := row) (R := qR row q s') hB hn hw (by rw [cz.rI (by simp) (by simp)]; exact f2.1) W7 (fun p hp => by
    rw [cz.rI (by simp) (by simp), f4.at (c := 144) (by decide) (by decide) (by decide) hp, ee 144 (by decide) (by decide)]) (fun i hi => by
    rw [cz.rI (by simp) (by simp), f4.at (c := 148) (by decide) (by decide) (by decide) hi, ee 148 (by decide) (by decide)]) (by rw [gI_sI_ne (by decide), gI_sI_at]) gI_sI_at
  have c18 : Ch RNc TRf σ τ8 := c17.trans (g4.mono (by simp) (by simp [TRf]))
  have cz8 : Ch [] [(124, 60), (124, 61)] τ6 τ8 := cz.trans g4
  refine ⟨τ8, g1, ⟨f2.many cz8 (by simp) (by simp), hKp.ch c18 (by simp [RNc]) (by simp [TRf, NDf]), ?_, ?_, ?_⟩, g2, g3, c18⟩
  · rw [c18.pI (by simp [RNc]) (by simp [TRf, NDf])]; exact hl
  · unfold WsI; rw [c18.pI (by simp [RNc]) (by simp [TRf, NDf]), c18.rI (by simp [RNc]) (by simp [TRf, NDf])]; exact hW
  · rw [cz8.rI (by simp) (by simp), f5.rI (by simp [GWc]) (by simp [NDf])]; exact g0
end
