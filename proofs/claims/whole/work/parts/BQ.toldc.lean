section
/-! tellings of the class -/
def tlC (pre : Int32) (mst n : Nat) (x : Int32) : Int32 := if pre = 0 ∧ n ≠ mst then x + 1 else x
theorem tlC_no {pre : Int32} {mst n : Nat} {x : Int32} (h : ¬ (pre = 0 ∧ n ≠ mst)) : tlC pre mst n x = x := by unfold tlC; rw [if_neg h]
theorem tlC_yes {pre : Int32} {mst n : Nat} {x : Int32} (h : pre = 0) (hn : n ≠ mst) : tlC pre mst n x = x + 1 := by unfold tlC; rw [if_pos ⟨h, hn⟩]
theorem Tb.n {row : Nat → Int32} {σ : AH} {t nb B wd mst : Nat} (h : Tb row σ t nb B wd mst) : cl (row nb) ≤ mst := by
  have := h.2.1.2.2.2.2; omega
theorem ansC {σ : AH} {v : Int32} : (bd (F_X11_answer v σ) fun a b => some (a, b)) = some (v, sI σ 0 10 (ftV v)) := by rw [answer_e, bd_some]
theorem Ow.bt {O : Nat → Nat} {σ : AH} {t b : Nat} (h : Ow O σ) (ht : t ∈ tbs) (hb : gR σ t 2 = some b) : b = t + 1 ∨ 166 ≤ b := by
  obtain ⟨y, y1, _, y3⟩ := h.2.1 t ht
  rw [hb] at y1; cases y1
  rcases y3 with z | z
  · exact Or.inl z
  · exact Or.inr z.1
theorem bd_o {β : Type} {c : Prop} [Decidable c] {s : AH} {f g : AH → Option β} : bd (some (if c then (1 : Int32) else 0, s)) (fun v σ2 => if v = 0 then f σ2 else g σ2) = if c then g s else f s := bd_b (α := Int32)
theorem C_deliver {row : Nat → Int32} {x1 x2 x3 x4 : Int32} {O : Nat → Nat} {b0 : Nat} {σ : AH} (hT : Tb row σ 3 1 22748 4 120) (hO : Ow O σ) (hb0 : gR σ 3 2 = some b0) : ∃ τ, F_X11_deliver x1 x2 x3 x4 σ = some (tlV (dvP x1 x2 x3 x4) 120 (nD row) 1, τ) ∧ Tb (tlW (dvP x1 x2 x3 x4) 120 row 1 22748 4 (nD row) (gl [x1, x2, x3, x4])) τ 3 1 22748 4 120 ∧ gI τ 0 10 = ftV (tlV (dvP x1 x2 x3 x4) 120 (nD row) 1) ∧ gI τ 0 12 = tlC (dvP x1 x2 x3 x4) 120 (nD row) (gI σ 0 12) ∧ ChX 3 [b0] [(3, 3), (0, 10), (0, 12)] σ τ := by
  have hx := hO.1
  have nm : nD row ≤ 120 := hT.n
  have hb := hO.bt (t := 3) (by simp [tbs]) hb0
  have G := G_of_Tb hT
  have fl : F_X8_isFull 3 σ = some (if nD row = 120 then 1 else 0, σ) := F_isFullG G (by decide)
  have bad : ∀ v : Int32, tlV (dvP x1 x2 x3 x4) 120 (nD row) 1 = v → ¬ ((dvP x1 x2 x3 x4) = 0 ∧ nD row ≠ 120) → ∃ τ, (bd (F_X11_answer v σ) fun a b => some (a, b)) = some (tlV (dvP x1 x2 x3 x4) 120 (nD row) 1, τ) ∧ Tb (tlW (dvP x1 x2 x3 x4) 120 row 1 22748 4 (nD row) (gl [x1, x2, x3, x4])) τ 3 1 22748 4 120 ∧ gI τ 0 10 = ftV (tlV (dvP x1 x2 x3 x4) 120 (nD row) 1) ∧ gI τ 0 12 = tlC (dvP x1 x2 x3 x4) 120 (nD row) (gI σ 0 12) ∧ ChX 3 [b0] [(3, 3), (0, 10), (0, 12)] σ τ := fun v e n => by
    have k : Ch [] [(0, 10)] σ (sI σ 0 10 (ftV v)) := Ch.sI1 (Or.inl (by simp))
    rw [e, tlW_no n, tlC_no n, ansC]
    exact ⟨_, rfl, hT.ch k (by simp) (by simp), gI_sI_at, gI_sI_ne (by decide), Ch.x (k.mono (by simp) (by simp))⟩
  have bad1 : ∀ v : Int32, (dvP x1 x2 x3 x4) = v → v ≠ 0 → ∃ τ, (bd (F_X11_answer v σ) fun a b => some (a, b)) = some (tlV (dvP x1 x2 x3 x4) 120 (nD row) 1, τ) ∧ Tb (tlW (dvP x1 x2 x3 x4) 120 row 1 22748 4 (nD row) (gl [x1, x2, x3, x4])) τ 3 1 22748 4 120 ∧ gI τ 0 10 = ftV (tlV (dvP x1 x2 x3 x4) 120 (nD row) 1) ∧ gI τ 0 12 = tlC (dvP x1 x2 x3 x4) 120 (nD row) (gI σ 0 12) ∧ ChX 3 [b0] [(3, 3), (0, 10), (0, 12)] σ τ := fun v e hv => bad v (tlV_bad e hv) (fun z => hv (by rw [← e]; exact z.1))
  have i0 : F_X11_isIn x1 (0 : Int32) (4 : Int32) σ = some (if rgB 0 4 x1 = true then 1 else 0, σ) := F_isIn (a := 0) (b := 4) (by decide) (by decide)
  have i2 : F_X11_isIn x3 (1 : Int32) (100000 : Int32) σ = some (if rgB 1 100000 x3 = true then 1 else 0, σ) := F_isIn (a := 1) (b := 100000) (by decide) (by decide)
  unfold F_X11_deliver F_X11_deliver_34
  rw [i0, bd_b (α := Int32), F_isWeekC, bd_b (α := Int32), i2, bd_b (α := Int32), F_isWeekC, bd_b (α := Int32), fl, bd_o]
  by_cases c0 : rgB 0 4 x1 = true
  rotate_left
  · rw [if_neg c0]; exact bad1 (-1) (tlP_f (by simp [c0])) (by decide)
  rw [if_pos c0]
  by_cases c1 : rgB 0 259 x2 = true
  rotate_left
  · rw [if_neg c1]; exact bad1 (-1) (tlP_f (by simp [c1])) (by decide)
  rw [if_pos c1]
  by_cases c2 : rgB 1 100000 x3 = true
  rotate_left
  · rw [if_neg c2]; exact bad1 (-1) (tlP_f (by simp [c2])) (by decide)
  rw [if_pos c2]
  by_cases c3 : rgB 0 259 x4 = true
  rotate_left
  · rw [if_neg c3]; exact bad1 (-1) (tlP_f (by simp [c3])) (by decide)
  rw [if_pos c3]
  have pre : dvP x1 x2 x3 x4 = 0 := tlP_t (by simp [c0, c1, c2, c3])
  by_cases c : nD row = 120
  · rw [if_pos c]
    exact bad (-5) (tlV_full pre c) (fun z => z.2 c)
  rw [if_neg c]
  obtain ⟨s0, a0, T0⟩ := TlS.add (g := gl [x1, x2, x3, x4]) G hb0 (show nD row < 120 by omega) (by decide) hx (by decide) (by decide) (by decide) (by decide)
  obtain ⟨s1, q0, T1⟩ := T0.put (j := 0) (x := x1) (by decide) (by decide) (by decide) (by decide) rfl
  have q0' : F_X8_put 3 (nI (nD row)) (0 : Int32) x1 s0 = some s1 := q0
  obtain ⟨s2, q1, T2⟩ := T1.put (j := 1) (x := x2) (by decide) (by decide) (by decide) (by decide) rfl
  have q1' : F_X8_put 3 (nI (nD row)) (1 : Int32) x2 s1 = some s2 := q1
  obtain ⟨s3, q2, T3⟩ := T2.put (j := 2) (x := x3) (by decide) (by decide) (by decide) (by decide) rfl
  have q2' : F_X8_put 3 (nI (nD row)) (2 : Int32) x3 s2 = some s3 := q2
  obtain ⟨s4, q3, T4⟩ := T3.put (j := 3) (x := x4) (by decide) (by decide) (by decide) (by decide) rfl
  have q3' : F_X8_put 3 (nI (nD row)) (3 : Int32) x4 s3 = some s4 := q3
  have a0' : F_X8_add 3 σ = some (nI (nD row), s0) := a0
  obtain ⟨U1, U2, U3⟩ := TlS.done (nb := 1) (B := 22748) T4 (by decide) (by decide) (by decide)
  have g12 : gI s4 0 12 = gI σ 0 12 := U3.pt hx (by decide) (by simp; omega) (by simp)
  have kk : Ch [] [(0, 12), (0, 10)] s4 (sI (sI s4 0 12 (gI σ 0 12 + 1)) 0 10 (ftV (nI (nD row + 1)))) := (Ch.sI1 (Or.inl (by simp))).trans (Ch.sI1 (Or.inl (by simp)))
  have k1 : Ch [] [(0, 12)] s4 (sI s4 0 12 (gI σ 0 12 + 1)) := Ch.sI1 (Or.inl (by simp))
  have rr : F_X8_rows 3 (sI s4 0 12 (gI σ 0 12 + 1)) = some (nI (nD row + 1), sI s4 0 12 (gI σ 0 12 + 1)) := F_rowsG (TbG.ch U2 k1 (by simp) (by simp))
  rw [a0', bd_some, q0', bv_some, q1', bv_some, q2', bv_some, q3', bv_some, g12, rr, bd_some, ansC, tlV_good pre c, tlW_yes pre c, tlC_yes pre c]
  exact ⟨_, rfl, U1.ch kk (by simp) (by simp), gI_sI_at, by rw [gI_sI_ne (by decide), gI_sI_at], (U3.mono (by simp) (by simp)).trans (Ch.x (kk.mono (by simp) (by simp)))⟩
theorem C_gangs {row : Nat → Int32} {x1 x2 x3 x4 : Int32} {O : Nat → Nat} {b0 : Nat} {σ : AH} (hT : Tb row σ 7 3 23292 4 60) (hO : Ow O σ) (hb0 : gR σ 7 2 = some b0) : ∃ τ, F_X11_gangs x1 x2 x3 x4 σ = some (tlV (gaP x1 x2 x3 x4) 60 (nG row) 1, τ) ∧ Tb (tlW (gaP x1 x2 x3 x4) 60 row 3 23292 4 (nG row) (gl [x1, x2, x3, x4])) τ 7 3 23292 4 60 ∧ gI τ 0 10 = ftV (tlV (gaP x1 x2 x3 x4) 60 (nG row) 1) ∧ gI τ 0 12 = tlC (gaP x1 x2 x3 x4) 60 (nG row) (gI σ 0 12) ∧ ChX 7 [b0] [(7, 3), (0, 10), (0, 12)] σ τ := by
  have hx := hO.1
  have nm : nG row ≤ 60 := hT.n
  have hb := hO.bt (t := 7) (by simp [tbs]) hb0
  have G := G_of_Tb hT
  have fl : F_X8_isFull 7 σ = some (if nG row = 60 then 1 else 0, σ) := F_isFullG G (by decide)
  have bad : ∀ v : Int32, tlV (gaP x1 x2 x3 x4) 60 (nG row) 1 = v → ¬ ((gaP x1 x2 x3 x4) = 0 ∧ nG row ≠ 60) → ∃ τ, (bd (F_X11_answer v σ) fun a b => some (a, b)) = some (tlV (gaP x1 x2 x3 x4) 60 (nG row) 1, τ) ∧ Tb (tlW (gaP x1 x2 x3 x4) 60 row 3 23292 4 (nG row) (gl [x1, x2, x3, x4])) τ 7 3 23292 4 60 ∧ gI τ 0 10 = ftV (tlV (gaP x1 x2 x3 x4) 60 (nG row) 1) ∧ gI τ 0 12 = tlC (gaP x1 x2 x3 x4) 60 (nG row) (gI σ 0 12) ∧ ChX 7 [b0] [(7, 3), (0, 10), (0, 12)] σ τ := fun v e n => by
    have k : Ch [] [(0, 10)] σ (sI σ 0 10 (ftV v)) := Ch.sI1 (Or.inl (by simp))
    rw [e, tlW_no n, tlC_no n, ansC]
    exact ⟨_, rfl, hT.ch k (by simp) (by simp), gI_sI_at, gI_sI_ne (by decide), Ch.x (k.mono (by simp) (by simp))⟩
  have bad1 : ∀ v : Int32, (gaP x1 x2 x3 x4) = v → v ≠ 0 → ∃ τ, (bd (F_X11_answer v σ) fun a b => some (a, b)) = some (tlV (gaP x1 x2 x3 x4) 60 (nG row) 1, τ) ∧ Tb (tlW (gaP x1 x2 x3 x4) 60 row 3 23292 4 (nG row) (gl [x1, x2, x3, x4])) τ 7 3 23292 4 60 ∧ gI τ 0 10 = ftV (tlV (gaP x1 x2 x3 x4) 60 (nG row) 1) ∧ gI τ 0 12 = tlC (gaP x1 x2 x3 x4) 60 (nG row) (gI σ 0 12) ∧ ChX 7 [b0] [(7, 3), (0, 10), (0, 12)] σ τ := fun v e hv => bad v (tlV_bad e hv) (fun z => hv (by rw [← e]; exact z.1))
  have i0 : F_X11_isIn x1 (0 : Int32) (5 : Int32) σ = some (if rgB 0 5 x1 = true then 1 else 0, σ) := F_isIn (a := 0) (b := 5) (by decide) (by decide)
  have i1 : F_X11_isIn x2 (0 : Int32) (50 : Int32) σ = some (if rgB 0 50 x2 = true then 1 else 0, σ) := F_isIn (a := 0) (b := 50) (by decide) (by decide)
  unfold F_X11_gangs F_X11_gangs_34
  rw [i0, bd_b (α := Int32), i1, bd_b (α := Int32), F_isWeekC, bd_b (α := Int32), F_isWeekC, bd_b (α := Int32), fl, bd_o]
  by_cases c0 : rgB 0 5 x1 = true
  rotate_left
  · rw [if_neg c0]; exact bad1 (-1) (tlP_f (by simp [c0])) (by decide)
  rw [if_pos c0]
  by_cases c1 : rgB 0 50 x2 = true
  rotate_left
  · rw [if_neg c1]; exact bad1 (-1) (tlP_f (by simp [c1])) (by decide)
  rw [if_pos c1]
  by_cases c2 : rgB 0 259 x3 = true
  rotate_left
  · rw [if_neg c2]; exact bad1 (-1) (tlP_f (by simp [c2])) (by decide)
  rw [if_pos c2]
  by_cases c3 : rgB 0 259 x4 = true
  rotate_left
  · rw [if_neg c3]; exact bad1 (-1) (tlP_f (by simp [c3])) (by decide)
  rw [if_pos c3]
  have pre : gaP x1 x2 x3 x4 = 0 := tlP_t (by simp [c0, c1, c2, c3])
  by_cases c : nG row = 60
  · rw [if_pos c]
    exact bad (-5) (tlV_full pre c) (fun z => z.2 c)
  rw [if_neg c]
  obtain ⟨s0, a0, T0⟩ := TlS.add (g := gl [x1, x2, x3, x4]) G hb0 (show nG row < 60 by omega) (by decide) hx (by decide) (by decide) (by decide) (by decide)
  obtain ⟨s1, q0, T1⟩ := T0.put (j := 0) (x := x1) (by decide) (by decide) (by decide) (by decide) rfl
  have q0' : F_X8_put 7 (nI (nG row)) (0 : Int32) x1 s0 = some s1 := q0
  obtain ⟨s2, q1, T2⟩ := T1.put (j := 1) (x := x2) (by decide) (by decide) (by decide) (by decide) rfl
  have q1' : F_X8_put 7 (nI (nG row)) (1 : Int32) x2 s1 = some s2 := q1
  obtain ⟨s3, q2, T3⟩ := T2.put (j := 2) (x := x3) (by decide) (by decide) (by decide) (by decide) rfl
  have q2' : F_X8_put 7 (nI (nG row)) (2 : Int32) x3 s2 = some s3 := q2
  obtain ⟨s4, q3, T4⟩ := T3.put (j := 3) (x := x4) (by decide) (by decide) (by decide) (by decide) rfl
  have q3' : F_X8_put 7 (nI (nG row)) (3 : Int32) x4 s3 = some s4 := q3
  have a0' : F_X8_add 7 σ = some (nI (nG row), s0) := a0
  obtain ⟨U1, U2, U3⟩ := TlS.done (nb := 3) (B := 23292) T4 (by decide) (by decide) (by decide)
  have g12 : gI s4 0 12 = gI σ 0 12 := U3.pt hx (by decide) (by simp; omega) (by simp)
  have kk : Ch [] [(0, 12), (0, 10)] s4 (sI (sI s4 0 12 (gI σ 0 12 + 1)) 0 10 (ftV (nI (nG row + 1)))) := (Ch.sI1 (Or.inl (by simp))).trans (Ch.sI1 (Or.inl (by simp)))
  have k1 : Ch [] [(0, 12)] s4 (sI s4 0 12 (gI σ 0 12 + 1)) := Ch.sI1 (Or.inl (by simp))
  have rr : F_X8_rows 7 (sI s4 0 12 (gI σ 0 12 + 1)) = some (nI (nG row + 1), sI s4 0 12 (gI σ 0 12 + 1)) := F_rowsG (TbG.ch U2 k1 (by simp) (by simp))
  rw [a0', bd_some, q0', bv_some, q1', bv_some, q2', bv_some, q3', bv_some, g12, rr, bd_some, ansC, tlV_good pre c, tlW_yes pre c, tlC_yes pre c]
  exact ⟨_, rfl, U1.ch kk (by simp) (by simp), gI_sI_at, by rw [gI_sI_ne (by decide), gI_sI_at], (U3.mono (by simp) (by simp)).trans (Ch.x (kk.mono (by simp) (by simp)))⟩
theorem C_plot {row : Nat → Int32} {x1 x2 x3 x4 : Int32} {O : Nat → Nat} {b0 : Nat} {σ : AH} (hT : Tb row σ 9 4 23532 4 30) (hO : Ow O σ) (hb0 : gR σ 9 2 = some b0) : ∃ τ, F_X11_plot x1 x2 x3 x4 σ = some (tlV (ptP x1 x2 x3 x4) 30 (nP row) 0, τ) ∧ Tb (tlW (ptP x1 x2 x3 x4) 30 row 4 23532 4 (nP row) (gl [x1, x2, x3, x4])) τ 9 4 23532 4 30 ∧ gI τ 0 10 = ftV (tlV (ptP x1 x2 x3 x4) 30 (nP row) 0) ∧ gI τ 0 12 = tlC (ptP x1 x2 x3 x4) 30 (nP row) (gI σ 0 12) ∧ ChX 9 [b0] [(9, 3), (0, 10), (0, 12)] σ τ := by
  have hx := hO.1
  have nm : nP row ≤ 30 := hT.n
  have hb := hO.bt (t := 9) (by simp [tbs]) hb0
  have G := G_of_Tb hT
  have fl : F_X8_isFull 9 σ = some (if nP row = 30 then 1 else 0, σ) := F_isFullG G (by decide)
  have bad : ∀ v : Int32, tlV (ptP x1 x2 x3 x4) 30 (nP row) 0 = v → ¬ ((ptP x1 x2 x3 x4) = 0 ∧ nP row ≠ 30) → ∃ τ, (bd (F_X11_answer v σ) fun a b => some (a, b)) = some (tlV (ptP x1 x2 x3 x4) 30 (nP row) 0, τ) ∧ Tb (tlW (ptP x1 x2 x3 x4) 30 row 4 23532 4 (nP row) (gl [x1, x2, x3, x4])) τ 9 4 23532 4 30 ∧ gI τ 0 10 = ftV (tlV (ptP x1 x2 x3 x4) 30 (nP row) 0) ∧ gI τ 0 12 = tlC (ptP x1 x2 x3 x4) 30 (nP row) (gI σ 0 12) ∧ ChX 9 [b0] [(9, 3), (0, 10), (0, 12)] σ τ := fun v e n => by
    have k : Ch [] [(0, 10)] σ (sI σ 0 10 (ftV v)) := Ch.sI1 (Or.inl (by simp))
    rw [e, tlW_no n, tlC_no n, ansC]
    exact ⟨_, rfl, hT.ch k (by simp) (by simp), gI_sI_at, gI_sI_ne (by decide), Ch.x (k.mono (by simp) (by simp))⟩
  have bad1 : ∀ v : Int32, (ptP x1 x2 x3 x4) = v → v ≠ 0 → ∃ τ, (bd (F_X11_answer v σ) fun a b => some (a, b)) = some (tlV (ptP x1 x2 x3 x4) 30 (nP row) 0, τ) ∧ Tb (tlW (ptP x1 x2 x3 x4) 30 row 4 23532 4 (nP row) (gl [x1, x2, x3, x4])) τ 9 4 23532 4 30 ∧ gI τ 0 10 = ftV (tlV (ptP x1 x2 x3 x4) 30 (nP row) 0) ∧ gI τ 0 12 = tlC (ptP x1 x2 x3 x4) 30 (nP row) (gI σ 0 12) ∧ ChX 9 [b0] [(9, 3), (0, 10), (0, 12)] σ τ := fun v e hv => bad v (tlV_bad e hv) (fun z => hv (by rw [← e]; exact z.1))
  have i0 : F_X11_isIn x1 (0 : Int32) (5 : Int32) σ = some (if rgB 0 5 x1 = true then 1 else 0, σ) := F_isIn (a := 0) (b := 5) (by decide) (by decide)
  have i1 : F_X11_isIn x2 (0 : Int32) (2 : Int32) σ = some (if rgB 0 2 x2 = true then 1 else 0, σ) := F_isIn (a := 0) (b := 2) (by decide) (by decide)
  have i2 : F_X11_isIn x3 (1 : Int32) (6 : Int32) σ = some (if rgB 1 6 x3 = true then 1 else 0, σ) := F_isIn (a := 1) (b := 6) (by decide) (by decide)
  unfold F_X11_plot F_X11_plot_36
  rw [i0, bd_b (α := Int32), i1, bd_b (α := Int32), i2, bd_b (α := Int32), F_isWeekC, bd_b (α := Int32), fl, bd_o]
  by_cases c0 : rgB 0 5 x1 = true
  rotate_left
  · rw [if_neg c0]; exact bad1 (-1) (tlP_f (by simp [c0])) (by decide)
  rw [if_pos c0]
  by_cases c1 : rgB 0 2 x2 = true
  rotate_left
  · rw [if_neg c1]; exact bad1 (-1) (tlP_f (by simp [c1])) (by decide)
  rw [if_pos c1]
  by_cases c2 : rgB 1 6 x3 = true
  rotate_left
  · rw [if_neg c2]; exact bad1 (-1) (tlP_f (by simp [c2])) (by decide)
  rw [if_pos c2]
  by_cases c3 : rgB 0 259 x4 = true
  rotate_left
  · rw [if_neg c3]; exact bad1 (-1) (tlP_f (by simp [c3])) (by decide)
  rw [if_pos c3]
  have pre : ptP x1 x2 x3 x4 = 0 := tlP_t (by simp [c0, c1, c2, c3])
  by_cases c : nP row = 30
  · rw [if_pos c]
    exact bad (-5) (tlV_full pre c) (fun z => z.2 c)
  rw [if_neg c]
  obtain ⟨s0, a0, T0⟩ := TlS.add (g := gl [x1, x2, x3, x4]) G hb0 (show nP row < 30 by omega) (by decide) hx (by decide) (by decide) (by decide) (by decide)
  obtain ⟨s1, q0, T1⟩ := T0.put (j := 0) (x := x1) (by decide) (by decide) (by decide) (by decide) rfl
  have q0' : F_X8_put 9 (nI (nP row)) (0 : Int32) x1 s0 = some s1 := q0
  obtain ⟨s2, q1, T2⟩ := T1.put (j := 1) (x := x2) (by decide) (by decide) (by decide) (by decide) rfl
  have q1' : F_X8_put 9 (nI (nP row)) (1 : Int32) x2 s1 = some s2 := q1
  obtain ⟨s3, q2, T3⟩ := T2.put (j := 2) (x := x3) (by decide) (by decide) (by decide) (by decide) rfl
  have q2' : F_X8_put 9 (nI (nP row)) (2 : Int32) x3 s2 = some s3 := q2
  obtain ⟨s4, q3, T4⟩ := T3.put (j := 3) (x := x4) (by decide) (by decide) (by decide) (by decide) rfl
  have q3' : F_X8_put 9 (nI (nP row)) (3 : Int32) x4 s3 = some s4 := q3
  have a0' : F_X8_add 9 σ = some (nI (nP row), s0) := a0
  obtain ⟨U1, U2, U3⟩ := TlS.done (nb := 4) (B := 23532) T4 (by decide) (by decide) (by decide)
  have g12 : gI s4 0 12 = gI σ 0 12 := U3.pt hx (by decide) (by simp; omega) (by simp)
  have kk : Ch [] [(0, 12), (0, 10)] s4 (sI (sI s4 0 12 (gI σ 0 12 + 1)) 0 10 (ftV (nI (nP row + 0)))) := (Ch.sI1 (Or.inl (by simp))).trans (Ch.sI1 (Or.inl (by simp)))
  have k1 : Ch [] [(0, 12)] s4 (sI s4 0 12 (gI σ 0 12 + 1)) := Ch.sI1 (Or.inl (by simp))
  rw [a0', bd_some, q0', bv_some, q1', bv_some, q2', bv_some, q3', bv_some, g12, ansC, tlV_good pre c, tlW_yes pre c, tlC_yes pre c]
  exact ⟨_, rfl, U1.ch kk (by simp) (by simp), gI_sI_at, by rw [gI_sI_ne (by decide), gI_sI_at], (U3.mono (by simp) (by simp)).trans (Ch.x (kk.mono (by simp) (by simp)))⟩
theorem C_works {row : Nat → Int32} {x1 x2 x3 x4 x5 x6 x7 x8 : Int32} {O : Nat → Nat} {b0 : Nat} {σ : AH} (hT : Tb row σ 5 2 23228 8 8) (hO : Ow O σ) (hb0 : gR σ 5 2 = some b0) : ∃ τ, F_X11_works x1 x2 x3 x4 x5 x6 x7 x8 σ = some (tlV (woP x1 x2 x3 x4 x5 x6 x7 x8) 8 (nW row) 0, τ) ∧ Tb (tlW (woP x1 x2 x3 x4 x5 x6 x7 x8) 8 row 2 23228 8 (nW row) (gl [x1, x2, x3, x4, x5, x6, x7, x8])) τ 5 2 23228 8 8 ∧ gI τ 0 10 = ftV (tlV (woP x1 x2 x3 x4 x5 x6 x7 x8) 8 (nW row) 0) ∧ gI τ 0 12 = tlC (woP x1 x2 x3 x4 x5 x6 x7 x8) 8 (nW row) (gI σ 0 12) ∧ ChX 5 [b0] [(5, 3), (0, 10), (0, 12)] σ τ := by
  have hx := hO.1
  have nm : nW row ≤ 8 := hT.n
  have hb := hO.bt (t := 5) (by simp [tbs]) hb0
  have G := G_of_Tb hT
  have fl : F_X8_isFull 5 σ = some (if nW row = 8 then 1 else 0, σ) := F_isFullG G (by decide)
  have bad : ∀ v : Int32, tlV (woP x1 x2 x3 x4 x5 x6 x7 x8) 8 (nW row) 0 = v → ¬ ((woP x1 x2 x3 x4 x5 x6 x7 x8) = 0 ∧ nW row ≠ 8) → ∃ τ, (bd (F_X11_answer v σ) fun a b => some (a, b)) = some (tlV (woP x1 x2 x3 x4 x5 x6 x7 x8) 8 (nW row) 0, τ) ∧ Tb (tlW (woP x1 x2 x3 x4 x5 x6 x7 x8) 8 row 2 23228 8 (nW row) (gl [x1, x2, x3, x4, x5, x6, x7, x8])) τ 5 2 23228 8 8 ∧ gI τ 0 10 = ftV (tlV (woP x1 x2 x3 x4 x5 x6 x7 x8) 8 (nW row) 0) ∧ gI τ 0 12 = tlC (woP x1 x2 x3 x4 x5 x6 x7 x8) 8 (nW row) (gI σ 0 12) ∧ ChX 5 [b0] [(5, 3), (0, 10), (0, 12)] σ τ := fun v e n => by
    have k : Ch [] [(0, 10)] σ (sI σ 0 10 (ftV v)) := Ch.sI1 (Or.inl (by simp))
    rw [e, tlW_no n, tlC_no n, ansC]
    exact ⟨_, rfl, hT.ch k (by simp) (by simp), gI_sI_at, gI_sI_ne (by decide), Ch.x (k.mono (by simp) (by simp))⟩
  have bad1 : ∀ v : Int32, (woP x1 x2 x3 x4 x5 x6 x7 x8) = v → v ≠ 0 → ∃ τ, (bd (F_X11_answer v σ) fun a b => some (a, b)) = some (tlV (woP x1 x2 x3 x4 x5 x6 x7 x8) 8 (nW row) 0, τ) ∧ Tb (tlW (woP x1 x2 x3 x4 x5 x6 x7 x8) 8 row 2 23228 8 (nW row) (gl [x1, x2, x3, x4, x5, x6, x7, x8])) τ 5 2 23228 8 8 ∧ gI τ 0 10 = ftV (tlV (woP x1 x2 x3 x4 x5 x6 x7 x8) 8 (nW row) 0) ∧ gI τ 0 12 = tlC (woP x1 x2 x3 x4 x5 x6 x7 x8) 8 (nW row) (gI σ 0 12) ∧ ChX 5 [b0] [(5, 3), (0, 10), (0, 12)] σ τ := fun v e hv => bad v (tlV_bad e hv) (fun z => hv (by rw [← e]; exact z.1))
  have i0 : F_X11_isIn x1 (0 : Int32) (4 : Int32) σ = some (if rgB 0 4 x1 = true then 1 else 0, σ) := F_isIn (a := 0) (b := 4) (by decide) (by decide)
  have i1 : F_X11_isIn x2 (0 : Int32) (1000 : Int32) σ = some (if rgB 0 1000 x2 = true then 1 else 0, σ) := F_isIn (a := 0) (b := 1000) (by decide) (by decide)
  have i2 : F_X11_isIn x3 (0 : Int32) (4 : Int32) σ = some (if rgB 0 4 x3 = true then 1 else 0, σ) := F_isIn (a := 0) (b := 4) (by decide) (by decide)
  have i3 : F_X11_isIn x4 (0 : Int32) (1000 : Int32) σ = some (if rgB 0 1000 x4 = true then 1 else 0, σ) := F_isIn (a := 0) (b := 1000) (by decide) (by decide)
  have i4 : F_X11_isIn x5 (0 : Int32) (4 : Int32) σ = some (if rgB 0 4 x5 = true then 1 else 0, σ) := F_isIn (a := 0) (b := 4) (by decide) (by decide)
  have i5 : F_X11_isIn x6 (1 : Int32) (10000 : Int32) σ = some (if rgB 1 10000 x6 = true then 1 else 0, σ) := F_isIn (a := 1) (b := 10000) (by decide) (by decide)
  have i6 : F_X11_isIn x7 (0 : Int32) (100 : Int32) σ = some (if rgB 0 100 x7 = true then 1 else 0, σ) := F_isIn (a := 0) (b := 100) (by decide) (by decide)
  unfold F_X11_works F_X11_works_82 F_X11_works_88
  rw [i0, bd_b (α := Int32), i1, bd_b (α := Int32), i2, bd_b (α := Int32), i3, bd_b (α := Int32), i4, bd_b (α := Int32), i5, bd_b (α := Int32), i6, bd_b (α := Int32), F_isWeekC, bd_b (α := Int32), fl, bd_o]
  by_cases c0 : rgB 0 4 x1 = true
  rotate_left
  · rw [if_neg c0]; exact bad1 (-1) (tlP_f (by simp [c0])) (by decide)
  rw [if_pos c0]
  by_cases c1 : rgB 0 1000 x2 = true
  rotate_left
  · rw [if_neg c1]; exact bad1 (-1) (tlP_f (by simp [c1])) (by decide)
  rw [if_pos c1]
  by_cases c2 : rgB 0 4 x3 = true
  rotate_left
  · rw [if_neg c2]; exact bad1 (-1) (tlP_f (by simp [c2])) (by decide)
  rw [if_pos c2]
  by_cases c3 : rgB 0 1000 x4 = true
  rotate_left
  · rw [if_neg c3]; exact bad1 (-1) (tlP_f (by simp [c3])) (by decide)
  rw [if_pos c3]
  by_cases c4 : rgB 0 4 x5 = true
  rotate_left
  · rw [if_neg c4]; exact bad1 (-1) (tlP_f (by simp [c4])) (by decide)
  rw [if_pos c4]
  by_cases c5 : rgB 1 10000 x6 = true
  rotate_left
  · rw [if_neg c5]; exact bad1 (-1) (tlP_f (by simp [c5])) (by decide)
  rw [if_pos c5]
  by_cases c6 : rgB 0 100 x7 = true
  rotate_left
  · rw [if_neg c6]; exact bad1 (-1) (tlP_f (by simp [c6])) (by decide)
  rw [if_pos c6]
  by_cases c7 : rgB 0 259 x8 = true
  rotate_left
  · rw [if_neg c7]; exact bad1 (-1) (tlP_f (by simp [c7])) (by decide)
  rw [if_pos c7]
  have pre : woP x1 x2 x3 x4 x5 x6 x7 x8 = 0 := tlP_t (by simp [c0, c1, c2, c3, c4, c5, c6, c7])
  by_cases c : nW row = 8
  · rw [if_pos c]
    exact bad (-5) (tlV_full pre c) (fun z => z.2 c)
  rw [if_neg c]
  obtain ⟨s0, a0, T0⟩ := TlS.add (g := gl [x1, x2, x3, x4, x5, x6, x7, x8]) G hb0 (show nW row < 8 by omega) (by decide) hx (by decide) (by decide) (by decide) (by decide)
  obtain ⟨s1, q0, T1⟩ := T0.put (j := 0) (x := x1) (by decide) (by decide) (by decide) (by decide) rfl
  have q0' : F_X8_put 5 (nI (nW row)) (0 : Int32) x1 s0 = some s1 := q0
  obtain ⟨s2, q1, T2⟩ := T1.put (j := 1) (x := x2) (by decide) (by decide) (by decide) (by decide) rfl
  have q1' : F_X8_put 5 (nI (nW row)) (1 : Int32) x2 s1 = some s2 := q1
  obtain ⟨s3, q2, T3⟩ := T2.put (j := 2) (x := x3) (by decide) (by decide) (by decide) (by decide) rfl
  have q2' : F_X8_put 5 (nI (nW row)) (2 : Int32) x3 s2 = some s3 := q2
  obtain ⟨s4, q3, T4⟩ := T3.put (j := 3) (x := x4) (by decide) (by decide) (by decide) (by decide) rfl
  have q3' : F_X8_put 5 (nI (nW row)) (3 : Int32) x4 s3 = some s4 := q3
  obtain ⟨s5, q4, T5⟩ := T4.put (j := 4) (x := x5) (by decide) (by decide) (by decide) (by decide) rfl
  have q4' : F_X8_put 5 (nI (nW row)) (4 : Int32) x5 s4 = some s5 := q4
  obtain ⟨s6, q5, T6⟩ := T5.put (j := 5) (x := x6) (by decide) (by decide) (by decide) (by decide) rfl
  have q5' : F_X8_put 5 (nI (nW row)) (5 : Int32) x6 s5 = some s6 := q5
  obtain ⟨s7, q6, T7⟩ := T6.put (j := 6) (x := x7) (by decide) (by decide) (by decide) (by decide) rfl
  have q6' : F_X8_put 5 (nI (nW row)) (6 : Int32) x7 s6 = some s7 := q6
  obtain ⟨s8, q7, T8⟩ := T7.put (j := 7) (x := x8) (by decide) (by decide) (by decide) (by decide) rfl
  have q7' : F_X8_put 5 (nI (nW row)) (7 : Int32) x8 s7 = some s8 := q7
  have a0' : F_X8_add 5 σ = some (nI (nW row), s0) := a0
  obtain ⟨U1, U2, U3⟩ := TlS.done (nb := 2) (B := 23228) T8 (by decide) (by decide) (by decide)
  have g12 : gI s8 0 12 = gI σ 0 12 := U3.pt hx (by decide) (by simp; omega) (by simp)
  have kk : Ch [] [(0, 12), (0, 10)] s8 (sI (sI s8 0 12 (gI σ 0 12 + 1)) 0 10 (ftV (nI (nW row + 0)))) := (Ch.sI1 (Or.inl (by simp))).trans (Ch.sI1 (Or.inl (by simp)))
  have k1 : Ch [] [(0, 12)] s8 (sI s8 0 12 (gI σ 0 12 + 1)) := Ch.sI1 (Or.inl (by simp))
  rw [a0', bd_some, q0', bv_some, q1', bv_some, q2', bv_some, q3', bv_some, q4', bv_some, q5', bv_some, q6', bv_some, q7', bv_some, g12, ansC, tlV_good pre c, tlW_yes pre c, tlC_yes pre c]
  exact ⟨_, rfl, U1.ch kk (by simp) (by simp), gI_sI_at, by rw [gI_sI_ne (by decide), gI_sI_at], (U3.mono (by simp) (by simp)).trans (Ch.x (kk.mono (by simp) (by simp)))⟩
end
