section
/-! THE CLASS: a Table beside rows of the reference -/
def Tb (row : Nat → Int32) (σ : AH) (t nb B wd mst : Nat) : Prop :=
  (kd σ t = (8, NO 8) ∧ t < nx σ) ∧ (gI σ t 0 = nI wd ∧ gI σ t 1 = nI mst ∧ gI σ t 3 = row nb ∧ isN (row nb) (mst + 1)) ∧
  ∃ b L, gR σ t 2 = some b ∧ (kd σ b = (100, L) ∧ b < nx σ) ∧ (cl (row nb) * wd ≤ L ∧ L ≤ mst * wd) ∧ (b = t + 1 ∨ 166 ≤ b) ∧ ∀ i, i < cl (row nb) * wd → gI σ b i = row (B + i)
theorem Tb.ch {row : Nat → Int32} {σ τ : AH} {t nb B wd mst : Nat} {cs : List Nat} {fs : List (Nat × Nat)} (h : Tb row σ t nb B wd mst) (c : Ch cs fs σ τ) (h1 : ∀ i ∈ cs, i < 166 ∧ i ≠ t ∧ i ≠ t + 1) (h2 : ∀ q ∈ fs, q.1 < 166 ∧ q.1 ≠ t ∧ q.1 ≠ t + 1) : Tb row τ t nb B wd mst := by
  obtain ⟨⟨a1, a2⟩, ⟨b1, b2', b3, b4⟩, b, L, c1, ⟨c2, c3⟩, c4, c5, c6⟩ := h
  have rt : gI τ t = gI σ t := c.rI (fun q => (h1 t q).2.1 rfl) (fun q hq => (h2 q hq).2.1)
  have rb : gI τ b = gI σ b := by
    refine c.rI (fun q => ?_) (fun q hq e => ?_)
    · have := h1 b q; omega
    · have := h2 q hq; omega
  exact ⟨⟨by rw [c.1]; exact a1, by rw [c.2.1]; exact a2⟩, ⟨by rw [rt]; exact b1, by rw [rt]; exact b2', by rw [rt]; exact b3, b4⟩, b, L, by rw [c.2.2.2.1]; exact c1, ⟨by rw [c.1]; exact c2, by rw [c.2.1]; exact c3⟩, c4, c5, by rw [rb]; exact c6⟩
theorem F_at {row : Nat → Int32} {σ : AH} {t nb B wd mst r c : Nat} (h : Tb row σ t nb B wd mst) (hr : r < cl (row nb)) (hc : c < wd) (hm : mst * wd < 2 ^ 30) : F_X8_at t (nI r) (nI c) σ = some (row (B + (r * wd + c)), σ) := by
  obtain ⟨⟨a1, a2⟩, ⟨b1, b2', b3, b4⟩, b, L, c1, ⟨c2, c3⟩, ⟨c4, c5⟩, c6, c7⟩ := h
  have i1 : nI r * nI wd + nI c = nI (r * wd + c) := by rw [pk_mul, nI_add]
  have lt1 : r * wd + c < cl (row nb) * wd := by
    have : (r + 1) * wd ≤ cl (row nb) * wd := Nat.mul_le_mul_right wd hr
    have e : (r + 1) * wd = r * wd + wd := Nat.succ_mul r wd
    omega
  unfold F_X8_at
  rw [if_pos a1, if_pos a2, b1, i1, if_neg (nI_pos (by omega)), c1, bo_some, if_pos ⟨by rw [c2], c3⟩, c2]
  rw [show Int32.ofNat (100, L).2 = nI L from rfl, if_neg (nI_ge (by omega) (by omega)), bo_some, if_pos ⟨by rw [c2], c3⟩]
  rw [c2, if_pos (inB_n (show r * wd + c < (100, L).2 by show r * wd + c < L; omega) (by show L < 2 ^ 31; omega)), nI_clamp (by omega), c7 _ lt1]
theorem F_rows {row : Nat → Int32} {σ : AH} {t nb B wd mst : Nat} (h : Tb row σ t nb B wd mst) : F_X8_rows t σ = some (nI (cl (row nb)), σ) := by
  obtain ⟨⟨a1, a2⟩, ⟨b1, b2', b3, b4⟩, _⟩ := h
  unfold F_X8_rows
  rw [if_pos a1, if_pos a2, b3]
  rw [b4.1.symm]
/-- the tables that a RUN asks -/
def TbB (row : Nat → Int32) (σ : AH) : Prop := Tb row σ 3 1 22748 4 120 ∧ Tb row σ 5 2 23228 8 8 ∧ Tb row σ 7 3 23292 4 60 ∧ Tb row σ 9 4 23532 4 30 ∧ Tb row σ 11 5 23652 3 60
theorem TbB.ch {row : Nat → Int32} {σ τ : AH} {cs : List Nat} {fs : List (Nat × Nat)} (h : TbB row σ) (c : Ch cs fs σ τ) (h1 : ∀ i ∈ cs, 13 ≤ i ∧ i < 166) (h2 : ∀ q ∈ fs, 13 ≤ q.1 ∧ q.1 < 166) : TbB row τ := by
  obtain ⟨t1, t2, t3, t4, t5⟩ := h
  refine ⟨t1.ch c ?_ ?_, t2.ch c ?_ ?_, t3.ch c ?_ ?_, t4.ch c ?_ ?_, t5.ch c ?_ ?_⟩ <;> first | exact fun i hi => by have := h1 i hi; omega | exact fun q hq => by have := h2 q hq; omega
theorem at_dv {row : Nat → Int32} {σ : AH} {d j : Nat} (h : TbB row σ) (hd : d < nD row) (hj : j < 4) : F_X8_at 3 (nI d) (nI j) σ = some (dv row d j, σ) := by
  have := F_at h.1 hd hj (by decide)
  rw [this]
  have e : 22748 + (d * 4 + j) = 22748 + 4 * d + j := by omega
  rw [e]; rfl
theorem at_wk {row : Nat → Int32} {σ : AH} {d j : Nat} (h : TbB row σ) (hd : d < nW row) (hj : j < 8) : F_X8_at 5 (nI d) (nI j) σ = some (wk row d j, σ) := by
  have := F_at h.2.1 hd hj (by decide)
  rw [this]
  have e : 23228 + (d * 8 + j) = 23228 + 8 * d + j := by omega
  rw [e]; rfl
theorem at_ga {row : Nat → Int32} {σ : AH} {d j : Nat} (h : TbB row σ) (hd : d < nG row) (hj : j < 4) : F_X8_at 7 (nI d) (nI j) σ = some (ga row d j, σ) := by
  have := F_at h.2.2.1 hd hj (by decide)
  rw [this]
  have e : 23292 + (d * 4 + j) = 23292 + 4 * d + j := by omega
  rw [e]; rfl
theorem at_pl {row : Nat → Int32} {σ : AH} {d j : Nat} (h : TbB row σ) (hd : d < nP row) (hj : j < 4) : F_X8_at 9 (nI d) (nI j) σ = some (pl row d j, σ) := by
  have := F_at h.2.2.2.1 hd hj (by decide)
  rw [this]
  have e : 23532 + (d * 4 + j) = 23532 + 4 * d + j := by omega
  rw [e]; rfl
theorem at_sa {row : Nat → Int32} {σ : AH} {d j : Nat} (h : TbB row σ) (hd : d < nS row) (hj : j < 3) : F_X8_at 11 (nI d) (nI j) σ = some (sa row d j, σ) := by
  have := F_at h.2.2.2.2 hd hj (by decide)
  rw [this]
  have e : 23652 + (d * 3 + j) = 23652 + 3 * d + j := by omega
  rw [e]; rfl
theorem rows_d {row : Nat → Int32} {σ : AH} (h : TbB row σ) : F_X8_rows 3 σ = some (nI (nD row), σ) := F_rows h.1
theorem rows_w {row : Nat → Int32} {σ : AH} (h : TbB row σ) : F_X8_rows 5 σ = some (nI (nW row), σ) := F_rows h.2.1
theorem rows_g {row : Nat → Int32} {σ : AH} (h : TbB row σ) : F_X8_rows 7 σ = some (nI (nG row), σ) := F_rows h.2.2.1
theorem rows_p {row : Nat → Int32} {σ : AH} (h : TbB row σ) : F_X8_rows 9 σ = some (nI (nP row), σ) := F_rows h.2.2.2.1
theorem rows_s {row : Nat → Int32} {σ : AH} (h : TbB row σ) : F_X8_rows 11 σ = some (nI (nS row), σ) := F_rows h.2.2.2.2
end
