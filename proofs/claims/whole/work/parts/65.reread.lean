section
theorem prv_gap {row : Nat → Int32} {h p : Nat} : ∀ j, (∀ q, p ≤ q → q < p + j → okP row q = false) → prv row h (p + j) = prv row h p := by
  intro j
  induction j with
  | zero => intro _; rfl
  | succ j ih =>
    intro hq
    have e : prv row h (p + (j + 1)) = if okP row (p + j) = true ∧ hdP row (p + j) = h then some (p + j) else prv row h (p + j) := rfl
    rw [e, if_neg (fun z => by rw [hq (p + j) (by omega) (by omega)] at z; cases z.1)]
    exact ih (fun q h1 h2 => hq q h1 (by omega))
theorem hdN_63 {row : Nat → Int32} {a c : Nat} (hV : AV row) (hW : AW row) (ha : a < nA row) (hc : c < clN row a) : hdN row a c < 63 := by
  obtain ⟨⟨n, bn, en⟩, _⟩ := (hV.2.2 a ha).2.2 c hc
  have cn : cl (row (cA a c)) = n := by rw [en]; exact nI_clamp (by omega)
  by_cases z : n = 0
  · unfold hdN; rw [cn, if_pos z]; omega
  · have := hdN_lt (hW a ha c hc) (by omega) (by rw [en]; exact fun q => z ((nI_eq (a := n) (b := 0) (by omega) (by omega)).mp q)) (by omega)
    omega
/-- the chain of the places ahead of p -/
def ChnS (row : Nat → Int32) (p : Nat) (σ : AH) : Prop := (∀ h, h < 63 → gI σ 29 h = oI (prv row h p)) ∧ ∀ q, q < p → okP row q = true → gI σ 30 q = oI (prv row (hdP row q) q)
theorem ChnS_gap {row : Nat → Int32} {p : Nat} {σ : AH} (h : ChnS row p σ) (j : Nat) (hq : ∀ q, p ≤ q → q < p + j → okP row q = false) : ChnS row (p + j) σ := by
  refine ⟨fun h' hh => by rw [prv_gap j hq]; exact h.1 h' hh, fun q h1 h2 => ?_⟩
  rcases Nat.lt_or_ge q p with z | z
  · exact h.2 q z h2
  · rw [hq q z h1] at h2; cases h2
theorem reread_in {row : Nat → Int32} {a b g : Nat} {K : Int32 → AH → Option AH} (hV : AV row) (hW : AW row) (ha : a < nA row) : ∀ (j c : Nat) (σ : AH), c + j = clN row a → ActC row σ a b → ChnS row (16 * a + c) σ →
    ∃ τ, F_X3_reread_33 K (j + 1 + g) (nI a) b (nI c) σ = K (nI (a + 1)) τ ∧ ChnS row (16 * a + clN row a) τ ∧ Ch [29, 30] [] σ τ := by
  have hn := hV.2.1
  obtain ⟨hc1, hc16, hC⟩ := hV.2.2 a ha
  intro j
  induction j with
  | zero =>
    intro c σ hc hA hS
    have e : F_X3_reread_33 K (0 + 1 + g) = B_X3_reread_33 K (F_X3_reread_33 K g) := by rw [show 0 + 1 + g = g + 1 by omega]; rfl
    have : c = clN row a := by omega
    subst this
    obtain ⟨⟨k1, k2, k3⟩, ⟨_, _, k4⟩, _⟩ := hA
    rw [e]; unfold B_X3_reread_33 F_X3_reread_90
    rw [if_pos k1, if_pos k2, k4, if_pos (nI_le (Nat.le_refl _) (by omega)), nI_1]
    exact ⟨σ, rfl, hS, Ch.rf _⟩
  | succ j ih =>
    intro c σ hc hA hS
    have hcl : c < clN row a := by omega
    have e : F_X3_reread_33 K (j + 1 + 1 + g) = B_X3_reread_33 K (F_X3_reread_33 K (j + 1 + g)) := by rw [show j + 1 + 1 + g = (j + 1 + g) + 1 by omega]; rfl
    have hA0 := hA
    obtain ⟨⟨k1, k2, k3⟩, ⟨_, _, k4⟩, h, s, g', d, L, a1, a2, a3, a4, a5, a6⟩ := hA
    obtain ⟨r1, _⟩ := a6 c hcl
    have hh := hdN_63 hV hW ha hcl
    obtain ⟨o1, o2, o3, o4⟩ := okP_at (row := row) ha hcl (by omega)
    have gh : (kd σ h).1 = 100 ∧ h < nx σ := ⟨by rw [a1.2.1], a1.2.2.1⟩
    have lh : (kd σ h).2 = clN row a := by rw [a1.2.1]
    have qc : inB (nI c) (clN row a) = true := inB_n hcl (by omega)
    have nc : (nI c).toNatClampNeg = c := nI_clamp (by omega)
    have qh : inB (nI (hdN row a c)) 63 = true := inB_n hh (by omega)
    have nh : (nI (hdN row a c)).toNatClampNeg = hdN row a c := nI_clamp (by omega)
    have ip : nI a * (16 : Int32) + nI c = nI (16 * a + c) := by
      simp only [fa_lit, nI_add, pk_mul]; congr 1; omega
    have qp : inB (nI (16 * a + c)) 384 = true := inB_n (by omega) (by omega)
    have np : (nI (16 * a + c)).toNatClampNeg = 16 * a + c := nI_clamp (by omega)
    have g30 : ∀ v, gI (sI σ 30 (16 * a + c) v) h = gI σ h := fun v => gI_sI_row (by have := a1.2.2.2; omega)
    rw [e]; unfold B_X3_reread_33
    simp only [k1, k2, if_true, k4, a1.1, bo_some, lh, qc, nc, r1, qh, nh, ip, qp, np, gR_sI, kd_sI, nx_sI, g30, lt_e, nI_1]
    rw [if_neg (nI_ge hcl (by omega)), if_pos gh, if_pos gh]
    have kS : Ch [29, 30] [] σ (sI (sI σ 30 (16 * a + c) (gI σ 29 (hdN row a c))) 29 (hdN row a c) (nI (16 * a + c))) := (Ch.sI1 (Or.inr (by simp))).trans (Ch.sI1 (Or.inr (by simp)))
    have ep : ∀ h', prv row h' (16 * a + c + 1) = if okP row (16 * a + c) = true ∧ hdP row (16 * a + c) = h' then some (16 * a + c) else prv row h' (16 * a + c) := fun h' => rfl
    obtain ⟨τ, t1, t2, t3⟩ := ih (c + 1) _ (by omega) (hA0.ch kS (by simp) (by simp)) ⟨fun h' hh' => by
        rw [show 16 * a + (c + 1) = 16 * a + c + 1 by omega, ep, gI_sI_own]
        by_cases e : h' = hdN row a c
        · subst e; rw [up_same, if_pos ⟨o1, o2⟩]; rfl
        · rw [up_ne _ _ _ e, gI_sI_row (by decide), if_neg (fun z => e (by rw [← o2]; exact z.2.symm))]; exact hS.1 h' hh', fun q h1 h2 => by
        rw [gI_sI_row (by decide), gI_sI_own]
        by_cases e : q = 16 * a + c
        · subst e; rw [up_same, o2]; exact hS.1 _ hh
        · rw [up_ne _ _ _ e]; exact hS.2 q (by omega) h2⟩
    exact ⟨τ, t1, t2, kS.trans t3⟩
theorem reread_out {row : Nat → Int32} {g : Nat} (hV : AV row) (hW : AW row) : ∀ (j a : Nat) (σ : AH), a + j = nA row → ActsC row σ → ChnS row (16 * a) σ →
    ∃ τ, F_X3_reread_10 (j + 1 + g) (nI a) σ = some (sI τ 28 6 (-1)) ∧ ChnS row (16 * nA row) τ ∧ Ch [29, 30] [] σ τ := by
  have hn := hV.2.1
  intro j
  induction j with
  | zero =>
    intro a σ ha hA hS
    have e : F_X3_reread_10 (0 + 1 + g) = B_X3_reread_10 (F_X3_reread_10 g) := by rw [show 0 + 1 + g = g + 1 by omega]; rfl
    have : a = nA row := by omega
    subst this
    rw [e]; unfold B_X3_reread_10
    rw [hA.1, if_pos (nI_le (Nat.le_refl _) (by omega))]
    exact ⟨σ, rfl, hS, Ch.rf _⟩
  | succ j ih =>
    intro a σ ha hA hS
    have ha' : a < nA row := by omega
    have e : F_X3_reread_10 (j + 1 + 1 + g) = B_X3_reread_10 (F_X3_reread_10 (j + 1 + g)) := by rw [show j + 1 + 1 + g = (j + 1 + g) + 1 by omega]; rfl
    obtain ⟨b, eb, hAb⟩ := hA.2 a ha'
    have hc16 := (hV.2.2 a ha').2.1
    rw [e]; unfold B_X3_reread_10
    rw [hA.1, if_neg (nI_ge ha' (by omega)), if_pos (inB_n (by omega) (by omega)), nI_clamp (by omega), eb, on_some, if_pos ⟨hAb.1.1, hAb.1.2.1⟩]
    obtain ⟨g2, hg2⟩ := BIGe (clN row a) (by omega)
    obtain ⟨τ, t1, t2, t3⟩ := reread_in (b := b) (g := g2) (K := F_X3_reread_10 (j + 1 + g)) hV hW ha' (clN row a) 0 σ (by omega) hAb hS
    have t1' : F_X3_reread_33 (F_X3_reread_10 (j + 1 + g)) BIG (nI a) b 0 σ = F_X3_reread_10 (j + 1 + g) (nI (a + 1)) τ := by rw [hg2]; exact t1
    rw [t1']
    have t2' := ChnS_gap t2 (16 - clN row a) (fun q q1 q2 => by
      unfold okP
      refine decide_eq_false (fun z => ?_)
      have e1 : q / 16 = a := by omega
      rw [e1] at z
      omega)
    rw [show 16 * a + clN row a + (16 - clN row a) = 16 * (a + 1) by omega] at t2'
    obtain ⟨τ2, u1, u2, u3⟩ := ih (a + 1) τ (by omega) (hA.ch t3 (by simp) (by simp)) t2'
    exact ⟨τ2, u1, u2, t3.trans u3⟩
/-- reread: behind it what the class keeps of its ACTS is right -/
theorem F_reread {row : Nat → Int32} {σ : AH} (hV : AV row) (hW : AW row) (hA : ActsC row σ) : ∃ τ, F_X3_reread σ = some τ ∧ LwI row τ ∧ Ch [29, 30] [(28, 6)] σ τ := by
  have hn := hV.2.1
  unfold F_X3_reread
  rw [lt_e]
  have kS : Ch [29, 30] [] σ (sA σ 29 (filln (gI σ 29) 63 (-1))) := Ch.sA1 (by simp)
  obtain ⟨g, hg⟩ := BIGe (nA row) (by omega)
  obtain ⟨τ, t1, t2, t3⟩ := reread_out (g := g) hV hW (nA row) 0 (sA σ 29 (filln (gI σ 29) 63 (-1))) (by omega) (hA.ch kS (by simp) (by simp)) ⟨fun h hh => by
    rw [gI_sA_own]; unfold filln; rw [if_pos hh]; rfl, fun q h1 _ => absurd h1 (by omega)⟩
  have kE : Ch [29, 30] [(28, 6)] τ (sI τ 28 6 (-1)) := Ch.sI1 (Or.inl (by simp))
  have kA : Ch [29, 30] [(28, 6)] σ (sI τ 28 6 (-1)) := ((kS.trans t3).mono (by simp) (by simp)).trans kE
  have t2' := ChnS_gap t2 (384 - 16 * nA row) (fun q q1 q2 => by
    unfold okP
    exact decide_eq_false (fun z => by omega))
  rw [show 16 * nA row + (384 - 16 * nA row) = 384 by omega] at t2'
  refine ⟨sI τ 28 6 (-1), by rw [hg]; exact t1, ⟨hA.ch kA (by simp) (by simp), Or.inl gI_sI_at, ?_⟩, kA⟩
  refine ⟨fun h hh => ?_, fun p hp ho => ?_⟩
  · rw [gI_sI_row (by decide)]; exact t2'.1 h hh
  · rw [gI_sI_row (by decide)]; exact t2'.2 p hp ho
end
