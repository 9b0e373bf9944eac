section
/-! THE CLASS: its Choice -/
def CwI (n : Nat) (wi : Nat → Nat) (σ : AH) : Prop := gI σ 68 3 = nI n ∧ ∀ i, i < n → gI σ 69 i = nI (wi i)
def CrI (n : Nat) (r : Nat → Nat) (σ : AH) : Prop := ∀ i, i < n → gI σ 81 i = nI (r i)
theorem CwI.ch {n : Nat} {wi : Nat → Nat} {σ τ : AH} {cs : List Nat} {fs : List (Nat × Nat)} (h : CwI n wi σ) (c : Ch cs fs σ τ) (h1 : 68 ∉ cs ∧ 69 ∉ cs) (h2 : ∀ q ∈ fs, q ≠ (68, 3) ∧ q.1 ≠ 69) : CwI n wi τ :=
  ⟨by rw [c.pI h1.1 (fun q => (h2 _ q).1 rfl)]; exact h.1, by rw [c.rI h1.2 (fun q hq => (h2 q hq).2)]; exact h.2⟩
theorem CrI.ch {n : Nat} {r : Nat → Nat} {σ τ : AH} {cs : List Nat} {fs : List (Nat × Nat)} (h : CrI n r σ) (c : Ch cs fs σ τ) (h1 : 81 ∉ cs) (h2 : ∀ q ∈ fs, q.1 ≠ 81) : CrI n r τ := by
  unfold CrI; rw [c.rI h1 h2]; exact h
theorem sC_ext {s f : Nat → Option Nat} {wi : Nat → Nat} {q n : Nat} {cs : Nat → Nat} (hd : ∀ i j, i < n → j < n → wi i = wi j → i = j) (h1 : ∀ k, k < n → f (wi k) = chW q (cs k)) (h2 : ∀ p, (∀ k, k < n → wi k ≠ p) → f p = s p) : f = sC s wi q cs n := by
  funext p
  by_cases c : ∃ k, k < n ∧ wi k = p
  · obtain ⟨k, hk, e⟩ := c
    rw [← e, sC_at n hd k hk, h1 k hk]
  · have h : ∀ k, k < n → wi k ≠ p := fun k hk e => c ⟨k, hk, e⟩
    rw [sC_off n h, h2 p h]
theorem sw_none {row : Nat → Int32} {k : Int32} {n : Nat} {wi : Nat → Nat} (h : WiV row n wi) {i : Nat} (hi : i < n) : sw row k (wi i) = none := by
  unfold sw
  have : ∀ m, m ≤ nS row → sO row k (wi i) m = none := by
    intro m
    induction m with
    | zero => intro _; rfl
    | succ m ih =>
      intro hm
      have e : sO row k (wi i) (m + 1) = match sO row k (wi i) m with | some w => some w | none => if cl (sa row m 0) = wi i ∧ ¬ k < sa row m 2 then some (cl (sa row m 1)) else none := rfl
      rw [e, ih (by omega)]
      exact if_neg (fun q => h.2.2.2 i hi m (by omega) q.1)
  exact this _ (Nat.le_refl _)
theorem sC_zero {row : Nat → Int32} {k : Int32} {q n : Nat} {wi : Nat → Nat} (h : WiV row n wi) {cs : Nat → Nat} (hc : ∀ i, i < n → cs i = 0) : sC (sw row k) wi q cs n = sw row k :=
  (sC_ext (f := sw row k) h.2.2.1 (fun j hj => by rw [sw_none h hj, hc j hj]; rfl) (fun _ _ => rfl)).symm
theorem F_tellStarts {row : Nat → Int32} {k : Int32} {q n t : Nat} {wi r cs : Nat → Nat} {σ : AH} (hB : BV row) (hW : WiV row n wi) (hq : q < 20) (ht : t < 3) (hr4 : ∀ i, i < n → r i < 4) (hC : CwI n wi σ) (hr : CrI n r σ) (h4 : gI σ 68 4 = nI (13 * q)) (hz : ∀ i, i < n → r i = t + 1 → cs i = 0) (hY : YS (sC (sw row k) wi q cs n) σ) :
    ∃ τ, F_X1_tellStarts (nI t) σ = some τ ∧ YS (sC (sw row k) wi q (fun i => if r i = t + 1 then t + 1 else cs i) n) τ ∧ Ch [38, 39] [] σ τ := by
  obtain ⟨hn, hw, hd, _⟩ := hW
  have b30 := hB.p.2.1
  unfold F_X1_tellStarts
  obtain ⟨g, hg⟩ := BIGe n (by omega)
  rw [hg]
  have e14 : nI (13 * q) + nI t * (4 : Int32) = nI (13 * q + 4 * t) := by simp only [fa_lit, nI_add, pk_mul]; rw [Nat.mul_comm t 4]
  obtain ⟨τ, t1, t2, t3⟩ := loop_inv (N := n) (g := g) (cs := [38, 39]) (fs := []) (G := fun f x s => F_X1_tellStarts_2 f (nI t) x s) (E := fun s => some s) (P := fun i s => (CwI n wi s ∧ CrI n r s ∧ gI s 68 4 = nI (13 * q)) ∧ YS (sC (sw row k) wi q (fun j => if j < i ∧ r j = t + 1 then t + 1 else cs j) n) s) (fun f i s hi h => by
    obtain ⟨⟨c1, c2, c3⟩, c4⟩ := h
    have q1 : inB (nI i) 6 = true := inB_n (by omega) (by omega)
    have n1 : (nI i).toNatClampNeg = i := nI_clamp (by omega)
    have bi := hw i hi
    have r4 := hr4 i hi
    have un : F_X1_tellStarts_2 (f + 1) (nI t) (nI i) s = if nI (r i) = nI (t + 1) then (bv (F_X10_tellStart (nI (wi i)) (nI (13 * q + 4 * t)) s) fun σ4 => F_X1_tellStarts_2 f (nI t) (nI (i + 1)) σ4) else F_X1_tellStarts_2 f (nI t) (nI (i + 1)) s := by
      show B_X1_tellStarts_2 (F_X1_tellStarts_2 f) (nI t) (nI i) s = _
      unfold B_X1_tellStarts_2 F_X1_tellStarts_43
      rw [c1.1, if_neg (nI_ge hi (by omega)), if_pos q1, if_pos q1, n1, c2 i hi, c1.2 i hi, c3, e14, nI_1, nI_1]
    show ∃ τ, F_X1_tellStarts_2 (f + 1) (nI t) (nI i) s = F_X1_tellStarts_2 f (nI t) (nI (i + 1)) τ ∧ _
    rw [un]
    by_cases c : r i = t + 1
    · rw [if_pos (by rw [c])]
      have nn : sC (sw row k) wi q (fun j => if j < i ∧ r j = t + 1 then t + 1 else cs j) n (wi i) = none := by
        rw [sC_at n hd i hi]
        show chW q (if i < i ∧ r i = t + 1 then t + 1 else cs i) = none
        rw [if_neg (fun z => absurd z.1 (Nat.lt_irrefl i)), hz i hi c]; rfl
      obtain ⟨τ, t1, t2, t3⟩ := F_tellStart (p := wi i) (w := 13 * q + 4 * t) c4 (by omega) (by omega) nn
      rw [t1, bv_some]
      refine ⟨τ, rfl, ⟨⟨c1.ch t3 (by simp) (by simp), c2.ch t3 (by simp) (by simp), by rw [t3.rI (by simp) (by simp)]; exact c3⟩, ?_⟩, t3⟩
      have e := sC_ext (s := sw row k) (q := q) (n := n) (wi := wi) (cs := fun j => if j < i + 1 ∧ r j = t + 1 then t + 1 else cs j) (f := upS (sC (sw row k) wi q (fun j => if j < i ∧ r j = t + 1 then t + 1 else cs j) n) (wi i) (some (13 * q + 4 * t))) hd (fun j hj => by
        unfold upS
        by_cases z : wi j = wi i
        · have zz := hd j i hj hi z
          subst zz
          show (if _ then _ else _) = chW q (if j < j + 1 ∧ r j = t + 1 then t + 1 else cs j)
          rw [if_pos rfl, if_pos ⟨Nat.lt_succ_self j, c⟩]
          unfold chW
          rw [if_neg (by omega)]; rfl
        · rw [if_neg z, sC_at n hd j hj]
          show chW q (if _ then _ else _) = chW q (if _ then _ else _)
          have zj : j ≠ i := fun e => z (by rw [e])
          by_cases y : j < i ∧ r j = t + 1
          · rw [if_pos y, if_pos ⟨by omega, y.2⟩]
          · rw [if_neg y, if_neg (fun x => y ⟨by omega, x.2⟩)]) (fun p hp => by
        unfold upS
        rw [if_neg (fun e => hp i hi e.symm), sC_off n hp])
      rw [← e]; exact t2
    · rw [if_neg (fun e => c ((nI_eq (by omega) (by omega)).mp e))]
      refine ⟨s, rfl, ⟨⟨c1, c2, c3⟩, ?_⟩, Ch.rf _⟩
      rw [sC_congr (cs' := fun j => if j < i ∧ r j = t + 1 then t + 1 else cs j) n (fun j hj => by
        show (if _ then _ else _) = (if _ then _ else _)
        by_cases y : j < i ∧ r j = t + 1
        · rw [if_pos y, if_pos ⟨by omega, y.2⟩]
        · rw [if_neg y, if_neg (fun x => y ⟨by
            rcases Nat.lt_or_ge j i with z | z
            · exact z
            · exact absurd (by rw [show i = j by omega]; exact x.2) c, x.2⟩)])]
      exact c4) (fun f s h => by
    show B_X1_tellStarts_2 (F_X1_tellStarts_2 f) (nI t) (nI n) s = _
    unfold B_X1_tellStarts_2
    rw [h.1.1.1, if_pos (nI_le (Nat.le_refl _) (by omega))]) n 0 σ (by omega) ⟨⟨hC, hr, h4⟩, by
    rw [sC_congr (cs' := cs) n (fun j hj => if_neg (fun x => absurd x.1 (Nat.not_lt_zero j)))]; exact hY⟩
  refine ⟨τ, t1, ?_, t3⟩
  rw [sC_congr (cs' := fun j => if j < n ∧ r j = t + 1 then t + 1 else cs j) n (fun j hj => by
    show (if _ then _ else _) = (if _ then _ else _)
    by_cases y : r j = t + 1
    · rw [if_pos y, if_pos ⟨hj, y⟩]
    · rw [if_neg y, if_neg (fun x => y x.2)])]
  exact t2.2
theorem F_dropStarts {row : Nat → Int32} {k : Int32} {q n : Nat} {wi cs : Nat → Nat} {σ : AH} (hB : BV row) (hW : WiV row n wi) (hq : q < 20) (hc4 : ∀ i, cs i < 4) (hC : CwI n wi σ) (hY : YS (sC (sw row k) wi q cs n) σ) :
    ∃ τ, F_X1_dropStarts σ = some τ ∧ YS (sw row k) τ ∧ Ch [38, 39] [] σ τ := by
  have hW' := hW
  obtain ⟨hn, hw, hd, _⟩ := hW
  have b30 := hB.p.2.1
  unfold F_X1_dropStarts
  obtain ⟨g, hg⟩ := BIGe n (by omega)
  rw [hg]
  have lt : ∀ i p w, sC (sw row k) wi q (fun j => if j < i then 0 else cs j) n p = some w → w < 260 := fun i => sC_lt (fun p w h => sw_lt hB h) hq (fun j => by
    show (if _ then _ else _) < 4
    have := hc4 j
    split <;> omega) n
  obtain ⟨τ, t1, t2, t3⟩ := loop_inv (N := n) (g := g) (cs := [38, 39]) (fs := []) (G := fun f x s => F_X1_dropStarts_2 f x s) (E := fun s => some s) (P := fun i s => CwI n wi s ∧ YS (sC (sw row k) wi q (fun j => if j < i then 0 else cs j) n) s) (fun f i s hi h => by
    obtain ⟨c1, c4⟩ := h
    have q1 : inB (nI i) 6 = true := inB_n (by omega) (by omega)
    have n1 : (nI i).toNatClampNeg = i := nI_clamp (by omega)
    have bi := hw i hi
    obtain ⟨τ, t1, t2, t3⟩ := F_dropStart (p := wi i) c4 (by omega) (lt i)
    refine ⟨τ, ?_, ⟨c1.ch t3 (by simp) (by simp), ?_⟩, t3⟩
    · show B_X1_dropStarts_2 (F_X1_dropStarts_2 f) (nI i) s = _
      unfold B_X1_dropStarts_2
      rw [c1.1, if_neg (nI_ge hi (by omega)), if_pos q1, n1, c1.2 i hi, t1, bv_some, nI_1]
    · have e := sC_ext (s := sw row k) (q := q) (n := n) (wi := wi) (cs := fun j => if j < i + 1 then 0 else cs j) (f := upS (sC (sw row k) wi q (fun j => if j < i then 0 else cs j) n) (wi i) none) hd (fun j hj => by
        unfold upS
        by_cases z : wi j = wi i
        · have zz := hd j i hj hi z
          subst zz
          show (if _ then _ else _) = chW q (if j < j + 1 then 0 else cs j)
          rw [if_pos rfl, if_pos (Nat.lt_succ_self j)]; rfl
        · rw [if_neg z, sC_at n hd j hj]
          show chW q (if _ then _ else _) = chW q (if _ then _ else _)
          have zj : j ≠ i := fun e => z (by rw [e])
          by_cases y : j < i
          · rw [if_pos y, if_pos (by omega)]
          · rw [if_neg y, if_neg (by omega)]) (fun p hp => by
        unfold upS
        rw [if_neg (fun e => hp i hi e.symm), sC_off n hp])
      rw [← e]; exact t2) (fun f s h => by
    show B_X1_dropStarts_2 (F_X1_dropStarts_2 f) (nI n) s = _
    unfold B_X1_dropStarts_2
    rw [h.1.1, if_pos (nI_le (Nat.le_refl _) (by omega))]) n 0 σ (by omega) ⟨hC, by
    rw [sC_congr (cs' := cs) n (fun j hj => if_neg (Nat.not_lt_zero j))]; exact hY⟩
  refine ⟨τ, t1, ?_, t3⟩
  have := t2.2
  rw [sC_zero hW' (fun i hi => if_pos hi)] at this
  exact this
/-! WEEK by WEEK at a SITE -/
theorem play_gen {α : Type} {row : Nat → Int32} {k : Int32} {s sy : Nat → Option Nat} {a b m g : Nat} {R : Nat → Nat → Int32} {Q : AH → Prop} {G : Nat → Int32 → AH → Option α} {E : AH → Option α} (hV : AV row) (hW : AW row) (hB : BV row) (hs : ∀ p w, s p = some w → w < 260) (hsy : ∀ p w, sy p = some w → w < 260) (hb : 44 < b ∧ b + 9 < 124) (hm : m ≤ 260)
    (hag : ∀ i p, a ≤ i → i < m → (sy p = some i ↔ s p = some i)) (hQ : ∀ σ τ, Ch (PWc b) (PWf b) σ τ → Q σ → Q τ)
    (hst : ∀ f i σ, i < m → Q σ → G (f + 1) (nI i) σ = bv (F_X10_passWeek b (nI i) σ) fun σ1 => G f (nI (i + 1)) σ1) (hen : ∀ f σ, Q σ → G (f + 1) (nI m) σ = E σ) : ∀ (j i : Nat) (σ : AH), a + i + j = m → Q σ → YdS row k 0 sy σ → SiI row k s b (a + i) (rnS row k (nI 0) s (lic row k s) a R i) σ →
    ∃ τ, G (j + 1 + g) (nI (a + i)) σ = E τ ∧ Q τ ∧ YdS row k 0 sy τ ∧ SiI row k s b m (rnS row k (nI 0) s (lic row k s) a R (m - a)) τ ∧ Ch (PWc b) (PWf b) σ τ := by
  intro j
  induction j with
  | zero =>
    intro i σ hi q1 h1 h2
    have e : a + i = m := by omega
    have e2 : i = m - a := by omega
    rw [show 0 + 1 + g = g + 1 by omega, e, hen g σ q1]
    rw [e] at h2
    rw [e2] at h2
    exact ⟨σ, rfl, q1, h1, h2, Ch.rf _⟩
  | succ j ih =>
    intro i σ hi q1 h1 h2
    obtain ⟨τ, t1, t2, t3, _, _, t6⟩ := F_passWeek2 hV hW hB hs hsy (fun p _ => hag (a + i) p (by omega) (by omega)) hb (w := a + i) (by omega) h1 h2
    rw [show j + 1 + 1 + g = (j + 1 + g) + 1 by omega, hst _ _ _ (by omega) q1, t1, bv_some]
    rw [← rnS_s] at t3
    obtain ⟨τ2, u1, u2, u3, u4, u5⟩ := ih (i + 1) τ (by omega) (hQ _ _ t6 q1) t2 t3
    exact ⟨τ2, u1, u2, u3, u4, t6.trans u5⟩
end
