section
/-! the reference finds FAMILIES -/
def muF (f : Nat → Int32) : Nat → Nat := fun n => match n with
  | 0 => 0
  | n + 1 => muF f n + cl (f n)
theorem muF_up {f : Nat → Int32} {b : Nat} {v : Int32} (hv : cl v < cl (f b)) : ∀ n, muF (va_up f b v) n + (if b < n then cl (f b) - cl v else 0) = muF f n := by
  intro n
  induction n with
  | zero => rw [if_neg (Nat.not_lt_zero b)]; rfl
  | succ n ih =>
    have e1 : muF (va_up f b v) (n + 1) = muF (va_up f b v) n + cl (va_up f b v n) := rfl
    have e2 : muF f (n + 1) = muF f n + cl (f n) := rfl
    rw [e1, e2]
    by_cases c : n = b
    · subst c
      rw [if_neg (Nat.lt_irrefl n)] at ih
      rw [up_same, if_pos (Nat.lt_succ_self n)]; omega
    · rw [up_ne _ _ _ c]
      by_cases d : b < n
      · rw [if_pos d] at ih; rw [if_pos (by omega)]; omega
      · rw [if_neg d] at ih; rw [if_neg (by omega)]; omega
/-- nothing to do at (a, b) -/
def Pz (row : Nat → Int32) (f : Nat → Int32) (a b : Nat) : Prop := ¬ (f a ≠ -1 ∧ ¬ f b ≤ f a ∧ alk row a b = true)
theorem LbP.step {row : Nat → Int32} {k : Int32} {n a b : Nat} {f : Nat → Int32} (hn : n ≤ 60) (h : LbP row k n f) (ha : a < n) (hb : b < n) (h1 : f a ≠ -1) (h2 : ¬ f b ≤ f a) (h3 : alk row a b = true) : LbP row k n (va_up f b (f a)) ∧ cl (f a) < cl (f b) := by
  have ka : knE row k a := by
    by_cases c : knE row k a
    · exact c
    · exact absurd ((h.1 a ha).1 c) h1
  obtain ⟨j, j1, j2, j3⟩ := (h.1 a ha).2 ka
  have kb : knE row k b := by
    by_cases c : knE row k b
    · exact c
    · rw [(h.1 b hb).1 c, j3] at h2
      exfalso; apply h2
      rw [Int32.le_iff_toInt_le, nI_toInt (by omega)]
      have : (-1 : Int32).toInt = -1 := by decide
      omega
  obtain ⟨i, i1, i2, i3⟩ := (h.1 b hb).2 kb
  have cj : cl (f a) = j := by rw [j3]; exact nI_clamp (by omega)
  have ci : cl (f b) = i := by rw [i3]; exact nI_clamp (by omega)
  have lt : j < i := by
    rcases Nat.lt_or_ge j i with z | z
    · exact z
    · exfalso; apply h2; rw [j3, i3]; exact nI_le z (by omega)
  refine ⟨⟨fun e he => ?_, fun g hg e he ke => ?_⟩, by rw [cj, ci]; exact lt⟩
  · by_cases c : e = b
    · subst c
      rw [up_same]
      exact ⟨fun z => absurd kb z, fun _ => ⟨j, by omega, j2, j3⟩⟩
    · rw [up_ne _ _ _ c]; exact h.1 e he
  · by_cases c : e = b
    · subst c
      rw [up_same, ← h.2 g hg a ha ka]
      exact (hg a e ha hb ka kb h3).symm
    · rw [up_ne _ _ _ c]; exact h.2 g hg e he ke
/-- while a pass goes on -/
def PsI (row : Nat → Int32) (n : Nat) (f0 f : Nat → Int32) (flag : Int32) (a b : Nat) : Prop := (flag = 0 ∧ f = f0 ∧ ∀ a' b', a' < n → b' < n → (a' < a ∨ (a' = a ∧ b' < b)) → Pz row f0 a' b') ∨ (flag = 1 ∧ muF f n < muF f0 n)
theorem fam_63 {row : Nat → Int32} {k : Int32} {a g : Nat} {f0 : Nat → Int32} {K45 : Int32 → Int32 → AH → Option AH} {K54 : Int32 → Int32 → Int32 → AH → Option AH} (hE : EV row) (ha : a < nE row) : ∀ (j b : Nat) (flag : Int32) (σ : AH), b + j = nE row → gI σ 125 = row → LbP row k (nE row) (gI σ 160) → PsI row (nE row) f0 (gI σ 160) flag a b →
    ∃ flag' τ, F_X12_findFamilies_63 K45 K54 (j + 1 + g) (nI (nE row)) flag (nI a) (nI b) σ = K54 (nI (nE row)) flag' (nI (a + 1)) τ ∧ gI τ 125 = row ∧ LbP row k (nE row) (gI τ 160) ∧ PsI row (nE row) f0 (gI τ 160) flag' (a + 1) 0 ∧ Ch [160] [] σ τ := by
  obtain ⟨n0, n60⟩ := hE.n
  intro j
  induction j with
  | zero =>
    intro b flag σ hb hr hL hP
    rw [show 0 + 1 + g = g + 1 by omega]
    show ∃ flag' τ, B_X12_findFamilies_63 K45 K54 (F_X12_findFamilies_63 K45 K54 g) (nI (nE row)) flag (nI a) (nI b) σ = _ ∧ _
    unfold B_X12_findFamilies_63
    rw [if_pos (nI_le (by omega) (by omega)), nI_1]
    refine ⟨flag, σ, rfl, hr, hL, ?_, Ch.rf _⟩
    rcases hP with ⟨p1, p2, p3⟩ | p
    · exact Or.inl ⟨p1, p2, fun a' b' h1 h2 h3 => p3 a' b' h1 h2 (by omega)⟩
    · exact Or.inr p
  | succ j ih =>
    intro b flag σ hb hr hL hP
    rw [show j + 1 + 1 + g = (j + 1 + g) + 1 by omega]
    show ∃ flag' τ, B_X12_findFamilies_63 K45 K54 (F_X12_findFamilies_63 K45 K54 (j + 1 + g)) (nI (nE row)) flag (nI a) (nI b) σ = _ ∧ _
    unfold B_X12_findFamilies_63 F_X12_findFamilies_124
    have lb : b < nE row := by omega
    have qa : inB (nI a) 60 = true := inB_n (by omega) (by omega)
    have qb : inB (nI b) 60 = true := inB_n (by omega) (by omega)
    have na : (nI a).toNatClampNeg = a := nI_clamp (by omega)
    have nb : (nI b).toNatClampNeg = b := nI_clamp (by omega)
    rw [if_neg (nI_ge lb (by omega))]
    simp only [qa, qb, na, nb, if_true, F_areOne hE ha lb hr, bd_some, nI_1]
    have skip : Pz row (gI σ 160) a b → ∃ flag' τ, F_X12_findFamilies_63 K45 K54 (j + 1 + g) (nI (nE row)) flag (nI a) (nI (b + 1)) σ = K54 (nI (nE row)) flag' (nI (a + 1)) τ ∧ gI τ 125 = row ∧ LbP row k (nE row) (gI τ 160) ∧ PsI row (nE row) f0 (gI τ 160) flag' (a + 1) 0 ∧ Ch [160] [] σ τ := fun pz => by
      refine ih (b + 1) flag σ (by omega) hr hL ?_
      rcases hP with ⟨p1, p2, p3⟩ | p
      · refine Or.inl ⟨p1, p2, fun a' b' h1 h2 h3 => ?_⟩
        by_cases e : a' = a ∧ b' = b
        · rw [e.1, e.2, ← p2]; exact pz
        · exact p3 a' b' h1 h2 (by omega)
      · exact Or.inr p
    by_cases c1 : gI σ 160 a = -1
    · rw [if_pos c1]; exact skip (fun q => q.1 c1)
    · rw [if_neg c1]
      by_cases c2 : gI σ 160 b ≤ gI σ 160 a
      · rw [if_pos c2]; exact skip (fun q => q.2.1 c2)
      · rw [if_neg c2]
        cases c3 : alk row a b with
        | false => rw [if_pos (show b2 false = 0 from rfl)]; exact skip (fun q => by rw [c3] at q; exact absurd q.2.2 (by decide))
        | true =>
          rw [if_neg (show ¬ b2 true = 0 by decide)]
          obtain ⟨s1, s2⟩ := hL.step n60 ha lb c1 c2 c3
          have up := muF_up s2 (nE row)
          rw [if_pos lb] at up
          have k1 : Ch [160] [] σ (sI σ 160 b (gI σ 160 a)) := Ch.sI1 (Or.inr (by simp))
          obtain ⟨flag', τ, t1, t2, t3, t4, t5⟩ := ih (b + 1) 1 (sI σ 160 b (gI σ 160 a)) (by omega) (by rw [gI_sI_row (by decide)]; exact hr) (by rw [gI_sI_own]; exact s1) (by
            rw [gI_sI_own]
            refine Or.inr ⟨rfl, ?_⟩
            rcases hP with ⟨p1, p2, p3⟩ | ⟨_, p⟩
            · rw [← p2]; omega
            · omega)
          exact ⟨flag', τ, t1, t2, t3, t4, k1.trans t5⟩
theorem fam_54 {row : Nat → Int32} {k : Int32} {g : Nat} {f0 : Nat → Int32} {K45 : Int32 → Int32 → AH → Option AH} (hE : EV row) : ∀ (j a : Nat) (flag : Int32) (σ : AH), a + j = nE row → gI σ 125 = row → LbP row k (nE row) (gI σ 160) → PsI row (nE row) f0 (gI σ 160) flag a 0 →
    ∃ flag' τ, F_X12_findFamilies_54 K45 (j + 1 + g) (nI (nE row)) flag (nI a) σ = K45 (nI (nE row)) flag' τ ∧ gI τ 125 = row ∧ LbP row k (nE row) (gI τ 160) ∧ PsI row (nE row) f0 (gI τ 160) flag' (nE row) 0 ∧ Ch [160] [] σ τ := by
  obtain ⟨n0, n60⟩ := hE.n
  intro j
  induction j with
  | zero =>
    intro a flag σ ha hr hL hP
    rw [show 0 + 1 + g = g + 1 by omega]
    show ∃ flag' τ, B_X12_findFamilies_54 K45 (F_X12_findFamilies_54 K45 g) (nI (nE row)) flag (nI a) σ = _ ∧ _
    unfold B_X12_findFamilies_54
    rw [if_pos (nI_le (by omega) (by omega))]
    rw [show a = nE row by omega] at hP
    exact ⟨flag, σ, rfl, hr, hL, hP, Ch.rf _⟩
  | succ j ih =>
    intro a flag σ ha hr hL hP
    rw [show j + 1 + 1 + g = (j + 1 + g) + 1 by omega]
    show ∃ flag' τ, B_X12_findFamilies_54 K45 (F_X12_findFamilies_54 K45 (j + 1 + g)) (nI (nE row)) flag (nI a) σ = _ ∧ _
    unfold B_X12_findFamilies_54
    rw [if_neg (nI_ge (by omega) (by omega))]
    obtain ⟨g', hg'⟩ := BIGe (nE row) (by omega)
    obtain ⟨flag1, τ1, t1, t2, t3, t4, t5⟩ := fam_63 (g := g') (K45 := K45) (K54 := F_X12_findFamilies_54 K45 (j + 1 + g)) hE (show a < nE row by omega) (nE row) 0 flag σ (by omega) hr hL hP
    have t1' : F_X12_findFamilies_63 K45 (F_X12_findFamilies_54 K45 (j + 1 + g)) BIG (nI (nE row)) flag (nI a) (0 : Int32) σ = F_X12_findFamilies_54 K45 (j + 1 + g) (nI (nE row)) flag1 (nI (a + 1)) τ1 := by rw [hg']; exact t1
    rw [t1']
    obtain ⟨flag2, τ2, u1, u2, u3, u4, u5⟩ := ih (a + 1) flag1 τ1 (by omega) t2 t3 t4
    exact ⟨flag2, τ2, u1, u2, u3, u4, t5.trans u5⟩
theorem fam_45 {row : Nat → Int32} {k : Int32} (hE : EV row) : ∀ (m : Nat) (g : Nat) (σ : AH), muF (gI σ 160) (nE row) = m → gI σ 125 = row → LbP row k (nE row) (gI σ 160) →
    ∃ τ, F_X12_findFamilies_45 (m + 2 + g) (nI (nE row)) (1 : Int32) σ = some τ ∧ FmF row k (gI τ 160) ∧ Ch [160] [] σ τ := by
  obtain ⟨n0, n60⟩ := hE.n
  intro m
  induction m using Nat.strongRecOn with
  | _ m ih =>
    intro g σ hm hr hL
    rw [show m + 2 + g = (m + 1 + g) + 1 by omega]
    show ∃ τ, B_X12_findFamilies_45 (F_X12_findFamilies_45 (m + 1 + g)) (nI (nE row)) (1 : Int32) σ = _ ∧ _
    unfold B_X12_findFamilies_45
    rw [if_neg (by decide)]
    obtain ⟨g', hg'⟩ := BIGe (nE row) (by omega)
    obtain ⟨flag, τ, t1, t2, t3, t4, t5⟩ := fam_54 (g := g') (f0 := gI σ 160) (K45 := F_X12_findFamilies_45 (m + 1 + g)) hE (nE row) 0 0 σ (by omega) hr hL (Or.inl ⟨rfl, rfl, fun a' b' _ _ h => by omega⟩)
    have t1' : F_X12_findFamilies_54 (F_X12_findFamilies_45 (m + 1 + g)) BIG (nI (nE row)) (0 : Int32) (0 : Int32) σ = F_X12_findFamilies_45 (m + 1 + g) (nI (nE row)) flag τ := by rw [hg']; exact t1
    rw [t1']
    rcases t4 with ⟨p1, p2, p3⟩ | ⟨p1, p2⟩
    · rw [p1, show m + 1 + g = (m + g) + 1 by omega]
      show ∃ τ', B_X12_findFamilies_45 (F_X12_findFamilies_45 (m + g)) (nI (nE row)) (0 : Int32) τ = _ ∧ _
      unfold B_X12_findFamilies_45
      rw [if_pos rfl]
      refine ⟨τ, rfl, ⟨t3, fun a b ha hb ka kb hab => ?_⟩, t5⟩
      have key : ∀ a b, a < nE row → b < nE row → knE row k a → alk row a b = true → gI τ 160 b ≤ gI τ 160 a := fun a b ha hb ka hab => by
        have pz := p3 a b ha hb (Or.inl ha)
        rw [← p2] at pz
        obtain ⟨j, j1, j2, j3⟩ := (t3.1 a ha).2 ka
        have ne : gI τ 160 a ≠ -1 := by rw [j3]; exact nI_neg1 (by omega)
        by_cases c : gI τ 160 b ≤ gI τ 160 a
        · exact c
        · exact absurd ⟨ne, c, hab⟩ pz
      have h1 := key a b ha hb ka hab
      have h2 := key b a hb ha kb (by rw [alk_sym]; exact hab)
      rw [Int32.le_iff_toInt_le] at h1 h2
      exact Int32.toInt_inj.mp (by omega)
    · rw [p1]
      obtain ⟨τ2, u1, u2, u3⟩ := ih (muF (gI τ 160) (nE row)) (by omega) (m - 1 - muF (gI τ 160) (nE row) + g) τ rfl t2 t3
      rw [show muF (gI τ 160) (nE row) + 2 + (m - 1 - muF (gI τ 160) (nE row) + g) = m + 1 + g by omega] at u1
      exact ⟨τ2, u1, u2, t5.trans u3⟩
theorem muF_le {f : Nat → Int32} {n : Nat} (h : ∀ e, e < n → cl (f e) ≤ 60) : muF f n ≤ 60 * n := by
  induction n with
  | zero => exact Nat.le_refl _
  | succ n ih =>
    have e2 : muF f (n + 1) = muF f n + cl (f n) := rfl
    have := ih (fun e he => h e (by omega))
    have := h n (by omega)
    rw [e2]; omega
theorem F_findFamilies {row : Nat → Int32} {k : Int32} {σ : AH} (hE : EV row) (hr : gI σ 125 = row) : ∃ τ, F_X12_findFamilies k σ = some τ ∧ FmF row k (gI τ 160) ∧ Ch [160] [] σ τ := by
  obtain ⟨n0, n60⟩ := hE.n
  unfold F_X12_findFamilies
  rw [hr, n0]
  obtain ⟨g, hg⟩ := BIGe (nE row) (by omega)
  obtain ⟨τ, t1, t2, t3⟩ := loop_inv (N := nE row) (g := g) (cs := [160]) (fs := []) (G := fun f x s => F_X12_findFamilies_10 f k (nI (nE row)) x s) (E := fun s => F_X12_findFamilies_45 BIG (nI (nE row)) (1 : Int32) s) (P := fun i s => gI s 125 = row ∧ ∀ e, e < i → (¬ knE row k e → gI s 160 e = -1) ∧ (knE row k e → gI s 160 e = nI e)) (fun f i s hi h => by
    have a6 : F_X12_entryAt (nI i) (6 : Int32) s = some (en row i 6, s) := F_entryAt (j := 6) hE hi (by decide) h.1
    have fin : ∀ v : Int32, ((¬ knE row k i → v = -1) ∧ (knE row k i → v = nI i)) → ∃ τ, F_X12_findFamilies_10 f k (nI (nE row)) (nI (i + 1)) (sI s 160 i v) = F_X12_findFamilies_10 f k (nI (nE row)) (nI (i + 1)) τ ∧ (gI τ 125 = row ∧ ∀ e, e < i + 1 → (¬ knE row k e → gI τ 160 e = -1) ∧ (knE row k e → gI τ 160 e = nI e)) ∧ Ch [160] [] s τ := fun v hv => by
      refine ⟨_, rfl, ⟨by rw [gI_sI_row (by decide)]; exact h.1, fun e he => ?_⟩, Ch.sI1 (Or.inr (by simp))⟩
      by_cases c : e = i
      · subst c; rw [gI_sI_at]; exact hv
      · rw [gI_sI_ne c]; exact h.2 e (by omega)
    show ∃ τ, B_X12_findFamilies_10 (F_X12_findFamilies_10 f) k (nI (nE row)) (nI i) s = F_X12_findFamilies_10 f k (nI (nE row)) (nI (i + 1)) τ ∧ _
    unfold B_X12_findFamilies_10 F_X12_findFamilies_36
    rw [if_neg (nI_ge hi (by omega)), a6, bd_some, if_pos (inB_n (by omega) (by omega)), nI_clamp (by omega), nI_1]
    by_cases c : k < en row i 6
    · rw [if_pos c]; exact fin _ ⟨fun _ => rfl, fun z => absurd c z⟩
    · rw [if_neg c, if_pos (inB_n (by omega) (by omega))]; exact fin _ ⟨fun z => absurd c z, fun _ => rfl⟩) (fun f s h => by
    show B_X12_findFamilies_10 (F_X12_findFamilies_10 f) k (nI (nE row)) (nI (nE row)) s = _
    unfold B_X12_findFamilies_10
    rw [if_pos (nI_le (Nat.le_refl _) (by omega))]) (nE row) 0 σ (by omega) ⟨hr, fun e he => absurd he (Nat.not_lt_zero e)⟩
  have t1' : F_X12_findFamilies_10 BIG k (nI (nE row)) (0 : Int32) σ = F_X12_findFamilies_45 BIG (nI (nE row)) (1 : Int32) τ := by
    rw [show F_X12_findFamilies_10 BIG = F_X12_findFamilies_10 (nE row + 1 + g) by rw [hg]]; exact t1
  rw [t1']
  have L0 : LbP row k (nE row) (gI τ 160) := by
    refine ⟨fun e he => ⟨(t2.2 e he).1, fun ke => ⟨e, Nat.le_refl _, ke, (t2.2 e he).2 ke⟩⟩, fun g hg e he ke => ?_⟩
    rw [(t2.2 e he).2 ke, show cl (nI e) = e from nI_clamp (by omega)]
  have mle : muF (gI τ 160) (nE row) ≤ 60 * nE row := muF_le (fun e he => by
    by_cases c : knE row k e
    · rw [(t2.2 e he).2 c, show cl (nI e) = e from nI_clamp (by omega)]; omega
    · rw [(t2.2 e he).1 c]; decide)
  obtain ⟨g2, hg2⟩ := BIGe (muF (gI τ 160) (nE row) + 1) (by omega)
  obtain ⟨τ2, u1, u2, u3⟩ := fam_45 hE (muF (gI τ 160) (nE row)) g2 τ rfl t2.1 L0
  rw [hg2]
  exact ⟨τ2, u1, u2, t3.trans u3⟩
end
