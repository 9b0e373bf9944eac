section
theorem F_roomsOfC {row : Nat → Int32} {n i : Nat} {wi : Nat → Nat} {σ : AH} (hB : BV row) (hW : WiV row n wi) (hT : TbB row σ) (hC : CwI n wi σ) (hi : i < n) : F_X1_roomsOf (nI i) σ = some (nI (pR row (wi i)), σ) := by
  have hn := hW.1
  unfold F_X1_roomsOf
  have a2 : F_X8_at 9 (nI (wi i)) (2 : Int32) σ = some (pl row (wi i) 2, σ) := at_pl (j := 2) hT (hW.2.1 i hi) (by decide)
  rw [if_pos (inB_n (by omega) (by omega)), nI_clamp (by omega), hC.2 i hi, a2, bd_some]
  exact congrArg (fun v => some (v, σ)) (hB.p.2.2 (wi i) (hW.2.1 i hi)).2.2.1.1.1
theorem F_isDone {row : Nat → Int32} {k : Int32} {s : Nat → Option Nat} {b w p : Nat} {R : Nat → Nat → Int32} {σ : AH} (hN : nP row ≤ 30) (hp : p < nP row) (h : SiI row k s b w R σ) : F_X7_isDone b (nI p) σ = some (if R 144 p = 3 then 1 else 0, σ) := by
  unfold F_X7_isDone
  have g : gI σ (b + 5) p = R 144 p := by rw [h.1.2.2.1 p hp, up_ne _ _ _ (by decide)]
  obtain ⟨e, l4⟩ := (h.2.1 p (by omega)).1
  rw [if_pos (inB_n (by omega) (by omega)), nI_clamp (by omega), g, e, show (3 : Int32) = nI 3 from rfl]
  by_cases c : cl (R 144 p) = 3
  · rw [c, if_neg (nI_nlt (Nat.le_refl _) (by decide)), if_pos rfl]
  · rw [if_pos (nI_lt (by omega) (by decide)), if_neg (fun q => c ((nI_eq (by omega) (by decide)).mp q))]
theorem housed_loop {row : Nat → Int32} {k : Int32} {s : Nat → Option Nat} {b w n g : Nat} {wi : Nat → Nat} {R : Nat → Nat → Int32} {σ : AH} (hB : BV row) (hW : WiV row n wi) (hT : TbB row σ) (hC : CwI n wi σ) (h : SiI row k s b w R σ) : ∀ (j i : Nat), i + j = n → F_X1_housedIn_4 (j + 1 + g) b (nI (hoN row wi R i)) (nI i) σ = some (nI (hoN row wi R n), σ) := by
  have hn := hW.1
  intro j
  induction j with
  | zero =>
    intro i hi
    rw [show 0 + 1 + g = g + 1 by omega]
    show B_X1_housedIn_4 (F_X1_housedIn_4 g) b (nI (hoN row wi R i)) (nI i) σ = _
    unfold B_X1_housedIn_4
    rw [hC.1, if_pos (nI_le (by omega) (by omega)), show i = n by omega]
  | succ j ih =>
    intro i hi
    rw [show j + 1 + 1 + g = (j + 1 + g) + 1 by omega]
    show B_X1_housedIn_4 (F_X1_housedIn_4 (j + 1 + g)) b (nI (hoN row wi R i)) (nI i) σ = _
    unfold B_X1_housedIn_4 F_X1_housedIn_35
    have hlt : i < n := by omega
    have hwi := hW.2.1 i hlt
    have e : hoN row wi R (i + 1) = hoN row wi R i + (if R 144 (wi i) = 3 then pR row (wi i) else 0) := rfl
    have ih' := ih (i + 1) (by omega)
    rw [e] at ih'
    rw [hC.1, if_neg (nI_ge hlt (by omega)), if_pos (inB_n (by omega) (by omega)), nI_clamp (by omega), hC.2 i hlt, F_isDone hB.p.2.1 hwi h, bd_b (α := Int32), nI_1]
    by_cases c : R 144 (wi i) = 3
    · rw [if_pos c, F_roomsOfC hB hW hT hC hlt, bd_some, nI_add]
      rw [if_pos c] at ih'; exact ih'
    · rw [if_neg c, show nI (hoN row wi R i) + (0 : Int32) = nI (hoN row wi R i + 0) from nI_add _ 0]
      rw [if_neg c] at ih'; exact ih'
theorem F_housedIn {row : Nat → Int32} {k : Int32} {s : Nat → Option Nat} {b w n : Nat} {wi : Nat → Nat} {R : Nat → Nat → Int32} {σ : AH} (hB : BV row) (hW : WiV row n wi) (hT : TbB row σ) (hC : CwI n wi σ) (h : SiI row k s b w R σ) : F_X1_housedIn b σ = some (nI (hoN row wi R n), σ) := by
  have hn := hW.1
  unfold F_X1_housedIn
  obtain ⟨g, hg⟩ := BIGe n (by omega)
  rw [hg]
  exact housed_loop hB hW hT hC h n 0 (by omega)
theorem shells_loop {row : Nat → Int32} {k : Int32} {s : Nat → Option Nat} {b w n g : Nat} {wi : Nat → Nat} {R : Nat → Nat → Int32} {σ : AH} (hB : BV row) (hW : WiV row n wi) (hC : CwI n wi σ) (h : SiI row k s b w R σ) : ∀ (j i : Nat), i + j = n → F_X1_shellsIn_4 (j + 1 + g) b (nI (shN wi R i)) (nI i) σ = some (nI (shN wi R n), σ) := by
  have hn := hW.1
  have b30 := hB.p.2.1
  intro j
  induction j with
  | zero =>
    intro i hi
    rw [show 0 + 1 + g = g + 1 by omega]
    show B_X1_shellsIn_4 (F_X1_shellsIn_4 g) b (nI (shN wi R i)) (nI i) σ = _
    unfold B_X1_shellsIn_4
    rw [hC.1, if_pos (nI_le (by omega) (by omega)), show i = n by omega]
  | succ j ih =>
    intro i hi
    rw [show j + 1 + 1 + g = (j + 1 + g) + 1 by omega]
    show B_X1_shellsIn_4 (F_X1_shellsIn_4 (j + 1 + g)) b (nI (shN wi R i)) (nI i) σ = _
    unfold B_X1_shellsIn_4 F_X1_shellsIn_31
    have hlt : i < n := by omega
    have hwi := hW.2.1 i hlt
    have e : shN wi R (i + 1) = shN wi R i + (if ¬ (3 : Int32) ≤ R 144 (wi i) ∧ R 148 (3 * wi i) ≠ -1 then 1 else 0) := rfl
    have ih' := ih (i + 1) (by omega)
    rw [e] at ih'
    have g8 : gI σ (b + 8) (3 * wi i) = R 148 (3 * wi i) := by rw [h.1.2.2.2.2.1 _ (by omega), up_ne _ _ _ (by decide)]
    have m3 : nI (wi i) * (3 : Int32) = nI (3 * wi i) := by simp only [fa_lit, pk_mul]; rw [Nat.mul_comm]
    obtain ⟨e4, l4⟩ := (h.2.1 (wi i) (by omega)).1
    have sh : F_X7_isShell b (nI (wi i)) σ = some (if ¬ (3 : Int32) ≤ R 144 (wi i) ∧ R 148 (3 * wi i) ≠ -1 then 1 else 0, σ) := by
      unfold F_X7_isShell
      rw [F_isDone b30 hwi h, bd_b (α := Int32), m3, if_pos (inB_n (by omega) (by omega)), nI_clamp (by omega), g8]
      by_cases c : R 144 (wi i) = 3
      · rw [if_pos c, if_neg (fun z => z.1 (by rw [c]; exact Int32.le_refl _))]
      · have c3 : ¬ (3 : Int32) ≤ R 144 (wi i) := by
          rw [e4]; exact nI_ge (b := 3) (by
            rcases Nat.lt_or_ge (cl (R 144 (wi i))) 3 with z | z
            · exact z
            · exact absurd (by rw [e4, show cl (R 144 (wi i)) = 3 by omega]; rfl) c) (by decide)
        rw [if_neg c]
        by_cases d : R 148 (3 * wi i) = -1
        · rw [if_pos d, if_neg (fun z => z.2 d)]
        · rw [if_neg d, if_pos ⟨c3, d⟩]
    rw [hC.1, if_neg (nI_ge hlt (by omega)), if_pos (inB_n (by omega) (by omega)), nI_clamp (by omega), hC.2 i hlt, sh, bd_b (α := Int32), nI_1, nI_1]
    by_cases c : ¬ (3 : Int32) ≤ R 144 (wi i) ∧ R 148 (3 * wi i) ≠ -1
    · rw [if_pos c]; rw [if_pos c] at ih'; exact ih'
    · rw [if_neg c, show nI (shN wi R i) + (0 : Int32) = nI (shN wi R i + 0) from nI_add _ 0]
      rw [if_neg c] at ih'; exact ih'
theorem F_shellsIn {row : Nat → Int32} {k : Int32} {s : Nat → Option Nat} {b w n : Nat} {wi : Nat → Nat} {R : Nat → Nat → Int32} {σ : AH} (hB : BV row) (hW : WiV row n wi) (hC : CwI n wi σ) (h : SiI row k s b w R σ) : F_X1_shellsIn b σ = some (nI (shN wi R n), σ) := by
  have hn := hW.1
  unfold F_X1_shellsIn
  obtain ⟨g, hg⟩ := BIGe n (by omega)
  rw [hg]
  exact shells_loop hB hW hC h n 0 (by omega)
def rbN (row : Nat → Int32) (wi r : Nat → Nat) : Nat → Nat := fun n => match n with
  | 0 => 0
  | n + 1 => rbN row wi r n + (if r n = 0 then 0 else pR row (wi n))
theorem F_isAmong {m i : Nat} {σ : AH} (hm : m < 64) (hi : i < 6) : F_X1_isAmong (nI i) (nI m) σ = some (if m.testBit i = true then 1 else 0, σ) := by
  unfold F_X1_isAmong
  have hb := shr_bit (m := m) (c := i) (by omega) (by omega)
  cases c : m.testBit i with
  | false => rw [if_pos (hb.mpr c), if_neg (by decide)]
  | true => rw [if_neg (fun q => by have := hb.mp q; rw [c] at this; cases this), if_pos rfl]
theorem ofAll_loop {row : Nat → Int32} {n g M : Nat} {wi r : Nat → Nat} {σ : AH} (hM : M < 64) (hB : BV row) (hW : WiV row n wi) (hT : TbB row σ) (hC : CwI n wi σ) (hb : ∀ i, i < n → (M.testBit i = true ↔ r i ≠ 0)) : ∀ (j i : Nat), i + j = n → F_X1_roomsOfAll_4 (j + 1 + g) (nI M) (nI (rbN row wi r i)) (nI i) σ = some (nI (rbN row wi r n), σ) := by
  have hn := hW.1
  intro j
  induction j with
  | zero =>
    intro i hi
    rw [show 0 + 1 + g = g + 1 by omega]
    show B_X1_roomsOfAll_4 (F_X1_roomsOfAll_4 g) (nI M) (nI (rbN row wi r i)) (nI i) σ = _
    unfold B_X1_roomsOfAll_4
    rw [hC.1, if_pos (nI_le (by omega) (by omega)), show i = n by omega]
  | succ j ih =>
    intro i hi
    rw [show j + 1 + 1 + g = (j + 1 + g) + 1 by omega]
    show B_X1_roomsOfAll_4 (F_X1_roomsOfAll_4 (j + 1 + g)) (nI M) (nI (rbN row wi r i)) (nI i) σ = _
    unfold B_X1_roomsOfAll_4 F_X1_roomsOfAll_30
    have hlt : i < n := by omega
    have e : rbN row wi r (i + 1) = rbN row wi r i + (if r i = 0 then 0 else pR row (wi i)) := rfl
    have ih' := ih (i + 1) (by omega)
    rw [e] at ih'
    rw [hC.1, if_neg (nI_ge hlt (by omega)), F_isAmong hM (by omega), bd_b (α := Int32), nI_1]
    by_cases c : M.testBit i = true
    · rw [if_pos c, F_roomsOfC hB hW hT hC hlt, bd_some, nI_add]
      rw [if_neg ((hb i hlt).mp c)] at ih'; exact ih'
    · rw [if_neg c, show nI (rbN row wi r i) + (0 : Int32) = nI (rbN row wi r i + 0) from nI_add _ 0]
      rw [if_pos (Classical.byContradiction fun h => c ((hb i hlt).mpr h))] at ih'; exact ih'
theorem F_roomsOfAll {row : Nat → Int32} {n M : Nat} {wi r : Nat → Nat} {σ : AH} (hM : M < 64) (hB : BV row) (hW : WiV row n wi) (hT : TbB row σ) (hC : CwI n wi σ) (hb : ∀ i, i < n → (M.testBit i = true ↔ r i ≠ 0)) : F_X1_roomsOfAll (nI M) σ = some (nI (rbN row wi r n), σ) := by
  have hn := hW.1
  unfold F_X1_roomsOfAll
  obtain ⟨g, hg⟩ := BIGe n (by omega)
  rw [hg]
  exact ofAll_loop hM hB hW hT hC hb n 0 (by omega)
theorem F_putTime {n m t : Nat} {wi r : Nat → Nat} {σ : AH} (hn : n ≤ 6) (hm : m < 64) (ht : t < 3) (h4 : ∀ i, r i < 4) (hC : CwI n wi σ) (hr : CrI n r σ) : ∃ τ, F_X1_putTime (nI t) (nI m) σ = some τ ∧ CrI n (fun i => if m.testBit i = true then t + 1 else if r i ≤ t then r i else 0) τ ∧ Ch [81] [] σ τ := by
  unfold F_X1_putTime
  obtain ⟨g, hg⟩ := BIGe n (by omega)
  rw [hg]
  obtain ⟨f0, hf⟩ : ∃ f0 : Nat → Nat, f0 = fun i => if m.testBit i = true then t + 1 else if r i ≤ t then r i else 0 := ⟨_, rfl⟩
  have fv : ∀ i, f0 i = if m.testBit i = true then t + 1 else if r i ≤ t then r i else 0 := fun i => by rw [hf]
  rw [← hf]
  obtain ⟨τ, t1, t2, t3⟩ := loop_inv (N := n) (g := g) (cs := [81]) (fs := []) (G := fun f x s => F_X1_putTime_2 f (nI t) (nI m) x s) (E := fun s => some s) (P := fun i s => CwI n wi s ∧ ∀ j, j < n → gI s 81 j = nI (if j < i then f0 j else r j)) (fun f i s hi h => by
    obtain ⟨c1, c2⟩ := h
    have q1 : inB (nI i) 6 = true := inB_n (by omega) (by omega)
    have n1 : (nI i).toNatClampNeg = i := nI_clamp (by omega)
    have r4 := h4 i
    have gi : gI s 81 i = nI (r i) := by rw [c2 i hi, if_neg (Nat.lt_irrefl i)]
    have upd : ∀ v : Nat, f0 i = v → (CwI n wi (sI s 81 i (nI v)) ∧ ∀ j, j < n → gI (sI s 81 i (nI v)) 81 j = nI (if j < i + 1 then f0 j else r j)) ∧ Ch [81] [] s (sI s 81 i (nI v)) := fun v hv => by
      have k1 : Ch [81] [] s (sI s 81 i (nI v)) := Ch.sI1 (Or.inr (by simp))
      refine ⟨⟨c1.ch k1 (by simp) (by simp), fun j hj => ?_⟩, k1⟩
      by_cases e : j = i
      · subst e; rw [gI_sI_at, if_pos (Nat.lt_succ_self j), hv]
      · rw [gI_sI_ne e, c2 j hj]
        by_cases y : j < i
        · rw [if_pos y, if_pos (by omega)]
        · rw [if_neg y, if_neg (by omega)]
    show ∃ τ, B_X1_putTime_2 (F_X1_putTime_2 f) (nI t) (nI m) (nI i) s = F_X1_putTime_2 f (nI t) (nI m) (nI (i + 1)) τ ∧ _
    unfold B_X1_putTime_2 F_X1_putTime_47
    rw [c1.1, if_neg (nI_ge hi (by omega)), F_isAmong hm (by omega), bd_b (α := Int32), n1, gi, show nI i + 1 = nI (i + 1) from nI_1 i]
    by_cases c : m.testBit i = true
    · rw [if_pos c, if_pos q1, show nI t + (1 : Int32) = nI (t + 1) from nI_1 t]
      obtain ⟨u1, u2⟩ := upd (t + 1) (by rw [fv, if_pos c])
      exact ⟨_, rfl, u1, u2⟩
    · rw [if_neg c, if_pos q1]
      by_cases d : r i ≤ t
      · rw [if_pos (nI_le d (by omega))]
        refine ⟨s, rfl, ⟨c1, fun j hj => ?_⟩, Ch.rf _⟩
        rw [c2 j hj]
        by_cases e : j = i
        · subst e; rw [if_neg (Nat.lt_irrefl j), if_pos (Nat.lt_succ_self j), fv, if_neg c, if_pos d]
        · by_cases y : j < i
          · rw [if_pos y, if_pos (by omega)]
          · rw [if_neg y, if_neg (by omega)]
      · rw [if_neg (nI_ge (show t < r i by omega) (by omega)), if_pos q1]
        obtain ⟨u1, u2⟩ := upd 0 (by rw [fv, if_neg c, if_neg d])
        exact ⟨sI s 81 i (nI 0), rfl, u1, u2⟩) (fun f s h => by
    show B_X1_putTime_2 (F_X1_putTime_2 f) (nI t) (nI m) (nI n) s = _
    unfold B_X1_putTime_2
    rw [h.1.1, if_pos (nI_le (Nat.le_refl _) (by omega))]) n 0 σ (by omega) ⟨hC, fun j hj => by rw [if_neg (Nat.not_lt_zero j)]; exact hr j hj⟩
  refine ⟨τ, t1, fun j hj => ?_, t3⟩
  rw [t2.2 j hj, if_pos hj]
theorem F_tell {Y : Nat} {σ : AH} (hY : Y < 4096) : ∃ τ, F_X1_tell (nI Y) σ = some τ ∧ (∀ i, i < 6 → gI τ 81 i = nI (Y / 4 ^ i % 4)) ∧ Ch [81] [] σ τ := by
  unfold F_X1_tell
  obtain ⟨g, hg⟩ := BIGe 6 (by omega)
  rw [hg]
  obtain ⟨τ, t1, t2, t3⟩ := loop_inv (N := 6) (g := g) (cs := [81]) (fs := []) (G := fun f x s => F_X1_tell_2 f (nI Y) x s) (E := fun s => some s) (P := fun i s => ∀ j, j < i → gI s 81 j = nI (Y / 4 ^ j % 4)) (fun f i s hi h => by
    have e2 : (2 : Int32) * nI i = nI (2 * i) := by simp only [fa_lit, pk_mul]
    have s3 : (nI Y >>> (nI (2 * i) &&& 31)) &&& (3 : Int32) = nI (Y / 4 ^ i % 4) := by
      rw [pk_shrN (by omega) _ (2 * i) (smod_l (by omega)), pk_andN (Nat.lt_of_le_of_lt (Nat.div_le_self _ _) (by omega)) 2 (by decide), Nat.pow_mul]
    refine ⟨sI s 81 i (nI (Y / 4 ^ i % 4)), ?_, fun j hj => ?_, Ch.sI1 (Or.inr (by simp))⟩
    · show B_X1_tell_2 (F_X1_tell_2 f) (nI Y) (nI i) s = _
      unfold B_X1_tell_2
      rw [fa_lit 6, if_neg (nI_ge hi (by decide)), if_pos (inB_n hi (by decide)), nI_clamp (by omega), e2, s3, nI_1]
    · by_cases e : j = i
      · subst e; rw [gI_sI_at]
      · rw [gI_sI_ne e]; exact h j (by omega)) (fun f s h => by
    show B_X1_tell_2 (F_X1_tell_2 f) (nI Y) (nI 6) s = _
    unfold B_X1_tell_2
    rw [fa_lit 6, if_pos (nI_le (Nat.le_refl _) (by decide))]) 6 0 σ (by omega) (fun j hj => absurd hj (Nat.not_lt_zero j))
  exact ⟨τ, t1, t2, t3⟩
end
