section
/-! LICENCES of the reference, for any STARTS s -/
def sameB (row : Nat → Int32) (s : Nat → Option Nat) (p o : Nat) : Bool := match s o, s p with
  | some a, some b => decide (pC row o = pC row p ∧ pK row o = pK row p ∧ a / 13 = b / 13 ∧ (a < b ∨ (a = b ∧ o < p)))
  | _, _ => false
def ahC (row : Nat → Int32) (s : Nat → Option Nat) (p : Nat) : Nat → Nat := fun m => match m with
  | 0 => 0
  | m + 1 => ahC row s p m + (if sameB row s p m = true then 1 else 0)
theorem ahC_le {row : Nat → Int32} {s : Nat → Option Nat} {p : Nat} : ∀ m, ahC row s p m ≤ m := by
  intro m
  induction m with
  | zero => exact Nat.le_refl _
  | succ m ih => unfold ahC; split <;> omega
def lcQ (row : Nat → Int32) (k : Int32) (kn q : Nat) : Bool × Int64 × Int64 := fd row k (nI q) (stO 0 (nI q)) 4 (nI kn) 0 0
def lic (row : Nat → Int32) (k : Int32) (s : Nat → Option Nat) (p : Nat) : Bool := match s p with
  | none => false
  | some w => if (lcQ row k (pK row p) (w / 13 * 13)).1 = true then decide (¬ aln (lcQ row k (pK row p) (w / 13 * 13)).2.1 ≤ nI (ahC row s p (nP row))) else true
theorem oI_none {x : Option Nat} (h : ∀ w, x = some w → w < 260) : (oI x = -1) ↔ x = none := by
  cases x with
  | none => exact ⟨fun _ => rfl, fun _ => rfl⟩
  | some w => exact ⟨fun e => absurd e (nI_neg1 (by have := h w rfl; omega)), fun e => by cases e⟩
theorem lic_in {row : Nat → Int32} {s : Nat → Option Nat} {p g : Nat} {K : Int32 → AH → Option AH} (hB : BV row) (hs : ∀ p w, s p = some w → w < 260) (hp : p < nP row) {wp : Nat} (hsp : s p = some wp) {σ : AH} (hr : gI σ 125 = row) (ha : ∀ p, p < 30 → gI σ 140 p = oI (s p)) : ∀ (j o : Nat), o + j = nP row → F_X12_license_33 K (j + 1 + g) (nI p) (nI (ahC row s p o)) (nI o) σ = F_X12_license_33 K (0 + 1 + g) (nI p) (nI (ahC row s p (nP row))) (nI (nP row)) σ := by
  obtain ⟨p0, p1, p2⟩ := hB.p
  intro j
  induction j with
  | zero => intro o ho; rw [show o = nP row by omega]
  | succ j ih =>
    intro o ho
    rw [← ih (o + 1) (by omega)]
    have e : F_X12_license_33 K (j + 1 + 1 + g) = B_X12_license_33 K (F_X12_license_33 K (j + 1 + g)) := by rw [show j + 1 + 1 + g = (j + 1 + g) + 1 by omega]; rfl
    rw [e]; unfold B_X12_license_33 F_X12_license_105 F_X12_license_104 F_X12_license_105 F_X12_license_148 F_X12_license_152 F_X12_license_153
    have ho' : o < nP row := by omega
    have q1 : inB (nI o) 30 = true := inB_n (by omega) (by omega)
    have q2 : inB (nI p) 30 = true := inB_n (by omega) (by omega)
    have n1 : (nI o).toNatClampNeg = o := nI_clamp (by omega)
    have n2 : (nI p).toNatClampNeg = p := nI_clamp (by omega)
    have c1 := F_councilOf hB ho' hr
    have c2 := F_councilOf hB hp hr
    have k1 := F_kindOf hB ho' hr
    have k2 := F_kindOf hB hp hr
    have bo : pC row o < 6 := (p2 o ho').1.2
    have bp : pC row p < 6 := (p2 p hp).1.2
    have ko : pK row o < 3 := (p2 o ho').2.1.2
    have kp : pK row p < 3 := (p2 p hp).2.1.2
    have step : ahC row s p (o + 1) = ahC row s p o + (if sameB row s p o = true then 1 else 0) := rfl
    have fin : ∀ (b : Bool) (v : Int32), sameB row s p o = b → v = b2 b → F_X12_license_33 K (j + 1 + g) (nI p) (nI (ahC row s p o) + v) (nI o + 1) σ = F_X12_license_33 K (j + 1 + g) (nI p) (nI (ahC row s p (o + 1))) (nI (o + 1)) σ := by
      intro b v h1 h2
      rw [step, h1, h2, nI_1]
      cases b with
      | false => rw [show b2 false = nI 0 from rfl, nI_add]; rfl
      | true => rw [show b2 true = nI 1 from rfl, nI_add]; rfl
    rw [hr, p0, if_neg (nI_ge ho' (by omega))]
    simp only [q1, q2, n1, n2, c1, c2, k1, k2, bd_some, if_true, ha o (by omega), ha p (by omega), hsp]
    cases hso : s o with
    | none =>
      rw [show oI none = -1 from rfl, if_pos rfl]
      exact fin false _ (by unfold sameB; rw [hso]) rfl
    | some a =>
      have b1 := hs o a hso
      have b2' := hs p wp hsp
      have eo : oI (some a) = nI a := rfl
      have ep : oI (some wp) = nI wp := rfl
      have sb : sameB row s p o = decide (pC row o = pC row p ∧ pK row o = pK row p ∧ a / 13 = wp / 13 ∧ (a < wp ∨ (a = wp ∧ o < p))) := by unfold sameB; rw [hso, hsp]
      have d1 : nI a / (13 : Int32) = nI (a / 13) := pk_div (d := 13) (by omega) (by decide) (by decide)
      have d2 : nI wp / (13 : Int32) = nI (wp / 13) := pk_div (d := 13) (by omega) (by decide) (by decide)
      rw [eo, ep, if_neg (nI_neg1 (by omega)), d1, d2]
      have no : ¬ (pC row o = pC row p ∧ pK row o = pK row p ∧ a / 13 = wp / 13 ∧ (a < wp ∨ (a = wp ∧ o < p))) → F_X12_license_33 K (j + 1 + g) (nI p) (nI (ahC row s p o) + 0) (nI o + 1) σ = F_X12_license_33 K (j + 1 + g) (nI p) (nI (ahC row s p (o + 1))) (nI (o + 1)) σ := fun h => fin false _ (by rw [sb]; exact decide_eq_false h) rfl
      have yes : (pC row o = pC row p ∧ pK row o = pK row p ∧ a / 13 = wp / 13 ∧ (a < wp ∨ (a = wp ∧ o < p))) → F_X12_license_33 K (j + 1 + g) (nI p) (nI (ahC row s p o) + 1) (nI o + 1) σ = F_X12_license_33 K (j + 1 + g) (nI p) (nI (ahC row s p (o + 1))) (nI (o + 1)) σ := fun h => fin true _ (by rw [sb]; exact decide_eq_true h) rfl
      have z1 : (1 : Int32) ≠ 0 := by decide
      by_cases x1 : pC row o = pC row p
      · rw [if_pos (by rw [x1])]
        by_cases x2 : pK row o = pK row p
        · rw [if_pos (by rw [x2])]
          by_cases x3 : a / 13 = wp / 13
          · rw [if_pos (by rw [x3]), if_neg z1]
            by_cases x4 : a < wp
            · rw [if_pos (nI_lt x4 (by omega))]; exact yes ⟨x1, x2, x3, Or.inl x4⟩
            · rw [if_neg (nI_nlt (by omega) (by omega))]
              by_cases x5 : a = wp
              · rw [if_pos (by rw [x5])]
                by_cases x6 : o < p
                · rw [if_neg (nI_ge x6 (by omega))]; exact yes ⟨x1, x2, x3, Or.inr ⟨x5, x6⟩⟩
                · rw [if_pos (nI_le (by omega) (by omega))]; exact no (fun q => by omega)
              · rw [if_neg (fun q => x5 ((nI_eq (by omega) (by omega)).mp q))]; exact no (fun q => by omega)
          · rw [if_neg (fun q => x3 ((nI_eq (by omega) (by omega)).mp q))]
            exact no (fun q => x3 q.2.2.1)
        · rw [if_neg (fun q => x2 ((nI_eq (by omega) (by omega)).mp q))]
          exact no (fun q => x2 q.2.1)
      · rw [if_neg (fun q => x1 ((nI_eq (by omega) (by omega)).mp q))]
        exact no (fun q => x1 q.1)
def LCc : List Nat := [134, 135, 136, 137, 141]
theorem lic_out {row : Nat → Int32} {k : Int32} {s : Nat → Option Nat} {g : Nat} (hV : AV row) (hB : BV row) (hs : ∀ p w, s p = some w → w < 260) : ∀ (j p : Nat) (σ : AH), p + j = nP row → KI row k σ → (∀ p, p < 30 → gI σ 140 p = oI (s p)) → (∀ o, o < p → gI σ 141 o = b2 (lic row k s o)) →
    ∃ τ, F_X12_license_2 (j + 1 + g) (nI p) σ = some τ ∧ (∀ o, o < nP row → gI τ 141 o = b2 (lic row k s o)) ∧ KI row k τ ∧ Ch LCc NDf σ τ := by
  obtain ⟨p0, p1, p2⟩ := hB.p
  intro j
  induction j with
  | zero =>
    intro p σ hp hK ha hl
    have e : F_X12_license_2 (0 + 1 + g) = B_X12_license_2 (F_X12_license_2 g) := by rw [Nat.zero_add, Nat.add_comm]; rfl
    rw [e]; unfold B_X12_license_2
    rw [hK.1, p0, if_pos (nI_le (by omega) (by omega))]
    exact ⟨σ, rfl, fun o ho => hl o (by omega), hK, Ch.rf _⟩
  | succ j ih =>
    intro p σ hp hK ha hl
    have e : F_X12_license_2 (j + 1 + 1 + g) = B_X12_license_2 (F_X12_license_2 (j + 1 + g)) := by rw [show j + 1 + 1 + g = (j + 1 + g) + 1 by omega]; rfl
    rw [e]; unfold B_X12_license_2 F_X12_license_215
    have hp' : p < nP row := by omega
    have q2 : inB (nI p) 30 = true := inB_n (by omega) (by omega)
    have n2 : (nI p).toNatClampNeg = p := nI_clamp (by omega)
    have K1 : KI row k (sI σ 141 p 0) := hK.ch (Ch.sI1 (cs := [141]) (fs := []) (Or.inr (by simp))) (hK.2.2.1.ch (Ch.sI1 (cs := [141]) (fs := []) (Or.inr (by simp))) (by simp) (by simp) (by simp) (by simp)) (by simp) (by simp) (by simp) (by simp) (by simp)
    have a1 : ∀ q, q < 30 → gI (sI σ 141 p 0) 140 q = oI (s q) := fun q hq => by rw [gI_sI_row (by decide)]; exact ha q hq
    have fin : ∀ (σ1 : AH) (v : Int32), KI row k σ1 → (∀ q, q < 30 → gI σ1 140 q = oI (s q)) → Ch LCc NDf σ σ1 → gI σ1 141 p = v → v = b2 (lic row k s p) → (∀ o, o < p → gI σ1 141 o = gI σ 141 o) → ∃ τ, F_X12_license_2 (j + 1 + g) (nI p + 1) σ1 = some τ ∧ (∀ o, o < nP row → gI τ 141 o = b2 (lic row k s o)) ∧ KI row k τ ∧ Ch LCc NDf σ τ := by
      intro σ1 v f1 f2 f3 f4 f5 f6
      rw [nI_1]
      obtain ⟨τ, t1, t2, t3, t4⟩ := ih (p + 1) σ1 (by omega) f1 f2 (fun o ho => by
        by_cases e : o = p
        · subst e; rw [f4, f5]
        · rw [f6 o (by omega)]; exact hl o (by omega))
      exact ⟨τ, t1, t2, t3, f3.trans t4⟩
    rw [hK.1, p0, if_neg (nI_ge hp' (by omega))]
    simp only [q2, n2, if_true, a1 p (by omega)]
    cases hsp : s p with
    | none =>
      rw [show oI none = -1 from rfl, if_pos rfl]
      exact fin _ 0 K1 a1 (Ch.sI1 (Or.inr (by simp [LCc]))) gI_sI_at (by unfold lic; rw [hsp]; rfl) (fun o ho => by rw [gI_sI_ne (by omega)])
    | some w =>
      have bw := hs p w hsp
      rw [show oI (some w) = nI w from rfl, if_neg (nI_neg1 (by omega))]
      obtain ⟨g2, hg2⟩ := BIGe (nP row) (by omega)
      have L := lic_in (K := F_X12_license_2 (j + 1 + g)) (g := g2) hB hs hp' hsp (σ := sI σ 141 p 0) K1.1 a1 (nP row) 0 (by omega)
      rw [show (ahC row s p 0) = 0 from rfl] at L
      have L' : F_X12_license_33 (F_X12_license_2 (j + 1 + g)) (nP row + 1 + g2) (nI p) 0 0 (sI σ 141 p 0) = F_X12_license_33 (F_X12_license_2 (j + 1 + g)) (0 + 1 + g2) (nI p) (nI (ahC row s p (nP row))) (nI (nP row)) (sI σ 141 p 0) := L
      rw [hg2, L']
      have e3 : F_X12_license_33 (F_X12_license_2 (j + 1 + g)) (0 + 1 + g2) = B_X12_license_33 (F_X12_license_2 (j + 1 + g)) (F_X12_license_33 (F_X12_license_2 (j + 1 + g)) g2) := by rw [show 0 + 1 + g2 = g2 + 1 by omega]; rfl
      rw [e3]; unfold B_X12_license_33 F_X12_license_209 F_X12_license_214 F_X12_license_215
      rw [K1.1, p0, if_pos (nI_le (Nat.le_refl _) (by omega)), if_pos q2, n2, a1 p (by omega), hsp, show oI (some w) = nI w from rfl, fa_lit 13, pk_div (by omega) (by omega) (by omega), pk_mul]
      obtain ⟨σ1, s1, s2, s3⟩ := F_setOnly' (r := 0) (w := nI (w / 13 * 13)) (σ := sI σ 141 p 0)
      have K2 : KI row k σ1 := K1.ch s3 (K1.2.2.1.ch s3 (by simp) (by simp) (by simp) (by simp)) (by simp) (by simp) (by simp) (by simp) (by simp)
      rw [s1, bv_some, F_kindOf hB hp' K2.1, bd_some]
      obtain ⟨τ, t1, t2, t3, t4, t5⟩ := F_find8 (h := 4) (kd_ := nI (pK row p)) (sg := 0) (mt := 0) (w := nI (w / 13 * 13)) hV (nI_neg1 (by omega)) K2.1 s2 K2.2.1 K2.2.2.1
      have K3 : KI row k τ := K2.ch t5 t4 (by simp [FDc]) (by simp [FDc]) (by simp [FDc]) (by simp [FDc]) (by simp [FDf])
      have c3 : Ch LCc NDf σ τ := ((Ch.sI1 (Or.inr (by simp [LCc]))).trans (s3.mono (by simp [LCc]) (by simp))).trans (t5.mono (by simp [FDc, LCc]) (by simp [FDf, NDf]))
      have a3 : ∀ q, q < 30 → gI τ 140 q = oI (s q) := fun q hq => by rw [t5.rI (by simp [FDc]) (by simp [FDf]), s3.rI (by simp) (by simp)]; exact a1 q hq
      have l3 : ∀ o, o < p → gI τ 141 o = gI σ 141 o := fun o ho => by rw [t5.rI (by simp [FDc]) (by simp [FDf]), s3.rI (by simp) (by simp), gI_sI_ne (by omega)]
      have el : lic row k s p = if (lcQ row k (pK row p) (w / 13 * 13)).1 = true then decide (¬ aln (lcQ row k (pK row p) (w / 13 * 13)).2.1 ≤ nI (ahC row s p (nP row))) else true := by unfold lic; rw [hsp]
      have end_ : ∀ v : Int32, (v = 0 ∨ v = 1) → v = b2 (lic row k s p) → ∃ τ', F_X12_license_2 (j + 1 + g) (nI p + 1) (sI τ 141 p (vp_nar .boolean v)) = some τ' ∧ (∀ o, o < nP row → gI τ' 141 o = b2 (lic row k s o)) ∧ KI row k τ' ∧ Ch LCc NDf σ τ' := by
        intro v hv he
        have hnar : vp_nar .boolean v = v := by rcases hv with rfl | rfl; exact nar0; exact nar1
        rw [hnar]
        exact fin (sI τ 141 p v) v (K3.ch (Ch.sI1 (cs := [141]) (fs := []) (Or.inr (by simp))) (K3.2.2.1.ch (Ch.sI1 (cs := [141]) (fs := []) (Or.inr (by simp))) (by simp) (by simp) (by simp) (by simp)) (by simp) (by simp) (by simp) (by simp) (by simp)) (fun q hq => by rw [gI_sI_row (by decide)]; exact a3 q hq) (c3.trans (Ch.sI1 (Or.inr (by simp [LCc])))) gI_sI_at he (fun o ho => by rw [gI_sI_ne (by omega)]; exact l3 o ho)
      rw [t1, bd_some]
      simp only [q2, n2, if_true]
      have lq : lcQ row k (pK row p) (w / 13 * 13) = fd row k (nI (w / 13 * 13)) (stO 0 (nI (w / 13 * 13))) 4 (nI (pK row p)) 0 0 := rfl
      cases hb : (fd row k (nI (w / 13 * 13)) (stO 0 (nI (w / 13 * 13))) 4 (nI (pK row p)) 0 0).1 with
      | false =>
        rw [if_pos (by decide)]
        exact end_ 1 (Or.inr rfl) (by rw [el, lq, hb]; rfl)
      | true =>
        rw [if_neg (by decide), F_aln, bd_some, t2]
        by_cases c : aln (fd row k (nI (w / 13 * 13)) (stO 0 (nI (w / 13 * 13))) 4 (nI (pK row p)) 0 0).2.1 ≤ nI (ahC row s p (nP row))
        · rw [if_pos c]
          exact end_ 0 (Or.inl rfl) (by rw [el, lq, hb, if_pos rfl, decide_eq_false (fun q => q c)]; rfl)
        · rw [if_neg c]
          exact end_ 1 (Or.inr rfl) (by rw [el, lq, hb, if_pos rfl, decide_eq_true c]; rfl)
theorem F_license {row : Nat → Int32} {k : Int32} {s : Nat → Option Nat} {σ : AH} (hV : AV row) (hB : BV row) (hs : ∀ p w, s p = some w → w < 260) (hK : KI row k σ) (ha : ∀ p, p < 30 → gI σ 140 p = oI (s p)) : ∃ τ, F_X12_license σ = some τ ∧ (∀ o, o < nP row → gI τ 141 o = b2 (lic row k s o)) ∧ KI row k τ ∧ Ch LCc NDf σ τ := by
  unfold F_X12_license
  obtain ⟨g, hg⟩ := BIGe (nP row) (by have := hB.p.2.1; omega)
  rw [hg, show (0 : Int32) = nI 0 from rfl]
  exact lic_out hV hB hs (nP row) 0 σ (by omega) hK ha (fun o ho => absurd ho (Nat.not_lt_zero o))
end
