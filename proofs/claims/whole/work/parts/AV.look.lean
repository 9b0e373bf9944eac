section
/-! the class looks round -/
def dnB (row : Nat → Int32) (k : Int32) (p w : Nat) : Bool := decide (knD row k 0 p ≠ -1) && !decide (nI w < knD row k 0 p)
def loW (row : Nat → Int32) (k : Int32) (p w : Nat) : Int32 := if dnB row k p w = true then (if ceW row k p ≤ nI w then 0 else ceW row k p) else 0
theorem ho_lo {row : Nat → Int32} {k : Int32} {p w : Nat} (hV : AV row) (hW : AW row) (hw : w < 260) : hoB row k p w = !decide (loW row k p w ≤ 0) := by
  unfold loW
  cases hd : dnB row k p w with
  | false =>
    have : hoB row k p w = false := by unfold hoB; rw [← Bool.and_assoc]; unfold dnB at hd; rw [hd]; rfl
    rw [this, if_neg (by decide)]; rfl
  | true =>
    have hd' := hd
    unfold dnB at hd'
    have nk : knD row k 0 p ≠ -1 := of_decide_eq_true (Bool.and_eq_true_iff.mp hd').1
    have : hoB row k p w = !decide (ceW row k p ≤ nI w) := by
      unfold hoB; rw [← Bool.and_assoc, hd', Bool.true_and, decide_eq_decide.mpr (end_same hV hW hw nk)]
    rw [this, if_pos rfl]
    by_cases c : ceW row k p ≤ nI w
    · rw [if_pos c, decide_eq_true c]; rfl
    · rw [if_neg c, decide_eq_false c]
      have : ¬ ceW row k p ≤ 0 := fun z => c (by
        rw [Int32.le_iff_toInt_le] at z ⊢
        rw [nI_toInt (by omega)]
        have : (0 : Int32).toInt = 0 := by decide
        omega)
      rw [decide_eq_false this]
def LKc : List Nat := [31, 32, 33, 120, 121]
/-- what looking round has found of PLOTS below p -/
def LkI (row : Nat → Int32) (n : Nat) (C : Nat → Nat → Int32) (k : Int32) (w p : Nat) (σ : AH) : Prop := ∀ q, q < p → gI σ 120 q = loW row k q w ∧ gI σ 121 q = oI (fsF (inB_ C q w) n 0)
theorem look_loop {row : Nat → Int32} {oc : Nat → Nat → Option (Nat × Nat × Bool × Nat)} {n w a G : Nat} {C : Nat → Nat → Int32} {f : Nat → Int32} {σ : AH} (hA : AV row) (hW : AW row) (hB : BV row) (hE : EV row) (hK : KE row (nI w) (ltK row (nI w))) (ha : a = 44 ∨ a = 56) (hRn : RnI row (ltK row (nI w)) 0 (sw row (ltK row (nI w))) a 260 σ) (hT : TbB row σ) (hY : TbY σ n C) (hV : CyV (nP row) (nE row) n C) (hR : RpC (nP row) n C oc) (hw : w < 260) (hf : ∀ e, e < nE row → gI σ 114 e = f e) (hfv : ∀ e, e < nE row → f e = -1 ∨ ∃ g, g < 60 ∧ f e = nI g) :
    ∀ (j p : Nat) (s0 : AH), p + j = nP row → LwI row s0 → Ch LKc LWf σ s0 → LkI row n C (nI w) w p s0 → ∃ τ, F_X2_lookRound_2 (j + 1 + G) (nI w) a (nI p) s0 = some τ ∧ LwI row τ ∧ LkI row n C (nI w) w (nP row) τ ∧ RfI (nP row) oc f w 0 τ ∧ Ch (LKc ++ [122, 123]) LWf σ τ := by
  have b30 := hB.p.2.1
  have lkT : ∀ s : AH, Ch LKc LWf σ s → TbB row s ∧ TbY s n C := fun s c => ⟨hT.ch c (by simp [LKc]) (by simp [LWf]), TbG.ch hY c (by simp [LKc]) (by simp [LWf])⟩
  intro j
  induction j with
  | zero =>
    intro p s0 hp hL ch hi
    have ep : p = nP row := by omega
    rw [show 0 + 1 + G = G + 1 by omega]
    show ∃ τ, B_X2_lookRound_2 (F_X2_lookRound_2 G) (nI w) a (nI p) s0 = some τ ∧ _
    unfold B_X2_lookRound_2
    obtain ⟨T0, Y0⟩ := lkT s0 ch
    rw [ep] at hi
    obtain ⟨τ, t1, t2, t3⟩ := F_findRoofs (f := f) hB hE T0 Y0 hV hR hw (fun q hq => (hi q hq).2) (fun e he => by rw [ch.rI (by simp [LKc]) (by simp [LWf])]; exact hf e he) hfv
    rw [rows_p T0, bd_some, if_pos (nI_le (by omega) (by omega)), t1, bv_some]
    refine ⟨τ, rfl, hL.ch t3 (by simp) (by simp), fun q hq => ?_, t2, (ch.mono (fun i hi => List.mem_append_left _ hi) (fun q hq => Or.inl hq)).trans (t3.mono (by simp) (by simp))⟩
    rw [t3.rI (by simp) (by simp), t3.rI (by simp) (by simp)]; exact hi q hq
  | succ j ih =>
    intro p s0 hp hL ch hi
    have lp : p < nP row := by omega
    rw [show j + 1 + 1 + G = (j + 1 + G) + 1 by omega]
    show ∃ τ, B_X2_lookRound_2 (F_X2_lookRound_2 (j + 1 + G)) (nI w) a (nI p) s0 = some τ ∧ _
    unfold B_X2_lookRound_2
    obtain ⟨T0, Y0⟩ := lkT s0 ch
    have Rn0 := hRn.keep ch (by rcases ha with h | h <;> simp [LKc, h]) (by rcases ha with h | h <;> simp [LWf, h])
    rw [rows_p T0, bd_some, if_neg (nI_ge lp (by omega)), F_isDoneD hB hK Rn0 lp, bd_some]
    -- what is told of the PLOT
    have fin : ∀ (s1 : AH) (v : Int32), LwI row s1 → Ch LKc LWf σ s1 → LkI row n C (nI w) w p s1 → v = loW row (nI w) p w → ∃ τ, F_X2_lookRound_55 (F_X2_lookRound_2 (j + 1 + G)) (nI w) a (nI p) v (nI p) s1 = some τ ∧ LwI row τ ∧ LkI row n C (nI w) w (nP row) τ ∧ RfI (nP row) oc f w 0 τ ∧ Ch (LKc ++ [122, 123]) LWf σ τ := fun s1 v hL1 ch1 hi1 hv => by
      unfold F_X2_lookRound_55
      have c2 : Ch LKc LWf s1 (sI s1 120 p v) := Ch.sI1 (Or.inr (by simp [LKc]))
      have Y2 := (lkT _ (ch1.trans c2)).2
      rw [if_pos (inB_n (by omega) (by omega)), nI_clamp (by omega), F_stayIn Y2, bd_some, if_pos (inB_n (by omega) (by omega)), nI_1]
      have c3 : Ch LKc LWf (sI s1 120 p v) (sI (sI s1 120 p v) 121 p (oI (fsF (inB_ C p w) n 0))) := Ch.sI1 (Or.inr (by simp [LKc]))
      have c23 : Ch [120, 121] [] s1 (sI (sI s1 120 p v) 121 p (oI (fsF (inB_ C p w) n 0))) := (Ch.sI1 (Or.inr (by simp))).trans (Ch.sI1 (Or.inr (by simp)))
      refine ih (p + 1) _ (by omega) (hL1.ch c23 (by simp) (by simp)) ((ch1.trans c2).trans c3) (fun q hq => ?_)
      rw [gI_sI_row (o := 121) (a := 120) (by decide)]
      by_cases e : q = p
      · rw [e, gI_sI_at, gI_sI_at]; exact ⟨hv, rfl⟩
      · rw [gI_sI_ne e, gI_sI_ne e, gI_sI_row (o := 120) (a := 121) (by decide)]; exact hi1 q (by omega)
    unfold F_X2_lookRound_36
    have z0 : (0 : Int32) ≤ nI w := nI_le (a := 0) (by omega) (by omega)
    cases hd : dnB row (nI w) p w with
    | false =>
      have hd' := hd
      unfold dnB at hd'
      rw [hd', if_pos (show b2 false = 0 from rfl), if_pos z0]
      exact fin s0 0 hL ch hi (by unfold loW; rw [hd, if_neg (by decide)])
    | true =>
      have hd' := hd
      unfold dnB at hd'
      obtain ⟨τ1, u1, u2, u3⟩ := F_endOf hA hW hB hK Rn0 lp T0 hL
      rw [hd', if_neg (show ¬ b2 true = 0 by decide), u1, bd_some]
      have ch1 : Ch LKc LWf σ τ1 := ch.trans (u3.mono (by simp [LWc, LKc]) (fun q hq => Or.inl hq))
      have hi1 : LkI row n C (nI w) w p τ1 := fun q hq => by
        rw [u3.rI (by simp [LWc]) (by simp [LWf]), u3.rI (by simp [LWc]) (by simp [LWf])]; exact hi q hq
      by_cases c : ceW row (nI w) p ≤ nI w
      · rw [if_pos c]
        exact fin τ1 0 u2 ch1 hi1 (by unfold loW; rw [hd, if_pos rfl, if_pos c])
      · rw [if_neg c]
        exact fin τ1 _ u2 ch1 hi1 (by unfold loW; rw [hd, if_pos rfl, if_neg c])
theorem F_lookRound {row : Nat → Int32} {oc : Nat → Nat → Option (Nat × Nat × Bool × Nat)} {n w a : Nat} {C : Nat → Nat → Int32} {f : Nat → Int32} {σ : AH} (hA : AV row) (hW : AW row) (hB : BV row) (hE : EV row) (hK : KE row (nI w) (ltK row (nI w))) (ha : a = 44 ∨ a = 56) (hRn : RnI row (ltK row (nI w)) 0 (sw row (ltK row (nI w))) a 260 σ) (hT : TbB row σ) (hL : LwI row σ) (hY : TbY σ n C) (hV : CyV (nP row) (nE row) n C) (hR : RpC (nP row) n C oc) (hw : w < 260) (hf : ∀ e, e < nE row → gI σ 114 e = f e) (hfv : ∀ e, e < nE row → f e = -1 ∨ ∃ g, g < 60 ∧ f e = nI g) :
    ∃ τ, F_X2_lookRound (nI w) a σ = some τ ∧ LwI row τ ∧ LkI row n C (nI w) w (nP row) τ ∧ RfI (nP row) oc f w 0 τ ∧ Ch (LKc ++ [122, 123]) LWf σ τ := by
  have b30 := hB.p.2.1
  unfold F_X2_lookRound
  obtain ⟨G, hG⟩ := BIGe (nP row) (by omega)
  rw [hG]
  exact look_loop hA hW hB hE hK ha hRn hT hY hV hR hw hf hfv (nP row) 0 σ (by omega) hL (Ch.rf _) (fun q hq => absurd hq (Nat.not_lt_zero q))
theorem F_isFreeC {row : Nat → Int32} {oc : Nat → Nat → Option (Nat × Nat × Bool × Nat)} {n w p : Nat} {C : Nat → Nat → Int32} {k : Int32} {σ : AH} (hA : AV row) (hW : AW row) (hB : BV row) (hR : RpC (nP row) n C oc) (hw : w < 260) (hp : p < nP row) (hn : n ≤ 7830) (h : LkI row n C k w (nP row) σ) : F_X2_isFree (nI p) σ = some (b2 (hoB row k p w && (oc p w).isNone), σ) := by
  have b30 := hB.p.2.1
  unfold F_X2_isFree
  rw [if_pos (inB_n (by omega) (by omega)), nI_clamp (by omega), (h p hp).1, (h p hp).2, ho_lo hA hW hw]
  by_cases c : loW row k p w ≤ 0
  · rw [if_pos c, decide_eq_true c]; rfl
  · rw [if_neg c, if_pos (inB_n (by omega) (by omega)), decide_eq_false c]
    rcases stayIn_oc hR hp hw with ⟨z1, z2⟩ | ⟨s, s1, s2, s3, _⟩
    · rw [z1, z2, show oI none = -1 from rfl, if_pos rfl]; rfl
    · rw [s2, s3, show oI (some s) = nI s from rfl, if_neg (nI_neg1 (by omega))]; rfl
theorem F_isRooflessC {row : Nat → Int32} {oc : Nat → Nat → Option (Nat × Nat × Bool × Nat)} {w g : Nat} {f : Nat → Int32} {σ : AH} (hB : BV row) (hg : g < 60) (h : RfI (nP row) oc f w 0 σ) : F_X2_isRoofless (nI g) σ = some (b2 ((fsF (rfP oc f (nI g) w true) (nP row) 0).isNone && (fsF (rfP oc f (nI g) w false) (nP row) 0).isNone), σ) := by
  have b30 := hB.p.2.1
  have h' := h g hg
  rw [Nat.sub_zero] at h'
  unfold F_X2_isRoofless
  rw [if_pos (inB_n hg (by omega)), nI_clamp (by omega), h'.1, h'.2]
  cases e1 : fsF (rfP oc f (nI g) w true) (nP row) 0 with
  | none =>
    rw [show oI none = -1 from rfl, if_pos rfl, if_pos (inB_n hg (by omega))]
    cases e2 : fsF (rfP oc f (nI g) w false) (nP row) 0 with
    | none => rw [show oI none = -1 from rfl, if_pos rfl]; rfl
    | some s =>
      have := (fsF_some _ _ s e2).2.1
      rw [show oI (some s) = nI s from rfl, if_neg (nI_neg1 (by omega))]; rfl
  | some s =>
    have := (fsF_some _ _ s e1).2.1
    rw [show oI (some s) = nI s from rfl, if_neg (nI_neg1 (by omega))]; rfl
end
