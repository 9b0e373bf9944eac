section
def YdS (row : Nat → Int32) (k : Int32) (l : Nat) (s : Nat → Option Nat) (σ : AH) : Prop := YK row k σ ∧ TbB row σ ∧ AR row k (nI l) (gI σ 35) (nD row) ∧ (∀ w c, w < 260 → c < 6 → gI σ 36 (w * 6 + c) = gg row k (nI c) (nI w)) ∧ YS s σ
/-- a SITE ahead of WEEK w -/
def SiI (row : Nat → Int32) (k : Int32) (s : Nat → Option Nat) (b w : Nat) (R : Nat → Nat → Int32) (σ : AH) : Prop := StR row b (va_up R 143 (gI σ 37)) σ ∧ RV_ R ∧ WI R ∧ BgI row b R σ ∧ LiP row k s b w σ
def PWc (b : Nat) : List Nat := [b + 1, b + 2, b + 3, b + 4, b + 5, b + 6, b + 7, b + 8, b + 9, 31, 32, 33, 37, 40, 41, 42, 43]
def PWf (b : Nat) : List (Nat × Nat) := [(28, 6), (b, 2)]
theorem StR_of {row : Nat → Int32} {b : Nat} {X R2 : Nat → Nat → Int32} {σ τ : AH} (hS : StR row b X σ) (h1 : ∀ m, m < 5 → gI τ (b + 1) m = R2 142 m) (h2 : ∀ c, c < 6 → gI τ 37 c = R2 143 c) (h5 : ∀ c, c = 5 ∨ c = 6 ∨ c = 8 ∨ c = 9 → gI τ (b + c) = gI σ (b + c)) (hR : ∀ c, 144 ≤ c → c ≠ 147 → R2 c = X c) : StR row b R2 τ := by
  obtain ⟨_, _, s3, s4, s5, s6⟩ := hS
  refine ⟨h1, h2, ?_, ?_, ?_, ?_⟩
  · rw [h5 5 (by simp), hR 144 (by decide) (by decide)]; exact s3
  · rw [h5 6 (by simp), hR 145 (by decide) (by decide), hR 146 (by decide) (by decide)]; exact s4
  · rw [h5 8 (by simp), hR 148 (by decide) (by decide)]; exact s5
  · rw [h5 9 (by simp), hR 149 (by decide) (by decide)]; exact s6
theorem LiP.ch {row : Nat → Int32} {k : Int32} {s : Nat → Option Nat} {b w : Nat} {σ τ : AH} {cs : List Nat} {fs : List (Nat × Nat)} (h : LiP row k s b w σ) (c : Ch cs fs σ τ) (h1 : b ∉ cs ∧ b + 2 ∉ cs ∧ b + 3 ∉ cs ∧ b + 4 ∉ cs) (h2 : ∀ q ∈ fs, q.1 ≠ b ∧ q.1 ≠ b + 2 ∧ q.1 ≠ b + 3 ∧ q.1 ≠ b + 4) : LiP row k s b w τ :=
  ⟨h.1.ch c ⟨h1.1, h1.2.1, h1.2.2.2⟩ (fun q hq => ⟨(h2 q hq).1, (h2 q hq).2.1, (h2 q hq).2.2.2⟩), h.2.imp id (fun z => z.ch c h1.2.2.1 (fun q hq => (h2 q hq).2.2.1))⟩
theorem F_passWeek2 {row : Nat → Int32} {k : Int32} {l : Nat} {s sy : Nat → Option Nat} {b w : Nat} {R : Nat → Nat → Int32} {σ : AH} (hV : AV row) (hW : AW row) (hB : BV row) (hs : ∀ p w, s p = some w → w < 260) (hsy : ∀ p w, sy p = some w → w < 260) (hag : ∀ p, p < 30 → (sy p = some w ↔ s p = some w)) (hb : 44 < b ∧ b + 9 < 124) (hw : w < 260) (hD : YdS row k l sy σ) (hI : SiI row k s b w R σ) :
    ∃ τ, F_X10_passWeek b (nI w) σ = some τ ∧ YdS row k l sy τ ∧ SiI row k s b (w + 1) (gwR row k (nI l) s (lic row k s) w R) τ ∧ (∀ x, x ∈ linW (nP row) s (lic row k s) (w + 1) → pL row x ≤ w → BgP b (gwR row k (nI l) s (lic row k s) w R) x τ) ∧
      (∀ i, gI τ (b + 7) i = gI σ (b + 7) i ∨ (gI σ (b + 7) i = -1 ∧ gI τ (b + 7) i = nI w)) ∧ Ch (PWc b) (PWf b) σ τ := by
  obtain ⟨p0, p1, p2⟩ := hB.p
  have hN : nP row ≤ 30 := by omega
  obtain ⟨hY, hT, hA, hG, hS⟩ := hD
  obtain ⟨hSt, hR, hWI, hBg, hLi⟩ := hI
  obtain ⟨τ0, t1, t2, t3⟩ := pass_head (s := R 142) hB hb hw hT hA (fun m hm => by have := hSt.1 m hm; rw [up_ne _ _ _ (by decide)] at this; exact this)
  have Y0 := hY.site hb t3 (by simp)
  have T0 := hT.site hb t3 (by simp)
  have S0 : YS sy τ0 := hS.ch t3 (by simp; omega) (by simp)
  have P0 : LiP row k s b w τ0 := hLi.ch t3 (by simp) (by simp)
  obtain ⟨τ1, u1, u2, u3, u4, u5⟩ := F_lineUp hV hW hB hsy hag hb hw Y0 T0 S0 P0
  have c1 : Ch (PWc b) (PWf b) σ τ1 := (t3.mono (by simp [PWc]) (by simp)).trans (u5.mono (by simp [LUc, PWc]) (by simp [LUf, PWf]))
  have T1 : TbB row τ1 := T0.ch u5 (by simp [LUc]; omega) (by simp [LUf]; omega)
  have S1 : YS sy τ1 := S0.ch u5 (by simp [LUc]; omega) (by simp [LUf]; omega)
  have row1 : ∀ c, (c = 5 ∨ c = 6 ∨ c = 7 ∨ c = 8 ∨ c = 9) → gI τ1 (b + c) = gI σ (b + c) := fun c hc => by
    rw [u5.rI (by simp [LUc]; omega) (by simp [LUf]; omega), t3.rI (by simp; omega) (by simp)]
  have st1 : gI τ1 (b + 1) = gI τ0 (b + 1) := u5.rI (by simp [LUc]; omega) (by simp [LUf]; omega)
  have e35 : gI τ1 35 = gI σ 35 := c1.rI (by simp [PWc]; omega) (by simp [PWf]; omega)
  have e36 : gI τ1 36 = gI σ 36 := c1.rI (by simp [PWc]; omega) (by simp [PWf]; omega)
  -- what the week begins with in the reference
  obtain ⟨R1, hR1⟩ : ∃ R1, R1 = jzS (va_up (va_up R 142 (wkS row (nI w) (dvS row k (nI l) (nI w) (R 142) (nD row)) (nW row))) 143 (fun c => gg row k (nI c) (nI w))) (nP row) := ⟨_, rfl⟩
  have eG : gwR row k (nI l) s (lic row k s) w R = gwF row k w (ordS row s (lic row k s) R w (firstV row k w) (nP row)).reverse R1 := by rw [hR1]; rfl
  have r142 : R1 142 = wkS row (nI w) (dvS row k (nI l) (nI w) (R 142) (nD row)) (nW row) := by rw [hR1, jzS_row (by decide), up_ne _ _ _ (by decide), up_same]
  have r143 : R1 143 = fun c => gg row k (nI c) (nI w) := by rw [hR1, jzS_row (by decide), up_same]
  have rrow : ∀ c, 144 ≤ c → c ≠ 147 → R1 c = R c := fun c h1 h2 => by rw [hR1, jzS_row h2, up_ne _ _ _ (by omega), up_ne _ _ _ (by omega)]
  have r147 : ∀ x, x < nP row → R1 147 x = 0 := fun x hx => by rw [hR1]; exact jzS_at _ _ hx
  have RV1 : RV_ R1 := fun p hp => by rw [rrow 144 (by decide) (by decide), rrow 145 (by decide) (by decide)]; exact hR p hp
  have WI1 : WI R1 := fun p hp => by rw [rrow 145 (by decide) (by decide), rrow 146 (by decide) (by decide)]; exact hWI p hp
  obtain ⟨pw, eT⟩ := turns_gw (k := k) (fi := firstV row k w) (s := s) (lc := lic row k s) (w := w) (R := R) (R1 := R1) hN hs (rrow 144 (by decide) (by decide))
  rw [← eT] at eG
  obtain ⟨L, hL⟩ : ∃ L, L = linW (nP row) s (lic row k s) (w + 1) := ⟨_, rfl⟩
  have eL : lin (nP row) s (lic row k s) w (nP row) = L := by rw [hL]; exact lin_week.2
  rw [← hL] at pw eT eG ⊢
  have lenL : L.length ≤ nP row := by
    have := lin_len (s := s) (lc := lic row k s) w (nP row) (Nat.le_refl _)
    rw [eL] at this; rw [this]; exact cnt_le _
  have l2 : gI τ1 b 2 = nI L.length := by have := u2.1; rw [eL] at this; exact this
  have la : ∀ i, i < L.length → gI τ1 (b + 2) i = nI (L.getD i 0) := by have := u2.2.1; rw [eL] at this; exact this
  have mem : ∀ x, x ∈ L → x < nP row := fun x hx => by rw [hL] at hx; exact ((linW_mem _ x).mp hx).1
  rw [t1]; unfold pwT
  rw [u1, bv_some, l2]
  by_cases z : L.length = 0
  · have L0 : L = [] := List.eq_nil_of_length_eq_zero z
    rw [L0] at eG
    have eG' : gwR row k (nI l) s (lic row k s) w R = R1 := eG
    rw [if_pos (by rw [z]; rfl), eG']
    refine ⟨τ1, rfl, ⟨u4, T1, by rw [e35]; exact hA, by rw [e36]; exact hG, S1⟩, ⟨?_, RV1, WI1, ?_, u3⟩, fun x hx => by rw [L0] at hx; exact absurd hx (by simp), fun i => Or.inl (by rw [row1 7 (by simp)]), c1⟩
    · refine StR_of hSt (fun m hm => ?_) (fun c hc => ?_) (fun c hc => row1 c (by omega)) (fun c h1 h2 => ?_)
      · rw [st1, up_ne _ _ _ (by decide), r142]; exact t2 m hm
      · rw [up_same]
      · rw [up_ne _ _ _ (by omega), up_ne _ _ _ (by omega)]; exact rrow c h1 h2
    · exact hBg.of (fun q hq => by rw [rrow 144 (by decide) (by decide)]; exact Nat.le_refl _) (fun q hq s hs hc => by rw [row1 7 (by simp)])
  · have nz : ¬ nI L.length = 0 := fun q => z (by
      have := congrArg cl q
      rw [show cl (nI L.length) = L.length from nI_clamp (by omega)] at this
      exact this)
    have i6 : nI w * (6 : Int32) = nI (w * 6) := by simp only [fa_lit, pk_mul]
    have n6 : (nI (w * 6)).toNatClampNeg = w * 6 := nI_clamp (by omega)
    have nn6 : ¬ nI (w * 6) < 0 := fun q => by
      have h := Int32.lt_iff_toInt_lt.mp q
      rw [nI_toInt (by omega)] at h
      have e0 : (0 : Int32).toInt = 0 := by decide
      omega
    rw [if_neg nz, i6, n6, if_pos nn6, if_pos (by omega), if_pos (by decide), lt_e]
    have kE : Ch [37] [] τ1 (sA τ1 37 (va_cpy (gI τ1 36) (gI τ1 37) (w * 6) 0 6)) := Ch.sA1 (by simp)
    have Y2 := u4.site hb kE (by simp)
    obtain ⟨τ3, v1, v2, v3⟩ := F_firstKind (w := w) hV hW Y2 hw
    rw [v1, bd_some, first_eq hV hW]
    have T2 := T1.site hb kE (by simp)
    have T3 : TbB row τ3 := T2.ch v3 (by simp) (by simp)
    have S3 : YS sy τ3 := (S1.ch kE (by simp) (by simp)).ch v3 (by simp) (by simp)
    have c3 : Ch [31, 32, 33, 37, 41] [(28, 6)] τ1 τ3 := (kE.mono (by simp) (by simp)).trans (v3.mono (by simp) (by simp))
    have row3 : ∀ c, (c = 1 ∨ c = 2 ∨ c = 3 ∨ c = 4 ∨ c = 5 ∨ c = 6 ∨ c = 7 ∨ c = 8 ∨ c = 9) → gI τ3 (b + c) = gI τ1 (b + c) := fun c hc => c3.rI (by simp; omega) (by simp; omega)
    have g37 : ∀ c, c < 6 → gI τ3 37 c = gg row k (nI c) (nI w) := fun c hc => by
      rw [v3.rI (by simp) (by simp), gI_sA_own]
      unfold va_cpy
      rw [if_pos ⟨by omega, by omega⟩, e36, Nat.sub_zero]; exact hG w c hw hc
    have I3 : SvI row k b R1 τ3 := by
      refine ⟨v2, T3, ?_, RV1, WI1, ?_⟩
      · refine StR_of hSt (fun m hm => ?_) (fun c hc => ?_) (fun c hc => ?_) (fun c h1 h2 => ?_)
        · rw [row3 1 (by simp), st1, r142]; exact t2 m hm
        · rw [r143]; exact g37 c hc
        · rw [row3 c (by omega), row1 c (by omega)]
        · rw [up_ne _ _ _ (by omega)]; exact rrow c h1 h2
      · exact hBg.of (fun q hq => by rw [rrow 144 (by decide) (by decide)]; exact Nat.le_refl _) (fun q hq s hs hc => by rw [row3 7 (by simp), row1 7 (by simp)])
    obtain ⟨g, hg⟩ := BIGe 2 (by decide)
    obtain ⟨g', hg'⟩ := BIGe L.length (by omega)
    have l3 : gI τ3 b 2 = nI L.length := by rw [c3.rI (by simp; omega) (by simp; omega)]; exact l2
    have la3 : ∀ i, i < L.length → gI τ3 (b + 2) i = nI (L.getD i 0) := by rw [row3 2 (by simp)]; exact la
    obtain ⟨τ4, x1, x2, x3, x4, x5, x6⟩ := turn_loop (g := g') (t := 0) (fi := firstV row k w) (K := F_X10_passWeek_121 (1 + 1 + g)) hV hW hB hb hw (by omega) (by omega) mem L [] [] R1 τ3 rfl (List.pairwise_append.mp pw).1 l3 la3 (fun x hx _ => r147 x hx) (fun x hx => absurd hx (by simp)) I3
    have l4 : gI τ4 b 2 = nI L.length := by rw [x6.pI (by simp [SVc]; omega) (by simp [SVf])]; exact l3
    have la4 : ∀ i, i < L.length → gI τ4 (b + 2) i = nI (L.getD i 0) := by rw [x6.rI (by simp [SVc]; omega) (by simp [SVf]; omega)]; exact la3
    obtain ⟨τ5, y1, y2, y3, y4, y5, y6⟩ := turn_loop (g := g') (t := 1) (fi := firstV row k w) (K := F_X10_passWeek_121 (0 + 1 + g)) hV hW hB hb hw (by omega) (by omega) mem L [] (L.filter (tnB row (firstV row k w) 0)) _ τ4 rfl pw l4 la4 (fun x hx hS' => x3 x hx (by simpa using hS')) (fun x hx => x4 x (by simpa using hx)) x2
    have run : F_X10_passWeek_121 BIG b (nI w) (firstV row k w) (0 : Int32) τ3 = some τ5 := by
      have s0 : F_X10_passWeek_121 (2 + 1 + g) = B_X10_passWeek_121 (F_X10_passWeek_121 (1 + 1 + g)) := by rw [show 2 + 1 + g = (1 + 1 + g) + 1 by omega]; rfl
      have s1 : F_X10_passWeek_121 (1 + 1 + g) = B_X10_passWeek_121 (F_X10_passWeek_121 (0 + 1 + g)) := by rw [show 1 + 1 + g = (0 + 1 + g) + 1 by omega]; rfl
      have s2 : F_X10_passWeek_121 (0 + 1 + g) = B_X10_passWeek_121 (F_X10_passWeek_121 g) := by rw [show 0 + 1 + g = g + 1 by omega]; rfl
      rw [hg, s0]; unfold B_X10_passWeek_121
      rw [if_neg (by decide), hg']
      refine x1.trans ?_
      rw [s1]; unfold B_X10_passWeek_121
      rw [show nI 0 + 1 = nI 1 from nI_1 0, if_neg (by decide), hg']
      refine y1.trans ?_
      rw [s2]; unfold B_X10_passWeek_121
      rw [show nI 1 + 1 = nI 2 from nI_1 1, if_pos (by decide)]
    rw [run, eG]
    have c5 : Ch (SVc b) SVf τ3 τ5 := x6.trans y6
    obtain ⟨Y5, T5, St5, RV5, WI5, Bg5⟩ := y2
    have e35' : gI τ5 35 = gI σ 35 := by rw [c5.rI (by simp [SVc]; omega) (by simp [SVf]), c3.rI (by simp) (by simp)]; exact e35
    have e36' : gI τ5 36 = gI σ 36 := by rw [c5.rI (by simp [SVc]; omega) (by simp [SVf]), c3.rI (by simp) (by simp)]; exact e36
    have S5 : YS sy τ5 := S3.ch c5 (by simp [SVc]; omega) (by simp [SVf])
    refine ⟨τ5, rfl, ⟨Y5, T5, by rw [e35']; exact hA, by rw [e36']; exact hG, S5⟩, ⟨?_, RV5, WI5, Bg5, ?_⟩, ?_, ?_, ?_⟩
    · refine StR_of St5 (fun m hm => ?_) (fun c hc => ?_) (fun c hc => rfl) (fun c h1 h2 => ?_)
      · rw [up_ne _ _ _ (by decide)]; exact St5.1 m hm
      · rw [up_same]
      · rw [up_ne _ _ _ (by omega)]
    · exact (u3.ch c3 (by simp; omega) (by simp; omega)).ch c5 (by simp [SVc]; omega) (by simp [SVf]; omega)
    · intro x hx hl
      refine y4 x ?_ hl
      rcases hc : decide (nI (pK row x) = firstV row k w) with _ | _
      · exact List.mem_append_right _ (List.mem_filter.mpr ⟨hx, by rw [tn1, hc]; rfl⟩)
      · exact List.mem_append_left _ (List.mem_filter.mpr ⟨hx, by rw [tn0, hc]⟩)
    · intro i
      have e7 : gI τ3 (b + 7) = gI σ (b + 7) := by rw [row3 7 (by simp), row1 7 (by simp)]
      rcases x5 i with a | ⟨a1, a2⟩ <;> rcases y5 i with d | ⟨d1, d2⟩
      · exact Or.inl (by rw [d, a, e7])
      · exact Or.inr ⟨by rw [← e7, ← a]; exact d1, d2⟩
      · exact Or.inr ⟨by rw [← e7]; exact a1, d.trans a2⟩
      · exact Or.inr ⟨by rw [← e7]; exact a1, d2⟩
    · exact c1.trans ((c3.mono (by simp [PWc]) (by simp [PWf])).trans (c5.mono (by simp [SVc, PWc]) (by simp [SVf, PWf])))
theorem F_passWeek {row : Nat → Int32} {k : Int32} {l : Nat} {s : Nat → Option Nat} {b w : Nat} {R : Nat → Nat → Int32} {σ : AH} (hV : AV row) (hW : AW row) (hB : BV row) (hs : ∀ p w, s p = some w → w < 260) (hb : 44 < b ∧ b + 9 < 124) (hw : w < 260) (hD : YdS row k l s σ) (hI : SiI row k s b w R σ) :
    ∃ τ, F_X10_passWeek b (nI w) σ = some τ ∧ YdS row k l s τ ∧ SiI row k s b (w + 1) (gwR row k (nI l) s (lic row k s) w R) τ ∧ (∀ x, x ∈ linW (nP row) s (lic row k s) (w + 1) → pL row x ≤ w → BgP b (gwR row k (nI l) s (lic row k s) w R) x τ) ∧
      (∀ i, gI τ (b + 7) i = gI σ (b + 7) i ∨ (gI σ (b + 7) i = -1 ∧ gI τ (b + 7) i = nI w)) ∧ Ch (PWc b) (PWf b) σ τ :=
  F_passWeek2 hV hW hB hs hs (fun _ _ => Iff.rfl) hb hw hD hI
end
