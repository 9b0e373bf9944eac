section
/-! act in the class, all of it -/
theorem arrC.g {σ τ : AH} {b k n h : Nat} {P : Nat → Prop} (hA : arrC σ b k n h) (f : Gf P σ τ) (hb : ¬ P b) (hbx : b < nx σ) : arrC τ b k n h := ⟨by rw [(f.2.2 b hbx hb).2.2]; exact hA.1, by rw [f.2.1 h hA.2.2.1]; exact hA.2.1, Nat.lt_of_lt_of_le hA.2.2.1 f.1, hA.2.2.2⟩
theorem ActC.g {row : Nat → Int32} {σ τ : AH} {a b : Nat} {P : Nat → Prop} (h : ActC row σ a b) (f : Gf P σ τ) (hb : ¬ P b) (hq : ∀ j h, gR σ b j = some h → ¬ P h) : ActC row τ a b := by
  obtain ⟨⟨k1, k2, k3⟩, ⟨g0, g1, g2⟩, hh, s, g, d, L, a3, a4, a5, a6, hL, hc⟩ := h
  have eb := f.2.2 b k2 hb
  have e3 := f.2.2 hh a3.2.2.1 (hq _ _ a3.1)
  have e4 := f.2.2 s a4.2.2.1 (hq _ _ a4.1)
  have e5 := f.2.2 g a5.2.2.1 (hq _ _ a5.1)
  have e6 := f.2.2 d a6.2.2.1 (hq _ _ a6.1)
  refine ⟨⟨by rw [f.2.1 b k2]; exact k1, Nat.lt_of_lt_of_le k2 f.1, k3⟩, ⟨by rw [eb.1]; exact g0, by rw [eb.1]; exact g1, by rw [eb.1]; exact g2⟩, hh, s, g, d, L, a3.g f hb k2, a4.g f hb k2, a5.g f hb k2, a6.g f hb k2, hL, fun c hcc => ?_⟩
  rw [e3.1, e4.1, e5.1, e6.1]
  exact hc c hcc
def ActF (m : Nat) (σ τ : AH) : Prop := (nx τ = nx σ + 5 ∧ sl τ ≤ sl σ + 455) ∧ gI τ 22 1 = 0 ∧ gI τ 0 10 = 0 ∧ gI τ 0 12 = gI σ 0 12 + 1 ∧ (∀ k, k ≠ 10 → k ≠ 12 → gI τ 0 k = gI σ 0 k) ∧ (∀ k, k ≠ 1 → gI τ 1 k = gI σ 1 k) ∧ (gR τ 0 = gR σ 0 ∧ gR τ 1 = gR σ 1 ∧ ∀ i, 22 ≤ i → i < 31 → gR τ i = gR σ i) ∧ (∀ k, k ≠ m → gR τ 2 k = gR σ 2 k) ∧ gR τ 2 m = some (nx σ) ∧ (∀ j h, gR τ (nx σ) j = some h → nx σ < h ∧ h < nx σ + 5) ∧ Gf (fun i => i ∈ [0, 1, 2, 22, 28, 29, 30]) σ τ
theorem C_act67 {row : Nat → Int32} {σ : AH} {x1 x2 : Int32} {Cs : List Cls} {sz : Nat} {O : Nat → Nat} (hV : AV row) (hW : AW row) (hA : ActsC row σ) (hO : Ow O σ) (hS : Sh σ) (n24 : nA row < 24) (hk : ∀ C ∈ Cs, HdK C) (h16 : Cs.length ≤ 16) (e2 : gI σ 22 2 = nI Cs.length) (e7 : gI σ 22 7 = nI sz) (hsz : sz ≤ 400) (hC : ClsC (gI σ 24) (gI σ 25) (gI σ 26) (gI σ 27) Cs 0 0 sz) (hex : ∃ r, AcR row r x1 x2 Cs) : ∃ τ, F_X11_act_67 x1 x2 0 σ = some (nI (nA row), τ) ∧ (∀ row', AcR row row' x1 x2 Cs → LwI row' τ) ∧ ActF (nA row) σ τ := by
  have hx := hS.1
  obtain ⟨n, hn⟩ : ∃ n, n = nx σ := ⟨_, rfl⟩
  obtain ⟨s0, hs0⟩ : ∃ s0, s0 = sI σ 22 1 0 := ⟨_, rfl⟩
  have N0 : nx s0 = n := by rw [hs0, hn]; rfl
  have I0 : ∀ i, i ≠ 22 → gI s0 i = gI σ i := fun i hi => by rw [hs0, gI_sI_row hi]
  obtain ⟨s1, hs1⟩ : ∃ s1, s1 = aw s0 0 (NO 0) := ⟨_, rfl⟩
  have N1 : nx s1 = n + 1 := by rw [hs1, nx_aw, N0]
  have K1 : ∀ i, i < n → kd s1 i = kd σ i := fun i hi => by rw [hs1, kd_aw_old (by omega), hs0]; rfl
  have I1 : ∀ i, i < n → gI s1 i = gI s0 i := fun i hi => by rw [hs1, gI_aw_old (by omega)]
  have G1 : ∀ i, i < n → gR s1 i = gR σ i := fun i hi => by rw [hs1, gR_aw_old (by omega), hs0]; rfl
  have L1 : ∀ i, i < n → gL s1 i = gL σ i := fun i hi => by rw [hs1, gL_aw_old (by omega), hs0]; rfl
  have kk : ∀ i v, i < 166 → shKL.getD i (0, 0) = v → kd s1 i = v := fun i v hi e => by rw [K1 i (by omega), hS.2.1 i hi, e]
  obtain ⟨c4, u1, u2, u3, u4, u5, u6, u7, u8, u9, u10, u11, u12⟩ := F_newAct (σ := s1) (n := n) (k := Cs.length) (sz := sz) (x1 := x1) (x2 := x2) N1 (by rw [hs1, ← N0, kd_aw_new]) (by omega) (kk 24 _ (by decide) rfl) (kk 25 _ (by decide) rfl) (kk 26 _ (by decide) rfl) (kk 27 _ (by decide) rfl) (by rw [I1 22 (by omega), hs0, gI_sI_ne (by decide)]; exact e2) h16 (by rw [I1 22 (by omega), hs0, gI_sI_ne (by decide)]; exact e7) hsz (by rw [hs1, ← N0, gR_aw_new])
  obtain ⟨m, hm⟩ : ∃ m, m = nA row := ⟨_, rfl⟩
  have e11 : gI s0 1 1 = nI m := by rw [I0 1 (by decide), hm]; exact hA.1
  obtain ⟨s5, hs5⟩ : ∃ s5, s5 = sR c4 2 m (some n) := ⟨_, rfl⟩
  obtain ⟨s6, hs6⟩ : ∃ s6, s6 = sI s5 1 1 (nI (m + 1)) := ⟨_, rfl⟩
  have N6 : nx s6 = n + 5 := by rw [hs6, hs5]; exact u2
  have K6 : ∀ i, kd s6 i = kd c4 i := fun i => by rw [hs6, hs5]; rfl
  have I6 : ∀ i, i ≠ 1 → gI s6 i = gI c4 i := fun i hi => by rw [hs6, gI_sI_row hi, hs5]; rfl
  have R6 : ∀ i, i ≠ 2 → gR s6 i = gR c4 i := fun i hi => by rw [hs6, gR_sI, hs5, gR_sR_row hi]
  have A6 : ∀ i k q, i ≠ 2 → arrC c4 i k q = arrC s6 i k q := fun i k q hi => by unfold arrC; funext h; rw [R6 i hi, K6, N6, u2]
  have R62 : ∀ k, gR s6 2 k = if k = m then some n else gR σ 2 k := fun k => by
    rw [hs6, gR_sI, hs5, gR_sR_own]
    by_cases z : k = m
    · rw [if_pos z, z, up_same]
    · rw [if_neg z, up_ne _ _ _ z, (u4 2 (by omega)).2.2.2, G1 2 (by omega)]
  have f6 : Gf (fun i => i ∈ [1, 2, 22]) σ s6 := ⟨by omega, fun i hi => by rw [K6, (u4 i (by omega)).1, K1 i (by omega)], fun i hi hp => by
    simp only [List.mem_cons, List.not_mem_nil, or_false, not_or] at hp
    exact ⟨by rw [I6 i hp.1, (u4 i (by omega)).2.1, I1 i (by omega), I0 i hp.2.2], by rw [hs6, gL_sI, hs5, gL_sR, (u4 i (by omega)).2.2.1, L1 i (by omega)], by rw [R6 i hp.2.1, (u4 i (by omega)).2.2.2, G1 i (by omega)]⟩⟩
  have acts : ∀ row', AcR row row' x1 x2 Cs → ActsC row' s6 := fun row' hR => by
    refine ⟨by rw [hs6, gI_sI_at, hR.n n24, hm], fun a ha => ?_⟩
    rw [hR.n n24] at ha
    rcases Nat.lt_or_ge a (nA row) with z | z
    · obtain ⟨b, b1, b2⟩ := hA.2 a z
      obtain ⟨o1, o2, o3, o4⟩ := hO.2.2 a b (by omega) b1
      refine ⟨b, by rw [R62, if_neg (by omega)]; exact b1, (hR.old z).actC (hV.2.2 a z).2 (b2.g f6 (by simp; omega) (fun j h e => ?_))⟩
      have := o4 j h e
      simp; omega
    · have e : a = nA row := by omega
      subst e
      refine ⟨n, by rw [R62, if_pos hm.symm], ActC_new (b1 := n + 1) (b2 := n + 2) (b3 := n + 3) (b4 := n + 4) (sz := sz) hR hk ⟨by rw [K6]; exact u5, by omega, by omega⟩ (by rw [I6 n (by omega)]; exact u6.1) (by rw [I6 n (by omega)]; exact u6.2.1) (by rw [I6 n (by omega)]; exact u6.2.2) (by rw [← A6 n _ _ (by omega)]; exact u7) (by rw [← A6 n _ _ (by omega)]; exact u8) (by rw [← A6 n _ _ (by omega)]; exact u9) (by rw [← A6 n _ _ (by omega)]; exact u10) hsz ?_⟩
      have q24 : ∀ i, 24 ≤ i → i ≤ 27 → gI s1 i = gI σ i := fun i h1 h2 => by rw [I1 i (by omega), I0 i (by omega)]
      rw [I6 _ (by omega), I6 _ (by omega), I6 _ (by omega), I6 _ (by omega), u11.1, u11.2.1, u11.2.2.1, u11.2.2.2, q24 24 (by decide) (by decide), q24 25 (by decide) (by decide), q24 26 (by decide) (by decide), q24 27 (by decide) (by decide)]
      refine ClsC.cg Cs 0 0 sz hC (fun t ht => ?_) (fun t ht => ?_)
      · unfold cpF; rw [if_pos (by omega), if_pos (by omega), if_pos (by omega)]; exact ⟨rfl, rfl, rfl⟩
      · unfold cpF; rw [if_pos (by omega)]
  obtain ⟨r0, hr0⟩ := hex
  obtain ⟨s7, w1, w2, w3⟩ := F_reread (hr0.av hV n24 hk) (hr0.aw hV hW n24 hk) (acts r0 hr0)
  obtain ⟨s8, hs8⟩ : ∃ s8, s8 = sI (sI s7 0 12 (gI s7 0 12 + 1)) 0 10 0 := ⟨_, rfl⟩
  have k8 : Ch [] [(0, 12), (0, 10)] s7 s8 := by rw [hs8]; exact (Ch.sI1 (Or.inl (by simp))).trans (Ch.sI1 (Or.inl (by simp)))
  have k68 : Ch [29, 30] [(28, 6), (0, 12), (0, 10)] s6 s8 := (w3.mono (by simp) (by simp)).trans (k8.mono (by simp) (by simp))
  have z0 : ∀ k, gI s6 0 k = gI σ 0 k := fun k => by rw [(f6.2.2 0 (by omega) (by simp)).1]
  have z1 : ∀ k, k ≠ 1 → gI s6 1 k = gI σ 1 k := fun k hk => by rw [hs6, gI_sI_ne hk, hs5, gI_sR, (u4 1 (by omega)).2.1, I1 1 (by omega), I0 1 (by decide)]
  refine ⟨s8, ?_, fun row' hR => ?_, ⟨?_, ?_⟩, ?_, ?_, ?_, fun k h1 h2 => ?_, fun k h1 => ?_, ⟨?_, ?_, fun i h1 h2 => ?_⟩, fun k h1 => ?_, ?_, fun j h e => ?_, ?_⟩
  · unfold F_X11_act_67
    rw [if_pos rfl, ← hs0, lt_e, N0, ← hs1, u1, bv_some, e11, nI_clamp (by omega), if_pos (inB_n (by omega) (by decide)), if_pos shOK_2, lt_e, ← hs5, nI_1, ← hs6, w1, bv_some, F_answer, bd_some, imin0, if_pos (show (0 : Int32) ≤ nI m from nI_le (a := 0) (by omega) (by omega)), ← hs8, hm]
  · obtain ⟨s7', v1, v2, v3⟩ := F_reread (hR.av hV n24 hk) (hR.aw hV hW n24 hk) (acts row' hR)
    rw [w1] at v1
    cases v1
    obtain ⟨l1, l2, l3⟩ := v2
    refine ⟨l1.ch k8 (by simp) (by simp), ?_, ?_⟩
    · unfold CS at l2 ⊢; rw [k8.rI (i := 28) (by simp) (by simp), k8.rI (i := 31) (by simp) (by simp)]; exact l2
    · unfold ChnOK at l3 ⊢; rw [k8.rI (i := 29) (by simp) (by simp), k8.rI (i := 30) (by simp) (by simp)]; exact l3
  · rw [k68.2.1, N6, hn]
  · rw [k68.2.2.1, hs6, sl_sI, hs5, sl_sR, u3, hs1, sl_aw, hs0, sl_sI]; show sl σ + 7 + _ ≤ _; omega
  · rw [k68.pI (by simp) (by simp), I6 22 (by decide), (u4 22 (by omega)).2.1, I1 22 (by omega), hs0, gI_sI_at]
  · rw [hs8, gI_sI_at]
  · rw [hs8, gI_sI_ne (by decide), gI_sI_at, w3.pI (by simp) (by simp), z0]
  · rw [k68.pI (by simp) (by simp; omega), z0]
  · rw [k68.pI (by simp) (by simp), z1 k h1]
  · rw [k68.2.2.2.1, R6 0 (by decide), (u4 0 (by omega)).2.2.2, G1 0 (by omega)]
  · rw [k68.2.2.2.1, R6 1 (by decide), (u4 1 (by omega)).2.2.2, G1 1 (by omega)]
  · rw [k68.2.2.2.1, R6 i (by omega), (u4 i (by omega)).2.2.2, G1 i (by omega)]
  · rw [k68.2.2.2.1, R62, if_neg (by omega)]
  · rw [k68.2.2.2.1, R62, if_pos hm.symm, hn]
  · rw [k68.2.2.2.1, ← hn, R6 n (by omega)] at e
    have := u12 j h e
    omega
  · refine (f6.mono (by simp)).trans (k68.gf.mono (fun i hi => ?_))
    simp only [List.mem_cons, List.not_mem_nil, or_false, Prod.mk.injEq] at hi ⊢
    omega
end
