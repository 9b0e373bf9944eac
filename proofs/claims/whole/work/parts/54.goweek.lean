section
theorem RV_gaR {row : Nat → Int32} {w p : Nat} {R : Nat → Nat → Int32} (h : RV_ R) (hp : p < 30) (h3 : cl (R 144 p) < 3) : RV_ (gaR row w p R) := by
  have e144 : gaR1 row p R 144 = R 144 := by unfold gaR1; rw [rU_row (by decide), rU_row (by decide)]
  have R2 : RV_ (gaR1 row p R) := (h.put (by decide) (by decide)).put (by decide) (by decide)
  unfold gaR
  split
  · exact h
  · split
    · exact (RV_fnR R2 hp (by rw [e144]; exact h3)).put (by decide) (by decide)
    · exact R2
theorem to144 {row : Nat → Int32} {k : Int32} {w p : Nat} {R : Nat → Nat → Int32} : toR row k w p R 144 = R 144 := by
  unfold toR; rw [rU_row (by decide), rU_row (by decide), rU_row (by decide), tkS_row (by decide)]
theorem to145 {row : Nat → Int32} {k : Int32} {w p : Nat} {R : Nat → Nat → Int32} : toR row k w p R 145 p = 1 := by
  unfold toR; rw [rU_row (by decide), rU_row (by decide), rU_at]
theorem lt3 {x : Int32} (h : isN x 4) (c : ¬ (3 : Int32) ≤ x) : cl x < 3 := by
  rcases Nat.lt_or_ge (cl x) 3 with q | q
  · exact q
  · exfalso
    apply c
    rw [h.1]
    exact nI_le q (by have := h.2; omega)
theorem RV_gpS {row : Nat → Int32} {k : Int32} {w p : Nat} (hp : p < 30) : ∀ (f : Nat) (R : Nat → Nat → Int32), RV_ R → RV_ (gpS row k w p f R) := by
  intro f
  induction f with
  | zero => intro R h; exact h
  | succ f ih =>
    intro R h
    unfold gpS
    by_cases c3 : (3 : Int32) ≤ R 144 p
    · rw [if_pos c3]; exact h
    · rw [if_neg c3]
      have h3 := lt3 (h p hp).1 c3
      by_cases c0 : R 145 p = 0
      · rw [if_pos c0]
        split
        · split
          · exact ih _ (RV_fnR (RV_toR h) hp (by rw [to144]; exact h3))
          · exact RV_gaR (RV_toR h) hp (by rw [to144]; exact h3)
        · exact h
      · rw [if_neg c0]; exact RV_gaR h hp h3
theorem fn144 {w p : Nat} {R : Nat → Nat → Int32} (h : isN (R 144 p) 4) (h3 : cl (R 144 p) < 3) : cl (fnR w p R 144 p) = cl (R 144 p) + 1 := by
  unfold fnR
  rw [rU_row (by decide), rU_at, h.1, show (1 : Int32) = nI 1 from rfl, nI_add, ← h.1]
  exact nI_clamp (by omega)
theorem plot_loop {row : Nat → Int32} {k : Int32} {w p g : Nat} (hV : AV row) (hB : BV row) (hp : p < nP row) (hw : w < 260) : ∀ (f : Nat) (R : Nat → Nat → Int32) (σ : AH), RV_ R → KI row k σ → RO_ σ R → 3 < cl (R 144 p) + f →
    ∃ τ, F_X12_goPlot_2 (f + 1 + g) (nI p) (nI w) 1 σ = some τ ∧ RO_ τ (gpS row k w p f R) ∧ KI row k τ ∧ Ch GPc NDf σ τ := by
  obtain ⟨p0, p1, p2⟩ := hB.p
  have q1 : inB (nI p) 30 = true := inB_n (by omega) (by omega)
  have n1 : (nI p).toNatClampNeg = p := nI_clamp (by omega)
  intro f
  induction f with
  | zero =>
    intro R σ hR _ _ h
    have := (hR p (by omega)).1.2
    omega
  | succ f ih =>
    intro R σ hR hK hO hf
    have e : F_X12_goPlot_2 (f + 1 + 1 + g) = B_X12_goPlot_2 (F_X12_goPlot_2 (f + 1 + g)) := by rw [show f + 1 + 1 + g = (f + 1 + g) + 1 by omega]; rfl
    have ek : F_X12_goPlot_2 (f + 1 + g) = F_X12_goPlot_2 ((f + g) + 1) := by rw [show f + 1 + g = (f + g) + 1 by omega]
    have st := hO 144 (by decide) (by decide) p (by show p < 30; omega)
    have has := hO 145 (by decide) (by decide) p (by show p < 30; omega)
    have stop : ∀ s, F_X12_goPlot_2 (f + 1 + g) (nI p) (nI w) 0 s = some s := fun s => by
      rw [ek]
      show B_X12_goPlot_2 (F_X12_goPlot_2 (f + g)) (nI p) (nI w) 0 s = _
      unfold B_X12_goPlot_2
      rw [if_pos rfl]
    rw [e]; unfold B_X12_goPlot_2
    rw [if_neg (by decide), if_pos q1, n1, st]
    unfold gpS
    by_cases c3 : (3 : Int32) ≤ R 144 p
    · rw [if_pos c3, if_pos c3]
      exact ⟨σ, rfl, hO, hK, Ch.rf _⟩
    · rw [if_neg c3, if_neg c3, if_pos q1, has]
      have h3 := lt3 (hR p (by omega)).1 c3
      by_cases c0 : R 145 p = 0
      · rw [if_pos c0, if_pos c0]
        unfold F_X12_canTake
        obtain ⟨g1, hg1⟩ := BIGe 5 (by decide)
        obtain ⟨τ, t1, t2, t3⟩ := take_loop (g := g1) (R := R) hV hB hp hw h3 hR 5 0 σ rfl hK hO
        have hO2 : RO_ τ R := hO.ch t3 (by simp [NDc]) (by simp [NDf])
        have t1' : F_X12_canTake_5 BIG (nI p) (nI w) 1 0 σ = some (b2 (ctS row k w p R 5), τ) := by rw [hg1]; exact t1
        have c3' : Ch GPc NDf σ τ := t3.mono (by simp [NDc, GPc]) (by simp [NDf])
        rw [t1', bd_some]
        cases hc : ctS row k w p R 5 with
        | false =>
          rw [if_pos (by decide), if_neg (by decide)]
          unfold F_X12_goPlot_152
          have has2 := hO2 145 (by decide) (by decide) p (by show p < 30; omega)
          rw [if_pos rfl, if_pos q1, n1, has2, if_pos c0, stop]
          exact ⟨τ, rfl, hO2, t2, c3'⟩
        | true =>
          rw [if_neg (by decide), if_pos rfl]
          obtain ⟨τ2, u1, u2, u3, u4⟩ := plot_take (g := g1) (K := F_X12_goPlot_2 (f + 1 + g)) hV hB hp hw h3 hR 5 0 τ rfl t2 hO2
          have u1' := u1
          rw [← hg1] at u1'
          have u1'' : F_X12_goPlot_39 (F_X12_goPlot_2 (f + 1 + g)) BIG (nI p) (nI w) 0 0 τ = _ := u1'
          rw [u1'']
          have hR2 : RV_ (toR row k w p R) := RV_toR hR
          by_cases c6 : toR row k w p R 146 p = 0
          · rw [if_pos c6, if_pos c6]
            obtain ⟨τ3, v1, v2, v3, v4⟩ := F_finish (w := w) (p := p) (by omega) (by rw [to144]; exact h3) hR2 u2
            rw [v1, bv_some]
            unfold F_X12_goPlot_152
            rw [if_neg (by decide)]
            obtain ⟨τ4, w1, w2, w3, w4⟩ := ih (fnR w p (toR row k w p R)) τ3 (RV_fnR hR2 (by omega) (by rw [to144]; exact h3)) (v4 _ _ u3) v2 (by
              rw [fn144 (hR2 p (by omega)).1 (by rw [to144]; exact h3), to144]; omega)
            exact ⟨τ4, w1, w2, w3, ((c3'.trans u4).trans (v3.mono (by simp [GPc]) (by simp))).trans w4⟩
          · rw [if_neg c6, if_neg c6, ek]
            obtain ⟨τ3, v1, v2, v3, v4⟩ := plot_end (f := f + g) hB hp (by rw [to144]; exact h3) hR2 u3 u2 to145
            exact ⟨τ3, v1, v2, v3, (c3'.trans u4).trans v4⟩
      · rw [if_neg c0, if_neg c0, ek]
        exact plot_end (f := f + g) hB hp h3 hR hK hO ((hR p (by omega)).2.resolve_left c0)
theorem F_goPlot {row : Nat → Int32} {k : Int32} {w p : Nat} {R : Nat → Nat → Int32} {σ : AH} (hV : AV row) (hB : BV row) (hp : p < nP row) (hw : w < 260) (hR : RV_ R) (hK : KI row k σ) (hO : RO_ σ R) :
    ∃ τ, F_X12_goPlot (nI p) (nI w) σ = some τ ∧ RO_ τ (gpR row k w p R) ∧ KI row k τ ∧ Ch GPc NDf σ τ := by
  unfold F_X12_goPlot
  obtain ⟨g, hg⟩ := BIGe 4 (by decide)
  rw [hg]
  exact plot_loop hV hB hp hw 4 R σ hR hK hO (by omega)
/-! INSERTION into a row: lists are read from the last place to the first -/
def LRv (A : Nat → Int32) (off : Nat) (r : List Nat) : Prop := ∀ i, i < r.length → A (off + i) = nI (r.getD (r.length - 1 - i) 0)
def insR (ah : Nat → Bool) (p : Nat) : List Nat → List Nat := fun r => match r with
  | [] => [p]
  | x :: t => if ah x = true then x :: insR ah p t else p :: x :: t
theorem insR_len {ah : Nat → Bool} {p : Nat} (r : List Nat) : (insR ah p r).length = r.length + 1 := by
  induction r with
  | nil => rfl
  | cons x t ih => unfold insR; split <;> simp [ih]
theorem insR_mem {ah : Nat → Bool} {p : Nat} (r : List Nat) : ∀ x, x ∈ insR ah p r → x = p ∨ x ∈ r := by
  induction r with
  | nil => intro x h; exact Or.inl (List.mem_singleton.mp h)
  | cons y t ih =>
    intro x h
    unfold insR at h
    split at h
    · rcases List.mem_cons.mp h with q | q
      · exact Or.inr (q ▸ List.mem_cons_self)
      · exact (ih x q).elim Or.inl (fun z => Or.inr (List.mem_cons_of_mem _ z))
    · rcases List.mem_cons.mp h with q | q
      · exact Or.inl q
      · exact Or.inr q
theorem LRv.top {A : Nat → Int32} {off x : Nat} {t : List Nat} (h : LRv A off (x :: t)) : A (off + t.length) = nI x := by
  have := h t.length (by simp)
  rw [this]; simp
theorem LRv.tail {A : Nat → Int32} {off x : Nat} {t : List Nat} (h : LRv A off (x :: t)) : LRv A off t := fun i hi => by
  have := h i (by simp; omega)
  rw [this]
  have e : (x :: t).length - 1 - i = (t.length - 1 - i) + 1 := by simp; omega
  rw [e, List.getD_cons_succ]
theorem ins_gen {α : Type} {cell off p g N lim : Nat} {ah : Nat → Bool} {G : Nat → Nat → AH → α} {E : Nat → AH → α} {P : AH → Prop}
    (h0 : ∀ f σ, P σ → G (f + 1) 0 σ = E 0 σ)
    (hstop : ∀ f k σ x, P σ → k + 1 ≤ lim → gI σ cell (off + k) = nI x → x < N → ah x = false → G (f + 1) (k + 1) σ = E (k + 1) σ)
    (hgo : ∀ f k σ x, P σ → k + 1 ≤ lim → gI σ cell (off + k) = nI x → x < N → ah x = true → G (f + 1) (k + 1) σ = G f k (sI σ cell (off + k + 1) (nI x)))
    (hP : ∀ σ j v, P σ → P (sI σ cell j v)) :
    ∀ (r s : List Nat) (σ : AH), P σ → r.length + s.length ≤ lim → (∀ x, x ∈ r → x < N) → LRv (gI σ cell) off r → (∀ j, j < s.length → gI σ cell (off + r.length + s.length - j) = nI (s.getD j 0)) →
      ∃ k' σ', G (r.length + 1 + g) r.length σ = E k' σ' ∧ k' ≤ r.length ∧ P σ' ∧ LRv (va_up (gI σ' cell) (off + k') (nI p)) off (s ++ insR ah p r) ∧ Ch [cell] [] σ σ' := by
  intro r
  induction r with
  | nil =>
    intro s σ hPs hl hN hA hS
    refine ⟨0, σ, ?_, Nat.le_refl _, hPs, ?_, Ch.rf _⟩
    · show G (0 + 1 + g) 0 σ = _
      rw [show 0 + 1 + g = g + 1 by omega]; exact h0 g σ hPs
    · intro i hi
      have hlen : (s ++ insR ah p []).length = s.length + 1 := by simp [insR]
      rw [hlen] at hi ⊢
      by_cases e : i = 0
      · subst e
        rw [up_same]
        show nI p = nI ((s ++ [p]).getD (s.length + 1 - 1 - 0) 0)
        have : s.length + 1 - 1 - 0 = s.length := by omega
        rw [this]; simp [List.getD]
      · rw [up_ne _ _ _ (by omega)]
        have hj := hS (s.length - i) (by omega)
        have e2 : off + ([] : List Nat).length + s.length - (s.length - i) = off + i := by simp; omega
        rw [e2] at hj
        rw [hj]
        show _ = nI ((s ++ [p]).getD (s.length + 1 - 1 - i) 0)
        have e3 : s.length + 1 - 1 - i = s.length - i := by omega
        rw [e3]
        have : s.length - i < s.length := by omega
        simp only [List.getD, List.getElem?_append_left this]
  | cons x t ih =>
    intro s σ hPs hl hN hA hS
    have hlen : (x :: t).length = t.length + 1 := rfl
    have hx := hN x List.mem_cons_self
    have htop := hA.top
    rw [hlen] at hl
    rw [hlen, show t.length + 1 + 1 + g = (t.length + 1 + g) + 1 by omega]
    cases ha : ah x with
    | false =>
      refine ⟨t.length + 1, σ, hstop _ _ _ x hPs (by omega) htop hx ha, Nat.le_refl _, hPs, ?_, Ch.rf _⟩
      have ei : insR ah p (x :: t) = p :: x :: t := by unfold insR; rw [ha]; rfl
      rw [ei]
      intro i hi
      have hn : (s ++ p :: x :: t).length = s.length + 2 + t.length := by simp; omega
      rw [hn] at hi ⊢
      by_cases e : i = t.length + 1
      · subst e
        rw [up_same]
        have : s.length + 2 + t.length - 1 - (t.length + 1) = s.length := by omega
        rw [this]; simp [List.getD]
      · rw [up_ne _ _ _ (by omega)]
        by_cases c : i < t.length + 1
        · rw [hA i (by rw [hlen]; omega)]
          have e1 : s.length + 2 + t.length - 1 - i = s.length + (t.length + 1 - i) := by omega
          rw [e1]
          have e2 : (s ++ p :: x :: t).getD (s.length + (t.length + 1 - i)) 0 = (p :: x :: t).getD (t.length + 1 - i) 0 := by
            simp only [List.getD]
            rw [List.getElem?_append_right (by omega)]
            congr 2
            omega
          rw [e2, hlen]
          have e3 : t.length + 1 - i = (t.length + 1 - 1 - i) + 1 := by omega
          rw [e3, List.getD_cons_succ]
        · have hj := hS (s.length + 1 + t.length - i) (by omega)
          have e2 : off + (x :: t).length + s.length - (s.length + 1 + t.length - i) = off + i := by rw [hlen]; omega
          rw [e2] at hj
          rw [hj]
          have e3 : s.length + 2 + t.length - 1 - i = s.length + 1 + t.length - i := by omega
          rw [e3]
          have : s.length + 1 + t.length - i < s.length := by omega
          simp only [List.getD, List.getElem?_append_left this]
    | true =>
      rw [hgo _ _ _ x hPs (by omega) htop hx ha]
      have ei : insR ah p (x :: t) = x :: insR ah p t := by rw [insR]; rw [ha]; rfl
      obtain ⟨k', σ', g1, g2, g3, g4, g5⟩ := ih (s ++ [x]) (sI σ cell (off + t.length + 1) (nI x)) (hP _ _ _ hPs) (by simp; omega) (fun y hy => hN y (List.mem_cons_of_mem _ hy)) (fun i hi => by
        rw [gI_sI_ne (by omega)]; exact hA.tail i hi) (fun j hj => by
        have hsl : (s ++ [x]).length = s.length + 1 := by simp
        rw [hsl] at hj ⊢
        by_cases e : j = s.length
        · subst e
          have : off + t.length + (s.length + 1) - s.length = off + t.length + 1 := by omega
          rw [this, gI_sI_at]; simp [List.getD]
        · rw [gI_sI_ne (by omega)]
          have := hS j (by omega)
          rw [hlen] at this
          have e2 : off + t.length + (s.length + 1) - j = off + (t.length + 1) + s.length - j := by omega
          rw [e2, this]
          have hj2 : j < s.length := by omega
          simp only [List.getD, List.getElem?_append_left hj2])
      refine ⟨k', σ', g1, by omega, g3, ?_, (Ch.sI1 (Or.inr (by simp))).trans g5⟩
      rw [ei]
      rw [List.append_assoc] at g4
      exact g4
end
