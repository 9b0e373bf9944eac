section
/-! what a head can be; what the row after an ACT holds -/
def HdK (C : Cls) : Prop := C.1.1 ≤ 8 ∧ C.1.2.1 ≤ 23 ∧ C.1.2.2.1 ≤ 15 ∧ (C.1.1 ≠ 0 → C.1.2.1 < 3 ∧ C.1.2.2.1 < 3 ∧ C.1.2.2.2 < 5) ∧ ((C.1.1 = 3 ∨ 5 ≤ C.1.1 ∧ C.1.1 ≤ 7) → C.1.2.1 = 0) ∧ (3 ≤ C.1.1 → C.1.2.2.1 = 0) ∧ (2 ≤ C.1.1 → C.1.2.2.2 = 0)
theorem opW_k {L q b b' k : Nat} {tp : Nat → Int32} {u : Bool} (e : opW L tp u q b = (b', some k)) : (u = true → k < (wL q).length) ∧ (u = false → k = 0) := by
  unfold opW at e
  cases u with
  | true =>
    rw [if_pos rfl] at e
    cases hx : ixQ L tp b (wL q) 0 with
    | none => rw [hx] at e; cases e
    | some r =>
      rw [hx] at e
      cases e
      have := ixQ_lt _ _ _ hx
      exact ⟨fun _ => by omega, fun z => by cases z⟩
  | false =>
    rw [if_neg (by decide)] at e
    cases e
    exact ⟨fun z => (by cases z), fun _ => rfl⟩
theorem prEx_k {L v k s m b np b' np' : Nat} {tp : Nat → Int32} {C : Cls} (e : prEx L tp v k s m b np = (b', some (np', C))) : C.1 = (v + 1, k, s, m) := by
  unfold prEx at e
  by_cases c : v = 7
  · rw [if_pos c] at e
    rw [(prTl_hd e).1, c]
  · rw [if_neg c] at e
    rcases hr : prSm L tp 8 b np with ⟨b1, _ | ⟨n1, D⟩⟩
    · rw [hr] at e; cases e
    · rw [hr] at e; exact (prTl_hd e).1
theorem prCl_k {L b np b' np' : Nat} {tp : Nat → Int32} {C : Cls} (e : prCl L tp b np = (b', some (np', C))) : HdK C := by
  unfold prCl at e
  by_cases c : isW L tp b wStr = true
  · rw [if_pos c] at e
    unfold prSk at e
    by_cases c1 : tkT L tp (nxt L tp b) = 2 ∧ tkN L tp (nxt L tp b) ≤ 23
    · rw [if_pos c1] at e
      by_cases c2 : isW L tp (nxt L tp (nxt L tp b)) wCls = true
      · rw [if_pos c2] at e
        by_cases c3 : tkT L tp (nxt L tp (nxt L tp (nxt L tp b))) = 2 ∧ tkN L tp (nxt L tp (nxt L tp (nxt L tp b))) ≤ 15
        · rw [if_pos c3] at e
          cases e
          exact ⟨Nat.zero_le _, c1.2, c3.2, fun z => absurd rfl z, fun z => by simp at z, fun z => absurd (show 3 ≤ 0 from z) (by decide), fun z => absurd (show 2 ≤ 0 from z) (by decide)⟩
        · rw [if_neg c3] at e; cases e
      · rw [if_neg c2] at e; cases e
    · rw [if_neg c1] at e; cases e
  · rw [if_neg c] at e
    cases hx : ixQ L tp b (wL 2) 0 with
    | none => rw [hx] at e; cases e
    | some v =>
      rw [hx] at e
      have hv := ixQ_lt _ _ _ hx
      have l2 : (wL 2).length = 8 := by decide
      have e1 : prKd L tp v (nxt L tp b) np = (b', some (np', C)) := e
      unfold prKd at e1
      rcases h1 : opW L tp (decide (v = 0 ∨ v = 1 ∨ v = 3 ∨ v = 7)) 3 (nxt L tp b) with ⟨b1, _ | k⟩
      · rw [h1] at e1; cases e1
      · rw [h1] at e1
        have e2 : prSg L tp v k b1 np = (b', some (np', C)) := e1
        unfold prSg at e2
        rcases h2 : opW L tp (decide (v = 0 ∨ v = 1)) 4 b1 with ⟨b2, _ | s⟩
        · rw [h2] at e2; cases e2
        · rw [h2] at e2
          have e3 : prMt L tp v k s b2 np = (b', some (np', C)) := e2
          unfold prMt at e3
          rcases h3 : opW L tp (decide (v = 0)) 5 b2 with ⟨b3, _ | m⟩
          · rw [h3] at e3; cases e3
          · rw [h3] at e3
            have e4 : C.1 = (v + 1, k, s, m) := prEx_k e3
            have k1 := opW_k h1
            have k2 := opW_k h2
            have k3 := opW_k h3
            have l3 : (wL 3).length = 3 := by decide
            have l4 : (wL 4).length = 3 := by decide
            have l5 : (wL 5).length = 5 := by decide
            rw [l3] at k1
            rw [l4] at k2
            rw [l5] at k3
            rw [decide_eq_true_iff, decide_eq_false_iff_not] at k1 k2 k3
            unfold HdK
            rw [e4]
            show v + 1 ≤ 8 ∧ k ≤ 23 ∧ s ≤ 15 ∧ (v + 1 ≠ 0 → k < 3 ∧ s < 3 ∧ m < 5) ∧ ((v + 1 = 3 ∨ 5 ≤ v + 1 ∧ v + 1 ≤ 7) → k = 0) ∧ (3 ≤ v + 1 → s = 0) ∧ (2 ≤ v + 1 → m = 0)
            have a1 : k < 3 := by
              by_cases z : v = 0 ∨ v = 1 ∨ v = 3 ∨ v = 7
              · exact k1.1 z
              · rw [k1.2 z]; decide
            have a2 : s < 3 := by
              by_cases z : v = 0 ∨ v = 1
              · exact k2.1 z
              · rw [k2.2 z]; decide
            have a3 : m < 5 := by
              by_cases z : v = 0
              · exact k3.1 z
              · rw [k3.2 z]; decide
            exact ⟨by omega, by omega, by omega, fun _ => ⟨a1, a2, a3⟩, fun z => k1.2 (by omega), fun z => k2.2 (by omega), fun z => k3.2 (by omega)⟩
theorem prTx_k {L : Nat} {tp : Nat → Int32} : ∀ (f cn b np b' : Nat) (Cs : List Cls), prTx L tp f cn b np = (b', some Cs) → ∀ C ∈ Cs, HdK C := by
  intro f
  induction f with
  | zero => intro cn b np b' Cs e; cases e
  | succ f ih =>
    intro cn b np b' Cs e
    rw [prTx_s] at e
    rcases hr : prC L tp cn b np with ⟨b1, _ | ⟨n1, C⟩⟩
    · rw [hr] at e; cases e
    · rw [hr] at e
      have hC : HdK C := by
        unfold prC at hr
        by_cases c : 16 ≤ cn
        · rw [if_pos c] at hr; cases hr
        · rw [if_neg c] at hr; exact prCl_k hr
      have e' : prTx1 L tp f cn b1 n1 C = (b', some Cs) := e
      unfold prTx1 at e'
      by_cases c : isS L tp b1 59 = true
      · rw [if_pos c] at e'
        rcases hr2 : prTx L tp f (cn + 1) (nxt L tp b1) n1 with ⟨b2, _ | Cs2⟩
        · rw [hr2] at e'; cases e'
        · rw [hr2] at e'
          cases e'
          intro D hD
          rcases List.mem_cons.mp hD with rfl | hD
          · exact hC
          · exact ih _ _ _ _ _ hr2 D hD
      · rw [if_neg c] at e'
        by_cases c0 : tkT L tp b1 = 0
        · rw [if_pos c0] at e'
          cases e'
          intro D hD
          rcases List.mem_cons.mp hD with rfl | hD
          · exact hC
          · cases hD
        · rw [if_neg c0] at e'; cases e'
/-! clause by clause -/
theorem ClsR_at {g op ar : Nat → Int32} : ∀ (Cs : List Cls) (cn m m' : Nat), ClsR g op ar Cs cn m m' → m ≤ m' ∧ ∀ c C, Cs[c]? = some C → ∃ i j, m ≤ i ∧ i ≤ j ∧ j ≤ m' ∧ ClQ C g op ar (9 * (cn + c)) i j := by
  intro Cs
  induction Cs with
  | nil => intro cn m m' h; exact ⟨Nat.le_of_eq (show m' = m from h).symm, fun c C e => by simp at e⟩
  | cons D Cs ih =>
    intro cn m m' h
    rw [ClsR_c] at h
    obtain ⟨m1, h1, h2, h3, h4⟩ := h
    obtain ⟨q1, q2⟩ := ih _ _ _ h4
    refine ⟨by omega, fun c C e => ?_⟩
    cases c with
    | zero =>
      rw [List.getElem?_cons_zero] at e
      cases e
      exact ⟨m, m1, Nat.le_refl _, h1, h2, h3⟩
    | succ c =>
      rw [List.getElem?_cons_succ] at e
      obtain ⟨i, j, a1, a2, a3, a4⟩ := q2 c C e
      exact ⟨i, j, by omega, a2, a3, by rw [show cn + (c + 1) = cn + 1 + c by omega]; exact a4⟩
theorem ClsC_at {h s g cd : Nat → Int32} : ∀ (Cs : List Cls) (cn m m' : Nat), ClsC h s g cd Cs cn m m' → m ≤ m' ∧ ∀ c C, Cs[c]? = some C → ∃ i j, m ≤ i ∧ i ≤ j ∧ j ≤ m' ∧ ClC1 C h s g cd (cn + c) i j := by
  intro Cs
  induction Cs with
  | nil => intro cn m m' h; exact ⟨Nat.le_of_eq (show m' = m from h).symm, fun c C e => by simp at e⟩
  | cons D Cs ih =>
    intro cn m m' h
    rw [ClsC_c] at h
    obtain ⟨m1, h1, h2, h3, h4⟩ := h
    obtain ⟨q1, q2⟩ := ih _ _ _ h4
    refine ⟨by omega, fun c C e => ?_⟩
    cases c with
    | zero =>
      rw [List.getElem?_cons_zero] at e
      cases e
      exact ⟨m, m1, Nat.le_refl _, h1, h2, h3⟩
    | succ c =>
      rw [List.getElem?_cons_succ] at e
      obtain ⟨i, j, a1, a2, a3, a4⟩ := q2 c C e
      exact ⟨i, j, by omega, a2, a3, by rw [show cn + (c + 1) = cn + 1 + c by omega]; exact a4⟩
theorem rrun_c1 {op ar st st' : Nat → Int32} {L : Nat} (h : ∀ i, 1 ≤ i → i < 8 → st i = st' i) : ∀ (f k : Nat) (s : List Int64), rrun op ar st L f k s = rrun op ar st' L f k s := by
  intro f k s
  have e : ∀ g : Nat → Int32, ∀ (f k : Nat) (s : List Int64), rrun op ar g L f k s = rrun op ar (fun i => if i = 0 then 0 else g i) L f k s := by
    intro g f
    induction f with
    | zero => intro k s; rfl
    | succ f ih =>
      intro k s
      unfold rrun
      simp only [ih]
      by_cases c1 : L ≤ k
      · rw [if_pos c1, if_pos c1]
      · rw [if_neg c1, if_neg c1]
        by_cases c2 : op k < 8
        · rw [if_pos c2, if_pos c2]
          by_cases c3 : s.length < 400
          · rw [if_pos c3, if_pos c3]
            by_cases c4 : op k = 0
            · rw [if_pos c4, if_pos c4]
            · rw [if_neg c4, if_neg c4]
              by_cases c5 : inB (op k) 8 = true
              · rw [if_pos c5, if_pos c5]
                have n0 : (op k).toNatClampNeg ≠ 0 := fun z => by
                  have := inB_rg.mp c5
                  rw [cl_toInt] at z
                  exact c4 (Int32.toInt_inj.mp (by rw [i0]; omega))
                rw [if_neg n0]
              · rw [if_neg c5, if_neg c5]
          · rw [if_neg c3, if_neg c3]
        · rw [if_neg c2, if_neg c2]
  rw [e st, e st']
  refine rrun_congr (fun i hi => ?_) f k s
  by_cases z : i = 0
  · rw [if_pos z, if_pos z]
  · rw [if_neg z, if_neg z]; exact h i (by omega) hi
end
