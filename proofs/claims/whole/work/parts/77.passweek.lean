section
theorem agN_q {row : Nat → Int32} {s : Nat → Option Nat} {w c kn : Nat} (h : w % 13 = 0) : agN row s w 0 c kn = 0 := by
  unfold agN
  refine cnt_0 _ (fun o ho => ?_)
  unfold agB
  cases s o with
  | none => rfl
  | some a =>
    apply decide_eq_false
    rintro ⟨h1, h2, h3, h4⟩
    omega
theorem usN_week {row : Nat → Int32} {k : Int32} {s : Nat → Option Nat} {w c kn : Nat} (h : ¬ (w + 1) % 13 = 0) : usN row k s (w + 1) 0 c kn = usN row k s w (nP row) c kn := by
  unfold usN
  rw [agN_week, if_neg h, show (w + 1) / 13 = w / 13 by omega]
theorem lin_week {N : Nat} {s : Nat → Option Nat} {lc : Nat → Bool} {w : Nat} : lin N s lc (w + 1) 0 = lin N s lc w N ∧ lin N s lc w N = linW N s lc (w + 1) := by
  unfold lin
  exact ⟨by show linW N s lc w ++ linP s lc w N ++ [] = _; rw [List.append_nil], rfl⟩
theorem LiL.week {row : Nat → Int32} {k : Int32} {s : Nat → Option Nat} {b w : Nat} {σ : AH} (h : LiL row k s b w (nP row) σ) : LiL row k s b (w + 1) 0 σ := by
  obtain ⟨a1, a2, a3⟩ := h
  unfold LiL
  rw [lin_week.1]
  exact ⟨a1, a2, fun p hp => by rw [stB_week hp]; exact a3 p hp⟩
def LiP (row : Nat → Int32) (k : Int32) (s : Nat → Option Nat) (b w : Nat) (σ : AH) : Prop := LiL row k s b w 0 σ ∧ (w % 13 = 0 ∨ LiU row k s b w 0 σ)
theorem F_lineUp {row : Nat → Int32} {k : Int32} {s sy : Nat → Option Nat} {b w : Nat} {σ : AH} (hV : AV row) (hW : AW row) (hB : BV row) (hs : ∀ p w, sy p = some w → w < 260) (hag : ∀ p, p < 30 → (sy p = some w ↔ s p = some w)) (hb : 44 < b ∧ b + 9 < 124) (hw : w < 260) (hY : YK row k σ) (hT : TbB row σ) (hS : YS sy σ) (hP : LiP row k s b w σ) :
    ∃ τ, F_X10_lineUp b (nI w) σ = some τ ∧ LiL row k s b w (nP row) τ ∧ LiP row k s b (w + 1) τ ∧ YK row k τ ∧ Ch (LUc b) (LUf b) σ τ := by
  obtain ⟨g, hg⟩ := BIGe (nP row) (by have := hB.p.2.1; omega)
  have fin : ∀ τ0, YK row k τ0 → TbB row τ0 → YS sy τ0 → LiL row k s b w 0 τ0 → LiU row k s b w 0 τ0 → ∃ τ, F_X10_lineUp_15 b (nI w) τ0 = some τ ∧ LiL row k s b w (nP row) τ ∧ LiP row k s b (w + 1) τ ∧ YK row k τ ∧ Ch (LUc b) (LUf b) τ0 τ := by
    intro τ0 h1 h2 h3 h4 h5
    obtain ⟨τ, t1, t2, t3, t4, t5⟩ := line_loop (g := g) hV hW hB hs hag hb hw (nP row) 0 τ0 (by omega) h1 h2 h3 h4 h5
    refine ⟨τ, ?_, t2, ⟨t2.week, ?_⟩, t4, t5⟩
    · unfold F_X10_lineUp_15
      rw [hg]; exact t1
    · by_cases z : (w + 1) % 13 = 0
      · exact Or.inl z
      · exact Or.inr (fun c kn hc hk => by rw [usN_week z]; exact t3 c kn hc hk)
  have rm : nI w - nI w / (13 : Int32) * (13 : Int32) = nI (w % 13) := pk_rem (d := 13) (by omega) (by decide) (by decide)
  unfold F_X10_lineUp
  rw [rm]
  by_cases z : w % 13 = 0
  · rw [if_pos (by rw [z]; rfl), lt_e]
    have kE : Ch [b + 3] [] σ (sA σ (b + 3) (filln (gI σ (b + 3)) 18 0)) := Ch.sA1 (by simp)
    obtain ⟨τ, t1, t2, t3, t4, t5⟩ := fin _ (hY.site hb kE (by simp)) (hT.site hb kE (by simp)) (hS.ch kE (by simp; omega) (by simp)) (hP.1.ch kE (by simp) (by simp)) (fun c kn hc hk => by
      rw [gI_sA_own]
      unfold filln usN
      rw [if_pos (by omega), agN_q z]
      split
      · rw [Nat.zero_min]; rfl
      · rfl)
    exact ⟨τ, t1, t2, t3, t4, (kE.mono (by simp [LUc]) (by simp)).trans t5⟩
  · have nz : ¬ nI (w % 13) = 0 := fun q => z (by
      have := congrArg cl q
      rw [show cl (nI (w % 13)) = w % 13 from nI_clamp (by omega)] at this
      exact this)
    rw [if_neg nz]
    exact fin σ hY hT hS hP.1 (hP.2.resolve_left z)
theorem jzS_at {R : Nat → Nat → Int32} : ∀ p q, q < p → jzS R p 147 q = 0 := by
  intro p
  induction p with
  | zero => intro q h; omega
  | succ p ih =>
    intro q h
    have e : jzS R (p + 1) = rU (jzS R p) 147 p 0 := rfl
    rw [e]
    by_cases c : q = p
    · subst c; rw [rU_at]
    · rw [rU_ne c]; exact ih q (by omega)
theorem tn0 {row : Nat → Int32} {fi : Int32} (p : Nat) : tnB row fi 0 p = decide (nI (pK row p) = fi) := by
  unfold tnB
  cases decide (nI (pK row p) = fi) <;> rfl
theorem tn1 {row : Nat → Int32} {fi : Int32} (p : Nat) : tnB row fi 1 p = !decide (nI (pK row p) = fi) := by
  unfold tnB
  cases decide (nI (pK row p) = fi) <;> rfl
/-- the two turns are the reference's week, given what the week begins with -/
theorem turns_gw {row : Nat → Int32} {k fi : Int32} {s : Nat → Option Nat} {lc : Nat → Bool} {w : Nat} {R R1 : Nat → Nat → Int32} (hN : nP row ≤ 30) (hs : ∀ p w, s p = some w → w < 260) (h144 : R1 144 = R 144) :
    ((linW (nP row) s lc (w + 1)).filter (tnB row fi 0) ++ (linW (nP row) s lc (w + 1)).filter (tnB row fi 1)).Pairwise (fun x y => x ≠ y) ∧
    ((linW (nP row) s lc (w + 1)).filter (tnB row fi 1)).foldl (fun R p => svR row k w p R) (((linW (nP row) s lc (w + 1)).filter (tnB row fi 0)).foldl (fun R p => svR row k w p R) R1) = gwF row k w (ordS row s lc R w fi (nP row)).reverse R1 := by
  have hl := linW_sorted (s := s) (lc := lc) hN (w + 1)
  have hl' : (linW (nP row) s lc (w + 1)).Pairwise (fun x y => x ≠ y) := hl.imp (fun h e => by rw [e] at h; omega)
  have pw : ((linW (nP row) s lc (w + 1)).filter (tnB row fi 0) ++ (linW (nP row) s lc (w + 1)).filter (tnB row fi 1)).Pairwise (fun x y => x ≠ y) := by
    refine List.pairwise_append.mpr ⟨hl'.filter _, hl'.filter _, fun x hx y hy e => ?_⟩
    have h1 := (List.mem_filter.mp hx).2
    have h2 := (List.mem_filter.mp hy).2
    rw [← e, tn1] at h2
    rw [tn0] at h1
    rw [h1] at h2; cases h2
  refine ⟨pw, ?_⟩
  have f0 : (linW (nP row) s lc (w + 1)).filter (tnB row fi 0) = (linW (nP row) s lc (w + 1)).filter (fun p => decide (nI (pK row p) = fi)) := List.filter_congr (fun x _ => tn0 x)
  have f1 : (linW (nP row) s lc (w + 1)).filter (tnB row fi 1) = (linW (nP row) s lc (w + 1)).filter (fun p => !decide (nI (pK row p) = fi)) := List.filter_congr (fun x _ => tn1 x)
  rw [← List.foldl_append, sv_fold _ R1 R pw (fun x _ => by rw [h144]), turns_ord hN hs, f0, f1]
  congr 1
  refine List.filter_congr (fun x hx => ?_)
  have hm : x ∈ linW (nP row) s lc (w + 1) := by
    rcases List.mem_append.mp hx with q | q
    · exact (List.mem_filter.mp q).1
    · exact (List.mem_filter.mp q).1
  obtain ⟨m1, ⟨a, m2, m3⟩, m4⟩ := (linW_mem _ x).mp hm
  unfold onP
  rw [m3]
  show decide _ = decide _
  apply decide_eq_decide.mpr
  exact ⟨fun h => ⟨by omega, h.2, m4, h.1⟩, fun h => ⟨h.2.2.2, h.2.1⟩⟩
end
