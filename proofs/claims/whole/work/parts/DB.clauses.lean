section
/-! CLAUSES: what is read, for both -/
abbrev Cls : Type := (Nat × Nat × Nat × Nat) × Option Den × Option Den
def wIf : List Int32 := [105, 102]
def wStr : List Int32 := [115, 116, 114, 105, 107, 101]
def wCls : List Int32 := [99, 108, 97, 117, 115, 101]
def prTl (L : Nat) (tp : Nat → Int32) (h : Nat × Nat × Nat × Nat) (S : Option Den) (b np : Nat) : Nat × Option (Nat × Cls) := if isW L tp b wIf = true then (match prTs L tp 8 (nxt L tp b) np with
  | (b', none) => (b', none)
  | (b', some (n, D)) => (b', some (n, h, S, some D))) else (b, some (np, h, S, none))
def prEx (L : Nat) (tp : Nat → Int32) (v k s m b np : Nat) : Nat × Option (Nat × Cls) := if v = 7 then prTl L tp (8, k, s, m) none b np else (match prSm L tp 8 b np with
  | (b', none) => (b', none)
  | (b', some (n, D)) => prTl L tp (v + 1, k, s, m) (some D) b' n)
def opW (L : Nat) (tp : Nat → Int32) (u : Bool) (q b : Nat) : Nat × Option Nat := if u = true then (match ixQ L tp b (wL q) 0 with
  | none => (b, none)
  | some k => (nxt L tp b, some k)) else (b, some 0)
def prMt (L : Nat) (tp : Nat → Int32) (v k s b np : Nat) : Nat × Option (Nat × Cls) := match opW L tp (decide (v = 0)) 5 b with
  | (b', none) => (b', none)
  | (b', some m) => prEx L tp v k s m b' np
def prSg (L : Nat) (tp : Nat → Int32) (v k b np : Nat) : Nat × Option (Nat × Cls) := match opW L tp (decide (v = 0 ∨ v = 1)) 4 b with
  | (b', none) => (b', none)
  | (b', some s) => prMt L tp v k s b' np
def prKd (L : Nat) (tp : Nat → Int32) (v b np : Nat) : Nat × Option (Nat × Cls) := match opW L tp (decide (v = 0 ∨ v = 1 ∨ v = 3 ∨ v = 7)) 3 b with
  | (b', none) => (b', none)
  | (b', some k) => prSg L tp v k b' np
def prSk (L : Nat) (tp : Nat → Int32) (b np : Nat) : Nat × Option (Nat × Cls) := if tkT L tp b = 2 ∧ tkN L tp b ≤ 23 then (if isW L tp (nxt L tp b) wCls = true then (if tkT L tp (nxt L tp (nxt L tp b)) = 2 ∧ tkN L tp (nxt L tp (nxt L tp b)) ≤ 15 then (nxt L tp (nxt L tp (nxt L tp b)), some (np, (0, tkN L tp b, tkN L tp (nxt L tp (nxt L tp b)), 0), none, none)) else (nxt L tp (nxt L tp b), none)) else (nxt L tp b, none)) else (b, none)
def prCl (L : Nat) (tp : Nat → Int32) (b np : Nat) : Nat × Option (Nat × Cls) := if isW L tp b wStr = true then prSk L tp (nxt L tp b) np else (match ixQ L tp b (wL 2) 0 with
  | none => (b, none)
  | some v => prKd L tp v (nxt L tp b) np)
/-! the reference: words -/
theorem wordX {x : Int64} {σ : AH} : ∃ v, F_X12_isWord x σ = some (v, σ) := by
  unfold F_X12_isWord
  by_cases z1 : gI σ 124 9 = (1 : Int32)
  · rw [if_pos z1]
    by_cases z2 : gL σ 124 10 = x
    · rw [if_pos z2]; exact ⟨_, rfl⟩
    · rw [if_neg z2]; exact ⟨_, rfl⟩
  · rw [if_neg z1]; exact ⟨_, rfl⟩
theorem ifX {β : Type} {c : Prop} [Decidable c] {σ : AH} {x y : Option (β × AH)} (h1 : ∃ v, x = some (v, σ)) (h2 : ∃ v, y = some (v, σ)) : ∃ v, (if c then x else y) = some (v, σ) := by
  by_cases z : c
  · rw [if_pos z]; exact h1
  · rw [if_neg z]; exact h2
theorem wdX {x : Int64} {σ : AH} {f : Int32 → AH → Option (Int32 × AH)} (h : ∀ v, ∃ w, f v σ = some (w, σ)) : ∃ v, bd (F_X12_isWord x σ) f = some (v, σ) := by
  obtain ⟨v, hv⟩ := wordX (x := x) (σ := σ)
  rw [hv, bd_some]; exact h v
theorem kindX {σ : AH} : ∃ v, F_X12_kindAt σ = some (v, σ) := by
  unfold F_X12_kindAt
  exact wdX fun _ => ifX (wdX fun _ => ifX (wdX fun _ => ifX ⟨_, rfl⟩ ⟨_, rfl⟩) ⟨_, rfl⟩) ⟨_, rfl⟩
theorem stageX {σ : AH} : ∃ v, F_X12_stageAt σ = some (v, σ) := by
  unfold F_X12_stageAt
  exact wdX fun _ => ifX (wdX fun _ => ifX (wdX fun _ => ifX ⟨_, rfl⟩ ⟨_, rfl⟩) ⟨_, rfl⟩) ⟨_, rfl⟩
theorem materialX {σ : AH} : ∃ v, F_X12_materialAt σ = some (v, σ) := by
  unfold F_X12_materialAt
  exact wdX fun _ => ifX (wdX fun _ => ifX (wdX fun _ => ifX (wdX fun _ => ifX (wdX fun _ => ifX ⟨_, rfl⟩ ⟨_, rfl⟩) ⟨_, rfl⟩) ⟨_, rfl⟩) ⟨_, rfl⟩) ⟨_, rfl⟩
theorem bnF {α : Type} {x y : α} : (if false = true then x else y) = y := if_neg (by decide)
theorem bpT {α : Type} {x y : α} : (if true = true then x else y) = x := if_pos rfl
theorem F_kindR {L b : Nat} {tp : Nat → Int32} {σ : AH} (hk : TkR L tp b σ) : F_X12_kindAt σ = some (oI (ixQ L tp b (wL 3) 0), σ) := by
  have w0 : F_X12_isWord (2696299 : Int64) σ = some (b2 (isW L tp b [98, 114, 105, 99, 107]), σ) := F_isWordR hk (by decide) (by decide)
  have w1 : F_X12_isWord (20583596 : Int64) σ = some (b2 (isW L tp b [115, 116, 101, 101, 108]), σ) := F_isWordR hk (by decide) (by decide)
  have w2 : F_X12_isWord (8884 : Int64) σ = some (b2 (isW L tp b [104, 117, 116]), σ) := F_isWordR hk (by decide) (by decide)
  have e : ixQ L tp b (wL 3) 0 = if isW L tp b [98, 114, 105, 99, 107] = true then some 0 else if isW L tp b [115, 116, 101, 101, 108] = true then some 1 else if isW L tp b [104, 117, 116] = true then some 2 else none := rfl
  rw [e]
  unfold F_X12_kindAt
  rw [w0, bd_some]
  cases isW L tp b [98, 114, 105, 99, 107] with
  | true => rw [hnT, bpT]; rfl
  | false =>
    rw [hpF, bnF, w1, bd_some]
    cases isW L tp b [115, 116, 101, 101, 108] with
    | true => rw [hnT, bpT]; rfl
    | false =>
      rw [hpF, bnF, w2, bd_some]
      cases isW L tp b [104, 117, 116] with
      | true => rw [hnT, bpT]; rfl
      | false => rw [hpF, bnF]; rfl
theorem F_stageR {L b : Nat} {tp : Nat → Int32} {σ : AH} (hk : TkR L tp b σ) : F_X12_stageAt σ = some (oI (ixQ L tp b (wL 4) 0), σ) := by
  have w0 : F_X12_isWord (67173 : Int64) σ = some (b2 (isW L tp b [98, 97, 115, 101]), σ) := F_isWordR hk (by decide) (by decide)
  have w1 : F_X12_isWord (20190604 : Int64) σ = some (b2 (isW L tp b [115, 104, 101, 108, 108]), σ) := F_isWordR hk (by decide) (by decide)
  have w2 : F_X12_isWord (6452 : Int64) σ = some (b2 (isW L tp b [102, 105, 116]), σ) := F_isWordR hk (by decide) (by decide)
  have e : ixQ L tp b (wL 4) 0 = if isW L tp b [98, 97, 115, 101] = true then some 0 else if isW L tp b [115, 104, 101, 108, 108] = true then some 1 else if isW L tp b [102, 105, 116] = true then some 2 else none := rfl
  rw [e]
  unfold F_X12_stageAt
  rw [w0, bd_some]
  cases isW L tp b [98, 97, 115, 101] with
  | true => rw [hnT, bpT]; rfl
  | false =>
    rw [hpF, bnF, w1, bd_some]
    cases isW L tp b [115, 104, 101, 108, 108] with
    | true => rw [hnT, bpT]; rfl
    | false =>
      rw [hpF, bnF, w2, bd_some]
      cases isW L tp b [102, 105, 116] with
      | true => rw [hnT, bpT]; rfl
      | false => rw [hpF, bnF]; rfl
theorem F_materialR {L b : Nat} {tp : Nat → Int32} {σ : AH} (hk : TkR L tp b σ) : F_X12_materialAt σ = some (oI (ixQ L tp b (wL 5) 0), σ) := by
  have w0 : F_X12_isWord (86281587 : Int64) σ = some (b2 (isW L tp b [98, 114, 105, 99, 107, 115]), σ) := F_isWordR hk (by decide) (by decide)
  have w1 : F_X12_isWord (680954034 : Int64) σ = some (b2 (isW L tp b [116, 105, 109, 98, 101, 114]), σ) := F_isWordR hk (by decide) (by decide)
  have w2 : F_X12_isWord (20583596 : Int64) σ = some (b2 (isW L tp b [115, 116, 101, 101, 108]), σ) := F_isWordR hk (by decide) (by decide)
  have w3 : F_X12_isWord (113708 : Int64) σ = some (b2 (isW L tp b [99, 111, 97, 108]), σ) := F_isWordR hk (by decide) (by decide)
  have w4 : F_X12_isWord (370323 : Int64) σ = some (b2 (isW L tp b [107, 105, 116, 115]), σ) := F_isWordR hk (by decide) (by decide)
  have e : ixQ L tp b (wL 5) 0 = if isW L tp b [98, 114, 105, 99, 107, 115] = true then some 0 else if isW L tp b [116, 105, 109, 98, 101, 114] = true then some 1 else if isW L tp b [115, 116, 101, 101, 108] = true then some 2 else if isW L tp b [99, 111, 97, 108] = true then some 3 else if isW L tp b [107, 105, 116, 115] = true then some 4 else none := rfl
  rw [e]
  unfold F_X12_materialAt
  rw [w0, bd_some]
  cases isW L tp b [98, 114, 105, 99, 107, 115] with
  | true => rw [hnT, bpT]; rfl
  | false =>
    rw [hpF, bnF, w1, bd_some]
    cases isW L tp b [116, 105, 109, 98, 101, 114] with
    | true => rw [hnT, bpT]; rfl
    | false =>
      rw [hpF, bnF, w2, bd_some]
      cases isW L tp b [115, 116, 101, 101, 108] with
      | true => rw [hnT, bpT]; rfl
      | false =>
        rw [hpF, bnF, w3, bd_some]
        cases isW L tp b [99, 111, 97, 108] with
        | true => rw [hnT, bpT]; rfl
        | false =>
          rw [hpF, bnF, w4, bd_some]
          cases isW L tp b [107, 105, 116, 115] with
          | true => rw [hnT, bpT]; rfl
          | false => rw [hpF, bnF]; rfl
theorem F_headR {L b : Nat} {tp : Nat → Int32} {σ : AH} (hk : TkR L tp b σ) : F_X12_headAt σ = some (if isW L tp b wStr = true then 0 else oI1 (ixQ L tp b (wL 2) 0), σ) := by
  have w0 : F_X12_isWord (659105125 : Int64) σ = some (b2 (isW L tp b wStr), σ) := F_isWordR hk (by decide) (by decide)
  have w1 : F_X12_isWord (464036 : Int64) σ = some (b2 (isW L tp b [110, 101, 101, 100]), σ) := F_isWordR hk (by decide) (by decide)
  have w2 : F_X12_isWord (769611 : Int64) σ = some (b2 (isW L tp b [119, 111, 114, 107]), σ) := F_isWordR hk (by decide) (by decide)
  have w3 : F_X12_isWord (552909459 : Int64) σ = some (b2 (isW L tp b [112, 111, 105, 110, 116, 115]), σ) := F_isWordR hk (by decide) (by decide)
  have w4 : F_X12_isWord (13190215781 : Int64) σ = some (b2 (isW L tp b [108, 105, 99, 101, 110, 99, 101]), σ) := F_isWordR hk (by decide) (by decide)
  have w5 : F_X12_isWord (595412 : Int64) σ = some (b2 (isW L tp b [114, 101, 110, 116]), σ) := F_isWordR hk (by decide) (by decide)
  have w6 : F_X12_isWord (284307 : Int64) σ = some (b2 (isW L tp b [104, 117, 116, 115]), σ) := F_isWordR hk (by decide) (by decide)
  have w7 : F_X12_isWord (20501556 : Int64) σ = some (b2 (isW L tp b [115, 113, 117, 97, 116]), σ) := F_isWordR hk (by decide) (by decide)
  have w8 : F_X12_isWord (6605428 : Int64) σ = some (b2 (isW L tp b [102, 105, 114, 115, 116]), σ) := F_isWordR hk (by decide) (by decide)
  have e : ixQ L tp b (wL 2) 0 = if isW L tp b [110, 101, 101, 100] = true then some 0 else if isW L tp b [119, 111, 114, 107] = true then some 1 else if isW L tp b [112, 111, 105, 110, 116, 115] = true then some 2 else if isW L tp b [108, 105, 99, 101, 110, 99, 101] = true then some 3 else if isW L tp b [114, 101, 110, 116] = true then some 4 else if isW L tp b [104, 117, 116, 115] = true then some 5 else if isW L tp b [115, 113, 117, 97, 116] = true then some 6 else if isW L tp b [102, 105, 114, 115, 116] = true then some 7 else none := rfl
  rw [e]
  unfold F_X12_headAt
  rw [w0, bd_some]
  cases c0 : isW L tp b wStr with
  | true =>
    unfold F_X12_headAt_40
    rw [hnT, bpT, w0, bd_some, c0, hnT]
  | false =>
    rw [hpF, bnF, w1, bd_some]
    cases c1 : isW L tp b [110, 101, 101, 100] with
    | true =>
      unfold F_X12_headAt_40
      rw [hnT, bpT, w0, bd_some, c0, hpF, w1, bd_some, c1, hnT]; rfl
    | false =>
      rw [hpF, bnF, w2, bd_some]
      cases c2 : isW L tp b [119, 111, 114, 107] with
      | true =>
        unfold F_X12_headAt_40
        rw [hnT, bpT, w0, bd_some, c0, hpF, w1, bd_some, c1, hpF, w2, bd_some, c2, hnT]; rfl
      | false =>
        rw [hpF, bnF, w3, bd_some]
        cases c3 : isW L tp b [112, 111, 105, 110, 116, 115] with
        | true =>
          unfold F_X12_headAt_40
          rw [hnT, bpT, w0, bd_some, c0, hpF, w1, bd_some, c1, hpF, w2, bd_some, c2, hpF]; rfl
        | false =>
          rw [hpF, bnF, w4, bd_some]
          cases c4 : isW L tp b [108, 105, 99, 101, 110, 99, 101] with
          | true =>
            unfold F_X12_headAt_114
            rw [hnT, bpT, w4, bd_some, c4, hnT]; rfl
          | false =>
            rw [hpF, bnF, w5, bd_some]
            cases c5 : isW L tp b [114, 101, 110, 116] with
            | true =>
              unfold F_X12_headAt_114
              rw [hnT, bpT, w4, bd_some, c4, hpF, w5, bd_some, c5, hnT]; rfl
            | false =>
              rw [hpF, bnF, w6, bd_some]
              cases c6 : isW L tp b [104, 117, 116, 115] with
              | true =>
                unfold F_X12_headAt_114
                rw [hnT, bpT, w4, bd_some, c4, hpF, w5, bd_some, c5, hpF]; rfl
              | false =>
                rw [hpF, bnF, w7, bd_some]
                cases c7 : isW L tp b [115, 113, 117, 97, 116] with
                | true => rw [hnT, bpT]; rfl
                | false =>
                  rw [hpF, bnF]
                  unfold F_X12_headAt_160
                  rw [w8, bd_some]
                  cases isW L tp b [102, 105, 114, 115, 116] with
                  | true => rw [hnT, bpT]; rfl
                  | false => rw [hpF, bnF]; rfl
end
