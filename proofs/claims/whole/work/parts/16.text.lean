theorem dJ0_length_8abf5_0 : decode cJ0_length_8abf5 0 = .ok (.aload_n 0, 1) := by decide +kernel
theorem dJ0_length_8abf5_1 : decode cJ0_length_8abf5 1 = .ok (.getfield 9, 3) := by decide +kernel
theorem dJ0_length_8abf5_4 : decode cJ0_length_8abf5 4 = .ok (.arraylength, 1) := by decide +kernel
theorem dJ0_length_8abf5_5 : decode cJ0_length_8abf5 5 = .ok (.aload_n 0, 1) := by decide +kernel
theorem dJ0_length_8abf5_6 : decode cJ0_length_8abf5 6 = .ok (.invokevirtual 335, 3) := by decide +kernel
theorem dJ0_length_8abf5_9 : decode cJ0_length_8abf5 9 = .ok (.ishr, 1) := by decide +kernel
theorem dJ0_length_8abf5_10 : decode cJ0_length_8abf5 10 = .ok (.ireturn, 1) := by decide +kernel
theorem dJ0_charAt_5068e_0 : decode cJ0_charAt_5068e 0 = .ok (.aload_n 0, 1) := by decide +kernel
theorem dJ0_charAt_5068e_1 : decode cJ0_charAt_5068e 1 = .ok (.invokevirtual 492, 3) := by decide +kernel
theorem dJ0_charAt_5068e_4 : decode cJ0_charAt_5068e 4 = .ok (.ifCond .eq 12, 3) := by decide +kernel
theorem dJ0_charAt_5068e_7 : decode cJ0_charAt_5068e 7 = .ok (.aload_n 0, 1) := by decide +kernel
theorem dJ0_charAt_5068e_8 : decode cJ0_charAt_5068e 8 = .ok (.getfield 9, 3) := by decide +kernel
theorem dJ0_charAt_5068e_11 : decode cJ0_charAt_5068e 11 = .ok (.iload_n 1, 1) := by decide +kernel
theorem dJ0_charAt_5068e_12 : decode cJ0_charAt_5068e 12 = .ok (.invokestatic 495, 3) := by decide +kernel
theorem dJ0_charAt_5068e_15 : decode cJ0_charAt_5068e 15 = .ok (.ireturn, 1) := by decide +kernel
theorem dJ0_coder_7d493_0 : decode cJ0_coder_7d493 0 = .ok (.getstatic 38, 3) := by decide +kernel
theorem dJ0_coder_7d493_3 : decode cJ0_coder_7d493 3 = .ok (.ifCond .eq 10, 3) := by decide +kernel
theorem dJ0_coder_7d493_6 : decode cJ0_coder_7d493 6 = .ok (.aload_n 0, 1) := by decide +kernel
theorem dJ0_coder_7d493_7 : decode cJ0_coder_7d493 7 = .ok (.getfield 15, 3) := by decide +kernel
theorem dJ0_coder_7d493_10 : decode cJ0_coder_7d493 10 = .ok (.goto 4, 3) := by decide +kernel
theorem dJ0_coder_7d493_14 : decode cJ0_coder_7d493 14 = .ok (.ireturn, 1) := by decide +kernel
theorem dJ0_isLatin1_aae02_0 : decode cJ0_isLatin1_aae02 0 = .ok (.getstatic 38, 3) := by decide +kernel
theorem dJ0_isLatin1_aae02_3 : decode cJ0_isLatin1_aae02 3 = .ok (.ifCond .eq 14, 3) := by decide +kernel
theorem dJ0_isLatin1_aae02_6 : decode cJ0_isLatin1_aae02 6 = .ok (.aload_n 0, 1) := by decide +kernel
theorem dJ0_isLatin1_aae02_7 : decode cJ0_isLatin1_aae02 7 = .ok (.getfield 15, 3) := by decide +kernel
theorem dJ0_isLatin1_aae02_10 : decode cJ0_isLatin1_aae02 10 = .ok (.ifCond .ne 7, 3) := by decide +kernel
theorem dJ0_isLatin1_aae02_13 : decode cJ0_isLatin1_aae02 13 = .ok (.iconst 1, 1) := by decide +kernel
theorem dJ0_isLatin1_aae02_14 : decode cJ0_isLatin1_aae02 14 = .ok (.goto 4, 3) := by decide +kernel
theorem dJ0_isLatin1_aae02_18 : decode cJ0_isLatin1_aae02 18 = .ok (.ireturn, 1) := by decide +kernel
theorem dJ0_checkIndex_df160_0 : decode cJ0_checkIndex_df160 0 = .ok (.iload_n 0, 1) := by decide +kernel
theorem dJ0_checkIndex_df160_1 : decode cJ0_checkIndex_df160 1 = .ok (.iload_n 1, 1) := by decide +kernel
theorem dJ0_checkIndex_df160_2 : decode cJ0_checkIndex_df160 2 = .ok (.getstatic 1053, 3) := by decide +kernel
theorem dJ0_checkIndex_df160_5 : decode cJ0_checkIndex_df160 5 = .ok (.invokestatic 1059, 3) := by decide +kernel
theorem dJ0_checkIndex_df160_8 : decode cJ0_checkIndex_df160 8 = .ok (.pop, 1) := by decide +kernel
theorem dJ0_checkIndex_df160_9 : decode cJ0_checkIndex_df160 9 = .ok (.return_, 1) := by decide +kernel
theorem dJ1_charAt_3b067_0 : decode cJ1_charAt_3b067 0 = .ok (.iload_n 1, 1) := by decide +kernel
theorem dJ1_charAt_3b067_1 : decode cJ1_charAt_3b067 1 = .ok (.aload_n 0, 1) := by decide +kernel
theorem dJ1_charAt_3b067_2 : decode cJ1_charAt_3b067 2 = .ok (.arraylength, 1) := by decide +kernel
theorem dJ1_charAt_3b067_3 : decode cJ1_charAt_3b067 3 = .ok (.invokestatic 9, 3) := by decide +kernel
theorem dJ1_charAt_3b067_6 : decode cJ1_charAt_3b067 6 = .ok (.aload_n 0, 1) := by decide +kernel
theorem dJ1_charAt_3b067_7 : decode cJ1_charAt_3b067 7 = .ok (.iload_n 1, 1) := by decide +kernel
theorem dJ1_charAt_3b067_8 : decode cJ1_charAt_3b067 8 = .ok (.baload, 1) := by decide +kernel
theorem dJ1_charAt_3b067_9 : decode cJ1_charAt_3b067 9 = .ok (.sipush 255, 3) := by decide +kernel
theorem dJ1_charAt_3b067_12 : decode cJ1_charAt_3b067 12 = .ok (.iand, 1) := by decide +kernel
theorem dJ1_charAt_3b067_13 : decode cJ1_charAt_3b067 13 = .ok (.i2c, 1) := by decide +kernel
theorem dJ1_charAt_3b067_14 : decode cJ1_charAt_3b067 14 = .ok (.ireturn, 1) := by decide +kernel
theorem dJ3_checkIndex_8e157_0 : decode cJ3_checkIndex_8e157 0 = .ok (.iload_n 0, 1) := by decide +kernel
theorem dJ3_checkIndex_8e157_1 : decode cJ3_checkIndex_8e157 1 = .ok (.ifCond .lt 8, 3) := by decide +kernel
theorem dJ3_checkIndex_8e157_4 : decode cJ3_checkIndex_8e157 4 = .ok (.iload_n 0, 1) := by decide +kernel
theorem dJ3_checkIndex_8e157_5 : decode cJ3_checkIndex_8e157 5 = .ok (.iload_n 1, 1) := by decide +kernel
theorem dJ3_checkIndex_8e157_6 : decode cJ3_checkIndex_8e157 6 = .ok (.if_icmp .lt 10, 3) := by decide +kernel
theorem dJ3_checkIndex_8e157_16 : decode cJ3_checkIndex_8e157 16 = .ok (.iload_n 0, 1) := by decide +kernel
theorem dJ3_checkIndex_8e157_17 : decode cJ3_checkIndex_8e157 17 = .ok (.ireturn, 1) := by decide +kernel
section TRules
variable {X : Sx} {l : Launch} {f : MI} {D pc : Nat} {lv : List (Nat × Value)} {st : List Value} {σ σ' : AH} {r : Option Value}
/-- a text's bytes, its coder; the statics -/
theorem E_strv {idx i : Nat} (hi : i < 12) (hd : decode f.2.1 pc = .ok (.getfield idx, 3)) (hlk : Cond.fieldLink f.1.cls idx "java/lang/String" "value" "[B" ∈ lw_good) (k : E X l f D (pc + 3) lv (.ref (2000001 + i) :: st) σ r σ') : E X l f D pc lv (.ref (1000001 + i) :: st) σ r σ' := E.pstep (st := .ref (1000001 + i) :: st) (st2 := .ref (2000001 + i) :: st) (fun _ _ _ _ _ _ _ _ _ _ _ _ _ _ _ _ _ _ hF hl hS k => vk_getf hF.1.1 hF.1.2.1 (hF.2.2.2.2.2.2.2.1.1 i hi).2.2.1 hS hF.2.2.1 (hF.2.2.2.1 _ hlk) (fun _ h => h) hd k) (fun o1 o2 => okl_cons.mpr ⟨Or.inr (Nat.le_add_right_of_le (by decide)), okl_tail o2⟩) k
theorem E_strc {idx i : Nat} (hi : i < 12) (hd : decode f.2.1 pc = .ok (.getfield idx, 3)) (hlk : Cond.fieldLink f.1.cls idx "java/lang/String" "coder" "B" ∈ lw_good) (k : E X l f D (pc + 3) lv (.int 0 :: st) σ r σ') : E X l f D pc lv (.ref (1000001 + i) :: st) σ r σ' := E.pstep (st := .ref (1000001 + i) :: st) (st2 := .int 0 :: st) (fun _ _ _ _ _ _ _ _ _ _ _ _ _ _ _ _ _ _ hF hl hS k => vk_getf hF.1.1 hF.1.2.1 (hF.2.2.2.2.2.2.2.1.1 i hi).2.1 hS hF.2.2.1 (hF.2.2.2.1 _ hlk) (fun _ h => h) hd k) (fun o1 o2 => okl_cons.mpr ⟨trivial, okl_tail o2⟩) k
theorem E_cmps {idx : Nat} (hd : decode f.2.1 pc = .ok (.getstatic idx, 3)) (hlk : Cond.fieldLink f.1.cls idx "java/lang/String" "COMPACT_STRINGS" "Z" ∈ lw_good) (k : E X l f D (pc + 3) lv (.int 1 :: st) σ r σ') : E X l f D pc lv st σ r σ' := E.pstep (st := st) (st2 := .int 1 :: st) (fun _ _ _ _ _ _ _ _ _ _ _ _ _ _ _ _ _ _ hF hl hS k => va_gets hF.1.1 hF.1.2.1 hF.2.2.2.2.2.2.2.2.2.1 hS hF.2.2.1 (hF.2.2.2.1 _ hlk) (fun _ h => h) hd k) (fun o1 o2 => okl_cons.mpr ⟨trivial, o2⟩) k
theorem E_blen {i : Nat} {v : Int32} (hi : i < 12) (hd : decode f.2.1 pc = .ok (.arraylength, 1)) (hv : nI (st_len.getD i 0) = v) (k : E X l f D (pc + 1) lv (.int v :: st) σ r σ') : E X l f D pc lv (.ref (2000001 + i) :: st) σ r σ' := E.pstep (st := .ref (2000001 + i) :: st) (st2 := .int v :: st) (fun _ _ _ _ _ _ _ _ _ _ _ _ _ _ _ _ _ _ hF hl hS k => va_tlen hF.1.1 hF.1.2.1 (hF.2.2.2.2.2.2.2.1.1 i hi).2.2.2 hS hv hd k) (fun o1 o2 => okl_cons.mpr ⟨trivial, okl_tail o2⟩) k
theorem E_bld {i : Nat} {k : Int32} (hi : i < 12) (hd : decode f.2.1 pc = .ok (.baload, 1)) (hin : vp_in k (st_len.getD i 0)) (kk : E X l f D (pc + 1) lv (.int ((st_byt.getD i []).getD k.toNatClampNeg 0) :: st) σ r σ') : E X l f D pc lv (.int k :: .ref (2000001 + i) :: st) σ r σ' := E.pstep (st := .int k :: .ref (2000001 + i) :: st) (st2 := .int ((st_byt.getD i []).getD k.toNatClampNeg 0) :: st) (fun _ _ _ _ _ _ _ _ _ _ _ _ _ _ _ _ _ _ hF hl hS kk => va_tb hF.1.1 hF.1.2.1 (hF.2.2.2.2.2.2.2.1.1 i hi).2.2.2 hS hin rfl hd kk) (fun o1 o2 => okl_cons.mpr ⟨trivial, okl_tail (okl_tail o2)⟩) kk
theorem E_nret {v : Int32} {ty : FieldType} (hd : decode f.2.1 pc = .ok (.ireturn, 1)) (hr : f.2.2.2.1 = some ty) (hn : narrow ty (.int v) = .int v) : E X l f D pc lv [.int v] σ (some (.int v)) σ := by
  refine ⟨Mono.rf σ, fun p e R s m args below meth c G cAs A ρ H locs ls n0 s0 ρ0 hF hW hS hl o1 o2 hn0 hρ => ?_⟩
  exact W.zret hF.1.1 hF.1.2.1 (hF.2.1.1.trans hr) hn (fun t ht hWm => ⟨⟨ρ, hρ, rfl, by rw [ht]; exact hW.moved hWm.alike, o2⟩, hS.F ht⟩) hS.2.2 hd hF.2.1.2.2
/-- Preconditions.checkIndex of an index that is in, whatever stands as the third -/
def PiQ (x : Int32) : Array Value → State → Outcome → State → Prop := fun _ st oc t => oc = .returned (some (.int x)) ∧ t.heap = st.heap
theorem met_chk {d : Nat} {x y : Int32} {v : Value} (h0 : ¬ x < 0) (h1 : x < y) (hv : v.category = 1) : Met l m_J3_checkIndex_8e157.1 (wsM m_J3_checkIndex_8e157) (rmM d 0 0) (va_Pc [.int x, .int y, v] (fun _ => True)) (PiQ x) 0 0 (fun _ => False) := by
  refine Met.ofW (cc := cJ3_checkIndex_8e157) (maxL := 3) (ret := some .int) (ws' := lw_good) (by decide +kernel) rfl ?_
  intro p e s m args below meth c s₁ B hml hp
  obtain ⟨rfl, -⟩ := hp
  have hl := lv_entry [.int x, .int y, v] (n := 3) (by rw [sl_len]; simp [Value.category, hv]; try (have := hv; unfold Value.category at this; omega))
  rw [lg_entry_eq]
  generalize (lg_sl [Value.int x, Value.int y, v] ++ List.replicate (3 - (lg_sl [Value.int x, Value.int y, v]).length) Slot.unset).toArray = ls at hl ⊢
  have a0 : ls[0]? = some (.val (.int x)) := lv_at hl 0 rfl
  have a1 : ls[1]? = some (.val (.int y)) := lv_at hl 1 rfl
  refine lv_iload_n B.exec B.bytes dJ3_checkIndex_8e157_0 rfl a0 ?_
  refine lv_if_lt (tgt := 9) B.exec B.bytes dJ3_checkIndex_8e157_1 (by decide) (fun z => absurd z h0) (fun _ => ?_)
  refine lv_iload_n B.exec B.bytes dJ3_checkIndex_8e157_4 rfl a0 ?_
  refine lv_iload_n B.exec B.bytes dJ3_checkIndex_8e157_5 rfl a1 ?_
  refine lv_icmp_lt (tgt := 16) B.exec B.bytes dJ3_checkIndex_8e157_6 (by decide) (fun _ => ?_) (fun z => absurd h1 z)
  refine lv_iload_n B.exec B.bytes dJ3_checkIndex_8e157_16 rfl a0 ?_
  exact W.iret B.exec B.bytes B.returns (fun t ht hWm => ⟨rfl, ht⟩) (fun _ h => by cases h) dJ3_checkIndex_8e157_17 B.notSynchronized
theorem E_chk {x y : Int32} (hd0 : decode f.2.1 pc = .ok (.getstatic 1053, 3)) (hd1 : decode f.2.1 (pc + 3) = .ok (.invokestatic 1059, 3)) (hd2 : decode f.2.1 (pc + 3 + 3) = .ok (.pop, 1)) (hlk : Cond.fieldLink f.1.cls 1053 "jdk/internal/util/Preconditions" "SIOOBE_FORMATTER" "Ljava/util/function/BiFunction;" ∈ lw_good) (hml : Cond.methodLink f.1.cls 1059 m_J3_checkIndex_8e157.1 ∈ lw_good) (hD : 1 ≤ D) (hcat : (st.map fun v => v.category).sum ≤ 8) (h0 : ¬ x < 0) (h1 : x < y)
    (kk : E X l f D (pc + 3 + 3 + 1) lv st σ r σ') : E X l f D pc lv (.int y :: .int x :: st) σ r σ' := by
  refine ⟨kk.1, fun p e R s m args below meth c G cAs A ρ H locs ls n0 s0 ρ0 hF hW hS hl o1 o2 hn0 hρ => ?_⟩
  have hm1 := kk.1.1
  have hm2 := kk.1.2.1
  have kw := kk.2 p e R s m args below meth c G cAs A ρ H locs ls n0 s0 ρ0 hF hW hS hl o1 (okl_tail (okl_tail o2)) hn0 hρ
  have hM := ok_J3_checkIndex_8e157
  have go : ∀ v : Value, v.category = 1 → W p l e R s m args below meth c H locs (nx σ - n0) (sl σ - s0) (MQ below (Qe G cAs A ρ0 n0 r σ') args s (nx σ' - n0) (sl σ' - s0) A) (F0 m (pc + 3) ls (v :: .int y :: .int x :: st.map (rv ρ))) := by
    intro v hv T hT X0
    have hr := va_runS (H := H) (locs := locs) (cells := nx σ - n0) (slots := sl σ - s0) (g := F0 m (pc + 3) ls (v :: .int y :: .int x :: st.map (rv ρ))) (below := below) (e := e) (meth := meth) (Ts := lw_good) (own := f.1.cls) (As := [.int x, .int y, v]) (rest := st.map (rv ρ)) ⟨hF.1.1, hF.1.2.1, hF.1.2.2, hF.2.2.1, hF.2.2.2.1⟩ (met_chk (l := l) (d := 0) h0 h1 hv)
      ⟨callB_of 3 hF.2.2.2.1 (goodIn_good (wsM_good hM)) rfl rfl rfl (hF.2.2.2.1 _ hM.2.1) (hF.2.2.2.1 _ hml) hM.2.2.1 (rm_ok hD hF.2.2.2.2.1 hM.2.2.2.1), hF.2.2.2.1 _ is_J3_checkIndex_8e157⟩
      ⟨fun a U g mk h => h, fun U hU hWm => ⟨rfl, trivial⟩⟩ rfl rfl hl.1 rfl (lv_room (by rw [cat_sum]; exact hcat)) hd1 ⟨by omega, by omega⟩
    obtain ⟨v', st₀, t, T', L, h0', X', hL, e1, e2, ⟨hv', hz⟩, stp⟩ := hr T hT X0
    cases hv'
    have eL : L = [] := List.eq_nil_iff_forall_not_mem.mpr (fun q hq => hL q hq)
    subst eL
    rw [List.append_nil] at X'
    obtain ⟨t2, b1, b2'⟩ := lv_pop (va := .int x) (rest := st.map (rv ρ)) hF.1.1 hF.1.2.1 hd2 rfl kw T' (by rw [e1, hz, h0']) X'
    exact ⟨t2, stp t2 b1, b2'⟩
  rcases hF.2.2.2.2.2.2.2.2.2.2.1 with hz | ⟨t, hz⟩
  · exact va_gets hF.1.1 hF.1.2.1 hz hS hF.2.2.1 (hF.2.2.2.1 _ hlk) (fun _ h => h) hd0 (go .null rfl)
  · exact va_gets hF.1.1 hF.1.2.1 hz hS hF.2.2.1 (hF.2.2.2.1 _ hlk) (fun _ h => h) hd0 (go (.ref t) rfl)
end TRules
theorem fl_J0_38 : Cond.fieldLink RJ0 38 "java/lang/String" "COMPACT_STRINGS" "Z" ∈ lw_good := mem_good (by decide +kernel)
theorem fl_J0_15 : Cond.fieldLink RJ0 15 "java/lang/String" "coder" "B" ∈ lw_good := mem_good (by decide +kernel)
theorem fl_J0_9 : Cond.fieldLink RJ0 9 "java/lang/String" "value" "[B" ∈ lw_good := mem_good (by decide +kernel)
theorem fl_J0_1053 : Cond.fieldLink RJ0 1053 "jdk/internal/util/Preconditions" "SIOOBE_FORMATTER" "Ljava/util/function/BiFunction;" ∈ lw_good := mem_good (by decide +kernel)
section TCalls
variable {X : Sx} {l : Launch} {σ : AH} {i : Nat}
theorem call_coder {d : Nat} (hi : i < 12) : Call X l m_J0_coder_7d493 d [.ref (1000001 + i)] σ (some (.int 0)) σ := by
  refine Call.ofE ok_J0_coder_7d493 rfl (Nat.le_of_ble_eq_true rfl) ?_
  refine E_cmps dJ0_coder_7d493_0 fl_J0_38 ?_
  refine E_if_eq 13 dJ0_coder_7d493_3 (by decide) (fun z => absurd z (by decide)) (fun _ => ?_)
  refine E_aload_n 0 dJ0_coder_7d493_6 rfl rfl ?_
  refine E_strc hi dJ0_coder_7d493_7 fl_J0_15 ?_
  refine E_goto 14 dJ0_coder_7d493_10 (by decide) ?_
  exact E_nret dJ0_coder_7d493_14 rfl (by decide +kernel)
theorem call_latin {d : Nat} (hi : i < 12) : Call X l m_J0_isLatin1_aae02 d [.ref (1000001 + i)] σ (some (.int 1)) σ := by
  refine Call.ofE ok_J0_isLatin1_aae02 rfl (Nat.le_of_ble_eq_true rfl) ?_
  refine E_cmps dJ0_isLatin1_aae02_0 fl_J0_38 ?_
  refine E_if_eq 17 dJ0_isLatin1_aae02_3 (by decide) (fun z => absurd z (by decide)) (fun _ => ?_)
  refine E_aload_n 0 dJ0_isLatin1_aae02_6 rfl rfl ?_
  refine E_strc hi dJ0_isLatin1_aae02_7 fl_J0_15 ?_
  refine E_if_ne 17 dJ0_isLatin1_aae02_10 (by decide) (fun z => absurd rfl z) (fun _ => ?_)
  refine E_iconst (1 : Int32) dJ0_isLatin1_aae02_13 (by decide) ?_
  refine E_goto 18 dJ0_isLatin1_aae02_14 (by decide) ?_
  exact E_zret dJ0_isLatin1_aae02_18 rfl (Or.inr rfl)
theorem call_len {d : Nat} (hd : 1 ≤ d) (hi : i < 12) : Call X l m_J0_length_8abf5 d [.ref (1000001 + i)] σ (some (.int (nI (st_len.getD i 0)))) σ := by
  refine Call.ofE ok_J0_length_8abf5 rfl (Nat.le_of_ble_eq_true rfl) ?_
  refine E_aload_n 0 dJ0_length_8abf5_0 rfl rfl ?_
  refine E_strv hi dJ0_length_8abf5_1 fl_J0_9 ?_
  refine E_blen hi dJ0_length_8abf5_4 rfl ?_
  refine E_aload_n 0 dJ0_length_8abf5_5 rfl rfl ?_
  refine E_callVS (g := m_J0_coder_7d493) (d := 0) (As := []) (rest := [.int (nI (st_len.getD i 0))]) (r1 := some (.int 0)) (σ1 := σ) dJ0_length_8abf5_6 ok_J0_coder_7d493 in_J0_coder_7d493 se_J0_coder_7d493 ml_J0_335 hd rfl rfl (Nat.le_of_ble_eq_true rfl) hi rfl (by decide) (call_coder hi) ?_
  refine E_ishr dJ0_length_8abf5_9 ?_
  have e : nI (st_len.getD i 0) >>> ((0 : Int32) &&& 31) = nI (st_len.getD i 0) := by
    have : ∀ j : Fin 12, nI (st_len.getD j.val 0) >>> ((0 : Int32) &&& 31) = nI (st_len.getD j.val 0) := by decide +kernel
    exact this ⟨i, hi⟩
  rw [e]
  exact E_iret dJ0_length_8abf5_10 rfl
theorem call_chk {d : Nat} {x y : Int32} (hd : 1 ≤ d) (h0 : ¬ x < 0) (h1 : x < y) : Call X l m_J0_checkIndex_df160 d [.int x, .int y] σ none σ := by
  refine Call.ofE ok_J0_checkIndex_df160 rfl (Nat.le_of_ble_eq_true rfl) ?_
  refine E_iload_n 0 dJ0_checkIndex_df160_0 rfl rfl ?_
  refine E_iload_n 1 dJ0_checkIndex_df160_1 rfl rfl ?_
  refine E_chk dJ0_checkIndex_df160_2 dJ0_checkIndex_df160_5 dJ0_checkIndex_df160_8 fl_J0_1053 ml_J0_1059 hd (by decide) h0 h1 ?_
  exact E_vret dJ0_checkIndex_df160_9 rfl
theorem byt_c : ∀ j : Fin 12, ∀ k : Fin 50, ((((st_byt.getD j.val []).getD k.val 0) &&& 255).toUInt32 % 65536).toInt32 = (st_byt.getD j.val []).getD k.val 0 ∧ narrow .char (.int ((st_byt.getD j.val []).getD k.val 0)) = .int ((st_byt.getD j.val []).getD k.val 0) := by decide +kernel
theorem len50 : ∀ j : Fin 12, st_len.getD j.val 0 ≤ 50 := by decide +kernel
theorem call_l1 {d : Nat} {k : Int32} (hd : 2 ≤ d) (hi : i < 12) (hin : vp_in k (st_len.getD i 0)) : Call X l m_J1_charAt_3b067 d [.ref (2000001 + i), .int k] σ (some (.int ((st_byt.getD i []).getD k.toNatClampNeg 0))) σ := by
  have k0 : ¬ k < 0 := fun z => hin (Or.inl z)
  have kl : k.toNatClampNeg < st_len.getD i 0 := Nat.lt_of_not_le (fun z => hin (Or.inr z))
  have l5 := len50 ⟨i, hi⟩
  have b := byt_c ⟨i, hi⟩ ⟨k.toNatClampNeg, by simp only [] at l5; omega⟩
  have kt : (k.toNatClampNeg : Int) = k.toInt := by
    have : (0 : Int) ≤ k.toInt := by
      have := Int32.not_lt.mp k0
      simpa using Int32.le_iff_toInt_le.mp this
    show ((k.toInt.toNat : Nat) : Int) = k.toInt
    omega
  have k1 : k < nI (st_len.getD i 0) := by
    have l5' : st_len.getD i 0 ≤ 50 := l5
    rw [Int32.lt_iff_toInt_lt, nI_toInt (by omega)]; omega
  refine Call.ofE ok_J1_charAt_3b067 rfl (Nat.le_of_ble_eq_true rfl) ?_
  refine E_iload_n 1 dJ1_charAt_3b067_0 rfl rfl ?_
  refine E_aload_n 0 dJ1_charAt_3b067_1 rfl rfl ?_
  refine E_blen hi dJ1_charAt_3b067_2 rfl ?_
  refine E_callS (g := m_J0_checkIndex_df160) (d := 1) (As := [.int k, .int (nI (st_len.getD i 0))]) (rest := []) (r1 := none) (σ1 := σ) dJ1_charAt_3b067_3 ok_J0_checkIndex_df160 is_J0_checkIndex_df160 ml_J1_9 hd rfl rfl (by decide) (by decide) (call_chk (Nat.le_refl 1) k0 k1) ?_
  refine E_aload_n 0 dJ1_charAt_3b067_6 rfl rfl ?_
  refine E_iload_n 1 dJ1_charAt_3b067_7 rfl rfl ?_
  refine E_bld hi dJ1_charAt_3b067_8 hin ?_
  refine E_sipush (255 : Int32) dJ1_charAt_3b067_9 (by decide) ?_
  refine E_iand dJ1_charAt_3b067_12 ?_
  refine E_i2c dJ1_charAt_3b067_13 ?_
  have b1 : ((((st_byt.getD i []).getD k.toNatClampNeg 0) &&& 255).toUInt32 % 65536).toInt32 = (st_byt.getD i []).getD k.toNatClampNeg 0 := b.1
  rw [b1]
  exact E_nret dJ1_charAt_3b067_14 rfl b.2
theorem call_chr {d : Nat} {k : Int32} (hd : 3 ≤ d) (hi : i < 12) (hin : vp_in k (st_len.getD i 0)) : Call X l m_J0_charAt_5068e d [.ref (1000001 + i), .int k] σ (some (.int ((st_byt.getD i []).getD k.toNatClampNeg 0))) σ := by
  have kl : k.toNatClampNeg < st_len.getD i 0 := Nat.lt_of_not_le (fun z => hin (Or.inr z))
  have l5 := len50 ⟨i, hi⟩
  have b := byt_c ⟨i, hi⟩ ⟨k.toNatClampNeg, by simp only [] at l5; omega⟩
  refine Call.ofE ok_J0_charAt_5068e rfl (Nat.le_of_ble_eq_true rfl) ?_
  refine E_aload_n 0 dJ0_charAt_5068e_0 rfl rfl ?_
  refine E_callVS (g := m_J0_isLatin1_aae02) (d := 0) (As := []) (rest := []) (r1 := some (.int 1)) (σ1 := σ) dJ0_charAt_5068e_1 ok_J0_isLatin1_aae02 in_J0_isLatin1_aae02 se_J0_isLatin1_aae02 ml_J0_492 (by omega) rfl rfl (by decide) hi rfl (by decide) (call_latin hi) ?_
  refine E_if_eq 16 dJ0_charAt_5068e_4 (by decide) (fun z => absurd z (by decide)) (fun _ => ?_)
  refine E_aload_n 0 dJ0_charAt_5068e_7 rfl rfl ?_
  refine E_strv hi dJ0_charAt_5068e_8 fl_J0_9 ?_
  refine E_iload_n 1 dJ0_charAt_5068e_11 rfl rfl ?_
  refine E_callS (g := m_J1_charAt_3b067) (d := 2) (As := [.ref (2000001 + i), .int k]) (rest := []) (r1 := some (.int ((st_byt.getD i []).getD k.toNatClampNeg 0))) (σ1 := σ) dJ0_charAt_5068e_12 ok_J1_charAt_3b067 is_J1_charAt_3b067 ml_J0_495 (by omega) rfl rfl (by decide) (by decide) (call_l1 (Nat.le_refl 2) hi hin) ?_
  exact E_nret dJ0_charAt_5068e_15 rfl b.2
end TCalls
theorem dJ7_copyOf_59c91_0 : decode cJ7_copyOf_59c91 0 = .ok (.iload_n 1, 1) := by decide +kernel
theorem dJ7_copyOf_59c91_1 : decode cJ7_copyOf_59c91 1 = .ok (.aload_n 0, 1) := by decide +kernel
theorem dJ7_copyOf_59c91_2 : decode cJ7_copyOf_59c91 2 = .ok (.arraylength, 1) := by decide +kernel
theorem dJ7_copyOf_59c91_3 : decode cJ7_copyOf_59c91 3 = .ok (.if_icmp .ne 11, 3) := by decide +kernel
theorem dJ7_copyOf_59c91_6 : decode cJ7_copyOf_59c91 6 = .ok (.aload_n 0, 1) := by decide +kernel
theorem dJ7_copyOf_59c91_7 : decode cJ7_copyOf_59c91 7 = .ok (.invokevirtual 316, 3) := by decide +kernel
theorem dJ7_copyOf_59c91_10 : decode cJ7_copyOf_59c91 10 = .ok (.checkcast 317, 3) := by decide +kernel
theorem dJ7_copyOf_59c91_13 : decode cJ7_copyOf_59c91 13 = .ok (.areturn, 1) := by decide +kernel
theorem dJ7_copyOf_59c91_14 : decode cJ7_copyOf_59c91 14 = .ok (.iload_n 1, 1) := by decide +kernel
theorem dJ7_copyOf_59c91_15 : decode cJ7_copyOf_59c91 15 = .ok (.newarray .int, 2) := by decide +kernel
theorem dJ7_copyOf_59c91_17 : decode cJ7_copyOf_59c91 17 = .ok (.astore_n 2, 1) := by decide +kernel
theorem dJ7_copyOf_59c91_18 : decode cJ7_copyOf_59c91 18 = .ok (.aload_n 0, 1) := by decide +kernel
theorem dJ7_copyOf_59c91_19 : decode cJ7_copyOf_59c91 19 = .ok (.iconst 0, 1) := by decide +kernel
theorem dJ7_copyOf_59c91_20 : decode cJ7_copyOf_59c91 20 = .ok (.aload_n 2, 1) := by decide +kernel
theorem dJ7_copyOf_59c91_21 : decode cJ7_copyOf_59c91 21 = .ok (.iconst 0, 1) := by decide +kernel
theorem dJ7_copyOf_59c91_22 : decode cJ7_copyOf_59c91 22 = .ok (.aload_n 0, 1) := by decide +kernel
theorem dJ7_copyOf_59c91_23 : decode cJ7_copyOf_59c91 23 = .ok (.arraylength, 1) := by decide +kernel
theorem dJ7_copyOf_59c91_24 : decode cJ7_copyOf_59c91 24 = .ok (.iload_n 1, 1) := by decide +kernel
theorem dJ7_copyOf_59c91_25 : decode cJ7_copyOf_59c91 25 = .ok (.invokestatic 304, 3) := by decide +kernel
theorem dJ7_copyOf_59c91_28 : decode cJ7_copyOf_59c91 28 = .ok (.invokestatic 150, 3) := by decide +kernel
theorem dJ7_copyOf_59c91_31 : decode cJ7_copyOf_59c91 31 = .ok (.aload_n 2, 1) := by decide +kernel
theorem dJ7_copyOf_59c91_32 : decode cJ7_copyOf_59c91 32 = .ok (.areturn, 1) := by decide +kernel
theorem wsA_some {cAs : Nat → ClassId} {ρ : Nat → Nat} {σ : AH} {k : Nat} {q : Nat × va_E} (h : (wsA cAs ρ σ)[k]? = some q) : k < nx σ ∧ q = (ρ k, ent cAs ρ σ k) := by
  by_cases c : k < nx σ
  · rw [wsA_get c] at h; cases h; exact ⟨c, rfl⟩
  · rw [List.getElem?_eq_none (by rw [wsA_len]; omega)] at h; cases h
section URules
variable {X : Sx} {l : Launch} {f : MI} {D pc : Nat} {lv : List (Nat × Value)} {st : List Value} {σ σ' : AH} {r : Option Value}
/-- what an array holds behind its end is nobody's -/
theorem E_ext {o n : Nat} {g1 g2 : Nat → Int32} (hk : kd σ o = (100, n)) (ho : o < nx σ) (h : ∀ j, j < n → g1 j = g2 j) (hal : al f o) (kk : E X l f D pc lv st (sA σ o g2) r σ') : E X l f D pc lv st (sA σ o g1) r σ' := by
  refine ⟨kk.1.step (σ := sA σ o g1) rfl rfl rfl (fun h => h) hal (fun i hi => ⟨(up_ne (gI σ) o g2 hi).trans (up_ne (gI σ) o g1 hi).symm, rfl, rfl⟩), fun p e R s m args below meth c G cAs A ρ H locs ls n0 s0 ρ0 hF hW hS hl o1 o2 hn0 hρ => ?_⟩
  refine kk.2 p e R s m args below meth c G cAs A ρ H locs ls n0 s0 ρ0 hF ?_ hS hl o1 o2 hn0 hρ
  obtain ⟨w1, w2, w3, w4⟩ := hW
  refine ⟨w1, fun k q hq => ?_, ⟨fun i j p q hp hq e => ?_, fun k q hq => ?_⟩, w4⟩
  · obtain ⟨k1, rfl⟩ := wsA_some hq
    by_cases z : k = o
    · subst z
      have y := w2 k _ (wsA_get (σ := sA σ k g1) ho)
      have e0 : ∀ g : Nat → Int32, ent cAs ρ (sA σ k g) k = .inl (cAs 100, n, .inl g) := fun g => by
        have ek : kd (sA σ k g) k = (100, n) := hk
        rw [ent, ek]
        simp only [cont]
        rw [gI_sA]; rfl
      rw [e0] at y ⊢
      have ef : (fun j : Fin n => Value.int (g1 j.val)) = fun j : Fin n => Value.int (g2 j.val) := funext fun j => by rw [h j.val j.isLt]
      have ec : vp_cell (cAs 100) (n, .inl g1) = vp_cell (cAs 100) (n, .inl g2) := by
        show arrV (cAs 100) n (fun j => .int (g1 j)) = arrV (cAs 100) n (fun j => .int (g2 j))
        unfold arrV
        rw [ef]
      show H[ρ k]? = some (vp_cell (cAs 100) (n, .inl g2))
      rw [← ec]; exact y
    · have y := w2 k _ (wsA_get (σ := sA σ o g1) (show k < nx σ from k1))
      rw [ent_sA z] at y ⊢
      exact y
  · obtain ⟨k1, rfl⟩ := wsA_some hp
    obtain ⟨k2, rfl⟩ := wsA_some hq
    exact w3.1 i j _ _ (wsA_get (σ := sA σ o g1) (show i < nx σ from k1)) (wsA_get (σ := sA σ o g1) (show j < nx σ from k2)) e
  · obtain ⟨k1, rfl⟩ := wsA_some hq
    exact w3.2 k (ρ k, ent cAs ρ (sA σ o g1) k) (wsA_get (σ := sA σ o g1) (show k < nx σ from k1))
end URules
theorem cn_J7_316 : Cond.methodLink RJ7 316 ⟨"[I", "clone", "()Ljava/lang/Object;"⟩ ∈ lw_good := mem_good (by decide +kernel)
theorem ac_int_ : Cond.arrayClass .int ∈ lw_good := mem_good (by decide +kernel)
theorem call_cpy {X : Sx} {l : Launch} {σ : AH} {d b L : Nat} {n : Int32} (hd : 1 ≤ d) (hk : kd σ b = (100, L)) (hb : b < nx σ) (h0 : ¬ n < 0) (hn : n.toNatClampNeg ≤ 2000000) (hL : L ≤ 2000000) (hx : 166 ≤ nx σ) : Call X l m_J7_copyOf_59c91 d [.ref b, .int n] σ (some (.ref (nx σ))) (sA (aw σ 100 n.toNatClampNeg) (nx σ) (fun j => if j < L ∧ j < n.toNatClampNeg then gI σ b j else 0)) := by
  obtain ⟨N, hN⟩ : ∃ N, N = n.toNatClampNeg := ⟨_, rfl⟩
  have nt : (0 : Int) ≤ n.toInt := by
    have := Int32.not_lt.mp h0
    simpa using Int32.le_iff_toInt_le.mp this
  have nn : n = nI N := Int32.toInt_inj.mp (by
    rw [nI_toInt (by omega), hN]
    show n.toInt = ((n.toInt.toNat : Nat) : Int)
    omega)
  rw [← hN] at hn ⊢
  have al1 : al m_J7_copyOf_59c91 (nx σ) := Or.inr ⟨rfl, hx⟩
  have nb : b ≠ nx σ := by omega
  refine Call.ofE ok_J7_copyOf_59c91 rfl (Nat.le_of_ble_eq_true rfl) ?_
  refine E_iload_n 1 dJ7_copyOf_59c91_0 rfl rfl ?_
  refine E_aload_n 0 dJ7_copyOf_59c91_1 rfl rfl ?_
  refine E_alen dJ7_copyOf_59c91_2 hk hb (by decide) (by decide) ?_
  refine E_icmp_ne 14 dJ7_copyOf_59c91_3 (by decide) (fun c => ?_) (fun c => ?_)
  · refine E_iload_n 1 dJ7_copyOf_59c91_14 rfl rfl ?_
    refine E_newaI N dJ7_copyOf_59c91_15 ac_int_ h0 hN.symm hn ?_
    have kn : kd (aw σ 100 N) (nx σ) = (100, N) := up_same _ _ _
    have ko : kd (aw σ 100 N) b = (100, L) := (up_ne (kd σ) (nx σ) _ nb).trans hk
    have io : gI (aw σ 100 N) b = gI σ b := up_ne (gI σ) (nx σ) _ nb
    have i_ : gI (aw σ 100 N) (nx σ) = fun _ => 0 := up_same _ _ _
    refine E_astore_n [(2, .ref (nx σ)), (0, .ref b), (1, .int n)] dJ7_copyOf_59c91_17 rfl (Nat.le_of_ble_eq_true rfl) rfl ?_
    refine E_aload_n 1 dJ7_copyOf_59c91_18 rfl rfl ?_
    refine E_iconst (0 : Int32) dJ7_copyOf_59c91_19 (by decide) ?_
    refine E_aload_n 0 dJ7_copyOf_59c91_20 rfl rfl ?_
    refine E_iconst (0 : Int32) dJ7_copyOf_59c91_21 (by decide) ?_
    refine E_aload_n 1 dJ7_copyOf_59c91_22 rfl rfl ?_
    refine E_alen dJ7_copyOf_59c91_23 ko (Nat.lt_succ_of_lt hb) (by decide) (by decide) ?_
    refine E_iload_n 2 dJ7_copyOf_59c91_24 rfl rfl ?_
    refine E_mmin dJ7_copyOf_59c91_25 mm_J7_304 hd (Nat.le_of_ble_eq_true rfl) ?_
    have em : imin (Int32.ofNat L) n = nI (min L N) := by
      show imin (nI L) n = _
      unfold imin
      rw [nn]
      by_cases z : N < L
      · rw [if_pos (by rw [Int32.lt_iff_toInt_lt, nI_toInt (by omega), nI_toInt (by omega)]; omega), Nat.min_eq_right (by omega)]
      · rw [if_neg (by rw [Int32.lt_iff_toInt_lt, nI_toInt (by omega), nI_toInt (by omega)]; omega), Nat.min_eq_left (by omega)]
    rw [em]
    have mc : (nI (min L N)).toNatClampNeg = min L N := nI_clamp (by omega)
    have m0 : ¬ nI (min L N) < 0 := fun z => by
      rw [Int32.lt_iff_toInt_lt, nI_toInt (by omega)] at z
      have : (0 : Int32).toInt = 0 := rfl
      omega
    refine E_copy2 0 0 (min L N) dJ7_copyOf_59c91_28 ma_J7_150 ko (Nat.lt_succ_of_lt hb) kn (Nat.lt_succ_self _) (by decide) (by decide) m0 rfl rfl mc (by omega) (by omega) hd (by decide) al1 ?_
    refine E_aload_n 0 dJ7_copyOf_59c91_31 rfl rfl ?_
    have ef : va_cpy (gI (aw σ 100 N) b) (gI (aw σ 100 N) (nx σ)) 0 0 (min L N) = fun j => if j < L ∧ j < N then gI σ b j else 0 := by
      funext j
      unfold va_cpy
      rw [io, i_]
      by_cases z : j < L ∧ j < N
      · rw [if_pos (by omega), if_pos z, Nat.zero_add, Nat.sub_zero]
      · rw [if_neg (by omega), if_neg z]
    rw [ef]
    exact E_aret dJ7_copyOf_59c91_32 rfl (Or.inr ⟨.int, rfl⟩)
  · have eL : L = N := by
      have c' : n = nI L := c
      have := congrArg Int32.toNatClampNeg c'
      rw [nI_clamp (by omega), ← hN] at this
      omega
    subst eL
    refine E_aload_n 0 dJ7_copyOf_59c91_6 rfl rfl ?_
    refine E_clone dJ7_copyOf_59c91_7 cn_J7_316 hk hb hd (by decide) al1 ?_
    refine E_castA dJ7_copyOf_59c91_10 ck_J7_317 (up_same _ _ _) (Nat.lt_succ_self _) ?_
    refine E_ext (n := L) (g2 := fun j => if j < L ∧ j < L then gI σ b j else 0) (up_same _ _ _) (Nat.lt_succ_self _) (fun j hj => by rw [if_pos ⟨hj, hj⟩]) al1 ?_
    exact E_aret dJ7_copyOf_59c91_13 rfl (Or.inr ⟨.int, rfl⟩)
