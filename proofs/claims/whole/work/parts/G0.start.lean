section
/-! WHAT THE LAW STARTS WITH: the words of the tables by their places -/
theorem mt_1 {w : Cond} (h : w ∈ tables_1_1) : w ∈ lw_tbl := List.mem_append_right _ (show w ∈ tables_1 from List.mem_append_left _ h)
theorem mt_2 {w : Cond} (h : w ∈ tables_1_2) : w ∈ lw_tbl := List.mem_append_right _ (show w ∈ tables_1 from List.mem_append_right _ <| List.mem_append_left _ h)
theorem mt_3 {w : Cond} (h : w ∈ tables_1_3) : w ∈ lw_tbl := List.mem_append_right _ (show w ∈ tables_1 from List.mem_append_right _ <| List.mem_append_right _ <| List.mem_append_left _ h)
theorem mt_4 {w : Cond} (h : w ∈ tables_1_4) : w ∈ lw_tbl := List.mem_append_right _ (show w ∈ tables_1 from List.mem_append_right _ <| List.mem_append_right _ <| List.mem_append_right _ <| List.mem_append_left _ h)
theorem mt_5 {w : Cond} (h : w ∈ tables_1_5) : w ∈ lw_tbl := List.mem_append_right _ (show w ∈ tables_1 from List.mem_append_right _ <| List.mem_append_right _ <| List.mem_append_right _ <| List.mem_append_right _ <| List.mem_append_left _ h)
theorem mt_6 {w : Cond} (h : w ∈ tables_1_6) : w ∈ lw_tbl := List.mem_append_right _ (show w ∈ tables_1 from List.mem_append_right _ <| List.mem_append_right _ <| List.mem_append_right _ <| List.mem_append_right _ <| List.mem_append_right _ <| List.mem_append_left _ h)
theorem mt_7 {w : Cond} (h : w ∈ tables_1_7) : w ∈ lw_tbl := List.mem_append_right _ (show w ∈ tables_1 from List.mem_append_right _ <| List.mem_append_right _ <| List.mem_append_right _ <| List.mem_append_right _ <| List.mem_append_right _ <| List.mem_append_right _ <| List.mem_append_left _ h)
theorem mt_8 {w : Cond} (h : w ∈ tables_1_8) : w ∈ lw_tbl := List.mem_append_right _ (show w ∈ tables_1 from List.mem_append_right _ <| List.mem_append_right _ <| List.mem_append_right _ <| List.mem_append_right _ <| List.mem_append_right _ <| List.mem_append_right _ <| List.mem_append_right _ <| List.mem_append_left _ h)
theorem mt_9 {w : Cond} (h : w ∈ tables_1_9) : w ∈ lw_tbl := List.mem_append_right _ (show w ∈ tables_1 from List.mem_append_right _ <| List.mem_append_right _ <| List.mem_append_right _ <| List.mem_append_right _ <| List.mem_append_right _ <| List.mem_append_right _ <| List.mem_append_right _ <| List.mem_append_right _ <| List.mem_append_left _ h)
theorem mt_10 {w : Cond} (h : w ∈ tables_1_10) : w ∈ lw_tbl := List.mem_append_right _ (show w ∈ tables_1 from List.mem_append_right _ <| List.mem_append_right _ <| List.mem_append_right _ <| List.mem_append_right _ <| List.mem_append_right _ <| List.mem_append_right _ <| List.mem_append_right _ <| List.mem_append_right _ <| List.mem_append_right _ <| h)
theorem u_wsin {C : String} {T : u_T} {N : Nat} (h : ∀ k, k < N → u_lay C T k ∈ lw_tbl) : ∀ w ∈ u_ws C T N, w ∈ lw_tbl := fun w hw => by
  obtain ⟨k, hk, rfl⟩ := List.mem_map.mp hw
  exact h k (List.mem_range.mp hk)
theorem in_ws0 : ∀ w ∈ u_ws RX0 TX0 7, w ∈ lw_tbl := u_wsin (fun k hk => match k, hk with
  | 0, _ => mt_4 (List.mem_of_getElem? (i := 17) rfl)
  | 1, _ => mt_4 (List.mem_of_getElem? (i := 19) rfl)
  | 2, _ => mt_4 (List.mem_of_getElem? (i := 21) rfl)
  | 3, _ => mt_4 (List.mem_of_getElem? (i := 23) rfl)
  | 4, _ => mt_4 (List.mem_of_getElem? (i := 25) rfl)
  | 5, _ => mt_4 (List.mem_of_getElem? (i := 27) rfl)
  | 6, _ => mt_4 (List.mem_of_getElem? (i := 29) rfl)
  | k + 7, h => absurd h (by omega))
theorem in_ws1 : ∀ w ∈ u_ws RX1 TX1 14, w ∈ lw_tbl := u_wsin (fun k hk => match k, hk with
  | 0, _ => mt_2 (List.mem_of_getElem? (i := 136) rfl)
  | 1, _ => mt_2 (List.mem_of_getElem? (i := 138) rfl)
  | 2, _ => mt_2 (List.mem_of_getElem? (i := 140) rfl)
  | 3, _ => mt_2 (List.mem_of_getElem? (i := 142) rfl)
  | 4, _ => mt_2 (List.mem_of_getElem? (i := 144) rfl)
  | 5, _ => mt_2 (List.mem_of_getElem? (i := 146) rfl)
  | 6, _ => mt_2 (List.mem_of_getElem? (i := 148) rfl)
  | 7, _ => mt_2 (List.mem_of_getElem? (i := 150) rfl)
  | 8, _ => mt_2 (List.mem_of_getElem? (i := 152) rfl)
  | 9, _ => mt_2 (List.mem_of_getElem? (i := 154) rfl)
  | 10, _ => mt_2 (List.mem_of_getElem? (i := 156) rfl)
  | 11, _ => mt_2 (List.mem_of_getElem? (i := 158) rfl)
  | 12, _ => mt_2 (List.mem_of_getElem? (i := 160) rfl)
  | 13, _ => mt_2 (List.mem_of_getElem? (i := 162) rfl)
  | k + 14, h => absurd h (by omega))
theorem in_ws2 : ∀ w ∈ u_ws RX2 TX2 7, w ∈ lw_tbl := u_wsin (fun k hk => match k, hk with
  | 0, _ => mt_2 (List.mem_of_getElem? (i := 218) rfl)
  | 1, _ => mt_2 (List.mem_of_getElem? (i := 220) rfl)
  | 2, _ => mt_2 (List.mem_of_getElem? (i := 222) rfl)
  | 3, _ => mt_2 (List.mem_of_getElem? (i := 224) rfl)
  | 4, _ => mt_2 (List.mem_of_getElem? (i := 226) rfl)
  | 5, _ => mt_2 (List.mem_of_getElem? (i := 228) rfl)
  | 6, _ => mt_2 (List.mem_of_getElem? (i := 230) rfl)
  | k + 7, h => absurd h (by omega))
theorem in_ws3 : ∀ w ∈ u_ws RX3 TX3 7, w ∈ lw_tbl := u_wsin (fun k hk => match k, hk with
  | 0, _ => mt_1 (List.mem_of_getElem? (i := 207) rfl)
  | 1, _ => mt_1 (List.mem_of_getElem? (i := 209) rfl)
  | 2, _ => mt_1 (List.mem_of_getElem? (i := 211) rfl)
  | 3, _ => mt_1 (List.mem_of_getElem? (i := 213) rfl)
  | 4, _ => mt_1 (List.mem_of_getElem? (i := 215) rfl)
  | 5, _ => mt_1 (List.mem_of_getElem? (i := 217) rfl)
  | 6, _ => mt_1 (List.mem_of_getElem? (i := 219) rfl)
  | k + 7, h => absurd h (by omega))
theorem in_ws4 : ∀ w ∈ u_ws RX4 TX4 9, w ∈ lw_tbl := u_wsin (fun k hk => match k, hk with
  | 0, _ => mt_2 (List.mem_of_getElem? (i := 186) rfl)
  | 1, _ => mt_2 (List.mem_of_getElem? (i := 188) rfl)
  | 2, _ => mt_2 (List.mem_of_getElem? (i := 190) rfl)
  | 3, _ => mt_2 (List.mem_of_getElem? (i := 192) rfl)
  | 4, _ => mt_2 (List.mem_of_getElem? (i := 194) rfl)
  | 5, _ => mt_2 (List.mem_of_getElem? (i := 196) rfl)
  | 6, _ => mt_2 (List.mem_of_getElem? (i := 198) rfl)
  | 7, _ => mt_2 (List.mem_of_getElem? (i := 200) rfl)
  | 8, _ => mt_2 (List.mem_of_getElem? (i := 202) rfl)
  | k + 9, h => absurd h (by omega))
theorem in_ws5 : ∀ w ∈ u_ws RX5 TX5 13, w ∈ lw_tbl := u_wsin (fun k hk => match k, hk with
  | 0, _ => mt_1 (List.mem_of_getElem? (i := 164) rfl)
  | 1, _ => mt_1 (List.mem_of_getElem? (i := 166) rfl)
  | 2, _ => mt_1 (List.mem_of_getElem? (i := 168) rfl)
  | 3, _ => mt_1 (List.mem_of_getElem? (i := 170) rfl)
  | 4, _ => mt_1 (List.mem_of_getElem? (i := 172) rfl)
  | 5, _ => mt_1 (List.mem_of_getElem? (i := 174) rfl)
  | 6, _ => mt_1 (List.mem_of_getElem? (i := 176) rfl)
  | 7, _ => mt_1 (List.mem_of_getElem? (i := 178) rfl)
  | 8, _ => mt_1 (List.mem_of_getElem? (i := 180) rfl)
  | 9, _ => mt_1 (List.mem_of_getElem? (i := 182) rfl)
  | 10, _ => mt_1 (List.mem_of_getElem? (i := 184) rfl)
  | 11, _ => mt_1 (List.mem_of_getElem? (i := 186) rfl)
  | 12, _ => mt_1 (List.mem_of_getElem? (i := 188) rfl)
  | k + 13, h => absurd h (by omega))
theorem in_ws6 : ∀ w ∈ u_ws RX6 TX6 5, w ∈ lw_tbl := u_wsin (fun k hk => match k, hk with
  | 0, _ => mt_2 (List.mem_of_getElem? (i := 96) rfl)
  | 1, _ => mt_2 (List.mem_of_getElem? (i := 98) rfl)
  | 2, _ => mt_2 (List.mem_of_getElem? (i := 100) rfl)
  | 3, _ => mt_2 (List.mem_of_getElem? (i := 102) rfl)
  | 4, _ => mt_2 (List.mem_of_getElem? (i := 104) rfl)
  | k + 5, h => absurd h (by omega))
theorem in_ws7 : ∀ w ∈ u_ws RX7 TX7 10, w ∈ lw_tbl := u_wsin (fun k hk => match k, hk with
  | 0, _ => mt_2 (List.mem_of_getElem? (i := 68) rfl)
  | 1, _ => mt_2 (List.mem_of_getElem? (i := 70) rfl)
  | 2, _ => mt_2 (List.mem_of_getElem? (i := 72) rfl)
  | 3, _ => mt_2 (List.mem_of_getElem? (i := 74) rfl)
  | 4, _ => mt_2 (List.mem_of_getElem? (i := 76) rfl)
  | 5, _ => mt_2 (List.mem_of_getElem? (i := 78) rfl)
  | 6, _ => mt_2 (List.mem_of_getElem? (i := 80) rfl)
  | 7, _ => mt_2 (List.mem_of_getElem? (i := 82) rfl)
  | 8, _ => mt_2 (List.mem_of_getElem? (i := 84) rfl)
  | 9, _ => mt_2 (List.mem_of_getElem? (i := 86) rfl)
  | k + 10, h => absurd h (by omega))
theorem in_ws8 : ∀ w ∈ u_ws RX8 TX8 4, w ∈ lw_tbl := u_wsin (fun k hk => match k, hk with
  | 0, _ => mt_1 (List.mem_of_getElem? (i := 50) rfl)
  | 1, _ => mt_1 (List.mem_of_getElem? (i := 52) rfl)
  | 2, _ => mt_1 (List.mem_of_getElem? (i := 54) rfl)
  | 3, _ => mt_1 (List.mem_of_getElem? (i := 56) rfl)
  | k + 4, h => absurd h (by omega))
theorem in_ws9 : ∀ w ∈ u_ws RX9 TX9 16, w ∈ lw_tbl := u_wsin (fun k hk => match k, hk with
  | 0, _ => mt_1 (List.mem_of_getElem? (i := 104) rfl)
  | 1, _ => mt_1 (List.mem_of_getElem? (i := 106) rfl)
  | 2, _ => mt_1 (List.mem_of_getElem? (i := 108) rfl)
  | 3, _ => mt_1 (List.mem_of_getElem? (i := 110) rfl)
  | 4, _ => mt_1 (List.mem_of_getElem? (i := 112) rfl)
  | 5, _ => mt_1 (List.mem_of_getElem? (i := 114) rfl)
  | 6, _ => mt_1 (List.mem_of_getElem? (i := 116) rfl)
  | 7, _ => mt_1 (List.mem_of_getElem? (i := 118) rfl)
  | 8, _ => mt_1 (List.mem_of_getElem? (i := 120) rfl)
  | 9, _ => mt_1 (List.mem_of_getElem? (i := 122) rfl)
  | 10, _ => mt_1 (List.mem_of_getElem? (i := 124) rfl)
  | 11, _ => mt_1 (List.mem_of_getElem? (i := 126) rfl)
  | 12, _ => mt_1 (List.mem_of_getElem? (i := 128) rfl)
  | 13, _ => mt_1 (List.mem_of_getElem? (i := 130) rfl)
  | 14, _ => mt_1 (List.mem_of_getElem? (i := 132) rfl)
  | 15, _ => mt_1 (List.mem_of_getElem? (i := 134) rfl)
  | k + 16, h => absurd h (by omega))
theorem in_ws10 : ∀ w ∈ u_ws RX10 TX10 14, w ∈ lw_tbl := u_wsin (fun k hk => match k, hk with
  | 0, _ => mt_2 (List.mem_of_getElem? (i := 3) rfl)
  | 1, _ => mt_2 (List.mem_of_getElem? (i := 5) rfl)
  | 2, _ => mt_2 (List.mem_of_getElem? (i := 7) rfl)
  | 3, _ => mt_2 (List.mem_of_getElem? (i := 9) rfl)
  | 4, _ => mt_2 (List.mem_of_getElem? (i := 11) rfl)
  | 5, _ => mt_2 (List.mem_of_getElem? (i := 13) rfl)
  | 6, _ => mt_2 (List.mem_of_getElem? (i := 15) rfl)
  | 7, _ => mt_2 (List.mem_of_getElem? (i := 17) rfl)
  | 8, _ => mt_2 (List.mem_of_getElem? (i := 19) rfl)
  | 9, _ => mt_2 (List.mem_of_getElem? (i := 21) rfl)
  | 10, _ => mt_2 (List.mem_of_getElem? (i := 23) rfl)
  | 11, _ => mt_2 (List.mem_of_getElem? (i := 25) rfl)
  | 12, _ => mt_2 (List.mem_of_getElem? (i := 27) rfl)
  | 13, _ => mt_2 (List.mem_of_getElem? (i := 29) rfl)
  | k + 14, h => absurd h (by omega))
theorem in_ws11 : ∀ w ∈ u_ws RX11 TX11 14, w ∈ lw_tbl := u_wsin (fun k hk => match k, hk with
  | 0, _ => mt_3 (List.mem_of_getElem? (i := 7) rfl)
  | 1, _ => mt_3 (List.mem_of_getElem? (i := 9) rfl)
  | 2, _ => mt_3 (List.mem_of_getElem? (i := 11) rfl)
  | 3, _ => mt_3 (List.mem_of_getElem? (i := 13) rfl)
  | 4, _ => mt_3 (List.mem_of_getElem? (i := 15) rfl)
  | 5, _ => mt_3 (List.mem_of_getElem? (i := 17) rfl)
  | 6, _ => mt_3 (List.mem_of_getElem? (i := 19) rfl)
  | 7, _ => mt_3 (List.mem_of_getElem? (i := 21) rfl)
  | 8, _ => mt_3 (List.mem_of_getElem? (i := 23) rfl)
  | 9, _ => mt_3 (List.mem_of_getElem? (i := 25) rfl)
  | 10, _ => mt_3 (List.mem_of_getElem? (i := 27) rfl)
  | 11, _ => mt_3 (List.mem_of_getElem? (i := 29) rfl)
  | 12, _ => mt_3 (List.mem_of_getElem? (i := 31) rfl)
  | 13, _ => mt_3 (List.mem_of_getElem? (i := 33) rfl)
  | k + 14, h => absurd h (by omega))
theorem in_ws12 : ∀ w ∈ u_ws RX12 TX12 69, w ∈ lw_tbl := u_wsin (fun k hk => match k, hk with
  | 0, _ => mt_7 (List.mem_of_getElem? (i := 10) rfl)
  | 1, _ => mt_7 (List.mem_of_getElem? (i := 12) rfl)
  | 2, _ => mt_7 (List.mem_of_getElem? (i := 14) rfl)
  | 3, _ => mt_7 (List.mem_of_getElem? (i := 16) rfl)
  | 4, _ => mt_7 (List.mem_of_getElem? (i := 18) rfl)
  | 5, _ => mt_7 (List.mem_of_getElem? (i := 20) rfl)
  | 6, _ => mt_7 (List.mem_of_getElem? (i := 22) rfl)
  | 7, _ => mt_7 (List.mem_of_getElem? (i := 24) rfl)
  | 8, _ => mt_7 (List.mem_of_getElem? (i := 26) rfl)
  | 9, _ => mt_7 (List.mem_of_getElem? (i := 28) rfl)
  | 10, _ => mt_7 (List.mem_of_getElem? (i := 30) rfl)
  | 11, _ => mt_7 (List.mem_of_getElem? (i := 32) rfl)
  | 12, _ => mt_7 (List.mem_of_getElem? (i := 34) rfl)
  | 13, _ => mt_7 (List.mem_of_getElem? (i := 36) rfl)
  | 14, _ => mt_7 (List.mem_of_getElem? (i := 38) rfl)
  | 15, _ => mt_7 (List.mem_of_getElem? (i := 40) rfl)
  | 16, _ => mt_7 (List.mem_of_getElem? (i := 42) rfl)
  | 17, _ => mt_7 (List.mem_of_getElem? (i := 44) rfl)
  | 18, _ => mt_7 (List.mem_of_getElem? (i := 46) rfl)
  | 19, _ => mt_7 (List.mem_of_getElem? (i := 48) rfl)
  | 20, _ => mt_7 (List.mem_of_getElem? (i := 50) rfl)
  | 21, _ => mt_7 (List.mem_of_getElem? (i := 52) rfl)
  | 22, _ => mt_7 (List.mem_of_getElem? (i := 54) rfl)
  | 23, _ => mt_7 (List.mem_of_getElem? (i := 56) rfl)
  | 24, _ => mt_7 (List.mem_of_getElem? (i := 58) rfl)
  | 25, _ => mt_7 (List.mem_of_getElem? (i := 60) rfl)
  | 26, _ => mt_7 (List.mem_of_getElem? (i := 62) rfl)
  | 27, _ => mt_7 (List.mem_of_getElem? (i := 64) rfl)
  | 28, _ => mt_7 (List.mem_of_getElem? (i := 66) rfl)
  | 29, _ => mt_7 (List.mem_of_getElem? (i := 68) rfl)
  | 30, _ => mt_7 (List.mem_of_getElem? (i := 70) rfl)
  | 31, _ => mt_7 (List.mem_of_getElem? (i := 72) rfl)
  | 32, _ => mt_7 (List.mem_of_getElem? (i := 74) rfl)
  | 33, _ => mt_7 (List.mem_of_getElem? (i := 76) rfl)
  | 34, _ => mt_7 (List.mem_of_getElem? (i := 78) rfl)
  | 35, _ => mt_7 (List.mem_of_getElem? (i := 80) rfl)
  | 36, _ => mt_7 (List.mem_of_getElem? (i := 82) rfl)
  | 37, _ => mt_7 (List.mem_of_getElem? (i := 84) rfl)
  | 38, _ => mt_7 (List.mem_of_getElem? (i := 86) rfl)
  | 39, _ => mt_7 (List.mem_of_getElem? (i := 88) rfl)
  | 40, _ => mt_7 (List.mem_of_getElem? (i := 90) rfl)
  | 41, _ => mt_7 (List.mem_of_getElem? (i := 92) rfl)
  | 42, _ => mt_7 (List.mem_of_getElem? (i := 94) rfl)
  | 43, _ => mt_7 (List.mem_of_getElem? (i := 96) rfl)
  | 44, _ => mt_7 (List.mem_of_getElem? (i := 98) rfl)
  | 45, _ => mt_7 (List.mem_of_getElem? (i := 100) rfl)
  | 46, _ => mt_7 (List.mem_of_getElem? (i := 102) rfl)
  | 47, _ => mt_7 (List.mem_of_getElem? (i := 104) rfl)
  | 48, _ => mt_7 (List.mem_of_getElem? (i := 106) rfl)
  | 49, _ => mt_7 (List.mem_of_getElem? (i := 108) rfl)
  | 50, _ => mt_7 (List.mem_of_getElem? (i := 110) rfl)
  | 51, _ => mt_7 (List.mem_of_getElem? (i := 112) rfl)
  | 52, _ => mt_7 (List.mem_of_getElem? (i := 114) rfl)
  | 53, _ => mt_7 (List.mem_of_getElem? (i := 116) rfl)
  | 54, _ => mt_7 (List.mem_of_getElem? (i := 118) rfl)
  | 55, _ => mt_7 (List.mem_of_getElem? (i := 120) rfl)
  | 56, _ => mt_7 (List.mem_of_getElem? (i := 122) rfl)
  | 57, _ => mt_7 (List.mem_of_getElem? (i := 124) rfl)
  | 58, _ => mt_7 (List.mem_of_getElem? (i := 126) rfl)
  | 59, _ => mt_7 (List.mem_of_getElem? (i := 128) rfl)
  | 60, _ => mt_7 (List.mem_of_getElem? (i := 130) rfl)
  | 61, _ => mt_7 (List.mem_of_getElem? (i := 132) rfl)
  | 62, _ => mt_7 (List.mem_of_getElem? (i := 134) rfl)
  | 63, _ => mt_7 (List.mem_of_getElem? (i := 136) rfl)
  | 64, _ => mt_7 (List.mem_of_getElem? (i := 138) rfl)
  | 65, _ => mt_7 (List.mem_of_getElem? (i := 140) rfl)
  | 66, _ => mt_7 (List.mem_of_getElem? (i := 142) rfl)
  | 67, _ => mt_7 (List.mem_of_getElem? (i := 144) rfl)
  | 68, _ => mt_7 (List.mem_of_getElem? (i := 146) rfl)
  | k + 69, h => absurd h (by omega))
def tmS : Nat → Term := fun i => .string "WarHouses$Reader" (st_idx.getD i 0)
def gvb (i : Nat) : List Cond := Cond.exactly (tmS i) "java/lang/String" :: Cond.eq (.field (tmS i) "java/lang/String" "coder" "B") (.int 0) :: Cond.arrayOf (.field (tmS i) "java/lang/String" "value" "[B") .byte :: Cond.eq (.length (.field (tmS i) "java/lang/String" "value" "[B")) (.int (Int32.ofNat (st_len.getD i 0))) :: ((List.range (st_len.getD i 0)).map (fun j => Cond.eq (.elem (.field (tmS i) "java/lang/String" "value" "[B") (.int (Int32.ofNat j))) (.int ((st_byt.getD i []).getD j 0))) ++ (List.range i).map (fun k => Cond.not (.eq (tmS k) (tmS i))))
theorem gv_all : (flatC (Jvm.Cond.and given_1 narrow_1)).drop 48 = (List.range 12).flatMap gvb := by decide +kernel
theorem gv_in {i : Nat} {w : Cond} (hi : i < 12) (h : w ∈ gvb i) : w ∈ flatC (Jvm.Cond.and given_1 narrow_1) := List.mem_of_mem_drop (i := 48) (by rw [gv_all]; exact List.mem_flatMap.mpr ⟨i, List.mem_range.mpr hi, h⟩)
theorem gv_0 {i : Nat} (hi : i < 12) : Cond.exactly (tmS i) "java/lang/String" ∈ flatC (Jvm.Cond.and given_1 narrow_1) := gv_in hi List.mem_cons_self
theorem gv_1 {i : Nat} (hi : i < 12) : Cond.eq (.field (tmS i) "java/lang/String" "coder" "B") (.int 0) ∈ flatC (Jvm.Cond.and given_1 narrow_1) := gv_in hi (List.mem_cons_of_mem _ List.mem_cons_self)
theorem gv_2 {i : Nat} (hi : i < 12) : Cond.arrayOf (.field (tmS i) "java/lang/String" "value" "[B") .byte ∈ flatC (Jvm.Cond.and given_1 narrow_1) := gv_in hi (List.mem_cons_of_mem _ (List.mem_cons_of_mem _ List.mem_cons_self))
theorem gv_3 {i : Nat} (hi : i < 12) : Cond.eq (.length (.field (tmS i) "java/lang/String" "value" "[B")) (.int (Int32.ofNat (st_len.getD i 0))) ∈ flatC (Jvm.Cond.and given_1 narrow_1) := gv_in hi (List.mem_cons_of_mem _ (List.mem_cons_of_mem _ (List.mem_cons_of_mem _ List.mem_cons_self)))
theorem gv_4 {i j : Nat} (hi : i < 12) (hj : j < st_len.getD i 0) : Cond.eq (.elem (.field (tmS i) "java/lang/String" "value" "[B") (.int (Int32.ofNat j))) (.int ((st_byt.getD i []).getD j 0)) ∈ flatC (Jvm.Cond.and given_1 narrow_1) := gv_in hi (List.mem_cons_of_mem _ (List.mem_cons_of_mem _ (List.mem_cons_of_mem _ (List.mem_cons_of_mem _ (List.mem_append_left _ (List.mem_map.mpr ⟨j, List.mem_range.mpr hj, rfl⟩))))))
theorem gv_5 {i k : Nat} (hi : i < 12) (hk : k < i) : Cond.not (.eq (tmS k) (tmS i)) ∈ flatC (Jvm.Cond.and given_1 narrow_1) := gv_in hi (List.mem_cons_of_mem _ (List.mem_cons_of_mem _ (List.mem_cons_of_mem _ (List.mem_cons_of_mem _ (List.mem_append_right _ (List.mem_map.mpr ⟨k, List.mem_range.mpr hk, rfl⟩))))))
theorem gv_cs : Cond.eq (.static "java/lang/String" "COMPACT_STRINGS" "Z") (.int 1) ∈ flatC (Jvm.Cond.and given_1 narrow_1) := by decide +kernel
theorem gv_sf : Cond.isRef (.static "jdk/internal/util/Preconditions" "SIOOBE_FORMATTER" "Ljava/util/function/BiFunction;") ∈ flatC (Jvm.Cond.and given_1 narrow_1) := by decide +kernel
theorem in_str : ∀ i, i < 12 → Cond.stringRef "WarHouses$Reader" (st_idx.getD i 0) (st_tx.getD i "") ∈ lw_tbl := fun i hi => match i, hi with
  | 0, _ => mt_3 (List.mem_of_getElem? (i := 82) rfl)
  | 1, _ => mt_3 (List.mem_of_getElem? (i := 147) rfl)
  | 2, _ => mt_3 (List.mem_of_getElem? (i := 152) rfl)
  | 3, _ => mt_3 (List.mem_of_getElem? (i := 157) rfl)
  | 4, _ => mt_3 (List.mem_of_getElem? (i := 158) rfl)
  | 5, _ => mt_3 (List.mem_of_getElem? (i := 159) rfl)
  | 6, _ => mt_3 (List.mem_of_getElem? (i := 186) rfl)
  | 7, _ => mt_3 (List.mem_of_getElem? (i := 195) rfl)
  | 8, _ => mt_3 (List.mem_of_getElem? (i := 196) rfl)
  | 9, _ => mt_3 (List.mem_of_getElem? (i := 209) rfl)
  | 10, _ => mt_3 (List.mem_of_getElem? (i := 214) rfl)
  | 11, _ => mt_3 (List.mem_of_getElem? (i := 215) rfl)
  | k + 12, h => absurd h (by omega)
theorem in_nest : ∀ q ∈ nestT, Cond.methodLinkNest q.1 q.2.1 q.2.2 "WarHouses" ∈ lw_tbl := List.forall_mem_cons.mpr ⟨mt_1 (List.mem_of_getElem? (i := 31) rfl), List.forall_mem_cons.mpr ⟨mt_1 (List.mem_of_getElem? (i := 140) rfl), List.forall_mem_cons.mpr ⟨mt_2 (List.mem_of_getElem? (i := 34) rfl), List.forall_mem_cons.mpr ⟨mt_2 (List.mem_of_getElem? (i := 40) rfl), List.forall_mem_cons.mpr ⟨mt_2 (List.mem_of_getElem? (i := 114) rfl), List.forall_mem_cons.mpr ⟨mt_3 (List.mem_of_getElem? (i := 160) rfl), List.forall_mem_cons.mpr ⟨mt_4 (List.mem_of_getElem? (i := 228) rfl), fun _ h => absurd h List.not_mem_nil⟩⟩⟩⟩⟩⟩⟩
theorem iw_cs : Cond.laysStatic "java/lang/String" "COMPACT_STRINGS" "Z" ∈ lw_tbl := mt_3 (List.mem_of_getElem? (i := 100) rfl)
theorem iw_st : Cond.initialized "java/lang/String" ∈ lw_tbl := mt_1 (List.mem_of_getElem? (i := 15) rfl)
theorem iw_sf : Cond.laysStatic "jdk/internal/util/Preconditions" "SIOOBE_FORMATTER" "Ljava/util/function/BiFunction;" ∈ lw_tbl := mt_3 (List.mem_of_getElem? (i := 116) rfl)
theorem iw_pc : Cond.initialized "jdk/internal/util/Preconditions" ∈ lw_tbl := mt_1 (List.mem_of_getElem? (i := 17) rfl)
theorem iw_cl : Cond.castable "[I" "java/lang/Cloneable" ∈ lw_tbl := mt_3 (List.mem_of_getElem? (i := 235) rfl)
theorem iw_int : Cond.arrayClass .int ∈ lw_tbl := mt_1 (List.mem_of_getElem? (i := 59) rfl)
theorem iw_boolean : Cond.arrayClass .boolean ∈ lw_tbl := mt_7 (List.mem_of_getElem? (i := 149) rfl)
theorem iw_long : Cond.arrayClass .long ∈ lw_tbl := mt_1 (List.mem_of_getElem? (i := 222) rfl)
theorem iw_Act : Cond.arrayOver (.object "WarHouses$Act") ∈ lw_tbl := mt_1 (List.mem_of_getElem? (i := 36) rfl)
theorem iw_Told : Cond.arrayOver (.object "WarHouses$Told") ∈ lw_tbl := mt_1 (List.mem_of_getElem? (i := 137) rfl)
theorem iw_Site : Cond.arrayOver (.object "WarHouses$Site") ∈ lw_tbl := mt_2 (List.mem_of_getElem? (i := 115) rfl)
theorem iw_n0 : Cond.instantiable RX0 7 ∈ lw_tbl := mt_3 (List.mem_of_getElem? (i := 222) rfl)
theorem iw_n1 : Cond.instantiable RX1 14 ∈ lw_tbl := mt_2 (List.mem_of_getElem? (i := 108) rfl)
theorem iw_n2 : Cond.instantiable RX2 7 ∈ lw_tbl := mt_2 (List.mem_of_getElem? (i := 206) rfl)
theorem iw_n3 : Cond.instantiable RX3 7 ∈ lw_tbl := mt_1 (List.mem_of_getElem? (i := 192) rfl)
theorem iw_n4 : Cond.instantiable RX4 9 ∈ lw_tbl := mt_2 (List.mem_of_getElem? (i := 166) rfl)
theorem iw_n5 : Cond.instantiable RX5 13 ∈ lw_tbl := mt_1 (List.mem_of_getElem? (i := 139) rfl)
theorem iw_n6 : Cond.instantiable RX6 5 ∈ lw_tbl := mt_2 (List.mem_of_getElem? (i := 33) rfl)
theorem iw_n7 : Cond.instantiable RX7 10 ∈ lw_tbl := mt_2 (List.mem_of_getElem? (i := 39) rfl)
theorem iw_n8 : Cond.instantiable RX8 4 ∈ lw_tbl := mt_1 (List.mem_of_getElem? (i := 38) rfl)
theorem iw_n9 : Cond.instantiable RX9 16 ∈ lw_tbl := mt_1 (List.mem_of_getElem? (i := 30) rfl)
theorem iw_n10 : Cond.instantiable RX10 14 ∈ lw_tbl := mt_1 (List.mem_of_getElem? (i := 224) rfl)
theorem iw_n11 : Cond.instantiable RX11 14 ∈ lw_tbl := mt_1 (List.mem_of_getElem? (i := 22) rfl)
theorem iw_n12 : Cond.instantiable RX12 69 ∈ lw_tbl := mt_6 (List.mem_of_getElem? (i := 173) rfl)
/-- what the start has of classes, arrays, String constants, statics -/
theorem sp_start {s : State} {b L : Nat} {xs : Nat → Int32} (hts : ∀ w ∈ lw_tbl, w.before #[Value.ref b] s = true) (hX : va_X b L xs s s.heap) (hbl : b < s.heap.size) (hgv : (Jvm.Cond.and given_1 narrow_1).before #[Value.ref b] s = true) : ∃ ρ : Nat → Nat, ρ 1000000 = b ∧ Sp (L, xs) (fun q => s.heap.size ≤ q) ρ s s.heap := by
  have hs := flat_of_before _ hgv
  have hAz : ∀ a : Nat, a < s.heap.size → ¬ (fun q : Nat => s.heap.size ≤ q) a := fun a h => Nat.not_le.mpr h
  obtain ⟨adK, adV, hZk, hEv⟩ := vk_Sof (args := #[Value.ref b]) (A := (fun q : Nat => s.heap.size ≤ q)) (tm := tmS) (len := st_len) (byt := st_byt) (N := 12) (fun i hi => by revert i hi; decide) (fun i hi => hs _ (gv_0 hi)) (fun i hi => hs _ (gv_1 hi)) (fun i hi => hs _ (gv_2 hi)) (fun i hi => hs _ (gv_3 hi)) (fun i hi j hj => hs _ (gv_4 hi hj)) (fun i j hi hj hij => (Nat.lt_or_gt_of_ne hij).elim (fun h => Or.inl (hs _ (gv_5 hj h))) (fun h => Or.inr (hs _ (gv_5 hi h)))) hAz
  obtain ⟨ρ, hρ⟩ : ∃ ρ : Nat → Nat, ρ = fun i => if i = 1000000 then b else if i < 1001000 then adK (i - 1000001) else adV (i - 2000001) := ⟨_, rfl⟩
  have r0 : ρ 1000000 = b := by rw [hρ]; exact if_pos rfl
  have rK : ∀ i, i < 12 → ρ (1000001 + i) = adK i := fun i hi => by
    rw [hρ]; dsimp only
    rw [if_neg (by omega), if_pos (by omega), Nat.add_sub_cancel_left]
  have rV : ∀ i, ρ (2000001 + i) = adV i := fun i => by
    rw [hρ]; dsimp only
    rw [if_neg (by omega), if_neg (by omega), Nat.add_sub_cancel_left]
  have z : vk_S 12 st_len st_byt (fun i => ρ (1000001 + i)) (fun i => ρ (2000001 + i)) (fun q => s.heap.size ≤ q) s s.heap := by
    refine ⟨fun i hi => ?_, fun i j hi hj e => ?_⟩
    · have := hZk.1 i hi
      dsimp only
      rw [rK i hi, rV i]; exact this
    · dsimp only at e
      rw [rK i hi, rK j hj] at e
      exact hZk.2 i j hi hj e
  refine ⟨ρ, r0, ⟨by rw [r0]; exact hX, by rw [r0]; exact hbl, by rw [r0]; exact hAz b hbl⟩, z, fun i hi => ?_, va_Zof (hts _ iw_cs) (hts _ iw_st) (va_eqi (hs _ gv_cs)) hAz, va_Zqof (hts _ iw_sf) (hts _ iw_pc) (hs _ gv_sf) hAz, ⟨va_AO.of (hts _ iw_Act), va_AO.of (hts _ iw_Told), va_AO.of (hts _ iw_Site)⟩, fun q hq => va_Nw.of rfl (hts _ (in_nest q hq)), va_Nw.of rfl (hts _ iw_cl)⟩
  rw [rK i hi]
  exact vk_R.of (hts _ (in_str i hi)) (hEv i hi)
theorem arr_of {s : State} {args : Array Value} {ty : FieldType} (h : (Cond.arrayClass ty).before args s = true) (ho : ∀ C, ty ≠ .object C) : ∃ cA, ArrOfT s cA ty ∧ va_RA s cA ty := by
  obtain ⟨cA, kA, comp, h1, h2, h3⟩ := Cond.arrayClass_spec h
  refine ⟨cA, fun n z => ⟨fun k h => (by cases h), kA, h2, comp, h3⟩, ?_⟩
  cases ty with
  | object C => exact absurd rfl (ho C)
  | _ => exact h1
theorem arr_ob {s : State} {args : Array Value} {C : String} (h : (Cond.arrayOver (.object C)).before args s = true) : ∃ cA, ArrOfT s cA (.object C) ∧ va_RA s cA (.object C) := by
  obtain ⟨comp, c, k, h1, h2, h3, h4, h5⟩ := Cond.arrayOver_spec h
  exact ⟨c, fun n z => ⟨fun k h => (by cases h), k, h3, comp, h4⟩, k, comp, h3, h4, h1, h5⟩
theorem wsE (cAs : Nat → ClassId) (ρ : Nat → Nat) : wsA cAs ρ E0 = [] := rfl
theorem wsE_no {P : Prop} {cAs : Nat → ClassId} {ρ : Nat → Nat} {k : Nat} {q : Nat × va_E} (h : (wsA cAs ρ E0)[k]? = some q) : P := by
  rw [wsE] at h; simp at h
theorem wd_start {s : State} {b : Nat} (hts : ∀ w ∈ lw_tbl, w.before #[Value.ref b] s = true) (A : Nat → Prop) (ρ : Nat → Nat) : ∃ (G : va_G) (cAs : Nat → ClassId), Wd G cAs A ρ E0 s s.heap := by
  obtain ⟨c0, i0, k0⟩ := u_known (C := RX0) (T := TX0) (N := 7) (n := 7) hts in_ws0 (hts _ iw_n0)
  obtain ⟨c1, i1, k1⟩ := u_known (C := RX1) (T := TX1) (N := 14) (n := 14) hts in_ws1 (hts _ iw_n1)
  obtain ⟨c2, i2, k2⟩ := u_known (C := RX2) (T := TX2) (N := 7) (n := 7) hts in_ws2 (hts _ iw_n2)
  obtain ⟨c3, i3, k3⟩ := u_known (C := RX3) (T := TX3) (N := 7) (n := 7) hts in_ws3 (hts _ iw_n3)
  obtain ⟨c4, i4, k4⟩ := u_known (C := RX4) (T := TX4) (N := 9) (n := 9) hts in_ws4 (hts _ iw_n4)
  obtain ⟨c5, i5, k5⟩ := u_known (C := RX5) (T := TX5) (N := 13) (n := 13) hts in_ws5 (hts _ iw_n5)
  obtain ⟨c6, i6, k6⟩ := u_known (C := RX6) (T := TX6) (N := 5) (n := 5) hts in_ws6 (hts _ iw_n6)
  obtain ⟨c7, i7, k7⟩ := u_known (C := RX7) (T := TX7) (N := 10) (n := 10) hts in_ws7 (hts _ iw_n7)
  obtain ⟨c8, i8, k8⟩ := u_known (C := RX8) (T := TX8) (N := 4) (n := 4) hts in_ws8 (hts _ iw_n8)
  obtain ⟨c9, i9, k9⟩ := u_known (C := RX9) (T := TX9) (N := 16) (n := 16) hts in_ws9 (hts _ iw_n9)
  obtain ⟨c10, i10, k10⟩ := u_known (C := RX10) (T := TX10) (N := 14) (n := 14) hts in_ws10 (hts _ iw_n10)
  obtain ⟨c11, i11, k11⟩ := u_known (C := RX11) (T := TX11) (N := 14) (n := 14) hts in_ws11 (hts _ iw_n11)
  obtain ⟨c12, i12, k12⟩ := u_known (C := RX12) (T := TX12) (N := 69) (n := 69) hts in_ws12 (hts _ iw_n12)
  obtain ⟨a0, p0⟩ := arr_of (ty := .int) (hts _ iw_int) (fun C z => by cases z)
  obtain ⟨a1, p1⟩ := arr_of (ty := .boolean) (hts _ iw_boolean) (fun C z => by cases z)
  obtain ⟨a2, p2⟩ := arr_of (ty := .long) (hts _ iw_long) (fun C z => by cases z)
  obtain ⟨a3, p3⟩ := arr_ob (hts _ iw_Act)
  obtain ⟨a4, p4⟩ := arr_ob (hts _ iw_Told)
  obtain ⟨a5, p5⟩ := arr_ob (hts _ iw_Site)
  refine ⟨(fun k => if k = 0 then c0 else if k = 1 then c1 else if k = 2 then c2 else if k = 3 then c3 else if k = 4 then c4 else if k = 5 then c5 else if k = 6 then c6 else if k = 7 then c7 else if k = 8 then c8 else if k = 9 then c9 else if k = 10 then c10 else if k = 11 then c11 else c12, fun k => if k = 0 then i0 else if k = 1 then i1 else if k = 2 then i2 else if k = 3 then i3 else if k = 4 then i4 else if k = 5 then i5 else if k = 6 then i6 else if k = 7 then i7 else if k = 8 then i8 else if k = 9 then i9 else if k = 10 then i10 else if k = 11 then i11 else i12), fun t => if t = 100 then a0 else if t = 101 then a1 else if t = 102 then a2 else if t = 103 then a3 else if t = 104 then a4 else a5, ⟨fun k q hq => ?_, fun k q hq => ?_⟩, fun k q h => wsE_no h, ⟨fun i j p q h _ _ => wsE_no h, fun k q h => wsE_no h⟩, fun o k b h => absurd (show (none : Option Nat) = some b from h) (by simp)⟩
  · match k, hq with
    | 0, hq => cases hq; exact k0
    | 1, hq => cases hq; exact k1
    | 2, hq => cases hq; exact k2
    | 3, hq => cases hq; exact k3
    | 4, hq => cases hq; exact k4
    | 5, hq => cases hq; exact k5
    | 6, hq => cases hq; exact k6
    | 7, hq => cases hq; exact k7
    | 8, hq => cases hq; exact k8
    | 9, hq => cases hq; exact k9
    | 10, hq => cases hq; exact k10
    | 11, hq => cases hq; exact k11
    | 12, hq => cases hq; exact k12
    | k + 13, hq => simp [vwCl] at hq
  · match k, hq with
    | 0, hq => cases hq; exact p0
    | 1, hq => cases hq; exact p1
    | 2, hq => cases hq; exact p2
    | 3, hq => cases hq; exact p3
    | 4, hq => cases hq; exact p4
    | 5, hq => cases hq; exact p5
    | k + 6, hq => simp [tysA] at hq
end
