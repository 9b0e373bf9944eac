theorem mg_1 {w : Cond} (h : w ∈ tables_1_1) (hg : goodWord w = true) : w ∈ lw_good := List.mem_filter.mpr ⟨List.mem_append_right _ (show w ∈ tables_1 from List.mem_append_left _ h), hg⟩
theorem mg_2 {w : Cond} (h : w ∈ tables_1_2) (hg : goodWord w = true) : w ∈ lw_good := List.mem_filter.mpr ⟨List.mem_append_right _ (show w ∈ tables_1 from List.mem_append_right _ <| List.mem_append_left _ h), hg⟩
theorem mg_3 {w : Cond} (h : w ∈ tables_1_3) (hg : goodWord w = true) : w ∈ lw_good := List.mem_filter.mpr ⟨List.mem_append_right _ (show w ∈ tables_1 from List.mem_append_right _ <| List.mem_append_right _ <| List.mem_append_left _ h), hg⟩
theorem mg_4 {w : Cond} (h : w ∈ tables_1_4) (hg : goodWord w = true) : w ∈ lw_good := List.mem_filter.mpr ⟨List.mem_append_right _ (show w ∈ tables_1 from List.mem_append_right _ <| List.mem_append_right _ <| List.mem_append_right _ <| List.mem_append_left _ h), hg⟩
theorem mg_5 {w : Cond} (h : w ∈ tables_1_5) (hg : goodWord w = true) : w ∈ lw_good := List.mem_filter.mpr ⟨List.mem_append_right _ (show w ∈ tables_1 from List.mem_append_right _ <| List.mem_append_right _ <| List.mem_append_right _ <| List.mem_append_right _ <| List.mem_append_left _ h), hg⟩
theorem mg_6 {w : Cond} (h : w ∈ tables_1_6) (hg : goodWord w = true) : w ∈ lw_good := List.mem_filter.mpr ⟨List.mem_append_right _ (show w ∈ tables_1 from List.mem_append_right _ <| List.mem_append_right _ <| List.mem_append_right _ <| List.mem_append_right _ <| List.mem_append_right _ <| List.mem_append_left _ h), hg⟩
theorem mg_7 {w : Cond} (h : w ∈ tables_1_7) (hg : goodWord w = true) : w ∈ lw_good := List.mem_filter.mpr ⟨List.mem_append_right _ (show w ∈ tables_1 from List.mem_append_right _ <| List.mem_append_right _ <| List.mem_append_right _ <| List.mem_append_right _ <| List.mem_append_right _ <| List.mem_append_right _ <| List.mem_append_left _ h), hg⟩
theorem mg_8 {w : Cond} (h : w ∈ tables_1_8) (hg : goodWord w = true) : w ∈ lw_good := List.mem_filter.mpr ⟨List.mem_append_right _ (show w ∈ tables_1 from List.mem_append_right _ <| List.mem_append_right _ <| List.mem_append_right _ <| List.mem_append_right _ <| List.mem_append_right _ <| List.mem_append_right _ <| List.mem_append_right _ <| List.mem_append_left _ h), hg⟩
theorem mg_9 {w : Cond} (h : w ∈ tables_1_9) (hg : goodWord w = true) : w ∈ lw_good := List.mem_filter.mpr ⟨List.mem_append_right _ (show w ∈ tables_1 from List.mem_append_right _ <| List.mem_append_right _ <| List.mem_append_right _ <| List.mem_append_right _ <| List.mem_append_right _ <| List.mem_append_right _ <| List.mem_append_right _ <| List.mem_append_right _ <| List.mem_append_left _ h), hg⟩
theorem mg_10 {w : Cond} (h : w ∈ tables_1_10) (hg : goodWord w = true) : w ∈ lw_good := List.mem_filter.mpr ⟨List.mem_append_right _ (show w ∈ tables_1 from List.mem_append_right _ <| List.mem_append_right _ <| List.mem_append_right _ <| List.mem_append_right _ <| List.mem_append_right _ <| List.mem_append_right _ <| List.mem_append_right _ <| List.mem_append_right _ <| List.mem_append_right _ <| h), hg⟩
theorem mg_s {w : Cond} (h : w ∈ k2_sels lw_privs) (hg : goodWord w = true) : w ∈ lw_good := List.mem_filter.mpr ⟨List.mem_append_left _ h, hg⟩
theorem fl_X8_9 : FLink RX8 9 8 0 := ⟨by decide, by decide, mg_1 (List.mem_of_getElem? (i := 46) rfl) rfl⟩
theorem fl_X8_15 : FLink RX8 15 8 1 := ⟨by decide, by decide, mg_1 (List.mem_of_getElem? (i := 47) rfl) rfl⟩
theorem fl_X8_24 : FLink RX8 24 8 2 := ⟨by decide, by decide, mg_1 (List.mem_of_getElem? (i := 48) rfl) rfl⟩
theorem fl_X8_28 : FLink RX8 28 8 3 := ⟨by decide, by decide, mg_1 (List.mem_of_getElem? (i := 49) rfl) rfl⟩
theorem fl_X9_13 : FLink RX9 13 9 0 := ⟨by decide, by decide, mg_1 (List.mem_of_getElem? (i := 60) rfl) rfl⟩
theorem fl_X3_47 : FLink RX3 47 9 0 := ⟨by decide, by decide, mg_1 (List.mem_of_getElem? (i := 61) rfl) rfl⟩
theorem fl_X11_109 : FLink RX11 109 9 0 := ⟨by decide, by decide, mg_1 (List.mem_of_getElem? (i := 62) rfl) rfl⟩
theorem fl_X3_42 : FLink RX3 42 9 1 := ⟨by decide, by decide, mg_1 (List.mem_of_getElem? (i := 63) rfl) rfl⟩
theorem fl_X11_98 : FLink RX11 98 9 1 := ⟨by decide, by decide, mg_1 (List.mem_of_getElem? (i := 64) rfl) rfl⟩
theorem fl_X9_56 : FLink RX9 56 9 1 := ⟨by decide, by decide, mg_1 (List.mem_of_getElem? (i := 65) rfl) rfl⟩
theorem fl_X9_22 : FLink RX9 22 9 2 := ⟨by decide, by decide, mg_1 (List.mem_of_getElem? (i := 66) rfl) rfl⟩
theorem fl_X10_72 : FLink RX10 72 9 2 := ⟨by decide, by decide, mg_1 (List.mem_of_getElem? (i := 67) rfl) rfl⟩
theorem fl_X11_156 : FLink RX11 156 9 2 := ⟨by decide, by decide, mg_1 (List.mem_of_getElem? (i := 68) rfl) rfl⟩
theorem fl_X9_26 : FLink RX9 26 9 3 := ⟨by decide, by decide, mg_1 (List.mem_of_getElem? (i := 69) rfl) rfl⟩
theorem fl_X10_102 : FLink RX10 102 9 3 := ⟨by decide, by decide, mg_1 (List.mem_of_getElem? (i := 70) rfl) rfl⟩
theorem fl_X11_176 : FLink RX11 176 9 3 := ⟨by decide, by decide, mg_1 (List.mem_of_getElem? (i := 71) rfl) rfl⟩
theorem fl_X9_29 : FLink RX9 29 9 4 := ⟨by decide, by decide, mg_1 (List.mem_of_getElem? (i := 72) rfl) rfl⟩
theorem fl_X10_88 : FLink RX10 88 9 4 := ⟨by decide, by decide, mg_1 (List.mem_of_getElem? (i := 73) rfl) rfl⟩
theorem fl_X11_179 : FLink RX11 179 9 4 := ⟨by decide, by decide, mg_1 (List.mem_of_getElem? (i := 74) rfl) rfl⟩
theorem fl_X9_32 : FLink RX9 32 9 5 := ⟨by decide, by decide, mg_1 (List.mem_of_getElem? (i := 75) rfl) rfl⟩
theorem fl_X2_36 : FLink RX2 36 9 5 := ⟨by decide, by decide, mg_1 (List.mem_of_getElem? (i := 76) rfl) rfl⟩
theorem fl_X1_81 : FLink RX1 81 9 5 := ⟨by decide, by decide, mg_1 (List.mem_of_getElem? (i := 77) rfl) rfl⟩
theorem fl_X10_128 : FLink RX10 128 9 5 := ⟨by decide, by decide, mg_1 (List.mem_of_getElem? (i := 78) rfl) rfl⟩
theorem fl_X11_182 : FLink RX11 182 9 5 := ⟨by decide, by decide, mg_1 (List.mem_of_getElem? (i := 79) rfl) rfl⟩
theorem fl_X9_35 : FLink RX9 35 9 6 := ⟨by decide, by decide, mg_1 (List.mem_of_getElem? (i := 80) rfl) rfl⟩
theorem fl_X10_90 : FLink RX10 90 9 6 := ⟨by decide, by decide, mg_1 (List.mem_of_getElem? (i := 81) rfl) rfl⟩
theorem fl_X11_191 : FLink RX11 191 9 6 := ⟨by decide, by decide, mg_1 (List.mem_of_getElem? (i := 82) rfl) rfl⟩
theorem fl_X9_38 : FLink RX9 38 9 7 := ⟨by decide, by decide, mg_1 (List.mem_of_getElem? (i := 83) rfl) rfl⟩
theorem fl_X4_43 : FLink RX4 43 9 7 := ⟨by decide, by decide, mg_1 (List.mem_of_getElem? (i := 84) rfl) rfl⟩
theorem fl_X3_77 : FLink RX3 77 9 7 := ⟨by decide, by decide, mg_1 (List.mem_of_getElem? (i := 85) rfl) rfl⟩
theorem fl_X2_129 : FLink RX2 129 9 7 := ⟨by decide, by decide, mg_1 (List.mem_of_getElem? (i := 86) rfl) rfl⟩
theorem fl_X11_286 : FLink RX11 286 9 7 := ⟨by decide, by decide, mg_1 (List.mem_of_getElem? (i := 87) rfl) rfl⟩
theorem fl_X9_41 : FLink RX9 41 9 8 := ⟨by decide, by decide, mg_1 (List.mem_of_getElem? (i := 88) rfl) rfl⟩
theorem fl_X11_393 : FLink RX11 393 9 8 := ⟨by decide, by decide, mg_1 (List.mem_of_getElem? (i := 89) rfl) rfl⟩
theorem fl_X9_44 : FLink RX9 44 9 9 := ⟨by decide, by decide, mg_1 (List.mem_of_getElem? (i := 90) rfl) rfl⟩
theorem fl_X2_67 : FLink RX2 67 9 9 := ⟨by decide, by decide, mg_1 (List.mem_of_getElem? (i := 91) rfl) rfl⟩
theorem fl_X11_356 : FLink RX11 356 9 9 := ⟨by decide, by decide, mg_1 (List.mem_of_getElem? (i := 92) rfl) rfl⟩
theorem fl_X9_47 : FLink RX9 47 9 10 := ⟨by decide, by decide, mg_1 (List.mem_of_getElem? (i := 93) rfl) rfl⟩
theorem fl_X11_399 : FLink RX11 399 9 10 := ⟨by decide, by decide, mg_1 (List.mem_of_getElem? (i := 94) rfl) rfl⟩
theorem fl_X9_51 : FLink RX9 51 9 11 := ⟨by decide, by decide, mg_1 (List.mem_of_getElem? (i := 95) rfl) rfl⟩
theorem fl_X9_70 : FLink RX9 70 9 12 := ⟨by decide, by decide, mg_1 (List.mem_of_getElem? (i := 96) rfl) rfl⟩
theorem fl_X11_334 : FLink RX11 334 9 12 := ⟨by decide, by decide, mg_1 (List.mem_of_getElem? (i := 97) rfl) rfl⟩
theorem fl_X9_73 : FLink RX9 73 9 13 := ⟨by decide, by decide, mg_1 (List.mem_of_getElem? (i := 98) rfl) rfl⟩
theorem fl_X11_347 : FLink RX11 347 9 13 := ⟨by decide, by decide, mg_1 (List.mem_of_getElem? (i := 99) rfl) rfl⟩
theorem fl_X9_76 : FLink RX9 76 9 14 := ⟨by decide, by decide, mg_1 (List.mem_of_getElem? (i := 100) rfl) rfl⟩
theorem fl_X11_368 : FLink RX11 368 9 14 := ⟨by decide, by decide, mg_1 (List.mem_of_getElem? (i := 101) rfl) rfl⟩
theorem fl_X9_79 : FLink RX9 79 9 15 := ⟨by decide, by decide, mg_1 (List.mem_of_getElem? (i := 102) rfl) rfl⟩
theorem fl_X11_350 : FLink RX11 350 9 15 := ⟨by decide, by decide, mg_1 (List.mem_of_getElem? (i := 103) rfl) rfl⟩
theorem fl_X5_11 : FLink RX5 11 5 0 := ⟨by decide, by decide, mg_1 (List.mem_of_getElem? (i := 144) rfl) rfl⟩
theorem fl_X5_27 : FLink RX5 27 5 1 := ⟨by decide, by decide, mg_1 (List.mem_of_getElem? (i := 145) rfl) rfl⟩
theorem fl_X11_92 : FLink RX11 92 5 1 := ⟨by decide, by decide, mg_1 (List.mem_of_getElem? (i := 146) rfl) rfl⟩
theorem fl_X0_16 : FLink RX0 16 5 2 := ⟨by decide, by decide, mg_1 (List.mem_of_getElem? (i := 147) rfl) rfl⟩
theorem fl_X5_31 : FLink RX5 31 5 2 := ⟨by decide, by decide, mg_1 (List.mem_of_getElem? (i := 148) rfl) rfl⟩
theorem fl_X5_15 : FLink RX5 15 5 3 := ⟨by decide, by decide, mg_1 (List.mem_of_getElem? (i := 149) rfl) rfl⟩
theorem fl_X0_22 : FLink RX0 22 5 3 := ⟨by decide, by decide, mg_1 (List.mem_of_getElem? (i := 150) rfl) rfl⟩
theorem fl_X5_18 : FLink RX5 18 5 4 := ⟨by decide, by decide, mg_1 (List.mem_of_getElem? (i := 151) rfl) rfl⟩
theorem fl_X0_33 : FLink RX0 33 5 4 := ⟨by decide, by decide, mg_1 (List.mem_of_getElem? (i := 152) rfl) rfl⟩
theorem fl_X5_21 : FLink RX5 21 5 5 := ⟨by decide, by decide, mg_1 (List.mem_of_getElem? (i := 153) rfl) rfl⟩
theorem fl_X0_37 : FLink RX0 37 5 5 := ⟨by decide, by decide, mg_1 (List.mem_of_getElem? (i := 154) rfl) rfl⟩
theorem fl_X5_24 : FLink RX5 24 5 6 := ⟨by decide, by decide, mg_1 (List.mem_of_getElem? (i := 155) rfl) rfl⟩
theorem fl_X0_41 : FLink RX0 41 5 6 := ⟨by decide, by decide, mg_1 (List.mem_of_getElem? (i := 156) rfl) rfl⟩
theorem fl_X0_44 : FLink RX0 44 5 7 := ⟨by decide, by decide, mg_1 (List.mem_of_getElem? (i := 157) rfl) rfl⟩
theorem fl_X5_34 : FLink RX5 34 5 7 := ⟨by decide, by decide, mg_1 (List.mem_of_getElem? (i := 158) rfl) rfl⟩
theorem fl_X5_37 : FLink RX5 37 5 8 := ⟨by decide, by decide, mg_1 (List.mem_of_getElem? (i := 159) rfl) rfl⟩
theorem fl_X5_57 : FLink RX5 57 5 9 := ⟨by decide, by decide, mg_1 (List.mem_of_getElem? (i := 160) rfl) rfl⟩
theorem fl_X5_40 : FLink RX5 40 5 10 := ⟨by decide, by decide, mg_1 (List.mem_of_getElem? (i := 161) rfl) rfl⟩
theorem fl_X5_50 : FLink RX5 50 5 11 := ⟨by decide, by decide, mg_1 (List.mem_of_getElem? (i := 162) rfl) rfl⟩
theorem fl_X5_60 : FLink RX5 60 5 12 := ⟨by decide, by decide, mg_1 (List.mem_of_getElem? (i := 163) rfl) rfl⟩
theorem fl_X3_32 : FLink RX3 32 3 0 := ⟨by decide, by decide, mg_1 (List.mem_of_getElem? (i := 200) rfl) rfl⟩
theorem fl_X3_9 : FLink RX3 9 3 1 := ⟨by decide, by decide, mg_1 (List.mem_of_getElem? (i := 201) rfl) rfl⟩
theorem fl_X3_15 : FLink RX3 15 3 2 := ⟨by decide, by decide, mg_1 (List.mem_of_getElem? (i := 202) rfl) rfl⟩
theorem fl_X3_18 : FLink RX3 18 3 3 := ⟨by decide, by decide, mg_1 (List.mem_of_getElem? (i := 203) rfl) rfl⟩
theorem fl_X3_21 : FLink RX3 21 3 4 := ⟨by decide, by decide, mg_1 (List.mem_of_getElem? (i := 204) rfl) rfl⟩
theorem fl_X3_24 : FLink RX3 24 3 5 := ⟨by decide, by decide, mg_1 (List.mem_of_getElem? (i := 205) rfl) rfl⟩
theorem fl_X3_28 : FLink RX3 28 3 6 := ⟨by decide, by decide, mg_1 (List.mem_of_getElem? (i := 206) rfl) rfl⟩
theorem fl_X10_49 : FLink RX10 49 10 0 := ⟨by decide, by decide, mg_1 (List.mem_of_getElem? (i := 229) rfl) rfl⟩
theorem fl_X10_53 : FLink RX10 53 10 1 := ⟨by decide, by decide, mg_1 (List.mem_of_getElem? (i := 230) rfl) rfl⟩
theorem fl_X10_9 : FLink RX10 9 10 2 := ⟨by decide, by decide, mg_1 (List.mem_of_getElem? (i := 231) rfl) rfl⟩
theorem fl_X10_15 : FLink RX10 15 10 3 := ⟨by decide, by decide, mg_1 (List.mem_of_getElem? (i := 232) rfl) rfl⟩
theorem fl_X10_18 : FLink RX10 18 10 4 := ⟨by decide, by decide, mg_1 (List.mem_of_getElem? (i := 233) rfl) rfl⟩
theorem fl_X10_21 : FLink RX10 21 10 5 := ⟨by decide, by decide, mg_1 (List.mem_of_getElem? (i := 234) rfl) rfl⟩
theorem fl_X10_25 : FLink RX10 25 10 6 := ⟨by decide, by decide, mg_1 (List.mem_of_getElem? (i := 235) rfl) rfl⟩
theorem fl_X10_28 : FLink RX10 28 10 7 := ⟨by decide, by decide, mg_1 (List.mem_of_getElem? (i := 236) rfl) rfl⟩
theorem fl_X10_31 : FLink RX10 31 10 8 := ⟨by decide, by decide, mg_1 (List.mem_of_getElem? (i := 237) rfl) rfl⟩
theorem fl_X10_34 : FLink RX10 34 10 9 := ⟨by decide, by decide, mg_1 (List.mem_of_getElem? (i := 238) rfl) rfl⟩
theorem fl_X10_37 : FLink RX10 37 10 10 := ⟨by decide, by decide, mg_1 (List.mem_of_getElem? (i := 239) rfl) rfl⟩
theorem fl_X10_40 : FLink RX10 40 10 11 := ⟨by decide, by decide, mg_2 (List.mem_of_getElem? (i := 0) rfl) rfl⟩
theorem fl_X10_43 : FLink RX10 43 10 12 := ⟨by decide, by decide, mg_2 (List.mem_of_getElem? (i := 1) rfl) rfl⟩
theorem fl_X10_46 : FLink RX10 46 10 13 := ⟨by decide, by decide, mg_2 (List.mem_of_getElem? (i := 2) rfl) rfl⟩
theorem fl_X7_9 : FLink RX7 9 7 0 := ⟨by decide, by decide, mg_2 (List.mem_of_getElem? (i := 44) rfl) rfl⟩
theorem fl_X6_35 : FLink RX6 35 7 0 := ⟨by decide, by decide, mg_2 (List.mem_of_getElem? (i := 45) rfl) rfl⟩
theorem fl_X10_97 : FLink RX10 97 7 0 := ⟨by decide, by decide, mg_2 (List.mem_of_getElem? (i := 46) rfl) rfl⟩
theorem fl_X7_15 : FLink RX7 15 7 1 := ⟨by decide, by decide, mg_2 (List.mem_of_getElem? (i := 47) rfl) rfl⟩
theorem fl_X10_125 : FLink RX10 125 7 1 := ⟨by decide, by decide, mg_2 (List.mem_of_getElem? (i := 48) rfl) rfl⟩
theorem fl_X7_45 : FLink RX7 45 7 2 := ⟨by decide, by decide, mg_2 (List.mem_of_getElem? (i := 49) rfl) rfl⟩
theorem fl_X10_112 : FLink RX10 112 7 2 := ⟨by decide, by decide, mg_2 (List.mem_of_getElem? (i := 50) rfl) rfl⟩
theorem fl_X7_18 : FLink RX7 18 7 3 := ⟨by decide, by decide, mg_2 (List.mem_of_getElem? (i := 51) rfl) rfl⟩
theorem fl_X10_144 : FLink RX10 144 7 3 := ⟨by decide, by decide, mg_2 (List.mem_of_getElem? (i := 52) rfl) rfl⟩
theorem fl_X7_21 : FLink RX7 21 7 4 := ⟨by decide, by decide, mg_2 (List.mem_of_getElem? (i := 53) rfl) rfl⟩
theorem fl_X10_150 : FLink RX10 150 7 4 := ⟨by decide, by decide, mg_2 (List.mem_of_getElem? (i := 54) rfl) rfl⟩
theorem fl_X11_206 : FLink RX11 206 7 4 := ⟨by decide, by decide, mg_2 (List.mem_of_getElem? (i := 55) rfl) rfl⟩
theorem fl_X7_24 : FLink RX7 24 7 5 := ⟨by decide, by decide, mg_2 (List.mem_of_getElem? (i := 56) rfl) rfl⟩
theorem fl_X10_164 : FLink RX10 164 7 5 := ⟨by decide, by decide, mg_2 (List.mem_of_getElem? (i := 57) rfl) rfl⟩
theorem fl_X7_27 : FLink RX7 27 7 6 := ⟨by decide, by decide, mg_2 (List.mem_of_getElem? (i := 58) rfl) rfl⟩
theorem fl_X10_167 : FLink RX10 167 7 6 := ⟨by decide, by decide, mg_2 (List.mem_of_getElem? (i := 59) rfl) rfl⟩
theorem fl_X7_30 : FLink RX7 30 7 7 := ⟨by decide, by decide, mg_2 (List.mem_of_getElem? (i := 60) rfl) rfl⟩
theorem fl_X10_181 : FLink RX10 181 7 7 := ⟨by decide, by decide, mg_2 (List.mem_of_getElem? (i := 61) rfl) rfl⟩
theorem fl_X7_33 : FLink RX7 33 7 8 := ⟨by decide, by decide, mg_2 (List.mem_of_getElem? (i := 62) rfl) rfl⟩
theorem fl_X10_184 : FLink RX10 184 7 8 := ⟨by decide, by decide, mg_2 (List.mem_of_getElem? (i := 63) rfl) rfl⟩
theorem fl_X11_214 : FLink RX11 214 7 8 := ⟨by decide, by decide, mg_2 (List.mem_of_getElem? (i := 64) rfl) rfl⟩
theorem fl_X7_36 : FLink RX7 36 7 9 := ⟨by decide, by decide, mg_2 (List.mem_of_getElem? (i := 65) rfl) rfl⟩
theorem fl_X6_42 : FLink RX6 42 7 9 := ⟨by decide, by decide, mg_2 (List.mem_of_getElem? (i := 66) rfl) rfl⟩
theorem fl_X11_211 : FLink RX11 211 7 9 := ⟨by decide, by decide, mg_2 (List.mem_of_getElem? (i := 67) rfl) rfl⟩
theorem fl_X6_12 : FLink RX6 12 6 0 := ⟨by decide, by decide, mg_2 (List.mem_of_getElem? (i := 89) rfl) rfl⟩
theorem fl_X11_202 : FLink RX11 202 6 0 := ⟨by decide, by decide, mg_2 (List.mem_of_getElem? (i := 90) rfl) rfl⟩
theorem fl_X6_18 : FLink RX6 18 6 1 := ⟨by decide, by decide, mg_2 (List.mem_of_getElem? (i := 91) rfl) rfl⟩
theorem fl_X11_198 : FLink RX11 198 6 1 := ⟨by decide, by decide, mg_2 (List.mem_of_getElem? (i := 92) rfl) rfl⟩
theorem fl_X6_22 : FLink RX6 22 6 2 := ⟨by decide, by decide, mg_2 (List.mem_of_getElem? (i := 93) rfl) rfl⟩
theorem fl_X6_26 : FLink RX6 26 6 3 := ⟨by decide, by decide, mg_2 (List.mem_of_getElem? (i := 94) rfl) rfl⟩
theorem fl_X6_29 : FLink RX6 29 6 4 := ⟨by decide, by decide, mg_2 (List.mem_of_getElem? (i := 95) rfl) rfl⟩
theorem fl_X1_45 : FLink RX1 45 1 0 := ⟨by decide, by decide, mg_2 (List.mem_of_getElem? (i := 116) rfl) rfl⟩
theorem fl_X1_49 : FLink RX1 49 1 1 := ⟨by decide, by decide, mg_2 (List.mem_of_getElem? (i := 117) rfl) rfl⟩
theorem fl_X1_9 : FLink RX1 9 1 2 := ⟨by decide, by decide, mg_2 (List.mem_of_getElem? (i := 118) rfl) rfl⟩
theorem fl_X11_236 : FLink RX11 236 1 2 := ⟨by decide, by decide, mg_2 (List.mem_of_getElem? (i := 119) rfl) rfl⟩
theorem fl_X1_53 : FLink RX1 53 1 3 := ⟨by decide, by decide, mg_2 (List.mem_of_getElem? (i := 120) rfl) rfl⟩
theorem fl_X11_233 : FLink RX11 233 1 3 := ⟨by decide, by decide, mg_2 (List.mem_of_getElem? (i := 121) rfl) rfl⟩
theorem fl_X1_56 : FLink RX1 56 1 4 := ⟨by decide, by decide, mg_2 (List.mem_of_getElem? (i := 122) rfl) rfl⟩
theorem fl_X1_18 : FLink RX1 18 1 5 := ⟨by decide, by decide, mg_2 (List.mem_of_getElem? (i := 123) rfl) rfl⟩
theorem fl_X1_22 : FLink RX1 22 1 6 := ⟨by decide, by decide, mg_2 (List.mem_of_getElem? (i := 124) rfl) rfl⟩
theorem fl_X1_26 : FLink RX1 26 1 7 := ⟨by decide, by decide, mg_2 (List.mem_of_getElem? (i := 125) rfl) rfl⟩
theorem fl_X1_29 : FLink RX1 29 1 8 := ⟨by decide, by decide, mg_2 (List.mem_of_getElem? (i := 126) rfl) rfl⟩
theorem fl_X1_33 : FLink RX1 33 1 9 := ⟨by decide, by decide, mg_2 (List.mem_of_getElem? (i := 127) rfl) rfl⟩
theorem fl_X1_36 : FLink RX1 36 1 10 := ⟨by decide, by decide, mg_2 (List.mem_of_getElem? (i := 128) rfl) rfl⟩
theorem fl_X11_266 : FLink RX11 266 1 10 := ⟨by decide, by decide, mg_2 (List.mem_of_getElem? (i := 129) rfl) rfl⟩
theorem fl_X1_78 : FLink RX1 78 1 11 := ⟨by decide, by decide, mg_2 (List.mem_of_getElem? (i := 130) rfl) rfl⟩
theorem fl_X11_263 : FLink RX11 263 1 11 := ⟨by decide, by decide, mg_2 (List.mem_of_getElem? (i := 131) rfl) rfl⟩
theorem fl_X1_39 : FLink RX1 39 1 12 := ⟨by decide, by decide, mg_2 (List.mem_of_getElem? (i := 132) rfl) rfl⟩
theorem fl_X11_254 : FLink RX11 254 1 12 := ⟨by decide, by decide, mg_2 (List.mem_of_getElem? (i := 133) rfl) rfl⟩
theorem fl_X1_42 : FLink RX1 42 1 13 := ⟨by decide, by decide, mg_2 (List.mem_of_getElem? (i := 134) rfl) rfl⟩
theorem fl_X11_260 : FLink RX11 260 1 13 := ⟨by decide, by decide, mg_2 (List.mem_of_getElem? (i := 135) rfl) rfl⟩
theorem fl_X4_35 : FLink RX4 35 4 0 := ⟨by decide, by decide, mg_2 (List.mem_of_getElem? (i := 171) rfl) rfl⟩
theorem fl_X4_39 : FLink RX4 39 4 1 := ⟨by decide, by decide, mg_2 (List.mem_of_getElem? (i := 172) rfl) rfl⟩
theorem fl_X4_9 : FLink RX4 9 4 2 := ⟨by decide, by decide, mg_2 (List.mem_of_getElem? (i := 173) rfl) rfl⟩
theorem fl_X2_84 : FLink RX2 84 4 2 := ⟨by decide, by decide, mg_2 (List.mem_of_getElem? (i := 174) rfl) rfl⟩
theorem fl_X11_301 : FLink RX11 301 4 2 := ⟨by decide, by decide, mg_2 (List.mem_of_getElem? (i := 175) rfl) rfl⟩
theorem fl_X4_15 : FLink RX4 15 4 3 := ⟨by decide, by decide, mg_2 (List.mem_of_getElem? (i := 176) rfl) rfl⟩
theorem fl_X4_19 : FLink RX4 19 4 4 := ⟨by decide, by decide, mg_2 (List.mem_of_getElem? (i := 177) rfl) rfl⟩
theorem fl_X4_22 : FLink RX4 22 4 5 := ⟨by decide, by decide, mg_2 (List.mem_of_getElem? (i := 178) rfl) rfl⟩
theorem fl_X2_126 : FLink RX2 126 4 5 := ⟨by decide, by decide, mg_2 (List.mem_of_getElem? (i := 179) rfl) rfl⟩
theorem fl_X11_324 : FLink RX11 324 4 5 := ⟨by decide, by decide, mg_2 (List.mem_of_getElem? (i := 180) rfl) rfl⟩
theorem fl_X4_25 : FLink RX4 25 4 6 := ⟨by decide, by decide, mg_2 (List.mem_of_getElem? (i := 181) rfl) rfl⟩
theorem fl_X2_123 : FLink RX2 123 4 6 := ⟨by decide, by decide, mg_2 (List.mem_of_getElem? (i := 182) rfl) rfl⟩
theorem fl_X11_321 : FLink RX11 321 4 6 := ⟨by decide, by decide, mg_2 (List.mem_of_getElem? (i := 183) rfl) rfl⟩
theorem fl_X4_28 : FLink RX4 28 4 7 := ⟨by decide, by decide, mg_2 (List.mem_of_getElem? (i := 184) rfl) rfl⟩
theorem fl_X4_32 : FLink RX4 32 4 8 := ⟨by decide, by decide, mg_2 (List.mem_of_getElem? (i := 185) rfl) rfl⟩
theorem fl_X2_24 : FLink RX2 24 2 0 := ⟨by decide, by decide, mg_2 (List.mem_of_getElem? (i := 211) rfl) rfl⟩
theorem fl_X2_28 : FLink RX2 28 2 1 := ⟨by decide, by decide, mg_2 (List.mem_of_getElem? (i := 212) rfl) rfl⟩
theorem fl_X2_32 : FLink RX2 32 2 2 := ⟨by decide, by decide, mg_2 (List.mem_of_getElem? (i := 213) rfl) rfl⟩
theorem fl_X2_9 : FLink RX2 9 2 3 := ⟨by decide, by decide, mg_2 (List.mem_of_getElem? (i := 214) rfl) rfl⟩
theorem fl_X2_15 : FLink RX2 15 2 4 := ⟨by decide, by decide, mg_2 (List.mem_of_getElem? (i := 215) rfl) rfl⟩
theorem fl_X2_18 : FLink RX2 18 2 5 := ⟨by decide, by decide, mg_2 (List.mem_of_getElem? (i := 216) rfl) rfl⟩
theorem fl_X2_21 : FLink RX2 21 2 6 := ⟨by decide, by decide, mg_2 (List.mem_of_getElem? (i := 217) rfl) rfl⟩
theorem fl_X11_10 : FLink RX11 10 11 0 := ⟨by decide, by decide, mg_2 (List.mem_of_getElem? (i := 233) rfl) rfl⟩
theorem fl_X11_16 : FLink RX11 16 11 1 := ⟨by decide, by decide, mg_2 (List.mem_of_getElem? (i := 234) rfl) rfl⟩
theorem fl_X11_23 : FLink RX11 23 11 2 := ⟨by decide, by decide, mg_2 (List.mem_of_getElem? (i := 235) rfl) rfl⟩
theorem fl_X11_32 : FLink RX11 32 11 3 := ⟨by decide, by decide, mg_2 (List.mem_of_getElem? (i := 236) rfl) rfl⟩
theorem fl_X11_41 : FLink RX11 41 11 4 := ⟨by decide, by decide, mg_2 (List.mem_of_getElem? (i := 237) rfl) rfl⟩
theorem fl_X11_48 : FLink RX11 48 11 5 := ⟨by decide, by decide, mg_2 (List.mem_of_getElem? (i := 238) rfl) rfl⟩
theorem fl_X11_52 : FLink RX11 52 11 6 := ⟨by decide, by decide, mg_2 (List.mem_of_getElem? (i := 239) rfl) rfl⟩
theorem fl_X11_60 : FLink RX11 60 11 7 := ⟨by decide, by decide, mg_3 (List.mem_of_getElem? (i := 0) rfl) rfl⟩
theorem fl_X11_67 : FLink RX11 67 11 8 := ⟨by decide, by decide, mg_3 (List.mem_of_getElem? (i := 1) rfl) rfl⟩
theorem fl_X11_76 : FLink RX11 76 11 9 := ⟨by decide, by decide, mg_3 (List.mem_of_getElem? (i := 2) rfl) rfl⟩
theorem fl_X11_417 : FLink RX11 417 11 10 := ⟨by decide, by decide, mg_3 (List.mem_of_getElem? (i := 3) rfl) rfl⟩
theorem fl_X11_80 : FLink RX11 80 11 11 := ⟨by decide, by decide, mg_3 (List.mem_of_getElem? (i := 4) rfl) rfl⟩
theorem fl_X11_121 : FLink RX11 121 11 12 := ⟨by decide, by decide, mg_3 (List.mem_of_getElem? (i := 5) rfl) rfl⟩
theorem fl_X11_289 : FLink RX11 289 11 13 := ⟨by decide, by decide, mg_3 (List.mem_of_getElem? (i := 6) rfl) rfl⟩
theorem fl_X0_7 : FLink RX0 7 0 0 := ⟨by decide, by decide, mg_4 (List.mem_of_getElem? (i := 1) rfl) rfl⟩
theorem fl_X3_62 : FLink RX3 62 0 0 := ⟨by decide, by decide, mg_4 (List.mem_of_getElem? (i := 2) rfl) rfl⟩
theorem fl_X0_13 : FLink RX0 13 0 1 := ⟨by decide, by decide, mg_4 (List.mem_of_getElem? (i := 3) rfl) rfl⟩
theorem fl_X3_59 : FLink RX3 59 0 1 := ⟨by decide, by decide, mg_4 (List.mem_of_getElem? (i := 4) rfl) rfl⟩
theorem fl_X11_438 : FLink RX11 438 0 1 := ⟨by decide, by decide, mg_4 (List.mem_of_getElem? (i := 5) rfl) rfl⟩
theorem fl_X0_21 : FLink RX0 21 0 2 := ⟨by decide, by decide, mg_4 (List.mem_of_getElem? (i := 6) rfl) rfl⟩
theorem fl_X3_51 : FLink RX3 51 0 2 := ⟨by decide, by decide, mg_4 (List.mem_of_getElem? (i := 7) rfl) rfl⟩
theorem fl_X11_128 : FLink RX11 128 0 2 := ⟨by decide, by decide, mg_4 (List.mem_of_getElem? (i := 8) rfl) rfl⟩
theorem fl_X0_32 : FLink RX0 32 0 3 := ⟨by decide, by decide, mg_4 (List.mem_of_getElem? (i := 9) rfl) rfl⟩
theorem fl_X3_56 : FLink RX3 56 0 3 := ⟨by decide, by decide, mg_4 (List.mem_of_getElem? (i := 10) rfl) rfl⟩
theorem fl_X0_36 : FLink RX0 36 0 4 := ⟨by decide, by decide, mg_4 (List.mem_of_getElem? (i := 11) rfl) rfl⟩
theorem fl_X3_70 : FLink RX3 70 0 4 := ⟨by decide, by decide, mg_4 (List.mem_of_getElem? (i := 12) rfl) rfl⟩
theorem fl_X0_40 : FLink RX0 40 0 5 := ⟨by decide, by decide, mg_4 (List.mem_of_getElem? (i := 13) rfl) rfl⟩
theorem fl_X3_96 : FLink RX3 96 0 5 := ⟨by decide, by decide, mg_4 (List.mem_of_getElem? (i := 14) rfl) rfl⟩
theorem fl_X0_47 : FLink RX0 47 0 6 := ⟨by decide, by decide, mg_4 (List.mem_of_getElem? (i := 15) rfl) rfl⟩
theorem fl_X3_93 : FLink RX3 93 0 6 := ⟨by decide, by decide, mg_4 (List.mem_of_getElem? (i := 16) rfl) rfl⟩
theorem fl_X12_145 : FLink RX12 145 12 0 := ⟨by decide, by decide, mg_6 (List.mem_of_getElem? (i := 181) rfl) rfl⟩
theorem fl_X12_148 : FLink RX12 148 12 1 := ⟨by decide, by decide, mg_6 (List.mem_of_getElem? (i := 182) rfl) rfl⟩
theorem fl_X12_8 : FLink RX12 8 12 2 := ⟨by decide, by decide, mg_6 (List.mem_of_getElem? (i := 183) rfl) rfl⟩
theorem fl_X12_15 : FLink RX12 15 12 3 := ⟨by decide, by decide, mg_6 (List.mem_of_getElem? (i := 184) rfl) rfl⟩
theorem fl_X12_18 : FLink RX12 18 12 4 := ⟨by decide, by decide, mg_6 (List.mem_of_getElem? (i := 185) rfl) rfl⟩
theorem fl_X12_22 : FLink RX12 22 12 5 := ⟨by decide, by decide, mg_6 (List.mem_of_getElem? (i := 186) rfl) rfl⟩
theorem fl_X12_167 : FLink RX12 167 12 6 := ⟨by decide, by decide, mg_6 (List.mem_of_getElem? (i := 187) rfl) rfl⟩
theorem fl_X12_187 : FLink RX12 187 12 7 := ⟨by decide, by decide, mg_6 (List.mem_of_getElem? (i := 188) rfl) rfl⟩
theorem fl_X12_177 : FLink RX12 177 12 8 := ⟨by decide, by decide, mg_6 (List.mem_of_getElem? (i := 189) rfl) rfl⟩
theorem fl_X12_201 : FLink RX12 201 12 9 := ⟨by decide, by decide, mg_6 (List.mem_of_getElem? (i := 190) rfl) rfl⟩
theorem fl_X12_190 : FLink RX12 190 12 10 := ⟨by decide, by decide, mg_6 (List.mem_of_getElem? (i := 191) rfl) rfl⟩
theorem fl_X12_25 : FLink RX12 25 12 11 := ⟨by decide, by decide, mg_6 (List.mem_of_getElem? (i := 192) rfl) rfl⟩
theorem fl_X12_180 : FLink RX12 180 12 12 := ⟨by decide, by decide, mg_6 (List.mem_of_getElem? (i := 193) rfl) rfl⟩
theorem fl_X12_357 : FLink RX12 357 12 13 := ⟨by decide, by decide, mg_6 (List.mem_of_getElem? (i := 194) rfl) rfl⟩
theorem fl_X12_29 : FLink RX12 29 12 14 := ⟨by decide, by decide, mg_6 (List.mem_of_getElem? (i := 195) rfl) rfl⟩
theorem fl_X12_220 : FLink RX12 220 12 15 := ⟨by decide, by decide, mg_6 (List.mem_of_getElem? (i := 196) rfl) rfl⟩
theorem fl_X12_32 : FLink RX12 32 12 16 := ⟨by decide, by decide, mg_6 (List.mem_of_getElem? (i := 197) rfl) rfl⟩
theorem fl_X12_35 : FLink RX12 35 12 17 := ⟨by decide, by decide, mg_6 (List.mem_of_getElem? (i := 198) rfl) rfl⟩
theorem fl_X12_281 : FLink RX12 281 12 18 := ⟨by decide, by decide, mg_6 (List.mem_of_getElem? (i := 199) rfl) rfl⟩
theorem fl_X12_38 : FLink RX12 38 12 19 := ⟨by decide, by decide, mg_6 (List.mem_of_getElem? (i := 200) rfl) rfl⟩
theorem fl_X12_41 : FLink RX12 41 12 20 := ⟨by decide, by decide, mg_6 (List.mem_of_getElem? (i := 201) rfl) rfl⟩
theorem fl_X12_223 : FLink RX12 223 12 21 := ⟨by decide, by decide, mg_6 (List.mem_of_getElem? (i := 202) rfl) rfl⟩
theorem fl_X12_259 : FLink RX12 259 12 22 := ⟨by decide, by decide, mg_6 (List.mem_of_getElem? (i := 203) rfl) rfl⟩
theorem fl_X12_399 : FLink RX12 399 12 23 := ⟨by decide, by decide, mg_6 (List.mem_of_getElem? (i := 204) rfl) rfl⟩
theorem fl_X12_44 : FLink RX12 44 12 24 := ⟨by decide, by decide, mg_6 (List.mem_of_getElem? (i := 205) rfl) rfl⟩
theorem fl_X12_47 : FLink RX12 47 12 25 := ⟨by decide, by decide, mg_6 (List.mem_of_getElem? (i := 206) rfl) rfl⟩
theorem fl_X12_50 : FLink RX12 50 12 26 := ⟨by decide, by decide, mg_6 (List.mem_of_getElem? (i := 207) rfl) rfl⟩
theorem fl_X12_53 : FLink RX12 53 12 27 := ⟨by decide, by decide, mg_6 (List.mem_of_getElem? (i := 208) rfl) rfl⟩
theorem fl_X12_56 : FLink RX12 56 12 28 := ⟨by decide, by decide, mg_6 (List.mem_of_getElem? (i := 209) rfl) rfl⟩
theorem fl_X12_412 : FLink RX12 412 12 29 := ⟨by decide, by decide, mg_6 (List.mem_of_getElem? (i := 210) rfl) rfl⟩
theorem fl_X12_423 : FLink RX12 423 12 30 := ⟨by decide, by decide, mg_6 (List.mem_of_getElem? (i := 211) rfl) rfl⟩
theorem fl_X12_430 : FLink RX12 430 12 31 := ⟨by decide, by decide, mg_6 (List.mem_of_getElem? (i := 212) rfl) rfl⟩
theorem fl_X12_433 : FLink RX12 433 12 32 := ⟨by decide, by decide, mg_6 (List.mem_of_getElem? (i := 213) rfl) rfl⟩
theorem fl_X12_61 : FLink RX12 61 12 33 := ⟨by decide, by decide, mg_6 (List.mem_of_getElem? (i := 214) rfl) rfl⟩
theorem fl_X12_64 : FLink RX12 64 12 34 := ⟨by decide, by decide, mg_6 (List.mem_of_getElem? (i := 215) rfl) rfl⟩
theorem fl_X12_67 : FLink RX12 67 12 35 := ⟨by decide, by decide, mg_6 (List.mem_of_getElem? (i := 216) rfl) rfl⟩
theorem fl_X12_70 : FLink RX12 70 12 36 := ⟨by decide, by decide, mg_6 (List.mem_of_getElem? (i := 217) rfl) rfl⟩
theorem fl_X12_73 : FLink RX12 73 12 37 := ⟨by decide, by decide, mg_6 (List.mem_of_getElem? (i := 218) rfl) rfl⟩
theorem fl_X12_76 : FLink RX12 76 12 38 := ⟨by decide, by decide, mg_6 (List.mem_of_getElem? (i := 219) rfl) rfl⟩
theorem fl_X12_79 : FLink RX12 79 12 39 := ⟨by decide, by decide, mg_6 (List.mem_of_getElem? (i := 220) rfl) rfl⟩
theorem fl_X12_82 : FLink RX12 82 12 40 := ⟨by decide, by decide, mg_6 (List.mem_of_getElem? (i := 221) rfl) rfl⟩
theorem fl_X12_85 : FLink RX12 85 12 41 := ⟨by decide, by decide, mg_6 (List.mem_of_getElem? (i := 222) rfl) rfl⟩
theorem fl_X12_88 : FLink RX12 88 12 42 := ⟨by decide, by decide, mg_6 (List.mem_of_getElem? (i := 223) rfl) rfl⟩
theorem fl_X12_91 : FLink RX12 91 12 43 := ⟨by decide, by decide, mg_6 (List.mem_of_getElem? (i := 224) rfl) rfl⟩
theorem fl_X12_94 : FLink RX12 94 12 44 := ⟨by decide, by decide, mg_6 (List.mem_of_getElem? (i := 225) rfl) rfl⟩
theorem fl_X12_480 : FLink RX12 480 12 45 := ⟨by decide, by decide, mg_6 (List.mem_of_getElem? (i := 226) rfl) rfl⟩
theorem fl_X12_97 : FLink RX12 97 12 46 := ⟨by decide, by decide, mg_6 (List.mem_of_getElem? (i := 227) rfl) rfl⟩
theorem fl_X12_100 : FLink RX12 100 12 47 := ⟨by decide, by decide, mg_6 (List.mem_of_getElem? (i := 228) rfl) rfl⟩
theorem fl_X12_170 : FLink RX12 170 12 48 := ⟨by decide, by decide, mg_6 (List.mem_of_getElem? (i := 229) rfl) rfl⟩
theorem fl_X12_103 : FLink RX12 103 12 49 := ⟨by decide, by decide, mg_6 (List.mem_of_getElem? (i := 230) rfl) rfl⟩
theorem fl_X12_547 : FLink RX12 547 12 50 := ⟨by decide, by decide, mg_6 (List.mem_of_getElem? (i := 231) rfl) rfl⟩
theorem fl_X12_550 : FLink RX12 550 12 51 := ⟨by decide, by decide, mg_6 (List.mem_of_getElem? (i := 232) rfl) rfl⟩
theorem fl_X12_106 : FLink RX12 106 12 52 := ⟨by decide, by decide, mg_6 (List.mem_of_getElem? (i := 233) rfl) rfl⟩
theorem fl_X12_544 : FLink RX12 544 12 53 := ⟨by decide, by decide, mg_6 (List.mem_of_getElem? (i := 234) rfl) rfl⟩
theorem fl_X12_109 : FLink RX12 109 12 54 := ⟨by decide, by decide, mg_6 (List.mem_of_getElem? (i := 235) rfl) rfl⟩
theorem fl_X12_112 : FLink RX12 112 12 55 := ⟨by decide, by decide, mg_6 (List.mem_of_getElem? (i := 236) rfl) rfl⟩
theorem fl_X12_115 : FLink RX12 115 12 56 := ⟨by decide, by decide, mg_6 (List.mem_of_getElem? (i := 237) rfl) rfl⟩
theorem fl_X12_118 : FLink RX12 118 12 57 := ⟨by decide, by decide, mg_6 (List.mem_of_getElem? (i := 238) rfl) rfl⟩
theorem fl_X12_121 : FLink RX12 121 12 58 := ⟨by decide, by decide, mg_6 (List.mem_of_getElem? (i := 239) rfl) rfl⟩
theorem fl_X12_124 : FLink RX12 124 12 59 := ⟨by decide, by decide, mg_7 (List.mem_of_getElem? (i := 0) rfl) rfl⟩
theorem fl_X12_529 : FLink RX12 529 12 60 := ⟨by decide, by decide, mg_7 (List.mem_of_getElem? (i := 1) rfl) rfl⟩
theorem fl_X12_532 : FLink RX12 532 12 61 := ⟨by decide, by decide, mg_7 (List.mem_of_getElem? (i := 2) rfl) rfl⟩
theorem fl_X12_127 : FLink RX12 127 12 62 := ⟨by decide, by decide, mg_7 (List.mem_of_getElem? (i := 3) rfl) rfl⟩
theorem fl_X12_130 : FLink RX12 130 12 63 := ⟨by decide, by decide, mg_7 (List.mem_of_getElem? (i := 4) rfl) rfl⟩
theorem fl_X12_133 : FLink RX12 133 12 64 := ⟨by decide, by decide, mg_7 (List.mem_of_getElem? (i := 5) rfl) rfl⟩
theorem fl_X12_583 : FLink RX12 583 12 65 := ⟨by decide, by decide, mg_7 (List.mem_of_getElem? (i := 6) rfl) rfl⟩
theorem fl_X12_136 : FLink RX12 136 12 66 := ⟨by decide, by decide, mg_7 (List.mem_of_getElem? (i := 7) rfl) rfl⟩
theorem fl_X12_139 : FLink RX12 139 12 67 := ⟨by decide, by decide, mg_7 (List.mem_of_getElem? (i := 8) rfl) rfl⟩
theorem fl_X12_142 : FLink RX12 142 12 68 := ⟨by decide, by decide, mg_7 (List.mem_of_getElem? (i := 9) rfl) rfl⟩
theorem ct_X5_70 : Cond.constant RX5 70 (1000000) ∈ lw_good := mg_3 (List.mem_of_getElem? (i := 76) rfl) rfl
theorem ct_X3_69 : Cond.constant RX3 69 (65535) ∈ lw_good := mg_4 (List.mem_of_getElem? (i := 53) rfl) rfl
theorem ct_X11_155 : Cond.constant RX11 155 (100000) ∈ lw_good := mg_4 (List.mem_of_getElem? (i := 93) rfl) rfl
theorem ct_X11_229 : Cond.constant RX11 229 (-2000000000) ∈ lw_good := mg_5 (List.mem_of_getElem? (i := 32) rfl) rfl
theorem ct_X2_48 : Cond.constant RX2 48 (2000000000) ∈ lw_good := mg_6 (List.mem_of_getElem? (i := 12) rfl) rfl
theorem ct_X11_371 : Cond.constant RX11 371 (2000000000) ∈ lw_good := mg_6 (List.mem_of_getElem? (i := 86) rfl) rfl
theorem ct_X9_54 : Cond.constant RX9 54 (-65536) ∈ lw_good := mg_6 (List.mem_of_getElem? (i := 124) rfl) rfl
theorem ct_X9_55 : Cond.constant RX9 55 (65535) ∈ lw_good := mg_6 (List.mem_of_getElem? (i := 133) rfl) rfl
theorem ct_X12_7 : Cond.constant RX12 7 (269832) ∈ lw_good := mg_6 (List.mem_of_getElem? (i := 178) rfl) rfl
theorem ct_X12_14 : Cond.constant RX12 14 (809496) ∈ lw_good := mg_6 (List.mem_of_getElem? (i := 179) rfl) rfl
theorem ct_X12_60 : Cond.constant RX12 60 (84240) ∈ lw_good := mg_6 (List.mem_of_getElem? (i := 180) rfl) rfl
theorem ct_X12_528 : Cond.constant RX12 528 (-2000000000) ∈ lw_good := mg_9 (List.mem_of_getElem? (i := 39) rfl) rfl
theorem ct_X12_574 : Cond.constant RX12 574 (1000000000) ∈ lw_good := mg_9 (List.mem_of_getElem? (i := 122) rfl) rfl
theorem ct_X12_575 : Cond.constant RX12 575 (-1000000000) ∈ lw_good := mg_9 (List.mem_of_getElem? (i := 123) rfl) rfl
theorem ct_X12_592 : Cond.constant RX12 592 (1000000) ∈ lw_good := mg_9 (List.mem_of_getElem? (i := 148) rfl) rfl
theorem cl_X3_91 : Cond.constantLong RX3 91 (-4000000000000000000) ∈ lw_good := mg_4 (List.mem_of_getElem? (i := 75) rfl) rfl
theorem cl_X3_103 : Cond.constantLong RX3 103 (1000000000) ∈ lw_good := mg_4 (List.mem_of_getElem? (i := 79) rfl) rfl
theorem cl_X3_105 : Cond.constantLong RX3 105 (-1000000000) ∈ lw_good := mg_4 (List.mem_of_getElem? (i := 80) rfl) rfl
theorem cl_X11_304 : Cond.constantLong RX11 304 (-1000000000) ∈ lw_good := mg_5 (List.mem_of_getElem? (i := 182) rfl) rfl
theorem cl_X11_306 : Cond.constantLong RX11 306 (1000000000) ∈ lw_good := mg_5 (List.mem_of_getElem? (i := 183) rfl) rfl
theorem cl_X12_161 : Cond.constantLong RX12 161 (2) ∈ lw_good := mg_7 (List.mem_of_getElem? (i := 154) rfl) rfl
theorem cl_X12_151 : Cond.constantLong RX12 151 (259) ∈ lw_good := mg_7 (List.mem_of_getElem? (i := 189) rfl) rfl
theorem cl_X12_204 : Cond.constantLong RX12 204 (32) ∈ lw_good := mg_7 (List.mem_of_getElem? (i := 204) rfl) rfl
theorem cl_X12_206 : Cond.constantLong RX12 206 (96) ∈ lw_good := mg_7 (List.mem_of_getElem? (i := 205) rfl) rfl
theorem cl_X12_208 : Cond.constantLong RX12 208 (-1) ∈ lw_good := mg_7 (List.mem_of_getElem? (i := 206) rfl) rfl
theorem cl_X12_210 : Cond.constantLong RX12 210 (100000) ∈ lw_good := mg_7 (List.mem_of_getElem? (i := 207) rfl) rfl
theorem cl_X12_212 : Cond.constantLong RX12 212 (10) ∈ lw_good := mg_7 (List.mem_of_getElem? (i := 208) rfl) rfl
theorem cl_X12_214 : Cond.constantLong RX12 214 (48) ∈ lw_good := mg_7 (List.mem_of_getElem? (i := 209) rfl) rfl
theorem cl_X12_336 : Cond.constantLong RX12 336 (659105125) ∈ lw_good := mg_7 (List.mem_of_getElem? (i := 218) rfl) rfl
theorem cl_X12_338 : Cond.constantLong RX12 338 (464036) ∈ lw_good := mg_7 (List.mem_of_getElem? (i := 223) rfl) rfl
theorem cl_X12_340 : Cond.constantLong RX12 340 (769611) ∈ lw_good := mg_7 (List.mem_of_getElem? (i := 224) rfl) rfl
theorem cl_X12_342 : Cond.constantLong RX12 342 (552909459) ∈ lw_good := mg_7 (List.mem_of_getElem? (i := 225) rfl) rfl
theorem cl_X12_344 : Cond.constantLong RX12 344 (13190215781) ∈ lw_good := mg_7 (List.mem_of_getElem? (i := 226) rfl) rfl
theorem cl_X12_346 : Cond.constantLong RX12 346 (595412) ∈ lw_good := mg_7 (List.mem_of_getElem? (i := 227) rfl) rfl
theorem cl_X12_348 : Cond.constantLong RX12 348 (284307) ∈ lw_good := mg_7 (List.mem_of_getElem? (i := 228) rfl) rfl
theorem cl_X12_350 : Cond.constantLong RX12 350 (20501556) ∈ lw_good := mg_7 (List.mem_of_getElem? (i := 229) rfl) rfl
theorem cl_X12_352 : Cond.constantLong RX12 352 (6605428) ∈ lw_good := mg_7 (List.mem_of_getElem? (i := 230) rfl) rfl
theorem cl_X12_360 : Cond.constantLong RX12 360 (23) ∈ lw_good := mg_7 (List.mem_of_getElem? (i := 235) rfl) rfl
theorem cl_X12_366 : Cond.constantLong RX12 366 (113301093) ∈ lw_good := mg_8 (List.mem_of_getElem? (i := 0) rfl) rfl
theorem cl_X12_368 : Cond.constantLong RX12 368 (15) ∈ lw_good := mg_8 (List.mem_of_getElem? (i := 1) rfl) rfl
theorem cl_X12_316 : Cond.constantLong RX12 316 (2696299) ∈ lw_good := mg_8 (List.mem_of_getElem? (i := 6) rfl) rfl
theorem cl_X12_318 : Cond.constantLong RX12 318 (20583596) ∈ lw_good := mg_8 (List.mem_of_getElem? (i := 7) rfl) rfl
theorem cl_X12_320 : Cond.constantLong RX12 320 (8884) ∈ lw_good := mg_8 (List.mem_of_getElem? (i := 8) rfl) rfl
theorem cl_X12_322 : Cond.constantLong RX12 322 (67173) ∈ lw_good := mg_8 (List.mem_of_getElem? (i := 17) rfl) rfl
theorem cl_X12_324 : Cond.constantLong RX12 324 (20190604) ∈ lw_good := mg_8 (List.mem_of_getElem? (i := 18) rfl) rfl
theorem cl_X12_326 : Cond.constantLong RX12 326 (6452) ∈ lw_good := mg_8 (List.mem_of_getElem? (i := 19) rfl) rfl
theorem cl_X12_328 : Cond.constantLong RX12 328 (86281587) ∈ lw_good := mg_8 (List.mem_of_getElem? (i := 24) rfl) rfl
theorem cl_X12_330 : Cond.constantLong RX12 330 (680954034) ∈ lw_good := mg_8 (List.mem_of_getElem? (i := 25) rfl) rfl
theorem cl_X12_332 : Cond.constantLong RX12 332 (113708) ∈ lw_good := mg_8 (List.mem_of_getElem? (i := 26) rfl) rfl
theorem cl_X12_334 : Cond.constantLong RX12 334 (370323) ∈ lw_good := mg_8 (List.mem_of_getElem? (i := 27) rfl) rfl
theorem cl_X12_284 : Cond.constantLong RX12 284 (14836) ∈ lw_good := mg_8 (List.mem_of_getElem? (i := 36) rfl) rfl
theorem cl_X12_271 : Cond.constantLong RX12 271 (12748404) ∈ lw_good := mg_8 (List.mem_of_getElem? (i := 53) rfl) rfl
theorem cl_X12_273 : Cond.constantLong RX12 273 (441972) ∈ lw_good := mg_8 (List.mem_of_getElem? (i := 54) rfl) rfl
theorem cl_X12_241 : Cond.constantLong RX12 241 (19381683) ∈ lw_good := mg_8 (List.mem_of_getElem? (i := 59) rfl) rfl
theorem cl_X12_247 : Cond.constantLong RX12 247 (17367154131) ∈ lw_good := mg_8 (List.mem_of_getElem? (i := 60) rfl) rfl
theorem cl_X12_249 : Cond.constantLong RX12 249 (111983872174) ∈ lw_good := mg_8 (List.mem_of_getElem? (i := 61) rfl) rfl
theorem cl_X12_251 : Cond.constantLong RX12 251 (9612) ∈ lw_good := mg_8 (List.mem_of_getElem? (i := 62) rfl) rfl
theorem cl_X12_253 : Cond.constantLong RX12 253 (773116068) ∈ lw_good := mg_8 (List.mem_of_getElem? (i := 63) rfl) rfl
theorem cl_X12_255 : Cond.constantLong RX12 255 (263877) ∈ lw_good := mg_8 (List.mem_of_getElem? (i := 64) rfl) rfl
theorem cl_X12_257 : Cond.constantLong RX12 257 (758955) ∈ lw_good := mg_8 (List.mem_of_getElem? (i := 65) rfl) rfl
theorem cl_X12_279 : Cond.constantLong RX12 279 (10000) ∈ lw_good := mg_8 (List.mem_of_getElem? (i := 66) rfl) rfl
theorem cl_X12_233 : Cond.constantLong RX12 233 (8) ∈ lw_good := mg_8 (List.mem_of_getElem? (i := 94) rfl) rfl
theorem cl_X12_235 : Cond.constantLong RX12 235 (11) ∈ lw_good := mg_8 (List.mem_of_getElem? (i := 95) rfl) rfl
theorem cl_X12_237 : Cond.constantLong RX12 237 (12) ∈ lw_good := mg_8 (List.mem_of_getElem? (i := 96) rfl) rfl
theorem cl_X12_239 : Cond.constantLong RX12 239 (14) ∈ lw_good := mg_8 (List.mem_of_getElem? (i := 97) rfl) rfl
theorem cl_X12_302 : Cond.constantLong RX12 302 (1476) ∈ lw_good := mg_8 (List.mem_of_getElem? (i := 102) rfl) rfl
theorem cl_X12_304 : Cond.constantLong RX12 304 (498) ∈ lw_good := mg_8 (List.mem_of_getElem? (i := 103) rfl) rfl
theorem cl_X12_385 : Cond.constantLong RX12 385 (294) ∈ lw_good := mg_8 (List.mem_of_getElem? (i := 104) rfl) rfl
theorem cl_X12_157 : Cond.constantLong RX12 157 (5) ∈ lw_good := mg_8 (List.mem_of_getElem? (i := 127) rfl) rfl
theorem cl_X12_419 : Cond.constantLong RX12 419 (-1000000000) ∈ lw_good := mg_8 (List.mem_of_getElem? (i := 148) rfl) rfl
theorem cl_X12_421 : Cond.constantLong RX12 421 (1000000000) ∈ lw_good := mg_8 (List.mem_of_getElem? (i := 149) rfl) rfl
theorem cl_X12_450 : Cond.constantLong RX12 450 (6) ∈ lw_good := mg_8 (List.mem_of_getElem? (i := 158) rfl) rfl
theorem cl_X12_456 : Cond.constantLong RX12 456 (4) ∈ lw_good := mg_8 (List.mem_of_getElem? (i := 167) rfl) rfl
theorem cl_X12_462 : Cond.constantLong RX12 462 (1000) ∈ lw_good := mg_8 (List.mem_of_getElem? (i := 176) rfl) rfl
theorem cl_X12_464 : Cond.constantLong RX12 464 (100) ∈ lw_good := mg_8 (List.mem_of_getElem? (i := 177) rfl) rfl
theorem cl_X12_469 : Cond.constantLong RX12 469 (50) ∈ lw_good := mg_8 (List.mem_of_getElem? (i := 185) rfl) rfl
theorem cl_X12_523 : Cond.constantLong RX12 523 (26) ∈ lw_good := mg_8 (List.mem_of_getElem? (i := 202) rfl) rfl
theorem cl_X12_159 : Cond.constantLong RX12 159 (19) ∈ lw_good := mg_9 (List.mem_of_getElem? (i := 55) rfl) rfl
theorem cl_X12_553 : Cond.constantLong RX12 553 (20) ∈ lw_good := mg_9 (List.mem_of_getElem? (i := 80) rfl) rfl
theorem cl_X12_555 : Cond.constantLong RX12 555 (9) ∈ lw_good := mg_9 (List.mem_of_getElem? (i := 81) rfl) rfl
theorem cl_X12_557 : Cond.constantLong RX12 557 (9999) ∈ lw_good := mg_9 (List.mem_of_getElem? (i := 86) rfl) rfl
theorem ck_L_7 : Cond.classLink RL 7 "WarHouses" ∈ lw_good := mg_1 (List.mem_of_getElem? (i := 21) rfl) rfl
theorem ck_X11_7 : Cond.classLink RX11 7 "WarHouses$Told" ∈ lw_good := mg_1 (List.mem_of_getElem? (i := 29) rfl) rfl
theorem ck_X9_11 : Cond.classLink RX9 11 "WarHouses$Act" ∈ lw_good := mg_1 (List.mem_of_getElem? (i := 35) rfl) rfl
theorem ck_X9_17 : Cond.classLink RX9 17 "WarHouses$Table" ∈ lw_good := mg_1 (List.mem_of_getElem? (i := 37) rfl) rfl
theorem ck_X11_20 : Cond.classLink RX11 20 "WarHouses$Reader" ∈ lw_good := mg_1 (List.mem_of_getElem? (i := 138) rfl) rfl
theorem ck_X11_27 : Cond.classLink RX11 27 "WarHouses$Laws" ∈ lw_good := mg_1 (List.mem_of_getElem? (i := 191) rfl) rfl
theorem ck_X11_36 : Cond.classLink RX11 36 "WarHouses$Yard" ∈ lw_good := mg_1 (List.mem_of_getElem? (i := 223) rfl) rfl
theorem ck_X11_45 : Cond.classLink RX11 45 "WarHouses$Run" ∈ lw_good := mg_2 (List.mem_of_getElem? (i := 32) rfl) rfl
theorem ck_X6_9 : Cond.classLink RX6 9 "WarHouses$Site" ∈ lw_good := mg_2 (List.mem_of_getElem? (i := 38) rfl) rfl
theorem ck_X11_55 : Cond.classLink RX11 55 "WarHouses$Choice" ∈ lw_good := mg_2 (List.mem_of_getElem? (i := 107) rfl) rfl
theorem ck_X1_15 : Cond.classLink RX1 15 "WarHouses$Site" ∈ lw_good := mg_2 (List.mem_of_getElem? (i := 113) rfl) rfl
theorem ck_X11_64 : Cond.classLink RX11 64 "WarHouses$Lists" ∈ lw_good := mg_2 (List.mem_of_getElem? (i := 165) rfl) rfl
theorem ck_X11_71 : Cond.classLink RX11 71 "WarHouses$Homes" ∈ lw_good := mg_2 (List.mem_of_getElem? (i := 205) rfl) rfl
theorem ck_X11_113 : Cond.classLink RX11 113 "WarHouses$Act" ∈ lw_good := mg_3 (List.mem_of_getElem? (i := 221) rfl) rfl
theorem ck_J7_317 : Cond.classLink RJ7 317 "[I" ∈ lw_good := mg_3 (List.mem_of_getElem? (i := 236) rfl) rfl
theorem ck_L_10 : Cond.classLink RL 10 "WarHousesModel" ∈ lw_good := mg_6 (List.mem_of_getElem? (i := 172) rfl) rfl
theorem ac_int : Cond.arrayClass .int ∈ lw_good := mem_good (by decide +kernel)
theorem ac_boolean : Cond.arrayClass .boolean ∈ lw_good := mem_good (by decide +kernel)
theorem ac_long : Cond.arrayClass .long ∈ lw_good := mem_good (by decide +kernel)
