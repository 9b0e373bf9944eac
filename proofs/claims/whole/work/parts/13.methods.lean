def m_X0_init : MI := (yX0_init, cX0_init, 4, none, [], true)
theorem ok_X0_init : MOk m_X0_init 3 := ⟨mg_3 (List.mem_of_getElem? (i := 225) rfl) rfl, mg_1 (List.mem_of_getElem? (i := 19) rfl) rfl, ⟨by decide +kernel, by decide +kernel, by decide +kernel⟩, by decide, by decide +kernel⟩
theorem in_X0_init : Cond.instanceMethod m_X0_init.1 ∈ lw_good := mg_3 (List.mem_of_getElem? (i := 224) rfl) rfl
def m_X1_init : MI := (yX1_init, cX1_init, 4, none, [0, 1, 2, 3, 4, 5, 6, 7, 8, 9, 10, 11, 12, 13, 14, 15, 16, 17, 18, 19, 20, 21, 22, 23, 24, 25, 26, 27, 28, 29, 30, 31, 32, 33, 34, 35, 36, 37, 38, 39, 40, 41, 42, 43, 44, 45, 46, 47, 48, 49, 50, 51, 52, 53, 54, 55, 56, 57, 58, 59, 60, 61, 62, 63, 64, 65, 66, 67, 68, 69, 70, 71, 72, 73, 74, 75, 76, 77, 78, 79, 80, 81, 82, 83, 84, 85, 86, 87, 88, 89, 90, 91, 92, 93, 94, 95, 96, 97, 98, 99, 100, 101, 102, 103, 104, 105, 106, 107, 108, 109, 110, 111, 112, 113, 114, 115, 116, 117, 118, 119, 120, 121, 122, 123, 124, 125, 126, 127, 128, 129, 130, 131, 132, 133, 134, 135, 136, 137, 138, 139, 140, 141, 142, 143, 144, 145, 146, 147, 148, 149, 150, 151, 152, 153, 154, 155, 156, 157, 158, 159, 160, 161, 162, 163, 164, 165], true)
theorem ok_X1_init : MOk m_X1_init 2 := ⟨mg_2 (List.mem_of_getElem? (i := 111) rfl) rfl, mg_1 (List.mem_of_getElem? (i := 11) rfl) rfl, ⟨by decide +kernel, by decide +kernel, by decide +kernel⟩, by decide, by decide +kernel⟩
theorem in_X1_init : Cond.instanceMethod m_X1_init.1 ∈ lw_good := mg_2 (List.mem_of_getElem? (i := 110) rfl) rfl
def m_X1_isWished : MI := (yX1_isWished, cX1_isWished, 3, (some .boolean), [], false)
theorem ok_X1_isWished : MOk m_X1_isWished 1 := ⟨mg_4 (List.mem_of_getElem? (i := 134) rfl) rfl, mg_1 (List.mem_of_getElem? (i := 11) rfl) rfl, ⟨by decide +kernel, by decide +kernel, by decide +kernel⟩, by decide, by decide +kernel⟩
theorem in_X1_isWished : Cond.instanceMethod m_X1_isWished.1 ∈ lw_good := mg_4 (List.mem_of_getElem? (i := 132) rfl) rfl
def m_X1_openQuarter : MI := (yX1_openQuarter, cX1_openQuarter, 5, none, [28, 31, 32, 33, 34, 35, 36, 37, 38, 39, 40, 41, 42, 43, 45, 46, 47, 48, 49, 50, 51, 52, 53, 54, 57, 58, 59, 60, 61, 62, 63, 64, 65, 66, 68, 70, 71, 72, 73, 74, 75, 76, 77, 78, 79, 83, 84, 85, 86, 87, 88, 89, 90, 91, 92, 93, 94, 95, 96, 97, 98, 99, 100, 101, 102, 103, 104, 105, 106, 107, 108, 109, 110, 111, 112], false)
theorem ok_X1_openQuarter : MOk m_X1_openQuarter 3 := ⟨mg_5 (List.mem_of_getElem? (i := 49) rfl) rfl, mg_1 (List.mem_of_getElem? (i := 11) rfl) rfl, ⟨by decide +kernel, by decide +kernel, by decide +kernel⟩, by decide, by decide +kernel⟩
theorem in_X1_openQuarter : Cond.instanceMethod m_X1_openQuarter.1 ∈ lw_good := mg_5 (List.mem_of_getElem? (i := 47) rfl) rfl
def m_X1_forget : MI := (yX1_forget, cX1_forget, 1, none, [68, 81], false)
theorem ok_X1_forget : MOk m_X1_forget 0 := ⟨mg_5 (List.mem_of_getElem? (i := 56) rfl) rfl, mg_1 (List.mem_of_getElem? (i := 11) rfl) rfl, ⟨by decide +kernel, by decide +kernel, by decide +kernel⟩, by decide, by decide +kernel⟩
theorem in_X1_forget : Cond.instanceMethod m_X1_forget.1 ∈ lw_good := mg_5 (List.mem_of_getElem? (i := 54) rfl) rfl
def m_X1_tell : MI := (yX1_tell, cX1_tell, 3, none, [81], false)
theorem ok_X1_tell : MOk m_X1_tell 1 := ⟨mg_5 (List.mem_of_getElem? (i := 131) rfl) rfl, mg_1 (List.mem_of_getElem? (i := 11) rfl) rfl, ⟨by decide +kernel, by decide +kernel, by decide +kernel⟩, by decide, by decide +kernel⟩
theorem in_X1_tell : Cond.instanceMethod m_X1_tell.1 ∈ lw_good := mg_5 (List.mem_of_getElem? (i := 129) rfl) rfl
def m_X1_playRow : MI := (yX1_playRow, cX1_playRow, 3, (some (.object "WarHouses$Site")), [28, 31, 32, 33, 37, 38, 39, 40, 41, 42, 43, 45, 46, 47, 48, 49, 50, 51, 52, 53, 54, 57, 58, 59, 60, 61, 62, 63, 64, 65, 66, 70, 71, 72, 73, 74, 75, 76, 77, 78, 79, 83, 84, 85, 86, 87, 88, 89, 90, 91, 92, 93, 94, 95, 96, 97, 98, 99, 100, 101, 102, 103, 104, 105, 106, 107, 108, 109, 110, 111, 112], false)
theorem ok_X1_playRow : MOk m_X1_playRow 0 := ⟨mg_5 (List.mem_of_getElem? (i := 135) rfl) rfl, mg_1 (List.mem_of_getElem? (i := 11) rfl) rfl, ⟨by decide +kernel, by decide +kernel, by decide +kernel⟩, by decide, by decide +kernel⟩
theorem in_X1_playRow : Cond.instanceMethod m_X1_playRow.1 ∈ lw_good := mg_5 (List.mem_of_getElem? (i := 133) rfl) rfl
def m_X1_tellStarts : MI := (yX1_tellStarts, cX1_tellStarts, 3, none, [38, 39], false)
theorem ok_X1_tellStarts : MOk m_X1_tellStarts 1 := ⟨mg_5 (List.mem_of_getElem? (i := 78) rfl) rfl, mg_1 (List.mem_of_getElem? (i := 11) rfl) rfl, ⟨by decide +kernel, by decide +kernel, by decide +kernel⟩, by decide, by decide +kernel⟩
theorem in_X1_tellStarts : Cond.instanceMethod m_X1_tellStarts.1 ∈ lw_good := mg_5 (List.mem_of_getElem? (i := 77) rfl) rfl
def m_X1_dropStarts : MI := (yX1_dropStarts, cX1_dropStarts, 2, none, [38, 39], false)
theorem ok_X1_dropStarts : MOk m_X1_dropStarts 0 := ⟨mg_5 (List.mem_of_getElem? (i := 83) rfl) rfl, mg_1 (List.mem_of_getElem? (i := 11) rfl) rfl, ⟨by decide +kernel, by decide +kernel, by decide +kernel⟩, by decide, by decide +kernel⟩
theorem in_X1_dropStarts : Cond.instanceMethod m_X1_dropStarts.1 ∈ lw_good := mg_5 (List.mem_of_getElem? (i := 82) rfl) rfl
def m_X1_playTime : MI := (yX1_playTime, cX1_playTime, 6, none, [28, 31, 32, 33, 37, 38, 39, 40, 41, 42, 43, 45, 46, 47, 48, 49, 50, 51, 52, 53, 54, 57, 58, 59, 60, 61, 62, 63, 64, 65, 66, 70, 71, 72, 73, 74, 75, 76, 77, 78, 79, 81, 83, 84, 85, 86, 87, 88, 89, 90, 91, 92, 93, 94, 95, 96, 97, 98, 99, 100, 101, 102, 103, 104, 105, 106, 107, 108, 109, 110, 111, 112], false)
theorem ok_X1_playTime : MOk m_X1_playTime 2 := ⟨mg_5 (List.mem_of_getElem? (i := 61) rfl) rfl, mg_1 (List.mem_of_getElem? (i := 11) rfl) rfl, ⟨by decide +kernel, by decide +kernel, by decide +kernel⟩, by decide, by decide +kernel⟩
theorem in_X1_playTime : Cond.instanceMethod m_X1_playTime.1 ∈ lw_good := mg_5 (List.mem_of_getElem? (i := 59) rfl) rfl
def m_X1_putTime : MI := (yX1_putTime, cX1_putTime, 4, none, [81], false)
theorem ok_X1_putTime : MOk m_X1_putTime 2 := ⟨mg_5 (List.mem_of_getElem? (i := 65) rfl) rfl, mg_1 (List.mem_of_getElem? (i := 11) rfl) rfl, ⟨by decide +kernel, by decide +kernel, by decide +kernel⟩, by decide, by decide +kernel⟩
theorem in_X1_putTime : Cond.instanceMethod m_X1_putTime.1 ∈ lw_good := mg_5 (List.mem_of_getElem? (i := 64) rfl) rfl
def m_X1_isAmong : MI := (yX1_isAmong, cX1_isAmong, 2, (some .boolean), [], false)
theorem ok_X1_isAmong : MOk m_X1_isAmong 2 := ⟨mg_5 (List.mem_of_getElem? (i := 68) rfl) rfl, mg_1 (List.mem_of_getElem? (i := 11) rfl) rfl, ⟨by decide +kernel, by decide +kernel, by decide +kernel⟩, by decide, by decide +kernel⟩
theorem is_X1_isAmong : Cond.static m_X1_isAmong.1 ∈ lw_good := mg_5 (List.mem_of_getElem? (i := 67) rfl) rfl
def m_X1_roomsOf : MI := (yX1_roomsOf, cX1_roomsOf, 2, (some .int), [], false)
theorem ok_X1_roomsOf : MOk m_X1_roomsOf 1 := ⟨mg_5 (List.mem_of_getElem? (i := 95) rfl) rfl, mg_1 (List.mem_of_getElem? (i := 11) rfl) rfl, ⟨by decide +kernel, by decide +kernel, by decide +kernel⟩, by decide, by decide +kernel⟩
theorem in_X1_roomsOf : Cond.instanceMethod m_X1_roomsOf.1 ∈ lw_good := mg_5 (List.mem_of_getElem? (i := 93) rfl) rfl
def m_X1_roomsOfAll : MI := (yX1_roomsOfAll, cX1_roomsOfAll, 4, (some .int), [], false)
theorem ok_X1_roomsOfAll : MOk m_X1_roomsOfAll 1 := ⟨mg_5 (List.mem_of_getElem? (i := 91) rfl) rfl, mg_1 (List.mem_of_getElem? (i := 11) rfl) rfl, ⟨by decide +kernel, by decide +kernel, by decide +kernel⟩, by decide, by decide +kernel⟩
theorem in_X1_roomsOfAll : Cond.instanceMethod m_X1_roomsOfAll.1 ∈ lw_good := mg_5 (List.mem_of_getElem? (i := 89) rfl) rfl
def m_X1_housedIn : MI := (yX1_housedIn, cX1_housedIn, 4, (some .int), [], false)
theorem ok_X1_housedIn : MOk m_X1_housedIn 1 := ⟨mg_5 (List.mem_of_getElem? (i := 104) rfl) rfl, mg_1 (List.mem_of_getElem? (i := 11) rfl) rfl, ⟨by decide +kernel, by decide +kernel, by decide +kernel⟩, by decide, by decide +kernel⟩
theorem in_X1_housedIn : Cond.instanceMethod m_X1_housedIn.1 ∈ lw_good := mg_5 (List.mem_of_getElem? (i := 102) rfl) rfl
def m_X1_shellsIn : MI := (yX1_shellsIn, cX1_shellsIn, 4, (some .int), [], false)
theorem ok_X1_shellsIn : MOk m_X1_shellsIn 1 := ⟨mg_5 (List.mem_of_getElem? (i := 109) rfl) rfl, mg_1 (List.mem_of_getElem? (i := 11) rfl) rfl, ⟨by decide +kernel, by decide +kernel, by decide +kernel⟩, by decide, by decide +kernel⟩
theorem in_X1_shellsIn : Cond.instanceMethod m_X1_shellsIn.1 ∈ lw_good := mg_5 (List.mem_of_getElem? (i := 107) rfl) rfl
def m_X1_keepIfBetter : MI := (yX1_keepIfBetter, cX1_keepIfBetter, 3, none, [68, 82], false)
theorem ok_X1_keepIfBetter : MOk m_X1_keepIfBetter 0 := ⟨mg_5 (List.mem_of_getElem? (i := 100) rfl) rfl, mg_1 (List.mem_of_getElem? (i := 11) rfl) rfl, ⟨by decide +kernel, by decide +kernel, by decide +kernel⟩, by decide, by decide +kernel⟩
theorem in_X1_keepIfBetter : Cond.instanceMethod m_X1_keepIfBetter.1 ∈ lw_good := mg_5 (List.mem_of_getElem? (i := 98) rfl) rfl
def m_X1_isRowAhead : MI := (yX1_isRowAhead, cX1_isRowAhead, 2, (some .boolean), [], false)
theorem ok_X1_isRowAhead : MOk m_X1_isRowAhead 0 := ⟨mg_5 (List.mem_of_getElem? (i := 118) rfl) rfl, mg_1 (List.mem_of_getElem? (i := 11) rfl) rfl, ⟨by decide +kernel, by decide +kernel, by decide +kernel⟩, by decide, by decide +kernel⟩
theorem in_X1_isRowAhead : Cond.instanceMethod m_X1_isRowAhead.1 ∈ lw_good := mg_5 (List.mem_of_getElem? (i := 117) rfl) rfl
def m_X2_init : MI := (yX2_init, cX2_init, 4, none, [0, 1, 2, 3, 4, 5, 6, 7, 8, 9, 10, 11, 12, 13, 14, 15, 16, 17, 18, 19, 20, 21, 22, 23, 24, 25, 26, 27, 28, 29, 30, 31, 32, 33, 34, 35, 36, 37, 38, 39, 40, 41, 42, 43, 44, 45, 46, 47, 48, 49, 50, 51, 52, 53, 54, 55, 56, 57, 58, 59, 60, 61, 62, 63, 64, 65, 66, 67, 68, 69, 70, 71, 72, 73, 74, 75, 76, 77, 78, 79, 80, 81, 82, 83, 84, 85, 86, 87, 88, 89, 90, 91, 92, 93, 94, 95, 96, 97, 98, 99, 100, 101, 102, 103, 104, 105, 106, 107, 108, 109, 110, 111, 112, 113, 114, 115, 116, 117, 118, 119, 120, 121, 122, 123, 124, 125, 126, 127, 128, 129, 130, 131, 132, 133, 134, 135, 136, 137, 138, 139, 140, 141, 142, 143, 144, 145, 146, 147, 148, 149, 150, 151, 152, 153, 154, 155, 156, 157, 158, 159, 160, 161, 162, 163, 164, 165], true)
theorem ok_X2_init : MOk m_X2_init 3 := ⟨mg_2 (List.mem_of_getElem? (i := 209) rfl) rfl, mg_1 (List.mem_of_getElem? (i := 13) rfl) rfl, ⟨by decide +kernel, by decide +kernel, by decide +kernel⟩, by decide, by decide +kernel⟩
theorem in_X2_init : Cond.instanceMethod m_X2_init.1 ∈ lw_good := mg_2 (List.mem_of_getElem? (i := 208) rfl) rfl
def m_X2_endOf : MI := (yX2_endOf, cX2_endOf, 6, (some .int), [28, 31, 32, 33], false)
theorem ok_X2_endOf : MOk m_X2_endOf 3 := ⟨mg_6 (List.mem_of_getElem? (i := 10) rfl) rfl, mg_1 (List.mem_of_getElem? (i := 13) rfl) rfl, ⟨by decide +kernel, by decide +kernel, by decide +kernel⟩, by decide, by decide +kernel⟩
theorem in_X2_endOf : Cond.instanceMethod m_X2_endOf.1 ∈ lw_good := mg_6 (List.mem_of_getElem? (i := 8) rfl) rfl
def m_X2_isLived : MI := (yX2_isLived, cX2_isLived, 3, (some .boolean), [], false)
theorem ok_X2_isLived : MOk m_X2_isLived 2 := ⟨mg_6 (List.mem_of_getElem? (i := 29) rfl) rfl, mg_1 (List.mem_of_getElem? (i := 13) rfl) rfl, ⟨by decide +kernel, by decide +kernel, by decide +kernel⟩, by decide, by decide +kernel⟩
theorem in_X2_isLived : Cond.instanceMethod m_X2_isLived.1 ∈ lw_good := mg_6 (List.mem_of_getElem? (i := 27) rfl) rfl
def m_X2_stayIn : MI := (yX2_stayIn, cX2_stayIn, 4, (some .int), [], false)
theorem ok_X2_stayIn : MOk m_X2_stayIn 2 := ⟨mg_6 (List.mem_of_getElem? (i := 20) rfl) rfl, mg_1 (List.mem_of_getElem? (i := 13) rfl) rfl, ⟨by decide +kernel, by decide +kernel, by decide +kernel⟩, by decide, by decide +kernel⟩
theorem in_X2_stayIn : Cond.instanceMethod m_X2_stayIn.1 ∈ lw_good := mg_6 (List.mem_of_getElem? (i := 18) rfl) rfl
def m_X2_livedStay : MI := (yX2_livedStay, cX2_livedStay, 4, (some .int), [], false)
theorem ok_X2_livedStay : MOk m_X2_livedStay 2 := ⟨mg_6 (List.mem_of_getElem? (i := 67) rfl) rfl, mg_1 (List.mem_of_getElem? (i := 13) rfl) rfl, ⟨by decide +kernel, by decide +kernel, by decide +kernel⟩, by decide, by decide +kernel⟩
theorem in_X2_livedStay : Cond.instanceMethod m_X2_livedStay.1 ∈ lw_good := mg_6 (List.mem_of_getElem? (i := 65) rfl) rfl
def m_X2_roofOf : MI := (yX2_roofOf, cX2_roofOf, 5, (some .int), [], false)
theorem ok_X2_roofOf : MOk m_X2_roofOf 2 := ⟨mg_6 (List.mem_of_getElem? (i := 75) rfl) rfl, mg_1 (List.mem_of_getElem? (i := 13) rfl) rfl, ⟨by decide +kernel, by decide +kernel, by decide +kernel⟩, by decide, by decide +kernel⟩
theorem in_X2_roofOf : Cond.instanceMethod m_X2_roofOf.1 ∈ lw_good := mg_6 (List.mem_of_getElem? (i := 73) rfl) rfl
def m_X2_lookRound : MI := (yX2_lookRound, cX2_lookRound, 5, none, [28, 31, 32, 33, 120, 121, 122, 123], false)
theorem ok_X2_lookRound : MOk m_X2_lookRound 2 := ⟨mg_6 (List.mem_of_getElem? (i := 4) rfl) rfl, mg_1 (List.mem_of_getElem? (i := 13) rfl) rfl, ⟨by decide +kernel, by decide +kernel, by decide +kernel⟩, by decide, by decide +kernel⟩
theorem in_X2_lookRound : Cond.instanceMethod m_X2_lookRound.1 ∈ lw_good := mg_6 (List.mem_of_getElem? (i := 2) rfl) rfl
def m_X2_findRoofs : MI := (yX2_findRoofs, cX2_findRoofs, 4, none, [122, 123], false)
theorem ok_X2_findRoofs : MOk m_X2_findRoofs 1 := ⟨mg_6 (List.mem_of_getElem? (i := 24) rfl) rfl, mg_1 (List.mem_of_getElem? (i := 13) rfl) rfl, ⟨by decide +kernel, by decide +kernel, by decide +kernel⟩, by decide, by decide +kernel⟩
theorem in_X2_findRoofs : Cond.instanceMethod m_X2_findRoofs.1 ∈ lw_good := mg_6 (List.mem_of_getElem? (i := 23) rfl) rfl
def m_X2_isFree : MI := (yX2_isFree, cX2_isFree, 2, (some .boolean), [], false)
theorem ok_X2_isFree : MOk m_X2_isFree 1 := ⟨mg_6 (List.mem_of_getElem? (i := 41) rfl) rfl, mg_1 (List.mem_of_getElem? (i := 13) rfl) rfl, ⟨by decide +kernel, by decide +kernel, by decide +kernel⟩, by decide, by decide +kernel⟩
theorem in_X2_isFree : Cond.instanceMethod m_X2_isFree.1 ∈ lw_good := mg_6 (List.mem_of_getElem? (i := 39) rfl) rfl
def m_X2_isRoofless : MI := (yX2_isRoofless, cX2_isRoofless, 2, (some .boolean), [], false)
theorem ok_X2_isRoofless : MOk m_X2_isRoofless 1 := ⟨mg_6 (List.mem_of_getElem? (i := 85) rfl) rfl, mg_1 (List.mem_of_getElem? (i := 13) rfl) rfl, ⟨by decide +kernel, by decide +kernel, by decide +kernel⟩, by decide, by decide +kernel⟩
theorem in_X2_isRoofless : Cond.instanceMethod m_X2_isRoofless.1 ∈ lw_good := mg_6 (List.mem_of_getElem? (i := 83) rfl) rfl
def m_X2_giveAll : MI := (yX2_giveAll, cX2_giveAll, 4, (some .int), [3, 4, 5, 6, 7, 8, 9, 10, 11, 12, 13, 14, 15, 16, 17, 18, 121, 122, 123], true)
theorem ok_X2_giveAll : MOk m_X2_giveAll 1 := ⟨mg_6 (List.mem_of_getElem? (i := 33) rfl) rfl, mg_1 (List.mem_of_getElem? (i := 13) rfl) rfl, ⟨by decide +kernel, by decide +kernel, by decide +kernel⟩, by decide, by decide +kernel⟩
theorem in_X2_giveAll : Cond.instanceMethod m_X2_giveAll.1 ∈ lw_good := mg_6 (List.mem_of_getElem? (i := 31) rfl) rfl
def m_X2_giveInChain : MI := (yX2_giveInChain, cX2_giveInChain, 8, (some .int), [3, 4, 5, 6, 7, 8, 9, 10, 11, 12, 13, 14, 15, 16, 17, 18, 121, 122, 123], true)
theorem ok_X2_giveInChain : MOk m_X2_giveInChain 2 := ⟨mg_6 (List.mem_of_getElem? (i := 37) rfl) rfl, mg_1 (List.mem_of_getElem? (i := 13) rfl) rfl, ⟨by decide +kernel, by decide +kernel, by decide +kernel⟩, by decide, by decide +kernel⟩
theorem in_X2_giveInChain : Cond.instanceMethod m_X2_giveInChain.1 ∈ lw_good := mg_6 (List.mem_of_getElem? (i := 36) rfl) rfl
def m_X2_firstFor : MI := (yX2_firstFor, cX2_firstFor, 9, (some .int), [], false)
theorem ok_X2_firstFor : MOk m_X2_firstFor 1 := ⟨mg_6 (List.mem_of_getElem? (i := 45) rfl) rfl, mg_1 (List.mem_of_getElem? (i := 13) rfl) rfl, ⟨by decide +kernel, by decide +kernel, by decide +kernel⟩, by decide, by decide +kernel⟩
theorem in_X2_firstFor : Cond.instanceMethod m_X2_firstFor.1 ∈ lw_good := mg_6 (List.mem_of_getElem? (i := 44) rfl) rfl
def m_X2_leave : MI := (yX2_leave, cX2_leave, 3, none, [3, 4, 5, 6, 7, 8, 9, 10, 11, 12, 13, 14, 15, 16, 17, 18, 121], true)
theorem ok_X2_leave : MOk m_X2_leave 2 := ⟨mg_6 (List.mem_of_getElem? (i := 49) rfl) rfl, mg_1 (List.mem_of_getElem? (i := 13) rfl) rfl, ⟨by decide +kernel, by decide +kernel, by decide +kernel⟩, by decide, by decide +kernel⟩
theorem in_X2_leave : Cond.instanceMethod m_X2_leave.1 ∈ lw_good := mg_6 (List.mem_of_getElem? (i := 48) rfl) rfl
def m_X2_goIn : MI := (yX2_goIn, cX2_goIn, 7, none, [3, 4, 5, 6, 7, 8, 9, 10, 11, 12, 13, 14, 15, 16, 17, 18, 121], true)
theorem ok_X2_goIn : MOk m_X2_goIn 5 := ⟨mg_6 (List.mem_of_getElem? (i := 54) rfl) rfl, mg_1 (List.mem_of_getElem? (i := 13) rfl) rfl, ⟨by decide +kernel, by decide +kernel, by decide +kernel⟩, by decide, by decide +kernel⟩
theorem in_X2_goIn : Cond.instanceMethod m_X2_goIn.1 ∈ lw_good := mg_6 (List.mem_of_getElem? (i := 52) rfl) rfl
def m_X2_emptyStay : MI := (yX2_emptyStay, cX2_emptyStay, 2, (some .int), [3, 4, 5, 6, 7, 8, 9, 10, 11, 12, 13, 14, 15, 16, 17, 18], true)
theorem ok_X2_emptyStay : MOk m_X2_emptyStay 0 := ⟨mg_6 (List.mem_of_getElem? (i := 58) rfl) rfl, mg_1 (List.mem_of_getElem? (i := 13) rfl) rfl, ⟨by decide +kernel, by decide +kernel, by decide +kernel⟩, by decide, by decide +kernel⟩
theorem in_X2_emptyStay : Cond.instanceMethod m_X2_emptyStay.1 ∈ lw_good := mg_6 (List.mem_of_getElem? (i := 57) rfl) rfl
def m_X3_init : MI := (yX3_init, cX3_init, 2, none, [0, 1, 2, 3, 4, 5, 6, 7, 8, 9, 10, 11, 12, 13, 14, 15, 16, 17, 18, 19, 20, 21, 22, 23, 24, 25, 26, 27, 28, 29, 30, 31, 32, 33, 34, 35, 36, 37, 38, 39, 40, 41, 42, 43, 44, 45, 46, 47, 48, 49, 50, 51, 52, 53, 54, 55, 56, 57, 58, 59, 60, 61, 62, 63, 64, 65, 66, 67, 68, 69, 70, 71, 72, 73, 74, 75, 76, 77, 78, 79, 80, 81, 82, 83, 84, 85, 86, 87, 88, 89, 90, 91, 92, 93, 94, 95, 96, 97, 98, 99, 100, 101, 102, 103, 104, 105, 106, 107, 108, 109, 110, 111, 112, 113, 114, 115, 116, 117, 118, 119, 120, 121, 122, 123, 124, 125, 126, 127, 128, 129, 130, 131, 132, 133, 134, 135, 136, 137, 138, 139, 140, 141, 142, 143, 144, 145, 146, 147, 148, 149, 150, 151, 152, 153, 154, 155, 156, 157, 158, 159, 160, 161, 162, 163, 164, 165], true)
theorem ok_X3_init : MOk m_X3_init 1 := ⟨mg_1 (List.mem_of_getElem? (i := 195) rfl) rfl, mg_1 (List.mem_of_getElem? (i := 6) rfl) rfl, ⟨by decide +kernel, by decide +kernel, by decide +kernel⟩, by decide, by decide +kernel⟩
theorem in_X3_init : Cond.instanceMethod m_X3_init.1 ∈ lw_good := mg_1 (List.mem_of_getElem? (i := 194) rfl) rfl
def m_X3_reread : MI := (yX3_reread, cX3_reread, 5, none, [28, 29, 30], false)
theorem ok_X3_reread : MOk m_X3_reread 0 := ⟨mg_4 (List.mem_of_getElem? (i := 36) rfl) rfl, mg_1 (List.mem_of_getElem? (i := 6) rfl) rfl, ⟨by decide +kernel, by decide +kernel, by decide +kernel⟩, by decide, by decide +kernel⟩
theorem in_X3_reread : Cond.instanceMethod m_X3_reread.1 ∈ lw_good := mg_4 (List.mem_of_getElem? (i := 34) rfl) rfl
def m_X3_settle : MI := (yX3_settle, cX3_settle, 6, none, [28, 31], false)
theorem ok_X3_settle : MOk m_X3_settle 2 := ⟨mg_4 (List.mem_of_getElem? (i := 48) rfl) rfl, mg_1 (List.mem_of_getElem? (i := 6) rfl) rfl, ⟨by decide +kernel, by decide +kernel, by decide +kernel⟩, by decide, by decide +kernel⟩
theorem in_X3_settle : Cond.instanceMethod m_X3_settle.1 ∈ lw_good := mg_4 (List.mem_of_getElem? (i := 46) rfl) rfl
def m_X3_findForced : MI := (yX3_findForced, cX3_findForced, 6, none, [31], false)
theorem ok_X3_findForced : MOk m_X3_findForced 1 := ⟨mg_4 (List.mem_of_getElem? (i := 52) rfl) rfl, mg_1 (List.mem_of_getElem? (i := 6) rfl) rfl, ⟨by decide +kernel, by decide +kernel, by decide +kernel⟩, by decide, by decide +kernel⟩
theorem in_X3_findForced : Cond.instanceMethod m_X3_findForced.1 ∈ lw_good := mg_4 (List.mem_of_getElem? (i := 51) rfl) rfl
def m_X3_isForced : MI := (yX3_isForced, cX3_isForced, 3, (some .boolean), [], false)
theorem ok_X3_isForced : MOk m_X3_isForced 2 := ⟨mg_4 (List.mem_of_getElem? (i := 57) rfl) rfl, mg_1 (List.mem_of_getElem? (i := 6) rfl) rfl, ⟨by decide +kernel, by decide +kernel, by decide +kernel⟩, by decide, by decide +kernel⟩
theorem in_X3_isForced : Cond.instanceMethod m_X3_isForced.1 ∈ lw_good := mg_4 (List.mem_of_getElem? (i := 55) rfl) rfl
def m_X3_ask : MI := (yX3_ask, cX3_ask, 3, none, [32], false)
theorem ok_X3_ask : MOk m_X3_ask 2 := ⟨mg_4 (List.mem_of_getElem? (i := 66) rfl) rfl, mg_1 (List.mem_of_getElem? (i := 6) rfl) rfl, ⟨by decide +kernel, by decide +kernel, by decide +kernel⟩, by decide, by decide +kernel⟩
theorem in_X3_ask : Cond.instanceMethod m_X3_ask.1 ∈ lw_good := mg_4 (List.mem_of_getElem? (i := 64) rfl) rfl
def m_X3_askOf : MI := (yX3_askOf, cX3_askOf, 3, none, [32], false)
theorem ok_X3_askOf : MOk m_X3_askOf 2 := ⟨mg_5 (List.mem_of_getElem? (i := 193) rfl) rfl, mg_1 (List.mem_of_getElem? (i := 6) rfl) rfl, ⟨by decide +kernel, by decide +kernel, by decide +kernel⟩, by decide, by decide +kernel⟩
theorem in_X3_askOf : Cond.instanceMethod m_X3_askOf.1 ∈ lw_good := mg_5 (List.mem_of_getElem? (i := 191) rfl) rfl
def m_X3_counted : MI := (yX3_counted, cX3_counted, 6, (some .int), [33], false)
theorem ok_X3_counted : MOk m_X3_counted 1 := ⟨mg_4 (List.mem_of_getElem? (i := 70) rfl) rfl, mg_1 (List.mem_of_getElem? (i := 6) rfl) rfl, ⟨by decide +kernel, by decide +kernel, by decide +kernel⟩, by decide, by decide +kernel⟩
theorem in_X3_counted : Cond.instanceMethod m_X3_counted.1 ∈ lw_good := mg_4 (List.mem_of_getElem? (i := 68) rfl) rfl
def m_X3_total : MI := (yX3_total, cX3_total, 8, (some .long), [33], false)
theorem ok_X3_total : MOk m_X3_total 1 := ⟨mg_5 (List.mem_of_getElem? (i := 198) rfl) rfl, mg_1 (List.mem_of_getElem? (i := 6) rfl) rfl, ⟨by decide +kernel, by decide +kernel, by decide +kernel⟩, by decide, by decide +kernel⟩
theorem in_X3_total : Cond.instanceMethod m_X3_total.1 ∈ lw_good := mg_5 (List.mem_of_getElem? (i := 196) rfl) rfl
def m_X3_evaluate : MI := (yX3_evaluate, cX3_evaluate, 8, (some .long), [33], false)
theorem ok_X3_evaluate : MOk m_X3_evaluate 1 := ⟨mg_4 (List.mem_of_getElem? (i := 74) rfl) rfl, mg_1 (List.mem_of_getElem? (i := 6) rfl) rfl, ⟨by decide +kernel, by decide +kernel, by decide +kernel⟩, by decide, by decide +kernel⟩
theorem in_X3_evaluate : Cond.instanceMethod m_X3_evaluate.1 ∈ lw_good := mg_4 (List.mem_of_getElem? (i := 73) rfl) rfl
def m_X3_joined : MI := (yX3_joined, cX3_joined, 7, (some .long), [], false)
theorem ok_X3_joined : MOk m_X3_joined 3 := ⟨mg_4 (List.mem_of_getElem? (i := 78) rfl) rfl, mg_1 (List.mem_of_getElem? (i := 6) rfl) rfl, ⟨by decide +kernel, by decide +kernel, by decide +kernel⟩, by decide, by decide +kernel⟩
theorem is_X3_joined : Cond.static m_X3_joined.1 ∈ lw_good := mg_4 (List.mem_of_getElem? (i := 77) rfl) rfl
def m_X4_init : MI := (yX4_init, cX4_init, 3, none, [0, 1, 2, 3, 4, 5, 6, 7, 8, 9, 10, 11, 12, 13, 14, 15, 16, 17, 18, 19, 20, 21, 22, 23, 24, 25, 26, 27, 28, 29, 30, 31, 32, 33, 34, 35, 36, 37, 38, 39, 40, 41, 42, 43, 44, 45, 46, 47, 48, 49, 50, 51, 52, 53, 54, 55, 56, 57, 58, 59, 60, 61, 62, 63, 64, 65, 66, 67, 68, 69, 70, 71, 72, 73, 74, 75, 76, 77, 78, 79, 80, 81, 82, 83, 84, 85, 86, 87, 88, 89, 90, 91, 92, 93, 94, 95, 96, 97, 98, 99, 100, 101, 102, 103, 104, 105, 106, 107, 108, 109, 110, 111, 112, 113, 114, 115, 116, 117, 118, 119, 120, 121, 122, 123, 124, 125, 126, 127, 128, 129, 130, 131, 132, 133, 134, 135, 136, 137, 138, 139, 140, 141, 142, 143, 144, 145, 146, 147, 148, 149, 150, 151, 152, 153, 154, 155, 156, 157, 158, 159, 160, 161, 162, 163, 164, 165], true)
theorem ok_X4_init : MOk m_X4_init 2 := ⟨mg_2 (List.mem_of_getElem? (i := 169) rfl) rfl, mg_1 (List.mem_of_getElem? (i := 12) rfl) rfl, ⟨by decide +kernel, by decide +kernel, by decide +kernel⟩, by decide, by decide +kernel⟩
theorem in_X4_init : Cond.instanceMethod m_X4_init.1 ∈ lw_good := mg_2 (List.mem_of_getElem? (i := 168) rfl) rfl
def m_X4_join : MI := (yX4_join, cX4_join, 5, none, [113, 114], false)
theorem ok_X4_join : MOk m_X4_join 2 := ⟨mg_5 (List.mem_of_getElem? (i := 166) rfl) rfl, mg_1 (List.mem_of_getElem? (i := 12) rfl) rfl, ⟨by decide +kernel, by decide +kernel, by decide +kernel⟩, by decide, by decide +kernel⟩
theorem in_X4_join : Cond.instanceMethod m_X4_join.1 ∈ lw_good := mg_5 (List.mem_of_getElem? (i := 164) rfl) rfl
def m_X4_makeOne : MI := (yX4_makeOne, cX4_makeOne, 6, none, [114], false)
theorem ok_X4_makeOne : MOk m_X4_makeOne 3 := ⟨mg_5 (List.mem_of_getElem? (i := 176) rfl) rfl, mg_1 (List.mem_of_getElem? (i := 12) rfl) rfl, ⟨by decide +kernel, by decide +kernel, by decide +kernel⟩, by decide, by decide +kernel⟩
theorem in_X4_makeOne : Cond.instanceMethod m_X4_makeOne.1 ∈ lw_good := mg_5 (List.mem_of_getElem? (i := 175) rfl) rfl
def m_X4_isAlike : MI := (yX4_isAlike, cX4_isAlike, 7, (some .boolean), [], false)
theorem ok_X4_isAlike : MOk m_X4_isAlike 2 := ⟨mg_5 (List.mem_of_getElem? (i := 172) rfl) rfl, mg_1 (List.mem_of_getElem? (i := 12) rfl) rfl, ⟨by decide +kernel, by decide +kernel, by decide +kernel⟩, by decide, by decide +kernel⟩
theorem in_X4_isAlike : Cond.instanceMethod m_X4_isAlike.1 ∈ lw_good := mg_5 (List.mem_of_getElem? (i := 171) rfl) rfl
def m_X4_weightOf : MI := (yX4_weightOf, cX4_weightOf, 3, (some .long), [32, 33], false)
theorem ok_X4_weightOf : MOk m_X4_weightOf 2 := ⟨mg_5 (List.mem_of_getElem? (i := 187) rfl) rfl, mg_1 (List.mem_of_getElem? (i := 12) rfl) rfl, ⟨by decide +kernel, by decide +kernel, by decide +kernel⟩, by decide, by decide +kernel⟩
theorem in_X4_weightOf : Cond.instanceMethod m_X4_weightOf.1 ∈ lw_good := mg_5 (List.mem_of_getElem? (i := 185) rfl) rfl
def m_X4_sortAll : MI := (yX4_sortAll, cX4_sortAll, 3, none, [28, 31, 32, 33, 115, 116, 117], false)
theorem ok_X4_sortAll : MOk m_X4_sortAll 1 := ⟨mg_6 (List.mem_of_getElem? (i := 0) rfl) rfl, mg_1 (List.mem_of_getElem? (i := 12) rfl) rfl, ⟨by decide +kernel, by decide +kernel, by decide +kernel⟩, by decide, by decide +kernel⟩
theorem in_X4_sortAll : Cond.instanceMethod m_X4_sortAll.1 ∈ lw_good := mg_5 (List.mem_of_getElem? (i := 238) rfl) rfl
def m_X4_sort : MI := (yX4_sort, cX4_sort, 8, none, [28, 31, 32, 33, 115, 116, 117], false)
theorem ok_X4_sort : MOk m_X4_sort 3 := ⟨mg_5 (List.mem_of_getElem? (i := 212) rfl) rfl, mg_1 (List.mem_of_getElem? (i := 12) rfl) rfl, ⟨by decide +kernel, by decide +kernel, by decide +kernel⟩, by decide, by decide +kernel⟩
theorem in_X4_sort : Cond.instanceMethod m_X4_sort.1 ∈ lw_good := mg_5 (List.mem_of_getElem? (i := 210) rfl) rfl
def m_X4_isAhead : MI := (yX4_isAhead, cX4_isAhead, 5, (some .boolean), [], false)
theorem ok_X4_isAhead : MOk m_X4_isAhead 2 := ⟨mg_5 (List.mem_of_getElem? (i := 218) rfl) rfl, mg_1 (List.mem_of_getElem? (i := 12) rfl) rfl, ⟨by decide +kernel, by decide +kernel, by decide +kernel⟩, by decide, by decide +kernel⟩
theorem in_X4_isAhead : Cond.instanceMethod m_X4_isAhead.1 ∈ lw_good := mg_5 (List.mem_of_getElem? (i := 217) rfl) rfl
def m_X4_turned : MI := (yX4_turned, cX4_turned, 10, (some .int), [28, 31, 32, 33, 115, 116, 117, 118], false)
theorem ok_X4_turned : MOk m_X4_turned 4 := ⟨mg_5 (List.mem_of_getElem? (i := 226) rfl) rfl, mg_1 (List.mem_of_getElem? (i := 12) rfl) rfl, ⟨by decide +kernel, by decide +kernel, by decide +kernel⟩, by decide, by decide +kernel⟩
theorem in_X4_turned : Cond.instanceMethod m_X4_turned.1 ∈ lw_good := mg_5 (List.mem_of_getElem? (i := 224) rfl) rfl
def m_X5_init : MI := (yX5_init, cX5_init, 1, none, [0, 1, 2, 3, 4, 5, 6, 7, 8, 9, 10, 11, 12, 13, 14, 15, 16, 17, 18, 19, 20, 21, 22, 23, 24, 25, 26, 27, 28, 29, 30, 31, 32, 33, 34, 35, 36, 37, 38, 39, 40, 41, 42, 43, 44, 45, 46, 47, 48, 49, 50, 51, 52, 53, 54, 55, 56, 57, 58, 59, 60, 61, 62, 63, 64, 65, 66, 67, 68, 69, 70, 71, 72, 73, 74, 75, 76, 77, 78, 79, 80, 81, 82, 83, 84, 85, 86, 87, 88, 89, 90, 91, 92, 93, 94, 95, 96, 97, 98, 99, 100, 101, 102, 103, 104, 105, 106, 107, 108, 109, 110, 111, 112, 113, 114, 115, 116, 117, 118, 119, 120, 121, 122, 123, 124, 125, 126, 127, 128, 129, 130, 131, 132, 133, 134, 135, 136, 137, 138, 139, 140, 141, 142, 143, 144, 145, 146, 147, 148, 149, 150, 151, 152, 153, 154, 155, 156, 157, 158, 159, 160, 161, 162, 163, 164, 165], true)
theorem ok_X5_init : MOk m_X5_init 0 := ⟨mg_1 (List.mem_of_getElem? (i := 142) rfl) rfl, mg_1 (List.mem_of_getElem? (i := 5) rfl) rfl, ⟨by decide +kernel, by decide +kernel, by decide +kernel⟩, by decide, by decide +kernel⟩
theorem in_X5_init : Cond.instanceMethod m_X5_init.1 ∈ lw_good := mg_1 (List.mem_of_getElem? (i := 141) rfl) rfl
def m_X5_hasRoom : MI := (yX5_hasRoom, cX5_hasRoom, 2, (some .boolean), [], false)
theorem ok_X5_hasRoom : MOk m_X5_hasRoom 1 := ⟨mg_3 (List.mem_of_getElem? (i := 43) rfl) rfl, mg_1 (List.mem_of_getElem? (i := 5) rfl) rfl, ⟨by decide +kernel, by decide +kernel, by decide +kernel⟩, by decide, by decide +kernel⟩
theorem in_X5_hasRoom : Cond.instanceMethod m_X5_hasRoom.1 ∈ lw_good := mg_3 (List.mem_of_getElem? (i := 41) rfl) rfl
def m_X5_write : MI := (yX5_write, cX5_write, 3, none, [22, 23], false)
theorem ok_X5_write : MOk m_X5_write 1 := ⟨mg_3 (List.mem_of_getElem? (i := 47) rfl) rfl, mg_1 (List.mem_of_getElem? (i := 5) rfl) rfl, ⟨by decide +kernel, by decide +kernel, by decide +kernel⟩, by decide, by decide +kernel⟩
theorem in_X5_write : Cond.instanceMethod m_X5_write.1 ∈ lw_good := mg_3 (List.mem_of_getElem? (i := 45) rfl) rfl
def m_X5_read : MI := (yX5_read, cX5_read, 1, (some .int), [22, 24, 25, 26, 27], false)
theorem ok_X5_read : MOk m_X5_read 0 := ⟨mg_3 (List.mem_of_getElem? (i := 65) rfl) rfl, mg_1 (List.mem_of_getElem? (i := 5) rfl) rfl, ⟨by decide +kernel, by decide +kernel, by decide +kernel⟩, by decide, by decide +kernel⟩
theorem in_X5_read : Cond.instanceMethod m_X5_read.1 ∈ lw_good := mg_3 (List.mem_of_getElem? (i := 63) rfl) rfl
def m_X5_step : MI := (yX5_step, cX5_step, 2, none, [22], false)
theorem ok_X5_step : MOk m_X5_step 0 := ⟨mg_3 (List.mem_of_getElem? (i := 69) rfl) rfl, mg_1 (List.mem_of_getElem? (i := 5) rfl) rfl, ⟨by decide +kernel, by decide +kernel, by decide +kernel⟩, by decide, by decide +kernel⟩
theorem in_X5_step : Cond.instanceMethod m_X5_step.1 ∈ lw_good := mg_3 (List.mem_of_getElem? (i := 68) rfl) rfl
def m_X5_isLetter : MI := (yX5_isLetter, cX5_isLetter, 1, (some .boolean), [], false)
theorem ok_X5_isLetter : MOk m_X5_isLetter 1 := ⟨mg_3 (List.mem_of_getElem? (i := 72) rfl) rfl, mg_1 (List.mem_of_getElem? (i := 5) rfl) rfl, ⟨by decide +kernel, by decide +kernel, by decide +kernel⟩, by decide, by decide +kernel⟩
theorem is_X5_isLetter : Cond.static m_X5_isLetter.1 ∈ lw_good := mg_3 (List.mem_of_getElem? (i := 71) rfl) rfl
def m_X5_isDigit : MI := (yX5_isDigit, cX5_isDigit, 1, (some .boolean), [], false)
theorem ok_X5_isDigit : MOk m_X5_isDigit 1 := ⟨mg_3 (List.mem_of_getElem? (i := 75) rfl) rfl, mg_1 (List.mem_of_getElem? (i := 5) rfl) rfl, ⟨by decide +kernel, by decide +kernel, by decide +kernel⟩, by decide, by decide +kernel⟩
theorem is_X5_isDigit : Cond.static m_X5_isDigit.1 ∈ lw_good := mg_3 (List.mem_of_getElem? (i := 74) rfl) rfl
def m_X5_isSign : MI := (yX5_isSign, cX5_isSign, 2, (some .boolean), [], false)
theorem ok_X5_isSign : MOk m_X5_isSign 1 := ⟨mg_3 (List.mem_of_getElem? (i := 194) rfl) rfl, mg_1 (List.mem_of_getElem? (i := 5) rfl) rfl, ⟨by decide +kernel, by decide +kernel, by decide +kernel⟩, by decide, by decide +kernel⟩
theorem in_X5_isSign : Cond.instanceMethod m_X5_isSign.1 ∈ lw_good := mg_3 (List.mem_of_getElem? (i := 193) rfl) rfl
def m_X5_takeSign : MI := (yX5_takeSign, cX5_takeSign, 2, (some .boolean), [22], false)
theorem ok_X5_takeSign : MOk m_X5_takeSign 1 := ⟨mg_3 (List.mem_of_getElem? (i := 190) rfl) rfl, mg_1 (List.mem_of_getElem? (i := 5) rfl) rfl, ⟨by decide +kernel, by decide +kernel, by decide +kernel⟩, by decide, by decide +kernel⟩
theorem in_X5_takeSign : Cond.instanceMethod m_X5_takeSign.1 ∈ lw_good := mg_3 (List.mem_of_getElem? (i := 189) rfl) rfl
def m_X5_isWord : MI := (yX5_isWord, cX5_isWord, 2, (some .boolean), [], false)
theorem ok_X5_isWord : MOk m_X5_isWord 1 := ⟨mg_3 (List.mem_of_getElem? (i := 86) rfl) rfl, mg_1 (List.mem_of_getElem? (i := 5) rfl) rfl, ⟨by decide +kernel, by decide +kernel, by decide +kernel⟩, by decide, by decide +kernel⟩
theorem in_X5_isWord : Cond.instanceMethod m_X5_isWord.1 ∈ lw_good := mg_3 (List.mem_of_getElem? (i := 85) rfl) rfl
def m_X5_wordIn : MI := (yX5_wordIn, cX5_wordIn, 5, (some .int), [], false)
theorem ok_X5_wordIn : MOk m_X5_wordIn 1 := ⟨mg_3 (List.mem_of_getElem? (i := 90) rfl) rfl, mg_1 (List.mem_of_getElem? (i := 5) rfl) rfl, ⟨by decide +kernel, by decide +kernel, by decide +kernel⟩, by decide, by decide +kernel⟩
theorem in_X5_wordIn : Cond.instanceMethod m_X5_wordIn.1 ∈ lw_good := mg_3 (List.mem_of_getElem? (i := 89) rfl) rfl
def m_X5_isSpelled : MI := (yX5_isSpelled, cX5_isSpelled, 5, (some .boolean), [], false)
theorem ok_X5_isSpelled : MOk m_X5_isSpelled 3 := ⟨mg_3 (List.mem_of_getElem? (i := 142) rfl) rfl, mg_1 (List.mem_of_getElem? (i := 5) rfl) rfl, ⟨by decide +kernel, by decide +kernel, by decide +kernel⟩, by decide, by decide +kernel⟩
theorem in_X5_isSpelled : Cond.instanceMethod m_X5_isSpelled.1 ∈ lw_good := mg_3 (List.mem_of_getElem? (i := 141) rfl) rfl
def m_X5_takeWord : MI := (yX5_takeWord, cX5_takeWord, 3, (some .int), [22], false)
theorem ok_X5_takeWord : MOk m_X5_takeWord 1 := ⟨mg_3 (List.mem_of_getElem? (i := 156) rfl) rfl, mg_1 (List.mem_of_getElem? (i := 5) rfl) rfl, ⟨by decide +kernel, by decide +kernel, by decide +kernel⟩, by decide, by decide +kernel⟩
theorem in_X5_takeWord : Cond.instanceMethod m_X5_takeWord.1 ∈ lw_good := mg_3 (List.mem_of_getElem? (i := 155) rfl) rfl
def m_X5_emit : MI := (yX5_emit, cX5_emit, 3, none, [22, 27], false)
theorem ok_X5_emit : MOk m_X5_emit 2 := ⟨mg_3 (List.mem_of_getElem? (i := 169) rfl) rfl, mg_1 (List.mem_of_getElem? (i := 5) rfl) rfl, ⟨by decide +kernel, by decide +kernel, by decide +kernel⟩, by decide, by decide +kernel⟩
theorem in_X5_emit : Cond.instanceMethod m_X5_emit.1 ∈ lw_good := mg_3 (List.mem_of_getElem? (i := 168) rfl) rfl
def m_X5_readClause : MI := (yX5_readClause, cX5_readClause, 1, (some .boolean), [22, 24, 25, 26, 27], false)
theorem ok_X5_readClause : MOk m_X5_readClause 0 := ⟨mg_3 (List.mem_of_getElem? (i := 81) rfl) rfl, mg_1 (List.mem_of_getElem? (i := 5) rfl) rfl, ⟨by decide +kernel, by decide +kernel, by decide +kernel⟩, by decide, by decide +kernel⟩
theorem in_X5_readClause : Cond.instanceMethod m_X5_readClause.1 ∈ lw_good := mg_3 (List.mem_of_getElem? (i := 80) rfl) rfl
def m_X5_readStrike : MI := (yX5_readStrike, cX5_readStrike, 2, (some .boolean), [22, 24, 25], false)
theorem ok_X5_readStrike : MOk m_X5_readStrike 0 := ⟨mg_3 (List.mem_of_getElem? (i := 146) rfl) rfl, mg_1 (List.mem_of_getElem? (i := 5) rfl) rfl, ⟨by decide +kernel, by decide +kernel, by decide +kernel⟩, by decide, by decide +kernel⟩
theorem in_X5_readStrike : Cond.instanceMethod m_X5_readStrike.1 ∈ lw_good := mg_3 (List.mem_of_getElem? (i := 145) rfl) rfl
def m_X5_readHead : MI := (yX5_readHead, cX5_readHead, 7, (some .boolean), [22, 24, 27], false)
theorem ok_X5_readHead : MOk m_X5_readHead 0 := ⟨mg_3 (List.mem_of_getElem? (i := 151) rfl) rfl, mg_1 (List.mem_of_getElem? (i := 5) rfl) rfl, ⟨by decide +kernel, by decide +kernel, by decide +kernel⟩, by decide, by decide +kernel⟩
theorem in_X5_readHead : Cond.instanceMethod m_X5_readHead.1 ∈ lw_good := mg_3 (List.mem_of_getElem? (i := 150) rfl) rfl
def m_X5_headOf : MI := (yX5_headOf, cX5_headOf, 2, (some .int), [], false)
theorem ok_X5_headOf : MOk m_X5_headOf 2 := ⟨mg_3 (List.mem_of_getElem? (i := 165) rfl) rfl, mg_1 (List.mem_of_getElem? (i := 5) rfl) rfl, ⟨by decide +kernel, by decide +kernel, by decide +kernel⟩, by decide, by decide +kernel⟩
theorem is_X5_headOf : Cond.static m_X5_headOf.1 ∈ lw_good := mg_3 (List.mem_of_getElem? (i := 164) rfl) rfl
def m_X5_readTest : MI := (yX5_readTest, cX5_readTest, 4, (some .boolean), [22, 27], false)
theorem ok_X5_readTest : MOk m_X5_readTest 1 := ⟨mg_3 (List.mem_of_getElem? (i := 200) rfl) rfl, mg_1 (List.mem_of_getElem? (i := 5) rfl) rfl, ⟨by decide +kernel, by decide +kernel, by decide +kernel⟩, by decide, by decide +kernel⟩
theorem in_X5_readTest : Cond.instanceMethod m_X5_readTest.1 ∈ lw_good := mg_3 (List.mem_of_getElem? (i := 199) rfl) rfl
def m_X5_readBoth : MI := (yX5_readBoth, cX5_readBoth, 4, (some .boolean), [22, 27], false)
theorem ok_X5_readBoth : MOk m_X5_readBoth 1 := ⟨mg_3 (List.mem_of_getElem? (i := 204) rfl) rfl, mg_1 (List.mem_of_getElem? (i := 5) rfl) rfl, ⟨by decide +kernel, by decide +kernel, by decide +kernel⟩, by decide, by decide +kernel⟩
theorem in_X5_readBoth : Cond.instanceMethod m_X5_readBoth.1 ∈ lw_good := mg_3 (List.mem_of_getElem? (i := 203) rfl) rfl
def m_X5_readPlain : MI := (yX5_readPlain, cX5_readPlain, 4, (some .boolean), [22, 27], false)
theorem ok_X5_readPlain : MOk m_X5_readPlain 1 := ⟨mg_3 (List.mem_of_getElem? (i := 208) rfl) rfl, mg_1 (List.mem_of_getElem? (i := 5) rfl) rfl, ⟨by decide +kernel, by decide +kernel, by decide +kernel⟩, by decide, by decide +kernel⟩
theorem in_X5_readPlain : Cond.instanceMethod m_X5_readPlain.1 ∈ lw_good := mg_3 (List.mem_of_getElem? (i := 207) rfl) rfl
def m_X5_readBracket : MI := (yX5_readBracket, cX5_readBracket, 2, (some .boolean), [22, 27], false)
theorem ok_X5_readBracket : MOk m_X5_readBracket 1 := ⟨mg_3 (List.mem_of_getElem? (i := 213) rfl) rfl, mg_1 (List.mem_of_getElem? (i := 5) rfl) rfl, ⟨by decide +kernel, by decide +kernel, by decide +kernel⟩, by decide, by decide +kernel⟩
theorem in_X5_readBracket : Cond.instanceMethod m_X5_readBracket.1 ∈ lw_good := mg_3 (List.mem_of_getElem? (i := 212) rfl) rfl
def m_X5_readSum : MI := (yX5_readSum, cX5_readSum, 4, (some .boolean), [22, 27], false)
theorem ok_X5_readSum : MOk m_X5_readSum 1 := ⟨mg_3 (List.mem_of_getElem? (i := 173) rfl) rfl, mg_1 (List.mem_of_getElem? (i := 5) rfl) rfl, ⟨by decide +kernel, by decide +kernel, by decide +kernel⟩, by decide, by decide +kernel⟩
theorem in_X5_readSum : Cond.instanceMethod m_X5_readSum.1 ∈ lw_good := mg_3 (List.mem_of_getElem? (i := 172) rfl) rfl
def m_X5_readTerm : MI := (yX5_readTerm, cX5_readTerm, 4, (some .boolean), [22, 27], false)
theorem ok_X5_readTerm : MOk m_X5_readTerm 1 := ⟨mg_3 (List.mem_of_getElem? (i := 177) rfl) rfl, mg_1 (List.mem_of_getElem? (i := 5) rfl) rfl, ⟨by decide +kernel, by decide +kernel, by decide +kernel⟩, by decide, by decide +kernel⟩
theorem in_X5_readTerm : Cond.instanceMethod m_X5_readTerm.1 ∈ lw_good := mg_3 (List.mem_of_getElem? (i := 176) rfl) rfl
def m_X5_readPart : MI := (yX5_readPart, cX5_readPart, 4, (some .boolean), [22, 27], false)
theorem ok_X5_readPart : MOk m_X5_readPart 1 := ⟨mg_3 (List.mem_of_getElem? (i := 181) rfl) rfl, mg_1 (List.mem_of_getElem? (i := 5) rfl) rfl, ⟨by decide +kernel, by decide +kernel, by decide +kernel⟩, by decide, by decide +kernel⟩
theorem in_X5_readPart : Cond.instanceMethod m_X5_readPart.1 ∈ lw_good := mg_3 (List.mem_of_getElem? (i := 180) rfl) rfl
def m_X5_takeLeaf : MI := (yX5_takeLeaf, cX5_takeLeaf, 3, (some .boolean), [22, 27], false)
theorem ok_X5_takeLeaf : MOk m_X5_takeLeaf 2 := ⟨mg_3 (List.mem_of_getElem? (i := 185) rfl) rfl, mg_1 (List.mem_of_getElem? (i := 5) rfl) rfl, ⟨by decide +kernel, by decide +kernel, by decide +kernel⟩, by decide, by decide +kernel⟩
theorem in_X5_takeLeaf : Cond.instanceMethod m_X5_takeLeaf.1 ∈ lw_good := mg_3 (List.mem_of_getElem? (i := 184) rfl) rfl
def m_X6_init : MI := (yX6_init, cX6_init, 1, none, [0, 1, 2, 3, 4, 5, 6, 7, 8, 9, 10, 11, 12, 13, 14, 15, 16, 17, 18, 19, 20, 21, 22, 23, 24, 25, 26, 27, 28, 29, 30, 31, 32, 33, 34, 35, 36, 37, 38, 39, 40, 41, 42, 43, 44, 45, 46, 47, 48, 49, 50, 51, 52, 53, 54, 55, 56, 57, 58, 59, 60, 61, 62, 63, 64, 65, 66, 67, 68, 69, 70, 71, 72, 73, 74, 75, 76, 77, 78, 79, 80, 81, 82, 83, 84, 85, 86, 87, 88, 89, 90, 91, 92, 93, 94, 95, 96, 97, 98, 99, 100, 101, 102, 103, 104, 105, 106, 107, 108, 109, 110, 111, 112, 113, 114, 115, 116, 117, 118, 119, 120, 121, 122, 123, 124, 125, 126, 127, 128, 129, 130, 131, 132, 133, 134, 135, 136, 137, 138, 139, 140, 141, 142, 143, 144, 145, 146, 147, 148, 149, 150, 151, 152, 153, 154, 155, 156, 157, 158, 159, 160, 161, 162, 163, 164, 165], true)
theorem ok_X6_init : MOk m_X6_init 0 := ⟨mg_2 (List.mem_of_getElem? (i := 36) rfl) rfl, mg_1 (List.mem_of_getElem? (i := 9) rfl) rfl, ⟨by decide +kernel, by decide +kernel, by decide +kernel⟩, by decide, by decide +kernel⟩
theorem in_X6_init : Cond.instanceMethod m_X6_init.1 ∈ lw_good := mg_2 (List.mem_of_getElem? (i := 35) rfl) rfl
def m_X6_isOf : MI := (yX6_isOf, cX6_isOf, 4, (some .boolean), [], false)
theorem ok_X6_isOf : MOk m_X6_isOf 3 := ⟨mg_4 (List.mem_of_getElem? (i := 158) rfl) rfl, mg_1 (List.mem_of_getElem? (i := 9) rfl) rfl, ⟨by decide +kernel, by decide +kernel, by decide +kernel⟩, by decide, by decide +kernel⟩
theorem in_X6_isOf : Cond.instanceMethod m_X6_isOf.1 ∈ lw_good := mg_4 (List.mem_of_getElem? (i := 156) rfl) rfl
def m_X6_open : MI := (yX6_open, cX6_open, 4, none, [44, 45, 46, 48, 49, 50, 51, 52, 53, 54, 56, 57, 58, 60, 61, 62, 63, 64, 65, 66, 70, 71, 73, 74, 75, 76, 77, 78, 79, 83, 84, 86, 87, 88, 89, 90, 91, 92, 93, 94, 96, 97, 98, 99, 100, 101, 102, 103, 104, 106, 107, 108, 109, 110, 111, 112], false)
theorem ok_X6_open : MOk m_X6_open 3 := ⟨mg_4 (List.mem_of_getElem? (i := 185) rfl) rfl, mg_1 (List.mem_of_getElem? (i := 9) rfl) rfl, ⟨by decide +kernel, by decide +kernel, by decide +kernel⟩, by decide, by decide +kernel⟩
theorem in_X6_open : Cond.instanceMethod m_X6_open.1 ∈ lw_good := mg_4 (List.mem_of_getElem? (i := 183) rfl) rfl
def m_X6_keepStock : MI := (yX6_keepStock, cX6_keepStock, 2, none, [55, 67], false)
theorem ok_X6_keepStock : MOk m_X6_keepStock 1 := ⟨mg_5 (List.mem_of_getElem? (i := 1) rfl) rfl, mg_1 (List.mem_of_getElem? (i := 9) rfl) rfl, ⟨by decide +kernel, by decide +kernel, by decide +kernel⟩, by decide, by decide +kernel⟩
theorem in_X6_keepStock : Cond.instanceMethod m_X6_keepStock.1 ∈ lw_good := mg_4 (List.mem_of_getElem? (i := 239) rfl) rfl
def m_X6_doneWeek : MI := (yX6_doneWeek, cX6_doneWeek, 2, (some .int), [], false)
theorem ok_X6_doneWeek : MOk m_X6_doneWeek 1 := ⟨mg_5 (List.mem_of_getElem? (i := 18) rfl) rfl, mg_1 (List.mem_of_getElem? (i := 9) rfl) rfl, ⟨by decide +kernel, by decide +kernel, by decide +kernel⟩, by decide, by decide +kernel⟩
theorem in_X6_doneWeek : Cond.instanceMethod m_X6_doneWeek.1 ∈ lw_good := mg_5 (List.mem_of_getElem? (i := 16) rfl) rfl
def m_X6_isDoneBy : MI := (yX6_isDoneBy, cX6_isDoneBy, 3, (some .boolean), [], false)
theorem ok_X6_isDoneBy : MOk m_X6_isDoneBy 2 := ⟨mg_5 (List.mem_of_getElem? (i := 14) rfl) rfl, mg_1 (List.mem_of_getElem? (i := 9) rfl) rfl, ⟨by decide +kernel, by decide +kernel, by decide +kernel⟩, by decide, by decide +kernel⟩
theorem in_X6_isDoneBy : Cond.instanceMethod m_X6_isDoneBy.1 ∈ lw_good := mg_5 (List.mem_of_getElem? (i := 12) rfl) rfl
def m_X7_init : MI := (yX7_init, cX7_init, 1, none, [0, 1, 2, 3, 4, 5, 6, 7, 8, 9, 10, 11, 12, 13, 14, 15, 16, 17, 18, 19, 20, 21, 22, 23, 24, 25, 26, 27, 28, 29, 30, 31, 32, 33, 34, 35, 36, 37, 38, 39, 40, 41, 42, 43, 44, 45, 46, 47, 48, 49, 50, 51, 52, 53, 54, 55, 56, 57, 58, 59, 60, 61, 62, 63, 64, 65, 66, 67, 68, 69, 70, 71, 72, 73, 74, 75, 76, 77, 78, 79, 80, 81, 82, 83, 84, 85, 86, 87, 88, 89, 90, 91, 92, 93, 94, 95, 96, 97, 98, 99, 100, 101, 102, 103, 104, 105, 106, 107, 108, 109, 110, 111, 112, 113, 114, 115, 116, 117, 118, 119, 120, 121, 122, 123, 124, 125, 126, 127, 128, 129, 130, 131, 132, 133, 134, 135, 136, 137, 138, 139, 140, 141, 142, 143, 144, 145, 146, 147, 148, 149, 150, 151, 152, 153, 154, 155, 156, 157, 158, 159, 160, 161, 162, 163, 164, 165], true)
theorem ok_X7_init : MOk m_X7_init 0 := ⟨mg_2 (List.mem_of_getElem? (i := 42) rfl) rfl, mg_1 (List.mem_of_getElem? (i := 10) rfl) rfl, ⟨by decide +kernel, by decide +kernel, by decide +kernel⟩, by decide, by decide +kernel⟩
theorem in_X7_init : Cond.instanceMethod m_X7_init.1 ∈ lw_good := mg_2 (List.mem_of_getElem? (i := 41) rfl) rfl
def m_X7_empty : MI := (yX7_empty, cX7_empty, 1, none, [45, 46, 48, 49, 50, 51, 52, 53, 54, 57, 58, 60, 61, 62, 63, 64, 65, 66, 70, 71, 73, 74, 75, 76, 77, 78, 79, 83, 84, 86, 87, 88, 89, 90, 91, 92, 93, 94, 96, 97, 98, 99, 100, 101, 102, 103, 104, 106, 107, 108, 109, 110, 111, 112], false)
theorem ok_X7_empty : MOk m_X7_empty 0 := ⟨mg_4 (List.mem_of_getElem? (i := 189) rfl) rfl, mg_1 (List.mem_of_getElem? (i := 10) rfl) rfl, ⟨by decide +kernel, by decide +kernel, by decide +kernel⟩, by decide, by decide +kernel⟩
theorem in_X7_empty : Cond.instanceMethod m_X7_empty.1 ∈ lw_good := mg_4 (List.mem_of_getElem? (i := 187) rfl) rfl
def m_X7_copyFrom : MI := (yX7_copyFrom, cX7_copyFrom, 3, none, [45, 46, 47, 48, 49, 50, 51, 52, 53, 54, 57, 58, 59, 60, 61, 62, 63, 64, 65, 66, 70, 71, 72, 73, 74, 75, 76, 77, 78, 79, 83, 84, 85, 86, 87, 88, 89, 90, 91, 92, 93, 94, 95, 96, 97, 98, 99, 100, 101, 102, 103, 104, 105, 106, 107, 108, 109, 110, 111, 112], false)
theorem ok_X7_copyFrom : MOk m_X7_copyFrom 2 := ⟨mg_5 (List.mem_of_getElem? (i := 73) rfl) rfl, mg_1 (List.mem_of_getElem? (i := 10) rfl) rfl, ⟨by decide +kernel, by decide +kernel, by decide +kernel⟩, by decide, by decide +kernel⟩
theorem in_X7_copyFrom : Cond.instanceMethod m_X7_copyFrom.1 ∈ lw_good := mg_5 (List.mem_of_getElem? (i := 71) rfl) rfl
def m_X7_isDone : MI := (yX7_isDone, cX7_isDone, 2, (some .boolean), [], false)
theorem ok_X7_isDone : MOk m_X7_isDone 1 := ⟨mg_4 (List.mem_of_getElem? (i := 219) rfl) rfl, mg_1 (List.mem_of_getElem? (i := 10) rfl) rfl, ⟨by decide +kernel, by decide +kernel, by decide +kernel⟩, by decide, by decide +kernel⟩
theorem in_X7_isDone : Cond.instanceMethod m_X7_isDone.1 ∈ lw_good := mg_4 (List.mem_of_getElem? (i := 217) rfl) rfl
def m_X7_isShell : MI := (yX7_isShell, cX7_isShell, 2, (some .boolean), [], false)
theorem ok_X7_isShell : MOk m_X7_isShell 1 := ⟨mg_5 (List.mem_of_getElem? (i := 113) rfl) rfl, mg_1 (List.mem_of_getElem? (i := 10) rfl) rfl, ⟨by decide +kernel, by decide +kernel, by decide +kernel⟩, by decide, by decide +kernel⟩
theorem in_X7_isShell : Cond.instanceMethod m_X7_isShell.1 ∈ lw_good := mg_5 (List.mem_of_getElem? (i := 111) rfl) rfl
def m_X7_waitsForNeeds : MI := (yX7_waitsForNeeds, cX7_waitsForNeeds, 5, (some .boolean), [], false)
theorem ok_X7_waitsForNeeds : MOk m_X7_waitsForNeeds 2 := ⟨mg_5 (List.mem_of_getElem? (i := 27) rfl) rfl, mg_1 (List.mem_of_getElem? (i := 10) rfl) rfl, ⟨by decide +kernel, by decide +kernel, by decide +kernel⟩, by decide, by decide +kernel⟩
theorem in_X7_waitsForNeeds : Cond.instanceMethod m_X7_waitsForNeeds.1 ∈ lw_good := mg_5 (List.mem_of_getElem? (i := 25) rfl) rfl
def m_X7_finishStage : MI := (yX7_finishStage, cX7_finishStage, 3, none, [50, 51, 54, 62, 63, 66, 75, 76, 79, 88, 89, 92, 98, 99, 102, 108, 109, 112], false)
theorem ok_X7_finishStage : MOk m_X7_finishStage 2 := ⟨mg_4 (List.mem_of_getElem? (i := 237) rfl) rfl, mg_1 (List.mem_of_getElem? (i := 10) rfl) rfl, ⟨by decide +kernel, by decide +kernel, by decide +kernel⟩, by decide, by decide +kernel⟩
theorem in_X7_finishStage : Cond.instanceMethod m_X7_finishStage.1 ∈ lw_good := mg_4 (List.mem_of_getElem? (i := 235) rfl) rfl
def m_X8_init : MI := (yX8_init, cX8_init, 3, none, [3, 4, 5, 6, 7, 8, 9, 10, 11, 12, 13, 14, 15, 16, 17, 18], true)
theorem ok_X8_init : MOk m_X8_init 2 := ⟨mg_1 (List.mem_of_getElem? (i := 41) rfl) rfl, mg_1 (List.mem_of_getElem? (i := 3) rfl) rfl, ⟨by decide +kernel, by decide +kernel, by decide +kernel⟩, by decide, by decide +kernel⟩
theorem in_X8_init : Cond.instanceMethod m_X8_init.1 ∈ lw_good := mg_1 (List.mem_of_getElem? (i := 40) rfl) rfl
def m_X8_rows : MI := (yX8_rows, cX8_rows, 1, (some .int), [], false)
theorem ok_X8_rows : MOk m_X8_rows 0 := ⟨mg_4 (List.mem_of_getElem? (i := 110) rfl) rfl, mg_1 (List.mem_of_getElem? (i := 3) rfl) rfl, ⟨by decide +kernel, by decide +kernel, by decide +kernel⟩, by decide, by decide +kernel⟩
theorem in_X8_rows : Cond.instanceMethod m_X8_rows.1 ∈ lw_good := mg_4 (List.mem_of_getElem? (i := 108) rfl) rfl
def m_X8_isFull : MI := (yX8_isFull, cX8_isFull, 1, (some .boolean), [], false)
theorem ok_X8_isFull : MOk m_X8_isFull 0 := ⟨mg_4 (List.mem_of_getElem? (i := 97) rfl) rfl, mg_1 (List.mem_of_getElem? (i := 3) rfl) rfl, ⟨by decide +kernel, by decide +kernel, by decide +kernel⟩, by decide, by decide +kernel⟩
theorem in_X8_isFull : Cond.instanceMethod m_X8_isFull.1 ∈ lw_good := mg_4 (List.mem_of_getElem? (i := 95) rfl) rfl
def m_X8_at : MI := (yX8_at, cX8_at, 4, (some .int), [], false)
theorem ok_X8_at : MOk m_X8_at 2 := ⟨mg_4 (List.mem_of_getElem? (i := 154) rfl) rfl, mg_1 (List.mem_of_getElem? (i := 3) rfl) rfl, ⟨by decide +kernel, by decide +kernel, by decide +kernel⟩, by decide, by decide +kernel⟩
theorem in_X8_at : Cond.instanceMethod m_X8_at.1 ∈ lw_good := mg_4 (List.mem_of_getElem? (i := 152) rfl) rfl
def m_X8_put : MI := (yX8_put, cX8_put, 5, none, [3, 4, 5, 6, 7, 8, 9, 10, 11, 12, 13, 14, 15, 16, 17, 18], true)
theorem ok_X8_put : MOk m_X8_put 3 := ⟨mg_4 (List.mem_of_getElem? (i := 106) rfl) rfl, mg_1 (List.mem_of_getElem? (i := 3) rfl) rfl, ⟨by decide +kernel, by decide +kernel, by decide +kernel⟩, by decide, by decide +kernel⟩
theorem in_X8_put : Cond.instanceMethod m_X8_put.1 ∈ lw_good := mg_4 (List.mem_of_getElem? (i := 104) rfl) rfl
def m_X8_add : MI := (yX8_add, cX8_add, 1, (some .int), [3, 4, 5, 6, 7, 8, 9, 10, 11, 12, 13, 14, 15, 16, 17, 18], true)
theorem ok_X8_add : MOk m_X8_add 0 := ⟨mg_4 (List.mem_of_getElem? (i := 101) rfl) rfl, mg_1 (List.mem_of_getElem? (i := 3) rfl) rfl, ⟨by decide +kernel, by decide +kernel, by decide +kernel⟩, by decide, by decide +kernel⟩
theorem in_X8_add : Cond.instanceMethod m_X8_add.1 ∈ lw_good := mg_4 (List.mem_of_getElem? (i := 99) rfl) rfl
def m_X8_greatest : MI := (yX8_greatest, cX8_greatest, 6, (some .int), [], false)
theorem ok_X8_greatest : MOk m_X8_greatest 2 := ⟨mg_4 (List.mem_of_getElem? (i := 150) rfl) rfl, mg_1 (List.mem_of_getElem? (i := 3) rfl) rfl, ⟨by decide +kernel, by decide +kernel, by decide +kernel⟩, by decide, by decide +kernel⟩
theorem in_X8_greatest : Cond.instanceMethod m_X8_greatest.1 ∈ lw_good := mg_4 (List.mem_of_getElem? (i := 148) rfl) rfl
def m_X8_copyFrom : MI := (yX8_copyFrom, cX8_copyFrom, 2, none, [3, 4, 5, 6, 7, 8, 9, 10, 11, 12, 13, 14, 15, 16, 17, 18], true)
theorem ok_X8_copyFrom : MOk m_X8_copyFrom 1 := ⟨mg_6 (List.mem_of_getElem? (i := 157) rfl) rfl, mg_1 (List.mem_of_getElem? (i := 3) rfl) rfl, ⟨by decide +kernel, by decide +kernel, by decide +kernel⟩, by decide, by decide +kernel⟩
theorem in_X8_copyFrom : Cond.instanceMethod m_X8_copyFrom.1 ∈ lw_good := mg_6 (List.mem_of_getElem? (i := 155) rfl) rfl
def m_X9_init : MI := (yX9_init, cX9_init, 1, none, [1, 2, 3, 4, 5, 6, 7, 8, 9, 10, 11, 12, 13, 14, 15, 16, 17, 18, 19, 20], true)
theorem ok_X9_init : MOk m_X9_init 0 := ⟨mg_1 (List.mem_of_getElem? (i := 33) rfl) rfl, mg_1 (List.mem_of_getElem? (i := 2) rfl) rfl, ⟨by decide +kernel, by decide +kernel, by decide +kernel⟩, by decide, by decide +kernel⟩
theorem in_X9_init : Cond.instanceMethod m_X9_init.1 ∈ lw_good := mg_1 (List.mem_of_getElem? (i := 32) rfl) rfl
def m_X9_tellClaimed : MI := (yX9_tellClaimed, cX9_tellClaimed, 3, none, [1, 2, 19, 20], true)
theorem ok_X9_tellClaimed : MOk m_X9_tellClaimed 2 := ⟨mg_6 (List.mem_of_getElem? (i := 123) rfl) rfl, mg_1 (List.mem_of_getElem? (i := 2) rfl) rfl, ⟨by decide +kernel, by decide +kernel, by decide +kernel⟩, by decide, by decide +kernel⟩
theorem in_X9_tellClaimed : Cond.instanceMethod m_X9_tellClaimed.1 ∈ lw_good := mg_6 (List.mem_of_getElem? (i := 121) rfl) rfl
def m_X9_tellSeen : MI := (yX9_tellSeen, cX9_tellSeen, 3, none, [1, 2, 19, 20], true)
theorem ok_X9_tellSeen : MOk m_X9_tellSeen 2 := ⟨mg_6 (List.mem_of_getElem? (i := 132) rfl) rfl, mg_1 (List.mem_of_getElem? (i := 2) rfl) rfl, ⟨by decide +kernel, by decide +kernel, by decide +kernel⟩, by decide, by decide +kernel⟩
theorem in_X9_tellSeen : Cond.instanceMethod m_X9_tellSeen.1 ∈ lw_good := mg_6 (List.mem_of_getElem? (i := 130) rfl) rfl
def m_X9_claimedIn : MI := (yX9_claimedIn, cX9_claimedIn, 2, (some .int), [], false)
theorem ok_X9_claimedIn : MOk m_X9_claimedIn 1 := ⟨mg_6 (List.mem_of_getElem? (i := 145) rfl) rfl, mg_1 (List.mem_of_getElem? (i := 2) rfl) rfl, ⟨by decide +kernel, by decide +kernel, by decide +kernel⟩, by decide, by decide +kernel⟩
theorem in_X9_claimedIn : Cond.instanceMethod m_X9_claimedIn.1 ∈ lw_good := mg_6 (List.mem_of_getElem? (i := 143) rfl) rfl
def m_X9_seenIn : MI := (yX9_seenIn, cX9_seenIn, 2, (some .int), [], false)
theorem ok_X9_seenIn : MOk m_X9_seenIn 1 := ⟨mg_6 (List.mem_of_getElem? (i := 141) rfl) rfl, mg_1 (List.mem_of_getElem? (i := 2) rfl) rfl, ⟨by decide +kernel, by decide +kernel, by decide +kernel⟩, by decide, by decide +kernel⟩
theorem in_X9_seenIn : Cond.instanceMethod m_X9_seenIn.1 ∈ lw_good := mg_6 (List.mem_of_getElem? (i := 139) rfl) rfl
def m_X9_copyFrom : MI := (yX9_copyFrom, cX9_copyFrom, 3, none, [1, 2, 3, 4, 5, 6, 7, 8, 9, 10, 11, 12, 13, 14, 15, 16, 17, 18, 19, 20], true)
theorem ok_X9_copyFrom : MOk m_X9_copyFrom 1 := ⟨mg_6 (List.mem_of_getElem? (i := 153) rfl) rfl, mg_1 (List.mem_of_getElem? (i := 2) rfl) rfl, ⟨by decide +kernel, by decide +kernel, by decide +kernel⟩, by decide, by decide +kernel⟩
theorem in_X9_copyFrom : Cond.instanceMethod m_X9_copyFrom.1 ∈ lw_good := mg_6 (List.mem_of_getElem? (i := 151) rfl) rfl
def m_X10_init : MI := (yX10_init, cX10_init, 3, none, [0, 1, 2, 3, 4, 5, 6, 7, 8, 9, 10, 11, 12, 13, 14, 15, 16, 17, 18, 19, 20, 21, 22, 23, 24, 25, 26, 27, 28, 29, 30, 31, 32, 33, 34, 35, 36, 37, 38, 39, 40, 41, 42, 43, 44, 45, 46, 47, 48, 49, 50, 51, 52, 53, 54, 55, 56, 57, 58, 59, 60, 61, 62, 63, 64, 65, 66, 67, 68, 69, 70, 71, 72, 73, 74, 75, 76, 77, 78, 79, 80, 81, 82, 83, 84, 85, 86, 87, 88, 89, 90, 91, 92, 93, 94, 95, 96, 97, 98, 99, 100, 101, 102, 103, 104, 105, 106, 107, 108, 109, 110, 111, 112, 113, 114, 115, 116, 117, 118, 119, 120, 121, 122, 123, 124, 125, 126, 127, 128, 129, 130, 131, 132, 133, 134, 135, 136, 137, 138, 139, 140, 141, 142, 143, 144, 145, 146, 147, 148, 149, 150, 151, 152, 153, 154, 155, 156, 157, 158, 159, 160, 161, 162, 163, 164, 165], true)
theorem ok_X10_init : MOk m_X10_init 2 := ⟨mg_1 (List.mem_of_getElem? (i := 227) rfl) rfl, mg_1 (List.mem_of_getElem? (i := 8) rfl) rfl, ⟨by decide +kernel, by decide +kernel, by decide +kernel⟩, by decide, by decide +kernel⟩
theorem in_X10_init : Cond.instanceMethod m_X10_init.1 ∈ lw_good := mg_1 (List.mem_of_getElem? (i := 226) rfl) rfl
def m_X10_prepare : MI := (yX10_prepare, cX10_prepare, 4, none, [34, 35, 36, 38, 39, 40, 41, 43], false)
theorem ok_X10_prepare : MOk m_X10_prepare 3 := ⟨mg_4 (List.mem_of_getElem? (i := 162) rfl) rfl, mg_1 (List.mem_of_getElem? (i := 8) rfl) rfl, ⟨by decide +kernel, by decide +kernel, by decide +kernel⟩, by decide, by decide +kernel⟩
theorem in_X10_prepare : Cond.instanceMethod m_X10_prepare.1 ∈ lw_good := mg_4 (List.mem_of_getElem? (i := 160) rfl) rfl
def m_X10_bringDeliveries : MI := (yX10_bringDeliveries, cX10_bringDeliveries, 4, none, [35], false)
theorem ok_X10_bringDeliveries : MOk m_X10_bringDeliveries 0 := ⟨mg_4 (List.mem_of_getElem? (i := 167) rfl) rfl, mg_1 (List.mem_of_getElem? (i := 8) rfl) rfl, ⟨by decide +kernel, by decide +kernel, by decide +kernel⟩, by decide, by decide +kernel⟩
theorem in_X10_bringDeliveries : Cond.instanceMethod m_X10_bringDeliveries.1 ∈ lw_good := mg_4 (List.mem_of_getElem? (i := 166) rfl) rfl
def m_X10_bringGangs : MI := (yX10_bringGangs, cX10_bringGangs, 3, none, [36], false)
theorem ok_X10_bringGangs : MOk m_X10_bringGangs 0 := ⟨mg_4 (List.mem_of_getElem? (i := 173) rfl) rfl, mg_1 (List.mem_of_getElem? (i := 8) rfl) rfl, ⟨by decide +kernel, by decide +kernel, by decide +kernel⟩, by decide, by decide +kernel⟩
theorem in_X10_bringGangs : Cond.instanceMethod m_X10_bringGangs.1 ∈ lw_good := mg_4 (List.mem_of_getElem? (i := 172) rfl) rfl
def m_X10_bringStarts : MI := (yX10_bringStarts, cX10_bringStarts, 3, none, [38, 39], false)
theorem ok_X10_bringStarts : MOk m_X10_bringStarts 0 := ⟨mg_4 (List.mem_of_getElem? (i := 177) rfl) rfl, mg_1 (List.mem_of_getElem? (i := 8) rfl) rfl, ⟨by decide +kernel, by decide +kernel, by decide +kernel⟩, by decide, by decide +kernel⟩
theorem in_X10_bringStarts : Cond.instanceMethod m_X10_bringStarts.1 ∈ lw_good := mg_4 (List.mem_of_getElem? (i := 176) rfl) rfl
def m_X10_tellStart : MI := (yX10_tellStart, cX10_tellStart, 3, none, [38, 39], false)
theorem ok_X10_tellStart : MOk m_X10_tellStart 2 := ⟨mg_4 (List.mem_of_getElem? (i := 181) rfl) rfl, mg_1 (List.mem_of_getElem? (i := 8) rfl) rfl, ⟨by decide +kernel, by decide +kernel, by decide +kernel⟩, by decide, by decide +kernel⟩
theorem in_X10_tellStart : Cond.instanceMethod m_X10_tellStart.1 ∈ lw_good := mg_4 (List.mem_of_getElem? (i := 179) rfl) rfl
def m_X10_dropStart : MI := (yX10_dropStart, cX10_dropStart, 2, none, [38, 39], false)
theorem ok_X10_dropStart : MOk m_X10_dropStart 1 := ⟨mg_5 (List.mem_of_getElem? (i := 87) rfl) rfl, mg_1 (List.mem_of_getElem? (i := 8) rfl) rfl, ⟨by decide +kernel, by decide +kernel, by decide +kernel⟩, by decide, by decide +kernel⟩
theorem in_X10_dropStart : Cond.instanceMethod m_X10_dropStart.1 ∈ lw_good := mg_5 (List.mem_of_getElem? (i := 85) rfl) rfl
def m_X10_passWeek : MI := (yX10_passWeek, cX10_passWeek, 7, none, [28, 31, 32, 33, 37, 40, 41, 42, 43, 45, 46, 47, 48, 49, 50, 51, 52, 53, 54, 57, 58, 59, 60, 61, 62, 63, 64, 65, 66, 70, 71, 72, 73, 74, 75, 76, 77, 78, 79, 83, 84, 85, 86, 87, 88, 89, 90, 91, 92, 93, 94, 95, 96, 97, 98, 99, 100, 101, 102, 103, 104, 105, 106, 107, 108, 109, 110, 111, 112], false)
theorem ok_X10_passWeek : MOk m_X10_passWeek 2 := ⟨mg_4 (List.mem_of_getElem? (i := 194) rfl) rfl, mg_1 (List.mem_of_getElem? (i := 8) rfl) rfl, ⟨by decide +kernel, by decide +kernel, by decide +kernel⟩, by decide, by decide +kernel⟩
theorem in_X10_passWeek : Cond.instanceMethod m_X10_passWeek.1 ∈ lw_good := mg_4 (List.mem_of_getElem? (i := 192) rfl) rfl
def m_X10_doBatches : MI := (yX10_doBatches, cX10_doBatches, 8, none, [46, 58, 71, 84, 94, 104], false)
theorem ok_X10_doBatches : MOk m_X10_doBatches 2 := ⟨mg_4 (List.mem_of_getElem? (i := 198) rfl) rfl, mg_1 (List.mem_of_getElem? (i := 8) rfl) rfl, ⟨by decide +kernel, by decide +kernel, by decide +kernel⟩, by decide, by decide +kernel⟩
theorem in_X10_doBatches : Cond.instanceMethod m_X10_doBatches.1 ∈ lw_good := mg_4 (List.mem_of_getElem? (i := 197) rfl) rfl
def m_X10_lineUp : MI := (yX10_lineUp, cX10_lineUp, 7, none, [28, 31, 32, 33, 40, 45, 47, 48, 49, 57, 59, 60, 61, 70, 72, 73, 74, 83, 85, 86, 87, 93, 95, 96, 97, 103, 105, 106, 107], false)
theorem ok_X10_lineUp : MOk m_X10_lineUp 2 := ⟨mg_4 (List.mem_of_getElem? (i := 203) rfl) rfl, mg_1 (List.mem_of_getElem? (i := 8) rfl) rfl, ⟨by decide +kernel, by decide +kernel, by decide +kernel⟩, by decide, by decide +kernel⟩
theorem in_X10_lineUp : Cond.instanceMethod m_X10_lineUp.1 ∈ lw_good := mg_4 (List.mem_of_getElem? (i := 202) rfl) rfl
def m_X10_licencesFor : MI := (yX10_licencesFor, cX10_licencesFor, 4, (some .int), [28, 31, 32, 33, 40], false)
theorem ok_X10_licencesFor : MOk m_X10_licencesFor 2 := ⟨mg_4 (List.mem_of_getElem? (i := 207) rfl) rfl, mg_1 (List.mem_of_getElem? (i := 8) rfl) rfl, ⟨by decide +kernel, by decide +kernel, by decide +kernel⟩, by decide, by decide +kernel⟩
theorem in_X10_licencesFor : Cond.instanceMethod m_X10_licencesFor.1 ∈ lw_good := mg_4 (List.mem_of_getElem? (i := 206) rfl) rfl
def m_X10_firstKind : MI := (yX10_firstKind, cX10_firstKind, 2, (some .int), [28, 31, 32, 33, 41], false)
theorem ok_X10_firstKind : MOk m_X10_firstKind 1 := ⟨mg_4 (List.mem_of_getElem? (i := 215) rfl) rfl, mg_1 (List.mem_of_getElem? (i := 8) rfl) rfl, ⟨by decide +kernel, by decide +kernel, by decide +kernel⟩, by decide, by decide +kernel⟩
theorem in_X10_firstKind : Cond.instanceMethod m_X10_firstKind.1 ∈ lw_good := mg_4 (List.mem_of_getElem? (i := 214) rfl) rfl
def m_X10_serve : MI := (yX10_serve, cX10_serve, 8, none, [28, 31, 32, 33, 37, 42, 43, 46, 50, 51, 52, 53, 54, 58, 62, 63, 64, 65, 66, 71, 75, 76, 77, 78, 79, 84, 88, 89, 90, 91, 92, 94, 98, 99, 100, 101, 102, 104, 108, 109, 110, 111, 112], false)
theorem ok_X10_serve : MOk m_X10_serve 3 := ⟨mg_4 (List.mem_of_getElem? (i := 223) rfl) rfl, mg_1 (List.mem_of_getElem? (i := 8) rfl) rfl, ⟨by decide +kernel, by decide +kernel, by decide +kernel⟩, by decide, by decide +kernel⟩
theorem in_X10_serve : Cond.instanceMethod m_X10_serve.1 ∈ lw_good := mg_4 (List.mem_of_getElem? (i := 222) rfl) rfl
def m_X10_takeNeeds : MI := (yX10_takeNeeds, cX10_takeNeeds, 7, (some .boolean), [46, 51, 52, 53, 58, 63, 64, 65, 71, 76, 77, 78, 84, 89, 90, 91, 94, 99, 100, 101, 104, 109, 110, 111], false)
theorem ok_X10_takeNeeds : MOk m_X10_takeNeeds 4 := ⟨mg_4 (List.mem_of_getElem? (i := 233) rfl) rfl, mg_1 (List.mem_of_getElem? (i := 8) rfl) rfl, ⟨by decide +kernel, by decide +kernel, by decide +kernel⟩, by decide, by decide +kernel⟩
theorem in_X10_takeNeeds : Cond.instanceMethod m_X10_takeNeeds.1 ∈ lw_good := mg_4 (List.mem_of_getElem? (i := 232) rfl) rfl
def m_X10_needsAt : MI := (yX10_needsAt, cX10_needsAt, 8, (some .int), [28, 31, 32, 33, 42, 43], false)
theorem ok_X10_needsAt : MOk m_X10_needsAt 4 := ⟨mg_4 (List.mem_of_getElem? (i := 227) rfl) rfl, mg_1 (List.mem_of_getElem? (i := 8) rfl) rfl, ⟨by decide +kernel, by decide +kernel, by decide +kernel⟩, by decide, by decide +kernel⟩
theorem in_X10_needsAt : Cond.instanceMethod m_X10_needsAt.1 ∈ lw_good := mg_4 (List.mem_of_getElem? (i := 226) rfl) rfl
def m_X11_init : MI := (yX11_init, cX11_init, 1, none, [0, 1, 2, 3, 4, 5, 6, 7, 8, 9, 10, 11, 12, 13, 14, 15, 16, 17, 18, 19, 20, 21, 22, 23, 24, 25, 26, 27, 28, 29, 30, 31, 32, 33, 34, 35, 36, 37, 38, 39, 40, 41, 42, 43, 44, 45, 46, 47, 48, 49, 50, 51, 52, 53, 54, 55, 56, 57, 58, 59, 60, 61, 62, 63, 64, 65, 66, 67, 68, 69, 70, 71, 72, 73, 74, 75, 76, 77, 78, 79, 80, 81, 82, 83, 84, 85, 86, 87, 88, 89, 90, 91, 92, 93, 94, 95, 96, 97, 98, 99, 100, 101, 102, 103, 104, 105, 106, 107, 108, 109, 110, 111, 112, 113, 114, 115, 116, 117, 118, 119, 120, 121, 122, 123, 124, 125, 126, 127, 128, 129, 130, 131, 132, 133, 134, 135, 136, 137, 138, 139, 140, 141, 142, 143, 144, 145, 146, 147, 148, 149, 150, 151, 152, 153, 154, 155, 156, 157, 158, 159, 160, 161, 162, 163, 164, 165], true)
theorem ok_X11_init : MOk m_X11_init 0 := ⟨mg_1 (List.mem_of_getElem? (i := 25) rfl) rfl, mg_1 (List.mem_of_getElem? (i := 1) rfl) rfl, ⟨by decide +kernel, by decide +kernel, by decide +kernel⟩, by decide, by decide +kernel⟩
theorem in_X11_init : Cond.instanceMethod m_X11_init.1 ∈ lw_good := mg_1 (List.mem_of_getElem? (i := 24) rfl) rfl
def m_X11_feed : MI := (yX11_feed, cX11_feed, 6, (some .int), [22, 23], false)
theorem ok_X11_feed : MOk m_X11_feed 5 := ⟨mg_3 (List.mem_of_getElem? (i := 39) rfl) rfl, mg_1 (List.mem_of_getElem? (i := 1) rfl) rfl, ⟨by decide +kernel, by decide +kernel, by decide +kernel⟩, by decide, by decide +kernel⟩
theorem in_X11_feed : Cond.instanceMethod m_X11_feed.1 ∈ lw_good := mg_3 (List.mem_of_getElem? (i := 37) rfl) rfl
def m_X11_end : MI := (yX11_end, cX11_end, 2, (some .int), [22], false)
theorem ok_X11_end : MOk m_X11_end 1 := ⟨mg_3 (List.mem_of_getElem? (i := 51) rfl) rfl, mg_1 (List.mem_of_getElem? (i := 1) rfl) rfl, ⟨by decide +kernel, by decide +kernel, by decide +kernel⟩, by decide, by decide +kernel⟩
theorem in_X11_end : Cond.instanceMethod m_X11_end.1 ∈ lw_good := mg_3 (List.mem_of_getElem? (i := 49) rfl) rfl
def m_X11_act : MI := (yX11_act, cX11_act, 5, (some .int), [0, 1, 2, 22, 24, 25, 26, 27, 28, 29, 30], true)
theorem ok_X11_act : MOk m_X11_act 2 := ⟨mg_3 (List.mem_of_getElem? (i := 55) rfl) rfl, mg_1 (List.mem_of_getElem? (i := 1) rfl) rfl, ⟨by decide +kernel, by decide +kernel, by decide +kernel⟩, by decide, by decide +kernel⟩
theorem in_X11_act : Cond.instanceMethod m_X11_act.1 ∈ lw_good := mg_3 (List.mem_of_getElem? (i := 53) rfl) rfl
def m_X11_fault : MI := (yX11_fault, cX11_fault, 1, (some .int), [], false)
theorem ok_X11_fault : MOk m_X11_fault 0 := ⟨mg_4 (List.mem_of_getElem? (i := 40) rfl) rfl, mg_1 (List.mem_of_getElem? (i := 1) rfl) rfl, ⟨by decide +kernel, by decide +kernel, by decide +kernel⟩, by decide, by decide +kernel⟩
theorem in_X11_fault : Cond.instanceMethod m_X11_fault.1 ∈ lw_good := mg_4 (List.mem_of_getElem? (i := 38) rfl) rfl
def m_X11_force : MI := (yX11_force, cX11_force, 6, (some .int), [28, 31], false)
theorem ok_X11_force : MOk m_X11_force 4 := ⟨mg_4 (List.mem_of_getElem? (i := 44) rfl) rfl, mg_1 (List.mem_of_getElem? (i := 1) rfl) rfl, ⟨by decide +kernel, by decide +kernel, by decide +kernel⟩, by decide, by decide +kernel⟩
theorem in_X11_force : Cond.instanceMethod m_X11_force.1 ∈ lw_good := mg_4 (List.mem_of_getElem? (i := 42) rfl) rfl
def m_X11_counts : MI := (yX11_counts, cX11_counts, 4, (some .int), [28, 31, 32, 33], false)
theorem ok_X11_counts : MOk m_X11_counts 3 := ⟨mg_4 (List.mem_of_getElem? (i := 62) rfl) rfl, mg_1 (List.mem_of_getElem? (i := 1) rfl) rfl, ⟨by decide +kernel, by decide +kernel, by decide +kernel⟩, by decide, by decide +kernel⟩
theorem in_X11_counts : Cond.instanceMethod m_X11_counts.1 ∈ lw_good := mg_4 (List.mem_of_getElem? (i := 60) rfl) rfl
def m_X11_need : MI := (yX11_need, cX11_need, 7, (some .int), [28, 31, 32, 33], false)
theorem ok_X11_need : MOk m_X11_need 6 := ⟨mg_4 (List.mem_of_getElem? (i := 84) rfl) rfl, mg_1 (List.mem_of_getElem? (i := 1) rfl) rfl, ⟨by decide +kernel, by decide +kernel, by decide +kernel⟩, by decide, by decide +kernel⟩
theorem in_X11_need : Cond.instanceMethod m_X11_need.1 ∈ lw_good := mg_4 (List.mem_of_getElem? (i := 82) rfl) rfl
def m_X11_deliver : MI := (yX11_deliver, cX11_deliver, 6, (some .int), [0, 3, 4, 5, 6, 7, 8, 9, 10, 11, 12, 13, 14, 15, 16, 17, 18], true)
theorem ok_X11_deliver : MOk m_X11_deliver 4 := ⟨mg_4 (List.mem_of_getElem? (i := 92) rfl) rfl, mg_1 (List.mem_of_getElem? (i := 1) rfl) rfl, ⟨by decide +kernel, by decide +kernel, by decide +kernel⟩, by decide, by decide +kernel⟩
theorem in_X11_deliver : Cond.instanceMethod m_X11_deliver.1 ∈ lw_good := mg_4 (List.mem_of_getElem? (i := 90) rfl) rfl
def m_X11_works : MI := (yX11_works, cX11_works, 10, (some .int), [0, 3, 4, 5, 6, 7, 8, 9, 10, 11, 12, 13, 14, 15, 16, 17, 18], true)
theorem ok_X11_works : MOk m_X11_works 8 := ⟨mg_4 (List.mem_of_getElem? (i := 114) rfl) rfl, mg_1 (List.mem_of_getElem? (i := 1) rfl) rfl, ⟨by decide +kernel, by decide +kernel, by decide +kernel⟩, by decide, by decide +kernel⟩
theorem in_X11_works : Cond.instanceMethod m_X11_works.1 ∈ lw_good := mg_4 (List.mem_of_getElem? (i := 112) rfl) rfl
def m_X11_gangs : MI := (yX11_gangs, cX11_gangs, 6, (some .int), [0, 3, 4, 5, 6, 7, 8, 9, 10, 11, 12, 13, 14, 15, 16, 17, 18], true)
theorem ok_X11_gangs : MOk m_X11_gangs 4 := ⟨mg_4 (List.mem_of_getElem? (i := 118) rfl) rfl, mg_1 (List.mem_of_getElem? (i := 1) rfl) rfl, ⟨by decide +kernel, by decide +kernel, by decide +kernel⟩, by decide, by decide +kernel⟩
theorem in_X11_gangs : Cond.instanceMethod m_X11_gangs.1 ∈ lw_good := mg_4 (List.mem_of_getElem? (i := 116) rfl) rfl
def m_X11_plot : MI := (yX11_plot, cX11_plot, 6, (some .int), [0, 3, 4, 5, 6, 7, 8, 9, 10, 11, 12, 13, 14, 15, 16, 17, 18], true)
theorem ok_X11_plot : MOk m_X11_plot 4 := ⟨mg_4 (List.mem_of_getElem? (i := 122) rfl) rfl, mg_1 (List.mem_of_getElem? (i := 1) rfl) rfl, ⟨by decide +kernel, by decide +kernel, by decide +kernel⟩, by decide, by decide +kernel⟩
theorem in_X11_plot : Cond.instanceMethod m_X11_plot.1 ∈ lw_good := mg_4 (List.mem_of_getElem? (i := 120) rfl) rfl
def m_X11_start : MI := (yX11_start, cX11_start, 5, (some .int), [0, 3, 4, 5, 6, 7, 8, 9, 10, 11, 12, 13, 14, 15, 16, 17, 18], true)
theorem ok_X11_start : MOk m_X11_start 3 := ⟨mg_4 (List.mem_of_getElem? (i := 126) rfl) rfl, mg_1 (List.mem_of_getElem? (i := 1) rfl) rfl, ⟨by decide +kernel, by decide +kernel, by decide +kernel⟩, by decide, by decide +kernel⟩
theorem in_X11_start : Cond.instanceMethod m_X11_start.1 ∈ lw_good := mg_4 (List.mem_of_getElem? (i := 124) rfl) rfl
def m_X11_stock : MI := (yX11_stock, cX11_stock, 5, (some .int), [28, 31, 32, 33, 34, 35, 36, 37, 38, 39, 40, 41, 42, 43, 44, 45, 46, 47, 48, 49, 50, 51, 52, 53, 54, 55, 56, 57, 58, 59, 60, 61, 62, 63, 64, 65, 66, 67, 70, 71, 72, 73, 74, 75, 76, 77, 78, 79, 83, 84, 85, 86, 87, 88, 89, 90, 91, 92, 93, 94, 95, 96, 97, 98, 99, 100, 101, 102, 103, 104, 105, 106, 107, 108, 109, 110, 111, 112], false)
theorem ok_X11_stock : MOk m_X11_stock 4 := ⟨mg_4 (List.mem_of_getElem? (i := 138) rfl) rfl, mg_1 (List.mem_of_getElem? (i := 1) rfl) rfl, ⟨by decide +kernel, by decide +kernel, by decide +kernel⟩, by decide, by decide +kernel⟩
theorem in_X11_stock : Cond.instanceMethod m_X11_stock.1 ∈ lw_good := mg_4 (List.mem_of_getElem? (i := 136) rfl) rfl
def m_X11_built : MI := (yX11_built, cX11_built, 6, (some .int), [28, 31, 32, 33, 34, 35, 36, 37, 38, 39, 40, 41, 42, 43, 44, 45, 46, 47, 48, 49, 50, 51, 52, 53, 54, 55, 56, 57, 58, 59, 60, 61, 62, 63, 64, 65, 66, 67, 70, 71, 72, 73, 74, 75, 76, 77, 78, 79, 83, 84, 85, 86, 87, 88, 89, 90, 91, 92, 93, 94, 95, 96, 97, 98, 99, 100, 101, 102, 103, 104, 105, 106, 107, 108, 109, 110, 111, 112], false)
theorem ok_X11_built : MOk m_X11_built 4 := ⟨mg_5 (List.mem_of_getElem? (i := 6) rfl) rfl, mg_1 (List.mem_of_getElem? (i := 1) rfl) rfl, ⟨by decide +kernel, by decide +kernel, by decide +kernel⟩, by decide, by decide +kernel⟩
theorem in_X11_built : Cond.instanceMethod m_X11_built.1 ∈ lw_good := mg_5 (List.mem_of_getElem? (i := 4) rfl) rfl
def m_X11_lacks : MI := (yX11_lacks, cX11_lacks, 6, (some .int), [28, 31, 32, 33, 34, 35, 36, 37, 38, 39, 40, 41, 42, 43, 44, 45, 46, 47, 48, 49, 50, 51, 52, 53, 54, 55, 56, 57, 58, 59, 60, 61, 62, 63, 64, 65, 66, 67, 70, 71, 72, 73, 74, 75, 76, 77, 78, 79, 83, 84, 85, 86, 87, 88, 89, 90, 91, 92, 93, 94, 95, 96, 97, 98, 99, 100, 101, 102, 103, 104, 105, 106, 107, 108, 109, 110, 111, 112], false)
theorem ok_X11_lacks : MOk m_X11_lacks 3 := ⟨mg_5 (List.mem_of_getElem? (i := 10) rfl) rfl, mg_1 (List.mem_of_getElem? (i := 1) rfl) rfl, ⟨by decide +kernel, by decide +kernel, by decide +kernel⟩, by decide, by decide +kernel⟩
theorem in_X11_lacks : Cond.instanceMethod m_X11_lacks.1 ∈ lw_good := mg_5 (List.mem_of_getElem? (i := 8) rfl) rfl
def m_X11_knock : MI := (yX11_knock, cX11_knock, 9, (some .int), [28, 31, 32, 33, 34, 35, 36, 37, 38, 39, 40, 41, 42, 43, 44, 45, 46, 47, 48, 49, 50, 51, 52, 53, 54, 55, 56, 57, 58, 59, 60, 61, 62, 63, 64, 65, 66, 67, 70, 71, 72, 73, 74, 75, 76, 77, 78, 79, 83, 84, 85, 86, 87, 88, 89, 90, 91, 92, 93, 94, 95, 96, 97, 98, 99, 100, 101, 102, 103, 104, 105, 106, 107, 108, 109, 110, 111, 112], false)
theorem ok_X11_knock : MOk m_X11_knock 2 := ⟨mg_5 (List.mem_of_getElem? (i := 31) rfl) rfl, mg_1 (List.mem_of_getElem? (i := 1) rfl) rfl, ⟨by decide +kernel, by decide +kernel, by decide +kernel⟩, by decide, by decide +kernel⟩
theorem in_X11_knock : Cond.instanceMethod m_X11_knock.1 ∈ lw_good := mg_5 (List.mem_of_getElem? (i := 29) rfl) rfl
def m_X11_wish : MI := (yX11_wish, cX11_wish, 2, (some .int), [0, 68, 69], false)
theorem ok_X11_wish : MOk m_X11_wish 1 := ⟨mg_5 (List.mem_of_getElem? (i := 37) rfl) rfl, mg_1 (List.mem_of_getElem? (i := 1) rfl) rfl, ⟨by decide +kernel, by decide +kernel, by decide +kernel⟩, by decide, by decide +kernel⟩
theorem in_X11_wish : Cond.instanceMethod m_X11_wish.1 ∈ lw_good := mg_5 (List.mem_of_getElem? (i := 35) rfl) rfl
def m_X11_clear : MI := (yX11_clear, cX11_clear, 2, (some .int), [68], false)
theorem ok_X11_clear : MOk m_X11_clear 0 := ⟨mg_5 (List.mem_of_getElem? (i := 41) rfl) rfl, mg_1 (List.mem_of_getElem? (i := 1) rfl) rfl, ⟨by decide +kernel, by decide +kernel, by decide +kernel⟩, by decide, by decide +kernel⟩
theorem in_X11_clear : Cond.instanceMethod m_X11_clear.1 ∈ lw_good := mg_5 (List.mem_of_getElem? (i := 39) rfl) rfl
def m_X11_best : MI := (yX11_best, cX11_best, 7, (some .int), [28, 31, 32, 33, 34, 35, 36, 37, 38, 39, 40, 41, 42, 43, 45, 46, 47, 48, 49, 50, 51, 52, 53, 54, 57, 58, 59, 60, 61, 62, 63, 64, 65, 66, 68, 70, 71, 72, 73, 74, 75, 76, 77, 78, 79, 81, 82, 83, 84, 85, 86, 87, 88, 89, 90, 91, 92, 93, 94, 95, 96, 97, 98, 99, 100, 101, 102, 103, 104, 105, 106, 107, 108, 109, 110, 111, 112], false)
theorem ok_X11_best : MOk m_X11_best 1 := ⟨mg_5 (List.mem_of_getElem? (i := 45) rfl) rfl, mg_1 (List.mem_of_getElem? (i := 1) rfl) rfl, ⟨by decide +kernel, by decide +kernel, by decide +kernel⟩, by decide, by decide +kernel⟩
theorem in_X11_best : Cond.instanceMethod m_X11_best.1 ∈ lw_good := mg_5 (List.mem_of_getElem? (i := 43) rfl) rfl
def m_X11_chosen : MI := (yX11_chosen, cX11_chosen, 2, (some .int), [], false)
theorem ok_X11_chosen : MOk m_X11_chosen 1 := ⟨mg_5 (List.mem_of_getElem? (i := 123) rfl) rfl, mg_1 (List.mem_of_getElem? (i := 1) rfl) rfl, ⟨by decide +kernel, by decide +kernel, by decide +kernel⟩, by decide, by decide +kernel⟩
theorem in_X11_chosen : Cond.instanceMethod m_X11_chosen.1 ∈ lw_good := mg_5 (List.mem_of_getElem? (i := 121) rfl) rfl
def m_X11_bound : MI := (yX11_bound, cX11_bound, 6, (some .int), [28, 31, 32, 33, 34, 35, 36, 37, 38, 39, 40, 41, 42, 43, 45, 46, 47, 48, 49, 50, 51, 52, 53, 54, 57, 58, 59, 60, 61, 62, 63, 64, 65, 66, 68, 70, 71, 72, 73, 74, 75, 76, 77, 78, 79, 81, 83, 84, 85, 86, 87, 88, 89, 90, 91, 92, 93, 94, 95, 96, 97, 98, 99, 100, 101, 102, 103, 104, 105, 106, 107, 108, 109, 110, 111, 112], false)
theorem ok_X11_bound : MOk m_X11_bound 1 := ⟨mg_5 (List.mem_of_getElem? (i := 127) rfl) rfl, mg_1 (List.mem_of_getElem? (i := 1) rfl) rfl, ⟨by decide +kernel, by decide +kernel, by decide +kernel⟩, by decide, by decide +kernel⟩
theorem in_X11_bound : Cond.instanceMethod m_X11_bound.1 ∈ lw_good := mg_5 (List.mem_of_getElem? (i := 125) rfl) rfl
def m_X11_judge : MI := (yX11_judge, cX11_judge, 4, (some .int), [28, 31, 32, 33, 34, 35, 36, 37, 38, 39, 40, 41, 42, 43, 45, 46, 47, 48, 49, 50, 51, 52, 53, 54, 57, 58, 59, 60, 61, 62, 63, 64, 65, 66, 68, 70, 71, 72, 73, 74, 75, 76, 77, 78, 79, 81, 83, 84, 85, 86, 87, 88, 89, 90, 91, 92, 93, 94, 95, 96, 97, 98, 99, 100, 101, 102, 103, 104, 105, 106, 107, 108, 109, 110, 111, 112], false)
theorem ok_X11_judge : MOk m_X11_judge 2 := ⟨mg_5 (List.mem_of_getElem? (i := 141) rfl) rfl, mg_1 (List.mem_of_getElem? (i := 1) rfl) rfl, ⟨by decide +kernel, by decide +kernel, by decide +kernel⟩, by decide, by decide +kernel⟩
theorem in_X11_judge : Cond.instanceMethod m_X11_judge.1 ∈ lw_good := mg_5 (List.mem_of_getElem? (i := 139) rfl) rfl
def m_X11_entry : MI := (yX11_entry, cX11_entry, 10, (some .int), [0, 3, 4, 5, 6, 7, 8, 9, 10, 11, 12, 13, 14, 15, 16, 17, 18], true)
theorem ok_X11_entry : MOk m_X11_entry 7 := ⟨mg_5 (List.mem_of_getElem? (i := 146) rfl) rfl, mg_1 (List.mem_of_getElem? (i := 1) rfl) rfl, ⟨by decide +kernel, by decide +kernel, by decide +kernel⟩, by decide, by decide +kernel⟩
theorem in_X11_entry : Cond.instanceMethod m_X11_entry.1 ∈ lw_good := mg_5 (List.mem_of_getElem? (i := 144) rfl) rfl
def m_X11_mark : MI := (yX11_mark, cX11_mark, 4, (some .int), [0, 3, 4, 5, 6, 7, 8, 9, 10, 11, 12, 13, 14, 15, 16, 17, 18], true)
theorem ok_X11_mark : MOk m_X11_mark 3 := ⟨mg_5 (List.mem_of_getElem? (i := 150) rfl) rfl, mg_1 (List.mem_of_getElem? (i := 1) rfl) rfl, ⟨by decide +kernel, by decide +kernel, by decide +kernel⟩, by decide, by decide +kernel⟩
theorem in_X11_mark : Cond.instanceMethod m_X11_mark.1 ∈ lw_good := mg_5 (List.mem_of_getElem? (i := 148) rfl) rfl
def m_X11_family : MI := (yX11_family, cX11_family, 3, (some .int), [113, 114], false)
theorem ok_X11_family : MOk m_X11_family 2 := ⟨mg_5 (List.mem_of_getElem? (i := 158) rfl) rfl, mg_1 (List.mem_of_getElem? (i := 1) rfl) rfl, ⟨by decide +kernel, by decide +kernel, by decide +kernel⟩, by decide, by decide +kernel⟩
theorem in_X11_family : Cond.instanceMethod m_X11_family.1 ∈ lw_good := mg_5 (List.mem_of_getElem? (i := 156) rfl) rfl
def m_X11_points : MI := (yX11_points, cX11_points, 4, (some .int), [28, 31, 32, 33], false)
theorem ok_X11_points : MOk m_X11_points 3 := ⟨mg_5 (List.mem_of_getElem? (i := 181) rfl) rfl, mg_1 (List.mem_of_getElem? (i := 1) rfl) rfl, ⟨by decide +kernel, by decide +kernel, by decide +kernel⟩, by decide, by decide +kernel⟩
theorem in_X11_points : Cond.instanceMethod m_X11_points.1 ∈ lw_good := mg_5 (List.mem_of_getElem? (i := 179) rfl) rfl
def m_X11_order : MI := (yX11_order, cX11_order, 5, (some .int), [28, 31, 32, 33, 115, 116, 117], false)
theorem ok_X11_order : MOk m_X11_order 4 := ⟨mg_5 (List.mem_of_getElem? (i := 208) rfl) rfl, mg_1 (List.mem_of_getElem? (i := 1) rfl) rfl, ⟨by decide +kernel, by decide +kernel, by decide +kernel⟩, by decide, by decide +kernel⟩
theorem in_X11_order : Cond.instanceMethod m_X11_order.1 ∈ lw_good := mg_5 (List.mem_of_getElem? (i := 206) rfl) rfl
def m_X11_beside : MI := (yX11_beside, cX11_beside, 5, (some .int), [28, 31, 32, 33, 115, 116, 117, 118], false)
theorem ok_X11_beside : MOk m_X11_beside 4 := ⟨mg_5 (List.mem_of_getElem? (i := 222) rfl) rfl, mg_1 (List.mem_of_getElem? (i := 1) rfl) rfl, ⟨by decide +kernel, by decide +kernel, by decide +kernel⟩, by decide, by decide +kernel⟩
theorem in_X11_beside : Cond.instanceMethod m_X11_beside.1 ∈ lw_good := mg_5 (List.mem_of_getElem? (i := 220) rfl) rfl
def m_X11_offer : MI := (yX11_offer, cX11_offer, 4, (some .int), [0, 1, 3, 4, 5, 6, 7, 8, 9, 10, 11, 12, 13, 14, 15, 16, 17, 18, 28, 31, 32, 33, 34, 35, 36, 37, 38, 39, 40, 41, 42, 43, 44, 45, 46, 47, 48, 49, 50, 51, 52, 53, 54, 55, 56, 57, 58, 59, 60, 61, 62, 63, 64, 65, 66, 67, 70, 71, 72, 73, 74, 75, 76, 77, 78, 79, 83, 84, 85, 86, 87, 88, 89, 90, 91, 92, 93, 94, 95, 96, 97, 98, 99, 100, 101, 102, 103, 104, 105, 106, 107, 108, 109, 110, 111, 112, 113, 114, 115, 116, 117, 120, 121, 122, 123], true)
theorem ok_X11_offer : MOk m_X11_offer 1 := ⟨mg_5 (List.mem_of_getElem? (i := 232) rfl) rfl, mg_1 (List.mem_of_getElem? (i := 1) rfl) rfl, ⟨by decide +kernel, by decide +kernel, by decide +kernel⟩, by decide, by decide +kernel⟩
theorem in_X11_offer : Cond.instanceMethod m_X11_offer.1 ∈ lw_good := mg_5 (List.mem_of_getElem? (i := 230) rfl) rfl
def m_X11_lives : MI := (yX11_lives, cX11_lives, 5, (some .int), [], false)
theorem ok_X11_lives : MOk m_X11_lives 3 := ⟨mg_6 (List.mem_of_getElem? (i := 63) rfl) rfl, mg_1 (List.mem_of_getElem? (i := 1) rfl) rfl, ⟨by decide +kernel, by decide +kernel, by decide +kernel⟩, by decide, by decide +kernel⟩
theorem in_X11_lives : Cond.instanceMethod m_X11_lives.1 ∈ lw_good := mg_6 (List.mem_of_getElem? (i := 61) rfl) rfl
def m_X11_roof : MI := (yX11_roof, cX11_roof, 3, (some .int), [113, 114], false)
theorem ok_X11_roof : MOk m_X11_roof 2 := ⟨mg_6 (List.mem_of_getElem? (i := 71) rfl) rfl, mg_1 (List.mem_of_getElem? (i := 1) rfl) rfl, ⟨by decide +kernel, by decide +kernel, by decide +kernel⟩, by decide, by decide +kernel⟩
theorem in_X11_roof : Cond.instanceMethod m_X11_roof.1 ∈ lw_good := mg_6 (List.mem_of_getElem? (i := 69) rfl) rfl
def m_X11_squat : MI := (yX11_squat, cX11_squat, 6, (some .int), [0, 1, 3, 4, 5, 6, 7, 8, 9, 10, 11, 12, 13, 14, 15, 16, 17, 18, 28, 31, 32, 33, 34, 35, 36, 37, 38, 39, 40, 41, 42, 43, 44, 45, 46, 47, 48, 49, 50, 51, 52, 53, 54, 55, 56, 57, 58, 59, 60, 61, 62, 63, 64, 65, 66, 67, 70, 71, 72, 73, 74, 75, 76, 77, 78, 79, 83, 84, 85, 86, 87, 88, 89, 90, 91, 92, 93, 94, 95, 96, 97, 98, 99, 100, 101, 102, 103, 104, 105, 106, 107, 108, 109, 110, 111, 112, 113, 114, 120, 121, 122, 123], true)
theorem ok_X11_squat : MOk m_X11_squat 3 := ⟨mg_6 (List.mem_of_getElem? (i := 80) rfl) rfl, mg_1 (List.mem_of_getElem? (i := 1) rfl) rfl, ⟨by decide +kernel, by decide +kernel, by decide +kernel⟩, by decide, by decide +kernel⟩
theorem in_X11_squat : Cond.instanceMethod m_X11_squat.1 ∈ lw_good := mg_6 (List.mem_of_getElem? (i := 78) rfl) rfl
def m_X11_out : MI := (yX11_out, cX11_out, 4, (some .int), [0, 1, 3, 4, 5, 6, 7, 8, 9, 10, 11, 12, 13, 14, 15, 16, 17, 18], true)
theorem ok_X11_out : MOk m_X11_out 2 := ⟨mg_6 (List.mem_of_getElem? (i := 91) rfl) rfl, mg_1 (List.mem_of_getElem? (i := 1) rfl) rfl, ⟨by decide +kernel, by decide +kernel, by decide +kernel⟩, by decide, by decide +kernel⟩
theorem in_X11_out : Cond.instanceMethod m_X11_out.1 ∈ lw_good := mg_6 (List.mem_of_getElem? (i := 89) rfl) rfl
def m_X11_rent : MI := (yX11_rent, cX11_rent, 6, (some .int), [28, 31, 32, 33, 34, 35, 36, 37, 38, 39, 40, 41, 42, 43, 44, 45, 46, 47, 48, 49, 50, 51, 52, 53, 54, 55, 56, 57, 58, 59, 60, 61, 62, 63, 64, 65, 66, 67, 70, 71, 72, 73, 74, 75, 76, 77, 78, 79, 83, 84, 85, 86, 87, 88, 89, 90, 91, 92, 93, 94, 95, 96, 97, 98, 99, 100, 101, 102, 103, 104, 105, 106, 107, 108, 109, 110, 111, 112], false)
theorem ok_X11_rent : MOk m_X11_rent 3 := ⟨mg_6 (List.mem_of_getElem? (i := 97) rfl) rfl, mg_1 (List.mem_of_getElem? (i := 1) rfl) rfl, ⟨by decide +kernel, by decide +kernel, by decide +kernel⟩, by decide, by decide +kernel⟩
theorem in_X11_rent : Cond.instanceMethod m_X11_rent.1 ∈ lw_good := mg_6 (List.mem_of_getElem? (i := 95) rfl) rfl
def m_X11_lodge : MI := (yX11_lodge, cX11_lodge, 6, (some .int), [0, 3, 4, 5, 6, 7, 8, 9, 10, 11, 12, 13, 14, 15, 16, 17, 18], true)
theorem ok_X11_lodge : MOk m_X11_lodge 4 := ⟨mg_6 (List.mem_of_getElem? (i := 104) rfl) rfl, mg_1 (List.mem_of_getElem? (i := 1) rfl) rfl, ⟨by decide +kernel, by decide +kernel, by decide +kernel⟩, by decide, by decide +kernel⟩
theorem in_X11_lodge : Cond.instanceMethod m_X11_lodge.1 ∈ lw_good := mg_6 (List.mem_of_getElem? (i := 102) rfl) rfl
def m_X11_under : MI := (yX11_under, cX11_under, 6, (some .int), [], false)
theorem ok_X11_under : MOk m_X11_under 2 := ⟨mg_6 (List.mem_of_getElem? (i := 108) rfl) rfl, mg_1 (List.mem_of_getElem? (i := 1) rfl) rfl, ⟨by decide +kernel, by decide +kernel, by decide +kernel⟩, by decide, by decide +kernel⟩
theorem in_X11_under : Cond.instanceMethod m_X11_under.1 ∈ lw_good := mg_6 (List.mem_of_getElem? (i := 106) rfl) rfl
def m_X11_target : MI := (yX11_target, cX11_target, 4, (some .int), [0, 19], false)
theorem ok_X11_target : MOk m_X11_target 3 := ⟨mg_6 (List.mem_of_getElem? (i := 112) rfl) rfl, mg_1 (List.mem_of_getElem? (i := 1) rfl) rfl, ⟨by decide +kernel, by decide +kernel, by decide +kernel⟩, by decide, by decide +kernel⟩
theorem in_X11_target : Cond.instanceMethod m_X11_target.1 ∈ lw_good := mg_6 (List.mem_of_getElem? (i := 110) rfl) rfl
def m_X11_claim : MI := (yX11_claim, cX11_claim, 5, (some .int), [0, 1, 2, 19, 20], true)
theorem ok_X11_claim : MOk m_X11_claim 4 := ⟨mg_6 (List.mem_of_getElem? (i := 119) rfl) rfl, mg_1 (List.mem_of_getElem? (i := 1) rfl) rfl, ⟨by decide +kernel, by decide +kernel, by decide +kernel⟩, by decide, by decide +kernel⟩
theorem in_X11_claim : Cond.instanceMethod m_X11_claim.1 ∈ lw_good := mg_6 (List.mem_of_getElem? (i := 117) rfl) rfl
def m_X11_look : MI := (yX11_look, cX11_look, 5, (some .int), [0, 1, 2, 19, 20], true)
theorem ok_X11_look : MOk m_X11_look 4 := ⟨mg_6 (List.mem_of_getElem? (i := 128) rfl) rfl, mg_1 (List.mem_of_getElem? (i := 1) rfl) rfl, ⟨by decide +kernel, by decide +kernel, by decide +kernel⟩, by decide, by decide +kernel⟩
theorem in_X11_look : Cond.instanceMethod m_X11_look.1 ∈ lw_good := mg_6 (List.mem_of_getElem? (i := 126) rfl) rfl
def m_X11_truth : MI := (yX11_truth, cX11_truth, 10, (some .int), [], false)
theorem ok_X11_truth : MOk m_X11_truth 3 := ⟨mg_6 (List.mem_of_getElem? (i := 137) rfl) rfl, mg_1 (List.mem_of_getElem? (i := 1) rfl) rfl, ⟨by decide +kernel, by decide +kernel, by decide +kernel⟩, by decide, by decide +kernel⟩
theorem in_X11_truth : Cond.instanceMethod m_X11_truth.1 ∈ lw_good := mg_6 (List.mem_of_getElem? (i := 135) rfl) rfl
def m_X11_image : MI := (yX11_image, cX11_image, 2, (some .int), [0, 1, 2, 3, 4, 5, 6, 7, 8, 9, 10, 11, 12, 13, 14, 15, 16, 17, 18, 19, 20, 21], true)
theorem ok_X11_image : MOk m_X11_image 1 := ⟨mg_6 (List.mem_of_getElem? (i := 149) rfl) rfl, mg_1 (List.mem_of_getElem? (i := 1) rfl) rfl, ⟨by decide +kernel, by decide +kernel, by decide +kernel⟩, by decide, by decide +kernel⟩
theorem in_X11_image : Cond.instanceMethod m_X11_image.1 ∈ lw_good := mg_6 (List.mem_of_getElem? (i := 147) rfl) rfl
def m_X11_back : MI := (yX11_back, cX11_back, 2, (some .int), [0, 1, 2, 3, 4, 5, 6, 7, 8, 9, 10, 11, 12, 13, 14, 15, 16, 17, 18, 19, 20, 22, 28, 29, 30, 68], true)
theorem ok_X11_back : MOk m_X11_back 1 := ⟨mg_6 (List.mem_of_getElem? (i := 163) rfl) rfl, mg_1 (List.mem_of_getElem? (i := 1) rfl) rfl, ⟨by decide +kernel, by decide +kernel, by decide +kernel⟩, by decide, by decide +kernel⟩
theorem in_X11_back : Cond.instanceMethod m_X11_back.1 ∈ lw_good := mg_6 (List.mem_of_getElem? (i := 161) rfl) rfl
def m_X11_count : MI := (yX11_count, cX11_count, 2, (some .int), [], false)
theorem ok_X11_count : MOk m_X11_count 1 := ⟨mg_6 (List.mem_of_getElem? (i := 167) rfl) rfl, mg_1 (List.mem_of_getElem? (i := 1) rfl) rfl, ⟨by decide +kernel, by decide +kernel, by decide +kernel⟩, by decide, by decide +kernel⟩
theorem in_X11_count : Cond.instanceMethod m_X11_count.1 ∈ lw_good := mg_6 (List.mem_of_getElem? (i := 165) rfl) rfl
def m_X11_status : MI := (yX11_status, cX11_status, 1, (some .int), [], false)
theorem ok_X11_status : MOk m_X11_status 0 := ⟨mg_6 (List.mem_of_getElem? (i := 171) rfl) rfl, mg_1 (List.mem_of_getElem? (i := 1) rfl) rfl, ⟨by decide +kernel, by decide +kernel, by decide +kernel⟩, by decide, by decide +kernel⟩
theorem in_X11_status : Cond.instanceMethod m_X11_status.1 ∈ lw_good := mg_6 (List.mem_of_getElem? (i := 169) rfl) rfl
def m_X11_answer : MI := (yX11_answer, cX11_answer, 2, (some .int), [0], false)
theorem ok_X11_answer : MOk m_X11_answer 1 := ⟨mg_3 (List.mem_of_getElem? (i := 219) rfl) rfl, mg_1 (List.mem_of_getElem? (i := 1) rfl) rfl, ⟨by decide +kernel, by decide +kernel, by decide +kernel⟩, by decide, by decide +kernel⟩
theorem in_X11_answer : Cond.instanceMethod m_X11_answer.1 ∈ lw_good := mg_3 (List.mem_of_getElem? (i := 218) rfl) rfl
def m_X11_isIn : MI := (yX11_isIn, cX11_isIn, 3, (some .boolean), [], false)
theorem ok_X11_isIn : MOk m_X11_isIn 3 := ⟨mg_3 (List.mem_of_getElem? (i := 61) rfl) rfl, mg_1 (List.mem_of_getElem? (i := 1) rfl) rfl, ⟨by decide +kernel, by decide +kernel, by decide +kernel⟩, by decide, by decide +kernel⟩
theorem is_X11_isIn : Cond.static m_X11_isIn.1 ∈ lw_good := mg_3 (List.mem_of_getElem? (i := 60) rfl) rfl
def m_X11_isWeek : MI := (yX11_isWeek, cX11_isWeek, 1, (some .boolean), [], false)
theorem ok_X11_isWeek : MOk m_X11_isWeek 1 := ⟨mg_3 (List.mem_of_getElem? (i := 58) rfl) rfl, mg_1 (List.mem_of_getElem? (i := 1) rfl) rfl, ⟨by decide +kernel, by decide +kernel, by decide +kernel⟩, by decide, by decide +kernel⟩
theorem is_X11_isWeek : Cond.static m_X11_isWeek.1 ∈ lw_good := mg_3 (List.mem_of_getElem? (i := 57) rfl) rfl
def m_X11_isMoveWeek : MI := (yX11_isMoveWeek, cX11_isMoveWeek, 2, (some .boolean), [], false)
theorem ok_X11_isMoveWeek : MOk m_X11_isMoveWeek 1 := ⟨mg_5 (List.mem_of_getElem? (i := 236) rfl) rfl, mg_1 (List.mem_of_getElem? (i := 1) rfl) rfl, ⟨by decide +kernel, by decide +kernel, by decide +kernel⟩, by decide, by decide +kernel⟩
theorem in_X11_isMoveWeek : Cond.instanceMethod m_X11_isMoveWeek.1 ∈ lw_good := mg_5 (List.mem_of_getElem? (i := 235) rfl) rfl
def m_X11_isCouncilQuarter : MI := (yX11_isCouncilQuarter, cX11_isCouncilQuarter, 2, (some .boolean), [], false)
theorem ok_X11_isCouncilQuarter : MOk m_X11_isCouncilQuarter 2 := ⟨mg_6 (List.mem_of_getElem? (i := 115) rfl) rfl, mg_1 (List.mem_of_getElem? (i := 1) rfl) rfl, ⟨by decide +kernel, by decide +kernel, by decide +kernel⟩, by decide, by decide +kernel⟩
theorem is_X11_isCouncilQuarter : Cond.static m_X11_isCouncilQuarter.1 ∈ lw_good := mg_6 (List.mem_of_getElem? (i := 114) rfl) rfl
def m_X11_isPlot : MI := (yX11_isPlot, cX11_isPlot, 2, (some .boolean), [], false)
theorem ok_X11_isPlot : MOk m_X11_isPlot 1 := ⟨mg_4 (List.mem_of_getElem? (i := 130) rfl) rfl, mg_1 (List.mem_of_getElem? (i := 1) rfl) rfl, ⟨by decide +kernel, by decide +kernel, by decide +kernel⟩, by decide, by decide +kernel⟩
theorem in_X11_isPlot : Cond.instanceMethod m_X11_isPlot.1 ∈ lw_good := mg_4 (List.mem_of_getElem? (i := 129) rfl) rfl
def m_X11_isEntry : MI := (yX11_isEntry, cX11_isEntry, 2, (some .boolean), [], false)
theorem ok_X11_isEntry : MOk m_X11_isEntry 1 := ⟨mg_5 (List.mem_of_getElem? (i := 154) rfl) rfl, mg_1 (List.mem_of_getElem? (i := 1) rfl) rfl, ⟨by decide +kernel, by decide +kernel, by decide +kernel⟩, by decide, by decide +kernel⟩
theorem in_X11_isEntry : Cond.instanceMethod m_X11_isEntry.1 ∈ lw_good := mg_5 (List.mem_of_getElem? (i := 153) rfl) rfl
def m_X11_isKnownEntry : MI := (yX11_isKnownEntry, cX11_isKnownEntry, 3, (some .boolean), [], false)
theorem ok_X11_isKnownEntry : MOk m_X11_isKnownEntry 2 := ⟨mg_5 (List.mem_of_getElem? (i := 162) rfl) rfl, mg_1 (List.mem_of_getElem? (i := 1) rfl) rfl, ⟨by decide +kernel, by decide +kernel, by decide +kernel⟩, by decide, by decide +kernel⟩
theorem in_X11_isKnownEntry : Cond.instanceMethod m_X11_isKnownEntry.1 ∈ lw_good := mg_5 (List.mem_of_getElem? (i := 161) rfl) rfl
def m_X11_needHead : MI := (yX11_needHead, cX11_needHead, 4, (some .int), [], false)
theorem ok_X11_needHead : MOk m_X11_needHead 3 := ⟨mg_3 (List.mem_of_getElem? (i := 162) rfl) rfl, mg_1 (List.mem_of_getElem? (i := 1) rfl) rfl, ⟨by decide +kernel, by decide +kernel, by decide +kernel⟩, by decide, by decide +kernel⟩
theorem is_X11_needHead : Cond.static m_X11_needHead.1 ∈ lw_good := mg_3 (List.mem_of_getElem? (i := 161) rfl) rfl
def m_X11_firstStart : MI := (yX11_firstStart, cX11_firstStart, 4, (some .int), [], false)
theorem ok_X11_firstStart : MOk m_X11_firstStart 2 := ⟨mg_5 (List.mem_of_getElem? (i := 22) rfl) rfl, mg_1 (List.mem_of_getElem? (i := 1) rfl) rfl, ⟨by decide +kernel, by decide +kernel, by decide +kernel⟩, by decide, by decide +kernel⟩
theorem in_X11_firstStart : Cond.instanceMethod m_X11_firstStart.1 ∈ lw_good := mg_5 (List.mem_of_getElem? (i := 21) rfl) rfl
def m_X11_runFor : MI := (yX11_runFor, cX11_runFor, 6, (some (.object "WarHouses$Run")), [28, 31, 32, 33, 34, 35, 36, 37, 38, 39, 40, 41, 42, 43, 44, 45, 46, 47, 48, 49, 50, 51, 52, 53, 54, 55, 56, 57, 58, 59, 60, 61, 62, 63, 64, 65, 66, 67, 70, 71, 72, 73, 74, 75, 76, 77, 78, 79, 83, 84, 85, 86, 87, 88, 89, 90, 91, 92, 93, 94, 95, 96, 97, 98, 99, 100, 101, 102, 103, 104, 105, 106, 107, 108, 109, 110, 111, 112], false)
theorem ok_X11_runFor : MOk m_X11_runFor 2 := ⟨mg_4 (List.mem_of_getElem? (i := 142) rfl) rfl, mg_1 (List.mem_of_getElem? (i := 1) rfl) rfl, ⟨by decide +kernel, by decide +kernel, by decide +kernel⟩, by decide, by decide +kernel⟩
theorem in_X11_runFor : Cond.instanceMethod m_X11_runFor.1 ∈ lw_good := mg_4 (List.mem_of_getElem? (i := 141) rfl) rfl
def m_X11_knowing : MI := (yX11_knowing, cX11_knowing, 4, (some .int), [], false)
theorem ok_X11_knowing : MOk m_X11_knowing 1 := ⟨mg_4 (List.mem_of_getElem? (i := 146) rfl) rfl, mg_1 (List.mem_of_getElem? (i := 1) rfl) rfl, ⟨by decide +kernel, by decide +kernel, by decide +kernel⟩, by decide, by decide +kernel⟩
theorem in_X11_knowing : Cond.instanceMethod m_X11_knowing.1 ∈ lw_good := mg_4 (List.mem_of_getElem? (i := 145) rfl) rfl
def m_X12_init : MI := (yX12_init, cX12_init, 1, none, [0, 1, 2, 3, 4, 5, 6, 7, 8, 9, 10, 11, 12, 13, 14, 15, 16, 17, 18, 19, 20, 21, 22, 23, 24, 25, 26, 27, 28, 29, 30, 31, 32, 33, 34, 35, 36, 37, 38, 39, 40, 41, 42, 43, 44, 45, 46, 47, 48, 49, 50, 51, 52, 53, 54, 55, 56, 57, 58, 59, 60, 61, 62, 63, 64, 65, 66, 67, 68, 69, 70, 71, 72, 73, 74, 75, 76, 77, 78, 79, 80, 81, 82, 83, 84, 85, 86, 87, 88, 89, 90, 91, 92, 93, 94, 95, 96, 97, 98, 99, 100, 101, 102, 103, 104, 105, 106, 107, 108, 109, 110, 111, 112, 113, 114, 115, 116, 117, 118, 119, 120, 121, 122, 123, 124, 125, 126, 127, 128, 129, 130, 131, 132, 133, 134, 135, 136, 137, 138, 139, 140, 141, 142, 143, 144, 145, 146, 147, 148, 149, 150, 151, 152, 153, 154, 155, 156, 157, 158, 159, 160, 161, 162, 163, 164, 165], true)
theorem ok_X12_init : MOk m_X12_init 0 := ⟨mg_6 (List.mem_of_getElem? (i := 176) rfl) rfl, mg_1 (List.mem_of_getElem? (i := 14) rfl) rfl, ⟨by decide +kernel, by decide +kernel, by decide +kernel⟩, by decide, by decide +kernel⟩
theorem in_X12_init : Cond.instanceMethod m_X12_init.1 ∈ lw_good := mg_6 (List.mem_of_getElem? (i := 175) rfl) rfl
def m_X12_in : MI := (yX12_in, cX12_in, 6, (some .boolean), [], false)
theorem ok_X12_in : MOk m_X12_in 3 := ⟨mg_7 (List.mem_of_getElem? (i := 157) rfl) rfl, mg_1 (List.mem_of_getElem? (i := 14) rfl) rfl, ⟨by decide +kernel, by decide +kernel, by decide +kernel⟩, by decide, by decide +kernel⟩
theorem is_X12_in : Cond.static m_X12_in.1 ∈ lw_good := mg_7 (List.mem_of_getElem? (i := 156) rfl) rfl
def m_X12_told : MI := (yX12_told, cX12_told, 2, (some .int), [124], false)
theorem ok_X12_told : MOk m_X12_told 1 := ⟨mg_7 (List.mem_of_getElem? (i := 161) rfl) rfl, mg_1 (List.mem_of_getElem? (i := 14) rfl) rfl, ⟨by decide +kernel, by decide +kernel, by decide +kernel⟩, by decide, by decide +kernel⟩
theorem in_X12_told : Cond.instanceMethod m_X12_told.1 ∈ lw_good := mg_7 (List.mem_of_getElem? (i := 160) rfl) rfl
def m_X12_isWeek : MI := (yX12_isWeek, cX12_isWeek, 1, (some .boolean), [], false)
theorem ok_X12_isWeek : MOk m_X12_isWeek 1 := ⟨mg_7 (List.mem_of_getElem? (i := 188) rfl) rfl, mg_1 (List.mem_of_getElem? (i := 14) rfl) rfl, ⟨by decide +kernel, by decide +kernel, by decide +kernel⟩, by decide, by decide +kernel⟩
theorem is_X12_isWeek : Cond.static m_X12_isWeek.1 ∈ lw_good := mg_7 (List.mem_of_getElem? (i := 187) rfl) rfl
def m_X12_isCouncil : MI := (yX12_isCouncil, cX12_isCouncil, 1, (some .boolean), [], false)
theorem ok_X12_isCouncil : MOk m_X12_isCouncil 1 := ⟨mg_8 (List.mem_of_getElem? (i := 184) rfl) rfl, mg_1 (List.mem_of_getElem? (i := 14) rfl) rfl, ⟨by decide +kernel, by decide +kernel, by decide +kernel⟩, by decide, by decide +kernel⟩
theorem is_X12_isCouncil : Cond.static m_X12_isCouncil.1 ∈ lw_good := mg_8 (List.mem_of_getElem? (i := 183) rfl) rfl
def m_X12_isQuarter : MI := (yX12_isQuarter, cX12_isQuarter, 1, (some .boolean), [], false)
theorem ok_X12_isQuarter : MOk m_X12_isQuarter 1 := ⟨mg_9 (List.mem_of_getElem? (i := 54) rfl) rfl, mg_1 (List.mem_of_getElem? (i := 14) rfl) rfl, ⟨by decide +kernel, by decide +kernel, by decide +kernel⟩, by decide, by decide +kernel⟩
theorem is_X12_isQuarter : Cond.static m_X12_isQuarter.1 ∈ lw_good := mg_9 (List.mem_of_getElem? (i := 53) rfl) rfl
def m_X12_image : MI := (yX12_image, cX12_image, 3, (some .int), [124, 126, 127], false)
theorem ok_X12_image : MOk m_X12_image 1 := ⟨mg_7 (List.mem_of_getElem? (i := 153) rfl) rfl, mg_1 (List.mem_of_getElem? (i := 14) rfl) rfl, ⟨by decide +kernel, by decide +kernel, by decide +kernel⟩, by decide, by decide +kernel⟩
theorem in_X12_image : Cond.instanceMethod m_X12_image.1 ∈ lw_good := mg_7 (List.mem_of_getElem? (i := 151) rfl) rfl
def m_X12_back : MI := (yX12_back, cX12_back, 3, (some .int), [124, 125], false)
theorem ok_X12_back : MOk m_X12_back 1 := ⟨mg_7 (List.mem_of_getElem? (i := 165) rfl) rfl, mg_1 (List.mem_of_getElem? (i := 14) rfl) rfl, ⟨by decide +kernel, by decide +kernel, by decide +kernel⟩, by decide, by decide +kernel⟩
theorem in_X12_back : Cond.instanceMethod m_X12_back.1 ∈ lw_good := mg_7 (List.mem_of_getElem? (i := 163) rfl) rfl
def m_X12_addFour : MI := (yX12_addFour, cX12_addFour, 6, none, [125], false)
theorem ok_X12_addFour : MOk m_X12_addFour 5 := ⟨mg_8 (List.mem_of_getElem? (i := 171) rfl) rfl, mg_1 (List.mem_of_getElem? (i := 14) rfl) rfl, ⟨by decide +kernel, by decide +kernel, by decide +kernel⟩, by decide, by decide +kernel⟩
theorem in_X12_addFour : Cond.instanceMethod m_X12_addFour.1 ∈ lw_good := mg_8 (List.mem_of_getElem? (i := 170) rfl) rfl
def m_X12_four : MI := (yX12_four, cX12_four, 3, none, [124, 128], false)
theorem ok_X12_four : MOk m_X12_four 1 := ⟨mg_7 (List.mem_of_getElem? (i := 173) rfl) rfl, mg_1 (List.mem_of_getElem? (i := 14) rfl) rfl, ⟨by decide +kernel, by decide +kernel, by decide +kernel⟩, by decide, by decide +kernel⟩
theorem in_X12_four : Cond.instanceMethod m_X12_four.1 ∈ lw_good := mg_7 (List.mem_of_getElem? (i := 172) rfl) rfl
def m_X12_feed : MI := (yX12_feed, cX12_feed, 6, (some .int), [124, 128], false)
theorem ok_X12_feed : MOk m_X12_feed 5 := ⟨mg_7 (List.mem_of_getElem? (i := 169) rfl) rfl, mg_1 (List.mem_of_getElem? (i := 14) rfl) rfl, ⟨by decide +kernel, by decide +kernel, by decide +kernel⟩, by decide, by decide +kernel⟩
theorem in_X12_feed : Cond.instanceMethod m_X12_feed.1 ∈ lw_good := mg_7 (List.mem_of_getElem? (i := 167) rfl) rfl
def m_X12_end : MI := (yX12_end, cX12_end, 2, (some .int), [124], false)
theorem ok_X12_end : MOk m_X12_end 1 := ⟨mg_7 (List.mem_of_getElem? (i := 177) rfl) rfl, mg_1 (List.mem_of_getElem? (i := 14) rfl) rfl, ⟨by decide +kernel, by decide +kernel, by decide +kernel⟩, by decide, by decide +kernel⟩
theorem in_X12_end : Cond.instanceMethod m_X12_end.1 ∈ lw_good := mg_7 (List.mem_of_getElem? (i := 175) rfl) rfl
def m_X12_isSmall : MI := (yX12_isSmall, cX12_isSmall, 1, (some .boolean), [], false)
theorem ok_X12_isSmall : MOk m_X12_isSmall 1 := ⟨mg_7 (List.mem_of_getElem? (i := 200) rfl) rfl, mg_1 (List.mem_of_getElem? (i := 14) rfl) rfl, ⟨by decide +kernel, by decide +kernel, by decide +kernel⟩, by decide, by decide +kernel⟩
theorem is_X12_isSmall : Cond.static m_X12_isSmall.1 ∈ lw_good := mg_7 (List.mem_of_getElem? (i := 199) rfl) rfl
def m_X12_isDigit : MI := (yX12_isDigit, cX12_isDigit, 1, (some .boolean), [], false)
theorem ok_X12_isDigit : MOk m_X12_isDigit 1 := ⟨mg_7 (List.mem_of_getElem? (i := 203) rfl) rfl, mg_1 (List.mem_of_getElem? (i := 14) rfl) rfl, ⟨by decide +kernel, by decide +kernel, by decide +kernel⟩, by decide, by decide +kernel⟩
theorem is_X12_isDigit : Cond.static m_X12_isDigit.1 ∈ lw_good := mg_7 (List.mem_of_getElem? (i := 202) rfl) rfl
def m_X12_begin : MI := (yX12_begin, cX12_begin, 1, none, [124], false)
theorem ok_X12_begin : MOk m_X12_begin 0 := ⟨mg_7 (List.mem_of_getElem? (i := 193) rfl) rfl, mg_1 (List.mem_of_getElem? (i := 14) rfl) rfl, ⟨by decide +kernel, by decide +kernel, by decide +kernel⟩, by decide, by decide +kernel⟩
theorem in_X12_begin : Cond.instanceMethod m_X12_begin.1 ∈ lw_good := mg_7 (List.mem_of_getElem? (i := 192) rfl) rfl
def m_X12_next : MI := (yX12_next, cX12_next, 1, none, [124], false)
theorem ok_X12_next : MOk m_X12_next 0 := ⟨mg_7 (List.mem_of_getElem? (i := 197) rfl) rfl, mg_1 (List.mem_of_getElem? (i := 14) rfl) rfl, ⟨by decide +kernel, by decide +kernel, by decide +kernel⟩, by decide, by decide +kernel⟩
theorem in_X12_next : Cond.instanceMethod m_X12_next.1 ∈ lw_good := mg_7 (List.mem_of_getElem? (i := 196) rfl) rfl
def m_X12_isWord : MI := (yX12_isWord, cX12_isWord, 3, (some .boolean), [], false)
theorem ok_X12_isWord : MOk m_X12_isWord 1 := ⟨mg_7 (List.mem_of_getElem? (i := 222) rfl) rfl, mg_1 (List.mem_of_getElem? (i := 14) rfl) rfl, ⟨by decide +kernel, by decide +kernel, by decide +kernel⟩, by decide, by decide +kernel⟩
theorem in_X12_isWord : Cond.instanceMethod m_X12_isWord.1 ∈ lw_good := mg_7 (List.mem_of_getElem? (i := 221) rfl) rfl
def m_X12_isSign : MI := (yX12_isSign, cX12_isSign, 2, (some .boolean), [], false)
theorem ok_X12_isSign : MOk m_X12_isSign 1 := ⟨mg_8 (List.mem_of_getElem? (i := 44) rfl) rfl, mg_1 (List.mem_of_getElem? (i := 14) rfl) rfl, ⟨by decide +kernel, by decide +kernel, by decide +kernel⟩, by decide, by decide +kernel⟩
theorem in_X12_isSign : Cond.instanceMethod m_X12_isSign.1 ∈ lw_good := mg_8 (List.mem_of_getElem? (i := 43) rfl) rfl
def m_X12_must : MI := (yX12_must, cX12_must, 2, none, [124], false)
theorem ok_X12_must : MOk m_X12_must 1 := ⟨mg_7 (List.mem_of_getElem? (i := 234) rfl) rfl, mg_1 (List.mem_of_getElem? (i := 14) rfl) rfl, ⟨by decide +kernel, by decide +kernel, by decide +kernel⟩, by decide, by decide +kernel⟩
theorem in_X12_must : Cond.instanceMethod m_X12_must.1 ∈ lw_good := mg_7 (List.mem_of_getElem? (i := 233) rfl) rfl
def m_X12_number : MI := (yX12_number, cX12_number, 4, (some .int), [124], false)
theorem ok_X12_number : MOk m_X12_number 1 := ⟨mg_7 (List.mem_of_getElem? (i := 239) rfl) rfl, mg_1 (List.mem_of_getElem? (i := 14) rfl) rfl, ⟨by decide +kernel, by decide +kernel, by decide +kernel⟩, by decide, by decide +kernel⟩
theorem in_X12_number : Cond.instanceMethod m_X12_number.1 ∈ lw_good := mg_7 (List.mem_of_getElem? (i := 238) rfl) rfl
def m_X12_fault : MI := (yX12_fault, cX12_fault, 1, (some .int), [124], false)
theorem ok_X12_fault : MOk m_X12_fault 0 := ⟨mg_7 (List.mem_of_getElem? (i := 181) rfl) rfl, mg_1 (List.mem_of_getElem? (i := 14) rfl) rfl, ⟨by decide +kernel, by decide +kernel, by decide +kernel⟩, by decide, by decide +kernel⟩
theorem in_X12_fault : Cond.instanceMethod m_X12_fault.1 ∈ lw_good := mg_7 (List.mem_of_getElem? (i := 179) rfl) rfl
def m_X12_emit : MI := (yX12_emit, cX12_emit, 3, none, [124, 130, 131], false)
theorem ok_X12_emit : MOk m_X12_emit 2 := ⟨mg_8 (List.mem_of_getElem? (i := 70) rfl) rfl, mg_1 (List.mem_of_getElem? (i := 14) rfl) rfl, ⟨by decide +kernel, by decide +kernel, by decide +kernel⟩, by decide, by decide +kernel⟩
theorem in_X12_emit : Cond.instanceMethod m_X12_emit.1 ∈ lw_good := mg_8 (List.mem_of_getElem? (i := 69) rfl) rfl
def m_X12_push : MI := (yX12_push, cX12_push, 3, none, [124, 132, 133], false)
theorem ok_X12_push : MOk m_X12_push 2 := ⟨mg_8 (List.mem_of_getElem? (i := 40) rfl) rfl, mg_1 (List.mem_of_getElem? (i := 14) rfl) rfl, ⟨by decide +kernel, by decide +kernel, by decide +kernel⟩, by decide, by decide +kernel⟩
theorem in_X12_push : Cond.instanceMethod m_X12_push.1 ∈ lw_good := mg_8 (List.mem_of_getElem? (i := 39) rfl) rfl
def m_X12_binds : MI := (yX12_binds, cX12_binds, 1, (some .int), [], false)
theorem ok_X12_binds : MOk m_X12_binds 1 := ⟨mg_8 (List.mem_of_getElem? (i := 77) rfl) rfl, mg_1 (List.mem_of_getElem? (i := 14) rfl) rfl, ⟨by decide +kernel, by decide +kernel, by decide +kernel⟩, by decide, by decide +kernel⟩
theorem is_X12_binds : Cond.static m_X12_binds.1 ∈ lw_good := mg_8 (List.mem_of_getElem? (i := 76) rfl) rfl
def m_X12_settle : MI := (yX12_settle, cX12_settle, 2, none, [124, 130, 131], false)
theorem ok_X12_settle : MOk m_X12_settle 1 := ⟨mg_8 (List.mem_of_getElem? (i := 81) rfl) rfl, mg_1 (List.mem_of_getElem? (i := 14) rfl) rfl, ⟨by decide +kernel, by decide +kernel, by decide +kernel⟩, by decide, by decide +kernel⟩
theorem in_X12_settle : Cond.instanceMethod m_X12_settle.1 ∈ lw_good := mg_8 (List.mem_of_getElem? (i := 80) rfl) rfl
def m_X12_inner : MI := (yX12_inner, cX12_inner, 3, (some .int), [], false)
theorem ok_X12_inner : MOk m_X12_inner 0 := ⟨mg_8 (List.mem_of_getElem? (i := 85) rfl) rfl, mg_1 (List.mem_of_getElem? (i := 14) rfl) rfl, ⟨by decide +kernel, by decide +kernel, by decide +kernel⟩, by decide, by decide +kernel⟩
theorem in_X12_inner : Cond.instanceMethod m_X12_inner.1 ∈ lw_good := mg_8 (List.mem_of_getElem? (i := 84) rfl) rfl
def m_X12_isCompared : MI := (yX12_isCompared, cX12_isCompared, 2, (some .boolean), [], false)
theorem ok_X12_isCompared : MOk m_X12_isCompared 0 := ⟨mg_8 (List.mem_of_getElem? (i := 93) rfl) rfl, mg_1 (List.mem_of_getElem? (i := 14) rfl) rfl, ⟨by decide +kernel, by decide +kernel, by decide +kernel⟩, by decide, by decide +kernel⟩
theorem in_X12_isCompared : Cond.instanceMethod m_X12_isCompared.1 ∈ lw_good := mg_8 (List.mem_of_getElem? (i := 92) rfl) rfl
def m_X12_partAt : MI := (yX12_partAt, cX12_partAt, 1, (some .int), [], false)
theorem ok_X12_partAt : MOk m_X12_partAt 0 := ⟨mg_8 (List.mem_of_getElem? (i := 58) rfl) rfl, mg_1 (List.mem_of_getElem? (i := 14) rfl) rfl, ⟨by decide +kernel, by decide +kernel, by decide +kernel⟩, by decide, by decide +kernel⟩
theorem in_X12_partAt : Cond.instanceMethod m_X12_partAt.1 ∈ lw_good := mg_8 (List.mem_of_getElem? (i := 57) rfl) rfl
def m_X12_open : MI := (yX12_open, cX12_open, 2, none, [124, 132, 133], false)
theorem ok_X12_open : MOk m_X12_open 1 := ⟨mg_8 (List.mem_of_getElem? (i := 48) rfl) rfl, mg_1 (List.mem_of_getElem? (i := 14) rfl) rfl, ⟨by decide +kernel, by decide +kernel, by decide +kernel⟩, by decide, by decide +kernel⟩
theorem in_X12_open : Cond.instanceMethod m_X12_open.1 ∈ lw_good := mg_8 (List.mem_of_getElem? (i := 47) rfl) rfl
def m_X12_readPart : MI := (yX12_readPart, cX12_readPart, 4, (some .int), [124, 130, 131, 132, 133], false)
theorem ok_X12_readPart : MOk m_X12_readPart 0 := ⟨mg_8 (List.mem_of_getElem? (i := 52) rfl) rfl, mg_1 (List.mem_of_getElem? (i := 14) rfl) rfl, ⟨by decide +kernel, by decide +kernel, by decide +kernel⟩, by decide, by decide +kernel⟩
theorem in_X12_readPart : Cond.instanceMethod m_X12_readPart.1 ∈ lw_good := mg_8 (List.mem_of_getElem? (i := 51) rfl) rfl
def m_X12_readPlain : MI := (yX12_readPlain, cX12_readPlain, 1, (some .int), [124, 130, 131, 132, 133], false)
theorem ok_X12_readPlain : MOk m_X12_readPlain 0 := ⟨mg_8 (List.mem_of_getElem? (i := 35) rfl) rfl, mg_1 (List.mem_of_getElem? (i := 14) rfl) rfl, ⟨by decide +kernel, by decide +kernel, by decide +kernel⟩, by decide, by decide +kernel⟩
theorem in_X12_readPlain : Cond.instanceMethod m_X12_readPlain.1 ∈ lw_good := mg_8 (List.mem_of_getElem? (i := 34) rfl) rfl
def m_X12_behindBracket : MI := (yX12_behindBracket, cX12_behindBracket, 3, (some .int), [124, 130, 131, 132, 133], false)
theorem ok_X12_behindBracket : MOk m_X12_behindBracket 1 := ⟨mg_8 (List.mem_of_getElem? (i := 89) rfl) rfl, mg_1 (List.mem_of_getElem? (i := 14) rfl) rfl, ⟨by decide +kernel, by decide +kernel, by decide +kernel⟩, by decide, by decide +kernel⟩
theorem in_X12_behindBracket : Cond.instanceMethod m_X12_behindBracket.1 ∈ lw_good := mg_8 (List.mem_of_getElem? (i := 88) rfl) rfl
def m_X12_behindSum : MI := (yX12_behindSum, cX12_behindSum, 4, (some .int), [124, 130, 131, 132, 133], false)
theorem ok_X12_behindSum : MOk m_X12_behindSum 1 := ⟨mg_8 (List.mem_of_getElem? (i := 74) rfl) rfl, mg_1 (List.mem_of_getElem? (i := 14) rfl) rfl, ⟨by decide +kernel, by decide +kernel, by decide +kernel⟩, by decide, by decide +kernel⟩
theorem in_X12_behindSum : Cond.instanceMethod m_X12_behindSum.1 ∈ lw_good := mg_8 (List.mem_of_getElem? (i := 73) rfl) rfl
def m_X12_behindTest : MI := (yX12_behindTest, cX12_behindTest, 2, (some .int), [124, 130, 131, 132, 133], false)
theorem ok_X12_behindTest : MOk m_X12_behindTest 0 := ⟨mg_8 (List.mem_of_getElem? (i := 101) rfl) rfl, mg_1 (List.mem_of_getElem? (i := 14) rfl) rfl, ⟨by decide +kernel, by decide +kernel, by decide +kernel⟩, by decide, by decide +kernel⟩
theorem in_X12_behindTest : Cond.instanceMethod m_X12_behindTest.1 ∈ lw_good := mg_8 (List.mem_of_getElem? (i := 100) rfl) rfl
def m_X12_readExpression : MI := (yX12_readExpression, cX12_readExpression, 3, none, [124, 130, 131, 132, 133], false)
theorem ok_X12_readExpression : MOk m_X12_readExpression 1 := ⟨mg_8 (List.mem_of_getElem? (i := 31) rfl) rfl, mg_1 (List.mem_of_getElem? (i := 14) rfl) rfl, ⟨by decide +kernel, by decide +kernel, by decide +kernel⟩, by decide, by decide +kernel⟩
theorem in_X12_readExpression : Cond.instanceMethod m_X12_readExpression.1 ∈ lw_good := mg_8 (List.mem_of_getElem? (i := 30) rfl) rfl
def m_X12_kindAt : MI := (yX12_kindAt, cX12_kindAt, 1, (some .int), [], false)
theorem ok_X12_kindAt : MOk m_X12_kindAt 0 := ⟨mg_8 (List.mem_of_getElem? (i := 5) rfl) rfl, mg_1 (List.mem_of_getElem? (i := 14) rfl) rfl, ⟨by decide +kernel, by decide +kernel, by decide +kernel⟩, by decide, by decide +kernel⟩
theorem in_X12_kindAt : Cond.instanceMethod m_X12_kindAt.1 ∈ lw_good := mg_8 (List.mem_of_getElem? (i := 4) rfl) rfl
def m_X12_stageAt : MI := (yX12_stageAt, cX12_stageAt, 1, (some .int), [], false)
theorem ok_X12_stageAt : MOk m_X12_stageAt 0 := ⟨mg_8 (List.mem_of_getElem? (i := 16) rfl) rfl, mg_1 (List.mem_of_getElem? (i := 14) rfl) rfl, ⟨by decide +kernel, by decide +kernel, by decide +kernel⟩, by decide, by decide +kernel⟩
theorem in_X12_stageAt : Cond.instanceMethod m_X12_stageAt.1 ∈ lw_good := mg_8 (List.mem_of_getElem? (i := 15) rfl) rfl
def m_X12_materialAt : MI := (yX12_materialAt, cX12_materialAt, 1, (some .int), [], false)
theorem ok_X12_materialAt : MOk m_X12_materialAt 0 := ⟨mg_8 (List.mem_of_getElem? (i := 23) rfl) rfl, mg_1 (List.mem_of_getElem? (i := 14) rfl) rfl, ⟨by decide +kernel, by decide +kernel, by decide +kernel⟩, by decide, by decide +kernel⟩
theorem in_X12_materialAt : Cond.instanceMethod m_X12_materialAt.1 ∈ lw_good := mg_8 (List.mem_of_getElem? (i := 22) rfl) rfl
def m_X12_headAt : MI := (yX12_headAt, cX12_headAt, 1, (some .int), [], false)
theorem ok_X12_headAt : MOk m_X12_headAt 0 := ⟨mg_7 (List.mem_of_getElem? (i := 217) rfl) rfl, mg_1 (List.mem_of_getElem? (i := 14) rfl) rfl, ⟨by decide +kernel, by decide +kernel, by decide +kernel⟩, by decide, by decide +kernel⟩
theorem in_X12_headAt : Cond.instanceMethod m_X12_headAt.1 ∈ lw_good := mg_7 (List.mem_of_getElem? (i := 216) rfl) rfl
def m_X12_choice : MI := (yX12_choice, cX12_choice, 2, (some .int), [124], false)
theorem ok_X12_choice : MOk m_X12_choice 1 := ⟨mg_8 (List.mem_of_getElem? (i := 12) rfl) rfl, mg_1 (List.mem_of_getElem? (i := 14) rfl) rfl, ⟨by decide +kernel, by decide +kernel, by decide +kernel⟩, by decide, by decide +kernel⟩
theorem in_X12_choice : Cond.instanceMethod m_X12_choice.1 ∈ lw_good := mg_8 (List.mem_of_getElem? (i := 11) rfl) rfl
def m_X12_readClause : MI := (yX12_readClause, cX12_readClause, 4, none, [124, 129, 130, 131, 132, 133], false)
theorem ok_X12_readClause : MOk m_X12_readClause 0 := ⟨mg_7 (List.mem_of_getElem? (i := 213) rfl) rfl, mg_1 (List.mem_of_getElem? (i := 14) rfl) rfl, ⟨by decide +kernel, by decide +kernel, by decide +kernel⟩, by decide, by decide +kernel⟩
theorem in_X12_readClause : Cond.instanceMethod m_X12_readClause.1 ∈ lw_good := mg_7 (List.mem_of_getElem? (i := 212) rfl) rfl
def m_X12_act : MI := (yX12_act, cX12_act, 6, (some .int), [124, 125, 129, 130, 131, 132, 133], false)
theorem ok_X12_act : MOk m_X12_act 2 := ⟨mg_7 (List.mem_of_getElem? (i := 185) rfl) rfl, mg_1 (List.mem_of_getElem? (i := 14) rfl) rfl, ⟨by decide +kernel, by decide +kernel, by decide +kernel⟩, by decide, by decide +kernel⟩
theorem in_X12_act : Cond.instanceMethod m_X12_act.1 ∈ lw_good := mg_7 (List.mem_of_getElem? (i := 183) rfl) rfl
def m_X12_actAt : MI := (yX12_actAt, cX12_actAt, 1, (some .int), [], false)
theorem ok_X12_actAt : MOk m_X12_actAt 1 := ⟨mg_8 (List.mem_of_getElem? (i := 107) rfl) rfl, mg_1 (List.mem_of_getElem? (i := 14) rfl) rfl, ⟨by decide +kernel, by decide +kernel, by decide +kernel⟩, by decide, by decide +kernel⟩
theorem is_X12_actAt : Cond.static m_X12_actAt.1 ∈ lw_good := mg_8 (List.mem_of_getElem? (i := 106) rfl) rfl
def m_X12_clauseAt : MI := (yX12_clauseAt, cX12_clauseAt, 2, (some .int), [], false)
theorem ok_X12_clauseAt : MOk m_X12_clauseAt 2 := ⟨mg_8 (List.mem_of_getElem? (i := 122) rfl) rfl, mg_1 (List.mem_of_getElem? (i := 14) rfl) rfl, ⟨by decide +kernel, by decide +kernel, by decide +kernel⟩, by decide, by decide +kernel⟩
theorem is_X12_clauseAt : Cond.static m_X12_clauseAt.1 ∈ lw_good := mg_8 (List.mem_of_getElem? (i := 121) rfl) rfl
def m_X12_findForce : MI := (yX12_findForce, cX12_findForce, 6, none, [124, 134, 135], false)
theorem ok_X12_findForce : MOk m_X12_findForce 1 := ⟨mg_8 (List.mem_of_getElem? (i := 119) rfl) rfl, mg_1 (List.mem_of_getElem? (i := 14) rfl) rfl, ⟨by decide +kernel, by decide +kernel, by decide +kernel⟩, by decide, by decide +kernel⟩
theorem in_X12_findForce : Cond.instanceMethod m_X12_findForce.1 ∈ lw_good := mg_8 (List.mem_of_getElem? (i := 118) rfl) rfl
def m_X12_knowBy : MI := (yX12_knowBy, cX12_knowBy, 3, none, [124, 138, 139], false)
theorem ok_X12_knowBy : MOk m_X12_knowBy 1 := ⟨mg_8 (List.mem_of_getElem? (i := 115) rfl) rfl, mg_1 (List.mem_of_getElem? (i := 14) rfl) rfl, ⟨by decide +kernel, by decide +kernel, by decide +kernel⟩, by decide, by decide +kernel⟩
theorem in_X12_knowBy : Cond.instanceMethod m_X12_knowBy.1 ∈ lw_good := mg_8 (List.mem_of_getElem? (i := 114) rfl) rfl
def m_X12_force : MI := (yX12_force, cX12_force, 5, (some .int), [124, 134, 135, 138, 139], false)
theorem ok_X12_force : MOk m_X12_force 4 := ⟨mg_8 (List.mem_of_getElem? (i := 111) rfl) rfl, mg_1 (List.mem_of_getElem? (i := 14) rfl) rfl, ⟨by decide +kernel, by decide +kernel, by decide +kernel⟩, by decide, by decide +kernel⟩
theorem in_X12_force : Cond.instanceMethod m_X12_force.1 ∈ lw_good := mg_8 (List.mem_of_getElem? (i := 109) rfl) rfl
def m_X12_setOnly : MI := (yX12_setOnly, cX12_setOnly, 4, none, [136], false)
theorem ok_X12_setOnly : MOk m_X12_setOnly 2 := ⟨mg_8 (List.mem_of_getElem? (i := 131) rfl) rfl, mg_1 (List.mem_of_getElem? (i := 14) rfl) rfl, ⟨by decide +kernel, by decide +kernel, by decide +kernel⟩, by decide, by decide +kernel⟩
theorem in_X12_setOnly : Cond.instanceMethod m_X12_setOnly.1 ∈ lw_good := mg_8 (List.mem_of_getElem? (i := 130) rfl) rfl
def m_X12_reckon : MI := (yX12_reckon, cX12_reckon, 6, (some .long), [124], false)
theorem ok_X12_reckon : MOk m_X12_reckon 3 := ⟨mg_8 (List.mem_of_getElem? (i := 147) rfl) rfl, mg_1 (List.mem_of_getElem? (i := 14) rfl) rfl, ⟨by decide +kernel, by decide +kernel, by decide +kernel⟩, by decide, by decide +kernel⟩
theorem in_X12_reckon : Cond.instanceMethod m_X12_reckon.1 ∈ lw_good := mg_8 (List.mem_of_getElem? (i := 146) rfl) rfl
def m_X12_run : MI := (yX12_run, cX12_run, 10, none, [124, 137], false)
theorem ok_X12_run : MOk m_X12_run 3 := ⟨mg_8 (List.mem_of_getElem? (i := 143) rfl) rfl, mg_1 (List.mem_of_getElem? (i := 14) rfl) rfl, ⟨by decide +kernel, by decide +kernel, by decide +kernel⟩, by decide, by decide +kernel⟩
theorem in_X12_run : Cond.instanceMethod m_X12_run.1 ∈ lw_good := mg_8 (List.mem_of_getElem? (i := 142) rfl) rfl
def m_X12_holds : MI := (yX12_holds, cX12_holds, 5, (some .boolean), [124, 134, 135, 137], false)
theorem ok_X12_holds : MOk m_X12_holds 3 := ⟨mg_8 (List.mem_of_getElem? (i := 139) rfl) rfl, mg_1 (List.mem_of_getElem? (i := 14) rfl) rfl, ⟨by decide +kernel, by decide +kernel, by decide +kernel⟩, by decide, by decide +kernel⟩
theorem in_X12_holds : Cond.instanceMethod m_X12_holds.1 ∈ lw_good := mg_8 (List.mem_of_getElem? (i := 138) rfl) rfl
def m_X12_find : MI := (yX12_find, cX12_find, 13, (some .boolean), [124, 134, 135, 137], false)
theorem ok_X12_find : MOk m_X12_find 5 := ⟨mg_8 (List.mem_of_getElem? (i := 135) rfl) rfl, mg_1 (List.mem_of_getElem? (i := 14) rfl) rfl, ⟨by decide +kernel, by decide +kernel, by decide +kernel⟩, by decide, by decide +kernel⟩
theorem in_X12_find : Cond.instanceMethod m_X12_find.1 ∈ lw_good := mg_8 (List.mem_of_getElem? (i := 134) rfl) rfl
def m_X12_atLeastNought : MI := (yX12_atLeastNought, cX12_atLeastNought, 1, (some .int), [], false)
theorem ok_X12_atLeastNought : MOk m_X12_atLeastNought 0 := ⟨mg_8 (List.mem_of_getElem? (i := 153) rfl) rfl, mg_1 (List.mem_of_getElem? (i := 14) rfl) rfl, ⟨by decide +kernel, by decide +kernel, by decide +kernel⟩, by decide, by decide +kernel⟩
theorem in_X12_atLeastNought : Cond.instanceMethod m_X12_atLeastNought.1 ∈ lw_good := mg_8 (List.mem_of_getElem? (i := 152) rfl) rfl
def m_X12_counts : MI := (yX12_counts, cX12_counts, 5, (some .int), [124, 134, 135, 136, 137, 138, 139], false)
theorem ok_X12_counts : MOk m_X12_counts 3 := ⟨mg_8 (List.mem_of_getElem? (i := 126) rfl) rfl, mg_1 (List.mem_of_getElem? (i := 14) rfl) rfl, ⟨by decide +kernel, by decide +kernel, by decide +kernel⟩, by decide, by decide +kernel⟩
theorem in_X12_counts : Cond.instanceMethod m_X12_counts.1 ∈ lw_good := mg_8 (List.mem_of_getElem? (i := 124) rfl) rfl
def m_X12_needOf : MI := (yX12_needOf, cX12_needOf, 8, (some .int), [124, 134, 135, 136, 137, 138], false)
theorem ok_X12_needOf : MOk m_X12_needOf 5 := ⟨mg_8 (List.mem_of_getElem? (i := 162) rfl) rfl, mg_1 (List.mem_of_getElem? (i := 14) rfl) rfl, ⟨by decide +kernel, by decide +kernel, by decide +kernel⟩, by decide, by decide +kernel⟩
theorem in_X12_needOf : Cond.instanceMethod m_X12_needOf.1 ∈ lw_good := mg_8 (List.mem_of_getElem? (i := 161) rfl) rfl
def m_X12_firstOf : MI := (yX12_firstOf, cX12_firstOf, 2, (some .int), [124, 134, 135, 136, 137, 139], false)
theorem ok_X12_firstOf : MOk m_X12_firstOf 1 := ⟨mg_9 (List.mem_of_getElem? (i := 2) rfl) rfl, mg_1 (List.mem_of_getElem? (i := 14) rfl) rfl, ⟨by decide +kernel, by decide +kernel, by decide +kernel⟩, by decide, by decide +kernel⟩
theorem in_X12_firstOf : Cond.instanceMethod m_X12_firstOf.1 ∈ lw_good := mg_9 (List.mem_of_getElem? (i := 1) rfl) rfl
def m_X12_need : MI := (yX12_need, cX12_need, 7, (some .int), [124, 134, 135, 136, 137, 138, 139], false)
theorem ok_X12_need : MOk m_X12_need 6 := ⟨mg_8 (List.mem_of_getElem? (i := 157) rfl) rfl, mg_1 (List.mem_of_getElem? (i := 14) rfl) rfl, ⟨by decide +kernel, by decide +kernel, by decide +kernel⟩, by decide, by decide +kernel⟩
theorem in_X12_need : Cond.instanceMethod m_X12_need.1 ∈ lw_good := mg_8 (List.mem_of_getElem? (i := 155) rfl) rfl
def m_X12_deliver : MI := (yX12_deliver, cX12_deliver, 5, (some .int), [124, 125], false)
theorem ok_X12_deliver : MOk m_X12_deliver 4 := ⟨mg_8 (List.mem_of_getElem? (i := 166) rfl) rfl, mg_1 (List.mem_of_getElem? (i := 14) rfl) rfl, ⟨by decide +kernel, by decide +kernel, by decide +kernel⟩, by decide, by decide +kernel⟩
theorem in_X12_deliver : Cond.instanceMethod m_X12_deliver.1 ∈ lw_good := mg_8 (List.mem_of_getElem? (i := 164) rfl) rfl
def m_X12_works : MI := (yX12_works, cX12_works, 11, (some .int), [124, 125], false)
theorem ok_X12_works : MOk m_X12_works 8 := ⟨mg_8 (List.mem_of_getElem? (i := 175) rfl) rfl, mg_1 (List.mem_of_getElem? (i := 14) rfl) rfl, ⟨by decide +kernel, by decide +kernel, by decide +kernel⟩, by decide, by decide +kernel⟩
theorem in_X12_works : Cond.instanceMethod m_X12_works.1 ∈ lw_good := mg_8 (List.mem_of_getElem? (i := 173) rfl) rfl
def m_X12_gangs : MI := (yX12_gangs, cX12_gangs, 5, (some .int), [124, 125], false)
theorem ok_X12_gangs : MOk m_X12_gangs 4 := ⟨mg_8 (List.mem_of_getElem? (i := 181) rfl) rfl, mg_1 (List.mem_of_getElem? (i := 14) rfl) rfl, ⟨by decide +kernel, by decide +kernel, by decide +kernel⟩, by decide, by decide +kernel⟩
theorem in_X12_gangs : Cond.instanceMethod m_X12_gangs.1 ∈ lw_good := mg_8 (List.mem_of_getElem? (i := 179) rfl) rfl
def m_X12_plot : MI := (yX12_plot, cX12_plot, 5, (some .int), [124, 125], false)
theorem ok_X12_plot : MOk m_X12_plot 4 := ⟨mg_8 (List.mem_of_getElem? (i := 189) rfl) rfl, mg_1 (List.mem_of_getElem? (i := 14) rfl) rfl, ⟨by decide +kernel, by decide +kernel, by decide +kernel⟩, by decide, by decide +kernel⟩
theorem in_X12_plot : Cond.instanceMethod m_X12_plot.1 ∈ lw_good := mg_8 (List.mem_of_getElem? (i := 187) rfl) rfl
def m_X12_isPlot : MI := (yX12_isPlot, cX12_isPlot, 2, (some .boolean), [], false)
theorem ok_X12_isPlot : MOk m_X12_isPlot 1 := ⟨mg_8 (List.mem_of_getElem? (i := 197) rfl) rfl, mg_1 (List.mem_of_getElem? (i := 14) rfl) rfl, ⟨by decide +kernel, by decide +kernel, by decide +kernel⟩, by decide, by decide +kernel⟩
theorem in_X12_isPlot : Cond.instanceMethod m_X12_isPlot.1 ∈ lw_good := mg_8 (List.mem_of_getElem? (i := 196) rfl) rfl
def m_X12_councilOf : MI := (yX12_councilOf, cX12_councilOf, 2, (some .int), [], false)
theorem ok_X12_councilOf : MOk m_X12_councilOf 1 := ⟨mg_8 (List.mem_of_getElem? (i := 218) rfl) rfl, mg_1 (List.mem_of_getElem? (i := 14) rfl) rfl, ⟨by decide +kernel, by decide +kernel, by decide +kernel⟩, by decide, by decide +kernel⟩
theorem in_X12_councilOf : Cond.instanceMethod m_X12_councilOf.1 ∈ lw_good := mg_8 (List.mem_of_getElem? (i := 217) rfl) rfl
def m_X12_kindOf : MI := (yX12_kindOf, cX12_kindOf, 2, (some .int), [], false)
theorem ok_X12_kindOf : MOk m_X12_kindOf 1 := ⟨mg_8 (List.mem_of_getElem? (i := 222) rfl) rfl, mg_1 (List.mem_of_getElem? (i := 14) rfl) rfl, ⟨by decide +kernel, by decide +kernel, by decide +kernel⟩, by decide, by decide +kernel⟩
theorem in_X12_kindOf : Cond.instanceMethod m_X12_kindOf.1 ∈ lw_good := mg_8 (List.mem_of_getElem? (i := 221) rfl) rfl
def m_X12_roomsOf : MI := (yX12_roomsOf, cX12_roomsOf, 2, (some .int), [], false)
theorem ok_X12_roomsOf : MOk m_X12_roomsOf 1 := ⟨mg_9 (List.mem_of_getElem? (i := 18) rfl) rfl, mg_1 (List.mem_of_getElem? (i := 14) rfl) rfl, ⟨by decide +kernel, by decide +kernel, by decide +kernel⟩, by decide, by decide +kernel⟩
theorem in_X12_roomsOf : Cond.instanceMethod m_X12_roomsOf.1 ∈ lw_good := mg_9 (List.mem_of_getElem? (i := 17) rfl) rfl
def m_X12_start : MI := (yX12_start, cX12_start, 5, (some .int), [124, 125], false)
theorem ok_X12_start : MOk m_X12_start 3 := ⟨mg_8 (List.mem_of_getElem? (i := 193) rfl) rfl, mg_1 (List.mem_of_getElem? (i := 14) rfl) rfl, ⟨by decide +kernel, by decide +kernel, by decide +kernel⟩, by decide, by decide +kernel⟩
theorem in_X12_start : Cond.instanceMethod m_X12_start.1 ∈ lw_good := mg_8 (List.mem_of_getElem? (i := 191) rfl) rfl
def m_X12_findStarts : MI := (yX12_findStarts, cX12_findStarts, 3, none, [140], false)
theorem ok_X12_findStarts : MOk m_X12_findStarts 0 := ⟨mg_8 (List.mem_of_getElem? (i := 210) rfl) rfl, mg_1 (List.mem_of_getElem? (i := 14) rfl) rfl, ⟨by decide +kernel, by decide +kernel, by decide +kernel⟩, by decide, by decide +kernel⟩
theorem in_X12_findStarts : Cond.instanceMethod m_X12_findStarts.1 ∈ lw_good := mg_8 (List.mem_of_getElem? (i := 209) rfl) rfl
def m_X12_license : MI := (yX12_license, cX12_license, 5, none, [124, 134, 135, 136, 137, 141], false)
theorem ok_X12_license : MOk m_X12_license 0 := ⟨mg_8 (List.mem_of_getElem? (i := 214) rfl) rfl, mg_1 (List.mem_of_getElem? (i := 14) rfl) rfl, ⟨by decide +kernel, by decide +kernel, by decide +kernel⟩, by decide, by decide +kernel⟩
theorem in_X12_license : Cond.instanceMethod m_X12_license.1 ∈ lw_good := mg_8 (List.mem_of_getElem? (i := 213) rfl) rfl
def m_X12_beginRun : MI := (yX12_beginRun, cX12_beginRun, 3, none, [124, 134, 135, 136, 137, 140, 141, 142, 144, 145, 146, 147, 148, 149], false)
theorem ok_X12_beginRun : MOk m_X12_beginRun 1 := ⟨mg_8 (List.mem_of_getElem? (i := 206) rfl) rfl, mg_1 (List.mem_of_getElem? (i := 14) rfl) rfl, ⟨by decide +kernel, by decide +kernel, by decide +kernel⟩, by decide, by decide +kernel⟩
theorem in_X12_beginRun : Cond.instanceMethod m_X12_beginRun.1 ∈ lw_good := mg_8 (List.mem_of_getElem? (i := 205) rfl) rfl
def m_X12_gangsOf : MI := (yX12_gangsOf, cX12_gangsOf, 7, (some .int), [], false)
theorem ok_X12_gangsOf : MOk m_X12_gangsOf 2 := ⟨mg_8 (List.mem_of_getElem? (i := 238) rfl) rfl, mg_1 (List.mem_of_getElem? (i := 14) rfl) rfl, ⟨by decide +kernel, by decide +kernel, by decide +kernel⟩, by decide, by decide +kernel⟩
theorem in_X12_gangsOf : Cond.instanceMethod m_X12_gangsOf.1 ∈ lw_good := mg_8 (List.mem_of_getElem? (i := 237) rfl) rfl
def m_X12_doWork : MI := (yX12_doWork, cX12_doWork, 8, none, [142], false)
theorem ok_X12_doWork : MOk m_X12_doWork 2 := ⟨mg_8 (List.mem_of_getElem? (i := 234) rfl) rfl, mg_1 (List.mem_of_getElem? (i := 14) rfl) rfl, ⟨by decide +kernel, by decide +kernel, by decide +kernel⟩, by decide, by decide +kernel⟩
theorem in_X12_doWork : Cond.instanceMethod m_X12_doWork.1 ∈ lw_good := mg_8 (List.mem_of_getElem? (i := 233) rfl) rfl
def m_X12_isAhead : MI := (yX12_isAhead, cX12_isAhead, 6, (some .boolean), [], false)
theorem ok_X12_isAhead : MOk m_X12_isAhead 3 := ⟨mg_9 (List.mem_of_getElem? (i := 6) rfl) rfl, mg_1 (List.mem_of_getElem? (i := 14) rfl) rfl, ⟨by decide +kernel, by decide +kernel, by decide +kernel⟩, by decide, by decide +kernel⟩
theorem in_X12_isAhead : Cond.instanceMethod m_X12_isAhead.1 ∈ lw_good := mg_9 (List.mem_of_getElem? (i := 5) rfl) rfl
def m_X12_goWeek : MI := (yX12_goWeek, cX12_goWeek, 7, none, [124, 134, 135, 136, 137, 138, 139, 142, 143, 144, 145, 146, 147, 148, 149, 150], false)
theorem ok_X12_goWeek : MOk m_X12_goWeek 1 := ⟨mg_8 (List.mem_of_getElem? (i := 230) rfl) rfl, mg_1 (List.mem_of_getElem? (i := 14) rfl) rfl, ⟨by decide +kernel, by decide +kernel, by decide +kernel⟩, by decide, by decide +kernel⟩
theorem in_X12_goWeek : Cond.instanceMethod m_X12_goWeek.1 ∈ lw_good := mg_8 (List.mem_of_getElem? (i := 229) rfl) rfl
def m_X12_canTake : MI := (yX12_canTake, cX12_canTake, 5, (some .boolean), [124, 134, 135, 136, 137, 138], false)
theorem ok_X12_canTake : MOk m_X12_canTake 2 := ⟨mg_9 (List.mem_of_getElem? (i := 14) rfl) rfl, mg_1 (List.mem_of_getElem? (i := 14) rfl) rfl, ⟨by decide +kernel, by decide +kernel, by decide +kernel⟩, by decide, by decide +kernel⟩
theorem in_X12_canTake : Cond.instanceMethod m_X12_canTake.1 ∈ lw_good := mg_9 (List.mem_of_getElem? (i := 13) rfl) rfl
def m_X12_goPlot : MI := (yX12_goPlot, cX12_goPlot, 5, none, [124, 134, 135, 136, 137, 138, 142, 143, 144, 145, 146, 147, 148, 149], false)
theorem ok_X12_goPlot : MOk m_X12_goPlot 2 := ⟨mg_9 (List.mem_of_getElem? (i := 10) rfl) rfl, mg_1 (List.mem_of_getElem? (i := 14) rfl) rfl, ⟨by decide +kernel, by decide +kernel, by decide +kernel⟩, by decide, by decide +kernel⟩
theorem in_X12_goPlot : Cond.instanceMethod m_X12_goPlot.1 ∈ lw_good := mg_9 (List.mem_of_getElem? (i := 9) rfl) rfl
def m_X12_finish : MI := (yX12_finish, cX12_finish, 3, none, [144, 145, 149], false)
theorem ok_X12_finish : MOk m_X12_finish 2 := ⟨mg_9 (List.mem_of_getElem? (i := 22) rfl) rfl, mg_1 (List.mem_of_getElem? (i := 14) rfl) rfl, ⟨by decide +kernel, by decide +kernel, by decide +kernel⟩, by decide, by decide +kernel⟩
theorem in_X12_finish : Cond.instanceMethod m_X12_finish.1 ∈ lw_good := mg_9 (List.mem_of_getElem? (i := 21) rfl) rfl
def m_X12_goTo : MI := (yX12_goTo, cX12_goTo, 4, none, [124, 134, 135, 136, 137, 138, 139, 142, 143, 144, 145, 146, 147, 148, 149, 150], false)
theorem ok_X12_goTo : MOk m_X12_goTo 2 := ⟨mg_8 (List.mem_of_getElem? (i := 226) rfl) rfl, mg_1 (List.mem_of_getElem? (i := 14) rfl) rfl, ⟨by decide +kernel, by decide +kernel, by decide +kernel⟩, by decide, by decide +kernel⟩
theorem in_X12_goTo : Cond.instanceMethod m_X12_goTo.1 ∈ lw_good := mg_8 (List.mem_of_getElem? (i := 225) rfl) rfl
def m_X12_runAll : MI := (yX12_runAll, cX12_runAll, 3, none, [124, 134, 135, 136, 137, 138, 139, 140, 141, 142, 143, 144, 145, 146, 147, 148, 149, 150], false)
theorem ok_X12_runAll : MOk m_X12_runAll 2 := ⟨mg_9 (List.mem_of_getElem? (i := 30) rfl) rfl, mg_1 (List.mem_of_getElem? (i := 14) rfl) rfl, ⟨by decide +kernel, by decide +kernel, by decide +kernel⟩, by decide, by decide +kernel⟩
theorem in_X12_runAll : Cond.instanceMethod m_X12_runAll.1 ∈ lw_good := mg_9 (List.mem_of_getElem? (i := 29) rfl) rfl
def m_X12_stock : MI := (yX12_stock, cX12_stock, 5, (some .int), [124, 134, 135, 136, 137, 138, 139, 140, 141, 142, 143, 144, 145, 146, 147, 148, 149, 150], false)
theorem ok_X12_stock : MOk m_X12_stock 4 := ⟨mg_8 (List.mem_of_getElem? (i := 201) rfl) rfl, mg_1 (List.mem_of_getElem? (i := 14) rfl) rfl, ⟨by decide +kernel, by decide +kernel, by decide +kernel⟩, by decide, by decide +kernel⟩
theorem in_X12_stock : Cond.instanceMethod m_X12_stock.1 ∈ lw_good := mg_8 (List.mem_of_getElem? (i := 199) rfl) rfl
def m_X12_built : MI := (yX12_built, cX12_built, 5, (some .int), [124, 134, 135, 136, 137, 138, 139, 140, 141, 142, 143, 144, 145, 146, 147, 148, 149, 150], false)
theorem ok_X12_built : MOk m_X12_built 4 := ⟨mg_9 (List.mem_of_getElem? (i := 26) rfl) rfl, mg_1 (List.mem_of_getElem? (i := 14) rfl) rfl, ⟨by decide +kernel, by decide +kernel, by decide +kernel⟩, by decide, by decide +kernel⟩
theorem in_X12_built : Cond.instanceMethod m_X12_built.1 ∈ lw_good := mg_9 (List.mem_of_getElem? (i := 24) rfl) rfl
def m_X12_lacks : MI := (yX12_lacks, cX12_lacks, 4, (some .int), [124, 134, 135, 136, 137, 138, 139, 140, 141, 142, 143, 144, 145, 146, 147, 148, 149, 150], false)
theorem ok_X12_lacks : MOk m_X12_lacks 3 := ⟨mg_9 (List.mem_of_getElem? (i := 34) rfl) rfl, mg_1 (List.mem_of_getElem? (i := 14) rfl) rfl, ⟨by decide +kernel, by decide +kernel, by decide +kernel⟩, by decide, by decide +kernel⟩
theorem in_X12_lacks : Cond.instanceMethod m_X12_lacks.1 ∈ lw_good := mg_9 (List.mem_of_getElem? (i := 32) rfl) rfl
def m_X12_knock : MI := (yX12_knock, cX12_knock, 5, (some .int), [124, 134, 135, 136, 137, 138, 139, 140, 141, 142, 143, 144, 145, 146, 147, 148, 149, 150, 151], false)
theorem ok_X12_knock : MOk m_X12_knock 2 := ⟨mg_9 (List.mem_of_getElem? (i := 38) rfl) rfl, mg_1 (List.mem_of_getElem? (i := 14) rfl) rfl, ⟨by decide +kernel, by decide +kernel, by decide +kernel⟩, by decide, by decide +kernel⟩
theorem in_X12_knock : Cond.instanceMethod m_X12_knock.1 ∈ lw_good := mg_9 (List.mem_of_getElem? (i := 36) rfl) rfl
def m_X12_wish : MI := (yX12_wish, cX12_wish, 3, (some .int), [124, 152], false)
theorem ok_X12_wish : MOk m_X12_wish 1 := ⟨mg_9 (List.mem_of_getElem? (i := 43) rfl) rfl, mg_1 (List.mem_of_getElem? (i := 14) rfl) rfl, ⟨by decide +kernel, by decide +kernel, by decide +kernel⟩, by decide, by decide +kernel⟩
theorem in_X12_wish : Cond.instanceMethod m_X12_wish.1 ∈ lw_good := mg_9 (List.mem_of_getElem? (i := 41) rfl) rfl
def m_X12_clear : MI := (yX12_clear, cX12_clear, 2, (some .int), [124], false)
theorem ok_X12_clear : MOk m_X12_clear 0 := ⟨mg_9 (List.mem_of_getElem? (i := 47) rfl) rfl, mg_1 (List.mem_of_getElem? (i := 14) rfl) rfl, ⟨by decide +kernel, by decide +kernel, by decide +kernel⟩, by decide, by decide +kernel⟩
theorem in_X12_clear : Cond.instanceMethod m_X12_clear.1 ∈ lw_good := mg_9 (List.mem_of_getElem? (i := 45) rfl) rfl
def m_X12_goAhead : MI := (yX12_goAhead, cX12_goAhead, 3, none, [124, 134, 135, 136, 137, 138, 139, 140, 141, 142, 143, 144, 145, 146, 147, 148, 149, 150, 154, 155, 156, 157, 158, 159], false)
theorem ok_X12_goAhead : MOk m_X12_goAhead 1 := ⟨mg_9 (List.mem_of_getElem? (i := 59) rfl) rfl, mg_1 (List.mem_of_getElem? (i := 14) rfl) rfl, ⟨by decide +kernel, by decide +kernel, by decide +kernel⟩, by decide, by decide +kernel⟩
theorem in_X12_goAhead : Cond.instanceMethod m_X12_goAhead.1 ∈ lw_good := mg_9 (List.mem_of_getElem? (i := 58) rfl) rfl
def m_X12_tryRow : MI := (yX12_tryRow, cX12_tryRow, 5, none, [124, 134, 135, 136, 137, 138, 139, 140, 141, 142, 143, 144, 145, 146, 147, 148, 149, 150], false)
theorem ok_X12_tryRow : MOk m_X12_tryRow 2 := ⟨mg_9 (List.mem_of_getElem? (i := 63) rfl) rfl, mg_1 (List.mem_of_getElem? (i := 14) rfl) rfl, ⟨by decide +kernel, by decide +kernel, by decide +kernel⟩, by decide, by decide +kernel⟩
theorem in_X12_tryRow : Cond.instanceMethod m_X12_tryRow.1 ∈ lw_good := mg_9 (List.mem_of_getElem? (i := 62) rfl) rfl
def m_X12_best : MI := (yX12_best, cX12_best, 5, (some .int), [124, 134, 135, 136, 137, 138, 139, 140, 141, 142, 143, 144, 145, 146, 147, 148, 149, 150, 153, 154, 155, 156, 157, 158, 159], false)
theorem ok_X12_best : MOk m_X12_best 1 := ⟨mg_9 (List.mem_of_getElem? (i := 51) rfl) rfl, mg_1 (List.mem_of_getElem? (i := 14) rfl) rfl, ⟨by decide +kernel, by decide +kernel, by decide +kernel⟩, by decide, by decide +kernel⟩
theorem in_X12_best : Cond.instanceMethod m_X12_best.1 ∈ lw_good := mg_9 (List.mem_of_getElem? (i := 49) rfl) rfl
def m_X12_chosen : MI := (yX12_chosen, cX12_chosen, 2, (some .int), [124], false)
theorem ok_X12_chosen : MOk m_X12_chosen 1 := ⟨mg_9 (List.mem_of_getElem? (i := 67) rfl) rfl, mg_1 (List.mem_of_getElem? (i := 14) rfl) rfl, ⟨by decide +kernel, by decide +kernel, by decide +kernel⟩, by decide, by decide +kernel⟩
theorem in_X12_chosen : Cond.instanceMethod m_X12_chosen.1 ∈ lw_good := mg_9 (List.mem_of_getElem? (i := 65) rfl) rfl
def m_X12_bound : MI := (yX12_bound, cX12_bound, 6, (some .int), [124, 134, 135, 136, 137, 138, 139, 140, 141, 142, 143, 144, 145, 146, 147, 148, 149, 150, 154, 155, 156, 157, 158, 159], false)
theorem ok_X12_bound : MOk m_X12_bound 1 := ⟨mg_9 (List.mem_of_getElem? (i := 71) rfl) rfl, mg_1 (List.mem_of_getElem? (i := 14) rfl) rfl, ⟨by decide +kernel, by decide +kernel, by decide +kernel⟩, by decide, by decide +kernel⟩
theorem in_X12_bound : Cond.instanceMethod m_X12_bound.1 ∈ lw_good := mg_9 (List.mem_of_getElem? (i := 69) rfl) rfl
def m_X12_judge : MI := (yX12_judge, cX12_judge, 5, (some .int), [124, 134, 135, 136, 137, 138, 139, 140, 141, 142, 143, 144, 145, 146, 147, 148, 149, 150, 154, 155, 156, 157, 158, 159], false)
theorem ok_X12_judge : MOk m_X12_judge 2 := ⟨mg_9 (List.mem_of_getElem? (i := 75) rfl) rfl, mg_1 (List.mem_of_getElem? (i := 14) rfl) rfl, ⟨by decide +kernel, by decide +kernel, by decide +kernel⟩, by decide, by decide +kernel⟩
theorem in_X12_judge : Cond.instanceMethod m_X12_judge.1 ∈ lw_good := mg_9 (List.mem_of_getElem? (i := 73) rfl) rfl
def m_X12_entry : MI := (yX12_entry, cX12_entry, 9, (some .int), [124, 125], false)
theorem ok_X12_entry : MOk m_X12_entry 7 := ⟨mg_9 (List.mem_of_getElem? (i := 79) rfl) rfl, mg_1 (List.mem_of_getElem? (i := 14) rfl) rfl, ⟨by decide +kernel, by decide +kernel, by decide +kernel⟩, by decide, by decide +kernel⟩
theorem in_X12_entry : Cond.instanceMethod m_X12_entry.1 ∈ lw_good := mg_9 (List.mem_of_getElem? (i := 77) rfl) rfl
def m_X12_isEntry : MI := (yX12_isEntry, cX12_isEntry, 2, (some .boolean), [], false)
theorem ok_X12_isEntry : MOk m_X12_isEntry 1 := ⟨mg_9 (List.mem_of_getElem? (i := 90) rfl) rfl, mg_1 (List.mem_of_getElem? (i := 14) rfl) rfl, ⟨by decide +kernel, by decide +kernel, by decide +kernel⟩, by decide, by decide +kernel⟩
theorem in_X12_isEntry : Cond.instanceMethod m_X12_isEntry.1 ∈ lw_good := mg_9 (List.mem_of_getElem? (i := 89) rfl) rfl
def m_X12_entryAt : MI := (yX12_entryAt, cX12_entryAt, 3, (some .int), [], false)
theorem ok_X12_entryAt : MOk m_X12_entryAt 2 := ⟨mg_9 (List.mem_of_getElem? (i := 94) rfl) rfl, mg_1 (List.mem_of_getElem? (i := 14) rfl) rfl, ⟨by decide +kernel, by decide +kernel, by decide +kernel⟩, by decide, by decide +kernel⟩
theorem in_X12_entryAt : Cond.instanceMethod m_X12_entryAt.1 ∈ lw_good := mg_9 (List.mem_of_getElem? (i := 93) rfl) rfl
def m_X12_mark : MI := (yX12_mark, cX12_mark, 4, (some .int), [124, 125], false)
theorem ok_X12_mark : MOk m_X12_mark 3 := ⟨mg_9 (List.mem_of_getElem? (i := 85) rfl) rfl, mg_1 (List.mem_of_getElem? (i := 14) rfl) rfl, ⟨by decide +kernel, by decide +kernel, by decide +kernel⟩, by decide, by decide +kernel⟩
theorem in_X12_mark : Cond.instanceMethod m_X12_mark.1 ∈ lw_good := mg_9 (List.mem_of_getElem? (i := 83) rfl) rfl
def m_X12_areOne : MI := (yX12_areOne, cX12_areOne, 6, (some .boolean), [], false)
theorem ok_X12_areOne : MOk m_X12_areOne 2 := ⟨mg_9 (List.mem_of_getElem? (i := 106) rfl) rfl, mg_1 (List.mem_of_getElem? (i := 14) rfl) rfl, ⟨by decide +kernel, by decide +kernel, by decide +kernel⟩, by decide, by decide +kernel⟩
theorem in_X12_areOne : Cond.instanceMethod m_X12_areOne.1 ∈ lw_good := mg_9 (List.mem_of_getElem? (i := 105) rfl) rfl
def m_X12_findFamilies : MI := (yX12_findFamilies, cX12_findFamilies, 6, none, [160], false)
theorem ok_X12_findFamilies : MOk m_X12_findFamilies 1 := ⟨mg_9 (List.mem_of_getElem? (i := 102) rfl) rfl, mg_1 (List.mem_of_getElem? (i := 14) rfl) rfl, ⟨by decide +kernel, by decide +kernel, by decide +kernel⟩, by decide, by decide +kernel⟩
theorem in_X12_findFamilies : Cond.instanceMethod m_X12_findFamilies.1 ∈ lw_good := mg_9 (List.mem_of_getElem? (i := 101) rfl) rfl
def m_X12_family : MI := (yX12_family, cX12_family, 3, (some .int), [124, 160], false)
theorem ok_X12_family : MOk m_X12_family 2 := ⟨mg_9 (List.mem_of_getElem? (i := 98) rfl) rfl, mg_1 (List.mem_of_getElem? (i := 14) rfl) rfl, ⟨by decide +kernel, by decide +kernel, by decide +kernel⟩, by decide, by decide +kernel⟩
theorem in_X12_family : Cond.instanceMethod m_X12_family.1 ∈ lw_good := mg_9 (List.mem_of_getElem? (i := 96) rfl) rfl
def m_X12_setEntry : MI := (yX12_setEntry, cX12_setEntry, 3, none, [136], false)
theorem ok_X12_setEntry : MOk m_X12_setEntry 2 := ⟨mg_9 (List.mem_of_getElem? (i := 118) rfl) rfl, mg_1 (List.mem_of_getElem? (i := 14) rfl) rfl, ⟨by decide +kernel, by decide +kernel, by decide +kernel⟩, by decide, by decide +kernel⟩
theorem in_X12_setEntry : Cond.instanceMethod m_X12_setEntry.1 ∈ lw_good := mg_9 (List.mem_of_getElem? (i := 117) rfl) rfl
def m_X12_reckonPoints : MI := (yX12_reckonPoints, cX12_reckonPoints, 3, (some .long), [124, 134, 135, 136, 137], false)
theorem ok_X12_reckonPoints : MOk m_X12_reckonPoints 2 := ⟨mg_9 (List.mem_of_getElem? (i := 114) rfl) rfl, mg_1 (List.mem_of_getElem? (i := 14) rfl) rfl, ⟨by decide +kernel, by decide +kernel, by decide +kernel⟩, by decide, by decide +kernel⟩
theorem in_X12_reckonPoints : Cond.instanceMethod m_X12_reckonPoints.1 ∈ lw_good := mg_9 (List.mem_of_getElem? (i := 113) rfl) rfl
def m_X12_shown : MI := (yX12_shown, cX12_shown, 2, (some .int), [], false)
theorem ok_X12_shown : MOk m_X12_shown 1 := ⟨mg_9 (List.mem_of_getElem? (i := 121) rfl) rfl, mg_1 (List.mem_of_getElem? (i := 14) rfl) rfl, ⟨by decide +kernel, by decide +kernel, by decide +kernel⟩, by decide, by decide +kernel⟩
theorem is_X12_shown : Cond.static m_X12_shown.1 ∈ lw_good := mg_9 (List.mem_of_getElem? (i := 120) rfl) rfl
def m_X12_points : MI := (yX12_points, cX12_points, 4, (some .int), [124, 134, 135, 136, 137, 138, 139], false)
theorem ok_X12_points : MOk m_X12_points 3 := ⟨mg_9 (List.mem_of_getElem? (i := 110) rfl) rfl, mg_1 (List.mem_of_getElem? (i := 14) rfl) rfl, ⟨by decide +kernel, by decide +kernel, by decide +kernel⟩, by decide, by decide +kernel⟩
theorem in_X12_points : Cond.instanceMethod m_X12_points.1 ∈ lw_good := mg_9 (List.mem_of_getElem? (i := 108) rfl) rfl
def m_X12_standsAhead : MI := (yX12_standsAhead, cX12_standsAhead, 3, (some .boolean), [], false)
theorem ok_X12_standsAhead : MOk m_X12_standsAhead 2 := ⟨mg_9 (List.mem_of_getElem? (i := 135) rfl) rfl, mg_1 (List.mem_of_getElem? (i := 14) rfl) rfl, ⟨by decide +kernel, by decide +kernel, by decide +kernel⟩, by decide, by decide +kernel⟩
theorem in_X12_standsAhead : Cond.instanceMethod m_X12_standsAhead.1 ∈ lw_good := mg_9 (List.mem_of_getElem? (i := 134) rfl) rfl
def m_X12_findList : MI := (yX12_findList, cX12_findList, 5, none, [124, 134, 135, 136, 137, 161, 162], false)
theorem ok_X12_findList : MOk m_X12_findList 2 := ⟨mg_9 (List.mem_of_getElem? (i := 131) rfl) rfl, mg_1 (List.mem_of_getElem? (i := 14) rfl) rfl, ⟨by decide +kernel, by decide +kernel, by decide +kernel⟩, by decide, by decide +kernel⟩
theorem in_X12_findList : Cond.instanceMethod m_X12_findList.1 ∈ lw_good := mg_9 (List.mem_of_getElem? (i := 130) rfl) rfl
def m_X12_order : MI := (yX12_order, cX12_order, 5, (some .int), [124, 134, 135, 136, 137, 138, 139, 161, 162], false)
theorem ok_X12_order : MOk m_X12_order 4 := ⟨mg_9 (List.mem_of_getElem? (i := 127) rfl) rfl, mg_1 (List.mem_of_getElem? (i := 14) rfl) rfl, ⟨by decide +kernel, by decide +kernel, by decide +kernel⟩, by decide, by decide +kernel⟩
theorem in_X12_order : Cond.instanceMethod m_X12_order.1 ∈ lw_good := mg_9 (List.mem_of_getElem? (i := 125) rfl) rfl
def m_X12_beside : MI := (yX12_beside, cX12_beside, 9, (some .int), [124, 134, 135, 136, 137, 138, 139, 161, 162, 163], false)
theorem ok_X12_beside : MOk m_X12_beside 4 := ⟨mg_9 (List.mem_of_getElem? (i := 139) rfl) rfl, mg_1 (List.mem_of_getElem? (i := 14) rfl) rfl, ⟨by decide +kernel, by decide +kernel, by decide +kernel⟩, by decide, by decide +kernel⟩
theorem in_X12_beside : Cond.instanceMethod m_X12_beside.1 ∈ lw_good := mg_9 (List.mem_of_getElem? (i := 137) rfl) rfl
def m_X12_findHomes : MI := (yX12_findHomes, cX12_findHomes, 4, none, [124, 134, 135, 136, 137, 138, 139, 140, 141, 142, 143, 144, 145, 146, 147, 148, 149, 150, 164, 165], false)
theorem ok_X12_findHomes : MOk m_X12_findHomes 1 := ⟨mg_9 (List.mem_of_getElem? (i := 147) rfl) rfl, mg_1 (List.mem_of_getElem? (i := 14) rfl) rfl, ⟨by decide +kernel, by decide +kernel, by decide +kernel⟩, by decide, by decide +kernel⟩
theorem in_X12_findHomes : Cond.instanceMethod m_X12_findHomes.1 ∈ lw_good := mg_9 (List.mem_of_getElem? (i := 146) rfl) rfl
def m_X12_isHome : MI := (yX12_isHome, cX12_isHome, 3, (some .boolean), [], false)
theorem ok_X12_isHome : MOk m_X12_isHome 2 := ⟨mg_9 (List.mem_of_getElem? (i := 156) rfl) rfl, mg_1 (List.mem_of_getElem? (i := 14) rfl) rfl, ⟨by decide +kernel, by decide +kernel, by decide +kernel⟩, by decide, by decide +kernel⟩
theorem in_X12_isHome : Cond.instanceMethod m_X12_isHome.1 ∈ lw_good := mg_9 (List.mem_of_getElem? (i := 155) rfl) rfl
def m_X12_stayAt : MI := (yX12_stayAt, cX12_stayAt, 2, (some .int), [], false)
theorem ok_X12_stayAt : MOk m_X12_stayAt 1 := ⟨mg_9 (List.mem_of_getElem? (i := 164) rfl) rfl, mg_1 (List.mem_of_getElem? (i := 14) rfl) rfl, ⟨by decide +kernel, by decide +kernel, by decide +kernel⟩, by decide, by decide +kernel⟩
theorem in_X12_stayAt : Cond.instanceMethod m_X12_stayAt.1 ∈ lw_good := mg_9 (List.mem_of_getElem? (i := 163) rfl) rfl
def m_X12_livesIn : MI := (yX12_livesIn, cX12_livesIn, 4, (some .boolean), [], false)
theorem ok_X12_livesIn : MOk m_X12_livesIn 2 := ⟨mg_9 (List.mem_of_getElem? (i := 172) rfl) rfl, mg_1 (List.mem_of_getElem? (i := 14) rfl) rfl, ⟨by decide +kernel, by decide +kernel, by decide +kernel⟩, by decide, by decide +kernel⟩
theorem in_X12_livesIn : Cond.instanceMethod m_X12_livesIn.1 ∈ lw_good := mg_9 (List.mem_of_getElem? (i := 171) rfl) rfl
def m_X12_squatsIn : MI := (yX12_squatsIn, cX12_squatsIn, 4, (some .boolean), [], false)
theorem ok_X12_squatsIn : MOk m_X12_squatsIn 2 := ⟨mg_9 (List.mem_of_getElem? (i := 176) rfl) rfl, mg_1 (List.mem_of_getElem? (i := 14) rfl) rfl, ⟨by decide +kernel, by decide +kernel, by decide +kernel⟩, by decide, by decide +kernel⟩
theorem in_X12_squatsIn : Cond.instanceMethod m_X12_squatsIn.1 ∈ lw_good := mg_9 (List.mem_of_getElem? (i := 175) rfl) rfl
def m_X12_isIn : MI := (yX12_isIn, cX12_isIn, 3, (some .boolean), [], false)
theorem ok_X12_isIn : MOk m_X12_isIn 2 := ⟨mg_9 (List.mem_of_getElem? (i := 168) rfl) rfl, mg_1 (List.mem_of_getElem? (i := 14) rfl) rfl, ⟨by decide +kernel, by decide +kernel, by decide +kernel⟩, by decide, by decide +kernel⟩
theorem in_X12_isIn : Cond.instanceMethod m_X12_isIn.1 ∈ lw_good := mg_9 (List.mem_of_getElem? (i := 167) rfl) rfl
def m_X12_isFree : MI := (yX12_isFree, cX12_isFree, 5, (some .boolean), [], false)
theorem ok_X12_isFree : MOk m_X12_isFree 2 := ⟨mg_9 (List.mem_of_getElem? (i := 160) rfl) rfl, mg_1 (List.mem_of_getElem? (i := 14) rfl) rfl, ⟨by decide +kernel, by decide +kernel, by decide +kernel⟩, by decide, by decide +kernel⟩
theorem in_X12_isFree : Cond.instanceMethod m_X12_isFree.1 ∈ lw_good := mg_9 (List.mem_of_getElem? (i := 159) rfl) rfl
def m_X12_stayOf : MI := (yX12_stayOf, cX12_stayOf, 7, (some .int), [], false)
theorem ok_X12_stayOf : MOk m_X12_stayOf 3 := ⟨mg_9 (List.mem_of_getElem? (i := 184) rfl) rfl, mg_1 (List.mem_of_getElem? (i := 14) rfl) rfl, ⟨by decide +kernel, by decide +kernel, by decide +kernel⟩, by decide, by decide +kernel⟩
theorem in_X12_stayOf : Cond.instanceMethod m_X12_stayOf.1 ∈ lw_good := mg_9 (List.mem_of_getElem? (i := 183) rfl) rfl
def m_X12_addStay : MI := (yX12_addStay, cX12_addStay, 8, none, [125], false)
theorem ok_X12_addStay : MOk m_X12_addStay 6 := ⟨mg_9 (List.mem_of_getElem? (i := 188) rfl) rfl, mg_1 (List.mem_of_getElem? (i := 14) rfl) rfl, ⟨by decide +kernel, by decide +kernel, by decide +kernel⟩, by decide, by decide +kernel⟩
theorem in_X12_addStay : Cond.instanceMethod m_X12_addStay.1 ∈ lw_good := mg_9 (List.mem_of_getElem? (i := 187) rfl) rfl
def m_X12_whom : MI := (yX12_whom, cX12_whom, 7, (some .int), [124, 134, 135, 136, 137, 161, 162], false)
theorem ok_X12_whom : MOk m_X12_whom 2 := ⟨mg_9 (List.mem_of_getElem? (i := 180) rfl) rfl, mg_1 (List.mem_of_getElem? (i := 14) rfl) rfl, ⟨by decide +kernel, by decide +kernel, by decide +kernel⟩, by decide, by decide +kernel⟩
theorem in_X12_whom : Cond.instanceMethod m_X12_whom.1 ∈ lw_good := mg_9 (List.mem_of_getElem? (i := 179) rfl) rfl
def m_X12_offerOne : MI := (yX12_offerOne, cX12_offerOne, 9, (some .int), [124, 125, 134, 135, 136, 137, 161, 162], false)
theorem ok_X12_offerOne : MOk m_X12_offerOne 2 := ⟨mg_9 (List.mem_of_getElem? (i := 152) rfl) rfl, mg_1 (List.mem_of_getElem? (i := 14) rfl) rfl, ⟨by decide +kernel, by decide +kernel, by decide +kernel⟩, by decide, by decide +kernel⟩
theorem in_X12_offerOne : Cond.instanceMethod m_X12_offerOne.1 ∈ lw_good := mg_9 (List.mem_of_getElem? (i := 151) rfl) rfl
def m_X12_offer : MI := (yX12_offer, cX12_offer, 4, (some .int), [124, 125, 134, 135, 136, 137, 138, 139, 140, 141, 142, 143, 144, 145, 146, 147, 148, 149, 150, 160, 161, 162, 164, 165], false)
theorem ok_X12_offer : MOk m_X12_offer 1 := ⟨mg_9 (List.mem_of_getElem? (i := 143) rfl) rfl, mg_1 (List.mem_of_getElem? (i := 14) rfl) rfl, ⟨by decide +kernel, by decide +kernel, by decide +kernel⟩, by decide, by decide +kernel⟩
theorem in_X12_offer : Cond.instanceMethod m_X12_offer.1 ∈ lw_good := mg_9 (List.mem_of_getElem? (i := 141) rfl) rfl
def m_X12_livingIn : MI := (yX12_livingIn, cX12_livingIn, 5, (some .int), [], false)
theorem ok_X12_livingIn : MOk m_X12_livingIn 2 := ⟨mg_9 (List.mem_of_getElem? (i := 196) rfl) rfl, mg_1 (List.mem_of_getElem? (i := 14) rfl) rfl, ⟨by decide +kernel, by decide +kernel, by decide +kernel⟩, by decide, by decide +kernel⟩
theorem in_X12_livingIn : Cond.instanceMethod m_X12_livingIn.1 ∈ lw_good := mg_9 (List.mem_of_getElem? (i := 195) rfl) rfl
def m_X12_lives : MI := (yX12_lives, cX12_lives, 5, (some .int), [124], false)
theorem ok_X12_lives : MOk m_X12_lives 3 := ⟨mg_9 (List.mem_of_getElem? (i := 192) rfl) rfl, mg_1 (List.mem_of_getElem? (i := 14) rfl) rfl, ⟨by decide +kernel, by decide +kernel, by decide +kernel⟩, by decide, by decide +kernel⟩
theorem in_X12_lives : Cond.instanceMethod m_X12_lives.1 ∈ lw_good := mg_9 (List.mem_of_getElem? (i := 190) rfl) rfl
def m_X12_roof : MI := (yX12_roof, cX12_roof, 4, (some .int), [124, 160], false)
theorem ok_X12_roof : MOk m_X12_roof 2 := ⟨mg_9 (List.mem_of_getElem? (i := 200) rfl) rfl, mg_1 (List.mem_of_getElem? (i := 14) rfl) rfl, ⟨by decide +kernel, by decide +kernel, by decide +kernel⟩, by decide, by decide +kernel⟩
theorem in_X12_roof : Cond.instanceMethod m_X12_roof.1 ∈ lw_good := mg_9 (List.mem_of_getElem? (i := 198) rfl) rfl
def m_X12_squat : MI := (yX12_squat, cX12_squat, 5, (some .int), [124, 125, 134, 135, 136, 137, 138, 139, 140, 141, 142, 143, 144, 145, 146, 147, 148, 149, 150, 160, 164, 165], false)
theorem ok_X12_squat : MOk m_X12_squat 3 := ⟨mg_9 (List.mem_of_getElem? (i := 204) rfl) rfl, mg_1 (List.mem_of_getElem? (i := 14) rfl) rfl, ⟨by decide +kernel, by decide +kernel, by decide +kernel⟩, by decide, by decide +kernel⟩
theorem in_X12_squat : Cond.instanceMethod m_X12_squat.1 ∈ lw_good := mg_9 (List.mem_of_getElem? (i := 202) rfl) rfl
def m_X12_out : MI := (yX12_out, cX12_out, 5, (some .int), [124, 125], false)
theorem ok_X12_out : MOk m_X12_out 2 := ⟨mg_9 (List.mem_of_getElem? (i := 208) rfl) rfl, mg_1 (List.mem_of_getElem? (i := 14) rfl) rfl, ⟨by decide +kernel, by decide +kernel, by decide +kernel⟩, by decide, by decide +kernel⟩
theorem in_X12_out : Cond.instanceMethod m_X12_out.1 ∈ lw_good := mg_9 (List.mem_of_getElem? (i := 206) rfl) rfl
def m_X12_rent : MI := (yX12_rent, cX12_rent, 5, (some .int), [124, 134, 135, 136, 137, 138, 139, 140, 141, 142, 143, 144, 145, 146, 147, 148, 149, 150, 164, 165], false)
theorem ok_X12_rent : MOk m_X12_rent 3 := ⟨mg_9 (List.mem_of_getElem? (i := 212) rfl) rfl, mg_1 (List.mem_of_getElem? (i := 14) rfl) rfl, ⟨by decide +kernel, by decide +kernel, by decide +kernel⟩, by decide, by decide +kernel⟩
theorem in_X12_rent : Cond.instanceMethod m_X12_rent.1 ∈ lw_good := mg_9 (List.mem_of_getElem? (i := 210) rfl) rfl
def m_X12_lodge : MI := (yX12_lodge, cX12_lodge, 5, (some .int), [124, 125], false)
theorem ok_X12_lodge : MOk m_X12_lodge 4 := ⟨mg_9 (List.mem_of_getElem? (i := 216) rfl) rfl, mg_1 (List.mem_of_getElem? (i := 14) rfl) rfl, ⟨by decide +kernel, by decide +kernel, by decide +kernel⟩, by decide, by decide +kernel⟩
theorem in_X12_lodge : Cond.instanceMethod m_X12_lodge.1 ∈ lw_good := mg_9 (List.mem_of_getElem? (i := 214) rfl) rfl
def m_X12_under : MI := (yX12_under, cX12_under, 7, (some .int), [124], false)
theorem ok_X12_under : MOk m_X12_under 2 := ⟨mg_9 (List.mem_of_getElem? (i := 220) rfl) rfl, mg_1 (List.mem_of_getElem? (i := 14) rfl) rfl, ⟨by decide +kernel, by decide +kernel, by decide +kernel⟩, by decide, by decide +kernel⟩
theorem in_X12_under : Cond.instanceMethod m_X12_under.1 ∈ lw_good := mg_9 (List.mem_of_getElem? (i := 218) rfl) rfl
def m_X12_isTarget : MI := (yX12_isTarget, cX12_isTarget, 2, (some .boolean), [], false)
theorem ok_X12_isTarget : MOk m_X12_isTarget 2 := ⟨mg_9 (List.mem_of_getElem? (i := 227) rfl) rfl, mg_1 (List.mem_of_getElem? (i := 14) rfl) rfl, ⟨by decide +kernel, by decide +kernel, by decide +kernel⟩, by decide, by decide +kernel⟩
theorem is_X12_isTarget : Cond.static m_X12_isTarget.1 ∈ lw_good := mg_9 (List.mem_of_getElem? (i := 226) rfl) rfl
def m_X12_target : MI := (yX12_target, cX12_target, 4, (some .int), [124, 125], false)
theorem ok_X12_target : MOk m_X12_target 3 := ⟨mg_9 (List.mem_of_getElem? (i := 224) rfl) rfl, mg_1 (List.mem_of_getElem? (i := 14) rfl) rfl, ⟨by decide +kernel, by decide +kernel, by decide +kernel⟩, by decide, by decide +kernel⟩
theorem in_X12_target : Cond.instanceMethod m_X12_target.1 ∈ lw_good := mg_9 (List.mem_of_getElem? (i := 222) rfl) rfl
def m_X12_street : MI := (yX12_street, cX12_street, 6, (some .int), [124, 125], false)
theorem ok_X12_street : MOk m_X12_street 5 := ⟨mg_9 (List.mem_of_getElem? (i := 235) rfl) rfl, mg_1 (List.mem_of_getElem? (i := 14) rfl) rfl, ⟨by decide +kernel, by decide +kernel, by decide +kernel⟩, by decide, by decide +kernel⟩
theorem in_X12_street : Cond.instanceMethod m_X12_street.1 ∈ lw_good := mg_9 (List.mem_of_getElem? (i := 234) rfl) rfl
def m_X12_claim : MI := (yX12_claim, cX12_claim, 5, (some .int), [124, 125], false)
theorem ok_X12_claim : MOk m_X12_claim 4 := ⟨mg_9 (List.mem_of_getElem? (i := 231) rfl) rfl, mg_1 (List.mem_of_getElem? (i := 14) rfl) rfl, ⟨by decide +kernel, by decide +kernel, by decide +kernel⟩, by decide, by decide +kernel⟩
theorem in_X12_claim : Cond.instanceMethod m_X12_claim.1 ∈ lw_good := mg_9 (List.mem_of_getElem? (i := 229) rfl) rfl
def m_X12_look : MI := (yX12_look, cX12_look, 5, (some .int), [124, 125], false)
theorem ok_X12_look : MOk m_X12_look 4 := ⟨mg_9 (List.mem_of_getElem? (i := 239) rfl) rfl, mg_1 (List.mem_of_getElem? (i := 14) rfl) rfl, ⟨by decide +kernel, by decide +kernel, by decide +kernel⟩, by decide, by decide +kernel⟩
theorem in_X12_look : Cond.instanceMethod m_X12_look.1 ∈ lw_good := mg_9 (List.mem_of_getElem? (i := 237) rfl) rfl
def m_X12_truth : MI := (yX12_truth, cX12_truth, 11, (some .int), [124], false)
theorem ok_X12_truth : MOk m_X12_truth 3 := ⟨mg_10 (List.mem_of_getElem? (i := 3) rfl) rfl, mg_1 (List.mem_of_getElem? (i := 14) rfl) rfl, ⟨by decide +kernel, by decide +kernel, by decide +kernel⟩, by decide, by decide +kernel⟩
theorem in_X12_truth : Cond.instanceMethod m_X12_truth.1 ∈ lw_good := mg_10 (List.mem_of_getElem? (i := 1) rfl) rfl
def m_X12_count : MI := (yX12_count, cX12_count, 2, (some .int), [124], false)
theorem ok_X12_count : MOk m_X12_count 1 := ⟨mg_10 (List.mem_of_getElem? (i := 7) rfl) rfl, mg_1 (List.mem_of_getElem? (i := 14) rfl) rfl, ⟨by decide +kernel, by decide +kernel, by decide +kernel⟩, by decide, by decide +kernel⟩
theorem in_X12_count : Cond.instanceMethod m_X12_count.1 ∈ lw_good := mg_10 (List.mem_of_getElem? (i := 5) rfl) rfl
def m_X12_status : MI := (yX12_status, cX12_status, 1, (some .int), [124], false)
theorem ok_X12_status : MOk m_X12_status 0 := ⟨mg_10 (List.mem_of_getElem? (i := 11) rfl) rfl, mg_1 (List.mem_of_getElem? (i := 14) rfl) rfl, ⟨by decide +kernel, by decide +kernel, by decide +kernel⟩, by decide, by decide +kernel⟩
theorem in_X12_status : Cond.instanceMethod m_X12_status.1 ∈ lw_good := mg_10 (List.mem_of_getElem? (i := 9) rfl) rfl
def m_J9_max_7cf53 : MI := (yJ9_max_7cf53, cJ9_max_7cf53, 2, (some .int), [], false)
def m_J9_max_f86c9 : MI := (yJ9_max_f86c9, cJ9_max_f86c9, 4, (some .long), [], false)
def m_J9_min_7cf53 : MI := (yJ9_min_7cf53, cJ9_min_7cf53, 2, (some .int), [], false)
def m_J9_min_f86c9 : MI := (yJ9_min_f86c9, cJ9_min_f86c9, 4, (some .long), [], false)
def m_J0_length_8abf5 : MI := (yJ0_length_8abf5, cJ0_length_8abf5, 1, (some .int), [], false)
theorem ok_J0_length_8abf5 : MOk m_J0_length_8abf5 0 := ⟨mg_3 (List.mem_of_getElem? (i := 94) rfl) rfl, mg_1 (List.mem_of_getElem? (i := 15) rfl) rfl, ⟨by decide +kernel, by decide +kernel, by decide +kernel⟩, by decide, by decide +kernel⟩
theorem in_J0_length_8abf5 : Cond.instanceMethod m_J0_length_8abf5.1 ∈ lw_good := mg_3 (List.mem_of_getElem? (i := 92) rfl) rfl
def m_J0_charAt_5068e : MI := (yJ0_charAt_5068e, cJ0_charAt_5068e, 2, (some .char), [], false)
theorem ok_J0_charAt_5068e : MOk m_J0_charAt_5068e 1 := ⟨mg_3 (List.mem_of_getElem? (i := 104) rfl) rfl, mg_1 (List.mem_of_getElem? (i := 15) rfl) rfl, ⟨by decide +kernel, by decide +kernel, by decide +kernel⟩, by decide, by decide +kernel⟩
theorem in_J0_charAt_5068e : Cond.instanceMethod m_J0_charAt_5068e.1 ∈ lw_good := mg_3 (List.mem_of_getElem? (i := 102) rfl) rfl
def m_J0_coder_7d493 : MI := (yJ0_coder_7d493, cJ0_coder_7d493, 1, (some .byte), [], false)
theorem ok_J0_coder_7d493 : MOk m_J0_coder_7d493 0 := ⟨mg_3 (List.mem_of_getElem? (i := 98) rfl) rfl, mg_1 (List.mem_of_getElem? (i := 15) rfl) rfl, ⟨by decide +kernel, by decide +kernel, by decide +kernel⟩, by decide, by decide +kernel⟩
theorem in_J0_coder_7d493 : Cond.instanceMethod m_J0_coder_7d493.1 ∈ lw_good := mg_3 (List.mem_of_getElem? (i := 96) rfl) rfl
def m_J0_isLatin1_aae02 : MI := (yJ0_isLatin1_aae02, cJ0_isLatin1_aae02, 1, (some .boolean), [], false)
theorem ok_J0_isLatin1_aae02 : MOk m_J0_isLatin1_aae02 0 := ⟨mg_3 (List.mem_of_getElem? (i := 108) rfl) rfl, mg_1 (List.mem_of_getElem? (i := 15) rfl) rfl, ⟨by decide +kernel, by decide +kernel, by decide +kernel⟩, by decide, by decide +kernel⟩
theorem in_J0_isLatin1_aae02 : Cond.instanceMethod m_J0_isLatin1_aae02.1 ∈ lw_good := mg_3 (List.mem_of_getElem? (i := 106) rfl) rfl
def m_J0_checkIndex_df160 : MI := (yJ0_checkIndex_df160, cJ0_checkIndex_df160, 2, none, [], false)
theorem ok_J0_checkIndex_df160 : MOk m_J0_checkIndex_df160 2 := ⟨mg_3 (List.mem_of_getElem? (i := 114) rfl) rfl, mg_1 (List.mem_of_getElem? (i := 15) rfl) rfl, ⟨by decide +kernel, by decide +kernel, by decide +kernel⟩, by decide, by decide +kernel⟩
theorem is_J0_checkIndex_df160 : Cond.static m_J0_checkIndex_df160.1 ∈ lw_good := mg_3 (List.mem_of_getElem? (i := 113) rfl) rfl
def m_J1_charAt_3b067 : MI := (yJ1_charAt_3b067, cJ1_charAt_3b067, 2, (some .char), [], false)
theorem ok_J1_charAt_3b067 : MOk m_J1_charAt_3b067 2 := ⟨mg_3 (List.mem_of_getElem? (i := 111) rfl) rfl, mg_1 (List.mem_of_getElem? (i := 16) rfl) rfl, ⟨by decide +kernel, by decide +kernel, by decide +kernel⟩, by decide, by decide +kernel⟩
theorem is_J1_charAt_3b067 : Cond.static m_J1_charAt_3b067.1 ∈ lw_good := mg_3 (List.mem_of_getElem? (i := 110) rfl) rfl
def m_J2_getChar_3b067 : MI := (yJ2_getChar_3b067, cJ2_getChar_3b067, 2, (some .char), [], false)
theorem ok_J2_getChar_3b067 : MOk m_J2_getChar_3b067 2 := ⟨mg_3 (List.mem_of_getElem? (i := 132) rfl) rfl, mg_1 (List.mem_of_getElem? (i := 18) rfl) rfl, ⟨by decide +kernel, by decide +kernel, by decide +kernel⟩, by decide, by decide +kernel⟩
theorem is_J2_getChar_3b067 : Cond.static m_J2_getChar_3b067.1 ∈ lw_good := mg_3 (List.mem_of_getElem? (i := 131) rfl) rfl
def m_J2_length_9d52b : MI := (yJ2_length_9d52b, cJ2_length_9d52b, 1, (some .int), [], false)
theorem ok_J2_length_9d52b : MOk m_J2_length_9d52b 1 := ⟨mg_3 (List.mem_of_getElem? (i := 128) rfl) rfl, mg_1 (List.mem_of_getElem? (i := 18) rfl) rfl, ⟨by decide +kernel, by decide +kernel, by decide +kernel⟩, by decide, by decide +kernel⟩
theorem is_J2_length_9d52b : Cond.static m_J2_length_9d52b.1 ∈ lw_good := mg_3 (List.mem_of_getElem? (i := 127) rfl) rfl
def m_J2_charAt_3b067 : MI := (yJ2_charAt_3b067, cJ2_charAt_3b067, 2, (some .char), [], false)
theorem ok_J2_charAt_3b067 : MOk m_J2_charAt_3b067 2 := ⟨mg_3 (List.mem_of_getElem? (i := 122) rfl) rfl, mg_1 (List.mem_of_getElem? (i := 18) rfl) rfl, ⟨by decide +kernel, by decide +kernel, by decide +kernel⟩, by decide, by decide +kernel⟩
theorem is_J2_charAt_3b067 : Cond.static m_J2_charAt_3b067.1 ∈ lw_good := mg_3 (List.mem_of_getElem? (i := 121) rfl) rfl
def m_J2_checkIndex_2214a : MI := (yJ2_checkIndex_2214a, cJ2_checkIndex_2214a, 2, none, [], false)
theorem ok_J2_checkIndex_2214a : MOk m_J2_checkIndex_2214a 2 := ⟨mg_3 (List.mem_of_getElem? (i := 125) rfl) rfl, mg_1 (List.mem_of_getElem? (i := 18) rfl) rfl, ⟨by decide +kernel, by decide +kernel, by decide +kernel⟩, by decide, by decide +kernel⟩
theorem is_J2_checkIndex_2214a : Cond.static m_J2_checkIndex_2214a.1 ∈ lw_good := mg_3 (List.mem_of_getElem? (i := 124) rfl) rfl
def m_J7_fill_53178 : MI := (yJ7_fill_53178, cJ7_fill_53178, 4, none, [], false)
theorem ok_J7_fill_53178 : MOk m_J7_fill_53178 2 := ⟨mg_1 (List.mem_of_getElem? (i := 199) rfl) rfl, mg_1 (List.mem_of_getElem? (i := 7) rfl) rfl, ⟨by decide +kernel, by decide +kernel, by decide +kernel⟩, by decide, by decide +kernel⟩
theorem is_J7_fill_53178 : Cond.static m_J7_fill_53178.1 ∈ lw_good := mg_1 (List.mem_of_getElem? (i := 198) rfl) rfl
def m_J7_copyOf_59c91 : MI := (yJ7_copyOf_59c91, cJ7_copyOf_59c91, 3, (some (.array .int)), [], true)
theorem ok_J7_copyOf_59c91 : MOk m_J7_copyOf_59c91 2 := ⟨mg_3 (List.mem_of_getElem? (i := 229) rfl) rfl, mg_1 (List.mem_of_getElem? (i := 7) rfl) rfl, ⟨by decide +kernel, by decide +kernel, by decide +kernel⟩, by decide, by decide +kernel⟩
theorem is_J7_copyOf_59c91 : Cond.static m_J7_copyOf_59c91.1 ∈ lw_good := mg_3 (List.mem_of_getElem? (i := 228) rfl) rfl
def m_J3_checkIndex_8e157 : MI := (yJ3_checkIndex_8e157, cJ3_checkIndex_8e157, 3, (some .int), [], false)
theorem ok_J3_checkIndex_8e157 : MOk m_J3_checkIndex_8e157 3 := ⟨mg_3 (List.mem_of_getElem? (i := 119) rfl) rfl, mg_1 (List.mem_of_getElem? (i := 17) rfl) rfl, ⟨by decide +kernel, by decide +kernel, by decide +kernel⟩, by decide, by decide +kernel⟩
theorem is_J3_checkIndex_8e157 : Cond.static m_J3_checkIndex_8e157.1 ∈ lw_good := mg_3 (List.mem_of_getElem? (i := 118) rfl) rfl
def m_L_law : MI := (yL_law, cL_law, 4, (some .boolean), [0, 1, 2, 3, 4, 5, 6, 7, 8, 9, 10, 11, 12, 13, 14, 15, 16, 17, 18, 19, 20, 21, 22, 23, 24, 25, 26, 27, 28, 29, 30, 31, 32, 33, 34, 35, 36, 37, 38, 39, 40, 41, 42, 43, 44, 45, 46, 47, 48, 49, 50, 51, 52, 53, 54, 55, 56, 57, 58, 59, 60, 61, 62, 63, 64, 65, 66, 67, 68, 69, 70, 71, 72, 73, 74, 75, 76, 77, 78, 79, 81, 82, 83, 84, 85, 86, 87, 88, 89, 90, 91, 92, 93, 94, 95, 96, 97, 98, 99, 100, 101, 102, 103, 104, 105, 106, 107, 108, 109, 110, 111, 112, 113, 114, 115, 116, 117, 118, 120, 121, 122, 123, 124, 125, 126, 127, 128, 129, 130, 131, 132, 133, 134, 135, 136, 137, 138, 139, 140, 141, 142, 143, 144, 145, 146, 147, 148, 149, 150, 151, 152, 153, 154, 155, 156, 157, 158, 159, 160, 161, 162, 163, 164, 165], true)
theorem se_J0_charAt_5068e : Cond.selects m_J0_charAt_5068e.1.cls m_J0_charAt_5068e.1 m_J0_charAt_5068e.1 ∈ lw_good := mg_3 (List.mem_of_getElem? (i := 103) rfl) rfl
theorem se_J0_coder_7d493 : Cond.selects m_J0_coder_7d493.1.cls m_J0_coder_7d493.1 m_J0_coder_7d493.1 ∈ lw_good := mg_3 (List.mem_of_getElem? (i := 97) rfl) rfl
theorem se_J0_isLatin1_aae02 : Cond.selects m_J0_isLatin1_aae02.1.cls m_J0_isLatin1_aae02.1 m_J0_isLatin1_aae02.1 ∈ lw_good := mg_3 (List.mem_of_getElem? (i := 107) rfl) rfl
theorem se_J0_length_8abf5 : Cond.selects m_J0_length_8abf5.1.cls m_J0_length_8abf5.1 m_J0_length_8abf5.1 ∈ lw_good := mg_3 (List.mem_of_getElem? (i := 93) rfl) rfl
theorem se_X10_bringDeliveries : Cond.selects m_X10_bringDeliveries.1.cls m_X10_bringDeliveries.1 m_X10_bringDeliveries.1 ∈ lw_good := mg_s (List.mem_of_getElem? (i := 25) rfl) rfl
theorem se_X10_bringGangs : Cond.selects m_X10_bringGangs.1.cls m_X10_bringGangs.1 m_X10_bringGangs.1 ∈ lw_good := mg_s (List.mem_of_getElem? (i := 26) rfl) rfl
theorem se_X10_bringStarts : Cond.selects m_X10_bringStarts.1.cls m_X10_bringStarts.1 m_X10_bringStarts.1 ∈ lw_good := mg_s (List.mem_of_getElem? (i := 27) rfl) rfl
theorem se_X10_doBatches : Cond.selects m_X10_doBatches.1.cls m_X10_doBatches.1 m_X10_doBatches.1 ∈ lw_good := mg_s (List.mem_of_getElem? (i := 28) rfl) rfl
theorem se_X10_dropStart : Cond.selects m_X10_dropStart.1.cls m_X10_dropStart.1 m_X10_dropStart.1 ∈ lw_good := mg_5 (List.mem_of_getElem? (i := 86) rfl) rfl
theorem se_X10_firstKind : Cond.selects m_X10_firstKind.1.cls m_X10_firstKind.1 m_X10_firstKind.1 ∈ lw_good := mg_s (List.mem_of_getElem? (i := 31) rfl) rfl
theorem se_X10_licencesFor : Cond.selects m_X10_licencesFor.1.cls m_X10_licencesFor.1 m_X10_licencesFor.1 ∈ lw_good := mg_s (List.mem_of_getElem? (i := 30) rfl) rfl
theorem se_X10_lineUp : Cond.selects m_X10_lineUp.1.cls m_X10_lineUp.1 m_X10_lineUp.1 ∈ lw_good := mg_s (List.mem_of_getElem? (i := 29) rfl) rfl
theorem se_X10_needsAt : Cond.selects m_X10_needsAt.1.cls m_X10_needsAt.1 m_X10_needsAt.1 ∈ lw_good := mg_s (List.mem_of_getElem? (i := 33) rfl) rfl
theorem se_X10_passWeek : Cond.selects m_X10_passWeek.1.cls m_X10_passWeek.1 m_X10_passWeek.1 ∈ lw_good := mg_4 (List.mem_of_getElem? (i := 193) rfl) rfl
theorem se_X10_prepare : Cond.selects m_X10_prepare.1.cls m_X10_prepare.1 m_X10_prepare.1 ∈ lw_good := mg_4 (List.mem_of_getElem? (i := 161) rfl) rfl
theorem se_X10_serve : Cond.selects m_X10_serve.1.cls m_X10_serve.1 m_X10_serve.1 ∈ lw_good := mg_s (List.mem_of_getElem? (i := 32) rfl) rfl
theorem se_X10_takeNeeds : Cond.selects m_X10_takeNeeds.1.cls m_X10_takeNeeds.1 m_X10_takeNeeds.1 ∈ lw_good := mg_s (List.mem_of_getElem? (i := 34) rfl) rfl
theorem se_X10_tellStart : Cond.selects m_X10_tellStart.1.cls m_X10_tellStart.1 m_X10_tellStart.1 ∈ lw_good := mg_4 (List.mem_of_getElem? (i := 180) rfl) rfl
theorem se_X11_act : Cond.selects m_X11_act.1.cls m_X11_act.1 m_X11_act.1 ∈ lw_good := mg_3 (List.mem_of_getElem? (i := 54) rfl) rfl
theorem se_X11_answer : Cond.selects m_X11_answer.1.cls m_X11_answer.1 m_X11_answer.1 ∈ lw_good := mg_s (List.mem_of_getElem? (i := 19) rfl) rfl
theorem se_X11_back : Cond.selects m_X11_back.1.cls m_X11_back.1 m_X11_back.1 ∈ lw_good := mg_6 (List.mem_of_getElem? (i := 162) rfl) rfl
theorem se_X11_beside : Cond.selects m_X11_beside.1.cls m_X11_beside.1 m_X11_beside.1 ∈ lw_good := mg_5 (List.mem_of_getElem? (i := 221) rfl) rfl
theorem se_X11_best : Cond.selects m_X11_best.1.cls m_X11_best.1 m_X11_best.1 ∈ lw_good := mg_5 (List.mem_of_getElem? (i := 44) rfl) rfl
theorem se_X11_bound : Cond.selects m_X11_bound.1.cls m_X11_bound.1 m_X11_bound.1 ∈ lw_good := mg_5 (List.mem_of_getElem? (i := 126) rfl) rfl
theorem se_X11_built : Cond.selects m_X11_built.1.cls m_X11_built.1 m_X11_built.1 ∈ lw_good := mg_5 (List.mem_of_getElem? (i := 5) rfl) rfl
theorem se_X11_chosen : Cond.selects m_X11_chosen.1.cls m_X11_chosen.1 m_X11_chosen.1 ∈ lw_good := mg_5 (List.mem_of_getElem? (i := 122) rfl) rfl
theorem se_X11_claim : Cond.selects m_X11_claim.1.cls m_X11_claim.1 m_X11_claim.1 ∈ lw_good := mg_6 (List.mem_of_getElem? (i := 118) rfl) rfl
theorem se_X11_clear : Cond.selects m_X11_clear.1.cls m_X11_clear.1 m_X11_clear.1 ∈ lw_good := mg_5 (List.mem_of_getElem? (i := 40) rfl) rfl
theorem se_X11_count : Cond.selects m_X11_count.1.cls m_X11_count.1 m_X11_count.1 ∈ lw_good := mg_6 (List.mem_of_getElem? (i := 166) rfl) rfl
theorem se_X11_counts : Cond.selects m_X11_counts.1.cls m_X11_counts.1 m_X11_counts.1 ∈ lw_good := mg_4 (List.mem_of_getElem? (i := 61) rfl) rfl
theorem se_X11_deliver : Cond.selects m_X11_deliver.1.cls m_X11_deliver.1 m_X11_deliver.1 ∈ lw_good := mg_4 (List.mem_of_getElem? (i := 91) rfl) rfl
theorem se_X11_end : Cond.selects m_X11_end.1.cls m_X11_end.1 m_X11_end.1 ∈ lw_good := mg_3 (List.mem_of_getElem? (i := 50) rfl) rfl
theorem se_X11_entry : Cond.selects m_X11_entry.1.cls m_X11_entry.1 m_X11_entry.1 ∈ lw_good := mg_5 (List.mem_of_getElem? (i := 145) rfl) rfl
theorem se_X11_family : Cond.selects m_X11_family.1.cls m_X11_family.1 m_X11_family.1 ∈ lw_good := mg_5 (List.mem_of_getElem? (i := 157) rfl) rfl
theorem se_X11_fault : Cond.selects m_X11_fault.1.cls m_X11_fault.1 m_X11_fault.1 ∈ lw_good := mg_4 (List.mem_of_getElem? (i := 39) rfl) rfl
theorem se_X11_feed : Cond.selects m_X11_feed.1.cls m_X11_feed.1 m_X11_feed.1 ∈ lw_good := mg_3 (List.mem_of_getElem? (i := 38) rfl) rfl
theorem se_X11_firstStart : Cond.selects m_X11_firstStart.1.cls m_X11_firstStart.1 m_X11_firstStart.1 ∈ lw_good := mg_s (List.mem_of_getElem? (i := 35) rfl) rfl
theorem se_X11_force : Cond.selects m_X11_force.1.cls m_X11_force.1 m_X11_force.1 ∈ lw_good := mg_4 (List.mem_of_getElem? (i := 43) rfl) rfl
theorem se_X11_gangs : Cond.selects m_X11_gangs.1.cls m_X11_gangs.1 m_X11_gangs.1 ∈ lw_good := mg_4 (List.mem_of_getElem? (i := 117) rfl) rfl
theorem se_X11_image : Cond.selects m_X11_image.1.cls m_X11_image.1 m_X11_image.1 ∈ lw_good := mg_6 (List.mem_of_getElem? (i := 148) rfl) rfl
theorem se_X11_isEntry : Cond.selects m_X11_isEntry.1.cls m_X11_isEntry.1 m_X11_isEntry.1 ∈ lw_good := mg_s (List.mem_of_getElem? (i := 40) rfl) rfl
theorem se_X11_isKnownEntry : Cond.selects m_X11_isKnownEntry.1.cls m_X11_isKnownEntry.1 m_X11_isKnownEntry.1 ∈ lw_good := mg_s (List.mem_of_getElem? (i := 41) rfl) rfl
theorem se_X11_isMoveWeek : Cond.selects m_X11_isMoveWeek.1.cls m_X11_isMoveWeek.1 m_X11_isMoveWeek.1 ∈ lw_good := mg_s (List.mem_of_getElem? (i := 45) rfl) rfl
theorem se_X11_isPlot : Cond.selects m_X11_isPlot.1.cls m_X11_isPlot.1 m_X11_isPlot.1 ∈ lw_good := mg_s (List.mem_of_getElem? (i := 22) rfl) rfl
theorem se_X11_judge : Cond.selects m_X11_judge.1.cls m_X11_judge.1 m_X11_judge.1 ∈ lw_good := mg_5 (List.mem_of_getElem? (i := 140) rfl) rfl
theorem se_X11_knock : Cond.selects m_X11_knock.1.cls m_X11_knock.1 m_X11_knock.1 ∈ lw_good := mg_5 (List.mem_of_getElem? (i := 30) rfl) rfl
theorem se_X11_knowing : Cond.selects m_X11_knowing.1.cls m_X11_knowing.1 m_X11_knowing.1 ∈ lw_good := mg_s (List.mem_of_getElem? (i := 24) rfl) rfl
theorem se_X11_lacks : Cond.selects m_X11_lacks.1.cls m_X11_lacks.1 m_X11_lacks.1 ∈ lw_good := mg_5 (List.mem_of_getElem? (i := 9) rfl) rfl
theorem se_X11_lives : Cond.selects m_X11_lives.1.cls m_X11_lives.1 m_X11_lives.1 ∈ lw_good := mg_6 (List.mem_of_getElem? (i := 62) rfl) rfl
theorem se_X11_lodge : Cond.selects m_X11_lodge.1.cls m_X11_lodge.1 m_X11_lodge.1 ∈ lw_good := mg_6 (List.mem_of_getElem? (i := 103) rfl) rfl
theorem se_X11_look : Cond.selects m_X11_look.1.cls m_X11_look.1 m_X11_look.1 ∈ lw_good := mg_6 (List.mem_of_getElem? (i := 127) rfl) rfl
theorem se_X11_mark : Cond.selects m_X11_mark.1.cls m_X11_mark.1 m_X11_mark.1 ∈ lw_good := mg_5 (List.mem_of_getElem? (i := 149) rfl) rfl
theorem se_X11_need : Cond.selects m_X11_need.1.cls m_X11_need.1 m_X11_need.1 ∈ lw_good := mg_4 (List.mem_of_getElem? (i := 83) rfl) rfl
theorem se_X11_offer : Cond.selects m_X11_offer.1.cls m_X11_offer.1 m_X11_offer.1 ∈ lw_good := mg_5 (List.mem_of_getElem? (i := 231) rfl) rfl
theorem se_X11_order : Cond.selects m_X11_order.1.cls m_X11_order.1 m_X11_order.1 ∈ lw_good := mg_5 (List.mem_of_getElem? (i := 207) rfl) rfl
theorem se_X11_out : Cond.selects m_X11_out.1.cls m_X11_out.1 m_X11_out.1 ∈ lw_good := mg_6 (List.mem_of_getElem? (i := 90) rfl) rfl
theorem se_X11_plot : Cond.selects m_X11_plot.1.cls m_X11_plot.1 m_X11_plot.1 ∈ lw_good := mg_4 (List.mem_of_getElem? (i := 121) rfl) rfl
theorem se_X11_points : Cond.selects m_X11_points.1.cls m_X11_points.1 m_X11_points.1 ∈ lw_good := mg_5 (List.mem_of_getElem? (i := 180) rfl) rfl
theorem se_X11_rent : Cond.selects m_X11_rent.1.cls m_X11_rent.1 m_X11_rent.1 ∈ lw_good := mg_6 (List.mem_of_getElem? (i := 96) rfl) rfl
theorem se_X11_roof : Cond.selects m_X11_roof.1.cls m_X11_roof.1 m_X11_roof.1 ∈ lw_good := mg_6 (List.mem_of_getElem? (i := 70) rfl) rfl
theorem se_X11_runFor : Cond.selects m_X11_runFor.1.cls m_X11_runFor.1 m_X11_runFor.1 ∈ lw_good := mg_s (List.mem_of_getElem? (i := 23) rfl) rfl
theorem se_X11_squat : Cond.selects m_X11_squat.1.cls m_X11_squat.1 m_X11_squat.1 ∈ lw_good := mg_6 (List.mem_of_getElem? (i := 79) rfl) rfl
theorem se_X11_start : Cond.selects m_X11_start.1.cls m_X11_start.1 m_X11_start.1 ∈ lw_good := mg_4 (List.mem_of_getElem? (i := 125) rfl) rfl
theorem se_X11_status : Cond.selects m_X11_status.1.cls m_X11_status.1 m_X11_status.1 ∈ lw_good := mg_6 (List.mem_of_getElem? (i := 170) rfl) rfl
theorem se_X11_stock : Cond.selects m_X11_stock.1.cls m_X11_stock.1 m_X11_stock.1 ∈ lw_good := mg_4 (List.mem_of_getElem? (i := 137) rfl) rfl
theorem se_X11_target : Cond.selects m_X11_target.1.cls m_X11_target.1 m_X11_target.1 ∈ lw_good := mg_6 (List.mem_of_getElem? (i := 111) rfl) rfl
theorem se_X11_truth : Cond.selects m_X11_truth.1.cls m_X11_truth.1 m_X11_truth.1 ∈ lw_good := mg_6 (List.mem_of_getElem? (i := 136) rfl) rfl
theorem se_X11_under : Cond.selects m_X11_under.1.cls m_X11_under.1 m_X11_under.1 ∈ lw_good := mg_6 (List.mem_of_getElem? (i := 107) rfl) rfl
theorem se_X11_wish : Cond.selects m_X11_wish.1.cls m_X11_wish.1 m_X11_wish.1 ∈ lw_good := mg_5 (List.mem_of_getElem? (i := 36) rfl) rfl
theorem se_X11_works : Cond.selects m_X11_works.1.cls m_X11_works.1 m_X11_works.1 ∈ lw_good := mg_4 (List.mem_of_getElem? (i := 113) rfl) rfl
theorem se_X12_act : Cond.selects m_X12_act.1.cls m_X12_act.1 m_X12_act.1 ∈ lw_good := mg_7 (List.mem_of_getElem? (i := 184) rfl) rfl
theorem se_X12_addFour : Cond.selects m_X12_addFour.1.cls m_X12_addFour.1 m_X12_addFour.1 ∈ lw_good := mg_s (List.mem_of_getElem? (i := 87) rfl) rfl
theorem se_X12_addStay : Cond.selects m_X12_addStay.1.cls m_X12_addStay.1 m_X12_addStay.1 ∈ lw_good := mg_s (List.mem_of_getElem? (i := 125) rfl) rfl
theorem se_X12_areOne : Cond.selects m_X12_areOne.1.cls m_X12_areOne.1 m_X12_areOne.1 ∈ lw_good := mg_s (List.mem_of_getElem? (i := 110) rfl) rfl
theorem se_X12_atLeastNought : Cond.selects m_X12_atLeastNought.1.cls m_X12_atLeastNought.1 m_X12_atLeastNought.1 ∈ lw_good := mg_s (List.mem_of_getElem? (i := 85) rfl) rfl
theorem se_X12_back : Cond.selects m_X12_back.1.cls m_X12_back.1 m_X12_back.1 ∈ lw_good := mg_7 (List.mem_of_getElem? (i := 164) rfl) rfl
theorem se_X12_begin : Cond.selects m_X12_begin.1.cls m_X12_begin.1 m_X12_begin.1 ∈ lw_good := mg_s (List.mem_of_getElem? (i := 53) rfl) rfl
theorem se_X12_beginRun : Cond.selects m_X12_beginRun.1.cls m_X12_beginRun.1 m_X12_beginRun.1 ∈ lw_good := mg_s (List.mem_of_getElem? (i := 89) rfl) rfl
theorem se_X12_behindBracket : Cond.selects m_X12_behindBracket.1.cls m_X12_behindBracket.1 m_X12_behindBracket.1 ∈ lw_good := mg_s (List.mem_of_getElem? (i := 75) rfl) rfl
theorem se_X12_behindSum : Cond.selects m_X12_behindSum.1.cls m_X12_behindSum.1 m_X12_behindSum.1 ∈ lw_good := mg_s (List.mem_of_getElem? (i := 72) rfl) rfl
theorem se_X12_behindTest : Cond.selects m_X12_behindTest.1.cls m_X12_behindTest.1 m_X12_behindTest.1 ∈ lw_good := mg_s (List.mem_of_getElem? (i := 77) rfl) rfl
theorem se_X12_beside : Cond.selects m_X12_beside.1.cls m_X12_beside.1 m_X12_beside.1 ∈ lw_good := mg_9 (List.mem_of_getElem? (i := 138) rfl) rfl
theorem se_X12_best : Cond.selects m_X12_best.1.cls m_X12_best.1 m_X12_best.1 ∈ lw_good := mg_9 (List.mem_of_getElem? (i := 50) rfl) rfl
theorem se_X12_bound : Cond.selects m_X12_bound.1.cls m_X12_bound.1 m_X12_bound.1 ∈ lw_good := mg_9 (List.mem_of_getElem? (i := 70) rfl) rfl
theorem se_X12_built : Cond.selects m_X12_built.1.cls m_X12_built.1 m_X12_built.1 ∈ lw_good := mg_9 (List.mem_of_getElem? (i := 25) rfl) rfl
theorem se_X12_canTake : Cond.selects m_X12_canTake.1.cls m_X12_canTake.1 m_X12_canTake.1 ∈ lw_good := mg_s (List.mem_of_getElem? (i := 101) rfl) rfl
theorem se_X12_choice : Cond.selects m_X12_choice.1.cls m_X12_choice.1 m_X12_choice.1 ∈ lw_good := mg_s (List.mem_of_getElem? (i := 61) rfl) rfl
theorem se_X12_chosen : Cond.selects m_X12_chosen.1.cls m_X12_chosen.1 m_X12_chosen.1 ∈ lw_good := mg_9 (List.mem_of_getElem? (i := 66) rfl) rfl
theorem se_X12_claim : Cond.selects m_X12_claim.1.cls m_X12_claim.1 m_X12_claim.1 ∈ lw_good := mg_9 (List.mem_of_getElem? (i := 230) rfl) rfl
theorem se_X12_clear : Cond.selects m_X12_clear.1.cls m_X12_clear.1 m_X12_clear.1 ∈ lw_good := mg_9 (List.mem_of_getElem? (i := 46) rfl) rfl
theorem se_X12_councilOf : Cond.selects m_X12_councilOf.1.cls m_X12_councilOf.1 m_X12_councilOf.1 ∈ lw_good := mg_s (List.mem_of_getElem? (i := 92) rfl) rfl
theorem se_X12_count : Cond.selects m_X12_count.1.cls m_X12_count.1 m_X12_count.1 ∈ lw_good := mg_10 (List.mem_of_getElem? (i := 6) rfl) rfl
theorem se_X12_counts : Cond.selects m_X12_counts.1.cls m_X12_counts.1 m_X12_counts.1 ∈ lw_good := mg_8 (List.mem_of_getElem? (i := 125) rfl) rfl
theorem se_X12_deliver : Cond.selects m_X12_deliver.1.cls m_X12_deliver.1 m_X12_deliver.1 ∈ lw_good := mg_8 (List.mem_of_getElem? (i := 165) rfl) rfl
theorem se_X12_doWork : Cond.selects m_X12_doWork.1.cls m_X12_doWork.1 m_X12_doWork.1 ∈ lw_good := mg_s (List.mem_of_getElem? (i := 96) rfl) rfl
theorem se_X12_emit : Cond.selects m_X12_emit.1.cls m_X12_emit.1 m_X12_emit.1 ∈ lw_good := mg_s (List.mem_of_getElem? (i := 71) rfl) rfl
theorem se_X12_end : Cond.selects m_X12_end.1.cls m_X12_end.1 m_X12_end.1 ∈ lw_good := mg_7 (List.mem_of_getElem? (i := 176) rfl) rfl
theorem se_X12_entry : Cond.selects m_X12_entry.1.cls m_X12_entry.1 m_X12_entry.1 ∈ lw_good := mg_9 (List.mem_of_getElem? (i := 78) rfl) rfl
theorem se_X12_entryAt : Cond.selects m_X12_entryAt.1.cls m_X12_entryAt.1 m_X12_entryAt.1 ∈ lw_good := mg_s (List.mem_of_getElem? (i := 108) rfl) rfl
theorem se_X12_family : Cond.selects m_X12_family.1.cls m_X12_family.1 m_X12_family.1 ∈ lw_good := mg_9 (List.mem_of_getElem? (i := 97) rfl) rfl
theorem se_X12_fault : Cond.selects m_X12_fault.1.cls m_X12_fault.1 m_X12_fault.1 ∈ lw_good := mg_7 (List.mem_of_getElem? (i := 180) rfl) rfl
theorem se_X12_feed : Cond.selects m_X12_feed.1.cls m_X12_feed.1 m_X12_feed.1 ∈ lw_good := mg_7 (List.mem_of_getElem? (i := 168) rfl) rfl
theorem se_X12_find : Cond.selects m_X12_find.1.cls m_X12_find.1 m_X12_find.1 ∈ lw_good := mg_s (List.mem_of_getElem? (i := 81) rfl) rfl
theorem se_X12_findFamilies : Cond.selects m_X12_findFamilies.1.cls m_X12_findFamilies.1 m_X12_findFamilies.1 ∈ lw_good := mg_s (List.mem_of_getElem? (i := 109) rfl) rfl
theorem se_X12_findForce : Cond.selects m_X12_findForce.1.cls m_X12_findForce.1 m_X12_findForce.1 ∈ lw_good := mg_s (List.mem_of_getElem? (i := 79) rfl) rfl
theorem se_X12_findHomes : Cond.selects m_X12_findHomes.1.cls m_X12_findHomes.1 m_X12_findHomes.1 ∈ lw_good := mg_s (List.mem_of_getElem? (i := 115) rfl) rfl
theorem se_X12_findList : Cond.selects m_X12_findList.1.cls m_X12_findList.1 m_X12_findList.1 ∈ lw_good := mg_s (List.mem_of_getElem? (i := 113) rfl) rfl
theorem se_X12_findStarts : Cond.selects m_X12_findStarts.1.cls m_X12_findStarts.1 m_X12_findStarts.1 ∈ lw_good := mg_s (List.mem_of_getElem? (i := 90) rfl) rfl
theorem se_X12_finish : Cond.selects m_X12_finish.1.cls m_X12_finish.1 m_X12_finish.1 ∈ lw_good := mg_s (List.mem_of_getElem? (i := 103) rfl) rfl
theorem se_X12_firstOf : Cond.selects m_X12_firstOf.1.cls m_X12_firstOf.1 m_X12_firstOf.1 ∈ lw_good := mg_s (List.mem_of_getElem? (i := 98) rfl) rfl
theorem se_X12_force : Cond.selects m_X12_force.1.cls m_X12_force.1 m_X12_force.1 ∈ lw_good := mg_8 (List.mem_of_getElem? (i := 110) rfl) rfl
theorem se_X12_four : Cond.selects m_X12_four.1.cls m_X12_four.1 m_X12_four.1 ∈ lw_good := mg_s (List.mem_of_getElem? (i := 52) rfl) rfl
theorem se_X12_gangs : Cond.selects m_X12_gangs.1.cls m_X12_gangs.1 m_X12_gangs.1 ∈ lw_good := mg_8 (List.mem_of_getElem? (i := 180) rfl) rfl
theorem se_X12_gangsOf : Cond.selects m_X12_gangsOf.1.cls m_X12_gangsOf.1 m_X12_gangsOf.1 ∈ lw_good := mg_s (List.mem_of_getElem? (i := 97) rfl) rfl
theorem se_X12_goAhead : Cond.selects m_X12_goAhead.1.cls m_X12_goAhead.1 m_X12_goAhead.1 ∈ lw_good := mg_s (List.mem_of_getElem? (i := 105) rfl) rfl
theorem se_X12_goPlot : Cond.selects m_X12_goPlot.1.cls m_X12_goPlot.1 m_X12_goPlot.1 ∈ lw_good := mg_s (List.mem_of_getElem? (i := 100) rfl) rfl
theorem se_X12_goTo : Cond.selects m_X12_goTo.1.cls m_X12_goTo.1 m_X12_goTo.1 ∈ lw_good := mg_s (List.mem_of_getElem? (i := 94) rfl) rfl
theorem se_X12_goWeek : Cond.selects m_X12_goWeek.1.cls m_X12_goWeek.1 m_X12_goWeek.1 ∈ lw_good := mg_s (List.mem_of_getElem? (i := 95) rfl) rfl
theorem se_X12_headAt : Cond.selects m_X12_headAt.1.cls m_X12_headAt.1 m_X12_headAt.1 ∈ lw_good := mg_s (List.mem_of_getElem? (i := 56) rfl) rfl
theorem se_X12_holds : Cond.selects m_X12_holds.1.cls m_X12_holds.1 m_X12_holds.1 ∈ lw_good := mg_s (List.mem_of_getElem? (i := 82) rfl) rfl
theorem se_X12_image : Cond.selects m_X12_image.1.cls m_X12_image.1 m_X12_image.1 ∈ lw_good := mg_7 (List.mem_of_getElem? (i := 152) rfl) rfl
theorem se_X12_inner : Cond.selects m_X12_inner.1.cls m_X12_inner.1 m_X12_inner.1 ∈ lw_good := mg_s (List.mem_of_getElem? (i := 74) rfl) rfl
theorem se_X12_isAhead : Cond.selects m_X12_isAhead.1.cls m_X12_isAhead.1 m_X12_isAhead.1 ∈ lw_good := mg_s (List.mem_of_getElem? (i := 99) rfl) rfl
theorem se_X12_isCompared : Cond.selects m_X12_isCompared.1.cls m_X12_isCompared.1 m_X12_isCompared.1 ∈ lw_good := mg_s (List.mem_of_getElem? (i := 76) rfl) rfl
theorem se_X12_isEntry : Cond.selects m_X12_isEntry.1.cls m_X12_isEntry.1 m_X12_isEntry.1 ∈ lw_good := mg_s (List.mem_of_getElem? (i := 107) rfl) rfl
theorem se_X12_isFree : Cond.selects m_X12_isFree.1.cls m_X12_isFree.1 m_X12_isFree.1 ∈ lw_good := mg_s (List.mem_of_getElem? (i := 118) rfl) rfl
theorem se_X12_isHome : Cond.selects m_X12_isHome.1.cls m_X12_isHome.1 m_X12_isHome.1 ∈ lw_good := mg_s (List.mem_of_getElem? (i := 117) rfl) rfl
theorem se_X12_isIn : Cond.selects m_X12_isIn.1.cls m_X12_isIn.1 m_X12_isIn.1 ∈ lw_good := mg_s (List.mem_of_getElem? (i := 120) rfl) rfl
theorem se_X12_isPlot : Cond.selects m_X12_isPlot.1.cls m_X12_isPlot.1 m_X12_isPlot.1 ∈ lw_good := mg_s (List.mem_of_getElem? (i := 88) rfl) rfl
theorem se_X12_isSign : Cond.selects m_X12_isSign.1.cls m_X12_isSign.1 m_X12_isSign.1 ∈ lw_good := mg_s (List.mem_of_getElem? (i := 67) rfl) rfl
theorem se_X12_isWord : Cond.selects m_X12_isWord.1.cls m_X12_isWord.1 m_X12_isWord.1 ∈ lw_good := mg_s (List.mem_of_getElem? (i := 57) rfl) rfl
theorem se_X12_judge : Cond.selects m_X12_judge.1.cls m_X12_judge.1 m_X12_judge.1 ∈ lw_good := mg_9 (List.mem_of_getElem? (i := 74) rfl) rfl
theorem se_X12_kindAt : Cond.selects m_X12_kindAt.1.cls m_X12_kindAt.1 m_X12_kindAt.1 ∈ lw_good := mg_s (List.mem_of_getElem? (i := 60) rfl) rfl
theorem se_X12_kindOf : Cond.selects m_X12_kindOf.1.cls m_X12_kindOf.1 m_X12_kindOf.1 ∈ lw_good := mg_s (List.mem_of_getElem? (i := 93) rfl) rfl
theorem se_X12_knock : Cond.selects m_X12_knock.1.cls m_X12_knock.1 m_X12_knock.1 ∈ lw_good := mg_9 (List.mem_of_getElem? (i := 37) rfl) rfl
theorem se_X12_knowBy : Cond.selects m_X12_knowBy.1.cls m_X12_knowBy.1 m_X12_knowBy.1 ∈ lw_good := mg_s (List.mem_of_getElem? (i := 78) rfl) rfl
theorem se_X12_lacks : Cond.selects m_X12_lacks.1.cls m_X12_lacks.1 m_X12_lacks.1 ∈ lw_good := mg_9 (List.mem_of_getElem? (i := 33) rfl) rfl
theorem se_X12_license : Cond.selects m_X12_license.1.cls m_X12_license.1 m_X12_license.1 ∈ lw_good := mg_s (List.mem_of_getElem? (i := 91) rfl) rfl
theorem se_X12_lives : Cond.selects m_X12_lives.1.cls m_X12_lives.1 m_X12_lives.1 ∈ lw_good := mg_9 (List.mem_of_getElem? (i := 191) rfl) rfl
theorem se_X12_livesIn : Cond.selects m_X12_livesIn.1.cls m_X12_livesIn.1 m_X12_livesIn.1 ∈ lw_good := mg_s (List.mem_of_getElem? (i := 121) rfl) rfl
theorem se_X12_livingIn : Cond.selects m_X12_livingIn.1.cls m_X12_livingIn.1 m_X12_livingIn.1 ∈ lw_good := mg_s (List.mem_of_getElem? (i := 126) rfl) rfl
theorem se_X12_lodge : Cond.selects m_X12_lodge.1.cls m_X12_lodge.1 m_X12_lodge.1 ∈ lw_good := mg_9 (List.mem_of_getElem? (i := 215) rfl) rfl
theorem se_X12_look : Cond.selects m_X12_look.1.cls m_X12_look.1 m_X12_look.1 ∈ lw_good := mg_9 (List.mem_of_getElem? (i := 238) rfl) rfl
theorem se_X12_mark : Cond.selects m_X12_mark.1.cls m_X12_mark.1 m_X12_mark.1 ∈ lw_good := mg_9 (List.mem_of_getElem? (i := 84) rfl) rfl
theorem se_X12_materialAt : Cond.selects m_X12_materialAt.1.cls m_X12_materialAt.1 m_X12_materialAt.1 ∈ lw_good := mg_s (List.mem_of_getElem? (i := 63) rfl) rfl
theorem se_X12_must : Cond.selects m_X12_must.1.cls m_X12_must.1 m_X12_must.1 ∈ lw_good := mg_s (List.mem_of_getElem? (i := 58) rfl) rfl
theorem se_X12_need : Cond.selects m_X12_need.1.cls m_X12_need.1 m_X12_need.1 ∈ lw_good := mg_8 (List.mem_of_getElem? (i := 156) rfl) rfl
theorem se_X12_needOf : Cond.selects m_X12_needOf.1.cls m_X12_needOf.1 m_X12_needOf.1 ∈ lw_good := mg_s (List.mem_of_getElem? (i := 86) rfl) rfl
theorem se_X12_next : Cond.selects m_X12_next.1.cls m_X12_next.1 m_X12_next.1 ∈ lw_good := mg_s (List.mem_of_getElem? (i := 54) rfl) rfl
theorem se_X12_number : Cond.selects m_X12_number.1.cls m_X12_number.1 m_X12_number.1 ∈ lw_good := mg_s (List.mem_of_getElem? (i := 59) rfl) rfl
theorem se_X12_offer : Cond.selects m_X12_offer.1.cls m_X12_offer.1 m_X12_offer.1 ∈ lw_good := mg_9 (List.mem_of_getElem? (i := 142) rfl) rfl
theorem se_X12_offerOne : Cond.selects m_X12_offerOne.1.cls m_X12_offerOne.1 m_X12_offerOne.1 ∈ lw_good := mg_s (List.mem_of_getElem? (i := 116) rfl) rfl
theorem se_X12_open : Cond.selects m_X12_open.1.cls m_X12_open.1 m_X12_open.1 ∈ lw_good := mg_s (List.mem_of_getElem? (i := 68) rfl) rfl
theorem se_X12_order : Cond.selects m_X12_order.1.cls m_X12_order.1 m_X12_order.1 ∈ lw_good := mg_9 (List.mem_of_getElem? (i := 126) rfl) rfl
theorem se_X12_out : Cond.selects m_X12_out.1.cls m_X12_out.1 m_X12_out.1 ∈ lw_good := mg_9 (List.mem_of_getElem? (i := 207) rfl) rfl
theorem se_X12_partAt : Cond.selects m_X12_partAt.1.cls m_X12_partAt.1 m_X12_partAt.1 ∈ lw_good := mg_s (List.mem_of_getElem? (i := 70) rfl) rfl
theorem se_X12_plot : Cond.selects m_X12_plot.1.cls m_X12_plot.1 m_X12_plot.1 ∈ lw_good := mg_8 (List.mem_of_getElem? (i := 188) rfl) rfl
theorem se_X12_points : Cond.selects m_X12_points.1.cls m_X12_points.1 m_X12_points.1 ∈ lw_good := mg_9 (List.mem_of_getElem? (i := 109) rfl) rfl
theorem se_X12_push : Cond.selects m_X12_push.1.cls m_X12_push.1 m_X12_push.1 ∈ lw_good := mg_s (List.mem_of_getElem? (i := 66) rfl) rfl
theorem se_X12_readClause : Cond.selects m_X12_readClause.1.cls m_X12_readClause.1 m_X12_readClause.1 ∈ lw_good := mg_s (List.mem_of_getElem? (i := 55) rfl) rfl
theorem se_X12_readExpression : Cond.selects m_X12_readExpression.1.cls m_X12_readExpression.1 m_X12_readExpression.1 ∈ lw_good := mg_s (List.mem_of_getElem? (i := 64) rfl) rfl
theorem se_X12_readPart : Cond.selects m_X12_readPart.1.cls m_X12_readPart.1 m_X12_readPart.1 ∈ lw_good := mg_s (List.mem_of_getElem? (i := 69) rfl) rfl
theorem se_X12_readPlain : Cond.selects m_X12_readPlain.1.cls m_X12_readPlain.1 m_X12_readPlain.1 ∈ lw_good := mg_s (List.mem_of_getElem? (i := 65) rfl) rfl
theorem se_X12_reckon : Cond.selects m_X12_reckon.1.cls m_X12_reckon.1 m_X12_reckon.1 ∈ lw_good := mg_s (List.mem_of_getElem? (i := 84) rfl) rfl
theorem se_X12_reckonPoints : Cond.selects m_X12_reckonPoints.1.cls m_X12_reckonPoints.1 m_X12_reckonPoints.1 ∈ lw_good := mg_s (List.mem_of_getElem? (i := 111) rfl) rfl
theorem se_X12_rent : Cond.selects m_X12_rent.1.cls m_X12_rent.1 m_X12_rent.1 ∈ lw_good := mg_9 (List.mem_of_getElem? (i := 211) rfl) rfl
theorem se_X12_roof : Cond.selects m_X12_roof.1.cls m_X12_roof.1 m_X12_roof.1 ∈ lw_good := mg_9 (List.mem_of_getElem? (i := 199) rfl) rfl
theorem se_X12_roomsOf : Cond.selects m_X12_roomsOf.1.cls m_X12_roomsOf.1 m_X12_roomsOf.1 ∈ lw_good := mg_s (List.mem_of_getElem? (i := 102) rfl) rfl
theorem se_X12_run : Cond.selects m_X12_run.1.cls m_X12_run.1 m_X12_run.1 ∈ lw_good := mg_s (List.mem_of_getElem? (i := 83) rfl) rfl
theorem se_X12_runAll : Cond.selects m_X12_runAll.1.cls m_X12_runAll.1 m_X12_runAll.1 ∈ lw_good := mg_s (List.mem_of_getElem? (i := 104) rfl) rfl
theorem se_X12_setEntry : Cond.selects m_X12_setEntry.1.cls m_X12_setEntry.1 m_X12_setEntry.1 ∈ lw_good := mg_s (List.mem_of_getElem? (i := 112) rfl) rfl
theorem se_X12_setOnly : Cond.selects m_X12_setOnly.1.cls m_X12_setOnly.1 m_X12_setOnly.1 ∈ lw_good := mg_s (List.mem_of_getElem? (i := 80) rfl) rfl
theorem se_X12_settle : Cond.selects m_X12_settle.1.cls m_X12_settle.1 m_X12_settle.1 ∈ lw_good := mg_s (List.mem_of_getElem? (i := 73) rfl) rfl
theorem se_X12_squat : Cond.selects m_X12_squat.1.cls m_X12_squat.1 m_X12_squat.1 ∈ lw_good := mg_9 (List.mem_of_getElem? (i := 203) rfl) rfl
theorem se_X12_squatsIn : Cond.selects m_X12_squatsIn.1.cls m_X12_squatsIn.1 m_X12_squatsIn.1 ∈ lw_good := mg_s (List.mem_of_getElem? (i := 122) rfl) rfl
theorem se_X12_stageAt : Cond.selects m_X12_stageAt.1.cls m_X12_stageAt.1 m_X12_stageAt.1 ∈ lw_good := mg_s (List.mem_of_getElem? (i := 62) rfl) rfl
theorem se_X12_standsAhead : Cond.selects m_X12_standsAhead.1.cls m_X12_standsAhead.1 m_X12_standsAhead.1 ∈ lw_good := mg_s (List.mem_of_getElem? (i := 114) rfl) rfl
theorem se_X12_start : Cond.selects m_X12_start.1.cls m_X12_start.1 m_X12_start.1 ∈ lw_good := mg_8 (List.mem_of_getElem? (i := 192) rfl) rfl
theorem se_X12_status : Cond.selects m_X12_status.1.cls m_X12_status.1 m_X12_status.1 ∈ lw_good := mg_10 (List.mem_of_getElem? (i := 10) rfl) rfl
theorem se_X12_stayAt : Cond.selects m_X12_stayAt.1.cls m_X12_stayAt.1 m_X12_stayAt.1 ∈ lw_good := mg_s (List.mem_of_getElem? (i := 119) rfl) rfl
theorem se_X12_stayOf : Cond.selects m_X12_stayOf.1.cls m_X12_stayOf.1 m_X12_stayOf.1 ∈ lw_good := mg_s (List.mem_of_getElem? (i := 124) rfl) rfl
theorem se_X12_stock : Cond.selects m_X12_stock.1.cls m_X12_stock.1 m_X12_stock.1 ∈ lw_good := mg_8 (List.mem_of_getElem? (i := 200) rfl) rfl
theorem se_X12_street : Cond.selects m_X12_street.1.cls m_X12_street.1 m_X12_street.1 ∈ lw_good := mg_s (List.mem_of_getElem? (i := 127) rfl) rfl
theorem se_X12_target : Cond.selects m_X12_target.1.cls m_X12_target.1 m_X12_target.1 ∈ lw_good := mg_9 (List.mem_of_getElem? (i := 223) rfl) rfl
theorem se_X12_told : Cond.selects m_X12_told.1.cls m_X12_told.1 m_X12_told.1 ∈ lw_good := mg_s (List.mem_of_getElem? (i := 51) rfl) rfl
theorem se_X12_truth : Cond.selects m_X12_truth.1.cls m_X12_truth.1 m_X12_truth.1 ∈ lw_good := mg_10 (List.mem_of_getElem? (i := 2) rfl) rfl
theorem se_X12_tryRow : Cond.selects m_X12_tryRow.1.cls m_X12_tryRow.1 m_X12_tryRow.1 ∈ lw_good := mg_s (List.mem_of_getElem? (i := 106) rfl) rfl
theorem se_X12_under : Cond.selects m_X12_under.1.cls m_X12_under.1 m_X12_under.1 ∈ lw_good := mg_9 (List.mem_of_getElem? (i := 219) rfl) rfl
theorem se_X12_whom : Cond.selects m_X12_whom.1.cls m_X12_whom.1 m_X12_whom.1 ∈ lw_good := mg_s (List.mem_of_getElem? (i := 123) rfl) rfl
theorem se_X12_wish : Cond.selects m_X12_wish.1.cls m_X12_wish.1 m_X12_wish.1 ∈ lw_good := mg_9 (List.mem_of_getElem? (i := 42) rfl) rfl
theorem se_X12_works : Cond.selects m_X12_works.1.cls m_X12_works.1 m_X12_works.1 ∈ lw_good := mg_8 (List.mem_of_getElem? (i := 174) rfl) rfl
theorem se_X1_dropStarts : Cond.selects m_X1_dropStarts.1.cls m_X1_dropStarts.1 m_X1_dropStarts.1 ∈ lw_good := mg_s (List.mem_of_getElem? (i := 38) rfl) rfl
theorem se_X1_forget : Cond.selects m_X1_forget.1.cls m_X1_forget.1 m_X1_forget.1 ∈ lw_good := mg_5 (List.mem_of_getElem? (i := 55) rfl) rfl
theorem se_X1_housedIn : Cond.selects m_X1_housedIn.1.cls m_X1_housedIn.1 m_X1_housedIn.1 ∈ lw_good := mg_5 (List.mem_of_getElem? (i := 103) rfl) rfl
theorem se_X1_isRowAhead : Cond.selects m_X1_isRowAhead.1.cls m_X1_isRowAhead.1 m_X1_isRowAhead.1 ∈ lw_good := mg_s (List.mem_of_getElem? (i := 39) rfl) rfl
theorem se_X1_isWished : Cond.selects m_X1_isWished.1.cls m_X1_isWished.1 m_X1_isWished.1 ∈ lw_good := mg_4 (List.mem_of_getElem? (i := 133) rfl) rfl
theorem se_X1_keepIfBetter : Cond.selects m_X1_keepIfBetter.1.cls m_X1_keepIfBetter.1 m_X1_keepIfBetter.1 ∈ lw_good := mg_5 (List.mem_of_getElem? (i := 99) rfl) rfl
theorem se_X1_openQuarter : Cond.selects m_X1_openQuarter.1.cls m_X1_openQuarter.1 m_X1_openQuarter.1 ∈ lw_good := mg_5 (List.mem_of_getElem? (i := 48) rfl) rfl
theorem se_X1_playRow : Cond.selects m_X1_playRow.1.cls m_X1_playRow.1 m_X1_playRow.1 ∈ lw_good := mg_5 (List.mem_of_getElem? (i := 134) rfl) rfl
theorem se_X1_playTime : Cond.selects m_X1_playTime.1.cls m_X1_playTime.1 m_X1_playTime.1 ∈ lw_good := mg_5 (List.mem_of_getElem? (i := 60) rfl) rfl
theorem se_X1_putTime : Cond.selects m_X1_putTime.1.cls m_X1_putTime.1 m_X1_putTime.1 ∈ lw_good := mg_s (List.mem_of_getElem? (i := 36) rfl) rfl
theorem se_X1_roomsOf : Cond.selects m_X1_roomsOf.1.cls m_X1_roomsOf.1 m_X1_roomsOf.1 ∈ lw_good := mg_5 (List.mem_of_getElem? (i := 94) rfl) rfl
theorem se_X1_roomsOfAll : Cond.selects m_X1_roomsOfAll.1.cls m_X1_roomsOfAll.1 m_X1_roomsOfAll.1 ∈ lw_good := mg_5 (List.mem_of_getElem? (i := 90) rfl) rfl
theorem se_X1_shellsIn : Cond.selects m_X1_shellsIn.1.cls m_X1_shellsIn.1 m_X1_shellsIn.1 ∈ lw_good := mg_5 (List.mem_of_getElem? (i := 108) rfl) rfl
theorem se_X1_tell : Cond.selects m_X1_tell.1.cls m_X1_tell.1 m_X1_tell.1 ∈ lw_good := mg_5 (List.mem_of_getElem? (i := 130) rfl) rfl
theorem se_X1_tellStarts : Cond.selects m_X1_tellStarts.1.cls m_X1_tellStarts.1 m_X1_tellStarts.1 ∈ lw_good := mg_s (List.mem_of_getElem? (i := 37) rfl) rfl
theorem se_X2_emptyStay : Cond.selects m_X2_emptyStay.1.cls m_X2_emptyStay.1 m_X2_emptyStay.1 ∈ lw_good := mg_s (List.mem_of_getElem? (i := 50) rfl) rfl
theorem se_X2_endOf : Cond.selects m_X2_endOf.1.cls m_X2_endOf.1 m_X2_endOf.1 ∈ lw_good := mg_6 (List.mem_of_getElem? (i := 9) rfl) rfl
theorem se_X2_findRoofs : Cond.selects m_X2_findRoofs.1.cls m_X2_findRoofs.1 m_X2_findRoofs.1 ∈ lw_good := mg_s (List.mem_of_getElem? (i := 46) rfl) rfl
theorem se_X2_firstFor : Cond.selects m_X2_firstFor.1.cls m_X2_firstFor.1 m_X2_firstFor.1 ∈ lw_good := mg_s (List.mem_of_getElem? (i := 48) rfl) rfl
theorem se_X2_giveAll : Cond.selects m_X2_giveAll.1.cls m_X2_giveAll.1 m_X2_giveAll.1 ∈ lw_good := mg_6 (List.mem_of_getElem? (i := 32) rfl) rfl
theorem se_X2_giveInChain : Cond.selects m_X2_giveInChain.1.cls m_X2_giveInChain.1 m_X2_giveInChain.1 ∈ lw_good := mg_s (List.mem_of_getElem? (i := 47) rfl) rfl
theorem se_X2_goIn : Cond.selects m_X2_goIn.1.cls m_X2_goIn.1 m_X2_goIn.1 ∈ lw_good := mg_6 (List.mem_of_getElem? (i := 53) rfl) rfl
theorem se_X2_isFree : Cond.selects m_X2_isFree.1.cls m_X2_isFree.1 m_X2_isFree.1 ∈ lw_good := mg_6 (List.mem_of_getElem? (i := 40) rfl) rfl
theorem se_X2_isLived : Cond.selects m_X2_isLived.1.cls m_X2_isLived.1 m_X2_isLived.1 ∈ lw_good := mg_6 (List.mem_of_getElem? (i := 28) rfl) rfl
theorem se_X2_isRoofless : Cond.selects m_X2_isRoofless.1.cls m_X2_isRoofless.1 m_X2_isRoofless.1 ∈ lw_good := mg_6 (List.mem_of_getElem? (i := 84) rfl) rfl
theorem se_X2_leave : Cond.selects m_X2_leave.1.cls m_X2_leave.1 m_X2_leave.1 ∈ lw_good := mg_s (List.mem_of_getElem? (i := 49) rfl) rfl
theorem se_X2_livedStay : Cond.selects m_X2_livedStay.1.cls m_X2_livedStay.1 m_X2_livedStay.1 ∈ lw_good := mg_6 (List.mem_of_getElem? (i := 66) rfl) rfl
theorem se_X2_lookRound : Cond.selects m_X2_lookRound.1.cls m_X2_lookRound.1 m_X2_lookRound.1 ∈ lw_good := mg_6 (List.mem_of_getElem? (i := 3) rfl) rfl
theorem se_X2_roofOf : Cond.selects m_X2_roofOf.1.cls m_X2_roofOf.1 m_X2_roofOf.1 ∈ lw_good := mg_6 (List.mem_of_getElem? (i := 74) rfl) rfl
theorem se_X2_stayIn : Cond.selects m_X2_stayIn.1.cls m_X2_stayIn.1 m_X2_stayIn.1 ∈ lw_good := mg_6 (List.mem_of_getElem? (i := 19) rfl) rfl
theorem se_X3_ask : Cond.selects m_X3_ask.1.cls m_X3_ask.1 m_X3_ask.1 ∈ lw_good := mg_4 (List.mem_of_getElem? (i := 65) rfl) rfl
theorem se_X3_askOf : Cond.selects m_X3_askOf.1.cls m_X3_askOf.1 m_X3_askOf.1 ∈ lw_good := mg_5 (List.mem_of_getElem? (i := 192) rfl) rfl
theorem se_X3_counted : Cond.selects m_X3_counted.1.cls m_X3_counted.1 m_X3_counted.1 ∈ lw_good := mg_4 (List.mem_of_getElem? (i := 69) rfl) rfl
theorem se_X3_evaluate : Cond.selects m_X3_evaluate.1.cls m_X3_evaluate.1 m_X3_evaluate.1 ∈ lw_good := mg_s (List.mem_of_getElem? (i := 21) rfl) rfl
theorem se_X3_findForced : Cond.selects m_X3_findForced.1.cls m_X3_findForced.1 m_X3_findForced.1 ∈ lw_good := mg_s (List.mem_of_getElem? (i := 20) rfl) rfl
theorem se_X3_isForced : Cond.selects m_X3_isForced.1.cls m_X3_isForced.1 m_X3_isForced.1 ∈ lw_good := mg_4 (List.mem_of_getElem? (i := 56) rfl) rfl
theorem se_X3_reread : Cond.selects m_X3_reread.1.cls m_X3_reread.1 m_X3_reread.1 ∈ lw_good := mg_4 (List.mem_of_getElem? (i := 35) rfl) rfl
theorem se_X3_settle : Cond.selects m_X3_settle.1.cls m_X3_settle.1 m_X3_settle.1 ∈ lw_good := mg_4 (List.mem_of_getElem? (i := 47) rfl) rfl
theorem se_X3_total : Cond.selects m_X3_total.1.cls m_X3_total.1 m_X3_total.1 ∈ lw_good := mg_5 (List.mem_of_getElem? (i := 197) rfl) rfl
theorem se_X4_isAhead : Cond.selects m_X4_isAhead.1.cls m_X4_isAhead.1 m_X4_isAhead.1 ∈ lw_good := mg_s (List.mem_of_getElem? (i := 44) rfl) rfl
theorem se_X4_isAlike : Cond.selects m_X4_isAlike.1.cls m_X4_isAlike.1 m_X4_isAlike.1 ∈ lw_good := mg_s (List.mem_of_getElem? (i := 42) rfl) rfl
theorem se_X4_join : Cond.selects m_X4_join.1.cls m_X4_join.1 m_X4_join.1 ∈ lw_good := mg_5 (List.mem_of_getElem? (i := 165) rfl) rfl
theorem se_X4_makeOne : Cond.selects m_X4_makeOne.1.cls m_X4_makeOne.1 m_X4_makeOne.1 ∈ lw_good := mg_s (List.mem_of_getElem? (i := 43) rfl) rfl
theorem se_X4_sort : Cond.selects m_X4_sort.1.cls m_X4_sort.1 m_X4_sort.1 ∈ lw_good := mg_5 (List.mem_of_getElem? (i := 211) rfl) rfl
theorem se_X4_sortAll : Cond.selects m_X4_sortAll.1.cls m_X4_sortAll.1 m_X4_sortAll.1 ∈ lw_good := mg_5 (List.mem_of_getElem? (i := 239) rfl) rfl
theorem se_X4_turned : Cond.selects m_X4_turned.1.cls m_X4_turned.1 m_X4_turned.1 ∈ lw_good := mg_5 (List.mem_of_getElem? (i := 225) rfl) rfl
theorem se_X4_weightOf : Cond.selects m_X4_weightOf.1.cls m_X4_weightOf.1 m_X4_weightOf.1 ∈ lw_good := mg_5 (List.mem_of_getElem? (i := 186) rfl) rfl
theorem se_X5_emit : Cond.selects m_X5_emit.1.cls m_X5_emit.1 m_X5_emit.1 ∈ lw_good := mg_s (List.mem_of_getElem? (i := 8) rfl) rfl
theorem se_X5_hasRoom : Cond.selects m_X5_hasRoom.1.cls m_X5_hasRoom.1 m_X5_hasRoom.1 ∈ lw_good := mg_3 (List.mem_of_getElem? (i := 42) rfl) rfl
theorem se_X5_isSign : Cond.selects m_X5_isSign.1.cls m_X5_isSign.1 m_X5_isSign.1 ∈ lw_good := mg_s (List.mem_of_getElem? (i := 14) rfl) rfl
theorem se_X5_isSpelled : Cond.selects m_X5_isSpelled.1.cls m_X5_isSpelled.1 m_X5_isSpelled.1 ∈ lw_good := mg_s (List.mem_of_getElem? (i := 4) rfl) rfl
theorem se_X5_isWord : Cond.selects m_X5_isWord.1.cls m_X5_isWord.1 m_X5_isWord.1 ∈ lw_good := mg_s (List.mem_of_getElem? (i := 2) rfl) rfl
theorem se_X5_read : Cond.selects m_X5_read.1.cls m_X5_read.1 m_X5_read.1 ∈ lw_good := mg_3 (List.mem_of_getElem? (i := 64) rfl) rfl
theorem se_X5_readBoth : Cond.selects m_X5_readBoth.1.cls m_X5_readBoth.1 m_X5_readBoth.1 ∈ lw_good := mg_s (List.mem_of_getElem? (i := 16) rfl) rfl
theorem se_X5_readBracket : Cond.selects m_X5_readBracket.1.cls m_X5_readBracket.1 m_X5_readBracket.1 ∈ lw_good := mg_s (List.mem_of_getElem? (i := 18) rfl) rfl
theorem se_X5_readClause : Cond.selects m_X5_readClause.1.cls m_X5_readClause.1 m_X5_readClause.1 ∈ lw_good := mg_s (List.mem_of_getElem? (i := 1) rfl) rfl
theorem se_X5_readHead : Cond.selects m_X5_readHead.1.cls m_X5_readHead.1 m_X5_readHead.1 ∈ lw_good := mg_s (List.mem_of_getElem? (i := 6) rfl) rfl
theorem se_X5_readPart : Cond.selects m_X5_readPart.1.cls m_X5_readPart.1 m_X5_readPart.1 ∈ lw_good := mg_s (List.mem_of_getElem? (i := 11) rfl) rfl
theorem se_X5_readPlain : Cond.selects m_X5_readPlain.1.cls m_X5_readPlain.1 m_X5_readPlain.1 ∈ lw_good := mg_s (List.mem_of_getElem? (i := 17) rfl) rfl
theorem se_X5_readStrike : Cond.selects m_X5_readStrike.1.cls m_X5_readStrike.1 m_X5_readStrike.1 ∈ lw_good := mg_s (List.mem_of_getElem? (i := 5) rfl) rfl
theorem se_X5_readSum : Cond.selects m_X5_readSum.1.cls m_X5_readSum.1 m_X5_readSum.1 ∈ lw_good := mg_s (List.mem_of_getElem? (i := 9) rfl) rfl
theorem se_X5_readTerm : Cond.selects m_X5_readTerm.1.cls m_X5_readTerm.1 m_X5_readTerm.1 ∈ lw_good := mg_s (List.mem_of_getElem? (i := 10) rfl) rfl
theorem se_X5_readTest : Cond.selects m_X5_readTest.1.cls m_X5_readTest.1 m_X5_readTest.1 ∈ lw_good := mg_s (List.mem_of_getElem? (i := 15) rfl) rfl
theorem se_X5_step : Cond.selects m_X5_step.1.cls m_X5_step.1 m_X5_step.1 ∈ lw_good := mg_s (List.mem_of_getElem? (i := 0) rfl) rfl
theorem se_X5_takeLeaf : Cond.selects m_X5_takeLeaf.1.cls m_X5_takeLeaf.1 m_X5_takeLeaf.1 ∈ lw_good := mg_s (List.mem_of_getElem? (i := 12) rfl) rfl
theorem se_X5_takeSign : Cond.selects m_X5_takeSign.1.cls m_X5_takeSign.1 m_X5_takeSign.1 ∈ lw_good := mg_s (List.mem_of_getElem? (i := 13) rfl) rfl
theorem se_X5_takeWord : Cond.selects m_X5_takeWord.1.cls m_X5_takeWord.1 m_X5_takeWord.1 ∈ lw_good := mg_s (List.mem_of_getElem? (i := 7) rfl) rfl
theorem se_X5_wordIn : Cond.selects m_X5_wordIn.1.cls m_X5_wordIn.1 m_X5_wordIn.1 ∈ lw_good := mg_s (List.mem_of_getElem? (i := 3) rfl) rfl
theorem se_X5_write : Cond.selects m_X5_write.1.cls m_X5_write.1 m_X5_write.1 ∈ lw_good := mg_3 (List.mem_of_getElem? (i := 46) rfl) rfl
theorem se_X6_doneWeek : Cond.selects m_X6_doneWeek.1.cls m_X6_doneWeek.1 m_X6_doneWeek.1 ∈ lw_good := mg_5 (List.mem_of_getElem? (i := 17) rfl) rfl
theorem se_X6_isDoneBy : Cond.selects m_X6_isDoneBy.1.cls m_X6_isDoneBy.1 m_X6_isDoneBy.1 ∈ lw_good := mg_5 (List.mem_of_getElem? (i := 13) rfl) rfl
theorem se_X6_isOf : Cond.selects m_X6_isOf.1.cls m_X6_isOf.1 m_X6_isOf.1 ∈ lw_good := mg_4 (List.mem_of_getElem? (i := 157) rfl) rfl
theorem se_X6_keepStock : Cond.selects m_X6_keepStock.1.cls m_X6_keepStock.1 m_X6_keepStock.1 ∈ lw_good := mg_5 (List.mem_of_getElem? (i := 0) rfl) rfl
theorem se_X6_open : Cond.selects m_X6_open.1.cls m_X6_open.1 m_X6_open.1 ∈ lw_good := mg_4 (List.mem_of_getElem? (i := 184) rfl) rfl
theorem se_X7_copyFrom : Cond.selects m_X7_copyFrom.1.cls m_X7_copyFrom.1 m_X7_copyFrom.1 ∈ lw_good := mg_5 (List.mem_of_getElem? (i := 72) rfl) rfl
theorem se_X7_empty : Cond.selects m_X7_empty.1.cls m_X7_empty.1 m_X7_empty.1 ∈ lw_good := mg_4 (List.mem_of_getElem? (i := 188) rfl) rfl
theorem se_X7_finishStage : Cond.selects m_X7_finishStage.1.cls m_X7_finishStage.1 m_X7_finishStage.1 ∈ lw_good := mg_4 (List.mem_of_getElem? (i := 236) rfl) rfl
theorem se_X7_isDone : Cond.selects m_X7_isDone.1.cls m_X7_isDone.1 m_X7_isDone.1 ∈ lw_good := mg_4 (List.mem_of_getElem? (i := 218) rfl) rfl
theorem se_X7_isShell : Cond.selects m_X7_isShell.1.cls m_X7_isShell.1 m_X7_isShell.1 ∈ lw_good := mg_5 (List.mem_of_getElem? (i := 112) rfl) rfl
theorem se_X7_waitsForNeeds : Cond.selects m_X7_waitsForNeeds.1.cls m_X7_waitsForNeeds.1 m_X7_waitsForNeeds.1 ∈ lw_good := mg_5 (List.mem_of_getElem? (i := 26) rfl) rfl
theorem se_X8_add : Cond.selects m_X8_add.1.cls m_X8_add.1 m_X8_add.1 ∈ lw_good := mg_4 (List.mem_of_getElem? (i := 100) rfl) rfl
theorem se_X8_at : Cond.selects m_X8_at.1.cls m_X8_at.1 m_X8_at.1 ∈ lw_good := mg_4 (List.mem_of_getElem? (i := 153) rfl) rfl
theorem se_X8_copyFrom : Cond.selects m_X8_copyFrom.1.cls m_X8_copyFrom.1 m_X8_copyFrom.1 ∈ lw_good := mg_6 (List.mem_of_getElem? (i := 156) rfl) rfl
theorem se_X8_greatest : Cond.selects m_X8_greatest.1.cls m_X8_greatest.1 m_X8_greatest.1 ∈ lw_good := mg_4 (List.mem_of_getElem? (i := 149) rfl) rfl
theorem se_X8_isFull : Cond.selects m_X8_isFull.1.cls m_X8_isFull.1 m_X8_isFull.1 ∈ lw_good := mg_4 (List.mem_of_getElem? (i := 96) rfl) rfl
theorem se_X8_put : Cond.selects m_X8_put.1.cls m_X8_put.1 m_X8_put.1 ∈ lw_good := mg_4 (List.mem_of_getElem? (i := 105) rfl) rfl
theorem se_X8_rows : Cond.selects m_X8_rows.1.cls m_X8_rows.1 m_X8_rows.1 ∈ lw_good := mg_4 (List.mem_of_getElem? (i := 109) rfl) rfl
theorem se_X9_claimedIn : Cond.selects m_X9_claimedIn.1.cls m_X9_claimedIn.1 m_X9_claimedIn.1 ∈ lw_good := mg_6 (List.mem_of_getElem? (i := 144) rfl) rfl
theorem se_X9_copyFrom : Cond.selects m_X9_copyFrom.1.cls m_X9_copyFrom.1 m_X9_copyFrom.1 ∈ lw_good := mg_6 (List.mem_of_getElem? (i := 152) rfl) rfl
theorem se_X9_seenIn : Cond.selects m_X9_seenIn.1.cls m_X9_seenIn.1 m_X9_seenIn.1 ∈ lw_good := mg_6 (List.mem_of_getElem? (i := 140) rfl) rfl
theorem se_X9_tellClaimed : Cond.selects m_X9_tellClaimed.1.cls m_X9_tellClaimed.1 m_X9_tellClaimed.1 ∈ lw_good := mg_6 (List.mem_of_getElem? (i := 122) rfl) rfl
theorem se_X9_tellSeen : Cond.selects m_X9_tellSeen.1.cls m_X9_tellSeen.1 m_X9_tellSeen.1 ∈ lw_good := mg_6 (List.mem_of_getElem? (i := 131) rfl) rfl
theorem ml_X11_29 : Cond.methodLink RX11 29 m_X3_init.1 ∈ lw_good := mg_1 (List.mem_of_getElem? (i := 193) rfl) rfl
theorem ml_X11_38 : Cond.methodLink RX11 38 m_X10_init.1 ∈ lw_good := mg_1 (List.mem_of_getElem? (i := 225) rfl) rfl
theorem ml_X11_57 : Cond.methodLink RX11 57 m_X1_init.1 ∈ lw_good := mg_2 (List.mem_of_getElem? (i := 109) rfl) rfl
theorem ml_X11_66 : Cond.methodLink RX11 66 m_X4_init.1 ∈ lw_good := mg_2 (List.mem_of_getElem? (i := 167) rfl) rfl
theorem ml_X11_73 : Cond.methodLink RX11 73 m_X2_init.1 ∈ lw_good := mg_2 (List.mem_of_getElem? (i := 207) rfl) rfl
theorem ml_X11_84 : Cond.methodLink RX11 84 m_X5_hasRoom.1 ∈ lw_good := mg_3 (List.mem_of_getElem? (i := 40) rfl) rfl
theorem ml_X11_88 : Cond.methodLink RX11 88 m_X5_write.1 ∈ lw_good := mg_3 (List.mem_of_getElem? (i := 44) rfl) rfl
theorem ml_X11_95 : Cond.methodLink RX11 95 m_X11_isWeek.1 ∈ lw_good := mg_3 (List.mem_of_getElem? (i := 56) rfl) rfl
theorem ml_X11_101 : Cond.methodLink RX11 101 m_X5_read.1 ∈ lw_good := mg_3 (List.mem_of_getElem? (i := 62) rfl) rfl
theorem ml_X11_105 : Cond.methodLink RX11 105 m_X11_answer.1 ∈ lw_good := mg_3 (List.mem_of_getElem? (i := 216) rfl) rfl
theorem ml_X11_115 : Cond.methodLink RX11 115 m_X0_init.1 ∈ lw_good := mg_3 (List.mem_of_getElem? (i := 223) rfl) rfl
theorem ml_X11_118 : Cond.methodLink RX11 118 m_X3_reread.1 ∈ lw_good := mg_4 (List.mem_of_getElem? (i := 33) rfl) rfl
theorem ml_X11_124 : Cond.methodLink RX11 124 m_X11_isIn.1 ∈ lw_good := mg_3 (List.mem_of_getElem? (i := 59) rfl) rfl
theorem ml_X11_131 : Cond.methodLink RX11 131 m_X3_settle.1 ∈ lw_good := mg_4 (List.mem_of_getElem? (i := 45) rfl) rfl
theorem ml_X11_135 : Cond.methodLink RX11 135 m_X3_isForced.1 ∈ lw_good := mg_4 (List.mem_of_getElem? (i := 58) rfl) rfl
theorem ml_X11_139 : Cond.methodLink RX11 139 m_X3_ask.1 ∈ lw_good := mg_4 (List.mem_of_getElem? (i := 63) rfl) rfl
theorem ml_X11_142 : Cond.methodLink RX11 142 m_X3_counted.1 ∈ lw_good := mg_4 (List.mem_of_getElem? (i := 67) rfl) rfl
theorem ml_X11_145 : Cond.methodLink RX11 145 m_X11_needHead.1 ∈ lw_good := mg_4 (List.mem_of_getElem? (i := 85) rfl) rfl
theorem ml_X11_160 : Cond.methodLink RX11 160 m_X8_isFull.1 ∈ lw_good := mg_4 (List.mem_of_getElem? (i := 94) rfl) rfl
theorem ml_X11_166 : Cond.methodLink RX11 166 m_X8_add.1 ∈ lw_good := mg_4 (List.mem_of_getElem? (i := 98) rfl) rfl
theorem ml_X11_169 : Cond.methodLink RX11 169 m_X8_put.1 ∈ lw_good := mg_4 (List.mem_of_getElem? (i := 103) rfl) rfl
theorem ml_X11_173 : Cond.methodLink RX11 173 m_X8_rows.1 ∈ lw_good := mg_4 (List.mem_of_getElem? (i := 107) rfl) rfl
theorem ml_X11_185 : Cond.methodLink RX11 185 m_X11_isPlot.1 ∈ lw_good := mg_4 (List.mem_of_getElem? (i := 127) rfl) rfl
theorem ml_X11_188 : Cond.methodLink RX11 188 m_X1_isWished.1 ∈ lw_good := mg_4 (List.mem_of_getElem? (i := 131) rfl) rfl
theorem ml_X11_194 : Cond.methodLink RX11 194 m_X11_runFor.1 ∈ lw_good := mg_4 (List.mem_of_getElem? (i := 139) rfl) rfl
theorem ml_X11_217 : Cond.methodLink RX11 217 m_X6_isDoneBy.1 ∈ lw_good := mg_5 (List.mem_of_getElem? (i := 11) rfl) rfl
theorem ml_X11_220 : Cond.methodLink RX11 220 m_X11_firstStart.1 ∈ lw_good := mg_5 (List.mem_of_getElem? (i := 19) rfl) rfl
theorem ml_X11_223 : Cond.methodLink RX11 223 m_X8_at.1 ∈ lw_good := mg_5 (List.mem_of_getElem? (i := 23) rfl) rfl
theorem ml_X11_226 : Cond.methodLink RX11 226 m_X7_waitsForNeeds.1 ∈ lw_good := mg_5 (List.mem_of_getElem? (i := 24) rfl) rfl
theorem ml_X11_230 : Cond.methodLink RX11 230 m_X6_doneWeek.1 ∈ lw_good := mg_5 (List.mem_of_getElem? (i := 33) rfl) rfl
theorem ml_X11_239 : Cond.methodLink RX11 239 m_X11_knowing.1 ∈ lw_good := mg_4 (List.mem_of_getElem? (i := 143) rfl) rfl
theorem ml_X11_242 : Cond.methodLink RX11 242 m_X1_openQuarter.1 ∈ lw_good := mg_5 (List.mem_of_getElem? (i := 46) rfl) rfl
theorem ml_X11_245 : Cond.methodLink RX11 245 m_X1_forget.1 ∈ lw_good := mg_5 (List.mem_of_getElem? (i := 53) rfl) rfl
theorem ml_X11_248 : Cond.methodLink RX11 248 m_X1_playTime.1 ∈ lw_good := mg_5 (List.mem_of_getElem? (i := 58) rfl) rfl
theorem ml_X11_251 : Cond.methodLink RX11 251 m_X1_roomsOfAll.1 ∈ lw_good := mg_5 (List.mem_of_getElem? (i := 88) rfl) rfl
theorem ml_X11_257 : Cond.methodLink RX11 257 m_X1_keepIfBetter.1 ∈ lw_good := mg_5 (List.mem_of_getElem? (i := 97) rfl) rfl
theorem ml_X11_269 : Cond.methodLink RX11 269 m_X1_tell.1 ∈ lw_good := mg_5 (List.mem_of_getElem? (i := 128) rfl) rfl
theorem ml_X11_272 : Cond.methodLink RX11 272 m_X1_playRow.1 ∈ lw_good := mg_5 (List.mem_of_getElem? (i := 132) rfl) rfl
theorem ml_X11_276 : Cond.methodLink RX11 276 m_X1_housedIn.1 ∈ lw_good := mg_5 (List.mem_of_getElem? (i := 136) rfl) rfl
theorem ml_X11_280 : Cond.methodLink RX11 280 m_X1_roomsOf.1 ∈ lw_good := mg_5 (List.mem_of_getElem? (i := 137) rfl) rfl
theorem ml_X11_283 : Cond.methodLink RX11 283 m_X1_shellsIn.1 ∈ lw_good := mg_5 (List.mem_of_getElem? (i := 142) rfl) rfl
theorem ml_X11_292 : Cond.methodLink RX11 292 m_X11_isEntry.1 ∈ lw_good := mg_5 (List.mem_of_getElem? (i := 151) rfl) rfl
theorem ml_X11_295 : Cond.methodLink RX11 295 m_X11_isKnownEntry.1 ∈ lw_good := mg_5 (List.mem_of_getElem? (i := 159) rfl) rfl
theorem ml_X11_298 : Cond.methodLink RX11 298 m_X4_join.1 ∈ lw_good := mg_5 (List.mem_of_getElem? (i := 163) rfl) rfl
theorem ml_X11_308 : Cond.methodLink RX11 308 m_X4_weightOf.1 ∈ lw_good := mg_5 (List.mem_of_getElem? (i := 184) rfl) rfl
theorem ml_X11_318 : Cond.methodLink RX11 318 m_X4_sort.1 ∈ lw_good := mg_5 (List.mem_of_getElem? (i := 209) rfl) rfl
theorem ml_X11_327 : Cond.methodLink RX11 327 m_X4_turned.1 ∈ lw_good := mg_5 (List.mem_of_getElem? (i := 223) rfl) rfl
theorem ml_X11_331 : Cond.methodLink RX11 331 m_X11_isMoveWeek.1 ∈ lw_good := mg_5 (List.mem_of_getElem? (i := 233) rfl) rfl
theorem ml_X11_337 : Cond.methodLink RX11 337 m_X4_sortAll.1 ∈ lw_good := mg_5 (List.mem_of_getElem? (i := 237) rfl) rfl
theorem ml_X11_340 : Cond.methodLink RX11 340 m_X2_lookRound.1 ∈ lw_good := mg_6 (List.mem_of_getElem? (i := 1) rfl) rfl
theorem ml_X11_344 : Cond.methodLink RX11 344 m_X2_giveAll.1 ∈ lw_good := mg_6 (List.mem_of_getElem? (i := 30) rfl) rfl
theorem ml_X11_353 : Cond.methodLink RX11 353 m_X2_livedStay.1 ∈ lw_good := mg_6 (List.mem_of_getElem? (i := 64) rfl) rfl
theorem ml_X11_359 : Cond.methodLink RX11 359 m_X2_roofOf.1 ∈ lw_good := mg_6 (List.mem_of_getElem? (i := 72) rfl) rfl
theorem ml_X11_362 : Cond.methodLink RX11 362 m_X2_isFree.1 ∈ lw_good := mg_6 (List.mem_of_getElem? (i := 81) rfl) rfl
theorem ml_X11_365 : Cond.methodLink RX11 365 m_X2_isRoofless.1 ∈ lw_good := mg_6 (List.mem_of_getElem? (i := 82) rfl) rfl
theorem ml_X11_372 : Cond.methodLink RX11 372 m_X2_goIn.1 ∈ lw_good := mg_6 (List.mem_of_getElem? (i := 87) rfl) rfl
theorem ml_X11_376 : Cond.methodLink RX11 376 m_X2_stayIn.1 ∈ lw_good := mg_6 (List.mem_of_getElem? (i := 92) rfl) rfl
theorem ml_X11_379 : Cond.methodLink RX11 379 m_X2_isLived.1 ∈ lw_good := mg_6 (List.mem_of_getElem? (i := 93) rfl) rfl
theorem ml_X11_382 : Cond.methodLink RX11 382 m_X2_endOf.1 ∈ lw_good := mg_6 (List.mem_of_getElem? (i := 98) rfl) rfl
theorem ml_X11_386 : Cond.methodLink RX11 386 m_X3_askOf.1 ∈ lw_good := mg_6 (List.mem_of_getElem? (i := 99) rfl) rfl
theorem ml_X11_389 : Cond.methodLink RX11 389 m_X3_total.1 ∈ lw_good := mg_6 (List.mem_of_getElem? (i := 100) rfl) rfl
theorem ml_X11_396 : Cond.methodLink RX11 396 m_X11_isCouncilQuarter.1 ∈ lw_good := mg_6 (List.mem_of_getElem? (i := 113) rfl) rfl
theorem ml_X11_402 : Cond.methodLink RX11 402 m_X9_tellClaimed.1 ∈ lw_good := mg_6 (List.mem_of_getElem? (i := 120) rfl) rfl
theorem ml_X11_405 : Cond.methodLink RX11 405 m_X9_tellSeen.1 ∈ lw_good := mg_6 (List.mem_of_getElem? (i := 129) rfl) rfl
theorem ml_X11_408 : Cond.methodLink RX11 408 m_X9_seenIn.1 ∈ lw_good := mg_6 (List.mem_of_getElem? (i := 138) rfl) rfl
theorem ml_X11_411 : Cond.methodLink RX11 411 m_X9_claimedIn.1 ∈ lw_good := mg_6 (List.mem_of_getElem? (i := 142) rfl) rfl
theorem ml_X11_414 : Cond.methodLink RX11 414 m_X9_copyFrom.1 ∈ lw_good := mg_6 (List.mem_of_getElem? (i := 150) rfl) rfl
theorem ml_X11_422 : Cond.methodLink RX11 422 m_X6_isOf.1 ∈ lw_good := mg_4 (List.mem_of_getElem? (i := 155) rfl) rfl
theorem ml_X11_425 : Cond.methodLink RX11 425 m_X10_prepare.1 ∈ lw_good := mg_4 (List.mem_of_getElem? (i := 159) rfl) rfl
theorem ml_X11_428 : Cond.methodLink RX11 428 m_X6_open.1 ∈ lw_good := mg_4 (List.mem_of_getElem? (i := 182) rfl) rfl
theorem ml_X11_431 : Cond.methodLink RX11 431 m_X10_passWeek.1 ∈ lw_good := mg_4 (List.mem_of_getElem? (i := 191) rfl) rfl
theorem ml_X11_435 : Cond.methodLink RX11 435 m_X6_keepStock.1 ∈ lw_good := mg_4 (List.mem_of_getElem? (i := 238) rfl) rfl
theorem ml_X11_441 : Cond.methodLink RX11 441 m_X8_greatest.1 ∈ lw_good := mg_4 (List.mem_of_getElem? (i := 147) rfl) rfl
theorem ml_X0_26 : Cond.methodLink RX0 26 m_J7_copyOf_59c91.1 ∈ lw_good := mg_3 (List.mem_of_getElem? (i := 227) rfl) rfl
theorem ml_X1_59 : Cond.methodLink RX1 59 m_X10_prepare.1 ∈ lw_good := mg_5 (List.mem_of_getElem? (i := 50) rfl) rfl
theorem ml_X1_65 : Cond.methodLink RX1 65 m_X7_empty.1 ∈ lw_good := mg_5 (List.mem_of_getElem? (i := 51) rfl) rfl
theorem ml_X1_68 : Cond.methodLink RX1 68 m_X10_passWeek.1 ∈ lw_good := mg_5 (List.mem_of_getElem? (i := 52) rfl) rfl
theorem ml_X1_72 : Cond.methodLink RX1 72 m_J7_fill_53178.1 ∈ lw_good := mg_5 (List.mem_of_getElem? (i := 57) rfl) rfl
theorem ml_X1_87 : Cond.methodLink RX1 87 m_X8_rows.1 ∈ lw_good := mg_5 (List.mem_of_getElem? (i := 69) rfl) rfl
theorem ml_X1_93 : Cond.methodLink RX1 93 m_X7_copyFrom.1 ∈ lw_good := mg_5 (List.mem_of_getElem? (i := 70) rfl) rfl
theorem ml_X1_96 : Cond.methodLink RX1 96 m_X1_tellStarts.1 ∈ lw_good := mg_5 (List.mem_of_getElem? (i := 75) rfl) rfl
theorem ml_X1_100 : Cond.methodLink RX1 100 m_X1_dropStarts.1 ∈ lw_good := mg_5 (List.mem_of_getElem? (i := 80) rfl) rfl
theorem ml_X1_103 : Cond.methodLink RX1 103 m_X10_tellStart.1 ∈ lw_good := mg_5 (List.mem_of_getElem? (i := 79) rfl) rfl
theorem ml_X1_107 : Cond.methodLink RX1 107 m_X10_dropStart.1 ∈ lw_good := mg_5 (List.mem_of_getElem? (i := 84) rfl) rfl
theorem ml_X1_110 : Cond.methodLink RX1 110 m_X1_putTime.1 ∈ lw_good := mg_5 (List.mem_of_getElem? (i := 62) rfl) rfl
theorem ml_X1_113 : Cond.methodLink RX1 113 m_X1_isAmong.1 ∈ lw_good := mg_5 (List.mem_of_getElem? (i := 66) rfl) rfl
theorem ml_X1_117 : Cond.methodLink RX1 117 m_X8_at.1 ∈ lw_good := mg_5 (List.mem_of_getElem? (i := 96) rfl) rfl
theorem ml_X1_121 : Cond.methodLink RX1 121 m_X1_roomsOf.1 ∈ lw_good := mg_5 (List.mem_of_getElem? (i := 92) rfl) rfl
theorem ml_X1_125 : Cond.methodLink RX1 125 m_X7_isDone.1 ∈ lw_good := mg_5 (List.mem_of_getElem? (i := 105) rfl) rfl
theorem ml_X1_129 : Cond.methodLink RX1 129 m_X7_isShell.1 ∈ lw_good := mg_5 (List.mem_of_getElem? (i := 110) rfl) rfl
theorem ml_X1_132 : Cond.methodLink RX1 132 m_X1_housedIn.1 ∈ lw_good := mg_5 (List.mem_of_getElem? (i := 101) rfl) rfl
theorem ml_X1_136 : Cond.methodLink RX1 136 m_X1_shellsIn.1 ∈ lw_good := mg_5 (List.mem_of_getElem? (i := 106) rfl) rfl
theorem ml_X1_139 : Cond.methodLink RX1 139 m_X1_isRowAhead.1 ∈ lw_good := mg_5 (List.mem_of_getElem? (i := 115) rfl) rfl
theorem ml_X2_42 : Cond.methodLink RX2 42 m_X8_at.1 ∈ lw_good := mg_6 (List.mem_of_getElem? (i := 11) rfl) rfl
theorem ml_X2_49 : Cond.methodLink RX2 49 m_X6_doneWeek.1 ∈ lw_good := mg_6 (List.mem_of_getElem? (i := 13) rfl) rfl
theorem ml_X2_55 : Cond.methodLink RX2 55 m_X3_settle.1 ∈ lw_good := mg_6 (List.mem_of_getElem? (i := 14) rfl) rfl
theorem ml_X2_61 : Cond.methodLink RX2 61 m_X3_ask.1 ∈ lw_good := mg_6 (List.mem_of_getElem? (i := 15) rfl) rfl
theorem ml_X2_64 : Cond.methodLink RX2 64 m_X3_counted.1 ∈ lw_good := mg_6 (List.mem_of_getElem? (i := 16) rfl) rfl
theorem ml_X2_70 : Cond.methodLink RX2 70 m_X8_rows.1 ∈ lw_good := mg_6 (List.mem_of_getElem? (i := 5) rfl) rfl
theorem ml_X2_74 : Cond.methodLink RX2 74 m_X2_stayIn.1 ∈ lw_good := mg_6 (List.mem_of_getElem? (i := 17) rfl) rfl
theorem ml_X2_77 : Cond.methodLink RX2 77 m_X2_isLived.1 ∈ lw_good := mg_6 (List.mem_of_getElem? (i := 26) rfl) rfl
theorem ml_X2_81 : Cond.methodLink RX2 81 m_X2_livedStay.1 ∈ lw_good := mg_6 (List.mem_of_getElem? (i := 76) rfl) rfl
theorem ml_X2_89 : Cond.methodLink RX2 89 m_X6_isDoneBy.1 ∈ lw_good := mg_6 (List.mem_of_getElem? (i := 6) rfl) rfl
theorem ml_X2_92 : Cond.methodLink RX2 92 m_X2_endOf.1 ∈ lw_good := mg_6 (List.mem_of_getElem? (i := 7) rfl) rfl
theorem ml_X2_96 : Cond.methodLink RX2 96 m_X2_findRoofs.1 ∈ lw_good := mg_6 (List.mem_of_getElem? (i := 21) rfl) rfl
theorem ml_X2_100 : Cond.methodLink RX2 100 m_J7_fill_53178.1 ∈ lw_good := mg_6 (List.mem_of_getElem? (i := 25) rfl) rfl
theorem ml_X2_106 : Cond.methodLink RX2 106 m_X2_giveInChain.1 ∈ lw_good := mg_6 (List.mem_of_getElem? (i := 34) rfl) rfl
theorem ml_X2_109 : Cond.methodLink RX2 109 m_X2_isFree.1 ∈ lw_good := mg_6 (List.mem_of_getElem? (i := 38) rfl) rfl
theorem ml_X2_113 : Cond.methodLink RX2 113 m_X2_firstFor.1 ∈ lw_good := mg_6 (List.mem_of_getElem? (i := 42) rfl) rfl
theorem ml_X2_116 : Cond.methodLink RX2 116 m_X2_leave.1 ∈ lw_good := mg_6 (List.mem_of_getElem? (i := 46) rfl) rfl
theorem ml_X2_119 : Cond.methodLink RX2 119 m_X2_goIn.1 ∈ lw_good := mg_6 (List.mem_of_getElem? (i := 51) rfl) rfl
theorem ml_X2_132 : Cond.methodLink RX2 132 m_X8_put.1 ∈ lw_good := mg_6 (List.mem_of_getElem? (i := 50) rfl) rfl
theorem ml_X2_136 : Cond.methodLink RX2 136 m_X2_emptyStay.1 ∈ lw_good := mg_6 (List.mem_of_getElem? (i := 55) rfl) rfl
theorem ml_X2_139 : Cond.methodLink RX2 139 m_X8_add.1 ∈ lw_good := mg_6 (List.mem_of_getElem? (i := 59) rfl) rfl
theorem ml_X3_36 : Cond.methodLink RX3 36 m_J7_fill_53178.1 ∈ lw_good := mg_1 (List.mem_of_getElem? (i := 197) rfl) rfl
theorem ml_X3_65 : Cond.methodLink RX3 65 m_X3_findForced.1 ∈ lw_good := mg_4 (List.mem_of_getElem? (i := 49) rfl) rfl
theorem ml_X3_73 : Cond.methodLink RX3 73 m_X3_isForced.1 ∈ lw_good := mg_4 (List.mem_of_getElem? (i := 54) rfl) rfl
theorem ml_X3_81 : Cond.methodLink RX3 81 m_X8_at.1 ∈ lw_good := mg_5 (List.mem_of_getElem? (i := 194) rfl) rfl
theorem ml_X3_87 : Cond.methodLink RX3 87 m_X3_evaluate.1 ∈ lw_good := mg_4 (List.mem_of_getElem? (i := 71) rfl) rfl
theorem ml_X3_99 : Cond.methodLink RX3 99 m_X3_joined.1 ∈ lw_good := mg_4 (List.mem_of_getElem? (i := 76) rfl) rfl
theorem ml_X4_49 : Cond.methodLink RX4 49 m_X8_rows.1 ∈ lw_good := mg_5 (List.mem_of_getElem? (i := 167) rfl) rfl
theorem ml_X4_55 : Cond.methodLink RX4 55 m_X8_at.1 ∈ lw_good := mg_5 (List.mem_of_getElem? (i := 168) rfl) rfl
theorem ml_X4_59 : Cond.methodLink RX4 59 m_X4_isAlike.1 ∈ lw_good := mg_5 (List.mem_of_getElem? (i := 169) rfl) rfl
theorem ml_X4_63 : Cond.methodLink RX4 63 m_X4_makeOne.1 ∈ lw_good := mg_5 (List.mem_of_getElem? (i := 173) rfl) rfl
theorem ml_X4_72 : Cond.methodLink RX4 72 m_X3_ask.1 ∈ lw_good := mg_5 (List.mem_of_getElem? (i := 188) rfl) rfl
theorem ml_X4_81 : Cond.methodLink RX4 81 m_X3_askOf.1 ∈ lw_good := mg_5 (List.mem_of_getElem? (i := 190) rfl) rfl
theorem ml_X4_84 : Cond.methodLink RX4 84 m_X3_total.1 ∈ lw_good := mg_5 (List.mem_of_getElem? (i := 195) rfl) rfl
theorem ml_X4_88 : Cond.methodLink RX4 88 m_X4_sort.1 ∈ lw_good := mg_5 (List.mem_of_getElem? (i := 227) rfl) rfl
theorem ml_X4_91 : Cond.methodLink RX4 91 m_X3_settle.1 ∈ lw_good := mg_5 (List.mem_of_getElem? (i := 213) rfl) rfl
theorem ml_X4_94 : Cond.methodLink RX4 94 m_X4_weightOf.1 ∈ lw_good := mg_5 (List.mem_of_getElem? (i := 214) rfl) rfl
theorem ml_X4_98 : Cond.methodLink RX4 98 m_X4_isAhead.1 ∈ lw_good := mg_5 (List.mem_of_getElem? (i := 215) rfl) rfl
theorem ml_X4_101 : Cond.methodLink RX4 101 m_J7_fill_53178.1 ∈ lw_good := mg_5 (List.mem_of_getElem? (i := 228) rfl) rfl
theorem ml_X5_43 : Cond.methodLink RX5 43 m_X5_step.1 ∈ lw_good := mg_3 (List.mem_of_getElem? (i := 66) rfl) rfl
theorem ml_X5_46 : Cond.methodLink RX5 46 m_X5_readClause.1 ∈ lw_good := mg_3 (List.mem_of_getElem? (i := 78) rfl) rfl
theorem ml_X5_53 : Cond.methodLink RX5 53 m_X5_takeSign.1 ∈ lw_good := mg_3 (List.mem_of_getElem? (i := 187) rfl) rfl
theorem ml_X5_63 : Cond.methodLink RX5 63 m_X5_isLetter.1 ∈ lw_good := mg_3 (List.mem_of_getElem? (i := 70) rfl) rfl
theorem ml_X5_67 : Cond.methodLink RX5 67 m_X5_isDigit.1 ∈ lw_good := mg_3 (List.mem_of_getElem? (i := 73) rfl) rfl
theorem ml_X5_77 : Cond.methodLink RX5 77 m_X5_isSign.1 ∈ lw_good := mg_3 (List.mem_of_getElem? (i := 191) rfl) rfl
theorem ml_X5_80 : Cond.methodLink RX5 80 m_X5_wordIn.1 ∈ lw_good := mg_3 (List.mem_of_getElem? (i := 87) rfl) rfl
theorem ml_X5_84 : Cond.methodLink RX5 84 m_J0_length_8abf5.1 ∈ lw_good := mg_3 (List.mem_of_getElem? (i := 91) rfl) rfl
theorem ml_X5_89 : Cond.methodLink RX5 89 m_J0_charAt_5068e.1 ∈ lw_good := mg_3 (List.mem_of_getElem? (i := 101) rfl) rfl
theorem ml_X5_93 : Cond.methodLink RX5 93 m_X5_isSpelled.1 ∈ lw_good := mg_3 (List.mem_of_getElem? (i := 139) rfl) rfl
theorem ml_X5_99 : Cond.methodLink RX5 99 m_X5_isWord.1 ∈ lw_good := mg_3 (List.mem_of_getElem? (i := 83) rfl) rfl
theorem ml_X5_103 : Cond.methodLink RX5 103 m_X5_readStrike.1 ∈ lw_good := mg_3 (List.mem_of_getElem? (i := 143) rfl) rfl
theorem ml_X5_106 : Cond.methodLink RX5 106 m_X5_readHead.1 ∈ lw_good := mg_3 (List.mem_of_getElem? (i := 148) rfl) rfl
theorem ml_X5_111 : Cond.methodLink RX5 111 m_X5_readTest.1 ∈ lw_good := mg_3 (List.mem_of_getElem? (i := 197) rfl) rfl
theorem ml_X5_114 : Cond.methodLink RX5 114 m_X5_emit.1 ∈ lw_good := mg_3 (List.mem_of_getElem? (i := 166) rfl) rfl
theorem ml_X5_122 : Cond.methodLink RX5 122 m_X5_takeWord.1 ∈ lw_good := mg_3 (List.mem_of_getElem? (i := 153) rfl) rfl
theorem ml_X5_135 : Cond.methodLink RX5 135 m_X5_headOf.1 ∈ lw_good := mg_3 (List.mem_of_getElem? (i := 163) rfl) rfl
theorem ml_X5_138 : Cond.methodLink RX5 138 m_X5_readSum.1 ∈ lw_good := mg_3 (List.mem_of_getElem? (i := 170) rfl) rfl
theorem ml_X5_141 : Cond.methodLink RX5 141 m_X5_readBoth.1 ∈ lw_good := mg_3 (List.mem_of_getElem? (i := 201) rfl) rfl
theorem ml_X5_146 : Cond.methodLink RX5 146 m_X5_readPlain.1 ∈ lw_good := mg_3 (List.mem_of_getElem? (i := 205) rfl) rfl
theorem ml_X5_153 : Cond.methodLink RX5 153 m_X5_readBracket.1 ∈ lw_good := mg_3 (List.mem_of_getElem? (i := 210) rfl) rfl
theorem ml_X5_156 : Cond.methodLink RX5 156 m_X5_readTerm.1 ∈ lw_good := mg_3 (List.mem_of_getElem? (i := 174) rfl) rfl
theorem ml_X5_159 : Cond.methodLink RX5 159 m_X5_readPart.1 ∈ lw_good := mg_3 (List.mem_of_getElem? (i := 178) rfl) rfl
theorem ml_X5_162 : Cond.methodLink RX5 162 m_X5_takeLeaf.1 ∈ lw_good := mg_3 (List.mem_of_getElem? (i := 182) rfl) rfl
theorem ml_X6_32 : Cond.methodLink RX6 32 m_X7_empty.1 ∈ lw_good := mg_4 (List.mem_of_getElem? (i := 186) rfl) rfl
theorem ml_X6_45 : Cond.methodLink RX6 45 m_X6_doneWeek.1 ∈ lw_good := mg_5 (List.mem_of_getElem? (i := 15) rfl) rfl
theorem ml_X7_39 : Cond.methodLink RX7 39 m_J7_fill_53178.1 ∈ lw_good := mg_4 (List.mem_of_getElem? (i := 190) rfl) rfl
theorem ml_X7_55 : Cond.methodLink RX7 55 m_X7_isDone.1 ∈ lw_good := mg_5 (List.mem_of_getElem? (i := 114) rfl) rfl
theorem ml_X8_31 : Cond.methodLink RX8 31 m_J7_copyOf_59c91.1 ∈ lw_good := mg_4 (List.mem_of_getElem? (i := 102) rfl) rfl
theorem ml_X8_37 : Cond.methodLink RX8 37 m_X8_at.1 ∈ lw_good := mg_4 (List.mem_of_getElem? (i := 151) rfl) rfl
theorem ml_X9_19 : Cond.methodLink RX9 19 m_X8_init.1 ∈ lw_good := mg_1 (List.mem_of_getElem? (i := 39) rfl) rfl
theorem ml_X9_60 : Cond.methodLink RX9 60 m_X8_copyFrom.1 ∈ lw_good := mg_6 (List.mem_of_getElem? (i := 154) rfl) rfl
theorem ml_X10_57 : Cond.methodLink RX10 57 m_J7_fill_53178.1 ∈ lw_good := mg_4 (List.mem_of_getElem? (i := 163) rfl) rfl
theorem ml_X10_63 : Cond.methodLink RX10 63 m_X10_bringDeliveries.1 ∈ lw_good := mg_4 (List.mem_of_getElem? (i := 164) rfl) rfl
theorem ml_X10_66 : Cond.methodLink RX10 66 m_X10_bringGangs.1 ∈ lw_good := mg_4 (List.mem_of_getElem? (i := 170) rfl) rfl
theorem ml_X10_69 : Cond.methodLink RX10 69 m_X10_bringStarts.1 ∈ lw_good := mg_4 (List.mem_of_getElem? (i := 174) rfl) rfl
theorem ml_X10_78 : Cond.methodLink RX10 78 m_X8_rows.1 ∈ lw_good := mg_4 (List.mem_of_getElem? (i := 168) rfl) rfl
theorem ml_X10_84 : Cond.methodLink RX10 84 m_X8_at.1 ∈ lw_good := mg_4 (List.mem_of_getElem? (i := 169) rfl) rfl
theorem ml_X10_93 : Cond.methodLink RX10 93 m_X10_tellStart.1 ∈ lw_good := mg_4 (List.mem_of_getElem? (i := 178) rfl) rfl
theorem ml_X10_105 : Cond.methodLink RX10 105 m_X10_doBatches.1 ∈ lw_good := mg_4 (List.mem_of_getElem? (i := 195) rfl) rfl
theorem ml_X10_108 : Cond.methodLink RX10 108 m_X10_lineUp.1 ∈ lw_good := mg_4 (List.mem_of_getElem? (i := 200) rfl) rfl
theorem ml_X10_121 : Cond.methodLink RX10 121 m_X10_firstKind.1 ∈ lw_good := mg_4 (List.mem_of_getElem? (i := 212) rfl) rfl
theorem ml_X10_131 : Cond.methodLink RX10 131 m_X7_isDone.1 ∈ lw_good := mg_4 (List.mem_of_getElem? (i := 216) rfl) rfl
theorem ml_X10_135 : Cond.methodLink RX10 135 m_X10_serve.1 ∈ lw_good := mg_4 (List.mem_of_getElem? (i := 220) rfl) rfl
theorem ml_X10_147 : Cond.methodLink RX10 147 m_X10_licencesFor.1 ∈ lw_good := mg_4 (List.mem_of_getElem? (i := 204) rfl) rfl
theorem ml_X10_153 : Cond.methodLink RX10 153 m_X3_settle.1 ∈ lw_good := mg_4 (List.mem_of_getElem? (i := 208) rfl) rfl
theorem ml_X10_158 : Cond.methodLink RX10 158 m_X3_ask.1 ∈ lw_good := mg_4 (List.mem_of_getElem? (i := 209) rfl) rfl
theorem ml_X10_161 : Cond.methodLink RX10 161 m_X3_counted.1 ∈ lw_good := mg_4 (List.mem_of_getElem? (i := 210) rfl) rfl
theorem ml_X10_170 : Cond.methodLink RX10 170 m_X10_needsAt.1 ∈ lw_good := mg_4 (List.mem_of_getElem? (i := 224) rfl) rfl
theorem ml_X10_174 : Cond.methodLink RX10 174 m_X10_takeNeeds.1 ∈ lw_good := mg_4 (List.mem_of_getElem? (i := 230) rfl) rfl
theorem ml_X10_178 : Cond.methodLink RX10 178 m_X7_finishStage.1 ∈ lw_good := mg_4 (List.mem_of_getElem? (i := 234) rfl) rfl
theorem ml_L_9 : Cond.methodLink RL 9 m_X11_init.1 ∈ lw_good := mg_1 (List.mem_of_getElem? (i := 23) rfl) rfl
theorem ml_L_12 : Cond.methodLink RL 12 m_X12_init.1 ∈ lw_good := mg_6 (List.mem_of_getElem? (i := 174) rfl) rfl
theorem ml_L_13 : Cond.methodLink RL 13 m_X11_feed.1 ∈ lw_good := mg_3 (List.mem_of_getElem? (i := 36) rfl) rfl
theorem ml_L_17 : Cond.methodLink RL 17 m_X12_feed.1 ∈ lw_good := mg_7 (List.mem_of_getElem? (i := 166) rfl) rfl
theorem ml_L_18 : Cond.methodLink RL 18 m_X11_end.1 ∈ lw_good := mg_3 (List.mem_of_getElem? (i := 48) rfl) rfl
theorem ml_L_22 : Cond.methodLink RL 22 m_X12_end.1 ∈ lw_good := mg_7 (List.mem_of_getElem? (i := 174) rfl) rfl
theorem ml_L_23 : Cond.methodLink RL 23 m_X11_act.1 ∈ lw_good := mg_3 (List.mem_of_getElem? (i := 52) rfl) rfl
theorem ml_L_27 : Cond.methodLink RL 27 m_X12_act.1 ∈ lw_good := mg_7 (List.mem_of_getElem? (i := 182) rfl) rfl
theorem ml_L_28 : Cond.methodLink RL 28 m_X11_fault.1 ∈ lw_good := mg_4 (List.mem_of_getElem? (i := 37) rfl) rfl
theorem ml_L_32 : Cond.methodLink RL 32 m_X12_fault.1 ∈ lw_good := mg_7 (List.mem_of_getElem? (i := 178) rfl) rfl
theorem ml_L_33 : Cond.methodLink RL 33 m_X11_force.1 ∈ lw_good := mg_4 (List.mem_of_getElem? (i := 41) rfl) rfl
theorem ml_L_37 : Cond.methodLink RL 37 m_X12_force.1 ∈ lw_good := mg_8 (List.mem_of_getElem? (i := 108) rfl) rfl
theorem ml_L_38 : Cond.methodLink RL 38 m_X11_counts.1 ∈ lw_good := mg_4 (List.mem_of_getElem? (i := 59) rfl) rfl
theorem ml_L_42 : Cond.methodLink RL 42 m_X12_counts.1 ∈ lw_good := mg_8 (List.mem_of_getElem? (i := 123) rfl) rfl
theorem ml_L_43 : Cond.methodLink RL 43 m_X11_need.1 ∈ lw_good := mg_4 (List.mem_of_getElem? (i := 81) rfl) rfl
theorem ml_L_47 : Cond.methodLink RL 47 m_X12_need.1 ∈ lw_good := mg_8 (List.mem_of_getElem? (i := 154) rfl) rfl
theorem ml_L_48 : Cond.methodLink RL 48 m_X11_deliver.1 ∈ lw_good := mg_4 (List.mem_of_getElem? (i := 89) rfl) rfl
theorem ml_L_51 : Cond.methodLink RL 51 m_X12_deliver.1 ∈ lw_good := mg_8 (List.mem_of_getElem? (i := 163) rfl) rfl
theorem ml_L_52 : Cond.methodLink RL 52 m_X11_works.1 ∈ lw_good := mg_4 (List.mem_of_getElem? (i := 111) rfl) rfl
theorem ml_L_56 : Cond.methodLink RL 56 m_X12_works.1 ∈ lw_good := mg_8 (List.mem_of_getElem? (i := 172) rfl) rfl
theorem ml_L_57 : Cond.methodLink RL 57 m_X11_gangs.1 ∈ lw_good := mg_4 (List.mem_of_getElem? (i := 115) rfl) rfl
theorem ml_L_60 : Cond.methodLink RL 60 m_X12_gangs.1 ∈ lw_good := mg_8 (List.mem_of_getElem? (i := 178) rfl) rfl
theorem ml_L_61 : Cond.methodLink RL 61 m_X11_plot.1 ∈ lw_good := mg_4 (List.mem_of_getElem? (i := 119) rfl) rfl
theorem ml_L_64 : Cond.methodLink RL 64 m_X12_plot.1 ∈ lw_good := mg_8 (List.mem_of_getElem? (i := 186) rfl) rfl
theorem ml_L_65 : Cond.methodLink RL 65 m_X11_start.1 ∈ lw_good := mg_4 (List.mem_of_getElem? (i := 123) rfl) rfl
theorem ml_L_68 : Cond.methodLink RL 68 m_X12_start.1 ∈ lw_good := mg_8 (List.mem_of_getElem? (i := 190) rfl) rfl
theorem ml_L_69 : Cond.methodLink RL 69 m_X11_stock.1 ∈ lw_good := mg_4 (List.mem_of_getElem? (i := 135) rfl) rfl
theorem ml_L_72 : Cond.methodLink RL 72 m_X12_stock.1 ∈ lw_good := mg_8 (List.mem_of_getElem? (i := 198) rfl) rfl
theorem ml_L_73 : Cond.methodLink RL 73 m_X11_built.1 ∈ lw_good := mg_5 (List.mem_of_getElem? (i := 3) rfl) rfl
theorem ml_L_76 : Cond.methodLink RL 76 m_X12_built.1 ∈ lw_good := mg_9 (List.mem_of_getElem? (i := 23) rfl) rfl
theorem ml_L_77 : Cond.methodLink RL 77 m_X11_lacks.1 ∈ lw_good := mg_5 (List.mem_of_getElem? (i := 7) rfl) rfl
theorem ml_L_80 : Cond.methodLink RL 80 m_X12_lacks.1 ∈ lw_good := mg_9 (List.mem_of_getElem? (i := 31) rfl) rfl
theorem ml_L_81 : Cond.methodLink RL 81 m_X11_knock.1 ∈ lw_good := mg_5 (List.mem_of_getElem? (i := 28) rfl) rfl
theorem ml_L_84 : Cond.methodLink RL 84 m_X12_knock.1 ∈ lw_good := mg_9 (List.mem_of_getElem? (i := 35) rfl) rfl
theorem ml_L_85 : Cond.methodLink RL 85 m_X11_wish.1 ∈ lw_good := mg_5 (List.mem_of_getElem? (i := 34) rfl) rfl
theorem ml_L_88 : Cond.methodLink RL 88 m_X12_wish.1 ∈ lw_good := mg_9 (List.mem_of_getElem? (i := 40) rfl) rfl
theorem ml_L_89 : Cond.methodLink RL 89 m_X11_clear.1 ∈ lw_good := mg_5 (List.mem_of_getElem? (i := 38) rfl) rfl
theorem ml_L_92 : Cond.methodLink RL 92 m_X12_clear.1 ∈ lw_good := mg_9 (List.mem_of_getElem? (i := 44) rfl) rfl
theorem ml_L_93 : Cond.methodLink RL 93 m_X11_best.1 ∈ lw_good := mg_5 (List.mem_of_getElem? (i := 42) rfl) rfl
theorem ml_L_96 : Cond.methodLink RL 96 m_X12_best.1 ∈ lw_good := mg_9 (List.mem_of_getElem? (i := 48) rfl) rfl
theorem ml_L_97 : Cond.methodLink RL 97 m_X11_chosen.1 ∈ lw_good := mg_5 (List.mem_of_getElem? (i := 120) rfl) rfl
theorem ml_L_100 : Cond.methodLink RL 100 m_X12_chosen.1 ∈ lw_good := mg_9 (List.mem_of_getElem? (i := 64) rfl) rfl
theorem ml_L_101 : Cond.methodLink RL 101 m_X11_bound.1 ∈ lw_good := mg_5 (List.mem_of_getElem? (i := 124) rfl) rfl
theorem ml_L_104 : Cond.methodLink RL 104 m_X12_bound.1 ∈ lw_good := mg_9 (List.mem_of_getElem? (i := 68) rfl) rfl
theorem ml_L_105 : Cond.methodLink RL 105 m_X11_judge.1 ∈ lw_good := mg_5 (List.mem_of_getElem? (i := 138) rfl) rfl
theorem ml_L_108 : Cond.methodLink RL 108 m_X12_judge.1 ∈ lw_good := mg_9 (List.mem_of_getElem? (i := 72) rfl) rfl
theorem ml_L_109 : Cond.methodLink RL 109 m_X11_entry.1 ∈ lw_good := mg_5 (List.mem_of_getElem? (i := 143) rfl) rfl
theorem ml_L_113 : Cond.methodLink RL 113 m_X12_entry.1 ∈ lw_good := mg_9 (List.mem_of_getElem? (i := 76) rfl) rfl
theorem ml_L_114 : Cond.methodLink RL 114 m_X11_mark.1 ∈ lw_good := mg_5 (List.mem_of_getElem? (i := 147) rfl) rfl
theorem ml_L_117 : Cond.methodLink RL 117 m_X12_mark.1 ∈ lw_good := mg_9 (List.mem_of_getElem? (i := 82) rfl) rfl
theorem ml_L_118 : Cond.methodLink RL 118 m_X11_family.1 ∈ lw_good := mg_5 (List.mem_of_getElem? (i := 155) rfl) rfl
theorem ml_L_121 : Cond.methodLink RL 121 m_X12_family.1 ∈ lw_good := mg_9 (List.mem_of_getElem? (i := 95) rfl) rfl
theorem ml_L_122 : Cond.methodLink RL 122 m_X11_points.1 ∈ lw_good := mg_5 (List.mem_of_getElem? (i := 178) rfl) rfl
theorem ml_L_125 : Cond.methodLink RL 125 m_X12_points.1 ∈ lw_good := mg_9 (List.mem_of_getElem? (i := 107) rfl) rfl
theorem ml_L_126 : Cond.methodLink RL 126 m_X11_order.1 ∈ lw_good := mg_5 (List.mem_of_getElem? (i := 205) rfl) rfl
theorem ml_L_129 : Cond.methodLink RL 129 m_X12_order.1 ∈ lw_good := mg_9 (List.mem_of_getElem? (i := 124) rfl) rfl
theorem ml_L_130 : Cond.methodLink RL 130 m_X11_beside.1 ∈ lw_good := mg_5 (List.mem_of_getElem? (i := 219) rfl) rfl
theorem ml_L_133 : Cond.methodLink RL 133 m_X12_beside.1 ∈ lw_good := mg_9 (List.mem_of_getElem? (i := 136) rfl) rfl
theorem ml_L_134 : Cond.methodLink RL 134 m_X11_offer.1 ∈ lw_good := mg_5 (List.mem_of_getElem? (i := 229) rfl) rfl
theorem ml_L_137 : Cond.methodLink RL 137 m_X12_offer.1 ∈ lw_good := mg_9 (List.mem_of_getElem? (i := 140) rfl) rfl
theorem ml_L_138 : Cond.methodLink RL 138 m_X11_lives.1 ∈ lw_good := mg_6 (List.mem_of_getElem? (i := 60) rfl) rfl
theorem ml_L_141 : Cond.methodLink RL 141 m_X12_lives.1 ∈ lw_good := mg_9 (List.mem_of_getElem? (i := 189) rfl) rfl
theorem ml_L_142 : Cond.methodLink RL 142 m_X11_roof.1 ∈ lw_good := mg_6 (List.mem_of_getElem? (i := 68) rfl) rfl
theorem ml_L_145 : Cond.methodLink RL 145 m_X12_roof.1 ∈ lw_good := mg_9 (List.mem_of_getElem? (i := 197) rfl) rfl
theorem ml_L_146 : Cond.methodLink RL 146 m_X11_squat.1 ∈ lw_good := mg_6 (List.mem_of_getElem? (i := 77) rfl) rfl
theorem ml_L_149 : Cond.methodLink RL 149 m_X12_squat.1 ∈ lw_good := mg_9 (List.mem_of_getElem? (i := 201) rfl) rfl
theorem ml_L_150 : Cond.methodLink RL 150 m_X11_out.1 ∈ lw_good := mg_6 (List.mem_of_getElem? (i := 88) rfl) rfl
theorem ml_L_153 : Cond.methodLink RL 153 m_X12_out.1 ∈ lw_good := mg_9 (List.mem_of_getElem? (i := 205) rfl) rfl
theorem ml_L_154 : Cond.methodLink RL 154 m_X11_rent.1 ∈ lw_good := mg_6 (List.mem_of_getElem? (i := 94) rfl) rfl
theorem ml_L_157 : Cond.methodLink RL 157 m_X12_rent.1 ∈ lw_good := mg_9 (List.mem_of_getElem? (i := 209) rfl) rfl
theorem ml_L_158 : Cond.methodLink RL 158 m_X11_lodge.1 ∈ lw_good := mg_6 (List.mem_of_getElem? (i := 101) rfl) rfl
theorem ml_L_161 : Cond.methodLink RL 161 m_X12_lodge.1 ∈ lw_good := mg_9 (List.mem_of_getElem? (i := 213) rfl) rfl
theorem ml_L_162 : Cond.methodLink RL 162 m_X11_under.1 ∈ lw_good := mg_6 (List.mem_of_getElem? (i := 105) rfl) rfl
theorem ml_L_165 : Cond.methodLink RL 165 m_X12_under.1 ∈ lw_good := mg_9 (List.mem_of_getElem? (i := 217) rfl) rfl
theorem ml_L_166 : Cond.methodLink RL 166 m_X11_target.1 ∈ lw_good := mg_6 (List.mem_of_getElem? (i := 109) rfl) rfl
theorem ml_L_169 : Cond.methodLink RL 169 m_X12_target.1 ∈ lw_good := mg_9 (List.mem_of_getElem? (i := 221) rfl) rfl
theorem ml_L_170 : Cond.methodLink RL 170 m_X11_claim.1 ∈ lw_good := mg_6 (List.mem_of_getElem? (i := 116) rfl) rfl
theorem ml_L_173 : Cond.methodLink RL 173 m_X12_claim.1 ∈ lw_good := mg_9 (List.mem_of_getElem? (i := 228) rfl) rfl
theorem ml_L_174 : Cond.methodLink RL 174 m_X11_look.1 ∈ lw_good := mg_6 (List.mem_of_getElem? (i := 125) rfl) rfl
theorem ml_L_177 : Cond.methodLink RL 177 m_X12_look.1 ∈ lw_good := mg_9 (List.mem_of_getElem? (i := 236) rfl) rfl
theorem ml_L_178 : Cond.methodLink RL 178 m_X11_truth.1 ∈ lw_good := mg_6 (List.mem_of_getElem? (i := 134) rfl) rfl
theorem ml_L_181 : Cond.methodLink RL 181 m_X12_truth.1 ∈ lw_good := mg_10 (List.mem_of_getElem? (i := 0) rfl) rfl
theorem ml_L_182 : Cond.methodLink RL 182 m_X11_image.1 ∈ lw_good := mg_6 (List.mem_of_getElem? (i := 146) rfl) rfl
theorem ml_L_185 : Cond.methodLink RL 185 m_X12_image.1 ∈ lw_good := mg_7 (List.mem_of_getElem? (i := 150) rfl) rfl
theorem ml_L_186 : Cond.methodLink RL 186 m_X11_back.1 ∈ lw_good := mg_6 (List.mem_of_getElem? (i := 160) rfl) rfl
theorem ml_L_189 : Cond.methodLink RL 189 m_X12_back.1 ∈ lw_good := mg_7 (List.mem_of_getElem? (i := 162) rfl) rfl
theorem ml_L_190 : Cond.methodLink RL 190 m_X11_count.1 ∈ lw_good := mg_6 (List.mem_of_getElem? (i := 164) rfl) rfl
theorem ml_L_193 : Cond.methodLink RL 193 m_X12_count.1 ∈ lw_good := mg_10 (List.mem_of_getElem? (i := 4) rfl) rfl
theorem ml_L_194 : Cond.methodLink RL 194 m_X11_status.1 ∈ lw_good := mg_6 (List.mem_of_getElem? (i := 168) rfl) rfl
theorem ml_L_197 : Cond.methodLink RL 197 m_X12_status.1 ∈ lw_good := mg_10 (List.mem_of_getElem? (i := 8) rfl) rfl
theorem ml_X12_153 : Cond.methodLink RX12 153 m_X12_in.1 ∈ lw_good := mg_7 (List.mem_of_getElem? (i := 155) rfl) rfl
theorem ml_X12_163 : Cond.methodLink RX12 163 m_X12_told.1 ∈ lw_good := mg_7 (List.mem_of_getElem? (i := 158) rfl) rfl
theorem ml_X12_173 : Cond.methodLink RX12 173 m_X12_four.1 ∈ lw_good := mg_7 (List.mem_of_getElem? (i := 170) rfl) rfl
theorem ml_X12_184 : Cond.methodLink RX12 184 m_X12_next.1 ∈ lw_good := mg_7 (List.mem_of_getElem? (i := 194) rfl) rfl
theorem ml_X12_194 : Cond.methodLink RX12 194 m_X12_isSmall.1 ∈ lw_good := mg_7 (List.mem_of_getElem? (i := 198) rfl) rfl
theorem ml_X12_198 : Cond.methodLink RX12 198 m_X12_isDigit.1 ∈ lw_good := mg_7 (List.mem_of_getElem? (i := 201) rfl) rfl
theorem ml_X12_216 : Cond.methodLink RX12 216 m_X12_must.1 ∈ lw_good := mg_7 (List.mem_of_getElem? (i := 231) rfl) rfl
theorem ml_X12_226 : Cond.methodLink RX12 226 m_X12_binds.1 ∈ lw_good := mg_8 (List.mem_of_getElem? (i := 75) rfl) rfl
theorem ml_X12_229 : Cond.methodLink RX12 229 m_X12_emit.1 ∈ lw_good := mg_8 (List.mem_of_getElem? (i := 67) rfl) rfl
theorem ml_X12_243 : Cond.methodLink RX12 243 m_X12_isWord.1 ∈ lw_good := mg_7 (List.mem_of_getElem? (i := 219) rfl) rfl
theorem ml_X12_262 : Cond.methodLink RX12 262 m_X12_push.1 ∈ lw_good := mg_8 (List.mem_of_getElem? (i := 37) rfl) rfl
theorem ml_X12_265 : Cond.methodLink RX12 265 m_X12_isSign.1 ∈ lw_good := mg_8 (List.mem_of_getElem? (i := 41) rfl) rfl
theorem ml_X12_268 : Cond.methodLink RX12 268 m_X12_open.1 ∈ lw_good := mg_8 (List.mem_of_getElem? (i := 45) rfl) rfl
theorem ml_X12_275 : Cond.methodLink RX12 275 m_X12_partAt.1 ∈ lw_good := mg_8 (List.mem_of_getElem? (i := 55) rfl) rfl
theorem ml_X12_286 : Cond.methodLink RX12 286 m_X12_readPart.1 ∈ lw_good := mg_8 (List.mem_of_getElem? (i := 49) rfl) rfl
theorem ml_X12_289 : Cond.methodLink RX12 289 m_X12_settle.1 ∈ lw_good := mg_8 (List.mem_of_getElem? (i := 78) rfl) rfl
theorem ml_X12_292 : Cond.methodLink RX12 292 m_X12_inner.1 ∈ lw_good := mg_8 (List.mem_of_getElem? (i := 82) rfl) rfl
theorem ml_X12_295 : Cond.methodLink RX12 295 m_X12_behindBracket.1 ∈ lw_good := mg_8 (List.mem_of_getElem? (i := 86) rfl) rfl
theorem ml_X12_298 : Cond.methodLink RX12 298 m_X12_isCompared.1 ∈ lw_good := mg_8 (List.mem_of_getElem? (i := 90) rfl) rfl
theorem ml_X12_306 : Cond.methodLink RX12 306 m_X12_readPlain.1 ∈ lw_good := mg_8 (List.mem_of_getElem? (i := 32) rfl) rfl
theorem ml_X12_309 : Cond.methodLink RX12 309 m_X12_behindSum.1 ∈ lw_good := mg_8 (List.mem_of_getElem? (i := 71) rfl) rfl
theorem ml_X12_313 : Cond.methodLink RX12 313 m_X12_behindTest.1 ∈ lw_good := mg_8 (List.mem_of_getElem? (i := 98) rfl) rfl
theorem ml_X12_354 : Cond.methodLink RX12 354 m_X12_headAt.1 ∈ lw_good := mg_7 (List.mem_of_getElem? (i := 214) rfl) rfl
theorem ml_X12_362 : Cond.methodLink RX12 362 m_X12_number.1 ∈ lw_good := mg_7 (List.mem_of_getElem? (i := 236) rfl) rfl
theorem ml_X12_370 : Cond.methodLink RX12 370 m_X12_kindAt.1 ∈ lw_good := mg_8 (List.mem_of_getElem? (i := 2) rfl) rfl
theorem ml_X12_373 : Cond.methodLink RX12 373 m_X12_choice.1 ∈ lw_good := mg_8 (List.mem_of_getElem? (i := 9) rfl) rfl
theorem ml_X12_376 : Cond.methodLink RX12 376 m_X12_stageAt.1 ∈ lw_good := mg_8 (List.mem_of_getElem? (i := 13) rfl) rfl
theorem ml_X12_379 : Cond.methodLink RX12 379 m_X12_materialAt.1 ∈ lw_good := mg_8 (List.mem_of_getElem? (i := 20) rfl) rfl
theorem ml_X12_382 : Cond.methodLink RX12 382 m_X12_readExpression.1 ∈ lw_good := mg_8 (List.mem_of_getElem? (i := 28) rfl) rfl
theorem ml_X12_387 : Cond.methodLink RX12 387 m_X12_isWeek.1 ∈ lw_good := mg_7 (List.mem_of_getElem? (i := 186) rfl) rfl
theorem ml_X12_390 : Cond.methodLink RX12 390 m_X12_begin.1 ∈ lw_good := mg_7 (List.mem_of_getElem? (i := 190) rfl) rfl
theorem ml_X12_393 : Cond.methodLink RX12 393 m_X12_readClause.1 ∈ lw_good := mg_7 (List.mem_of_getElem? (i := 210) rfl) rfl
theorem ml_X12_396 : Cond.methodLink RX12 396 m_X12_actAt.1 ∈ lw_good := mg_8 (List.mem_of_getElem? (i := 105) rfl) rfl
theorem ml_X12_402 : Cond.methodLink RX12 402 m_X12_clauseAt.1 ∈ lw_good := mg_8 (List.mem_of_getElem? (i := 120) rfl) rfl
theorem ml_X12_406 : Cond.methodLink RX12 406 m_X12_knowBy.1 ∈ lw_good := mg_8 (List.mem_of_getElem? (i := 112) rfl) rfl
theorem ml_X12_409 : Cond.methodLink RX12 409 m_X12_findForce.1 ∈ lw_good := mg_8 (List.mem_of_getElem? (i := 116) rfl) rfl
theorem ml_X12_415 : Cond.methodLink RX12 415 m_X12_reckon.1 ∈ lw_good := mg_8 (List.mem_of_getElem? (i := 144) rfl) rfl
theorem ml_X12_426 : Cond.methodLink RX12 426 m_X12_run.1 ∈ lw_good := mg_8 (List.mem_of_getElem? (i := 140) rfl) rfl
theorem ml_X12_436 : Cond.methodLink RX12 436 m_X12_holds.1 ∈ lw_good := mg_8 (List.mem_of_getElem? (i := 136) rfl) rfl
theorem ml_X12_440 : Cond.methodLink RX12 440 m_X12_setOnly.1 ∈ lw_good := mg_8 (List.mem_of_getElem? (i := 128) rfl) rfl
theorem ml_X12_443 : Cond.methodLink RX12 443 m_X12_find.1 ∈ lw_good := mg_8 (List.mem_of_getElem? (i := 132) rfl) rfl
theorem ml_X12_447 : Cond.methodLink RX12 447 m_X12_atLeastNought.1 ∈ lw_good := mg_8 (List.mem_of_getElem? (i := 150) rfl) rfl
theorem ml_X12_452 : Cond.methodLink RX12 452 m_X12_needOf.1 ∈ lw_good := mg_8 (List.mem_of_getElem? (i := 159) rfl) rfl
theorem ml_X12_458 : Cond.methodLink RX12 458 m_X12_addFour.1 ∈ lw_good := mg_8 (List.mem_of_getElem? (i := 168) rfl) rfl
theorem ml_X12_466 : Cond.methodLink RX12 466 m_X12_isCouncil.1 ∈ lw_good := mg_8 (List.mem_of_getElem? (i := 182) rfl) rfl
theorem ml_X12_471 : Cond.methodLink RX12 471 m_X12_isPlot.1 ∈ lw_good := mg_8 (List.mem_of_getElem? (i := 194) rfl) rfl
theorem ml_X12_474 : Cond.methodLink RX12 474 m_X12_councilOf.1 ∈ lw_good := mg_8 (List.mem_of_getElem? (i := 215) rfl) rfl
theorem ml_X12_477 : Cond.methodLink RX12 477 m_X12_kindOf.1 ∈ lw_good := mg_8 (List.mem_of_getElem? (i := 219) rfl) rfl
theorem ml_X12_483 : Cond.methodLink RX12 483 m_X12_findStarts.1 ∈ lw_good := mg_8 (List.mem_of_getElem? (i := 207) rfl) rfl
theorem ml_X12_486 : Cond.methodLink RX12 486 m_X12_license.1 ∈ lw_good := mg_8 (List.mem_of_getElem? (i := 211) rfl) rfl
theorem ml_X12_489 : Cond.methodLink RX12 489 m_X12_doWork.1 ∈ lw_good := mg_8 (List.mem_of_getElem? (i := 231) rfl) rfl
theorem ml_X12_492 : Cond.methodLink RX12 492 m_X12_gangsOf.1 ∈ lw_good := mg_8 (List.mem_of_getElem? (i := 235) rfl) rfl
theorem ml_X12_495 : Cond.methodLink RX12 495 m_X12_firstOf.1 ∈ lw_good := mg_8 (List.mem_of_getElem? (i := 239) rfl) rfl
theorem ml_X12_498 : Cond.methodLink RX12 498 m_X12_isAhead.1 ∈ lw_good := mg_9 (List.mem_of_getElem? (i := 3) rfl) rfl
theorem ml_X12_501 : Cond.methodLink RX12 501 m_X12_goPlot.1 ∈ lw_good := mg_9 (List.mem_of_getElem? (i := 7) rfl) rfl
theorem ml_X12_504 : Cond.methodLink RX12 504 m_X12_roomsOf.1 ∈ lw_good := mg_9 (List.mem_of_getElem? (i := 15) rfl) rfl
theorem ml_X12_507 : Cond.methodLink RX12 507 m_X12_canTake.1 ∈ lw_good := mg_9 (List.mem_of_getElem? (i := 11) rfl) rfl
theorem ml_X12_511 : Cond.methodLink RX12 511 m_X12_finish.1 ∈ lw_good := mg_9 (List.mem_of_getElem? (i := 19) rfl) rfl
theorem ml_X12_514 : Cond.methodLink RX12 514 m_X12_goWeek.1 ∈ lw_good := mg_8 (List.mem_of_getElem? (i := 227) rfl) rfl
theorem ml_X12_517 : Cond.methodLink RX12 517 m_X12_beginRun.1 ∈ lw_good := mg_8 (List.mem_of_getElem? (i := 203) rfl) rfl
theorem ml_X12_520 : Cond.methodLink RX12 520 m_X12_goTo.1 ∈ lw_good := mg_8 (List.mem_of_getElem? (i := 223) rfl) rfl
theorem ml_X12_525 : Cond.methodLink RX12 525 m_X12_runAll.1 ∈ lw_good := mg_9 (List.mem_of_getElem? (i := 27) rfl) rfl
theorem ml_X12_535 : Cond.methodLink RX12 535 m_X12_isQuarter.1 ∈ lw_good := mg_9 (List.mem_of_getElem? (i := 52) rfl) rfl
theorem ml_X12_538 : Cond.methodLink RX12 538 m_X12_goAhead.1 ∈ lw_good := mg_9 (List.mem_of_getElem? (i := 56) rfl) rfl
theorem ml_X12_541 : Cond.methodLink RX12 541 m_X12_tryRow.1 ∈ lw_good := mg_9 (List.mem_of_getElem? (i := 60) rfl) rfl
theorem ml_X12_559 : Cond.methodLink RX12 559 m_X12_isEntry.1 ∈ lw_good := mg_9 (List.mem_of_getElem? (i := 87) rfl) rfl
theorem ml_X12_562 : Cond.methodLink RX12 562 m_X12_entryAt.1 ∈ lw_good := mg_9 (List.mem_of_getElem? (i := 91) rfl) rfl
theorem ml_X12_565 : Cond.methodLink RX12 565 m_X12_areOne.1 ∈ lw_good := mg_9 (List.mem_of_getElem? (i := 103) rfl) rfl
theorem ml_X12_568 : Cond.methodLink RX12 568 m_X12_findFamilies.1 ∈ lw_good := mg_9 (List.mem_of_getElem? (i := 99) rfl) rfl
theorem ml_X12_571 : Cond.methodLink RX12 571 m_X12_setEntry.1 ∈ lw_good := mg_9 (List.mem_of_getElem? (i := 115) rfl) rfl
theorem ml_X12_576 : Cond.methodLink RX12 576 m_X12_reckonPoints.1 ∈ lw_good := mg_9 (List.mem_of_getElem? (i := 111) rfl) rfl
theorem ml_X12_580 : Cond.methodLink RX12 580 m_X12_shown.1 ∈ lw_good := mg_9 (List.mem_of_getElem? (i := 119) rfl) rfl
theorem ml_X12_586 : Cond.methodLink RX12 586 m_X12_standsAhead.1 ∈ lw_good := mg_9 (List.mem_of_getElem? (i := 132) rfl) rfl
theorem ml_X12_589 : Cond.methodLink RX12 589 m_X12_findList.1 ∈ lw_good := mg_9 (List.mem_of_getElem? (i := 128) rfl) rfl
theorem ml_X12_593 : Cond.methodLink RX12 593 m_X12_stayAt.1 ∈ lw_good := mg_9 (List.mem_of_getElem? (i := 161) rfl) rfl
theorem ml_X12_596 : Cond.methodLink RX12 596 m_X12_livesIn.1 ∈ lw_good := mg_9 (List.mem_of_getElem? (i := 169) rfl) rfl
theorem ml_X12_599 : Cond.methodLink RX12 599 m_X12_squatsIn.1 ∈ lw_good := mg_9 (List.mem_of_getElem? (i := 173) rfl) rfl
theorem ml_X12_602 : Cond.methodLink RX12 602 m_X12_isIn.1 ∈ lw_good := mg_9 (List.mem_of_getElem? (i := 165) rfl) rfl
theorem ml_X12_605 : Cond.methodLink RX12 605 m_X12_stayOf.1 ∈ lw_good := mg_9 (List.mem_of_getElem? (i := 181) rfl) rfl
theorem ml_X12_609 : Cond.methodLink RX12 609 m_X12_isHome.1 ∈ lw_good := mg_9 (List.mem_of_getElem? (i := 153) rfl) rfl
theorem ml_X12_612 : Cond.methodLink RX12 612 m_X12_isFree.1 ∈ lw_good := mg_9 (List.mem_of_getElem? (i := 157) rfl) rfl
theorem ml_X12_615 : Cond.methodLink RX12 615 m_X12_whom.1 ∈ lw_good := mg_9 (List.mem_of_getElem? (i := 177) rfl) rfl
theorem ml_X12_618 : Cond.methodLink RX12 618 m_X12_addStay.1 ∈ lw_good := mg_9 (List.mem_of_getElem? (i := 185) rfl) rfl
theorem ml_X12_622 : Cond.methodLink RX12 622 m_X12_findHomes.1 ∈ lw_good := mg_9 (List.mem_of_getElem? (i := 144) rfl) rfl
theorem ml_X12_625 : Cond.methodLink RX12 625 m_X12_offerOne.1 ∈ lw_good := mg_9 (List.mem_of_getElem? (i := 149) rfl) rfl
theorem ml_X12_628 : Cond.methodLink RX12 628 m_X12_livingIn.1 ∈ lw_good := mg_9 (List.mem_of_getElem? (i := 193) rfl) rfl
theorem ml_X12_631 : Cond.methodLink RX12 631 m_X12_isTarget.1 ∈ lw_good := mg_9 (List.mem_of_getElem? (i := 225) rfl) rfl
theorem ml_X12_634 : Cond.methodLink RX12 634 m_X12_street.1 ∈ lw_good := mg_9 (List.mem_of_getElem? (i := 232) rfl) rfl
theorem ml_J0_335 : Cond.methodLink RJ0 335 m_J0_coder_7d493.1 ∈ lw_good := mg_3 (List.mem_of_getElem? (i := 95) rfl) rfl
theorem ml_J0_492 : Cond.methodLink RJ0 492 m_J0_isLatin1_aae02.1 ∈ lw_good := mg_3 (List.mem_of_getElem? (i := 105) rfl) rfl
theorem ml_J0_495 : Cond.methodLink RJ0 495 m_J1_charAt_3b067.1 ∈ lw_good := mg_3 (List.mem_of_getElem? (i := 109) rfl) rfl
theorem ml_J0_498 : Cond.methodLink RJ0 498 m_J2_charAt_3b067.1 ∈ lw_good := mg_3 (List.mem_of_getElem? (i := 120) rfl) rfl
theorem ml_J0_1059 : Cond.methodLink RJ0 1059 m_J3_checkIndex_8e157.1 ∈ lw_good := mg_3 (List.mem_of_getElem? (i := 117) rfl) rfl
theorem ml_J1_9 : Cond.methodLink RJ1 9 m_J0_checkIndex_df160.1 ∈ lw_good := mg_3 (List.mem_of_getElem? (i := 112) rfl) rfl
theorem ml_J2_48 : Cond.methodLink RJ2 48 m_J2_length_9d52b.1 ∈ lw_good := mg_3 (List.mem_of_getElem? (i := 126) rfl) rfl
theorem ml_J2_67 : Cond.methodLink RJ2 67 m_J2_checkIndex_2214a.1 ∈ lw_good := mg_3 (List.mem_of_getElem? (i := 123) rfl) rfl
theorem ml_J2_71 : Cond.methodLink RJ2 71 m_J2_getChar_3b067.1 ∈ lw_good := mg_3 (List.mem_of_getElem? (i := 130) rfl) rfl
theorem ml_J2_414 : Cond.methodLink RJ2 414 m_J0_checkIndex_df160.1 ∈ lw_good := mg_3 (List.mem_of_getElem? (i := 129) rfl) rfl
theorem mo_X11_1 : Cond.methodLink RX11 1 Lib.objectInit ∈ lw_good := mg_1 (List.mem_of_getElem? (i := 26) rfl) rfl
theorem mo_X9_5 : Cond.methodLink RX9 5 Lib.objectInit ∈ lw_good := mg_1 (List.mem_of_getElem? (i := 34) rfl) rfl
theorem mo_X8_3 : Cond.methodLink RX8 3 Lib.objectInit ∈ lw_good := mg_1 (List.mem_of_getElem? (i := 42) rfl) rfl
theorem mm_X8_18 : Cond.methodLink RX8 18 Lib.Math.min.name ∈ lw_good := mg_1 (List.mem_of_getElem? (i := 43) rfl) rfl
theorem mo_X5_3 : Cond.methodLink RX5 3 Lib.objectInit ∈ lw_good := mg_1 (List.mem_of_getElem? (i := 143) rfl) rfl
theorem mo_X3_3 : Cond.methodLink RX3 3 Lib.objectInit ∈ lw_good := mg_1 (List.mem_of_getElem? (i := 196) rfl) rfl
theorem mo_X10_3 : Cond.methodLink RX10 3 Lib.objectInit ∈ lw_good := mg_1 (List.mem_of_getElem? (i := 228) rfl) rfl
theorem mo_X6_3 : Cond.methodLink RX6 3 Lib.objectInit ∈ lw_good := mg_2 (List.mem_of_getElem? (i := 37) rfl) rfl
theorem mo_X7_3 : Cond.methodLink RX7 3 Lib.objectInit ∈ lw_good := mg_2 (List.mem_of_getElem? (i := 43) rfl) rfl
theorem mo_X1_3 : Cond.methodLink RX1 3 Lib.objectInit ∈ lw_good := mg_2 (List.mem_of_getElem? (i := 112) rfl) rfl
theorem mo_X4_3 : Cond.methodLink RX4 3 Lib.objectInit ∈ lw_good := mg_2 (List.mem_of_getElem? (i := 170) rfl) rfl
theorem mo_X2_3 : Cond.methodLink RX2 3 Lib.objectInit ∈ lw_good := mg_2 (List.mem_of_getElem? (i := 210) rfl) rfl
theorem mm_X5_71 : Cond.methodLink RX5 71 Lib.Math.min.name ∈ lw_good := mg_3 (List.mem_of_getElem? (i := 77) rfl) rfl
theorem mm_X11_420 : Cond.methodLink RX11 420 Lib.Math.min.name ∈ lw_good := mg_3 (List.mem_of_getElem? (i := 220) rfl) rfl
theorem mo_X0_1 : Cond.methodLink RX0 1 Lib.objectInit ∈ lw_good := mg_3 (List.mem_of_getElem? (i := 226) rfl) rfl
theorem mm_J7_304 : Cond.methodLink RJ7 304 Lib.Math.min.name ∈ lw_good := mg_3 (List.mem_of_getElem? (i := 237) rfl) rfl
theorem ma_J7_150 : Cond.methodLink RJ7 150 arraycopyName ∈ lw_good := mg_3 (List.mem_of_getElem? (i := 238) rfl) rfl
theorem mm_X11_149 : Cond.methodLink RX11 149 Lib.Math.max.name ∈ lw_good := mg_4 (List.mem_of_getElem? (i := 86) rfl) rfl
theorem mm_X10_139 : Cond.methodLink RX10 139 Lib.Math.min.name ∈ lw_good := mg_4 (List.mem_of_getElem? (i := 199) rfl) rfl
theorem ma_X10_115 : Cond.methodLink RX10 115 arraycopyName ∈ lw_good := mg_4 (List.mem_of_getElem? (i := 211) rfl) rfl
theorem mm_X10_191 : Cond.methodLink RX10 191 Lib.Math.max.name ∈ lw_good := mg_4 (List.mem_of_getElem? (i := 229) rfl) rfl
theorem ma_X6_36 : Cond.methodLink RX6 36 arraycopyName ∈ lw_good := mg_5 (List.mem_of_getElem? (i := 2) rfl) rfl
theorem ma_X7_49 : Cond.methodLink RX7 49 arraycopyName ∈ lw_good := mg_5 (List.mem_of_getElem? (i := 74) rfl) rfl
theorem ma_X1_143 : Cond.methodLink RX1 143 arraycopyName ∈ lw_good := mg_5 (List.mem_of_getElem? (i := 119) rfl) rfl
theorem mm_X4_67 : Cond.methodLink RX4 67 Lib.Math.min.name ∈ lw_good := mg_5 (List.mem_of_getElem? (i := 177) rfl) rfl
theorem mm_X4_78 : Cond.methodLink RX4 78 Lib.Math.max.name ∈ lw_good := mg_5 (List.mem_of_getElem? (i := 189) rfl) rfl
theorem mm_X11_312 : Cond.methodLink RX11 312 Lib.MathLoose.min_long.x ∈ lw_good := mg_5 (List.mem_of_getElem? (i := 199) rfl) rfl
theorem mm_X11_316 : Cond.methodLink RX11 316 Lib.MathLoose.max_long.x ∈ lw_good := mg_5 (List.mem_of_getElem? (i := 202) rfl) rfl
theorem ma_X8_40 : Cond.methodLink RX8 40 arraycopyName ∈ lw_good := mg_6 (List.mem_of_getElem? (i := 158) rfl) rfl
theorem ma_X9_64 : Cond.methodLink RX9 64 arraycopyName ∈ lw_good := mg_6 (List.mem_of_getElem? (i := 159) rfl) rfl
theorem mo_X12_1 : Cond.methodLink RX12 1 Lib.objectInit ∈ lw_good := mg_6 (List.mem_of_getElem? (i := 177) rfl) rfl
