set_option maxRecDepth 40000 in
theorem m_PF_init : x_mi Y_PF_init 0 := ⟨x_in1 26 (rfl) rfl, x_in1 1 (by decide +kernel) rfl, ⟨by decide, by decide, by decide +kernel⟩, by decide⟩
set_option maxRecDepth 40000 in
theorem v_PF_init : Y_PF_init.1.name = "<init>" ∧ Cond.instanceMethod Y_PF_init.1 ∈ x_tbl := ⟨rfl, x_in1 25 (by decide +kernel) rfl⟩
set_option maxRecDepth 40000 in
theorem m_T_init : x_mi Y_T_init 0 := ⟨x_in1 34 (rfl) rfl, x_in1 2 (by decide +kernel) rfl, ⟨by decide, by decide, by decide +kernel⟩, by decide⟩
set_option maxRecDepth 40000 in
theorem v_T_init : Y_T_init.1.name = "<init>" ∧ Cond.instanceMethod Y_T_init.1 ∈ x_tbl := ⟨rfl, x_in1 33 (by decide +kernel) rfl⟩
set_option maxRecDepth 40000 in
theorem m_S_indexOf1 : x_mi Y_S_indexOf1 1 := ⟨x_in1 40 (rfl) rfl, x_in1 3 (by decide +kernel) rfl, ⟨by decide, by decide, by decide +kernel⟩, by decide⟩
set_option maxRecDepth 40000 in
theorem v_S_indexOf1 : Cond.instanceMethod Y_S_indexOf1.1 ∈ x_tbl ∧ Cond.selects Y_S_indexOf1.1.cls Y_S_indexOf1.1 Y_S_indexOf1.1 ∈ x_tbl := ⟨x_in1 38 (by decide +kernel) rfl, x_in1 39 (by decide +kernel) rfl⟩
set_option maxRecDepth 40000 in
theorem m_S_indexOf2 : x_mi Y_S_indexOf2 2 := ⟨x_in1 44 (rfl) rfl, x_in1 3 (by decide +kernel) rfl, ⟨by decide, by decide, by decide +kernel⟩, by decide⟩
set_option maxRecDepth 40000 in
theorem v_S_indexOf2 : Cond.instanceMethod Y_S_indexOf2.1 ∈ x_tbl ∧ Cond.selects Y_S_indexOf2.1.cls Y_S_indexOf2.1 Y_S_indexOf2.1 ∈ x_tbl := ⟨x_in1 42 (by decide +kernel) rfl, x_in1 43 (by decide +kernel) rfl⟩
set_option maxRecDepth 40000 in
theorem m_S_isLatin1 : x_mi Y_S_isLatin1 0 := ⟨x_in1 48 (rfl) rfl, x_in1 3 (by decide +kernel) rfl, ⟨by decide, by decide, by decide +kernel⟩, by decide⟩
set_option maxRecDepth 40000 in
theorem v_S_isLatin1 : Cond.instanceMethod Y_S_isLatin1.1 ∈ x_tbl ∧ Cond.selects Y_S_isLatin1.1.cls Y_S_isLatin1.1 Y_S_isLatin1.1 ∈ x_tbl := ⟨x_in1 46 (by decide +kernel) rfl, x_in1 47 (by decide +kernel) rfl⟩
set_option maxRecDepth 40000 in
theorem m_S_length : x_mi Y_S_length 0 := ⟨x_in1 54 (rfl) rfl, x_in1 3 (by decide +kernel) rfl, ⟨by decide, by decide, by decide +kernel⟩, by decide⟩
set_option maxRecDepth 40000 in
theorem v_S_length : Cond.instanceMethod Y_S_length.1 ∈ x_tbl ∧ Cond.selects Y_S_length.1.cls Y_S_length.1 Y_S_length.1 ∈ x_tbl := ⟨x_in1 52 (by decide +kernel) rfl, x_in1 53 (by decide +kernel) rfl⟩
set_option maxRecDepth 40000 in
theorem m_S_coder : x_mi Y_S_coder 0 := ⟨x_in1 58 (rfl) rfl, x_in1 3 (by decide +kernel) rfl, ⟨by decide, by decide, by decide +kernel⟩, by decide⟩
set_option maxRecDepth 40000 in
theorem v_S_coder : Cond.instanceMethod Y_S_coder.1 ∈ x_tbl ∧ Cond.selects Y_S_coder.1.cls Y_S_coder.1 Y_S_coder.1 ∈ x_tbl := ⟨x_in1 56 (by decide +kernel) rfl, x_in1 57 (by decide +kernel) rfl⟩
set_option maxRecDepth 40000 in
theorem m_SL_indexOf : x_mi Y_SL_indexOf 4 := ⟨x_in1 61 (rfl) rfl, x_in1 4 (by decide +kernel) rfl, ⟨by decide, by decide, by decide +kernel⟩, by decide⟩
set_option maxRecDepth 40000 in
theorem s_SL_indexOf : Cond.static Y_SL_indexOf.1 ∈ x_tbl := x_in1 60 (by decide +kernel) rfl
set_option maxRecDepth 40000 in
theorem m_SL_canEncode : x_mi Y_SL_canEncode 1 := ⟨x_in1 64 (rfl) rfl, x_in1 4 (by decide +kernel) rfl, ⟨by decide, by decide, by decide +kernel⟩, by decide⟩
set_option maxRecDepth 40000 in
theorem s_SL_canEncode : Cond.static Y_SL_canEncode.1 ∈ x_tbl := x_in1 63 (by decide +kernel) rfl
set_option maxRecDepth 40000 in
theorem m_Ma_max1 : x_mi Y_Ma_max1 2 := ⟨x_in1 67 (rfl) rfl, x_in1 5 (by decide +kernel) rfl, ⟨by decide, by decide, by decide +kernel⟩, by decide⟩
set_option maxRecDepth 40000 in
theorem s_Ma_max1 : Cond.static Y_Ma_max1.1 ∈ x_tbl := x_in1 66 (by decide +kernel) rfl
set_option maxRecDepth 40000 in
theorem m_Ma_min1 : x_mi Y_Ma_min1 2 := ⟨x_in1 70 (rfl) rfl, x_in1 5 (by decide +kernel) rfl, ⟨by decide, by decide, by decide +kernel⟩, by decide⟩
set_option maxRecDepth 40000 in
theorem s_Ma_min1 : Cond.static Y_Ma_min1.1 ∈ x_tbl := x_in1 69 (by decide +kernel) rfl
set_option maxRecDepth 40000 in
theorem m_SL_indexOfChar : x_mi Y_SL_indexOfChar 4 := ⟨x_in1 73 (rfl) rfl, x_in1 4 (by decide +kernel) rfl, ⟨by decide, by decide, by decide +kernel⟩, by decide⟩
set_option maxRecDepth 40000 in
theorem s_SL_indexOfChar : Cond.static Y_SL_indexOfChar.1 ∈ x_tbl := x_in1 72 (by decide +kernel) rfl
set_option maxRecDepth 40000 in
theorem m_S_checkBoundsBeginEnd : x_mi Y_S_checkBoundsBeginEnd 3 := ⟨x_in1 91 (rfl) rfl, x_in1 3 (by decide +kernel) rfl, ⟨by decide, by decide, by decide +kernel⟩, by decide⟩
set_option maxRecDepth 40000 in
theorem s_S_checkBoundsBeginEnd : Cond.static Y_S_checkBoundsBeginEnd.1 ∈ x_tbl := x_in1 90 (by decide +kernel) rfl
set_option maxRecDepth 40000 in
theorem m_Pr_checkFromToIndex : x_mi Y_Pr_checkFromToIndex 4 := ⟨x_in1 96 (rfl) rfl, x_in1 7 (by decide +kernel) rfl, ⟨by decide, by decide, by decide +kernel⟩, by decide⟩
set_option maxRecDepth 40000 in
theorem s_Pr_checkFromToIndex : Cond.static Y_Pr_checkFromToIndex.1 ∈ x_tbl := x_in1 95 (by decide +kernel) rfl
set_option maxRecDepth 40000 in
theorem m_S_charAt : x_mi Y_S_charAt 1 := ⟨x_in1 128 (rfl) rfl, x_in1 3 (by decide +kernel) rfl, ⟨by decide, by decide, by decide +kernel⟩, by decide⟩
set_option maxRecDepth 40000 in
theorem v_S_charAt : Cond.instanceMethod Y_S_charAt.1 ∈ x_tbl ∧ Cond.selects Y_S_charAt.1.cls Y_S_charAt.1 Y_S_charAt.1 ∈ x_tbl := ⟨x_in1 126 (by decide +kernel) rfl, x_in1 127 (by decide +kernel) rfl⟩
set_option maxRecDepth 40000 in
theorem m_SL_charAt : x_mi Y_SL_charAt 2 := ⟨x_in1 131 (rfl) rfl, x_in1 4 (by decide +kernel) rfl, ⟨by decide, by decide, by decide +kernel⟩, by decide⟩
set_option maxRecDepth 40000 in
theorem s_SL_charAt : Cond.static Y_SL_charAt.1 ∈ x_tbl := x_in1 130 (by decide +kernel) rfl
set_option maxRecDepth 40000 in
theorem m_S_checkIndex : x_mi Y_S_checkIndex 2 := ⟨x_in1 134 (rfl) rfl, x_in1 3 (by decide +kernel) rfl, ⟨by decide, by decide, by decide +kernel⟩, by decide⟩
set_option maxRecDepth 40000 in
theorem s_S_checkIndex : Cond.static Y_S_checkIndex.1 ∈ x_tbl := x_in1 133 (by decide +kernel) rfl
set_option maxRecDepth 40000 in
theorem m_Pr_checkIndex : x_mi Y_Pr_checkIndex 3 := ⟨x_in1 137 (rfl) rfl, x_in1 7 (by decide +kernel) rfl, ⟨by decide, by decide, by decide +kernel⟩, by decide⟩
set_option maxRecDepth 40000 in
theorem s_Pr_checkIndex : Cond.static Y_Pr_checkIndex.1 ∈ x_tbl := x_in1 136 (by decide +kernel) rfl
set_option maxRecDepth 40000 in
theorem m_P_init : x_mi Y_P_init 1 := ⟨x_in1 171 (rfl) rfl, x_in1 9 (by decide +kernel) rfl, ⟨by decide, by decide, by decide +kernel⟩, by decide⟩
set_option maxRecDepth 40000 in
theorem v_P_init : Y_P_init.1.name = "<init>" ∧ Cond.instanceMethod Y_P_init.1 ∈ x_tbl := ⟨rfl, x_in1 170 (by decide +kernel) rfl⟩
set_option maxRecDepth 40000 in
theorem m_R_init : x_mi Y_R_init 2 := ⟨x_in1 223 (rfl) rfl, x_in1 10 (by decide +kernel) rfl, ⟨by decide, by decide, by decide +kernel⟩, by decide⟩
set_option maxRecDepth 40000 in
theorem v_R_init : Y_R_init.1.name = "<init>" ∧ Cond.instanceMethod Y_R_init.1 ∈ x_tbl := ⟨rfl, x_in1 222 (by decide +kernel) rfl⟩
set_option maxRecDepth 40000 in
theorem m_O_init : x_mi Y_O_init 3 := ⟨x_in1 236 (rfl) rfl, x_in1 11 (by decide +kernel) rfl, ⟨by decide, by decide, by decide +kernel⟩, by decide⟩
set_option maxRecDepth 40000 in
theorem v_O_init : Y_O_init.1.name = "<init>" ∧ Cond.instanceMethod Y_O_init.1 ∈ x_tbl := ⟨rfl, x_in1 235 (by decide +kernel) rfl⟩
set_option maxRecDepth 40000 in
theorem m_Wr_init : x_mi Y_Wr_init 2 := ⟨x_in2 39 (rfl) rfl, x_in1 12 (by decide +kernel) rfl, ⟨by decide, by decide, by decide +kernel⟩, by decide⟩
set_option maxRecDepth 40000 in
theorem v_Wr_init : Y_Wr_init.1.name = "<init>" ∧ Cond.instanceMethod Y_Wr_init.1 ∈ x_tbl := ⟨rfl, x_in2 38 (by decide +kernel) rfl⟩
set_option maxRecDepth 40000 in
theorem m_D_init : x_mi Y_D_init 2 := ⟨x_in2 61 (rfl) rfl, x_in1 13 (by decide +kernel) rfl, ⟨by decide, by decide, by decide +kernel⟩, by decide⟩
set_option maxRecDepth 40000 in
theorem v_D_init : Y_D_init.1.name = "<init>" ∧ Cond.instanceMethod Y_D_init.1 ∈ x_tbl := ⟨rfl, x_in2 60 (by decide +kernel) rfl⟩
set_option maxRecDepth 40000 in
theorem m_Pa_init : x_mi Y_Pa_init 1 := ⟨x_in2 67 (rfl) rfl, x_in1 14 (by decide +kernel) rfl, ⟨by decide, by decide, by decide +kernel⟩, by decide⟩
set_option maxRecDepth 40000 in
theorem v_Pa_init : Y_Pa_init.1.name = "<init>" ∧ Cond.instanceMethod Y_Pa_init.1 ∈ x_tbl := ⟨rfl, x_in2 66 (by decide +kernel) rfl⟩
set_option maxRecDepth 40000 in
theorem m_PW_init : x_mi Y_PW_init 1 := ⟨x_in2 118 (rfl) rfl, x_in1 15 (by decide +kernel) rfl, ⟨by decide, by decide, by decide +kernel⟩, by decide⟩
set_option maxRecDepth 40000 in
theorem v_PW_init : Y_PW_init.1.name = "<init>" ∧ Cond.instanceMethod Y_PW_init.1 ∈ x_tbl := ⟨rfl, x_in2 117 (by decide +kernel) rfl⟩
set_option maxRecDepth 40000 in
theorem m_B_init : x_mi Y_B_init 1 := ⟨x_in2 142 (rfl) rfl, x_in1 16 (by decide +kernel) rfl, ⟨by decide, by decide, by decide +kernel⟩, by decide⟩
set_option maxRecDepth 40000 in
theorem v_B_init : Y_B_init.1.name = "<init>" ∧ Cond.instanceMethod Y_B_init.1 ∈ x_tbl := ⟨rfl, x_in2 141 (by decide +kernel) rfl⟩
set_option maxRecDepth 40000 in
theorem m_PF_feed : x_mi Y_PF_feed 5 := ⟨x_in3 9 (rfl) rfl, x_in1 1 (by decide +kernel) rfl, ⟨by decide, by decide, by decide +kernel⟩, by decide⟩
set_option maxRecDepth 40000 in
theorem v_PF_feed : Cond.instanceMethod Y_PF_feed.1 ∈ x_tbl ∧ Cond.selects Y_PF_feed.1.cls Y_PF_feed.1 Y_PF_feed.1 ∈ x_tbl := ⟨x_in3 7 (by decide +kernel) rfl, x_in3 8 (by decide +kernel) rfl⟩
set_option maxRecDepth 40000 in
theorem m_T_tapeSize : x_mi Y_T_tapeSize 0 := ⟨x_in3 13 (rfl) rfl, x_in1 2 (by decide +kernel) rfl, ⟨by decide, by decide, by decide +kernel⟩, by decide⟩
set_option maxRecDepth 40000 in
theorem v_T_tapeSize : Cond.instanceMethod Y_T_tapeSize.1 ∈ x_tbl ∧ Cond.selects Y_T_tapeSize.1.cls Y_T_tapeSize.1 Y_T_tapeSize.1 ∈ x_tbl := ⟨x_in3 11 (by decide +kernel) rfl, x_in3 12 (by decide +kernel) rfl⟩
set_option maxRecDepth 40000 in
theorem m_T_hasRoom : x_mi Y_T_hasRoom 1 := ⟨x_in3 17 (rfl) rfl, x_in1 2 (by decide +kernel) rfl, ⟨by decide, by decide, by decide +kernel⟩, by decide⟩
set_option maxRecDepth 40000 in
theorem v_T_hasRoom : Cond.instanceMethod Y_T_hasRoom.1 ∈ x_tbl ∧ Cond.selects Y_T_hasRoom.1.cls Y_T_hasRoom.1 Y_T_hasRoom.1 ∈ x_tbl := ⟨x_in3 15 (by decide +kernel) rfl, x_in3 16 (by decide +kernel) rfl⟩
set_option maxRecDepth 40000 in
theorem m_T_addFour : x_mi Y_T_addFour 1 := ⟨x_in3 21 (rfl) rfl, x_in1 2 (by decide +kernel) rfl, ⟨by decide, by decide, by decide +kernel⟩, by decide⟩
set_option maxRecDepth 40000 in
theorem v_T_addFour : Cond.instanceMethod Y_T_addFour.1 ∈ x_tbl ∧ Cond.selects Y_T_addFour.1.cls Y_T_addFour.1 Y_T_addFour.1 ∈ x_tbl := ⟨x_in3 19 (by decide +kernel) rfl, x_in3 20 (by decide +kernel) rfl⟩
set_option maxRecDepth 40000 in
theorem m_PF_end : x_mi Y_PF_end 1 := ⟨x_in3 25 (rfl) rfl, x_in1 1 (by decide +kernel) rfl, ⟨by decide, by decide, by decide +kernel⟩, by decide⟩
set_option maxRecDepth 40000 in
theorem v_PF_end : Cond.instanceMethod Y_PF_end.1 ∈ x_tbl ∧ Cond.selects Y_PF_end.1.cls Y_PF_end.1 Y_PF_end.1 ∈ x_tbl := ⟨x_in3 23 (by decide +kernel) rfl, x_in3 24 (by decide +kernel) rfl⟩
set_option maxRecDepth 40000 in
theorem m_T_cutTape : x_mi Y_T_cutTape 1 := ⟨x_in3 29 (rfl) rfl, x_in1 2 (by decide +kernel) rfl, ⟨by decide, by decide, by decide +kernel⟩, by decide⟩
set_option maxRecDepth 40000 in
theorem v_T_cutTape : Cond.instanceMethod Y_T_cutTape.1 ∈ x_tbl ∧ Cond.selects Y_T_cutTape.1.cls Y_T_cutTape.1 Y_T_cutTape.1 ∈ x_tbl := ⟨x_in3 27 (by decide +kernel) rfl, x_in3 28 (by decide +kernel) rfl⟩
set_option maxRecDepth 40000 in
theorem m_PF_open : x_mi Y_PF_open 0 := ⟨x_in3 33 (rfl) rfl, x_in1 1 (by decide +kernel) rfl, ⟨by decide, by decide, by decide +kernel⟩, by decide⟩
set_option maxRecDepth 40000 in
theorem v_PF_open : Cond.instanceMethod Y_PF_open.1 ∈ x_tbl ∧ Cond.selects Y_PF_open.1.cls Y_PF_open.1 Y_PF_open.1 ∈ x_tbl := ⟨x_in3 31 (by decide +kernel) rfl, x_in3 32 (by decide +kernel) rfl⟩
set_option maxRecDepth 40000 in
theorem m_O_tablesFault : x_mi Y_O_tablesFault 1 := ⟨x_in3 37 (rfl) rfl, x_in1 11 (by decide +kernel) rfl, ⟨by decide, by decide, by decide +kernel⟩, by decide⟩
set_option maxRecDepth 40000 in
theorem v_O_tablesFault : Cond.instanceMethod Y_O_tablesFault.1 ∈ x_tbl ∧ Cond.selects Y_O_tablesFault.1.cls Y_O_tablesFault.1 Y_O_tablesFault.1 ∈ x_tbl := ⟨x_in3 35 (by decide +kernel) rfl, x_in3 36 (by decide +kernel) rfl⟩
set_option maxRecDepth 40000 in
theorem m_B_empty : x_mi Y_B_empty 2 := ⟨x_in3 41 (rfl) rfl, x_in1 16 (by decide +kernel) rfl, ⟨by decide, by decide, by decide +kernel⟩, by decide⟩
set_option maxRecDepth 40000 in
theorem v_B_empty : Cond.instanceMethod Y_B_empty.1 ∈ x_tbl ∧ Cond.selects Y_B_empty.1.cls Y_B_empty.1 Y_B_empty.1 ∈ x_tbl := ⟨x_in3 39 (by decide +kernel) rfl, x_in3 40 (by decide +kernel) rfl⟩
set_option maxRecDepth 40000 in
theorem m_T_afterText : x_mi Y_T_afterText 2 := ⟨x_in3 46 (rfl) rfl, x_in1 2 (by decide +kernel) rfl, ⟨by decide, by decide, by decide +kernel⟩, by decide⟩
set_option maxRecDepth 40000 in
theorem v_T_afterText : Cond.instanceMethod Y_T_afterText.1 ∈ x_tbl ∧ Cond.selects Y_T_afterText.1.cls Y_T_afterText.1 Y_T_afterText.1 ∈ x_tbl := ⟨x_in3 44 (by decide +kernel) rfl, x_in3 45 (by decide +kernel) rfl⟩
set_option maxRecDepth 40000 in
theorem m_T_digits : x_mi Y_T_digits 2 := ⟨x_in3 50 (rfl) rfl, x_in1 2 (by decide +kernel) rfl, ⟨by decide, by decide, by decide +kernel⟩, by decide⟩
set_option maxRecDepth 40000 in
theorem v_T_digits : Cond.instanceMethod Y_T_digits.1 ∈ x_tbl ∧ Cond.selects Y_T_digits.1.cls Y_T_digits.1 Y_T_digits.1 ∈ x_tbl := ⟨x_in3 48 (by decide +kernel) rfl, x_in3 49 (by decide +kernel) rfl⟩
set_option maxRecDepth 40000 in
theorem m_T_byteAt : x_mi Y_T_byteAt 1 := ⟨x_in3 54 (rfl) rfl, x_in1 2 (by decide +kernel) rfl, ⟨by decide, by decide, by decide +kernel⟩, by decide⟩
set_option maxRecDepth 40000 in
theorem v_T_byteAt : Cond.instanceMethod Y_T_byteAt.1 ∈ x_tbl ∧ Cond.selects Y_T_byteAt.1.cls Y_T_byteAt.1 Y_T_byteAt.1 ∈ x_tbl := ⟨x_in3 52 (by decide +kernel) rfl, x_in3 53 (by decide +kernel) rfl⟩
set_option maxRecDepth 40000 in
theorem m_O_lastPlace : x_mi Y_O_lastPlace 0 := ⟨x_in3 61 (rfl) rfl, x_in1 11 (by decide +kernel) rfl, ⟨by decide, by decide, by decide +kernel⟩, by decide⟩
set_option maxRecDepth 40000 in
theorem v_O_lastPlace : Cond.instanceMethod Y_O_lastPlace.1 ∈ x_tbl ∧ Cond.selects Y_O_lastPlace.1.cls Y_O_lastPlace.1 Y_O_lastPlace.1 ∈ x_tbl := ⟨x_in3 60 (by decide +kernel) rfl, x_in0 0 (by decide +kernel) rfl⟩
set_option maxRecDepth 40000 in
theorem m_T_afterWord : x_mi Y_T_afterWord 1 := ⟨x_in3 67 (rfl) rfl, x_in1 2 (by decide +kernel) rfl, ⟨by decide, by decide, by decide +kernel⟩, by decide⟩
set_option maxRecDepth 40000 in
theorem v_T_afterWord : Cond.instanceMethod Y_T_afterWord.1 ∈ x_tbl ∧ Cond.selects Y_T_afterWord.1.cls Y_T_afterWord.1 Y_T_afterWord.1 ∈ x_tbl := ⟨x_in3 65 (by decide +kernel) rfl, x_in3 66 (by decide +kernel) rfl⟩
set_option maxRecDepth 40000 in
theorem m_T_afterByte : x_mi Y_T_afterByte 2 := ⟨x_in3 71 (rfl) rfl, x_in1 2 (by decide +kernel) rfl, ⟨by decide, by decide, by decide +kernel⟩, by decide⟩
set_option maxRecDepth 40000 in
theorem v_T_afterByte : Cond.instanceMethod Y_T_afterByte.1 ∈ x_tbl ∧ Cond.selects Y_T_afterByte.1.cls Y_T_afterByte.1 Y_T_afterByte.1 ∈ x_tbl := ⟨x_in3 69 (by decide +kernel) rfl, x_in3 70 (by decide +kernel) rfl⟩
set_option maxRecDepth 40000 in
theorem m_T_number : x_mi Y_T_number 1 := ⟨x_in3 76 (rfl) rfl, x_in1 2 (by decide +kernel) rfl, ⟨by decide, by decide, by decide +kernel⟩, by decide⟩
set_option maxRecDepth 40000 in
theorem v_T_number : Cond.instanceMethod Y_T_number.1 ∈ x_tbl ∧ Cond.selects Y_T_number.1.cls Y_T_number.1 Y_T_number.1 ∈ x_tbl := ⟨x_in3 74 (by decide +kernel) rfl, x_in3 75 (by decide +kernel) rfl⟩
set_option maxRecDepth 40000 in
theorem m_O_readTable : x_mi Y_O_readTable 1 := ⟨x_in3 80 (rfl) rfl, x_in1 11 (by decide +kernel) rfl, ⟨by decide, by decide, by decide +kernel⟩, by decide⟩
set_option maxRecDepth 40000 in
theorem v_O_readTable : Cond.instanceMethod Y_O_readTable.1 ∈ x_tbl ∧ Cond.selects Y_O_readTable.1.cls Y_O_readTable.1 Y_O_readTable.1 ∈ x_tbl := ⟨x_in3 79 (by decide +kernel) rfl, x_in0 1 (by decide +kernel) rfl⟩
set_option maxRecDepth 40000 in
theorem m_T_afterThe : x_mi Y_T_afterThe 2 := ⟨x_in3 86 (rfl) rfl, x_in1 2 (by decide +kernel) rfl, ⟨by decide, by decide, by decide +kernel⟩, by decide⟩
set_option maxRecDepth 40000 in
theorem v_T_afterThe : Cond.instanceMethod Y_T_afterThe.1 ∈ x_tbl ∧ Cond.selects Y_T_afterThe.1.cls Y_T_afterThe.1 Y_T_afterThe.1 ∈ x_tbl := ⟨x_in3 84 (by decide +kernel) rfl, x_in3 85 (by decide +kernel) rfl⟩
set_option maxRecDepth 40000 in
theorem m_O_readSection : x_mi Y_O_readSection 2 := ⟨x_in3 91 (rfl) rfl, x_in1 11 (by decide +kernel) rfl, ⟨by decide, by decide, by decide +kernel⟩, by decide⟩
set_option maxRecDepth 40000 in
theorem v_O_readSection : Cond.instanceMethod Y_O_readSection.1 ∈ x_tbl ∧ Cond.selects Y_O_readSection.1.cls Y_O_readSection.1 Y_O_readSection.1 ∈ x_tbl := ⟨x_in3 90 (by decide +kernel) rfl, x_in0 2 (by decide +kernel) rfl⟩
set_option maxRecDepth 40000 in
theorem m_O_readEntry : x_mi Y_O_readEntry 3 := ⟨x_in3 95 (rfl) rfl, x_in1 11 (by decide +kernel) rfl, ⟨by decide, by decide, by decide +kernel⟩, by decide⟩
set_option maxRecDepth 40000 in
theorem v_O_readEntry : Cond.instanceMethod Y_O_readEntry.1 ∈ x_tbl ∧ Cond.selects Y_O_readEntry.1.cls Y_O_readEntry.1 Y_O_readEntry.1 ∈ x_tbl := ⟨x_in3 94 (by decide +kernel) rfl, x_in0 3 (by decide +kernel) rfl⟩
set_option maxRecDepth 40000 in
theorem m_Ma_min2 : x_mi Y_Ma_min2 2 := ⟨x_in3 101 (rfl) rfl, x_in1 5 (by decide +kernel) rfl, ⟨by decide, by decide, by decide +kernel⟩, by decide⟩
set_option maxRecDepth 40000 in
theorem s_Ma_min2 : Cond.static Y_Ma_min2.1 ∈ x_tbl := x_in3 100 (by decide +kernel) rfl
set_option maxRecDepth 40000 in
theorem m_O_readTrailer : x_mi Y_O_readTrailer 1 := ⟨x_in3 107 (rfl) rfl, x_in1 11 (by decide +kernel) rfl, ⟨by decide, by decide, by decide +kernel⟩, by decide⟩
set_option maxRecDepth 40000 in
theorem v_O_readTrailer : Cond.instanceMethod Y_O_readTrailer.1 ∈ x_tbl ∧ Cond.selects Y_O_readTrailer.1.cls Y_O_readTrailer.1 Y_O_readTrailer.1 ∈ x_tbl := ⟨x_in3 106 (by decide +kernel) rfl, x_in0 4 (by decide +kernel) rfl⟩
set_option maxRecDepth 40000 in
theorem m_R_read : x_mi Y_R_read 2 := ⟨x_in3 111 (rfl) rfl, x_in1 10 (by decide +kernel) rfl, ⟨by decide, by decide, by decide +kernel⟩, by decide⟩
set_option maxRecDepth 40000 in
theorem v_R_read : Cond.instanceMethod Y_R_read.1 ∈ x_tbl ∧ Cond.selects Y_R_read.1.cls Y_R_read.1 Y_R_read.1 ∈ x_tbl := ⟨x_in3 110 (by decide +kernel) rfl, x_in0 5 (by decide +kernel) rfl⟩
set_option maxRecDepth 40000 in
theorem m_R_readArray : x_mi Y_R_readArray 2 := ⟨x_in3 116 (rfl) rfl, x_in1 10 (by decide +kernel) rfl, ⟨by decide, by decide, by decide +kernel⟩, by decide⟩
set_option maxRecDepth 40000 in
theorem v_R_readArray : Cond.instanceMethod Y_R_readArray.1 ∈ x_tbl ∧ Cond.selects Y_R_readArray.1.cls Y_R_readArray.1 Y_R_readArray.1 ∈ x_tbl := ⟨x_in3 115 (by decide +kernel) rfl, x_in0 6 (by decide +kernel) rfl⟩
set_option maxRecDepth 40000 in
theorem m_P_add : x_mi Y_P_add 3 := ⟨x_in3 120 (rfl) rfl, x_in1 9 (by decide +kernel) rfl, ⟨by decide, by decide, by decide +kernel⟩, by decide⟩
set_option maxRecDepth 40000 in
theorem v_P_add : Cond.instanceMethod Y_P_add.1 ∈ x_tbl ∧ Cond.selects Y_P_add.1.cls Y_P_add.1 Y_P_add.1 ∈ x_tbl := ⟨x_in3 118 (by decide +kernel) rfl, x_in3 119 (by decide +kernel) rfl⟩
set_option maxRecDepth 40000 in
theorem m_T_afterWhite : x_mi Y_T_afterWhite 1 := ⟨x_in3 124 (rfl) rfl, x_in1 2 (by decide +kernel) rfl, ⟨by decide, by decide, by decide +kernel⟩, by decide⟩
set_option maxRecDepth 40000 in
theorem v_T_afterWhite : Cond.instanceMethod Y_T_afterWhite.1 ∈ x_tbl ∧ Cond.selects Y_T_afterWhite.1.cls Y_T_afterWhite.1 Y_T_afterWhite.1 ∈ x_tbl := ⟨x_in3 122 (by decide +kernel) rfl, x_in3 123 (by decide +kernel) rfl⟩
set_option maxRecDepth 40000 in
theorem m_P_close : x_mi Y_P_close 1 := ⟨x_in3 128 (rfl) rfl, x_in1 9 (by decide +kernel) rfl, ⟨by decide, by decide, by decide +kernel⟩, by decide⟩
set_option maxRecDepth 40000 in
theorem v_P_close : Cond.instanceMethod Y_P_close.1 ∈ x_tbl ∧ Cond.selects Y_P_close.1.cls Y_P_close.1 Y_P_close.1 ∈ x_tbl := ⟨x_in3 126 (by decide +kernel) rfl, x_in3 127 (by decide +kernel) rfl⟩
set_option maxRecDepth 40000 in
theorem m_R_readString : x_mi Y_R_readString 1 := ⟨x_in3 133 (rfl) rfl, x_in1 10 (by decide +kernel) rfl, ⟨by decide, by decide, by decide +kernel⟩, by decide⟩
set_option maxRecDepth 40000 in
theorem v_R_readString : Cond.instanceMethod Y_R_readString.1 ∈ x_tbl ∧ Cond.selects Y_R_readString.1.cls Y_R_readString.1 Y_R_readString.1 ∈ x_tbl := ⟨x_in3 132 (by decide +kernel) rfl, x_in0 7 (by decide +kernel) rfl⟩
set_option maxRecDepth 40000 in
theorem m_R_added : x_mi Y_R_added 4 := ⟨x_in3 137 (rfl) rfl, x_in1 10 (by decide +kernel) rfl, ⟨by decide, by decide, by decide +kernel⟩, by decide⟩
set_option maxRecDepth 40000 in
theorem v_R_added : Cond.instanceMethod Y_R_added.1 ∈ x_tbl ∧ Cond.selects Y_R_added.1.cls Y_R_added.1 Y_R_added.1 ∈ x_tbl := ⟨x_in3 136 (by decide +kernel) rfl, x_in0 8 (by decide +kernel) rfl⟩
set_option maxRecDepth 40000 in
theorem m_T_signSize : x_mi Y_T_signSize 1 := ⟨x_in3 141 (rfl) rfl, x_in1 2 (by decide +kernel) rfl, ⟨by decide, by decide, by decide +kernel⟩, by decide⟩
set_option maxRecDepth 40000 in
theorem v_T_signSize : Cond.instanceMethod Y_T_signSize.1 ∈ x_tbl ∧ Cond.selects Y_T_signSize.1.cls Y_T_signSize.1 Y_T_signSize.1 ∈ x_tbl := ⟨x_in3 139 (by decide +kernel) rfl, x_in3 140 (by decide +kernel) rfl⟩
set_option maxRecDepth 40000 in
theorem m_T_octal : x_mi Y_T_octal 1 := ⟨x_in3 145 (rfl) rfl, x_in1 2 (by decide +kernel) rfl, ⟨by decide, by decide, by decide +kernel⟩, by decide⟩
set_option maxRecDepth 40000 in
theorem v_T_octal : Cond.instanceMethod Y_T_octal.1 ∈ x_tbl ∧ Cond.selects Y_T_octal.1.cls Y_T_octal.1 Y_T_octal.1 ∈ x_tbl := ⟨x_in3 144 (by decide +kernel) rfl, x_in0 9 (by decide +kernel) rfl⟩
set_option maxRecDepth 40000 in
theorem m_R_readDict : x_mi Y_R_readDict 2 := ⟨x_in3 149 (rfl) rfl, x_in1 10 (by decide +kernel) rfl, ⟨by decide, by decide, by decide +kernel⟩, by decide⟩
set_option maxRecDepth 40000 in
theorem v_R_readDict : Cond.instanceMethod Y_R_readDict.1 ∈ x_tbl ∧ Cond.selects Y_R_readDict.1.cls Y_R_readDict.1 Y_R_readDict.1 ∈ x_tbl := ⟨x_in3 148 (by decide +kernel) rfl, x_in0 10 (by decide +kernel) rfl⟩
set_option maxRecDepth 40000 in
theorem m_P_hasNameOf : x_mi Y_P_hasNameOf 2 := ⟨x_in3 155 (rfl) rfl, x_in1 9 (by decide +kernel) rfl, ⟨by decide, by decide, by decide +kernel⟩, by decide⟩
set_option maxRecDepth 40000 in
theorem v_P_hasNameOf : Cond.instanceMethod Y_P_hasNameOf.1 ∈ x_tbl ∧ Cond.selects Y_P_hasNameOf.1.cls Y_P_hasNameOf.1 Y_P_hasNameOf.1 ∈ x_tbl := ⟨x_in3 153 (by decide +kernel) rfl, x_in3 154 (by decide +kernel) rfl⟩
set_option maxRecDepth 40000 in
theorem m_T_sameWord : x_mi Y_T_sameWord 2 := ⟨x_in3 159 (rfl) rfl, x_in1 2 (by decide +kernel) rfl, ⟨by decide, by decide, by decide +kernel⟩, by decide⟩
set_option maxRecDepth 40000 in
theorem v_T_sameWord : Cond.instanceMethod Y_T_sameWord.1 ∈ x_tbl ∧ Cond.selects Y_T_sameWord.1.cls Y_T_sameWord.1 Y_T_sameWord.1 ∈ x_tbl := ⟨x_in3 157 (by decide +kernel) rfl, x_in3 158 (by decide +kernel) rfl⟩
set_option maxRecDepth 40000 in
theorem m_P_behind : x_mi Y_P_behind 1 := ⟨x_in3 164 (rfl) rfl, x_in1 9 (by decide +kernel) rfl, ⟨by decide, by decide, by decide +kernel⟩, by decide⟩
set_option maxRecDepth 40000 in
theorem v_P_behind : Cond.instanceMethod Y_P_behind.1 ∈ x_tbl ∧ Cond.selects Y_P_behind.1.cls Y_P_behind.1 Y_P_behind.1 ∈ x_tbl := ⟨x_in3 162 (by decide +kernel) rfl, x_in3 163 (by decide +kernel) rfl⟩
set_option maxRecDepth 40000 in
theorem m_R_readNamed : x_mi Y_R_readNamed 2 := ⟨x_in3 169 (rfl) rfl, x_in1 10 (by decide +kernel) rfl, ⟨by decide, by decide, by decide +kernel⟩, by decide⟩
set_option maxRecDepth 40000 in
theorem v_R_readNamed : Cond.instanceMethod Y_R_readNamed.1 ∈ x_tbl ∧ Cond.selects Y_R_readNamed.1.cls Y_R_readNamed.1 Y_R_readNamed.1 ∈ x_tbl := ⟨x_in3 168 (by decide +kernel) rfl, x_in0 11 (by decide +kernel) rfl⟩
set_option maxRecDepth 40000 in
theorem m_T_afterName : x_mi Y_T_afterName 1 := ⟨x_in3 173 (rfl) rfl, x_in1 2 (by decide +kernel) rfl, ⟨by decide, by decide, by decide +kernel⟩, by decide⟩
set_option maxRecDepth 40000 in
theorem v_T_afterName : Cond.instanceMethod Y_T_afterName.1 ∈ x_tbl ∧ Cond.selects Y_T_afterName.1.cls Y_T_afterName.1 Y_T_afterName.1 ∈ x_tbl := ⟨x_in3 171 (by decide +kernel) rfl, x_in3 172 (by decide +kernel) rfl⟩
set_option maxRecDepth 40000 in
theorem m_R_readPairs : x_mi Y_R_readPairs 1 := ⟨x_in3 177 (rfl) rfl, x_in1 10 (by decide +kernel) rfl, ⟨by decide, by decide, by decide +kernel⟩, by decide⟩
set_option maxRecDepth 40000 in
theorem v_R_readPairs : Cond.instanceMethod Y_R_readPairs.1 ∈ x_tbl ∧ Cond.selects Y_R_readPairs.1.cls Y_R_readPairs.1 Y_R_readPairs.1 ∈ x_tbl := ⟨x_in3 176 (by decide +kernel) rfl, x_in0 12 (by decide +kernel) rfl⟩
set_option maxRecDepth 40000 in
theorem m_T_pair : x_mi Y_T_pair 1 := ⟨x_in3 181 (rfl) rfl, x_in1 2 (by decide +kernel) rfl, ⟨by decide, by decide, by decide +kernel⟩, by decide⟩
set_option maxRecDepth 40000 in
theorem v_T_pair : Cond.instanceMethod Y_T_pair.1 ∈ x_tbl ∧ Cond.selects Y_T_pair.1.cls Y_T_pair.1 Y_T_pair.1 ∈ x_tbl := ⟨x_in3 179 (by decide +kernel) rfl, x_in3 180 (by decide +kernel) rfl⟩
set_option maxRecDepth 40000 in
theorem m_PF_hexDigit : x_mi Y_PF_hexDigit 1 := ⟨x_in3 184 (rfl) rfl, x_in1 1 (by decide +kernel) rfl, ⟨by decide, by decide, by decide +kernel⟩, by decide⟩
set_option maxRecDepth 40000 in
theorem s_PF_hexDigit : Cond.static Y_PF_hexDigit.1 ∈ x_tbl := x_in3 183 (by decide +kernel) rfl
set_option maxRecDepth 40000 in
theorem m_R_readName : x_mi Y_R_readName 1 := ⟨x_in3 188 (rfl) rfl, x_in1 10 (by decide +kernel) rfl, ⟨by decide, by decide, by decide +kernel⟩, by decide⟩
set_option maxRecDepth 40000 in
theorem v_R_readName : Cond.instanceMethod Y_R_readName.1 ∈ x_tbl ∧ Cond.selects Y_R_readName.1.cls Y_R_readName.1 Y_R_readName.1 ∈ x_tbl := ⟨x_in3 187 (by decide +kernel) rfl, x_in0 13 (by decide +kernel) rfl⟩
set_option maxRecDepth 40000 in
theorem m_R_readWord : x_mi Y_R_readWord 1 := ⟨x_in3 192 (rfl) rfl, x_in1 10 (by decide +kernel) rfl, ⟨by decide, by decide, by decide +kernel⟩, by decide⟩
set_option maxRecDepth 40000 in
theorem v_R_readWord : Cond.instanceMethod Y_R_readWord.1 ∈ x_tbl ∧ Cond.selects Y_R_readWord.1.cls Y_R_readWord.1 Y_R_readWord.1 ∈ x_tbl := ⟨x_in3 191 (by decide +kernel) rfl, x_in0 14 (by decide +kernel) rfl⟩
set_option maxRecDepth 40000 in
theorem m_R_readConstant : x_mi Y_R_readConstant 1 := ⟨x_in3 197 (rfl) rfl, x_in1 10 (by decide +kernel) rfl, ⟨by decide, by decide, by decide +kernel⟩, by decide⟩
set_option maxRecDepth 40000 in
theorem v_R_readConstant : Cond.instanceMethod Y_R_readConstant.1 ∈ x_tbl ∧ Cond.selects Y_R_readConstant.1.cls Y_R_readConstant.1 Y_R_readConstant.1 ∈ x_tbl := ⟨x_in3 196 (by decide +kernel) rfl, x_in0 15 (by decide +kernel) rfl⟩
set_option maxRecDepth 40000 in
theorem m_R_readRef : x_mi Y_R_readRef 2 := ⟨x_in3 206 (rfl) rfl, x_in1 10 (by decide +kernel) rfl, ⟨by decide, by decide, by decide +kernel⟩, by decide⟩
set_option maxRecDepth 40000 in
theorem v_R_readRef : Cond.instanceMethod Y_R_readRef.1 ∈ x_tbl ∧ Cond.selects Y_R_readRef.1.cls Y_R_readRef.1 Y_R_readRef.1 ∈ x_tbl := ⟨x_in3 205 (by decide +kernel) rfl, x_in0 16 (by decide +kernel) rfl⟩
set_option maxRecDepth 40000 in
theorem m_P_named : x_mi Y_P_named 2 := ⟨x_in3 213 (rfl) rfl, x_in1 9 (by decide +kernel) rfl, ⟨by decide, by decide, by decide +kernel⟩, by decide⟩
set_option maxRecDepth 40000 in
theorem v_P_named : Cond.instanceMethod Y_P_named.1 ∈ x_tbl ∧ Cond.selects Y_P_named.1.cls Y_P_named.1 Y_P_named.1 ∈ x_tbl := ⟨x_in3 211 (by decide +kernel) rfl, x_in3 212 (by decide +kernel) rfl⟩
set_option maxRecDepth 40000 in
theorem m_O_objectsStand : x_mi Y_O_objectsStand 0 := ⟨x_in3 219 (rfl) rfl, x_in1 11 (by decide +kernel) rfl, ⟨by decide, by decide, by decide +kernel⟩, by decide⟩
set_option maxRecDepth 40000 in
theorem v_O_objectsStand : Cond.instanceMethod Y_O_objectsStand.1 ∈ x_tbl ∧ Cond.selects Y_O_objectsStand.1.cls Y_O_objectsStand.1 Y_O_objectsStand.1 ∈ x_tbl := ⟨x_in3 217 (by decide +kernel) rfl, x_in3 218 (by decide +kernel) rfl⟩
set_option maxRecDepth 40000 in
theorem m_O_readObject : x_mi Y_O_readObject 1 := ⟨x_in3 223 (rfl) rfl, x_in1 11 (by decide +kernel) rfl, ⟨by decide, by decide, by decide +kernel⟩, by decide⟩
set_option maxRecDepth 40000 in
theorem v_O_readObject : Cond.instanceMethod Y_O_readObject.1 ∈ x_tbl ∧ Cond.selects Y_O_readObject.1.cls Y_O_readObject.1 Y_O_readObject.1 ∈ x_tbl := ⟨x_in3 222 (by decide +kernel) rfl, x_in0 17 (by decide +kernel) rfl⟩
set_option maxRecDepth 40000 in
theorem m_O_valueAt : x_mi Y_O_valueAt 1 := ⟨x_in3 227 (rfl) rfl, x_in1 11 (by decide +kernel) rfl, ⟨by decide, by decide, by decide +kernel⟩, by decide⟩
set_option maxRecDepth 40000 in
theorem v_O_valueAt : Cond.instanceMethod Y_O_valueAt.1 ∈ x_tbl ∧ Cond.selects Y_O_valueAt.1.cls Y_O_valueAt.1 Y_O_valueAt.1 ∈ x_tbl := ⟨x_in3 226 (by decide +kernel) rfl, x_in0 18 (by decide +kernel) rfl⟩
set_option maxRecDepth 40000 in
theorem m_O_readStream : x_mi Y_O_readStream 1 := ⟨x_in3 235 (rfl) rfl, x_in1 11 (by decide +kernel) rfl, ⟨by decide, by decide, by decide +kernel⟩, by decide⟩
set_option maxRecDepth 40000 in
theorem v_O_readStream : Cond.instanceMethod Y_O_readStream.1 ∈ x_tbl ∧ Cond.selects Y_O_readStream.1.cls Y_O_readStream.1 Y_O_readStream.1 ∈ x_tbl := ⟨x_in3 234 (by decide +kernel) rfl, x_in0 19 (by decide +kernel) rfl⟩
set_option maxRecDepth 40000 in
theorem m_O_lengthOf : x_mi Y_O_lengthOf 1 := ⟨x_in3 239 (rfl) rfl, x_in1 11 (by decide +kernel) rfl, ⟨by decide, by decide, by decide +kernel⟩, by decide⟩
set_option maxRecDepth 40000 in
theorem v_O_lengthOf : Cond.instanceMethod Y_O_lengthOf.1 ∈ x_tbl ∧ Cond.selects Y_O_lengthOf.1.cls Y_O_lengthOf.1 Y_O_lengthOf.1 ∈ x_tbl := ⟨x_in3 238 (by decide +kernel) rfl, x_in0 20 (by decide +kernel) rfl⟩
set_option maxRecDepth 40000 in
theorem m_B_leadsTo : x_mi Y_B_leadsTo 1 := ⟨x_in4 4 (rfl) rfl, x_in1 16 (by decide +kernel) rfl, ⟨by decide, by decide, by decide +kernel⟩, by decide⟩
set_option maxRecDepth 40000 in
theorem v_B_leadsTo : Cond.instanceMethod Y_B_leadsTo.1 ∈ x_tbl ∧ Cond.selects Y_B_leadsTo.1.cls Y_B_leadsTo.1 Y_B_leadsTo.1 ∈ x_tbl := ⟨x_in4 2 (by decide +kernel) rfl, x_in4 3 (by decide +kernel) rfl⟩
set_option maxRecDepth 40000 in
theorem m_B_isUsed : x_mi Y_B_isUsed 1 := ⟨x_in4 8 (rfl) rfl, x_in1 16 (by decide +kernel) rfl, ⟨by decide, by decide, by decide +kernel⟩, by decide⟩
set_option maxRecDepth 40000 in
theorem v_B_isUsed : Cond.instanceMethod Y_B_isUsed.1 ∈ x_tbl ∧ Cond.selects Y_B_isUsed.1.cls Y_B_isUsed.1 Y_B_isUsed.1 ∈ x_tbl := ⟨x_in4 6 (by decide +kernel) rfl, x_in4 7 (by decide +kernel) rfl⟩
set_option maxRecDepth 40000 in
theorem m_T_dropTape : x_mi Y_T_dropTape 0 := ⟨x_in4 13 (rfl) rfl, x_in1 2 (by decide +kernel) rfl, ⟨by decide, by decide, by decide +kernel⟩, by decide⟩
set_option maxRecDepth 40000 in
theorem v_T_dropTape : Cond.instanceMethod Y_T_dropTape.1 ∈ x_tbl ∧ Cond.selects Y_T_dropTape.1.cls Y_T_dropTape.1 Y_T_dropTape.1 ∈ x_tbl := ⟨x_in4 11 (by decide +kernel) rfl, x_in4 12 (by decide +kernel) rfl⟩
set_option maxRecDepth 40000 in
theorem m_P_cut : x_mi Y_P_cut 2 := ⟨x_in4 17 (rfl) rfl, x_in1 9 (by decide +kernel) rfl, ⟨by decide, by decide, by decide +kernel⟩, by decide⟩
set_option maxRecDepth 40000 in
theorem v_P_cut : Cond.instanceMethod Y_P_cut.1 ∈ x_tbl ∧ Cond.selects Y_P_cut.1.cls Y_P_cut.1 Y_P_cut.1 ∈ x_tbl := ⟨x_in4 15 (by decide +kernel) rfl, x_in4 16 (by decide +kernel) rfl⟩
set_option maxRecDepth 40000 in
theorem m_B_closeGap : x_mi Y_B_closeGap 2 := ⟨x_in4 24 (rfl) rfl, x_in1 16 (by decide +kernel) rfl, ⟨by decide, by decide, by decide +kernel⟩, by decide⟩
set_option maxRecDepth 40000 in
theorem v_B_closeGap : Cond.instanceMethod Y_B_closeGap.1 ∈ x_tbl ∧ Cond.selects Y_B_closeGap.1.cls Y_B_closeGap.1 Y_B_closeGap.1 ∈ x_tbl := ⟨x_in4 22 (by decide +kernel) rfl, x_in4 23 (by decide +kernel) rfl⟩
set_option maxRecDepth 40000 in
theorem m_T_keepTape : x_mi Y_T_keepTape 0 := ⟨x_in4 28 (rfl) rfl, x_in1 2 (by decide +kernel) rfl, ⟨by decide, by decide, by decide +kernel⟩, by decide⟩
set_option maxRecDepth 40000 in
theorem v_T_keepTape : Cond.instanceMethod Y_T_keepTape.1 ∈ x_tbl ∧ Cond.selects Y_T_keepTape.1.cls Y_T_keepTape.1 Y_T_keepTape.1 ∈ x_tbl := ⟨x_in4 26 (by decide +kernel) rfl, x_in4 27 (by decide +kernel) rfl⟩
set_option maxRecDepth 40000 in
theorem m_PF_go : x_mi Y_PF_go 1 := ⟨x_in4 32 (rfl) rfl, x_in1 1 (by decide +kernel) rfl, ⟨by decide, by decide, by decide +kernel⟩, by decide⟩
set_option maxRecDepth 40000 in
theorem v_PF_go : Cond.instanceMethod Y_PF_go.1 ∈ x_tbl ∧ Cond.selects Y_PF_go.1.cls Y_PF_go.1 Y_PF_go.1 ∈ x_tbl := ⟨x_in4 30 (by decide +kernel) rfl, x_in4 31 (by decide +kernel) rfl⟩
set_option maxRecDepth 40000 in
theorem m_PF_pointAt : x_mi Y_PF_pointAt 1 := ⟨x_in4 37 (rfl) rfl, x_in1 1 (by decide +kernel) rfl, ⟨by decide, by decide, by decide +kernel⟩, by decide⟩
set_option maxRecDepth 40000 in
theorem v_PF_pointAt : Cond.instanceMethod Y_PF_pointAt.1 ∈ x_tbl ∧ Cond.selects Y_PF_pointAt.1.cls Y_PF_pointAt.1 Y_PF_pointAt.1 ∈ x_tbl := ⟨x_in4 36 (by decide +kernel) rfl, x_in0 21 (by decide +kernel) rfl⟩
set_option maxRecDepth 40000 in
theorem m_PF_trailer : x_mi Y_PF_trailer 0 := ⟨x_in4 41 (rfl) rfl, x_in1 1 (by decide +kernel) rfl, ⟨by decide, by decide, by decide +kernel⟩, by decide⟩
set_option maxRecDepth 40000 in
theorem v_PF_trailer : Cond.instanceMethod Y_PF_trailer.1 ∈ x_tbl ∧ Cond.selects Y_PF_trailer.1.cls Y_PF_trailer.1 Y_PF_trailer.1 ∈ x_tbl := ⟨x_in4 39 (by decide +kernel) rfl, x_in4 40 (by decide +kernel) rfl⟩
set_option maxRecDepth 40000 in
theorem m_B_isOpen : x_mi Y_B_isOpen 0 := ⟨x_in4 45 (rfl) rfl, x_in1 16 (by decide +kernel) rfl, ⟨by decide, by decide, by decide +kernel⟩, by decide⟩
set_option maxRecDepth 40000 in
theorem v_B_isOpen : Cond.instanceMethod Y_B_isOpen.1 ∈ x_tbl ∧ Cond.selects Y_B_isOpen.1.cls Y_B_isOpen.1 Y_B_isOpen.1 ∈ x_tbl := ⟨x_in4 43 (by decide +kernel) rfl, x_in4 44 (by decide +kernel) rfl⟩
set_option maxRecDepth 40000 in
theorem m_PF_item : x_mi Y_PF_item 1 := ⟨x_in4 49 (rfl) rfl, x_in1 1 (by decide +kernel) rfl, ⟨by decide, by decide, by decide +kernel⟩, by decide⟩
set_option maxRecDepth 40000 in
theorem v_PF_item : Cond.instanceMethod Y_PF_item.1 ∈ x_tbl ∧ Cond.selects Y_PF_item.1.cls Y_PF_item.1 Y_PF_item.1 ∈ x_tbl := ⟨x_in4 47 (by decide +kernel) rfl, x_in4 48 (by decide +kernel) rfl⟩
set_option maxRecDepth 40000 in
theorem m_P_itemAt : x_mi Y_P_itemAt 2 := ⟨x_in4 53 (rfl) rfl, x_in1 9 (by decide +kernel) rfl, ⟨by decide, by decide, by decide +kernel⟩, by decide⟩
set_option maxRecDepth 40000 in
theorem v_P_itemAt : Cond.instanceMethod Y_P_itemAt.1 ∈ x_tbl ∧ Cond.selects Y_P_itemAt.1.cls Y_P_itemAt.1 Y_P_itemAt.1 ∈ x_tbl := ⟨x_in4 51 (by decide +kernel) rfl, x_in4 52 (by decide +kernel) rfl⟩
set_option maxRecDepth 40000 in
theorem m_PF_find : x_mi Y_PF_find 0 := ⟨x_in4 57 (rfl) rfl, x_in1 1 (by decide +kernel) rfl, ⟨by decide, by decide, by decide +kernel⟩, by decide⟩
set_option maxRecDepth 40000 in
theorem v_PF_find : Cond.instanceMethod Y_PF_find.1 ∈ x_tbl ∧ Cond.selects Y_PF_find.1.cls Y_PF_find.1 Y_PF_find.1 ∈ x_tbl := ⟨x_in4 55 (by decide +kernel) rfl, x_in4 56 (by decide +kernel) rfl⟩
set_option maxRecDepth 40000 in
theorem m_P_namedByTape : x_mi Y_P_namedByTape 1 := ⟨x_in4 61 (rfl) rfl, x_in1 9 (by decide +kernel) rfl, ⟨by decide, by decide, by decide +kernel⟩, by decide⟩
set_option maxRecDepth 40000 in
theorem v_P_namedByTape : Cond.instanceMethod Y_P_namedByTape.1 ∈ x_tbl ∧ Cond.selects Y_P_namedByTape.1.cls Y_P_namedByTape.1 Y_P_namedByTape.1 ∈ x_tbl := ⟨x_in4 59 (by decide +kernel) rfl, x_in4 60 (by decide +kernel) rfl⟩
set_option maxRecDepth 40000 in
theorem m_T_tapeIsWord : x_mi Y_T_tapeIsWord 1 := ⟨x_in4 65 (rfl) rfl, x_in1 2 (by decide +kernel) rfl, ⟨by decide, by decide, by decide +kernel⟩, by decide⟩
set_option maxRecDepth 40000 in
theorem v_T_tapeIsWord : Cond.instanceMethod Y_T_tapeIsWord.1 ∈ x_tbl ∧ Cond.selects Y_T_tapeIsWord.1.cls Y_T_tapeIsWord.1 Y_T_tapeIsWord.1 ∈ x_tbl := ⟨x_in4 63 (by decide +kernel) rfl, x_in4 64 (by decide +kernel) rfl⟩
set_option maxRecDepth 40000 in
theorem m_PF_follow : x_mi Y_PF_follow 0 := ⟨x_in4 71 (rfl) rfl, x_in1 1 (by decide +kernel) rfl, ⟨by decide, by decide, by decide +kernel⟩, by decide⟩
set_option maxRecDepth 40000 in
theorem v_PF_follow : Cond.instanceMethod Y_PF_follow.1 ∈ x_tbl ∧ Cond.selects Y_PF_follow.1.cls Y_PF_follow.1 Y_PF_follow.1 ∈ x_tbl := ⟨x_in4 69 (by decide +kernel) rfl, x_in4 70 (by decide +kernel) rfl⟩
set_option maxRecDepth 40000 in
theorem m_PF_look : x_mi Y_PF_look 1 := ⟨x_in4 76 (rfl) rfl, x_in1 1 (by decide +kernel) rfl, ⟨by decide, by decide, by decide +kernel⟩, by decide⟩
set_option maxRecDepth 40000 in
theorem v_PF_look : Cond.instanceMethod Y_PF_look.1 ∈ x_tbl ∧ Cond.selects Y_PF_look.1.cls Y_PF_look.1 Y_PF_look.1 ∈ x_tbl := ⟨x_in4 74 (by decide +kernel) rfl, x_in4 75 (by decide +kernel) rfl⟩
set_option maxRecDepth 40000 in
theorem m_P_measure : x_mi Y_P_measure 1 := ⟨x_in4 80 (rfl) rfl, x_in1 9 (by decide +kernel) rfl, ⟨by decide, by decide, by decide +kernel⟩, by decide⟩
set_option maxRecDepth 40000 in
theorem v_P_measure : Cond.instanceMethod Y_P_measure.1 ∈ x_tbl ∧ Cond.selects Y_P_measure.1.cls Y_P_measure.1 Y_P_measure.1 ∈ x_tbl := ⟨x_in4 78 (by decide +kernel) rfl, x_in4 79 (by decide +kernel) rfl⟩
set_option maxRecDepth 40000 in
theorem m_P_items : x_mi Y_P_items 1 := ⟨x_in4 84 (rfl) rfl, x_in1 9 (by decide +kernel) rfl, ⟨by decide, by decide, by decide +kernel⟩, by decide⟩
set_option maxRecDepth 40000 in
theorem v_P_items : Cond.instanceMethod Y_P_items.1 ∈ x_tbl ∧ Cond.selects Y_P_items.1.cls Y_P_items.1 Y_P_items.1 ∈ x_tbl := ⟨x_in4 82 (by decide +kernel) rfl, x_in4 83 (by decide +kernel) rfl⟩
set_option maxRecDepth 40000 in
theorem m_P_secondMeasure : x_mi Y_P_secondMeasure 1 := ⟨x_in4 88 (rfl) rfl, x_in1 9 (by decide +kernel) rfl, ⟨by decide, by decide, by decide +kernel⟩, by decide⟩
set_option maxRecDepth 40000 in
theorem v_P_secondMeasure : Cond.instanceMethod Y_P_secondMeasure.1 ∈ x_tbl ∧ Cond.selects Y_P_secondMeasure.1.cls Y_P_secondMeasure.1 Y_P_secondMeasure.1 ∈ x_tbl := ⟨x_in4 86 (by decide +kernel) rfl, x_in4 87 (by decide +kernel) rfl⟩
set_option maxRecDepth 40000 in
theorem m_PF_bytes : x_mi Y_PF_bytes 1 := ⟨x_in4 92 (rfl) rfl, x_in1 1 (by decide +kernel) rfl, ⟨by decide, by decide, by decide +kernel⟩, by decide⟩
set_option maxRecDepth 40000 in
theorem v_PF_bytes : Cond.instanceMethod Y_PF_bytes.1 ∈ x_tbl ∧ Cond.selects Y_PF_bytes.1.cls Y_PF_bytes.1 Y_PF_bytes.1 ∈ x_tbl := ⟨x_in4 90 (by decide +kernel) rfl, x_in4 91 (by decide +kernel) rfl⟩
set_option maxRecDepth 40000 in
theorem m_Pa_start : x_mi Y_Pa_start 1 := ⟨x_in4 96 (rfl) rfl, x_in1 14 (by decide +kernel) rfl, ⟨by decide, by decide, by decide +kernel⟩, by decide⟩
set_option maxRecDepth 40000 in
theorem v_Pa_start : Cond.instanceMethod Y_Pa_start.1 ∈ x_tbl ∧ Cond.selects Y_Pa_start.1.cls Y_Pa_start.1 Y_Pa_start.1 ∈ x_tbl := ⟨x_in4 94 (by decide +kernel) rfl, x_in4 95 (by decide +kernel) rfl⟩
set_option maxRecDepth 40000 in
theorem m_Pa_addString : x_mi Y_Pa_addString 4 := ⟨x_in4 101 (rfl) rfl, x_in1 14 (by decide +kernel) rfl, ⟨by decide, by decide, by decide +kernel⟩, by decide⟩
set_option maxRecDepth 40000 in
theorem v_Pa_addString : Cond.instanceMethod Y_Pa_addString.1 ∈ x_tbl ∧ Cond.selects Y_Pa_addString.1.cls Y_Pa_addString.1 Y_Pa_addString.1 ∈ x_tbl := ⟨x_in4 99 (by decide +kernel) rfl, x_in4 100 (by decide +kernel) rfl⟩
set_option maxRecDepth 40000 in
theorem m_T_sign : x_mi Y_T_sign 2 := ⟨x_in4 108 (rfl) rfl, x_in1 2 (by decide +kernel) rfl, ⟨by decide, by decide, by decide +kernel⟩, by decide⟩
set_option maxRecDepth 40000 in
theorem v_T_sign : Cond.instanceMethod Y_T_sign.1 ∈ x_tbl ∧ Cond.selects Y_T_sign.1.cls Y_T_sign.1 Y_T_sign.1 ∈ x_tbl := ⟨x_in4 106 (by decide +kernel) rfl, x_in4 107 (by decide +kernel) rfl⟩
set_option maxRecDepth 40000 in
theorem m_Pa_add : x_mi Y_Pa_add 1 := ⟨x_in4 114 (rfl) rfl, x_in1 14 (by decide +kernel) rfl, ⟨by decide, by decide, by decide +kernel⟩, by decide⟩
set_option maxRecDepth 40000 in
theorem v_Pa_add : Cond.instanceMethod Y_Pa_add.1 ∈ x_tbl ∧ Cond.selects Y_Pa_add.1.cls Y_Pa_add.1 Y_Pa_add.1 ∈ x_tbl := ⟨x_in4 112 (by decide +kernel) rfl, x_in4 113 (by decide +kernel) rfl⟩
set_option maxRecDepth 40000 in
theorem m_PF_outBecomes : x_mi Y_PF_outBecomes 2 := ⟨x_in4 118 (rfl) rfl, x_in1 1 (by decide +kernel) rfl, ⟨by decide, by decide, by decide +kernel⟩, by decide⟩
set_option maxRecDepth 40000 in
theorem v_PF_outBecomes : Cond.instanceMethod Y_PF_outBecomes.1 ∈ x_tbl ∧ Cond.selects Y_PF_outBecomes.1.cls Y_PF_outBecomes.1 Y_PF_outBecomes.1 ∈ x_tbl := ⟨x_in4 117 (by decide +kernel) rfl, x_in0 22 (by decide +kernel) rfl⟩
set_option maxRecDepth 40000 in
theorem m_Pa_addRow : x_mi Y_Pa_addRow 3 := ⟨x_in4 122 (rfl) rfl, x_in1 14 (by decide +kernel) rfl, ⟨by decide, by decide, by decide +kernel⟩, by decide⟩
set_option maxRecDepth 40000 in
theorem v_Pa_addRow : Cond.instanceMethod Y_Pa_addRow.1 ∈ x_tbl ∧ Cond.selects Y_Pa_addRow.1.cls Y_Pa_addRow.1 Y_Pa_addRow.1 ∈ x_tbl := ⟨x_in4 120 (by decide +kernel) rfl, x_in4 121 (by decide +kernel) rfl⟩
set_option maxRecDepth 40000 in
theorem m_PF_decode : x_mi Y_PF_decode 0 := ⟨x_in4 128 (rfl) rfl, x_in1 1 (by decide +kernel) rfl, ⟨by decide, by decide, by decide +kernel⟩, by decide⟩
set_option maxRecDepth 40000 in
theorem v_PF_decode : Cond.instanceMethod Y_PF_decode.1 ∈ x_tbl ∧ Cond.selects Y_PF_decode.1.cls Y_PF_decode.1 Y_PF_decode.1 ∈ x_tbl := ⟨x_in4 126 (by decide +kernel) rfl, x_in4 127 (by decide +kernel) rfl⟩
set_option maxRecDepth 40000 in
theorem m_D_run : x_mi Y_D_run 1 := ⟨x_in4 132 (rfl) rfl, x_in1 13 (by decide +kernel) rfl, ⟨by decide, by decide, by decide +kernel⟩, by decide⟩
set_option maxRecDepth 40000 in
theorem v_D_run : Cond.instanceMethod Y_D_run.1 ∈ x_tbl ∧ Cond.selects Y_D_run.1.cls Y_D_run.1 Y_D_run.1 ∈ x_tbl := ⟨x_in4 130 (by decide +kernel) rfl, x_in4 131 (by decide +kernel) rfl⟩
set_option maxRecDepth 40000 in
theorem m_D_pass : x_mi Y_D_pass 1 := ⟨x_in4 139 (rfl) rfl, x_in1 13 (by decide +kernel) rfl, ⟨by decide, by decide, by decide +kernel⟩, by decide⟩
set_option maxRecDepth 40000 in
theorem v_D_pass : Cond.instanceMethod Y_D_pass.1 ∈ x_tbl ∧ Cond.selects Y_D_pass.1.cls Y_D_pass.1 Y_D_pass.1 ∈ x_tbl := ⟨x_in4 138 (by decide +kernel) rfl, x_in0 23 (by decide +kernel) rfl⟩
set_option maxRecDepth 40000 in
theorem m_D_passNamed : x_mi Y_D_passNamed 1 := ⟨x_in4 144 (rfl) rfl, x_in1 13 (by decide +kernel) rfl, ⟨by decide, by decide, by decide +kernel⟩, by decide⟩
set_option maxRecDepth 40000 in
theorem v_D_passNamed : Cond.instanceMethod Y_D_passNamed.1 ∈ x_tbl ∧ Cond.selects Y_D_passNamed.1.cls Y_D_passNamed.1 Y_D_passNamed.1 ∈ x_tbl := ⟨x_in4 143 (by decide +kernel) rfl, x_in0 24 (by decide +kernel) rfl⟩
set_option maxRecDepth 40000 in
theorem m_P_isName : x_mi Y_P_isName 2 := ⟨x_in4 149 (rfl) rfl, x_in1 9 (by decide +kernel) rfl, ⟨by decide, by decide, by decide +kernel⟩, by decide⟩
set_option maxRecDepth 40000 in
theorem v_P_isName : Cond.instanceMethod Y_P_isName.1 ∈ x_tbl ∧ Cond.selects Y_P_isName.1.cls Y_P_isName.1 Y_P_isName.1 ∈ x_tbl := ⟨x_in4 147 (by decide +kernel) rfl, x_in4 148 (by decide +kernel) rfl⟩
set_option maxRecDepth 40000 in
theorem m_D_passHex : x_mi Y_D_passHex 0 := ⟨x_in4 155 (rfl) rfl, x_in1 13 (by decide +kernel) rfl, ⟨by decide, by decide, by decide +kernel⟩, by decide⟩
set_option maxRecDepth 40000 in
theorem v_D_passHex : Cond.instanceMethod Y_D_passHex.1 ∈ x_tbl ∧ Cond.selects Y_D_passHex.1.cls Y_D_passHex.1 Y_D_passHex.1 ∈ x_tbl := ⟨x_in4 154 (by decide +kernel) rfl, x_in0 25 (by decide +kernel) rfl⟩
set_option maxRecDepth 40000 in
theorem m_D_passRuns : x_mi Y_D_passRuns 0 := ⟨x_in4 162 (rfl) rfl, x_in1 13 (by decide +kernel) rfl, ⟨by decide, by decide, by decide +kernel⟩, by decide⟩
set_option maxRecDepth 40000 in
theorem v_D_passRuns : Cond.instanceMethod Y_D_passRuns.1 ∈ x_tbl ∧ Cond.selects Y_D_passRuns.1.cls Y_D_passRuns.1 Y_D_passRuns.1 ∈ x_tbl := ⟨x_in4 161 (by decide +kernel) rfl, x_in0 26 (by decide +kernel) rfl⟩
set_option maxRecDepth 40000 in
theorem m_D_passBase85 : x_mi Y_D_passBase85 0 := ⟨x_in4 168 (rfl) rfl, x_in1 13 (by decide +kernel) rfl, ⟨by decide, by decide, by decide +kernel⟩, by decide⟩
set_option maxRecDepth 40000 in
theorem v_D_passBase85 : Cond.instanceMethod Y_D_passBase85.1 ∈ x_tbl ∧ Cond.selects Y_D_passBase85.1.cls Y_D_passBase85.1 Y_D_passBase85.1 ∈ x_tbl := ⟨x_in4 167 (by decide +kernel) rfl, x_in0 27 (by decide +kernel) rfl⟩
set_option maxRecDepth 40000 in
theorem m_D_passZeros : x_mi Y_D_passZeros 0 := ⟨x_in4 173 (rfl) rfl, x_in1 13 (by decide +kernel) rfl, ⟨by decide, by decide, by decide +kernel⟩, by decide⟩
set_option maxRecDepth 40000 in
theorem v_D_passZeros : Cond.instanceMethod Y_D_passZeros.1 ∈ x_tbl ∧ Cond.selects Y_D_passZeros.1.cls Y_D_passZeros.1 Y_D_passZeros.1 ∈ x_tbl := ⟨x_in4 172 (by decide +kernel) rfl, x_in0 28 (by decide +kernel) rfl⟩
set_option maxRecDepth 40000 in
theorem m_D_passGroup : x_mi Y_D_passGroup 2 := ⟨x_in4 177 (rfl) rfl, x_in1 13 (by decide +kernel) rfl, ⟨by decide, by decide, by decide +kernel⟩, by decide⟩
set_option maxRecDepth 40000 in
theorem v_D_passGroup : Cond.instanceMethod Y_D_passGroup.1 ∈ x_tbl ∧ Cond.selects Y_D_passGroup.1.cls Y_D_passGroup.1 Y_D_passGroup.1 ∈ x_tbl := ⟨x_in4 176 (by decide +kernel) rfl, x_in0 29 (by decide +kernel) rfl⟩
set_option maxRecDepth 40000 in
theorem m_PF_octet : x_mi Y_PF_octet 1 := ⟨x_in4 183 (rfl) rfl, x_in1 1 (by decide +kernel) rfl, ⟨by decide, by decide, by decide +kernel⟩, by decide⟩
set_option maxRecDepth 40000 in
theorem v_PF_octet : Cond.instanceMethod Y_PF_octet.1 ∈ x_tbl ∧ Cond.selects Y_PF_octet.1.cls Y_PF_octet.1 Y_PF_octet.1 ∈ x_tbl := ⟨x_in4 181 (by decide +kernel) rfl, x_in4 182 (by decide +kernel) rfl⟩
set_option maxRecDepth 40000 in
theorem m_PF_put : x_mi Y_PF_put 1 := ⟨x_in4 187 (rfl) rfl, x_in1 1 (by decide +kernel) rfl, ⟨by decide, by decide, by decide +kernel⟩, by decide⟩
set_option maxRecDepth 40000 in
theorem v_PF_put : Cond.instanceMethod Y_PF_put.1 ∈ x_tbl ∧ Cond.selects Y_PF_put.1.cls Y_PF_put.1 Y_PF_put.1 ∈ x_tbl := ⟨x_in4 185 (by decide +kernel) rfl, x_in4 186 (by decide +kernel) rfl⟩
set_option maxRecDepth 40000 in
theorem m_PF_whyNot : x_mi Y_PF_whyNot 1 := ⟨x_in4 191 (rfl) rfl, x_in1 1 (by decide +kernel) rfl, ⟨by decide, by decide, by decide +kernel⟩, by decide⟩
set_option maxRecDepth 40000 in
theorem v_PF_whyNot : Cond.instanceMethod Y_PF_whyNot.1 ∈ x_tbl ∧ Cond.selects Y_PF_whyNot.1.cls Y_PF_whyNot.1 Y_PF_whyNot.1 ∈ x_tbl := ⟨x_in4 190 (by decide +kernel) rfl, x_in0 30 (by decide +kernel) rfl⟩
set_option maxRecDepth 40000 in
theorem m_B_partsBut : x_mi Y_B_partsBut 1 := ⟨x_in4 197 (rfl) rfl, x_in1 16 (by decide +kernel) rfl, ⟨by decide, by decide, by decide +kernel⟩, by decide⟩
set_option maxRecDepth 40000 in
theorem v_B_partsBut : Cond.instanceMethod Y_B_partsBut.1 ∈ x_tbl ∧ Cond.selects Y_B_partsBut.1.cls Y_B_partsBut.1 Y_B_partsBut.1 ∈ x_tbl := ⟨x_in4 195 (by decide +kernel) rfl, x_in4 196 (by decide +kernel) rfl⟩
set_option maxRecDepth 40000 in
theorem m_PF_change : x_mi Y_PF_change 3 := ⟨x_in4 201 (rfl) rfl, x_in1 1 (by decide +kernel) rfl, ⟨by decide, by decide, by decide +kernel⟩, by decide⟩
set_option maxRecDepth 40000 in
theorem v_PF_change : Cond.instanceMethod Y_PF_change.1 ∈ x_tbl ∧ Cond.selects Y_PF_change.1.cls Y_PF_change.1 Y_PF_change.1 ∈ x_tbl := ⟨x_in4 200 (by decide +kernel) rfl, x_in0 31 (by decide +kernel) rfl⟩
set_option maxRecDepth 40000 in
theorem m_B_take : x_mi Y_B_take 3 := ⟨x_in4 205 (rfl) rfl, x_in1 16 (by decide +kernel) rfl, ⟨by decide, by decide, by decide +kernel⟩, by decide⟩
set_option maxRecDepth 40000 in
theorem v_B_take : Cond.instanceMethod Y_B_take.1 ∈ x_tbl ∧ Cond.selects Y_B_take.1.cls Y_B_take.1 Y_B_take.1 ∈ x_tbl := ⟨x_in4 203 (by decide +kernel) rfl, x_in4 204 (by decide +kernel) rfl⟩
set_option maxRecDepth 40000 in
theorem m_B_forget : x_mi Y_B_forget 1 := ⟨x_in4 210 (rfl) rfl, x_in1 16 (by decide +kernel) rfl, ⟨by decide, by decide, by decide +kernel⟩, by decide⟩
set_option maxRecDepth 40000 in
theorem v_B_forget : Cond.instanceMethod Y_B_forget.1 ∈ x_tbl ∧ Cond.selects Y_B_forget.1.cls Y_B_forget.1 Y_B_forget.1 ∈ x_tbl := ⟨x_in4 209 (by decide +kernel) rfl, x_in0 32 (by decide +kernel) rfl⟩
set_option maxRecDepth 40000 in
theorem m_PF_refuse : x_mi Y_PF_refuse 2 := ⟨x_in4 216 (rfl) rfl, x_in1 1 (by decide +kernel) rfl, ⟨by decide, by decide, by decide +kernel⟩, by decide⟩
set_option maxRecDepth 40000 in
theorem v_PF_refuse : Cond.instanceMethod Y_PF_refuse.1 ∈ x_tbl ∧ Cond.selects Y_PF_refuse.1.cls Y_PF_refuse.1 Y_PF_refuse.1 ∈ x_tbl := ⟨x_in4 215 (by decide +kernel) rfl, x_in0 33 (by decide +kernel) rfl⟩
set_option maxRecDepth 40000 in
theorem m_PF_pour : x_mi Y_PF_pour 1 := ⟨x_in4 220 (rfl) rfl, x_in1 1 (by decide +kernel) rfl, ⟨by decide, by decide, by decide +kernel⟩, by decide⟩
set_option maxRecDepth 40000 in
theorem v_PF_pour : Cond.instanceMethod Y_PF_pour.1 ∈ x_tbl ∧ Cond.selects Y_PF_pour.1.cls Y_PF_pour.1 Y_PF_pour.1 ∈ x_tbl := ⟨x_in4 218 (by decide +kernel) rfl, x_in4 219 (by decide +kernel) rfl⟩
set_option maxRecDepth 40000 in
theorem m_B_pouredBut : x_mi Y_B_pouredBut 1 := ⟨x_in4 224 (rfl) rfl, x_in1 16 (by decide +kernel) rfl, ⟨by decide, by decide, by decide +kernel⟩, by decide⟩
set_option maxRecDepth 40000 in
theorem v_B_pouredBut : Cond.instanceMethod Y_B_pouredBut.1 ∈ x_tbl ∧ Cond.selects Y_B_pouredBut.1.cls Y_B_pouredBut.1 Y_B_pouredBut.1 ∈ x_tbl := ⟨x_in4 222 (by decide +kernel) rfl, x_in4 223 (by decide +kernel) rfl⟩
set_option maxRecDepth 40000 in
theorem m_P_addPoured : x_mi Y_P_addPoured 2 := ⟨x_in4 228 (rfl) rfl, x_in1 9 (by decide +kernel) rfl, ⟨by decide, by decide, by decide +kernel⟩, by decide⟩
set_option maxRecDepth 40000 in
theorem v_P_addPoured : Cond.instanceMethod Y_P_addPoured.1 ∈ x_tbl ∧ Cond.selects Y_P_addPoured.1.cls Y_P_addPoured.1 Y_P_addPoured.1 ∈ x_tbl := ⟨x_in4 226 (by decide +kernel) rfl, x_in4 227 (by decide +kernel) rfl⟩
set_option maxRecDepth 40000 in
theorem m_PF_free : x_mi Y_PF_free 1 := ⟨x_in4 234 (rfl) rfl, x_in1 1 (by decide +kernel) rfl, ⟨by decide, by decide, by decide +kernel⟩, by decide⟩
set_option maxRecDepth 40000 in
theorem v_PF_free : Cond.instanceMethod Y_PF_free.1 ∈ x_tbl ∧ Cond.selects Y_PF_free.1.cls Y_PF_free.1 Y_PF_free.1 ∈ x_tbl := ⟨x_in4 232 (by decide +kernel) rfl, x_in4 233 (by decide +kernel) rfl⟩
set_option maxRecDepth 40000 in
theorem m_B_release : x_mi Y_B_release 1 := ⟨x_in4 238 (rfl) rfl, x_in1 16 (by decide +kernel) rfl, ⟨by decide, by decide, by decide +kernel⟩, by decide⟩
set_option maxRecDepth 40000 in
theorem v_B_release : Cond.instanceMethod Y_B_release.1 ∈ x_tbl ∧ Cond.selects Y_B_release.1.cls Y_B_release.1 Y_B_release.1 ∈ x_tbl := ⟨x_in4 236 (by decide +kernel) rfl, x_in4 237 (by decide +kernel) rfl⟩
set_option maxRecDepth 40000 in
theorem m_B_marked : x_mi Y_B_marked 1 := ⟨x_in5 3 (rfl) rfl, x_in1 16 (by decide +kernel) rfl, ⟨by decide, by decide, by decide +kernel⟩, by decide⟩
set_option maxRecDepth 40000 in
theorem v_B_marked : Cond.instanceMethod Y_B_marked.1 ∈ x_tbl ∧ Cond.selects Y_B_marked.1.cls Y_B_marked.1 Y_B_marked.1 ∈ x_tbl := ⟨x_in5 1 (by decide +kernel) rfl, x_in5 2 (by decide +kernel) rfl⟩
set_option maxRecDepth 40000 in
theorem m_PF_save : x_mi Y_PF_save 0 := ⟨x_in5 7 (rfl) rfl, x_in1 1 (by decide +kernel) rfl, ⟨by decide, by decide, by decide +kernel⟩, by decide⟩
set_option maxRecDepth 40000 in
theorem v_PF_save : Cond.instanceMethod Y_PF_save.1 ∈ x_tbl ∧ Cond.selects Y_PF_save.1.cls Y_PF_save.1 Y_PF_save.1 ∈ x_tbl := ⟨x_in5 5 (by decide +kernel) rfl, x_in5 6 (by decide +kernel) rfl⟩
set_option maxRecDepth 40000 in
theorem m_Wr_writeFile : x_mi Y_Wr_writeFile 2 := ⟨x_in5 11 (rfl) rfl, x_in1 12 (by decide +kernel) rfl, ⟨by decide, by decide, by decide +kernel⟩, by decide⟩
set_option maxRecDepth 40000 in
theorem v_Wr_writeFile : Cond.instanceMethod Y_Wr_writeFile.1 ∈ x_tbl ∧ Cond.selects Y_Wr_writeFile.1.cls Y_Wr_writeFile.1 Y_Wr_writeFile.1 ∈ x_tbl := ⟨x_in5 9 (by decide +kernel) rfl, x_in5 10 (by decide +kernel) rfl⟩
set_option maxRecDepth 40000 in
theorem m_Wr_writeObject : x_mi Y_Wr_writeObject 1 := ⟨x_in5 17 (rfl) rfl, x_in1 12 (by decide +kernel) rfl, ⟨by decide, by decide, by decide +kernel⟩, by decide⟩
set_option maxRecDepth 40000 in
theorem v_Wr_writeObject : Cond.instanceMethod Y_Wr_writeObject.1 ∈ x_tbl ∧ Cond.selects Y_Wr_writeObject.1.cls Y_Wr_writeObject.1 Y_Wr_writeObject.1 ∈ x_tbl := ⟨x_in5 16 (by decide +kernel) rfl, x_in0 34 (by decide +kernel) rfl⟩
set_option maxRecDepth 40000 in
theorem m_Pa_addInt : x_mi Y_Pa_addInt 1 := ⟨x_in5 21 (rfl) rfl, x_in1 14 (by decide +kernel) rfl, ⟨by decide, by decide, by decide +kernel⟩, by decide⟩
set_option maxRecDepth 40000 in
theorem v_Pa_addInt : Cond.instanceMethod Y_Pa_addInt.1 ∈ x_tbl ∧ Cond.selects Y_Pa_addInt.1.cls Y_Pa_addInt.1 Y_Pa_addInt.1 ∈ x_tbl := ⟨x_in5 19 (by decide +kernel) rfl, x_in5 20 (by decide +kernel) rfl⟩
set_option maxRecDepth 40000 in
theorem m_Ma_abs : x_mi Y_Ma_abs 1 := ⟨x_in5 24 (rfl) rfl, x_in1 5 (by decide +kernel) rfl, ⟨by decide, by decide, by decide +kernel⟩, by decide⟩
set_option maxRecDepth 40000 in
theorem s_Ma_abs : Cond.static Y_Ma_abs.1 ∈ x_tbl := x_in5 23 (by decide +kernel) rfl
set_option maxRecDepth 40000 in
theorem m_Pa_addDigits : x_mi Y_Pa_addDigits 2 := ⟨x_in5 28 (rfl) rfl, x_in1 14 (by decide +kernel) rfl, ⟨by decide, by decide, by decide +kernel⟩, by decide⟩
set_option maxRecDepth 40000 in
theorem v_Pa_addDigits : Cond.instanceMethod Y_Pa_addDigits.1 ∈ x_tbl ∧ Cond.selects Y_Pa_addDigits.1.cls Y_Pa_addDigits.1 Y_Pa_addDigits.1 ∈ x_tbl := ⟨x_in5 26 (by decide +kernel) rfl, x_in5 27 (by decide +kernel) rfl⟩
set_option maxRecDepth 40000 in
theorem m_Ma_max2 : x_mi Y_Ma_max2 2 := ⟨x_in5 33 (rfl) rfl, x_in1 5 (by decide +kernel) rfl, ⟨by decide, by decide, by decide +kernel⟩, by decide⟩
set_option maxRecDepth 40000 in
theorem s_Ma_max2 : Cond.static Y_Ma_max2.1 ∈ x_tbl := x_in5 32 (by decide +kernel) rfl
set_option maxRecDepth 40000 in
theorem m_Pa_addText : x_mi Y_Pa_addText 1 := ⟨x_in5 39 (rfl) rfl, x_in1 14 (by decide +kernel) rfl, ⟨by decide, by decide, by decide +kernel⟩, by decide⟩
set_option maxRecDepth 40000 in
theorem v_Pa_addText : Cond.instanceMethod Y_Pa_addText.1 ∈ x_tbl ∧ Cond.selects Y_Pa_addText.1.cls Y_Pa_addText.1 Y_Pa_addText.1 ∈ x_tbl := ⟨x_in5 37 (by decide +kernel) rfl, x_in5 38 (by decide +kernel) rfl⟩
set_option maxRecDepth 40000 in
theorem m_Wr_writeValue : x_mi Y_Wr_writeValue 2 := ⟨x_in5 44 (rfl) rfl, x_in1 12 (by decide +kernel) rfl, ⟨by decide, by decide, by decide +kernel⟩, by decide⟩
set_option maxRecDepth 40000 in
theorem v_Wr_writeValue : Cond.instanceMethod Y_Wr_writeValue.1 ∈ x_tbl ∧ Cond.selects Y_Wr_writeValue.1.cls Y_Wr_writeValue.1 Y_Wr_writeValue.1 ∈ x_tbl := ⟨x_in5 43 (by decide +kernel) rfl, x_in0 35 (by decide +kernel) rfl⟩
set_option maxRecDepth 40000 in
theorem m_Wr_writeRef : x_mi Y_Wr_writeRef 1 := ⟨x_in5 52 (rfl) rfl, x_in1 12 (by decide +kernel) rfl, ⟨by decide, by decide, by decide +kernel⟩, by decide⟩
set_option maxRecDepth 40000 in
theorem v_Wr_writeRef : Cond.instanceMethod Y_Wr_writeRef.1 ∈ x_tbl ∧ Cond.selects Y_Wr_writeRef.1.cls Y_Wr_writeRef.1 Y_Wr_writeRef.1 ∈ x_tbl := ⟨x_in5 51 (by decide +kernel) rfl, x_in0 36 (by decide +kernel) rfl⟩
set_option maxRecDepth 40000 in
theorem m_Wr_writeItems : x_mi Y_Wr_writeItems 4 := ⟨x_in5 59 (rfl) rfl, x_in1 12 (by decide +kernel) rfl, ⟨by decide, by decide, by decide +kernel⟩, by decide⟩
set_option maxRecDepth 40000 in
theorem v_Wr_writeItems : Cond.instanceMethod Y_Wr_writeItems.1 ∈ x_tbl ∧ Cond.selects Y_Wr_writeItems.1.cls Y_Wr_writeItems.1 Y_Wr_writeItems.1 ∈ x_tbl := ⟨x_in5 58 (by decide +kernel) rfl, x_in0 37 (by decide +kernel) rfl⟩
set_option maxRecDepth 40000 in
theorem m_Wr_writeName : x_mi Y_Wr_writeName 2 := ⟨x_in5 64 (rfl) rfl, x_in1 12 (by decide +kernel) rfl, ⟨by decide, by decide, by decide +kernel⟩, by decide⟩
set_option maxRecDepth 40000 in
theorem v_Wr_writeName : Cond.instanceMethod Y_Wr_writeName.1 ∈ x_tbl ∧ Cond.selects Y_Wr_writeName.1.cls Y_Wr_writeName.1 Y_Wr_writeName.1 ∈ x_tbl := ⟨x_in5 63 (by decide +kernel) rfl, x_in0 38 (by decide +kernel) rfl⟩
set_option maxRecDepth 40000 in
theorem m_Wr_writeData : x_mi Y_Wr_writeData 1 := ⟨x_in5 71 (rfl) rfl, x_in1 12 (by decide +kernel) rfl, ⟨by decide, by decide, by decide +kernel⟩, by decide⟩
set_option maxRecDepth 40000 in
theorem v_Wr_writeData : Cond.instanceMethod Y_Wr_writeData.1 ∈ x_tbl ∧ Cond.selects Y_Wr_writeData.1.cls Y_Wr_writeData.1 Y_Wr_writeData.1 ∈ x_tbl := ⟨x_in5 70 (by decide +kernel) rfl, x_in0 39 (by decide +kernel) rfl⟩
set_option maxRecDepth 40000 in
theorem m_Wr_writeSections : x_mi Y_Wr_writeSections 0 := ⟨x_in5 81 (rfl) rfl, x_in1 12 (by decide +kernel) rfl, ⟨by decide, by decide, by decide +kernel⟩, by decide⟩
set_option maxRecDepth 40000 in
theorem v_Wr_writeSections : Cond.instanceMethod Y_Wr_writeSections.1 ∈ x_tbl ∧ Cond.selects Y_Wr_writeSections.1.cls Y_Wr_writeSections.1 Y_Wr_writeSections.1 ∈ x_tbl := ⟨x_in5 80 (by decide +kernel) rfl, x_in0 40 (by decide +kernel) rfl⟩
set_option maxRecDepth 40000 in
theorem m_Wr_writeSection : x_mi Y_Wr_writeSection 1 := ⟨x_in5 85 (rfl) rfl, x_in1 12 (by decide +kernel) rfl, ⟨by decide, by decide, by decide +kernel⟩, by decide⟩
set_option maxRecDepth 40000 in
theorem v_Wr_writeSection : Cond.instanceMethod Y_Wr_writeSection.1 ∈ x_tbl ∧ Cond.selects Y_Wr_writeSection.1.cls Y_Wr_writeSection.1 Y_Wr_writeSection.1 ∈ x_tbl := ⟨x_in5 84 (by decide +kernel) rfl, x_in0 41 (by decide +kernel) rfl⟩
set_option maxRecDepth 40000 in
theorem m_Wr_writeTrailer : x_mi Y_Wr_writeTrailer 0 := ⟨x_in5 93 (rfl) rfl, x_in1 12 (by decide +kernel) rfl, ⟨by decide, by decide, by decide +kernel⟩, by decide⟩
set_option maxRecDepth 40000 in
theorem v_Wr_writeTrailer : Cond.instanceMethod Y_Wr_writeTrailer.1 ∈ x_tbl ∧ Cond.selects Y_Wr_writeTrailer.1.cls Y_Wr_writeTrailer.1 Y_Wr_writeTrailer.1 ∈ x_tbl := ⟨x_in5 92 (by decide +kernel) rfl, x_in0 42 (by decide +kernel) rfl⟩
set_option maxRecDepth 40000 in
theorem m_PF_pages : x_mi Y_PF_pages 0 := ⟨x_in5 103 (rfl) rfl, x_in1 1 (by decide +kernel) rfl, ⟨by decide, by decide, by decide +kernel⟩, by decide⟩
set_option maxRecDepth 40000 in
theorem v_PF_pages : Cond.instanceMethod Y_PF_pages.1 ∈ x_tbl ∧ Cond.selects Y_PF_pages.1.cls Y_PF_pages.1 Y_PF_pages.1 ∈ x_tbl := ⟨x_in5 101 (by decide +kernel) rfl, x_in5 102 (by decide +kernel) rfl⟩
set_option maxRecDepth 40000 in
theorem m_PW_through : x_mi Y_PW_through 1 := ⟨x_in5 107 (rfl) rfl, x_in1 15 (by decide +kernel) rfl, ⟨by decide, by decide, by decide +kernel⟩, by decide⟩
set_option maxRecDepth 40000 in
theorem v_PW_through : Cond.instanceMethod Y_PW_through.1 ∈ x_tbl ∧ Cond.selects Y_PW_through.1.cls Y_PW_through.1 Y_PW_through.1 ∈ x_tbl := ⟨x_in5 105 (by decide +kernel) rfl, x_in5 106 (by decide +kernel) rfl⟩
set_option maxRecDepth 40000 in
theorem m_PW_isDict : x_mi Y_PW_isDict 1 := ⟨x_in5 114 (rfl) rfl, x_in1 15 (by decide +kernel) rfl, ⟨by decide, by decide, by decide +kernel⟩, by decide⟩
set_option maxRecDepth 40000 in
theorem v_PW_isDict : Cond.instanceMethod Y_PW_isDict.1 ∈ x_tbl ∧ Cond.selects Y_PW_isDict.1.cls Y_PW_isDict.1 Y_PW_isDict.1 ∈ x_tbl := ⟨x_in5 113 (by decide +kernel) rfl, x_in0 43 (by decide +kernel) rfl⟩
set_option maxRecDepth 40000 in
theorem m_PW_visit : x_mi Y_PW_visit 2 := ⟨x_in5 119 (rfl) rfl, x_in1 15 (by decide +kernel) rfl, ⟨by decide, by decide, by decide +kernel⟩, by decide⟩
set_option maxRecDepth 40000 in
theorem v_PW_visit : Cond.instanceMethod Y_PW_visit.1 ∈ x_tbl ∧ Cond.selects Y_PW_visit.1.cls Y_PW_visit.1 Y_PW_visit.1 ∈ x_tbl := ⟨x_in5 118 (by decide +kernel) rfl, x_in0 44 (by decide +kernel) rfl⟩
set_option maxRecDepth 40000 in
theorem m_PW_visitKids : x_mi Y_PW_visitKids 2 := ⟨x_in5 127 (rfl) rfl, x_in1 15 (by decide +kernel) rfl, ⟨by decide, by decide, by decide +kernel⟩, by decide⟩
set_option maxRecDepth 40000 in
theorem v_PW_visitKids : Cond.instanceMethod Y_PW_visitKids.1 ∈ x_tbl ∧ Cond.selects Y_PW_visitKids.1.cls Y_PW_visitKids.1 Y_PW_visitKids.1 ∈ x_tbl := ⟨x_in5 126 (by decide +kernel) rfl, x_in0 45 (by decide +kernel) rfl⟩
set_option maxRecDepth 40000 in
theorem m_PF_page : x_mi Y_PF_page 1 := ⟨x_in5 132 (rfl) rfl, x_in1 1 (by decide +kernel) rfl, ⟨by decide, by decide, by decide +kernel⟩, by decide⟩
set_option maxRecDepth 40000 in
theorem v_PF_page : Cond.instanceMethod Y_PF_page.1 ∈ x_tbl ∧ Cond.selects Y_PF_page.1.cls Y_PF_page.1 Y_PF_page.1 ∈ x_tbl := ⟨x_in5 130 (by decide +kernel) rfl, x_in5 131 (by decide +kernel) rfl⟩
set_option maxRecDepth 40000 in
theorem m_PF_count : x_mi Y_PF_count 1 := ⟨x_in5 136 (rfl) rfl, x_in1 1 (by decide +kernel) rfl, ⟨by decide, by decide, by decide +kernel⟩, by decide⟩
set_option maxRecDepth 40000 in
theorem v_PF_count : Cond.instanceMethod Y_PF_count.1 ∈ x_tbl ∧ Cond.selects Y_PF_count.1.cls Y_PF_count.1 Y_PF_count.1 ∈ x_tbl := ⟨x_in5 134 (by decide +kernel) rfl, x_in5 135 (by decide +kernel) rfl⟩
set_option maxRecDepth 40000 in
theorem m_PF_state : x_mi Y_PF_state 2 := ⟨x_in5 140 (rfl) rfl, x_in1 1 (by decide +kernel) rfl, ⟨by decide, by decide, by decide +kernel⟩, by decide⟩
set_option maxRecDepth 40000 in
theorem v_PF_state : Cond.instanceMethod Y_PF_state.1 ∈ x_tbl ∧ Cond.selects Y_PF_state.1.cls Y_PF_state.1 Y_PF_state.1 ∈ x_tbl := ⟨x_in5 138 (by decide +kernel) rfl, x_in5 139 (by decide +kernel) rfl⟩
set_option maxRecDepth 40000 in
theorem m_M_init : x_mi Y_M_init 0 := ⟨x_in5 145 (rfl) rfl, x_in1 17 (by decide +kernel) rfl, ⟨by decide, by decide, by decide +kernel⟩, by decide⟩
set_option maxRecDepth 40000 in
theorem v_M_init : Y_M_init.1.name = "<init>" ∧ Cond.instanceMethod Y_M_init.1 ∈ x_tbl := ⟨rfl, x_in5 144 (by decide +kernel) rfl⟩
set_option maxRecDepth 40000 in
theorem m_M_feed : x_mi Y_M_feed 5 := ⟨x_in5 214 (rfl) rfl, x_in1 17 (by decide +kernel) rfl, ⟨by decide, by decide, by decide +kernel⟩, by decide⟩
set_option maxRecDepth 40000 in
theorem v_M_feed : Cond.instanceMethod Y_M_feed.1 ∈ x_tbl ∧ Cond.selects Y_M_feed.1.cls Y_M_feed.1 Y_M_feed.1 ∈ x_tbl := ⟨x_in5 212 (by decide +kernel) rfl, x_in5 213 (by decide +kernel) rfl⟩
set_option maxRecDepth 40000 in
theorem m_M_end : x_mi Y_M_end 1 := ⟨x_in5 218 (rfl) rfl, x_in1 17 (by decide +kernel) rfl, ⟨by decide, by decide, by decide +kernel⟩, by decide⟩
set_option maxRecDepth 40000 in
theorem v_M_end : Cond.instanceMethod Y_M_end.1 ∈ x_tbl ∧ Cond.selects Y_M_end.1.cls Y_M_end.1 Y_M_end.1 ∈ x_tbl := ⟨x_in5 216 (by decide +kernel) rfl, x_in5 217 (by decide +kernel) rfl⟩
set_option maxRecDepth 40000 in
theorem m_M_in : x_mi Y_M_in 3 := ⟨x_in5 221 (rfl) rfl, x_in1 17 (by decide +kernel) rfl, ⟨by decide, by decide, by decide +kernel⟩, by decide⟩
set_option maxRecDepth 40000 in
theorem s_M_in : Cond.static Y_M_in.1 ∈ x_tbl := x_in5 220 (by decide +kernel) rfl
set_option maxRecDepth 40000 in
theorem m_M_open : x_mi Y_M_open 0 := ⟨x_in5 225 (rfl) rfl, x_in1 17 (by decide +kernel) rfl, ⟨by decide, by decide, by decide +kernel⟩, by decide⟩
set_option maxRecDepth 40000 in
theorem v_M_open : Cond.instanceMethod Y_M_open.1 ∈ x_tbl ∧ Cond.selects Y_M_open.1.cls Y_M_open.1 Y_M_open.1 ∈ x_tbl := ⟨x_in5 223 (by decide +kernel) rfl, x_in5 224 (by decide +kernel) rfl⟩
set_option maxRecDepth 40000 in
theorem m_MP_init : x_mi Y_MP_init 0 := ⟨x_in5 230 (rfl) rfl, x_in1 19 (by decide +kernel) rfl, ⟨by decide, by decide, by decide +kernel⟩, by decide⟩
set_option maxRecDepth 40000 in
theorem v_MP_init : Y_MP_init.1.name = "<init>" ∧ Cond.instanceMethod Y_MP_init.1 ∈ x_tbl := ⟨rfl, x_in5 229 (by decide +kernel) rfl⟩
set_option maxRecDepth 40000 in
theorem m_M_used : x_mi Y_M_used 0 := ⟨x_in6 34 (rfl) rfl, x_in1 17 (by decide +kernel) rfl, ⟨by decide, by decide, by decide +kernel⟩, by decide⟩
set_option maxRecDepth 40000 in
theorem v_M_used : Cond.instanceMethod Y_M_used.1 ∈ x_tbl ∧ Cond.selects Y_M_used.1.cls Y_M_used.1 Y_M_used.1 ∈ x_tbl := ⟨x_in6 33 (by decide +kernel) rfl, x_in0 46 (by decide +kernel) rfl⟩
set_option maxRecDepth 40000 in
theorem m_M_read : x_mi Y_M_read 1 := ⟨x_in6 38 (rfl) rfl, x_in1 17 (by decide +kernel) rfl, ⟨by decide, by decide, by decide +kernel⟩, by decide⟩
set_option maxRecDepth 40000 in
theorem v_M_read : Cond.instanceMethod Y_M_read.1 ∈ x_tbl ∧ Cond.selects Y_M_read.1.cls Y_M_read.1 Y_M_read.1 ∈ x_tbl := ⟨x_in6 37 (by decide +kernel) rfl, x_in0 47 (by decide +kernel) rfl⟩
set_option maxRecDepth 40000 in
theorem m_M_isAt1 : x_mi Y_M_isAt1 2 := ⟨x_in6 43 (rfl) rfl, x_in1 17 (by decide +kernel) rfl, ⟨by decide, by decide, by decide +kernel⟩, by decide⟩
set_option maxRecDepth 40000 in
theorem v_M_isAt1 : Cond.instanceMethod Y_M_isAt1.1 ∈ x_tbl ∧ Cond.selects Y_M_isAt1.1.cls Y_M_isAt1.1 Y_M_isAt1.1 ∈ x_tbl := ⟨x_in6 42 (by decide +kernel) rfl, x_in0 48 (by decide +kernel) rfl⟩
set_option maxRecDepth 40000 in
theorem m_M_isDigit : x_mi Y_M_isDigit 1 := ⟨x_in6 48 (rfl) rfl, x_in1 17 (by decide +kernel) rfl, ⟨by decide, by decide, by decide +kernel⟩, by decide⟩
set_option maxRecDepth 40000 in
theorem s_M_isDigit : Cond.static Y_M_isDigit.1 ∈ x_tbl := x_in6 47 (by decide +kernel) rfl
set_option maxRecDepth 40000 in
theorem m_M_isRegular : x_mi Y_M_isRegular 1 := ⟨x_in6 52 (rfl) rfl, x_in1 17 (by decide +kernel) rfl, ⟨by decide, by decide, by decide +kernel⟩, by decide⟩
set_option maxRecDepth 40000 in
theorem s_M_isRegular : Cond.static Y_M_isRegular.1 ∈ x_tbl := x_in6 51 (by decide +kernel) rfl
set_option maxRecDepth 40000 in
theorem m_M_isDelimiter : x_mi Y_M_isDelimiter 1 := ⟨x_in6 55 (rfl) rfl, x_in1 17 (by decide +kernel) rfl, ⟨by decide, by decide, by decide +kernel⟩, by decide⟩
set_option maxRecDepth 40000 in
theorem s_M_isDelimiter : Cond.static Y_M_isDelimiter.1 ∈ x_tbl := x_in6 54 (by decide +kernel) rfl
set_option maxRecDepth 40000 in
theorem m_M_takeWord : x_mi Y_M_takeWord 1 := ⟨x_in6 59 (rfl) rfl, x_in1 17 (by decide +kernel) rfl, ⟨by decide, by decide, by decide +kernel⟩, by decide⟩
set_option maxRecDepth 40000 in
theorem v_M_takeWord : Cond.instanceMethod Y_M_takeWord.1 ∈ x_tbl ∧ Cond.selects Y_M_takeWord.1.cls Y_M_takeWord.1 Y_M_takeWord.1 ∈ x_tbl := ⟨x_in6 58 (by decide +kernel) rfl, x_in0 49 (by decide +kernel) rfl⟩
set_option maxRecDepth 40000 in
theorem m_M_wordEnd : x_mi Y_M_wordEnd 1 := ⟨x_in6 63 (rfl) rfl, x_in1 17 (by decide +kernel) rfl, ⟨by decide, by decide, by decide +kernel⟩, by decide⟩
set_option maxRecDepth 40000 in
theorem v_M_wordEnd : Cond.instanceMethod Y_M_wordEnd.1 ∈ x_tbl ∧ Cond.selects Y_M_wordEnd.1.cls Y_M_wordEnd.1 Y_M_wordEnd.1 ∈ x_tbl := ⟨x_in6 62 (by decide +kernel) rfl, x_in0 50 (by decide +kernel) rfl⟩
set_option maxRecDepth 40000 in
theorem m_M_isWord : x_mi Y_M_isWord 3 := ⟨x_in6 67 (rfl) rfl, x_in1 17 (by decide +kernel) rfl, ⟨by decide, by decide, by decide +kernel⟩, by decide⟩
set_option maxRecDepth 40000 in
theorem v_M_isWord : Cond.instanceMethod Y_M_isWord.1 ∈ x_tbl ∧ Cond.selects Y_M_isWord.1.cls Y_M_isWord.1 Y_M_isWord.1 ∈ x_tbl := ⟨x_in6 66 (by decide +kernel) rfl, x_in0 51 (by decide +kernel) rfl⟩
set_option maxRecDepth 40000 in
theorem m_M_takeByte : x_mi Y_M_takeByte 1 := ⟨x_in6 71 (rfl) rfl, x_in1 17 (by decide +kernel) rfl, ⟨by decide, by decide, by decide +kernel⟩, by decide⟩
set_option maxRecDepth 40000 in
theorem v_M_takeByte : Cond.instanceMethod Y_M_takeByte.1 ∈ x_tbl ∧ Cond.selects Y_M_takeByte.1.cls Y_M_takeByte.1 Y_M_takeByte.1 ∈ x_tbl := ⟨x_in6 70 (by decide +kernel) rfl, x_in0 52 (by decide +kernel) rfl⟩
set_option maxRecDepth 40000 in
theorem m_M_takeNumber : x_mi Y_M_takeNumber 0 := ⟨x_in6 75 (rfl) rfl, x_in1 17 (by decide +kernel) rfl, ⟨by decide, by decide, by decide +kernel⟩, by decide⟩
set_option maxRecDepth 40000 in
theorem v_M_takeNumber : Cond.instanceMethod Y_M_takeNumber.1 ∈ x_tbl ∧ Cond.selects Y_M_takeNumber.1.cls Y_M_takeNumber.1 Y_M_takeNumber.1 ∈ x_tbl := ⟨x_in6 74 (by decide +kernel) rfl, x_in0 53 (by decide +kernel) rfl⟩
set_option maxRecDepth 40000 in
theorem m_M_numberOf : x_mi Y_M_numberOf 2 := ⟨x_in6 79 (rfl) rfl, x_in1 17 (by decide +kernel) rfl, ⟨by decide, by decide, by decide +kernel⟩, by decide⟩
set_option maxRecDepth 40000 in
theorem v_M_numberOf : Cond.instanceMethod Y_M_numberOf.1 ∈ x_tbl ∧ Cond.selects Y_M_numberOf.1.cls Y_M_numberOf.1 Y_M_numberOf.1 ∈ x_tbl := ⟨x_in6 78 (by decide +kernel) rfl, x_in0 54 (by decide +kernel) rfl⟩
set_option maxRecDepth 40000 in
theorem m_M_table : x_mi Y_M_table 2 := ⟨x_in6 85 (rfl) rfl, x_in1 17 (by decide +kernel) rfl, ⟨by decide, by decide, by decide +kernel⟩, by decide⟩
set_option maxRecDepth 40000 in
theorem v_M_table : Cond.instanceMethod Y_M_table.1 ∈ x_tbl ∧ Cond.selects Y_M_table.1.cls Y_M_table.1 Y_M_table.1 ∈ x_tbl := ⟨x_in6 84 (by decide +kernel) rfl, x_in0 55 (by decide +kernel) rfl⟩
set_option maxRecDepth 40000 in
theorem m_M_entry : x_mi Y_M_entry 2 := ⟨x_in6 92 (rfl) rfl, x_in1 17 (by decide +kernel) rfl, ⟨by decide, by decide, by decide +kernel⟩, by decide⟩
set_option maxRecDepth 40000 in
theorem v_M_entry : Cond.instanceMethod Y_M_entry.1 ∈ x_tbl ∧ Cond.selects Y_M_entry.1.cls Y_M_entry.1 Y_M_entry.1 ∈ x_tbl := ⟨x_in6 91 (by decide +kernel) rfl, x_in0 56 (by decide +kernel) rfl⟩
set_option maxRecDepth 40000 in
theorem m_M_dict : x_mi Y_M_dict 1 := ⟨x_in6 101 (rfl) rfl, x_in1 17 (by decide +kernel) rfl, ⟨by decide, by decide, by decide +kernel⟩, by decide⟩
set_option maxRecDepth 40000 in
theorem v_M_dict : Cond.instanceMethod Y_M_dict.1 ∈ x_tbl ∧ Cond.selects Y_M_dict.1.cls Y_M_dict.1 Y_M_dict.1 ∈ x_tbl := ⟨x_in6 100 (by decide +kernel) rfl, x_in0 57 (by decide +kernel) rfl⟩
set_option maxRecDepth 40000 in
theorem m_MQ_init : x_mi Y_MQ_init 1 := ⟨x_in6 106 (rfl) rfl, x_in1 20 (by decide +kernel) rfl, ⟨by decide, by decide, by decide +kernel⟩, by decide⟩
set_option maxRecDepth 40000 in
theorem v_MQ_init : Y_MQ_init.1.name = "<init>" ∧ Cond.instanceMethod Y_MQ_init.1 ∈ x_tbl := ⟨rfl, x_in6 105 (by decide +kernel) rfl⟩
set_option maxRecDepth 40000 in
theorem m_M_white : x_mi Y_M_white 0 := ⟨x_in6 140 (rfl) rfl, x_in1 17 (by decide +kernel) rfl, ⟨by decide, by decide, by decide +kernel⟩, by decide⟩
set_option maxRecDepth 40000 in
theorem v_M_white : Cond.instanceMethod Y_M_white.1 ∈ x_tbl ∧ Cond.selects Y_M_white.1.cls Y_M_white.1 Y_M_white.1 ∈ x_tbl := ⟨x_in6 139 (by decide +kernel) rfl, x_in0 58 (by decide +kernel) rfl⟩
set_option maxRecDepth 40000 in
theorem m_M_isWhite : x_mi Y_M_isWhite 1 := ⟨x_in6 143 (rfl) rfl, x_in1 17 (by decide +kernel) rfl, ⟨by decide, by decide, by decide +kernel⟩, by decide⟩
set_option maxRecDepth 40000 in
theorem s_M_isWhite : Cond.static Y_M_isWhite.1 ∈ x_tbl := x_in6 142 (by decide +kernel) rfl
set_option maxRecDepth 40000 in
theorem m_M_name : x_mi Y_M_name 0 := ⟨x_in6 147 (rfl) rfl, x_in1 17 (by decide +kernel) rfl, ⟨by decide, by decide, by decide +kernel⟩, by decide⟩
set_option maxRecDepth 40000 in
theorem v_M_name : Cond.instanceMethod Y_M_name.1 ∈ x_tbl ∧ Cond.selects Y_M_name.1.cls Y_M_name.1 Y_M_name.1 ∈ x_tbl := ⟨x_in6 146 (by decide +kernel) rfl, x_in0 59 (by decide +kernel) rfl⟩
set_option maxRecDepth 40000 in
theorem m_Ar_copyOfRange : x_mi Y_Ar_copyOfRange 3 := ⟨x_in6 150 (rfl) rfl, x_in1 21 (by decide +kernel) rfl, ⟨by decide, by decide, by decide +kernel⟩, by decide⟩
set_option maxRecDepth 40000 in
theorem s_Ar_copyOfRange : Cond.static Y_Ar_copyOfRange.1 ∈ x_tbl := x_in6 149 (by decide +kernel) rfl
set_option maxRecDepth 40000 in
theorem m_Ar_copyOfRangeByte : x_mi Y_Ar_copyOfRangeByte 3 := ⟨x_in6 153 (rfl) rfl, x_in1 21 (by decide +kernel) rfl, ⟨by decide, by decide, by decide +kernel⟩, by decide⟩
set_option maxRecDepth 40000 in
theorem s_Ar_copyOfRangeByte : Cond.static Y_Ar_copyOfRangeByte.1 ∈ x_tbl := x_in6 152 (by decide +kernel) rfl
set_option maxRecDepth 40000 in
theorem m_Ar_checkLength : x_mi Y_Ar_checkLength 2 := ⟨x_in6 156 (rfl) rfl, x_in1 21 (by decide +kernel) rfl, ⟨by decide, by decide, by decide +kernel⟩, by decide⟩
set_option maxRecDepth 40000 in
theorem s_Ar_checkLength : Cond.static Y_Ar_checkLength.1 ∈ x_tbl := x_in6 155 (by decide +kernel) rfl
set_option maxRecDepth 40000 in
theorem m_MQ_get1 : x_mi Y_MQ_get1 3 := ⟨x_in6 169 (rfl) rfl, x_in1 20 (by decide +kernel) rfl, ⟨by decide, by decide, by decide +kernel⟩, by decide⟩
set_option maxRecDepth 40000 in
theorem v_MQ_get1 : Cond.instanceMethod Y_MQ_get1.1 ∈ x_tbl ∧ Cond.selects Y_MQ_get1.1.cls Y_MQ_get1.1 Y_MQ_get1.1 ∈ x_tbl := ⟨x_in6 167 (by decide +kernel) rfl, x_in6 168 (by decide +kernel) rfl⟩
set_option maxRecDepth 40000 in
theorem m_M_isLike : x_mi Y_M_isLike 4 := ⟨x_in6 172 (rfl) rfl, x_in1 17 (by decide +kernel) rfl, ⟨by decide, by decide, by decide +kernel⟩, by decide⟩
set_option maxRecDepth 40000 in
theorem s_M_isLike : Cond.static Y_M_isLike.1 ∈ x_tbl := x_in6 171 (by decide +kernel) rfl
set_option maxRecDepth 40000 in
theorem m_M_object : x_mi Y_M_object 1 := ⟨x_in6 176 (rfl) rfl, x_in1 17 (by decide +kernel) rfl, ⟨by decide, by decide, by decide +kernel⟩, by decide⟩
set_option maxRecDepth 40000 in
theorem v_M_object : Cond.instanceMethod Y_M_object.1 ∈ x_tbl ∧ Cond.selects Y_M_object.1.cls Y_M_object.1 Y_M_object.1 ∈ x_tbl := ⟨x_in6 175 (by decide +kernel) rfl, x_in0 60 (by decide +kernel) rfl⟩
set_option maxRecDepth 40000 in
theorem m_M_string : x_mi Y_M_string 0 := ⟨x_in6 180 (rfl) rfl, x_in1 17 (by decide +kernel) rfl, ⟨by decide, by decide, by decide +kernel⟩, by decide⟩
set_option maxRecDepth 40000 in
theorem v_M_string : Cond.instanceMethod Y_M_string.1 ∈ x_tbl ∧ Cond.selects Y_M_string.1.cls Y_M_string.1 Y_M_string.1 ∈ x_tbl := ⟨x_in6 179 (by decide +kernel) rfl, x_in0 61 (by decide +kernel) rfl⟩
set_option maxRecDepth 40000 in
theorem m_M_escaped : x_mi Y_M_escaped 0 := ⟨x_in6 184 (rfl) rfl, x_in1 17 (by decide +kernel) rfl, ⟨by decide, by decide, by decide +kernel⟩, by decide⟩
set_option maxRecDepth 40000 in
theorem v_M_escaped : Cond.instanceMethod Y_M_escaped.1 ∈ x_tbl ∧ Cond.selects Y_M_escaped.1.cls Y_M_escaped.1 Y_M_escaped.1 ∈ x_tbl := ⟨x_in6 183 (by decide +kernel) rfl, x_in0 62 (by decide +kernel) rfl⟩
set_option maxRecDepth 40000 in
theorem m_M_ofBytes : x_mi Y_M_ofBytes 1 := ⟨x_in6 188 (rfl) rfl, x_in1 17 (by decide +kernel) rfl, ⟨by decide, by decide, by decide +kernel⟩, by decide⟩
set_option maxRecDepth 40000 in
theorem v_M_ofBytes : Cond.instanceMethod Y_M_ofBytes.1 ∈ x_tbl ∧ Cond.selects Y_M_ofBytes.1.cls Y_M_ofBytes.1 Y_M_ofBytes.1 ∈ x_tbl := ⟨x_in6 187 (by decide +kernel) rfl, x_in0 63 (by decide +kernel) rfl⟩
set_option maxRecDepth 40000 in
theorem m_Ar_copyOf : x_mi Y_Ar_copyOf 2 := ⟨x_in6 191 (rfl) rfl, x_in1 21 (by decide +kernel) rfl, ⟨by decide, by decide, by decide +kernel⟩, by decide⟩
set_option maxRecDepth 40000 in
theorem s_Ar_copyOf : Cond.static Y_Ar_copyOf.1 ∈ x_tbl := x_in6 190 (by decide +kernel) rfl
set_option maxRecDepth 40000 in
theorem m_M_array : x_mi Y_M_array 1 := ⟨x_in6 195 (rfl) rfl, x_in1 17 (by decide +kernel) rfl, ⟨by decide, by decide, by decide +kernel⟩, by decide⟩
set_option maxRecDepth 40000 in
theorem v_M_array : Cond.instanceMethod Y_M_array.1 ∈ x_tbl ∧ Cond.selects Y_M_array.1.cls Y_M_array.1 Y_M_array.1 ∈ x_tbl := ⟨x_in6 194 (by decide +kernel) rfl, x_in0 64 (by decide +kernel) rfl⟩
set_option maxRecDepth 40000 in
theorem m_M_longer : x_mi Y_M_longer 1 := ⟨x_in6 198 (rfl) rfl, x_in1 17 (by decide +kernel) rfl, ⟨by decide, by decide, by decide +kernel⟩, by decide⟩
set_option maxRecDepth 40000 in
theorem s_M_longer : Cond.static Y_M_longer.1 ∈ x_tbl := x_in6 197 (by decide +kernel) rfl
set_option maxRecDepth 40000 in
theorem m_M_digits : x_mi Y_M_digits 0 := ⟨x_in6 202 (rfl) rfl, x_in1 17 (by decide +kernel) rfl, ⟨by decide, by decide, by decide +kernel⟩, by decide⟩
set_option maxRecDepth 40000 in
theorem v_M_digits : Cond.instanceMethod Y_M_digits.1 ∈ x_tbl ∧ Cond.selects Y_M_digits.1.cls Y_M_digits.1 Y_M_digits.1 ∈ x_tbl := ⟨x_in6 201 (by decide +kernel) rfl, x_in0 65 (by decide +kernel) rfl⟩
set_option maxRecDepth 40000 in
theorem m_M_hexOf : x_mi Y_M_hexOf 1 := ⟨x_in6 205 (rfl) rfl, x_in1 17 (by decide +kernel) rfl, ⟨by decide, by decide, by decide +kernel⟩, by decide⟩
set_option maxRecDepth 40000 in
theorem s_M_hexOf : Cond.static Y_M_hexOf.1 ∈ x_tbl := x_in6 204 (by decide +kernel) rfl
set_option maxRecDepth 40000 in
theorem m_M_reference : x_mi Y_M_reference 1 := ⟨x_in6 212 (rfl) rfl, x_in1 17 (by decide +kernel) rfl, ⟨by decide, by decide, by decide +kernel⟩, by decide⟩
set_option maxRecDepth 40000 in
theorem v_M_reference : Cond.instanceMethod Y_M_reference.1 ∈ x_tbl ∧ Cond.selects Y_M_reference.1.cls Y_M_reference.1 Y_M_reference.1 ∈ x_tbl := ⟨x_in6 211 (by decide +kernel) rfl, x_in0 66 (by decide +kernel) rfl⟩
set_option maxRecDepth 40000 in
theorem m_MQ_get2 : x_mi Y_MQ_get2 1 := ⟨x_in6 219 (rfl) rfl, x_in1 20 (by decide +kernel) rfl, ⟨by decide, by decide, by decide +kernel⟩, by decide⟩
set_option maxRecDepth 40000 in
theorem v_MQ_get2 : Cond.instanceMethod Y_MQ_get2.1 ∈ x_tbl ∧ Cond.selects Y_MQ_get2.1.cls Y_MQ_get2.1 Y_MQ_get2.1 ∈ x_tbl := ⟨x_in6 217 (by decide +kernel) rfl, x_in6 218 (by decide +kernel) rfl⟩
set_option maxRecDepth 40000 in
theorem m_M_objects : x_mi Y_M_objects 1 := ⟨x_in6 226 (rfl) rfl, x_in1 17 (by decide +kernel) rfl, ⟨by decide, by decide, by decide +kernel⟩, by decide⟩
set_option maxRecDepth 40000 in
theorem v_M_objects : Cond.instanceMethod Y_M_objects.1 ∈ x_tbl ∧ Cond.selects Y_M_objects.1.cls Y_M_objects.1 Y_M_objects.1 ∈ x_tbl := ⟨x_in6 225 (by decide +kernel) rfl, x_in0 67 (by decide +kernel) rfl⟩
set_option maxRecDepth 40000 in
theorem m_M_valueAt : x_mi Y_M_valueAt 2 := ⟨x_in6 230 (rfl) rfl, x_in1 17 (by decide +kernel) rfl, ⟨by decide, by decide, by decide +kernel⟩, by decide⟩
set_option maxRecDepth 40000 in
theorem v_M_valueAt : Cond.instanceMethod Y_M_valueAt.1 ∈ x_tbl ∧ Cond.selects Y_M_valueAt.1.cls Y_M_valueAt.1 Y_M_valueAt.1 ∈ x_tbl := ⟨x_in6 229 (by decide +kernel) rfl, x_in0 68 (by decide +kernel) rfl⟩
set_option maxRecDepth 40000 in
theorem m_M_begin : x_mi Y_M_begin 2 := ⟨x_in6 234 (rfl) rfl, x_in1 17 (by decide +kernel) rfl, ⟨by decide, by decide, by decide +kernel⟩, by decide⟩
set_option maxRecDepth 40000 in
theorem v_M_begin : Cond.instanceMethod Y_M_begin.1 ∈ x_tbl ∧ Cond.selects Y_M_begin.1.cls Y_M_begin.1 Y_M_begin.1 ∈ x_tbl := ⟨x_in6 233 (by decide +kernel) rfl, x_in0 69 (by decide +kernel) rfl⟩
set_option maxRecDepth 40000 in
theorem m_M_stream : x_mi Y_M_stream 2 := ⟨x_in7 0 (rfl) rfl, x_in1 17 (by decide +kernel) rfl, ⟨by decide, by decide, by decide +kernel⟩, by decide⟩
set_option maxRecDepth 40000 in
theorem v_M_stream : Cond.instanceMethod Y_M_stream.1 ∈ x_tbl ∧ Cond.selects Y_M_stream.1.cls Y_M_stream.1 Y_M_stream.1 ∈ x_tbl := ⟨x_in6 239 (by decide +kernel) rfl, x_in0 70 (by decide +kernel) rfl⟩
set_option maxRecDepth 40000 in
theorem m_M_lengthOf : x_mi Y_M_lengthOf 2 := ⟨x_in7 5 (rfl) rfl, x_in1 17 (by decide +kernel) rfl, ⟨by decide, by decide, by decide +kernel⟩, by decide⟩
set_option maxRecDepth 40000 in
theorem v_M_lengthOf : Cond.instanceMethod Y_M_lengthOf.1 ∈ x_tbl ∧ Cond.selects Y_M_lengthOf.1.cls Y_M_lengthOf.1 Y_M_lengthOf.1 ∈ x_tbl := ⟨x_in7 4 (by decide +kernel) rfl, x_in0 71 (by decide +kernel) rfl⟩
set_option maxRecDepth 40000 in
theorem m_MQ_parts : x_mi Y_MQ_parts 0 := ⟨x_in7 11 (rfl) rfl, x_in1 20 (by decide +kernel) rfl, ⟨by decide, by decide, by decide +kernel⟩, by decide⟩
set_option maxRecDepth 40000 in
theorem v_MQ_parts : Cond.instanceMethod Y_MQ_parts.1 ∈ x_tbl ∧ Cond.selects Y_MQ_parts.1.cls Y_MQ_parts.1 Y_MQ_parts.1 ∈ x_tbl := ⟨x_in7 9 (by decide +kernel) rfl, x_in7 10 (by decide +kernel) rfl⟩
set_option maxRecDepth 40000 in
theorem m_M_go : x_mi Y_M_go 1 := ⟨x_in7 16 (rfl) rfl, x_in1 17 (by decide +kernel) rfl, ⟨by decide, by decide, by decide +kernel⟩, by decide⟩
set_option maxRecDepth 40000 in
theorem v_M_go : Cond.instanceMethod Y_M_go.1 ∈ x_tbl ∧ Cond.selects Y_M_go.1.cls Y_M_go.1 Y_M_go.1 ∈ x_tbl := ⟨x_in7 14 (by decide +kernel) rfl, x_in7 15 (by decide +kernel) rfl⟩
set_option maxRecDepth 40000 in
theorem m_M_isUsed : x_mi Y_M_isUsed 1 := ⟨x_in7 20 (rfl) rfl, x_in1 17 (by decide +kernel) rfl, ⟨by decide, by decide, by decide +kernel⟩, by decide⟩
set_option maxRecDepth 40000 in
theorem v_M_isUsed : Cond.instanceMethod Y_M_isUsed.1 ∈ x_tbl ∧ Cond.selects Y_M_isUsed.1.cls Y_M_isUsed.1 Y_M_isUsed.1 ∈ x_tbl := ⟨x_in7 19 (by decide +kernel) rfl, x_in0 72 (by decide +kernel) rfl⟩
set_option maxRecDepth 40000 in
theorem m_M_isAt2 : x_mi Y_M_isAt2 1 := ⟨x_in7 24 (rfl) rfl, x_in1 17 (by decide +kernel) rfl, ⟨by decide, by decide, by decide +kernel⟩, by decide⟩
set_option maxRecDepth 40000 in
theorem v_M_isAt2 : Cond.instanceMethod Y_M_isAt2.1 ∈ x_tbl ∧ Cond.selects Y_M_isAt2.1.cls Y_M_isAt2.1 Y_M_isAt2.1 ∈ x_tbl := ⟨x_in7 23 (by decide +kernel) rfl, x_in0 73 (by decide +kernel) rfl⟩
set_option maxRecDepth 40000 in
theorem m_M_trailer : x_mi Y_M_trailer 0 := ⟨x_in7 28 (rfl) rfl, x_in1 17 (by decide +kernel) rfl, ⟨by decide, by decide, by decide +kernel⟩, by decide⟩
set_option maxRecDepth 40000 in
theorem v_M_trailer : Cond.instanceMethod Y_M_trailer.1 ∈ x_tbl ∧ Cond.selects Y_M_trailer.1.cls Y_M_trailer.1 Y_M_trailer.1 ∈ x_tbl := ⟨x_in7 26 (by decide +kernel) rfl, x_in7 27 (by decide +kernel) rfl⟩
set_option maxRecDepth 40000 in
theorem m_M_item : x_mi Y_M_item 1 := ⟨x_in7 32 (rfl) rfl, x_in1 17 (by decide +kernel) rfl, ⟨by decide, by decide, by decide +kernel⟩, by decide⟩
set_option maxRecDepth 40000 in
theorem v_M_item : Cond.instanceMethod Y_M_item.1 ∈ x_tbl ∧ Cond.selects Y_M_item.1.cls Y_M_item.1 Y_M_item.1 ∈ x_tbl := ⟨x_in7 30 (by decide +kernel) rfl, x_in7 31 (by decide +kernel) rfl⟩
set_option maxRecDepth 40000 in
theorem m_M_find : x_mi Y_M_find 0 := ⟨x_in7 36 (rfl) rfl, x_in1 17 (by decide +kernel) rfl, ⟨by decide, by decide, by decide +kernel⟩, by decide⟩
set_option maxRecDepth 40000 in
theorem v_M_find : Cond.instanceMethod Y_M_find.1 ∈ x_tbl ∧ Cond.selects Y_M_find.1.cls Y_M_find.1 Y_M_find.1 ∈ x_tbl := ⟨x_in7 34 (by decide +kernel) rfl, x_in7 35 (by decide +kernel) rfl⟩
set_option maxRecDepth 40000 in
theorem m_M_follow : x_mi Y_M_follow 0 := ⟨x_in7 40 (rfl) rfl, x_in1 17 (by decide +kernel) rfl, ⟨by decide, by decide, by decide +kernel⟩, by decide⟩
set_option maxRecDepth 40000 in
theorem v_M_follow : Cond.instanceMethod Y_M_follow.1 ∈ x_tbl ∧ Cond.selects Y_M_follow.1.cls Y_M_follow.1 Y_M_follow.1 ∈ x_tbl := ⟨x_in7 38 (by decide +kernel) rfl, x_in7 39 (by decide +kernel) rfl⟩
set_option maxRecDepth 40000 in
theorem m_M_led : x_mi Y_M_led 1 := ⟨x_in7 44 (rfl) rfl, x_in1 17 (by decide +kernel) rfl, ⟨by decide, by decide, by decide +kernel⟩, by decide⟩
set_option maxRecDepth 40000 in
theorem v_M_led : Cond.instanceMethod Y_M_led.1 ∈ x_tbl ∧ Cond.selects Y_M_led.1.cls Y_M_led.1 Y_M_led.1 ∈ x_tbl := ⟨x_in7 43 (by decide +kernel) rfl, x_in0 74 (by decide +kernel) rfl⟩
set_option maxRecDepth 40000 in
theorem m_M_look : x_mi Y_M_look 1 := ⟨x_in7 48 (rfl) rfl, x_in1 17 (by decide +kernel) rfl, ⟨by decide, by decide, by decide +kernel⟩, by decide⟩
set_option maxRecDepth 40000 in
theorem v_M_look : Cond.instanceMethod Y_M_look.1 ∈ x_tbl ∧ Cond.selects Y_M_look.1.cls Y_M_look.1 Y_M_look.1 ∈ x_tbl := ⟨x_in7 46 (by decide +kernel) rfl, x_in7 47 (by decide +kernel) rfl⟩
set_option maxRecDepth 40000 in
theorem m_M_bytes : x_mi Y_M_bytes 1 := ⟨x_in7 53 (rfl) rfl, x_in1 17 (by decide +kernel) rfl, ⟨by decide, by decide, by decide +kernel⟩, by decide⟩
set_option maxRecDepth 40000 in
theorem v_M_bytes : Cond.instanceMethod Y_M_bytes.1 ∈ x_tbl ∧ Cond.selects Y_M_bytes.1.cls Y_M_bytes.1 Y_M_bytes.1 ∈ x_tbl := ⟨x_in7 51 (by decide +kernel) rfl, x_in7 52 (by decide +kernel) rfl⟩
set_option maxRecDepth 40000 in
theorem m_M_tell : x_mi Y_M_tell 1 := ⟨x_in7 57 (rfl) rfl, x_in1 17 (by decide +kernel) rfl, ⟨by decide, by decide, by decide +kernel⟩, by decide⟩
set_option maxRecDepth 40000 in
theorem v_M_tell : Cond.instanceMethod Y_M_tell.1 ∈ x_tbl ∧ Cond.selects Y_M_tell.1.cls Y_M_tell.1 Y_M_tell.1 ∈ x_tbl := ⟨x_in7 56 (by decide +kernel) rfl, x_in0 75 (by decide +kernel) rfl⟩
set_option maxRecDepth 40000 in
theorem m_M_octet : x_mi Y_M_octet 1 := ⟨x_in7 62 (rfl) rfl, x_in1 17 (by decide +kernel) rfl, ⟨by decide, by decide, by decide +kernel⟩, by decide⟩
set_option maxRecDepth 40000 in
theorem v_M_octet : Cond.instanceMethod Y_M_octet.1 ∈ x_tbl ∧ Cond.selects Y_M_octet.1.cls Y_M_octet.1 Y_M_octet.1 ∈ x_tbl := ⟨x_in7 60 (by decide +kernel) rfl, x_in7 61 (by decide +kernel) rfl⟩
set_option maxRecDepth 40000 in
theorem m_M_decode : x_mi Y_M_decode 0 := ⟨x_in7 67 (rfl) rfl, x_in1 17 (by decide +kernel) rfl, ⟨by decide, by decide, by decide +kernel⟩, by decide⟩
set_option maxRecDepth 40000 in
theorem v_M_decode : Cond.instanceMethod Y_M_decode.1 ∈ x_tbl ∧ Cond.selects Y_M_decode.1.cls Y_M_decode.1 Y_M_decode.1 ∈ x_tbl := ⟨x_in7 65 (by decide +kernel) rfl, x_in7 66 (by decide +kernel) rfl⟩
set_option maxRecDepth 40000 in
theorem m_MQ_isName : x_mi Y_MQ_isName 1 := ⟨x_in7 73 (rfl) rfl, x_in1 20 (by decide +kernel) rfl, ⟨by decide, by decide, by decide +kernel⟩, by decide⟩
set_option maxRecDepth 40000 in
theorem v_MQ_isName : Cond.instanceMethod Y_MQ_isName.1 ∈ x_tbl ∧ Cond.selects Y_MQ_isName.1.cls Y_MQ_isName.1 Y_MQ_isName.1 ∈ x_tbl := ⟨x_in7 71 (by decide +kernel) rfl, x_in7 72 (by decide +kernel) rfl⟩
set_option maxRecDepth 40000 in
theorem m_M_hex : x_mi Y_M_hex 1 := ⟨x_in7 77 (rfl) rfl, x_in1 17 (by decide +kernel) rfl, ⟨by decide, by decide, by decide +kernel⟩, by decide⟩
set_option maxRecDepth 40000 in
theorem v_M_hex : Cond.instanceMethod Y_M_hex.1 ∈ x_tbl ∧ Cond.selects Y_M_hex.1.cls Y_M_hex.1 Y_M_hex.1 ∈ x_tbl := ⟨x_in7 76 (by decide +kernel) rfl, x_in0 76 (by decide +kernel) rfl⟩
set_option maxRecDepth 40000 in
theorem m_M_one : x_mi Y_M_one 1 := ⟨x_in7 81 (rfl) rfl, x_in1 17 (by decide +kernel) rfl, ⟨by decide, by decide, by decide +kernel⟩, by decide⟩
set_option maxRecDepth 40000 in
theorem v_M_one : Cond.instanceMethod Y_M_one.1 ∈ x_tbl ∧ Cond.selects Y_M_one.1.cls Y_M_one.1 Y_M_one.1 ∈ x_tbl := ⟨x_in7 80 (by decide +kernel) rfl, x_in0 77 (by decide +kernel) rfl⟩
set_option maxRecDepth 40000 in
theorem m_M_runs : x_mi Y_M_runs 1 := ⟨x_in7 86 (rfl) rfl, x_in1 17 (by decide +kernel) rfl, ⟨by decide, by decide, by decide +kernel⟩, by decide⟩
set_option maxRecDepth 40000 in
theorem v_M_runs : Cond.instanceMethod Y_M_runs.1 ∈ x_tbl ∧ Cond.selects Y_M_runs.1.cls Y_M_runs.1 Y_M_runs.1 ∈ x_tbl := ⟨x_in7 85 (by decide +kernel) rfl, x_in0 78 (by decide +kernel) rfl⟩
set_option maxRecDepth 40000 in
theorem m_M_base85 : x_mi Y_M_base85 1 := ⟨x_in7 91 (rfl) rfl, x_in1 17 (by decide +kernel) rfl, ⟨by decide, by decide, by decide +kernel⟩, by decide⟩
set_option maxRecDepth 40000 in
theorem v_M_base85 : Cond.instanceMethod Y_M_base85.1 ∈ x_tbl ∧ Cond.selects Y_M_base85.1.cls Y_M_base85.1 Y_M_base85.1 ∈ x_tbl := ⟨x_in7 90 (by decide +kernel) rfl, x_in0 79 (by decide +kernel) rfl⟩
set_option maxRecDepth 40000 in
theorem m_M_put : x_mi Y_M_put 1 := ⟨x_in7 99 (rfl) rfl, x_in1 17 (by decide +kernel) rfl, ⟨by decide, by decide, by decide +kernel⟩, by decide⟩
set_option maxRecDepth 40000 in
theorem v_M_put : Cond.instanceMethod Y_M_put.1 ∈ x_tbl ∧ Cond.selects Y_M_put.1.cls Y_M_put.1 Y_M_put.1 ∈ x_tbl := ⟨x_in7 97 (by decide +kernel) rfl, x_in7 98 (by decide +kernel) rfl⟩
set_option maxRecDepth 40000 in
theorem m_M_mayPut : x_mi Y_M_mayPut 1 := ⟨x_in7 103 (rfl) rfl, x_in1 17 (by decide +kernel) rfl, ⟨by decide, by decide, by decide +kernel⟩, by decide⟩
set_option maxRecDepth 40000 in
theorem v_M_mayPut : Cond.instanceMethod Y_M_mayPut.1 ∈ x_tbl ∧ Cond.selects Y_M_mayPut.1.cls Y_M_mayPut.1 Y_M_mayPut.1 ∈ x_tbl := ⟨x_in7 102 (by decide +kernel) rfl, x_in0 80 (by decide +kernel) rfl⟩
set_option maxRecDepth 40000 in
theorem m_M_partsBut : x_mi Y_M_partsBut 1 := ⟨x_in7 107 (rfl) rfl, x_in1 17 (by decide +kernel) rfl, ⟨by decide, by decide, by decide +kernel⟩, by decide⟩
set_option maxRecDepth 40000 in
theorem v_M_partsBut : Cond.instanceMethod Y_M_partsBut.1 ∈ x_tbl ∧ Cond.selects Y_M_partsBut.1.cls Y_M_partsBut.1 Y_M_partsBut.1 ∈ x_tbl := ⟨x_in7 106 (by decide +kernel) rfl, x_in0 81 (by decide +kernel) rfl⟩
set_option maxRecDepth 40000 in
theorem m_M_change : x_mi Y_M_change 2 := ⟨x_in7 111 (rfl) rfl, x_in1 17 (by decide +kernel) rfl, ⟨by decide, by decide, by decide +kernel⟩, by decide⟩
set_option maxRecDepth 40000 in
theorem v_M_change : Cond.instanceMethod Y_M_change.1 ∈ x_tbl ∧ Cond.selects Y_M_change.1.cls Y_M_change.1 Y_M_change.1 ∈ x_tbl := ⟨x_in7 110 (by decide +kernel) rfl, x_in0 82 (by decide +kernel) rfl⟩
set_option maxRecDepth 40000 in
theorem m_M_pour : x_mi Y_M_pour 1 := ⟨x_in7 115 (rfl) rfl, x_in1 17 (by decide +kernel) rfl, ⟨by decide, by decide, by decide +kernel⟩, by decide⟩
set_option maxRecDepth 40000 in
theorem v_M_pour : Cond.instanceMethod Y_M_pour.1 ∈ x_tbl ∧ Cond.selects Y_M_pour.1.cls Y_M_pour.1 Y_M_pour.1 ∈ x_tbl := ⟨x_in7 113 (by decide +kernel) rfl, x_in7 114 (by decide +kernel) rfl⟩
set_option maxRecDepth 40000 in
theorem m_M_free : x_mi Y_M_free 1 := ⟨x_in7 119 (rfl) rfl, x_in1 17 (by decide +kernel) rfl, ⟨by decide, by decide, by decide +kernel⟩, by decide⟩
set_option maxRecDepth 40000 in
theorem v_M_free : Cond.instanceMethod Y_M_free.1 ∈ x_tbl ∧ Cond.selects Y_M_free.1.cls Y_M_free.1 Y_M_free.1 ∈ x_tbl := ⟨x_in7 117 (by decide +kernel) rfl, x_in7 118 (by decide +kernel) rfl⟩
set_option maxRecDepth 40000 in
theorem m_M_inUse : x_mi Y_M_inUse 0 := ⟨x_in7 123 (rfl) rfl, x_in1 17 (by decide +kernel) rfl, ⟨by decide, by decide, by decide +kernel⟩, by decide⟩
set_option maxRecDepth 40000 in
theorem v_M_inUse : Cond.instanceMethod Y_M_inUse.1 ∈ x_tbl ∧ Cond.selects Y_M_inUse.1.cls Y_M_inUse.1 Y_M_inUse.1 ∈ x_tbl := ⟨x_in7 122 (by decide +kernel) rfl, x_in0 83 (by decide +kernel) rfl⟩
set_option maxRecDepth 40000 in
theorem m_M_save : x_mi Y_M_save 0 := ⟨x_in7 127 (rfl) rfl, x_in1 17 (by decide +kernel) rfl, ⟨by decide, by decide, by decide +kernel⟩, by decide⟩
set_option maxRecDepth 40000 in
theorem v_M_save : Cond.instanceMethod Y_M_save.1 ∈ x_tbl ∧ Cond.selects Y_M_save.1.cls Y_M_save.1 Y_M_save.1 ∈ x_tbl := ⟨x_in7 125 (by decide +kernel) rfl, x_in7 126 (by decide +kernel) rfl⟩
set_option maxRecDepth 40000 in
theorem m_M_say1 : x_mi Y_M_say1 1 := ⟨x_in7 131 (rfl) rfl, x_in1 17 (by decide +kernel) rfl, ⟨by decide, by decide, by decide +kernel⟩, by decide⟩
set_option maxRecDepth 40000 in
theorem v_M_say1 : Cond.instanceMethod Y_M_say1.1 ∈ x_tbl ∧ Cond.selects Y_M_say1.1.cls Y_M_say1.1 Y_M_say1.1 ∈ x_tbl := ⟨x_in7 130 (by decide +kernel) rfl, x_in0 84 (by decide +kernel) rfl⟩
set_option maxRecDepth 40000 in
theorem m_M_say2 : x_mi Y_M_say2 1 := ⟨x_in7 135 (rfl) rfl, x_in1 17 (by decide +kernel) rfl, ⟨by decide, by decide, by decide +kernel⟩, by decide⟩
set_option maxRecDepth 40000 in
theorem v_M_say2 : Cond.instanceMethod Y_M_say2.1 ∈ x_tbl ∧ Cond.selects Y_M_say2.1.cls Y_M_say2.1 Y_M_say2.1 ∈ x_tbl := ⟨x_in7 134 (by decide +kernel) rfl, x_in0 85 (by decide +kernel) rfl⟩
set_option maxRecDepth 40000 in
theorem m_M_changes : x_mi Y_M_changes 0 := ⟨x_in7 139 (rfl) rfl, x_in1 17 (by decide +kernel) rfl, ⟨by decide, by decide, by decide +kernel⟩, by decide⟩
set_option maxRecDepth 40000 in
theorem v_M_changes : Cond.instanceMethod Y_M_changes.1 ∈ x_tbl ∧ Cond.selects Y_M_changes.1.cls Y_M_changes.1 Y_M_changes.1 ∈ x_tbl := ⟨x_in7 138 (by decide +kernel) rfl, x_in0 86 (by decide +kernel) rfl⟩
set_option maxRecDepth 40000 in
theorem m_M_append : x_mi Y_M_append 0 := ⟨x_in7 143 (rfl) rfl, x_in1 17 (by decide +kernel) rfl, ⟨by decide, by decide, by decide +kernel⟩, by decide⟩
set_option maxRecDepth 40000 in
theorem v_M_append : Cond.instanceMethod Y_M_append.1 ∈ x_tbl ∧ Cond.selects Y_M_append.1.cls Y_M_append.1 Y_M_append.1 ∈ x_tbl := ⟨x_in7 142 (by decide +kernel) rfl, x_in0 87 (by decide +kernel) rfl⟩
set_option maxRecDepth 40000 in
theorem m_M_number : x_mi Y_M_number 2 := ⟨x_in7 147 (rfl) rfl, x_in1 17 (by decide +kernel) rfl, ⟨by decide, by decide, by decide +kernel⟩, by decide⟩
set_option maxRecDepth 40000 in
theorem v_M_number : Cond.instanceMethod Y_M_number.1 ∈ x_tbl ∧ Cond.selects Y_M_number.1.cls Y_M_number.1 Y_M_number.1 ∈ x_tbl := ⟨x_in7 146 (by decide +kernel) rfl, x_in0 88 (by decide +kernel) rfl⟩
set_option maxRecDepth 40000 in
theorem m_M_say3 : x_mi Y_M_say3 1 := ⟨x_in7 152 (rfl) rfl, x_in1 17 (by decide +kernel) rfl, ⟨by decide, by decide, by decide +kernel⟩, by decide⟩
set_option maxRecDepth 40000 in
theorem v_M_say3 : Cond.instanceMethod Y_M_say3.1 ∈ x_tbl ∧ Cond.selects Y_M_say3.1.cls Y_M_say3.1 Y_M_say3.1 ∈ x_tbl := ⟨x_in7 151 (by decide +kernel) rfl, x_in0 89 (by decide +kernel) rfl⟩
set_option maxRecDepth 40000 in
theorem m_M_write : x_mi Y_M_write 1 := ⟨x_in7 156 (rfl) rfl, x_in1 17 (by decide +kernel) rfl, ⟨by decide, by decide, by decide +kernel⟩, by decide⟩
set_option maxRecDepth 40000 in
theorem v_M_write : Cond.instanceMethod Y_M_write.1 ∈ x_tbl ∧ Cond.selects Y_M_write.1.cls Y_M_write.1 Y_M_write.1 ∈ x_tbl := ⟨x_in7 155 (by decide +kernel) rfl, x_in0 90 (by decide +kernel) rfl⟩
set_option maxRecDepth 40000 in
theorem m_M_hexDigit : x_mi Y_M_hexDigit 1 := ⟨x_in7 160 (rfl) rfl, x_in1 17 (by decide +kernel) rfl, ⟨by decide, by decide, by decide +kernel⟩, by decide⟩
set_option maxRecDepth 40000 in
theorem v_M_hexDigit : Cond.instanceMethod Y_M_hexDigit.1 ∈ x_tbl ∧ Cond.selects Y_M_hexDigit.1.cls Y_M_hexDigit.1 Y_M_hexDigit.1 ∈ x_tbl := ⟨x_in7 159 (by decide +kernel) rfl, x_in0 91 (by decide +kernel) rfl⟩
set_option maxRecDepth 40000 in
theorem m_M_newTrailer : x_mi Y_M_newTrailer 0 := ⟨x_in7 170 (rfl) rfl, x_in1 17 (by decide +kernel) rfl, ⟨by decide, by decide, by decide +kernel⟩, by decide⟩
set_option maxRecDepth 40000 in
theorem v_M_newTrailer : Cond.instanceMethod Y_M_newTrailer.1 ∈ x_tbl ∧ Cond.selects Y_M_newTrailer.1.cls Y_M_newTrailer.1 Y_M_newTrailer.1 ∈ x_tbl := ⟨x_in7 169 (by decide +kernel) rfl, x_in0 92 (by decide +kernel) rfl⟩
set_option maxRecDepth 40000 in
theorem m_M_pages : x_mi Y_M_pages 0 := ⟨x_in7 174 (rfl) rfl, x_in1 17 (by decide +kernel) rfl, ⟨by decide, by decide, by decide +kernel⟩, by decide⟩
set_option maxRecDepth 40000 in
theorem v_M_pages : Cond.instanceMethod Y_M_pages.1 ∈ x_tbl ∧ Cond.selects Y_M_pages.1.cls Y_M_pages.1 Y_M_pages.1 ∈ x_tbl := ⟨x_in7 172 (by decide +kernel) rfl, x_in7 173 (by decide +kernel) rfl⟩
set_option maxRecDepth 40000 in
theorem m_Ar_fill : x_mi Y_Ar_fill 2 := ⟨x_in7 177 (rfl) rfl, x_in1 21 (by decide +kernel) rfl, ⟨by decide, by decide, by decide +kernel⟩, by decide⟩
set_option maxRecDepth 40000 in
theorem s_Ar_fill : Cond.static Y_Ar_fill.1 ∈ x_tbl := x_in7 176 (by decide +kernel) rfl
set_option maxRecDepth 40000 in
theorem m_M_walk : x_mi Y_M_walk 2 := ⟨x_in7 183 (rfl) rfl, x_in1 17 (by decide +kernel) rfl, ⟨by decide, by decide, by decide +kernel⟩, by decide⟩
set_option maxRecDepth 40000 in
theorem v_M_walk : Cond.instanceMethod Y_M_walk.1 ∈ x_tbl ∧ Cond.selects Y_M_walk.1.cls Y_M_walk.1 Y_M_walk.1 ∈ x_tbl := ⟨x_in7 182 (by decide +kernel) rfl, x_in0 93 (by decide +kernel) rfl⟩
set_option maxRecDepth 40000 in
theorem m_M_page : x_mi Y_M_page 1 := ⟨x_in7 190 (rfl) rfl, x_in1 17 (by decide +kernel) rfl, ⟨by decide, by decide, by decide +kernel⟩, by decide⟩
set_option maxRecDepth 40000 in
theorem v_M_page : Cond.instanceMethod Y_M_page.1 ∈ x_tbl ∧ Cond.selects Y_M_page.1.cls Y_M_page.1 Y_M_page.1 ∈ x_tbl := ⟨x_in7 188 (by decide +kernel) rfl, x_in7 189 (by decide +kernel) rfl⟩
set_option maxRecDepth 40000 in
theorem m_M_count : x_mi Y_M_count 1 := ⟨x_in7 195 (rfl) rfl, x_in1 17 (by decide +kernel) rfl, ⟨by decide, by decide, by decide +kernel⟩, by decide⟩
set_option maxRecDepth 40000 in
theorem v_M_count : Cond.instanceMethod Y_M_count.1 ∈ x_tbl ∧ Cond.selects Y_M_count.1.cls Y_M_count.1 Y_M_count.1 ∈ x_tbl := ⟨x_in7 193 (by decide +kernel) rfl, x_in7 194 (by decide +kernel) rfl⟩
set_option maxRecDepth 40000 in
theorem m_M_state : x_mi Y_M_state 2 := ⟨x_in7 200 (rfl) rfl, x_in1 17 (by decide +kernel) rfl, ⟨by decide, by decide, by decide +kernel⟩, by decide⟩
set_option maxRecDepth 40000 in
theorem v_M_state : Cond.instanceMethod Y_M_state.1 ∈ x_tbl ∧ Cond.selects Y_M_state.1.cls Y_M_state.1 Y_M_state.1 ∈ x_tbl := ⟨x_in7 198 (by decide +kernel) rfl, x_in7 199 (by decide +kernel) rfl⟩
