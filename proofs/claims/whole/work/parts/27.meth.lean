set_option maxRecDepth 40000 in
theorem m_PF_init : x_mi Y_PF_init 0 := ⟨x_in 120 (by rfl) rfl, x_in 95 (by rfl) rfl, ⟨by decide, by decide, by decide +kernel⟩, by decide⟩
set_option maxRecDepth 40000 in
theorem v_PF_init : Y_PF_init.1.name = "<init>" ∧ Cond.instanceMethod Y_PF_init.1 ∈ x_tbl := ⟨rfl, x_in 119 (by rfl) rfl⟩
set_option maxRecDepth 40000 in
theorem m_T_init : x_mi Y_T_init 0 := ⟨x_in 128 (by rfl) rfl, x_in 96 (by rfl) rfl, ⟨by decide, by decide, by decide +kernel⟩, by decide⟩
set_option maxRecDepth 40000 in
theorem v_T_init : Y_T_init.1.name = "<init>" ∧ Cond.instanceMethod Y_T_init.1 ∈ x_tbl := ⟨rfl, x_in 127 (by rfl) rfl⟩
set_option maxRecDepth 40000 in
theorem m_S_indexOf1 : x_mi Y_S_indexOf1 1 := ⟨x_in 134 (by rfl) rfl, x_in 97 (by rfl) rfl, ⟨by decide, by decide, by decide +kernel⟩, by decide⟩
set_option maxRecDepth 40000 in
theorem v_S_indexOf1 : Cond.instanceMethod Y_S_indexOf1.1 ∈ x_tbl ∧ Cond.selects Y_S_indexOf1.1.cls Y_S_indexOf1.1 Y_S_indexOf1.1 ∈ x_tbl := ⟨x_in 132 (by rfl) rfl, x_in 133 (by rfl) rfl⟩
set_option maxRecDepth 40000 in
theorem m_S_indexOf2 : x_mi Y_S_indexOf2 2 := ⟨x_in 138 (by rfl) rfl, x_in 97 (by rfl) rfl, ⟨by decide, by decide, by decide +kernel⟩, by decide⟩
set_option maxRecDepth 40000 in
theorem v_S_indexOf2 : Cond.instanceMethod Y_S_indexOf2.1 ∈ x_tbl ∧ Cond.selects Y_S_indexOf2.1.cls Y_S_indexOf2.1 Y_S_indexOf2.1 ∈ x_tbl := ⟨x_in 136 (by rfl) rfl, x_in 137 (by rfl) rfl⟩
set_option maxRecDepth 40000 in
theorem m_S_isLatin1 : x_mi Y_S_isLatin1 0 := ⟨x_in 142 (by rfl) rfl, x_in 97 (by rfl) rfl, ⟨by decide, by decide, by decide +kernel⟩, by decide⟩
set_option maxRecDepth 40000 in
theorem v_S_isLatin1 : Cond.instanceMethod Y_S_isLatin1.1 ∈ x_tbl ∧ Cond.selects Y_S_isLatin1.1.cls Y_S_isLatin1.1 Y_S_isLatin1.1 ∈ x_tbl := ⟨x_in 140 (by rfl) rfl, x_in 141 (by rfl) rfl⟩
set_option maxRecDepth 40000 in
theorem m_S_length : x_mi Y_S_length 0 := ⟨x_in 148 (by rfl) rfl, x_in 97 (by rfl) rfl, ⟨by decide, by decide, by decide +kernel⟩, by decide⟩
set_option maxRecDepth 40000 in
theorem v_S_length : Cond.instanceMethod Y_S_length.1 ∈ x_tbl ∧ Cond.selects Y_S_length.1.cls Y_S_length.1 Y_S_length.1 ∈ x_tbl := ⟨x_in 146 (by rfl) rfl, x_in 147 (by rfl) rfl⟩
set_option maxRecDepth 40000 in
theorem m_S_coder : x_mi Y_S_coder 0 := ⟨x_in 152 (by rfl) rfl, x_in 97 (by rfl) rfl, ⟨by decide, by decide, by decide +kernel⟩, by decide⟩
set_option maxRecDepth 40000 in
theorem v_S_coder : Cond.instanceMethod Y_S_coder.1 ∈ x_tbl ∧ Cond.selects Y_S_coder.1.cls Y_S_coder.1 Y_S_coder.1 ∈ x_tbl := ⟨x_in 150 (by rfl) rfl, x_in 151 (by rfl) rfl⟩
set_option maxRecDepth 40000 in
theorem m_SL_indexOf : x_mi Y_SL_indexOf 4 := ⟨x_in 155 (by rfl) rfl, x_in 98 (by rfl) rfl, ⟨by decide, by decide, by decide +kernel⟩, by decide⟩
set_option maxRecDepth 40000 in
theorem s_SL_indexOf : Cond.static Y_SL_indexOf.1 ∈ x_tbl := x_in 154 (by rfl) rfl
set_option maxRecDepth 40000 in
theorem m_SL_canEncode : x_mi Y_SL_canEncode 1 := ⟨x_in 158 (by rfl) rfl, x_in 98 (by rfl) rfl, ⟨by decide, by decide, by decide +kernel⟩, by decide⟩
set_option maxRecDepth 40000 in
theorem s_SL_canEncode : Cond.static Y_SL_canEncode.1 ∈ x_tbl := x_in 157 (by rfl) rfl
set_option maxRecDepth 40000 in
theorem m_Ma_max1 : x_mi Y_Ma_max1 2 := ⟨x_in 161 (by rfl) rfl, x_in 99 (by rfl) rfl, ⟨by decide, by decide, by decide +kernel⟩, by decide⟩
set_option maxRecDepth 40000 in
theorem s_Ma_max1 : Cond.static Y_Ma_max1.1 ∈ x_tbl := x_in 160 (by rfl) rfl
set_option maxRecDepth 40000 in
theorem m_Ma_min1 : x_mi Y_Ma_min1 2 := ⟨x_in 164 (by rfl) rfl, x_in 99 (by rfl) rfl, ⟨by decide, by decide, by decide +kernel⟩, by decide⟩
set_option maxRecDepth 40000 in
theorem s_Ma_min1 : Cond.static Y_Ma_min1.1 ∈ x_tbl := x_in 163 (by rfl) rfl
set_option maxRecDepth 40000 in
theorem m_SL_indexOfChar : x_mi Y_SL_indexOfChar 4 := ⟨x_in 167 (by rfl) rfl, x_in 98 (by rfl) rfl, ⟨by decide, by decide, by decide +kernel⟩, by decide⟩
set_option maxRecDepth 40000 in
theorem s_SL_indexOfChar : Cond.static Y_SL_indexOfChar.1 ∈ x_tbl := x_in 166 (by rfl) rfl
set_option maxRecDepth 40000 in
theorem m_S_checkBoundsBeginEnd : x_mi Y_S_checkBoundsBeginEnd 3 := ⟨x_in 185 (by rfl) rfl, x_in 97 (by rfl) rfl, ⟨by decide, by decide, by decide +kernel⟩, by decide⟩
set_option maxRecDepth 40000 in
theorem s_S_checkBoundsBeginEnd : Cond.static Y_S_checkBoundsBeginEnd.1 ∈ x_tbl := x_in 184 (by rfl) rfl
set_option maxRecDepth 40000 in
theorem m_Pr_checkFromToIndex : x_mi Y_Pr_checkFromToIndex 4 := ⟨x_in 190 (by rfl) rfl, x_in 101 (by rfl) rfl, ⟨by decide, by decide, by decide +kernel⟩, by decide⟩
set_option maxRecDepth 40000 in
theorem s_Pr_checkFromToIndex : Cond.static Y_Pr_checkFromToIndex.1 ∈ x_tbl := x_in 189 (by rfl) rfl
set_option maxRecDepth 40000 in
theorem m_S_charAt : x_mi Y_S_charAt 1 := ⟨x_in 222 (by rfl) rfl, x_in 97 (by rfl) rfl, ⟨by decide, by decide, by decide +kernel⟩, by decide⟩
set_option maxRecDepth 40000 in
theorem v_S_charAt : Cond.instanceMethod Y_S_charAt.1 ∈ x_tbl ∧ Cond.selects Y_S_charAt.1.cls Y_S_charAt.1 Y_S_charAt.1 ∈ x_tbl := ⟨x_in 220 (by rfl) rfl, x_in 221 (by rfl) rfl⟩
set_option maxRecDepth 40000 in
theorem m_SL_charAt : x_mi Y_SL_charAt 2 := ⟨x_in 225 (by rfl) rfl, x_in 98 (by rfl) rfl, ⟨by decide, by decide, by decide +kernel⟩, by decide⟩
set_option maxRecDepth 40000 in
theorem s_SL_charAt : Cond.static Y_SL_charAt.1 ∈ x_tbl := x_in 224 (by rfl) rfl
set_option maxRecDepth 40000 in
theorem m_S_checkIndex : x_mi Y_S_checkIndex 2 := ⟨x_in 228 (by rfl) rfl, x_in 97 (by rfl) rfl, ⟨by decide, by decide, by decide +kernel⟩, by decide⟩
set_option maxRecDepth 40000 in
theorem s_S_checkIndex : Cond.static Y_S_checkIndex.1 ∈ x_tbl := x_in 227 (by rfl) rfl
set_option maxRecDepth 40000 in
theorem m_Pr_checkIndex : x_mi Y_Pr_checkIndex 3 := ⟨x_in 231 (by rfl) rfl, x_in 101 (by rfl) rfl, ⟨by decide, by decide, by decide +kernel⟩, by decide⟩
set_option maxRecDepth 40000 in
theorem s_Pr_checkIndex : Cond.static Y_Pr_checkIndex.1 ∈ x_tbl := x_in 230 (by rfl) rfl
set_option maxRecDepth 40000 in
theorem m_P_init : x_mi Y_P_init 1 := ⟨x_in 265 (by rfl) rfl, x_in 103 (by rfl) rfl, ⟨by decide, by decide, by decide +kernel⟩, by decide⟩
set_option maxRecDepth 40000 in
theorem v_P_init : Y_P_init.1.name = "<init>" ∧ Cond.instanceMethod Y_P_init.1 ∈ x_tbl := ⟨rfl, x_in 264 (by rfl) rfl⟩
set_option maxRecDepth 40000 in
theorem m_R_init : x_mi Y_R_init 2 := ⟨x_in 317 (by rfl) rfl, x_in 104 (by rfl) rfl, ⟨by decide, by decide, by decide +kernel⟩, by decide⟩
set_option maxRecDepth 40000 in
theorem v_R_init : Y_R_init.1.name = "<init>" ∧ Cond.instanceMethod Y_R_init.1 ∈ x_tbl := ⟨rfl, x_in 316 (by rfl) rfl⟩
set_option maxRecDepth 40000 in
theorem m_O_init : x_mi Y_O_init 3 := ⟨x_in 330 (by rfl) rfl, x_in 105 (by rfl) rfl, ⟨by decide, by decide, by decide +kernel⟩, by decide⟩
set_option maxRecDepth 40000 in
theorem v_O_init : Y_O_init.1.name = "<init>" ∧ Cond.instanceMethod Y_O_init.1 ∈ x_tbl := ⟨rfl, x_in 329 (by rfl) rfl⟩
set_option maxRecDepth 40000 in
theorem m_Wr_init : x_mi Y_Wr_init 2 := ⟨x_in 373 (by rfl) rfl, x_in 106 (by rfl) rfl, ⟨by decide, by decide, by decide +kernel⟩, by decide⟩
set_option maxRecDepth 40000 in
theorem v_Wr_init : Y_Wr_init.1.name = "<init>" ∧ Cond.instanceMethod Y_Wr_init.1 ∈ x_tbl := ⟨rfl, x_in 372 (by rfl) rfl⟩
set_option maxRecDepth 40000 in
theorem m_D_init : x_mi Y_D_init 2 := ⟨x_in 395 (by rfl) rfl, x_in 107 (by rfl) rfl, ⟨by decide, by decide, by decide +kernel⟩, by decide⟩
set_option maxRecDepth 40000 in
theorem v_D_init : Y_D_init.1.name = "<init>" ∧ Cond.instanceMethod Y_D_init.1 ∈ x_tbl := ⟨rfl, x_in 394 (by rfl) rfl⟩
set_option maxRecDepth 40000 in
theorem m_Pa_init : x_mi Y_Pa_init 1 := ⟨x_in 401 (by rfl) rfl, x_in 108 (by rfl) rfl, ⟨by decide, by decide, by decide +kernel⟩, by decide⟩
set_option maxRecDepth 40000 in
theorem v_Pa_init : Y_Pa_init.1.name = "<init>" ∧ Cond.instanceMethod Y_Pa_init.1 ∈ x_tbl := ⟨rfl, x_in 400 (by rfl) rfl⟩
set_option maxRecDepth 40000 in
theorem m_PW_init : x_mi Y_PW_init 1 := ⟨x_in 452 (by rfl) rfl, x_in 109 (by rfl) rfl, ⟨by decide, by decide, by decide +kernel⟩, by decide⟩
set_option maxRecDepth 40000 in
theorem v_PW_init : Y_PW_init.1.name = "<init>" ∧ Cond.instanceMethod Y_PW_init.1 ∈ x_tbl := ⟨rfl, x_in 451 (by rfl) rfl⟩
set_option maxRecDepth 40000 in
theorem m_B_init : x_mi Y_B_init 1 := ⟨x_in 476 (by rfl) rfl, x_in 110 (by rfl) rfl, ⟨by decide, by decide, by decide +kernel⟩, by decide⟩
set_option maxRecDepth 40000 in
theorem v_B_init : Y_B_init.1.name = "<init>" ∧ Cond.instanceMethod Y_B_init.1 ∈ x_tbl := ⟨rfl, x_in 475 (by rfl) rfl⟩
set_option maxRecDepth 40000 in
theorem m_PF_feed : x_mi Y_PF_feed 5 := ⟨x_in 583 (by rfl) rfl, x_in 95 (by rfl) rfl, ⟨by decide, by decide, by decide +kernel⟩, by decide⟩
set_option maxRecDepth 40000 in
theorem v_PF_feed : Cond.instanceMethod Y_PF_feed.1 ∈ x_tbl ∧ Cond.selects Y_PF_feed.1.cls Y_PF_feed.1 Y_PF_feed.1 ∈ x_tbl := ⟨x_in 581 (by rfl) rfl, x_in 582 (by rfl) rfl⟩
set_option maxRecDepth 40000 in
theorem m_T_tapeSize : x_mi Y_T_tapeSize 0 := ⟨x_in 587 (by rfl) rfl, x_in 96 (by rfl) rfl, ⟨by decide, by decide, by decide +kernel⟩, by decide⟩
set_option maxRecDepth 40000 in
theorem v_T_tapeSize : Cond.instanceMethod Y_T_tapeSize.1 ∈ x_tbl ∧ Cond.selects Y_T_tapeSize.1.cls Y_T_tapeSize.1 Y_T_tapeSize.1 ∈ x_tbl := ⟨x_in 585 (by rfl) rfl, x_in 586 (by rfl) rfl⟩
set_option maxRecDepth 40000 in
theorem m_T_hasRoom : x_mi Y_T_hasRoom 1 := ⟨x_in 591 (by rfl) rfl, x_in 96 (by rfl) rfl, ⟨by decide, by decide, by decide +kernel⟩, by decide⟩
set_option maxRecDepth 40000 in
theorem v_T_hasRoom : Cond.instanceMethod Y_T_hasRoom.1 ∈ x_tbl ∧ Cond.selects Y_T_hasRoom.1.cls Y_T_hasRoom.1 Y_T_hasRoom.1 ∈ x_tbl := ⟨x_in 589 (by rfl) rfl, x_in 590 (by rfl) rfl⟩
set_option maxRecDepth 40000 in
theorem m_T_addFour : x_mi Y_T_addFour 1 := ⟨x_in 595 (by rfl) rfl, x_in 96 (by rfl) rfl, ⟨by decide, by decide, by decide +kernel⟩, by decide⟩
set_option maxRecDepth 40000 in
theorem v_T_addFour : Cond.instanceMethod Y_T_addFour.1 ∈ x_tbl ∧ Cond.selects Y_T_addFour.1.cls Y_T_addFour.1 Y_T_addFour.1 ∈ x_tbl := ⟨x_in 593 (by rfl) rfl, x_in 594 (by rfl) rfl⟩
set_option maxRecDepth 40000 in
theorem m_PF_end : x_mi Y_PF_end 1 := ⟨x_in 599 (by rfl) rfl, x_in 95 (by rfl) rfl, ⟨by decide, by decide, by decide +kernel⟩, by decide⟩
set_option maxRecDepth 40000 in
theorem v_PF_end : Cond.instanceMethod Y_PF_end.1 ∈ x_tbl ∧ Cond.selects Y_PF_end.1.cls Y_PF_end.1 Y_PF_end.1 ∈ x_tbl := ⟨x_in 597 (by rfl) rfl, x_in 598 (by rfl) rfl⟩
set_option maxRecDepth 40000 in
theorem m_T_cutTape : x_mi Y_T_cutTape 1 := ⟨x_in 603 (by rfl) rfl, x_in 96 (by rfl) rfl, ⟨by decide, by decide, by decide +kernel⟩, by decide⟩
set_option maxRecDepth 40000 in
theorem v_T_cutTape : Cond.instanceMethod Y_T_cutTape.1 ∈ x_tbl ∧ Cond.selects Y_T_cutTape.1.cls Y_T_cutTape.1 Y_T_cutTape.1 ∈ x_tbl := ⟨x_in 601 (by rfl) rfl, x_in 602 (by rfl) rfl⟩
set_option maxRecDepth 40000 in
theorem m_PF_open : x_mi Y_PF_open 0 := ⟨x_in 607 (by rfl) rfl, x_in 95 (by rfl) rfl, ⟨by decide, by decide, by decide +kernel⟩, by decide⟩
set_option maxRecDepth 40000 in
theorem v_PF_open : Cond.instanceMethod Y_PF_open.1 ∈ x_tbl ∧ Cond.selects Y_PF_open.1.cls Y_PF_open.1 Y_PF_open.1 ∈ x_tbl := ⟨x_in 605 (by rfl) rfl, x_in 606 (by rfl) rfl⟩
set_option maxRecDepth 40000 in
theorem m_O_tablesFault : x_mi Y_O_tablesFault 1 := ⟨x_in 611 (by rfl) rfl, x_in 105 (by rfl) rfl, ⟨by decide, by decide, by decide +kernel⟩, by decide⟩
set_option maxRecDepth 40000 in
theorem v_O_tablesFault : Cond.instanceMethod Y_O_tablesFault.1 ∈ x_tbl ∧ Cond.selects Y_O_tablesFault.1.cls Y_O_tablesFault.1 Y_O_tablesFault.1 ∈ x_tbl := ⟨x_in 609 (by rfl) rfl, x_in 610 (by rfl) rfl⟩
set_option maxRecDepth 40000 in
theorem m_B_empty : x_mi Y_B_empty 2 := ⟨x_in 615 (by rfl) rfl, x_in 110 (by rfl) rfl, ⟨by decide, by decide, by decide +kernel⟩, by decide⟩
set_option maxRecDepth 40000 in
theorem v_B_empty : Cond.instanceMethod Y_B_empty.1 ∈ x_tbl ∧ Cond.selects Y_B_empty.1.cls Y_B_empty.1 Y_B_empty.1 ∈ x_tbl := ⟨x_in 613 (by rfl) rfl, x_in 614 (by rfl) rfl⟩
set_option maxRecDepth 40000 in
theorem m_T_afterText : x_mi Y_T_afterText 2 := ⟨x_in 620 (by rfl) rfl, x_in 96 (by rfl) rfl, ⟨by decide, by decide, by decide +kernel⟩, by decide⟩
set_option maxRecDepth 40000 in
theorem v_T_afterText : Cond.instanceMethod Y_T_afterText.1 ∈ x_tbl ∧ Cond.selects Y_T_afterText.1.cls Y_T_afterText.1 Y_T_afterText.1 ∈ x_tbl := ⟨x_in 618 (by rfl) rfl, x_in 619 (by rfl) rfl⟩
set_option maxRecDepth 40000 in
theorem m_T_digits : x_mi Y_T_digits 2 := ⟨x_in 624 (by rfl) rfl, x_in 96 (by rfl) rfl, ⟨by decide, by decide, by decide +kernel⟩, by decide⟩
set_option maxRecDepth 40000 in
theorem v_T_digits : Cond.instanceMethod Y_T_digits.1 ∈ x_tbl ∧ Cond.selects Y_T_digits.1.cls Y_T_digits.1 Y_T_digits.1 ∈ x_tbl := ⟨x_in 622 (by rfl) rfl, x_in 623 (by rfl) rfl⟩
set_option maxRecDepth 40000 in
theorem m_T_byteAt : x_mi Y_T_byteAt 1 := ⟨x_in 628 (by rfl) rfl, x_in 96 (by rfl) rfl, ⟨by decide, by decide, by decide +kernel⟩, by decide⟩
set_option maxRecDepth 40000 in
theorem v_T_byteAt : Cond.instanceMethod Y_T_byteAt.1 ∈ x_tbl ∧ Cond.selects Y_T_byteAt.1.cls Y_T_byteAt.1 Y_T_byteAt.1 ∈ x_tbl := ⟨x_in 626 (by rfl) rfl, x_in 627 (by rfl) rfl⟩
set_option maxRecDepth 40000 in
theorem m_O_lastPlace : x_mi Y_O_lastPlace 0 := ⟨x_in 635 (by rfl) rfl, x_in 105 (by rfl) rfl, ⟨by decide, by decide, by decide +kernel⟩, by decide⟩
set_option maxRecDepth 40000 in
theorem v_O_lastPlace : Cond.instanceMethod Y_O_lastPlace.1 ∈ x_tbl ∧ Cond.selects Y_O_lastPlace.1.cls Y_O_lastPlace.1 Y_O_lastPlace.1 ∈ x_tbl := ⟨x_in 634 (by rfl) rfl, x_in 0 (by rfl) rfl⟩
set_option maxRecDepth 40000 in
theorem m_T_afterWord : x_mi Y_T_afterWord 1 := ⟨x_in 641 (by rfl) rfl, x_in 96 (by rfl) rfl, ⟨by decide, by decide, by decide +kernel⟩, by decide⟩
set_option maxRecDepth 40000 in
theorem v_T_afterWord : Cond.instanceMethod Y_T_afterWord.1 ∈ x_tbl ∧ Cond.selects Y_T_afterWord.1.cls Y_T_afterWord.1 Y_T_afterWord.1 ∈ x_tbl := ⟨x_in 639 (by rfl) rfl, x_in 640 (by rfl) rfl⟩
set_option maxRecDepth 40000 in
theorem m_T_afterByte : x_mi Y_T_afterByte 2 := ⟨x_in 645 (by rfl) rfl, x_in 96 (by rfl) rfl, ⟨by decide, by decide, by decide +kernel⟩, by decide⟩
set_option maxRecDepth 40000 in
theorem v_T_afterByte : Cond.instanceMethod Y_T_afterByte.1 ∈ x_tbl ∧ Cond.selects Y_T_afterByte.1.cls Y_T_afterByte.1 Y_T_afterByte.1 ∈ x_tbl := ⟨x_in 643 (by rfl) rfl, x_in 644 (by rfl) rfl⟩
set_option maxRecDepth 40000 in
theorem m_T_number : x_mi Y_T_number 1 := ⟨x_in 650 (by rfl) rfl, x_in 96 (by rfl) rfl, ⟨by decide, by decide, by decide +kernel⟩, by decide⟩
set_option maxRecDepth 40000 in
theorem v_T_number : Cond.instanceMethod Y_T_number.1 ∈ x_tbl ∧ Cond.selects Y_T_number.1.cls Y_T_number.1 Y_T_number.1 ∈ x_tbl := ⟨x_in 648 (by rfl) rfl, x_in 649 (by rfl) rfl⟩
set_option maxRecDepth 40000 in
theorem m_O_readTable : x_mi Y_O_readTable 1 := ⟨x_in 654 (by rfl) rfl, x_in 105 (by rfl) rfl, ⟨by decide, by decide, by decide +kernel⟩, by decide⟩
set_option maxRecDepth 40000 in
theorem v_O_readTable : Cond.instanceMethod Y_O_readTable.1 ∈ x_tbl ∧ Cond.selects Y_O_readTable.1.cls Y_O_readTable.1 Y_O_readTable.1 ∈ x_tbl := ⟨x_in 653 (by rfl) rfl, x_in 1 (by rfl) rfl⟩
set_option maxRecDepth 40000 in
theorem m_T_afterThe : x_mi Y_T_afterThe 2 := ⟨x_in 660 (by rfl) rfl, x_in 96 (by rfl) rfl, ⟨by decide, by decide, by decide +kernel⟩, by decide⟩
set_option maxRecDepth 40000 in
theorem v_T_afterThe : Cond.instanceMethod Y_T_afterThe.1 ∈ x_tbl ∧ Cond.selects Y_T_afterThe.1.cls Y_T_afterThe.1 Y_T_afterThe.1 ∈ x_tbl := ⟨x_in 658 (by rfl) rfl, x_in 659 (by rfl) rfl⟩
set_option maxRecDepth 40000 in
theorem m_O_readSection : x_mi Y_O_readSection 2 := ⟨x_in 665 (by rfl) rfl, x_in 105 (by rfl) rfl, ⟨by decide, by decide, by decide +kernel⟩, by decide⟩
set_option maxRecDepth 40000 in
theorem v_O_readSection : Cond.instanceMethod Y_O_readSection.1 ∈ x_tbl ∧ Cond.selects Y_O_readSection.1.cls Y_O_readSection.1 Y_O_readSection.1 ∈ x_tbl := ⟨x_in 664 (by rfl) rfl, x_in 2 (by rfl) rfl⟩
set_option maxRecDepth 40000 in
theorem m_O_readEntry : x_mi Y_O_readEntry 3 := ⟨x_in 669 (by rfl) rfl, x_in 105 (by rfl) rfl, ⟨by decide, by decide, by decide +kernel⟩, by decide⟩
set_option maxRecDepth 40000 in
theorem v_O_readEntry : Cond.instanceMethod Y_O_readEntry.1 ∈ x_tbl ∧ Cond.selects Y_O_readEntry.1.cls Y_O_readEntry.1 Y_O_readEntry.1 ∈ x_tbl := ⟨x_in 668 (by rfl) rfl, x_in 3 (by rfl) rfl⟩
set_option maxRecDepth 40000 in
theorem m_Ma_min2 : x_mi Y_Ma_min2 2 := ⟨x_in 675 (by rfl) rfl, x_in 99 (by rfl) rfl, ⟨by decide, by decide, by decide +kernel⟩, by decide⟩
set_option maxRecDepth 40000 in
theorem s_Ma_min2 : Cond.static Y_Ma_min2.1 ∈ x_tbl := x_in 674 (by rfl) rfl
set_option maxRecDepth 40000 in
theorem m_O_readTrailer : x_mi Y_O_readTrailer 1 := ⟨x_in 681 (by rfl) rfl, x_in 105 (by rfl) rfl, ⟨by decide, by decide, by decide +kernel⟩, by decide⟩
set_option maxRecDepth 40000 in
theorem v_O_readTrailer : Cond.instanceMethod Y_O_readTrailer.1 ∈ x_tbl ∧ Cond.selects Y_O_readTrailer.1.cls Y_O_readTrailer.1 Y_O_readTrailer.1 ∈ x_tbl := ⟨x_in 680 (by rfl) rfl, x_in 4 (by rfl) rfl⟩
set_option maxRecDepth 40000 in
theorem m_R_read : x_mi Y_R_read 2 := ⟨x_in 685 (by rfl) rfl, x_in 104 (by rfl) rfl, ⟨by decide, by decide, by decide +kernel⟩, by decide⟩
set_option maxRecDepth 40000 in
theorem v_R_read : Cond.instanceMethod Y_R_read.1 ∈ x_tbl ∧ Cond.selects Y_R_read.1.cls Y_R_read.1 Y_R_read.1 ∈ x_tbl := ⟨x_in 684 (by rfl) rfl, x_in 5 (by rfl) rfl⟩
set_option maxRecDepth 40000 in
theorem m_R_readArray : x_mi Y_R_readArray 2 := ⟨x_in 690 (by rfl) rfl, x_in 104 (by rfl) rfl, ⟨by decide, by decide, by decide +kernel⟩, by decide⟩
set_option maxRecDepth 40000 in
theorem v_R_readArray : Cond.instanceMethod Y_R_readArray.1 ∈ x_tbl ∧ Cond.selects Y_R_readArray.1.cls Y_R_readArray.1 Y_R_readArray.1 ∈ x_tbl := ⟨x_in 689 (by rfl) rfl, x_in 6 (by rfl) rfl⟩
set_option maxRecDepth 40000 in
theorem m_P_add : x_mi Y_P_add 3 := ⟨x_in 694 (by rfl) rfl, x_in 103 (by rfl) rfl, ⟨by decide, by decide, by decide +kernel⟩, by decide⟩
set_option maxRecDepth 40000 in
theorem v_P_add : Cond.instanceMethod Y_P_add.1 ∈ x_tbl ∧ Cond.selects Y_P_add.1.cls Y_P_add.1 Y_P_add.1 ∈ x_tbl := ⟨x_in 692 (by rfl) rfl, x_in 693 (by rfl) rfl⟩
set_option maxRecDepth 40000 in
theorem m_T_afterWhite : x_mi Y_T_afterWhite 1 := ⟨x_in 698 (by rfl) rfl, x_in 96 (by rfl) rfl, ⟨by decide, by decide, by decide +kernel⟩, by decide⟩
set_option maxRecDepth 40000 in
theorem v_T_afterWhite : Cond.instanceMethod Y_T_afterWhite.1 ∈ x_tbl ∧ Cond.selects Y_T_afterWhite.1.cls Y_T_afterWhite.1 Y_T_afterWhite.1 ∈ x_tbl := ⟨x_in 696 (by rfl) rfl, x_in 697 (by rfl) rfl⟩
set_option maxRecDepth 40000 in
theorem m_P_close : x_mi Y_P_close 1 := ⟨x_in 702 (by rfl) rfl, x_in 103 (by rfl) rfl, ⟨by decide, by decide, by decide +kernel⟩, by decide⟩
set_option maxRecDepth 40000 in
theorem v_P_close : Cond.instanceMethod Y_P_close.1 ∈ x_tbl ∧ Cond.selects Y_P_close.1.cls Y_P_close.1 Y_P_close.1 ∈ x_tbl := ⟨x_in 700 (by rfl) rfl, x_in 701 (by rfl) rfl⟩
set_option maxRecDepth 40000 in
theorem m_R_readString : x_mi Y_R_readString 1 := ⟨x_in 707 (by rfl) rfl, x_in 104 (by rfl) rfl, ⟨by decide, by decide, by decide +kernel⟩, by decide⟩
set_option maxRecDepth 40000 in
theorem v_R_readString : Cond.instanceMethod Y_R_readString.1 ∈ x_tbl ∧ Cond.selects Y_R_readString.1.cls Y_R_readString.1 Y_R_readString.1 ∈ x_tbl := ⟨x_in 706 (by rfl) rfl, x_in 7 (by rfl) rfl⟩
set_option maxRecDepth 40000 in
theorem m_R_added : x_mi Y_R_added 4 := ⟨x_in 711 (by rfl) rfl, x_in 104 (by rfl) rfl, ⟨by decide, by decide, by decide +kernel⟩, by decide⟩
set_option maxRecDepth 40000 in
theorem v_R_added : Cond.instanceMethod Y_R_added.1 ∈ x_tbl ∧ Cond.selects Y_R_added.1.cls Y_R_added.1 Y_R_added.1 ∈ x_tbl := ⟨x_in 710 (by rfl) rfl, x_in 8 (by rfl) rfl⟩
set_option maxRecDepth 40000 in
theorem m_T_signSize : x_mi Y_T_signSize 1 := ⟨x_in 715 (by rfl) rfl, x_in 96 (by rfl) rfl, ⟨by decide, by decide, by decide +kernel⟩, by decide⟩
set_option maxRecDepth 40000 in
theorem v_T_signSize : Cond.instanceMethod Y_T_signSize.1 ∈ x_tbl ∧ Cond.selects Y_T_signSize.1.cls Y_T_signSize.1 Y_T_signSize.1 ∈ x_tbl := ⟨x_in 713 (by rfl) rfl, x_in 714 (by rfl) rfl⟩
set_option maxRecDepth 40000 in
theorem m_T_octal : x_mi Y_T_octal 1 := ⟨x_in 719 (by rfl) rfl, x_in 96 (by rfl) rfl, ⟨by decide, by decide, by decide +kernel⟩, by decide⟩
set_option maxRecDepth 40000 in
theorem v_T_octal : Cond.instanceMethod Y_T_octal.1 ∈ x_tbl ∧ Cond.selects Y_T_octal.1.cls Y_T_octal.1 Y_T_octal.1 ∈ x_tbl := ⟨x_in 718 (by rfl) rfl, x_in 9 (by rfl) rfl⟩
set_option maxRecDepth 40000 in
theorem m_R_readDict : x_mi Y_R_readDict 2 := ⟨x_in 723 (by rfl) rfl, x_in 104 (by rfl) rfl, ⟨by decide, by decide, by decide +kernel⟩, by decide⟩
set_option maxRecDepth 40000 in
theorem v_R_readDict : Cond.instanceMethod Y_R_readDict.1 ∈ x_tbl ∧ Cond.selects Y_R_readDict.1.cls Y_R_readDict.1 Y_R_readDict.1 ∈ x_tbl := ⟨x_in 722 (by rfl) rfl, x_in 10 (by rfl) rfl⟩
set_option maxRecDepth 40000 in
theorem m_P_hasNameOf : x_mi Y_P_hasNameOf 2 := ⟨x_in 729 (by rfl) rfl, x_in 103 (by rfl) rfl, ⟨by decide, by decide, by decide +kernel⟩, by decide⟩
set_option maxRecDepth 40000 in
theorem v_P_hasNameOf : Cond.instanceMethod Y_P_hasNameOf.1 ∈ x_tbl ∧ Cond.selects Y_P_hasNameOf.1.cls Y_P_hasNameOf.1 Y_P_hasNameOf.1 ∈ x_tbl := ⟨x_in 727 (by rfl) rfl, x_in 728 (by rfl) rfl⟩
set_option maxRecDepth 40000 in
theorem m_T_sameWord : x_mi Y_T_sameWord 2 := ⟨x_in 733 (by rfl) rfl, x_in 96 (by rfl) rfl, ⟨by decide, by decide, by decide +kernel⟩, by decide⟩
set_option maxRecDepth 40000 in
theorem v_T_sameWord : Cond.instanceMethod Y_T_sameWord.1 ∈ x_tbl ∧ Cond.selects Y_T_sameWord.1.cls Y_T_sameWord.1 Y_T_sameWord.1 ∈ x_tbl := ⟨x_in 731 (by rfl) rfl, x_in 732 (by rfl) rfl⟩
set_option maxRecDepth 40000 in
theorem m_P_behind : x_mi Y_P_behind 1 := ⟨x_in 738 (by rfl) rfl, x_in 103 (by rfl) rfl, ⟨by decide, by decide, by decide +kernel⟩, by decide⟩
set_option maxRecDepth 40000 in
theorem v_P_behind : Cond.instanceMethod Y_P_behind.1 ∈ x_tbl ∧ Cond.selects Y_P_behind.1.cls Y_P_behind.1 Y_P_behind.1 ∈ x_tbl := ⟨x_in 736 (by rfl) rfl, x_in 737 (by rfl) rfl⟩
set_option maxRecDepth 40000 in
theorem m_R_readNamed : x_mi Y_R_readNamed 2 := ⟨x_in 743 (by rfl) rfl, x_in 104 (by rfl) rfl, ⟨by decide, by decide, by decide +kernel⟩, by decide⟩
set_option maxRecDepth 40000 in
theorem v_R_readNamed : Cond.instanceMethod Y_R_readNamed.1 ∈ x_tbl ∧ Cond.selects Y_R_readNamed.1.cls Y_R_readNamed.1 Y_R_readNamed.1 ∈ x_tbl := ⟨x_in 742 (by rfl) rfl, x_in 11 (by rfl) rfl⟩
set_option maxRecDepth 40000 in
theorem m_T_afterName : x_mi Y_T_afterName 1 := ⟨x_in 747 (by rfl) rfl, x_in 96 (by rfl) rfl, ⟨by decide, by decide, by decide +kernel⟩, by decide⟩
set_option maxRecDepth 40000 in
theorem v_T_afterName : Cond.instanceMethod Y_T_afterName.1 ∈ x_tbl ∧ Cond.selects Y_T_afterName.1.cls Y_T_afterName.1 Y_T_afterName.1 ∈ x_tbl := ⟨x_in 745 (by rfl) rfl, x_in 746 (by rfl) rfl⟩
set_option maxRecDepth 40000 in
theorem m_R_readPairs : x_mi Y_R_readPairs 1 := ⟨x_in 751 (by rfl) rfl, x_in 104 (by rfl) rfl, ⟨by decide, by decide, by decide +kernel⟩, by decide⟩
set_option maxRecDepth 40000 in
theorem v_R_readPairs : Cond.instanceMethod Y_R_readPairs.1 ∈ x_tbl ∧ Cond.selects Y_R_readPairs.1.cls Y_R_readPairs.1 Y_R_readPairs.1 ∈ x_tbl := ⟨x_in 750 (by rfl) rfl, x_in 12 (by rfl) rfl⟩
set_option maxRecDepth 40000 in
theorem m_T_pair : x_mi Y_T_pair 1 := ⟨x_in 755 (by rfl) rfl, x_in 96 (by rfl) rfl, ⟨by decide, by decide, by decide +kernel⟩, by decide⟩
set_option maxRecDepth 40000 in
theorem v_T_pair : Cond.instanceMethod Y_T_pair.1 ∈ x_tbl ∧ Cond.selects Y_T_pair.1.cls Y_T_pair.1 Y_T_pair.1 ∈ x_tbl := ⟨x_in 753 (by rfl) rfl, x_in 754 (by rfl) rfl⟩
set_option maxRecDepth 40000 in
theorem m_PF_hexDigit : x_mi Y_PF_hexDigit 1 := ⟨x_in 758 (by rfl) rfl, x_in 95 (by rfl) rfl, ⟨by decide, by decide, by decide +kernel⟩, by decide⟩
set_option maxRecDepth 40000 in
theorem s_PF_hexDigit : Cond.static Y_PF_hexDigit.1 ∈ x_tbl := x_in 757 (by rfl) rfl
set_option maxRecDepth 40000 in
theorem m_R_readName : x_mi Y_R_readName 1 := ⟨x_in 762 (by rfl) rfl, x_in 104 (by rfl) rfl, ⟨by decide, by decide, by decide +kernel⟩, by decide⟩
set_option maxRecDepth 40000 in
theorem v_R_readName : Cond.instanceMethod Y_R_readName.1 ∈ x_tbl ∧ Cond.selects Y_R_readName.1.cls Y_R_readName.1 Y_R_readName.1 ∈ x_tbl := ⟨x_in 761 (by rfl) rfl, x_in 13 (by rfl) rfl⟩
set_option maxRecDepth 40000 in
theorem m_R_readWord : x_mi Y_R_readWord 1 := ⟨x_in 766 (by rfl) rfl, x_in 104 (by rfl) rfl, ⟨by decide, by decide, by decide +kernel⟩, by decide⟩
set_option maxRecDepth 40000 in
theorem v_R_readWord : Cond.instanceMethod Y_R_readWord.1 ∈ x_tbl ∧ Cond.selects Y_R_readWord.1.cls Y_R_readWord.1 Y_R_readWord.1 ∈ x_tbl := ⟨x_in 765 (by rfl) rfl, x_in 14 (by rfl) rfl⟩
set_option maxRecDepth 40000 in
theorem m_R_readConstant : x_mi Y_R_readConstant 1 := ⟨x_in 771 (by rfl) rfl, x_in 104 (by rfl) rfl, ⟨by decide, by decide, by decide +kernel⟩, by decide⟩
set_option maxRecDepth 40000 in
theorem v_R_readConstant : Cond.instanceMethod Y_R_readConstant.1 ∈ x_tbl ∧ Cond.selects Y_R_readConstant.1.cls Y_R_readConstant.1 Y_R_readConstant.1 ∈ x_tbl := ⟨x_in 770 (by rfl) rfl, x_in 15 (by rfl) rfl⟩
set_option maxRecDepth 40000 in
theorem m_R_readRef : x_mi Y_R_readRef 2 := ⟨x_in 780 (by rfl) rfl, x_in 104 (by rfl) rfl, ⟨by decide, by decide, by decide +kernel⟩, by decide⟩
set_option maxRecDepth 40000 in
theorem v_R_readRef : Cond.instanceMethod Y_R_readRef.1 ∈ x_tbl ∧ Cond.selects Y_R_readRef.1.cls Y_R_readRef.1 Y_R_readRef.1 ∈ x_tbl := ⟨x_in 779 (by rfl) rfl, x_in 16 (by rfl) rfl⟩
set_option maxRecDepth 40000 in
theorem m_P_named : x_mi Y_P_named 2 := ⟨x_in 787 (by rfl) rfl, x_in 103 (by rfl) rfl, ⟨by decide, by decide, by decide +kernel⟩, by decide⟩
set_option maxRecDepth 40000 in
theorem v_P_named : Cond.instanceMethod Y_P_named.1 ∈ x_tbl ∧ Cond.selects Y_P_named.1.cls Y_P_named.1 Y_P_named.1 ∈ x_tbl := ⟨x_in 785 (by rfl) rfl, x_in 786 (by rfl) rfl⟩
set_option maxRecDepth 40000 in
theorem m_O_objectsStand : x_mi Y_O_objectsStand 0 := ⟨x_in 793 (by rfl) rfl, x_in 105 (by rfl) rfl, ⟨by decide, by decide, by decide +kernel⟩, by decide⟩
set_option maxRecDepth 40000 in
theorem v_O_objectsStand : Cond.instanceMethod Y_O_objectsStand.1 ∈ x_tbl ∧ Cond.selects Y_O_objectsStand.1.cls Y_O_objectsStand.1 Y_O_objectsStand.1 ∈ x_tbl := ⟨x_in 791 (by rfl) rfl, x_in 792 (by rfl) rfl⟩
set_option maxRecDepth 40000 in
theorem m_O_readObject : x_mi Y_O_readObject 1 := ⟨x_in 797 (by rfl) rfl, x_in 105 (by rfl) rfl, ⟨by decide, by decide, by decide +kernel⟩, by decide⟩
set_option maxRecDepth 40000 in
theorem v_O_readObject : Cond.instanceMethod Y_O_readObject.1 ∈ x_tbl ∧ Cond.selects Y_O_readObject.1.cls Y_O_readObject.1 Y_O_readObject.1 ∈ x_tbl := ⟨x_in 796 (by rfl) rfl, x_in 17 (by rfl) rfl⟩
set_option maxRecDepth 40000 in
theorem m_O_valueAt : x_mi Y_O_valueAt 1 := ⟨x_in 801 (by rfl) rfl, x_in 105 (by rfl) rfl, ⟨by decide, by decide, by decide +kernel⟩, by decide⟩
set_option maxRecDepth 40000 in
theorem v_O_valueAt : Cond.instanceMethod Y_O_valueAt.1 ∈ x_tbl ∧ Cond.selects Y_O_valueAt.1.cls Y_O_valueAt.1 Y_O_valueAt.1 ∈ x_tbl := ⟨x_in 800 (by rfl) rfl, x_in 18 (by rfl) rfl⟩
set_option maxRecDepth 40000 in
theorem m_O_readStream : x_mi Y_O_readStream 1 := ⟨x_in 809 (by rfl) rfl, x_in 105 (by rfl) rfl, ⟨by decide, by decide, by decide +kernel⟩, by decide⟩
set_option maxRecDepth 40000 in
theorem v_O_readStream : Cond.instanceMethod Y_O_readStream.1 ∈ x_tbl ∧ Cond.selects Y_O_readStream.1.cls Y_O_readStream.1 Y_O_readStream.1 ∈ x_tbl := ⟨x_in 808 (by rfl) rfl, x_in 19 (by rfl) rfl⟩
set_option maxRecDepth 40000 in
theorem m_O_lengthOf : x_mi Y_O_lengthOf 1 := ⟨x_in 813 (by rfl) rfl, x_in 105 (by rfl) rfl, ⟨by decide, by decide, by decide +kernel⟩, by decide⟩
set_option maxRecDepth 40000 in
theorem v_O_lengthOf : Cond.instanceMethod Y_O_lengthOf.1 ∈ x_tbl ∧ Cond.selects Y_O_lengthOf.1.cls Y_O_lengthOf.1 Y_O_lengthOf.1 ∈ x_tbl := ⟨x_in 812 (by rfl) rfl, x_in 20 (by rfl) rfl⟩
set_option maxRecDepth 40000 in
theorem m_B_leadsTo : x_mi Y_B_leadsTo 1 := ⟨x_in 818 (by rfl) rfl, x_in 110 (by rfl) rfl, ⟨by decide, by decide, by decide +kernel⟩, by decide⟩
set_option maxRecDepth 40000 in
theorem v_B_leadsTo : Cond.instanceMethod Y_B_leadsTo.1 ∈ x_tbl ∧ Cond.selects Y_B_leadsTo.1.cls Y_B_leadsTo.1 Y_B_leadsTo.1 ∈ x_tbl := ⟨x_in 816 (by rfl) rfl, x_in 817 (by rfl) rfl⟩
set_option maxRecDepth 40000 in
theorem m_B_isUsed : x_mi Y_B_isUsed 1 := ⟨x_in 822 (by rfl) rfl, x_in 110 (by rfl) rfl, ⟨by decide, by decide, by decide +kernel⟩, by decide⟩
set_option maxRecDepth 40000 in
theorem v_B_isUsed : Cond.instanceMethod Y_B_isUsed.1 ∈ x_tbl ∧ Cond.selects Y_B_isUsed.1.cls Y_B_isUsed.1 Y_B_isUsed.1 ∈ x_tbl := ⟨x_in 820 (by rfl) rfl, x_in 821 (by rfl) rfl⟩
set_option maxRecDepth 40000 in
theorem m_T_dropTape : x_mi Y_T_dropTape 0 := ⟨x_in 827 (by rfl) rfl, x_in 96 (by rfl) rfl, ⟨by decide, by decide, by decide +kernel⟩, by decide⟩
set_option maxRecDepth 40000 in
theorem v_T_dropTape : Cond.instanceMethod Y_T_dropTape.1 ∈ x_tbl ∧ Cond.selects Y_T_dropTape.1.cls Y_T_dropTape.1 Y_T_dropTape.1 ∈ x_tbl := ⟨x_in 825 (by rfl) rfl, x_in 826 (by rfl) rfl⟩
set_option maxRecDepth 40000 in
theorem m_P_cut : x_mi Y_P_cut 2 := ⟨x_in 831 (by rfl) rfl, x_in 103 (by rfl) rfl, ⟨by decide, by decide, by decide +kernel⟩, by decide⟩
set_option maxRecDepth 40000 in
theorem v_P_cut : Cond.instanceMethod Y_P_cut.1 ∈ x_tbl ∧ Cond.selects Y_P_cut.1.cls Y_P_cut.1 Y_P_cut.1 ∈ x_tbl := ⟨x_in 829 (by rfl) rfl, x_in 830 (by rfl) rfl⟩
set_option maxRecDepth 40000 in
theorem m_B_closeGap : x_mi Y_B_closeGap 2 := ⟨x_in 838 (by rfl) rfl, x_in 110 (by rfl) rfl, ⟨by decide, by decide, by decide +kernel⟩, by decide⟩
set_option maxRecDepth 40000 in
theorem v_B_closeGap : Cond.instanceMethod Y_B_closeGap.1 ∈ x_tbl ∧ Cond.selects Y_B_closeGap.1.cls Y_B_closeGap.1 Y_B_closeGap.1 ∈ x_tbl := ⟨x_in 836 (by rfl) rfl, x_in 837 (by rfl) rfl⟩
set_option maxRecDepth 40000 in
theorem m_T_keepTape : x_mi Y_T_keepTape 0 := ⟨x_in 842 (by rfl) rfl, x_in 96 (by rfl) rfl, ⟨by decide, by decide, by decide +kernel⟩, by decide⟩
set_option maxRecDepth 40000 in
theorem v_T_keepTape : Cond.instanceMethod Y_T_keepTape.1 ∈ x_tbl ∧ Cond.selects Y_T_keepTape.1.cls Y_T_keepTape.1 Y_T_keepTape.1 ∈ x_tbl := ⟨x_in 840 (by rfl) rfl, x_in 841 (by rfl) rfl⟩
set_option maxRecDepth 40000 in
theorem m_PF_go : x_mi Y_PF_go 1 := ⟨x_in 846 (by rfl) rfl, x_in 95 (by rfl) rfl, ⟨by decide, by decide, by decide +kernel⟩, by decide⟩
set_option maxRecDepth 40000 in
theorem v_PF_go : Cond.instanceMethod Y_PF_go.1 ∈ x_tbl ∧ Cond.selects Y_PF_go.1.cls Y_PF_go.1 Y_PF_go.1 ∈ x_tbl := ⟨x_in 844 (by rfl) rfl, x_in 845 (by rfl) rfl⟩
set_option maxRecDepth 40000 in
theorem m_PF_pointAt : x_mi Y_PF_pointAt 1 := ⟨x_in 851 (by rfl) rfl, x_in 95 (by rfl) rfl, ⟨by decide, by decide, by decide +kernel⟩, by decide⟩
set_option maxRecDepth 40000 in
theorem v_PF_pointAt : Cond.instanceMethod Y_PF_pointAt.1 ∈ x_tbl ∧ Cond.selects Y_PF_pointAt.1.cls Y_PF_pointAt.1 Y_PF_pointAt.1 ∈ x_tbl := ⟨x_in 850 (by rfl) rfl, x_in 21 (by rfl) rfl⟩
set_option maxRecDepth 40000 in
theorem m_PF_trailer : x_mi Y_PF_trailer 0 := ⟨x_in 855 (by rfl) rfl, x_in 95 (by rfl) rfl, ⟨by decide, by decide, by decide +kernel⟩, by decide⟩
set_option maxRecDepth 40000 in
theorem v_PF_trailer : Cond.instanceMethod Y_PF_trailer.1 ∈ x_tbl ∧ Cond.selects Y_PF_trailer.1.cls Y_PF_trailer.1 Y_PF_trailer.1 ∈ x_tbl := ⟨x_in 853 (by rfl) rfl, x_in 854 (by rfl) rfl⟩
set_option maxRecDepth 40000 in
theorem m_B_isOpen : x_mi Y_B_isOpen 0 := ⟨x_in 859 (by rfl) rfl, x_in 110 (by rfl) rfl, ⟨by decide, by decide, by decide +kernel⟩, by decide⟩
set_option maxRecDepth 40000 in
theorem v_B_isOpen : Cond.instanceMethod Y_B_isOpen.1 ∈ x_tbl ∧ Cond.selects Y_B_isOpen.1.cls Y_B_isOpen.1 Y_B_isOpen.1 ∈ x_tbl := ⟨x_in 857 (by rfl) rfl, x_in 858 (by rfl) rfl⟩
set_option maxRecDepth 40000 in
theorem m_PF_item : x_mi Y_PF_item 1 := ⟨x_in 863 (by rfl) rfl, x_in 95 (by rfl) rfl, ⟨by decide, by decide, by decide +kernel⟩, by decide⟩
set_option maxRecDepth 40000 in
theorem v_PF_item : Cond.instanceMethod Y_PF_item.1 ∈ x_tbl ∧ Cond.selects Y_PF_item.1.cls Y_PF_item.1 Y_PF_item.1 ∈ x_tbl := ⟨x_in 861 (by rfl) rfl, x_in 862 (by rfl) rfl⟩
set_option maxRecDepth 40000 in
theorem m_P_itemAt : x_mi Y_P_itemAt 2 := ⟨x_in 867 (by rfl) rfl, x_in 103 (by rfl) rfl, ⟨by decide, by decide, by decide +kernel⟩, by decide⟩
set_option maxRecDepth 40000 in
theorem v_P_itemAt : Cond.instanceMethod Y_P_itemAt.1 ∈ x_tbl ∧ Cond.selects Y_P_itemAt.1.cls Y_P_itemAt.1 Y_P_itemAt.1 ∈ x_tbl := ⟨x_in 865 (by rfl) rfl, x_in 866 (by rfl) rfl⟩
set_option maxRecDepth 40000 in
theorem m_PF_find : x_mi Y_PF_find 0 := ⟨x_in 871 (by rfl) rfl, x_in 95 (by rfl) rfl, ⟨by decide, by decide, by decide +kernel⟩, by decide⟩
set_option maxRecDepth 40000 in
theorem v_PF_find : Cond.instanceMethod Y_PF_find.1 ∈ x_tbl ∧ Cond.selects Y_PF_find.1.cls Y_PF_find.1 Y_PF_find.1 ∈ x_tbl := ⟨x_in 869 (by rfl) rfl, x_in 870 (by rfl) rfl⟩
set_option maxRecDepth 40000 in
theorem m_P_namedByTape : x_mi Y_P_namedByTape 1 := ⟨x_in 875 (by rfl) rfl, x_in 103 (by rfl) rfl, ⟨by decide, by decide, by decide +kernel⟩, by decide⟩
set_option maxRecDepth 40000 in
theorem v_P_namedByTape : Cond.instanceMethod Y_P_namedByTape.1 ∈ x_tbl ∧ Cond.selects Y_P_namedByTape.1.cls Y_P_namedByTape.1 Y_P_namedByTape.1 ∈ x_tbl := ⟨x_in 873 (by rfl) rfl, x_in 874 (by rfl) rfl⟩
set_option maxRecDepth 40000 in
theorem m_T_tapeIsWord : x_mi Y_T_tapeIsWord 1 := ⟨x_in 879 (by rfl) rfl, x_in 96 (by rfl) rfl, ⟨by decide, by decide, by decide +kernel⟩, by decide⟩
set_option maxRecDepth 40000 in
theorem v_T_tapeIsWord : Cond.instanceMethod Y_T_tapeIsWord.1 ∈ x_tbl ∧ Cond.selects Y_T_tapeIsWord.1.cls Y_T_tapeIsWord.1 Y_T_tapeIsWord.1 ∈ x_tbl := ⟨x_in 877 (by rfl) rfl, x_in 878 (by rfl) rfl⟩
set_option maxRecDepth 40000 in
theorem m_PF_follow : x_mi Y_PF_follow 0 := ⟨x_in 885 (by rfl) rfl, x_in 95 (by rfl) rfl, ⟨by decide, by decide, by decide +kernel⟩, by decide⟩
set_option maxRecDepth 40000 in
theorem v_PF_follow : Cond.instanceMethod Y_PF_follow.1 ∈ x_tbl ∧ Cond.selects Y_PF_follow.1.cls Y_PF_follow.1 Y_PF_follow.1 ∈ x_tbl := ⟨x_in 883 (by rfl) rfl, x_in 884 (by rfl) rfl⟩
set_option maxRecDepth 40000 in
theorem m_PF_look : x_mi Y_PF_look 1 := ⟨x_in 890 (by rfl) rfl, x_in 95 (by rfl) rfl, ⟨by decide, by decide, by decide +kernel⟩, by decide⟩
set_option maxRecDepth 40000 in
theorem v_PF_look : Cond.instanceMethod Y_PF_look.1 ∈ x_tbl ∧ Cond.selects Y_PF_look.1.cls Y_PF_look.1 Y_PF_look.1 ∈ x_tbl := ⟨x_in 888 (by rfl) rfl, x_in 889 (by rfl) rfl⟩
set_option maxRecDepth 40000 in
theorem m_P_measure : x_mi Y_P_measure 1 := ⟨x_in 894 (by rfl) rfl, x_in 103 (by rfl) rfl, ⟨by decide, by decide, by decide +kernel⟩, by decide⟩
set_option maxRecDepth 40000 in
theorem v_P_measure : Cond.instanceMethod Y_P_measure.1 ∈ x_tbl ∧ Cond.selects Y_P_measure.1.cls Y_P_measure.1 Y_P_measure.1 ∈ x_tbl := ⟨x_in 892 (by rfl) rfl, x_in 893 (by rfl) rfl⟩
set_option maxRecDepth 40000 in
theorem m_P_items : x_mi Y_P_items 1 := ⟨x_in 898 (by rfl) rfl, x_in 103 (by rfl) rfl, ⟨by decide, by decide, by decide +kernel⟩, by decide⟩
set_option maxRecDepth 40000 in
theorem v_P_items : Cond.instanceMethod Y_P_items.1 ∈ x_tbl ∧ Cond.selects Y_P_items.1.cls Y_P_items.1 Y_P_items.1 ∈ x_tbl := ⟨x_in 896 (by rfl) rfl, x_in 897 (by rfl) rfl⟩
set_option maxRecDepth 40000 in
theorem m_P_secondMeasure : x_mi Y_P_secondMeasure 1 := ⟨x_in 902 (by rfl) rfl, x_in 103 (by rfl) rfl, ⟨by decide, by decide, by decide +kernel⟩, by decide⟩
set_option maxRecDepth 40000 in
theorem v_P_secondMeasure : Cond.instanceMethod Y_P_secondMeasure.1 ∈ x_tbl ∧ Cond.selects Y_P_secondMeasure.1.cls Y_P_secondMeasure.1 Y_P_secondMeasure.1 ∈ x_tbl := ⟨x_in 900 (by rfl) rfl, x_in 901 (by rfl) rfl⟩
set_option maxRecDepth 40000 in
theorem m_PF_bytes : x_mi Y_PF_bytes 1 := ⟨x_in 906 (by rfl) rfl, x_in 95 (by rfl) rfl, ⟨by decide, by decide, by decide +kernel⟩, by decide⟩
set_option maxRecDepth 40000 in
theorem v_PF_bytes : Cond.instanceMethod Y_PF_bytes.1 ∈ x_tbl ∧ Cond.selects Y_PF_bytes.1.cls Y_PF_bytes.1 Y_PF_bytes.1 ∈ x_tbl := ⟨x_in 904 (by rfl) rfl, x_in 905 (by rfl) rfl⟩
set_option maxRecDepth 40000 in
theorem m_Pa_start : x_mi Y_Pa_start 1 := ⟨x_in 910 (by rfl) rfl, x_in 108 (by rfl) rfl, ⟨by decide, by decide, by decide +kernel⟩, by decide⟩
set_option maxRecDepth 40000 in
theorem v_Pa_start : Cond.instanceMethod Y_Pa_start.1 ∈ x_tbl ∧ Cond.selects Y_Pa_start.1.cls Y_Pa_start.1 Y_Pa_start.1 ∈ x_tbl := ⟨x_in 908 (by rfl) rfl, x_in 909 (by rfl) rfl⟩
set_option maxRecDepth 40000 in
theorem m_Pa_addString : x_mi Y_Pa_addString 4 := ⟨x_in 915 (by rfl) rfl, x_in 108 (by rfl) rfl, ⟨by decide, by decide, by decide +kernel⟩, by decide⟩
set_option maxRecDepth 40000 in
theorem v_Pa_addString : Cond.instanceMethod Y_Pa_addString.1 ∈ x_tbl ∧ Cond.selects Y_Pa_addString.1.cls Y_Pa_addString.1 Y_Pa_addString.1 ∈ x_tbl := ⟨x_in 913 (by rfl) rfl, x_in 914 (by rfl) rfl⟩
set_option maxRecDepth 40000 in
theorem m_T_sign : x_mi Y_T_sign 2 := ⟨x_in 922 (by rfl) rfl, x_in 96 (by rfl) rfl, ⟨by decide, by decide, by decide +kernel⟩, by decide⟩
set_option maxRecDepth 40000 in
theorem v_T_sign : Cond.instanceMethod Y_T_sign.1 ∈ x_tbl ∧ Cond.selects Y_T_sign.1.cls Y_T_sign.1 Y_T_sign.1 ∈ x_tbl := ⟨x_in 920 (by rfl) rfl, x_in 921 (by rfl) rfl⟩
set_option maxRecDepth 40000 in
theorem m_Pa_add : x_mi Y_Pa_add 1 := ⟨x_in 928 (by rfl) rfl, x_in 108 (by rfl) rfl, ⟨by decide, by decide, by decide +kernel⟩, by decide⟩
set_option maxRecDepth 40000 in
theorem v_Pa_add : Cond.instanceMethod Y_Pa_add.1 ∈ x_tbl ∧ Cond.selects Y_Pa_add.1.cls Y_Pa_add.1 Y_Pa_add.1 ∈ x_tbl := ⟨x_in 926 (by rfl) rfl, x_in 927 (by rfl) rfl⟩
set_option maxRecDepth 40000 in
theorem m_PF_outBecomes : x_mi Y_PF_outBecomes 2 := ⟨x_in 932 (by rfl) rfl, x_in 95 (by rfl) rfl, ⟨by decide, by decide, by decide +kernel⟩, by decide⟩
set_option maxRecDepth 40000 in
theorem v_PF_outBecomes : Cond.instanceMethod Y_PF_outBecomes.1 ∈ x_tbl ∧ Cond.selects Y_PF_outBecomes.1.cls Y_PF_outBecomes.1 Y_PF_outBecomes.1 ∈ x_tbl := ⟨x_in 931 (by rfl) rfl, x_in 22 (by rfl) rfl⟩
set_option maxRecDepth 40000 in
theorem m_Pa_addRow : x_mi Y_Pa_addRow 3 := ⟨x_in 936 (by rfl) rfl, x_in 108 (by rfl) rfl, ⟨by decide, by decide, by decide +kernel⟩, by decide⟩
set_option maxRecDepth 40000 in
theorem v_Pa_addRow : Cond.instanceMethod Y_Pa_addRow.1 ∈ x_tbl ∧ Cond.selects Y_Pa_addRow.1.cls Y_Pa_addRow.1 Y_Pa_addRow.1 ∈ x_tbl := ⟨x_in 934 (by rfl) rfl, x_in 935 (by rfl) rfl⟩
set_option maxRecDepth 40000 in
theorem m_PF_decode : x_mi Y_PF_decode 0 := ⟨x_in 942 (by rfl) rfl, x_in 95 (by rfl) rfl, ⟨by decide, by decide, by decide +kernel⟩, by decide⟩
set_option maxRecDepth 40000 in
theorem v_PF_decode : Cond.instanceMethod Y_PF_decode.1 ∈ x_tbl ∧ Cond.selects Y_PF_decode.1.cls Y_PF_decode.1 Y_PF_decode.1 ∈ x_tbl := ⟨x_in 940 (by rfl) rfl, x_in 941 (by rfl) rfl⟩
set_option maxRecDepth 40000 in
theorem m_D_run : x_mi Y_D_run 1 := ⟨x_in 946 (by rfl) rfl, x_in 107 (by rfl) rfl, ⟨by decide, by decide, by decide +kernel⟩, by decide⟩
set_option maxRecDepth 40000 in
theorem v_D_run : Cond.instanceMethod Y_D_run.1 ∈ x_tbl ∧ Cond.selects Y_D_run.1.cls Y_D_run.1 Y_D_run.1 ∈ x_tbl := ⟨x_in 944 (by rfl) rfl, x_in 945 (by rfl) rfl⟩
set_option maxRecDepth 40000 in
theorem m_D_pass : x_mi Y_D_pass 1 := ⟨x_in 953 (by rfl) rfl, x_in 107 (by rfl) rfl, ⟨by decide, by decide, by decide +kernel⟩, by decide⟩
set_option maxRecDepth 40000 in
theorem v_D_pass : Cond.instanceMethod Y_D_pass.1 ∈ x_tbl ∧ Cond.selects Y_D_pass.1.cls Y_D_pass.1 Y_D_pass.1 ∈ x_tbl := ⟨x_in 952 (by rfl) rfl, x_in 23 (by rfl) rfl⟩
set_option maxRecDepth 40000 in
theorem m_D_passNamed : x_mi Y_D_passNamed 1 := ⟨x_in 958 (by rfl) rfl, x_in 107 (by rfl) rfl, ⟨by decide, by decide, by decide +kernel⟩, by decide⟩
set_option maxRecDepth 40000 in
theorem v_D_passNamed : Cond.instanceMethod Y_D_passNamed.1 ∈ x_tbl ∧ Cond.selects Y_D_passNamed.1.cls Y_D_passNamed.1 Y_D_passNamed.1 ∈ x_tbl := ⟨x_in 957 (by rfl) rfl, x_in 24 (by rfl) rfl⟩
set_option maxRecDepth 40000 in
theorem m_P_isName : x_mi Y_P_isName 2 := ⟨x_in 963 (by rfl) rfl, x_in 103 (by rfl) rfl, ⟨by decide, by decide, by decide +kernel⟩, by decide⟩
set_option maxRecDepth 40000 in
theorem v_P_isName : Cond.instanceMethod Y_P_isName.1 ∈ x_tbl ∧ Cond.selects Y_P_isName.1.cls Y_P_isName.1 Y_P_isName.1 ∈ x_tbl := ⟨x_in 961 (by rfl) rfl, x_in 962 (by rfl) rfl⟩
set_option maxRecDepth 40000 in
theorem m_D_passHex : x_mi Y_D_passHex 0 := ⟨x_in 969 (by rfl) rfl, x_in 107 (by rfl) rfl, ⟨by decide, by decide, by decide +kernel⟩, by decide⟩
set_option maxRecDepth 40000 in
theorem v_D_passHex : Cond.instanceMethod Y_D_passHex.1 ∈ x_tbl ∧ Cond.selects Y_D_passHex.1.cls Y_D_passHex.1 Y_D_passHex.1 ∈ x_tbl := ⟨x_in 968 (by rfl) rfl, x_in 25 (by rfl) rfl⟩
set_option maxRecDepth 40000 in
theorem m_D_passRuns : x_mi Y_D_passRuns 0 := ⟨x_in 976 (by rfl) rfl, x_in 107 (by rfl) rfl, ⟨by decide, by decide, by decide +kernel⟩, by decide⟩
set_option maxRecDepth 40000 in
theorem v_D_passRuns : Cond.instanceMethod Y_D_passRuns.1 ∈ x_tbl ∧ Cond.selects Y_D_passRuns.1.cls Y_D_passRuns.1 Y_D_passRuns.1 ∈ x_tbl := ⟨x_in 975 (by rfl) rfl, x_in 26 (by rfl) rfl⟩
set_option maxRecDepth 40000 in
theorem m_D_passBase85 : x_mi Y_D_passBase85 0 := ⟨x_in 982 (by rfl) rfl, x_in 107 (by rfl) rfl, ⟨by decide, by decide, by decide +kernel⟩, by decide⟩
set_option maxRecDepth 40000 in
theorem v_D_passBase85 : Cond.instanceMethod Y_D_passBase85.1 ∈ x_tbl ∧ Cond.selects Y_D_passBase85.1.cls Y_D_passBase85.1 Y_D_passBase85.1 ∈ x_tbl := ⟨x_in 981 (by rfl) rfl, x_in 27 (by rfl) rfl⟩
set_option maxRecDepth 40000 in
theorem m_D_passZeros : x_mi Y_D_passZeros 0 := ⟨x_in 987 (by rfl) rfl, x_in 107 (by rfl) rfl, ⟨by decide, by decide, by decide +kernel⟩, by decide⟩
set_option maxRecDepth 40000 in
theorem v_D_passZeros : Cond.instanceMethod Y_D_passZeros.1 ∈ x_tbl ∧ Cond.selects Y_D_passZeros.1.cls Y_D_passZeros.1 Y_D_passZeros.1 ∈ x_tbl := ⟨x_in 986 (by rfl) rfl, x_in 28 (by rfl) rfl⟩
set_option maxRecDepth 40000 in
theorem m_D_passGroup : x_mi Y_D_passGroup 2 := ⟨x_in 991 (by rfl) rfl, x_in 107 (by rfl) rfl, ⟨by decide, by decide, by decide +kernel⟩, by decide⟩
set_option maxRecDepth 40000 in
theorem v_D_passGroup : Cond.instanceMethod Y_D_passGroup.1 ∈ x_tbl ∧ Cond.selects Y_D_passGroup.1.cls Y_D_passGroup.1 Y_D_passGroup.1 ∈ x_tbl := ⟨x_in 990 (by rfl) rfl, x_in 29 (by rfl) rfl⟩
set_option maxRecDepth 40000 in
theorem m_PF_octet : x_mi Y_PF_octet 1 := ⟨x_in 997 (by rfl) rfl, x_in 95 (by rfl) rfl, ⟨by decide, by decide, by decide +kernel⟩, by decide⟩
set_option maxRecDepth 40000 in
theorem v_PF_octet : Cond.instanceMethod Y_PF_octet.1 ∈ x_tbl ∧ Cond.selects Y_PF_octet.1.cls Y_PF_octet.1 Y_PF_octet.1 ∈ x_tbl := ⟨x_in 995 (by rfl) rfl, x_in 996 (by rfl) rfl⟩
set_option maxRecDepth 40000 in
theorem m_PF_put : x_mi Y_PF_put 1 := ⟨x_in 1001 (by rfl) rfl, x_in 95 (by rfl) rfl, ⟨by decide, by decide, by decide +kernel⟩, by decide⟩
set_option maxRecDepth 40000 in
theorem v_PF_put : Cond.instanceMethod Y_PF_put.1 ∈ x_tbl ∧ Cond.selects Y_PF_put.1.cls Y_PF_put.1 Y_PF_put.1 ∈ x_tbl := ⟨x_in 999 (by rfl) rfl, x_in 1000 (by rfl) rfl⟩
set_option maxRecDepth 40000 in
theorem m_PF_whyNot : x_mi Y_PF_whyNot 1 := ⟨x_in 1005 (by rfl) rfl, x_in 95 (by rfl) rfl, ⟨by decide, by decide, by decide +kernel⟩, by decide⟩
set_option maxRecDepth 40000 in
theorem v_PF_whyNot : Cond.instanceMethod Y_PF_whyNot.1 ∈ x_tbl ∧ Cond.selects Y_PF_whyNot.1.cls Y_PF_whyNot.1 Y_PF_whyNot.1 ∈ x_tbl := ⟨x_in 1004 (by rfl) rfl, x_in 30 (by rfl) rfl⟩
set_option maxRecDepth 40000 in
theorem m_B_partsBut : x_mi Y_B_partsBut 1 := ⟨x_in 1011 (by rfl) rfl, x_in 110 (by rfl) rfl, ⟨by decide, by decide, by decide +kernel⟩, by decide⟩
set_option maxRecDepth 40000 in
theorem v_B_partsBut : Cond.instanceMethod Y_B_partsBut.1 ∈ x_tbl ∧ Cond.selects Y_B_partsBut.1.cls Y_B_partsBut.1 Y_B_partsBut.1 ∈ x_tbl := ⟨x_in 1009 (by rfl) rfl, x_in 1010 (by rfl) rfl⟩
set_option maxRecDepth 40000 in
theorem m_PF_change : x_mi Y_PF_change 3 := ⟨x_in 1015 (by rfl) rfl, x_in 95 (by rfl) rfl, ⟨by decide, by decide, by decide +kernel⟩, by decide⟩
set_option maxRecDepth 40000 in
theorem v_PF_change : Cond.instanceMethod Y_PF_change.1 ∈ x_tbl ∧ Cond.selects Y_PF_change.1.cls Y_PF_change.1 Y_PF_change.1 ∈ x_tbl := ⟨x_in 1014 (by rfl) rfl, x_in 31 (by rfl) rfl⟩
set_option maxRecDepth 40000 in
theorem m_B_take : x_mi Y_B_take 3 := ⟨x_in 1019 (by rfl) rfl, x_in 110 (by rfl) rfl, ⟨by decide, by decide, by decide +kernel⟩, by decide⟩
set_option maxRecDepth 40000 in
theorem v_B_take : Cond.instanceMethod Y_B_take.1 ∈ x_tbl ∧ Cond.selects Y_B_take.1.cls Y_B_take.1 Y_B_take.1 ∈ x_tbl := ⟨x_in 1017 (by rfl) rfl, x_in 1018 (by rfl) rfl⟩
set_option maxRecDepth 40000 in
theorem m_B_forget : x_mi Y_B_forget 1 := ⟨x_in 1024 (by rfl) rfl, x_in 110 (by rfl) rfl, ⟨by decide, by decide, by decide +kernel⟩, by decide⟩
set_option maxRecDepth 40000 in
theorem v_B_forget : Cond.instanceMethod Y_B_forget.1 ∈ x_tbl ∧ Cond.selects Y_B_forget.1.cls Y_B_forget.1 Y_B_forget.1 ∈ x_tbl := ⟨x_in 1023 (by rfl) rfl, x_in 32 (by rfl) rfl⟩
set_option maxRecDepth 40000 in
theorem m_PF_refuse : x_mi Y_PF_refuse 2 := ⟨x_in 1030 (by rfl) rfl, x_in 95 (by rfl) rfl, ⟨by decide, by decide, by decide +kernel⟩, by decide⟩
set_option maxRecDepth 40000 in
theorem v_PF_refuse : Cond.instanceMethod Y_PF_refuse.1 ∈ x_tbl ∧ Cond.selects Y_PF_refuse.1.cls Y_PF_refuse.1 Y_PF_refuse.1 ∈ x_tbl := ⟨x_in 1029 (by rfl) rfl, x_in 33 (by rfl) rfl⟩
set_option maxRecDepth 40000 in
theorem m_PF_pour : x_mi Y_PF_pour 1 := ⟨x_in 1034 (by rfl) rfl, x_in 95 (by rfl) rfl, ⟨by decide, by decide, by decide +kernel⟩, by decide⟩
set_option maxRecDepth 40000 in
theorem v_PF_pour : Cond.instanceMethod Y_PF_pour.1 ∈ x_tbl ∧ Cond.selects Y_PF_pour.1.cls Y_PF_pour.1 Y_PF_pour.1 ∈ x_tbl := ⟨x_in 1032 (by rfl) rfl, x_in 1033 (by rfl) rfl⟩
set_option maxRecDepth 40000 in
theorem m_B_pouredBut : x_mi Y_B_pouredBut 1 := ⟨x_in 1038 (by rfl) rfl, x_in 110 (by rfl) rfl, ⟨by decide, by decide, by decide +kernel⟩, by decide⟩
set_option maxRecDepth 40000 in
theorem v_B_pouredBut : Cond.instanceMethod Y_B_pouredBut.1 ∈ x_tbl ∧ Cond.selects Y_B_pouredBut.1.cls Y_B_pouredBut.1 Y_B_pouredBut.1 ∈ x_tbl := ⟨x_in 1036 (by rfl) rfl, x_in 1037 (by rfl) rfl⟩
set_option maxRecDepth 40000 in
theorem m_P_addPoured : x_mi Y_P_addPoured 2 := ⟨x_in 1042 (by rfl) rfl, x_in 103 (by rfl) rfl, ⟨by decide, by decide, by decide +kernel⟩, by decide⟩
set_option maxRecDepth 40000 in
theorem v_P_addPoured : Cond.instanceMethod Y_P_addPoured.1 ∈ x_tbl ∧ Cond.selects Y_P_addPoured.1.cls Y_P_addPoured.1 Y_P_addPoured.1 ∈ x_tbl := ⟨x_in 1040 (by rfl) rfl, x_in 1041 (by rfl) rfl⟩
set_option maxRecDepth 40000 in
theorem m_PF_free : x_mi Y_PF_free 1 := ⟨x_in 1048 (by rfl) rfl, x_in 95 (by rfl) rfl, ⟨by decide, by decide, by decide +kernel⟩, by decide⟩
set_option maxRecDepth 40000 in
theorem v_PF_free : Cond.instanceMethod Y_PF_free.1 ∈ x_tbl ∧ Cond.selects Y_PF_free.1.cls Y_PF_free.1 Y_PF_free.1 ∈ x_tbl := ⟨x_in 1046 (by rfl) rfl, x_in 1047 (by rfl) rfl⟩
set_option maxRecDepth 40000 in
theorem m_B_release : x_mi Y_B_release 1 := ⟨x_in 1052 (by rfl) rfl, x_in 110 (by rfl) rfl, ⟨by decide, by decide, by decide +kernel⟩, by decide⟩
set_option maxRecDepth 40000 in
theorem v_B_release : Cond.instanceMethod Y_B_release.1 ∈ x_tbl ∧ Cond.selects Y_B_release.1.cls Y_B_release.1 Y_B_release.1 ∈ x_tbl := ⟨x_in 1050 (by rfl) rfl, x_in 1051 (by rfl) rfl⟩
set_option maxRecDepth 40000 in
theorem m_B_marked : x_mi Y_B_marked 1 := ⟨x_in 1057 (by rfl) rfl, x_in 110 (by rfl) rfl, ⟨by decide, by decide, by decide +kernel⟩, by decide⟩
set_option maxRecDepth 40000 in
theorem v_B_marked : Cond.instanceMethod Y_B_marked.1 ∈ x_tbl ∧ Cond.selects Y_B_marked.1.cls Y_B_marked.1 Y_B_marked.1 ∈ x_tbl := ⟨x_in 1055 (by rfl) rfl, x_in 1056 (by rfl) rfl⟩
set_option maxRecDepth 40000 in
theorem m_PF_save : x_mi Y_PF_save 0 := ⟨x_in 1061 (by rfl) rfl, x_in 95 (by rfl) rfl, ⟨by decide, by decide, by decide +kernel⟩, by decide⟩
set_option maxRecDepth 40000 in
theorem v_PF_save : Cond.instanceMethod Y_PF_save.1 ∈ x_tbl ∧ Cond.selects Y_PF_save.1.cls Y_PF_save.1 Y_PF_save.1 ∈ x_tbl := ⟨x_in 1059 (by rfl) rfl, x_in 1060 (by rfl) rfl⟩
set_option maxRecDepth 40000 in
theorem m_Wr_writeFile : x_mi Y_Wr_writeFile 2 := ⟨x_in 1065 (by rfl) rfl, x_in 106 (by rfl) rfl, ⟨by decide, by decide, by decide +kernel⟩, by decide⟩
set_option maxRecDepth 40000 in
theorem v_Wr_writeFile : Cond.instanceMethod Y_Wr_writeFile.1 ∈ x_tbl ∧ Cond.selects Y_Wr_writeFile.1.cls Y_Wr_writeFile.1 Y_Wr_writeFile.1 ∈ x_tbl := ⟨x_in 1063 (by rfl) rfl, x_in 1064 (by rfl) rfl⟩
set_option maxRecDepth 40000 in
theorem m_Wr_writeObject : x_mi Y_Wr_writeObject 1 := ⟨x_in 1071 (by rfl) rfl, x_in 106 (by rfl) rfl, ⟨by decide, by decide, by decide +kernel⟩, by decide⟩
set_option maxRecDepth 40000 in
theorem v_Wr_writeObject : Cond.instanceMethod Y_Wr_writeObject.1 ∈ x_tbl ∧ Cond.selects Y_Wr_writeObject.1.cls Y_Wr_writeObject.1 Y_Wr_writeObject.1 ∈ x_tbl := ⟨x_in 1070 (by rfl) rfl, x_in 34 (by rfl) rfl⟩
set_option maxRecDepth 40000 in
theorem m_Pa_addInt : x_mi Y_Pa_addInt 1 := ⟨x_in 1075 (by rfl) rfl, x_in 108 (by rfl) rfl, ⟨by decide, by decide, by decide +kernel⟩, by decide⟩
set_option maxRecDepth 40000 in
theorem v_Pa_addInt : Cond.instanceMethod Y_Pa_addInt.1 ∈ x_tbl ∧ Cond.selects Y_Pa_addInt.1.cls Y_Pa_addInt.1 Y_Pa_addInt.1 ∈ x_tbl := ⟨x_in 1073 (by rfl) rfl, x_in 1074 (by rfl) rfl⟩
set_option maxRecDepth 40000 in
theorem m_Ma_abs : x_mi Y_Ma_abs 1 := ⟨x_in 1078 (by rfl) rfl, x_in 99 (by rfl) rfl, ⟨by decide, by decide, by decide +kernel⟩, by decide⟩
set_option maxRecDepth 40000 in
theorem s_Ma_abs : Cond.static Y_Ma_abs.1 ∈ x_tbl := x_in 1077 (by rfl) rfl
set_option maxRecDepth 40000 in
theorem m_Pa_addDigits : x_mi Y_Pa_addDigits 2 := ⟨x_in 1082 (by rfl) rfl, x_in 108 (by rfl) rfl, ⟨by decide, by decide, by decide +kernel⟩, by decide⟩
set_option maxRecDepth 40000 in
theorem v_Pa_addDigits : Cond.instanceMethod Y_Pa_addDigits.1 ∈ x_tbl ∧ Cond.selects Y_Pa_addDigits.1.cls Y_Pa_addDigits.1 Y_Pa_addDigits.1 ∈ x_tbl := ⟨x_in 1080 (by rfl) rfl, x_in 1081 (by rfl) rfl⟩
set_option maxRecDepth 40000 in
theorem m_Ma_max2 : x_mi Y_Ma_max2 2 := ⟨x_in 1087 (by rfl) rfl, x_in 99 (by rfl) rfl, ⟨by decide, by decide, by decide +kernel⟩, by decide⟩
set_option maxRecDepth 40000 in
theorem s_Ma_max2 : Cond.static Y_Ma_max2.1 ∈ x_tbl := x_in 1086 (by rfl) rfl
set_option maxRecDepth 40000 in
theorem m_Pa_addText : x_mi Y_Pa_addText 1 := ⟨x_in 1093 (by rfl) rfl, x_in 108 (by rfl) rfl, ⟨by decide, by decide, by decide +kernel⟩, by decide⟩
set_option maxRecDepth 40000 in
theorem v_Pa_addText : Cond.instanceMethod Y_Pa_addText.1 ∈ x_tbl ∧ Cond.selects Y_Pa_addText.1.cls Y_Pa_addText.1 Y_Pa_addText.1 ∈ x_tbl := ⟨x_in 1091 (by rfl) rfl, x_in 1092 (by rfl) rfl⟩
set_option maxRecDepth 40000 in
theorem m_Wr_writeValue : x_mi Y_Wr_writeValue 2 := ⟨x_in 1098 (by rfl) rfl, x_in 106 (by rfl) rfl, ⟨by decide, by decide, by decide +kernel⟩, by decide⟩
set_option maxRecDepth 40000 in
theorem v_Wr_writeValue : Cond.instanceMethod Y_Wr_writeValue.1 ∈ x_tbl ∧ Cond.selects Y_Wr_writeValue.1.cls Y_Wr_writeValue.1 Y_Wr_writeValue.1 ∈ x_tbl := ⟨x_in 1097 (by rfl) rfl, x_in 35 (by rfl) rfl⟩
set_option maxRecDepth 40000 in
theorem m_Wr_writeRef : x_mi Y_Wr_writeRef 1 := ⟨x_in 1106 (by rfl) rfl, x_in 106 (by rfl) rfl, ⟨by decide, by decide, by decide +kernel⟩, by decide⟩
set_option maxRecDepth 40000 in
theorem v_Wr_writeRef : Cond.instanceMethod Y_Wr_writeRef.1 ∈ x_tbl ∧ Cond.selects Y_Wr_writeRef.1.cls Y_Wr_writeRef.1 Y_Wr_writeRef.1 ∈ x_tbl := ⟨x_in 1105 (by rfl) rfl, x_in 36 (by rfl) rfl⟩
set_option maxRecDepth 40000 in
theorem m_Wr_writeItems : x_mi Y_Wr_writeItems 4 := ⟨x_in 1113 (by rfl) rfl, x_in 106 (by rfl) rfl, ⟨by decide, by decide, by decide +kernel⟩, by decide⟩
set_option maxRecDepth 40000 in
theorem v_Wr_writeItems : Cond.instanceMethod Y_Wr_writeItems.1 ∈ x_tbl ∧ Cond.selects Y_Wr_writeItems.1.cls Y_Wr_writeItems.1 Y_Wr_writeItems.1 ∈ x_tbl := ⟨x_in 1112 (by rfl) rfl, x_in 37 (by rfl) rfl⟩
set_option maxRecDepth 40000 in
theorem m_Wr_writeName : x_mi Y_Wr_writeName 2 := ⟨x_in 1118 (by rfl) rfl, x_in 106 (by rfl) rfl, ⟨by decide, by decide, by decide +kernel⟩, by decide⟩
set_option maxRecDepth 40000 in
theorem v_Wr_writeName : Cond.instanceMethod Y_Wr_writeName.1 ∈ x_tbl ∧ Cond.selects Y_Wr_writeName.1.cls Y_Wr_writeName.1 Y_Wr_writeName.1 ∈ x_tbl := ⟨x_in 1117 (by rfl) rfl, x_in 38 (by rfl) rfl⟩
set_option maxRecDepth 40000 in
theorem m_Wr_writeData : x_mi Y_Wr_writeData 1 := ⟨x_in 1125 (by rfl) rfl, x_in 106 (by rfl) rfl, ⟨by decide, by decide, by decide +kernel⟩, by decide⟩
set_option maxRecDepth 40000 in
theorem v_Wr_writeData : Cond.instanceMethod Y_Wr_writeData.1 ∈ x_tbl ∧ Cond.selects Y_Wr_writeData.1.cls Y_Wr_writeData.1 Y_Wr_writeData.1 ∈ x_tbl := ⟨x_in 1124 (by rfl) rfl, x_in 39 (by rfl) rfl⟩
set_option maxRecDepth 40000 in
theorem m_Wr_writeSections : x_mi Y_Wr_writeSections 0 := ⟨x_in 1135 (by rfl) rfl, x_in 106 (by rfl) rfl, ⟨by decide, by decide, by decide +kernel⟩, by decide⟩
set_option maxRecDepth 40000 in
theorem v_Wr_writeSections : Cond.instanceMethod Y_Wr_writeSections.1 ∈ x_tbl ∧ Cond.selects Y_Wr_writeSections.1.cls Y_Wr_writeSections.1 Y_Wr_writeSections.1 ∈ x_tbl := ⟨x_in 1134 (by rfl) rfl, x_in 40 (by rfl) rfl⟩
set_option maxRecDepth 40000 in
theorem m_Wr_writeSection : x_mi Y_Wr_writeSection 1 := ⟨x_in 1139 (by rfl) rfl, x_in 106 (by rfl) rfl, ⟨by decide, by decide, by decide +kernel⟩, by decide⟩
set_option maxRecDepth 40000 in
theorem v_Wr_writeSection : Cond.instanceMethod Y_Wr_writeSection.1 ∈ x_tbl ∧ Cond.selects Y_Wr_writeSection.1.cls Y_Wr_writeSection.1 Y_Wr_writeSection.1 ∈ x_tbl := ⟨x_in 1138 (by rfl) rfl, x_in 41 (by rfl) rfl⟩
set_option maxRecDepth 40000 in
theorem m_Wr_writeTrailer : x_mi Y_Wr_writeTrailer 0 := ⟨x_in 1147 (by rfl) rfl, x_in 106 (by rfl) rfl, ⟨by decide, by decide, by decide +kernel⟩, by decide⟩
set_option maxRecDepth 40000 in
theorem v_Wr_writeTrailer : Cond.instanceMethod Y_Wr_writeTrailer.1 ∈ x_tbl ∧ Cond.selects Y_Wr_writeTrailer.1.cls Y_Wr_writeTrailer.1 Y_Wr_writeTrailer.1 ∈ x_tbl := ⟨x_in 1146 (by rfl) rfl, x_in 42 (by rfl) rfl⟩
set_option maxRecDepth 40000 in
theorem m_PF_pages : x_mi Y_PF_pages 0 := ⟨x_in 1157 (by rfl) rfl, x_in 95 (by rfl) rfl, ⟨by decide, by decide, by decide +kernel⟩, by decide⟩
set_option maxRecDepth 40000 in
theorem v_PF_pages : Cond.instanceMethod Y_PF_pages.1 ∈ x_tbl ∧ Cond.selects Y_PF_pages.1.cls Y_PF_pages.1 Y_PF_pages.1 ∈ x_tbl := ⟨x_in 1155 (by rfl) rfl, x_in 1156 (by rfl) rfl⟩
set_option maxRecDepth 40000 in
theorem m_PW_through : x_mi Y_PW_through 1 := ⟨x_in 1161 (by rfl) rfl, x_in 109 (by rfl) rfl, ⟨by decide, by decide, by decide +kernel⟩, by decide⟩
set_option maxRecDepth 40000 in
theorem v_PW_through : Cond.instanceMethod Y_PW_through.1 ∈ x_tbl ∧ Cond.selects Y_PW_through.1.cls Y_PW_through.1 Y_PW_through.1 ∈ x_tbl := ⟨x_in 1159 (by rfl) rfl, x_in 1160 (by rfl) rfl⟩
set_option maxRecDepth 40000 in
theorem m_PW_isDict : x_mi Y_PW_isDict 1 := ⟨x_in 1168 (by rfl) rfl, x_in 109 (by rfl) rfl, ⟨by decide, by decide, by decide +kernel⟩, by decide⟩
set_option maxRecDepth 40000 in
theorem v_PW_isDict : Cond.instanceMethod Y_PW_isDict.1 ∈ x_tbl ∧ Cond.selects Y_PW_isDict.1.cls Y_PW_isDict.1 Y_PW_isDict.1 ∈ x_tbl := ⟨x_in 1167 (by rfl) rfl, x_in 43 (by rfl) rfl⟩
set_option maxRecDepth 40000 in
theorem m_PW_visit : x_mi Y_PW_visit 2 := ⟨x_in 1173 (by rfl) rfl, x_in 109 (by rfl) rfl, ⟨by decide, by decide, by decide +kernel⟩, by decide⟩
set_option maxRecDepth 40000 in
theorem v_PW_visit : Cond.instanceMethod Y_PW_visit.1 ∈ x_tbl ∧ Cond.selects Y_PW_visit.1.cls Y_PW_visit.1 Y_PW_visit.1 ∈ x_tbl := ⟨x_in 1172 (by rfl) rfl, x_in 44 (by rfl) rfl⟩
set_option maxRecDepth 40000 in
theorem m_PW_visitKids : x_mi Y_PW_visitKids 2 := ⟨x_in 1181 (by rfl) rfl, x_in 109 (by rfl) rfl, ⟨by decide, by decide, by decide +kernel⟩, by decide⟩
set_option maxRecDepth 40000 in
theorem v_PW_visitKids : Cond.instanceMethod Y_PW_visitKids.1 ∈ x_tbl ∧ Cond.selects Y_PW_visitKids.1.cls Y_PW_visitKids.1 Y_PW_visitKids.1 ∈ x_tbl := ⟨x_in 1180 (by rfl) rfl, x_in 45 (by rfl) rfl⟩
set_option maxRecDepth 40000 in
theorem m_PF_page : x_mi Y_PF_page 1 := ⟨x_in 1186 (by rfl) rfl, x_in 95 (by rfl) rfl, ⟨by decide, by decide, by decide +kernel⟩, by decide⟩
set_option maxRecDepth 40000 in
theorem v_PF_page : Cond.instanceMethod Y_PF_page.1 ∈ x_tbl ∧ Cond.selects Y_PF_page.1.cls Y_PF_page.1 Y_PF_page.1 ∈ x_tbl := ⟨x_in 1184 (by rfl) rfl, x_in 1185 (by rfl) rfl⟩
set_option maxRecDepth 40000 in
theorem m_PF_count : x_mi Y_PF_count 1 := ⟨x_in 1190 (by rfl) rfl, x_in 95 (by rfl) rfl, ⟨by decide, by decide, by decide +kernel⟩, by decide⟩
set_option maxRecDepth 40000 in
theorem v_PF_count : Cond.instanceMethod Y_PF_count.1 ∈ x_tbl ∧ Cond.selects Y_PF_count.1.cls Y_PF_count.1 Y_PF_count.1 ∈ x_tbl := ⟨x_in 1188 (by rfl) rfl, x_in 1189 (by rfl) rfl⟩
set_option maxRecDepth 40000 in
theorem m_PF_state : x_mi Y_PF_state 2 := ⟨x_in 1194 (by rfl) rfl, x_in 95 (by rfl) rfl, ⟨by decide, by decide, by decide +kernel⟩, by decide⟩
set_option maxRecDepth 40000 in
theorem v_PF_state : Cond.instanceMethod Y_PF_state.1 ∈ x_tbl ∧ Cond.selects Y_PF_state.1.cls Y_PF_state.1 Y_PF_state.1 ∈ x_tbl := ⟨x_in 1192 (by rfl) rfl, x_in 1193 (by rfl) rfl⟩
set_option maxRecDepth 40000 in
theorem m_M_init : x_mi Y_M_init 0 := ⟨x_in 1199 (by rfl) rfl, x_in 111 (by rfl) rfl, ⟨by decide, by decide, by decide +kernel⟩, by decide⟩
set_option maxRecDepth 40000 in
theorem v_M_init : Y_M_init.1.name = "<init>" ∧ Cond.instanceMethod Y_M_init.1 ∈ x_tbl := ⟨rfl, x_in 1198 (by rfl) rfl⟩
set_option maxRecDepth 40000 in
theorem m_M_feed : x_mi Y_M_feed 5 := ⟨x_in 1268 (by rfl) rfl, x_in 111 (by rfl) rfl, ⟨by decide, by decide, by decide +kernel⟩, by decide⟩
set_option maxRecDepth 40000 in
theorem v_M_feed : Cond.instanceMethod Y_M_feed.1 ∈ x_tbl ∧ Cond.selects Y_M_feed.1.cls Y_M_feed.1 Y_M_feed.1 ∈ x_tbl := ⟨x_in 1266 (by rfl) rfl, x_in 1267 (by rfl) rfl⟩
set_option maxRecDepth 40000 in
theorem m_M_end : x_mi Y_M_end 1 := ⟨x_in 1272 (by rfl) rfl, x_in 111 (by rfl) rfl, ⟨by decide, by decide, by decide +kernel⟩, by decide⟩
set_option maxRecDepth 40000 in
theorem v_M_end : Cond.instanceMethod Y_M_end.1 ∈ x_tbl ∧ Cond.selects Y_M_end.1.cls Y_M_end.1 Y_M_end.1 ∈ x_tbl := ⟨x_in 1270 (by rfl) rfl, x_in 1271 (by rfl) rfl⟩
set_option maxRecDepth 40000 in
theorem m_M_in : x_mi Y_M_in 3 := ⟨x_in 1275 (by rfl) rfl, x_in 111 (by rfl) rfl, ⟨by decide, by decide, by decide +kernel⟩, by decide⟩
set_option maxRecDepth 40000 in
theorem s_M_in : Cond.static Y_M_in.1 ∈ x_tbl := x_in 1274 (by rfl) rfl
set_option maxRecDepth 40000 in
theorem m_M_open : x_mi Y_M_open 0 := ⟨x_in 1279 (by rfl) rfl, x_in 111 (by rfl) rfl, ⟨by decide, by decide, by decide +kernel⟩, by decide⟩
set_option maxRecDepth 40000 in
theorem v_M_open : Cond.instanceMethod Y_M_open.1 ∈ x_tbl ∧ Cond.selects Y_M_open.1.cls Y_M_open.1 Y_M_open.1 ∈ x_tbl := ⟨x_in 1277 (by rfl) rfl, x_in 1278 (by rfl) rfl⟩
set_option maxRecDepth 40000 in
theorem m_MP_init : x_mi Y_MP_init 0 := ⟨x_in 1284 (by rfl) rfl, x_in 113 (by rfl) rfl, ⟨by decide, by decide, by decide +kernel⟩, by decide⟩
set_option maxRecDepth 40000 in
theorem v_MP_init : Y_MP_init.1.name = "<init>" ∧ Cond.instanceMethod Y_MP_init.1 ∈ x_tbl := ⟨rfl, x_in 1283 (by rfl) rfl⟩
set_option maxRecDepth 40000 in
theorem m_M_used : x_mi Y_M_used 0 := ⟨x_in 1328 (by rfl) rfl, x_in 111 (by rfl) rfl, ⟨by decide, by decide, by decide +kernel⟩, by decide⟩
set_option maxRecDepth 40000 in
theorem v_M_used : Cond.instanceMethod Y_M_used.1 ∈ x_tbl ∧ Cond.selects Y_M_used.1.cls Y_M_used.1 Y_M_used.1 ∈ x_tbl := ⟨x_in 1327 (by rfl) rfl, x_in 46 (by rfl) rfl⟩
set_option maxRecDepth 40000 in
theorem m_M_read : x_mi Y_M_read 1 := ⟨x_in 1332 (by rfl) rfl, x_in 111 (by rfl) rfl, ⟨by decide, by decide, by decide +kernel⟩, by decide⟩
set_option maxRecDepth 40000 in
theorem v_M_read : Cond.instanceMethod Y_M_read.1 ∈ x_tbl ∧ Cond.selects Y_M_read.1.cls Y_M_read.1 Y_M_read.1 ∈ x_tbl := ⟨x_in 1331 (by rfl) rfl, x_in 47 (by rfl) rfl⟩
set_option maxRecDepth 40000 in
theorem m_M_isAt1 : x_mi Y_M_isAt1 2 := ⟨x_in 1337 (by rfl) rfl, x_in 111 (by rfl) rfl, ⟨by decide, by decide, by decide +kernel⟩, by decide⟩
set_option maxRecDepth 40000 in
theorem v_M_isAt1 : Cond.instanceMethod Y_M_isAt1.1 ∈ x_tbl ∧ Cond.selects Y_M_isAt1.1.cls Y_M_isAt1.1 Y_M_isAt1.1 ∈ x_tbl := ⟨x_in 1336 (by rfl) rfl, x_in 48 (by rfl) rfl⟩
set_option maxRecDepth 40000 in
theorem m_M_isDigit : x_mi Y_M_isDigit 1 := ⟨x_in 1342 (by rfl) rfl, x_in 111 (by rfl) rfl, ⟨by decide, by decide, by decide +kernel⟩, by decide⟩
set_option maxRecDepth 40000 in
theorem s_M_isDigit : Cond.static Y_M_isDigit.1 ∈ x_tbl := x_in 1341 (by rfl) rfl
set_option maxRecDepth 40000 in
theorem m_M_isRegular : x_mi Y_M_isRegular 1 := ⟨x_in 1346 (by rfl) rfl, x_in 111 (by rfl) rfl, ⟨by decide, by decide, by decide +kernel⟩, by decide⟩
set_option maxRecDepth 40000 in
theorem s_M_isRegular : Cond.static Y_M_isRegular.1 ∈ x_tbl := x_in 1345 (by rfl) rfl
set_option maxRecDepth 40000 in
theorem m_M_isDelimiter : x_mi Y_M_isDelimiter 1 := ⟨x_in 1349 (by rfl) rfl, x_in 111 (by rfl) rfl, ⟨by decide, by decide, by decide +kernel⟩, by decide⟩
set_option maxRecDepth 40000 in
theorem s_M_isDelimiter : Cond.static Y_M_isDelimiter.1 ∈ x_tbl := x_in 1348 (by rfl) rfl
set_option maxRecDepth 40000 in
theorem m_M_takeWord : x_mi Y_M_takeWord 1 := ⟨x_in 1353 (by rfl) rfl, x_in 111 (by rfl) rfl, ⟨by decide, by decide, by decide +kernel⟩, by decide⟩
set_option maxRecDepth 40000 in
theorem v_M_takeWord : Cond.instanceMethod Y_M_takeWord.1 ∈ x_tbl ∧ Cond.selects Y_M_takeWord.1.cls Y_M_takeWord.1 Y_M_takeWord.1 ∈ x_tbl := ⟨x_in 1352 (by rfl) rfl, x_in 49 (by rfl) rfl⟩
set_option maxRecDepth 40000 in
theorem m_M_wordEnd : x_mi Y_M_wordEnd 1 := ⟨x_in 1357 (by rfl) rfl, x_in 111 (by rfl) rfl, ⟨by decide, by decide, by decide +kernel⟩, by decide⟩
set_option maxRecDepth 40000 in
theorem v_M_wordEnd : Cond.instanceMethod Y_M_wordEnd.1 ∈ x_tbl ∧ Cond.selects Y_M_wordEnd.1.cls Y_M_wordEnd.1 Y_M_wordEnd.1 ∈ x_tbl := ⟨x_in 1356 (by rfl) rfl, x_in 50 (by rfl) rfl⟩
set_option maxRecDepth 40000 in
theorem m_M_isWord : x_mi Y_M_isWord 3 := ⟨x_in 1361 (by rfl) rfl, x_in 111 (by rfl) rfl, ⟨by decide, by decide, by decide +kernel⟩, by decide⟩
set_option maxRecDepth 40000 in
theorem v_M_isWord : Cond.instanceMethod Y_M_isWord.1 ∈ x_tbl ∧ Cond.selects Y_M_isWord.1.cls Y_M_isWord.1 Y_M_isWord.1 ∈ x_tbl := ⟨x_in 1360 (by rfl) rfl, x_in 51 (by rfl) rfl⟩
set_option maxRecDepth 40000 in
theorem m_M_takeByte : x_mi Y_M_takeByte 1 := ⟨x_in 1365 (by rfl) rfl, x_in 111 (by rfl) rfl, ⟨by decide, by decide, by decide +kernel⟩, by decide⟩
set_option maxRecDepth 40000 in
theorem v_M_takeByte : Cond.instanceMethod Y_M_takeByte.1 ∈ x_tbl ∧ Cond.selects Y_M_takeByte.1.cls Y_M_takeByte.1 Y_M_takeByte.1 ∈ x_tbl := ⟨x_in 1364 (by rfl) rfl, x_in 52 (by rfl) rfl⟩
set_option maxRecDepth 40000 in
theorem m_M_takeNumber : x_mi Y_M_takeNumber 0 := ⟨x_in 1369 (by rfl) rfl, x_in 111 (by rfl) rfl, ⟨by decide, by decide, by decide +kernel⟩, by decide⟩
set_option maxRecDepth 40000 in
theorem v_M_takeNumber : Cond.instanceMethod Y_M_takeNumber.1 ∈ x_tbl ∧ Cond.selects Y_M_takeNumber.1.cls Y_M_takeNumber.1 Y_M_takeNumber.1 ∈ x_tbl := ⟨x_in 1368 (by rfl) rfl, x_in 53 (by rfl) rfl⟩
set_option maxRecDepth 40000 in
theorem m_M_numberOf : x_mi Y_M_numberOf 2 := ⟨x_in 1373 (by rfl) rfl, x_in 111 (by rfl) rfl, ⟨by decide, by decide, by decide +kernel⟩, by decide⟩
set_option maxRecDepth 40000 in
theorem v_M_numberOf : Cond.instanceMethod Y_M_numberOf.1 ∈ x_tbl ∧ Cond.selects Y_M_numberOf.1.cls Y_M_numberOf.1 Y_M_numberOf.1 ∈ x_tbl := ⟨x_in 1372 (by rfl) rfl, x_in 54 (by rfl) rfl⟩
set_option maxRecDepth 40000 in
theorem m_M_table : x_mi Y_M_table 2 := ⟨x_in 1379 (by rfl) rfl, x_in 111 (by rfl) rfl, ⟨by decide, by decide, by decide +kernel⟩, by decide⟩
set_option maxRecDepth 40000 in
theorem v_M_table : Cond.instanceMethod Y_M_table.1 ∈ x_tbl ∧ Cond.selects Y_M_table.1.cls Y_M_table.1 Y_M_table.1 ∈ x_tbl := ⟨x_in 1378 (by rfl) rfl, x_in 55 (by rfl) rfl⟩
set_option maxRecDepth 40000 in
theorem m_M_entry : x_mi Y_M_entry 2 := ⟨x_in 1386 (by rfl) rfl, x_in 111 (by rfl) rfl, ⟨by decide, by decide, by decide +kernel⟩, by decide⟩
set_option maxRecDepth 40000 in
theorem v_M_entry : Cond.instanceMethod Y_M_entry.1 ∈ x_tbl ∧ Cond.selects Y_M_entry.1.cls Y_M_entry.1 Y_M_entry.1 ∈ x_tbl := ⟨x_in 1385 (by rfl) rfl, x_in 56 (by rfl) rfl⟩
set_option maxRecDepth 40000 in
theorem m_M_dict : x_mi Y_M_dict 1 := ⟨x_in 1395 (by rfl) rfl, x_in 111 (by rfl) rfl, ⟨by decide, by decide, by decide +kernel⟩, by decide⟩
set_option maxRecDepth 40000 in
theorem v_M_dict : Cond.instanceMethod Y_M_dict.1 ∈ x_tbl ∧ Cond.selects Y_M_dict.1.cls Y_M_dict.1 Y_M_dict.1 ∈ x_tbl := ⟨x_in 1394 (by rfl) rfl, x_in 57 (by rfl) rfl⟩
set_option maxRecDepth 40000 in
theorem m_MQ_init : x_mi Y_MQ_init 1 := ⟨x_in 1400 (by rfl) rfl, x_in 114 (by rfl) rfl, ⟨by decide, by decide, by decide +kernel⟩, by decide⟩
set_option maxRecDepth 40000 in
theorem v_MQ_init : Y_MQ_init.1.name = "<init>" ∧ Cond.instanceMethod Y_MQ_init.1 ∈ x_tbl := ⟨rfl, x_in 1399 (by rfl) rfl⟩
set_option maxRecDepth 40000 in
theorem m_M_white : x_mi Y_M_white 0 := ⟨x_in 1434 (by rfl) rfl, x_in 111 (by rfl) rfl, ⟨by decide, by decide, by decide +kernel⟩, by decide⟩
set_option maxRecDepth 40000 in
theorem v_M_white : Cond.instanceMethod Y_M_white.1 ∈ x_tbl ∧ Cond.selects Y_M_white.1.cls Y_M_white.1 Y_M_white.1 ∈ x_tbl := ⟨x_in 1433 (by rfl) rfl, x_in 58 (by rfl) rfl⟩
set_option maxRecDepth 40000 in
theorem m_M_isWhite : x_mi Y_M_isWhite 1 := ⟨x_in 1437 (by rfl) rfl, x_in 111 (by rfl) rfl, ⟨by decide, by decide, by decide +kernel⟩, by decide⟩
set_option maxRecDepth 40000 in
theorem s_M_isWhite : Cond.static Y_M_isWhite.1 ∈ x_tbl := x_in 1436 (by rfl) rfl
set_option maxRecDepth 40000 in
theorem m_M_name : x_mi Y_M_name 0 := ⟨x_in 1441 (by rfl) rfl, x_in 111 (by rfl) rfl, ⟨by decide, by decide, by decide +kernel⟩, by decide⟩
set_option maxRecDepth 40000 in
theorem v_M_name : Cond.instanceMethod Y_M_name.1 ∈ x_tbl ∧ Cond.selects Y_M_name.1.cls Y_M_name.1 Y_M_name.1 ∈ x_tbl := ⟨x_in 1440 (by rfl) rfl, x_in 59 (by rfl) rfl⟩
set_option maxRecDepth 40000 in
theorem m_Ar_copyOfRange : x_mi Y_Ar_copyOfRange 3 := ⟨x_in 1444 (by rfl) rfl, x_in 115 (by rfl) rfl, ⟨by decide, by decide, by decide +kernel⟩, by decide⟩
set_option maxRecDepth 40000 in
theorem s_Ar_copyOfRange : Cond.static Y_Ar_copyOfRange.1 ∈ x_tbl := x_in 1443 (by rfl) rfl
set_option maxRecDepth 40000 in
theorem m_Ar_copyOfRangeByte : x_mi Y_Ar_copyOfRangeByte 3 := ⟨x_in 1447 (by rfl) rfl, x_in 115 (by rfl) rfl, ⟨by decide, by decide, by decide +kernel⟩, by decide⟩
set_option maxRecDepth 40000 in
theorem s_Ar_copyOfRangeByte : Cond.static Y_Ar_copyOfRangeByte.1 ∈ x_tbl := x_in 1446 (by rfl) rfl
set_option maxRecDepth 40000 in
theorem m_Ar_checkLength : x_mi Y_Ar_checkLength 2 := ⟨x_in 1450 (by rfl) rfl, x_in 115 (by rfl) rfl, ⟨by decide, by decide, by decide +kernel⟩, by decide⟩
set_option maxRecDepth 40000 in
theorem s_Ar_checkLength : Cond.static Y_Ar_checkLength.1 ∈ x_tbl := x_in 1449 (by rfl) rfl
set_option maxRecDepth 40000 in
theorem m_MQ_get1 : x_mi Y_MQ_get1 3 := ⟨x_in 1463 (by rfl) rfl, x_in 114 (by rfl) rfl, ⟨by decide, by decide, by decide +kernel⟩, by decide⟩
set_option maxRecDepth 40000 in
theorem v_MQ_get1 : Cond.instanceMethod Y_MQ_get1.1 ∈ x_tbl ∧ Cond.selects Y_MQ_get1.1.cls Y_MQ_get1.1 Y_MQ_get1.1 ∈ x_tbl := ⟨x_in 1461 (by rfl) rfl, x_in 1462 (by rfl) rfl⟩
set_option maxRecDepth 40000 in
theorem m_M_isLike : x_mi Y_M_isLike 4 := ⟨x_in 1466 (by rfl) rfl, x_in 111 (by rfl) rfl, ⟨by decide, by decide, by decide +kernel⟩, by decide⟩
set_option maxRecDepth 40000 in
theorem s_M_isLike : Cond.static Y_M_isLike.1 ∈ x_tbl := x_in 1465 (by rfl) rfl
set_option maxRecDepth 40000 in
theorem m_M_object : x_mi Y_M_object 1 := ⟨x_in 1470 (by rfl) rfl, x_in 111 (by rfl) rfl, ⟨by decide, by decide, by decide +kernel⟩, by decide⟩
set_option maxRecDepth 40000 in
theorem v_M_object : Cond.instanceMethod Y_M_object.1 ∈ x_tbl ∧ Cond.selects Y_M_object.1.cls Y_M_object.1 Y_M_object.1 ∈ x_tbl := ⟨x_in 1469 (by rfl) rfl, x_in 60 (by rfl) rfl⟩
set_option maxRecDepth 40000 in
theorem m_M_string : x_mi Y_M_string 0 := ⟨x_in 1474 (by rfl) rfl, x_in 111 (by rfl) rfl, ⟨by decide, by decide, by decide +kernel⟩, by decide⟩
set_option maxRecDepth 40000 in
theorem v_M_string : Cond.instanceMethod Y_M_string.1 ∈ x_tbl ∧ Cond.selects Y_M_string.1.cls Y_M_string.1 Y_M_string.1 ∈ x_tbl := ⟨x_in 1473 (by rfl) rfl, x_in 61 (by rfl) rfl⟩
set_option maxRecDepth 40000 in
theorem m_M_escaped : x_mi Y_M_escaped 0 := ⟨x_in 1478 (by rfl) rfl, x_in 111 (by rfl) rfl, ⟨by decide, by decide, by decide +kernel⟩, by decide⟩
set_option maxRecDepth 40000 in
theorem v_M_escaped : Cond.instanceMethod Y_M_escaped.1 ∈ x_tbl ∧ Cond.selects Y_M_escaped.1.cls Y_M_escaped.1 Y_M_escaped.1 ∈ x_tbl := ⟨x_in 1477 (by rfl) rfl, x_in 62 (by rfl) rfl⟩
set_option maxRecDepth 40000 in
theorem m_M_ofBytes : x_mi Y_M_ofBytes 1 := ⟨x_in 1482 (by rfl) rfl, x_in 111 (by rfl) rfl, ⟨by decide, by decide, by decide +kernel⟩, by decide⟩
set_option maxRecDepth 40000 in
theorem v_M_ofBytes : Cond.instanceMethod Y_M_ofBytes.1 ∈ x_tbl ∧ Cond.selects Y_M_ofBytes.1.cls Y_M_ofBytes.1 Y_M_ofBytes.1 ∈ x_tbl := ⟨x_in 1481 (by rfl) rfl, x_in 63 (by rfl) rfl⟩
set_option maxRecDepth 40000 in
theorem m_Ar_copyOf : x_mi Y_Ar_copyOf 2 := ⟨x_in 1485 (by rfl) rfl, x_in 115 (by rfl) rfl, ⟨by decide, by decide, by decide +kernel⟩, by decide⟩
set_option maxRecDepth 40000 in
theorem s_Ar_copyOf : Cond.static Y_Ar_copyOf.1 ∈ x_tbl := x_in 1484 (by rfl) rfl
set_option maxRecDepth 40000 in
theorem m_M_array : x_mi Y_M_array 1 := ⟨x_in 1489 (by rfl) rfl, x_in 111 (by rfl) rfl, ⟨by decide, by decide, by decide +kernel⟩, by decide⟩
set_option maxRecDepth 40000 in
theorem v_M_array : Cond.instanceMethod Y_M_array.1 ∈ x_tbl ∧ Cond.selects Y_M_array.1.cls Y_M_array.1 Y_M_array.1 ∈ x_tbl := ⟨x_in 1488 (by rfl) rfl, x_in 64 (by rfl) rfl⟩
set_option maxRecDepth 40000 in
theorem m_M_longer : x_mi Y_M_longer 1 := ⟨x_in 1492 (by rfl) rfl, x_in 111 (by rfl) rfl, ⟨by decide, by decide, by decide +kernel⟩, by decide⟩
set_option maxRecDepth 40000 in
theorem s_M_longer : Cond.static Y_M_longer.1 ∈ x_tbl := x_in 1491 (by rfl) rfl
set_option maxRecDepth 40000 in
theorem m_M_digits : x_mi Y_M_digits 0 := ⟨x_in 1496 (by rfl) rfl, x_in 111 (by rfl) rfl, ⟨by decide, by decide, by decide +kernel⟩, by decide⟩
set_option maxRecDepth 40000 in
theorem v_M_digits : Cond.instanceMethod Y_M_digits.1 ∈ x_tbl ∧ Cond.selects Y_M_digits.1.cls Y_M_digits.1 Y_M_digits.1 ∈ x_tbl := ⟨x_in 1495 (by rfl) rfl, x_in 65 (by rfl) rfl⟩
set_option maxRecDepth 40000 in
theorem m_M_hexOf : x_mi Y_M_hexOf 1 := ⟨x_in 1499 (by rfl) rfl, x_in 111 (by rfl) rfl, ⟨by decide, by decide, by decide +kernel⟩, by decide⟩
set_option maxRecDepth 40000 in
theorem s_M_hexOf : Cond.static Y_M_hexOf.1 ∈ x_tbl := x_in 1498 (by rfl) rfl
set_option maxRecDepth 40000 in
theorem m_M_reference : x_mi Y_M_reference 1 := ⟨x_in 1506 (by rfl) rfl, x_in 111 (by rfl) rfl, ⟨by decide, by decide, by decide +kernel⟩, by decide⟩
set_option maxRecDepth 40000 in
theorem v_M_reference : Cond.instanceMethod Y_M_reference.1 ∈ x_tbl ∧ Cond.selects Y_M_reference.1.cls Y_M_reference.1 Y_M_reference.1 ∈ x_tbl := ⟨x_in 1505 (by rfl) rfl, x_in 66 (by rfl) rfl⟩
set_option maxRecDepth 40000 in
theorem m_MQ_get2 : x_mi Y_MQ_get2 1 := ⟨x_in 1513 (by rfl) rfl, x_in 114 (by rfl) rfl, ⟨by decide, by decide, by decide +kernel⟩, by decide⟩
set_option maxRecDepth 40000 in
theorem v_MQ_get2 : Cond.instanceMethod Y_MQ_get2.1 ∈ x_tbl ∧ Cond.selects Y_MQ_get2.1.cls Y_MQ_get2.1 Y_MQ_get2.1 ∈ x_tbl := ⟨x_in 1511 (by rfl) rfl, x_in 1512 (by rfl) rfl⟩
set_option maxRecDepth 40000 in
theorem m_M_objects : x_mi Y_M_objects 1 := ⟨x_in 1520 (by rfl) rfl, x_in 111 (by rfl) rfl, ⟨by decide, by decide, by decide +kernel⟩, by decide⟩
set_option maxRecDepth 40000 in
theorem v_M_objects : Cond.instanceMethod Y_M_objects.1 ∈ x_tbl ∧ Cond.selects Y_M_objects.1.cls Y_M_objects.1 Y_M_objects.1 ∈ x_tbl := ⟨x_in 1519 (by rfl) rfl, x_in 67 (by rfl) rfl⟩
set_option maxRecDepth 40000 in
theorem m_M_valueAt : x_mi Y_M_valueAt 2 := ⟨x_in 1524 (by rfl) rfl, x_in 111 (by rfl) rfl, ⟨by decide, by decide, by decide +kernel⟩, by decide⟩
set_option maxRecDepth 40000 in
theorem v_M_valueAt : Cond.instanceMethod Y_M_valueAt.1 ∈ x_tbl ∧ Cond.selects Y_M_valueAt.1.cls Y_M_valueAt.1 Y_M_valueAt.1 ∈ x_tbl := ⟨x_in 1523 (by rfl) rfl, x_in 68 (by rfl) rfl⟩
set_option maxRecDepth 40000 in
theorem m_M_begin : x_mi Y_M_begin 2 := ⟨x_in 1528 (by rfl) rfl, x_in 111 (by rfl) rfl, ⟨by decide, by decide, by decide +kernel⟩, by decide⟩
set_option maxRecDepth 40000 in
theorem v_M_begin : Cond.instanceMethod Y_M_begin.1 ∈ x_tbl ∧ Cond.selects Y_M_begin.1.cls Y_M_begin.1 Y_M_begin.1 ∈ x_tbl := ⟨x_in 1527 (by rfl) rfl, x_in 69 (by rfl) rfl⟩
set_option maxRecDepth 40000 in
theorem m_M_stream : x_mi Y_M_stream 2 := ⟨x_in 1534 (by rfl) rfl, x_in 111 (by rfl) rfl, ⟨by decide, by decide, by decide +kernel⟩, by decide⟩
set_option maxRecDepth 40000 in
theorem v_M_stream : Cond.instanceMethod Y_M_stream.1 ∈ x_tbl ∧ Cond.selects Y_M_stream.1.cls Y_M_stream.1 Y_M_stream.1 ∈ x_tbl := ⟨x_in 1533 (by rfl) rfl, x_in 70 (by rfl) rfl⟩
set_option maxRecDepth 40000 in
theorem m_M_lengthOf : x_mi Y_M_lengthOf 2 := ⟨x_in 1539 (by rfl) rfl, x_in 111 (by rfl) rfl, ⟨by decide, by decide, by decide +kernel⟩, by decide⟩
set_option maxRecDepth 40000 in
theorem v_M_lengthOf : Cond.instanceMethod Y_M_lengthOf.1 ∈ x_tbl ∧ Cond.selects Y_M_lengthOf.1.cls Y_M_lengthOf.1 Y_M_lengthOf.1 ∈ x_tbl := ⟨x_in 1538 (by rfl) rfl, x_in 71 (by rfl) rfl⟩
set_option maxRecDepth 40000 in
theorem m_MQ_parts : x_mi Y_MQ_parts 0 := ⟨x_in 1545 (by rfl) rfl, x_in 114 (by rfl) rfl, ⟨by decide, by decide, by decide +kernel⟩, by decide⟩
set_option maxRecDepth 40000 in
theorem v_MQ_parts : Cond.instanceMethod Y_MQ_parts.1 ∈ x_tbl ∧ Cond.selects Y_MQ_parts.1.cls Y_MQ_parts.1 Y_MQ_parts.1 ∈ x_tbl := ⟨x_in 1543 (by rfl) rfl, x_in 1544 (by rfl) rfl⟩
set_option maxRecDepth 40000 in
theorem m_M_go : x_mi Y_M_go 1 := ⟨x_in 1550 (by rfl) rfl, x_in 111 (by rfl) rfl, ⟨by decide, by decide, by decide +kernel⟩, by decide⟩
set_option maxRecDepth 40000 in
theorem v_M_go : Cond.instanceMethod Y_M_go.1 ∈ x_tbl ∧ Cond.selects Y_M_go.1.cls Y_M_go.1 Y_M_go.1 ∈ x_tbl := ⟨x_in 1548 (by rfl) rfl, x_in 1549 (by rfl) rfl⟩
set_option maxRecDepth 40000 in
theorem m_M_isUsed : x_mi Y_M_isUsed 1 := ⟨x_in 1554 (by rfl) rfl, x_in 111 (by rfl) rfl, ⟨by decide, by decide, by decide +kernel⟩, by decide⟩
set_option maxRecDepth 40000 in
theorem v_M_isUsed : Cond.instanceMethod Y_M_isUsed.1 ∈ x_tbl ∧ Cond.selects Y_M_isUsed.1.cls Y_M_isUsed.1 Y_M_isUsed.1 ∈ x_tbl := ⟨x_in 1553 (by rfl) rfl, x_in 72 (by rfl) rfl⟩
set_option maxRecDepth 40000 in
theorem m_M_isAt2 : x_mi Y_M_isAt2 1 := ⟨x_in 1558 (by rfl) rfl, x_in 111 (by rfl) rfl, ⟨by decide, by decide, by decide +kernel⟩, by decide⟩
set_option maxRecDepth 40000 in
theorem v_M_isAt2 : Cond.instanceMethod Y_M_isAt2.1 ∈ x_tbl ∧ Cond.selects Y_M_isAt2.1.cls Y_M_isAt2.1 Y_M_isAt2.1 ∈ x_tbl := ⟨x_in 1557 (by rfl) rfl, x_in 73 (by rfl) rfl⟩
set_option maxRecDepth 40000 in
theorem m_M_trailer : x_mi Y_M_trailer 0 := ⟨x_in 1562 (by rfl) rfl, x_in 111 (by rfl) rfl, ⟨by decide, by decide, by decide +kernel⟩, by decide⟩
set_option maxRecDepth 40000 in
theorem v_M_trailer : Cond.instanceMethod Y_M_trailer.1 ∈ x_tbl ∧ Cond.selects Y_M_trailer.1.cls Y_M_trailer.1 Y_M_trailer.1 ∈ x_tbl := ⟨x_in 1560 (by rfl) rfl, x_in 1561 (by rfl) rfl⟩
set_option maxRecDepth 40000 in
theorem m_M_item : x_mi Y_M_item 1 := ⟨x_in 1566 (by rfl) rfl, x_in 111 (by rfl) rfl, ⟨by decide, by decide, by decide +kernel⟩, by decide⟩
set_option maxRecDepth 40000 in
theorem v_M_item : Cond.instanceMethod Y_M_item.1 ∈ x_tbl ∧ Cond.selects Y_M_item.1.cls Y_M_item.1 Y_M_item.1 ∈ x_tbl := ⟨x_in 1564 (by rfl) rfl, x_in 1565 (by rfl) rfl⟩
set_option maxRecDepth 40000 in
theorem m_M_find : x_mi Y_M_find 0 := ⟨x_in 1570 (by rfl) rfl, x_in 111 (by rfl) rfl, ⟨by decide, by decide, by decide +kernel⟩, by decide⟩
set_option maxRecDepth 40000 in
theorem v_M_find : Cond.instanceMethod Y_M_find.1 ∈ x_tbl ∧ Cond.selects Y_M_find.1.cls Y_M_find.1 Y_M_find.1 ∈ x_tbl := ⟨x_in 1568 (by rfl) rfl, x_in 1569 (by rfl) rfl⟩
set_option maxRecDepth 40000 in
theorem m_M_follow : x_mi Y_M_follow 0 := ⟨x_in 1574 (by rfl) rfl, x_in 111 (by rfl) rfl, ⟨by decide, by decide, by decide +kernel⟩, by decide⟩
set_option maxRecDepth 40000 in
theorem v_M_follow : Cond.instanceMethod Y_M_follow.1 ∈ x_tbl ∧ Cond.selects Y_M_follow.1.cls Y_M_follow.1 Y_M_follow.1 ∈ x_tbl := ⟨x_in 1572 (by rfl) rfl, x_in 1573 (by rfl) rfl⟩
set_option maxRecDepth 40000 in
theorem m_M_led : x_mi Y_M_led 1 := ⟨x_in 1578 (by rfl) rfl, x_in 111 (by rfl) rfl, ⟨by decide, by decide, by decide +kernel⟩, by decide⟩
set_option maxRecDepth 40000 in
theorem v_M_led : Cond.instanceMethod Y_M_led.1 ∈ x_tbl ∧ Cond.selects Y_M_led.1.cls Y_M_led.1 Y_M_led.1 ∈ x_tbl := ⟨x_in 1577 (by rfl) rfl, x_in 74 (by rfl) rfl⟩
set_option maxRecDepth 40000 in
theorem m_M_look : x_mi Y_M_look 1 := ⟨x_in 1582 (by rfl) rfl, x_in 111 (by rfl) rfl, ⟨by decide, by decide, by decide +kernel⟩, by decide⟩
set_option maxRecDepth 40000 in
theorem v_M_look : Cond.instanceMethod Y_M_look.1 ∈ x_tbl ∧ Cond.selects Y_M_look.1.cls Y_M_look.1 Y_M_look.1 ∈ x_tbl := ⟨x_in 1580 (by rfl) rfl, x_in 1581 (by rfl) rfl⟩
set_option maxRecDepth 40000 in
theorem m_M_bytes : x_mi Y_M_bytes 1 := ⟨x_in 1587 (by rfl) rfl, x_in 111 (by rfl) rfl, ⟨by decide, by decide, by decide +kernel⟩, by decide⟩
set_option maxRecDepth 40000 in
theorem v_M_bytes : Cond.instanceMethod Y_M_bytes.1 ∈ x_tbl ∧ Cond.selects Y_M_bytes.1.cls Y_M_bytes.1 Y_M_bytes.1 ∈ x_tbl := ⟨x_in 1585 (by rfl) rfl, x_in 1586 (by rfl) rfl⟩
set_option maxRecDepth 40000 in
theorem m_M_tell : x_mi Y_M_tell 1 := ⟨x_in 1591 (by rfl) rfl, x_in 111 (by rfl) rfl, ⟨by decide, by decide, by decide +kernel⟩, by decide⟩
set_option maxRecDepth 40000 in
theorem v_M_tell : Cond.instanceMethod Y_M_tell.1 ∈ x_tbl ∧ Cond.selects Y_M_tell.1.cls Y_M_tell.1 Y_M_tell.1 ∈ x_tbl := ⟨x_in 1590 (by rfl) rfl, x_in 75 (by rfl) rfl⟩
set_option maxRecDepth 40000 in
theorem m_M_octet : x_mi Y_M_octet 1 := ⟨x_in 1596 (by rfl) rfl, x_in 111 (by rfl) rfl, ⟨by decide, by decide, by decide +kernel⟩, by decide⟩
set_option maxRecDepth 40000 in
theorem v_M_octet : Cond.instanceMethod Y_M_octet.1 ∈ x_tbl ∧ Cond.selects Y_M_octet.1.cls Y_M_octet.1 Y_M_octet.1 ∈ x_tbl := ⟨x_in 1594 (by rfl) rfl, x_in 1595 (by rfl) rfl⟩
set_option maxRecDepth 40000 in
theorem m_M_decode : x_mi Y_M_decode 0 := ⟨x_in 1601 (by rfl) rfl, x_in 111 (by rfl) rfl, ⟨by decide, by decide, by decide +kernel⟩, by decide⟩
set_option maxRecDepth 40000 in
theorem v_M_decode : Cond.instanceMethod Y_M_decode.1 ∈ x_tbl ∧ Cond.selects Y_M_decode.1.cls Y_M_decode.1 Y_M_decode.1 ∈ x_tbl := ⟨x_in 1599 (by rfl) rfl, x_in 1600 (by rfl) rfl⟩
set_option maxRecDepth 40000 in
theorem m_MQ_isName : x_mi Y_MQ_isName 1 := ⟨x_in 1607 (by rfl) rfl, x_in 114 (by rfl) rfl, ⟨by decide, by decide, by decide +kernel⟩, by decide⟩
set_option maxRecDepth 40000 in
theorem v_MQ_isName : Cond.instanceMethod Y_MQ_isName.1 ∈ x_tbl ∧ Cond.selects Y_MQ_isName.1.cls Y_MQ_isName.1 Y_MQ_isName.1 ∈ x_tbl := ⟨x_in 1605 (by rfl) rfl, x_in 1606 (by rfl) rfl⟩
set_option maxRecDepth 40000 in
theorem m_M_hex : x_mi Y_M_hex 1 := ⟨x_in 1611 (by rfl) rfl, x_in 111 (by rfl) rfl, ⟨by decide, by decide, by decide +kernel⟩, by decide⟩
set_option maxRecDepth 40000 in
theorem v_M_hex : Cond.instanceMethod Y_M_hex.1 ∈ x_tbl ∧ Cond.selects Y_M_hex.1.cls Y_M_hex.1 Y_M_hex.1 ∈ x_tbl := ⟨x_in 1610 (by rfl) rfl, x_in 76 (by rfl) rfl⟩
set_option maxRecDepth 40000 in
theorem m_M_one : x_mi Y_M_one 1 := ⟨x_in 1615 (by rfl) rfl, x_in 111 (by rfl) rfl, ⟨by decide, by decide, by decide +kernel⟩, by decide⟩
set_option maxRecDepth 40000 in
theorem v_M_one : Cond.instanceMethod Y_M_one.1 ∈ x_tbl ∧ Cond.selects Y_M_one.1.cls Y_M_one.1 Y_M_one.1 ∈ x_tbl := ⟨x_in 1614 (by rfl) rfl, x_in 77 (by rfl) rfl⟩
set_option maxRecDepth 40000 in
theorem m_M_runs : x_mi Y_M_runs 1 := ⟨x_in 1620 (by rfl) rfl, x_in 111 (by rfl) rfl, ⟨by decide, by decide, by decide +kernel⟩, by decide⟩
set_option maxRecDepth 40000 in
theorem v_M_runs : Cond.instanceMethod Y_M_runs.1 ∈ x_tbl ∧ Cond.selects Y_M_runs.1.cls Y_M_runs.1 Y_M_runs.1 ∈ x_tbl := ⟨x_in 1619 (by rfl) rfl, x_in 78 (by rfl) rfl⟩
set_option maxRecDepth 40000 in
theorem m_M_base85 : x_mi Y_M_base85 1 := ⟨x_in 1625 (by rfl) rfl, x_in 111 (by rfl) rfl, ⟨by decide, by decide, by decide +kernel⟩, by decide⟩
set_option maxRecDepth 40000 in
theorem v_M_base85 : Cond.instanceMethod Y_M_base85.1 ∈ x_tbl ∧ Cond.selects Y_M_base85.1.cls Y_M_base85.1 Y_M_base85.1 ∈ x_tbl := ⟨x_in 1624 (by rfl) rfl, x_in 79 (by rfl) rfl⟩
set_option maxRecDepth 40000 in
theorem m_M_put : x_mi Y_M_put 1 := ⟨x_in 1633 (by rfl) rfl, x_in 111 (by rfl) rfl, ⟨by decide, by decide, by decide +kernel⟩, by decide⟩
set_option maxRecDepth 40000 in
theorem v_M_put : Cond.instanceMethod Y_M_put.1 ∈ x_tbl ∧ Cond.selects Y_M_put.1.cls Y_M_put.1 Y_M_put.1 ∈ x_tbl := ⟨x_in 1631 (by rfl) rfl, x_in 1632 (by rfl) rfl⟩
set_option maxRecDepth 40000 in
theorem m_M_mayPut : x_mi Y_M_mayPut 1 := ⟨x_in 1637 (by rfl) rfl, x_in 111 (by rfl) rfl, ⟨by decide, by decide, by decide +kernel⟩, by decide⟩
set_option maxRecDepth 40000 in
theorem v_M_mayPut : Cond.instanceMethod Y_M_mayPut.1 ∈ x_tbl ∧ Cond.selects Y_M_mayPut.1.cls Y_M_mayPut.1 Y_M_mayPut.1 ∈ x_tbl := ⟨x_in 1636 (by rfl) rfl, x_in 80 (by rfl) rfl⟩
set_option maxRecDepth 40000 in
theorem m_M_partsBut : x_mi Y_M_partsBut 1 := ⟨x_in 1641 (by rfl) rfl, x_in 111 (by rfl) rfl, ⟨by decide, by decide, by decide +kernel⟩, by decide⟩
set_option maxRecDepth 40000 in
theorem v_M_partsBut : Cond.instanceMethod Y_M_partsBut.1 ∈ x_tbl ∧ Cond.selects Y_M_partsBut.1.cls Y_M_partsBut.1 Y_M_partsBut.1 ∈ x_tbl := ⟨x_in 1640 (by rfl) rfl, x_in 81 (by rfl) rfl⟩
set_option maxRecDepth 40000 in
theorem m_M_change : x_mi Y_M_change 2 := ⟨x_in 1645 (by rfl) rfl, x_in 111 (by rfl) rfl, ⟨by decide, by decide, by decide +kernel⟩, by decide⟩
set_option maxRecDepth 40000 in
theorem v_M_change : Cond.instanceMethod Y_M_change.1 ∈ x_tbl ∧ Cond.selects Y_M_change.1.cls Y_M_change.1 Y_M_change.1 ∈ x_tbl := ⟨x_in 1644 (by rfl) rfl, x_in 82 (by rfl) rfl⟩
set_option maxRecDepth 40000 in
theorem m_M_pour : x_mi Y_M_pour 1 := ⟨x_in 1649 (by rfl) rfl, x_in 111 (by rfl) rfl, ⟨by decide, by decide, by decide +kernel⟩, by decide⟩
set_option maxRecDepth 40000 in
theorem v_M_pour : Cond.instanceMethod Y_M_pour.1 ∈ x_tbl ∧ Cond.selects Y_M_pour.1.cls Y_M_pour.1 Y_M_pour.1 ∈ x_tbl := ⟨x_in 1647 (by rfl) rfl, x_in 1648 (by rfl) rfl⟩
set_option maxRecDepth 40000 in
theorem m_M_free : x_mi Y_M_free 1 := ⟨x_in 1653 (by rfl) rfl, x_in 111 (by rfl) rfl, ⟨by decide, by decide, by decide +kernel⟩, by decide⟩
set_option maxRecDepth 40000 in
theorem v_M_free : Cond.instanceMethod Y_M_free.1 ∈ x_tbl ∧ Cond.selects Y_M_free.1.cls Y_M_free.1 Y_M_free.1 ∈ x_tbl := ⟨x_in 1651 (by rfl) rfl, x_in 1652 (by rfl) rfl⟩
set_option maxRecDepth 40000 in
theorem m_M_inUse : x_mi Y_M_inUse 0 := ⟨x_in 1657 (by rfl) rfl, x_in 111 (by rfl) rfl, ⟨by decide, by decide, by decide +kernel⟩, by decide⟩
set_option maxRecDepth 40000 in
theorem v_M_inUse : Cond.instanceMethod Y_M_inUse.1 ∈ x_tbl ∧ Cond.selects Y_M_inUse.1.cls Y_M_inUse.1 Y_M_inUse.1 ∈ x_tbl := ⟨x_in 1656 (by rfl) rfl, x_in 83 (by rfl) rfl⟩
set_option maxRecDepth 40000 in
theorem m_M_save : x_mi Y_M_save 0 := ⟨x_in 1661 (by rfl) rfl, x_in 111 (by rfl) rfl, ⟨by decide, by decide, by decide +kernel⟩, by decide⟩
set_option maxRecDepth 40000 in
theorem v_M_save : Cond.instanceMethod Y_M_save.1 ∈ x_tbl ∧ Cond.selects Y_M_save.1.cls Y_M_save.1 Y_M_save.1 ∈ x_tbl := ⟨x_in 1659 (by rfl) rfl, x_in 1660 (by rfl) rfl⟩
set_option maxRecDepth 40000 in
theorem m_M_say1 : x_mi Y_M_say1 1 := ⟨x_in 1665 (by rfl) rfl, x_in 111 (by rfl) rfl, ⟨by decide, by decide, by decide +kernel⟩, by decide⟩
set_option maxRecDepth 40000 in
theorem v_M_say1 : Cond.instanceMethod Y_M_say1.1 ∈ x_tbl ∧ Cond.selects Y_M_say1.1.cls Y_M_say1.1 Y_M_say1.1 ∈ x_tbl := ⟨x_in 1664 (by rfl) rfl, x_in 84 (by rfl) rfl⟩
set_option maxRecDepth 40000 in
theorem m_M_say2 : x_mi Y_M_say2 1 := ⟨x_in 1669 (by rfl) rfl, x_in 111 (by rfl) rfl, ⟨by decide, by decide, by decide +kernel⟩, by decide⟩
set_option maxRecDepth 40000 in
theorem v_M_say2 : Cond.instanceMethod Y_M_say2.1 ∈ x_tbl ∧ Cond.selects Y_M_say2.1.cls Y_M_say2.1 Y_M_say2.1 ∈ x_tbl := ⟨x_in 1668 (by rfl) rfl, x_in 85 (by rfl) rfl⟩
set_option maxRecDepth 40000 in
theorem m_M_changes : x_mi Y_M_changes 0 := ⟨x_in 1673 (by rfl) rfl, x_in 111 (by rfl) rfl, ⟨by decide, by decide, by decide +kernel⟩, by decide⟩
set_option maxRecDepth 40000 in
theorem v_M_changes : Cond.instanceMethod Y_M_changes.1 ∈ x_tbl ∧ Cond.selects Y_M_changes.1.cls Y_M_changes.1 Y_M_changes.1 ∈ x_tbl := ⟨x_in 1672 (by rfl) rfl, x_in 86 (by rfl) rfl⟩
set_option maxRecDepth 40000 in
theorem m_M_append : x_mi Y_M_append 0 := ⟨x_in 1677 (by rfl) rfl, x_in 111 (by rfl) rfl, ⟨by decide, by decide, by decide +kernel⟩, by decide⟩
set_option maxRecDepth 40000 in
theorem v_M_append : Cond.instanceMethod Y_M_append.1 ∈ x_tbl ∧ Cond.selects Y_M_append.1.cls Y_M_append.1 Y_M_append.1 ∈ x_tbl := ⟨x_in 1676 (by rfl) rfl, x_in 87 (by rfl) rfl⟩
set_option maxRecDepth 40000 in
theorem m_M_number : x_mi Y_M_number 2 := ⟨x_in 1681 (by rfl) rfl, x_in 111 (by rfl) rfl, ⟨by decide, by decide, by decide +kernel⟩, by decide⟩
set_option maxRecDepth 40000 in
theorem v_M_number : Cond.instanceMethod Y_M_number.1 ∈ x_tbl ∧ Cond.selects Y_M_number.1.cls Y_M_number.1 Y_M_number.1 ∈ x_tbl := ⟨x_in 1680 (by rfl) rfl, x_in 88 (by rfl) rfl⟩
set_option maxRecDepth 40000 in
theorem m_M_say3 : x_mi Y_M_say3 1 := ⟨x_in 1686 (by rfl) rfl, x_in 111 (by rfl) rfl, ⟨by decide, by decide, by decide +kernel⟩, by decide⟩
set_option maxRecDepth 40000 in
theorem v_M_say3 : Cond.instanceMethod Y_M_say3.1 ∈ x_tbl ∧ Cond.selects Y_M_say3.1.cls Y_M_say3.1 Y_M_say3.1 ∈ x_tbl := ⟨x_in 1685 (by rfl) rfl, x_in 89 (by rfl) rfl⟩
set_option maxRecDepth 40000 in
theorem m_M_write : x_mi Y_M_write 1 := ⟨x_in 1690 (by rfl) rfl, x_in 111 (by rfl) rfl, ⟨by decide, by decide, by decide +kernel⟩, by decide⟩
set_option maxRecDepth 40000 in
theorem v_M_write : Cond.instanceMethod Y_M_write.1 ∈ x_tbl ∧ Cond.selects Y_M_write.1.cls Y_M_write.1 Y_M_write.1 ∈ x_tbl := ⟨x_in 1689 (by rfl) rfl, x_in 90 (by rfl) rfl⟩
set_option maxRecDepth 40000 in
theorem m_M_hexDigit : x_mi Y_M_hexDigit 1 := ⟨x_in 1694 (by rfl) rfl, x_in 111 (by rfl) rfl, ⟨by decide, by decide, by decide +kernel⟩, by decide⟩
set_option maxRecDepth 40000 in
theorem v_M_hexDigit : Cond.instanceMethod Y_M_hexDigit.1 ∈ x_tbl ∧ Cond.selects Y_M_hexDigit.1.cls Y_M_hexDigit.1 Y_M_hexDigit.1 ∈ x_tbl := ⟨x_in 1693 (by rfl) rfl, x_in 91 (by rfl) rfl⟩
set_option maxRecDepth 40000 in
theorem m_M_newTrailer : x_mi Y_M_newTrailer 0 := ⟨x_in 1704 (by rfl) rfl, x_in 111 (by rfl) rfl, ⟨by decide, by decide, by decide +kernel⟩, by decide⟩
set_option maxRecDepth 40000 in
theorem v_M_newTrailer : Cond.instanceMethod Y_M_newTrailer.1 ∈ x_tbl ∧ Cond.selects Y_M_newTrailer.1.cls Y_M_newTrailer.1 Y_M_newTrailer.1 ∈ x_tbl := ⟨x_in 1703 (by rfl) rfl, x_in 92 (by rfl) rfl⟩
set_option maxRecDepth 40000 in
theorem m_M_pages : x_mi Y_M_pages 0 := ⟨x_in 1708 (by rfl) rfl, x_in 111 (by rfl) rfl, ⟨by decide, by decide, by decide +kernel⟩, by decide⟩
set_option maxRecDepth 40000 in
theorem v_M_pages : Cond.instanceMethod Y_M_pages.1 ∈ x_tbl ∧ Cond.selects Y_M_pages.1.cls Y_M_pages.1 Y_M_pages.1 ∈ x_tbl := ⟨x_in 1706 (by rfl) rfl, x_in 1707 (by rfl) rfl⟩
set_option maxRecDepth 40000 in
theorem m_Ar_fill : x_mi Y_Ar_fill 2 := ⟨x_in 1711 (by rfl) rfl, x_in 115 (by rfl) rfl, ⟨by decide, by decide, by decide +kernel⟩, by decide⟩
set_option maxRecDepth 40000 in
theorem s_Ar_fill : Cond.static Y_Ar_fill.1 ∈ x_tbl := x_in 1710 (by rfl) rfl
set_option maxRecDepth 40000 in
theorem m_M_walk : x_mi Y_M_walk 2 := ⟨x_in 1717 (by rfl) rfl, x_in 111 (by rfl) rfl, ⟨by decide, by decide, by decide +kernel⟩, by decide⟩
set_option maxRecDepth 40000 in
theorem v_M_walk : Cond.instanceMethod Y_M_walk.1 ∈ x_tbl ∧ Cond.selects Y_M_walk.1.cls Y_M_walk.1 Y_M_walk.1 ∈ x_tbl := ⟨x_in 1716 (by rfl) rfl, x_in 93 (by rfl) rfl⟩
set_option maxRecDepth 40000 in
theorem m_M_page : x_mi Y_M_page 1 := ⟨x_in 1724 (by rfl) rfl, x_in 111 (by rfl) rfl, ⟨by decide, by decide, by decide +kernel⟩, by decide⟩
set_option maxRecDepth 40000 in
theorem v_M_page : Cond.instanceMethod Y_M_page.1 ∈ x_tbl ∧ Cond.selects Y_M_page.1.cls Y_M_page.1 Y_M_page.1 ∈ x_tbl := ⟨x_in 1722 (by rfl) rfl, x_in 1723 (by rfl) rfl⟩
set_option maxRecDepth 40000 in
theorem m_M_count : x_mi Y_M_count 1 := ⟨x_in 1729 (by rfl) rfl, x_in 111 (by rfl) rfl, ⟨by decide, by decide, by decide +kernel⟩, by decide⟩
set_option maxRecDepth 40000 in
theorem v_M_count : Cond.instanceMethod Y_M_count.1 ∈ x_tbl ∧ Cond.selects Y_M_count.1.cls Y_M_count.1 Y_M_count.1 ∈ x_tbl := ⟨x_in 1727 (by rfl) rfl, x_in 1728 (by rfl) rfl⟩
set_option maxRecDepth 40000 in
theorem m_M_state : x_mi Y_M_state 2 := ⟨x_in 1734 (by rfl) rfl, x_in 111 (by rfl) rfl, ⟨by decide, by decide, by decide +kernel⟩, by decide⟩
set_option maxRecDepth 40000 in
theorem v_M_state : Cond.instanceMethod Y_M_state.1 ∈ x_tbl ∧ Cond.selects Y_M_state.1.cls Y_M_state.1 Y_M_state.1 ∈ x_tbl := ⟨x_in 1732 (by rfl) rfl, x_in 1733 (by rfl) rfl⟩
