set_option maxRecDepth 40000 in
theorem f_T_9 : x_fl "PaperFile$Text" 9 1 0 := ⟨_, _, _, rfl, by decide, xi_T, rfl, Or.inl (x_in1 145 (by decide +kernel) rfl)⟩
set_option maxRecDepth 40000 in
theorem p_T_9 : x_fp "PaperFile$Text" 9 1 0 (.array .byte) true := ⟨_, _, _, xt_T, rfl, by decide, xi_T, rfl, xt_T_ok, xn_T, rfl, by decide +kernel, fun _ => rfl, Or.inl (x_in1 145 (by decide +kernel) rfl)⟩
set_option maxRecDepth 40000 in
theorem f_D_31 : x_fl "PaperFile$Decoder" 31 1 0 := ⟨_, _, _, rfl, by decide, xi_T, rfl, Or.inl (x_in1 146 (by decide +kernel) rfl)⟩
set_option maxRecDepth 40000 in
theorem f_Wr_31 : x_fl "PaperFile$Writer" 31 1 0 := ⟨_, _, _, rfl, by decide, xi_T, rfl, Or.inl (x_in1 147 (by decide +kernel) rfl)⟩
set_option maxRecDepth 40000 in
theorem f_PF_280 : x_fl "PaperFile" 280 1 0 := ⟨_, _, _, rfl, by decide, xi_T, rfl, Or.inl (x_in1 148 (by decide +kernel) rfl)⟩
set_option maxRecDepth 40000 in
theorem f_T_15 : x_fl "PaperFile$Text" 15 1 1 := ⟨_, _, _, rfl, by decide, xi_T, rfl, Or.inl (x_in1 149 (by decide +kernel) rfl)⟩
set_option maxRecDepth 40000 in
theorem p_T_15 : x_fp "PaperFile$Text" 15 1 1 (.array .boolean) true := ⟨_, _, _, xt_T, rfl, by decide, xi_T, rfl, xt_T_ok, xn_T, rfl, by decide +kernel, fun _ => rfl, Or.inl (x_in1 149 (by decide +kernel) rfl)⟩
set_option maxRecDepth 40000 in
theorem f_T_37 : x_fl "PaperFile$Text" 37 1 2 := ⟨_, _, _, rfl, by decide, xi_T, rfl, Or.inl (x_in1 150 (by decide +kernel) rfl)⟩
set_option maxRecDepth 40000 in
theorem p_T_37 : x_fp "PaperFile$Text" 37 1 2 .int false := ⟨_, _, _, xt_T, rfl, by decide, xi_T, rfl, xt_T_ok, xn_T, rfl, by decide +kernel, (fun h => by cases h), Or.inl (x_in1 150 (by decide +kernel) rfl)⟩
set_option maxRecDepth 40000 in
theorem f_O_40 : x_fl "PaperFile$Opener" 40 1 2 := ⟨_, _, _, rfl, by decide, xi_T, rfl, Or.inl (x_in1 151 (by decide +kernel) rfl)⟩
set_option maxRecDepth 40000 in
theorem p_O_40 : x_fp "PaperFile$Opener" 40 1 2 .int false := ⟨_, _, _, xt_T, rfl, by decide, xi_T, rfl, xt_T_ok, xn_T, rfl, by decide +kernel, (fun h => by cases h), Or.inl (x_in1 151 (by decide +kernel) rfl)⟩
set_option maxRecDepth 40000 in
theorem f_PF_214 : x_fl "PaperFile" 214 1 2 := ⟨_, _, _, rfl, by decide, xi_T, rfl, Or.inl (x_in1 152 (by decide +kernel) rfl)⟩
set_option maxRecDepth 40000 in
theorem p_PF_214 : x_fp "PaperFile" 214 1 2 .int false := ⟨_, _, _, xt_T, rfl, by decide, xi_T, rfl, xt_T_ok, xn_T, rfl, by decide +kernel, (fun h => by cases h), Or.inl (x_in1 152 (by decide +kernel) rfl)⟩
set_option maxRecDepth 40000 in
theorem f_T_41 : x_fl "PaperFile$Text" 41 1 3 := ⟨_, _, _, rfl, by decide, xi_T, rfl, Or.inl (x_in1 153 (by decide +kernel) rfl)⟩
set_option maxRecDepth 40000 in
theorem p_T_41 : x_fp "PaperFile$Text" 41 1 3 .int false := ⟨_, _, _, xt_T, rfl, by decide, xi_T, rfl, xt_T_ok, xn_T, rfl, by decide +kernel, (fun h => by cases h), Or.inl (x_in1 153 (by decide +kernel) rfl)⟩
set_option maxRecDepth 40000 in
theorem f_O_46 : x_fl "PaperFile$Opener" 46 1 3 := ⟨_, _, _, rfl, by decide, xi_T, rfl, Or.inl (x_in1 154 (by decide +kernel) rfl)⟩
set_option maxRecDepth 40000 in
theorem p_O_46 : x_fp "PaperFile$Opener" 46 1 3 .int false := ⟨_, _, _, xt_T, rfl, by decide, xi_T, rfl, xt_T_ok, xn_T, rfl, by decide +kernel, (fun h => by cases h), Or.inl (x_in1 154 (by decide +kernel) rfl)⟩
set_option maxRecDepth 40000 in
theorem f_PF_221 : x_fl "PaperFile" 221 1 3 := ⟨_, _, _, rfl, by decide, xi_T, rfl, Or.inl (x_in1 155 (by decide +kernel) rfl)⟩
set_option maxRecDepth 40000 in
theorem p_PF_221 : x_fp "PaperFile" 221 1 3 .int false := ⟨_, _, _, xt_T, rfl, by decide, xi_T, rfl, xt_T_ok, xn_T, rfl, by decide +kernel, (fun h => by cases h), Or.inl (x_in1 155 (by decide +kernel) rfl)⟩
set_option maxRecDepth 40000 in
theorem f_P_9 : x_fl "PaperFile$Parts" 9 2 0 := ⟨_, _, _, rfl, by decide, xi_P, rfl, Or.inl (x_in1 173 (by decide +kernel) rfl)⟩
set_option maxRecDepth 40000 in
theorem p_P_9 : x_fp "PaperFile$Parts" 9 2 0 (.array .int) true := ⟨_, _, _, xt_P, rfl, by decide, xi_P, rfl, xt_P_ok, xn_P, rfl, by decide +kernel, fun _ => rfl, Or.inl (x_in1 173 (by decide +kernel) rfl)⟩
set_option maxRecDepth 40000 in
theorem f_D_62 : x_fl "PaperFile$Decoder" 62 2 0 := ⟨_, _, _, rfl, by decide, xi_P, rfl, Or.inl (x_in1 174 (by decide +kernel) rfl)⟩
set_option maxRecDepth 40000 in
theorem f_PW_61 : x_fl "PaperFile$PageWalk" 61 2 0 := ⟨_, _, _, rfl, by decide, xi_P, rfl, Or.inl (x_in1 175 (by decide +kernel) rfl)⟩
set_option maxRecDepth 40000 in
theorem f_B_45 : x_fl "PaperFile$Book" 45 2 0 := ⟨_, _, _, rfl, by decide, xi_P, rfl, Or.inl (x_in1 176 (by decide +kernel) rfl)⟩
set_option maxRecDepth 40000 in
theorem f_Wr_149 : x_fl "PaperFile$Writer" 149 2 0 := ⟨_, _, _, rfl, by decide, xi_P, rfl, Or.inl (x_in1 177 (by decide +kernel) rfl)⟩
set_option maxRecDepth 40000 in
theorem f_O_162 : x_fl "PaperFile$Opener" 162 2 0 := ⟨_, _, _, rfl, by decide, xi_P, rfl, Or.inl (x_in1 178 (by decide +kernel) rfl)⟩
set_option maxRecDepth 40000 in
theorem f_PF_157 : x_fl "PaperFile" 157 2 0 := ⟨_, _, _, rfl, by decide, xi_P, rfl, Or.inl (x_in1 179 (by decide +kernel) rfl)⟩
set_option maxRecDepth 40000 in
theorem f_P_15 : x_fl "PaperFile$Parts" 15 2 1 := ⟨_, _, _, rfl, by decide, xi_P, rfl, Or.inl (x_in1 180 (by decide +kernel) rfl)⟩
set_option maxRecDepth 40000 in
theorem p_P_15 : x_fp "PaperFile$Parts" 15 2 1 (.array .int) true := ⟨_, _, _, xt_P, rfl, by decide, xi_P, rfl, xt_P_ok, xn_P, rfl, by decide +kernel, fun _ => rfl, Or.inl (x_in1 180 (by decide +kernel) rfl)⟩
set_option maxRecDepth 40000 in
theorem f_D_40 : x_fl "PaperFile$Decoder" 40 2 1 := ⟨_, _, _, rfl, by decide, xi_P, rfl, Or.inl (x_in1 181 (by decide +kernel) rfl)⟩
set_option maxRecDepth 40000 in
theorem f_B_50 : x_fl "PaperFile$Book" 50 2 1 := ⟨_, _, _, rfl, by decide, xi_P, rfl, Or.inl (x_in1 182 (by decide +kernel) rfl)⟩
set_option maxRecDepth 40000 in
theorem f_Wr_158 : x_fl "PaperFile$Writer" 158 2 1 := ⟨_, _, _, rfl, by decide, xi_P, rfl, Or.inl (x_in1 183 (by decide +kernel) rfl)⟩
set_option maxRecDepth 40000 in
theorem f_O_172 : x_fl "PaperFile$Opener" 172 2 1 := ⟨_, _, _, rfl, by decide, xi_P, rfl, Or.inl (x_in1 184 (by decide +kernel) rfl)⟩
set_option maxRecDepth 40000 in
theorem f_PF_169 : x_fl "PaperFile" 169 2 1 := ⟨_, _, _, rfl, by decide, xi_P, rfl, Or.inl (x_in1 185 (by decide +kernel) rfl)⟩
set_option maxRecDepth 40000 in
theorem f_P_18 : x_fl "PaperFile$Parts" 18 2 2 := ⟨_, _, _, rfl, by decide, xi_P, rfl, Or.inl (x_in1 186 (by decide +kernel) rfl)⟩
set_option maxRecDepth 40000 in
theorem p_P_18 : x_fp "PaperFile$Parts" 18 2 2 (.array .int) true := ⟨_, _, _, xt_P, rfl, by decide, xi_P, rfl, xt_P_ok, xn_P, rfl, by decide +kernel, fun _ => rfl, Or.inl (x_in1 186 (by decide +kernel) rfl)⟩
set_option maxRecDepth 40000 in
theorem f_D_50 : x_fl "PaperFile$Decoder" 50 2 2 := ⟨_, _, _, rfl, by decide, xi_P, rfl, Or.inl (x_in1 187 (by decide +kernel) rfl)⟩
set_option maxRecDepth 40000 in
theorem f_B_57 : x_fl "PaperFile$Book" 57 2 2 := ⟨_, _, _, rfl, by decide, xi_P, rfl, Or.inl (x_in1 188 (by decide +kernel) rfl)⟩
set_option maxRecDepth 40000 in
theorem f_Wr_161 : x_fl "PaperFile$Writer" 161 2 2 := ⟨_, _, _, rfl, by decide, xi_P, rfl, Or.inl (x_in1 189 (by decide +kernel) rfl)⟩
set_option maxRecDepth 40000 in
theorem f_PF_172 : x_fl "PaperFile" 172 2 2 := ⟨_, _, _, rfl, by decide, xi_P, rfl, Or.inl (x_in1 190 (by decide +kernel) rfl)⟩
set_option maxRecDepth 40000 in
theorem f_O_208 : x_fl "PaperFile$Opener" 208 2 2 := ⟨_, _, _, rfl, by decide, xi_P, rfl, Or.inl (x_in1 191 (by decide +kernel) rfl)⟩
set_option maxRecDepth 40000 in
theorem f_P_21 : x_fl "PaperFile$Parts" 21 2 3 := ⟨_, _, _, rfl, by decide, xi_P, rfl, Or.inl (x_in1 192 (by decide +kernel) rfl)⟩
set_option maxRecDepth 40000 in
theorem p_P_21 : x_fp "PaperFile$Parts" 21 2 3 (.array .int) true := ⟨_, _, _, xt_P, rfl, by decide, xi_P, rfl, xt_P_ok, xn_P, rfl, by decide +kernel, fun _ => rfl, Or.inl (x_in1 192 (by decide +kernel) rfl)⟩
set_option maxRecDepth 40000 in
theorem f_B_60 : x_fl "PaperFile$Book" 60 2 3 := ⟨_, _, _, rfl, by decide, xi_P, rfl, Or.inl (x_in1 193 (by decide +kernel) rfl)⟩
set_option maxRecDepth 40000 in
theorem f_P_24 : x_fl "PaperFile$Parts" 24 2 4 := ⟨_, _, _, rfl, by decide, xi_P, rfl, Or.inl (x_in1 194 (by decide +kernel) rfl)⟩
set_option maxRecDepth 40000 in
theorem p_P_24 : x_fp "PaperFile$Parts" 24 2 4 (.array .int) true := ⟨_, _, _, xt_P, rfl, by decide, xi_P, rfl, xt_P_ok, xn_P, rfl, by decide +kernel, fun _ => rfl, Or.inl (x_in1 194 (by decide +kernel) rfl)⟩
set_option maxRecDepth 40000 in
theorem f_R_80 : x_fl "PaperFile$Reader" 80 2 4 := ⟨_, _, _, rfl, by decide, xi_P, rfl, Or.inl (x_in1 195 (by decide +kernel) rfl)⟩
set_option maxRecDepth 40000 in
theorem f_Wr_182 : x_fl "PaperFile$Writer" 182 2 4 := ⟨_, _, _, rfl, by decide, xi_P, rfl, Or.inl (x_in1 196 (by decide +kernel) rfl)⟩
set_option maxRecDepth 40000 in
theorem f_PF_185 : x_fl "PaperFile" 185 2 4 := ⟨_, _, _, rfl, by decide, xi_P, rfl, Or.inl (x_in1 197 (by decide +kernel) rfl)⟩
set_option maxRecDepth 40000 in
theorem f_P_31 : x_fl "PaperFile$Parts" 31 2 5 := ⟨_, _, _, rfl, by decide, xi_P, rfl, Or.inl (x_in1 198 (by decide +kernel) rfl)⟩
set_option maxRecDepth 40000 in
theorem p_P_31 : x_fp "PaperFile$Parts" 31 2 5 .int false := ⟨_, _, _, xt_P, rfl, by decide, xi_P, rfl, xt_P_ok, xn_P, rfl, by decide +kernel, (fun h => by cases h), Or.inl (x_in1 198 (by decide +kernel) rfl)⟩
set_option maxRecDepth 40000 in
theorem f_PF_106 : x_fl "PaperFile" 106 2 5 := ⟨_, _, _, rfl, by decide, xi_P, rfl, Or.inl (x_in1 199 (by decide +kernel) rfl)⟩
set_option maxRecDepth 40000 in
theorem p_PF_106 : x_fp "PaperFile" 106 2 5 .int false := ⟨_, _, _, xt_P, rfl, by decide, xi_P, rfl, xt_P_ok, xn_P, rfl, by decide +kernel, (fun h => by cases h), Or.inl (x_in1 199 (by decide +kernel) rfl)⟩
set_option maxRecDepth 40000 in
theorem f_R_73 : x_fl "PaperFile$Reader" 73 2 5 := ⟨_, _, _, rfl, by decide, xi_P, rfl, Or.inl (x_in1 200 (by decide +kernel) rfl)⟩
set_option maxRecDepth 40000 in
theorem p_R_73 : x_fp "PaperFile$Reader" 73 2 5 .int false := ⟨_, _, _, xt_P, rfl, by decide, xi_P, rfl, xt_P_ok, xn_P, rfl, by decide +kernel, (fun h => by cases h), Or.inl (x_in1 200 (by decide +kernel) rfl)⟩
set_option maxRecDepth 40000 in
theorem f_O_152 : x_fl "PaperFile$Opener" 152 2 5 := ⟨_, _, _, rfl, by decide, xi_P, rfl, Or.inl (x_in1 201 (by decide +kernel) rfl)⟩
set_option maxRecDepth 40000 in
theorem p_O_152 : x_fp "PaperFile$Opener" 152 2 5 .int false := ⟨_, _, _, xt_P, rfl, by decide, xi_P, rfl, xt_P_ok, xn_P, rfl, by decide +kernel, (fun h => by cases h), Or.inl (x_in1 201 (by decide +kernel) rfl)⟩
set_option maxRecDepth 40000 in
theorem f_P_27 : x_fl "PaperFile$Parts" 27 2 6 := ⟨_, _, _, rfl, by decide, xi_P, rfl, Or.inl (x_in1 202 (by decide +kernel) rfl)⟩
set_option maxRecDepth 40000 in
theorem p_P_27 : x_fp "PaperFile$Parts" 27 2 6 (.object "PaperFile$Text") true := ⟨_, _, _, xt_P, rfl, by decide, xi_P, rfl, xt_P_ok, xn_P, rfl, by decide +kernel, fun _ => rfl, Or.inl (x_in1 202 (by decide +kernel) rfl)⟩
set_option maxRecDepth 40000 in
theorem f_R_9 : x_fl "PaperFile$Reader" 9 3 0 := ⟨_, _, _, rfl, by decide, xi_R, rfl, Or.inl (x_in1 225 (by decide +kernel) rfl)⟩
set_option maxRecDepth 40000 in
theorem p_R_9 : x_fp "PaperFile$Reader" 9 3 0 (.object "PaperFile$Text") true := ⟨_, _, _, xt_R, rfl, by decide, xi_R, rfl, xt_R_ok, xn_R, rfl, by decide +kernel, fun _ => rfl, Or.inl (x_in1 225 (by decide +kernel) rfl)⟩
set_option maxRecDepth 40000 in
theorem f_R_15 : x_fl "PaperFile$Reader" 15 3 1 := ⟨_, _, _, rfl, by decide, xi_R, rfl, Or.inl (x_in1 226 (by decide +kernel) rfl)⟩
set_option maxRecDepth 40000 in
theorem p_R_15 : x_fp "PaperFile$Reader" 15 3 1 (.object "PaperFile$Parts") true := ⟨_, _, _, xt_R, rfl, by decide, xi_R, rfl, xt_R_ok, xn_R, rfl, by decide +kernel, fun _ => rfl, Or.inl (x_in1 226 (by decide +kernel) rfl)⟩
set_option maxRecDepth 40000 in
theorem f_O_24 : x_fl "PaperFile$Opener" 24 4 0 := ⟨_, _, _, rfl, by decide, xi_O, rfl, Or.inl (x_in1 238 (by decide +kernel) rfl)⟩
set_option maxRecDepth 40000 in
theorem p_O_24 : x_fp "PaperFile$Opener" 24 4 0 (.object "PaperFile$Text") true := ⟨_, _, _, xt_O, rfl, by decide, xi_O, rfl, xt_O_ok, xn_O, rfl, by decide +kernel, fun _ => rfl, Or.inl (x_in1 238 (by decide +kernel) rfl)⟩
set_option maxRecDepth 40000 in
theorem f_O_28 : x_fl "PaperFile$Opener" 28 4 1 := ⟨_, _, _, rfl, by decide, xi_O, rfl, Or.inl (x_in1 239 (by decide +kernel) rfl)⟩
set_option maxRecDepth 40000 in
theorem p_O_28 : x_fp "PaperFile$Opener" 28 4 1 (.object "PaperFile$Parts") true := ⟨_, _, _, xt_O, rfl, by decide, xi_O, rfl, xt_O_ok, xn_O, rfl, by decide +kernel, fun _ => rfl, Or.inl (x_in1 239 (by decide +kernel) rfl)⟩
set_option maxRecDepth 40000 in
theorem f_O_32 : x_fl "PaperFile$Opener" 32 4 2 := ⟨_, _, _, rfl, by decide, xi_O, rfl, Or.inl (x_in2 0 (by decide +kernel) rfl)⟩
set_option maxRecDepth 40000 in
theorem p_O_32 : x_fp "PaperFile$Opener" 32 4 2 (.object "PaperFile$Reader") true := ⟨_, _, _, xt_O, rfl, by decide, xi_O, rfl, xt_O_ok, xn_O, rfl, by decide +kernel, fun _ => rfl, Or.inl (x_in2 0 (by decide +kernel) rfl)⟩
set_option maxRecDepth 40000 in
theorem f_O_9 : x_fl "PaperFile$Opener" 9 4 3 := ⟨_, _, _, rfl, by decide, xi_O, rfl, Or.inl (x_in2 1 (by decide +kernel) rfl)⟩
set_option maxRecDepth 40000 in
theorem p_O_9 : x_fp "PaperFile$Opener" 9 4 3 (.array .int) true := ⟨_, _, _, xt_O, rfl, by decide, xi_O, rfl, xt_O_ok, xn_O, rfl, by decide +kernel, fun _ => rfl, Or.inl (x_in2 1 (by decide +kernel) rfl)⟩
set_option maxRecDepth 40000 in
theorem f_O_15 : x_fl "PaperFile$Opener" 15 4 4 := ⟨_, _, _, rfl, by decide, xi_O, rfl, Or.inl (x_in2 2 (by decide +kernel) rfl)⟩
set_option maxRecDepth 40000 in
theorem p_O_15 : x_fp "PaperFile$Opener" 15 4 4 (.array .int) true := ⟨_, _, _, xt_O, rfl, by decide, xi_O, rfl, xt_O_ok, xn_O, rfl, by decide +kernel, fun _ => rfl, Or.inl (x_in2 2 (by decide +kernel) rfl)⟩
set_option maxRecDepth 40000 in
theorem f_O_18 : x_fl "PaperFile$Opener" 18 4 5 := ⟨_, _, _, rfl, by decide, xi_O, rfl, Or.inl (x_in2 3 (by decide +kernel) rfl)⟩
set_option maxRecDepth 40000 in
theorem p_O_18 : x_fp "PaperFile$Opener" 18 4 5 (.array .int) true := ⟨_, _, _, xt_O, rfl, by decide, xi_O, rfl, xt_O_ok, xn_O, rfl, by decide +kernel, fun _ => rfl, Or.inl (x_in2 3 (by decide +kernel) rfl)⟩
set_option maxRecDepth 40000 in
theorem f_O_21 : x_fl "PaperFile$Opener" 21 4 6 := ⟨_, _, _, rfl, by decide, xi_O, rfl, Or.inl (x_in2 4 (by decide +kernel) rfl)⟩
set_option maxRecDepth 40000 in
theorem p_O_21 : x_fp "PaperFile$Opener" 21 4 6 (.array .int) true := ⟨_, _, _, xt_O, rfl, by decide, xi_O, rfl, xt_O_ok, xn_O, rfl, by decide +kernel, fun _ => rfl, Or.inl (x_in2 4 (by decide +kernel) rfl)⟩
set_option maxRecDepth 40000 in
theorem f_O_36 : x_fl "PaperFile$Opener" 36 4 7 := ⟨_, _, _, rfl, by decide, xi_O, rfl, Or.inl (x_in2 5 (by decide +kernel) rfl)⟩
set_option maxRecDepth 40000 in
theorem p_O_36 : x_fp "PaperFile$Opener" 36 4 7 (.object "PaperFile$Book") false := ⟨_, _, _, xt_O, rfl, by decide, xi_O, rfl, xt_O_ok, xn_O, rfl, by decide +kernel, (fun h => by cases h), Or.inl (x_in2 5 (by decide +kernel) rfl)⟩
set_option maxRecDepth 40000 in
theorem f_O_69 : x_fl "PaperFile$Opener" 69 4 8 := ⟨_, _, _, rfl, by decide, xi_O, rfl, Or.inl (x_in2 6 (by decide +kernel) rfl)⟩
set_option maxRecDepth 40000 in
theorem p_O_69 : x_fp "PaperFile$Opener" 69 4 8 .int false := ⟨_, _, _, xt_O, rfl, by decide, xi_O, rfl, xt_O_ok, xn_O, rfl, by decide +kernel, (fun h => by cases h), Or.inl (x_in2 6 (by decide +kernel) rfl)⟩
set_option maxRecDepth 40000 in
theorem f_O_79 : x_fl "PaperFile$Opener" 79 4 9 := ⟨_, _, _, rfl, by decide, xi_O, rfl, Or.inl (x_in2 7 (by decide +kernel) rfl)⟩
set_option maxRecDepth 40000 in
theorem p_O_79 : x_fp "PaperFile$Opener" 79 4 9 .boolean false := ⟨_, _, _, xt_O, rfl, by decide, xi_O, rfl, xt_O_ok, xn_O, rfl, by decide +kernel, (fun h => by cases h), Or.inl (x_in2 7 (by decide +kernel) rfl)⟩
set_option maxRecDepth 40000 in
theorem f_O_106 : x_fl "PaperFile$Opener" 106 4 10 := ⟨_, _, _, rfl, by decide, xi_O, rfl, Or.inl (x_in2 8 (by decide +kernel) rfl)⟩
set_option maxRecDepth 40000 in
theorem p_O_106 : x_fp "PaperFile$Opener" 106 4 10 .int false := ⟨_, _, _, xt_O, rfl, by decide, xi_O, rfl, xt_O_ok, xn_O, rfl, by decide +kernel, (fun h => by cases h), Or.inl (x_in2 8 (by decide +kernel) rfl)⟩
set_option maxRecDepth 40000 in
theorem f_O_119 : x_fl "PaperFile$Opener" 119 4 11 := ⟨_, _, _, rfl, by decide, xi_O, rfl, Or.inl (x_in2 9 (by decide +kernel) rfl)⟩
set_option maxRecDepth 40000 in
theorem p_O_119 : x_fp "PaperFile$Opener" 119 4 11 .int false := ⟨_, _, _, xt_O, rfl, by decide, xi_O, rfl, xt_O_ok, xn_O, rfl, by decide +kernel, (fun h => by cases h), Or.inl (x_in2 9 (by decide +kernel) rfl)⟩
set_option maxRecDepth 40000 in
theorem f_Wr_15 : x_fl "PaperFile$Writer" 15 5 0 := ⟨_, _, _, rfl, by decide, xi_Wr, rfl, Or.inl (x_in2 41 (by decide +kernel) rfl)⟩
set_option maxRecDepth 40000 in
theorem p_Wr_15 : x_fp "PaperFile$Writer" 15 5 0 (.object "PaperFile$Text") true := ⟨_, _, _, xt_Wr, rfl, by decide, xi_Wr, rfl, xt_Wr_ok, xn_Wr, rfl, by decide +kernel, fun _ => rfl, Or.inl (x_in2 41 (by decide +kernel) rfl)⟩
set_option maxRecDepth 40000 in
theorem f_Wr_19 : x_fl "PaperFile$Writer" 19 5 1 := ⟨_, _, _, rfl, by decide, xi_Wr, rfl, Or.inl (x_in2 42 (by decide +kernel) rfl)⟩
set_option maxRecDepth 40000 in
theorem p_Wr_19 : x_fp "PaperFile$Writer" 19 5 1 (.object "PaperFile$Parts") true := ⟨_, _, _, xt_Wr, rfl, by decide, xi_Wr, rfl, xt_Wr_ok, xn_Wr, rfl, by decide +kernel, fun _ => rfl, Or.inl (x_in2 42 (by decide +kernel) rfl)⟩
set_option maxRecDepth 40000 in
theorem f_Wr_9 : x_fl "PaperFile$Writer" 9 5 2 := ⟨_, _, _, rfl, by decide, xi_Wr, rfl, Or.inl (x_in2 43 (by decide +kernel) rfl)⟩
set_option maxRecDepth 40000 in
theorem p_Wr_9 : x_fp "PaperFile$Writer" 9 5 2 (.array .int) true := ⟨_, _, _, xt_Wr, rfl, by decide, xi_Wr, rfl, xt_Wr_ok, xn_Wr, rfl, by decide +kernel, fun _ => rfl, Or.inl (x_in2 43 (by decide +kernel) rfl)⟩
set_option maxRecDepth 40000 in
theorem f_Wr_23 : x_fl "PaperFile$Writer" 23 5 3 := ⟨_, _, _, rfl, by decide, xi_Wr, rfl, Or.inl (x_in2 44 (by decide +kernel) rfl)⟩
set_option maxRecDepth 40000 in
theorem p_Wr_23 : x_fp "PaperFile$Writer" 23 5 3 (.object "PaperFile$Book") false := ⟨_, _, _, xt_Wr, rfl, by decide, xi_Wr, rfl, xt_Wr_ok, xn_Wr, rfl, by decide +kernel, (fun h => by cases h), Or.inl (x_in2 44 (by decide +kernel) rfl)⟩
set_option maxRecDepth 40000 in
theorem f_Wr_27 : x_fl "PaperFile$Writer" 27 5 4 := ⟨_, _, _, rfl, by decide, xi_Wr, rfl, Or.inl (x_in2 45 (by decide +kernel) rfl)⟩
set_option maxRecDepth 40000 in
theorem p_Wr_27 : x_fp "PaperFile$Writer" 27 5 4 (.object "PaperFile$Pail") false := ⟨_, _, _, xt_Wr, rfl, by decide, xi_Wr, rfl, xt_Wr_ok, xn_Wr, rfl, by decide +kernel, (fun h => by cases h), Or.inl (x_in2 45 (by decide +kernel) rfl)⟩
set_option maxRecDepth 40000 in
theorem f_Pa_9 : x_fl "PaperFile$Pail" 9 7 0 := ⟨_, _, _, rfl, by decide, xi_Pa, rfl, Or.inl (x_in2 69 (by decide +kernel) rfl)⟩
set_option maxRecDepth 40000 in
theorem p_Pa_9 : x_fp "PaperFile$Pail" 9 7 0 (.array .byte) true := ⟨_, _, _, xt_Pa, rfl, by decide, xi_Pa, rfl, xt_Pa_ok, xn_Pa, rfl, by decide +kernel, fun _ => rfl, Or.inl (x_in2 69 (by decide +kernel) rfl)⟩
set_option maxRecDepth 40000 in
theorem f_D_83 : x_fl "PaperFile$Decoder" 83 7 0 := ⟨_, _, _, rfl, by decide, xi_Pa, rfl, Or.inl (x_in2 70 (by decide +kernel) rfl)⟩
set_option maxRecDepth 40000 in
theorem f_PF_208 : x_fl "PaperFile" 208 7 0 := ⟨_, _, _, rfl, by decide, xi_Pa, rfl, Or.inl (x_in2 71 (by decide +kernel) rfl)⟩
set_option maxRecDepth 40000 in
theorem f_Pa_15 : x_fl "PaperFile$Pail" 15 7 1 := ⟨_, _, _, rfl, by decide, xi_Pa, rfl, Or.inl (x_in2 72 (by decide +kernel) rfl)⟩
set_option maxRecDepth 40000 in
theorem p_Pa_15 : x_fp "PaperFile$Pail" 15 7 1 .int false := ⟨_, _, _, xt_Pa, rfl, by decide, xi_Pa, rfl, xt_Pa_ok, xn_Pa, rfl, by decide +kernel, (fun h => by cases h), Or.inl (x_in2 72 (by decide +kernel) rfl)⟩
set_option maxRecDepth 40000 in
theorem f_Wr_70 : x_fl "PaperFile$Writer" 70 7 1 := ⟨_, _, _, rfl, by decide, xi_Pa, rfl, Or.inl (x_in2 73 (by decide +kernel) rfl)⟩
set_option maxRecDepth 40000 in
theorem p_Wr_70 : x_fp "PaperFile$Writer" 70 7 1 .int false := ⟨_, _, _, xt_Pa, rfl, by decide, xi_Pa, rfl, xt_Pa_ok, xn_Pa, rfl, by decide +kernel, (fun h => by cases h), Or.inl (x_in2 73 (by decide +kernel) rfl)⟩
set_option maxRecDepth 40000 in
theorem f_D_84 : x_fl "PaperFile$Decoder" 84 7 1 := ⟨_, _, _, rfl, by decide, xi_Pa, rfl, Or.inl (x_in2 74 (by decide +kernel) rfl)⟩
set_option maxRecDepth 40000 in
theorem p_D_84 : x_fp "PaperFile$Decoder" 84 7 1 .int false := ⟨_, _, _, xt_Pa, rfl, by decide, xi_Pa, rfl, xt_Pa_ok, xn_Pa, rfl, by decide +kernel, (fun h => by cases h), Or.inl (x_in2 74 (by decide +kernel) rfl)⟩
set_option maxRecDepth 40000 in
theorem f_PF_179 : x_fl "PaperFile" 179 7 1 := ⟨_, _, _, rfl, by decide, xi_Pa, rfl, Or.inl (x_in2 75 (by decide +kernel) rfl)⟩
set_option maxRecDepth 40000 in
theorem p_PF_179 : x_fp "PaperFile" 179 7 1 .int false := ⟨_, _, _, xt_Pa, rfl, by decide, xi_Pa, rfl, xt_Pa_ok, xn_Pa, rfl, by decide +kernel, (fun h => by cases h), Or.inl (x_in2 75 (by decide +kernel) rfl)⟩
set_option maxRecDepth 40000 in
theorem f_Pa_19 : x_fl "PaperFile$Pail" 19 7 2 := ⟨_, _, _, rfl, by decide, xi_Pa, rfl, Or.inl (x_in2 76 (by decide +kernel) rfl)⟩
set_option maxRecDepth 40000 in
theorem p_Pa_19 : x_fp "PaperFile$Pail" 19 7 2 .boolean false := ⟨_, _, _, xt_Pa, rfl, by decide, xi_Pa, rfl, xt_Pa_ok, xn_Pa, rfl, by decide +kernel, (fun h => by cases h), Or.inl (x_in2 76 (by decide +kernel) rfl)⟩
set_option maxRecDepth 40000 in
theorem f_D_79 : x_fl "PaperFile$Decoder" 79 7 2 := ⟨_, _, _, rfl, by decide, xi_Pa, rfl, Or.inl (x_in2 77 (by decide +kernel) rfl)⟩
set_option maxRecDepth 40000 in
theorem p_D_79 : x_fp "PaperFile$Decoder" 79 7 2 .boolean false := ⟨_, _, _, xt_Pa, rfl, by decide, xi_Pa, rfl, xt_Pa_ok, xn_Pa, rfl, by decide +kernel, (fun h => by cases h), Or.inl (x_in2 77 (by decide +kernel) rfl)⟩
set_option maxRecDepth 40000 in
theorem f_PF_254 : x_fl "PaperFile" 254 7 2 := ⟨_, _, _, rfl, by decide, xi_Pa, rfl, Or.inl (x_in2 78 (by decide +kernel) rfl)⟩
set_option maxRecDepth 40000 in
theorem p_PF_254 : x_fp "PaperFile" 254 7 2 .boolean false := ⟨_, _, _, xt_Pa, rfl, by decide, xi_Pa, rfl, xt_Pa_ok, xn_Pa, rfl, by decide +kernel, (fun h => by cases h), Or.inl (x_in2 78 (by decide +kernel) rfl)⟩
set_option maxRecDepth 40000 in
theorem f_Pa_29 : x_fl "PaperFile$Pail" 29 7 3 := ⟨_, _, _, rfl, by decide, xi_Pa, rfl, Or.inl (x_in2 79 (by decide +kernel) rfl)⟩
set_option maxRecDepth 40000 in
theorem p_Pa_29 : x_fp "PaperFile$Pail" 29 7 3 .int false := ⟨_, _, _, xt_Pa, rfl, by decide, xi_Pa, rfl, xt_Pa_ok, xn_Pa, rfl, by decide +kernel, (fun h => by cases h), Or.inl (x_in2 79 (by decide +kernel) rfl)⟩
set_option maxRecDepth 40000 in
theorem f_D_23 : x_fl "PaperFile$Decoder" 23 6 0 := ⟨_, _, _, rfl, by decide, xi_D, rfl, Or.inl (x_in2 89 (by decide +kernel) rfl)⟩
set_option maxRecDepth 40000 in
theorem p_D_23 : x_fp "PaperFile$Decoder" 23 6 0 (.object "PaperFile$Text") true := ⟨_, _, _, xt_D, rfl, by decide, xi_D, rfl, xt_D_ok, xn_D, rfl, by decide +kernel, fun _ => rfl, Or.inl (x_in2 89 (by decide +kernel) rfl)⟩
set_option maxRecDepth 40000 in
theorem f_D_27 : x_fl "PaperFile$Decoder" 27 6 1 := ⟨_, _, _, rfl, by decide, xi_D, rfl, Or.inl (x_in2 90 (by decide +kernel) rfl)⟩
set_option maxRecDepth 40000 in
theorem p_D_27 : x_fp "PaperFile$Decoder" 27 6 1 (.object "PaperFile$Parts") true := ⟨_, _, _, xt_D, rfl, by decide, xi_D, rfl, xt_D_ok, xn_D, rfl, by decide +kernel, fun _ => rfl, Or.inl (x_in2 90 (by decide +kernel) rfl)⟩
set_option maxRecDepth 40000 in
theorem f_D_14 : x_fl "PaperFile$Decoder" 14 6 2 := ⟨_, _, _, rfl, by decide, xi_D, rfl, Or.inl (x_in2 91 (by decide +kernel) rfl)⟩
set_option maxRecDepth 40000 in
theorem p_D_14 : x_fp "PaperFile$Decoder" 14 6 2 (.object "PaperFile$Pail") false := ⟨_, _, _, xt_D, rfl, by decide, xi_D, rfl, xt_D_ok, xn_D, rfl, by decide +kernel, (fun h => by cases h), Or.inl (x_in2 91 (by decide +kernel) rfl)⟩
set_option maxRecDepth 40000 in
theorem f_D_20 : x_fl "PaperFile$Decoder" 20 6 3 := ⟨_, _, _, rfl, by decide, xi_D, rfl, Or.inl (x_in2 92 (by decide +kernel) rfl)⟩
set_option maxRecDepth 40000 in
theorem p_D_20 : x_fp "PaperFile$Decoder" 20 6 3 (.object "PaperFile$Pail") false := ⟨_, _, _, xt_D, rfl, by decide, xi_D, rfl, xt_D_ok, xn_D, rfl, by decide +kernel, (fun h => by cases h), Or.inl (x_in2 92 (by decide +kernel) rfl)⟩
set_option maxRecDepth 40000 in
theorem f_D_37 : x_fl "PaperFile$Decoder" 37 6 4 := ⟨_, _, _, rfl, by decide, xi_D, rfl, Or.inl (x_in2 93 (by decide +kernel) rfl)⟩
set_option maxRecDepth 40000 in
theorem p_D_37 : x_fp "PaperFile$Decoder" 37 6 4 (.array .byte) false := ⟨_, _, _, xt_D, rfl, by decide, xi_D, rfl, xt_D_ok, xn_D, rfl, by decide +kernel, (fun h => by cases h), Or.inl (x_in2 93 (by decide +kernel) rfl)⟩
set_option maxRecDepth 40000 in
theorem f_PF_194 : x_fl "PaperFile" 194 6 4 := ⟨_, _, _, rfl, by decide, xi_D, rfl, Or.inl (x_in2 94 (by decide +kernel) rfl)⟩
set_option maxRecDepth 40000 in
theorem p_PF_194 : x_fp "PaperFile" 194 6 4 (.array .byte) false := ⟨_, _, _, xt_D, rfl, by decide, xi_D, rfl, xt_D_ok, xn_D, rfl, by decide +kernel, (fun h => by cases h), Or.inl (x_in2 94 (by decide +kernel) rfl)⟩
set_option maxRecDepth 40000 in
theorem f_D_46 : x_fl "PaperFile$Decoder" 46 6 5 := ⟨_, _, _, rfl, by decide, xi_D, rfl, Or.inl (x_in2 95 (by decide +kernel) rfl)⟩
set_option maxRecDepth 40000 in
theorem p_D_46 : x_fp "PaperFile$Decoder" 46 6 5 .int false := ⟨_, _, _, xt_D, rfl, by decide, xi_D, rfl, xt_D_ok, xn_D, rfl, by decide +kernel, (fun h => by cases h), Or.inl (x_in2 95 (by decide +kernel) rfl)⟩
set_option maxRecDepth 40000 in
theorem f_PF_198 : x_fl "PaperFile" 198 6 5 := ⟨_, _, _, rfl, by decide, xi_D, rfl, Or.inl (x_in2 96 (by decide +kernel) rfl)⟩
set_option maxRecDepth 40000 in
theorem p_PF_198 : x_fp "PaperFile" 198 6 5 .int false := ⟨_, _, _, xt_D, rfl, by decide, xi_D, rfl, xt_D_ok, xn_D, rfl, by decide +kernel, (fun h => by cases h), Or.inl (x_in2 96 (by decide +kernel) rfl)⟩
set_option maxRecDepth 40000 in
theorem f_D_53 : x_fl "PaperFile$Decoder" 53 6 6 := ⟨_, _, _, rfl, by decide, xi_D, rfl, Or.inl (x_in2 97 (by decide +kernel) rfl)⟩
set_option maxRecDepth 40000 in
theorem p_D_53 : x_fp "PaperFile$Decoder" 53 6 6 .int false := ⟨_, _, _, xt_D, rfl, by decide, xi_D, rfl, xt_D_ok, xn_D, rfl, by decide +kernel, (fun h => by cases h), Or.inl (x_in2 97 (by decide +kernel) rfl)⟩
set_option maxRecDepth 40000 in
theorem f_PF_201 : x_fl "PaperFile" 201 6 6 := ⟨_, _, _, rfl, by decide, xi_D, rfl, Or.inl (x_in2 98 (by decide +kernel) rfl)⟩
set_option maxRecDepth 40000 in
theorem p_PF_201 : x_fp "PaperFile" 201 6 6 .int false := ⟨_, _, _, xt_D, rfl, by decide, xi_D, rfl, xt_D_ok, xn_D, rfl, by decide +kernel, (fun h => by cases h), Or.inl (x_in2 98 (by decide +kernel) rfl)⟩
set_option maxRecDepth 40000 in
theorem f_PW_9 : x_fl "PaperFile$PageWalk" 9 8 0 := ⟨_, _, _, rfl, by decide, xi_PW, rfl, Or.inl (x_in2 120 (by decide +kernel) rfl)⟩
set_option maxRecDepth 40000 in
theorem p_PW_9 : x_fp "PaperFile$PageWalk" 9 8 0 (.array .int) true := ⟨_, _, _, xt_PW, rfl, by decide, xi_PW, rfl, xt_PW_ok, xn_PW, rfl, by decide +kernel, fun _ => rfl, Or.inl (x_in2 120 (by decide +kernel) rfl)⟩
set_option maxRecDepth 40000 in
theorem f_PF_265 : x_fl "PaperFile" 265 8 0 := ⟨_, _, _, rfl, by decide, xi_PW, rfl, Or.inl (x_in2 121 (by decide +kernel) rfl)⟩
set_option maxRecDepth 40000 in
theorem f_PW_27 : x_fl "PaperFile$PageWalk" 27 8 1 := ⟨_, _, _, rfl, by decide, xi_PW, rfl, Or.inl (x_in2 122 (by decide +kernel) rfl)⟩
set_option maxRecDepth 40000 in
theorem p_PW_27 : x_fp "PaperFile$PageWalk" 27 8 1 .int false := ⟨_, _, _, xt_PW, rfl, by decide, xi_PW, rfl, xt_PW_ok, xn_PW, rfl, by decide +kernel, (fun h => by cases h), Or.inl (x_in2 122 (by decide +kernel) rfl)⟩
set_option maxRecDepth 40000 in
theorem f_PF_262 : x_fl "PaperFile" 262 8 1 := ⟨_, _, _, rfl, by decide, xi_PW, rfl, Or.inl (x_in2 123 (by decide +kernel) rfl)⟩
set_option maxRecDepth 40000 in
theorem p_PF_262 : x_fp "PaperFile" 262 8 1 .int false := ⟨_, _, _, xt_PW, rfl, by decide, xi_PW, rfl, xt_PW_ok, xn_PW, rfl, by decide +kernel, (fun h => by cases h), Or.inl (x_in2 123 (by decide +kernel) rfl)⟩
set_option maxRecDepth 40000 in
theorem f_PW_15 : x_fl "PaperFile$PageWalk" 15 8 2 := ⟨_, _, _, rfl, by decide, xi_PW, rfl, Or.inl (x_in2 124 (by decide +kernel) rfl)⟩
set_option maxRecDepth 40000 in
theorem p_PW_15 : x_fp "PaperFile$PageWalk" 15 8 2 (.array .boolean) true := ⟨_, _, _, xt_PW, rfl, by decide, xi_PW, rfl, xt_PW_ok, xn_PW, rfl, by decide +kernel, fun _ => rfl, Or.inl (x_in2 124 (by decide +kernel) rfl)⟩
set_option maxRecDepth 40000 in
theorem f_PW_19 : x_fl "PaperFile$PageWalk" 19 8 3 := ⟨_, _, _, rfl, by decide, xi_PW, rfl, Or.inl (x_in2 125 (by decide +kernel) rfl)⟩
set_option maxRecDepth 40000 in
theorem p_PW_19 : x_fp "PaperFile$PageWalk" 19 8 3 (.object "PaperFile$Parts") true := ⟨_, _, _, xt_PW, rfl, by decide, xi_PW, rfl, xt_PW_ok, xn_PW, rfl, by decide +kernel, fun _ => rfl, Or.inl (x_in2 125 (by decide +kernel) rfl)⟩
set_option maxRecDepth 40000 in
theorem f_PW_23 : x_fl "PaperFile$PageWalk" 23 8 4 := ⟨_, _, _, rfl, by decide, xi_PW, rfl, Or.inl (x_in2 126 (by decide +kernel) rfl)⟩
set_option maxRecDepth 40000 in
theorem p_PW_23 : x_fp "PaperFile$PageWalk" 23 8 4 (.object "PaperFile$Book") false := ⟨_, _, _, xt_PW, rfl, by decide, xi_PW, rfl, xt_PW_ok, xn_PW, rfl, by decide +kernel, (fun h => by cases h), Or.inl (x_in2 126 (by decide +kernel) rfl)⟩
set_option maxRecDepth 40000 in
theorem f_B_9 : x_fl "PaperFile$Book" 9 9 0 := ⟨_, _, _, rfl, by decide, xi_B, rfl, Or.inl (x_in2 144 (by decide +kernel) rfl)⟩
set_option maxRecDepth 40000 in
theorem p_B_9 : x_fp "PaperFile$Book" 9 9 0 (.array .int) true := ⟨_, _, _, xt_B, rfl, by decide, xi_B, rfl, xt_B_ok, xn_B, rfl, by decide +kernel, fun _ => rfl, Or.inl (x_in2 144 (by decide +kernel) rfl)⟩
set_option maxRecDepth 40000 in
theorem f_PW_52 : x_fl "PaperFile$PageWalk" 52 9 0 := ⟨_, _, _, rfl, by decide, xi_B, rfl, Or.inl (x_in2 145 (by decide +kernel) rfl)⟩
set_option maxRecDepth 40000 in
theorem f_Wr_100 : x_fl "PaperFile$Writer" 100 9 0 := ⟨_, _, _, rfl, by decide, xi_B, rfl, Or.inl (x_in2 146 (by decide +kernel) rfl)⟩
set_option maxRecDepth 40000 in
theorem f_PF_133 : x_fl "PaperFile" 133 9 0 := ⟨_, _, _, rfl, by decide, xi_B, rfl, Or.inl (x_in2 147 (by decide +kernel) rfl)⟩
set_option maxRecDepth 40000 in
theorem f_O_195 : x_fl "PaperFile$Opener" 195 9 0 := ⟨_, _, _, rfl, by decide, xi_B, rfl, Or.inl (x_in2 148 (by decide +kernel) rfl)⟩
set_option maxRecDepth 40000 in
theorem f_B_15 : x_fl "PaperFile$Book" 15 9 1 := ⟨_, _, _, rfl, by decide, xi_B, rfl, Or.inl (x_in2 149 (by decide +kernel) rfl)⟩
set_option maxRecDepth 40000 in
theorem p_B_15 : x_fp "PaperFile$Book" 15 9 1 (.array .int) true := ⟨_, _, _, xt_B, rfl, by decide, xi_B, rfl, xt_B_ok, xn_B, rfl, by decide +kernel, fun _ => rfl, Or.inl (x_in2 149 (by decide +kernel) rfl)⟩
set_option maxRecDepth 40000 in
theorem f_Wr_95 : x_fl "PaperFile$Writer" 95 9 1 := ⟨_, _, _, rfl, by decide, xi_B, rfl, Or.inl (x_in2 150 (by decide +kernel) rfl)⟩
set_option maxRecDepth 40000 in
theorem f_O_142 : x_fl "PaperFile$Opener" 142 9 1 := ⟨_, _, _, rfl, by decide, xi_B, rfl, Or.inl (x_in2 151 (by decide +kernel) rfl)⟩
set_option maxRecDepth 40000 in
theorem f_PF_277 : x_fl "PaperFile" 277 9 1 := ⟨_, _, _, rfl, by decide, xi_B, rfl, Or.inl (x_in2 152 (by decide +kernel) rfl)⟩
set_option maxRecDepth 40000 in
theorem f_B_18 : x_fl "PaperFile$Book" 18 9 2 := ⟨_, _, _, rfl, by decide, xi_B, rfl, Or.inl (x_in2 153 (by decide +kernel) rfl)⟩
set_option maxRecDepth 40000 in
theorem p_B_18 : x_fp "PaperFile$Book" 18 9 2 (.array .boolean) true := ⟨_, _, _, xt_B, rfl, by decide, xi_B, rfl, xt_B_ok, xn_B, rfl, by decide +kernel, fun _ => rfl, Or.inl (x_in2 153 (by decide +kernel) rfl)⟩
set_option maxRecDepth 40000 in
theorem f_Wr_63 : x_fl "PaperFile$Writer" 63 9 2 := ⟨_, _, _, rfl, by decide, xi_B, rfl, Or.inl (x_in2 154 (by decide +kernel) rfl)⟩
set_option maxRecDepth 40000 in
theorem f_O_145 : x_fl "PaperFile$Opener" 145 9 2 := ⟨_, _, _, rfl, by decide, xi_B, rfl, Or.inl (x_in2 155 (by decide +kernel) rfl)⟩
set_option maxRecDepth 40000 in
theorem f_PF_242 : x_fl "PaperFile" 242 9 2 := ⟨_, _, _, rfl, by decide, xi_B, rfl, Or.inl (x_in2 156 (by decide +kernel) rfl)⟩
set_option maxRecDepth 40000 in
theorem f_B_22 : x_fl "PaperFile$Book" 22 9 3 := ⟨_, _, _, rfl, by decide, xi_B, rfl, Or.inl (x_in2 157 (by decide +kernel) rfl)⟩
set_option maxRecDepth 40000 in
theorem p_B_22 : x_fp "PaperFile$Book" 22 9 3 (.array .boolean) true := ⟨_, _, _, xt_B, rfl, by decide, xi_B, rfl, xt_B_ok, xn_B, rfl, by decide +kernel, fun _ => rfl, Or.inl (x_in2 157 (by decide +kernel) rfl)⟩
set_option maxRecDepth 40000 in
theorem f_Wr_52 : x_fl "PaperFile$Writer" 52 9 3 := ⟨_, _, _, rfl, by decide, xi_B, rfl, Or.inl (x_in2 158 (by decide +kernel) rfl)⟩
set_option maxRecDepth 40000 in
theorem f_PF_272 : x_fl "PaperFile" 272 9 3 := ⟨_, _, _, rfl, by decide, xi_B, rfl, Or.inl (x_in2 159 (by decide +kernel) rfl)⟩
set_option maxRecDepth 40000 in
theorem f_B_25 : x_fl "PaperFile$Book" 25 9 4 := ⟨_, _, _, rfl, by decide, xi_B, rfl, Or.inl (x_in2 160 (by decide +kernel) rfl)⟩
set_option maxRecDepth 40000 in
theorem p_B_25 : x_fp "PaperFile$Book" 25 9 4 (.array .boolean) true := ⟨_, _, _, xt_B, rfl, by decide, xi_B, rfl, xt_B_ok, xn_B, rfl, by decide +kernel, fun _ => rfl, Or.inl (x_in2 160 (by decide +kernel) rfl)⟩
set_option maxRecDepth 40000 in
theorem f_B_32 : x_fl "PaperFile$Book" 32 9 5 := ⟨_, _, _, rfl, by decide, xi_B, rfl, Or.inl (x_in2 161 (by decide +kernel) rfl)⟩
set_option maxRecDepth 40000 in
theorem p_B_32 : x_fp "PaperFile$Book" 32 9 5 .int false := ⟨_, _, _, xt_B, rfl, by decide, xi_B, rfl, xt_B_ok, xn_B, rfl, by decide +kernel, (fun h => by cases h), Or.inl (x_in2 161 (by decide +kernel) rfl)⟩
set_option maxRecDepth 40000 in
theorem f_Wr_60 : x_fl "PaperFile$Writer" 60 9 5 := ⟨_, _, _, rfl, by decide, xi_B, rfl, Or.inl (x_in2 162 (by decide +kernel) rfl)⟩
set_option maxRecDepth 40000 in
theorem p_Wr_60 : x_fp "PaperFile$Writer" 60 9 5 .int false := ⟨_, _, _, xt_B, rfl, by decide, xi_B, rfl, xt_B_ok, xn_B, rfl, by decide +kernel, (fun h => by cases h), Or.inl (x_in2 162 (by decide +kernel) rfl)⟩
set_option maxRecDepth 40000 in
theorem f_O_133 : x_fl "PaperFile$Opener" 133 9 5 := ⟨_, _, _, rfl, by decide, xi_B, rfl, Or.inl (x_in2 163 (by decide +kernel) rfl)⟩
set_option maxRecDepth 40000 in
theorem p_O_133 : x_fp "PaperFile$Opener" 133 9 5 .int false := ⟨_, _, _, xt_B, rfl, by decide, xi_B, rfl, xt_B_ok, xn_B, rfl, by decide +kernel, (fun h => by cases h), Or.inl (x_in2 163 (by decide +kernel) rfl)⟩
set_option maxRecDepth 40000 in
theorem f_PF_268 : x_fl "PaperFile" 268 9 5 := ⟨_, _, _, rfl, by decide, xi_B, rfl, Or.inl (x_in2 164 (by decide +kernel) rfl)⟩
set_option maxRecDepth 40000 in
theorem p_PF_268 : x_fp "PaperFile" 268 9 5 .int false := ⟨_, _, _, xt_B, rfl, by decide, xi_B, rfl, xt_B_ok, xn_B, rfl, by decide +kernel, (fun h => by cases h), Or.inl (x_in2 164 (by decide +kernel) rfl)⟩
set_option maxRecDepth 40000 in
theorem f_B_36 : x_fl "PaperFile$Book" 36 9 6 := ⟨_, _, _, rfl, by decide, xi_B, rfl, Or.inl (x_in2 165 (by decide +kernel) rfl)⟩
set_option maxRecDepth 40000 in
theorem p_B_36 : x_fp "PaperFile$Book" 36 9 6 .int false := ⟨_, _, _, xt_B, rfl, by decide, xi_B, rfl, xt_B_ok, xn_B, rfl, by decide +kernel, (fun h => by cases h), Or.inl (x_in2 165 (by decide +kernel) rfl)⟩
set_option maxRecDepth 40000 in
theorem f_O_175 : x_fl "PaperFile$Opener" 175 9 6 := ⟨_, _, _, rfl, by decide, xi_B, rfl, Or.inl (x_in2 166 (by decide +kernel) rfl)⟩
set_option maxRecDepth 40000 in
theorem p_O_175 : x_fp "PaperFile$Opener" 175 9 6 .int false := ⟨_, _, _, xt_B, rfl, by decide, xi_B, rfl, xt_B_ok, xn_B, rfl, by decide +kernel, (fun h => by cases h), Or.inl (x_in2 166 (by decide +kernel) rfl)⟩
set_option maxRecDepth 40000 in
theorem f_PF_269 : x_fl "PaperFile" 269 9 6 := ⟨_, _, _, rfl, by decide, xi_B, rfl, Or.inl (x_in2 167 (by decide +kernel) rfl)⟩
set_option maxRecDepth 40000 in
theorem p_PF_269 : x_fp "PaperFile" 269 9 6 .int false := ⟨_, _, _, xt_B, rfl, by decide, xi_B, rfl, xt_B_ok, xn_B, rfl, by decide +kernel, (fun h => by cases h), Or.inl (x_in2 167 (by decide +kernel) rfl)⟩
set_option maxRecDepth 40000 in
theorem f_Wr_142 : x_fl "PaperFile$Writer" 142 9 7 := ⟨_, _, _, rfl, by decide, xi_B, rfl, Or.inl (x_in2 168 (by decide +kernel) rfl)⟩
set_option maxRecDepth 40000 in
theorem p_Wr_142 : x_fp "PaperFile$Writer" 142 9 7 .int false := ⟨_, _, _, xt_B, rfl, by decide, xi_B, rfl, xt_B_ok, xn_B, rfl, by decide +kernel, (fun h => by cases h), Or.inl (x_in2 168 (by decide +kernel) rfl)⟩
set_option maxRecDepth 40000 in
theorem f_O_180 : x_fl "PaperFile$Opener" 180 9 7 := ⟨_, _, _, rfl, by decide, xi_B, rfl, Or.inl (x_in2 169 (by decide +kernel) rfl)⟩
set_option maxRecDepth 40000 in
theorem p_O_180 : x_fp "PaperFile$Opener" 180 9 7 .int false := ⟨_, _, _, xt_B, rfl, by decide, xi_B, rfl, xt_B_ok, xn_B, rfl, by decide +kernel, (fun h => by cases h), Or.inl (x_in2 169 (by decide +kernel) rfl)⟩
set_option maxRecDepth 40000 in
theorem f_PW_31 : x_fl "PaperFile$PageWalk" 31 9 8 := ⟨_, _, _, rfl, by decide, xi_B, rfl, Or.inl (x_in2 170 (by decide +kernel) rfl)⟩
set_option maxRecDepth 40000 in
theorem p_PW_31 : x_fp "PaperFile$PageWalk" 31 9 8 .int false := ⟨_, _, _, xt_B, rfl, by decide, xi_B, rfl, xt_B_ok, xn_B, rfl, by decide +kernel, (fun h => by cases h), Or.inl (x_in2 170 (by decide +kernel) rfl)⟩
set_option maxRecDepth 40000 in
theorem f_Wr_119 : x_fl "PaperFile$Writer" 119 9 8 := ⟨_, _, _, rfl, by decide, xi_B, rfl, Or.inl (x_in2 171 (by decide +kernel) rfl)⟩
set_option maxRecDepth 40000 in
theorem p_Wr_119 : x_fp "PaperFile$Writer" 119 9 8 .int false := ⟨_, _, _, xt_B, rfl, by decide, xi_B, rfl, xt_B_ok, xn_B, rfl, by decide +kernel, (fun h => by cases h), Or.inl (x_in2 171 (by decide +kernel) rfl)⟩
set_option maxRecDepth 40000 in
theorem f_PF_144 : x_fl "PaperFile" 144 9 8 := ⟨_, _, _, rfl, by decide, xi_B, rfl, Or.inl (x_in2 172 (by decide +kernel) rfl)⟩
set_option maxRecDepth 40000 in
theorem p_PF_144 : x_fp "PaperFile" 144 9 8 .int false := ⟨_, _, _, xt_B, rfl, by decide, xi_B, rfl, xt_B_ok, xn_B, rfl, by decide +kernel, (fun h => by cases h), Or.inl (x_in2 172 (by decide +kernel) rfl)⟩
set_option maxRecDepth 40000 in
theorem f_O_178 : x_fl "PaperFile$Opener" 178 9 8 := ⟨_, _, _, rfl, by decide, xi_B, rfl, Or.inl (x_in2 173 (by decide +kernel) rfl)⟩
set_option maxRecDepth 40000 in
theorem p_O_178 : x_fp "PaperFile$Opener" 178 9 8 .int false := ⟨_, _, _, xt_B, rfl, by decide, xi_B, rfl, xt_B_ok, xn_B, rfl, by decide +kernel, (fun h => by cases h), Or.inl (x_in2 173 (by decide +kernel) rfl)⟩
set_option maxRecDepth 40000 in
theorem f_B_81 : x_fl "PaperFile$Book" 81 9 8 := ⟨_, _, _, rfl, by decide, xi_B, rfl, Or.inl (x_in2 174 (by decide +kernel) rfl)⟩
set_option maxRecDepth 40000 in
theorem p_B_81 : x_fp "PaperFile$Book" 81 9 8 .int false := ⟨_, _, _, xt_B, rfl, by decide, xi_B, rfl, xt_B_ok, xn_B, rfl, by decide +kernel, (fun h => by cases h), Or.inl (x_in2 174 (by decide +kernel) rfl)⟩
set_option maxRecDepth 40000 in
theorem f_Wr_37 : x_fl "PaperFile$Writer" 37 9 9 := ⟨_, _, _, rfl, by decide, xi_B, rfl, Or.inl (x_in2 175 (by decide +kernel) rfl)⟩
set_option maxRecDepth 40000 in
theorem p_Wr_37 : x_fp "PaperFile$Writer" 37 9 9 .int false := ⟨_, _, _, xt_B, rfl, by decide, xi_B, rfl, xt_B_ok, xn_B, rfl, by decide +kernel, (fun h => by cases h), Or.inl (x_in2 175 (by decide +kernel) rfl)⟩
set_option maxRecDepth 40000 in
theorem f_B_39 : x_fl "PaperFile$Book" 39 9 9 := ⟨_, _, _, rfl, by decide, xi_B, rfl, Or.inl (x_in2 176 (by decide +kernel) rfl)⟩
set_option maxRecDepth 40000 in
theorem p_B_39 : x_fp "PaperFile$Book" 39 9 9 .int false := ⟨_, _, _, xt_B, rfl, by decide, xi_B, rfl, xt_B_ok, xn_B, rfl, by decide +kernel, (fun h => by cases h), Or.inl (x_in2 176 (by decide +kernel) rfl)⟩
set_option maxRecDepth 40000 in
theorem f_PF_276 : x_fl "PaperFile" 276 9 9 := ⟨_, _, _, rfl, by decide, xi_B, rfl, Or.inl (x_in2 177 (by decide +kernel) rfl)⟩
set_option maxRecDepth 40000 in
theorem p_PF_276 : x_fp "PaperFile" 276 9 9 .int false := ⟨_, _, _, xt_B, rfl, by decide, xi_B, rfl, xt_B_ok, xn_B, rfl, by decide +kernel, (fun h => by cases h), Or.inl (x_in2 177 (by decide +kernel) rfl)⟩
set_option maxRecDepth 40000 in
theorem f_Wr_43 : x_fl "PaperFile$Writer" 43 9 10 := ⟨_, _, _, rfl, by decide, xi_B, rfl, Or.inl (x_in2 178 (by decide +kernel) rfl)⟩
set_option maxRecDepth 40000 in
theorem p_Wr_43 : x_fp "PaperFile$Writer" 43 9 10 .int false := ⟨_, _, _, xt_B, rfl, by decide, xi_B, rfl, xt_B_ok, xn_B, rfl, by decide +kernel, (fun h => by cases h), Or.inl (x_in2 178 (by decide +kernel) rfl)⟩
set_option maxRecDepth 40000 in
theorem f_B_42 : x_fl "PaperFile$Book" 42 9 10 := ⟨_, _, _, rfl, by decide, xi_B, rfl, Or.inl (x_in2 179 (by decide +kernel) rfl)⟩
set_option maxRecDepth 40000 in
theorem p_B_42 : x_fp "PaperFile$Book" 42 9 10 .int false := ⟨_, _, _, xt_B, rfl, by decide, xi_B, rfl, xt_B_ok, xn_B, rfl, by decide +kernel, (fun h => by cases h), Or.inl (x_in2 179 (by decide +kernel) rfl)⟩
set_option maxRecDepth 40000 in
theorem f_PF_275 : x_fl "PaperFile" 275 9 10 := ⟨_, _, _, rfl, by decide, xi_B, rfl, Or.inl (x_in2 180 (by decide +kernel) rfl)⟩
set_option maxRecDepth 40000 in
theorem p_PF_275 : x_fp "PaperFile" 275 9 10 .int false := ⟨_, _, _, xt_B, rfl, by decide, xi_B, rfl, xt_B_ok, xn_B, rfl, by decide +kernel, (fun h => by cases h), Or.inl (x_in2 180 (by decide +kernel) rfl)⟩
set_option maxRecDepth 40000 in
theorem f_B_28 : x_fl "PaperFile$Book" 28 9 11 := ⟨_, _, _, rfl, by decide, xi_B, rfl, Or.inl (x_in2 181 (by decide +kernel) rfl)⟩
set_option maxRecDepth 40000 in
theorem p_B_28 : x_fp "PaperFile$Book" 28 9 11 (.object "PaperFile$Parts") true := ⟨_, _, _, xt_B, rfl, by decide, xi_B, rfl, xt_B_ok, xn_B, rfl, by decide +kernel, fun _ => rfl, Or.inl (x_in2 181 (by decide +kernel) rfl)⟩
set_option maxRecDepth 40000 in
theorem f_PF_12 : x_fl "PaperFile" 12 0 0 := ⟨_, _, _, rfl, by decide, xi_PF, rfl, Or.inl (x_in2 209 (by decide +kernel) rfl)⟩
set_option maxRecDepth 40000 in
theorem p_PF_12 : x_fp "PaperFile" 12 0 0 (.object "PaperFile$Text") true := ⟨_, _, _, xt_PF, rfl, by decide, xi_PF, rfl, xt_PF_ok, xn_PF, rfl, by decide +kernel, fun _ => rfl, Or.inl (x_in2 209 (by decide +kernel) rfl)⟩
set_option maxRecDepth 40000 in
theorem f_PF_21 : x_fl "PaperFile" 21 0 1 := ⟨_, _, _, rfl, by decide, xi_PF, rfl, Or.inl (x_in2 210 (by decide +kernel) rfl)⟩
set_option maxRecDepth 40000 in
theorem p_PF_21 : x_fp "PaperFile" 21 0 1 (.object "PaperFile$Parts") true := ⟨_, _, _, xt_PF, rfl, by decide, xi_PF, rfl, xt_PF_ok, xn_PF, rfl, by decide +kernel, fun _ => rfl, Or.inl (x_in2 210 (by decide +kernel) rfl)⟩
set_option maxRecDepth 40000 in
theorem f_PF_30 : x_fl "PaperFile" 30 0 2 := ⟨_, _, _, rfl, by decide, xi_PF, rfl, Or.inl (x_in2 211 (by decide +kernel) rfl)⟩
set_option maxRecDepth 40000 in
theorem p_PF_30 : x_fp "PaperFile" 30 0 2 (.object "PaperFile$Reader") true := ⟨_, _, _, xt_PF, rfl, by decide, xi_PF, rfl, xt_PF_ok, xn_PF, rfl, by decide +kernel, fun _ => rfl, Or.inl (x_in2 211 (by decide +kernel) rfl)⟩
set_option maxRecDepth 40000 in
theorem f_PF_39 : x_fl "PaperFile" 39 0 3 := ⟨_, _, _, rfl, by decide, xi_PF, rfl, Or.inl (x_in2 212 (by decide +kernel) rfl)⟩
set_option maxRecDepth 40000 in
theorem p_PF_39 : x_fp "PaperFile" 39 0 3 (.object "PaperFile$Opener") true := ⟨_, _, _, xt_PF, rfl, by decide, xi_PF, rfl, xt_PF_ok, xn_PF, rfl, by decide +kernel, fun _ => rfl, Or.inl (x_in2 212 (by decide +kernel) rfl)⟩
set_option maxRecDepth 40000 in
theorem f_PF_46 : x_fl "PaperFile" 46 0 4 := ⟨_, _, _, rfl, by decide, xi_PF, rfl, Or.inl (x_in2 213 (by decide +kernel) rfl)⟩
set_option maxRecDepth 40000 in
theorem p_PF_46 : x_fp "PaperFile" 46 0 4 (.object "PaperFile$Writer") true := ⟨_, _, _, xt_PF, rfl, by decide, xi_PF, rfl, xt_PF_ok, xn_PF, rfl, by decide +kernel, fun _ => rfl, Or.inl (x_in2 213 (by decide +kernel) rfl)⟩
set_option maxRecDepth 40000 in
theorem f_PF_53 : x_fl "PaperFile" 53 0 5 := ⟨_, _, _, rfl, by decide, xi_PF, rfl, Or.inl (x_in2 214 (by decide +kernel) rfl)⟩
set_option maxRecDepth 40000 in
theorem p_PF_53 : x_fp "PaperFile" 53 0 5 (.object "PaperFile$Decoder") true := ⟨_, _, _, xt_PF, rfl, by decide, xi_PF, rfl, xt_PF_ok, xn_PF, rfl, by decide +kernel, fun _ => rfl, Or.inl (x_in2 214 (by decide +kernel) rfl)⟩
set_option maxRecDepth 40000 in
theorem f_PF_62 : x_fl "PaperFile" 62 0 6 := ⟨_, _, _, rfl, by decide, xi_PF, rfl, Or.inl (x_in2 215 (by decide +kernel) rfl)⟩
set_option maxRecDepth 40000 in
theorem p_PF_62 : x_fp "PaperFile" 62 0 6 (.object "PaperFile$PageWalk") true := ⟨_, _, _, xt_PF, rfl, by decide, xi_PF, rfl, xt_PF_ok, xn_PF, rfl, by decide +kernel, fun _ => rfl, Or.inl (x_in2 215 (by decide +kernel) rfl)⟩
set_option maxRecDepth 40000 in
theorem f_PF_69 : x_fl "PaperFile" 69 0 7 := ⟨_, _, _, rfl, by decide, xi_PF, rfl, Or.inl (x_in2 216 (by decide +kernel) rfl)⟩
set_option maxRecDepth 40000 in
theorem p_PF_69 : x_fp "PaperFile" 69 0 7 (.object "PaperFile$Book") false := ⟨_, _, _, xt_PF, rfl, by decide, xi_PF, rfl, xt_PF_ok, xn_PF, rfl, by decide +kernel, (fun h => by cases h), Or.inl (x_in2 216 (by decide +kernel) rfl)⟩
set_option maxRecDepth 40000 in
theorem f_PF_73 : x_fl "PaperFile" 73 0 8 := ⟨_, _, _, rfl, by decide, xi_PF, rfl, Or.inl (x_in2 217 (by decide +kernel) rfl)⟩
set_option maxRecDepth 40000 in
theorem p_PF_73 : x_fp "PaperFile" 73 0 8 (.object "PaperFile$Book") false := ⟨_, _, _, xt_PF, rfl, by decide, xi_PF, rfl, xt_PF_ok, xn_PF, rfl, by decide +kernel, (fun h => by cases h), Or.inl (x_in2 217 (by decide +kernel) rfl)⟩
set_option maxRecDepth 40000 in
theorem f_PF_81 : x_fl "PaperFile" 81 0 9 := ⟨_, _, _, rfl, by decide, xi_PF, rfl, Or.inl (x_in2 218 (by decide +kernel) rfl)⟩
set_option maxRecDepth 40000 in
theorem p_PF_81 : x_fp "PaperFile" 81 0 9 (.object "PaperFile$Pail") false := ⟨_, _, _, xt_PF, rfl, by decide, xi_PF, rfl, xt_PF_ok, xn_PF, rfl, by decide +kernel, (fun h => by cases h), Or.inl (x_in2 218 (by decide +kernel) rfl)⟩
set_option maxRecDepth 40000 in
theorem f_PF_85 : x_fl "PaperFile" 85 0 10 := ⟨_, _, _, rfl, by decide, xi_PF, rfl, Or.inl (x_in2 219 (by decide +kernel) rfl)⟩
set_option maxRecDepth 40000 in
theorem p_PF_85 : x_fp "PaperFile" 85 0 10 (.object "PaperFile$Pail") false := ⟨_, _, _, xt_PF, rfl, by decide, xi_PF, rfl, xt_PF_ok, xn_PF, rfl, by decide +kernel, (fun h => by cases h), Or.inl (x_in2 219 (by decide +kernel) rfl)⟩
set_option maxRecDepth 40000 in
theorem f_PF_88 : x_fl "PaperFile" 88 0 11 := ⟨_, _, _, rfl, by decide, xi_PF, rfl, Or.inl (x_in2 220 (by decide +kernel) rfl)⟩
set_option maxRecDepth 40000 in
theorem p_PF_88 : x_fp "PaperFile" 88 0 11 .int false := ⟨_, _, _, xt_PF, rfl, by decide, xi_PF, rfl, xt_PF_ok, xn_PF, rfl, by decide +kernel, (fun h => by cases h), Or.inl (x_in2 220 (by decide +kernel) rfl)⟩
set_option maxRecDepth 40000 in
theorem f_M_14 : x_fl "PaperFileModel" 14 10 0 := ⟨_, _, _, rfl, by decide, xi_M, rfl, Or.inl (x_in5 147 (by decide +kernel) rfl)⟩
set_option maxRecDepth 40000 in
theorem p_M_14 : x_fp "PaperFileModel" 14 10 0 (.array .byte) false := ⟨_, _, _, xt_M, rfl, by decide, xi_M, rfl, xt_M_ok, xn_M, rfl, by decide +kernel, (fun h => by cases h), Or.inl (x_in5 147 (by decide +kernel) rfl)⟩
set_option maxRecDepth 40000 in
theorem f_M_11 : x_fl "PaperFileModel" 11 10 1 := ⟨_, _, _, rfl, by decide, xi_M, rfl, Or.inl (x_in5 148 (by decide +kernel) rfl)⟩
set_option maxRecDepth 40000 in
theorem p_M_11 : x_fp "PaperFileModel" 11 10 1 .int false := ⟨_, _, _, xt_M, rfl, by decide, xi_M, rfl, xt_M_ok, xn_M, rfl, by decide +kernel, (fun h => by cases h), Or.inl (x_in5 148 (by decide +kernel) rfl)⟩
set_option maxRecDepth 40000 in
theorem f_M_7 : x_fl "PaperFileModel" 7 10 2 := ⟨_, _, _, rfl, by decide, xi_M, rfl, Or.inl (x_in5 149 (by decide +kernel) rfl)⟩
set_option maxRecDepth 40000 in
theorem p_M_7 : x_fp "PaperFileModel" 7 10 2 .int false := ⟨_, _, _, xt_M, rfl, by decide, xi_M, rfl, xt_M_ok, xn_M, rfl, by decide +kernel, (fun h => by cases h), Or.inl (x_in5 149 (by decide +kernel) rfl)⟩
set_option maxRecDepth 40000 in
theorem f_M_122 : x_fl "PaperFileModel" 122 10 3 := ⟨_, _, _, rfl, by decide, xi_M, rfl, Or.inl (x_in5 150 (by decide +kernel) rfl)⟩
set_option maxRecDepth 40000 in
theorem p_M_122 : x_fp "PaperFileModel" 122 10 3 (.array .byte) true := ⟨_, _, _, xt_M, rfl, by decide, xi_M, rfl, xt_M_ok, xn_M, rfl, by decide +kernel, fun _ => rfl, Or.inl (x_in5 150 (by decide +kernel) rfl)⟩
set_option maxRecDepth 40000 in
theorem f_M_167 : x_fl "PaperFileModel" 167 10 4 := ⟨_, _, _, rfl, by decide, xi_M, rfl, Or.inl (x_in5 151 (by decide +kernel) rfl)⟩
set_option maxRecDepth 40000 in
theorem p_M_167 : x_fp "PaperFileModel" 167 10 4 (.array .byte) true := ⟨_, _, _, xt_M, rfl, by decide, xi_M, rfl, xt_M_ok, xn_M, rfl, by decide +kernel, fun _ => rfl, Or.inl (x_in5 151 (by decide +kernel) rfl)⟩
set_option maxRecDepth 40000 in
theorem f_M_193 : x_fl "PaperFileModel" 193 10 5 := ⟨_, _, _, rfl, by decide, xi_M, rfl, Or.inl (x_in5 152 (by decide +kernel) rfl)⟩
set_option maxRecDepth 40000 in
theorem p_M_193 : x_fp "PaperFileModel" 193 10 5 .int false := ⟨_, _, _, xt_M, rfl, by decide, xi_M, rfl, xt_M_ok, xn_M, rfl, by decide +kernel, (fun h => by cases h), Or.inl (x_in5 152 (by decide +kernel) rfl)⟩
set_option maxRecDepth 40000 in
theorem f_M_207 : x_fl "PaperFileModel" 207 10 6 := ⟨_, _, _, rfl, by decide, xi_M, rfl, Or.inl (x_in5 153 (by decide +kernel) rfl)⟩
set_option maxRecDepth 40000 in
theorem p_M_207 : x_fp "PaperFileModel" 207 10 6 (.object "PaperFileModel$Paper") false := ⟨_, _, _, xt_M, rfl, by decide, xi_M, rfl, xt_M_ok, xn_M, rfl, by decide +kernel, (fun h => by cases h), Or.inl (x_in5 153 (by decide +kernel) rfl)⟩
set_option maxRecDepth 40000 in
theorem f_M_211 : x_fl "PaperFileModel" 211 10 7 := ⟨_, _, _, rfl, by decide, xi_M, rfl, Or.inl (x_in5 154 (by decide +kernel) rfl)⟩
set_option maxRecDepth 40000 in
theorem p_M_211 : x_fp "PaperFileModel" 211 10 7 (.object "PaperFileModel$Part") false := ⟨_, _, _, xt_M, rfl, by decide, xi_M, rfl, xt_M_ok, xn_M, rfl, by decide +kernel, (fun h => by cases h), Or.inl (x_in5 154 (by decide +kernel) rfl)⟩
set_option maxRecDepth 40000 in
theorem f_M_170 : x_fl "PaperFileModel" 170 10 8 := ⟨_, _, _, rfl, by decide, xi_M, rfl, Or.inl (x_in5 155 (by decide +kernel) rfl)⟩
set_option maxRecDepth 40000 in
theorem p_M_170 : x_fp "PaperFileModel" 170 10 8 (.array .byte) true := ⟨_, _, _, xt_M, rfl, by decide, xi_M, rfl, xt_M_ok, xn_M, rfl, by decide +kernel, fun _ => rfl, Or.inl (x_in5 155 (by decide +kernel) rfl)⟩
set_option maxRecDepth 40000 in
theorem f_M_329 : x_fl "PaperFileModel" 329 10 9 := ⟨_, _, _, rfl, by decide, xi_M, rfl, Or.inl (x_in5 156 (by decide +kernel) rfl)⟩
set_option maxRecDepth 40000 in
theorem p_M_329 : x_fp "PaperFileModel" 329 10 9 .int false := ⟨_, _, _, xt_M, rfl, by decide, xi_M, rfl, xt_M_ok, xn_M, rfl, by decide +kernel, (fun h => by cases h), Or.inl (x_in5 156 (by decide +kernel) rfl)⟩
set_option maxRecDepth 40000 in
theorem f_M_227 : x_fl "PaperFileModel" 227 10 10 := ⟨_, _, _, rfl, by decide, xi_M, rfl, Or.inl (x_in5 157 (by decide +kernel) rfl)⟩
set_option maxRecDepth 40000 in
theorem p_M_227 : x_fp "PaperFileModel" 227 10 10 .int false := ⟨_, _, _, xt_M, rfl, by decide, xi_M, rfl, xt_M_ok, xn_M, rfl, by decide +kernel, (fun h => by cases h), Or.inl (x_in5 157 (by decide +kernel) rfl)⟩
set_option maxRecDepth 40000 in
theorem f_M_173 : x_fl "PaperFileModel" 173 10 11 := ⟨_, _, _, rfl, by decide, xi_M, rfl, Or.inl (x_in5 158 (by decide +kernel) rfl)⟩
set_option maxRecDepth 40000 in
theorem p_M_173 : x_fp "PaperFileModel" 173 10 11 (.array .byte) true := ⟨_, _, _, xt_M, rfl, by decide, xi_M, rfl, xt_M_ok, xn_M, rfl, by decide +kernel, fun _ => rfl, Or.inl (x_in5 158 (by decide +kernel) rfl)⟩
set_option maxRecDepth 40000 in
theorem f_M_176 : x_fl "PaperFileModel" 176 10 12 := ⟨_, _, _, rfl, by decide, xi_M, rfl, Or.inl (x_in5 159 (by decide +kernel) rfl)⟩
set_option maxRecDepth 40000 in
theorem p_M_176 : x_fp "PaperFileModel" 176 10 12 (.array .byte) true := ⟨_, _, _, xt_M, rfl, by decide, xi_M, rfl, xt_M_ok, xn_M, rfl, by decide +kernel, fun _ => rfl, Or.inl (x_in5 159 (by decide +kernel) rfl)⟩
set_option maxRecDepth 40000 in
theorem f_M_358 : x_fl "PaperFileModel" 358 10 13 := ⟨_, _, _, rfl, by decide, xi_M, rfl, Or.inl (x_in5 160 (by decide +kernel) rfl)⟩
set_option maxRecDepth 40000 in
theorem p_M_358 : x_fp "PaperFileModel" 358 10 13 .int false := ⟨_, _, _, xt_M, rfl, by decide, xi_M, rfl, xt_M_ok, xn_M, rfl, by decide +kernel, (fun h => by cases h), Or.inl (x_in5 160 (by decide +kernel) rfl)⟩
set_option maxRecDepth 40000 in
theorem f_M_179 : x_fl "PaperFileModel" 179 10 14 := ⟨_, _, _, rfl, by decide, xi_M, rfl, Or.inl (x_in5 161 (by decide +kernel) rfl)⟩
set_option maxRecDepth 40000 in
theorem p_M_179 : x_fp "PaperFileModel" 179 10 14 (.array .byte) true := ⟨_, _, _, xt_M, rfl, by decide, xi_M, rfl, xt_M_ok, xn_M, rfl, by decide +kernel, fun _ => rfl, Or.inl (x_in5 161 (by decide +kernel) rfl)⟩
set_option maxRecDepth 40000 in
theorem f_M_387 : x_fl "PaperFileModel" 387 10 15 := ⟨_, _, _, rfl, by decide, xi_M, rfl, Or.inl (x_in5 162 (by decide +kernel) rfl)⟩
set_option maxRecDepth 40000 in
theorem p_M_387 : x_fp "PaperFileModel" 387 10 15 .int false := ⟨_, _, _, xt_M, rfl, by decide, xi_M, rfl, xt_M_ok, xn_M, rfl, by decide +kernel, (fun h => by cases h), Or.inl (x_in5 162 (by decide +kernel) rfl)⟩
set_option maxRecDepth 40000 in
theorem f_M_390 : x_fl "PaperFileModel" 390 10 16 := ⟨_, _, _, rfl, by decide, xi_M, rfl, Or.inl (x_in5 163 (by decide +kernel) rfl)⟩
set_option maxRecDepth 40000 in
theorem p_M_390 : x_fp "PaperFileModel" 390 10 16 .boolean false := ⟨_, _, _, xt_M, rfl, by decide, xi_M, rfl, xt_M_ok, xn_M, rfl, by decide +kernel, (fun h => by cases h), Or.inl (x_in5 163 (by decide +kernel) rfl)⟩
set_option maxRecDepth 40000 in
theorem f_M_182 : x_fl "PaperFileModel" 182 10 17 := ⟨_, _, _, rfl, by decide, xi_M, rfl, Or.inl (x_in5 164 (by decide +kernel) rfl)⟩
set_option maxRecDepth 40000 in
theorem p_M_182 : x_fp "PaperFileModel" 182 10 17 (.array .int) true := ⟨_, _, _, xt_M, rfl, by decide, xi_M, rfl, xt_M_ok, xn_M, rfl, by decide +kernel, fun _ => rfl, Or.inl (x_in5 164 (by decide +kernel) rfl)⟩
set_option maxRecDepth 40000 in
theorem f_M_186 : x_fl "PaperFileModel" 186 10 18 := ⟨_, _, _, rfl, by decide, xi_M, rfl, Or.inl (x_in5 165 (by decide +kernel) rfl)⟩
set_option maxRecDepth 40000 in
theorem p_M_186 : x_fp "PaperFileModel" 186 10 18 (.array .boolean) true := ⟨_, _, _, xt_M, rfl, by decide, xi_M, rfl, xt_M_ok, xn_M, rfl, by decide +kernel, fun _ => rfl, Or.inl (x_in5 165 (by decide +kernel) rfl)⟩
set_option maxRecDepth 40000 in
theorem f_M_190 : x_fl "PaperFileModel" 190 10 19 := ⟨_, _, _, rfl, by decide, xi_M, rfl, Or.inl (x_in5 166 (by decide +kernel) rfl)⟩
set_option maxRecDepth 40000 in
theorem p_M_190 : x_fp "PaperFileModel" 190 10 19 (.array .int) true := ⟨_, _, _, xt_M, rfl, by decide, xi_M, rfl, xt_M_ok, xn_M, rfl, by decide +kernel, fun _ => rfl, Or.inl (x_in5 166 (by decide +kernel) rfl)⟩
set_option maxRecDepth 40000 in
theorem f_M_443 : x_fl "PaperFileModel" 443 10 20 := ⟨_, _, _, rfl, by decide, xi_M, rfl, Or.inl (x_in5 167 (by decide +kernel) rfl)⟩
set_option maxRecDepth 40000 in
theorem p_M_443 : x_fp "PaperFileModel" 443 10 20 .int false := ⟨_, _, _, xt_M, rfl, by decide, xi_M, rfl, xt_M_ok, xn_M, rfl, by decide +kernel, (fun h => by cases h), Or.inl (x_in5 167 (by decide +kernel) rfl)⟩
set_option maxRecDepth 40000 in
theorem f_M_206 : x_fl "PaperFileModel" 206 11 0 := ⟨_, _, _, rfl, by decide, xi_MP, rfl, Or.inl (x_in5 234 (by decide +kernel) rfl)⟩
set_option maxRecDepth 40000 in
theorem p_M_206 : x_fp "PaperFileModel" 206 11 0 (.array .byte) false := ⟨_, _, _, xt_MP, rfl, by decide, xi_MP, rfl, xt_MP_ok, xn_MP, rfl, by decide +kernel, (fun h => by cases h), Or.inl (x_in5 234 (by decide +kernel) rfl)⟩
set_option maxRecDepth 40000 in
theorem f_M_224 : x_fl "PaperFileModel" 224 11 1 := ⟨_, _, _, rfl, by decide, xi_MP, rfl, Or.inl (x_in5 235 (by decide +kernel) rfl)⟩
set_option maxRecDepth 40000 in
theorem p_M_224 : x_fp "PaperFileModel" 224 11 1 .int false := ⟨_, _, _, xt_MP, rfl, by decide, xi_MP, rfl, xt_MP_ok, xn_MP, rfl, by decide +kernel, (fun h => by cases h), Or.inl (x_in5 235 (by decide +kernel) rfl)⟩
set_option maxRecDepth 40000 in
theorem f_M_221 : x_fl "PaperFileModel" 221 11 2 := ⟨_, _, _, rfl, by decide, xi_MP, rfl, Or.inl (x_in5 236 (by decide +kernel) rfl)⟩
set_option maxRecDepth 40000 in
theorem p_M_221 : x_fp "PaperFileModel" 221 11 2 .int false := ⟨_, _, _, xt_MP, rfl, by decide, xi_MP, rfl, xt_MP_ok, xn_MP, rfl, by decide +kernel, (fun h => by cases h), Or.inl (x_in5 236 (by decide +kernel) rfl)⟩
set_option maxRecDepth 40000 in
theorem f_M_264 : x_fl "PaperFileModel" 264 11 3 := ⟨_, _, _, rfl, by decide, xi_MP, rfl, Or.inl (x_in5 237 (by decide +kernel) rfl)⟩
set_option maxRecDepth 40000 in
theorem p_M_264 : x_fp "PaperFileModel" 264 11 3 (.object "PaperFileModel$Part") false := ⟨_, _, _, xt_MP, rfl, by decide, xi_MP, rfl, xt_MP_ok, xn_MP, rfl, by decide +kernel, (fun h => by cases h), Or.inl (x_in5 237 (by decide +kernel) rfl)⟩
set_option maxRecDepth 40000 in
theorem f_MP_9 : x_fl "PaperFileModel$Paper" 9 11 4 := ⟨_, _, _, rfl, by decide, xi_MP, rfl, Or.inl (x_in5 238 (by decide +kernel) rfl)⟩
set_option maxRecDepth 40000 in
theorem p_MP_9 : x_fp "PaperFileModel$Paper" 9 11 4 (.array .int) true := ⟨_, _, _, xt_MP, rfl, by decide, xi_MP, rfl, xt_MP_ok, xn_MP, rfl, by decide +kernel, fun _ => rfl, Or.inl (x_in5 238 (by decide +kernel) rfl)⟩
set_option maxRecDepth 40000 in
theorem f_M_267 : x_fl "PaperFileModel" 267 11 4 := ⟨_, _, _, rfl, by decide, xi_MP, rfl, Or.inl (x_in5 239 (by decide +kernel) rfl)⟩
set_option maxRecDepth 40000 in
theorem f_MP_15 : x_fl "PaperFileModel$Paper" 15 11 5 := ⟨_, _, _, rfl, by decide, xi_MP, rfl, Or.inl (x_in6 0 (by decide +kernel) rfl)⟩
set_option maxRecDepth 40000 in
theorem p_MP_15 : x_fp "PaperFileModel$Paper" 15 11 5 (.array .int) true := ⟨_, _, _, xt_MP, rfl, by decide, xi_MP, rfl, xt_MP_ok, xn_MP, rfl, by decide +kernel, fun _ => rfl, Or.inl (x_in6 0 (by decide +kernel) rfl)⟩
set_option maxRecDepth 40000 in
theorem f_M_278 : x_fl "PaperFileModel" 278 11 5 := ⟨_, _, _, rfl, by decide, xi_MP, rfl, Or.inl (x_in6 1 (by decide +kernel) rfl)⟩
set_option maxRecDepth 40000 in
theorem f_MP_18 : x_fl "PaperFileModel$Paper" 18 11 6 := ⟨_, _, _, rfl, by decide, xi_MP, rfl, Or.inl (x_in6 2 (by decide +kernel) rfl)⟩
set_option maxRecDepth 40000 in
theorem p_MP_18 : x_fp "PaperFileModel$Paper" 18 11 6 (.array .long) true := ⟨_, _, _, xt_MP, rfl, by decide, xi_MP, rfl, xt_MP_ok, xn_MP, rfl, by decide +kernel, fun _ => rfl, Or.inl (x_in6 2 (by decide +kernel) rfl)⟩
set_option maxRecDepth 40000 in
theorem f_M_274 : x_fl "PaperFileModel" 274 11 6 := ⟨_, _, _, rfl, by decide, xi_MP, rfl, Or.inl (x_in6 3 (by decide +kernel) rfl)⟩
set_option maxRecDepth 40000 in
theorem f_MP_24 : x_fl "PaperFileModel$Paper" 24 11 7 := ⟨_, _, _, rfl, by decide, xi_MP, rfl, Or.inl (x_in6 4 (by decide +kernel) rfl)⟩
set_option maxRecDepth 40000 in
theorem p_MP_24 : x_fp "PaperFileModel$Paper" 24 11 7 (.array (.object "PaperFileModel$Part")) true := ⟨_, _, _, xt_MP, rfl, by decide, xi_MP, rfl, xt_MP_ok, xn_MP, rfl, by decide +kernel, fun _ => rfl, Or.inl (x_in6 4 (by decide +kernel) rfl)⟩
set_option maxRecDepth 40000 in
theorem f_M_281 : x_fl "PaperFileModel" 281 11 7 := ⟨_, _, _, rfl, by decide, xi_MP, rfl, Or.inl (x_in6 5 (by decide +kernel) rfl)⟩
set_option maxRecDepth 40000 in
theorem f_MP_28 : x_fl "PaperFileModel$Paper" 28 11 8 := ⟨_, _, _, rfl, by decide, xi_MP, rfl, Or.inl (x_in6 6 (by decide +kernel) rfl)⟩
set_option maxRecDepth 40000 in
theorem p_MP_28 : x_fp "PaperFileModel$Paper" 28 11 8 (.array .boolean) true := ⟨_, _, _, xt_MP, rfl, by decide, xi_MP, rfl, xt_MP_ok, xn_MP, rfl, by decide +kernel, fun _ => rfl, Or.inl (x_in6 6 (by decide +kernel) rfl)⟩
set_option maxRecDepth 40000 in
theorem f_M_371 : x_fl "PaperFileModel" 371 11 8 := ⟨_, _, _, rfl, by decide, xi_MP, rfl, Or.inl (x_in6 7 (by decide +kernel) rfl)⟩
set_option maxRecDepth 40000 in
theorem f_M_266 : x_fl "PaperFileModel" 266 11 9 := ⟨_, _, _, rfl, by decide, xi_MP, rfl, Or.inl (x_in6 8 (by decide +kernel) rfl)⟩
set_option maxRecDepth 40000 in
theorem p_M_266 : x_fp "PaperFileModel" 266 11 9 .int false := ⟨_, _, _, xt_MP, rfl, by decide, xi_MP, rfl, xt_MP_ok, xn_MP, rfl, by decide +kernel, (fun h => by cases h), Or.inl (x_in6 8 (by decide +kernel) rfl)⟩
set_option maxRecDepth 40000 in
theorem f_MQ_9 : x_fl "PaperFileModel$Part" 9 12 0 := ⟨_, _, _, rfl, by decide, xi_MQ, rfl, Or.inl (x_in6 108 (by decide +kernel) rfl)⟩
set_option maxRecDepth 40000 in
theorem p_MQ_9 : x_fp "PaperFileModel$Part" 9 12 0 .int true := ⟨_, _, _, xt_MQ, rfl, by decide, xi_MQ, rfl, xt_MQ_ok, xn_MQ, rfl, by decide +kernel, fun _ => rfl, Or.inl (x_in6 108 (by decide +kernel) rfl)⟩
set_option maxRecDepth 40000 in
theorem f_M_261 : x_fl "PaperFileModel" 261 12 0 := ⟨_, _, _, rfl, by decide, xi_MQ, rfl, Or.inl (x_in6 109 (by decide +kernel) rfl)⟩
set_option maxRecDepth 40000 in
theorem f_M_95 : x_fl "PaperFileModel" 95 12 1 := ⟨_, _, _, rfl, by decide, xi_MQ, rfl, Or.inl (x_in6 110 (by decide +kernel) rfl)⟩
set_option maxRecDepth 40000 in
theorem p_M_95 : x_fp "PaperFileModel" 95 12 1 .int false := ⟨_, _, _, xt_MQ, rfl, by decide, xi_MQ, rfl, xt_MQ_ok, xn_MQ, rfl, by decide +kernel, (fun h => by cases h), Or.inl (x_in6 110 (by decide +kernel) rfl)⟩
set_option maxRecDepth 40000 in
theorem f_M_108 : x_fl "PaperFileModel" 108 12 2 := ⟨_, _, _, rfl, by decide, xi_MQ, rfl, Or.inl (x_in6 111 (by decide +kernel) rfl)⟩
set_option maxRecDepth 40000 in
theorem p_M_108 : x_fp "PaperFileModel" 108 12 2 .int false := ⟨_, _, _, xt_MQ, rfl, by decide, xi_MQ, rfl, xt_MQ_ok, xn_MQ, rfl, by decide +kernel, (fun h => by cases h), Or.inl (x_in6 111 (by decide +kernel) rfl)⟩
set_option maxRecDepth 40000 in
theorem f_MQ_15 : x_fl "PaperFileModel$Part" 15 12 3 := ⟨_, _, _, rfl, by decide, xi_MQ, rfl, Or.inl (x_in6 112 (by decide +kernel) rfl)⟩
set_option maxRecDepth 40000 in
theorem p_MQ_15 : x_fp "PaperFileModel$Part" 15 12 3 .int false := ⟨_, _, _, xt_MQ, rfl, by decide, xi_MQ, rfl, xt_MQ_ok, xn_MQ, rfl, by decide +kernel, (fun h => by cases h), Or.inl (x_in6 112 (by decide +kernel) rfl)⟩
set_option maxRecDepth 40000 in
theorem f_M_145 : x_fl "PaperFileModel" 145 12 3 := ⟨_, _, _, rfl, by decide, xi_MQ, rfl, Or.inl (x_in6 113 (by decide +kernel) rfl)⟩
set_option maxRecDepth 40000 in
theorem p_M_145 : x_fp "PaperFileModel" 145 12 3 .int false := ⟨_, _, _, xt_MQ, rfl, by decide, xi_MQ, rfl, xt_MQ_ok, xn_MQ, rfl, by decide +kernel, (fun h => by cases h), Or.inl (x_in6 113 (by decide +kernel) rfl)⟩
set_option maxRecDepth 40000 in
theorem f_MQ_43 : x_fl "PaperFileModel$Part" 43 12 4 := ⟨_, _, _, rfl, by decide, xi_MQ, rfl, Or.inl (x_in6 114 (by decide +kernel) rfl)⟩
set_option maxRecDepth 40000 in
theorem p_MQ_43 : x_fp "PaperFileModel$Part" 43 12 4 (.array .byte) false := ⟨_, _, _, xt_MQ, rfl, by decide, xi_MQ, rfl, xt_MQ_ok, xn_MQ, rfl, by decide +kernel, (fun h => by cases h), Or.inl (x_in6 114 (by decide +kernel) rfl)⟩
set_option maxRecDepth 40000 in
theorem f_M_119 : x_fl "PaperFileModel" 119 12 4 := ⟨_, _, _, rfl, by decide, xi_MQ, rfl, Or.inl (x_in6 115 (by decide +kernel) rfl)⟩
set_option maxRecDepth 40000 in
theorem p_M_119 : x_fp "PaperFileModel" 119 12 4 (.array .byte) false := ⟨_, _, _, xt_MQ, rfl, by decide, xi_MQ, rfl, xt_MQ_ok, xn_MQ, rfl, by decide +kernel, (fun h => by cases h), Or.inl (x_in6 115 (by decide +kernel) rfl)⟩
set_option maxRecDepth 40000 in
theorem f_MQ_18 : x_fl "PaperFileModel$Part" 18 12 5 := ⟨_, _, _, rfl, by decide, xi_MQ, rfl, Or.inl (x_in6 116 (by decide +kernel) rfl)⟩
set_option maxRecDepth 40000 in
theorem p_MQ_18 : x_fp "PaperFileModel$Part" 18 12 5 (.array (.object "PaperFileModel$Part")) false := ⟨_, _, _, xt_MQ, rfl, by decide, xi_MQ, rfl, xt_MQ_ok, xn_MQ, rfl, by decide +kernel, (fun h => by cases h), Or.inl (x_in6 116 (by decide +kernel) rfl)⟩
set_option maxRecDepth 40000 in
theorem f_M_141 : x_fl "PaperFileModel" 141 12 5 := ⟨_, _, _, rfl, by decide, xi_MQ, rfl, Or.inl (x_in6 117 (by decide +kernel) rfl)⟩
set_option maxRecDepth 40000 in
theorem p_M_141 : x_fp "PaperFileModel" 141 12 5 (.array (.object "PaperFileModel$Part")) false := ⟨_, _, _, xt_MQ, rfl, by decide, xi_MQ, rfl, xt_MQ_ok, xn_MQ, rfl, by decide +kernel, (fun h => by cases h), Or.inl (x_in6 117 (by decide +kernel) rfl)⟩
set_option maxRecDepth 40000 in
theorem f_MQ_26 : x_fl "PaperFileModel$Part" 26 12 6 := ⟨_, _, _, rfl, by decide, xi_MQ, rfl, Or.inl (x_in6 118 (by decide +kernel) rfl)⟩
set_option maxRecDepth 40000 in
theorem p_MQ_26 : x_fp "PaperFileModel$Part" 26 12 6 (.array (.array .byte)) false := ⟨_, _, _, xt_MQ, rfl, by decide, xi_MQ, rfl, xt_MQ_ok, xn_MQ, rfl, by decide +kernel, (fun h => by cases h), Or.inl (x_in6 118 (by decide +kernel) rfl)⟩
set_option maxRecDepth 40000 in
theorem f_M_156 : x_fl "PaperFileModel" 156 12 6 := ⟨_, _, _, rfl, by decide, xi_MQ, rfl, Or.inl (x_in6 119 (by decide +kernel) rfl)⟩
set_option maxRecDepth 40000 in
theorem p_M_156 : x_fp "PaperFileModel" 156 12 6 (.array (.array .byte)) false := ⟨_, _, _, xt_MQ, rfl, by decide, xi_MQ, rfl, xt_MQ_ok, xn_MQ, rfl, by decide +kernel, (fun h => by cases h), Or.inl (x_in6 119 (by decide +kernel) rfl)⟩
set_option maxRecDepth 40000 in
theorem k_Law_9 : x_ml "PaperFileLaw" 9 ⟨"PaperFile", "<init>", "()V"⟩ := Or.inl (x_in1 24 (by decide +kernel) rfl)
set_option maxRecDepth 40000 in
theorem k_PF_3 : x_ml "PaperFile" 3 ⟨"java/lang/Object", "<init>", "()V"⟩ := Or.inl (x_in1 27 (by decide +kernel) rfl)
set_option maxRecDepth 40000 in
theorem k_PF_11 : x_ml "PaperFile" 11 ⟨"PaperFile$Text", "<init>", "()V"⟩ := Or.inl (x_in1 32 (by decide +kernel) rfl)
set_option maxRecDepth 40000 in
theorem k_T_3 : x_ml "PaperFile$Text" 3 ⟨"java/lang/Object", "<init>", "()V"⟩ := Or.inl (x_in1 35 (by decide +kernel) rfl)
set_option maxRecDepth 40000 in
theorem k_T_21 : x_ml "PaperFile$Text" 21 ⟨"java/lang/String", "indexOf", "(I)I"⟩ := Or.inl (x_in1 37 (by decide +kernel) rfl)
set_option maxRecDepth 40000 in
theorem k_S_633 : x_ml "java/lang/String" 633 ⟨"java/lang/String", "indexOf", "(II)I"⟩ := Or.inl (x_in1 41 (by decide +kernel) rfl)
set_option maxRecDepth 40000 in
theorem k_S_492 : x_ml "java/lang/String" 492 ⟨"java/lang/String", "isLatin1", "()Z"⟩ := Or.inl (x_in1 45 (by decide +kernel) rfl)
set_option maxRecDepth 40000 in
theorem k_S_505 : x_ml "java/lang/String" 505 ⟨"java/lang/String", "length", "()I"⟩ := Or.inl (x_in1 51 (by decide +kernel) rfl)
set_option maxRecDepth 40000 in
theorem k_S_335 : x_ml "java/lang/String" 335 ⟨"java/lang/String", "coder", "()B"⟩ := Or.inl (x_in1 55 (by decide +kernel) rfl)
set_option maxRecDepth 40000 in
theorem k_S_637 : x_ml "java/lang/String" 637 ⟨"java/lang/StringLatin1", "indexOf", "([BIII)I"⟩ := Or.inl (x_in1 59 (by decide +kernel) rfl)
set_option maxRecDepth 40000 in
theorem k_SL_88 : x_ml "java/lang/StringLatin1" 88 ⟨"java/lang/StringLatin1", "canEncode", "(I)Z"⟩ := Or.inl (x_in1 62 (by decide +kernel) rfl)
set_option maxRecDepth 40000 in
theorem k_SL_92 : x_ml "java/lang/StringLatin1" 92 ⟨"java/lang/Math", "max", "(II)I"⟩ := Or.inl (x_in1 65 (by decide +kernel) rfl)
set_option maxRecDepth 40000 in
theorem k_SL_38 : x_ml "java/lang/StringLatin1" 38 ⟨"java/lang/Math", "min", "(II)I"⟩ := Or.inl (x_in1 68 (by decide +kernel) rfl)
set_option maxRecDepth 40000 in
theorem k_SL_95 : x_ml "java/lang/StringLatin1" 95 ⟨"java/lang/StringLatin1", "indexOfChar", "([BIII)I"⟩ := Or.inl (x_in1 71 (by decide +kernel) rfl)
set_option maxRecDepth 40000 in
theorem k_S_1062 : x_ml "java/lang/String" 1062 ⟨"jdk/internal/util/Preconditions", "checkFromToIndex", "(IIILjava/util/function/BiFunction;)I"⟩ := Or.inl (x_in1 94 (by decide +kernel) rfl)
set_option maxRecDepth 40000 in
theorem k_T_29 : x_ml "PaperFile$Text" 29 ⟨"java/lang/String", "length", "()I"⟩ := Or.inl (x_in1 124 (by decide +kernel) rfl)
set_option maxRecDepth 40000 in
theorem k_T_33 : x_ml "PaperFile$Text" 33 ⟨"java/lang/String", "charAt", "(I)C"⟩ := Or.inl (x_in1 125 (by decide +kernel) rfl)
set_option maxRecDepth 40000 in
theorem k_S_495 : x_ml "java/lang/String" 495 ⟨"java/lang/StringLatin1", "charAt", "([BI)C"⟩ := Or.inl (x_in1 129 (by decide +kernel) rfl)
set_option maxRecDepth 40000 in
theorem k_SL_9 : x_ml "java/lang/StringLatin1" 9 ⟨"java/lang/String", "checkIndex", "(II)V"⟩ := Or.inl (x_in1 132 (by decide +kernel) rfl)
set_option maxRecDepth 40000 in
theorem k_S_1059 : x_ml "java/lang/String" 1059 ⟨"jdk/internal/util/Preconditions", "checkIndex", "(IILjava/util/function/BiFunction;)I"⟩ := Or.inl (x_in1 135 (by decide +kernel) rfl)
set_option maxRecDepth 40000 in
theorem k_PF_18 : x_ml "PaperFile" 18 ⟨"PaperFile$Parts", "<init>", "(LPaperFile$Text;)V"⟩ := Or.inl (x_in1 169 (by decide +kernel) rfl)
set_option maxRecDepth 40000 in
theorem k_P_3 : x_ml "PaperFile$Parts" 3 ⟨"java/lang/Object", "<init>", "()V"⟩ := Or.inl (x_in1 172 (by decide +kernel) rfl)
set_option maxRecDepth 40000 in
theorem k_PF_27 : x_ml "PaperFile" 27 ⟨"PaperFile$Reader", "<init>", "(LPaperFile$Text;LPaperFile$Parts;)V"⟩ := Or.inl (x_in1 221 (by decide +kernel) rfl)
set_option maxRecDepth 40000 in
theorem k_R_3 : x_ml "PaperFile$Reader" 3 ⟨"java/lang/Object", "<init>", "()V"⟩ := Or.inl (x_in1 224 (by decide +kernel) rfl)
set_option maxRecDepth 40000 in
theorem k_PF_36 : x_ml "PaperFile" 36 ⟨"PaperFile$Opener", "<init>", "(LPaperFile$Text;LPaperFile$Parts;LPaperFile$Reader;)V"⟩ := Or.inl (x_in1 234 (by decide +kernel) rfl)
set_option maxRecDepth 40000 in
theorem k_O_3 : x_ml "PaperFile$Opener" 3 ⟨"java/lang/Object", "<init>", "()V"⟩ := Or.inl (x_in1 237 (by decide +kernel) rfl)
set_option maxRecDepth 40000 in
theorem k_PF_45 : x_ml "PaperFile" 45 ⟨"PaperFile$Writer", "<init>", "(LPaperFile$Text;LPaperFile$Parts;)V"⟩ := Or.inl (x_in2 37 (by decide +kernel) rfl)
set_option maxRecDepth 40000 in
theorem k_Wr_3 : x_ml "PaperFile$Writer" 3 ⟨"java/lang/Object", "<init>", "()V"⟩ := Or.inl (x_in2 40 (by decide +kernel) rfl)
set_option maxRecDepth 40000 in
theorem k_PF_52 : x_ml "PaperFile" 52 ⟨"PaperFile$Decoder", "<init>", "(LPaperFile$Text;LPaperFile$Parts;)V"⟩ := Or.inl (x_in2 59 (by decide +kernel) rfl)
set_option maxRecDepth 40000 in
theorem k_D_3 : x_ml "PaperFile$Decoder" 3 ⟨"java/lang/Object", "<init>", "()V"⟩ := Or.inl (x_in2 62 (by decide +kernel) rfl)
set_option maxRecDepth 40000 in
theorem k_D_11 : x_ml "PaperFile$Decoder" 11 ⟨"PaperFile$Pail", "<init>", "(I)V"⟩ := Or.inl (x_in2 65 (by decide +kernel) rfl)
set_option maxRecDepth 40000 in
theorem k_Pa_3 : x_ml "PaperFile$Pail" 3 ⟨"java/lang/Object", "<init>", "()V"⟩ := Or.inl (x_in2 68 (by decide +kernel) rfl)
set_option maxRecDepth 40000 in
theorem k_PF_59 : x_ml "PaperFile" 59 ⟨"PaperFile$PageWalk", "<init>", "(LPaperFile$Parts;)V"⟩ := Or.inl (x_in2 116 (by decide +kernel) rfl)
set_option maxRecDepth 40000 in
theorem k_PW_3 : x_ml "PaperFile$PageWalk" 3 ⟨"java/lang/Object", "<init>", "()V"⟩ := Or.inl (x_in2 119 (by decide +kernel) rfl)
set_option maxRecDepth 40000 in
theorem k_PF_68 : x_ml "PaperFile" 68 ⟨"PaperFile$Book", "<init>", "(LPaperFile$Parts;)V"⟩ := Or.inl (x_in2 140 (by decide +kernel) rfl)
set_option maxRecDepth 40000 in
theorem k_B_3 : x_ml "PaperFile$Book" 3 ⟨"java/lang/Object", "<init>", "()V"⟩ := Or.inl (x_in2 143 (by decide +kernel) rfl)
set_option maxRecDepth 40000 in
theorem k_PF_78 : x_ml "PaperFile" 78 ⟨"PaperFile$Pail", "<init>", "(I)V"⟩ := Or.inl (x_in2 208 (by decide +kernel) rfl)
set_option maxRecDepth 40000 in
theorem k_Law_13 : x_ml "PaperFileLaw" 13 ⟨"PaperFile", "feed", "(IIIII)I"⟩ := Or.inl (x_in3 6 (by decide +kernel) rfl)
set_option maxRecDepth 40000 in
theorem k_PF_92 : x_ml "PaperFile" 92 ⟨"PaperFile$Text", "tapeSize", "()I"⟩ := Or.inl (x_in3 10 (by decide +kernel) rfl)
set_option maxRecDepth 40000 in
theorem k_PF_96 : x_ml "PaperFile" 96 ⟨"PaperFile$Text", "hasRoom", "(I)Z"⟩ := Or.inl (x_in3 14 (by decide +kernel) rfl)
set_option maxRecDepth 40000 in
theorem k_PF_100 : x_ml "PaperFile" 100 ⟨"PaperFile$Text", "addFour", "(I)V"⟩ := Or.inl (x_in3 18 (by decide +kernel) rfl)
set_option maxRecDepth 40000 in
theorem k_Law_18 : x_ml "PaperFileLaw" 18 ⟨"PaperFile", "end", "(I)I"⟩ := Or.inl (x_in3 22 (by decide +kernel) rfl)
set_option maxRecDepth 40000 in
theorem k_PF_103 : x_ml "PaperFile" 103 ⟨"PaperFile$Text", "cutTape", "(I)V"⟩ := Or.inl (x_in3 26 (by decide +kernel) rfl)
set_option maxRecDepth 40000 in
theorem k_Law_23 : x_ml "PaperFileLaw" 23 ⟨"PaperFile", "open", "()I"⟩ := Or.inl (x_in3 30 (by decide +kernel) rfl)
set_option maxRecDepth 40000 in
theorem k_PF_109 : x_ml "PaperFile" 109 ⟨"PaperFile$Opener", "tablesFault", "(LPaperFile$Book;)I"⟩ := Or.inl (x_in3 34 (by decide +kernel) rfl)
set_option maxRecDepth 40000 in
theorem k_O_49 : x_ml "PaperFile$Opener" 49 ⟨"PaperFile$Book", "empty", "(II)V"⟩ := Or.inl (x_in3 38 (by decide +kernel) rfl)
set_option maxRecDepth 40000 in
theorem k_O_57 : x_ml "PaperFile$Opener" 57 ⟨"PaperFile$Text", "afterText", "(ILjava/lang/String;)I"⟩ := Or.inl (x_in3 43 (by decide +kernel) rfl)
set_option maxRecDepth 40000 in
theorem k_O_61 : x_ml "PaperFile$Opener" 61 ⟨"PaperFile$Text", "digits", "(II)J"⟩ := Or.inl (x_in3 47 (by decide +kernel) rfl)
set_option maxRecDepth 40000 in
theorem k_T_44 : x_ml "PaperFile$Text" 44 ⟨"PaperFile$Text", "byteAt", "(I)I"⟩ := Or.inl (x_in3 51 (by decide +kernel) rfl)
set_option maxRecDepth 40000 in
theorem k_O_65 : x_ml "PaperFile$Opener" 65 ⟨"PaperFile$Opener", "lastPlace", "()I"⟩ := Or.inl (x_in3 58 (by decide +kernel) rfl)
set_option maxRecDepth 40000 in
theorem k_O_85 : x_ml "PaperFile$Opener" 85 ⟨"java/lang/String", "length", "()I"⟩ := Or.inl (x_in3 63 (by decide +kernel) rfl)
set_option maxRecDepth 40000 in
theorem k_O_90 : x_ml "PaperFile$Opener" 90 ⟨"PaperFile$Text", "afterWord", "(I)I"⟩ := Or.inl (x_in3 64 (by decide +kernel) rfl)
set_option maxRecDepth 40000 in
theorem k_O_94 : x_ml "PaperFile$Opener" 94 ⟨"PaperFile$Text", "afterByte", "(II)I"⟩ := Or.inl (x_in3 68 (by decide +kernel) rfl)
set_option maxRecDepth 40000 in
theorem k_O_100 : x_ml "PaperFile$Opener" 100 ⟨"PaperFile$Text", "number", "(I)I"⟩ := Or.inl (x_in3 73 (by decide +kernel) rfl)
set_option maxRecDepth 40000 in
theorem k_O_72 : x_ml "PaperFile$Opener" 72 ⟨"PaperFile$Opener", "readTable", "(I)Z"⟩ := Or.inl (x_in3 77 (by decide +kernel) rfl)
set_option maxRecDepth 40000 in
theorem k_O_103 : x_ml "PaperFile$Opener" 103 ⟨"PaperFile$Text", "tapeSize", "()I"⟩ := Or.inl (x_in3 81 (by decide +kernel) rfl)
set_option maxRecDepth 40000 in
theorem k_O_111 : x_ml "PaperFile$Opener" 111 ⟨"PaperFile$Text", "afterThe", "(ILjava/lang/String;)I"⟩ := Or.inl (x_in3 83 (by decide +kernel) rfl)
set_option maxRecDepth 40000 in
theorem k_T_47 : x_ml "PaperFile$Text" 47 ⟨"PaperFile$Text", "afterText", "(ILjava/lang/String;)I"⟩ := Or.inl (x_in3 87 (by decide +kernel) rfl)
set_option maxRecDepth 40000 in
theorem k_O_114 : x_ml "PaperFile$Opener" 114 ⟨"PaperFile$Opener", "readSection", "(II)I"⟩ := Or.inl (x_in3 88 (by decide +kernel) rfl)
set_option maxRecDepth 40000 in
theorem k_O_122 : x_ml "PaperFile$Opener" 122 ⟨"PaperFile$Opener", "readEntry", "(III)Z"⟩ := Or.inl (x_in3 92 (by decide +kernel) rfl)
set_option maxRecDepth 40000 in
theorem k_O_130 : x_ml "PaperFile$Opener" 130 ⟨"PaperFile$Text", "byteAt", "(I)I"⟩ := Or.inl (x_in3 98 (by decide +kernel) rfl)
set_option maxRecDepth 40000 in
theorem k_O_136 : x_ml "PaperFile$Opener" 136 ⟨"java/lang/Math", "min", "(JJ)J"⟩ := Or.inl (x_in3 99 (by decide +kernel) rfl)
set_option maxRecDepth 40000 in
theorem k_O_149 : x_ml "PaperFile$Opener" 149 ⟨"java/lang/Math", "max", "(II)I"⟩ := Or.inl (x_in3 102 (by decide +kernel) rfl)
set_option maxRecDepth 40000 in
theorem k_O_76 : x_ml "PaperFile$Opener" 76 ⟨"PaperFile$Opener", "readTrailer", "(I)Z"⟩ := Or.inl (x_in3 104 (by decide +kernel) rfl)
set_option maxRecDepth 40000 in
theorem k_O_157 : x_ml "PaperFile$Opener" 157 ⟨"PaperFile$Reader", "read", "(II)I"⟩ := Or.inr ⟨"PaperFile", by decide⟩
set_option maxRecDepth 40000 in
theorem k_R_19 : x_ml "PaperFile$Reader" 19 ⟨"PaperFile$Text", "byteAt", "(I)I"⟩ := Or.inl (x_in3 112 (by decide +kernel) rfl)
set_option maxRecDepth 40000 in
theorem k_R_25 : x_ml "PaperFile$Reader" 25 ⟨"PaperFile$Reader", "readArray", "(II)I"⟩ := Or.inl (x_in3 113 (by decide +kernel) rfl)
set_option maxRecDepth 40000 in
theorem k_R_44 : x_ml "PaperFile$Reader" 44 ⟨"PaperFile$Parts", "add", "(III)I"⟩ := Or.inl (x_in3 117 (by decide +kernel) rfl)
set_option maxRecDepth 40000 in
theorem k_R_50 : x_ml "PaperFile$Reader" 50 ⟨"PaperFile$Text", "afterWhite", "(I)I"⟩ := Or.inl (x_in3 121 (by decide +kernel) rfl)
set_option maxRecDepth 40000 in
theorem k_R_53 : x_ml "PaperFile$Reader" 53 ⟨"PaperFile$Parts", "close", "(I)V"⟩ := Or.inl (x_in3 125 (by decide +kernel) rfl)
set_option maxRecDepth 40000 in
theorem k_R_57 : x_ml "PaperFile$Reader" 57 ⟨"PaperFile$Reader", "read", "(II)I"⟩ := Or.inl (x_in3 129 (by decide +kernel) rfl)
set_option maxRecDepth 40000 in
theorem k_R_29 : x_ml "PaperFile$Reader" 29 ⟨"PaperFile$Reader", "readString", "(I)I"⟩ := Or.inl (x_in3 130 (by decide +kernel) rfl)
set_option maxRecDepth 40000 in
theorem k_R_84 : x_ml "PaperFile$Reader" 84 ⟨"PaperFile$Reader", "added", "(IIII)I"⟩ := Or.inl (x_in3 134 (by decide +kernel) rfl)
set_option maxRecDepth 40000 in
theorem k_R_88 : x_ml "PaperFile$Reader" 88 ⟨"PaperFile$Text", "signSize", "(I)I"⟩ := Or.inl (x_in3 138 (by decide +kernel) rfl)
set_option maxRecDepth 40000 in
theorem k_T_63 : x_ml "PaperFile$Text" 63 ⟨"PaperFile$Text", "octal", "(I)I"⟩ := Or.inl (x_in3 142 (by decide +kernel) rfl)
set_option maxRecDepth 40000 in
theorem k_R_32 : x_ml "PaperFile$Reader" 32 ⟨"PaperFile$Reader", "readDict", "(II)I"⟩ := Or.inl (x_in3 146 (by decide +kernel) rfl)
set_option maxRecDepth 40000 in
theorem k_R_62 : x_ml "PaperFile$Reader" 62 ⟨"PaperFile$Text", "afterText", "(ILjava/lang/String;)I"⟩ := Or.inl (x_in3 151 (by decide +kernel) rfl)
set_option maxRecDepth 40000 in
theorem k_R_66 : x_ml "PaperFile$Reader" 66 ⟨"PaperFile$Parts", "hasNameOf", "(II)Z"⟩ := Or.inl (x_in3 152 (by decide +kernel) rfl)
set_option maxRecDepth 40000 in
theorem k_P_72 : x_ml "PaperFile$Parts" 72 ⟨"PaperFile$Text", "sameWord", "(II)Z"⟩ := Or.inl (x_in3 156 (by decide +kernel) rfl)
set_option maxRecDepth 40000 in
theorem k_T_51 : x_ml "PaperFile$Text" 51 ⟨"PaperFile$Text", "afterWord", "(I)I"⟩ := Or.inl (x_in3 160 (by decide +kernel) rfl)
set_option maxRecDepth 40000 in
theorem k_P_49 : x_ml "PaperFile$Parts" 49 ⟨"PaperFile$Parts", "behind", "(I)I"⟩ := Or.inl (x_in3 161 (by decide +kernel) rfl)
set_option maxRecDepth 40000 in
theorem k_P_43 : x_ml "PaperFile$Parts" 43 ⟨"java/lang/Math", "max", "(II)I"⟩ := Or.inl (x_in3 165 (by decide +kernel) rfl)
set_option maxRecDepth 40000 in
theorem k_R_70 : x_ml "PaperFile$Reader" 70 ⟨"PaperFile$Reader", "readNamed", "(II)I"⟩ := Or.inl (x_in3 166 (by decide +kernel) rfl)
set_option maxRecDepth 40000 in
theorem k_R_77 : x_ml "PaperFile$Reader" 77 ⟨"PaperFile$Text", "afterName", "(I)I"⟩ := Or.inl (x_in3 170 (by decide +kernel) rfl)
set_option maxRecDepth 40000 in
theorem k_R_35 : x_ml "PaperFile$Reader" 35 ⟨"PaperFile$Reader", "readPairs", "(I)I"⟩ := Or.inl (x_in3 174 (by decide +kernel) rfl)
set_option maxRecDepth 40000 in
theorem k_R_91 : x_ml "PaperFile$Reader" 91 ⟨"PaperFile$Text", "pair", "(I)I"⟩ := Or.inl (x_in3 178 (by decide +kernel) rfl)
set_option maxRecDepth 40000 in
theorem k_T_60 : x_ml "PaperFile$Text" 60 ⟨"PaperFile", "hexDigit", "(I)I"⟩ := Or.inr ⟨"PaperFile", by decide⟩
set_option maxRecDepth 40000 in
theorem k_R_38 : x_ml "PaperFile$Reader" 38 ⟨"PaperFile$Reader", "readName", "(I)I"⟩ := Or.inl (x_in3 185 (by decide +kernel) rfl)
set_option maxRecDepth 40000 in
theorem k_R_41 : x_ml "PaperFile$Reader" 41 ⟨"PaperFile$Reader", "readWord", "(I)I"⟩ := Or.inl (x_in3 189 (by decide +kernel) rfl)
set_option maxRecDepth 40000 in
theorem k_R_94 : x_ml "PaperFile$Reader" 94 ⟨"PaperFile$Text", "number", "(I)I"⟩ := Or.inl (x_in3 193 (by decide +kernel) rfl)
set_option maxRecDepth 40000 in
theorem k_R_97 : x_ml "PaperFile$Reader" 97 ⟨"PaperFile$Reader", "readConstant", "(I)I"⟩ := Or.inl (x_in3 194 (by decide +kernel) rfl)
set_option maxRecDepth 40000 in
theorem k_R_108 : x_ml "PaperFile$Reader" 108 ⟨"PaperFile$Text", "afterThe", "(ILjava/lang/String;)I"⟩ := Or.inl (x_in3 199 (by decide +kernel) rfl)
set_option maxRecDepth 40000 in
theorem k_R_100 : x_ml "PaperFile$Reader" 100 ⟨"PaperFile$Text", "afterWord", "(I)I"⟩ := Or.inl (x_in3 202 (by decide +kernel) rfl)
set_option maxRecDepth 40000 in
theorem k_R_103 : x_ml "PaperFile$Reader" 103 ⟨"PaperFile$Reader", "readRef", "(II)I"⟩ := Or.inl (x_in3 203 (by decide +kernel) rfl)
set_option maxRecDepth 40000 in
theorem k_O_167 : x_ml "PaperFile$Opener" 167 ⟨"PaperFile$Parts", "named", "(ILjava/lang/String;)I"⟩ := Or.inl (x_in3 210 (by decide +kernel) rfl)
set_option maxRecDepth 40000 in
theorem k_P_53 : x_ml "PaperFile$Parts" 53 ⟨"PaperFile$Text", "afterThe", "(ILjava/lang/String;)I"⟩ := Or.inl (x_in3 214 (by decide +kernel) rfl)
set_option maxRecDepth 40000 in
theorem k_PF_113 : x_ml "PaperFile" 113 ⟨"PaperFile$Opener", "objectsStand", "()Z"⟩ := Or.inl (x_in3 216 (by decide +kernel) rfl)
set_option maxRecDepth 40000 in
theorem k_O_183 : x_ml "PaperFile$Opener" 183 ⟨"PaperFile$Opener", "readObject", "(I)Z"⟩ := Or.inl (x_in3 220 (by decide +kernel) rfl)
set_option maxRecDepth 40000 in
theorem k_O_189 : x_ml "PaperFile$Opener" 189 ⟨"PaperFile$Opener", "valueAt", "(I)I"⟩ := Or.inl (x_in3 224 (by decide +kernel) rfl)
set_option maxRecDepth 40000 in
theorem k_O_192 : x_ml "PaperFile$Opener" 192 ⟨"PaperFile$Text", "afterWhite", "(I)I"⟩ := Or.inl (x_in3 229 (by decide +kernel) rfl)
set_option maxRecDepth 40000 in
theorem k_O_186 : x_ml "PaperFile$Opener" 186 ⟨"PaperFile$Opener", "readStream", "(I)Z"⟩ := Or.inl (x_in3 232 (by decide +kernel) rfl)
set_option maxRecDepth 40000 in
theorem k_O_203 : x_ml "PaperFile$Opener" 203 ⟨"PaperFile$Opener", "lengthOf", "(I)I"⟩ := Or.inl (x_in3 236 (by decide +kernel) rfl)
set_option maxRecDepth 40000 in
theorem k_O_213 : x_ml "PaperFile$Opener" 213 ⟨"PaperFile$Book", "leadsTo", "(I)I"⟩ := Or.inl (x_in4 1 (by decide +kernel) rfl)
set_option maxRecDepth 40000 in
theorem k_B_53 : x_ml "PaperFile$Book" 53 ⟨"PaperFile$Book", "isUsed", "(I)Z"⟩ := Or.inl (x_in4 5 (by decide +kernel) rfl)
set_option maxRecDepth 40000 in
theorem k_PF_117 : x_ml "PaperFile" 117 ⟨"PaperFile$Text", "dropTape", "()V"⟩ := Or.inl (x_in4 10 (by decide +kernel) rfl)
set_option maxRecDepth 40000 in
theorem k_PF_120 : x_ml "PaperFile" 120 ⟨"PaperFile$Parts", "cut", "(II)V"⟩ := Or.inl (x_in4 14 (by decide +kernel) rfl)
set_option maxRecDepth 40000 in
theorem k_P_79 : x_ml "PaperFile$Parts" 79 ⟨"java/lang/System", "arraycopy", "(Ljava/lang/Object;ILjava/lang/Object;II)V"⟩ := Or.inl (x_in4 18 (by decide +kernel) rfl)
set_option maxRecDepth 40000 in
theorem k_PF_124 : x_ml "PaperFile" 124 ⟨"PaperFile$Book", "closeGap", "(II)V"⟩ := Or.inl (x_in4 21 (by decide +kernel) rfl)
set_option maxRecDepth 40000 in
theorem k_PF_127 : x_ml "PaperFile" 127 ⟨"PaperFile$Text", "keepTape", "()V"⟩ := Or.inl (x_in4 25 (by decide +kernel) rfl)
set_option maxRecDepth 40000 in
theorem k_Law_28 : x_ml "PaperFileLaw" 28 ⟨"PaperFile", "go", "(I)I"⟩ := Or.inl (x_in4 29 (by decide +kernel) rfl)
set_option maxRecDepth 40000 in
theorem k_PF_130 : x_ml "PaperFile" 130 ⟨"PaperFile$Book", "isUsed", "(I)Z"⟩ := Or.inl (x_in4 33 (by decide +kernel) rfl)
set_option maxRecDepth 40000 in
theorem k_PF_137 : x_ml "PaperFile" 137 ⟨"PaperFile", "pointAt", "(I)I"⟩ := Or.inl (x_in4 34 (by decide +kernel) rfl)
set_option maxRecDepth 40000 in
theorem k_Law_32 : x_ml "PaperFileLaw" 32 ⟨"PaperFile", "trailer", "()I"⟩ := Or.inl (x_in4 38 (by decide +kernel) rfl)
set_option maxRecDepth 40000 in
theorem k_PF_141 : x_ml "PaperFile" 141 ⟨"PaperFile$Book", "isOpen", "()Z"⟩ := Or.inl (x_in4 42 (by decide +kernel) rfl)
set_option maxRecDepth 40000 in
theorem k_Law_36 : x_ml "PaperFileLaw" 36 ⟨"PaperFile", "item", "(I)I"⟩ := Or.inl (x_in4 46 (by decide +kernel) rfl)
set_option maxRecDepth 40000 in
theorem k_PF_147 : x_ml "PaperFile" 147 ⟨"PaperFile$Parts", "itemAt", "(II)I"⟩ := Or.inl (x_in4 50 (by decide +kernel) rfl)
set_option maxRecDepth 40000 in
theorem k_Law_40 : x_ml "PaperFileLaw" 40 ⟨"PaperFile", "find", "()I"⟩ := Or.inl (x_in4 54 (by decide +kernel) rfl)
set_option maxRecDepth 40000 in
theorem k_PF_151 : x_ml "PaperFile" 151 ⟨"PaperFile$Parts", "namedByTape", "(I)I"⟩ := Or.inl (x_in4 58 (by decide +kernel) rfl)
set_option maxRecDepth 40000 in
theorem k_P_68 : x_ml "PaperFile$Parts" 68 ⟨"PaperFile$Text", "tapeIsWord", "(I)Z"⟩ := Or.inl (x_in4 62 (by decide +kernel) rfl)
set_option maxRecDepth 40000 in
theorem k_T_66 : x_ml "PaperFile$Text" 66 ⟨"PaperFile$Text", "tapeSize", "()I"⟩ := Or.inl (x_in4 66 (by decide +kernel) rfl)
set_option maxRecDepth 40000 in
theorem k_T_69 : x_ml "PaperFile$Text" 69 ⟨"PaperFile$Text", "sameWord", "(II)Z"⟩ := Or.inl (x_in4 67 (by decide +kernel) rfl)
set_option maxRecDepth 40000 in
theorem k_Law_44 : x_ml "PaperFileLaw" 44 ⟨"PaperFile", "follow", "()I"⟩ := Or.inl (x_in4 68 (by decide +kernel) rfl)
set_option maxRecDepth 40000 in
theorem k_PF_154 : x_ml "PaperFile" 154 ⟨"PaperFile$Book", "leadsTo", "(I)I"⟩ := Or.inl (x_in4 72 (by decide +kernel) rfl)
set_option maxRecDepth 40000 in
theorem k_Law_48 : x_ml "PaperFileLaw" 48 ⟨"PaperFile", "look", "(I)I"⟩ := Or.inl (x_in4 73 (by decide +kernel) rfl)
set_option maxRecDepth 40000 in
theorem k_PF_160 : x_ml "PaperFile" 160 ⟨"PaperFile$Parts", "measure", "(I)I"⟩ := Or.inl (x_in4 77 (by decide +kernel) rfl)
set_option maxRecDepth 40000 in
theorem k_P_76 : x_ml "PaperFile$Parts" 76 ⟨"PaperFile$Parts", "items", "(I)I"⟩ := Or.inl (x_in4 81 (by decide +kernel) rfl)
set_option maxRecDepth 40000 in
theorem k_PF_163 : x_ml "PaperFile" 163 ⟨"PaperFile$Parts", "secondMeasure", "(I)I"⟩ := Or.inl (x_in4 85 (by decide +kernel) rfl)
set_option maxRecDepth 40000 in
theorem k_Law_52 : x_ml "PaperFileLaw" 52 ⟨"PaperFile", "bytes", "(I)I"⟩ := Or.inl (x_in4 89 (by decide +kernel) rfl)
set_option maxRecDepth 40000 in
theorem k_PF_166 : x_ml "PaperFile" 166 ⟨"PaperFile$Pail", "start", "(I)V"⟩ := Or.inl (x_in4 93 (by decide +kernel) rfl)
set_option maxRecDepth 40000 in
theorem k_Pa_23 : x_ml "PaperFile$Pail" 23 ⟨"java/lang/Math", "min", "(II)I"⟩ := Or.inl (x_in4 97 (by decide +kernel) rfl)
set_option maxRecDepth 40000 in
theorem k_PF_175 : x_ml "PaperFile" 175 ⟨"PaperFile$Pail", "addString", "(LPaperFile$Text;IIZ)V"⟩ := Or.inl (x_in4 98 (by decide +kernel) rfl)
set_option maxRecDepth 40000 in
theorem k_Pa_68 : x_ml "PaperFile$Pail" 68 ⟨"PaperFile$Text", "byteAt", "(I)I"⟩ := Or.inl (x_in4 102 (by decide +kernel) rfl)
set_option maxRecDepth 40000 in
theorem k_Pa_73 : x_ml "PaperFile$Pail" 73 ⟨"PaperFile$Text", "signSize", "(I)I"⟩ := Or.inl (x_in4 103 (by decide +kernel) rfl)
set_option maxRecDepth 40000 in
theorem k_Pa_76 : x_ml "PaperFile$Pail" 76 ⟨"PaperFile$Text", "pair", "(I)I"⟩ := Or.inl (x_in4 104 (by decide +kernel) rfl)
set_option maxRecDepth 40000 in
theorem k_Pa_79 : x_ml "PaperFile$Pail" 79 ⟨"PaperFile$Text", "sign", "(II)I"⟩ := Or.inl (x_in4 105 (by decide +kernel) rfl)
set_option maxRecDepth 40000 in
theorem k_Pa_44 : x_ml "PaperFile$Pail" 44 ⟨"java/lang/String", "charAt", "(I)C"⟩ := Or.inl (x_in4 110 (by decide +kernel) rfl)
set_option maxRecDepth 40000 in
theorem k_Pa_48 : x_ml "PaperFile$Pail" 48 ⟨"PaperFile$Pail", "add", "(I)V"⟩ := Or.inl (x_in4 111 (by decide +kernel) rfl)
set_option maxRecDepth 40000 in
theorem k_PF_182 : x_ml "PaperFile" 182 ⟨"PaperFile", "outBecomes", "(II)I"⟩ := Or.inl (x_in4 115 (by decide +kernel) rfl)
set_option maxRecDepth 40000 in
theorem k_PF_204 : x_ml "PaperFile" 204 ⟨"PaperFile$Pail", "addRow", "([BII)V"⟩ := Or.inl (x_in4 119 (by decide +kernel) rfl)
set_option maxRecDepth 40000 in
theorem k_Pa_32 : x_ml "PaperFile$Pail" 32 ⟨"java/lang/System", "arraycopy", "(Ljava/lang/Object;ILjava/lang/Object;II)V"⟩ := Or.inl (x_in4 123 (by decide +kernel) rfl)
set_option maxRecDepth 40000 in
theorem k_PF_188 : x_ml "PaperFile" 188 ⟨"PaperFile$Text", "afterWord", "(I)I"⟩ := Or.inl (x_in4 124 (by decide +kernel) rfl)
set_option maxRecDepth 40000 in
theorem k_Law_56 : x_ml "PaperFileLaw" 56 ⟨"PaperFile", "decode", "()I"⟩ := Or.inl (x_in4 125 (by decide +kernel) rfl)
set_option maxRecDepth 40000 in
theorem k_PF_191 : x_ml "PaperFile" 191 ⟨"PaperFile$Decoder", "run", "(I)Z"⟩ := Or.inl (x_in4 129 (by decide +kernel) rfl)
set_option maxRecDepth 40000 in
theorem k_D_58 : x_ml "PaperFile$Decoder" 58 ⟨"PaperFile$Parts", "named", "(ILjava/lang/String;)I"⟩ := Or.inl (x_in4 134 (by decide +kernel) rfl)
set_option maxRecDepth 40000 in
theorem k_D_65 : x_ml "PaperFile$Decoder" 65 ⟨"PaperFile$Parts", "behind", "(I)I"⟩ := Or.inl (x_in4 135 (by decide +kernel) rfl)
set_option maxRecDepth 40000 in
theorem k_D_69 : x_ml "PaperFile$Decoder" 69 ⟨"PaperFile$Decoder", "pass", "(I)Z"⟩ := Or.inl (x_in4 136 (by decide +kernel) rfl)
set_option maxRecDepth 40000 in
theorem k_D_73 : x_ml "PaperFile$Decoder" 73 ⟨"PaperFile$Pail", "start", "(I)V"⟩ := Or.inl (x_in4 140 (by decide +kernel) rfl)
set_option maxRecDepth 40000 in
theorem k_D_76 : x_ml "PaperFile$Decoder" 76 ⟨"PaperFile$Decoder", "passNamed", "(I)Z"⟩ := Or.inl (x_in4 141 (by decide +kernel) rfl)
set_option maxRecDepth 40000 in
theorem k_D_89 : x_ml "PaperFile$Decoder" 89 ⟨"PaperFile$Parts", "isName", "(ILjava/lang/String;)Z"⟩ := Or.inl (x_in4 146 (by decide +kernel) rfl)
set_option maxRecDepth 40000 in
theorem k_P_59 : x_ml "PaperFile$Parts" 59 ⟨"java/lang/String", "length", "()I"⟩ := Or.inl (x_in4 150 (by decide +kernel) rfl)
set_option maxRecDepth 40000 in
theorem k_P_65 : x_ml "PaperFile$Parts" 65 ⟨"PaperFile$Text", "afterText", "(ILjava/lang/String;)I"⟩ := Or.inl (x_in4 151 (by decide +kernel) rfl)
set_option maxRecDepth 40000 in
theorem k_D_93 : x_ml "PaperFile$Decoder" 93 ⟨"PaperFile$Decoder", "passHex", "()Z"⟩ := Or.inl (x_in4 152 (by decide +kernel) rfl)
set_option maxRecDepth 40000 in
theorem k_D_107 : x_ml "PaperFile$Decoder" 107 ⟨"PaperFile", "hexDigit", "(I)I"⟩ := Or.inr ⟨"PaperFile", by decide⟩
set_option maxRecDepth 40000 in
theorem k_D_110 : x_ml "PaperFile$Decoder" 110 ⟨"PaperFile$Pail", "add", "(I)V"⟩ := Or.inl (x_in4 157 (by decide +kernel) rfl)
set_option maxRecDepth 40000 in
theorem k_D_99 : x_ml "PaperFile$Decoder" 99 ⟨"PaperFile$Decoder", "passRuns", "()Z"⟩ := Or.inl (x_in4 159 (by decide +kernel) rfl)
set_option maxRecDepth 40000 in
theorem k_D_113 : x_ml "PaperFile$Decoder" 113 ⟨"PaperFile$Pail", "addRow", "([BII)V"⟩ := Or.inl (x_in4 163 (by decide +kernel) rfl)
set_option maxRecDepth 40000 in
theorem k_D_104 : x_ml "PaperFile$Decoder" 104 ⟨"PaperFile$Decoder", "passBase85", "()Z"⟩ := Or.inl (x_in4 165 (by decide +kernel) rfl)
set_option maxRecDepth 40000 in
theorem k_D_117 : x_ml "PaperFile$Decoder" 117 ⟨"java/lang/Math", "min", "(II)I"⟩ := Or.inl (x_in4 169 (by decide +kernel) rfl)
set_option maxRecDepth 40000 in
theorem k_D_123 : x_ml "PaperFile$Decoder" 123 ⟨"PaperFile$Decoder", "passZeros", "()Z"⟩ := Or.inl (x_in4 170 (by decide +kernel) rfl)
set_option maxRecDepth 40000 in
theorem k_D_126 : x_ml "PaperFile$Decoder" 126 ⟨"PaperFile$Decoder", "passGroup", "(II)Z"⟩ := Or.inl (x_in4 174 (by decide +kernel) rfl)
set_option maxRecDepth 40000 in
theorem k_Law_60 : x_ml "PaperFileLaw" 60 ⟨"PaperFile", "octet", "(I)I"⟩ := Or.inl (x_in4 180 (by decide +kernel) rfl)
set_option maxRecDepth 40000 in
theorem k_Law_64 : x_ml "PaperFileLaw" 64 ⟨"PaperFile", "put", "(I)I"⟩ := Or.inl (x_in4 184 (by decide +kernel) rfl)
set_option maxRecDepth 40000 in
theorem k_PF_211 : x_ml "PaperFile" 211 ⟨"PaperFile", "whyNot", "(I)I"⟩ := Or.inl (x_in4 188 (by decide +kernel) rfl)
set_option maxRecDepth 40000 in
theorem k_PF_215 : x_ml "PaperFile" 215 ⟨"PaperFile$Text", "afterWhite", "(I)I"⟩ := Or.inl (x_in4 192 (by decide +kernel) rfl)
set_option maxRecDepth 40000 in
theorem k_PF_218 : x_ml "PaperFile" 218 ⟨"PaperFile$Reader", "read", "(II)I"⟩ := Or.inr ⟨"PaperFile", by decide⟩
set_option maxRecDepth 40000 in
theorem k_PF_222 : x_ml "PaperFile" 222 ⟨"PaperFile$Book", "partsBut", "(I)I"⟩ := Or.inl (x_in4 194 (by decide +kernel) rfl)
set_option maxRecDepth 40000 in
theorem k_PF_225 : x_ml "PaperFile" 225 ⟨"PaperFile", "change", "(IIZ)I"⟩ := Or.inl (x_in4 198 (by decide +kernel) rfl)
set_option maxRecDepth 40000 in
theorem k_PF_281 : x_ml "PaperFile" 281 ⟨"PaperFile$Book", "take", "(IIZ)V"⟩ := Or.inl (x_in4 202 (by decide +kernel) rfl)
set_option maxRecDepth 40000 in
theorem k_B_63 : x_ml "PaperFile$Book" 63 ⟨"java/lang/Math", "max", "(II)I"⟩ := Or.inl (x_in4 206 (by decide +kernel) rfl)
set_option maxRecDepth 40000 in
theorem k_B_69 : x_ml "PaperFile$Book" 69 ⟨"PaperFile$Book", "forget", "(I)V"⟩ := Or.inl (x_in4 207 (by decide +kernel) rfl)
set_option maxRecDepth 40000 in
theorem k_B_74 : x_ml "PaperFile$Book" 74 ⟨"PaperFile$Parts", "cut", "(II)V"⟩ := Or.inl (x_in4 211 (by decide +kernel) rfl)
set_option maxRecDepth 40000 in
theorem k_B_78 : x_ml "PaperFile$Book" 78 ⟨"PaperFile$Book", "closeGap", "(II)V"⟩ := Or.inl (x_in4 212 (by decide +kernel) rfl)
set_option maxRecDepth 40000 in
theorem k_PF_229 : x_ml "PaperFile" 229 ⟨"PaperFile", "refuse", "(II)I"⟩ := Or.inl (x_in4 213 (by decide +kernel) rfl)
set_option maxRecDepth 40000 in
theorem k_Law_68 : x_ml "PaperFileLaw" 68 ⟨"PaperFile", "pour", "(I)I"⟩ := Or.inl (x_in4 217 (by decide +kernel) rfl)
set_option maxRecDepth 40000 in
theorem k_PF_232 : x_ml "PaperFile" 232 ⟨"PaperFile$Book", "pouredBut", "(I)I"⟩ := Or.inl (x_in4 221 (by decide +kernel) rfl)
set_option maxRecDepth 40000 in
theorem k_PF_235 : x_ml "PaperFile" 235 ⟨"PaperFile$Parts", "addPoured", "(II)Z"⟩ := Or.inl (x_in4 225 (by decide +kernel) rfl)
set_option maxRecDepth 40000 in
theorem k_P_35 : x_ml "PaperFile$Parts" 35 ⟨"PaperFile$Parts", "add", "(III)I"⟩ := Or.inl (x_in4 229 (by decide +kernel) rfl)
set_option maxRecDepth 40000 in
theorem k_P_39 : x_ml "PaperFile$Parts" 39 ⟨"PaperFile$Parts", "close", "(I)V"⟩ := Or.inl (x_in4 230 (by decide +kernel) rfl)
set_option maxRecDepth 40000 in
theorem k_Law_72 : x_ml "PaperFileLaw" 72 ⟨"PaperFile", "free", "(I)I"⟩ := Or.inl (x_in4 231 (by decide +kernel) rfl)
set_option maxRecDepth 40000 in
theorem k_PF_239 : x_ml "PaperFile" 239 ⟨"PaperFile$Book", "release", "(I)V"⟩ := Or.inl (x_in4 235 (by decide +kernel) rfl)
set_option maxRecDepth 40000 in
theorem k_PF_246 : x_ml "PaperFile" 246 ⟨"PaperFile$Book", "marked", "([Z)I"⟩ := Or.inl (x_in5 0 (by decide +kernel) rfl)
set_option maxRecDepth 40000 in
theorem k_Law_76 : x_ml "PaperFileLaw" 76 ⟨"PaperFile", "save", "()I"⟩ := Or.inl (x_in5 4 (by decide +kernel) rfl)
set_option maxRecDepth 40000 in
theorem k_PF_250 : x_ml "PaperFile" 250 ⟨"PaperFile$Writer", "writeFile", "(LPaperFile$Book;LPaperFile$Pail;)V"⟩ := Or.inl (x_in5 8 (by decide +kernel) rfl)
set_option maxRecDepth 40000 in
theorem k_Wr_46 : x_ml "PaperFile$Writer" 46 ⟨"PaperFile$Pail", "addRow", "([BII)V"⟩ := Or.inl (x_in5 12 (by decide +kernel) rfl)
set_option maxRecDepth 40000 in
theorem k_Wr_56 : x_ml "PaperFile$Writer" 56 ⟨"PaperFile$Book", "marked", "([Z)I"⟩ := Or.inl (x_in5 13 (by decide +kernel) rfl)
set_option maxRecDepth 40000 in
theorem k_Wr_66 : x_ml "PaperFile$Writer" 66 ⟨"PaperFile$Writer", "writeObject", "(I)V"⟩ := Or.inl (x_in5 14 (by decide +kernel) rfl)
set_option maxRecDepth 40000 in
theorem k_Wr_87 : x_ml "PaperFile$Writer" 87 ⟨"PaperFile$Pail", "addInt", "(I)V"⟩ := Or.inl (x_in5 18 (by decide +kernel) rfl)
set_option maxRecDepth 40000 in
theorem k_Pa_52 : x_ml "PaperFile$Pail" 52 ⟨"java/lang/Math", "abs", "(I)I"⟩ := Or.inl (x_in5 22 (by decide +kernel) rfl)
set_option maxRecDepth 40000 in
theorem k_Pa_56 : x_ml "PaperFile$Pail" 56 ⟨"PaperFile$Pail", "addDigits", "(II)V"⟩ := Or.inl (x_in5 25 (by decide +kernel) rfl)
set_option maxRecDepth 40000 in
theorem k_Pa_64 : x_ml "PaperFile$Pail" 64 ⟨"java/lang/Math", "max", "(JJ)J"⟩ := Or.inl (x_in5 31 (by decide +kernel) rfl)
set_option maxRecDepth 40000 in
theorem k_Wr_92 : x_ml "PaperFile$Writer" 92 ⟨"PaperFile$Pail", "add", "(I)V"⟩ := Or.inl (x_in5 34 (by decide +kernel) rfl)
set_option maxRecDepth 40000 in
theorem k_Wr_73 : x_ml "PaperFile$Writer" 73 ⟨"PaperFile$Pail", "addText", "(Ljava/lang/String;)V"⟩ := Or.inl (x_in5 36 (by decide +kernel) rfl)
set_option maxRecDepth 40000 in
theorem k_Pa_38 : x_ml "PaperFile$Pail" 38 ⟨"java/lang/String", "length", "()I"⟩ := Or.inl (x_in5 40 (by decide +kernel) rfl)
set_option maxRecDepth 40000 in
theorem k_Wr_103 : x_ml "PaperFile$Writer" 103 ⟨"PaperFile$Writer", "writeValue", "(II)V"⟩ := Or.inl (x_in5 41 (by decide +kernel) rfl)
set_option maxRecDepth 40000 in
theorem k_Wr_164 : x_ml "PaperFile$Writer" 164 ⟨"PaperFile$Pail", "addString", "(LPaperFile$Text;IIZ)V"⟩ := Or.inl (x_in5 48 (by decide +kernel) rfl)
set_option maxRecDepth 40000 in
theorem k_Wr_168 : x_ml "PaperFile$Writer" 168 ⟨"PaperFile$Writer", "writeRef", "(I)V"⟩ := Or.inl (x_in5 49 (by decide +kernel) rfl)
set_option maxRecDepth 40000 in
theorem k_Wr_171 : x_ml "PaperFile$Writer" 171 ⟨"PaperFile$Writer", "writeItems", "(IILjava/lang/String;Ljava/lang/String;)V"⟩ := Or.inl (x_in5 56 (by decide +kernel) rfl)
set_option maxRecDepth 40000 in
theorem k_Wr_134 : x_ml "PaperFile$Writer" 134 ⟨"PaperFile$Parts", "behind", "(I)I"⟩ := Or.inl (x_in5 60 (by decide +kernel) rfl)
set_option maxRecDepth 40000 in
theorem k_Wr_138 : x_ml "PaperFile$Writer" 138 ⟨"PaperFile$Writer", "writeName", "(IZ)V"⟩ := Or.inl (x_in5 61 (by decide +kernel) rfl)
set_option maxRecDepth 40000 in
theorem k_Wr_189 : x_ml "PaperFile$Writer" 189 ⟨"PaperFile$Text", "afterWord", "(I)I"⟩ := Or.inl (x_in5 67 (by decide +kernel) rfl)
set_option maxRecDepth 40000 in
theorem k_Wr_175 : x_ml "PaperFile$Writer" 175 ⟨"PaperFile$Writer", "writeData", "(I)V"⟩ := Or.inl (x_in5 68 (by decide +kernel) rfl)
set_option maxRecDepth 40000 in
theorem k_Wr_77 : x_ml "PaperFile$Writer" 77 ⟨"PaperFile$Writer", "writeSections", "()V"⟩ := Or.inl (x_in5 78 (by decide +kernel) rfl)
set_option maxRecDepth 40000 in
theorem k_Wr_109 : x_ml "PaperFile$Writer" 109 ⟨"PaperFile$Writer", "writeSection", "(I)V"⟩ := Or.inl (x_in5 82 (by decide +kernel) rfl)
set_option maxRecDepth 40000 in
theorem k_Wr_112 : x_ml "PaperFile$Writer" 112 ⟨"PaperFile$Pail", "addDigits", "(II)V"⟩ := Or.inl (x_in5 86 (by decide +kernel) rfl)
set_option maxRecDepth 40000 in
theorem k_Wr_82 : x_ml "PaperFile$Writer" 82 ⟨"PaperFile$Writer", "writeTrailer", "()V"⟩ := Or.inl (x_in5 90 (by decide +kernel) rfl)
set_option maxRecDepth 40000 in
theorem k_Wr_124 : x_ml "PaperFile$Writer" 124 ⟨"PaperFile$Parts", "named", "(ILjava/lang/String;)I"⟩ := Or.inl (x_in5 95 (by decide +kernel) rfl)
set_option maxRecDepth 40000 in
theorem k_Law_80 : x_ml "PaperFileLaw" 80 ⟨"PaperFile", "pages", "()I"⟩ := Or.inl (x_in5 100 (by decide +kernel) rfl)
set_option maxRecDepth 40000 in
theorem k_PF_258 : x_ml "PaperFile" 258 ⟨"PaperFile$PageWalk", "through", "(LPaperFile$Book;)Z"⟩ := Or.inl (x_in5 104 (by decide +kernel) rfl)
set_option maxRecDepth 40000 in
theorem k_PW_38 : x_ml "PaperFile$PageWalk" 38 ⟨"PaperFile$Parts", "named", "(ILjava/lang/String;)I"⟩ := Or.inl (x_in5 109 (by decide +kernel) rfl)
set_option maxRecDepth 40000 in
theorem k_PW_44 : x_ml "PaperFile$PageWalk" 44 ⟨"PaperFile$Book", "leadsTo", "(I)I"⟩ := Or.inl (x_in5 110 (by decide +kernel) rfl)
set_option maxRecDepth 40000 in
theorem k_PW_48 : x_ml "PaperFile$PageWalk" 48 ⟨"PaperFile$PageWalk", "isDict", "(I)Z"⟩ := Or.inl (x_in5 111 (by decide +kernel) rfl)
set_option maxRecDepth 40000 in
theorem k_PW_57 : x_ml "PaperFile$PageWalk" 57 ⟨"PaperFile$PageWalk", "visit", "(II)Z"⟩ := Or.inl (x_in5 116 (by decide +kernel) rfl)
set_option maxRecDepth 40000 in
theorem k_PW_68 : x_ml "PaperFile$PageWalk" 68 ⟨"PaperFile$Parts", "isName", "(ILjava/lang/String;)Z"⟩ := Or.inl (x_in5 122 (by decide +kernel) rfl)
set_option maxRecDepth 40000 in
theorem k_PW_74 : x_ml "PaperFile$PageWalk" 74 ⟨"PaperFile$PageWalk", "visitKids", "(II)Z"⟩ := Or.inl (x_in5 124 (by decide +kernel) rfl)
set_option maxRecDepth 40000 in
theorem k_PW_77 : x_ml "PaperFile$PageWalk" 77 ⟨"PaperFile$Parts", "behind", "(I)I"⟩ := Or.inl (x_in5 128 (by decide +kernel) rfl)
set_option maxRecDepth 40000 in
theorem k_Law_84 : x_ml "PaperFileLaw" 84 ⟨"PaperFile", "page", "(I)I"⟩ := Or.inl (x_in5 129 (by decide +kernel) rfl)
set_option maxRecDepth 40000 in
theorem k_Law_88 : x_ml "PaperFileLaw" 88 ⟨"PaperFile", "count", "(I)I"⟩ := Or.inl (x_in5 133 (by decide +kernel) rfl)
set_option maxRecDepth 40000 in
theorem k_Law_92 : x_ml "PaperFileLaw" 92 ⟨"PaperFile", "state", "(II)I"⟩ := Or.inl (x_in5 137 (by decide +kernel) rfl)
set_option maxRecDepth 40000 in
theorem k_Law_12 : x_ml "PaperFileLaw" 12 ⟨"PaperFileModel", "<init>", "()V"⟩ := Or.inl (x_in5 143 (by decide +kernel) rfl)
set_option maxRecDepth 40000 in
theorem k_M_163 : x_ml "PaperFileModel" 163 ⟨"java/lang/Object", "<init>", "()V"⟩ := Or.inl (x_in5 146 (by decide +kernel) rfl)
set_option maxRecDepth 40000 in
theorem k_Law_17 : x_ml "PaperFileLaw" 17 ⟨"PaperFileModel", "feed", "(IIIII)I"⟩ := Or.inl (x_in5 211 (by decide +kernel) rfl)
set_option maxRecDepth 40000 in
theorem k_Law_22 : x_ml "PaperFileLaw" 22 ⟨"PaperFileModel", "end", "(I)I"⟩ := Or.inl (x_in5 215 (by decide +kernel) rfl)
set_option maxRecDepth 40000 in
theorem k_M_48 : x_ml "PaperFileModel" 48 ⟨"PaperFileModel", "in", "(JJJ)Z"⟩ := Or.inl (x_in5 219 (by decide +kernel) rfl)
set_option maxRecDepth 40000 in
theorem k_Law_27 : x_ml "PaperFileLaw" 27 ⟨"PaperFileModel", "open", "()I"⟩ := Or.inl (x_in5 222 (by decide +kernel) rfl)
set_option maxRecDepth 40000 in
theorem k_M_198 : x_ml "PaperFileModel" 198 ⟨"PaperFileModel$Paper", "<init>", "()V"⟩ := Or.inr ⟨"PaperFileModel", by decide⟩
set_option maxRecDepth 40000 in
theorem k_MP_3 : x_ml "PaperFileModel$Paper" 3 ⟨"java/lang/Object", "<init>", "()V"⟩ := Or.inl (x_in5 231 (by decide +kernel) rfl)
set_option maxRecDepth 40000 in
theorem k_M_199 : x_ml "PaperFileModel" 199 ⟨"PaperFileModel", "used", "()I"⟩ := Or.inl (x_in6 31 (by decide +kernel) rfl)
set_option maxRecDepth 40000 in
theorem k_M_202 : x_ml "PaperFileModel" 202 ⟨"PaperFileModel", "read", "(LPaperFileModel$Paper;)I"⟩ := Or.inl (x_in6 35 (by decide +kernel) rfl)
set_option maxRecDepth 40000 in
theorem k_M_34 : x_ml "PaperFileModel" 34 ⟨"PaperFileModel", "isAt", "(ILjava/lang/String;)Z"⟩ := Or.inl (x_in6 40 (by decide +kernel) rfl)
set_option maxRecDepth 40000 in
theorem k_M_24 : x_ml "PaperFileModel" 24 ⟨"java/lang/String", "length", "()I"⟩ := Or.inl (x_in6 44 (by decide +kernel) rfl)
set_option maxRecDepth 40000 in
theorem k_M_30 : x_ml "PaperFileModel" 30 ⟨"java/lang/String", "charAt", "(I)C"⟩ := Or.inl (x_in6 45 (by decide +kernel) rfl)
set_option maxRecDepth 40000 in
theorem k_M_52 : x_ml "PaperFileModel" 52 ⟨"PaperFileModel", "isDigit", "(I)Z"⟩ := Or.inl (x_in6 46 (by decide +kernel) rfl)
set_option maxRecDepth 40000 in
theorem k_M_21 : x_ml "PaperFileModel" 21 ⟨"PaperFileModel", "isRegular", "(I)Z"⟩ := Or.inl (x_in6 50 (by decide +kernel) rfl)
set_option maxRecDepth 40000 in
theorem k_M_1 : x_ml "PaperFileModel" 1 ⟨"PaperFileModel", "isDelimiter", "(I)Z"⟩ := Or.inl (x_in6 53 (by decide +kernel) rfl)
set_option maxRecDepth 40000 in
theorem k_M_103 : x_ml "PaperFileModel" 103 ⟨"PaperFileModel", "takeWord", "(Ljava/lang/String;)Z"⟩ := Or.inl (x_in6 56 (by decide +kernel) rfl)
set_option maxRecDepth 40000 in
theorem k_M_38 : x_ml "PaperFileModel" 38 ⟨"PaperFileModel", "wordEnd", "(I)I"⟩ := Or.inl (x_in6 60 (by decide +kernel) rfl)
set_option maxRecDepth 40000 in
theorem k_M_42 : x_ml "PaperFileModel" 42 ⟨"PaperFileModel", "isWord", "(IILjava/lang/String;)Z"⟩ := Or.inl (x_in6 64 (by decide +kernel) rfl)
set_option maxRecDepth 40000 in
theorem k_M_132 : x_ml "PaperFileModel" 132 ⟨"PaperFileModel", "takeByte", "(I)Z"⟩ := Or.inl (x_in6 68 (by decide +kernel) rfl)
set_option maxRecDepth 40000 in
theorem k_M_98 : x_ml "PaperFileModel" 98 ⟨"PaperFileModel", "takeNumber", "()I"⟩ := Or.inl (x_in6 72 (by decide +kernel) rfl)
set_option maxRecDepth 40000 in
theorem k_M_55 : x_ml "PaperFileModel" 55 ⟨"PaperFileModel", "numberOf", "(II)I"⟩ := Or.inl (x_in6 76 (by decide +kernel) rfl)
set_option maxRecDepth 40000 in
theorem k_M_230 : x_ml "PaperFileModel" 230 ⟨"PaperFileModel", "table", "(LPaperFileModel$Paper;I)I"⟩ := Or.inl (x_in6 82 (by decide +kernel) rfl)
set_option maxRecDepth 40000 in
theorem k_M_241 : x_ml "PaperFileModel" 241 ⟨"PaperFileModel", "entry", "(LPaperFileModel$Paper;I)Z"⟩ := Or.inl (x_in6 89 (by decide +kernel) rfl)
set_option maxRecDepth 40000 in
theorem k_M_245 : x_ml "PaperFileModel" 245 ⟨"java/lang/Math", "max", "(II)I"⟩ := Or.inl (x_in6 95 (by decide +kernel) rfl)
set_option maxRecDepth 40000 in
theorem k_M_74 : x_ml "PaperFileModel" 74 ⟨"PaperFileModel", "dict", "(I)LPaperFileModel$Part;"⟩ := Or.inl (x_in6 98 (by decide +kernel) rfl)
set_option maxRecDepth 40000 in
theorem k_M_84 : x_ml "PaperFileModel" 84 ⟨"PaperFileModel$Part", "<init>", "(I)V"⟩ := Or.inl (x_in6 104 (by decide +kernel) rfl)
set_option maxRecDepth 40000 in
theorem k_MQ_3 : x_ml "PaperFileModel$Part" 3 ⟨"java/lang/Object", "<init>", "()V"⟩ := Or.inl (x_in6 107 (by decide +kernel) rfl)
set_option maxRecDepth 40000 in
theorem k_M_59 : x_ml "PaperFileModel" 59 ⟨"PaperFileModel", "white", "()V"⟩ := Or.inl (x_in6 137 (by decide +kernel) rfl)
set_option maxRecDepth 40000 in
theorem k_M_18 : x_ml "PaperFileModel" 18 ⟨"PaperFileModel", "isWhite", "(I)Z"⟩ := Or.inl (x_in6 141 (by decide +kernel) rfl)
set_option maxRecDepth 40000 in
theorem k_M_63 : x_ml "PaperFileModel" 63 ⟨"PaperFileModel", "name", "()LPaperFileModel$Part;"⟩ := Or.inl (x_in6 144 (by decide +kernel) rfl)
set_option maxRecDepth 40000 in
theorem k_M_113 : x_ml "PaperFileModel" 113 ⟨"java/util/Arrays", "copyOfRange", "([BII)[B"⟩ := Or.inl (x_in6 148 (by decide +kernel) rfl)
set_option maxRecDepth 40000 in
theorem k_Ar_339 : x_ml "java/util/Arrays" 339 ⟨"java/util/Arrays", "copyOfRangeByte", "([BII)[B"⟩ := Or.inl (x_in6 151 (by decide +kernel) rfl)
set_option maxRecDepth 40000 in
theorem k_Ar_343 : x_ml "java/util/Arrays" 343 ⟨"java/util/Arrays", "checkLength", "(II)V"⟩ := Or.inl (x_in6 154 (by decide +kernel) rfl)
set_option maxRecDepth 40000 in
theorem k_Ar_304 : x_ml "java/util/Arrays" 304 ⟨"java/lang/Math", "min", "(II)I"⟩ := Or.inl (x_in6 157 (by decide +kernel) rfl)
set_option maxRecDepth 40000 in
theorem k_Ar_150 : x_ml "java/util/Arrays" 150 ⟨"java/lang/System", "arraycopy", "(Ljava/lang/Object;ILjava/lang/Object;II)V"⟩ := Or.inl (x_in6 158 (by decide +kernel) rfl)
set_option maxRecDepth 40000 in
theorem k_Ar_310 : x_ml "java/util/Arrays" 310 ⟨"[B", "clone", "()Ljava/lang/Object;"⟩ := Or.inl (x_in6 159 (by decide +kernel) rfl)
set_option maxRecDepth 40000 in
theorem k_M_159 : x_ml "PaperFileModel" 159 ⟨"PaperFileModel$Part", "get", "([BII)LPaperFileModel$Part;"⟩ := Or.inl (x_in6 166 (by decide +kernel) rfl)
set_option maxRecDepth 40000 in
theorem k_MQ_30 : x_ml "PaperFileModel$Part" 30 ⟨"PaperFileModel", "isLike", "([B[BII)Z"⟩ := Or.inr ⟨"PaperFileModel", by decide⟩
set_option maxRecDepth 40000 in
theorem k_M_148 : x_ml "PaperFileModel" 148 ⟨"PaperFileModel", "object", "(I)LPaperFileModel$Part;"⟩ := Or.inl (x_in6 173 (by decide +kernel) rfl)
set_option maxRecDepth 40000 in
theorem k_M_67 : x_ml "PaperFileModel" 67 ⟨"PaperFileModel", "string", "()LPaperFileModel$Part;"⟩ := Or.inl (x_in6 177 (by decide +kernel) rfl)
set_option maxRecDepth 40000 in
theorem k_M_129 : x_ml "PaperFileModel" 129 ⟨"PaperFileModel", "escaped", "()I"⟩ := Or.inl (x_in6 181 (by decide +kernel) rfl)
set_option maxRecDepth 40000 in
theorem k_M_135 : x_ml "PaperFileModel" 135 ⟨"PaperFileModel", "ofBytes", "(I)LPaperFileModel$Part;"⟩ := Or.inl (x_in6 185 (by decide +kernel) rfl)
set_option maxRecDepth 40000 in
theorem k_M_125 : x_ml "PaperFileModel" 125 ⟨"java/util/Arrays", "copyOf", "([BI)[B"⟩ := Or.inl (x_in6 189 (by decide +kernel) rfl)
set_option maxRecDepth 40000 in
theorem k_M_70 : x_ml "PaperFileModel" 70 ⟨"PaperFileModel", "array", "(I)LPaperFileModel$Part;"⟩ := Or.inl (x_in6 192 (by decide +kernel) rfl)
set_option maxRecDepth 40000 in
theorem k_M_151 : x_ml "PaperFileModel" 151 ⟨"PaperFileModel", "longer", "([LPaperFileModel$Part;)[LPaperFileModel$Part;"⟩ := Or.inl (x_in6 196 (by decide +kernel) rfl)
set_option maxRecDepth 40000 in
theorem k_M_77 : x_ml "PaperFileModel" 77 ⟨"PaperFileModel", "digits", "()LPaperFileModel$Part;"⟩ := Or.inl (x_in6 199 (by decide +kernel) rfl)
set_option maxRecDepth 40000 in
theorem k_M_138 : x_ml "PaperFileModel" 138 ⟨"PaperFileModel", "hexOf", "(I)I"⟩ := Or.inl (x_in6 203 (by decide +kernel) rfl)
set_option maxRecDepth 40000 in
theorem k_M_92 : x_ml "PaperFileModel" 92 ⟨"PaperFileModel", "reference", "(I)LPaperFileModel$Part;"⟩ := Or.inl (x_in6 209 (by decide +kernel) rfl)
set_option maxRecDepth 40000 in
theorem k_M_256 : x_ml "PaperFileModel" 256 ⟨"PaperFileModel$Part", "get", "(Ljava/lang/String;)LPaperFileModel$Part;"⟩ := Or.inl (x_in6 216 (by decide +kernel) rfl)
set_option maxRecDepth 40000 in
theorem k_MQ_34 : x_ml "PaperFileModel$Part" 34 ⟨"java/lang/String", "length", "()I"⟩ := Or.inl (x_in6 220 (by decide +kernel) rfl)
set_option maxRecDepth 40000 in
theorem k_MQ_39 : x_ml "PaperFileModel$Part" 39 ⟨"java/lang/String", "charAt", "(I)C"⟩ := Or.inl (x_in6 221 (by decide +kernel) rfl)
set_option maxRecDepth 40000 in
theorem k_M_234 : x_ml "PaperFileModel" 234 ⟨"PaperFileModel", "objects", "(LPaperFileModel$Paper;)I"⟩ := Or.inl (x_in6 223 (by decide +kernel) rfl)
set_option maxRecDepth 40000 in
theorem k_M_284 : x_ml "PaperFileModel" 284 ⟨"PaperFileModel", "valueAt", "(LPaperFileModel$Paper;I)LPaperFileModel$Part;"⟩ := Or.inl (x_in6 227 (by decide +kernel) rfl)
set_option maxRecDepth 40000 in
theorem k_M_293 : x_ml "PaperFileModel" 293 ⟨"PaperFileModel", "begin", "(LPaperFileModel$Paper;I)Z"⟩ := Or.inl (x_in6 231 (by decide +kernel) rfl)
set_option maxRecDepth 40000 in
theorem k_M_298 : x_ml "PaperFileModel" 298 ⟨"PaperFileModel", "stream", "(LPaperFileModel$Paper;LPaperFileModel$Part;)LPaperFileModel$Part;"⟩ := Or.inl (x_in6 237 (by decide +kernel) rfl)
set_option maxRecDepth 40000 in
theorem k_M_305 : x_ml "PaperFileModel" 305 ⟨"PaperFileModel", "lengthOf", "(LPaperFileModel$Paper;LPaperFileModel$Part;)I"⟩ := Or.inl (x_in7 2 (by decide +kernel) rfl)
set_option maxRecDepth 40000 in
theorem k_M_288 : x_ml "PaperFileModel" 288 ⟨"PaperFileModel$Part", "parts", "()I"⟩ := Or.inl (x_in7 8 (by decide +kernel) rfl)
set_option maxRecDepth 40000 in
theorem k_MQ_22 : x_ml "PaperFileModel$Part" 22 ⟨"PaperFileModel$Part", "parts", "()I"⟩ := Or.inl (x_in7 12 (by decide +kernel) rfl)
set_option maxRecDepth 40000 in
theorem k_Law_31 : x_ml "PaperFileLaw" 31 ⟨"PaperFileModel", "go", "(I)I"⟩ := Or.inl (x_in7 13 (by decide +kernel) rfl)
set_option maxRecDepth 40000 in
theorem k_M_311 : x_ml "PaperFileModel" 311 ⟨"PaperFileModel", "isUsed", "(I)Z"⟩ := Or.inl (x_in7 17 (by decide +kernel) rfl)
set_option maxRecDepth 40000 in
theorem k_M_314 : x_ml "PaperFileModel" 314 ⟨"PaperFileModel", "isAt", "(LPaperFileModel$Part;)I"⟩ := Or.inl (x_in7 21 (by decide +kernel) rfl)
set_option maxRecDepth 40000 in
theorem k_Law_35 : x_ml "PaperFileLaw" 35 ⟨"PaperFileModel", "trailer", "()I"⟩ := Or.inl (x_in7 25 (by decide +kernel) rfl)
set_option maxRecDepth 40000 in
theorem k_Law_39 : x_ml "PaperFileLaw" 39 ⟨"PaperFileModel", "item", "(I)I"⟩ := Or.inl (x_in7 29 (by decide +kernel) rfl)
set_option maxRecDepth 40000 in
theorem k_Law_43 : x_ml "PaperFileLaw" 43 ⟨"PaperFileModel", "find", "()I"⟩ := Or.inl (x_in7 33 (by decide +kernel) rfl)
set_option maxRecDepth 40000 in
theorem k_Law_47 : x_ml "PaperFileLaw" 47 ⟨"PaperFileModel", "follow", "()I"⟩ := Or.inl (x_in7 37 (by decide +kernel) rfl)
set_option maxRecDepth 40000 in
theorem k_M_317 : x_ml "PaperFileModel" 317 ⟨"PaperFileModel", "led", "(LPaperFileModel$Part;)LPaperFileModel$Part;"⟩ := Or.inl (x_in7 41 (by decide +kernel) rfl)
set_option maxRecDepth 40000 in
theorem k_Law_51 : x_ml "PaperFileLaw" 51 ⟨"PaperFileModel", "look", "(I)I"⟩ := Or.inl (x_in7 45 (by decide +kernel) rfl)
set_option maxRecDepth 40000 in
theorem k_Law_55 : x_ml "PaperFileLaw" 55 ⟨"PaperFileModel", "bytes", "(I)I"⟩ := Or.inl (x_in7 50 (by decide +kernel) rfl)
set_option maxRecDepth 40000 in
theorem k_M_332 : x_ml "PaperFileModel" 332 ⟨"PaperFileModel", "tell", "([B)I"⟩ := Or.inl (x_in7 54 (by decide +kernel) rfl)
set_option maxRecDepth 40000 in
theorem k_M_323 : x_ml "PaperFileModel" 323 ⟨"java/lang/System", "arraycopy", "(Ljava/lang/Object;ILjava/lang/Object;II)V"⟩ := Or.inl (x_in7 58 (by decide +kernel) rfl)
set_option maxRecDepth 40000 in
theorem k_Law_63 : x_ml "PaperFileLaw" 63 ⟨"PaperFileModel", "octet", "(I)I"⟩ := Or.inl (x_in7 59 (by decide +kernel) rfl)
set_option maxRecDepth 40000 in
theorem k_Law_59 : x_ml "PaperFileLaw" 59 ⟨"PaperFileModel", "decode", "()I"⟩ := Or.inl (x_in7 64 (by decide +kernel) rfl)
set_option maxRecDepth 40000 in
theorem k_M_342 : x_ml "PaperFileModel" 342 ⟨"PaperFileModel$Part", "isName", "(Ljava/lang/String;)Z"⟩ := Or.inl (x_in7 70 (by decide +kernel) rfl)
set_option maxRecDepth 40000 in
theorem k_M_345 : x_ml "PaperFileModel" 345 ⟨"PaperFileModel", "hex", "(I)Z"⟩ := Or.inl (x_in7 74 (by decide +kernel) rfl)
set_option maxRecDepth 40000 in
theorem k_M_359 : x_ml "PaperFileModel" 359 ⟨"PaperFileModel", "one", "(I)Z"⟩ := Or.inl (x_in7 78 (by decide +kernel) rfl)
set_option maxRecDepth 40000 in
theorem k_M_350 : x_ml "PaperFileModel" 350 ⟨"PaperFileModel", "runs", "(I)Z"⟩ := Or.inl (x_in7 83 (by decide +kernel) rfl)
set_option maxRecDepth 40000 in
theorem k_M_355 : x_ml "PaperFileModel" 355 ⟨"PaperFileModel", "base85", "(I)Z"⟩ := Or.inl (x_in7 88 (by decide +kernel) rfl)
set_option maxRecDepth 40000 in
theorem k_M_362 : x_ml "PaperFileModel" 362 ⟨"java/lang/Math", "min", "(II)I"⟩ := Or.inl (x_in7 92 (by decide +kernel) rfl)
set_option maxRecDepth 40000 in
theorem k_Law_67 : x_ml "PaperFileLaw" 67 ⟨"PaperFileModel", "put", "(I)I"⟩ := Or.inl (x_in7 96 (by decide +kernel) rfl)
set_option maxRecDepth 40000 in
theorem k_M_374 : x_ml "PaperFileModel" 374 ⟨"PaperFileModel", "mayPut", "(I)Z"⟩ := Or.inl (x_in7 100 (by decide +kernel) rfl)
set_option maxRecDepth 40000 in
theorem k_M_377 : x_ml "PaperFileModel" 377 ⟨"PaperFileModel", "partsBut", "(I)I"⟩ := Or.inl (x_in7 104 (by decide +kernel) rfl)
set_option maxRecDepth 40000 in
theorem k_M_380 : x_ml "PaperFileModel" 380 ⟨"PaperFileModel", "change", "(ILPaperFileModel$Part;)I"⟩ := Or.inl (x_in7 108 (by decide +kernel) rfl)
set_option maxRecDepth 40000 in
theorem k_Law_71 : x_ml "PaperFileLaw" 71 ⟨"PaperFileModel", "pour", "(I)I"⟩ := Or.inl (x_in7 112 (by decide +kernel) rfl)
set_option maxRecDepth 40000 in
theorem k_Law_75 : x_ml "PaperFileLaw" 75 ⟨"PaperFileModel", "free", "(I)I"⟩ := Or.inl (x_in7 116 (by decide +kernel) rfl)
set_option maxRecDepth 40000 in
theorem k_M_384 : x_ml "PaperFileModel" 384 ⟨"PaperFileModel", "inUse", "()I"⟩ := Or.inl (x_in7 120 (by decide +kernel) rfl)
set_option maxRecDepth 40000 in
theorem k_Law_79 : x_ml "PaperFileLaw" 79 ⟨"PaperFileModel", "save", "()I"⟩ := Or.inl (x_in7 124 (by decide +kernel) rfl)
set_option maxRecDepth 40000 in
theorem k_M_404 : x_ml "PaperFileModel" 404 ⟨"PaperFileModel", "say", "([B)V"⟩ := Or.inl (x_in7 128 (by decide +kernel) rfl)
set_option maxRecDepth 40000 in
theorem k_M_394 : x_ml "PaperFileModel" 394 ⟨"PaperFileModel", "say", "(I)V"⟩ := Or.inl (x_in7 132 (by decide +kernel) rfl)
set_option maxRecDepth 40000 in
theorem k_M_422 : x_ml "PaperFileModel" 422 ⟨"PaperFileModel", "changes", "()I"⟩ := Or.inl (x_in7 136 (by decide +kernel) rfl)
set_option maxRecDepth 40000 in
theorem k_M_425 : x_ml "PaperFileModel" 425 ⟨"PaperFileModel", "append", "()V"⟩ := Or.inl (x_in7 140 (by decide +kernel) rfl)
set_option maxRecDepth 40000 in
theorem k_M_400 : x_ml "PaperFileModel" 400 ⟨"PaperFileModel", "number", "(II)V"⟩ := Or.inl (x_in7 144 (by decide +kernel) rfl)
set_option maxRecDepth 40000 in
theorem k_M_397 : x_ml "PaperFileModel" 397 ⟨"PaperFileModel", "say", "(Ljava/lang/String;)V"⟩ := Or.inl (x_in7 149 (by decide +kernel) rfl)
set_option maxRecDepth 40000 in
theorem k_M_414 : x_ml "PaperFileModel" 414 ⟨"PaperFileModel", "write", "(LPaperFileModel$Part;)V"⟩ := Or.inl (x_in7 153 (by decide +kernel) rfl)
set_option maxRecDepth 40000 in
theorem k_M_407 : x_ml "PaperFileModel" 407 ⟨"PaperFileModel", "hexDigit", "(I)V"⟩ := Or.inl (x_in7 157 (by decide +kernel) rfl)
set_option maxRecDepth 40000 in
theorem k_M_434 : x_ml "PaperFileModel" 434 ⟨"PaperFileModel", "newTrailer", "()LPaperFileModel$Part;"⟩ := Or.inl (x_in7 167 (by decide +kernel) rfl)
set_option maxRecDepth 40000 in
theorem k_Law_83 : x_ml "PaperFileLaw" 83 ⟨"PaperFileModel", "pages", "()I"⟩ := Or.inl (x_in7 171 (by decide +kernel) rfl)
set_option maxRecDepth 40000 in
theorem k_M_452 : x_ml "PaperFileModel" 452 ⟨"java/util/Arrays", "fill", "([ZZ)V"⟩ := Or.inl (x_in7 175 (by decide +kernel) rfl)
set_option maxRecDepth 40000 in
theorem k_M_448 : x_ml "PaperFileModel" 448 ⟨"PaperFileModel", "walk", "(LPaperFileModel$Part;I)Z"⟩ := Or.inl (x_in7 180 (by decide +kernel) rfl)
set_option maxRecDepth 40000 in
theorem k_Law_87 : x_ml "PaperFileLaw" 87 ⟨"PaperFileModel", "page", "(I)I"⟩ := Or.inl (x_in7 187 (by decide +kernel) rfl)
set_option maxRecDepth 40000 in
theorem k_M_458 : x_ml "PaperFileModel" 458 ⟨"PaperFileModel", "pages", "()I"⟩ := Or.inl (x_in7 191 (by decide +kernel) rfl)
set_option maxRecDepth 40000 in
theorem k_Law_91 : x_ml "PaperFileLaw" 91 ⟨"PaperFileModel", "count", "(I)I"⟩ := Or.inl (x_in7 192 (by decide +kernel) rfl)
set_option maxRecDepth 40000 in
theorem k_Law_96 : x_ml "PaperFileLaw" 96 ⟨"PaperFileModel", "state", "(II)I"⟩ := Or.inl (x_in7 197 (by decide +kernel) rfl)
set_option maxRecDepth 40000 in
theorem n_Law_7 : x_cn "PaperFileLaw" 7 0 [xN, xN, xN, xN, xN, xN, xN, xN, xN, xN, xN, xI 0] := ⟨_, _, _, xt_PF, rfl, xi_PF, xt_PF_ok, x_in1 22 (by decide +kernel) rfl, x_in1 23 (by decide +kernel) rfl, x_in1 1 (by decide +kernel) rfl, by decide +kernel, rfl⟩
set_option maxRecDepth 40000 in
theorem n_PF_9 : x_cn "PaperFile" 9 1 [xN, xN, xI 0, xI 0] := ⟨_, _, _, xt_T, rfl, xi_T, xt_T_ok, x_in1 30 (by decide +kernel) rfl, x_in1 31 (by decide +kernel) rfl, x_in1 2 (by decide +kernel) rfl, by decide +kernel, rfl⟩
set_option maxRecDepth 40000 in
theorem n_PF_16 : x_cn "PaperFile" 16 2 [xN, xN, xN, xN, xN, xI 0, xN] := ⟨_, _, _, xt_P, rfl, xi_P, xt_P_ok, x_in1 167 (by decide +kernel) rfl, x_in1 168 (by decide +kernel) rfl, x_in1 9 (by decide +kernel) rfl, by decide +kernel, rfl⟩
set_option maxRecDepth 40000 in
theorem n_PF_25 : x_cn "PaperFile" 25 3 [xN, xN] := ⟨_, _, _, xt_R, rfl, xi_R, xt_R_ok, x_in1 219 (by decide +kernel) rfl, x_in1 220 (by decide +kernel) rfl, x_in1 10 (by decide +kernel) rfl, by decide +kernel, rfl⟩
set_option maxRecDepth 40000 in
theorem n_PF_34 : x_cn "PaperFile" 34 4 [xN, xN, xN, xN, xN, xN, xN, xN, xI 0, xI 0, xI 0, xI 0] := ⟨_, _, _, xt_O, rfl, xi_O, xt_O_ok, x_in1 232 (by decide +kernel) rfl, x_in1 233 (by decide +kernel) rfl, x_in1 11 (by decide +kernel) rfl, by decide +kernel, rfl⟩
set_option maxRecDepth 40000 in
theorem n_PF_43 : x_cn "PaperFile" 43 5 [xN, xN, xN, xN, xN] := ⟨_, _, _, xt_Wr, rfl, xi_Wr, xt_Wr_ok, x_in2 35 (by decide +kernel) rfl, x_in2 36 (by decide +kernel) rfl, x_in1 12 (by decide +kernel) rfl, by decide +kernel, rfl⟩
set_option maxRecDepth 40000 in
theorem n_PF_50 : x_cn "PaperFile" 50 6 [xN, xN, xN, xN, xN, xI 0, xI 0] := ⟨_, _, _, xt_D, rfl, xi_D, xt_D_ok, x_in2 57 (by decide +kernel) rfl, x_in2 58 (by decide +kernel) rfl, x_in1 13 (by decide +kernel) rfl, by decide +kernel, rfl⟩
set_option maxRecDepth 40000 in
theorem n_D_9 : x_cn "PaperFile$Decoder" 9 7 [xN, xI 0, xI 0, xI 0] := ⟨_, _, _, xt_Pa, rfl, xi_Pa, xt_Pa_ok, x_in2 63 (by decide +kernel) rfl, x_in2 64 (by decide +kernel) rfl, x_in1 14 (by decide +kernel) rfl, by decide +kernel, rfl⟩
set_option maxRecDepth 40000 in
theorem n_PF_57 : x_cn "PaperFile" 57 8 [xN, xI 0, xN, xN, xN] := ⟨_, _, _, xt_PW, rfl, xi_PW, xt_PW_ok, x_in2 114 (by decide +kernel) rfl, x_in2 115 (by decide +kernel) rfl, x_in1 15 (by decide +kernel) rfl, by decide +kernel, rfl⟩
set_option maxRecDepth 40000 in
theorem n_PF_66 : x_cn "PaperFile" 66 9 [xN, xN, xN, xN, xN, xI 0, xI 0, xI 0, xI 0, xI 0, xI 0, xN] := ⟨_, _, _, xt_B, rfl, xi_B, xt_B_ok, x_in2 138 (by decide +kernel) rfl, x_in2 139 (by decide +kernel) rfl, x_in1 16 (by decide +kernel) rfl, by decide +kernel, rfl⟩
set_option maxRecDepth 40000 in
theorem n_PF_76 : x_cn "PaperFile" 76 7 [xN, xI 0, xI 0, xI 0] := ⟨_, _, _, xt_Pa, rfl, xi_Pa, xt_Pa_ok, x_in2 207 (by decide +kernel) rfl, x_in2 64 (by decide +kernel) rfl, x_in1 14 (by decide +kernel) rfl, by decide +kernel, rfl⟩
set_option maxRecDepth 40000 in
theorem n_Law_10 : x_cn "PaperFileLaw" 10 10 [xN, xI 0, xI 0, xN, xN, xI 0, xN, xN, xN, xI 0, xI 0, xN, xN, xI 0, xN, xI 0, xI 0, xN, xN, xN, xI 0] := ⟨_, _, _, xt_M, rfl, xi_M, xt_M_ok, x_in5 141 (by decide +kernel) rfl, x_in5 142 (by decide +kernel) rfl, x_in1 17 (by decide +kernel) rfl, by decide +kernel, rfl⟩
set_option maxRecDepth 40000 in
theorem n_M_196 : x_cn "PaperFileModel" 196 11 [xN, xI 0, xI 0, xN, xN, xN, xN, xN, xN, xI 0] := ⟨_, _, _, xt_MP, rfl, xi_MP, xt_MP_ok, x_in5 226 (by decide +kernel) rfl, x_in5 227 (by decide +kernel) rfl, x_in1 19 (by decide +kernel) rfl, by decide +kernel, rfl⟩
set_option maxRecDepth 40000 in
theorem n_MP_22 : x_cn "PaperFileModel$Paper" 22 12 [xI 0, xI 0, xI 0, xI 0, xN, xN, xN] := ⟨_, _, _, xt_MQ, rfl, xi_MQ, xt_MQ_ok, x_in5 232 (by decide +kernel) rfl, x_in6 103 (by decide +kernel) rfl, x_in1 20 (by decide +kernel) rfl, by decide +kernel, rfl⟩
set_option maxRecDepth 40000 in
theorem n_M_82 : x_cn "PaperFileModel" 82 12 [xI 0, xI 0, xI 0, xI 0, xN, xN, xN] := ⟨_, _, _, xt_MQ, rfl, xi_MQ, xt_MQ_ok, x_in6 102 (by decide +kernel) rfl, x_in6 103 (by decide +kernel) rfl, x_in1 20 (by decide +kernel) rfl, by decide +kernel, rfl⟩
set_option maxRecDepth 40000 in
theorem cl_PF : ∃ T N, x_cl[0]? = some ("PaperFile", T, N) := ⟨_, _, rfl⟩
set_option maxRecDepth 40000 in
theorem cl_T : ∃ T N, x_cl[1]? = some ("PaperFile$Text", T, N) := ⟨_, _, rfl⟩
set_option maxRecDepth 40000 in
theorem cl_P : ∃ T N, x_cl[2]? = some ("PaperFile$Parts", T, N) := ⟨_, _, rfl⟩
set_option maxRecDepth 40000 in
theorem cl_R : ∃ T N, x_cl[3]? = some ("PaperFile$Reader", T, N) := ⟨_, _, rfl⟩
set_option maxRecDepth 40000 in
theorem cl_O : ∃ T N, x_cl[4]? = some ("PaperFile$Opener", T, N) := ⟨_, _, rfl⟩
set_option maxRecDepth 40000 in
theorem cl_Wr : ∃ T N, x_cl[5]? = some ("PaperFile$Writer", T, N) := ⟨_, _, rfl⟩
set_option maxRecDepth 40000 in
theorem cl_D : ∃ T N, x_cl[6]? = some ("PaperFile$Decoder", T, N) := ⟨_, _, rfl⟩
set_option maxRecDepth 40000 in
theorem cl_Pa : ∃ T N, x_cl[7]? = some ("PaperFile$Pail", T, N) := ⟨_, _, rfl⟩
set_option maxRecDepth 40000 in
theorem cl_PW : ∃ T N, x_cl[8]? = some ("PaperFile$PageWalk", T, N) := ⟨_, _, rfl⟩
set_option maxRecDepth 40000 in
theorem cl_B : ∃ T N, x_cl[9]? = some ("PaperFile$Book", T, N) := ⟨_, _, rfl⟩
set_option maxRecDepth 40000 in
theorem cl_M : ∃ T N, x_cl[10]? = some ("PaperFileModel", T, N) := ⟨_, _, rfl⟩
set_option maxRecDepth 40000 in
theorem cl_MP : ∃ T N, x_cl[11]? = some ("PaperFileModel$Paper", T, N) := ⟨_, _, rfl⟩
set_option maxRecDepth 40000 in
theorem cl_MQ : ∃ T N, x_cl[12]? = some ("PaperFileModel$Part", T, N) := ⟨_, _, rfl⟩
set_option maxRecDepth 40000 in
theorem at_int : x_at 0 .int := ⟨rfl, by decide, x_in1 218 (by decide +kernel) rfl⟩
set_option maxRecDepth 40000 in
theorem at_byte : x_at 1 .byte := ⟨rfl, by decide, x_in1 165 (by decide +kernel) rfl⟩
set_option maxRecDepth 40000 in
theorem at_boolean : x_at 2 .boolean := ⟨rfl, by decide, x_in1 166 (by decide +kernel) rfl⟩
set_option maxRecDepth 40000 in
theorem at_long : x_at 3 .long := ⟨rfl, by decide, x_in6 30 (by decide +kernel) rfl⟩
set_option maxRecDepth 40000 in
theorem ob_1 : Cond.instanceMethod Lib.objectInit ∈ x_tbl ∧ Cond.code Lib.objectInit ⟨#[0xb1]⟩ 1 none ∈ x_tbl := ⟨x_in1 28 (by decide +kernel) rfl, x_in1 29 (rfl) rfl⟩
set_option maxRecDepth 40000 in
theorem o_PF_3 : Cond.methodLink "PaperFile" 3 Lib.objectInit ∈ x_tbl := x_in1 27 (by decide +kernel) rfl
set_option maxRecDepth 40000 in
theorem o_T_3 : Cond.methodLink "PaperFile$Text" 3 Lib.objectInit ∈ x_tbl := x_in1 35 (by decide +kernel) rfl
set_option maxRecDepth 40000 in
theorem o_P_3 : Cond.methodLink "PaperFile$Parts" 3 Lib.objectInit ∈ x_tbl := x_in1 172 (by decide +kernel) rfl
set_option maxRecDepth 40000 in
theorem o_R_3 : Cond.methodLink "PaperFile$Reader" 3 Lib.objectInit ∈ x_tbl := x_in1 224 (by decide +kernel) rfl
set_option maxRecDepth 40000 in
theorem o_O_3 : Cond.methodLink "PaperFile$Opener" 3 Lib.objectInit ∈ x_tbl := x_in1 237 (by decide +kernel) rfl
set_option maxRecDepth 40000 in
theorem o_Wr_3 : Cond.methodLink "PaperFile$Writer" 3 Lib.objectInit ∈ x_tbl := x_in2 40 (by decide +kernel) rfl
set_option maxRecDepth 40000 in
theorem o_D_3 : Cond.methodLink "PaperFile$Decoder" 3 Lib.objectInit ∈ x_tbl := x_in2 62 (by decide +kernel) rfl
set_option maxRecDepth 40000 in
theorem o_Pa_3 : Cond.methodLink "PaperFile$Pail" 3 Lib.objectInit ∈ x_tbl := x_in2 68 (by decide +kernel) rfl
set_option maxRecDepth 40000 in
theorem o_PW_3 : Cond.methodLink "PaperFile$PageWalk" 3 Lib.objectInit ∈ x_tbl := x_in2 119 (by decide +kernel) rfl
set_option maxRecDepth 40000 in
theorem o_B_3 : Cond.methodLink "PaperFile$Book" 3 Lib.objectInit ∈ x_tbl := x_in2 143 (by decide +kernel) rfl
set_option maxRecDepth 40000 in
theorem o_M_163 : Cond.methodLink "PaperFileModel" 163 Lib.objectInit ∈ x_tbl := x_in5 146 (by decide +kernel) rfl
set_option maxRecDepth 40000 in
theorem o_MP_3 : Cond.methodLink "PaperFileModel$Paper" 3 Lib.objectInit ∈ x_tbl := x_in5 231 (by decide +kernel) rfl
set_option maxRecDepth 40000 in
theorem o_MQ_3 : Cond.methodLink "PaperFileModel$Part" 3 Lib.objectInit ∈ x_tbl := x_in6 107 (by decide +kernel) rfl
