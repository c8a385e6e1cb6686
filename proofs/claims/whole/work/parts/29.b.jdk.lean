/-! the JDK: Math, and String constants -/
set_option maxRecDepth 40000 in
theorem fs_S_38 : Cond.fieldLink "java/lang/String" 38 "java/lang/String" "COMPACT_STRINGS" "Z" ∈ x_tbl := x_in1 49 (by decide +kernel) rfl
set_option maxRecDepth 40000 in
theorem fs_S_1053 : Cond.fieldLink "java/lang/String" 1053 "jdk/internal/util/Preconditions" "SIOOBE_FORMATTER" "Ljava/util/function/BiFunction;" ∈ x_tbl := x_in1 92 (by decide +kernel) rfl
set_option maxRecDepth 40000 in
theorem ac_P_79 : Cond.methodLink "PaperFile$Parts" 79 arraycopyName ∈ x_tbl := x_in4 18 (by decide +kernel) rfl
set_option maxRecDepth 40000 in
theorem ac_Pa_32 : Cond.methodLink "PaperFile$Pail" 32 arraycopyName ∈ x_tbl := x_in4 123 (by decide +kernel) rfl
set_option maxRecDepth 40000 in
theorem ac_Ar_150 : Cond.methodLink "java/util/Arrays" 150 arraycopyName ∈ x_tbl := x_in6 158 (by decide +kernel) rfl
set_option maxRecDepth 40000 in
theorem ac_M_323 : Cond.methodLink "PaperFileModel" 323 arraycopyName ∈ x_tbl := x_in7 58 (by decide +kernel) rfl
set_option maxRecDepth 40000 in
theorem fs_S_15 : Cond.fieldLink "java/lang/String" 15 "java/lang/String" "coder" "B" ∈ x_tbl := x_in7 201 (by decide +kernel) rfl
set_option maxRecDepth 40000 in
theorem fs_S_9 : Cond.fieldLink "java/lang/String" 9 "java/lang/String" "value" "[B" ∈ x_tbl := x_in7 202 (by decide +kernel) rfl
set_option maxRecDepth 40000 in
theorem ac_w : Cond.native arraycopyName ∈ x_tbl ∧ Cond.static arraycopyName ∈ x_tbl ∧ Cond.initialized "java/lang/System" ∈ x_tbl := ⟨x_in4 20 (by decide +kernel) rfl, x_in4 19 (by decide +kernel) rfl, x_in1 18 (by decide +kernel) rfl⟩
set_option maxRecDepth 40000 in
theorem mmax_w : Cond.static Lib.Math.max.name ∈ x_tbl ∧ Cond.initialized "java/lang/Math" ∈ x_tbl ∧ Cond.code Lib.Math.max.name Lib.Math.max.code 2 (some .int) ∈ x_tbl := ⟨x_in1 66 (by decide +kernel) rfl, x_in1 5 (by decide +kernel) rfl, x_in1 67 (rfl) rfl⟩
set_option maxRecDepth 40000 in
theorem kM_SL_92 : Cond.methodLink "java/lang/StringLatin1" 92 Lib.Math.max.name ∈ x_tbl := x_in1 65 (by decide +kernel) rfl
set_option maxRecDepth 40000 in
theorem kM_O_149 : Cond.methodLink "PaperFile$Opener" 149 Lib.Math.max.name ∈ x_tbl := x_in3 102 (by decide +kernel) rfl
set_option maxRecDepth 40000 in
theorem kM_P_43 : Cond.methodLink "PaperFile$Parts" 43 Lib.Math.max.name ∈ x_tbl := x_in3 165 (by decide +kernel) rfl
set_option maxRecDepth 40000 in
theorem kM_B_63 : Cond.methodLink "PaperFile$Book" 63 Lib.Math.max.name ∈ x_tbl := x_in4 206 (by decide +kernel) rfl
set_option maxRecDepth 40000 in
theorem kM_M_245 : Cond.methodLink "PaperFileModel" 245 Lib.Math.max.name ∈ x_tbl := x_in6 95 (by decide +kernel) rfl
set_option maxRecDepth 40000 in
theorem mmin_w : Cond.static Lib.Math.min.name ∈ x_tbl ∧ Cond.initialized "java/lang/Math" ∈ x_tbl ∧ Cond.code Lib.Math.min.name Lib.Math.min.code 2 (some .int) ∈ x_tbl := ⟨x_in1 69 (by decide +kernel) rfl, x_in1 5 (by decide +kernel) rfl, x_in1 70 (rfl) rfl⟩
set_option maxRecDepth 40000 in
theorem kM_SL_38 : Cond.methodLink "java/lang/StringLatin1" 38 Lib.Math.min.name ∈ x_tbl := x_in1 68 (by decide +kernel) rfl
set_option maxRecDepth 40000 in
theorem kM_Pa_23 : Cond.methodLink "PaperFile$Pail" 23 Lib.Math.min.name ∈ x_tbl := x_in4 97 (by decide +kernel) rfl
set_option maxRecDepth 40000 in
theorem kM_D_117 : Cond.methodLink "PaperFile$Decoder" 117 Lib.Math.min.name ∈ x_tbl := x_in4 169 (by decide +kernel) rfl
set_option maxRecDepth 40000 in
theorem kM_Ar_304 : Cond.methodLink "java/util/Arrays" 304 Lib.Math.min.name ∈ x_tbl := x_in6 157 (by decide +kernel) rfl
set_option maxRecDepth 40000 in
theorem kM_M_362 : Cond.methodLink "PaperFileModel" 362 Lib.Math.min.name ∈ x_tbl := x_in7 92 (by decide +kernel) rfl
set_option maxRecDepth 40000 in
theorem mabs_w : Cond.static Lib.Math.abs.name ∈ x_tbl ∧ Cond.initialized "java/lang/Math" ∈ x_tbl ∧ Cond.code Lib.Math.abs.name Lib.Math.abs.code 1 (some .int) ∈ x_tbl := ⟨x_in5 23 (by decide +kernel) rfl, x_in1 5 (by decide +kernel) rfl, x_in5 24 (rfl) rfl⟩
set_option maxRecDepth 40000 in
theorem kM_Pa_52 : Cond.methodLink "PaperFile$Pail" 52 Lib.Math.abs.name ∈ x_tbl := x_in5 22 (by decide +kernel) rfl
set_option maxRecDepth 40000 in
theorem mmaxL_w : Cond.static Lib.MathLoose.max_long.x ∈ x_tbl ∧ Cond.initialized "java/lang/Math" ∈ x_tbl ∧ Cond.code Lib.MathLoose.max_long.x Lib.MathLoose.max_long.code 4 (some .long) ∈ x_tbl := ⟨x_in5 32 (by decide +kernel) rfl, x_in1 5 (by decide +kernel) rfl, x_in5 33 (rfl) rfl⟩
set_option maxRecDepth 40000 in
theorem kM_Pa_64 : Cond.methodLink "PaperFile$Pail" 64 Lib.MathLoose.max_long.x ∈ x_tbl := x_in5 31 (by decide +kernel) rfl
set_option maxRecDepth 40000 in
theorem mminL_w : Cond.static Lib.MathLoose.min_long.x ∈ x_tbl ∧ Cond.initialized "java/lang/Math" ∈ x_tbl ∧ Cond.code Lib.MathLoose.min_long.x Lib.MathLoose.min_long.code 4 (some .long) ∈ x_tbl := ⟨x_in3 100 (by decide +kernel) rfl, x_in1 5 (by decide +kernel) rfl, x_in3 101 (rfl) rfl⟩
set_option maxRecDepth 40000 in
theorem kM_O_136 : Cond.methodLink "PaperFile$Opener" 136 Lib.MathLoose.min_long.x ∈ x_tbl := x_in3 99 (by decide +kernel) rfl
theorem c_S_isLatin1 (Z : xZ) (d : Nat) (h : xH) {i : Nat} {s : String × Nat × String × List Int} (hs : x_strs[i]? = some s) : xMet Z d Y_S_isLatin1 [xS (2 * i + 1)] h (fun v h2 => v = some (xI 1) ∧ h2 = h) := by
  refine xMet_of (by decide) (Nat.le_of_ble_eq_true rfl) (fun v h2 hq => by rw [hq.1]; exact Or.inr rfl) ?_
  refine x_getcompact (x_d C_S_isLatin1 0 rfl) fs_S_38 ?_
  refine x_if_eq (tgt := 17) (x_d C_S_isLatin1 1 rfl) rfl (fun q => absurd q (by omega)) (fun _ => ?_)
  refine x_aload_n (x_d C_S_isLatin1 2 rfl) rfl ?_
  refine x_getcoder (x_d C_S_isLatin1 3 rfl) fs_S_15 hs ?_
  refine x_if_ne (tgt := 17) (x_d C_S_isLatin1 4 rfl) rfl (fun q => absurd q (by omega)) (fun _ => ?_)
  refine x_iconst (x_d C_S_isLatin1 5 rfl) ⟨by omega, by omega⟩ ?_
  refine x_goto (tgt := 18) (x_d C_S_isLatin1 6 rfl) rfl ?_
  refine x_ireturn (x_d C_S_isLatin1 8 rfl) ?_
  exact ⟨rfl, rfl⟩
theorem c_S_coder (Z : xZ) (d : Nat) (h : xH) {i : Nat} {s : String × Nat × String × List Int} (hs : x_strs[i]? = some s) : xMet Z d Y_S_coder [xS (2 * i + 1)] h (fun v h2 => v = some (xI 0) ∧ h2 = h) := by
  refine xMet_of (by decide) (Nat.le_of_ble_eq_true rfl) (fun v h2 hq => by rw [hq.1]; exact ⟨by decide, by decide⟩) ?_
  refine x_getcompact (x_d C_S_coder 0 rfl) fs_S_38 ?_
  refine x_if_eq (tgt := 13) (x_d C_S_coder 1 rfl) rfl (fun q => absurd q (by omega)) (fun _ => ?_)
  refine x_aload_n (x_d C_S_coder 2 rfl) rfl ?_
  refine x_getcoder (x_d C_S_coder 3 rfl) fs_S_15 hs ?_
  refine x_goto (tgt := 14) (x_d C_S_coder 4 rfl) rfl ?_
  refine x_ireturn (x_d C_S_coder 6 rfl) ?_
  exact ⟨rfl, rfl⟩
theorem c_S_length (Z : xZ) (d : Nat) (h : xH) (hd : 1 ≤ d) {i : Nat} {s : String × Nat × String × List Int} (hs : x_strs[i]? = some s) : xMet Z d Y_S_length [xS (2 * i + 1)] h (fun v h2 => v = some (xI s.2.2.2.length) ∧ h2 = h) := by
  refine xMet_of (by decide) (Nat.le_of_ble_eq_true rfl) (fun v h2 hq => by rw [hq.1]; trivial) ?_
  refine x_aload_n (x_d C_S_length 0 rfl) rfl ?_
  refine x_getvalue (x_d C_S_length 1 rfl) fs_S_9 hs ?_
  refine x_alenS (x_d C_S_length 2 rfl) hs ?_
  refine x_aload_n (x_d C_S_length 3 rfl) rfl ?_
  refine x_invokevirtualS (st := [xI (s.2.2.2.length)]) (av := []) (x_d C_S_length 4 rfl) k_S_335 m_S_coder v_S_coder rfl hs rfl (Nat.le_of_ble_eq_true rfl) (by omega) rfl (c_S_coder Z (d - 1) (h) hs) ?_
  rintro _ _ ⟨rfl, hh⟩; rw [hh]; clear hh
  refine x_ishr (k := (0 : Int).toNat) (x_d C_S_length 5 rfl) (by omega) (by omega) ?_
  refine x_ireturn (x_d C_S_length 6 rfl) ?_
  refine ⟨congrArg (fun z => some (xI z)) ?_, rfl⟩
  show (s.2.2.2.length : Int) / 2 ^ 0 = _
  omega
theorem c_Pr_checkIndex (Z : xZ) (d : Nat) (h : xH) (x n : Int) (w : Option Nat ⊕ Nat) (hx : 0 ≤ x ∧ x < n) : xMet Z d Y_Pr_checkIndex [xI x, xI n, .inr (.inr w)] h (fun v h2 => v = some (xI x) ∧ h2 = h) := by
  refine xMet_of (by decide) (Nat.le_of_ble_eq_true rfl) (fun v h2 hq => by rw [hq.1]; trivial) ?_
  refine x_iload_n (x_d C_Pr_checkIndex 0 rfl) rfl ?_
  refine x_if_lt (tgt := 9) (x_d C_Pr_checkIndex 1 rfl) rfl (fun q => absurd q (by omega)) (fun _ => ?_)
  refine x_iload_n (x_d C_Pr_checkIndex 2 rfl) rfl ?_
  refine x_iload_n (x_d C_Pr_checkIndex 3 rfl) rfl ?_
  refine x_icmp_lt (tgt := 16) (x_d C_Pr_checkIndex 4 rfl) rfl (fun _ => ?_) (fun q => absurd q (by omega))
  refine x_iload_n (x_d C_Pr_checkIndex 10 rfl) rfl ?_
  refine x_ireturn (x_d C_Pr_checkIndex 11 rfl) ?_
  exact ⟨rfl, rfl⟩
theorem c_S_checkIndex (Z : xZ) (d : Nat) (h : xH) (hd : 1 ≤ d) (x n : Int) (hx : 0 ≤ x ∧ x < n) : xMet Z d Y_S_checkIndex [xI x, xI n] h (fun v h2 => v = none ∧ h2 = h) := by
  refine xMet_of (by decide) (Nat.le_of_ble_eq_true rfl) (fun v h2 hq => by rw [hq.1]; trivial) ?_
  refine x_iload_n (x_d C_S_checkIndex 0 rfl) rfl ?_
  refine x_iload_n (x_d C_S_checkIndex 1 rfl) rfl ?_
  refine x_getfmt (x_d C_S_checkIndex 2 rfl) fs_S_1053 ?_
  refine x_invokestatic (st := []) (av := [xI (x), xI (n), .inr (.inr (x_fm Z))]) (x_d C_S_checkIndex 3 rfl) k_S_1059 m_Pr_checkIndex s_Pr_checkIndex rfl (Nat.le_of_ble_eq_true rfl) (by omega) rfl (c_Pr_checkIndex Z (d - 1) (h) x n (x_fm Z) (by omega)) ?_
  rintro _ _ ⟨rfl, hh⟩; rw [hh]; clear hh
  refine x_pop (x_d C_S_checkIndex 4 rfl) rfl ?_
  refine x_return (x_d C_S_checkIndex 5 rfl) ?_
  exact ⟨rfl, rfl⟩
theorem c_SL_charAt (Z : xZ) (d : Nat) (h : xH) (hd : 2 ≤ d) {i : Nat} {s : String × Nat × String × List Int} (hs : x_strs[i]? = some s) (k : Int) (hk : 0 ≤ k ∧ k < s.2.2.2.length) : xMet Z d Y_SL_charAt [xS (2 * i + 2), xI k] h (fun v h2 => v = some (xI (s.2.2.2.getD k.toNat 0)) ∧ h2 = h) := by
  refine xMet_of (by decide) (Nat.le_of_ble_eq_true rfl) (fun v h2 hq => by rw [hq.1]; have hb := x_strs_byte hs k.toNat; exact ⟨hb.1, by have := hb.2; omega⟩) ?_
  have hb := x_strs_byte hs k.toNat
  refine x_iload_n (x_d C_SL_charAt 0 rfl) rfl ?_
  refine x_aload_n (x_d C_SL_charAt 1 rfl) rfl ?_
  refine x_alenS (x_d C_SL_charAt 2 rfl) hs ?_
  refine x_invokestatic (st := []) (av := [xI (k), xI (s.2.2.2.length)]) (x_d C_SL_charAt 3 rfl) k_SL_9 m_S_checkIndex s_S_checkIndex rfl (Nat.le_of_ble_eq_true rfl) (by omega) rfl (c_S_checkIndex Z (d - 1) (h) (by omega) k s.2.2.2.length (by omega)) ?_
  rintro _ _ ⟨rfl, hh⟩; rw [hh]; clear hh
  refine x_aload_n (x_d C_SL_charAt 4 rfl) rfl ?_
  refine x_iload_n (x_d C_SL_charAt 5 rfl) rfl ?_
  refine x_baldS (x_d C_SL_charAt 6 rfl) hs (by omega) (by omega) ?_
  refine x_sipush (x_d C_SL_charAt 7 rfl) (by omega) ?_
  refine x_iand255 (x_d C_SL_charAt 8 rfl) ?_
  refine x_i2c (x_d C_SL_charAt 9 rfl) (by omega) ?_
  refine x_ireturn (x_d C_SL_charAt 10 rfl) ?_
  exact ⟨congrArg (fun z => some (xI z)) (by omega), rfl⟩
theorem c_S_charAt (Z : xZ) (d : Nat) (h : xH) (hd : 3 ≤ d) {i : Nat} {s : String × Nat × String × List Int} (hs : x_strs[i]? = some s) (k : Int) (hk : 0 ≤ k ∧ k < s.2.2.2.length) : xMet Z d Y_S_charAt [xS (2 * i + 1), xI k] h (fun v h2 => v = some (xI (s.2.2.2.getD k.toNat 0)) ∧ h2 = h) := by
  refine xMet_of (by decide) (Nat.le_of_ble_eq_true rfl) (fun v h2 hq => by rw [hq.1]; have hb := x_strs_byte hs k.toNat; exact ⟨hb.1, by have := hb.2; omega⟩) ?_
  refine x_aload_n (x_d C_S_charAt 0 rfl) rfl ?_
  refine x_invokevirtualS (st := []) (av := []) (x_d C_S_charAt 1 rfl) k_S_492 m_S_isLatin1 v_S_isLatin1 rfl hs rfl (Nat.le_of_ble_eq_true rfl) (by omega) rfl (c_S_isLatin1 Z (d - 1) (h) hs) ?_
  rintro _ _ ⟨rfl, hh⟩; rw [hh]; clear hh
  refine x_if_eq (tgt := 16) (x_d C_S_charAt 2 rfl) rfl (fun q => absurd q (by omega)) (fun _ => ?_)
  refine x_aload_n (x_d C_S_charAt 3 rfl) rfl ?_
  refine x_getvalue (x_d C_S_charAt 4 rfl) fs_S_9 hs ?_
  refine x_iload_n (x_d C_S_charAt 5 rfl) rfl ?_
  refine x_invokestatic (st := []) (av := [xS (2 * i + 2), xI (k)]) (x_d C_S_charAt 6 rfl) k_S_495 m_SL_charAt s_SL_charAt rfl (Nat.le_of_ble_eq_true rfl) (by omega) rfl (c_SL_charAt Z (d - 1) (h) (by omega) hs k (by omega)) ?_
  rintro _ _ ⟨rfl, hh⟩; rw [hh]; clear hh
  refine x_ireturn (x_d C_S_charAt 7 rfl) ?_
  exact ⟨rfl, rfl⟩
