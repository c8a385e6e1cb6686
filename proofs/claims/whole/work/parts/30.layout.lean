/-! the cells that the constructors make: the class's 0 to 41, the reference's 42 to 51. q: numbers (32 * cell + field), r: references that change, A: arrays' contents, by their cells -/
def hF (q : Nat → Int) (r : Nat → Option Nat) (A : Nat → Nat → Int) : xH := [xB 0 [xC 1, xC 4, xC 10, xC 11, xC 16, xC 18, xC 23, xO (r 7), xO (r 8), xO (r 9), xO (r 10), xI (q 11)], xB 1 [xC 2, xC 3, xI (q 34), xI (q 35)], xA 1 10248 (A 2), xA 2 256 (A 3), xB 2 [xC 5, xC 6, xC 7, xC 8, xC 9, xI (q 133), xC 1], xA 0 12900 (A 5), xA 0 12900 (A 6), xA 0 12900 (A 7), xA 0 12900 (A 8), xA 0 12900 (A 9), xB 3 [xC 1, xC 4], xB 4 [xC 1, xC 4, xC 10, xC 12, xC 13, xC 14, xC 15, xO (r 359), xI (q 360), xI (q 361), xI (q 362), xI (q 363)], xA 0 6 (A 12), xA 0 300 (A 13), xA 0 300 (A 14), xA 0 300 (A 15), xB 5 [xC 1, xC 4, xC 17, xO (r 515), xO (r 516)], xA 0 300 (A 17), xB 6 [xC 1, xC 4, xO (r 578), xO (r 579), xO (r 580), xI (q 581), xI (q 582)], xB 7 [xC 20, xI (q 609), xI (q 610), xI (q 611)], xA 1 3000 (A 20), xB 7 [xC 22, xI (q 673), xI (q 674), xI (q 675)], xA 1 3000 (A 22), xB 8 [xC 24, xI (q 737), xC 25, xC 4, xO (r 740)], xA 0 300 (A 24), xA 2 300 (A 25), xB 9 [xC 27, xC 28, xC 29, xC 30, xC 31, xI (q 837), xI (q 838), xI (q 839), xI (q 840), xI (q 841), xI (q 842), xC 4], xA 0 300 (A 27), xA 0 300 (A 28), xA 2 300 (A 29), xA 2 300 (A 30), xA 2 300 (A 31), xB 9 [xC 33, xC 34, xC 35, xC 36, xC 37, xI (q 1029), xI (q 1030), xI (q 1031), xI (q 1032), xI (q 1033), xI (q 1034), xC 4], xA 0 300 (A 33), xA 0 300 (A 34), xA 2 300 (A 35), xA 2 300 (A 36), xA 2 300 (A 37), xB 7 [xC 39, xI (q 1217), xI (q 1218), xI (q 1219)], xA 1 6000 (A 39), xB 7 [xC 41, xI (q 1281), xI (q 1282), xI (q 1283)], xA 1 6000 (A 41), xB 10 [xO (r 1344), xI (q 1345), xI (q 1346), xC 43, xC 44, xI (q 1349), xO (r 1350), xO (r 1351), xC 45, xI (q 1353), xI (q 1354), xC 46, xC 47, xI (q 1357), xC 48, xI (q 1359), xI (q 1360), xC 49, xC 50, xC 51, xI (q 1364)], xA 1 101 (A 43), xA 1 4000 (A 44), xA 1 6001 (A 45), xA 1 7000 (A 46), xA 1 7000 (A 47), xA 1 6000 (A 48), xA 0 301 (A 49), xA 2 301 (A 50), xA 0 301 (A 51)]
/-- a truth as a number -/
def x_bo (b : Bool) : Int := if b = true then 1 else 0
theorem x_bo_in (b : Bool) : x_bo b = 0 ∨ x_bo b = 1 := by cases b <;> simp [x_bo]
theorem x_bo_t {p : Prop} [Decidable p] (h : p) : x_bo (decide p) = 1 := by rw [decide_eq_true h]; rfl
theorem x_bo_f {p : Prop} [Decidable p] (h : ¬ p) : x_bo (decide p) = 0 := by rw [decide_eq_false h]; rfl
theorem x_fitI (x : Int) : x_fit .int (xI x) := trivial
theorem x_fitZ (b : Bool) : x_fit .boolean (xI (x_bo b)) := x_bo_in b
set_option maxRecDepth 40000 in
theorem lc_T_54 : Cond.constantLong "PaperFile$Text" 54 (Int64.ofInt (-1)) ∈ x_tbl := by rw [show Int64.ofInt (-1) = (-1) by decide +kernel]; exact x_in3 55 (by decide +kernel) rfl
set_option maxRecDepth 40000 in
theorem lc_T_56 : Cond.constantLong "PaperFile$Text" 56 (Int64.ofInt 10) ∈ x_tbl := by rw [show Int64.ofInt 10 = 10 by decide +kernel]; exact x_in3 56 (by decide +kernel) rfl
set_option maxRecDepth 40000 in
theorem lc_T_58 : Cond.constantLong "PaperFile$Text" 58 (Int64.ofInt 48) ∈ x_tbl := by rw [show Int64.ofInt 48 = 48 by decide +kernel]; exact x_in3 57 (by decide +kernel) rfl
set_option maxRecDepth 40000 in
theorem lc_R_111 : Cond.constant "PaperFile$Reader" 111 (Int32.ofInt 65536) ∈ x_tbl := by rw [show Int32.ofInt 65536 = 65536 by decide +kernel]; exact x_in3 208 (by decide +kernel) rfl
set_option maxRecDepth 40000 in
theorem lc_D_130 : Cond.constantLong "PaperFile$Decoder" 130 (Int64.ofInt 85) ∈ x_tbl := by rw [show Int64.ofInt 85 = 85 by decide +kernel]; exact x_in4 178 (by decide +kernel) rfl
set_option maxRecDepth 40000 in
theorem lc_D_132 : Cond.constantLong "PaperFile$Decoder" 132 (Int64.ofInt 4294967296) ∈ x_tbl := by rw [show Int64.ofInt 4294967296 = 4294967296 by decide +kernel]; exact x_in4 179 (by decide +kernel) rfl
set_option maxRecDepth 40000 in
theorem lc_B_73 : Cond.constant "PaperFile$Book" 73 (Int32.ofInt 65535) ∈ x_tbl := by rw [show Int32.ofInt 65535 = 65535 by decide +kernel]; exact x_in4 239 (by decide +kernel) rfl
set_option maxRecDepth 40000 in
theorem lc_Pa_60 : Cond.constantLong "PaperFile$Pail" 60 (Int64.ofInt 10) ∈ x_tbl := by rw [show Int64.ofInt 10 = 10 by decide +kernel]; exact x_in5 29 (by decide +kernel) rfl
set_option maxRecDepth 40000 in
theorem lc_Pa_62 : Cond.constantLong "PaperFile$Pail" 62 (Int64.ofInt 48) ∈ x_tbl := by rw [show Int64.ofInt 48 = 48 by decide +kernel]; exact x_in5 30 (by decide +kernel) rfl
set_option maxRecDepth 40000 in
theorem lc_M_46 : Cond.constantLong "PaperFileModel" 46 (Int64.ofInt 9) ∈ x_tbl := by rw [show Int64.ofInt 9 = 9 by decide +kernel]; exact x_in6 80 (by decide +kernel) rfl
set_option maxRecDepth 40000 in
theorem lc_M_239 : Cond.constantLong "PaperFileModel" 239 (Int64.ofInt 300) ∈ x_tbl := by rw [show Int64.ofInt 300 = 300 by decide +kernel]; exact x_in6 87 (by decide +kernel) rfl
set_option maxRecDepth 40000 in
theorem lc_M_111 : Cond.constantLong "PaperFileModel" 111 (Int64.ofInt 20) ∈ x_tbl := by rw [show Int64.ofInt 20 = 20 by decide +kernel]; exact x_in6 88 (by decide +kernel) rfl
set_option maxRecDepth 40000 in
theorem lc_M_270 : Cond.constantLong "PaperFileModel" 270 (Int64.ofInt 10) ∈ x_tbl := by rw [show Int64.ofInt 10 = 10 by decide +kernel]; exact x_in6 93 (by decide +kernel) rfl
set_option maxRecDepth 40000 in
theorem lc_M_272 : Cond.constantLong "PaperFileModel" 272 (Int64.ofInt 48) ∈ x_tbl := by rw [show Int64.ofInt 48 = 48 by decide +kernel]; exact x_in6 94 (by decide +kernel) rfl
set_option maxRecDepth 40000 in
theorem lc_M_107 : Cond.constant "PaperFileModel" 107 (Int32.ofInt 65535) ∈ x_tbl := by rw [show Int32.ofInt 65535 = 65535 by decide +kernel]; exact x_in6 214 (by decide +kernel) rfl
set_option maxRecDepth 40000 in
theorem lc_M_321 : Cond.constantLong "PaperFileModel" 321 (Int64.ofInt 2) ∈ x_tbl := by rw [show Int64.ofInt 2 = 2 by decide +kernel]; exact x_in7 49 (by decide +kernel) rfl
set_option maxRecDepth 40000 in
theorem lc_M_336 : Cond.constantLong "PaperFileModel" 336 (Int64.ofInt (-1)) ∈ x_tbl := by rw [show Int64.ofInt (-1) = (-1) by decide +kernel]; exact x_in7 63 (by decide +kernel) rfl
set_option maxRecDepth 40000 in
theorem lc_M_365 : Cond.constantLong "PaperFileModel" 365 (Int64.ofInt 85) ∈ x_tbl := by rw [show Int64.ofInt 85 = 85 by decide +kernel]; exact x_in7 93 (by decide +kernel) rfl
set_option maxRecDepth 40000 in
theorem lc_M_367 : Cond.constantLong "PaperFileModel" 367 (Int64.ofInt 33) ∈ x_tbl := by rw [show Int64.ofInt 33 = 33 by decide +kernel]; exact x_in7 94 (by decide +kernel) rfl
set_option maxRecDepth 40000 in
theorem lc_M_369 : Cond.constantLong "PaperFileModel" 369 (Int64.ofInt 4294967296) ∈ x_tbl := by rw [show Int64.ofInt 4294967296 = 4294967296 by decide +kernel]; exact x_in7 95 (by decide +kernel) rfl
set_option maxRecDepth 40000 in
theorem lc_M_461 : Cond.constantLong "PaperFileModel" 461 (Int64.ofInt 5) ∈ x_tbl := by rw [show Int64.ofInt 5 = 5 by decide +kernel]; exact x_in7 196 (by decide +kernel) rfl
