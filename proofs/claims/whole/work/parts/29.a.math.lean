/-! Math -/
section XMath
variable {Z : xZ} {d : Nat} {Y : xY} {pc index : Nat} {l : xL} {st : List xV} {h : xH} {Q : Option xV → xH → Prop}
theorem x_mmax {x y : Int} (hd : decode Y.2.1 pc = .ok (.invokestatic index, 3)) (hl : Cond.methodLink Y.1.cls index Lib.Math.max.name ∈ x_tbl) (hw : Cond.static Lib.Math.max.name ∈ x_tbl ∧ Cond.initialized "java/lang/Math" ∈ x_tbl ∧ Cond.code Lib.Math.max.name Lib.Math.max.code 2 (some .int) ∈ x_tbl) (hr : (st.map x_cat).sum ≤ 8) (hdd : 1 ≤ d) (kk : xW Z d Y (pc + 3) l (xI (max x y) :: st) h Q) : xW Z d Y pc l (xI y :: xI x :: st) h Q := by
  refine xW_any (h1 := h) (Nat.le_refl _) (Nat.le_refl _) (fun a b c => ⟨a, x_okS_I (by have h1 : x_i32 x := x_okS_hd (x_okS_tl b); have h2 : x_i32 y := x_okS_hd b; obtain ⟨p1, p2⟩ := h1; obtain ⟨p3, p4⟩ := h2; exact ⟨by omega, by omega⟩) (x_okS_tl (x_okS_tl b)), c⟩) (fun {p e R s m args below meth c H locs cells slots Q ls ad} o1 o2 fx hp hS hc1 hs1 hl1 kk => ?_) kk
  rw [Nat.sub_self, Nat.sub_self] at kk
  have kk := kk ad H locs ls (fun _ _ => rfl) hp hS hl1
  have hcat : ((x_st ad Z.2.2.2.1 st).map fun v => v.category).sum ≤ 8 := by rw [x_st_cat]; exact hr
  have hf := fx.2.2.2.2.2.2.1
  have hlo := fx.2.2.2.2.2.2.2.1
  refine va_mmax fx.1 fx.2.1 (fx.2.2.1.trans hl1.1.symm) fx.2.2.2.1 (fx.2.2.2.2.1 _ hl) (fx.2.2.2.2.1 _ hw.1) (fx.2.2.2.2.1 _ hw.2.1) (fx.2.2.2.2.1 _ hw.2.2) (by omega) (Nat.le_trans (Nat.add_le_add_right hcat _) (by omega)) (by omega) (by omega) hd ?_
  have e : (if Int32.ofInt x < Int32.ofInt y then Int32.ofInt y else Int32.ofInt x) = Int32.ofInt (max x y) := by
    by_cases hxy : x < y
    · rw [if_pos ((x_i32_lt (x_okS_hd (x_okS_tl o2)) (x_okS_hd o2)).mpr hxy), Int.max_eq_right (by omega)]
    · rw [if_neg (fun z => hxy ((x_i32_lt (x_okS_hd (x_okS_tl o2)) (x_okS_hd o2)).mp z)), Int.max_eq_left (by omega)]
  rw [e]
  exact kk
theorem x_mmin {x y : Int} (hd : decode Y.2.1 pc = .ok (.invokestatic index, 3)) (hl : Cond.methodLink Y.1.cls index Lib.Math.min.name ∈ x_tbl) (hw : Cond.static Lib.Math.min.name ∈ x_tbl ∧ Cond.initialized "java/lang/Math" ∈ x_tbl ∧ Cond.code Lib.Math.min.name Lib.Math.min.code 2 (some .int) ∈ x_tbl) (hr : (st.map x_cat).sum ≤ 8) (hdd : 1 ≤ d) (kk : xW Z d Y (pc + 3) l (xI (min x y) :: st) h Q) : xW Z d Y pc l (xI y :: xI x :: st) h Q := by
  refine xW_any (h1 := h) (Nat.le_refl _) (Nat.le_refl _) (fun a b c => ⟨a, x_okS_I (by have h1 : x_i32 x := x_okS_hd (x_okS_tl b); have h2 : x_i32 y := x_okS_hd b; obtain ⟨p1, p2⟩ := h1; obtain ⟨p3, p4⟩ := h2; exact ⟨by omega, by omega⟩) (x_okS_tl (x_okS_tl b)), c⟩) (fun {p e R s m args below meth c H locs cells slots Q ls ad} o1 o2 fx hp hS hc1 hs1 hl1 kk => ?_) kk
  rw [Nat.sub_self, Nat.sub_self] at kk
  have kk := kk ad H locs ls (fun _ _ => rfl) hp hS hl1
  have hcat : ((x_st ad Z.2.2.2.1 st).map fun v => v.category).sum ≤ 8 := by rw [x_st_cat]; exact hr
  have hf := fx.2.2.2.2.2.2.1
  have hlo := fx.2.2.2.2.2.2.2.1
  refine va_mmin fx.1 fx.2.1 (fx.2.2.1.trans hl1.1.symm) fx.2.2.2.1 (fx.2.2.2.2.1 _ hl) (fx.2.2.2.2.1 _ hw.1) (fx.2.2.2.2.1 _ hw.2.1) (fx.2.2.2.2.1 _ hw.2.2) (by omega) (Nat.le_trans (Nat.add_le_add_right hcat _) (by omega)) (by omega) (by omega) hd ?_
  have e : (if Int32.ofInt y < Int32.ofInt x then Int32.ofInt y else Int32.ofInt x) = Int32.ofInt (min x y) := by
    by_cases hxy : y < x
    · rw [if_pos ((x_i32_lt (x_okS_hd o2) (x_okS_hd (x_okS_tl o2))).mpr hxy), Int.min_eq_right (by omega)]
    · rw [if_neg (fun z => hxy ((x_i32_lt (x_okS_hd o2) (x_okS_hd (x_okS_tl o2))).mp z)), Int.min_eq_left (by omega)]
  rw [e]
  exact kk
theorem x_mabs {x : Int} (hd : decode Y.2.1 pc = .ok (.invokestatic index, 3)) (hl : Cond.methodLink Y.1.cls index Lib.Math.abs.name ∈ x_tbl) (hw : Cond.static Lib.Math.abs.name ∈ x_tbl ∧ Cond.initialized "java/lang/Math" ∈ x_tbl ∧ Cond.code Lib.Math.abs.name Lib.Math.abs.code 1 (some .int) ∈ x_tbl) (hr : (st.map x_cat).sum ≤ 8) (hdd : 1 ≤ d) (hx : -2147483648 < x) (kk : xW Z d Y (pc + 3) l (xI (if x < 0 then -x else x) :: st) h Q) : xW Z d Y pc l (xI x :: st) h Q := by
  refine xW_any (h1 := h) (Nat.le_refl _) (Nat.le_refl _) (fun a b c => ⟨a, x_okS_I (by have h1 : x_i32 x := x_okS_hd b; obtain ⟨p1, p2⟩ := h1; split <;> exact ⟨by omega, by omega⟩) (x_okS_tl b), c⟩) (fun {p e R s m args below meth c H locs cells slots Q ls ad} o1 o2 fx hp hS hc1 hs1 hl1 kk => ?_) kk
  rw [Nat.sub_self, Nat.sub_self] at kk
  have kk := kk ad H locs ls (fun _ _ => rfl) hp hS hl1
  have hcat : ((x_st ad Z.2.2.2.1 st).map fun v => v.category).sum ≤ 8 := by rw [x_st_cat]; exact hr
  have hf := fx.2.2.2.2.2.2.1
  have hlo := fx.2.2.2.2.2.2.2.1
  refine va_mabs fx.1 fx.2.1 (fx.2.2.1.trans hl1.1.symm) fx.2.2.2.1 (fx.2.2.2.2.1 _ hl) (fx.2.2.2.2.1 _ hw.1) (fx.2.2.2.2.1 _ hw.2.1) (fx.2.2.2.2.1 _ hw.2.2) (by omega) (Nat.le_trans (Nat.add_le_add_right hcat _) (by omega)) (by omega) (by omega) hd ?_
  have e : (if 0 ≤ Int32.ofInt x then Int32.ofInt x else 0 - Int32.ofInt x) = Int32.ofInt (if x < 0 then -x else x) := by
    have hi : x_i32 x := x_okS_hd o2
    by_cases hxy : x < 0
    · rw [if_pos hxy, if_neg (fun z => by rw [← x_ofInt_0, x_i32_le x_i32_0 hi] at z; omega), ← x_ofInt_0, ← Int32.ofInt_sub, Int.zero_sub]
    · rw [if_neg hxy, if_pos (by rw [← x_ofInt_0, x_i32_le x_i32_0 hi]; omega)]
  rw [e]
  exact kk
theorem x_mmaxL {x y : Int} (hd : decode Y.2.1 pc = .ok (.invokestatic index, 3)) (hl : Cond.methodLink Y.1.cls index Lib.MathLoose.max_long.x ∈ x_tbl) (hw : Cond.static Lib.MathLoose.max_long.x ∈ x_tbl ∧ Cond.initialized "java/lang/Math" ∈ x_tbl ∧ Cond.code Lib.MathLoose.max_long.x Lib.MathLoose.max_long.code 4 (some .long) ∈ x_tbl) (hr : (st.map x_cat).sum ≤ 8) (hdd : 1 ≤ d) (kk : xW Z d Y (pc + 3) l (xJ (max x y) :: st) h Q) : xW Z d Y pc l (xJ y :: xJ x :: st) h Q := by
  refine xW_any (h1 := h) (Nat.le_refl _) (Nat.le_refl _) (fun a b c => ⟨a, x_okS_J (by have h1 : x_i64 x := x_okS_hd (x_okS_tl b); have h2 : x_i64 y := x_okS_hd b; obtain ⟨p1, p2⟩ := h1; obtain ⟨p3, p4⟩ := h2; exact ⟨by omega, by omega⟩) (x_okS_tl (x_okS_tl b)), c⟩) (fun {p e R s m args below meth c H locs cells slots Q ls ad} o1 o2 fx hp hS hc1 hs1 hl1 kk => ?_) kk
  rw [Nat.sub_self, Nat.sub_self] at kk
  have kk := kk ad H locs ls (fun _ _ => rfl) hp hS hl1
  have hcat : ((x_st ad Z.2.2.2.1 st).map fun v => v.category).sum ≤ 8 := by rw [x_st_cat]; exact hr
  have hf := fx.2.2.2.2.2.2.1
  have hlo := fx.2.2.2.2.2.2.2.1
  refine va_mmax_long fx.1 fx.2.1 (fx.2.2.1.trans hl1.1.symm) fx.2.2.2.1 (fx.2.2.2.2.1 _ hl) (fx.2.2.2.2.1 _ hw.1) (fx.2.2.2.2.1 _ hw.2.1) (fx.2.2.2.2.1 _ hw.2.2) (by omega) (Nat.le_trans (Nat.add_le_add_right hcat _) (by omega)) (by omega) (by omega) hd ?_
  have e : (if Int64.ofInt y < Int64.ofInt x then Int64.ofInt x else Int64.ofInt y) = Int64.ofInt (max x y) := by
    by_cases hxy : y < x
    · rw [if_pos ((x_i64_lt (x_okS_hd o2) (x_okS_hd (x_okS_tl o2))).mpr hxy), Int.max_eq_left (by omega)]
    · rw [if_neg (fun z => hxy ((x_i64_lt (x_okS_hd o2) (x_okS_hd (x_okS_tl o2))).mp z)), Int.max_eq_right (by omega)]
  rw [e]
  exact kk
theorem x_mminL {x y : Int} (hd : decode Y.2.1 pc = .ok (.invokestatic index, 3)) (hl : Cond.methodLink Y.1.cls index Lib.MathLoose.min_long.x ∈ x_tbl) (hw : Cond.static Lib.MathLoose.min_long.x ∈ x_tbl ∧ Cond.initialized "java/lang/Math" ∈ x_tbl ∧ Cond.code Lib.MathLoose.min_long.x Lib.MathLoose.min_long.code 4 (some .long) ∈ x_tbl) (hr : (st.map x_cat).sum ≤ 8) (hdd : 1 ≤ d) (kk : xW Z d Y (pc + 3) l (xJ (min x y) :: st) h Q) : xW Z d Y pc l (xJ y :: xJ x :: st) h Q := by
  refine xW_any (h1 := h) (Nat.le_refl _) (Nat.le_refl _) (fun a b c => ⟨a, x_okS_J (by have h1 : x_i64 x := x_okS_hd (x_okS_tl b); have h2 : x_i64 y := x_okS_hd b; obtain ⟨p1, p2⟩ := h1; obtain ⟨p3, p4⟩ := h2; exact ⟨by omega, by omega⟩) (x_okS_tl (x_okS_tl b)), c⟩) (fun {p e R s m args below meth c H locs cells slots Q ls ad} o1 o2 fx hp hS hc1 hs1 hl1 kk => ?_) kk
  rw [Nat.sub_self, Nat.sub_self] at kk
  have kk := kk ad H locs ls (fun _ _ => rfl) hp hS hl1
  have hcat : ((x_st ad Z.2.2.2.1 st).map fun v => v.category).sum ≤ 8 := by rw [x_st_cat]; exact hr
  have hf := fx.2.2.2.2.2.2.1
  have hlo := fx.2.2.2.2.2.2.2.1
  refine va_mmin_long fx.1 fx.2.1 (fx.2.2.1.trans hl1.1.symm) fx.2.2.2.1 (fx.2.2.2.2.1 _ hl) (fx.2.2.2.2.1 _ hw.1) (fx.2.2.2.2.1 _ hw.2.1) (fx.2.2.2.2.1 _ hw.2.2) (by omega) (Nat.le_trans (Nat.add_le_add_right hcat _) (by omega)) (by omega) (by omega) hd ?_
  have e : (if Int64.ofInt y < Int64.ofInt x then Int64.ofInt y else Int64.ofInt x) = Int64.ofInt (min x y) := by
    by_cases hxy : y < x
    · rw [if_pos ((x_i64_lt (x_okS_hd o2) (x_okS_hd (x_okS_tl o2))).mpr hxy), Int.min_eq_right (by omega)]
    · rw [if_neg (fun z => hxy ((x_i64_lt (x_okS_hd o2) (x_okS_hd (x_okS_tl o2))).mp z)), Int.min_eq_left (by omega)]
  rw [e]
  exact kk
end XMath
