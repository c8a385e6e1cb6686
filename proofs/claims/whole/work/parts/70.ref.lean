/-! the reference: scanning -/
theorem c_M_isWhite (Z : xZ) (d : Nat) (h : xH) (c : Int) : xMet Z d Y_M_isWhite [xI c] h (fun v0 h2 => v0 = some (xI (x_bo (s_white c))) ∧ h2 = h) := by
  refine xMet_of (by decide) (Nat.le_of_ble_eq_true rfl) (fun v0 h2 hq => by rw [hq.1]; exact x_fitZ _) ?_
  refine x_iload_n (x_d C_M_isWhite 0 rfl) rfl ?_
  refine x_bipush (x_d C_M_isWhite 1 rfl) (by omega) ?_
  refine x_icmp_eq (tgt := 18) (x_d C_M_isWhite 2 rfl) rfl (fun c1 => ?_) (fun c1 => ?_)
  · refine x_iconst (x_d C_M_isWhite 9 rfl) ⟨by omega, by omega⟩ ?_
    refine x_goto (tgt := 23) (x_d C_M_isWhite 10 rfl) rfl ?_
    refine x_ireturn (x_d C_M_isWhite 12 rfl) ?_
    exact ⟨congrArg (fun z => some (xI z)) (by rw [s_white_t (by omega)]; rfl), rfl⟩
  · refine x_iload_n (x_d C_M_isWhite 3 rfl) rfl ?_
    refine x_bipush (x_d C_M_isWhite 4 rfl) (by omega) ?_
    refine x_icmp_eq (tgt := 18) (x_d C_M_isWhite 5 rfl) rfl (fun c2 => ?_) (fun c2 => ?_)
    · refine x_iconst (x_d C_M_isWhite 9 rfl) ⟨by omega, by omega⟩ ?_
      refine x_goto (tgt := 23) (x_d C_M_isWhite 10 rfl) rfl ?_
      refine x_ireturn (x_d C_M_isWhite 12 rfl) ?_
      exact ⟨congrArg (fun z => some (xI z)) (by rw [s_white_t (by omega)]; rfl), rfl⟩
    · refine x_iload_n (x_d C_M_isWhite 6 rfl) rfl ?_
      refine x_bipush (x_d C_M_isWhite 7 rfl) (by omega) ?_
      refine x_icmp_ne (tgt := 22) (x_d C_M_isWhite 8 rfl) rfl (fun c3 => ?_) (fun c3 => ?_)
      · refine x_iconst (x_d C_M_isWhite 11 rfl) ⟨by omega, by omega⟩ ?_
        refine x_ireturn (x_d C_M_isWhite 12 rfl) ?_
        exact ⟨congrArg (fun z => some (xI z)) (by rw [s_white_f (by omega)]; rfl), rfl⟩
      · refine x_iconst (x_d C_M_isWhite 9 rfl) ⟨by omega, by omega⟩ ?_
        refine x_goto (tgt := 23) (x_d C_M_isWhite 10 rfl) rfl ?_
        refine x_ireturn (x_d C_M_isWhite 12 rfl) ?_
        exact ⟨congrArg (fun z => some (xI z)) (by rw [s_white_t (by omega)]; rfl), rfl⟩
theorem s_delim_t {c : Int} (h : c = 40 ∨ c = 41 ∨ c = 60 ∨ c = 62 ∨ c = 91 ∨ c = 93 ∨ c = 47) : s_delim c = true := by
  unfold s_delim
  simp only [Bool.or_eq_true, decide_eq_true_eq]
  omega
theorem s_delim_f {c : Int} (h : ¬ (c = 40 ∨ c = 41 ∨ c = 60 ∨ c = 62 ∨ c = 91 ∨ c = 93 ∨ c = 47)) : s_delim c = false := by
  unfold s_delim
  simp only [Bool.or_eq_false_iff, decide_eq_false_iff_not]
  omega
theorem c_M_isDelimiter (Z : xZ) (d : Nat) (h : xH) (c : Int) : xMet Z d Y_M_isDelimiter [xI c] h (fun v0 h2 => v0 = some (xI (x_bo (s_delim c))) ∧ h2 = h) := by
  refine xMet_of (by decide) (Nat.le_of_ble_eq_true rfl) (fun v0 h2 hq => by rw [hq.1]; exact x_fitZ _) ?_
  refine x_iload_n (x_d C_M_isDelimiter 0 rfl) rfl ?_
  refine x_bipush (x_d C_M_isDelimiter 1 rfl) (by omega) ?_
  refine x_icmp_eq (tgt := 42) (x_d C_M_isDelimiter 2 rfl) rfl (fun c1 => ?_) (fun c1 => ?_)
  · refine x_iconst (x_d C_M_isDelimiter 21 rfl) ⟨by omega, by omega⟩ ?_
    refine x_goto (tgt := 47) (x_d C_M_isDelimiter 22 rfl) rfl ?_
    refine x_ireturn (x_d C_M_isDelimiter 24 rfl) ?_
    exact ⟨congrArg (fun z => some (xI z)) (by rw [s_delim_t (by omega)]; rfl), rfl⟩
  · refine x_iload_n (x_d C_M_isDelimiter 3 rfl) rfl ?_
    refine x_bipush (x_d C_M_isDelimiter 4 rfl) (by omega) ?_
    refine x_icmp_eq (tgt := 42) (x_d C_M_isDelimiter 5 rfl) rfl (fun c2 => ?_) (fun c2 => ?_)
    · refine x_iconst (x_d C_M_isDelimiter 21 rfl) ⟨by omega, by omega⟩ ?_
      refine x_goto (tgt := 47) (x_d C_M_isDelimiter 22 rfl) rfl ?_
      refine x_ireturn (x_d C_M_isDelimiter 24 rfl) ?_
      exact ⟨congrArg (fun z => some (xI z)) (by rw [s_delim_t (by omega)]; rfl), rfl⟩
    · refine x_iload_n (x_d C_M_isDelimiter 6 rfl) rfl ?_
      refine x_bipush (x_d C_M_isDelimiter 7 rfl) (by omega) ?_
      refine x_icmp_eq (tgt := 42) (x_d C_M_isDelimiter 8 rfl) rfl (fun c3 => ?_) (fun c3 => ?_)
      · refine x_iconst (x_d C_M_isDelimiter 21 rfl) ⟨by omega, by omega⟩ ?_
        refine x_goto (tgt := 47) (x_d C_M_isDelimiter 22 rfl) rfl ?_
        refine x_ireturn (x_d C_M_isDelimiter 24 rfl) ?_
        exact ⟨congrArg (fun z => some (xI z)) (by rw [s_delim_t (by omega)]; rfl), rfl⟩
      · refine x_iload_n (x_d C_M_isDelimiter 9 rfl) rfl ?_
        refine x_bipush (x_d C_M_isDelimiter 10 rfl) (by omega) ?_
        refine x_icmp_eq (tgt := 42) (x_d C_M_isDelimiter 11 rfl) rfl (fun c4 => ?_) (fun c4 => ?_)
        · refine x_iconst (x_d C_M_isDelimiter 21 rfl) ⟨by omega, by omega⟩ ?_
          refine x_goto (tgt := 47) (x_d C_M_isDelimiter 22 rfl) rfl ?_
          refine x_ireturn (x_d C_M_isDelimiter 24 rfl) ?_
          exact ⟨congrArg (fun z => some (xI z)) (by rw [s_delim_t (by omega)]; rfl), rfl⟩
        · refine x_iload_n (x_d C_M_isDelimiter 12 rfl) rfl ?_
          refine x_bipush (x_d C_M_isDelimiter 13 rfl) (by omega) ?_
          refine x_icmp_eq (tgt := 42) (x_d C_M_isDelimiter 14 rfl) rfl (fun c5 => ?_) (fun c5 => ?_)
          · refine x_iconst (x_d C_M_isDelimiter 21 rfl) ⟨by omega, by omega⟩ ?_
            refine x_goto (tgt := 47) (x_d C_M_isDelimiter 22 rfl) rfl ?_
            refine x_ireturn (x_d C_M_isDelimiter 24 rfl) ?_
            exact ⟨congrArg (fun z => some (xI z)) (by rw [s_delim_t (by omega)]; rfl), rfl⟩
          · refine x_iload_n (x_d C_M_isDelimiter 15 rfl) rfl ?_
            refine x_bipush (x_d C_M_isDelimiter 16 rfl) (by omega) ?_
            refine x_icmp_eq (tgt := 42) (x_d C_M_isDelimiter 17 rfl) rfl (fun c6 => ?_) (fun c6 => ?_)
            · refine x_iconst (x_d C_M_isDelimiter 21 rfl) ⟨by omega, by omega⟩ ?_
              refine x_goto (tgt := 47) (x_d C_M_isDelimiter 22 rfl) rfl ?_
              refine x_ireturn (x_d C_M_isDelimiter 24 rfl) ?_
              exact ⟨congrArg (fun z => some (xI z)) (by rw [s_delim_t (by omega)]; rfl), rfl⟩
            · refine x_iload_n (x_d C_M_isDelimiter 18 rfl) rfl ?_
              refine x_bipush (x_d C_M_isDelimiter 19 rfl) (by omega) ?_
              refine x_icmp_ne (tgt := 46) (x_d C_M_isDelimiter 20 rfl) rfl (fun c7 => ?_) (fun c7 => ?_)
              · refine x_iconst (x_d C_M_isDelimiter 23 rfl) ⟨by omega, by omega⟩ ?_
                refine x_ireturn (x_d C_M_isDelimiter 24 rfl) ?_
                exact ⟨congrArg (fun z => some (xI z)) (by rw [s_delim_f (by omega)]; rfl), rfl⟩
              · refine x_iconst (x_d C_M_isDelimiter 21 rfl) ⟨by omega, by omega⟩ ?_
                refine x_goto (tgt := 47) (x_d C_M_isDelimiter 22 rfl) rfl ?_
                refine x_ireturn (x_d C_M_isDelimiter 24 rfl) ?_
                exact ⟨congrArg (fun z => some (xI z)) (by rw [s_delim_t (by omega)]; rfl), rfl⟩
theorem c_M_isRegular (Z : xZ) (d : Nat) (h : xH) (hd : 1 ≤ d) (c : Int) : xMet Z d Y_M_isRegular [xI c] h (fun v h2 => v = some (xI (x_bo (s_reg c))) ∧ h2 = h) := by
  refine xMet_of (by decide) (Nat.le_of_ble_eq_true rfl) (fun v h2 hq => by rw [hq.1]; exact x_fitZ _) ?_
  refine x_iload_n (x_d C_M_isRegular 0 rfl) rfl ?_
  refine x_bipush (x_d C_M_isRegular 1 rfl) (by omega) ?_
  refine x_icmp_lt (tgt := 23) (x_d C_M_isRegular 2 rfl) rfl (fun c1 => ?_) (fun c1 => ?_)
  · refine x_iconst (x_d C_M_isRegular 11 rfl) ⟨by omega, by omega⟩ ?_
    refine x_ireturn (x_d C_M_isRegular 12 rfl) ?_
    exact ⟨congrArg (fun z => some (xI z)) (by unfold s_reg; first | (rw [decide_eq_false (show ¬ 33 ≤ c by omega)]; rfl) | (rw [decide_eq_false (show ¬ c ≤ 126 by omega), Bool.and_false]; rfl) | (rw [show s_delim c = true from x_bo_1.mp (by omega), Bool.not_true, Bool.and_false]; rfl)), rfl⟩
  · refine x_iload_n (x_d C_M_isRegular 3 rfl) rfl ?_
    refine x_bipush (x_d C_M_isRegular 4 rfl) (by omega) ?_
    refine x_icmp_gt (tgt := 23) (x_d C_M_isRegular 5 rfl) rfl (fun c2 => ?_) (fun c2 => ?_)
    · refine x_iconst (x_d C_M_isRegular 11 rfl) ⟨by omega, by omega⟩ ?_
      refine x_ireturn (x_d C_M_isRegular 12 rfl) ?_
      exact ⟨congrArg (fun z => some (xI z)) (by unfold s_reg; first | (rw [decide_eq_false (show ¬ 33 ≤ c by omega)]; rfl) | (rw [decide_eq_false (show ¬ c ≤ 126 by omega), Bool.and_false]; rfl) | (rw [show s_delim c = true from x_bo_1.mp (by omega), Bool.not_true, Bool.and_false]; rfl)), rfl⟩
    · refine x_iload_n (x_d C_M_isRegular 6 rfl) rfl ?_
      refine x_invokestatic (st := []) (av := [xI (c)]) (x_d C_M_isRegular 7 rfl) k_M_1 m_M_isDelimiter s_M_isDelimiter rfl (Nat.le_of_ble_eq_true rfl) (by omega) rfl (c_M_isDelimiter Z (d - 1) (h) c) ?_
      rintro v_ _ ⟨hv_, rfl⟩
      obtain rfl : v_ = some (xI (x_bo (s_delim c))) := hv_
      refine x_if_ne (tgt := 23) (x_d C_M_isRegular 8 rfl) rfl (fun c3 => ?_) (fun c3 => ?_)
      · refine x_iconst (x_d C_M_isRegular 11 rfl) ⟨by omega, by omega⟩ ?_
        refine x_ireturn (x_d C_M_isRegular 12 rfl) ?_
        exact ⟨congrArg (fun z => some (xI z)) (by unfold s_reg; first | (rw [decide_eq_false (show ¬ 33 ≤ c by omega)]; rfl) | (rw [decide_eq_false (show ¬ c ≤ 126 by omega), Bool.and_false]; rfl) | (rw [show s_delim c = true from x_bo_1.mp (by omega), Bool.not_true, Bool.and_false]; rfl)), rfl⟩
      · refine x_iconst (x_d C_M_isRegular 9 rfl) ⟨by omega, by omega⟩ ?_
        refine x_goto (tgt := 24) (x_d C_M_isRegular 10 rfl) rfl ?_
        refine x_ireturn (x_d C_M_isRegular 12 rfl) ?_
        exact ⟨congrArg (fun z => some (xI z)) (by unfold s_reg; rw [decide_eq_true (show 33 ≤ c by omega), decide_eq_true (show c ≤ 126 by omega), show s_delim c = false from x_bo_0.mp (by omega)]; rfl), rfl⟩
theorem c_M_isDigit (Z : xZ) (d : Nat) (h : xH) (c : Int) : xMet Z d Y_M_isDigit [xI c] h (fun v0 h2 => v0 = some (xI (x_bo (s_dig c))) ∧ h2 = h) := by
  refine xMet_of (by decide) (Nat.le_of_ble_eq_true rfl) (fun v0 h2 hq => by rw [hq.1]; exact x_fitZ _) ?_
  refine x_iload_n (x_d C_M_isDigit 0 rfl) rfl ?_
  refine x_bipush (x_d C_M_isDigit 1 rfl) (by omega) ?_
  refine x_icmp_lt (tgt := 16) (x_d C_M_isDigit 2 rfl) rfl (fun c1 => ?_) (fun c1 => ?_)
  · refine x_iconst (x_d C_M_isDigit 8 rfl) ⟨by omega, by omega⟩ ?_
    refine x_ireturn (x_d C_M_isDigit 9 rfl) ?_
    exact ⟨congrArg (fun z => some (xI z)) (by rw [s_dig_f (by omega)]; rfl), rfl⟩
  · refine x_iload_n (x_d C_M_isDigit 3 rfl) rfl ?_
    refine x_bipush (x_d C_M_isDigit 4 rfl) (by omega) ?_
    refine x_icmp_gt (tgt := 16) (x_d C_M_isDigit 5 rfl) rfl (fun c2 => ?_) (fun c2 => ?_)
    · refine x_iconst (x_d C_M_isDigit 8 rfl) ⟨by omega, by omega⟩ ?_
      refine x_ireturn (x_d C_M_isDigit 9 rfl) ?_
      exact ⟨congrArg (fun z => some (xI z)) (by rw [s_dig_f (by omega)]; rfl), rfl⟩
    · refine x_iconst (x_d C_M_isDigit 6 rfl) ⟨by omega, by omega⟩ ?_
      refine x_goto (tgt := 17) (x_d C_M_isDigit 7 rfl) rfl ?_
      refine x_ireturn (x_d C_M_isDigit 9 rfl) ?_
      exact ⟨congrArg (fun z => some (xI z)) (by rw [s_dig_t (by omega)]; rfl), rfl⟩
theorem c_M_in (Z : xZ) (d : Nat) (h : xH) (v a b : Int) : xMet Z d Y_M_in [xJ v, xJ a, xJ b] h (fun v0 h2 => v0 = some (xI (x_bo (decide (a ≤ v ∧ v ≤ b)))) ∧ h2 = h) := by
  refine xMet_of (by decide) (Nat.le_of_ble_eq_true rfl) (fun v0 h2 hq => by rw [hq.1]; exact x_fitZ _) ?_
  have h1 : (x_lc v a < 0 ∧ v < a) ∨ (0 ≤ x_lc v a ∧ a ≤ v) := by unfold x_lc; (repeat' split) <;> omega
  have h2 : (0 < x_lc v b ∧ b < v) ∨ (x_lc v b ≤ 0 ∧ v ≤ b) := by unfold x_lc; (repeat' split) <;> omega
  refine x_lload_n (x_d C_M_in 0 rfl) rfl ?_
  refine x_lload_n (x_d C_M_in 1 rfl) rfl ?_
  refine x_lcmp (x_d C_M_in 2 rfl) ?_
  refine x_if_lt (tgt := 17) (x_d C_M_in 3 rfl) rfl (fun c1 => ?_) (fun c1 => ?_)
  · refine x_iconst (x_d C_M_in 10 rfl) ⟨by omega, by omega⟩ ?_
    refine x_ireturn (x_d C_M_in 11 rfl) ?_
    exact ⟨congrArg (fun z => some (xI z)) (x_bo_f (by omega)).symm, rfl⟩
  · refine x_lload_n (x_d C_M_in 4 rfl) rfl ?_
    refine x_lload (x_d C_M_in 5 rfl) rfl ?_
    refine x_lcmp (x_d C_M_in 6 rfl) ?_
    refine x_if_gt (tgt := 17) (x_d C_M_in 7 rfl) rfl (fun c2 => ?_) (fun c2 => ?_)
    · refine x_iconst (x_d C_M_in 10 rfl) ⟨by omega, by omega⟩ ?_
      refine x_ireturn (x_d C_M_in 11 rfl) ?_
      exact ⟨congrArg (fun z => some (xI z)) (x_bo_f (by omega)).symm, rfl⟩
    · refine x_iconst (x_d C_M_in 8 rfl) ⟨by omega, by omega⟩ ?_
      refine x_goto (tgt := 18) (x_d C_M_in 9 rfl) rfl ?_
      refine x_ireturn (x_d C_M_in 11 rfl) ?_
      exact ⟨congrArg (fun z => some (xI z)) (x_bo_t (by omega)).symm, rfl⟩
theorem c_M_hexOf (Z : xZ) (d : Nat) (h : xH) (hd : 1 ≤ d) (c : Int) (hc : -1000 ≤ c ∧ c ≤ 1000) : xMet Z d Y_M_hexOf [xI c] h (fun v h2 => v = some (xI (s_hex c)) ∧ h2 = h) := by
  refine xMet_of (by decide) (Nat.le_of_ble_eq_true rfl) (fun v h2 hq => by rw [hq.1]; trivial) ?_
  have hdg : (x_bo (s_dig c) = 1 ∧ (48 ≤ c ∧ c ≤ 57)) ∨ (x_bo (s_dig c) = 0 ∧ ¬ (48 ≤ c ∧ c ≤ 57)) := by
    by_cases e : 48 ≤ c ∧ c ≤ 57
    · exact Or.inl ⟨by rw [s_dig_t e]; rfl, e⟩
    · exact Or.inr ⟨by rw [s_dig_f e]; rfl, e⟩
  refine x_iload_n (x_d C_M_hexOf 0 rfl) rfl ?_
  refine x_invokestatic (st := []) (av := [xI (c)]) (x_d C_M_hexOf 1 rfl) k_M_52 m_M_isDigit s_M_isDigit rfl (Nat.le_of_ble_eq_true rfl) (by omega) rfl (c_M_isDigit Z (d - 1) (h) c) ?_
  rintro v_ _ ⟨hv_, rfl⟩
  obtain rfl : v_ = some (xI (x_bo (s_dig c))) := hv_
  refine x_if_eq (tgt := 14) (x_d C_M_hexOf 2 rfl) rfl (fun c1 => ?_) (fun c1 => ?_)
  · refine x_iload_n (x_d C_M_hexOf 7 rfl) rfl ?_
    refine x_bipush (x_d C_M_hexOf 8 rfl) (by omega) ?_
    refine x_icmp_lt (tgt := 36) (x_d C_M_hexOf 9 rfl) rfl (fun c2 => ?_) (fun c2 => ?_)
    · refine x_iload_n (x_d C_M_hexOf 19 rfl) rfl ?_
      refine x_bipush (x_d C_M_hexOf 20 rfl) (by omega) ?_
      refine x_icmp_lt (tgt := 58) (x_d C_M_hexOf 21 rfl) rfl (fun c3 => ?_) (fun c3 => ?_)
      · refine x_iconst (x_d C_M_hexOf 31 rfl) ⟨by omega, by omega⟩ ?_
        refine x_ireturn (x_d C_M_hexOf 32 rfl) ?_
        exact ⟨congrArg (fun z => some (xI z)) (by unfold s_hex; (repeat' split) <;> omega), rfl⟩
      · refine x_iload_n (x_d C_M_hexOf 22 rfl) rfl ?_
        refine x_bipush (x_d C_M_hexOf 23 rfl) (by omega) ?_
        refine x_icmp_gt (tgt := 58) (x_d C_M_hexOf 24 rfl) rfl (fun c4 => ?_) (fun c4 => ?_)
        · refine x_iconst (x_d C_M_hexOf 31 rfl) ⟨by omega, by omega⟩ ?_
          refine x_ireturn (x_d C_M_hexOf 32 rfl) ?_
          exact ⟨congrArg (fun z => some (xI z)) (by unfold s_hex; (repeat' split) <;> omega), rfl⟩
        · refine x_iload_n (x_d C_M_hexOf 25 rfl) rfl ?_
          refine x_bipush (x_d C_M_hexOf 26 rfl) (by omega) ?_
          refine x_isub (x_d C_M_hexOf 27 rfl) ⟨by omega, by omega⟩ ?_
          refine x_bipush (x_d C_M_hexOf 28 rfl) (by omega) ?_
          refine x_iadd (x_d C_M_hexOf 29 rfl) ⟨by omega, by omega⟩ ?_
          refine x_goto (tgt := 59) (x_d C_M_hexOf 30 rfl) rfl ?_
          refine x_ireturn (x_d C_M_hexOf 32 rfl) ?_
          exact ⟨congrArg (fun z => some (xI z)) (by unfold s_hex; (repeat' split) <;> omega), rfl⟩
    · refine x_iload_n (x_d C_M_hexOf 10 rfl) rfl ?_
      refine x_bipush (x_d C_M_hexOf 11 rfl) (by omega) ?_
      refine x_icmp_gt (tgt := 36) (x_d C_M_hexOf 12 rfl) rfl (fun c5 => ?_) (fun c5 => ?_)
      · refine x_iload_n (x_d C_M_hexOf 19 rfl) rfl ?_
        refine x_bipush (x_d C_M_hexOf 20 rfl) (by omega) ?_
        refine x_icmp_lt (tgt := 58) (x_d C_M_hexOf 21 rfl) rfl (fun c6 => ?_) (fun c6 => ?_)
        · refine x_iconst (x_d C_M_hexOf 31 rfl) ⟨by omega, by omega⟩ ?_
          refine x_ireturn (x_d C_M_hexOf 32 rfl) ?_
          exact ⟨congrArg (fun z => some (xI z)) (by unfold s_hex; (repeat' split) <;> omega), rfl⟩
        · refine x_iload_n (x_d C_M_hexOf 22 rfl) rfl ?_
          refine x_bipush (x_d C_M_hexOf 23 rfl) (by omega) ?_
          refine x_icmp_gt (tgt := 58) (x_d C_M_hexOf 24 rfl) rfl (fun c7 => ?_) (fun c7 => ?_)
          · refine x_iconst (x_d C_M_hexOf 31 rfl) ⟨by omega, by omega⟩ ?_
            refine x_ireturn (x_d C_M_hexOf 32 rfl) ?_
            exact ⟨congrArg (fun z => some (xI z)) (by unfold s_hex; (repeat' split) <;> omega), rfl⟩
          · refine x_iload_n (x_d C_M_hexOf 25 rfl) rfl ?_
            refine x_bipush (x_d C_M_hexOf 26 rfl) (by omega) ?_
            refine x_isub (x_d C_M_hexOf 27 rfl) ⟨by omega, by omega⟩ ?_
            refine x_bipush (x_d C_M_hexOf 28 rfl) (by omega) ?_
            refine x_iadd (x_d C_M_hexOf 29 rfl) ⟨by omega, by omega⟩ ?_
            refine x_goto (tgt := 59) (x_d C_M_hexOf 30 rfl) rfl ?_
            refine x_ireturn (x_d C_M_hexOf 32 rfl) ?_
            exact ⟨congrArg (fun z => some (xI z)) (by unfold s_hex; (repeat' split) <;> omega), rfl⟩
      · refine x_iload_n (x_d C_M_hexOf 13 rfl) rfl ?_
        refine x_bipush (x_d C_M_hexOf 14 rfl) (by omega) ?_
        refine x_isub (x_d C_M_hexOf 15 rfl) ⟨by omega, by omega⟩ ?_
        refine x_bipush (x_d C_M_hexOf 16 rfl) (by omega) ?_
        refine x_iadd (x_d C_M_hexOf 17 rfl) ⟨by omega, by omega⟩ ?_
        refine x_goto (tgt := 59) (x_d C_M_hexOf 18 rfl) rfl ?_
        refine x_ireturn (x_d C_M_hexOf 32 rfl) ?_
        exact ⟨congrArg (fun z => some (xI z)) (by unfold s_hex; (repeat' split) <;> omega), rfl⟩
  · refine x_iload_n (x_d C_M_hexOf 3 rfl) rfl ?_
    refine x_bipush (x_d C_M_hexOf 4 rfl) (by omega) ?_
    refine x_isub (x_d C_M_hexOf 5 rfl) ⟨by omega, by omega⟩ ?_
    refine x_goto (tgt := 59) (x_d C_M_hexOf 6 rfl) rfl ?_
    refine x_ireturn (x_d C_M_hexOf 32 rfl) ?_
    exact ⟨congrArg (fun z => some (xI z)) (by unfold s_hex; (repeat' split) <;> omega), rfl⟩
theorem w_M_white_0 (Z : xZ) (d : Nat) (q : Nat → Int) (r : Nat → Option Nat) (A : Nat → Nat → Int) (dy : xH) (hd : 1 ≤ d) (X : Nat → Int) (f : Int) (hf : 0 ≤ f) (hn : 0 ≤ q 1345 ∧ q 1345 ≤ 4000) (hX : ∀ k : Nat, (k : Int) < q 1345 → A 44 k = X (f.toNat + k)) : ∀ (m : Nat) (j : Int), (q 1345 - j).toNat = m → 0 ≤ j ∧ j ≤ q 1345 → xW Z d Y_M_white 0 [(0, xC 42)] [] (hF (x_up q 1346 j) (x_up r 1344 (some 44)) A ++ dy) (fun v h2 => v = none ∧ h2 = hF (x_up q 1346 (s_sc s_white X (f + q 1345) (f + j) - f)) (x_up r 1344 (some 44)) A ++ dy) := by
  intro m
  induction m using Nat.strongRecOn with
  | ind m ih =>
  intro j hm hj
  have hXi : ∀ u : Int, 0 ≤ u → u < q 1345 → A 44 u.toNat = X (f + u).toNat := fun u h1 h2 => by rw [hX u.toNat (by omega)]; congr 1; omega
  have hwb : (x_bo (s_white (A 44 j.toNat)) = 1 ∧ s_white (A 44 j.toNat) = true) ∨ (x_bo (s_white (A 44 j.toNat)) = 0 ∧ s_white (A 44 j.toNat) = false) := by cases s_white (A 44 j.toNat); exact Or.inr ⟨rfl, rfl⟩; exact Or.inl ⟨rfl, rfl⟩
  have hxj := hXi j
  refine x_aload_n (x_d C_M_white 0 rfl) rfl ?_
  refine x_getfield (v := xI (j)) (x_d C_M_white 1 rfl) f_M_7 rfl rfl ?_
  refine x_aload_n (x_d C_M_white 2 rfl) rfl ?_
  refine x_getfield (v := xI (q 1345)) (x_d C_M_white 3 rfl) f_M_11 rfl rfl ?_
  refine x_icmp_ge (tgt := 39) (x_d C_M_white 4 rfl) rfl (fun c1 => ?_) (fun c1 => ?_)
  · refine x_return (x_d C_M_white 19 rfl) ?_
    have e1 : s_sc s_white X (f + q 1345) (f + j) = f + j := s_sc_stop (by first | exact Or.inr (Or.inl (by omega)) | (rw [← hxj (by omega) (by omega)]; exact Or.inr (Or.inr (by rcases hwb with ⟨z1, z2⟩ | ⟨z1, z2⟩; omega; exact z2))))
    rw [e1]
    exact ⟨rfl, by rw [show f + j - f = j by omega]⟩
  · refine x_aload_n (x_d C_M_white 5 rfl) rfl ?_
    refine x_getfield (v := xC 44) (x_d C_M_white 6 rfl) f_M_14 rfl rfl ?_
    refine x_aload_n (x_d C_M_white 7 rfl) rfl ?_
    refine x_getfield (v := xI (j)) (x_d C_M_white 8 rfl) f_M_7 rfl rfl ?_
    refine x_baload (f := A 44) (x_d C_M_white 9 rfl) rfl (by omega) (by omega) ?_
    refine x_invokestatic (st := []) (av := [xI (A 44 (j).toNat)]) (x_d C_M_white 10 rfl) k_M_18 m_M_isWhite s_M_isWhite rfl (Nat.le_of_ble_eq_true rfl) (by omega) rfl (c_M_isWhite Z (d - 1) (hF (x_up q 1346 j) (x_up r 1344 (some 44)) A ++ dy) (A 44 (j).toNat)) ?_
    rintro v_ _ ⟨hv_, rfl⟩
    obtain rfl : v_ = some (xI (x_bo (s_white (A 44 (j).toNat)))) := hv_
    refine x_if_eq (tgt := 39) (x_d C_M_white 11 rfl) rfl (fun c2 => ?_) (fun c2 => ?_)
    · refine x_return (x_d C_M_white 19 rfl) ?_
      have e1 : s_sc s_white X (f + q 1345) (f + j) = f + j := s_sc_stop (by first | exact Or.inr (Or.inl (by omega)) | (rw [← hxj (by omega) (by omega)]; exact Or.inr (Or.inr (by rcases hwb with ⟨z1, z2⟩ | ⟨z1, z2⟩; omega; exact z2))))
      rw [e1]
      exact ⟨rfl, by rw [show f + j - f = j by omega]⟩
    · refine x_aload_n (x_d C_M_white 12 rfl) rfl ?_
      refine x_dup (x_d C_M_white 13 rfl) rfl ?_
      refine x_getfield (v := xI (j)) (x_d C_M_white 14 rfl) f_M_7 rfl rfl ?_
      refine x_iconst (x_d C_M_white 15 rfl) ⟨by omega, by omega⟩ ?_
      refine x_iadd (x_d C_M_white 16 rfl) ⟨by omega, by omega⟩ ?_
      refine x_putfield (h1 := hF (x_up q 1346 (j + 1)) (x_up r 1344 (some 44)) A ++ dy) (x_d C_M_white 17 rfl) p_M_7 rfl rfl rfl trivial rfl ?_
      refine x_goto (tgt := 0) (x_d C_M_white 18 rfl) rfl ?_
      refine x_locs [0] rfl ?_
      have e1 : s_sc s_white X (f + q 1345) (f + j) = s_sc s_white X (f + q 1345) (f + (j + 1)) := by rw [← Int.add_assoc]; exact s_sc_step (by omega) (by omega) (by rw [← hxj (by omega) (by omega)]; rcases hwb with ⟨z1, z2⟩ | ⟨z1, z2⟩; exact z2; omega)
      rw [e1]
      exact ih (q 1345 - (j + 1)).toNat (by omega) (j + 1) rfl (by omega)
theorem c_M_white (Z : xZ) (d : Nat) (q : Nat → Int) (r : Nat → Option Nat) (A : Nat → Nat → Int) (dy : xH) (hd : 1 ≤ d) (X : Nat → Int) (f j : Int) (hf : 0 ≤ f) (hn : 0 ≤ q 1345 ∧ q 1345 ≤ 4000) (hX : ∀ k : Nat, (k : Int) < q 1345 → A 44 k = X (f.toNat + k)) (hj : 0 ≤ j ∧ j ≤ q 1345) : xMet Z d Y_M_white [xC 42] (hF (x_up q 1346 j) (x_up r 1344 (some 44)) A ++ dy) (fun v h2 => v = none ∧ h2 = hF (x_up q 1346 (s_sc s_white X (f + q 1345) (f + j) - f)) (x_up r 1344 (some 44)) A ++ dy) :=
  xMet_of (by decide) (Nat.le_of_ble_eq_true rfl) (fun v h2 hq => by rw [hq.1]; trivial) (w_M_white_0 Z d q r A dy hd X f hf hn hX _ j rfl hj)
theorem w_M_wordEnd_2 (Z : xZ) (d : Nat) (q : Nat → Int) (r : Nat → Option Nat) (A : Nat → Nat → Int) (dy : xH) (hd : 2 ≤ d) (X : Nat → Int) (f : Int) (j i : Int) (hf : 0 ≤ f) (hn : 0 ≤ q 1345 ∧ q 1345 ≤ 4000) (hX : ∀ k : Nat, (k : Int) < q 1345 → A 44 k = X (f.toNat + k)) : ∀ (m : Nat) (t : Int), (q 1345 - t).toNat = m → 0 ≤ t ∧ t ≤ 8000 → s_sc s_reg X (f + q 1345) (f + i) = s_sc s_reg X (f + q 1345) (f + t) → xW Z d Y_M_wordEnd 2 [(0, xC 42), (1, xI i), (2, xI t)] [] (hF (x_up q 1346 j) (x_up r 1344 (some 44)) A ++ dy) (fun v h2 => v = some (xI (s_sc s_reg X (f + q 1345) (f + i) - f)) ∧ h2 = hF (x_up q 1346 j) (x_up r 1344 (some 44)) A ++ dy) := by
  intro m
  induction m using Nat.strongRecOn with
  | ind m ih =>
  intro t hm ht hs
  have hXi : ∀ u : Int, 0 ≤ u → u < q 1345 → A 44 u.toNat = X (f + u).toNat := fun u h1 h2 => by rw [hX u.toNat (by omega)]; congr 1; omega
  have hwb : (x_bo (s_reg (A 44 t.toNat)) = 1 ∧ s_reg (A 44 t.toNat) = true) ∨ (x_bo (s_reg (A 44 t.toNat)) = 0 ∧ s_reg (A 44 t.toNat) = false) := by cases s_reg (A 44 t.toNat); exact Or.inr ⟨rfl, rfl⟩; exact Or.inl ⟨rfl, rfl⟩
  have hxj := hXi t
  refine x_iload_n (x_d C_M_wordEnd 2 rfl) rfl ?_
  refine x_aload_n (x_d C_M_wordEnd 3 rfl) rfl ?_
  refine x_getfield (v := xI (q 1345)) (x_d C_M_wordEnd 4 rfl) f_M_11 rfl rfl ?_
  refine x_icmp_ge (tgt := 28) (x_d C_M_wordEnd 5 rfl) rfl (fun c1 => ?_) (fun c1 => ?_)
  · refine x_iload_n (x_d C_M_wordEnd 14 rfl) rfl ?_
    refine x_ireturn (x_d C_M_wordEnd 15 rfl) ?_
    have e1 : s_sc s_reg X (f + q 1345) (f + t) = f + t := s_sc_stop (by first | exact Or.inr (Or.inl (by omega)) | (rw [← hxj (by omega) (by omega)]; exact Or.inr (Or.inr (by rcases hwb with ⟨z1, z2⟩ | ⟨z1, z2⟩; omega; exact z2))))
    exact ⟨by rw [hs, e1]; congr 2; omega, rfl⟩
  · refine x_aload_n (x_d C_M_wordEnd 6 rfl) rfl ?_
    refine x_getfield (v := xC 44) (x_d C_M_wordEnd 7 rfl) f_M_14 rfl rfl ?_
    refine x_iload_n (x_d C_M_wordEnd 8 rfl) rfl ?_
    refine x_baload (f := A 44) (x_d C_M_wordEnd 9 rfl) rfl (by omega) (by omega) ?_
    refine x_invokestatic (st := []) (av := [xI (A 44 (t).toNat)]) (x_d C_M_wordEnd 10 rfl) k_M_21 m_M_isRegular s_M_isRegular rfl (Nat.le_of_ble_eq_true rfl) (by omega) rfl (c_M_isRegular Z (d - 1) (hF (x_up q 1346 j) (x_up r 1344 (some 44)) A ++ dy) (by omega) (A 44 (t).toNat)) ?_
    rintro v_ _ ⟨hv_, rfl⟩
    obtain rfl : v_ = some (xI (x_bo (s_reg (A 44 (t).toNat)))) := hv_
    refine x_if_eq (tgt := 28) (x_d C_M_wordEnd 11 rfl) rfl (fun c2 => ?_) (fun c2 => ?_)
    · refine x_iload_n (x_d C_M_wordEnd 14 rfl) rfl ?_
      refine x_ireturn (x_d C_M_wordEnd 15 rfl) ?_
      have e1 : s_sc s_reg X (f + q 1345) (f + t) = f + t := s_sc_stop (by first | exact Or.inr (Or.inl (by omega)) | (rw [← hxj (by omega) (by omega)]; exact Or.inr (Or.inr (by rcases hwb with ⟨z1, z2⟩ | ⟨z1, z2⟩; omega; exact z2))))
      exact ⟨by rw [hs, e1]; congr 2; omega, rfl⟩
    · refine x_iinc (l1 := [(2, xI (t + 1)), (0, xC 42), (1, xI (i))]) (x_d C_M_wordEnd 12 rfl) rfl ⟨by omega, by omega⟩ (by decide) rfl ?_
      refine x_goto (tgt := 2) (x_d C_M_wordEnd 13 rfl) rfl ?_
      refine x_locs [1, 2, 0] rfl ?_
      refine ih (q 1345 - (t + 1)).toNat (by omega) (t + 1) rfl (by omega) ?_
      rw [hs, ← Int.add_assoc]
      exact s_sc_step (by omega) (by omega) (by rw [← hxj (by omega) (by omega)]; rcases hwb with ⟨z1, z2⟩ | ⟨z1, z2⟩; exact z2; omega)
theorem c_M_wordEnd (Z : xZ) (d : Nat) (q : Nat → Int) (r : Nat → Option Nat) (A : Nat → Nat → Int) (dy : xH) (hd : 2 ≤ d) (X : Nat → Int) (f j : Int) (i : Int) (hf : 0 ≤ f) (hn : 0 ≤ q 1345 ∧ q 1345 ≤ 4000) (hX : ∀ k : Nat, (k : Int) < q 1345 → A 44 k = X (f.toNat + k)) (hi : 0 ≤ i ∧ i ≤ 8000) : xMet Z d Y_M_wordEnd [xC 42, xI i] (hF (x_up q 1346 j) (x_up r 1344 (some 44)) A ++ dy) (fun v h2 => v = some (xI (s_sc s_reg X (f + q 1345) (f + i) - f)) ∧ h2 = hF (x_up q 1346 j) (x_up r 1344 (some 44)) A ++ dy) := by
  refine xMet_of (by decide) (Nat.le_of_ble_eq_true rfl) (fun v h2 hq => by rw [hq.1]; trivial) ?_
  refine x_iload_n (x_d C_M_wordEnd 0 rfl) rfl ?_
  refine x_istore_n (l1 := [(2, xI (i)), (0, xC 42), (1, xI (i))]) (x_d C_M_wordEnd 1 rfl) (by decide) rfl ?_
  refine x_locs [1, 2, 0] rfl ?_
  exact w_M_wordEnd_2 Z d q r A dy hd X f j i hf hn hX _ i rfl hi rfl
theorem w_M_isAt1_21 (Z : xZ) (d : Nat) (q : Nat → Int) (r : Nat → Option Nat) (A : Nat → Nat → Int) (dy : xH) (hd : 4 ≤ d) (X : Nat → Int) (f : Int) (j i : Int) {si : Nat} {sc : String × Nat × String × List Int} (hs : x_strs[si]? = some sc) (hf : 0 ≤ f) (hn : 0 ≤ q 1345 ∧ q 1345 ≤ 4000) (hX : ∀ k : Nat, (k : Int) < q 1345 → A 44 k = X (f.toNat + k)) (hi : 0 ≤ i ∧ i + sc.2.2.2.length ≤ q 1345) : ∀ (m : Nat) (t : Int), (sc.2.2.2.length - t).toNat = m → (0 ≤ t ∧ t ≤ sc.2.2.2.length) → s_match X sc.2.2.2 (f + i).toNat = s_match X (sc.2.2.2.drop t.toNat) ((f + i).toNat + t.toNat) → xW Z d Y_M_isAt1 21 [(0, xC 42), (1, xI i), (2, xS (2 * si + 1)), (3, xI t)] [] (hF (x_up q 1346 j) (x_up r 1344 (some 44)) A ++ dy) (fun v h2 => v = some (xI (x_bo (decide (0 ≤ i ∧ 0 ≤ s_txt X (f + q 1345) (f + i) sc.2.2.2)))) ∧ h2 = hF (x_up q 1346 j) (x_up r 1344 (some 44)) A ++ dy) := by
  intro m
  induction m using Nat.strongRecOn with
  | ind m ih =>
  intro t hk ht hm
  have hXi : ∀ u : Int, 0 ≤ u → u < q 1345 → A 44 u.toNat = X (f + u).toNat := fun u h1 h2 => by rw [hX u.toNat (by omega)]; congr 1; omega
  have hsl := x_strs_len hs
  refine x_iload_n (x_d C_M_isAt1 13 rfl) rfl ?_
  refine x_aload_n (x_d C_M_isAt1 14 rfl) rfl ?_
  refine x_invokevirtualS (st := [xI (t)]) (av := []) (x_d C_M_isAt1 15 rfl) k_M_24 m_S_length v_S_length rfl hs rfl (Nat.le_of_ble_eq_true rfl) (by omega) rfl (c_S_length Z (d - 1) (hF (x_up q 1346 j) (x_up r 1344 (some 44)) A ++ dy) (by omega) hs) ?_
  rintro v_ _ ⟨hv_, rfl⟩
  obtain rfl : v_ = some (xI (sc.2.2.2.length : Int)) := hv_
  refine x_icmp_ge (tgt := 53) (x_d C_M_isAt1 16 rfl) rfl (fun c1 => ?_) (fun c1 => ?_)
  · refine x_iconst (x_d C_M_isAt1 31 rfl) ⟨by omega, by omega⟩ ?_
    refine x_ireturn (x_d C_M_isAt1 32 rfl) ?_
    refine ⟨congrArg (fun z => some (xI z)) (x_bo_t ⟨by omega, ?_⟩).symm, rfl⟩
    unfold s_txt
    rw [if_pos]
    · omega
    · refine ⟨by omega, by omega, ?_⟩
      rw [hm, List.drop_eq_nil_of_le (by omega)]
      rfl
  · refine x_aload_n (x_d C_M_isAt1 17 rfl) rfl ?_
    refine x_getfield (v := xC 44) (x_d C_M_isAt1 18 rfl) f_M_14 rfl rfl ?_
    refine x_iload_n (x_d C_M_isAt1 19 rfl) rfl ?_
    refine x_iload_n (x_d C_M_isAt1 20 rfl) rfl ?_
    refine x_iadd (x_d C_M_isAt1 21 rfl) ⟨by omega, by omega⟩ ?_
    refine x_baload (f := A 44) (x_d C_M_isAt1 22 rfl) rfl (by omega) (by omega) ?_
    refine x_aload_n (x_d C_M_isAt1 23 rfl) rfl ?_
    refine x_iload_n (x_d C_M_isAt1 24 rfl) rfl ?_
    refine x_invokevirtualS (st := [xI (A 44 (i + t).toNat)]) (av := [xI (t)]) (x_d C_M_isAt1 25 rfl) k_M_30 m_S_charAt v_S_charAt rfl hs rfl (Nat.le_of_ble_eq_true rfl) (by omega) rfl (c_S_charAt Z (d - 1) (hF (x_up q 1346 j) (x_up r 1344 (some 44)) A ++ dy) (by omega) hs t (by omega)) ?_
    rintro v_ _ ⟨hv_, rfl⟩
    obtain rfl : v_ = some (xI (sc.2.2.2.getD (t).toNat 0)) := hv_
    refine x_icmp_eq (tgt := 47) (x_d C_M_isAt1 26 rfl) rfl (fun c2 => ?_) (fun c2 => ?_)
    · refine x_iinc (l1 := [(3, xI (t + 1)), (0, xC 42), (1, xI (i)), (2, xS (2 * si + 1))]) (x_d C_M_isAt1 29 rfl) rfl ⟨by omega, by omega⟩ (by decide) rfl ?_
      refine x_goto (tgt := 21) (x_d C_M_isAt1 30 rfl) rfl ?_
      refine x_locs [1, 2, 3, 0] rfl ?_
      refine ih (sc.2.2.2.length - (t + 1)).toNat (by omega) (t + 1) rfl (by omega) ?_
      rw [hm, s_match_drop X (k := t.toNat) (by omega), decide_eq_true (show X ((f + i).toNat + t.toNat) = _ by rw [show (f + i).toNat + t.toNat = (f + (i + t)).toNat by omega, ← hXi (i + t) (by omega) (by omega)]; assumption), Bool.true_and, show (t + 1).toNat = t.toNat + 1 by omega, Nat.add_assoc]
    · refine x_iconst (x_d C_M_isAt1 27 rfl) ⟨by omega, by omega⟩ ?_
      refine x_ireturn (x_d C_M_isAt1 28 rfl) ?_
      refine ⟨congrArg (fun z => some (xI z)) (x_bo_f ?_).symm, rfl⟩
      rintro ⟨-, z⟩
      unfold s_txt at z
      split at z
      · next z1 =>
        obtain ⟨z1, z2, z3⟩ := z1
        rw [hm, s_match_drop X (k := t.toNat) (by omega), decide_eq_false (show ¬ X ((f + i).toNat + t.toNat) = _ by rw [show (f + i).toNat + t.toNat = (f + (i + t)).toNat by omega, ← hXi (i + t) (by omega) (by omega)]; assumption)] at z3
        cases z3
      · omega
theorem c_M_isAt1 (Z : xZ) (d : Nat) (q : Nat → Int) (r : Nat → Option Nat) (A : Nat → Nat → Int) (dy : xH) (hd : 4 ≤ d) (X : Nat → Int) (f j : Int) (i : Int) {si : Nat} {sc : String × Nat × String × List Int} (hs : x_strs[si]? = some sc) (hf : 0 ≤ f) (hn : 0 ≤ q 1345 ∧ q 1345 ≤ 4000) (hX : ∀ k : Nat, (k : Int) < q 1345 → A 44 k = X (f.toNat + k)) (hi : i ≤ 10000) : xMet Z d Y_M_isAt1 [xC 42, xI i, xS (2 * si + 1)] (hF (x_up q 1346 j) (x_up r 1344 (some 44)) A ++ dy) (fun v h2 => v = some (xI (x_bo (decide (0 ≤ i ∧ 0 ≤ s_txt X (f + q 1345) (f + i) sc.2.2.2)))) ∧ h2 = hF (x_up q 1346 j) (x_up r 1344 (some 44)) A ++ dy) := by
  refine xMet_of (by decide) (Nat.le_of_ble_eq_true rfl) (fun v h2 hq => by rw [hq.1]; exact x_fitZ _) ?_
  have hsl := x_strs_len hs
  refine x_iload_n (x_d C_M_isAt1 0 rfl) rfl ?_
  refine x_if_lt (tgt := 17) (x_d C_M_isAt1 1 rfl) rfl (fun c1 => ?_) (fun c1 => ?_)
  · refine x_iconst (x_d C_M_isAt1 9 rfl) ⟨by omega, by omega⟩ ?_
    refine x_ireturn (x_d C_M_isAt1 10 rfl) ?_
    refine ⟨congrArg (fun z => some (xI z)) (x_bo_f ?_).symm, rfl⟩
    rintro ⟨z0, z⟩
    have := s_txt_in X (f + q 1345) (f + i) sc.2.2.2
    omega
  · refine x_iload_n (x_d C_M_isAt1 2 rfl) rfl ?_
    refine x_aload_n (x_d C_M_isAt1 3 rfl) rfl ?_
    refine x_invokevirtualS (st := [xI (i)]) (av := []) (x_d C_M_isAt1 4 rfl) k_M_24 m_S_length v_S_length rfl hs rfl (Nat.le_of_ble_eq_true rfl) (by omega) rfl (c_S_length Z (d - 1) (hF (x_up q 1346 j) (x_up r 1344 (some 44)) A ++ dy) (by omega) hs) ?_
    rintro v_ _ ⟨hv_, rfl⟩
    obtain rfl : v_ = some (xI (sc.2.2.2.length : Int)) := hv_
    refine x_iadd (x_d C_M_isAt1 5 rfl) ⟨by omega, by omega⟩ ?_
    refine x_aload_n (x_d C_M_isAt1 6 rfl) rfl ?_
    refine x_getfield (v := xI (q 1345)) (x_d C_M_isAt1 7 rfl) f_M_11 rfl rfl ?_
    refine x_icmp_le (tgt := 19) (x_d C_M_isAt1 8 rfl) rfl (fun c2 => ?_) (fun c2 => ?_)
    · refine x_iconst (x_d C_M_isAt1 11 rfl) ⟨by omega, by omega⟩ ?_
      refine x_istore_n (l1 := [(3, xI (0)), (0, xC 42), (1, xI (i)), (2, xS (2 * si + 1))]) (x_d C_M_isAt1 12 rfl) (by decide) rfl ?_
      refine x_locs [1, 2, 3, 0] rfl ?_
      exact w_M_isAt1_21 Z d q r A dy hd X f j i hs hf hn hX (by omega) _ 0 rfl (by omega) (by simp)
    · refine x_iconst (x_d C_M_isAt1 9 rfl) ⟨by omega, by omega⟩ ?_
      refine x_ireturn (x_d C_M_isAt1 10 rfl) ?_
      refine ⟨congrArg (fun z => some (xI z)) (x_bo_f ?_).symm, rfl⟩
      rintro ⟨z0, z⟩
      have := s_txt_in X (f + q 1345) (f + i) sc.2.2.2
      omega
