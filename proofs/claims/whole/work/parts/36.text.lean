/-! the text: digits and signs -/
/-- a digit of base 16 -/
def s_hex (c : Int) : Int := if 48 ≤ c ∧ c ≤ 57 then c - 48 else if 97 ≤ c ∧ c ≤ 102 then c - 97 + 10 else if 65 ≤ c ∧ c ≤ 70 then c - 65 + 10 else -1
theorem s_hex_in (c : Int) : -1 ≤ s_hex c ∧ s_hex c ≤ 15 := by
  unfold s_hex
  repeat' split
  all_goals omega
def s_pair (b : Nat → Int) (n p : Int) : Int := if s_hex (s_byte b n p) < 0 ∨ s_hex (s_byte b n (p + 1)) < 0 then -1 else 16 * s_hex (s_byte b n p) + s_hex (s_byte b n (p + 1))
def s_o8 (c : Int) : Prop := 48 ≤ c ∧ c ≤ 55
def s_oct (b : Nat → Int) (n p : Int) : Int := if (48 ≤ s_byte b n (p + 0) ∧ s_byte b n (p + 0) ≤ 55) ∧ (48 ≤ s_byte b n (p + 1) ∧ s_byte b n (p + 1) ≤ 55) ∧ (48 ≤ s_byte b n (p + 2) ∧ s_byte b n (p + 2) ≤ 55) ∧ 8 * (8 * (s_byte b n (p + 0) - 48) + s_byte b n (p + 1) - 48) + s_byte b n (p + 2) - 48 ≤ 255 then 8 * (8 * (s_byte b n (p + 0) - 48) + s_byte b n (p + 1) - 48) + s_byte b n (p + 2) - 48 else -1
theorem s_oct_in (b : Nat → Int) (n p : Int) : -1 ≤ s_oct b n p ∧ s_oct b n p ≤ 255 := by
  unfold s_oct
  split <;> omega
/-- how many bytes stand for the next one of a string in ( ) -/
def s_ss (b : Nat → Int) (n p : Int) : Int := if s_byte b n p = 92 then (if s_byte b n (p + 1) = 40 ∨ s_byte b n (p + 1) = 41 ∨ s_byte b n (p + 1) = 92 then 2 else if s_oct b n (p + 1) < 0 then 0 else 4) else (if s_byte b n p < 0 ∨ s_byte b n p = 40 ∨ s_byte b n p = 41 then 0 else 1)
def s_sg (b : Nat → Int) (n p k : Int) : Int := if k = 4 then s_oct b n (p + 1) else s_byte b n (p + k - 1)
/-- k digits at p -/
def s_dgs (b : Nat → Int) (n p : Int) (k : Int) : Int := if 0 ≤ p ∧ p + k ≤ n ∧ s_alld b k.toNat p.toNat = true then s_dv b k.toNat p.toNat else -1
def s_eqr (b : Nat → Int) : Nat → Nat → Nat → Bool
  | 0, _, _ => true
  | k + 1, i, j => decide (b i = b j) && s_eqr b k (i + 1) (j + 1)
def s_same (b : Nat → Int) (n p u : Int) : Bool := decide (0 ≤ p ∧ 0 ≤ u ∧ 0 ≤ s_wd b n p - p ∧ s_wd b n p - p = s_wd b n u - u) && s_eqr b (s_wd b n p - p).toNat p.toNat u.toNat
theorem c_PF_hexDigit (Z : xZ) (d : Nat) (h : xH) (c : Int) : xMet Z d Y_PF_hexDigit [xI c] h (fun v h2 => v = some (xI (s_hex c)) ∧ h2 = h) := by
  refine xMet_of (by decide) (Nat.le_of_ble_eq_true rfl) (fun v h2 hq => by rw [hq.1]; trivial) ?_
  refine x_iload_n (x_d C_PF_hexDigit 0 rfl) rfl ?_
  refine x_bipush (x_d C_PF_hexDigit 1 rfl) (by omega) ?_
  refine x_icmp_lt (tgt := 17) (x_d C_PF_hexDigit 2 rfl) rfl (fun c1 => ?_) (fun c1 => ?_)
  · refine x_iload_n (x_d C_PF_hexDigit 10 rfl) rfl ?_
    refine x_bipush (x_d C_PF_hexDigit 11 rfl) (by omega) ?_
    refine x_icmp_lt (tgt := 37) (x_d C_PF_hexDigit 12 rfl) rfl (fun c2 => ?_) (fun c2 => ?_)
    · refine x_iload_n (x_d C_PF_hexDigit 22 rfl) rfl ?_
      refine x_bipush (x_d C_PF_hexDigit 23 rfl) (by omega) ?_
      refine x_icmp_lt (tgt := 59) (x_d C_PF_hexDigit 24 rfl) rfl (fun c3 => ?_) (fun c3 => ?_)
      · refine x_iconst (x_d C_PF_hexDigit 34 rfl) ⟨by omega, by omega⟩ ?_
        refine x_ireturn (x_d C_PF_hexDigit 35 rfl) ?_
        exact ⟨congrArg (fun z => some (xI z)) (by unfold s_hex; (repeat' split) <;> omega), rfl⟩
      · refine x_iload_n (x_d C_PF_hexDigit 25 rfl) rfl ?_
        refine x_bipush (x_d C_PF_hexDigit 26 rfl) (by omega) ?_
        refine x_icmp_gt (tgt := 59) (x_d C_PF_hexDigit 27 rfl) rfl (fun c4 => ?_) (fun c4 => ?_)
        · refine x_iconst (x_d C_PF_hexDigit 34 rfl) ⟨by omega, by omega⟩ ?_
          refine x_ireturn (x_d C_PF_hexDigit 35 rfl) ?_
          exact ⟨congrArg (fun z => some (xI z)) (by unfold s_hex; (repeat' split) <;> omega), rfl⟩
        · refine x_iload_n (x_d C_PF_hexDigit 28 rfl) rfl ?_
          refine x_bipush (x_d C_PF_hexDigit 29 rfl) (by omega) ?_
          refine x_isub (x_d C_PF_hexDigit 30 rfl) ⟨by omega, by omega⟩ ?_
          refine x_bipush (x_d C_PF_hexDigit 31 rfl) (by omega) ?_
          refine x_iadd (x_d C_PF_hexDigit 32 rfl) ⟨by omega, by omega⟩ ?_
          refine x_goto (tgt := 60) (x_d C_PF_hexDigit 33 rfl) rfl ?_
          refine x_ireturn (x_d C_PF_hexDigit 35 rfl) ?_
          exact ⟨congrArg (fun z => some (xI z)) (by unfold s_hex; (repeat' split) <;> omega), rfl⟩
    · refine x_iload_n (x_d C_PF_hexDigit 13 rfl) rfl ?_
      refine x_bipush (x_d C_PF_hexDigit 14 rfl) (by omega) ?_
      refine x_icmp_gt (tgt := 37) (x_d C_PF_hexDigit 15 rfl) rfl (fun c5 => ?_) (fun c5 => ?_)
      · refine x_iload_n (x_d C_PF_hexDigit 22 rfl) rfl ?_
        refine x_bipush (x_d C_PF_hexDigit 23 rfl) (by omega) ?_
        refine x_icmp_lt (tgt := 59) (x_d C_PF_hexDigit 24 rfl) rfl (fun c6 => ?_) (fun c6 => ?_)
        · refine x_iconst (x_d C_PF_hexDigit 34 rfl) ⟨by omega, by omega⟩ ?_
          refine x_ireturn (x_d C_PF_hexDigit 35 rfl) ?_
          exact ⟨congrArg (fun z => some (xI z)) (by unfold s_hex; (repeat' split) <;> omega), rfl⟩
        · refine x_iload_n (x_d C_PF_hexDigit 25 rfl) rfl ?_
          refine x_bipush (x_d C_PF_hexDigit 26 rfl) (by omega) ?_
          refine x_icmp_gt (tgt := 59) (x_d C_PF_hexDigit 27 rfl) rfl (fun c7 => ?_) (fun c7 => ?_)
          · refine x_iconst (x_d C_PF_hexDigit 34 rfl) ⟨by omega, by omega⟩ ?_
            refine x_ireturn (x_d C_PF_hexDigit 35 rfl) ?_
            exact ⟨congrArg (fun z => some (xI z)) (by unfold s_hex; (repeat' split) <;> omega), rfl⟩
          · refine x_iload_n (x_d C_PF_hexDigit 28 rfl) rfl ?_
            refine x_bipush (x_d C_PF_hexDigit 29 rfl) (by omega) ?_
            refine x_isub (x_d C_PF_hexDigit 30 rfl) ⟨by omega, by omega⟩ ?_
            refine x_bipush (x_d C_PF_hexDigit 31 rfl) (by omega) ?_
            refine x_iadd (x_d C_PF_hexDigit 32 rfl) ⟨by omega, by omega⟩ ?_
            refine x_goto (tgt := 60) (x_d C_PF_hexDigit 33 rfl) rfl ?_
            refine x_ireturn (x_d C_PF_hexDigit 35 rfl) ?_
            exact ⟨congrArg (fun z => some (xI z)) (by unfold s_hex; (repeat' split) <;> omega), rfl⟩
      · refine x_iload_n (x_d C_PF_hexDigit 16 rfl) rfl ?_
        refine x_bipush (x_d C_PF_hexDigit 17 rfl) (by omega) ?_
        refine x_isub (x_d C_PF_hexDigit 18 rfl) ⟨by omega, by omega⟩ ?_
        refine x_bipush (x_d C_PF_hexDigit 19 rfl) (by omega) ?_
        refine x_iadd (x_d C_PF_hexDigit 20 rfl) ⟨by omega, by omega⟩ ?_
        refine x_ireturn (x_d C_PF_hexDigit 21 rfl) ?_
        exact ⟨congrArg (fun z => some (xI z)) (by unfold s_hex; (repeat' split) <;> omega), rfl⟩
  · refine x_iload_n (x_d C_PF_hexDigit 3 rfl) rfl ?_
    refine x_bipush (x_d C_PF_hexDigit 4 rfl) (by omega) ?_
    refine x_icmp_gt (tgt := 17) (x_d C_PF_hexDigit 5 rfl) rfl (fun c8 => ?_) (fun c8 => ?_)
    · refine x_iload_n (x_d C_PF_hexDigit 10 rfl) rfl ?_
      refine x_bipush (x_d C_PF_hexDigit 11 rfl) (by omega) ?_
      refine x_icmp_lt (tgt := 37) (x_d C_PF_hexDigit 12 rfl) rfl (fun c9 => ?_) (fun c9 => ?_)
      · refine x_iload_n (x_d C_PF_hexDigit 22 rfl) rfl ?_
        refine x_bipush (x_d C_PF_hexDigit 23 rfl) (by omega) ?_
        refine x_icmp_lt (tgt := 59) (x_d C_PF_hexDigit 24 rfl) rfl (fun c10 => ?_) (fun c10 => ?_)
        · refine x_iconst (x_d C_PF_hexDigit 34 rfl) ⟨by omega, by omega⟩ ?_
          refine x_ireturn (x_d C_PF_hexDigit 35 rfl) ?_
          exact ⟨congrArg (fun z => some (xI z)) (by unfold s_hex; (repeat' split) <;> omega), rfl⟩
        · refine x_iload_n (x_d C_PF_hexDigit 25 rfl) rfl ?_
          refine x_bipush (x_d C_PF_hexDigit 26 rfl) (by omega) ?_
          refine x_icmp_gt (tgt := 59) (x_d C_PF_hexDigit 27 rfl) rfl (fun c11 => ?_) (fun c11 => ?_)
          · refine x_iconst (x_d C_PF_hexDigit 34 rfl) ⟨by omega, by omega⟩ ?_
            refine x_ireturn (x_d C_PF_hexDigit 35 rfl) ?_
            exact ⟨congrArg (fun z => some (xI z)) (by unfold s_hex; (repeat' split) <;> omega), rfl⟩
          · refine x_iload_n (x_d C_PF_hexDigit 28 rfl) rfl ?_
            refine x_bipush (x_d C_PF_hexDigit 29 rfl) (by omega) ?_
            refine x_isub (x_d C_PF_hexDigit 30 rfl) ⟨by omega, by omega⟩ ?_
            refine x_bipush (x_d C_PF_hexDigit 31 rfl) (by omega) ?_
            refine x_iadd (x_d C_PF_hexDigit 32 rfl) ⟨by omega, by omega⟩ ?_
            refine x_goto (tgt := 60) (x_d C_PF_hexDigit 33 rfl) rfl ?_
            refine x_ireturn (x_d C_PF_hexDigit 35 rfl) ?_
            exact ⟨congrArg (fun z => some (xI z)) (by unfold s_hex; (repeat' split) <;> omega), rfl⟩
      · refine x_iload_n (x_d C_PF_hexDigit 13 rfl) rfl ?_
        refine x_bipush (x_d C_PF_hexDigit 14 rfl) (by omega) ?_
        refine x_icmp_gt (tgt := 37) (x_d C_PF_hexDigit 15 rfl) rfl (fun c12 => ?_) (fun c12 => ?_)
        · refine x_iload_n (x_d C_PF_hexDigit 22 rfl) rfl ?_
          refine x_bipush (x_d C_PF_hexDigit 23 rfl) (by omega) ?_
          refine x_icmp_lt (tgt := 59) (x_d C_PF_hexDigit 24 rfl) rfl (fun c13 => ?_) (fun c13 => ?_)
          · refine x_iconst (x_d C_PF_hexDigit 34 rfl) ⟨by omega, by omega⟩ ?_
            refine x_ireturn (x_d C_PF_hexDigit 35 rfl) ?_
            exact ⟨congrArg (fun z => some (xI z)) (by unfold s_hex; (repeat' split) <;> omega), rfl⟩
          · refine x_iload_n (x_d C_PF_hexDigit 25 rfl) rfl ?_
            refine x_bipush (x_d C_PF_hexDigit 26 rfl) (by omega) ?_
            refine x_icmp_gt (tgt := 59) (x_d C_PF_hexDigit 27 rfl) rfl (fun c14 => ?_) (fun c14 => ?_)
            · refine x_iconst (x_d C_PF_hexDigit 34 rfl) ⟨by omega, by omega⟩ ?_
              refine x_ireturn (x_d C_PF_hexDigit 35 rfl) ?_
              exact ⟨congrArg (fun z => some (xI z)) (by unfold s_hex; (repeat' split) <;> omega), rfl⟩
            · refine x_iload_n (x_d C_PF_hexDigit 28 rfl) rfl ?_
              refine x_bipush (x_d C_PF_hexDigit 29 rfl) (by omega) ?_
              refine x_isub (x_d C_PF_hexDigit 30 rfl) ⟨by omega, by omega⟩ ?_
              refine x_bipush (x_d C_PF_hexDigit 31 rfl) (by omega) ?_
              refine x_iadd (x_d C_PF_hexDigit 32 rfl) ⟨by omega, by omega⟩ ?_
              refine x_goto (tgt := 60) (x_d C_PF_hexDigit 33 rfl) rfl ?_
              refine x_ireturn (x_d C_PF_hexDigit 35 rfl) ?_
              exact ⟨congrArg (fun z => some (xI z)) (by unfold s_hex; (repeat' split) <;> omega), rfl⟩
        · refine x_iload_n (x_d C_PF_hexDigit 16 rfl) rfl ?_
          refine x_bipush (x_d C_PF_hexDigit 17 rfl) (by omega) ?_
          refine x_isub (x_d C_PF_hexDigit 18 rfl) ⟨by omega, by omega⟩ ?_
          refine x_bipush (x_d C_PF_hexDigit 19 rfl) (by omega) ?_
          refine x_iadd (x_d C_PF_hexDigit 20 rfl) ⟨by omega, by omega⟩ ?_
          refine x_ireturn (x_d C_PF_hexDigit 21 rfl) ?_
          exact ⟨congrArg (fun z => some (xI z)) (by unfold s_hex; (repeat' split) <;> omega), rfl⟩
    · refine x_iload_n (x_d C_PF_hexDigit 6 rfl) rfl ?_
      refine x_bipush (x_d C_PF_hexDigit 7 rfl) (by omega) ?_
      refine x_isub (x_d C_PF_hexDigit 8 rfl) ⟨by omega, by omega⟩ ?_
      refine x_ireturn (x_d C_PF_hexDigit 9 rfl) ?_
      exact ⟨congrArg (fun z => some (xI z)) (by unfold s_hex; (repeat' split) <;> omega), rfl⟩
theorem c_T_pair (Z : xZ) (d : Nat) (q : Nat → Int) (r : Nat → Option Nat) (A : Nat → Nat → Int) (dy : xH) (hd : 1 ≤ d) (p : Int) (hT : 0 ≤ q 34 ∧ q 34 ≤ q 35 ∧ q 35 ≤ 10248) (hp : -10 ≤ p ∧ p ≤ 20000) : xMet Z d Y_T_pair [xC 1, xI p] (hF q r A ++ dy) (fun v h2 => v = some (xI (s_pair (A 2) (q 35) p)) ∧ h2 = hF q r A ++ dy) := by
  refine xMet_of (by decide) (Nat.le_of_ble_eq_true rfl) (fun v h2 hq => by rw [hq.1]; trivial) ?_
  have h1 := s_hex_in (s_byte (A 2) (q 35) p)
  have h2 := s_hex_in (s_byte (A 2) (q 35) (p + 1))
  refine x_aload_n (x_d C_T_pair 0 rfl) rfl ?_
  refine x_iload_n (x_d C_T_pair 1 rfl) rfl ?_
  refine x_invokevirtual (st := []) (av := [xI (p)]) (x_d C_T_pair 2 rfl) k_T_44 m_T_byteAt v_T_byteAt cl_T rfl rfl (Nat.le_of_ble_eq_true rfl) (by omega) rfl (c_T_byteAt Z (d - 1) q r A dy p hT) ?_
  rintro _ _ ⟨rfl, rfl⟩
  refine x_invokestatic (st := []) (av := [xI (s_byte (A 2) (q 35) p)]) (x_d C_T_pair 3 rfl) k_T_60 m_PF_hexDigit s_PF_hexDigit rfl (Nat.le_of_ble_eq_true rfl) (by omega) rfl (c_PF_hexDigit Z (d - 1) (hF q r A ++ dy) (s_byte (A 2) (q 35) p)) ?_
  rintro _ _ ⟨rfl, rfl⟩
  refine x_istore_n (l1 := [(2, xI (s_hex (s_byte (A 2) (q 35) p))), (0, xC 1), (1, xI (p))]) (x_d C_T_pair 4 rfl) (by decide) rfl ?_
  refine x_aload_n (x_d C_T_pair 5 rfl) rfl ?_
  refine x_iload_n (x_d C_T_pair 6 rfl) rfl ?_
  refine x_iconst (x_d C_T_pair 7 rfl) ⟨by omega, by omega⟩ ?_
  refine x_iadd (x_d C_T_pair 8 rfl) ⟨by omega, by omega⟩ ?_
  refine x_invokevirtual (st := []) (av := [xI (p + 1)]) (x_d C_T_pair 9 rfl) k_T_44 m_T_byteAt v_T_byteAt cl_T rfl rfl (Nat.le_of_ble_eq_true rfl) (by omega) rfl (c_T_byteAt Z (d - 1) q r A dy (p + 1) hT) ?_
  rintro _ _ ⟨rfl, rfl⟩
  refine x_invokestatic (st := []) (av := [xI (s_byte (A 2) (q 35) (p + 1))]) (x_d C_T_pair 10 rfl) k_T_60 m_PF_hexDigit s_PF_hexDigit rfl (Nat.le_of_ble_eq_true rfl) (by omega) rfl (c_PF_hexDigit Z (d - 1) (hF q r A ++ dy) (s_byte (A 2) (q 35) (p + 1))) ?_
  rintro _ _ ⟨rfl, rfl⟩
  refine x_istore_n (l1 := [(3, xI (s_hex (s_byte (A 2) (q 35) (p + 1)))), (2, xI (s_hex (s_byte (A 2) (q 35) p))), (0, xC 1), (1, xI (p))]) (x_d C_T_pair 11 rfl) (by decide) rfl ?_
  refine x_iload_n (x_d C_T_pair 12 rfl) rfl ?_
  refine x_if_lt (tgt := 28) (x_d C_T_pair 13 rfl) rfl (fun c1 => ?_) (fun c1 => ?_)
  · refine x_iconst (x_d C_T_pair 16 rfl) ⟨by omega, by omega⟩ ?_
    refine x_goto (tgt := 38) (x_d C_T_pair 17 rfl) rfl ?_
    refine x_ireturn (x_d C_T_pair 23 rfl) ?_
    exact ⟨congrArg (fun z => some (xI z)) (by unfold s_pair; split <;> omega), rfl⟩
  · refine x_iload_n (x_d C_T_pair 14 rfl) rfl ?_
    refine x_if_ge (tgt := 32) (x_d C_T_pair 15 rfl) rfl (fun c2 => ?_) (fun c2 => ?_)
    · refine x_bipush (x_d C_T_pair 18 rfl) (by omega) ?_
      refine x_iload_n (x_d C_T_pair 19 rfl) rfl ?_
      refine x_imul (x_d C_T_pair 20 rfl) ⟨by omega, by omega⟩ ?_
      refine x_iload_n (x_d C_T_pair 21 rfl) rfl ?_
      refine x_iadd (x_d C_T_pair 22 rfl) ⟨by omega, by omega⟩ ?_
      refine x_ireturn (x_d C_T_pair 23 rfl) ?_
      exact ⟨congrArg (fun z => some (xI z)) (by unfold s_pair; split <;> omega), rfl⟩
    · refine x_iconst (x_d C_T_pair 16 rfl) ⟨by omega, by omega⟩ ?_
      refine x_goto (tgt := 38) (x_d C_T_pair 17 rfl) rfl ?_
      refine x_ireturn (x_d C_T_pair 23 rfl) ?_
      exact ⟨congrArg (fun z => some (xI z)) (by unfold s_pair; split <;> omega), rfl⟩
theorem c_T_octal (Z : xZ) (d : Nat) (q : Nat → Int) (r : Nat → Option Nat) (A : Nat → Nat → Int) (dy : xH) (hd : 1 ≤ d) (p : Int) (hT : 0 ≤ q 34 ∧ q 34 ≤ q 35 ∧ q 35 ≤ 10248) (hp : -10 ≤ p ∧ p ≤ 20000) : xMet Z d Y_T_octal [xC 1, xI p] (hF q r A ++ dy) (fun v h2 => v = some (xI (s_oct (A 2) (q 35) p)) ∧ h2 = hF q r A ++ dy) := by
  refine xMet_of (by decide) (Nat.le_of_ble_eq_true rfl) (fun v h2 hq => by rw [hq.1]; trivial) ?_
  have h0 := s_byte_in (A 2) (q 35) (p + 0)
  have h1 := s_byte_in (A 2) (q 35) (p + 1)
  have h2 := s_byte_in (A 2) (q 35) (p + 2)
  refine x_iconst (x_d C_T_octal 0 rfl) ⟨by omega, by omega⟩ ?_
  refine x_istore_n (l1 := [(2, xI (0)), (0, xC 1), (1, xI (p))]) (x_d C_T_octal 1 rfl) (by decide) rfl ?_
  refine x_iconst (x_d C_T_octal 2 rfl) ⟨by omega, by omega⟩ ?_
  refine x_istore_n (l1 := [(3, xI (0)), (2, xI (0)), (0, xC 1), (1, xI (p))]) (x_d C_T_octal 3 rfl) (by decide) rfl ?_
  refine x_iload_n (x_d C_T_octal 4 rfl) rfl ?_
  refine x_iconst (x_d C_T_octal 5 rfl) ⟨by omega, by omega⟩ ?_
  refine x_icmp_ge (tgt := 51) (x_d C_T_octal 6 rfl) rfl (fun q => absurd q (by omega)) (fun _ => ?_)
  refine x_aload_n (x_d C_T_octal 7 rfl) rfl ?_
  refine x_iload_n (x_d C_T_octal 8 rfl) rfl ?_
  refine x_iload_n (x_d C_T_octal 9 rfl) rfl ?_
  refine x_iadd (x_d C_T_octal 10 rfl) ⟨by omega, by omega⟩ ?_
  refine x_invokevirtual (st := []) (av := [xI (p + 0)]) (x_d C_T_octal 11 rfl) k_T_44 m_T_byteAt v_T_byteAt cl_T rfl rfl (Nat.le_of_ble_eq_true rfl) (by omega) rfl (c_T_byteAt Z (d - 1) q r A dy (p + 0) hT) ?_
  rintro _ _ ⟨rfl, rfl⟩
  refine x_istore (l1 := [(4, xI (s_byte (A 2) (q 35) (p + 0))), (3, xI (0)), (2, xI (0)), (0, xC 1), (1, xI (p))]) (x_d C_T_octal 12 rfl) (by decide) rfl ?_
  refine x_iload (x_d C_T_octal 13 rfl) rfl ?_
  refine x_bipush (x_d C_T_octal 14 rfl) (by omega) ?_
  refine x_icmp_lt (tgt := 32) (x_d C_T_octal 15 rfl) rfl (fun c2 => ?_) (fun c2 => ?_)
  · refine x_iconst (x_d C_T_octal 19 rfl) ⟨by omega, by omega⟩ ?_
    refine x_ireturn (x_d C_T_octal 20 rfl) ?_
    exact ⟨congrArg (fun z => some (xI z)) (by unfold s_oct; split <;> omega), rfl⟩
  · refine x_iload (x_d C_T_octal 16 rfl) rfl ?_
    refine x_bipush (x_d C_T_octal 17 rfl) (by omega) ?_
    refine x_icmp_le (tgt := 34) (x_d C_T_octal 18 rfl) rfl (fun c3 => ?_) (fun c3 => ?_)
    · refine x_bipush (x_d C_T_octal 21 rfl) (by omega) ?_
      refine x_iload_n (x_d C_T_octal 22 rfl) rfl ?_
      refine x_imul (x_d C_T_octal 23 rfl) ⟨by omega, by omega⟩ ?_
      refine x_iload (x_d C_T_octal 24 rfl) rfl ?_
      refine x_iadd (x_d C_T_octal 25 rfl) ⟨by omega, by omega⟩ ?_
      refine x_bipush (x_d C_T_octal 26 rfl) (by omega) ?_
      refine x_isub (x_d C_T_octal 27 rfl) ⟨by omega, by omega⟩ ?_
      refine x_istore_n (l1 := [(2, xI ((0 + (s_byte (A 2) (q 35) (p + 0))) - 48)), (4, xI (s_byte (A 2) (q 35) (p + 0))), (3, xI (0)), (0, xC 1), (1, xI (p))]) (x_d C_T_octal 28 rfl) (by decide) rfl ?_
      refine x_iinc (l1 := [(3, xI (1)), (2, xI ((0 + (s_byte (A 2) (q 35) (p + 0))) - 48)), (4, xI (s_byte (A 2) (q 35) (p + 0))), (0, xC 1), (1, xI (p))]) (x_d C_T_octal 29 rfl) rfl ⟨by omega, by omega⟩ (by decide) rfl ?_
      refine x_goto (tgt := 4) (x_d C_T_octal 30 rfl) rfl ?_
      refine x_iload_n (x_d C_T_octal 4 rfl) rfl ?_
      refine x_iconst (x_d C_T_octal 5 rfl) ⟨by omega, by omega⟩ ?_
      refine x_icmp_ge (tgt := 51) (x_d C_T_octal 6 rfl) rfl (fun q => absurd q (by omega)) (fun _ => ?_)
      refine x_aload_n (x_d C_T_octal 7 rfl) rfl ?_
      refine x_iload_n (x_d C_T_octal 8 rfl) rfl ?_
      refine x_iload_n (x_d C_T_octal 9 rfl) rfl ?_
      refine x_iadd (x_d C_T_octal 10 rfl) ⟨by omega, by omega⟩ ?_
      refine x_invokevirtual (st := []) (av := [xI (p + 1)]) (x_d C_T_octal 11 rfl) k_T_44 m_T_byteAt v_T_byteAt cl_T rfl rfl (Nat.le_of_ble_eq_true rfl) (by omega) rfl (c_T_byteAt Z (d - 1) q r A dy (p + 1) hT) ?_
      rintro _ _ ⟨rfl, rfl⟩
      refine x_istore (l1 := [(4, xI (s_byte (A 2) (q 35) (p + 1))), (3, xI (1)), (2, xI ((0 + (s_byte (A 2) (q 35) (p + 0))) - 48)), (0, xC 1), (1, xI (p))]) (x_d C_T_octal 12 rfl) (by decide) rfl ?_
      refine x_iload (x_d C_T_octal 13 rfl) rfl ?_
      refine x_bipush (x_d C_T_octal 14 rfl) (by omega) ?_
      refine x_icmp_lt (tgt := 32) (x_d C_T_octal 15 rfl) rfl (fun c5 => ?_) (fun c5 => ?_)
      · refine x_iconst (x_d C_T_octal 19 rfl) ⟨by omega, by omega⟩ ?_
        refine x_ireturn (x_d C_T_octal 20 rfl) ?_
        exact ⟨congrArg (fun z => some (xI z)) (by unfold s_oct; split <;> omega), rfl⟩
      · refine x_iload (x_d C_T_octal 16 rfl) rfl ?_
        refine x_bipush (x_d C_T_octal 17 rfl) (by omega) ?_
        refine x_icmp_le (tgt := 34) (x_d C_T_octal 18 rfl) rfl (fun c6 => ?_) (fun c6 => ?_)
        · refine x_bipush (x_d C_T_octal 21 rfl) (by omega) ?_
          refine x_iload_n (x_d C_T_octal 22 rfl) rfl ?_
          refine x_imul (x_d C_T_octal 23 rfl) ⟨by omega, by omega⟩ ?_
          refine x_iload (x_d C_T_octal 24 rfl) rfl ?_
          refine x_iadd (x_d C_T_octal 25 rfl) ⟨by omega, by omega⟩ ?_
          refine x_bipush (x_d C_T_octal 26 rfl) (by omega) ?_
          refine x_isub (x_d C_T_octal 27 rfl) ⟨by omega, by omega⟩ ?_
          refine x_istore_n (l1 := [(2, xI (((8 * ((0 + (s_byte (A 2) (q 35) (p + 0))) - 48)) + (s_byte (A 2) (q 35) (p + 1))) - 48)), (4, xI (s_byte (A 2) (q 35) (p + 1))), (3, xI (1)), (0, xC 1), (1, xI (p))]) (x_d C_T_octal 28 rfl) (by decide) rfl ?_
          refine x_iinc (l1 := [(3, xI (2)), (2, xI (((8 * ((0 + (s_byte (A 2) (q 35) (p + 0))) - 48)) + (s_byte (A 2) (q 35) (p + 1))) - 48)), (4, xI (s_byte (A 2) (q 35) (p + 1))), (0, xC 1), (1, xI (p))]) (x_d C_T_octal 29 rfl) rfl ⟨by omega, by omega⟩ (by decide) rfl ?_
          refine x_goto (tgt := 4) (x_d C_T_octal 30 rfl) rfl ?_
          refine x_iload_n (x_d C_T_octal 4 rfl) rfl ?_
          refine x_iconst (x_d C_T_octal 5 rfl) ⟨by omega, by omega⟩ ?_
          refine x_icmp_ge (tgt := 51) (x_d C_T_octal 6 rfl) rfl (fun q => absurd q (by omega)) (fun _ => ?_)
          refine x_aload_n (x_d C_T_octal 7 rfl) rfl ?_
          refine x_iload_n (x_d C_T_octal 8 rfl) rfl ?_
          refine x_iload_n (x_d C_T_octal 9 rfl) rfl ?_
          refine x_iadd (x_d C_T_octal 10 rfl) ⟨by omega, by omega⟩ ?_
          refine x_invokevirtual (st := []) (av := [xI (p + 2)]) (x_d C_T_octal 11 rfl) k_T_44 m_T_byteAt v_T_byteAt cl_T rfl rfl (Nat.le_of_ble_eq_true rfl) (by omega) rfl (c_T_byteAt Z (d - 1) q r A dy (p + 2) hT) ?_
          rintro _ _ ⟨rfl, rfl⟩
          refine x_istore (l1 := [(4, xI (s_byte (A 2) (q 35) (p + 2))), (3, xI (2)), (2, xI (((8 * ((0 + (s_byte (A 2) (q 35) (p + 0))) - 48)) + (s_byte (A 2) (q 35) (p + 1))) - 48)), (0, xC 1), (1, xI (p))]) (x_d C_T_octal 12 rfl) (by decide) rfl ?_
          refine x_iload (x_d C_T_octal 13 rfl) rfl ?_
          refine x_bipush (x_d C_T_octal 14 rfl) (by omega) ?_
          refine x_icmp_lt (tgt := 32) (x_d C_T_octal 15 rfl) rfl (fun c8 => ?_) (fun c8 => ?_)
          · refine x_iconst (x_d C_T_octal 19 rfl) ⟨by omega, by omega⟩ ?_
            refine x_ireturn (x_d C_T_octal 20 rfl) ?_
            exact ⟨congrArg (fun z => some (xI z)) (by unfold s_oct; split <;> omega), rfl⟩
          · refine x_iload (x_d C_T_octal 16 rfl) rfl ?_
            refine x_bipush (x_d C_T_octal 17 rfl) (by omega) ?_
            refine x_icmp_le (tgt := 34) (x_d C_T_octal 18 rfl) rfl (fun c9 => ?_) (fun c9 => ?_)
            · refine x_bipush (x_d C_T_octal 21 rfl) (by omega) ?_
              refine x_iload_n (x_d C_T_octal 22 rfl) rfl ?_
              refine x_imul (x_d C_T_octal 23 rfl) ⟨by omega, by omega⟩ ?_
              refine x_iload (x_d C_T_octal 24 rfl) rfl ?_
              refine x_iadd (x_d C_T_octal 25 rfl) ⟨by omega, by omega⟩ ?_
              refine x_bipush (x_d C_T_octal 26 rfl) (by omega) ?_
              refine x_isub (x_d C_T_octal 27 rfl) ⟨by omega, by omega⟩ ?_
              refine x_istore_n (l1 := [(2, xI (((8 * (((8 * ((0 + (s_byte (A 2) (q 35) (p + 0))) - 48)) + (s_byte (A 2) (q 35) (p + 1))) - 48)) + (s_byte (A 2) (q 35) (p + 2))) - 48)), (4, xI (s_byte (A 2) (q 35) (p + 2))), (3, xI (2)), (0, xC 1), (1, xI (p))]) (x_d C_T_octal 28 rfl) (by decide) rfl ?_
              refine x_iinc (l1 := [(3, xI (3)), (2, xI (((8 * (((8 * ((0 + (s_byte (A 2) (q 35) (p + 0))) - 48)) + (s_byte (A 2) (q 35) (p + 1))) - 48)) + (s_byte (A 2) (q 35) (p + 2))) - 48)), (4, xI (s_byte (A 2) (q 35) (p + 2))), (0, xC 1), (1, xI (p))]) (x_d C_T_octal 29 rfl) rfl ⟨by omega, by omega⟩ (by decide) rfl ?_
              refine x_goto (tgt := 4) (x_d C_T_octal 30 rfl) rfl ?_
              refine x_iload_n (x_d C_T_octal 4 rfl) rfl ?_
              refine x_iconst (x_d C_T_octal 5 rfl) ⟨by omega, by omega⟩ ?_
              refine x_icmp_ge (tgt := 51) (x_d C_T_octal 6 rfl) rfl (fun _ => ?_) (fun q => absurd q (by omega))
              refine x_iload_n (x_d C_T_octal 31 rfl) rfl ?_
              refine x_sipush (x_d C_T_octal 32 rfl) (by omega) ?_
              refine x_icmp_gt (tgt := 62) (x_d C_T_octal 33 rfl) rfl (fun c11 => ?_) (fun c11 => ?_)
              · refine x_iconst (x_d C_T_octal 36 rfl) ⟨by omega, by omega⟩ ?_
                refine x_ireturn (x_d C_T_octal 37 rfl) ?_
                exact ⟨congrArg (fun z => some (xI z)) (by unfold s_oct; split <;> omega), rfl⟩
              · refine x_iload_n (x_d C_T_octal 34 rfl) rfl ?_
                refine x_goto (tgt := 63) (x_d C_T_octal 35 rfl) rfl ?_
                refine x_ireturn (x_d C_T_octal 37 rfl) ?_
                exact ⟨congrArg (fun z => some (xI z)) (by unfold s_oct; split <;> omega), rfl⟩
            · refine x_iconst (x_d C_T_octal 19 rfl) ⟨by omega, by omega⟩ ?_
              refine x_ireturn (x_d C_T_octal 20 rfl) ?_
              exact ⟨congrArg (fun z => some (xI z)) (by unfold s_oct; split <;> omega), rfl⟩
        · refine x_iconst (x_d C_T_octal 19 rfl) ⟨by omega, by omega⟩ ?_
          refine x_ireturn (x_d C_T_octal 20 rfl) ?_
          exact ⟨congrArg (fun z => some (xI z)) (by unfold s_oct; split <;> omega), rfl⟩
    · refine x_iconst (x_d C_T_octal 19 rfl) ⟨by omega, by omega⟩ ?_
      refine x_ireturn (x_d C_T_octal 20 rfl) ?_
      exact ⟨congrArg (fun z => some (xI z)) (by unfold s_oct; split <;> omega), rfl⟩
theorem c_T_signSize (Z : xZ) (d : Nat) (q : Nat → Int) (r : Nat → Option Nat) (A : Nat → Nat → Int) (dy : xH) (hd : 2 ≤ d) (p : Int) (hT : 0 ≤ q 34 ∧ q 34 ≤ q 35 ∧ q 35 ≤ 10248) (hp : -9 ≤ p ∧ p ≤ 19990) : xMet Z d Y_T_signSize [xC 1, xI p] (hF q r A ++ dy) (fun v h2 => v = some (xI (s_ss (A 2) (q 35) p)) ∧ h2 = hF q r A ++ dy) := by
  refine xMet_of (by decide) (Nat.le_of_ble_eq_true rfl) (fun v h2 hq => by rw [hq.1]; trivial) ?_
  refine x_aload_n (x_d C_T_signSize 0 rfl) rfl ?_
  refine x_iload_n (x_d C_T_signSize 1 rfl) rfl ?_
  refine x_invokevirtual (st := []) (av := [xI (p)]) (x_d C_T_signSize 2 rfl) k_T_44 m_T_byteAt v_T_byteAt cl_T rfl rfl (Nat.le_of_ble_eq_true rfl) (by omega) rfl (c_T_byteAt Z (d - 1) q r A dy p hT) ?_
  rintro _ _ ⟨rfl, rfl⟩
  refine x_istore_n (l1 := [(2, xI (s_byte (A 2) (q 35) p)), (0, xC 1), (1, xI (p))]) (x_d C_T_signSize 3 rfl) (by decide) rfl ?_
  refine x_iload_n (x_d C_T_signSize 4 rfl) rfl ?_
  refine x_bipush (x_d C_T_signSize 5 rfl) (by omega) ?_
  refine x_icmp_eq (tgt := 34) (x_d C_T_signSize 6 rfl) rfl (fun c1 => ?_) (fun c1 => ?_)
  · refine x_aload_n (x_d C_T_signSize 19 rfl) rfl ?_
    refine x_iload_n (x_d C_T_signSize 20 rfl) rfl ?_
    refine x_iconst (x_d C_T_signSize 21 rfl) ⟨by omega, by omega⟩ ?_
    refine x_iadd (x_d C_T_signSize 22 rfl) ⟨by omega, by omega⟩ ?_
    refine x_invokevirtual (st := []) (av := [xI (p + 1)]) (x_d C_T_signSize 23 rfl) k_T_44 m_T_byteAt v_T_byteAt cl_T rfl rfl (Nat.le_of_ble_eq_true rfl) (by omega) rfl (c_T_byteAt Z (d - 1) q r A dy (p + 1) hT) ?_
    rintro _ _ ⟨rfl, rfl⟩
    refine x_istore_n (l1 := [(3, xI (s_byte (A 2) (q 35) (p + 1))), (2, xI (s_byte (A 2) (q 35) p)), (0, xC 1), (1, xI (p))]) (x_d C_T_signSize 24 rfl) (by decide) rfl ?_
    refine x_iload_n (x_d C_T_signSize 25 rfl) rfl ?_
    refine x_bipush (x_d C_T_signSize 26 rfl) (by omega) ?_
    refine x_icmp_eq (tgt := 60) (x_d C_T_signSize 27 rfl) rfl (fun c2 => ?_) (fun c2 => ?_)
    · refine x_iconst (x_d C_T_signSize 34 rfl) ⟨by omega, by omega⟩ ?_
      refine x_ireturn (x_d C_T_signSize 35 rfl) ?_
      exact ⟨congrArg (fun z => some (xI z)) (by unfold s_ss; (repeat' split) <;> omega), rfl⟩
    · refine x_iload_n (x_d C_T_signSize 28 rfl) rfl ?_
      refine x_bipush (x_d C_T_signSize 29 rfl) (by omega) ?_
      refine x_icmp_eq (tgt := 60) (x_d C_T_signSize 30 rfl) rfl (fun c3 => ?_) (fun c3 => ?_)
      · refine x_iconst (x_d C_T_signSize 34 rfl) ⟨by omega, by omega⟩ ?_
        refine x_ireturn (x_d C_T_signSize 35 rfl) ?_
        exact ⟨congrArg (fun z => some (xI z)) (by unfold s_ss; (repeat' split) <;> omega), rfl⟩
      · refine x_iload_n (x_d C_T_signSize 31 rfl) rfl ?_
        refine x_bipush (x_d C_T_signSize 32 rfl) (by omega) ?_
        refine x_icmp_ne (tgt := 62) (x_d C_T_signSize 33 rfl) rfl (fun c4 => ?_) (fun c4 => ?_)
        · refine x_aload_n (x_d C_T_signSize 36 rfl) rfl ?_
          refine x_iload_n (x_d C_T_signSize 37 rfl) rfl ?_
          refine x_iconst (x_d C_T_signSize 38 rfl) ⟨by omega, by omega⟩ ?_
          refine x_iadd (x_d C_T_signSize 39 rfl) ⟨by omega, by omega⟩ ?_
          refine x_invokevirtual (st := []) (av := [xI (p + 1)]) (x_d C_T_signSize 40 rfl) k_T_63 m_T_octal v_T_octal cl_T rfl rfl (Nat.le_of_ble_eq_true rfl) (by omega) rfl (c_T_octal Z (d - 1) q r A dy (by omega) (p + 1) hT (by omega)) ?_
          rintro _ _ ⟨rfl, rfl⟩
          refine x_if_ge (tgt := 76) (x_d C_T_signSize 41 rfl) rfl (fun c5 => ?_) (fun c5 => ?_)
          · refine x_iconst (x_d C_T_signSize 44 rfl) ⟨by omega, by omega⟩ ?_
            refine x_ireturn (x_d C_T_signSize 45 rfl) ?_
            exact ⟨congrArg (fun z => some (xI z)) (by unfold s_ss; (repeat' split) <;> omega), rfl⟩
          · refine x_iconst (x_d C_T_signSize 42 rfl) ⟨by omega, by omega⟩ ?_
            refine x_goto (tgt := 77) (x_d C_T_signSize 43 rfl) rfl ?_
            refine x_ireturn (x_d C_T_signSize 45 rfl) ?_
            exact ⟨congrArg (fun z => some (xI z)) (by unfold s_ss; (repeat' split) <;> omega), rfl⟩
        · refine x_iconst (x_d C_T_signSize 34 rfl) ⟨by omega, by omega⟩ ?_
          refine x_ireturn (x_d C_T_signSize 35 rfl) ?_
          exact ⟨congrArg (fun z => some (xI z)) (by unfold s_ss; (repeat' split) <;> omega), rfl⟩
  · refine x_iload_n (x_d C_T_signSize 7 rfl) rfl ?_
    refine x_if_lt (tgt := 28) (x_d C_T_signSize 8 rfl) rfl (fun c6 => ?_) (fun c6 => ?_)
    · refine x_iconst (x_d C_T_signSize 15 rfl) ⟨by omega, by omega⟩ ?_
      refine x_goto (tgt := 33) (x_d C_T_signSize 16 rfl) rfl ?_
      refine x_ireturn (x_d C_T_signSize 18 rfl) ?_
      exact ⟨congrArg (fun z => some (xI z)) (by unfold s_ss; (repeat' split) <;> omega), rfl⟩
    · refine x_iload_n (x_d C_T_signSize 9 rfl) rfl ?_
      refine x_bipush (x_d C_T_signSize 10 rfl) (by omega) ?_
      refine x_icmp_eq (tgt := 28) (x_d C_T_signSize 11 rfl) rfl (fun c7 => ?_) (fun c7 => ?_)
      · refine x_iconst (x_d C_T_signSize 15 rfl) ⟨by omega, by omega⟩ ?_
        refine x_goto (tgt := 33) (x_d C_T_signSize 16 rfl) rfl ?_
        refine x_ireturn (x_d C_T_signSize 18 rfl) ?_
        exact ⟨congrArg (fun z => some (xI z)) (by unfold s_ss; (repeat' split) <;> omega), rfl⟩
      · refine x_iload_n (x_d C_T_signSize 12 rfl) rfl ?_
        refine x_bipush (x_d C_T_signSize 13 rfl) (by omega) ?_
        refine x_icmp_ne (tgt := 32) (x_d C_T_signSize 14 rfl) rfl (fun c8 => ?_) (fun c8 => ?_)
        · refine x_iconst (x_d C_T_signSize 17 rfl) ⟨by omega, by omega⟩ ?_
          refine x_ireturn (x_d C_T_signSize 18 rfl) ?_
          exact ⟨congrArg (fun z => some (xI z)) (by unfold s_ss; (repeat' split) <;> omega), rfl⟩
        · refine x_iconst (x_d C_T_signSize 15 rfl) ⟨by omega, by omega⟩ ?_
          refine x_goto (tgt := 33) (x_d C_T_signSize 16 rfl) rfl ?_
          refine x_ireturn (x_d C_T_signSize 18 rfl) ?_
          exact ⟨congrArg (fun z => some (xI z)) (by unfold s_ss; (repeat' split) <;> omega), rfl⟩
theorem c_T_sign (Z : xZ) (d : Nat) (q : Nat → Int) (r : Nat → Option Nat) (A : Nat → Nat → Int) (dy : xH) (hd : 2 ≤ d) (p k : Int) (hT : 0 ≤ q 34 ∧ q 34 ≤ q 35 ∧ q 35 ≤ 10248) (hp : -9 ≤ p ∧ p ≤ 19990 ∧ 0 ≤ k ∧ k ≤ 4) : xMet Z d Y_T_sign [xC 1, xI p, xI k] (hF q r A ++ dy) (fun v h2 => v = some (xI (s_sg (A 2) (q 35) p k)) ∧ h2 = hF q r A ++ dy) := by
  refine xMet_of (by decide) (Nat.le_of_ble_eq_true rfl) (fun v h2 hq => by rw [hq.1]; trivial) ?_
  refine x_iload_n (x_d C_T_sign 0 rfl) rfl ?_
  refine x_iconst (x_d C_T_sign 1 rfl) ⟨by omega, by omega⟩ ?_
  refine x_icmp_ne (tgt := 15) (x_d C_T_sign 2 rfl) rfl (fun c1 => ?_) (fun c1 => ?_)
  · refine x_aload_n (x_d C_T_sign 9 rfl) rfl ?_
    refine x_iload_n (x_d C_T_sign 10 rfl) rfl ?_
    refine x_iload_n (x_d C_T_sign 11 rfl) rfl ?_
    refine x_iadd (x_d C_T_sign 12 rfl) ⟨by omega, by omega⟩ ?_
    refine x_iconst (x_d C_T_sign 13 rfl) ⟨by omega, by omega⟩ ?_
    refine x_isub (x_d C_T_sign 14 rfl) ⟨by omega, by omega⟩ ?_
    refine x_invokevirtual (st := []) (av := [xI (p + k - 1)]) (x_d C_T_sign 15 rfl) k_T_44 m_T_byteAt v_T_byteAt cl_T rfl rfl (Nat.le_of_ble_eq_true rfl) (by omega) rfl (c_T_byteAt Z (d - 1) q r A dy (p + k - 1) hT) ?_
    rintro _ _ ⟨rfl, rfl⟩
    refine x_ireturn (x_d C_T_sign 16 rfl) ?_
    exact ⟨congrArg (fun z => some (xI z)) (by unfold s_sg; split <;> omega), rfl⟩
  · refine x_aload_n (x_d C_T_sign 3 rfl) rfl ?_
    refine x_iload_n (x_d C_T_sign 4 rfl) rfl ?_
    refine x_iconst (x_d C_T_sign 5 rfl) ⟨by omega, by omega⟩ ?_
    refine x_iadd (x_d C_T_sign 6 rfl) ⟨by omega, by omega⟩ ?_
    refine x_invokevirtual (st := []) (av := [xI (p + 1)]) (x_d C_T_sign 7 rfl) k_T_63 m_T_octal v_T_octal cl_T rfl rfl (Nat.le_of_ble_eq_true rfl) (by omega) rfl (c_T_octal Z (d - 1) q r A dy (by omega) (p + 1) hT (by omega)) ?_
    rintro _ _ ⟨rfl, rfl⟩
    refine x_goto (tgt := 24) (x_d C_T_sign 8 rfl) rfl ?_
    refine x_ireturn (x_d C_T_sign 16 rfl) ?_
    exact ⟨congrArg (fun z => some (xI z)) (by unfold s_sg; split <;> omega), rfl⟩
theorem s_pow10 {j : Nat} (h : j ≤ 10) : (10 : Int) ^ j ≤ 10000000000 := by
  match j, h with
  | 0, _ => decide
  | 1, _ => decide
  | 2, _ => decide
  | 3, _ => decide
  | 4, _ => decide
  | 5, _ => decide
  | 6, _ => decide
  | 7, _ => decide
  | 8, _ => decide
  | 9, _ => decide
  | 10, _ => decide
theorem w_T_digits_5 (Z : xZ) (d : Nat) (q : Nat → Int) (r : Nat → Option Nat) (A : Nat → Nat → Int) (dy : xH) (hd : 1 ≤ d) (p n : Int) (hT : 0 ≤ q 34 ∧ q 34 ≤ q 35 ∧ q 35 ≤ 10248) (hp : -10 ≤ p ∧ p ≤ 20000) (hn : 1 ≤ n ∧ n ≤ 10) : ∀ (k : Nat) (t v : Int), (n - t).toNat = k → (0 ≤ t ∧ t ≤ n) → (t = 0 ∨ (0 ≤ p ∧ p + t ≤ q 35)) → v = s_dv (A 2) t.toNat p.toNat → s_alld (A 2) t.toNat p.toNat = true → xW Z d Y_T_digits 5 [(0, xC 1), (1, xI p), (2, xI n), (3, xJ v), (5, xI t)] [] (hF q r A ++ dy) (fun v h2 => v = some (xJ (s_dgs (A 2) (q 35) p n)) ∧ h2 = hF q r A ++ dy) := by
  intro k
  induction k using Nat.strongRecOn with
  | ind k ih =>
  intro t v hk ht hpt hv had
  refine xW_ok (fun _ _ hok => ?_)
  have hb := hF_b2 hok (p + t).toNat
  have hy := s_byte_in (A 2) (q 35) (p + t)
  have hin := s_dv_in (A 2) t.toNat p.toNat had
  have hpw := s_pow10 (j := t.toNat) (by omega)
  refine x_iload (x_d C_T_digits 4 rfl) rfl ?_
  refine x_iload_n (x_d C_T_digits 5 rfl) rfl ?_
  refine x_icmp_ge (tgt := 59) (x_d C_T_digits 6 rfl) rfl (fun c1 => ?_) (fun c1 => ?_)
  · refine x_lload_n (x_d C_T_digits 32 rfl) rfl ?_
    refine x_lreturn (x_d C_T_digits 33 rfl) ?_
    have e : t = n := by omega
    subst e
    exact ⟨congrArg (fun z => some (xJ z)) (by unfold s_dgs; rw [if_pos ⟨by omega, by omega, had⟩]; exact hv), rfl⟩
  · refine x_aload_n (x_d C_T_digits 7 rfl) rfl ?_
    refine x_iload_n (x_d C_T_digits 8 rfl) rfl ?_
    refine x_iload (x_d C_T_digits 9 rfl) rfl ?_
    refine x_iadd (x_d C_T_digits 10 rfl) ⟨by omega, by omega⟩ ?_
    refine x_invokevirtual (st := []) (av := [xI (p + t)]) (x_d C_T_digits 11 rfl) k_T_44 m_T_byteAt v_T_byteAt cl_T rfl rfl (Nat.le_of_ble_eq_true rfl) (by omega) rfl (c_T_byteAt Z (d - 1) q r A dy (p + t) hT) ?_
    rintro _ _ ⟨rfl, rfl⟩
    refine x_istore (l1 := [(6, xI (s_byte (A 2) (q 35) (p + t))), (0, xC 1), (1, xI (p)), (2, xI (n)), (3, xJ (v)), (5, xI (t))]) (x_d C_T_digits 12 rfl) (by decide) rfl ?_
    refine x_iload (x_d C_T_digits 13 rfl) rfl ?_
    refine x_bipush (x_d C_T_digits 14 rfl) (by omega) ?_
    refine x_icmp_lt (tgt := 35) (x_d C_T_digits 15 rfl) rfl (fun c2 => ?_) (fun c2 => ?_)
    · refine x_ldc2 (n := -1) (x_d C_T_digits 19 rfl) lc_T_54 ⟨by omega, by omega⟩ ?_
      refine x_lreturn (x_d C_T_digits 20 rfl) ?_
      refine ⟨congrArg (fun z => some (xJ z)) ?_, rfl⟩
      unfold s_dgs
      rw [if_neg]
      intro z
      obtain ⟨z1, z2, z3⟩ := z
      have h5 := s_alld_at (A 2) _ _ t.toNat z3 (by omega)
      rw [show p.toNat + t.toNat = (p + t).toNat by omega] at h5
      unfold s_dig at h5
      rw [Bool.and_eq_true, decide_eq_true_eq, decide_eq_true_eq] at h5
      omega
    · refine x_iload (x_d C_T_digits 16 rfl) rfl ?_
      refine x_bipush (x_d C_T_digits 17 rfl) (by omega) ?_
      refine x_icmp_le (tgt := 39) (x_d C_T_digits 18 rfl) rfl (fun c3 => ?_) (fun c3 => ?_)
      · refine x_ldc2 (n := 10) (x_d C_T_digits 21 rfl) lc_T_56 ⟨by omega, by omega⟩ ?_
        refine x_lload_n (x_d C_T_digits 22 rfl) rfl ?_
        refine x_lmul (x_d C_T_digits 23 rfl) ⟨by omega, by omega⟩ ?_
        refine x_iload (x_d C_T_digits 24 rfl) rfl ?_
        refine x_i2l (x_d C_T_digits 25 rfl) ?_
        refine x_ladd (x_d C_T_digits 26 rfl) ⟨by omega, by omega⟩ ?_
        refine x_ldc2 (n := 48) (x_d C_T_digits 27 rfl) lc_T_58 ⟨by omega, by omega⟩ ?_
        refine x_lsub (x_d C_T_digits 28 rfl) ⟨by omega, by omega⟩ ?_
        refine x_lstore_n (l1 := [(3, xJ (((10 * v) + (s_byte (A 2) (q 35) (p + t))) - 48)), (6, xI (s_byte (A 2) (q 35) (p + t))), (0, xC 1), (1, xI (p)), (2, xI (n)), (5, xI (t))]) (x_d C_T_digits 29 rfl) (by decide) rfl ?_
        refine x_iinc (l1 := [(5, xI (t + 1)), (3, xJ (((10 * v) + (s_byte (A 2) (q 35) (p + t))) - 48)), (6, xI (s_byte (A 2) (q 35) (p + t))), (0, xC 1), (1, xI (p)), (2, xI (n))]) (x_d C_T_digits 30 rfl) rfl ⟨by omega, by omega⟩ (by decide) rfl ?_
        refine x_goto (tgt := 5) (x_d C_T_digits 31 rfl) rfl ?_
        refine x_locs [3, 4, 5, 1, 0] rfl ?_
        refine ih _ (by omega) _ _ rfl (by omega) (by omega) ?_ ?_
        · rw [show (t + 1).toNat = t.toNat + 1 by omega]
          show _ = 10 * s_dv (A 2) t.toNat p.toNat + A 2 (p.toNat + t.toNat) - 48
          rw [← hv, show p.toNat + t.toNat = (p + t).toNat by omega]
          omega
        · rw [show (t + 1).toNat = t.toNat + 1 by omega]
          show (s_alld (A 2) t.toNat p.toNat && s_dig (A 2 (p.toNat + t.toNat))) = true
          rw [had, show p.toNat + t.toNat = (p + t).toNat by omega, s_dig_t (by omega)]
          rfl
      · refine x_ldc2 (n := -1) (x_d C_T_digits 19 rfl) lc_T_54 ⟨by omega, by omega⟩ ?_
        refine x_lreturn (x_d C_T_digits 20 rfl) ?_
        refine ⟨congrArg (fun z => some (xJ z)) ?_, rfl⟩
        unfold s_dgs
        rw [if_neg]
        intro z
        obtain ⟨z1, z2, z3⟩ := z
        have h5 := s_alld_at (A 2) _ _ t.toNat z3 (by omega)
        rw [show p.toNat + t.toNat = (p + t).toNat by omega] at h5
        unfold s_dig at h5
        rw [Bool.and_eq_true, decide_eq_true_eq, decide_eq_true_eq] at h5
        omega
theorem c_T_digits (Z : xZ) (d : Nat) (q : Nat → Int) (r : Nat → Option Nat) (A : Nat → Nat → Int) (dy : xH) (hd : 1 ≤ d) (p n : Int) (hT : 0 ≤ q 34 ∧ q 34 ≤ q 35 ∧ q 35 ≤ 10248) (hp : -10 ≤ p ∧ p ≤ 20000) (hn : 1 ≤ n ∧ n ≤ 10) : xMet Z d Y_T_digits [xC 1, xI p, xI n] (hF q r A ++ dy) (fun v h2 => v = some (xJ (s_dgs (A 2) (q 35) p n)) ∧ h2 = hF q r A ++ dy) := by
  refine xMet_of (by decide) (Nat.le_of_ble_eq_true rfl) (fun v h2 hq => by rw [hq.1]; trivial) ?_
  refine x_lconst0 (x_d C_T_digits 0 rfl) ?_
  refine x_lstore_n (l1 := [(3, xJ (0)), (0, xC 1), (1, xI (p)), (2, xI (n))]) (x_d C_T_digits 1 rfl) (by decide) rfl ?_
  refine x_iconst (x_d C_T_digits 2 rfl) ⟨by omega, by omega⟩ ?_
  refine x_istore (l1 := [(5, xI (0)), (3, xJ (0)), (0, xC 1), (1, xI (p)), (2, xI (n))]) (x_d C_T_digits 3 rfl) (by decide) rfl ?_
  refine x_locs [2, 3, 4, 1, 0] rfl ?_
  exact w_T_digits_5 Z d q r A dy hd p n hT hp hn _ _ _ rfl (by omega) (Or.inl rfl) rfl rfl
