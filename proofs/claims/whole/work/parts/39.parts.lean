/-! parts: measures, cuts; pails -/
theorem c_P_measure (Z : xZ) (d : Nat) (q : Nat → Int) (r : Nat → Option Nat) (A : Nat → Nat → Int) (dy : xH) (hd : 3 ≤ d) (p : Int) (hsp : ∀ j, 0 ≤ A 8 j ∧ A 8 j ≤ 12900) (hp : 0 ≤ p ∧ p < 12900 ∧ s_bh (A 8) p ≤ 12900) : xMet Z d Y_P_measure [xC 4, xI p] (hF q r A ++ dy) (fun v h2 => v = some (xI (if A 5 p.toNat = 3 ∨ A 5 p.toNat = 8 then A 6 p.toNat else if A 5 p.toNat = 4 ∨ A 5 p.toNat = 5 ∨ A 5 p.toNat = 9 then A 7 p.toNat else ((s_in (A 8) p).length : Int))) ∧ h2 = hF q r A ++ dy) := by
  refine xMet_of (by decide) (Nat.le_of_ble_eq_true rfl) (fun v h2 hq => by rw [hq.1]; trivial) ?_
  refine x_aload_n (x_d C_P_measure 0 rfl) rfl ?_
  refine x_getfield (v := xC 5) (x_d C_P_measure 1 rfl) f_P_9 rfl rfl ?_
  refine x_iload_n (x_d C_P_measure 2 rfl) rfl ?_
  refine x_iaload (f := A 5) (x_d C_P_measure 3 rfl) rfl (by omega) (by omega) ?_
  rcases (show A 5 (p).toNat < 3 ∨ 9 < A 5 (p).toNat ∨ A 5 (p).toNat = 3 ∨ A 5 (p).toNat = 4 ∨ A 5 (p).toNat = 5 ∨ A 5 (p).toNat = 6 ∨ A 5 (p).toNat = 7 ∨ A 5 (p).toNat = 8 ∨ A 5 (p).toNat = 9 by omega) with c1 | c1 | c1 | c1 | c1 | c1 | c1 | c1 | c1
  · refine x_tableOut (tgt := 62) (x_d C_P_measure 4 rfl) (Or.inl c1) rfl ?_
    refine x_aload_n (x_d C_P_measure 15 rfl) rfl ?_
    refine x_iload_n (x_d C_P_measure 16 rfl) rfl ?_
    refine x_invokevirtual (st := []) (av := [xI (p)]) (x_d C_P_measure 17 rfl) k_P_76 m_P_items v_P_items cl_P rfl rfl (Nat.le_of_ble_eq_true rfl) (by omega) rfl (c_P_items Z (d - 1) q r A dy (by omega) p hsp hp) ?_
    rintro _ _ ⟨rfl, rfl⟩
    refine x_ireturn (x_d C_P_measure 18 rfl) ?_
    exact ⟨congrArg (fun z => some (xI z)) (by (repeat' split) <;> omega), rfl⟩
  · refine x_tableOut (tgt := 62) (x_d C_P_measure 4 rfl) (Or.inr c1) rfl ?_
    refine x_aload_n (x_d C_P_measure 15 rfl) rfl ?_
    refine x_iload_n (x_d C_P_measure 16 rfl) rfl ?_
    refine x_invokevirtual (st := []) (av := [xI (p)]) (x_d C_P_measure 17 rfl) k_P_76 m_P_items v_P_items cl_P rfl rfl (Nat.le_of_ble_eq_true rfl) (by omega) rfl (c_P_items Z (d - 1) q r A dy (by omega) p hsp hp) ?_
    rintro _ _ ⟨rfl, rfl⟩
    refine x_ireturn (x_d C_P_measure 18 rfl) ?_
    exact ⟨congrArg (fun z => some (xI z)) (by (repeat' split) <;> omega), rfl⟩
  · refine x_tableIn (tgt := 48) (off := 42) (x_d C_P_measure 4 rfl) (by omega) (by omega) (by rw [c1]; rfl) rfl ?_
    refine x_aload_n (x_d C_P_measure 5 rfl) rfl ?_
    refine x_getfield (v := xC 6) (x_d C_P_measure 6 rfl) f_P_15 rfl rfl ?_
    refine x_iload_n (x_d C_P_measure 7 rfl) rfl ?_
    refine x_iaload (f := A 6) (x_d C_P_measure 8 rfl) rfl (by omega) (by omega) ?_
    refine x_ireturn (x_d C_P_measure 9 rfl) ?_
    exact ⟨congrArg (fun z => some (xI z)) (by (repeat' split) <;> omega), rfl⟩
  · refine x_tableIn (tgt := 55) (off := 49) (x_d C_P_measure 4 rfl) (by omega) (by omega) (by rw [c1]; rfl) rfl ?_
    refine x_aload_n (x_d C_P_measure 10 rfl) rfl ?_
    refine x_getfield (v := xC 7) (x_d C_P_measure 11 rfl) f_P_18 rfl rfl ?_
    refine x_iload_n (x_d C_P_measure 12 rfl) rfl ?_
    refine x_iaload (f := A 7) (x_d C_P_measure 13 rfl) rfl (by omega) (by omega) ?_
    refine x_ireturn (x_d C_P_measure 14 rfl) ?_
    exact ⟨congrArg (fun z => some (xI z)) (by (repeat' split) <;> omega), rfl⟩
  · refine x_tableIn (tgt := 55) (off := 49) (x_d C_P_measure 4 rfl) (by omega) (by omega) (by rw [c1]; rfl) rfl ?_
    refine x_aload_n (x_d C_P_measure 10 rfl) rfl ?_
    refine x_getfield (v := xC 7) (x_d C_P_measure 11 rfl) f_P_18 rfl rfl ?_
    refine x_iload_n (x_d C_P_measure 12 rfl) rfl ?_
    refine x_iaload (f := A 7) (x_d C_P_measure 13 rfl) rfl (by omega) (by omega) ?_
    refine x_ireturn (x_d C_P_measure 14 rfl) ?_
    exact ⟨congrArg (fun z => some (xI z)) (by (repeat' split) <;> omega), rfl⟩
  · refine x_tableIn (tgt := 62) (off := 56) (x_d C_P_measure 4 rfl) (by omega) (by omega) (by rw [c1]; rfl) rfl ?_
    refine x_aload_n (x_d C_P_measure 15 rfl) rfl ?_
    refine x_iload_n (x_d C_P_measure 16 rfl) rfl ?_
    refine x_invokevirtual (st := []) (av := [xI (p)]) (x_d C_P_measure 17 rfl) k_P_76 m_P_items v_P_items cl_P rfl rfl (Nat.le_of_ble_eq_true rfl) (by omega) rfl (c_P_items Z (d - 1) q r A dy (by omega) p hsp hp) ?_
    rintro _ _ ⟨rfl, rfl⟩
    refine x_ireturn (x_d C_P_measure 18 rfl) ?_
    exact ⟨congrArg (fun z => some (xI z)) (by (repeat' split) <;> omega), rfl⟩
  · refine x_tableIn (tgt := 62) (off := 56) (x_d C_P_measure 4 rfl) (by omega) (by omega) (by rw [c1]; rfl) rfl ?_
    refine x_aload_n (x_d C_P_measure 15 rfl) rfl ?_
    refine x_iload_n (x_d C_P_measure 16 rfl) rfl ?_
    refine x_invokevirtual (st := []) (av := [xI (p)]) (x_d C_P_measure 17 rfl) k_P_76 m_P_items v_P_items cl_P rfl rfl (Nat.le_of_ble_eq_true rfl) (by omega) rfl (c_P_items Z (d - 1) q r A dy (by omega) p hsp hp) ?_
    rintro _ _ ⟨rfl, rfl⟩
    refine x_ireturn (x_d C_P_measure 18 rfl) ?_
    exact ⟨congrArg (fun z => some (xI z)) (by (repeat' split) <;> omega), rfl⟩
  · refine x_tableIn (tgt := 48) (off := 42) (x_d C_P_measure 4 rfl) (by omega) (by omega) (by rw [c1]; rfl) rfl ?_
    refine x_aload_n (x_d C_P_measure 5 rfl) rfl ?_
    refine x_getfield (v := xC 6) (x_d C_P_measure 6 rfl) f_P_15 rfl rfl ?_
    refine x_iload_n (x_d C_P_measure 7 rfl) rfl ?_
    refine x_iaload (f := A 6) (x_d C_P_measure 8 rfl) rfl (by omega) (by omega) ?_
    refine x_ireturn (x_d C_P_measure 9 rfl) ?_
    exact ⟨congrArg (fun z => some (xI z)) (by (repeat' split) <;> omega), rfl⟩
  · refine x_tableIn (tgt := 55) (off := 49) (x_d C_P_measure 4 rfl) (by omega) (by omega) (by rw [c1]; rfl) rfl ?_
    refine x_aload_n (x_d C_P_measure 10 rfl) rfl ?_
    refine x_getfield (v := xC 7) (x_d C_P_measure 11 rfl) f_P_18 rfl rfl ?_
    refine x_iload_n (x_d C_P_measure 12 rfl) rfl ?_
    refine x_iaload (f := A 7) (x_d C_P_measure 13 rfl) rfl (by omega) (by omega) ?_
    refine x_ireturn (x_d C_P_measure 14 rfl) ?_
    exact ⟨congrArg (fun z => some (xI z)) (by (repeat' split) <;> omega), rfl⟩
theorem c_P_cut (Z : xZ) (d : Nat) (q : Nat → Int) (r : Nat → Option Nat) (A : Nat → Nat → Int) (dy : xH) (hd : 1 ≤ d) (f n : Int) (hc : 0 ≤ f ∧ 0 < n ∧ f + n ≤ q 133 ∧ q 133 ≤ 12900) : xMet Z d Y_P_cut [xC 4, xI f, xI n] (hF q r A ++ dy) (fun v h2 => v = none ∧ h2 = hF (x_up q 133 (q 133 - n)) r (x_up (x_up (x_up (x_up (x_up A 5 (va_cpy (A 5) (A 5) (f + n : Int).toNat (f : Int).toNat (q 133 - (f + n) : Int).toNat)) 6 (va_cpy (A 6) (A 6) (f + n : Int).toNat (f : Int).toNat (q 133 - (f + n) : Int).toNat)) 7 (va_cpy (A 7) (A 7) (f + n : Int).toNat (f : Int).toNat (q 133 - (f + n) : Int).toNat)) 8 (va_cpy (A 8) (A 8) (f + n : Int).toNat (f : Int).toNat (q 133 - (f + n) : Int).toNat)) 9 (va_cpy (A 9) (A 9) (f + n : Int).toNat (f : Int).toNat (q 133 - (f + n) : Int).toNat)) ++ dy) := by
  refine xMet_of (by decide) (Nat.le_of_ble_eq_true rfl) (fun v h2 hq => by rw [hq.1]; trivial) ?_
  refine x_iload_n (x_d C_P_cut 0 rfl) rfl ?_
  refine x_iload_n (x_d C_P_cut 1 rfl) rfl ?_
  refine x_iadd (x_d C_P_cut 2 rfl) ⟨by omega, by omega⟩ ?_
  refine x_istore_n (l1 := [(3, xI (f + n)), (0, xC 4), (1, xI (f)), (2, xI (n))]) (x_d C_P_cut 3 rfl) (by decide) rfl ?_
  refine x_aload_n (x_d C_P_cut 4 rfl) rfl ?_
  refine x_getfield (v := xI (q 133)) (x_d C_P_cut 5 rfl) f_P_31 rfl rfl ?_
  refine x_iload_n (x_d C_P_cut 6 rfl) rfl ?_
  refine x_isub (x_d C_P_cut 7 rfl) ⟨by omega, by omega⟩ ?_
  refine x_istore (l1 := [(4, xI (q 133 - (f + n))), (3, xI (f + n)), (0, xC 4), (1, xI (f)), (2, xI (n))]) (x_d C_P_cut 8 rfl) (by decide) rfl ?_
  refine x_iload_n (x_d C_P_cut 9 rfl) rfl ?_
  refine x_if_lt (tgt := 25) (x_d C_P_cut 10 rfl) rfl (fun q => absurd q (by omega)) (fun _ => ?_)
  refine x_iload_n (x_d C_P_cut 11 rfl) rfl ?_
  refine x_if_le (tgt := 25) (x_d C_P_cut 12 rfl) rfl (fun q => absurd q (by omega)) (fun _ => ?_)
  refine x_iload (x_d C_P_cut 13 rfl) rfl ?_
  refine x_if_ge (tgt := 26) (x_d C_P_cut 14 rfl) rfl (fun _ => ?_) (fun q => absurd q (by omega))
  refine x_aload_n (x_d C_P_cut 16 rfl) rfl ?_
  refine x_getfield (v := xC 5) (x_d C_P_cut 17 rfl) f_P_9 rfl rfl ?_
  refine x_iload_n (x_d C_P_cut 18 rfl) rfl ?_
  refine x_aload_n (x_d C_P_cut 19 rfl) rfl ?_
  refine x_getfield (v := xC 5) (x_d C_P_cut 20 rfl) f_P_9 rfl rfl ?_
  refine x_iload_n (x_d C_P_cut 21 rfl) rfl ?_
  refine x_iload (x_d C_P_cut 22 rfl) rfl ?_
  refine x_arraycopy (st := []) (h1 := hF q r (x_up A 5 (va_cpy (A 5) (A 5) (f + n : Int).toNat (f : Int).toNat (q 133 - (f + n) : Int).toNat)) ++ dy) (x_d C_P_cut 23 rfl) ac_P_79 ac_w (Or.inl rfl) rfl rfl (by omega) (by omega) (by omega) (by omega) (by omega) (Nat.le_of_ble_eq_true rfl) (by omega) rfl ?_
  refine x_aload_n (x_d C_P_cut 24 rfl) rfl ?_
  refine x_getfield (v := xC 6) (x_d C_P_cut 25 rfl) f_P_15 rfl rfl ?_
  refine x_iload_n (x_d C_P_cut 26 rfl) rfl ?_
  refine x_aload_n (x_d C_P_cut 27 rfl) rfl ?_
  refine x_getfield (v := xC 6) (x_d C_P_cut 28 rfl) f_P_15 rfl rfl ?_
  refine x_iload_n (x_d C_P_cut 29 rfl) rfl ?_
  refine x_iload (x_d C_P_cut 30 rfl) rfl ?_
  refine x_arraycopy (st := []) (h1 := hF q r (x_up (x_up A 5 (va_cpy (A 5) (A 5) (f + n : Int).toNat (f : Int).toNat (q 133 - (f + n) : Int).toNat)) 6 (va_cpy (A 6) (A 6) (f + n : Int).toNat (f : Int).toNat (q 133 - (f + n) : Int).toNat)) ++ dy) (x_d C_P_cut 31 rfl) ac_P_79 ac_w (Or.inl rfl) rfl rfl (by omega) (by omega) (by omega) (by omega) (by omega) (Nat.le_of_ble_eq_true rfl) (by omega) rfl ?_
  refine x_aload_n (x_d C_P_cut 32 rfl) rfl ?_
  refine x_getfield (v := xC 7) (x_d C_P_cut 33 rfl) f_P_18 rfl rfl ?_
  refine x_iload_n (x_d C_P_cut 34 rfl) rfl ?_
  refine x_aload_n (x_d C_P_cut 35 rfl) rfl ?_
  refine x_getfield (v := xC 7) (x_d C_P_cut 36 rfl) f_P_18 rfl rfl ?_
  refine x_iload_n (x_d C_P_cut 37 rfl) rfl ?_
  refine x_iload (x_d C_P_cut 38 rfl) rfl ?_
  refine x_arraycopy (st := []) (h1 := hF q r (x_up (x_up (x_up A 5 (va_cpy (A 5) (A 5) (f + n : Int).toNat (f : Int).toNat (q 133 - (f + n) : Int).toNat)) 6 (va_cpy (A 6) (A 6) (f + n : Int).toNat (f : Int).toNat (q 133 - (f + n) : Int).toNat)) 7 (va_cpy (A 7) (A 7) (f + n : Int).toNat (f : Int).toNat (q 133 - (f + n) : Int).toNat)) ++ dy) (x_d C_P_cut 39 rfl) ac_P_79 ac_w (Or.inl rfl) rfl rfl (by omega) (by omega) (by omega) (by omega) (by omega) (Nat.le_of_ble_eq_true rfl) (by omega) rfl ?_
  refine x_aload_n (x_d C_P_cut 40 rfl) rfl ?_
  refine x_getfield (v := xC 8) (x_d C_P_cut 41 rfl) f_P_21 rfl rfl ?_
  refine x_iload_n (x_d C_P_cut 42 rfl) rfl ?_
  refine x_aload_n (x_d C_P_cut 43 rfl) rfl ?_
  refine x_getfield (v := xC 8) (x_d C_P_cut 44 rfl) f_P_21 rfl rfl ?_
  refine x_iload_n (x_d C_P_cut 45 rfl) rfl ?_
  refine x_iload (x_d C_P_cut 46 rfl) rfl ?_
  refine x_arraycopy (st := []) (h1 := hF q r (x_up (x_up (x_up (x_up A 5 (va_cpy (A 5) (A 5) (f + n : Int).toNat (f : Int).toNat (q 133 - (f + n) : Int).toNat)) 6 (va_cpy (A 6) (A 6) (f + n : Int).toNat (f : Int).toNat (q 133 - (f + n) : Int).toNat)) 7 (va_cpy (A 7) (A 7) (f + n : Int).toNat (f : Int).toNat (q 133 - (f + n) : Int).toNat)) 8 (va_cpy (A 8) (A 8) (f + n : Int).toNat (f : Int).toNat (q 133 - (f + n) : Int).toNat)) ++ dy) (x_d C_P_cut 47 rfl) ac_P_79 ac_w (Or.inl rfl) rfl rfl (by omega) (by omega) (by omega) (by omega) (by omega) (Nat.le_of_ble_eq_true rfl) (by omega) rfl ?_
  refine x_aload_n (x_d C_P_cut 48 rfl) rfl ?_
  refine x_getfield (v := xC 9) (x_d C_P_cut 49 rfl) f_P_24 rfl rfl ?_
  refine x_iload_n (x_d C_P_cut 50 rfl) rfl ?_
  refine x_aload_n (x_d C_P_cut 51 rfl) rfl ?_
  refine x_getfield (v := xC 9) (x_d C_P_cut 52 rfl) f_P_24 rfl rfl ?_
  refine x_iload_n (x_d C_P_cut 53 rfl) rfl ?_
  refine x_iload (x_d C_P_cut 54 rfl) rfl ?_
  refine x_arraycopy (st := []) (h1 := hF q r (x_up (x_up (x_up (x_up (x_up A 5 (va_cpy (A 5) (A 5) (f + n : Int).toNat (f : Int).toNat (q 133 - (f + n) : Int).toNat)) 6 (va_cpy (A 6) (A 6) (f + n : Int).toNat (f : Int).toNat (q 133 - (f + n) : Int).toNat)) 7 (va_cpy (A 7) (A 7) (f + n : Int).toNat (f : Int).toNat (q 133 - (f + n) : Int).toNat)) 8 (va_cpy (A 8) (A 8) (f + n : Int).toNat (f : Int).toNat (q 133 - (f + n) : Int).toNat)) 9 (va_cpy (A 9) (A 9) (f + n : Int).toNat (f : Int).toNat (q 133 - (f + n) : Int).toNat)) ++ dy) (x_d C_P_cut 55 rfl) ac_P_79 ac_w (Or.inl rfl) rfl rfl (by omega) (by omega) (by omega) (by omega) (by omega) (Nat.le_of_ble_eq_true rfl) (by omega) rfl ?_
  refine x_aload_n (x_d C_P_cut 56 rfl) rfl ?_
  refine x_dup (x_d C_P_cut 57 rfl) rfl ?_
  refine x_getfield (v := xI (q 133)) (x_d C_P_cut 58 rfl) f_P_31 rfl rfl ?_
  refine x_iload_n (x_d C_P_cut 59 rfl) rfl ?_
  refine x_isub (x_d C_P_cut 60 rfl) ⟨by omega, by omega⟩ ?_
  refine x_putfield (h1 := hF (x_up q 133 (q 133 - n)) r (x_up (x_up (x_up (x_up (x_up A 5 (va_cpy (A 5) (A 5) (f + n : Int).toNat (f : Int).toNat (q 133 - (f + n) : Int).toNat)) 6 (va_cpy (A 6) (A 6) (f + n : Int).toNat (f : Int).toNat (q 133 - (f + n) : Int).toNat)) 7 (va_cpy (A 7) (A 7) (f + n : Int).toNat (f : Int).toNat (q 133 - (f + n) : Int).toNat)) 8 (va_cpy (A 8) (A 8) (f + n : Int).toNat (f : Int).toNat (q 133 - (f + n) : Int).toNat)) 9 (va_cpy (A 9) (A 9) (f + n : Int).toNat (f : Int).toNat (q 133 - (f + n) : Int).toNat)) ++ dy) (x_d C_P_cut 61 rfl) p_P_31 rfl rfl rfl trivial rfl ?_
  refine x_return (x_d C_P_cut 62 rfl) ?_
  exact ⟨rfl, rfl⟩
theorem c_P_cut0 (Z : xZ) (d : Nat) (q : Nat → Int) (r : Nat → Option Nat) (A : Nat → Nat → Int) (dy : xH) (f n : Int) (hc : n = 0 ∧ 0 ≤ f ∧ f ≤ q 133 ∧ q 133 ≤ 12900) : xMet Z d Y_P_cut [xC 4, xI f, xI n] (hF q r A ++ dy) (fun v h2 => v = none ∧ h2 = hF q r A ++ dy) := by
  refine xMet_of (by decide) (Nat.le_of_ble_eq_true rfl) (fun v h2 hq => by rw [hq.1]; trivial) ?_
  refine x_iload_n (x_d C_P_cut 0 rfl) rfl ?_
  refine x_iload_n (x_d C_P_cut 1 rfl) rfl ?_
  refine x_iadd (x_d C_P_cut 2 rfl) ⟨by omega, by omega⟩ ?_
  refine x_istore_n (l1 := [(3, xI (f + n)), (0, xC 4), (1, xI (f)), (2, xI (n))]) (x_d C_P_cut 3 rfl) (by decide) rfl ?_
  refine x_aload_n (x_d C_P_cut 4 rfl) rfl ?_
  refine x_getfield (v := xI (q 133)) (x_d C_P_cut 5 rfl) f_P_31 rfl rfl ?_
  refine x_iload_n (x_d C_P_cut 6 rfl) rfl ?_
  refine x_isub (x_d C_P_cut 7 rfl) ⟨by omega, by omega⟩ ?_
  refine x_istore (l1 := [(4, xI (q 133 - (f + n))), (3, xI (f + n)), (0, xC 4), (1, xI (f)), (2, xI (n))]) (x_d C_P_cut 8 rfl) (by decide) rfl ?_
  refine x_iload_n (x_d C_P_cut 9 rfl) rfl ?_
  refine x_if_lt (tgt := 25) (x_d C_P_cut 10 rfl) rfl (fun q => absurd q (by omega)) (fun _ => ?_)
  refine x_iload_n (x_d C_P_cut 11 rfl) rfl ?_
  refine x_if_le (tgt := 25) (x_d C_P_cut 12 rfl) rfl (fun _ => ?_) (fun q => absurd q (by omega))
  refine x_return (x_d C_P_cut 15 rfl) ?_
  exact ⟨rfl, rfl⟩
theorem c_Pa_start_19 (Z : xZ) (d : Nat) (q : Nat → Int) (r : Nat → Option Nat) (A : Nat → Nat → Int) (dy : xH) (hd : 1 ≤ d) (n : Int) : xMet Z d Y_Pa_start [xC 19, xI n] (hF q r A ++ dy) (fun v h2 => v = none ∧ h2 = hF (x_up (x_up (x_up q 609 0) 610 0) 611 (min n 3000)) r A ++ dy) := by
  refine xMet_of (by decide) (Nat.le_of_ble_eq_true rfl) (fun v h2 hq => by rw [hq.1]; trivial) ?_
  refine x_aload_n (x_d C_Pa_start 0 rfl) rfl ?_
  refine x_iconst (x_d C_Pa_start 1 rfl) ⟨by omega, by omega⟩ ?_
  refine x_putfield (h1 := hF (x_up q 609 0) r A ++ dy) (x_d C_Pa_start 2 rfl) p_Pa_15 rfl rfl rfl trivial rfl ?_
  refine x_aload_n (x_d C_Pa_start 3 rfl) rfl ?_
  refine x_iconst (x_d C_Pa_start 4 rfl) ⟨by omega, by omega⟩ ?_
  refine x_putfield (h1 := hF (x_up (x_up q 609 0) 610 0) r A ++ dy) (x_d C_Pa_start 5 rfl) p_Pa_19 rfl rfl rfl (Or.inl rfl) rfl ?_
  refine x_aload_n (x_d C_Pa_start 6 rfl) rfl ?_
  refine x_iload_n (x_d C_Pa_start 7 rfl) rfl ?_
  refine x_aload_n (x_d C_Pa_start 8 rfl) rfl ?_
  refine x_getfield (v := xC 20) (x_d C_Pa_start 9 rfl) f_Pa_9 rfl rfl ?_
  refine x_arraylength (x_d C_Pa_start 10 rfl) rfl (by decide) (by omega) ?_
  refine x_mmin (st := [xC 19]) (x_d C_Pa_start 11 rfl) kM_Pa_23 mmin_w (Nat.le_of_ble_eq_true rfl) (by omega) ?_
  refine x_putfield (h1 := hF (x_up (x_up (x_up q 609 0) 610 0) 611 (min n 3000)) r A ++ dy) (x_d C_Pa_start 12 rfl) p_Pa_29 rfl rfl rfl trivial rfl ?_
  refine x_return (x_d C_Pa_start 13 rfl) ?_
  exact ⟨rfl, rfl⟩
theorem c_Pa_start_21 (Z : xZ) (d : Nat) (q : Nat → Int) (r : Nat → Option Nat) (A : Nat → Nat → Int) (dy : xH) (hd : 1 ≤ d) (n : Int) : xMet Z d Y_Pa_start [xC 21, xI n] (hF q r A ++ dy) (fun v h2 => v = none ∧ h2 = hF (x_up (x_up (x_up q 673 0) 674 0) 675 (min n 3000)) r A ++ dy) := by
  refine xMet_of (by decide) (Nat.le_of_ble_eq_true rfl) (fun v h2 hq => by rw [hq.1]; trivial) ?_
  refine x_aload_n (x_d C_Pa_start 0 rfl) rfl ?_
  refine x_iconst (x_d C_Pa_start 1 rfl) ⟨by omega, by omega⟩ ?_
  refine x_putfield (h1 := hF (x_up q 673 0) r A ++ dy) (x_d C_Pa_start 2 rfl) p_Pa_15 rfl rfl rfl trivial rfl ?_
  refine x_aload_n (x_d C_Pa_start 3 rfl) rfl ?_
  refine x_iconst (x_d C_Pa_start 4 rfl) ⟨by omega, by omega⟩ ?_
  refine x_putfield (h1 := hF (x_up (x_up q 673 0) 674 0) r A ++ dy) (x_d C_Pa_start 5 rfl) p_Pa_19 rfl rfl rfl (Or.inl rfl) rfl ?_
  refine x_aload_n (x_d C_Pa_start 6 rfl) rfl ?_
  refine x_iload_n (x_d C_Pa_start 7 rfl) rfl ?_
  refine x_aload_n (x_d C_Pa_start 8 rfl) rfl ?_
  refine x_getfield (v := xC 22) (x_d C_Pa_start 9 rfl) f_Pa_9 rfl rfl ?_
  refine x_arraylength (x_d C_Pa_start 10 rfl) rfl (by decide) (by omega) ?_
  refine x_mmin (st := [xC 21]) (x_d C_Pa_start 11 rfl) kM_Pa_23 mmin_w (Nat.le_of_ble_eq_true rfl) (by omega) ?_
  refine x_putfield (h1 := hF (x_up (x_up (x_up q 673 0) 674 0) 675 (min n 3000)) r A ++ dy) (x_d C_Pa_start 12 rfl) p_Pa_29 rfl rfl rfl trivial rfl ?_
  refine x_return (x_d C_Pa_start 13 rfl) ?_
  exact ⟨rfl, rfl⟩
theorem c_Pa_start_38 (Z : xZ) (d : Nat) (q : Nat → Int) (r : Nat → Option Nat) (A : Nat → Nat → Int) (dy : xH) (hd : 1 ≤ d) (n : Int) : xMet Z d Y_Pa_start [xC 38, xI n] (hF q r A ++ dy) (fun v h2 => v = none ∧ h2 = hF (x_up (x_up (x_up q 1217 0) 1218 0) 1219 (min n 6000)) r A ++ dy) := by
  refine xMet_of (by decide) (Nat.le_of_ble_eq_true rfl) (fun v h2 hq => by rw [hq.1]; trivial) ?_
  refine x_aload_n (x_d C_Pa_start 0 rfl) rfl ?_
  refine x_iconst (x_d C_Pa_start 1 rfl) ⟨by omega, by omega⟩ ?_
  refine x_putfield (h1 := hF (x_up q 1217 0) r A ++ dy) (x_d C_Pa_start 2 rfl) p_Pa_15 rfl rfl rfl trivial rfl ?_
  refine x_aload_n (x_d C_Pa_start 3 rfl) rfl ?_
  refine x_iconst (x_d C_Pa_start 4 rfl) ⟨by omega, by omega⟩ ?_
  refine x_putfield (h1 := hF (x_up (x_up q 1217 0) 1218 0) r A ++ dy) (x_d C_Pa_start 5 rfl) p_Pa_19 rfl rfl rfl (Or.inl rfl) rfl ?_
  refine x_aload_n (x_d C_Pa_start 6 rfl) rfl ?_
  refine x_iload_n (x_d C_Pa_start 7 rfl) rfl ?_
  refine x_aload_n (x_d C_Pa_start 8 rfl) rfl ?_
  refine x_getfield (v := xC 39) (x_d C_Pa_start 9 rfl) f_Pa_9 rfl rfl ?_
  refine x_arraylength (x_d C_Pa_start 10 rfl) rfl (by decide) (by omega) ?_
  refine x_mmin (st := [xC 38]) (x_d C_Pa_start 11 rfl) kM_Pa_23 mmin_w (Nat.le_of_ble_eq_true rfl) (by omega) ?_
  refine x_putfield (h1 := hF (x_up (x_up (x_up q 1217 0) 1218 0) 1219 (min n 6000)) r A ++ dy) (x_d C_Pa_start 12 rfl) p_Pa_29 rfl rfl rfl trivial rfl ?_
  refine x_return (x_d C_Pa_start 13 rfl) ?_
  exact ⟨rfl, rfl⟩
theorem c_Pa_start_40 (Z : xZ) (d : Nat) (q : Nat → Int) (r : Nat → Option Nat) (A : Nat → Nat → Int) (dy : xH) (hd : 1 ≤ d) (n : Int) : xMet Z d Y_Pa_start [xC 40, xI n] (hF q r A ++ dy) (fun v h2 => v = none ∧ h2 = hF (x_up (x_up (x_up q 1281 0) 1282 0) 1283 (min n 6000)) r A ++ dy) := by
  refine xMet_of (by decide) (Nat.le_of_ble_eq_true rfl) (fun v h2 hq => by rw [hq.1]; trivial) ?_
  refine x_aload_n (x_d C_Pa_start 0 rfl) rfl ?_
  refine x_iconst (x_d C_Pa_start 1 rfl) ⟨by omega, by omega⟩ ?_
  refine x_putfield (h1 := hF (x_up q 1281 0) r A ++ dy) (x_d C_Pa_start 2 rfl) p_Pa_15 rfl rfl rfl trivial rfl ?_
  refine x_aload_n (x_d C_Pa_start 3 rfl) rfl ?_
  refine x_iconst (x_d C_Pa_start 4 rfl) ⟨by omega, by omega⟩ ?_
  refine x_putfield (h1 := hF (x_up (x_up q 1281 0) 1282 0) r A ++ dy) (x_d C_Pa_start 5 rfl) p_Pa_19 rfl rfl rfl (Or.inl rfl) rfl ?_
  refine x_aload_n (x_d C_Pa_start 6 rfl) rfl ?_
  refine x_iload_n (x_d C_Pa_start 7 rfl) rfl ?_
  refine x_aload_n (x_d C_Pa_start 8 rfl) rfl ?_
  refine x_getfield (v := xC 41) (x_d C_Pa_start 9 rfl) f_Pa_9 rfl rfl ?_
  refine x_arraylength (x_d C_Pa_start 10 rfl) rfl (by decide) (by omega) ?_
  refine x_mmin (st := [xC 40]) (x_d C_Pa_start 11 rfl) kM_Pa_23 mmin_w (Nat.le_of_ble_eq_true rfl) (by omega) ?_
  refine x_putfield (h1 := hF (x_up (x_up (x_up q 1281 0) 1282 0) 1283 (min n 6000)) r A ++ dy) (x_d C_Pa_start 12 rfl) p_Pa_29 rfl rfl rfl trivial rfl ?_
  refine x_return (x_d C_Pa_start 13 rfl) ?_
  exact ⟨rfl, rfl⟩
