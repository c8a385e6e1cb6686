/-! the opener: the last place, entries, sections -/
/-- the last place where startxref stands, above f -/
def s_lk (b : Nat → Int) (n f : Int) : Nat → Int → Int
  | 0, t => t
  | m + 1, t => if f < t ∧ s_txt b n t [115, 116, 97, 114, 116, 120, 114, 101, 102] < 0 then s_lk b n f m (t - 1) else t
def s_lnum (b : Nat → Int) (n t : Int) : Int := s_abyte b n (s_txt b n t [115, 116, 97, 114, 116, 120, 114, 101, 102]) 10
def s_last1 (b : Nat → Int) (n f t : Int) : Int := if t ≤ f ∨ 0 ≤ s_wd b n (t - 1) then -1 else if s_abyte b n (s_txt b n (s_abyte b n (s_wd b n (s_lnum b n t)) 10) [37, 37, 69, 79, 70]) 10 = n then s_num b n (s_lnum b n t) else -1
def s_last (b : Nat → Int) (n f : Int) : Int := s_last1 b n f (s_lk b n f (n - 9 - f).toNat (n - 9))
theorem s_abyte_in (b : Nat → Int) (n i c : Int) : s_abyte b n i c = -1 ∨ (s_abyte b n i c = i + 1 ∧ s_byte b n i = c) := by
  unfold s_abyte
  split
  · next h => exact Or.inr ⟨rfl, h⟩
  · exact Or.inl rfl
theorem w_O_lastPlace_14 (Z : xZ) (d : Nat) (q : Nat → Int) (r : Nat → Option Nat) (A : Nat → Nat → Int) (dy : xH) (hd : 6 ≤ d) (hT : 0 ≤ q 34 ∧ q 34 ≤ q 35 ∧ q 35 ≤ 10248) (kk : ∀ t : Int, xW Z d Y_O_lastPlace 44 [(0, xC 11), (1, xI t)] [] (hF q r A ++ dy) (fun v h2 => v = some (xI (s_last1 (A 2) (q 35) (q 34) t)) ∧ h2 = hF q r A ++ dy)) : ∀ (m : Nat) (t : Int), (t - q 34).toNat = m ∧ -10 ≤ t ∧ t ≤ 20000 → xW Z d Y_O_lastPlace 14 [(0, xC 11), (1, xI t)] [] (hF q r A ++ dy) (fun v h2 => v = some (xI (s_last1 (A 2) (q 35) (q 34) (s_lk (A 2) (q 35) (q 34) m t))) ∧ h2 = hF q r A ++ dy) := by
  intro m
  induction m with
  | zero =>
    intro t ht
    refine x_iload_n (x_d C_O_lastPlace 7 rfl) rfl ?_
    refine x_aload_n (x_d C_O_lastPlace 8 rfl) rfl ?_
    refine x_getfield (v := xC 1) (x_d C_O_lastPlace 9 rfl) f_O_24 rfl rfl ?_
    refine x_getfield (v := xI (q 34)) (x_d C_O_lastPlace 10 rfl) f_O_40 rfl rfl ?_
    refine x_icmp_le (tgt := 44) (x_d C_O_lastPlace 11 rfl) rfl (fun _ => ?_) (fun q => absurd q (by omega))
    have e1 : s_lk (A 2) (q 35) (q 34) 0 t = t := by
      rfl
    rw [e1]
    refine x_locs [0, 1] rfl ?_
    exact kk t
  | succ m ih =>
    intro t ht
    refine x_iload_n (x_d C_O_lastPlace 7 rfl) rfl ?_
    refine x_aload_n (x_d C_O_lastPlace 8 rfl) rfl ?_
    refine x_getfield (v := xC 1) (x_d C_O_lastPlace 9 rfl) f_O_24 rfl rfl ?_
    refine x_getfield (v := xI (q 34)) (x_d C_O_lastPlace 10 rfl) f_O_40 rfl rfl ?_
    refine x_icmp_le (tgt := 44) (x_d C_O_lastPlace 11 rfl) rfl (fun q => absurd q (by omega)) (fun _ => ?_)
    refine x_aload_n (x_d C_O_lastPlace 12 rfl) rfl ?_
    refine x_getfield (v := xC 1) (x_d C_O_lastPlace 13 rfl) f_O_24 rfl rfl ?_
    refine x_iload_n (x_d C_O_lastPlace 14 rfl) rfl ?_
    refine x_ldcS (i := 3) (x_d C_O_lastPlace 15 rfl) rfl ?_
    refine x_invokevirtual (st := []) (av := [xI (t), xS (7)]) (x_d C_O_lastPlace 16 rfl) k_O_57 m_T_afterText v_T_afterText cl_T rfl rfl (Nat.le_of_ble_eq_true rfl) (by omega) rfl (c_T_afterText Z (d - 1) q r A dy (by omega) (i := 3) rfl t hT) ?_
    rintro v_ _ ⟨hv_, rfl⟩
    obtain rfl : v_ = some (xI (s_txt (A 2) (q 35) t [115, 116, 97, 114, 116, 120, 114, 101, 102])) := hv_
    refine x_if_ge (tgt := 44) (x_d C_O_lastPlace 17 rfl) rfl (fun c2 => ?_) (fun c2 => ?_)
    · have e1 : s_lk (A 2) (q 35) (q 34) (m + 1) t = t := by
        unfold s_lk
        rw [if_neg (by omega)]
      rw [e1]
      refine x_locs [0, 1] rfl ?_
      exact kk t
    · refine x_iinc (l1 := [(1, xI (t + (-1))), (0, xC 11)]) (x_d C_O_lastPlace 18 rfl) rfl ⟨by omega, by omega⟩ (by decide) rfl ?_
      refine x_goto (tgt := 14) (x_d C_O_lastPlace 19 rfl) rfl ?_
      refine x_locs [1, 0] rfl ?_
      have e1 : s_lk (A 2) (q 35) (q 34) (m + 1) t = s_lk (A 2) (q 35) (q 34) m (t - 1) := by
        conv => lhs; unfold s_lk
        rw [if_pos (by omega)]
      rw [e1]
      exact ih (t + (-1)) (by omega)
theorem w_O_lastPlace_44 (Z : xZ) (d : Nat) (q : Nat → Int) (r : Nat → Option Nat) (A : Nat → Nat → Int) (dy : xH) (hd : 6 ≤ d) (hT : 0 ≤ q 34 ∧ q 34 ≤ q 35 ∧ q 35 ≤ 10248) (hR : s_okR A) (t : Int) : xW Z d Y_O_lastPlace 44 [(0, xC 11), (1, xI t)] [] (hF q r A ++ dy) (fun v h2 => v = some (xI (s_last1 (A 2) (q 35) (q 34) t)) ∧ h2 = hF q r A ++ dy) := by
  have hwd := s_wd_in (A 2) (q 35) (t - 1)
  refine xW_ok (fun hol _ _ => ?_)
  have ht : x_i32 t := x_okL_get (i := 1) hol rfl
  obtain ⟨ht1, ht2⟩ := ht
  refine x_iload_n (x_d C_O_lastPlace 20 rfl) rfl ?_
  refine x_aload_n (x_d C_O_lastPlace 21 rfl) rfl ?_
  refine x_getfield (v := xC 1) (x_d C_O_lastPlace 22 rfl) f_O_24 rfl rfl ?_
  refine x_getfield (v := xI (q 34)) (x_d C_O_lastPlace 23 rfl) f_O_40 rfl rfl ?_
  refine x_icmp_le (tgt := 68) (x_d C_O_lastPlace 24 rfl) rfl (fun c1 => ?_) (fun c1 => ?_)
  · refine x_iconst (x_d C_O_lastPlace 32 rfl) ⟨by omega, by omega⟩ ?_
    refine x_ireturn (x_d C_O_lastPlace 33 rfl) ?_
    refine ⟨congrArg (fun z => some (xI z)) ?_, rfl⟩
    unfold s_last1 s_lnum
    first | rw [if_pos (by omega)] | rw [if_neg (by omega), if_neg (by omega)]
  · refine x_aload_n (x_d C_O_lastPlace 25 rfl) rfl ?_
    refine x_getfield (v := xC 1) (x_d C_O_lastPlace 26 rfl) f_O_24 rfl rfl ?_
    refine x_iload_n (x_d C_O_lastPlace 27 rfl) rfl ?_
    refine x_iconst (x_d C_O_lastPlace 28 rfl) ⟨by omega, by omega⟩ ?_
    refine x_isub (x_d C_O_lastPlace 29 rfl) ⟨by omega, by omega⟩ ?_
    refine x_invokevirtual (st := []) (av := [xI (t - 1)]) (x_d C_O_lastPlace 30 rfl) k_O_90 m_T_afterWord v_T_afterWord cl_T rfl rfl (Nat.le_of_ble_eq_true rfl) (by omega) rfl (c_T_afterWord Z (d - 1) q r A dy (t - 1) hT hR) ?_
    rintro v_ _ ⟨hv_, rfl⟩
    obtain rfl : v_ = some (xI (s_wd (A 2) (q 35) (t - 1))) := hv_
    refine x_if_lt (tgt := 70) (x_d C_O_lastPlace 31 rfl) rfl (fun c2 => ?_) (fun c2 => ?_)
    · refine x_aload_n (x_d C_O_lastPlace 34 rfl) rfl ?_
      refine x_getfield (v := xC 1) (x_d C_O_lastPlace 35 rfl) f_O_24 rfl rfl ?_
      refine x_aload_n (x_d C_O_lastPlace 36 rfl) rfl ?_
      refine x_getfield (v := xC 1) (x_d C_O_lastPlace 37 rfl) f_O_24 rfl rfl ?_
      refine x_iload_n (x_d C_O_lastPlace 38 rfl) rfl ?_
      refine x_ldcS (i := 3) (x_d C_O_lastPlace 39 rfl) rfl ?_
      refine x_invokevirtual (st := [xC 1]) (av := [xI (t), xS (7)]) (x_d C_O_lastPlace 40 rfl) k_O_57 m_T_afterText v_T_afterText cl_T rfl rfl (Nat.le_of_ble_eq_true rfl) (by omega) rfl (c_T_afterText Z (d - 1) q r A dy (by omega) (i := 3) rfl t hT) ?_
      rintro v_ _ ⟨hv_, rfl⟩
      obtain rfl : v_ = some (xI (s_txt (A 2) (q 35) t [115, 116, 97, 114, 116, 120, 114, 101, 102])) := hv_
      refine x_bipush (x_d C_O_lastPlace 41 rfl) (by omega) ?_
      refine x_invokevirtual (st := []) (av := [xI (s_txt (A 2) (q 35) t [115, 116, 97, 114, 116, 120, 114, 101, 102]), xI (10)]) (x_d C_O_lastPlace 42 rfl) k_O_94 m_T_afterByte v_T_afterByte cl_T rfl rfl (Nat.le_of_ble_eq_true rfl) (by omega) rfl (c_T_afterByte Z (d - 1) q r A dy (by omega) (s_txt (A 2) (q 35) t [115, 116, 97, 114, 116, 120, 114, 101, 102]) 10 hT (by omega)) ?_
      rintro v_ _ ⟨hv_, rfl⟩
      obtain rfl : v_ = some (xI (s_abyte (A 2) (q 35) (s_txt (A 2) (q 35) t [115, 116, 97, 114, 116, 120, 114, 101, 102]) 10)) := hv_
      refine x_istore_n (l1 := [(2, xI (s_abyte (A 2) (q 35) (s_txt (A 2) (q 35) t [115, 116, 97, 114, 116, 120, 114, 101, 102]) 10)), (0, xC 11), (1, xI (t))]) (x_d C_O_lastPlace 43 rfl) (by decide) rfl ?_
      refine x_aload_n (x_d C_O_lastPlace 44 rfl) rfl ?_
      refine x_getfield (v := xC 1) (x_d C_O_lastPlace 45 rfl) f_O_24 rfl rfl ?_
      refine x_aload_n (x_d C_O_lastPlace 46 rfl) rfl ?_
      refine x_getfield (v := xC 1) (x_d C_O_lastPlace 47 rfl) f_O_24 rfl rfl ?_
      refine x_iload_n (x_d C_O_lastPlace 48 rfl) rfl ?_
      refine x_invokevirtual (st := [xC 1]) (av := [xI (s_abyte (A 2) (q 35) (s_txt (A 2) (q 35) t [115, 116, 97, 114, 116, 120, 114, 101, 102]) 10)]) (x_d C_O_lastPlace 49 rfl) k_O_90 m_T_afterWord v_T_afterWord cl_T rfl rfl (Nat.le_of_ble_eq_true rfl) (by omega) rfl (c_T_afterWord Z (d - 1) q r A dy (s_abyte (A 2) (q 35) (s_txt (A 2) (q 35) t [115, 116, 97, 114, 116, 120, 114, 101, 102]) 10) hT hR) ?_
      rintro v_ _ ⟨hv_, rfl⟩
      obtain rfl : v_ = some (xI (s_wd (A 2) (q 35) (s_abyte (A 2) (q 35) (s_txt (A 2) (q 35) t [115, 116, 97, 114, 116, 120, 114, 101, 102]) 10))) := hv_
      refine x_bipush (x_d C_O_lastPlace 50 rfl) (by omega) ?_
      refine x_invokevirtual (st := []) (av := [xI (s_wd (A 2) (q 35) (s_abyte (A 2) (q 35) (s_txt (A 2) (q 35) t [115, 116, 97, 114, 116, 120, 114, 101, 102]) 10)), xI (10)]) (x_d C_O_lastPlace 51 rfl) k_O_94 m_T_afterByte v_T_afterByte cl_T rfl rfl (Nat.le_of_ble_eq_true rfl) (by omega) rfl (c_T_afterByte Z (d - 1) q r A dy (by omega) (s_wd (A 2) (q 35) (s_abyte (A 2) (q 35) (s_txt (A 2) (q 35) t [115, 116, 97, 114, 116, 120, 114, 101, 102]) 10)) 10 hT (by omega)) ?_
      rintro v_ _ ⟨hv_, rfl⟩
      obtain rfl : v_ = some (xI (s_abyte (A 2) (q 35) (s_wd (A 2) (q 35) (s_abyte (A 2) (q 35) (s_txt (A 2) (q 35) t [115, 116, 97, 114, 116, 120, 114, 101, 102]) 10)) 10)) := hv_
      refine x_istore_n (l1 := [(3, xI (s_abyte (A 2) (q 35) (s_wd (A 2) (q 35) (s_abyte (A 2) (q 35) (s_txt (A 2) (q 35) t [115, 116, 97, 114, 116, 120, 114, 101, 102]) 10)) 10)), (2, xI (s_abyte (A 2) (q 35) (s_txt (A 2) (q 35) t [115, 116, 97, 114, 116, 120, 114, 101, 102]) 10)), (0, xC 11), (1, xI (t))]) (x_d C_O_lastPlace 52 rfl) (by decide) rfl ?_
      refine x_aload_n (x_d C_O_lastPlace 53 rfl) rfl ?_
      refine x_getfield (v := xC 1) (x_d C_O_lastPlace 54 rfl) f_O_24 rfl rfl ?_
      refine x_aload_n (x_d C_O_lastPlace 55 rfl) rfl ?_
      refine x_getfield (v := xC 1) (x_d C_O_lastPlace 56 rfl) f_O_24 rfl rfl ?_
      refine x_iload_n (x_d C_O_lastPlace 57 rfl) rfl ?_
      refine x_ldcS (i := 4) (x_d C_O_lastPlace 58 rfl) rfl ?_
      refine x_invokevirtual (st := [xC 1]) (av := [xI (s_abyte (A 2) (q 35) (s_wd (A 2) (q 35) (s_abyte (A 2) (q 35) (s_txt (A 2) (q 35) t [115, 116, 97, 114, 116, 120, 114, 101, 102]) 10)) 10), xS (9)]) (x_d C_O_lastPlace 59 rfl) k_O_57 m_T_afterText v_T_afterText cl_T rfl rfl (Nat.le_of_ble_eq_true rfl) (by omega) rfl (c_T_afterText Z (d - 1) q r A dy (by omega) (i := 4) rfl (s_abyte (A 2) (q 35) (s_wd (A 2) (q 35) (s_abyte (A 2) (q 35) (s_txt (A 2) (q 35) t [115, 116, 97, 114, 116, 120, 114, 101, 102]) 10)) 10) hT) ?_
      rintro v_ _ ⟨hv_, rfl⟩
      obtain rfl : v_ = some (xI (s_txt (A 2) (q 35) (s_abyte (A 2) (q 35) (s_wd (A 2) (q 35) (s_abyte (A 2) (q 35) (s_txt (A 2) (q 35) t [115, 116, 97, 114, 116, 120, 114, 101, 102]) 10)) 10) [37, 37, 69, 79, 70])) := hv_
      refine x_bipush (x_d C_O_lastPlace 60 rfl) (by omega) ?_
      refine x_invokevirtual (st := []) (av := [xI (s_txt (A 2) (q 35) (s_abyte (A 2) (q 35) (s_wd (A 2) (q 35) (s_abyte (A 2) (q 35) (s_txt (A 2) (q 35) t [115, 116, 97, 114, 116, 120, 114, 101, 102]) 10)) 10) [37, 37, 69, 79, 70]), xI (10)]) (x_d C_O_lastPlace 61 rfl) k_O_94 m_T_afterByte v_T_afterByte cl_T rfl rfl (Nat.le_of_ble_eq_true rfl) (by omega) rfl (c_T_afterByte Z (d - 1) q r A dy (by omega) (s_txt (A 2) (q 35) (s_abyte (A 2) (q 35) (s_wd (A 2) (q 35) (s_abyte (A 2) (q 35) (s_txt (A 2) (q 35) t [115, 116, 97, 114, 116, 120, 114, 101, 102]) 10)) 10) [37, 37, 69, 79, 70]) 10 hT (by omega)) ?_
      rintro v_ _ ⟨hv_, rfl⟩
      obtain rfl : v_ = some (xI (s_abyte (A 2) (q 35) (s_txt (A 2) (q 35) (s_abyte (A 2) (q 35) (s_wd (A 2) (q 35) (s_abyte (A 2) (q 35) (s_txt (A 2) (q 35) t [115, 116, 97, 114, 116, 120, 114, 101, 102]) 10)) 10) [37, 37, 69, 79, 70]) 10)) := hv_
      refine x_istore (l1 := [(4, xI (s_abyte (A 2) (q 35) (s_txt (A 2) (q 35) (s_abyte (A 2) (q 35) (s_wd (A 2) (q 35) (s_abyte (A 2) (q 35) (s_txt (A 2) (q 35) t [115, 116, 97, 114, 116, 120, 114, 101, 102]) 10)) 10) [37, 37, 69, 79, 70]) 10)), (3, xI (s_abyte (A 2) (q 35) (s_wd (A 2) (q 35) (s_abyte (A 2) (q 35) (s_txt (A 2) (q 35) t [115, 116, 97, 114, 116, 120, 114, 101, 102]) 10)) 10)), (2, xI (s_abyte (A 2) (q 35) (s_txt (A 2) (q 35) t [115, 116, 97, 114, 116, 120, 114, 101, 102]) 10)), (0, xC 11), (1, xI (t))]) (x_d C_O_lastPlace 62 rfl) (by decide) rfl ?_
      refine x_iload (x_d C_O_lastPlace 63 rfl) rfl ?_
      refine x_aload_n (x_d C_O_lastPlace 64 rfl) rfl ?_
      refine x_getfield (v := xC 1) (x_d C_O_lastPlace 65 rfl) f_O_24 rfl rfl ?_
      refine x_getfield (v := xI (q 35)) (x_d C_O_lastPlace 66 rfl) f_O_46 rfl rfl ?_
      refine x_icmp_ne (tgt := 152) (x_d C_O_lastPlace 67 rfl) rfl (fun c3 => ?_) (fun c3 => ?_)
      · refine x_iconst (x_d C_O_lastPlace 73 rfl) ⟨by omega, by omega⟩ ?_
        refine x_ireturn (x_d C_O_lastPlace 74 rfl) ?_
        refine ⟨congrArg (fun z => some (xI z)) ?_, rfl⟩
        unfold s_last1 s_lnum
        first | rw [if_pos (by omega)] | rw [if_neg (by omega), if_neg (by omega)]
      · refine x_aload_n (x_d C_O_lastPlace 68 rfl) rfl ?_
        refine x_getfield (v := xC 1) (x_d C_O_lastPlace 69 rfl) f_O_24 rfl rfl ?_
        refine x_iload_n (x_d C_O_lastPlace 70 rfl) rfl ?_
        refine x_invokevirtual (st := []) (av := [xI (s_abyte (A 2) (q 35) (s_txt (A 2) (q 35) t [115, 116, 97, 114, 116, 120, 114, 101, 102]) 10)]) (x_d C_O_lastPlace 71 rfl) k_O_100 m_T_number v_T_number cl_T rfl rfl (Nat.le_of_ble_eq_true rfl) (by omega) rfl (c_T_numberA Z (d - 1) q r A dy (s_abyte (A 2) (q 35) (s_txt (A 2) (q 35) t [115, 116, 97, 114, 116, 120, 114, 101, 102]) 10) hT hR) ?_
        rintro v_ _ ⟨hv_, rfl⟩
        obtain rfl : v_ = some (xI (s_num (A 2) (q 35) (s_abyte (A 2) (q 35) (s_txt (A 2) (q 35) t [115, 116, 97, 114, 116, 120, 114, 101, 102]) 10))) := hv_
        refine x_goto (tgt := 153) (x_d C_O_lastPlace 72 rfl) rfl ?_
        refine x_ireturn (x_d C_O_lastPlace 74 rfl) ?_
        refine ⟨congrArg (fun z => some (xI z)) ?_, rfl⟩
        unfold s_last1 s_lnum
        rw [if_neg (by omega), if_pos (by omega)]
    · refine x_iconst (x_d C_O_lastPlace 32 rfl) ⟨by omega, by omega⟩ ?_
      refine x_ireturn (x_d C_O_lastPlace 33 rfl) ?_
      refine ⟨congrArg (fun z => some (xI z)) ?_, rfl⟩
      unfold s_last1 s_lnum
      first | rw [if_pos (by omega)] | rw [if_neg (by omega), if_neg (by omega)]
theorem c_O_lastPlace (Z : xZ) (d : Nat) (q : Nat → Int) (r : Nat → Option Nat) (A : Nat → Nat → Int) (dy : xH) (hd : 6 ≤ d) (hT : 0 ≤ q 34 ∧ q 34 ≤ q 35 ∧ q 35 ≤ 10248) (hR : s_okR A) : xMet Z d Y_O_lastPlace [xC 11] (hF q r A ++ dy) (fun v h2 => v = some (xI (s_last (A 2) (q 35) (q 34))) ∧ h2 = hF q r A ++ dy) := by
  refine xMet_of (by decide) (Nat.le_of_ble_eq_true rfl) (fun v h2 hq => by rw [hq.1]; trivial) ?_
  refine x_aload_n (x_d C_O_lastPlace 0 rfl) rfl ?_
  refine x_getfield (v := xC 1) (x_d C_O_lastPlace 1 rfl) f_O_24 rfl rfl ?_
  refine x_getfield (v := xI (q 35)) (x_d C_O_lastPlace 2 rfl) f_O_46 rfl rfl ?_
  refine x_ldcS (i := 3) (x_d C_O_lastPlace 3 rfl) rfl ?_
  refine x_invokevirtualS (i := 3) (st := [xI (q 35)]) (av := []) (x_d C_O_lastPlace 4 rfl) k_O_85 m_S_length v_S_length rfl rfl rfl (Nat.le_of_ble_eq_true rfl) (by omega) rfl (c_S_length Z (d - 1) (hF q r A ++ dy) (by omega) (i := 3) rfl) ?_
  rintro v_ _ ⟨hv_, rfl⟩
  obtain rfl : v_ = some (xI ((9 : Int))) := hv_
  refine x_isub (x_d C_O_lastPlace 5 rfl) ⟨by omega, by omega⟩ ?_
  refine x_istore_n (l1 := [(1, xI (q 35 - ((9 : Int)))), (0, xC 11)]) (x_d C_O_lastPlace 6 rfl) (by decide) rfl ?_
  refine x_locs [1, 0] rfl ?_
  exact w_O_lastPlace_14 Z d q r A dy hd hT (fun t => w_O_lastPlace_44 Z d q r A dy hd hT hR t) (q 35 - 9 - q 34).toNat (q 35 - 9) (by omega)
/-- of each number: its table, place, generation, whether it is used; the highest -/
abbrev ost := (Nat → Int) × (Nat → Int) × (Nat → Int) × (Nat → Int) × Int
def e_ok (b : Nat → Int) (n i : Int) : Prop := 0 ≤ s_dgs b n i 10 ∧ s_byte b n (i + 10) = 32 ∧ 0 ≤ s_dgs b n (i + 11) 5 ∧ (0 ≤ s_txt b n (i + 16) [32, 110, 32, 10] ∨ 0 ≤ s_txt b n (i + 16) [32, 102, 32, 10])
def e_st (b : Nat → Int) (n f t sz i k : Int) (x : ost) : ost := if x.1 k.toNat = 0 ∧ (t = 0 ∨ k < sz) then (x_up x.1 k.toNat (t + 1), x_up x.2.1 k.toNat (min (s_dgs b n i 10) (n - f)), x_up x.2.2.1 k.toNat (s_dgs b n (i + 11) 5), x_up x.2.2.2.1 k.toNat (if 0 ≤ s_txt b n (i + 16) [32, 110, 32, 10] then 1 else 0), max x.2.2.2.2 k) else (x_up x.1 k.toNat (t + 1), x.2.1, x.2.2.1, x.2.2.2.1, max x.2.2.2.2 k)
def e_bad (b : Nat → Int) (n i : Int) : Bool := !(decide (0 ≤ s_dgs b n i 10) && decide (s_byte b n (i + 10) = 32) && decide (0 ≤ s_dgs b n (i + 11) 5) && (decide (0 ≤ s_txt b n (i + 16) [32, 110, 32, 10]) || decide (0 ≤ s_txt b n (i + 16) [32, 102, 32, 10])))
theorem e_bad_f {b : Nat → Int} {n i : Int} : e_bad b n i = false ↔ e_ok b n i := by
  unfold e_bad e_ok
  simp only [Bool.not_eq_false', Bool.and_eq_true, Bool.or_eq_true, decide_eq_true_eq, and_assoc]
theorem e_bad_t {b : Nat → Int} {n i : Int} (h : ¬ e_ok b n i) : e_bad b n i = true := by
  cases e : e_bad b n i with
  | true => rfl
  | false => exact absurd (e_bad_f.mp e) h
def s_entry (b : Nat → Int) (n f t sz i k : Int) (x : ost) : Option ost := if e_bad b n i = true ∨ x.1 k.toNat = t + 1 then none else some (e_st b n f t sz i k x)
def s_entrs (b : Nat → Int) (n f t sz : Int) : Nat → Int → Int → ost → Option (ost × Int)
  | 0, i, _, x => some (x, i)
  | m + 1, i, k, x => (s_entry b n f t sz i k x).bind (s_entrs b n f t sz m (i + 20) (k + 1))
def s_sect (b : Nat → Int) (n f t sz i : Int) (x : ost) : Option (ost × Int) := if s_num b n i < 0 ∨ s_num b n (s_abyte b n (s_wd b n i) 32) < 0 ∨ s_abyte b n (s_wd b n (s_abyte b n (s_wd b n i) 32)) 10 < 0 ∨ (0 < s_num b n (s_abyte b n (s_wd b n i) 32) ∧ 300 < s_num b n i + s_num b n (s_abyte b n (s_wd b n i) 32)) then none else s_entrs b n f t sz (s_num b n (s_abyte b n (s_wd b n i) 32)).toNat (s_abyte b n (s_wd b n (s_abyte b n (s_wd b n i) 32)) 10) (s_num b n i) x
theorem s_dgs_in (b : Nat → Int) (n p k : Int) (hk : 0 ≤ k ∧ k ≤ 10) : -1 ≤ s_dgs b n p k ∧ s_dgs b n p k < 10 ^ k.toNat := by
  unfold s_dgs
  split
  · next h =>
    have := s_dv_in b k.toNat p.toNat h.2.2
    omega
  · have := s_p10 k.toNat
    omega
theorem c_O_readEntry (Z : xZ) (d : Nat) (q : Nat → Int) (r : Nat → Option Nat) (A : Nat → Nat → Int) (dy : xH) (hd : 5 ≤ d) (x : ost) (i k t : Int) (hT : 0 ≤ q 34 ∧ q 34 ≤ q 35 ∧ q 35 ≤ 10248) (hz : 0 ≤ q 1029 ∧ q 1029 ≤ 300) (hi : 0 ≤ i ∧ i ≤ 18000) (hk : 0 ≤ k ∧ k < 300) (ht : 0 ≤ t ∧ t ≤ 6) : xMet Z d Y_O_readEntry [xC 11, xI i, xI k, xI t] (hF (x_up q 362 x.2.2.2.2) (x_up r 359 (some 32)) (x_up (x_up (x_up (x_up A 13 x.1) 14 x.2.1) 34 x.2.2.1) 35 x.2.2.2.1) ++ dy) (fun v0 h2 => (v0 = some (xI 1) ∧ ∃ y, s_entry (A 2) (q 35) (q 34) t (q 1029) i k x = some y ∧ h2 = hF (x_up q 362 y.2.2.2.2) (x_up r 359 (some 32)) (x_up (x_up (x_up (x_up A 13 y.1) 14 y.2.1) 34 y.2.2.1) 35 y.2.2.2.1) ++ dy) ∨ (v0 = some (xI 0) ∧ s_entry (A 2) (q 35) (q 34) t (q 1029) i k x = none ∧ h2 = hF (x_up q 362 x.2.2.2.2) (x_up r 359 (some 32)) (x_up (x_up (x_up (x_up A 13 x.1) 14 x.2.1) 34 x.2.2.1) 35 x.2.2.2.1) ++ dy)) := by
  refine xMet_of (by decide) (Nat.le_of_ble_eq_true rfl) (fun v0 h2 hq => by rcases hq with ⟨e, _⟩ | ⟨e, _⟩ <;> rw [e]; exact Or.inr rfl; exact Or.inl rfl) ?_
  have hd1 := s_dgs_in (A 2) (q 35) i 10 ⟨by omega, by omega⟩
  have hd2 := s_dgs_in (A 2) (q 35) (i + 11) 5 ⟨by omega, by omega⟩
  have hp10 : (10 : Int) ^ (10 : Int).toNat = 10000000000 := by decide
  have hp5 : (10 : Int) ^ (5 : Int).toNat = 100000 := by decide
  rw [hp10] at hd1
  rw [hp5] at hd2
  have hl0 : ∀ z : Int, (x_lc z 0 = -1 ∧ z < 0) ∨ (0 ≤ x_lc z 0 ∧ 0 ≤ z) := fun z => by unfold x_lc; (repeat' split) <;> omega
  have hl1 := hl0 (s_dgs (A 2) (q 35) i 10)
  have hl2 := hl0 (s_dgs (A 2) (q 35) (i + 11) 5)
  refine x_aload_n (x_d C_O_readEntry 0 rfl) rfl ?_
  refine x_getfield (v := xC 1) (x_d C_O_readEntry 1 rfl) f_O_24 rfl rfl ?_
  refine x_iload_n (x_d C_O_readEntry 2 rfl) rfl ?_
  refine x_bipush (x_d C_O_readEntry 3 rfl) (by omega) ?_
  refine x_invokevirtual (st := []) (av := [xI (i), xI (10)]) (x_d C_O_readEntry 4 rfl) k_O_61 m_T_digits v_T_digits cl_T rfl rfl (Nat.le_of_ble_eq_true rfl) (by omega) rfl (c_T_digits Z (d - 1) (x_up q 362 x.2.2.2.2) (x_up r 359 (some 32)) (x_up (x_up (x_up (x_up A 13 x.1) 14 x.2.1) 34 x.2.2.1) 35 x.2.2.2.1) dy (by omega) i 10 hT (by omega) (by omega)) ?_
  rintro v_ _ ⟨hv_, rfl⟩
  obtain rfl : v_ = some (xJ (s_dgs (A 2) (q 35) i 10)) := hv_
  refine x_lstore (l1 := [(4, xJ (s_dgs (A 2) (q 35) i 10)), (0, xC 11), (1, xI (i)), (2, xI (k)), (3, xI (t))]) (x_d C_O_readEntry 5 rfl) (by decide) rfl ?_
  refine x_aload_n (x_d C_O_readEntry 6 rfl) rfl ?_
  refine x_getfield (v := xC 1) (x_d C_O_readEntry 7 rfl) f_O_24 rfl rfl ?_
  refine x_iload_n (x_d C_O_readEntry 8 rfl) rfl ?_
  refine x_bipush (x_d C_O_readEntry 9 rfl) (by omega) ?_
  refine x_iadd (x_d C_O_readEntry 10 rfl) ⟨by omega, by omega⟩ ?_
  refine x_iconst (x_d C_O_readEntry 11 rfl) ⟨by omega, by omega⟩ ?_
  refine x_invokevirtual (st := []) (av := [xI (i + 11), xI (5)]) (x_d C_O_readEntry 12 rfl) k_O_61 m_T_digits v_T_digits cl_T rfl rfl (Nat.le_of_ble_eq_true rfl) (by omega) rfl (c_T_digits Z (d - 1) (x_up q 362 x.2.2.2.2) (x_up r 359 (some 32)) (x_up (x_up (x_up (x_up A 13 x.1) 14 x.2.1) 34 x.2.2.1) 35 x.2.2.2.1) dy (by omega) (i + 11) 5 hT (by omega) (by omega)) ?_
  rintro v_ _ ⟨hv_, rfl⟩
  obtain rfl : v_ = some (xJ (s_dgs (A 2) (q 35) (i + 11) 5)) := hv_
  refine x_lstore (l1 := [(6, xJ (s_dgs (A 2) (q 35) (i + 11) 5)), (4, xJ (s_dgs (A 2) (q 35) i 10)), (0, xC 11), (1, xI (i)), (2, xI (k)), (3, xI (t))]) (x_d C_O_readEntry 13 rfl) (by decide) rfl ?_
  refine x_aload_n (x_d C_O_readEntry 14 rfl) rfl ?_
  refine x_getfield (v := xC 1) (x_d C_O_readEntry 15 rfl) f_O_24 rfl rfl ?_
  refine x_iload_n (x_d C_O_readEntry 16 rfl) rfl ?_
  refine x_bipush (x_d C_O_readEntry 17 rfl) (by omega) ?_
  refine x_iadd (x_d C_O_readEntry 18 rfl) ⟨by omega, by omega⟩ ?_
  refine x_ldcS (i := 6) (x_d C_O_readEntry 19 rfl) rfl ?_
  refine x_invokevirtual (st := []) (av := [xI (i + 16), xS (13)]) (x_d C_O_readEntry 20 rfl) k_O_57 m_T_afterText v_T_afterText cl_T rfl rfl (Nat.le_of_ble_eq_true rfl) (by omega) rfl (c_T_afterText Z (d - 1) (x_up q 362 x.2.2.2.2) (x_up r 359 (some 32)) (x_up (x_up (x_up (x_up A 13 x.1) 14 x.2.1) 34 x.2.2.1) 35 x.2.2.2.1) dy (by omega) (i := 6) rfl (i + 16) hT) ?_
  rintro v_ _ ⟨hv_, rfl⟩
  obtain rfl : v_ = some (xI (s_txt (A 2) (q 35) (i + 16) [32, 110, 32, 10])) := hv_
  refine x_if_lt (tgt := 46) (x_d C_O_readEntry 21 rfl) rfl (fun c1 => ?_) (fun c1 => ?_)
  · refine x_iconst (x_d C_O_readEntry 24 rfl) ⟨by omega, by omega⟩ ?_
    refine x_istore (l1 := [(8, xI (0)), (6, xJ (s_dgs (A 2) (q 35) (i + 11) 5)), (4, xJ (s_dgs (A 2) (q 35) i 10)), (0, xC 11), (1, xI (i)), (2, xI (k)), (3, xI (t))]) (x_d C_O_readEntry 25 rfl) (by decide) rfl ?_
    refine x_aload_n (x_d C_O_readEntry 26 rfl) rfl ?_
    refine x_getfield (v := xC 1) (x_d C_O_readEntry 27 rfl) f_O_24 rfl rfl ?_
    refine x_iload_n (x_d C_O_readEntry 28 rfl) rfl ?_
    refine x_bipush (x_d C_O_readEntry 29 rfl) (by omega) ?_
    refine x_iadd (x_d C_O_readEntry 30 rfl) ⟨by omega, by omega⟩ ?_
    refine x_ldcS (i := 7) (x_d C_O_readEntry 31 rfl) rfl ?_
    refine x_invokevirtual (st := []) (av := [xI (i + 16), xS (15)]) (x_d C_O_readEntry 32 rfl) k_O_57 m_T_afterText v_T_afterText cl_T rfl rfl (Nat.le_of_ble_eq_true rfl) (by omega) rfl (c_T_afterText Z (d - 1) (x_up q 362 x.2.2.2.2) (x_up r 359 (some 32)) (x_up (x_up (x_up (x_up A 13 x.1) 14 x.2.1) 34 x.2.2.1) 35 x.2.2.2.1) dy (by omega) (i := 7) rfl (i + 16) hT) ?_
    rintro v_ _ ⟨hv_, rfl⟩
    obtain rfl : v_ = some (xI (s_txt (A 2) (q 35) (i + 16) [32, 102, 32, 10])) := hv_
    refine x_if_lt (tgt := 69) (x_d C_O_readEntry 33 rfl) rfl (fun c2 => ?_) (fun c2 => ?_)
    · refine x_iconst (x_d C_O_readEntry 36 rfl) ⟨by omega, by omega⟩ ?_
      refine x_istore (l1 := [(9, xI (0)), (8, xI (0)), (6, xJ (s_dgs (A 2) (q 35) (i + 11) 5)), (4, xJ (s_dgs (A 2) (q 35) i 10)), (0, xC 11), (1, xI (i)), (2, xI (k)), (3, xI (t))]) (x_d C_O_readEntry 37 rfl) (by decide) rfl ?_
      refine x_lload (x_d C_O_readEntry 38 rfl) rfl ?_
      refine x_lconst0 (x_d C_O_readEntry 39 rfl) ?_
      refine x_lcmp (x_d C_O_readEntry 40 rfl) ?_
      refine x_if_lt (tgt := 116) (x_d C_O_readEntry 41 rfl) rfl (fun c3 => ?_) (fun c3 => ?_)
      · refine x_iconst (x_d C_O_readEntry 60 rfl) ⟨by omega, by omega⟩ ?_
        refine x_istore (l1 := [(10, xI (0)), (9, xI (0)), (8, xI (0)), (6, xJ (s_dgs (A 2) (q 35) (i + 11) 5)), (4, xJ (s_dgs (A 2) (q 35) i 10)), (0, xC 11), (1, xI (i)), (2, xI (k)), (3, xI (t))]) (x_d C_O_readEntry 61 rfl) (by decide) rfl ?_
        refine x_iload (x_d C_O_readEntry 62 rfl) rfl ?_
        refine x_if_eq (tgt := 136) (x_d C_O_readEntry 63 rfl) rfl (fun _ => ?_) (fun q => absurd q (by omega))
        refine x_iconst (x_d C_O_readEntry 72 rfl) ⟨by omega, by omega⟩ ?_
        refine x_ireturn (x_d C_O_readEntry 73 rfl) ?_
        refine Or.inr ⟨rfl, ?_, rfl⟩
        unfold s_entry
        first | rw [if_pos (Or.inr (by omega))] | rw [if_pos (Or.inl (e_bad_t (fun z => by unfold e_ok at z; omega)))]
      · refine x_aload_n (x_d C_O_readEntry 42 rfl) rfl ?_
        refine x_getfield (v := xC 1) (x_d C_O_readEntry 43 rfl) f_O_24 rfl rfl ?_
        refine x_iload_n (x_d C_O_readEntry 44 rfl) rfl ?_
        refine x_bipush (x_d C_O_readEntry 45 rfl) (by omega) ?_
        refine x_iadd (x_d C_O_readEntry 46 rfl) ⟨by omega, by omega⟩ ?_
        refine x_invokevirtual (st := []) (av := [xI (i + 10)]) (x_d C_O_readEntry 47 rfl) k_O_130 m_T_byteAt v_T_byteAt cl_T rfl rfl (Nat.le_of_ble_eq_true rfl) (by omega) rfl (c_T_byteAt Z (d - 1) (x_up q 362 x.2.2.2.2) (x_up r 359 (some 32)) (x_up (x_up (x_up (x_up A 13 x.1) 14 x.2.1) 34 x.2.2.1) 35 x.2.2.2.1) dy (i + 10) hT) ?_
        rintro v_ _ ⟨hv_, rfl⟩
        obtain rfl : v_ = some (xI (s_byte (A 2) (q 35) (i + 10))) := hv_
        refine x_bipush (x_d C_O_readEntry 48 rfl) (by omega) ?_
        refine x_icmp_ne (tgt := 116) (x_d C_O_readEntry 49 rfl) rfl (fun c5 => ?_) (fun c5 => ?_)
        · refine x_iconst (x_d C_O_readEntry 60 rfl) ⟨by omega, by omega⟩ ?_
          refine x_istore (l1 := [(10, xI (0)), (9, xI (0)), (8, xI (0)), (6, xJ (s_dgs (A 2) (q 35) (i + 11) 5)), (4, xJ (s_dgs (A 2) (q 35) i 10)), (0, xC 11), (1, xI (i)), (2, xI (k)), (3, xI (t))]) (x_d C_O_readEntry 61 rfl) (by decide) rfl ?_
          refine x_iload (x_d C_O_readEntry 62 rfl) rfl ?_
          refine x_if_eq (tgt := 136) (x_d C_O_readEntry 63 rfl) rfl (fun _ => ?_) (fun q => absurd q (by omega))
          refine x_iconst (x_d C_O_readEntry 72 rfl) ⟨by omega, by omega⟩ ?_
          refine x_ireturn (x_d C_O_readEntry 73 rfl) ?_
          refine Or.inr ⟨rfl, ?_, rfl⟩
          unfold s_entry
          first | rw [if_pos (Or.inr (by omega))] | rw [if_pos (Or.inl (e_bad_t (fun z => by unfold e_ok at z; omega)))]
        · refine x_lload (x_d C_O_readEntry 50 rfl) rfl ?_
          refine x_lconst0 (x_d C_O_readEntry 51 rfl) ?_
          refine x_lcmp (x_d C_O_readEntry 52 rfl) ?_
          refine x_if_lt (tgt := 116) (x_d C_O_readEntry 53 rfl) rfl (fun c7 => ?_) (fun c7 => ?_)
          · refine x_iconst (x_d C_O_readEntry 60 rfl) ⟨by omega, by omega⟩ ?_
            refine x_istore (l1 := [(10, xI (0)), (9, xI (0)), (8, xI (0)), (6, xJ (s_dgs (A 2) (q 35) (i + 11) 5)), (4, xJ (s_dgs (A 2) (q 35) i 10)), (0, xC 11), (1, xI (i)), (2, xI (k)), (3, xI (t))]) (x_d C_O_readEntry 61 rfl) (by decide) rfl ?_
            refine x_iload (x_d C_O_readEntry 62 rfl) rfl ?_
            refine x_if_eq (tgt := 136) (x_d C_O_readEntry 63 rfl) rfl (fun _ => ?_) (fun q => absurd q (by omega))
            refine x_iconst (x_d C_O_readEntry 72 rfl) ⟨by omega, by omega⟩ ?_
            refine x_ireturn (x_d C_O_readEntry 73 rfl) ?_
            refine Or.inr ⟨rfl, ?_, rfl⟩
            unfold s_entry
            first | rw [if_pos (Or.inr (by omega))] | rw [if_pos (Or.inl (e_bad_t (fun z => by unfold e_ok at z; omega)))]
          · refine x_iload (x_d C_O_readEntry 54 rfl) rfl ?_
            refine x_if_ne (tgt := 112) (x_d C_O_readEntry 55 rfl) rfl (fun q => absurd q (by omega)) (fun _ => ?_)
            refine x_iload (x_d C_O_readEntry 56 rfl) rfl ?_
            refine x_if_eq (tgt := 116) (x_d C_O_readEntry 57 rfl) rfl (fun _ => ?_) (fun q => absurd q (by omega))
            refine x_iconst (x_d C_O_readEntry 60 rfl) ⟨by omega, by omega⟩ ?_
            refine x_istore (l1 := [(10, xI (0)), (9, xI (0)), (8, xI (0)), (6, xJ (s_dgs (A 2) (q 35) (i + 11) 5)), (4, xJ (s_dgs (A 2) (q 35) i 10)), (0, xC 11), (1, xI (i)), (2, xI (k)), (3, xI (t))]) (x_d C_O_readEntry 61 rfl) (by decide) rfl ?_
            refine x_iload (x_d C_O_readEntry 62 rfl) rfl ?_
            refine x_if_eq (tgt := 136) (x_d C_O_readEntry 63 rfl) rfl (fun _ => ?_) (fun q => absurd q (by omega))
            refine x_iconst (x_d C_O_readEntry 72 rfl) ⟨by omega, by omega⟩ ?_
            refine x_ireturn (x_d C_O_readEntry 73 rfl) ?_
            refine Or.inr ⟨rfl, ?_, rfl⟩
            unfold s_entry
            first | rw [if_pos (Or.inr (by omega))] | rw [if_pos (Or.inl (e_bad_t (fun z => by unfold e_ok at z; omega)))]
    · refine x_iconst (x_d C_O_readEntry 34 rfl) ⟨by omega, by omega⟩ ?_
      refine x_goto (tgt := 70) (x_d C_O_readEntry 35 rfl) rfl ?_
      refine x_istore (l1 := [(9, xI (1)), (8, xI (0)), (6, xJ (s_dgs (A 2) (q 35) (i + 11) 5)), (4, xJ (s_dgs (A 2) (q 35) i 10)), (0, xC 11), (1, xI (i)), (2, xI (k)), (3, xI (t))]) (x_d C_O_readEntry 37 rfl) (by decide) rfl ?_
      refine x_lload (x_d C_O_readEntry 38 rfl) rfl ?_
      refine x_lconst0 (x_d C_O_readEntry 39 rfl) ?_
      refine x_lcmp (x_d C_O_readEntry 40 rfl) ?_
      refine x_if_lt (tgt := 116) (x_d C_O_readEntry 41 rfl) rfl (fun c12 => ?_) (fun c12 => ?_)
      · refine x_iconst (x_d C_O_readEntry 60 rfl) ⟨by omega, by omega⟩ ?_
        refine x_istore (l1 := [(10, xI (0)), (9, xI (1)), (8, xI (0)), (6, xJ (s_dgs (A 2) (q 35) (i + 11) 5)), (4, xJ (s_dgs (A 2) (q 35) i 10)), (0, xC 11), (1, xI (i)), (2, xI (k)), (3, xI (t))]) (x_d C_O_readEntry 61 rfl) (by decide) rfl ?_
        refine x_iload (x_d C_O_readEntry 62 rfl) rfl ?_
        refine x_if_eq (tgt := 136) (x_d C_O_readEntry 63 rfl) rfl (fun _ => ?_) (fun q => absurd q (by omega))
        refine x_iconst (x_d C_O_readEntry 72 rfl) ⟨by omega, by omega⟩ ?_
        refine x_ireturn (x_d C_O_readEntry 73 rfl) ?_
        refine Or.inr ⟨rfl, ?_, rfl⟩
        unfold s_entry
        first | rw [if_pos (Or.inr (by omega))] | rw [if_pos (Or.inl (e_bad_t (fun z => by unfold e_ok at z; omega)))]
      · refine x_aload_n (x_d C_O_readEntry 42 rfl) rfl ?_
        refine x_getfield (v := xC 1) (x_d C_O_readEntry 43 rfl) f_O_24 rfl rfl ?_
        refine x_iload_n (x_d C_O_readEntry 44 rfl) rfl ?_
        refine x_bipush (x_d C_O_readEntry 45 rfl) (by omega) ?_
        refine x_iadd (x_d C_O_readEntry 46 rfl) ⟨by omega, by omega⟩ ?_
        refine x_invokevirtual (st := []) (av := [xI (i + 10)]) (x_d C_O_readEntry 47 rfl) k_O_130 m_T_byteAt v_T_byteAt cl_T rfl rfl (Nat.le_of_ble_eq_true rfl) (by omega) rfl (c_T_byteAt Z (d - 1) (x_up q 362 x.2.2.2.2) (x_up r 359 (some 32)) (x_up (x_up (x_up (x_up A 13 x.1) 14 x.2.1) 34 x.2.2.1) 35 x.2.2.2.1) dy (i + 10) hT) ?_
        rintro v_ _ ⟨hv_, rfl⟩
        obtain rfl : v_ = some (xI (s_byte (A 2) (q 35) (i + 10))) := hv_
        refine x_bipush (x_d C_O_readEntry 48 rfl) (by omega) ?_
        refine x_icmp_ne (tgt := 116) (x_d C_O_readEntry 49 rfl) rfl (fun c14 => ?_) (fun c14 => ?_)
        · refine x_iconst (x_d C_O_readEntry 60 rfl) ⟨by omega, by omega⟩ ?_
          refine x_istore (l1 := [(10, xI (0)), (9, xI (1)), (8, xI (0)), (6, xJ (s_dgs (A 2) (q 35) (i + 11) 5)), (4, xJ (s_dgs (A 2) (q 35) i 10)), (0, xC 11), (1, xI (i)), (2, xI (k)), (3, xI (t))]) (x_d C_O_readEntry 61 rfl) (by decide) rfl ?_
          refine x_iload (x_d C_O_readEntry 62 rfl) rfl ?_
          refine x_if_eq (tgt := 136) (x_d C_O_readEntry 63 rfl) rfl (fun _ => ?_) (fun q => absurd q (by omega))
          refine x_iconst (x_d C_O_readEntry 72 rfl) ⟨by omega, by omega⟩ ?_
          refine x_ireturn (x_d C_O_readEntry 73 rfl) ?_
          refine Or.inr ⟨rfl, ?_, rfl⟩
          unfold s_entry
          first | rw [if_pos (Or.inr (by omega))] | rw [if_pos (Or.inl (e_bad_t (fun z => by unfold e_ok at z; omega)))]
        · refine x_lload (x_d C_O_readEntry 50 rfl) rfl ?_
          refine x_lconst0 (x_d C_O_readEntry 51 rfl) ?_
          refine x_lcmp (x_d C_O_readEntry 52 rfl) ?_
          refine x_if_lt (tgt := 116) (x_d C_O_readEntry 53 rfl) rfl (fun c16 => ?_) (fun c16 => ?_)
          · refine x_iconst (x_d C_O_readEntry 60 rfl) ⟨by omega, by omega⟩ ?_
            refine x_istore (l1 := [(10, xI (0)), (9, xI (1)), (8, xI (0)), (6, xJ (s_dgs (A 2) (q 35) (i + 11) 5)), (4, xJ (s_dgs (A 2) (q 35) i 10)), (0, xC 11), (1, xI (i)), (2, xI (k)), (3, xI (t))]) (x_d C_O_readEntry 61 rfl) (by decide) rfl ?_
            refine x_iload (x_d C_O_readEntry 62 rfl) rfl ?_
            refine x_if_eq (tgt := 136) (x_d C_O_readEntry 63 rfl) rfl (fun _ => ?_) (fun q => absurd q (by omega))
            refine x_iconst (x_d C_O_readEntry 72 rfl) ⟨by omega, by omega⟩ ?_
            refine x_ireturn (x_d C_O_readEntry 73 rfl) ?_
            refine Or.inr ⟨rfl, ?_, rfl⟩
            unfold s_entry
            first | rw [if_pos (Or.inr (by omega))] | rw [if_pos (Or.inl (e_bad_t (fun z => by unfold e_ok at z; omega)))]
          · refine x_iload (x_d C_O_readEntry 54 rfl) rfl ?_
            refine x_if_ne (tgt := 112) (x_d C_O_readEntry 55 rfl) rfl (fun q => absurd q (by omega)) (fun _ => ?_)
            refine x_iload (x_d C_O_readEntry 56 rfl) rfl ?_
            refine x_if_eq (tgt := 116) (x_d C_O_readEntry 57 rfl) rfl (fun q => absurd q (by omega)) (fun _ => ?_)
            refine x_iconst (x_d C_O_readEntry 58 rfl) ⟨by omega, by omega⟩ ?_
            refine x_goto (tgt := 117) (x_d C_O_readEntry 59 rfl) rfl ?_
            refine x_istore (l1 := [(10, xI (1)), (9, xI (1)), (8, xI (0)), (6, xJ (s_dgs (A 2) (q 35) (i + 11) 5)), (4, xJ (s_dgs (A 2) (q 35) i 10)), (0, xC 11), (1, xI (i)), (2, xI (k)), (3, xI (t))]) (x_d C_O_readEntry 61 rfl) (by decide) rfl ?_
            refine x_iload (x_d C_O_readEntry 62 rfl) rfl ?_
            refine x_if_eq (tgt := 136) (x_d C_O_readEntry 63 rfl) rfl (fun q => absurd q (by omega)) (fun _ => ?_)
            refine x_aload_n (x_d C_O_readEntry 64 rfl) rfl ?_
            refine x_getfield (v := xC 13) (x_d C_O_readEntry 65 rfl) f_O_15 rfl rfl ?_
            refine x_iload_n (x_d C_O_readEntry 66 rfl) rfl ?_
            refine x_iaload (f := x.1) (x_d C_O_readEntry 67 rfl) rfl (by omega) (by omega) ?_
            refine x_iload_n (x_d C_O_readEntry 68 rfl) rfl ?_
            refine x_iconst (x_d C_O_readEntry 69 rfl) ⟨by omega, by omega⟩ ?_
            refine x_iadd (x_d C_O_readEntry 70 rfl) ⟨by omega, by omega⟩ ?_
            refine x_icmp_ne (tgt := 138) (x_d C_O_readEntry 71 rfl) rfl (fun c21 => ?_) (fun c21 => ?_)
            · refine x_aload_n (x_d C_O_readEntry 74 rfl) rfl ?_
              refine x_getfield (v := xC 13) (x_d C_O_readEntry 75 rfl) f_O_15 rfl rfl ?_
              refine x_iload_n (x_d C_O_readEntry 76 rfl) rfl ?_
              refine x_iaload (f := x.1) (x_d C_O_readEntry 77 rfl) rfl (by omega) (by omega) ?_
              refine x_if_ne (tgt := 205) (x_d C_O_readEntry 78 rfl) rfl (fun c22 => ?_) (fun c22 => ?_)
              · refine x_aload_n (x_d C_O_readEntry 110 rfl) rfl ?_
                refine x_getfield (v := xC 13) (x_d C_O_readEntry 111 rfl) f_O_15 rfl rfl ?_
                refine x_iload_n (x_d C_O_readEntry 112 rfl) rfl ?_
                refine x_iload_n (x_d C_O_readEntry 113 rfl) rfl ?_
                refine x_iconst (x_d C_O_readEntry 114 rfl) ⟨by omega, by omega⟩ ?_
                refine x_iadd (x_d C_O_readEntry 115 rfl) ⟨by omega, by omega⟩ ?_
                refine x_iastore (h1 := hF (x_up q 362 x.2.2.2.2) (x_up r 359 (some 32)) (x_up (x_up (x_up (x_up A 13 (x_up x.1 (k).toNat (t + 1))) 14 x.2.1) 34 x.2.2.1) 35 x.2.2.2.1) ++ dy) (x_d C_O_readEntry 116 rfl) rfl (by omega) (by omega) rfl ?_
                refine x_aload_n (x_d C_O_readEntry 117 rfl) rfl ?_
                refine x_aload_n (x_d C_O_readEntry 118 rfl) rfl ?_
                refine x_getfield (v := xI (x.2.2.2.2)) (x_d C_O_readEntry 119 rfl) f_O_106 rfl rfl ?_
                refine x_iload_n (x_d C_O_readEntry 120 rfl) rfl ?_
                refine x_mmax (st := [xC 11]) (x_d C_O_readEntry 121 rfl) kM_O_149 mmax_w (Nat.le_of_ble_eq_true rfl) (by omega) ?_
                refine x_putfield (h1 := hF (x_up q 362 (max x.2.2.2.2 k)) (x_up r 359 (some 32)) (x_up (x_up (x_up (x_up A 13 (x_up x.1 (k).toNat (t + 1))) 14 x.2.1) 34 x.2.2.1) 35 x.2.2.2.1) ++ dy) (x_d C_O_readEntry 122 rfl) p_O_106 rfl rfl rfl trivial rfl ?_
                refine x_iconst (x_d C_O_readEntry 123 rfl) ⟨by omega, by omega⟩ ?_
                refine x_ireturn (x_d C_O_readEntry 124 rfl) ?_
                refine Or.inl ⟨rfl, e_st (A 2) (q 35) (q 34) t (q 1029) i k x, ?_, ?_⟩
                · unfold s_entry
                  rw [if_neg]
                  rintro (z | z)
                  · have hb := (e_bad_f (b := A 2) (n := q 35) (i := i)).mpr ⟨by omega, by omega, by omega, by omega⟩
                    rw [hb] at z
                    cases z
                  · omega
                · unfold e_st
                  rw [if_neg (by omega)]
                  try rfl
              · refine x_iload_n (x_d C_O_readEntry 79 rfl) rfl ?_
                refine x_if_eq (tgt := 162) (x_d C_O_readEntry 80 rfl) rfl (fun c23 => ?_) (fun c23 => ?_)
                · refine x_aload_n (x_d C_O_readEntry 86 rfl) rfl ?_
                  refine x_getfield (v := xC 14) (x_d C_O_readEntry 87 rfl) f_O_18 rfl rfl ?_
                  refine x_iload_n (x_d C_O_readEntry 88 rfl) rfl ?_
                  refine x_lload (x_d C_O_readEntry 89 rfl) rfl ?_
                  refine x_aload_n (x_d C_O_readEntry 90 rfl) rfl ?_
                  refine x_getfield (v := xC 1) (x_d C_O_readEntry 91 rfl) f_O_24 rfl rfl ?_
                  refine x_invokevirtual (st := [xJ (s_dgs (A 2) (q 35) i 10), xI (k), xC 14]) (av := []) (x_d C_O_readEntry 92 rfl) k_O_103 m_T_tapeSize v_T_tapeSize cl_T rfl rfl (Nat.le_of_ble_eq_true rfl) (by omega) rfl (c_T_tapeSize Z (d - 1) (x_up q 362 x.2.2.2.2) (x_up r 359 (some 32)) (x_up (x_up (x_up (x_up A 13 x.1) 14 x.2.1) 34 x.2.2.1) 35 x.2.2.2.1) dy hT) ?_
                  rintro v_ _ ⟨hv_, rfl⟩
                  obtain rfl : v_ = some (xI (q 35 - q 34)) := hv_
                  refine x_i2l (x_d C_O_readEntry 93 rfl) ?_
                  refine x_mminL (st := [xI (k), xC 14]) (x_d C_O_readEntry 94 rfl) kM_O_136 mminL_w (Nat.le_of_ble_eq_true rfl) (by omega) ?_
                  refine x_l2i (x_d C_O_readEntry 95 rfl) ⟨by omega, by omega⟩ ?_
                  refine x_iastore (h1 := hF (x_up q 362 x.2.2.2.2) (x_up r 359 (some 32)) (x_up (x_up (x_up (x_up A 13 x.1) 14 (x_up x.2.1 (k).toNat (min (s_dgs (A 2) (q 35) i 10) (q 35 - q 34)))) 34 x.2.2.1) 35 x.2.2.2.1) ++ dy) (x_d C_O_readEntry 96 rfl) rfl (by omega) (by omega) rfl ?_
                  refine x_aload_n (x_d C_O_readEntry 97 rfl) rfl ?_
                  refine x_getfield (v := xC 32) (x_d C_O_readEntry 98 rfl) f_O_36 rfl rfl ?_
                  refine x_getfield (v := xC 34) (x_d C_O_readEntry 99 rfl) f_O_142 rfl rfl ?_
                  refine x_iload_n (x_d C_O_readEntry 100 rfl) rfl ?_
                  refine x_lload (x_d C_O_readEntry 101 rfl) rfl ?_
                  refine x_l2i (x_d C_O_readEntry 102 rfl) ⟨by omega, by omega⟩ ?_
                  refine x_iastore (h1 := hF (x_up q 362 x.2.2.2.2) (x_up r 359 (some 32)) (x_up (x_up (x_up (x_up A 13 x.1) 14 (x_up x.2.1 (k).toNat (min (s_dgs (A 2) (q 35) i 10) (q 35 - q 34)))) 34 (x_up x.2.2.1 (k).toNat (s_dgs (A 2) (q 35) (i + 11) 5))) 35 x.2.2.2.1) ++ dy) (x_d C_O_readEntry 103 rfl) rfl (by omega) (by omega) rfl ?_
                  refine x_aload_n (x_d C_O_readEntry 104 rfl) rfl ?_
                  refine x_getfield (v := xC 32) (x_d C_O_readEntry 105 rfl) f_O_36 rfl rfl ?_
                  refine x_getfield (v := xC 35) (x_d C_O_readEntry 106 rfl) f_O_145 rfl rfl ?_
                  refine x_iload_n (x_d C_O_readEntry 107 rfl) rfl ?_
                  refine x_iload (x_d C_O_readEntry 108 rfl) rfl ?_
                  refine x_zastore (h1 := hF (x_up q 362 x.2.2.2.2) (x_up r 359 (some 32)) (x_up (x_up (x_up (x_up A 13 x.1) 14 (x_up x.2.1 (k).toNat (min (s_dgs (A 2) (q 35) i 10) (q 35 - q 34)))) 34 (x_up x.2.2.1 (k).toNat (s_dgs (A 2) (q 35) (i + 11) 5))) 35 (x_up x.2.2.2.1 (k).toNat 0)) ++ dy) (x_d C_O_readEntry 109 rfl) rfl (by omega) (by omega) (by omega) rfl ?_
                  refine x_aload_n (x_d C_O_readEntry 110 rfl) rfl ?_
                  refine x_getfield (v := xC 13) (x_d C_O_readEntry 111 rfl) f_O_15 rfl rfl ?_
                  refine x_iload_n (x_d C_O_readEntry 112 rfl) rfl ?_
                  refine x_iload_n (x_d C_O_readEntry 113 rfl) rfl ?_
                  refine x_iconst (x_d C_O_readEntry 114 rfl) ⟨by omega, by omega⟩ ?_
                  refine x_iadd (x_d C_O_readEntry 115 rfl) ⟨by omega, by omega⟩ ?_
                  refine x_iastore (h1 := hF (x_up q 362 x.2.2.2.2) (x_up r 359 (some 32)) (x_up (x_up (x_up (x_up A 13 (x_up x.1 (k).toNat (t + 1))) 14 (x_up x.2.1 (k).toNat (min (s_dgs (A 2) (q 35) i 10) (q 35 - q 34)))) 34 (x_up x.2.2.1 (k).toNat (s_dgs (A 2) (q 35) (i + 11) 5))) 35 (x_up x.2.2.2.1 (k).toNat 0)) ++ dy) (x_d C_O_readEntry 116 rfl) rfl (by omega) (by omega) rfl ?_
                  refine x_aload_n (x_d C_O_readEntry 117 rfl) rfl ?_
                  refine x_aload_n (x_d C_O_readEntry 118 rfl) rfl ?_
                  refine x_getfield (v := xI (x.2.2.2.2)) (x_d C_O_readEntry 119 rfl) f_O_106 rfl rfl ?_
                  refine x_iload_n (x_d C_O_readEntry 120 rfl) rfl ?_
                  refine x_mmax (st := [xC 11]) (x_d C_O_readEntry 121 rfl) kM_O_149 mmax_w (Nat.le_of_ble_eq_true rfl) (by omega) ?_
                  refine x_putfield (h1 := hF (x_up q 362 (max x.2.2.2.2 k)) (x_up r 359 (some 32)) (x_up (x_up (x_up (x_up A 13 (x_up x.1 (k).toNat (t + 1))) 14 (x_up x.2.1 (k).toNat (min (s_dgs (A 2) (q 35) i 10) (q 35 - q 34)))) 34 (x_up x.2.2.1 (k).toNat (s_dgs (A 2) (q 35) (i + 11) 5))) 35 (x_up x.2.2.2.1 (k).toNat 0)) ++ dy) (x_d C_O_readEntry 122 rfl) p_O_106 rfl rfl rfl trivial rfl ?_
                  refine x_iconst (x_d C_O_readEntry 123 rfl) ⟨by omega, by omega⟩ ?_
                  refine x_ireturn (x_d C_O_readEntry 124 rfl) ?_
                  refine Or.inl ⟨rfl, e_st (A 2) (q 35) (q 34) t (q 1029) i k x, ?_, ?_⟩
                  · unfold s_entry
                    rw [if_neg]
                    rintro (z | z)
                    · have hb := (e_bad_f (b := A 2) (n := q 35) (i := i)).mpr ⟨by omega, by omega, by omega, by omega⟩
                      rw [hb] at z
                      cases z
                    · omega
                  · unfold e_st
                    rw [if_pos (by omega), if_neg (by omega)]
                    try rfl
                · refine x_iload_n (x_d C_O_readEntry 81 rfl) rfl ?_
                  refine x_aload_n (x_d C_O_readEntry 82 rfl) rfl ?_
                  refine x_getfield (v := xC 32) (x_d C_O_readEntry 83 rfl) f_O_36 rfl rfl ?_
                  refine x_getfield (v := xI (q 1029)) (x_d C_O_readEntry 84 rfl) f_O_133 rfl rfl ?_
                  refine x_icmp_ge (tgt := 205) (x_d C_O_readEntry 85 rfl) rfl (fun c24 => ?_) (fun c24 => ?_)
                  · refine x_aload_n (x_d C_O_readEntry 110 rfl) rfl ?_
                    refine x_getfield (v := xC 13) (x_d C_O_readEntry 111 rfl) f_O_15 rfl rfl ?_
                    refine x_iload_n (x_d C_O_readEntry 112 rfl) rfl ?_
                    refine x_iload_n (x_d C_O_readEntry 113 rfl) rfl ?_
                    refine x_iconst (x_d C_O_readEntry 114 rfl) ⟨by omega, by omega⟩ ?_
                    refine x_iadd (x_d C_O_readEntry 115 rfl) ⟨by omega, by omega⟩ ?_
                    refine x_iastore (h1 := hF (x_up q 362 x.2.2.2.2) (x_up r 359 (some 32)) (x_up (x_up (x_up (x_up A 13 (x_up x.1 (k).toNat (t + 1))) 14 x.2.1) 34 x.2.2.1) 35 x.2.2.2.1) ++ dy) (x_d C_O_readEntry 116 rfl) rfl (by omega) (by omega) rfl ?_
                    refine x_aload_n (x_d C_O_readEntry 117 rfl) rfl ?_
                    refine x_aload_n (x_d C_O_readEntry 118 rfl) rfl ?_
                    refine x_getfield (v := xI (x.2.2.2.2)) (x_d C_O_readEntry 119 rfl) f_O_106 rfl rfl ?_
                    refine x_iload_n (x_d C_O_readEntry 120 rfl) rfl ?_
                    refine x_mmax (st := [xC 11]) (x_d C_O_readEntry 121 rfl) kM_O_149 mmax_w (Nat.le_of_ble_eq_true rfl) (by omega) ?_
                    refine x_putfield (h1 := hF (x_up q 362 (max x.2.2.2.2 k)) (x_up r 359 (some 32)) (x_up (x_up (x_up (x_up A 13 (x_up x.1 (k).toNat (t + 1))) 14 x.2.1) 34 x.2.2.1) 35 x.2.2.2.1) ++ dy) (x_d C_O_readEntry 122 rfl) p_O_106 rfl rfl rfl trivial rfl ?_
                    refine x_iconst (x_d C_O_readEntry 123 rfl) ⟨by omega, by omega⟩ ?_
                    refine x_ireturn (x_d C_O_readEntry 124 rfl) ?_
                    refine Or.inl ⟨rfl, e_st (A 2) (q 35) (q 34) t (q 1029) i k x, ?_, ?_⟩
                    · unfold s_entry
                      rw [if_neg]
                      rintro (z | z)
                      · have hb := (e_bad_f (b := A 2) (n := q 35) (i := i)).mpr ⟨by omega, by omega, by omega, by omega⟩
                        rw [hb] at z
                        cases z
                      · omega
                    · unfold e_st
                      rw [if_neg (by omega)]
                      try rfl
                  · refine x_aload_n (x_d C_O_readEntry 86 rfl) rfl ?_
                    refine x_getfield (v := xC 14) (x_d C_O_readEntry 87 rfl) f_O_18 rfl rfl ?_
                    refine x_iload_n (x_d C_O_readEntry 88 rfl) rfl ?_
                    refine x_lload (x_d C_O_readEntry 89 rfl) rfl ?_
                    refine x_aload_n (x_d C_O_readEntry 90 rfl) rfl ?_
                    refine x_getfield (v := xC 1) (x_d C_O_readEntry 91 rfl) f_O_24 rfl rfl ?_
                    refine x_invokevirtual (st := [xJ (s_dgs (A 2) (q 35) i 10), xI (k), xC 14]) (av := []) (x_d C_O_readEntry 92 rfl) k_O_103 m_T_tapeSize v_T_tapeSize cl_T rfl rfl (Nat.le_of_ble_eq_true rfl) (by omega) rfl (c_T_tapeSize Z (d - 1) (x_up q 362 x.2.2.2.2) (x_up r 359 (some 32)) (x_up (x_up (x_up (x_up A 13 x.1) 14 x.2.1) 34 x.2.2.1) 35 x.2.2.2.1) dy hT) ?_
                    rintro v_ _ ⟨hv_, rfl⟩
                    obtain rfl : v_ = some (xI (q 35 - q 34)) := hv_
                    refine x_i2l (x_d C_O_readEntry 93 rfl) ?_
                    refine x_mminL (st := [xI (k), xC 14]) (x_d C_O_readEntry 94 rfl) kM_O_136 mminL_w (Nat.le_of_ble_eq_true rfl) (by omega) ?_
                    refine x_l2i (x_d C_O_readEntry 95 rfl) ⟨by omega, by omega⟩ ?_
                    refine x_iastore (h1 := hF (x_up q 362 x.2.2.2.2) (x_up r 359 (some 32)) (x_up (x_up (x_up (x_up A 13 x.1) 14 (x_up x.2.1 (k).toNat (min (s_dgs (A 2) (q 35) i 10) (q 35 - q 34)))) 34 x.2.2.1) 35 x.2.2.2.1) ++ dy) (x_d C_O_readEntry 96 rfl) rfl (by omega) (by omega) rfl ?_
                    refine x_aload_n (x_d C_O_readEntry 97 rfl) rfl ?_
                    refine x_getfield (v := xC 32) (x_d C_O_readEntry 98 rfl) f_O_36 rfl rfl ?_
                    refine x_getfield (v := xC 34) (x_d C_O_readEntry 99 rfl) f_O_142 rfl rfl ?_
                    refine x_iload_n (x_d C_O_readEntry 100 rfl) rfl ?_
                    refine x_lload (x_d C_O_readEntry 101 rfl) rfl ?_
                    refine x_l2i (x_d C_O_readEntry 102 rfl) ⟨by omega, by omega⟩ ?_
                    refine x_iastore (h1 := hF (x_up q 362 x.2.2.2.2) (x_up r 359 (some 32)) (x_up (x_up (x_up (x_up A 13 x.1) 14 (x_up x.2.1 (k).toNat (min (s_dgs (A 2) (q 35) i 10) (q 35 - q 34)))) 34 (x_up x.2.2.1 (k).toNat (s_dgs (A 2) (q 35) (i + 11) 5))) 35 x.2.2.2.1) ++ dy) (x_d C_O_readEntry 103 rfl) rfl (by omega) (by omega) rfl ?_
                    refine x_aload_n (x_d C_O_readEntry 104 rfl) rfl ?_
                    refine x_getfield (v := xC 32) (x_d C_O_readEntry 105 rfl) f_O_36 rfl rfl ?_
                    refine x_getfield (v := xC 35) (x_d C_O_readEntry 106 rfl) f_O_145 rfl rfl ?_
                    refine x_iload_n (x_d C_O_readEntry 107 rfl) rfl ?_
                    refine x_iload (x_d C_O_readEntry 108 rfl) rfl ?_
                    refine x_zastore (h1 := hF (x_up q 362 x.2.2.2.2) (x_up r 359 (some 32)) (x_up (x_up (x_up (x_up A 13 x.1) 14 (x_up x.2.1 (k).toNat (min (s_dgs (A 2) (q 35) i 10) (q 35 - q 34)))) 34 (x_up x.2.2.1 (k).toNat (s_dgs (A 2) (q 35) (i + 11) 5))) 35 (x_up x.2.2.2.1 (k).toNat 0)) ++ dy) (x_d C_O_readEntry 109 rfl) rfl (by omega) (by omega) (by omega) rfl ?_
                    refine x_aload_n (x_d C_O_readEntry 110 rfl) rfl ?_
                    refine x_getfield (v := xC 13) (x_d C_O_readEntry 111 rfl) f_O_15 rfl rfl ?_
                    refine x_iload_n (x_d C_O_readEntry 112 rfl) rfl ?_
                    refine x_iload_n (x_d C_O_readEntry 113 rfl) rfl ?_
                    refine x_iconst (x_d C_O_readEntry 114 rfl) ⟨by omega, by omega⟩ ?_
                    refine x_iadd (x_d C_O_readEntry 115 rfl) ⟨by omega, by omega⟩ ?_
                    refine x_iastore (h1 := hF (x_up q 362 x.2.2.2.2) (x_up r 359 (some 32)) (x_up (x_up (x_up (x_up A 13 (x_up x.1 (k).toNat (t + 1))) 14 (x_up x.2.1 (k).toNat (min (s_dgs (A 2) (q 35) i 10) (q 35 - q 34)))) 34 (x_up x.2.2.1 (k).toNat (s_dgs (A 2) (q 35) (i + 11) 5))) 35 (x_up x.2.2.2.1 (k).toNat 0)) ++ dy) (x_d C_O_readEntry 116 rfl) rfl (by omega) (by omega) rfl ?_
                    refine x_aload_n (x_d C_O_readEntry 117 rfl) rfl ?_
                    refine x_aload_n (x_d C_O_readEntry 118 rfl) rfl ?_
                    refine x_getfield (v := xI (x.2.2.2.2)) (x_d C_O_readEntry 119 rfl) f_O_106 rfl rfl ?_
                    refine x_iload_n (x_d C_O_readEntry 120 rfl) rfl ?_
                    refine x_mmax (st := [xC 11]) (x_d C_O_readEntry 121 rfl) kM_O_149 mmax_w (Nat.le_of_ble_eq_true rfl) (by omega) ?_
                    refine x_putfield (h1 := hF (x_up q 362 (max x.2.2.2.2 k)) (x_up r 359 (some 32)) (x_up (x_up (x_up (x_up A 13 (x_up x.1 (k).toNat (t + 1))) 14 (x_up x.2.1 (k).toNat (min (s_dgs (A 2) (q 35) i 10) (q 35 - q 34)))) 34 (x_up x.2.2.1 (k).toNat (s_dgs (A 2) (q 35) (i + 11) 5))) 35 (x_up x.2.2.2.1 (k).toNat 0)) ++ dy) (x_d C_O_readEntry 122 rfl) p_O_106 rfl rfl rfl trivial rfl ?_
                    refine x_iconst (x_d C_O_readEntry 123 rfl) ⟨by omega, by omega⟩ ?_
                    refine x_ireturn (x_d C_O_readEntry 124 rfl) ?_
                    refine Or.inl ⟨rfl, e_st (A 2) (q 35) (q 34) t (q 1029) i k x, ?_, ?_⟩
                    · unfold s_entry
                      rw [if_neg]
                      rintro (z | z)
                      · have hb := (e_bad_f (b := A 2) (n := q 35) (i := i)).mpr ⟨by omega, by omega, by omega, by omega⟩
                        rw [hb] at z
                        cases z
                      · omega
                    · unfold e_st
                      rw [if_pos (by omega), if_neg (by omega)]
                      try rfl
            · refine x_iconst (x_d C_O_readEntry 72 rfl) ⟨by omega, by omega⟩ ?_
              refine x_ireturn (x_d C_O_readEntry 73 rfl) ?_
              refine Or.inr ⟨rfl, ?_, rfl⟩
              unfold s_entry
              first | rw [if_pos (Or.inr (by omega))] | rw [if_pos (Or.inl (e_bad_t (fun z => by unfold e_ok at z; omega)))]
  · refine x_iconst (x_d C_O_readEntry 22 rfl) ⟨by omega, by omega⟩ ?_
    refine x_goto (tgt := 47) (x_d C_O_readEntry 23 rfl) rfl ?_
    refine x_istore (l1 := [(8, xI (1)), (6, xJ (s_dgs (A 2) (q 35) (i + 11) 5)), (4, xJ (s_dgs (A 2) (q 35) i 10)), (0, xC 11), (1, xI (i)), (2, xI (k)), (3, xI (t))]) (x_d C_O_readEntry 25 rfl) (by decide) rfl ?_
    refine x_aload_n (x_d C_O_readEntry 26 rfl) rfl ?_
    refine x_getfield (v := xC 1) (x_d C_O_readEntry 27 rfl) f_O_24 rfl rfl ?_
    refine x_iload_n (x_d C_O_readEntry 28 rfl) rfl ?_
    refine x_bipush (x_d C_O_readEntry 29 rfl) (by omega) ?_
    refine x_iadd (x_d C_O_readEntry 30 rfl) ⟨by omega, by omega⟩ ?_
    refine x_ldcS (i := 7) (x_d C_O_readEntry 31 rfl) rfl ?_
    refine x_invokevirtual (st := []) (av := [xI (i + 16), xS (15)]) (x_d C_O_readEntry 32 rfl) k_O_57 m_T_afterText v_T_afterText cl_T rfl rfl (Nat.le_of_ble_eq_true rfl) (by omega) rfl (c_T_afterText Z (d - 1) (x_up q 362 x.2.2.2.2) (x_up r 359 (some 32)) (x_up (x_up (x_up (x_up A 13 x.1) 14 x.2.1) 34 x.2.2.1) 35 x.2.2.2.1) dy (by omega) (i := 7) rfl (i + 16) hT) ?_
    rintro v_ _ ⟨hv_, rfl⟩
    obtain rfl : v_ = some (xI (s_txt (A 2) (q 35) (i + 16) [32, 102, 32, 10])) := hv_
    refine x_if_lt (tgt := 69) (x_d C_O_readEntry 33 rfl) rfl (fun c25 => ?_) (fun c25 => ?_)
    · refine x_iconst (x_d C_O_readEntry 36 rfl) ⟨by omega, by omega⟩ ?_
      refine x_istore (l1 := [(9, xI (0)), (8, xI (1)), (6, xJ (s_dgs (A 2) (q 35) (i + 11) 5)), (4, xJ (s_dgs (A 2) (q 35) i 10)), (0, xC 11), (1, xI (i)), (2, xI (k)), (3, xI (t))]) (x_d C_O_readEntry 37 rfl) (by decide) rfl ?_
      refine x_lload (x_d C_O_readEntry 38 rfl) rfl ?_
      refine x_lconst0 (x_d C_O_readEntry 39 rfl) ?_
      refine x_lcmp (x_d C_O_readEntry 40 rfl) ?_
      refine x_if_lt (tgt := 116) (x_d C_O_readEntry 41 rfl) rfl (fun c26 => ?_) (fun c26 => ?_)
      · refine x_iconst (x_d C_O_readEntry 60 rfl) ⟨by omega, by omega⟩ ?_
        refine x_istore (l1 := [(10, xI (0)), (9, xI (0)), (8, xI (1)), (6, xJ (s_dgs (A 2) (q 35) (i + 11) 5)), (4, xJ (s_dgs (A 2) (q 35) i 10)), (0, xC 11), (1, xI (i)), (2, xI (k)), (3, xI (t))]) (x_d C_O_readEntry 61 rfl) (by decide) rfl ?_
        refine x_iload (x_d C_O_readEntry 62 rfl) rfl ?_
        refine x_if_eq (tgt := 136) (x_d C_O_readEntry 63 rfl) rfl (fun _ => ?_) (fun q => absurd q (by omega))
        refine x_iconst (x_d C_O_readEntry 72 rfl) ⟨by omega, by omega⟩ ?_
        refine x_ireturn (x_d C_O_readEntry 73 rfl) ?_
        refine Or.inr ⟨rfl, ?_, rfl⟩
        unfold s_entry
        first | rw [if_pos (Or.inr (by omega))] | rw [if_pos (Or.inl (e_bad_t (fun z => by unfold e_ok at z; omega)))]
      · refine x_aload_n (x_d C_O_readEntry 42 rfl) rfl ?_
        refine x_getfield (v := xC 1) (x_d C_O_readEntry 43 rfl) f_O_24 rfl rfl ?_
        refine x_iload_n (x_d C_O_readEntry 44 rfl) rfl ?_
        refine x_bipush (x_d C_O_readEntry 45 rfl) (by omega) ?_
        refine x_iadd (x_d C_O_readEntry 46 rfl) ⟨by omega, by omega⟩ ?_
        refine x_invokevirtual (st := []) (av := [xI (i + 10)]) (x_d C_O_readEntry 47 rfl) k_O_130 m_T_byteAt v_T_byteAt cl_T rfl rfl (Nat.le_of_ble_eq_true rfl) (by omega) rfl (c_T_byteAt Z (d - 1) (x_up q 362 x.2.2.2.2) (x_up r 359 (some 32)) (x_up (x_up (x_up (x_up A 13 x.1) 14 x.2.1) 34 x.2.2.1) 35 x.2.2.2.1) dy (i + 10) hT) ?_
        rintro v_ _ ⟨hv_, rfl⟩
        obtain rfl : v_ = some (xI (s_byte (A 2) (q 35) (i + 10))) := hv_
        refine x_bipush (x_d C_O_readEntry 48 rfl) (by omega) ?_
        refine x_icmp_ne (tgt := 116) (x_d C_O_readEntry 49 rfl) rfl (fun c28 => ?_) (fun c28 => ?_)
        · refine x_iconst (x_d C_O_readEntry 60 rfl) ⟨by omega, by omega⟩ ?_
          refine x_istore (l1 := [(10, xI (0)), (9, xI (0)), (8, xI (1)), (6, xJ (s_dgs (A 2) (q 35) (i + 11) 5)), (4, xJ (s_dgs (A 2) (q 35) i 10)), (0, xC 11), (1, xI (i)), (2, xI (k)), (3, xI (t))]) (x_d C_O_readEntry 61 rfl) (by decide) rfl ?_
          refine x_iload (x_d C_O_readEntry 62 rfl) rfl ?_
          refine x_if_eq (tgt := 136) (x_d C_O_readEntry 63 rfl) rfl (fun _ => ?_) (fun q => absurd q (by omega))
          refine x_iconst (x_d C_O_readEntry 72 rfl) ⟨by omega, by omega⟩ ?_
          refine x_ireturn (x_d C_O_readEntry 73 rfl) ?_
          refine Or.inr ⟨rfl, ?_, rfl⟩
          unfold s_entry
          first | rw [if_pos (Or.inr (by omega))] | rw [if_pos (Or.inl (e_bad_t (fun z => by unfold e_ok at z; omega)))]
        · refine x_lload (x_d C_O_readEntry 50 rfl) rfl ?_
          refine x_lconst0 (x_d C_O_readEntry 51 rfl) ?_
          refine x_lcmp (x_d C_O_readEntry 52 rfl) ?_
          refine x_if_lt (tgt := 116) (x_d C_O_readEntry 53 rfl) rfl (fun c30 => ?_) (fun c30 => ?_)
          · refine x_iconst (x_d C_O_readEntry 60 rfl) ⟨by omega, by omega⟩ ?_
            refine x_istore (l1 := [(10, xI (0)), (9, xI (0)), (8, xI (1)), (6, xJ (s_dgs (A 2) (q 35) (i + 11) 5)), (4, xJ (s_dgs (A 2) (q 35) i 10)), (0, xC 11), (1, xI (i)), (2, xI (k)), (3, xI (t))]) (x_d C_O_readEntry 61 rfl) (by decide) rfl ?_
            refine x_iload (x_d C_O_readEntry 62 rfl) rfl ?_
            refine x_if_eq (tgt := 136) (x_d C_O_readEntry 63 rfl) rfl (fun _ => ?_) (fun q => absurd q (by omega))
            refine x_iconst (x_d C_O_readEntry 72 rfl) ⟨by omega, by omega⟩ ?_
            refine x_ireturn (x_d C_O_readEntry 73 rfl) ?_
            refine Or.inr ⟨rfl, ?_, rfl⟩
            unfold s_entry
            first | rw [if_pos (Or.inr (by omega))] | rw [if_pos (Or.inl (e_bad_t (fun z => by unfold e_ok at z; omega)))]
          · refine x_iload (x_d C_O_readEntry 54 rfl) rfl ?_
            refine x_if_ne (tgt := 112) (x_d C_O_readEntry 55 rfl) rfl (fun _ => ?_) (fun q => absurd q (by omega))
            refine x_iconst (x_d C_O_readEntry 58 rfl) ⟨by omega, by omega⟩ ?_
            refine x_goto (tgt := 117) (x_d C_O_readEntry 59 rfl) rfl ?_
            refine x_istore (l1 := [(10, xI (1)), (9, xI (0)), (8, xI (1)), (6, xJ (s_dgs (A 2) (q 35) (i + 11) 5)), (4, xJ (s_dgs (A 2) (q 35) i 10)), (0, xC 11), (1, xI (i)), (2, xI (k)), (3, xI (t))]) (x_d C_O_readEntry 61 rfl) (by decide) rfl ?_
            refine x_iload (x_d C_O_readEntry 62 rfl) rfl ?_
            refine x_if_eq (tgt := 136) (x_d C_O_readEntry 63 rfl) rfl (fun q => absurd q (by omega)) (fun _ => ?_)
            refine x_aload_n (x_d C_O_readEntry 64 rfl) rfl ?_
            refine x_getfield (v := xC 13) (x_d C_O_readEntry 65 rfl) f_O_15 rfl rfl ?_
            refine x_iload_n (x_d C_O_readEntry 66 rfl) rfl ?_
            refine x_iaload (f := x.1) (x_d C_O_readEntry 67 rfl) rfl (by omega) (by omega) ?_
            refine x_iload_n (x_d C_O_readEntry 68 rfl) rfl ?_
            refine x_iconst (x_d C_O_readEntry 69 rfl) ⟨by omega, by omega⟩ ?_
            refine x_iadd (x_d C_O_readEntry 70 rfl) ⟨by omega, by omega⟩ ?_
            refine x_icmp_ne (tgt := 138) (x_d C_O_readEntry 71 rfl) rfl (fun c34 => ?_) (fun c34 => ?_)
            · refine x_aload_n (x_d C_O_readEntry 74 rfl) rfl ?_
              refine x_getfield (v := xC 13) (x_d C_O_readEntry 75 rfl) f_O_15 rfl rfl ?_
              refine x_iload_n (x_d C_O_readEntry 76 rfl) rfl ?_
              refine x_iaload (f := x.1) (x_d C_O_readEntry 77 rfl) rfl (by omega) (by omega) ?_
              refine x_if_ne (tgt := 205) (x_d C_O_readEntry 78 rfl) rfl (fun c35 => ?_) (fun c35 => ?_)
              · refine x_aload_n (x_d C_O_readEntry 110 rfl) rfl ?_
                refine x_getfield (v := xC 13) (x_d C_O_readEntry 111 rfl) f_O_15 rfl rfl ?_
                refine x_iload_n (x_d C_O_readEntry 112 rfl) rfl ?_
                refine x_iload_n (x_d C_O_readEntry 113 rfl) rfl ?_
                refine x_iconst (x_d C_O_readEntry 114 rfl) ⟨by omega, by omega⟩ ?_
                refine x_iadd (x_d C_O_readEntry 115 rfl) ⟨by omega, by omega⟩ ?_
                refine x_iastore (h1 := hF (x_up q 362 x.2.2.2.2) (x_up r 359 (some 32)) (x_up (x_up (x_up (x_up A 13 (x_up x.1 (k).toNat (t + 1))) 14 x.2.1) 34 x.2.2.1) 35 x.2.2.2.1) ++ dy) (x_d C_O_readEntry 116 rfl) rfl (by omega) (by omega) rfl ?_
                refine x_aload_n (x_d C_O_readEntry 117 rfl) rfl ?_
                refine x_aload_n (x_d C_O_readEntry 118 rfl) rfl ?_
                refine x_getfield (v := xI (x.2.2.2.2)) (x_d C_O_readEntry 119 rfl) f_O_106 rfl rfl ?_
                refine x_iload_n (x_d C_O_readEntry 120 rfl) rfl ?_
                refine x_mmax (st := [xC 11]) (x_d C_O_readEntry 121 rfl) kM_O_149 mmax_w (Nat.le_of_ble_eq_true rfl) (by omega) ?_
                refine x_putfield (h1 := hF (x_up q 362 (max x.2.2.2.2 k)) (x_up r 359 (some 32)) (x_up (x_up (x_up (x_up A 13 (x_up x.1 (k).toNat (t + 1))) 14 x.2.1) 34 x.2.2.1) 35 x.2.2.2.1) ++ dy) (x_d C_O_readEntry 122 rfl) p_O_106 rfl rfl rfl trivial rfl ?_
                refine x_iconst (x_d C_O_readEntry 123 rfl) ⟨by omega, by omega⟩ ?_
                refine x_ireturn (x_d C_O_readEntry 124 rfl) ?_
                refine Or.inl ⟨rfl, e_st (A 2) (q 35) (q 34) t (q 1029) i k x, ?_, ?_⟩
                · unfold s_entry
                  rw [if_neg]
                  rintro (z | z)
                  · have hb := (e_bad_f (b := A 2) (n := q 35) (i := i)).mpr ⟨by omega, by omega, by omega, by omega⟩
                    rw [hb] at z
                    cases z
                  · omega
                · unfold e_st
                  rw [if_neg (by omega)]
                  try rfl
              · refine x_iload_n (x_d C_O_readEntry 79 rfl) rfl ?_
                refine x_if_eq (tgt := 162) (x_d C_O_readEntry 80 rfl) rfl (fun c36 => ?_) (fun c36 => ?_)
                · refine x_aload_n (x_d C_O_readEntry 86 rfl) rfl ?_
                  refine x_getfield (v := xC 14) (x_d C_O_readEntry 87 rfl) f_O_18 rfl rfl ?_
                  refine x_iload_n (x_d C_O_readEntry 88 rfl) rfl ?_
                  refine x_lload (x_d C_O_readEntry 89 rfl) rfl ?_
                  refine x_aload_n (x_d C_O_readEntry 90 rfl) rfl ?_
                  refine x_getfield (v := xC 1) (x_d C_O_readEntry 91 rfl) f_O_24 rfl rfl ?_
                  refine x_invokevirtual (st := [xJ (s_dgs (A 2) (q 35) i 10), xI (k), xC 14]) (av := []) (x_d C_O_readEntry 92 rfl) k_O_103 m_T_tapeSize v_T_tapeSize cl_T rfl rfl (Nat.le_of_ble_eq_true rfl) (by omega) rfl (c_T_tapeSize Z (d - 1) (x_up q 362 x.2.2.2.2) (x_up r 359 (some 32)) (x_up (x_up (x_up (x_up A 13 x.1) 14 x.2.1) 34 x.2.2.1) 35 x.2.2.2.1) dy hT) ?_
                  rintro v_ _ ⟨hv_, rfl⟩
                  obtain rfl : v_ = some (xI (q 35 - q 34)) := hv_
                  refine x_i2l (x_d C_O_readEntry 93 rfl) ?_
                  refine x_mminL (st := [xI (k), xC 14]) (x_d C_O_readEntry 94 rfl) kM_O_136 mminL_w (Nat.le_of_ble_eq_true rfl) (by omega) ?_
                  refine x_l2i (x_d C_O_readEntry 95 rfl) ⟨by omega, by omega⟩ ?_
                  refine x_iastore (h1 := hF (x_up q 362 x.2.2.2.2) (x_up r 359 (some 32)) (x_up (x_up (x_up (x_up A 13 x.1) 14 (x_up x.2.1 (k).toNat (min (s_dgs (A 2) (q 35) i 10) (q 35 - q 34)))) 34 x.2.2.1) 35 x.2.2.2.1) ++ dy) (x_d C_O_readEntry 96 rfl) rfl (by omega) (by omega) rfl ?_
                  refine x_aload_n (x_d C_O_readEntry 97 rfl) rfl ?_
                  refine x_getfield (v := xC 32) (x_d C_O_readEntry 98 rfl) f_O_36 rfl rfl ?_
                  refine x_getfield (v := xC 34) (x_d C_O_readEntry 99 rfl) f_O_142 rfl rfl ?_
                  refine x_iload_n (x_d C_O_readEntry 100 rfl) rfl ?_
                  refine x_lload (x_d C_O_readEntry 101 rfl) rfl ?_
                  refine x_l2i (x_d C_O_readEntry 102 rfl) ⟨by omega, by omega⟩ ?_
                  refine x_iastore (h1 := hF (x_up q 362 x.2.2.2.2) (x_up r 359 (some 32)) (x_up (x_up (x_up (x_up A 13 x.1) 14 (x_up x.2.1 (k).toNat (min (s_dgs (A 2) (q 35) i 10) (q 35 - q 34)))) 34 (x_up x.2.2.1 (k).toNat (s_dgs (A 2) (q 35) (i + 11) 5))) 35 x.2.2.2.1) ++ dy) (x_d C_O_readEntry 103 rfl) rfl (by omega) (by omega) rfl ?_
                  refine x_aload_n (x_d C_O_readEntry 104 rfl) rfl ?_
                  refine x_getfield (v := xC 32) (x_d C_O_readEntry 105 rfl) f_O_36 rfl rfl ?_
                  refine x_getfield (v := xC 35) (x_d C_O_readEntry 106 rfl) f_O_145 rfl rfl ?_
                  refine x_iload_n (x_d C_O_readEntry 107 rfl) rfl ?_
                  refine x_iload (x_d C_O_readEntry 108 rfl) rfl ?_
                  refine x_zastore (h1 := hF (x_up q 362 x.2.2.2.2) (x_up r 359 (some 32)) (x_up (x_up (x_up (x_up A 13 x.1) 14 (x_up x.2.1 (k).toNat (min (s_dgs (A 2) (q 35) i 10) (q 35 - q 34)))) 34 (x_up x.2.2.1 (k).toNat (s_dgs (A 2) (q 35) (i + 11) 5))) 35 (x_up x.2.2.2.1 (k).toNat 1)) ++ dy) (x_d C_O_readEntry 109 rfl) rfl (by omega) (by omega) (by omega) rfl ?_
                  refine x_aload_n (x_d C_O_readEntry 110 rfl) rfl ?_
                  refine x_getfield (v := xC 13) (x_d C_O_readEntry 111 rfl) f_O_15 rfl rfl ?_
                  refine x_iload_n (x_d C_O_readEntry 112 rfl) rfl ?_
                  refine x_iload_n (x_d C_O_readEntry 113 rfl) rfl ?_
                  refine x_iconst (x_d C_O_readEntry 114 rfl) ⟨by omega, by omega⟩ ?_
                  refine x_iadd (x_d C_O_readEntry 115 rfl) ⟨by omega, by omega⟩ ?_
                  refine x_iastore (h1 := hF (x_up q 362 x.2.2.2.2) (x_up r 359 (some 32)) (x_up (x_up (x_up (x_up A 13 (x_up x.1 (k).toNat (t + 1))) 14 (x_up x.2.1 (k).toNat (min (s_dgs (A 2) (q 35) i 10) (q 35 - q 34)))) 34 (x_up x.2.2.1 (k).toNat (s_dgs (A 2) (q 35) (i + 11) 5))) 35 (x_up x.2.2.2.1 (k).toNat 1)) ++ dy) (x_d C_O_readEntry 116 rfl) rfl (by omega) (by omega) rfl ?_
                  refine x_aload_n (x_d C_O_readEntry 117 rfl) rfl ?_
                  refine x_aload_n (x_d C_O_readEntry 118 rfl) rfl ?_
                  refine x_getfield (v := xI (x.2.2.2.2)) (x_d C_O_readEntry 119 rfl) f_O_106 rfl rfl ?_
                  refine x_iload_n (x_d C_O_readEntry 120 rfl) rfl ?_
                  refine x_mmax (st := [xC 11]) (x_d C_O_readEntry 121 rfl) kM_O_149 mmax_w (Nat.le_of_ble_eq_true rfl) (by omega) ?_
                  refine x_putfield (h1 := hF (x_up q 362 (max x.2.2.2.2 k)) (x_up r 359 (some 32)) (x_up (x_up (x_up (x_up A 13 (x_up x.1 (k).toNat (t + 1))) 14 (x_up x.2.1 (k).toNat (min (s_dgs (A 2) (q 35) i 10) (q 35 - q 34)))) 34 (x_up x.2.2.1 (k).toNat (s_dgs (A 2) (q 35) (i + 11) 5))) 35 (x_up x.2.2.2.1 (k).toNat 1)) ++ dy) (x_d C_O_readEntry 122 rfl) p_O_106 rfl rfl rfl trivial rfl ?_
                  refine x_iconst (x_d C_O_readEntry 123 rfl) ⟨by omega, by omega⟩ ?_
                  refine x_ireturn (x_d C_O_readEntry 124 rfl) ?_
                  refine Or.inl ⟨rfl, e_st (A 2) (q 35) (q 34) t (q 1029) i k x, ?_, ?_⟩
                  · unfold s_entry
                    rw [if_neg]
                    rintro (z | z)
                    · have hb := (e_bad_f (b := A 2) (n := q 35) (i := i)).mpr ⟨by omega, by omega, by omega, by omega⟩
                      rw [hb] at z
                      cases z
                    · omega
                  · unfold e_st
                    rw [if_pos (by omega), if_pos (by omega)]
                    try rfl
                · refine x_iload_n (x_d C_O_readEntry 81 rfl) rfl ?_
                  refine x_aload_n (x_d C_O_readEntry 82 rfl) rfl ?_
                  refine x_getfield (v := xC 32) (x_d C_O_readEntry 83 rfl) f_O_36 rfl rfl ?_
                  refine x_getfield (v := xI (q 1029)) (x_d C_O_readEntry 84 rfl) f_O_133 rfl rfl ?_
                  refine x_icmp_ge (tgt := 205) (x_d C_O_readEntry 85 rfl) rfl (fun c37 => ?_) (fun c37 => ?_)
                  · refine x_aload_n (x_d C_O_readEntry 110 rfl) rfl ?_
                    refine x_getfield (v := xC 13) (x_d C_O_readEntry 111 rfl) f_O_15 rfl rfl ?_
                    refine x_iload_n (x_d C_O_readEntry 112 rfl) rfl ?_
                    refine x_iload_n (x_d C_O_readEntry 113 rfl) rfl ?_
                    refine x_iconst (x_d C_O_readEntry 114 rfl) ⟨by omega, by omega⟩ ?_
                    refine x_iadd (x_d C_O_readEntry 115 rfl) ⟨by omega, by omega⟩ ?_
                    refine x_iastore (h1 := hF (x_up q 362 x.2.2.2.2) (x_up r 359 (some 32)) (x_up (x_up (x_up (x_up A 13 (x_up x.1 (k).toNat (t + 1))) 14 x.2.1) 34 x.2.2.1) 35 x.2.2.2.1) ++ dy) (x_d C_O_readEntry 116 rfl) rfl (by omega) (by omega) rfl ?_
                    refine x_aload_n (x_d C_O_readEntry 117 rfl) rfl ?_
                    refine x_aload_n (x_d C_O_readEntry 118 rfl) rfl ?_
                    refine x_getfield (v := xI (x.2.2.2.2)) (x_d C_O_readEntry 119 rfl) f_O_106 rfl rfl ?_
                    refine x_iload_n (x_d C_O_readEntry 120 rfl) rfl ?_
                    refine x_mmax (st := [xC 11]) (x_d C_O_readEntry 121 rfl) kM_O_149 mmax_w (Nat.le_of_ble_eq_true rfl) (by omega) ?_
                    refine x_putfield (h1 := hF (x_up q 362 (max x.2.2.2.2 k)) (x_up r 359 (some 32)) (x_up (x_up (x_up (x_up A 13 (x_up x.1 (k).toNat (t + 1))) 14 x.2.1) 34 x.2.2.1) 35 x.2.2.2.1) ++ dy) (x_d C_O_readEntry 122 rfl) p_O_106 rfl rfl rfl trivial rfl ?_
                    refine x_iconst (x_d C_O_readEntry 123 rfl) ⟨by omega, by omega⟩ ?_
                    refine x_ireturn (x_d C_O_readEntry 124 rfl) ?_
                    refine Or.inl ⟨rfl, e_st (A 2) (q 35) (q 34) t (q 1029) i k x, ?_, ?_⟩
                    · unfold s_entry
                      rw [if_neg]
                      rintro (z | z)
                      · have hb := (e_bad_f (b := A 2) (n := q 35) (i := i)).mpr ⟨by omega, by omega, by omega, by omega⟩
                        rw [hb] at z
                        cases z
                      · omega
                    · unfold e_st
                      rw [if_neg (by omega)]
                      try rfl
                  · refine x_aload_n (x_d C_O_readEntry 86 rfl) rfl ?_
                    refine x_getfield (v := xC 14) (x_d C_O_readEntry 87 rfl) f_O_18 rfl rfl ?_
                    refine x_iload_n (x_d C_O_readEntry 88 rfl) rfl ?_
                    refine x_lload (x_d C_O_readEntry 89 rfl) rfl ?_
                    refine x_aload_n (x_d C_O_readEntry 90 rfl) rfl ?_
                    refine x_getfield (v := xC 1) (x_d C_O_readEntry 91 rfl) f_O_24 rfl rfl ?_
                    refine x_invokevirtual (st := [xJ (s_dgs (A 2) (q 35) i 10), xI (k), xC 14]) (av := []) (x_d C_O_readEntry 92 rfl) k_O_103 m_T_tapeSize v_T_tapeSize cl_T rfl rfl (Nat.le_of_ble_eq_true rfl) (by omega) rfl (c_T_tapeSize Z (d - 1) (x_up q 362 x.2.2.2.2) (x_up r 359 (some 32)) (x_up (x_up (x_up (x_up A 13 x.1) 14 x.2.1) 34 x.2.2.1) 35 x.2.2.2.1) dy hT) ?_
                    rintro v_ _ ⟨hv_, rfl⟩
                    obtain rfl : v_ = some (xI (q 35 - q 34)) := hv_
                    refine x_i2l (x_d C_O_readEntry 93 rfl) ?_
                    refine x_mminL (st := [xI (k), xC 14]) (x_d C_O_readEntry 94 rfl) kM_O_136 mminL_w (Nat.le_of_ble_eq_true rfl) (by omega) ?_
                    refine x_l2i (x_d C_O_readEntry 95 rfl) ⟨by omega, by omega⟩ ?_
                    refine x_iastore (h1 := hF (x_up q 362 x.2.2.2.2) (x_up r 359 (some 32)) (x_up (x_up (x_up (x_up A 13 x.1) 14 (x_up x.2.1 (k).toNat (min (s_dgs (A 2) (q 35) i 10) (q 35 - q 34)))) 34 x.2.2.1) 35 x.2.2.2.1) ++ dy) (x_d C_O_readEntry 96 rfl) rfl (by omega) (by omega) rfl ?_
                    refine x_aload_n (x_d C_O_readEntry 97 rfl) rfl ?_
                    refine x_getfield (v := xC 32) (x_d C_O_readEntry 98 rfl) f_O_36 rfl rfl ?_
                    refine x_getfield (v := xC 34) (x_d C_O_readEntry 99 rfl) f_O_142 rfl rfl ?_
                    refine x_iload_n (x_d C_O_readEntry 100 rfl) rfl ?_
                    refine x_lload (x_d C_O_readEntry 101 rfl) rfl ?_
                    refine x_l2i (x_d C_O_readEntry 102 rfl) ⟨by omega, by omega⟩ ?_
                    refine x_iastore (h1 := hF (x_up q 362 x.2.2.2.2) (x_up r 359 (some 32)) (x_up (x_up (x_up (x_up A 13 x.1) 14 (x_up x.2.1 (k).toNat (min (s_dgs (A 2) (q 35) i 10) (q 35 - q 34)))) 34 (x_up x.2.2.1 (k).toNat (s_dgs (A 2) (q 35) (i + 11) 5))) 35 x.2.2.2.1) ++ dy) (x_d C_O_readEntry 103 rfl) rfl (by omega) (by omega) rfl ?_
                    refine x_aload_n (x_d C_O_readEntry 104 rfl) rfl ?_
                    refine x_getfield (v := xC 32) (x_d C_O_readEntry 105 rfl) f_O_36 rfl rfl ?_
                    refine x_getfield (v := xC 35) (x_d C_O_readEntry 106 rfl) f_O_145 rfl rfl ?_
                    refine x_iload_n (x_d C_O_readEntry 107 rfl) rfl ?_
                    refine x_iload (x_d C_O_readEntry 108 rfl) rfl ?_
                    refine x_zastore (h1 := hF (x_up q 362 x.2.2.2.2) (x_up r 359 (some 32)) (x_up (x_up (x_up (x_up A 13 x.1) 14 (x_up x.2.1 (k).toNat (min (s_dgs (A 2) (q 35) i 10) (q 35 - q 34)))) 34 (x_up x.2.2.1 (k).toNat (s_dgs (A 2) (q 35) (i + 11) 5))) 35 (x_up x.2.2.2.1 (k).toNat 1)) ++ dy) (x_d C_O_readEntry 109 rfl) rfl (by omega) (by omega) (by omega) rfl ?_
                    refine x_aload_n (x_d C_O_readEntry 110 rfl) rfl ?_
                    refine x_getfield (v := xC 13) (x_d C_O_readEntry 111 rfl) f_O_15 rfl rfl ?_
                    refine x_iload_n (x_d C_O_readEntry 112 rfl) rfl ?_
                    refine x_iload_n (x_d C_O_readEntry 113 rfl) rfl ?_
                    refine x_iconst (x_d C_O_readEntry 114 rfl) ⟨by omega, by omega⟩ ?_
                    refine x_iadd (x_d C_O_readEntry 115 rfl) ⟨by omega, by omega⟩ ?_
                    refine x_iastore (h1 := hF (x_up q 362 x.2.2.2.2) (x_up r 359 (some 32)) (x_up (x_up (x_up (x_up A 13 (x_up x.1 (k).toNat (t + 1))) 14 (x_up x.2.1 (k).toNat (min (s_dgs (A 2) (q 35) i 10) (q 35 - q 34)))) 34 (x_up x.2.2.1 (k).toNat (s_dgs (A 2) (q 35) (i + 11) 5))) 35 (x_up x.2.2.2.1 (k).toNat 1)) ++ dy) (x_d C_O_readEntry 116 rfl) rfl (by omega) (by omega) rfl ?_
                    refine x_aload_n (x_d C_O_readEntry 117 rfl) rfl ?_
                    refine x_aload_n (x_d C_O_readEntry 118 rfl) rfl ?_
                    refine x_getfield (v := xI (x.2.2.2.2)) (x_d C_O_readEntry 119 rfl) f_O_106 rfl rfl ?_
                    refine x_iload_n (x_d C_O_readEntry 120 rfl) rfl ?_
                    refine x_mmax (st := [xC 11]) (x_d C_O_readEntry 121 rfl) kM_O_149 mmax_w (Nat.le_of_ble_eq_true rfl) (by omega) ?_
                    refine x_putfield (h1 := hF (x_up q 362 (max x.2.2.2.2 k)) (x_up r 359 (some 32)) (x_up (x_up (x_up (x_up A 13 (x_up x.1 (k).toNat (t + 1))) 14 (x_up x.2.1 (k).toNat (min (s_dgs (A 2) (q 35) i 10) (q 35 - q 34)))) 34 (x_up x.2.2.1 (k).toNat (s_dgs (A 2) (q 35) (i + 11) 5))) 35 (x_up x.2.2.2.1 (k).toNat 1)) ++ dy) (x_d C_O_readEntry 122 rfl) p_O_106 rfl rfl rfl trivial rfl ?_
                    refine x_iconst (x_d C_O_readEntry 123 rfl) ⟨by omega, by omega⟩ ?_
                    refine x_ireturn (x_d C_O_readEntry 124 rfl) ?_
                    refine Or.inl ⟨rfl, e_st (A 2) (q 35) (q 34) t (q 1029) i k x, ?_, ?_⟩
                    · unfold s_entry
                      rw [if_neg]
                      rintro (z | z)
                      · have hb := (e_bad_f (b := A 2) (n := q 35) (i := i)).mpr ⟨by omega, by omega, by omega, by omega⟩
                        rw [hb] at z
                        cases z
                      · omega
                    · unfold e_st
                      rw [if_pos (by omega), if_pos (by omega)]
                      try rfl
            · refine x_iconst (x_d C_O_readEntry 72 rfl) ⟨by omega, by omega⟩ ?_
              refine x_ireturn (x_d C_O_readEntry 73 rfl) ?_
              refine Or.inr ⟨rfl, ?_, rfl⟩
              unfold s_entry
              first | rw [if_pos (Or.inr (by omega))] | rw [if_pos (Or.inl (e_bad_t (fun z => by unfold e_ok at z; omega)))]
    · refine x_iconst (x_d C_O_readEntry 34 rfl) ⟨by omega, by omega⟩ ?_
      refine x_goto (tgt := 70) (x_d C_O_readEntry 35 rfl) rfl ?_
      refine x_istore (l1 := [(9, xI (1)), (8, xI (1)), (6, xJ (s_dgs (A 2) (q 35) (i + 11) 5)), (4, xJ (s_dgs (A 2) (q 35) i 10)), (0, xC 11), (1, xI (i)), (2, xI (k)), (3, xI (t))]) (x_d C_O_readEntry 37 rfl) (by decide) rfl ?_
      refine x_lload (x_d C_O_readEntry 38 rfl) rfl ?_
      refine x_lconst0 (x_d C_O_readEntry 39 rfl) ?_
      refine x_lcmp (x_d C_O_readEntry 40 rfl) ?_
      refine x_if_lt (tgt := 116) (x_d C_O_readEntry 41 rfl) rfl (fun c38 => ?_) (fun c38 => ?_)
      · refine x_iconst (x_d C_O_readEntry 60 rfl) ⟨by omega, by omega⟩ ?_
        refine x_istore (l1 := [(10, xI (0)), (9, xI (1)), (8, xI (1)), (6, xJ (s_dgs (A 2) (q 35) (i + 11) 5)), (4, xJ (s_dgs (A 2) (q 35) i 10)), (0, xC 11), (1, xI (i)), (2, xI (k)), (3, xI (t))]) (x_d C_O_readEntry 61 rfl) (by decide) rfl ?_
        refine x_iload (x_d C_O_readEntry 62 rfl) rfl ?_
        refine x_if_eq (tgt := 136) (x_d C_O_readEntry 63 rfl) rfl (fun _ => ?_) (fun q => absurd q (by omega))
        refine x_iconst (x_d C_O_readEntry 72 rfl) ⟨by omega, by omega⟩ ?_
        refine x_ireturn (x_d C_O_readEntry 73 rfl) ?_
        refine Or.inr ⟨rfl, ?_, rfl⟩
        unfold s_entry
        first | rw [if_pos (Or.inr (by omega))] | rw [if_pos (Or.inl (e_bad_t (fun z => by unfold e_ok at z; omega)))]
      · refine x_aload_n (x_d C_O_readEntry 42 rfl) rfl ?_
        refine x_getfield (v := xC 1) (x_d C_O_readEntry 43 rfl) f_O_24 rfl rfl ?_
        refine x_iload_n (x_d C_O_readEntry 44 rfl) rfl ?_
        refine x_bipush (x_d C_O_readEntry 45 rfl) (by omega) ?_
        refine x_iadd (x_d C_O_readEntry 46 rfl) ⟨by omega, by omega⟩ ?_
        refine x_invokevirtual (st := []) (av := [xI (i + 10)]) (x_d C_O_readEntry 47 rfl) k_O_130 m_T_byteAt v_T_byteAt cl_T rfl rfl (Nat.le_of_ble_eq_true rfl) (by omega) rfl (c_T_byteAt Z (d - 1) (x_up q 362 x.2.2.2.2) (x_up r 359 (some 32)) (x_up (x_up (x_up (x_up A 13 x.1) 14 x.2.1) 34 x.2.2.1) 35 x.2.2.2.1) dy (i + 10) hT) ?_
        rintro v_ _ ⟨hv_, rfl⟩
        obtain rfl : v_ = some (xI (s_byte (A 2) (q 35) (i + 10))) := hv_
        refine x_bipush (x_d C_O_readEntry 48 rfl) (by omega) ?_
        refine x_icmp_ne (tgt := 116) (x_d C_O_readEntry 49 rfl) rfl (fun c40 => ?_) (fun c40 => ?_)
        · refine x_iconst (x_d C_O_readEntry 60 rfl) ⟨by omega, by omega⟩ ?_
          refine x_istore (l1 := [(10, xI (0)), (9, xI (1)), (8, xI (1)), (6, xJ (s_dgs (A 2) (q 35) (i + 11) 5)), (4, xJ (s_dgs (A 2) (q 35) i 10)), (0, xC 11), (1, xI (i)), (2, xI (k)), (3, xI (t))]) (x_d C_O_readEntry 61 rfl) (by decide) rfl ?_
          refine x_iload (x_d C_O_readEntry 62 rfl) rfl ?_
          refine x_if_eq (tgt := 136) (x_d C_O_readEntry 63 rfl) rfl (fun _ => ?_) (fun q => absurd q (by omega))
          refine x_iconst (x_d C_O_readEntry 72 rfl) ⟨by omega, by omega⟩ ?_
          refine x_ireturn (x_d C_O_readEntry 73 rfl) ?_
          refine Or.inr ⟨rfl, ?_, rfl⟩
          unfold s_entry
          first | rw [if_pos (Or.inr (by omega))] | rw [if_pos (Or.inl (e_bad_t (fun z => by unfold e_ok at z; omega)))]
        · refine x_lload (x_d C_O_readEntry 50 rfl) rfl ?_
          refine x_lconst0 (x_d C_O_readEntry 51 rfl) ?_
          refine x_lcmp (x_d C_O_readEntry 52 rfl) ?_
          refine x_if_lt (tgt := 116) (x_d C_O_readEntry 53 rfl) rfl (fun c42 => ?_) (fun c42 => ?_)
          · refine x_iconst (x_d C_O_readEntry 60 rfl) ⟨by omega, by omega⟩ ?_
            refine x_istore (l1 := [(10, xI (0)), (9, xI (1)), (8, xI (1)), (6, xJ (s_dgs (A 2) (q 35) (i + 11) 5)), (4, xJ (s_dgs (A 2) (q 35) i 10)), (0, xC 11), (1, xI (i)), (2, xI (k)), (3, xI (t))]) (x_d C_O_readEntry 61 rfl) (by decide) rfl ?_
            refine x_iload (x_d C_O_readEntry 62 rfl) rfl ?_
            refine x_if_eq (tgt := 136) (x_d C_O_readEntry 63 rfl) rfl (fun _ => ?_) (fun q => absurd q (by omega))
            refine x_iconst (x_d C_O_readEntry 72 rfl) ⟨by omega, by omega⟩ ?_
            refine x_ireturn (x_d C_O_readEntry 73 rfl) ?_
            refine Or.inr ⟨rfl, ?_, rfl⟩
            unfold s_entry
            first | rw [if_pos (Or.inr (by omega))] | rw [if_pos (Or.inl (e_bad_t (fun z => by unfold e_ok at z; omega)))]
          · refine x_iload (x_d C_O_readEntry 54 rfl) rfl ?_
            refine x_if_ne (tgt := 112) (x_d C_O_readEntry 55 rfl) rfl (fun _ => ?_) (fun q => absurd q (by omega))
            refine x_iconst (x_d C_O_readEntry 58 rfl) ⟨by omega, by omega⟩ ?_
            refine x_goto (tgt := 117) (x_d C_O_readEntry 59 rfl) rfl ?_
            refine x_istore (l1 := [(10, xI (1)), (9, xI (1)), (8, xI (1)), (6, xJ (s_dgs (A 2) (q 35) (i + 11) 5)), (4, xJ (s_dgs (A 2) (q 35) i 10)), (0, xC 11), (1, xI (i)), (2, xI (k)), (3, xI (t))]) (x_d C_O_readEntry 61 rfl) (by decide) rfl ?_
            refine x_iload (x_d C_O_readEntry 62 rfl) rfl ?_
            refine x_if_eq (tgt := 136) (x_d C_O_readEntry 63 rfl) rfl (fun q => absurd q (by omega)) (fun _ => ?_)
            refine x_aload_n (x_d C_O_readEntry 64 rfl) rfl ?_
            refine x_getfield (v := xC 13) (x_d C_O_readEntry 65 rfl) f_O_15 rfl rfl ?_
            refine x_iload_n (x_d C_O_readEntry 66 rfl) rfl ?_
            refine x_iaload (f := x.1) (x_d C_O_readEntry 67 rfl) rfl (by omega) (by omega) ?_
            refine x_iload_n (x_d C_O_readEntry 68 rfl) rfl ?_
            refine x_iconst (x_d C_O_readEntry 69 rfl) ⟨by omega, by omega⟩ ?_
            refine x_iadd (x_d C_O_readEntry 70 rfl) ⟨by omega, by omega⟩ ?_
            refine x_icmp_ne (tgt := 138) (x_d C_O_readEntry 71 rfl) rfl (fun c46 => ?_) (fun c46 => ?_)
            · refine x_aload_n (x_d C_O_readEntry 74 rfl) rfl ?_
              refine x_getfield (v := xC 13) (x_d C_O_readEntry 75 rfl) f_O_15 rfl rfl ?_
              refine x_iload_n (x_d C_O_readEntry 76 rfl) rfl ?_
              refine x_iaload (f := x.1) (x_d C_O_readEntry 77 rfl) rfl (by omega) (by omega) ?_
              refine x_if_ne (tgt := 205) (x_d C_O_readEntry 78 rfl) rfl (fun c47 => ?_) (fun c47 => ?_)
              · refine x_aload_n (x_d C_O_readEntry 110 rfl) rfl ?_
                refine x_getfield (v := xC 13) (x_d C_O_readEntry 111 rfl) f_O_15 rfl rfl ?_
                refine x_iload_n (x_d C_O_readEntry 112 rfl) rfl ?_
                refine x_iload_n (x_d C_O_readEntry 113 rfl) rfl ?_
                refine x_iconst (x_d C_O_readEntry 114 rfl) ⟨by omega, by omega⟩ ?_
                refine x_iadd (x_d C_O_readEntry 115 rfl) ⟨by omega, by omega⟩ ?_
                refine x_iastore (h1 := hF (x_up q 362 x.2.2.2.2) (x_up r 359 (some 32)) (x_up (x_up (x_up (x_up A 13 (x_up x.1 (k).toNat (t + 1))) 14 x.2.1) 34 x.2.2.1) 35 x.2.2.2.1) ++ dy) (x_d C_O_readEntry 116 rfl) rfl (by omega) (by omega) rfl ?_
                refine x_aload_n (x_d C_O_readEntry 117 rfl) rfl ?_
                refine x_aload_n (x_d C_O_readEntry 118 rfl) rfl ?_
                refine x_getfield (v := xI (x.2.2.2.2)) (x_d C_O_readEntry 119 rfl) f_O_106 rfl rfl ?_
                refine x_iload_n (x_d C_O_readEntry 120 rfl) rfl ?_
                refine x_mmax (st := [xC 11]) (x_d C_O_readEntry 121 rfl) kM_O_149 mmax_w (Nat.le_of_ble_eq_true rfl) (by omega) ?_
                refine x_putfield (h1 := hF (x_up q 362 (max x.2.2.2.2 k)) (x_up r 359 (some 32)) (x_up (x_up (x_up (x_up A 13 (x_up x.1 (k).toNat (t + 1))) 14 x.2.1) 34 x.2.2.1) 35 x.2.2.2.1) ++ dy) (x_d C_O_readEntry 122 rfl) p_O_106 rfl rfl rfl trivial rfl ?_
                refine x_iconst (x_d C_O_readEntry 123 rfl) ⟨by omega, by omega⟩ ?_
                refine x_ireturn (x_d C_O_readEntry 124 rfl) ?_
                refine Or.inl ⟨rfl, e_st (A 2) (q 35) (q 34) t (q 1029) i k x, ?_, ?_⟩
                · unfold s_entry
                  rw [if_neg]
                  rintro (z | z)
                  · have hb := (e_bad_f (b := A 2) (n := q 35) (i := i)).mpr ⟨by omega, by omega, by omega, by omega⟩
                    rw [hb] at z
                    cases z
                  · omega
                · unfold e_st
                  rw [if_neg (by omega)]
                  try rfl
              · refine x_iload_n (x_d C_O_readEntry 79 rfl) rfl ?_
                refine x_if_eq (tgt := 162) (x_d C_O_readEntry 80 rfl) rfl (fun c48 => ?_) (fun c48 => ?_)
                · refine x_aload_n (x_d C_O_readEntry 86 rfl) rfl ?_
                  refine x_getfield (v := xC 14) (x_d C_O_readEntry 87 rfl) f_O_18 rfl rfl ?_
                  refine x_iload_n (x_d C_O_readEntry 88 rfl) rfl ?_
                  refine x_lload (x_d C_O_readEntry 89 rfl) rfl ?_
                  refine x_aload_n (x_d C_O_readEntry 90 rfl) rfl ?_
                  refine x_getfield (v := xC 1) (x_d C_O_readEntry 91 rfl) f_O_24 rfl rfl ?_
                  refine x_invokevirtual (st := [xJ (s_dgs (A 2) (q 35) i 10), xI (k), xC 14]) (av := []) (x_d C_O_readEntry 92 rfl) k_O_103 m_T_tapeSize v_T_tapeSize cl_T rfl rfl (Nat.le_of_ble_eq_true rfl) (by omega) rfl (c_T_tapeSize Z (d - 1) (x_up q 362 x.2.2.2.2) (x_up r 359 (some 32)) (x_up (x_up (x_up (x_up A 13 x.1) 14 x.2.1) 34 x.2.2.1) 35 x.2.2.2.1) dy hT) ?_
                  rintro v_ _ ⟨hv_, rfl⟩
                  obtain rfl : v_ = some (xI (q 35 - q 34)) := hv_
                  refine x_i2l (x_d C_O_readEntry 93 rfl) ?_
                  refine x_mminL (st := [xI (k), xC 14]) (x_d C_O_readEntry 94 rfl) kM_O_136 mminL_w (Nat.le_of_ble_eq_true rfl) (by omega) ?_
                  refine x_l2i (x_d C_O_readEntry 95 rfl) ⟨by omega, by omega⟩ ?_
                  refine x_iastore (h1 := hF (x_up q 362 x.2.2.2.2) (x_up r 359 (some 32)) (x_up (x_up (x_up (x_up A 13 x.1) 14 (x_up x.2.1 (k).toNat (min (s_dgs (A 2) (q 35) i 10) (q 35 - q 34)))) 34 x.2.2.1) 35 x.2.2.2.1) ++ dy) (x_d C_O_readEntry 96 rfl) rfl (by omega) (by omega) rfl ?_
                  refine x_aload_n (x_d C_O_readEntry 97 rfl) rfl ?_
                  refine x_getfield (v := xC 32) (x_d C_O_readEntry 98 rfl) f_O_36 rfl rfl ?_
                  refine x_getfield (v := xC 34) (x_d C_O_readEntry 99 rfl) f_O_142 rfl rfl ?_
                  refine x_iload_n (x_d C_O_readEntry 100 rfl) rfl ?_
                  refine x_lload (x_d C_O_readEntry 101 rfl) rfl ?_
                  refine x_l2i (x_d C_O_readEntry 102 rfl) ⟨by omega, by omega⟩ ?_
                  refine x_iastore (h1 := hF (x_up q 362 x.2.2.2.2) (x_up r 359 (some 32)) (x_up (x_up (x_up (x_up A 13 x.1) 14 (x_up x.2.1 (k).toNat (min (s_dgs (A 2) (q 35) i 10) (q 35 - q 34)))) 34 (x_up x.2.2.1 (k).toNat (s_dgs (A 2) (q 35) (i + 11) 5))) 35 x.2.2.2.1) ++ dy) (x_d C_O_readEntry 103 rfl) rfl (by omega) (by omega) rfl ?_
                  refine x_aload_n (x_d C_O_readEntry 104 rfl) rfl ?_
                  refine x_getfield (v := xC 32) (x_d C_O_readEntry 105 rfl) f_O_36 rfl rfl ?_
                  refine x_getfield (v := xC 35) (x_d C_O_readEntry 106 rfl) f_O_145 rfl rfl ?_
                  refine x_iload_n (x_d C_O_readEntry 107 rfl) rfl ?_
                  refine x_iload (x_d C_O_readEntry 108 rfl) rfl ?_
                  refine x_zastore (h1 := hF (x_up q 362 x.2.2.2.2) (x_up r 359 (some 32)) (x_up (x_up (x_up (x_up A 13 x.1) 14 (x_up x.2.1 (k).toNat (min (s_dgs (A 2) (q 35) i 10) (q 35 - q 34)))) 34 (x_up x.2.2.1 (k).toNat (s_dgs (A 2) (q 35) (i + 11) 5))) 35 (x_up x.2.2.2.1 (k).toNat 1)) ++ dy) (x_d C_O_readEntry 109 rfl) rfl (by omega) (by omega) (by omega) rfl ?_
                  refine x_aload_n (x_d C_O_readEntry 110 rfl) rfl ?_
                  refine x_getfield (v := xC 13) (x_d C_O_readEntry 111 rfl) f_O_15 rfl rfl ?_
                  refine x_iload_n (x_d C_O_readEntry 112 rfl) rfl ?_
                  refine x_iload_n (x_d C_O_readEntry 113 rfl) rfl ?_
                  refine x_iconst (x_d C_O_readEntry 114 rfl) ⟨by omega, by omega⟩ ?_
                  refine x_iadd (x_d C_O_readEntry 115 rfl) ⟨by omega, by omega⟩ ?_
                  refine x_iastore (h1 := hF (x_up q 362 x.2.2.2.2) (x_up r 359 (some 32)) (x_up (x_up (x_up (x_up A 13 (x_up x.1 (k).toNat (t + 1))) 14 (x_up x.2.1 (k).toNat (min (s_dgs (A 2) (q 35) i 10) (q 35 - q 34)))) 34 (x_up x.2.2.1 (k).toNat (s_dgs (A 2) (q 35) (i + 11) 5))) 35 (x_up x.2.2.2.1 (k).toNat 1)) ++ dy) (x_d C_O_readEntry 116 rfl) rfl (by omega) (by omega) rfl ?_
                  refine x_aload_n (x_d C_O_readEntry 117 rfl) rfl ?_
                  refine x_aload_n (x_d C_O_readEntry 118 rfl) rfl ?_
                  refine x_getfield (v := xI (x.2.2.2.2)) (x_d C_O_readEntry 119 rfl) f_O_106 rfl rfl ?_
                  refine x_iload_n (x_d C_O_readEntry 120 rfl) rfl ?_
                  refine x_mmax (st := [xC 11]) (x_d C_O_readEntry 121 rfl) kM_O_149 mmax_w (Nat.le_of_ble_eq_true rfl) (by omega) ?_
                  refine x_putfield (h1 := hF (x_up q 362 (max x.2.2.2.2 k)) (x_up r 359 (some 32)) (x_up (x_up (x_up (x_up A 13 (x_up x.1 (k).toNat (t + 1))) 14 (x_up x.2.1 (k).toNat (min (s_dgs (A 2) (q 35) i 10) (q 35 - q 34)))) 34 (x_up x.2.2.1 (k).toNat (s_dgs (A 2) (q 35) (i + 11) 5))) 35 (x_up x.2.2.2.1 (k).toNat 1)) ++ dy) (x_d C_O_readEntry 122 rfl) p_O_106 rfl rfl rfl trivial rfl ?_
                  refine x_iconst (x_d C_O_readEntry 123 rfl) ⟨by omega, by omega⟩ ?_
                  refine x_ireturn (x_d C_O_readEntry 124 rfl) ?_
                  refine Or.inl ⟨rfl, e_st (A 2) (q 35) (q 34) t (q 1029) i k x, ?_, ?_⟩
                  · unfold s_entry
                    rw [if_neg]
                    rintro (z | z)
                    · have hb := (e_bad_f (b := A 2) (n := q 35) (i := i)).mpr ⟨by omega, by omega, by omega, by omega⟩
                      rw [hb] at z
                      cases z
                    · omega
                  · unfold e_st
                    rw [if_pos (by omega), if_pos (by omega)]
                    try rfl
                · refine x_iload_n (x_d C_O_readEntry 81 rfl) rfl ?_
                  refine x_aload_n (x_d C_O_readEntry 82 rfl) rfl ?_
                  refine x_getfield (v := xC 32) (x_d C_O_readEntry 83 rfl) f_O_36 rfl rfl ?_
                  refine x_getfield (v := xI (q 1029)) (x_d C_O_readEntry 84 rfl) f_O_133 rfl rfl ?_
                  refine x_icmp_ge (tgt := 205) (x_d C_O_readEntry 85 rfl) rfl (fun c49 => ?_) (fun c49 => ?_)
                  · refine x_aload_n (x_d C_O_readEntry 110 rfl) rfl ?_
                    refine x_getfield (v := xC 13) (x_d C_O_readEntry 111 rfl) f_O_15 rfl rfl ?_
                    refine x_iload_n (x_d C_O_readEntry 112 rfl) rfl ?_
                    refine x_iload_n (x_d C_O_readEntry 113 rfl) rfl ?_
                    refine x_iconst (x_d C_O_readEntry 114 rfl) ⟨by omega, by omega⟩ ?_
                    refine x_iadd (x_d C_O_readEntry 115 rfl) ⟨by omega, by omega⟩ ?_
                    refine x_iastore (h1 := hF (x_up q 362 x.2.2.2.2) (x_up r 359 (some 32)) (x_up (x_up (x_up (x_up A 13 (x_up x.1 (k).toNat (t + 1))) 14 x.2.1) 34 x.2.2.1) 35 x.2.2.2.1) ++ dy) (x_d C_O_readEntry 116 rfl) rfl (by omega) (by omega) rfl ?_
                    refine x_aload_n (x_d C_O_readEntry 117 rfl) rfl ?_
                    refine x_aload_n (x_d C_O_readEntry 118 rfl) rfl ?_
                    refine x_getfield (v := xI (x.2.2.2.2)) (x_d C_O_readEntry 119 rfl) f_O_106 rfl rfl ?_
                    refine x_iload_n (x_d C_O_readEntry 120 rfl) rfl ?_
                    refine x_mmax (st := [xC 11]) (x_d C_O_readEntry 121 rfl) kM_O_149 mmax_w (Nat.le_of_ble_eq_true rfl) (by omega) ?_
                    refine x_putfield (h1 := hF (x_up q 362 (max x.2.2.2.2 k)) (x_up r 359 (some 32)) (x_up (x_up (x_up (x_up A 13 (x_up x.1 (k).toNat (t + 1))) 14 x.2.1) 34 x.2.2.1) 35 x.2.2.2.1) ++ dy) (x_d C_O_readEntry 122 rfl) p_O_106 rfl rfl rfl trivial rfl ?_
                    refine x_iconst (x_d C_O_readEntry 123 rfl) ⟨by omega, by omega⟩ ?_
                    refine x_ireturn (x_d C_O_readEntry 124 rfl) ?_
                    refine Or.inl ⟨rfl, e_st (A 2) (q 35) (q 34) t (q 1029) i k x, ?_, ?_⟩
                    · unfold s_entry
                      rw [if_neg]
                      rintro (z | z)
                      · have hb := (e_bad_f (b := A 2) (n := q 35) (i := i)).mpr ⟨by omega, by omega, by omega, by omega⟩
                        rw [hb] at z
                        cases z
                      · omega
                    · unfold e_st
                      rw [if_neg (by omega)]
                      try rfl
                  · refine x_aload_n (x_d C_O_readEntry 86 rfl) rfl ?_
                    refine x_getfield (v := xC 14) (x_d C_O_readEntry 87 rfl) f_O_18 rfl rfl ?_
                    refine x_iload_n (x_d C_O_readEntry 88 rfl) rfl ?_
                    refine x_lload (x_d C_O_readEntry 89 rfl) rfl ?_
                    refine x_aload_n (x_d C_O_readEntry 90 rfl) rfl ?_
                    refine x_getfield (v := xC 1) (x_d C_O_readEntry 91 rfl) f_O_24 rfl rfl ?_
                    refine x_invokevirtual (st := [xJ (s_dgs (A 2) (q 35) i 10), xI (k), xC 14]) (av := []) (x_d C_O_readEntry 92 rfl) k_O_103 m_T_tapeSize v_T_tapeSize cl_T rfl rfl (Nat.le_of_ble_eq_true rfl) (by omega) rfl (c_T_tapeSize Z (d - 1) (x_up q 362 x.2.2.2.2) (x_up r 359 (some 32)) (x_up (x_up (x_up (x_up A 13 x.1) 14 x.2.1) 34 x.2.2.1) 35 x.2.2.2.1) dy hT) ?_
                    rintro v_ _ ⟨hv_, rfl⟩
                    obtain rfl : v_ = some (xI (q 35 - q 34)) := hv_
                    refine x_i2l (x_d C_O_readEntry 93 rfl) ?_
                    refine x_mminL (st := [xI (k), xC 14]) (x_d C_O_readEntry 94 rfl) kM_O_136 mminL_w (Nat.le_of_ble_eq_true rfl) (by omega) ?_
                    refine x_l2i (x_d C_O_readEntry 95 rfl) ⟨by omega, by omega⟩ ?_
                    refine x_iastore (h1 := hF (x_up q 362 x.2.2.2.2) (x_up r 359 (some 32)) (x_up (x_up (x_up (x_up A 13 x.1) 14 (x_up x.2.1 (k).toNat (min (s_dgs (A 2) (q 35) i 10) (q 35 - q 34)))) 34 x.2.2.1) 35 x.2.2.2.1) ++ dy) (x_d C_O_readEntry 96 rfl) rfl (by omega) (by omega) rfl ?_
                    refine x_aload_n (x_d C_O_readEntry 97 rfl) rfl ?_
                    refine x_getfield (v := xC 32) (x_d C_O_readEntry 98 rfl) f_O_36 rfl rfl ?_
                    refine x_getfield (v := xC 34) (x_d C_O_readEntry 99 rfl) f_O_142 rfl rfl ?_
                    refine x_iload_n (x_d C_O_readEntry 100 rfl) rfl ?_
                    refine x_lload (x_d C_O_readEntry 101 rfl) rfl ?_
                    refine x_l2i (x_d C_O_readEntry 102 rfl) ⟨by omega, by omega⟩ ?_
                    refine x_iastore (h1 := hF (x_up q 362 x.2.2.2.2) (x_up r 359 (some 32)) (x_up (x_up (x_up (x_up A 13 x.1) 14 (x_up x.2.1 (k).toNat (min (s_dgs (A 2) (q 35) i 10) (q 35 - q 34)))) 34 (x_up x.2.2.1 (k).toNat (s_dgs (A 2) (q 35) (i + 11) 5))) 35 x.2.2.2.1) ++ dy) (x_d C_O_readEntry 103 rfl) rfl (by omega) (by omega) rfl ?_
                    refine x_aload_n (x_d C_O_readEntry 104 rfl) rfl ?_
                    refine x_getfield (v := xC 32) (x_d C_O_readEntry 105 rfl) f_O_36 rfl rfl ?_
                    refine x_getfield (v := xC 35) (x_d C_O_readEntry 106 rfl) f_O_145 rfl rfl ?_
                    refine x_iload_n (x_d C_O_readEntry 107 rfl) rfl ?_
                    refine x_iload (x_d C_O_readEntry 108 rfl) rfl ?_
                    refine x_zastore (h1 := hF (x_up q 362 x.2.2.2.2) (x_up r 359 (some 32)) (x_up (x_up (x_up (x_up A 13 x.1) 14 (x_up x.2.1 (k).toNat (min (s_dgs (A 2) (q 35) i 10) (q 35 - q 34)))) 34 (x_up x.2.2.1 (k).toNat (s_dgs (A 2) (q 35) (i + 11) 5))) 35 (x_up x.2.2.2.1 (k).toNat 1)) ++ dy) (x_d C_O_readEntry 109 rfl) rfl (by omega) (by omega) (by omega) rfl ?_
                    refine x_aload_n (x_d C_O_readEntry 110 rfl) rfl ?_
                    refine x_getfield (v := xC 13) (x_d C_O_readEntry 111 rfl) f_O_15 rfl rfl ?_
                    refine x_iload_n (x_d C_O_readEntry 112 rfl) rfl ?_
                    refine x_iload_n (x_d C_O_readEntry 113 rfl) rfl ?_
                    refine x_iconst (x_d C_O_readEntry 114 rfl) ⟨by omega, by omega⟩ ?_
                    refine x_iadd (x_d C_O_readEntry 115 rfl) ⟨by omega, by omega⟩ ?_
                    refine x_iastore (h1 := hF (x_up q 362 x.2.2.2.2) (x_up r 359 (some 32)) (x_up (x_up (x_up (x_up A 13 (x_up x.1 (k).toNat (t + 1))) 14 (x_up x.2.1 (k).toNat (min (s_dgs (A 2) (q 35) i 10) (q 35 - q 34)))) 34 (x_up x.2.2.1 (k).toNat (s_dgs (A 2) (q 35) (i + 11) 5))) 35 (x_up x.2.2.2.1 (k).toNat 1)) ++ dy) (x_d C_O_readEntry 116 rfl) rfl (by omega) (by omega) rfl ?_
                    refine x_aload_n (x_d C_O_readEntry 117 rfl) rfl ?_
                    refine x_aload_n (x_d C_O_readEntry 118 rfl) rfl ?_
                    refine x_getfield (v := xI (x.2.2.2.2)) (x_d C_O_readEntry 119 rfl) f_O_106 rfl rfl ?_
                    refine x_iload_n (x_d C_O_readEntry 120 rfl) rfl ?_
                    refine x_mmax (st := [xC 11]) (x_d C_O_readEntry 121 rfl) kM_O_149 mmax_w (Nat.le_of_ble_eq_true rfl) (by omega) ?_
                    refine x_putfield (h1 := hF (x_up q 362 (max x.2.2.2.2 k)) (x_up r 359 (some 32)) (x_up (x_up (x_up (x_up A 13 (x_up x.1 (k).toNat (t + 1))) 14 (x_up x.2.1 (k).toNat (min (s_dgs (A 2) (q 35) i 10) (q 35 - q 34)))) 34 (x_up x.2.2.1 (k).toNat (s_dgs (A 2) (q 35) (i + 11) 5))) 35 (x_up x.2.2.2.1 (k).toNat 1)) ++ dy) (x_d C_O_readEntry 122 rfl) p_O_106 rfl rfl rfl trivial rfl ?_
                    refine x_iconst (x_d C_O_readEntry 123 rfl) ⟨by omega, by omega⟩ ?_
                    refine x_ireturn (x_d C_O_readEntry 124 rfl) ?_
                    refine Or.inl ⟨rfl, e_st (A 2) (q 35) (q 34) t (q 1029) i k x, ?_, ?_⟩
                    · unfold s_entry
                      rw [if_neg]
                      rintro (z | z)
                      · have hb := (e_bad_f (b := A 2) (n := q 35) (i := i)).mpr ⟨by omega, by omega, by omega, by omega⟩
                        rw [hb] at z
                        cases z
                      · omega
                    · unfold e_st
                      rw [if_pos (by omega), if_pos (by omega)]
                      try rfl
            · refine x_iconst (x_d C_O_readEntry 72 rfl) ⟨by omega, by omega⟩ ?_
              refine x_ireturn (x_d C_O_readEntry 73 rfl) ?_
              refine Or.inr ⟨rfl, ?_, rfl⟩
              unfold s_entry
              first | rw [if_pos (Or.inr (by omega))] | rw [if_pos (Or.inl (e_bad_t (fun z => by unfold e_ok at z; omega)))]
theorem e_in {b : Nat → Int} {n f t sz i k : Int} {x y : ost} (h : s_entry b n f t sz i k x = some y) : 0 ≤ i ∧ i + 20 ≤ n := by
  unfold s_entry at h
  split at h
  · cases h
  · next hc =>
    have hb : e_ok b n i := e_bad_f.mp (by cases e : e_bad b n i with | false => rfl | true => exact absurd (Or.inl e) hc)
    obtain ⟨h1, h2, h3, h4⟩ := hb
    have h5 : 0 ≤ i := by
      unfold s_dgs at h1
      split at h1
      · next h => exact h.1
      · omega
    have h6 := s_txt_in b n (i + 16) [32, 110, 32, 10]
    have h7 := s_txt_in b n (i + 16) [32, 102, 32, 10]
    simp only [List.length_cons, List.length_nil] at h6 h7
    omega
theorem w_O_readSection_93 (Z : xZ) (d : Nat) (q : Nat → Int) (r : Nat → Option Nat) (A : Nat → Nat → Int) (dy : xH) (hd : 6 ≤ d) (p t a u N : Int) (hT : 0 ≤ q 34 ∧ q 34 ≤ q 35 ∧ q 35 ≤ 10248) (hz : 0 ≤ q 1029 ∧ q 1029 ≤ 300) (ha : 0 ≤ a ∧ 0 ≤ N ∧ (0 < N → a + N ≤ 300)) (ht : 0 ≤ t ∧ t ≤ 6) : ∀ (m : Nat) (x : ost) (i k : Int), (0 ≤ k ∧ k + m = N) → (0 ≤ i ∧ i + 20 * m ≤ 18000) → (i ≤ q 35 ∨ i ≤ q 35) → xW Z d Y_O_readSection 93 [(0, xC 11), (1, xI p), (2, xI t), (3, xI a), (4, xI u), (5, xI N), (6, xI i), (7, xI k)] [] (hF (x_up q 362 x.2.2.2.2) (x_up r 359 (some 32)) (x_up (x_up (x_up (x_up A 13 x.1) 14 x.2.1) 34 x.2.2.1) 35 x.2.2.2.1) ++ dy) (fun v0 h2 => ∃ y, h2 = hF (x_up q 362 y.2.2.2.2) (x_up r 359 (some 32)) (x_up (x_up (x_up (x_up A 13 y.1) 14 y.2.1) 34 y.2.2.1) 35 y.2.2.2.1) ++ dy ∧ ((∃ j, v0 = some (xI j) ∧ s_entrs (A 2) (q 35) (q 34) t (q 1029) m i (a + k) x = some (y, j)) ∨ (v0 = some (xI (-1)) ∧ s_entrs (A 2) (q 35) (q 34) t (q 1029) m i (a + k) x = none))) := by
  intro m
  induction m with
  | zero =>
    intro x i k hk hi hq
    refine x_iload (x_d C_O_readSection 45 rfl) rfl ?_
    refine x_iload (x_d C_O_readSection 46 rfl) rfl ?_
    refine x_icmp_ge (tgt := 125) (x_d C_O_readSection 47 rfl) rfl (fun _ => ?_) (fun q => absurd q (by omega))
    refine x_iload (x_d C_O_readSection 61 rfl) rfl ?_
    refine x_ireturn (x_d C_O_readSection 62 rfl) ?_
    exact ⟨x, rfl, Or.inl ⟨i, rfl, rfl⟩⟩
  | succ m ih =>
    intro x i k hk hi hq
    refine x_iload (x_d C_O_readSection 45 rfl) rfl ?_
    refine x_iload (x_d C_O_readSection 46 rfl) rfl ?_
    refine x_icmp_ge (tgt := 125) (x_d C_O_readSection 47 rfl) rfl (fun q => absurd q (by omega)) (fun _ => ?_)
    refine x_aload_n (x_d C_O_readSection 48 rfl) rfl ?_
    refine x_iload (x_d C_O_readSection 49 rfl) rfl ?_
    refine x_iload_n (x_d C_O_readSection 50 rfl) rfl ?_
    refine x_iload (x_d C_O_readSection 51 rfl) rfl ?_
    refine x_iadd (x_d C_O_readSection 52 rfl) ⟨by omega, by omega⟩ ?_
    refine x_iload_n (x_d C_O_readSection 53 rfl) rfl ?_
    refine x_invokevirtual (st := []) (av := [xI (i), xI (a + k), xI (t)]) (x_d C_O_readSection 54 rfl) k_O_122 m_O_readEntry v_O_readEntry cl_O rfl rfl (Nat.le_of_ble_eq_true rfl) (by omega) rfl (c_O_readEntry Z (d - 1) q r A dy (by omega) x i (a + k) t hT hz (by omega) (by omega) (by omega)) ?_
    rintro v_ h_ hr_
    obtain ⟨z, y, rfl, rfl, hzy⟩ : ∃ (z : Int) (y : ost), v_ = some (xI z) ∧ h_ = hF (x_up q 362 y.2.2.2.2) (x_up r 359 (some 32)) (x_up (x_up (x_up (x_up A 13 y.1) 14 y.2.1) 34 y.2.2.1) 35 y.2.2.2.1) ++ dy ∧ ((z = 1 ∧ s_entry (A 2) (q 35) (q 34) t (q 1029) i (a + k) x = some y) ∨ (z = 0 ∧ s_entry (A 2) (q 35) (q 34) t (q 1029) i (a + k) x = none)) := by
      rcases hr_ with ⟨h1, y, h2, h3⟩ | ⟨h1, h2, h3⟩
      · exact ⟨1, y, h1, h3, Or.inl ⟨rfl, h2⟩⟩
      · exact ⟨0, x, h1, h3, Or.inr ⟨rfl, h2⟩⟩
    clear hr_
    refine x_if_ne (tgt := 116) (x_d C_O_readSection 55 rfl) rfl (fun c2 => ?_) (fun c2 => ?_)
    · refine x_iinc (l1 := [(6, xI (i + 20)), (0, xC 11), (1, xI (p)), (2, xI (t)), (3, xI (a)), (4, xI (u)), (5, xI (N)), (7, xI (k))]) (x_d C_O_readSection 58 rfl) rfl ⟨by omega, by omega⟩ (by decide) rfl ?_
      refine x_iinc (l1 := [(7, xI (k + 1)), (6, xI (i + 20)), (0, xC 11), (1, xI (p)), (2, xI (t)), (3, xI (a)), (4, xI (u)), (5, xI (N))]) (x_d C_O_readSection 59 rfl) rfl ⟨by omega, by omega⟩ (by decide) rfl ?_
      refine x_goto (tgt := 93) (x_d C_O_readSection 60 rfl) rfl ?_
      refine x_locs [2, 3, 4, 5, 6, 7, 1, 0] rfl ?_
      rcases hzy with ⟨h1, h2⟩ | ⟨h1, h2⟩
      · refine xW_post ?_ (ih y (i + 20) (k + 1) (by omega) (by omega) (by rcases e_in h2 with e; omega))
        have e1 : s_entrs (A 2) (q 35) (q 34) t (q 1029) (m + 1) i (a + k) x = s_entrs (A 2) (q 35) (q 34) t (q 1029) m (i + 20) (a + (k + 1)) y := by
          show (s_entry (A 2) (q 35) (q 34) t (q 1029) i (a + k) x).bind _ = _
          rw [h2, Option.bind_some, Int.add_assoc]
        rw [e1]
        exact fun _ _ h => h
      · omega
    · refine x_iconst (x_d C_O_readSection 56 rfl) ⟨by omega, by omega⟩ ?_
      refine x_ireturn (x_d C_O_readSection 57 rfl) ?_
      rcases hzy with ⟨h1, h2⟩ | ⟨h1, h2⟩
      · omega
      · refine ⟨y, rfl, Or.inr ⟨rfl, ?_⟩⟩
        show (s_entry (A 2) (q 35) (q 34) t (q 1029) i (a + k) x).bind _ = none
        rw [h2]
        rfl
theorem c_O_readSection (Z : xZ) (d : Nat) (q : Nat → Int) (r : Nat → Option Nat) (A : Nat → Nat → Int) (dy : xH) (hd : 6 ≤ d) (x : ost) (p t : Int) (hT : 0 ≤ q 34 ∧ q 34 ≤ q 35 ∧ q 35 ≤ 10248) (hR : s_okR A) (hz : 0 ≤ q 1029 ∧ q 1029 ≤ 300) (ht : 0 ≤ t ∧ t ≤ 6) : xMet Z d Y_O_readSection [xC 11, xI p, xI t] (hF (x_up q 362 x.2.2.2.2) (x_up r 359 (some 32)) (x_up (x_up (x_up (x_up A 13 x.1) 14 x.2.1) 34 x.2.2.1) 35 x.2.2.2.1) ++ dy) (fun v0 h2 => ∃ y, h2 = hF (x_up q 362 y.2.2.2.2) (x_up r 359 (some 32)) (x_up (x_up (x_up (x_up A 13 y.1) 14 y.2.1) 34 y.2.2.1) 35 y.2.2.2.1) ++ dy ∧ ((∃ j, v0 = some (xI j) ∧ s_sect (A 2) (q 35) (q 34) t (q 1029) p x = some (y, j)) ∨ (v0 = some (xI (-1)) ∧ s_sect (A 2) (q 35) (q 34) t (q 1029) p x = none))) := by
  refine xMet_of (by decide) (Nat.le_of_ble_eq_true rfl) (fun v0 h2 hq => by obtain ⟨_, _, ⟨_, e, _⟩ | ⟨e, _⟩⟩ := hq <;> rw [e] <;> trivial) ?_
  have hn1 := s_num_in (A 2) (q 35) p
  have hn2 := s_num_in (A 2) (q 35) (s_abyte (A 2) (q 35) (s_wd (A 2) (q 35) p) 32)
  have ha2 := s_abyte_in (A 2) (q 35) (s_wd (A 2) (q 35) (s_abyte (A 2) (q 35) (s_wd (A 2) (q 35) p) 32)) 10
  have hw2 := s_wd_in (A 2) (q 35) (s_abyte (A 2) (q 35) (s_wd (A 2) (q 35) p) 32)
  have hb2 := s_byte_in (A 2) (q 35) (s_wd (A 2) (q 35) (s_abyte (A 2) (q 35) (s_wd (A 2) (q 35) p) 32))
  refine x_aload_n (x_d C_O_readSection 0 rfl) rfl ?_
  refine x_getfield (v := xC 1) (x_d C_O_readSection 1 rfl) f_O_24 rfl rfl ?_
  refine x_iload_n (x_d C_O_readSection 2 rfl) rfl ?_
  refine x_invokevirtual (st := []) (av := [xI (p)]) (x_d C_O_readSection 3 rfl) k_O_100 m_T_number v_T_number cl_T rfl rfl (Nat.le_of_ble_eq_true rfl) (by omega) rfl (c_T_numberA Z (d - 1) (x_up q 362 x.2.2.2.2) (x_up r 359 (some 32)) (x_up (x_up (x_up (x_up A 13 x.1) 14 x.2.1) 34 x.2.2.1) 35 x.2.2.2.1) dy p hT hR) ?_
  rintro v_ _ ⟨hv_, rfl⟩
  obtain rfl : v_ = some (xI (s_num (A 2) (q 35) p)) := hv_
  refine x_istore_n (l1 := [(3, xI (s_num (A 2) (q 35) p)), (0, xC 11), (1, xI (p)), (2, xI (t))]) (x_d C_O_readSection 4 rfl) (by decide) rfl ?_
  refine x_aload_n (x_d C_O_readSection 5 rfl) rfl ?_
  refine x_getfield (v := xC 1) (x_d C_O_readSection 6 rfl) f_O_24 rfl rfl ?_
  refine x_aload_n (x_d C_O_readSection 7 rfl) rfl ?_
  refine x_getfield (v := xC 1) (x_d C_O_readSection 8 rfl) f_O_24 rfl rfl ?_
  refine x_iload_n (x_d C_O_readSection 9 rfl) rfl ?_
  refine x_invokevirtual (st := [xC 1]) (av := [xI (p)]) (x_d C_O_readSection 10 rfl) k_O_90 m_T_afterWord v_T_afterWord cl_T rfl rfl (Nat.le_of_ble_eq_true rfl) (by omega) rfl (c_T_afterWord Z (d - 1) (x_up q 362 x.2.2.2.2) (x_up r 359 (some 32)) (x_up (x_up (x_up (x_up A 13 x.1) 14 x.2.1) 34 x.2.2.1) 35 x.2.2.2.1) dy p hT hR) ?_
  rintro v_ _ ⟨hv_, rfl⟩
  obtain rfl : v_ = some (xI (s_wd (A 2) (q 35) p)) := hv_
  refine x_bipush (x_d C_O_readSection 11 rfl) (by omega) ?_
  refine x_invokevirtual (st := []) (av := [xI (s_wd (A 2) (q 35) p), xI (32)]) (x_d C_O_readSection 12 rfl) k_O_94 m_T_afterByte v_T_afterByte cl_T rfl rfl (Nat.le_of_ble_eq_true rfl) (by omega) rfl (c_T_afterByte Z (d - 1) (x_up q 362 x.2.2.2.2) (x_up r 359 (some 32)) (x_up (x_up (x_up (x_up A 13 x.1) 14 x.2.1) 34 x.2.2.1) 35 x.2.2.2.1) dy (by omega) (s_wd (A 2) (q 35) p) 32 hT (by omega)) ?_
  rintro v_ _ ⟨hv_, rfl⟩
  obtain rfl : v_ = some (xI (s_abyte (A 2) (q 35) (s_wd (A 2) (q 35) p) 32)) := hv_
  refine x_istore (l1 := [(4, xI (s_abyte (A 2) (q 35) (s_wd (A 2) (q 35) p) 32)), (3, xI (s_num (A 2) (q 35) p)), (0, xC 11), (1, xI (p)), (2, xI (t))]) (x_d C_O_readSection 13 rfl) (by decide) rfl ?_
  refine x_aload_n (x_d C_O_readSection 14 rfl) rfl ?_
  refine x_getfield (v := xC 1) (x_d C_O_readSection 15 rfl) f_O_24 rfl rfl ?_
  refine x_iload (x_d C_O_readSection 16 rfl) rfl ?_
  refine x_invokevirtual (st := []) (av := [xI (s_abyte (A 2) (q 35) (s_wd (A 2) (q 35) p) 32)]) (x_d C_O_readSection 17 rfl) k_O_100 m_T_number v_T_number cl_T rfl rfl (Nat.le_of_ble_eq_true rfl) (by omega) rfl (c_T_numberA Z (d - 1) (x_up q 362 x.2.2.2.2) (x_up r 359 (some 32)) (x_up (x_up (x_up (x_up A 13 x.1) 14 x.2.1) 34 x.2.2.1) 35 x.2.2.2.1) dy (s_abyte (A 2) (q 35) (s_wd (A 2) (q 35) p) 32) hT hR) ?_
  rintro v_ _ ⟨hv_, rfl⟩
  obtain rfl : v_ = some (xI (s_num (A 2) (q 35) (s_abyte (A 2) (q 35) (s_wd (A 2) (q 35) p) 32))) := hv_
  refine x_istore (l1 := [(5, xI (s_num (A 2) (q 35) (s_abyte (A 2) (q 35) (s_wd (A 2) (q 35) p) 32))), (4, xI (s_abyte (A 2) (q 35) (s_wd (A 2) (q 35) p) 32)), (3, xI (s_num (A 2) (q 35) p)), (0, xC 11), (1, xI (p)), (2, xI (t))]) (x_d C_O_readSection 18 rfl) (by decide) rfl ?_
  refine x_aload_n (x_d C_O_readSection 19 rfl) rfl ?_
  refine x_getfield (v := xC 1) (x_d C_O_readSection 20 rfl) f_O_24 rfl rfl ?_
  refine x_aload_n (x_d C_O_readSection 21 rfl) rfl ?_
  refine x_getfield (v := xC 1) (x_d C_O_readSection 22 rfl) f_O_24 rfl rfl ?_
  refine x_iload (x_d C_O_readSection 23 rfl) rfl ?_
  refine x_invokevirtual (st := [xC 1]) (av := [xI (s_abyte (A 2) (q 35) (s_wd (A 2) (q 35) p) 32)]) (x_d C_O_readSection 24 rfl) k_O_90 m_T_afterWord v_T_afterWord cl_T rfl rfl (Nat.le_of_ble_eq_true rfl) (by omega) rfl (c_T_afterWord Z (d - 1) (x_up q 362 x.2.2.2.2) (x_up r 359 (some 32)) (x_up (x_up (x_up (x_up A 13 x.1) 14 x.2.1) 34 x.2.2.1) 35 x.2.2.2.1) dy (s_abyte (A 2) (q 35) (s_wd (A 2) (q 35) p) 32) hT hR) ?_
  rintro v_ _ ⟨hv_, rfl⟩
  obtain rfl : v_ = some (xI (s_wd (A 2) (q 35) (s_abyte (A 2) (q 35) (s_wd (A 2) (q 35) p) 32))) := hv_
  refine x_bipush (x_d C_O_readSection 25 rfl) (by omega) ?_
  refine x_invokevirtual (st := []) (av := [xI (s_wd (A 2) (q 35) (s_abyte (A 2) (q 35) (s_wd (A 2) (q 35) p) 32)), xI (10)]) (x_d C_O_readSection 26 rfl) k_O_94 m_T_afterByte v_T_afterByte cl_T rfl rfl (Nat.le_of_ble_eq_true rfl) (by omega) rfl (c_T_afterByte Z (d - 1) (x_up q 362 x.2.2.2.2) (x_up r 359 (some 32)) (x_up (x_up (x_up (x_up A 13 x.1) 14 x.2.1) 34 x.2.2.1) 35 x.2.2.2.1) dy (by omega) (s_wd (A 2) (q 35) (s_abyte (A 2) (q 35) (s_wd (A 2) (q 35) p) 32)) 10 hT (by omega)) ?_
  rintro v_ _ ⟨hv_, rfl⟩
  obtain rfl : v_ = some (xI (s_abyte (A 2) (q 35) (s_wd (A 2) (q 35) (s_abyte (A 2) (q 35) (s_wd (A 2) (q 35) p) 32)) 10)) := hv_
  refine x_istore (l1 := [(6, xI (s_abyte (A 2) (q 35) (s_wd (A 2) (q 35) (s_abyte (A 2) (q 35) (s_wd (A 2) (q 35) p) 32)) 10)), (5, xI (s_num (A 2) (q 35) (s_abyte (A 2) (q 35) (s_wd (A 2) (q 35) p) 32))), (4, xI (s_abyte (A 2) (q 35) (s_wd (A 2) (q 35) p) 32)), (3, xI (s_num (A 2) (q 35) p)), (0, xC 11), (1, xI (p)), (2, xI (t))]) (x_d C_O_readSection 27 rfl) (by decide) rfl ?_
  refine x_iload_n (x_d C_O_readSection 28 rfl) rfl ?_
  refine x_if_lt (tgt := 88) (x_d C_O_readSection 29 rfl) rfl (fun c1 => ?_) (fun c1 => ?_)
  · refine x_iconst (x_d C_O_readSection 41 rfl) ⟨by omega, by omega⟩ ?_
    refine x_ireturn (x_d C_O_readSection 42 rfl) ?_
    refine ⟨x, rfl, Or.inr ⟨rfl, ?_⟩⟩
    unfold s_sect
    rw [if_pos (by omega)]
  · refine x_iload (x_d C_O_readSection 30 rfl) rfl ?_
    refine x_if_lt (tgt := 88) (x_d C_O_readSection 31 rfl) rfl (fun c2 => ?_) (fun c2 => ?_)
    · refine x_iconst (x_d C_O_readSection 41 rfl) ⟨by omega, by omega⟩ ?_
      refine x_ireturn (x_d C_O_readSection 42 rfl) ?_
      refine ⟨x, rfl, Or.inr ⟨rfl, ?_⟩⟩
      unfold s_sect
      rw [if_pos (by omega)]
    · refine x_iload (x_d C_O_readSection 32 rfl) rfl ?_
      refine x_if_lt (tgt := 88) (x_d C_O_readSection 33 rfl) rfl (fun c3 => ?_) (fun c3 => ?_)
      · refine x_iconst (x_d C_O_readSection 41 rfl) ⟨by omega, by omega⟩ ?_
        refine x_ireturn (x_d C_O_readSection 42 rfl) ?_
        refine ⟨x, rfl, Or.inr ⟨rfl, ?_⟩⟩
        unfold s_sect
        rw [if_pos (by omega)]
      · refine x_iload (x_d C_O_readSection 34 rfl) rfl ?_
        refine x_if_le (tgt := 90) (x_d C_O_readSection 35 rfl) rfl (fun c4 => ?_) (fun c4 => ?_)
        · refine x_iconst (x_d C_O_readSection 43 rfl) ⟨by omega, by omega⟩ ?_
          refine x_istore (l1 := [(7, xI (0)), (6, xI (s_abyte (A 2) (q 35) (s_wd (A 2) (q 35) (s_abyte (A 2) (q 35) (s_wd (A 2) (q 35) p) 32)) 10)), (5, xI (s_num (A 2) (q 35) (s_abyte (A 2) (q 35) (s_wd (A 2) (q 35) p) 32))), (4, xI (s_abyte (A 2) (q 35) (s_wd (A 2) (q 35) p) 32)), (3, xI (s_num (A 2) (q 35) p)), (0, xC 11), (1, xI (p)), (2, xI (t))]) (x_d C_O_readSection 44 rfl) (by decide) rfl ?_
          refine x_locs [5, 6, 7, 4, 3, 2, 1, 0] rfl ?_
          unfold s_sect
          rw [if_neg (by omega)]
          have := w_O_readSection_93 Z d q r A dy hd p t (s_num (A 2) (q 35) p) (s_abyte (A 2) (q 35) (s_wd (A 2) (q 35) p) 32) (s_num (A 2) (q 35) (s_abyte (A 2) (q 35) (s_wd (A 2) (q 35) p) 32)) hT hz (by omega) ht (s_num (A 2) (q 35) (s_abyte (A 2) (q 35) (s_wd (A 2) (q 35) p) 32)).toNat x (s_abyte (A 2) (q 35) (s_wd (A 2) (q 35) (s_abyte (A 2) (q 35) (s_wd (A 2) (q 35) p) 32)) 10) 0 (by omega) (by omega) (by omega)
          rw [Int.add_zero] at this
          exact this
        · refine x_iload_n (x_d C_O_readSection 36 rfl) rfl ?_
          refine x_iload (x_d C_O_readSection 37 rfl) rfl ?_
          refine x_iadd (x_d C_O_readSection 38 rfl) ⟨by omega, by omega⟩ ?_
          refine x_sipush (x_d C_O_readSection 39 rfl) (by omega) ?_
          refine x_icmp_le (tgt := 90) (x_d C_O_readSection 40 rfl) rfl (fun c5 => ?_) (fun c5 => ?_)
          · refine x_iconst (x_d C_O_readSection 43 rfl) ⟨by omega, by omega⟩ ?_
            refine x_istore (l1 := [(7, xI (0)), (6, xI (s_abyte (A 2) (q 35) (s_wd (A 2) (q 35) (s_abyte (A 2) (q 35) (s_wd (A 2) (q 35) p) 32)) 10)), (5, xI (s_num (A 2) (q 35) (s_abyte (A 2) (q 35) (s_wd (A 2) (q 35) p) 32))), (4, xI (s_abyte (A 2) (q 35) (s_wd (A 2) (q 35) p) 32)), (3, xI (s_num (A 2) (q 35) p)), (0, xC 11), (1, xI (p)), (2, xI (t))]) (x_d C_O_readSection 44 rfl) (by decide) rfl ?_
            refine x_locs [5, 6, 7, 4, 3, 2, 1, 0] rfl ?_
            unfold s_sect
            rw [if_neg (by omega)]
            have := w_O_readSection_93 Z d q r A dy hd p t (s_num (A 2) (q 35) p) (s_abyte (A 2) (q 35) (s_wd (A 2) (q 35) p) 32) (s_num (A 2) (q 35) (s_abyte (A 2) (q 35) (s_wd (A 2) (q 35) p) 32)) hT hz (by omega) ht (s_num (A 2) (q 35) (s_abyte (A 2) (q 35) (s_wd (A 2) (q 35) p) 32)).toNat x (s_abyte (A 2) (q 35) (s_wd (A 2) (q 35) (s_abyte (A 2) (q 35) (s_wd (A 2) (q 35) p) 32)) 10) 0 (by omega) (by omega) (by omega)
            rw [Int.add_zero] at this
            exact this
          · refine x_iconst (x_d C_O_readSection 41 rfl) ⟨by omega, by omega⟩ ?_
            refine x_ireturn (x_d C_O_readSection 42 rfl) ?_
            refine ⟨x, rfl, Or.inr ⟨rfl, ?_⟩⟩
            unfold s_sect
            rw [if_pos (by omega)]
