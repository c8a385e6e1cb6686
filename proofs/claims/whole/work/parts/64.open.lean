/-! the opener: objects -/
/-- where the value of object k begins -/
def s_hg (b : Nat → Int) (n f pl : Int) : Int := s_abyte b n (s_wd b n (f + pl)) 32
def s_hd (b : Nat → Int) (n f pl gn k : Int) : Int := if ¬ s_num b n (f + pl) = k ∨ ¬ s_num b n (s_hg b n f pl) = gn then -1 else s_sc s_white b n (s_the b n (s_abyte b n (s_wd b n (s_hg b n f pl)) 32) [111, 98, 106])
/-- an object: its parts, the place behind the word stream -/
def s_ob1 (b : Nat → Int) (n f pl gn k : Int) : Option (List tk × Int) := (s_val b n 8 (s_hd b n f pl gn k)).bind (fun y => if (if lkd y.1 0 = 7 then s_the b n (s_sc s_white b n y.2) [115, 116, 114, 101, 97, 109] else -1) < 0 ∧ s_the b n (s_sc s_white b n y.2) [101, 110, 100, 111, 98, 106] < 0 then none else some (y.1, if lkd y.1 0 = 7 then s_the b n (s_sc s_white b n y.2) [115, 116, 114, 101, 97, 109] else -1))
theorem s_hd_in (b : Nat → Int) (n f pl gn k : Int) (h0 : 0 ≤ f + pl) : s_hd b n f pl gn k = -1 ∨ (f + pl ≤ s_hd b n f pl gn k ∧ s_hd b n f pl gn k ≤ n) := by
  unfold s_hd
  split
  · exact Or.inl rfl
  · have h1 := s_the_in b n (s_abyte b n (s_wd b n (s_hg b n f pl)) 32) [111, 98, 106]
    simp only [List.length_cons, List.length_nil] at h1
    have h2 := s_abyte_in b n (s_wd b n (s_hg b n f pl)) 32
    have h3 := s_wd_in b n (s_hg b n f pl)
    have h4 := s_byte_in b n (s_wd b n (s_hg b n f pl))
    have h5 : s_hg b n f pl = -1 ∨ f + pl ≤ s_hg b n f pl := by
      unfold s_hg
      have h6 := s_abyte_in b n (s_wd b n (f + pl)) 32
      have h7 := s_wd_in b n (f + pl)
      have h8 := s_byte_in b n (s_wd b n (f + pl))
      omega
    rcases h1 with e | e
    · left; rw [e]; exact s_sc_0 _ _ (by omega)
    · right
      have h8 := s_sc_ge s_white b n (s_the b n (s_abyte b n (s_wd b n (s_hg b n f pl)) 32) [111, 98, 106])
      have h9 := s_sc_le s_white b (n := n) (t := s_the b n (s_abyte b n (s_wd b n (s_hg b n f pl)) 32) [111, 98, 106]) (by omega)
      omega
theorem c_O_valueAt (Z : xZ) (d : Nat) (q : Nat → Int) (r : Nat → Option Nat) (A : Nat → Nat → Int) (dy : xH) (hd : 7 ≤ d) (k : Int) (hT : 0 ≤ q 34 ∧ q 34 ≤ q 35 ∧ q 35 ≤ 10248) (hR : s_okR A) (hk : 0 ≤ k ∧ k < 300) (hpl : 0 ≤ A 14 k.toNat ∧ A 14 k.toNat ≤ 10248) : xMet Z d Y_O_valueAt [xC 11, xI k] (hF q (x_up r 359 (some 32)) A ++ dy) (fun v h2 => v = some (xI (s_hd (A 2) (q 35) (q 34) (A 14 k.toNat) (A 34 k.toNat) k)) ∧ h2 = hF q (x_up r 359 (some 32)) A ++ dy) := by
  refine xMet_of (by decide) (Nat.le_of_ble_eq_true rfl) (fun v h2 hq => by rw [hq.1]; trivial) ?_
  refine x_aload_n (x_d C_O_valueAt 0 rfl) rfl ?_
  refine x_getfield (v := xC 1) (x_d C_O_valueAt 1 rfl) f_O_24 rfl rfl ?_
  refine x_getfield (v := xI (q 34)) (x_d C_O_valueAt 2 rfl) f_O_40 rfl rfl ?_
  refine x_aload_n (x_d C_O_valueAt 3 rfl) rfl ?_
  refine x_getfield (v := xC 14) (x_d C_O_valueAt 4 rfl) f_O_18 rfl rfl ?_
  refine x_iload_n (x_d C_O_valueAt 5 rfl) rfl ?_
  refine x_iaload (f := A 14) (x_d C_O_valueAt 6 rfl) rfl (by omega) (by omega) ?_
  refine x_iadd (x_d C_O_valueAt 7 rfl) ⟨by omega, by omega⟩ ?_
  refine x_istore_n (l1 := [(2, xI (q 34 + (A 14 (k).toNat))), (0, xC 11), (1, xI (k))]) (x_d C_O_valueAt 8 rfl) (by decide) rfl ?_
  refine x_aload_n (x_d C_O_valueAt 9 rfl) rfl ?_
  refine x_getfield (v := xC 1) (x_d C_O_valueAt 10 rfl) f_O_24 rfl rfl ?_
  refine x_aload_n (x_d C_O_valueAt 11 rfl) rfl ?_
  refine x_getfield (v := xC 1) (x_d C_O_valueAt 12 rfl) f_O_24 rfl rfl ?_
  refine x_iload_n (x_d C_O_valueAt 13 rfl) rfl ?_
  refine x_invokevirtual (st := [xC 1]) (av := [xI (q 34 + (A 14 (k).toNat))]) (x_d C_O_valueAt 14 rfl) k_O_90 m_T_afterWord v_T_afterWord cl_T rfl rfl (Nat.le_of_ble_eq_true rfl) (by omega) rfl (c_T_afterWord Z (d - 1) q (x_up r 359 (some 32)) A dy (q 34 + (A 14 (k).toNat)) hT hR) ?_
  rintro v_ _ ⟨hv_, rfl⟩
  obtain rfl : v_ = some (xI (s_wd (A 2) (q 35) (q 34 + (A 14 (k).toNat)))) := hv_
  refine x_bipush (x_d C_O_valueAt 15 rfl) (by omega) ?_
  refine x_invokevirtual (st := []) (av := [xI (s_wd (A 2) (q 35) (q 34 + (A 14 (k).toNat))), xI (32)]) (x_d C_O_valueAt 16 rfl) k_O_94 m_T_afterByte v_T_afterByte cl_T rfl rfl (Nat.le_of_ble_eq_true rfl) (by omega) rfl (c_T_afterByte Z (d - 1) q (x_up r 359 (some 32)) A dy (by omega) (s_wd (A 2) (q 35) (q 34 + (A 14 (k).toNat))) 32 hT (by omega)) ?_
  rintro v_ _ ⟨hv_, rfl⟩
  obtain rfl : v_ = some (xI (s_abyte (A 2) (q 35) (s_wd (A 2) (q 35) (q 34 + (A 14 (k).toNat))) 32)) := hv_
  refine x_istore_n (l1 := [(3, xI (s_abyte (A 2) (q 35) (s_wd (A 2) (q 35) (q 34 + (A 14 (k).toNat))) 32)), (2, xI (q 34 + (A 14 (k).toNat))), (0, xC 11), (1, xI (k))]) (x_d C_O_valueAt 17 rfl) (by decide) rfl ?_
  refine x_aload_n (x_d C_O_valueAt 18 rfl) rfl ?_
  refine x_getfield (v := xC 1) (x_d C_O_valueAt 19 rfl) f_O_24 rfl rfl ?_
  refine x_aload_n (x_d C_O_valueAt 20 rfl) rfl ?_
  refine x_getfield (v := xC 1) (x_d C_O_valueAt 21 rfl) f_O_24 rfl rfl ?_
  refine x_iload_n (x_d C_O_valueAt 22 rfl) rfl ?_
  refine x_invokevirtual (st := [xC 1]) (av := [xI (s_abyte (A 2) (q 35) (s_wd (A 2) (q 35) (q 34 + (A 14 (k).toNat))) 32)]) (x_d C_O_valueAt 23 rfl) k_O_90 m_T_afterWord v_T_afterWord cl_T rfl rfl (Nat.le_of_ble_eq_true rfl) (by omega) rfl (c_T_afterWord Z (d - 1) q (x_up r 359 (some 32)) A dy (s_abyte (A 2) (q 35) (s_wd (A 2) (q 35) (q 34 + (A 14 (k).toNat))) 32) hT hR) ?_
  rintro v_ _ ⟨hv_, rfl⟩
  obtain rfl : v_ = some (xI (s_wd (A 2) (q 35) (s_abyte (A 2) (q 35) (s_wd (A 2) (q 35) (q 34 + (A 14 (k).toNat))) 32))) := hv_
  refine x_bipush (x_d C_O_valueAt 24 rfl) (by omega) ?_
  refine x_invokevirtual (st := []) (av := [xI (s_wd (A 2) (q 35) (s_abyte (A 2) (q 35) (s_wd (A 2) (q 35) (q 34 + (A 14 (k).toNat))) 32)), xI (32)]) (x_d C_O_valueAt 25 rfl) k_O_94 m_T_afterByte v_T_afterByte cl_T rfl rfl (Nat.le_of_ble_eq_true rfl) (by omega) rfl (c_T_afterByte Z (d - 1) q (x_up r 359 (some 32)) A dy (by omega) (s_wd (A 2) (q 35) (s_abyte (A 2) (q 35) (s_wd (A 2) (q 35) (q 34 + (A 14 (k).toNat))) 32)) 32 hT (by omega)) ?_
  rintro v_ _ ⟨hv_, rfl⟩
  obtain rfl : v_ = some (xI (s_abyte (A 2) (q 35) (s_wd (A 2) (q 35) (s_abyte (A 2) (q 35) (s_wd (A 2) (q 35) (q 34 + (A 14 (k).toNat))) 32)) 32)) := hv_
  refine x_istore (l1 := [(4, xI (s_abyte (A 2) (q 35) (s_wd (A 2) (q 35) (s_abyte (A 2) (q 35) (s_wd (A 2) (q 35) (q 34 + (A 14 (k).toNat))) 32)) 32)), (3, xI (s_abyte (A 2) (q 35) (s_wd (A 2) (q 35) (q 34 + (A 14 (k).toNat))) 32)), (2, xI (q 34 + (A 14 (k).toNat))), (0, xC 11), (1, xI (k))]) (x_d C_O_valueAt 26 rfl) (by decide) rfl ?_
  refine x_aload_n (x_d C_O_valueAt 27 rfl) rfl ?_
  refine x_getfield (v := xC 1) (x_d C_O_valueAt 28 rfl) f_O_24 rfl rfl ?_
  refine x_iload_n (x_d C_O_valueAt 29 rfl) rfl ?_
  refine x_invokevirtual (st := []) (av := [xI (q 34 + (A 14 (k).toNat))]) (x_d C_O_valueAt 30 rfl) k_O_100 m_T_number v_T_number cl_T rfl rfl (Nat.le_of_ble_eq_true rfl) (by omega) rfl (c_T_numberA Z (d - 1) q (x_up r 359 (some 32)) A dy (q 34 + (A 14 (k).toNat)) hT hR) ?_
  rintro v_ _ ⟨hv_, rfl⟩
  obtain rfl : v_ = some (xI (s_num (A 2) (q 35) (q 34 + (A 14 (k).toNat)))) := hv_
  refine x_iload_n (x_d C_O_valueAt 31 rfl) rfl ?_
  refine x_icmp_ne (tgt := 84) (x_d C_O_valueAt 32 rfl) rfl (fun c1 => ?_) (fun c1 => ?_)
  · refine x_iconst (x_d C_O_valueAt 43 rfl) ⟨by omega, by omega⟩ ?_
    refine x_ireturn (x_d C_O_valueAt 44 rfl) ?_
    refine ⟨congrArg (fun z => some (xI z)) ?_, rfl⟩
    unfold s_hd s_hg
    rw [if_pos (by omega)]
  · refine x_aload_n (x_d C_O_valueAt 33 rfl) rfl ?_
    refine x_getfield (v := xC 1) (x_d C_O_valueAt 34 rfl) f_O_24 rfl rfl ?_
    refine x_iload_n (x_d C_O_valueAt 35 rfl) rfl ?_
    refine x_invokevirtual (st := []) (av := [xI (s_abyte (A 2) (q 35) (s_wd (A 2) (q 35) (q 34 + (A 14 (k).toNat))) 32)]) (x_d C_O_valueAt 36 rfl) k_O_100 m_T_number v_T_number cl_T rfl rfl (Nat.le_of_ble_eq_true rfl) (by omega) rfl (c_T_numberA Z (d - 1) q (x_up r 359 (some 32)) A dy (s_abyte (A 2) (q 35) (s_wd (A 2) (q 35) (q 34 + (A 14 (k).toNat))) 32) hT hR) ?_
    rintro v_ _ ⟨hv_, rfl⟩
    obtain rfl : v_ = some (xI (s_num (A 2) (q 35) (s_abyte (A 2) (q 35) (s_wd (A 2) (q 35) (q 34 + (A 14 (k).toNat))) 32))) := hv_
    refine x_aload_n (x_d C_O_valueAt 37 rfl) rfl ?_
    refine x_getfield (v := xC 32) (x_d C_O_valueAt 38 rfl) f_O_36 rfl rfl ?_
    refine x_getfield (v := xC 34) (x_d C_O_valueAt 39 rfl) f_O_142 rfl rfl ?_
    refine x_iload_n (x_d C_O_valueAt 40 rfl) rfl ?_
    refine x_iaload (f := A 34) (x_d C_O_valueAt 41 rfl) rfl (by omega) (by omega) ?_
    refine x_icmp_eq (tgt := 86) (x_d C_O_valueAt 42 rfl) rfl (fun c2 => ?_) (fun c2 => ?_)
    · refine x_aload_n (x_d C_O_valueAt 45 rfl) rfl ?_
      refine x_getfield (v := xC 1) (x_d C_O_valueAt 46 rfl) f_O_24 rfl rfl ?_
      refine x_aload_n (x_d C_O_valueAt 47 rfl) rfl ?_
      refine x_getfield (v := xC 1) (x_d C_O_valueAt 48 rfl) f_O_24 rfl rfl ?_
      refine x_iload (x_d C_O_valueAt 49 rfl) rfl ?_
      refine x_ldcS (i := 16) (x_d C_O_valueAt 50 rfl) rfl ?_
      refine x_invokevirtual (st := [xC 1]) (av := [xI (s_abyte (A 2) (q 35) (s_wd (A 2) (q 35) (s_abyte (A 2) (q 35) (s_wd (A 2) (q 35) (q 34 + (A 14 (k).toNat))) 32)) 32), xS (33)]) (x_d C_O_valueAt 51 rfl) k_O_111 m_T_afterThe v_T_afterThe cl_T rfl rfl (Nat.le_of_ble_eq_true rfl) (by omega) rfl (c_T_afterThe Z (d - 1) q (x_up r 359 (some 32)) A dy (by omega) (i := 16) rfl (s_abyte (A 2) (q 35) (s_wd (A 2) (q 35) (s_abyte (A 2) (q 35) (s_wd (A 2) (q 35) (q 34 + (A 14 (k).toNat))) 32)) 32) hT hR) ?_
      rintro v_ _ ⟨hv_, rfl⟩
      obtain rfl : v_ = some (xI (s_the (A 2) (q 35) (s_abyte (A 2) (q 35) (s_wd (A 2) (q 35) (s_abyte (A 2) (q 35) (s_wd (A 2) (q 35) (q 34 + (A 14 (k).toNat))) 32)) 32) [111, 98, 106])) := hv_
      refine x_invokevirtual (st := []) (av := [xI (s_the (A 2) (q 35) (s_abyte (A 2) (q 35) (s_wd (A 2) (q 35) (s_abyte (A 2) (q 35) (s_wd (A 2) (q 35) (q 34 + (A 14 (k).toNat))) 32)) 32) [111, 98, 106])]) (x_d C_O_valueAt 52 rfl) k_O_192 m_T_afterWhite v_T_afterWhite cl_T rfl rfl (Nat.le_of_ble_eq_true rfl) (by omega) rfl (c_T_afterWhite Z (d - 1) q (x_up r 359 (some 32)) A dy (s_the (A 2) (q 35) (s_abyte (A 2) (q 35) (s_wd (A 2) (q 35) (s_abyte (A 2) (q 35) (s_wd (A 2) (q 35) (q 34 + (A 14 (k).toNat))) 32)) 32) [111, 98, 106]) hT) ?_
      rintro v_ _ ⟨hv_, rfl⟩
      obtain rfl : v_ = some (xI (s_sc s_white (A 2) (q 35) (s_the (A 2) (q 35) (s_abyte (A 2) (q 35) (s_wd (A 2) (q 35) (s_abyte (A 2) (q 35) (s_wd (A 2) (q 35) (q 34 + (A 14 (k).toNat))) 32)) 32) [111, 98, 106]))) := hv_
      refine x_ireturn (x_d C_O_valueAt 53 rfl) ?_
      refine ⟨congrArg (fun z => some (xI z)) ?_, rfl⟩
      unfold s_hd s_hg
      rw [if_neg (by omega)]
    · refine x_iconst (x_d C_O_valueAt 43 rfl) ⟨by omega, by omega⟩ ?_
      refine x_ireturn (x_d C_O_valueAt 44 rfl) ?_
      refine ⟨congrArg (fun z => some (xI z)) ?_, rfl⟩
      unfold s_hd s_hg
      rw [if_pos (by omega)]
theorem c_O_readObject (Z : xZ) (d : Nat) (q : Nat → Int) (r : Nat → Option Nat) (A : Nat → Nat → Int) (dy : xH) (hd : 38 ≤ d) (k t : Int) (P : Nat → Nat → Int) (sm rt : Nat → Int) (hT : 0 ≤ q 34 ∧ q 34 ≤ q 35 ∧ q 35 ≤ 10248) (hR : s_okR A) (hB : ∀ j, -128 ≤ A 2 j ∧ A 2 j ≤ 127) (ho : s_ok5 P) (hk : 0 ≤ k ∧ k < 300) (hpl : 0 ≤ A 14 k.toNat ∧ A 14 k.toNat ≤ 10248) (ht : 0 ≤ t ∧ t + (q 35 - q 34) < 12900) : xMet Z d Y_O_readObject [xC 11, xI k] (hF (x_up q 133 t) (x_up r 359 (some 32)) (x_up (x_up (s_pt A P) 15 sm) 33 rt) ++ dy) (fun v0 h2 => ∃ t2 P2 sm2 rt2, h2 = hF (x_up q 133 t2) (x_up r 359 (some 32)) (x_up (x_up (s_pt A P2) 15 sm2) 33 rt2) ++ dy ∧ s_keep t.toNat P P2 ∧ s_ok5 P2 ∧ t ≤ t2 ∧ t2 ≤ 12900 ∧ (∀ j, rt2 j = rt j ∨ rt2 j = t) ∧ ((v0 = some (xI 1) ∧ ∃ y, s_ob1 (A 2) (q 35) (q 34) (A 14 k.toNat) (A 34 k.toNat) k = some y ∧ t2 = t + y.1.length ∧ s_at P2 t.toNat y.1 ∧ s_bh (lsp y.1) 0 = y.1.length ∧ 1 ≤ y.1.length ∧ sm2 = x_up sm k.toNat y.2 ∧ rt2 = x_up rt k.toNat t) ∨ (v0 = some (xI 0) ∧ s_ob1 (A 2) (q 35) (q 34) (A 14 k.toNat) (A 34 k.toNat) k = none))) := by
  refine xMet_of (by decide) (Nat.le_of_ble_eq_true rfl) (fun v0 h2 hq => by obtain ⟨_, _, _, _, _, _, _, _, _, _, ⟨e, _⟩ | ⟨e, _⟩⟩ := hq <;> rw [e]; exact Or.inr rfl; exact Or.inl rfl) ?_
  have hhd := s_hd_in (A 2) (q 35) (q 34) (A 14 k.toNat) (A 34 k.toNat) k (by omega)
  refine x_aload_n (x_d C_O_readObject 0 rfl) rfl ?_
  refine x_getfield (v := xC 4) (x_d C_O_readObject 1 rfl) f_O_28 rfl rfl ?_
  refine x_getfield (v := xI (t)) (x_d C_O_readObject 2 rfl) f_O_152 rfl rfl ?_
  refine x_istore_n (l1 := [(2, xI (t)), (0, xC 11), (1, xI (k))]) (x_d C_O_readObject 3 rfl) (by decide) rfl ?_
  refine x_aload_n (x_d C_O_readObject 4 rfl) rfl ?_
  refine x_getfield (v := xC 1) (x_d C_O_readObject 5 rfl) f_O_24 rfl rfl ?_
  refine x_aload_n (x_d C_O_readObject 6 rfl) rfl ?_
  refine x_getfield (v := xC 10) (x_d C_O_readObject 7 rfl) f_O_32 rfl rfl ?_
  refine x_aload_n (x_d C_O_readObject 8 rfl) rfl ?_
  refine x_iload_n (x_d C_O_readObject 9 rfl) rfl ?_
  refine x_invokevirtual (st := [xC 10, xC 1]) (av := [xI (k)]) (x_d C_O_readObject 10 rfl) k_O_189 m_O_valueAt v_O_valueAt cl_O rfl rfl (Nat.le_of_ble_eq_true rfl) (by omega) rfl (c_O_valueAt Z (d - 1) (x_up q 133 t) r (x_up (x_up (x_up (x_up (x_up (x_up (x_up A 5 (P 5)) 6 (P 6)) 7 (P 7)) 8 (P 8)) 9 (P 9)) 15 sm) 33 rt) dy (by omega) k hT hR hk hpl) ?_
  rintro v_ _ ⟨hv_, rfl⟩
  obtain rfl : v_ = some (xI (s_hd (A 2) (q 35) (q 34) (A 14 k.toNat) (A 34 k.toNat) k)) := hv_
  refine x_iconst (x_d C_O_readObject 11 rfl) ⟨by omega, by omega⟩ ?_
  refine x_invokevirtual (st := [xC 1]) (av := [xI (s_hd (A 2) (q 35) (q 34) (A 14 k.toNat) (A 34 k.toNat) k), xI (1)]) (x_d C_O_readObject 12 rfl) k_O_157 m_R_read v_R_read cl_R rfl rfl (Nat.le_of_ble_eq_true rfl) (by omega) rfl (c_R_read Z q (x_up r 359 (some 32)) (x_up (x_up A 15 sm) 33 rt) dy hT hR hB 8 (by omega) (d - 1) t P (s_hd (A 2) (q 35) (q 34) (A 14 k.toNat) (A 34 k.toNat) k) 1 (by omega) ho (show s_hd (A 2) (q 35) (q 34) (A 14 k.toNat) (A 34 k.toNat) k = -1 ∨ (0 ≤ s_hd (A 2) (q 35) (q 34) (A 14 k.toNat) (A 34 k.toNat) k ∧ s_hd (A 2) (q 35) (q 34) (A 14 k.toNat) (A 34 k.toNat) k ≤ q 35) by omega) (show 0 ≤ t ∧ t < 12900 ∧ (0 ≤ s_hd (A 2) (q 35) (q 34) (A 14 k.toNat) (A 34 k.toNat) k → t + (q 35 - s_hd (A 2) (q 35) (q 34) (A 14 k.toNat) (A 34 k.toNat) k) < 12900) by omega) (by omega)) ?_
  rintro v_ _ ⟨t1, P1, hv_, rfl, hrp⟩
  obtain rfl : v_ = some (xI (s_ps (s_val (A 2) (q 35) 8 (s_hd (A 2) (q 35) (q 34) (A 14 k.toNat) (A 34 k.toNat) k)))) := hv_
  obtain ⟨k1, k2, k3, k4, k5⟩ := hrp
  obtain ⟨bh, hbh⟩ : ∃ z, z = s_sc s_white (A 2) (q 35) (s_ps (s_val (A 2) (q 35) 8 (s_hd (A 2) (q 35) (q 34) (A 14 k.toNat) (A 34 k.toNat) k))) := ⟨_, rfl⟩
  have hps : (bh = -1 ∧ s_val (A 2) (q 35) 8 (s_hd (A 2) (q 35) (q 34) (A 14 k.toNat) (A 34 k.toNat) k) = none) ∨ (0 ≤ bh ∧ ∃ y, s_val (A 2) (q 35) 8 (s_hd (A 2) (q 35) (q 34) (A 14 k.toNat) (A 34 k.toNat) k) = some y ∧ bh = s_sc s_white (A 2) (q 35) y.2 ∧ t1 = t + y.1.length ∧ s_at P1 t.toNat y.1 ∧ s_bh (lsp y.1) 0 = y.1.length ∧ 1 ≤ y.1.length) := by
    cases hv : s_val (A 2) (q 35) 8 (s_hd (A 2) (q 35) (q 34) (A 14 k.toNat) (A 34 k.toNat) k) with
    | none => left; rw [hv] at hbh; exact ⟨by rw [hbh]; exact s_sc_0 _ _ (by show (-1 : Int) < 0; omega), rfl⟩
    | some y =>
      have g1 := k5 y.1 y.2 hv
      have g2 := s_bh_0 hB hv
      have g3 := s_val_ok (A 2) hB (q 35) 8 _ y.1 y.2 hv
      have g4 := s_sc_ge s_white (A 2) (q 35) y.2
      rw [hv] at hbh
      exact Or.inr ⟨by rw [hbh]; show 0 ≤ s_sc s_white (A 2) (q 35) y.2; omega, y, rfl, hbh, g1.1, g1.2, g2.1, g2.2⟩
  refine x_invokevirtual (st := []) (av := [xI (s_ps (s_val (A 2) (q 35) 8 (s_hd (A 2) (q 35) (q 34) (A 14 k.toNat) (A 34 k.toNat) k)))]) (x_d C_O_readObject 13 rfl) k_O_192 m_T_afterWhite v_T_afterWhite cl_T rfl rfl (Nat.le_of_ble_eq_true rfl) (by omega) rfl (c_T_afterWhite Z (d - 1) (x_up q 133 t1) (x_up r 359 (some 32)) (x_up (x_up (x_up (x_up (x_up (x_up (x_up A 5 (P1 5)) 6 (P1 6)) 7 (P1 7)) 8 (P1 8)) 9 (P1 9)) 15 sm) 33 rt) dy (s_ps (s_val (A 2) (q 35) 8 (s_hd (A 2) (q 35) (q 34) (A 14 k.toNat) (A 34 k.toNat) k))) hT) ?_
  rintro v_ _ ⟨hv_, rfl⟩
  obtain rfl : v_ = some (xI bh) := by rw [hbh]; exact hv_
  refine x_istore_n (l1 := [(3, xI (bh)), (2, xI (t)), (0, xC 11), (1, xI (k))]) (x_d C_O_readObject 14 rfl) (by decide) rfl ?_
  refine x_iload_n (x_d C_O_readObject 15 rfl) rfl ?_
  refine x_if_ge (tgt := 35) (x_d C_O_readObject 16 rfl) rfl (fun c1 => ?_) (fun c1 => ?_)
  · obtain ⟨y, hval, hbh2, ht1, hat, hb0, hlen⟩ : ∃ y, s_val (A 2) (q 35) 8 (s_hd (A 2) (q 35) (q 34) (A 14 k.toNat) (A 34 k.toNat) k) = some y ∧ bh = s_sc s_white (A 2) (q 35) y.2 ∧ t1 = t + y.1.length ∧ s_at P1 t.toNat y.1 ∧ s_bh (lsp y.1) 0 = y.1.length ∧ 1 ≤ y.1.length := by rcases hps with ⟨a, _⟩ | ⟨_, a⟩; omega; exact a
    clear hps
    have hg0 := (s_at_get hat (j := 0) (by omega)).1
    rw [Nat.add_zero] at hg0
    have hob : s_ob1 (A 2) (q 35) (q 34) (A 14 k.toNat) (A 34 k.toNat) k = if (if lkd y.1 0 = 7 then s_the (A 2) (q 35) bh [115, 116, 114, 101, 97, 109] else -1) < 0 ∧ s_the (A 2) (q 35) bh [101, 110, 100, 111, 98, 106] < 0 then none else some (y.1, if lkd y.1 0 = 7 then s_the (A 2) (q 35) bh [115, 116, 114, 101, 97, 109] else -1) := by unfold s_ob1; rw [hval, Option.bind_some, hbh2]
    refine x_aload_n (x_d C_O_readObject 19 rfl) rfl ?_
    refine x_getfield (v := xC 32) (x_d C_O_readObject 20 rfl) f_O_36 rfl rfl ?_
    refine x_getfield (v := xC 33) (x_d C_O_readObject 21 rfl) f_O_195 rfl rfl ?_
    refine x_iload_n (x_d C_O_readObject 22 rfl) rfl ?_
    refine x_iload_n (x_d C_O_readObject 23 rfl) rfl ?_
    refine x_iastore (h1 := hF (x_up q 133 t1) (x_up r 359 (some 32)) (x_up (x_up (x_up (x_up (x_up (x_up (x_up A 5 (P1 5)) 6 (P1 6)) 7 (P1 7)) 8 (P1 8)) 9 (P1 9)) 15 sm) 33 (x_up rt (k).toNat t)) ++ dy) (x_d C_O_readObject 24 rfl) rfl (by omega) (by omega) rfl ?_
    refine x_aload_n (x_d C_O_readObject 25 rfl) rfl ?_
    refine x_getfield (v := xC 15) (x_d C_O_readObject 26 rfl) f_O_21 rfl rfl ?_
    refine x_iload_n (x_d C_O_readObject 27 rfl) rfl ?_
    refine x_aload_n (x_d C_O_readObject 28 rfl) rfl ?_
    refine x_getfield (v := xC 4) (x_d C_O_readObject 29 rfl) f_O_28 rfl rfl ?_
    refine x_getfield (v := xC 5) (x_d C_O_readObject 30 rfl) f_O_162 rfl rfl ?_
    refine x_iload_n (x_d C_O_readObject 31 rfl) rfl ?_
    refine x_iaload (f := P1 5) (x_d C_O_readObject 32 rfl) rfl (by omega) (by omega) ?_
    refine x_bipush (x_d C_O_readObject 33 rfl) (by omega) ?_
    refine x_icmp_ne (tgt := 77) (x_d C_O_readObject 34 rfl) rfl (fun c2 => ?_) (fun c2 => ?_)
    · refine x_iconst (x_d C_O_readObject 41 rfl) ⟨by omega, by omega⟩ ?_
      refine x_iastore (h1 := hF (x_up q 133 t1) (x_up r 359 (some 32)) (x_up (x_up (x_up (x_up (x_up (x_up (x_up A 5 (P1 5)) 6 (P1 6)) 7 (P1 7)) 8 (P1 8)) 9 (P1 9)) 15 (x_up sm (k).toNat (-1))) 33 (x_up rt (k).toNat t)) ++ dy) (x_d C_O_readObject 42 rfl) rfl (by omega) (by omega) rfl ?_
      refine x_aload_n (x_d C_O_readObject 43 rfl) rfl ?_
      refine x_getfield (v := xC 15) (x_d C_O_readObject 44 rfl) f_O_21 rfl rfl ?_
      refine x_iload_n (x_d C_O_readObject 45 rfl) rfl ?_
      refine x_iaload (f := x_up sm (k).toNat (-1)) (x_d C_O_readObject 46 rfl) rfl (by omega) (by omega) ?_
      rw [x_up_s]
      refine x_if_ge (tgt := 101) (x_d C_O_readObject 47 rfl) rfl (fun q => absurd q (by omega)) (fun _ => ?_)
      refine x_aload_n (x_d C_O_readObject 48 rfl) rfl ?_
      refine x_getfield (v := xC 1) (x_d C_O_readObject 49 rfl) f_O_24 rfl rfl ?_
      refine x_iload_n (x_d C_O_readObject 50 rfl) rfl ?_
      refine x_ldcS (i := 18) (x_d C_O_readObject 51 rfl) rfl ?_
      refine x_invokevirtual (st := []) (av := [xI (bh), xS (37)]) (x_d C_O_readObject 52 rfl) k_O_111 m_T_afterThe v_T_afterThe cl_T rfl rfl (Nat.le_of_ble_eq_true rfl) (by omega) rfl (c_T_afterThe Z (d - 1) (x_up q 133 t1) (x_up r 359 (some 32)) (x_up (x_up (x_up (x_up (x_up (x_up (x_up A 5 (P1 5)) 6 (P1 6)) 7 (P1 7)) 8 (P1 8)) 9 (P1 9)) 15 (x_up sm (k).toNat (-1))) 33 (x_up rt (k).toNat t)) dy (by omega) (i := 18) rfl bh hT hR) ?_
      rintro v_ _ ⟨hv_, rfl⟩
      obtain rfl : v_ = some (xI (s_the (A 2) (q 35) bh [101, 110, 100, 111, 98, 106])) := hv_
      refine x_if_lt (tgt := 105) (x_d C_O_readObject 53 rfl) rfl (fun c4 => ?_) (fun c4 => ?_)
      · refine x_iconst (x_d C_O_readObject 56 rfl) ⟨by omega, by omega⟩ ?_
        refine x_ireturn (x_d C_O_readObject 57 rfl) ?_
        rw [if_neg (show ¬ lkd y.1 0 = 7 by omega)] at hob
        rw [if_pos (by omega)] at hob
        exact ⟨t1, P1, _, _, rfl, k1, k2, k3, k4, fun j => by unfold x_up; split; exact Or.inr rfl; exact Or.inl rfl, Or.inr ⟨rfl, hob⟩⟩
      · refine x_iconst (x_d C_O_readObject 54 rfl) ⟨by omega, by omega⟩ ?_
        refine x_goto (tgt := 106) (x_d C_O_readObject 55 rfl) rfl ?_
        refine x_ireturn (x_d C_O_readObject 57 rfl) ?_
        rw [if_neg (show ¬ lkd y.1 0 = 7 by omega)] at hob
        rw [if_neg (by omega)] at hob
        exact ⟨t1, P1, _, _, rfl, k1, k2, k3, k4, fun j => by unfold x_up; split; exact Or.inr rfl; exact Or.inl rfl, Or.inl ⟨rfl, _, hob, ht1, hat, hb0, hlen, rfl, rfl⟩⟩
    · refine x_aload_n (x_d C_O_readObject 35 rfl) rfl ?_
      refine x_getfield (v := xC 1) (x_d C_O_readObject 36 rfl) f_O_24 rfl rfl ?_
      refine x_iload_n (x_d C_O_readObject 37 rfl) rfl ?_
      refine x_ldcS (i := 17) (x_d C_O_readObject 38 rfl) rfl ?_
      refine x_invokevirtual (st := [xI (k), xC 15]) (av := [xI (bh), xS (35)]) (x_d C_O_readObject 39 rfl) k_O_111 m_T_afterThe v_T_afterThe cl_T rfl rfl (Nat.le_of_ble_eq_true rfl) (by omega) rfl (c_T_afterThe Z (d - 1) (x_up q 133 t1) (x_up r 359 (some 32)) (x_up (x_up (x_up (x_up (x_up (x_up (x_up A 5 (P1 5)) 6 (P1 6)) 7 (P1 7)) 8 (P1 8)) 9 (P1 9)) 15 sm) 33 (x_up rt (k).toNat t)) dy (by omega) (i := 17) rfl bh hT hR) ?_
      rintro v_ _ ⟨hv_, rfl⟩
      obtain rfl : v_ = some (xI (s_the (A 2) (q 35) bh [115, 116, 114, 101, 97, 109])) := hv_
      refine x_goto (tgt := 78) (x_d C_O_readObject 40 rfl) rfl ?_
      refine x_iastore (h1 := hF (x_up q 133 t1) (x_up r 359 (some 32)) (x_up (x_up (x_up (x_up (x_up (x_up (x_up A 5 (P1 5)) 6 (P1 6)) 7 (P1 7)) 8 (P1 8)) 9 (P1 9)) 15 (x_up sm (k).toNat (s_the (A 2) (q 35) bh [115, 116, 114, 101, 97, 109]))) 33 (x_up rt (k).toNat t)) ++ dy) (x_d C_O_readObject 42 rfl) rfl (by omega) (by omega) rfl ?_
      refine x_aload_n (x_d C_O_readObject 43 rfl) rfl ?_
      refine x_getfield (v := xC 15) (x_d C_O_readObject 44 rfl) f_O_21 rfl rfl ?_
      refine x_iload_n (x_d C_O_readObject 45 rfl) rfl ?_
      refine x_iaload (f := x_up sm (k).toNat (s_the (A 2) (q 35) bh [115, 116, 114, 101, 97, 109])) (x_d C_O_readObject 46 rfl) rfl (by omega) (by omega) ?_
      rw [x_up_s]
      refine x_if_ge (tgt := 101) (x_d C_O_readObject 47 rfl) rfl (fun c5 => ?_) (fun c5 => ?_)
      · refine x_iconst (x_d C_O_readObject 54 rfl) ⟨by omega, by omega⟩ ?_
        refine x_goto (tgt := 106) (x_d C_O_readObject 55 rfl) rfl ?_
        refine x_ireturn (x_d C_O_readObject 57 rfl) ?_
        rw [if_pos (show lkd y.1 0 = 7 by omega)] at hob
        rw [if_neg (by omega)] at hob
        exact ⟨t1, P1, _, _, rfl, k1, k2, k3, k4, fun j => by unfold x_up; split; exact Or.inr rfl; exact Or.inl rfl, Or.inl ⟨rfl, _, hob, ht1, hat, hb0, hlen, rfl, rfl⟩⟩
      · refine x_aload_n (x_d C_O_readObject 48 rfl) rfl ?_
        refine x_getfield (v := xC 1) (x_d C_O_readObject 49 rfl) f_O_24 rfl rfl ?_
        refine x_iload_n (x_d C_O_readObject 50 rfl) rfl ?_
        refine x_ldcS (i := 18) (x_d C_O_readObject 51 rfl) rfl ?_
        refine x_invokevirtual (st := []) (av := [xI (bh), xS (37)]) (x_d C_O_readObject 52 rfl) k_O_111 m_T_afterThe v_T_afterThe cl_T rfl rfl (Nat.le_of_ble_eq_true rfl) (by omega) rfl (c_T_afterThe Z (d - 1) (x_up q 133 t1) (x_up r 359 (some 32)) (x_up (x_up (x_up (x_up (x_up (x_up (x_up A 5 (P1 5)) 6 (P1 6)) 7 (P1 7)) 8 (P1 8)) 9 (P1 9)) 15 (x_up sm (k).toNat (s_the (A 2) (q 35) bh [115, 116, 114, 101, 97, 109]))) 33 (x_up rt (k).toNat t)) dy (by omega) (i := 18) rfl bh hT hR) ?_
        rintro v_ _ ⟨hv_, rfl⟩
        obtain rfl : v_ = some (xI (s_the (A 2) (q 35) bh [101, 110, 100, 111, 98, 106])) := hv_
        refine x_if_lt (tgt := 105) (x_d C_O_readObject 53 rfl) rfl (fun c6 => ?_) (fun c6 => ?_)
        · refine x_iconst (x_d C_O_readObject 56 rfl) ⟨by omega, by omega⟩ ?_
          refine x_ireturn (x_d C_O_readObject 57 rfl) ?_
          rw [if_pos (show lkd y.1 0 = 7 by omega)] at hob
          rw [if_pos (by omega)] at hob
          exact ⟨t1, P1, _, _, rfl, k1, k2, k3, k4, fun j => by unfold x_up; split; exact Or.inr rfl; exact Or.inl rfl, Or.inr ⟨rfl, hob⟩⟩
        · refine x_iconst (x_d C_O_readObject 54 rfl) ⟨by omega, by omega⟩ ?_
          refine x_goto (tgt := 106) (x_d C_O_readObject 55 rfl) rfl ?_
          refine x_ireturn (x_d C_O_readObject 57 rfl) ?_
          rw [if_pos (show lkd y.1 0 = 7 by omega)] at hob
          rw [if_neg (by omega)] at hob
          exact ⟨t1, P1, _, _, rfl, k1, k2, k3, k4, fun j => by unfold x_up; split; exact Or.inr rfl; exact Or.inl rfl, Or.inl ⟨rfl, _, hob, ht1, hat, hb0, hlen, rfl, rfl⟩⟩
  · refine x_iconst (x_d C_O_readObject 17 rfl) ⟨by omega, by omega⟩ ?_
    refine x_ireturn (x_d C_O_readObject 18 rfl) ?_
    refine ⟨t1, P1, sm, rt, rfl, k1, k2, k3, k4, fun _ => Or.inl rfl, Or.inr ⟨rfl, ?_⟩⟩
    have hno : s_val (A 2) (q 35) 8 (s_hd (A 2) (q 35) (q 34) (A 14 k.toNat) (A 34 k.toNat) k) = none := by rcases hps with ⟨_, a⟩ | ⟨a, _⟩; exact a; omega
    unfold s_ob1
    rw [hno]
    rfl
