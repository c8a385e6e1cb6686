/-! books: parts taken and given back -/
theorem c_B_forget (Z : xZ) (d : Nat) (q : Nat → Int) (r : Nat → Option Nat) (A : Nat → Nat → Int) (dy : xH) (hd : 2 ≤ d) (p : Int) (hz : 0 ≤ q 837 ∧ q 837 ≤ 300) (hrt : ∀ k, 0 ≤ A 27 k ∧ A 27 k ≤ 12900) (htr : 0 ≤ q 840 ∧ q 840 ≤ 12900) (hp : 0 ≤ p ∧ p < 12900 ∧ 0 < A 8 p.toNat ∧ p + A 8 p.toNat ≤ q 133 ∧ q 133 ≤ 12900) : xMet Z d Y_B_forget [xC 26, xI p] (hF q r A ++ dy) (fun v h2 => v = none ∧ h2 = hF (x_up (x_up q 133 (q 133 - A 8 p.toNat)) 840 (q 840 - (if p < q 840 then A 8 p.toNat else 0))) r (x_up (s_pt A (s_cut A p (A 8 p.toNat) (q 133))) 27 (s_gap (A 27) (A 29) (q 837) p (A 8 p.toNat))) ++ dy) := by
  refine xMet_of (by decide) (Nat.le_of_ble_eq_true rfl) (fun v h2 hq => by rw [hq.1]; trivial) ?_
  refine x_aload_n (x_d C_B_forget 0 rfl) rfl ?_
  refine x_getfield (v := xC 4) (x_d C_B_forget 1 rfl) f_B_28 rfl rfl ?_
  refine x_getfield (v := xC 8) (x_d C_B_forget 2 rfl) f_B_60 rfl rfl ?_
  refine x_iload_n (x_d C_B_forget 3 rfl) rfl ?_
  refine x_iaload (f := A 8) (x_d C_B_forget 4 rfl) rfl (by omega) (by omega) ?_
  refine x_istore_n (l1 := [(2, xI (A 8 (p).toNat)), (0, xC 26), (1, xI (p))]) (x_d C_B_forget 5 rfl) (by decide) rfl ?_
  refine x_aload_n (x_d C_B_forget 6 rfl) rfl ?_
  refine x_getfield (v := xC 4) (x_d C_B_forget 7 rfl) f_B_28 rfl rfl ?_
  refine x_iload_n (x_d C_B_forget 8 rfl) rfl ?_
  refine x_iload_n (x_d C_B_forget 9 rfl) rfl ?_
  refine x_invokevirtual (st := []) (av := [xI (p), xI (A 8 (p).toNat)]) (x_d C_B_forget 10 rfl) k_B_74 m_P_cut v_P_cut cl_P rfl rfl (Nat.le_of_ble_eq_true rfl) (by omega) rfl (c_P_cut Z (d - 1) q r A dy (by omega) p (A 8 (p).toNat) (show 0 ≤ p ∧ 0 < A 8 (p).toNat ∧ p + (A 8 (p).toNat) ≤ q 133 ∧ q 133 ≤ 12900 from ⟨by omega, by omega, by omega, by omega⟩)) ?_
  rintro _ _ ⟨rfl, rfl⟩
  refine x_aload_n (x_d C_B_forget 11 rfl) rfl ?_
  refine x_iload_n (x_d C_B_forget 12 rfl) rfl ?_
  refine x_iload_n (x_d C_B_forget 13 rfl) rfl ?_
  refine x_invokevirtual (st := []) (av := [xI (p), xI (A 8 (p).toNat)]) (x_d C_B_forget 14 rfl) k_B_78 m_B_closeGap v_B_closeGap cl_B rfl rfl (Nat.le_of_ble_eq_true rfl) (by omega) rfl (c_B_closeGap_26 Z (d - 1) (x_up q 133 (q 133 - (A 8 (p).toNat))) r (x_up (x_up (x_up (x_up (x_up A 5 (va_cpy (A 5) (A 5) (p + (A 8 (p).toNat) : Int).toNat (p : Int).toNat (q 133 - (p + (A 8 (p).toNat)) : Int).toNat)) 6 (va_cpy (A 6) (A 6) (p + (A 8 (p).toNat) : Int).toNat (p : Int).toNat (q 133 - (p + (A 8 (p).toNat)) : Int).toNat)) 7 (va_cpy (A 7) (A 7) (p + (A 8 (p).toNat) : Int).toNat (p : Int).toNat (q 133 - (p + (A 8 (p).toNat)) : Int).toNat)) 8 (va_cpy (A 8) (A 8) (p + (A 8 (p).toNat) : Int).toNat (p : Int).toNat (q 133 - (p + (A 8 (p).toNat)) : Int).toNat)) 9 (va_cpy (A 9) (A 9) (p + (A 8 (p).toNat) : Int).toNat (p : Int).toNat (q 133 - (p + (A 8 (p).toNat)) : Int).toNat)) dy p (A 8 (p).toNat) hz hrt (show 0 ≤ A 8 (p).toNat ∧ A 8 (p).toNat ≤ 12900 from ⟨by omega, by omega⟩) htr) ?_
  rintro _ _ ⟨rfl, rfl⟩
  refine x_return (x_d C_B_forget 15 rfl) ?_
  exact ⟨rfl, rfl⟩
theorem c_B_takeN (Z : xZ) (d : Nat) (q : Nat → Int) (r : Nat → Option Nat) (A : Nat → Nat → Int) (dy : xH) (hd : 1 ≤ d) (n p w : Int) (hz : 0 ≤ q 837 ∧ q 837 ≤ 300) (hn : 0 ≤ n ∧ n ≤ q 837 ∧ n < 300) (hw : w = 0 ∨ w = 1) (hpp : 0 ≤ p ∧ p ≤ 12900) (hnu : ¬ (n < q 837 ∧ ¬ A 29 n.toNat = 0)) : xMet Z d Y_B_take [xC 26, xI n, xI p, xI w] (hF q r A ++ dy) (fun v h2 => v = none ∧ h2 = hF (x_up q 837 (max (q 837) (n + 1))) r (x_up (x_up (x_up (x_up A 27 (x_up (A 27) n.toNat p)) 29 (x_up (A 29) n.toNat 1)) 30 (x_up (A 30) n.toNat 1)) 31 (x_up (A 31) n.toNat w)) ++ dy) := by
  refine xMet_of (by decide) (Nat.le_of_ble_eq_true rfl) (fun v h2 hq => by rw [hq.1]; trivial) ?_
  have hu : x_bo (decide (0 ≤ n ∧ n < q 837 ∧ ¬ A 29 n.toNat = 0)) = 0 := x_bo_f (by omega)
  refine x_aload_n (x_d C_B_take 0 rfl) rfl ?_
  refine x_iload_n (x_d C_B_take 1 rfl) rfl ?_
  refine x_invokevirtual (st := []) (av := [xI (n)]) (x_d C_B_take 2 rfl) k_B_53 m_B_isUsed v_B_isUsed cl_B rfl rfl (Nat.le_of_ble_eq_true rfl) (by omega) rfl (c_B_isUsed_26 Z (d - 1) q r A dy n hz) ?_
  rintro _ _ ⟨rfl, rfl⟩
  refine x_istore (l1 := [(4, xI (x_bo (decide (0 ≤ n ∧ n < q 837 ∧ ¬ A 29 (n).toNat = 0)))), (0, xC 26), (1, xI (n)), (2, xI (p)), (3, xI (w))]) (x_d C_B_take 3 rfl) (by decide) rfl ?_
  refine x_aload_n (x_d C_B_take 4 rfl) rfl ?_
  refine x_getfield (v := xC 27) (x_d C_B_take 5 rfl) f_B_9 rfl rfl ?_
  refine x_iload_n (x_d C_B_take 6 rfl) rfl ?_
  refine x_iaload (f := A 27) (x_d C_B_take 7 rfl) rfl (by omega) (by omega) ?_
  refine x_istore (l1 := [(5, xI (A 27 (n).toNat)), (4, xI (x_bo (decide (0 ≤ n ∧ n < q 837 ∧ ¬ A 29 (n).toNat = 0)))), (0, xC 26), (1, xI (n)), (2, xI (p)), (3, xI (w))]) (x_d C_B_take 8 rfl) (by decide) rfl ?_
  refine x_aload_n (x_d C_B_take 9 rfl) rfl ?_
  refine x_getfield (v := xC 27) (x_d C_B_take 10 rfl) f_B_9 rfl rfl ?_
  refine x_iload_n (x_d C_B_take 11 rfl) rfl ?_
  refine x_iload_n (x_d C_B_take 12 rfl) rfl ?_
  refine x_iastore (h1 := hF q r (x_up A 27 (x_up (A 27) (n).toNat p)) ++ dy) (x_d C_B_take 13 rfl) rfl (by omega) (by omega) rfl ?_
  refine x_aload_n (x_d C_B_take 14 rfl) rfl ?_
  refine x_getfield (v := xC 29) (x_d C_B_take 15 rfl) f_B_18 rfl rfl ?_
  refine x_iload_n (x_d C_B_take 16 rfl) rfl ?_
  refine x_iconst (x_d C_B_take 17 rfl) ⟨by omega, by omega⟩ ?_
  refine x_zastore (h1 := hF q r (x_up (x_up A 27 (x_up (A 27) (n).toNat p)) 29 (x_up (A 29) (n).toNat 1)) ++ dy) (x_d C_B_take 18 rfl) rfl (by omega) (by omega) (by omega) rfl ?_
  refine x_aload_n (x_d C_B_take 19 rfl) rfl ?_
  refine x_getfield (v := xC 30) (x_d C_B_take 20 rfl) f_B_22 rfl rfl ?_
  refine x_iload_n (x_d C_B_take 21 rfl) rfl ?_
  refine x_iconst (x_d C_B_take 22 rfl) ⟨by omega, by omega⟩ ?_
  refine x_zastore (h1 := hF q r (x_up (x_up (x_up A 27 (x_up (A 27) (n).toNat p)) 29 (x_up (A 29) (n).toNat 1)) 30 (x_up (A 30) (n).toNat 1)) ++ dy) (x_d C_B_take 23 rfl) rfl (by omega) (by omega) (by omega) rfl ?_
  refine x_aload_n (x_d C_B_take 24 rfl) rfl ?_
  refine x_getfield (v := xC 31) (x_d C_B_take 25 rfl) f_B_25 rfl rfl ?_
  refine x_iload_n (x_d C_B_take 26 rfl) rfl ?_
  refine x_iload_n (x_d C_B_take 27 rfl) rfl ?_
  refine x_zastore (h1 := hF q r (x_up (x_up (x_up (x_up A 27 (x_up (A 27) (n).toNat p)) 29 (x_up (A 29) (n).toNat 1)) 30 (x_up (A 30) (n).toNat 1)) 31 (x_up (A 31) (n).toNat w)) ++ dy) (x_d C_B_take 28 rfl) rfl (by omega) (by omega) (by omega) rfl ?_
  refine x_aload_n (x_d C_B_take 29 rfl) rfl ?_
  refine x_aload_n (x_d C_B_take 30 rfl) rfl ?_
  refine x_getfield (v := xI (q 837)) (x_d C_B_take 31 rfl) f_B_32 rfl rfl ?_
  refine x_iload_n (x_d C_B_take 32 rfl) rfl ?_
  refine x_iconst (x_d C_B_take 33 rfl) ⟨by omega, by omega⟩ ?_
  refine x_iadd (x_d C_B_take 34 rfl) ⟨by omega, by omega⟩ ?_
  refine x_mmax (st := [xC 26]) (x_d C_B_take 35 rfl) kM_B_63 mmax_w (Nat.le_of_ble_eq_true rfl) (by omega) ?_
  refine x_putfield (h1 := hF (x_up q 837 (max (q 837) (n + 1))) r (x_up (x_up (x_up (x_up A 27 (x_up (A 27) (n).toNat p)) 29 (x_up (A 29) (n).toNat 1)) 30 (x_up (A 30) (n).toNat 1)) 31 (x_up (A 31) (n).toNat w)) ++ dy) (x_d C_B_take 36 rfl) p_B_32 rfl rfl rfl trivial rfl ?_
  refine x_iload (x_d C_B_take 37 rfl) rfl ?_
  refine x_if_eq (tgt := 68) (x_d C_B_take 38 rfl) rfl (fun _ => ?_) (fun q => absurd q (by omega))
  refine x_return (x_d C_B_take 42 rfl) ?_
  exact ⟨rfl, rfl⟩
theorem c_B_takeO (Z : xZ) (d : Nat) (q : Nat → Int) (r : Nat → Option Nat) (A : Nat → Nat → Int) (dy : xH) (hd : 3 ≤ d) (n p w : Int) (hz : 0 ≤ q 837 ∧ q 837 ≤ 300) (hrt : ∀ k, 0 ≤ A 27 k ∧ A 27 k ≤ 12900) (htr : 0 ≤ q 840 ∧ q 840 ≤ 12900) (hn : 0 ≤ n ∧ n ≤ q 837 ∧ n < 300) (hw : w = 0 ∨ w = 1) (hpp : 0 ≤ p ∧ p ≤ 12900) (hnu : n < q 837 ∧ ¬ A 29 n.toNat = 0) (hold : 0 ≤ A 27 n.toNat ∧ A 27 n.toNat < 12900 ∧ 0 < A 8 (A 27 n.toNat).toNat ∧ A 27 n.toNat + A 8 (A 27 n.toNat).toNat ≤ q 133 ∧ q 133 ≤ 12900) : xMet Z d Y_B_take [xC 26, xI n, xI p, xI w] (hF q r A ++ dy) (fun v h2 => v = none ∧ h2 = hF (x_up (x_up (x_up q 837 (max (q 837) (n + 1))) 133 (q 133 - A 8 (A 27 n.toNat).toNat)) 840 (q 840 - (if A 27 n.toNat < q 840 then A 8 (A 27 n.toNat).toNat else 0))) r (x_up (x_up (x_up (x_up (s_pt A (s_cut A (A 27 n.toNat) (A 8 (A 27 n.toNat).toNat) (q 133))) 29 (x_up (A 29) n.toNat 1)) 30 (x_up (A 30) n.toNat 1)) 31 (x_up (A 31) n.toNat w)) 27 (s_gap (x_up (A 27) n.toNat p) (x_up (A 29) n.toNat 1) (max (q 837) (n + 1)) (A 27 n.toNat) (A 8 (A 27 n.toNat).toNat))) ++ dy) := by
  refine xMet_of (by decide) (Nat.le_of_ble_eq_true rfl) (fun v h2 hq => by rw [hq.1]; trivial) ?_
  have hu : x_bo (decide (0 ≤ n ∧ n < q 837 ∧ ¬ A 29 n.toNat = 0)) = 1 := x_bo_t (by omega)
  have hz2 : 0 ≤ max (q 837) (n + 1) ∧ max (q 837) (n + 1) ≤ 300 := by omega
  have hrt2 : ∀ k, 0 ≤ x_up (A 27) n.toNat p k ∧ x_up (A 27) n.toNat p k ≤ 12900 := fun k => by unfold x_up; split; exact hpp; exact hrt k
  refine x_aload_n (x_d C_B_take 0 rfl) rfl ?_
  refine x_iload_n (x_d C_B_take 1 rfl) rfl ?_
  refine x_invokevirtual (st := []) (av := [xI (n)]) (x_d C_B_take 2 rfl) k_B_53 m_B_isUsed v_B_isUsed cl_B rfl rfl (Nat.le_of_ble_eq_true rfl) (by omega) rfl (c_B_isUsed_26 Z (d - 1) q r A dy n hz) ?_
  rintro _ _ ⟨rfl, rfl⟩
  refine x_istore (l1 := [(4, xI (x_bo (decide (0 ≤ n ∧ n < q 837 ∧ ¬ A 29 (n).toNat = 0)))), (0, xC 26), (1, xI (n)), (2, xI (p)), (3, xI (w))]) (x_d C_B_take 3 rfl) (by decide) rfl ?_
  refine x_aload_n (x_d C_B_take 4 rfl) rfl ?_
  refine x_getfield (v := xC 27) (x_d C_B_take 5 rfl) f_B_9 rfl rfl ?_
  refine x_iload_n (x_d C_B_take 6 rfl) rfl ?_
  refine x_iaload (f := A 27) (x_d C_B_take 7 rfl) rfl (by omega) (by omega) ?_
  refine x_istore (l1 := [(5, xI (A 27 (n).toNat)), (4, xI (x_bo (decide (0 ≤ n ∧ n < q 837 ∧ ¬ A 29 (n).toNat = 0)))), (0, xC 26), (1, xI (n)), (2, xI (p)), (3, xI (w))]) (x_d C_B_take 8 rfl) (by decide) rfl ?_
  refine x_aload_n (x_d C_B_take 9 rfl) rfl ?_
  refine x_getfield (v := xC 27) (x_d C_B_take 10 rfl) f_B_9 rfl rfl ?_
  refine x_iload_n (x_d C_B_take 11 rfl) rfl ?_
  refine x_iload_n (x_d C_B_take 12 rfl) rfl ?_
  refine x_iastore (h1 := hF q r (x_up A 27 (x_up (A 27) (n).toNat p)) ++ dy) (x_d C_B_take 13 rfl) rfl (by omega) (by omega) rfl ?_
  refine x_aload_n (x_d C_B_take 14 rfl) rfl ?_
  refine x_getfield (v := xC 29) (x_d C_B_take 15 rfl) f_B_18 rfl rfl ?_
  refine x_iload_n (x_d C_B_take 16 rfl) rfl ?_
  refine x_iconst (x_d C_B_take 17 rfl) ⟨by omega, by omega⟩ ?_
  refine x_zastore (h1 := hF q r (x_up (x_up A 27 (x_up (A 27) (n).toNat p)) 29 (x_up (A 29) (n).toNat 1)) ++ dy) (x_d C_B_take 18 rfl) rfl (by omega) (by omega) (by omega) rfl ?_
  refine x_aload_n (x_d C_B_take 19 rfl) rfl ?_
  refine x_getfield (v := xC 30) (x_d C_B_take 20 rfl) f_B_22 rfl rfl ?_
  refine x_iload_n (x_d C_B_take 21 rfl) rfl ?_
  refine x_iconst (x_d C_B_take 22 rfl) ⟨by omega, by omega⟩ ?_
  refine x_zastore (h1 := hF q r (x_up (x_up (x_up A 27 (x_up (A 27) (n).toNat p)) 29 (x_up (A 29) (n).toNat 1)) 30 (x_up (A 30) (n).toNat 1)) ++ dy) (x_d C_B_take 23 rfl) rfl (by omega) (by omega) (by omega) rfl ?_
  refine x_aload_n (x_d C_B_take 24 rfl) rfl ?_
  refine x_getfield (v := xC 31) (x_d C_B_take 25 rfl) f_B_25 rfl rfl ?_
  refine x_iload_n (x_d C_B_take 26 rfl) rfl ?_
  refine x_iload_n (x_d C_B_take 27 rfl) rfl ?_
  refine x_zastore (h1 := hF q r (x_up (x_up (x_up (x_up A 27 (x_up (A 27) (n).toNat p)) 29 (x_up (A 29) (n).toNat 1)) 30 (x_up (A 30) (n).toNat 1)) 31 (x_up (A 31) (n).toNat w)) ++ dy) (x_d C_B_take 28 rfl) rfl (by omega) (by omega) (by omega) rfl ?_
  refine x_aload_n (x_d C_B_take 29 rfl) rfl ?_
  refine x_aload_n (x_d C_B_take 30 rfl) rfl ?_
  refine x_getfield (v := xI (q 837)) (x_d C_B_take 31 rfl) f_B_32 rfl rfl ?_
  refine x_iload_n (x_d C_B_take 32 rfl) rfl ?_
  refine x_iconst (x_d C_B_take 33 rfl) ⟨by omega, by omega⟩ ?_
  refine x_iadd (x_d C_B_take 34 rfl) ⟨by omega, by omega⟩ ?_
  refine x_mmax (st := [xC 26]) (x_d C_B_take 35 rfl) kM_B_63 mmax_w (Nat.le_of_ble_eq_true rfl) (by omega) ?_
  refine x_putfield (h1 := hF (x_up q 837 (max (q 837) (n + 1))) r (x_up (x_up (x_up (x_up A 27 (x_up (A 27) (n).toNat p)) 29 (x_up (A 29) (n).toNat 1)) 30 (x_up (A 30) (n).toNat 1)) 31 (x_up (A 31) (n).toNat w)) ++ dy) (x_d C_B_take 36 rfl) p_B_32 rfl rfl rfl trivial rfl ?_
  refine x_iload (x_d C_B_take 37 rfl) rfl ?_
  refine x_if_eq (tgt := 68) (x_d C_B_take 38 rfl) rfl (fun q => absurd q (by omega)) (fun _ => ?_)
  refine x_aload_n (x_d C_B_take 39 rfl) rfl ?_
  refine x_iload (x_d C_B_take 40 rfl) rfl ?_
  refine x_invokevirtual (st := []) (av := [xI (A 27 (n).toNat)]) (x_d C_B_take 41 rfl) k_B_69 m_B_forget v_B_forget cl_B rfl rfl (Nat.le_of_ble_eq_true rfl) (by omega) rfl (c_B_forget Z (d - 1) (x_up q 837 (max (q 837) (n + 1))) r (x_up (x_up (x_up (x_up A 27 (x_up (A 27) (n).toNat p)) 29 (x_up (A 29) (n).toNat 1)) 30 (x_up (A 30) (n).toNat 1)) 31 (x_up (A 31) (n).toNat w)) dy (by omega) (A 27 (n).toNat) hz2 hrt2 htr (show 0 ≤ A 27 (n).toNat ∧ A 27 (n).toNat < 12900 ∧ 0 < A 8 (A 27 (n).toNat).toNat ∧ (A 27 (n).toNat) + A 8 (A 27 (n).toNat).toNat ≤ q 133 ∧ q 133 ≤ 12900 from hold)) ?_
  rintro _ _ ⟨rfl, rfl⟩
  refine x_return (x_d C_B_take 42 rfl) ?_
  exact ⟨rfl, rfl⟩
theorem c_B_release (Z : xZ) (d : Nat) (q : Nat → Int) (r : Nat → Option Nat) (A : Nat → Nat → Int) (dy : xH) (hd : 3 ≤ d) (n : Int) (hz : 0 ≤ q 837 ∧ q 837 ≤ 300) (hrt : ∀ k, 0 ≤ A 27 k ∧ A 27 k ≤ 12900) (htr : 0 ≤ q 840 ∧ q 840 ≤ 12900) (hn : 0 ≤ n ∧ n < 300) (hg : 0 ≤ A 28 n.toNat ∧ A 28 n.toNat ≤ 99999) (hold : 0 ≤ A 27 n.toNat ∧ A 27 n.toNat < 12900 ∧ 0 < A 8 (A 27 n.toNat).toNat ∧ A 27 n.toNat + A 8 (A 27 n.toNat).toNat ≤ q 133 ∧ q 133 ≤ 12900) : xMet Z d Y_B_release [xC 26, xI n] (hF q r A ++ dy) (fun v h2 => v = none ∧ h2 = hF (x_up (x_up q 133 (q 133 - A 8 (A 27 n.toNat).toNat)) 840 (q 840 - (if A 27 n.toNat < q 840 then A 8 (A 27 n.toNat).toNat else 0))) r (x_up (x_up (x_up (x_up (s_pt A (s_cut A (A 27 n.toNat) (A 8 (A 27 n.toNat).toNat) (q 133))) 29 (x_up (A 29) n.toNat 0)) 30 (x_up (A 30) n.toNat 1)) 28 (x_up (A 28) n.toNat (A 28 n.toNat + (if A 28 n.toNat < 65535 then 1 else 0)))) 27 (s_gap (A 27) (x_up (A 29) n.toNat 0) (q 837) (A 27 n.toNat) (A 8 (A 27 n.toNat).toNat))) ++ dy) := by
  refine xMet_of (by decide) (Nat.le_of_ble_eq_true rfl) (fun v h2 hq => by rw [hq.1]; trivial) ?_
  refine x_aload_n (x_d C_B_release 0 rfl) rfl ?_
  refine x_getfield (v := xC 29) (x_d C_B_release 1 rfl) f_B_18 rfl rfl ?_
  refine x_iload_n (x_d C_B_release 2 rfl) rfl ?_
  refine x_iconst (x_d C_B_release 3 rfl) ⟨by omega, by omega⟩ ?_
  refine x_zastore (h1 := hF q r (x_up A 29 (x_up (A 29) (n).toNat 0)) ++ dy) (x_d C_B_release 4 rfl) rfl (by omega) (by omega) (by omega) rfl ?_
  refine x_aload_n (x_d C_B_release 5 rfl) rfl ?_
  refine x_getfield (v := xC 30) (x_d C_B_release 6 rfl) f_B_22 rfl rfl ?_
  refine x_iload_n (x_d C_B_release 7 rfl) rfl ?_
  refine x_iconst (x_d C_B_release 8 rfl) ⟨by omega, by omega⟩ ?_
  refine x_zastore (h1 := hF q r (x_up (x_up A 29 (x_up (A 29) (n).toNat 0)) 30 (x_up (A 30) (n).toNat 1)) ++ dy) (x_d C_B_release 9 rfl) rfl (by omega) (by omega) (by omega) rfl ?_
  refine x_aload_n (x_d C_B_release 10 rfl) rfl ?_
  refine x_getfield (v := xC 28) (x_d C_B_release 11 rfl) f_B_15 rfl rfl ?_
  refine x_iload_n (x_d C_B_release 12 rfl) rfl ?_
  refine x_dup2 (x_d C_B_release 13 rfl) rfl rfl ?_
  refine x_iaload (f := A 28) (x_d C_B_release 14 rfl) rfl (by omega) (by omega) ?_
  refine x_aload_n (x_d C_B_release 15 rfl) rfl ?_
  refine x_getfield (v := xC 28) (x_d C_B_release 16 rfl) f_B_15 rfl rfl ?_
  refine x_iload_n (x_d C_B_release 17 rfl) rfl ?_
  refine x_iaload (f := A 28) (x_d C_B_release 18 rfl) rfl (by omega) (by omega) ?_
  refine x_ldc (n := 65535) (x_d C_B_release 19 rfl) lc_B_73 ⟨by omega, by omega⟩ ?_
  refine x_icmp_ge (tgt := 36) (x_d C_B_release 20 rfl) rfl (fun c1 => ?_) (fun c1 => ?_)
  · refine x_iconst (x_d C_B_release 23 rfl) ⟨by omega, by omega⟩ ?_
    refine x_iadd (x_d C_B_release 24 rfl) ⟨by omega, by omega⟩ ?_
    refine x_iastore (h1 := hF q r (x_up (x_up (x_up A 29 (x_up (A 29) (n).toNat 0)) 30 (x_up (A 30) (n).toNat 1)) 28 (x_up (A 28) (n).toNat ((A 28 (n).toNat) + 0))) ++ dy) (x_d C_B_release 25 rfl) rfl (by omega) (by omega) rfl ?_
    refine x_aload_n (x_d C_B_release 26 rfl) rfl ?_
    refine x_aload_n (x_d C_B_release 27 rfl) rfl ?_
    refine x_getfield (v := xC 27) (x_d C_B_release 28 rfl) f_B_9 rfl rfl ?_
    refine x_iload_n (x_d C_B_release 29 rfl) rfl ?_
    refine x_iaload (f := A 27) (x_d C_B_release 30 rfl) rfl (by omega) (by omega) ?_
    refine x_invokevirtual (st := []) (av := [xI (A 27 (n).toNat)]) (x_d C_B_release 31 rfl) k_B_69 m_B_forget v_B_forget cl_B rfl rfl (Nat.le_of_ble_eq_true rfl) (by omega) rfl (c_B_forget Z (d - 1) q r (x_up (x_up (x_up A 29 (x_up (A 29) (n).toNat 0)) 30 (x_up (A 30) (n).toNat 1)) 28 (x_up (A 28) (n).toNat ((A 28 (n).toNat) + 0))) dy (by omega) (A 27 (n).toNat) hz hrt htr (show 0 ≤ A 27 (n).toNat ∧ A 27 (n).toNat < 12900 ∧ 0 < A 8 (A 27 (n).toNat).toNat ∧ (A 27 (n).toNat) + A 8 (A 27 (n).toNat).toNat ≤ q 133 ∧ q 133 ≤ 12900 from hold)) ?_
    rintro _ _ ⟨rfl, rfl⟩
    refine x_return (x_d C_B_release 32 rfl) ?_
    first
    | (have e : A 28 n.toNat < 65535 := by omega
       exact ⟨rfl, by rw [if_pos e]; rfl⟩)
    | (have e : ¬ A 28 n.toNat < 65535 := by omega
       exact ⟨rfl, by rw [if_neg e]; rfl⟩)
  · refine x_iconst (x_d C_B_release 21 rfl) ⟨by omega, by omega⟩ ?_
    refine x_goto (tgt := 37) (x_d C_B_release 22 rfl) rfl ?_
    refine x_iadd (x_d C_B_release 24 rfl) ⟨by omega, by omega⟩ ?_
    refine x_iastore (h1 := hF q r (x_up (x_up (x_up A 29 (x_up (A 29) (n).toNat 0)) 30 (x_up (A 30) (n).toNat 1)) 28 (x_up (A 28) (n).toNat ((A 28 (n).toNat) + 1))) ++ dy) (x_d C_B_release 25 rfl) rfl (by omega) (by omega) rfl ?_
    refine x_aload_n (x_d C_B_release 26 rfl) rfl ?_
    refine x_aload_n (x_d C_B_release 27 rfl) rfl ?_
    refine x_getfield (v := xC 27) (x_d C_B_release 28 rfl) f_B_9 rfl rfl ?_
    refine x_iload_n (x_d C_B_release 29 rfl) rfl ?_
    refine x_iaload (f := A 27) (x_d C_B_release 30 rfl) rfl (by omega) (by omega) ?_
    refine x_invokevirtual (st := []) (av := [xI (A 27 (n).toNat)]) (x_d C_B_release 31 rfl) k_B_69 m_B_forget v_B_forget cl_B rfl rfl (Nat.le_of_ble_eq_true rfl) (by omega) rfl (c_B_forget Z (d - 1) q r (x_up (x_up (x_up A 29 (x_up (A 29) (n).toNat 0)) 30 (x_up (A 30) (n).toNat 1)) 28 (x_up (A 28) (n).toNat ((A 28 (n).toNat) + 1))) dy (by omega) (A 27 (n).toNat) hz hrt htr (show 0 ≤ A 27 (n).toNat ∧ A 27 (n).toNat < 12900 ∧ 0 < A 8 (A 27 (n).toNat).toNat ∧ (A 27 (n).toNat) + A 8 (A 27 (n).toNat).toNat ≤ q 133 ∧ q 133 ≤ 12900 from hold)) ?_
    rintro _ _ ⟨rfl, rfl⟩
    refine x_return (x_d C_B_release 32 rfl) ?_
    first
    | (have e : A 28 n.toNat < 65535 := by omega
       exact ⟨rfl, by rw [if_pos e]; rfl⟩)
    | (have e : ¬ A 28 n.toNat < 65535 := by omega
       exact ⟨rfl, by rw [if_neg e]; rfl⟩)
