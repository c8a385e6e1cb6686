/-! the class: save, free -/
theorem c_PF_save (Z : xZ) (d : Nat) (q : Nat → Int) (r : Nat → Option Nat) (A : Nat → Nat → Int) (dy : xH) (hd : 30 ≤ d) (hT : 0 ≤ q 34 ∧ q 34 ≤ q 35 ∧ q 35 ≤ 10248) (hz : 0 ≤ q 837 ∧ q 837 ≤ 300) (hR : s_okR A) (hsp : ∀ j, 0 ≤ A 8 j ∧ A 8 j ≤ 12900) (hpl : ∀ k, 0 ≤ A 17 k ∧ A 17 k ≤ 6000) (hfile : 0 < q 837 → (0 ≤ q 840 ∧ q 840 < 12900 ∧ s_bh (A 8) (q 840) ≤ 12900) ∧ (0 ≤ q 839 ∧ q 839 ≤ 2147483647) ∧ (∀ x, x ∈ s_in (A 8) (q 840) → wv (A 5) (A 6) (A 7) (A 8) (A 9) (A 2) (q 35) 7 x ∧ 0 ≤ A 9 x.toNat ∧ wnm (A 9) (A 2) (q 35) x) ∧ (∀ k, k < 300 → 0 ≤ A 28 k ∧ A 28 k ≤ 99999) ∧ (∀ k : Nat, (k : Int) < q 837 → ¬ A 29 k = 0 → wv (A 5) (A 6) (A 7) (A 8) (A 9) (A 2) (q 35) 8 (A 27 k)) ∧ (0 ≤ q 841 ∧ q 841 ≤ q 842 ∧ q 842 ≤ 10248)) (L : List Int) (hL : L = s_file (s_wv (A 5) (A 6) (A 7) (A 8) (A 9) (A 2) (q 35) 8) (s_wv (A 5) (A 6) (A 7) (A 8) (A 9) (A 2) (q 35) 7) (A 27) (A 28) (A 29) (A 30) (A 8) (A 9) (A 2) (q 35) (q 840) (q 837) (q 839) (s_sl (A 2) (q 841).toNat (q 842 - q 841).toNat)) : xMet Z d Y_PF_save [xC 0] (hF q (x_up (x_up (x_up (x_up r 7 (some 26)) 8 (some 32)) 9 (some 38)) 10 (some 40)) A ++ dy) (fun v h2 => (¬ 0 < q 837 ∧ v = some (xI (-2)) ∧ h2 = hF q (x_up (x_up (x_up (x_up r 7 (some 26)) 8 (some 32)) 9 (some 38)) 10 (some 40)) A ++ dy) ∨ (0 < q 837 ∧ ∃ s2 ov2 f2 pl2, (∀ k, 0 ≤ pl2 k ∧ pl2 k ≤ 6000) ∧ ((6000 < L.length ∧ v = some (xI (-3)) ∧ h2 = hF (x_up (x_up (x_up q 1283 6000) 1281 s2) 1282 ov2) (x_up (x_up (x_up (x_up (x_up (x_up r 515 (some 26)) 516 (some 40)) 7 (some 26)) 8 (some 32)) 9 (some 38)) 10 (some 40)) (x_up (x_up A 17 pl2) 41 f2) ++ dy) ∨ (L.length ≤ 6000 ∧ v = some (xI (L.length : Int)) ∧ s2 = L.length ∧ (∀ k, k < L.length → f2 k = L.getD k 0) ∧ h2 = hF (x_up (x_up (x_up q 1283 6000) 1281 s2) 1282 ov2) (x_up (x_up (x_up (x_up (x_up (x_up r 515 (some 26)) 516 (some 40)) 7 (some 26)) 8 (some 32)) 9 (some 40)) 10 (some 38)) (x_up (x_up A 17 pl2) 41 f2) ++ dy)))) := by
  refine xMet_of (by decide) (Nat.le_of_ble_eq_true rfl) (fun v h2 hq => by obtain ⟨_, e, _⟩ | ⟨_, _, _, _, _, _, ⟨_, e, _⟩ | ⟨_, e, _⟩⟩ := hq <;> rw [e] <;> trivial) ?_
  refine x_aload_n (x_d C_PF_save 0 rfl) rfl ?_
  refine x_getfield (v := xC 26) (x_d C_PF_save 1 rfl) f_PF_69 rfl rfl ?_
  refine x_invokevirtual (st := []) (av := []) (x_d C_PF_save 2 rfl) k_PF_141 m_B_isOpen v_B_isOpen cl_B rfl rfl (Nat.le_of_ble_eq_true rfl) (by omega) rfl (c_B_isOpen Z (d - 1) q (x_up (x_up (x_up (x_up r 7 (some 26)) 8 (some 32)) 9 (some 38)) 10 (some 40)) A dy) ?_
  rintro v_ _ ⟨hv_, rfl⟩
  obtain ⟨z1, rfl, hz1⟩ : ∃ z : Int, v_ = some (xI z) ∧ ((z = 1 ∧ (0 < q 837)) ∨ (z = 0 ∧ ¬ (0 < q 837))) := ⟨_, hv_, by by_cases c_ : (0 < q 837); exact Or.inl ⟨x_bo_t c_, c_⟩; exact Or.inr ⟨x_bo_f c_, c_⟩⟩
  refine x_if_ne (tgt := 13) (x_d C_PF_save 3 rfl) rfl (fun c2 => ?_) (fun c2 => ?_)
  · refine x_aload_n (x_d C_PF_save 6 rfl) rfl ?_
    refine x_getfield (v := xC 40) (x_d C_PF_save 7 rfl) f_PF_85 rfl rfl ?_
    refine x_sipush (x_d C_PF_save 8 rfl) (by omega) ?_
    refine x_invokevirtual (st := []) (av := [xI (6000)]) (x_d C_PF_save 9 rfl) k_PF_166 m_Pa_start v_Pa_start cl_Pa rfl rfl (Nat.le_of_ble_eq_true rfl) (by omega) rfl (c_Pa_start_40 Z (d - 1) q (x_up (x_up (x_up (x_up r 7 (some 26)) 8 (some 32)) 9 (some 38)) 10 (some 40)) A dy (by omega) 6000) ?_
    rintro _ _ ⟨rfl, rfl⟩
    have hpn : pb 6000 0 0 (A 41) [] := ⟨by omega, by omega, Or.inl ⟨by show (0 : Int) ≤ 6000; omega, rfl, rfl, fun k hk => absurd hk (Nat.not_lt_zero _)⟩⟩
    obtain ⟨hf1, hf2, hf3, hf4, hf5, hf6⟩ := hfile (by omega)
    refine x_aload_n (x_d C_PF_save 10 rfl) rfl ?_
    refine x_getfield (v := xC 16) (x_d C_PF_save 11 rfl) f_PF_46 rfl rfl ?_
    refine x_aload_n (x_d C_PF_save 12 rfl) rfl ?_
    refine x_getfield (v := xC 26) (x_d C_PF_save 13 rfl) f_PF_69 rfl rfl ?_
    refine x_aload_n (x_d C_PF_save 14 rfl) rfl ?_
    refine x_getfield (v := xC 40) (x_d C_PF_save 15 rfl) f_PF_85 rfl rfl ?_
    refine x_invokevirtual (st := []) (av := [xC 26, xC 40]) (x_d C_PF_save 16 rfl) k_PF_250 m_Wr_writeFile v_Wr_writeFile cl_Wr rfl rfl (Nat.le_of_ble_eq_true rfl) (by omega) rfl (c_Wr_writeFile Z (d - 1) (x_up q 1283 6000) (x_up (x_up (x_up (x_up r 7 (some 26)) 8 (some 32)) 9 (some 38)) 10 (some 40)) A dy (by omega) 0 0 (A 41) (A 17) L (show (0 : Int) ≤ 6000 ∧ (6000 : Int) ≤ 6000 by omega) hpn hz hT hR hsp hf1 hf2 hf3 hf4 hf5 hf6 hpl hL) ?_
    rintro _ _ ⟨rfl, s2, ov2, f2, pl2, rfl, hp2, hpl2⟩
    have hp2 : pb 6000 s2 ov2 f2 L := hp2
    obtain ⟨hq1, hq2, hq3⟩ := hp2
    refine x_aload_n (x_d C_PF_save 17 rfl) rfl ?_
    refine x_getfield (v := xC 40) (x_d C_PF_save 18 rfl) f_PF_85 rfl rfl ?_
    refine x_getfield (v := xI (ov2)) (x_d C_PF_save 19 rfl) f_PF_254 rfl rfl ?_
    refine x_if_eq (tgt := 51) (x_d C_PF_save 20 rfl) rfl (fun c3 => ?_) (fun c3 => ?_)
    · refine x_aload_n (x_d C_PF_save 23 rfl) rfl ?_
      refine x_getfield (v := xC 40) (x_d C_PF_save 24 rfl) f_PF_85 rfl rfl ?_
      refine x_astore_n (l1 := [(1, xC 40), (0, xC 0)]) (x_d C_PF_save 25 rfl) (by decide) rfl ?_
      refine x_aload_n (x_d C_PF_save 26 rfl) rfl ?_
      refine x_aload_n (x_d C_PF_save 27 rfl) rfl ?_
      refine x_getfield (v := xC 38) (x_d C_PF_save 28 rfl) f_PF_81 rfl rfl ?_
      refine x_putfield (h1 := hF (x_up (x_up (x_up q 1283 6000) 1281 s2) 1282 ov2) (x_up (x_up (x_up (x_up (x_up (x_up r 515 (some 26)) 516 (some 40)) 7 (some 26)) 8 (some 32)) 9 (some 38)) 10 (some 38)) (x_up (x_up A 17 pl2) 41 f2) ++ dy) (x_d C_PF_save 29 rfl) p_PF_85 rfl rfl rfl trivial rfl ?_
      refine x_aload_n (x_d C_PF_save 30 rfl) rfl ?_
      refine x_aload_n (x_d C_PF_save 31 rfl) rfl ?_
      refine x_putfield (h1 := hF (x_up (x_up (x_up q 1283 6000) 1281 s2) 1282 ov2) (x_up (x_up (x_up (x_up (x_up (x_up r 515 (some 26)) 516 (some 40)) 7 (some 26)) 8 (some 32)) 10 (some 38)) 9 (some 40)) (x_up (x_up A 17 pl2) 41 f2) ++ dy) (x_d C_PF_save 32 rfl) p_PF_81 rfl rfl rfl trivial rfl ?_
      refine x_aload_n (x_d C_PF_save 33 rfl) rfl ?_
      refine x_getfield (v := xC 40) (x_d C_PF_save 34 rfl) f_PF_81 rfl rfl ?_
      refine x_getfield (v := xI (s2)) (x_d C_PF_save 35 rfl) f_PF_179 rfl rfl ?_
      refine x_ireturn (x_d C_PF_save 36 rfl) ?_
      rcases hq3 with ⟨k1, k2, k3, k4⟩ | ⟨k1, k2⟩
      · exact Or.inr ⟨by omega, s2, ov2, f2, pl2, hpl2, Or.inr ⟨by omega, by rw [k3], k3, k4, rfl⟩⟩
      · exfalso; omega
    · refine x_bipush (x_d C_PF_save 21 rfl) (by omega) ?_
      refine x_ireturn (x_d C_PF_save 22 rfl) ?_
      refine Or.inr ⟨by omega, s2, ov2, f2, pl2, hpl2, Or.inl ⟨?_, rfl, rfl⟩⟩
      rcases hq3 with ⟨k1, k2, k3, k4⟩ | ⟨k1, k2⟩ <;> omega
  · refine x_bipush (x_d C_PF_save 4 rfl) (by omega) ?_
    refine x_ireturn (x_d C_PF_save 5 rfl) ?_
    exact Or.inl ⟨by omega, rfl, rfl⟩
theorem c_PF_free (Z : xZ) (d : Nat) (q : Nat → Int) (r : Nat → Option Nat) (A : Nat → Nat → Int) (dy : xH) (hd : 5 ≤ d) (n : Int) (hz : 0 ≤ q 837 ∧ q 837 ≤ 300) (hrt9 : ∀ k, 0 ≤ A 27 k ∧ A 27 k ≤ 12900) (htr : 0 ≤ q 840 ∧ q 840 ≤ 12900) (hold : 0 ≤ n → n < q 837 → ¬ A 29 n.toNat = 0 → 0 ≤ A 27 n.toNat ∧ A 27 n.toNat < 12900 ∧ 0 < A 8 (A 27 n.toNat).toNat ∧ A 27 n.toNat + A 8 (A 27 n.toNat).toNat ≤ q 133 ∧ q 133 ≤ 12900) (hg : 0 ≤ n → n < q 837 → 0 ≤ A 28 n.toNat ∧ A 28 n.toNat ≤ 99999) : xMet Z d Y_PF_free [xC 0, xI n] (hF q (x_up (x_up (x_up (x_up r 7 (some 26)) 8 (some 32)) 9 (some 38)) 10 (some 40)) A ++ dy) (fun v h2 => (¬ (0 ≤ n ∧ n < q 837 ∧ ¬ A 29 n.toNat = 0) ∧ v = some (xI (-2)) ∧ h2 = hF q (x_up (x_up (x_up (x_up r 7 (some 26)) 8 (some 32)) 9 (some 38)) 10 (some 40)) A ++ dy) ∨ ((0 ≤ n ∧ n < q 837 ∧ ¬ A 29 n.toNat = 0) ∧ v = some (xI (s_sm (x_up (A 29) n.toNat 0) (q 837).toNat)) ∧ h2 = hF (x_up (x_up (x_up q 133 (q 133 - (A 8 (A 27 n.toNat).toNat))) 840 (q 840 - (if A 27 n.toNat < q 840 then (A 8 (A 27 n.toNat).toNat) else 0))) 11 (-1)) (x_up (x_up (x_up (x_up r 7 (some 26)) 8 (some 32)) 9 (some 38)) 10 (some 40)) (x_up (x_up (x_up (x_up (s_pt A (s_cut A (A 27 n.toNat) (A 8 (A 27 n.toNat).toNat) (q 133))) 29 (x_up (A 29) n.toNat 0)) 30 (x_up (A 30) n.toNat 1)) 28 (x_up (A 28) n.toNat (A 28 n.toNat + (if A 28 n.toNat < 65535 then 1 else 0)))) 27 (s_gap (A 27) (x_up (A 29) n.toNat 0) (q 837) (A 27 n.toNat) (A 8 (A 27 n.toNat).toNat))) ++ dy)) := by
  refine xMet_of (by decide) (Nat.le_of_ble_eq_true rfl) (fun v h2 hq => by obtain ⟨_, e, _⟩ | ⟨_, e, _⟩ := hq <;> rw [e] <;> trivial) ?_
  refine x_aload_n (x_d C_PF_free 0 rfl) rfl ?_
  refine x_getfield (v := xC 26) (x_d C_PF_free 1 rfl) f_PF_69 rfl rfl ?_
  refine x_iload_n (x_d C_PF_free 2 rfl) rfl ?_
  refine x_invokevirtual (st := []) (av := [xI (n)]) (x_d C_PF_free 3 rfl) k_PF_130 m_B_isUsed v_B_isUsed cl_B rfl rfl (Nat.le_of_ble_eq_true rfl) (by omega) rfl (c_B_isUsed_26 Z (d - 1) q (x_up (x_up (x_up (x_up r 7 (some 26)) 8 (some 32)) 9 (some 38)) 10 (some 40)) A dy n hz) ?_
  rintro v_ _ ⟨hv_, rfl⟩
  obtain ⟨z1, rfl, hz1⟩ : ∃ z : Int, v_ = some (xI z) ∧ ((z = 1 ∧ (0 ≤ n ∧ n < q 837 ∧ ¬ A 29 (n).toNat = 0)) ∨ (z = 0 ∧ ¬ (0 ≤ n ∧ n < q 837 ∧ ¬ A 29 (n).toNat = 0))) := ⟨_, hv_, by by_cases c_ : (0 ≤ n ∧ n < q 837 ∧ ¬ A 29 (n).toNat = 0); exact Or.inl ⟨x_bo_t c_, c_⟩; exact Or.inr ⟨x_bo_f c_, c_⟩⟩
  refine x_if_ne (tgt := 14) (x_d C_PF_free 4 rfl) rfl (fun c2 => ?_) (fun c2 => ?_)
  · refine x_aload_n (x_d C_PF_free 7 rfl) rfl ?_
    refine x_getfield (v := xC 26) (x_d C_PF_free 8 rfl) f_PF_69 rfl rfl ?_
    refine x_iload_n (x_d C_PF_free 9 rfl) rfl ?_
    refine x_invokevirtual (st := []) (av := [xI (n)]) (x_d C_PF_free 10 rfl) k_PF_239 m_B_release v_B_release cl_B rfl rfl (Nat.le_of_ble_eq_true rfl) (by omega) rfl (c_B_release Z (d - 1) q (x_up (x_up (x_up (x_up r 7 (some 26)) 8 (some 32)) 9 (some 38)) 10 (some 40)) A dy (by omega) n hz hrt9 htr (by omega) (hg (by omega) (by omega)) (hold (by omega) (by omega) (by omega))) ?_
    rintro _ _ ⟨rfl, rfl⟩
    refine x_aload_n (x_d C_PF_free 11 rfl) rfl ?_
    refine x_iconst (x_d C_PF_free 12 rfl) ⟨by omega, by omega⟩ ?_
    refine x_putfield (h1 := hF (x_up (x_up (x_up q 133 (q 133 - (A 8 (A 27 n.toNat).toNat))) 840 (q 840 - (if A 27 n.toNat < q 840 then (A 8 (A 27 n.toNat).toNat) else 0))) 11 (-1)) (x_up (x_up (x_up (x_up r 7 (some 26)) 8 (some 32)) 9 (some 38)) 10 (some 40)) (x_up (x_up (x_up (x_up (s_pt A (s_cut A (A 27 n.toNat) (A 8 (A 27 n.toNat).toNat) (q 133))) 29 (x_up (A 29) n.toNat 0)) 30 (x_up (A 30) n.toNat 1)) 28 (x_up (A 28) n.toNat (A 28 n.toNat + (if A 28 n.toNat < 65535 then 1 else 0)))) 27 (s_gap (A 27) (x_up (A 29) n.toNat 0) (q 837) (A 27 n.toNat) (A 8 (A 27 n.toNat).toNat))) ++ dy) (x_d C_PF_free 13 rfl) p_PF_88 rfl rfl rfl trivial rfl ?_
    refine x_aload_n (x_d C_PF_free 14 rfl) rfl ?_
    refine x_getfield (v := xC 26) (x_d C_PF_free 15 rfl) f_PF_69 rfl rfl ?_
    refine x_aload_n (x_d C_PF_free 16 rfl) rfl ?_
    refine x_getfield (v := xC 26) (x_d C_PF_free 17 rfl) f_PF_69 rfl rfl ?_
    refine x_getfield (v := xC 29) (x_d C_PF_free 18 rfl) f_PF_242 rfl rfl ?_
    refine x_invokevirtual (st := []) (av := [xC 29]) (x_d C_PF_free 19 rfl) k_PF_246 m_B_marked v_B_marked cl_B rfl rfl (Nat.le_of_ble_eq_true rfl) (by omega) rfl (c_B_marked_29 Z (d - 1) (x_up (x_up (x_up q 133 (q 133 - (A 8 (A 27 n.toNat).toNat))) 840 (q 840 - (if A 27 n.toNat < q 840 then (A 8 (A 27 n.toNat).toNat) else 0))) 11 (-1)) (x_up (x_up (x_up (x_up r 7 (some 26)) 8 (some 32)) 9 (some 38)) 10 (some 40)) (x_up (x_up (x_up (x_up (s_pt A (s_cut A (A 27 n.toNat) (A 8 (A 27 n.toNat).toNat) (q 133))) 29 (x_up (A 29) n.toNat 0)) 30 (x_up (A 30) n.toNat 1)) 28 (x_up (A 28) n.toNat (A 28 n.toNat + (if A 28 n.toNat < 65535 then 1 else 0)))) 27 (s_gap (A 27) (x_up (A 29) n.toNat 0) (q 837) (A 27 n.toNat) (A 8 (A 27 n.toNat).toNat))) dy hz) ?_
    rintro v_ _ ⟨hv_, rfl⟩
    obtain rfl : v_ = some (xI (s_sm (x_up (A 29) n.toNat 0) (q 837).toNat)) := hv_
    refine x_ireturn (x_d C_PF_free 20 rfl) ?_
    exact Or.inr ⟨by omega, rfl, rfl⟩
  · refine x_bipush (x_d C_PF_free 5 rfl) (by omega) ?_
    refine x_ireturn (x_d C_PF_free 6 rfl) ?_
    exact Or.inl ⟨by omega, rfl, rfl⟩
theorem c_PF_whyNot (Z : xZ) (d : Nat) (q : Nat → Int) (r : Nat → Option Nat) (A : Nat → Nat → Int) (dy : xH) (hd : 1 ≤ d) (n : Int) : xMet Z d Y_PF_whyNot [xC 0, xI n] (hF q (x_up (x_up (x_up (x_up r 7 (some 26)) 8 (some 32)) 9 (some 38)) 10 (some 40)) A ++ dy) (fun v h2 => v = some (xI (if ¬ 0 < q 837 then -2 else if 0 ≤ n ∧ n ≤ q 837 ∧ n < 300 then 0 else -1)) ∧ h2 = hF q (x_up (x_up (x_up (x_up r 7 (some 26)) 8 (some 32)) 9 (some 38)) 10 (some 40)) A ++ dy) := by
  refine xMet_of (by decide) (Nat.le_of_ble_eq_true rfl) (fun v h2 hq => by rw [hq.1]; trivial) ?_
  refine x_aload_n (x_d C_PF_whyNot 0 rfl) rfl ?_
  refine x_getfield (v := xC 26) (x_d C_PF_whyNot 1 rfl) f_PF_69 rfl rfl ?_
  refine x_invokevirtual (st := []) (av := []) (x_d C_PF_whyNot 2 rfl) k_PF_141 m_B_isOpen v_B_isOpen cl_B rfl rfl (Nat.le_of_ble_eq_true rfl) (by omega) rfl (c_B_isOpen Z (d - 1) q (x_up (x_up (x_up (x_up r 7 (some 26)) 8 (some 32)) 9 (some 38)) 10 (some 40)) A dy) ?_
  rintro v_ _ ⟨hv_, rfl⟩
  obtain ⟨z1, rfl, hz1⟩ : ∃ z : Int, v_ = some (xI z) ∧ ((z = 1 ∧ (0 < q 837)) ∨ (z = 0 ∧ ¬ (0 < q 837))) := ⟨_, hv_, by by_cases c_ : (0 < q 837); exact Or.inl ⟨x_bo_t c_, c_⟩; exact Or.inr ⟨x_bo_f c_, c_⟩⟩
  refine x_if_ne (tgt := 13) (x_d C_PF_whyNot 3 rfl) rfl (fun c2 => ?_) (fun c2 => ?_)
  · refine x_iload_n (x_d C_PF_whyNot 6 rfl) rfl ?_
    refine x_if_lt (tgt := 35) (x_d C_PF_whyNot 7 rfl) rfl (fun c3 => ?_) (fun c3 => ?_)
    · refine x_iconst (x_d C_PF_whyNot 16 rfl) ⟨by omega, by omega⟩ ?_
      refine x_goto (tgt := 40) (x_d C_PF_whyNot 17 rfl) rfl ?_
      refine x_ireturn (x_d C_PF_whyNot 19 rfl) ?_
      rw [if_neg (by omega), if_neg (by omega)]
      exact ⟨rfl, rfl⟩
    · refine x_iload_n (x_d C_PF_whyNot 8 rfl) rfl ?_
      refine x_aload_n (x_d C_PF_whyNot 9 rfl) rfl ?_
      refine x_getfield (v := xC 26) (x_d C_PF_whyNot 10 rfl) f_PF_69 rfl rfl ?_
      refine x_getfield (v := xI (q 837)) (x_d C_PF_whyNot 11 rfl) f_PF_268 rfl rfl ?_
      refine x_icmp_gt (tgt := 35) (x_d C_PF_whyNot 12 rfl) rfl (fun c4 => ?_) (fun c4 => ?_)
      · refine x_iconst (x_d C_PF_whyNot 16 rfl) ⟨by omega, by omega⟩ ?_
        refine x_goto (tgt := 40) (x_d C_PF_whyNot 17 rfl) rfl ?_
        refine x_ireturn (x_d C_PF_whyNot 19 rfl) ?_
        rw [if_neg (by omega), if_neg (by omega)]
        exact ⟨rfl, rfl⟩
      · refine x_iload_n (x_d C_PF_whyNot 13 rfl) rfl ?_
        refine x_sipush (x_d C_PF_whyNot 14 rfl) (by omega) ?_
        refine x_icmp_lt (tgt := 39) (x_d C_PF_whyNot 15 rfl) rfl (fun c5 => ?_) (fun c5 => ?_)
        · refine x_iconst (x_d C_PF_whyNot 18 rfl) ⟨by omega, by omega⟩ ?_
          refine x_ireturn (x_d C_PF_whyNot 19 rfl) ?_
          rw [if_neg (by omega), if_pos (by omega)]
          exact ⟨rfl, rfl⟩
        · refine x_iconst (x_d C_PF_whyNot 16 rfl) ⟨by omega, by omega⟩ ?_
          refine x_goto (tgt := 40) (x_d C_PF_whyNot 17 rfl) rfl ?_
          refine x_ireturn (x_d C_PF_whyNot 19 rfl) ?_
          rw [if_neg (by omega), if_neg (by omega)]
          exact ⟨rfl, rfl⟩
  · refine x_bipush (x_d C_PF_whyNot 4 rfl) (by omega) ?_
    refine x_ireturn (x_d C_PF_whyNot 5 rfl) ?_
    rw [if_pos (by omega)]
    exact ⟨rfl, rfl⟩
theorem c_PF_refuse (Z : xZ) (d : Nat) (q : Nat → Int) (r : Nat → Option Nat) (A : Nat → Nat → Int) (dy : xH) (hd : 1 ≤ d) (t a : Int) : xMet Z d Y_PF_refuse [xC 0, xI t, xI a] (hF q (x_up (x_up (x_up (x_up r 7 (some 26)) 8 (some 32)) 9 (some 38)) 10 (some 40)) A ++ dy) (fun v h2 => v = some (xI a) ∧ h2 = hF (x_up (x_up q 133 t) 35 (q 34)) (x_up (x_up (x_up (x_up r 7 (some 26)) 8 (some 32)) 9 (some 38)) 10 (some 40)) A ++ dy) := by
  refine xMet_of (by decide) (Nat.le_of_ble_eq_true rfl) (fun v h2 hq => by rw [hq.1]; trivial) ?_
  refine x_aload_n (x_d C_PF_refuse 0 rfl) rfl ?_
  refine x_getfield (v := xC 4) (x_d C_PF_refuse 1 rfl) f_PF_21 rfl rfl ?_
  refine x_iload_n (x_d C_PF_refuse 2 rfl) rfl ?_
  refine x_putfield (h1 := hF (x_up q 133 t) (x_up (x_up (x_up (x_up r 7 (some 26)) 8 (some 32)) 9 (some 38)) 10 (some 40)) A ++ dy) (x_d C_PF_refuse 3 rfl) p_PF_106 rfl rfl rfl trivial rfl ?_
  refine x_aload_n (x_d C_PF_refuse 4 rfl) rfl ?_
  refine x_getfield (v := xC 1) (x_d C_PF_refuse 5 rfl) f_PF_12 rfl rfl ?_
  refine x_invokevirtual (st := []) (av := []) (x_d C_PF_refuse 6 rfl) k_PF_117 m_T_dropTape v_T_dropTape cl_T rfl rfl (Nat.le_of_ble_eq_true rfl) (by omega) rfl (c_T_dropTape Z (d - 1) (x_up q 133 t) (x_up (x_up (x_up (x_up r 7 (some 26)) 8 (some 32)) 9 (some 38)) 10 (some 40)) A dy) ?_
  rintro _ _ ⟨rfl, rfl⟩
  refine x_iload_n (x_d C_PF_refuse 7 rfl) rfl ?_
  refine x_ireturn (x_d C_PF_refuse 8 rfl) ?_
  exact ⟨rfl, rfl⟩
