/-! the class: pour; entries keep their bounds -/
theorem c_PF_pour (Z : xZ) (d : Nat) (q : Nat → Int) (r : Nat → Option Nat) (A : Nat → Nat → Int) (dy : xH) (hd : 40 ≤ d) (n : Int) (hT : 0 ≤ q 34 ∧ q 34 ≤ q 35 ∧ q 35 ≤ 10248) (hta : q 35 - q 34 ≤ 4000) (hR : s_okR A) (hB : ∀ j, -128 ≤ A 2 j ∧ A 2 j ≤ 127) (ho : s_ok5 A) (ht0 : 0 ≤ q 133 ∧ q 133 ≤ 4900) (hz : 0 ≤ q 837 ∧ q 837 ≤ 300) (hrt9 : ∀ k, 0 ≤ A 27 k ∧ A 27 k ≤ 12900) (htr : 0 ≤ q 840 ∧ q 840 ≤ 12900) (hus : ∀ k : Nat, (k : Int) < q 837 → ¬ A 29 k = 0 → 0 ≤ A 27 k ∧ 0 < A 8 (A 27 k).toNat ∧ A 27 k + A 8 (A 27 k).toNat ≤ q 133) (hpm : 0 ≤ s_sm (s_pbf (A 29) (A 27) (A 8) n) (q 837).toNat ∧ s_sm (s_pbf (A 29) (A 27) (A 8) n) (q 837).toNat ≤ 900) (hqm : 0 ≤ s_sm (s_qbf (A 29) (A 31) (A 27) (A 7) n) (q 837).toNat ∧ s_sm (s_qbf (A 29) (A 31) (A 27) (A 7) n) (q 837).toNat ≤ 1200000) (hpd : ∀ k : Nat, (k : Int) < q 837 → ¬ A 29 k = 0 → ¬ A 31 k = 0 → 0 ≤ A 7 (A 27 k).toNat ∧ A 7 (A 27 k).toNat ≤ 4000) : xMet Z d Y_PF_pour [xC 0, xI n] (hF q (x_up (x_up (x_up (x_up r 7 (some 26)) 8 (some 32)) 9 (some 38)) 10 (some 40)) A ++ dy) (fun v h2 => (∃ a P2, ((if ¬ 0 < q 837 then .inl (-2) else if 0 ≤ n ∧ n ≤ q 837 ∧ n < 300 then (if 4000 < s_sm (s_qbf (A 29) (A 31) (A 27) (A 7) n) (q 837).toNat + (q 35 - q 34) ∨ 900 < s_sm (s_pbf (A 29) (A 27) (A 8) n) (q 837).toNat + 2 then .inl (-3) else .inr (s_prd (q 34) (q 35 - q 34))) else .inl (-1)) : Int ⊕ List tk) = .inl a ∧ v = some (xI a) ∧ s_keep (q 133).toNat A P2 ∧ s_ok5 P2 ∧ h2 = hF (x_up q 35 (q 34)) (x_up (x_up (x_up (x_up r 7 (some 26)) 8 (some 32)) 9 (some 38)) 10 (some 40)) (s_pt A P2) ++ dy) ∨ ∃ ts P2 q2 A2, ((if ¬ 0 < q 837 then .inl (-2) else if 0 ≤ n ∧ n ≤ q 837 ∧ n < 300 then (if 4000 < s_sm (s_qbf (A 29) (A 31) (A 27) (A 7) n) (q 837).toNat + (q 35 - q 34) ∨ 900 < s_sm (s_pbf (A 29) (A 27) (A 8) n) (q 837).toNat + 2 then .inl (-3) else .inr (s_prd (q 34) (q 35 - q 34))) else .inl (-1)) : Int ⊕ List tk) = .inr ts ∧ v = some (xI (max (q 837) (n + 1))) ∧ s_keep (q 133).toNat A P2 ∧ s_ok5 P2 ∧ s_at P2 (q 133).toNat ts ∧ tkq (x_up q 133 (q 133 + ts.length)) (s_pt A P2) n (q 133) 1 q2 A2 ∧ h2 = hF (x_up (x_up q2 34 (q 35)) 11 (-1)) (x_up (x_up (x_up (x_up r 7 (some 26)) 8 (some 32)) 9 (some 38)) 10 (some 40)) A2 ++ dy) := by
  refine xMet_of (by decide) (Nat.le_of_ble_eq_true rfl) (fun v h2 hq => by obtain ⟨_, _, _, e, _⟩ | ⟨_, _, _, _, _, e, _⟩ := hq <;> rw [e] <;> trivial) ?_
  have kp : ∀ P2, s_keep (q 133).toNat A P2 → (∀ k : Nat, (k : Int) < q 837 → ¬ A 29 k = 0 → P2 8 (A 27 k).toNat = A 8 (A 27 k).toNat) ∧ s_sm (s_pbf (A 29) (A 27) (P2 8) n) (q 837).toNat = s_sm (s_pbf (A 29) (A 27) (A 8) n) (q 837).toNat := fun P2 hk => by
    have e1 : ∀ k : Nat, (k : Int) < q 837 → ¬ A 29 k = 0 → P2 8 (A 27 k).toNat = A 8 (A 27 k).toNat := fun k k1 k2 => by
      have := hus k k1 k2
      exact s_tok_8 (hk _ (by omega))
    refine ⟨e1, s_sm_cong _ (fun k hk2 => ?_)⟩
    unfold s_pbf
    by_cases z : ¬ A 29 k = 0 ∧ ¬ (k : Int) = n
    · rw [if_pos z, if_pos z, e1 k (by omega) z.1]
    · rw [if_neg z, if_neg z]
  refine x_aload_n (x_d C_PF_pour 0 rfl) rfl ?_
  refine x_getfield (v := xC 4) (x_d C_PF_pour 1 rfl) f_PF_21 rfl rfl ?_
  refine x_getfield (v := xI (q 133)) (x_d C_PF_pour 2 rfl) f_PF_106 rfl rfl ?_
  refine x_istore_n (l1 := [(2, xI (q 133)), (0, xC 0), (1, xI (n))]) (x_d C_PF_pour 3 rfl) (by decide) rfl ?_
  refine x_aload_n (x_d C_PF_pour 4 rfl) rfl ?_
  refine x_getfield (v := xC 1) (x_d C_PF_pour 5 rfl) f_PF_12 rfl rfl ?_
  refine x_invokevirtual (st := []) (av := []) (x_d C_PF_pour 6 rfl) k_PF_92 m_T_tapeSize v_T_tapeSize cl_T rfl rfl (Nat.le_of_ble_eq_true rfl) (by omega) rfl (c_T_tapeSize Z (d - 1) q (x_up (x_up (x_up (x_up r 7 (some 26)) 8 (some 32)) 9 (some 38)) 10 (some 40)) A dy hT) ?_
  rintro v_ _ ⟨hv_, rfl⟩
  obtain rfl : v_ = some (xI (q 35 - q 34)) := hv_
  refine x_istore_n (l1 := [(3, xI (q 35 - q 34)), (2, xI (q 133)), (0, xC 0), (1, xI (n))]) (x_d C_PF_pour 7 rfl) (by decide) rfl ?_
  refine x_aload_n (x_d C_PF_pour 8 rfl) rfl ?_
  refine x_iload_n (x_d C_PF_pour 9 rfl) rfl ?_
  refine x_invokevirtual (st := []) (av := [xI (n)]) (x_d C_PF_pour 10 rfl) k_PF_211 m_PF_whyNot v_PF_whyNot cl_PF rfl rfl (Nat.le_of_ble_eq_true rfl) (by omega) rfl (c_PF_whyNot Z (d - 1) q r A dy (by omega) n) ?_
  rintro v_ _ ⟨hv_, rfl⟩
  obtain ⟨wn, hwn⟩ : ∃ wn : Int, wn = if ¬ 0 < q 837 then -2 else if 0 ≤ n ∧ n ≤ q 837 ∧ n < 300 then 0 else -1 := ⟨_, rfl⟩
  obtain rfl : v_ = some (xI wn) := by rw [hwn]; exact hv_
  refine x_istore (l1 := [(4, xI (wn)), (3, xI (q 35 - q 34)), (2, xI (q 133)), (0, xC 0), (1, xI (n))]) (x_d C_PF_pour 11 rfl) (by decide) rfl ?_
  refine x_iload (x_d C_PF_pour 12 rfl) rfl ?_
  refine x_if_ne (tgt := 90) (x_d C_PF_pour 13 rfl) rfl (fun c1 => ?_) (fun c1 => ?_)
  · refine x_iload (x_d C_PF_pour 44 rfl) rfl ?_
    refine x_if_ne (tgt := 105) (x_d C_PF_pour 45 rfl) rfl (fun _ => ?_) (fun q => absurd q (by omega))
    refine x_aload_n (x_d C_PF_pour 52 rfl) rfl ?_
    refine x_iload_n (x_d C_PF_pour 53 rfl) rfl ?_
    refine x_iload (x_d C_PF_pour 54 rfl) rfl ?_
    refine x_invokevirtual (st := []) (av := [xI (q 133), xI (wn)]) (x_d C_PF_pour 55 rfl) k_PF_229 m_PF_refuse v_PF_refuse cl_PF rfl rfl (Nat.le_of_ble_eq_true rfl) (by omega) rfl (c_PF_refuse Z (d - 1) q r A dy (by omega) (q 133) (wn)) ?_
    rintro v_ h_ ⟨hv_, hh_⟩
    obtain rfl : v_ = some (xI (wn)) := hv_
    refine x_ireturn (x_d C_PF_pour 56 rfl) ?_
    refine Or.inl ⟨_, A, ?_, rfl, fun _ _ => rfl, ho, by rw [hh_]; rfl⟩
    rw [hwn]
    (repeat' split) <;> first | rfl | (exfalso; omega)
  · refine x_aload_n (x_d C_PF_pour 14 rfl) rfl ?_
    refine x_getfield (v := xC 26) (x_d C_PF_pour 15 rfl) f_PF_69 rfl rfl ?_
    refine x_iload_n (x_d C_PF_pour 16 rfl) rfl ?_
    refine x_invokevirtual (st := []) (av := [xI (n)]) (x_d C_PF_pour 17 rfl) k_PF_232 m_B_pouredBut v_B_pouredBut cl_B rfl rfl (Nat.le_of_ble_eq_true rfl) (by omega) rfl (c_B_pouredBut Z (d - 1) q (x_up (x_up (x_up (x_up r 7 (some 26)) 8 (some 32)) 9 (some 38)) 10 (some 40)) A dy n hz (fun k k1 k2 k3 => by have h1 := hus k k1 k2; have h2 := hpd k k1 k2 k3; omega)) ?_
    rintro v_ _ ⟨hv_, rfl⟩
    obtain rfl : v_ = some (xI (s_sm (s_qbf (A 29) (A 31) (A 27) (A 7) n) (q 837).toNat)) := hv_
    refine x_iload_n (x_d C_PF_pour 18 rfl) rfl ?_
    refine x_iadd (x_d C_PF_pour 19 rfl) ⟨by omega, by omega⟩ ?_
    refine x_sipush (x_d C_PF_pour 20 rfl) (by omega) ?_
    refine x_icmp_gt (tgt := 86) (x_d C_PF_pour 21 rfl) rfl (fun c3 => ?_) (fun c3 => ?_)
    · refine x_bipush (x_d C_PF_pour 42 rfl) (by omega) ?_
      refine x_istore (l1 := [(4, xI (-3)), (3, xI (q 35 - q 34)), (2, xI (q 133)), (0, xC 0), (1, xI (n))]) (x_d C_PF_pour 43 rfl) (by decide) rfl ?_
      refine x_iload (x_d C_PF_pour 44 rfl) rfl ?_
      refine x_if_ne (tgt := 105) (x_d C_PF_pour 45 rfl) rfl (fun _ => ?_) (fun q => absurd q (by omega))
      refine x_aload_n (x_d C_PF_pour 52 rfl) rfl ?_
      refine x_iload_n (x_d C_PF_pour 53 rfl) rfl ?_
      refine x_iload (x_d C_PF_pour 54 rfl) rfl ?_
      refine x_invokevirtual (st := []) (av := [xI (q 133), xI (-3)]) (x_d C_PF_pour 55 rfl) k_PF_229 m_PF_refuse v_PF_refuse cl_PF rfl rfl (Nat.le_of_ble_eq_true rfl) (by omega) rfl (c_PF_refuse Z (d - 1) q r A dy (by omega) (q 133) (-3)) ?_
      rintro v_ h_ ⟨hv_, hh_⟩
      obtain rfl : v_ = some (xI (-3)) := hv_
      refine x_ireturn (x_d C_PF_pour 56 rfl) ?_
      refine Or.inl ⟨_, A, ?_, rfl, fun _ _ => rfl, ho, by rw [hh_]; rfl⟩
      rw [if_neg (by omega), if_pos (by omega), if_pos (by omega)]
    · refine x_aload_n (x_d C_PF_pour 22 rfl) rfl ?_
      refine x_getfield (v := xC 4) (x_d C_PF_pour 23 rfl) f_PF_21 rfl rfl ?_
      refine x_aload_n (x_d C_PF_pour 24 rfl) rfl ?_
      refine x_getfield (v := xC 1) (x_d C_PF_pour 25 rfl) f_PF_12 rfl rfl ?_
      refine x_getfield (v := xI (q 34)) (x_d C_PF_pour 26 rfl) f_PF_214 rfl rfl ?_
      refine x_iload_n (x_d C_PF_pour 27 rfl) rfl ?_
      refine x_invokevirtual (st := []) (av := [xI (q 34), xI (q 35 - q 34)]) (x_d C_PF_pour 28 rfl) k_PF_235 m_P_addPoured v_P_addPoured cl_P rfl rfl (Nat.le_of_ble_eq_true rfl) (by omega) rfl (c_P_addPoured Z (d - 1) q (x_up (x_up (x_up (x_up r 7 (some 26)) 8 (some 32)) 9 (some 38)) 10 (some 40)) A dy (q 133) A (by omega) (q 34) (q 35 - q 34) ho (by omega)) ?_
      rintro v_ _ ⟨hv_, t2, P2, rfl, hk1, hk2, hk3, hk4, hk5⟩
      obtain rfl : v_ = some (xI 1) := hv_
      have hkp := kp P2 hk1
      obtain ⟨ht2, hat⟩ := hk5 _ _ rfl
      have ht2 : t2 = q 133 + 2 := ht2
      refine x_if_eq (tgt := 86) (x_d C_PF_pour 29 rfl) rfl (fun q => absurd q (by omega)) (fun _ => ?_)
      refine x_aload_n (x_d C_PF_pour 30 rfl) rfl ?_
      refine x_getfield (v := xC 26) (x_d C_PF_pour 31 rfl) f_PF_69 rfl rfl ?_
      refine x_iload_n (x_d C_PF_pour 32 rfl) rfl ?_
      refine x_invokevirtual (st := []) (av := [xI (n)]) (x_d C_PF_pour 33 rfl) k_PF_222 m_B_partsBut v_B_partsBut cl_B rfl rfl (Nat.le_of_ble_eq_true rfl) (by omega) rfl (c_B_partsBut Z (d - 1) (x_up q 133 t2) (x_up (x_up (x_up (x_up r 7 (some 26)) 8 (some 32)) 9 (some 38)) 10 (some 40)) (s_pt A P2) dy n hz hk2.1 (show ∀ k : Nat, (k : Int) < q 837 → ¬ A 29 k = 0 → 0 ≤ A 27 k ∧ A 27 k < 12900 from fun k k1 k2 => by have := hus k k1 k2; omega)) ?_
      rintro v_ _ ⟨hv_, rfl⟩
      obtain rfl : v_ = some (xI (s_sm (s_pbf (A 29) (A 27) (A 8) n) (q 837).toNat)) := by rw [← hkp.2]; exact hv_
      refine x_aload_n (x_d C_PF_pour 34 rfl) rfl ?_
      refine x_getfield (v := xC 4) (x_d C_PF_pour 35 rfl) f_PF_21 rfl rfl ?_
      refine x_getfield (v := xI (t2)) (x_d C_PF_pour 36 rfl) f_PF_106 rfl rfl ?_
      refine x_iadd (x_d C_PF_pour 37 rfl) ⟨by omega, by omega⟩ ?_
      refine x_iload_n (x_d C_PF_pour 38 rfl) rfl ?_
      refine x_isub (x_d C_PF_pour 39 rfl) ⟨by omega, by omega⟩ ?_
      refine x_sipush (x_d C_PF_pour 40 rfl) (by omega) ?_
      refine x_icmp_le (tgt := 90) (x_d C_PF_pour 41 rfl) rfl (fun c6 => ?_) (fun c6 => ?_)
      · refine x_iload (x_d C_PF_pour 44 rfl) rfl ?_
        refine x_if_ne (tgt := 105) (x_d C_PF_pour 45 rfl) rfl (fun q => absurd q (by omega)) (fun _ => ?_)
        refine x_aload_n (x_d C_PF_pour 46 rfl) rfl ?_
        refine x_iload_n (x_d C_PF_pour 47 rfl) rfl ?_
        refine x_iload_n (x_d C_PF_pour 48 rfl) rfl ?_
        refine x_iconst (x_d C_PF_pour 49 rfl) ⟨by omega, by omega⟩ ?_
        refine x_invokevirtual (st := []) (av := [xI (n), xI (q 133), xI (1)]) (x_d C_PF_pour 50 rfl) k_PF_225 m_PF_change v_PF_change cl_PF rfl rfl (Nat.le_of_ble_eq_true rfl) (by omega) rfl (c_PF_change Z (d - 1) (x_up q 133 t2) r (s_pt A P2) dy (by omega) n (q 133) 1 hz hrt9 htr (show 0 ≤ n ∧ n ≤ q 837 ∧ n < 300 by omega) (by omega) (by omega) (show n < q 837 → ¬ A 29 n.toNat = 0 → 0 ≤ A 27 n.toNat ∧ A 27 n.toNat < 12900 ∧ 0 < P2 8 (A 27 n.toNat).toNat ∧ A 27 n.toNat + P2 8 (A 27 n.toNat).toNat ≤ t2 ∧ t2 ≤ 12900 from fun k1 k2 => by have h1 := hus n.toNat (by omega) k2; have h2 := hkp.1 n.toNat (by omega) k2; rw [h2]; omega)) ?_
        rintro v_ _ ⟨q2, A2, htk, hv_, rfl⟩
        obtain rfl : v_ = some (xI (max (q 837) (n + 1))) := hv_
        refine x_goto (tgt := 112) (x_d C_PF_pour 51 rfl) rfl ?_
        refine x_ireturn (x_d C_PF_pour 56 rfl) ?_
        refine Or.inr ⟨s_prd (q 34) (q 35 - q 34), P2, q2, A2, ?_, rfl, hk1, hk2, hat, by show tkq (x_up q 133 (q 133 + 2)) _ _ _ _ _ _; rw [← ht2]; exact htk, rfl⟩
        rw [if_neg (by omega), if_pos (by omega), if_neg (by omega)]
      · refine x_bipush (x_d C_PF_pour 42 rfl) (by omega) ?_
        refine x_istore (l1 := [(4, xI (-3)), (3, xI (q 35 - q 34)), (2, xI (q 133)), (0, xC 0), (1, xI (n))]) (x_d C_PF_pour 43 rfl) (by decide) rfl ?_
        refine x_iload (x_d C_PF_pour 44 rfl) rfl ?_
        refine x_if_ne (tgt := 105) (x_d C_PF_pour 45 rfl) rfl (fun _ => ?_) (fun q => absurd q (by omega))
        refine x_aload_n (x_d C_PF_pour 52 rfl) rfl ?_
        refine x_iload_n (x_d C_PF_pour 53 rfl) rfl ?_
        refine x_iload (x_d C_PF_pour 54 rfl) rfl ?_
        refine x_invokevirtual (st := []) (av := [xI (q 133), xI (-3)]) (x_d C_PF_pour 55 rfl) k_PF_229 m_PF_refuse v_PF_refuse cl_PF rfl rfl (Nat.le_of_ble_eq_true rfl) (by omega) rfl (c_PF_refuse Z (d - 1) (x_up q 133 t2) r (s_pt A P2) dy (by omega) (q 133) (-3)) ?_
        rintro v_ h_ ⟨hv_, hh_⟩
        obtain rfl : v_ = some (xI (-3)) := hv_
        refine x_ireturn (x_d C_PF_pour 56 rfl) ?_
        refine Or.inl ⟨_, P2, ?_, rfl, hk1, hk2, by rw [hh_]; rfl⟩
        rw [if_neg (by omega), if_pos (by omega), if_pos (by omega)]
/-- generations and places in their bounds -/
def PX (N : Int) (x : ost) : Prop := (∀ k, k < 300 → 0 ≤ x.2.2.1 k ∧ x.2.2.1 k ≤ 99999) ∧ ∀ k, k < 300 → ¬ x.2.2.2.1 k = 0 → 0 ≤ x.2.1 k ∧ x.2.1 k ≤ N
theorem PX_e {b : Nat → Int} {n f t sz i k : Int} {x : ost} (h : PX (n - f) x) (hn : f ≤ n) (he : e_ok b n i) : PX (n - f) (e_st b n f t sz i k x) := by
  have hg := s_dgs_in b n (i + 11) 5 (by omega)
  have hg5 : (10 : Int) ^ (5 : Int).toNat = 100000 := rfl
  have h1 := he.1
  have h2 := he.2.2.1
  unfold e_st
  split
  · refine ⟨fun j hj => ?_, fun j hj => ?_⟩
    · show 0 ≤ x_up x.2.2.1 k.toNat (s_dgs b n (i + 11) 5) j ∧ x_up x.2.2.1 k.toNat (s_dgs b n (i + 11) 5) j ≤ 99999
      by_cases e : j = k.toNat
      · rw [e, x_up_s]; omega
      · rw [x_up_n _ _ e]; exact h.1 j hj
    · show ¬ x_up x.2.2.2.1 k.toNat _ j = 0 → 0 ≤ x_up x.2.1 k.toNat (min (s_dgs b n i 10) (n - f)) j ∧ x_up x.2.1 k.toNat (min (s_dgs b n i 10) (n - f)) j ≤ n - f
      by_cases e : j = k.toNat
      · rw [e, x_up_s, x_up_s]; intro _; omega
      · rw [x_up_n _ _ e, x_up_n _ _ e]; exact h.2 j hj
  · exact h
theorem PX_entry {b : Nat → Int} {n f t sz i k : Int} {x y : ost} (h : PX (n - f) x) (hn : f ≤ n) (he : s_entry b n f t sz i k x = some y) : PX (n - f) y := by
  unfold s_entry at he
  cases hb : e_bad b n i with
  | true => rw [hb] at he; simp at he
  | false =>
    rw [hb] at he
    split at he
    · cases he
    · have := Option.some.inj he
      subst this
      exact PX_e h hn (e_bad_f.mp hb)
theorem PX_entrs {b : Nat → Int} {n f t sz : Int} (hn : f ≤ n) : ∀ {m : Nat} {i k : Int} {x : ost} {y : ost × Int}, PX (n - f) x → s_entrs b n f t sz m i k x = some y → PX (n - f) y.1
  | 0, i, k, x, y, h, e => by cases e; exact h
  | m + 1, i, k, x, y, h, e => by
    have e : (s_entry b n f t sz i k x).bind (s_entrs b n f t sz m (i + 20) (k + 1)) = some y := e
    cases h1 : s_entry b n f t sz i k x with
    | none => rw [h1] at e; cases e
    | some z => rw [h1] at e; exact PX_entrs hn (PX_entry h hn h1) e
theorem PX_sect {b : Nat → Int} {n f t sz i : Int} {x : ost} {y : ost × Int} (hn : f ≤ n) (h : PX (n - f) x) (e : s_sect b n f t sz i x = some y) : PX (n - f) y.1 := by
  unfold s_sect at e
  split at e
  · cases e
  · exact PX_entrs hn h e
theorem PX_secl {b : Nat → Int} {n f t sz : Int} (hn : f ≤ n) : ∀ {m : Nat} {i : Int} {x : ost} {y : ost × Int}, PX (n - f) x → s_secl b n f t sz m i x = some y → PX (n - f) y.1
  | 0, i, x, y, h, e => by cases e; exact h
  | m + 1, i, x, y, h, e => by
    unfold s_secl at e
    split at e
    · cases e; exact h
    · cases h1 : s_sect b n f t sz i x with
      | none => rw [h1] at e; cases e
      | some z => rw [h1] at e; exact PX_secl hn (PX_sect hn h h1) e
theorem PX_tab {b : Nat → Int} {n f t sz nx : Int} {pls : List Int} {x : ost} {y : ost × Int} (hn : f ≤ n) (h : PX (n - f) x) (e : s_tab b n f t sz nx pls x = some y) : PX (n - f) y.1 := by
  unfold s_tab at e
  split at e
  · cases e
  · have hx : PX (n - f) (s_hi x (-1)) := h
    cases h1 : s_sect b n f t sz (s_abyte b n (s_the b n (f + nx) [120, 114, 101, 102]) 10) (s_hi x (-1)) with
    | none => rw [h1] at e; cases e
    | some z =>
      rw [h1] at e
      have h2 := PX_sect hn hx h1
      have e : s_tl b n f t sz 4000 z.2 z.1 = some y := e
      unfold s_tl at e
      cases h3 : s_secl b n f t sz 4000 z.2 z.1 with
      | none => rw [h3] at e; cases e
      | some z2 =>
        rw [h3] at e
        have h4 := PX_secl hn h2 h3
        have e : (if s_the b n z2.2 [116, 114, 97, 105, 108, 101, 114] < 0 then none else some (z2.1, s_the b n z2.2 [116, 114, 97, 105, 108, 101, 114])) = some y := e
        split at e
        · cases e
        · cases e; exact h4
theorem PX_tabs {b : Nat → Int} {n f : Int} (hn : f ≤ n) : ∀ {m : Nat} {k nx : Int} {pls : List Int} {x : ost} {sz : Int} {ts : List tk}, PX (n - f) x → PX (n - f) (s_tabs b n f m k nx pls x sz ts).2.1
  | 0, k, nx, pls, x, sz, ts, h => h
  | m + 1, k, nx, pls, x, sz, ts, h => by
    cases h1 : s_tab b n f k sz nx pls x with
    | none => rw [s_tabs_3 h1]; exact h
    | some y =>
      have h2 := PX_tab hn h h1
      cases h3 : s_trd b n y.2 y.1.2.2.2.2 with
      | none => rw [s_tabs_4 h1 h3]; exact h
      | some z =>
        cases h4 : z.2.2 with
        | none => rw [s_tabs_0 h1 h3 h4]; exact h2
        | some p => rw [s_tabs_s h1 h3 h4]; exact PX_tabs hn h2
theorem s_zr_lt {f : Nat → Int} {t : Int} {k : Nat} (h : (k : Int) < t) : s_zr f t k = 0 := if_pos h
theorem PX_0 (A : Nat → Nat → Int) (hi N : Int) : PX N (s_x0 A hi) := ⟨fun k hk => by
  have e : (s_x0 A hi).2.2.1 k = 0 := by unfold s_x0; dsimp only; rw [s_zr_lt (by omega)]
  rw [e]; omega, fun k hk z => by
  have e : (s_x0 A hi).2.2.2.1 k = 0 := by unfold s_x0; dsimp only; rw [s_zr_lt (by omega)]
  exact absurd e z⟩
theorem PX_ot {b : Nat → Int} {n f : Int} {x : ost} (hn : f ≤ n) (h : PX (n - f) x) : PX (n - f) (s_ot b n f x).2.1 := by
  unfold s_ot
  split
  · exact h
  · split
    · exact h
    · exact PX_tabs hn h
