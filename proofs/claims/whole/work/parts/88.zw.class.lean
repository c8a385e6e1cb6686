/-! the class: put -/
/-- what taking a value at p for object n does -/
def tkq (q : Nat → Int) (A : Nat → Nat → Int) (n p w : Int) (q2 : Nat → Int) (A2 : Nat → Nat → Int) : Prop := (¬ (n < q 837 ∧ ¬ A 29 n.toNat = 0) ∧ q2 = x_up q 837 (max (q 837) (n + 1)) ∧ A2 = x_up (x_up (x_up (x_up A 27 (x_up (A 27) n.toNat p)) 29 (x_up (A 29) n.toNat 1)) 30 (x_up (A 30) n.toNat 1)) 31 (x_up (A 31) n.toNat w)) ∨ ((n < q 837 ∧ ¬ A 29 n.toNat = 0) ∧ q2 = x_up (x_up (x_up q 837 (max (q 837) (n + 1))) 133 (q 133 - (A 8 (A 27 n.toNat).toNat))) 840 (q 840 - (if A 27 n.toNat < q 840 then (A 8 (A 27 n.toNat).toNat) else 0)) ∧ A2 = x_up (x_up (x_up (x_up (s_pt A (s_cut A (A 27 n.toNat) (A 8 (A 27 n.toNat).toNat) (q 133))) 29 (x_up (A 29) n.toNat 1)) 30 (x_up (A 30) n.toNat 1)) 31 (x_up (A 31) n.toNat w)) 27 (s_gap (x_up (A 27) n.toNat p) (x_up (A 29) n.toNat 1) (max (q 837) (n + 1)) (A 27 n.toNat) (A 8 (A 27 n.toNat).toNat)))
theorem c_B_take (Z : xZ) (d : Nat) (q : Nat → Int) (r : Nat → Option Nat) (A : Nat → Nat → Int) (dy : xH) (hd : 3 ≤ d) (n p w : Int) (hz : 0 ≤ q 837 ∧ q 837 ≤ 300) (hrt9 : ∀ k, 0 ≤ A 27 k ∧ A 27 k ≤ 12900) (htr : 0 ≤ q 840 ∧ q 840 ≤ 12900) (hn : 0 ≤ n ∧ n ≤ q 837 ∧ n < 300) (hw : w = 0 ∨ w = 1) (hpp : 0 ≤ p ∧ p ≤ 12900) (hold : n < q 837 → ¬ A 29 n.toNat = 0 → 0 ≤ A 27 n.toNat ∧ A 27 n.toNat < 12900 ∧ 0 < A 8 (A 27 n.toNat).toNat ∧ A 27 n.toNat + A 8 (A 27 n.toNat).toNat ≤ q 133 ∧ q 133 ≤ 12900) : xMet Z d Y_B_take [xC 26, xI n, xI p, xI w] (hF q r A ++ dy) (fun v h2 => v = none ∧ ∃ q2 A2, tkq q A n p w q2 A2 ∧ h2 = hF q2 r A2 ++ dy) := by
  by_cases hu : n < q 837 ∧ ¬ A 29 n.toNat = 0
  · refine xMet_post ?_ (c_B_takeO Z d q r A dy hd n p w hz hrt9 htr hn hw hpp hu (hold hu.1 hu.2))
    rintro v h2 ⟨rfl, rfl⟩
    exact ⟨rfl, _, _, Or.inr ⟨hu, rfl, rfl⟩, rfl⟩
  · refine xMet_post ?_ (c_B_takeN Z d q r A dy (by omega) n p w hz hn hw hpp hu)
    rintro v h2 ⟨rfl, rfl⟩
    exact ⟨rfl, _, _, Or.inl ⟨hu, rfl, rfl⟩, rfl⟩
theorem tkq_sz {q : Nat → Int} {A : Nat → Nat → Int} {n p w : Int} {q2 : Nat → Int} {A2 : Nat → Nat → Int} (h : tkq q A n p w q2 A2) : q2 837 = max (q 837) (n + 1) ∧ q2 35 = q 35 ∧ q2 34 = q 34 := by
  rcases h with ⟨_, rfl, _⟩ | ⟨_, rfl, _⟩ <;> exact ⟨rfl, rfl, rfl⟩
theorem c_PF_change (Z : xZ) (d : Nat) (q : Nat → Int) (r : Nat → Option Nat) (A : Nat → Nat → Int) (dy : xH) (hd : 4 ≤ d) (n p w : Int) (hz : 0 ≤ q 837 ∧ q 837 ≤ 300) (hrt9 : ∀ k, 0 ≤ A 27 k ∧ A 27 k ≤ 12900) (htr : 0 ≤ q 840 ∧ q 840 ≤ 12900) (hn : 0 ≤ n ∧ n ≤ q 837 ∧ n < 300) (hw : w = 0 ∨ w = 1) (hpp : 0 ≤ p ∧ p ≤ 12900) (hold : n < q 837 → ¬ A 29 n.toNat = 0 → 0 ≤ A 27 n.toNat ∧ A 27 n.toNat < 12900 ∧ 0 < A 8 (A 27 n.toNat).toNat ∧ A 27 n.toNat + A 8 (A 27 n.toNat).toNat ≤ q 133 ∧ q 133 ≤ 12900) : xMet Z d Y_PF_change [xC 0, xI n, xI p, xI w] (hF q (x_up (x_up (x_up (x_up r 7 (some 26)) 8 (some 32)) 9 (some 38)) 10 (some 40)) A ++ dy) (fun v h2 => ∃ q2 A2, tkq q A n p w q2 A2 ∧ v = some (xI (max (q 837) (n + 1))) ∧ h2 = hF (x_up (x_up q2 34 (q 35)) 11 (-1)) (x_up (x_up (x_up (x_up r 7 (some 26)) 8 (some 32)) 9 (some 38)) 10 (some 40)) A2 ++ dy) := by
  refine xMet_of (by decide) (Nat.le_of_ble_eq_true rfl) (fun v h2 hq => by obtain ⟨_, _, _, e, _⟩ := hq; rw [e]; trivial) ?_
  refine x_aload_n (x_d C_PF_change 0 rfl) rfl ?_
  refine x_getfield (v := xC 26) (x_d C_PF_change 1 rfl) f_PF_69 rfl rfl ?_
  refine x_iload_n (x_d C_PF_change 2 rfl) rfl ?_
  refine x_iload_n (x_d C_PF_change 3 rfl) rfl ?_
  refine x_iload_n (x_d C_PF_change 4 rfl) rfl ?_
  refine x_invokevirtual (st := []) (av := [xI (n), xI (p), xI (w)]) (x_d C_PF_change 5 rfl) k_PF_281 m_B_take v_B_take cl_B rfl rfl (Nat.le_of_ble_eq_true rfl) (by omega) rfl (c_B_take Z (d - 1) q (x_up (x_up (x_up (x_up r 7 (some 26)) 8 (some 32)) 9 (some 38)) 10 (some 40)) A dy (by omega) n p w hz hrt9 htr hn hw hpp hold) ?_
  rintro _ _ ⟨rfl, q2, A2, htk, rfl⟩
  have hts := tkq_sz htk
  refine x_aload_n (x_d C_PF_change 6 rfl) rfl ?_
  refine x_getfield (v := xC 1) (x_d C_PF_change 7 rfl) f_PF_12 rfl rfl ?_
  refine x_invokevirtual (st := []) (av := []) (x_d C_PF_change 8 rfl) k_PF_127 m_T_keepTape v_T_keepTape cl_T rfl rfl (Nat.le_of_ble_eq_true rfl) (by omega) rfl (c_T_keepTape Z (d - 1) q2 (x_up (x_up (x_up (x_up r 7 (some 26)) 8 (some 32)) 9 (some 38)) 10 (some 40)) A2 dy) ?_
  rintro _ _ ⟨rfl, rfl⟩
  refine x_aload_n (x_d C_PF_change 9 rfl) rfl ?_
  refine x_iconst (x_d C_PF_change 10 rfl) ⟨by omega, by omega⟩ ?_
  refine x_putfield (h1 := hF (x_up (x_up q2 34 (q2 35)) 11 (-1)) (x_up (x_up (x_up (x_up r 7 (some 26)) 8 (some 32)) 9 (some 38)) 10 (some 40)) A2 ++ dy) (x_d C_PF_change 11 rfl) p_PF_88 rfl rfl rfl trivial rfl ?_
  refine x_aload_n (x_d C_PF_change 12 rfl) rfl ?_
  refine x_getfield (v := xC 26) (x_d C_PF_change 13 rfl) f_PF_69 rfl rfl ?_
  refine x_getfield (v := xI (q2 837)) (x_d C_PF_change 14 rfl) f_PF_268 rfl rfl ?_
  refine x_ireturn (x_d C_PF_change 15 rfl) ?_
  exact ⟨q2, A2, htk, by rw [← hts.1], by rw [← hts.2.1]⟩
theorem c_PF_put (Z : xZ) (d : Nat) (q : Nat → Int) (r : Nat → Option Nat) (A : Nat → Nat → Int) (dy : xH) (hd : 40 ≤ d) (n : Int) (hT : 0 ≤ q 34 ∧ q 34 ≤ q 35 ∧ q 35 ≤ 10248) (hta : q 35 - q 34 ≤ 4000) (hR : s_okR A) (hB : ∀ j, -128 ≤ A 2 j ∧ A 2 j ≤ 127) (ho : s_ok5 A) (ht0 : 0 ≤ q 133 ∧ q 133 ≤ 4900) (hz : 0 ≤ q 837 ∧ q 837 ≤ 300) (hrt9 : ∀ k, 0 ≤ A 27 k ∧ A 27 k ≤ 12900) (htr : 0 ≤ q 840 ∧ q 840 ≤ 12900) (hus : ∀ k : Nat, (k : Int) < q 837 → ¬ A 29 k = 0 → 0 ≤ A 27 k ∧ 0 < A 8 (A 27 k).toNat ∧ A 27 k + A 8 (A 27 k).toNat ≤ q 133) (hpm : 0 ≤ s_sm (s_pbf (A 29) (A 27) (A 8) n) (q 837).toNat ∧ s_sm (s_pbf (A 29) (A 27) (A 8) n) (q 837).toNat ≤ 900) : xMet Z d Y_PF_put [xC 0, xI n] (hF q (x_up (x_up (x_up (x_up r 7 (some 26)) 8 (some 32)) 9 (some 38)) 10 (some 40)) A ++ dy) (fun v h2 => (∃ a P2, (if ¬ 0 < q 837 then .inl (-2) else if 0 ≤ n ∧ n ≤ q 837 ∧ n < 300 then s_put (A 2) (q 35) (q 34) (s_sm (s_pbf (A 29) (A 27) (A 8) n) (q 837).toNat) else .inl (-1)) = .inl a ∧ v = some (xI a) ∧ s_keep (q 133).toNat A P2 ∧ s_ok5 P2 ∧ h2 = hF (x_up q 35 (q 34)) (x_up (x_up (x_up (x_up r 7 (some 26)) 8 (some 32)) 9 (some 38)) 10 (some 40)) (s_pt A P2) ++ dy) ∨ ∃ ts P2 q2 A2, (if ¬ 0 < q 837 then .inl (-2) else if 0 ≤ n ∧ n ≤ q 837 ∧ n < 300 then s_put (A 2) (q 35) (q 34) (s_sm (s_pbf (A 29) (A 27) (A 8) n) (q 837).toNat) else .inl (-1)) = .inr ts ∧ v = some (xI (max (q 837) (n + 1))) ∧ s_keep (q 133).toNat A P2 ∧ s_ok5 P2 ∧ s_at P2 (q 133).toNat ts ∧ tkq (x_up q 133 (q 133 + ts.length)) (s_pt A P2) n (q 133) 0 q2 A2 ∧ h2 = hF (x_up (x_up q2 34 (q 35)) 11 (-1)) (x_up (x_up (x_up (x_up r 7 (some 26)) 8 (some 32)) 9 (some 38)) 10 (some 40)) A2 ++ dy) := by
  refine xMet_of (by decide) (Nat.le_of_ble_eq_true rfl) (fun v h2 hq => by obtain ⟨_, _, _, e, _⟩ | ⟨_, _, _, _, _, e, _⟩ := hq <;> rw [e] <;> trivial) ?_
  have hw1 := s_sc_ge s_white (A 2) (q 35) (q 34)
  have hw2 := s_sc_le s_white (A 2) (n := q 35) (t := q 34) (by omega)
  have kp : ∀ P2, s_keep (q 133).toNat A P2 → (∀ k : Nat, (k : Int) < q 837 → ¬ A 29 k = 0 → P2 8 (A 27 k).toNat = A 8 (A 27 k).toNat) ∧ s_sm (s_pbf (A 29) (A 27) (P2 8) n) (q 837).toNat = s_sm (s_pbf (A 29) (A 27) (A 8) n) (q 837).toNat := fun P2 hk => by
    have e1 : ∀ k : Nat, (k : Int) < q 837 → ¬ A 29 k = 0 → P2 8 (A 27 k).toNat = A 8 (A 27 k).toNat := fun k k1 k2 => by
      have := hus k k1 k2
      exact s_tok_8 (hk _ (by omega))
    refine ⟨e1, s_sm_cong _ (fun k hk2 => ?_)⟩
    unfold s_pbf
    by_cases z : ¬ A 29 k = 0 ∧ ¬ (k : Int) = n
    · rw [if_pos z, if_pos z, e1 k (by omega) z.1]
    · rw [if_neg z, if_neg z]
  refine x_aload_n (x_d C_PF_put 0 rfl) rfl ?_
  refine x_getfield (v := xC 4) (x_d C_PF_put 1 rfl) f_PF_21 rfl rfl ?_
  refine x_getfield (v := xI (q 133)) (x_d C_PF_put 2 rfl) f_PF_106 rfl rfl ?_
  refine x_istore_n (l1 := [(2, xI (q 133)), (0, xC 0), (1, xI (n))]) (x_d C_PF_put 3 rfl) (by decide) rfl ?_
  refine x_aload_n (x_d C_PF_put 4 rfl) rfl ?_
  refine x_iload_n (x_d C_PF_put 5 rfl) rfl ?_
  refine x_invokevirtual (st := []) (av := [xI (n)]) (x_d C_PF_put 6 rfl) k_PF_211 m_PF_whyNot v_PF_whyNot cl_PF rfl rfl (Nat.le_of_ble_eq_true rfl) (by omega) rfl (c_PF_whyNot Z (d - 1) q r A dy (by omega) n) ?_
  rintro v_ _ ⟨hv_, rfl⟩
  obtain ⟨wn, hwn⟩ : ∃ wn : Int, wn = if ¬ 0 < q 837 then -2 else if 0 ≤ n ∧ n ≤ q 837 ∧ n < 300 then 0 else -1 := ⟨_, rfl⟩
  obtain rfl : v_ = some (xI wn) := by rw [hwn]; exact hv_
  refine x_istore_n (l1 := [(3, xI (wn)), (2, xI (q 133)), (0, xC 0), (1, xI (n))]) (x_d C_PF_put 7 rfl) (by decide) rfl ?_
  refine x_iload_n (x_d C_PF_put 8 rfl) rfl ?_
  refine x_if_ne (tgt := 68) (x_d C_PF_put 9 rfl) rfl (fun c1 => ?_) (fun c1 => ?_)
  · refine x_iload_n (x_d C_PF_put 33 rfl) rfl ?_
    refine x_if_ne (tgt := 99) (x_d C_PF_put 34 rfl) rfl (fun _ => ?_) (fun q => absurd q (by omega))
    refine x_iload_n (x_d C_PF_put 49 rfl) rfl ?_
    refine x_if_ne (tgt := 113) (x_d C_PF_put 50 rfl) rfl (fun _ => ?_) (fun q => absurd q (by omega))
    refine x_aload_n (x_d C_PF_put 57 rfl) rfl ?_
    refine x_iload_n (x_d C_PF_put 58 rfl) rfl ?_
    refine x_iload_n (x_d C_PF_put 59 rfl) rfl ?_
    refine x_invokevirtual (st := []) (av := [xI (q 133), xI (wn)]) (x_d C_PF_put 60 rfl) k_PF_229 m_PF_refuse v_PF_refuse cl_PF rfl rfl (Nat.le_of_ble_eq_true rfl) (by omega) rfl (c_PF_refuse Z (d - 1) q r A dy (by omega) (q 133) (wn)) ?_
    rintro v_ h_ ⟨hv_, hh_⟩
    obtain rfl : v_ = some (xI (wn)) := hv_
    refine x_ireturn (x_d C_PF_put 61 rfl) ?_
    refine Or.inl ⟨_, A, ?_, rfl, fun _ _ => rfl, ho, by rw [hh_]; rfl⟩
    rw [hwn]
    (repeat' split) <;> first | rfl | (exfalso; omega)
  · refine x_aload_n (x_d C_PF_put 10 rfl) rfl ?_
    refine x_getfield (v := xC 1) (x_d C_PF_put 11 rfl) f_PF_12 rfl rfl ?_
    refine x_aload_n (x_d C_PF_put 12 rfl) rfl ?_
    refine x_getfield (v := xC 10) (x_d C_PF_put 13 rfl) f_PF_30 rfl rfl ?_
    refine x_aload_n (x_d C_PF_put 14 rfl) rfl ?_
    refine x_getfield (v := xC 1) (x_d C_PF_put 15 rfl) f_PF_12 rfl rfl ?_
    refine x_aload_n (x_d C_PF_put 16 rfl) rfl ?_
    refine x_getfield (v := xC 1) (x_d C_PF_put 17 rfl) f_PF_12 rfl rfl ?_
    refine x_getfield (v := xI (q 34)) (x_d C_PF_put 18 rfl) f_PF_214 rfl rfl ?_
    refine x_invokevirtual (st := [xC 10, xC 1]) (av := [xI (q 34)]) (x_d C_PF_put 19 rfl) k_PF_215 m_T_afterWhite v_T_afterWhite cl_T rfl rfl (Nat.le_of_ble_eq_true rfl) (by omega) rfl (c_T_afterWhite Z (d - 1) q (x_up (x_up (x_up (x_up r 7 (some 26)) 8 (some 32)) 9 (some 38)) 10 (some 40)) A dy (q 34) hT) ?_
    rintro v_ _ ⟨hv_, rfl⟩
    obtain rfl : v_ = some (xI (s_sc s_white (A 2) (q 35) (q 34))) := hv_
    refine x_iconst (x_d C_PF_put 20 rfl) ⟨by omega, by omega⟩ ?_
    refine x_invokevirtual (st := [xC 1]) (av := [xI ((s_sc s_white (A 2) (q 35) (q 34))), xI (1)]) (x_d C_PF_put 21 rfl) k_PF_218 m_R_read v_R_read cl_R rfl rfl (Nat.le_of_ble_eq_true rfl) (by omega) rfl (c_R_read Z q (x_up (x_up (x_up (x_up r 7 (some 26)) 8 (some 32)) 9 (some 38)) 10 (some 40)) A dy hT hR hB 8 (by omega) (d - 1) (q 133) A (s_sc s_white (A 2) (q 35) (q 34)) 1 (by omega) ho (Or.inr (by omega)) (by omega) (by omega)) ?_
    rintro v_ _ ⟨t2, P2, hv_, rfl, hk1, hk2, hk3, hk4, hk5⟩
    have hkp := kp P2 hk1
    cases hsv : s_val (A 2) (q 35) 8 (s_sc s_white (A 2) (q 35) (q 34)) with
    | none =>
      obtain rfl : v_ = some (xI (-1)) := by rw [hv_, hsv]; rfl
      refine x_invokevirtual (st := []) (av := [xI (-1)]) (x_d C_PF_put 22 rfl) k_PF_215 m_T_afterWhite v_T_afterWhite cl_T rfl rfl (Nat.le_of_ble_eq_true rfl) (by omega) rfl (c_T_afterWhite Z (d - 1) (x_up q 133 t2) (x_up (x_up (x_up (x_up r 7 (some 26)) 8 (some 32)) 9 (some 38)) 10 (some 40)) (s_pt A P2) dy (-1) hT) ?_
      rintro v_ _ ⟨hv_, rfl⟩
      obtain rfl : v_ = some (xI (-1)) := by rw [hv_, s_sc_stop (Or.inl (by omega))]
      refine x_istore (l1 := [(4, xI (-1)), (3, xI (wn)), (2, xI (q 133)), (0, xC 0), (1, xI (n))]) (x_d C_PF_put 23 rfl) (by decide) rfl ?_
      refine x_iload (x_d C_PF_put 24 rfl) rfl ?_
      refine x_aload_n (x_d C_PF_put 25 rfl) rfl ?_
      refine x_getfield (v := xC 1) (x_d C_PF_put 26 rfl) f_PF_12 rfl rfl ?_
      refine x_getfield (v := xI (q 35)) (x_d C_PF_put 27 rfl) f_PF_221 rfl rfl ?_
      refine x_icmp_ne (tgt := 65) (x_d C_PF_put 28 rfl) rfl (fun _ => ?_) (fun q => absurd q (by omega))
      refine x_bipush (x_d C_PF_put 31 rfl) (by omega) ?_
      refine x_istore_n (l1 := [(3, xI (-4)), (4, xI (-1)), (2, xI (q 133)), (0, xC 0), (1, xI (n))]) (x_d C_PF_put 32 rfl) (by decide) rfl ?_
      refine x_iload_n (x_d C_PF_put 33 rfl) rfl ?_
      refine x_if_ne (tgt := 99) (x_d C_PF_put 34 rfl) rfl (fun _ => ?_) (fun q => absurd q (by omega))
      refine x_iload_n (x_d C_PF_put 49 rfl) rfl ?_
      refine x_if_ne (tgt := 113) (x_d C_PF_put 50 rfl) rfl (fun _ => ?_) (fun q => absurd q (by omega))
      refine x_aload_n (x_d C_PF_put 57 rfl) rfl ?_
      refine x_iload_n (x_d C_PF_put 58 rfl) rfl ?_
      refine x_iload_n (x_d C_PF_put 59 rfl) rfl ?_
      refine x_invokevirtual (st := []) (av := [xI (q 133), xI (-4)]) (x_d C_PF_put 60 rfl) k_PF_229 m_PF_refuse v_PF_refuse cl_PF rfl rfl (Nat.le_of_ble_eq_true rfl) (by omega) rfl (c_PF_refuse Z (d - 1) (x_up q 133 t2) r (s_pt A P2) dy (by omega) (q 133) (-4)) ?_
      rintro v_ h_ ⟨hv_, hh_⟩
      obtain rfl : v_ = some (xI (-4)) := hv_
      refine x_ireturn (x_d C_PF_put 61 rfl) ?_
      refine Or.inl ⟨_, P2, ?_, rfl, hk1, hk2, by rw [hh_]; rfl⟩
      rw [if_neg (by omega), if_pos (by omega)]
      unfold s_put
      rw [hsv]
    | some y =>
      obtain ⟨ts, e⟩ := y
      obtain rfl : v_ = some (xI e) := by rw [hv_, hsv]; rfl
      obtain ⟨ht2, hat⟩ := hk5 ts e hsv
      have hvl := s_val_len hB hsv
      have hs1 := s_sc_ge s_white (A 2) (q 35) e
      have hs2 := s_sc_le s_white (A 2) (n := q 35) (t := e) (by omega)
      refine x_invokevirtual (st := []) (av := [xI (e)]) (x_d C_PF_put 22 rfl) k_PF_215 m_T_afterWhite v_T_afterWhite cl_T rfl rfl (Nat.le_of_ble_eq_true rfl) (by omega) rfl (c_T_afterWhite Z (d - 1) (x_up q 133 t2) (x_up (x_up (x_up (x_up r 7 (some 26)) 8 (some 32)) 9 (some 38)) 10 (some 40)) (s_pt A P2) dy e hT) ?_
      rintro v_ _ ⟨hv_, rfl⟩
      obtain ⟨ew, hew⟩ : ∃ ew, ew = s_sc s_white (A 2) (q 35) e := ⟨_, rfl⟩
      rw [← hew] at hs1 hs2
      obtain rfl : v_ = some (xI ew) := by rw [hew]; exact hv_
      refine x_istore (l1 := [(4, xI (ew)), (3, xI (wn)), (2, xI (q 133)), (0, xC 0), (1, xI (n))]) (x_d C_PF_put 23 rfl) (by decide) rfl ?_
      refine x_iload (x_d C_PF_put 24 rfl) rfl ?_
      refine x_aload_n (x_d C_PF_put 25 rfl) rfl ?_
      refine x_getfield (v := xC 1) (x_d C_PF_put 26 rfl) f_PF_12 rfl rfl ?_
      refine x_getfield (v := xI (q 35)) (x_d C_PF_put 27 rfl) f_PF_221 rfl rfl ?_
      refine x_icmp_ne (tgt := 65) (x_d C_PF_put 28 rfl) rfl (fun c7 => ?_) (fun c7 => ?_)
      · refine x_bipush (x_d C_PF_put 31 rfl) (by omega) ?_
        refine x_istore_n (l1 := [(3, xI (-4)), (4, xI (ew)), (2, xI (q 133)), (0, xC 0), (1, xI (n))]) (x_d C_PF_put 32 rfl) (by decide) rfl ?_
        refine x_iload_n (x_d C_PF_put 33 rfl) rfl ?_
        refine x_if_ne (tgt := 99) (x_d C_PF_put 34 rfl) rfl (fun _ => ?_) (fun q => absurd q (by omega))
        refine x_iload_n (x_d C_PF_put 49 rfl) rfl ?_
        refine x_if_ne (tgt := 113) (x_d C_PF_put 50 rfl) rfl (fun _ => ?_) (fun q => absurd q (by omega))
        refine x_aload_n (x_d C_PF_put 57 rfl) rfl ?_
        refine x_iload_n (x_d C_PF_put 58 rfl) rfl ?_
        refine x_iload_n (x_d C_PF_put 59 rfl) rfl ?_
        refine x_invokevirtual (st := []) (av := [xI (q 133), xI (-4)]) (x_d C_PF_put 60 rfl) k_PF_229 m_PF_refuse v_PF_refuse cl_PF rfl rfl (Nat.le_of_ble_eq_true rfl) (by omega) rfl (c_PF_refuse Z (d - 1) (x_up q 133 t2) r (s_pt A P2) dy (by omega) (q 133) (-4)) ?_
        rintro v_ h_ ⟨hv_, hh_⟩
        obtain rfl : v_ = some (xI (-4)) := hv_
        refine x_ireturn (x_d C_PF_put 61 rfl) ?_
        refine Or.inl ⟨_, P2, ?_, rfl, hk1, hk2, by rw [hh_]; rfl⟩
        rw [if_neg (by omega), if_pos (by omega)]
        unfold s_put
        rw [hsv]
        show (if ¬ s_sc s_white (A 2) (q 35) e = q 35 then _ else if 900 < s_sm (s_pbf (A 29) (A 27) (A 8) n) (q 837).toNat + (ts.length : Int) then _ else _) = _
        rw [if_pos (by omega)]
      · refine x_iconst (x_d C_PF_put 29 rfl) ⟨by omega, by omega⟩ ?_
        refine x_goto (tgt := 67) (x_d C_PF_put 30 rfl) rfl ?_
        refine x_istore_n (l1 := [(3, xI (0)), (4, xI (ew)), (2, xI (q 133)), (0, xC 0), (1, xI (n))]) (x_d C_PF_put 32 rfl) (by decide) rfl ?_
        refine x_iload_n (x_d C_PF_put 33 rfl) rfl ?_
        refine x_if_ne (tgt := 99) (x_d C_PF_put 34 rfl) rfl (fun q => absurd q (by omega)) (fun _ => ?_)
        refine x_aload_n (x_d C_PF_put 35 rfl) rfl ?_
        refine x_getfield (v := xC 26) (x_d C_PF_put 36 rfl) f_PF_69 rfl rfl ?_
        refine x_iload_n (x_d C_PF_put 37 rfl) rfl ?_
        refine x_invokevirtual (st := []) (av := [xI (n)]) (x_d C_PF_put 38 rfl) k_PF_222 m_B_partsBut v_B_partsBut cl_B rfl rfl (Nat.le_of_ble_eq_true rfl) (by omega) rfl (c_B_partsBut Z (d - 1) (x_up q 133 t2) (x_up (x_up (x_up (x_up r 7 (some 26)) 8 (some 32)) 9 (some 38)) 10 (some 40)) (s_pt A P2) dy n hz hk2.1 (show ∀ k : Nat, (k : Int) < q 837 → ¬ A 29 k = 0 → 0 ≤ A 27 k ∧ A 27 k < 12900 from fun k k1 k2 => by have := hus k k1 k2; omega)) ?_
        rintro v_ _ ⟨hv_, rfl⟩
        obtain rfl : v_ = some (xI (s_sm (s_pbf (A 29) (A 27) (A 8) n) (q 837).toNat)) := by rw [← hkp.2]; exact hv_
        refine x_aload_n (x_d C_PF_put 39 rfl) rfl ?_
        refine x_getfield (v := xC 4) (x_d C_PF_put 40 rfl) f_PF_21 rfl rfl ?_
        refine x_getfield (v := xI (t2)) (x_d C_PF_put 41 rfl) f_PF_106 rfl rfl ?_
        refine x_iadd (x_d C_PF_put 42 rfl) ⟨by omega, by omega⟩ ?_
        refine x_iload_n (x_d C_PF_put 43 rfl) rfl ?_
        refine x_isub (x_d C_PF_put 44 rfl) ⟨by omega, by omega⟩ ?_
        refine x_sipush (x_d C_PF_put 45 rfl) (by omega) ?_
        refine x_icmp_le (tgt := 99) (x_d C_PF_put 46 rfl) rfl (fun c11 => ?_) (fun c11 => ?_)
        · refine x_iload_n (x_d C_PF_put 49 rfl) rfl ?_
          refine x_if_ne (tgt := 113) (x_d C_PF_put 50 rfl) rfl (fun q => absurd q (by omega)) (fun _ => ?_)
          refine x_aload_n (x_d C_PF_put 51 rfl) rfl ?_
          refine x_iload_n (x_d C_PF_put 52 rfl) rfl ?_
          refine x_iload_n (x_d C_PF_put 53 rfl) rfl ?_
          refine x_iconst (x_d C_PF_put 54 rfl) ⟨by omega, by omega⟩ ?_
          refine x_invokevirtual (st := []) (av := [xI (n), xI (q 133), xI (0)]) (x_d C_PF_put 55 rfl) k_PF_225 m_PF_change v_PF_change cl_PF rfl rfl (Nat.le_of_ble_eq_true rfl) (by omega) rfl (c_PF_change Z (d - 1) (x_up q 133 t2) r (s_pt A P2) dy (by omega) n (q 133) 0 hz hrt9 htr (show 0 ≤ n ∧ n ≤ q 837 ∧ n < 300 by omega) (by omega) (by omega) (show n < q 837 → ¬ A 29 n.toNat = 0 → 0 ≤ A 27 n.toNat ∧ A 27 n.toNat < 12900 ∧ 0 < P2 8 (A 27 n.toNat).toNat ∧ A 27 n.toNat + P2 8 (A 27 n.toNat).toNat ≤ t2 ∧ t2 ≤ 12900 from fun k1 k2 => by have h1 := hus n.toNat (by omega) k2; have h2 := hkp.1 n.toNat (by omega) k2; rw [h2]; omega)) ?_
          rintro v_ _ ⟨q2, A2, htk, hv_, rfl⟩
          obtain rfl : v_ = some (xI (max (q 837) (n + 1))) := hv_
          refine x_goto (tgt := 119) (x_d C_PF_put 56 rfl) rfl ?_
          refine x_ireturn (x_d C_PF_put 61 rfl) ?_
          refine Or.inr ⟨ts, P2, q2, A2, ?_, rfl, hk1, hk2, hat, by rw [← ht2]; exact htk, rfl⟩
          rw [if_neg (by omega), if_pos (by omega)]
          unfold s_put
          rw [hsv]
          show (if ¬ s_sc s_white (A 2) (q 35) e = q 35 then _ else if 900 < s_sm (s_pbf (A 29) (A 27) (A 8) n) (q 837).toNat + (ts.length : Int) then _ else _) = _
          rw [if_neg (by omega), if_neg (by omega)]
        · refine x_bipush (x_d C_PF_put 47 rfl) (by omega) ?_
          refine x_istore_n (l1 := [(3, xI (-3)), (4, xI (ew)), (2, xI (q 133)), (0, xC 0), (1, xI (n))]) (x_d C_PF_put 48 rfl) (by decide) rfl ?_
          refine x_iload_n (x_d C_PF_put 49 rfl) rfl ?_
          refine x_if_ne (tgt := 113) (x_d C_PF_put 50 rfl) rfl (fun _ => ?_) (fun q => absurd q (by omega))
          refine x_aload_n (x_d C_PF_put 57 rfl) rfl ?_
          refine x_iload_n (x_d C_PF_put 58 rfl) rfl ?_
          refine x_iload_n (x_d C_PF_put 59 rfl) rfl ?_
          refine x_invokevirtual (st := []) (av := [xI (q 133), xI (-3)]) (x_d C_PF_put 60 rfl) k_PF_229 m_PF_refuse v_PF_refuse cl_PF rfl rfl (Nat.le_of_ble_eq_true rfl) (by omega) rfl (c_PF_refuse Z (d - 1) (x_up q 133 t2) r (s_pt A P2) dy (by omega) (q 133) (-3)) ?_
          rintro v_ h_ ⟨hv_, hh_⟩
          obtain rfl : v_ = some (xI (-3)) := hv_
          refine x_ireturn (x_d C_PF_put 61 rfl) ?_
          refine Or.inl ⟨_, P2, ?_, rfl, hk1, hk2, by rw [hh_]; rfl⟩
          rw [if_neg (by omega), if_pos (by omega)]
          unfold s_put
          rw [hsv]
          show (if ¬ s_sc s_white (A 2) (q 35) e = q 35 then _ else if 900 < s_sm (s_pbf (A 29) (A 27) (A 8) n) (q 837).toNat + (ts.length : Int) then _ else _) = _
          rw [if_neg (by omega), if_pos (by omega)]
