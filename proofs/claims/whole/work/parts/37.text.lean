/-! words compared; bytes added; parts added -/
theorem s_eqr_step (b : Nat → Int) {k i j : Nat} (h : 0 < k) : s_eqr b k i j = (decide (b i = b j) && s_eqr b (k - 1) (i + 1) (j + 1)) := by
  obtain ⟨m, rfl⟩ : ∃ m, k = m + 1 := ⟨k - 1, by omega⟩
  rfl
theorem w_T_sameWord_36 (Z : xZ) (d : Nat) (q : Nat → Int) (r : Nat → Option Nat) (A : Nat → Nat → Int) (dy : xH) (p u n : Int) (hT : 0 ≤ q 34 ∧ q 34 ≤ q 35 ∧ q 35 ≤ 10248) (hb : 0 ≤ p ∧ 0 ≤ u ∧ 0 ≤ n ∧ p + n ≤ q 35 ∧ u + n ≤ q 35) : ∀ (k : Nat) (t : Int), (n - t).toNat = k → (0 ≤ t ∧ t ≤ n) → s_eqr (A 2) n.toNat p.toNat u.toNat = s_eqr (A 2) (n - t).toNat (p.toNat + t.toNat) (u.toNat + t.toNat) → xW Z d Y_T_sameWord 36 [(0, xC 1), (1, xI p), (2, xI u), (3, xI n), (4, xI t)] [] (hF q r A ++ dy) (fun v h2 => v = some (xI (x_bo (s_eqr (A 2) n.toNat p.toNat u.toNat))) ∧ h2 = hF q r A ++ dy) := by
  intro k
  induction k using Nat.strongRecOn with
  | ind k ih =>
  intro t hk ht he
  refine x_iload (x_d C_T_sameWord 23 rfl) rfl ?_
  refine x_iload_n (x_d C_T_sameWord 24 rfl) rfl ?_
  refine x_icmp_ge (tgt := 71) (x_d C_T_sameWord 25 rfl) rfl (fun c1 => ?_) (fun c1 => ?_)
  · refine x_iconst (x_d C_T_sameWord 43 rfl) ⟨by omega, by omega⟩ ?_
    refine x_ireturn (x_d C_T_sameWord 44 rfl) ?_
    refine ⟨congrArg (fun z => some (xI z)) ?_, rfl⟩
    rw [he, show (n - t).toNat = 0 by omega]
    rfl
  · refine x_aload_n (x_d C_T_sameWord 26 rfl) rfl ?_
    refine x_getfield (v := xC 2) (x_d C_T_sameWord 27 rfl) f_T_9 rfl rfl ?_
    refine x_iload_n (x_d C_T_sameWord 28 rfl) rfl ?_
    refine x_iload (x_d C_T_sameWord 29 rfl) rfl ?_
    refine x_iadd (x_d C_T_sameWord 30 rfl) ⟨by omega, by omega⟩ ?_
    refine x_baload (f := A 2) (x_d C_T_sameWord 31 rfl) rfl (by omega) (by omega) ?_
    refine x_aload_n (x_d C_T_sameWord 32 rfl) rfl ?_
    refine x_getfield (v := xC 2) (x_d C_T_sameWord 33 rfl) f_T_9 rfl rfl ?_
    refine x_iload_n (x_d C_T_sameWord 34 rfl) rfl ?_
    refine x_iload (x_d C_T_sameWord 35 rfl) rfl ?_
    refine x_iadd (x_d C_T_sameWord 36 rfl) ⟨by omega, by omega⟩ ?_
    refine x_baload (f := A 2) (x_d C_T_sameWord 37 rfl) rfl (by omega) (by omega) ?_
    refine x_icmp_eq (tgt := 65) (x_d C_T_sameWord 38 rfl) rfl (fun c2 => ?_) (fun c2 => ?_)
    · refine x_iinc (l1 := [(4, xI (t + 1)), (0, xC 1), (1, xI (p)), (2, xI (u)), (3, xI (n))]) (x_d C_T_sameWord 41 rfl) rfl ⟨by omega, by omega⟩ (by decide) rfl ?_
      refine x_goto (tgt := 36) (x_d C_T_sameWord 42 rfl) rfl ?_
      refine x_locs [1, 2, 3, 4, 0] rfl ?_
      refine ih _ (by omega) _ rfl (by omega) ?_
      rw [he, s_eqr_step (A 2) (by omega), decide_eq_true (show A 2 (p.toNat + t.toNat) = A 2 (u.toNat + t.toNat) by rw [show p.toNat + t.toNat = (p + t).toNat by omega, show u.toNat + t.toNat = (u + t).toNat by omega]; assumption), Bool.true_and, show (t + 1).toNat = t.toNat + 1 by omega, show (n - t).toNat - 1 = (n - (t + 1)).toNat by omega, Nat.add_assoc, Nat.add_assoc]
    · refine x_iconst (x_d C_T_sameWord 39 rfl) ⟨by omega, by omega⟩ ?_
      refine x_ireturn (x_d C_T_sameWord 40 rfl) ?_
      refine ⟨congrArg (fun z => some (xI z)) ?_, rfl⟩
      rw [he, s_eqr_step (A 2) (by omega), decide_eq_false (show ¬ A 2 (p.toNat + t.toNat) = A 2 (u.toNat + t.toNat) by rw [show p.toNat + t.toNat = (p + t).toNat by omega, show u.toNat + t.toNat = (u + t).toNat by omega]; assumption)]
      rfl
theorem c_T_sameWord (Z : xZ) (d : Nat) (q : Nat → Int) (r : Nat → Option Nat) (A : Nat → Nat → Int) (dy : xH) (hd : 1 ≤ d) (p u : Int) (hT : 0 ≤ q 34 ∧ q 34 ≤ q 35 ∧ q 35 ≤ 10248) (hR : s_okR A) (hp : -10 ≤ p ∧ p ≤ 20000 ∧ -10 ≤ u ∧ u ≤ 20000) : xMet Z d Y_T_sameWord [xC 1, xI p, xI u] (hF q r A ++ dy) (fun v h2 => v = some (xI (x_bo (s_same (A 2) (q 35) p u))) ∧ h2 = hF q r A ++ dy) := by
  refine xMet_of (by decide) (Nat.le_of_ble_eq_true rfl) (fun v h2 hq => by rw [hq.1]; exact x_fitZ _) ?_
  have hw := s_wd_in (A 2) (q 35) p
  have hw2 := s_wd_in (A 2) (q 35) u
  refine x_aload_n (x_d C_T_sameWord 0 rfl) rfl ?_
  refine x_iload_n (x_d C_T_sameWord 1 rfl) rfl ?_
  refine x_invokevirtual (st := []) (av := [xI (p)]) (x_d C_T_sameWord 2 rfl) k_T_51 m_T_afterWord v_T_afterWord cl_T rfl rfl (Nat.le_of_ble_eq_true rfl) (by omega) rfl (c_T_afterWord Z (d - 1) q r A dy p hT hR) ?_
  rintro _ _ ⟨rfl, rfl⟩
  refine x_iload_n (x_d C_T_sameWord 3 rfl) rfl ?_
  refine x_isub (x_d C_T_sameWord 4 rfl) ⟨by omega, by omega⟩ ?_
  refine x_istore_n (l1 := [(3, xI ((s_wd (A 2) (q 35) p) - p)), (0, xC 1), (1, xI (p)), (2, xI (u))]) (x_d C_T_sameWord 5 rfl) (by decide) rfl ?_
  refine x_iload_n (x_d C_T_sameWord 6 rfl) rfl ?_
  refine x_if_lt (tgt := 31) (x_d C_T_sameWord 7 rfl) rfl (fun c1 => ?_) (fun c1 => ?_)
  · refine x_iconst (x_d C_T_sameWord 19 rfl) ⟨by omega, by omega⟩ ?_
    refine x_ireturn (x_d C_T_sameWord 20 rfl) ?_
    refine ⟨congrArg (fun z => some (xI z)) ?_, rfl⟩
    unfold s_same
    rw [decide_eq_false (by omega)]
    rfl
  · refine x_iload_n (x_d C_T_sameWord 8 rfl) rfl ?_
    refine x_if_lt (tgt := 31) (x_d C_T_sameWord 9 rfl) rfl (fun c2 => ?_) (fun c2 => ?_)
    · refine x_iconst (x_d C_T_sameWord 19 rfl) ⟨by omega, by omega⟩ ?_
      refine x_ireturn (x_d C_T_sameWord 20 rfl) ?_
      refine ⟨congrArg (fun z => some (xI z)) ?_, rfl⟩
      unfold s_same
      rw [decide_eq_false (by omega)]
      rfl
    · refine x_iload_n (x_d C_T_sameWord 10 rfl) rfl ?_
      refine x_if_lt (tgt := 31) (x_d C_T_sameWord 11 rfl) rfl (fun c3 => ?_) (fun c3 => ?_)
      · refine x_iconst (x_d C_T_sameWord 19 rfl) ⟨by omega, by omega⟩ ?_
        refine x_ireturn (x_d C_T_sameWord 20 rfl) ?_
        refine ⟨congrArg (fun z => some (xI z)) ?_, rfl⟩
        unfold s_same
        rw [decide_eq_false (by omega)]
        rfl
      · refine x_iload_n (x_d C_T_sameWord 12 rfl) rfl ?_
        refine x_aload_n (x_d C_T_sameWord 13 rfl) rfl ?_
        refine x_iload_n (x_d C_T_sameWord 14 rfl) rfl ?_
        refine x_invokevirtual (st := [xI ((s_wd (A 2) (q 35) p) - p)]) (av := [xI (u)]) (x_d C_T_sameWord 15 rfl) k_T_51 m_T_afterWord v_T_afterWord cl_T rfl rfl (Nat.le_of_ble_eq_true rfl) (by omega) rfl (c_T_afterWord Z (d - 1) q r A dy u hT hR) ?_
        rintro _ _ ⟨rfl, rfl⟩
        refine x_iload_n (x_d C_T_sameWord 16 rfl) rfl ?_
        refine x_isub (x_d C_T_sameWord 17 rfl) ⟨by omega, by omega⟩ ?_
        refine x_icmp_eq (tgt := 33) (x_d C_T_sameWord 18 rfl) rfl (fun c4 => ?_) (fun c4 => ?_)
        · refine x_iconst (x_d C_T_sameWord 21 rfl) ⟨by omega, by omega⟩ ?_
          refine x_istore (l1 := [(4, xI (0)), (3, xI ((s_wd (A 2) (q 35) p) - p)), (0, xC 1), (1, xI (p)), (2, xI (u))]) (x_d C_T_sameWord 22 rfl) (by decide) rfl ?_
          refine x_locs [2, 3, 4, 1, 0] rfl ?_
          refine xW_post ?_ (w_T_sameWord_36 Z d q r A dy p u _ hT (by omega) _ _ rfl (by omega) (by rw [Int.sub_zero]; rfl))
          rintro v h2 ⟨hv, hh⟩
          refine ⟨?_, hh⟩
          rw [hv]
          unfold s_same
          rw [decide_eq_true (by omega), Bool.true_and]
        · refine x_iconst (x_d C_T_sameWord 19 rfl) ⟨by omega, by omega⟩ ?_
          refine x_ireturn (x_d C_T_sameWord 20 rfl) ?_
          refine ⟨congrArg (fun z => some (xI z)) ?_, rfl⟩
          unfold s_same
          rw [decide_eq_false (by omega)]
          rfl
def s_tiw (b : Nat → Int) (f n p : Int) : Bool := decide (0 < n - f ∧ s_wd b n f = n) && s_same b n p f
theorem c_T_tapeIsWord (Z : xZ) (d : Nat) (q : Nat → Int) (r : Nat → Option Nat) (A : Nat → Nat → Int) (dy : xH) (hd : 2 ≤ d) (p : Int) (hT : 0 ≤ q 34 ∧ q 34 ≤ q 35 ∧ q 35 ≤ 10248) (hR : s_okR A) (hp : -10 ≤ p ∧ p ≤ 20000) : xMet Z d Y_T_tapeIsWord [xC 1, xI p] (hF q r A ++ dy) (fun v h2 => v = some (xI (x_bo (s_tiw (A 2) (q 34) (q 35) p))) ∧ h2 = hF q r A ++ dy) := by
  refine xMet_of (by decide) (Nat.le_of_ble_eq_true rfl) (fun v h2 hq => by rw [hq.1]; exact x_fitZ _) ?_
  have hbi := x_bo_in (s_same (A 2) (q 35) p (q 34))
  refine x_aload_n (x_d C_T_tapeIsWord 0 rfl) rfl ?_
  refine x_invokevirtual (st := []) (av := []) (x_d C_T_tapeIsWord 1 rfl) k_T_66 m_T_tapeSize v_T_tapeSize cl_T rfl rfl (Nat.le_of_ble_eq_true rfl) (by omega) rfl (c_T_tapeSize Z (d - 1) q r A dy hT) ?_
  rintro _ _ ⟨rfl, rfl⟩
  refine x_if_le (tgt := 38) (x_d C_T_tapeIsWord 2 rfl) rfl (fun c1 => ?_) (fun c1 => ?_)
  · refine x_iconst (x_d C_T_tapeIsWord 18 rfl) ⟨by omega, by omega⟩ ?_
    refine x_ireturn (x_d C_T_tapeIsWord 19 rfl) ?_
    refine ⟨congrArg (fun z => some (xI z)) ?_, rfl⟩
    unfold s_tiw
    cases hs : s_same (A 2) (q 35) p (q 34) with
    | false => rw [Bool.and_false]; rfl
    | true => first | (rw [decide_eq_false (by omega)]; rfl) | simp_all [x_bo]
  · refine x_aload_n (x_d C_T_tapeIsWord 3 rfl) rfl ?_
    refine x_aload_n (x_d C_T_tapeIsWord 4 rfl) rfl ?_
    refine x_getfield (v := xI (q 34)) (x_d C_T_tapeIsWord 5 rfl) f_T_37 rfl rfl ?_
    refine x_invokevirtual (st := []) (av := [xI (q 34)]) (x_d C_T_tapeIsWord 6 rfl) k_T_51 m_T_afterWord v_T_afterWord cl_T rfl rfl (Nat.le_of_ble_eq_true rfl) (by omega) rfl (c_T_afterWord Z (d - 1) q r A dy (q 34) hT hR) ?_
    rintro _ _ ⟨rfl, rfl⟩
    refine x_aload_n (x_d C_T_tapeIsWord 7 rfl) rfl ?_
    refine x_getfield (v := xI (q 35)) (x_d C_T_tapeIsWord 8 rfl) f_T_41 rfl rfl ?_
    refine x_icmp_ne (tgt := 38) (x_d C_T_tapeIsWord 9 rfl) rfl (fun c2 => ?_) (fun c2 => ?_)
    · refine x_iconst (x_d C_T_tapeIsWord 18 rfl) ⟨by omega, by omega⟩ ?_
      refine x_ireturn (x_d C_T_tapeIsWord 19 rfl) ?_
      refine ⟨congrArg (fun z => some (xI z)) ?_, rfl⟩
      unfold s_tiw
      cases hs : s_same (A 2) (q 35) p (q 34) with
      | false => rw [Bool.and_false]; rfl
      | true => first | (rw [decide_eq_false (by omega)]; rfl) | simp_all [x_bo]
    · refine x_aload_n (x_d C_T_tapeIsWord 10 rfl) rfl ?_
      refine x_iload_n (x_d C_T_tapeIsWord 11 rfl) rfl ?_
      refine x_aload_n (x_d C_T_tapeIsWord 12 rfl) rfl ?_
      refine x_getfield (v := xI (q 34)) (x_d C_T_tapeIsWord 13 rfl) f_T_37 rfl rfl ?_
      refine x_invokevirtual (st := []) (av := [xI (p), xI (q 34)]) (x_d C_T_tapeIsWord 14 rfl) k_T_69 m_T_sameWord v_T_sameWord cl_T rfl rfl (Nat.le_of_ble_eq_true rfl) (by omega) rfl (c_T_sameWord Z (d - 1) q r A dy (by omega) p (q 34) hT hR (by omega)) ?_
      rintro _ _ ⟨rfl, rfl⟩
      refine x_if_eq (tgt := 38) (x_d C_T_tapeIsWord 15 rfl) rfl (fun c3 => ?_) (fun c3 => ?_)
      · refine x_iconst (x_d C_T_tapeIsWord 18 rfl) ⟨by omega, by omega⟩ ?_
        refine x_ireturn (x_d C_T_tapeIsWord 19 rfl) ?_
        refine ⟨congrArg (fun z => some (xI z)) ?_, rfl⟩
        unfold s_tiw
        cases hs : s_same (A 2) (q 35) p (q 34) with
        | false => rw [Bool.and_false]; rfl
        | true => first | (rw [decide_eq_false (by omega)]; rfl) | simp_all [x_bo]
      · refine x_iconst (x_d C_T_tapeIsWord 16 rfl) ⟨by omega, by omega⟩ ?_
        refine x_goto (tgt := 39) (x_d C_T_tapeIsWord 17 rfl) rfl ?_
        refine x_ireturn (x_d C_T_tapeIsWord 19 rfl) ?_
        refine ⟨congrArg (fun z => some (xI z)) ?_, rfl⟩
        unfold s_tiw
        cases hs : s_same (A 2) (q 35) p (q 34) with
        | false => simp_all [x_bo]
        | true => rw [decide_eq_true (by omega)]; rfl
theorem c_T_addFour (Z : xZ) (d : Nat) (q : Nat → Int) (r : Nat → Option Nat) (A : Nat → Nat → Int) (dy : xH) (x : Int) (hT : 0 ≤ q 34 ∧ q 34 ≤ q 35 ∧ q 35 ≤ 10248) (hx : q 35 + 4 ≤ 10248) : xMet Z d Y_T_addFour [xC 1, xI x] (hF q r A ++ dy) (fun v h2 => v = none ∧ h2 = hF (x_up q 35 (q 35 + 1 + 1 + 1 + 1)) r (x_up A 2 (x_up (x_up (x_up (x_up (A 2) (q 35).toNat (x_by (x / 2 ^ (24 : Int).toNat))) (q 35 + 1).toNat (x_by (x / 2 ^ (16 : Int).toNat))) (q 35 + 1 + 1).toNat (x_by (x / 2 ^ (8 : Int).toNat))) (q 35 + 1 + 1 + 1).toNat (x_by (x / 2 ^ (0 : Int).toNat)))) ++ dy) := by
  refine xMet_of (by decide) (Nat.le_of_ble_eq_true rfl) (fun v h2 hq => by rw [hq.1]; trivial) ?_
  refine x_bipush (x_d C_T_addFour 0 rfl) (by omega) ?_
  refine x_istore_n (l1 := [(2, xI (24)), (0, xC 1), (1, xI (x))]) (x_d C_T_addFour 1 rfl) (by decide) rfl ?_
  refine x_iload_n (x_d C_T_addFour 2 rfl) rfl ?_
  refine x_if_lt (tgt := 48) (x_d C_T_addFour 3 rfl) rfl (fun q => absurd q (by omega)) (fun _ => ?_)
  refine x_aload_n (x_d C_T_addFour 4 rfl) rfl ?_
  refine x_getfield (v := xI (q 35)) (x_d C_T_addFour 5 rfl) f_T_41 rfl rfl ?_
  refine x_aload_n (x_d C_T_addFour 6 rfl) rfl ?_
  refine x_getfield (v := xC 2) (x_d C_T_addFour 7 rfl) f_T_9 rfl rfl ?_
  refine x_arraylength (x_d C_T_addFour 8 rfl) rfl (by decide) (by omega) ?_
  refine x_icmp_ge (tgt := 48) (x_d C_T_addFour 9 rfl) rfl (fun q => absurd q (by omega)) (fun _ => ?_)
  refine x_aload_n (x_d C_T_addFour 10 rfl) rfl ?_
  refine x_getfield (v := xC 2) (x_d C_T_addFour 11 rfl) f_T_9 rfl rfl ?_
  refine x_aload_n (x_d C_T_addFour 12 rfl) rfl ?_
  refine x_getfield (v := xI (q 35)) (x_d C_T_addFour 13 rfl) f_T_41 rfl rfl ?_
  refine x_iload_n (x_d C_T_addFour 14 rfl) rfl ?_
  refine x_iload_n (x_d C_T_addFour 15 rfl) rfl ?_
  refine x_ishr (k := (24 : Int).toNat) (x_d C_T_addFour 16 rfl) (by omega) (by omega) ?_
  refine x_i2b (x_d C_T_addFour 17 rfl) ?_
  refine x_bastore (h1 := hF q r (x_up A 2 (x_up (A 2) (q 35).toNat (x_by (x / 2 ^ (24 : Int).toNat)))) ++ dy) (x_d C_T_addFour 18 rfl) rfl (by omega) (by omega) (x_by_in _) rfl ?_
  refine x_aload_n (x_d C_T_addFour 19 rfl) rfl ?_
  refine x_dup (x_d C_T_addFour 20 rfl) rfl ?_
  refine x_getfield (v := xI (q 35)) (x_d C_T_addFour 21 rfl) f_T_41 rfl rfl ?_
  refine x_iconst (x_d C_T_addFour 22 rfl) ⟨by omega, by omega⟩ ?_
  refine x_iadd (x_d C_T_addFour 23 rfl) ⟨by omega, by omega⟩ ?_
  refine x_putfield (h1 := hF (x_up q 35 (q 35 + 1)) r (x_up A 2 (x_up (A 2) (q 35).toNat (x_by (x / 2 ^ (24 : Int).toNat)))) ++ dy) (x_d C_T_addFour 24 rfl) p_T_41 rfl rfl rfl trivial rfl ?_
  refine x_iinc (l1 := [(2, xI (16)), (0, xC 1), (1, xI (x))]) (x_d C_T_addFour 25 rfl) rfl ⟨by omega, by omega⟩ (by decide) rfl ?_
  refine x_goto (tgt := 3) (x_d C_T_addFour 26 rfl) rfl ?_
  refine x_iload_n (x_d C_T_addFour 2 rfl) rfl ?_
  refine x_if_lt (tgt := 48) (x_d C_T_addFour 3 rfl) rfl (fun q => absurd q (by omega)) (fun _ => ?_)
  refine x_aload_n (x_d C_T_addFour 4 rfl) rfl ?_
  refine x_getfield (v := xI (q 35 + 1)) (x_d C_T_addFour 5 rfl) f_T_41 rfl rfl ?_
  refine x_aload_n (x_d C_T_addFour 6 rfl) rfl ?_
  refine x_getfield (v := xC 2) (x_d C_T_addFour 7 rfl) f_T_9 rfl rfl ?_
  refine x_arraylength (x_d C_T_addFour 8 rfl) rfl (by decide) (by omega) ?_
  refine x_icmp_ge (tgt := 48) (x_d C_T_addFour 9 rfl) rfl (fun q => absurd q (by omega)) (fun _ => ?_)
  refine x_aload_n (x_d C_T_addFour 10 rfl) rfl ?_
  refine x_getfield (v := xC 2) (x_d C_T_addFour 11 rfl) f_T_9 rfl rfl ?_
  refine x_aload_n (x_d C_T_addFour 12 rfl) rfl ?_
  refine x_getfield (v := xI (q 35 + 1)) (x_d C_T_addFour 13 rfl) f_T_41 rfl rfl ?_
  refine x_iload_n (x_d C_T_addFour 14 rfl) rfl ?_
  refine x_iload_n (x_d C_T_addFour 15 rfl) rfl ?_
  refine x_ishr (k := (16 : Int).toNat) (x_d C_T_addFour 16 rfl) (by omega) (by omega) ?_
  refine x_i2b (x_d C_T_addFour 17 rfl) ?_
  refine x_bastore (h1 := hF (x_up q 35 (q 35 + 1)) r (x_up A 2 (x_up (x_up (A 2) (q 35).toNat (x_by (x / 2 ^ (24 : Int).toNat))) (q 35 + 1).toNat (x_by (x / 2 ^ (16 : Int).toNat)))) ++ dy) (x_d C_T_addFour 18 rfl) rfl (by omega) (by omega) (x_by_in _) rfl ?_
  refine x_aload_n (x_d C_T_addFour 19 rfl) rfl ?_
  refine x_dup (x_d C_T_addFour 20 rfl) rfl ?_
  refine x_getfield (v := xI (q 35 + 1)) (x_d C_T_addFour 21 rfl) f_T_41 rfl rfl ?_
  refine x_iconst (x_d C_T_addFour 22 rfl) ⟨by omega, by omega⟩ ?_
  refine x_iadd (x_d C_T_addFour 23 rfl) ⟨by omega, by omega⟩ ?_
  refine x_putfield (h1 := hF (x_up q 35 (q 35 + 1 + 1)) r (x_up A 2 (x_up (x_up (A 2) (q 35).toNat (x_by (x / 2 ^ (24 : Int).toNat))) (q 35 + 1).toNat (x_by (x / 2 ^ (16 : Int).toNat)))) ++ dy) (x_d C_T_addFour 24 rfl) p_T_41 rfl rfl rfl trivial rfl ?_
  refine x_iinc (l1 := [(2, xI (8)), (0, xC 1), (1, xI (x))]) (x_d C_T_addFour 25 rfl) rfl ⟨by omega, by omega⟩ (by decide) rfl ?_
  refine x_goto (tgt := 3) (x_d C_T_addFour 26 rfl) rfl ?_
  refine x_iload_n (x_d C_T_addFour 2 rfl) rfl ?_
  refine x_if_lt (tgt := 48) (x_d C_T_addFour 3 rfl) rfl (fun q => absurd q (by omega)) (fun _ => ?_)
  refine x_aload_n (x_d C_T_addFour 4 rfl) rfl ?_
  refine x_getfield (v := xI (q 35 + 1 + 1)) (x_d C_T_addFour 5 rfl) f_T_41 rfl rfl ?_
  refine x_aload_n (x_d C_T_addFour 6 rfl) rfl ?_
  refine x_getfield (v := xC 2) (x_d C_T_addFour 7 rfl) f_T_9 rfl rfl ?_
  refine x_arraylength (x_d C_T_addFour 8 rfl) rfl (by decide) (by omega) ?_
  refine x_icmp_ge (tgt := 48) (x_d C_T_addFour 9 rfl) rfl (fun q => absurd q (by omega)) (fun _ => ?_)
  refine x_aload_n (x_d C_T_addFour 10 rfl) rfl ?_
  refine x_getfield (v := xC 2) (x_d C_T_addFour 11 rfl) f_T_9 rfl rfl ?_
  refine x_aload_n (x_d C_T_addFour 12 rfl) rfl ?_
  refine x_getfield (v := xI (q 35 + 1 + 1)) (x_d C_T_addFour 13 rfl) f_T_41 rfl rfl ?_
  refine x_iload_n (x_d C_T_addFour 14 rfl) rfl ?_
  refine x_iload_n (x_d C_T_addFour 15 rfl) rfl ?_
  refine x_ishr (k := (8 : Int).toNat) (x_d C_T_addFour 16 rfl) (by omega) (by omega) ?_
  refine x_i2b (x_d C_T_addFour 17 rfl) ?_
  refine x_bastore (h1 := hF (x_up q 35 (q 35 + 1 + 1)) r (x_up A 2 (x_up (x_up (x_up (A 2) (q 35).toNat (x_by (x / 2 ^ (24 : Int).toNat))) (q 35 + 1).toNat (x_by (x / 2 ^ (16 : Int).toNat))) (q 35 + 1 + 1).toNat (x_by (x / 2 ^ (8 : Int).toNat)))) ++ dy) (x_d C_T_addFour 18 rfl) rfl (by omega) (by omega) (x_by_in _) rfl ?_
  refine x_aload_n (x_d C_T_addFour 19 rfl) rfl ?_
  refine x_dup (x_d C_T_addFour 20 rfl) rfl ?_
  refine x_getfield (v := xI (q 35 + 1 + 1)) (x_d C_T_addFour 21 rfl) f_T_41 rfl rfl ?_
  refine x_iconst (x_d C_T_addFour 22 rfl) ⟨by omega, by omega⟩ ?_
  refine x_iadd (x_d C_T_addFour 23 rfl) ⟨by omega, by omega⟩ ?_
  refine x_putfield (h1 := hF (x_up q 35 (q 35 + 1 + 1 + 1)) r (x_up A 2 (x_up (x_up (x_up (A 2) (q 35).toNat (x_by (x / 2 ^ (24 : Int).toNat))) (q 35 + 1).toNat (x_by (x / 2 ^ (16 : Int).toNat))) (q 35 + 1 + 1).toNat (x_by (x / 2 ^ (8 : Int).toNat)))) ++ dy) (x_d C_T_addFour 24 rfl) p_T_41 rfl rfl rfl trivial rfl ?_
  refine x_iinc (l1 := [(2, xI (0)), (0, xC 1), (1, xI (x))]) (x_d C_T_addFour 25 rfl) rfl ⟨by omega, by omega⟩ (by decide) rfl ?_
  refine x_goto (tgt := 3) (x_d C_T_addFour 26 rfl) rfl ?_
  refine x_iload_n (x_d C_T_addFour 2 rfl) rfl ?_
  refine x_if_lt (tgt := 48) (x_d C_T_addFour 3 rfl) rfl (fun q => absurd q (by omega)) (fun _ => ?_)
  refine x_aload_n (x_d C_T_addFour 4 rfl) rfl ?_
  refine x_getfield (v := xI (q 35 + 1 + 1 + 1)) (x_d C_T_addFour 5 rfl) f_T_41 rfl rfl ?_
  refine x_aload_n (x_d C_T_addFour 6 rfl) rfl ?_
  refine x_getfield (v := xC 2) (x_d C_T_addFour 7 rfl) f_T_9 rfl rfl ?_
  refine x_arraylength (x_d C_T_addFour 8 rfl) rfl (by decide) (by omega) ?_
  refine x_icmp_ge (tgt := 48) (x_d C_T_addFour 9 rfl) rfl (fun q => absurd q (by omega)) (fun _ => ?_)
  refine x_aload_n (x_d C_T_addFour 10 rfl) rfl ?_
  refine x_getfield (v := xC 2) (x_d C_T_addFour 11 rfl) f_T_9 rfl rfl ?_
  refine x_aload_n (x_d C_T_addFour 12 rfl) rfl ?_
  refine x_getfield (v := xI (q 35 + 1 + 1 + 1)) (x_d C_T_addFour 13 rfl) f_T_41 rfl rfl ?_
  refine x_iload_n (x_d C_T_addFour 14 rfl) rfl ?_
  refine x_iload_n (x_d C_T_addFour 15 rfl) rfl ?_
  refine x_ishr (k := (0 : Int).toNat) (x_d C_T_addFour 16 rfl) (by omega) (by omega) ?_
  refine x_i2b (x_d C_T_addFour 17 rfl) ?_
  refine x_bastore (h1 := hF (x_up q 35 (q 35 + 1 + 1 + 1)) r (x_up A 2 (x_up (x_up (x_up (x_up (A 2) (q 35).toNat (x_by (x / 2 ^ (24 : Int).toNat))) (q 35 + 1).toNat (x_by (x / 2 ^ (16 : Int).toNat))) (q 35 + 1 + 1).toNat (x_by (x / 2 ^ (8 : Int).toNat))) (q 35 + 1 + 1 + 1).toNat (x_by (x / 2 ^ (0 : Int).toNat)))) ++ dy) (x_d C_T_addFour 18 rfl) rfl (by omega) (by omega) (x_by_in _) rfl ?_
  refine x_aload_n (x_d C_T_addFour 19 rfl) rfl ?_
  refine x_dup (x_d C_T_addFour 20 rfl) rfl ?_
  refine x_getfield (v := xI (q 35 + 1 + 1 + 1)) (x_d C_T_addFour 21 rfl) f_T_41 rfl rfl ?_
  refine x_iconst (x_d C_T_addFour 22 rfl) ⟨by omega, by omega⟩ ?_
  refine x_iadd (x_d C_T_addFour 23 rfl) ⟨by omega, by omega⟩ ?_
  refine x_putfield (h1 := hF (x_up q 35 (q 35 + 1 + 1 + 1 + 1)) r (x_up A 2 (x_up (x_up (x_up (x_up (A 2) (q 35).toNat (x_by (x / 2 ^ (24 : Int).toNat))) (q 35 + 1).toNat (x_by (x / 2 ^ (16 : Int).toNat))) (q 35 + 1 + 1).toNat (x_by (x / 2 ^ (8 : Int).toNat))) (q 35 + 1 + 1 + 1).toNat (x_by (x / 2 ^ (0 : Int).toNat)))) ++ dy) (x_d C_T_addFour 24 rfl) p_T_41 rfl rfl rfl trivial rfl ?_
  refine x_iinc (l1 := [(2, xI (-8)), (0, xC 1), (1, xI (x))]) (x_d C_T_addFour 25 rfl) rfl ⟨by omega, by omega⟩ (by decide) rfl ?_
  refine x_goto (tgt := 3) (x_d C_T_addFour 26 rfl) rfl ?_
  refine x_iload_n (x_d C_T_addFour 2 rfl) rfl ?_
  refine x_if_lt (tgt := 48) (x_d C_T_addFour 3 rfl) rfl (fun _ => ?_) (fun q => absurd q (by omega))
  refine x_return (x_d C_T_addFour 27 rfl) ?_
  exact ⟨rfl, rfl⟩
theorem c_P_add (Z : xZ) (d : Nat) (q : Nat → Int) (r : Nat → Option Nat) (A : Nat → Nat → Int) (dy : xH) (a b c : Int) (hP : 0 ≤ q 133 ∧ q 133 < 12900) : xMet Z d Y_P_add [xC 4, xI a, xI b, xI c] (hF q r A ++ dy) (fun v h2 => v = some (xI (q 133)) ∧ h2 = hF (x_up q 133 (q 133 + 1)) r (x_up (x_up (x_up (x_up (x_up A 5 (x_up (A 5) (q 133).toNat a)) 6 (x_up (A 6) (q 133).toNat b)) 7 (x_up (A 7) (q 133).toNat c)) 8 (x_up (A 8) (q 133).toNat 1)) 9 (x_up (A 9) (q 133).toNat (-1))) ++ dy) := by
  refine xMet_of (by decide) (Nat.le_of_ble_eq_true rfl) (fun v h2 hq => by rw [hq.1]; trivial) ?_
  refine x_aload_n (x_d C_P_add 0 rfl) rfl ?_
  refine x_getfield (v := xI (q 133)) (x_d C_P_add 1 rfl) f_P_31 rfl rfl ?_
  refine x_sipush (x_d C_P_add 2 rfl) (by omega) ?_
  refine x_icmp_lt (tgt := 12) (x_d C_P_add 3 rfl) rfl (fun _ => ?_) (fun q => absurd q (by omega))
  refine x_aload_n (x_d C_P_add 6 rfl) rfl ?_
  refine x_getfield (v := xC 5) (x_d C_P_add 7 rfl) f_P_9 rfl rfl ?_
  refine x_aload_n (x_d C_P_add 8 rfl) rfl ?_
  refine x_getfield (v := xI (q 133)) (x_d C_P_add 9 rfl) f_P_31 rfl rfl ?_
  refine x_iload_n (x_d C_P_add 10 rfl) rfl ?_
  refine x_iastore (h1 := hF q r (x_up A 5 (x_up (A 5) (q 133).toNat a)) ++ dy) (x_d C_P_add 11 rfl) rfl (by omega) (by omega) rfl ?_
  refine x_aload_n (x_d C_P_add 12 rfl) rfl ?_
  refine x_getfield (v := xC 6) (x_d C_P_add 13 rfl) f_P_15 rfl rfl ?_
  refine x_aload_n (x_d C_P_add 14 rfl) rfl ?_
  refine x_getfield (v := xI (q 133)) (x_d C_P_add 15 rfl) f_P_31 rfl rfl ?_
  refine x_iload_n (x_d C_P_add 16 rfl) rfl ?_
  refine x_iastore (h1 := hF q r (x_up (x_up A 5 (x_up (A 5) (q 133).toNat a)) 6 (x_up (A 6) (q 133).toNat b)) ++ dy) (x_d C_P_add 17 rfl) rfl (by omega) (by omega) rfl ?_
  refine x_aload_n (x_d C_P_add 18 rfl) rfl ?_
  refine x_getfield (v := xC 7) (x_d C_P_add 19 rfl) f_P_18 rfl rfl ?_
  refine x_aload_n (x_d C_P_add 20 rfl) rfl ?_
  refine x_getfield (v := xI (q 133)) (x_d C_P_add 21 rfl) f_P_31 rfl rfl ?_
  refine x_iload_n (x_d C_P_add 22 rfl) rfl ?_
  refine x_iastore (h1 := hF q r (x_up (x_up (x_up A 5 (x_up (A 5) (q 133).toNat a)) 6 (x_up (A 6) (q 133).toNat b)) 7 (x_up (A 7) (q 133).toNat c)) ++ dy) (x_d C_P_add 23 rfl) rfl (by omega) (by omega) rfl ?_
  refine x_aload_n (x_d C_P_add 24 rfl) rfl ?_
  refine x_getfield (v := xC 8) (x_d C_P_add 25 rfl) f_P_21 rfl rfl ?_
  refine x_aload_n (x_d C_P_add 26 rfl) rfl ?_
  refine x_getfield (v := xI (q 133)) (x_d C_P_add 27 rfl) f_P_31 rfl rfl ?_
  refine x_iconst (x_d C_P_add 28 rfl) ⟨by omega, by omega⟩ ?_
  refine x_iastore (h1 := hF q r (x_up (x_up (x_up (x_up A 5 (x_up (A 5) (q 133).toNat a)) 6 (x_up (A 6) (q 133).toNat b)) 7 (x_up (A 7) (q 133).toNat c)) 8 (x_up (A 8) (q 133).toNat 1)) ++ dy) (x_d C_P_add 29 rfl) rfl (by omega) (by omega) rfl ?_
  refine x_aload_n (x_d C_P_add 30 rfl) rfl ?_
  refine x_getfield (v := xC 9) (x_d C_P_add 31 rfl) f_P_24 rfl rfl ?_
  refine x_aload_n (x_d C_P_add 32 rfl) rfl ?_
  refine x_getfield (v := xI (q 133)) (x_d C_P_add 33 rfl) f_P_31 rfl rfl ?_
  refine x_iconst (x_d C_P_add 34 rfl) ⟨by omega, by omega⟩ ?_
  refine x_iastore (h1 := hF q r (x_up (x_up (x_up (x_up (x_up A 5 (x_up (A 5) (q 133).toNat a)) 6 (x_up (A 6) (q 133).toNat b)) 7 (x_up (A 7) (q 133).toNat c)) 8 (x_up (A 8) (q 133).toNat 1)) 9 (x_up (A 9) (q 133).toNat (-1))) ++ dy) (x_d C_P_add 35 rfl) rfl (by omega) (by omega) rfl ?_
  refine x_aload_n (x_d C_P_add 36 rfl) rfl ?_
  refine x_dup (x_d C_P_add 37 rfl) rfl ?_
  refine x_getfield (v := xI (q 133)) (x_d C_P_add 38 rfl) f_P_31 rfl rfl ?_
  refine x_iconst (x_d C_P_add 39 rfl) ⟨by omega, by omega⟩ ?_
  refine x_iadd (x_d C_P_add 40 rfl) ⟨by omega, by omega⟩ ?_
  refine x_putfield (h1 := hF (x_up q 133 (q 133 + 1)) r (x_up (x_up (x_up (x_up (x_up A 5 (x_up (A 5) (q 133).toNat a)) 6 (x_up (A 6) (q 133).toNat b)) 7 (x_up (A 7) (q 133).toNat c)) 8 (x_up (A 8) (q 133).toNat 1)) 9 (x_up (A 9) (q 133).toNat (-1))) ++ dy) (x_d C_P_add 41 rfl) p_P_31 rfl rfl rfl trivial rfl ?_
  refine x_aload_n (x_d C_P_add 42 rfl) rfl ?_
  refine x_getfield (v := xI (q 133 + 1)) (x_d C_P_add 43 rfl) f_P_31 rfl rfl ?_
  refine x_iconst (x_d C_P_add 44 rfl) ⟨by omega, by omega⟩ ?_
  refine x_isub (x_d C_P_add 45 rfl) ⟨by omega, by omega⟩ ?_
  refine x_ireturn (x_d C_P_add 46 rfl) ?_
  exact ⟨congrArg (fun z => some (xI z)) (by omega), rfl⟩
theorem c_P_close (Z : xZ) (d : Nat) (q : Nat → Int) (r : Nat → Option Nat) (A : Nat → Nat → Int) (dy : xH) (p : Int) (hP : 0 ≤ q 133 ∧ q 133 ≤ 12900 ∧ 0 ≤ p ∧ p < 12900) : xMet Z d Y_P_close [xC 4, xI p] (hF q r A ++ dy) (fun v h2 => v = none ∧ h2 = hF q r (x_up A 8 (x_up (A 8) p.toNat (q 133 - p))) ++ dy) := by
  refine xMet_of (by decide) (Nat.le_of_ble_eq_true rfl) (fun v h2 hq => by rw [hq.1]; trivial) ?_
  refine x_aload_n (x_d C_P_close 0 rfl) rfl ?_
  refine x_getfield (v := xC 8) (x_d C_P_close 1 rfl) f_P_21 rfl rfl ?_
  refine x_iload_n (x_d C_P_close 2 rfl) rfl ?_
  refine x_aload_n (x_d C_P_close 3 rfl) rfl ?_
  refine x_getfield (v := xI (q 133)) (x_d C_P_close 4 rfl) f_P_31 rfl rfl ?_
  refine x_iload_n (x_d C_P_close 5 rfl) rfl ?_
  refine x_isub (x_d C_P_close 6 rfl) ⟨by omega, by omega⟩ ?_
  refine x_iastore (h1 := hF q r (x_up A 8 (x_up (A 8) (p).toNat (q 133 - p))) ++ dy) (x_d C_P_close 7 rfl) rfl (by omega) (by omega) rfl ?_
  refine x_return (x_d C_P_close 8 rfl) ?_
  exact ⟨rfl, rfl⟩
/-- behind a part -/
def s_bh (sp : Nat → Int) (p : Int) : Int := p + max 1 (sp p.toNat)
theorem c_P_behind (Z : xZ) (d : Nat) (q : Nat → Int) (r : Nat → Option Nat) (A : Nat → Nat → Int) (dy : xH) (hd : 1 ≤ d) (p : Int) (hp : 0 ≤ p ∧ p < 12900 ∧ ∀ j, 0 ≤ A 8 j ∧ A 8 j ≤ 12900) : xMet Z d Y_P_behind [xC 4, xI p] (hF q r A ++ dy) (fun v h2 => v = some (xI (s_bh (A 8) p)) ∧ h2 = hF q r A ++ dy) := by
  refine xMet_of (by decide) (Nat.le_of_ble_eq_true rfl) (fun v h2 hq => by rw [hq.1]; trivial) ?_
  have hs := hp.2.2 p.toNat
  refine x_iload_n (x_d C_P_behind 0 rfl) rfl ?_
  refine x_iconst (x_d C_P_behind 1 rfl) ⟨by omega, by omega⟩ ?_
  refine x_aload_n (x_d C_P_behind 2 rfl) rfl ?_
  refine x_getfield (v := xC 8) (x_d C_P_behind 3 rfl) f_P_21 rfl rfl ?_
  refine x_iload_n (x_d C_P_behind 4 rfl) rfl ?_
  refine x_iaload (f := A 8) (x_d C_P_behind 5 rfl) rfl (by omega) (by omega) ?_
  refine x_mmax (st := [xI (p)]) (x_d C_P_behind 6 rfl) kM_P_43 mmax_w (Nat.le_of_ble_eq_true rfl) (by omega) ?_
  refine x_iadd (x_d C_P_behind 7 rfl) ⟨by omega, by omega⟩ ?_
  refine x_ireturn (x_d C_P_behind 8 rfl) ?_
  exact ⟨rfl, rfl⟩
