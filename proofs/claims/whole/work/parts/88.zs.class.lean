/-! the class: what may be called, second part -/
theorem c_PF_count (Z : xZ) (d : Nat) (q : Nat → Int) (r : Nat → Option Nat) (A : Nat → Nat → Int) (dy : xH) (hd : 1 ≤ d) (k : Int) (hfr : 0 ≤ q 841 ∧ q 841 ≤ q 842 ∧ q 842 ≤ 10248) (hz : 0 ≤ q 837 ∧ q 837 ≤ 300) (hsp : ∀ j, 0 ≤ A 8 j ∧ A 8 j ≤ 12900) (hrt : ∀ k : Nat, (k : Int) < q 837 → ¬ A 29 k = 0 → 0 ≤ A 27 k ∧ A 27 k < 12900) : xMet Z d Y_PF_count [xC 0, xI k] (hF q (x_up (x_up (x_up (x_up r 7 (some 26)) 8 (some 32)) 9 (some 38)) 10 (some 40)) A ++ dy) (fun v h2 => v = some (xI (if k = 0 then q 837 else if k = 1 then s_sm (A 29) (q 837).toNat else if k = 2 then q 838 else if k = 3 then s_sm (A 30) (q 837).toNat else if k = 4 then q 842 - q 841 else if k = 5 then s_sm (s_pbf (A 29) (A 27) (A 8) (-1)) (q 837).toNat else -1)) ∧ h2 = hF q (x_up (x_up (x_up (x_up r 7 (some 26)) 8 (some 32)) 9 (some 38)) 10 (some 40)) A ++ dy) := by
  refine xMet_of (by decide) (Nat.le_of_ble_eq_true rfl) (fun v h2 hq => by rw [hq.1]; trivial) ?_
  refine x_iload_n (x_d C_PF_count 0 rfl) rfl ?_
  rcases (show k < 0 ∨ 5 < k ∨ k = 0 ∨ k = 1 ∨ k = 2 ∨ k = 3 ∨ k = 4 ∨ k = 5 by omega) with c1 | c1 | c1 | c1 | c1 | c1 | c1 | c1
  · refine x_tableOut (tgt := 111) (x_d C_PF_count 1 rfl) (Or.inl c1) rfl ?_
    refine x_iconst (x_d C_PF_count 37 rfl) ⟨by omega, by omega⟩ ?_
    refine x_ireturn (x_d C_PF_count 38 rfl) ?_
    refine ⟨?_, rfl⟩
    congr 2
    (repeat' split) <;> first | rfl | omega
  · refine x_tableOut (tgt := 111) (x_d C_PF_count 1 rfl) (Or.inr c1) rfl ?_
    refine x_iconst (x_d C_PF_count 37 rfl) ⟨by omega, by omega⟩ ?_
    refine x_ireturn (x_d C_PF_count 38 rfl) ?_
    refine ⟨?_, rfl⟩
    congr 2
    (repeat' split) <;> first | rfl | omega
  · refine x_tableIn (tgt := 40) (off := 39) (x_d C_PF_count 1 rfl) (by omega) (by omega) (by rw [c1]; rfl) rfl ?_
    refine x_aload_n (x_d C_PF_count 2 rfl) rfl ?_
    refine x_getfield (v := xC 26) (x_d C_PF_count 3 rfl) f_PF_69 rfl rfl ?_
    refine x_getfield (v := xI (q 837)) (x_d C_PF_count 4 rfl) f_PF_268 rfl rfl ?_
    refine x_ireturn (x_d C_PF_count 5 rfl) ?_
    refine ⟨?_, rfl⟩
    congr 2
    (repeat' split) <;> first | rfl | omega
  · refine x_tableIn (tgt := 48) (off := 47) (x_d C_PF_count 1 rfl) (by omega) (by omega) (by rw [c1]; rfl) rfl ?_
    refine x_aload_n (x_d C_PF_count 6 rfl) rfl ?_
    refine x_getfield (v := xC 26) (x_d C_PF_count 7 rfl) f_PF_69 rfl rfl ?_
    refine x_aload_n (x_d C_PF_count 8 rfl) rfl ?_
    refine x_getfield (v := xC 26) (x_d C_PF_count 9 rfl) f_PF_69 rfl rfl ?_
    refine x_getfield (v := xC 29) (x_d C_PF_count 10 rfl) f_PF_242 rfl rfl ?_
    refine x_invokevirtual (st := []) (av := [xC 29]) (x_d C_PF_count 11 rfl) k_PF_246 m_B_marked v_B_marked cl_B rfl rfl (Nat.le_of_ble_eq_true rfl) (by omega) rfl (c_B_marked_29 Z (d - 1) q (x_up (x_up (x_up (x_up r 7 (some 26)) 8 (some 32)) 9 (some 38)) 10 (some 40)) A dy hz) ?_
    rintro v_ _ ⟨hv_, rfl⟩
    obtain rfl : v_ = some (xI (s_sm (A 29) (q 837).toNat)) := hv_
    refine x_ireturn (x_d C_PF_count 12 rfl) ?_
    refine ⟨?_, rfl⟩
    congr 2
    (repeat' split) <;> first | rfl | omega
  · refine x_tableIn (tgt := 63) (off := 62) (x_d C_PF_count 1 rfl) (by omega) (by omega) (by rw [c1]; rfl) rfl ?_
    refine x_aload_n (x_d C_PF_count 13 rfl) rfl ?_
    refine x_getfield (v := xC 26) (x_d C_PF_count 14 rfl) f_PF_69 rfl rfl ?_
    refine x_getfield (v := xI (q 838)) (x_d C_PF_count 15 rfl) f_PF_269 rfl rfl ?_
    refine x_ireturn (x_d C_PF_count 16 rfl) ?_
    refine ⟨?_, rfl⟩
    congr 2
    (repeat' split) <;> first | rfl | omega
  · refine x_tableIn (tgt := 71) (off := 70) (x_d C_PF_count 1 rfl) (by omega) (by omega) (by rw [c1]; rfl) rfl ?_
    refine x_aload_n (x_d C_PF_count 17 rfl) rfl ?_
    refine x_getfield (v := xC 26) (x_d C_PF_count 18 rfl) f_PF_69 rfl rfl ?_
    refine x_aload_n (x_d C_PF_count 19 rfl) rfl ?_
    refine x_getfield (v := xC 26) (x_d C_PF_count 20 rfl) f_PF_69 rfl rfl ?_
    refine x_getfield (v := xC 30) (x_d C_PF_count 21 rfl) f_PF_272 rfl rfl ?_
    refine x_invokevirtual (st := []) (av := [xC 30]) (x_d C_PF_count 22 rfl) k_PF_246 m_B_marked v_B_marked cl_B rfl rfl (Nat.le_of_ble_eq_true rfl) (by omega) rfl (c_B_marked_30 Z (d - 1) q (x_up (x_up (x_up (x_up r 7 (some 26)) 8 (some 32)) 9 (some 38)) 10 (some 40)) A dy hz) ?_
    rintro v_ _ ⟨hv_, rfl⟩
    obtain rfl : v_ = some (xI (s_sm (A 30) (q 837).toNat)) := hv_
    refine x_ireturn (x_d C_PF_count 23 rfl) ?_
    refine ⟨?_, rfl⟩
    congr 2
    (repeat' split) <;> first | rfl | omega
  · refine x_tableIn (tgt := 86) (off := 85) (x_d C_PF_count 1 rfl) (by omega) (by omega) (by rw [c1]; rfl) rfl ?_
    refine x_aload_n (x_d C_PF_count 24 rfl) rfl ?_
    refine x_getfield (v := xC 26) (x_d C_PF_count 25 rfl) f_PF_69 rfl rfl ?_
    refine x_getfield (v := xI (q 842)) (x_d C_PF_count 26 rfl) f_PF_275 rfl rfl ?_
    refine x_aload_n (x_d C_PF_count 27 rfl) rfl ?_
    refine x_getfield (v := xC 26) (x_d C_PF_count 28 rfl) f_PF_69 rfl rfl ?_
    refine x_getfield (v := xI (q 841)) (x_d C_PF_count 29 rfl) f_PF_276 rfl rfl ?_
    refine x_isub (x_d C_PF_count 30 rfl) ⟨by omega, by omega⟩ ?_
    refine x_ireturn (x_d C_PF_count 31 rfl) ?_
    refine ⟨?_, rfl⟩
    congr 2
    (repeat' split) <;> first | rfl | omega
  · refine x_tableIn (tgt := 102) (off := 101) (x_d C_PF_count 1 rfl) (by omega) (by omega) (by rw [c1]; rfl) rfl ?_
    refine x_aload_n (x_d C_PF_count 32 rfl) rfl ?_
    refine x_getfield (v := xC 26) (x_d C_PF_count 33 rfl) f_PF_69 rfl rfl ?_
    refine x_iconst (x_d C_PF_count 34 rfl) ⟨by omega, by omega⟩ ?_
    refine x_invokevirtual (st := []) (av := [xI (-1)]) (x_d C_PF_count 35 rfl) k_PF_222 m_B_partsBut v_B_partsBut cl_B rfl rfl (Nat.le_of_ble_eq_true rfl) (by omega) rfl (c_B_partsBut Z (d - 1) q (x_up (x_up (x_up (x_up r 7 (some 26)) 8 (some 32)) 9 (some 38)) 10 (some 40)) A dy (-1) hz hsp hrt) ?_
    rintro v_ _ ⟨hv_, rfl⟩
    obtain rfl : v_ = some (xI (s_sm (s_pbf (A 29) (A 27) (A 8) (-1)) (q 837).toNat)) := hv_
    refine x_ireturn (x_d C_PF_count 36 rfl) ?_
    refine ⟨?_, rfl⟩
    congr 2
    (repeat' split) <;> first | rfl | omega
theorem c_PF_state (Z : xZ) (d : Nat) (q : Nat → Int) (r : Nat → Option Nat) (A : Nat → Nat → Int) (dy : xH) (n k : Int) (hz : 0 ≤ q 837 ∧ q 837 ≤ 300) : xMet Z d Y_PF_state [xC 0, xI n, xI k] (hF q (x_up (x_up (x_up (x_up r 7 (some 26)) 8 (some 32)) 9 (some 38)) 10 (some 40)) A ++ dy) (fun v h2 => v = some (xI (if ¬ (0 ≤ k ∧ k ≤ 2) then -1 else if ¬ (0 ≤ n ∧ n < q 837) then -2 else if k = 0 then A 29 n.toNat else if k = 1 then A 28 n.toNat else A 30 n.toNat)) ∧ h2 = hF q (x_up (x_up (x_up (x_up r 7 (some 26)) 8 (some 32)) 9 (some 38)) 10 (some 40)) A ++ dy) := by
  refine xMet_of (by decide) (Nat.le_of_ble_eq_true rfl) (fun v h2 hq => by rw [hq.1]; trivial) ?_
  refine xW_ok (fun _ _ hok => ?_)
  have hz29 := hF_z hok 29 300 rfl n.toNat
  have hz30 := hF_z hok 30 300 rfl n.toNat
  refine x_iload_n (x_d C_PF_state 0 rfl) rfl ?_
  refine x_if_lt (tgt := 9) (x_d C_PF_state 1 rfl) rfl (fun c1 => ?_) (fun c1 => ?_)
  · refine x_iconst (x_d C_PF_state 5 rfl) ⟨by omega, by omega⟩ ?_
    refine x_ireturn (x_d C_PF_state 6 rfl) ?_
    refine ⟨?_, rfl⟩
    congr 2
    (repeat' split) <;> omega
  · refine x_iload_n (x_d C_PF_state 2 rfl) rfl ?_
    refine x_iconst (x_d C_PF_state 3 rfl) ⟨by omega, by omega⟩ ?_
    refine x_icmp_le (tgt := 11) (x_d C_PF_state 4 rfl) rfl (fun c2 => ?_) (fun c2 => ?_)
    · refine x_iload_n (x_d C_PF_state 7 rfl) rfl ?_
      refine x_if_lt (tgt := 26) (x_d C_PF_state 8 rfl) rfl (fun c3 => ?_) (fun c3 => ?_)
      · refine x_bipush (x_d C_PF_state 14 rfl) (by omega) ?_
        refine x_ireturn (x_d C_PF_state 15 rfl) ?_
        refine ⟨?_, rfl⟩
        congr 2
        (repeat' split) <;> omega
      · refine x_iload_n (x_d C_PF_state 9 rfl) rfl ?_
        refine x_aload_n (x_d C_PF_state 10 rfl) rfl ?_
        refine x_getfield (v := xC 26) (x_d C_PF_state 11 rfl) f_PF_69 rfl rfl ?_
        refine x_getfield (v := xI (q 837)) (x_d C_PF_state 12 rfl) f_PF_268 rfl rfl ?_
        refine x_icmp_lt (tgt := 29) (x_d C_PF_state 13 rfl) rfl (fun c4 => ?_) (fun c4 => ?_)
        · refine x_iload_n (x_d C_PF_state 16 rfl) rfl ?_
          refine x_iconst (x_d C_PF_state 17 rfl) ⟨by omega, by omega⟩ ?_
          refine x_icmp_ne (tgt := 44) (x_d C_PF_state 18 rfl) rfl (fun c5 => ?_) (fun c5 => ?_)
          · refine x_iload_n (x_d C_PF_state 25 rfl) rfl ?_
            refine x_if_ne (tgt := 60) (x_d C_PF_state 26 rfl) rfl (fun c6 => ?_) (fun c6 => ?_)
            · refine x_aload_n (x_d C_PF_state 33 rfl) rfl ?_
              refine x_getfield (v := xC 26) (x_d C_PF_state 34 rfl) f_PF_69 rfl rfl ?_
              refine x_getfield (v := xC 30) (x_d C_PF_state 35 rfl) f_PF_272 rfl rfl ?_
              refine x_iload_n (x_d C_PF_state 36 rfl) rfl ?_
              refine x_zaload (f := A 30) (x_d C_PF_state 37 rfl) rfl (by omega) (by omega) ?_
              refine x_istore_n (l1 := [(3, xI (A 30 (n).toNat)), (0, xC 0), (1, xI (n)), (2, xI (k))]) (x_d C_PF_state 38 rfl) (by decide) rfl ?_
              refine x_iload_n (x_d C_PF_state 39 rfl) rfl ?_
              refine x_if_eq (tgt := 78) (x_d C_PF_state 40 rfl) rfl (fun c7 => ?_) (fun c7 => ?_)
              · refine x_iconst (x_d C_PF_state 43 rfl) ⟨by omega, by omega⟩ ?_
                refine x_ireturn (x_d C_PF_state 44 rfl) ?_
                refine ⟨?_, rfl⟩
                congr 2
                (repeat' split) <;> omega
              · refine x_iconst (x_d C_PF_state 41 rfl) ⟨by omega, by omega⟩ ?_
                refine x_goto (tgt := 79) (x_d C_PF_state 42 rfl) rfl ?_
                refine x_ireturn (x_d C_PF_state 44 rfl) ?_
                refine ⟨?_, rfl⟩
                congr 2
                (repeat' split) <;> omega
            · refine x_aload_n (x_d C_PF_state 27 rfl) rfl ?_
              refine x_getfield (v := xC 26) (x_d C_PF_state 28 rfl) f_PF_69 rfl rfl ?_
              refine x_getfield (v := xC 29) (x_d C_PF_state 29 rfl) f_PF_242 rfl rfl ?_
              refine x_iload_n (x_d C_PF_state 30 rfl) rfl ?_
              refine x_zaload (f := A 29) (x_d C_PF_state 31 rfl) rfl (by omega) (by omega) ?_
              refine x_goto (tgt := 69) (x_d C_PF_state 32 rfl) rfl ?_
              refine x_istore_n (l1 := [(3, xI (A 29 (n).toNat)), (0, xC 0), (1, xI (n)), (2, xI (k))]) (x_d C_PF_state 38 rfl) (by decide) rfl ?_
              refine x_iload_n (x_d C_PF_state 39 rfl) rfl ?_
              refine x_if_eq (tgt := 78) (x_d C_PF_state 40 rfl) rfl (fun c8 => ?_) (fun c8 => ?_)
              · refine x_iconst (x_d C_PF_state 43 rfl) ⟨by omega, by omega⟩ ?_
                refine x_ireturn (x_d C_PF_state 44 rfl) ?_
                refine ⟨?_, rfl⟩
                congr 2
                (repeat' split) <;> omega
              · refine x_iconst (x_d C_PF_state 41 rfl) ⟨by omega, by omega⟩ ?_
                refine x_goto (tgt := 79) (x_d C_PF_state 42 rfl) rfl ?_
                refine x_ireturn (x_d C_PF_state 44 rfl) ?_
                refine ⟨?_, rfl⟩
                congr 2
                (repeat' split) <;> omega
          · refine x_aload_n (x_d C_PF_state 19 rfl) rfl ?_
            refine x_getfield (v := xC 26) (x_d C_PF_state 20 rfl) f_PF_69 rfl rfl ?_
            refine x_getfield (v := xC 28) (x_d C_PF_state 21 rfl) f_PF_277 rfl rfl ?_
            refine x_iload_n (x_d C_PF_state 22 rfl) rfl ?_
            refine x_iaload (f := A 28) (x_d C_PF_state 23 rfl) rfl (by omega) (by omega) ?_
            refine x_ireturn (x_d C_PF_state 24 rfl) ?_
            refine ⟨?_, rfl⟩
            congr 2
            (repeat' split) <;> omega
        · refine x_bipush (x_d C_PF_state 14 rfl) (by omega) ?_
          refine x_ireturn (x_d C_PF_state 15 rfl) ?_
          refine ⟨?_, rfl⟩
          congr 2
          (repeat' split) <;> omega
    · refine x_iconst (x_d C_PF_state 5 rfl) ⟨by omega, by omega⟩ ?_
      refine x_ireturn (x_d C_PF_state 6 rfl) ?_
      refine ⟨?_, rfl⟩
      congr 2
      (repeat' split) <;> omega
theorem c_T_addFour2 (Z : xZ) (d : Nat) (q : Nat → Int) (r : Nat → Option Nat) (A : Nat → Nat → Int) (dy : xH) (x t : Int) (f : Nat → Int) (hT : 0 ≤ q 34 ∧ q 34 ≤ t ∧ t + 4 ≤ 10248) : xMet Z d Y_T_addFour [xC 1, xI x] (hF (x_up q 35 t) r (x_up A 2 f) ++ dy) (fun v h2 => v = none ∧ ∃ f2, h2 = hF (x_up q 35 (t + 4)) r (x_up A 2 f2) ++ dy ∧ (∀ k : Nat, (k : Int) < t → f2 k = f k) ∧ ∀ j, j < 4 → f2 (t.toNat + j) = x_by (x / 2 ^ (24 - 8 * j))) := by
  refine xMet_post ?_ (c_T_addFour Z d (x_up q 35 t) r (x_up A 2 f) dy x (show 0 ≤ q 34 ∧ q 34 ≤ t ∧ t ≤ 10248 by omega) (show t + 4 ≤ 10248 by omega))
  rintro v h2 ⟨rfl, rfl⟩
  refine ⟨rfl, x_up (x_up (x_up (x_up f t.toNat (x_by (x / 2 ^ (24 : Int).toNat))) (t + 1).toNat (x_by (x / 2 ^ (16 : Int).toNat))) (t + 1 + 1).toNat (x_by (x / 2 ^ (8 : Int).toNat))) (t + 1 + 1 + 1).toNat (x_by (x / 2 ^ (0 : Int).toNat)), ?_, fun k hk => ?_, fun j hj => ?_⟩
  · rw [show t + 4 = t + 1 + 1 + 1 + 1 by omega]
    rfl
  · rw [x_up_n _ _ (by omega), x_up_n _ _ (by omega), x_up_n _ _ (by omega), x_up_n _ _ (by omega)]
  · rcases (show j = 0 ∨ j = 1 ∨ j = 2 ∨ j = 3 by omega) with rfl | rfl | rfl | rfl
    · rw [x_up_n _ _ (by omega), x_up_n _ _ (by omega), x_up_n _ _ (by omega), Nat.add_zero, x_up_s]
      rfl
    · rw [x_up_n _ _ (by omega), x_up_n _ _ (by omega), show t.toNat + 1 = (t + 1).toNat by omega, x_up_s]
      rfl
    · rw [x_up_n _ _ (by omega), show t.toNat + 2 = (t + 1 + 1).toNat by omega, x_up_s]
      rfl
    · rw [show t.toNat + 3 = (t + 1 + 1 + 1).toNat by omega, x_up_s]
      rfl
theorem c_PF_feed0 (Z : xZ) (d : Nat) (q : Nat → Int) (r : Nat → Option Nat) (A : Nat → Nat → Int) (dy : xH) (hd : 1 ≤ d) (a b c e i : Int) (hT : 0 ≤ q 34 ∧ q 34 ≤ q 35 ∧ q 35 ≤ 10248) (t : Int) (ht : q 35 = t) (f : Nat → Int) : xMet Z d Y_PF_feed [xC 0, xI a, xI b, xI c, xI e, xI i] (hF (x_up q 35 (q 35)) (x_up (x_up (x_up (x_up r 7 (some 26)) 8 (some 32)) 9 (some 38)) 10 (some 40)) (x_up A 2 (A 2)) ++ dy) (fun v h2 => ((4000 < q 35 - q 34 + 20 ∨ 10248 < q 35 + 20) ∧ v = some (xI (-3)) ∧ h2 = hF q (x_up (x_up (x_up (x_up r 7 (some 26)) 8 (some 32)) 9 (some 38)) 10 (some 40)) A ++ dy) ∨ (¬ (4000 < q 35 - q 34 + 20 ∨ 10248 < q 35 + 20) ∧ v = some (xI (q 35 - q 34 + 20)) ∧ ∃ f2, h2 = hF (x_up q 35 (q 35 + 20)) (x_up (x_up (x_up (x_up r 7 (some 26)) 8 (some 32)) 9 (some 38)) 10 (some 40)) (x_up A 2 f2) ++ dy ∧ (∀ k : Nat, (k : Int) < q 35 → f2 k = A 2 k) ∧ ∀ k : Nat, k < 20 → f2 ((q 35).toNat + k) = fdb a b c e i k)) := by
  refine xMet_of (by decide) (Nat.le_of_ble_eq_true rfl) (fun v h2 hq => by obtain ⟨_, e, _⟩ | ⟨_, e, _⟩ := hq <;> rw [e] <;> trivial) ?_
  refine x_aload_n (x_d C_PF_feed 0 rfl) rfl ?_
  refine x_getfield (v := xC 1) (x_d C_PF_feed 1 rfl) f_PF_12 rfl rfl ?_
  refine x_invokevirtual (st := []) (av := []) (x_d C_PF_feed 2 rfl) k_PF_92 m_T_tapeSize v_T_tapeSize cl_T rfl rfl (Nat.le_of_ble_eq_true rfl) (by omega) rfl (c_T_tapeSize Z (d - 1) (x_up q 35 (q 35)) (x_up (x_up (x_up (x_up r 7 (some 26)) 8 (some 32)) 9 (some 38)) 10 (some 40)) (x_up A 2 (A 2)) dy (show 0 ≤ q 34 ∧ q 34 ≤ q 35 ∧ q 35 ≤ 10248 by omega)) ?_
  rintro v_ _ ⟨hv_, rfl⟩
  obtain rfl : v_ = some (xI (q 35 - q 34)) := hv_
  refine x_bipush (x_d C_PF_feed 3 rfl) (by omega) ?_
  refine x_iadd (x_d C_PF_feed 4 rfl) ⟨by omega, by omega⟩ ?_
  refine x_sipush (x_d C_PF_feed 5 rfl) (by omega) ?_
  refine x_icmp_gt (tgt := 28) (x_d C_PF_feed 6 rfl) rfl (fun c1 => ?_) (fun c1 => ?_)
  · refine x_bipush (x_d C_PF_feed 12 rfl) (by omega) ?_
    refine x_ireturn (x_d C_PF_feed 13 rfl) ?_
    exact Or.inl ⟨by omega, rfl, rfl⟩
  · refine x_aload_n (x_d C_PF_feed 7 rfl) rfl ?_
    refine x_getfield (v := xC 1) (x_d C_PF_feed 8 rfl) f_PF_12 rfl rfl ?_
    refine x_bipush (x_d C_PF_feed 9 rfl) (by omega) ?_
    refine x_invokevirtual (st := []) (av := [xI (20)]) (x_d C_PF_feed 10 rfl) k_PF_96 m_T_hasRoom v_T_hasRoom cl_T rfl rfl (Nat.le_of_ble_eq_true rfl) (by omega) rfl (c_T_hasRoom Z (d - 1) (x_up q 35 (q 35)) (x_up (x_up (x_up (x_up r 7 (some 26)) 8 (some 32)) 9 (some 38)) 10 (some 40)) (x_up A 2 (A 2)) dy 20 hT) ?_
    rintro v_ _ ⟨hv_, rfl⟩
    obtain ⟨z2, rfl, hz2⟩ : ∃ z : Int, v_ = some (xI z) ∧ ((z = 1 ∧ (q 35 + 20 ≤ 10248)) ∨ (z = 0 ∧ ¬ (q 35 + 20 ≤ 10248))) := ⟨_, hv_, by by_cases c_ : (q 35 + 20 ≤ 10248); exact Or.inl ⟨x_bo_t c_, c_⟩; exact Or.inr ⟨x_bo_f c_, c_⟩⟩
    refine x_if_ne (tgt := 31) (x_d C_PF_feed 11 rfl) rfl (fun c3 => ?_) (fun c3 => ?_)
    · refine x_aload_n (x_d C_PF_feed 14 rfl) rfl ?_
      refine x_getfield (v := xC 1) (x_d C_PF_feed 15 rfl) f_PF_12 rfl rfl ?_
      refine x_iload_n (x_d C_PF_feed 16 rfl) rfl ?_
      refine x_invokevirtual (st := []) (av := [xI (a)]) (x_d C_PF_feed 17 rfl) k_PF_100 m_T_addFour v_T_addFour cl_T rfl rfl (Nat.le_of_ble_eq_true rfl) (by omega) rfl (c_T_addFour2 Z (d - 1) q (x_up (x_up (x_up (x_up r 7 (some 26)) 8 (some 32)) 9 (some 38)) 10 (some 40)) A dy a (q 35) (A 2) (by omega)) ?_
      rintro _ _ ⟨rfl, f1, rfl, ha1, hb1⟩
      refine x_aload_n (x_d C_PF_feed 18 rfl) rfl ?_
      refine x_getfield (v := xC 1) (x_d C_PF_feed 19 rfl) f_PF_12 rfl rfl ?_
      refine x_iload_n (x_d C_PF_feed 20 rfl) rfl ?_
      refine x_invokevirtual (st := []) (av := [xI (b)]) (x_d C_PF_feed 21 rfl) k_PF_100 m_T_addFour v_T_addFour cl_T rfl rfl (Nat.le_of_ble_eq_true rfl) (by omega) rfl (c_T_addFour2 Z (d - 1) q (x_up (x_up (x_up (x_up r 7 (some 26)) 8 (some 32)) 9 (some 38)) 10 (some 40)) A dy b (q 35 + 4) f1 (by omega)) ?_
      rintro _ _ ⟨rfl, f2, rfl, ha2, hb2⟩
      refine x_aload_n (x_d C_PF_feed 22 rfl) rfl ?_
      refine x_getfield (v := xC 1) (x_d C_PF_feed 23 rfl) f_PF_12 rfl rfl ?_
      refine x_iload_n (x_d C_PF_feed 24 rfl) rfl ?_
      refine x_invokevirtual (st := []) (av := [xI (c)]) (x_d C_PF_feed 25 rfl) k_PF_100 m_T_addFour v_T_addFour cl_T rfl rfl (Nat.le_of_ble_eq_true rfl) (by omega) rfl (c_T_addFour2 Z (d - 1) q (x_up (x_up (x_up (x_up r 7 (some 26)) 8 (some 32)) 9 (some 38)) 10 (some 40)) A dy c (q 35 + 4 + 4) f2 (by omega)) ?_
      rintro _ _ ⟨rfl, f3, rfl, ha3, hb3⟩
      refine x_aload_n (x_d C_PF_feed 26 rfl) rfl ?_
      refine x_getfield (v := xC 1) (x_d C_PF_feed 27 rfl) f_PF_12 rfl rfl ?_
      refine x_iload (x_d C_PF_feed 28 rfl) rfl ?_
      refine x_invokevirtual (st := []) (av := [xI (e)]) (x_d C_PF_feed 29 rfl) k_PF_100 m_T_addFour v_T_addFour cl_T rfl rfl (Nat.le_of_ble_eq_true rfl) (by omega) rfl (c_T_addFour2 Z (d - 1) q (x_up (x_up (x_up (x_up r 7 (some 26)) 8 (some 32)) 9 (some 38)) 10 (some 40)) A dy e (q 35 + 4 + 4 + 4) f3 (by omega)) ?_
      rintro _ _ ⟨rfl, f4, rfl, ha4, hb4⟩
      refine x_aload_n (x_d C_PF_feed 30 rfl) rfl ?_
      refine x_getfield (v := xC 1) (x_d C_PF_feed 31 rfl) f_PF_12 rfl rfl ?_
      refine x_iload (x_d C_PF_feed 32 rfl) rfl ?_
      refine x_invokevirtual (st := []) (av := [xI (i)]) (x_d C_PF_feed 33 rfl) k_PF_100 m_T_addFour v_T_addFour cl_T rfl rfl (Nat.le_of_ble_eq_true rfl) (by omega) rfl (c_T_addFour2 Z (d - 1) q (x_up (x_up (x_up (x_up r 7 (some 26)) 8 (some 32)) 9 (some 38)) 10 (some 40)) A dy i (q 35 + 4 + 4 + 4 + 4) f4 (by omega)) ?_
      rintro _ _ ⟨rfl, f5, rfl, ha5, hb5⟩
      refine x_aload_n (x_d C_PF_feed 34 rfl) rfl ?_
      refine x_getfield (v := xC 1) (x_d C_PF_feed 35 rfl) f_PF_12 rfl rfl ?_
      refine x_invokevirtual (st := []) (av := []) (x_d C_PF_feed 36 rfl) k_PF_92 m_T_tapeSize v_T_tapeSize cl_T rfl rfl (Nat.le_of_ble_eq_true rfl) (by omega) rfl (c_T_tapeSize Z (d - 1) (x_up q 35 (q 35 + 4 + 4 + 4 + 4 + 4)) (x_up (x_up (x_up (x_up r 7 (some 26)) 8 (some 32)) 9 (some 38)) 10 (some 40)) (x_up A 2 f5) dy (show 0 ≤ q 34 ∧ q 34 ≤ q 35 + 4 + 4 + 4 + 4 + 4 ∧ q 35 + 4 + 4 + 4 + 4 + 4 ≤ 10248 by omega)) ?_
      rintro v_ _ ⟨hv_, rfl⟩
      obtain rfl : v_ = some (xI (q 35 + 4 + 4 + 4 + 4 + 4 - q 34)) := hv_
      refine x_ireturn (x_d C_PF_feed 37 rfl) ?_
      refine Or.inr ⟨by omega, by congr 2; omega, f5, by rw [show q 35 + 20 = q 35 + 4 + 4 + 4 + 4 + 4 by omega], fun k hk => ?_, fun k hk => ?_⟩
      · rw [ha5 k (by omega), ha4 k (by omega), ha3 k (by omega), ha2 k (by omega), ha1 k hk]
      · rcases (show k / 4 = 0 ∨ k / 4 = 1 ∨ k / 4 = 2 ∨ k / 4 = 3 ∨ k / 4 = 4 by omega) with h | h | h | h | h
        · rw [ha5 _ (by omega), ha4 _ (by omega), ha3 _ (by omega), ha2 _ (by omega), show (q 35).toNat + k = (q 35).toNat + k % 4 by omega, hb1 (k % 4) (by omega)]
          unfold fdb fdw
          rw [h]
          rfl
        · rw [ha5 _ (by omega), ha4 _ (by omega), ha3 _ (by omega), show (q 35).toNat + k = (q 35 + 4).toNat + k % 4 by omega, hb2 (k % 4) (by omega)]
          unfold fdb fdw
          rw [h]
          rfl
        · rw [ha5 _ (by omega), ha4 _ (by omega), show (q 35).toNat + k = (q 35 + 4 + 4).toNat + k % 4 by omega, hb3 (k % 4) (by omega)]
          unfold fdb fdw
          rw [h]
          rfl
        · rw [ha5 _ (by omega), show (q 35).toNat + k = (q 35 + 4 + 4 + 4).toNat + k % 4 by omega, hb4 (k % 4) (by omega)]
          unfold fdb fdw
          rw [h]
          rfl
        · rw [show (q 35).toNat + k = (q 35 + 4 + 4 + 4 + 4).toNat + k % 4 by omega, hb5 (k % 4) (by omega)]
          unfold fdb fdw
          rw [h]
          rfl
    · refine x_bipush (x_d C_PF_feed 12 rfl) (by omega) ?_
      refine x_ireturn (x_d C_PF_feed 13 rfl) ?_
      exact Or.inl ⟨by omega, rfl, rfl⟩
theorem c_PF_feed (Z : xZ) (d : Nat) (q : Nat → Int) (r : Nat → Option Nat) (A : Nat → Nat → Int) (dy : xH) (hd : 1 ≤ d) (a b c e i : Int) (hT : 0 ≤ q 34 ∧ q 34 ≤ q 35 ∧ q 35 ≤ 10248) : xMet Z d Y_PF_feed [xC 0, xI a, xI b, xI c, xI e, xI i] (hF q (x_up (x_up (x_up (x_up r 7 (some 26)) 8 (some 32)) 9 (some 38)) 10 (some 40)) A ++ dy) (fun v h2 => ((4000 < q 35 - q 34 + 20 ∨ 10248 < q 35 + 20) ∧ v = some (xI (-3)) ∧ h2 = hF q (x_up (x_up (x_up (x_up r 7 (some 26)) 8 (some 32)) 9 (some 38)) 10 (some 40)) A ++ dy) ∨ (¬ (4000 < q 35 - q 34 + 20 ∨ 10248 < q 35 + 20) ∧ v = some (xI (q 35 - q 34 + 20)) ∧ ∃ f2, h2 = hF (x_up q 35 (q 35 + 20)) (x_up (x_up (x_up (x_up r 7 (some 26)) 8 (some 32)) 9 (some 38)) 10 (some 40)) (x_up A 2 f2) ++ dy ∧ (∀ k : Nat, (k : Int) < q 35 → f2 k = A 2 k) ∧ ∀ k : Nat, k < 20 → f2 ((q 35).toNat + k) = fdb a b c e i k)) := c_PF_feed0 Z d q r A dy hd a b c e i hT (q 35) rfl (A 2)
theorem c_PF_outBecomes (Z : xZ) (d : Nat) (q : Nat → Int) (r : Nat → Option Nat) (A : Nat → Nat → Int) (dy : xH) (hd : 2 ≤ d) (a n : Int) (ha : 0 ≤ a ∧ 0 ≤ n ∧ a + n ≤ 10248 ∧ n ≤ 6000) : xMet Z d Y_PF_outBecomes [xC 0, xI a, xI n] (hF q (x_up (x_up (x_up (x_up r 7 (some 26)) 8 (some 32)) 9 (some 38)) 10 (some 40)) A ++ dy) (fun v h2 => v = some (xI n) ∧ ∃ f2, h2 = hF (x_up (x_up (x_up q 1217 n) 1218 0) 1219 6000) (x_up (x_up (x_up (x_up r 7 (some 26)) 8 (some 32)) 9 (some 38)) 10 (some 40)) (x_up A 39 f2) ++ dy ∧ ∀ k : Nat, (k : Int) < n → f2 k = A 2 (a.toNat + k)) := by
  refine xMet_of (by decide) (Nat.le_of_ble_eq_true rfl) (fun v h2 hq => by obtain ⟨e, _⟩ := hq; rw [e]; trivial) ?_
  refine x_aload_n (x_d C_PF_outBecomes 0 rfl) rfl ?_
  refine x_getfield (v := xC 38) (x_d C_PF_outBecomes 1 rfl) f_PF_81 rfl rfl ?_
  refine x_sipush (x_d C_PF_outBecomes 2 rfl) (by omega) ?_
  refine x_invokevirtual (st := []) (av := [xI (6000)]) (x_d C_PF_outBecomes 3 rfl) k_PF_166 m_Pa_start v_Pa_start cl_Pa rfl rfl (Nat.le_of_ble_eq_true rfl) (by omega) rfl (c_Pa_start_38 Z (d - 1) q (x_up (x_up (x_up (x_up r 7 (some 26)) 8 (some 32)) 9 (some 38)) 10 (some 40)) A dy (by omega) 6000) ?_
  rintro _ _ ⟨rfl, rfl⟩
  have hpn : pb 6000 0 0 (A 39) [] := ⟨by omega, by omega, Or.inl ⟨by show (0 : Int) ≤ 6000; omega, rfl, rfl, fun k hk => absurd hk (Nat.not_lt_zero _)⟩⟩
  refine x_aload_n (x_d C_PF_outBecomes 4 rfl) rfl ?_
  refine x_getfield (v := xC 38) (x_d C_PF_outBecomes 5 rfl) f_PF_81 rfl rfl ?_
  refine x_aload_n (x_d C_PF_outBecomes 6 rfl) rfl ?_
  refine x_getfield (v := xC 1) (x_d C_PF_outBecomes 7 rfl) f_PF_12 rfl rfl ?_
  refine x_getfield (v := xC 2) (x_d C_PF_outBecomes 8 rfl) f_PF_280 rfl rfl ?_
  refine x_iload_n (x_d C_PF_outBecomes 9 rfl) rfl ?_
  refine x_iload_n (x_d C_PF_outBecomes 10 rfl) rfl ?_
  refine x_invokevirtual (st := []) (av := [xC 2, xI (a), xI (n)]) (x_d C_PF_outBecomes 11 rfl) k_PF_204 m_Pa_addRow v_Pa_addRow cl_Pa rfl rfl (Nat.le_of_ble_eq_true rfl) (by omega) rfl (c_Pb_addRow_38_2 Z (d - 1) (x_up q 1219 6000) (x_up (x_up (x_up (x_up r 7 (some 26)) 8 (some 32)) 9 (some 38)) 10 (some 40)) A dy 0 0 (A 39) [] (by omega) a n (show (0 : Int) ≤ 6000 ∧ (6000 : Int) ≤ 6000 by omega) hpn (by omega)) ?_
  rintro _ _ ⟨rfl, s1, ov1, f1, rfl, hp1⟩
  have hp1 : pb 6000 s1 ov1 f1 ([] ++ s_sl (A 2) (a).toNat (n).toNat) := hp1
  rw [List.nil_append] at hp1
  refine x_aload_n (x_d C_PF_outBecomes 12 rfl) rfl ?_
  refine x_getfield (v := xC 38) (x_d C_PF_outBecomes 13 rfl) f_PF_81 rfl rfl ?_
  refine x_getfield (v := xI (s1)) (x_d C_PF_outBecomes 14 rfl) f_PF_179 rfl rfl ?_
  refine x_ireturn (x_d C_PF_outBecomes 15 rfl) ?_
  obtain ⟨_, _, ⟨h1, h2, h3, h4⟩ | ⟨h1, h2⟩⟩ := hp1
  · rw [s_sl_len] at h1 h3 h4
    have h5 : s1 = n := by omega
    subst h2
    refine ⟨by rw [h5], f1, by rw [h5]; rfl, fun k hk => ?_⟩
    rw [h4 k (by omega), s_sl_get (A 2) _ _ k (by omega)]
  · rw [s_sl_len] at h1
    omega
