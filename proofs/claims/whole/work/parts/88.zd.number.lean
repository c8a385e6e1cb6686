/-! the reference: numbers that are said -/
theorem s_p10_le {a b : Nat} (h : a ≤ b) : (10 : Int) ^ a ≤ 10 ^ b := by
  obtain ⟨k, rfl⟩ := Nat.exists_eq_add_of_le h
  clear h
  induction k with
  | zero => exact Int.le_refl _
  | succ k ih =>
    have h1 : (10 : Int) ^ (a + (k + 1)) = 10 ^ (a + k) * 10 := Int.pow_succ _ _
    have h2 := s_p10 (a + k)
    omega
theorem s_nd_le : ∀ (n k : Nat) (v : Int), 0 ≤ v → v < 10 ^ (n + 1) → s_nd k v ≤ n + 1
  | _, 0, _, _, _ => by show (1 : Int) ≤ _; omega
  | 0, k + 1, v, h0, h => by
    have h : v < 10 := h
    unfold s_nd
    rw [if_neg (by omega)]
    omega
  | n + 1, k + 1, v, h0, h => by
    have hp : (10 : Int) ^ (n + 1 + 1) = 10 ^ (n + 1) * 10 := Int.pow_succ _ _
    have := s_nd_le n k (v / 10) (by omega) (by omega)
    unfold s_nd
    split <;> omega
theorem s_dg_cons : ∀ (j : Nat) (v : Int), s_dg (j + 1) v = (48 + v / 10 ^ j % 10) :: s_dg j v
  | 0, v => by
    show [] ++ [48 + v % 10] = [48 + v / 10 ^ 0 % 10]
    rw [Int.pow_zero, Int.ediv_one]
    rfl
  | j + 1, v => by
    show s_dg (j + 1) (v / 10) ++ [48 + v % 10] = (48 + v / 10 ^ (j + 1) % 10) :: (s_dg j (v / 10) ++ [48 + v % 10])
    rw [s_dg_cons j (v / 10), show v / 10 / 10 ^ j = v / 10 ^ (j + 1) by rw [Int.ediv_ediv_of_nonneg (by omega), Int.pow_succ, Int.mul_comm]]
    rfl
theorem s_dg_pad (n : Nat) (v : Int) (h0 : 0 ≤ v) (h : v < 10 ^ n) : ∀ m : Nat, s_dg (m + n) v = List.replicate m 48 ++ s_dg n v
  | 0 => by rw [Nat.zero_add]; rfl
  | m + 1 => by
    rw [show m + 1 + n = (m + n) + 1 by omega, s_dg_cons, s_dg_pad n v h0 h m]
    have hp : (10 : Int) ^ n ≤ 10 ^ (m + n) := s_p10_le (by omega)
    rw [Int.ediv_eq_zero_of_lt h0 (by omega)]
    rfl
theorem s_nd_lt : ∀ (k : Nat) (v : Int), 0 ≤ v → v < 10 ^ (k + 1) → v < 10 ^ (s_nd k v).toNat
  | 0, v, _, h => by show v < 10 ^ (1 : Int).toNat; exact h
  | k + 1, v, h0, h => by
    have hi := s_nd_in k (v / 10)
    unfold s_nd
    split
    · next c =>
      have hp : (10 : Int) ^ (k + 1 + 1) = 10 ^ (k + 1) * 10 := Int.pow_succ _ _
      have := s_nd_lt k (v / 10) (by omega) (by omega)
      rw [show (1 + s_nd k (v / 10)).toNat = (s_nd k (v / 10)).toNat + 1 by omega, Int.pow_succ]
      omega
    · next c =>
      show v < 10 ^ (1 : Int).toNat
      rw [show (10 : Int) ^ (1 : Int).toNat = 10 from rfl]
      omega
theorem w_M_number_27 (Z : xZ) (d : Nat) (q : Nat → Int) (r : Nat → Option Nat) (A : Nat → Nat → Int) (dy : xH) (v dg w : Int) (hw : 0 ≤ w ∧ w ≤ 2147483647) (s ov : Int) (f : Nat → Int) (Q : Option xV → xH → Prop) (kk : xW Z d Y_M_number 49 [(0, xC 42), (1, xI v), (2, xI dg), (3, xI w), (4, xI (s_nd 10 w)), (5, xI (10 ^ ((s_nd 10 w).toNat - 1)))] [] (hF (x_up (x_up q 1359 s) 1360 ov) r (x_up A 48 f) ++ dy) Q) : ∀ (m j : Nat) (n : Int), (j + m = 10 ∧ n = j + 1) → (10 : Int) ^ j ≤ 1000000000 → s_nd 10 w = j + s_nd m (w / 10 ^ j) → xW Z d Y_M_number 27 [(0, xC 42), (1, xI v), (2, xI dg), (3, xI w), (4, xI n), (5, xI (10 ^ j))] [] (hF (x_up (x_up q 1359 s) 1360 ov) r (x_up A 48 f) ++ dy) Q := by
  intro m
  induction m with
  | zero =>
    intro j n hj hp hs
    obtain rfl : j = 10 := by omega
    exfalso
    have : (10 : Int) ^ 10 = 10000000000 := by decide
    omega
  | succ m ih =>
    intro j n hj hp hs
    have h1 : (1 : Int) ≤ 10 ^ j := s_p10 j
    have hq0 : 0 ≤ w / 10 ^ j := Int.ediv_nonneg hw.1 (by omega)
    have hqw : w / 10 ^ j * 10 ^ j ≤ w := Int.ediv_mul_le w (by omega)
    have hps : (10 : Int) ^ (j + 1) = 10 ^ j * 10 := Int.pow_succ _ _
    have hdd : w / 10 ^ j / 10 = w / 10 ^ (j + 1) := s_div10 w j
    rw [s_nd_s m (w / 10 ^ j), hdd] at hs
    have hbig : 9 < w / 10 ^ j → (10 : Int) ^ j * 10 ≤ 2147483647 := fun h => by
      have : 10 * 10 ^ j ≤ w / 10 ^ j * 10 ^ j := Int.mul_le_mul_of_nonneg_right (by omega) (by omega)
      omega
    have hqm : w / 10 ^ j ≤ 2147483647 := by
      have : w / 10 ^ j * 1 ≤ w / 10 ^ j * 10 ^ j := Int.mul_le_mul_of_nonneg_left h1 hq0
      omega
    have hnx : (10 : Int) ^ j * 10 ≤ 2147483647 → (10 : Int) ^ (j + 1) ≤ 1000000000 := fun h => by
      have hj9 : j + 1 ≤ 9 := by
        rcases Nat.lt_or_ge 9 (j + 1) with z | z
        · exfalso
          have : (10 : Int) ^ 10 ≤ 10 ^ (j + 1) := s_p10_le (by omega)
          have e : (10 : Int) ^ 10 = 10000000000 := by decide
          omega
        · exact z
      exact s_pow9 hj9
    refine x_iload_n (x_d C_M_number 16 rfl) rfl ?_
    refine x_iload (x_d C_M_number 17 rfl) rfl ?_
    refine x_idiv (x_d C_M_number 18 rfl) (by omega) (by omega) ?_
    refine x_bipush (x_d C_M_number 19 rfl) (by omega) ?_
    refine x_icmp_le (tgt := 49) (x_d C_M_number 20 rfl) rfl (fun c1 => ?_) (fun c1 => ?_)
    · refine x_locs [0, 1, 2, 3, 4, 5] rfl ?_
      rw [if_neg (by omega)] at hs
      have e1 : n = s_nd 10 w := by omega
      have e2 : (s_nd 10 w).toNat - 1 = j := by omega
      rw [e2, ← e1] at kk
      exact kk
    · refine x_iload (x_d C_M_number 21 rfl) rfl ?_
      refine x_bipush (x_d C_M_number 22 rfl) (by omega) ?_
      refine x_imul (x_d C_M_number 23 rfl) ⟨by omega, by omega⟩ ?_
      refine x_istore (l1 := [(5, xI ((10 ^ j) * 10)), (0, xC 42), (1, xI (v)), (2, xI (dg)), (3, xI (w)), (4, xI (n))]) (x_d C_M_number 24 rfl) (by decide) rfl ?_
      refine x_iinc (l1 := [(4, xI (n + 1)), (5, xI ((10 ^ j) * 10)), (0, xC 42), (1, xI (v)), (2, xI (dg)), (3, xI (w))]) (x_d C_M_number 25 rfl) rfl ⟨by omega, by omega⟩ (by decide) rfl ?_
      refine x_goto (tgt := 27) (x_d C_M_number 26 rfl) rfl ?_
      refine x_locs [2, 3, 4, 5, 0, 1] rfl ?_
      rw [if_pos (by omega)] at hs
      rw [← hps]
      exact ih (j + 1) (n + 1) (by omega) (hnx (hbig (by omega))) (by rw [hs]; omega)
theorem w_M_number_53 (Z : xZ) (d : Nat) (q : Nat → Int) (r : Nat → Option Nat) (A : Nat → Nat → Int) (dy : xH) (hd : 1 ≤ d) (v dg w n P : Int) (hdg : dg ≤ 100) (Q : Option xV → xH → Prop) : ∀ (m : Nat) (t s ov : Int) (f : Nat → Int) (bs : List Int), (n ≤ t ∧ -100 ≤ t ∧ (t + m = dg ∨ (m = 0 ∧ dg ≤ t))) → pb 6000 s ov f bs → (∀ s2 ov2 f2, pb 6000 s2 ov2 f2 (bs ++ List.replicate m 48) → xW Z d Y_M_number 71 [(0, xC 42), (3, xI w), (5, xI P)] [] (hF (x_up (x_up q 1359 s2) 1360 ov2) r (x_up A 48 f2) ++ dy) Q) → xW Z d Y_M_number 53 [(0, xC 42), (1, xI v), (2, xI dg), (3, xI w), (4, xI n), (5, xI P), (6, xI t)] [] (hF (x_up (x_up q 1359 s) 1360 ov) r (x_up A 48 f) ++ dy) Q := by
  intro m
  induction m with
  | zero =>
    intro t s ov f bs ht hp kk
    refine x_iload (x_d C_M_number 29 rfl) rfl ?_
    refine x_iload_n (x_d C_M_number 30 rfl) rfl ?_
    refine x_icmp_ge (tgt := 71) (x_d C_M_number 31 rfl) rfl (fun _ => ?_) (fun q => absurd q (by omega))
    refine x_locs [0, 3, 5] rfl ?_
    exact kk s ov f (pb_nil hp)
  | succ m ih =>
    intro t s ov f bs ht hp kk
    refine x_iload (x_d C_M_number 29 rfl) rfl ?_
    refine x_iload_n (x_d C_M_number 30 rfl) rfl ?_
    refine x_icmp_ge (tgt := 71) (x_d C_M_number 31 rfl) rfl (fun q => absurd q (by omega)) (fun _ => ?_)
    refine x_aload_n (x_d C_M_number 32 rfl) rfl ?_
    refine x_bipush (x_d C_M_number 33 rfl) (by omega) ?_
    refine x_invokevirtual (st := []) (av := [xI (48)]) (x_d C_M_number 34 rfl) k_M_394 m_M_say2 v_M_say2 cl_M rfl rfl (Nat.le_of_ble_eq_true rfl) (by omega) rfl (c_M_say2 Z (d - 1) q r A dy s ov f bs 48 hp) ?_
    rintro _ _ ⟨rfl, s2, ov2, f2, rfl, hp2⟩
    refine x_iinc (l1 := [(6, xI (t + 1)), (0, xC 42), (1, xI (v)), (2, xI (dg)), (3, xI (w)), (4, xI (n)), (5, xI (P))]) (x_d C_M_number 35 rfl) rfl ⟨by omega, by omega⟩ (by decide) rfl ?_
    refine x_goto (tgt := 53) (x_d C_M_number 36 rfl) rfl ?_
    refine x_locs [1, 2, 3, 4, 5, 6, 0] rfl ?_
    refine ih (t + 1) _ _ _ _ (by omega) hp2 (fun s2 ov2 f2 h2 => kk s2 ov2 f2 ?_)
    rw [List.append_assoc] at h2
    exact h2
theorem w_M_number_71 (Z : xZ) (d : Nat) (q : Nat → Int) (r : Nat → Option Nat) (A : Nat → Nat → Int) (dy : xH) (hd : 1 ≤ d) (w : Int) (hw : 0 ≤ w ∧ w ≤ 2147483647) : ∀ (j : Nat) (P s ov : Int) (f : Nat → Int) (bs : List Int), j ≤ 10 → P = (if j = 0 then 0 else 10 ^ (j - 1)) → pb 6000 s ov f bs → xW Z d Y_M_number 71 [(0, xC 42), (3, xI w), (5, xI P)] [] (hF (x_up (x_up q 1359 s) 1360 ov) r (x_up A 48 f) ++ dy) (fun v0 h2 => v0 = none ∧ ∃ s2 ov2 f2, h2 = hF (x_up (x_up q 1359 s2) 1360 ov2) r (x_up A 48 f2) ++ dy ∧ pb 6000 s2 ov2 f2 (bs ++ s_dg j w)) := by
  intro j
  induction j with
  | zero =>
    intro P s ov f bs hj hP hp
    rw [if_pos rfl] at hP
    refine x_iload (x_d C_M_number 37 rfl) rfl ?_
    refine x_if_le (tgt := 100) (x_d C_M_number 38 rfl) rfl (fun _ => ?_) (fun q => absurd q (by omega))
    refine x_return (x_d C_M_number 53 rfl) ?_
    exact ⟨rfl, s, ov, f, rfl, pb_nil hp⟩
  | succ j ih =>
    intro P s ov f bs hj hP hp
    rw [if_neg (by omega), show j + 1 - 1 = j by omega] at hP
    have h1 : (1 : Int) ≤ 10 ^ j := s_p10 j
    have h9 : (10 : Int) ^ j ≤ 1000000000 := s_pow9 (by omega)
    have hq0 : 0 ≤ w / P := Int.ediv_nonneg hw.1 (by omega)
    have hqm : w / P ≤ 2147483647 := by
      have a1 : w / P * P ≤ w := Int.ediv_mul_le w (by omega)
      have a2 : w / P * 1 ≤ w / P * P := Int.mul_le_mul_of_nonneg_left (by omega) hq0
      omega
    have hpn : P / 10 = (if j = 0 then 0 else 10 ^ (j - 1)) := by
      cases j with
      | zero => rw [hP]; rfl
      | succ k => rw [if_neg (by omega), show k + 1 - 1 = k by omega, hP, Int.pow_succ]; omega
    refine x_iload (x_d C_M_number 37 rfl) rfl ?_
    refine x_if_le (tgt := 100) (x_d C_M_number 38 rfl) rfl (fun q => absurd q (by omega)) (fun _ => ?_)
    refine x_aload_n (x_d C_M_number 39 rfl) rfl ?_
    refine x_bipush (x_d C_M_number 40 rfl) (by omega) ?_
    refine x_iload_n (x_d C_M_number 41 rfl) rfl ?_
    refine x_iload (x_d C_M_number 42 rfl) rfl ?_
    refine x_idiv (x_d C_M_number 43 rfl) (by omega) (by omega) ?_
    refine x_bipush (x_d C_M_number 44 rfl) (by omega) ?_
    refine x_irem (x_d C_M_number 45 rfl) (by omega) (by omega) ?_
    refine x_iadd (x_d C_M_number 46 rfl) ⟨by omega, by omega⟩ ?_
    refine x_invokevirtual (st := []) (av := [xI (48 + ((w / P) % 10))]) (x_d C_M_number 47 rfl) k_M_394 m_M_say2 v_M_say2 cl_M rfl rfl (Nat.le_of_ble_eq_true rfl) (by omega) rfl (c_M_say2 Z (d - 1) q r A dy s ov f bs (48 + ((w / P) % 10)) hp) ?_
    rintro _ _ ⟨rfl, s2, ov2, f2, rfl, hp2⟩
    refine x_iload (x_d C_M_number 48 rfl) rfl ?_
    refine x_bipush (x_d C_M_number 49 rfl) (by omega) ?_
    refine x_idiv (x_d C_M_number 50 rfl) (by omega) (by omega) ?_
    refine x_istore (l1 := [(5, xI (P / 10)), (0, xC 42), (3, xI (w))]) (x_d C_M_number 51 rfl) (by decide) rfl ?_
    refine x_goto (tgt := 71) (x_d C_M_number 52 rfl) rfl ?_
    refine x_locs [1, 2, 0] rfl ?_
    have hby : x_by (48 + w / P % 10) = 48 + w / P % 10 := s_by_dig _
    rw [hby] at hp2
    refine xW_post ?_ (ih (P / 10) _ _ _ _ (by omega) hpn hp2)
    rintro v h2 ⟨rfl, s9, ov9, f9, rfl, h9⟩
    refine ⟨rfl, s9, ov9, f9, rfl, ?_⟩
    rw [List.append_assoc] at h9
    rw [s_dg_cons, ← hP]
    exact h9
theorem c_M_number (Z : xZ) (d : Nat) (q : Nat → Int) (r : Nat → Option Nat) (A : Nat → Nat → Int) (dy : xH) (hd : 2 ≤ d) (s ov : Int) (f : Nat → Int) (bs : List Int) (v dg : Int) (hv : -2147483648 < v ∧ v ≤ 2147483647) (hdg : 1 ≤ dg ∧ dg ≤ 10) (hp : pb 6000 s ov f bs) : xMet Z d Y_M_number [xC 42, xI v, xI dg] (hF (x_up (x_up q 1359 s) 1360 ov) r (x_up A 48 f) ++ dy) (fun v0 h2 => v0 = none ∧ ∃ s2 ov2 f2, h2 = hF (x_up (x_up q 1359 s2) 1360 ov2) r (x_up A 48 f2) ++ dy ∧ pb 6000 s2 ov2 f2 (bs ++ ((if v < 0 then [45] else []) ++ s_dg (max dg (s_nd 10 (if v < 0 then -v else v))).toNat (if v < 0 then -v else v)))) := by
  refine xMet_of (by decide) (Nat.le_of_ble_eq_true rfl) (fun v h2 hq => by obtain ⟨e, _⟩ := hq; rw [e]; trivial) ?_
  have key : ∀ (w s ov : Int) (f : Nat → Int) (bs2 : List Int), (0 ≤ w ∧ w ≤ 2147483647) → pb 6000 s ov f bs2 → xW Z d Y_M_number 27 [(0, xC 42), (1, xI v), (2, xI dg), (3, xI w), (4, xI 1), (5, xI 1)] [] (hF (x_up (x_up q 1359 s) 1360 ov) r (x_up A 48 f) ++ dy) (fun v0 h2 => v0 = none ∧ ∃ s2 ov2 f2, h2 = hF (x_up (x_up q 1359 s2) 1360 ov2) r (x_up A 48 f2) ++ dy ∧ pb 6000 s2 ov2 f2 (bs2 ++ s_dg (max dg (s_nd 10 w)).toNat w)) := fun w s ov f bs2 hw hp2 => by
    have hnd := s_nd_in 10 w
    have hlt := s_nd_lt 10 w hw.1 (by have : (10 : Int) ^ (10 + 1) = 100000000000 := by decide
                                      omega)
    have hn10 : s_nd 10 w ≤ 10 := by
      have e : (10 : Int) ^ (9 + 1) = 10000000000 := by decide
      have := s_nd_le 9 10 w hw.1 (by omega)
      omega
    refine w_M_number_27 Z d q r A dy v dg w hw s ov f _ ?_ 10 0 1 (by omega) (by decide) (by rw [Int.pow_zero, Int.ediv_one]; omega)
    refine x_iload (x_d C_M_number 27 rfl) rfl ?_
    refine x_istore (l1 := [(6, xI (s_nd 10 w)), (0, xC 42), (1, xI (v)), (2, xI (dg)), (3, xI (w)), (4, xI (s_nd 10 w)), (5, xI (10 ^ ((s_nd 10 w).toNat - 1)))]) (x_d C_M_number 28 rfl) (by decide) rfl ?_
    refine x_locs [1, 2, 3, 4, 5, 6, 0] rfl ?_
    refine w_M_number_53 Z d q r A dy (by omega) v dg w (s_nd 10 w) _ (by omega) _ (dg - s_nd 10 w).toNat (s_nd 10 w) s ov f bs2 (by omega) hp2 (fun s9 ov9 f9 h9 => ?_)
    refine xW_post ?_ (w_M_number_71 Z d q r A dy (by omega) w hw (s_nd 10 w).toNat _ s9 ov9 f9 _ (by omega) (by rw [if_neg (by omega)]) h9)
    rintro v9 h8 ⟨rfl, s8, ov8, f8, rfl, h7⟩
    refine ⟨rfl, s8, ov8, f8, rfl, ?_⟩
    rw [List.append_assoc, ← s_dg_pad (s_nd 10 w).toNat w hw.1 hlt, show (dg - s_nd 10 w).toNat + (s_nd 10 w).toNat = (max dg (s_nd 10 w)).toNat by omega] at h7
    exact h7
  refine x_iload_n (x_d C_M_number 0 rfl) rfl ?_
  refine x_if_ge (tgt := 10) (x_d C_M_number 1 rfl) rfl (fun c1 => ?_) (fun c1 => ?_)
  · refine x_iload_n (x_d C_M_number 5 rfl) rfl ?_
    refine x_if_ge (tgt := 19) (x_d C_M_number 6 rfl) rfl (fun _ => ?_) (fun q => absurd q (by omega))
    refine x_iload_n (x_d C_M_number 10 rfl) rfl ?_
    refine x_istore_n (l1 := [(3, xI (v)), (0, xC 42), (1, xI (v)), (2, xI (dg))]) (x_d C_M_number 11 rfl) (by decide) rfl ?_
    refine x_iconst (x_d C_M_number 12 rfl) ⟨by omega, by omega⟩ ?_
    refine x_istore (l1 := [(4, xI (1)), (3, xI (v)), (0, xC 42), (1, xI (v)), (2, xI (dg))]) (x_d C_M_number 13 rfl) (by decide) rfl ?_
    refine x_iconst (x_d C_M_number 14 rfl) ⟨by omega, by omega⟩ ?_
    refine x_istore (l1 := [(5, xI (1)), (4, xI (1)), (3, xI (v)), (0, xC 42), (1, xI (v)), (2, xI (dg))]) (x_d C_M_number 15 rfl) (by decide) rfl ?_
    refine x_locs [3, 4, 5, 2, 1, 0] rfl ?_
    refine xW_post ?_ (key (v) _ _ _ _ (by omega) hp)
    rintro v9 h8 ⟨rfl, s8, ov8, f8, rfl, h7⟩
    refine ⟨rfl, s8, ov8, f8, rfl, ?_⟩
    rw [if_neg (by omega), if_neg (by omega), List.nil_append]
    exact h7
  · refine x_aload_n (x_d C_M_number 2 rfl) rfl ?_
    refine x_bipush (x_d C_M_number 3 rfl) (by omega) ?_
    refine x_invokevirtual (st := []) (av := [xI (45)]) (x_d C_M_number 4 rfl) k_M_394 m_M_say2 v_M_say2 cl_M rfl rfl (Nat.le_of_ble_eq_true rfl) (by omega) rfl (c_M_say2 Z (d - 1) q r A dy s ov f bs 45 hp) ?_
    rintro _ _ ⟨rfl, s3, ov3, f3, rfl, hp3⟩
    refine x_iload_n (x_d C_M_number 5 rfl) rfl ?_
    refine x_if_ge (tgt := 19) (x_d C_M_number 6 rfl) rfl (fun q => absurd q (by omega)) (fun _ => ?_)
    refine x_iload_n (x_d C_M_number 7 rfl) rfl ?_
    refine x_ineg (x_d C_M_number 8 rfl) ⟨by omega, by omega⟩ ?_
    refine x_goto (tgt := 20) (x_d C_M_number 9 rfl) rfl ?_
    refine x_istore_n (l1 := [(3, xI (-v)), (0, xC 42), (1, xI (v)), (2, xI (dg))]) (x_d C_M_number 11 rfl) (by decide) rfl ?_
    refine x_iconst (x_d C_M_number 12 rfl) ⟨by omega, by omega⟩ ?_
    refine x_istore (l1 := [(4, xI (1)), (3, xI (-v)), (0, xC 42), (1, xI (v)), (2, xI (dg))]) (x_d C_M_number 13 rfl) (by decide) rfl ?_
    refine x_iconst (x_d C_M_number 14 rfl) ⟨by omega, by omega⟩ ?_
    refine x_istore (l1 := [(5, xI (1)), (4, xI (1)), (3, xI (-v)), (0, xC 42), (1, xI (v)), (2, xI (dg))]) (x_d C_M_number 15 rfl) (by decide) rfl ?_
    refine x_locs [3, 4, 5, 2, 1, 0] rfl ?_
    refine xW_post ?_ (key (-v) _ _ _ _ (by omega) hp3)
    rintro v9 h8 ⟨rfl, s8, ov8, f8, rfl, h7⟩
    refine ⟨rfl, s8, ov8, f8, rfl, ?_⟩
    rw [if_pos (by omega), if_pos (by omega)]
    rw [List.append_assoc] at h7
    exact h7
theorem s_num1 (v : Int) : ((if v < 0 then [45] else []) ++ s_dg (max 1 (s_nd 10 (if v < 0 then -v else v))).toNat (if v < 0 then -v else v)) = s_int v := by
  have := s_nd_in 10 (if v < 0 then -v else v)
  unfold s_int
  rw [show max 1 (s_nd 10 (if v < 0 then -v else v)) = s_nd 10 (if v < 0 then -v else v) by omega]
theorem c_M_number1 (Z : xZ) (d : Nat) (q : Nat → Int) (r : Nat → Option Nat) (A : Nat → Nat → Int) (dy : xH) (hd : 2 ≤ d) (s ov : Int) (f : Nat → Int) (bs : List Int) (v : Int) (hv : -2147483648 < v ∧ v ≤ 2147483647) (hp : pb 6000 s ov f bs) : xMet Z d Y_M_number [xC 42, xI v, xI 1] (hF (x_up (x_up q 1359 s) 1360 ov) r (x_up A 48 f) ++ dy) (fun v0 h2 => v0 = none ∧ ∃ s2 ov2 f2, h2 = hF (x_up (x_up q 1359 s2) 1360 ov2) r (x_up A 48 f2) ++ dy ∧ pb 6000 s2 ov2 f2 (bs ++ s_int v)) := by
  have h := c_M_number Z d q r A dy hd s ov f bs v 1 hv (by omega) hp
  rw [s_num1] at h
  exact h
