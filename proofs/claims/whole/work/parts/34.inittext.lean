/-! the text's constructor -/
/-- the table of the regular bytes, up to t; the row with the name Length, up to t -/
def s_rt (t : Int) : Nat → Int := fun j => if 33 ≤ (j : Int) ∧ (j : Int) < t then x_bo (s_reg j) else 0
def s_lb (t : Nat) : Int := [76, 101, 110, 103, 116, 104].getD t 0
def s_lr (t : Int) : Nat → Int := fun j => if (j : Int) < t then s_lb j else 0
theorem s_rt_33 : (fun _ => 0) = s_rt 33 := by
  funext j
  unfold s_rt
  rw [if_neg (by omega)]
theorem s_lr_0 : (fun _ => 0) = s_lr 0 := by
  funext j
  unfold s_lr
  rw [if_neg (by omega)]
theorem s_rt_up {t x : Int} (h : 33 ≤ t) (hx : x = x_bo (s_reg t)) : x_up (s_rt t) t.toNat x = s_rt (t + 1) := by
  funext j
  unfold x_up s_rt
  by_cases e : j = t.toNat
  · rw [if_pos e, if_pos (by omega), hx, show (j : Int) = t by omega]
  · rw [if_neg e]
    by_cases e2 : 33 ≤ (j : Int) ∧ (j : Int) < t
    · rw [if_pos e2, if_pos (by omega)]
    · rw [if_neg e2, if_neg (by omega)]
theorem s_lr_up {t x : Int} (h : 0 ≤ t) (hx : x = s_lb t.toNat) : x_up (s_lr t) t.toNat x = s_lr (t + 1) := by
  funext j
  unfold x_up s_lr
  by_cases e : j = t.toNat
  · rw [if_pos e, if_pos (by omega), hx, e]
  · rw [if_neg e]
    by_cases e2 : (j : Int) < t
    · rw [if_pos e2, if_pos (by omega)]
    · rw [if_neg e2, if_neg (by omega)]
theorem s_lb_in : ∀ t : Nat, t < 6 → -128 ≤ s_lb t ∧ s_lb t ≤ 127 := by decide
theorem s_ix_delim (c : Int) : s_ix [40, 41, 60, 62, 91, 93, 47] c 0 < 0 ↔ s_delim c = false := by
  unfold s_delim
  simp only [s_ix, Bool.or_eq_false_iff, decide_eq_false_iff_not]
  repeat' split
  all_goals omega
theorem s_reg_mid {c : Int} (h : 33 ≤ c ∧ c ≤ 126) : s_reg c = !s_delim c := by
  unfold s_reg
  rw [decide_eq_true h.1, decide_eq_true h.2]
  rfl
theorem s_okR_rt {A : Nat → Nat → Int} (h : A 3 = s_rt 127) : s_okR A := by
  intro c h1 h2
  rw [h]
  unfold s_rt
  by_cases e : 0 ≤ c
  · rw [show ((c % 256).toNat : Int) = c by omega]
    by_cases e2 : 33 ≤ c ∧ c < 127
    · rw [if_pos e2]
    · rw [if_neg e2]
      have : s_reg c = false := by
        unfold s_reg
        simp only [Bool.and_eq_false_iff, decide_eq_false_iff_not]
        omega
      rw [this]
      rfl
  · rw [if_neg (by omega)]
    have : s_reg c = false := by
      unfold s_reg
      simp only [Bool.and_eq_false_iff, decide_eq_false_iff_not]
      omega
    rw [this]
    rfl
theorem c_S_len (Z : xZ) (d : Nat) (h : xH) (hd : 1 ≤ d) {i : Nat} {s : String × Nat × String × List Int} (hs : x_strs[i]? = some s) {n : Int} (hn : (s.2.2.2.length : Int) = n) : xMet Z d Y_S_length [xS (2 * i + 1)] h (fun v h2 => v = some (xI n) ∧ h2 = h) := by
  subst hn
  exact c_S_length Z d h hd hs
theorem c_S_chr (Z : xZ) (d : Nat) (h : xH) (hd : 3 ≤ d) {i : Nat} {s : String × Nat × String × List Int} (hs : x_strs[i]? = some s) {k c : Int} (hk : 0 ≤ k ∧ k < (s.2.2.2.length : Int)) (hc : s.2.2.2.getD k.toNat 0 = c) : xMet Z d Y_S_charAt [xS (2 * i + 1), xI k] h (fun v h2 => v = some (xI c) ∧ h2 = h) := by
  subst hc
  exact c_S_charAt Z d h hd hs k hk
theorem c_S_ixo (Z : xZ) (d : Nat) (h : xH) (hd : 4 ≤ d) {i : Nat} {s : String × Nat × String × List Int} (hs : x_strs[i]? = some s) {c r : Int} (hc : 0 ≤ c ∧ c ≤ 127) (hlen : 0 < s.2.2.2.length) (hr : s_ix s.2.2.2 c 0 = r) : xMet Z d Y_S_indexOf1 [xS (2 * i + 1), xI c] h (fun v h2 => v = some (xI r) ∧ h2 = h) := by
  subst hr
  exact c_S_indexOf1 Z d h hd hs c hc hlen
theorem w_T_init_60 (Z : xZ) (d : Nat) (hd : 5 ≤ d) (c0 : xE) : ∀ (k : Nat) (t : Int), (6 - t).toNat = k → 0 ≤ t ∧ t ≤ 6 → xW Z d Y_T_init 60 [(0, xC 1), (1, xI t)] [] [c0, xB 1 [xC 2, xC 3, xI (0), xI (0)], xA 1 10248 (s_lr t), xA 2 256 (s_rt 127)] (fun v h2 => v = none ∧ h2 = [c0, xB 1 [xC 2, xC 3, xI (8), xI (8)], xA 1 10248 (s_lr 6), xA 2 256 (s_rt 127)]) := by
  intro k
  induction k using Nat.strongRecOn with
  | ind k ih =>
  intro t hk ht
  refine x_iload_n (x_d C_T_init 31 rfl) rfl ?_
  refine x_ldcS (i := 1) (x_d C_T_init 32 rfl) rfl ?_
  refine x_invokevirtualS (i := 1) (st := [xI (t)]) (av := []) (x_d C_T_init 33 rfl) k_T_29 m_S_length v_S_length rfl rfl rfl (Nat.le_of_ble_eq_true rfl) (by omega) rfl (c_S_len Z (d - 1) ([c0, xB 1 [xC 2, xC 3, xI (0), xI (0)], xA 1 10248 (s_lr t), xA 2 256 (s_rt 127)]) (by omega) (i := 1) rfl (n := 6) rfl) ?_
  rintro _ _ ⟨rfl, rfl⟩
  refine x_icmp_ge (tgt := 90) (x_d C_T_init 34 rfl) rfl (fun c1 => ?_) (fun c1 => ?_)
  · refine x_aload_n (x_d C_T_init 47 rfl) rfl ?_
    refine x_bipush (x_d C_T_init 48 rfl) (by omega) ?_
    refine x_putfield (h1 := [c0, xB 1 [xC 2, xC 3, xI (8), xI (0)], xA 1 10248 (s_lr t), xA 2 256 (s_rt 127)]) (x_d C_T_init 49 rfl) p_T_37 rfl rfl rfl trivial rfl ?_
    refine x_aload_n (x_d C_T_init 50 rfl) rfl ?_
    refine x_bipush (x_d C_T_init 51 rfl) (by omega) ?_
    refine x_putfield (h1 := [c0, xB 1 [xC 2, xC 3, xI (8), xI (8)], xA 1 10248 (s_lr t), xA 2 256 (s_rt 127)]) (x_d C_T_init 52 rfl) p_T_41 rfl rfl rfl trivial rfl ?_
    refine x_return (x_d C_T_init 53 rfl) ?_
    have e : t = 6 := by omega
    subst e
    exact ⟨rfl, rfl⟩
  · refine x_aload_n (x_d C_T_init 35 rfl) rfl ?_
    refine x_getfield (v := xC 2) (x_d C_T_init 36 rfl) f_T_9 rfl rfl ?_
    refine x_iconst (x_d C_T_init 37 rfl) ⟨by omega, by omega⟩ ?_
    refine x_iload_n (x_d C_T_init 38 rfl) rfl ?_
    refine x_iadd (x_d C_T_init 39 rfl) ⟨by omega, by omega⟩ ?_
    refine x_ldcS (i := 1) (x_d C_T_init 40 rfl) rfl ?_
    refine x_iload_n (x_d C_T_init 41 rfl) rfl ?_
    refine x_invokevirtualS (i := 1) (st := [xI (0 + t), xC 2]) (av := [xI (t)]) (x_d C_T_init 42 rfl) k_T_33 m_S_charAt v_S_charAt rfl rfl rfl (Nat.le_of_ble_eq_true rfl) (by omega) rfl (c_S_chr Z (d - 1) ([c0, xB 1 [xC 2, xC 3, xI (0), xI (0)], xA 1 10248 (s_lr t), xA 2 256 (s_rt 127)]) (by omega) (i := 1) rfl (c := s_lb (t).toNat) (show 0 ≤ t ∧ t < 6 by omega) rfl) ?_
    rintro _ _ ⟨rfl, rfl⟩
    refine x_i2b (x_d C_T_init 43 rfl) ?_
    refine x_bastore (h1 := [c0, xB 1 [xC 2, xC 3, xI (0), xI (0)], xA 1 10248 (x_up (s_lr t) (0 + t).toNat (x_by (s_lb (t).toNat))), xA 2 256 (s_rt 127)]) (x_d C_T_init 44 rfl) rfl (by omega) (by omega) (x_by_in _) rfl ?_
    refine x_iinc (l1 := [(1, xI (t + 1)), (0, xC 1)]) (x_d C_T_init 45 rfl) rfl ⟨by omega, by omega⟩ (by decide) rfl ?_
    refine x_goto (tgt := 60) (x_d C_T_init 46 rfl) rfl ?_
    refine x_locs [1, 0] rfl ?_
    refine x_heq (h1 := [c0, xB 1 [xC 2, xC 3, xI (0), xI (0)], xA 1 10248 (s_lr (t + 1)), xA 2 256 (s_rt 127)]) (by rw [show (0 : Int) + t = t by omega, s_lr_up (by omega) (x_by_id (s_lb_in _ (by omega)))]) ?_
    exact ih _ (by omega) _ rfl (by omega)
theorem w_T_init_25 (Z : xZ) (d : Nat) (hd : 6 ≤ d) (c0 : xE) : ∀ (k : Nat) (t : Int), (127 - t).toNat = k → 33 ≤ t ∧ t ≤ 127 → xW Z d Y_T_init 25 [(0, xC 1), (1, xI t)] [] [c0, xB 1 [xC 2, xC 3, xI (0), xI (0)], xA 1 10248 (fun _ => 0), xA 2 256 (s_rt t)] (fun v h2 => v = none ∧ h2 = [c0, xB 1 [xC 2, xC 3, xI (8), xI (8)], xA 1 10248 (s_lr 6), xA 2 256 (s_rt 127)]) := by
  intro k
  induction k using Nat.strongRecOn with
  | ind k ih =>
  intro t hk ht
  refine x_iload_n (x_d C_T_init 12 rfl) rfl ?_
  refine x_bipush (x_d C_T_init 13 rfl) (by omega) ?_
  refine x_icmp_ge (tgt := 58) (x_d C_T_init 14 rfl) rfl (fun c1 => ?_) (fun c1 => ?_)
  · refine x_iconst (x_d C_T_init 29 rfl) ⟨by omega, by omega⟩ ?_
    refine x_istore_n (l1 := [(1, xI (0)), (0, xC 1)]) (x_d C_T_init 30 rfl) (by decide) rfl ?_
    refine x_locs [1, 0] rfl ?_
    have e : t = 127 := by omega
    subst e
    refine x_heq (h1 := [c0, xB 1 [xC 2, xC 3, xI (0), xI (0)], xA 1 10248 (s_lr 0), xA 2 256 (s_rt 127)]) (by rw [s_lr_0]) ?_
    exact w_T_init_60 Z d (by omega) c0 _ _ rfl (by omega)
  · refine x_aload_n (x_d C_T_init 15 rfl) rfl ?_
    refine x_getfield (v := xC 3) (x_d C_T_init 16 rfl) f_T_15 rfl rfl ?_
    refine x_iload_n (x_d C_T_init 17 rfl) rfl ?_
    refine x_ldcS (i := 0) (x_d C_T_init 18 rfl) rfl ?_
    refine x_iload_n (x_d C_T_init 19 rfl) rfl ?_
    refine x_i2c (x_d C_T_init 20 rfl) (by omega) ?_
    refine x_invokevirtualS (i := 0) (st := [xI (t), xC 3]) (av := [xI (t)]) (x_d C_T_init 21 rfl) k_T_21 m_S_indexOf1 v_S_indexOf1 rfl rfl rfl (Nat.le_of_ble_eq_true rfl) (by omega) rfl (c_S_ixo Z (d - 1) ([c0, xB 1 [xC 2, xC 3, xI (0), xI (0)], xA 1 10248 (fun _ => 0), xA 2 256 (s_rt t)]) (by omega) (i := 0) rfl (r := s_ix [40, 41, 60, 62, 91, 93, 47] t 0) (by omega) (by decide) rfl) ?_
    rintro _ _ ⟨rfl, rfl⟩
    refine x_if_ge (tgt := 50) (x_d C_T_init 22 rfl) rfl (fun c2 => ?_) (fun c2 => ?_)
    · refine x_iconst (x_d C_T_init 25 rfl) ⟨by omega, by omega⟩ ?_
      refine x_zastore (h1 := [c0, xB 1 [xC 2, xC 3, xI (0), xI (0)], xA 1 10248 (fun _ => 0), xA 2 256 (x_up (s_rt t) (t).toNat 0)]) (x_d C_T_init 26 rfl) rfl (by omega) (by omega) (by omega) rfl ?_
      refine x_iinc (l1 := [(1, xI (t + 1)), (0, xC 1)]) (x_d C_T_init 27 rfl) rfl ⟨by omega, by omega⟩ (by decide) rfl ?_
      refine x_goto (tgt := 25) (x_d C_T_init 28 rfl) rfl ?_
      refine x_locs [1, 0] rfl ?_
      refine x_heq (h1 := [c0, xB 1 [xC 2, xC 3, xI (0), xI (0)], xA 1 10248 (fun _ => 0), xA 2 256 (s_rt (t + 1))]) ?_ ?_
      · rw [s_rt_up (by omega)]
        rw [s_reg_mid (by omega)]
        have hx := s_ix_delim t
        cases hz : s_delim t
        · rw [hz] at hx
          first | rfl | (exfalso; simp at hx; omega)
        · rw [hz] at hx
          first | rfl | (exfalso; simp at hx; omega)
      · exact ih _ (by omega) _ rfl (by omega)
    · refine x_iconst (x_d C_T_init 23 rfl) ⟨by omega, by omega⟩ ?_
      refine x_goto (tgt := 51) (x_d C_T_init 24 rfl) rfl ?_
      refine x_zastore (h1 := [c0, xB 1 [xC 2, xC 3, xI (0), xI (0)], xA 1 10248 (fun _ => 0), xA 2 256 (x_up (s_rt t) (t).toNat 1)]) (x_d C_T_init 26 rfl) rfl (by omega) (by omega) (by omega) rfl ?_
      refine x_iinc (l1 := [(1, xI (t + 1)), (0, xC 1)]) (x_d C_T_init 27 rfl) rfl ⟨by omega, by omega⟩ (by decide) rfl ?_
      refine x_goto (tgt := 25) (x_d C_T_init 28 rfl) rfl ?_
      refine x_locs [1, 0] rfl ?_
      refine x_heq (h1 := [c0, xB 1 [xC 2, xC 3, xI (0), xI (0)], xA 1 10248 (fun _ => 0), xA 2 256 (s_rt (t + 1))]) ?_ ?_
      · rw [s_rt_up (by omega)]
        rw [s_reg_mid (by omega)]
        have hx := s_ix_delim t
        cases hz : s_delim t
        · rw [hz] at hx
          first | rfl | (exfalso; simp at hx; omega)
        · rw [hz] at hx
          first | rfl | (exfalso; simp at hx; omega)
      · exact ih _ (by omega) _ rfl (by omega)
theorem c_T_init (Z : xZ) (d : Nat) (hd : 6 ≤ d) (c0 : xE) : xMet Z d Y_T_init [xC 1] [c0, xB 1 [xN, xN, xI (0), xI (0)]] (fun v h2 => v = none ∧ h2 = [c0, xB 1 [xC 2, xC 3, xI (8), xI (8)], xA 1 10248 (s_lr 6), xA 2 256 (s_rt 127)]) := by
  refine xMet_of (by decide) (Nat.le_of_ble_eq_true rfl) (fun v h2 hq => by rw [hq.1]; trivial) ?_
  refine x_aload_n (x_d C_T_init 0 rfl) rfl ?_
  refine x_objInit (x_d C_T_init 1 rfl) o_T_3 ob_1 (Nat.le_of_ble_eq_true rfl) (by omega) ?_
  refine x_aload_n (x_d C_T_init 2 rfl) rfl ?_
  refine x_sipush (x_d C_T_init 3 rfl) (by omega) ?_
  refine x_newarrayL (k := 2) (h1 := [c0, xB 1 [xN, xN, xI (0), xI (0)], xA 1 10248 (fun _ => 0)]) (x_d C_T_init 4 rfl) at_byte (by omega) (by omega) rfl rfl ?_
  refine x_putfinal (h1 := [c0, xB 1 [xC 2, xN, xI (0), xI (0)], xA 1 10248 (fun _ => 0)]) (x_d C_T_init 5 rfl) rfl p_T_9 rfl rfl rfl trivial rfl ?_
  refine x_aload_n (x_d C_T_init 6 rfl) rfl ?_
  refine x_sipush (x_d C_T_init 7 rfl) (by omega) ?_
  refine x_newarrayL (k := 3) (h1 := [c0, xB 1 [xC 2, xN, xI (0), xI (0)], xA 1 10248 (fun _ => 0), xA 2 256 (fun _ => 0)]) (x_d C_T_init 8 rfl) at_boolean (by omega) (by omega) rfl rfl ?_
  refine x_putfinal (h1 := [c0, xB 1 [xC 2, xC 3, xI (0), xI (0)], xA 1 10248 (fun _ => 0), xA 2 256 (fun _ => 0)]) (x_d C_T_init 9 rfl) rfl p_T_15 rfl rfl rfl trivial rfl ?_
  refine x_bipush (x_d C_T_init 10 rfl) (by omega) ?_
  refine x_istore_n (l1 := [(1, xI (33)), (0, xC 1)]) (x_d C_T_init 11 rfl) (by decide) rfl ?_
  refine x_locs [1, 0] rfl ?_
  refine x_heq (h1 := [c0, xB 1 [xC 2, xC 3, xI (0), xI (0)], xA 1 10248 (fun _ => 0), xA 2 256 (s_rt 33)]) (by rw [← s_rt_33]) ?_
  exact w_T_init_25 Z d hd c0 _ _ rfl (by omega)
