/-! the reference: what is said -/
theorem c_M_say2 (Z : xZ) (d : Nat) (q : Nat → Int) (r : Nat → Option Nat) (A : Nat → Nat → Int) (dy : xH) (s ov : Int) (f : Nat → Int) (bs : List Int) (b : Int) (hp : pb 6000 s ov f bs) : xMet Z d Y_M_say2 [xC 42, xI b] (hF (x_up (x_up q 1359 s) 1360 ov) r (x_up A 48 f) ++ dy) (fun v0 h2 => v0 = none ∧ ∃ s2 ov2 f2, h2 = hF (x_up (x_up q 1359 s2) 1360 ov2) r (x_up A 48 f2) ++ dy ∧ pb 6000 s2 ov2 f2 (bs ++ [x_by b])) := by
  refine xMet_of (by decide) (Nat.le_of_ble_eq_true rfl) (fun v h2 hq => by obtain ⟨e, _⟩ := hq; rw [e]; trivial) ?_
  have hp0 := hp.1
  have hp1 := hp.2.1
  refine x_aload_n (x_d C_M_say2 0 rfl) rfl ?_
  refine x_getfield (v := xI (s)) (x_d C_M_say2 1 rfl) f_M_387 rfl rfl ?_
  refine x_sipush (x_d C_M_say2 2 rfl) (by omega) ?_
  refine x_icmp_ne (tgt := 16) (x_d C_M_say2 3 rfl) rfl (fun c1 => ?_) (fun c1 => ?_)
  · refine x_aload_n (x_d C_M_say2 8 rfl) rfl ?_
    refine x_getfield (v := xC 48) (x_d C_M_say2 9 rfl) f_M_179 rfl rfl ?_
    refine x_aload_n (x_d C_M_say2 10 rfl) rfl ?_
    refine x_getfield (v := xI (s)) (x_d C_M_say2 11 rfl) f_M_387 rfl rfl ?_
    refine x_iload_n (x_d C_M_say2 12 rfl) rfl ?_
    refine x_i2b (x_d C_M_say2 13 rfl) ?_
    refine x_bastore (h1 := hF (x_up (x_up q 1359 s) 1360 ov) r (x_up A 48 (x_up f (s).toNat (x_by b))) ++ dy) (x_d C_M_say2 14 rfl) rfl (by omega) (by omega) (x_by_in _) rfl ?_
    refine x_aload_n (x_d C_M_say2 15 rfl) rfl ?_
    refine x_dup (x_d C_M_say2 16 rfl) rfl ?_
    refine x_getfield (v := xI (s)) (x_d C_M_say2 17 rfl) f_M_387 rfl rfl ?_
    refine x_iconst (x_d C_M_say2 18 rfl) ⟨by omega, by omega⟩ ?_
    refine x_iadd (x_d C_M_say2 19 rfl) ⟨by omega, by omega⟩ ?_
    refine x_putfield (h1 := hF (x_up (x_up q 1359 (s + 1)) 1360 ov) r (x_up A 48 (x_up f (s).toNat (x_by b))) ++ dy) (x_d C_M_say2 20 rfl) p_M_387 rfl rfl rfl trivial rfl ?_
    refine x_return (x_d C_M_say2 21 rfl) ?_
    exact ⟨rfl, _, _, _, rfl, pb_add hp (by omega)⟩
  · refine x_aload_n (x_d C_M_say2 4 rfl) rfl ?_
    refine x_iconst (x_d C_M_say2 5 rfl) ⟨by omega, by omega⟩ ?_
    refine x_putfield (h1 := hF (x_up (x_up q 1359 s) 1360 1) r (x_up A 48 f) ++ dy) (x_d C_M_say2 6 rfl) p_M_390 rfl rfl rfl (Or.inr rfl) rfl ?_
    refine x_return (x_d C_M_say2 7 rfl) ?_
    exact ⟨rfl, _, _, _, rfl, pb_over hp (by show 6000 - s < ((1 : Nat) : Int); omega)⟩
theorem w_M_say1_8 (Z : xZ) (d : Nat) (q : Nat → Int) (r : Nat → Option Nat) (A : Nat → Nat → Int) (dy : xH) (hd : 1 ≤ d) (cb n : Nat) (fb : Nat → Int) (hb : ct dy cb (xA 1 n fb)) (hn : (n : Int) ≤ 100000) (hB : ∀ j, j < n → -128 ≤ fb j ∧ fb j ≤ 127) (l1 : Nat) : ∀ (m : Nat) (t s ov : Int) (f : Nat → Int) (bs : List Int), (0 ≤ t ∧ t + m = n) → pb 6000 s ov f bs → xW Z d Y_M_say1 8 [(0, xC 42), (2, xC cb), (3, xI (n : Int)), (4, xI t)] [] (hF (x_up (x_up q 1359 s) 1360 ov) r (x_up A 48 f) ++ dy) (fun v0 h2 => v0 = none ∧ ∃ s2 ov2 f2, h2 = hF (x_up (x_up q 1359 s2) 1360 ov2) r (x_up A 48 f2) ++ dy ∧ pb 6000 s2 ov2 f2 (bs ++ s_sl fb t.toNat m)) := by
  intro m
  induction m with
  | zero =>
    intro t s ov f bs ht hp
    refine x_iload (x_d C_M_say1 7 rfl) rfl ?_
    refine x_iload_n (x_d C_M_say1 8 rfl) rfl ?_
    refine x_icmp_ge (tgt := 32) (x_d C_M_say1 9 rfl) rfl (fun _ => ?_) (fun q => absurd q (by omega))
    refine x_return (x_d C_M_say1 19 rfl) ?_
    exact ⟨rfl, s, ov, f, rfl, pb_nil hp⟩
  | succ m ih =>
    intro t s ov f bs ht hp
    have hby := x_by_id (hB t.toNat (by omega))
    refine x_iload (x_d C_M_say1 7 rfl) rfl ?_
    refine x_iload_n (x_d C_M_say1 8 rfl) rfl ?_
    refine x_icmp_ge (tgt := 32) (x_d C_M_say1 9 rfl) rfl (fun q => absurd q (by omega)) (fun _ => ?_)
    refine x_aload_n (x_d C_M_say1 10 rfl) rfl ?_
    refine x_iload (x_d C_M_say1 11 rfl) rfl ?_
    refine x_baload (f := fb) (x_d C_M_say1 12 rfl) (ct_get hb _ _ _) (by omega) (by omega) ?_
    refine x_istore (l1 := [(5, xI (fb (t).toNat)), (0, xC 42), (2, xC cb), (3, xI ((n : Int))), (4, xI (t))]) (x_d C_M_say1 13 rfl) (by decide) rfl ?_
    refine x_aload_n (x_d C_M_say1 14 rfl) rfl ?_
    refine x_iload (x_d C_M_say1 15 rfl) rfl ?_
    refine x_invokevirtual (st := []) (av := [xI (fb (t).toNat)]) (x_d C_M_say1 16 rfl) k_M_394 m_M_say2 v_M_say2 cl_M rfl rfl (Nat.le_of_ble_eq_true rfl) (by omega) rfl (c_M_say2 Z (d - 1) q r A dy s ov f bs (fb (t).toNat) hp) ?_
    rintro _ _ ⟨rfl, s2, ov2, f2, rfl, hp2⟩
    refine x_iinc (l1 := [(4, xI (t + 1)), (5, xI (fb (t).toNat)), (0, xC 42), (2, xC cb), (3, xI ((n : Int)))]) (x_d C_M_say1 17 rfl) rfl ⟨by omega, by omega⟩ (by decide) rfl ?_
    refine x_goto (tgt := 8) (x_d C_M_say1 18 rfl) rfl ?_
    refine x_locs [2, 3, 4, 0] rfl ?_
    rw [hby] at hp2
    refine xW_post ?_ (ih (t + 1) _ _ _ _ (by omega) hp2)
    rintro v h2 ⟨rfl, s9, ov9, f9, rfl, h9⟩
    refine ⟨rfl, s9, ov9, f9, rfl, ?_⟩
    rw [List.append_assoc, show (t + 1).toNat = t.toNat + 1 by omega] at h9
    exact h9
theorem c_M_say1 (Z : xZ) (d : Nat) (q : Nat → Int) (r : Nat → Option Nat) (A : Nat → Nat → Int) (dy : xH) (hd : 2 ≤ d) (s ov : Int) (f : Nat → Int) (bs : List Int) (cb n : Nat) (fb : Nat → Int) (hb : ct dy cb (xA 1 n fb)) (hn : (n : Int) ≤ 100000) (hp : pb 6000 s ov f bs) : xMet Z d Y_M_say1 [xC 42, xC cb] (hF (x_up (x_up q 1359 s) 1360 ov) r (x_up A 48 f) ++ dy) (fun v0 h2 => v0 = none ∧ ∃ s2 ov2 f2, h2 = hF (x_up (x_up q 1359 s2) 1360 ov2) r (x_up A 48 f2) ++ dy ∧ pb 6000 s2 ov2 f2 (bs ++ s_sl fb 0 n)) := by
  refine xMet_of (by decide) (Nat.le_of_ble_eq_true rfl) (fun v h2 hq => by obtain ⟨e, _⟩ := hq; rw [e]; trivial) ?_
  refine xW_ok (fun _ _ hok => ?_)
  have hB : ∀ j, j < n → -128 ≤ fb j ∧ fb j ≤ 127 := fun j _ => hok _ (List.mem_of_getElem? (ct_get hb _ _ _)) j
  refine x_aload_n (x_d C_M_say1 0 rfl) rfl ?_
  refine x_astore_n (l1 := [(2, xC cb), (0, xC 42), (1, xC cb)]) (x_d C_M_say1 1 rfl) (by decide) rfl ?_
  refine x_aload_n (x_d C_M_say1 2 rfl) rfl ?_
  refine x_arraylength (x_d C_M_say1 3 rfl) (ct_get hb _ _ _) (by decide) (by omega) ?_
  refine x_istore_n (l1 := [(3, xI ((n : Int))), (2, xC cb), (0, xC 42), (1, xC cb)]) (x_d C_M_say1 4 rfl) (by decide) rfl ?_
  refine x_iconst (x_d C_M_say1 5 rfl) ⟨by omega, by omega⟩ ?_
  refine x_istore (l1 := [(4, xI (0)), (3, xI ((n : Int))), (2, xC cb), (0, xC 42), (1, xC cb)]) (x_d C_M_say1 6 rfl) (by decide) rfl ?_
  refine x_locs [3, 2, 1, 0] rfl ?_
  exact w_M_say1_8 Z d q r A dy (by omega) cb n fb hb hn hB 0 n 0 s ov f bs (by omega) hp
theorem w_M_say3_2 (Z : xZ) (d : Nat) (q : Nat → Int) (r : Nat → Option Nat) (A : Nat → Nat → Int) (dy : xH) (hd : 4 ≤ d) {si : Nat} {sc : String × Nat × String × List Int} (hs : x_strs[si]? = some sc) : ∀ (m : Nat) (t s ov : Int) (f : Nat → Int) (bs : List Int), (0 ≤ t ∧ t + m = sc.2.2.2.length) → pb 6000 s ov f bs → xW Z d Y_M_say3 2 [(0, xC 42), (1, xS (2 * si + 1)), (2, xI t)] [] (hF (x_up (x_up q 1359 s) 1360 ov) r (x_up A 48 f) ++ dy) (fun v0 h2 => v0 = none ∧ ∃ s2 ov2 f2, h2 = hF (x_up (x_up q 1359 s2) 1360 ov2) r (x_up A 48 f2) ++ dy ∧ pb 6000 s2 ov2 f2 (bs ++ (sc.2.2.2.drop t.toNat).map x_by)) := by
  have hl := x_strs_len hs
  intro m
  induction m with
  | zero =>
    intro t s ov f bs ht hp
    refine x_iload_n (x_d C_M_say3 2 rfl) rfl ?_
    refine x_aload_n (x_d C_M_say3 3 rfl) rfl ?_
    refine x_invokevirtualS (st := [xI (t)]) (av := []) (x_d C_M_say3 4 rfl) k_M_24 m_S_length v_S_length rfl hs rfl (Nat.le_of_ble_eq_true rfl) (by omega) rfl (c_S_length Z (d - 1) (hF (x_up (x_up q 1359 s) 1360 ov) r (x_up A 48 f) ++ dy) (by omega) hs) ?_
    rintro v_ _ ⟨hv_, rfl⟩
    obtain rfl : v_ = some (xI (sc.2.2.2.length : Int)) := hv_
    refine x_icmp_ge (tgt := 25) (x_d C_M_say3 5 rfl) rfl (fun _ => ?_) (fun q => absurd q (by omega))
    refine x_return (x_d C_M_say3 13 rfl) ?_
    exact ⟨rfl, s, ov, f, rfl, by rw [List.drop_eq_nil_of_le (by omega)]; exact pb_nil hp⟩
  | succ m ih =>
    intro t s ov f bs ht hp
    have hmd := s_map_drop sc.2.2.2 t.toNat (by omega)
    refine x_iload_n (x_d C_M_say3 2 rfl) rfl ?_
    refine x_aload_n (x_d C_M_say3 3 rfl) rfl ?_
    refine x_invokevirtualS (st := [xI (t)]) (av := []) (x_d C_M_say3 4 rfl) k_M_24 m_S_length v_S_length rfl hs rfl (Nat.le_of_ble_eq_true rfl) (by omega) rfl (c_S_length Z (d - 1) (hF (x_up (x_up q 1359 s) 1360 ov) r (x_up A 48 f) ++ dy) (by omega) hs) ?_
    rintro v_ _ ⟨hv_, rfl⟩
    obtain rfl : v_ = some (xI (sc.2.2.2.length : Int)) := hv_
    refine x_icmp_ge (tgt := 25) (x_d C_M_say3 5 rfl) rfl (fun q => absurd q (by omega)) (fun _ => ?_)
    refine x_aload_n (x_d C_M_say3 6 rfl) rfl ?_
    refine x_aload_n (x_d C_M_say3 7 rfl) rfl ?_
    refine x_iload_n (x_d C_M_say3 8 rfl) rfl ?_
    refine x_invokevirtualS (st := [xC 42]) (av := [xI (t)]) (x_d C_M_say3 9 rfl) k_M_30 m_S_charAt v_S_charAt rfl hs rfl (Nat.le_of_ble_eq_true rfl) (by omega) rfl (c_S_charAt Z (d - 1) (hF (x_up (x_up q 1359 s) 1360 ov) r (x_up A 48 f) ++ dy) (by omega) hs t (by omega)) ?_
    rintro v_ _ ⟨hv_, rfl⟩
    obtain rfl : v_ = some (xI (sc.2.2.2.getD (t).toNat 0)) := hv_
    refine x_invokevirtual (st := []) (av := [xI (sc.2.2.2.getD (t).toNat 0)]) (x_d C_M_say3 10 rfl) k_M_394 m_M_say2 v_M_say2 cl_M rfl rfl (Nat.le_of_ble_eq_true rfl) (by omega) rfl (c_M_say2 Z (d - 1) q r A dy s ov f bs (sc.2.2.2.getD (t).toNat 0) hp) ?_
    rintro _ _ ⟨rfl, s2, ov2, f2, rfl, hp2⟩
    refine x_iinc (l1 := [(2, xI (t + 1)), (0, xC 42), (1, xS (2 * si + 1))]) (x_d C_M_say3 11 rfl) rfl ⟨by omega, by omega⟩ (by decide) rfl ?_
    refine x_goto (tgt := 2) (x_d C_M_say3 12 rfl) rfl ?_
    refine x_locs [1, 2, 0] rfl ?_
    refine xW_post ?_ (ih (t + 1) _ _ _ _ (by omega) hp2)
    rintro v h2 ⟨rfl, s9, ov9, f9, rfl, h9⟩
    refine ⟨rfl, s9, ov9, f9, rfl, ?_⟩
    rw [List.append_assoc, show (t + 1).toNat = t.toNat + 1 by omega] at h9
    rw [hmd]
    exact h9
theorem c_M_say3 (Z : xZ) (d : Nat) (q : Nat → Int) (r : Nat → Option Nat) (A : Nat → Nat → Int) (dy : xH) (hd : 5 ≤ d) (s ov : Int) (f : Nat → Int) (bs : List Int) {si : Nat} {sc : String × Nat × String × List Int} (hs : x_strs[si]? = some sc) (hp : pb 6000 s ov f bs) : xMet Z d Y_M_say3 [xC 42, xS (2 * si + 1)] (hF (x_up (x_up q 1359 s) 1360 ov) r (x_up A 48 f) ++ dy) (fun v0 h2 => v0 = none ∧ ∃ s2 ov2 f2, h2 = hF (x_up (x_up q 1359 s2) 1360 ov2) r (x_up A 48 f2) ++ dy ∧ pb 6000 s2 ov2 f2 (bs ++ sc.2.2.2.map x_by)) := by
  refine xMet_of (by decide) (Nat.le_of_ble_eq_true rfl) (fun v h2 hq => by obtain ⟨e, _⟩ := hq; rw [e]; trivial) ?_
  refine x_iconst (x_d C_M_say3 0 rfl) ⟨by omega, by omega⟩ ?_
  refine x_istore_n (l1 := [(2, xI (0)), (0, xC 42), (1, xS (2 * si + 1))]) (x_d C_M_say3 1 rfl) (by decide) rfl ?_
  refine x_locs [1, 2, 0] rfl ?_
  exact w_M_say3_2 Z d q r A dy (by omega) hs sc.2.2.2.length 0 s ov f bs (by omega) hp
theorem c_M_hexDigit (Z : xZ) (d : Nat) (q : Nat → Int) (r : Nat → Option Nat) (A : Nat → Nat → Int) (dy : xH) (hd : 1 ≤ d) (s ov : Int) (f : Nat → Int) (bs : List Int) (k : Int) (hk : 0 ≤ k ∧ k < 16) (hp : pb 6000 s ov f bs) : xMet Z d Y_M_hexDigit [xC 42, xI k] (hF (x_up (x_up q 1359 s) 1360 ov) r (x_up A 48 f) ++ dy) (fun v0 h2 => v0 = none ∧ ∃ s2 ov2 f2, h2 = hF (x_up (x_up q 1359 s2) 1360 ov2) r (x_up A 48 f2) ++ dy ∧ pb 6000 s2 ov2 f2 (bs ++ [s_hc k])) := by
  refine xMet_of (by decide) (Nat.le_of_ble_eq_true rfl) (fun v h2 hq => by obtain ⟨e, _⟩ := hq; rw [e]; trivial) ?_
  refine x_aload_n (x_d C_M_hexDigit 0 rfl) rfl ?_
  refine x_iload_n (x_d C_M_hexDigit 1 rfl) rfl ?_
  refine x_bipush (x_d C_M_hexDigit 2 rfl) (by omega) ?_
  refine x_icmp_ge (tgt := 14) (x_d C_M_hexDigit 3 rfl) rfl (fun c1 => ?_) (fun c1 => ?_)
  · refine x_bipush (x_d C_M_hexDigit 8 rfl) (by omega) ?_
    refine x_iload_n (x_d C_M_hexDigit 9 rfl) rfl ?_
    refine x_iadd (x_d C_M_hexDigit 10 rfl) ⟨by omega, by omega⟩ ?_
    refine x_bipush (x_d C_M_hexDigit 11 rfl) (by omega) ?_
    refine x_isub (x_d C_M_hexDigit 12 rfl) ⟨by omega, by omega⟩ ?_
    refine x_invokevirtual (st := []) (av := [xI (97 + k - 10)]) (x_d C_M_hexDigit 13 rfl) k_M_394 m_M_say2 v_M_say2 cl_M rfl rfl (Nat.le_of_ble_eq_true rfl) (by omega) rfl (c_M_say2 Z (d - 1) q r A dy s ov f bs (97 + k - 10) hp) ?_
    rintro _ _ ⟨rfl, s2, ov2, f2, rfl, hp2⟩
    refine x_return (x_d C_M_hexDigit 14 rfl) ?_
    refine ⟨rfl, _, _, _, rfl, ?_⟩
    have hh : 97 + k - 10 = s_hc k := by unfold s_hc; split <;> omega
    rw [hh, s_hc_by hk] at hp2
    exact hp2
  · refine x_bipush (x_d C_M_hexDigit 4 rfl) (by omega) ?_
    refine x_iload_n (x_d C_M_hexDigit 5 rfl) rfl ?_
    refine x_iadd (x_d C_M_hexDigit 6 rfl) ⟨by omega, by omega⟩ ?_
    refine x_goto (tgt := 21) (x_d C_M_hexDigit 7 rfl) rfl ?_
    refine x_invokevirtual (st := []) (av := [xI (48 + k)]) (x_d C_M_hexDigit 13 rfl) k_M_394 m_M_say2 v_M_say2 cl_M rfl rfl (Nat.le_of_ble_eq_true rfl) (by omega) rfl (c_M_say2 Z (d - 1) q r A dy s ov f bs (48 + k) hp) ?_
    rintro _ _ ⟨rfl, s3, ov3, f3, rfl, hp3⟩
    refine x_return (x_d C_M_hexDigit 14 rfl) ?_
    refine ⟨rfl, _, _, _, rfl, ?_⟩
    have hh : 48 + k = s_hc k := by unfold s_hc; split <;> omega
    rw [hh, s_hc_by hk] at hp3
    exact hp3
