/-! the class: what may be called, first part -/
theorem c_PF_pointAt (Z : xZ) (d : Nat) (q : Nat → Int) (r : Nat → Option Nat) (A : Nat → Nat → Int) (dy : xH) (p : Int) (hp : p < 12900) : xMet Z d Y_PF_pointAt [xC 0, xI p] (hF q (x_up (x_up (x_up (x_up r 7 (some 26)) 8 (some 32)) 9 (some 38)) 10 (some 40)) A ++ dy) (fun v h2 => ((p < 0 ∧ v = some (xI (-2)) ∧ h2 = hF q (x_up (x_up (x_up (x_up r 7 (some 26)) 8 (some 32)) 9 (some 38)) 10 (some 40)) A ++ dy) ∨ (0 ≤ p ∧ v = some (xI (A 5 (p).toNat)) ∧ h2 = hF (x_up q 11 (p)) (x_up (x_up (x_up (x_up r 7 (some 26)) 8 (some 32)) 9 (some 38)) 10 (some 40)) A ++ dy))) := by
  refine xMet_of (by decide) (Nat.le_of_ble_eq_true rfl) (fun v h2 hq => by obtain ⟨_, e, _⟩ | ⟨_, e, _⟩ := hq <;> rw [e] <;> trivial) ?_
  refine x_iload_n (x_d C_PF_pointAt 0 rfl) rfl ?_
  refine x_if_ge (tgt := 7) (x_d C_PF_pointAt 1 rfl) rfl (fun c1 => ?_) (fun c1 => ?_)
  · refine x_aload_n (x_d C_PF_pointAt 4 rfl) rfl ?_
    refine x_iload_n (x_d C_PF_pointAt 5 rfl) rfl ?_
    refine x_putfield (h1 := hF (x_up q 11 p) (x_up (x_up (x_up (x_up r 7 (some 26)) 8 (some 32)) 9 (some 38)) 10 (some 40)) A ++ dy) (x_d C_PF_pointAt 6 rfl) p_PF_88 rfl rfl rfl trivial rfl ?_
    refine x_aload_n (x_d C_PF_pointAt 7 rfl) rfl ?_
    refine x_getfield (v := xC 4) (x_d C_PF_pointAt 8 rfl) f_PF_21 rfl rfl ?_
    refine x_getfield (v := xC 5) (x_d C_PF_pointAt 9 rfl) f_PF_157 rfl rfl ?_
    refine x_iload_n (x_d C_PF_pointAt 10 rfl) rfl ?_
    refine x_iaload (f := A 5) (x_d C_PF_pointAt 11 rfl) rfl (by omega) (by omega) ?_
    refine x_ireturn (x_d C_PF_pointAt 12 rfl) ?_
    exact Or.inr ⟨by omega, rfl, rfl⟩
  · refine x_bipush (x_d C_PF_pointAt 2 rfl) (by omega) ?_
    refine x_ireturn (x_d C_PF_pointAt 3 rfl) ?_
    exact Or.inl ⟨by omega, rfl, rfl⟩
theorem c_PF_go (Z : xZ) (d : Nat) (q : Nat → Int) (r : Nat → Option Nat) (A : Nat → Nat → Int) (dy : xH) (hd : 1 ≤ d) (n : Int) (hz : 0 ≤ q 837 ∧ q 837 ≤ 300) (hrt : ∀ k : Nat, (k : Int) < q 837 → ¬ A 29 k = 0 → 0 ≤ A 27 k ∧ A 27 k < 12900) : xMet Z d Y_PF_go [xC 0, xI n] (hF q (x_up (x_up (x_up (x_up r 7 (some 26)) 8 (some 32)) 9 (some 38)) 10 (some 40)) A ++ dy) (fun v h2 => (((if 0 ≤ n ∧ n < q 837 ∧ ¬ A 29 n.toNat = 0 then A 27 n.toNat else -1) < 0 ∧ v = some (xI (-2)) ∧ h2 = hF q (x_up (x_up (x_up (x_up r 7 (some 26)) 8 (some 32)) 9 (some 38)) 10 (some 40)) A ++ dy) ∨ (0 ≤ (if 0 ≤ n ∧ n < q 837 ∧ ¬ A 29 n.toNat = 0 then A 27 n.toNat else -1) ∧ v = some (xI (A 5 ((if 0 ≤ n ∧ n < q 837 ∧ ¬ A 29 n.toNat = 0 then A 27 n.toNat else -1)).toNat)) ∧ h2 = hF (x_up q 11 ((if 0 ≤ n ∧ n < q 837 ∧ ¬ A 29 n.toNat = 0 then A 27 n.toNat else -1))) (x_up (x_up (x_up (x_up r 7 (some 26)) 8 (some 32)) 9 (some 38)) 10 (some 40)) A ++ dy))) := by
  refine xMet_of (by decide) (Nat.le_of_ble_eq_true rfl) (fun v h2 hq => by obtain ⟨_, e, _⟩ | ⟨_, e, _⟩ := hq <;> rw [e] <;> trivial) ?_
  have hr := hrt n.toNat
  refine x_aload_n (x_d C_PF_go 0 rfl) rfl ?_
  refine x_aload_n (x_d C_PF_go 1 rfl) rfl ?_
  refine x_getfield (v := xC 26) (x_d C_PF_go 2 rfl) f_PF_69 rfl rfl ?_
  refine x_iload_n (x_d C_PF_go 3 rfl) rfl ?_
  refine x_invokevirtual (st := [xC 0]) (av := [xI (n)]) (x_d C_PF_go 4 rfl) k_PF_130 m_B_isUsed v_B_isUsed cl_B rfl rfl (Nat.le_of_ble_eq_true rfl) (by omega) rfl (c_B_isUsed_26 Z (d - 1) q (x_up (x_up (x_up (x_up r 7 (some 26)) 8 (some 32)) 9 (some 38)) 10 (some 40)) A dy n hz) ?_
  rintro v_ _ ⟨hv_, rfl⟩
  obtain ⟨z1, rfl, hz1⟩ : ∃ z : Int, v_ = some (xI z) ∧ ((z = 1 ∧ (0 ≤ n ∧ n < q 837 ∧ ¬ A 29 (n).toNat = 0)) ∨ (z = 0 ∧ ¬ (0 ≤ n ∧ n < q 837 ∧ ¬ A 29 (n).toNat = 0))) := ⟨_, hv_, by by_cases c_ : (0 ≤ n ∧ n < q 837 ∧ ¬ A 29 (n).toNat = 0); exact Or.inl ⟨x_bo_t c_, c_⟩; exact Or.inr ⟨x_bo_f c_, c_⟩⟩
  refine x_if_eq (tgt := 24) (x_d C_PF_go 5 rfl) rfl (fun c2 => ?_) (fun c2 => ?_)
  · refine x_iconst (x_d C_PF_go 12 rfl) ⟨by omega, by omega⟩ ?_
    refine x_invokevirtual (st := []) (av := [xI (-1)]) (x_d C_PF_go 13 rfl) k_PF_137 m_PF_pointAt v_PF_pointAt cl_PF rfl rfl (Nat.le_of_ble_eq_true rfl) (by omega) rfl (c_PF_pointAt Z (d - 1) q r A dy (-1) (by omega)) ?_
    rintro v_ h_ hpa_
    obtain ⟨a_, rfl⟩ : ∃ a : Int, v_ = some (xI a) := by obtain ⟨_, e, _⟩ | ⟨_, e, _⟩ := hpa_ <;> exact ⟨_, e⟩
    refine x_ireturn (x_d C_PF_go 14 rfl) ?_
    rw [if_neg (by omega)]
    exact hpa_
  · refine x_aload_n (x_d C_PF_go 6 rfl) rfl ?_
    refine x_getfield (v := xC 26) (x_d C_PF_go 7 rfl) f_PF_69 rfl rfl ?_
    refine x_getfield (v := xC 27) (x_d C_PF_go 8 rfl) f_PF_133 rfl rfl ?_
    refine x_iload_n (x_d C_PF_go 9 rfl) rfl ?_
    have hr2 := hr (by omega) (by omega)
    refine x_iaload (f := A 27) (x_d C_PF_go 10 rfl) rfl (by omega) (by omega) ?_
    refine x_goto (tgt := 25) (x_d C_PF_go 11 rfl) rfl ?_
    refine x_invokevirtual (st := []) (av := [xI (A 27 (n).toNat)]) (x_d C_PF_go 13 rfl) k_PF_137 m_PF_pointAt v_PF_pointAt cl_PF rfl rfl (Nat.le_of_ble_eq_true rfl) (by omega) rfl (c_PF_pointAt Z (d - 1) q r A dy (A 27 (n).toNat) (by omega)) ?_
    rintro v_ h_ hpa_
    obtain ⟨a_, rfl⟩ : ∃ a : Int, v_ = some (xI a) := by obtain ⟨_, e, _⟩ | ⟨_, e, _⟩ := hpa_ <;> exact ⟨_, e⟩
    refine x_ireturn (x_d C_PF_go 14 rfl) ?_
    rw [if_pos (by omega)]
    exact hpa_
theorem c_PF_trailer (Z : xZ) (d : Nat) (q : Nat → Int) (r : Nat → Option Nat) (A : Nat → Nat → Int) (dy : xH) (hd : 1 ≤ d) (htr : q 840 < 12900) : xMet Z d Y_PF_trailer [xC 0] (hF q (x_up (x_up (x_up (x_up r 7 (some 26)) 8 (some 32)) 9 (some 38)) 10 (some 40)) A ++ dy) (fun v h2 => (((if 0 < q 837 then q 840 else -1) < 0 ∧ v = some (xI (-2)) ∧ h2 = hF q (x_up (x_up (x_up (x_up r 7 (some 26)) 8 (some 32)) 9 (some 38)) 10 (some 40)) A ++ dy) ∨ (0 ≤ (if 0 < q 837 then q 840 else -1) ∧ v = some (xI (A 5 ((if 0 < q 837 then q 840 else -1)).toNat)) ∧ h2 = hF (x_up q 11 ((if 0 < q 837 then q 840 else -1))) (x_up (x_up (x_up (x_up r 7 (some 26)) 8 (some 32)) 9 (some 38)) 10 (some 40)) A ++ dy))) := by
  refine xMet_of (by decide) (Nat.le_of_ble_eq_true rfl) (fun v h2 hq => by obtain ⟨_, e, _⟩ | ⟨_, e, _⟩ := hq <;> rw [e] <;> trivial) ?_
  refine x_aload_n (x_d C_PF_trailer 0 rfl) rfl ?_
  refine x_aload_n (x_d C_PF_trailer 1 rfl) rfl ?_
  refine x_getfield (v := xC 26) (x_d C_PF_trailer 2 rfl) f_PF_69 rfl rfl ?_
  refine x_invokevirtual (st := [xC 0]) (av := []) (x_d C_PF_trailer 3 rfl) k_PF_141 m_B_isOpen v_B_isOpen cl_B rfl rfl (Nat.le_of_ble_eq_true rfl) (by omega) rfl (c_B_isOpen Z (d - 1) q (x_up (x_up (x_up (x_up r 7 (some 26)) 8 (some 32)) 9 (some 38)) 10 (some 40)) A dy) ?_
  rintro v_ _ ⟨hv_, rfl⟩
  obtain ⟨z1, rfl, hz1⟩ : ∃ z : Int, v_ = some (xI z) ∧ ((z = 1 ∧ (0 < q 837)) ∨ (z = 0 ∧ ¬ (0 < q 837))) := ⟨_, hv_, by by_cases c_ : (0 < q 837); exact Or.inl ⟨x_bo_t c_, c_⟩; exact Or.inr ⟨x_bo_f c_, c_⟩⟩
  refine x_if_eq (tgt := 21) (x_d C_PF_trailer 4 rfl) rfl (fun c2 => ?_) (fun c2 => ?_)
  · refine x_iconst (x_d C_PF_trailer 9 rfl) ⟨by omega, by omega⟩ ?_
    refine x_invokevirtual (st := []) (av := [xI (-1)]) (x_d C_PF_trailer 10 rfl) k_PF_137 m_PF_pointAt v_PF_pointAt cl_PF rfl rfl (Nat.le_of_ble_eq_true rfl) (by omega) rfl (c_PF_pointAt Z (d - 1) q r A dy (-1) (by omega)) ?_
    rintro v_ h_ hpa_
    obtain ⟨a_, rfl⟩ : ∃ a : Int, v_ = some (xI a) := by obtain ⟨_, e, _⟩ | ⟨_, e, _⟩ := hpa_ <;> exact ⟨_, e⟩
    refine x_ireturn (x_d C_PF_trailer 11 rfl) ?_
    rw [if_neg (by omega)]
    exact hpa_
  · refine x_aload_n (x_d C_PF_trailer 5 rfl) rfl ?_
    refine x_getfield (v := xC 26) (x_d C_PF_trailer 6 rfl) f_PF_69 rfl rfl ?_
    refine x_getfield (v := xI (q 840)) (x_d C_PF_trailer 7 rfl) f_PF_144 rfl rfl ?_
    refine x_goto (tgt := 22) (x_d C_PF_trailer 8 rfl) rfl ?_
    refine x_invokevirtual (st := []) (av := [xI (q 840)]) (x_d C_PF_trailer 10 rfl) k_PF_137 m_PF_pointAt v_PF_pointAt cl_PF rfl rfl (Nat.le_of_ble_eq_true rfl) (by omega) rfl (c_PF_pointAt Z (d - 1) q r A dy (q 840) (by omega)) ?_
    rintro v_ h_ hpa_
    obtain ⟨a_, rfl⟩ : ∃ a : Int, v_ = some (xI a) := by obtain ⟨_, e, _⟩ | ⟨_, e, _⟩ := hpa_ <;> exact ⟨_, e⟩
    refine x_ireturn (x_d C_PF_trailer 11 rfl) ?_
    rw [if_pos (by omega)]
    exact hpa_
theorem c_PF_item (Z : xZ) (d : Nat) (q : Nat → Int) (r : Nat → Option Nat) (A : Nat → Nat → Int) (dy : xH) (hd : 3 ≤ d) (k : Int) (hsp : ∀ j, 0 ≤ A 8 j ∧ A 8 j ≤ 12900) (hp : 0 ≤ q 11 ∧ q 11 < 12900 ∧ s_bh (A 8) (q 11) ≤ 12900) : xMet Z d Y_PF_item [xC 0, xI k] (hF q (x_up (x_up (x_up (x_up r 7 (some 26)) 8 (some 32)) 9 (some 38)) 10 (some 40)) A ++ dy) (fun v h2 => ((s_nth (s_in (A 8) (q 11)) k < 0 ∧ v = some (xI (-2)) ∧ h2 = hF q (x_up (x_up (x_up (x_up r 7 (some 26)) 8 (some 32)) 9 (some 38)) 10 (some 40)) A ++ dy) ∨ (0 ≤ s_nth (s_in (A 8) (q 11)) k ∧ v = some (xI (A 5 (s_nth (s_in (A 8) (q 11)) k).toNat)) ∧ h2 = hF (x_up q 11 (s_nth (s_in (A 8) (q 11)) k)) (x_up (x_up (x_up (x_up r 7 (some 26)) 8 (some 32)) 9 (some 38)) 10 (some 40)) A ++ dy))) := by
  refine xMet_of (by decide) (Nat.le_of_ble_eq_true rfl) (fun v h2 hq => by obtain ⟨_, e, _⟩ | ⟨_, e, _⟩ := hq <;> rw [e] <;> trivial) ?_
  have hnt : s_nth (s_in (A 8) (q 11)) k < 12900 := by
    rw [s_nth_eq]
    split
    · next z => have := s_in_mem hp.1 (s_getD_mem (L := s_in (A 8) (q 11)) (k := k.toNat) (by omega)); omega
    · omega
  refine x_aload_n (x_d C_PF_item 0 rfl) rfl ?_
  refine x_aload_n (x_d C_PF_item 1 rfl) rfl ?_
  refine x_getfield (v := xC 4) (x_d C_PF_item 2 rfl) f_PF_21 rfl rfl ?_
  refine x_aload_n (x_d C_PF_item 3 rfl) rfl ?_
  refine x_getfield (v := xI (q 11)) (x_d C_PF_item 4 rfl) f_PF_88 rfl rfl ?_
  refine x_iload_n (x_d C_PF_item 5 rfl) rfl ?_
  refine x_invokevirtual (st := [xC 0]) (av := [xI (q 11), xI (k)]) (x_d C_PF_item 6 rfl) k_PF_147 m_P_itemAt v_P_itemAt cl_P rfl rfl (Nat.le_of_ble_eq_true rfl) (by omega) rfl (c_P_itemAt Z (d - 1) q (x_up (x_up (x_up (x_up r 7 (some 26)) 8 (some 32)) 9 (some 38)) 10 (some 40)) A dy (by omega) (q 11) k hsp hp) ?_
  rintro v_ _ ⟨hv_, rfl⟩
  obtain rfl : v_ = some (xI (s_nth (s_in (A 8) (q 11)) k)) := hv_
  refine x_invokevirtual (st := []) (av := [xI (s_nth (s_in (A 8) (q 11)) k)]) (x_d C_PF_item 7 rfl) k_PF_137 m_PF_pointAt v_PF_pointAt cl_PF rfl rfl (Nat.le_of_ble_eq_true rfl) (by omega) rfl (c_PF_pointAt Z (d - 1) q r A dy (s_nth (s_in (A 8) (q 11)) k) (by omega)) ?_
  rintro v_ h_ hpa_
  obtain ⟨a_, rfl⟩ : ∃ a : Int, v_ = some (xI a) := by obtain ⟨_, e, _⟩ | ⟨_, e, _⟩ := hpa_ <;> exact ⟨_, e⟩
  refine x_ireturn (x_d C_PF_item 8 rfl) ?_
  exact hpa_
theorem c_P_itemAt_n (Z : xZ) (d : Nat) (q : Nat → Int) (r : Nat → Option Nat) (A : Nat → Nat → Int) (dy : xH) (p k : Int) (hp : p < 0) : xMet Z d Y_P_itemAt [xC 4, xI p, xI k] (hF q r A ++ dy) (fun v h2 => v = some (xI (-1)) ∧ h2 = hF q r A ++ dy) := by
  refine xMet_of (by decide) (Nat.le_of_ble_eq_true rfl) (fun v h2 hq => by rw [hq.1]; trivial) ?_
  refine x_iload_n (x_d C_P_itemAt 0 rfl) rfl ?_
  refine x_if_ge (tgt := 6) (x_d C_P_itemAt 1 rfl) rfl (fun q => absurd q (by omega)) (fun _ => ?_)
  refine x_iconst (x_d C_P_itemAt 2 rfl) ⟨by omega, by omega⟩ ?_
  refine x_ireturn (x_d C_P_itemAt 3 rfl) ?_
  exact ⟨rfl, rfl⟩
theorem c_P_namedByTape_n (Z : xZ) (d : Nat) (q : Nat → Int) (r : Nat → Option Nat) (A : Nat → Nat → Int) (dy : xH) (p : Int) (hp : p < 0) : xMet Z d Y_P_namedByTape [xC 4, xI p] (hF q r A ++ dy) (fun v h2 => v = some (xI (-1)) ∧ h2 = hF q r A ++ dy) := by
  refine xMet_of (by decide) (Nat.le_of_ble_eq_true rfl) (fun v h2 hq => by rw [hq.1]; trivial) ?_
  refine x_iload_n (x_d C_P_namedByTape 0 rfl) rfl ?_
  refine x_if_ge (tgt := 6) (x_d C_P_namedByTape 1 rfl) rfl (fun q => absurd q (by omega)) (fun _ => ?_)
  refine x_iconst (x_d C_P_namedByTape 2 rfl) ⟨by omega, by omega⟩ ?_
  refine x_ireturn (x_d C_P_namedByTape 3 rfl) ?_
  exact ⟨rfl, rfl⟩
theorem c_PF_itemN (Z : xZ) (d : Nat) (q : Nat → Int) (r : Nat → Option Nat) (A : Nat → Nat → Int) (dy : xH) (hd : 2 ≤ d) (k : Int) (hp : q 11 < 0) : xMet Z d Y_PF_item [xC 0, xI k] (hF q (x_up (x_up (x_up (x_up r 7 (some 26)) 8 (some 32)) 9 (some 38)) 10 (some 40)) A ++ dy) (fun v h2 => v = some (xI (-2)) ∧ h2 = hF q (x_up (x_up (x_up (x_up r 7 (some 26)) 8 (some 32)) 9 (some 38)) 10 (some 40)) A ++ dy) := by
  refine xMet_of (by decide) (Nat.le_of_ble_eq_true rfl) (fun v h2 hq => by rw [hq.1]; trivial) ?_
  refine x_aload_n (x_d C_PF_item 0 rfl) rfl ?_
  refine x_aload_n (x_d C_PF_item 1 rfl) rfl ?_
  refine x_getfield (v := xC 4) (x_d C_PF_item 2 rfl) f_PF_21 rfl rfl ?_
  refine x_aload_n (x_d C_PF_item 3 rfl) rfl ?_
  refine x_getfield (v := xI (q 11)) (x_d C_PF_item 4 rfl) f_PF_88 rfl rfl ?_
  refine x_iload_n (x_d C_PF_item 5 rfl) rfl ?_
  refine x_invokevirtual (st := [xC 0]) (av := [xI (q 11), xI (k)]) (x_d C_PF_item 6 rfl) k_PF_147 m_P_itemAt v_P_itemAt cl_P rfl rfl (Nat.le_of_ble_eq_true rfl) (by omega) rfl (c_P_itemAt_n Z (d - 1) q (x_up (x_up (x_up (x_up r 7 (some 26)) 8 (some 32)) 9 (some 38)) 10 (some 40)) A dy (q 11) k hp) ?_
  rintro v_ _ ⟨hv_, rfl⟩
  obtain rfl : v_ = some (xI (-1)) := hv_
  refine x_invokevirtual (st := []) (av := [xI (-1)]) (x_d C_PF_item 7 rfl) k_PF_137 m_PF_pointAt v_PF_pointAt cl_PF rfl rfl (Nat.le_of_ble_eq_true rfl) (by omega) rfl (c_PF_pointAt Z (d - 1) q r A dy (-1) (by omega)) ?_
  rintro v_ h_ hpa_
  obtain ⟨a_, rfl⟩ : ∃ a : Int, v_ = some (xI a) := by obtain ⟨_, e, _⟩ | ⟨_, e, _⟩ := hpa_ <;> exact ⟨_, e⟩
  refine x_ireturn (x_d C_PF_item 8 rfl) ?_
  rcases hpa_ with ⟨_, e1, e2⟩ | ⟨e, _⟩
  · exact ⟨e1, e2⟩
  · omega
theorem c_PF_find (Z : xZ) (d : Nat) (q : Nat → Int) (r : Nat → Option Nat) (A : Nat → Nat → Int) (dy : xH) (hd : 5 ≤ d) (hT : 0 ≤ q 34 ∧ q 34 ≤ q 35 ∧ q 35 ≤ 10248) (hR : s_okR A) (hsp : ∀ j, 0 ≤ A 8 j ∧ A 8 j ≤ 12900) (hnm : ∀ j, -1 ≤ A 9 j ∧ A 9 j ≤ 10248) (hp : 0 ≤ q 11 ∧ q 11 < 12900 ∧ s_bh (A 8) (q 11) ≤ 12900) : xMet Z d Y_PF_find [xC 0] (hF q (x_up (x_up (x_up (x_up r 7 (some 26)) 8 (some 32)) 9 (some 38)) 10 (some 40)) A ++ dy) (fun v h2 => ((s_first (fun t => s_tiw (A 2) (q 34) (q 35) (A 9 t.toNat)) (s_in (A 8) (q 11)) < 0 ∧ v = some (xI (-2)) ∧ h2 = hF (x_up q 35 (q 34)) (x_up (x_up (x_up (x_up r 7 (some 26)) 8 (some 32)) 9 (some 38)) 10 (some 40)) A ++ dy) ∨ (0 ≤ s_first (fun t => s_tiw (A 2) (q 34) (q 35) (A 9 t.toNat)) (s_in (A 8) (q 11)) ∧ v = some (xI (A 5 (s_first (fun t => s_tiw (A 2) (q 34) (q 35) (A 9 t.toNat)) (s_in (A 8) (q 11))).toNat)) ∧ h2 = hF (x_up (x_up q 35 (q 34)) 11 (s_first (fun t => s_tiw (A 2) (q 34) (q 35) (A 9 t.toNat)) (s_in (A 8) (q 11)))) (x_up (x_up (x_up (x_up r 7 (some 26)) 8 (some 32)) 9 (some 38)) 10 (some 40)) A ++ dy))) := by
  refine xMet_of (by decide) (Nat.le_of_ble_eq_true rfl) (fun v h2 hq => by obtain ⟨_, e, _⟩ | ⟨_, e, _⟩ := hq <;> rw [e] <;> trivial) ?_
  have hnt : s_first (fun t => s_tiw (A 2) (q 34) (q 35) (A 9 t.toNat)) (s_in (A 8) (q 11)) < 12900 := by
    rcases s_first_in (fun t => s_tiw (A 2) (q 34) (q 35) (A 9 t.toNat)) (s_in (A 8) (q 11)) with h | h
    · omega
    · have := s_in_mem hp.1 h; omega
  refine x_aload_n (x_d C_PF_find 0 rfl) rfl ?_
  refine x_getfield (v := xC 4) (x_d C_PF_find 1 rfl) f_PF_21 rfl rfl ?_
  refine x_aload_n (x_d C_PF_find 2 rfl) rfl ?_
  refine x_getfield (v := xI (q 11)) (x_d C_PF_find 3 rfl) f_PF_88 rfl rfl ?_
  refine x_invokevirtual (st := []) (av := [xI (q 11)]) (x_d C_PF_find 4 rfl) k_PF_151 m_P_namedByTape v_P_namedByTape cl_P rfl rfl (Nat.le_of_ble_eq_true rfl) (by omega) rfl (c_P_namedByTape Z (d - 1) q (x_up (x_up (x_up (x_up r 7 (some 26)) 8 (some 32)) 9 (some 38)) 10 (some 40)) A dy (by omega) (q 11) hT hR hsp hnm hp) ?_
  rintro v_ _ ⟨hv_, rfl⟩
  obtain rfl : v_ = some (xI (s_first (fun t => s_tiw (A 2) (q 34) (q 35) (A 9 t.toNat)) (s_in (A 8) (q 11)))) := hv_
  refine x_istore_n (l1 := [(1, xI (s_first (fun t => s_tiw (A 2) (q 34) (q 35) (A 9 t.toNat)) (s_in (A 8) (q 11)))), (0, xC 0)]) (x_d C_PF_find 5 rfl) (by decide) rfl ?_
  refine x_aload_n (x_d C_PF_find 6 rfl) rfl ?_
  refine x_getfield (v := xC 1) (x_d C_PF_find 7 rfl) f_PF_12 rfl rfl ?_
  refine x_invokevirtual (st := []) (av := []) (x_d C_PF_find 8 rfl) k_PF_117 m_T_dropTape v_T_dropTape cl_T rfl rfl (Nat.le_of_ble_eq_true rfl) (by omega) rfl (c_T_dropTape Z (d - 1) q (x_up (x_up (x_up (x_up r 7 (some 26)) 8 (some 32)) 9 (some 38)) 10 (some 40)) A dy) ?_
  rintro _ _ ⟨rfl, rfl⟩
  refine x_aload_n (x_d C_PF_find 9 rfl) rfl ?_
  refine x_iload_n (x_d C_PF_find 10 rfl) rfl ?_
  refine x_invokevirtual (st := []) (av := [xI (s_first (fun t => s_tiw (A 2) (q 34) (q 35) (A 9 t.toNat)) (s_in (A 8) (q 11)))]) (x_d C_PF_find 11 rfl) k_PF_137 m_PF_pointAt v_PF_pointAt cl_PF rfl rfl (Nat.le_of_ble_eq_true rfl) (by omega) rfl (c_PF_pointAt Z (d - 1) (x_up q 35 (q 34)) r A dy (s_first (fun t => s_tiw (A 2) (q 34) (q 35) (A 9 t.toNat)) (s_in (A 8) (q 11))) (by omega)) ?_
  rintro v_ h_ hpa_
  obtain ⟨a_, rfl⟩ : ∃ a : Int, v_ = some (xI a) := by obtain ⟨_, e, _⟩ | ⟨_, e, _⟩ := hpa_ <;> exact ⟨_, e⟩
  refine x_ireturn (x_d C_PF_find 12 rfl) ?_
  exact hpa_
theorem c_PF_findN (Z : xZ) (d : Nat) (q : Nat → Int) (r : Nat → Option Nat) (A : Nat → Nat → Int) (dy : xH) (hd : 2 ≤ d) (hp : q 11 < 0) : xMet Z d Y_PF_find [xC 0] (hF q (x_up (x_up (x_up (x_up r 7 (some 26)) 8 (some 32)) 9 (some 38)) 10 (some 40)) A ++ dy) (fun v h2 => v = some (xI (-2)) ∧ h2 = hF (x_up q 35 (q 34)) (x_up (x_up (x_up (x_up r 7 (some 26)) 8 (some 32)) 9 (some 38)) 10 (some 40)) A ++ dy) := by
  refine xMet_of (by decide) (Nat.le_of_ble_eq_true rfl) (fun v h2 hq => by rw [hq.1]; trivial) ?_
  refine x_aload_n (x_d C_PF_find 0 rfl) rfl ?_
  refine x_getfield (v := xC 4) (x_d C_PF_find 1 rfl) f_PF_21 rfl rfl ?_
  refine x_aload_n (x_d C_PF_find 2 rfl) rfl ?_
  refine x_getfield (v := xI (q 11)) (x_d C_PF_find 3 rfl) f_PF_88 rfl rfl ?_
  refine x_invokevirtual (st := []) (av := [xI (q 11)]) (x_d C_PF_find 4 rfl) k_PF_151 m_P_namedByTape v_P_namedByTape cl_P rfl rfl (Nat.le_of_ble_eq_true rfl) (by omega) rfl (c_P_namedByTape_n Z (d - 1) q (x_up (x_up (x_up (x_up r 7 (some 26)) 8 (some 32)) 9 (some 38)) 10 (some 40)) A dy (q 11) hp) ?_
  rintro v_ _ ⟨hv_, rfl⟩
  obtain rfl : v_ = some (xI (-1)) := hv_
  refine x_istore_n (l1 := [(1, xI (-1)), (0, xC 0)]) (x_d C_PF_find 5 rfl) (by decide) rfl ?_
  refine x_aload_n (x_d C_PF_find 6 rfl) rfl ?_
  refine x_getfield (v := xC 1) (x_d C_PF_find 7 rfl) f_PF_12 rfl rfl ?_
  refine x_invokevirtual (st := []) (av := []) (x_d C_PF_find 8 rfl) k_PF_117 m_T_dropTape v_T_dropTape cl_T rfl rfl (Nat.le_of_ble_eq_true rfl) (by omega) rfl (c_T_dropTape Z (d - 1) q (x_up (x_up (x_up (x_up r 7 (some 26)) 8 (some 32)) 9 (some 38)) 10 (some 40)) A dy) ?_
  rintro _ _ ⟨rfl, rfl⟩
  refine x_aload_n (x_d C_PF_find 9 rfl) rfl ?_
  refine x_iload_n (x_d C_PF_find 10 rfl) rfl ?_
  refine x_invokevirtual (st := []) (av := [xI (-1)]) (x_d C_PF_find 11 rfl) k_PF_137 m_PF_pointAt v_PF_pointAt cl_PF rfl rfl (Nat.le_of_ble_eq_true rfl) (by omega) rfl (c_PF_pointAt Z (d - 1) (x_up q 35 (q 34)) r A dy (-1) (by omega)) ?_
  rintro v_ h_ hpa_
  obtain ⟨a_, rfl⟩ : ∃ a : Int, v_ = some (xI a) := by obtain ⟨_, e, _⟩ | ⟨_, e, _⟩ := hpa_ <;> exact ⟨_, e⟩
  refine x_ireturn (x_d C_PF_find 12 rfl) ?_
  rcases hpa_ with ⟨_, e1, e2⟩ | ⟨e, _⟩
  · exact ⟨e1, e2⟩
  · omega
theorem c_PF_follow (Z : xZ) (d : Nat) (q : Nat → Int) (r : Nat → Option Nat) (A : Nat → Nat → Int) (dy : xH) (hd : 2 ≤ d) (hz : 0 ≤ q 837 ∧ q 837 ≤ 300) (hrt : ∀ k : Nat, (k : Int) < q 837 → ¬ A 29 k = 0 → 0 ≤ A 27 k ∧ A 27 k < 12900) (hp : q 11 < 12900) : xMet Z d Y_PF_follow [xC 0] (hF q (x_up (x_up (x_up (x_up r 7 (some 26)) 8 (some 32)) 9 (some 38)) 10 (some 40)) A ++ dy) (fun v h2 => (((if s_ldt (A 5) (A 6) (A 7) (A 28) (A 29) (q 837) (q 11) < 0 then -1 else A 27 (s_ldt (A 5) (A 6) (A 7) (A 28) (A 29) (q 837) (q 11)).toNat) < 0 ∧ v = some (xI (-2)) ∧ h2 = hF q (x_up (x_up (x_up (x_up r 7 (some 26)) 8 (some 32)) 9 (some 38)) 10 (some 40)) A ++ dy) ∨ (0 ≤ (if s_ldt (A 5) (A 6) (A 7) (A 28) (A 29) (q 837) (q 11) < 0 then -1 else A 27 (s_ldt (A 5) (A 6) (A 7) (A 28) (A 29) (q 837) (q 11)).toNat) ∧ v = some (xI (A 5 ((if s_ldt (A 5) (A 6) (A 7) (A 28) (A 29) (q 837) (q 11) < 0 then -1 else A 27 (s_ldt (A 5) (A 6) (A 7) (A 28) (A 29) (q 837) (q 11)).toNat)).toNat)) ∧ h2 = hF (x_up q 11 ((if s_ldt (A 5) (A 6) (A 7) (A 28) (A 29) (q 837) (q 11) < 0 then -1 else A 27 (s_ldt (A 5) (A 6) (A 7) (A 28) (A 29) (q 837) (q 11)).toNat))) (x_up (x_up (x_up (x_up r 7 (some 26)) 8 (some 32)) 9 (some 38)) 10 (some 40)) A ++ dy))) := by
  refine xMet_of (by decide) (Nat.le_of_ble_eq_true rfl) (fun v h2 hq => by obtain ⟨_, e, _⟩ | ⟨_, e, _⟩ := hq <;> rw [e] <;> trivial) ?_
  have hl := s_ldt_in (A 5) (A 6) (A 7) (A 28) (A 29) (q 837) (q 11)
  have hr := hrt (s_ldt (A 5) (A 6) (A 7) (A 28) (A 29) (q 837) (q 11)).toNat
  have hr3 : 0 ≤ s_ldt (A 5) (A 6) (A 7) (A 28) (A 29) (q 837) (q 11) → 0 ≤ A 27 (s_ldt (A 5) (A 6) (A 7) (A 28) (A 29) (q 837) (q 11)).toNat ∧ A 27 (s_ldt (A 5) (A 6) (A 7) (A 28) (A 29) (q 837) (q 11)).toNat < 12900 := fun z => hr (by omega) (by rcases hl with e | e; omega; exact e.2.2)
  clear hr
  refine x_aload_n (x_d C_PF_follow 0 rfl) rfl ?_
  refine x_getfield (v := xC 26) (x_d C_PF_follow 1 rfl) f_PF_69 rfl rfl ?_
  refine x_aload_n (x_d C_PF_follow 2 rfl) rfl ?_
  refine x_getfield (v := xI (q 11)) (x_d C_PF_follow 3 rfl) f_PF_88 rfl rfl ?_
  refine x_invokevirtual (st := []) (av := [xI (q 11)]) (x_d C_PF_follow 4 rfl) k_PF_154 m_B_leadsTo v_B_leadsTo cl_B rfl rfl (Nat.le_of_ble_eq_true rfl) (by omega) rfl (c_B_leadsTo_26 Z (d - 1) q (x_up (x_up (x_up (x_up r 7 (some 26)) 8 (some 32)) 9 (some 38)) 10 (some 40)) A dy (by omega) (q 11) hz (by omega)) ?_
  rintro v_ _ ⟨hv_, rfl⟩
  obtain rfl : v_ = some (xI (s_ldt (A 5) (A 6) (A 7) (A 28) (A 29) (q 837) (q 11))) := hv_
  refine x_istore_n (l1 := [(1, xI (s_ldt (A 5) (A 6) (A 7) (A 28) (A 29) (q 837) (q 11))), (0, xC 0)]) (x_d C_PF_follow 5 rfl) (by decide) rfl ?_
  refine x_aload_n (x_d C_PF_follow 6 rfl) rfl ?_
  refine x_iload_n (x_d C_PF_follow 7 rfl) rfl ?_
  refine x_if_ge (tgt := 21) (x_d C_PF_follow 8 rfl) rfl (fun c1 => ?_) (fun c1 => ?_)
  · refine x_aload_n (x_d C_PF_follow 11 rfl) rfl ?_
    refine x_getfield (v := xC 26) (x_d C_PF_follow 12 rfl) f_PF_69 rfl rfl ?_
    refine x_getfield (v := xC 27) (x_d C_PF_follow 13 rfl) f_PF_133 rfl rfl ?_
    have hr4 := hr3 (by omega)
    refine x_iload_n (x_d C_PF_follow 14 rfl) rfl ?_
    refine x_iaload (f := A 27) (x_d C_PF_follow 15 rfl) rfl (by omega) (by omega) ?_
    refine x_invokevirtual (st := []) (av := [xI (A 27 (s_ldt (A 5) (A 6) (A 7) (A 28) (A 29) (q 837) (q 11)).toNat)]) (x_d C_PF_follow 16 rfl) k_PF_137 m_PF_pointAt v_PF_pointAt cl_PF rfl rfl (Nat.le_of_ble_eq_true rfl) (by omega) rfl (c_PF_pointAt Z (d - 1) q r A dy (A 27 (s_ldt (A 5) (A 6) (A 7) (A 28) (A 29) (q 837) (q 11)).toNat) (by omega)) ?_
    rintro v_ h_ hpa_
    obtain ⟨a_, rfl⟩ : ∃ a : Int, v_ = some (xI a) := by obtain ⟨_, e, _⟩ | ⟨_, e, _⟩ := hpa_ <;> exact ⟨_, e⟩
    refine x_ireturn (x_d C_PF_follow 17 rfl) ?_
    rw [if_neg (by omega)]
    exact hpa_
  · refine x_iconst (x_d C_PF_follow 9 rfl) ⟨by omega, by omega⟩ ?_
    refine x_goto (tgt := 30) (x_d C_PF_follow 10 rfl) rfl ?_
    refine x_invokevirtual (st := []) (av := [xI (-1)]) (x_d C_PF_follow 16 rfl) k_PF_137 m_PF_pointAt v_PF_pointAt cl_PF rfl rfl (Nat.le_of_ble_eq_true rfl) (by omega) rfl (c_PF_pointAt Z (d - 1) q r A dy (-1) (by omega)) ?_
    rintro v_ h_ hpa_
    obtain ⟨a_, rfl⟩ : ∃ a : Int, v_ = some (xI a) := by obtain ⟨_, e, _⟩ | ⟨_, e, _⟩ := hpa_ <;> exact ⟨_, e⟩
    refine x_ireturn (x_d C_PF_follow 17 rfl) ?_
    rw [if_pos (by omega)]
    exact hpa_
theorem c_PF_look (Z : xZ) (d : Nat) (q : Nat → Int) (r : Nat → Option Nat) (A : Nat → Nat → Int) (dy : xH) (hd : 4 ≤ d) (k : Int) (hsp : ∀ j, 0 ≤ A 8 j ∧ A 8 j ≤ 12900) (hp : 0 ≤ q 11 ∧ q 11 < 12900 ∧ s_bh (A 8) (q 11) ≤ 12900) : xMet Z d Y_PF_look [xC 0, xI k] (hF q (x_up (x_up (x_up (x_up r 7 (some 26)) 8 (some 32)) 9 (some 38)) 10 (some 40)) A ++ dy) (fun v h2 => v = some (xI (if ¬ (0 ≤ k ∧ k ≤ 2) then -1 else if k = 0 then A 5 (q 11).toNat else if k = 1 then (if A 5 (q 11).toNat = 3 ∨ A 5 (q 11).toNat = 8 then A 6 (q 11).toNat else if A 5 (q 11).toNat = 4 ∨ A 5 (q 11).toNat = 5 ∨ A 5 (q 11).toNat = 9 then A 7 (q 11).toNat else ((s_in (A 8) (q 11)).length : Int)) else (if A 5 (q 11).toNat = 8 then A 7 (q 11).toNat else if A 5 (q 11).toNat = 9 then ((s_in (A 8) (q 11)).length : Int) else 0))) ∧ h2 = hF q (x_up (x_up (x_up (x_up r 7 (some 26)) 8 (some 32)) 9 (some 38)) 10 (some 40)) A ++ dy) := by
  refine xMet_of (by decide) (Nat.le_of_ble_eq_true rfl) (fun v h2 hq => by rw [hq.1]; trivial) ?_
  refine x_iload_n (x_d C_PF_look 0 rfl) rfl ?_
  refine x_if_lt (tgt := 9) (x_d C_PF_look 1 rfl) rfl (fun c1 => ?_) (fun c1 => ?_)
  · refine x_iconst (x_d C_PF_look 5 rfl) ⟨by omega, by omega⟩ ?_
    refine x_ireturn (x_d C_PF_look 6 rfl) ?_
    rw [if_pos (by omega)]
    exact ⟨rfl, rfl⟩
  · refine x_iload_n (x_d C_PF_look 2 rfl) rfl ?_
    refine x_iconst (x_d C_PF_look 3 rfl) ⟨by omega, by omega⟩ ?_
    refine x_icmp_le (tgt := 11) (x_d C_PF_look 4 rfl) rfl (fun c2 => ?_) (fun c2 => ?_)
    · refine x_aload_n (x_d C_PF_look 7 rfl) rfl ?_
      refine x_getfield (v := xI (q 11)) (x_d C_PF_look 8 rfl) f_PF_88 rfl rfl ?_
      refine x_if_ge (tgt := 21) (x_d C_PF_look 9 rfl) rfl (fun _ => ?_) (fun q => absurd q (by omega))
      refine x_iload_n (x_d C_PF_look 12 rfl) rfl ?_
      refine x_if_ne (tgt := 38) (x_d C_PF_look 13 rfl) rfl (fun c4 => ?_) (fun c4 => ?_)
      · refine x_iload_n (x_d C_PF_look 21 rfl) rfl ?_
        refine x_iconst (x_d C_PF_look 22 rfl) ⟨by omega, by omega⟩ ?_
        refine x_icmp_ne (tgt := 57) (x_d C_PF_look 23 rfl) rfl (fun c5 => ?_) (fun c5 => ?_)
        · refine x_aload_n (x_d C_PF_look 30 rfl) rfl ?_
          refine x_getfield (v := xC 4) (x_d C_PF_look 31 rfl) f_PF_21 rfl rfl ?_
          refine x_aload_n (x_d C_PF_look 32 rfl) rfl ?_
          refine x_getfield (v := xI (q 11)) (x_d C_PF_look 33 rfl) f_PF_88 rfl rfl ?_
          refine x_invokevirtual (st := []) (av := [xI (q 11)]) (x_d C_PF_look 34 rfl) k_PF_163 m_P_secondMeasure v_P_secondMeasure cl_P rfl rfl (Nat.le_of_ble_eq_true rfl) (by omega) rfl (c_P_secondMeasure Z (d - 1) q (x_up (x_up (x_up (x_up r 7 (some 26)) 8 (some 32)) 9 (some 38)) 10 (some 40)) A dy (by omega) (q 11) hsp hp) ?_
          rintro v_ _ ⟨hv_, rfl⟩
          obtain rfl : v_ = some (xI (if A 5 (q 11).toNat = 8 then A 7 (q 11).toNat else if A 5 (q 11).toNat = 9 then ((s_in (A 8) (q 11)).length : Int) else 0)) := hv_
          refine x_ireturn (x_d C_PF_look 35 rfl) ?_
          rw [if_neg (show ¬ ¬ (0 ≤ k ∧ k ≤ 2) by omega), if_neg (show ¬ k = 0 by omega), if_neg (show ¬ k = 1 by omega)]
          exact ⟨rfl, rfl⟩
        · refine x_aload_n (x_d C_PF_look 24 rfl) rfl ?_
          refine x_getfield (v := xC 4) (x_d C_PF_look 25 rfl) f_PF_21 rfl rfl ?_
          refine x_aload_n (x_d C_PF_look 26 rfl) rfl ?_
          refine x_getfield (v := xI (q 11)) (x_d C_PF_look 27 rfl) f_PF_88 rfl rfl ?_
          refine x_invokevirtual (st := []) (av := [xI (q 11)]) (x_d C_PF_look 28 rfl) k_PF_160 m_P_measure v_P_measure cl_P rfl rfl (Nat.le_of_ble_eq_true rfl) (by omega) rfl (c_P_measure Z (d - 1) q (x_up (x_up (x_up (x_up r 7 (some 26)) 8 (some 32)) 9 (some 38)) 10 (some 40)) A dy (by omega) (q 11) hsp hp) ?_
          rintro v_ _ ⟨hv_, rfl⟩
          obtain rfl : v_ = some (xI (if A 5 (q 11).toNat = 3 ∨ A 5 (q 11).toNat = 8 then A 6 (q 11).toNat else if A 5 (q 11).toNat = 4 ∨ A 5 (q 11).toNat = 5 ∨ A 5 (q 11).toNat = 9 then A 7 (q 11).toNat else ((s_in (A 8) (q 11)).length : Int))) := hv_
          refine x_goto (tgt := 68) (x_d C_PF_look 29 rfl) rfl ?_
          refine x_ireturn (x_d C_PF_look 35 rfl) ?_
          rw [if_neg (show ¬ ¬ (0 ≤ k ∧ k ≤ 2) by omega), if_neg (show ¬ k = 0 by omega), if_pos (show k = 1 by omega)]
          exact ⟨rfl, rfl⟩
      · refine x_aload_n (x_d C_PF_look 14 rfl) rfl ?_
        refine x_getfield (v := xC 4) (x_d C_PF_look 15 rfl) f_PF_21 rfl rfl ?_
        refine x_getfield (v := xC 5) (x_d C_PF_look 16 rfl) f_PF_157 rfl rfl ?_
        refine x_aload_n (x_d C_PF_look 17 rfl) rfl ?_
        refine x_getfield (v := xI (q 11)) (x_d C_PF_look 18 rfl) f_PF_88 rfl rfl ?_
        refine x_iaload (f := A 5) (x_d C_PF_look 19 rfl) rfl (by omega) (by omega) ?_
        refine x_ireturn (x_d C_PF_look 20 rfl) ?_
        rw [if_neg (by omega), if_pos (by omega)]
        exact ⟨rfl, rfl⟩
    · refine x_iconst (x_d C_PF_look 5 rfl) ⟨by omega, by omega⟩ ?_
      refine x_ireturn (x_d C_PF_look 6 rfl) ?_
      rw [if_pos (by omega)]
      exact ⟨rfl, rfl⟩
theorem c_PF_lookN (Z : xZ) (d : Nat) (q : Nat → Int) (r : Nat → Option Nat) (A : Nat → Nat → Int) (dy : xH) (k : Int) (hp : q 11 < 0) : xMet Z d Y_PF_look [xC 0, xI k] (hF q (x_up (x_up (x_up (x_up r 7 (some 26)) 8 (some 32)) 9 (some 38)) 10 (some 40)) A ++ dy) (fun v h2 => v = some (xI (if ¬ (0 ≤ k ∧ k ≤ 2) then -1 else -2)) ∧ h2 = hF q (x_up (x_up (x_up (x_up r 7 (some 26)) 8 (some 32)) 9 (some 38)) 10 (some 40)) A ++ dy) := by
  refine xMet_of (by decide) (Nat.le_of_ble_eq_true rfl) (fun v h2 hq => by rw [hq.1]; trivial) ?_
  refine x_iload_n (x_d C_PF_look 0 rfl) rfl ?_
  refine x_if_lt (tgt := 9) (x_d C_PF_look 1 rfl) rfl (fun c1 => ?_) (fun c1 => ?_)
  · refine x_iconst (x_d C_PF_look 5 rfl) ⟨by omega, by omega⟩ ?_
    refine x_ireturn (x_d C_PF_look 6 rfl) ?_
    rw [if_pos (by omega)]
    exact ⟨rfl, rfl⟩
  · refine x_iload_n (x_d C_PF_look 2 rfl) rfl ?_
    refine x_iconst (x_d C_PF_look 3 rfl) ⟨by omega, by omega⟩ ?_
    refine x_icmp_le (tgt := 11) (x_d C_PF_look 4 rfl) rfl (fun c2 => ?_) (fun c2 => ?_)
    · refine x_aload_n (x_d C_PF_look 7 rfl) rfl ?_
      refine x_getfield (v := xI (q 11)) (x_d C_PF_look 8 rfl) f_PF_88 rfl rfl ?_
      refine x_if_ge (tgt := 21) (x_d C_PF_look 9 rfl) rfl (fun q => absurd q (by omega)) (fun _ => ?_)
      refine x_bipush (x_d C_PF_look 10 rfl) (by omega) ?_
      refine x_ireturn (x_d C_PF_look 11 rfl) ?_
      rw [if_neg (by omega)]
      exact ⟨rfl, rfl⟩
    · refine x_iconst (x_d C_PF_look 5 rfl) ⟨by omega, by omega⟩ ?_
      refine x_ireturn (x_d C_PF_look 6 rfl) ?_
      rw [if_pos (by omega)]
      exact ⟨rfl, rfl⟩
theorem c_PF_octet (Z : xZ) (d : Nat) (q : Nat → Int) (r : Nat → Option Nat) (A : Nat → Nat → Int) (dy : xH) (i : Int) (hn : 0 ≤ q 1217 ∧ q 1217 ≤ 6000) : xMet Z d Y_PF_octet [xC 0, xI i] (hF q (x_up (x_up (x_up (x_up r 7 (some 26)) 8 (some 32)) 9 (some 38)) 10 (some 40)) A ++ dy) (fun v h2 => v = some (xI (if i = -1 then q 1217 else if 0 ≤ i ∧ i < q 1217 then A 39 i.toNat % 256 else -2)) ∧ h2 = hF q (x_up (x_up (x_up (x_up r 7 (some 26)) 8 (some 32)) 9 (some 38)) 10 (some 40)) A ++ dy) := by
  refine xMet_of (by decide) (Nat.le_of_ble_eq_true rfl) (fun v h2 hq => by rw [hq.1]; trivial) ?_
  refine x_iload_n (x_d C_PF_octet 0 rfl) rfl ?_
  refine x_iconst (x_d C_PF_octet 1 rfl) ⟨by omega, by omega⟩ ?_
  refine x_icmp_ne (tgt := 13) (x_d C_PF_octet 2 rfl) rfl (fun c1 => ?_) (fun c1 => ?_)
  · refine x_iload_n (x_d C_PF_octet 7 rfl) rfl ?_
    refine x_if_lt (tgt := 44) (x_d C_PF_octet 8 rfl) rfl (fun c2 => ?_) (fun c2 => ?_)
    · refine x_bipush (x_d C_PF_octet 22 rfl) (by omega) ?_
      refine x_ireturn (x_d C_PF_octet 23 rfl) ?_
      rw [if_neg (by omega), if_neg (by omega)]
      exact ⟨rfl, rfl⟩
    · refine x_iload_n (x_d C_PF_octet 9 rfl) rfl ?_
      refine x_aload_n (x_d C_PF_octet 10 rfl) rfl ?_
      refine x_getfield (v := xC 38) (x_d C_PF_octet 11 rfl) f_PF_81 rfl rfl ?_
      refine x_getfield (v := xI (q 1217)) (x_d C_PF_octet 12 rfl) f_PF_179 rfl rfl ?_
      refine x_icmp_ge (tgt := 44) (x_d C_PF_octet 13 rfl) rfl (fun c3 => ?_) (fun c3 => ?_)
      · refine x_bipush (x_d C_PF_octet 22 rfl) (by omega) ?_
        refine x_ireturn (x_d C_PF_octet 23 rfl) ?_
        rw [if_neg (by omega), if_neg (by omega)]
        exact ⟨rfl, rfl⟩
      · refine x_aload_n (x_d C_PF_octet 14 rfl) rfl ?_
        refine x_getfield (v := xC 38) (x_d C_PF_octet 15 rfl) f_PF_81 rfl rfl ?_
        refine x_getfield (v := xC 39) (x_d C_PF_octet 16 rfl) f_PF_208 rfl rfl ?_
        refine x_iload_n (x_d C_PF_octet 17 rfl) rfl ?_
        refine x_baload (f := A 39) (x_d C_PF_octet 18 rfl) rfl (by omega) (by omega) ?_
        refine x_sipush (x_d C_PF_octet 19 rfl) (by omega) ?_
        refine x_iand255 (x_d C_PF_octet 20 rfl) ?_
        refine x_goto (tgt := 46) (x_d C_PF_octet 21 rfl) rfl ?_
        refine x_ireturn (x_d C_PF_octet 23 rfl) ?_
        rw [if_neg (by omega), if_pos (by omega)]
        exact ⟨rfl, rfl⟩
  · refine x_aload_n (x_d C_PF_octet 3 rfl) rfl ?_
    refine x_getfield (v := xC 38) (x_d C_PF_octet 4 rfl) f_PF_81 rfl rfl ?_
    refine x_getfield (v := xI (q 1217)) (x_d C_PF_octet 5 rfl) f_PF_179 rfl rfl ?_
    refine x_ireturn (x_d C_PF_octet 6 rfl) ?_
    rw [if_pos (by omega)]
    exact ⟨rfl, rfl⟩
theorem c_PF_end (Z : xZ) (d : Nat) (q : Nat → Int) (r : Nat → Option Nat) (A : Nat → Nat → Int) (dy : xH) (hd : 1 ≤ d) (n : Int) (hT : 0 ≤ q 34 ∧ q 34 ≤ q 35 ∧ q 35 ≤ 10248) : xMet Z d Y_PF_end [xC 0, xI n] (hF q (x_up (x_up (x_up (x_up r 7 (some 26)) 8 (some 32)) 9 (some 38)) 10 (some 40)) A ++ dy) (fun v h2 => (¬ (0 ≤ n ∧ n ≤ q 35 - q 34) ∧ v = some (xI (-1)) ∧ h2 = hF q (x_up (x_up (x_up (x_up r 7 (some 26)) 8 (some 32)) 9 (some 38)) 10 (some 40)) A ++ dy) ∨ ((0 ≤ n ∧ n ≤ q 35 - q 34) ∧ v = some (xI n) ∧ h2 = hF (x_up q 35 (q 34 + n)) (x_up (x_up (x_up (x_up r 7 (some 26)) 8 (some 32)) 9 (some 38)) 10 (some 40)) A ++ dy)) := by
  refine xMet_of (by decide) (Nat.le_of_ble_eq_true rfl) (fun v h2 hq => by obtain ⟨_, e, _⟩ | ⟨_, e, _⟩ := hq <;> rw [e] <;> trivial) ?_
  refine x_iload_n (x_d C_PF_end 0 rfl) rfl ?_
  refine x_if_lt (tgt := 15) (x_d C_PF_end 1 rfl) rfl (fun c1 => ?_) (fun c1 => ?_)
  · refine x_iconst (x_d C_PF_end 7 rfl) ⟨by omega, by omega⟩ ?_
    refine x_ireturn (x_d C_PF_end 8 rfl) ?_
    exact Or.inl ⟨by omega, rfl, rfl⟩
  · refine x_iload_n (x_d C_PF_end 2 rfl) rfl ?_
    refine x_aload_n (x_d C_PF_end 3 rfl) rfl ?_
    refine x_getfield (v := xC 1) (x_d C_PF_end 4 rfl) f_PF_12 rfl rfl ?_
    refine x_invokevirtual (st := [xI (n)]) (av := []) (x_d C_PF_end 5 rfl) k_PF_92 m_T_tapeSize v_T_tapeSize cl_T rfl rfl (Nat.le_of_ble_eq_true rfl) (by omega) rfl (c_T_tapeSize Z (d - 1) q (x_up (x_up (x_up (x_up r 7 (some 26)) 8 (some 32)) 9 (some 38)) 10 (some 40)) A dy hT) ?_
    rintro v_ _ ⟨hv_, rfl⟩
    obtain rfl : v_ = some (xI (q 35 - q 34)) := hv_
    refine x_icmp_le (tgt := 17) (x_d C_PF_end 6 rfl) rfl (fun c2 => ?_) (fun c2 => ?_)
    · refine x_aload_n (x_d C_PF_end 9 rfl) rfl ?_
      refine x_getfield (v := xC 1) (x_d C_PF_end 10 rfl) f_PF_12 rfl rfl ?_
      refine x_iload_n (x_d C_PF_end 11 rfl) rfl ?_
      refine x_invokevirtual (st := []) (av := [xI (n)]) (x_d C_PF_end 12 rfl) k_PF_103 m_T_cutTape v_T_cutTape cl_T rfl rfl (Nat.le_of_ble_eq_true rfl) (by omega) rfl (c_T_cutTape Z (d - 1) q (x_up (x_up (x_up (x_up r 7 (some 26)) 8 (some 32)) 9 (some 38)) 10 (some 40)) A dy n hT (by omega)) ?_
      rintro _ _ ⟨rfl, rfl⟩
      refine x_iload_n (x_d C_PF_end 13 rfl) rfl ?_
      refine x_ireturn (x_d C_PF_end 14 rfl) ?_
      exact Or.inr ⟨by omega, rfl, rfl⟩
    · refine x_iconst (x_d C_PF_end 7 rfl) ⟨by omega, by omega⟩ ?_
      refine x_ireturn (x_d C_PF_end 8 rfl) ?_
      exact Or.inl ⟨by omega, rfl, rfl⟩
