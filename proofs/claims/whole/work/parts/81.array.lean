/-! the reference: an array -/
theorem c_M_array (Z : xZ) (d : Nat) (q : Nat → Int) (r : Nat → Option Nat) (A : Nat → Nat → Int) (dy : xH) (D : Nat) (hD : D ≤ 8) (hd : 3 * D + 14 ≤ d) (X : Nat → Int) (f j : Int) (tz : Nat → Int) (g : Nat → Option xE) (hg : gok g dy) (hf : 0 ≤ f) (hn : 0 ≤ q 1345 ∧ q 1345 ≤ 4000) (hX : ∀ k : Nat, (k : Int) < q 1345 → A 44 k = X (f.toNat + k)) (hj : 0 ≤ j ∧ j ≤ q 1345) (hB : ∀ k, -128 ≤ X k ∧ X k ≤ 127) (hrec : OD Z q r A X f D) (e : Int) (he : e = 7 - (D : Int)) (hlt : j < q 1345) : xMet Z d Y_M_array [xC 42, xI e] (hF (x_up q 1346 j) (x_up r 1344 (some 44)) (x_up A 43 tz) ++ dy) (orq q r A dy X f g (fun u w => (u + 7 * w) + (u + 4 * w) + k_its (s_val X (f + q 1345) D) (k_val u w X (f + q 1345) D) u w X (f + q 1345) 60 0 (s_sc s_white X (f + q 1345) (f + j + 1))) (D + 2) (s_bx 6 [] (s_items (s_val X (f + q 1345) D) X (f + q 1345) 60 (s_sc s_white X (f + q 1345) (f + j + 1))))) := by
  refine xMet_of (by decide) (Nat.le_of_ble_eq_true rfl) (fun v h2 hq => orq_rok hq) ?_
  refine x_iload_n (x_d C_M_array 0 rfl) rfl ?_
  refine x_bipush (x_d C_M_array 1 rfl) (by omega) ?_
  refine x_icmp_ne (tgt := 8) (x_d C_M_array 2 rfl) rfl (fun _ => ?_) (fun q => absurd q (by omega))
  refine x_aload_n (x_d C_M_array 5 rfl) rfl ?_
  refine x_dup (x_d C_M_array 6 rfl) rfl ?_
  refine x_getfield (v := xI (j)) (x_d C_M_array 7 rfl) f_M_7 rfl rfl ?_
  refine x_iconst (x_d C_M_array 8 rfl) ⟨by omega, by omega⟩ ?_
  refine x_iadd (x_d C_M_array 9 rfl) ⟨by omega, by omega⟩ ?_
  refine x_putfield (h1 := hF (x_up q 1346 (j + 1)) (x_up r 1344 (some 44)) (x_up A 43 tz) ++ dy) (x_d C_M_array 10 rfl) p_M_7 rfl rfl rfl trivial rfl ?_
  refine x_newL (k := 52 + dy.length) (h1 := hF (x_up q 1346 (j + 1)) (x_up r 1344 (some 44)) (x_up A 43 tz) ++ (dy ++ [xB 12 [xI (0), xI (0), xI (0), xI (0), xN, xN, xN]])) (x_d C_M_array 11 rfl) n_M_82 (g_len0 _ _ _ _) (g_push0 _ _ _ _ _) ?_
  refine x_dup (x_d C_M_array 12 rfl) rfl ?_
  refine x_bipush (x_d C_M_array 13 rfl) (by omega) ?_
  refine x_invokespecial (st := [xC (52 + dy.length)]) (av := [xI (6)]) (x_d C_M_array 14 rfl) k_M_84 m_MQ_init rfl v_MQ_init rfl (Nat.le_of_ble_eq_true rfl) (by omega) rfl (c_MQ_init Z (d - 1) (hF (x_up q 1346 (j + 1)) (x_up r 1344 (some 44)) (x_up A 43 tz) ++ (dy ++ [xB 12 [xI (0), xI (0), xI (0), xI (0), xN, xN, xN]])) (by omega) (52 + dy.length) 6 (ct_get (ct_new0 dy [xB 12 [xI (0), xI (0), xI (0), xI (0), xN, xN, xN]] rfl) _ _ _)) ?_
  rintro _ h_ ⟨rfl, hh_⟩
  obtain rfl : h_ = hF (x_up q 1346 (j + 1)) (x_up r 1344 (some 44)) (x_up A 43 tz) ++ (dy ++ [xB 12 [xI (6), xI (0), xI (0), xI (0), xN, xN, xN]]) := hh_.trans (g_setl0 _ _ _ _ [xB 12 [xI (0), xI (0), xI (0), xI (0), xN, xN, xN]] _)
  refine x_astore_n (l1 := [(2, xC (52 + dy.length)), (0, xC 42), (1, xI (e))]) (x_d C_M_array 15 rfl) (by decide) rfl ?_
  refine x_aload_n (x_d C_M_array 16 rfl) rfl ?_
  refine x_iconst (x_d C_M_array 17 rfl) ⟨by omega, by omega⟩ ?_
  refine x_anewarray4 (k := 52 + dy.length + 1) (h1 := hF (x_up q 1346 (j + 1)) (x_up r 1344 (some 44)) (x_up A 43 tz) ++ (dy ++ [xB 12 [xI (6), xI (0), xI (0), xI (0), xN, xN, xN], xQ 4 4 (fun _ => none)])) (x_d C_M_array 18 rfl) qn_M_82 (by omega) (by omega) (g_len _ _ _ _ [xB 12 [xI (6), xI (0), xI (0), xI (0), xN, xN, xN]] rfl) (g_push _ _ _ _ [xB 12 [xI (6), xI (0), xI (0), xI (0), xN, xN, xN]] _) ?_
  refine x_putfield (h1 := hF (x_up q 1346 (j + 1)) (x_up r 1344 (some 44)) (x_up A 43 tz) ++ (dy ++ [xB 12 [xI (6), xI (0), xI (0), xI (0), xN, xC (52 + dy.length + 1), xN], xQ 4 4 (fun _ => none)])) (x_d C_M_array 19 rfl) p_M_141 (ct_get (ct_new0 dy [xB 12 [xI (6), xI (0), xI (0), xI (0), xN, xN, xN], xQ 4 4 (fun _ => none)] rfl) _ _ _) rfl rfl trivial (g_setl0 _ _ _ _ [xB 12 [xI (6), xI (0), xI (0), xI (0), xN, xN, xN], xQ 4 4 (fun _ => none)] _) ?_
  refine x_locs [1, 2, 0] rfl ?_
  obtain ⟨ny, hny⟩ : ∃ ny : xH, ny = [xB 12 [xI 6, xI 0, xI 0, xI 0, xN, xC (52 + dy.length + 1), xN], xQ 4 4 (fun _ => none)] := ⟨_, rfl⟩
  have hAS : AS X (f + q 1345) dy g (52 + dy.length) (D + 1) ny (52 + dy.length + 1) 4 (fun _ => none) g [] [] := by
    have hno : ∀ k, 52 + dy.length ≤ k → g k = none := fun k hk => by
      cases hz : g k with
      | none => rfl
      | some z => have := ct_lt (hg _ _ hz); omega
    rw [hny]
    exact ⟨ct_new0 dy _ rfl, ct_new dy _ 1 rfl, ⟨Nat.le_refl _, by omega, by omega⟩, gok_app hg _, gle_rf g, gnw_rf g _, hno _ (Nat.le_refl _), hno _ (by omega), KL_nil _ _ _ _ _ _, fun x hx => (by cases hx), Or.inl rfl, by decide, by decide⟩
  have hmu0 : ∀ u w, mu u w ny = (u + 7 * w) + (u + 4 * w) := fun u w => by rw [hny, mu_cons, mu_cons, mu_nil]; show u + w * 7 + (u + w * 4 + 0) = _; omega
  rw [← hny]
  refine x_aload_n (x_d C_M_array 20 rfl) rfl ?_
  refine x_invokevirtual (st := []) (av := []) (x_d C_M_array 21 rfl) k_M_59 m_M_white v_M_white cl_M rfl rfl (Nat.le_of_ble_eq_true rfl) (by omega) rfl (c_M_white Z (d - 1) q r (x_up A 43 tz) (dy ++ ny) (by omega) X f (j + 1) hf hn hX (by omega)) ?_
  rintro _ h_ ⟨rfl, hh_⟩
  obtain ⟨j102, hj102⟩ : ∃ z, z = s_sc s_white X (f + q 1345) (f + (j + 1)) - f := ⟨_, rfl⟩
  rw [← hj102] at hh_
  subst hh_
  have hj102a := s_sc_ge s_white X (f + q 1345) (f + (j + 1))
  have hj102b := s_sc_le s_white X (n := (f + q 1345)) (t := f + (j + 1)) (by omega)
  refine x_locs [0, 1, 2] rfl ?_
  have := w_M_array_40 Z d q r A dy D hD (by omega) X f g (fun u w => (u + 7 * w) + (u + 4 * w) + k_its (s_val X (f + q 1345) D) (k_val u w X (f + q 1345) D) u w X (f + q 1345) 60 0 (s_sc s_white X (f + q 1345) (f + j + 1))) hf hn hX hB hrec e he (52 + dy.length) 60 j102 tz ny (52 + dy.length + 1) 4 (fun _ => none) g [] [] rfl (by omega) (by rw [hj102, show f + (s_sc s_white X (f + q 1345) (f + (j + 1)) - f) = s_sc s_white X (f + q 1345) (f + (j + 1)) by omega]; exact s_sc_id _ _ _ _) hAS (fun u w => by rw [hmu0 u w, show f + j102 = s_sc s_white X (f + q 1345) (f + j + 1) by rw [hj102, Int.add_assoc]; omega]; exact Nat.le_refl _)
  rw [show f + j102 = s_sc s_white X (f + q 1345) (f + j + 1) by rw [hj102, Int.add_assoc]; omega] at this
  exact this
theorem c_M_array8 (Z : xZ) (d : Nat) (q : Nat → Int) (r : Nat → Option Nat) (A : Nat → Nat → Int) (dy : xH) (X : Nat → Int) (f j : Int) (tz : Nat → Int) (g : Nat → Option xE) (K : Nat → Nat → Nat) (D : Nat) (hj : 0 ≤ j ∧ j ≤ q 1345) : xMet Z d Y_M_array [xC 42, xI 8] (hF (x_up q 1346 j) (x_up r 1344 (some 44)) (x_up A 43 tz) ++ dy) (orq q r A dy X f g K D none) := by
  refine xMet_of (by decide) (Nat.le_of_ble_eq_true rfl) (fun v h2 hq => orq_rok hq) ?_
  refine x_iload_n (x_d C_M_array 0 rfl) rfl ?_
  refine x_bipush (x_d C_M_array 1 rfl) (by omega) ?_
  refine x_icmp_ne (tgt := 8) (x_d C_M_array 2 rfl) rfl (fun q => absurd q (by omega)) (fun _ => ?_)
  refine x_null (x_d C_M_array 3 rfl) ?_
  refine x_areturn (x_d C_M_array 4 rfl) ?_
  exact orq_none hj
theorem c_M_dict8 (Z : xZ) (d : Nat) (q : Nat → Int) (r : Nat → Option Nat) (A : Nat → Nat → Int) (dy : xH) (X : Nat → Int) (f j : Int) (tz : Nat → Int) (g : Nat → Option xE) (K : Nat → Nat → Nat) (D : Nat) (hj : 0 ≤ j ∧ j ≤ q 1345) : xMet Z d Y_M_dict [xC 42, xI 8] (hF (x_up q 1346 j) (x_up r 1344 (some 44)) (x_up A 43 tz) ++ dy) (orq q r A dy X f g K D none) := by
  refine xMet_of (by decide) (Nat.le_of_ble_eq_true rfl) (fun v h2 hq => orq_rok hq) ?_
  refine x_iload_n (x_d C_M_dict 0 rfl) rfl ?_
  refine x_bipush (x_d C_M_dict 1 rfl) (by omega) ?_
  refine x_icmp_ne (tgt := 8) (x_d C_M_dict 2 rfl) rfl (fun q => absurd q (by omega)) (fun _ => ?_)
  refine x_null (x_d C_M_dict 3 rfl) ?_
  refine x_areturn (x_d C_M_dict 4 rfl) ?_
  exact orq_none hj
