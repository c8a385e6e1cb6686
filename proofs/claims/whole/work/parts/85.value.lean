/-! the reference: a value -/
theorem c_M_dict (Z : xZ) (d : Nat) (q : Nat → Int) (r : Nat → Option Nat) (A : Nat → Nat → Int) (dy : xH) (D : Nat) (hD : D ≤ 8) (hd : 3 * D + 14 ≤ d) (X : Nat → Int) (f j : Int) (tz : Nat → Int) (g : Nat → Option xE) (hg : gok g dy) (hf : 0 ≤ f) (hn : 0 ≤ q 1345 ∧ q 1345 ≤ 4000) (hX : ∀ k : Nat, (k : Int) < q 1345 → A 44 k = X (f.toNat + k)) (hj : 0 ≤ j ∧ j ≤ q 1345) (hB : ∀ k, -128 ≤ X k ∧ X k ≤ 127) (hrec : OD Z q r A X f D) (e : Int) (he : e = 7 - (D : Int)) (hlt : j + 1 < q 1345) : xMet Z d Y_M_dict [xC 42, xI e] (hF (x_up q 1346 j) (x_up r 1344 (some 44)) (x_up A 43 tz) ++ dy) (orq q r A dy X f g (fun u w => (u + 7 * w) + 2 * (u + 4 * w) + k_ens (s_val X (f + q 1345) D) (k_val u w X (f + q 1345) D) u w X (f + q 1345) 30 0 (s_sc s_white X (f + q 1345) (f + j + 2)) []) (D + 2) (s_bx 7 [] (s_ents (s_val X (f + q 1345) D) X (f + q 1345) 30 (s_sc s_white X (f + q 1345) (f + j + 2)) []))) := by
  refine xMet_of (by decide) (Nat.le_of_ble_eq_true rfl) (fun v h2 hq => orq_rok hq) ?_
  refine x_iload_n (x_d C_M_dict 0 rfl) rfl ?_
  refine x_bipush (x_d C_M_dict 1 rfl) (by omega) ?_
  refine x_icmp_ne (tgt := 8) (x_d C_M_dict 2 rfl) rfl (fun _ => ?_) (fun q => absurd q (by omega))
  refine x_aload_n (x_d C_M_dict 5 rfl) rfl ?_
  refine x_dup (x_d C_M_dict 6 rfl) rfl ?_
  refine x_getfield (v := xI (j)) (x_d C_M_dict 7 rfl) f_M_7 rfl rfl ?_
  refine x_iconst (x_d C_M_dict 8 rfl) ⟨by omega, by omega⟩ ?_
  refine x_iadd (x_d C_M_dict 9 rfl) ⟨by omega, by omega⟩ ?_
  refine x_putfield (h1 := hF (x_up q 1346 (j + 2)) (x_up r 1344 (some 44)) (x_up A 43 tz) ++ dy) (x_d C_M_dict 10 rfl) p_M_7 rfl rfl rfl trivial rfl ?_
  refine x_newL (k := 52 + dy.length) (h1 := hF (x_up q 1346 (j + 2)) (x_up r 1344 (some 44)) (x_up A 43 tz) ++ (dy ++ [xB 12 [xI (0), xI (0), xI (0), xI (0), xN, xN, xN]])) (x_d C_M_dict 11 rfl) n_M_82 (g_len0 _ _ _ _) (g_push0 _ _ _ _ _) ?_
  refine x_dup (x_d C_M_dict 12 rfl) rfl ?_
  refine x_bipush (x_d C_M_dict 13 rfl) (by omega) ?_
  refine x_invokespecial (st := [xC (52 + dy.length)]) (av := [xI (7)]) (x_d C_M_dict 14 rfl) k_M_84 m_MQ_init rfl v_MQ_init rfl (Nat.le_of_ble_eq_true rfl) (by omega) rfl (c_MQ_init Z (d - 1) (hF (x_up q 1346 (j + 2)) (x_up r 1344 (some 44)) (x_up A 43 tz) ++ (dy ++ [xB 12 [xI (0), xI (0), xI (0), xI (0), xN, xN, xN]])) (by omega) (52 + dy.length) 7 (ct_get (ct_new0 dy [xB 12 [xI (0), xI (0), xI (0), xI (0), xN, xN, xN]] rfl) _ _ _)) ?_
  rintro _ h_ ⟨rfl, hh_⟩
  obtain rfl : h_ = hF (x_up q 1346 (j + 2)) (x_up r 1344 (some 44)) (x_up A 43 tz) ++ (dy ++ [xB 12 [xI (7), xI (0), xI (0), xI (0), xN, xN, xN]]) := hh_.trans (g_setl0 _ _ _ _ [xB 12 [xI (0), xI (0), xI (0), xI (0), xN, xN, xN]] _)
  refine x_astore_n (l1 := [(2, xC (52 + dy.length)), (0, xC 42), (1, xI (e))]) (x_d C_M_dict 15 rfl) (by decide) rfl ?_
  refine x_aload_n (x_d C_M_dict 16 rfl) rfl ?_
  refine x_iconst (x_d C_M_dict 17 rfl) ⟨by omega, by omega⟩ ?_
  refine x_anewarray4 (k := 52 + dy.length + 1) (h1 := hF (x_up q 1346 (j + 2)) (x_up r 1344 (some 44)) (x_up A 43 tz) ++ (dy ++ [xB 12 [xI (7), xI (0), xI (0), xI (0), xN, xN, xN], xQ 4 4 (fun _ => none)])) (x_d C_M_dict 18 rfl) qn_M_82 (by omega) (by omega) (g_len _ _ _ _ [xB 12 [xI (7), xI (0), xI (0), xI (0), xN, xN, xN]] rfl) (g_push _ _ _ _ [xB 12 [xI (7), xI (0), xI (0), xI (0), xN, xN, xN]] _) ?_
  refine x_putfield (h1 := hF (x_up q 1346 (j + 2)) (x_up r 1344 (some 44)) (x_up A 43 tz) ++ (dy ++ [xB 12 [xI (7), xI (0), xI (0), xI (0), xN, xC (52 + dy.length + 1), xN], xQ 4 4 (fun _ => none)])) (x_d C_M_dict 19 rfl) p_M_141 (ct_get (ct_new0 dy [xB 12 [xI (7), xI (0), xI (0), xI (0), xN, xN, xN], xQ 4 4 (fun _ => none)] rfl) _ _ _) rfl rfl trivial (g_setl0 _ _ _ _ [xB 12 [xI (7), xI (0), xI (0), xI (0), xN, xN, xN], xQ 4 4 (fun _ => none)] _) ?_
  refine x_aload_n (x_d C_M_dict 20 rfl) rfl ?_
  refine x_iconst (x_d C_M_dict 21 rfl) ⟨by omega, by omega⟩ ?_
  refine x_anewarray5 (k := 52 + dy.length + 2) (h1 := hF (x_up q 1346 (j + 2)) (x_up r 1344 (some 44)) (x_up A 43 tz) ++ (dy ++ [xB 12 [xI (7), xI (0), xI (0), xI (0), xN, xC (52 + dy.length + 1), xN], xQ 4 4 (fun _ => none), xQ 5 4 (fun _ => none)])) (x_d C_M_dict 22 rfl) qn_M_155 (by omega) (by omega) (g_len _ _ _ _ [xB 12 [xI (7), xI (0), xI (0), xI (0), xN, xC (52 + dy.length + 1), xN], xQ 4 4 (fun _ => none)] rfl) (g_push _ _ _ _ [xB 12 [xI (7), xI (0), xI (0), xI (0), xN, xC (52 + dy.length + 1), xN], xQ 4 4 (fun _ => none)] _) ?_
  refine x_putfield (h1 := hF (x_up q 1346 (j + 2)) (x_up r 1344 (some 44)) (x_up A 43 tz) ++ (dy ++ [xB 12 [xI (7), xI (0), xI (0), xI (0), xN, xC (52 + dy.length + 1), xC (52 + dy.length + 2)], xQ 4 4 (fun _ => none), xQ 5 4 (fun _ => none)])) (x_d C_M_dict 23 rfl) p_M_156 (ct_get (ct_new0 dy [xB 12 [xI (7), xI (0), xI (0), xI (0), xN, xC (52 + dy.length + 1), xN], xQ 4 4 (fun _ => none), xQ 5 4 (fun _ => none)] rfl) _ _ _) rfl rfl trivial (g_setl0 _ _ _ _ [xB 12 [xI (7), xI (0), xI (0), xI (0), xN, xC (52 + dy.length + 1), xN], xQ 4 4 (fun _ => none), xQ 5 4 (fun _ => none)] _) ?_
  refine x_locs [1, 2, 0] rfl ?_
  obtain ⟨ny, hny⟩ : ∃ ny : xH, ny = [xB 12 [xI 7, xI 0, xI 0, xI 0, xN, xC (52 + dy.length + 1), xC (52 + dy.length + 2)], xQ 4 4 (fun _ => none), xQ 5 4 (fun _ => none)] := ⟨_, rfl⟩
  have hDS : DS X (f + q 1345) dy g (52 + dy.length) (D + 1) ny (52 + dy.length + 1) (52 + dy.length + 2) 4 4 (fun _ => none) (fun _ => none) g [] [] [] := by
    have hno : ∀ k, 52 + dy.length ≤ k → g k = none := fun k hk => by
      cases hz : g k with
      | none => rfl
      | some z => have := ct_lt (hg _ _ hz); omega
    rw [hny]
    exact ⟨ct_new0 dy _ rfl, ct_new dy _ 1 rfl, ct_new dy _ 2 rfl, ⟨Nat.le_refl _, by omega, by omega, by omega, by omega, by omega⟩, gok_app hg _, gle_rf g, gnw_rf g _, ⟨hno _ (Nat.le_refl _), hno _ (by omega), hno _ (by omega)⟩, KL_nil _ _ _ _ _ _, rfl, fun k hk => absurd hk (Nat.not_lt_zero _), by decide, by decide, by decide, by decide, by decide, fun i k hi => absurd hi (Nat.not_lt_zero _)⟩
  have hmu0 : ∀ u w, mu u w ny = (u + 7 * w) + 2 * (u + 4 * w) := fun u w => by rw [hny, mu_cons, mu_cons, mu_cons, mu_nil]; show u + w * 7 + (u + w * 4 + (u + w * 4 + 0)) = _; omega
  rw [← hny]
  refine x_aload_n (x_d C_M_dict 24 rfl) rfl ?_
  refine x_invokevirtual (st := []) (av := []) (x_d C_M_dict 25 rfl) k_M_59 m_M_white v_M_white cl_M rfl rfl (Nat.le_of_ble_eq_true rfl) (by omega) rfl (c_M_white Z (d - 1) q r (x_up A 43 tz) (dy ++ ny) (by omega) X f (j + 2) hf hn hX (by omega)) ?_
  rintro _ h_ ⟨rfl, hh_⟩
  obtain ⟨j102, hj102⟩ : ∃ z, z = s_sc s_white X (f + q 1345) (f + (j + 2)) - f := ⟨_, rfl⟩
  rw [← hj102] at hh_
  subst hh_
  have hj102a := s_sc_ge s_white X (f + q 1345) (f + (j + 2))
  have hj102b := s_sc_le s_white X (n := (f + q 1345)) (t := f + (j + 2)) (by omega)
  refine x_locs [0, 1, 2] rfl ?_
  have hjn : f + j102 = s_sc s_white X (f + q 1345) (f + j + 2) := by rw [hj102, Int.add_assoc]; omega
  have := w_M_dict_48 Z d q r A dy D hD (by omega) X f g (fun u w => (u + 7 * w) + 2 * (u + 4 * w) + k_ens (s_val X (f + q 1345) D) (k_val u w X (f + q 1345) D) u w X (f + q 1345) 30 0 (s_sc s_white X (f + q 1345) (f + j + 2)) []) hf hn hX hB hrec e he (52 + dy.length) 30 j102 tz ny (52 + dy.length + 1) (52 + dy.length + 2) 4 (fun _ => none) (fun _ => none) g [] [] [] rfl (by omega) (by rw [hjn]; exact s_sc_id _ _ _ _) (Or.inl rfl) hDS (fun u w => by rw [hmu0 u w, hjn]; exact Nat.le_refl _)
  rw [hjn] at this
  exact this
theorem c_M_reference2 (Z : xZ) (d : Nat) (q : Nat → Int) (r : Nat → Option Nat) (A : Nat → Nat → Int) (dy : xH) (hd : 8 ≤ d) (X : Nat → Int) (f j : Int) (tk : Nat → Int) (K : Nat → Nat → Nat) (num : Int) (g : Nat → Option xE) (D : Nat) (hg : gok g dy) (hf : 0 ≤ f) (hn : 0 ≤ q 1345 ∧ q 1345 ≤ 4000) (hX : ∀ k : Nat, (k : Int) < q 1345 → A 44 k = X (f.toNat + k)) (hj : 0 ≤ j ∧ j ≤ q 1345) (hB : ∀ k, -128 ≤ X k ∧ X k ≤ 127) (hnum : 0 ≤ num ∧ num < 1000000000) (hK : ∀ u w, u + 7 * w ≤ K u w) : xMet Z d Y_M_reference [xC 42, xI num] (hF (x_up q 1346 j) (x_up r 1344 (some 44)) (x_up A 43 tk) ++ dy) (fun v h2 => (s_ref X (f + q 1345) num (f + j) < 0 ∧ v = some xN ∧ ∃ j2, (0 ≤ j2 ∧ j2 ≤ q 1345) ∧ h2 = hF (x_up q 1346 j2) (x_up r 1344 (some 44)) (x_up A 43 tk) ++ dy) ∨ (0 ≤ s_ref X (f + q 1345) num (f + j) ∧ orq q r A dy X f g K (D + 1) (some ([s_one 8 num (s_num X (f + q 1345) (s_sc s_white X (f + q 1345) (f + j)))], s_ref X (f + q 1345) num (f + j))) v h2)) := by
  refine xMet_of (by decide) (Nat.le_of_ble_eq_true rfl) (fun v h2 hq => by rcases hq with ⟨_, e, _⟩ | hq; rw [e]; trivial; exact orq_rok hq.2) ?_
  refine x_aload_n (x_d C_M_reference 0 rfl) rfl ?_
  refine x_invokevirtual (st := []) (av := []) (x_d C_M_reference 1 rfl) k_M_59 m_M_white v_M_white cl_M rfl rfl (Nat.le_of_ble_eq_true rfl) (by omega) rfl (c_M_white Z (d - 1) q r (x_up A 43 tk) dy (by omega) X f j hf hn hX (by omega)) ?_
  rintro _ h_ ⟨rfl, hh_⟩
  obtain ⟨j1, hj1⟩ : ∃ z, z = s_sc s_white X (f + q 1345) (f + j) - f := ⟨_, rfl⟩
  rw [← hj1] at hh_
  subst hh_
  have hj1a := s_sc_ge s_white X (f + q 1345) (f + j)
  have hj1b := s_sc_le s_white X (n := (f + q 1345)) (t := f + j) (by omega)
  refine x_aload_n (x_d C_M_reference 2 rfl) rfl ?_
  refine x_invokevirtual (st := []) (av := []) (x_d C_M_reference 3 rfl) k_M_98 m_M_takeNumber v_M_takeNumber cl_M rfl rfl (Nat.le_of_ble_eq_true rfl) (by omega) rfl (c_M_takeNumber Z (d - 1) q r (x_up A 43 tk) dy (by omega) X f j1 hf hn hX (by omega)) ?_
  rintro v_ _ ⟨j2, hv_, rfl, hz2⟩
  obtain rfl : v_ = some (xI (s_num X (f + q 1345) (f + j1))) := hv_
  have hz2 : (0 ≤ s_num X (f + q 1345) (f + j1) ∧ j2 = s_wd X (f + q 1345) (f + j1) - f) ∨ (s_num X (f + q 1345) (f + j1) < 0 ∧ j2 = j1) := hz2
  have hni2 := s_num_in X (f + q 1345) (f + j1)
  have hwi2 := s_wd_in X (f + q 1345) (f + j1)
  refine x_istore_n (l1 := [(2, xI (s_num X (f + q 1345) (f + j1))), (0, xC 42), (1, xI (num))]) (x_d C_M_reference 4 rfl) (by decide) rfl ?_
  refine x_iload_n (x_d C_M_reference 5 rfl) rfl ?_
  refine x_if_ge (tgt := 15) (x_d C_M_reference 6 rfl) rfl (fun c3 => ?_) (fun c3 => ?_)
  · refine x_aload_n (x_d C_M_reference 9 rfl) rfl ?_
    refine x_getfield (v := xI (j2)) (x_d C_M_reference 10 rfl) f_M_7 rfl rfl ?_
    refine x_istore_n (l1 := [(3, xI (j2)), (2, xI (s_num X (f + q 1345) (f + j1))), (0, xC 42), (1, xI (num))]) (x_d C_M_reference 11 rfl) (by decide) rfl ?_
    refine x_aload_n (x_d C_M_reference 12 rfl) rfl ?_
    refine x_invokevirtual (st := []) (av := []) (x_d C_M_reference 13 rfl) k_M_59 m_M_white v_M_white cl_M rfl rfl (Nat.le_of_ble_eq_true rfl) (by omega) rfl (c_M_white Z (d - 1) q r (x_up A 43 tk) dy (by omega) X f j2 hf hn hX (by omega)) ?_
    rintro _ h_ ⟨rfl, hh_⟩
    obtain ⟨j4, hj4⟩ : ∃ z, z = s_sc s_white X (f + q 1345) (f + j2) - f := ⟨_, rfl⟩
    rw [← hj4] at hh_
    subst hh_
    have hj4a := s_sc_ge s_white X (f + q 1345) (f + j2)
    have hj4b := s_sc_le s_white X (n := (f + q 1345)) (t := f + j2) (by omega)
    refine x_aload_n (x_d C_M_reference 14 rfl) rfl ?_
    refine x_getfield (v := xI (j4)) (x_d C_M_reference 15 rfl) f_M_7 rfl rfl ?_
    refine x_iload_n (x_d C_M_reference 16 rfl) rfl ?_
    obtain ⟨j3, hj3⟩ : ∃ z, z = j4 := ⟨_, rfl⟩
    have hnoR : j3 = j2 → s_the X (f + q 1345) (f + j3) [82] < 0 := fun e => s_noR hB (by omega) (by rw [e]; rw [show f + j2 = s_wd X (f + q 1345) (f + j1) by omega]; exact s_wd_stop (by omega))
    refine x_icmp_eq (tgt := 54) (x_d C_M_reference 17 rfl) rfl (fun c5 => ?_) (fun c5 => ?_)
    · refine x_null (x_d C_M_reference 28 rfl) ?_
      refine x_areturn (x_d C_M_reference 29 rfl) ?_
      have hrf : s_ref X (f + q 1345) num (f + j) = if 300 ≤ num ∨ s_num X (f + q 1345) (f + j1) < 0 ∨ 65536 ≤ s_num X (f + q 1345) (f + j1) then -1 else s_the X (f + q 1345) (s_sc s_white X (f + q 1345) (s_wd X (f + q 1345) (f + j1))) [82] := by unfold s_ref; rw [show s_sc s_white X (f + q 1345) (f + j) = f + j1 by omega]
      have hneg : s_ref X (f + q 1345) num (f + j) < 0 := by
        rw [hrf]
        split
        · omega
        · first
          | omega
          | (rw [show s_sc s_white X (f + q 1345) (s_wd X (f + q 1345) (f + j1)) = f + j3 by rw [show s_wd X (f + q 1345) (f + j1) = f + j2 by omega]; omega]; first | exact hnoR (by omega) | (rw [hj3]; omega))
      exact Or.inl ⟨hneg, rfl, _, ⟨by omega, by omega⟩, rfl⟩
    · refine x_aload_n (x_d C_M_reference 18 rfl) rfl ?_
      refine x_ldcS (i := 63) (x_d C_M_reference 19 rfl) rfl ?_
      refine x_invokevirtual (st := []) (av := [xS (127)]) (x_d C_M_reference 20 rfl) k_M_103 m_M_takeWord v_M_takeWord cl_M rfl rfl (Nat.le_of_ble_eq_true rfl) (by omega) rfl (c_M_takeWord Z (d - 1) q r (x_up A 43 tk) dy (by omega) X f j4 (si := 63) rfl hf hn hX (by omega) (by decide)) ?_
      rintro v_ _ ⟨z6, j6, rfl, rfl, hz6⟩
      have hz6 : (z6 = 1 ∧ 0 ≤ s_the X (f + q 1345) (f + j4) [82] ∧ j6 = s_the X (f + q 1345) (f + j4) [82] - f) ∨ (z6 = 0 ∧ s_the X (f + q 1345) (f + j4) [82] < 0 ∧ j6 = j4) := hz6
      have hti6 := s_the_in X (f + q 1345) (f + j4) [82]
      simp only [List.length_cons, List.length_nil] at hti6
      refine x_if_eq (tgt := 54) (x_d C_M_reference 21 rfl) rfl (fun c7 => ?_) (fun c7 => ?_)
      · refine x_null (x_d C_M_reference 28 rfl) ?_
        refine x_areturn (x_d C_M_reference 29 rfl) ?_
        have hrf : s_ref X (f + q 1345) num (f + j) = if 300 ≤ num ∨ s_num X (f + q 1345) (f + j1) < 0 ∨ 65536 ≤ s_num X (f + q 1345) (f + j1) then -1 else s_the X (f + q 1345) (s_sc s_white X (f + q 1345) (s_wd X (f + q 1345) (f + j1))) [82] := by unfold s_ref; rw [show s_sc s_white X (f + q 1345) (f + j) = f + j1 by omega]
        have hneg : s_ref X (f + q 1345) num (f + j) < 0 := by
          rw [hrf]
          split
          · omega
          · first
            | omega
            | (rw [show s_sc s_white X (f + q 1345) (s_wd X (f + q 1345) (f + j1)) = f + j3 by rw [show s_wd X (f + q 1345) (f + j1) = f + j2 by omega]; omega]; first | exact hnoR (by omega) | (rw [hj3]; omega))
        exact Or.inl ⟨hneg, rfl, _, ⟨by omega, by omega⟩, rfl⟩
      · refine x_iload_n (x_d C_M_reference 22 rfl) rfl ?_
        refine x_sipush (x_d C_M_reference 23 rfl) (by omega) ?_
        refine x_icmp_ge (tgt := 54) (x_d C_M_reference 24 rfl) rfl (fun c8 => ?_) (fun c8 => ?_)
        · refine x_null (x_d C_M_reference 28 rfl) ?_
          refine x_areturn (x_d C_M_reference 29 rfl) ?_
          have hrf : s_ref X (f + q 1345) num (f + j) = if 300 ≤ num ∨ s_num X (f + q 1345) (f + j1) < 0 ∨ 65536 ≤ s_num X (f + q 1345) (f + j1) then -1 else s_the X (f + q 1345) (s_sc s_white X (f + q 1345) (s_wd X (f + q 1345) (f + j1))) [82] := by unfold s_ref; rw [show s_sc s_white X (f + q 1345) (f + j) = f + j1 by omega]
          have hneg : s_ref X (f + q 1345) num (f + j) < 0 := by
            rw [hrf]
            split
            · omega
            · first
              | omega
              | (rw [show s_sc s_white X (f + q 1345) (s_wd X (f + q 1345) (f + j1)) = f + j3 by rw [show s_wd X (f + q 1345) (f + j1) = f + j2 by omega]; omega]; first | exact hnoR (by omega) | (rw [hj3]; omega))
          exact Or.inl ⟨hneg, rfl, _, ⟨by omega, by omega⟩, rfl⟩
        · refine x_iload_n (x_d C_M_reference 25 rfl) rfl ?_
          refine x_ldc (n := 65535) (x_d C_M_reference 26 rfl) lc_M_107 ⟨by omega, by omega⟩ ?_
          refine x_icmp_le (tgt := 56) (x_d C_M_reference 27 rfl) rfl (fun c9 => ?_) (fun c9 => ?_)
          · refine x_newL (k := 52 + dy.length) (h1 := hF (x_up q 1346 j6) (x_up r 1344 (some 44)) (x_up A 43 tk) ++ (dy ++ [xB 12 [xI (0), xI (0), xI (0), xI (0), xN, xN, xN]])) (x_d C_M_reference 30 rfl) n_M_82 (g_len0 _ _ _ _) (g_push0 _ _ _ _ _) ?_
            refine x_dup (x_d C_M_reference 31 rfl) rfl ?_
            refine x_bipush (x_d C_M_reference 32 rfl) (by omega) ?_
            refine x_invokespecial (st := [xC (52 + dy.length)]) (av := [xI (8)]) (x_d C_M_reference 33 rfl) k_M_84 m_MQ_init rfl v_MQ_init rfl (Nat.le_of_ble_eq_true rfl) (by omega) rfl (c_MQ_init Z (d - 1) (hF (x_up q 1346 j6) (x_up r 1344 (some 44)) (x_up A 43 tk) ++ (dy ++ [xB 12 [xI (0), xI (0), xI (0), xI (0), xN, xN, xN]])) (by omega) (52 + dy.length) 8 (ct_get (ct_new0 dy [xB 12 [xI (0), xI (0), xI (0), xI (0), xN, xN, xN]] rfl) _ _ _)) ?_
            rintro _ h_ ⟨rfl, hh_⟩
            obtain rfl : h_ = hF (x_up q 1346 j6) (x_up r 1344 (some 44)) (x_up A 43 tk) ++ (dy ++ [xB 12 [xI (8), xI (0), xI (0), xI (0), xN, xN, xN]]) := hh_.trans (g_setl0 _ _ _ _ [xB 12 [xI (0), xI (0), xI (0), xI (0), xN, xN, xN]] _)
            refine x_astore (l1 := [(4, xC (52 + dy.length)), (3, xI (j2)), (2, xI (s_num X (f + q 1345) (f + j1))), (0, xC 42), (1, xI (num))]) (x_d C_M_reference 34 rfl) (by decide) rfl ?_
            refine x_aload (x_d C_M_reference 35 rfl) rfl ?_
            refine x_iload_n (x_d C_M_reference 36 rfl) rfl ?_
            refine x_putfield (h1 := hF (x_up q 1346 j6) (x_up r 1344 (some 44)) (x_up A 43 tk) ++ (dy ++ [xB 12 [xI (8), xI (num), xI (0), xI (0), xN, xN, xN]])) (x_d C_M_reference 37 rfl) p_M_95 (ct_get (ct_new0 dy [xB 12 [xI (8), xI (0), xI (0), xI (0), xN, xN, xN]] rfl) _ _ _) rfl rfl trivial (g_setl0 _ _ _ _ [xB 12 [xI (8), xI (0), xI (0), xI (0), xN, xN, xN]] _) ?_
            refine x_aload (x_d C_M_reference 38 rfl) rfl ?_
            refine x_iload_n (x_d C_M_reference 39 rfl) rfl ?_
            refine x_putfield (h1 := hF (x_up q 1346 j6) (x_up r 1344 (some 44)) (x_up A 43 tk) ++ (dy ++ [xB 12 [xI (8), xI (num), xI (s_num X (f + q 1345) (f + j1)), xI (0), xN, xN, xN]])) (x_d C_M_reference 40 rfl) p_M_108 (ct_get (ct_new0 dy [xB 12 [xI (8), xI (num), xI (0), xI (0), xN, xN, xN]] rfl) _ _ _) rfl rfl trivial (g_setl0 _ _ _ _ [xB 12 [xI (8), xI (num), xI (0), xI (0), xN, xN, xN]] _) ?_
            refine x_aload (x_d C_M_reference 41 rfl) rfl ?_
            refine x_areturn (x_d C_M_reference 42 rfl) ?_
            have hrf : s_ref X (f + q 1345) num (f + j) = if 300 ≤ num ∨ s_num X (f + q 1345) (f + j1) < 0 ∨ 65536 ≤ s_num X (f + q 1345) (f + j1) then -1 else s_the X (f + q 1345) (s_sc s_white X (f + q 1345) (s_wd X (f + q 1345) (f + j1))) [82] := by unfold s_ref; rw [show s_sc s_white X (f + q 1345) (f + j) = f + j1 by omega]
            rw [if_neg (by omega), show s_sc s_white X (f + q 1345) (s_wd X (f + q 1345) (f + j1)) = f + j3 by rw [show s_wd X (f + q 1345) (f + j1) = f + j2 by omega]; omega, hj3] at hrf
            have hpos : 0 ≤ s_ref X (f + q 1345) num (f + j) := by omega
            refine Or.inr ⟨hpos, ?_⟩
            rw [show s_sc s_white X (f + q 1345) (f + j) = f + j1 by omega]
            exact orq_one (by omega) hg hK (by omega) (by omega) (fun g2 => ⟨⟨by show (0 : Int) ≤ 8; omega, by show (8 : Int) ≤ 9; omega⟩, fun z => absurd (show (8 : Int) = 3 from z) (by omega), fun _ => ⟨rfl, rfl, by show 0 ≤ num; omega, by show num < 300; omega, by show 0 ≤ s_num X (f + q 1345) (f + j1); omega, by show s_num X (f + q 1345) (f + j1) ≤ 65535; omega⟩, fun z => absurd (show (8 : Int) = 4 ∨ (8 : Int) = 9 from z) (by omega), fun z => absurd (show (8 : Int) = 5 from z) (by omega), fun _ => rfl⟩)
          · refine x_null (x_d C_M_reference 28 rfl) ?_
            refine x_areturn (x_d C_M_reference 29 rfl) ?_
            have hrf : s_ref X (f + q 1345) num (f + j) = if 300 ≤ num ∨ s_num X (f + q 1345) (f + j1) < 0 ∨ 65536 ≤ s_num X (f + q 1345) (f + j1) then -1 else s_the X (f + q 1345) (s_sc s_white X (f + q 1345) (s_wd X (f + q 1345) (f + j1))) [82] := by unfold s_ref; rw [show s_sc s_white X (f + q 1345) (f + j) = f + j1 by omega]
            have hneg : s_ref X (f + q 1345) num (f + j) < 0 := by
              rw [hrf]
              split
              · omega
              · first
                | omega
                | (rw [show s_sc s_white X (f + q 1345) (s_wd X (f + q 1345) (f + j1)) = f + j3 by rw [show s_wd X (f + q 1345) (f + j1) = f + j2 by omega]; omega]; first | exact hnoR (by omega) | (rw [hj3]; omega))
            exact Or.inl ⟨hneg, rfl, _, ⟨by omega, by omega⟩, rfl⟩
  · refine x_null (x_d C_M_reference 7 rfl) ?_
    refine x_areturn (x_d C_M_reference 8 rfl) ?_
    have hrf : s_ref X (f + q 1345) num (f + j) = if 300 ≤ num ∨ s_num X (f + q 1345) (f + j1) < 0 ∨ 65536 ≤ s_num X (f + q 1345) (f + j1) then -1 else s_the X (f + q 1345) (s_sc s_white X (f + q 1345) (s_wd X (f + q 1345) (f + j1))) [82] := by unfold s_ref; rw [show s_sc s_white X (f + q 1345) (f + j) = f + j1 by omega]
    have hneg : s_ref X (f + q 1345) num (f + j) < 0 := by
      rw [hrf]
      split
      · omega
      · first
        | omega
        | (rw [show s_sc s_white X (f + q 1345) (s_wd X (f + q 1345) (f + j1)) = f + j3 by rw [show s_wd X (f + q 1345) (f + j1) = f + j2 by omega]; omega]; first | exact hnoR (by omega) | (rw [hj3]; omega))
    exact Or.inl ⟨hneg, rfl, _, ⟨by omega, by omega⟩, rfl⟩
theorem orq_v {q : Nat → Int} {r : Nat → Option Nat} {A : Nat → Nat → Int} {dy : xH} {X : Nat → Int} {f : Int} {g : Nat → Option xE} {K : Nat → Nat → Nat} {D : Nat} {spec : Option (List tk × Int)} {v : Option xV} {h2 : xH} (h : orq q r A dy X f g K D spec v h2) : ∃ x, v = some (xO x) := by
  obtain ⟨_, _, _, _, _, _, ⟨_, e⟩ | ⟨_, _, c, _, _, e, _⟩⟩ := h
  · exact ⟨none, e⟩
  · exact ⟨some c, e⟩
theorem orq_D {q : Nat → Int} {r : Nat → Option Nat} {A : Nat → Nat → Int} {dy : xH} {X : Nat → Int} {f : Int} {g : Nat → Option xE} {K : Nat → Nat → Nat} {D D2 : Nat} {spec : Option (List tk × Int)} {v : Option xV} {h : xH} (hk : D ≤ D2) (h1 : orq q r A dy X f g K D spec v h) : orq q r A dy X f g K D2 spec v h := by
  obtain ⟨j, tk, ny, a1, a2, a3, a4⟩ := h1
  refine ⟨j, tk, ny, a1, a2, a3, ?_⟩
  rcases a4 with a4 | ⟨ts, e, c, g2, b1, b2, b3, b4, b5, b6, b7, b8⟩
  · exact Or.inl a4
  · exact Or.inr ⟨ts, e, c, g2, b1, b2, b3, b4, b5, b6, Tr_le b7 hk, b8⟩
theorem s_the_first {b : Nat → Int} {n i : Int} {c : Int} {cs : List Int} (h : 0 ≤ s_the b n i (c :: cs)) : 0 ≤ i ∧ b i.toNat = c ∧ i < n := by
  have h2 : 0 ≤ s_txt b n i (c :: cs) := by
    unfold s_the at h
    split at h
    · omega
    · exact h
  unfold s_txt at h2
  split at h2
  · next hh =>
    have hm : (decide (b i.toNat = c) && s_match b cs (i.toNat + 1)) = true := hh.2.2
    rw [Bool.and_eq_true, decide_eq_true_eq] at hm
    have := hh.2.1
    rw [List.length_cons] at this
    exact ⟨hh.1, hm.1, by omega⟩
  · omega
theorem s_num_first {b : Nat → Int} {n i : Int} (h : 0 ≤ s_num b n i) : 48 ≤ b i.toNat ∧ b i.toNat ≤ 57 := by
  unfold s_num at h
  split at h
  · next hh =>
    have := s_alld_all b _ _ hh.2.2.2 0 (by omega)
    rw [Nat.add_zero] at this
    unfold s_dig at this
    rw [Bool.and_eq_true, decide_eq_true_eq, decide_eq_true_eq] at this
    exact this
  · omega
theorem s_nat_con {b : Nat → Int} {n i c : Int} {cs : List Int} (h : 0 ≤ s_the b n i (c :: cs)) (hc : 58 ≤ c ∧ c ≤ 127) : s_nat b n i < 0 := by
  obtain ⟨h0, h1, h2⟩ := s_the_first h
  have hb := s_byte_in b n i
  unfold s_nat
  rw [if_neg (by omega)]
  rcases Int.lt_or_le (s_num b n i) 0 with z | z
  · exact z
  · have := s_num_first z; omega
theorem w_M_object_109 (Z : xZ) (d : Nat) (q : Nat → Int) (r : Nat → Option Nat) (A : Nat → Nat → Int) (dy : xH) (hd : 12 ≤ d) (X : Nat → Int) (f i e c0 : Int) (tk : Nat → Int) (g : Nat → Option xE) (D : Nat) (hg : gok g dy) (hf : 0 ≤ f) (hn : 0 ≤ q 1345 ∧ q 1345 ≤ 4000) (hX : ∀ k : Nat, (k : Int) < q 1345 → A 44 k = X (f.toNat + k)) (hij : 0 ≤ i ∧ i < q 1345) (hB : ∀ k, -128 ≤ X k ∧ X k ≤ 127) : xW Z d Y_M_object 109 [(0, xC 42), (1, xI e), (2, xI c0)] [] (hF (x_up q 1346 i) (x_up r 1344 (some 44)) (x_up A 43 tk) ++ dy) (orq q r A dy X f g (fun u w => k_opt u w (s_word X (f + q 1345) (f + i))) (D + 1) (s_word X (f + q 1345) (f + i))) := by
  have hXi : ∀ u : Int, 0 ≤ u → u < q 1345 → A 44 u.toNat = X (f + u).toNat := fun u h1 h2 => by rw [hX u.toNat (by omega)]; congr 1; omega
  have xi := hXi i
  have bi := s_byte_in X (f + q 1345) (f + i)
  have Bi := hB (f + i).toNat
  have hsg := s_sc_ge s_reg X (f + q 1345) (f + i)
  have hsl := s_sc_le s_reg X (n := (f + q 1345)) (t := f + i) (by omega)
  have hrg : s_reg (X (f + i).toNat) = true → i < q 1345 → f + i < s_sc s_reg X (f + q 1345) (f + i) ∧ s_sc s_reg X (f + q 1345) (f + i + 1) = s_sc s_reg X (f + q 1345) (f + i) := fun h h9 => by
    have := s_sc_step (p := s_reg) (b := X) (n := (f + q 1345)) (t := f + i) (by omega) (by omega) h
    have := s_sc_ge s_reg X (f + q 1345) (f + i + 1)
    omega
  refine x_aload_n (x_d C_M_object 60 rfl) rfl ?_
  refine x_getfield (v := xI (i)) (x_d C_M_object 61 rfl) f_M_7 rfl rfl ?_
  refine x_istore_n (l1 := [(3, xI (i)), (0, xC 42), (1, xI (e)), (2, xI (c0))]) (x_d C_M_object 62 rfl) (by decide) rfl ?_
  refine x_aload_n (x_d C_M_object 63 rfl) rfl ?_
  refine x_aload_n (x_d C_M_object 64 rfl) rfl ?_
  refine x_getfield (v := xI (i)) (x_d C_M_object 65 rfl) f_M_7 rfl rfl ?_
  refine x_invokevirtual (st := []) (av := [xI (i)]) (x_d C_M_object 66 rfl) k_M_38 m_M_wordEnd v_M_wordEnd cl_M rfl rfl (Nat.le_of_ble_eq_true rfl) (by omega) rfl (c_M_wordEnd Z (d - 1) q r (x_up A 43 tk) dy (by omega) X f i i hf hn hX (by omega)) ?_
  rintro v_ _ ⟨hv_, rfl⟩
  obtain rfl : v_ = some (xI (s_sc s_reg X (f + q 1345) (f + i) - f)) := hv_
  obtain ⟨en, hen⟩ : ∃ z, z = s_sc s_reg X (f + q 1345) (f + i) - f := ⟨_, rfl⟩
  rw [← hen]
  have hwdv : i < en → s_wd X (f + q 1345) (f + i) = f + en := fun h => by unfold s_wd; rw [if_pos (by omega)]; omega
  have hnt : s_nat X (f + q 1345) (f + i) = s_num X (f + q 1345) (if s_byte X (f + q 1345) (f + i) = 45 then f + i + 1 else f + i) := rfl
  have hnti := s_num_in X (f + q 1345) (if s_byte X (f + q 1345) (f + i) = 45 then f + i + 1 else f + i)
  rw [← hnt] at hnti
  have hbr : s_byte X (f + q 1345) (f + i) = 45 → X (f + i).toNat = 45 := fun h => by omega
  refine x_istore (l1 := [(4, xI (en)), (3, xI (i)), (0, xC 42), (1, xI (e)), (2, xI (c0))]) (x_d C_M_object 67 rfl) (by decide) rfl ?_
  refine x_aload_n (x_d C_M_object 68 rfl) rfl ?_
  refine x_iload (x_d C_M_object 69 rfl) rfl ?_
  refine x_putfield (h1 := hF (x_up q 1346 en) (x_up r 1344 (some 44)) (x_up A 43 tk) ++ dy) (x_d C_M_object 70 rfl) p_M_7 rfl rfl rfl trivial rfl ?_
  refine x_aload_n (x_d C_M_object 71 rfl) rfl ?_
  refine x_iload_n (x_d C_M_object 72 rfl) rfl ?_
  refine x_iload (x_d C_M_object 73 rfl) rfl ?_
  refine x_ldcS (i := 60) (x_d C_M_object 74 rfl) rfl ?_
  refine x_invokevirtual (st := []) (av := [xI (i), xI (en), xS (121)]) (x_d C_M_object 75 rfl) k_M_42 m_M_isWord v_M_isWord cl_M rfl rfl (Nat.le_of_ble_eq_true rfl) (by omega) rfl (c_M_isWord Z (d - 1) q r (x_up A 43 tk) dy (by omega) X f en i en (si := 60) rfl hf hn hX (by omega)) ?_
  rintro v_ _ ⟨hv_, rfl⟩
  obtain ⟨z_, rfl, hz_⟩ : ∃ z : Int, v_ = some (xI z) ∧ ((z = 1 ∧ (en - i = 4 ∧ 0 ≤ i ∧ 0 ≤ s_txt X (f + q 1345) (f + i) [110, 117, 108, 108])) ∨ (z = 0 ∧ ¬ (en - i = 4 ∧ 0 ≤ i ∧ 0 ≤ s_txt X (f + q 1345) (f + i) [110, 117, 108, 108]))) := ⟨_, hv_, by by_cases c_ : (en - i = ([110, 117, 108, 108] : List Int).length ∧ 0 ≤ i ∧ 0 ≤ s_txt X (f + q 1345) (f + i) [110, 117, 108, 108]); exact Or.inl ⟨x_bo_t c_, c_⟩; exact Or.inr ⟨x_bo_f c_, c_⟩⟩
  refine x_if_eq (tgt := 151) (x_d C_M_object 76 rfl) rfl (fun c1 => ?_) (fun c1 => ?_)
  · have n1 : s_the X (f + q 1345) (f + i) [110, 117, 108, 108] < 0 := by
      have h_1 := s_the_word (b := X) (n := (f + q 1345)) (p := f + i) (cs := [110, 117, 108, 108]) (by omega) (by decide)
      simp only [List.length_cons, List.length_nil] at h_1
      rcases Int.lt_or_le (s_the X (f + q 1345) (f + i) [110, 117, 108, 108]) 0 with z | z
      · exact z
      · have := h_1.mpr z; clear h_1; omega
    refine x_aload_n (x_d C_M_object 82 rfl) rfl ?_
    refine x_iload_n (x_d C_M_object 83 rfl) rfl ?_
    refine x_iload (x_d C_M_object 84 rfl) rfl ?_
    refine x_ldcS (i := 61) (x_d C_M_object 85 rfl) rfl ?_
    refine x_invokevirtual (st := []) (av := [xI (i), xI (en), xS (123)]) (x_d C_M_object 86 rfl) k_M_42 m_M_isWord v_M_isWord cl_M rfl rfl (Nat.le_of_ble_eq_true rfl) (by omega) rfl (c_M_isWord Z (d - 1) q r (x_up A 43 tk) dy (by omega) X f en i en (si := 61) rfl hf hn hX (by omega)) ?_
    rintro v_ _ ⟨hv_, rfl⟩
    obtain ⟨z_, rfl, hz_⟩ : ∃ z : Int, v_ = some (xI z) ∧ ((z = 1 ∧ (en - i = 4 ∧ 0 ≤ i ∧ 0 ≤ s_txt X (f + q 1345) (f + i) [116, 114, 117, 101])) ∨ (z = 0 ∧ ¬ (en - i = 4 ∧ 0 ≤ i ∧ 0 ≤ s_txt X (f + q 1345) (f + i) [116, 114, 117, 101]))) := ⟨_, hv_, by by_cases c_ : (en - i = ([116, 114, 117, 101] : List Int).length ∧ 0 ≤ i ∧ 0 ≤ s_txt X (f + q 1345) (f + i) [116, 114, 117, 101]); exact Or.inl ⟨x_bo_t c_, c_⟩; exact Or.inr ⟨x_bo_f c_, c_⟩⟩
    refine x_if_eq (tgt := 172) (x_d C_M_object 87 rfl) rfl (fun c2 => ?_) (fun c2 => ?_)
    · have n2 : s_the X (f + q 1345) (f + i) [116, 114, 117, 101] < 0 := by
        have h_2 := s_the_word (b := X) (n := (f + q 1345)) (p := f + i) (cs := [116, 114, 117, 101]) (by omega) (by decide)
        simp only [List.length_cons, List.length_nil] at h_2
        rcases Int.lt_or_le (s_the X (f + q 1345) (f + i) [116, 114, 117, 101]) 0 with z | z
        · exact z
        · have := h_2.mpr z; clear h_2; omega
      refine x_aload_n (x_d C_M_object 93 rfl) rfl ?_
      refine x_iload_n (x_d C_M_object 94 rfl) rfl ?_
      refine x_iload (x_d C_M_object 95 rfl) rfl ?_
      refine x_ldcS (i := 62) (x_d C_M_object 96 rfl) rfl ?_
      refine x_invokevirtual (st := []) (av := [xI (i), xI (en), xS (125)]) (x_d C_M_object 97 rfl) k_M_42 m_M_isWord v_M_isWord cl_M rfl rfl (Nat.le_of_ble_eq_true rfl) (by omega) rfl (c_M_isWord Z (d - 1) q r (x_up A 43 tk) dy (by omega) X f en i en (si := 62) rfl hf hn hX (by omega)) ?_
      rintro v_ _ ⟨hv_, rfl⟩
      obtain ⟨z_, rfl, hz_⟩ : ∃ z : Int, v_ = some (xI z) ∧ ((z = 1 ∧ (en - i = 5 ∧ 0 ≤ i ∧ 0 ≤ s_txt X (f + q 1345) (f + i) [102, 97, 108, 115, 101])) ∨ (z = 0 ∧ ¬ (en - i = 5 ∧ 0 ≤ i ∧ 0 ≤ s_txt X (f + q 1345) (f + i) [102, 97, 108, 115, 101]))) := ⟨_, hv_, by by_cases c_ : (en - i = ([102, 97, 108, 115, 101] : List Int).length ∧ 0 ≤ i ∧ 0 ≤ s_txt X (f + q 1345) (f + i) [102, 97, 108, 115, 101]); exact Or.inl ⟨x_bo_t c_, c_⟩; exact Or.inr ⟨x_bo_f c_, c_⟩⟩
      refine x_if_eq (tgt := 193) (x_d C_M_object 98 rfl) rfl (fun c3 => ?_) (fun c3 => ?_)
      · have n3 : s_the X (f + q 1345) (f + i) [102, 97, 108, 115, 101] < 0 := by
          have h_3 := s_the_word (b := X) (n := (f + q 1345)) (p := f + i) (cs := [102, 97, 108, 115, 101]) (by omega) (by decide)
          simp only [List.length_cons, List.length_nil] at h_3
          rcases Int.lt_or_le (s_the X (f + q 1345) (f + i) [102, 97, 108, 115, 101]) 0 with z | z
          · exact z
          · have := h_3.mpr z; clear h_3; omega
        refine x_iload_n (x_d C_M_object 104 rfl) rfl ?_
        refine x_iload (x_d C_M_object 105 rfl) rfl ?_
        refine x_icmp_ge (tgt := 214) (x_d C_M_object 106 rfl) rfl (fun c4 => ?_) (fun c4 => ?_)
        · refine x_iconst (x_d C_M_object 115 rfl) ⟨by omega, by omega⟩ ?_
          refine x_istore (l1 := [(5, xI (0)), (4, xI (en)), (3, xI (i)), (0, xC 42), (1, xI (e)), (2, xI (c0))]) (x_d C_M_object 116 rfl) (by decide) rfl ?_
          refine x_aload_n (x_d C_M_object 117 rfl) rfl ?_
          refine x_iload (x_d C_M_object 118 rfl) rfl ?_
          refine x_if_eq (tgt := 229) (x_d C_M_object 119 rfl) rfl (fun _ => ?_) (fun q => absurd q (by omega))
          refine x_iload_n (x_d C_M_object 124 rfl) rfl ?_
          refine x_iload (x_d C_M_object 125 rfl) rfl ?_
          refine x_invokevirtual (st := []) (av := [xI (i), xI (en)]) (x_d C_M_object 126 rfl) k_M_55 m_M_numberOf v_M_numberOf cl_M rfl rfl (Nat.le_of_ble_eq_true rfl) (by omega) rfl (c_M_numberOf Z (d - 1) q r (x_up A 43 tk) dy (by omega) X f en i en hf hn hX (by omega)) ?_
          rintro v_ _ ⟨hv_, rfl⟩
          obtain ⟨vn, hvn⟩ : ∃ z, z = s_nat X (f + q 1345) (f + i) := ⟨_, rfl⟩
          have hn45 : ¬ s_byte X (f + q 1345) (f + i) = 45 := fun h => by have := hrg (by rw [hbr h]; rfl) (by omega); omega
          obtain rfl : v_ = some (xI vn) := by rw [hvn, hnt, if_neg hn45, s_nof (by omega), show s_sc s_reg X (f + q 1345) (f + i) - (f + i) = en - i by omega]; exact hv_
          have hen2 : 0 ≤ vn → i < en := fun h => by
            rw [if_neg hn45] at hnti
            unfold s_wd at hnti
            split at hnti <;> omega
          refine x_istore (l1 := [(6, xI (vn)), (5, xI (0)), (4, xI (en)), (3, xI (i)), (0, xC 42), (1, xI (e)), (2, xI (c0))]) (x_d C_M_object 127 rfl) (by decide) rfl ?_
          refine x_iload (x_d C_M_object 128 rfl) rfl ?_
          refine x_if_ge (tgt := 244) (x_d C_M_object 129 rfl) rfl (fun c6 => ?_) (fun c6 => ?_)
          · refine x_iload (x_d C_M_object 132 rfl) rfl ?_
            refine x_if_eq (tgt := 253) (x_d C_M_object 133 rfl) rfl (fun _ => ?_) (fun q => absurd q (by omega))
            refine x_aload_n (x_d C_M_object 136 rfl) rfl ?_
            refine x_iload (x_d C_M_object 137 rfl) rfl ?_
            refine x_invokevirtual (st := []) (av := [xI vn]) (x_d C_M_object 138 rfl) k_M_92 m_M_reference v_M_reference cl_M rfl rfl (Nat.le_of_ble_eq_true rfl) (by omega) rfl (c_M_reference2 Z (d - 1) q r A dy (by omega) X f en tk (fun u w => u + 7 * w) vn g D hg hf hn hX (by omega) hB (by omega) (fun _ _ => Nat.le_refl _)) ?_
            rintro v_ h_ (⟨hs, rfl, j8, hj8, rfl⟩ | ⟨hs, hq_⟩)
            · have hnr : ¬ (¬ s_byte X (f + q 1345) (f + i) = 45 ∧ 0 ≤ s_ref X (f + q 1345) (s_nat X (f + q 1345) (f + i)) (s_wd X (f + q 1345) (f + i))) := by
                rintro ⟨-, z⟩
                rw [← hvn, hwdv (by omega)] at z
                omega
              refine x_astore (l1 := [(7, xN), (6, xI (vn)), (5, xI (0)), (4, xI (en)), (3, xI (i)), (0, xC 42), (1, xI (e)), (2, xI (c0))]) (x_d C_M_object 139 rfl) (by decide) rfl ?_
              refine x_aload (x_d C_M_object 140 rfl) rfl ?_
              refine x_ifnullN (tgt := 269) (x_d C_M_object 141 rfl) rfl ?_
              refine x_aload_n (x_d C_M_object 144 rfl) rfl ?_
              refine x_iload (x_d C_M_object 145 rfl) rfl ?_
              refine x_putfield (h1 := hF (x_up q 1346 en) (x_up r 1344 (some 44)) (x_up A 43 tk) ++ dy) (x_d C_M_object 146 rfl) p_M_7 rfl rfl rfl trivial rfl ?_
              refine x_newL (k := 52 + dy.length) (h1 := hF (x_up q 1346 en) (x_up r 1344 (some 44)) (x_up A 43 tk) ++ (dy ++ [xB 12 [xI (0), xI (0), xI (0), xI (0), xN, xN, xN]])) (x_d C_M_object 147 rfl) n_M_82 (g_len0 _ _ _ _) (g_push0 _ _ _ _ _) ?_
              refine x_dup (x_d C_M_object 148 rfl) rfl ?_
              refine x_iconst (x_d C_M_object 149 rfl) ⟨by omega, by omega⟩ ?_
              refine x_invokespecial (st := [xC (52 + dy.length)]) (av := [xI (3)]) (x_d C_M_object 150 rfl) k_M_84 m_MQ_init rfl v_MQ_init rfl (Nat.le_of_ble_eq_true rfl) (by omega) rfl (c_MQ_init Z (d - 1) (hF (x_up q 1346 en) (x_up r 1344 (some 44)) (x_up A 43 tk) ++ (dy ++ [xB 12 [xI (0), xI (0), xI (0), xI (0), xN, xN, xN]])) (by omega) (52 + dy.length) 3 (ct_get (ct_new0 dy [xB 12 [xI (0), xI (0), xI (0), xI (0), xN, xN, xN]] rfl) _ _ _)) ?_
              rintro _ h_ ⟨rfl, hh_⟩
              obtain rfl : h_ = hF (x_up q 1346 en) (x_up r 1344 (some 44)) (x_up A 43 tk) ++ (dy ++ [xB 12 [xI (3), xI (0), xI (0), xI (0), xN, xN, xN]]) := hh_.trans (g_setl0 _ _ _ _ [xB 12 [xI (0), xI (0), xI (0), xI (0), xN, xN, xN]] _)
              refine x_astore (l1 := [(8, xC (52 + dy.length)), (7, xN), (6, xI (vn)), (5, xI (0)), (4, xI (en)), (3, xI (i)), (0, xC 42), (1, xI (e)), (2, xI (c0))]) (x_d C_M_object 151 rfl) (by decide) rfl ?_
              refine x_aload (x_d C_M_object 152 rfl) rfl ?_
              refine x_iload (x_d C_M_object 153 rfl) rfl ?_
              refine x_if_eq (tgt := 298) (x_d C_M_object 154 rfl) rfl (fun _ => ?_) (fun q => absurd q (by omega))
              refine x_iload (x_d C_M_object 158 rfl) rfl ?_
              refine x_putfield (h1 := hF (x_up q 1346 en) (x_up r 1344 (some 44)) (x_up A 43 tk) ++ (dy ++ [xB 12 [xI (3), xI (vn), xI (0), xI (0), xN, xN, xN]])) (x_d C_M_object 159 rfl) p_M_95 (ct_get (ct_new0 dy [xB 12 [xI (3), xI (0), xI (0), xI (0), xN, xN, xN]] rfl) _ _ _) rfl rfl trivial (g_setl0 _ _ _ _ [xB 12 [xI (3), xI (0), xI (0), xI (0), xN, xN, xN]] _) ?_
              refine x_aload (x_d C_M_object 160 rfl) rfl ?_
              refine x_areturn (x_d C_M_object 161 rfl) ?_
              have hsp : s_word X (f + q 1345) (f + i) = some ([s_one 3 (vn) 0], f + en) := by
                unfold s_word
                rw [if_neg (by omega), if_neg hnr, hwdv (by omega), if_neg hn45, ← hvn]
              
              rw [hsp]
              exact orq_one (by omega) hg (fun _ _ => Nat.le_refl _) (by omega) (by omega) (fun g9 => ⟨⟨by show (0 : Int) ≤ 3; omega, by show (3 : Int) ≤ 9; omega⟩, fun _ => ⟨rfl, by show -999999999 ≤ vn; omega, by show vn ≤ 999999999; omega⟩, fun z => absurd (show (3 : Int) = 8 from z) (by omega), fun z => absurd (show (3 : Int) = 4 ∨ (3 : Int) = 9 from z) (by omega), fun z => absurd (show (3 : Int) = 5 from z) (by omega), fun _ => rfl⟩)
            · have hsp : s_word X (f + q 1345) (f + i) = some ([s_one 8 vn (s_num X (f + q 1345) (s_sc s_white X (f + q 1345) (f + en)))], s_ref X (f + q 1345) vn (f + en)) := by
                unfold s_word
                rw [hwdv (by omega), ← hvn, if_neg (by omega), if_pos ⟨hn45, hs⟩]
              rw [hsp]
              have hq2 := hq_
              obtain ⟨_, _, _, _, _, _, ⟨z1, _⟩ | ⟨_, _, c_, _, _, rfl, _⟩⟩ := hq2
              · cases z1
              · refine x_astore (l1 := [(7, xC c_), (6, xI (vn)), (5, xI (0)), (4, xI (en)), (3, xI (i)), (0, xC 42), (1, xI (e)), (2, xI (c0))]) (x_d C_M_object 139 rfl) (by decide) rfl ?_
                refine x_aload (x_d C_M_object 140 rfl) rfl ?_
                refine x_ifnullC (tgt := 269) (x_d C_M_object 141 rfl) rfl ?_
                refine x_aload (x_d C_M_object 142 rfl) rfl ?_
                refine x_areturn (x_d C_M_object 143 rfl) ?_
                exact hq_
          · refine x_null (x_d C_M_object 130 rfl) ?_
            refine x_areturn (x_d C_M_object 131 rfl) ?_
            have hsp : s_word X (f + q 1345) (f + i) = none := by
              unfold s_word s_con
              rw [if_pos (by omega), if_neg (by omega), if_neg (by omega), if_neg (by omega)]
            rw [hsp]
            exact orq_none (by omega)
        · refine x_aload_n (x_d C_M_object 107 rfl) rfl ?_
          refine x_getfield (v := xC 44) (x_d C_M_object 108 rfl) f_M_14 rfl rfl ?_
          refine x_iload_n (x_d C_M_object 109 rfl) rfl ?_
          refine x_baload (f := A 44) (x_d C_M_object 110 rfl) rfl (by omega) (by omega) ?_
          refine x_bipush (x_d C_M_object 111 rfl) (by omega) ?_
          refine x_icmp_ne (tgt := 214) (x_d C_M_object 112 rfl) rfl (fun c8 => ?_) (fun c8 => ?_)
          · refine x_iconst (x_d C_M_object 115 rfl) ⟨by omega, by omega⟩ ?_
            refine x_istore (l1 := [(5, xI (0)), (4, xI (en)), (3, xI (i)), (0, xC 42), (1, xI (e)), (2, xI (c0))]) (x_d C_M_object 116 rfl) (by decide) rfl ?_
            refine x_aload_n (x_d C_M_object 117 rfl) rfl ?_
            refine x_iload (x_d C_M_object 118 rfl) rfl ?_
            refine x_if_eq (tgt := 229) (x_d C_M_object 119 rfl) rfl (fun _ => ?_) (fun q => absurd q (by omega))
            refine x_iload_n (x_d C_M_object 124 rfl) rfl ?_
            refine x_iload (x_d C_M_object 125 rfl) rfl ?_
            refine x_invokevirtual (st := []) (av := [xI (i), xI (en)]) (x_d C_M_object 126 rfl) k_M_55 m_M_numberOf v_M_numberOf cl_M rfl rfl (Nat.le_of_ble_eq_true rfl) (by omega) rfl (c_M_numberOf Z (d - 1) q r (x_up A 43 tk) dy (by omega) X f en i en hf hn hX (by omega)) ?_
            rintro v_ _ ⟨hv_, rfl⟩
            obtain ⟨vn, hvn⟩ : ∃ z, z = s_nat X (f + q 1345) (f + i) := ⟨_, rfl⟩
            have hn45 : ¬ s_byte X (f + q 1345) (f + i) = 45 := fun h => by have := hrg (by rw [hbr h]; rfl) (by omega); omega
            obtain rfl : v_ = some (xI vn) := by rw [hvn, hnt, if_neg hn45, s_nof (by omega), show s_sc s_reg X (f + q 1345) (f + i) - (f + i) = en - i by omega]; exact hv_
            have hen2 : 0 ≤ vn → i < en := fun h => by
              rw [if_neg hn45] at hnti
              unfold s_wd at hnti
              split at hnti <;> omega
            refine x_istore (l1 := [(6, xI (vn)), (5, xI (0)), (4, xI (en)), (3, xI (i)), (0, xC 42), (1, xI (e)), (2, xI (c0))]) (x_d C_M_object 127 rfl) (by decide) rfl ?_
            refine x_iload (x_d C_M_object 128 rfl) rfl ?_
            refine x_if_ge (tgt := 244) (x_d C_M_object 129 rfl) rfl (fun c10 => ?_) (fun c10 => ?_)
            · refine x_iload (x_d C_M_object 132 rfl) rfl ?_
              refine x_if_eq (tgt := 253) (x_d C_M_object 133 rfl) rfl (fun _ => ?_) (fun q => absurd q (by omega))
              refine x_aload_n (x_d C_M_object 136 rfl) rfl ?_
              refine x_iload (x_d C_M_object 137 rfl) rfl ?_
              refine x_invokevirtual (st := []) (av := [xI vn]) (x_d C_M_object 138 rfl) k_M_92 m_M_reference v_M_reference cl_M rfl rfl (Nat.le_of_ble_eq_true rfl) (by omega) rfl (c_M_reference2 Z (d - 1) q r A dy (by omega) X f en tk (fun u w => u + 7 * w) vn g D hg hf hn hX (by omega) hB (by omega) (fun _ _ => Nat.le_refl _)) ?_
              rintro v_ h_ (⟨hs, rfl, j8, hj8, rfl⟩ | ⟨hs, hq_⟩)
              · have hnr : ¬ (¬ s_byte X (f + q 1345) (f + i) = 45 ∧ 0 ≤ s_ref X (f + q 1345) (s_nat X (f + q 1345) (f + i)) (s_wd X (f + q 1345) (f + i))) := by
                  rintro ⟨-, z⟩
                  rw [← hvn, hwdv (by omega)] at z
                  omega
                refine x_astore (l1 := [(7, xN), (6, xI (vn)), (5, xI (0)), (4, xI (en)), (3, xI (i)), (0, xC 42), (1, xI (e)), (2, xI (c0))]) (x_d C_M_object 139 rfl) (by decide) rfl ?_
                refine x_aload (x_d C_M_object 140 rfl) rfl ?_
                refine x_ifnullN (tgt := 269) (x_d C_M_object 141 rfl) rfl ?_
                refine x_aload_n (x_d C_M_object 144 rfl) rfl ?_
                refine x_iload (x_d C_M_object 145 rfl) rfl ?_
                refine x_putfield (h1 := hF (x_up q 1346 en) (x_up r 1344 (some 44)) (x_up A 43 tk) ++ dy) (x_d C_M_object 146 rfl) p_M_7 rfl rfl rfl trivial rfl ?_
                refine x_newL (k := 52 + dy.length) (h1 := hF (x_up q 1346 en) (x_up r 1344 (some 44)) (x_up A 43 tk) ++ (dy ++ [xB 12 [xI (0), xI (0), xI (0), xI (0), xN, xN, xN]])) (x_d C_M_object 147 rfl) n_M_82 (g_len0 _ _ _ _) (g_push0 _ _ _ _ _) ?_
                refine x_dup (x_d C_M_object 148 rfl) rfl ?_
                refine x_iconst (x_d C_M_object 149 rfl) ⟨by omega, by omega⟩ ?_
                refine x_invokespecial (st := [xC (52 + dy.length)]) (av := [xI (3)]) (x_d C_M_object 150 rfl) k_M_84 m_MQ_init rfl v_MQ_init rfl (Nat.le_of_ble_eq_true rfl) (by omega) rfl (c_MQ_init Z (d - 1) (hF (x_up q 1346 en) (x_up r 1344 (some 44)) (x_up A 43 tk) ++ (dy ++ [xB 12 [xI (0), xI (0), xI (0), xI (0), xN, xN, xN]])) (by omega) (52 + dy.length) 3 (ct_get (ct_new0 dy [xB 12 [xI (0), xI (0), xI (0), xI (0), xN, xN, xN]] rfl) _ _ _)) ?_
                rintro _ h_ ⟨rfl, hh_⟩
                obtain rfl : h_ = hF (x_up q 1346 en) (x_up r 1344 (some 44)) (x_up A 43 tk) ++ (dy ++ [xB 12 [xI (3), xI (0), xI (0), xI (0), xN, xN, xN]]) := hh_.trans (g_setl0 _ _ _ _ [xB 12 [xI (0), xI (0), xI (0), xI (0), xN, xN, xN]] _)
                refine x_astore (l1 := [(8, xC (52 + dy.length)), (7, xN), (6, xI (vn)), (5, xI (0)), (4, xI (en)), (3, xI (i)), (0, xC 42), (1, xI (e)), (2, xI (c0))]) (x_d C_M_object 151 rfl) (by decide) rfl ?_
                refine x_aload (x_d C_M_object 152 rfl) rfl ?_
                refine x_iload (x_d C_M_object 153 rfl) rfl ?_
                refine x_if_eq (tgt := 298) (x_d C_M_object 154 rfl) rfl (fun _ => ?_) (fun q => absurd q (by omega))
                refine x_iload (x_d C_M_object 158 rfl) rfl ?_
                refine x_putfield (h1 := hF (x_up q 1346 en) (x_up r 1344 (some 44)) (x_up A 43 tk) ++ (dy ++ [xB 12 [xI (3), xI (vn), xI (0), xI (0), xN, xN, xN]])) (x_d C_M_object 159 rfl) p_M_95 (ct_get (ct_new0 dy [xB 12 [xI (3), xI (0), xI (0), xI (0), xN, xN, xN]] rfl) _ _ _) rfl rfl trivial (g_setl0 _ _ _ _ [xB 12 [xI (3), xI (0), xI (0), xI (0), xN, xN, xN]] _) ?_
                refine x_aload (x_d C_M_object 160 rfl) rfl ?_
                refine x_areturn (x_d C_M_object 161 rfl) ?_
                have hsp : s_word X (f + q 1345) (f + i) = some ([s_one 3 (vn) 0], f + en) := by
                  unfold s_word
                  rw [if_neg (by omega), if_neg hnr, hwdv (by omega), if_neg hn45, ← hvn]
                
                rw [hsp]
                exact orq_one (by omega) hg (fun _ _ => Nat.le_refl _) (by omega) (by omega) (fun g9 => ⟨⟨by show (0 : Int) ≤ 3; omega, by show (3 : Int) ≤ 9; omega⟩, fun _ => ⟨rfl, by show -999999999 ≤ vn; omega, by show vn ≤ 999999999; omega⟩, fun z => absurd (show (3 : Int) = 8 from z) (by omega), fun z => absurd (show (3 : Int) = 4 ∨ (3 : Int) = 9 from z) (by omega), fun z => absurd (show (3 : Int) = 5 from z) (by omega), fun _ => rfl⟩)
              · have hsp : s_word X (f + q 1345) (f + i) = some ([s_one 8 vn (s_num X (f + q 1345) (s_sc s_white X (f + q 1345) (f + en)))], s_ref X (f + q 1345) vn (f + en)) := by
                  unfold s_word
                  rw [hwdv (by omega), ← hvn, if_neg (by omega), if_pos ⟨hn45, hs⟩]
                rw [hsp]
                have hq2 := hq_
                obtain ⟨_, _, _, _, _, _, ⟨z1, _⟩ | ⟨_, _, c_, _, _, rfl, _⟩⟩ := hq2
                · cases z1
                · refine x_astore (l1 := [(7, xC c_), (6, xI (vn)), (5, xI (0)), (4, xI (en)), (3, xI (i)), (0, xC 42), (1, xI (e)), (2, xI (c0))]) (x_d C_M_object 139 rfl) (by decide) rfl ?_
                  refine x_aload (x_d C_M_object 140 rfl) rfl ?_
                  refine x_ifnullC (tgt := 269) (x_d C_M_object 141 rfl) rfl ?_
                  refine x_aload (x_d C_M_object 142 rfl) rfl ?_
                  refine x_areturn (x_d C_M_object 143 rfl) ?_
                  exact hq_
            · refine x_null (x_d C_M_object 130 rfl) ?_
              refine x_areturn (x_d C_M_object 131 rfl) ?_
              have hsp : s_word X (f + q 1345) (f + i) = none := by
                unfold s_word s_con
                rw [if_pos (by omega), if_neg (by omega), if_neg (by omega), if_neg (by omega)]
              rw [hsp]
              exact orq_none (by omega)
          · refine x_iconst (x_d C_M_object 113 rfl) ⟨by omega, by omega⟩ ?_
            refine x_goto (tgt := 215) (x_d C_M_object 114 rfl) rfl ?_
            refine x_istore (l1 := [(5, xI (1)), (4, xI (en)), (3, xI (i)), (0, xC 42), (1, xI (e)), (2, xI (c0))]) (x_d C_M_object 116 rfl) (by decide) rfl ?_
            refine x_aload_n (x_d C_M_object 117 rfl) rfl ?_
            refine x_iload (x_d C_M_object 118 rfl) rfl ?_
            refine x_if_eq (tgt := 229) (x_d C_M_object 119 rfl) rfl (fun q => absurd q (by omega)) (fun _ => ?_)
            refine x_iload_n (x_d C_M_object 120 rfl) rfl ?_
            refine x_iconst (x_d C_M_object 121 rfl) ⟨by omega, by omega⟩ ?_
            refine x_iadd (x_d C_M_object 122 rfl) ⟨by omega, by omega⟩ ?_
            refine x_goto (tgt := 230) (x_d C_M_object 123 rfl) rfl ?_
            refine x_iload (x_d C_M_object 125 rfl) rfl ?_
            refine x_invokevirtual (st := []) (av := [xI (i + 1), xI (en)]) (x_d C_M_object 126 rfl) k_M_55 m_M_numberOf v_M_numberOf cl_M rfl rfl (Nat.le_of_ble_eq_true rfl) (by omega) rfl (c_M_numberOf Z (d - 1) q r (x_up A 43 tk) dy (by omega) X f en (i + 1) en hf hn hX (by omega)) ?_
            rintro v_ _ ⟨hv_, rfl⟩
            obtain ⟨vn, hvn⟩ : ∃ z, z = s_nat X (f + q 1345) (f + i) := ⟨_, rfl⟩
            have hr45 := hrg (by rw [hbr (by omega)]; rfl) (by omega)
            obtain rfl : v_ = some (xI vn) := by rw [hvn, hnt, if_pos (by omega), s_nof (by omega), hr45.2, show s_sc s_reg X (f + q 1345) (f + i) - (f + i + 1) = en - (i + 1) by omega, show f + i + 1 = f + (i + 1) by omega]; exact hv_
            refine x_istore (l1 := [(6, xI (vn)), (5, xI (1)), (4, xI (en)), (3, xI (i)), (0, xC 42), (1, xI (e)), (2, xI (c0))]) (x_d C_M_object 127 rfl) (by decide) rfl ?_
            refine x_iload (x_d C_M_object 128 rfl) rfl ?_
            refine x_if_ge (tgt := 244) (x_d C_M_object 129 rfl) rfl (fun c13 => ?_) (fun c13 => ?_)
            · refine x_iload (x_d C_M_object 132 rfl) rfl ?_
              refine x_if_eq (tgt := 253) (x_d C_M_object 133 rfl) rfl (fun q => absurd q (by omega)) (fun _ => ?_)
              refine x_null (x_d C_M_object 134 rfl) ?_
              refine x_goto (tgt := 259) (x_d C_M_object 135 rfl) rfl ?_
              refine x_astore (l1 := [(7, xN), (6, xI (vn)), (5, xI (1)), (4, xI (en)), (3, xI (i)), (0, xC 42), (1, xI (e)), (2, xI (c0))]) (x_d C_M_object 139 rfl) (by decide) rfl ?_
              refine x_aload (x_d C_M_object 140 rfl) rfl ?_
              refine x_ifnullN (tgt := 269) (x_d C_M_object 141 rfl) rfl ?_
              refine x_aload_n (x_d C_M_object 144 rfl) rfl ?_
              refine x_iload (x_d C_M_object 145 rfl) rfl ?_
              refine x_putfield (h1 := hF (x_up q 1346 en) (x_up r 1344 (some 44)) (x_up A 43 tk) ++ dy) (x_d C_M_object 146 rfl) p_M_7 rfl rfl rfl trivial rfl ?_
              refine x_newL (k := 52 + dy.length) (h1 := hF (x_up q 1346 en) (x_up r 1344 (some 44)) (x_up A 43 tk) ++ (dy ++ [xB 12 [xI (0), xI (0), xI (0), xI (0), xN, xN, xN]])) (x_d C_M_object 147 rfl) n_M_82 (g_len0 _ _ _ _) (g_push0 _ _ _ _ _) ?_
              refine x_dup (x_d C_M_object 148 rfl) rfl ?_
              refine x_iconst (x_d C_M_object 149 rfl) ⟨by omega, by omega⟩ ?_
              refine x_invokespecial (st := [xC (52 + dy.length)]) (av := [xI (3)]) (x_d C_M_object 150 rfl) k_M_84 m_MQ_init rfl v_MQ_init rfl (Nat.le_of_ble_eq_true rfl) (by omega) rfl (c_MQ_init Z (d - 1) (hF (x_up q 1346 en) (x_up r 1344 (some 44)) (x_up A 43 tk) ++ (dy ++ [xB 12 [xI (0), xI (0), xI (0), xI (0), xN, xN, xN]])) (by omega) (52 + dy.length) 3 (ct_get (ct_new0 dy [xB 12 [xI (0), xI (0), xI (0), xI (0), xN, xN, xN]] rfl) _ _ _)) ?_
              rintro _ h_ ⟨rfl, hh_⟩
              obtain rfl : h_ = hF (x_up q 1346 en) (x_up r 1344 (some 44)) (x_up A 43 tk) ++ (dy ++ [xB 12 [xI (3), xI (0), xI (0), xI (0), xN, xN, xN]]) := hh_.trans (g_setl0 _ _ _ _ [xB 12 [xI (0), xI (0), xI (0), xI (0), xN, xN, xN]] _)
              refine x_astore (l1 := [(8, xC (52 + dy.length)), (7, xN), (6, xI (vn)), (5, xI (1)), (4, xI (en)), (3, xI (i)), (0, xC 42), (1, xI (e)), (2, xI (c0))]) (x_d C_M_object 151 rfl) (by decide) rfl ?_
              refine x_aload (x_d C_M_object 152 rfl) rfl ?_
              refine x_iload (x_d C_M_object 153 rfl) rfl ?_
              refine x_if_eq (tgt := 298) (x_d C_M_object 154 rfl) rfl (fun q => absurd q (by omega)) (fun _ => ?_)
              refine x_iload (x_d C_M_object 155 rfl) rfl ?_
              refine x_ineg (x_d C_M_object 156 rfl) ⟨by omega, by omega⟩ ?_
              refine x_goto (tgt := 300) (x_d C_M_object 157 rfl) rfl ?_
              refine x_putfield (h1 := hF (x_up q 1346 en) (x_up r 1344 (some 44)) (x_up A 43 tk) ++ (dy ++ [xB 12 [xI (3), xI (-vn), xI (0), xI (0), xN, xN, xN]])) (x_d C_M_object 159 rfl) p_M_95 (ct_get (ct_new0 dy [xB 12 [xI (3), xI (0), xI (0), xI (0), xN, xN, xN]] rfl) _ _ _) rfl rfl trivial (g_setl0 _ _ _ _ [xB 12 [xI (3), xI (0), xI (0), xI (0), xN, xN, xN]] _) ?_
              refine x_aload (x_d C_M_object 160 rfl) rfl ?_
              refine x_areturn (x_d C_M_object 161 rfl) ?_
              have hsp : s_word X (f + q 1345) (f + i) = some ([s_one 3 (-vn) 0], f + en) := by
                unfold s_word
                rw [if_neg (by omega), if_neg (by omega), hwdv (by omega), if_pos (by omega), ← hvn]
              
              rw [hsp]
              exact orq_one (by omega) hg (fun _ _ => Nat.le_refl _) (by omega) (by omega) (fun g9 => ⟨⟨by show (0 : Int) ≤ 3; omega, by show (3 : Int) ≤ 9; omega⟩, fun _ => ⟨rfl, by show -999999999 ≤ -vn; omega, by show -vn ≤ 999999999; omega⟩, fun z => absurd (show (3 : Int) = 8 from z) (by omega), fun z => absurd (show (3 : Int) = 4 ∨ (3 : Int) = 9 from z) (by omega), fun z => absurd (show (3 : Int) = 5 from z) (by omega), fun _ => rfl⟩)
            · refine x_null (x_d C_M_object 130 rfl) ?_
              refine x_areturn (x_d C_M_object 131 rfl) ?_
              have hsp : s_word X (f + q 1345) (f + i) = none := by
                unfold s_word s_con
                rw [if_pos (by omega), if_neg (by omega), if_neg (by omega), if_neg (by omega)]
              rw [hsp]
              exact orq_none (by omega)
      · refine x_newL (k := 52 + dy.length) (h1 := hF (x_up q 1346 en) (x_up r 1344 (some 44)) (x_up A 43 tk) ++ (dy ++ [xB 12 [xI (0), xI (0), xI (0), xI (0), xN, xN, xN]])) (x_d C_M_object 99 rfl) n_M_82 (g_len0 _ _ _ _) (g_push0 _ _ _ _ _) ?_
        refine x_dup (x_d C_M_object 100 rfl) rfl ?_
        refine x_iconst (x_d C_M_object 101 rfl) ⟨by omega, by omega⟩ ?_
        refine x_invokespecial (st := [xC (52 + dy.length)]) (av := [xI (2)]) (x_d C_M_object 102 rfl) k_M_84 m_MQ_init rfl v_MQ_init rfl (Nat.le_of_ble_eq_true rfl) (by omega) rfl (c_MQ_init Z (d - 1) (hF (x_up q 1346 en) (x_up r 1344 (some 44)) (x_up A 43 tk) ++ (dy ++ [xB 12 [xI (0), xI (0), xI (0), xI (0), xN, xN, xN]])) (by omega) (52 + dy.length) 2 (ct_get (ct_new0 dy [xB 12 [xI (0), xI (0), xI (0), xI (0), xN, xN, xN]] rfl) _ _ _)) ?_
        rintro _ h_ ⟨rfl, hh_⟩
        obtain rfl : h_ = hF (x_up q 1346 en) (x_up r 1344 (some 44)) (x_up A 43 tk) ++ (dy ++ [xB 12 [xI (2), xI (0), xI (0), xI (0), xN, xN, xN]]) := hh_.trans (g_setl0 _ _ _ _ [xB 12 [xI (0), xI (0), xI (0), xI (0), xN, xN, xN]] _)
        refine x_areturn (x_d C_M_object 103 rfl) ?_
        have hp : 0 ≤ s_the X (f + q 1345) (f + i) [102, 97, 108, 115, 101] := by
          have h_1 := s_the_word (b := X) (n := f + q 1345) (p := f + i) (cs := [102, 97, 108, 115, 101]) (by omega) (by decide)
          simp only [List.length_cons, List.length_nil] at h_1
          exact h_1.mp ⟨by clear h_1; omega, by clear h_1; omega⟩
        have hti := s_the_in X (f + q 1345) (f + i) [102, 97, 108, 115, 101]
        simp only [List.length_cons, List.length_nil] at hti
        have hsp : s_word X (f + q 1345) (f + i) = some ([s_one 2 0 0], s_the X (f + q 1345) (f + i) [102, 97, 108, 115, 101]) := by
          unfold s_word s_con
          rw [if_pos (s_nat_con hp (by omega)), if_neg (by omega), if_neg (by omega), if_pos hp]
        rw [hsp]
        exact orq_one (by omega) hg (fun _ _ => Nat.le_refl _) (by omega) (by omega) (fun g9 => ⟨⟨by show (0 : Int) ≤ 2; omega, by show (2 : Int) ≤ 9; omega⟩, fun z => absurd (show (2 : Int) = 3 from z) (by omega), fun z => absurd (show (2 : Int) = 8 from z) (by omega), fun z => absurd (show (2 : Int) = 4 ∨ (2 : Int) = 9 from z) (by omega), fun z => absurd (show (2 : Int) = 5 from z) (by omega), fun _ => rfl⟩)
    · refine x_newL (k := 52 + dy.length) (h1 := hF (x_up q 1346 en) (x_up r 1344 (some 44)) (x_up A 43 tk) ++ (dy ++ [xB 12 [xI (0), xI (0), xI (0), xI (0), xN, xN, xN]])) (x_d C_M_object 88 rfl) n_M_82 (g_len0 _ _ _ _) (g_push0 _ _ _ _ _) ?_
      refine x_dup (x_d C_M_object 89 rfl) rfl ?_
      refine x_iconst (x_d C_M_object 90 rfl) ⟨by omega, by omega⟩ ?_
      refine x_invokespecial (st := [xC (52 + dy.length)]) (av := [xI (1)]) (x_d C_M_object 91 rfl) k_M_84 m_MQ_init rfl v_MQ_init rfl (Nat.le_of_ble_eq_true rfl) (by omega) rfl (c_MQ_init Z (d - 1) (hF (x_up q 1346 en) (x_up r 1344 (some 44)) (x_up A 43 tk) ++ (dy ++ [xB 12 [xI (0), xI (0), xI (0), xI (0), xN, xN, xN]])) (by omega) (52 + dy.length) 1 (ct_get (ct_new0 dy [xB 12 [xI (0), xI (0), xI (0), xI (0), xN, xN, xN]] rfl) _ _ _)) ?_
      rintro _ h_ ⟨rfl, hh_⟩
      obtain rfl : h_ = hF (x_up q 1346 en) (x_up r 1344 (some 44)) (x_up A 43 tk) ++ (dy ++ [xB 12 [xI (1), xI (0), xI (0), xI (0), xN, xN, xN]]) := hh_.trans (g_setl0 _ _ _ _ [xB 12 [xI (0), xI (0), xI (0), xI (0), xN, xN, xN]] _)
      refine x_areturn (x_d C_M_object 92 rfl) ?_
      have hp : 0 ≤ s_the X (f + q 1345) (f + i) [116, 114, 117, 101] := by
        have h_1 := s_the_word (b := X) (n := f + q 1345) (p := f + i) (cs := [116, 114, 117, 101]) (by omega) (by decide)
        simp only [List.length_cons, List.length_nil] at h_1
        exact h_1.mp ⟨by clear h_1; omega, by clear h_1; omega⟩
      have hti := s_the_in X (f + q 1345) (f + i) [116, 114, 117, 101]
      simp only [List.length_cons, List.length_nil] at hti
      have hsp : s_word X (f + q 1345) (f + i) = some ([s_one 1 0 0], s_the X (f + q 1345) (f + i) [116, 114, 117, 101]) := by
        unfold s_word s_con
        rw [if_pos (s_nat_con hp (by omega)), if_neg (by omega), if_pos hp]
      rw [hsp]
      exact orq_one (by omega) hg (fun _ _ => Nat.le_refl _) (by omega) (by omega) (fun g9 => ⟨⟨by show (0 : Int) ≤ 1; omega, by show (1 : Int) ≤ 9; omega⟩, fun z => absurd (show (1 : Int) = 3 from z) (by omega), fun z => absurd (show (1 : Int) = 8 from z) (by omega), fun z => absurd (show (1 : Int) = 4 ∨ (1 : Int) = 9 from z) (by omega), fun z => absurd (show (1 : Int) = 5 from z) (by omega), fun _ => rfl⟩)
  · refine x_newL (k := 52 + dy.length) (h1 := hF (x_up q 1346 en) (x_up r 1344 (some 44)) (x_up A 43 tk) ++ (dy ++ [xB 12 [xI (0), xI (0), xI (0), xI (0), xN, xN, xN]])) (x_d C_M_object 77 rfl) n_M_82 (g_len0 _ _ _ _) (g_push0 _ _ _ _ _) ?_
    refine x_dup (x_d C_M_object 78 rfl) rfl ?_
    refine x_iconst (x_d C_M_object 79 rfl) ⟨by omega, by omega⟩ ?_
    refine x_invokespecial (st := [xC (52 + dy.length)]) (av := [xI (0)]) (x_d C_M_object 80 rfl) k_M_84 m_MQ_init rfl v_MQ_init rfl (Nat.le_of_ble_eq_true rfl) (by omega) rfl (c_MQ_init Z (d - 1) (hF (x_up q 1346 en) (x_up r 1344 (some 44)) (x_up A 43 tk) ++ (dy ++ [xB 12 [xI (0), xI (0), xI (0), xI (0), xN, xN, xN]])) (by omega) (52 + dy.length) 0 (ct_get (ct_new0 dy [xB 12 [xI (0), xI (0), xI (0), xI (0), xN, xN, xN]] rfl) _ _ _)) ?_
    rintro _ h_ ⟨rfl, hh_⟩
    obtain rfl : h_ = hF (x_up q 1346 en) (x_up r 1344 (some 44)) (x_up A 43 tk) ++ (dy ++ [xB 12 [xI (0), xI (0), xI (0), xI (0), xN, xN, xN]]) := hh_.trans (g_setl0 _ _ _ _ [xB 12 [xI (0), xI (0), xI (0), xI (0), xN, xN, xN]] _)
    refine x_areturn (x_d C_M_object 81 rfl) ?_
    have hp : 0 ≤ s_the X (f + q 1345) (f + i) [110, 117, 108, 108] := by
      have h_1 := s_the_word (b := X) (n := f + q 1345) (p := f + i) (cs := [110, 117, 108, 108]) (by omega) (by decide)
      simp only [List.length_cons, List.length_nil] at h_1
      exact h_1.mp ⟨by clear h_1; omega, by clear h_1; omega⟩
    have hti := s_the_in X (f + q 1345) (f + i) [110, 117, 108, 108]
    simp only [List.length_cons, List.length_nil] at hti
    have hsp : s_word X (f + q 1345) (f + i) = some ([s_one 0 0 0], s_the X (f + q 1345) (f + i) [110, 117, 108, 108]) := by
      unfold s_word s_con
      rw [if_pos (s_nat_con hp (by omega)), if_pos hp]
    rw [hsp]
    exact orq_one (by omega) hg (fun _ _ => Nat.le_refl _) (by omega) (by omega) (fun g9 => ⟨⟨by show (0 : Int) ≤ 0; omega, by show (0 : Int) ≤ 9; omega⟩, fun z => absurd (show (0 : Int) = 3 from z) (by omega), fun z => absurd (show (0 : Int) = 8 from z) (by omega), fun z => absurd (show (0 : Int) = 4 ∨ (0 : Int) = 9 from z) (by omega), fun z => absurd (show (0 : Int) = 5 from z) (by omega), fun _ => rfl⟩)
theorem c_M_object_of (Z : xZ) (d : Nat) (q : Nat → Int) (r : Nat → Option Nat) (A : Nat → Nat → Int) (dy : xH) (hd : 12 ≤ d) (X : Nat → Int) (f j : Int) (tk : Nat → Int) (e : Int) (he : -100 ≤ e ∧ e ≤ 100) (g : Nat → Option xE) (D : Nat) (hg : gok g dy) (hf : 0 ≤ f) (hn : 0 ≤ q 1345 ∧ q 1345 ≤ 4000) (hX : ∀ k : Nat, (k : Int) < q 1345 → A 44 k = X (f.toNat + k)) (hj : 0 ≤ j ∧ j ≤ q 1345) (hB : ∀ k, -128 ≤ X k ∧ X k ≤ 127) (hA : ∀ j tz, (0 ≤ j ∧ j < q 1345) → s_byte X (f + q 1345) (f + j) = 91 → xMet Z (d - 1) Y_M_array [xC 42, xI e] (hF (x_up q 1346 j) (x_up r 1344 (some 44)) (x_up A 43 tz) ++ dy) (orq q r A dy X f g (fun u w => k_val u w X (f + q 1345) D (f + j)) (D + 1) (s_val X (f + q 1345) D (f + j)))) (hDi : ∀ j tz, (0 ≤ j ∧ j + 1 < q 1345) → s_byte X (f + q 1345) (f + j) = 60 → s_byte X (f + q 1345) (f + j + 1) = 60 → xMet Z (d - 1) Y_M_dict [xC 42, xI e] (hF (x_up q 1346 j) (x_up r 1344 (some 44)) (x_up A 43 tz) ++ dy) (orq q r A dy X f g (fun u w => k_val u w X (f + q 1345) D (f + j)) (D + 1) (s_val X (f + q 1345) D (f + j)))) (hL : ∀ i, ¬ s_byte X (f + q 1345) i = 91 → ¬ (s_byte X (f + q 1345) i = 60 ∧ s_byte X (f + q 1345) (i + 1) = 60) → s_val X (f + q 1345) D i = s_leaf X (f + q 1345) i ∧ ∀ u w, k_val u w X (f + q 1345) D i = k_opt u w (s_leaf X (f + q 1345) i)) : xMet Z d Y_M_object [xC 42, xI e] (hF (x_up q 1346 j) (x_up r 1344 (some 44)) (x_up A 43 tk) ++ dy) (orq q r A dy X f g (fun u w => k_val u w X (f + q 1345) D (s_sc s_white X (f + q 1345) (f + j))) (D + 1) (s_val X (f + q 1345) D (s_sc s_white X (f + q 1345) (f + j)))) := by
  refine xMet_of (by decide) (Nat.le_of_ble_eq_true rfl) (fun v h2 hq => orq_rok hq) ?_
  have hXi : ∀ u : Int, 0 ≤ u → u < q 1345 → A 44 u.toNat = X (f + u).toNat := fun u h1 h2 => by rw [hX u.toNat (by omega)]; congr 1; omega
  refine x_aload_n (x_d C_M_object 0 rfl) rfl ?_
  refine x_invokevirtual (st := []) (av := []) (x_d C_M_object 1 rfl) k_M_59 m_M_white v_M_white cl_M rfl rfl (Nat.le_of_ble_eq_true rfl) (by omega) rfl (c_M_white Z (d - 1) q r (x_up A 43 tk) dy (by omega) X f j hf hn hX (by omega)) ?_
  rintro _ h_ ⟨rfl, hh_⟩
  obtain ⟨j1, hj1⟩ : ∃ z, z = s_sc s_white X (f + q 1345) (f + j) - f := ⟨_, rfl⟩
  rw [← hj1] at hh_
  subst hh_
  have hj1a := s_sc_ge s_white X (f + q 1345) (f + j)
  have hj1b := s_sc_le s_white X (n := (f + q 1345)) (t := f + j) (by omega)
  obtain ⟨i, hi⟩ : ∃ i, i = j1 := ⟨_, rfl⟩
  rw [show s_sc s_white X (f + q 1345) (f + j) = f + i by omega, ← hi]
  have hij : 0 ≤ i ∧ i ≤ q 1345 := by omega
  have xi := hXi i
  have bi := s_byte_in X (f + q 1345) (f + i)
  have Bi := hB (f + i).toNat
  have xi1 := hXi (i + 1)
  have bi1 := s_byte_in X (f + q 1345) (f + i + 1)
  have Bi1 := hB (f + i + 1).toNat
  rw [show f + (i + 1) = f + i + 1 by omega] at xi1
  have hnmi := s_name_in X (f + q 1345) (f + i)
  refine x_aload_n (x_d C_M_object 2 rfl) rfl ?_
  refine x_getfield (v := xI (i)) (x_d C_M_object 3 rfl) f_M_7 rfl rfl ?_
  refine x_aload_n (x_d C_M_object 4 rfl) rfl ?_
  refine x_getfield (v := xI (q 1345)) (x_d C_M_object 5 rfl) f_M_11 rfl rfl ?_
  refine x_icmp_lt (tgt := 17) (x_d C_M_object 6 rfl) rfl (fun c2 => ?_) (fun c2 => ?_)
  · refine x_aload_n (x_d C_M_object 9 rfl) rfl ?_
    refine x_getfield (v := xC 44) (x_d C_M_object 10 rfl) f_M_14 rfl rfl ?_
    refine x_aload_n (x_d C_M_object 11 rfl) rfl ?_
    refine x_getfield (v := xI (i)) (x_d C_M_object 12 rfl) f_M_7 rfl rfl ?_
    refine x_baload (f := A 44) (x_d C_M_object 13 rfl) rfl (by omega) (by omega) ?_
    refine x_istore_n (l1 := [(2, xI (A 44 (i).toNat)), (0, xC 42), (1, xI (e))]) (x_d C_M_object 14 rfl) (by decide) rfl ?_
    refine x_iload_n (x_d C_M_object 15 rfl) rfl ?_
    refine x_bipush (x_d C_M_object 16 rfl) (by omega) ?_
    refine x_icmp_ne (tgt := 38) (x_d C_M_object 17 rfl) rfl (fun c3 => ?_) (fun c3 => ?_)
    · refine x_iload_n (x_d C_M_object 21 rfl) rfl ?_
      refine x_bipush (x_d C_M_object 22 rfl) (by omega) ?_
      refine x_icmp_ne (tgt := 49) (x_d C_M_object 23 rfl) rfl (fun c4 => ?_) (fun c4 => ?_)
      · refine x_iload_n (x_d C_M_object 27 rfl) rfl ?_
        refine x_bipush (x_d C_M_object 28 rfl) (by omega) ?_
        refine x_icmp_ne (tgt := 61) (x_d C_M_object 29 rfl) rfl (fun c5 => ?_) (fun c5 => ?_)
        · refine x_iload_n (x_d C_M_object 34 rfl) rfl ?_
          refine x_bipush (x_d C_M_object 35 rfl) (by omega) ?_
          refine x_icmp_ne (tgt := 109) (x_d C_M_object 36 rfl) rfl (fun c6 => ?_) (fun c6 => ?_)
          · obtain ⟨hl1, hl2⟩ := hL (f + i) (by omega) (by omega)
            have hlf : s_leaf X (f + q 1345) (f + i) = s_word X (f + q 1345) (f + i) := by unfold s_leaf; rw [if_neg (by omega), if_neg (by omega), if_neg (by omega)]
            rw [hl1, show (fun u w => k_val u w X (f + q 1345) D (f + i)) = (fun u w => k_opt u w (s_leaf X (f + q 1345) (f + i))) from funext (fun u => funext (fun w => hl2 u w)), hlf]
            refine x_locs [1, 2, 0] rfl ?_
            exact w_M_object_109 Z d q r A dy hd X f i e _ tk g D hg hf hn hX (by omega) hB
          · refine x_aload_n (x_d C_M_object 37 rfl) rfl ?_
            refine x_getfield (v := xI (i)) (x_d C_M_object 38 rfl) f_M_7 rfl rfl ?_
            refine x_iconst (x_d C_M_object 39 rfl) ⟨by omega, by omega⟩ ?_
            refine x_iadd (x_d C_M_object 40 rfl) ⟨by omega, by omega⟩ ?_
            refine x_aload_n (x_d C_M_object 41 rfl) rfl ?_
            refine x_getfield (v := xI (q 1345)) (x_d C_M_object 42 rfl) f_M_11 rfl rfl ?_
            refine x_icmp_ge (tgt := 104) (x_d C_M_object 43 rfl) rfl (fun c7 => ?_) (fun c7 => ?_)
            · refine x_aload_n (x_d C_M_object 57 rfl) rfl ?_
              obtain ⟨hl1, hl2⟩ := hL (f + i) (by omega) (by omega)
              have hlf : s_leaf X (f + q 1345) (f + i) = (s_prs X (f + q 1345) 101 (f + i + 1) 0).map (fun x => ([s_one 5 (f + i) x.1], x.2)) := by unfold s_leaf; rw [if_neg (by omega), if_pos (by omega)]
              rw [hl1, show (fun u w => k_val u w X (f + q 1345) D (f + i)) = (fun u w => k_opt u w (s_leaf X (f + q 1345) (f + i))) from funext (fun u => funext (fun w => hl2 u w)), hlf]
              refine x_invokevirtual (st := []) (av := []) (x_d C_M_object 58 rfl) k_M_77 m_M_digits v_M_digits cl_M rfl rfl (Nat.le_of_ble_eq_true rfl) (by omega) rfl (c_M_digits Z (d - 1) q r A dy (by omega) X f i tk (fun u w => k_opt u w ((s_prs X (f + q 1345) 101 (f + i + 1) 0).map (fun x => ([s_one 5 (f + i) x.1], x.2)))) g D hg hf hn hX hij hB (by omega) (fun x hx u w => by rw [hx]; exact Nat.le_refl _)) ?_
              intro v_ h_ hq_
              obtain ⟨x_, rfl⟩ := orq_v hq_
              refine x_areturn (x_d C_M_object 59 rfl) ?_
              exact hq_
            · refine x_aload_n (x_d C_M_object 44 rfl) rfl ?_
              refine x_getfield (v := xC 44) (x_d C_M_object 45 rfl) f_M_14 rfl rfl ?_
              refine x_aload_n (x_d C_M_object 46 rfl) rfl ?_
              refine x_getfield (v := xI (i)) (x_d C_M_object 47 rfl) f_M_7 rfl rfl ?_
              refine x_iconst (x_d C_M_object 48 rfl) ⟨by omega, by omega⟩ ?_
              refine x_iadd (x_d C_M_object 49 rfl) ⟨by omega, by omega⟩ ?_
              refine x_baload (f := A 44) (x_d C_M_object 50 rfl) rfl (by omega) (by omega) ?_
              refine x_bipush (x_d C_M_object 51 rfl) (by omega) ?_
              refine x_icmp_ne (tgt := 104) (x_d C_M_object 52 rfl) rfl (fun c8 => ?_) (fun c8 => ?_)
              · refine x_aload_n (x_d C_M_object 57 rfl) rfl ?_
                obtain ⟨hl1, hl2⟩ := hL (f + i) (by omega) (by omega)
                have hlf : s_leaf X (f + q 1345) (f + i) = (s_prs X (f + q 1345) 101 (f + i + 1) 0).map (fun x => ([s_one 5 (f + i) x.1], x.2)) := by unfold s_leaf; rw [if_neg (by omega), if_pos (by omega)]
                rw [hl1, show (fun u w => k_val u w X (f + q 1345) D (f + i)) = (fun u w => k_opt u w (s_leaf X (f + q 1345) (f + i))) from funext (fun u => funext (fun w => hl2 u w)), hlf]
                refine x_invokevirtual (st := []) (av := []) (x_d C_M_object 58 rfl) k_M_77 m_M_digits v_M_digits cl_M rfl rfl (Nat.le_of_ble_eq_true rfl) (by omega) rfl (c_M_digits Z (d - 1) q r A dy (by omega) X f i tk (fun u w => k_opt u w ((s_prs X (f + q 1345) 101 (f + i + 1) 0).map (fun x => ([s_one 5 (f + i) x.1], x.2)))) g D hg hf hn hX hij hB (by omega) (fun x hx u w => by rw [hx]; exact Nat.le_refl _)) ?_
                intro v_ h_ hq_
                obtain ⟨x_, rfl⟩ := orq_v hq_
                refine x_areturn (x_d C_M_object 59 rfl) ?_
                exact hq_
              · refine x_aload_n (x_d C_M_object 53 rfl) rfl ?_
                refine x_iload_n (x_d C_M_object 54 rfl) rfl ?_
                refine x_invokevirtual (st := []) (av := [xI (e)]) (x_d C_M_object 55 rfl) k_M_74 m_M_dict v_M_dict cl_M rfl rfl (Nat.le_of_ble_eq_true rfl) (by omega) rfl (hDi i tk (by omega) (by omega) (by omega)) ?_
                intro v_ h_ hq_
                obtain ⟨x_, rfl⟩ := orq_v hq_
                refine x_goto (tgt := 108) (x_d C_M_object 56 rfl) rfl ?_
                refine x_areturn (x_d C_M_object 59 rfl) ?_
                exact hq_
        · refine x_aload_n (x_d C_M_object 30 rfl) rfl ?_
          refine x_iload_n (x_d C_M_object 31 rfl) rfl ?_
          refine x_invokevirtual (st := []) (av := [xI (e)]) (x_d C_M_object 32 rfl) k_M_70 m_M_array v_M_array cl_M rfl rfl (Nat.le_of_ble_eq_true rfl) (by omega) rfl (hA i tk (by omega) (by omega)) ?_
          intro v_ h_ hq_
          obtain ⟨x_, rfl⟩ := orq_v hq_
          refine x_areturn (x_d C_M_object 33 rfl) ?_
          exact hq_
      · refine x_aload_n (x_d C_M_object 24 rfl) rfl ?_
        obtain ⟨hl1, hl2⟩ := hL (f + i) (by omega) (by omega)
        have hlf : s_leaf X (f + q 1345) (f + i) = (s_str X (f + q 1345) 101 (f + i + 1) 0).map (fun x => ([s_one 5 (f + i) x.1], x.2)) := by unfold s_leaf; rw [if_pos (by omega)]
        rw [hl1, show (fun u w => k_val u w X (f + q 1345) D (f + i)) = (fun u w => k_opt u w (s_leaf X (f + q 1345) (f + i))) from funext (fun u => funext (fun w => hl2 u w)), hlf]
        refine x_invokevirtual (st := []) (av := []) (x_d C_M_object 25 rfl) k_M_67 m_M_string v_M_string cl_M rfl rfl (Nat.le_of_ble_eq_true rfl) (by omega) rfl (c_M_string Z (d - 1) q r A dy (by omega) X f i tk (fun u w => k_opt u w ((s_str X (f + q 1345) 101 (f + i + 1) 0).map (fun x => ([s_one 5 (f + i) x.1], x.2)))) g D hg hf hn hX hij hB (by omega) (fun x hx u w => by rw [hx]; exact Nat.le_refl _)) ?_
        intro v_ h_ hq_
        obtain ⟨x_, rfl⟩ := orq_v hq_
        refine x_areturn (x_d C_M_object 26 rfl) ?_
        exact hq_
    · refine x_aload_n (x_d C_M_object 18 rfl) rfl ?_
      obtain ⟨hl1, hl2⟩ := hL (f + i) (by omega) (by omega)
      have hlf : s_leaf X (f + q 1345) (f + i) = if s_name X (f + q 1345) (f + i) < 0 then none else some ([s_one 4 (f + i + 1) (s_name X (f + q 1345) (f + i) - (f + i) - 1)], s_name X (f + q 1345) (f + i)) := by unfold s_leaf; rw [if_neg (by omega), if_neg (by omega), if_pos (by omega)]
      rw [hl1, show (fun u w => k_val u w X (f + q 1345) D (f + i)) = (fun u w => k_opt u w (s_leaf X (f + q 1345) (f + i))) from funext (fun u => funext (fun w => hl2 u w)), hlf]
      refine x_invokevirtual (st := []) (av := []) (x_d C_M_object 19 rfl) k_M_63 m_M_name v_M_name cl_M rfl rfl (Nat.le_of_ble_eq_true rfl) (by omega) rfl (c_M_name Z (d - 1) q r A dy (by omega) X f i tk hf hn hX hij hB (by omega)) ?_
      rintro v_ h_ (⟨hs, rfl, rfl⟩ | ⟨hs, rfl, fb, rfl, hfb⟩)
      · refine x_areturn (x_d C_M_object 20 rfl) ?_
        rw [if_pos hs]
        exact orq_none hij
      · refine x_areturn (x_d C_M_object 20 rfl) ?_
        rw [if_neg (by omega)]
        refine orq_by (by omega) hg (fun _ _ => Nat.le_refl _) (by omega) (by omega) (fun g9 hg9 => ?_)
        refine ⟨⟨by show (0 : Int) ≤ 4; omega, by show (4 : Int) ≤ 9; omega⟩, fun z => absurd (show (4 : Int) = 3 from z) (by omega), fun z => absurd (show (4 : Int) = 8 from z) (by omega), fun _ => ⟨by show 0 ≤ f + i + 1; omega, by show 0 ≤ s_name X (f + q 1345) (f + i) - (f + i) - 1; omega, by show s_name X (f + q 1345) (f + i) - (f + i) - 1 ≤ 4000; omega, by show f + i + 1 + (s_name X (f + q 1345) (f + i) - (f + i) - 1) ≤ f + q 1345; omega, _, fb, rfl, hg9, fun k hk => hfb k hk⟩, fun z => absurd (show (4 : Int) = 5 from z) (by omega), fun z => absurd (show (4 : Int) = 4 ∨ (4 : Int) = 5 ∨ (4 : Int) = 9 from Or.inl rfl) z⟩
  · refine x_null (x_d C_M_object 7 rfl) ?_
    refine x_areturn (x_d C_M_object 8 rfl) ?_
    rw [s_val_end X hB _ D (by omega)]
    exact orq_none hij
