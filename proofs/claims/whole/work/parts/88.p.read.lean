/-! the reference: reading a file -/
theorem c_M_read (Z : xZ) (d : Nat) (q : Nat → Int) (r : Nat → Option Nat) (A : Nat → Nat → Int) (hd : 45 ≤ d) (X : Nat → Int) (f : Int) (cp : Nat) (bt : Option Nat) (lt : Int) (fis fge fpl : Nat → Int) (fva : Nat → Option Nat) (fch : Nat → Int) (x : ost) (M : Nat → Nat → Nat) (hf : 0 ≤ f) (hn : 0 ≤ q 1345 ∧ q 1345 ≤ 4000) (hX : ∀ k : Nat, (k : Int) < q 1345 → A 44 k = X (f.toNat + k)) (hB : ∀ k, -128 ≤ X k ∧ X k ≤ 127) (hfE : f + q 1345 ≤ 10248) (j ol : Int) (tz : Nat → Int) (g : Nat → Option xE) (dyn : xH) (hj : 0 ≤ j ∧ j ≤ 4000) (hp : PB dyn cp bt 0 lt none 0 fis fge fpl fva fch) (hnp : gnp g cp) (hgk : gok g dyn) (hrx : RX 0 0 (q 1345) (s_hi x (-1)) fis fge fpl (fun _ => 0)) (hmu : ∀ u w, mu u w dyn + (u + 6 * w) + k_tabs u w X (f + q 1345) f 6 0 (s_last X (f + q 1345) f) [] x 0 ≤ M u w) : xMet Z d Y_M_read [xC 42, xC cp] (hF (x_up (x_up q 1354 ol) 1346 j) (x_up r 1344 (some 44)) (x_up A 43 tz) ++ dyn) (rqp q r A X f g cp bt (s_last X (f + q 1345) f) fva fch (52 + dyn.length) M (s_ot X (f + q 1345) f x)) := by
  refine xMet_of (by decide) (Nat.le_of_ble_eq_true rfl) (fun v h2 hq => by obtain ⟨_, _, _, _, _, _, _, ⟨_, _, e, _⟩ | ⟨_, ⟨e, _⟩ | ⟨e, _⟩⟩⟩ := hq <;> rw [e] <;> trivial) ?_
  have hXi : ∀ u : Int, 0 ≤ u → u < q 1345 → A 44 u.toNat = X (f + u).toNat := fun u h1 h2 => by rw [hX u.toNat (by omega)]; congr 1; omega
  obtain ⟨px, hpx⟩ : ∃ z, z = s_txt X (f + q 1345) f [37, 80, 68, 70, 45, 49, 46] := ⟨_, rfl⟩
  obtain ⟨dv, hdv⟩ : ∃ z, z = s_dgs X (f + q 1345) px 1 := ⟨_, rfl⟩
  obtain ⟨la, hla⟩ : ∃ z, z = s_last X (f + q 1345) f := ⟨_, rfl⟩
  have ipx := s_txt_in X (f + q 1345) f [37, 80, 68, 70, 45, 49, 46]
  have ifx := s_txt_iff (b := X) (n := (f + q 1345)) (i := f) (cs := [37, 80, 68, 70, 45, 49, 46])
  rw [← hpx] at ipx ifx
  simp only [List.length_cons, List.length_nil] at ipx
  have hd1 : px = f + 7 → 8 ≤ q 1345 → ((x_bo (s_dig (A 44 (7 : Int).toNat)) = 1 ∧ 0 ≤ dv) ∨ (x_bo (s_dig (A 44 (7 : Int).toNat)) = 0 ∧ dv < 0)) := fun h1 h2 => by
    have hi := s_dgs_iff (b := X) (n := (f + q 1345)) (i := f + 7) (m := 1) (by omega) (by omega)
    rw [show ((1 : Nat) : Int) = 1 from rfl, ← h1, ← hdv] at hi
    have hx := hXi 7 (by omega) (by omega)
    rw [← h1] at hx
    cases hz : s_dig (A 44 (7 : Int).toNat) with
    | true => exact Or.inl ⟨rfl, hi.mpr (fun k hk => by rw [show k = 0 by omega, Nat.add_zero, ← hx]; exact hz)⟩
    | false =>
      refine Or.inr ⟨rfl, ?_⟩
      rcases Int.lt_or_le dv 0 with z | z
      · exact z
      · have := hi.mp z 0 (by omega)
        rw [Nat.add_zero, ← hx, hz] at this
        cases this
  have hd0 : (px = -1 ∨ q 1345 < 8) → dv < 0 := fun h => by rw [hdv]; unfold s_dgs; rw [if_neg (by omega)]; omega
  have hot1 : dv < 0 → s_ot X (f + q 1345) f x = (1, x, 0, 0, []) := fun h => by unfold s_ot; rw [← hpx, ← hdv, if_pos h]
  have hot2 : 0 ≤ dv → la < 0 → s_ot X (f + q 1345) f x = (2, x, 0, 0, []) := fun h h2 => by unfold s_ot; rw [← hpx, ← hdv, if_neg (by omega), ← hla, if_pos h2]
  have hot3 : 0 ≤ dv → 0 ≤ la → s_ot X (f + q 1345) f x = s_tabs X (f + q 1345) f 6 0 la [] x 0 [] := fun h h2 => by unfold s_ot; rw [← hpx, ← hdv, if_neg (by omega), ← hla, if_neg (by omega)]
  have h37 : 0 ≤ px → s_txt X (f + q 1345) f [115, 116, 97, 114, 116, 120, 114, 101, 102] < 0 := fun h => by
    rcases Int.lt_or_le (s_txt X (f + q 1345) f [115, 116, 97, 114, 116, 120, 114, 101, 102]) 0 with z | z
    · exact z
    · have a1 : X (f.toNat + 0) = 37 := (ifx.mp h).2.2 0 (by decide)
      have a2 : X (f.toNat + 0) = 115 := (s_txt_iff.mp z).2.2 0 (by decide)
      omega
  rw [← hla] at hmu ⊢
  refine x_aload_n (x_d C_M_read 0 rfl) rfl ?_
  refine x_iconst (x_d C_M_read 1 rfl) ⟨by omega, by omega⟩ ?_
  refine x_ldcS (i := 54) (x_d C_M_read 2 rfl) rfl ?_
  refine x_invokevirtual (st := []) (av := [xI (0), xS (109)]) (x_d C_M_read 3 rfl) k_M_34 m_M_isAt1 v_M_isAt1 cl_M rfl rfl (Nat.le_of_ble_eq_true rfl) (by omega) rfl (c_M_isAt1 Z (d - 1) (x_up q 1354 ol) r (x_up A 43 tz) dyn (by omega) X f j 0 (si := 54) rfl hf hn hX (by omega)) ?_
  rintro v_ _ ⟨hv_, rfl⟩
  obtain ⟨z_, rfl, hz_⟩ : ∃ z : Int, v_ = some (xI z) ∧ ((z = 1 ∧ (0 : Int) ≤ 0 ∧ 0 ≤ s_txt X (f + q 1345) (f + 0) [37, 80, 68, 70, 45, 49, 46]) ∨ (z = 0 ∧ ¬ ((0 : Int) ≤ 0 ∧ 0 ≤ s_txt X (f + q 1345) (f + 0) [37, 80, 68, 70, 45, 49, 46]))) := ⟨_, hv_, by by_cases c_ : ((0 : Int) ≤ 0 ∧ 0 ≤ s_txt X (f + q 1345) (f + 0) [37, 80, 68, 70, 45, 49, 46]); exact Or.inl ⟨x_bo_t c_, c_⟩; exact Or.inr ⟨x_bo_f c_, c_⟩⟩
  rw [show f + 0 = f by omega, ← hpx] at hz_
  refine x_if_eq (tgt := 32) (x_d C_M_read 4 rfl) rfl (fun c1 => ?_) (fun c1 => ?_)
  · refine x_iconst (x_d C_M_read 15 rfl) ⟨by omega, by omega⟩ ?_
    refine x_ireturn (x_d C_M_read 16 rfl) ?_
    rw [hot1 (by have := hd1; omega)]
    exact ⟨_, ol, tz, dyn, rfl, by omega, fun u w => by have := hmu u w; omega, Or.inl ⟨by show ¬ (1 : Int) = 0; omega, ⟨by show (1 : Int) ≤ 1; omega, by show (1 : Int) ≤ 4; omega⟩, rfl, hgk⟩⟩
  · refine x_aload_n (x_d C_M_read 5 rfl) rfl ?_
    refine x_getfield (v := xI (q 1345)) (x_d C_M_read 6 rfl) f_M_11 rfl rfl ?_
    refine x_bipush (x_d C_M_read 7 rfl) (by omega) ?_
    refine x_icmp_lt (tgt := 32) (x_d C_M_read 8 rfl) rfl (fun c2 => ?_) (fun c2 => ?_)
    · refine x_iconst (x_d C_M_read 15 rfl) ⟨by omega, by omega⟩ ?_
      refine x_ireturn (x_d C_M_read 16 rfl) ?_
      rw [hot1 (by have := hd1; omega)]
      exact ⟨_, ol, tz, dyn, rfl, by omega, fun u w => by have := hmu u w; omega, Or.inl ⟨by show ¬ (1 : Int) = 0; omega, ⟨by show (1 : Int) ≤ 1; omega, by show (1 : Int) ≤ 4; omega⟩, rfl, hgk⟩⟩
    · refine x_aload_n (x_d C_M_read 9 rfl) rfl ?_
      refine x_getfield (v := xC 44) (x_d C_M_read 10 rfl) f_M_14 rfl rfl ?_
      refine x_bipush (x_d C_M_read 11 rfl) (by omega) ?_
      refine x_baload (f := A 44) (x_d C_M_read 12 rfl) rfl (by omega) (by omega) ?_
      refine x_invokestatic (st := []) (av := [xI (A 44 (7 : Int).toNat)]) (x_d C_M_read 13 rfl) k_M_52 m_M_isDigit s_M_isDigit rfl (Nat.le_of_ble_eq_true rfl) (by omega) rfl (c_M_isDigit Z (d - 1) (hF (x_up (x_up q 1354 ol) 1346 j) (x_up r 1344 (some 44)) (x_up A 43 tz) ++ dyn) (A 44 (7 : Int).toNat)) ?_
      rintro v_ h_ ⟨hv_, hh_⟩
      obtain rfl : v_ = some (xI (x_bo (s_dig (A 44 (7 : Int).toNat)))) := hv_
      rw [hh_]
      clear hh_
      refine x_if_ne (tgt := 34) (x_d C_M_read 14 rfl) rfl (fun c3 => ?_) (fun c3 => ?_)
      · refine x_aload_n (x_d C_M_read 17 rfl) rfl ?_
        refine x_getfield (v := xI (q 1345)) (x_d C_M_read 18 rfl) f_M_11 rfl rfl ?_
        refine x_bipush (x_d C_M_read 19 rfl) (by omega) ?_
        refine x_isub (x_d C_M_read 20 rfl) ⟨by omega, by omega⟩ ?_
        refine x_istore_n (l1 := [(2, xI (q 1345 - 9)), (0, xC 42), (1, xC cp)]) (x_d C_M_read 21 rfl) (by decide) rfl ?_
        refine x_locs [1, 2, 0] rfl ?_
        have hdv0 : 0 ≤ dv := by have := hd1 (by omega) (by omega); omega
        have hLK : s_last1 X (f + q 1345) f (s_lk X (f + q 1345) f (q 1345 - 9).toNat (f + (q 1345 - 9))) = la := by rw [hla]; unfold s_last; rw [show (f + q 1345) - 9 - f = q 1345 - 9 by omega, show f + (q 1345 - 9) = (f + q 1345) - 9 by omega]
        refine w_M_read_42 Z d q r A (by omega) X f j ol tz dyn cp hf hn hX hB hj (s_lk X (f + q 1345) f (q 1345 - 9).toNat (f + (q 1345 - 9))) (h37 (by omega)) _ (fun t hlk => ?_) (q 1345 - 8).toNat (q 1345 - 9) (by omega) (by omega) rfl
        refine w_M_read_62 Z d q r A (by omega) X f j ol tz dyn cp hf hn hX hB hj (s_lk X (f + q 1345) f (q 1345 - 9).toNat (f + (q 1345 - 9))) t hlk _ (fun hl2 j2 hj2 => ?_) (fun hl2 hl3 j2 hj2 => ?_)
        · rw [hLK] at hl2
          rw [hot2 hdv0 hl2]
          exact ⟨_, ol, tz, dyn, rfl, by omega, fun u w => by have := hmu u w; omega, Or.inl ⟨by show ¬ (2 : Int) = 0; omega, ⟨by show (1 : Int) ≤ 2; omega, by show (2 : Int) ≤ 4; omega⟩, rfl, hgk⟩⟩
        · rw [hLK] at hl2 hl3 ⊢
          rw [hot3 hdv0 hl2]
          refine x_aload_n (x_d C_M_read 91 rfl) rfl ?_
          refine x_iload_n (x_d C_M_read 92 rfl) rfl ?_
          refine x_putfield (h1 := hF (x_up (x_up q 1354 ol) 1346 j2) (x_up r 1344 (some 44)) (x_up A 43 tz) ++ (dyn.set (cp - 52) (xB 11 [xO bt, xI 0, xI la, xO none, xC (cp + 1), xC (cp + 2), xC (cp + 3), xC (cp + 4), xC (cp + 5), xI 0]))) (x_d C_M_read 93 rfl) p_M_221 (ct_get hp.1 _ _ _) rfl rfl trivial (g_set hp.1.1 _ _ _ _) ?_
          have hs_ := PB_ob hp hnp hgk bt 0 la none 0
          generalize dyn.set (cp - 52) (xB 11 [xO bt, xI 0, xI la, xO none, xC (cp + 1), xC (cp + 2), xC (cp + 3), xC (cp + 4), xC (cp + 5), xI 0]) = dn1 at hs_ ⊢
          obtain ⟨hp1, hs1⟩ := hs_
          have hgk1 := hs1.1
          refine x_bipush (x_d C_M_read 94 rfl) (by omega) ?_
          refine x_newarrayL (k := 52 + dn1.length) (h1 := hF (x_up (x_up q 1354 ol) 1346 j2) (x_up r 1344 (some 44)) (x_up A 43 tz) ++ (dn1 ++ [xA 0 6 (fun _ => 0)])) (x_d C_M_read 95 rfl) at_int (by omega) (by omega) (g_len0 _ _ _ _) (g_push0 _ _ _ _ _) ?_
          have hctd : ctn g cp (52 + dn1.length) := by
            refine ⟨?_, by have := ct_lt hp1.1; omega, by have := ct_lt hp1.2.1; omega, by have := ct_lt hp1.2.2.1; omega, by have := ct_lt hp1.2.2.2.1; omega, by have := ct_lt hp1.2.2.2.2.1; omega, by have := ct_lt hp1.2.2.2.2.2; omega⟩
            cases hz : g (52 + dn1.length) with
            | none => rfl
            | some z => have := ct_lt (hgk1 _ _ hz); omega
          have hp9 := PB_app hp1 [xA 0 6 (fun _ => 0)]
          have hca9 : ct (dn1 ++ [xA 0 6 (fun _ => 0)]) (52 + dn1.length) (xA 0 6 (fun _ => 0)) := ct_new0 dn1 _ rfl
          have hgk9 : gok g (dn1 ++ [xA 0 6 (fun _ => 0)]) := gok_app hgk1 _
          have hmu9 : ∀ u w, mu u w (dn1 ++ [xA 0 6 (fun _ => 0)]) + k_tabs u w X (f + q 1345) f 6 0 la [] x 0 ≤ M u w := fun u w => by
            have a1 := hmu u w
            rw [mu_app, mu_cons, mu_nil, hs1.2.1 u w]
            have e : u + w * x_sz (xA 0 6 (fun _ => 0)) + 0 = u + 6 * w := by show u + w * 6 + 0 = _; omega
            rw [e]
            omega
          have hln9 : 52 + dn1.length = 52 + dyn.length := by rw [hs1.2.2]
          generalize (dn1 ++ [xA 0 6 (fun _ => 0)]) = dyn9 at hp9 hca9 hgk9 hmu9 ⊢
          rw [hln9] at hctd hca9 ⊢
          generalize hcd : 52 + dyn.length = ca at hctd hca9 ⊢
          refine x_astore (l1 := [(4, xC ca), (0, xC 42), (1, xC cp), (2, xI (t)), (3, xI (la))]) (x_d C_M_read 96 rfl) (by decide) rfl ?_
          refine x_iload_n (x_d C_M_read 97 rfl) rfl ?_
          refine x_istore (l1 := [(5, xI (la)), (4, xC ca), (0, xC 42), (1, xC cp), (2, xI (t)), (3, xI (la))]) (x_d C_M_read 98 rfl) (by decide) rfl ?_
          refine x_locs [2, 3, 4, 5, 1, 0] rfl ?_
          exact w_M_read_188 Z d q r A (by omega) X f cp ca bt la fva fch t la M hf hn hX hB hfE 6 0 la [] x 0 none [] fis fge fpl j2 ol tz g ca dyn9 (fun _ => 0) (by omega) hl2 ⟨rfl, fun i hi => absurd hi (Nat.not_lt_zero _)⟩ hj2 hp9 hctd hca9 hgk9 hnp (Nat.le_refl _) hrx (Or.inl ⟨rfl, rfl⟩) hmu9
      · refine x_iconst (x_d C_M_read 15 rfl) ⟨by omega, by omega⟩ ?_
        refine x_ireturn (x_d C_M_read 16 rfl) ?_
        rw [hot1 (by have := hd1; omega)]
        exact ⟨_, ol, tz, dyn, rfl, by omega, fun u w => by have := hmu u w; omega, Or.inl ⟨by show ¬ (1 : Int) = 0; omega, ⟨by show (1 : Int) ≤ 1; omega, by show (1 : Int) ≤ 4; omega⟩, rfl, hgk⟩⟩
theorem c_M_used (Z : xZ) (d : Nat) (q : Nat → Int) (r : Nat → Option Nat) (A : Nat → Nat → Int) (dy : xH) : xMet Z d Y_M_used [xC 42] (hF q r A ++ dy) (fun v h2 => v = some (xI (q 1349)) ∧ h2 = hF (x_up q 1349 0) r A ++ dy) := by
  refine xMet_of (by decide) (Nat.le_of_ble_eq_true rfl) (fun v h2 hq => by rw [hq.1]; trivial) ?_
  refine x_aload_n (x_d C_M_used 0 rfl) rfl ?_
  refine x_getfield (v := xI (q 1349)) (x_d C_M_used 1 rfl) f_M_193 rfl rfl ?_
  refine x_istore_n (l1 := [(1, xI (q 1349)), (0, xC 42)]) (x_d C_M_used 2 rfl) (by decide) rfl ?_
  refine x_aload_n (x_d C_M_used 3 rfl) rfl ?_
  refine x_iconst (x_d C_M_used 4 rfl) ⟨by omega, by omega⟩ ?_
  refine x_putfield (h1 := hF (x_up q 1349 0) r A ++ dy) (x_d C_M_used 5 rfl) p_M_193 rfl rfl rfl trivial rfl ?_
  refine x_iload_n (x_d C_M_used 6 rfl) rfl ?_
  refine x_ireturn (x_d C_M_used 7 rfl) ?_
  exact ⟨rfl, rfl⟩
theorem c_MP_init (Z : xZ) (d : Nat) (q : Nat → Int) (r : Nat → Option Nat) (A : Nat → Nat → Int) (dy : xH) (hd : 1 ≤ d) : xMet Z d Y_MP_init [xC (52 + dy.length)] (hF q r A ++ (dy ++ [xB 11 [xN, xI 0, xI 0, xN, xN, xN, xN, xN, xN, xI 0]])) (fun v h2 => v = none ∧ h2 = hF q r A ++ (dy ++ [xB 11 [xN, xI 0, xI 0, xN, xC (52 + dy.length + 1), xC (52 + dy.length + 2), xC (52 + dy.length + 3), xC (52 + dy.length + 4), xC (52 + dy.length + 5), xI 0], xA 0 301 (fun _ => 0), xA 0 301 (fun _ => 0), xA 3 301 (fun _ => 0), xQ 4 301 (fun _ => none), xA 2 301 (fun _ => 0)])) := by
  refine xMet_of (by decide) (Nat.le_of_ble_eq_true rfl) (fun v h2 hq => by rw [hq.1]; trivial) ?_
  refine x_aload_n (x_d C_MP_init 0 rfl) rfl ?_
  refine x_objInit (x_d C_MP_init 1 rfl) o_MP_3 ob_1 (Nat.le_of_ble_eq_true rfl) (by omega) ?_
  refine x_aload_n (x_d C_MP_init 2 rfl) rfl ?_
  refine x_sipush (x_d C_MP_init 3 rfl) (by omega) ?_
  refine x_newarrayL (k := 52 + dy.length + 1) (h1 := hF q r A ++ (dy ++ [xB 11 [xN, xI (0), xI (0), xN, xN, xN, xN, xN, xN, xI (0)], xA 0 301 (fun _ => 0)])) (x_d C_MP_init 4 rfl) at_int (by omega) (by omega) (g_len _ _ _ _ [xB 11 [xN, xI (0), xI (0), xN, xN, xN, xN, xN, xN, xI (0)]] rfl) (g_push _ _ _ _ [xB 11 [xN, xI (0), xI (0), xN, xN, xN, xN, xN, xN, xI (0)]] _) ?_
  refine x_putfinal (h1 := hF q r A ++ (dy ++ [xB 11 [xN, xI (0), xI (0), xN, xC (52 + dy.length + 1), xN, xN, xN, xN, xI (0)], xA 0 301 (fun _ => 0)])) (x_d C_MP_init 5 rfl) rfl p_MP_9 (ct_get (ct_new0 dy [xB 11 [xN, xI (0), xI (0), xN, xN, xN, xN, xN, xN, xI (0)], xA 0 301 (fun _ => 0)] rfl) _ _ _) rfl rfl trivial (g_setl0 _ _ _ _ [xB 11 [xN, xI (0), xI (0), xN, xN, xN, xN, xN, xN, xI (0)], xA 0 301 (fun _ => 0)] _) ?_
  refine x_aload_n (x_d C_MP_init 6 rfl) rfl ?_
  refine x_sipush (x_d C_MP_init 7 rfl) (by omega) ?_
  refine x_newarrayL (k := 52 + dy.length + 2) (h1 := hF q r A ++ (dy ++ [xB 11 [xN, xI (0), xI (0), xN, xC (52 + dy.length + 1), xN, xN, xN, xN, xI (0)], xA 0 301 (fun _ => 0), xA 0 301 (fun _ => 0)])) (x_d C_MP_init 8 rfl) at_int (by omega) (by omega) (g_len _ _ _ _ [xB 11 [xN, xI (0), xI (0), xN, xC (52 + dy.length + 1), xN, xN, xN, xN, xI (0)], xA 0 301 (fun _ => 0)] rfl) (g_push _ _ _ _ [xB 11 [xN, xI (0), xI (0), xN, xC (52 + dy.length + 1), xN, xN, xN, xN, xI (0)], xA 0 301 (fun _ => 0)] _) ?_
  refine x_putfinal (h1 := hF q r A ++ (dy ++ [xB 11 [xN, xI (0), xI (0), xN, xC (52 + dy.length + 1), xC (52 + dy.length + 2), xN, xN, xN, xI (0)], xA 0 301 (fun _ => 0), xA 0 301 (fun _ => 0)])) (x_d C_MP_init 9 rfl) rfl p_MP_15 (ct_get (ct_new0 dy [xB 11 [xN, xI (0), xI (0), xN, xC (52 + dy.length + 1), xN, xN, xN, xN, xI (0)], xA 0 301 (fun _ => 0), xA 0 301 (fun _ => 0)] rfl) _ _ _) rfl rfl trivial (g_setl0 _ _ _ _ [xB 11 [xN, xI (0), xI (0), xN, xC (52 + dy.length + 1), xN, xN, xN, xN, xI (0)], xA 0 301 (fun _ => 0), xA 0 301 (fun _ => 0)] _) ?_
  refine x_aload_n (x_d C_MP_init 10 rfl) rfl ?_
  refine x_sipush (x_d C_MP_init 11 rfl) (by omega) ?_
  refine x_newarrayL (k := 52 + dy.length + 3) (h1 := hF q r A ++ (dy ++ [xB 11 [xN, xI (0), xI (0), xN, xC (52 + dy.length + 1), xC (52 + dy.length + 2), xN, xN, xN, xI (0)], xA 0 301 (fun _ => 0), xA 0 301 (fun _ => 0), xA 3 301 (fun _ => 0)])) (x_d C_MP_init 12 rfl) at_long (by omega) (by omega) (g_len _ _ _ _ [xB 11 [xN, xI (0), xI (0), xN, xC (52 + dy.length + 1), xC (52 + dy.length + 2), xN, xN, xN, xI (0)], xA 0 301 (fun _ => 0), xA 0 301 (fun _ => 0)] rfl) (g_push _ _ _ _ [xB 11 [xN, xI (0), xI (0), xN, xC (52 + dy.length + 1), xC (52 + dy.length + 2), xN, xN, xN, xI (0)], xA 0 301 (fun _ => 0), xA 0 301 (fun _ => 0)] _) ?_
  refine x_putfinal (h1 := hF q r A ++ (dy ++ [xB 11 [xN, xI (0), xI (0), xN, xC (52 + dy.length + 1), xC (52 + dy.length + 2), xC (52 + dy.length + 3), xN, xN, xI (0)], xA 0 301 (fun _ => 0), xA 0 301 (fun _ => 0), xA 3 301 (fun _ => 0)])) (x_d C_MP_init 13 rfl) rfl p_MP_18 (ct_get (ct_new0 dy [xB 11 [xN, xI (0), xI (0), xN, xC (52 + dy.length + 1), xC (52 + dy.length + 2), xN, xN, xN, xI (0)], xA 0 301 (fun _ => 0), xA 0 301 (fun _ => 0), xA 3 301 (fun _ => 0)] rfl) _ _ _) rfl rfl trivial (g_setl0 _ _ _ _ [xB 11 [xN, xI (0), xI (0), xN, xC (52 + dy.length + 1), xC (52 + dy.length + 2), xN, xN, xN, xI (0)], xA 0 301 (fun _ => 0), xA 0 301 (fun _ => 0), xA 3 301 (fun _ => 0)] _) ?_
  refine x_aload_n (x_d C_MP_init 14 rfl) rfl ?_
  refine x_sipush (x_d C_MP_init 15 rfl) (by omega) ?_
  refine x_anewarray4 (k := 52 + dy.length + 4) (h1 := hF q r A ++ (dy ++ [xB 11 [xN, xI (0), xI (0), xN, xC (52 + dy.length + 1), xC (52 + dy.length + 2), xC (52 + dy.length + 3), xN, xN, xI (0)], xA 0 301 (fun _ => 0), xA 0 301 (fun _ => 0), xA 3 301 (fun _ => 0), xQ 4 301 (fun _ => none)])) (x_d C_MP_init 16 rfl) qn_MP_22 (by omega) (by omega) (g_len _ _ _ _ [xB 11 [xN, xI (0), xI (0), xN, xC (52 + dy.length + 1), xC (52 + dy.length + 2), xC (52 + dy.length + 3), xN, xN, xI (0)], xA 0 301 (fun _ => 0), xA 0 301 (fun _ => 0), xA 3 301 (fun _ => 0)] rfl) (g_push _ _ _ _ [xB 11 [xN, xI (0), xI (0), xN, xC (52 + dy.length + 1), xC (52 + dy.length + 2), xC (52 + dy.length + 3), xN, xN, xI (0)], xA 0 301 (fun _ => 0), xA 0 301 (fun _ => 0), xA 3 301 (fun _ => 0)] _) ?_
  refine x_putfinal (h1 := hF q r A ++ (dy ++ [xB 11 [xN, xI (0), xI (0), xN, xC (52 + dy.length + 1), xC (52 + dy.length + 2), xC (52 + dy.length + 3), xC (52 + dy.length + 4), xN, xI (0)], xA 0 301 (fun _ => 0), xA 0 301 (fun _ => 0), xA 3 301 (fun _ => 0), xQ 4 301 (fun _ => none)])) (x_d C_MP_init 17 rfl) rfl p_MP_24 (ct_get (ct_new0 dy [xB 11 [xN, xI (0), xI (0), xN, xC (52 + dy.length + 1), xC (52 + dy.length + 2), xC (52 + dy.length + 3), xN, xN, xI (0)], xA 0 301 (fun _ => 0), xA 0 301 (fun _ => 0), xA 3 301 (fun _ => 0), xQ 4 301 (fun _ => none)] rfl) _ _ _) rfl rfl trivial (g_setl0 _ _ _ _ [xB 11 [xN, xI (0), xI (0), xN, xC (52 + dy.length + 1), xC (52 + dy.length + 2), xC (52 + dy.length + 3), xN, xN, xI (0)], xA 0 301 (fun _ => 0), xA 0 301 (fun _ => 0), xA 3 301 (fun _ => 0), xQ 4 301 (fun _ => none)] _) ?_
  refine x_aload_n (x_d C_MP_init 18 rfl) rfl ?_
  refine x_sipush (x_d C_MP_init 19 rfl) (by omega) ?_
  refine x_newarrayL (k := 52 + dy.length + 5) (h1 := hF q r A ++ (dy ++ [xB 11 [xN, xI (0), xI (0), xN, xC (52 + dy.length + 1), xC (52 + dy.length + 2), xC (52 + dy.length + 3), xC (52 + dy.length + 4), xN, xI (0)], xA 0 301 (fun _ => 0), xA 0 301 (fun _ => 0), xA 3 301 (fun _ => 0), xQ 4 301 (fun _ => none), xA 2 301 (fun _ => 0)])) (x_d C_MP_init 20 rfl) at_boolean (by omega) (by omega) (g_len _ _ _ _ [xB 11 [xN, xI (0), xI (0), xN, xC (52 + dy.length + 1), xC (52 + dy.length + 2), xC (52 + dy.length + 3), xC (52 + dy.length + 4), xN, xI (0)], xA 0 301 (fun _ => 0), xA 0 301 (fun _ => 0), xA 3 301 (fun _ => 0), xQ 4 301 (fun _ => none)] rfl) (g_push _ _ _ _ [xB 11 [xN, xI (0), xI (0), xN, xC (52 + dy.length + 1), xC (52 + dy.length + 2), xC (52 + dy.length + 3), xC (52 + dy.length + 4), xN, xI (0)], xA 0 301 (fun _ => 0), xA 0 301 (fun _ => 0), xA 3 301 (fun _ => 0), xQ 4 301 (fun _ => none)] _) ?_
  refine x_putfinal (h1 := hF q r A ++ (dy ++ [xB 11 [xN, xI (0), xI (0), xN, xC (52 + dy.length + 1), xC (52 + dy.length + 2), xC (52 + dy.length + 3), xC (52 + dy.length + 4), xC (52 + dy.length + 5), xI (0)], xA 0 301 (fun _ => 0), xA 0 301 (fun _ => 0), xA 3 301 (fun _ => 0), xQ 4 301 (fun _ => none), xA 2 301 (fun _ => 0)])) (x_d C_MP_init 21 rfl) rfl p_MP_28 (ct_get (ct_new0 dy [xB 11 [xN, xI (0), xI (0), xN, xC (52 + dy.length + 1), xC (52 + dy.length + 2), xC (52 + dy.length + 3), xC (52 + dy.length + 4), xN, xI (0)], xA 0 301 (fun _ => 0), xA 0 301 (fun _ => 0), xA 3 301 (fun _ => 0), xQ 4 301 (fun _ => none), xA 2 301 (fun _ => 0)] rfl) _ _ _) rfl rfl trivial (g_setl0 _ _ _ _ [xB 11 [xN, xI (0), xI (0), xN, xC (52 + dy.length + 1), xC (52 + dy.length + 2), xC (52 + dy.length + 3), xC (52 + dy.length + 4), xN, xI (0)], xA 0 301 (fun _ => 0), xA 0 301 (fun _ => 0), xA 3 301 (fun _ => 0), xQ 4 301 (fun _ => none), xA 2 301 (fun _ => 0)] _) ?_
  refine x_return (x_d C_MP_init 22 rfl) ?_
  exact ⟨rfl, rfl⟩
