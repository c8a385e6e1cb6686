/-! the reference: save -/
theorem c_M_save0 (Z : xZ) (d : Nat) (q : Nat → Int) (r : Nat → Option Nat) (A : Nat → Nat → Int) (dy : xH) (hd : 19 ≤ d) (po : Option Nat) (X : Nat → Int) (E : Int) (g : Nat → Option xE) (P : Nat → Nat → Int) (hgk : gok g dy) (cp cb bl : Nat) (tb lt : Int) (ctr : Nat) (sz : Int) (fis fge fpl : Nat → Int) (fva : Nat → Option Nat) (fch fb : Nat → Int) (hp : PB dy cp (some cb) tb lt (some ctr) sz fis fge fpl fva fch) (hsz : 0 ≤ sz ∧ sz ≤ 300) (hcb : g cb = some (xA 1 bl fb)) (hbl : bl ≤ 4000) (hlt : 0 ≤ lt ∧ lt ≤ 2147483647) (p : Int) (ht : Tr X E g P 9 p ctr) (hk7 : P 5 p.toNat = 7) (hdj : Dj g ctr) (n2 : Int) (hE : E ≤ n2) (hSz : 0 ≤ s_nam (P 8) (P 9) X n2 p [83, 105, 122, 101]) (us gn ch : Nat → Int) (hug : ∀ k : Nat, (k : Int) < sz → (fis k = 2 ↔ ¬ us k = 0) ∧ gn k = fge k ∧ fch k = ch k ∧ (0 ≤ gn k ∧ gn k ≤ 99999)) (rt : Nat → Int) (hva : ∀ k : Nat, (k : Int) < sz → ¬ us k = 0 → ∃ c2, fva k = some c2 ∧ Tr X E g P 9 (rt k) c2) (L : List Int) (hL : L = s_file (s_wv (P 5) (P 6) (P 7) (P 8) (P 9) X n2 8) (s_wv (P 5) (P 6) (P 7) (P 8) (P 9) X n2 7) rt gn us ch (P 8) (P 9) X n2 p sz lt (s_sl fb 0 bl)) (hcz : s_sm fch 301 = s_sm ch sz.toNat) (hcb2 : ∀ k, fch k = 0 ∨ fch k = 1) (f pl : Nat → Int) (hpl : ∀ k, 0 ≤ pl k ∧ pl k ≤ 6000) : xMet Z d Y_M_save [xC 42] (hF q (x_up (x_up r 1350 (some cp)) 1351 po) (x_up (x_up A 49 pl) 48 f) ++ dy) (fun v h2 => ∃ s2 ov2 f2 pl2 ny, (∀ u w, mu u w ny ≤ 6 * u + 160 * w) ∧ (∀ k, 0 ≤ pl2 k ∧ pl2 k ≤ 6000) ∧ ((6000 < L.length ∧ v = some (xI (-3)) ∧ h2 = hF (x_up (x_up q 1359 s2) 1360 ov2) (x_up (x_up r 1350 (some cp)) 1351 po) (x_up (x_up A 49 pl2) 48 f2) ++ (dy ++ ny)) ∨ (L.length ≤ 6000 ∧ v = some (xI (L.length : Int)) ∧ ∃ fo, h2 = hF (x_up (x_up (x_up q 1359 s2) 1360 ov2) 1353 (L.length : Int)) (x_up (x_up r 1350 (some cp)) 1351 po) (x_up (x_up (x_up A 49 pl2) 48 f2) 45 fo) ++ (dy ++ ny) ∧ ∀ k, k < L.length → fo k = L.getD k 0))) := by
  refine xMet_of (by decide) (Nat.le_of_ble_eq_true rfl) (fun v h2 hq => by obtain ⟨_, _, _, _, _, _, _, ⟨_, e, _⟩ | ⟨_, e, _⟩⟩ := hq <;> rw [e] <;> trivial) ?_
  have hpp : ct dy cp (xB 11 [xC cb, xI tb, xI lt, xC ctr, xC (cp + 1), xC (cp + 2), xC (cp + 3), xC (cp + 4), xC (cp + 5), xI sz]) := hp.1
  have hgb := hgk _ _ hcb
  have hs0 := (s_sm_in (f := fch) (m := 1) (fun k => by have := hcb2 k; omega) 301).1
  have hpn : pb 6000 0 0 f [] := ⟨by omega, by omega, Or.inl ⟨by show (0 : Int) ≤ 6000; omega, rfl, rfl, fun k hk => absurd hk (Nat.not_lt_zero _)⟩⟩
  refine x_aload_n (x_d C_M_save 0 rfl) rfl ?_
  refine x_getfield (v := xC cp) (x_d C_M_save 1 rfl) f_M_207 rfl rfl ?_
  refine x_ifnonnullC (tgt := 10) (x_d C_M_save 2 rfl) rfl ?_
  refine x_aload_n (x_d C_M_save 5 rfl) rfl ?_
  refine x_iconst (x_d C_M_save 6 rfl) ⟨by omega, by omega⟩ ?_
  refine x_putfield (h1 := hF (x_up q 1359 0) (x_up (x_up r 1350 (some cp)) 1351 po) (x_up (x_up A 49 pl) 48 f) ++ dy) (x_d C_M_save 7 rfl) p_M_387 rfl rfl rfl trivial rfl ?_
  refine x_aload_n (x_d C_M_save 8 rfl) rfl ?_
  refine x_iconst (x_d C_M_save 9 rfl) ⟨by omega, by omega⟩ ?_
  refine x_putfield (h1 := hF (x_up (x_up q 1359 0) 1360 0) (x_up (x_up r 1350 (some cp)) 1351 po) (x_up (x_up A 49 pl) 48 f) ++ dy) (x_d C_M_save 10 rfl) p_M_390 rfl rfl rfl (Or.inl rfl) rfl ?_
  refine x_aload_n (x_d C_M_save 11 rfl) rfl ?_
  refine x_aload_n (x_d C_M_save 12 rfl) rfl ?_
  refine x_getfield (v := xC cp) (x_d C_M_save 13 rfl) f_M_207 rfl rfl ?_
  refine x_getfield (v := xC cb) (x_d C_M_save 14 rfl) f_M_206 (ct_get hpp _ _ _) rfl ?_
  refine x_invokevirtual (st := []) (av := [xC cb]) (x_d C_M_save 15 rfl) k_M_404 m_M_say1 v_M_say1 cl_M rfl rfl (Nat.le_of_ble_eq_true rfl) (by omega) rfl (c_M_say1 Z (d - 1) q (x_up (x_up r 1350 (some cp)) 1351 po) (x_up A 49 pl) dy (by omega) 0 0 f [] cb _ _ hgb (by omega) hpn) ?_
  rintro _ _ ⟨rfl, s2, ov2, f2, rfl, hp2⟩
  refine x_aload_n (x_d C_M_save 16 rfl) rfl ?_
  refine x_invokevirtual (st := []) (av := []) (x_d C_M_save 17 rfl) k_M_422 m_M_changes v_M_changes cl_M rfl rfl (Nat.le_of_ble_eq_true rfl) (by omega) rfl (c_M_changes2 Z (d - 1) (x_up (x_up q 1359 s2) 1360 ov2) r (x_up (x_up A 49 pl) 48 f2) dy po cp (some cb) tb lt (some ctr) sz fis fge fpl fva fch hp hsz hcb2) ?_
  rintro v_ _ ⟨hv_, rfl⟩
  obtain rfl : v_ = some (xI (s_sm ch sz.toNat)) := by rw [hv_, hcz]
  refine x_if_le (tgt := 42) (x_d C_M_save 18 rfl) rfl (fun c3 => ?_) (fun c3 => ?_)
  · have h9 : pb 6000 s2 ov2 f2 L := pb_fix hp2 (by rw [hL, List.nil_append]; unfold s_file; rw [if_pos (by omega)])
    have h90 := h9.1
    have h91 := h9.2.1
    have h92 := h9.2.2
    refine x_aload_n (x_d C_M_save 21 rfl) rfl ?_
    refine x_getfield (v := xI (ov2)) (x_d C_M_save 22 rfl) f_M_390 rfl rfl ?_
    refine x_if_eq (tgt := 52) (x_d C_M_save 23 rfl) rfl (fun c4 => ?_) (fun c4 => ?_)
    · refine x_aload_n (x_d C_M_save 26 rfl) rfl ?_
      refine x_getfield (v := xC 48) (x_d C_M_save 27 rfl) f_M_179 rfl rfl ?_
      refine x_iconst (x_d C_M_save 28 rfl) ⟨by omega, by omega⟩ ?_
      refine x_aload_n (x_d C_M_save 29 rfl) rfl ?_
      refine x_getfield (v := xC 45) (x_d C_M_save 30 rfl) f_M_170 rfl rfl ?_
      refine x_iconst (x_d C_M_save 31 rfl) ⟨by omega, by omega⟩ ?_
      refine x_aload_n (x_d C_M_save 32 rfl) rfl ?_
      refine x_getfield (v := xI (s2)) (x_d C_M_save 33 rfl) f_M_387 rfl rfl ?_
      refine x_arraycopy (st := []) (h1 := hF (x_up (x_up q 1359 s2) 1360 ov2) (x_up (x_up r 1350 (some cp)) 1351 po) (x_up (x_up (x_up A 49 pl) 48 f2) 45 (va_cpy f2 (A 45) (0 : Int).toNat (0 : Int).toNat (s2 : Int).toNat)) ++ dy) (x_d C_M_save 34 rfl) ac_M_323 ac_w (Or.inr rfl) rfl rfl (by omega) (by omega) (by omega) (by omega) (by omega) (Nat.le_of_ble_eq_true rfl) (by omega) rfl ?_
      refine x_aload_n (x_d C_M_save 35 rfl) rfl ?_
      refine x_aload_n (x_d C_M_save 36 rfl) rfl ?_
      refine x_getfield (v := xI (s2)) (x_d C_M_save 37 rfl) f_M_387 rfl rfl ?_
      refine x_putfield (h1 := hF (x_up (x_up (x_up q 1359 s2) 1360 ov2) 1353 s2) (x_up (x_up r 1350 (some cp)) 1351 po) (x_up (x_up (x_up A 49 pl) 48 f2) 45 (va_cpy f2 (A 45) (0 : Int).toNat (0 : Int).toNat (s2 : Int).toNat)) ++ dy) (x_d C_M_save 38 rfl) p_M_329 rfl rfl rfl trivial rfl ?_
      refine x_aload_n (x_d C_M_save 39 rfl) rfl ?_
      refine x_getfield (v := xI (s2)) (x_d C_M_save 40 rfl) f_M_387 rfl rfl ?_
      refine x_ireturn (x_d C_M_save 41 rfl) ?_
      refine ⟨s2, ov2, f2, pl, [], fun u w => by rw [mu_nil]; omega, hpl, ?_⟩
      rw [List.append_nil]
      rcases h92 with ⟨k1, k2, k3, k4⟩ | ⟨k1, k2⟩
      · refine Or.inr ⟨by omega, by rw [k3], _, by rw [← k3], fun k hk => ?_⟩
        rw [← k4 k hk]
        unfold va_cpy
        rw [if_pos (by omega)]
        show f2 (0 + (k - 0)) = f2 k
        rw [Nat.zero_add, Nat.sub_zero]
      · exfalso; omega
    · refine x_bipush (x_d C_M_save 24 rfl) (by omega) ?_
      refine x_ireturn (x_d C_M_save 25 rfl) ?_
      refine ⟨s2, ov2, f2, pl, [], fun u w => by rw [mu_nil]; omega, hpl, ?_⟩
      rw [List.append_nil]
      rcases h92 with ⟨k1, k2, k3, k4⟩ | ⟨k1, k2⟩
      · exfalso; omega
      · exact Or.inl ⟨by omega, rfl, rfl⟩
  · refine x_aload_n (x_d C_M_save 19 rfl) rfl ?_
    refine x_invokevirtual (st := []) (av := []) (x_d C_M_save 20 rfl) k_M_425 m_M_append v_M_append cl_M rfl rfl (Nat.le_of_ble_eq_true rfl) (by omega) rfl (c_M_append Z (d - 1) q r A dy (by omega) po X E g P hgk cp (some cb) tb lt ctr sz fis fge fpl fva fch hp hsz hlt p ht hk7 hdj n2 hE hSz us gn ch hug rt hva (s_sl fb 0 bl) L hL (by omega) s2 ov2 f2 pl hpl (pb_fix hp2 (List.nil_append _))) ?_
    rintro _ _ ⟨rfl, s9, ov9, f9, pl9, ny, rfl, hmu, hpl9, h9⟩
    have h90 := h9.1
    have h91 := h9.2.1
    have h92 := h9.2.2
    refine x_aload_n (x_d C_M_save 21 rfl) rfl ?_
    refine x_getfield (v := xI (ov9)) (x_d C_M_save 22 rfl) f_M_390 rfl rfl ?_
    refine x_if_eq (tgt := 52) (x_d C_M_save 23 rfl) rfl (fun c5 => ?_) (fun c5 => ?_)
    · refine x_aload_n (x_d C_M_save 26 rfl) rfl ?_
      refine x_getfield (v := xC 48) (x_d C_M_save 27 rfl) f_M_179 rfl rfl ?_
      refine x_iconst (x_d C_M_save 28 rfl) ⟨by omega, by omega⟩ ?_
      refine x_aload_n (x_d C_M_save 29 rfl) rfl ?_
      refine x_getfield (v := xC 45) (x_d C_M_save 30 rfl) f_M_170 rfl rfl ?_
      refine x_iconst (x_d C_M_save 31 rfl) ⟨by omega, by omega⟩ ?_
      refine x_aload_n (x_d C_M_save 32 rfl) rfl ?_
      refine x_getfield (v := xI (s9)) (x_d C_M_save 33 rfl) f_M_387 rfl rfl ?_
      refine x_arraycopy (st := []) (h1 := hF (x_up (x_up q 1359 s9) 1360 ov9) (x_up (x_up r 1350 (some cp)) 1351 po) (x_up (x_up (x_up A 49 pl9) 48 f9) 45 (va_cpy f9 (A 45) (0 : Int).toNat (0 : Int).toNat (s9 : Int).toNat)) ++ (dy ++ ny)) (x_d C_M_save 34 rfl) ac_M_323 ac_w (Or.inr rfl) rfl rfl (by omega) (by omega) (by omega) (by omega) (by omega) (Nat.le_of_ble_eq_true rfl) (by omega) rfl ?_
      refine x_aload_n (x_d C_M_save 35 rfl) rfl ?_
      refine x_aload_n (x_d C_M_save 36 rfl) rfl ?_
      refine x_getfield (v := xI (s9)) (x_d C_M_save 37 rfl) f_M_387 rfl rfl ?_
      refine x_putfield (h1 := hF (x_up (x_up (x_up q 1359 s9) 1360 ov9) 1353 s9) (x_up (x_up r 1350 (some cp)) 1351 po) (x_up (x_up (x_up A 49 pl9) 48 f9) 45 (va_cpy f9 (A 45) (0 : Int).toNat (0 : Int).toNat (s9 : Int).toNat)) ++ (dy ++ ny)) (x_d C_M_save 38 rfl) p_M_329 rfl rfl rfl trivial rfl ?_
      refine x_aload_n (x_d C_M_save 39 rfl) rfl ?_
      refine x_getfield (v := xI (s9)) (x_d C_M_save 40 rfl) f_M_387 rfl rfl ?_
      refine x_ireturn (x_d C_M_save 41 rfl) ?_
      refine ⟨s9, ov9, f9, pl9, ny, hmu, hpl9, ?_⟩
      rcases h92 with ⟨k1, k2, k3, k4⟩ | ⟨k1, k2⟩
      · refine Or.inr ⟨by omega, by rw [k3], _, by rw [← k3], fun k hk => ?_⟩
        rw [← k4 k hk]
        unfold va_cpy
        rw [if_pos (by omega)]
        show f9 (0 + (k - 0)) = f9 k
        rw [Nat.zero_add, Nat.sub_zero]
      · exfalso; omega
    · refine x_bipush (x_d C_M_save 24 rfl) (by omega) ?_
      refine x_ireturn (x_d C_M_save 25 rfl) ?_
      refine ⟨s9, ov9, f9, pl9, ny, hmu, hpl9, ?_⟩
      rcases h92 with ⟨k1, k2, k3, k4⟩ | ⟨k1, k2⟩
      · exfalso; omega
      · exact Or.inl ⟨by omega, rfl, rfl⟩
theorem c_M_save (Z : xZ) (d : Nat) (q : Nat → Int) (r : Nat → Option Nat) (A : Nat → Nat → Int) (dy : xH) (hd : 19 ≤ d) (po : Option Nat) (X : Nat → Int) (E : Int) (g : Nat → Option xE) (P : Nat → Nat → Int) (hgk : gok g dy) (cp cb bl : Nat) (tb lt : Int) (ctr : Nat) (sz : Int) (fis fge fpl : Nat → Int) (fva : Nat → Option Nat) (fch fb : Nat → Int) (hp : PB dy cp (some cb) tb lt (some ctr) sz fis fge fpl fva fch) (hsz : 0 ≤ sz ∧ sz ≤ 300) (hcb : g cb = some (xA 1 bl fb)) (hbl : bl ≤ 4000) (hlt : 0 ≤ lt ∧ lt ≤ 2147483647) (p : Int) (ht : Tr X E g P 9 p ctr) (hk7 : P 5 p.toNat = 7) (hdj : Dj g ctr) (n2 : Int) (hE : E ≤ n2) (hSz : 0 ≤ s_nam (P 8) (P 9) X n2 p [83, 105, 122, 101]) (us gn ch : Nat → Int) (hug : ∀ k : Nat, (k : Int) < sz → (fis k = 2 ↔ ¬ us k = 0) ∧ gn k = fge k ∧ fch k = ch k ∧ (0 ≤ gn k ∧ gn k ≤ 99999)) (rt : Nat → Int) (hva : ∀ k : Nat, (k : Int) < sz → ¬ us k = 0 → ∃ c2, fva k = some c2 ∧ Tr X E g P 9 (rt k) c2) (L : List Int) (hL : L = s_file (s_wv (P 5) (P 6) (P 7) (P 8) (P 9) X n2 8) (s_wv (P 5) (P 6) (P 7) (P 8) (P 9) X n2 7) rt gn us ch (P 8) (P 9) X n2 p sz lt (s_sl fb 0 bl)) (hcz : s_sm fch 301 = s_sm ch sz.toNat) (hcb2 : ∀ k, fch k = 0 ∨ fch k = 1) (hpl : ∀ k, 0 ≤ A 49 k ∧ A 49 k ≤ 6000) : xMet Z d Y_M_save [xC 42] (hF q (x_up (x_up r 1350 (some cp)) 1351 po) A ++ dy) (fun v h2 => ∃ s2 ov2 f2 pl2 ny, (∀ u w, mu u w ny ≤ 6 * u + 160 * w) ∧ (∀ k, 0 ≤ pl2 k ∧ pl2 k ≤ 6000) ∧ ((6000 < L.length ∧ v = some (xI (-3)) ∧ h2 = hF (x_up (x_up q 1359 s2) 1360 ov2) (x_up (x_up r 1350 (some cp)) 1351 po) (x_up (x_up A 49 pl2) 48 f2) ++ (dy ++ ny)) ∨ (L.length ≤ 6000 ∧ v = some (xI (L.length : Int)) ∧ ∃ fo, h2 = hF (x_up (x_up (x_up q 1359 s2) 1360 ov2) 1353 (L.length : Int)) (x_up (x_up r 1350 (some cp)) 1351 po) (x_up (x_up (x_up A 49 pl2) 48 f2) 45 fo) ++ (dy ++ ny) ∧ ∀ k, k < L.length → fo k = L.getD k 0))) := by
  have h := c_M_save0 Z d q r A dy hd po X E g P hgk cp cb bl tb lt ctr sz fis fge fpl fva fch fb hp hsz hcb hbl hlt p ht hk7 hdj n2 hE hSz us gn ch hug rt hva L hL hcz hcb2 (A 48) (A 49) hpl
  rw [x_up_same A 49, x_up_same A 48] at h
  exact h
theorem c_M_saveN (Z : xZ) (d : Nat) (q : Nat → Int) (r : Nat → Option Nat) (A : Nat → Nat → Int) (dy : xH) (hd : 1 ≤ d) (po : Option Nat) : xMet Z d Y_M_save [xC 42] (hF q (x_up (x_up r 1350 none) 1351 po) A ++ dy) (fun v h2 => v = some (xI (-2)) ∧ h2 = hF q (x_up (x_up r 1350 none) 1351 po) A ++ dy) := by
  refine xMet_of (by decide) (Nat.le_of_ble_eq_true rfl) (fun v h2 hq => by rw [hq.1]; trivial) ?_
  refine x_aload_n (x_d C_M_save 0 rfl) rfl ?_
  refine x_getfield (v := xN) (x_d C_M_save 1 rfl) f_M_207 rfl rfl ?_
  refine x_ifnonnullN (tgt := 10) (x_d C_M_save 2 rfl) rfl ?_
  refine x_bipush (x_d C_M_save 3 rfl) (by omega) ?_
  refine x_ireturn (x_d C_M_save 4 rfl) ?_
  exact ⟨rfl, rfl⟩
