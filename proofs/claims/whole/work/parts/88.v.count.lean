/-! the reference: count, state, free, change -/
theorem c_M_inUse2 (Z : xZ) (d : Nat) (q : Nat → Int) (r : Nat → Option Nat) (A : Nat → Nat → Int) (dy : xH) (po : Option Nat) (cp : Nat) (bt : Option Nat) (tb lt : Int) (tr : Option Nat) (sz : Int) (fis fge fpl : Nat → Int) (fva : Nat → Option Nat) (fch : Nat → Int) (hp : PB dy cp bt tb lt tr sz fis fge fpl fva fch) (hsz : 0 ≤ sz ∧ sz ≤ 300) : xMet Z d Y_M_inUse [xC 42] (hF q (x_up (x_up r 1350 (some cp)) 1351 po) A ++ dy) (fun v h2 => v = some (xI (s_sm (fun k => if fis k = 2 then 1 else 0) sz.toNat)) ∧ h2 = hF q (x_up (x_up r 1350 (some cp)) 1351 po) A ++ dy) := by
  have h0 := c_M_inUse Z d q (x_up r 1351 po) A dy cp bt tb lt tr sz fis fge fpl fva fch hp hsz
  rw [x_up_c r (by decide : (1351 : Nat) ≠ 1350) po (some cp)] at h0
  exact h0
theorem c_M_changes2 (Z : xZ) (d : Nat) (q : Nat → Int) (r : Nat → Option Nat) (A : Nat → Nat → Int) (dy : xH) (po : Option Nat) (cp : Nat) (bt : Option Nat) (tb lt : Int) (tr : Option Nat) (sz : Int) (fis fge fpl : Nat → Int) (fva : Nat → Option Nat) (fch : Nat → Int) (hp : PB dy cp bt tb lt tr sz fis fge fpl fva fch) (hsz : 0 ≤ sz ∧ sz ≤ 300) (hch : ∀ k, fch k = 0 ∨ fch k = 1) : xMet Z d Y_M_changes [xC 42] (hF q (x_up (x_up r 1350 (some cp)) 1351 po) A ++ dy) (fun v h2 => v = some (xI (s_sm fch 301)) ∧ h2 = hF q (x_up (x_up r 1350 (some cp)) 1351 po) A ++ dy) := by
  have h0 := c_M_changes Z d q (x_up r 1351 po) A dy cp bt tb lt tr sz fis fge fpl fva fch hp hsz hch
  rw [x_up_c r (by decide : (1351 : Nat) ≠ 1350) po (some cp)] at h0
  exact h0
theorem c_M_partsBut2 (Z : xZ) (d : Nat) (q : Nat → Int) (r : Nat → Option Nat) (A : Nat → Nat → Int) (dy : xH) (hd : 10 ≤ d) (po : Option Nat) (cp : Nat) (bt : Option Nat) (tb lt : Int) (tr : Option Nat) (sz : Int) (fis fge fpl : Nat → Int) (fva : Nat → Option Nat) (fch : Nat → Int) (hp : PB dy cp bt tb lt tr sz fis fge fpl fva fch) (hsz : 0 ≤ sz ∧ sz ≤ 300) (X : Nat → Int) (E : Int) (g : Nat → Option xE) (P : Nat → Nat → Int) (hgk : gok g dy) (rt us : Nat → Int) (one : Int) (hus : ∀ k : Nat, (k : Int) < sz → (fis k = 2 ↔ ¬ us k = 0)) (hva : ∀ k : Nat, (k : Int) < sz → ¬ us k = 0 → ∃ c2, fva k = some c2 ∧ Tr X E g P 9 (rt k) c2 ∧ s_bh (P 8) (rt k) ≤ 12900 ∧ 1 ≤ P 8 (rt k).toNat) : xMet Z d Y_M_partsBut [xC 42, xI one] (hF q (x_up (x_up r 1350 (some cp)) 1351 po) A ++ dy) (fun v h2 => v = some (xI (s_sm (s_pbf us rt (P 8) one) sz.toNat)) ∧ h2 = hF q (x_up (x_up r 1350 (some cp)) 1351 po) A ++ dy) := by
  have h0 := c_M_partsBut Z d q (x_up r 1351 po) A dy hd cp bt tb lt tr sz fis fge fpl fva fch hp hsz X E g P hgk rt us one hus hva
  rw [x_up_c r (by decide : (1351 : Nat) ≠ 1350) po (some cp)] at h0
  exact h0
theorem c_M_count (Z : xZ) (d : Nat) (q : Nat → Int) (r : Nat → Option Nat) (A : Nat → Nat → Int) (dy : xH) (hd : 11 ≤ d) (po : Option Nat) (cp cb bl : Nat) (tb lt : Int) (tr : Option Nat) (sz : Int) (fis fge fpl : Nat → Int) (fva : Nat → Option Nat) (fch fb : Nat → Int) (hp : PB dy cp (some cb) tb lt tr sz fis fge fpl fva fch) (hsz : 0 ≤ sz ∧ sz ≤ 300) (hch : ∀ k, fch k = 0 ∨ fch k = 1) (X : Nat → Int) (E : Int) (g : Nat → Option xE) (P : Nat → Nat → Int) (hgk : gok g dy) (rt us : Nat → Int) (hus : ∀ k : Nat, (k : Int) < sz → (fis k = 2 ↔ ¬ us k = 0)) (hva : ∀ k : Nat, (k : Int) < sz → ¬ us k = 0 → ∃ c2, fva k = some c2 ∧ Tr X E g P 9 (rt k) c2 ∧ s_bh (P 8) (rt k) ≤ 12900 ∧ 1 ≤ P 8 (rt k).toNat) (hcb : g cb = some (xA 1 bl fb)) (hbl : bl ≤ 4000) (k : Int) : xMet Z d Y_M_count [xC 42, xI k] (hF q (x_up (x_up r 1350 (some cp)) 1351 po) A ++ dy) (fun v h2 => v = some (xI (if k = 0 then sz else if k = 1 then s_sm (fun k => if fis k = 2 then 1 else 0) sz.toNat else if k = 2 then tb else if k = 3 then s_sm fch 301 else if k = 4 then (bl : Int) else if k = 5 then s_sm (s_pbf us rt (P 8) (-1)) sz.toNat else -1)) ∧ h2 = hF q (x_up (x_up r 1350 (some cp)) 1351 po) A ++ dy) := by
  refine xMet_of (by decide) (Nat.le_of_ble_eq_true rfl) (fun v h2 hq => by rw [hq.1]; trivial) ?_
  refine x_iload_n (x_d C_M_count 0 rfl) rfl ?_
  refine x_i2l (x_d C_M_count 1 rfl) ?_
  refine x_lconst0 (x_d C_M_count 2 rfl) ?_
  refine x_ldc2 (n := 5) (x_d C_M_count 3 rfl) lc_M_461 ⟨by omega, by omega⟩ ?_
  refine x_invokestatic (st := []) (av := [xJ (k), xJ (0), xJ (5)]) (x_d C_M_count 4 rfl) k_M_48 m_M_in s_M_in rfl (Nat.le_of_ble_eq_true rfl) (by omega) rfl (c_M_in Z (d - 1) (hF q (x_up (x_up r 1350 (some cp)) 1351 po) A ++ dy) k 0 5) ?_
  rintro v_ h_ ⟨hv_, hh_⟩
  rw [hh_]
  clear hh_
  obtain ⟨z1, rfl, hz1⟩ : ∃ z : Int, v_ = some (xI z) ∧ ((z = 1 ∧ (0 ≤ k ∧ k ≤ 5)) ∨ (z = 0 ∧ ¬ (0 ≤ k ∧ k ≤ 5))) := ⟨_, hv_, by by_cases c_ : (0 ≤ k ∧ k ≤ 5); exact Or.inl ⟨x_bo_t c_, c_⟩; exact Or.inr ⟨x_bo_f c_, c_⟩⟩
  refine x_if_ne (tgt := 14) (x_d C_M_count 5 rfl) rfl (fun c2 => ?_) (fun c2 => ?_)
  · refine x_aload_n (x_d C_M_count 8 rfl) rfl ?_
    refine x_getfield (v := xC cp) (x_d C_M_count 9 rfl) f_M_207 rfl rfl ?_
    refine x_ifnonnullC (tgt := 23) (x_d C_M_count 10 rfl) rfl ?_
    refine x_iload_n (x_d C_M_count 13 rfl) rfl ?_
    rcases (show k < 0 ∨ 4 < k ∨ k = 0 ∨ k = 1 ∨ k = 2 ∨ k = 3 ∨ k = 4 by omega) with c4 | c4 | c4 | c4 | c4 | c4 | c4
    · refine x_tableOut (tgt := 95) (x_d C_M_count 14 rfl) (Or.inl c4) rfl ?_
      refine x_aload_n (x_d C_M_count 34 rfl) rfl ?_
      refine x_iconst (x_d C_M_count 35 rfl) ⟨by omega, by omega⟩ ?_
      refine x_invokevirtual (st := []) (av := [xI (-1)]) (x_d C_M_count 36 rfl) k_M_377 m_M_partsBut v_M_partsBut cl_M rfl rfl (Nat.le_of_ble_eq_true rfl) (by omega) rfl (c_M_partsBut2 Z (d - 1) q r A dy (by omega) po cp (some cb) tb lt tr sz fis fge fpl fva fch hp hsz X E g P hgk rt us (-1) hus hva) ?_
      rintro v_ _ ⟨hv_, rfl⟩
      obtain rfl : v_ = some (xI (s_sm (s_pbf us rt (P 8) (-1)) sz.toNat)) := hv_
      refine x_ireturn (x_d C_M_count 37 rfl) ?_
      exact ⟨congrArg (fun z => some (xI z)) (by (repeat' split) <;> omega), rfl⟩
    · refine x_tableOut (tgt := 95) (x_d C_M_count 14 rfl) (Or.inr c4) rfl ?_
      refine x_aload_n (x_d C_M_count 34 rfl) rfl ?_
      refine x_iconst (x_d C_M_count 35 rfl) ⟨by omega, by omega⟩ ?_
      refine x_invokevirtual (st := []) (av := [xI (-1)]) (x_d C_M_count 36 rfl) k_M_377 m_M_partsBut v_M_partsBut cl_M rfl rfl (Nat.le_of_ble_eq_true rfl) (by omega) rfl (c_M_partsBut2 Z (d - 1) q r A dy (by omega) po cp (some cb) tb lt tr sz fis fge fpl fva fch hp hsz X E g P hgk rt us (-1) hus hva) ?_
      rintro v_ _ ⟨hv_, rfl⟩
      obtain rfl : v_ = some (xI (s_sm (s_pbf us rt (P 8) (-1)) sz.toNat)) := hv_
      refine x_ireturn (x_d C_M_count 37 rfl) ?_
      exact ⟨congrArg (fun z => some (xI z)) (by (repeat' split) <;> omega), rfl⟩
    · refine x_tableIn (tgt := 60) (off := 36) (x_d C_M_count 14 rfl) (by omega) (by omega) (by rw [c4]; rfl) rfl ?_
      refine x_aload_n (x_d C_M_count 15 rfl) rfl ?_
      refine x_getfield (v := xC cp) (x_d C_M_count 16 rfl) f_M_207 rfl rfl ?_
      refine x_getfield (v := xI (sz)) (x_d C_M_count 17 rfl) f_M_266 (ct_get hp.1 _ _ _) rfl ?_
      refine x_ireturn (x_d C_M_count 18 rfl) ?_
      exact ⟨congrArg (fun z => some (xI z)) (by (repeat' split) <;> omega), rfl⟩
    · refine x_tableIn (tgt := 68) (off := 44) (x_d C_M_count 14 rfl) (by omega) (by omega) (by rw [c4]; rfl) rfl ?_
      refine x_aload_n (x_d C_M_count 19 rfl) rfl ?_
      refine x_invokevirtual (st := []) (av := []) (x_d C_M_count 20 rfl) k_M_384 m_M_inUse v_M_inUse cl_M rfl rfl (Nat.le_of_ble_eq_true rfl) (by omega) rfl (c_M_inUse2 Z (d - 1) q r A dy po cp (some cb) tb lt tr sz fis fge fpl fva fch hp hsz) ?_
      rintro v_ _ ⟨hv_, rfl⟩
      obtain rfl : v_ = some (xI (s_sm (fun k => if fis k = 2 then 1 else 0) sz.toNat)) := hv_
      refine x_ireturn (x_d C_M_count 21 rfl) ?_
      exact ⟨congrArg (fun z => some (xI z)) (by (repeat' split) <;> omega), rfl⟩
    · refine x_tableIn (tgt := 73) (off := 49) (x_d C_M_count 14 rfl) (by omega) (by omega) (by rw [c4]; rfl) rfl ?_
      refine x_aload_n (x_d C_M_count 22 rfl) rfl ?_
      refine x_getfield (v := xC cp) (x_d C_M_count 23 rfl) f_M_207 rfl rfl ?_
      refine x_getfield (v := xI (tb)) (x_d C_M_count 24 rfl) f_M_224 (ct_get hp.1 _ _ _) rfl ?_
      refine x_ireturn (x_d C_M_count 25 rfl) ?_
      exact ⟨congrArg (fun z => some (xI z)) (by (repeat' split) <;> omega), rfl⟩
    · refine x_tableIn (tgt := 81) (off := 57) (x_d C_M_count 14 rfl) (by omega) (by omega) (by rw [c4]; rfl) rfl ?_
      refine x_aload_n (x_d C_M_count 26 rfl) rfl ?_
      refine x_invokevirtual (st := []) (av := []) (x_d C_M_count 27 rfl) k_M_422 m_M_changes v_M_changes cl_M rfl rfl (Nat.le_of_ble_eq_true rfl) (by omega) rfl (c_M_changes2 Z (d - 1) q r A dy po cp (some cb) tb lt tr sz fis fge fpl fva fch hp hsz hch) ?_
      rintro v_ _ ⟨hv_, rfl⟩
      obtain rfl : v_ = some (xI (s_sm fch 301)) := hv_
      refine x_ireturn (x_d C_M_count 28 rfl) ?_
      exact ⟨congrArg (fun z => some (xI z)) (by (repeat' split) <;> omega), rfl⟩
    · refine x_tableIn (tgt := 86) (off := 62) (x_d C_M_count 14 rfl) (by omega) (by omega) (by rw [c4]; rfl) rfl ?_
      refine x_aload_n (x_d C_M_count 29 rfl) rfl ?_
      refine x_getfield (v := xC cp) (x_d C_M_count 30 rfl) f_M_207 rfl rfl ?_
      refine x_getfield (v := xC cb) (x_d C_M_count 31 rfl) f_M_206 (ct_get hp.1 _ _ _) rfl ?_
      refine x_arraylength (x_d C_M_count 32 rfl) (ct_get (hgk _ _ hcb) _ _ _) (by decide) (by omega) ?_
      refine x_ireturn (x_d C_M_count 33 rfl) ?_
      exact ⟨congrArg (fun z => some (xI z)) (by (repeat' split) <;> omega), rfl⟩
  · refine x_iconst (x_d C_M_count 6 rfl) ⟨by omega, by omega⟩ ?_
    refine x_ireturn (x_d C_M_count 7 rfl) ?_
    exact ⟨congrArg (fun z => some (xI z)) (by (repeat' split) <;> omega), rfl⟩
theorem c_M_countN (Z : xZ) (d : Nat) (q : Nat → Int) (r : Nat → Option Nat) (A : Nat → Nat → Int) (dy : xH) (hd : 1 ≤ d) (po : Option Nat) (k : Int) : xMet Z d Y_M_count [xC 42, xI k] (hF q (x_up (x_up r 1350 none) 1351 po) A ++ dy) (fun v h2 => v = some (xI (if 0 ≤ k ∧ k ≤ 5 then 0 else -1)) ∧ h2 = hF q (x_up (x_up r 1350 none) 1351 po) A ++ dy) := by
  refine xMet_of (by decide) (Nat.le_of_ble_eq_true rfl) (fun v h2 hq => by rw [hq.1]; trivial) ?_
  refine x_iload_n (x_d C_M_count 0 rfl) rfl ?_
  refine x_i2l (x_d C_M_count 1 rfl) ?_
  refine x_lconst0 (x_d C_M_count 2 rfl) ?_
  refine x_ldc2 (n := 5) (x_d C_M_count 3 rfl) lc_M_461 ⟨by omega, by omega⟩ ?_
  refine x_invokestatic (st := []) (av := [xJ (k), xJ (0), xJ (5)]) (x_d C_M_count 4 rfl) k_M_48 m_M_in s_M_in rfl (Nat.le_of_ble_eq_true rfl) (by omega) rfl (c_M_in Z (d - 1) (hF q (x_up (x_up r 1350 none) 1351 po) A ++ dy) k 0 5) ?_
  rintro v_ h_ ⟨hv_, hh_⟩
  rw [hh_]
  clear hh_
  obtain ⟨z1, rfl, hz1⟩ : ∃ z : Int, v_ = some (xI z) ∧ ((z = 1 ∧ (0 ≤ k ∧ k ≤ 5)) ∨ (z = 0 ∧ ¬ (0 ≤ k ∧ k ≤ 5))) := ⟨_, hv_, by by_cases c_ : (0 ≤ k ∧ k ≤ 5); exact Or.inl ⟨x_bo_t c_, c_⟩; exact Or.inr ⟨x_bo_f c_, c_⟩⟩
  refine x_if_ne (tgt := 14) (x_d C_M_count 5 rfl) rfl (fun c2 => ?_) (fun c2 => ?_)
  · refine x_aload_n (x_d C_M_count 8 rfl) rfl ?_
    refine x_getfield (v := xN) (x_d C_M_count 9 rfl) f_M_207 rfl rfl ?_
    refine x_ifnonnullN (tgt := 23) (x_d C_M_count 10 rfl) rfl ?_
    refine x_iconst (x_d C_M_count 11 rfl) ⟨by omega, by omega⟩ ?_
    refine x_ireturn (x_d C_M_count 12 rfl) ?_
    exact ⟨congrArg (fun z => some (xI z)) (by (repeat' split) <;> omega), rfl⟩
  · refine x_iconst (x_d C_M_count 6 rfl) ⟨by omega, by omega⟩ ?_
    refine x_ireturn (x_d C_M_count 7 rfl) ?_
    exact ⟨congrArg (fun z => some (xI z)) (by (repeat' split) <;> omega), rfl⟩
theorem c_M_state (Z : xZ) (d : Nat) (q : Nat → Int) (r : Nat → Option Nat) (A : Nat → Nat → Int) (dy : xH) (hd : 1 ≤ d) (po : Option Nat) (cp : Nat) (bt : Option Nat) (tb lt : Int) (tr : Option Nat) (sz : Int) (fis fge fpl : Nat → Int) (fva : Nat → Option Nat) (fch : Nat → Int) (hp : PB dy cp bt tb lt tr sz fis fge fpl fva fch) (hsz : 0 ≤ sz ∧ sz ≤ 300) (n k : Int) : xMet Z d Y_M_state [xC 42, xI n, xI k] (hF q (x_up (x_up r 1350 (some cp)) 1351 po) A ++ dy) (fun v h2 => v = some (xI (if ¬ (0 ≤ k ∧ k ≤ 2) then -1 else if ¬ (0 ≤ n ∧ n < sz) then -2 else if k = 0 then (if fis n.toNat = 2 then 1 else 0) else if k = 1 then fge n.toNat else (if fch n.toNat = 0 then 0 else 1))) ∧ h2 = hF q (x_up (x_up r 1350 (some cp)) 1351 po) A ++ dy) := by
  refine xMet_of (by decide) (Nat.le_of_ble_eq_true rfl) (fun v h2 hq => by rw [hq.1]; trivial) ?_
  refine x_iload_n (x_d C_M_state 0 rfl) rfl ?_
  refine x_i2l (x_d C_M_state 1 rfl) ?_
  refine x_lconst0 (x_d C_M_state 2 rfl) ?_
  refine x_ldc2 (n := 2) (x_d C_M_state 3 rfl) lc_M_321 ⟨by omega, by omega⟩ ?_
  refine x_invokestatic (st := []) (av := [xJ (k), xJ (0), xJ (2)]) (x_d C_M_state 4 rfl) k_M_48 m_M_in s_M_in rfl (Nat.le_of_ble_eq_true rfl) (by omega) rfl (c_M_in Z (d - 1) (hF q (x_up (x_up r 1350 (some cp)) 1351 po) A ++ dy) k 0 2) ?_
  rintro v_ h_ ⟨hv_, hh_⟩
  rw [hh_]
  clear hh_
  obtain ⟨z1, rfl, hz1⟩ : ∃ z : Int, v_ = some (xI z) ∧ ((z = 1 ∧ (0 ≤ k ∧ k ≤ 2)) ∨ (z = 0 ∧ ¬ (0 ≤ k ∧ k ≤ 2))) := ⟨_, hv_, by by_cases c_ : (0 ≤ k ∧ k ≤ 2); exact Or.inl ⟨x_bo_t c_, c_⟩; exact Or.inr ⟨x_bo_f c_, c_⟩⟩
  refine x_if_ne (tgt := 14) (x_d C_M_state 5 rfl) rfl (fun c2 => ?_) (fun c2 => ?_)
  · refine x_aload_n (x_d C_M_state 8 rfl) rfl ?_
    refine x_getfield (v := xC cp) (x_d C_M_state 9 rfl) f_M_207 rfl rfl ?_
    refine x_ifnullC (tgt := 40) (x_d C_M_state 10 rfl) rfl ?_
    refine x_iload_n (x_d C_M_state 11 rfl) rfl ?_
    refine x_i2l (x_d C_M_state 12 rfl) ?_
    refine x_lconst0 (x_d C_M_state 13 rfl) ?_
    refine x_aload_n (x_d C_M_state 14 rfl) rfl ?_
    refine x_getfield (v := xC cp) (x_d C_M_state 15 rfl) f_M_207 rfl rfl ?_
    refine x_getfield (v := xI (sz)) (x_d C_M_state 16 rfl) f_M_266 (ct_get hp.1 _ _ _) rfl ?_
    refine x_iconst (x_d C_M_state 17 rfl) ⟨by omega, by omega⟩ ?_
    refine x_isub (x_d C_M_state 18 rfl) ⟨by omega, by omega⟩ ?_
    refine x_i2l (x_d C_M_state 19 rfl) ?_
    refine x_invokestatic (st := []) (av := [xJ (n), xJ (0), xJ (sz - 1)]) (x_d C_M_state 20 rfl) k_M_48 m_M_in s_M_in rfl (Nat.le_of_ble_eq_true rfl) (by omega) rfl (c_M_in Z (d - 1) (hF q (x_up (x_up r 1350 (some cp)) 1351 po) A ++ dy) n 0 (sz - 1)) ?_
    rintro v_ h_ ⟨hv_, hh_⟩
    rw [hh_]
    clear hh_
    obtain ⟨z4, rfl, hz4⟩ : ∃ z : Int, v_ = some (xI z) ∧ ((z = 1 ∧ (0 ≤ n ∧ n ≤ sz - 1)) ∨ (z = 0 ∧ ¬ (0 ≤ n ∧ n ≤ sz - 1))) := ⟨_, hv_, by by_cases c_ : (0 ≤ n ∧ n ≤ sz - 1); exact Or.inl ⟨x_bo_t c_, c_⟩; exact Or.inr ⟨x_bo_f c_, c_⟩⟩
    refine x_if_ne (tgt := 43) (x_d C_M_state 21 rfl) rfl (fun c5 => ?_) (fun c5 => ?_)
    · refine x_iload_n (x_d C_M_state 24 rfl) rfl ?_
      refine x_if_ne (tgt := 68) (x_d C_M_state 25 rfl) rfl (fun c6 => ?_) (fun c6 => ?_)
      · refine x_iload_n (x_d C_M_state 37 rfl) rfl ?_
        refine x_iconst (x_d C_M_state 38 rfl) ⟨by omega, by omega⟩ ?_
        refine x_icmp_ne (tgt := 85) (x_d C_M_state 39 rfl) rfl (fun c7 => ?_) (fun c7 => ?_)
        · refine x_aload_n (x_d C_M_state 46 rfl) rfl ?_
          refine x_getfield (v := xC cp) (x_d C_M_state 47 rfl) f_M_207 rfl rfl ?_
          refine x_getfield (v := xC (cp + 5)) (x_d C_M_state 48 rfl) f_M_371 (ct_get hp.1 _ _ _) rfl ?_
          refine x_iload_n (x_d C_M_state 49 rfl) rfl ?_
          refine x_zaload (f := fch) (x_d C_M_state 50 rfl) (ct_get hp.2.2.2.2.2 _ _ _) (by omega) (by omega) ?_
          refine x_if_eq (tgt := 101) (x_d C_M_state 51 rfl) rfl (fun c8 => ?_) (fun c8 => ?_)
          · refine x_iconst (x_d C_M_state 54 rfl) ⟨by omega, by omega⟩ ?_
            refine x_ireturn (x_d C_M_state 55 rfl) ?_
            exact ⟨congrArg (fun z => some (xI z)) (by (repeat' split) <;> omega), rfl⟩
          · refine x_iconst (x_d C_M_state 52 rfl) ⟨by omega, by omega⟩ ?_
            refine x_goto (tgt := 102) (x_d C_M_state 53 rfl) rfl ?_
            refine x_ireturn (x_d C_M_state 55 rfl) ?_
            exact ⟨congrArg (fun z => some (xI z)) (by (repeat' split) <;> omega), rfl⟩
        · refine x_aload_n (x_d C_M_state 40 rfl) rfl ?_
          refine x_getfield (v := xC cp) (x_d C_M_state 41 rfl) f_M_207 rfl rfl ?_
          refine x_getfield (v := xC (cp + 2)) (x_d C_M_state 42 rfl) f_M_278 (ct_get hp.1 _ _ _) rfl ?_
          refine x_iload_n (x_d C_M_state 43 rfl) rfl ?_
          refine x_iaload (f := fge) (x_d C_M_state 44 rfl) (ct_get hp.2.2.1 _ _ _) (by omega) (by omega) ?_
          refine x_goto (tgt := 102) (x_d C_M_state 45 rfl) rfl ?_
          refine x_ireturn (x_d C_M_state 55 rfl) ?_
          exact ⟨congrArg (fun z => some (xI z)) (by (repeat' split) <;> omega), rfl⟩
      · refine x_aload_n (x_d C_M_state 26 rfl) rfl ?_
        refine x_getfield (v := xC cp) (x_d C_M_state 27 rfl) f_M_207 rfl rfl ?_
        refine x_getfield (v := xC (cp + 1)) (x_d C_M_state 28 rfl) f_M_267 (ct_get hp.1 _ _ _) rfl ?_
        refine x_iload_n (x_d C_M_state 29 rfl) rfl ?_
        refine x_iaload (f := fis) (x_d C_M_state 30 rfl) (ct_get hp.2.1 _ _ _) (by omega) (by omega) ?_
        refine x_iconst (x_d C_M_state 31 rfl) ⟨by omega, by omega⟩ ?_
        refine x_icmp_ne (tgt := 64) (x_d C_M_state 32 rfl) rfl (fun c9 => ?_) (fun c9 => ?_)
        · refine x_iconst (x_d C_M_state 35 rfl) ⟨by omega, by omega⟩ ?_
          refine x_goto (tgt := 102) (x_d C_M_state 36 rfl) rfl ?_
          refine x_ireturn (x_d C_M_state 55 rfl) ?_
          exact ⟨congrArg (fun z => some (xI z)) (by (repeat' split) <;> omega), rfl⟩
        · refine x_iconst (x_d C_M_state 33 rfl) ⟨by omega, by omega⟩ ?_
          refine x_goto (tgt := 102) (x_d C_M_state 34 rfl) rfl ?_
          refine x_ireturn (x_d C_M_state 55 rfl) ?_
          exact ⟨congrArg (fun z => some (xI z)) (by (repeat' split) <;> omega), rfl⟩
    · refine x_bipush (x_d C_M_state 22 rfl) (by omega) ?_
      refine x_ireturn (x_d C_M_state 23 rfl) ?_
      exact ⟨congrArg (fun z => some (xI z)) (by (repeat' split) <;> omega), rfl⟩
  · refine x_iconst (x_d C_M_state 6 rfl) ⟨by omega, by omega⟩ ?_
    refine x_ireturn (x_d C_M_state 7 rfl) ?_
    exact ⟨congrArg (fun z => some (xI z)) (by (repeat' split) <;> omega), rfl⟩
theorem c_M_stateN (Z : xZ) (d : Nat) (q : Nat → Int) (r : Nat → Option Nat) (A : Nat → Nat → Int) (dy : xH) (hd : 1 ≤ d) (po : Option Nat) (n k : Int) : xMet Z d Y_M_state [xC 42, xI n, xI k] (hF q (x_up (x_up r 1350 none) 1351 po) A ++ dy) (fun v h2 => v = some (xI (if ¬ (0 ≤ k ∧ k ≤ 2) then -1 else -2)) ∧ h2 = hF q (x_up (x_up r 1350 none) 1351 po) A ++ dy) := by
  refine xMet_of (by decide) (Nat.le_of_ble_eq_true rfl) (fun v h2 hq => by rw [hq.1]; trivial) ?_
  refine x_iload_n (x_d C_M_state 0 rfl) rfl ?_
  refine x_i2l (x_d C_M_state 1 rfl) ?_
  refine x_lconst0 (x_d C_M_state 2 rfl) ?_
  refine x_ldc2 (n := 2) (x_d C_M_state 3 rfl) lc_M_321 ⟨by omega, by omega⟩ ?_
  refine x_invokestatic (st := []) (av := [xJ (k), xJ (0), xJ (2)]) (x_d C_M_state 4 rfl) k_M_48 m_M_in s_M_in rfl (Nat.le_of_ble_eq_true rfl) (by omega) rfl (c_M_in Z (d - 1) (hF q (x_up (x_up r 1350 none) 1351 po) A ++ dy) k 0 2) ?_
  rintro v_ h_ ⟨hv_, hh_⟩
  rw [hh_]
  clear hh_
  obtain ⟨z1, rfl, hz1⟩ : ∃ z : Int, v_ = some (xI z) ∧ ((z = 1 ∧ (0 ≤ k ∧ k ≤ 2)) ∨ (z = 0 ∧ ¬ (0 ≤ k ∧ k ≤ 2))) := ⟨_, hv_, by by_cases c_ : (0 ≤ k ∧ k ≤ 2); exact Or.inl ⟨x_bo_t c_, c_⟩; exact Or.inr ⟨x_bo_f c_, c_⟩⟩
  refine x_if_ne (tgt := 14) (x_d C_M_state 5 rfl) rfl (fun c2 => ?_) (fun c2 => ?_)
  · refine x_aload_n (x_d C_M_state 8 rfl) rfl ?_
    refine x_getfield (v := xN) (x_d C_M_state 9 rfl) f_M_207 rfl rfl ?_
    refine x_ifnullN (tgt := 40) (x_d C_M_state 10 rfl) rfl ?_
    refine x_bipush (x_d C_M_state 22 rfl) (by omega) ?_
    refine x_ireturn (x_d C_M_state 23 rfl) ?_
    exact ⟨congrArg (fun z => some (xI z)) (by (repeat' split) <;> omega), rfl⟩
  · refine x_iconst (x_d C_M_state 6 rfl) ⟨by omega, by omega⟩ ?_
    refine x_ireturn (x_d C_M_state 7 rfl) ?_
    exact ⟨congrArg (fun z => some (xI z)) (by (repeat' split) <;> omega), rfl⟩
theorem c_M_free (Z : xZ) (d : Nat) (q : Nat → Int) (r : Nat → Option Nat) (A : Nat → Nat → Int) (dy : xH) (hd : 2 ≤ d) (po : Option Nat) (g : Nat → Option xE) (cp : Nat) (bt : Option Nat) (tb lt : Int) (tr : Option Nat) (sz : Int) (fis fge fpl : Nat → Int) (fva : Nat → Option Nat) (fch : Nat → Int) (hp : PB dy cp bt tb lt tr sz fis fge fpl fva fch) (hsz : 0 ≤ sz ∧ sz ≤ 300) (hnp : gnp g cp) (hgk : gok g dy) (hge : ∀ k, k < 300 → 0 ≤ fge k ∧ fge k ≤ 99999) (n : Int) : xMet Z d Y_M_free [xC 42, xI n] (hF q (x_up (x_up r 1350 (some cp)) 1351 po) A ++ dy) (fun v h2 => (¬ (0 ≤ n ∧ n < sz ∧ fis n.toNat = 2) ∧ v = some (xI (-2)) ∧ h2 = hF q (x_up (x_up r 1350 (some cp)) 1351 po) A ++ dy) ∨ ((0 ≤ n ∧ n < sz ∧ fis n.toNat = 2) ∧ v = some (xI (s_sm (fun k => if x_up fis n.toNat 1 k = 2 then 1 else 0) sz.toNat)) ∧ ∃ dy2, h2 = hF q (x_up (x_up r 1350 (some cp)) 1351 none) A ++ dy2 ∧ PB dy2 cp bt tb lt tr sz (x_up fis n.toNat 1) (x_up fge n.toNat (max (fge n.toNat) (min 65535 (fge n.toNat + 1)))) fpl (x_up fva n.toNat none) (x_up fch n.toNat 1) ∧ PS g dy dy2)) := by
  refine xMet_of (by decide) (Nat.le_of_ble_eq_true rfl) (fun v h2 hq => by obtain ⟨_, e, _⟩ | ⟨_, e, _⟩ := hq <;> rw [e] <;> trivial) ?_
  have hgn := hge n.toNat
  refine x_aload_n (x_d C_M_free 0 rfl) rfl ?_
  refine x_iload_n (x_d C_M_free 1 rfl) rfl ?_
  refine x_invokevirtual (st := []) (av := [xI (n)]) (x_d C_M_free 2 rfl) k_M_311 m_M_isUsed v_M_isUsed cl_M rfl rfl (Nat.le_of_ble_eq_true rfl) (by omega) rfl (c_M_isUsed2 Z (d - 1) q r A dy (by omega) n po cp bt tb lt tr sz fis fge fpl fva fch hp hsz) ?_
  rintro v_ _ ⟨z1, rfl, rfl, hz1⟩
  refine x_if_ne (tgt := 11) (x_d C_M_free 3 rfl) rfl (fun c2 => ?_) (fun c2 => ?_)
  · refine x_aload_n (x_d C_M_free 6 rfl) rfl ?_
    refine x_getfield (v := xC cp) (x_d C_M_free 7 rfl) f_M_207 rfl rfl ?_
    refine x_getfield (v := xC (cp + 1)) (x_d C_M_free 8 rfl) f_M_267 (ct_get hp.1 _ _ _) rfl ?_
    refine x_iload_n (x_d C_M_free 9 rfl) rfl ?_
    refine x_iconst (x_d C_M_free 10 rfl) ⟨by omega, by omega⟩ ?_
    refine x_iastore (h1 := hF q (x_up (x_up r 1350 (some cp)) 1351 po) A ++ (dy.set (cp + 1 - 52) (xA 0 301 (x_up fis (n).toNat 1)))) (x_d C_M_free 11 rfl) (ct_get hp.2.1 _ _ _) (by omega) (by omega) (g_set (by have := hp.1.1; omega) _ _ _ _) ?_
    have hs_ := PB_fis hp hnp hgk (x_up fis (n).toNat 1)
    generalize dy.set (cp + 1 - 52) (xA 0 301 (x_up fis (n).toNat 1)) = dn1 at hs_ ⊢
    obtain ⟨hp1, hs1⟩ := hs_
    have hgk1 := hs1.1
    refine x_aload_n (x_d C_M_free 12 rfl) rfl ?_
    refine x_getfield (v := xC cp) (x_d C_M_free 13 rfl) f_M_207 rfl rfl ?_
    refine x_getfield (v := xC (cp + 4)) (x_d C_M_free 14 rfl) f_M_281 (ct_get hp1.1 _ _ _) rfl ?_
    refine x_iload_n (x_d C_M_free 15 rfl) rfl ?_
    refine x_null (x_d C_M_free 16 rfl) ?_
    refine x_aastore4N (h1 := hF q (x_up (x_up r 1350 (some cp)) 1351 po) A ++ (dn1.set (cp + 4 - 52) (xQ 4 301 (x_up fva (n).toNat none)))) (x_d C_M_free 17 rfl) (ct_get hp1.2.2.2.2.1 _ _ _) (by omega) (by omega) (g_set (by have := hp1.1.1; omega) _ _ _ _) ?_
    have hs_ := PB_fva hp1 hnp hgk1 (x_up fva (n).toNat none)
    generalize dn1.set (cp + 4 - 52) (xQ 4 301 (x_up fva (n).toNat none)) = dn2 at hs_ ⊢
    obtain ⟨hp2, hs2⟩ := hs_
    have hgk2 := hs2.1
    have hPS2 := PS_tr hs1 hs2
    refine x_aload_n (x_d C_M_free 18 rfl) rfl ?_
    refine x_getfield (v := xC cp) (x_d C_M_free 19 rfl) f_M_207 rfl rfl ?_
    refine x_getfield (v := xC (cp + 2)) (x_d C_M_free 20 rfl) f_M_278 (ct_get hp2.1 _ _ _) rfl ?_
    refine x_iload_n (x_d C_M_free 21 rfl) rfl ?_
    refine x_aload_n (x_d C_M_free 22 rfl) rfl ?_
    refine x_getfield (v := xC cp) (x_d C_M_free 23 rfl) f_M_207 rfl rfl ?_
    refine x_getfield (v := xC (cp + 2)) (x_d C_M_free 24 rfl) f_M_278 (ct_get hp2.1 _ _ _) rfl ?_
    refine x_iload_n (x_d C_M_free 25 rfl) rfl ?_
    refine x_iaload (f := fge) (x_d C_M_free 26 rfl) (ct_get hp2.2.2.1 _ _ _) (by omega) (by omega) ?_
    refine x_ldc (n := 65535) (x_d C_M_free 27 rfl) lc_M_107 ⟨by omega, by omega⟩ ?_
    refine x_aload_n (x_d C_M_free 28 rfl) rfl ?_
    refine x_getfield (v := xC cp) (x_d C_M_free 29 rfl) f_M_207 rfl rfl ?_
    refine x_getfield (v := xC (cp + 2)) (x_d C_M_free 30 rfl) f_M_278 (ct_get hp2.1 _ _ _) rfl ?_
    refine x_iload_n (x_d C_M_free 31 rfl) rfl ?_
    refine x_iaload (f := fge) (x_d C_M_free 32 rfl) (ct_get hp2.2.2.1 _ _ _) (by omega) (by omega) ?_
    refine x_iconst (x_d C_M_free 33 rfl) ⟨by omega, by omega⟩ ?_
    refine x_iadd (x_d C_M_free 34 rfl) ⟨by omega, by omega⟩ ?_
    refine x_mmin (st := [xI (fge (n).toNat), xI (n), xC (cp + 2)]) (x_d C_M_free 35 rfl) kM_M_362 mmin_w (Nat.le_of_ble_eq_true rfl) (by omega) ?_
    refine x_mmax (st := [xI (n), xC (cp + 2)]) (x_d C_M_free 36 rfl) kM_M_245 mmax_w (Nat.le_of_ble_eq_true rfl) (by omega) ?_
    refine x_iastore (h1 := hF q (x_up (x_up r 1350 (some cp)) 1351 po) A ++ (dn2.set (cp + 2 - 52) (xA 0 301 (x_up fge (n).toNat (max (fge (n).toNat) (min 65535 ((fge (n).toNat) + 1))))))) (x_d C_M_free 37 rfl) (ct_get hp2.2.2.1 _ _ _) (by omega) (by omega) (g_set (by have := hp2.1.1; omega) _ _ _ _) ?_
    have hs_ := PB_fge hp2 hnp hgk2 (x_up fge (n).toNat (max (fge (n).toNat) (min 65535 ((fge (n).toNat) + 1))))
    generalize dn2.set (cp + 2 - 52) (xA 0 301 (x_up fge (n).toNat (max (fge (n).toNat) (min 65535 ((fge (n).toNat) + 1))))) = dn3 at hs_ ⊢
    obtain ⟨hp3, hs3⟩ := hs_
    have hgk3 := hs3.1
    have hPS3 := PS_tr hPS2 hs3
    refine x_aload_n (x_d C_M_free 38 rfl) rfl ?_
    refine x_getfield (v := xC cp) (x_d C_M_free 39 rfl) f_M_207 rfl rfl ?_
    refine x_getfield (v := xC (cp + 5)) (x_d C_M_free 40 rfl) f_M_371 (ct_get hp3.1 _ _ _) rfl ?_
    refine x_iload_n (x_d C_M_free 41 rfl) rfl ?_
    refine x_iconst (x_d C_M_free 42 rfl) ⟨by omega, by omega⟩ ?_
    refine x_zastore (h1 := hF q (x_up (x_up r 1350 (some cp)) 1351 po) A ++ (dn3.set (cp + 5 - 52) (xA 2 301 (x_up fch (n).toNat 1)))) (x_d C_M_free 43 rfl) (ct_get hp3.2.2.2.2.2 _ _ _) (by omega) (by omega) (by omega) (g_set (by have := hp3.1.1; omega) _ _ _ _) ?_
    have hs_ := PB_fch hp3 hnp hgk3 (x_up fch (n).toNat 1)
    generalize dn3.set (cp + 5 - 52) (xA 2 301 (x_up fch (n).toNat 1)) = dn4 at hs_ ⊢
    obtain ⟨hp4, hs4⟩ := hs_
    have hgk4 := hs4.1
    have hPS4 := PS_tr hPS3 hs4
    refine x_aload_n (x_d C_M_free 44 rfl) rfl ?_
    refine x_null (x_d C_M_free 45 rfl) ?_
    refine x_putfield (h1 := hF q (x_up (x_up r 1350 (some cp)) 1351 none) A ++ dn4) (x_d C_M_free 46 rfl) p_M_211 rfl rfl rfl trivial rfl ?_
    refine x_aload_n (x_d C_M_free 47 rfl) rfl ?_
    refine x_invokevirtual (st := []) (av := []) (x_d C_M_free 48 rfl) k_M_384 m_M_inUse v_M_inUse cl_M rfl rfl (Nat.le_of_ble_eq_true rfl) (by omega) rfl (c_M_inUse2 Z (d - 1) q r A dn4 none cp bt tb lt tr sz (x_up fis (n).toNat 1) (x_up fge (n).toNat (max (fge (n).toNat) (min 65535 ((fge (n).toNat) + 1)))) fpl (x_up fva (n).toNat none) (x_up fch (n).toNat 1) hp4 hsz) ?_
    rintro v_ _ ⟨hv_, rfl⟩
    obtain rfl : v_ = some (xI (s_sm (fun k => if x_up fis n.toNat 1 k = 2 then 1 else 0) sz.toNat)) := hv_
    refine x_ireturn (x_d C_M_free 49 rfl) ?_
    exact Or.inr ⟨by omega, rfl, _, rfl, hp4, hPS4⟩
  · refine x_bipush (x_d C_M_free 4 rfl) (by omega) ?_
    refine x_ireturn (x_d C_M_free 5 rfl) ?_
    exact Or.inl ⟨by omega, rfl, rfl⟩
theorem c_M_freeN (Z : xZ) (d : Nat) (q : Nat → Int) (r : Nat → Option Nat) (A : Nat → Nat → Int) (dy : xH) (hd : 1 ≤ d) (po : Option Nat) (n : Int) : xMet Z d Y_M_free [xC 42, xI n] (hF q (x_up (x_up r 1350 none) 1351 po) A ++ dy) (fun v h2 => v = some (xI (-2)) ∧ h2 = hF q (x_up (x_up r 1350 none) 1351 po) A ++ dy) := by
  refine xMet_of (by decide) (Nat.le_of_ble_eq_true rfl) (fun v h2 hq => by rw [hq.1]; trivial) ?_
  refine x_aload_n (x_d C_M_free 0 rfl) rfl ?_
  refine x_iload_n (x_d C_M_free 1 rfl) rfl ?_
  refine x_invokevirtual (st := []) (av := [xI (n)]) (x_d C_M_free 2 rfl) k_M_311 m_M_isUsed v_M_isUsed cl_M rfl rfl (Nat.le_of_ble_eq_true rfl) (by omega) rfl (c_M_isUsedN2 Z (d - 1) q r A dy n po) ?_
  rintro v_ _ ⟨hv_, rfl⟩
  obtain rfl : v_ = some (xI 0) := hv_
  refine x_if_ne (tgt := 11) (x_d C_M_free 3 rfl) rfl (fun q => absurd q (by omega)) (fun _ => ?_)
  refine x_bipush (x_d C_M_free 4 rfl) (by omega) ?_
  refine x_ireturn (x_d C_M_free 5 rfl) ?_
  exact ⟨rfl, rfl⟩
theorem c_M_change (Z : xZ) (d : Nat) (q : Nat → Int) (r : Nat → Option Nat) (A : Nat → Nat → Int) (dy : xH) (hd : 1 ≤ d) (po : Option Nat) (g : Nat → Option xE) (cp : Nat) (bt : Option Nat) (tb lt : Int) (tr : Option Nat) (sz : Int) (fis fge fpl : Nat → Int) (fva : Nat → Option Nat) (fch : Nat → Int) (hp : PB dy cp bt tb lt tr sz fis fge fpl fva fch) (hsz : 0 ≤ sz ∧ sz ≤ 300) (hnp : gnp g cp) (hgk : gok g dy) (n : Int) (hn : 0 ≤ n ∧ n < 300) (c : Nat) (fs : List xV) (hc : g c = some (xB 12 fs)) : xMet Z d Y_M_change [xC 42, xI n, xC c] (hF q (x_up (x_up r 1350 (some cp)) 1351 po) A ++ dy) (fun v h2 => v = some (xI (max sz (n + 1))) ∧ ∃ dy2, h2 = hF q (x_up (x_up r 1350 (some cp)) 1351 none) A ++ dy2 ∧ PB dy2 cp bt tb lt tr (max sz (n + 1)) (x_up fis n.toNat 2) fge fpl (x_up fva n.toNat (some c)) (x_up fch n.toNat 1) ∧ PS g dy dy2) := by
  refine xMet_of (by decide) (Nat.le_of_ble_eq_true rfl) (fun v h2 hq => by obtain ⟨e, _⟩ := hq; rw [e]; trivial) ?_
  refine x_aload_n (x_d C_M_change 0 rfl) rfl ?_
  refine x_getfield (v := xC cp) (x_d C_M_change 1 rfl) f_M_207 rfl rfl ?_
  refine x_getfield (v := xC (cp + 4)) (x_d C_M_change 2 rfl) f_M_281 (ct_get hp.1 _ _ _) rfl ?_
  refine x_iload_n (x_d C_M_change 3 rfl) rfl ?_
  refine x_aload_n (x_d C_M_change 4 rfl) rfl ?_
  refine x_aastore4 (h1 := hF q (x_up (x_up r 1350 (some cp)) 1351 po) A ++ (dy.set (cp + 4 - 52) (xQ 4 301 (x_up fva (n).toNat (some c))))) (x_d C_M_change 5 rfl) (ct_get hp.2.2.2.2.1 _ _ _) (ct_get (hgk _ _ hc) _ _ _) (by omega) (by omega) (g_set (by have := hp.1.1; omega) _ _ _ _) ?_
  have hs_ := PB_fva hp hnp hgk (x_up fva (n).toNat (some c))
  generalize dy.set (cp + 4 - 52) (xQ 4 301 (x_up fva (n).toNat (some c))) = dn1 at hs_ ⊢
  obtain ⟨hp1, hs1⟩ := hs_
  have hgk1 := hs1.1
  refine x_aload_n (x_d C_M_change 6 rfl) rfl ?_
  refine x_getfield (v := xC cp) (x_d C_M_change 7 rfl) f_M_207 rfl rfl ?_
  refine x_getfield (v := xC (cp + 1)) (x_d C_M_change 8 rfl) f_M_267 (ct_get hp1.1 _ _ _) rfl ?_
  refine x_iload_n (x_d C_M_change 9 rfl) rfl ?_
  refine x_iconst (x_d C_M_change 10 rfl) ⟨by omega, by omega⟩ ?_
  refine x_iastore (h1 := hF q (x_up (x_up r 1350 (some cp)) 1351 po) A ++ (dn1.set (cp + 1 - 52) (xA 0 301 (x_up fis (n).toNat 2)))) (x_d C_M_change 11 rfl) (ct_get hp1.2.1 _ _ _) (by omega) (by omega) (g_set (by have := hp1.1.1; omega) _ _ _ _) ?_
  have hs_ := PB_fis hp1 hnp hgk1 (x_up fis (n).toNat 2)
  generalize dn1.set (cp + 1 - 52) (xA 0 301 (x_up fis (n).toNat 2)) = dn2 at hs_ ⊢
  obtain ⟨hp2, hs2⟩ := hs_
  have hgk2 := hs2.1
  have hPS2 := PS_tr hs1 hs2
  refine x_aload_n (x_d C_M_change 12 rfl) rfl ?_
  refine x_getfield (v := xC cp) (x_d C_M_change 13 rfl) f_M_207 rfl rfl ?_
  refine x_getfield (v := xC (cp + 5)) (x_d C_M_change 14 rfl) f_M_371 (ct_get hp2.1 _ _ _) rfl ?_
  refine x_iload_n (x_d C_M_change 15 rfl) rfl ?_
  refine x_iconst (x_d C_M_change 16 rfl) ⟨by omega, by omega⟩ ?_
  refine x_zastore (h1 := hF q (x_up (x_up r 1350 (some cp)) 1351 po) A ++ (dn2.set (cp + 5 - 52) (xA 2 301 (x_up fch (n).toNat 1)))) (x_d C_M_change 17 rfl) (ct_get hp2.2.2.2.2.2 _ _ _) (by omega) (by omega) (by omega) (g_set (by have := hp2.1.1; omega) _ _ _ _) ?_
  have hs_ := PB_fch hp2 hnp hgk2 (x_up fch (n).toNat 1)
  generalize dn2.set (cp + 5 - 52) (xA 2 301 (x_up fch (n).toNat 1)) = dn3 at hs_ ⊢
  obtain ⟨hp3, hs3⟩ := hs_
  have hgk3 := hs3.1
  have hPS3 := PS_tr hPS2 hs3
  refine x_aload_n (x_d C_M_change 18 rfl) rfl ?_
  refine x_getfield (v := xC cp) (x_d C_M_change 19 rfl) f_M_207 rfl rfl ?_
  refine x_aload_n (x_d C_M_change 20 rfl) rfl ?_
  refine x_getfield (v := xC cp) (x_d C_M_change 21 rfl) f_M_207 rfl rfl ?_
  refine x_getfield (v := xI (sz)) (x_d C_M_change 22 rfl) f_M_266 (ct_get hp3.1 _ _ _) rfl ?_
  refine x_iload_n (x_d C_M_change 23 rfl) rfl ?_
  refine x_iconst (x_d C_M_change 24 rfl) ⟨by omega, by omega⟩ ?_
  refine x_iadd (x_d C_M_change 25 rfl) ⟨by omega, by omega⟩ ?_
  refine x_mmax (st := [xC cp]) (x_d C_M_change 26 rfl) kM_M_245 mmax_w (Nat.le_of_ble_eq_true rfl) (by omega) ?_
  refine x_putfield (h1 := hF q (x_up (x_up r 1350 (some cp)) 1351 po) A ++ (dn3.set (cp - 52) (xB 11 [xO bt, xI tb, xI lt, xO tr, xC (cp + 1), xC (cp + 2), xC (cp + 3), xC (cp + 4), xC (cp + 5), xI (max sz (n + 1))]))) (x_d C_M_change 27 rfl) p_M_266 (ct_get hp3.1 _ _ _) rfl rfl trivial (g_set hp3.1.1 _ _ _ _) ?_
  have hs_ := PB_ob hp3 hnp hgk3 bt tb lt tr (max sz (n + 1))
  generalize dn3.set (cp - 52) (xB 11 [xO bt, xI tb, xI lt, xO tr, xC (cp + 1), xC (cp + 2), xC (cp + 3), xC (cp + 4), xC (cp + 5), xI (max sz (n + 1))]) = dn4 at hs_ ⊢
  obtain ⟨hp4, hs4⟩ := hs_
  have hgk4 := hs4.1
  have hPS4 := PS_tr hPS3 hs4
  refine x_aload_n (x_d C_M_change 28 rfl) rfl ?_
  refine x_null (x_d C_M_change 29 rfl) ?_
  refine x_putfield (h1 := hF q (x_up (x_up r 1350 (some cp)) 1351 none) A ++ dn4) (x_d C_M_change 30 rfl) p_M_211 rfl rfl rfl trivial rfl ?_
  refine x_aload_n (x_d C_M_change 31 rfl) rfl ?_
  refine x_getfield (v := xC cp) (x_d C_M_change 32 rfl) f_M_207 rfl rfl ?_
  refine x_getfield (v := xI (max sz (n + 1))) (x_d C_M_change 33 rfl) f_M_266 (ct_get hp4.1 _ _ _) rfl ?_
  refine x_ireturn (x_d C_M_change 34 rfl) ?_
  exact ⟨rfl, _, rfl, hp4, hPS4⟩
theorem c_M_mayPut (Z : xZ) (d : Nat) (q : Nat → Int) (r : Nat → Option Nat) (A : Nat → Nat → Int) (dy : xH) (hd : 1 ≤ d) (po : Option Nat) (cp : Nat) (bt : Option Nat) (tb lt : Int) (tr : Option Nat) (sz : Int) (fis fge fpl : Nat → Int) (fva : Nat → Option Nat) (fch : Nat → Int) (hp : PB dy cp bt tb lt tr sz fis fge fpl fva fch) (hsz : 0 ≤ sz ∧ sz ≤ 300) (n : Int) : xMet Z d Y_M_mayPut [xC 42, xI n] (hF q (x_up (x_up r 1350 (some cp)) 1351 po) A ++ dy) (fun v h2 => ∃ z : Int, v = some (xI z) ∧ h2 = hF q (x_up (x_up r 1350 (some cp)) 1351 po) A ++ dy ∧ ((z = 1 ∧ 0 ≤ n ∧ n ≤ sz ∧ n < 300) ∨ (z = 0 ∧ ¬ (0 ≤ n ∧ n ≤ sz ∧ n < 300)))) := by
  refine xMet_of (by decide) (Nat.le_of_ble_eq_true rfl) (fun v h2 hq => by obtain ⟨z, e, _, ⟨e2, _⟩ | ⟨e2, _⟩⟩ := hq <;> rw [e, e2]; exact Or.inr rfl; exact Or.inl rfl) ?_
  refine x_iload_n (x_d C_M_mayPut 0 rfl) rfl ?_
  refine x_i2l (x_d C_M_mayPut 1 rfl) ?_
  refine x_lconst0 (x_d C_M_mayPut 2 rfl) ?_
  refine x_aload_n (x_d C_M_mayPut 3 rfl) rfl ?_
  refine x_getfield (v := xC cp) (x_d C_M_mayPut 4 rfl) f_M_207 rfl rfl ?_
  refine x_getfield (v := xI (sz)) (x_d C_M_mayPut 5 rfl) f_M_266 (ct_get hp.1 _ _ _) rfl ?_
  refine x_sipush (x_d C_M_mayPut 6 rfl) (by omega) ?_
  refine x_mmin (st := [xJ (0), xJ (n)]) (x_d C_M_mayPut 7 rfl) kM_M_362 mmin_w (Nat.le_of_ble_eq_true rfl) (by omega) ?_
  refine x_i2l (x_d C_M_mayPut 8 rfl) ?_
  refine x_invokestatic (st := []) (av := [xJ (n), xJ (0), xJ (min sz 299)]) (x_d C_M_mayPut 9 rfl) k_M_48 m_M_in s_M_in rfl (Nat.le_of_ble_eq_true rfl) (by omega) rfl (c_M_in Z (d - 1) (hF q (x_up (x_up r 1350 (some cp)) 1351 po) A ++ dy) n 0 (min sz 299)) ?_
  rintro v_ h_ ⟨hv_, hh_⟩
  rw [hh_]
  clear hh_
  obtain ⟨z1, rfl, hz1⟩ : ∃ z : Int, v_ = some (xI z) ∧ ((z = 1 ∧ (0 ≤ n ∧ n ≤ min sz 299)) ∨ (z = 0 ∧ ¬ (0 ≤ n ∧ n ≤ min sz 299))) := ⟨_, hv_, by by_cases c_ : (0 ≤ n ∧ n ≤ min sz 299); exact Or.inl ⟨x_bo_t c_, c_⟩; exact Or.inr ⟨x_bo_f c_, c_⟩⟩
  refine x_ireturn (x_d C_M_mayPut 10 rfl) ?_
  exact ⟨_, rfl, rfl, by omega⟩
