/-! the reference: page -/
theorem c_M_pages (Z : xZ) (d : Nat) (q : Nat → Int) (r : Nat → Option Nat) (A : Nat → Nat → Int) (dy : xH) (hd : 17 ≤ d) (po : Option Nat) (X : Nat → Int) (E : Int) (g : Nat → Option xE) (P : Nat → Nat → Int) (hgk : gok g dy) (cp : Nat) (bt : Option Nat) (tb lt : Int) (ctr : Nat) (sz : Int) (fis fge fpl : Nat → Int) (fva : Nat → Option Nat) (fch : Nat → Int) (hp : PB dy cp bt tb lt (some ctr) sz fis fge fpl fva fch) (hsz : 0 ≤ sz ∧ sz ≤ 300) (rt us gn : Nat → Int) (hus : ∀ k : Nat, (k : Int) < sz → (fis k = 2 ↔ ¬ us k = 0) ∧ gn k = fge k) (hva : ∀ k : Nat, (k : Int) < sz → ¬ us k = 0 → ∃ c2, fva k = some c2 ∧ Tr X E g P 9 (rt k) c2) (n2 : Int) (hE : E ≤ n2) (p : Int) (ht : Tr X E g P 9 p ctr) : xMet Z d Y_M_pages [xC 42] (hF q (x_up (x_up r 1350 (some cp)) 1351 po) A ++ dy) (fun v h2 => ∃ sn2 nu2 fd2, h2 = hF (x_up q 1364 fd2) (x_up (x_up r 1350 (some cp)) 1351 po) (x_up (x_up A 50 sn2) 51 nu2) ++ dy ∧ ((∃ L2, s_pgs (P 5) (P 6) (P 7) (P 8) (P 9) X rt gn us n2 sz p = some L2 ∧ v = some (xI (L2.length : Int)) ∧ fd2 = L2.length ∧ L2.length ≤ 300 ∧ ∀ k, k < L2.length → nu2 k = L2.getD k 0) ∨ (s_pgs (P 5) (P 6) (P 7) (P 8) (P 9) X rt gn us n2 sz p = none ∧ v = some (xI (-4))))) := by
  have h := c_M_pages0 Z d q r A dy hd po X E g P hgk cp bt tb lt ctr sz fis fge fpl fva fch hp hsz rt us gn hus hva n2 hE p ht (A 51)
  rw [x_up_same A 51] at h
  exact h
theorem c_M_pagesN (Z : xZ) (d : Nat) (q : Nat → Int) (r : Nat → Option Nat) (A : Nat → Nat → Int) (dy : xH) (po : Option Nat) : xMet Z d Y_M_pages [xC 42] (hF q (x_up (x_up r 1350 none) 1351 po) A ++ dy) (fun v h2 => v = some (xI (-2)) ∧ h2 = hF q (x_up (x_up r 1350 none) 1351 po) A ++ dy) := by
  refine xMet_of (by decide) (Nat.le_of_ble_eq_true rfl) (fun v h2 hq => by rw [hq.1]; trivial) ?_
  refine x_aload_n (x_d C_M_pages 0 rfl) rfl ?_
  refine x_getfield (v := xN) (x_d C_M_pages 1 rfl) f_M_207 rfl rfl ?_
  refine x_ifnonnullN (tgt := 10) (x_d C_M_pages 2 rfl) rfl ?_
  refine x_bipush (x_d C_M_pages 3 rfl) (by omega) ?_
  refine x_ireturn (x_d C_M_pages 4 rfl) ?_
  exact ⟨rfl, rfl⟩
theorem c_M_page (Z : xZ) (d : Nat) (q : Nat → Int) (r : Nat → Option Nat) (A : Nat → Nat → Int) (dy : xH) (hd : 18 ≤ d) (po : Option Nat) (X : Nat → Int) (E : Int) (g : Nat → Option xE) (P : Nat → Nat → Int) (hgk : gok g dy) (cp : Nat) (bt : Option Nat) (tb lt : Int) (ctr : Nat) (sz : Int) (fis fge fpl : Nat → Int) (fva : Nat → Option Nat) (fch : Nat → Int) (hp : PB dy cp bt tb lt (some ctr) sz fis fge fpl fva fch) (hsz : 0 ≤ sz ∧ sz ≤ 300) (rt us gn : Nat → Int) (hus : ∀ k : Nat, (k : Int) < sz → (fis k = 2 ↔ ¬ us k = 0) ∧ gn k = fge k) (hva : ∀ k : Nat, (k : Int) < sz → ¬ us k = 0 → ∃ c2, fva k = some c2 ∧ Tr X E g P 9 (rt k) c2) (n2 : Int) (hE : E ≤ n2) (p : Int) (ht : Tr X E g P 9 p ctr) (n : Int) : xMet Z d Y_M_page [xC 42, xI n] (hF q (x_up (x_up r 1350 (some cp)) 1351 po) A ++ dy) (fun v h2 => ∃ sn2 nu2 fd2, h2 = hF (x_up q 1364 fd2) (x_up (x_up r 1350 (some cp)) 1351 po) (x_up (x_up A 50 sn2) 51 nu2) ++ dy ∧ v = some (xI (match s_pgs (P 5) (P 6) (P 7) (P 8) (P 9) X rt gn us n2 sz p with | none => -2 | some L2 => if 0 ≤ n ∧ n < L2.length then L2.getD n.toNat 0 else -2))) := by
  refine xMet_of (by decide) (Nat.le_of_ble_eq_true rfl) (fun v h2 hq => by obtain ⟨_, _, _, _, e⟩ := hq; rw [e]; trivial) ?_
  refine x_aload_n (x_d C_M_page 0 rfl) rfl ?_
  refine x_invokevirtual (st := []) (av := []) (x_d C_M_page 1 rfl) k_M_458 m_M_pages v_M_pages cl_M rfl rfl (Nat.le_of_ble_eq_true rfl) (by omega) rfl (c_M_pages Z (d - 1) q r A dy (by omega) po X E g P hgk cp bt tb lt ctr sz fis fge fpl fva fch hp hsz rt us gn hus hva n2 hE p ht) ?_
  rintro v_ _ ⟨sn2, nu2, fd2, rfl, ⟨L2, hp1, hv_, hfd, h300, hnu⟩ | ⟨hp1, hv_⟩⟩
  · obtain rfl := hv_
    rw [hp1]
    refine x_if_lt (tgt := 32) (x_d C_M_page 2 rfl) rfl (fun q => absurd q (by omega)) (fun _ => ?_)
    refine x_iload_n (x_d C_M_page 3 rfl) rfl ?_
    refine x_i2l (x_d C_M_page 4 rfl) ?_
    refine x_lconst0 (x_d C_M_page 5 rfl) ?_
    refine x_aload_n (x_d C_M_page 6 rfl) rfl ?_
    refine x_getfield (v := xI (fd2)) (x_d C_M_page 7 rfl) f_M_443 rfl rfl ?_
    refine x_iconst (x_d C_M_page 8 rfl) ⟨by omega, by omega⟩ ?_
    refine x_isub (x_d C_M_page 9 rfl) ⟨by omega, by omega⟩ ?_
    refine x_i2l (x_d C_M_page 10 rfl) ?_
    refine x_invokestatic (st := []) (av := [xJ (n), xJ (0), xJ (fd2 - 1)]) (x_d C_M_page 11 rfl) k_M_48 m_M_in s_M_in rfl (Nat.le_of_ble_eq_true rfl) (by omega) rfl (c_M_in Z (d - 1) (hF (x_up q 1364 fd2) (x_up (x_up r 1350 (some cp)) 1351 po) (x_up (x_up A 50 sn2) 51 nu2) ++ dy) n 0 (fd2 - 1)) ?_
    rintro v_ h_ ⟨hv_, hh_⟩
    rw [hh_]
    clear hh_
    obtain ⟨z2, rfl, hz2⟩ : ∃ z : Int, v_ = some (xI z) ∧ ((z = 1 ∧ (0 ≤ n ∧ n ≤ fd2 - 1)) ∨ (z = 0 ∧ ¬ (0 ≤ n ∧ n ≤ fd2 - 1))) := ⟨_, hv_, by by_cases c_ : (0 ≤ n ∧ n ≤ fd2 - 1); exact Or.inl ⟨x_bo_t c_, c_⟩; exact Or.inr ⟨x_bo_f c_, c_⟩⟩
    refine x_if_eq (tgt := 32) (x_d C_M_page 12 rfl) rfl (fun c3 => ?_) (fun c3 => ?_)
    · refine x_bipush (x_d C_M_page 18 rfl) (by omega) ?_
      refine x_ireturn (x_d C_M_page 19 rfl) ?_
      refine ⟨_, _, _, rfl, ?_⟩
      show _ = some (xI (if 0 ≤ n ∧ n < L2.length then L2.getD n.toNat 0 else -2))
      rw [if_neg (by omega)]
    · refine x_aload_n (x_d C_M_page 13 rfl) rfl ?_
      refine x_getfield (v := xC 51) (x_d C_M_page 14 rfl) f_M_190 rfl rfl ?_
      refine x_iload_n (x_d C_M_page 15 rfl) rfl ?_
      refine x_iaload (f := nu2) (x_d C_M_page 16 rfl) rfl (by omega) (by omega) ?_
      refine x_goto (tgt := 34) (x_d C_M_page 17 rfl) rfl ?_
      refine x_ireturn (x_d C_M_page 19 rfl) ?_
      refine ⟨_, _, _, rfl, ?_⟩
      show _ = some (xI (if 0 ≤ n ∧ n < L2.length then L2.getD n.toNat 0 else -2))
      rw [if_pos (by omega), ← hnu n.toNat (by omega)]
  · obtain rfl := hv_
    rw [hp1]
    refine x_if_lt (tgt := 32) (x_d C_M_page 2 rfl) rfl (fun _ => ?_) (fun q => absurd q (by omega))
    refine x_bipush (x_d C_M_page 18 rfl) (by omega) ?_
    refine x_ireturn (x_d C_M_page 19 rfl) ?_
    exact ⟨_, _, _, rfl, rfl⟩
theorem c_M_pageN (Z : xZ) (d : Nat) (q : Nat → Int) (r : Nat → Option Nat) (A : Nat → Nat → Int) (dy : xH) (hd : 2 ≤ d) (po : Option Nat) (n : Int) : xMet Z d Y_M_page [xC 42, xI n] (hF q (x_up (x_up r 1350 none) 1351 po) A ++ dy) (fun v h2 => v = some (xI (-2)) ∧ h2 = hF q (x_up (x_up r 1350 none) 1351 po) A ++ dy) := by
  refine xMet_of (by decide) (Nat.le_of_ble_eq_true rfl) (fun v h2 hq => by rw [hq.1]; trivial) ?_
  refine x_aload_n (x_d C_M_page 0 rfl) rfl ?_
  refine x_invokevirtual (st := []) (av := []) (x_d C_M_page 1 rfl) k_M_458 m_M_pages v_M_pages cl_M rfl rfl (Nat.le_of_ble_eq_true rfl) (by omega) rfl (c_M_pagesN Z (d - 1) q r A dy po) ?_
  rintro v_ _ ⟨hv_, rfl⟩
  obtain rfl : v_ = some (xI (-2)) := hv_
  refine x_if_lt (tgt := 32) (x_d C_M_page 2 rfl) rfl (fun _ => ?_) (fun q => absurd q (by omega))
  refine x_bipush (x_d C_M_page 18 rfl) (by omega) ?_
  refine x_ireturn (x_d C_M_page 19 rfl) ?_
  exact ⟨rfl, rfl⟩
