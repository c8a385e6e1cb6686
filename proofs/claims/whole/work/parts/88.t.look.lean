/-! the reference: look, bytes -/
theorem c_M_follow (Z : xZ) (d : Nat) (q : Nat → Int) (r : Nat → Option Nat) (A : Nat → Nat → Int) (dy : xH) (hd : 3 ≤ d) (X : Nat → Int) (E : Int) (g : Nat → Option xE) (P : Nat → Nat → Int) (hgk : gok g dy) (cp : Nat) (bt : Option Nat) (tb lt : Int) (tr : Option Nat) (sz : Int) (fis fge fpl : Nat → Int) (fva : Nat → Option Nat) (fch : Nat → Int) (hp : PB dy cp bt tb lt tr sz fis fge fpl fva fch) (hsz : 0 ≤ sz ∧ sz ≤ 300) (rt us gn : Nat → Int) (hus : ∀ k : Nat, (k : Int) < sz → (fis k = 2 ↔ ¬ us k = 0) ∧ gn k = fge k) (hva : ∀ k : Nat, (k : Int) < sz → ¬ us k = 0 → ∃ c2, fva k = some c2 ∧ Tr X E g P 9 (rt k) c2) (D : Nat) (hD : D ≤ 8) (p : Int) (c : Nat) (ht : Tr X E g P (D + 1) p c) : xMet Z d Y_M_follow [xC 42] (hF q (x_up (x_up r 1350 (some cp)) 1351 (some c)) A ++ dy) (nvq q r A dy (some cp) (some c) X E g P (if s_ldt (P 5) (P 6) (P 7) gn us sz p < 0 then -1 else rt (s_ldt (P 5) (P 6) (P 7) gn us sz p).toNat)) := by
  refine xMet_of (by decide) (Nat.le_of_ble_eq_true rfl) (fun v h2 hq => nvq_rok hq) ?_
  obtain ⟨h0, fs, hc⟩ := Tr_c ht
  have hli := s_ldt_in (P 5) (P 6) (P 7) gn us sz p
  refine x_aload_n (x_d C_M_follow 0 rfl) rfl ?_
  refine x_aload_n (x_d C_M_follow 1 rfl) rfl ?_
  refine x_aload_n (x_d C_M_follow 2 rfl) rfl ?_
  refine x_getfield (v := xC c) (x_d C_M_follow 3 rfl) f_M_211 rfl rfl ?_
  refine x_invokevirtual (st := [xC 42]) (av := [xC c]) (x_d C_M_follow 4 rfl) k_M_317 m_M_led v_M_led cl_M rfl rfl (Nat.le_of_ble_eq_true rfl) (by omega) rfl (c_M_led Z (d - 1) q r A dy (by omega) (some c) X E g P hgk cp bt tb lt tr sz fis fge fpl fva fch hp hsz rt us gn hus D hD p c ht) ?_
  rintro v_ _ ⟨hv_, rfl⟩
  obtain ⟨n, hn⟩ : ∃ z, z = s_ldt (P 5) (P 6) (P 7) gn us sz p := ⟨_, rfl⟩
  rw [← hn] at hv_ hli ⊢
  by_cases hn0 : n < 0
  · rw [if_pos hn0] at hv_
    obtain rfl : v_ = some xN := hv_
    refine x_invokevirtual (st := []) (av := [xN]) (x_d C_M_follow 5 rfl) k_M_314 m_M_isAt2 v_M_isAt2 cl_M rfl rfl (Nat.le_of_ble_eq_true rfl) (by omega) rfl (c_M_isAt2N Z (d - 1) q (x_up (x_up r 1350 (some cp)) 1351 (some c)) A dy) ?_
    rintro v_ _ ⟨hv_, rfl⟩
    obtain rfl : v_ = some (xI (-2)) := hv_
    refine x_ireturn (x_d C_M_follow 6 rfl) ?_
    exact Or.inl ⟨by rw [if_pos hn0]; omega, rfl, rfl⟩
  · rw [if_neg hn0] at hv_
    obtain ⟨c2, hc2, ht2⟩ := hva n.toNat (by omega) (by rcases hli with z | z; omega; exact z.2.2)
    rw [hc2] at hv_
    obtain rfl : v_ = some (xC c2) := hv_
    obtain ⟨h02, fs2, hf2⟩ := Tr_c ht2
    refine x_invokevirtual (st := []) (av := [xC c2]) (x_d C_M_follow 5 rfl) k_M_314 m_M_isAt2 v_M_isAt2 cl_M rfl rfl (Nat.le_of_ble_eq_true rfl) (by omega) rfl (c_M_isAt2 Z (d - 1) q (x_up (x_up r 1350 (some cp)) 1351 (some c)) A dy c2 _ _ (hgk _ _ hf2)) ?_
    rintro v_ h_ ⟨hv_, hh_⟩
    obtain rfl : v_ = some (xI (P 5 (rt n.toNat).toNat)) := hv_
    obtain rfl : h_ = hF q (x_up (x_up r 1350 (some cp)) 1351 (some c2)) A ++ dy := by rw [hh_, x_up_2]
    refine x_ireturn (x_d C_M_follow 6 rfl) ?_
    exact Or.inr ⟨by rw [if_neg hn0]; exact h02, c2, by rw [if_neg hn0]; exact ht2, by rw [if_neg hn0], rfl⟩
theorem c_M_followN (Z : xZ) (d : Nat) (q : Nat → Int) (r : Nat → Option Nat) (A : Nat → Nat → Int) (dy : xH) (hd : 1 ≤ d) (fo : Option Nat) : xMet Z d Y_M_follow [xC 42] (hF q (x_up (x_up r 1350 fo) 1351 none) A ++ dy) (fun v h2 => v = some (xI (-2)) ∧ h2 = hF q (x_up (x_up r 1350 fo) 1351 none) A ++ dy) := by
  refine xMet_of (by decide) (Nat.le_of_ble_eq_true rfl) (fun v h2 hq => by rw [hq.1]; trivial) ?_
  refine x_aload_n (x_d C_M_follow 0 rfl) rfl ?_
  refine x_aload_n (x_d C_M_follow 1 rfl) rfl ?_
  refine x_aload_n (x_d C_M_follow 2 rfl) rfl ?_
  refine x_getfield (v := xN) (x_d C_M_follow 3 rfl) f_M_211 rfl rfl ?_
  refine x_invokevirtual (st := [xC 42]) (av := [xN]) (x_d C_M_follow 4 rfl) k_M_317 m_M_led v_M_led cl_M rfl rfl (Nat.le_of_ble_eq_true rfl) (by omega) rfl (c_M_ledN Z (d - 1) q (x_up (x_up r 1350 fo) 1351 none) A dy) ?_
  rintro v_ _ ⟨hv_, rfl⟩
  obtain rfl : v_ = some xN := hv_
  refine x_invokevirtual (st := []) (av := [xN]) (x_d C_M_follow 5 rfl) k_M_314 m_M_isAt2 v_M_isAt2 cl_M rfl rfl (Nat.le_of_ble_eq_true rfl) (by omega) rfl (c_M_isAt2N Z (d - 1) q (x_up (x_up r 1350 fo) 1351 none) A dy) ?_
  rintro v_ _ ⟨hv_, rfl⟩
  obtain rfl : v_ = some (xI (-2)) := hv_
  refine x_ireturn (x_d C_M_follow 6 rfl) ?_
  exact ⟨rfl, rfl⟩
theorem c_M_look (Z : xZ) (d : Nat) (q : Nat → Int) (r : Nat → Option Nat) (A : Nat → Nat → Int) (dy : xH) (hd : 1 ≤ d) (fo : Option Nat) (X : Nat → Int) (E : Int) (g : Nat → Option xE) (P : Nat → Nat → Int) (hgk : gok g dy) (D : Nat) (hD : D ≤ 8) (p : Int) (c : Nat) (ht : Tr X E g P (D + 1) p c) (k : Int) : xMet Z d Y_M_look [xC 42, xI k] (hF q (x_up (x_up r 1350 fo) 1351 (some c)) A ++ dy) (fun v h2 => v = some (xI (if ¬ (0 ≤ k ∧ k ≤ 2) then -1 else if k = 0 then P 5 p.toNat else if k = 1 then (if P 5 p.toNat = 3 ∨ P 5 p.toNat = 8 then P 6 p.toNat else if P 5 p.toNat = 4 ∨ P 5 p.toNat = 5 ∨ P 5 p.toNat = 9 then P 7 p.toNat else ((s_in (P 8) p).length : Int)) else (if P 5 p.toNat = 8 then P 7 p.toNat else if P 5 p.toNat = 9 then ((s_in (P 8) p).length : Int) else 0))) ∧ h2 = hF q (x_up (x_up r 1350 fo) 1351 (some c)) A ++ dy) := by
  refine xMet_of (by decide) (Nat.le_of_ble_eq_true rfl) (fun v h2 hq => by rw [hq.1]; trivial) ?_
  have ht2 := ht
  obtain ⟨h0, x, y, m, bt, it, nm, hc, hL, hm, h60, hch, L, k1, k2, k3, k4, k5, k6, k7, k8⟩ := Tr_o ht2
  have hLe : s_in (P 8) p = L := by unfold s_in; exact s_ch_K k1
  rw [hLe] at hm h60
  rw [hLe]
  have a3 := hL.2.1
  have a8 := hL.2.2.1
  have a49 := hL.2.2.2.1
  have a5 := hL.2.2.2.2.1
  have an := hL.2.2.2.2.2
  by_cases kb : P 5 p.toNat = 4 ∨ P 5 p.toNat = 5 ∨ P 5 p.toNat = 9
  · obtain ⟨cb, fb, rfl, hb, h7⟩ : ∃ cb fb, bt = some cb ∧ g cb = some (xA 1 (P 7 p.toNat).toNat fb) ∧ (0 ≤ P 7 p.toNat ∧ P 7 p.toNat ≤ 4000) := by
      rcases kb with z | z | z
      · obtain ⟨_, e1, e2, _, cb, fb, e3, e4, _⟩ := a49 (Or.inl z)
        exact ⟨cb, fb, e3, e4, e1, e2⟩
      · obtain ⟨e0, cb, fb, e3, e4, _⟩ := a5 z
        exact ⟨cb, fb, e3, e4, e0.2.1, by have := e0.2.2.1; omega⟩
      · obtain ⟨_, e1, e2, _, cb, fb, e3, e4, _⟩ := a49 (Or.inr z)
        exact ⟨cb, fb, e3, e4, e1, e2⟩
    clear a49 a5 an
    refine x_iload_n (x_d C_M_look 0 rfl) rfl ?_
    refine x_i2l (x_d C_M_look 1 rfl) ?_
    refine x_lconst0 (x_d C_M_look 2 rfl) ?_
    refine x_ldc2 (n := 2) (x_d C_M_look 3 rfl) lc_M_321 ⟨by omega, by omega⟩ ?_
    refine x_invokestatic (st := []) (av := [xJ (k), xJ (0), xJ (2)]) (x_d C_M_look 4 rfl) k_M_48 m_M_in s_M_in rfl (Nat.le_of_ble_eq_true rfl) (by omega) rfl (c_M_in Z (d - 1) (hF q (x_up (x_up r 1350 fo) 1351 (some c)) A ++ dy) k 0 2) ?_
    rintro v_ h_ ⟨hv_, hh_⟩
    rw [hh_]
    clear hh_
    obtain ⟨z1, rfl, hz1⟩ : ∃ z : Int, v_ = some (xI z) ∧ ((z = 1 ∧ (0 ≤ k ∧ k ≤ 2)) ∨ (z = 0 ∧ ¬ (0 ≤ k ∧ k ≤ 2))) := ⟨_, hv_, by by_cases c_ : (0 ≤ k ∧ k ≤ 2); exact Or.inl ⟨x_bo_t c_, c_⟩; exact Or.inr ⟨x_bo_f c_, c_⟩⟩
    refine x_if_ne (tgt := 14) (x_d C_M_look 5 rfl) rfl (fun c2 => ?_) (fun c2 => ?_)
    · refine x_aload_n (x_d C_M_look 8 rfl) rfl ?_
      refine x_getfield (v := xC c) (x_d C_M_look 9 rfl) f_M_211 rfl rfl ?_
      refine x_ifnonnullC (tgt := 24) (x_d C_M_look 10 rfl) rfl ?_
      refine x_iload_n (x_d C_M_look 13 rfl) rfl ?_
      refine x_if_ne (tgt := 36) (x_d C_M_look 14 rfl) rfl (fun c4 => ?_) (fun c4 => ?_)
      · refine x_iload_n (x_d C_M_look 19 rfl) rfl ?_
        refine x_iconst (x_d C_M_look 20 rfl) ⟨by omega, by omega⟩ ?_
        refine x_icmp_ne (tgt := 87) (x_d C_M_look 21 rfl) rfl (fun c5 => ?_) (fun c5 => ?_)
        · refine x_aload_n (x_d C_M_look 42 rfl) rfl ?_
          refine x_getfield (v := xC c) (x_d C_M_look 43 rfl) f_M_211 rfl rfl ?_
          refine x_getfield (v := xI (P 5 p.toNat)) (x_d C_M_look 44 rfl) f_M_261 (ct_get (hgk _ _ hc) _ _ _) rfl ?_
          refine x_iconst (x_d C_M_look 45 rfl) ⟨by omega, by omega⟩ ?_
          refine x_icmp_eq (tgt := 110) (x_d C_M_look 46 rfl) rfl (fun c6 => ?_) (fun c6 => ?_)
          · refine x_aload_n (x_d C_M_look 52 rfl) rfl ?_
            refine x_getfield (v := xC c) (x_d C_M_look 53 rfl) f_M_211 rfl rfl ?_
            refine x_getfield (v := xI (x)) (x_d C_M_look 54 rfl) f_M_95 (ct_get (hgk _ _ hc) _ _ _) rfl ?_
            refine x_goto (tgt := 148) (x_d C_M_look 55 rfl) rfl ?_
            refine x_ireturn (x_d C_M_look 68 rfl) ?_
            exact ⟨congrArg (fun z => some (xI z)) (by (repeat' split) <;> omega), rfl⟩
          · refine x_aload_n (x_d C_M_look 47 rfl) rfl ?_
            refine x_getfield (v := xC c) (x_d C_M_look 48 rfl) f_M_211 rfl rfl ?_
            refine x_getfield (v := xI (P 5 p.toNat)) (x_d C_M_look 49 rfl) f_M_261 (ct_get (hgk _ _ hc) _ _ _) rfl ?_
            refine x_bipush (x_d C_M_look 50 rfl) (by omega) ?_
            refine x_icmp_ne (tgt := 120) (x_d C_M_look 51 rfl) rfl (fun c7 => ?_) (fun c7 => ?_)
            · refine x_aload_n (x_d C_M_look 56 rfl) rfl ?_
              refine x_getfield (v := xC c) (x_d C_M_look 57 rfl) f_M_211 rfl rfl ?_
              refine x_getfield (v := xC cb) (x_d C_M_look 58 rfl) f_M_119 (ct_get (hgk _ _ hc) _ _ _) rfl ?_
              refine x_ifnullC (tgt := 141) (x_d C_M_look 59 rfl) rfl ?_
              refine x_aload_n (x_d C_M_look 60 rfl) rfl ?_
              refine x_getfield (v := xC c) (x_d C_M_look 61 rfl) f_M_211 rfl rfl ?_
              refine x_getfield (v := xC cb) (x_d C_M_look 62 rfl) f_M_119 (ct_get (hgk _ _ hc) _ _ _) rfl ?_
              refine x_arraylength (x_d C_M_look 63 rfl) (ct_get (hgk _ _ hb) _ _ _) (by decide) (by omega) ?_
              refine x_goto (tgt := 148) (x_d C_M_look 64 rfl) rfl ?_
              refine x_ireturn (x_d C_M_look 68 rfl) ?_
              exact ⟨congrArg (fun z => some (xI z)) (by (repeat' split) <;> omega), rfl⟩
            · refine x_aload_n (x_d C_M_look 52 rfl) rfl ?_
              refine x_getfield (v := xC c) (x_d C_M_look 53 rfl) f_M_211 rfl rfl ?_
              refine x_getfield (v := xI (x)) (x_d C_M_look 54 rfl) f_M_95 (ct_get (hgk _ _ hc) _ _ _) rfl ?_
              refine x_goto (tgt := 148) (x_d C_M_look 55 rfl) rfl ?_
              refine x_ireturn (x_d C_M_look 68 rfl) ?_
              exact ⟨congrArg (fun z => some (xI z)) (by (repeat' split) <;> omega), rfl⟩
        · refine x_aload_n (x_d C_M_look 22 rfl) rfl ?_
          refine x_getfield (v := xC c) (x_d C_M_look 23 rfl) f_M_211 rfl rfl ?_
          refine x_getfield (v := xI (P 5 p.toNat)) (x_d C_M_look 24 rfl) f_M_261 (ct_get (hgk _ _ hc) _ _ _) rfl ?_
          refine x_bipush (x_d C_M_look 25 rfl) (by omega) ?_
          refine x_icmp_ne (tgt := 63) (x_d C_M_look 26 rfl) rfl (fun c9 => ?_) (fun c9 => ?_)
          · refine x_aload_n (x_d C_M_look 31 rfl) rfl ?_
            refine x_getfield (v := xC c) (x_d C_M_look 32 rfl) f_M_211 rfl rfl ?_
            refine x_getfield (v := xI (P 5 p.toNat)) (x_d C_M_look 33 rfl) f_M_261 (ct_get (hgk _ _ hc) _ _ _) rfl ?_
            refine x_bipush (x_d C_M_look 34 rfl) (by omega) ?_
            refine x_icmp_ne (tgt := 85) (x_d C_M_look 35 rfl) rfl (fun c10 => ?_) (fun c10 => ?_)
            · refine x_iconst (x_d C_M_look 40 rfl) ⟨by omega, by omega⟩ ?_
              refine x_ireturn (x_d C_M_look 41 rfl) ?_
              exact ⟨congrArg (fun z => some (xI z)) (by (repeat' split) <;> omega), rfl⟩
            · refine x_aload_n (x_d C_M_look 36 rfl) rfl ?_
              refine x_getfield (v := xC c) (x_d C_M_look 37 rfl) f_M_211 rfl rfl ?_
              refine x_getfield (v := xI (m)) (x_d C_M_look 38 rfl) f_M_145 (ct_get (hgk _ _ hc) _ _ _) rfl ?_
              refine x_goto (tgt := 86) (x_d C_M_look 39 rfl) rfl ?_
              refine x_ireturn (x_d C_M_look 41 rfl) ?_
              exact ⟨congrArg (fun z => some (xI z)) (by (repeat' split) <;> omega), rfl⟩
          · refine x_aload_n (x_d C_M_look 27 rfl) rfl ?_
            refine x_getfield (v := xC c) (x_d C_M_look 28 rfl) f_M_211 rfl rfl ?_
            refine x_getfield (v := xI (y)) (x_d C_M_look 29 rfl) f_M_108 (ct_get (hgk _ _ hc) _ _ _) rfl ?_
            refine x_goto (tgt := 86) (x_d C_M_look 30 rfl) rfl ?_
            refine x_ireturn (x_d C_M_look 41 rfl) ?_
            exact ⟨congrArg (fun z => some (xI z)) (by (repeat' split) <;> omega), rfl⟩
      · refine x_aload_n (x_d C_M_look 15 rfl) rfl ?_
        refine x_getfield (v := xC c) (x_d C_M_look 16 rfl) f_M_211 rfl rfl ?_
        refine x_getfield (v := xI (P 5 p.toNat)) (x_d C_M_look 17 rfl) f_M_261 (ct_get (hgk _ _ hc) _ _ _) rfl ?_
        refine x_ireturn (x_d C_M_look 18 rfl) ?_
        exact ⟨congrArg (fun z => some (xI z)) (by (repeat' split) <;> omega), rfl⟩
    · refine x_iconst (x_d C_M_look 6 rfl) ⟨by omega, by omega⟩ ?_
      refine x_ireturn (x_d C_M_look 7 rfl) ?_
      exact ⟨congrArg (fun z => some (xI z)) (by (repeat' split) <;> omega), rfl⟩
  · obtain rfl := an kb
    clear a49 a5 an
    refine x_iload_n (x_d C_M_look 0 rfl) rfl ?_
    refine x_i2l (x_d C_M_look 1 rfl) ?_
    refine x_lconst0 (x_d C_M_look 2 rfl) ?_
    refine x_ldc2 (n := 2) (x_d C_M_look 3 rfl) lc_M_321 ⟨by omega, by omega⟩ ?_
    refine x_invokestatic (st := []) (av := [xJ (k), xJ (0), xJ (2)]) (x_d C_M_look 4 rfl) k_M_48 m_M_in s_M_in rfl (Nat.le_of_ble_eq_true rfl) (by omega) rfl (c_M_in Z (d - 1) (hF q (x_up (x_up r 1350 fo) 1351 (some c)) A ++ dy) k 0 2) ?_
    rintro v_ h_ ⟨hv_, hh_⟩
    rw [hh_]
    clear hh_
    obtain ⟨z1, rfl, hz1⟩ : ∃ z : Int, v_ = some (xI z) ∧ ((z = 1 ∧ (0 ≤ k ∧ k ≤ 2)) ∨ (z = 0 ∧ ¬ (0 ≤ k ∧ k ≤ 2))) := ⟨_, hv_, by by_cases c_ : (0 ≤ k ∧ k ≤ 2); exact Or.inl ⟨x_bo_t c_, c_⟩; exact Or.inr ⟨x_bo_f c_, c_⟩⟩
    refine x_if_ne (tgt := 14) (x_d C_M_look 5 rfl) rfl (fun c2 => ?_) (fun c2 => ?_)
    · refine x_aload_n (x_d C_M_look 8 rfl) rfl ?_
      refine x_getfield (v := xC c) (x_d C_M_look 9 rfl) f_M_211 rfl rfl ?_
      refine x_ifnonnullC (tgt := 24) (x_d C_M_look 10 rfl) rfl ?_
      refine x_iload_n (x_d C_M_look 13 rfl) rfl ?_
      refine x_if_ne (tgt := 36) (x_d C_M_look 14 rfl) rfl (fun c4 => ?_) (fun c4 => ?_)
      · refine x_iload_n (x_d C_M_look 19 rfl) rfl ?_
        refine x_iconst (x_d C_M_look 20 rfl) ⟨by omega, by omega⟩ ?_
        refine x_icmp_ne (tgt := 87) (x_d C_M_look 21 rfl) rfl (fun c5 => ?_) (fun c5 => ?_)
        · refine x_aload_n (x_d C_M_look 42 rfl) rfl ?_
          refine x_getfield (v := xC c) (x_d C_M_look 43 rfl) f_M_211 rfl rfl ?_
          refine x_getfield (v := xI (P 5 p.toNat)) (x_d C_M_look 44 rfl) f_M_261 (ct_get (hgk _ _ hc) _ _ _) rfl ?_
          refine x_iconst (x_d C_M_look 45 rfl) ⟨by omega, by omega⟩ ?_
          refine x_icmp_eq (tgt := 110) (x_d C_M_look 46 rfl) rfl (fun c6 => ?_) (fun c6 => ?_)
          · refine x_aload_n (x_d C_M_look 52 rfl) rfl ?_
            refine x_getfield (v := xC c) (x_d C_M_look 53 rfl) f_M_211 rfl rfl ?_
            refine x_getfield (v := xI (x)) (x_d C_M_look 54 rfl) f_M_95 (ct_get (hgk _ _ hc) _ _ _) rfl ?_
            refine x_goto (tgt := 148) (x_d C_M_look 55 rfl) rfl ?_
            refine x_ireturn (x_d C_M_look 68 rfl) ?_
            exact ⟨congrArg (fun z => some (xI z)) (by (repeat' split) <;> omega), rfl⟩
          · refine x_aload_n (x_d C_M_look 47 rfl) rfl ?_
            refine x_getfield (v := xC c) (x_d C_M_look 48 rfl) f_M_211 rfl rfl ?_
            refine x_getfield (v := xI (P 5 p.toNat)) (x_d C_M_look 49 rfl) f_M_261 (ct_get (hgk _ _ hc) _ _ _) rfl ?_
            refine x_bipush (x_d C_M_look 50 rfl) (by omega) ?_
            refine x_icmp_ne (tgt := 120) (x_d C_M_look 51 rfl) rfl (fun c7 => ?_) (fun c7 => ?_)
            · refine x_aload_n (x_d C_M_look 56 rfl) rfl ?_
              refine x_getfield (v := xC c) (x_d C_M_look 57 rfl) f_M_211 rfl rfl ?_
              refine x_getfield (v := xN) (x_d C_M_look 58 rfl) f_M_119 (ct_get (hgk _ _ hc) _ _ _) rfl ?_
              refine x_ifnullN (tgt := 141) (x_d C_M_look 59 rfl) rfl ?_
              refine x_aload_n (x_d C_M_look 65 rfl) rfl ?_
              refine x_getfield (v := xC c) (x_d C_M_look 66 rfl) f_M_211 rfl rfl ?_
              refine x_getfield (v := xI (m)) (x_d C_M_look 67 rfl) f_M_145 (ct_get (hgk _ _ hc) _ _ _) rfl ?_
              refine x_ireturn (x_d C_M_look 68 rfl) ?_
              exact ⟨congrArg (fun z => some (xI z)) (by (repeat' split) <;> omega), rfl⟩
            · refine x_aload_n (x_d C_M_look 52 rfl) rfl ?_
              refine x_getfield (v := xC c) (x_d C_M_look 53 rfl) f_M_211 rfl rfl ?_
              refine x_getfield (v := xI (x)) (x_d C_M_look 54 rfl) f_M_95 (ct_get (hgk _ _ hc) _ _ _) rfl ?_
              refine x_goto (tgt := 148) (x_d C_M_look 55 rfl) rfl ?_
              refine x_ireturn (x_d C_M_look 68 rfl) ?_
              exact ⟨congrArg (fun z => some (xI z)) (by (repeat' split) <;> omega), rfl⟩
        · refine x_aload_n (x_d C_M_look 22 rfl) rfl ?_
          refine x_getfield (v := xC c) (x_d C_M_look 23 rfl) f_M_211 rfl rfl ?_
          refine x_getfield (v := xI (P 5 p.toNat)) (x_d C_M_look 24 rfl) f_M_261 (ct_get (hgk _ _ hc) _ _ _) rfl ?_
          refine x_bipush (x_d C_M_look 25 rfl) (by omega) ?_
          refine x_icmp_ne (tgt := 63) (x_d C_M_look 26 rfl) rfl (fun c9 => ?_) (fun c9 => ?_)
          · refine x_aload_n (x_d C_M_look 31 rfl) rfl ?_
            refine x_getfield (v := xC c) (x_d C_M_look 32 rfl) f_M_211 rfl rfl ?_
            refine x_getfield (v := xI (P 5 p.toNat)) (x_d C_M_look 33 rfl) f_M_261 (ct_get (hgk _ _ hc) _ _ _) rfl ?_
            refine x_bipush (x_d C_M_look 34 rfl) (by omega) ?_
            refine x_icmp_ne (tgt := 85) (x_d C_M_look 35 rfl) rfl (fun c10 => ?_) (fun c10 => ?_)
            · refine x_iconst (x_d C_M_look 40 rfl) ⟨by omega, by omega⟩ ?_
              refine x_ireturn (x_d C_M_look 41 rfl) ?_
              exact ⟨congrArg (fun z => some (xI z)) (by (repeat' split) <;> omega), rfl⟩
            · refine x_aload_n (x_d C_M_look 36 rfl) rfl ?_
              refine x_getfield (v := xC c) (x_d C_M_look 37 rfl) f_M_211 rfl rfl ?_
              refine x_getfield (v := xI (m)) (x_d C_M_look 38 rfl) f_M_145 (ct_get (hgk _ _ hc) _ _ _) rfl ?_
              refine x_goto (tgt := 86) (x_d C_M_look 39 rfl) rfl ?_
              refine x_ireturn (x_d C_M_look 41 rfl) ?_
              exact ⟨congrArg (fun z => some (xI z)) (by (repeat' split) <;> omega), rfl⟩
          · refine x_aload_n (x_d C_M_look 27 rfl) rfl ?_
            refine x_getfield (v := xC c) (x_d C_M_look 28 rfl) f_M_211 rfl rfl ?_
            refine x_getfield (v := xI (y)) (x_d C_M_look 29 rfl) f_M_108 (ct_get (hgk _ _ hc) _ _ _) rfl ?_
            refine x_goto (tgt := 86) (x_d C_M_look 30 rfl) rfl ?_
            refine x_ireturn (x_d C_M_look 41 rfl) ?_
            exact ⟨congrArg (fun z => some (xI z)) (by (repeat' split) <;> omega), rfl⟩
      · refine x_aload_n (x_d C_M_look 15 rfl) rfl ?_
        refine x_getfield (v := xC c) (x_d C_M_look 16 rfl) f_M_211 rfl rfl ?_
        refine x_getfield (v := xI (P 5 p.toNat)) (x_d C_M_look 17 rfl) f_M_261 (ct_get (hgk _ _ hc) _ _ _) rfl ?_
        refine x_ireturn (x_d C_M_look 18 rfl) ?_
        exact ⟨congrArg (fun z => some (xI z)) (by (repeat' split) <;> omega), rfl⟩
    · refine x_iconst (x_d C_M_look 6 rfl) ⟨by omega, by omega⟩ ?_
      refine x_ireturn (x_d C_M_look 7 rfl) ?_
      exact ⟨congrArg (fun z => some (xI z)) (by (repeat' split) <;> omega), rfl⟩
theorem c_M_lookN (Z : xZ) (d : Nat) (q : Nat → Int) (r : Nat → Option Nat) (A : Nat → Nat → Int) (dy : xH) (hd : 1 ≤ d) (k : Int) (fo : Option Nat) : xMet Z d Y_M_look [xC 42, xI k] (hF q (x_up (x_up r 1350 fo) 1351 none) A ++ dy) (fun v h2 => v = some (xI (if ¬ (0 ≤ k ∧ k ≤ 2) then -1 else -2)) ∧ h2 = hF q (x_up (x_up r 1350 fo) 1351 none) A ++ dy) := by
  refine xMet_of (by decide) (Nat.le_of_ble_eq_true rfl) (fun v h2 hq => by rw [hq.1]; trivial) ?_
  refine x_iload_n (x_d C_M_look 0 rfl) rfl ?_
  refine x_i2l (x_d C_M_look 1 rfl) ?_
  refine x_lconst0 (x_d C_M_look 2 rfl) ?_
  refine x_ldc2 (n := 2) (x_d C_M_look 3 rfl) lc_M_321 ⟨by omega, by omega⟩ ?_
  refine x_invokestatic (st := []) (av := [xJ (k), xJ (0), xJ (2)]) (x_d C_M_look 4 rfl) k_M_48 m_M_in s_M_in rfl (Nat.le_of_ble_eq_true rfl) (by omega) rfl (c_M_in Z (d - 1) (hF q (x_up (x_up r 1350 fo) 1351 none) A ++ dy) k 0 2) ?_
  rintro v_ h_ ⟨hv_, hh_⟩
  rw [hh_]
  clear hh_
  obtain ⟨z1, rfl, hz1⟩ : ∃ z : Int, v_ = some (xI z) ∧ ((z = 1 ∧ (0 ≤ k ∧ k ≤ 2)) ∨ (z = 0 ∧ ¬ (0 ≤ k ∧ k ≤ 2))) := ⟨_, hv_, by by_cases c_ : (0 ≤ k ∧ k ≤ 2); exact Or.inl ⟨x_bo_t c_, c_⟩; exact Or.inr ⟨x_bo_f c_, c_⟩⟩
  refine x_if_ne (tgt := 14) (x_d C_M_look 5 rfl) rfl (fun c2 => ?_) (fun c2 => ?_)
  · refine x_aload_n (x_d C_M_look 8 rfl) rfl ?_
    refine x_getfield (v := xN) (x_d C_M_look 9 rfl) f_M_211 rfl rfl ?_
    refine x_ifnonnullN (tgt := 24) (x_d C_M_look 10 rfl) rfl ?_
    refine x_bipush (x_d C_M_look 11 rfl) (by omega) ?_
    refine x_ireturn (x_d C_M_look 12 rfl) ?_
    exact ⟨congrArg (fun z => some (xI z)) (by (repeat' split) <;> omega), rfl⟩
  · refine x_iconst (x_d C_M_look 6 rfl) ⟨by omega, by omega⟩ ?_
    refine x_ireturn (x_d C_M_look 7 rfl) ?_
    exact ⟨congrArg (fun z => some (xI z)) (by (repeat' split) <;> omega), rfl⟩
theorem c_M_tell (Z : xZ) (d : Nat) (q : Nat → Int) (r : Nat → Option Nat) (A : Nat → Nat → Int) (dy : xH) (hd : 1 ≤ d) (cb n : Nat) (fb : Nat → Int) (hb : ct dy cb (xA 1 n fb)) (hn : n ≤ 6001) : xMet Z d Y_M_tell [xC 42, xC cb] (hF q r A ++ dy) (fun v h2 => v = some (xI (n : Int)) ∧ ∃ f2, h2 = hF (x_up q 1353 (n : Int)) r (x_up A 45 f2) ++ dy ∧ ∀ k, k < n → f2 k = fb k) := by
  refine xMet_of (by decide) (Nat.le_of_ble_eq_true rfl) (fun v h2 hq => by rw [hq.1]; trivial) ?_
  refine x_aload_n (x_d C_M_tell 0 rfl) rfl ?_
  refine x_iconst (x_d C_M_tell 1 rfl) ⟨by omega, by omega⟩ ?_
  refine x_aload_n (x_d C_M_tell 2 rfl) rfl ?_
  refine x_getfield (v := xC 45) (x_d C_M_tell 3 rfl) f_M_170 rfl rfl ?_
  refine x_iconst (x_d C_M_tell 4 rfl) ⟨by omega, by omega⟩ ?_
  refine x_aload_n (x_d C_M_tell 5 rfl) rfl ?_
  refine x_arraylength (x_d C_M_tell 6 rfl) (ct_get hb _ _ _) (by decide) (by omega) ?_
  refine x_arraycopy (st := []) (h1 := hF q r (x_up A 45 (va_cpy fb (A 45) (0 : Int).toNat (0 : Int).toNat ((n : Int) : Int).toNat)) ++ dy) (x_d C_M_tell 7 rfl) ac_M_323 ac_w (Or.inr rfl) (ct_get hb _ _ _) rfl (by omega) (by omega) (by omega) (by omega) (by omega) (Nat.le_of_ble_eq_true rfl) (by omega) rfl ?_
  refine x_aload_n (x_d C_M_tell 8 rfl) rfl ?_
  refine x_aload_n (x_d C_M_tell 9 rfl) rfl ?_
  refine x_arraylength (x_d C_M_tell 10 rfl) (ct_get hb _ _ _) (by decide) (by omega) ?_
  refine x_putfield (h1 := hF (x_up q 1353 ((n : Int))) r (x_up A 45 (va_cpy fb (A 45) (0 : Int).toNat (0 : Int).toNat ((n : Int) : Int).toNat)) ++ dy) (x_d C_M_tell 11 rfl) p_M_329 rfl rfl rfl trivial rfl ?_
  refine x_aload_n (x_d C_M_tell 12 rfl) rfl ?_
  refine x_arraylength (x_d C_M_tell 13 rfl) (ct_get hb _ _ _) (by decide) (by omega) ?_
  refine x_ireturn (x_d C_M_tell 14 rfl) ?_
  refine ⟨rfl, _, rfl, fun k hk => ?_⟩
  unfold va_cpy
  rw [if_pos (by omega)]
  congr 1
  omega
