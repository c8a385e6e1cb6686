/-! the reference: pages -/
theorem w_Ar_fill_5 (Z : xZ) (d : Nat) (q : Nat → Int) (r : Nat → Option Nat) (A : Nat → Nat → Int) (dy : xH) (cc : Nat) (v : Int) (hv : v = 0 ∨ v = 1) : ∀ (m : Nat) (t : Int) (sn : Nat → Int), (0 ≤ t ∧ t + m = 301) → (∀ k : Nat, (k : Int) < t → sn k = v) → xW Z d Y_Ar_fill 5 [(0, xC 50), (1, xI v), (2, xI t), (3, xI 301)] [] (hF q r (x_up A 50 sn) ++ dy) (fun v0 h2 => v0 = none ∧ ∃ sn2, h2 = hF q r (x_up A 50 sn2) ++ dy ∧ ∀ k : Nat, k < 301 → sn2 k = v) := by
  intro m
  induction m with
  | zero =>
    intro t sn ht hs
    refine x_iload_n (x_d C_Ar_fill 5 rfl) rfl ?_
    refine x_iload_n (x_d C_Ar_fill 6 rfl) rfl ?_
    refine x_icmp_ge (tgt := 20) (x_d C_Ar_fill 7 rfl) rfl (fun _ => ?_) (fun q => absurd q (by omega))
    refine x_return (x_d C_Ar_fill 14 rfl) ?_
    exact ⟨rfl, sn, rfl, fun k hk => hs k (by omega)⟩
  | succ m ih =>
    intro t sn ht hs
    refine x_iload_n (x_d C_Ar_fill 5 rfl) rfl ?_
    refine x_iload_n (x_d C_Ar_fill 6 rfl) rfl ?_
    refine x_icmp_ge (tgt := 20) (x_d C_Ar_fill 7 rfl) rfl (fun q => absurd q (by omega)) (fun _ => ?_)
    refine x_aload_n (x_d C_Ar_fill 8 rfl) rfl ?_
    refine x_iload_n (x_d C_Ar_fill 9 rfl) rfl ?_
    refine x_iload_n (x_d C_Ar_fill 10 rfl) rfl ?_
    refine x_zastore (h1 := hF q r (x_up A 50 (x_up sn (t).toNat v)) ++ dy) (x_d C_Ar_fill 11 rfl) rfl (by omega) (by omega) hv rfl ?_
    refine x_iinc (l1 := [(2, xI (t + 1)), (0, xC 50), (1, xI (v)), (3, xI (301))]) (x_d C_Ar_fill 12 rfl) rfl ⟨by omega, by omega⟩ (by decide) rfl ?_
    refine x_goto (tgt := 5) (x_d C_Ar_fill 13 rfl) rfl ?_
    refine x_locs [1, 2, 0, 3] rfl ?_
    refine ih (t + 1) _ (by omega) (fun k hk => ?_)
    by_cases e : k = t.toNat
    · rw [e, x_up_s]
    · rw [x_up_n _ _ e]; exact hs k (by omega)
theorem c_Ar_fill (Z : xZ) (d : Nat) (q : Nat → Int) (r : Nat → Option Nat) (A : Nat → Nat → Int) (dy : xH) (hd : 1 ≤ d) (v : Int) (hv : v = 0 ∨ v = 1) : xMet Z d Y_Ar_fill [xC 50, xI v] (hF q r A ++ dy) (fun v0 h2 => v0 = none ∧ ∃ sn2, h2 = hF q r (x_up A 50 sn2) ++ dy ∧ ∀ k : Nat, k < 301 → sn2 k = v) := by
  refine xMet_of (by decide) (Nat.le_of_ble_eq_true rfl) (fun v h2 hq => by obtain ⟨e, _⟩ := hq; rw [e]; trivial) ?_
  refine x_iconst (x_d C_Ar_fill 0 rfl) ⟨by omega, by omega⟩ ?_
  refine x_istore_n (l1 := [(2, xI (0)), (0, xC 50), (1, xI (v))]) (x_d C_Ar_fill 1 rfl) (by decide) rfl ?_
  refine x_aload_n (x_d C_Ar_fill 2 rfl) rfl ?_
  refine x_arraylength (x_d C_Ar_fill 3 rfl) rfl (by decide) (by omega) ?_
  refine x_istore_n (l1 := [(3, xI (301)), (2, xI (0)), (0, xC 50), (1, xI (v))]) (x_d C_Ar_fill 4 rfl) (by decide) rfl ?_
  refine x_locs [2, 3, 1, 0] rfl ?_
  have h := w_Ar_fill_5 Z d q r A dy 0 v hv 301 0 (A 50) (by omega) (fun k hk => absurd hk (by omega))
  rw [x_up_same] at h
  exact h
theorem c_M_pages0 (Z : xZ) (d : Nat) (q : Nat → Int) (r : Nat → Option Nat) (A : Nat → Nat → Int) (dy : xH) (hd : 17 ≤ d) (po : Option Nat) (X : Nat → Int) (E : Int) (g : Nat → Option xE) (P : Nat → Nat → Int) (hgk : gok g dy) (cp : Nat) (bt : Option Nat) (tb lt : Int) (ctr : Nat) (sz : Int) (fis fge fpl : Nat → Int) (fva : Nat → Option Nat) (fch : Nat → Int) (hp : PB dy cp bt tb lt (some ctr) sz fis fge fpl fva fch) (hsz : 0 ≤ sz ∧ sz ≤ 300) (rt us gn : Nat → Int) (hus : ∀ k : Nat, (k : Int) < sz → (fis k = 2 ↔ ¬ us k = 0) ∧ gn k = fge k) (hva : ∀ k : Nat, (k : Int) < sz → ¬ us k = 0 → ∃ c2, fva k = some c2 ∧ Tr X E g P 9 (rt k) c2) (n2 : Int) (hE : E ≤ n2) (p : Int) (ht : Tr X E g P 9 p ctr) (nu : Nat → Int) : xMet Z d Y_M_pages [xC 42] (hF q (x_up (x_up r 1350 (some cp)) 1351 po) (x_up A 51 nu) ++ dy) (fun v h2 => ∃ sn2 nu2 fd2, h2 = hF (x_up q 1364 fd2) (x_up (x_up r 1350 (some cp)) 1351 po) (x_up (x_up A 50 sn2) 51 nu2) ++ dy ∧ ((∃ L2, s_pgs (P 5) (P 6) (P 7) (P 8) (P 9) X rt gn us n2 sz p = some L2 ∧ v = some (xI (L2.length : Int)) ∧ fd2 = L2.length ∧ L2.length ≤ 300 ∧ ∀ k, k < L2.length → nu2 k = L2.getD k 0) ∨ (s_pgs (P 5) (P 6) (P 7) (P 8) (P 9) X rt gn us n2 sz p = none ∧ v = some (xI (-4))))) := by
  refine xMet_of (by decide) (Nat.le_of_ble_eq_true rfl) (fun v h2 hq => by obtain ⟨_, _, _, _, ⟨_, _, e, _⟩ | ⟨_, e⟩⟩ := hq <;> rw [e] <;> trivial) ?_
  refine xW_ok (fun _ _ hok => ?_)
  have hpp : ct dy cp (xB 11 [xO bt, xI tb, xI lt, xC ctr, xC (cp + 1), xC (cp + 2), xC (cp + 3), xC (cp + 4), xC (cp + 5), xI sz]) := hp.1
  obtain ⟨_, x_t, y_t, m_t, b_t, i_t, n_t, hct, -⟩ := Tr_o ht
  have hz50 := hF_z hok 50 301 rfl
  refine x_aload_n (x_d C_M_pages 0 rfl) rfl ?_
  refine x_getfield (v := xC cp) (x_d C_M_pages 1 rfl) f_M_207 rfl rfl ?_
  refine x_ifnonnullC (tgt := 10) (x_d C_M_pages 2 rfl) rfl ?_
  refine x_aload_n (x_d C_M_pages 5 rfl) rfl ?_
  refine x_getfield (v := xC 50) (x_d C_M_pages 6 rfl) f_M_186 rfl rfl ?_
  refine x_iconst (x_d C_M_pages 7 rfl) ⟨by omega, by omega⟩ ?_
  refine x_invokestatic (st := []) (av := [xC 50, xI (0)]) (x_d C_M_pages 8 rfl) k_M_452 m_Ar_fill s_Ar_fill rfl (Nat.le_of_ble_eq_true rfl) (by omega) rfl (c_Ar_fill Z (d - 1) q (x_up (x_up r 1350 (some cp)) 1351 po) (x_up A 51 nu) dy (by omega) 0 (Or.inl rfl)) ?_
  rintro _ _ ⟨rfl, sn0, rfl, hsn0⟩
  refine x_aload_n (x_d C_M_pages 9 rfl) rfl ?_
  refine x_iconst (x_d C_M_pages 10 rfl) ⟨by omega, by omega⟩ ?_
  refine x_putfield (h1 := hF (x_up q 1364 0) (x_up (x_up r 1350 (some cp)) 1351 po) (x_up (x_up A 51 nu) 50 sn0) ++ dy) (x_d C_M_pages 11 rfl) p_M_443 rfl rfl rfl trivial rfl ?_
  refine xW_ok (fun _ _ hok2 => ?_)
  have hz5 := hF_z hok2 50 301 rfl
  have hpw : pw sn0 nu 0 [] := ⟨rfl, fun k hk => absurd hk (Nat.not_lt_zero _), (s_sm_in (f := sn0) (m := 1) (fun k => by have : sn0 k = 0 ∨ sn0 k = 1 := hz5 k; omega) 300).1, fun k => hz5 k⟩
  refine x_aload_n (x_d C_M_pages 12 rfl) rfl ?_
  refine x_aload_n (x_d C_M_pages 13 rfl) rfl ?_
  refine x_getfield (v := xC cp) (x_d C_M_pages 14 rfl) f_M_207 rfl rfl ?_
  refine x_getfield (v := xC ctr) (x_d C_M_pages 15 rfl) f_M_264 (ct_get hpp _ _ _) rfl ?_
  refine x_ldcSw (i := 82) (x_d C_M_pages 16 rfl) rfl ?_
  refine x_invokevirtual (st := [xC 42]) (av := [xS (165)]) (x_d C_M_pages 17 rfl) k_M_256 m_MQ_get2 v_MQ_get2 cl_MQ (ct_get (hgk _ _ hct) _ _ _) rfl (Nat.le_of_ble_eq_true rfl) (by omega) rfl (t_get2 Z (d - 1) (hF (x_up q 1364 0) (x_up (x_up r 1350 (some cp)) 1351 po) (x_up (x_up A 51 nu) 50 sn0) ++ dy) X E g P 8 p ctr (gh_of hgk _ _ _) ht (by omega) (si := 82) rfl (by decide) (by decide) n2 hE) ?_
  rintro v_ h_ ⟨hh_, xro, hv_, hx_⟩
  rw [hh_]
  clear hh_
  obtain rfl := hv_
  obtain ⟨ro, hro⟩ : ∃ z, z = s_nam (P 8) (P 9) X n2 p [82, 111, 111, 116] := ⟨_, rfl⟩
  have hx_ : (ro = -1 ∧ xro = none) ∨ (0 ≤ ro ∧ ro ∈ s_in (P 8) p ∧ ∃ c2, xro = some c2 ∧ Tr X E g P 8 ro c2) := by rw [hro]; exact hx_
  rcases hx_ with ⟨hro0, rfl⟩ | ⟨hro0, hrom, cro, rfl, hTro⟩
  · have hqro : ro < 0 := by omega
    refine x_invokevirtual (st := []) (av := [xN]) (x_d C_M_pages 18 rfl) k_M_317 m_M_led v_M_led cl_M rfl rfl (Nat.le_of_ble_eq_true rfl) (by omega) rfl (c_M_ledN Z (d - 1) (x_up q 1364 0) (x_up (x_up r 1350 (some cp)) 1351 po) (x_up (x_up A 51 nu) 50 sn0) dy) ?_
    rintro v_ _ ⟨hv_, rfl⟩
    obtain rfl : v_ = some xN := hv_
    have hnn : s_ldt (P 5) (P 6) (P 7) gn us sz ro < 0 := by unfold s_ldt; rw [if_pos (Or.inl hqro)]; omega
    · obtain ⟨n, hn⟩ : ∃ n, n = s_ldt (P 5) (P 6) (P 7) gn us sz ro := ⟨_, rfl⟩
      rw [← hn] at hnn
      refine x_astore_n (l1 := [(1, xN), (0, xC 42)]) (x_d C_M_pages 19 rfl) (by decide) rfl ?_
      refine x_aload_n (x_d C_M_pages 20 rfl) rfl ?_
      refine x_ifnullN (tgt := 69) (x_d C_M_pages 21 rfl) rfl ?_
      refine x_bipush (x_d C_M_pages 33 rfl) (by omega) ?_
      refine x_ireturn (x_d C_M_pages 34 rfl) ?_
      have hps : s_pgs (P 5) (P 6) (P 7) (P 8) (P 9) X rt gn us n2 sz p = if n < 0 ∨ ¬ P 5 (rt n.toNat).toNat = 7 then none else (s_vis (P 5) (P 6) (P 7) (P 8) (P 9) X rt gn us n2 sz 8 (s_nam (P 8) (P 9) X n2 (rt n.toNat) [80, 97, 103, 101, 115]) (fun _ => 0) []).map Prod.snd := by rw [hn, hro]; rfl
      refine ⟨_, _, _, rfl, Or.inr ⟨?_, rfl⟩⟩
      rw [hps, if_pos (by omega)]
  · obtain ⟨_, x_ro, y_ro, m_ro, b_ro, i_ro, n_ro, hcro, hLro, hmro, h60ro, hchro, hKro⟩ := Tr_o hTro
    refine x_invokevirtual (st := []) (av := [xC cro]) (x_d C_M_pages 18 rfl) k_M_317 m_M_led v_M_led cl_M rfl rfl (Nat.le_of_ble_eq_true rfl) (by omega) rfl (c_M_led Z (d - 1) (x_up q 1364 0) r (x_up (x_up A 51 nu) 50 sn0) dy (by omega) po X E g P hgk cp bt tb lt (some ctr) sz fis fge fpl fva fch hp hsz rt us gn hus 7 (by omega) ro cro hTro) ?_
    rintro v_ _ ⟨hv_, rfl⟩
    obtain ⟨n, hn⟩ : ∃ n, n = s_ldt (P 5) (P 6) (P 7) gn us sz ro := ⟨_, rfl⟩
    rw [← hn] at hv_
    have hn2 := s_ldt_in (P 5) (P 6) (P 7) gn us sz ro
    rw [← hn] at hn2
    obtain ⟨oz, hoz, hoc⟩ : ∃ oz, v_ = some (xO oz) ∧ ((n < 0 ∧ oz = none) ∨ (0 ≤ n ∧ ∃ cr, oz = some cr ∧ Tr X E g P 9 (rt n.toNat) cr)) := by
      by_cases hneg : n < 0
      · exact ⟨none, by rw [hv_, if_pos hneg], Or.inl ⟨hneg, rfl⟩⟩
      · have hn3 : 0 ≤ n ∧ n < sz ∧ ¬ us n.toNat = 0 := by rcases hn2 with z | z; omega; exact z
        obtain ⟨cr, hv3, hT3⟩ := hva n.toNat (by omega) hn3.2.2
        exact ⟨some cr, by rw [hv_, if_neg hneg, hv3], Or.inr ⟨hn3.1, cr, rfl, hT3⟩⟩
    subst hoz
    rcases hoc with ⟨hnn, rfl⟩ | ⟨hnn, cr, rfl, hT3⟩
    · have hnx : n < 0 := hnn
      refine x_astore_n (l1 := [(1, xN), (0, xC 42)]) (x_d C_M_pages 19 rfl) (by decide) rfl ?_
      refine x_aload_n (x_d C_M_pages 20 rfl) rfl ?_
      refine x_ifnullN (tgt := 69) (x_d C_M_pages 21 rfl) rfl ?_
      refine x_bipush (x_d C_M_pages 33 rfl) (by omega) ?_
      refine x_ireturn (x_d C_M_pages 34 rfl) ?_
      have hps : s_pgs (P 5) (P 6) (P 7) (P 8) (P 9) X rt gn us n2 sz p = if n < 0 ∨ ¬ P 5 (rt n.toNat).toNat = 7 then none else (s_vis (P 5) (P 6) (P 7) (P 8) (P 9) X rt gn us n2 sz 8 (s_nam (P 8) (P 9) X n2 (rt n.toNat) [80, 97, 103, 101, 115]) (fun _ => 0) []).map Prod.snd := by rw [hn, hro]; rfl
      refine ⟨_, _, _, rfl, Or.inr ⟨?_, rfl⟩⟩
      rw [hps, if_pos (by omega)]
    · obtain ⟨_, x_r, y_r, m_r, b_r, i_r, n_r, hcr, -⟩ := Tr_o hT3
      refine x_astore_n (l1 := [(1, xC cr), (0, xC 42)]) (x_d C_M_pages 19 rfl) (by decide) rfl ?_
      refine x_aload_n (x_d C_M_pages 20 rfl) rfl ?_
      refine x_ifnullC (tgt := 69) (x_d C_M_pages 21 rfl) rfl ?_
      refine x_aload_n (x_d C_M_pages 22 rfl) rfl ?_
      refine x_getfield (v := xI (P 5 (rt n.toNat).toNat)) (x_d C_M_pages 23 rfl) f_M_261 (ct_get (hgk _ _ hcr) _ _ _) rfl ?_
      refine x_bipush (x_d C_M_pages 24 rfl) (by omega) ?_
      refine x_icmp_ne (tgt := 69) (x_d C_M_pages 25 rfl) rfl (fun c5 => ?_) (fun c5 => ?_)
      · refine x_bipush (x_d C_M_pages 33 rfl) (by omega) ?_
        refine x_ireturn (x_d C_M_pages 34 rfl) ?_
        have hps : s_pgs (P 5) (P 6) (P 7) (P 8) (P 9) X rt gn us n2 sz p = if n < 0 ∨ ¬ P 5 (rt n.toNat).toNat = 7 then none else (s_vis (P 5) (P 6) (P 7) (P 8) (P 9) X rt gn us n2 sz 8 (s_nam (P 8) (P 9) X n2 (rt n.toNat) [80, 97, 103, 101, 115]) (fun _ => 0) []).map Prod.snd := by rw [hn, hro]; rfl
        refine ⟨_, _, _, rfl, Or.inr ⟨?_, rfl⟩⟩
        rw [hps, if_pos (by omega)]
      · refine x_aload_n (x_d C_M_pages 26 rfl) rfl ?_
        refine x_aload_n (x_d C_M_pages 27 rfl) rfl ?_
        refine x_ldcSw (i := 83) (x_d C_M_pages 28 rfl) rfl ?_
        refine x_invokevirtual (st := [xC 42]) (av := [xS (167)]) (x_d C_M_pages 29 rfl) k_M_256 m_MQ_get2 v_MQ_get2 cl_MQ (ct_get (hgk _ _ hcr) _ _ _) rfl (Nat.le_of_ble_eq_true rfl) (by omega) rfl (t_get2 Z (d - 1) (hF (x_up q 1364 0) (x_up (x_up r 1350 (some cp)) 1351 po) (x_up (x_up A 51 nu) 50 sn0) ++ dy) X E g P 8 (rt n.toNat) cr (gh_of hgk _ _ _) hT3 (by omega) (si := 83) rfl (by decide) (by decide) n2 hE) ?_
        rintro v_ h_ ⟨hh_, xpg, hv_, hx_⟩
        rw [hh_]
        clear hh_
        obtain rfl := hv_
        obtain ⟨pg, hpg⟩ : ∃ z, z = s_nam (P 8) (P 9) X n2 (rt n.toNat) [80, 97, 103, 101, 115] := ⟨_, rfl⟩
        have hx_ : (pg = -1 ∧ xpg = none) ∨ (0 ≤ pg ∧ pg ∈ s_in (P 8) (rt n.toNat) ∧ ∃ c2, xpg = some c2 ∧ Tr X E g P 8 pg c2) := by rw [hpg]; exact hx_
        rcases hx_ with ⟨hpg0, rfl⟩ | ⟨hpg0, hpgm, cpg, rfl, hTpg⟩
        · have hqpg : pg < 0 := by omega
          refine x_iconst (x_d C_M_pages 30 rfl) ⟨by omega, by omega⟩ ?_
          refine x_invokevirtual (st := []) (av := [xN, xI (1)]) (x_d C_M_pages 31 rfl) k_M_448 m_M_walk v_M_walk cl_M rfl rfl (Nat.le_of_ble_eq_true rfl) (by omega) rfl (c_M_walk Z q r A dy po X E g P hgk cp bt tb lt (some ctr) sz fis fge fpl fva fch hp hsz rt us gn hus hva n2 hE 8 (by omega) (d - 1) sn0 nu 0 [] pg 1 none (by omega) (by omega) (Or.inl ⟨rfl, hqpg⟩) hpw) ?_
          rintro v_ _ ⟨sn6, nu6, fd6, rfl, hr_⟩
          obtain ⟨z6, rfl, hz6⟩ : ∃ z : Int, v_ = some (xI z) ∧ ((z = 1 ∧ ∃ L2, s_vis (P 5) (P 6) (P 7) (P 8) (P 9) X rt gn us n2 sz 8 pg sn0 [] = some (sn6, L2) ∧ pw sn6 nu6 fd6 L2) ∨ (z = 0 ∧ s_vis (P 5) (P 6) (P 7) (P 8) (P 9) X rt gn us n2 sz 8 pg sn0 [] = none)) := by
            rcases hr_ with ⟨h1_, h2_⟩ | ⟨h1_, h2_⟩
            · exact ⟨1, h1_, Or.inl ⟨rfl, h2_⟩⟩
            · exact ⟨0, h1_, Or.inr ⟨rfl, h2_⟩⟩
          clear hr_
          have hag := s_ag_map (s_vis_ag (P 5) (P 6) (P 7) (P 8) (P 9) X rt gn us n2 sz hsz.2 8 pg sn0 (fun _ => 0) [] (fun k hk => hsn0 k (by omega)))
          refine x_if_ne (tgt := 72) (x_d C_M_pages 32 rfl) rfl (fun c7 => ?_) (fun c7 => ?_)
          · refine x_aload_n (x_d C_M_pages 35 rfl) rfl ?_
            refine x_getfield (v := xI (fd6)) (x_d C_M_pages 36 rfl) f_M_443 rfl rfl ?_
            refine x_ireturn (x_d C_M_pages 37 rfl) ?_
            have hps : s_pgs (P 5) (P 6) (P 7) (P 8) (P 9) X rt gn us n2 sz p = if n < 0 ∨ ¬ P 5 (rt n.toNat).toNat = 7 then none else (s_vis (P 5) (P 6) (P 7) (P 8) (P 9) X rt gn us n2 sz 8 (s_nam (P 8) (P 9) X n2 (rt n.toNat) [80, 97, 103, 101, 115]) (fun _ => 0) []).map Prod.snd := by rw [hn, hro]; rfl
            rw [← hpg, if_neg (by omega), ← hag] at hps
            rcases hz6 with ⟨h1, L2, h2, h3⟩ | ⟨h1, h2⟩
            · have h4 := pw_300 h3
              have h5 := h3.1
              refine ⟨_, _, _, rfl, Or.inl ⟨L2, by rw [hps, h2]; rfl, by rw [h5], h5, by omega, h3.2.1⟩⟩
            · exfalso; omega
          · refine x_bipush (x_d C_M_pages 33 rfl) (by omega) ?_
            refine x_ireturn (x_d C_M_pages 34 rfl) ?_
            have hps : s_pgs (P 5) (P 6) (P 7) (P 8) (P 9) X rt gn us n2 sz p = if n < 0 ∨ ¬ P 5 (rt n.toNat).toNat = 7 then none else (s_vis (P 5) (P 6) (P 7) (P 8) (P 9) X rt gn us n2 sz 8 (s_nam (P 8) (P 9) X n2 (rt n.toNat) [80, 97, 103, 101, 115]) (fun _ => 0) []).map Prod.snd := by rw [hn, hro]; rfl
            rw [← hpg, if_neg (by omega), ← hag] at hps
            rcases hz6 with ⟨h1, h2⟩ | ⟨h1, h2⟩
            · exfalso; omega
            · refine ⟨_, _, _, rfl, Or.inr ⟨?_, rfl⟩⟩
              rw [hps, h2]
              rfl
        · obtain ⟨_, x_pg, y_pg, m_pg, b_pg, i_pg, n_pg, hcpg, hLpg, hmpg, h60pg, hchpg, hKpg⟩ := Tr_o hTpg
          refine x_iconst (x_d C_M_pages 30 rfl) ⟨by omega, by omega⟩ ?_
          refine x_invokevirtual (st := []) (av := [xC cpg, xI (1)]) (x_d C_M_pages 31 rfl) k_M_448 m_M_walk v_M_walk cl_M rfl rfl (Nat.le_of_ble_eq_true rfl) (by omega) rfl (c_M_walk Z q r A dy po X E g P hgk cp bt tb lt (some ctr) sz fis fge fpl fva fch hp hsz rt us gn hus hva n2 hE 8 (by omega) (d - 1) sn0 nu 0 [] pg 1 (some cpg) (by omega) (by omega) (Or.inr ⟨cpg, 7, by omega, rfl, hTpg⟩) hpw) ?_
          rintro v_ _ ⟨sn8, nu8, fd8, rfl, hr_⟩
          obtain ⟨z8, rfl, hz8⟩ : ∃ z : Int, v_ = some (xI z) ∧ ((z = 1 ∧ ∃ L2, s_vis (P 5) (P 6) (P 7) (P 8) (P 9) X rt gn us n2 sz 8 pg sn0 [] = some (sn8, L2) ∧ pw sn8 nu8 fd8 L2) ∨ (z = 0 ∧ s_vis (P 5) (P 6) (P 7) (P 8) (P 9) X rt gn us n2 sz 8 pg sn0 [] = none)) := by
            rcases hr_ with ⟨h1_, h2_⟩ | ⟨h1_, h2_⟩
            · exact ⟨1, h1_, Or.inl ⟨rfl, h2_⟩⟩
            · exact ⟨0, h1_, Or.inr ⟨rfl, h2_⟩⟩
          clear hr_
          have hag := s_ag_map (s_vis_ag (P 5) (P 6) (P 7) (P 8) (P 9) X rt gn us n2 sz hsz.2 8 pg sn0 (fun _ => 0) [] (fun k hk => hsn0 k (by omega)))
          refine x_if_ne (tgt := 72) (x_d C_M_pages 32 rfl) rfl (fun c9 => ?_) (fun c9 => ?_)
          · refine x_aload_n (x_d C_M_pages 35 rfl) rfl ?_
            refine x_getfield (v := xI (fd8)) (x_d C_M_pages 36 rfl) f_M_443 rfl rfl ?_
            refine x_ireturn (x_d C_M_pages 37 rfl) ?_
            have hps : s_pgs (P 5) (P 6) (P 7) (P 8) (P 9) X rt gn us n2 sz p = if n < 0 ∨ ¬ P 5 (rt n.toNat).toNat = 7 then none else (s_vis (P 5) (P 6) (P 7) (P 8) (P 9) X rt gn us n2 sz 8 (s_nam (P 8) (P 9) X n2 (rt n.toNat) [80, 97, 103, 101, 115]) (fun _ => 0) []).map Prod.snd := by rw [hn, hro]; rfl
            rw [← hpg, if_neg (by omega), ← hag] at hps
            rcases hz8 with ⟨h1, L2, h2, h3⟩ | ⟨h1, h2⟩
            · have h4 := pw_300 h3
              have h5 := h3.1
              refine ⟨_, _, _, rfl, Or.inl ⟨L2, by rw [hps, h2]; rfl, by rw [h5], h5, by omega, h3.2.1⟩⟩
            · exfalso; omega
          · refine x_bipush (x_d C_M_pages 33 rfl) (by omega) ?_
            refine x_ireturn (x_d C_M_pages 34 rfl) ?_
            have hps : s_pgs (P 5) (P 6) (P 7) (P 8) (P 9) X rt gn us n2 sz p = if n < 0 ∨ ¬ P 5 (rt n.toNat).toNat = 7 then none else (s_vis (P 5) (P 6) (P 7) (P 8) (P 9) X rt gn us n2 sz 8 (s_nam (P 8) (P 9) X n2 (rt n.toNat) [80, 97, 103, 101, 115]) (fun _ => 0) []).map Prod.snd := by rw [hn, hro]; rfl
            rw [← hpg, if_neg (by omega), ← hag] at hps
            rcases hz8 with ⟨h1, h2⟩ | ⟨h1, h2⟩
            · exfalso; omega
            · refine ⟨_, _, _, rfl, Or.inr ⟨?_, rfl⟩⟩
              rw [hps, h2]
              rfl
