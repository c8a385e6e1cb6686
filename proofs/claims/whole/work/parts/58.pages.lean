/-! the walk through the pages: all of it -/
/-- two answers that agree on the first 300 -/
def s_ag (a b : Option pgs) : Prop := (a = none ∧ b = none) ∨ ∃ x y, a = some x ∧ b = some y ∧ x.2 = y.2 ∧ ∀ k, k < 300 → x.1 k = y.1 k
theorem s_vks_ag {F : Int → (Nat → Int) → List Int → Option pgs} (hF : ∀ p sn sm L, (∀ k, k < 300 → sn k = sm k) → s_ag (F p sn L) (F p sm L)) : ∀ (xs : List Int) (sn sm : Nat → Int) (L : List Int), (∀ k, k < 300 → sn k = sm k) → s_ag (s_vks F xs sn L) (s_vks F xs sm L)
  | [], sn, sm, L, h => Or.inr ⟨(sn, L), (sm, L), rfl, rfl, rfl, h⟩
  | x :: xs, sn, sm, L, h => by
    show s_ag ((F x sn L).bind _) ((F x sm L).bind _)
    rcases hF x sn sm L h with ⟨e1, e2⟩ | ⟨u, v, e1, e2, e3, e4⟩
    · rw [e1, e2]; exact Or.inl ⟨rfl, rfl⟩
    · rw [e1, e2]
      show s_ag (s_vks F xs u.1 u.2) (s_vks F xs v.1 v.2)
      rw [e3]
      exact s_vks_ag hF xs u.1 v.1 v.2 e4
theorem s_up_ag {sn sm : Nat → Int} (h : ∀ k, k < 300 → sn k = sm k) (n : Nat) (x : Int) : ∀ k, k < 300 → x_up sn n x k = x_up sm n x k := by
  intro k hk
  unfold x_up
  split
  · rfl
  · exact h k hk
theorem s_vis_ag (kd one two sp nm b root gen us : Nat → Int) (n sz : Int) (hz : sz ≤ 300) : ∀ (D : Nat) (p : Int) (sn sm : Nat → Int) (L : List Int), (∀ k, k < 300 → sn k = sm k) → s_ag (s_vis kd one two sp nm b root gen us n sz D p sn L) (s_vis kd one two sp nm b root gen us n sz D p sm L)
  | 0, _, _, _, _, _ => Or.inl ⟨rfl, rfl⟩
  | D + 1, p, sn, sm, L, h => by
    have hl := s_ldt_in kd one two gen us sz p
    unfold s_vis
    by_cases c : s_ldt kd one two gen us sz p < 0 ∨ ¬ kd (root (s_ldt kd one two gen us sz p).toNat).toNat = 7
    · rw [if_pos (by rcases c with c | c; exact Or.inl c; exact Or.inr (Or.inl c)), if_pos (by rcases c with c | c; exact Or.inl c; exact Or.inr (Or.inl c))]
      exact Or.inl ⟨rfl, rfl⟩
    · have e := h (s_ldt kd one two gen us sz p).toNat (by omega)
      by_cases c2 : sn (s_ldt kd one two gen us sz p).toNat = 0
      · rw [if_neg (by rintro (z | z | z); exact c (Or.inl z); exact c (Or.inr z); exact z c2), if_neg (by rintro (z | z | z); exact c (Or.inl z); exact c (Or.inr z); exact z (e ▸ c2))]
        unfold s_vs1
        split
        · exact Or.inr ⟨_, _, rfl, rfl, rfl, s_up_ag h _ _⟩
        · split
          · unfold s_kds
            split
            · exact Or.inl ⟨rfl, rfl⟩
            · exact s_vks_ag (fun p sn sm L h => s_vis_ag kd one two sp nm b root gen us n sz hz D p sn sm L h) _ _ _ _ (s_up_ag h _ _)
          · exact Or.inl ⟨rfl, rfl⟩
      · rw [if_pos (Or.inr (Or.inr c2)), if_pos (Or.inr (Or.inr (e ▸ c2)))]
        exact Or.inl ⟨rfl, rfl⟩
theorem s_ag_map {a b : Option pgs} (h : s_ag a b) : a.map Prod.snd = b.map Prod.snd := by
  rcases h with ⟨e1, e2⟩ | ⟨u, v, e1, e2, e3, e4⟩
  · rw [e1, e2]
  · rw [e1, e2]; exact congrArg some e3
theorem pw_300 {sn nu : Nat → Int} {fd : Int} {L : List Int} (h : pw sn nu fd L) : fd ≤ 300 := by
  have h2 := s_sm_in (f := sn) (m := 1) (fun k => by have := h.2.2.2 k; omega) 300
  have h3 := h.2.2.1
  omega
theorem w_PW_through_32 (Z : xZ) (d : Nat) (q : Nat → Int) (r : Nat → Option Nat) (A : Nat → Nat → Int) (dy : xH) (hd : 26 ≤ d) (hz : 0 ≤ q 837 ∧ q 837 ≤ 300) (hT : 0 ≤ q 34 ∧ q 34 ≤ q 35 ∧ q 35 ≤ 10248) (hR : s_okR A) (hsp : ∀ j, 0 ≤ A 8 j ∧ A 8 j ≤ 12900) (hus : ∀ k : Nat, (k : Int) < q 837 → ¬ A 29 k = 0 → wv (A 5) (A 6) (A 7) (A 8) (A 9) (A 2) (q 35) 8 (A 27 k)) (htw : wv (A 5) (A 6) (A 7) (A 8) (A 9) (A 2) (q 35) 8 (q 840)) (sn nu : Nat → Int) (hsn0 : ∀ k, k < 300 → sn k = 0) (hpw : pw sn nu 0 []) : xW Z d Y_PW_through 32 [(0, xC 23), (1, xC 26), (2, xI 300)] [] (hF (x_up q 737 0) (x_up r 740 (some 26)) (x_up (x_up A 24 nu) 25 sn) ++ dy) (fun v0 h2 => ∃ sn2 nu2 fd2, h2 = hF (x_up q 737 fd2) (x_up r 740 (some 26)) (x_up (x_up A 24 nu2) 25 sn2) ++ dy ∧ ((v0 = some (xI 1) ∧ ∃ L2, s_pgs (A 5) (A 6) (A 7) (A 8) (A 9) (A 2) (A 27) (A 28) (A 29) (q 35) (q 837) (q 840) = some L2 ∧ fd2 = L2.length ∧ fd2 ≤ 300 ∧ ∀ k, k < L2.length → nu2 k = L2.getD k 0) ∨ (v0 = some (xI 0) ∧ s_pgs (A 5) (A 6) (A 7) (A 8) (A 9) (A 2) (A 27) (A 28) (A 29) (q 35) (q 837) (q 840) = none))) := by
  have hw := wv_wl htw
  obtain ⟨w1, w2, w3, -⟩ := hw
  refine x_aload_n (x_d C_PW_through 18 rfl) rfl ?_
  refine x_getfield (v := xC 26) (x_d C_PW_through 19 rfl) f_PW_23 rfl rfl ?_
  refine x_aload_n (x_d C_PW_through 20 rfl) rfl ?_
  refine x_getfield (v := xC 4) (x_d C_PW_through 21 rfl) f_PW_19 rfl rfl ?_
  refine x_aload_n (x_d C_PW_through 22 rfl) rfl ?_
  refine x_getfield (v := xC 26) (x_d C_PW_through 23 rfl) f_PW_23 rfl rfl ?_
  refine x_getfield (v := xI (q 840)) (x_d C_PW_through 24 rfl) f_PW_31 rfl rfl ?_
  refine x_ldcS (i := 49) (x_d C_PW_through 25 rfl) rfl ?_
  refine x_invokevirtual (st := [xC 26]) (av := [xI (q 840), xS (99)]) (x_d C_PW_through 26 rfl) k_PW_38 m_P_named v_P_named cl_P rfl rfl (Nat.le_of_ble_eq_true rfl) (by omega) rfl (c_P_named Z (d - 1) (x_up q 737 0) (x_up r 740 (some 26)) (x_up (x_up A 24 nu) 25 sn) dy (by omega) (i := 49) rfl (q 840) hT hR hsp ⟨w1, w2, w3⟩) ?_
  rintro v_ _ ⟨hv_, rfl⟩
  obtain ⟨rt, hrt⟩ : ∃ z, z = s_nam (A 8) (A 9) (A 2) (q 35) (q 840) [82, 111, 111, 116] := ⟨_, rfl⟩
  obtain rfl : v_ = some (xI rt) := by rw [hrt]; exact hv_
  have hrt2 := s_first_in (fun t => decide (0 ≤ s_the (A 2) (q 35) (A 9 t.toNat) [82, 111, 111, 116])) (s_in (A 8) (q 840))
  have hrt3 : rt = -1 ∨ rt ∈ s_in (A 8) (q 840) := by rw [hrt]; exact hrt2
  have hrt4 : rt < 12900 := by rcases hrt3 with e | e; omega; exact (wv_wl (htw.2 rt e).1).2.1
  refine x_invokevirtual (st := []) (av := [xI (rt)]) (x_d C_PW_through 27 rfl) k_PW_44 m_B_leadsTo v_B_leadsTo cl_B rfl rfl (Nat.le_of_ble_eq_true rfl) (by omega) rfl (c_B_leadsTo_26 Z (d - 1) (x_up q 737 0) (x_up r 740 (some 26)) (x_up (x_up A 24 nu) 25 sn) dy (by omega) rt hz (by omega)) ?_
  rintro v_ _ ⟨hv_, rfl⟩
  obtain ⟨n, hn⟩ : ∃ n, n = s_ldt (A 5) (A 6) (A 7) (A 28) (A 29) (q 837) rt := ⟨_, rfl⟩
  obtain rfl : v_ = some (xI n) := by rw [hn]; exact hv_
  have hn2 := s_ldt_in (A 5) (A 6) (A 7) (A 28) (A 29) (q 837) rt
  rw [← hn] at hn2
  have hroot : 0 ≤ n → wv (A 5) (A 6) (A 7) (A 8) (A 9) (A 2) (q 35) 8 (A 27 n.toNat) := fun h => hus n.toNat (by omega) (by rcases hn2 with e | e; omega; exact e.2.2)
  have hrw : 0 ≤ n → 0 ≤ A 27 n.toNat ∧ A 27 n.toNat < 12900 ∧ s_bh (A 8) (A 27 n.toNat) ≤ 12900 := fun h => by have := wv_wl (hroot h); exact ⟨this.1, this.2.1, this.2.2.1⟩
  refine x_istore_n (l1 := [(2, xI (n)), (0, xC 23), (1, xC 26)]) (x_d C_PW_through 28 rfl) (by decide) rfl ?_
  refine x_aload_n (x_d C_PW_through 29 rfl) rfl ?_
  refine x_iload_n (x_d C_PW_through 30 rfl) rfl ?_
  refine x_invokevirtual (st := []) (av := [xI (n)]) (x_d C_PW_through 31 rfl) k_PW_48 m_PW_isDict v_PW_isDict cl_PW rfl rfl (Nat.le_of_ble_eq_true rfl) (by omega) rfl (c_PW_isDict Z (d - 1) (x_up q 737 0) r (x_up (x_up A 24 nu) 25 sn) dy n (by omega) (fun h => ⟨(hrw h).1, (hrw h).2.1⟩)) ?_
  rintro v_ _ ⟨hv_, rfl⟩
  obtain rfl : v_ = some (xI (x_bo (decide (0 ≤ n ∧ A 5 (A 27 n.toNat).toNat = 7)))) := hv_
  have hdi : x_bo (decide (0 ≤ n ∧ A 5 (A 27 n.toNat).toNat = 7)) = 1 ∧ (0 ≤ n ∧ A 5 (A 27 n.toNat).toNat = 7) ∨ x_bo (decide (0 ≤ n ∧ A 5 (A 27 n.toNat).toNat = 7)) = 0 ∧ ¬ (0 ≤ n ∧ A 5 (A 27 n.toNat).toNat = 7) := by by_cases z : (0 ≤ n ∧ A 5 (A 27 n.toNat).toNat = 7); exact Or.inl ⟨x_bo_t z, z⟩; exact Or.inr ⟨x_bo_f z, z⟩
  refine x_if_eq (tgt := 94) (x_d C_PW_through 32 rfl) rfl (fun c1 => ?_) (fun c1 => ?_)
  · refine x_iconst (x_d C_PW_through 48 rfl) ⟨by omega, by omega⟩ ?_
    refine x_ireturn (x_d C_PW_through 49 rfl) ?_
    have hp0 : s_pgs (A 5) (A 6) (A 7) (A 8) (A 9) (A 2) (A 27) (A 28) (A 29) (q 35) (q 837) (q 840) = if n < 0 ∨ ¬ A 5 (A 27 n.toNat).toNat = 7 then none else (s_vis (A 5) (A 6) (A 7) (A 8) (A 9) (A 2) (A 27) (A 28) (A 29) (q 35) (q 837) 8 (s_nam (A 8) (A 9) (A 2) (q 35) (A 27 n.toNat) [80, 97, 103, 101, 115]) (fun _ => 0) []).map Prod.snd := by rw [hn, hrt]; rfl
    refine ⟨sn, nu, 0, rfl, Or.inr ⟨rfl, ?_⟩⟩
    rw [hp0, if_pos (by omega)]
  · refine x_aload_n (x_d C_PW_through 33 rfl) rfl ?_
    refine x_aload_n (x_d C_PW_through 34 rfl) rfl ?_
    refine x_getfield (v := xC 4) (x_d C_PW_through 35 rfl) f_PW_19 rfl rfl ?_
    refine x_aload_n (x_d C_PW_through 36 rfl) rfl ?_
    refine x_getfield (v := xC 26) (x_d C_PW_through 37 rfl) f_PW_23 rfl rfl ?_
    refine x_getfield (v := xC 27) (x_d C_PW_through 38 rfl) f_PW_52 rfl rfl ?_
    refine x_iload_n (x_d C_PW_through 39 rfl) rfl ?_
    refine x_iaload (f := A 27) (x_d C_PW_through 40 rfl) rfl (by omega) (by omega) ?_
    refine x_ldcS (i := 50) (x_d C_PW_through 41 rfl) rfl ?_
    refine x_invokevirtual (st := [xC 23]) (av := [xI (A 27 (n).toNat), xS (101)]) (x_d C_PW_through 42 rfl) k_PW_38 m_P_named v_P_named cl_P rfl rfl (Nat.le_of_ble_eq_true rfl) (by omega) rfl (c_P_named Z (d - 1) (x_up q 737 0) (x_up r 740 (some 26)) (x_up (x_up A 24 nu) 25 sn) dy (by omega) (i := 50) rfl (A 27 (n).toNat) hT hR hsp (hrw (by omega))) ?_
    rintro v_ _ ⟨hv_, rfl⟩
    obtain ⟨pg, hpg⟩ : ∃ z, z = s_nam (A 8) (A 9) (A 2) (q 35) (A 27 (n).toNat) [80, 97, 103, 101, 115] := ⟨_, rfl⟩
    obtain rfl : v_ = some (xI pg) := by rw [hpg]; exact hv_
    have hpg2 := s_first_in (fun t => decide (0 ≤ s_the (A 2) (q 35) (A 9 t.toNat) [80, 97, 103, 101, 115])) (s_in (A 8) (A 27 (n).toNat))
    have hpg3 : pg = -1 ∨ pg ∈ s_in (A 8) (A 27 (n).toNat) := by rw [hpg]; exact hpg2
    have hpg4 : pg < 12900 := by rcases hpg3 with e | e; omega; exact (wv_wl ((hroot (by omega)).2 pg e).1).2.1
    refine x_iconst (x_d C_PW_through 43 rfl) ⟨by omega, by omega⟩ ?_
    refine x_invokevirtual (st := []) (av := [xI (pg), xI (1)]) (x_d C_PW_through 44 rfl) k_PW_57 m_PW_visit v_PW_visit cl_PW rfl rfl (Nat.le_of_ble_eq_true rfl) (by omega) rfl (c_PW_visit Z q r A dy hz hT hR hsp hus 8 (by omega) (d - 1) sn nu 0 [] pg 1 (by omega) (by omega) (by omega) hpw) ?_
    rintro v_ _ ⟨sn2, nu2, fd2, rfl, hr_⟩
    obtain ⟨z2, rfl, hz2⟩ : ∃ z : Int, v_ = some (xI z) ∧ ((z = 1 ∧ ∃ L2, s_vis (A 5) (A 6) (A 7) (A 8) (A 9) (A 2) (A 27) (A 28) (A 29) (q 35) (q 837) 8 pg sn [] = some (sn2, L2) ∧ pw sn2 nu2 fd2 L2) ∨ (z = 0 ∧ s_vis (A 5) (A 6) (A 7) (A 8) (A 9) (A 2) (A 27) (A 28) (A 29) (q 35) (q 837) 8 pg sn [] = none)) := by
      rcases hr_ with ⟨h1_, h2_⟩ | ⟨h1_, h2_⟩
      · exact ⟨1, h1_, Or.inl ⟨rfl, h2_⟩⟩
      · exact ⟨0, h1_, Or.inr ⟨rfl, h2_⟩⟩
    clear hr_
    refine x_if_eq (tgt := 94) (x_d C_PW_through 45 rfl) rfl (fun c3 => ?_) (fun c3 => ?_)
    · refine x_iconst (x_d C_PW_through 48 rfl) ⟨by omega, by omega⟩ ?_
      refine x_ireturn (x_d C_PW_through 49 rfl) ?_
      have hp0 : s_pgs (A 5) (A 6) (A 7) (A 8) (A 9) (A 2) (A 27) (A 28) (A 29) (q 35) (q 837) (q 840) = if n < 0 ∨ ¬ A 5 (A 27 n.toNat).toNat = 7 then none else (s_vis (A 5) (A 6) (A 7) (A 8) (A 9) (A 2) (A 27) (A 28) (A 29) (q 35) (q 837) 8 (s_nam (A 8) (A 9) (A 2) (q 35) (A 27 n.toNat) [80, 97, 103, 101, 115]) (fun _ => 0) []).map Prod.snd := by rw [hn, hrt]; rfl
      rw [if_neg (by omega), ← hpg, s_ag_map (s_vis_ag _ _ _ _ _ _ _ _ _ _ _ hz.2 8 pg (fun _ => 0) sn [] (fun k hk => (hsn0 k hk).symm))] at hp0
      refine ⟨sn2, nu2, fd2, rfl, ?_⟩
      rw [hp0]
      rcases hz2 with ⟨h1, L2, h2, h3⟩ | ⟨h1, h2⟩
      · first | omega | (rw [h2]; exact Or.inl ⟨rfl, L2, rfl, h3.1, pw_300 h3, h3.2.1⟩)
      · first | omega | (rw [h2]; exact Or.inr ⟨rfl, rfl⟩)
    · refine x_iconst (x_d C_PW_through 46 rfl) ⟨by omega, by omega⟩ ?_
      refine x_goto (tgt := 95) (x_d C_PW_through 47 rfl) rfl ?_
      refine x_ireturn (x_d C_PW_through 49 rfl) ?_
      have hp0 : s_pgs (A 5) (A 6) (A 7) (A 8) (A 9) (A 2) (A 27) (A 28) (A 29) (q 35) (q 837) (q 840) = if n < 0 ∨ ¬ A 5 (A 27 n.toNat).toNat = 7 then none else (s_vis (A 5) (A 6) (A 7) (A 8) (A 9) (A 2) (A 27) (A 28) (A 29) (q 35) (q 837) 8 (s_nam (A 8) (A 9) (A 2) (q 35) (A 27 n.toNat) [80, 97, 103, 101, 115]) (fun _ => 0) []).map Prod.snd := by rw [hn, hrt]; rfl
      rw [if_neg (by omega), ← hpg, s_ag_map (s_vis_ag _ _ _ _ _ _ _ _ _ _ _ hz.2 8 pg (fun _ => 0) sn [] (fun k hk => (hsn0 k hk).symm))] at hp0
      refine ⟨sn2, nu2, fd2, rfl, ?_⟩
      rw [hp0]
      rcases hz2 with ⟨h1, L2, h2, h3⟩ | ⟨h1, h2⟩
      · first | omega | (rw [h2]; exact Or.inl ⟨rfl, L2, rfl, h3.1, pw_300 h3, h3.2.1⟩)
      · first | omega | (rw [h2]; exact Or.inr ⟨rfl, rfl⟩)
theorem w_PW_through_12 (Z : xZ) (d : Nat) (q : Nat → Int) (r : Nat → Option Nat) (A : Nat → Nat → Int) (dy : xH) (sf nu : Nat → Int) (Q : Option xV → xH → Prop) (kk : xW Z d Y_PW_through 32 [(0, xC 23), (1, xC 26), (2, xI 300)] [] (hF (x_up q 737 0) (x_up r 740 (some 26)) (x_up (x_up A 24 nu) 25 (s_zr sf 300)) ++ dy) Q) : ∀ (m : Nat) (t : Int), (0 ≤ t ∧ t + m = 300) → xW Z d Y_PW_through 12 [(0, xC 23), (1, xC 26), (2, xI t)] [] (hF (x_up q 737 0) (x_up r 740 (some 26)) (x_up (x_up A 24 nu) 25 (s_zr sf t)) ++ dy) Q := by
  intro m
  induction m with
  | zero =>
    intro t ht
    obtain rfl : t = 300 := by omega
    refine x_iload_n (x_d C_PW_through 8 rfl) rfl ?_
    refine x_sipush (x_d C_PW_through 9 rfl) (by omega) ?_
    refine x_icmp_ge (tgt := 32) (x_d C_PW_through 10 rfl) rfl (fun _ => ?_) (fun q => absurd q (by omega))
    exact kk
  | succ m ih =>
    intro t ht
    refine x_iload_n (x_d C_PW_through 8 rfl) rfl ?_
    refine x_sipush (x_d C_PW_through 9 rfl) (by omega) ?_
    refine x_icmp_ge (tgt := 32) (x_d C_PW_through 10 rfl) rfl (fun q => absurd q (by omega)) (fun _ => ?_)
    refine x_aload_n (x_d C_PW_through 11 rfl) rfl ?_
    refine x_getfield (v := xC 25) (x_d C_PW_through 12 rfl) f_PW_15 rfl rfl ?_
    refine x_iload_n (x_d C_PW_through 13 rfl) rfl ?_
    refine x_iconst (x_d C_PW_through 14 rfl) ⟨by omega, by omega⟩ ?_
    refine x_zastore (h1 := hF (x_up q 737 0) (x_up r 740 (some 26)) (x_up (x_up A 24 nu) 25 (x_up (s_zr sf t) (t).toNat 0)) ++ dy) (x_d C_PW_through 15 rfl) rfl (by omega) (by omega) (Or.inl rfl) rfl ?_
    refine x_iinc (l1 := [(2, xI (t + 1)), (0, xC 23), (1, xC 26)]) (x_d C_PW_through 16 rfl) rfl ⟨by omega, by omega⟩ (by decide) rfl ?_
    refine x_goto (tgt := 12) (x_d C_PW_through 17 rfl) rfl ?_
    refine x_locs [1, 2, 0] rfl ?_
    rw [s_zr_s sf ht.1]
    exact ih (t + 1) (by omega)
theorem c_PW_through (Z : xZ) (d : Nat) (q : Nat → Int) (r : Nat → Option Nat) (A : Nat → Nat → Int) (dy : xH) (hd : 26 ≤ d) (hz : 0 ≤ q 837 ∧ q 837 ≤ 300) (hT : 0 ≤ q 34 ∧ q 34 ≤ q 35 ∧ q 35 ≤ 10248) (hR : s_okR A) (hsp : ∀ j, 0 ≤ A 8 j ∧ A 8 j ≤ 12900) (hus : ∀ k : Nat, (k : Int) < q 837 → ¬ A 29 k = 0 → wv (A 5) (A 6) (A 7) (A 8) (A 9) (A 2) (q 35) 8 (A 27 k)) (htw : wv (A 5) (A 6) (A 7) (A 8) (A 9) (A 2) (q 35) 8 (q 840)) : xMet Z d Y_PW_through [xC 23, xC 26] (hF q r A ++ dy) (fun v0 h2 => ∃ sn2 nu2 fd2, h2 = hF (x_up q 737 fd2) (x_up r 740 (some 26)) (x_up (x_up A 24 nu2) 25 sn2) ++ dy ∧ ((v0 = some (xI 1) ∧ ∃ L2, s_pgs (A 5) (A 6) (A 7) (A 8) (A 9) (A 2) (A 27) (A 28) (A 29) (q 35) (q 837) (q 840) = some L2 ∧ fd2 = L2.length ∧ fd2 ≤ 300 ∧ ∀ k, k < L2.length → nu2 k = L2.getD k 0) ∨ (v0 = some (xI 0) ∧ s_pgs (A 5) (A 6) (A 7) (A 8) (A 9) (A 2) (A 27) (A 28) (A 29) (q 35) (q 837) (q 840) = none))) := by
  refine xMet_of (by decide) (Nat.le_of_ble_eq_true rfl) (fun v0 h2 hq => by obtain ⟨_, _, _, _, ⟨e, _⟩ | ⟨e, _⟩⟩ := hq <;> rw [e]; exact Or.inr rfl; exact Or.inl rfl) ?_
  refine xW_ok (fun _ _ hok => ?_)
  have hz25 : ∀ k, A 25 k = 0 ∨ A 25 k = 1 := fun k => hF_z hok 25 300 rfl k
  refine x_aload_n (x_d C_PW_through 0 rfl) rfl ?_
  refine x_aload_n (x_d C_PW_through 1 rfl) rfl ?_
  refine x_putfield (h1 := hF q (x_up r 740 (some 26)) A ++ dy) (x_d C_PW_through 2 rfl) p_PW_23 rfl rfl rfl trivial rfl ?_
  refine x_aload_n (x_d C_PW_through 3 rfl) rfl ?_
  refine x_iconst (x_d C_PW_through 4 rfl) ⟨by omega, by omega⟩ ?_
  refine x_putfield (h1 := hF (x_up q 737 0) (x_up r 740 (some 26)) A ++ dy) (x_d C_PW_through 5 rfl) p_PW_27 rfl rfl rfl trivial rfl ?_
  refine x_iconst (x_d C_PW_through 6 rfl) ⟨by omega, by omega⟩ ?_
  refine x_istore_n (l1 := [(2, xI (0)), (0, xC 23), (1, xC 26)]) (x_d C_PW_through 7 rfl) (by decide) rfl ?_
  refine x_locs [1, 2, 0] rfl ?_
  have hsn0 : ∀ k, k < 300 → s_zr (A 25) 300 k = 0 := fun k hk => by unfold s_zr; rw [if_pos (by omega)]
  have hpw : pw (s_zr (A 25) 300) (A 24) 0 [] := ⟨rfl, fun k hk => absurd hk (Nat.not_lt_zero _), (s_sm_in (f := s_zr (A 25) 300) (m := 1) (fun k => by unfold s_zr; split; omega; have := hz25 k; omega) 300).1, fun k => by unfold s_zr; split; exact Or.inl rfl; exact hz25 k⟩
  have := w_PW_through_12 Z d q r A dy (A 25) (A 24) _ (w_PW_through_32 Z d q r A dy hd hz hT hR hsp hus htw (s_zr (A 25) 300) (A 24) hsn0 hpw) 300 0 (by omega)
  rw [s_zr_0] at this
  exact this
