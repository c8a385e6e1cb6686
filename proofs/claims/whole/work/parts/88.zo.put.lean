/-! the reference: put -/
theorem s_val_len {b : Nat → Int} (hB : ∀ j, -128 ≤ b j ∧ b j ≤ 127) {n i j : Int} {D : Nat} {ts : List tk} (h : s_val b n D i = some (ts, j)) : s_bh (lsp ts) 0 = ts.length ∧ 1 ≤ ts.length ∧ (ts.length : Int) ≤ j - i ∧ 0 ≤ i ∧ i < j ∧ j ≤ n := by
  obtain ⟨h1, h2, h3, h4, h5, -⟩ := s_val_ok b hB n D i ts j h
  refine ⟨?_, h4.1, h4.2, h1, h2, h3⟩
  cases ts with
  | nil => exact absurd h4.1 (by decide)
  | cons y l =>
    have h6 := (h5 y rfl).1
    have h7 : lsp (y :: l) 0 = y.2.2.2.1 := rfl
    have h8 := h4.1
    unfold s_bh
    rw [show (0 : Int).toNat = 0 from rfl, h7, h6]
    omega
/-- what put finds in the text: a fault, or the value's parts -/
noncomputable def s_put (X : Nat → Int) (T f m : Int) : Int ⊕ List tk := match s_val X T 8 (s_sc s_white X T f) with
  | none => .inl (-4)
  | some y => if ¬ s_sc s_white X T y.2 = T then .inl (-4) else if 900 < m + y.1.length then .inl (-3) else .inr y.1
def puq (q : Nat → Int) (r : Nat → Option Nat) (A : Nat → Nat → Int) (dy : xH) (po : Option Nat) (cp : Nat) (bt : Option Nat) (tb lt : Int) (tr : Option Nat) (sz : Int) (fis fge fpl : Nat → Int) (fva : Nat → Option Nat) (fch : Nat → Int) (X : Nat → Int) (g : Nat → Option xE) (f n : Int) (R : Int ⊕ List tk) : Option xV → xH → Prop := fun v h2 => ∃ j2 tk2 dy2, (0 ≤ j2 ∧ j2 ≤ 4000) ∧ (∀ u w, mu u w dy2 ≤ mu u w dy + k_val u w X (f + q 1349) 8 (s_sc s_white X (f + q 1349) f)) ∧ ((∃ a, R = .inl a ∧ v = some (xI a) ∧ h2 = hF (x_up (x_up (x_up q 1349 0) 1345 (q 1349)) 1346 j2) (x_up (x_up (x_up r 1350 (some cp)) 1351 po) 1344 (some 44)) (x_up A 43 tk2) ++ dy2 ∧ gok g dy2 ∧ PB dy2 cp bt tb lt tr sz fis fge fpl fva fch) ∨ ∃ ts c g2, R = .inr ts ∧ v = some (xI (max sz (n + 1))) ∧ h2 = hF (x_up (x_up (x_up q 1349 0) 1345 (q 1349)) 1346 j2) (x_up (x_up (x_up r 1350 (some cp)) 1351 none) 1344 (some 44)) (x_up A 43 tk2) ++ dy2 ∧ gle g g2 ∧ gok g2 dy2 ∧ gnp g2 cp ∧ PB dy2 cp bt tb lt tr (max sz (n + 1)) (x_up fis n.toNat 2) fge fpl (x_up fva n.toNat (some c)) (x_up fch n.toNat 1) ∧ Tr X (f + q 1349) g2 (lP ts) 9 0 c)
theorem c_M_put0 (Z : xZ) (d : Nat) (q : Nat → Int) (r : Nat → Option Nat) (A : Nat → Nat → Int) (dy : xH) (hd : 40 ≤ d) (po : Option Nat) (X : Nat → Int) (E : Int) (g : Nat → Option xE) (P : Nat → Nat → Int) (hgk : gok g dy) (cp : Nat) (bt : Option Nat) (tb lt : Int) (tr : Option Nat) (sz : Int) (fis fge fpl : Nat → Int) (fva : Nat → Option Nat) (fch : Nat → Int) (hp : PB dy cp bt tb lt tr sz fis fge fpl fva fch) (hsz : 0 ≤ sz ∧ sz ≤ 300) (hnp : gnp g cp) (rt us : Nat → Int) (hus : ∀ k : Nat, (k : Int) < sz → (fis k = 2 ↔ ¬ us k = 0)) (hva : ∀ k : Nat, (k : Int) < sz → ¬ us k = 0 → ∃ c2, fva k = some c2 ∧ Tr X E g P 9 (rt k) c2 ∧ s_bh (P 8) (rt k) ≤ 12900 ∧ 1 ≤ P 8 (rt k).toNat) (n : Int) (hpm : 0 ≤ s_sm (s_pbf us rt (P 8) n) sz.toNat ∧ s_sm (s_pbf us rt (P 8) n) sz.toNat ≤ 900) (f : Int) (hf : 0 ≤ f) (hn : 0 ≤ q 1349 ∧ q 1349 ≤ 4000) (hX : ∀ k : Nat, (k : Int) < q 1349 → A 44 k = X (f.toNat + k)) (hB : ∀ k, -128 ≤ X k ∧ X k ≤ 127) (hEf : E ≤ f + q 1349) (tk0 : Nat → Int) : xMet Z d Y_M_put [xC 42, xI n] (hF q (x_up (x_up r 1350 (some cp)) 1351 po) (x_up A 43 tk0) ++ dy) (puq q r A dy po cp bt tb lt tr sz fis fge fpl fva fch X g f n (if 0 ≤ n ∧ n ≤ sz ∧ n < 300 then s_put X (f + q 1349) f (s_sm (s_pbf us rt (P 8) n) sz.toNat) else .inl (-1))) := by
  refine xMet_of (by decide) (Nat.le_of_ble_eq_true rfl) (fun v h2 hq => by obtain ⟨_, _, _, _, _, ⟨_, _, e, _⟩ | ⟨_, _, _, _, e, _⟩⟩ := hq <;> rw [e] <;> trivial) ?_
  have hT : s_sc s_white X (f + q 1349) f = s_sc s_white X (f + q 1349) (f + 0) := by rw [Int.add_zero]
  have hO := OD_all Z (x_up (x_up q 1349 0) 1345 (q 1349)) (x_up (x_up r 1350 (some cp)) 1351 po) A X f hf (show 0 ≤ q 1349 ∧ q 1349 ≤ 4000 from hn) hX hB 8 (by omega)
  refine x_aload_n (x_d C_M_put 0 rfl) rfl ?_
  refine x_aload_n (x_d C_M_put 1 rfl) rfl ?_
  refine x_getfield (v := xC 44) (x_d C_M_put 2 rfl) f_M_167 rfl rfl ?_
  refine x_putfield (h1 := hF q (x_up (x_up (x_up r 1350 (some cp)) 1351 po) 1344 (some 44)) (x_up A 43 tk0) ++ dy) (x_d C_M_put 3 rfl) p_M_14 rfl rfl rfl trivial rfl ?_
  refine x_aload_n (x_d C_M_put 4 rfl) rfl ?_
  refine x_aload_n (x_d C_M_put 5 rfl) rfl ?_
  refine x_invokevirtual (st := [xC 42]) (av := []) (x_d C_M_put 6 rfl) k_M_199 m_M_used v_M_used cl_M rfl rfl (Nat.le_of_ble_eq_true rfl) (by omega) rfl (c_M_used Z (d - 1) q (x_up (x_up (x_up r 1350 (some cp)) 1351 po) 1344 (some 44)) (x_up A 43 tk0) dy) ?_
  rintro v_ _ ⟨hv_, rfl⟩
  obtain rfl : v_ = some (xI (q 1349)) := hv_
  refine x_putfield (h1 := hF (x_up (x_up q 1349 0) 1345 (q 1349)) (x_up (x_up (x_up r 1350 (some cp)) 1351 po) 1344 (some 44)) (x_up A 43 tk0) ++ dy) (x_d C_M_put 7 rfl) p_M_11 rfl rfl rfl trivial rfl ?_
  refine x_aload_n (x_d C_M_put 8 rfl) rfl ?_
  refine x_iconst (x_d C_M_put 9 rfl) ⟨by omega, by omega⟩ ?_
  refine x_putfield (h1 := hF (x_up (x_up (x_up q 1349 0) 1345 (q 1349)) 1346 0) (x_up (x_up (x_up r 1350 (some cp)) 1351 po) 1344 (some 44)) (x_up A 43 tk0) ++ dy) (x_d C_M_put 10 rfl) p_M_7 rfl rfl rfl trivial rfl ?_
  refine x_aload_n (x_d C_M_put 11 rfl) rfl ?_
  refine x_getfield (v := xC cp) (x_d C_M_put 12 rfl) f_M_207 rfl rfl ?_
  refine x_ifnonnullC (tgt := 31) (x_d C_M_put 13 rfl) rfl ?_
  refine x_aload_n (x_d C_M_put 16 rfl) rfl ?_
  refine x_iload_n (x_d C_M_put 17 rfl) rfl ?_
  refine x_invokevirtual (st := []) (av := [xI (n)]) (x_d C_M_put 18 rfl) k_M_374 m_M_mayPut v_M_mayPut cl_M rfl rfl (Nat.le_of_ble_eq_true rfl) (by omega) rfl (c_M_mayPut Z (d - 1) (x_up (x_up (x_up q 1349 0) 1345 (q 1349)) 1346 0) (x_up r 1344 (some 44)) (x_up A 43 tk0) dy (by omega) po cp bt tb lt tr sz fis fge fpl fva fch hp hsz n) ?_
  rintro v_ _ ⟨z_, rfl, rfl, hz_⟩
  rcases hz_ with ⟨rfl, hmay⟩ | ⟨rfl, hmay⟩
  · rw [if_pos hmay]
    refine x_if_ne (tgt := 41) (x_d C_M_put 19 rfl) rfl (fun _ => ?_) (fun q => absurd q (by omega))
    refine x_aload_n (x_d C_M_put 22 rfl) rfl ?_
    refine x_iconst (x_d C_M_put 23 rfl) ⟨by omega, by omega⟩ ?_
    refine x_invokevirtual (st := []) (av := [xI (0)]) (x_d C_M_put 24 rfl) k_M_148 m_M_object v_M_object cl_M rfl rfl (Nat.le_of_ble_eq_true rfl) (by omega) rfl (hO (d - 1) dy g 0 tk0 0 (by omega) hgk (by omega) (by show (0 : Int) ≤ 0 ∧ (0 : Int) ≤ q 1349; omega)) ?_
    intro v_ h_ hor_
    have hor : orq (x_up (x_up q 1349 0) 1345 (q 1349)) (x_up (x_up r 1350 (some cp)) 1351 po) A dy X f g (fun u w => k_val u w X (f + q 1349) 8 (s_sc s_white X (f + q 1349) f)) 9 (s_val X (f + q 1349) 8 (s_sc s_white X (f + q 1349) f)) v_ h_ := by rw [hT]; exact hor_
    clear hor_
    obtain ⟨j2, tk2, ny, rfl, hj2, hmu, ⟨hs, rfl⟩ | ⟨ts, e, c, g2, hs, rfl, hje, q1, q2, q3, q4, q5, q6⟩⟩ := hor
    · have hj2 : 0 ≤ j2 ∧ j2 ≤ q 1349 := hj2
      refine x_astore_n (l1 := [(2, xN), (0, xC 42), (1, xI (n))]) (x_d C_M_put 25 rfl) (by decide) rfl ?_
      refine x_aload_n (x_d C_M_put 26 rfl) rfl ?_
      refine x_invokevirtual (st := []) (av := []) (x_d C_M_put 27 rfl) k_M_59 m_M_white v_M_white cl_M rfl rfl (Nat.le_of_ble_eq_true rfl) (by omega) rfl (c_M_white Z (d - 1) (x_up (x_up q 1349 0) 1345 (q 1349)) (x_up (x_up r 1350 (some cp)) 1351 po) (x_up A 43 tk2) (dy ++ ny) (by omega) X f j2 hf (show 0 ≤ q 1349 ∧ q 1349 ≤ 4000 from hn) hX hj2) ?_
      rintro _ h_ ⟨rfl, hh_⟩
      obtain ⟨j3, hj3⟩ : ∃ j3, j3 = s_sc s_white X (f + q 1349) (f + j2) - f := ⟨_, rfl⟩
      obtain rfl : h_ = hF (x_up (x_up (x_up q 1349 0) 1345 (q 1349)) 1346 j3) (x_up (x_up (x_up r 1350 (some cp)) 1351 po) 1344 (some 44)) (x_up A 43 tk2) ++ (dy ++ ny) := by rw [hj3]; exact hh_
      have hsc := s_sc_le s_white X (n := f + q 1349) (t := f + j2) (by omega)
      have hsd := s_sc_ge s_white X (f + q 1349) (f + j2)
      refine x_aload_n (x_d C_M_put 28 rfl) rfl ?_
      refine x_ifnullN (tgt := 66) (x_d C_M_put 29 rfl) rfl ?_
      refine x_bipush (x_d C_M_put 35 rfl) (by omega) ?_
      refine x_ireturn (x_d C_M_put 36 rfl) ?_
      have hmu2 : ∀ u w, mu u w (dy ++ ny) ≤ mu u w dy + k_val u w X (f + q 1349) 8 (s_sc s_white X (f + q 1349) f) := fun u w => by rw [mu_app]; have hm9 : mu u w ny ≤ k_val u w X (f + q 1349) 8 (s_sc s_white X (f + q 1349) f) := hmu u w; omega
      exact ⟨j3, tk2, dy ++ ny, by omega, hmu2, Or.inl ⟨-4, by unfold s_put; rw [hs], rfl, rfl, gok_app hgk ny, PB_app hp ny⟩⟩
    · have hj2 : 0 ≤ j2 ∧ j2 ≤ q 1349 := hj2
      have hvl := s_val_len hB hs
      have hge := s_sc_ge s_white X (f + q 1349) f
      have hje2 : f + j2 = e := by omega
      refine x_astore_n (l1 := [(2, xC c), (0, xC 42), (1, xI (n))]) (x_d C_M_put 25 rfl) (by decide) rfl ?_
      refine x_aload_n (x_d C_M_put 26 rfl) rfl ?_
      refine x_invokevirtual (st := []) (av := []) (x_d C_M_put 27 rfl) k_M_59 m_M_white v_M_white cl_M rfl rfl (Nat.le_of_ble_eq_true rfl) (by omega) rfl (c_M_white Z (d - 1) (x_up (x_up q 1349 0) 1345 (q 1349)) (x_up (x_up r 1350 (some cp)) 1351 po) (x_up A 43 tk2) (dy ++ ny) (by omega) X f j2 hf (show 0 ≤ q 1349 ∧ q 1349 ≤ 4000 from hn) hX hj2) ?_
      rintro _ h_ ⟨rfl, hh_⟩
      obtain ⟨j3, hj3⟩ : ∃ j3, j3 = s_sc s_white X (f + q 1349) (f + j2) - f := ⟨_, rfl⟩
      obtain rfl : h_ = hF (x_up (x_up (x_up q 1349 0) 1345 (q 1349)) 1346 j3) (x_up (x_up (x_up r 1350 (some cp)) 1351 po) 1344 (some 44)) (x_up A 43 tk2) ++ (dy ++ ny) := by rw [hj3]; exact hh_
      have hsc := s_sc_le s_white X (n := f + q 1349) (t := f + j2) (by omega)
      have hsd := s_sc_ge s_white X (f + q 1349) (f + j2)
      refine x_aload_n (x_d C_M_put 28 rfl) rfl ?_
      refine x_ifnullC (tgt := 66) (x_d C_M_put 29 rfl) rfl ?_
      refine x_aload_n (x_d C_M_put 30 rfl) rfl ?_
      refine x_getfield (v := xI (j3)) (x_d C_M_put 31 rfl) f_M_7 rfl rfl ?_
      refine x_aload_n (x_d C_M_put 32 rfl) rfl ?_
      refine x_getfield (v := xI (q 1349)) (x_d C_M_put 33 rfl) f_M_11 rfl rfl ?_
      refine x_icmp_ge (tgt := 69) (x_d C_M_put 34 rfl) rfl (fun c5 => ?_) (fun c5 => ?_)
      · obtain ⟨_, fcc, hcc⟩ := Tr_c q4
        refine x_aload_n (x_d C_M_put 37 rfl) rfl ?_
        refine x_iload_n (x_d C_M_put 38 rfl) rfl ?_
        refine x_invokevirtual (st := []) (av := [xI (n)]) (x_d C_M_put 39 rfl) k_M_377 m_M_partsBut v_M_partsBut cl_M rfl rfl (Nat.le_of_ble_eq_true rfl) (by omega) rfl (c_M_partsBut2 Z (d - 1) (x_up (x_up (x_up q 1349 0) 1345 (q 1349)) 1346 j3) (x_up r 1344 (some 44)) (x_up A 43 tk2) (dy ++ ny) (by omega) po cp bt tb lt tr sz fis fge fpl fva fch (PB_app hp ny) hsz X E g P (gok_app hgk ny) rt us n hus hva) ?_
        rintro v_ _ ⟨hv_, rfl⟩
        obtain rfl : v_ = some (xI (s_sm (s_pbf us rt (P 8) n) sz.toNat)) := hv_
        refine x_aload_n (x_d C_M_put 40 rfl) rfl ?_
        refine x_invokevirtual (st := [xI (s_sm (s_pbf us rt (P 8) n) sz.toNat)]) (av := []) (x_d C_M_put 41 rfl) k_M_288 m_MQ_parts v_MQ_parts cl_MQ (ct_get (q2 _ _ hcc) _ _ _) rfl (Nat.le_of_ble_eq_true rfl) (by omega) rfl (t_parts Z (hF (x_up (x_up (x_up q 1349 0) 1345 (q 1349)) 1346 j3) (x_up (x_up (x_up r 1350 (some cp)) 1351 po) 1344 (some 44)) (x_up A 43 tk2) ++ (dy ++ ny)) X (f + q 1349) g2 (lP ts) (gh_of q2 _ _ _) 9 (d - 1) 0 c (by omega) q4 (by show s_bh (lsp ts) 0 ≤ 12900; rw [hvl.1]; omega)) ?_
        rintro v_ h_ ⟨hv_, hh_⟩
        rw [hh_]
        clear hh_
        obtain rfl : v_ = some (xI (ts.length : Int)) := by rw [hv_]; show some (xI (s_bh (lsp ts) 0 - 0)) = _; rw [hvl.1, Int.sub_zero]
        refine x_iadd (x_d C_M_put 42 rfl) ⟨by omega, by omega⟩ ?_
        refine x_sipush (x_d C_M_put 43 rfl) (by omega) ?_
        refine x_icmp_le (tgt := 90) (x_d C_M_put 44 rfl) rfl (fun c6 => ?_) (fun c6 => ?_)
        · refine x_aload_n (x_d C_M_put 47 rfl) rfl ?_
          refine x_iload_n (x_d C_M_put 48 rfl) rfl ?_
          refine x_aload_n (x_d C_M_put 49 rfl) rfl ?_
          refine x_invokevirtual (st := []) (av := [xI (n), xC c]) (x_d C_M_put 50 rfl) k_M_380 m_M_change v_M_change cl_M rfl rfl (Nat.le_of_ble_eq_true rfl) (by omega) rfl (c_M_change Z (d - 1) (x_up (x_up (x_up q 1349 0) 1345 (q 1349)) 1346 j3) (x_up r 1344 (some 44)) (x_up A 43 tk2) (dy ++ ny) (by omega) po g2 cp bt tb lt tr sz fis fge fpl fva fch (PB_app hp ny) hsz (gnp_gnw q3 hp hnp) q2 n (by omega) c _ hcc) ?_
          rintro v_ _ ⟨hv_, dy2, rfl, hp2, hps2⟩
          obtain rfl : v_ = some (xI (max sz (n + 1))) := hv_
          refine x_ireturn (x_d C_M_put 51 rfl) ?_
          have hmu2 : ∀ u w, mu u w (dy ++ ny) ≤ mu u w dy + k_val u w X (f + q 1349) 8 (s_sc s_white X (f + q 1349) f) := fun u w => by rw [mu_app]; have hm9 : mu u w ny ≤ k_val u w X (f + q 1349) 8 (s_sc s_white X (f + q 1349) f) := hmu u w; omega
          have hsp : s_put X (f + q 1349) f (s_sm (s_pbf us rt (P 8) n) sz.toNat) = if ¬ s_sc s_white X (f + q 1349) e = f + q 1349 then .inl (-4) else if 900 < s_sm (s_pbf us rt (P 8) n) sz.toNat + ts.length then .inl (-3) else .inr ts := by unfold s_put; rw [hs]
          rw [hje2] at hj3 hsc hsd
          exact ⟨j3, tk2, dy2, by omega, fun u w => by rw [hps2.2.1]; exact hmu2 u w, Or.inr ⟨ts, c, g2, by rw [hsp, if_neg (by omega), if_neg (by omega)], rfl, rfl, q1, hps2.1, gnp_gnw q3 hp hnp, hp2, q4⟩⟩
        · refine x_bipush (x_d C_M_put 45 rfl) (by omega) ?_
          refine x_goto (tgt := 96) (x_d C_M_put 46 rfl) rfl ?_
          refine x_ireturn (x_d C_M_put 51 rfl) ?_
          have hmu2 : ∀ u w, mu u w (dy ++ ny) ≤ mu u w dy + k_val u w X (f + q 1349) 8 (s_sc s_white X (f + q 1349) f) := fun u w => by rw [mu_app]; have hm9 : mu u w ny ≤ k_val u w X (f + q 1349) 8 (s_sc s_white X (f + q 1349) f) := hmu u w; omega
          have hsp : s_put X (f + q 1349) f (s_sm (s_pbf us rt (P 8) n) sz.toNat) = if ¬ s_sc s_white X (f + q 1349) e = f + q 1349 then .inl (-4) else if 900 < s_sm (s_pbf us rt (P 8) n) sz.toNat + ts.length then .inl (-3) else .inr ts := by unfold s_put; rw [hs]
          rw [hje2] at hj3 hsc hsd
          exact ⟨j3, tk2, dy ++ ny, by omega, hmu2, Or.inl ⟨-3, by rw [hsp, if_neg (by omega), if_pos (by omega)], rfl, rfl, gok_app hgk ny, PB_app hp ny⟩⟩
      · refine x_bipush (x_d C_M_put 35 rfl) (by omega) ?_
        refine x_ireturn (x_d C_M_put 36 rfl) ?_
        have hmu2 : ∀ u w, mu u w (dy ++ ny) ≤ mu u w dy + k_val u w X (f + q 1349) 8 (s_sc s_white X (f + q 1349) f) := fun u w => by rw [mu_app]; have hm9 : mu u w ny ≤ k_val u w X (f + q 1349) 8 (s_sc s_white X (f + q 1349) f) := hmu u w; omega
        have hsp : s_put X (f + q 1349) f (s_sm (s_pbf us rt (P 8) n) sz.toNat) = if ¬ s_sc s_white X (f + q 1349) e = f + q 1349 then .inl (-4) else if 900 < s_sm (s_pbf us rt (P 8) n) sz.toNat + ts.length then .inl (-3) else .inr ts := by unfold s_put; rw [hs]
        rw [hje2] at hj3 hsc hsd
        exact ⟨j3, tk2, dy ++ ny, by omega, hmu2, Or.inl ⟨-4, by rw [hsp, if_pos (by omega)], rfl, rfl, gok_app hgk ny, PB_app hp ny⟩⟩
  · rw [if_neg hmay]
    refine x_if_ne (tgt := 41) (x_d C_M_put 19 rfl) rfl (fun q => absurd q (by omega)) (fun _ => ?_)
    refine x_iconst (x_d C_M_put 20 rfl) ⟨by omega, by omega⟩ ?_
    refine x_ireturn (x_d C_M_put 21 rfl) ?_
    exact ⟨0, tk0, dy, by omega, fun u w => by omega, Or.inl ⟨-1, rfl, rfl, rfl, hgk, hp⟩⟩
