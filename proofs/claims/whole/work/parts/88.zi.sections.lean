/-! the reference: sections that are written -/
theorem s_numk {v dg : Int} (h : 0 ≤ v) (hd : s_nd 10 v ≤ dg) : ((if v < 0 then [45] else []) ++ s_dg (max dg (s_nd 10 (if v < 0 then -v else v))).toNat (if v < 0 then -v else v)) = s_dg dg.toNat v := by
  rw [if_neg (by omega), if_neg (by omega), show max dg (s_nd 10 v) = dg by omega, List.nil_append]
theorem s_nd10 {v : Int} (h : 0 ≤ v ∧ v ≤ 2147483647) : s_nd 10 v ≤ 10 := by
  have e : (10 : Int) ^ (9 + 1) = 10000000000 := by decide
  have := s_nd_le 9 10 v h.1 (by omega)
  omega
theorem s_nd5 {v : Int} (h : 0 ≤ v ∧ v ≤ 99999) : s_nd 10 v ≤ 5 := by
  have e : (10 : Int) ^ (4 + 1) = 100000 := by decide
  have := s_nd_le 4 10 v h.1 (by omega)
  omega
theorem c_M_number_10 (Z : xZ) (d : Nat) (q : Nat → Int) (r : Nat → Option Nat) (A : Nat → Nat → Int) (dy : xH) (hd : 2 ≤ d) (s ov : Int) (f : Nat → Int) (bs : List Int) (v : Int) (hv : 0 ≤ v ∧ v ≤ 2147483647) (hp : pb 6000 s ov f bs) : xMet Z d Y_M_number [xC 42, xI v, xI 10] (hF (x_up (x_up q 1359 s) 1360 ov) r (x_up A 48 f) ++ dy) (fun v0 h2 => v0 = none ∧ ∃ s2 ov2 f2, h2 = hF (x_up (x_up q 1359 s2) 1360 ov2) r (x_up A 48 f2) ++ dy ∧ pb 6000 s2 ov2 f2 (bs ++ s_dg 10 v)) := by
  have h := c_M_number Z d q r A dy hd s ov f bs v 10 (by omega) (by omega) hp
  rw [s_numk hv.1 (s_nd10 hv)] at h
  exact h
theorem c_M_number_5 (Z : xZ) (d : Nat) (q : Nat → Int) (r : Nat → Option Nat) (A : Nat → Nat → Int) (dy : xH) (hd : 2 ≤ d) (s ov : Int) (f : Nat → Int) (bs : List Int) (v : Int) (hv : 0 ≤ v ∧ v ≤ 99999) (hp : pb 6000 s ov f bs) : xMet Z d Y_M_number [xC 42, xI v, xI 5] (hF (x_up (x_up q 1359 s) 1360 ov) r (x_up A 48 f) ++ dy) (fun v0 h2 => v0 = none ∧ ∃ s2 ov2 f2, h2 = hF (x_up (x_up q 1359 s2) 1360 ov2) r (x_up A 48 f2) ++ dy ∧ pb 6000 s2 ov2 f2 (bs ++ s_dg 5 v)) := by
  have h := c_M_number Z d q r A dy hd s ov f bs v 5 (by omega) (by omega) hp
  rw [s_numk hv.1 (s_nd5 hv)] at h
  exact h
theorem w_M_append_193 (Z : xZ) (d : Nat) (q : Nat → Int) (r : Nat → Option Nat) (A : Nat → Nat → Int) (dy : xH) (hd : 9 ≤ d) (po : Option Nat) (cp : Nat) (bt : Option Nat) (tb lt : Int) (tr : Option Nat) (sz : Int) (fis fge fpl : Nat → Int) (fva : Nat → Option Nat) (fch : Nat → Int) (hp : PB dy cp bt tb lt tr sz fis fge fpl fva fch) (hsz : 0 ≤ sz ∧ sz ≤ 300) (us gn ch : Nat → Int) (hug : ∀ k : Nat, (k : Int) < sz → (fis k = 2 ↔ ¬ us k = 0) ∧ gn k = fge k ∧ fch k = ch k ∧ (0 ≤ gn k ∧ gn k ≤ 99999)) (s ov : Int) (f pl : Nat → Int) (x1 n : Int) (hn : 0 ≤ n) (Q : Option xV → xH → Prop) : ∀ (m : Nat) (t : Int), (n ≤ t ∧ t + m = sz) → (xW Z d Y_M_append 222 [(0, xC 42), (1, xI x1), (2, xI n), (3, xI (s_end ch sz m t))] [] (hF (x_up (x_up q 1359 s) 1360 ov) (x_up (x_up r 1350 (some cp)) 1351 po) (x_up (x_up A 49 pl) 48 f) ++ dy) Q) → xW Z d Y_M_append 193 [(0, xC 42), (1, xI x1), (2, xI n), (3, xI t)] [] (hF (x_up (x_up q 1359 s) 1360 ov) (x_up (x_up r 1350 (some cp)) 1351 po) (x_up (x_up A 49 pl) 48 f) ++ dy) Q := by
  intro m
  induction m with
  | zero =>
    intro t ht kk
    refine x_iload_n (x_d C_M_append 101 rfl) rfl ?_
    refine x_aload_n (x_d C_M_append 102 rfl) rfl ?_
    refine x_getfield (v := xC cp) (x_d C_M_append 103 rfl) f_M_207 rfl rfl ?_
    refine x_getfield (v := xI (sz)) (x_d C_M_append 104 rfl) f_M_266 (ct_get hp.1 _ _ _) rfl ?_
    refine x_icmp_ge (tgt := 222) (x_d C_M_append 105 rfl) rfl (fun _ => ?_) (fun q => absurd q (by omega))
    refine x_locs [0, 1, 2, 3] rfl ?_
    exact kk
  | succ m ih =>
    intro t ht kk
    have hu := hug t.toNat (by omega)
    have he : s_end ch sz (m + 1) t = if t < sz ∧ ¬ ch t.toNat = 0 then s_end ch sz m (t + 1) else t := rfl
    rw [he] at kk
    refine x_iload_n (x_d C_M_append 101 rfl) rfl ?_
    refine x_aload_n (x_d C_M_append 102 rfl) rfl ?_
    refine x_getfield (v := xC cp) (x_d C_M_append 103 rfl) f_M_207 rfl rfl ?_
    refine x_getfield (v := xI (sz)) (x_d C_M_append 104 rfl) f_M_266 (ct_get hp.1 _ _ _) rfl ?_
    refine x_icmp_ge (tgt := 222) (x_d C_M_append 105 rfl) rfl (fun q => absurd q (by omega)) (fun _ => ?_)
    refine x_aload_n (x_d C_M_append 106 rfl) rfl ?_
    refine x_getfield (v := xC cp) (x_d C_M_append 107 rfl) f_M_207 rfl rfl ?_
    refine x_getfield (v := xC (cp + 5)) (x_d C_M_append 108 rfl) f_M_371 (ct_get hp.1 _ _ _) rfl ?_
    refine x_iload_n (x_d C_M_append 109 rfl) rfl ?_
    refine x_zaload (f := fch) (x_d C_M_append 110 rfl) (ct_get hp.2.2.2.2.2 _ _ _) (by omega) (by omega) ?_
    refine x_if_eq (tgt := 222) (x_d C_M_append 111 rfl) rfl (fun c2 => ?_) (fun c2 => ?_)
    · refine x_locs [0, 1, 2, 3] rfl ?_
      rw [if_neg (by omega)] at kk
      exact kk
    · refine x_iinc (l1 := [(3, xI (t + 1)), (0, xC 42), (1, xI (x1)), (2, xI (n))]) (x_d C_M_append 112 rfl) rfl ⟨by omega, by omega⟩ (by decide) rfl ?_
      refine x_goto (tgt := 193) (x_d C_M_append 113 rfl) rfl ?_
      refine x_locs [1, 2, 3, 0] rfl ?_
      rw [if_pos (by omega)] at kk
      exact ih (t + 1) (by omega) kk
theorem w_M_append_251 (Z : xZ) (d : Nat) (q : Nat → Int) (r : Nat → Option Nat) (A : Nat → Nat → Int) (dy : xH) (hd : 9 ≤ d) (po : Option Nat) (cp : Nat) (bt : Option Nat) (tb lt : Int) (tr : Option Nat) (sz : Int) (fis fge fpl : Nat → Int) (fva : Nat → Option Nat) (fch : Nat → Int) (hp : PB dy cp bt tb lt tr sz fis fge fpl fva fch) (hsz : 0 ≤ sz ∧ sz ≤ 300) (us gn ch : Nat → Int) (hug : ∀ k : Nat, (k : Int) < sz → (fis k = 2 ↔ ¬ us k = 0) ∧ gn k = fge k ∧ fch k = ch k ∧ (0 ≤ gn k ∧ gn k ≤ 99999)) (pl : Nat → Int) (hpl : ∀ k, 0 ≤ pl k ∧ pl k ≤ 6000) (x1 n e : Int) (hn : 0 ≤ n ∧ e ≤ sz) (Q : Option xV → xH → Prop) : ∀ (m : Nat) (t s ov : Int) (f : Nat → Int) (bs : List Int), (n ≤ t ∧ t + m = e) → pb 6000 s ov f bs → (∀ s2 ov2 f2, pb 6000 s2 ov2 f2 (bs ++ s_el pl us gn m t) → xW Z d Y_M_append 351 [(0, xC 42), (1, xI x1), (2, xI n)] [] (hF (x_up (x_up q 1359 s2) 1360 ov2) (x_up (x_up r 1350 (some cp)) 1351 po) (x_up (x_up A 49 pl) 48 f2) ++ dy) Q) → xW Z d Y_M_append 251 [(0, xC 42), (1, xI x1), (2, xI n), (3, xI e), (4, xI t)] [] (hF (x_up (x_up q 1359 s) 1360 ov) (x_up (x_up r 1350 (some cp)) 1351 po) (x_up (x_up A 49 pl) 48 f) ++ dy) Q := by
  intro m
  induction m with
  | zero =>
    intro t s ov f bs ht hpb kk
    refine x_iload (x_d C_M_append 132 rfl) rfl ?_
    refine x_iload_n (x_d C_M_append 133 rfl) rfl ?_
    refine x_icmp_ge (tgt := 351) (x_d C_M_append 134 rfl) rfl (fun _ => ?_) (fun q => absurd q (by omega))
    refine x_locs [0, 1, 2] rfl ?_
    exact kk s ov f (pb_nil hpb)
  | succ m ih =>
    intro t s ov f bs ht hpb kk
    obtain ⟨hu1, hu2, hu3, hu4⟩ := hug t.toNat (by omega)
    have hplt := hpl t.toNat
    have hel : s_el pl us gn (m + 1) t = s_en pl us gn t ++ s_el pl us gn m (t + 1) := rfl
    have hen : s_en pl us gn t = s_dg 10 (if us t.toNat = 0 then 0 else pl t.toNat) ++ ([32] ++ (s_dg 5 (gn t.toNat) ++ (if us t.toNat = 0 then [32, 102, 32, 10] else [32, 110, 32, 10]))) := rfl
    refine x_iload (x_d C_M_append 132 rfl) rfl ?_
    refine x_iload_n (x_d C_M_append 133 rfl) rfl ?_
    refine x_icmp_ge (tgt := 351) (x_d C_M_append 134 rfl) rfl (fun q => absurd q (by omega)) (fun _ => ?_)
    refine x_aload_n (x_d C_M_append 135 rfl) rfl ?_
    refine x_getfield (v := xC cp) (x_d C_M_append 136 rfl) f_M_207 rfl rfl ?_
    refine x_getfield (v := xC (cp + 1)) (x_d C_M_append 137 rfl) f_M_267 (ct_get hp.1 _ _ _) rfl ?_
    refine x_iload (x_d C_M_append 138 rfl) rfl ?_
    refine x_iaload (f := fis) (x_d C_M_append 139 rfl) (ct_get hp.2.1 _ _ _) (by omega) (by omega) ?_
    refine x_iconst (x_d C_M_append 140 rfl) ⟨by omega, by omega⟩ ?_
    refine x_icmp_ne (tgt := 275) (x_d C_M_append 141 rfl) rfl (fun c2 => ?_) (fun c2 => ?_)
    · refine x_iconst (x_d C_M_append 144 rfl) ⟨by omega, by omega⟩ ?_
      refine x_istore (l1 := [(5, xI (0)), (0, xC 42), (1, xI (x1)), (2, xI (n)), (3, xI (e)), (4, xI (t))]) (x_d C_M_append 145 rfl) (by decide) rfl ?_
      refine x_aload_n (x_d C_M_append 146 rfl) rfl ?_
      refine x_iload (x_d C_M_append 147 rfl) rfl ?_
      refine x_if_eq (tgt := 294) (x_d C_M_append 148 rfl) rfl (fun _ => ?_) (fun q => absurd q (by omega))
      refine x_iconst (x_d C_M_append 154 rfl) ⟨by omega, by omega⟩ ?_
      refine x_bipush (x_d C_M_append 155 rfl) (by omega) ?_
      refine x_invokevirtual (st := []) (av := [xI (0), xI (10)]) (x_d C_M_append 156 rfl) k_M_400 m_M_number v_M_number cl_M rfl rfl (Nat.le_of_ble_eq_true rfl) (by omega) rfl (c_M_number_10 Z (d - 1) q (x_up (x_up r 1350 (some cp)) 1351 po) (x_up A 49 pl) dy (by omega) s ov f bs (0) (by omega) hpb) ?_
      rintro _ _ ⟨rfl, s4, ov4, f4, rfl, hp4⟩
      refine x_aload_n (x_d C_M_append 157 rfl) rfl ?_
      refine x_bipush (x_d C_M_append 158 rfl) (by omega) ?_
      refine x_invokevirtual (st := []) (av := [xI (32)]) (x_d C_M_append 159 rfl) k_M_394 m_M_say2 v_M_say2 cl_M rfl rfl (Nat.le_of_ble_eq_true rfl) (by omega) rfl (c_M_say2 Z (d - 1) q (x_up (x_up r 1350 (some cp)) 1351 po) (x_up A 49 pl) dy s4 ov4 f4 (bs ++ s_dg 10 (0)) 32 hp4) ?_
      rintro _ _ ⟨rfl, s5, ov5, f5, rfl, hp5⟩
      refine x_aload_n (x_d C_M_append 160 rfl) rfl ?_
      refine x_aload_n (x_d C_M_append 161 rfl) rfl ?_
      refine x_getfield (v := xC cp) (x_d C_M_append 162 rfl) f_M_207 rfl rfl ?_
      refine x_getfield (v := xC (cp + 2)) (x_d C_M_append 163 rfl) f_M_278 (ct_get hp.1 _ _ _) rfl ?_
      refine x_iload (x_d C_M_append 164 rfl) rfl ?_
      refine x_iaload (f := fge) (x_d C_M_append 165 rfl) (ct_get hp.2.2.1 _ _ _) (by omega) (by omega) ?_
      rw [← hu2]
      refine x_iconst (x_d C_M_append 166 rfl) ⟨by omega, by omega⟩ ?_
      refine x_invokevirtual (st := []) (av := [xI (gn t.toNat), xI (5)]) (x_d C_M_append 167 rfl) k_M_400 m_M_number v_M_number cl_M rfl rfl (Nat.le_of_ble_eq_true rfl) (by omega) rfl (c_M_number_5 Z (d - 1) q (x_up (x_up r 1350 (some cp)) 1351 po) (x_up A 49 pl) dy (by omega) s5 ov5 f5 ((bs ++ s_dg 10 (0)) ++ [32]) (gn t.toNat) (by omega) hp5) ?_
      rintro _ _ ⟨rfl, s6, ov6, f6, rfl, hp6⟩
      refine x_aload_n (x_d C_M_append 168 rfl) rfl ?_
      refine x_iload (x_d C_M_append 169 rfl) rfl ?_
      refine x_if_eq (tgt := 333) (x_d C_M_append 170 rfl) rfl (fun _ => ?_) (fun q => absurd q (by omega))
      refine x_ldcSw (i := 81) (x_d C_M_append 173 rfl) rfl ?_
      refine x_invokevirtual (st := []) (av := [xS (163)]) (x_d C_M_append 174 rfl) k_M_397 m_M_say3 v_M_say3 cl_M rfl rfl (Nat.le_of_ble_eq_true rfl) (by omega) rfl (c_M_say3 Z (d - 1) q (x_up (x_up r 1350 (some cp)) 1351 po) (x_up A 49 pl) dy (by omega) s6 ov6 f6 (((bs ++ s_dg 10 (0)) ++ [32]) ++ s_dg 5 (gn t.toNat)) (si := 81) rfl hp6) ?_
      rintro _ _ ⟨rfl, s8, ov8, f8, rfl, hp8⟩
      refine x_aload_n (x_d C_M_append 175 rfl) rfl ?_
      refine x_bipush (x_d C_M_append 176 rfl) (by omega) ?_
      refine x_invokevirtual (st := []) (av := [xI (10)]) (x_d C_M_append 177 rfl) k_M_394 m_M_say2 v_M_say2 cl_M rfl rfl (Nat.le_of_ble_eq_true rfl) (by omega) rfl (c_M_say2 Z (d - 1) q (x_up (x_up r 1350 (some cp)) 1351 po) (x_up A 49 pl) dy s8 ov8 f8 ((((bs ++ s_dg 10 (0)) ++ [32]) ++ s_dg 5 (gn t.toNat)) ++ [32, 102, 32]) 10 hp8) ?_
      rintro _ _ ⟨rfl, s9, ov9, f9, rfl, hp9⟩
      refine x_iinc (l1 := [(4, xI (t + 1)), (5, xI (0)), (0, xC 42), (1, xI (x1)), (2, xI (n)), (3, xI (e))]) (x_d C_M_append 178 rfl) rfl ⟨by omega, by omega⟩ (by decide) rfl ?_
      refine x_goto (tgt := 251) (x_d C_M_append 179 rfl) rfl ?_
      refine x_locs [2, 3, 4, 5, 0] rfl ?_
      refine ih (t + 1) _ _ _ _ (by omega) hp9 (fun s2 ov2 f2 h2 => kk s2 ov2 f2 ?_)
      rw [hel, hen, if_pos (by omega), if_pos (by omega)]
      simp only [List.append_assoc] at h2 ⊢
      exact h2
    · refine x_iconst (x_d C_M_append 142 rfl) ⟨by omega, by omega⟩ ?_
      refine x_goto (tgt := 276) (x_d C_M_append 143 rfl) rfl ?_
      refine x_istore (l1 := [(5, xI (1)), (0, xC 42), (1, xI (x1)), (2, xI (n)), (3, xI (e)), (4, xI (t))]) (x_d C_M_append 145 rfl) (by decide) rfl ?_
      refine x_aload_n (x_d C_M_append 146 rfl) rfl ?_
      refine x_iload (x_d C_M_append 147 rfl) rfl ?_
      refine x_if_eq (tgt := 294) (x_d C_M_append 148 rfl) rfl (fun q => absurd q (by omega)) (fun _ => ?_)
      refine x_aload_n (x_d C_M_append 149 rfl) rfl ?_
      refine x_getfield (v := xC 49) (x_d C_M_append 150 rfl) f_M_182 rfl rfl ?_
      refine x_iload (x_d C_M_append 151 rfl) rfl ?_
      refine x_iaload (f := pl) (x_d C_M_append 152 rfl) rfl (by omega) (by omega) ?_
      refine x_goto (tgt := 295) (x_d C_M_append 153 rfl) rfl ?_
      refine x_bipush (x_d C_M_append 155 rfl) (by omega) ?_
      refine x_invokevirtual (st := []) (av := [xI (pl (t).toNat), xI (10)]) (x_d C_M_append 156 rfl) k_M_400 m_M_number v_M_number cl_M rfl rfl (Nat.le_of_ble_eq_true rfl) (by omega) rfl (c_M_number_10 Z (d - 1) q (x_up (x_up r 1350 (some cp)) 1351 po) (x_up A 49 pl) dy (by omega) s ov f bs (pl (t).toNat) (by omega) hpb) ?_
      rintro _ _ ⟨rfl, s11, ov11, f11, rfl, hp11⟩
      refine x_aload_n (x_d C_M_append 157 rfl) rfl ?_
      refine x_bipush (x_d C_M_append 158 rfl) (by omega) ?_
      refine x_invokevirtual (st := []) (av := [xI (32)]) (x_d C_M_append 159 rfl) k_M_394 m_M_say2 v_M_say2 cl_M rfl rfl (Nat.le_of_ble_eq_true rfl) (by omega) rfl (c_M_say2 Z (d - 1) q (x_up (x_up r 1350 (some cp)) 1351 po) (x_up A 49 pl) dy s11 ov11 f11 (bs ++ s_dg 10 (pl (t).toNat)) 32 hp11) ?_
      rintro _ _ ⟨rfl, s12, ov12, f12, rfl, hp12⟩
      refine x_aload_n (x_d C_M_append 160 rfl) rfl ?_
      refine x_aload_n (x_d C_M_append 161 rfl) rfl ?_
      refine x_getfield (v := xC cp) (x_d C_M_append 162 rfl) f_M_207 rfl rfl ?_
      refine x_getfield (v := xC (cp + 2)) (x_d C_M_append 163 rfl) f_M_278 (ct_get hp.1 _ _ _) rfl ?_
      refine x_iload (x_d C_M_append 164 rfl) rfl ?_
      refine x_iaload (f := fge) (x_d C_M_append 165 rfl) (ct_get hp.2.2.1 _ _ _) (by omega) (by omega) ?_
      rw [← hu2]
      refine x_iconst (x_d C_M_append 166 rfl) ⟨by omega, by omega⟩ ?_
      refine x_invokevirtual (st := []) (av := [xI (gn t.toNat), xI (5)]) (x_d C_M_append 167 rfl) k_M_400 m_M_number v_M_number cl_M rfl rfl (Nat.le_of_ble_eq_true rfl) (by omega) rfl (c_M_number_5 Z (d - 1) q (x_up (x_up r 1350 (some cp)) 1351 po) (x_up A 49 pl) dy (by omega) s12 ov12 f12 ((bs ++ s_dg 10 (pl (t).toNat)) ++ [32]) (gn t.toNat) (by omega) hp12) ?_
      rintro _ _ ⟨rfl, s13, ov13, f13, rfl, hp13⟩
      refine x_aload_n (x_d C_M_append 168 rfl) rfl ?_
      refine x_iload (x_d C_M_append 169 rfl) rfl ?_
      refine x_if_eq (tgt := 333) (x_d C_M_append 170 rfl) rfl (fun q => absurd q (by omega)) (fun _ => ?_)
      refine x_ldcSw (i := 80) (x_d C_M_append 171 rfl) rfl ?_
      refine x_goto (tgt := 336) (x_d C_M_append 172 rfl) rfl ?_
      refine x_invokevirtual (st := []) (av := [xS (161)]) (x_d C_M_append 174 rfl) k_M_397 m_M_say3 v_M_say3 cl_M rfl rfl (Nat.le_of_ble_eq_true rfl) (by omega) rfl (c_M_say3 Z (d - 1) q (x_up (x_up r 1350 (some cp)) 1351 po) (x_up A 49 pl) dy (by omega) s13 ov13 f13 (((bs ++ s_dg 10 (pl (t).toNat)) ++ [32]) ++ s_dg 5 (gn t.toNat)) (si := 80) rfl hp13) ?_
      rintro _ _ ⟨rfl, s15, ov15, f15, rfl, hp15⟩
      refine x_aload_n (x_d C_M_append 175 rfl) rfl ?_
      refine x_bipush (x_d C_M_append 176 rfl) (by omega) ?_
      refine x_invokevirtual (st := []) (av := [xI (10)]) (x_d C_M_append 177 rfl) k_M_394 m_M_say2 v_M_say2 cl_M rfl rfl (Nat.le_of_ble_eq_true rfl) (by omega) rfl (c_M_say2 Z (d - 1) q (x_up (x_up r 1350 (some cp)) 1351 po) (x_up A 49 pl) dy s15 ov15 f15 ((((bs ++ s_dg 10 (pl (t).toNat)) ++ [32]) ++ s_dg 5 (gn t.toNat)) ++ [32, 110, 32]) 10 hp15) ?_
      rintro _ _ ⟨rfl, s16, ov16, f16, rfl, hp16⟩
      refine x_iinc (l1 := [(4, xI (t + 1)), (5, xI (1)), (0, xC 42), (1, xI (x1)), (2, xI (n)), (3, xI (e))]) (x_d C_M_append 178 rfl) rfl ⟨by omega, by omega⟩ (by decide) rfl ?_
      refine x_goto (tgt := 251) (x_d C_M_append 179 rfl) rfl ?_
      refine x_locs [2, 3, 4, 5, 0] rfl ?_
      refine ih (t + 1) _ _ _ _ (by omega) hp16 (fun s2 ov2 f2 h2 => kk s2 ov2 f2 ?_)
      rw [hel, hen, if_neg (by omega), if_neg (by omega)]
      simp only [List.append_assoc] at h2 ⊢
      exact h2
theorem w_M_append_147 (Z : xZ) (d : Nat) (q : Nat → Int) (r : Nat → Option Nat) (A : Nat → Nat → Int) (dy : xH) (hd : 9 ≤ d) (po : Option Nat) (cp : Nat) (bt : Option Nat) (tb lt : Int) (tr : Option Nat) (sz : Int) (fis fge fpl : Nat → Int) (fva : Nat → Option Nat) (fch : Nat → Int) (hp : PB dy cp bt tb lt tr sz fis fge fpl fva fch) (hsz : 0 ≤ sz ∧ sz ≤ 300) (us gn ch : Nat → Int) (hug : ∀ k : Nat, (k : Int) < sz → (fis k = 2 ↔ ¬ us k = 0) ∧ gn k = fge k ∧ fch k = ch k ∧ (0 ≤ gn k ∧ gn k ≤ 99999)) (pl : Nat → Int) (hpl : ∀ k, 0 ≤ pl k ∧ pl k ≤ 6000) (x1 : Int) (Q : Option xV → xH → Prop) : ∀ (m : Nat) (t s ov : Int) (f : Nat → Int) (bs : List Int), (0 ≤ t ∧ t + m = sz) → pb 6000 s ov f bs → (∀ s2 ov2 f2, pb 6000 s2 ov2 f2 (bs ++ s_secs pl us gn ch sz m t) → xW Z d Y_M_append 357 [(0, xC 42), (1, xI x1)] [] (hF (x_up (x_up q 1359 s2) 1360 ov2) (x_up (x_up r 1350 (some cp)) 1351 po) (x_up (x_up A 49 pl) 48 f2) ++ dy) Q) → xW Z d Y_M_append 147 [(0, xC 42), (1, xI x1), (2, xI t)] [] (hF (x_up (x_up q 1359 s) 1360 ov) (x_up (x_up r 1350 (some cp)) 1351 po) (x_up (x_up A 49 pl) 48 f) ++ dy) Q := by
  intro m
  induction m with
  | zero =>
    intro t s ov f bs ht hpb kk
    refine x_iload_n (x_d C_M_append 77 rfl) rfl ?_
    refine x_aload_n (x_d C_M_append 78 rfl) rfl ?_
    refine x_getfield (v := xC cp) (x_d C_M_append 79 rfl) f_M_207 rfl rfl ?_
    refine x_getfield (v := xI (sz)) (x_d C_M_append 80 rfl) f_M_266 (ct_get hp.1 _ _ _) rfl ?_
    refine x_icmp_ge (tgt := 357) (x_d C_M_append 81 rfl) rfl (fun _ => ?_) (fun q => absurd q (by omega))
    refine x_locs [0, 1] rfl ?_
    exact kk s ov f (pb_nil hpb)
  | succ m ih =>
    intro t s ov f bs ht hpb kk
    obtain ⟨hu1, hu2, hu3, hu4⟩ := hug t.toNat (by omega)
    have hx := hug (t - 1).toNat (by omega)
    have hse : s_secs pl us gn ch sz (m + 1) t = (if ¬ ch t.toNat = 0 ∧ (t = 0 ∨ ch (t - 1).toNat = 0) then s_sec pl us gn ch sz t else []) ++ s_secs pl us gn ch sz m (t + 1) := rfl
    have hen := s_end_in ch sz (sz - t).toNat t
    have he3 := hen.2.2.2 (by omega)
    have he4 : t ≤ s_end ch sz (sz - t).toNat t := hen.1
    clear hen
    have key : ∀ s ov f, pb 6000 s ov f (bs ++ (if ¬ ch t.toNat = 0 ∧ (t = 0 ∨ ch (t - 1).toNat = 0) then s_sec pl us gn ch sz t else [])) → xW Z d Y_M_append 351 [(0, xC 42), (1, xI x1), (2, xI t)] [] (hF (x_up (x_up q 1359 s) 1360 ov) (x_up (x_up r 1350 (some cp)) 1351 po) (x_up (x_up A 49 pl) 48 f) ++ dy) Q := fun s ov f h9 => by
      refine x_iinc (l1 := [(2, xI (t + 1)), (0, xC 42), (1, xI (x1))]) (x_d C_M_append 180 rfl) rfl ⟨by omega, by omega⟩ (by decide) rfl ?_
      refine x_goto (tgt := 147) (x_d C_M_append 181 rfl) rfl ?_
      refine x_locs [1, 2, 0] rfl ?_
      refine ih (t + 1) _ _ _ _ (by omega) h9 (fun s2 ov2 f2 h2 => kk s2 ov2 f2 ?_)
      rw [hse, ← List.append_assoc]
      exact h2
    refine x_iload_n (x_d C_M_append 77 rfl) rfl ?_
    refine x_aload_n (x_d C_M_append 78 rfl) rfl ?_
    refine x_getfield (v := xC cp) (x_d C_M_append 79 rfl) f_M_207 rfl rfl ?_
    refine x_getfield (v := xI (sz)) (x_d C_M_append 80 rfl) f_M_266 (ct_get hp.1 _ _ _) rfl ?_
    refine x_icmp_ge (tgt := 357) (x_d C_M_append 81 rfl) rfl (fun q => absurd q (by omega)) (fun _ => ?_)
    refine x_aload_n (x_d C_M_append 82 rfl) rfl ?_
    refine x_getfield (v := xC cp) (x_d C_M_append 83 rfl) f_M_207 rfl rfl ?_
    refine x_getfield (v := xC (cp + 5)) (x_d C_M_append 84 rfl) f_M_371 (ct_get hp.1 _ _ _) rfl ?_
    refine x_iload_n (x_d C_M_append 85 rfl) rfl ?_
    refine x_zaload (f := fch) (x_d C_M_append 86 rfl) (ct_get hp.2.2.2.2.2 _ _ _) (by omega) (by omega) ?_
    refine x_if_eq (tgt := 351) (x_d C_M_append 87 rfl) rfl (fun c2 => ?_) (fun c2 => ?_)
    · refine x_locs [0, 1, 2] rfl ?_
      exact key s ov f (by rw [if_neg (by omega), List.append_nil]; exact hpb)
    · refine x_iload_n (x_d C_M_append 88 rfl) rfl ?_
      refine x_if_le (tgt := 191) (x_d C_M_append 89 rfl) rfl (fun c3 => ?_) (fun c3 => ?_)
      · refine x_iload_n (x_d C_M_append 99 rfl) rfl ?_
        refine x_istore_n (l1 := [(3, xI (t)), (0, xC 42), (1, xI (x1)), (2, xI (t))]) (x_d C_M_append 100 rfl) (by decide) rfl ?_
        refine x_locs [1, 2, 3, 0] rfl ?_
        refine w_M_append_193 Z d q r A dy hd po cp bt tb lt tr sz fis fge fpl fva fch hp hsz us gn ch hug s ov f pl x1 t (by omega) Q (sz - t).toNat t (by omega) ?_
        refine x_aload_n (x_d C_M_append 114 rfl) rfl ?_
        refine x_iload_n (x_d C_M_append 115 rfl) rfl ?_
        refine x_iconst (x_d C_M_append 116 rfl) ⟨by omega, by omega⟩ ?_
        refine x_invokevirtual (st := []) (av := [xI (t), xI (1)]) (x_d C_M_append 117 rfl) k_M_400 m_M_number v_M_number cl_M rfl rfl (Nat.le_of_ble_eq_true rfl) (by omega) rfl (c_M_number1 Z (d - 1) q (x_up (x_up r 1350 (some cp)) 1351 po) (x_up A 49 pl) dy (by omega) s ov f bs (t) (by omega) hpb) ?_
        rintro _ _ ⟨rfl, s71, ov71, f71, rfl, hp71⟩
        refine x_aload_n (x_d C_M_append 118 rfl) rfl ?_
        refine x_bipush (x_d C_M_append 119 rfl) (by omega) ?_
        refine x_invokevirtual (st := []) (av := [xI (32)]) (x_d C_M_append 120 rfl) k_M_394 m_M_say2 v_M_say2 cl_M rfl rfl (Nat.le_of_ble_eq_true rfl) (by omega) rfl (c_M_say2 Z (d - 1) q (x_up (x_up r 1350 (some cp)) 1351 po) (x_up A 49 pl) dy s71 ov71 f71 (bs ++ s_int (t)) 32 hp71) ?_
        rintro _ _ ⟨rfl, s72, ov72, f72, rfl, hp72⟩
        refine x_aload_n (x_d C_M_append 121 rfl) rfl ?_
        refine x_iload_n (x_d C_M_append 122 rfl) rfl ?_
        refine x_iload_n (x_d C_M_append 123 rfl) rfl ?_
        refine x_isub (x_d C_M_append 124 rfl) ⟨by omega, by omega⟩ ?_
        refine x_iconst (x_d C_M_append 125 rfl) ⟨by omega, by omega⟩ ?_
        refine x_invokevirtual (st := []) (av := [xI (((s_end ch sz (sz - t).toNat t)) - t), xI (1)]) (x_d C_M_append 126 rfl) k_M_400 m_M_number v_M_number cl_M rfl rfl (Nat.le_of_ble_eq_true rfl) (by omega) rfl (c_M_number1 Z (d - 1) q (x_up (x_up r 1350 (some cp)) 1351 po) (x_up A 49 pl) dy (by omega) s72 ov72 f72 ((bs ++ s_int (t)) ++ [32]) (((s_end ch sz (sz - t).toNat t)) - t) (by omega) hp72) ?_
        rintro _ _ ⟨rfl, s73, ov73, f73, rfl, hp73⟩
        refine x_aload_n (x_d C_M_append 127 rfl) rfl ?_
        refine x_bipush (x_d C_M_append 128 rfl) (by omega) ?_
        refine x_invokevirtual (st := []) (av := [xI (10)]) (x_d C_M_append 129 rfl) k_M_394 m_M_say2 v_M_say2 cl_M rfl rfl (Nat.le_of_ble_eq_true rfl) (by omega) rfl (c_M_say2 Z (d - 1) q (x_up (x_up r 1350 (some cp)) 1351 po) (x_up A 49 pl) dy s73 ov73 f73 (((bs ++ s_int (t)) ++ [32]) ++ s_int (((s_end ch sz (sz - t).toNat t)) - t)) 10 hp73) ?_
        rintro _ _ ⟨rfl, s74, ov74, f74, rfl, hp74⟩
        refine x_iload_n (x_d C_M_append 130 rfl) rfl ?_
        refine x_istore (l1 := [(4, xI (t)), (0, xC 42), (1, xI (x1)), (2, xI (t)), (3, xI ((s_end ch sz (sz - t).toNat t)))]) (x_d C_M_append 131 rfl) (by decide) rfl ?_
        refine x_locs [1, 2, 3, 4, 0] rfl ?_
        refine w_M_append_251 Z d q r A dy hd po cp bt tb lt tr sz fis fge fpl fva fch hp hsz us gn ch hug pl hpl x1 t _ (by omega) Q ((s_end ch sz (sz - t).toNat t) - t).toNat t _ _ _ _ (by omega) hp74 (fun s9 ov9 f9 h9 => key s9 ov9 f9 ?_)
        rw [if_pos (by omega)]
        unfold s_sec
        simp only [List.append_assoc] at h9 ⊢
        exact h9
      · refine x_aload_n (x_d C_M_append 90 rfl) rfl ?_
        refine x_getfield (v := xC cp) (x_d C_M_append 91 rfl) f_M_207 rfl rfl ?_
        refine x_getfield (v := xC (cp + 5)) (x_d C_M_append 92 rfl) f_M_371 (ct_get hp.1 _ _ _) rfl ?_
        refine x_iload_n (x_d C_M_append 93 rfl) rfl ?_
        refine x_iconst (x_d C_M_append 94 rfl) ⟨by omega, by omega⟩ ?_
        refine x_isub (x_d C_M_append 95 rfl) ⟨by omega, by omega⟩ ?_
        refine x_zaload (f := fch) (x_d C_M_append 96 rfl) (ct_get hp.2.2.2.2.2 _ _ _) (by omega) (by omega) ?_
        refine x_if_eq (tgt := 191) (x_d C_M_append 97 rfl) rfl (fun c4 => ?_) (fun c4 => ?_)
        · refine x_iload_n (x_d C_M_append 99 rfl) rfl ?_
          refine x_istore_n (l1 := [(3, xI (t)), (0, xC 42), (1, xI (x1)), (2, xI (t))]) (x_d C_M_append 100 rfl) (by decide) rfl ?_
          refine x_locs [1, 2, 3, 0] rfl ?_
          refine w_M_append_193 Z d q r A dy hd po cp bt tb lt tr sz fis fge fpl fva fch hp hsz us gn ch hug s ov f pl x1 t (by omega) Q (sz - t).toNat t (by omega) ?_
          refine x_aload_n (x_d C_M_append 114 rfl) rfl ?_
          refine x_iload_n (x_d C_M_append 115 rfl) rfl ?_
          refine x_iconst (x_d C_M_append 116 rfl) ⟨by omega, by omega⟩ ?_
          refine x_invokevirtual (st := []) (av := [xI (t), xI (1)]) (x_d C_M_append 117 rfl) k_M_400 m_M_number v_M_number cl_M rfl rfl (Nat.le_of_ble_eq_true rfl) (by omega) rfl (c_M_number1 Z (d - 1) q (x_up (x_up r 1350 (some cp)) 1351 po) (x_up A 49 pl) dy (by omega) s ov f bs (t) (by omega) hpb) ?_
          rintro _ _ ⟨rfl, s71, ov71, f71, rfl, hp71⟩
          refine x_aload_n (x_d C_M_append 118 rfl) rfl ?_
          refine x_bipush (x_d C_M_append 119 rfl) (by omega) ?_
          refine x_invokevirtual (st := []) (av := [xI (32)]) (x_d C_M_append 120 rfl) k_M_394 m_M_say2 v_M_say2 cl_M rfl rfl (Nat.le_of_ble_eq_true rfl) (by omega) rfl (c_M_say2 Z (d - 1) q (x_up (x_up r 1350 (some cp)) 1351 po) (x_up A 49 pl) dy s71 ov71 f71 (bs ++ s_int (t)) 32 hp71) ?_
          rintro _ _ ⟨rfl, s72, ov72, f72, rfl, hp72⟩
          refine x_aload_n (x_d C_M_append 121 rfl) rfl ?_
          refine x_iload_n (x_d C_M_append 122 rfl) rfl ?_
          refine x_iload_n (x_d C_M_append 123 rfl) rfl ?_
          refine x_isub (x_d C_M_append 124 rfl) ⟨by omega, by omega⟩ ?_
          refine x_iconst (x_d C_M_append 125 rfl) ⟨by omega, by omega⟩ ?_
          refine x_invokevirtual (st := []) (av := [xI (((s_end ch sz (sz - t).toNat t)) - t), xI (1)]) (x_d C_M_append 126 rfl) k_M_400 m_M_number v_M_number cl_M rfl rfl (Nat.le_of_ble_eq_true rfl) (by omega) rfl (c_M_number1 Z (d - 1) q (x_up (x_up r 1350 (some cp)) 1351 po) (x_up A 49 pl) dy (by omega) s72 ov72 f72 ((bs ++ s_int (t)) ++ [32]) (((s_end ch sz (sz - t).toNat t)) - t) (by omega) hp72) ?_
          rintro _ _ ⟨rfl, s73, ov73, f73, rfl, hp73⟩
          refine x_aload_n (x_d C_M_append 127 rfl) rfl ?_
          refine x_bipush (x_d C_M_append 128 rfl) (by omega) ?_
          refine x_invokevirtual (st := []) (av := [xI (10)]) (x_d C_M_append 129 rfl) k_M_394 m_M_say2 v_M_say2 cl_M rfl rfl (Nat.le_of_ble_eq_true rfl) (by omega) rfl (c_M_say2 Z (d - 1) q (x_up (x_up r 1350 (some cp)) 1351 po) (x_up A 49 pl) dy s73 ov73 f73 (((bs ++ s_int (t)) ++ [32]) ++ s_int (((s_end ch sz (sz - t).toNat t)) - t)) 10 hp73) ?_
          rintro _ _ ⟨rfl, s74, ov74, f74, rfl, hp74⟩
          refine x_iload_n (x_d C_M_append 130 rfl) rfl ?_
          refine x_istore (l1 := [(4, xI (t)), (0, xC 42), (1, xI (x1)), (2, xI (t)), (3, xI ((s_end ch sz (sz - t).toNat t)))]) (x_d C_M_append 131 rfl) (by decide) rfl ?_
          refine x_locs [1, 2, 3, 4, 0] rfl ?_
          refine w_M_append_251 Z d q r A dy hd po cp bt tb lt tr sz fis fge fpl fva fch hp hsz us gn ch hug pl hpl x1 t _ (by omega) Q ((s_end ch sz (sz - t).toNat t) - t).toNat t _ _ _ _ (by omega) hp74 (fun s9 ov9 f9 h9 => key s9 ov9 f9 ?_)
          rw [if_pos (by omega)]
          unfold s_sec
          simp only [List.append_assoc] at h9 ⊢
          exact h9
        · refine x_goto (tgt := 351) (x_d C_M_append 98 rfl) rfl ?_
          refine x_locs [0, 1, 2] rfl ?_
          exact key s ov f (by rw [if_neg (by omega), List.append_nil]; exact hpb)
