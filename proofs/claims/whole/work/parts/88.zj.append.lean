/-! the reference: what is appended -/
theorem w_M_append_128 (Z : xZ) (d : Nat) (q : Nat → Int) (r : Nat → Option Nat) (A : Nat → Nat → Int) (dy : xH) (hd : 18 ≤ d) (po : Option Nat) (X : Nat → Int) (E : Int) (g : Nat → Option xE) (P : Nat → Nat → Int) (hgk : gok g dy) (cp : Nat) (bt : Option Nat) (tb lt : Int) (ctr : Nat) (sz : Int) (fis fge fpl : Nat → Int) (fva : Nat → Option Nat) (fch : Nat → Int) (hp : PB dy cp bt tb lt (some ctr) sz fis fge fpl fva fch) (hsz : 0 ≤ sz ∧ sz ≤ 300) (hlt : 0 ≤ lt ∧ lt ≤ 2147483647) (p : Int) (ht : Tr X E g P 9 p ctr) (hk7 : P 5 p.toNat = 7) (hdj : Dj g ctr) (n2 : Int) (hE : E ≤ n2) (hSz : 0 ≤ s_nam (P 8) (P 9) X n2 p [83, 105, 122, 101]) (us gn ch : Nat → Int) (hug : ∀ k : Nat, (k : Int) < sz → (fis k = 2 ↔ ¬ us k = 0) ∧ gn k = fge k ∧ fch k = ch k ∧ (0 ≤ gn k ∧ gn k ≤ 99999)) (rt : Nat → Int) (hva : ∀ k : Nat, (k : Int) < sz → ¬ us k = 0 → ∃ c2, fva k = some c2 ∧ Tr X E g P 9 (rt k) c2) (B L : List Int) (hL : L = s_file (s_wv (P 5) (P 6) (P 7) (P 8) (P 9) X n2 8) (s_wv (P 5) (P 6) (P 7) (P 8) (P 9) X n2 7) rt gn us ch (P 8) (P 9) X n2 p sz lt B) (hch : ¬ s_sm ch sz.toNat = 0) (s ov : Int) (f pl : Nat → Int) (hpl : ∀ k, 0 ≤ pl k ∧ pl k ≤ 6000) (hpi : ∀ k : Nat, (k : Int) < sz → ¬ ch k = 0 → ¬ us k = 0 → pl k = (B ++ s_obs (s_of (s_wv (P 5) (P 6) (P 7) (P 8) (P 9) X n2 8) rt gn us ch) k).length ∨ 6000 < (B ++ s_obs (s_of (s_wv (P 5) (P 6) (P 7) (P 8) (P 9) X n2 8) rt gn us ch) sz.toNat).length) (hpb : pb 6000 s ov f (B ++ s_obs (s_of (s_wv (P 5) (P 6) (P 7) (P 8) (P 9) X n2 8) rt gn us ch) sz.toNat)) : xW Z d Y_M_append 128 [(0, xC 42)] [] (hF (x_up (x_up q 1359 s) 1360 ov) (x_up (x_up r 1350 (some cp)) 1351 po) (x_up (x_up A 49 pl) 48 f) ++ dy) (fun v0 h2 => v0 = none ∧ ∃ s2 ov2 f2 pl2 ny, h2 = hF (x_up (x_up q 1359 s2) 1360 ov2) (x_up (x_up r 1350 (some cp)) 1351 po) (x_up (x_up A 49 pl2) 48 f2) ++ (dy ++ ny) ∧ (∀ u w, mu u w ny ≤ 6 * u + 160 * w) ∧ (∀ k, 0 ≤ pl2 k ∧ pl2 k ≤ 6000) ∧ pb 6000 s2 ov2 f2 L) := by
  have hp0 := hpb.1
  have hp1 := hpb.2.1
  have hpz := hpb.2.2
  obtain ⟨bs, hbs⟩ : ∃ bs, bs = (B ++ s_obs (s_of (s_wv (P 5) (P 6) (P 7) (P 8) (P 9) X n2 8) rt gn us ch) sz.toNat) := ⟨_, rfl⟩
  rw [← hbs] at hpb hpz hpi
  refine x_aload_n (x_d C_M_append 66 rfl) rfl ?_
  refine x_getfield (v := xI (s)) (x_d C_M_append 67 rfl) f_M_387 rfl rfl ?_
  refine x_istore_n (l1 := [(1, xI (s)), (0, xC 42)]) (x_d C_M_append 68 rfl) (by decide) rfl ?_
  refine x_aload_n (x_d C_M_append 69 rfl) rfl ?_
  refine x_ldcS (i := 57) (x_d C_M_append 70 rfl) rfl ?_
  refine x_invokevirtual (st := []) (av := [xS (115)]) (x_d C_M_append 71 rfl) k_M_397 m_M_say3 v_M_say3 cl_M rfl rfl (Nat.le_of_ble_eq_true rfl) (by omega) rfl (c_M_say3 Z (d - 1) q (x_up (x_up r 1350 (some cp)) 1351 po) (x_up A 49 pl) dy (by omega) s ov f bs (si := 57) rfl hpb) ?_
  rintro _ _ ⟨rfl, s1, ov1, f1, rfl, hp1⟩
  refine x_aload_n (x_d C_M_append 72 rfl) rfl ?_
  refine x_bipush (x_d C_M_append 73 rfl) (by omega) ?_
  refine x_invokevirtual (st := []) (av := [xI (10)]) (x_d C_M_append 74 rfl) k_M_394 m_M_say2 v_M_say2 cl_M rfl rfl (Nat.le_of_ble_eq_true rfl) (by omega) rfl (c_M_say2 Z (d - 1) q (x_up (x_up r 1350 (some cp)) 1351 po) (x_up A 49 pl) dy s1 ov1 f1 (bs ++ [120, 114, 101, 102]) 10 hp1) ?_
  rintro _ _ ⟨rfl, s2, ov2, f2, rfl, hp2⟩
  refine x_iconst (x_d C_M_append 75 rfl) ⟨by omega, by omega⟩ ?_
  refine x_istore_n (l1 := [(2, xI (0)), (1, xI (s)), (0, xC 42)]) (x_d C_M_append 76 rfl) (by decide) rfl ?_
  refine x_locs [2, 1, 0] rfl ?_
  refine w_M_append_147 Z d q r A dy (by omega) po cp bt tb lt (some ctr) sz fis fge fpl fva fch hp hsz us gn ch hug pl hpl s _ sz.toNat 0 _ _ _ _ (by omega) hp2 (fun s9 ov9 f9 h9 => ?_)
  refine x_aload_n (x_d C_M_append 182 rfl) rfl ?_
  refine x_ldcS (i := 58) (x_d C_M_append 183 rfl) rfl ?_
  refine x_invokevirtual (st := []) (av := [xS (117)]) (x_d C_M_append 184 rfl) k_M_397 m_M_say3 v_M_say3 cl_M rfl rfl (Nat.le_of_ble_eq_true rfl) (by omega) rfl (c_M_say3 Z (d - 1) q (x_up (x_up r 1350 (some cp)) 1351 po) (x_up A 49 pl) dy (by omega) s9 ov9 f9 (((bs ++ [120, 114, 101, 102]) ++ [10]) ++ s_secs pl us gn ch sz sz.toNat 0) (si := 58) rfl h9) ?_
  rintro _ _ ⟨rfl, s71, ov71, f71, rfl, hp71⟩
  refine x_aload_n (x_d C_M_append 185 rfl) rfl ?_
  refine x_bipush (x_d C_M_append 186 rfl) (by omega) ?_
  refine x_invokevirtual (st := []) (av := [xI (10)]) (x_d C_M_append 187 rfl) k_M_394 m_M_say2 v_M_say2 cl_M rfl rfl (Nat.le_of_ble_eq_true rfl) (by omega) rfl (c_M_say2 Z (d - 1) q (x_up (x_up r 1350 (some cp)) 1351 po) (x_up A 49 pl) dy s71 ov71 f71 ((((bs ++ [120, 114, 101, 102]) ++ [10]) ++ s_secs pl us gn ch sz sz.toNat 0) ++ [116, 114, 97, 105, 108, 101, 114]) 10 hp71) ?_
  rintro _ _ ⟨rfl, s72, ov72, f72, rfl, hp72⟩
  refine x_aload_n (x_d C_M_append 188 rfl) rfl ?_
  refine x_aload_n (x_d C_M_append 189 rfl) rfl ?_
  refine x_invokevirtual (st := [xC 42]) (av := []) (x_d C_M_append 190 rfl) k_M_434 m_M_newTrailer v_M_newTrailer cl_M rfl rfl (Nat.le_of_ble_eq_true rfl) (by omega) rfl (c_M_newTrailer Z (d - 1) (x_up (x_up q 1359 s72) 1360 ov72) r (x_up (x_up A 49 pl) 48 f72) dy (by omega) po X E g P hgk cp bt tb lt ctr sz fis fge fpl fva fch hp hsz (by omega) p ht hk7 hdj n2 hE hSz) ?_
  rintro v_ _ ⟨rfl, ny, fsn, rfl, hmu, hcn, hwn⟩
  refine x_invokevirtual (st := []) (av := [xC (52 + dy.length)]) (x_d C_M_append 191 rfl) k_M_414 m_M_write v_M_write cl_M rfl rfl (Nat.le_of_ble_eq_true rfl) (by omega) rfl (hwn (d - 1) q (x_up (x_up r 1350 (some cp)) 1351 po) (x_up A 49 pl) (by omega) s72 ov72 f72 (((((bs ++ [120, 114, 101, 102]) ++ [10]) ++ s_secs pl us gn ch sz sz.toNat 0) ++ [116, 114, 97, 105, 108, 101, 114]) ++ [10]) hp72) ?_
  rintro _ _ ⟨rfl, s73, ov73, f73, rfl, hp73⟩
  refine x_aload_n (x_d C_M_append 192 rfl) rfl ?_
  refine x_bipush (x_d C_M_append 193 rfl) (by omega) ?_
  refine x_invokevirtual (st := []) (av := [xI (10)]) (x_d C_M_append 194 rfl) k_M_394 m_M_say2 v_M_say2 cl_M rfl rfl (Nat.le_of_ble_eq_true rfl) (by omega) rfl (c_M_say2 Z (d - 1) q (x_up (x_up r 1350 (some cp)) 1351 po) (x_up A 49 pl) (dy ++ ny) s73 ov73 f73 ((((((bs ++ [120, 114, 101, 102]) ++ [10]) ++ s_secs pl us gn ch sz sz.toNat 0) ++ [116, 114, 97, 105, 108, 101, 114]) ++ [10]) ++ s_trl (s_wv (P 5) (P 6) (P 7) (P 8) (P 9) X n2 7) (P 8) (P 9) X n2 p sz lt) 10 hp73) ?_
  rintro _ _ ⟨rfl, s74, ov74, f74, rfl, hp74⟩
  refine x_aload_n (x_d C_M_append 195 rfl) rfl ?_
  refine x_ldcS (i := 55) (x_d C_M_append 196 rfl) rfl ?_
  refine x_invokevirtual (st := []) (av := [xS (111)]) (x_d C_M_append 197 rfl) k_M_397 m_M_say3 v_M_say3 cl_M rfl rfl (Nat.le_of_ble_eq_true rfl) (by omega) rfl (c_M_say3 Z (d - 1) q (x_up (x_up r 1350 (some cp)) 1351 po) (x_up A 49 pl) (dy ++ ny) (by omega) s74 ov74 f74 (((((((bs ++ [120, 114, 101, 102]) ++ [10]) ++ s_secs pl us gn ch sz sz.toNat 0) ++ [116, 114, 97, 105, 108, 101, 114]) ++ [10]) ++ s_trl (s_wv (P 5) (P 6) (P 7) (P 8) (P 9) X n2 7) (P 8) (P 9) X n2 p sz lt) ++ [10]) (si := 55) rfl hp74) ?_
  rintro _ _ ⟨rfl, s75, ov75, f75, rfl, hp75⟩
  refine x_aload_n (x_d C_M_append 198 rfl) rfl ?_
  refine x_bipush (x_d C_M_append 199 rfl) (by omega) ?_
  refine x_invokevirtual (st := []) (av := [xI (10)]) (x_d C_M_append 200 rfl) k_M_394 m_M_say2 v_M_say2 cl_M rfl rfl (Nat.le_of_ble_eq_true rfl) (by omega) rfl (c_M_say2 Z (d - 1) q (x_up (x_up r 1350 (some cp)) 1351 po) (x_up A 49 pl) (dy ++ ny) s75 ov75 f75 ((((((((bs ++ [120, 114, 101, 102]) ++ [10]) ++ s_secs pl us gn ch sz sz.toNat 0) ++ [116, 114, 97, 105, 108, 101, 114]) ++ [10]) ++ s_trl (s_wv (P 5) (P 6) (P 7) (P 8) (P 9) X n2 7) (P 8) (P 9) X n2 p sz lt) ++ [10]) ++ [115, 116, 97, 114, 116, 120, 114, 101, 102]) 10 hp75) ?_
  rintro _ _ ⟨rfl, s76, ov76, f76, rfl, hp76⟩
  refine x_aload_n (x_d C_M_append 201 rfl) rfl ?_
  refine x_iload_n (x_d C_M_append 202 rfl) rfl ?_
  refine x_iconst (x_d C_M_append 203 rfl) ⟨by omega, by omega⟩ ?_
  refine x_invokevirtual (st := []) (av := [xI (s), xI (1)]) (x_d C_M_append 204 rfl) k_M_400 m_M_number v_M_number cl_M rfl rfl (Nat.le_of_ble_eq_true rfl) (by omega) rfl (c_M_number1 Z (d - 1) q (x_up (x_up r 1350 (some cp)) 1351 po) (x_up A 49 pl) (dy ++ ny) (by omega) s76 ov76 f76 (((((((((bs ++ [120, 114, 101, 102]) ++ [10]) ++ s_secs pl us gn ch sz sz.toNat 0) ++ [116, 114, 97, 105, 108, 101, 114]) ++ [10]) ++ s_trl (s_wv (P 5) (P 6) (P 7) (P 8) (P 9) X n2 7) (P 8) (P 9) X n2 p sz lt) ++ [10]) ++ [115, 116, 97, 114, 116, 120, 114, 101, 102]) ++ [10]) (s) (by omega) hp76) ?_
  rintro _ _ ⟨rfl, s77, ov77, f77, rfl, hp77⟩
  refine x_aload_n (x_d C_M_append 205 rfl) rfl ?_
  refine x_bipush (x_d C_M_append 206 rfl) (by omega) ?_
  refine x_invokevirtual (st := []) (av := [xI (10)]) (x_d C_M_append 207 rfl) k_M_394 m_M_say2 v_M_say2 cl_M rfl rfl (Nat.le_of_ble_eq_true rfl) (by omega) rfl (c_M_say2 Z (d - 1) q (x_up (x_up r 1350 (some cp)) 1351 po) (x_up A 49 pl) (dy ++ ny) s77 ov77 f77 ((((((((((bs ++ [120, 114, 101, 102]) ++ [10]) ++ s_secs pl us gn ch sz sz.toNat 0) ++ [116, 114, 97, 105, 108, 101, 114]) ++ [10]) ++ s_trl (s_wv (P 5) (P 6) (P 7) (P 8) (P 9) X n2 7) (P 8) (P 9) X n2 p sz lt) ++ [10]) ++ [115, 116, 97, 114, 116, 120, 114, 101, 102]) ++ [10]) ++ s_int (s)) 10 hp77) ?_
  rintro _ _ ⟨rfl, s78, ov78, f78, rfl, hp78⟩
  refine x_aload_n (x_d C_M_append 208 rfl) rfl ?_
  refine x_ldcS (i := 56) (x_d C_M_append 209 rfl) rfl ?_
  refine x_invokevirtual (st := []) (av := [xS (113)]) (x_d C_M_append 210 rfl) k_M_397 m_M_say3 v_M_say3 cl_M rfl rfl (Nat.le_of_ble_eq_true rfl) (by omega) rfl (c_M_say3 Z (d - 1) q (x_up (x_up r 1350 (some cp)) 1351 po) (x_up A 49 pl) (dy ++ ny) (by omega) s78 ov78 f78 (((((((((((bs ++ [120, 114, 101, 102]) ++ [10]) ++ s_secs pl us gn ch sz sz.toNat 0) ++ [116, 114, 97, 105, 108, 101, 114]) ++ [10]) ++ s_trl (s_wv (P 5) (P 6) (P 7) (P 8) (P 9) X n2 7) (P 8) (P 9) X n2 p sz lt) ++ [10]) ++ [115, 116, 97, 114, 116, 120, 114, 101, 102]) ++ [10]) ++ s_int (s)) ++ [10]) (si := 56) rfl hp78) ?_
  rintro _ _ ⟨rfl, s9, ov9, f9, rfl, hp79⟩
  refine x_aload_n (x_d C_M_append 211 rfl) rfl ?_
  refine x_bipush (x_d C_M_append 212 rfl) (by omega) ?_
  refine x_invokevirtual (st := []) (av := [xI (10)]) (x_d C_M_append 213 rfl) k_M_394 m_M_say2 v_M_say2 cl_M rfl rfl (Nat.le_of_ble_eq_true rfl) (by omega) rfl (c_M_say2 Z (d - 1) q (x_up (x_up r 1350 (some cp)) 1351 po) (x_up A 49 pl) (dy ++ ny) s9 ov9 f9 ((((((((((((bs ++ [120, 114, 101, 102]) ++ [10]) ++ s_secs pl us gn ch sz sz.toNat 0) ++ [116, 114, 97, 105, 108, 101, 114]) ++ [10]) ++ s_trl (s_wv (P 5) (P 6) (P 7) (P 8) (P 9) X n2 7) (P 8) (P 9) X n2 p sz lt) ++ [10]) ++ [115, 116, 97, 114, 116, 120, 114, 101, 102]) ++ [10]) ++ s_int (s)) ++ [10]) ++ [37, 37, 69, 79, 70]) 10 hp79) ?_
  rintro _ _ ⟨rfl, s10, ov10, f10, rfl, hp10⟩
  refine x_return (x_d C_M_append 214 rfl) ?_
  refine ⟨rfl, _, _, _, pl, ny, rfl, hmu, hpl, ?_⟩
  have hL2 : L = bs ++ ([120, 114, 101, 102, 10] ++ (s_secs (fun k => ((B ++ s_obs (s_of (s_wv (P 5) (P 6) (P 7) (P 8) (P 9) X n2 8) rt gn us ch) k).length : Int)) us gn ch sz sz.toNat 0 ++ ([116, 114, 97, 105, 108, 101, 114, 10] ++ (s_trl (s_wv (P 5) (P 6) (P 7) (P 8) (P 9) X n2 7) (P 8) (P 9) X n2 p sz lt ++ ([10, 115, 116, 97, 114, 116, 120, 114, 101, 102, 10] ++ (s_int (bs.length : Int) ++ [10, 37, 37, 69, 79, 70, 10])))))) := by
    rw [hL, hbs]
    unfold s_file
    rw [if_neg hch]
  rw [hL2]
  rcases hpz with ⟨k1, k2, k3, k4⟩ | ⟨k1, k2⟩
  · have e1 : s_secs pl us gn ch sz sz.toNat 0 = s_secs (fun k => ((B ++ s_obs (s_of (s_wv (P 5) (P 6) (P 7) (P 8) (P 9) X n2 8) rt gn us ch) k).length : Int)) us gn ch sz sz.toNat 0 := s_secs_eq (fun j j1 j2 j3 j4 => by
      rcases hpi j.toNat (by omega) j3 j4 with e | e
      · exact e
      · omega) _ 0 (Int.le_refl 0)
    have g9 := hp10
    rw [e1, k3] at g9
    exact pb_fix g9 (by simp only [List.append_assoc]; rfl)
  · have g9 := hp10
    simp only [List.append_assoc] at g9
    exact pb_any g9 k1
theorem w_M_append_2 (Z : xZ) (d : Nat) (q : Nat → Int) (r : Nat → Option Nat) (A : Nat → Nat → Int) (dy : xH) (hd : 18 ≤ d) (po : Option Nat) (X : Nat → Int) (E : Int) (g : Nat → Option xE) (P : Nat → Nat → Int) (hgk : gok g dy) (cp : Nat) (bt : Option Nat) (tb lt : Int) (ctr : Nat) (sz : Int) (fis fge fpl : Nat → Int) (fva : Nat → Option Nat) (fch : Nat → Int) (hp : PB dy cp bt tb lt (some ctr) sz fis fge fpl fva fch) (hsz : 0 ≤ sz ∧ sz ≤ 300) (hlt : 0 ≤ lt ∧ lt ≤ 2147483647) (p : Int) (ht : Tr X E g P 9 p ctr) (hk7 : P 5 p.toNat = 7) (hdj : Dj g ctr) (n2 : Int) (hE : E ≤ n2) (hSz : 0 ≤ s_nam (P 8) (P 9) X n2 p [83, 105, 122, 101]) (us gn ch : Nat → Int) (hug : ∀ k : Nat, (k : Int) < sz → (fis k = 2 ↔ ¬ us k = 0) ∧ gn k = fge k ∧ fch k = ch k ∧ (0 ≤ gn k ∧ gn k ≤ 99999)) (rt : Nat → Int) (hva : ∀ k : Nat, (k : Int) < sz → ¬ us k = 0 → ∃ c2, fva k = some c2 ∧ Tr X E g P 9 (rt k) c2) (B L : List Int) (hL : L = s_file (s_wv (P 5) (P 6) (P 7) (P 8) (P 9) X n2 8) (s_wv (P 5) (P 6) (P 7) (P 8) (P 9) X n2 7) rt gn us ch (P 8) (P 9) X n2 p sz lt B) (hch : ¬ s_sm ch sz.toNat = 0) : ∀ (m : Nat) (s ov : Int) (f pl : Nat → Int) (t : Int), (0 ≤ t ∧ t + m = sz) → (∀ k, 0 ≤ pl k ∧ pl k ≤ 6000) → (∀ k : Nat, (k : Int) < t → ¬ ch k = 0 → ¬ us k = 0 → pl k = (B ++ s_obs (s_of (s_wv (P 5) (P 6) (P 7) (P 8) (P 9) X n2 8) rt gn us ch) k).length ∨ 6000 < (B ++ s_obs (s_of (s_wv (P 5) (P 6) (P 7) (P 8) (P 9) X n2 8) rt gn us ch) t.toNat).length) → pb 6000 s ov f (B ++ s_obs (s_of (s_wv (P 5) (P 6) (P 7) (P 8) (P 9) X n2 8) rt gn us ch) t.toNat) → xW Z d Y_M_append 2 [(0, xC 42), (1, xI t)] [] (hF (x_up (x_up q 1359 s) 1360 ov) (x_up (x_up r 1350 (some cp)) 1351 po) (x_up (x_up A 49 pl) 48 f) ++ dy) (fun v0 h2 => v0 = none ∧ ∃ s2 ov2 f2 pl2 ny, h2 = hF (x_up (x_up q 1359 s2) 1360 ov2) (x_up (x_up r 1350 (some cp)) 1351 po) (x_up (x_up A 49 pl2) 48 f2) ++ (dy ++ ny) ∧ (∀ u w, mu u w ny ≤ 6 * u + 160 * w) ∧ (∀ k, 0 ≤ pl2 k ∧ pl2 k ≤ 6000) ∧ pb 6000 s2 ov2 f2 L) := by
  have hpp : ct dy cp (xB 11 [xO bt, xI tb, xI lt, xC ctr, xC (cp + 1), xC (cp + 2), xC (cp + 3), xC (cp + 4), xC (cp + 5), xI sz]) := hp.1
  intro m
  induction m with
  | zero =>
    intro s ov f pl t ht0 hpl hpi hpb
    obtain rfl : sz = t := by omega
    refine x_iload_n (x_d C_M_append 2 rfl) rfl ?_
    refine x_aload_n (x_d C_M_append 3 rfl) rfl ?_
    refine x_getfield (v := xC cp) (x_d C_M_append 4 rfl) f_M_207 rfl rfl ?_
    refine x_getfield (v := xI (sz)) (x_d C_M_append 5 rfl) f_M_266 (ct_get hpp _ _ _) rfl ?_
    refine x_icmp_ge (tgt := 128) (x_d C_M_append 6 rfl) rfl (fun _ => ?_) (fun q => absurd q (by omega))
    refine x_locs [0] rfl ?_
    exact w_M_append_128 Z d q r A dy hd po X E g P hgk cp bt tb lt ctr sz fis fge fpl fva fch hp hsz hlt p ht hk7 hdj n2 hE hSz us gn ch hug rt hva B L hL hch s ov f pl hpl hpi hpb
  | succ m ih =>
    intro s ov f pl t ht0 hpl hpi hpb
    have hp0 := hpb.1
    have hp1 := hpb.2.1
    have hpz := hpb.2.2
    obtain ⟨hu1, hu2, hu3, hu4⟩ := hug t.toNat (by omega)
    obtain ⟨bs, hbs⟩ : ∃ bs, bs = B ++ s_obs (s_of (s_wv (P 5) (P 6) (P 7) (P 8) (P 9) X n2 8) rt gn us ch) t.toNat := ⟨_, rfl⟩
    rw [← hbs] at hpb hpz
    have hst : s_obs (s_of (s_wv (P 5) (P 6) (P 7) (P 8) (P 9) X n2 8) rt gn us ch) (t + 1).toNat = s_obs (s_of (s_wv (P 5) (P 6) (P 7) (P 8) (P 9) X n2 8) rt gn us ch) t.toNat ++ (s_of (s_wv (P 5) (P 6) (P 7) (P 8) (P 9) X n2 8) rt gn us ch) t.toNat := by rw [show (t + 1).toNat = t.toNat + 1 by omega]; rfl
    have hmo := s_obs_mono (s_of (s_wv (P 5) (P 6) (P 7) (P 8) (P 9) X n2 8) rt gn us ch) B (t + 1).toNat t.toNat (by omega)
    have hvt : ¬ us t.toNat = 0 → ∃ c2, fva t.toNat = some c2 ∧ Tr X E g P 9 (rt t.toNat) c2 := fun z => hva t.toNat (by omega) z
    refine x_iload_n (x_d C_M_append 2 rfl) rfl ?_
    refine x_aload_n (x_d C_M_append 3 rfl) rfl ?_
    refine x_getfield (v := xC cp) (x_d C_M_append 4 rfl) f_M_207 rfl rfl ?_
    refine x_getfield (v := xI (sz)) (x_d C_M_append 5 rfl) f_M_266 (ct_get hpp _ _ _) rfl ?_
    refine x_icmp_ge (tgt := 128) (x_d C_M_append 6 rfl) rfl (fun q => absurd q (by omega)) (fun _ => ?_)
    refine x_aload_n (x_d C_M_append 7 rfl) rfl ?_
    refine x_getfield (v := xC cp) (x_d C_M_append 8 rfl) f_M_207 rfl rfl ?_
    refine x_getfield (v := xC (cp + 5)) (x_d C_M_append 9 rfl) f_M_371 (ct_get hpp _ _ _) rfl ?_
    refine x_iload_n (x_d C_M_append 10 rfl) rfl ?_
    refine x_zaload (f := fch) (x_d C_M_append 11 rfl) (ct_get hp.2.2.2.2.2 _ _ _) (by omega) (by omega) ?_
    refine x_if_eq (tgt := 122) (x_d C_M_append 12 rfl) rfl (fun c2 => ?_) (fun c2 => ?_)
    · refine x_iinc (l1 := [(1, xI (t + 1)), (0, xC 42)]) (x_d C_M_append 64 rfl) rfl ⟨by omega, by omega⟩ (by decide) rfl ?_
      refine x_goto (tgt := 2) (x_d C_M_append 65 rfl) rfl ?_
      refine x_locs [1, 0] rfl ?_
      refine ih s ov f pl (t + 1) (by omega) ?_ ?_ ?_
      · exact hpl
      · intro k h1 h2 h3
        rcases hpi k (by by_cases e : k = t.toNat; rw [e] at h2 h3; omega; omega) h2 h3 with e2 | e2
        · exact Or.inl e2
        · right; omega
      · rw [hst]
        refine pb_fix hpb ?_
        show _ = B ++ (_ ++ (if _ then _ else _))
        rw [if_neg (by omega), hbs, List.append_nil]
    · refine x_aload_n (x_d C_M_append 13 rfl) rfl ?_
      refine x_getfield (v := xC cp) (x_d C_M_append 14 rfl) f_M_207 rfl rfl ?_
      refine x_getfield (v := xC (cp + 1)) (x_d C_M_append 15 rfl) f_M_267 (ct_get hpp _ _ _) rfl ?_
      refine x_iload_n (x_d C_M_append 16 rfl) rfl ?_
      refine x_iaload (f := fis) (x_d C_M_append 17 rfl) (ct_get hp.2.1 _ _ _) (by omega) (by omega) ?_
      refine x_iconst (x_d C_M_append 18 rfl) ⟨by omega, by omega⟩ ?_
      refine x_icmp_eq (tgt := 41) (x_d C_M_append 19 rfl) rfl (fun c3 => ?_) (fun c3 => ?_)
      · obtain ⟨c2, hc2, hT2⟩ := hvt (by omega)
        refine x_aload_n (x_d C_M_append 21 rfl) rfl ?_
        refine x_getfield (v := xC 49) (x_d C_M_append 22 rfl) f_M_182 rfl rfl ?_
        refine x_iload_n (x_d C_M_append 23 rfl) rfl ?_
        refine x_aload_n (x_d C_M_append 24 rfl) rfl ?_
        refine x_getfield (v := xI (s)) (x_d C_M_append 25 rfl) f_M_387 rfl rfl ?_
        refine x_iastore (h1 := hF (x_up (x_up q 1359 s) 1360 ov) (x_up (x_up r 1350 (some cp)) 1351 po) (x_up (x_up A 49 (x_up pl (t).toNat s)) 48 f) ++ dy) (x_d C_M_append 26 rfl) rfl (by omega) (by omega) rfl ?_
        refine x_aload_n (x_d C_M_append 27 rfl) rfl ?_
        refine x_iload_n (x_d C_M_append 28 rfl) rfl ?_
        refine x_iconst (x_d C_M_append 29 rfl) ⟨by omega, by omega⟩ ?_
        refine x_invokevirtual (st := []) (av := [xI (t), xI (1)]) (x_d C_M_append 30 rfl) k_M_400 m_M_number v_M_number cl_M rfl rfl (Nat.le_of_ble_eq_true rfl) (by omega) rfl (c_M_number1 Z (d - 1) q (x_up (x_up r 1350 (some cp)) 1351 po) (x_up A 49 (x_up pl (t).toNat s)) dy (by omega) s ov f bs (t) (by omega) hpb) ?_
        rintro _ _ ⟨rfl, s4, ov4, f4, rfl, hp4⟩
        refine x_aload_n (x_d C_M_append 31 rfl) rfl ?_
        refine x_bipush (x_d C_M_append 32 rfl) (by omega) ?_
        refine x_invokevirtual (st := []) (av := [xI (32)]) (x_d C_M_append 33 rfl) k_M_394 m_M_say2 v_M_say2 cl_M rfl rfl (Nat.le_of_ble_eq_true rfl) (by omega) rfl (c_M_say2 Z (d - 1) q (x_up (x_up r 1350 (some cp)) 1351 po) (x_up A 49 (x_up pl (t).toNat s)) dy s4 ov4 f4 (bs ++ s_int (t)) 32 hp4) ?_
        rintro _ _ ⟨rfl, s5, ov5, f5, rfl, hp5⟩
        refine x_aload_n (x_d C_M_append 34 rfl) rfl ?_
        refine x_aload_n (x_d C_M_append 35 rfl) rfl ?_
        refine x_getfield (v := xC cp) (x_d C_M_append 36 rfl) f_M_207 rfl rfl ?_
        refine x_getfield (v := xC (cp + 2)) (x_d C_M_append 37 rfl) f_M_278 (ct_get hpp _ _ _) rfl ?_
        refine x_iload_n (x_d C_M_append 38 rfl) rfl ?_
        refine x_iaload (f := fge) (x_d C_M_append 39 rfl) (ct_get hp.2.2.1 _ _ _) (by omega) (by omega) ?_
        rw [← hu2]
        refine x_iconst (x_d C_M_append 40 rfl) ⟨by omega, by omega⟩ ?_
        refine x_invokevirtual (st := []) (av := [xI (gn t.toNat), xI (1)]) (x_d C_M_append 41 rfl) k_M_400 m_M_number v_M_number cl_M rfl rfl (Nat.le_of_ble_eq_true rfl) (by omega) rfl (c_M_number1 Z (d - 1) q (x_up (x_up r 1350 (some cp)) 1351 po) (x_up A 49 (x_up pl (t).toNat s)) dy (by omega) s5 ov5 f5 ((bs ++ s_int (t)) ++ [32]) (gn t.toNat) (by omega) hp5) ?_
        rintro _ _ ⟨rfl, s6, ov6, f6, rfl, hp6⟩
        refine x_aload_n (x_d C_M_append 42 rfl) rfl ?_
        refine x_ldcSw (i := 75) (x_d C_M_append 43 rfl) rfl ?_
        refine x_invokevirtual (st := []) (av := [xS (151)]) (x_d C_M_append 44 rfl) k_M_397 m_M_say3 v_M_say3 cl_M rfl rfl (Nat.le_of_ble_eq_true rfl) (by omega) rfl (c_M_say3 Z (d - 1) q (x_up (x_up r 1350 (some cp)) 1351 po) (x_up A 49 (x_up pl (t).toNat s)) dy (by omega) s6 ov6 f6 (((bs ++ s_int (t)) ++ [32]) ++ s_int (gn t.toNat)) (si := 75) rfl hp6) ?_
        rintro _ _ ⟨rfl, s7, ov7, f7, rfl, hp7⟩
        refine x_aload_n (x_d C_M_append 45 rfl) rfl ?_
        refine x_bipush (x_d C_M_append 46 rfl) (by omega) ?_
        refine x_invokevirtual (st := []) (av := [xI (10)]) (x_d C_M_append 47 rfl) k_M_394 m_M_say2 v_M_say2 cl_M rfl rfl (Nat.le_of_ble_eq_true rfl) (by omega) rfl (c_M_say2 Z (d - 1) q (x_up (x_up r 1350 (some cp)) 1351 po) (x_up A 49 (x_up pl (t).toNat s)) dy s7 ov7 f7 ((((bs ++ s_int (t)) ++ [32]) ++ s_int (gn t.toNat)) ++ [32, 111, 98, 106]) 10 hp7) ?_
        rintro _ _ ⟨rfl, s8, ov8, f8, rfl, hp8⟩
        refine x_aload_n (x_d C_M_append 48 rfl) rfl ?_
        refine x_aload_n (x_d C_M_append 49 rfl) rfl ?_
        refine x_getfield (v := xC cp) (x_d C_M_append 50 rfl) f_M_207 rfl rfl ?_
        refine x_getfield (v := xC (cp + 4)) (x_d C_M_append 51 rfl) f_M_281 (ct_get hpp _ _ _) rfl ?_
        refine x_iload_n (x_d C_M_append 52 rfl) rfl ?_
        refine x_aaload (x_d C_M_append 53 rfl) (ct_get hp.2.2.2.2.1 _ _ _) (by omega) (by omega) ?_
        rw [hc2]
        refine x_invokevirtual (st := []) (av := [xC c2]) (x_d C_M_append 54 rfl) k_M_414 m_M_write v_M_write cl_M rfl rfl (Nat.le_of_ble_eq_true rfl) (by omega) rfl (t_write Z q (x_up (x_up r 1350 (some cp)) 1351 po) (x_up A 49 (x_up pl (t).toNat s)) dy X E g P hgk n2 hE 8 (d - 1) (rt t.toNat) c2 (by omega) hT2 s8 ov8 f8 (((((bs ++ s_int (t)) ++ [32]) ++ s_int (gn t.toNat)) ++ [32, 111, 98, 106]) ++ [10]) hp8) ?_
        rintro _ _ ⟨rfl, s9, ov9, f9, rfl, hp9⟩
        refine x_aload_n (x_d C_M_append 55 rfl) rfl ?_
        refine x_bipush (x_d C_M_append 56 rfl) (by omega) ?_
        refine x_invokevirtual (st := []) (av := [xI (10)]) (x_d C_M_append 57 rfl) k_M_394 m_M_say2 v_M_say2 cl_M rfl rfl (Nat.le_of_ble_eq_true rfl) (by omega) rfl (c_M_say2 Z (d - 1) q (x_up (x_up r 1350 (some cp)) 1351 po) (x_up A 49 (x_up pl (t).toNat s)) dy s9 ov9 f9 ((((((bs ++ s_int (t)) ++ [32]) ++ s_int (gn t.toNat)) ++ [32, 111, 98, 106]) ++ [10]) ++ (s_wv (P 5) (P 6) (P 7) (P 8) (P 9) X n2 8) (rt t.toNat)) 10 hp9) ?_
        rintro _ _ ⟨rfl, s10, ov10, f10, rfl, hp10⟩
        refine x_aload_n (x_d C_M_append 58 rfl) rfl ?_
        refine x_ldcSw (i := 70) (x_d C_M_append 59 rfl) rfl ?_
        refine x_invokevirtual (st := []) (av := [xS (141)]) (x_d C_M_append 60 rfl) k_M_397 m_M_say3 v_M_say3 cl_M rfl rfl (Nat.le_of_ble_eq_true rfl) (by omega) rfl (c_M_say3 Z (d - 1) q (x_up (x_up r 1350 (some cp)) 1351 po) (x_up A 49 (x_up pl (t).toNat s)) dy (by omega) s10 ov10 f10 (((((((bs ++ s_int (t)) ++ [32]) ++ s_int (gn t.toNat)) ++ [32, 111, 98, 106]) ++ [10]) ++ (s_wv (P 5) (P 6) (P 7) (P 8) (P 9) X n2 8) (rt t.toNat)) ++ [10]) (si := 70) rfl hp10) ?_
        rintro _ _ ⟨rfl, s11, ov11, f11, rfl, hp11⟩
        refine x_aload_n (x_d C_M_append 61 rfl) rfl ?_
        refine x_bipush (x_d C_M_append 62 rfl) (by omega) ?_
        refine x_invokevirtual (st := []) (av := [xI (10)]) (x_d C_M_append 63 rfl) k_M_394 m_M_say2 v_M_say2 cl_M rfl rfl (Nat.le_of_ble_eq_true rfl) (by omega) rfl (c_M_say2 Z (d - 1) q (x_up (x_up r 1350 (some cp)) 1351 po) (x_up A 49 (x_up pl (t).toNat s)) dy s11 ov11 f11 ((((((((bs ++ s_int (t)) ++ [32]) ++ s_int (gn t.toNat)) ++ [32, 111, 98, 106]) ++ [10]) ++ (s_wv (P 5) (P 6) (P 7) (P 8) (P 9) X n2 8) (rt t.toNat)) ++ [10]) ++ [101, 110, 100, 111, 98, 106]) 10 hp11) ?_
        rintro _ _ ⟨rfl, s12, ov12, f12, rfl, hp12⟩
        refine x_iinc (l1 := [(1, xI (t + 1)), (0, xC 42)]) (x_d C_M_append 64 rfl) rfl ⟨by omega, by omega⟩ (by decide) rfl ?_
        refine x_goto (tgt := 2) (x_d C_M_append 65 rfl) rfl ?_
        refine x_locs [1, 0] rfl ?_
        refine ih s12 ov12 f12 (x_up pl t.toNat s) (t + 1) (by omega) ?_ ?_ ?_
        · intro k
          by_cases e : k = t.toNat
          · rw [e, x_up_s]; omega
          · rw [x_up_n _ _ e]; exact hpl k
        · intro k h1 h2 h3
          by_cases e : k = t.toNat
          · rw [e, x_up_s]
            rcases hpz with ⟨k1, k2, k3, k4⟩ | ⟨k1, k2⟩
            · left; rw [k3, hbs]
            · right; rw [hbs] at k1; omega
          · rw [x_up_n _ _ e]
            rcases hpi k (by omega) h2 h3 with e2 | e2
            · exact Or.inl e2
            · right; omega
        · rw [hst]
          refine pb_fix hp12 ?_
          show _ = B ++ (_ ++ (if _ then _ else _))
          rw [if_pos ⟨by omega, by omega⟩, hbs, show ((t.toNat : Nat) : Int) = t by omega]
          unfold s_obj
          simp only [List.append_assoc]
          rfl
      · refine x_goto (tgt := 122) (x_d C_M_append 20 rfl) rfl ?_
        refine x_iinc (l1 := [(1, xI (t + 1)), (0, xC 42)]) (x_d C_M_append 64 rfl) rfl ⟨by omega, by omega⟩ (by decide) rfl ?_
        refine x_goto (tgt := 2) (x_d C_M_append 65 rfl) rfl ?_
        refine x_locs [1, 0] rfl ?_
        refine ih s ov f pl (t + 1) (by omega) ?_ ?_ ?_
        · exact hpl
        · intro k h1 h2 h3
          rcases hpi k (by by_cases e : k = t.toNat; rw [e] at h2 h3; omega; omega) h2 h3 with e2 | e2
          · exact Or.inl e2
          · right; omega
        · rw [hst]
          refine pb_fix hpb ?_
          show _ = B ++ (_ ++ (if _ then _ else _))
          rw [if_neg (by omega), hbs, List.append_nil]
theorem c_M_append (Z : xZ) (d : Nat) (q : Nat → Int) (r : Nat → Option Nat) (A : Nat → Nat → Int) (dy : xH) (hd : 18 ≤ d) (po : Option Nat) (X : Nat → Int) (E : Int) (g : Nat → Option xE) (P : Nat → Nat → Int) (hgk : gok g dy) (cp : Nat) (bt : Option Nat) (tb lt : Int) (ctr : Nat) (sz : Int) (fis fge fpl : Nat → Int) (fva : Nat → Option Nat) (fch : Nat → Int) (hp : PB dy cp bt tb lt (some ctr) sz fis fge fpl fva fch) (hsz : 0 ≤ sz ∧ sz ≤ 300) (hlt : 0 ≤ lt ∧ lt ≤ 2147483647) (p : Int) (ht : Tr X E g P 9 p ctr) (hk7 : P 5 p.toNat = 7) (hdj : Dj g ctr) (n2 : Int) (hE : E ≤ n2) (hSz : 0 ≤ s_nam (P 8) (P 9) X n2 p [83, 105, 122, 101]) (us gn ch : Nat → Int) (hug : ∀ k : Nat, (k : Int) < sz → (fis k = 2 ↔ ¬ us k = 0) ∧ gn k = fge k ∧ fch k = ch k ∧ (0 ≤ gn k ∧ gn k ≤ 99999)) (rt : Nat → Int) (hva : ∀ k : Nat, (k : Int) < sz → ¬ us k = 0 → ∃ c2, fva k = some c2 ∧ Tr X E g P 9 (rt k) c2) (B L : List Int) (hL : L = s_file (s_wv (P 5) (P 6) (P 7) (P 8) (P 9) X n2 8) (s_wv (P 5) (P 6) (P 7) (P 8) (P 9) X n2 7) rt gn us ch (P 8) (P 9) X n2 p sz lt B) (hch : ¬ s_sm ch sz.toNat = 0) (s ov : Int) (f pl : Nat → Int) (hpl : ∀ k, 0 ≤ pl k ∧ pl k ≤ 6000) (hpb : pb 6000 s ov f B) : xMet Z d Y_M_append [xC 42] (hF (x_up (x_up q 1359 s) 1360 ov) (x_up (x_up r 1350 (some cp)) 1351 po) (x_up (x_up A 49 pl) 48 f) ++ dy) (fun v0 h2 => v0 = none ∧ ∃ s2 ov2 f2 pl2 ny, h2 = hF (x_up (x_up q 1359 s2) 1360 ov2) (x_up (x_up r 1350 (some cp)) 1351 po) (x_up (x_up A 49 pl2) 48 f2) ++ (dy ++ ny) ∧ (∀ u w, mu u w ny ≤ 6 * u + 160 * w) ∧ (∀ k, 0 ≤ pl2 k ∧ pl2 k ≤ 6000) ∧ pb 6000 s2 ov2 f2 L) := by
  refine xMet_of (by decide) (Nat.le_of_ble_eq_true rfl) (fun v h2 hq => by obtain ⟨e, _⟩ := hq; rw [e]; trivial) ?_
  refine x_iconst (x_d C_M_append 0 rfl) ⟨by omega, by omega⟩ ?_
  refine x_istore_n (l1 := [(1, xI (0)), (0, xC 42)]) (x_d C_M_append 1 rfl) (by decide) rfl ?_
  refine x_locs [1, 0] rfl ?_
  exact w_M_append_2 Z d q r A dy hd po X E g P hgk cp bt tb lt ctr sz fis fge fpl fva fch hp hsz hlt p ht hk7 hdj n2 hE hSz us gn ch hug rt hva B L hL hch sz.toNat s ov f pl 0 (by omega) hpl (fun k h => absurd h (by omega)) (pb_fix hpb (List.append_nil _).symm)
