/-! the writer: a file -/
/-- what n objects are written as -/
def s_obs (f : Nat → List Int) : Nat → List Int
  | 0 => []
  | n + 1 => s_obs f n ++ f n
def s_of (W : Int → List Int) (root gen us ch : Nat → Int) : Nat → List Int := fun k => if ¬ ch k = 0 ∧ ¬ us k = 0 then s_obj W root gen k else []
def s_file (W W2 : Int → List Int) (root gen us ch sp nm b : Nat → Int) (n p sz lt : Int) (B : List Int) : List Int := if s_sm ch sz.toNat = 0 then B else (B ++ s_obs (s_of W root gen us ch) sz.toNat) ++ ([120, 114, 101, 102, 10] ++ (s_secs (fun k => (B ++ s_obs (s_of W root gen us ch) k).length) us gen ch sz sz.toNat 0 ++ ([116, 114, 97, 105, 108, 101, 114, 10] ++ (s_trl W2 sp nm b n p sz lt ++ ([10, 115, 116, 97, 114, 116, 120, 114, 101, 102, 10] ++ (s_int (B ++ s_obs (s_of W root gen us ch) sz.toNat).length ++ [10, 37, 37, 69, 79, 70, 10]))))))
theorem pb_any {lm s ov : Int} {f : Nat → Int} {a x y : List Int} (h : pb lm s ov f (a ++ x)) (hl : lm < a.length) : pb lm s ov f (a ++ y) := by
  obtain ⟨p1, p2, p3⟩ := h
  refine ⟨p1, p2, Or.inr ?_⟩
  rw [List.length_append] at p3 ⊢
  rcases p3 with ⟨p3, p4, p5, p6⟩ | ⟨p3, p4⟩
  · omega
  · exact ⟨by omega, p4⟩
theorem s_obs_mono (f : Nat → List Int) (B : List Int) : ∀ (n k : Nat), k ≤ n → (B ++ s_obs f k).length ≤ (B ++ s_obs f n).length
  | 0, k, h => by rw [show k = 0 by omega]; exact Nat.le_refl _
  | n + 1, k, h => by
    by_cases e : k = n + 1
    · rw [e]; exact Nat.le_refl _
    · refine Nat.le_trans (s_obs_mono f B n k (by omega)) ?_
      show _ ≤ (B ++ (s_obs f n ++ f n)).length
      rw [List.length_append, List.length_append, List.length_append]
      omega
theorem w_Wr_writeFile_112 (Z : xZ) (d : Nat) (q : Nat → Int) (r : Nat → Option Nat) (A : Nat → Nat → Int) (dy : xH) (hd : 28 ≤ d) (s ov : Int) (f pl : Nat → Int) (B : List Int) (L : List Int) (t : Int) (hl : 0 ≤ q 1283 ∧ q 1283 ≤ 6000) (hz : 0 ≤ q 837 ∧ q 837 ≤ 300) (hT : 0 ≤ q 34 ∧ q 34 ≤ q 35 ∧ q 35 ≤ 10248) (hR : s_okR A) (hsp : ∀ j, 0 ≤ A 8 j ∧ A 8 j ≤ 12900) (hpp : 0 ≤ q 840 ∧ q 840 < 12900 ∧ s_bh (A 8) (q 840) ≤ 12900) (hlt : 0 ≤ q 839 ∧ q 839 ≤ 2147483647) (hmem : ∀ x, x ∈ s_in (A 8) (q 840) → wv (A 5) (A 6) (A 7) (A 8) (A 9) (A 2) (q 35) 7 x ∧ 0 ≤ A 9 x.toNat ∧ wnm (A 9) (A 2) (q 35) x) (hga : ∀ k, k < 300 → 0 ≤ A 28 k ∧ A 28 k ≤ 99999) (hpl : ∀ k, 0 ≤ pl k ∧ pl k ≤ 6000) (hch : ¬ s_sm (A 30) (q 837).toNat = 0) (hL : L = s_file (s_wv (A 5) (A 6) (A 7) (A 8) (A 9) (A 2) (q 35) 8) (s_wv (A 5) (A 6) (A 7) (A 8) (A 9) (A 2) (q 35) 7) (A 27) (A 28) (A 29) (A 30) (A 8) (A 9) (A 2) (q 35) (q 840) (q 837) (q 839) B) (hpi : ∀ k : Nat, (k : Int) < q 837 → ¬ A 30 k = 0 → ¬ A 29 k = 0 → pl k = (B ++ s_obs (s_of (s_wv (A 5) (A 6) (A 7) (A 8) (A 9) (A 2) (q 35) 8) (A 27) (A 28) (A 29) (A 30)) k).length ∨ q 1283 < (B ++ s_obs (s_of (s_wv (A 5) (A 6) (A 7) (A 8) (A 9) (A 2) (q 35) 8) (A 27) (A 28) (A 29) (A 30)) (q 837).toNat).length) (hp : pb (q 1283) s ov f (B ++ s_obs (s_of (s_wv (A 5) (A 6) (A 7) (A 8) (A 9) (A 2) (q 35) 8) (A 27) (A 28) (A 29) (A 30)) (q 837).toNat)) : xW Z d Y_Wr_writeFile 112 [(0, xC 16), (1, xC 26), (2, xC 40), (3, xI t)] [] (hF (x_up (x_up q 1281 s) 1282 ov) (x_up (x_up r 515 (some 26)) 516 (some 40)) (x_up (x_up A 17 pl) 41 f) ++ dy) (fun v0 h2 => v0 = none ∧ ∃ s2 ov2 f2 pl2, h2 = hF (x_up (x_up q 1281 s2) 1282 ov2) (x_up (x_up r 515 (some 26)) 516 (some 40)) (x_up (x_up A 17 pl2) 41 f2) ++ dy ∧ pb (q 1283) s2 ov2 f2 L ∧ ∀ k, 0 ≤ pl2 k ∧ pl2 k ≤ 6000) := by
  have hp0 := hp.1
  have hp1 := hp.2.1
  have hpz := hp.2.2
  obtain ⟨bs, hbs⟩ : ∃ bs, bs = B ++ s_obs (s_of (s_wv (A 5) (A 6) (A 7) (A 8) (A 9) (A 2) (q 35) 8) (A 27) (A 28) (A 29) (A 30)) (q 837).toNat := ⟨_, rfl⟩
  rw [← hbs] at hp hpz hpi
  refine x_aload_n (x_d C_Wr_writeFile 54 rfl) rfl ?_
  refine x_getfield (v := xC 40) (x_d C_Wr_writeFile 55 rfl) f_Wr_27 rfl rfl ?_
  refine x_getfield (v := xI (s)) (x_d C_Wr_writeFile 56 rfl) f_Wr_70 rfl rfl ?_
  refine x_istore_n (l1 := [(3, xI (s)), (0, xC 16), (1, xC 26), (2, xC 40)]) (x_d C_Wr_writeFile 57 rfl) (by decide) rfl ?_
  refine x_aload_n (x_d C_Wr_writeFile 58 rfl) rfl ?_
  refine x_getfield (v := xC 40) (x_d C_Wr_writeFile 59 rfl) f_Wr_27 rfl rfl ?_
  refine x_ldcS (i := 40) (x_d C_Wr_writeFile 60 rfl) rfl ?_
  refine x_invokevirtual (st := []) (av := [xS (81)]) (x_d C_Wr_writeFile 61 rfl) k_Wr_73 m_Pa_addText v_Pa_addText cl_Pa rfl rfl (Nat.le_of_ble_eq_true rfl) (by omega) rfl (c_Pb_addText_40 Z (d - 1) q (x_up (x_up r 515 (some 26)) 516 (some 40)) (x_up A 17 pl) dy s ov f (bs) (by omega) (i := 40) rfl hl hp) ?_
  rintro _ _ ⟨rfl, s1, ov1, f1, rfl, hp1⟩
  have hp1 : pb (q 1283) s1 ov1 f1 (bs ++ [120, 114, 101, 102, 10]) := hp1
  have hp01 := hp1.1
  have hp11 := hp1.2.1
  refine x_aload_n (x_d C_Wr_writeFile 62 rfl) rfl ?_
  refine x_invokevirtual (st := []) (av := []) (x_d C_Wr_writeFile 63 rfl) k_Wr_77 m_Wr_writeSections v_Wr_writeSections cl_Wr rfl rfl (Nat.le_of_ble_eq_true rfl) (by omega) rfl (c_Wr_writeSections Z (d - 1) q r A dy s1 ov1 f1 (bs ++ [120, 114, 101, 102, 10]) pl (by omega)  hl hp1 hz hga hpl) ?_
  rintro _ _ ⟨rfl, s2, ov2, f2, rfl, hp2⟩
  have hp02 := hp2.1
  have hp12 := hp2.2.1
  refine x_aload_n (x_d C_Wr_writeFile 64 rfl) rfl ?_
  refine x_getfield (v := xC 40) (x_d C_Wr_writeFile 65 rfl) f_Wr_27 rfl rfl ?_
  refine x_ldcS (i := 43) (x_d C_Wr_writeFile 66 rfl) rfl ?_
  refine x_invokevirtual (st := []) (av := [xS (87)]) (x_d C_Wr_writeFile 67 rfl) k_Wr_73 m_Pa_addText v_Pa_addText cl_Pa rfl rfl (Nat.le_of_ble_eq_true rfl) (by omega) rfl (c_Pb_addText_40 Z (d - 1) q (x_up (x_up r 515 (some 26)) 516 (some 40)) (x_up A 17 pl) dy s2 ov2 f2 (bs ++ [120, 114, 101, 102, 10] ++ s_secs pl (A 29) (A 28) (A 30) (q 837) (q 837).toNat 0) (by omega) (i := 43) rfl hl hp2) ?_
  rintro _ _ ⟨rfl, s3, ov3, f3, rfl, hp3⟩
  have hp3 : pb (q 1283) s3 ov3 f3 (bs ++ [120, 114, 101, 102, 10] ++ s_secs pl (A 29) (A 28) (A 30) (q 837) (q 837).toNat 0 ++ [116, 114, 97, 105, 108, 101, 114, 10]) := hp3
  have hp03 := hp3.1
  have hp13 := hp3.2.1
  refine x_aload_n (x_d C_Wr_writeFile 68 rfl) rfl ?_
  refine x_invokevirtual (st := []) (av := []) (x_d C_Wr_writeFile 69 rfl) k_Wr_82 m_Wr_writeTrailer v_Wr_writeTrailer cl_Wr rfl rfl (Nat.le_of_ble_eq_true rfl) (by omega) rfl (c_Wr_writeTrailer Z (d - 1) q r A dy s3 ov3 f3 (bs ++ [120, 114, 101, 102, 10] ++ s_secs pl (A 29) (A 28) (A 30) (q 837) (q 837).toNat 0 ++ [116, 114, 97, 105, 108, 101, 114, 10]) pl (by omega)  hl hp3 hz hT hR hsp hpp hlt hmem) ?_
  rintro _ _ ⟨rfl, s4, ov4, f4, rfl, hp4⟩
  have hp04 := hp4.1
  have hp14 := hp4.2.1
  refine x_aload_n (x_d C_Wr_writeFile 70 rfl) rfl ?_
  refine x_getfield (v := xC 40) (x_d C_Wr_writeFile 71 rfl) f_Wr_27 rfl rfl ?_
  refine x_ldcS (i := 47) (x_d C_Wr_writeFile 72 rfl) rfl ?_
  refine x_invokevirtual (st := []) (av := [xS (95)]) (x_d C_Wr_writeFile 73 rfl) k_Wr_73 m_Pa_addText v_Pa_addText cl_Pa rfl rfl (Nat.le_of_ble_eq_true rfl) (by omega) rfl (c_Pb_addText_40 Z (d - 1) q (x_up (x_up r 515 (some 26)) 516 (some 40)) (x_up A 17 pl) dy s4 ov4 f4 (bs ++ [120, 114, 101, 102, 10] ++ s_secs pl (A 29) (A 28) (A 30) (q 837) (q 837).toNat 0 ++ [116, 114, 97, 105, 108, 101, 114, 10] ++ s_trl (s_wv (A 5) (A 6) (A 7) (A 8) (A 9) (A 2) (q 35) 7) (A 8) (A 9) (A 2) (q 35) (q 840) (q 837) (q 839)) (by omega) (i := 47) rfl hl hp4) ?_
  rintro _ _ ⟨rfl, s5, ov5, f5, rfl, hp5⟩
  have hp5 : pb (q 1283) s5 ov5 f5 (bs ++ [120, 114, 101, 102, 10] ++ s_secs pl (A 29) (A 28) (A 30) (q 837) (q 837).toNat 0 ++ [116, 114, 97, 105, 108, 101, 114, 10] ++ s_trl (s_wv (A 5) (A 6) (A 7) (A 8) (A 9) (A 2) (q 35) 7) (A 8) (A 9) (A 2) (q 35) (q 840) (q 837) (q 839) ++ [10, 115, 116, 97, 114, 116, 120, 114, 101, 102, 10]) := hp5
  have hp05 := hp5.1
  have hp15 := hp5.2.1
  refine x_aload_n (x_d C_Wr_writeFile 74 rfl) rfl ?_
  refine x_getfield (v := xC 40) (x_d C_Wr_writeFile 75 rfl) f_Wr_27 rfl rfl ?_
  refine x_iload_n (x_d C_Wr_writeFile 76 rfl) rfl ?_
  refine x_invokevirtual (st := []) (av := [xI (s)]) (x_d C_Wr_writeFile 77 rfl) k_Wr_87 m_Pa_addInt v_Pa_addInt cl_Pa rfl rfl (Nat.le_of_ble_eq_true rfl) (by omega) rfl (c_Pb_addInt_40 Z (d - 1) q (x_up (x_up r 515 (some 26)) 516 (some 40)) (x_up A 17 pl) dy s5 ov5 f5 (bs ++ [120, 114, 101, 102, 10] ++ s_secs pl (A 29) (A 28) (A 30) (q 837) (q 837).toNat 0 ++ [116, 114, 97, 105, 108, 101, 114, 10] ++ s_trl (s_wv (A 5) (A 6) (A 7) (A 8) (A 9) (A 2) (q 35) 7) (A 8) (A 9) (A 2) (q 35) (q 840) (q 837) (q 839) ++ [10, 115, 116, 97, 114, 116, 120, 114, 101, 102, 10]) (by omega) s hl hp5 (by omega)) ?_
  rintro _ _ ⟨rfl, s6, ov6, f6, rfl, hp6⟩
  have hp06 := hp6.1
  have hp16 := hp6.2.1
  refine x_aload_n (x_d C_Wr_writeFile 78 rfl) rfl ?_
  refine x_getfield (v := xC 40) (x_d C_Wr_writeFile 79 rfl) f_Wr_27 rfl rfl ?_
  refine x_ldcS (i := 48) (x_d C_Wr_writeFile 80 rfl) rfl ?_
  refine x_invokevirtual (st := []) (av := [xS (97)]) (x_d C_Wr_writeFile 81 rfl) k_Wr_73 m_Pa_addText v_Pa_addText cl_Pa rfl rfl (Nat.le_of_ble_eq_true rfl) (by omega) rfl (c_Pb_addText_40 Z (d - 1) q (x_up (x_up r 515 (some 26)) 516 (some 40)) (x_up A 17 pl) dy s6 ov6 f6 (bs ++ [120, 114, 101, 102, 10] ++ s_secs pl (A 29) (A 28) (A 30) (q 837) (q 837).toNat 0 ++ [116, 114, 97, 105, 108, 101, 114, 10] ++ s_trl (s_wv (A 5) (A 6) (A 7) (A 8) (A 9) (A 2) (q 35) 7) (A 8) (A 9) (A 2) (q 35) (q 840) (q 837) (q 839) ++ [10, 115, 116, 97, 114, 116, 120, 114, 101, 102, 10] ++ (s_int s)) (by omega) (i := 48) rfl hl hp6) ?_
  rintro _ _ ⟨rfl, s7, ov7, f7, rfl, hp7⟩
  have hp7 : pb (q 1283) s7 ov7 f7 (bs ++ [120, 114, 101, 102, 10] ++ s_secs pl (A 29) (A 28) (A 30) (q 837) (q 837).toNat 0 ++ [116, 114, 97, 105, 108, 101, 114, 10] ++ s_trl (s_wv (A 5) (A 6) (A 7) (A 8) (A 9) (A 2) (q 35) 7) (A 8) (A 9) (A 2) (q 35) (q 840) (q 837) (q 839) ++ [10, 115, 116, 97, 114, 116, 120, 114, 101, 102, 10] ++ (s_int s) ++ [10, 37, 37, 69, 79, 70, 10]) := hp7
  have hp07 := hp7.1
  have hp17 := hp7.2.1
  refine x_return (x_d C_Wr_writeFile 82 rfl) ?_
  refine ⟨rfl, _, _, _, pl, rfl, ?_, hpl⟩
  have hL2 : L = bs ++ ([120, 114, 101, 102, 10] ++ (s_secs (fun k => ((B ++ s_obs (s_of (s_wv (A 5) (A 6) (A 7) (A 8) (A 9) (A 2) (q 35) 8) (A 27) (A 28) (A 29) (A 30)) k).length : Int)) (A 29) (A 28) (A 30) (q 837) (q 837).toNat 0 ++ ([116, 114, 97, 105, 108, 101, 114, 10] ++ (s_trl (s_wv (A 5) (A 6) (A 7) (A 8) (A 9) (A 2) (q 35) 7) (A 8) (A 9) (A 2) (q 35) (q 840) (q 837) (q 839) ++ ([10, 115, 116, 97, 114, 116, 120, 114, 101, 102, 10] ++ (s_int (bs.length : Int) ++ [10, 37, 37, 69, 79, 70, 10])))))) := by
    rw [hL, hbs]
    unfold s_file
    rw [if_neg hch]
  rw [hL2]
  rcases hpz with ⟨k1, k2, k3, k4⟩ | ⟨k1, k2⟩
  · have e1 : s_secs pl (A 29) (A 28) (A 30) (q 837) (q 837).toNat 0 = s_secs (fun k => ((B ++ s_obs (s_of (s_wv (A 5) (A 6) (A 7) (A 8) (A 9) (A 2) (q 35) 8) (A 27) (A 28) (A 29) (A 30)) k).length : Int)) (A 29) (A 28) (A 30) (q 837) (q 837).toNat 0 := s_secs_eq (fun j j1 j2 j3 j4 => by
      rcases hpi j.toNat (by omega) j3 j4 with e | e
      · exact e
      · omega) _ 0 (Int.le_refl 0)
    have g := hp7
    rw [e1, k3] at g
    exact pb_fix g (by simp only [List.append_assoc])
  · have g := hp7
    simp only [List.append_assoc] at g
    exact pb_any g k1
theorem w_Wr_writeFile_66 (Z : xZ) (d : Nat) (q : Nat → Int) (r : Nat → Option Nat) (A : Nat → Nat → Int) (dy : xH) (hd : 28 ≤ d) (B : List Int) (L : List Int) (hl : 0 ≤ q 1283 ∧ q 1283 ≤ 6000) (hz : 0 ≤ q 837 ∧ q 837 ≤ 300) (hT : 0 ≤ q 34 ∧ q 34 ≤ q 35 ∧ q 35 ≤ 10248) (hR : s_okR A) (hsp : ∀ j, 0 ≤ A 8 j ∧ A 8 j ≤ 12900) (hpp : 0 ≤ q 840 ∧ q 840 < 12900 ∧ s_bh (A 8) (q 840) ≤ 12900) (hlt : 0 ≤ q 839 ∧ q 839 ≤ 2147483647) (hmem : ∀ x, x ∈ s_in (A 8) (q 840) → wv (A 5) (A 6) (A 7) (A 8) (A 9) (A 2) (q 35) 7 x ∧ 0 ≤ A 9 x.toNat ∧ wnm (A 9) (A 2) (q 35) x) (hga : ∀ k, k < 300 → 0 ≤ A 28 k ∧ A 28 k ≤ 99999) (hus : ∀ k : Nat, (k : Int) < q 837 → ¬ A 29 k = 0 → wv (A 5) (A 6) (A 7) (A 8) (A 9) (A 2) (q 35) 8 (A 27 k)) (hch : ¬ s_sm (A 30) (q 837).toNat = 0) (hL : L = s_file (s_wv (A 5) (A 6) (A 7) (A 8) (A 9) (A 2) (q 35) 8) (s_wv (A 5) (A 6) (A 7) (A 8) (A 9) (A 2) (q 35) 7) (A 27) (A 28) (A 29) (A 30) (A 8) (A 9) (A 2) (q 35) (q 840) (q 837) (q 839) B) : ∀ (m : Nat) (s ov : Int) (f pl : Nat → Int) (t : Int), (0 ≤ t ∧ t + m = q 837) → (∀ k, 0 ≤ pl k ∧ pl k ≤ 6000) → (∀ k : Nat, (k : Int) < t → ¬ A 30 k = 0 → ¬ A 29 k = 0 → pl k = (B ++ s_obs (s_of (s_wv (A 5) (A 6) (A 7) (A 8) (A 9) (A 2) (q 35) 8) (A 27) (A 28) (A 29) (A 30)) k).length ∨ q 1283 < (B ++ s_obs (s_of (s_wv (A 5) (A 6) (A 7) (A 8) (A 9) (A 2) (q 35) 8) (A 27) (A 28) (A 29) (A 30)) t.toNat).length) → pb (q 1283) s ov f (B ++ s_obs (s_of (s_wv (A 5) (A 6) (A 7) (A 8) (A 9) (A 2) (q 35) 8) (A 27) (A 28) (A 29) (A 30)) t.toNat) → xW Z d Y_Wr_writeFile 66 [(0, xC 16), (1, xC 26), (2, xC 40), (3, xI t)] [] (hF (x_up (x_up q 1281 s) 1282 ov) (x_up (x_up r 515 (some 26)) 516 (some 40)) (x_up (x_up A 17 pl) 41 f) ++ dy) (fun v0 h2 => v0 = none ∧ ∃ s2 ov2 f2 pl2, h2 = hF (x_up (x_up q 1281 s2) 1282 ov2) (x_up (x_up r 515 (some 26)) 516 (some 40)) (x_up (x_up A 17 pl2) 41 f2) ++ dy ∧ pb (q 1283) s2 ov2 f2 L ∧ ∀ k, 0 ≤ pl2 k ∧ pl2 k ≤ 6000) := by
  intro m
  induction m with
  | zero =>
    intro s ov f pl t ht hpl hpi hp
    obtain rfl : t = q 837 := by omega
    refine x_iload_n (x_d C_Wr_writeFile 32 rfl) rfl ?_
    refine x_aload_n (x_d C_Wr_writeFile 33 rfl) rfl ?_
    refine x_getfield (v := xC 26) (x_d C_Wr_writeFile 34 rfl) f_Wr_23 rfl rfl ?_
    refine x_getfield (v := xI (q 837)) (x_d C_Wr_writeFile 35 rfl) f_Wr_60 rfl rfl ?_
    refine x_icmp_ge (tgt := 112) (x_d C_Wr_writeFile 36 rfl) rfl (fun _ => ?_) (fun q => absurd q (by omega))
    exact w_Wr_writeFile_112 Z d q r A dy hd s ov f pl B L _ hl hz hT hR hsp hpp hlt hmem hga hpl hch hL hpi hp
  | succ m ih =>
    intro s ov f pl t ht hpl hpi hp
    have hp0 := hp.1
    have hp1 := hp.2.1
    have hpz := hp.2.2
    refine xW_ok (fun _ _ hok => ?_)
    have hz29 := hF_z hok 29 300 rfl t.toNat
    have hz30 := hF_z hok 30 300 rfl t.toNat
    obtain ⟨bs, hbs⟩ : ∃ bs, bs = B ++ s_obs (s_of (s_wv (A 5) (A 6) (A 7) (A 8) (A 9) (A 2) (q 35) 8) (A 27) (A 28) (A 29) (A 30)) t.toNat := ⟨_, rfl⟩
    rw [← hbs] at hp hpz
    have hst : s_obs (s_of (s_wv (A 5) (A 6) (A 7) (A 8) (A 9) (A 2) (q 35) 8) (A 27) (A 28) (A 29) (A 30)) (t + 1).toNat = s_obs (s_of (s_wv (A 5) (A 6) (A 7) (A 8) (A 9) (A 2) (q 35) 8) (A 27) (A 28) (A 29) (A 30)) t.toNat ++ (s_of (s_wv (A 5) (A 6) (A 7) (A 8) (A 9) (A 2) (q 35) 8) (A 27) (A 28) (A 29) (A 30)) t.toNat := by rw [show (t + 1).toNat = t.toNat + 1 by omega]; rfl
    have hmo := s_obs_mono (s_of (s_wv (A 5) (A 6) (A 7) (A 8) (A 9) (A 2) (q 35) 8) (A 27) (A 28) (A 29) (A 30)) B (t + 1).toNat t.toNat (by omega)
    refine x_iload_n (x_d C_Wr_writeFile 32 rfl) rfl ?_
    refine x_aload_n (x_d C_Wr_writeFile 33 rfl) rfl ?_
    refine x_getfield (v := xC 26) (x_d C_Wr_writeFile 34 rfl) f_Wr_23 rfl rfl ?_
    refine x_getfield (v := xI (q 837)) (x_d C_Wr_writeFile 35 rfl) f_Wr_60 rfl rfl ?_
    refine x_icmp_ge (tgt := 112) (x_d C_Wr_writeFile 36 rfl) rfl (fun q => absurd q (by omega)) (fun _ => ?_)
    refine x_aload_n (x_d C_Wr_writeFile 37 rfl) rfl ?_
    refine x_getfield (v := xC 26) (x_d C_Wr_writeFile 38 rfl) f_Wr_23 rfl rfl ?_
    refine x_getfield (v := xC 30) (x_d C_Wr_writeFile 39 rfl) f_Wr_52 rfl rfl ?_
    refine x_iload_n (x_d C_Wr_writeFile 40 rfl) rfl ?_
    refine x_zaload (f := A 30) (x_d C_Wr_writeFile 41 rfl) rfl (by omega) (by omega) ?_
    refine x_if_eq (tgt := 106) (x_d C_Wr_writeFile 42 rfl) rfl (fun c2 => ?_) (fun c2 => ?_)
    · refine x_iinc (l1 := [(3, xI (t + 1)), (0, xC 16), (1, xC 26), (2, xC 40)]) (x_d C_Wr_writeFile 52 rfl) rfl ⟨by omega, by omega⟩ (by decide) rfl ?_
      refine x_goto (tgt := 66) (x_d C_Wr_writeFile 53 rfl) rfl ?_
      refine x_locs [1, 2, 3, 0] rfl ?_
      refine ih s ov f pl (t + 1) (by omega) ?_ ?_ ?_
      · exact hpl
      · intro k h1 h2 h3
        rcases hpi k (by by_cases e : k = t.toNat; rw [e] at h2 h3; omega; omega) h2 h3 with e2 | e2
        · exact Or.inl e2
        · right; omega
      · rw [hst]
        refine pb_fix hp ?_
        show _ = B ++ (_ ++ (if _ then _ else _))
        rw [if_neg (by omega), hbs, List.append_nil]
    · refine x_aload_n (x_d C_Wr_writeFile 43 rfl) rfl ?_
      refine x_getfield (v := xC 26) (x_d C_Wr_writeFile 44 rfl) f_Wr_23 rfl rfl ?_
      refine x_getfield (v := xC 29) (x_d C_Wr_writeFile 45 rfl) f_Wr_63 rfl rfl ?_
      refine x_iload_n (x_d C_Wr_writeFile 46 rfl) rfl ?_
      refine x_zaload (f := A 29) (x_d C_Wr_writeFile 47 rfl) rfl (by omega) (by omega) ?_
      refine x_if_eq (tgt := 106) (x_d C_Wr_writeFile 48 rfl) rfl (fun c3 => ?_) (fun c3 => ?_)
      · refine x_iinc (l1 := [(3, xI (t + 1)), (0, xC 16), (1, xC 26), (2, xC 40)]) (x_d C_Wr_writeFile 52 rfl) rfl ⟨by omega, by omega⟩ (by decide) rfl ?_
        refine x_goto (tgt := 66) (x_d C_Wr_writeFile 53 rfl) rfl ?_
        refine x_locs [1, 2, 3, 0] rfl ?_
        refine ih s ov f pl (t + 1) (by omega) ?_ ?_ ?_
        · exact hpl
        · intro k h1 h2 h3
          rcases hpi k (by by_cases e : k = t.toNat; rw [e] at h2 h3; omega; omega) h2 h3 with e2 | e2
          · exact Or.inl e2
          · right; omega
        · rw [hst]
          refine pb_fix hp ?_
          show _ = B ++ (_ ++ (if _ then _ else _))
          rw [if_neg (by omega), hbs, List.append_nil]
      · refine x_aload_n (x_d C_Wr_writeFile 49 rfl) rfl ?_
        refine x_iload_n (x_d C_Wr_writeFile 50 rfl) rfl ?_
        refine x_invokevirtual (st := []) (av := [xI (t)]) (x_d C_Wr_writeFile 51 rfl) k_Wr_66 m_Wr_writeObject v_Wr_writeObject cl_Wr rfl rfl (Nat.le_of_ble_eq_true rfl) (by omega) rfl (c_Wr_writeObject Z (d - 1) q r A dy s ov f (bs) pl (by omega) t hl hp hT hR hsp (by omega) (hga _ (by omega)) (hus t.toNat (by omega) (by omega))) ?_
        rintro _ _ ⟨rfl, s4, ov4, f4, rfl, hp4⟩
        have hp04 := hp4.1
        have hp14 := hp4.2.1
        refine x_iinc (l1 := [(3, xI (t + 1)), (0, xC 16), (1, xC 26), (2, xC 40)]) (x_d C_Wr_writeFile 52 rfl) rfl ⟨by omega, by omega⟩ (by decide) rfl ?_
        refine x_goto (tgt := 66) (x_d C_Wr_writeFile 53 rfl) rfl ?_
        refine x_locs [1, 2, 3, 0] rfl ?_
        refine ih s4 ov4 f4 (x_up pl t.toNat s) (t + 1) (by omega) ?_ ?_ ?_
        · intro k
          by_cases e : k = t.toNat
          · rw [e, x_up_s]; omega
          · rw [x_up_n _ _ e]; exact hpl k
        · intro k h1 h2 h3
          by_cases e : k = t.toNat
          · rw [e, x_up_s]
            rcases hpz with ⟨k1, k2, k3, k4⟩ | ⟨k1, k2⟩
            · left; rw [k3, hbs]
            · right; rw [hbs] at k1; omega
          · rw [x_up_n _ _ e]
            rcases hpi k (by omega) h2 h3 with e2 | e2
            · exact Or.inl e2
            · right; omega
        · rw [hst]
          refine pb_fix hp4 ?_
          show _ = B ++ (_ ++ (if _ then _ else _))
          rw [if_pos ⟨by omega, by omega⟩, hbs, show ((t.toNat : Nat) : Int) = t by omega, List.append_assoc]
theorem c_Wr_writeFile (Z : xZ) (d : Nat) (q : Nat → Int) (r : Nat → Option Nat) (A : Nat → Nat → Int) (dy : xH) (hd : 28 ≤ d) (s ov : Int) (f pl : Nat → Int) (L : List Int) (hl : 0 ≤ q 1283 ∧ q 1283 ≤ 6000) (hp : pb (q 1283) s ov f []) (hz : 0 ≤ q 837 ∧ q 837 ≤ 300) (hT : 0 ≤ q 34 ∧ q 34 ≤ q 35 ∧ q 35 ≤ 10248) (hR : s_okR A) (hsp : ∀ j, 0 ≤ A 8 j ∧ A 8 j ≤ 12900) (hpp : 0 ≤ q 840 ∧ q 840 < 12900 ∧ s_bh (A 8) (q 840) ≤ 12900) (hlt : 0 ≤ q 839 ∧ q 839 ≤ 2147483647) (hmem : ∀ x, x ∈ s_in (A 8) (q 840) → wv (A 5) (A 6) (A 7) (A 8) (A 9) (A 2) (q 35) 7 x ∧ 0 ≤ A 9 x.toNat ∧ wnm (A 9) (A 2) (q 35) x) (hga : ∀ k, k < 300 → 0 ≤ A 28 k ∧ A 28 k ≤ 99999) (hus : ∀ k : Nat, (k : Int) < q 837 → ¬ A 29 k = 0 → wv (A 5) (A 6) (A 7) (A 8) (A 9) (A 2) (q 35) 8 (A 27 k)) (hfr : 0 ≤ q 841 ∧ q 841 ≤ q 842 ∧ q 842 ≤ 10248) (hpl : ∀ k, 0 ≤ pl k ∧ pl k ≤ 6000) (hL : L = s_file (s_wv (A 5) (A 6) (A 7) (A 8) (A 9) (A 2) (q 35) 8) (s_wv (A 5) (A 6) (A 7) (A 8) (A 9) (A 2) (q 35) 7) (A 27) (A 28) (A 29) (A 30) (A 8) (A 9) (A 2) (q 35) (q 840) (q 837) (q 839) (s_sl (A 2) (q 841).toNat (q 842 - q 841).toNat)) : xMet Z d Y_Wr_writeFile [xC 16, xC 26, xC 40] (hF (x_up (x_up q 1281 s) 1282 ov) r (x_up (x_up A 17 pl) 41 f) ++ dy) (fun v0 h2 => v0 = none ∧ ∃ s2 ov2 f2 pl2, h2 = hF (x_up (x_up q 1281 s2) 1282 ov2) (x_up (x_up r 515 (some 26)) 516 (some 40)) (x_up (x_up A 17 pl2) 41 f2) ++ dy ∧ pb (q 1283) s2 ov2 f2 L ∧ ∀ k, 0 ≤ pl2 k ∧ pl2 k ≤ 6000) := by
  refine xMet_of (by decide) (Nat.le_of_ble_eq_true rfl) (fun v0 h2 hq => by rw [hq.1]; trivial) ?_
  have hp0 := hp.1
  have hp1 := hp.2.1
  refine x_aload_n (x_d C_Wr_writeFile 0 rfl) rfl ?_
  refine x_aload_n (x_d C_Wr_writeFile 1 rfl) rfl ?_
  refine x_putfield (h1 := hF (x_up (x_up q 1281 s) 1282 ov) (x_up r 515 (some 26)) (x_up (x_up A 17 pl) 41 f) ++ dy) (x_d C_Wr_writeFile 2 rfl) p_Wr_23 rfl rfl rfl trivial rfl ?_
  refine x_aload_n (x_d C_Wr_writeFile 3 rfl) rfl ?_
  refine x_aload_n (x_d C_Wr_writeFile 4 rfl) rfl ?_
  refine x_putfield (h1 := hF (x_up (x_up q 1281 s) 1282 ov) (x_up (x_up r 515 (some 26)) 516 (some 40)) (x_up (x_up A 17 pl) 41 f) ++ dy) (x_d C_Wr_writeFile 5 rfl) p_Wr_27 rfl rfl rfl trivial rfl ?_
  refine x_aload_n (x_d C_Wr_writeFile 6 rfl) rfl ?_
  refine x_getfield (v := xC 40) (x_d C_Wr_writeFile 7 rfl) f_Wr_27 rfl rfl ?_
  refine x_aload_n (x_d C_Wr_writeFile 8 rfl) rfl ?_
  refine x_getfield (v := xC 1) (x_d C_Wr_writeFile 9 rfl) f_Wr_15 rfl rfl ?_
  refine x_getfield (v := xC 2) (x_d C_Wr_writeFile 10 rfl) f_Wr_31 rfl rfl ?_
  refine x_aload_n (x_d C_Wr_writeFile 11 rfl) rfl ?_
  refine x_getfield (v := xC 26) (x_d C_Wr_writeFile 12 rfl) f_Wr_23 rfl rfl ?_
  refine x_getfield (v := xI (q 841)) (x_d C_Wr_writeFile 13 rfl) f_Wr_37 rfl rfl ?_
  refine x_aload_n (x_d C_Wr_writeFile 14 rfl) rfl ?_
  refine x_getfield (v := xC 26) (x_d C_Wr_writeFile 15 rfl) f_Wr_23 rfl rfl ?_
  refine x_getfield (v := xI (q 842)) (x_d C_Wr_writeFile 16 rfl) f_Wr_43 rfl rfl ?_
  refine x_aload_n (x_d C_Wr_writeFile 17 rfl) rfl ?_
  refine x_getfield (v := xC 26) (x_d C_Wr_writeFile 18 rfl) f_Wr_23 rfl rfl ?_
  refine x_getfield (v := xI (q 841)) (x_d C_Wr_writeFile 19 rfl) f_Wr_37 rfl rfl ?_
  refine x_isub (x_d C_Wr_writeFile 20 rfl) ⟨by omega, by omega⟩ ?_
  refine x_invokevirtual (st := []) (av := [xC 2, xI (q 841), xI (q 842 - (q 841))]) (x_d C_Wr_writeFile 21 rfl) k_Wr_46 m_Pa_addRow v_Pa_addRow cl_Pa rfl rfl (Nat.le_of_ble_eq_true rfl) (by omega) rfl (c_Pb_addRow_40_2 Z (d - 1) q (x_up (x_up r 515 (some 26)) 516 (some 40)) (x_up A 17 pl) dy s ov f ([]) (by omega) (q 841) (q 842 - (q 841)) hl hp (by omega)) ?_
  rintro _ _ ⟨rfl, s1, ov1, f1, rfl, hp1⟩
  have hp01 := hp1.1
  have hp11 := hp1.2.1
  refine x_aload_n (x_d C_Wr_writeFile 22 rfl) rfl ?_
  refine x_getfield (v := xC 26) (x_d C_Wr_writeFile 23 rfl) f_Wr_23 rfl rfl ?_
  refine x_aload_n (x_d C_Wr_writeFile 24 rfl) rfl ?_
  refine x_getfield (v := xC 26) (x_d C_Wr_writeFile 25 rfl) f_Wr_23 rfl rfl ?_
  refine x_getfield (v := xC 30) (x_d C_Wr_writeFile 26 rfl) f_Wr_52 rfl rfl ?_
  refine x_invokevirtual (st := []) (av := [xC 30]) (x_d C_Wr_writeFile 27 rfl) k_Wr_56 m_B_marked v_B_marked cl_B rfl rfl (Nat.le_of_ble_eq_true rfl) (by omega) rfl (c_B_marked_30 Z (d - 1) (x_up (x_up q 1281 s1) 1282 ov1) (x_up (x_up r 515 (some 26)) 516 (some 40)) (x_up (x_up A 17 pl) 41 f1) dy hz) ?_
  rintro v_ _ ⟨hv_, rfl⟩
  obtain rfl : v_ = some (xI (s_sm (A 30) (q 837).toNat)) := hv_
  refine x_if_ne (tgt := 64) (x_d C_Wr_writeFile 28 rfl) rfl (fun c2 => ?_) (fun c2 => ?_)
  · refine x_iconst (x_d C_Wr_writeFile 30 rfl) ⟨by omega, by omega⟩ ?_
    refine x_istore_n (l1 := [(3, xI (0)), (0, xC 16), (1, xC 26), (2, xC 40)]) (x_d C_Wr_writeFile 31 rfl) (by decide) rfl ?_
    refine x_locs [1, 2, 3, 0] rfl ?_
    exact w_Wr_writeFile_66 Z d q r A dy hd (s_sl (A 2) (q 841).toNat (q 842 - q 841).toNat) L hl hz hT hR hsp hpp hlt hmem hga hus (by omega) hL (q 837).toNat s1 ov1 f1 pl 0 (by omega) hpl (fun k h => absurd h (by omega)) (pb_fix hp1 (by rw [List.nil_append]; exact (List.append_nil _).symm))
  · refine x_return (x_d C_Wr_writeFile 29 rfl) ?_
    exact ⟨rfl, _, _, _, pl, rfl, pb_fix hp1 (by rw [hL]; unfold s_file; rw [if_pos (by omega)]; rfl), hpl⟩
