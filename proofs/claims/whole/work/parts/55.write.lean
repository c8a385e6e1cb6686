/-! the writer: objects, sections, trailer -/
/-- an object as it is written -/
def s_obj (W : Int → List Int) (root gen : Nat → Int) (n : Int) : List Int := s_int n ++ ([32] ++ (s_int (gen n.toNat) ++ ([32, 111, 98, 106, 10] ++ (W (root n.toNat) ++ [10, 101, 110, 100, 111, 98, 106, 10]))))
def s_en (pl us gen : Nat → Int) (k : Int) : List Int := s_dg 10 (if us k.toNat = 0 then 0 else pl k.toNat) ++ ([32] ++ (s_dg 5 (gen k.toNat) ++ (if us k.toNat = 0 then [32, 102, 32, 10] else [32, 110, 32, 10])))
def s_el (pl us gen : Nat → Int) : Nat → Int → List Int
  | 0, _ => []
  | m + 1, k => s_en pl us gen k ++ s_el pl us gen m (k + 1)
/-- the end of the row of changed ones -/
def s_end (ch : Nat → Int) (sz : Int) : Nat → Int → Int
  | 0, t => t
  | m + 1, t => if t < sz ∧ ¬ ch t.toNat = 0 then s_end ch sz m (t + 1) else t
def s_sec (pl us gen ch : Nat → Int) (sz n : Int) : List Int := s_int n ++ ([32] ++ (s_int (s_end ch sz (sz - n).toNat n - n) ++ ([10] ++ s_el pl us gen (s_end ch sz (sz - n).toNat n - n).toNat n)))
def s_secs (pl us gen ch : Nat → Int) (sz : Int) : Nat → Int → List Int
  | 0, _ => []
  | m + 1, n => (if ¬ ch n.toNat = 0 ∧ (n = 0 ∨ ch (n - 1).toNat = 0) then s_sec pl us gen ch sz n else []) ++ s_secs pl us gen ch sz m (n + 1)
theorem s_end_in (ch : Nat → Int) (sz : Int) : ∀ (m : Nat) (t : Int), t ≤ s_end ch sz m t ∧ s_end ch sz m t ≤ t + m ∧ (∀ k, t ≤ k → k < s_end ch sz m t → k < sz ∧ ¬ ch k.toNat = 0) ∧ (t ≤ sz → s_end ch sz m t ≤ sz)
  | 0, t => ⟨Int.le_refl t, by show t ≤ t + 0; omega, fun k h1 h2 => by have : k < t := h2; omega, fun h => h⟩
  | m + 1, t => by
    have h := s_end_in ch sz m (t + 1)
    unfold s_end
    split
    · next c =>
      refine ⟨by omega, by omega, fun k h1 h2 => ?_, fun _ => h.2.2.2 (by omega)⟩
      by_cases e : k = t
      · rw [e]; exact c
      · exact h.2.2.1 k (by omega) h2
    · exact ⟨Int.le_refl t, by omega, fun k h1 h2 => by omega, fun h => h⟩
theorem s_el_eq {pl p2 us gen : Nat → Int} : ∀ (m : Nat) (k : Int), (∀ j, k ≤ j → j < k + m → ¬ us j.toNat = 0 → pl j.toNat = p2 j.toNat) → s_el pl us gen m k = s_el p2 us gen m k
  | 0, _, _ => rfl
  | m + 1, k, h => by
    have e : s_en pl us gen k = s_en p2 us gen k := by
      unfold s_en
      by_cases c : us k.toNat = 0
      · rw [if_pos c, if_pos c, if_pos c]
      · rw [if_neg c, if_neg c, if_neg c, h k (by omega) (by omega) c]
    show s_en pl us gen k ++ s_el pl us gen m (k + 1) = _
    rw [e, s_el_eq m (k + 1) (fun j h1 h2 h3 => h j (by omega) (by omega) h3)]
    rfl
theorem s_secs_eq {pl p2 us gen ch : Nat → Int} {sz : Int} (h : ∀ j : Int, 0 ≤ j → j < sz → ¬ ch j.toNat = 0 → ¬ us j.toNat = 0 → pl j.toNat = p2 j.toNat) : ∀ (m : Nat) (n : Int), 0 ≤ n → s_secs pl us gen ch sz m n = s_secs p2 us gen ch sz m n
  | 0, _, _ => rfl
  | m + 1, n, h0 => by
    have e : s_sec pl us gen ch sz n = s_sec p2 us gen ch sz n := by
      have h1 := s_end_in ch sz (sz - n).toNat n
      unfold s_sec
      rw [s_el_eq _ n (fun j h2 h3 h4 => by have := h1.2.2.1 j h2 (by omega); exact h j (by omega) this.1 this.2 h4)]
    show _ ++ s_secs pl us gen ch sz m (n + 1) = _ ++ s_secs p2 us gen ch sz m (n + 1)
    rw [e, s_secs_eq h m (n + 1) (by omega)]
theorem c_Wr_writeObject (Z : xZ) (d : Nat) (q : Nat → Int) (r : Nat → Option Nat) (A : Nat → Nat → Int) (dy : xH) (s ov : Int) (f : Nat → Int) (bs : List Int) (pl : Nat → Int) (hd : 27 ≤ d) (n : Int) (hl : 0 ≤ q 1283 ∧ q 1283 ≤ 6000) (hp : pb (q 1283) s ov f bs) (hT : 0 ≤ q 34 ∧ q 34 ≤ q 35 ∧ q 35 ≤ 10248) (hR : s_okR A) (hsp : ∀ j, 0 ≤ A 8 j ∧ A 8 j ≤ 12900) (hn : 0 ≤ n ∧ n < 300) (hgn : 0 ≤ A 28 n.toNat ∧ A 28 n.toNat ≤ 99999) (hwv : wv (A 5) (A 6) (A 7) (A 8) (A 9) (A 2) (q 35) 8 (A 27 n.toNat)) : xMet Z d Y_Wr_writeObject [xC 16, xI n] (hF (x_up (x_up q 1281 s) 1282 ov) (x_up (x_up r 515 (some 26)) 516 (some 40)) (x_up (x_up A 17 pl) 41 f) ++ dy) (fun v0 h2 => v0 = none ∧ ∃ s2 ov2 f2, h2 = hF (x_up (x_up q 1281 s2) 1282 ov2) (x_up (x_up r 515 (some 26)) 516 (some 40)) (x_up (x_up A 17 (x_up pl n.toNat s)) 41 f2) ++ dy ∧ pb (q 1283) s2 ov2 f2 (bs ++ s_obj (s_wv (A 5) (A 6) (A 7) (A 8) (A 9) (A 2) (q 35) 8) (A 27) (A 28) n)) := by
  refine xMet_of (by decide) (Nat.le_of_ble_eq_true rfl) (fun v0 h2 hq => by rw [hq.1]; trivial) ?_
  have hp0 := hp.1
  have hp1 := hp.2.1
  have hw := wv_wl hwv
  obtain ⟨w1, w2, w3, -⟩ := hw
  refine x_aload_n (x_d C_Wr_writeObject 0 rfl) rfl ?_
  refine x_getfield (v := xC 17) (x_d C_Wr_writeObject 1 rfl) f_Wr_9 rfl rfl ?_
  refine x_iload_n (x_d C_Wr_writeObject 2 rfl) rfl ?_
  refine x_aload_n (x_d C_Wr_writeObject 3 rfl) rfl ?_
  refine x_getfield (v := xC 40) (x_d C_Wr_writeObject 4 rfl) f_Wr_27 rfl rfl ?_
  refine x_getfield (v := xI (s)) (x_d C_Wr_writeObject 5 rfl) f_Wr_70 rfl rfl ?_
  refine x_iastore (h1 := hF (x_up (x_up q 1281 s) 1282 ov) (x_up (x_up r 515 (some 26)) 516 (some 40)) (x_up (x_up A 17 (x_up pl (n).toNat s)) 41 f) ++ dy) (x_d C_Wr_writeObject 6 rfl) rfl (by omega) (by omega) rfl ?_
  refine x_aload_n (x_d C_Wr_writeObject 7 rfl) rfl ?_
  refine x_getfield (v := xC 40) (x_d C_Wr_writeObject 8 rfl) f_Wr_27 rfl rfl ?_
  refine x_iload_n (x_d C_Wr_writeObject 9 rfl) rfl ?_
  refine x_invokevirtual (st := []) (av := [xI (n)]) (x_d C_Wr_writeObject 10 rfl) k_Wr_87 m_Pa_addInt v_Pa_addInt cl_Pa rfl rfl (Nat.le_of_ble_eq_true rfl) (by omega) rfl (c_Pb_addInt_40 Z (d - 1) q (x_up (x_up r 515 (some 26)) 516 (some 40)) (x_up A 17 (x_up pl (n).toNat s)) dy s ov f bs (by omega) n hl hp (by omega)) ?_
  rintro _ _ ⟨rfl, s1, ov1, f1, rfl, hp1⟩
  have hp01 := hp1.1
  have hp11 := hp1.2.1
  refine x_aload_n (x_d C_Wr_writeObject 11 rfl) rfl ?_
  refine x_getfield (v := xC 40) (x_d C_Wr_writeObject 12 rfl) f_Wr_27 rfl rfl ?_
  refine x_bipush (x_d C_Wr_writeObject 13 rfl) (by omega) ?_
  refine x_invokevirtual (st := []) (av := [xI (32)]) (x_d C_Wr_writeObject 14 rfl) k_Wr_92 m_Pa_add v_Pa_add cl_Pa rfl rfl (Nat.le_of_ble_eq_true rfl) (by omega) rfl (c_Pb_add_40 Z (d - 1) q (x_up (x_up r 515 (some 26)) 516 (some 40)) (x_up A 17 (x_up pl (n).toNat s)) dy s1 ov1 f1 (bs ++ (s_int n)) 32 hl hp1) ?_
  rintro _ _ ⟨rfl, s2, ov2, f2, rfl, hp2⟩
  have hp02 := hp2.1
  have hp12 := hp2.2.1
  refine x_aload_n (x_d C_Wr_writeObject 15 rfl) rfl ?_
  refine x_getfield (v := xC 40) (x_d C_Wr_writeObject 16 rfl) f_Wr_27 rfl rfl ?_
  refine x_aload_n (x_d C_Wr_writeObject 17 rfl) rfl ?_
  refine x_getfield (v := xC 26) (x_d C_Wr_writeObject 18 rfl) f_Wr_23 rfl rfl ?_
  refine x_getfield (v := xC 28) (x_d C_Wr_writeObject 19 rfl) f_Wr_95 rfl rfl ?_
  refine x_iload_n (x_d C_Wr_writeObject 20 rfl) rfl ?_
  refine x_iaload (f := A 28) (x_d C_Wr_writeObject 21 rfl) rfl (by omega) (by omega) ?_
  refine x_invokevirtual (st := []) (av := [xI (A 28 (n).toNat)]) (x_d C_Wr_writeObject 22 rfl) k_Wr_87 m_Pa_addInt v_Pa_addInt cl_Pa rfl rfl (Nat.le_of_ble_eq_true rfl) (by omega) rfl (c_Pb_addInt_40 Z (d - 1) q (x_up (x_up r 515 (some 26)) 516 (some 40)) (x_up A 17 (x_up pl (n).toNat s)) dy s2 ov2 f2 (bs ++ (s_int n) ++ ([x_by 32])) (by omega) (A 28 (n).toNat) hl hp2 (by omega)) ?_
  rintro _ _ ⟨rfl, s3, ov3, f3, rfl, hp3⟩
  have hp03 := hp3.1
  have hp13 := hp3.2.1
  refine x_aload_n (x_d C_Wr_writeObject 23 rfl) rfl ?_
  refine x_getfield (v := xC 40) (x_d C_Wr_writeObject 24 rfl) f_Wr_27 rfl rfl ?_
  refine x_ldcS (i := 26) (x_d C_Wr_writeObject 25 rfl) rfl ?_
  refine x_invokevirtual (st := []) (av := [xS (53)]) (x_d C_Wr_writeObject 26 rfl) k_Wr_73 m_Pa_addText v_Pa_addText cl_Pa rfl rfl (Nat.le_of_ble_eq_true rfl) (by omega) rfl (c_Pb_addText_40 Z (d - 1) q (x_up (x_up r 515 (some 26)) 516 (some 40)) (x_up A 17 (x_up pl (n).toNat s)) dy s3 ov3 f3 (bs ++ (s_int n) ++ ([x_by 32]) ++ (s_int (A 28 (n).toNat))) (by omega) (i := 26) rfl hl hp3) ?_
  rintro _ _ ⟨rfl, s4, ov4, f4, rfl, hp4⟩
  have hp4 : pb (q 1283) s4 ov4 f4 (bs ++ (s_int n) ++ ([x_by 32]) ++ (s_int (A 28 (n).toNat)) ++ [32, 111, 98, 106, 10]) := hp4
  have hp04 := hp4.1
  have hp14 := hp4.2.1
  refine x_aload_n (x_d C_Wr_writeObject 27 rfl) rfl ?_
  refine x_aload_n (x_d C_Wr_writeObject 28 rfl) rfl ?_
  refine x_getfield (v := xC 26) (x_d C_Wr_writeObject 29 rfl) f_Wr_23 rfl rfl ?_
  refine x_getfield (v := xC 27) (x_d C_Wr_writeObject 30 rfl) f_Wr_100 rfl rfl ?_
  refine x_iload_n (x_d C_Wr_writeObject 31 rfl) rfl ?_
  refine x_iaload (f := A 27) (x_d C_Wr_writeObject 32 rfl) rfl (by omega) (by omega) ?_
  refine x_iconst (x_d C_Wr_writeObject 33 rfl) ⟨by omega, by omega⟩ ?_
  refine x_invokevirtual (st := []) (av := [xI (A 27 (n).toNat), xI (1)]) (x_d C_Wr_writeObject 34 rfl) k_Wr_103 m_Wr_writeValue v_Wr_writeValue cl_Wr rfl rfl (Nat.le_of_ble_eq_true rfl) (by omega) rfl (c_Wr_writeValue Z q r (x_up A 17 (x_up pl (n).toNat s)) dy hl hT hR hsp 8 (by omega) (d - 1) s4 ov4 f4 (bs ++ (s_int n) ++ ([x_by 32]) ++ (s_int (A 28 (n).toNat)) ++ [32, 111, 98, 106, 10]) (A 27 (n).toNat) 1 (by omega) (by omega) hwv hp4) ?_
  rintro _ _ ⟨rfl, s5, ov5, f5, rfl, hp5⟩
  have hp5 : pb (q 1283) s5 ov5 f5 (bs ++ (s_int n) ++ ([x_by 32]) ++ (s_int (A 28 (n).toNat)) ++ [32, 111, 98, 106, 10] ++ s_wv (A 5) (A 6) (A 7) (A 8) (A 9) (A 2) (q 35) 8 (A 27 (n).toNat)) := hp5
  have hp05 := hp5.1
  have hp15 := hp5.2.1
  refine x_aload_n (x_d C_Wr_writeObject 35 rfl) rfl ?_
  refine x_getfield (v := xC 40) (x_d C_Wr_writeObject 36 rfl) f_Wr_27 rfl rfl ?_
  refine x_ldcS (i := 39) (x_d C_Wr_writeObject 37 rfl) rfl ?_
  refine x_invokevirtual (st := []) (av := [xS (79)]) (x_d C_Wr_writeObject 38 rfl) k_Wr_73 m_Pa_addText v_Pa_addText cl_Pa rfl rfl (Nat.le_of_ble_eq_true rfl) (by omega) rfl (c_Pb_addText_40 Z (d - 1) q (x_up (x_up r 515 (some 26)) 516 (some 40)) (x_up A 17 (x_up pl (n).toNat s)) dy s5 ov5 f5 (bs ++ (s_int n) ++ ([x_by 32]) ++ (s_int (A 28 (n).toNat)) ++ [32, 111, 98, 106, 10] ++ s_wv (A 5) (A 6) (A 7) (A 8) (A 9) (A 2) (q 35) 8 (A 27 (n).toNat)) (by omega) (i := 39) rfl hl hp5) ?_
  rintro _ _ ⟨rfl, s6, ov6, f6, rfl, hp6⟩
  have hp6 : pb (q 1283) s6 ov6 f6 (bs ++ (s_int n) ++ ([x_by 32]) ++ (s_int (A 28 (n).toNat)) ++ [32, 111, 98, 106, 10] ++ s_wv (A 5) (A 6) (A 7) (A 8) (A 9) (A 2) (q 35) 8 (A 27 (n).toNat) ++ [10, 101, 110, 100, 111, 98, 106, 10]) := hp6
  have hp06 := hp6.1
  have hp16 := hp6.2.1
  refine x_return (x_d C_Wr_writeObject 39 rfl) ?_
  exact ⟨rfl, _, _, _, rfl, pb_fix hp6 (by unfold s_obj; simp only [List.append_assoc]; rfl)⟩
theorem w_Wr_writeSection_2 (Z : xZ) (d : Nat) (q : Nat → Int) (r : Nat → Option Nat) (A : Nat → Nat → Int) (dy : xH) (n : Int) (s ov : Int) (f pl : Nat → Int) (E : Int) (Q : Option xV → xH → Prop) (hz : 0 ≤ q 837 ∧ q 837 ≤ 300) (kk : xW Z d Y_Wr_writeSection 31 [(0, xC 16), (1, xI n), (2, xI E)] [] (hF (x_up (x_up q 1281 s) 1282 ov) (x_up (x_up r 515 (some 26)) 516 (some 40)) (x_up (x_up A 17 pl) 41 f) ++ dy) Q) : ∀ (m : Nat) (t : Int), 0 ≤ t ∧ (q 837 - t).toNat = m → s_end (A 30) (q 837) m t = E → xW Z d Y_Wr_writeSection 2 [(0, xC 16), (1, xI n), (2, xI t)] [] (hF (x_up (x_up q 1281 s) 1282 ov) (x_up (x_up r 515 (some 26)) 516 (some 40)) (x_up (x_up A 17 pl) 41 f) ++ dy) Q := by
  intro m
  induction m with
  | zero =>
    intro t ht hE
    obtain rfl : t = E := hE
    refine x_iload_n (x_d C_Wr_writeSection 2 rfl) rfl ?_
    refine x_aload_n (x_d C_Wr_writeSection 3 rfl) rfl ?_
    refine x_getfield (v := xC 26) (x_d C_Wr_writeSection 4 rfl) f_Wr_23 rfl rfl ?_
    refine x_getfield (v := xI (q 837)) (x_d C_Wr_writeSection 5 rfl) f_Wr_60 rfl rfl ?_
    refine x_icmp_ge (tgt := 31) (x_d C_Wr_writeSection 6 rfl) rfl (fun _ => ?_) (fun q => absurd q (by omega))
    exact kk
  | succ m ih =>
    intro t ht hE
    refine xW_ok (fun _ _ hok => ?_)
    have hz30 := hF_z hok 30 300 rfl t.toNat
    refine x_iload_n (x_d C_Wr_writeSection 2 rfl) rfl ?_
    refine x_aload_n (x_d C_Wr_writeSection 3 rfl) rfl ?_
    refine x_getfield (v := xC 26) (x_d C_Wr_writeSection 4 rfl) f_Wr_23 rfl rfl ?_
    refine x_getfield (v := xI (q 837)) (x_d C_Wr_writeSection 5 rfl) f_Wr_60 rfl rfl ?_
    refine x_icmp_ge (tgt := 31) (x_d C_Wr_writeSection 6 rfl) rfl (fun q => absurd q (by omega)) (fun _ => ?_)
    refine x_aload_n (x_d C_Wr_writeSection 7 rfl) rfl ?_
    refine x_getfield (v := xC 26) (x_d C_Wr_writeSection 8 rfl) f_Wr_23 rfl rfl ?_
    refine x_getfield (v := xC 30) (x_d C_Wr_writeSection 9 rfl) f_Wr_52 rfl rfl ?_
    refine x_iload_n (x_d C_Wr_writeSection 10 rfl) rfl ?_
    refine x_zaload (f := A 30) (x_d C_Wr_writeSection 11 rfl) rfl (by omega) (by omega) ?_
    refine x_if_eq (tgt := 31) (x_d C_Wr_writeSection 12 rfl) rfl (fun c2 => ?_) (fun c2 => ?_)
    · unfold s_end at hE
      rw [if_neg (by omega)] at hE
      rw [hE]
      exact kk
    · refine x_iinc (l1 := [(2, xI (t + 1)), (0, xC 16), (1, xI (n))]) (x_d C_Wr_writeSection 13 rfl) rfl ⟨by omega, by omega⟩ (by decide) rfl ?_
      refine x_goto (tgt := 2) (x_d C_Wr_writeSection 14 rfl) rfl ?_
      refine x_locs [1, 2, 0] rfl ?_
      unfold s_end at hE
      rw [if_pos (by omega)] at hE
      exact ih (t + 1) (by omega) hE
theorem w_Wr_writeSection_69 (Z : xZ) (d : Nat) (q : Nat → Int) (r : Nat → Option Nat) (A : Nat → Nat → Int) (dy : xH) (hd : 7 ≤ d) (n E : Int) (pl : Nat → Int) (hl : 0 ≤ q 1283 ∧ q 1283 ≤ 6000) (hE : E ≤ 300) (hga : ∀ k, k < 300 → 0 ≤ A 28 k ∧ A 28 k ≤ 99999) (hpl : ∀ k, 0 ≤ pl k ∧ pl k ≤ 6000) : ∀ (m : Nat) (s ov : Int) (f : Nat → Int) (bs : List Int) (t : Int), (0 ≤ t ∧ t + m = E) → pb (q 1283) s ov f bs → xW Z d Y_Wr_writeSection 69 [(0, xC 16), (1, xI n), (2, xI E), (3, xI t)] [] (hF (x_up (x_up q 1281 s) 1282 ov) (x_up (x_up r 515 (some 26)) 516 (some 40)) (x_up (x_up A 17 pl) 41 f) ++ dy) (fun v0 h2 => v0 = none ∧ ∃ s2 ov2 f2, h2 = hF (x_up (x_up q 1281 s2) 1282 ov2) (x_up (x_up r 515 (some 26)) 516 (some 40)) (x_up (x_up A 17 pl) 41 f2) ++ dy ∧ pb (q 1283) s2 ov2 f2 (bs ++ s_el pl (A 29) (A 28) m t)) := by
  intro m
  induction m with
  | zero =>
    intro s ov f bs t ht hp
    obtain rfl : t = E := by omega
    refine x_iload_n (x_d C_Wr_writeSection 35 rfl) rfl ?_
    refine x_iload_n (x_d C_Wr_writeSection 36 rfl) rfl ?_
    refine x_icmp_ge (tgt := 163) (x_d C_Wr_writeSection 37 rfl) rfl (fun _ => ?_) (fun q => absurd q (by omega))
    refine x_return (x_d C_Wr_writeSection 81 rfl) ?_
    exact ⟨rfl, _, _, _, rfl, pb_nil hp⟩
  | succ m ih =>
    intro s ov f bs t ht hp
    have hp0 := hp.1
    have hp1 := hp.2.1
    have hg1 := hga t.toNat (by omega)
    have hl1 := hpl t.toNat
    refine xW_ok (fun _ _ hok => ?_)
    have hz29 := hF_z hok 29 300 rfl t.toNat
    refine x_iload_n (x_d C_Wr_writeSection 35 rfl) rfl ?_
    refine x_iload_n (x_d C_Wr_writeSection 36 rfl) rfl ?_
    refine x_icmp_ge (tgt := 163) (x_d C_Wr_writeSection 37 rfl) rfl (fun q => absurd q (by omega)) (fun _ => ?_)
    refine x_aload_n (x_d C_Wr_writeSection 38 rfl) rfl ?_
    refine x_getfield (v := xC 40) (x_d C_Wr_writeSection 39 rfl) f_Wr_27 rfl rfl ?_
    refine x_aload_n (x_d C_Wr_writeSection 40 rfl) rfl ?_
    refine x_getfield (v := xC 26) (x_d C_Wr_writeSection 41 rfl) f_Wr_23 rfl rfl ?_
    refine x_getfield (v := xC 29) (x_d C_Wr_writeSection 42 rfl) f_Wr_63 rfl rfl ?_
    refine x_iload_n (x_d C_Wr_writeSection 43 rfl) rfl ?_
    refine x_zaload (f := A 29) (x_d C_Wr_writeSection 44 rfl) rfl (by omega) (by omega) ?_
    refine x_if_eq (tgt := 99) (x_d C_Wr_writeSection 45 rfl) rfl (fun c2 => ?_) (fun c2 => ?_)
    · refine x_iconst (x_d C_Wr_writeSection 51 rfl) ⟨by omega, by omega⟩ ?_
      refine x_bipush (x_d C_Wr_writeSection 52 rfl) (by omega) ?_
      refine x_invokevirtual (st := []) (av := [xI (0), xI (10)]) (x_d C_Wr_writeSection 53 rfl) k_Wr_112 m_Pa_addDigits v_Pa_addDigits cl_Pa rfl rfl (Nat.le_of_ble_eq_true rfl) (by omega) rfl (c_Pb_addDigits_40 Z (d - 1) q (x_up (x_up r 515 (some 26)) 516 (some 40)) (x_up A 17 pl) dy s ov f bs (by omega) 0 10 hl hp (by omega) (by omega)) ?_
      rintro _ _ ⟨rfl, s3, ov3, f3, rfl, hp3⟩
      have hp03 := hp3.1
      have hp13 := hp3.2.1
      refine x_aload_n (x_d C_Wr_writeSection 54 rfl) rfl ?_
      refine x_getfield (v := xC 40) (x_d C_Wr_writeSection 55 rfl) f_Wr_27 rfl rfl ?_
      refine x_bipush (x_d C_Wr_writeSection 56 rfl) (by omega) ?_
      refine x_invokevirtual (st := []) (av := [xI (32)]) (x_d C_Wr_writeSection 57 rfl) k_Wr_92 m_Pa_add v_Pa_add cl_Pa rfl rfl (Nat.le_of_ble_eq_true rfl) (by omega) rfl (c_Pb_add_40 Z (d - 1) q (x_up (x_up r 515 (some 26)) 516 (some 40)) (x_up A 17 pl) dy s3 ov3 f3 (bs ++ (s_dg 10 0)) 32 hl hp3) ?_
      rintro _ _ ⟨rfl, s4, ov4, f4, rfl, hp4⟩
      have hp04 := hp4.1
      have hp14 := hp4.2.1
      refine x_aload_n (x_d C_Wr_writeSection 58 rfl) rfl ?_
      refine x_getfield (v := xC 40) (x_d C_Wr_writeSection 59 rfl) f_Wr_27 rfl rfl ?_
      refine x_aload_n (x_d C_Wr_writeSection 60 rfl) rfl ?_
      refine x_getfield (v := xC 26) (x_d C_Wr_writeSection 61 rfl) f_Wr_23 rfl rfl ?_
      refine x_getfield (v := xC 28) (x_d C_Wr_writeSection 62 rfl) f_Wr_95 rfl rfl ?_
      refine x_iload_n (x_d C_Wr_writeSection 63 rfl) rfl ?_
      refine x_iaload (f := A 28) (x_d C_Wr_writeSection 64 rfl) rfl (by omega) (by omega) ?_
      refine x_iconst (x_d C_Wr_writeSection 65 rfl) ⟨by omega, by omega⟩ ?_
      refine x_invokevirtual (st := []) (av := [xI (A 28 (t).toNat), xI (5)]) (x_d C_Wr_writeSection 66 rfl) k_Wr_112 m_Pa_addDigits v_Pa_addDigits cl_Pa rfl rfl (Nat.le_of_ble_eq_true rfl) (by omega) rfl (c_Pb_addDigits_40 Z (d - 1) q (x_up (x_up r 515 (some 26)) 516 (some 40)) (x_up A 17 pl) dy s4 ov4 f4 (bs ++ (s_dg 10 0) ++ ([x_by 32])) (by omega) (A 28 (t).toNat) 5 hl hp4 (by omega) (by omega)) ?_
      rintro _ _ ⟨rfl, s5, ov5, f5, rfl, hp5⟩
      have hp05 := hp5.1
      have hp15 := hp5.2.1
      refine x_aload_n (x_d C_Wr_writeSection 67 rfl) rfl ?_
      refine x_getfield (v := xC 40) (x_d C_Wr_writeSection 68 rfl) f_Wr_27 rfl rfl ?_
      refine x_aload_n (x_d C_Wr_writeSection 69 rfl) rfl ?_
      refine x_getfield (v := xC 26) (x_d C_Wr_writeSection 70 rfl) f_Wr_23 rfl rfl ?_
      refine x_getfield (v := xC 29) (x_d C_Wr_writeSection 71 rfl) f_Wr_63 rfl rfl ?_
      refine x_iload_n (x_d C_Wr_writeSection 72 rfl) rfl ?_
      refine x_zaload (f := A 29) (x_d C_Wr_writeSection 73 rfl) rfl (by omega) (by omega) ?_
      refine x_if_eq (tgt := 152) (x_d C_Wr_writeSection 74 rfl) rfl (fun _ => ?_) (fun q => absurd q (by omega))
      refine x_ldcS (i := 42) (x_d C_Wr_writeSection 77 rfl) rfl ?_
      refine x_invokevirtual (st := []) (av := [xS (85)]) (x_d C_Wr_writeSection 78 rfl) k_Wr_73 m_Pa_addText v_Pa_addText cl_Pa rfl rfl (Nat.le_of_ble_eq_true rfl) (by omega) rfl (c_Pb_addText_40 Z (d - 1) q (x_up (x_up r 515 (some 26)) 516 (some 40)) (x_up A 17 pl) dy s5 ov5 f5 (bs ++ (s_dg 10 0) ++ ([x_by 32]) ++ (s_dg 5 (A 28 (t).toNat))) (by omega) (i := 42) rfl hl hp5) ?_
      rintro _ _ ⟨rfl, s7, ov7, f7, rfl, hp7⟩
      have hp7 : pb (q 1283) s7 ov7 f7 (bs ++ (s_dg 10 0) ++ ([x_by 32]) ++ (s_dg 5 (A 28 (t).toNat)) ++ [32, 102, 32, 10]) := hp7
      have hp07 := hp7.1
      have hp17 := hp7.2.1
      refine x_iinc (l1 := [(3, xI (t + 1)), (0, xC 16), (1, xI (n)), (2, xI (E))]) (x_d C_Wr_writeSection 79 rfl) rfl ⟨by omega, by omega⟩ (by decide) rfl ?_
      refine x_goto (tgt := 69) (x_d C_Wr_writeSection 80 rfl) rfl ?_
      refine x_locs [1, 2, 3, 0] rfl ?_
      refine xW_post ?_ (ih s7 ov7 f7 _ (t + 1) (by omega) hp7)
      rintro v0 h2 ⟨g1, s9, ov9, f9, g2, g3⟩
      refine ⟨g1, s9, ov9, f9, g2, pb_fix g3 ?_⟩
      show _ = bs ++ (s_en pl (A 29) (A 28) t ++ s_el pl (A 29) (A 28) m (t + 1))
      unfold s_en
      first
      | (rw [if_pos (show A 29 t.toNat = 0 by omega), if_pos (show A 29 t.toNat = 0 by omega)]; simp only [List.append_assoc]; rfl)
      | (rw [if_neg (show ¬ A 29 t.toNat = 0 by omega), if_neg (show ¬ A 29 t.toNat = 0 by omega)]; simp only [List.append_assoc]; rfl)
    · refine x_aload_n (x_d C_Wr_writeSection 46 rfl) rfl ?_
      refine x_getfield (v := xC 17) (x_d C_Wr_writeSection 47 rfl) f_Wr_9 rfl rfl ?_
      refine x_iload_n (x_d C_Wr_writeSection 48 rfl) rfl ?_
      refine x_iaload (f := pl) (x_d C_Wr_writeSection 49 rfl) rfl (by omega) (by omega) ?_
      refine x_goto (tgt := 100) (x_d C_Wr_writeSection 50 rfl) rfl ?_
      refine x_bipush (x_d C_Wr_writeSection 52 rfl) (by omega) ?_
      refine x_invokevirtual (st := []) (av := [xI (pl (t).toNat), xI (10)]) (x_d C_Wr_writeSection 53 rfl) k_Wr_112 m_Pa_addDigits v_Pa_addDigits cl_Pa rfl rfl (Nat.le_of_ble_eq_true rfl) (by omega) rfl (c_Pb_addDigits_40 Z (d - 1) q (x_up (x_up r 515 (some 26)) 516 (some 40)) (x_up A 17 pl) dy s ov f bs (by omega) (pl (t).toNat) 10 hl hp (by omega) (by omega)) ?_
      rintro _ _ ⟨rfl, s8, ov8, f8, rfl, hp8⟩
      have hp08 := hp8.1
      have hp18 := hp8.2.1
      refine x_aload_n (x_d C_Wr_writeSection 54 rfl) rfl ?_
      refine x_getfield (v := xC 40) (x_d C_Wr_writeSection 55 rfl) f_Wr_27 rfl rfl ?_
      refine x_bipush (x_d C_Wr_writeSection 56 rfl) (by omega) ?_
      refine x_invokevirtual (st := []) (av := [xI (32)]) (x_d C_Wr_writeSection 57 rfl) k_Wr_92 m_Pa_add v_Pa_add cl_Pa rfl rfl (Nat.le_of_ble_eq_true rfl) (by omega) rfl (c_Pb_add_40 Z (d - 1) q (x_up (x_up r 515 (some 26)) 516 (some 40)) (x_up A 17 pl) dy s8 ov8 f8 (bs ++ (s_dg 10 (pl (t).toNat))) 32 hl hp8) ?_
      rintro _ _ ⟨rfl, s9, ov9, f9, rfl, hp9⟩
      have hp09 := hp9.1
      have hp19 := hp9.2.1
      refine x_aload_n (x_d C_Wr_writeSection 58 rfl) rfl ?_
      refine x_getfield (v := xC 40) (x_d C_Wr_writeSection 59 rfl) f_Wr_27 rfl rfl ?_
      refine x_aload_n (x_d C_Wr_writeSection 60 rfl) rfl ?_
      refine x_getfield (v := xC 26) (x_d C_Wr_writeSection 61 rfl) f_Wr_23 rfl rfl ?_
      refine x_getfield (v := xC 28) (x_d C_Wr_writeSection 62 rfl) f_Wr_95 rfl rfl ?_
      refine x_iload_n (x_d C_Wr_writeSection 63 rfl) rfl ?_
      refine x_iaload (f := A 28) (x_d C_Wr_writeSection 64 rfl) rfl (by omega) (by omega) ?_
      refine x_iconst (x_d C_Wr_writeSection 65 rfl) ⟨by omega, by omega⟩ ?_
      refine x_invokevirtual (st := []) (av := [xI (A 28 (t).toNat), xI (5)]) (x_d C_Wr_writeSection 66 rfl) k_Wr_112 m_Pa_addDigits v_Pa_addDigits cl_Pa rfl rfl (Nat.le_of_ble_eq_true rfl) (by omega) rfl (c_Pb_addDigits_40 Z (d - 1) q (x_up (x_up r 515 (some 26)) 516 (some 40)) (x_up A 17 pl) dy s9 ov9 f9 (bs ++ (s_dg 10 (pl (t).toNat)) ++ ([x_by 32])) (by omega) (A 28 (t).toNat) 5 hl hp9 (by omega) (by omega)) ?_
      rintro _ _ ⟨rfl, s10, ov10, f10, rfl, hp10⟩
      have hp010 := hp10.1
      have hp110 := hp10.2.1
      refine x_aload_n (x_d C_Wr_writeSection 67 rfl) rfl ?_
      refine x_getfield (v := xC 40) (x_d C_Wr_writeSection 68 rfl) f_Wr_27 rfl rfl ?_
      refine x_aload_n (x_d C_Wr_writeSection 69 rfl) rfl ?_
      refine x_getfield (v := xC 26) (x_d C_Wr_writeSection 70 rfl) f_Wr_23 rfl rfl ?_
      refine x_getfield (v := xC 29) (x_d C_Wr_writeSection 71 rfl) f_Wr_63 rfl rfl ?_
      refine x_iload_n (x_d C_Wr_writeSection 72 rfl) rfl ?_
      refine x_zaload (f := A 29) (x_d C_Wr_writeSection 73 rfl) rfl (by omega) (by omega) ?_
      refine x_if_eq (tgt := 152) (x_d C_Wr_writeSection 74 rfl) rfl (fun q => absurd q (by omega)) (fun _ => ?_)
      refine x_ldcS (i := 41) (x_d C_Wr_writeSection 75 rfl) rfl ?_
      refine x_goto (tgt := 154) (x_d C_Wr_writeSection 76 rfl) rfl ?_
      refine x_invokevirtual (st := []) (av := [xS (83)]) (x_d C_Wr_writeSection 78 rfl) k_Wr_73 m_Pa_addText v_Pa_addText cl_Pa rfl rfl (Nat.le_of_ble_eq_true rfl) (by omega) rfl (c_Pb_addText_40 Z (d - 1) q (x_up (x_up r 515 (some 26)) 516 (some 40)) (x_up A 17 pl) dy s10 ov10 f10 (bs ++ (s_dg 10 (pl (t).toNat)) ++ ([x_by 32]) ++ (s_dg 5 (A 28 (t).toNat))) (by omega) (i := 41) rfl hl hp10) ?_
      rintro _ _ ⟨rfl, s12, ov12, f12, rfl, hp12⟩
      have hp12 : pb (q 1283) s12 ov12 f12 (bs ++ (s_dg 10 (pl (t).toNat)) ++ ([x_by 32]) ++ (s_dg 5 (A 28 (t).toNat)) ++ [32, 110, 32, 10]) := hp12
      have hp012 := hp12.1
      have hp112 := hp12.2.1
      refine x_iinc (l1 := [(3, xI (t + 1)), (0, xC 16), (1, xI (n)), (2, xI (E))]) (x_d C_Wr_writeSection 79 rfl) rfl ⟨by omega, by omega⟩ (by decide) rfl ?_
      refine x_goto (tgt := 69) (x_d C_Wr_writeSection 80 rfl) rfl ?_
      refine x_locs [1, 2, 3, 0] rfl ?_
      refine xW_post ?_ (ih s12 ov12 f12 _ (t + 1) (by omega) hp12)
      rintro v0 h2 ⟨g1, s9, ov9, f9, g2, g3⟩
      refine ⟨g1, s9, ov9, f9, g2, pb_fix g3 ?_⟩
      show _ = bs ++ (s_en pl (A 29) (A 28) t ++ s_el pl (A 29) (A 28) m (t + 1))
      unfold s_en
      first
      | (rw [if_pos (show A 29 t.toNat = 0 by omega), if_pos (show A 29 t.toNat = 0 by omega)]; simp only [List.append_assoc]; rfl)
      | (rw [if_neg (show ¬ A 29 t.toNat = 0 by omega), if_neg (show ¬ A 29 t.toNat = 0 by omega)]; simp only [List.append_assoc]; rfl)
theorem c_Wr_writeSection (Z : xZ) (d : Nat) (q : Nat → Int) (r : Nat → Option Nat) (A : Nat → Nat → Int) (dy : xH) (s ov : Int) (f : Nat → Int) (bs : List Int) (pl : Nat → Int) (hd : 8 ≤ d) (n : Int) (hl : 0 ≤ q 1283 ∧ q 1283 ≤ 6000) (hp : pb (q 1283) s ov f bs) (hz : 0 ≤ q 837 ∧ q 837 ≤ 300) (hn : 0 ≤ n ∧ n < q 837) (hga : ∀ k, k < 300 → 0 ≤ A 28 k ∧ A 28 k ≤ 99999) (hpl : ∀ k, 0 ≤ pl k ∧ pl k ≤ 6000) : xMet Z d Y_Wr_writeSection [xC 16, xI n] (hF (x_up (x_up q 1281 s) 1282 ov) (x_up (x_up r 515 (some 26)) 516 (some 40)) (x_up (x_up A 17 pl) 41 f) ++ dy) (fun v0 h2 => v0 = none ∧ ∃ s2 ov2 f2, h2 = hF (x_up (x_up q 1281 s2) 1282 ov2) (x_up (x_up r 515 (some 26)) 516 (some 40)) (x_up (x_up A 17 pl) 41 f2) ++ dy ∧ pb (q 1283) s2 ov2 f2 (bs ++ s_sec pl (A 29) (A 28) (A 30) (q 837) n)) := by
  refine xMet_of (by decide) (Nat.le_of_ble_eq_true rfl) (fun v0 h2 hq => by rw [hq.1]; trivial) ?_
  have hp0 := hp.1
  have hp1 := hp.2.1
  refine x_iload_n (x_d C_Wr_writeSection 0 rfl) rfl ?_
  refine x_istore_n (l1 := [(2, xI (n)), (0, xC 16), (1, xI (n))]) (x_d C_Wr_writeSection 1 rfl) (by decide) rfl ?_
  refine x_locs [1, 2, 0] rfl ?_
  obtain ⟨E, hE⟩ : ∃ E, E = (s_end (A 30) (q 837) (q 837 - n).toNat n) := ⟨_, rfl⟩
  have hEi := s_end_in (A 30) (q 837) (q 837 - n).toNat n
  rw [← hE] at hEi
  have hE3 := hEi.2.2.2 (by omega)
  refine w_Wr_writeSection_2 Z d q r A dy n s ov f pl E _ hz ?_ (q 837 - n).toNat n ⟨by omega, rfl⟩ hE.symm
  refine x_aload_n (x_d C_Wr_writeSection 15 rfl) rfl ?_
  refine x_getfield (v := xC 40) (x_d C_Wr_writeSection 16 rfl) f_Wr_27 rfl rfl ?_
  refine x_iload_n (x_d C_Wr_writeSection 17 rfl) rfl ?_
  refine x_invokevirtual (st := []) (av := [xI (n)]) (x_d C_Wr_writeSection 18 rfl) k_Wr_87 m_Pa_addInt v_Pa_addInt cl_Pa rfl rfl (Nat.le_of_ble_eq_true rfl) (by omega) rfl (c_Pb_addInt_40 Z (d - 1) q (x_up (x_up r 515 (some 26)) 516 (some 40)) (x_up A 17 pl) dy s ov f bs (by omega) n hl hp (by omega)) ?_
  rintro _ _ ⟨rfl, s101, ov101, f101, rfl, hp101⟩
  have hp0101 := hp101.1
  have hp1101 := hp101.2.1
  refine x_aload_n (x_d C_Wr_writeSection 19 rfl) rfl ?_
  refine x_getfield (v := xC 40) (x_d C_Wr_writeSection 20 rfl) f_Wr_27 rfl rfl ?_
  refine x_bipush (x_d C_Wr_writeSection 21 rfl) (by omega) ?_
  refine x_invokevirtual (st := []) (av := [xI (32)]) (x_d C_Wr_writeSection 22 rfl) k_Wr_92 m_Pa_add v_Pa_add cl_Pa rfl rfl (Nat.le_of_ble_eq_true rfl) (by omega) rfl (c_Pb_add_40 Z (d - 1) q (x_up (x_up r 515 (some 26)) 516 (some 40)) (x_up A 17 pl) dy s101 ov101 f101 (bs ++ (s_int n)) 32 hl hp101) ?_
  rintro _ _ ⟨rfl, s102, ov102, f102, rfl, hp102⟩
  have hp0102 := hp102.1
  have hp1102 := hp102.2.1
  refine x_aload_n (x_d C_Wr_writeSection 23 rfl) rfl ?_
  refine x_getfield (v := xC 40) (x_d C_Wr_writeSection 24 rfl) f_Wr_27 rfl rfl ?_
  refine x_iload_n (x_d C_Wr_writeSection 25 rfl) rfl ?_
  refine x_iload_n (x_d C_Wr_writeSection 26 rfl) rfl ?_
  refine x_isub (x_d C_Wr_writeSection 27 rfl) ⟨by omega, by omega⟩ ?_
  refine x_invokevirtual (st := []) (av := [xI (E - n)]) (x_d C_Wr_writeSection 28 rfl) k_Wr_87 m_Pa_addInt v_Pa_addInt cl_Pa rfl rfl (Nat.le_of_ble_eq_true rfl) (by omega) rfl (c_Pb_addInt_40 Z (d - 1) q (x_up (x_up r 515 (some 26)) 516 (some 40)) (x_up A 17 pl) dy s102 ov102 f102 (bs ++ (s_int n) ++ ([x_by 32])) (by omega) (E - n) hl hp102 (by omega)) ?_
  rintro _ _ ⟨rfl, s103, ov103, f103, rfl, hp103⟩
  have hp0103 := hp103.1
  have hp1103 := hp103.2.1
  refine x_aload_n (x_d C_Wr_writeSection 29 rfl) rfl ?_
  refine x_getfield (v := xC 40) (x_d C_Wr_writeSection 30 rfl) f_Wr_27 rfl rfl ?_
  refine x_bipush (x_d C_Wr_writeSection 31 rfl) (by omega) ?_
  refine x_invokevirtual (st := []) (av := [xI (10)]) (x_d C_Wr_writeSection 32 rfl) k_Wr_92 m_Pa_add v_Pa_add cl_Pa rfl rfl (Nat.le_of_ble_eq_true rfl) (by omega) rfl (c_Pb_add_40 Z (d - 1) q (x_up (x_up r 515 (some 26)) 516 (some 40)) (x_up A 17 pl) dy s103 ov103 f103 (bs ++ (s_int n) ++ ([x_by 32]) ++ (s_int (E - n))) 10 hl hp103) ?_
  rintro _ _ ⟨rfl, s104, ov104, f104, rfl, hp104⟩
  have hp0104 := hp104.1
  have hp1104 := hp104.2.1
  refine x_iload_n (x_d C_Wr_writeSection 33 rfl) rfl ?_
  refine x_istore_n (l1 := [(3, xI (n)), (0, xC 16), (1, xI (n)), (2, xI (E))]) (x_d C_Wr_writeSection 34 rfl) (by decide) rfl ?_
  refine x_locs [1, 2, 3, 0] rfl ?_
  refine xW_post ?_ (w_Wr_writeSection_69 Z d q r A dy (by omega) n E pl hl (by omega) hga hpl (E - n).toNat s104 ov104 f104 _ n (by omega) hp104)
  rintro v0 h2 ⟨g1, s9, ov9, f9, g2, g3⟩
  exact ⟨g1, s9, ov9, f9, g2, pb_fix g3 (by unfold s_sec; rw [← hE]; simp only [List.append_assoc]; rfl)⟩
theorem w_Wr_writeSections_2 (Z : xZ) (d : Nat) (q : Nat → Int) (r : Nat → Option Nat) (A : Nat → Nat → Int) (dy : xH) (hd : 9 ≤ d) (pl : Nat → Int) (hl : 0 ≤ q 1283 ∧ q 1283 ≤ 6000) (hz : 0 ≤ q 837 ∧ q 837 ≤ 300) (hga : ∀ k, k < 300 → 0 ≤ A 28 k ∧ A 28 k ≤ 99999) (hpl : ∀ k, 0 ≤ pl k ∧ pl k ≤ 6000) : ∀ (m : Nat) (s ov : Int) (f : Nat → Int) (bs : List Int) (n : Int), (0 ≤ n ∧ n + m = q 837) → pb (q 1283) s ov f bs → xW Z d Y_Wr_writeSections 2 [(0, xC 16), (1, xI n)] [] (hF (x_up (x_up q 1281 s) 1282 ov) (x_up (x_up r 515 (some 26)) 516 (some 40)) (x_up (x_up A 17 pl) 41 f) ++ dy) (fun v0 h2 => v0 = none ∧ ∃ s2 ov2 f2, h2 = hF (x_up (x_up q 1281 s2) 1282 ov2) (x_up (x_up r 515 (some 26)) 516 (some 40)) (x_up (x_up A 17 pl) 41 f2) ++ dy ∧ pb (q 1283) s2 ov2 f2 (bs ++ s_secs pl (A 29) (A 28) (A 30) (q 837) m n)) := by
  intro m
  induction m with
  | zero =>
    intro s ov f bs n hn hp
    refine x_iload_n (x_d C_Wr_writeSections 2 rfl) rfl ?_
    refine x_aload_n (x_d C_Wr_writeSections 3 rfl) rfl ?_
    refine x_getfield (v := xC 26) (x_d C_Wr_writeSections 4 rfl) f_Wr_23 rfl rfl ?_
    refine x_getfield (v := xI (q 837)) (x_d C_Wr_writeSections 5 rfl) f_Wr_60 rfl rfl ?_
    refine x_icmp_ge (tgt := 54) (x_d C_Wr_writeSections 6 rfl) rfl (fun _ => ?_) (fun q => absurd q (by omega))
    refine x_return (x_d C_Wr_writeSections 28 rfl) ?_
    exact ⟨rfl, _, _, _, rfl, pb_nil hp⟩
  | succ m ih =>
    intro s ov f bs n hn hp
    have hp0 := hp.1
    have hp1 := hp.2.1
    refine x_iload_n (x_d C_Wr_writeSections 2 rfl) rfl ?_
    refine x_aload_n (x_d C_Wr_writeSections 3 rfl) rfl ?_
    refine x_getfield (v := xC 26) (x_d C_Wr_writeSections 4 rfl) f_Wr_23 rfl rfl ?_
    refine x_getfield (v := xI (q 837)) (x_d C_Wr_writeSections 5 rfl) f_Wr_60 rfl rfl ?_
    refine x_icmp_ge (tgt := 54) (x_d C_Wr_writeSections 6 rfl) rfl (fun q => absurd q (by omega)) (fun _ => ?_)
    refine x_aload_n (x_d C_Wr_writeSections 7 rfl) rfl ?_
    refine x_getfield (v := xC 26) (x_d C_Wr_writeSections 8 rfl) f_Wr_23 rfl rfl ?_
    refine x_getfield (v := xC 30) (x_d C_Wr_writeSections 9 rfl) f_Wr_52 rfl rfl ?_
    refine x_iload_n (x_d C_Wr_writeSections 10 rfl) rfl ?_
    refine x_zaload (f := A 30) (x_d C_Wr_writeSections 11 rfl) rfl (by omega) (by omega) ?_
    refine x_if_eq (tgt := 48) (x_d C_Wr_writeSections 12 rfl) rfl (fun c2 => ?_) (fun c2 => ?_)
    · refine x_iinc (l1 := [(1, xI (n + 1)), (0, xC 16)]) (x_d C_Wr_writeSections 26 rfl) rfl ⟨by omega, by omega⟩ (by decide) rfl ?_
      refine x_goto (tgt := 2) (x_d C_Wr_writeSections 27 rfl) rfl ?_
      refine x_locs [1, 0] rfl ?_
      refine xW_post ?_ (ih s ov f _ (n + 1) (by omega) hp)
      rintro v0 h2 ⟨g1, s9, ov9, f9, g2, g3⟩
      refine ⟨g1, s9, ov9, f9, g2, pb_fix g3 ?_⟩
      show _ = bs ++ ((if ¬ A 30 n.toNat = 0 ∧ (n = 0 ∨ A 30 (n - 1).toNat = 0) then _ else _) ++ _)
      rw [if_neg (by omega)]
      rfl
    · refine x_iload_n (x_d C_Wr_writeSections 13 rfl) rfl ?_
      refine x_if_eq (tgt := 43) (x_d C_Wr_writeSections 14 rfl) rfl (fun c3 => ?_) (fun c3 => ?_)
      · refine x_aload_n (x_d C_Wr_writeSections 23 rfl) rfl ?_
        refine x_iload_n (x_d C_Wr_writeSections 24 rfl) rfl ?_
        refine x_invokevirtual (st := []) (av := [xI (n)]) (x_d C_Wr_writeSections 25 rfl) k_Wr_109 m_Wr_writeSection v_Wr_writeSection cl_Wr rfl rfl (Nat.le_of_ble_eq_true rfl) (by omega) rfl (c_Wr_writeSection Z (d - 1) q r A dy s ov f (bs) pl (by omega) n hl hp hz (by omega) hga hpl) ?_
        rintro _ _ ⟨rfl, s4, ov4, f4, rfl, hp4⟩
        have hp04 := hp4.1
        have hp14 := hp4.2.1
        refine x_iinc (l1 := [(1, xI (n + 1)), (0, xC 16)]) (x_d C_Wr_writeSections 26 rfl) rfl ⟨by omega, by omega⟩ (by decide) rfl ?_
        refine x_goto (tgt := 2) (x_d C_Wr_writeSections 27 rfl) rfl ?_
        refine x_locs [1, 0] rfl ?_
        refine xW_post ?_ (ih s4 ov4 f4 _ (n + 1) (by omega) hp4)
        rintro v0 h2 ⟨g1, s9, ov9, f9, g2, g3⟩
        refine ⟨g1, s9, ov9, f9, g2, pb_fix g3 ?_⟩
        show _ = bs ++ ((if ¬ A 30 n.toNat = 0 ∧ (n = 0 ∨ A 30 (n - 1).toNat = 0) then _ else _) ++ _)
        rw [if_pos (by omega), List.append_assoc]
      · refine x_aload_n (x_d C_Wr_writeSections 15 rfl) rfl ?_
        refine x_getfield (v := xC 26) (x_d C_Wr_writeSections 16 rfl) f_Wr_23 rfl rfl ?_
        refine x_getfield (v := xC 30) (x_d C_Wr_writeSections 17 rfl) f_Wr_52 rfl rfl ?_
        refine x_iload_n (x_d C_Wr_writeSections 18 rfl) rfl ?_
        refine x_iconst (x_d C_Wr_writeSections 19 rfl) ⟨by omega, by omega⟩ ?_
        refine x_isub (x_d C_Wr_writeSections 20 rfl) ⟨by omega, by omega⟩ ?_
        refine x_zaload (f := A 30) (x_d C_Wr_writeSections 21 rfl) rfl (by omega) (by omega) ?_
        refine x_if_ne (tgt := 48) (x_d C_Wr_writeSections 22 rfl) rfl (fun c5 => ?_) (fun c5 => ?_)
        · refine x_iinc (l1 := [(1, xI (n + 1)), (0, xC 16)]) (x_d C_Wr_writeSections 26 rfl) rfl ⟨by omega, by omega⟩ (by decide) rfl ?_
          refine x_goto (tgt := 2) (x_d C_Wr_writeSections 27 rfl) rfl ?_
          refine x_locs [1, 0] rfl ?_
          refine xW_post ?_ (ih s ov f _ (n + 1) (by omega) hp)
          rintro v0 h2 ⟨g1, s9, ov9, f9, g2, g3⟩
          refine ⟨g1, s9, ov9, f9, g2, pb_fix g3 ?_⟩
          show _ = bs ++ ((if ¬ A 30 n.toNat = 0 ∧ (n = 0 ∨ A 30 (n - 1).toNat = 0) then _ else _) ++ _)
          rw [if_neg (by omega)]
          rfl
        · refine x_aload_n (x_d C_Wr_writeSections 23 rfl) rfl ?_
          refine x_iload_n (x_d C_Wr_writeSections 24 rfl) rfl ?_
          refine x_invokevirtual (st := []) (av := [xI (n)]) (x_d C_Wr_writeSections 25 rfl) k_Wr_109 m_Wr_writeSection v_Wr_writeSection cl_Wr rfl rfl (Nat.le_of_ble_eq_true rfl) (by omega) rfl (c_Wr_writeSection Z (d - 1) q r A dy s ov f (bs) pl (by omega) n hl hp hz (by omega) hga hpl) ?_
          rintro _ _ ⟨rfl, s6, ov6, f6, rfl, hp6⟩
          have hp06 := hp6.1
          have hp16 := hp6.2.1
          refine x_iinc (l1 := [(1, xI (n + 1)), (0, xC 16)]) (x_d C_Wr_writeSections 26 rfl) rfl ⟨by omega, by omega⟩ (by decide) rfl ?_
          refine x_goto (tgt := 2) (x_d C_Wr_writeSections 27 rfl) rfl ?_
          refine x_locs [1, 0] rfl ?_
          refine xW_post ?_ (ih s6 ov6 f6 _ (n + 1) (by omega) hp6)
          rintro v0 h2 ⟨g1, s9, ov9, f9, g2, g3⟩
          refine ⟨g1, s9, ov9, f9, g2, pb_fix g3 ?_⟩
          show _ = bs ++ ((if ¬ A 30 n.toNat = 0 ∧ (n = 0 ∨ A 30 (n - 1).toNat = 0) then _ else _) ++ _)
          rw [if_pos (by omega), List.append_assoc]
theorem c_Wr_writeSections (Z : xZ) (d : Nat) (q : Nat → Int) (r : Nat → Option Nat) (A : Nat → Nat → Int) (dy : xH) (s ov : Int) (f : Nat → Int) (bs : List Int) (pl : Nat → Int) (hd : 9 ≤ d) (hl : 0 ≤ q 1283 ∧ q 1283 ≤ 6000) (hp : pb (q 1283) s ov f bs) (hz : 0 ≤ q 837 ∧ q 837 ≤ 300) (hga : ∀ k, k < 300 → 0 ≤ A 28 k ∧ A 28 k ≤ 99999) (hpl : ∀ k, 0 ≤ pl k ∧ pl k ≤ 6000) : xMet Z d Y_Wr_writeSections [xC 16] (hF (x_up (x_up q 1281 s) 1282 ov) (x_up (x_up r 515 (some 26)) 516 (some 40)) (x_up (x_up A 17 pl) 41 f) ++ dy) (fun v0 h2 => v0 = none ∧ ∃ s2 ov2 f2, h2 = hF (x_up (x_up q 1281 s2) 1282 ov2) (x_up (x_up r 515 (some 26)) 516 (some 40)) (x_up (x_up A 17 pl) 41 f2) ++ dy ∧ pb (q 1283) s2 ov2 f2 (bs ++ s_secs pl (A 29) (A 28) (A 30) (q 837) (q 837).toNat 0)) := by
  refine xMet_of (by decide) (Nat.le_of_ble_eq_true rfl) (fun v0 h2 hq => by rw [hq.1]; trivial) ?_
  have hp0 := hp.1
  have hp1 := hp.2.1
  refine x_iconst (x_d C_Wr_writeSections 0 rfl) ⟨by omega, by omega⟩ ?_
  refine x_istore_n (l1 := [(1, xI (0)), (0, xC 16)]) (x_d C_Wr_writeSections 1 rfl) (by decide) rfl ?_
  refine x_locs [1, 0] rfl ?_
  exact w_Wr_writeSections_2 Z d q r A dy hd pl hl hz hga hpl (q 837).toNat s ov f bs 0 (by omega) hp
/-- the trailer's entries: at a its Size, at c its Prev -/
def s_tit (W : Int → List Int) (nm b : Nat → Int) (n p1 a c sz lt : Int) : List Int → List Int
  | [] => []
  | x :: L => (s_wn nm b n x (if p1 < x then 1 else 0) ++ (if x = a then s_int sz else if x = c then s_int lt else W x)) ++ s_tit W nm b n p1 a c sz lt L
def s_nam (sp nm b : Nat → Int) (n p : Int) (cs : List Int) : Int := s_first (fun t => decide (0 ≤ s_the b n (nm t.toNat) cs)) (s_in sp p)
def s_trl (W : Int → List Int) (sp nm b : Nat → Int) (n p sz lt : Int) : List Int := [60, 60] ++ (s_tit W nm b n (p + 1) (s_nam sp nm b n p [83, 105, 122, 101]) (s_nam sp nm b n p [80, 114, 101, 118]) sz lt (s_in sp p) ++ ((if s_nam sp nm b n p [80, 114, 101, 118] < 0 then [32, 47, 80, 114, 101, 118, 32] ++ s_int lt else []) ++ [62, 62]))
theorem w_Wr_writeTrailer_53 (Z : xZ) (d : Nat) (q : Nat → Int) (r : Nat → Option Nat) (A : Nat → Nat → Int) (dy : xH) (hd : 27 ≤ d) (a c : Int) (pl : Nat → Int) (hl : 0 ≤ q 1283 ∧ q 1283 ≤ 6000) (hz : 0 ≤ q 837 ∧ q 837 ≤ 300) (hT : 0 ≤ q 34 ∧ q 34 ≤ q 35 ∧ q 35 ≤ 10248) (hR : s_okR A) (hsp : ∀ j, 0 ≤ A 8 j ∧ A 8 j ≤ 12900) (hpp : 0 ≤ q 840 ∧ q 840 < 12900 ∧ s_bh (A 8) (q 840) ≤ 12900) (hlt : 0 ≤ q 839 ∧ q 839 ≤ 2147483647) (Q : Option xV → xH → Prop) (B : List Int) (kk : ∀ (s ov : Int) (f : Nat → Int) (t : Int), pb (q 1283) s ov f B → xW Z d Y_Wr_writeTrailer 156 [(0, xC 16), (1, xI a), (2, xI c), (3, xI t)] [] (hF (x_up (x_up q 1281 s) 1282 ov) (x_up (x_up r 515 (some 26)) 516 (some 40)) (x_up (x_up A 17 pl) 41 f) ++ dy) Q) : ∀ (k : Nat) (s ov : Int) (f : Nat → Int) (bs : List Int) (t : Int), (s_bh (A 8) (q 840) - t).toNat = k → q 840 < t → (∀ x, x ∈ s_K (A 8) (s_bh (A 8) (q 840)) t → wv (A 5) (A 6) (A 7) (A 8) (A 9) (A 2) (q 35) 7 x ∧ 0 ≤ A 9 x.toNat ∧ wnm (A 9) (A 2) (q 35) x) → pb (q 1283) s ov f bs → bs ++ s_tit (s_wv (A 5) (A 6) (A 7) (A 8) (A 9) (A 2) (q 35) 7) (A 9) (A 2) (q 35) (q 840 + 1) a c (q 837) (q 839) (s_K (A 8) (s_bh (A 8) (q 840)) t) = B → xW Z d Y_Wr_writeTrailer 53 [(0, xC 16), (1, xI a), (2, xI c), (3, xI t)] [] (hF (x_up (x_up q 1281 s) 1282 ov) (x_up (x_up r 515 (some 26)) 516 (some 40)) (x_up (x_up A 17 pl) 41 f) ++ dy) Q := by
  intro k
  induction k using Nat.strongRecOn with
  | ind k ih =>
  intro s ov f bs t hk ht hmem hp hB
  have hp0 := hp.1
  have hp1 := hp.2.1
  have hgt := s_bh_gt (A 8) t
  have hs8 := hsp t.toNat
  have hb8 : s_bh (A 8) t ≤ t + 12900 := by unfold s_bh; omega
  have hx : t < s_bh (A 8) (q 840) → wv (A 5) (A 6) (A 7) (A 8) (A 9) (A 2) (q 35) 7 t ∧ 0 ≤ A 9 t.toNat ∧ wnm (A 9) (A 2) (q 35) t := fun h => hmem t (by rw [s_K_step h]; exact List.mem_cons_self)
  have hnm9 : t < s_bh (A 8) (q 840) → (0 ≤ A 9 t.toNat ∧ A 9 t.toNat ≤ 10248 ∧ 0 ≤ s_wd (A 2) (q 35) (A 9 t.toNat)) := fun h => by rcases (hx h).2.2 with e | e; have := (hx h).2.1; omega; exact e
  refine x_iload_n (x_d C_Wr_writeTrailer 26 rfl) rfl ?_
  refine x_aload_n (x_d C_Wr_writeTrailer 27 rfl) rfl ?_
  refine x_getfield (v := xC 4) (x_d C_Wr_writeTrailer 28 rfl) f_Wr_19 rfl rfl ?_
  refine x_aload_n (x_d C_Wr_writeTrailer 29 rfl) rfl ?_
  refine x_getfield (v := xC 26) (x_d C_Wr_writeTrailer 30 rfl) f_Wr_23 rfl rfl ?_
  refine x_getfield (v := xI (q 840)) (x_d C_Wr_writeTrailer 31 rfl) f_Wr_119 rfl rfl ?_
  refine x_invokevirtual (st := [xI (t)]) (av := [xI (q 840)]) (x_d C_Wr_writeTrailer 32 rfl) k_Wr_134 m_P_behind v_P_behind cl_P rfl rfl (Nat.le_of_ble_eq_true rfl) (by omega) rfl (c_P_behind Z (d - 1) (x_up (x_up q 1281 s) 1282 ov) (x_up (x_up r 515 (some 26)) 516 (some 40)) (x_up (x_up A 17 pl) 41 f) dy (by omega) (q 840) ⟨by omega, by omega, hsp⟩) ?_
  rintro v_ _ ⟨hv_, rfl⟩
  obtain rfl : v_ = some (xI (s_bh (A 8) (q 840))) := hv_
  refine x_icmp_ge (tgt := 156) (x_d C_Wr_writeTrailer 33 rfl) rfl (fun c1 => ?_) (fun c1 => ?_)
  · rw [s_K_stop (by omega)] at hB
    have hB2 : bs = B := by rw [← hB]; exact (List.append_nil bs).symm
    subst hB2
    exact kk s ov f t hp
  · refine x_aload_n (x_d C_Wr_writeTrailer 34 rfl) rfl ?_
    refine x_iload_n (x_d C_Wr_writeTrailer 35 rfl) rfl ?_
    refine x_iload_n (x_d C_Wr_writeTrailer 36 rfl) rfl ?_
    refine x_aload_n (x_d C_Wr_writeTrailer 37 rfl) rfl ?_
    refine x_getfield (v := xC 26) (x_d C_Wr_writeTrailer 38 rfl) f_Wr_23 rfl rfl ?_
    refine x_getfield (v := xI (q 840)) (x_d C_Wr_writeTrailer 39 rfl) f_Wr_119 rfl rfl ?_
    refine x_iconst (x_d C_Wr_writeTrailer 40 rfl) ⟨by omega, by omega⟩ ?_
    refine x_iadd (x_d C_Wr_writeTrailer 41 rfl) ⟨by omega, by omega⟩ ?_
    refine x_icmp_le (tgt := 90) (x_d C_Wr_writeTrailer 42 rfl) rfl (fun c2 => ?_) (fun c2 => ?_)
    · refine x_iconst (x_d C_Wr_writeTrailer 45 rfl) ⟨by omega, by omega⟩ ?_
      refine x_invokevirtual (st := []) (av := [xI (t), xI (0)]) (x_d C_Wr_writeTrailer 46 rfl) k_Wr_138 m_Wr_writeName v_Wr_writeName cl_Wr rfl rfl (Nat.le_of_ble_eq_true rfl) (by omega) rfl (c_Wr_writeName Z (d - 1) q r (x_up A 17 pl) dy s ov f (bs) (by omega) t 0 hl hp hT hR (by omega) (hnm9 (by omega))) ?_
      rintro _ _ ⟨rfl, s3, ov3, f3, rfl, hp3⟩
      have hp3 : pb (q 1283) s3 ov3 f3 (bs ++ s_wn (A 9) (A 2) (q 35) t 0) := hp3
      have hp03 := hp3.1
      have hp13 := hp3.2.1
      refine x_iload_n (x_d C_Wr_writeTrailer 47 rfl) rfl ?_
      refine x_iload_n (x_d C_Wr_writeTrailer 48 rfl) rfl ?_
      refine x_icmp_ne (tgt := 116) (x_d C_Wr_writeTrailer 49 rfl) rfl (fun c4 => ?_) (fun c4 => ?_)
      · refine x_iload_n (x_d C_Wr_writeTrailer 57 rfl) rfl ?_
        refine x_iload_n (x_d C_Wr_writeTrailer 58 rfl) rfl ?_
        refine x_icmp_ne (tgt := 138) (x_d C_Wr_writeTrailer 59 rfl) rfl (fun c5 => ?_) (fun c5 => ?_)
        · refine x_aload_n (x_d C_Wr_writeTrailer 67 rfl) rfl ?_
          refine x_iload_n (x_d C_Wr_writeTrailer 68 rfl) rfl ?_
          refine x_iconst (x_d C_Wr_writeTrailer 69 rfl) ⟨by omega, by omega⟩ ?_
          refine x_invokevirtual (st := []) (av := [xI (t), xI (2)]) (x_d C_Wr_writeTrailer 70 rfl) k_Wr_103 m_Wr_writeValue v_Wr_writeValue cl_Wr rfl rfl (Nat.le_of_ble_eq_true rfl) (by omega) rfl (c_Wr_writeValue Z q r (x_up A 17 pl) dy hl hT hR hsp 7 (by omega) (d - 1) s3 ov3 f3 (bs ++ s_wn (A 9) (A 2) (q 35) t 0) t 2 (by omega) (by omega) (hx (by omega)).1 hp3) ?_
          rintro _ _ ⟨rfl, s6, ov6, f6, rfl, hp6⟩
          have hp6 : pb (q 1283) s6 ov6 f6 (bs ++ s_wn (A 9) (A 2) (q 35) t 0 ++ s_wv (A 5) (A 6) (A 7) (A 8) (A 9) (A 2) (q 35) 7 t) := hp6
          have hp06 := hp6.1
          have hp16 := hp6.2.1
          refine x_aload_n (x_d C_Wr_writeTrailer 71 rfl) rfl ?_
          refine x_getfield (v := xC 4) (x_d C_Wr_writeTrailer 72 rfl) f_Wr_19 rfl rfl ?_
          refine x_iload_n (x_d C_Wr_writeTrailer 73 rfl) rfl ?_
          refine x_invokevirtual (st := []) (av := [xI (t)]) (x_d C_Wr_writeTrailer 74 rfl) k_Wr_134 m_P_behind v_P_behind cl_P rfl rfl (Nat.le_of_ble_eq_true rfl) (by omega) rfl (c_P_behind Z (d - 1) (x_up (x_up q 1281 s6) 1282 ov6) (x_up (x_up r 515 (some 26)) 516 (some 40)) (x_up (x_up A 17 pl) 41 f6) dy (by omega) t ⟨by omega, by omega, hsp⟩) ?_
          rintro v_ _ ⟨hv_, rfl⟩
          obtain rfl : v_ = some (xI (s_bh (A 8) t)) := hv_
          refine x_istore_n (l1 := [(3, xI (s_bh (A 8) t)), (0, xC 16), (1, xI (a)), (2, xI (c))]) (x_d C_Wr_writeTrailer 75 rfl) (by decide) rfl ?_
          refine x_goto (tgt := 53) (x_d C_Wr_writeTrailer 76 rfl) rfl ?_
          refine x_locs [1, 2, 3, 0] rfl ?_
          refine ih (s_bh (A 8) (q 840) - s_bh (A 8) t).toNat (by omega) s6 ov6 f6 _ (s_bh (A 8) t) rfl (by omega) (fun x hx2 => hmem x (by rw [s_K_step (t := t) (by omega)]; exact List.mem_cons_of_mem _ hx2)) hp6 ?_
          rw [← hB, s_K_step (t := t) (by omega)]
          show _ = bs ++ ((s_wn (A 9) (A 2) (q 35) t (if q 840 + 1 < t then 1 else 0) ++ (if t = a then s_int (q 837) else if t = c then s_int (q 839) else s_wv (A 5) (A 6) (A 7) (A 8) (A 9) (A 2) (q 35) 7 t)) ++ s_tit (s_wv (A 5) (A 6) (A 7) (A 8) (A 9) (A 2) (q 35) 7) (A 9) (A 2) (q 35) (q 840 + 1) a c (q 837) (q 839) (s_K (A 8) (s_bh (A 8) (q 840)) (s_bh (A 8) t)))
          have e1 : (if q 840 + 1 < t then (1 : Int) else 0) = 0 := by rw [if_neg (by omega)]
          rw [e1]
          first
          | (rw [if_pos (show t = a by omega)]; simp only [List.append_assoc]; done)
          | (rw [if_neg (show ¬ t = a by omega), if_pos (show t = c by omega)]; simp only [List.append_assoc]; done)
          | (rw [if_neg (show ¬ t = a by omega), if_neg (show ¬ t = c by omega)]; simp only [List.append_assoc]; done)
        · refine x_aload_n (x_d C_Wr_writeTrailer 60 rfl) rfl ?_
          refine x_getfield (v := xC 40) (x_d C_Wr_writeTrailer 61 rfl) f_Wr_27 rfl rfl ?_
          refine x_aload_n (x_d C_Wr_writeTrailer 62 rfl) rfl ?_
          refine x_getfield (v := xC 26) (x_d C_Wr_writeTrailer 63 rfl) f_Wr_23 rfl rfl ?_
          refine x_getfield (v := xI (q 839)) (x_d C_Wr_writeTrailer 64 rfl) f_Wr_142 rfl rfl ?_
          refine x_invokevirtual (st := []) (av := [xI (q 839)]) (x_d C_Wr_writeTrailer 65 rfl) k_Wr_87 m_Pa_addInt v_Pa_addInt cl_Pa rfl rfl (Nat.le_of_ble_eq_true rfl) (by omega) rfl (c_Pb_addInt_40 Z (d - 1) q (x_up (x_up r 515 (some 26)) 516 (some 40)) (x_up A 17 pl) dy s3 ov3 f3 (bs ++ s_wn (A 9) (A 2) (q 35) t 0) (by omega) (q 839) hl hp3 (by omega)) ?_
          rintro _ _ ⟨rfl, s7, ov7, f7, rfl, hp7⟩
          have hp07 := hp7.1
          have hp17 := hp7.2.1
          refine x_goto (tgt := 144) (x_d C_Wr_writeTrailer 66 rfl) rfl ?_
          refine x_aload_n (x_d C_Wr_writeTrailer 71 rfl) rfl ?_
          refine x_getfield (v := xC 4) (x_d C_Wr_writeTrailer 72 rfl) f_Wr_19 rfl rfl ?_
          refine x_iload_n (x_d C_Wr_writeTrailer 73 rfl) rfl ?_
          refine x_invokevirtual (st := []) (av := [xI (t)]) (x_d C_Wr_writeTrailer 74 rfl) k_Wr_134 m_P_behind v_P_behind cl_P rfl rfl (Nat.le_of_ble_eq_true rfl) (by omega) rfl (c_P_behind Z (d - 1) (x_up (x_up q 1281 s7) 1282 ov7) (x_up (x_up r 515 (some 26)) 516 (some 40)) (x_up (x_up A 17 pl) 41 f7) dy (by omega) t ⟨by omega, by omega, hsp⟩) ?_
          rintro v_ _ ⟨hv_, rfl⟩
          obtain rfl : v_ = some (xI (s_bh (A 8) t)) := hv_
          refine x_istore_n (l1 := [(3, xI (s_bh (A 8) t)), (0, xC 16), (1, xI (a)), (2, xI (c))]) (x_d C_Wr_writeTrailer 75 rfl) (by decide) rfl ?_
          refine x_goto (tgt := 53) (x_d C_Wr_writeTrailer 76 rfl) rfl ?_
          refine x_locs [1, 2, 3, 0] rfl ?_
          refine ih (s_bh (A 8) (q 840) - s_bh (A 8) t).toNat (by omega) s7 ov7 f7 _ (s_bh (A 8) t) rfl (by omega) (fun x hx2 => hmem x (by rw [s_K_step (t := t) (by omega)]; exact List.mem_cons_of_mem _ hx2)) hp7 ?_
          rw [← hB, s_K_step (t := t) (by omega)]
          show _ = bs ++ ((s_wn (A 9) (A 2) (q 35) t (if q 840 + 1 < t then 1 else 0) ++ (if t = a then s_int (q 837) else if t = c then s_int (q 839) else s_wv (A 5) (A 6) (A 7) (A 8) (A 9) (A 2) (q 35) 7 t)) ++ s_tit (s_wv (A 5) (A 6) (A 7) (A 8) (A 9) (A 2) (q 35) 7) (A 9) (A 2) (q 35) (q 840 + 1) a c (q 837) (q 839) (s_K (A 8) (s_bh (A 8) (q 840)) (s_bh (A 8) t)))
          have e1 : (if q 840 + 1 < t then (1 : Int) else 0) = 0 := by rw [if_neg (by omega)]
          rw [e1]
          first
          | (rw [if_pos (show t = a by omega)]; simp only [List.append_assoc]; done)
          | (rw [if_neg (show ¬ t = a by omega), if_pos (show t = c by omega)]; simp only [List.append_assoc]; done)
          | (rw [if_neg (show ¬ t = a by omega), if_neg (show ¬ t = c by omega)]; simp only [List.append_assoc]; done)
      · refine x_aload_n (x_d C_Wr_writeTrailer 50 rfl) rfl ?_
        refine x_getfield (v := xC 40) (x_d C_Wr_writeTrailer 51 rfl) f_Wr_27 rfl rfl ?_
        refine x_aload_n (x_d C_Wr_writeTrailer 52 rfl) rfl ?_
        refine x_getfield (v := xC 26) (x_d C_Wr_writeTrailer 53 rfl) f_Wr_23 rfl rfl ?_
        refine x_getfield (v := xI (q 837)) (x_d C_Wr_writeTrailer 54 rfl) f_Wr_60 rfl rfl ?_
        refine x_invokevirtual (st := []) (av := [xI (q 837)]) (x_d C_Wr_writeTrailer 55 rfl) k_Wr_87 m_Pa_addInt v_Pa_addInt cl_Pa rfl rfl (Nat.le_of_ble_eq_true rfl) (by omega) rfl (c_Pb_addInt_40 Z (d - 1) q (x_up (x_up r 515 (some 26)) 516 (some 40)) (x_up A 17 pl) dy s3 ov3 f3 (bs ++ s_wn (A 9) (A 2) (q 35) t 0) (by omega) (q 837) hl hp3 (by omega)) ?_
        rintro _ _ ⟨rfl, s8, ov8, f8, rfl, hp8⟩
        have hp08 := hp8.1
        have hp18 := hp8.2.1
        refine x_goto (tgt := 144) (x_d C_Wr_writeTrailer 56 rfl) rfl ?_
        refine x_aload_n (x_d C_Wr_writeTrailer 71 rfl) rfl ?_
        refine x_getfield (v := xC 4) (x_d C_Wr_writeTrailer 72 rfl) f_Wr_19 rfl rfl ?_
        refine x_iload_n (x_d C_Wr_writeTrailer 73 rfl) rfl ?_
        refine x_invokevirtual (st := []) (av := [xI (t)]) (x_d C_Wr_writeTrailer 74 rfl) k_Wr_134 m_P_behind v_P_behind cl_P rfl rfl (Nat.le_of_ble_eq_true rfl) (by omega) rfl (c_P_behind Z (d - 1) (x_up (x_up q 1281 s8) 1282 ov8) (x_up (x_up r 515 (some 26)) 516 (some 40)) (x_up (x_up A 17 pl) 41 f8) dy (by omega) t ⟨by omega, by omega, hsp⟩) ?_
        rintro v_ _ ⟨hv_, rfl⟩
        obtain rfl : v_ = some (xI (s_bh (A 8) t)) := hv_
        refine x_istore_n (l1 := [(3, xI (s_bh (A 8) t)), (0, xC 16), (1, xI (a)), (2, xI (c))]) (x_d C_Wr_writeTrailer 75 rfl) (by decide) rfl ?_
        refine x_goto (tgt := 53) (x_d C_Wr_writeTrailer 76 rfl) rfl ?_
        refine x_locs [1, 2, 3, 0] rfl ?_
        refine ih (s_bh (A 8) (q 840) - s_bh (A 8) t).toNat (by omega) s8 ov8 f8 _ (s_bh (A 8) t) rfl (by omega) (fun x hx2 => hmem x (by rw [s_K_step (t := t) (by omega)]; exact List.mem_cons_of_mem _ hx2)) hp8 ?_
        rw [← hB, s_K_step (t := t) (by omega)]
        show _ = bs ++ ((s_wn (A 9) (A 2) (q 35) t (if q 840 + 1 < t then 1 else 0) ++ (if t = a then s_int (q 837) else if t = c then s_int (q 839) else s_wv (A 5) (A 6) (A 7) (A 8) (A 9) (A 2) (q 35) 7 t)) ++ s_tit (s_wv (A 5) (A 6) (A 7) (A 8) (A 9) (A 2) (q 35) 7) (A 9) (A 2) (q 35) (q 840 + 1) a c (q 837) (q 839) (s_K (A 8) (s_bh (A 8) (q 840)) (s_bh (A 8) t)))
        have e1 : (if q 840 + 1 < t then (1 : Int) else 0) = 0 := by rw [if_neg (by omega)]
        rw [e1]
        first
        | (rw [if_pos (show t = a by omega)]; simp only [List.append_assoc]; done)
        | (rw [if_neg (show ¬ t = a by omega), if_pos (show t = c by omega)]; simp only [List.append_assoc]; done)
        | (rw [if_neg (show ¬ t = a by omega), if_neg (show ¬ t = c by omega)]; simp only [List.append_assoc]; done)
    · refine x_iconst (x_d C_Wr_writeTrailer 43 rfl) ⟨by omega, by omega⟩ ?_
      refine x_goto (tgt := 91) (x_d C_Wr_writeTrailer 44 rfl) rfl ?_
      refine x_invokevirtual (st := []) (av := [xI (t), xI (1)]) (x_d C_Wr_writeTrailer 46 rfl) k_Wr_138 m_Wr_writeName v_Wr_writeName cl_Wr rfl rfl (Nat.le_of_ble_eq_true rfl) (by omega) rfl (c_Wr_writeName Z (d - 1) q r (x_up A 17 pl) dy s ov f (bs) (by omega) t 1 hl hp hT hR (by omega) (hnm9 (by omega))) ?_
      rintro _ _ ⟨rfl, s9, ov9, f9, rfl, hp9⟩
      have hp9 : pb (q 1283) s9 ov9 f9 (bs ++ s_wn (A 9) (A 2) (q 35) t 1) := hp9
      have hp09 := hp9.1
      have hp19 := hp9.2.1
      refine x_iload_n (x_d C_Wr_writeTrailer 47 rfl) rfl ?_
      refine x_iload_n (x_d C_Wr_writeTrailer 48 rfl) rfl ?_
      refine x_icmp_ne (tgt := 116) (x_d C_Wr_writeTrailer 49 rfl) rfl (fun c10 => ?_) (fun c10 => ?_)
      · refine x_iload_n (x_d C_Wr_writeTrailer 57 rfl) rfl ?_
        refine x_iload_n (x_d C_Wr_writeTrailer 58 rfl) rfl ?_
        refine x_icmp_ne (tgt := 138) (x_d C_Wr_writeTrailer 59 rfl) rfl (fun c11 => ?_) (fun c11 => ?_)
        · refine x_aload_n (x_d C_Wr_writeTrailer 67 rfl) rfl ?_
          refine x_iload_n (x_d C_Wr_writeTrailer 68 rfl) rfl ?_
          refine x_iconst (x_d C_Wr_writeTrailer 69 rfl) ⟨by omega, by omega⟩ ?_
          refine x_invokevirtual (st := []) (av := [xI (t), xI (2)]) (x_d C_Wr_writeTrailer 70 rfl) k_Wr_103 m_Wr_writeValue v_Wr_writeValue cl_Wr rfl rfl (Nat.le_of_ble_eq_true rfl) (by omega) rfl (c_Wr_writeValue Z q r (x_up A 17 pl) dy hl hT hR hsp 7 (by omega) (d - 1) s9 ov9 f9 (bs ++ s_wn (A 9) (A 2) (q 35) t 1) t 2 (by omega) (by omega) (hx (by omega)).1 hp9) ?_
          rintro _ _ ⟨rfl, s12, ov12, f12, rfl, hp12⟩
          have hp12 : pb (q 1283) s12 ov12 f12 (bs ++ s_wn (A 9) (A 2) (q 35) t 1 ++ s_wv (A 5) (A 6) (A 7) (A 8) (A 9) (A 2) (q 35) 7 t) := hp12
          have hp012 := hp12.1
          have hp112 := hp12.2.1
          refine x_aload_n (x_d C_Wr_writeTrailer 71 rfl) rfl ?_
          refine x_getfield (v := xC 4) (x_d C_Wr_writeTrailer 72 rfl) f_Wr_19 rfl rfl ?_
          refine x_iload_n (x_d C_Wr_writeTrailer 73 rfl) rfl ?_
          refine x_invokevirtual (st := []) (av := [xI (t)]) (x_d C_Wr_writeTrailer 74 rfl) k_Wr_134 m_P_behind v_P_behind cl_P rfl rfl (Nat.le_of_ble_eq_true rfl) (by omega) rfl (c_P_behind Z (d - 1) (x_up (x_up q 1281 s12) 1282 ov12) (x_up (x_up r 515 (some 26)) 516 (some 40)) (x_up (x_up A 17 pl) 41 f12) dy (by omega) t ⟨by omega, by omega, hsp⟩) ?_
          rintro v_ _ ⟨hv_, rfl⟩
          obtain rfl : v_ = some (xI (s_bh (A 8) t)) := hv_
          refine x_istore_n (l1 := [(3, xI (s_bh (A 8) t)), (0, xC 16), (1, xI (a)), (2, xI (c))]) (x_d C_Wr_writeTrailer 75 rfl) (by decide) rfl ?_
          refine x_goto (tgt := 53) (x_d C_Wr_writeTrailer 76 rfl) rfl ?_
          refine x_locs [1, 2, 3, 0] rfl ?_
          refine ih (s_bh (A 8) (q 840) - s_bh (A 8) t).toNat (by omega) s12 ov12 f12 _ (s_bh (A 8) t) rfl (by omega) (fun x hx2 => hmem x (by rw [s_K_step (t := t) (by omega)]; exact List.mem_cons_of_mem _ hx2)) hp12 ?_
          rw [← hB, s_K_step (t := t) (by omega)]
          show _ = bs ++ ((s_wn (A 9) (A 2) (q 35) t (if q 840 + 1 < t then 1 else 0) ++ (if t = a then s_int (q 837) else if t = c then s_int (q 839) else s_wv (A 5) (A 6) (A 7) (A 8) (A 9) (A 2) (q 35) 7 t)) ++ s_tit (s_wv (A 5) (A 6) (A 7) (A 8) (A 9) (A 2) (q 35) 7) (A 9) (A 2) (q 35) (q 840 + 1) a c (q 837) (q 839) (s_K (A 8) (s_bh (A 8) (q 840)) (s_bh (A 8) t)))
          have e1 : (if q 840 + 1 < t then (1 : Int) else 0) = 1 := by rw [if_pos (by omega)]
          rw [e1]
          first
          | (rw [if_pos (show t = a by omega)]; simp only [List.append_assoc]; done)
          | (rw [if_neg (show ¬ t = a by omega), if_pos (show t = c by omega)]; simp only [List.append_assoc]; done)
          | (rw [if_neg (show ¬ t = a by omega), if_neg (show ¬ t = c by omega)]; simp only [List.append_assoc]; done)
        · refine x_aload_n (x_d C_Wr_writeTrailer 60 rfl) rfl ?_
          refine x_getfield (v := xC 40) (x_d C_Wr_writeTrailer 61 rfl) f_Wr_27 rfl rfl ?_
          refine x_aload_n (x_d C_Wr_writeTrailer 62 rfl) rfl ?_
          refine x_getfield (v := xC 26) (x_d C_Wr_writeTrailer 63 rfl) f_Wr_23 rfl rfl ?_
          refine x_getfield (v := xI (q 839)) (x_d C_Wr_writeTrailer 64 rfl) f_Wr_142 rfl rfl ?_
          refine x_invokevirtual (st := []) (av := [xI (q 839)]) (x_d C_Wr_writeTrailer 65 rfl) k_Wr_87 m_Pa_addInt v_Pa_addInt cl_Pa rfl rfl (Nat.le_of_ble_eq_true rfl) (by omega) rfl (c_Pb_addInt_40 Z (d - 1) q (x_up (x_up r 515 (some 26)) 516 (some 40)) (x_up A 17 pl) dy s9 ov9 f9 (bs ++ s_wn (A 9) (A 2) (q 35) t 1) (by omega) (q 839) hl hp9 (by omega)) ?_
          rintro _ _ ⟨rfl, s13, ov13, f13, rfl, hp13⟩
          have hp013 := hp13.1
          have hp113 := hp13.2.1
          refine x_goto (tgt := 144) (x_d C_Wr_writeTrailer 66 rfl) rfl ?_
          refine x_aload_n (x_d C_Wr_writeTrailer 71 rfl) rfl ?_
          refine x_getfield (v := xC 4) (x_d C_Wr_writeTrailer 72 rfl) f_Wr_19 rfl rfl ?_
          refine x_iload_n (x_d C_Wr_writeTrailer 73 rfl) rfl ?_
          refine x_invokevirtual (st := []) (av := [xI (t)]) (x_d C_Wr_writeTrailer 74 rfl) k_Wr_134 m_P_behind v_P_behind cl_P rfl rfl (Nat.le_of_ble_eq_true rfl) (by omega) rfl (c_P_behind Z (d - 1) (x_up (x_up q 1281 s13) 1282 ov13) (x_up (x_up r 515 (some 26)) 516 (some 40)) (x_up (x_up A 17 pl) 41 f13) dy (by omega) t ⟨by omega, by omega, hsp⟩) ?_
          rintro v_ _ ⟨hv_, rfl⟩
          obtain rfl : v_ = some (xI (s_bh (A 8) t)) := hv_
          refine x_istore_n (l1 := [(3, xI (s_bh (A 8) t)), (0, xC 16), (1, xI (a)), (2, xI (c))]) (x_d C_Wr_writeTrailer 75 rfl) (by decide) rfl ?_
          refine x_goto (tgt := 53) (x_d C_Wr_writeTrailer 76 rfl) rfl ?_
          refine x_locs [1, 2, 3, 0] rfl ?_
          refine ih (s_bh (A 8) (q 840) - s_bh (A 8) t).toNat (by omega) s13 ov13 f13 _ (s_bh (A 8) t) rfl (by omega) (fun x hx2 => hmem x (by rw [s_K_step (t := t) (by omega)]; exact List.mem_cons_of_mem _ hx2)) hp13 ?_
          rw [← hB, s_K_step (t := t) (by omega)]
          show _ = bs ++ ((s_wn (A 9) (A 2) (q 35) t (if q 840 + 1 < t then 1 else 0) ++ (if t = a then s_int (q 837) else if t = c then s_int (q 839) else s_wv (A 5) (A 6) (A 7) (A 8) (A 9) (A 2) (q 35) 7 t)) ++ s_tit (s_wv (A 5) (A 6) (A 7) (A 8) (A 9) (A 2) (q 35) 7) (A 9) (A 2) (q 35) (q 840 + 1) a c (q 837) (q 839) (s_K (A 8) (s_bh (A 8) (q 840)) (s_bh (A 8) t)))
          have e1 : (if q 840 + 1 < t then (1 : Int) else 0) = 1 := by rw [if_pos (by omega)]
          rw [e1]
          first
          | (rw [if_pos (show t = a by omega)]; simp only [List.append_assoc]; done)
          | (rw [if_neg (show ¬ t = a by omega), if_pos (show t = c by omega)]; simp only [List.append_assoc]; done)
          | (rw [if_neg (show ¬ t = a by omega), if_neg (show ¬ t = c by omega)]; simp only [List.append_assoc]; done)
      · refine x_aload_n (x_d C_Wr_writeTrailer 50 rfl) rfl ?_
        refine x_getfield (v := xC 40) (x_d C_Wr_writeTrailer 51 rfl) f_Wr_27 rfl rfl ?_
        refine x_aload_n (x_d C_Wr_writeTrailer 52 rfl) rfl ?_
        refine x_getfield (v := xC 26) (x_d C_Wr_writeTrailer 53 rfl) f_Wr_23 rfl rfl ?_
        refine x_getfield (v := xI (q 837)) (x_d C_Wr_writeTrailer 54 rfl) f_Wr_60 rfl rfl ?_
        refine x_invokevirtual (st := []) (av := [xI (q 837)]) (x_d C_Wr_writeTrailer 55 rfl) k_Wr_87 m_Pa_addInt v_Pa_addInt cl_Pa rfl rfl (Nat.le_of_ble_eq_true rfl) (by omega) rfl (c_Pb_addInt_40 Z (d - 1) q (x_up (x_up r 515 (some 26)) 516 (some 40)) (x_up A 17 pl) dy s9 ov9 f9 (bs ++ s_wn (A 9) (A 2) (q 35) t 1) (by omega) (q 837) hl hp9 (by omega)) ?_
        rintro _ _ ⟨rfl, s14, ov14, f14, rfl, hp14⟩
        have hp014 := hp14.1
        have hp114 := hp14.2.1
        refine x_goto (tgt := 144) (x_d C_Wr_writeTrailer 56 rfl) rfl ?_
        refine x_aload_n (x_d C_Wr_writeTrailer 71 rfl) rfl ?_
        refine x_getfield (v := xC 4) (x_d C_Wr_writeTrailer 72 rfl) f_Wr_19 rfl rfl ?_
        refine x_iload_n (x_d C_Wr_writeTrailer 73 rfl) rfl ?_
        refine x_invokevirtual (st := []) (av := [xI (t)]) (x_d C_Wr_writeTrailer 74 rfl) k_Wr_134 m_P_behind v_P_behind cl_P rfl rfl (Nat.le_of_ble_eq_true rfl) (by omega) rfl (c_P_behind Z (d - 1) (x_up (x_up q 1281 s14) 1282 ov14) (x_up (x_up r 515 (some 26)) 516 (some 40)) (x_up (x_up A 17 pl) 41 f14) dy (by omega) t ⟨by omega, by omega, hsp⟩) ?_
        rintro v_ _ ⟨hv_, rfl⟩
        obtain rfl : v_ = some (xI (s_bh (A 8) t)) := hv_
        refine x_istore_n (l1 := [(3, xI (s_bh (A 8) t)), (0, xC 16), (1, xI (a)), (2, xI (c))]) (x_d C_Wr_writeTrailer 75 rfl) (by decide) rfl ?_
        refine x_goto (tgt := 53) (x_d C_Wr_writeTrailer 76 rfl) rfl ?_
        refine x_locs [1, 2, 3, 0] rfl ?_
        refine ih (s_bh (A 8) (q 840) - s_bh (A 8) t).toNat (by omega) s14 ov14 f14 _ (s_bh (A 8) t) rfl (by omega) (fun x hx2 => hmem x (by rw [s_K_step (t := t) (by omega)]; exact List.mem_cons_of_mem _ hx2)) hp14 ?_
        rw [← hB, s_K_step (t := t) (by omega)]
        show _ = bs ++ ((s_wn (A 9) (A 2) (q 35) t (if q 840 + 1 < t then 1 else 0) ++ (if t = a then s_int (q 837) else if t = c then s_int (q 839) else s_wv (A 5) (A 6) (A 7) (A 8) (A 9) (A 2) (q 35) 7 t)) ++ s_tit (s_wv (A 5) (A 6) (A 7) (A 8) (A 9) (A 2) (q 35) 7) (A 9) (A 2) (q 35) (q 840 + 1) a c (q 837) (q 839) (s_K (A 8) (s_bh (A 8) (q 840)) (s_bh (A 8) t)))
        have e1 : (if q 840 + 1 < t then (1 : Int) else 0) = 1 := by rw [if_pos (by omega)]
        rw [e1]
        first
        | (rw [if_pos (show t = a by omega)]; simp only [List.append_assoc]; done)
        | (rw [if_neg (show ¬ t = a by omega), if_pos (show t = c by omega)]; simp only [List.append_assoc]; done)
        | (rw [if_neg (show ¬ t = a by omega), if_neg (show ¬ t = c by omega)]; simp only [List.append_assoc]; done)
theorem c_Wr_writeTrailer (Z : xZ) (d : Nat) (q : Nat → Int) (r : Nat → Option Nat) (A : Nat → Nat → Int) (dy : xH) (s ov : Int) (f : Nat → Int) (bs : List Int) (pl : Nat → Int) (hd : 27 ≤ d) (hl : 0 ≤ q 1283 ∧ q 1283 ≤ 6000) (hp : pb (q 1283) s ov f bs) (hz : 0 ≤ q 837 ∧ q 837 ≤ 300) (hT : 0 ≤ q 34 ∧ q 34 ≤ q 35 ∧ q 35 ≤ 10248) (hR : s_okR A) (hsp : ∀ j, 0 ≤ A 8 j ∧ A 8 j ≤ 12900) (hpp : 0 ≤ q 840 ∧ q 840 < 12900 ∧ s_bh (A 8) (q 840) ≤ 12900) (hlt : 0 ≤ q 839 ∧ q 839 ≤ 2147483647) (hmem : ∀ x, x ∈ s_in (A 8) (q 840) → wv (A 5) (A 6) (A 7) (A 8) (A 9) (A 2) (q 35) 7 x ∧ 0 ≤ A 9 x.toNat ∧ wnm (A 9) (A 2) (q 35) x) : xMet Z d Y_Wr_writeTrailer [xC 16] (hF (x_up (x_up q 1281 s) 1282 ov) (x_up (x_up r 515 (some 26)) 516 (some 40)) (x_up (x_up A 17 pl) 41 f) ++ dy) (fun v0 h2 => v0 = none ∧ ∃ s2 ov2 f2, h2 = hF (x_up (x_up q 1281 s2) 1282 ov2) (x_up (x_up r 515 (some 26)) 516 (some 40)) (x_up (x_up A 17 pl) 41 f2) ++ dy ∧ pb (q 1283) s2 ov2 f2 (bs ++ s_trl (s_wv (A 5) (A 6) (A 7) (A 8) (A 9) (A 2) (q 35) 7) (A 8) (A 9) (A 2) (q 35) (q 840) (q 837) (q 839))) := by
  refine xMet_of (by decide) (Nat.le_of_ble_eq_true rfl) (fun v0 h2 hq => by rw [hq.1]; trivial) ?_
  have hp0 := hp.1
  have hp1 := hp.2.1
  refine x_aload_n (x_d C_Wr_writeTrailer 0 rfl) rfl ?_
  refine x_getfield (v := xC 4) (x_d C_Wr_writeTrailer 1 rfl) f_Wr_19 rfl rfl ?_
  refine x_aload_n (x_d C_Wr_writeTrailer 2 rfl) rfl ?_
  refine x_getfield (v := xC 26) (x_d C_Wr_writeTrailer 3 rfl) f_Wr_23 rfl rfl ?_
  refine x_getfield (v := xI (q 840)) (x_d C_Wr_writeTrailer 4 rfl) f_Wr_119 rfl rfl ?_
  refine x_ldcS (i := 44) (x_d C_Wr_writeTrailer 5 rfl) rfl ?_
  refine x_invokevirtual (st := []) (av := [xI (q 840), xS (89)]) (x_d C_Wr_writeTrailer 6 rfl) k_Wr_124 m_P_named v_P_named cl_P rfl rfl (Nat.le_of_ble_eq_true rfl) (by omega) rfl (c_P_named Z (d - 1) (x_up (x_up q 1281 s) 1282 ov) (x_up (x_up r 515 (some 26)) 516 (some 40)) (x_up (x_up A 17 pl) 41 f) dy (by omega) (i := 44) rfl (q 840) hT hR hsp hpp) ?_
  rintro v_ _ ⟨hv_, rfl⟩
  obtain ⟨a, ha⟩ : ∃ z, z = (s_nam (A 8) (A 9) (A 2) (q 35) (q 840) [83, 105, 122, 101]) := ⟨_, rfl⟩
  obtain rfl : v_ = some (xI a) := by rw [ha]; exact hv_
  refine x_istore_n (l1 := [(1, xI (a)), (0, xC 16)]) (x_d C_Wr_writeTrailer 7 rfl) (by decide) rfl ?_
  refine x_aload_n (x_d C_Wr_writeTrailer 8 rfl) rfl ?_
  refine x_getfield (v := xC 4) (x_d C_Wr_writeTrailer 9 rfl) f_Wr_19 rfl rfl ?_
  refine x_aload_n (x_d C_Wr_writeTrailer 10 rfl) rfl ?_
  refine x_getfield (v := xC 26) (x_d C_Wr_writeTrailer 11 rfl) f_Wr_23 rfl rfl ?_
  refine x_getfield (v := xI (q 840)) (x_d C_Wr_writeTrailer 12 rfl) f_Wr_119 rfl rfl ?_
  refine x_ldcS (i := 45) (x_d C_Wr_writeTrailer 13 rfl) rfl ?_
  refine x_invokevirtual (st := []) (av := [xI (q 840), xS (91)]) (x_d C_Wr_writeTrailer 14 rfl) k_Wr_124 m_P_named v_P_named cl_P rfl rfl (Nat.le_of_ble_eq_true rfl) (by omega) rfl (c_P_named Z (d - 1) (x_up (x_up q 1281 s) 1282 ov) (x_up (x_up r 515 (some 26)) 516 (some 40)) (x_up (x_up A 17 pl) 41 f) dy (by omega) (i := 45) rfl (q 840) hT hR hsp hpp) ?_
  rintro v_ _ ⟨hv_, rfl⟩
  obtain ⟨c, hc⟩ : ∃ z, z = (s_nam (A 8) (A 9) (A 2) (q 35) (q 840) [80, 114, 101, 118]) := ⟨_, rfl⟩
  obtain rfl : v_ = some (xI c) := by rw [hc]; exact hv_
  refine x_istore_n (l1 := [(2, xI (c)), (1, xI (a)), (0, xC 16)]) (x_d C_Wr_writeTrailer 15 rfl) (by decide) rfl ?_
  refine x_aload_n (x_d C_Wr_writeTrailer 16 rfl) rfl ?_
  refine x_getfield (v := xC 40) (x_d C_Wr_writeTrailer 17 rfl) f_Wr_27 rfl rfl ?_
  refine x_ldcS (i := 31) (x_d C_Wr_writeTrailer 18 rfl) rfl ?_
  refine x_invokevirtual (st := []) (av := [xS (63)]) (x_d C_Wr_writeTrailer 19 rfl) k_Wr_73 m_Pa_addText v_Pa_addText cl_Pa rfl rfl (Nat.le_of_ble_eq_true rfl) (by omega) rfl (c_Pb_addText_40 Z (d - 1) q (x_up (x_up r 515 (some 26)) 516 (some 40)) (x_up A 17 pl) dy s ov f (bs) (by omega) (i := 31) rfl hl hp) ?_
  rintro _ _ ⟨rfl, s1, ov1, f1, rfl, hp1⟩
  have hp1 : pb (q 1283) s1 ov1 f1 (bs ++ [60, 60]) := hp1
  have hp01 := hp1.1
  have hp11 := hp1.2.1
  refine x_aload_n (x_d C_Wr_writeTrailer 20 rfl) rfl ?_
  refine x_getfield (v := xC 26) (x_d C_Wr_writeTrailer 21 rfl) f_Wr_23 rfl rfl ?_
  refine x_getfield (v := xI (q 840)) (x_d C_Wr_writeTrailer 22 rfl) f_Wr_119 rfl rfl ?_
  refine x_iconst (x_d C_Wr_writeTrailer 23 rfl) ⟨by omega, by omega⟩ ?_
  refine x_iadd (x_d C_Wr_writeTrailer 24 rfl) ⟨by omega, by omega⟩ ?_
  refine x_istore_n (l1 := [(3, xI (q 840 + 1)), (2, xI (c)), (1, xI (a)), (0, xC 16)]) (x_d C_Wr_writeTrailer 25 rfl) (by decide) rfl ?_
  refine x_locs [3, 2, 1, 0] rfl ?_
  refine w_Wr_writeTrailer_53 Z d q r A dy hd a c pl hl hz hT hR hsp hpp hlt _ (bs ++ [60, 60] ++ s_tit (s_wv (A 5) (A 6) (A 7) (A 8) (A 9) (A 2) (q 35) 7) (A 9) (A 2) (q 35) (q 840 + 1) a c (q 837) (q 839) (s_in (A 8) (q 840))) (fun s8 ov8 f8 t8 h8 => ?_) _ s1 ov1 f1 _ (q 840 + 1) rfl (by omega) hmem hp1 rfl
  have hp08 := h8.1
  have hp18 := h8.2.1
  refine x_iload_n (x_d C_Wr_writeTrailer 77 rfl) rfl ?_
  refine x_if_ge (tgt := 183) (x_d C_Wr_writeTrailer 78 rfl) rfl (fun c102 => ?_) (fun c102 => ?_)
  · refine x_aload_n (x_d C_Wr_writeTrailer 89 rfl) rfl ?_
    refine x_getfield (v := xC 40) (x_d C_Wr_writeTrailer 90 rfl) f_Wr_27 rfl rfl ?_
    refine x_ldcS (i := 32) (x_d C_Wr_writeTrailer 91 rfl) rfl ?_
    refine x_invokevirtual (st := []) (av := [xS (65)]) (x_d C_Wr_writeTrailer 92 rfl) k_Wr_73 m_Pa_addText v_Pa_addText cl_Pa rfl rfl (Nat.le_of_ble_eq_true rfl) (by omega) rfl (c_Pb_addText_40 Z (d - 1) q (x_up (x_up r 515 (some 26)) 516 (some 40)) (x_up A 17 pl) dy s8 ov8 f8 (bs ++ [60, 60] ++ s_tit (s_wv (A 5) (A 6) (A 7) (A 8) (A 9) (A 2) (q 35) 7) (A 9) (A 2) (q 35) (q 840 + 1) a c (q 837) (q 839) (s_in (A 8) (q 840))) (by omega) (i := 32) rfl hl h8) ?_
    rintro _ _ ⟨rfl, s103, ov103, f103, rfl, hp103⟩
    have hp103 : pb (q 1283) s103 ov103 f103 (bs ++ [60, 60] ++ s_tit (s_wv (A 5) (A 6) (A 7) (A 8) (A 9) (A 2) (q 35) 7) (A 9) (A 2) (q 35) (q 840 + 1) a c (q 837) (q 839) (s_in (A 8) (q 840)) ++ [62, 62]) := hp103
    have hp0103 := hp103.1
    have hp1103 := hp103.2.1
    refine x_return (x_d C_Wr_writeTrailer 93 rfl) ?_
    refine ⟨rfl, _, _, _, rfl, pb_fix hp103 ?_⟩
    unfold s_trl
    rw [← ha, ← hc]
    first | (rw [if_pos (show c < 0 by omega)]; simp only [List.append_assoc]; done) | (rw [if_neg (show ¬ c < 0 by omega)]; simp only [List.append_assoc, List.nil_append]; done)
  · refine x_aload_n (x_d C_Wr_writeTrailer 79 rfl) rfl ?_
    refine x_getfield (v := xC 40) (x_d C_Wr_writeTrailer 80 rfl) f_Wr_27 rfl rfl ?_
    refine x_ldcS (i := 46) (x_d C_Wr_writeTrailer 81 rfl) rfl ?_
    refine x_invokevirtual (st := []) (av := [xS (93)]) (x_d C_Wr_writeTrailer 82 rfl) k_Wr_73 m_Pa_addText v_Pa_addText cl_Pa rfl rfl (Nat.le_of_ble_eq_true rfl) (by omega) rfl (c_Pb_addText_40 Z (d - 1) q (x_up (x_up r 515 (some 26)) 516 (some 40)) (x_up A 17 pl) dy s8 ov8 f8 (bs ++ [60, 60] ++ s_tit (s_wv (A 5) (A 6) (A 7) (A 8) (A 9) (A 2) (q 35) 7) (A 9) (A 2) (q 35) (q 840 + 1) a c (q 837) (q 839) (s_in (A 8) (q 840))) (by omega) (i := 46) rfl hl h8) ?_
    rintro _ _ ⟨rfl, s104, ov104, f104, rfl, hp104⟩
    have hp104 : pb (q 1283) s104 ov104 f104 (bs ++ [60, 60] ++ s_tit (s_wv (A 5) (A 6) (A 7) (A 8) (A 9) (A 2) (q 35) 7) (A 9) (A 2) (q 35) (q 840 + 1) a c (q 837) (q 839) (s_in (A 8) (q 840)) ++ [32, 47, 80, 114, 101, 118, 32]) := hp104
    have hp0104 := hp104.1
    have hp1104 := hp104.2.1
    refine x_aload_n (x_d C_Wr_writeTrailer 83 rfl) rfl ?_
    refine x_getfield (v := xC 40) (x_d C_Wr_writeTrailer 84 rfl) f_Wr_27 rfl rfl ?_
    refine x_aload_n (x_d C_Wr_writeTrailer 85 rfl) rfl ?_
    refine x_getfield (v := xC 26) (x_d C_Wr_writeTrailer 86 rfl) f_Wr_23 rfl rfl ?_
    refine x_getfield (v := xI (q 839)) (x_d C_Wr_writeTrailer 87 rfl) f_Wr_142 rfl rfl ?_
    refine x_invokevirtual (st := []) (av := [xI (q 839)]) (x_d C_Wr_writeTrailer 88 rfl) k_Wr_87 m_Pa_addInt v_Pa_addInt cl_Pa rfl rfl (Nat.le_of_ble_eq_true rfl) (by omega) rfl (c_Pb_addInt_40 Z (d - 1) q (x_up (x_up r 515 (some 26)) 516 (some 40)) (x_up A 17 pl) dy s104 ov104 f104 (bs ++ [60, 60] ++ s_tit (s_wv (A 5) (A 6) (A 7) (A 8) (A 9) (A 2) (q 35) 7) (A 9) (A 2) (q 35) (q 840 + 1) a c (q 837) (q 839) (s_in (A 8) (q 840)) ++ [32, 47, 80, 114, 101, 118, 32]) (by omega) (q 839) hl hp104 (by omega)) ?_
    rintro _ _ ⟨rfl, s105, ov105, f105, rfl, hp105⟩
    have hp0105 := hp105.1
    have hp1105 := hp105.2.1
    refine x_aload_n (x_d C_Wr_writeTrailer 89 rfl) rfl ?_
    refine x_getfield (v := xC 40) (x_d C_Wr_writeTrailer 90 rfl) f_Wr_27 rfl rfl ?_
    refine x_ldcS (i := 32) (x_d C_Wr_writeTrailer 91 rfl) rfl ?_
    refine x_invokevirtual (st := []) (av := [xS (65)]) (x_d C_Wr_writeTrailer 92 rfl) k_Wr_73 m_Pa_addText v_Pa_addText cl_Pa rfl rfl (Nat.le_of_ble_eq_true rfl) (by omega) rfl (c_Pb_addText_40 Z (d - 1) q (x_up (x_up r 515 (some 26)) 516 (some 40)) (x_up A 17 pl) dy s105 ov105 f105 (bs ++ [60, 60] ++ s_tit (s_wv (A 5) (A 6) (A 7) (A 8) (A 9) (A 2) (q 35) 7) (A 9) (A 2) (q 35) (q 840 + 1) a c (q 837) (q 839) (s_in (A 8) (q 840)) ++ [32, 47, 80, 114, 101, 118, 32] ++ (s_int (q 839))) (by omega) (i := 32) rfl hl hp105) ?_
    rintro _ _ ⟨rfl, s106, ov106, f106, rfl, hp106⟩
    have hp106 : pb (q 1283) s106 ov106 f106 (bs ++ [60, 60] ++ s_tit (s_wv (A 5) (A 6) (A 7) (A 8) (A 9) (A 2) (q 35) 7) (A 9) (A 2) (q 35) (q 840 + 1) a c (q 837) (q 839) (s_in (A 8) (q 840)) ++ [32, 47, 80, 114, 101, 118, 32] ++ (s_int (q 839)) ++ [62, 62]) := hp106
    have hp0106 := hp106.1
    have hp1106 := hp106.2.1
    refine x_return (x_d C_Wr_writeTrailer 93 rfl) ?_
    refine ⟨rfl, _, _, _, rfl, pb_fix hp106 ?_⟩
    unfold s_trl
    rw [← ha, ← hc]
    first | (rw [if_pos (show c < 0 by omega)]; simp only [List.append_assoc]; done) | (rw [if_neg (show ¬ c < 0 by omega)]; simp only [List.append_assoc, List.nil_append]; done)
