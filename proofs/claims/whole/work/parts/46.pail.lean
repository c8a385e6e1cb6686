/-! pails: numbers and strings; poured parts -/
theorem s_nd_s (m : Nat) (u : Int) : s_nd (m + 1) u = 1 + (if 0 < u / 10 then s_nd m (u / 10) else 0) := by
  conv => lhs; unfold s_nd
  split <;> omega
theorem s_p10_s (m : Nat) : (10 : Int) ^ (m + 1) = 10 ^ m * 10 := Int.pow_succ _ _
theorem w_Pa_addInt_40_23 (Z : xZ) (d : Nat) (v w N : Int) (H : xH) (Q : Option xV → xH → Prop) (kk : xW Z d Y_Pa_addInt 41 [(0, xC 40), (1, xI v), (2, xI w), (3, xI N), (4, xI 0)] [] H Q) : ∀ (m : Nat) (g u : Int), 0 ≤ u → u < 10 ^ m → (0 ≤ g ∧ g + m ≤ 100) → N = g + (if 0 < u then s_nd (m - 1) u else 0) → xW Z d Y_Pa_addInt 23 [(0, xC 40), (1, xI v), (2, xI w), (3, xI g), (4, xI u)] [] H Q := by
  intro m
  induction m with
  | zero =>
    intro g u h0 h1 hg hN
    obtain rfl : u = 0 := by rw [Int.pow_zero] at h1; omega
    rw [if_neg (by omega)] at hN
    obtain rfl : N = g := by omega
    refine x_iload (x_d C_Pa_addInt 14 rfl) rfl ?_
    refine x_if_le (tgt := 41) (x_d C_Pa_addInt 15 rfl) rfl (fun _ => ?_) (fun q => absurd q (by omega))
    exact kk
  | succ m ih =>
    intro g u h0 h1 hg hN
    rw [s_p10_s] at h1
    refine x_iload (x_d C_Pa_addInt 14 rfl) rfl ?_
    refine x_if_le (tgt := 41) (x_d C_Pa_addInt 15 rfl) rfl (fun c1 => ?_) (fun c1 => ?_)
    · obtain rfl : u = 0 := by omega
      rw [if_neg (by omega)] at hN
      obtain rfl : N = g := by omega
      exact kk
    · refine x_iinc (l1 := [(3, xI (g + 1)), (0, xC 40), (1, xI (v)), (2, xI (w)), (4, xI (u))]) (x_d C_Pa_addInt 16 rfl) rfl ⟨by omega, by omega⟩ (by decide) rfl ?_
      refine x_iload (x_d C_Pa_addInt 17 rfl) rfl ?_
      refine x_bipush (x_d C_Pa_addInt 18 rfl) (by omega) ?_
      refine x_idiv (x_d C_Pa_addInt 19 rfl) (by omega) (by omega) ?_
      refine x_istore (l1 := [(4, xI (u / 10)), (3, xI (g + 1)), (0, xC 40), (1, xI (v)), (2, xI (w))]) (x_d C_Pa_addInt 20 rfl) (by decide) rfl ?_
      refine x_goto (tgt := 23) (x_d C_Pa_addInt 21 rfl) rfl ?_
      refine x_locs [2, 3, 4, 1, 0] rfl ?_
      rw [if_pos (by omega)] at hN
      refine ih (g + 1) (u / 10) (by omega) (by omega) (by omega) ?_
      rw [hN]
      cases m with
      | zero => rw [Int.pow_zero] at h1; rw [if_neg (by omega)]; show g + 1 = _; omega
      | succ k => show g + s_nd (k + 1) u = g + 1 + (if 0 < u / 10 then s_nd k (u / 10) else 0); rw [s_nd_s]; omega
theorem c_Pb_addInt_40 (Z : xZ) (d : Nat) (q : Nat → Int) (r : Nat → Option Nat) (A : Nat → Nat → Int) (dy : xH) (s ov : Int) (f : Nat → Int) (bs : List Int) (hd : 2 ≤ d) (v : Int) (hl : 0 ≤ q 1283 ∧ q 1283 ≤ 6000) (hp : pb (q 1283) s ov f bs) (hv : -2147483648 < v ∧ v ≤ 2147483647) : xMet Z d Y_Pa_addInt [xC 40, xI v] (hF (x_up (x_up q 1281 s) 1282 ov) r (x_up A 41 f) ++ dy) (fun v0 h2 => v0 = none ∧ ∃ s2 ov2 f2, h2 = hF (x_up (x_up q 1281 s2) 1282 ov2) r (x_up A 41 f2) ++ dy ∧ pb (q 1283) s2 ov2 f2 (bs ++ s_int v)) := by
  refine xMet_of (by decide) (Nat.le_of_ble_eq_true rfl) (fun v0 h2 hq => by rw [hq.1]; trivial) ?_
  have hp0 := hp.1
  have hp1 := hp.2.1
  refine x_iload_n (x_d C_Pa_addInt 0 rfl) rfl ?_
  refine x_if_ge (tgt := 10) (x_d C_Pa_addInt 1 rfl) rfl (fun c1 => ?_) (fun c1 => ?_)
  · refine x_iload_n (x_d C_Pa_addInt 5 rfl) rfl ?_
    refine x_mabs (st := []) (x_d C_Pa_addInt 6 rfl) kM_Pa_52 mabs_w (Nat.le_of_ble_eq_true rfl) (by omega) (by omega) ?_
    refine x_istore_n (l1 := [(2, xI (if v < 0 then -v else v)), (0, xC 40), (1, xI (v))]) (x_d C_Pa_addInt 7 rfl) (by decide) rfl ?_
    refine x_iconst (x_d C_Pa_addInt 8 rfl) ⟨by omega, by omega⟩ ?_
    refine x_istore_n (l1 := [(3, xI (1)), (2, xI (if v < 0 then -v else v)), (0, xC 40), (1, xI (v))]) (x_d C_Pa_addInt 9 rfl) (by decide) rfl ?_
    refine x_iload_n (x_d C_Pa_addInt 10 rfl) rfl ?_
    refine x_bipush (x_d C_Pa_addInt 11 rfl) (by omega) ?_
    refine x_idiv (x_d C_Pa_addInt 12 rfl) (by omega) (by omega) ?_
    refine x_istore (l1 := [(4, xI ((if v < 0 then -v else v) / 10)), (3, xI (1)), (2, xI (if v < 0 then -v else v)), (0, xC 40), (1, xI (v))]) (x_d C_Pa_addInt 13 rfl) (by decide) rfl ?_
    have hnd := s_nd_in 10 (if v < 0 then -v else v)
    refine x_locs [3, 4, 2, 1, 0] rfl ?_
    refine w_Pa_addInt_40_23 Z d v (if v < 0 then -v else v) (s_nd 10 (if v < 0 then -v else v)) _ _ ?_ 10 1 ((if v < 0 then -v else v) / 10) (by omega) (by omega) (by omega) (s_nd_s 9 _)
    refine x_aload_n (x_d C_Pa_addInt 22 rfl) rfl ?_
    refine x_iload_n (x_d C_Pa_addInt 23 rfl) rfl ?_
    refine x_iload_n (x_d C_Pa_addInt 24 rfl) rfl ?_
    refine x_invokevirtual (st := []) (av := [xI (if v < 0 then -v else v), xI (s_nd 10 (if v < 0 then -v else v))]) (x_d C_Pa_addInt 25 rfl) k_Pa_56 m_Pa_addDigits v_Pa_addDigits cl_Pa rfl rfl (Nat.le_of_ble_eq_true rfl) (by omega) rfl (c_Pb_addDigits_40 Z (d - 1) q r A dy s ov f bs (by omega) (if v < 0 then -v else v) (s_nd 10 (if v < 0 then -v else v)) hl hp (by omega) (by omega)) ?_
    rintro _ _ ⟨rfl, s52, ov52, f52, rfl, hp52⟩
    have hp052 := hp52.1
    have hp152 := hp52.2.1
    refine x_return (x_d C_Pa_addInt 26 rfl) ?_
    exact ⟨rfl, _, _, _, rfl, by unfold s_int; rw [if_neg (by omega)]; rw [List.nil_append]; exact hp52⟩
  · refine x_aload_n (x_d C_Pa_addInt 2 rfl) rfl ?_
    refine x_bipush (x_d C_Pa_addInt 3 rfl) (by omega) ?_
    refine x_invokevirtual (st := []) (av := [xI (45)]) (x_d C_Pa_addInt 4 rfl) k_Pa_48 m_Pa_add v_Pa_add cl_Pa rfl rfl (Nat.le_of_ble_eq_true rfl) (by omega) rfl (c_Pb_add_40 Z (d - 1) q r A dy s ov f bs 45 hl hp) ?_
    rintro _ _ ⟨rfl, s2, ov2, f2, rfl, hp2⟩
    have hp02 := hp2.1
    have hp12 := hp2.2.1
    refine x_iload_n (x_d C_Pa_addInt 5 rfl) rfl ?_
    refine x_mabs (st := []) (x_d C_Pa_addInt 6 rfl) kM_Pa_52 mabs_w (Nat.le_of_ble_eq_true rfl) (by omega) (by omega) ?_
    refine x_istore_n (l1 := [(2, xI (if v < 0 then -v else v)), (0, xC 40), (1, xI (v))]) (x_d C_Pa_addInt 7 rfl) (by decide) rfl ?_
    refine x_iconst (x_d C_Pa_addInt 8 rfl) ⟨by omega, by omega⟩ ?_
    refine x_istore_n (l1 := [(3, xI (1)), (2, xI (if v < 0 then -v else v)), (0, xC 40), (1, xI (v))]) (x_d C_Pa_addInt 9 rfl) (by decide) rfl ?_
    refine x_iload_n (x_d C_Pa_addInt 10 rfl) rfl ?_
    refine x_bipush (x_d C_Pa_addInt 11 rfl) (by omega) ?_
    refine x_idiv (x_d C_Pa_addInt 12 rfl) (by omega) (by omega) ?_
    refine x_istore (l1 := [(4, xI ((if v < 0 then -v else v) / 10)), (3, xI (1)), (2, xI (if v < 0 then -v else v)), (0, xC 40), (1, xI (v))]) (x_d C_Pa_addInt 13 rfl) (by decide) rfl ?_
    have hnd := s_nd_in 10 (if v < 0 then -v else v)
    refine x_locs [3, 4, 2, 1, 0] rfl ?_
    refine w_Pa_addInt_40_23 Z d v (if v < 0 then -v else v) (s_nd 10 (if v < 0 then -v else v)) _ _ ?_ 10 1 ((if v < 0 then -v else v) / 10) (by omega) (by omega) (by omega) (s_nd_s 9 _)
    refine x_aload_n (x_d C_Pa_addInt 22 rfl) rfl ?_
    refine x_iload_n (x_d C_Pa_addInt 23 rfl) rfl ?_
    refine x_iload_n (x_d C_Pa_addInt 24 rfl) rfl ?_
    refine x_invokevirtual (st := []) (av := [xI (if v < 0 then -v else v), xI (s_nd 10 (if v < 0 then -v else v))]) (x_d C_Pa_addInt 25 rfl) k_Pa_56 m_Pa_addDigits v_Pa_addDigits cl_Pa rfl rfl (Nat.le_of_ble_eq_true rfl) (by omega) rfl (c_Pb_addDigits_40 Z (d - 1) q r A dy s2 ov2 f2 (bs ++ ([x_by 45])) (by omega) (if v < 0 then -v else v) (s_nd 10 (if v < 0 then -v else v)) hl hp2 (by omega) (by omega)) ?_
    rintro _ _ ⟨rfl, s53, ov53, f53, rfl, hp53⟩
    have hp053 := hp53.1
    have hp153 := hp53.2.1
    refine x_return (x_d C_Pa_addInt 26 rfl) ?_
    exact ⟨rfl, _, _, _, rfl, by unfold s_int; rw [if_pos (by omega)]; exact pb_as hp53⟩
/-- the bytes that a string means -/
def s_sb (b : Nat → Int) (n : Int) (pr : Bool) : Nat → Int → List Int
  | 0, _ => []
  | m + 1, u => (if pr = true then s_pair b n u else s_sg b n u (s_ss b n u)) :: s_sb b n pr m (u + (if pr = true then 2 else s_ss b n u))
/-- a digit of base 16 -/
def s_hc (k : Int) : Int := if k < 10 then 48 + k else 87 + k
def s_h2 (c : Int) : List Int := [s_hc (c / 16 % 16), s_hc (c % 16)]
theorem s_hc_get {k : Int} (h : 0 ≤ k ∧ k < 16) : ([48, 49, 50, 51, 52, 53, 54, 55, 56, 57, 97, 98, 99, 100, 101, 102] : List Int).getD k.toNat 0 = s_hc k := by
  have e : k = 0 ∨ k = 1 ∨ k = 2 ∨ k = 3 ∨ k = 4 ∨ k = 5 ∨ k = 6 ∨ k = 7 ∨ k = 8 ∨ k = 9 ∨ k = 10 ∨ k = 11 ∨ k = 12 ∨ k = 13 ∨ k = 14 ∨ k = 15 := by omega
  rcases e with e | e | e | e | e | e | e | e | e | e | e | e | e | e | e | e <;> (subst e; rfl)
theorem s_hc_by {k : Int} (h : 0 ≤ k ∧ k < 16) : x_by (s_hc k) = s_hc k := x_by_id (by unfold s_hc; split <;> exact ⟨by omega, by omega⟩)
theorem s_sl4 (x : Int) : x / 2 ^ (4 : Int).toNat = x / 16 := rfl
theorem s_ss_b (b : Nat → Int) (n p : Int) : 0 ≤ s_ss b n p ∧ s_ss b n p ≤ 4 := by
  have := s_ss_in b n p
  omega
theorem s_pair_b (b : Nat → Int) (n p : Int) : -1 ≤ s_pair b n p ∧ s_pair b n p ≤ 255 := by
  have := s_pair_in b n p
  omega
theorem s_sg_in (b : Nat → Int) (n p k : Int) : -1 ≤ s_sg b n p k ∧ s_sg b n p k ≤ 255 := by
  have h1 := s_byte_in b n (p + k - 1)
  unfold s_sg
  split
  · unfold s_oct
    split
    · omega
    · omega
  · omega
theorem w_Pa_addString_38_25_true (Z : xZ) (d : Nat) (q : Nat → Int) (r : Nat → Option Nat) (A : Nat → Nat → Int) (dy : xH) (hd : 6 ≤ d) (i N : Int) (hl : 0 ≤ q 1219 ∧ q 1219 ≤ 6000) (hT : 0 ≤ q 34 ∧ q 34 ≤ q 35 ∧ q 35 ≤ 10248) (hN : N ≤ 100) : ∀ (m : Nat) (s ov : Int) (f : Nat → Int) (bs : List Int) (k u : Int), (0 ≤ k ∧ k + m = N ∧ 0 ≤ u ∧ u ≤ 10260 + 4 * k) → pb (q 1219) s ov f bs → xW Z d Y_Pa_addString 25 [(0, xC 38), (1, xC 1), (2, xI i), (3, xI N), (4, xI 0), (5, xI 1), (6, xI u), (7, xI k)] [] (hF (x_up (x_up q 1217 s) 1218 ov) r (x_up A 39 f) ++ dy) (fun v0 h2 => v0 = none ∧ ∃ s2 ov2 f2, h2 = hF (x_up (x_up q 1217 s2) 1218 ov2) r (x_up A 39 f2) ++ dy ∧ pb (q 1219) s2 ov2 f2 (bs ++ ((s_sb (A 2) (q 35) true m u).map x_by))) := by
  intro m
  induction m with
  | zero =>
    intro s ov f bs k u hk hp
    have hp0 := hp.1
    have hp1 := hp.2.1
    refine x_iload (x_d C_Pa_addString 15 rfl) rfl ?_
    refine x_iload_n (x_d C_Pa_addString 16 rfl) rfl ?_
    refine x_icmp_ge (tgt := 129) (x_d C_Pa_addString 17 rfl) rfl (fun _ => ?_) (fun q => absurd q (by omega))
    refine x_return (x_d C_Pa_addString 65 rfl) ?_
    exact ⟨rfl, s, ov, f, rfl, pb_nil hp⟩
  | succ m ih =>
    intro s ov f bs k u hk hp
    have hp0 := hp.1
    have hp1 := hp.2.1
    have hss := s_ss_b (A 2) (q 35) u
    have hpr := s_pair_b (A 2) (q 35) u
    have hsg := s_sg_in (A 2) (q 35) u (s_ss (A 2) (q 35) u)
    refine x_iload (x_d C_Pa_addString 15 rfl) rfl ?_
    refine x_iload_n (x_d C_Pa_addString 16 rfl) rfl ?_
    refine x_icmp_ge (tgt := 129) (x_d C_Pa_addString 17 rfl) rfl (fun q => absurd q (by omega)) (fun _ => ?_)
    refine x_iload (x_d C_Pa_addString 18 rfl) rfl ?_
    refine x_if_eq (tgt := 40) (x_d C_Pa_addString 19 rfl) rfl (fun q => absurd q (by omega)) (fun _ => ?_)
    refine x_iconst (x_d C_Pa_addString 20 rfl) ⟨by omega, by omega⟩ ?_
    refine x_goto (tgt := 46) (x_d C_Pa_addString 21 rfl) rfl ?_
    refine x_istore (l1 := [(8, xI (2)), (0, xC 38), (1, xC 1), (2, xI (i)), (3, xI (N)), (4, xI (0)), (5, xI (1)), (6, xI (u)), (7, xI (k))]) (x_d C_Pa_addString 25 rfl) (by decide) rfl ?_
    refine x_iload (x_d C_Pa_addString 26 rfl) rfl ?_
    refine x_if_eq (tgt := 62) (x_d C_Pa_addString 27 rfl) rfl (fun q => absurd q (by omega)) (fun _ => ?_)
    refine x_aload_n (x_d C_Pa_addString 28 rfl) rfl ?_
    refine x_iload (x_d C_Pa_addString 29 rfl) rfl ?_
    refine x_invokevirtual (st := []) (av := [xI (u)]) (x_d C_Pa_addString 30 rfl) k_Pa_76 m_T_pair v_T_pair cl_T rfl rfl (Nat.le_of_ble_eq_true rfl) (by omega) rfl (c_T_pair Z (d - 1) (x_up (x_up q 1217 s) 1218 ov) r (x_up A 39 f) dy (by omega) u hT (by omega)) ?_
    rintro v_ _ ⟨hv_, rfl⟩
    obtain rfl : v_ = some (xI (s_pair (A 2) (q 35) u)) := hv_
    refine x_goto (tgt := 70) (x_d C_Pa_addString 31 rfl) rfl ?_
    refine x_istore (l1 := [(9, xI (s_pair (A 2) (q 35) u)), (8, xI (2)), (0, xC 38), (1, xC 1), (2, xI (i)), (3, xI (N)), (4, xI (0)), (5, xI (1)), (6, xI (u)), (7, xI (k))]) (x_d C_Pa_addString 36 rfl) (by decide) rfl ?_
    refine x_iload (x_d C_Pa_addString 37 rfl) rfl ?_
    refine x_if_eq (tgt := 110) (x_d C_Pa_addString 38 rfl) rfl (fun _ => ?_) (fun q => absurd q (by omega))
    refine x_aload_n (x_d C_Pa_addString 56 rfl) rfl ?_
    refine x_iload (x_d C_Pa_addString 57 rfl) rfl ?_
    refine x_invokevirtual (st := []) (av := [xI (s_pair (A 2) (q 35) u)]) (x_d C_Pa_addString 58 rfl) k_Pa_48 m_Pa_add v_Pa_add cl_Pa rfl rfl (Nat.le_of_ble_eq_true rfl) (by omega) rfl (c_Pb_add_38 Z (d - 1) q r A dy s ov f bs (s_pair (A 2) (q 35) u) hl hp) ?_
    rintro _ _ ⟨rfl, s5, ov5, f5, rfl, hp5⟩
    have hp05 := hp5.1
    have hp15 := hp5.2.1
    refine x_iload (x_d C_Pa_addString 59 rfl) rfl ?_
    refine x_iload (x_d C_Pa_addString 60 rfl) rfl ?_
    refine x_iadd (x_d C_Pa_addString 61 rfl) ⟨by omega, by omega⟩ ?_
    refine x_istore (l1 := [(6, xI (u + 2)), (9, xI (s_pair (A 2) (q 35) u)), (8, xI (2)), (0, xC 38), (1, xC 1), (2, xI (i)), (3, xI (N)), (4, xI (0)), (5, xI (1)), (7, xI (k))]) (x_d C_Pa_addString 62 rfl) (by decide) rfl ?_
    refine x_iinc (l1 := [(7, xI (k + 1)), (6, xI (u + 2)), (9, xI (s_pair (A 2) (q 35) u)), (8, xI (2)), (0, xC 38), (1, xC 1), (2, xI (i)), (3, xI (N)), (4, xI (0)), (5, xI (1))]) (x_d C_Pa_addString 63 rfl) rfl ⟨by omega, by omega⟩ (by decide) rfl ?_
    refine x_goto (tgt := 25) (x_d C_Pa_addString 64 rfl) rfl ?_
    refine x_locs [4, 5, 6, 7, 8, 9, 1, 0] rfl ?_
    refine xW_post ?_ (ih s5 ov5 f5 _ (k + 1) (u + 2) (by omega) hp5)
    rintro v h2 ⟨g1, s9, ov9, f9, g2, g3⟩
    refine ⟨g1, s9, ov9, f9, g2, ?_⟩
    have e0 : s_sb (A 2) (q 35) true (m + 1) u = (s_pair (A 2) (q 35) u) :: s_sb (A 2) (q 35) true m (u + 2) := by
      show (if true = true then _ else _) :: s_sb (A 2) (q 35) true m (u + (if true = true then _ else _)) = _
      rw [if_pos rfl, if_pos rfl]
    rw [e0, List.map_cons]
    rw [List.append_assoc] at g3
    exact g3
theorem w_Pa_addString_38_25_false (Z : xZ) (d : Nat) (q : Nat → Int) (r : Nat → Option Nat) (A : Nat → Nat → Int) (dy : xH) (hd : 6 ≤ d) (i N : Int) (hl : 0 ≤ q 1219 ∧ q 1219 ≤ 6000) (hT : 0 ≤ q 34 ∧ q 34 ≤ q 35 ∧ q 35 ≤ 10248) (hN : N ≤ 100) : ∀ (m : Nat) (s ov : Int) (f : Nat → Int) (bs : List Int) (k u : Int), (0 ≤ k ∧ k + m = N ∧ 0 ≤ u ∧ u ≤ 10260 + 4 * k) → pb (q 1219) s ov f bs → xW Z d Y_Pa_addString 25 [(0, xC 38), (1, xC 1), (2, xI i), (3, xI N), (4, xI 0), (5, xI 0), (6, xI u), (7, xI k)] [] (hF (x_up (x_up q 1217 s) 1218 ov) r (x_up A 39 f) ++ dy) (fun v0 h2 => v0 = none ∧ ∃ s2 ov2 f2, h2 = hF (x_up (x_up q 1217 s2) 1218 ov2) r (x_up A 39 f2) ++ dy ∧ pb (q 1219) s2 ov2 f2 (bs ++ ((s_sb (A 2) (q 35) false m u).map x_by))) := by
  intro m
  induction m with
  | zero =>
    intro s ov f bs k u hk hp
    have hp0 := hp.1
    have hp1 := hp.2.1
    refine x_iload (x_d C_Pa_addString 15 rfl) rfl ?_
    refine x_iload_n (x_d C_Pa_addString 16 rfl) rfl ?_
    refine x_icmp_ge (tgt := 129) (x_d C_Pa_addString 17 rfl) rfl (fun _ => ?_) (fun q => absurd q (by omega))
    refine x_return (x_d C_Pa_addString 65 rfl) ?_
    exact ⟨rfl, s, ov, f, rfl, pb_nil hp⟩
  | succ m ih =>
    intro s ov f bs k u hk hp
    have hp0 := hp.1
    have hp1 := hp.2.1
    have hss := s_ss_b (A 2) (q 35) u
    have hpr := s_pair_b (A 2) (q 35) u
    have hsg := s_sg_in (A 2) (q 35) u (s_ss (A 2) (q 35) u)
    refine x_iload (x_d C_Pa_addString 15 rfl) rfl ?_
    refine x_iload_n (x_d C_Pa_addString 16 rfl) rfl ?_
    refine x_icmp_ge (tgt := 129) (x_d C_Pa_addString 17 rfl) rfl (fun q => absurd q (by omega)) (fun _ => ?_)
    refine x_iload (x_d C_Pa_addString 18 rfl) rfl ?_
    refine x_if_eq (tgt := 40) (x_d C_Pa_addString 19 rfl) rfl (fun _ => ?_) (fun q => absurd q (by omega))
    refine x_aload_n (x_d C_Pa_addString 22 rfl) rfl ?_
    refine x_iload (x_d C_Pa_addString 23 rfl) rfl ?_
    refine x_invokevirtual (st := []) (av := [xI (u)]) (x_d C_Pa_addString 24 rfl) k_Pa_73 m_T_signSize v_T_signSize cl_T rfl rfl (Nat.le_of_ble_eq_true rfl) (by omega) rfl (c_T_signSize Z (d - 1) (x_up (x_up q 1217 s) 1218 ov) r (x_up A 39 f) dy (by omega) u hT (by omega)) ?_
    rintro v_ _ ⟨hv_, rfl⟩
    obtain rfl : v_ = some (xI (s_ss (A 2) (q 35) u)) := hv_
    refine x_istore (l1 := [(8, xI (s_ss (A 2) (q 35) u)), (0, xC 38), (1, xC 1), (2, xI (i)), (3, xI (N)), (4, xI (0)), (5, xI (0)), (6, xI (u)), (7, xI (k))]) (x_d C_Pa_addString 25 rfl) (by decide) rfl ?_
    refine x_iload (x_d C_Pa_addString 26 rfl) rfl ?_
    refine x_if_eq (tgt := 62) (x_d C_Pa_addString 27 rfl) rfl (fun _ => ?_) (fun q => absurd q (by omega))
    refine x_aload_n (x_d C_Pa_addString 32 rfl) rfl ?_
    refine x_iload (x_d C_Pa_addString 33 rfl) rfl ?_
    refine x_iload (x_d C_Pa_addString 34 rfl) rfl ?_
    refine x_invokevirtual (st := []) (av := [xI (u), xI (s_ss (A 2) (q 35) u)]) (x_d C_Pa_addString 35 rfl) k_Pa_79 m_T_sign v_T_sign cl_T rfl rfl (Nat.le_of_ble_eq_true rfl) (by omega) rfl (c_T_sign Z (d - 1) (x_up (x_up q 1217 s) 1218 ov) r (x_up A 39 f) dy (by omega) u (s_ss (A 2) (q 35) u) hT (by omega)) ?_
    rintro v_ _ ⟨hv_, rfl⟩
    obtain rfl : v_ = some (xI (s_sg (A 2) (q 35) u (s_ss (A 2) (q 35) u))) := hv_
    refine x_istore (l1 := [(9, xI (s_sg (A 2) (q 35) u (s_ss (A 2) (q 35) u))), (8, xI (s_ss (A 2) (q 35) u)), (0, xC 38), (1, xC 1), (2, xI (i)), (3, xI (N)), (4, xI (0)), (5, xI (0)), (6, xI (u)), (7, xI (k))]) (x_d C_Pa_addString 36 rfl) (by decide) rfl ?_
    refine x_iload (x_d C_Pa_addString 37 rfl) rfl ?_
    refine x_if_eq (tgt := 110) (x_d C_Pa_addString 38 rfl) rfl (fun _ => ?_) (fun q => absurd q (by omega))
    refine x_aload_n (x_d C_Pa_addString 56 rfl) rfl ?_
    refine x_iload (x_d C_Pa_addString 57 rfl) rfl ?_
    refine x_invokevirtual (st := []) (av := [xI (s_sg (A 2) (q 35) u (s_ss (A 2) (q 35) u))]) (x_d C_Pa_addString 58 rfl) k_Pa_48 m_Pa_add v_Pa_add cl_Pa rfl rfl (Nat.le_of_ble_eq_true rfl) (by omega) rfl (c_Pb_add_38 Z (d - 1) q r A dy s ov f bs (s_sg (A 2) (q 35) u (s_ss (A 2) (q 35) u)) hl hp) ?_
    rintro _ _ ⟨rfl, s5, ov5, f5, rfl, hp5⟩
    have hp05 := hp5.1
    have hp15 := hp5.2.1
    refine x_iload (x_d C_Pa_addString 59 rfl) rfl ?_
    refine x_iload (x_d C_Pa_addString 60 rfl) rfl ?_
    refine x_iadd (x_d C_Pa_addString 61 rfl) ⟨by omega, by omega⟩ ?_
    refine x_istore (l1 := [(6, xI (u + (s_ss (A 2) (q 35) u))), (9, xI (s_sg (A 2) (q 35) u (s_ss (A 2) (q 35) u))), (8, xI (s_ss (A 2) (q 35) u)), (0, xC 38), (1, xC 1), (2, xI (i)), (3, xI (N)), (4, xI (0)), (5, xI (0)), (7, xI (k))]) (x_d C_Pa_addString 62 rfl) (by decide) rfl ?_
    refine x_iinc (l1 := [(7, xI (k + 1)), (6, xI (u + (s_ss (A 2) (q 35) u))), (9, xI (s_sg (A 2) (q 35) u (s_ss (A 2) (q 35) u))), (8, xI (s_ss (A 2) (q 35) u)), (0, xC 38), (1, xC 1), (2, xI (i)), (3, xI (N)), (4, xI (0)), (5, xI (0))]) (x_d C_Pa_addString 63 rfl) rfl ⟨by omega, by omega⟩ (by decide) rfl ?_
    refine x_goto (tgt := 25) (x_d C_Pa_addString 64 rfl) rfl ?_
    refine x_locs [4, 5, 6, 7, 8, 9, 1, 0] rfl ?_
    refine xW_post ?_ (ih s5 ov5 f5 _ (k + 1) (u + s_ss (A 2) (q 35) u) (by omega) hp5)
    rintro v h2 ⟨g1, s9, ov9, f9, g2, g3⟩
    refine ⟨g1, s9, ov9, f9, g2, ?_⟩
    have e0 : s_sb (A 2) (q 35) false (m + 1) u = (s_sg (A 2) (q 35) u (s_ss (A 2) (q 35) u)) :: s_sb (A 2) (q 35) false m (u + s_ss (A 2) (q 35) u) := by
      show (if false = true then _ else _) :: s_sb (A 2) (q 35) false m (u + (if false = true then _ else _)) = _
      rw [if_neg (by decide), if_neg (by decide)]
    rw [e0, List.map_cons]
    rw [List.append_assoc] at g3
    exact g3
theorem c_Pb_addString_38 (Z : xZ) (d : Nat) (q : Nat → Int) (r : Nat → Option Nat) (A : Nat → Nat → Int) (dy : xH) (s ov : Int) (f : Nat → Int) (bs : List Int) (hd : 6 ≤ d) (i N : Int) (hl : 0 ≤ q 1219 ∧ q 1219 ≤ 6000) (hp : pb (q 1219) s ov f bs) (hT : 0 ≤ q 34 ∧ q 34 ≤ q 35 ∧ q 35 ≤ 10248) (hN : 0 ≤ N ∧ N ≤ 100) (hi : 0 ≤ i ∧ i ≤ 10248) : xMet Z d Y_Pa_addString [xC 38, xC 1, xI i, xI N, xI 0] (hF (x_up (x_up q 1217 s) 1218 ov) r (x_up A 39 f) ++ dy) (fun v0 h2 => v0 = none ∧ ∃ s2 ov2 f2, h2 = hF (x_up (x_up q 1217 s2) 1218 ov2) r (x_up A 39 f2) ++ dy ∧ pb (q 1219) s2 ov2 f2 (bs ++ (s_sb (A 2) (q 35) (decide (s_byte (A 2) (q 35) i = 60)) N.toNat (i + 1)).map x_by)) := by
  refine xMet_of (by decide) (Nat.le_of_ble_eq_true rfl) (fun v0 h2 hq => by rw [hq.1]; trivial) ?_
  have hp0 := hp.1
  have hp1 := hp.2.1
  refine x_aload_n (x_d C_Pa_addString 0 rfl) rfl ?_
  refine x_iload_n (x_d C_Pa_addString 1 rfl) rfl ?_
  refine x_invokevirtual (st := []) (av := [xI (i)]) (x_d C_Pa_addString 2 rfl) k_Pa_68 m_T_byteAt v_T_byteAt cl_T rfl rfl (Nat.le_of_ble_eq_true rfl) (by omega) rfl (c_T_byteAt Z (d - 1) (x_up (x_up q 1217 s) 1218 ov) r (x_up A 39 f) dy i hT) ?_
  rintro v_ _ ⟨hv_, rfl⟩
  obtain rfl : v_ = some (xI (s_byte (A 2) (q 35) i)) := hv_
  refine x_bipush (x_d C_Pa_addString 3 rfl) (by omega) ?_
  refine x_icmp_ne (tgt := 14) (x_d C_Pa_addString 4 rfl) rfl (fun c1 => ?_) (fun c1 => ?_)
  · refine x_iconst (x_d C_Pa_addString 7 rfl) ⟨by omega, by omega⟩ ?_
    refine x_istore (l1 := [(5, xI (0)), (0, xC 38), (1, xC 1), (2, xI (i)), (3, xI (N)), (4, xI (0))]) (x_d C_Pa_addString 8 rfl) (by decide) rfl ?_
    refine x_iload_n (x_d C_Pa_addString 9 rfl) rfl ?_
    refine x_iconst (x_d C_Pa_addString 10 rfl) ⟨by omega, by omega⟩ ?_
    refine x_iadd (x_d C_Pa_addString 11 rfl) ⟨by omega, by omega⟩ ?_
    refine x_istore (l1 := [(6, xI (i + 1)), (5, xI (0)), (0, xC 38), (1, xC 1), (2, xI (i)), (3, xI (N)), (4, xI (0))]) (x_d C_Pa_addString 12 rfl) (by decide) rfl ?_
    refine x_iconst (x_d C_Pa_addString 13 rfl) ⟨by omega, by omega⟩ ?_
    refine x_istore (l1 := [(7, xI (0)), (6, xI (i + 1)), (5, xI (0)), (0, xC 38), (1, xC 1), (2, xI (i)), (3, xI (N)), (4, xI (0))]) (x_d C_Pa_addString 14 rfl) (by decide) rfl ?_
    refine x_locs [3, 4, 5, 6, 7, 2, 1, 0] rfl ?_
    rw [decide_eq_false (by omega)]
    exact w_Pa_addString_38_25_false Z d q r A dy hd i N hl hT (by omega) N.toNat s ov f bs 0 (i + 1) (by omega) hp
  · refine x_iconst (x_d C_Pa_addString 5 rfl) ⟨by omega, by omega⟩ ?_
    refine x_goto (tgt := 15) (x_d C_Pa_addString 6 rfl) rfl ?_
    refine x_istore (l1 := [(5, xI (1)), (0, xC 38), (1, xC 1), (2, xI (i)), (3, xI (N)), (4, xI (0))]) (x_d C_Pa_addString 8 rfl) (by decide) rfl ?_
    refine x_iload_n (x_d C_Pa_addString 9 rfl) rfl ?_
    refine x_iconst (x_d C_Pa_addString 10 rfl) ⟨by omega, by omega⟩ ?_
    refine x_iadd (x_d C_Pa_addString 11 rfl) ⟨by omega, by omega⟩ ?_
    refine x_istore (l1 := [(6, xI (i + 1)), (5, xI (1)), (0, xC 38), (1, xC 1), (2, xI (i)), (3, xI (N)), (4, xI (0))]) (x_d C_Pa_addString 12 rfl) (by decide) rfl ?_
    refine x_iconst (x_d C_Pa_addString 13 rfl) ⟨by omega, by omega⟩ ?_
    refine x_istore (l1 := [(7, xI (0)), (6, xI (i + 1)), (5, xI (1)), (0, xC 38), (1, xC 1), (2, xI (i)), (3, xI (N)), (4, xI (0))]) (x_d C_Pa_addString 14 rfl) (by decide) rfl ?_
    refine x_locs [3, 4, 5, 6, 7, 2, 1, 0] rfl ?_
    rw [decide_eq_true (by omega)]
    exact w_Pa_addString_38_25_true Z d q r A dy hd i N hl hT (by omega) N.toNat s ov f bs 0 (i + 1) (by omega) hp
theorem w_Pa_addString_40_25_true (Z : xZ) (d : Nat) (q : Nat → Int) (r : Nat → Option Nat) (A : Nat → Nat → Int) (dy : xH) (hd : 6 ≤ d) (i N : Int) (hl : 0 ≤ q 1283 ∧ q 1283 ≤ 6000) (hT : 0 ≤ q 34 ∧ q 34 ≤ q 35 ∧ q 35 ≤ 10248) (hN : N ≤ 100) : ∀ (m : Nat) (s ov : Int) (f : Nat → Int) (bs : List Int) (k u : Int), (0 ≤ k ∧ k + m = N ∧ 0 ≤ u ∧ u ≤ 10260 + 4 * k) → pb (q 1283) s ov f bs → xW Z d Y_Pa_addString 25 [(0, xC 40), (1, xC 1), (2, xI i), (3, xI N), (4, xI 1), (5, xI 1), (6, xI u), (7, xI k)] [] (hF (x_up (x_up q 1281 s) 1282 ov) r (x_up A 41 f) ++ dy) (fun v0 h2 => v0 = none ∧ ∃ s2 ov2 f2, h2 = hF (x_up (x_up q 1281 s2) 1282 ov2) r (x_up A 41 f2) ++ dy ∧ pb (q 1283) s2 ov2 f2 (bs ++ ((s_sb (A 2) (q 35) true m u).flatMap s_h2))) := by
  intro m
  induction m with
  | zero =>
    intro s ov f bs k u hk hp
    have hp0 := hp.1
    have hp1 := hp.2.1
    refine x_iload (x_d C_Pa_addString 15 rfl) rfl ?_
    refine x_iload_n (x_d C_Pa_addString 16 rfl) rfl ?_
    refine x_icmp_ge (tgt := 129) (x_d C_Pa_addString 17 rfl) rfl (fun _ => ?_) (fun q => absurd q (by omega))
    refine x_return (x_d C_Pa_addString 65 rfl) ?_
    exact ⟨rfl, s, ov, f, rfl, pb_nil hp⟩
  | succ m ih =>
    intro s ov f bs k u hk hp
    have hp0 := hp.1
    have hp1 := hp.2.1
    have hss := s_ss_b (A 2) (q 35) u
    have hpr := s_pair_b (A 2) (q 35) u
    have hsg := s_sg_in (A 2) (q 35) u (s_ss (A 2) (q 35) u)
    refine x_iload (x_d C_Pa_addString 15 rfl) rfl ?_
    refine x_iload_n (x_d C_Pa_addString 16 rfl) rfl ?_
    refine x_icmp_ge (tgt := 129) (x_d C_Pa_addString 17 rfl) rfl (fun q => absurd q (by omega)) (fun _ => ?_)
    refine x_iload (x_d C_Pa_addString 18 rfl) rfl ?_
    refine x_if_eq (tgt := 40) (x_d C_Pa_addString 19 rfl) rfl (fun q => absurd q (by omega)) (fun _ => ?_)
    refine x_iconst (x_d C_Pa_addString 20 rfl) ⟨by omega, by omega⟩ ?_
    refine x_goto (tgt := 46) (x_d C_Pa_addString 21 rfl) rfl ?_
    refine x_istore (l1 := [(8, xI (2)), (0, xC 40), (1, xC 1), (2, xI (i)), (3, xI (N)), (4, xI (1)), (5, xI (1)), (6, xI (u)), (7, xI (k))]) (x_d C_Pa_addString 25 rfl) (by decide) rfl ?_
    refine x_iload (x_d C_Pa_addString 26 rfl) rfl ?_
    refine x_if_eq (tgt := 62) (x_d C_Pa_addString 27 rfl) rfl (fun q => absurd q (by omega)) (fun _ => ?_)
    refine x_aload_n (x_d C_Pa_addString 28 rfl) rfl ?_
    refine x_iload (x_d C_Pa_addString 29 rfl) rfl ?_
    refine x_invokevirtual (st := []) (av := [xI (u)]) (x_d C_Pa_addString 30 rfl) k_Pa_76 m_T_pair v_T_pair cl_T rfl rfl (Nat.le_of_ble_eq_true rfl) (by omega) rfl (c_T_pair Z (d - 1) (x_up (x_up q 1281 s) 1282 ov) r (x_up A 41 f) dy (by omega) u hT (by omega)) ?_
    rintro v_ _ ⟨hv_, rfl⟩
    obtain rfl : v_ = some (xI (s_pair (A 2) (q 35) u)) := hv_
    refine x_goto (tgt := 70) (x_d C_Pa_addString 31 rfl) rfl ?_
    refine x_istore (l1 := [(9, xI (s_pair (A 2) (q 35) u)), (8, xI (2)), (0, xC 40), (1, xC 1), (2, xI (i)), (3, xI (N)), (4, xI (1)), (5, xI (1)), (6, xI (u)), (7, xI (k))]) (x_d C_Pa_addString 36 rfl) (by decide) rfl ?_
    refine x_iload (x_d C_Pa_addString 37 rfl) rfl ?_
    refine x_if_eq (tgt := 110) (x_d C_Pa_addString 38 rfl) rfl (fun q => absurd q (by omega)) (fun _ => ?_)
    refine x_aload_n (x_d C_Pa_addString 39 rfl) rfl ?_
    refine x_ldcS (i := 21) (x_d C_Pa_addString 40 rfl) rfl ?_
    refine x_iload (x_d C_Pa_addString 41 rfl) rfl ?_
    refine x_iconst (x_d C_Pa_addString 42 rfl) ⟨by omega, by omega⟩ ?_
    refine x_ishr (k := (4 : Int).toNat) (x_d C_Pa_addString 43 rfl) (by omega) (by omega) ?_
    refine x_bipush (x_d C_Pa_addString 44 rfl) (by omega) ?_
    refine x_iand15 (x_d C_Pa_addString 45 rfl) ?_
    refine x_invokevirtualS (i := 21) (st := [xC 40]) (av := [xI (((s_pair (A 2) (q 35) u) / 2 ^ (4 : Int).toNat) % 16)]) (x_d C_Pa_addString 46 rfl) k_Pa_44 m_S_charAt v_S_charAt rfl rfl rfl (Nat.le_of_ble_eq_true rfl) (by omega) rfl (c_S_charAt Z (d - 1) (hF (x_up (x_up q 1281 s) 1282 ov) r (x_up A 41 f) ++ dy) (by omega) (i := 21) rfl (((s_pair (A 2) (q 35) u) / 2 ^ (4 : Int).toNat) % 16) (show 0 ≤ ((s_pair (A 2) (q 35) u) / 2 ^ (4 : Int).toNat) % 16 ∧ ((s_pair (A 2) (q 35) u) / 2 ^ (4 : Int).toNat) % 16 < ((16 : Nat) : Int) by omega)) ?_
    rintro v_ _ ⟨hv_, rfl⟩
    obtain rfl : v_ = some (xI ([48, 49, 50, 51, 52, 53, 54, 55, 56, 57, 97, 98, 99, 100, 101, 102].getD (((s_pair (A 2) (q 35) u) / 2 ^ (4 : Int).toNat) % 16).toNat 0)) := hv_
    refine x_invokevirtual (st := []) (av := [xI ([48, 49, 50, 51, 52, 53, 54, 55, 56, 57, 97, 98, 99, 100, 101, 102].getD (((s_pair (A 2) (q 35) u) / 2 ^ (4 : Int).toNat) % 16).toNat 0)]) (x_d C_Pa_addString 47 rfl) k_Pa_48 m_Pa_add v_Pa_add cl_Pa rfl rfl (Nat.le_of_ble_eq_true rfl) (by omega) rfl (c_Pb_add_40 Z (d - 1) q r A dy s ov f bs ([48, 49, 50, 51, 52, 53, 54, 55, 56, 57, 97, 98, 99, 100, 101, 102].getD (((s_pair (A 2) (q 35) u) / 2 ^ (4 : Int).toNat) % 16).toNat 0) hl hp) ?_
    rintro _ _ ⟨rfl, s5, ov5, f5, rfl, hp5⟩
    have hp05 := hp5.1
    have hp15 := hp5.2.1
    refine x_aload_n (x_d C_Pa_addString 48 rfl) rfl ?_
    refine x_ldcS (i := 21) (x_d C_Pa_addString 49 rfl) rfl ?_
    refine x_iload (x_d C_Pa_addString 50 rfl) rfl ?_
    refine x_bipush (x_d C_Pa_addString 51 rfl) (by omega) ?_
    refine x_iand15 (x_d C_Pa_addString 52 rfl) ?_
    refine x_invokevirtualS (i := 21) (st := [xC 40]) (av := [xI ((s_pair (A 2) (q 35) u) % 16)]) (x_d C_Pa_addString 53 rfl) k_Pa_44 m_S_charAt v_S_charAt rfl rfl rfl (Nat.le_of_ble_eq_true rfl) (by omega) rfl (c_S_charAt Z (d - 1) (hF (x_up (x_up q 1281 s5) 1282 ov5) r (x_up A 41 f5) ++ dy) (by omega) (i := 21) rfl ((s_pair (A 2) (q 35) u) % 16) (show 0 ≤ (s_pair (A 2) (q 35) u) % 16 ∧ (s_pair (A 2) (q 35) u) % 16 < ((16 : Nat) : Int) by omega)) ?_
    rintro v_ _ ⟨hv_, rfl⟩
    obtain rfl : v_ = some (xI ([48, 49, 50, 51, 52, 53, 54, 55, 56, 57, 97, 98, 99, 100, 101, 102].getD ((s_pair (A 2) (q 35) u) % 16).toNat 0)) := hv_
    refine x_invokevirtual (st := []) (av := [xI ([48, 49, 50, 51, 52, 53, 54, 55, 56, 57, 97, 98, 99, 100, 101, 102].getD ((s_pair (A 2) (q 35) u) % 16).toNat 0)]) (x_d C_Pa_addString 54 rfl) k_Pa_48 m_Pa_add v_Pa_add cl_Pa rfl rfl (Nat.le_of_ble_eq_true rfl) (by omega) rfl (c_Pb_add_40 Z (d - 1) q r A dy s5 ov5 f5 (bs ++ ([x_by ([48, 49, 50, 51, 52, 53, 54, 55, 56, 57, 97, 98, 99, 100, 101, 102].getD (((s_pair (A 2) (q 35) u) / 2 ^ (4 : Int).toNat) % 16).toNat 0)])) ([48, 49, 50, 51, 52, 53, 54, 55, 56, 57, 97, 98, 99, 100, 101, 102].getD ((s_pair (A 2) (q 35) u) % 16).toNat 0) hl hp5) ?_
    rintro _ _ ⟨rfl, s6, ov6, f6, rfl, hp6⟩
    have hp06 := hp6.1
    have hp16 := hp6.2.1
    refine x_goto (tgt := 116) (x_d C_Pa_addString 55 rfl) rfl ?_
    refine x_iload (x_d C_Pa_addString 59 rfl) rfl ?_
    refine x_iload (x_d C_Pa_addString 60 rfl) rfl ?_
    refine x_iadd (x_d C_Pa_addString 61 rfl) ⟨by omega, by omega⟩ ?_
    refine x_istore (l1 := [(6, xI (u + 2)), (9, xI (s_pair (A 2) (q 35) u)), (8, xI (2)), (0, xC 40), (1, xC 1), (2, xI (i)), (3, xI (N)), (4, xI (1)), (5, xI (1)), (7, xI (k))]) (x_d C_Pa_addString 62 rfl) (by decide) rfl ?_
    refine x_iinc (l1 := [(7, xI (k + 1)), (6, xI (u + 2)), (9, xI (s_pair (A 2) (q 35) u)), (8, xI (2)), (0, xC 40), (1, xC 1), (2, xI (i)), (3, xI (N)), (4, xI (1)), (5, xI (1))]) (x_d C_Pa_addString 63 rfl) rfl ⟨by omega, by omega⟩ (by decide) rfl ?_
    refine x_goto (tgt := 25) (x_d C_Pa_addString 64 rfl) rfl ?_
    refine x_locs [4, 5, 6, 7, 8, 9, 1, 0] rfl ?_
    refine xW_post ?_ (ih s6 ov6 f6 _ (k + 1) (u + 2) (by omega) hp6)
    rintro v h2 ⟨g1, s9, ov9, f9, g2, g3⟩
    refine ⟨g1, s9, ov9, f9, g2, ?_⟩
    have e0 : s_sb (A 2) (q 35) true (m + 1) u = (s_pair (A 2) (q 35) u) :: s_sb (A 2) (q 35) true m (u + 2) := by
      show (if true = true then _ else _) :: s_sb (A 2) (q 35) true m (u + (if true = true then _ else _)) = _
      rw [if_pos rfl, if_pos rfl]
    rw [e0, List.flatMap_cons]
    rw [List.append_assoc, List.append_assoc] at g3
    have e1 := s_hc_get (k := (s_pair (A 2) (q 35) u) / 2 ^ (4 : Int).toNat % 16) (by omega)
    have e2 := s_hc_get (k := (s_pair (A 2) (q 35) u) % 16) (by omega)
    rw [e1, e2, s_hc_by (by omega), s_hc_by (by omega), s_sl4] at g3
    exact g3
theorem w_Pa_addString_40_25_false (Z : xZ) (d : Nat) (q : Nat → Int) (r : Nat → Option Nat) (A : Nat → Nat → Int) (dy : xH) (hd : 6 ≤ d) (i N : Int) (hl : 0 ≤ q 1283 ∧ q 1283 ≤ 6000) (hT : 0 ≤ q 34 ∧ q 34 ≤ q 35 ∧ q 35 ≤ 10248) (hN : N ≤ 100) : ∀ (m : Nat) (s ov : Int) (f : Nat → Int) (bs : List Int) (k u : Int), (0 ≤ k ∧ k + m = N ∧ 0 ≤ u ∧ u ≤ 10260 + 4 * k) → pb (q 1283) s ov f bs → xW Z d Y_Pa_addString 25 [(0, xC 40), (1, xC 1), (2, xI i), (3, xI N), (4, xI 1), (5, xI 0), (6, xI u), (7, xI k)] [] (hF (x_up (x_up q 1281 s) 1282 ov) r (x_up A 41 f) ++ dy) (fun v0 h2 => v0 = none ∧ ∃ s2 ov2 f2, h2 = hF (x_up (x_up q 1281 s2) 1282 ov2) r (x_up A 41 f2) ++ dy ∧ pb (q 1283) s2 ov2 f2 (bs ++ ((s_sb (A 2) (q 35) false m u).flatMap s_h2))) := by
  intro m
  induction m with
  | zero =>
    intro s ov f bs k u hk hp
    have hp0 := hp.1
    have hp1 := hp.2.1
    refine x_iload (x_d C_Pa_addString 15 rfl) rfl ?_
    refine x_iload_n (x_d C_Pa_addString 16 rfl) rfl ?_
    refine x_icmp_ge (tgt := 129) (x_d C_Pa_addString 17 rfl) rfl (fun _ => ?_) (fun q => absurd q (by omega))
    refine x_return (x_d C_Pa_addString 65 rfl) ?_
    exact ⟨rfl, s, ov, f, rfl, pb_nil hp⟩
  | succ m ih =>
    intro s ov f bs k u hk hp
    have hp0 := hp.1
    have hp1 := hp.2.1
    have hss := s_ss_b (A 2) (q 35) u
    have hpr := s_pair_b (A 2) (q 35) u
    have hsg := s_sg_in (A 2) (q 35) u (s_ss (A 2) (q 35) u)
    refine x_iload (x_d C_Pa_addString 15 rfl) rfl ?_
    refine x_iload_n (x_d C_Pa_addString 16 rfl) rfl ?_
    refine x_icmp_ge (tgt := 129) (x_d C_Pa_addString 17 rfl) rfl (fun q => absurd q (by omega)) (fun _ => ?_)
    refine x_iload (x_d C_Pa_addString 18 rfl) rfl ?_
    refine x_if_eq (tgt := 40) (x_d C_Pa_addString 19 rfl) rfl (fun _ => ?_) (fun q => absurd q (by omega))
    refine x_aload_n (x_d C_Pa_addString 22 rfl) rfl ?_
    refine x_iload (x_d C_Pa_addString 23 rfl) rfl ?_
    refine x_invokevirtual (st := []) (av := [xI (u)]) (x_d C_Pa_addString 24 rfl) k_Pa_73 m_T_signSize v_T_signSize cl_T rfl rfl (Nat.le_of_ble_eq_true rfl) (by omega) rfl (c_T_signSize Z (d - 1) (x_up (x_up q 1281 s) 1282 ov) r (x_up A 41 f) dy (by omega) u hT (by omega)) ?_
    rintro v_ _ ⟨hv_, rfl⟩
    obtain rfl : v_ = some (xI (s_ss (A 2) (q 35) u)) := hv_
    refine x_istore (l1 := [(8, xI (s_ss (A 2) (q 35) u)), (0, xC 40), (1, xC 1), (2, xI (i)), (3, xI (N)), (4, xI (1)), (5, xI (0)), (6, xI (u)), (7, xI (k))]) (x_d C_Pa_addString 25 rfl) (by decide) rfl ?_
    refine x_iload (x_d C_Pa_addString 26 rfl) rfl ?_
    refine x_if_eq (tgt := 62) (x_d C_Pa_addString 27 rfl) rfl (fun _ => ?_) (fun q => absurd q (by omega))
    refine x_aload_n (x_d C_Pa_addString 32 rfl) rfl ?_
    refine x_iload (x_d C_Pa_addString 33 rfl) rfl ?_
    refine x_iload (x_d C_Pa_addString 34 rfl) rfl ?_
    refine x_invokevirtual (st := []) (av := [xI (u), xI (s_ss (A 2) (q 35) u)]) (x_d C_Pa_addString 35 rfl) k_Pa_79 m_T_sign v_T_sign cl_T rfl rfl (Nat.le_of_ble_eq_true rfl) (by omega) rfl (c_T_sign Z (d - 1) (x_up (x_up q 1281 s) 1282 ov) r (x_up A 41 f) dy (by omega) u (s_ss (A 2) (q 35) u) hT (by omega)) ?_
    rintro v_ _ ⟨hv_, rfl⟩
    obtain rfl : v_ = some (xI (s_sg (A 2) (q 35) u (s_ss (A 2) (q 35) u))) := hv_
    refine x_istore (l1 := [(9, xI (s_sg (A 2) (q 35) u (s_ss (A 2) (q 35) u))), (8, xI (s_ss (A 2) (q 35) u)), (0, xC 40), (1, xC 1), (2, xI (i)), (3, xI (N)), (4, xI (1)), (5, xI (0)), (6, xI (u)), (7, xI (k))]) (x_d C_Pa_addString 36 rfl) (by decide) rfl ?_
    refine x_iload (x_d C_Pa_addString 37 rfl) rfl ?_
    refine x_if_eq (tgt := 110) (x_d C_Pa_addString 38 rfl) rfl (fun q => absurd q (by omega)) (fun _ => ?_)
    refine x_aload_n (x_d C_Pa_addString 39 rfl) rfl ?_
    refine x_ldcS (i := 21) (x_d C_Pa_addString 40 rfl) rfl ?_
    refine x_iload (x_d C_Pa_addString 41 rfl) rfl ?_
    refine x_iconst (x_d C_Pa_addString 42 rfl) ⟨by omega, by omega⟩ ?_
    refine x_ishr (k := (4 : Int).toNat) (x_d C_Pa_addString 43 rfl) (by omega) (by omega) ?_
    refine x_bipush (x_d C_Pa_addString 44 rfl) (by omega) ?_
    refine x_iand15 (x_d C_Pa_addString 45 rfl) ?_
    refine x_invokevirtualS (i := 21) (st := [xC 40]) (av := [xI (((s_sg (A 2) (q 35) u (s_ss (A 2) (q 35) u)) / 2 ^ (4 : Int).toNat) % 16)]) (x_d C_Pa_addString 46 rfl) k_Pa_44 m_S_charAt v_S_charAt rfl rfl rfl (Nat.le_of_ble_eq_true rfl) (by omega) rfl (c_S_charAt Z (d - 1) (hF (x_up (x_up q 1281 s) 1282 ov) r (x_up A 41 f) ++ dy) (by omega) (i := 21) rfl (((s_sg (A 2) (q 35) u (s_ss (A 2) (q 35) u)) / 2 ^ (4 : Int).toNat) % 16) (show 0 ≤ ((s_sg (A 2) (q 35) u (s_ss (A 2) (q 35) u)) / 2 ^ (4 : Int).toNat) % 16 ∧ ((s_sg (A 2) (q 35) u (s_ss (A 2) (q 35) u)) / 2 ^ (4 : Int).toNat) % 16 < ((16 : Nat) : Int) by omega)) ?_
    rintro v_ _ ⟨hv_, rfl⟩
    obtain rfl : v_ = some (xI ([48, 49, 50, 51, 52, 53, 54, 55, 56, 57, 97, 98, 99, 100, 101, 102].getD (((s_sg (A 2) (q 35) u (s_ss (A 2) (q 35) u)) / 2 ^ (4 : Int).toNat) % 16).toNat 0)) := hv_
    refine x_invokevirtual (st := []) (av := [xI ([48, 49, 50, 51, 52, 53, 54, 55, 56, 57, 97, 98, 99, 100, 101, 102].getD (((s_sg (A 2) (q 35) u (s_ss (A 2) (q 35) u)) / 2 ^ (4 : Int).toNat) % 16).toNat 0)]) (x_d C_Pa_addString 47 rfl) k_Pa_48 m_Pa_add v_Pa_add cl_Pa rfl rfl (Nat.le_of_ble_eq_true rfl) (by omega) rfl (c_Pb_add_40 Z (d - 1) q r A dy s ov f bs ([48, 49, 50, 51, 52, 53, 54, 55, 56, 57, 97, 98, 99, 100, 101, 102].getD (((s_sg (A 2) (q 35) u (s_ss (A 2) (q 35) u)) / 2 ^ (4 : Int).toNat) % 16).toNat 0) hl hp) ?_
    rintro _ _ ⟨rfl, s5, ov5, f5, rfl, hp5⟩
    have hp05 := hp5.1
    have hp15 := hp5.2.1
    refine x_aload_n (x_d C_Pa_addString 48 rfl) rfl ?_
    refine x_ldcS (i := 21) (x_d C_Pa_addString 49 rfl) rfl ?_
    refine x_iload (x_d C_Pa_addString 50 rfl) rfl ?_
    refine x_bipush (x_d C_Pa_addString 51 rfl) (by omega) ?_
    refine x_iand15 (x_d C_Pa_addString 52 rfl) ?_
    refine x_invokevirtualS (i := 21) (st := [xC 40]) (av := [xI ((s_sg (A 2) (q 35) u (s_ss (A 2) (q 35) u)) % 16)]) (x_d C_Pa_addString 53 rfl) k_Pa_44 m_S_charAt v_S_charAt rfl rfl rfl (Nat.le_of_ble_eq_true rfl) (by omega) rfl (c_S_charAt Z (d - 1) (hF (x_up (x_up q 1281 s5) 1282 ov5) r (x_up A 41 f5) ++ dy) (by omega) (i := 21) rfl ((s_sg (A 2) (q 35) u (s_ss (A 2) (q 35) u)) % 16) (show 0 ≤ (s_sg (A 2) (q 35) u (s_ss (A 2) (q 35) u)) % 16 ∧ (s_sg (A 2) (q 35) u (s_ss (A 2) (q 35) u)) % 16 < ((16 : Nat) : Int) by omega)) ?_
    rintro v_ _ ⟨hv_, rfl⟩
    obtain rfl : v_ = some (xI ([48, 49, 50, 51, 52, 53, 54, 55, 56, 57, 97, 98, 99, 100, 101, 102].getD ((s_sg (A 2) (q 35) u (s_ss (A 2) (q 35) u)) % 16).toNat 0)) := hv_
    refine x_invokevirtual (st := []) (av := [xI ([48, 49, 50, 51, 52, 53, 54, 55, 56, 57, 97, 98, 99, 100, 101, 102].getD ((s_sg (A 2) (q 35) u (s_ss (A 2) (q 35) u)) % 16).toNat 0)]) (x_d C_Pa_addString 54 rfl) k_Pa_48 m_Pa_add v_Pa_add cl_Pa rfl rfl (Nat.le_of_ble_eq_true rfl) (by omega) rfl (c_Pb_add_40 Z (d - 1) q r A dy s5 ov5 f5 (bs ++ ([x_by ([48, 49, 50, 51, 52, 53, 54, 55, 56, 57, 97, 98, 99, 100, 101, 102].getD (((s_sg (A 2) (q 35) u (s_ss (A 2) (q 35) u)) / 2 ^ (4 : Int).toNat) % 16).toNat 0)])) ([48, 49, 50, 51, 52, 53, 54, 55, 56, 57, 97, 98, 99, 100, 101, 102].getD ((s_sg (A 2) (q 35) u (s_ss (A 2) (q 35) u)) % 16).toNat 0) hl hp5) ?_
    rintro _ _ ⟨rfl, s6, ov6, f6, rfl, hp6⟩
    have hp06 := hp6.1
    have hp16 := hp6.2.1
    refine x_goto (tgt := 116) (x_d C_Pa_addString 55 rfl) rfl ?_
    refine x_iload (x_d C_Pa_addString 59 rfl) rfl ?_
    refine x_iload (x_d C_Pa_addString 60 rfl) rfl ?_
    refine x_iadd (x_d C_Pa_addString 61 rfl) ⟨by omega, by omega⟩ ?_
    refine x_istore (l1 := [(6, xI (u + (s_ss (A 2) (q 35) u))), (9, xI (s_sg (A 2) (q 35) u (s_ss (A 2) (q 35) u))), (8, xI (s_ss (A 2) (q 35) u)), (0, xC 40), (1, xC 1), (2, xI (i)), (3, xI (N)), (4, xI (1)), (5, xI (0)), (7, xI (k))]) (x_d C_Pa_addString 62 rfl) (by decide) rfl ?_
    refine x_iinc (l1 := [(7, xI (k + 1)), (6, xI (u + (s_ss (A 2) (q 35) u))), (9, xI (s_sg (A 2) (q 35) u (s_ss (A 2) (q 35) u))), (8, xI (s_ss (A 2) (q 35) u)), (0, xC 40), (1, xC 1), (2, xI (i)), (3, xI (N)), (4, xI (1)), (5, xI (0))]) (x_d C_Pa_addString 63 rfl) rfl ⟨by omega, by omega⟩ (by decide) rfl ?_
    refine x_goto (tgt := 25) (x_d C_Pa_addString 64 rfl) rfl ?_
    refine x_locs [4, 5, 6, 7, 8, 9, 1, 0] rfl ?_
    refine xW_post ?_ (ih s6 ov6 f6 _ (k + 1) (u + s_ss (A 2) (q 35) u) (by omega) hp6)
    rintro v h2 ⟨g1, s9, ov9, f9, g2, g3⟩
    refine ⟨g1, s9, ov9, f9, g2, ?_⟩
    have e0 : s_sb (A 2) (q 35) false (m + 1) u = (s_sg (A 2) (q 35) u (s_ss (A 2) (q 35) u)) :: s_sb (A 2) (q 35) false m (u + s_ss (A 2) (q 35) u) := by
      show (if false = true then _ else _) :: s_sb (A 2) (q 35) false m (u + (if false = true then _ else _)) = _
      rw [if_neg (by decide), if_neg (by decide)]
    rw [e0, List.flatMap_cons]
    rw [List.append_assoc, List.append_assoc] at g3
    have e1 := s_hc_get (k := (s_sg (A 2) (q 35) u (s_ss (A 2) (q 35) u)) / 2 ^ (4 : Int).toNat % 16) (by omega)
    have e2 := s_hc_get (k := (s_sg (A 2) (q 35) u (s_ss (A 2) (q 35) u)) % 16) (by omega)
    rw [e1, e2, s_hc_by (by omega), s_hc_by (by omega), s_sl4] at g3
    exact g3
theorem c_Pb_addString_40 (Z : xZ) (d : Nat) (q : Nat → Int) (r : Nat → Option Nat) (A : Nat → Nat → Int) (dy : xH) (s ov : Int) (f : Nat → Int) (bs : List Int) (hd : 6 ≤ d) (i N : Int) (hl : 0 ≤ q 1283 ∧ q 1283 ≤ 6000) (hp : pb (q 1283) s ov f bs) (hT : 0 ≤ q 34 ∧ q 34 ≤ q 35 ∧ q 35 ≤ 10248) (hN : 0 ≤ N ∧ N ≤ 100) (hi : 0 ≤ i ∧ i ≤ 10248) : xMet Z d Y_Pa_addString [xC 40, xC 1, xI i, xI N, xI 1] (hF (x_up (x_up q 1281 s) 1282 ov) r (x_up A 41 f) ++ dy) (fun v0 h2 => v0 = none ∧ ∃ s2 ov2 f2, h2 = hF (x_up (x_up q 1281 s2) 1282 ov2) r (x_up A 41 f2) ++ dy ∧ pb (q 1283) s2 ov2 f2 (bs ++ (s_sb (A 2) (q 35) (decide (s_byte (A 2) (q 35) i = 60)) N.toNat (i + 1)).flatMap s_h2)) := by
  refine xMet_of (by decide) (Nat.le_of_ble_eq_true rfl) (fun v0 h2 hq => by rw [hq.1]; trivial) ?_
  have hp0 := hp.1
  have hp1 := hp.2.1
  refine x_aload_n (x_d C_Pa_addString 0 rfl) rfl ?_
  refine x_iload_n (x_d C_Pa_addString 1 rfl) rfl ?_
  refine x_invokevirtual (st := []) (av := [xI (i)]) (x_d C_Pa_addString 2 rfl) k_Pa_68 m_T_byteAt v_T_byteAt cl_T rfl rfl (Nat.le_of_ble_eq_true rfl) (by omega) rfl (c_T_byteAt Z (d - 1) (x_up (x_up q 1281 s) 1282 ov) r (x_up A 41 f) dy i hT) ?_
  rintro v_ _ ⟨hv_, rfl⟩
  obtain rfl : v_ = some (xI (s_byte (A 2) (q 35) i)) := hv_
  refine x_bipush (x_d C_Pa_addString 3 rfl) (by omega) ?_
  refine x_icmp_ne (tgt := 14) (x_d C_Pa_addString 4 rfl) rfl (fun c1 => ?_) (fun c1 => ?_)
  · refine x_iconst (x_d C_Pa_addString 7 rfl) ⟨by omega, by omega⟩ ?_
    refine x_istore (l1 := [(5, xI (0)), (0, xC 40), (1, xC 1), (2, xI (i)), (3, xI (N)), (4, xI (1))]) (x_d C_Pa_addString 8 rfl) (by decide) rfl ?_
    refine x_iload_n (x_d C_Pa_addString 9 rfl) rfl ?_
    refine x_iconst (x_d C_Pa_addString 10 rfl) ⟨by omega, by omega⟩ ?_
    refine x_iadd (x_d C_Pa_addString 11 rfl) ⟨by omega, by omega⟩ ?_
    refine x_istore (l1 := [(6, xI (i + 1)), (5, xI (0)), (0, xC 40), (1, xC 1), (2, xI (i)), (3, xI (N)), (4, xI (1))]) (x_d C_Pa_addString 12 rfl) (by decide) rfl ?_
    refine x_iconst (x_d C_Pa_addString 13 rfl) ⟨by omega, by omega⟩ ?_
    refine x_istore (l1 := [(7, xI (0)), (6, xI (i + 1)), (5, xI (0)), (0, xC 40), (1, xC 1), (2, xI (i)), (3, xI (N)), (4, xI (1))]) (x_d C_Pa_addString 14 rfl) (by decide) rfl ?_
    refine x_locs [3, 4, 5, 6, 7, 2, 1, 0] rfl ?_
    rw [decide_eq_false (by omega)]
    exact w_Pa_addString_40_25_false Z d q r A dy hd i N hl hT (by omega) N.toNat s ov f bs 0 (i + 1) (by omega) hp
  · refine x_iconst (x_d C_Pa_addString 5 rfl) ⟨by omega, by omega⟩ ?_
    refine x_goto (tgt := 15) (x_d C_Pa_addString 6 rfl) rfl ?_
    refine x_istore (l1 := [(5, xI (1)), (0, xC 40), (1, xC 1), (2, xI (i)), (3, xI (N)), (4, xI (1))]) (x_d C_Pa_addString 8 rfl) (by decide) rfl ?_
    refine x_iload_n (x_d C_Pa_addString 9 rfl) rfl ?_
    refine x_iconst (x_d C_Pa_addString 10 rfl) ⟨by omega, by omega⟩ ?_
    refine x_iadd (x_d C_Pa_addString 11 rfl) ⟨by omega, by omega⟩ ?_
    refine x_istore (l1 := [(6, xI (i + 1)), (5, xI (1)), (0, xC 40), (1, xC 1), (2, xI (i)), (3, xI (N)), (4, xI (1))]) (x_d C_Pa_addString 12 rfl) (by decide) rfl ?_
    refine x_iconst (x_d C_Pa_addString 13 rfl) ⟨by omega, by omega⟩ ?_
    refine x_istore (l1 := [(7, xI (0)), (6, xI (i + 1)), (5, xI (1)), (0, xC 40), (1, xC 1), (2, xI (i)), (3, xI (N)), (4, xI (1))]) (x_d C_Pa_addString 14 rfl) (by decide) rfl ?_
    refine x_locs [3, 4, 5, 6, 7, 2, 1, 0] rfl ?_
    rw [decide_eq_true (by omega)]
    exact w_Pa_addString_40_25_true Z d q r A dy hd i N hl hT (by omega) N.toNat s ov f bs 0 (i + 1) (by omega) hp
/-- a poured stream's parts -/
def s_prd (a n : Int) : List tk := [(9, a, n, 2, -1), (3, n, 0, 1, 0)]
theorem s_prd_rp {t a n : Int} {P : Nat → Nat → Int} (ho : s_ok5 P) (ht : 0 ≤ t ∧ t < 12899) : s_rp t P (t + 1 + 1) (x_up (x_up (s_app (s_app P t (9, a, n, 1, -1)) (t + 1) (3, n, 0, 1, -1)) 9 (x_up (s_app (s_app P t (9, a, n, 1, -1)) (t + 1) (3, n, 0, 1, -1) 9) (t + 1).toNat 0)) 8 (x_up (s_app (s_app P t (9, a, n, 1, -1)) (t + 1) (3, n, 0, 1, -1) 8) t.toNat (t + 1 + 1 - t))) (some (s_prd a n, 0)) := by
  have h1 : s_rp t P (t + 1) (s_app P t (9, a, n, 1, -1)) (some ([s_one 9 a n], 0)) := s_rp_one ho ⟨ht.1, by omega⟩ 9 a n 0
  have h2 : s_rp (t + 1) (s_app P t (9, a, n, 1, -1)) (t + 1 + 1) (s_app (s_app P t (9, a, n, 1, -1)) (t + 1) (3, n, 0, 1, -1)) (some ([s_one 3 n 0], 0)) := s_rp_one h1.2.1 ⟨by omega, by omega⟩ 3 n 0 0
  have h3 := s_rp_nm (u := 0) h2 (fun y hy => by have := Option.some.inj hy; rw [← this]; exact List.cons_ne_nil _ _) (fun z => by cases z) ⟨by omega, by omega⟩
  have hat : s_at (x_up (s_app (s_app P t (9, a, n, 1, -1)) (t + 1) (3, n, 0, 1, -1)) 9 (x_up (s_app (s_app P t (9, a, n, 1, -1)) (t + 1) (3, n, 0, 1, -1) 9) (t + 1).toNat 0)) t.toNat [(9, a, n, 1, -1), (3, n, 0, 1, 0)] := by
    rw [s_at_cons]
    refine ⟨?_, ?_⟩
    · rw [h3.1 t.toNat (by omega)]
      exact (h1.2.2.2.2 _ _ rfl).2 0 (by simp)
    · have := (h3.2.2.2.2 _ _ rfl).2
      rw [show (t + 1).toNat = t.toNat + 1 by omega] at this ⊢
      exact this
  generalize hP : x_up (s_app (s_app P t (9, a, n, 1, -1)) (t + 1) (3, n, 0, 1, -1)) 9 (x_up (s_app (s_app P t (9, a, n, 1, -1)) (t + 1) (3, n, 0, 1, -1) 9) (t + 1).toNat 0) = P3 at h3 hat
  have e8 : s_app (s_app P t (9, a, n, 1, -1)) (t + 1) (3, n, 0, 1, -1) 8 = P3 8 := by rw [← hP]; rfl
  rw [e8]
  have hk : s_keep t.toNat P P3 := s_keep_tr h1.1 h3.1 (by omega)
  refine ⟨fun i hi => ?_, ⟨fun i => ?_, h3.2.1.2⟩, by omega, by omega, fun ts j e => ?_⟩
  · rw [s_tok_cl, if_neg (by omega)]; exact hk i hi
  · show 0 ≤ x_up (P3 8) t.toNat (t + 1 + 1 - t) i ∧ x_up (P3 8) t.toNat (t + 1 + 1 - t) i ≤ 12900
    by_cases e : i = t.toNat
    · rw [e, x_up_s]; omega
    · rw [x_up_n _ _ e]; exact h3.2.1.1 i
  · have e := Option.some.inj e
    have e1 : s_prd a n = ts := congrArg Prod.fst e
    subst e1
    refine ⟨by show _ = t + ((2 : Nat) : Int); omega, ?_⟩
    show s_at _ _ [(9, a, n, 2, -1), (3, n, 0, 1, 0)]
    rw [s_at_cons] at hat ⊢
    refine ⟨?_, fun i hi => ?_⟩
    · rw [s_tok_cl, if_pos rfl]
      have g := hat.1
      have g1 : P3 5 t.toNat = 9 := congrArg (fun x : tk => x.1) g
      have g2 : P3 6 t.toNat = a := congrArg (fun x : tk => x.2.1) g
      have g3 : P3 7 t.toNat = n := congrArg (fun x : tk => x.2.2.1) g
      have g4 : P3 9 t.toNat = -1 := congrArg (fun x : tk => x.2.2.2.2) g
      rw [g1, g2, g3, g4, show t + 1 + 1 - t = 2 by omega]
    · rw [s_tok_cl, if_neg (by omega)]
      exact hat.2 i hi
theorem c_P_addPoured (Z : xZ) (d : Nat) (q : Nat → Int) (r : Nat → Option Nat) (A : Nat → Nat → Int) (dy : xH) (t : Int) (P : Nat → Nat → Int) (hd : 2 ≤ d) (a n : Int) (ho : s_ok5 P) (ht : 0 ≤ t ∧ t < 12899) : xMet Z d Y_P_addPoured [xC 4, xI a, xI n] (hF (x_up q 133 t) r (s_pt A P) ++ dy) (fun v h2 => v = some (xI 1) ∧ ∃ t2 P2, h2 = hF (x_up q 133 t2) r (s_pt A P2) ++ dy ∧ s_rp t P t2 P2 (some (s_prd a n, 0))) := by
  refine xMet_of (by decide) (Nat.le_of_ble_eq_true rfl) (fun v h2 hq => by rw [hq.1]; exact Or.inr rfl) ?_
  refine x_aload_n (x_d C_P_addPoured 0 rfl) rfl ?_
  refine x_bipush (x_d C_P_addPoured 1 rfl) (by omega) ?_
  refine x_iload_n (x_d C_P_addPoured 2 rfl) rfl ?_
  refine x_iload_n (x_d C_P_addPoured 3 rfl) rfl ?_
  refine x_invokevirtual (st := []) (av := [xI (9), xI (a), xI (n)]) (x_d C_P_addPoured 4 rfl) k_P_35 m_P_add v_P_add cl_P rfl rfl (Nat.le_of_ble_eq_true rfl) (by omega) rfl (c_P_add Z (d - 1) (x_up q 133 t) r (x_up (x_up (x_up (x_up (x_up A 5 (P 5)) 6 (P 6)) 7 (P 7)) 8 (P 8)) 9 (P 9)) dy 9 a n (show 0 ≤ t ∧ t < 12900 from ⟨by omega, by omega⟩)) ?_
  rintro v_ _ ⟨hv_, rfl⟩
  obtain rfl : v_ = some (xI (t)) := hv_
  refine x_istore_n (l1 := [(3, xI (t)), (0, xC 4), (1, xI (a)), (2, xI (n))]) (x_d C_P_addPoured 5 rfl) (by decide) rfl ?_
  refine x_aload_n (x_d C_P_addPoured 6 rfl) rfl ?_
  refine x_iconst (x_d C_P_addPoured 7 rfl) ⟨by omega, by omega⟩ ?_
  refine x_iload_n (x_d C_P_addPoured 8 rfl) rfl ?_
  refine x_iconst (x_d C_P_addPoured 9 rfl) ⟨by omega, by omega⟩ ?_
  refine x_invokevirtual (st := []) (av := [xI (3), xI (n), xI (0)]) (x_d C_P_addPoured 10 rfl) k_P_35 m_P_add v_P_add cl_P rfl rfl (Nat.le_of_ble_eq_true rfl) (by omega) rfl (c_P_add Z (d - 1) (x_up q 133 (t + 1)) r (x_up (x_up (x_up (x_up (x_up A 5 (x_up (P 5) (t).toNat 9)) 6 (x_up (P 6) (t).toNat a)) 7 (x_up (P 7) (t).toNat n)) 8 (x_up (P 8) (t).toNat 1)) 9 (x_up (P 9) (t).toNat (-1))) dy 3 n 0 (show 0 ≤ (t + 1) ∧ (t + 1) < 12900 from ⟨by omega, by omega⟩)) ?_
  rintro v_ _ ⟨hv_, rfl⟩
  obtain rfl : v_ = some (xI (t + 1)) := hv_
  refine x_istore (l1 := [(4, xI (t + 1)), (3, xI (t)), (0, xC 4), (1, xI (a)), (2, xI (n))]) (x_d C_P_addPoured 11 rfl) (by decide) rfl ?_
  refine x_iload_n (x_d C_P_addPoured 12 rfl) rfl ?_
  refine x_if_lt (tgt := 27) (x_d C_P_addPoured 13 rfl) rfl (fun q => absurd q (by omega)) (fun _ => ?_)
  refine x_iload (x_d C_P_addPoured 14 rfl) rfl ?_
  refine x_if_ge (tgt := 29) (x_d C_P_addPoured 15 rfl) rfl (fun _ => ?_) (fun q => absurd q (by omega))
  refine x_aload_n (x_d C_P_addPoured 18 rfl) rfl ?_
  refine x_getfield (v := xC 9) (x_d C_P_addPoured 19 rfl) f_P_24 rfl rfl ?_
  refine x_iload (x_d C_P_addPoured 20 rfl) rfl ?_
  refine x_iconst (x_d C_P_addPoured 21 rfl) ⟨by omega, by omega⟩ ?_
  refine x_iastore (h1 := hF (x_up q 133 (t + 1 + 1)) r (x_up (x_up (x_up (x_up (x_up A 5 (x_up (x_up (P 5) (t).toNat 9) (t + 1).toNat 3)) 6 (x_up (x_up (P 6) (t).toNat a) (t + 1).toNat n)) 7 (x_up (x_up (P 7) (t).toNat n) (t + 1).toNat 0)) 8 (x_up (x_up (P 8) (t).toNat 1) (t + 1).toNat 1)) 9 (x_up (x_up (x_up (P 9) (t).toNat (-1)) (t + 1).toNat (-1)) (t + 1).toNat 0)) ++ dy) (x_d C_P_addPoured 22 rfl) rfl (by omega) (by omega) rfl ?_
  refine x_aload_n (x_d C_P_addPoured 23 rfl) rfl ?_
  refine x_iload_n (x_d C_P_addPoured 24 rfl) rfl ?_
  refine x_invokevirtual (st := []) (av := [xI (t)]) (x_d C_P_addPoured 25 rfl) k_P_39 m_P_close v_P_close cl_P rfl rfl (Nat.le_of_ble_eq_true rfl) (by omega) rfl (c_P_close Z (d - 1) (x_up q 133 (t + 1 + 1)) r (x_up (x_up (x_up (x_up (x_up A 5 (x_up (x_up (P 5) (t).toNat 9) (t + 1).toNat 3)) 6 (x_up (x_up (P 6) (t).toNat a) (t + 1).toNat n)) 7 (x_up (x_up (P 7) (t).toNat n) (t + 1).toNat 0)) 8 (x_up (x_up (P 8) (t).toNat 1) (t + 1).toNat 1)) 9 (x_up (x_up (x_up (P 9) (t).toNat (-1)) (t + 1).toNat (-1)) (t + 1).toNat 0)) dy t (show 0 ≤ t + 1 + 1 ∧ t + 1 + 1 ≤ 12900 ∧ 0 ≤ t ∧ t < 12900 from ⟨by omega, by omega, by omega, by omega⟩)) ?_
  rintro _ _ ⟨rfl, rfl⟩
  refine x_iconst (x_d C_P_addPoured 26 rfl) ⟨by omega, by omega⟩ ?_
  refine x_ireturn (x_d C_P_addPoured 27 rfl) ?_
  refine ⟨rfl, t + 1 + 1, x_up (x_up (s_app (s_app P t (9, a, n, 1, -1)) (t + 1) (3, n, 0, 1, -1)) 9 (x_up (s_app (s_app P t (9, a, n, 1, -1)) (t + 1) (3, n, 0, 1, -1) 9) (t + 1).toNat 0)) 8 (x_up (s_app (s_app P t (9, a, n, 1, -1)) (t + 1) (3, n, 0, 1, -1) 8) t.toNat (t + 1 + 1 - t)), rfl, ?_⟩
  exact s_prd_rp ho ht
