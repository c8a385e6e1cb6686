/-! the reference: values that are written -/
theorem s_h2_by (v : Int) : s_h2 (x_by v) = s_h2 v := by
  have h : x_by v % 256 = v % 256 := Int.bmod_emod
  unfold s_h2
  rw [show x_by v / 16 % 16 = v / 16 % 16 by omega, show x_by v % 16 = v % 16 by omega]
/-- what writing the part at cell c says -/
def WM (Z : xZ) (d : Nat) (q : Nat → Int) (r : Nat → Option Nat) (A : Nat → Nat → Int) (dy : xH) (c : Nat) (out : List Int) : Prop := ∀ (s ov : Int) (f : Nat → Int) (bs : List Int), pb 6000 s ov f bs → xMet Z d Y_M_write [xC 42, xC c] (hF (x_up (x_up q 1359 s) 1360 ov) r (x_up A 48 f) ++ dy) (fun v0 h2 => v0 = none ∧ ∃ s2 ov2 f2, h2 = hF (x_up (x_up q 1359 s2) 1360 ov2) r (x_up A 48 f2) ++ dy ∧ pb 6000 s2 ov2 f2 (bs ++ out))
/-- one of the values of a box, with what stands before it -/
def s_pc (K : Int) (nmo out : Nat → List Int) (k : Nat) : List Int := (if k = 0 then [] else [32]) ++ ((if K = 6 then [] else [47] ++ (nmo k ++ [32])) ++ out k)
def s_pcs (F : Nat → List Int) : Nat → Nat → List Int
  | 0, _ => []
  | m + 1, k => F k ++ s_pcs F m (k + 1)
theorem w_M_write_119 (Z : xZ) (d : Nat) (q : Nat → Int) (r : Nat → Option Nat) (A : Nat → Nat → Int) (dy : xH) (hd : 2 ≤ d) (c cb n : Nat) (fb : Nat → Int) (hb : ct dy cb (xA 1 n fb)) (hn : (n : Int) ≤ 100000) (hB : ∀ j, j < n → -128 ≤ fb j ∧ fb j ≤ 127) (Q : Option xV → xH → Prop) : ∀ (m : Nat) (t s ov : Int) (f : Nat → Int) (bs : List Int), (0 ≤ t ∧ t + m = n) → pb 6000 s ov f bs → (∀ s2 ov2 f2, pb 6000 s2 ov2 f2 (bs ++ (s_sl fb t.toNat m).flatMap s_h2) → xW Z d Y_M_write 157 [(0, xC 42)] [] (hF (x_up (x_up q 1359 s2) 1360 ov2) r (x_up A 48 f2) ++ dy) Q) → xW Z d Y_M_write 119 [(0, xC 42), (2, xC cb), (3, xI (n : Int)), (4, xI t)] [] (hF (x_up (x_up q 1359 s) 1360 ov) r (x_up A 48 f) ++ dy) Q := by
  intro m
  induction m with
  | zero =>
    intro t s ov f bs ht hp kk
    refine x_iload (x_d C_M_write 40 rfl) rfl ?_
    refine x_iload_n (x_d C_M_write 41 rfl) rfl ?_
    refine x_icmp_ge (tgt := 157) (x_d C_M_write 42 rfl) rfl (fun _ => ?_) (fun q => absurd q (by omega))
    refine x_locs [0] rfl ?_
    exact kk s ov f (pb_nil hp)
  | succ m ih =>
    intro t s ov f bs ht hp kk
    have hbt := hB t.toNat (by omega)
    refine x_iload (x_d C_M_write 40 rfl) rfl ?_
    refine x_iload_n (x_d C_M_write 41 rfl) rfl ?_
    refine x_icmp_ge (tgt := 157) (x_d C_M_write 42 rfl) rfl (fun q => absurd q (by omega)) (fun _ => ?_)
    refine x_aload_n (x_d C_M_write 43 rfl) rfl ?_
    refine x_iload (x_d C_M_write 44 rfl) rfl ?_
    refine x_baload (f := fb) (x_d C_M_write 45 rfl) (ct_get hb _ _ _) (by omega) (by omega) ?_
    refine x_istore (l1 := [(5, xI (fb (t).toNat)), (0, xC 42), (2, xC cb), (3, xI ((n : Int))), (4, xI (t))]) (x_d C_M_write 46 rfl) (by decide) rfl ?_
    refine x_aload_n (x_d C_M_write 47 rfl) rfl ?_
    refine x_iload (x_d C_M_write 48 rfl) rfl ?_
    refine x_iconst (x_d C_M_write 49 rfl) ⟨by omega, by omega⟩ ?_
    refine x_ishr (k := (4 : Int).toNat) (x_d C_M_write 50 rfl) (by omega) (by omega) ?_
    refine x_bipush (x_d C_M_write 51 rfl) (by omega) ?_
    refine x_iand15 (x_d C_M_write 52 rfl) ?_
    refine x_invokevirtual (st := []) (av := [xI (((fb (t).toNat) / 2 ^ (4 : Int).toNat) % 16)]) (x_d C_M_write 53 rfl) k_M_407 m_M_hexDigit v_M_hexDigit cl_M rfl rfl (Nat.le_of_ble_eq_true rfl) (by omega) rfl (c_M_hexDigit Z (d - 1) q r A dy (by omega) s ov f bs (((fb (t).toNat) / 2 ^ (4 : Int).toNat) % 16) (by omega) hp) ?_
    rintro _ _ ⟨rfl, s2, ov2, f2, rfl, hp2⟩
    refine x_aload_n (x_d C_M_write 54 rfl) rfl ?_
    refine x_iload (x_d C_M_write 55 rfl) rfl ?_
    refine x_bipush (x_d C_M_write 56 rfl) (by omega) ?_
    refine x_iand15 (x_d C_M_write 57 rfl) ?_
    refine x_invokevirtual (st := []) (av := [xI ((fb (t).toNat) % 16)]) (x_d C_M_write 58 rfl) k_M_407 m_M_hexDigit v_M_hexDigit cl_M rfl rfl (Nat.le_of_ble_eq_true rfl) (by omega) rfl (c_M_hexDigit Z (d - 1) q r A dy (by omega) s2 ov2 f2 (bs ++ [s_hc (((fb (t).toNat) / 2 ^ (4 : Int).toNat) % 16)]) ((fb (t).toNat) % 16) (by omega) hp2) ?_
    rintro _ _ ⟨rfl, s3, ov3, f3, rfl, hp3⟩
    refine x_iinc (l1 := [(4, xI (t + 1)), (5, xI (fb (t).toNat)), (0, xC 42), (2, xC cb), (3, xI ((n : Int)))]) (x_d C_M_write 59 rfl) rfl ⟨by omega, by omega⟩ (by decide) rfl ?_
    refine x_goto (tgt := 119) (x_d C_M_write 60 rfl) rfl ?_
    refine x_locs [2, 3, 4, 0] rfl ?_
    refine ih (t + 1) _ _ _ _ (by omega) hp3 (fun s2 ov2 f2 h2 => kk s2 ov2 f2 ?_)
    rw [List.append_assoc, List.append_assoc, s_sl4, show (t + 1).toNat = t.toNat + 1 by omega] at h2
    exact h2
theorem w_M_write_219 (Z : xZ) (d : Nat) (q : Nat → Int) (r : Nat → Option Nat) (A : Nat → Nat → Int) (dy : xH) (hd : 3 ≤ d) (c ci cap : Nat) (K x y m : Int) (bt nm : Option Nat) (fi : Nat → Option Nat) (hc : ct dy c (xB 12 [xI K, xI x, xI y, xI m, xO bt, xC ci, xO nm])) (hci : ct dy ci (xQ 4 cap fi)) (hm : 0 ≤ m ∧ m ≤ cap ∧ cap ≤ 300) (nmo out : Nat → List Int) (hnm : ¬ K = 6 → ∃ cn cap2 fn, nm = some cn ∧ ct dy cn (xQ 5 cap2 fn) ∧ m ≤ (cap2 : Int) ∧ cap2 ≤ 300 ∧ ∀ k : Nat, (k : Int) < m → ∃ cb len fb, fn k = some cb ∧ ct dy cb (xA 1 len fb) ∧ (len : Int) ≤ 100000 ∧ s_sl fb 0 len = nmo k) (hit : ∀ k : Nat, (k : Int) < m → ∃ c2 fs, fi k = some c2 ∧ ct dy c2 (xB 12 fs) ∧ WM Z (d - 1) q r A dy c2 (out k)) (Q : Option xV → xH → Prop) : ∀ (u : Nat) (t s ov : Int) (f : Nat → Int) (bs : List Int), (0 ≤ t ∧ t + u = m) → pb 6000 s ov f bs → (∀ s2 ov2 f2, pb 6000 s2 ov2 f2 (bs ++ s_pcs (s_pc K nmo out) u t.toNat) → xW Z d Y_M_write 284 [(0, xC 42), (1, xC c)] [] (hF (x_up (x_up q 1359 s2) 1360 ov2) r (x_up A 48 f2) ++ dy) Q) → xW Z d Y_M_write 219 [(0, xC 42), (1, xC c), (2, xI t)] [] (hF (x_up (x_up q 1359 s) 1360 ov) r (x_up A 48 f) ++ dy) Q := by
  intro u
  induction u with
  | zero =>
    intro t s ov f bs ht hp kk
    refine x_iload_n (x_d C_M_write 93 rfl) rfl ?_
    refine x_aload_n (x_d C_M_write 94 rfl) rfl ?_
    refine x_getfield (v := xI (m)) (x_d C_M_write 95 rfl) f_M_145 (ct_get hc _ _ _) rfl ?_
    refine x_icmp_ge (tgt := 284) (x_d C_M_write 96 rfl) rfl (fun _ => ?_) (fun q => absurd q (by omega))
    refine x_locs [0, 1] rfl ?_
    exact kk s ov f (pb_nil hp)
  | succ u ih =>
    intro t s ov f bs ht hp kk
    obtain ⟨ce, fs2, hc2, hg2, hw2⟩ := hit t.toNat (by omega)
    have hpc : s_pcs (s_pc K nmo out) (u + 1) t.toNat = s_pc K nmo out t.toNat ++ s_pcs (s_pc K nmo out) u (t + 1).toNat := by rw [show (t + 1).toNat = t.toNat + 1 by omega]; rfl
    have hpk : s_pc K nmo out t.toNat = (if t.toNat = 0 then [] else [32]) ++ ((if K = 6 then [] else [47] ++ (nmo t.toNat ++ [32])) ++ out t.toNat) := rfl
    by_cases hK : K = 6
    · refine x_iload_n (x_d C_M_write 93 rfl) rfl ?_
      refine x_aload_n (x_d C_M_write 94 rfl) rfl ?_
      refine x_getfield (v := xI (m)) (x_d C_M_write 95 rfl) f_M_145 (ct_get hc _ _ _) rfl ?_
      refine x_icmp_ge (tgt := 284) (x_d C_M_write 96 rfl) rfl (fun q => absurd q (by omega)) (fun _ => ?_)
      refine x_iload_n (x_d C_M_write 97 rfl) rfl ?_
      refine x_if_le (tgt := 237) (x_d C_M_write 98 rfl) rfl (fun c2 => ?_) (fun c2 => ?_)
      · refine x_aload_n (x_d C_M_write 102 rfl) rfl ?_
        refine x_getfield (v := xI (K)) (x_d C_M_write 103 rfl) f_M_261 (ct_get hc _ _ _) rfl ?_
        refine x_bipush (x_d C_M_write 104 rfl) (by omega) ?_
        refine x_icmp_eq (tgt := 268) (x_d C_M_write 105 rfl) rfl (fun _ => ?_) (fun q => absurd q (by omega))
        refine x_aload_n (x_d C_M_write 118 rfl) rfl ?_
        refine x_aload_n (x_d C_M_write 119 rfl) rfl ?_
        refine x_getfield (v := xC ci) (x_d C_M_write 120 rfl) f_M_141 (ct_get hc _ _ _) rfl ?_
        refine x_iload_n (x_d C_M_write 121 rfl) rfl ?_
        refine x_aaload (x_d C_M_write 122 rfl) (ct_get hci _ _ _) (by omega) (by omega) ?_
        rw [hc2]
        refine x_invokevirtual (st := []) (av := [xC ce]) (x_d C_M_write 123 rfl) k_M_414 m_M_write v_M_write cl_M rfl rfl (Nat.le_of_ble_eq_true rfl) (by omega) rfl (hw2 s ov f bs hp) ?_
        rintro _ _ ⟨rfl, s4, ov4, f4, rfl, hp4⟩
        refine x_iinc (l1 := [(2, xI (t + 1)), (0, xC 42), (1, xC c)]) (x_d C_M_write 124 rfl) rfl ⟨by omega, by omega⟩ (by decide) rfl ?_
        refine x_goto (tgt := 219) (x_d C_M_write 125 rfl) rfl ?_
        refine x_locs [1, 2, 0] rfl ?_
        refine ih (t + 1) _ _ _ _ (by omega) hp4 (fun s2 ov2 f2 h2 => kk s2 ov2 f2 ?_)
        rw [hpc, hpk, if_pos hK, if_pos (by omega)]
        simp only [List.append_assoc, List.nil_append] at h2 ⊢
        exact h2
      · refine x_aload_n (x_d C_M_write 99 rfl) rfl ?_
        refine x_bipush (x_d C_M_write 100 rfl) (by omega) ?_
        refine x_invokevirtual (st := []) (av := [xI (32)]) (x_d C_M_write 101 rfl) k_M_394 m_M_say2 v_M_say2 cl_M rfl rfl (Nat.le_of_ble_eq_true rfl) (by omega) rfl (c_M_say2 Z (d - 1) q r A dy s ov f bs 32 hp) ?_
        rintro _ _ ⟨rfl, s5, ov5, f5, rfl, hp5⟩
        refine x_aload_n (x_d C_M_write 102 rfl) rfl ?_
        refine x_getfield (v := xI (K)) (x_d C_M_write 103 rfl) f_M_261 (ct_get hc _ _ _) rfl ?_
        refine x_bipush (x_d C_M_write 104 rfl) (by omega) ?_
        refine x_icmp_eq (tgt := 268) (x_d C_M_write 105 rfl) rfl (fun _ => ?_) (fun q => absurd q (by omega))
        refine x_aload_n (x_d C_M_write 118 rfl) rfl ?_
        refine x_aload_n (x_d C_M_write 119 rfl) rfl ?_
        refine x_getfield (v := xC ci) (x_d C_M_write 120 rfl) f_M_141 (ct_get hc _ _ _) rfl ?_
        refine x_iload_n (x_d C_M_write 121 rfl) rfl ?_
        refine x_aaload (x_d C_M_write 122 rfl) (ct_get hci _ _ _) (by omega) (by omega) ?_
        rw [hc2]
        refine x_invokevirtual (st := []) (av := [xC ce]) (x_d C_M_write 123 rfl) k_M_414 m_M_write v_M_write cl_M rfl rfl (Nat.le_of_ble_eq_true rfl) (by omega) rfl (hw2 s5 ov5 f5 (bs ++ [32]) hp5) ?_
        rintro _ _ ⟨rfl, s7, ov7, f7, rfl, hp7⟩
        refine x_iinc (l1 := [(2, xI (t + 1)), (0, xC 42), (1, xC c)]) (x_d C_M_write 124 rfl) rfl ⟨by omega, by omega⟩ (by decide) rfl ?_
        refine x_goto (tgt := 219) (x_d C_M_write 125 rfl) rfl ?_
        refine x_locs [1, 2, 0] rfl ?_
        refine ih (t + 1) _ _ _ _ (by omega) hp7 (fun s2 ov2 f2 h2 => kk s2 ov2 f2 ?_)
        rw [hpc, hpk, if_pos hK, if_neg (by omega)]
        simp only [List.append_assoc, List.nil_append] at h2 ⊢
        exact h2
    · obtain ⟨cn, cap2, fn, rfl, hcn, hm2, hcap2, hnk⟩ := hnm hK
      obtain ⟨cb, len, fb, hcb, hgb, hlen, hnb⟩ := hnk t.toNat (by omega)
      refine x_iload_n (x_d C_M_write 93 rfl) rfl ?_
      refine x_aload_n (x_d C_M_write 94 rfl) rfl ?_
      refine x_getfield (v := xI (m)) (x_d C_M_write 95 rfl) f_M_145 (ct_get hc _ _ _) rfl ?_
      refine x_icmp_ge (tgt := 284) (x_d C_M_write 96 rfl) rfl (fun q => absurd q (by omega)) (fun _ => ?_)
      refine x_iload_n (x_d C_M_write 97 rfl) rfl ?_
      refine x_if_le (tgt := 237) (x_d C_M_write 98 rfl) rfl (fun c2 => ?_) (fun c2 => ?_)
      · refine x_aload_n (x_d C_M_write 102 rfl) rfl ?_
        refine x_getfield (v := xI (K)) (x_d C_M_write 103 rfl) f_M_261 (ct_get hc _ _ _) rfl ?_
        refine x_bipush (x_d C_M_write 104 rfl) (by omega) ?_
        refine x_icmp_eq (tgt := 268) (x_d C_M_write 105 rfl) rfl (fun q => absurd q (by omega)) (fun _ => ?_)
        refine x_aload_n (x_d C_M_write 106 rfl) rfl ?_
        refine x_bipush (x_d C_M_write 107 rfl) (by omega) ?_
        refine x_invokevirtual (st := []) (av := [xI (47)]) (x_d C_M_write 108 rfl) k_M_394 m_M_say2 v_M_say2 cl_M rfl rfl (Nat.le_of_ble_eq_true rfl) (by omega) rfl (c_M_say2 Z (d - 1) q r A dy s ov f bs 47 hp) ?_
        rintro _ _ ⟨rfl, s4, ov4, f4, rfl, hp4⟩
        refine x_aload_n (x_d C_M_write 109 rfl) rfl ?_
        refine x_aload_n (x_d C_M_write 110 rfl) rfl ?_
        refine x_getfield (v := xC cn) (x_d C_M_write 111 rfl) f_M_156 (ct_get hc _ _ _) rfl ?_
        refine x_iload_n (x_d C_M_write 112 rfl) rfl ?_
        refine x_aaload5 (x_d C_M_write 113 rfl) (ct_get hcn _ _ _) (by omega) (by omega) ?_
        rw [hcb]
        refine x_invokevirtual (st := []) (av := [xC cb]) (x_d C_M_write 114 rfl) k_M_404 m_M_say1 v_M_say1 cl_M rfl rfl (Nat.le_of_ble_eq_true rfl) (by omega) rfl (c_M_say1 Z (d - 1) q r A dy (by omega) s4 ov4 f4 (bs ++ [47]) cb _ _ hgb (by omega) hp4) ?_
        rintro _ _ ⟨rfl, s5, ov5, f5, rfl, hp5⟩
        rw [hnb] at hp5
        refine x_aload_n (x_d C_M_write 115 rfl) rfl ?_
        refine x_bipush (x_d C_M_write 116 rfl) (by omega) ?_
        refine x_invokevirtual (st := []) (av := [xI (32)]) (x_d C_M_write 117 rfl) k_M_394 m_M_say2 v_M_say2 cl_M rfl rfl (Nat.le_of_ble_eq_true rfl) (by omega) rfl (c_M_say2 Z (d - 1) q r A dy s5 ov5 f5 ((bs ++ [47]) ++ (nmo t.toNat)) 32 hp5) ?_
        rintro _ _ ⟨rfl, s6, ov6, f6, rfl, hp6⟩
        refine x_aload_n (x_d C_M_write 118 rfl) rfl ?_
        refine x_aload_n (x_d C_M_write 119 rfl) rfl ?_
        refine x_getfield (v := xC ci) (x_d C_M_write 120 rfl) f_M_141 (ct_get hc _ _ _) rfl ?_
        refine x_iload_n (x_d C_M_write 121 rfl) rfl ?_
        refine x_aaload (x_d C_M_write 122 rfl) (ct_get hci _ _ _) (by omega) (by omega) ?_
        rw [hc2]
        refine x_invokevirtual (st := []) (av := [xC ce]) (x_d C_M_write 123 rfl) k_M_414 m_M_write v_M_write cl_M rfl rfl (Nat.le_of_ble_eq_true rfl) (by omega) rfl (hw2 s6 ov6 f6 (((bs ++ [47]) ++ (nmo t.toNat)) ++ [32]) hp6) ?_
        rintro _ _ ⟨rfl, s7, ov7, f7, rfl, hp7⟩
        refine x_iinc (l1 := [(2, xI (t + 1)), (0, xC 42), (1, xC c)]) (x_d C_M_write 124 rfl) rfl ⟨by omega, by omega⟩ (by decide) rfl ?_
        refine x_goto (tgt := 219) (x_d C_M_write 125 rfl) rfl ?_
        refine x_locs [1, 2, 0] rfl ?_
        refine ih (t + 1) _ _ _ _ (by omega) hp7 (fun s2 ov2 f2 h2 => kk s2 ov2 f2 ?_)
        rw [hpc, hpk, if_neg hK, if_pos (by omega)]
        simp only [List.append_assoc, List.nil_append] at h2 ⊢
        exact h2
      · refine x_aload_n (x_d C_M_write 99 rfl) rfl ?_
        refine x_bipush (x_d C_M_write 100 rfl) (by omega) ?_
        refine x_invokevirtual (st := []) (av := [xI (32)]) (x_d C_M_write 101 rfl) k_M_394 m_M_say2 v_M_say2 cl_M rfl rfl (Nat.le_of_ble_eq_true rfl) (by omega) rfl (c_M_say2 Z (d - 1) q r A dy s ov f bs 32 hp) ?_
        rintro _ _ ⟨rfl, s8, ov8, f8, rfl, hp8⟩
        refine x_aload_n (x_d C_M_write 102 rfl) rfl ?_
        refine x_getfield (v := xI (K)) (x_d C_M_write 103 rfl) f_M_261 (ct_get hc _ _ _) rfl ?_
        refine x_bipush (x_d C_M_write 104 rfl) (by omega) ?_
        refine x_icmp_eq (tgt := 268) (x_d C_M_write 105 rfl) rfl (fun q => absurd q (by omega)) (fun _ => ?_)
        refine x_aload_n (x_d C_M_write 106 rfl) rfl ?_
        refine x_bipush (x_d C_M_write 107 rfl) (by omega) ?_
        refine x_invokevirtual (st := []) (av := [xI (47)]) (x_d C_M_write 108 rfl) k_M_394 m_M_say2 v_M_say2 cl_M rfl rfl (Nat.le_of_ble_eq_true rfl) (by omega) rfl (c_M_say2 Z (d - 1) q r A dy s8 ov8 f8 (bs ++ [32]) 47 hp8) ?_
        rintro _ _ ⟨rfl, s10, ov10, f10, rfl, hp10⟩
        refine x_aload_n (x_d C_M_write 109 rfl) rfl ?_
        refine x_aload_n (x_d C_M_write 110 rfl) rfl ?_
        refine x_getfield (v := xC cn) (x_d C_M_write 111 rfl) f_M_156 (ct_get hc _ _ _) rfl ?_
        refine x_iload_n (x_d C_M_write 112 rfl) rfl ?_
        refine x_aaload5 (x_d C_M_write 113 rfl) (ct_get hcn _ _ _) (by omega) (by omega) ?_
        rw [hcb]
        refine x_invokevirtual (st := []) (av := [xC cb]) (x_d C_M_write 114 rfl) k_M_404 m_M_say1 v_M_say1 cl_M rfl rfl (Nat.le_of_ble_eq_true rfl) (by omega) rfl (c_M_say1 Z (d - 1) q r A dy (by omega) s10 ov10 f10 ((bs ++ [32]) ++ [47]) cb _ _ hgb (by omega) hp10) ?_
        rintro _ _ ⟨rfl, s11, ov11, f11, rfl, hp11⟩
        rw [hnb] at hp11
        refine x_aload_n (x_d C_M_write 115 rfl) rfl ?_
        refine x_bipush (x_d C_M_write 116 rfl) (by omega) ?_
        refine x_invokevirtual (st := []) (av := [xI (32)]) (x_d C_M_write 117 rfl) k_M_394 m_M_say2 v_M_say2 cl_M rfl rfl (Nat.le_of_ble_eq_true rfl) (by omega) rfl (c_M_say2 Z (d - 1) q r A dy s11 ov11 f11 (((bs ++ [32]) ++ [47]) ++ (nmo t.toNat)) 32 hp11) ?_
        rintro _ _ ⟨rfl, s12, ov12, f12, rfl, hp12⟩
        refine x_aload_n (x_d C_M_write 118 rfl) rfl ?_
        refine x_aload_n (x_d C_M_write 119 rfl) rfl ?_
        refine x_getfield (v := xC ci) (x_d C_M_write 120 rfl) f_M_141 (ct_get hc _ _ _) rfl ?_
        refine x_iload_n (x_d C_M_write 121 rfl) rfl ?_
        refine x_aaload (x_d C_M_write 122 rfl) (ct_get hci _ _ _) (by omega) (by omega) ?_
        rw [hc2]
        refine x_invokevirtual (st := []) (av := [xC ce]) (x_d C_M_write 123 rfl) k_M_414 m_M_write v_M_write cl_M rfl rfl (Nat.le_of_ble_eq_true rfl) (by omega) rfl (hw2 s12 ov12 f12 ((((bs ++ [32]) ++ [47]) ++ (nmo t.toNat)) ++ [32]) hp12) ?_
        rintro _ _ ⟨rfl, s13, ov13, f13, rfl, hp13⟩
        refine x_iinc (l1 := [(2, xI (t + 1)), (0, xC 42), (1, xC c)]) (x_d C_M_write 124 rfl) rfl ⟨by omega, by omega⟩ (by decide) rfl ?_
        refine x_goto (tgt := 219) (x_d C_M_write 125 rfl) rfl ?_
        refine x_locs [1, 2, 0] rfl ?_
        refine ih (t + 1) _ _ _ _ (by omega) hp13 (fun s2 ov2 f2 h2 => kk s2 ov2 f2 ?_)
        rw [hpc, hpk, if_neg hK, if_neg (by omega)]
        simp only [List.append_assoc, List.nil_append] at h2 ⊢
        exact h2
theorem t_write_box (Z : xZ) (d : Nat) (q : Nat → Int) (r : Nat → Option Nat) (A : Nat → Nat → Int) (dy : xH) (hd : 6 ≤ d) (c ci cap : Nat) (K x y m : Int) (bt nm : Option Nat) (fi : Nat → Option Nat) (hc : ct dy c (xB 12 [xI K, xI x, xI y, xI m, xO bt, xC ci, xO nm])) (hci : ct dy ci (xQ 4 cap fi)) (hm : 0 ≤ m ∧ m ≤ cap ∧ cap ≤ 300) (nmo out : Nat → List Int) (hnm : ¬ K = 6 → ∃ cn cap2 fn, nm = some cn ∧ ct dy cn (xQ 5 cap2 fn) ∧ m ≤ (cap2 : Int) ∧ cap2 ≤ 300 ∧ ∀ k : Nat, (k : Int) < m → ∃ cb len fb, fn k = some cb ∧ ct dy cb (xA 1 len fb) ∧ (len : Int) ≤ 100000 ∧ s_sl fb 0 len = nmo k) (hit : ∀ k : Nat, (k : Int) < m → ∃ c2 fs, fi k = some c2 ∧ ct dy c2 (xB 12 fs) ∧ WM Z (d - 1) q r A dy c2 (out k)) (dat : List Int) (hK : K = 6 ∨ K = 7 ∨ K = 9) (hdt : K = 9 → ∃ cb len fb, bt = some cb ∧ ct dy cb (xA 1 len fb) ∧ (len : Int) ≤ 100000 ∧ s_sl fb 0 len = dat) : WM Z d q r A dy c (if K = 6 then [91] ++ (s_pcs (s_pc K nmo out) m.toNat 0 ++ [93]) else if K = 9 then ([60, 60] ++ (s_pcs (s_pc K nmo out) m.toNat 0 ++ [62, 62])) ++ ([10, 115, 116, 114, 101, 97, 109, 10] ++ (dat ++ [10, 101, 110, 100, 115, 116, 114, 101, 97, 109])) else [60, 60] ++ (s_pcs (s_pc K nmo out) m.toNat 0 ++ [62, 62])) := by
  intro s ov f bs hp
  refine xMet_of (by decide) (Nat.le_of_ble_eq_true rfl) (fun v h2 hq => by obtain ⟨e, _⟩ := hq; rw [e]; trivial) ?_
  rcases hK with rfl | rfl | rfl
  · refine x_aload_n (x_d C_M_write 0 rfl) rfl ?_
    refine x_getfield (v := xI (6)) (x_d C_M_write 1 rfl) f_M_261 (ct_get hc _ _ _) rfl ?_
    refine x_tableIn (tgt := 196) (off := 192) (x_d C_M_write 2 rfl) (by omega) (by omega) rfl rfl ?_
    refine x_aload_n (x_d C_M_write 82 rfl) rfl ?_
    refine x_aload_n (x_d C_M_write 83 rfl) rfl ?_
    refine x_getfield (v := xI (6)) (x_d C_M_write 84 rfl) f_M_261 (ct_get hc _ _ _) rfl ?_
    refine x_bipush (x_d C_M_write 85 rfl) (by omega) ?_
    refine x_icmp_ne (tgt := 212) (x_d C_M_write 86 rfl) rfl (fun q => absurd q (by omega)) (fun _ => ?_)
    refine x_ldcSw (i := 77) (x_d C_M_write 87 rfl) rfl ?_
    refine x_goto (tgt := 214) (x_d C_M_write 88 rfl) rfl ?_
    refine x_invokevirtual (st := []) (av := [xS (155)]) (x_d C_M_write 90 rfl) k_M_397 m_M_say3 v_M_say3 cl_M rfl rfl (Nat.le_of_ble_eq_true rfl) (by omega) rfl (c_M_say3 Z (d - 1) q r A dy (by omega) s ov f bs (si := 77) rfl hp) ?_
    rintro _ _ ⟨rfl, s3, ov3, f3, rfl, hp3⟩
    refine x_iconst (x_d C_M_write 91 rfl) ⟨by omega, by omega⟩ ?_
    refine x_istore_n (l1 := [(2, xI (0)), (0, xC 42), (1, xC c)]) (x_d C_M_write 92 rfl) (by decide) rfl ?_
    refine x_locs [1, 2, 0] rfl ?_
    refine w_M_write_219 Z d q r A dy (by omega) c ci cap 6 x y m _ nm fi hc hci hm nmo out hnm hit _ m.toNat 0 _ _ _ _ (by omega) hp3 (fun s9 ov9 f9 h9 => ?_)
    refine x_aload_n (x_d C_M_write 126 rfl) rfl ?_
    refine x_aload_n (x_d C_M_write 127 rfl) rfl ?_
    refine x_getfield (v := xI (6)) (x_d C_M_write 128 rfl) f_M_261 (ct_get hc _ _ _) rfl ?_
    refine x_bipush (x_d C_M_write 129 rfl) (by omega) ?_
    refine x_icmp_ne (tgt := 300) (x_d C_M_write 130 rfl) rfl (fun q => absurd q (by omega)) (fun _ => ?_)
    refine x_ldcSw (i := 78) (x_d C_M_write 131 rfl) rfl ?_
    refine x_goto (tgt := 303) (x_d C_M_write 132 rfl) rfl ?_
    refine x_invokevirtual (st := []) (av := [xS (157)]) (x_d C_M_write 134 rfl) k_M_397 m_M_say3 v_M_say3 cl_M rfl rfl (Nat.le_of_ble_eq_true rfl) (by omega) rfl (c_M_say3 Z (d - 1) q r A dy (by omega) s9 ov9 f9 ((bs ++ [91]) ++ s_pcs (s_pc 6 nmo out) m.toNat 0) (si := 78) rfl h9) ?_
    rintro _ _ ⟨rfl, s72, ov72, f72, rfl, hp72⟩
    refine x_aload_n (x_d C_M_write 135 rfl) rfl ?_
    refine x_getfield (v := xI (6)) (x_d C_M_write 136 rfl) f_M_261 (ct_get hc _ _ _) rfl ?_
    refine x_bipush (x_d C_M_write 137 rfl) (by omega) ?_
    refine x_icmp_eq (tgt := 316) (x_d C_M_write 138 rfl) rfl (fun q => absurd q (by omega)) (fun _ => ?_)
    refine x_return (x_d C_M_write 139 rfl) ?_
    refine ⟨rfl, _, _, _, rfl, ?_⟩
    have h8 := hp72
    rw [if_pos (by omega)]
    simp only [List.append_assoc] at h8 ⊢
    exact h8
  · refine x_aload_n (x_d C_M_write 0 rfl) rfl ?_
    refine x_getfield (v := xI (7)) (x_d C_M_write 1 rfl) f_M_261 (ct_get hc _ _ _) rfl ?_
    refine x_tableIn (tgt := 196) (off := 192) (x_d C_M_write 2 rfl) (by omega) (by omega) rfl rfl ?_
    refine x_aload_n (x_d C_M_write 82 rfl) rfl ?_
    refine x_aload_n (x_d C_M_write 83 rfl) rfl ?_
    refine x_getfield (v := xI (7)) (x_d C_M_write 84 rfl) f_M_261 (ct_get hc _ _ _) rfl ?_
    refine x_bipush (x_d C_M_write 85 rfl) (by omega) ?_
    refine x_icmp_ne (tgt := 212) (x_d C_M_write 86 rfl) rfl (fun _ => ?_) (fun q => absurd q (by omega))
    refine x_ldcS (i := 59) (x_d C_M_write 89 rfl) rfl ?_
    refine x_invokevirtual (st := []) (av := [xS (119)]) (x_d C_M_write 90 rfl) k_M_397 m_M_say3 v_M_say3 cl_M rfl rfl (Nat.le_of_ble_eq_true rfl) (by omega) rfl (c_M_say3 Z (d - 1) q r A dy (by omega) s ov f bs (si := 59) rfl hp) ?_
    rintro _ _ ⟨rfl, s3, ov3, f3, rfl, hp3⟩
    refine x_iconst (x_d C_M_write 91 rfl) ⟨by omega, by omega⟩ ?_
    refine x_istore_n (l1 := [(2, xI (0)), (0, xC 42), (1, xC c)]) (x_d C_M_write 92 rfl) (by decide) rfl ?_
    refine x_locs [1, 2, 0] rfl ?_
    refine w_M_write_219 Z d q r A dy (by omega) c ci cap 7 x y m _ nm fi hc hci hm nmo out hnm hit _ m.toNat 0 _ _ _ _ (by omega) hp3 (fun s9 ov9 f9 h9 => ?_)
    refine x_aload_n (x_d C_M_write 126 rfl) rfl ?_
    refine x_aload_n (x_d C_M_write 127 rfl) rfl ?_
    refine x_getfield (v := xI (7)) (x_d C_M_write 128 rfl) f_M_261 (ct_get hc _ _ _) rfl ?_
    refine x_bipush (x_d C_M_write 129 rfl) (by omega) ?_
    refine x_icmp_ne (tgt := 300) (x_d C_M_write 130 rfl) rfl (fun _ => ?_) (fun q => absurd q (by omega))
    refine x_ldcSw (i := 79) (x_d C_M_write 133 rfl) rfl ?_
    refine x_invokevirtual (st := []) (av := [xS (159)]) (x_d C_M_write 134 rfl) k_M_397 m_M_say3 v_M_say3 cl_M rfl rfl (Nat.le_of_ble_eq_true rfl) (by omega) rfl (c_M_say3 Z (d - 1) q r A dy (by omega) s9 ov9 f9 ((bs ++ [60, 60]) ++ s_pcs (s_pc 7 nmo out) m.toNat 0) (si := 79) rfl h9) ?_
    rintro _ _ ⟨rfl, s72, ov72, f72, rfl, hp72⟩
    refine x_aload_n (x_d C_M_write 135 rfl) rfl ?_
    refine x_getfield (v := xI (7)) (x_d C_M_write 136 rfl) f_M_261 (ct_get hc _ _ _) rfl ?_
    refine x_bipush (x_d C_M_write 137 rfl) (by omega) ?_
    refine x_icmp_eq (tgt := 316) (x_d C_M_write 138 rfl) rfl (fun q => absurd q (by omega)) (fun _ => ?_)
    refine x_return (x_d C_M_write 139 rfl) ?_
    refine ⟨rfl, _, _, _, rfl, ?_⟩
    have h8 := hp72
    rw [if_neg (by omega), if_neg (by omega)]
    simp only [List.append_assoc] at h8 ⊢
    exact h8
  · obtain ⟨cb, len, fb, rfl, hgb, hlen, hdb⟩ := hdt rfl
    refine x_aload_n (x_d C_M_write 0 rfl) rfl ?_
    refine x_getfield (v := xI (9)) (x_d C_M_write 1 rfl) f_M_261 (ct_get hc _ _ _) rfl ?_
    refine x_tableOut (tgt := 196) (x_d C_M_write 2 rfl) (Or.inr (by omega)) rfl ?_
    refine x_aload_n (x_d C_M_write 82 rfl) rfl ?_
    refine x_aload_n (x_d C_M_write 83 rfl) rfl ?_
    refine x_getfield (v := xI (9)) (x_d C_M_write 84 rfl) f_M_261 (ct_get hc _ _ _) rfl ?_
    refine x_bipush (x_d C_M_write 85 rfl) (by omega) ?_
    refine x_icmp_ne (tgt := 212) (x_d C_M_write 86 rfl) rfl (fun _ => ?_) (fun q => absurd q (by omega))
    refine x_ldcS (i := 59) (x_d C_M_write 89 rfl) rfl ?_
    refine x_invokevirtual (st := []) (av := [xS (119)]) (x_d C_M_write 90 rfl) k_M_397 m_M_say3 v_M_say3 cl_M rfl rfl (Nat.le_of_ble_eq_true rfl) (by omega) rfl (c_M_say3 Z (d - 1) q r A dy (by omega) s ov f bs (si := 59) rfl hp) ?_
    rintro _ _ ⟨rfl, s3, ov3, f3, rfl, hp3⟩
    refine x_iconst (x_d C_M_write 91 rfl) ⟨by omega, by omega⟩ ?_
    refine x_istore_n (l1 := [(2, xI (0)), (0, xC 42), (1, xC c)]) (x_d C_M_write 92 rfl) (by decide) rfl ?_
    refine x_locs [1, 2, 0] rfl ?_
    refine w_M_write_219 Z d q r A dy (by omega) c ci cap 9 x y m _ nm fi hc hci hm nmo out hnm hit _ m.toNat 0 _ _ _ _ (by omega) hp3 (fun s9 ov9 f9 h9 => ?_)
    refine x_aload_n (x_d C_M_write 126 rfl) rfl ?_
    refine x_aload_n (x_d C_M_write 127 rfl) rfl ?_
    refine x_getfield (v := xI (9)) (x_d C_M_write 128 rfl) f_M_261 (ct_get hc _ _ _) rfl ?_
    refine x_bipush (x_d C_M_write 129 rfl) (by omega) ?_
    refine x_icmp_ne (tgt := 300) (x_d C_M_write 130 rfl) rfl (fun _ => ?_) (fun q => absurd q (by omega))
    refine x_ldcSw (i := 79) (x_d C_M_write 133 rfl) rfl ?_
    refine x_invokevirtual (st := []) (av := [xS (159)]) (x_d C_M_write 134 rfl) k_M_397 m_M_say3 v_M_say3 cl_M rfl rfl (Nat.le_of_ble_eq_true rfl) (by omega) rfl (c_M_say3 Z (d - 1) q r A dy (by omega) s9 ov9 f9 ((bs ++ [60, 60]) ++ s_pcs (s_pc 9 nmo out) m.toNat 0) (si := 79) rfl h9) ?_
    rintro _ _ ⟨rfl, s72, ov72, f72, rfl, hp72⟩
    refine x_aload_n (x_d C_M_write 135 rfl) rfl ?_
    refine x_getfield (v := xI (9)) (x_d C_M_write 136 rfl) f_M_261 (ct_get hc _ _ _) rfl ?_
    refine x_bipush (x_d C_M_write 137 rfl) (by omega) ?_
    refine x_icmp_eq (tgt := 316) (x_d C_M_write 138 rfl) rfl (fun _ => ?_) (fun q => absurd q (by omega))
    refine x_aload_n (x_d C_M_write 140 rfl) rfl ?_
    refine x_bipush (x_d C_M_write 141 rfl) (by omega) ?_
    refine x_invokevirtual (st := []) (av := [xI (10)]) (x_d C_M_write 142 rfl) k_M_394 m_M_say2 v_M_say2 cl_M rfl rfl (Nat.le_of_ble_eq_true rfl) (by omega) rfl (c_M_say2 Z (d - 1) q r A dy s72 ov72 f72 (((bs ++ [60, 60]) ++ s_pcs (s_pc 9 nmo out) m.toNat 0) ++ [62, 62]) 10 hp72) ?_
    rintro _ _ ⟨rfl, s74, ov74, f74, rfl, hp74⟩
    refine x_aload_n (x_d C_M_write 143 rfl) rfl ?_
    refine x_ldcSw (i := 67) (x_d C_M_write 144 rfl) rfl ?_
    refine x_invokevirtual (st := []) (av := [xS (135)]) (x_d C_M_write 145 rfl) k_M_397 m_M_say3 v_M_say3 cl_M rfl rfl (Nat.le_of_ble_eq_true rfl) (by omega) rfl (c_M_say3 Z (d - 1) q r A dy (by omega) s74 ov74 f74 ((((bs ++ [60, 60]) ++ s_pcs (s_pc 9 nmo out) m.toNat 0) ++ [62, 62]) ++ [10]) (si := 67) rfl hp74) ?_
    rintro _ _ ⟨rfl, s75, ov75, f75, rfl, hp75⟩
    refine x_aload_n (x_d C_M_write 146 rfl) rfl ?_
    refine x_bipush (x_d C_M_write 147 rfl) (by omega) ?_
    refine x_invokevirtual (st := []) (av := [xI (10)]) (x_d C_M_write 148 rfl) k_M_394 m_M_say2 v_M_say2 cl_M rfl rfl (Nat.le_of_ble_eq_true rfl) (by omega) rfl (c_M_say2 Z (d - 1) q r A dy s75 ov75 f75 (((((bs ++ [60, 60]) ++ s_pcs (s_pc 9 nmo out) m.toNat 0) ++ [62, 62]) ++ [10]) ++ [115, 116, 114, 101, 97, 109]) 10 hp75) ?_
    rintro _ _ ⟨rfl, s76, ov76, f76, rfl, hp76⟩
    refine x_aload_n (x_d C_M_write 149 rfl) rfl ?_
    refine x_aload_n (x_d C_M_write 150 rfl) rfl ?_
    refine x_getfield (v := xC cb) (x_d C_M_write 151 rfl) f_M_119 (ct_get hc _ _ _) rfl ?_
    refine x_invokevirtual (st := []) (av := [xC cb]) (x_d C_M_write 152 rfl) k_M_404 m_M_say1 v_M_say1 cl_M rfl rfl (Nat.le_of_ble_eq_true rfl) (by omega) rfl (c_M_say1 Z (d - 1) q r A dy (by omega) s76 ov76 f76 ((((((bs ++ [60, 60]) ++ s_pcs (s_pc 9 nmo out) m.toNat 0) ++ [62, 62]) ++ [10]) ++ [115, 116, 114, 101, 97, 109]) ++ [10]) cb _ _ hgb (by omega) hp76) ?_
    rintro _ _ ⟨rfl, s77, ov77, f77, rfl, hp77⟩
    rw [hdb] at hp77
    refine x_aload_n (x_d C_M_write 153 rfl) rfl ?_
    refine x_bipush (x_d C_M_write 154 rfl) (by omega) ?_
    refine x_invokevirtual (st := []) (av := [xI (10)]) (x_d C_M_write 155 rfl) k_M_394 m_M_say2 v_M_say2 cl_M rfl rfl (Nat.le_of_ble_eq_true rfl) (by omega) rfl (c_M_say2 Z (d - 1) q r A dy s77 ov77 f77 (((((((bs ++ [60, 60]) ++ s_pcs (s_pc 9 nmo out) m.toNat 0) ++ [62, 62]) ++ [10]) ++ [115, 116, 114, 101, 97, 109]) ++ [10]) ++ dat) 10 hp77) ?_
    rintro _ _ ⟨rfl, s78, ov78, f78, rfl, hp78⟩
    refine x_aload_n (x_d C_M_write 156 rfl) rfl ?_
    refine x_ldcSw (i := 69) (x_d C_M_write 157 rfl) rfl ?_
    refine x_invokevirtual (st := []) (av := [xS (139)]) (x_d C_M_write 158 rfl) k_M_397 m_M_say3 v_M_say3 cl_M rfl rfl (Nat.le_of_ble_eq_true rfl) (by omega) rfl (c_M_say3 Z (d - 1) q r A dy (by omega) s78 ov78 f78 ((((((((bs ++ [60, 60]) ++ s_pcs (s_pc 9 nmo out) m.toNat 0) ++ [62, 62]) ++ [10]) ++ [115, 116, 114, 101, 97, 109]) ++ [10]) ++ dat) ++ [10]) (si := 69) rfl hp78) ?_
    rintro _ _ ⟨rfl, s9, ov9, f9, rfl, hp79⟩
    refine x_return (x_d C_M_write 159 rfl) ?_
    refine ⟨rfl, _, _, _, rfl, ?_⟩
    have h8 := hp79
    rw [if_neg (by omega), if_pos (by omega)]
    simp only [List.append_assoc] at h8 ⊢
    exact h8
