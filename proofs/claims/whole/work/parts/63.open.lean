/-! the opener: faults 1 to 4 -/
def s_ot (b : Nat → Int) (n f : Int) (x : ost) : otr := if s_dgs b n (s_txt b n f [37, 80, 68, 70, 45, 49, 46]) 1 < 0 then (1, x, 0, 0, []) else if s_last b n f < 0 then (2, x, 0, 0, []) else s_tabs b n f 6 0 (s_last b n f) [] x 0 []
def s_x0 (A : Nat → Nat → Int) (hi : Int) : ost := (s_zr (A 13) 300, A 14, s_zr (A 34) 300, s_zr (A 35) 300, hi)
theorem s_pt_self (A : Nat → Nat → Int) : s_pt A A = A := by
  funext c
  unfold s_pt
  by_cases h9 : c = 9
  · subst h9; rfl
  · rw [x_up_n _ _ h9]
    by_cases h8 : c = 8
    · subst h8; rfl
    · rw [x_up_n _ _ h8]
      by_cases h7 : c = 7
      · subst h7; rfl
      · rw [x_up_n _ _ h7]
        by_cases h6 : c = 6
        · subst h6; rfl
        · rw [x_up_n _ _ h6]
          by_cases h5 : c = 5
          · subst h5; rfl
          · rw [x_up_n _ _ h5]
theorem w_O_tablesFault_28 (Z : xZ) (d : Nat) (q : Nat → Int) (r : Nat → Option Nat) (A : Nat → Nat → Int) (dy : xH) (f0 : Nat → Int) (Q : Option xV → xH → Prop) (kk : xW Z d Y_O_tablesFault 48 [(0, xC 11), (1, xC 32), (2, xI 300)] [] (hF q r (x_up A 13 (s_zr f0 300)) ++ dy) Q) : ∀ (m : Nat) (t : Int), (0 ≤ t ∧ t + m = 300) → xW Z d Y_O_tablesFault 28 [(0, xC 11), (1, xC 32), (2, xI t)] [] (hF q r (x_up A 13 (s_zr f0 t)) ++ dy) Q := by
  intro m
  induction m with
  | zero =>
    intro t ht
    obtain rfl : t = 300 := by omega
    refine x_iload_n (x_d C_O_tablesFault 14 rfl) rfl ?_
    refine x_sipush (x_d C_O_tablesFault 15 rfl) (by omega) ?_
    refine x_icmp_ge (tgt := 48) (x_d C_O_tablesFault 16 rfl) rfl (fun _ => ?_) (fun q => absurd q (by omega))
    exact kk
  | succ m ih =>
    intro t ht
    refine x_iload_n (x_d C_O_tablesFault 14 rfl) rfl ?_
    refine x_sipush (x_d C_O_tablesFault 15 rfl) (by omega) ?_
    refine x_icmp_ge (tgt := 48) (x_d C_O_tablesFault 16 rfl) rfl (fun q => absurd q (by omega)) (fun _ => ?_)
    refine x_aload_n (x_d C_O_tablesFault 17 rfl) rfl ?_
    refine x_getfield (v := xC 13) (x_d C_O_tablesFault 18 rfl) f_O_15 rfl rfl ?_
    refine x_iload_n (x_d C_O_tablesFault 19 rfl) rfl ?_
    refine x_iconst (x_d C_O_tablesFault 20 rfl) ⟨by omega, by omega⟩ ?_
    refine x_iastore (h1 := hF q r (x_up A 13 (x_up (s_zr f0 t) (t).toNat 0)) ++ dy) (x_d C_O_tablesFault 21 rfl) rfl (by omega) (by omega) rfl ?_
    refine x_iinc (l1 := [(2, xI (t + 1)), (0, xC 11), (1, xC 32)]) (x_d C_O_tablesFault 22 rfl) rfl ⟨by omega, by omega⟩ (by decide) rfl ?_
    refine x_goto (tgt := 28) (x_d C_O_tablesFault 23 rfl) rfl ?_
    refine x_locs [1, 2, 0] rfl ?_
    rw [s_zr_s f0 ht.1]
    exact ih (t + 1) (by omega)
set_option maxRecDepth 40000 in
theorem c_O_tablesFault (Z : xZ) (d : Nat) (q : Nat → Int) (r : Nat → Option Nat) (A : Nat → Nat → Int) (dy : xH) (hd : 39 ≤ d) (hT : 0 ≤ q 34 ∧ q 34 ≤ q 35 ∧ q 35 ≤ 10248) (hR : s_okR A) (hB : ∀ j, -128 ≤ A 2 j ∧ A 2 j ≤ 127) (hta : q 35 - q 34 ≤ 4000) (ht0 : 0 ≤ q 133 ∧ q 133 ≤ 4900) (ho : s_ok5 A) : xMet Z d Y_O_tablesFault [xC 11, xC 32] (hF q r A ++ dy) (fun v0 h2 => ∃ x9 aw9 pc9 t9 P9 nx9 mo9 sz9 tb9 lt9 tr9, h2 = hF (x_up (x_up (x_up (x_up (x_up (x_up (x_up (x_up (x_up (x_up (x_up q 1033 (q 34)) 1034 (q 35)) 133 t9) 360 nx9) 361 mo9) 362 x9.2.2.2.2) 363 aw9) 1029 sz9) 1030 tb9) 1031 lt9) 1032 tr9) (x_up r 359 (some 32)) (x_up (x_up (x_up (x_up (x_up (s_pt (x_up (x_up A 36 (s_zr (A 36) 300)) 37 (s_zr (A 37) 300)) P9) 13 x9.1) 14 x9.2.1) 34 x9.2.2.1) 35 x9.2.2.2.1) 12 pc9) ++ dy ∧ v0 = some (xI (s_ot (A 2) (q 35) (q 34) (s_x0 A (q 362))).1) ∧ s_keep (q 133).toNat A P9 ∧ s_ok5 P9 ∧ q 133 ≤ t9 ∧ t9 ≤ 12900 ∧ ((s_ot (A 2) (q 35) (q 34) (s_x0 A (q 362))).1 = 0 → s_ot (A 2) (q 35) (q 34) (s_x0 A (q 362)) = (0, x9, sz9, tb9, (s_ot (A 2) (q 35) (q 34) (s_x0 A (q 362))).2.2.2.2) ∧ t9 = q 133 + (s_ot (A 2) (q 35) (q 34) (s_x0 A (q 362))).2.2.2.2.length ∧ s_at P9 (q 133).toNat (s_ot (A 2) (q 35) (q 34) (s_x0 A (q 362))).2.2.2.2 ∧ tr9 = q 133 ∧ lt9 = s_last (A 2) (q 35) (q 34))) := by
  refine xMet_of (by decide) (Nat.le_of_ble_eq_true rfl) (fun v0 h2 hq => by obtain ⟨_, _, _, _, _, _, _, _, _, _, _, _, e, _⟩ := hq; rw [e]; trivial) ?_
  refine x_aload_n (x_d C_O_tablesFault 0 rfl) rfl ?_
  refine x_aload_n (x_d C_O_tablesFault 1 rfl) rfl ?_
  refine x_putfield (h1 := hF q (x_up r 359 (some 32)) A ++ dy) (x_d C_O_tablesFault 2 rfl) p_O_36 rfl rfl rfl trivial rfl ?_
  refine x_aload_n (x_d C_O_tablesFault 3 rfl) rfl ?_
  refine x_getfield (v := xC 32) (x_d C_O_tablesFault 4 rfl) f_O_36 rfl rfl ?_
  refine x_aload_n (x_d C_O_tablesFault 5 rfl) rfl ?_
  refine x_getfield (v := xC 1) (x_d C_O_tablesFault 6 rfl) f_O_24 rfl rfl ?_
  refine x_getfield (v := xI (q 34)) (x_d C_O_tablesFault 7 rfl) f_O_40 rfl rfl ?_
  refine x_aload_n (x_d C_O_tablesFault 8 rfl) rfl ?_
  refine x_getfield (v := xC 1) (x_d C_O_tablesFault 9 rfl) f_O_24 rfl rfl ?_
  refine x_getfield (v := xI (q 35)) (x_d C_O_tablesFault 10 rfl) f_O_46 rfl rfl ?_
  refine x_invokevirtual (st := []) (av := [xI (q 34), xI (q 35)]) (x_d C_O_tablesFault 11 rfl) k_O_49 m_B_empty v_B_empty cl_B rfl rfl (Nat.le_of_ble_eq_true rfl) (by omega) rfl (c_B_empty Z (d - 1) q (x_up r 359 (some 32)) A dy (q 34) (q 35)) ?_
  rintro _ _ ⟨rfl, rfl⟩
  refine x_iconst (x_d C_O_tablesFault 12 rfl) ⟨by omega, by omega⟩ ?_
  refine x_istore_n (l1 := [(2, xI (0)), (0, xC 11), (1, xC 32)]) (x_d C_O_tablesFault 13 rfl) (by decide) rfl ?_
  refine x_locs [1, 2, 0] rfl ?_
  have hl0 : ∀ z : Int, (x_lc z 0 < 0 ∧ z < 0) ∨ (0 ≤ x_lc z 0 ∧ 0 ≤ z) := fun z => by unfold x_lc; (repeat' split) <;> omega
  have hl1 := hl0 (s_dgs (A 2) (q 35) (s_txt (A 2) (q 35) (q 34) [37, 80, 68, 70, 45, 49, 46]) 1)
  have htx := s_txt_in (A 2) (q 35) (q 34) [37, 80, 68, 70, 45, 49, 46]
  simp only [List.length_cons, List.length_nil] at htx
  have key := w_O_tablesFault_28 Z d (x_up (x_up (x_up (x_up q 1029 0) 1030 0) 1033 (q 34)) 1034 (q 35)) (x_up r 359 (some 32)) (x_up (x_up (x_up (x_up A 34 (s_zr (A 34) 300)) 35 (s_zr (A 35) 300)) 36 (s_zr (A 36) 300)) 37 (s_zr (A 37) 300)) dy (A 13) (fun v0 h2 => ∃ x9 aw9 pc9 t9 P9 nx9 mo9 sz9 tb9 lt9 tr9, h2 = hF (x_up (x_up (x_up (x_up (x_up (x_up (x_up (x_up (x_up (x_up (x_up q 1033 (q 34)) 1034 (q 35)) 133 t9) 360 nx9) 361 mo9) 362 x9.2.2.2.2) 363 aw9) 1029 sz9) 1030 tb9) 1031 lt9) 1032 tr9) (x_up r 359 (some 32)) (x_up (x_up (x_up (x_up (x_up (s_pt (x_up (x_up A 36 (s_zr (A 36) 300)) 37 (s_zr (A 37) 300)) P9) 13 x9.1) 14 x9.2.1) 34 x9.2.2.1) 35 x9.2.2.2.1) 12 pc9) ++ dy ∧ v0 = some (xI (s_ot (A 2) (q 35) (q 34) (s_x0 A (q 362))).1) ∧ s_keep (q 133).toNat A P9 ∧ s_ok5 P9 ∧ q 133 ≤ t9 ∧ t9 ≤ 12900 ∧ ((s_ot (A 2) (q 35) (q 34) (s_x0 A (q 362))).1 = 0 → s_ot (A 2) (q 35) (q 34) (s_x0 A (q 362)) = (0, x9, sz9, tb9, (s_ot (A 2) (q 35) (q 34) (s_x0 A (q 362))).2.2.2.2) ∧ t9 = q 133 + (s_ot (A 2) (q 35) (q 34) (s_x0 A (q 362))).2.2.2.2.length ∧ s_at P9 (q 133).toNat (s_ot (A 2) (q 35) (q 34) (s_x0 A (q 362))).2.2.2.2 ∧ tr9 = q 133 ∧ lt9 = s_last (A 2) (q 35) (q 34))) ?_ 300 0 (by omega)
  · rw [s_zr_0] at key
    refine x_heq ?_ key
    rfl
  · refine x_aload_n (x_d C_O_tablesFault 24 rfl) rfl ?_
    refine x_getfield (v := xC 1) (x_d C_O_tablesFault 25 rfl) f_O_24 rfl rfl ?_
    refine x_aload_n (x_d C_O_tablesFault 26 rfl) rfl ?_
    refine x_getfield (v := xC 1) (x_d C_O_tablesFault 27 rfl) f_O_24 rfl rfl ?_
    refine x_getfield (v := xI (q 34)) (x_d C_O_tablesFault 28 rfl) f_O_40 rfl rfl ?_
    refine x_ldcS (i := 2) (x_d C_O_tablesFault 29 rfl) rfl ?_
    refine x_invokevirtual (st := []) (av := [xI (q 34), xS (5)]) (x_d C_O_tablesFault 30 rfl) k_O_57 m_T_afterText v_T_afterText cl_T rfl rfl (Nat.le_of_ble_eq_true rfl) (by omega) rfl (c_T_afterText Z (d - 1) (x_up (x_up (x_up (x_up q 1029 0) 1030 0) 1033 (q 34)) 1034 (q 35)) (x_up r 359 (some 32)) (x_up (x_up (x_up (x_up (x_up A 34 (s_zr (A 34) 300)) 35 (s_zr (A 35) 300)) 36 (s_zr (A 36) 300)) 37 (s_zr (A 37) 300)) 13 (s_zr (A 13) 300)) dy (by omega) (i := 2) rfl (q 34) hT) ?_
    rintro v_ _ ⟨hv_, rfl⟩
    obtain rfl : v_ = some (xI (s_txt (A 2) (q 35) (q 34) [37, 80, 68, 70, 45, 49, 46])) := hv_
    refine x_istore_n (l1 := [(2, xI (s_txt (A 2) (q 35) (q 34) [37, 80, 68, 70, 45, 49, 46])), (0, xC 11), (1, xC 32)]) (x_d C_O_tablesFault 31 rfl) (by decide) rfl ?_
    refine x_aload_n (x_d C_O_tablesFault 32 rfl) rfl ?_
    refine x_getfield (v := xC 1) (x_d C_O_tablesFault 33 rfl) f_O_24 rfl rfl ?_
    refine x_iload_n (x_d C_O_tablesFault 34 rfl) rfl ?_
    refine x_iconst (x_d C_O_tablesFault 35 rfl) ⟨by omega, by omega⟩ ?_
    refine x_invokevirtual (st := []) (av := [xI (s_txt (A 2) (q 35) (q 34) [37, 80, 68, 70, 45, 49, 46]), xI (1)]) (x_d C_O_tablesFault 36 rfl) k_O_61 m_T_digits v_T_digits cl_T rfl rfl (Nat.le_of_ble_eq_true rfl) (by omega) rfl (c_T_digits Z (d - 1) (x_up (x_up (x_up (x_up q 1029 0) 1030 0) 1033 (q 34)) 1034 (q 35)) (x_up r 359 (some 32)) (x_up (x_up (x_up (x_up (x_up A 34 (s_zr (A 34) 300)) 35 (s_zr (A 35) 300)) 36 (s_zr (A 36) 300)) 37 (s_zr (A 37) 300)) 13 (s_zr (A 13) 300)) dy (by omega) (s_txt (A 2) (q 35) (q 34) [37, 80, 68, 70, 45, 49, 46]) 1 hT (by omega) (by omega)) ?_
    rintro v_ _ ⟨hv_, rfl⟩
    obtain rfl : v_ = some (xJ (s_dgs (A 2) (q 35) (s_txt (A 2) (q 35) (q 34) [37, 80, 68, 70, 45, 49, 46]) 1)) := hv_
    refine x_lconst0 (x_d C_O_tablesFault 37 rfl) ?_
    refine x_lcmp (x_d C_O_tablesFault 38 rfl) ?_
    refine x_if_ge (tgt := 81) (x_d C_O_tablesFault 39 rfl) rfl (fun c101 => ?_) (fun c101 => ?_)
    · refine x_aload_n (x_d C_O_tablesFault 42 rfl) rfl ?_
      refine x_aload_n (x_d C_O_tablesFault 43 rfl) rfl ?_
      refine x_invokevirtual (st := [xC 11]) (av := []) (x_d C_O_tablesFault 44 rfl) k_O_65 m_O_lastPlace v_O_lastPlace cl_O rfl rfl (Nat.le_of_ble_eq_true rfl) (by omega) rfl (c_O_lastPlace Z (d - 1) (x_up (x_up (x_up (x_up q 1029 0) 1030 0) 1033 (q 34)) 1034 (q 35)) (x_up r 359 (some 32)) (x_up (x_up (x_up (x_up (x_up A 34 (s_zr (A 34) 300)) 35 (s_zr (A 35) 300)) 36 (s_zr (A 36) 300)) 37 (s_zr (A 37) 300)) 13 (s_zr (A 13) 300)) dy (by omega) hT hR) ?_
      rintro v_ _ ⟨hv_, rfl⟩
      obtain rfl : v_ = some (xI (s_last (A 2) (q 35) (q 34))) := hv_
      refine x_putfield (h1 := hF (x_up (x_up (x_up (x_up (x_up q 1029 0) 1030 0) 1033 (q 34)) 1034 (q 35)) 360 (s_last (A 2) (q 35) (q 34))) (x_up r 359 (some 32)) (x_up (x_up (x_up (x_up (x_up A 34 (s_zr (A 34) 300)) 35 (s_zr (A 35) 300)) 36 (s_zr (A 36) 300)) 37 (s_zr (A 37) 300)) 13 (s_zr (A 13) 300)) ++ dy) (x_d C_O_tablesFault 45 rfl) p_O_69 rfl rfl rfl trivial rfl ?_
      refine x_aload_n (x_d C_O_tablesFault 46 rfl) rfl ?_
      refine x_getfield (v := xI (s_last (A 2) (q 35) (q 34))) (x_d C_O_tablesFault 47 rfl) f_O_69 rfl rfl ?_
      refine x_if_ge (tgt := 98) (x_d C_O_tablesFault 48 rfl) rfl (fun c102 => ?_) (fun c102 => ?_)
      · refine x_iconst (x_d C_O_tablesFault 51 rfl) ⟨by omega, by omega⟩ ?_
        refine x_istore_n (l1 := [(3, xI (0)), (2, xI (s_txt (A 2) (q 35) (q 34) [37, 80, 68, 70, 45, 49, 46])), (0, xC 11), (1, xC 32)]) (x_d C_O_tablesFault 52 rfl) (by decide) rfl ?_
        have e0 : s_ot (A 2) (q 35) (q 34) (s_x0 A (q 362)) = s_tabs (A 2) (q 35) (q 34) 6 0 (s_last (A 2) (q 35) (q 34)) [] (s_x0 A (q 362)) 0 [] := by
          unfold s_ot
          rw [if_neg (by omega), if_neg (by omega)]
        rw [e0]
        refine x_locs [2, 3, 1, 0] rfl ?_
        exact w_O_tablesFault_100a Z d (x_up (x_up q 1033 (q 34)) 1034 (q 35)) r (x_up (x_up A 36 (s_zr (A 36) 300)) 37 (s_zr (A 37) 300)) dy (by omega) hT hR hB hta _ (s_x0 A (q 362)) (q 363) (A 12) (q 133) A (s_last (A 2) (q 35) (q 34)) (q 361) 0 (q 1031) (q 1032) ht0 ho (by omega)
      · refine x_iconst (x_d C_O_tablesFault 49 rfl) ⟨by omega, by omega⟩ ?_
        refine x_ireturn (x_d C_O_tablesFault 50 rfl) ?_
        have e0 : s_ot (A 2) (q 35) (q 34) (s_x0 A (q 362)) = (2, (s_x0 A (q 362)), 0, 0, []) := by
          unfold s_ot
          rw [if_neg (by omega), if_pos (by omega)]
        rw [e0]
        refine ⟨(s_x0 A (q 362)), q 363, A 12, q 133, A, s_last (A 2) (q 35) (q 34), q 361, 0, 0, q 1031, q 1032, ?_, rfl, fun _ _ => rfl, ho, by omega, by omega, fun h => absurd h (by show ¬ (2 : Int) = 0; omega)⟩
        rfl
    · refine x_iconst (x_d C_O_tablesFault 40 rfl) ⟨by omega, by omega⟩ ?_
      refine x_ireturn (x_d C_O_tablesFault 41 rfl) ?_
      have e0 : s_ot (A 2) (q 35) (q 34) (s_x0 A (q 362)) = (1, (s_x0 A (q 362)), 0, 0, []) := by
        unfold s_ot
        rw [if_pos (by omega)]
      rw [e0]
      refine ⟨(s_x0 A (q 362)), q 363, A 12, q 133, A, q 360, q 361, 0, 0, q 1031, q 1032, ?_, rfl, fun _ _ => rfl, ho, by omega, by omega, fun h => absurd h (by show ¬ (1 : Int) = 0; omega)⟩
      rfl
