/-! the law, from its begin -/
theorem Inv_0 : Inv 0 (vq false false q_0) (vr false false r_0) (vA false false A_0) [] (fun _ => none) := by
  refine ⟨⟨⟨?_, ?_, ?_⟩, ⟨rfl, ?_⟩, fun k hk => ?_, fun k hk => ?_, rfl, s_okR_0⟩, ⟨⟨rfl, rfl, rfl, rfl⟩, 19, 21, 2, Or.inl ⟨rfl, rfl, Or.inl rfl⟩, rfl, rfl, rfl⟩, ⟨rfl, ⟨?_, ?_⟩, fun _ _ => rfl⟩, ⟨⟨fun j => ⟨?_, ?_⟩, fun j => ⟨?_, ?_⟩⟩, ⟨?_, ?_⟩, fun j => ⟨?_, ?_⟩, fun j => ⟨?_, ?_⟩, fun j => ⟨?_, ?_⟩, fun j => ⟨?_, ?_⟩⟩, (fun c e z => by cases z), Or.inl ⟨rfl, rfl⟩, Or.inl ⟨rfl, rfl, rfl, ⟨rfl, ?_, ?_⟩, rfl, ⟨?_, ?_⟩, rfl⟩⟩
  · show (8 : Int) ≤ 8; decide
  · show (8 : Int) ≤ 8; decide
  · show (8 : Int) ≤ 8 + 20 * ((0 : Nat) : Int); decide
  · show (0 : Int) ≤ 4000; decide
  · have hk : (k : Int) < 0 := hk
    omega
  · show s_lr 6 k = _
    unfold s_lr
    rw [if_pos (by omega)]
    rfl
  · show (0 : Int) ≤ 0; decide
  · show (0 : Int) ≤ 6000; decide
  · show (0 : Int) ≤ 0; decide
  · show (0 : Int) ≤ 12900; decide
  · show (-1 : Int) ≤ 0; decide
  · show (0 : Int) ≤ 10248; decide
  · show (0 : Int) ≤ 0; decide
  · show (0 : Int) ≤ 4000; decide
  · show (0 : Int) ≤ 0; decide
  · show (0 : Int) ≤ 6000; decide
  · show (0 : Int) ≤ 0; decide
  · show (0 : Int) ≤ 6000; decide
  · show (0 : Int) ≤ 0; decide
  · show (0 : Int) ≤ 12900; decide
  · show (0 : Int) ≤ 0; decide
  · show (0 : Int) ≤ 12900; decide
  · show (0 : Int) ≤ 0; decide
  · show (0 : Int) ≤ 10248; decide
  · show (0 : Int) ≤ 0; decide
  · show (0 : Int) < 12900; decide
theorem law_all {B : Nat → Int → xH → Prop} (hR : BR B) (hB0 : B 0 0 []) (Z : xZ) (hL : Z.2.2.2.2.2.2.1 ≤ 3072) (hs : ∀ j, x_i32 (Z.2.2.2.2.2.2.2 j)) : xW Z 1000 Y_law 0 [(0, xS 0)] [] [] (fun v h2 => v = some (xI 1) ∧ ∃ n2, n2 ≤ 512 ∧ SB B n2 h2) := by
  refine x_newL (k := 0) (h1 := [xB 0 [xN, xN, xN, xN, xN, xN, xN, xN, xN, xN, xN, xI (0)]]) (x_d C_law 0 rfl) n_Law_7 rfl rfl ?_
  refine x_dup (x_d C_law 1 rfl) rfl ?_
  refine x_invokespecial (Yc := Y_PF_init) (st := [xC 0]) (av := []) (x_d C_law 2 rfl) k_Law_9 m_PF_init rfl v_PF_init rfl (Nat.le_of_ble_eq_true rfl) (by omega) rfl (c_PF_init Z 999 (by omega)) ?_
  rintro v_ h1 ⟨rfl, rfl⟩
  refine x_astore_n (l1 := [(1, xC 0), (0, xS 0)]) (x_d C_law 3 rfl) (by decide) rfl ?_
  refine x_newL (k := 42) (h1 := [xB 0 [xC 1, xC 4, xC 10, xC 11, xC 16, xC 18, xC 23, xC 26, xC 32, xC 38, xC 40, xI (-1)], xB 1 [xC 2, xC 3, xI (8), xI (8)], xA 1 10248 (s_lr 6), xA 2 256 (s_rt 127), xB 2 [xC 5, xC 6, xC 7, xC 8, xC 9, xI (0), xC 1], xA 0 12900 (fun _ => 0), xA 0 12900 (fun _ => 0), xA 0 12900 (fun _ => 0), xA 0 12900 (fun _ => 0), xA 0 12900 (fun _ => 0), xB 3 [xC 1, xC 4], xB 4 [xC 1, xC 4, xC 10, xC 12, xC 13, xC 14, xC 15, xN, xI (0), xI (0), xI (0), xI (0)], xA 0 6 (fun _ => 0), xA 0 300 (fun _ => 0), xA 0 300 (fun _ => 0), xA 0 300 (fun _ => 0), xB 5 [xC 1, xC 4, xC 17, xN, xN], xA 0 300 (fun _ => 0), xB 6 [xC 1, xC 4, xC 19, xC 21, xC 2, xI (0), xI (0)], xB 7 [xC 20, xI (0), xI (0), xI (0)], xA 1 3000 (fun _ => 0), xB 7 [xC 22, xI (0), xI (0), xI (0)], xA 1 3000 (fun _ => 0), xB 8 [xC 24, xI (0), xC 25, xC 4, xN], xA 0 300 (fun _ => 0), xA 2 300 (fun _ => 0), xB 9 [xC 27, xC 28, xC 29, xC 30, xC 31, xI (0), xI (0), xI (0), xI (0), xI (0), xI (0), xC 4], xA 0 300 (fun _ => 0), xA 0 300 (fun _ => 0), xA 2 300 (fun _ => 0), xA 2 300 (fun _ => 0), xA 2 300 (fun _ => 0), xB 9 [xC 33, xC 34, xC 35, xC 36, xC 37, xI (0), xI (0), xI (0), xI (0), xI (0), xI (0), xC 4], xA 0 300 (fun _ => 0), xA 0 300 (fun _ => 0), xA 2 300 (fun _ => 0), xA 2 300 (fun _ => 0), xA 2 300 (fun _ => 0), xB 7 [xC 39, xI (0), xI (0), xI (0)], xA 1 6000 (fun _ => 0), xB 7 [xC 41, xI (0), xI (0), xI (0)], xA 1 6000 (fun _ => 0), xB 10 [xN, xI (0), xI (0), xN, xN, xI (0), xN, xN, xN, xI (0), xI (0), xN, xN, xI (0), xN, xI (0), xI (0), xN, xN, xN, xI (0)]]) (x_d C_law 4 rfl) n_Law_10 rfl rfl ?_
  refine x_dup (x_d C_law 5 rfl) rfl ?_
  refine x_invokespecial (Yc := Y_M_init) (st := [xC 42]) (av := []) (x_d C_law 6 rfl) k_Law_12 m_M_init rfl v_M_init rfl (Nat.le_of_ble_eq_true rfl) (by omega) rfl (c_M_init Z 999 (by omega) (xB 0 [xC 1, xC 4, xC 10, xC 11, xC 16, xC 18, xC 23, xC 26, xC 32, xC 38, xC 40, xI (-1)]) (xB 1 [xC 2, xC 3, xI (8), xI (8)]) (xA 1 10248 (s_lr 6)) (xA 2 256 (s_rt 127)) (xB 2 [xC 5, xC 6, xC 7, xC 8, xC 9, xI (0), xC 1]) (xA 0 12900 (fun _ => 0)) (xA 0 12900 (fun _ => 0)) (xA 0 12900 (fun _ => 0)) (xA 0 12900 (fun _ => 0)) (xA 0 12900 (fun _ => 0)) (xB 3 [xC 1, xC 4]) (xB 4 [xC 1, xC 4, xC 10, xC 12, xC 13, xC 14, xC 15, xN, xI (0), xI (0), xI (0), xI (0)]) (xA 0 6 (fun _ => 0)) (xA 0 300 (fun _ => 0)) (xA 0 300 (fun _ => 0)) (xA 0 300 (fun _ => 0)) (xB 5 [xC 1, xC 4, xC 17, xN, xN]) (xA 0 300 (fun _ => 0)) (xB 6 [xC 1, xC 4, xC 19, xC 21, xC 2, xI (0), xI (0)]) (xB 7 [xC 20, xI (0), xI (0), xI (0)]) (xA 1 3000 (fun _ => 0)) (xB 7 [xC 22, xI (0), xI (0), xI (0)]) (xA 1 3000 (fun _ => 0)) (xB 8 [xC 24, xI (0), xC 25, xC 4, xN]) (xA 0 300 (fun _ => 0)) (xA 2 300 (fun _ => 0)) (xB 9 [xC 27, xC 28, xC 29, xC 30, xC 31, xI (0), xI (0), xI (0), xI (0), xI (0), xI (0), xC 4]) (xA 0 300 (fun _ => 0)) (xA 0 300 (fun _ => 0)) (xA 2 300 (fun _ => 0)) (xA 2 300 (fun _ => 0)) (xA 2 300 (fun _ => 0)) (xB 9 [xC 33, xC 34, xC 35, xC 36, xC 37, xI (0), xI (0), xI (0), xI (0), xI (0), xI (0), xC 4]) (xA 0 300 (fun _ => 0)) (xA 0 300 (fun _ => 0)) (xA 2 300 (fun _ => 0)) (xA 2 300 (fun _ => 0)) (xA 2 300 (fun _ => 0)) (xB 7 [xC 39, xI (0), xI (0), xI (0)]) (xA 1 6000 (fun _ => 0)) (xB 7 [xC 41, xI (0), xI (0), xI (0)]) (xA 1 6000 (fun _ => 0))) ?_
  rintro v_ h1 ⟨rfl, rfl⟩
  refine x_astore_n (l1 := [(2, xC 42), (1, xC 0), (0, xS 0)]) (x_d C_law 7 rfl) (by decide) rfl ?_
  refine x_iconst (x_d C_law 8 rfl) ⟨by decide, by decide⟩ ?_
  refine x_istore_n (l1 := [(3, xI 0), (2, xC 42), (1, xC 0), (0, xS 0)]) (x_d C_law 9 rfl) (by decide) rfl ?_
  refine x_locs [3, 2, 1, 0] rfl ?_
  rw [hF_start]
  have key := law_loop hR Z hL hs 513 0 (hF q_0 r_0 A_0 ++ []) rfl (by omega) ⟨false, false, vq false false q_0, vr false false r_0, vA false false A_0, [], fun _ => none, by rw [vq_vq, vr_vr, vA_vA], Inv_0, hB0⟩
  exact key
