/-! the reference: strings -/
theorem s_hex_b {x : Int} (h : -128 ≤ x ∧ x ≤ 127) : s_hex (x % 256) = s_hex x := by
  unfold s_hex
  (repeat' split) <;> omega
theorem s_by_256 {x y : Int} (h : x % 256 = y % 256) : x_by x = x_by y := by
  unfold x_by
  have h : x % ((256 : Nat) : Int) = y % ((256 : Nat) : Int) := h
  rw [Int.bmod_def, Int.bmod_def, h]
theorem c_M_escaped (Z : xZ) (d : Nat) (q : Nat → Int) (r : Nat → Option Nat) (A : Nat → Nat → Int) (dy : xH) (X : Nat → Int) (f j : Int) (tk : Nat → Int) (hf : 0 ≤ f) (hn : 0 ≤ q 1345 ∧ q 1345 ≤ 4000) (hX : ∀ k : Nat, (k : Int) < q 1345 → A 44 k = X (f.toNat + k)) (hj : 0 ≤ j ∧ j ≤ q 1345) (hB : ∀ k, -128 ≤ X k ∧ X k ≤ 127) (hb : s_byte X (f + q 1345) (f + j - 1) = 92) : xMet Z d Y_M_escaped [xC 42] (hF (x_up q 1346 j) (x_up r 1344 (some 44)) (x_up A 43 tk) ++ dy) (fun v h2 => ∃ z j2 : Int, v = some (xI z) ∧ h2 = hF (x_up q 1346 j2) (x_up r 1344 (some 44)) (x_up A 43 tk) ++ dy ∧ (0 ≤ j2 ∧ j2 ≤ q 1345) ∧ ((0 ≤ z ∧ z ≤ 255 ∧ ¬ s_ss X (f + q 1345) (f + j - 1) = 0 ∧ z = s_sg X (f + q 1345) (f + j - 1) (s_ss X (f + q 1345) (f + j - 1)) ∧ j2 = j - 1 + s_ss X (f + q 1345) (f + j - 1)) ∨ (z = -1 ∧ s_ss X (f + q 1345) (f + j - 1) = 0))) := by
  refine xMet_of (by decide) (Nat.le_of_ble_eq_true rfl) (fun v h2 hq => by obtain ⟨_, _, e, _⟩ := hq; rw [e]; trivial) ?_
  have hXi : ∀ u : Int, 0 ≤ u → u < q 1345 → A 44 u.toNat = X (f + u).toNat := fun u h1 h2 => by rw [hX u.toNat (by omega)]; congr 1; omega
  have x0 := hXi (j + 0)
  have b0 := s_byte_in X (f + q 1345) (f + j + 0)
  have B0 := hB (f + (j + 0)).toNat
  rw [show f + j + 0 = f + (j + 0) by omega] at b0
  have x1 := hXi (j + 1)
  have b1 := s_byte_in X (f + q 1345) (f + j + 1)
  have B1 := hB (f + (j + 1)).toNat
  rw [show f + j + 1 = f + (j + 1) by omega] at b1
  have x2 := hXi (j + 2)
  have b2 := s_byte_in X (f + q 1345) (f + j + 2)
  have B2 := hB (f + (j + 2)).toNat
  rw [show f + j + 2 = f + (j + 2) by omega] at b2
  rw [Int.add_zero] at x0 b0 B0
  have a2 : A 44 (j + 1 + 1).toNat = A 44 (j + 2).toNat := by congr 2; omega
  have hss : s_ss X (f + q 1345) (f + j - 1) = if s_byte X (f + q 1345) (f + j) = 40 ∨ s_byte X (f + q 1345) (f + j) = 41 ∨ s_byte X (f + q 1345) (f + j) = 92 then 2 else if s_oct X (f + q 1345) (f + j) < 0 then 0 else 4 := by unfold s_ss; rw [hb, if_pos rfl, show f + j - 1 + 1 = f + j by omega]
  have hoc : s_oct X (f + q 1345) (f + j) = if (48 ≤ s_byte X (f + q 1345) (f + j) ∧ s_byte X (f + q 1345) (f + j) ≤ 55) ∧ (48 ≤ s_byte X (f + q 1345) (f + (j + 1)) ∧ s_byte X (f + q 1345) (f + (j + 1)) ≤ 55) ∧ (48 ≤ s_byte X (f + q 1345) (f + (j + 2)) ∧ s_byte X (f + q 1345) (f + (j + 2)) ≤ 55) ∧ 8 * (8 * (s_byte X (f + q 1345) (f + j) - 48) + s_byte X (f + q 1345) (f + (j + 1)) - 48) + s_byte X (f + q 1345) (f + (j + 2)) - 48 ≤ 255 then 8 * (8 * (s_byte X (f + q 1345) (f + j) - 48) + s_byte X (f + q 1345) (f + (j + 1)) - 48) + s_byte X (f + q 1345) (f + (j + 2)) - 48 else -1 := by
    unfold s_oct
    rw [Int.add_zero, show f + j + 1 = f + (j + 1) by omega, show f + j + 2 = f + (j + 2) by omega]
  refine x_aload_n (x_d C_M_escaped 0 rfl) rfl ?_
  refine x_getfield (v := xI (j)) (x_d C_M_escaped 1 rfl) f_M_7 rfl rfl ?_
  refine x_aload_n (x_d C_M_escaped 2 rfl) rfl ?_
  refine x_getfield (v := xI (q 1345)) (x_d C_M_escaped 3 rfl) f_M_11 rfl rfl ?_
  refine x_icmp_ge (tgt := 75) (x_d C_M_escaped 4 rfl) rfl (fun c1 => ?_) (fun c1 => ?_)
  · refine x_iconst (x_d C_M_escaped 40 rfl) ⟨by omega, by omega⟩ ?_
    refine x_istore_n (l1 := [(1, xI (0)), (0, xC 42)]) (x_d C_M_escaped 41 rfl) (by decide) rfl ?_
    refine x_iconst (x_d C_M_escaped 42 rfl) ⟨by omega, by omega⟩ ?_
    refine x_istore_n (l1 := [(2, xI (0)), (1, xI (0)), (0, xC 42)]) (x_d C_M_escaped 43 rfl) (by decide) rfl ?_
    refine x_iload_n (x_d C_M_escaped 44 rfl) rfl ?_
    refine x_iconst (x_d C_M_escaped 45 rfl) ⟨by omega, by omega⟩ ?_
    refine x_icmp_ge (tgt := 159) (x_d C_M_escaped 46 rfl) rfl (fun q => absurd q (by omega)) (fun _ => ?_)
    refine x_aload_n (x_d C_M_escaped 47 rfl) rfl ?_
    refine x_getfield (v := xI (j)) (x_d C_M_escaped 48 rfl) f_M_7 rfl rfl ?_
    refine x_aload_n (x_d C_M_escaped 49 rfl) rfl ?_
    refine x_getfield (v := xI (q 1345)) (x_d C_M_escaped 50 rfl) f_M_11 rfl rfl ?_
    refine x_icmp_ge (tgt := 123) (x_d C_M_escaped 51 rfl) rfl (fun c3 => ?_) (fun c3 => ?_)
    · refine x_iconst (x_d C_M_escaped 66 rfl) ⟨by omega, by omega⟩ ?_
      refine x_ireturn (x_d C_M_escaped 67 rfl) ?_
      refine ⟨-1, _, rfl, rfl, by omega, Or.inr ⟨rfl, ?_⟩⟩
      have ho : s_oct X (f + q 1345) (f + j) = -1 := by rw [hoc, if_neg (by omega)]
      rw [hss, if_neg (by omega), ho, if_pos (by omega)]
    · refine x_aload_n (x_d C_M_escaped 52 rfl) rfl ?_
      refine x_getfield (v := xC 44) (x_d C_M_escaped 53 rfl) f_M_14 rfl rfl ?_
      refine x_aload_n (x_d C_M_escaped 54 rfl) rfl ?_
      refine x_getfield (v := xI (j)) (x_d C_M_escaped 55 rfl) f_M_7 rfl rfl ?_
      refine x_baload (f := A 44) (x_d C_M_escaped 56 rfl) rfl (by omega) (by omega) ?_
      refine x_bipush (x_d C_M_escaped 57 rfl) (by omega) ?_
      refine x_icmp_lt (tgt := 123) (x_d C_M_escaped 58 rfl) rfl (fun c4 => ?_) (fun c4 => ?_)
      · refine x_iconst (x_d C_M_escaped 66 rfl) ⟨by omega, by omega⟩ ?_
        refine x_ireturn (x_d C_M_escaped 67 rfl) ?_
        refine ⟨-1, _, rfl, rfl, by omega, Or.inr ⟨rfl, ?_⟩⟩
        have ho : s_oct X (f + q 1345) (f + j) = -1 := by rw [hoc, if_neg (by omega)]
        rw [hss, if_neg (by omega), ho, if_pos (by omega)]
      · refine x_aload_n (x_d C_M_escaped 59 rfl) rfl ?_
        refine x_getfield (v := xC 44) (x_d C_M_escaped 60 rfl) f_M_14 rfl rfl ?_
        refine x_aload_n (x_d C_M_escaped 61 rfl) rfl ?_
        refine x_getfield (v := xI (j)) (x_d C_M_escaped 62 rfl) f_M_7 rfl rfl ?_
        refine x_baload (f := A 44) (x_d C_M_escaped 63 rfl) rfl (by omega) (by omega) ?_
        refine x_bipush (x_d C_M_escaped 64 rfl) (by omega) ?_
        refine x_icmp_le (tgt := 125) (x_d C_M_escaped 65 rfl) rfl (fun c5 => ?_) (fun c5 => ?_)
        · refine x_bipush (x_d C_M_escaped 68 rfl) (by omega) ?_
          refine x_iload_n (x_d C_M_escaped 69 rfl) rfl ?_
          refine x_imul (x_d C_M_escaped 70 rfl) ⟨by omega, by omega⟩ ?_
          refine x_aload_n (x_d C_M_escaped 71 rfl) rfl ?_
          refine x_getfield (v := xC 44) (x_d C_M_escaped 72 rfl) f_M_14 rfl rfl ?_
          refine x_aload_n (x_d C_M_escaped 73 rfl) rfl ?_
          refine x_getfield (v := xI (j)) (x_d C_M_escaped 74 rfl) f_M_7 rfl rfl ?_
          refine x_baload (f := A 44) (x_d C_M_escaped 75 rfl) rfl (by omega) (by omega) ?_
          refine x_iadd (x_d C_M_escaped 76 rfl) ⟨by omega, by omega⟩ ?_
          refine x_bipush (x_d C_M_escaped 77 rfl) (by omega) ?_
          refine x_isub (x_d C_M_escaped 78 rfl) ⟨by omega, by omega⟩ ?_
          refine x_istore_n (l1 := [(1, xI ((0 + (A 44 (j).toNat)) - 48)), (2, xI (0)), (0, xC 42)]) (x_d C_M_escaped 79 rfl) (by decide) rfl ?_
          refine x_aload_n (x_d C_M_escaped 80 rfl) rfl ?_
          refine x_dup (x_d C_M_escaped 81 rfl) rfl ?_
          refine x_getfield (v := xI (j)) (x_d C_M_escaped 82 rfl) f_M_7 rfl rfl ?_
          refine x_iconst (x_d C_M_escaped 83 rfl) ⟨by omega, by omega⟩ ?_
          refine x_iadd (x_d C_M_escaped 84 rfl) ⟨by omega, by omega⟩ ?_
          refine x_putfield (h1 := hF (x_up q 1346 (j + 1)) (x_up r 1344 (some 44)) (x_up A 43 tk) ++ dy) (x_d C_M_escaped 85 rfl) p_M_7 rfl rfl rfl trivial rfl ?_
          refine x_iinc (l1 := [(2, xI (1)), (1, xI ((0 + (A 44 (j).toNat)) - 48)), (0, xC 42)]) (x_d C_M_escaped 86 rfl) rfl ⟨by omega, by omega⟩ (by decide) rfl ?_
          refine x_goto (tgt := 79) (x_d C_M_escaped 87 rfl) rfl ?_
          refine x_iload_n (x_d C_M_escaped 44 rfl) rfl ?_
          refine x_iconst (x_d C_M_escaped 45 rfl) ⟨by omega, by omega⟩ ?_
          refine x_icmp_ge (tgt := 159) (x_d C_M_escaped 46 rfl) rfl (fun q => absurd q (by omega)) (fun _ => ?_)
          refine x_aload_n (x_d C_M_escaped 47 rfl) rfl ?_
          refine x_getfield (v := xI (j + 1)) (x_d C_M_escaped 48 rfl) f_M_7 rfl rfl ?_
          refine x_aload_n (x_d C_M_escaped 49 rfl) rfl ?_
          refine x_getfield (v := xI (q 1345)) (x_d C_M_escaped 50 rfl) f_M_11 rfl rfl ?_
          refine x_icmp_ge (tgt := 123) (x_d C_M_escaped 51 rfl) rfl (fun c7 => ?_) (fun c7 => ?_)
          · refine x_iconst (x_d C_M_escaped 66 rfl) ⟨by omega, by omega⟩ ?_
            refine x_ireturn (x_d C_M_escaped 67 rfl) ?_
            refine ⟨-1, _, rfl, rfl, by omega, Or.inr ⟨rfl, ?_⟩⟩
            have ho : s_oct X (f + q 1345) (f + j) = -1 := by rw [hoc, if_neg (by omega)]
            rw [hss, if_neg (by omega), ho, if_pos (by omega)]
          · refine x_aload_n (x_d C_M_escaped 52 rfl) rfl ?_
            refine x_getfield (v := xC 44) (x_d C_M_escaped 53 rfl) f_M_14 rfl rfl ?_
            refine x_aload_n (x_d C_M_escaped 54 rfl) rfl ?_
            refine x_getfield (v := xI (j + 1)) (x_d C_M_escaped 55 rfl) f_M_7 rfl rfl ?_
            refine x_baload (f := A 44) (x_d C_M_escaped 56 rfl) rfl (by omega) (by omega) ?_
            refine x_bipush (x_d C_M_escaped 57 rfl) (by omega) ?_
            refine x_icmp_lt (tgt := 123) (x_d C_M_escaped 58 rfl) rfl (fun c8 => ?_) (fun c8 => ?_)
            · refine x_iconst (x_d C_M_escaped 66 rfl) ⟨by omega, by omega⟩ ?_
              refine x_ireturn (x_d C_M_escaped 67 rfl) ?_
              refine ⟨-1, _, rfl, rfl, by omega, Or.inr ⟨rfl, ?_⟩⟩
              have ho : s_oct X (f + q 1345) (f + j) = -1 := by rw [hoc, if_neg (by omega)]
              rw [hss, if_neg (by omega), ho, if_pos (by omega)]
            · refine x_aload_n (x_d C_M_escaped 59 rfl) rfl ?_
              refine x_getfield (v := xC 44) (x_d C_M_escaped 60 rfl) f_M_14 rfl rfl ?_
              refine x_aload_n (x_d C_M_escaped 61 rfl) rfl ?_
              refine x_getfield (v := xI (j + 1)) (x_d C_M_escaped 62 rfl) f_M_7 rfl rfl ?_
              refine x_baload (f := A 44) (x_d C_M_escaped 63 rfl) rfl (by omega) (by omega) ?_
              refine x_bipush (x_d C_M_escaped 64 rfl) (by omega) ?_
              refine x_icmp_le (tgt := 125) (x_d C_M_escaped 65 rfl) rfl (fun c9 => ?_) (fun c9 => ?_)
              · refine x_bipush (x_d C_M_escaped 68 rfl) (by omega) ?_
                refine x_iload_n (x_d C_M_escaped 69 rfl) rfl ?_
                refine x_imul (x_d C_M_escaped 70 rfl) ⟨by omega, by omega⟩ ?_
                refine x_aload_n (x_d C_M_escaped 71 rfl) rfl ?_
                refine x_getfield (v := xC 44) (x_d C_M_escaped 72 rfl) f_M_14 rfl rfl ?_
                refine x_aload_n (x_d C_M_escaped 73 rfl) rfl ?_
                refine x_getfield (v := xI (j + 1)) (x_d C_M_escaped 74 rfl) f_M_7 rfl rfl ?_
                refine x_baload (f := A 44) (x_d C_M_escaped 75 rfl) rfl (by omega) (by omega) ?_
                refine x_iadd (x_d C_M_escaped 76 rfl) ⟨by omega, by omega⟩ ?_
                refine x_bipush (x_d C_M_escaped 77 rfl) (by omega) ?_
                refine x_isub (x_d C_M_escaped 78 rfl) ⟨by omega, by omega⟩ ?_
                refine x_istore_n (l1 := [(1, xI (((8 * ((0 + (A 44 (j).toNat)) - 48)) + (A 44 (j + 1).toNat)) - 48)), (2, xI (1)), (0, xC 42)]) (x_d C_M_escaped 79 rfl) (by decide) rfl ?_
                refine x_aload_n (x_d C_M_escaped 80 rfl) rfl ?_
                refine x_dup (x_d C_M_escaped 81 rfl) rfl ?_
                refine x_getfield (v := xI (j + 1)) (x_d C_M_escaped 82 rfl) f_M_7 rfl rfl ?_
                refine x_iconst (x_d C_M_escaped 83 rfl) ⟨by omega, by omega⟩ ?_
                refine x_iadd (x_d C_M_escaped 84 rfl) ⟨by omega, by omega⟩ ?_
                refine x_putfield (h1 := hF (x_up q 1346 (j + 1 + 1)) (x_up r 1344 (some 44)) (x_up A 43 tk) ++ dy) (x_d C_M_escaped 85 rfl) p_M_7 rfl rfl rfl trivial rfl ?_
                refine x_iinc (l1 := [(2, xI (2)), (1, xI (((8 * ((0 + (A 44 (j).toNat)) - 48)) + (A 44 (j + 1).toNat)) - 48)), (0, xC 42)]) (x_d C_M_escaped 86 rfl) rfl ⟨by omega, by omega⟩ (by decide) rfl ?_
                refine x_goto (tgt := 79) (x_d C_M_escaped 87 rfl) rfl ?_
                refine x_iload_n (x_d C_M_escaped 44 rfl) rfl ?_
                refine x_iconst (x_d C_M_escaped 45 rfl) ⟨by omega, by omega⟩ ?_
                refine x_icmp_ge (tgt := 159) (x_d C_M_escaped 46 rfl) rfl (fun q => absurd q (by omega)) (fun _ => ?_)
                refine x_aload_n (x_d C_M_escaped 47 rfl) rfl ?_
                refine x_getfield (v := xI (j + 1 + 1)) (x_d C_M_escaped 48 rfl) f_M_7 rfl rfl ?_
                refine x_aload_n (x_d C_M_escaped 49 rfl) rfl ?_
                refine x_getfield (v := xI (q 1345)) (x_d C_M_escaped 50 rfl) f_M_11 rfl rfl ?_
                refine x_icmp_ge (tgt := 123) (x_d C_M_escaped 51 rfl) rfl (fun c11 => ?_) (fun c11 => ?_)
                · refine x_iconst (x_d C_M_escaped 66 rfl) ⟨by omega, by omega⟩ ?_
                  refine x_ireturn (x_d C_M_escaped 67 rfl) ?_
                  refine ⟨-1, _, rfl, rfl, by omega, Or.inr ⟨rfl, ?_⟩⟩
                  have ho : s_oct X (f + q 1345) (f + j) = -1 := by rw [hoc, if_neg (by omega)]
                  rw [hss, if_neg (by omega), ho, if_pos (by omega)]
                · refine x_aload_n (x_d C_M_escaped 52 rfl) rfl ?_
                  refine x_getfield (v := xC 44) (x_d C_M_escaped 53 rfl) f_M_14 rfl rfl ?_
                  refine x_aload_n (x_d C_M_escaped 54 rfl) rfl ?_
                  refine x_getfield (v := xI (j + 1 + 1)) (x_d C_M_escaped 55 rfl) f_M_7 rfl rfl ?_
                  refine x_baload (f := A 44) (x_d C_M_escaped 56 rfl) rfl (by omega) (by omega) ?_
                  refine x_bipush (x_d C_M_escaped 57 rfl) (by omega) ?_
                  refine x_icmp_lt (tgt := 123) (x_d C_M_escaped 58 rfl) rfl (fun c12 => ?_) (fun c12 => ?_)
                  · refine x_iconst (x_d C_M_escaped 66 rfl) ⟨by omega, by omega⟩ ?_
                    refine x_ireturn (x_d C_M_escaped 67 rfl) ?_
                    refine ⟨-1, _, rfl, rfl, by omega, Or.inr ⟨rfl, ?_⟩⟩
                    have ho : s_oct X (f + q 1345) (f + j) = -1 := by rw [hoc, if_neg (by omega)]
                    rw [hss, if_neg (by omega), ho, if_pos (by omega)]
                  · refine x_aload_n (x_d C_M_escaped 59 rfl) rfl ?_
                    refine x_getfield (v := xC 44) (x_d C_M_escaped 60 rfl) f_M_14 rfl rfl ?_
                    refine x_aload_n (x_d C_M_escaped 61 rfl) rfl ?_
                    refine x_getfield (v := xI (j + 1 + 1)) (x_d C_M_escaped 62 rfl) f_M_7 rfl rfl ?_
                    refine x_baload (f := A 44) (x_d C_M_escaped 63 rfl) rfl (by omega) (by omega) ?_
                    refine x_bipush (x_d C_M_escaped 64 rfl) (by omega) ?_
                    refine x_icmp_le (tgt := 125) (x_d C_M_escaped 65 rfl) rfl (fun c13 => ?_) (fun c13 => ?_)
                    · refine x_bipush (x_d C_M_escaped 68 rfl) (by omega) ?_
                      refine x_iload_n (x_d C_M_escaped 69 rfl) rfl ?_
                      refine x_imul (x_d C_M_escaped 70 rfl) ⟨by omega, by omega⟩ ?_
                      refine x_aload_n (x_d C_M_escaped 71 rfl) rfl ?_
                      refine x_getfield (v := xC 44) (x_d C_M_escaped 72 rfl) f_M_14 rfl rfl ?_
                      refine x_aload_n (x_d C_M_escaped 73 rfl) rfl ?_
                      refine x_getfield (v := xI (j + 1 + 1)) (x_d C_M_escaped 74 rfl) f_M_7 rfl rfl ?_
                      refine x_baload (f := A 44) (x_d C_M_escaped 75 rfl) rfl (by omega) (by omega) ?_
                      refine x_iadd (x_d C_M_escaped 76 rfl) ⟨by omega, by omega⟩ ?_
                      refine x_bipush (x_d C_M_escaped 77 rfl) (by omega) ?_
                      refine x_isub (x_d C_M_escaped 78 rfl) ⟨by omega, by omega⟩ ?_
                      refine x_istore_n (l1 := [(1, xI (((8 * (((8 * ((0 + (A 44 (j).toNat)) - 48)) + (A 44 (j + 1).toNat)) - 48)) + (A 44 (j + 1 + 1).toNat)) - 48)), (2, xI (2)), (0, xC 42)]) (x_d C_M_escaped 79 rfl) (by decide) rfl ?_
                      refine x_aload_n (x_d C_M_escaped 80 rfl) rfl ?_
                      refine x_dup (x_d C_M_escaped 81 rfl) rfl ?_
                      refine x_getfield (v := xI (j + 1 + 1)) (x_d C_M_escaped 82 rfl) f_M_7 rfl rfl ?_
                      refine x_iconst (x_d C_M_escaped 83 rfl) ⟨by omega, by omega⟩ ?_
                      refine x_iadd (x_d C_M_escaped 84 rfl) ⟨by omega, by omega⟩ ?_
                      refine x_putfield (h1 := hF (x_up q 1346 (j + 1 + 1 + 1)) (x_up r 1344 (some 44)) (x_up A 43 tk) ++ dy) (x_d C_M_escaped 85 rfl) p_M_7 rfl rfl rfl trivial rfl ?_
                      refine x_iinc (l1 := [(2, xI (3)), (1, xI (((8 * (((8 * ((0 + (A 44 (j).toNat)) - 48)) + (A 44 (j + 1).toNat)) - 48)) + (A 44 (j + 1 + 1).toNat)) - 48)), (0, xC 42)]) (x_d C_M_escaped 86 rfl) rfl ⟨by omega, by omega⟩ (by decide) rfl ?_
                      refine x_goto (tgt := 79) (x_d C_M_escaped 87 rfl) rfl ?_
                      refine x_iload_n (x_d C_M_escaped 44 rfl) rfl ?_
                      refine x_iconst (x_d C_M_escaped 45 rfl) ⟨by omega, by omega⟩ ?_
                      refine x_icmp_ge (tgt := 159) (x_d C_M_escaped 46 rfl) rfl (fun _ => ?_) (fun q => absurd q (by omega))
                      refine x_iload_n (x_d C_M_escaped 88 rfl) rfl ?_
                      refine x_sipush (x_d C_M_escaped 89 rfl) (by omega) ?_
                      refine x_icmp_le (tgt := 170) (x_d C_M_escaped 90 rfl) rfl (fun c15 => ?_) (fun c15 => ?_)
                      · refine x_iload_n (x_d C_M_escaped 93 rfl) rfl ?_
                        refine x_ireturn (x_d C_M_escaped 94 rfl) ?_
                        have ho : s_oct X (f + q 1345) (f + j) = ((8 * (((8 * ((0 + (A 44 (j).toNat)) - 48)) + (A 44 (j + 1).toNat)) - 48)) + (A 44 (j + 1 + 1).toNat)) - 48 := by rw [hoc, if_pos (by omega)]; omega
                        have hs4 : s_ss X (f + q 1345) (f + j - 1) = 4 := by rw [hss, if_neg (by omega), if_neg (by omega)]
                        refine ⟨_, _, rfl, rfl, by omega, Or.inl ⟨by omega, by omega, by omega, ?_, by omega⟩⟩
                        rw [hs4]
                        unfold s_sg
                        rw [if_pos rfl, show f + j - 1 + 1 = f + j by omega]
                        omega
                      · refine x_iconst (x_d C_M_escaped 91 rfl) ⟨by omega, by omega⟩ ?_
                        refine x_goto (tgt := 171) (x_d C_M_escaped 92 rfl) rfl ?_
                        refine x_ireturn (x_d C_M_escaped 94 rfl) ?_
                        refine ⟨-1, _, rfl, rfl, by omega, Or.inr ⟨rfl, ?_⟩⟩
                        have ho : s_oct X (f + q 1345) (f + j) = -1 := by rw [hoc, if_neg (by omega)]
                        rw [hss, if_neg (by omega), ho, if_pos (by omega)]
                    · refine x_iconst (x_d C_M_escaped 66 rfl) ⟨by omega, by omega⟩ ?_
                      refine x_ireturn (x_d C_M_escaped 67 rfl) ?_
                      refine ⟨-1, _, rfl, rfl, by omega, Or.inr ⟨rfl, ?_⟩⟩
                      have ho : s_oct X (f + q 1345) (f + j) = -1 := by rw [hoc, if_neg (by omega)]
                      rw [hss, if_neg (by omega), ho, if_pos (by omega)]
              · refine x_iconst (x_d C_M_escaped 66 rfl) ⟨by omega, by omega⟩ ?_
                refine x_ireturn (x_d C_M_escaped 67 rfl) ?_
                refine ⟨-1, _, rfl, rfl, by omega, Or.inr ⟨rfl, ?_⟩⟩
                have ho : s_oct X (f + q 1345) (f + j) = -1 := by rw [hoc, if_neg (by omega)]
                rw [hss, if_neg (by omega), ho, if_pos (by omega)]
        · refine x_iconst (x_d C_M_escaped 66 rfl) ⟨by omega, by omega⟩ ?_
          refine x_ireturn (x_d C_M_escaped 67 rfl) ?_
          refine ⟨-1, _, rfl, rfl, by omega, Or.inr ⟨rfl, ?_⟩⟩
          have ho : s_oct X (f + q 1345) (f + j) = -1 := by rw [hoc, if_neg (by omega)]
          rw [hss, if_neg (by omega), ho, if_pos (by omega)]
  · refine x_aload_n (x_d C_M_escaped 5 rfl) rfl ?_
    refine x_getfield (v := xC 44) (x_d C_M_escaped 6 rfl) f_M_14 rfl rfl ?_
    refine x_aload_n (x_d C_M_escaped 7 rfl) rfl ?_
    refine x_getfield (v := xI (j)) (x_d C_M_escaped 8 rfl) f_M_7 rfl rfl ?_
    refine x_baload (f := A 44) (x_d C_M_escaped 9 rfl) rfl (by omega) (by omega) ?_
    refine x_bipush (x_d C_M_escaped 10 rfl) (by omega) ?_
    refine x_icmp_eq (tgt := 53) (x_d C_M_escaped 11 rfl) rfl (fun c16 => ?_) (fun c16 => ?_)
    · refine x_aload_n (x_d C_M_escaped 26 rfl) rfl ?_
      refine x_dup (x_d C_M_escaped 27 rfl) rfl ?_
      refine x_getfield (v := xI (j)) (x_d C_M_escaped 28 rfl) f_M_7 rfl rfl ?_
      refine x_iconst (x_d C_M_escaped 29 rfl) ⟨by omega, by omega⟩ ?_
      refine x_iadd (x_d C_M_escaped 30 rfl) ⟨by omega, by omega⟩ ?_
      refine x_putfield (h1 := hF (x_up q 1346 (j + 1)) (x_up r 1344 (some 44)) (x_up A 43 tk) ++ dy) (x_d C_M_escaped 31 rfl) p_M_7 rfl rfl rfl trivial rfl ?_
      refine x_aload_n (x_d C_M_escaped 32 rfl) rfl ?_
      refine x_getfield (v := xC 44) (x_d C_M_escaped 33 rfl) f_M_14 rfl rfl ?_
      refine x_aload_n (x_d C_M_escaped 34 rfl) rfl ?_
      refine x_getfield (v := xI (j + 1)) (x_d C_M_escaped 35 rfl) f_M_7 rfl rfl ?_
      refine x_iconst (x_d C_M_escaped 36 rfl) ⟨by omega, by omega⟩ ?_
      refine x_isub (x_d C_M_escaped 37 rfl) ⟨by omega, by omega⟩ ?_
      refine x_baload (f := A 44) (x_d C_M_escaped 38 rfl) rfl (by omega) (by omega) ?_
      refine x_ireturn (x_d C_M_escaped 39 rfl) ?_
      have hs2 : s_ss X (f + q 1345) (f + j - 1) = 2 := by rw [hss, if_pos (by omega)]
      have hjj : A 44 (j + 1 - 1).toNat = A 44 j.toNat := by congr 2; omega
      refine ⟨_, _, rfl, rfl, by omega, Or.inl ⟨by omega, by omega, by omega, ?_, by omega⟩⟩
      rw [hs2]
      unfold s_sg
      rw [if_neg (by omega), show f + j - 1 + 2 - 1 = f + j by omega]
      omega
    · refine x_aload_n (x_d C_M_escaped 12 rfl) rfl ?_
      refine x_getfield (v := xC 44) (x_d C_M_escaped 13 rfl) f_M_14 rfl rfl ?_
      refine x_aload_n (x_d C_M_escaped 14 rfl) rfl ?_
      refine x_getfield (v := xI (j)) (x_d C_M_escaped 15 rfl) f_M_7 rfl rfl ?_
      refine x_baload (f := A 44) (x_d C_M_escaped 16 rfl) rfl (by omega) (by omega) ?_
      refine x_bipush (x_d C_M_escaped 17 rfl) (by omega) ?_
      refine x_icmp_eq (tgt := 53) (x_d C_M_escaped 18 rfl) rfl (fun c17 => ?_) (fun c17 => ?_)
      · refine x_aload_n (x_d C_M_escaped 26 rfl) rfl ?_
        refine x_dup (x_d C_M_escaped 27 rfl) rfl ?_
        refine x_getfield (v := xI (j)) (x_d C_M_escaped 28 rfl) f_M_7 rfl rfl ?_
        refine x_iconst (x_d C_M_escaped 29 rfl) ⟨by omega, by omega⟩ ?_
        refine x_iadd (x_d C_M_escaped 30 rfl) ⟨by omega, by omega⟩ ?_
        refine x_putfield (h1 := hF (x_up q 1346 (j + 1)) (x_up r 1344 (some 44)) (x_up A 43 tk) ++ dy) (x_d C_M_escaped 31 rfl) p_M_7 rfl rfl rfl trivial rfl ?_
        refine x_aload_n (x_d C_M_escaped 32 rfl) rfl ?_
        refine x_getfield (v := xC 44) (x_d C_M_escaped 33 rfl) f_M_14 rfl rfl ?_
        refine x_aload_n (x_d C_M_escaped 34 rfl) rfl ?_
        refine x_getfield (v := xI (j + 1)) (x_d C_M_escaped 35 rfl) f_M_7 rfl rfl ?_
        refine x_iconst (x_d C_M_escaped 36 rfl) ⟨by omega, by omega⟩ ?_
        refine x_isub (x_d C_M_escaped 37 rfl) ⟨by omega, by omega⟩ ?_
        refine x_baload (f := A 44) (x_d C_M_escaped 38 rfl) rfl (by omega) (by omega) ?_
        refine x_ireturn (x_d C_M_escaped 39 rfl) ?_
        have hs2 : s_ss X (f + q 1345) (f + j - 1) = 2 := by rw [hss, if_pos (by omega)]
        have hjj : A 44 (j + 1 - 1).toNat = A 44 j.toNat := by congr 2; omega
        refine ⟨_, _, rfl, rfl, by omega, Or.inl ⟨by omega, by omega, by omega, ?_, by omega⟩⟩
        rw [hs2]
        unfold s_sg
        rw [if_neg (by omega), show f + j - 1 + 2 - 1 = f + j by omega]
        omega
      · refine x_aload_n (x_d C_M_escaped 19 rfl) rfl ?_
        refine x_getfield (v := xC 44) (x_d C_M_escaped 20 rfl) f_M_14 rfl rfl ?_
        refine x_aload_n (x_d C_M_escaped 21 rfl) rfl ?_
        refine x_getfield (v := xI (j)) (x_d C_M_escaped 22 rfl) f_M_7 rfl rfl ?_
        refine x_baload (f := A 44) (x_d C_M_escaped 23 rfl) rfl (by omega) (by omega) ?_
        refine x_bipush (x_d C_M_escaped 24 rfl) (by omega) ?_
        refine x_icmp_ne (tgt := 75) (x_d C_M_escaped 25 rfl) rfl (fun c18 => ?_) (fun c18 => ?_)
        · refine x_iconst (x_d C_M_escaped 40 rfl) ⟨by omega, by omega⟩ ?_
          refine x_istore_n (l1 := [(1, xI (0)), (0, xC 42)]) (x_d C_M_escaped 41 rfl) (by decide) rfl ?_
          refine x_iconst (x_d C_M_escaped 42 rfl) ⟨by omega, by omega⟩ ?_
          refine x_istore_n (l1 := [(2, xI (0)), (1, xI (0)), (0, xC 42)]) (x_d C_M_escaped 43 rfl) (by decide) rfl ?_
          refine x_iload_n (x_d C_M_escaped 44 rfl) rfl ?_
          refine x_iconst (x_d C_M_escaped 45 rfl) ⟨by omega, by omega⟩ ?_
          refine x_icmp_ge (tgt := 159) (x_d C_M_escaped 46 rfl) rfl (fun q => absurd q (by omega)) (fun _ => ?_)
          refine x_aload_n (x_d C_M_escaped 47 rfl) rfl ?_
          refine x_getfield (v := xI (j)) (x_d C_M_escaped 48 rfl) f_M_7 rfl rfl ?_
          refine x_aload_n (x_d C_M_escaped 49 rfl) rfl ?_
          refine x_getfield (v := xI (q 1345)) (x_d C_M_escaped 50 rfl) f_M_11 rfl rfl ?_
          refine x_icmp_ge (tgt := 123) (x_d C_M_escaped 51 rfl) rfl (fun c20 => ?_) (fun c20 => ?_)
          · refine x_iconst (x_d C_M_escaped 66 rfl) ⟨by omega, by omega⟩ ?_
            refine x_ireturn (x_d C_M_escaped 67 rfl) ?_
            refine ⟨-1, _, rfl, rfl, by omega, Or.inr ⟨rfl, ?_⟩⟩
            have ho : s_oct X (f + q 1345) (f + j) = -1 := by rw [hoc, if_neg (by omega)]
            rw [hss, if_neg (by omega), ho, if_pos (by omega)]
          · refine x_aload_n (x_d C_M_escaped 52 rfl) rfl ?_
            refine x_getfield (v := xC 44) (x_d C_M_escaped 53 rfl) f_M_14 rfl rfl ?_
            refine x_aload_n (x_d C_M_escaped 54 rfl) rfl ?_
            refine x_getfield (v := xI (j)) (x_d C_M_escaped 55 rfl) f_M_7 rfl rfl ?_
            refine x_baload (f := A 44) (x_d C_M_escaped 56 rfl) rfl (by omega) (by omega) ?_
            refine x_bipush (x_d C_M_escaped 57 rfl) (by omega) ?_
            refine x_icmp_lt (tgt := 123) (x_d C_M_escaped 58 rfl) rfl (fun c21 => ?_) (fun c21 => ?_)
            · refine x_iconst (x_d C_M_escaped 66 rfl) ⟨by omega, by omega⟩ ?_
              refine x_ireturn (x_d C_M_escaped 67 rfl) ?_
              refine ⟨-1, _, rfl, rfl, by omega, Or.inr ⟨rfl, ?_⟩⟩
              have ho : s_oct X (f + q 1345) (f + j) = -1 := by rw [hoc, if_neg (by omega)]
              rw [hss, if_neg (by omega), ho, if_pos (by omega)]
            · refine x_aload_n (x_d C_M_escaped 59 rfl) rfl ?_
              refine x_getfield (v := xC 44) (x_d C_M_escaped 60 rfl) f_M_14 rfl rfl ?_
              refine x_aload_n (x_d C_M_escaped 61 rfl) rfl ?_
              refine x_getfield (v := xI (j)) (x_d C_M_escaped 62 rfl) f_M_7 rfl rfl ?_
              refine x_baload (f := A 44) (x_d C_M_escaped 63 rfl) rfl (by omega) (by omega) ?_
              refine x_bipush (x_d C_M_escaped 64 rfl) (by omega) ?_
              refine x_icmp_le (tgt := 125) (x_d C_M_escaped 65 rfl) rfl (fun c22 => ?_) (fun c22 => ?_)
              · refine x_bipush (x_d C_M_escaped 68 rfl) (by omega) ?_
                refine x_iload_n (x_d C_M_escaped 69 rfl) rfl ?_
                refine x_imul (x_d C_M_escaped 70 rfl) ⟨by omega, by omega⟩ ?_
                refine x_aload_n (x_d C_M_escaped 71 rfl) rfl ?_
                refine x_getfield (v := xC 44) (x_d C_M_escaped 72 rfl) f_M_14 rfl rfl ?_
                refine x_aload_n (x_d C_M_escaped 73 rfl) rfl ?_
                refine x_getfield (v := xI (j)) (x_d C_M_escaped 74 rfl) f_M_7 rfl rfl ?_
                refine x_baload (f := A 44) (x_d C_M_escaped 75 rfl) rfl (by omega) (by omega) ?_
                refine x_iadd (x_d C_M_escaped 76 rfl) ⟨by omega, by omega⟩ ?_
                refine x_bipush (x_d C_M_escaped 77 rfl) (by omega) ?_
                refine x_isub (x_d C_M_escaped 78 rfl) ⟨by omega, by omega⟩ ?_
                refine x_istore_n (l1 := [(1, xI ((0 + (A 44 (j).toNat)) - 48)), (2, xI (0)), (0, xC 42)]) (x_d C_M_escaped 79 rfl) (by decide) rfl ?_
                refine x_aload_n (x_d C_M_escaped 80 rfl) rfl ?_
                refine x_dup (x_d C_M_escaped 81 rfl) rfl ?_
                refine x_getfield (v := xI (j)) (x_d C_M_escaped 82 rfl) f_M_7 rfl rfl ?_
                refine x_iconst (x_d C_M_escaped 83 rfl) ⟨by omega, by omega⟩ ?_
                refine x_iadd (x_d C_M_escaped 84 rfl) ⟨by omega, by omega⟩ ?_
                refine x_putfield (h1 := hF (x_up q 1346 (j + 1)) (x_up r 1344 (some 44)) (x_up A 43 tk) ++ dy) (x_d C_M_escaped 85 rfl) p_M_7 rfl rfl rfl trivial rfl ?_
                refine x_iinc (l1 := [(2, xI (1)), (1, xI ((0 + (A 44 (j).toNat)) - 48)), (0, xC 42)]) (x_d C_M_escaped 86 rfl) rfl ⟨by omega, by omega⟩ (by decide) rfl ?_
                refine x_goto (tgt := 79) (x_d C_M_escaped 87 rfl) rfl ?_
                refine x_iload_n (x_d C_M_escaped 44 rfl) rfl ?_
                refine x_iconst (x_d C_M_escaped 45 rfl) ⟨by omega, by omega⟩ ?_
                refine x_icmp_ge (tgt := 159) (x_d C_M_escaped 46 rfl) rfl (fun q => absurd q (by omega)) (fun _ => ?_)
                refine x_aload_n (x_d C_M_escaped 47 rfl) rfl ?_
                refine x_getfield (v := xI (j + 1)) (x_d C_M_escaped 48 rfl) f_M_7 rfl rfl ?_
                refine x_aload_n (x_d C_M_escaped 49 rfl) rfl ?_
                refine x_getfield (v := xI (q 1345)) (x_d C_M_escaped 50 rfl) f_M_11 rfl rfl ?_
                refine x_icmp_ge (tgt := 123) (x_d C_M_escaped 51 rfl) rfl (fun c24 => ?_) (fun c24 => ?_)
                · refine x_iconst (x_d C_M_escaped 66 rfl) ⟨by omega, by omega⟩ ?_
                  refine x_ireturn (x_d C_M_escaped 67 rfl) ?_
                  refine ⟨-1, _, rfl, rfl, by omega, Or.inr ⟨rfl, ?_⟩⟩
                  have ho : s_oct X (f + q 1345) (f + j) = -1 := by rw [hoc, if_neg (by omega)]
                  rw [hss, if_neg (by omega), ho, if_pos (by omega)]
                · refine x_aload_n (x_d C_M_escaped 52 rfl) rfl ?_
                  refine x_getfield (v := xC 44) (x_d C_M_escaped 53 rfl) f_M_14 rfl rfl ?_
                  refine x_aload_n (x_d C_M_escaped 54 rfl) rfl ?_
                  refine x_getfield (v := xI (j + 1)) (x_d C_M_escaped 55 rfl) f_M_7 rfl rfl ?_
                  refine x_baload (f := A 44) (x_d C_M_escaped 56 rfl) rfl (by omega) (by omega) ?_
                  refine x_bipush (x_d C_M_escaped 57 rfl) (by omega) ?_
                  refine x_icmp_lt (tgt := 123) (x_d C_M_escaped 58 rfl) rfl (fun c25 => ?_) (fun c25 => ?_)
                  · refine x_iconst (x_d C_M_escaped 66 rfl) ⟨by omega, by omega⟩ ?_
                    refine x_ireturn (x_d C_M_escaped 67 rfl) ?_
                    refine ⟨-1, _, rfl, rfl, by omega, Or.inr ⟨rfl, ?_⟩⟩
                    have ho : s_oct X (f + q 1345) (f + j) = -1 := by rw [hoc, if_neg (by omega)]
                    rw [hss, if_neg (by omega), ho, if_pos (by omega)]
                  · refine x_aload_n (x_d C_M_escaped 59 rfl) rfl ?_
                    refine x_getfield (v := xC 44) (x_d C_M_escaped 60 rfl) f_M_14 rfl rfl ?_
                    refine x_aload_n (x_d C_M_escaped 61 rfl) rfl ?_
                    refine x_getfield (v := xI (j + 1)) (x_d C_M_escaped 62 rfl) f_M_7 rfl rfl ?_
                    refine x_baload (f := A 44) (x_d C_M_escaped 63 rfl) rfl (by omega) (by omega) ?_
                    refine x_bipush (x_d C_M_escaped 64 rfl) (by omega) ?_
                    refine x_icmp_le (tgt := 125) (x_d C_M_escaped 65 rfl) rfl (fun c26 => ?_) (fun c26 => ?_)
                    · refine x_bipush (x_d C_M_escaped 68 rfl) (by omega) ?_
                      refine x_iload_n (x_d C_M_escaped 69 rfl) rfl ?_
                      refine x_imul (x_d C_M_escaped 70 rfl) ⟨by omega, by omega⟩ ?_
                      refine x_aload_n (x_d C_M_escaped 71 rfl) rfl ?_
                      refine x_getfield (v := xC 44) (x_d C_M_escaped 72 rfl) f_M_14 rfl rfl ?_
                      refine x_aload_n (x_d C_M_escaped 73 rfl) rfl ?_
                      refine x_getfield (v := xI (j + 1)) (x_d C_M_escaped 74 rfl) f_M_7 rfl rfl ?_
                      refine x_baload (f := A 44) (x_d C_M_escaped 75 rfl) rfl (by omega) (by omega) ?_
                      refine x_iadd (x_d C_M_escaped 76 rfl) ⟨by omega, by omega⟩ ?_
                      refine x_bipush (x_d C_M_escaped 77 rfl) (by omega) ?_
                      refine x_isub (x_d C_M_escaped 78 rfl) ⟨by omega, by omega⟩ ?_
                      refine x_istore_n (l1 := [(1, xI (((8 * ((0 + (A 44 (j).toNat)) - 48)) + (A 44 (j + 1).toNat)) - 48)), (2, xI (1)), (0, xC 42)]) (x_d C_M_escaped 79 rfl) (by decide) rfl ?_
                      refine x_aload_n (x_d C_M_escaped 80 rfl) rfl ?_
                      refine x_dup (x_d C_M_escaped 81 rfl) rfl ?_
                      refine x_getfield (v := xI (j + 1)) (x_d C_M_escaped 82 rfl) f_M_7 rfl rfl ?_
                      refine x_iconst (x_d C_M_escaped 83 rfl) ⟨by omega, by omega⟩ ?_
                      refine x_iadd (x_d C_M_escaped 84 rfl) ⟨by omega, by omega⟩ ?_
                      refine x_putfield (h1 := hF (x_up q 1346 (j + 1 + 1)) (x_up r 1344 (some 44)) (x_up A 43 tk) ++ dy) (x_d C_M_escaped 85 rfl) p_M_7 rfl rfl rfl trivial rfl ?_
                      refine x_iinc (l1 := [(2, xI (2)), (1, xI (((8 * ((0 + (A 44 (j).toNat)) - 48)) + (A 44 (j + 1).toNat)) - 48)), (0, xC 42)]) (x_d C_M_escaped 86 rfl) rfl ⟨by omega, by omega⟩ (by decide) rfl ?_
                      refine x_goto (tgt := 79) (x_d C_M_escaped 87 rfl) rfl ?_
                      refine x_iload_n (x_d C_M_escaped 44 rfl) rfl ?_
                      refine x_iconst (x_d C_M_escaped 45 rfl) ⟨by omega, by omega⟩ ?_
                      refine x_icmp_ge (tgt := 159) (x_d C_M_escaped 46 rfl) rfl (fun q => absurd q (by omega)) (fun _ => ?_)
                      refine x_aload_n (x_d C_M_escaped 47 rfl) rfl ?_
                      refine x_getfield (v := xI (j + 1 + 1)) (x_d C_M_escaped 48 rfl) f_M_7 rfl rfl ?_
                      refine x_aload_n (x_d C_M_escaped 49 rfl) rfl ?_
                      refine x_getfield (v := xI (q 1345)) (x_d C_M_escaped 50 rfl) f_M_11 rfl rfl ?_
                      refine x_icmp_ge (tgt := 123) (x_d C_M_escaped 51 rfl) rfl (fun c28 => ?_) (fun c28 => ?_)
                      · refine x_iconst (x_d C_M_escaped 66 rfl) ⟨by omega, by omega⟩ ?_
                        refine x_ireturn (x_d C_M_escaped 67 rfl) ?_
                        refine ⟨-1, _, rfl, rfl, by omega, Or.inr ⟨rfl, ?_⟩⟩
                        have ho : s_oct X (f + q 1345) (f + j) = -1 := by rw [hoc, if_neg (by omega)]
                        rw [hss, if_neg (by omega), ho, if_pos (by omega)]
                      · refine x_aload_n (x_d C_M_escaped 52 rfl) rfl ?_
                        refine x_getfield (v := xC 44) (x_d C_M_escaped 53 rfl) f_M_14 rfl rfl ?_
                        refine x_aload_n (x_d C_M_escaped 54 rfl) rfl ?_
                        refine x_getfield (v := xI (j + 1 + 1)) (x_d C_M_escaped 55 rfl) f_M_7 rfl rfl ?_
                        refine x_baload (f := A 44) (x_d C_M_escaped 56 rfl) rfl (by omega) (by omega) ?_
                        refine x_bipush (x_d C_M_escaped 57 rfl) (by omega) ?_
                        refine x_icmp_lt (tgt := 123) (x_d C_M_escaped 58 rfl) rfl (fun c29 => ?_) (fun c29 => ?_)
                        · refine x_iconst (x_d C_M_escaped 66 rfl) ⟨by omega, by omega⟩ ?_
                          refine x_ireturn (x_d C_M_escaped 67 rfl) ?_
                          refine ⟨-1, _, rfl, rfl, by omega, Or.inr ⟨rfl, ?_⟩⟩
                          have ho : s_oct X (f + q 1345) (f + j) = -1 := by rw [hoc, if_neg (by omega)]
                          rw [hss, if_neg (by omega), ho, if_pos (by omega)]
                        · refine x_aload_n (x_d C_M_escaped 59 rfl) rfl ?_
                          refine x_getfield (v := xC 44) (x_d C_M_escaped 60 rfl) f_M_14 rfl rfl ?_
                          refine x_aload_n (x_d C_M_escaped 61 rfl) rfl ?_
                          refine x_getfield (v := xI (j + 1 + 1)) (x_d C_M_escaped 62 rfl) f_M_7 rfl rfl ?_
                          refine x_baload (f := A 44) (x_d C_M_escaped 63 rfl) rfl (by omega) (by omega) ?_
                          refine x_bipush (x_d C_M_escaped 64 rfl) (by omega) ?_
                          refine x_icmp_le (tgt := 125) (x_d C_M_escaped 65 rfl) rfl (fun c30 => ?_) (fun c30 => ?_)
                          · refine x_bipush (x_d C_M_escaped 68 rfl) (by omega) ?_
                            refine x_iload_n (x_d C_M_escaped 69 rfl) rfl ?_
                            refine x_imul (x_d C_M_escaped 70 rfl) ⟨by omega, by omega⟩ ?_
                            refine x_aload_n (x_d C_M_escaped 71 rfl) rfl ?_
                            refine x_getfield (v := xC 44) (x_d C_M_escaped 72 rfl) f_M_14 rfl rfl ?_
                            refine x_aload_n (x_d C_M_escaped 73 rfl) rfl ?_
                            refine x_getfield (v := xI (j + 1 + 1)) (x_d C_M_escaped 74 rfl) f_M_7 rfl rfl ?_
                            refine x_baload (f := A 44) (x_d C_M_escaped 75 rfl) rfl (by omega) (by omega) ?_
                            refine x_iadd (x_d C_M_escaped 76 rfl) ⟨by omega, by omega⟩ ?_
                            refine x_bipush (x_d C_M_escaped 77 rfl) (by omega) ?_
                            refine x_isub (x_d C_M_escaped 78 rfl) ⟨by omega, by omega⟩ ?_
                            refine x_istore_n (l1 := [(1, xI (((8 * (((8 * ((0 + (A 44 (j).toNat)) - 48)) + (A 44 (j + 1).toNat)) - 48)) + (A 44 (j + 1 + 1).toNat)) - 48)), (2, xI (2)), (0, xC 42)]) (x_d C_M_escaped 79 rfl) (by decide) rfl ?_
                            refine x_aload_n (x_d C_M_escaped 80 rfl) rfl ?_
                            refine x_dup (x_d C_M_escaped 81 rfl) rfl ?_
                            refine x_getfield (v := xI (j + 1 + 1)) (x_d C_M_escaped 82 rfl) f_M_7 rfl rfl ?_
                            refine x_iconst (x_d C_M_escaped 83 rfl) ⟨by omega, by omega⟩ ?_
                            refine x_iadd (x_d C_M_escaped 84 rfl) ⟨by omega, by omega⟩ ?_
                            refine x_putfield (h1 := hF (x_up q 1346 (j + 1 + 1 + 1)) (x_up r 1344 (some 44)) (x_up A 43 tk) ++ dy) (x_d C_M_escaped 85 rfl) p_M_7 rfl rfl rfl trivial rfl ?_
                            refine x_iinc (l1 := [(2, xI (3)), (1, xI (((8 * (((8 * ((0 + (A 44 (j).toNat)) - 48)) + (A 44 (j + 1).toNat)) - 48)) + (A 44 (j + 1 + 1).toNat)) - 48)), (0, xC 42)]) (x_d C_M_escaped 86 rfl) rfl ⟨by omega, by omega⟩ (by decide) rfl ?_
                            refine x_goto (tgt := 79) (x_d C_M_escaped 87 rfl) rfl ?_
                            refine x_iload_n (x_d C_M_escaped 44 rfl) rfl ?_
                            refine x_iconst (x_d C_M_escaped 45 rfl) ⟨by omega, by omega⟩ ?_
                            refine x_icmp_ge (tgt := 159) (x_d C_M_escaped 46 rfl) rfl (fun _ => ?_) (fun q => absurd q (by omega))
                            refine x_iload_n (x_d C_M_escaped 88 rfl) rfl ?_
                            refine x_sipush (x_d C_M_escaped 89 rfl) (by omega) ?_
                            refine x_icmp_le (tgt := 170) (x_d C_M_escaped 90 rfl) rfl (fun c32 => ?_) (fun c32 => ?_)
                            · refine x_iload_n (x_d C_M_escaped 93 rfl) rfl ?_
                              refine x_ireturn (x_d C_M_escaped 94 rfl) ?_
                              have ho : s_oct X (f + q 1345) (f + j) = ((8 * (((8 * ((0 + (A 44 (j).toNat)) - 48)) + (A 44 (j + 1).toNat)) - 48)) + (A 44 (j + 1 + 1).toNat)) - 48 := by rw [hoc, if_pos (by omega)]; omega
                              have hs4 : s_ss X (f + q 1345) (f + j - 1) = 4 := by rw [hss, if_neg (by omega), if_neg (by omega)]
                              refine ⟨_, _, rfl, rfl, by omega, Or.inl ⟨by omega, by omega, by omega, ?_, by omega⟩⟩
                              rw [hs4]
                              unfold s_sg
                              rw [if_pos rfl, show f + j - 1 + 1 = f + j by omega]
                              omega
                            · refine x_iconst (x_d C_M_escaped 91 rfl) ⟨by omega, by omega⟩ ?_
                              refine x_goto (tgt := 171) (x_d C_M_escaped 92 rfl) rfl ?_
                              refine x_ireturn (x_d C_M_escaped 94 rfl) ?_
                              refine ⟨-1, _, rfl, rfl, by omega, Or.inr ⟨rfl, ?_⟩⟩
                              have ho : s_oct X (f + q 1345) (f + j) = -1 := by rw [hoc, if_neg (by omega)]
                              rw [hss, if_neg (by omega), ho, if_pos (by omega)]
                          · refine x_iconst (x_d C_M_escaped 66 rfl) ⟨by omega, by omega⟩ ?_
                            refine x_ireturn (x_d C_M_escaped 67 rfl) ?_
                            refine ⟨-1, _, rfl, rfl, by omega, Or.inr ⟨rfl, ?_⟩⟩
                            have ho : s_oct X (f + q 1345) (f + j) = -1 := by rw [hoc, if_neg (by omega)]
                            rw [hss, if_neg (by omega), ho, if_pos (by omega)]
                    · refine x_iconst (x_d C_M_escaped 66 rfl) ⟨by omega, by omega⟩ ?_
                      refine x_ireturn (x_d C_M_escaped 67 rfl) ?_
                      refine ⟨-1, _, rfl, rfl, by omega, Or.inr ⟨rfl, ?_⟩⟩
                      have ho : s_oct X (f + q 1345) (f + j) = -1 := by rw [hoc, if_neg (by omega)]
                      rw [hss, if_neg (by omega), ho, if_pos (by omega)]
              · refine x_iconst (x_d C_M_escaped 66 rfl) ⟨by omega, by omega⟩ ?_
                refine x_ireturn (x_d C_M_escaped 67 rfl) ?_
                refine ⟨-1, _, rfl, rfl, by omega, Or.inr ⟨rfl, ?_⟩⟩
                have ho : s_oct X (f + q 1345) (f + j) = -1 := by rw [hoc, if_neg (by omega)]
                rw [hss, if_neg (by omega), ho, if_pos (by omega)]
        · refine x_aload_n (x_d C_M_escaped 26 rfl) rfl ?_
          refine x_dup (x_d C_M_escaped 27 rfl) rfl ?_
          refine x_getfield (v := xI (j)) (x_d C_M_escaped 28 rfl) f_M_7 rfl rfl ?_
          refine x_iconst (x_d C_M_escaped 29 rfl) ⟨by omega, by omega⟩ ?_
          refine x_iadd (x_d C_M_escaped 30 rfl) ⟨by omega, by omega⟩ ?_
          refine x_putfield (h1 := hF (x_up q 1346 (j + 1)) (x_up r 1344 (some 44)) (x_up A 43 tk) ++ dy) (x_d C_M_escaped 31 rfl) p_M_7 rfl rfl rfl trivial rfl ?_
          refine x_aload_n (x_d C_M_escaped 32 rfl) rfl ?_
          refine x_getfield (v := xC 44) (x_d C_M_escaped 33 rfl) f_M_14 rfl rfl ?_
          refine x_aload_n (x_d C_M_escaped 34 rfl) rfl ?_
          refine x_getfield (v := xI (j + 1)) (x_d C_M_escaped 35 rfl) f_M_7 rfl rfl ?_
          refine x_iconst (x_d C_M_escaped 36 rfl) ⟨by omega, by omega⟩ ?_
          refine x_isub (x_d C_M_escaped 37 rfl) ⟨by omega, by omega⟩ ?_
          refine x_baload (f := A 44) (x_d C_M_escaped 38 rfl) rfl (by omega) (by omega) ?_
          refine x_ireturn (x_d C_M_escaped 39 rfl) ?_
          have hs2 : s_ss X (f + q 1345) (f + j - 1) = 2 := by rw [hss, if_pos (by omega)]
          have hjj : A 44 (j + 1 - 1).toNat = A 44 j.toNat := by congr 2; omega
          refine ⟨_, _, rfl, rfl, by omega, Or.inl ⟨by omega, by omega, by omega, ?_, by omega⟩⟩
          rw [hs2]
          unfold s_sg
          rw [if_neg (by omega), show f + j - 1 + 2 - 1 = f + j by omega]
          omega
theorem c_M_ofBytes (Z : xZ) (d : Nat) (q : Nat → Int) (r : Nat → Option Nat) (A : Nat → Nat → Int) (dy : xH) (hd : 4 ≤ d) (j : Int) (tk : Nat → Int) (n : Int) (hn : 0 ≤ n ∧ n ≤ 100) : xMet Z d Y_M_ofBytes [xC 42, xI n] (hF (x_up q 1346 j) (x_up r 1344 (some 44)) (x_up A 43 tk) ++ dy) (fun v h2 => v = some (xC (52 + dy.length)) ∧ ∃ fb, h2 = hF (x_up q 1346 j) (x_up r 1344 (some 44)) (x_up A 43 tk) ++ (dy ++ [xB 12 [xI 5, xI 0, xI 0, xI 0, xC (52 + dy.length + 1), xN, xN], xA 1 n.toNat fb]) ∧ ∀ k : Nat, (k : Int) < n → fb k = tk k) := by
  refine xMet_of (by decide) (Nat.le_of_ble_eq_true rfl) (fun v h2 hq => by rw [hq.1]; trivial) ?_
  refine x_newL (k := 52 + dy.length) (h1 := hF (x_up q 1346 j) (x_up r 1344 (some 44)) (x_up A 43 tk) ++ (dy ++ [xB 12 [xI (0), xI (0), xI (0), xI (0), xN, xN, xN]])) (x_d C_M_ofBytes 0 rfl) n_M_82 (g_len0 _ _ _ _) (g_push0 _ _ _ _ _) ?_
  refine x_dup (x_d C_M_ofBytes 1 rfl) rfl ?_
  refine x_iconst (x_d C_M_ofBytes 2 rfl) ⟨by omega, by omega⟩ ?_
  refine x_invokespecial (st := [xC (52 + dy.length)]) (av := [xI (5)]) (x_d C_M_ofBytes 3 rfl) k_M_84 m_MQ_init rfl v_MQ_init rfl (Nat.le_of_ble_eq_true rfl) (by omega) rfl (c_MQ_init Z (d - 1) (hF (x_up q 1346 j) (x_up r 1344 (some 44)) (x_up A 43 tk) ++ (dy ++ [xB 12 [xI (0), xI (0), xI (0), xI (0), xN, xN, xN]])) (by omega) (52 + dy.length) 5 (ct_get (ct_new0 dy [xB 12 [xI (0), xI (0), xI (0), xI (0), xN, xN, xN]] rfl) _ _ _)) ?_
  rintro _ h_ ⟨rfl, hh_⟩
  obtain rfl : h_ = hF (x_up q 1346 j) (x_up r 1344 (some 44)) (x_up A 43 tk) ++ (dy ++ [xB 12 [xI (5), xI (0), xI (0), xI (0), xN, xN, xN]]) := hh_.trans (g_setl0 _ _ _ _ [xB 12 [xI (0), xI (0), xI (0), xI (0), xN, xN, xN]] _)
  refine x_astore_n (l1 := [(2, xC (52 + dy.length)), (0, xC 42), (1, xI (n))]) (x_d C_M_ofBytes 4 rfl) (by decide) rfl ?_
  refine x_aload_n (x_d C_M_ofBytes 5 rfl) rfl ?_
  refine x_aload_n (x_d C_M_ofBytes 6 rfl) rfl ?_
  refine x_getfield (v := xC 43) (x_d C_M_ofBytes 7 rfl) f_M_122 rfl rfl ?_
  refine x_iload_n (x_d C_M_ofBytes 8 rfl) rfl ?_
  refine x_invokestatic (st := [xC (52 + dy.length)]) (av := [xC 43, xI (n)]) (x_d C_M_ofBytes 9 rfl) k_M_125 m_Ar_copyOf s_Ar_copyOf rfl (Nat.le_of_ble_eq_true rfl) (by omega) rfl (c_Ar_copyOf Z (d - 1) (hF (x_up q 1346 j) (x_up r 1344 (some 44)) (x_up A 43 tk) ++ (dy ++ [xB 12 [xI (5), xI (0), xI (0), xI (0), xN, xN, xN]])) (by omega) 43 101 (tk) n rfl (by omega)) ?_
  rintro v_ h_ ⟨g1, hv_, hh_, hg1⟩
  obtain rfl : v_ = some (xC (52 + dy.length + 1)) := by rw [hv_, g_len _ _ _ _ [xB 12 [xI (5), xI (0), xI (0), xI (0), xN, xN, xN]] (n := 1) rfl]
  obtain rfl : h_ = hF (x_up q 1346 j) (x_up r 1344 (some 44)) (x_up A 43 tk) ++ (dy ++ [xB 12 [xI (5), xI (0), xI (0), xI (0), xN, xN, xN], xA 1 (n).toNat g1]) := hh_.trans (g_push _ _ _ _ [xB 12 [xI (5), xI (0), xI (0), xI (0), xN, xN, xN]] _)
  refine x_putfield (h1 := hF (x_up q 1346 j) (x_up r 1344 (some 44)) (x_up A 43 tk) ++ (dy ++ [xB 12 [xI (5), xI (0), xI (0), xI (0), xC (52 + dy.length + 1), xN, xN], xA 1 (n).toNat g1])) (x_d C_M_ofBytes 10 rfl) p_M_119 (ct_get (ct_new0 dy [xB 12 [xI (5), xI (0), xI (0), xI (0), xN, xN, xN], xA 1 (n).toNat g1] rfl) _ _ _) rfl rfl trivial (g_setl0 _ _ _ _ [xB 12 [xI (5), xI (0), xI (0), xI (0), xN, xN, xN], xA 1 (n).toNat g1] _) ?_
  refine x_aload_n (x_d C_M_ofBytes 11 rfl) rfl ?_
  refine x_areturn (x_d C_M_ofBytes 12 rfl) ?_
  exact ⟨rfl, _, rfl, hg1⟩
theorem w_M_string_12 (Z : xZ) (d : Nat) (q : Nat → Int) (r : Nat → Option Nat) (A : Nat → Nat → Int) (dy : xH) (hd : 5 ≤ d) (X : Nat → Int) (f : Int) (hf : 0 ≤ f) (hn : 0 ≤ q 1345 ∧ q 1345 ≤ 4000) (hX : ∀ k : Nat, (k : Int) < q 1345 → A 44 k = X (f.toNat + k)) (hB : ∀ k, -128 ≤ X k ∧ X k ≤ 127) : ∀ (m : Nat) (n j : Int) (tk : Nat → Int) (bs : List Int), (n + m = 101 ∧ 0 ≤ n ∧ n ≤ 100) → 0 ≤ j ∧ j ≤ q 1345 → ((bs.length : Int) = n ∧ ∀ k : Nat, k < bs.length → tk k = bs.getD k 0) → xW Z d Y_M_string 12 [(0, xC 42), (1, xI n)] [] (hF (x_up q 1346 j) (x_up r 1344 (some 44)) (x_up A 43 tk) ++ dy) (fun v h2 => ∃ j2 tk2, (0 ≤ j2 ∧ j2 ≤ q 1345) ∧ ((s_str X (f + q 1345) m (f + j) n = none ∧ v = some xN ∧ h2 = hF (x_up q 1346 j2) (x_up r 1344 (some 44)) (x_up A 43 tk2) ++ dy) ∨ ∃ K e fb, s_str X (f + q 1345) m (f + j) n = some (K, e) ∧ v = some (xC (52 + dy.length)) ∧ j2 = e - f ∧ h2 = hF (x_up q 1346 j2) (x_up r 1344 (some 44)) (x_up A 43 tk2) ++ (dy ++ [xB 12 [xI 5, xI 0, xI 0, xI 0, xC (52 + dy.length + 1), xN, xN], xA 1 (K : Int).toNat fb]) ∧ ∀ k : Nat, (k : Int) < K → fb k = (bs ++ (s_sb X (f + q 1345) false (K - n).toNat (f + j)).map x_by).getD k 0)) := by
  have hXi : ∀ u : Int, 0 ≤ u → u < q 1345 → A 44 u.toNat = X (f + u).toNat := fun u h1 h2 => by rw [hX u.toNat (by omega)]; congr 1; omega
  intro m
  induction m with
  | zero =>
    intro n j tk bs hk hj hb
    omega
  | succ m ih =>
    intro n j tk bs hk hj hb
    have x0 := hXi j
    have b0 := s_byte_in X (f + q 1345) (f + j)
    have B0 := hB (f + j).toNat
    have hsi := s_ss_in X (f + q 1345) (f + j)
    have hss0 : s_byte X (f + q 1345) (f + j) = 40 → s_ss X (f + q 1345) (f + j) = 0 := fun h => by unfold s_ss; rw [if_neg (by omega), if_pos (by omega)]
    have hss1 : (j < q 1345 ∧ ¬ s_byte X (f + q 1345) (f + j) = 40 ∧ ¬ s_byte X (f + q 1345) (f + j) = 41 ∧ ¬ s_byte X (f + q 1345) (f + j) = 92) → s_ss X (f + q 1345) (f + j) = 1 := fun h => by unfold s_ss; rw [if_neg (by omega), if_neg (by omega)]
    have hsg1 : (j < q 1345 ∧ ¬ s_byte X (f + q 1345) (f + j) = 40 ∧ ¬ s_byte X (f + q 1345) (f + j) = 41 ∧ ¬ s_byte X (f + q 1345) (f + j) = 92) → s_sg X (f + q 1345) (f + j) (s_ss X (f + q 1345) (f + j)) = s_byte X (f + q 1345) (f + j) := fun h => by rw [hss1 h]; unfold s_sg; rw [if_neg (by omega), show f + j + 1 - 1 = f + j by omega]
    have hssE : ¬ j < q 1345 → s_ss X (f + q 1345) (f + j) = 0 := fun h => by unfold s_ss; rw [if_neg (by omega), if_pos (by omega)]
    refine x_aload_n (x_d C_M_string 8 rfl) rfl ?_
    refine x_getfield (v := xI (j)) (x_d C_M_string 9 rfl) f_M_7 rfl rfl ?_
    refine x_aload_n (x_d C_M_string 10 rfl) rfl ?_
    refine x_getfield (v := xI (q 1345)) (x_d C_M_string 11 rfl) f_M_11 rfl rfl ?_
    refine x_icmp_ge (tgt := 102) (x_d C_M_string 12 rfl) rfl (fun c1 => ?_) (fun c1 => ?_)
    · refine x_aload_n (x_d C_M_string 58 rfl) rfl ?_
      refine x_bipush (x_d C_M_string 59 rfl) (by omega) ?_
      refine x_invokevirtual (st := []) (av := [xI (41)]) (x_d C_M_string 60 rfl) k_M_132 m_M_takeByte v_M_takeByte cl_M rfl rfl (Nat.le_of_ble_eq_true rfl) (by omega) rfl (c_M_takeByte Z (d - 1) q r (x_up A 43 tk) dy X f j 41 hf hn hX (by omega) hB (by omega)) ?_
      rintro v_ _ ⟨z2, j2, rfl, rfl, hz2⟩
      have hz2 : (z2 = 1 ∧ s_byte X (f + q 1345) (f + j) = 41 ∧ j2 = j + 1 ∧ j < q 1345) ∨ (z2 = 0 ∧ ¬ s_byte X (f + q 1345) (f + j) = 41 ∧ j2 = j) := hz2
      refine x_if_eq (tgt := 119) (x_d C_M_string 61 rfl) rfl (fun c3 => ?_) (fun c3 => ?_)
      · refine x_null (x_d C_M_string 66 rfl) ?_
        refine x_areturn (x_d C_M_string 67 rfl) ?_
        refine ⟨_, _, by omega, Or.inl ⟨?_, rfl, rfl⟩⟩
        rw [s_str_s]
        first
        | (rw [if_neg (by omega), if_pos (by omega)]; done)
        | (rw [if_neg (by omega)]
           split
           · rfl
           · obtain rfl : m = 0 := by omega
             rfl)
      · refine x_aload_n (x_d C_M_string 62 rfl) rfl ?_
        refine x_iload_n (x_d C_M_string 63 rfl) rfl ?_
        refine x_invokevirtual (st := []) (av := [xI (n)]) (x_d C_M_string 64 rfl) k_M_135 m_M_ofBytes v_M_ofBytes cl_M rfl rfl (Nat.le_of_ble_eq_true rfl) (by omega) rfl (c_M_ofBytes Z (d - 1) q r A dy (by omega) j2 tk n (by omega)) ?_
        rintro _ _ ⟨rfl, fb4, rfl, hfb4⟩
        refine x_goto (tgt := 120) (x_d C_M_string 65 rfl) rfl ?_
        refine x_areturn (x_d C_M_string 67 rfl) ?_
        refine ⟨_, _, by omega, Or.inr ⟨n, f + j + 1, fb4, ?_, rfl, by omega, rfl, fun k hk => ?_⟩⟩
        · rw [s_str_s, if_pos (by omega)]
        · rw [hfb4 k hk, hb.2 k (by omega), Int.sub_self]
          show bs.getD k 0 = (bs ++ []).getD k 0
          rw [List.append_nil]
    · refine x_aload_n (x_d C_M_string 13 rfl) rfl ?_
      refine x_getfield (v := xC 44) (x_d C_M_string 14 rfl) f_M_14 rfl rfl ?_
      refine x_aload_n (x_d C_M_string 15 rfl) rfl ?_
      refine x_getfield (v := xI (j)) (x_d C_M_string 16 rfl) f_M_7 rfl rfl ?_
      refine x_baload (f := A 44) (x_d C_M_string 17 rfl) rfl (by omega) (by omega) ?_
      refine x_bipush (x_d C_M_string 18 rfl) (by omega) ?_
      refine x_icmp_eq (tgt := 102) (x_d C_M_string 19 rfl) rfl (fun c5 => ?_) (fun c5 => ?_)
      · refine x_aload_n (x_d C_M_string 58 rfl) rfl ?_
        refine x_bipush (x_d C_M_string 59 rfl) (by omega) ?_
        refine x_invokevirtual (st := []) (av := [xI (41)]) (x_d C_M_string 60 rfl) k_M_132 m_M_takeByte v_M_takeByte cl_M rfl rfl (Nat.le_of_ble_eq_true rfl) (by omega) rfl (c_M_takeByte Z (d - 1) q r (x_up A 43 tk) dy X f j 41 hf hn hX (by omega) hB (by omega)) ?_
        rintro v_ _ ⟨z6, j6, rfl, rfl, hz6⟩
        have hz6 : (z6 = 1 ∧ s_byte X (f + q 1345) (f + j) = 41 ∧ j6 = j + 1 ∧ j < q 1345) ∨ (z6 = 0 ∧ ¬ s_byte X (f + q 1345) (f + j) = 41 ∧ j6 = j) := hz6
        refine x_if_eq (tgt := 119) (x_d C_M_string 61 rfl) rfl (fun c7 => ?_) (fun c7 => ?_)
        · refine x_null (x_d C_M_string 66 rfl) ?_
          refine x_areturn (x_d C_M_string 67 rfl) ?_
          refine ⟨_, _, by omega, Or.inl ⟨?_, rfl, rfl⟩⟩
          rw [s_str_s]
          first
          | (rw [if_neg (by omega), if_pos (by omega)]; done)
          | (rw [if_neg (by omega)]
             split
             · rfl
             · obtain rfl : m = 0 := by omega
               rfl)
        · refine x_aload_n (x_d C_M_string 62 rfl) rfl ?_
          refine x_iload_n (x_d C_M_string 63 rfl) rfl ?_
          refine x_invokevirtual (st := []) (av := [xI (n)]) (x_d C_M_string 64 rfl) k_M_135 m_M_ofBytes v_M_ofBytes cl_M rfl rfl (Nat.le_of_ble_eq_true rfl) (by omega) rfl (c_M_ofBytes Z (d - 1) q r A dy (by omega) j6 tk n (by omega)) ?_
          rintro _ _ ⟨rfl, fb8, rfl, hfb8⟩
          refine x_goto (tgt := 120) (x_d C_M_string 65 rfl) rfl ?_
          refine x_areturn (x_d C_M_string 67 rfl) ?_
          refine ⟨_, _, by omega, Or.inr ⟨n, f + j + 1, fb8, ?_, rfl, by omega, rfl, fun k hk => ?_⟩⟩
          · rw [s_str_s, if_pos (by omega)]
          · rw [hfb8 k hk, hb.2 k (by omega), Int.sub_self]
            show bs.getD k 0 = (bs ++ []).getD k 0
            rw [List.append_nil]
      · refine x_aload_n (x_d C_M_string 20 rfl) rfl ?_
        refine x_getfield (v := xC 44) (x_d C_M_string 21 rfl) f_M_14 rfl rfl ?_
        refine x_aload_n (x_d C_M_string 22 rfl) rfl ?_
        refine x_getfield (v := xI (j)) (x_d C_M_string 23 rfl) f_M_7 rfl rfl ?_
        refine x_baload (f := A 44) (x_d C_M_string 24 rfl) rfl (by omega) (by omega) ?_
        refine x_istore_n (l1 := [(2, xI (A 44 (j).toNat)), (0, xC 42), (1, xI (n))]) (x_d C_M_string 25 rfl) (by decide) rfl ?_
        refine x_iload_n (x_d C_M_string 26 rfl) rfl ?_
        refine x_bipush (x_d C_M_string 27 rfl) (by omega) ?_
        refine x_icmp_eq (tgt := 59) (x_d C_M_string 28 rfl) rfl (fun c9 => ?_) (fun c9 => ?_)
        · refine x_null (x_d C_M_string 32 rfl) ?_
          refine x_areturn (x_d C_M_string 33 rfl) ?_
          refine ⟨_, _, by omega, Or.inl ⟨?_, rfl, rfl⟩⟩
          rw [s_str_s]
          first
          | (rw [if_neg (by omega), if_pos (by omega)]; done)
          | (rw [if_neg (by omega)]
             split
             · rfl
             · obtain rfl : m = 0 := by omega
               rfl)
        · refine x_iload_n (x_d C_M_string 29 rfl) rfl ?_
          refine x_bipush (x_d C_M_string 30 rfl) (by omega) ?_
          refine x_icmp_ne (tgt := 61) (x_d C_M_string 31 rfl) rfl (fun c10 => ?_) (fun c10 => ?_)
          · refine x_aload_n (x_d C_M_string 34 rfl) rfl ?_
            refine x_dup (x_d C_M_string 35 rfl) rfl ?_
            refine x_getfield (v := xI (j)) (x_d C_M_string 36 rfl) f_M_7 rfl rfl ?_
            refine x_iconst (x_d C_M_string 37 rfl) ⟨by omega, by omega⟩ ?_
            refine x_iadd (x_d C_M_string 38 rfl) ⟨by omega, by omega⟩ ?_
            refine x_putfield (h1 := hF (x_up q 1346 (j + 1)) (x_up r 1344 (some 44)) (x_up A 43 tk) ++ dy) (x_d C_M_string 39 rfl) p_M_7 rfl rfl rfl trivial rfl ?_
            refine x_iload_n (x_d C_M_string 40 rfl) rfl ?_
            refine x_bipush (x_d C_M_string 41 rfl) (by omega) ?_
            refine x_icmp_ne (tgt := 88) (x_d C_M_string 42 rfl) rfl (fun c11 => ?_) (fun c11 => ?_)
            · refine x_aload_n (x_d C_M_string 50 rfl) rfl ?_
              refine x_getfield (v := xC 43) (x_d C_M_string 51 rfl) f_M_122 rfl rfl ?_
              refine x_iload_n (x_d C_M_string 52 rfl) rfl ?_
              refine x_iload_n (x_d C_M_string 53 rfl) rfl ?_
              refine x_i2b (x_d C_M_string 54 rfl) ?_
              refine x_bastore (h1 := hF (x_up q 1346 (j + 1)) (x_up r 1344 (some 44)) (x_up A 43 (x_up tk (n).toNat (x_by (A 44 (j).toNat)))) ++ dy) (x_d C_M_string 55 rfl) rfl (by omega) (by omega) (x_by_in _) rfl ?_
              refine x_iinc (l1 := [(1, xI (n + 1)), (2, xI (A 44 (j).toNat)), (0, xC 42)]) (x_d C_M_string 56 rfl) rfl ⟨by omega, by omega⟩ (by decide) rfl ?_
              refine x_goto (tgt := 12) (x_d C_M_string 57 rfl) rfl ?_
              refine x_locs [2, 0] rfl ?_
              have hval : x_by (A 44 (j).toNat) = x_by (s_sg X (f + q 1345) (f + j) (s_ss X (f + q 1345) (f + j))) := by
                refine s_by_256 ?_
                first | (rw [hE (by omega)]; done) | (rw [hsg1 (by omega)]; omega)
              have hstep : j + 1 = j + s_ss X (f + q 1345) (f + j) := by first | omega | (rw [hss1 (by omega)])
              have e1 : s_str X (f + q 1345) (m + 1) (f + j) n = s_str X (f + q 1345) m (f + (j + s_ss X (f + q 1345) (f + j))) (n + 1) := by rw [s_str_s, if_neg (by omega), if_neg (by omega), Int.add_assoc]
              have hlt : j + s_ss X (f + q 1345) (f + j) ≤ q 1345 := by omega
              rw [hstep, hval]
              refine xW_post ?_ (ih (n + 1) (j + s_ss X (f + q 1345) (f + j)) (x_up tk n.toNat (x_by (s_sg X (f + q 1345) (f + j) (s_ss X (f + q 1345) (f + j))))) (bs ++ [x_by (s_sg X (f + q 1345) (f + j) (s_ss X (f + q 1345) (f + j)))]) (by omega) (by omega) ⟨by rw [List.length_append]; show ((bs.length + 1 : Nat) : Int) = n + 1; omega, fun k hk => ?_⟩)
              · rintro v h2 ⟨j9, tk9, g1, g2⟩
                refine ⟨j9, tk9, g1, ?_⟩
                rw [e1]
                rcases g2 with g2 | ⟨K, e, fb, k1, k2, k3, k4, k5⟩
                · exact Or.inl g2
                · refine Or.inr ⟨K, e, fb, k1, k2, k3, k4, fun k hk => ?_⟩
                  rw [k5 k hk]
                  have hge := s_str_ge _ _ _ _ _ _ k1
                  have hge : n + 1 ≤ K := hge
                  rw [show (K - n).toNat = (K - (n + 1)).toNat + 1 by omega]
                  show _ = (bs ++ ((if false = true then s_pair X (f + q 1345) (f + j) else s_sg X (f + q 1345) (f + j) (s_ss X (f + q 1345) (f + j))) :: s_sb X (f + q 1345) false (K - (n + 1)).toNat (f + j + (if false = true then 2 else s_ss X (f + q 1345) (f + j)))).map x_by).getD k 0
                  rw [if_neg (by decide), if_neg (by decide), List.map_cons, List.append_assoc, Int.add_assoc]
                  rfl
              · rw [List.length_append] at hk
                have hk : k < bs.length + 1 := hk
                rw [s_getD_app]
                split
                · next c9 => rw [x_up_n _ _ (by omega)]; exact hb.2 k c9
                · next c9 => rw [show k = n.toNat by omega, x_up_s, show n.toNat - bs.length = 0 by omega]; rfl
            · refine x_aload_n (x_d C_M_string 43 rfl) rfl ?_
              refine x_invokevirtual (st := []) (av := []) (x_d C_M_string 44 rfl) k_M_129 m_M_escaped v_M_escaped cl_M rfl rfl (Nat.le_of_ble_eq_true rfl) (by omega) rfl (c_M_escaped Z (d - 1) q r A dy X f (j + 1) tk hf hn hX (by omega) hB (by rw [show f + (j + 1) - 1 = f + j by omega]; omega)) ?_
              rintro v_ _ ⟨z12, j12, rfl, rfl, hj12, hz12⟩
              rw [show f + (j + 1) - 1 = f + j by omega] at hz12
              have hE : 0 ≤ z12 → z12 = s_sg X (f + q 1345) (f + j) (s_ss X (f + q 1345) (f + j)) := fun h => by rcases hz12 with e | e; exact e.2.2.2.1; omega
              refine x_istore_n (l1 := [(2, xI (z12)), (0, xC 42), (1, xI (n))]) (x_d C_M_string 45 rfl) (by decide) rfl ?_
              refine x_iload_n (x_d C_M_string 46 rfl) rfl ?_
              refine x_if_ge (tgt := 88) (x_d C_M_string 47 rfl) rfl (fun c13 => ?_) (fun c13 => ?_)
              · refine x_aload_n (x_d C_M_string 50 rfl) rfl ?_
                refine x_getfield (v := xC 43) (x_d C_M_string 51 rfl) f_M_122 rfl rfl ?_
                refine x_iload_n (x_d C_M_string 52 rfl) rfl ?_
                refine x_iload_n (x_d C_M_string 53 rfl) rfl ?_
                refine x_i2b (x_d C_M_string 54 rfl) ?_
                refine x_bastore (h1 := hF (x_up q 1346 j12) (x_up r 1344 (some 44)) (x_up A 43 (x_up tk (n).toNat (x_by z12))) ++ dy) (x_d C_M_string 55 rfl) rfl (by omega) (by omega) (x_by_in _) rfl ?_
                refine x_iinc (l1 := [(1, xI (n + 1)), (2, xI (z12)), (0, xC 42)]) (x_d C_M_string 56 rfl) rfl ⟨by omega, by omega⟩ (by decide) rfl ?_
                refine x_goto (tgt := 12) (x_d C_M_string 57 rfl) rfl ?_
                refine x_locs [2, 0] rfl ?_
                have hval : x_by z12 = x_by (s_sg X (f + q 1345) (f + j) (s_ss X (f + q 1345) (f + j))) := by
                  refine s_by_256 ?_
                  first | (rw [hE (by omega)]; done) | (rw [hsg1 (by omega)]; omega)
                have hstep : j12 = j + s_ss X (f + q 1345) (f + j) := by first | omega | (rw [hss1 (by omega)])
                have e1 : s_str X (f + q 1345) (m + 1) (f + j) n = s_str X (f + q 1345) m (f + (j + s_ss X (f + q 1345) (f + j))) (n + 1) := by rw [s_str_s, if_neg (by omega), if_neg (by omega), Int.add_assoc]
                have hlt : j + s_ss X (f + q 1345) (f + j) ≤ q 1345 := by omega
                rw [hstep, hval]
                refine xW_post ?_ (ih (n + 1) (j + s_ss X (f + q 1345) (f + j)) (x_up tk n.toNat (x_by (s_sg X (f + q 1345) (f + j) (s_ss X (f + q 1345) (f + j))))) (bs ++ [x_by (s_sg X (f + q 1345) (f + j) (s_ss X (f + q 1345) (f + j)))]) (by omega) (by omega) ⟨by rw [List.length_append]; show ((bs.length + 1 : Nat) : Int) = n + 1; omega, fun k hk => ?_⟩)
                · rintro v h2 ⟨j9, tk9, g1, g2⟩
                  refine ⟨j9, tk9, g1, ?_⟩
                  rw [e1]
                  rcases g2 with g2 | ⟨K, e, fb, k1, k2, k3, k4, k5⟩
                  · exact Or.inl g2
                  · refine Or.inr ⟨K, e, fb, k1, k2, k3, k4, fun k hk => ?_⟩
                    rw [k5 k hk]
                    have hge := s_str_ge _ _ _ _ _ _ k1
                    have hge : n + 1 ≤ K := hge
                    rw [show (K - n).toNat = (K - (n + 1)).toNat + 1 by omega]
                    show _ = (bs ++ ((if false = true then s_pair X (f + q 1345) (f + j) else s_sg X (f + q 1345) (f + j) (s_ss X (f + q 1345) (f + j))) :: s_sb X (f + q 1345) false (K - (n + 1)).toNat (f + j + (if false = true then 2 else s_ss X (f + q 1345) (f + j)))).map x_by).getD k 0
                    rw [if_neg (by decide), if_neg (by decide), List.map_cons, List.append_assoc, Int.add_assoc]
                    rfl
                · rw [List.length_append] at hk
                  have hk : k < bs.length + 1 := hk
                  rw [s_getD_app]
                  split
                  · next c9 => rw [x_up_n _ _ (by omega)]; exact hb.2 k c9
                  · next c9 => rw [show k = n.toNat by omega, x_up_s, show n.toNat - bs.length = 0 by omega]; rfl
              · refine x_null (x_d C_M_string 48 rfl) ?_
                refine x_areturn (x_d C_M_string 49 rfl) ?_
                refine ⟨_, _, by omega, Or.inl ⟨?_, rfl, rfl⟩⟩
                rw [s_str_s]
                first
                | (rw [if_neg (by omega), if_pos (by omega)]; done)
                | (rw [if_neg (by omega)]
                   split
                   · rfl
                   · obtain rfl : m = 0 := by omega
                     rfl)
          · refine x_null (x_d C_M_string 32 rfl) ?_
            refine x_areturn (x_d C_M_string 33 rfl) ?_
            refine ⟨_, _, by omega, Or.inl ⟨?_, rfl, rfl⟩⟩
            rw [s_str_s]
            first
            | (rw [if_neg (by omega), if_pos (by omega)]; done)
            | (rw [if_neg (by omega)]
               split
               · rfl
               · obtain rfl : m = 0 := by omega
                 rfl)
theorem s_getD_mapby (L : List Int) (k : Nat) : (L.map x_by).getD k 0 = x_by (L.getD k 0) := by
  rw [List.getD_eq_getElem?_getD, List.getElem?_map, List.getD_eq_getElem?_getD]
  cases L[k]? <;> rfl
theorem c_M_string (Z : xZ) (d : Nat) (q : Nat → Int) (r : Nat → Option Nat) (A : Nat → Nat → Int) (dy : xH) (hd : 6 ≤ d) (X : Nat → Int) (f j : Int) (tk : Nat → Int) (K : Nat → Nat → Nat) (g : Nat → Option xE) (D : Nat) (hg : gok g dy) (hf : 0 ≤ f) (hn : 0 ≤ q 1345 ∧ q 1345 ≤ 4000) (hX : ∀ k : Nat, (k : Int) < q 1345 → A 44 k = X (f.toNat + k)) (hj : 0 ≤ j ∧ j ≤ q 1345) (hB : ∀ k, -128 ≤ X k ∧ X k ≤ 127) (hbb : s_byte X (f + q 1345) (f + j) = 40) (hK : ∀ x, s_str X (f + q 1345) 101 (f + j + 1) 0 = some x → ∀ u w, u + 7 * w + (u + x.1.toNat * w) ≤ K u w) : xMet Z d Y_M_string [xC 42] (hF (x_up q 1346 j) (x_up r 1344 (some 44)) (x_up A 43 tk) ++ dy) (orq q r A dy X f g (K) (D + 1) ((s_str X (f + q 1345) 101 (f + j + 1) 0).map (fun x => ([s_one 5 (f + j) x.1], x.2)))) := by
  refine xMet_of (by decide) (Nat.le_of_ble_eq_true rfl) (fun v h2 hq => orq_rok hq) ?_
  have hbi := s_byte_in X (f + q 1345) (f + j)
  refine x_aload_n (x_d C_M_string 0 rfl) rfl ?_
  refine x_dup (x_d C_M_string 1 rfl) rfl ?_
  refine x_getfield (v := xI (j)) (x_d C_M_string 2 rfl) f_M_7 rfl rfl ?_
  refine x_iconst (x_d C_M_string 3 rfl) ⟨by omega, by omega⟩ ?_
  refine x_iadd (x_d C_M_string 4 rfl) ⟨by omega, by omega⟩ ?_
  refine x_putfield (h1 := hF (x_up q 1346 (j + 1)) (x_up r 1344 (some 44)) (x_up A 43 tk) ++ dy) (x_d C_M_string 5 rfl) p_M_7 rfl rfl rfl trivial rfl ?_
  refine x_iconst (x_d C_M_string 6 rfl) ⟨by omega, by omega⟩ ?_
  refine x_istore_n (l1 := [(1, xI (0)), (0, xC 42)]) (x_d C_M_string 7 rfl) (by decide) rfl ?_
  refine x_locs [1, 0] rfl ?_
  refine xW_post ?_ (w_M_string_12 Z d q r A dy (by omega) X f hf hn hX hB 101 0 (j + 1) tk [] (by omega) (by omega) ⟨rfl, fun k hk => absurd hk (Nat.not_lt_zero _)⟩)
  rintro v h2 ⟨j9, tk9, g1, g2⟩
  rw [← Int.add_assoc] at g2
  rcases g2 with ⟨k1, k2, k3⟩ | ⟨K9, e, fb, k1, k2, k3, k4, k5⟩
  · rw [k1, k2, k3]
    exact orq_none g1
  · have hge := s_str_in X (f + q 1345) 101 (f + j + 1) 0 (K9, e) (by omega) k1
    have hge : f + j + 1 < e ∧ e ≤ (f + q 1345) ∧ 0 ≤ K9 ∧ K9 < 0 + 101 := hge
    rw [k1, k2, k4]
    refine orq_by g1 hg (hK _ k1) k3 (by omega) (fun g2 hg2 => ?_)
    refine ⟨⟨by show (0 : Int) ≤ 5; omega, by show (5 : Int) ≤ 9; omega⟩, fun z => absurd (show (5 : Int) = 3 from z) (by omega), fun z => absurd (show (5 : Int) = 8 from z) (by omega), fun z => absurd (show (5 : Int) = 4 ∨ (5 : Int) = 9 from z) (by omega), fun _ => ⟨⟨by show 0 ≤ f + j; omega, by show 0 ≤ K9; omega, by show K9 ≤ 100; omega, e, Or.inr ⟨hbb, k1⟩⟩, _, fb, rfl, hg2, fun k hk => ?_⟩, fun z => absurd (show (5 : Int) = 4 ∨ (5 : Int) = 5 ∨ (5 : Int) = 9 from Or.inr (Or.inl rfl)) z⟩
    rw [k5 k hk, Int.sub_zero]
    show (([] : List Int) ++ (s_sb X (f + q 1345) false K9.toNat (f + j + 1)).map x_by).getD k 0 = x_by ((s_sb X (f + q 1345) (decide (s_byte X (f + q 1345) (f + j) = 60)) K9.toNat (f + j + 1)).getD k 0)
    rw [List.nil_append, decide_eq_false (by omega), s_getD_mapby]
theorem w_M_digits_12 (Z : xZ) (d : Nat) (q : Nat → Int) (r : Nat → Option Nat) (A : Nat → Nat → Int) (dy : xH) (hd : 5 ≤ d) (X : Nat → Int) (f : Int) (hf : 0 ≤ f) (hn : 0 ≤ q 1345 ∧ q 1345 ≤ 4000) (hX : ∀ k : Nat, (k : Int) < q 1345 → A 44 k = X (f.toNat + k)) (hB : ∀ k, -128 ≤ X k ∧ X k ≤ 127) : ∀ (m : Nat) (n j : Int) (tk : Nat → Int) (bs : List Int), (n + m = 101 ∧ 0 ≤ n ∧ n ≤ 100) → 0 ≤ j ∧ j ≤ q 1345 → ((bs.length : Int) = n ∧ ∀ k : Nat, k < bs.length → tk k = bs.getD k 0) → xW Z d Y_M_digits 12 [(0, xC 42), (1, xI n)] [] (hF (x_up q 1346 j) (x_up r 1344 (some 44)) (x_up A 43 tk) ++ dy) (fun v h2 => ∃ j2 tk2, (0 ≤ j2 ∧ j2 ≤ q 1345) ∧ ((s_prs X (f + q 1345) m (f + j) n = none ∧ v = some xN ∧ h2 = hF (x_up q 1346 j2) (x_up r 1344 (some 44)) (x_up A 43 tk2) ++ dy) ∨ ∃ K e fb, s_prs X (f + q 1345) m (f + j) n = some (K, e) ∧ v = some (xC (52 + dy.length)) ∧ j2 = e - f ∧ h2 = hF (x_up q 1346 j2) (x_up r 1344 (some 44)) (x_up A 43 tk2) ++ (dy ++ [xB 12 [xI 5, xI 0, xI 0, xI 0, xC (52 + dy.length + 1), xN, xN], xA 1 (K : Int).toNat fb]) ∧ ∀ k : Nat, (k : Int) < K → fb k = (bs ++ (s_sb X (f + q 1345) true (K - n).toNat (f + j)).map x_by).getD k 0)) := by
  have hXi : ∀ u : Int, 0 ≤ u → u < q 1345 → A 44 u.toNat = X (f + u).toNat := fun u h1 h2 => by rw [hX u.toNat (by omega)]; congr 1; omega
  intro m
  induction m with
  | zero =>
    intro n j tk bs hk hj hb
    omega
  | succ m ih =>
    intro n j tk bs hk hj hb
    have x0 := hXi j
    have b0 := s_byte_in X (f + q 1345) (f + j)
    have B0 := hB (f + j).toNat
    have x1 := hXi (j + 1)
    have b1 := s_byte_in X (f + q 1345) (f + (j + 1))
    have B1 := hB (f + (j + 1)).toNat
    have hh0 : j < q 1345 → s_hex (s_byte X (f + q 1345) (f + j)) = s_hex (A 44 j.toNat) := fun h => by rw [show s_byte X (f + q 1345) (f + j) = A 44 j.toNat % 256 by omega]; exact s_hex_b (by omega)
    have hh1 : j + 1 < q 1345 → s_hex (s_byte X (f + q 1345) (f + (j + 1))) = s_hex (A 44 (j + 1).toNat) := fun h => by rw [show s_byte X (f + q 1345) (f + (j + 1)) = A 44 (j + 1).toNat % 256 by omega]; exact s_hex_b (by omega)
    have hpx : s_pair X (f + q 1345) (f + j) = if s_hex (s_byte X (f + q 1345) (f + j)) < 0 ∨ s_hex (s_byte X (f + q 1345) (f + (j + 1))) < 0 then -1 else 16 * s_hex (s_byte X (f + q 1345) (f + j)) + s_hex (s_byte X (f + q 1345) (f + (j + 1))) := by unfold s_pair; rw [Int.add_assoc]
    have hpi := s_pair_in X (f + q 1345) (f + j)
    have hxa := s_hex_in (A 44 j.toNat)
    have hxb := s_hex_in (A 44 (j + 1).toNat)
    have hpv : j + 1 < q 1345 → (0 ≤ s_hex (A 44 j.toNat) ∧ 0 ≤ s_hex (A 44 (j + 1).toNat)) → s_pair X (f + q 1345) (f + j) = 16 * s_hex (A 44 j.toNat) + s_hex (A 44 (j + 1).toNat) := fun h1 h2 => by rw [hpx, hh0 (by omega), hh1 h1, if_neg (by omega)]
    have hpn : j + 1 < q 1345 → (s_hex (A 44 j.toNat) < 0 ∨ s_hex (A 44 (j + 1).toNat) < 0) → s_pair X (f + q 1345) (f + j) = -1 := fun h1 h2 => by rw [hpx, hh0 (by omega), hh1 h1, if_pos (by omega)]
    refine x_aload_n (x_d C_M_digits 8 rfl) rfl ?_
    refine x_getfield (v := xI (j)) (x_d C_M_digits 9 rfl) f_M_7 rfl rfl ?_
    refine x_aload_n (x_d C_M_digits 10 rfl) rfl ?_
    refine x_getfield (v := xI (q 1345)) (x_d C_M_digits 11 rfl) f_M_11 rfl rfl ?_
    refine x_icmp_ge (tgt := 143) (x_d C_M_digits 12 rfl) rfl (fun c1 => ?_) (fun c1 => ?_)
    · refine x_aload_n (x_d C_M_digits 78 rfl) rfl ?_
      refine x_bipush (x_d C_M_digits 79 rfl) (by omega) ?_
      refine x_invokevirtual (st := []) (av := [xI (62)]) (x_d C_M_digits 80 rfl) k_M_132 m_M_takeByte v_M_takeByte cl_M rfl rfl (Nat.le_of_ble_eq_true rfl) (by omega) rfl (c_M_takeByte Z (d - 1) q r (x_up A 43 tk) dy X f j 62 hf hn hX (by omega) hB (by omega)) ?_
      rintro v_ _ ⟨z2, j2, rfl, rfl, hz2⟩
      have hz2 : (z2 = 1 ∧ s_byte X (f + q 1345) (f + j) = 62 ∧ j2 = j + 1 ∧ j < q 1345) ∨ (z2 = 0 ∧ ¬ s_byte X (f + q 1345) (f + j) = 62 ∧ j2 = j) := hz2
      refine x_if_eq (tgt := 160) (x_d C_M_digits 81 rfl) rfl (fun c3 => ?_) (fun c3 => ?_)
      · refine x_null (x_d C_M_digits 86 rfl) ?_
        refine x_areturn (x_d C_M_digits 87 rfl) ?_
        refine ⟨_, _, by omega, Or.inl ⟨?_, rfl, rfl⟩⟩
        rw [s_prs_s]
        first
        | (rw [if_neg (by omega), if_pos (by omega)]; done)
        | (rw [if_neg (by omega)]
           split
           · rfl
           · obtain rfl : m = 0 := by omega
             rfl)
      · refine x_aload_n (x_d C_M_digits 82 rfl) rfl ?_
        refine x_iload_n (x_d C_M_digits 83 rfl) rfl ?_
        refine x_invokevirtual (st := []) (av := [xI (n)]) (x_d C_M_digits 84 rfl) k_M_135 m_M_ofBytes v_M_ofBytes cl_M rfl rfl (Nat.le_of_ble_eq_true rfl) (by omega) rfl (c_M_ofBytes Z (d - 1) q r A dy (by omega) j2 tk n (by omega)) ?_
        rintro _ _ ⟨rfl, fb4, rfl, hfb4⟩
        refine x_goto (tgt := 161) (x_d C_M_digits 85 rfl) rfl ?_
        refine x_areturn (x_d C_M_digits 87 rfl) ?_
        refine ⟨_, _, by omega, Or.inr ⟨n, f + j + 1, fb4, ?_, rfl, by omega, rfl, fun k hk => ?_⟩⟩
        · rw [s_prs_s, if_pos (by omega)]
        · rw [hfb4 k hk, hb.2 k (by omega), Int.sub_self]
          show bs.getD k 0 = (bs ++ []).getD k 0
          rw [List.append_nil]
    · refine x_aload_n (x_d C_M_digits 13 rfl) rfl ?_
      refine x_getfield (v := xC 44) (x_d C_M_digits 14 rfl) f_M_14 rfl rfl ?_
      refine x_aload_n (x_d C_M_digits 15 rfl) rfl ?_
      refine x_getfield (v := xI (j)) (x_d C_M_digits 16 rfl) f_M_7 rfl rfl ?_
      refine x_baload (f := A 44) (x_d C_M_digits 17 rfl) rfl (by omega) (by omega) ?_
      refine x_bipush (x_d C_M_digits 18 rfl) (by omega) ?_
      refine x_icmp_eq (tgt := 143) (x_d C_M_digits 19 rfl) rfl (fun c5 => ?_) (fun c5 => ?_)
      · refine x_aload_n (x_d C_M_digits 78 rfl) rfl ?_
        refine x_bipush (x_d C_M_digits 79 rfl) (by omega) ?_
        refine x_invokevirtual (st := []) (av := [xI (62)]) (x_d C_M_digits 80 rfl) k_M_132 m_M_takeByte v_M_takeByte cl_M rfl rfl (Nat.le_of_ble_eq_true rfl) (by omega) rfl (c_M_takeByte Z (d - 1) q r (x_up A 43 tk) dy X f j 62 hf hn hX (by omega) hB (by omega)) ?_
        rintro v_ _ ⟨z6, j6, rfl, rfl, hz6⟩
        have hz6 : (z6 = 1 ∧ s_byte X (f + q 1345) (f + j) = 62 ∧ j6 = j + 1 ∧ j < q 1345) ∨ (z6 = 0 ∧ ¬ s_byte X (f + q 1345) (f + j) = 62 ∧ j6 = j) := hz6
        refine x_if_eq (tgt := 160) (x_d C_M_digits 81 rfl) rfl (fun c7 => ?_) (fun c7 => ?_)
        · refine x_null (x_d C_M_digits 86 rfl) ?_
          refine x_areturn (x_d C_M_digits 87 rfl) ?_
          refine ⟨_, _, by omega, Or.inl ⟨?_, rfl, rfl⟩⟩
          rw [s_prs_s]
          first
          | (rw [if_neg (by omega), if_pos (by omega)]; done)
          | (rw [if_neg (by omega)]
             split
             · rfl
             · obtain rfl : m = 0 := by omega
               rfl)
        · refine x_aload_n (x_d C_M_digits 82 rfl) rfl ?_
          refine x_iload_n (x_d C_M_digits 83 rfl) rfl ?_
          refine x_invokevirtual (st := []) (av := [xI (n)]) (x_d C_M_digits 84 rfl) k_M_135 m_M_ofBytes v_M_ofBytes cl_M rfl rfl (Nat.le_of_ble_eq_true rfl) (by omega) rfl (c_M_ofBytes Z (d - 1) q r A dy (by omega) j6 tk n (by omega)) ?_
          rintro _ _ ⟨rfl, fb8, rfl, hfb8⟩
          refine x_goto (tgt := 161) (x_d C_M_digits 85 rfl) rfl ?_
          refine x_areturn (x_d C_M_digits 87 rfl) ?_
          refine ⟨_, _, by omega, Or.inr ⟨n, f + j + 1, fb8, ?_, rfl, by omega, rfl, fun k hk => ?_⟩⟩
          · rw [s_prs_s, if_pos (by omega)]
          · rw [hfb8 k hk, hb.2 k (by omega), Int.sub_self]
            show bs.getD k 0 = (bs ++ []).getD k 0
            rw [List.append_nil]
      · refine x_aload_n (x_d C_M_digits 20 rfl) rfl ?_
        refine x_getfield (v := xI (j)) (x_d C_M_digits 21 rfl) f_M_7 rfl rfl ?_
        refine x_iconst (x_d C_M_digits 22 rfl) ⟨by omega, by omega⟩ ?_
        refine x_iadd (x_d C_M_digits 23 rfl) ⟨by omega, by omega⟩ ?_
        refine x_aload_n (x_d C_M_digits 24 rfl) rfl ?_
        refine x_getfield (v := xI (q 1345)) (x_d C_M_digits 25 rfl) f_M_11 rfl rfl ?_
        refine x_icmp_ge (tgt := 88) (x_d C_M_digits 26 rfl) rfl (fun c9 => ?_) (fun c9 => ?_)
        · refine x_null (x_d C_M_digits 46 rfl) ?_
          refine x_areturn (x_d C_M_digits 47 rfl) ?_
          refine ⟨_, _, by omega, Or.inl ⟨?_, rfl, rfl⟩⟩
          rw [s_prs_s]
          first
          | (rw [if_neg (by omega), if_pos (by omega)]; done)
          | (rw [if_neg (by omega)]
             split
             · rfl
             · obtain rfl : m = 0 := by omega
               rfl)
        · refine x_aload_n (x_d C_M_digits 27 rfl) rfl ?_
          refine x_getfield (v := xC 44) (x_d C_M_digits 28 rfl) f_M_14 rfl rfl ?_
          refine x_aload_n (x_d C_M_digits 29 rfl) rfl ?_
          refine x_getfield (v := xI (j)) (x_d C_M_digits 30 rfl) f_M_7 rfl rfl ?_
          refine x_baload (f := A 44) (x_d C_M_digits 31 rfl) rfl (by omega) (by omega) ?_
          refine x_invokestatic (st := []) (av := [xI (A 44 (j).toNat)]) (x_d C_M_digits 32 rfl) k_M_138 m_M_hexOf s_M_hexOf rfl (Nat.le_of_ble_eq_true rfl) (by omega) rfl (c_M_hexOf Z (d - 1) (hF (x_up q 1346 j) (x_up r 1344 (some 44)) (x_up A 43 tk) ++ dy) (by omega) (A 44 (j).toNat) (by omega)) ?_
          rintro v_ _ ⟨hv_, rfl⟩
          obtain rfl : v_ = some (xI (s_hex (A 44 (j).toNat))) := hv_
          refine x_if_lt (tgt := 88) (x_d C_M_digits 33 rfl) rfl (fun c10 => ?_) (fun c10 => ?_)
          · refine x_null (x_d C_M_digits 46 rfl) ?_
            refine x_areturn (x_d C_M_digits 47 rfl) ?_
            refine ⟨_, _, by omega, Or.inl ⟨?_, rfl, rfl⟩⟩
            rw [s_prs_s]
            first
            | (rw [if_neg (by omega), if_pos (by omega)]; done)
            | (rw [if_neg (by omega)]
               split
               · rfl
               · obtain rfl : m = 0 := by omega
                 rfl)
          · refine x_aload_n (x_d C_M_digits 34 rfl) rfl ?_
            refine x_getfield (v := xC 44) (x_d C_M_digits 35 rfl) f_M_14 rfl rfl ?_
            refine x_aload_n (x_d C_M_digits 36 rfl) rfl ?_
            refine x_getfield (v := xI (j)) (x_d C_M_digits 37 rfl) f_M_7 rfl rfl ?_
            refine x_iconst (x_d C_M_digits 38 rfl) ⟨by omega, by omega⟩ ?_
            refine x_iadd (x_d C_M_digits 39 rfl) ⟨by omega, by omega⟩ ?_
            refine x_baload (f := A 44) (x_d C_M_digits 40 rfl) rfl (by omega) (by omega) ?_
            refine x_invokestatic (st := []) (av := [xI (A 44 (j + 1).toNat)]) (x_d C_M_digits 41 rfl) k_M_138 m_M_hexOf s_M_hexOf rfl (Nat.le_of_ble_eq_true rfl) (by omega) rfl (c_M_hexOf Z (d - 1) (hF (x_up q 1346 j) (x_up r 1344 (some 44)) (x_up A 43 tk) ++ dy) (by omega) (A 44 (j + 1).toNat) (by omega)) ?_
            rintro v_ _ ⟨hv_, rfl⟩
            obtain rfl : v_ = some (xI (s_hex (A 44 (j + 1).toNat))) := hv_
            refine x_if_lt (tgt := 88) (x_d C_M_digits 42 rfl) rfl (fun c11 => ?_) (fun c11 => ?_)
            · refine x_null (x_d C_M_digits 46 rfl) ?_
              refine x_areturn (x_d C_M_digits 47 rfl) ?_
              refine ⟨_, _, by omega, Or.inl ⟨?_, rfl, rfl⟩⟩
              rw [s_prs_s]
              first
              | (rw [if_neg (by omega), if_pos (by omega)]; done)
              | (rw [if_neg (by omega)]
                 split
                 · rfl
                 · obtain rfl : m = 0 := by omega
                   rfl)
            · refine x_iload_n (x_d C_M_digits 43 rfl) rfl ?_
              refine x_bipush (x_d C_M_digits 44 rfl) (by omega) ?_
              refine x_icmp_ne (tgt := 90) (x_d C_M_digits 45 rfl) rfl (fun c12 => ?_) (fun c12 => ?_)
              · refine x_aload_n (x_d C_M_digits 48 rfl) rfl ?_
                refine x_getfield (v := xC 43) (x_d C_M_digits 49 rfl) f_M_122 rfl rfl ?_
                refine x_iload_n (x_d C_M_digits 50 rfl) rfl ?_
                refine x_bipush (x_d C_M_digits 51 rfl) (by omega) ?_
                refine x_aload_n (x_d C_M_digits 52 rfl) rfl ?_
                refine x_getfield (v := xC 44) (x_d C_M_digits 53 rfl) f_M_14 rfl rfl ?_
                refine x_aload_n (x_d C_M_digits 54 rfl) rfl ?_
                refine x_getfield (v := xI (j)) (x_d C_M_digits 55 rfl) f_M_7 rfl rfl ?_
                refine x_baload (f := A 44) (x_d C_M_digits 56 rfl) rfl (by omega) (by omega) ?_
                refine x_invokestatic (st := [xI (16), xI (n), xC 43]) (av := [xI (A 44 (j).toNat)]) (x_d C_M_digits 57 rfl) k_M_138 m_M_hexOf s_M_hexOf rfl (Nat.le_of_ble_eq_true rfl) (by omega) rfl (c_M_hexOf Z (d - 1) (hF (x_up q 1346 j) (x_up r 1344 (some 44)) (x_up A 43 tk) ++ dy) (by omega) (A 44 (j).toNat) (by omega)) ?_
                rintro v_ _ ⟨hv_, rfl⟩
                obtain rfl : v_ = some (xI (s_hex (A 44 (j).toNat))) := hv_
                refine x_imul (x_d C_M_digits 58 rfl) ⟨by omega, by omega⟩ ?_
                refine x_aload_n (x_d C_M_digits 59 rfl) rfl ?_
                refine x_getfield (v := xC 44) (x_d C_M_digits 60 rfl) f_M_14 rfl rfl ?_
                refine x_aload_n (x_d C_M_digits 61 rfl) rfl ?_
                refine x_getfield (v := xI (j)) (x_d C_M_digits 62 rfl) f_M_7 rfl rfl ?_
                refine x_iconst (x_d C_M_digits 63 rfl) ⟨by omega, by omega⟩ ?_
                refine x_iadd (x_d C_M_digits 64 rfl) ⟨by omega, by omega⟩ ?_
                refine x_baload (f := A 44) (x_d C_M_digits 65 rfl) rfl (by omega) (by omega) ?_
                refine x_invokestatic (st := [xI (16 * (s_hex (A 44 (j).toNat))), xI (n), xC 43]) (av := [xI (A 44 (j + 1).toNat)]) (x_d C_M_digits 66 rfl) k_M_138 m_M_hexOf s_M_hexOf rfl (Nat.le_of_ble_eq_true rfl) (by omega) rfl (c_M_hexOf Z (d - 1) (hF (x_up q 1346 j) (x_up r 1344 (some 44)) (x_up A 43 tk) ++ dy) (by omega) (A 44 (j + 1).toNat) (by omega)) ?_
                rintro v_ _ ⟨hv_, rfl⟩
                obtain rfl : v_ = some (xI (s_hex (A 44 (j + 1).toNat))) := hv_
                refine x_iadd (x_d C_M_digits 67 rfl) ⟨by omega, by omega⟩ ?_
                refine x_i2b (x_d C_M_digits 68 rfl) ?_
                refine x_bastore (h1 := hF (x_up q 1346 j) (x_up r 1344 (some 44)) (x_up A 43 (x_up tk (n).toNat (x_by ((16 * (s_hex (A 44 (j).toNat))) + (s_hex (A 44 (j + 1).toNat)))))) ++ dy) (x_d C_M_digits 69 rfl) rfl (by omega) (by omega) (x_by_in _) rfl ?_
                refine x_iinc (l1 := [(1, xI (n + 1)), (0, xC 42)]) (x_d C_M_digits 70 rfl) rfl ⟨by omega, by omega⟩ (by decide) rfl ?_
                refine x_aload_n (x_d C_M_digits 71 rfl) rfl ?_
                refine x_dup (x_d C_M_digits 72 rfl) rfl ?_
                refine x_getfield (v := xI (j)) (x_d C_M_digits 73 rfl) f_M_7 rfl rfl ?_
                refine x_iconst (x_d C_M_digits 74 rfl) ⟨by omega, by omega⟩ ?_
                refine x_iadd (x_d C_M_digits 75 rfl) ⟨by omega, by omega⟩ ?_
                refine x_putfield (h1 := hF (x_up q 1346 (j + 2)) (x_up r 1344 (some 44)) (x_up A 43 (x_up tk (n).toNat (x_by ((16 * (s_hex (A 44 (j).toNat))) + (s_hex (A 44 (j + 1).toNat)))))) ++ dy) (x_d C_M_digits 76 rfl) p_M_7 rfl rfl rfl trivial rfl ?_
                refine x_goto (tgt := 12) (x_d C_M_digits 77 rfl) rfl ?_
                refine x_locs [1, 0] rfl ?_
                have hval : x_by ((16 * (s_hex (A 44 (j).toNat))) + (s_hex (A 44 (j + 1).toNat))) = x_by (s_pair X (f + q 1345) (f + j)) := by rw [hpv (by omega) (by omega)]
                have hstep : j + 2 = j + 2 := by omega
                have e1 : s_prs X (f + q 1345) (m + 1) (f + j) n = s_prs X (f + q 1345) m (f + (j + 2)) (n + 1) := by rw [s_prs_s, if_neg (by omega), if_neg (by omega), Int.add_assoc]
                have hlt : j + 2 ≤ q 1345 := by omega
                rw [hstep, hval]
                refine xW_post ?_ (ih (n + 1) (j + 2) (x_up tk n.toNat (x_by (s_pair X (f + q 1345) (f + j)))) (bs ++ [x_by (s_pair X (f + q 1345) (f + j))]) (by omega) (by omega) ⟨by rw [List.length_append]; show ((bs.length + 1 : Nat) : Int) = n + 1; omega, fun k hk => ?_⟩)
                · rintro v h2 ⟨j9, tk9, g1, g2⟩
                  refine ⟨j9, tk9, g1, ?_⟩
                  rw [e1]
                  rcases g2 with g2 | ⟨K, e, fb, k1, k2, k3, k4, k5⟩
                  · exact Or.inl g2
                  · refine Or.inr ⟨K, e, fb, k1, k2, k3, k4, fun k hk => ?_⟩
                    rw [k5 k hk]
                    have hge := s_prs_ge _ _ _ _ _ _ k1
                    have hge : n + 1 ≤ K := hge
                    rw [show (K - n).toNat = (K - (n + 1)).toNat + 1 by omega]
                    show _ = (bs ++ ((if true = true then s_pair X (f + q 1345) (f + j) else s_sg X (f + q 1345) (f + j) (s_ss X (f + q 1345) (f + j))) :: s_sb X (f + q 1345) true (K - (n + 1)).toNat (f + j + (if true = true then 2 else s_ss X (f + q 1345) (f + j)))).map x_by).getD k 0
                    rw [if_pos rfl, if_pos rfl, List.map_cons, List.append_assoc, Int.add_assoc]
                    rfl
                · rw [List.length_append] at hk
                  have hk : k < bs.length + 1 := hk
                  rw [s_getD_app]
                  split
                  · next c9 => rw [x_up_n _ _ (by omega)]; exact hb.2 k c9
                  · next c9 => rw [show k = n.toNat by omega, x_up_s, show n.toNat - bs.length = 0 by omega]; rfl
              · refine x_null (x_d C_M_digits 46 rfl) ?_
                refine x_areturn (x_d C_M_digits 47 rfl) ?_
                refine ⟨_, _, by omega, Or.inl ⟨?_, rfl, rfl⟩⟩
                rw [s_prs_s]
                first
                | (rw [if_neg (by omega), if_pos (by omega)]; done)
                | (rw [if_neg (by omega)]
                   split
                   · rfl
                   · obtain rfl : m = 0 := by omega
                     rfl)
theorem c_M_digits (Z : xZ) (d : Nat) (q : Nat → Int) (r : Nat → Option Nat) (A : Nat → Nat → Int) (dy : xH) (hd : 6 ≤ d) (X : Nat → Int) (f j : Int) (tk : Nat → Int) (K : Nat → Nat → Nat) (g : Nat → Option xE) (D : Nat) (hg : gok g dy) (hf : 0 ≤ f) (hn : 0 ≤ q 1345 ∧ q 1345 ≤ 4000) (hX : ∀ k : Nat, (k : Int) < q 1345 → A 44 k = X (f.toNat + k)) (hj : 0 ≤ j ∧ j ≤ q 1345) (hB : ∀ k, -128 ≤ X k ∧ X k ≤ 127) (hbb : s_byte X (f + q 1345) (f + j) = 60) (hK : ∀ x, s_prs X (f + q 1345) 101 (f + j + 1) 0 = some x → ∀ u w, u + 7 * w + (u + x.1.toNat * w) ≤ K u w) : xMet Z d Y_M_digits [xC 42] (hF (x_up q 1346 j) (x_up r 1344 (some 44)) (x_up A 43 tk) ++ dy) (orq q r A dy X f g (K) (D + 1) ((s_prs X (f + q 1345) 101 (f + j + 1) 0).map (fun x => ([s_one 5 (f + j) x.1], x.2)))) := by
  refine xMet_of (by decide) (Nat.le_of_ble_eq_true rfl) (fun v h2 hq => orq_rok hq) ?_
  have hbi := s_byte_in X (f + q 1345) (f + j)
  refine x_aload_n (x_d C_M_digits 0 rfl) rfl ?_
  refine x_dup (x_d C_M_digits 1 rfl) rfl ?_
  refine x_getfield (v := xI (j)) (x_d C_M_digits 2 rfl) f_M_7 rfl rfl ?_
  refine x_iconst (x_d C_M_digits 3 rfl) ⟨by omega, by omega⟩ ?_
  refine x_iadd (x_d C_M_digits 4 rfl) ⟨by omega, by omega⟩ ?_
  refine x_putfield (h1 := hF (x_up q 1346 (j + 1)) (x_up r 1344 (some 44)) (x_up A 43 tk) ++ dy) (x_d C_M_digits 5 rfl) p_M_7 rfl rfl rfl trivial rfl ?_
  refine x_iconst (x_d C_M_digits 6 rfl) ⟨by omega, by omega⟩ ?_
  refine x_istore_n (l1 := [(1, xI (0)), (0, xC 42)]) (x_d C_M_digits 7 rfl) (by decide) rfl ?_
  refine x_locs [1, 0] rfl ?_
  refine xW_post ?_ (w_M_digits_12 Z d q r A dy (by omega) X f hf hn hX hB 101 0 (j + 1) tk [] (by omega) (by omega) ⟨rfl, fun k hk => absurd hk (Nat.not_lt_zero _)⟩)
  rintro v h2 ⟨j9, tk9, g1, g2⟩
  rw [← Int.add_assoc] at g2
  rcases g2 with ⟨k1, k2, k3⟩ | ⟨K9, e, fb, k1, k2, k3, k4, k5⟩
  · rw [k1, k2, k3]
    exact orq_none g1
  · have hge := s_prs_in X (f + q 1345) 101 (f + j + 1) 0 (K9, e) (by omega) k1
    have hge : f + j + 1 < e ∧ e ≤ (f + q 1345) ∧ 0 ≤ K9 ∧ K9 < 0 + 101 := hge
    rw [k1, k2, k4]
    refine orq_by g1 hg (hK _ k1) k3 (by omega) (fun g2 hg2 => ?_)
    refine ⟨⟨by show (0 : Int) ≤ 5; omega, by show (5 : Int) ≤ 9; omega⟩, fun z => absurd (show (5 : Int) = 3 from z) (by omega), fun z => absurd (show (5 : Int) = 8 from z) (by omega), fun z => absurd (show (5 : Int) = 4 ∨ (5 : Int) = 9 from z) (by omega), fun _ => ⟨⟨by show 0 ≤ f + j; omega, by show 0 ≤ K9; omega, by show K9 ≤ 100; omega, e, Or.inl ⟨hbb, k1⟩⟩, _, fb, rfl, hg2, fun k hk => ?_⟩, fun z => absurd (show (5 : Int) = 4 ∨ (5 : Int) = 5 ∨ (5 : Int) = 9 from Or.inr (Or.inl rfl)) z⟩
    rw [k5 k hk, Int.sub_zero]
    show (([] : List Int) ++ (s_sb X (f + q 1345) true K9.toNat (f + j + 1)).map x_by).getD k 0 = x_by ((s_sb X (f + q 1345) (decide (s_byte X (f + q 1345) (f + j) = 60)) K9.toNat (f + j + 1)).getD k 0)
    rw [List.nil_append, decide_eq_true hbb, s_getD_mapby]
