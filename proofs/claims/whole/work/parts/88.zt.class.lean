/-! the class: bytes -/
theorem c_PF_bytes (Z : xZ) (d : Nat) (q : Nat → Int) (r : Nat → Option Nat) (A : Nat → Nat → Int) (dy : xH) (hd : 7 ≤ d) (k : Int) (hT : 0 ≤ q 34 ∧ q 34 ≤ q 35 ∧ q 35 ≤ 10248) (hR : s_okR A) (hsp : ∀ j, 0 ≤ A 8 j ∧ A 8 j ≤ 12900) (hp : 0 ≤ q 11 ∧ q 11 < 12900 ∧ s_bh (A 8) (q 11) ≤ 12900) (E : Int) (g : Nat → Option xE) (c : Nat) (ht : Tr (A 2) E g A 9 (q 11) c) (hE : E ≤ q 35) : xMet Z d Y_PF_bytes [xC 0, xI k] (hF q (x_up (x_up (x_up (x_up r 7 (some 26)) 8 (some 32)) 9 (some 38)) 10 (some 40)) A ++ dy) (fun v h2 => (s_by (A 2) (q 35) A (q 11) k = none ∧ v = some (xI (-2)) ∧ h2 = hF q (x_up (x_up (x_up (x_up r 7 (some 26)) 8 (some 32)) 9 (some 38)) 10 (some 40)) A ++ dy) ∨ ∃ bs f2, s_by (A 2) (q 35) A (q 11) k = some bs ∧ v = some (xI (bs.length : Int)) ∧ h2 = hF (x_up (x_up (x_up q 1217 (bs.length : Int)) 1218 0) 1219 6000) (x_up (x_up (x_up (x_up r 7 (some 26)) 8 (some 32)) 9 (some 38)) 10 (some 40)) (x_up A 39 f2) ++ dy ∧ ∀ j, j < bs.length → f2 j = bs.getD j 0) := by
  refine xMet_of (by decide) (Nat.le_of_ble_eq_true rfl) (fun v h2 hq => by obtain ⟨_, e, _⟩ | ⟨_, _, _, e, _⟩ := hq <;> rw [e] <;> trivial) ?_
  obtain ⟨h0, x, y, m, bt, it, nm, hc, hL, hm, h60, hch, hK⟩ := Tr_o ht
  have h49 : A 5 (q 11).toNat = 4 ∨ A 5 (q 11).toNat = 9 → 0 ≤ A 6 (q 11).toNat ∧ 0 ≤ A 7 (q 11).toNat ∧ A 7 (q 11).toNat ≤ 4000 ∧ A 6 (q 11).toNat + A 7 (q 11).toNat ≤ E := fun z => by
    obtain ⟨a1, a2, a3, a4, -⟩ := hL.2.2.2.1 z
    exact ⟨a1, a2, a3, a4⟩
  have h5 : A 5 (q 11).toNat = 5 → 0 ≤ A 6 (q 11).toNat ∧ A 6 (q 11).toNat < q 35 ∧ 0 ≤ A 7 (q 11).toNat ∧ A 7 (q 11).toNat ≤ 100 := fun z => by
    obtain ⟨⟨a1, a2, a3, e9, a4⟩, -⟩ := hL.2.2.2.2.1 z
    have hb := s_byte_in (A 2) E (A 6 (q 11).toNat)
    exact ⟨a1, by clear hL hK; rcases a4 with ⟨z1, _⟩ | ⟨z1, _⟩ <;> omega, a2, a3⟩
  obtain ⟨p2, hp2⟩ : ∃ p2, p2 = s_nth (s_in (A 8) (q 11)) k := ⟨_, rfl⟩
  have hnt : p2 < 0 ∨ (0 ≤ p2 ∧ p2 ∈ s_in (A 8) (q 11) ∧ p2 < 12900) := by
    rw [hp2, s_nth_eq]
    split
    · next z =>
      have hmem := s_getD_mem (L := s_in (A 8) (q 11)) (k := k.toNat) (by omega)
      have := s_in_mem hp.1 hmem
      exact Or.inr ⟨by omega, hmem, by omega⟩
    · exact Or.inl (by omega)
  have hnm : 0 ≤ p2 → ¬ A 5 (q 11).toNat = 6 → 0 ≤ A 9 p2.toNat ∧ A 9 p2.toNat < s_wd (A 2) (q 35) (A 9 p2.toNat) ∧ s_wd (A 2) (q 35) (A 9 p2.toNat) ≤ A 9 p2.toNat + 20 ∧ s_wd (A 2) (q 35) (A 9 p2.toNat) ≤ E := fun z z6 => by
    have hmem : p2 ∈ s_in (A 8) (q 11) := by rcases hnt with z2 | z2; omega; exact z2.2.1
    have hk79 : A 5 (q 11).toNat = 7 ∨ A 5 (q 11).toNat = 9 := by
      rcases (show (A 5 (q 11).toNat = 7 ∨ A 5 (q 11).toNat = 9) ∨ ¬ (A 5 (q 11).toNat = 6 ∨ A 5 (q 11).toNat = 7 ∨ A 5 (q 11).toNat = 9) by clear hL hK hnt h49 h5; omega) with z7 | z7
      · exact z7
      · exfalso
        obtain ⟨L9, l1, l2, l3, l4, l5, l6, l7, l8⟩ := hK
        have e9 : s_in (A 8) (q 11) = L9 := by unfold s_in; exact s_ch_K l1
        rw [e9, (l8 z7).1] at hmem
        cases hmem
    obtain ⟨ci, cn, cap, cap2, fi, fn, nb, nl, nf, b1, b2, b3, b4, b5, b6, b7, b8, b9, b10, b11⟩ := tK_names hK hk79
    obtain ⟨j, hj, hje⟩ : ∃ j, j < (s_in (A 8) (q 11)).length ∧ (s_in (A 8) (q 11)).getD j 0 = p2 := by
      obtain ⟨j, hj, e⟩ := List.getElem_of_mem hmem
      exact ⟨j, hj, by rw [List.getD_eq_getElem?_getD, List.getElem?_eq_getElem hj]; exact e⟩
    have g3 := (b11 j hj).2.2
    rw [hje] at g3
    rw [nmw_wd g3 hE]
    obtain ⟨g4, g5, g6, g7, -⟩ := g3
    exact ⟨g4, by omega, by omega, by omega⟩
  clear hK hch hL
  have hby : s_by (A 2) (q 35) A (q 11) k = if A 5 (q 11).toNat = 5 then some ((s_sb (A 2) (q 35) (decide (s_byte (A 2) (q 35) (A 6 (q 11).toNat) = 60)) (A 7 (q 11).toNat).toNat (A 6 (q 11).toNat + 1)).map x_by) else if A 5 (q 11).toNat = 4 ∨ (A 5 (q 11).toNat = 9 ∧ k < 0) then some (s_sl (A 2) (A 6 (q 11).toNat).toNat (A 7 (q 11).toNat).toNat) else if A 5 (q 11).toNat = 6 ∨ p2 < 0 then none else some (s_sl (A 2) (A 9 p2.toNat).toNat (s_wd (A 2) (q 35) (A 9 p2.toNat) - A 9 p2.toNat).toNat) := by rw [hp2]; rfl
  refine x_aload_n (x_d C_PF_bytes 0 rfl) rfl ?_
  refine x_getfield (v := xI (q 11)) (x_d C_PF_bytes 1 rfl) f_PF_88 rfl rfl ?_
  refine x_if_ge (tgt := 10) (x_d C_PF_bytes 2 rfl) rfl (fun _ => ?_) (fun q => absurd q (by omega))
  refine x_aload_n (x_d C_PF_bytes 5 rfl) rfl ?_
  refine x_getfield (v := xC 4) (x_d C_PF_bytes 6 rfl) f_PF_21 rfl rfl ?_
  refine x_getfield (v := xC 5) (x_d C_PF_bytes 7 rfl) f_PF_157 rfl rfl ?_
  refine x_aload_n (x_d C_PF_bytes 8 rfl) rfl ?_
  refine x_getfield (v := xI (q 11)) (x_d C_PF_bytes 9 rfl) f_PF_88 rfl rfl ?_
  refine x_iaload (f := A 5) (x_d C_PF_bytes 10 rfl) rfl (by omega) (by omega) ?_
  refine x_istore_n (l1 := [(2, xI (A 5 (q 11).toNat)), (0, xC 0), (1, xI (k))]) (x_d C_PF_bytes 11 rfl) (by decide) rfl ?_
  refine x_iload_n (x_d C_PF_bytes 12 rfl) rfl ?_
  refine x_iconst (x_d C_PF_bytes 13 rfl) ⟨by omega, by omega⟩ ?_
  refine x_icmp_ne (tgt := 82) (x_d C_PF_bytes 14 rfl) rfl (fun c2 => ?_) (fun c2 => ?_)
  · refine x_iload_n (x_d C_PF_bytes 41 rfl) rfl ?_
    refine x_iconst (x_d C_PF_bytes 42 rfl) ⟨by omega, by omega⟩ ?_
    refine x_icmp_eq (tgt := 97) (x_d C_PF_bytes 43 rfl) rfl (fun c3 => ?_) (fun c3 => ?_)
    · refine x_aload_n (x_d C_PF_bytes 49 rfl) rfl ?_
      refine x_aload_n (x_d C_PF_bytes 50 rfl) rfl ?_
      refine x_getfield (v := xC 4) (x_d C_PF_bytes 51 rfl) f_PF_21 rfl rfl ?_
      refine x_getfield (v := xC 6) (x_d C_PF_bytes 52 rfl) f_PF_169 rfl rfl ?_
      refine x_aload_n (x_d C_PF_bytes 53 rfl) rfl ?_
      refine x_getfield (v := xI (q 11)) (x_d C_PF_bytes 54 rfl) f_PF_88 rfl rfl ?_
      refine x_iaload (f := A 6) (x_d C_PF_bytes 55 rfl) rfl (by omega) (by omega) ?_
      refine x_aload_n (x_d C_PF_bytes 56 rfl) rfl ?_
      refine x_getfield (v := xC 4) (x_d C_PF_bytes 57 rfl) f_PF_21 rfl rfl ?_
      refine x_getfield (v := xC 7) (x_d C_PF_bytes 58 rfl) f_PF_172 rfl rfl ?_
      refine x_aload_n (x_d C_PF_bytes 59 rfl) rfl ?_
      refine x_getfield (v := xI (q 11)) (x_d C_PF_bytes 60 rfl) f_PF_88 rfl rfl ?_
      refine x_iaload (f := A 7) (x_d C_PF_bytes 61 rfl) rfl (by omega) (by omega) ?_
      refine x_invokevirtual (st := []) (av := [xI (A 6 (q 11).toNat), xI (A 7 (q 11).toNat)]) (x_d C_PF_bytes 62 rfl) k_PF_182 m_PF_outBecomes v_PF_outBecomes cl_PF rfl rfl (Nat.le_of_ble_eq_true rfl) (by omega) rfl (c_PF_outBecomes Z (d - 1) q r A dy (by omega) (A 6 (q 11).toNat) (A 7 (q 11).toNat) (by first | (have := h49 (by omega); omega) | (have := hnm (by omega) (by omega); omega))) ?_
      rintro v_ _ ⟨hv_, f2, rfl, hf2⟩
      obtain rfl : v_ = some (xI (A 7 (q 11).toNat)) := hv_
      refine x_ireturn (x_d C_PF_bytes 63 rfl) ?_
      have h49 := h49 (by omega)
      rw [if_neg (show ¬ A 5 (q 11).toNat = 5 by omega), if_pos (show A 5 (q 11).toNat = 4 ∨ (A 5 (q 11).toNat = 9 ∧ k < 0) by omega)] at hby
      refine Or.inr ⟨_, f2, hby, by rw [s_sl_len]; congr 2; omega, by rw [s_sl_len, show (((A 7 (q 11).toNat).toNat : Nat) : Int) = A 7 (q 11).toNat by omega], fun j hj => ?_⟩
      rw [s_sl_len] at hj
      rw [s_sl_get (A 2) _ _ j hj]
      exact hf2 j (by omega)
    · refine x_iload_n (x_d C_PF_bytes 44 rfl) rfl ?_
      refine x_bipush (x_d C_PF_bytes 45 rfl) (by omega) ?_
      refine x_icmp_ne (tgt := 126) (x_d C_PF_bytes 46 rfl) rfl (fun c4 => ?_) (fun c4 => ?_)
      · refine x_iload_n (x_d C_PF_bytes 64 rfl) rfl ?_
        refine x_bipush (x_d C_PF_bytes 65 rfl) (by omega) ?_
        refine x_icmp_ne (tgt := 136) (x_d C_PF_bytes 66 rfl) rfl (fun c5 => ?_) (fun c5 => ?_)
        · refine x_aload_n (x_d C_PF_bytes 69 rfl) rfl ?_
          refine x_getfield (v := xC 4) (x_d C_PF_bytes 70 rfl) f_PF_21 rfl rfl ?_
          refine x_aload_n (x_d C_PF_bytes 71 rfl) rfl ?_
          refine x_getfield (v := xI (q 11)) (x_d C_PF_bytes 72 rfl) f_PF_88 rfl rfl ?_
          refine x_iload_n (x_d C_PF_bytes 73 rfl) rfl ?_
          refine x_invokevirtual (st := []) (av := [xI (q 11), xI (k)]) (x_d C_PF_bytes 74 rfl) k_PF_147 m_P_itemAt v_P_itemAt cl_P rfl rfl (Nat.le_of_ble_eq_true rfl) (by omega) rfl (c_P_itemAt Z (d - 1) q (x_up (x_up (x_up (x_up r 7 (some 26)) 8 (some 32)) 9 (some 38)) 10 (some 40)) A dy (by omega) (q 11) k hsp hp) ?_
          rintro v_ _ ⟨hv_, rfl⟩
          obtain rfl : v_ = some (xI p2) := by rw [hp2]; exact hv_
          refine x_istore_n (l1 := [(3, xI (p2)), (2, xI (A 5 (q 11).toNat)), (0, xC 0), (1, xI (k))]) (x_d C_PF_bytes 75 rfl) (by decide) rfl ?_
          refine x_iload_n (x_d C_PF_bytes 76 rfl) rfl ?_
          refine x_if_ge (tgt := 156) (x_d C_PF_bytes 77 rfl) rfl (fun c6 => ?_) (fun c6 => ?_)
          · have hnm1 := hnm (by omega) (by omega)
            refine x_aload_n (x_d C_PF_bytes 80 rfl) rfl ?_
            refine x_getfield (v := xC 4) (x_d C_PF_bytes 81 rfl) f_PF_21 rfl rfl ?_
            refine x_getfield (v := xC 9) (x_d C_PF_bytes 82 rfl) f_PF_185 rfl rfl ?_
            refine x_iload_n (x_d C_PF_bytes 83 rfl) rfl ?_
            refine x_iaload (f := A 9) (x_d C_PF_bytes 84 rfl) rfl (by omega) (by omega) ?_
            refine x_istore (l1 := [(4, xI (A 9 (p2).toNat)), (3, xI (p2)), (2, xI (A 5 (q 11).toNat)), (0, xC 0), (1, xI (k))]) (x_d C_PF_bytes 85 rfl) (by decide) rfl ?_
            refine x_aload_n (x_d C_PF_bytes 86 rfl) rfl ?_
            refine x_iload (x_d C_PF_bytes 87 rfl) rfl ?_
            refine x_aload_n (x_d C_PF_bytes 88 rfl) rfl ?_
            refine x_getfield (v := xC 1) (x_d C_PF_bytes 89 rfl) f_PF_12 rfl rfl ?_
            refine x_iload (x_d C_PF_bytes 90 rfl) rfl ?_
            refine x_invokevirtual (st := [xI (A 9 (p2).toNat), xC 0]) (av := [xI (A 9 (p2).toNat)]) (x_d C_PF_bytes 91 rfl) k_PF_188 m_T_afterWord v_T_afterWord cl_T rfl rfl (Nat.le_of_ble_eq_true rfl) (by omega) rfl (c_T_afterWord Z (d - 1) q (x_up (x_up (x_up (x_up r 7 (some 26)) 8 (some 32)) 9 (some 38)) 10 (some 40)) A dy (A 9 (p2).toNat) hT hR) ?_
            rintro v_ _ ⟨hv_, rfl⟩
            obtain rfl : v_ = some (xI (s_wd (A 2) (q 35) (A 9 (p2).toNat))) := hv_
            refine x_iload (x_d C_PF_bytes 92 rfl) rfl ?_
            refine x_isub (x_d C_PF_bytes 93 rfl) ⟨by omega, by omega⟩ ?_
            refine x_invokevirtual (st := []) (av := [xI (A 9 (p2).toNat), xI ((s_wd (A 2) (q 35) (A 9 (p2).toNat)) - (A 9 (p2).toNat))]) (x_d C_PF_bytes 94 rfl) k_PF_182 m_PF_outBecomes v_PF_outBecomes cl_PF rfl rfl (Nat.le_of_ble_eq_true rfl) (by omega) rfl (c_PF_outBecomes Z (d - 1) q r A dy (by omega) (A 9 (p2).toNat) ((s_wd (A 2) (q 35) (A 9 (p2).toNat)) - (A 9 (p2).toNat)) (by first | (have := h49 (by omega); omega) | (have := hnm (by omega) (by omega); omega))) ?_
            rintro v_ _ ⟨hv_, f2, rfl, hf2⟩
            obtain rfl : v_ = some (xI ((s_wd (A 2) (q 35) (A 9 (p2).toNat)) - (A 9 (p2).toNat))) := hv_
            refine x_ireturn (x_d C_PF_bytes 95 rfl) ?_
            have hnm := hnm (by omega) (by omega)
            rw [if_neg (show ¬ A 5 (q 11).toNat = 5 by omega), if_neg (show ¬ (A 5 (q 11).toNat = 4 ∨ (A 5 (q 11).toNat = 9 ∧ k < 0)) by omega), if_neg (show ¬ (A 5 (q 11).toNat = 6 ∨ p2 < 0) by omega)] at hby
            refine Or.inr ⟨_, f2, hby, by rw [s_sl_len]; congr 2; omega, by rw [s_sl_len, show ((((s_wd (A 2) (q 35) (A 9 (p2).toNat)) - (A 9 (p2).toNat)).toNat : Nat) : Int) = (s_wd (A 2) (q 35) (A 9 (p2).toNat)) - (A 9 (p2).toNat) by omega], fun j hj => ?_⟩
            rw [s_sl_len] at hj
            rw [s_sl_get (A 2) _ _ j hj]
            exact hf2 j (by omega)
          · refine x_bipush (x_d C_PF_bytes 78 rfl) (by omega) ?_
            refine x_ireturn (x_d C_PF_bytes 79 rfl) ?_
            refine Or.inl ⟨?_, rfl, rfl⟩
            rw [hby, if_neg (show ¬ A 5 (q 11).toNat = 5 by omega), if_neg (show ¬ (A 5 (q 11).toNat = 4 ∨ (A 5 (q 11).toNat = 9 ∧ k < 0)) by omega), if_pos (show A 5 (q 11).toNat = 6 ∨ p2 < 0 by omega)]
        · refine x_iconst (x_d C_PF_bytes 67 rfl) ⟨by omega, by omega⟩ ?_
          refine x_goto (tgt := 148) (x_d C_PF_bytes 68 rfl) rfl ?_
          refine x_istore_n (l1 := [(3, xI (-1)), (2, xI (A 5 (q 11).toNat)), (0, xC 0), (1, xI (k))]) (x_d C_PF_bytes 75 rfl) (by decide) rfl ?_
          refine x_iload_n (x_d C_PF_bytes 76 rfl) rfl ?_
          refine x_if_ge (tgt := 156) (x_d C_PF_bytes 77 rfl) rfl (fun q => absurd q (by omega)) (fun _ => ?_)
          refine x_bipush (x_d C_PF_bytes 78 rfl) (by omega) ?_
          refine x_ireturn (x_d C_PF_bytes 79 rfl) ?_
          refine Or.inl ⟨?_, rfl, rfl⟩
          rw [hby, if_neg (show ¬ A 5 (q 11).toNat = 5 by omega), if_neg (show ¬ (A 5 (q 11).toNat = 4 ∨ (A 5 (q 11).toNat = 9 ∧ k < 0)) by omega), if_pos (show A 5 (q 11).toNat = 6 ∨ p2 < 0 by omega)]
      · refine x_iload_n (x_d C_PF_bytes 47 rfl) rfl ?_
        refine x_if_ge (tgt := 126) (x_d C_PF_bytes 48 rfl) rfl (fun c8 => ?_) (fun c8 => ?_)
        · refine x_iload_n (x_d C_PF_bytes 64 rfl) rfl ?_
          refine x_bipush (x_d C_PF_bytes 65 rfl) (by omega) ?_
          refine x_icmp_ne (tgt := 136) (x_d C_PF_bytes 66 rfl) rfl (fun c9 => ?_) (fun c9 => ?_)
          · refine x_aload_n (x_d C_PF_bytes 69 rfl) rfl ?_
            refine x_getfield (v := xC 4) (x_d C_PF_bytes 70 rfl) f_PF_21 rfl rfl ?_
            refine x_aload_n (x_d C_PF_bytes 71 rfl) rfl ?_
            refine x_getfield (v := xI (q 11)) (x_d C_PF_bytes 72 rfl) f_PF_88 rfl rfl ?_
            refine x_iload_n (x_d C_PF_bytes 73 rfl) rfl ?_
            refine x_invokevirtual (st := []) (av := [xI (q 11), xI (k)]) (x_d C_PF_bytes 74 rfl) k_PF_147 m_P_itemAt v_P_itemAt cl_P rfl rfl (Nat.le_of_ble_eq_true rfl) (by omega) rfl (c_P_itemAt Z (d - 1) q (x_up (x_up (x_up (x_up r 7 (some 26)) 8 (some 32)) 9 (some 38)) 10 (some 40)) A dy (by omega) (q 11) k hsp hp) ?_
            rintro v_ _ ⟨hv_, rfl⟩
            obtain rfl : v_ = some (xI p2) := by rw [hp2]; exact hv_
            refine x_istore_n (l1 := [(3, xI (p2)), (2, xI (A 5 (q 11).toNat)), (0, xC 0), (1, xI (k))]) (x_d C_PF_bytes 75 rfl) (by decide) rfl ?_
            refine x_iload_n (x_d C_PF_bytes 76 rfl) rfl ?_
            refine x_if_ge (tgt := 156) (x_d C_PF_bytes 77 rfl) rfl (fun c10 => ?_) (fun c10 => ?_)
            · have hnm1 := hnm (by omega) (by omega)
              refine x_aload_n (x_d C_PF_bytes 80 rfl) rfl ?_
              refine x_getfield (v := xC 4) (x_d C_PF_bytes 81 rfl) f_PF_21 rfl rfl ?_
              refine x_getfield (v := xC 9) (x_d C_PF_bytes 82 rfl) f_PF_185 rfl rfl ?_
              refine x_iload_n (x_d C_PF_bytes 83 rfl) rfl ?_
              refine x_iaload (f := A 9) (x_d C_PF_bytes 84 rfl) rfl (by omega) (by omega) ?_
              refine x_istore (l1 := [(4, xI (A 9 (p2).toNat)), (3, xI (p2)), (2, xI (A 5 (q 11).toNat)), (0, xC 0), (1, xI (k))]) (x_d C_PF_bytes 85 rfl) (by decide) rfl ?_
              refine x_aload_n (x_d C_PF_bytes 86 rfl) rfl ?_
              refine x_iload (x_d C_PF_bytes 87 rfl) rfl ?_
              refine x_aload_n (x_d C_PF_bytes 88 rfl) rfl ?_
              refine x_getfield (v := xC 1) (x_d C_PF_bytes 89 rfl) f_PF_12 rfl rfl ?_
              refine x_iload (x_d C_PF_bytes 90 rfl) rfl ?_
              refine x_invokevirtual (st := [xI (A 9 (p2).toNat), xC 0]) (av := [xI (A 9 (p2).toNat)]) (x_d C_PF_bytes 91 rfl) k_PF_188 m_T_afterWord v_T_afterWord cl_T rfl rfl (Nat.le_of_ble_eq_true rfl) (by omega) rfl (c_T_afterWord Z (d - 1) q (x_up (x_up (x_up (x_up r 7 (some 26)) 8 (some 32)) 9 (some 38)) 10 (some 40)) A dy (A 9 (p2).toNat) hT hR) ?_
              rintro v_ _ ⟨hv_, rfl⟩
              obtain rfl : v_ = some (xI (s_wd (A 2) (q 35) (A 9 (p2).toNat))) := hv_
              refine x_iload (x_d C_PF_bytes 92 rfl) rfl ?_
              refine x_isub (x_d C_PF_bytes 93 rfl) ⟨by omega, by omega⟩ ?_
              refine x_invokevirtual (st := []) (av := [xI (A 9 (p2).toNat), xI ((s_wd (A 2) (q 35) (A 9 (p2).toNat)) - (A 9 (p2).toNat))]) (x_d C_PF_bytes 94 rfl) k_PF_182 m_PF_outBecomes v_PF_outBecomes cl_PF rfl rfl (Nat.le_of_ble_eq_true rfl) (by omega) rfl (c_PF_outBecomes Z (d - 1) q r A dy (by omega) (A 9 (p2).toNat) ((s_wd (A 2) (q 35) (A 9 (p2).toNat)) - (A 9 (p2).toNat)) (by first | (have := h49 (by omega); omega) | (have := hnm (by omega) (by omega); omega))) ?_
              rintro v_ _ ⟨hv_, f2, rfl, hf2⟩
              obtain rfl : v_ = some (xI ((s_wd (A 2) (q 35) (A 9 (p2).toNat)) - (A 9 (p2).toNat))) := hv_
              refine x_ireturn (x_d C_PF_bytes 95 rfl) ?_
              have hnm := hnm (by omega) (by omega)
              rw [if_neg (show ¬ A 5 (q 11).toNat = 5 by omega), if_neg (show ¬ (A 5 (q 11).toNat = 4 ∨ (A 5 (q 11).toNat = 9 ∧ k < 0)) by omega), if_neg (show ¬ (A 5 (q 11).toNat = 6 ∨ p2 < 0) by omega)] at hby
              refine Or.inr ⟨_, f2, hby, by rw [s_sl_len]; congr 2; omega, by rw [s_sl_len, show ((((s_wd (A 2) (q 35) (A 9 (p2).toNat)) - (A 9 (p2).toNat)).toNat : Nat) : Int) = (s_wd (A 2) (q 35) (A 9 (p2).toNat)) - (A 9 (p2).toNat) by omega], fun j hj => ?_⟩
              rw [s_sl_len] at hj
              rw [s_sl_get (A 2) _ _ j hj]
              exact hf2 j (by omega)
            · refine x_bipush (x_d C_PF_bytes 78 rfl) (by omega) ?_
              refine x_ireturn (x_d C_PF_bytes 79 rfl) ?_
              refine Or.inl ⟨?_, rfl, rfl⟩
              rw [hby, if_neg (show ¬ A 5 (q 11).toNat = 5 by omega), if_neg (show ¬ (A 5 (q 11).toNat = 4 ∨ (A 5 (q 11).toNat = 9 ∧ k < 0)) by omega), if_pos (show A 5 (q 11).toNat = 6 ∨ p2 < 0 by omega)]
          · refine x_iconst (x_d C_PF_bytes 67 rfl) ⟨by omega, by omega⟩ ?_
            refine x_goto (tgt := 148) (x_d C_PF_bytes 68 rfl) rfl ?_
            refine x_istore_n (l1 := [(3, xI (-1)), (2, xI (A 5 (q 11).toNat)), (0, xC 0), (1, xI (k))]) (x_d C_PF_bytes 75 rfl) (by decide) rfl ?_
            refine x_iload_n (x_d C_PF_bytes 76 rfl) rfl ?_
            refine x_if_ge (tgt := 156) (x_d C_PF_bytes 77 rfl) rfl (fun q => absurd q (by omega)) (fun _ => ?_)
            refine x_bipush (x_d C_PF_bytes 78 rfl) (by omega) ?_
            refine x_ireturn (x_d C_PF_bytes 79 rfl) ?_
            refine Or.inl ⟨?_, rfl, rfl⟩
            rw [hby, if_neg (show ¬ A 5 (q 11).toNat = 5 by omega), if_neg (show ¬ (A 5 (q 11).toNat = 4 ∨ (A 5 (q 11).toNat = 9 ∧ k < 0)) by omega), if_pos (show A 5 (q 11).toNat = 6 ∨ p2 < 0 by omega)]
        · refine x_aload_n (x_d C_PF_bytes 49 rfl) rfl ?_
          refine x_aload_n (x_d C_PF_bytes 50 rfl) rfl ?_
          refine x_getfield (v := xC 4) (x_d C_PF_bytes 51 rfl) f_PF_21 rfl rfl ?_
          refine x_getfield (v := xC 6) (x_d C_PF_bytes 52 rfl) f_PF_169 rfl rfl ?_
          refine x_aload_n (x_d C_PF_bytes 53 rfl) rfl ?_
          refine x_getfield (v := xI (q 11)) (x_d C_PF_bytes 54 rfl) f_PF_88 rfl rfl ?_
          refine x_iaload (f := A 6) (x_d C_PF_bytes 55 rfl) rfl (by omega) (by omega) ?_
          refine x_aload_n (x_d C_PF_bytes 56 rfl) rfl ?_
          refine x_getfield (v := xC 4) (x_d C_PF_bytes 57 rfl) f_PF_21 rfl rfl ?_
          refine x_getfield (v := xC 7) (x_d C_PF_bytes 58 rfl) f_PF_172 rfl rfl ?_
          refine x_aload_n (x_d C_PF_bytes 59 rfl) rfl ?_
          refine x_getfield (v := xI (q 11)) (x_d C_PF_bytes 60 rfl) f_PF_88 rfl rfl ?_
          refine x_iaload (f := A 7) (x_d C_PF_bytes 61 rfl) rfl (by omega) (by omega) ?_
          refine x_invokevirtual (st := []) (av := [xI (A 6 (q 11).toNat), xI (A 7 (q 11).toNat)]) (x_d C_PF_bytes 62 rfl) k_PF_182 m_PF_outBecomes v_PF_outBecomes cl_PF rfl rfl (Nat.le_of_ble_eq_true rfl) (by omega) rfl (c_PF_outBecomes Z (d - 1) q r A dy (by omega) (A 6 (q 11).toNat) (A 7 (q 11).toNat) (by first | (have := h49 (by omega); omega) | (have := hnm (by omega) (by omega); omega))) ?_
          rintro v_ _ ⟨hv_, f2, rfl, hf2⟩
          obtain rfl : v_ = some (xI (A 7 (q 11).toNat)) := hv_
          refine x_ireturn (x_d C_PF_bytes 63 rfl) ?_
          have h49 := h49 (by omega)
          rw [if_neg (show ¬ A 5 (q 11).toNat = 5 by omega), if_pos (show A 5 (q 11).toNat = 4 ∨ (A 5 (q 11).toNat = 9 ∧ k < 0) by omega)] at hby
          refine Or.inr ⟨_, f2, hby, by rw [s_sl_len]; congr 2; omega, by rw [s_sl_len, show (((A 7 (q 11).toNat).toNat : Nat) : Int) = A 7 (q 11).toNat by omega], fun j hj => ?_⟩
          rw [s_sl_len] at hj
          rw [s_sl_get (A 2) _ _ j hj]
          exact hf2 j (by omega)
  · refine x_aload_n (x_d C_PF_bytes 15 rfl) rfl ?_
    refine x_getfield (v := xC 38) (x_d C_PF_bytes 16 rfl) f_PF_81 rfl rfl ?_
    refine x_sipush (x_d C_PF_bytes 17 rfl) (by omega) ?_
    refine x_invokevirtual (st := []) (av := [xI (6000)]) (x_d C_PF_bytes 18 rfl) k_PF_166 m_Pa_start v_Pa_start cl_Pa rfl rfl (Nat.le_of_ble_eq_true rfl) (by omega) rfl (c_Pa_start_38 Z (d - 1) q (x_up (x_up (x_up (x_up r 7 (some 26)) 8 (some 32)) 9 (some 38)) 10 (some 40)) A dy (by omega) 6000) ?_
    rintro _ _ ⟨rfl, rfl⟩
    have hpn : pb 6000 0 0 (A 39) [] := ⟨by omega, by omega, Or.inl ⟨by show (0 : Int) ≤ 6000; omega, rfl, rfl, fun k hk => absurd hk (Nat.not_lt_zero _)⟩⟩
    refine x_aload_n (x_d C_PF_bytes 19 rfl) rfl ?_
    refine x_getfield (v := xC 38) (x_d C_PF_bytes 20 rfl) f_PF_81 rfl rfl ?_
    refine x_aload_n (x_d C_PF_bytes 21 rfl) rfl ?_
    refine x_getfield (v := xC 1) (x_d C_PF_bytes 22 rfl) f_PF_12 rfl rfl ?_
    refine x_aload_n (x_d C_PF_bytes 23 rfl) rfl ?_
    refine x_getfield (v := xC 4) (x_d C_PF_bytes 24 rfl) f_PF_21 rfl rfl ?_
    refine x_getfield (v := xC 6) (x_d C_PF_bytes 25 rfl) f_PF_169 rfl rfl ?_
    refine x_aload_n (x_d C_PF_bytes 26 rfl) rfl ?_
    refine x_getfield (v := xI (q 11)) (x_d C_PF_bytes 27 rfl) f_PF_88 rfl rfl ?_
    refine x_iaload (f := A 6) (x_d C_PF_bytes 28 rfl) rfl (by omega) (by omega) ?_
    refine x_aload_n (x_d C_PF_bytes 29 rfl) rfl ?_
    refine x_getfield (v := xC 4) (x_d C_PF_bytes 30 rfl) f_PF_21 rfl rfl ?_
    refine x_getfield (v := xC 7) (x_d C_PF_bytes 31 rfl) f_PF_172 rfl rfl ?_
    refine x_aload_n (x_d C_PF_bytes 32 rfl) rfl ?_
    refine x_getfield (v := xI (q 11)) (x_d C_PF_bytes 33 rfl) f_PF_88 rfl rfl ?_
    refine x_iaload (f := A 7) (x_d C_PF_bytes 34 rfl) rfl (by omega) (by omega) ?_
    refine x_iconst (x_d C_PF_bytes 35 rfl) ⟨by omega, by omega⟩ ?_
    refine x_invokevirtual (st := []) (av := [xC 1, xI (A 6 (q 11).toNat), xI (A 7 (q 11).toNat), xI (0)]) (x_d C_PF_bytes 36 rfl) k_PF_175 m_Pa_addString v_Pa_addString cl_Pa rfl rfl (Nat.le_of_ble_eq_true rfl) (by omega) rfl (c_Pb_addString_38 Z (d - 1) (x_up q 1219 6000) (x_up (x_up (x_up (x_up r 7 (some 26)) 8 (some 32)) 9 (some 38)) 10 (some 40)) A dy 0 0 (A 39) [] (by omega) (A 6 (q 11).toNat) (A 7 (q 11).toNat) (show (0 : Int) ≤ 6000 ∧ (6000 : Int) ≤ 6000 by omega) hpn hT (by have := h5 (by omega); omega) (by have := h5 (by omega); omega)) ?_
    rintro _ _ ⟨rfl, s12, ov12, f12, rfl, hp12⟩
    have hp12 : pb 6000 s12 ov12 f12 ([] ++ (s_sb (A 2) (q 35) (decide (s_byte (A 2) (q 35) (A 6 (q 11).toNat) = 60)) (A 7 (q 11).toNat).toNat (A 6 (q 11).toNat + 1)).map x_by) := hp12
    rw [List.nil_append] at hp12
    refine x_aload_n (x_d C_PF_bytes 37 rfl) rfl ?_
    refine x_getfield (v := xC 38) (x_d C_PF_bytes 38 rfl) f_PF_81 rfl rfl ?_
    refine x_getfield (v := xI (s12)) (x_d C_PF_bytes 39 rfl) f_PF_179 rfl rfl ?_
    refine x_ireturn (x_d C_PF_bytes 40 rfl) ?_
    have h59 := h5 (by omega)
    rw [if_pos (by omega)] at hby
    obtain ⟨_, _, ⟨h1, h2, h3, h4⟩ | ⟨h1, h2⟩⟩ := hp12
    · subst h2
      exact Or.inr ⟨_, f12, hby, by rw [h3], by rw [h3]; rfl, h4⟩
    · rw [List.length_map, s_sb_len] at h1
      omega
theorem c_PF_bytesN (Z : xZ) (d : Nat) (q : Nat → Int) (r : Nat → Option Nat) (A : Nat → Nat → Int) (dy : xH) (k : Int) (hp : q 11 < 0) : xMet Z d Y_PF_bytes [xC 0, xI k] (hF q (x_up (x_up (x_up (x_up r 7 (some 26)) 8 (some 32)) 9 (some 38)) 10 (some 40)) A ++ dy) (fun v h2 => v = some (xI (-2)) ∧ h2 = hF q (x_up (x_up (x_up (x_up r 7 (some 26)) 8 (some 32)) 9 (some 38)) 10 (some 40)) A ++ dy) := by
  refine xMet_of (by decide) (Nat.le_of_ble_eq_true rfl) (fun v h2 hq => by rw [hq.1]; trivial) ?_
  refine x_aload_n (x_d C_PF_bytes 0 rfl) rfl ?_
  refine x_getfield (v := xI (q 11)) (x_d C_PF_bytes 1 rfl) f_PF_88 rfl rfl ?_
  refine x_if_ge (tgt := 10) (x_d C_PF_bytes 2 rfl) rfl (fun q => absurd q (by omega)) (fun _ => ?_)
  refine x_bipush (x_d C_PF_bytes 3 rfl) (by omega) ?_
  refine x_ireturn (x_d C_PF_bytes 4 rfl) ?_
  exact ⟨rfl, rfl⟩
