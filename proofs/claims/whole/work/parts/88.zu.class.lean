/-! the class: decode, pages -/
theorem c_PF_decode (Z : xZ) (d : Nat) (q : Nat → Int) (r : Nat → Option Nat) (A : Nat → Nat → Int) (dy : xH) (hd : 10 ≤ d) (u : Nat → Int) (w : Nat → Nat → Int) (S S2 c0 : Nat) (hcf : dcf S S2 c0) (hT : 0 ≤ q 34 ∧ q 34 ≤ q 35 ∧ q 35 ≤ 10248) (hR : s_okR A) (hsp : ∀ j, 0 ≤ A 8 j ∧ A 8 j ≤ 12900) (hp : 0 ≤ q 11 ∧ q 11 < 12900 ∧ s_bh (A 8) (q 11) ≤ 12900) (E : Int) (g : Nat → Option xE) (c : Nat) (ht : Tr (A 2) E g A 9 (q 11) c) (hE : E ≤ q 35) : xMet Z d Y_PF_decode [xC 0] (hF (dq q u) (x_up (x_up (x_up (x_up (dr r S S2 c0) 7 (some 26)) 8 (some 32)) 9 (some 38)) 10 (some 40)) (dw A w) ++ dy) (fun v h2 => (¬ A 5 (q 11).toNat = 9 ∧ v = some (xI (-2)) ∧ h2 = hF (dq q u) (x_up (x_up (x_up (x_up (dr r S S2 c0) 7 (some 26)) 8 (some 32)) 9 (some 38)) 10 (some 40)) (dw A w) ++ dy) ∨ (A 5 (q 11).toNat = 9 ∧ ∃ u2 w2 S9 T9 c9, dcf S9 T9 c9 ∧ ((s_dec (A 5) (A 6) (A 7) (A 8) (A 9) (A 2) (q 35) (q 11) = none ∧ v = some (xI (-4)) ∧ h2 = hF (dq q u2) (x_up (x_up (x_up (x_up (dr r S9 T9 c9) 7 (some 26)) 8 (some 32)) 9 (some 38)) 10 (some 40)) (dw A w2) ++ dy) ∨ ∃ b2 f2, s_dec (A 5) (A 6) (A 7) (A 8) (A 9) (A 2) (q 35) (q 11) = some b2 ∧ b2.length ≤ 3000 ∧ v = some (xI (b2.length : Int)) ∧ h2 = hF (x_up (x_up (x_up (dq q u2) 1217 (b2.length : Int)) 1218 0) 1219 6000) (x_up (x_up (x_up (x_up (dr r S9 T9 c9) 7 (some 26)) 8 (some 32)) 9 (some 38)) 10 (some 40)) (x_up (dw A w2) 39 f2) ++ dy ∧ ∀ j, j < b2.length → f2 j = b2.getD j 0))) := by
  refine xMet_of (by decide) (Nat.le_of_ble_eq_true rfl) (fun v h2 hq => by obtain ⟨_, e, _⟩ | ⟨_, _, _, _, _, _, _, ⟨_, e, _⟩ | ⟨_, _, _, _, e, _⟩⟩ := hq <;> rw [e] <;> trivial) ?_
  obtain ⟨h0, x, y, m, bt, it, nm, hc, hL, hm, h60, hch, hK⟩ := Tr_o ht
  have h49 : A 5 (q 11).toNat = 9 → 0 ≤ A 6 (q 11).toNat ∧ 0 ≤ A 7 (q 11).toNat ∧ A 6 (q 11).toNat + A 7 (q 11).toNat ≤ 10248 := fun z => by
    obtain ⟨a1, a2, a3, a4, -⟩ := hL.2.2.2.1 (Or.inr z)
    exact ⟨a1, a2, by omega⟩
  have hin : ∀ x, x ∈ s_in (A 8) (q 11) → 0 ≤ x ∧ x < 12900 ∧ s_bh (A 8) x ≤ 12900 := fun x hx => by
    have := s_ch_lt hch x hx
    have := s_ch_bh hch x hx
    omega
  clear hL hK
  refine x_aload_n (x_d C_PF_decode 0 rfl) rfl ?_
  refine x_getfield (v := xI (q 11)) (x_d C_PF_decode 1 rfl) f_PF_88 rfl rfl ?_
  refine x_if_lt (tgt := 24) (x_d C_PF_decode 2 rfl) rfl (fun q => absurd q (by omega)) (fun _ => ?_)
  refine x_aload_n (x_d C_PF_decode 3 rfl) rfl ?_
  refine x_getfield (v := xC 4) (x_d C_PF_decode 4 rfl) f_PF_21 rfl rfl ?_
  refine x_getfield (v := xC 5) (x_d C_PF_decode 5 rfl) f_PF_157 rfl rfl ?_
  refine x_aload_n (x_d C_PF_decode 6 rfl) rfl ?_
  refine x_getfield (v := xI (q 11)) (x_d C_PF_decode 7 rfl) f_PF_88 rfl rfl ?_
  refine x_iaload (f := A 5) (x_d C_PF_decode 8 rfl) rfl (by omega) (by omega) ?_
  refine x_bipush (x_d C_PF_decode 9 rfl) (by omega) ?_
  refine x_icmp_eq (tgt := 27) (x_d C_PF_decode 10 rfl) rfl (fun c2 => ?_) (fun c2 => ?_)
  · refine x_aload_n (x_d C_PF_decode 13 rfl) rfl ?_
    refine x_getfield (v := xC 18) (x_d C_PF_decode 14 rfl) f_PF_53 rfl rfl ?_
    refine x_aload_n (x_d C_PF_decode 15 rfl) rfl ?_
    refine x_getfield (v := xI (q 11)) (x_d C_PF_decode 16 rfl) f_PF_88 rfl rfl ?_
    refine x_invokevirtual (st := []) (av := [xI (q 11)]) (x_d C_PF_decode 17 rfl) k_PF_191 m_D_run v_D_run cl_D rfl rfl (Nat.le_of_ble_eq_true rfl) (by omega) rfl (c_D_run Z (d - 1) q (x_up (x_up (x_up (x_up r 7 (some 26)) 8 (some 32)) 9 (some 38)) 10 (some 40)) A dy (by omega) (q 11) u w S S2 c0 hcf hT hR hsp hp hin (h49 (by omega))) ?_
    rintro v_ h_ ⟨u2, w2, S9, T9, c9, hcf9, rfl, ⟨hv_, b2, hb2, hu2, hr2⟩ | ⟨hv_, hb2⟩⟩
    · obtain rfl := hv_
      refine x_if_ne (tgt := 44) (x_d C_PF_decode 18 rfl) rfl (fun _ => ?_) (fun q => absurd q (by omega))
      have h3k : (b2.length : Int) ≤ 3000 := by
        have hb3 := hb2
        unfold s_dec at hb3
        cases hf : s_fold (s_flt (A 5) (A 6) (A 7) (A 2) (q 35)) (s_fls (A 5) (A 6) (A 7) (A 8) (A 9) (A 2) (q 35) (q 11)) (s_sl (A 2) (A 6 (q 11).toNat).toNat (A 7 (q 11).toNat).toNat) with
        | none => rw [hf] at hb3; cases hb3
        | some y => rw [hf, Option.bind_some] at hb3; split at hb3; cases hb3; assumption; cases hb3
      have k9 : A 5 (q 11).toNat = 9 := by omega
      rcases hcf9 with ⟨rfl, rfl, rfl | rfl⟩ | ⟨rfl, rfl, rfl | rfl⟩
      · have hu3 : 0 ≤ u2 581 ∧ u2 582 = u2 581 + b2.length ∧ u2 582 ≤ 10248 := hu2
        have hr3 : ∀ k, k < b2.length → A 2 ((u2 581).toNat + k) = b2.getD k 0 := hr2
        refine x_aload_n (x_d C_PF_decode 21 rfl) rfl ?_
        refine x_getfield (v := xC 38) (x_d C_PF_decode 22 rfl) f_PF_81 rfl rfl ?_
        refine x_sipush (x_d C_PF_decode 23 rfl) (by omega) ?_
        refine x_invokevirtual (st := []) (av := [xI (6000)]) (x_d C_PF_decode 24 rfl) k_PF_166 m_Pa_start v_Pa_start cl_Pa rfl rfl (Nat.le_of_ble_eq_true rfl) (by omega) rfl (c_Pa_start_38 Z (d - 1) (x_up (x_up (x_up (x_up (x_up (x_up (x_up (x_up q 581 (u2 581)) 582 (u2 582)) 609 (u2 609)) 610 (u2 610)) 611 (u2 611)) 673 (u2 673)) 674 (u2 674)) 675 (u2 675)) (x_up (x_up (x_up (x_up (x_up (x_up (x_up r 7 (some 26)) 8 (some 32)) 9 (some 38)) 10 (some 40)) 578 (some 19)) 579 (some 21)) 580 (some 2)) (x_up (x_up A 20 (w2 20)) 22 (w2 22)) dy (by omega) 6000) ?_
        rintro _ _ ⟨rfl, rfl⟩
        have hpn : pb 6000 0 0 (A 39) [] := ⟨by omega, by omega, Or.inl ⟨by show (0 : Int) ≤ 6000; omega, rfl, rfl, fun k hk => absurd hk (Nat.not_lt_zero _)⟩⟩
        refine x_aload_n (x_d C_PF_decode 25 rfl) rfl ?_
        refine x_getfield (v := xC 38) (x_d C_PF_decode 26 rfl) f_PF_81 rfl rfl ?_
        refine x_aload_n (x_d C_PF_decode 27 rfl) rfl ?_
        refine x_getfield (v := xC 18) (x_d C_PF_decode 28 rfl) f_PF_53 rfl rfl ?_
        refine x_getfield (v := xC 2) (x_d C_PF_decode 29 rfl) f_PF_194 rfl rfl ?_
        refine x_aload_n (x_d C_PF_decode 30 rfl) rfl ?_
        refine x_getfield (v := xC 18) (x_d C_PF_decode 31 rfl) f_PF_53 rfl rfl ?_
        refine x_getfield (v := xI (u2 581)) (x_d C_PF_decode 32 rfl) f_PF_198 rfl rfl ?_
        refine x_aload_n (x_d C_PF_decode 33 rfl) rfl ?_
        refine x_getfield (v := xC 18) (x_d C_PF_decode 34 rfl) f_PF_53 rfl rfl ?_
        refine x_getfield (v := xI (u2 582)) (x_d C_PF_decode 35 rfl) f_PF_201 rfl rfl ?_
        refine x_aload_n (x_d C_PF_decode 36 rfl) rfl ?_
        refine x_getfield (v := xC 18) (x_d C_PF_decode 37 rfl) f_PF_53 rfl rfl ?_
        refine x_getfield (v := xI (u2 581)) (x_d C_PF_decode 38 rfl) f_PF_198 rfl rfl ?_
        refine x_isub (x_d C_PF_decode 39 rfl) ⟨by omega, by omega⟩ ?_
        refine x_invokevirtual (st := []) (av := [xC 2, xI (u2 581), xI (u2 582 - (u2 581))]) (x_d C_PF_decode 40 rfl) k_PF_204 m_Pa_addRow v_Pa_addRow cl_Pa rfl rfl (Nat.le_of_ble_eq_true rfl) (by omega) rfl (c_Pb_addRow_38_2 Z (d - 1) (x_up (x_up (x_up (x_up (x_up (x_up (x_up (x_up (x_up q 581 (u2 581)) 582 (u2 582)) 609 (u2 609)) 610 (u2 610)) 611 (u2 611)) 673 (u2 673)) 674 (u2 674)) 675 (u2 675)) 1219 6000) (x_up (x_up (x_up (x_up (x_up (x_up (x_up r 7 (some 26)) 8 (some 32)) 9 (some 38)) 10 (some 40)) 578 (some 19)) 579 (some 21)) 580 (some 2)) (x_up (x_up A 20 (w2 20)) 22 (w2 22)) dy 0 0 (A 39) [] (by omega) (u2 581) (u2 582 - (u2 581)) (show (0 : Int) ≤ 6000 ∧ (6000 : Int) ≤ 6000 by omega) hpn (by omega)) ?_
        rintro _ _ ⟨rfl, s51, ov51, f51, rfl, hp51⟩
        have hp51 : pb 6000 s51 ov51 f51 ([] ++ s_sl (A 2) (u2 581).toNat (u2 582 - (u2 581)).toNat) := hp51
        rw [List.nil_append] at hp51
        refine x_aload_n (x_d C_PF_decode 41 rfl) rfl ?_
        refine x_getfield (v := xC 38) (x_d C_PF_decode 42 rfl) f_PF_81 rfl rfl ?_
        refine x_getfield (v := xI (s51)) (x_d C_PF_decode 43 rfl) f_PF_179 rfl rfl ?_
        refine x_ireturn (x_d C_PF_decode 44 rfl) ?_
        obtain ⟨_, _, ⟨h1, h2, h3, h4⟩ | ⟨h1, h2⟩⟩ := hp51
        · rw [s_sl_len] at h1 h3 h4
          have h5 : s51 = b2.length := by omega
          subst h2
          refine Or.inr ⟨k9, u2, w2, 19, 21, 2, by unfold dcf; omega, Or.inr ⟨b2, f51, hb2, by omega, by rw [h5], by rw [h5]; rfl, fun j hj => ?_⟩⟩
          rw [h4 j (by omega), s_sl_get _ _ _ j (by omega)]
          exact hr3 j hj
        · rw [s_sl_len] at h1
          omega
      · have hu3 : 0 ≤ u2 581 ∧ u2 582 = u2 581 + b2.length ∧ u2 582 ≤ 3000 := hu2
        have hr3 : ∀ k, k < b2.length → w2 22 ((u2 581).toNat + k) = b2.getD k 0 := hr2
        refine x_aload_n (x_d C_PF_decode 21 rfl) rfl ?_
        refine x_getfield (v := xC 38) (x_d C_PF_decode 22 rfl) f_PF_81 rfl rfl ?_
        refine x_sipush (x_d C_PF_decode 23 rfl) (by omega) ?_
        refine x_invokevirtual (st := []) (av := [xI (6000)]) (x_d C_PF_decode 24 rfl) k_PF_166 m_Pa_start v_Pa_start cl_Pa rfl rfl (Nat.le_of_ble_eq_true rfl) (by omega) rfl (c_Pa_start_38 Z (d - 1) (x_up (x_up (x_up (x_up (x_up (x_up (x_up (x_up q 581 (u2 581)) 582 (u2 582)) 609 (u2 609)) 610 (u2 610)) 611 (u2 611)) 673 (u2 673)) 674 (u2 674)) 675 (u2 675)) (x_up (x_up (x_up (x_up (x_up (x_up (x_up r 7 (some 26)) 8 (some 32)) 9 (some 38)) 10 (some 40)) 578 (some 19)) 579 (some 21)) 580 (some 22)) (x_up (x_up A 20 (w2 20)) 22 (w2 22)) dy (by omega) 6000) ?_
        rintro _ _ ⟨rfl, rfl⟩
        have hpn : pb 6000 0 0 (A 39) [] := ⟨by omega, by omega, Or.inl ⟨by show (0 : Int) ≤ 6000; omega, rfl, rfl, fun k hk => absurd hk (Nat.not_lt_zero _)⟩⟩
        refine x_aload_n (x_d C_PF_decode 25 rfl) rfl ?_
        refine x_getfield (v := xC 38) (x_d C_PF_decode 26 rfl) f_PF_81 rfl rfl ?_
        refine x_aload_n (x_d C_PF_decode 27 rfl) rfl ?_
        refine x_getfield (v := xC 18) (x_d C_PF_decode 28 rfl) f_PF_53 rfl rfl ?_
        refine x_getfield (v := xC 22) (x_d C_PF_decode 29 rfl) f_PF_194 rfl rfl ?_
        refine x_aload_n (x_d C_PF_decode 30 rfl) rfl ?_
        refine x_getfield (v := xC 18) (x_d C_PF_decode 31 rfl) f_PF_53 rfl rfl ?_
        refine x_getfield (v := xI (u2 581)) (x_d C_PF_decode 32 rfl) f_PF_198 rfl rfl ?_
        refine x_aload_n (x_d C_PF_decode 33 rfl) rfl ?_
        refine x_getfield (v := xC 18) (x_d C_PF_decode 34 rfl) f_PF_53 rfl rfl ?_
        refine x_getfield (v := xI (u2 582)) (x_d C_PF_decode 35 rfl) f_PF_201 rfl rfl ?_
        refine x_aload_n (x_d C_PF_decode 36 rfl) rfl ?_
        refine x_getfield (v := xC 18) (x_d C_PF_decode 37 rfl) f_PF_53 rfl rfl ?_
        refine x_getfield (v := xI (u2 581)) (x_d C_PF_decode 38 rfl) f_PF_198 rfl rfl ?_
        refine x_isub (x_d C_PF_decode 39 rfl) ⟨by omega, by omega⟩ ?_
        refine x_invokevirtual (st := []) (av := [xC 22, xI (u2 581), xI (u2 582 - (u2 581))]) (x_d C_PF_decode 40 rfl) k_PF_204 m_Pa_addRow v_Pa_addRow cl_Pa rfl rfl (Nat.le_of_ble_eq_true rfl) (by omega) rfl (c_Pb_addRow_38_22 Z (d - 1) (x_up (x_up (x_up (x_up (x_up (x_up (x_up (x_up (x_up q 581 (u2 581)) 582 (u2 582)) 609 (u2 609)) 610 (u2 610)) 611 (u2 611)) 673 (u2 673)) 674 (u2 674)) 675 (u2 675)) 1219 6000) (x_up (x_up (x_up (x_up (x_up (x_up (x_up r 7 (some 26)) 8 (some 32)) 9 (some 38)) 10 (some 40)) 578 (some 19)) 579 (some 21)) 580 (some 22)) (x_up (x_up A 20 (w2 20)) 22 (w2 22)) dy 0 0 (A 39) [] (by omega) (u2 581) (u2 582 - (u2 581)) (show (0 : Int) ≤ 6000 ∧ (6000 : Int) ≤ 6000 by omega) hpn (by omega)) ?_
        rintro _ _ ⟨rfl, s51, ov51, f51, rfl, hp51⟩
        have hp51 : pb 6000 s51 ov51 f51 ([] ++ s_sl (w2 22) (u2 581).toNat (u2 582 - (u2 581)).toNat) := hp51
        rw [List.nil_append] at hp51
        refine x_aload_n (x_d C_PF_decode 41 rfl) rfl ?_
        refine x_getfield (v := xC 38) (x_d C_PF_decode 42 rfl) f_PF_81 rfl rfl ?_
        refine x_getfield (v := xI (s51)) (x_d C_PF_decode 43 rfl) f_PF_179 rfl rfl ?_
        refine x_ireturn (x_d C_PF_decode 44 rfl) ?_
        obtain ⟨_, _, ⟨h1, h2, h3, h4⟩ | ⟨h1, h2⟩⟩ := hp51
        · rw [s_sl_len] at h1 h3 h4
          have h5 : s51 = b2.length := by omega
          subst h2
          refine Or.inr ⟨k9, u2, w2, 19, 21, 22, by unfold dcf; omega, Or.inr ⟨b2, f51, hb2, by omega, by rw [h5], by rw [h5]; rfl, fun j hj => ?_⟩⟩
          rw [h4 j (by omega), s_sl_get _ _ _ j (by omega)]
          exact hr3 j hj
        · rw [s_sl_len] at h1
          omega
      · have hu3 : 0 ≤ u2 581 ∧ u2 582 = u2 581 + b2.length ∧ u2 582 ≤ 10248 := hu2
        have hr3 : ∀ k, k < b2.length → A 2 ((u2 581).toNat + k) = b2.getD k 0 := hr2
        refine x_aload_n (x_d C_PF_decode 21 rfl) rfl ?_
        refine x_getfield (v := xC 38) (x_d C_PF_decode 22 rfl) f_PF_81 rfl rfl ?_
        refine x_sipush (x_d C_PF_decode 23 rfl) (by omega) ?_
        refine x_invokevirtual (st := []) (av := [xI (6000)]) (x_d C_PF_decode 24 rfl) k_PF_166 m_Pa_start v_Pa_start cl_Pa rfl rfl (Nat.le_of_ble_eq_true rfl) (by omega) rfl (c_Pa_start_38 Z (d - 1) (x_up (x_up (x_up (x_up (x_up (x_up (x_up (x_up q 581 (u2 581)) 582 (u2 582)) 609 (u2 609)) 610 (u2 610)) 611 (u2 611)) 673 (u2 673)) 674 (u2 674)) 675 (u2 675)) (x_up (x_up (x_up (x_up (x_up (x_up (x_up r 7 (some 26)) 8 (some 32)) 9 (some 38)) 10 (some 40)) 578 (some 21)) 579 (some 19)) 580 (some 2)) (x_up (x_up A 20 (w2 20)) 22 (w2 22)) dy (by omega) 6000) ?_
        rintro _ _ ⟨rfl, rfl⟩
        have hpn : pb 6000 0 0 (A 39) [] := ⟨by omega, by omega, Or.inl ⟨by show (0 : Int) ≤ 6000; omega, rfl, rfl, fun k hk => absurd hk (Nat.not_lt_zero _)⟩⟩
        refine x_aload_n (x_d C_PF_decode 25 rfl) rfl ?_
        refine x_getfield (v := xC 38) (x_d C_PF_decode 26 rfl) f_PF_81 rfl rfl ?_
        refine x_aload_n (x_d C_PF_decode 27 rfl) rfl ?_
        refine x_getfield (v := xC 18) (x_d C_PF_decode 28 rfl) f_PF_53 rfl rfl ?_
        refine x_getfield (v := xC 2) (x_d C_PF_decode 29 rfl) f_PF_194 rfl rfl ?_
        refine x_aload_n (x_d C_PF_decode 30 rfl) rfl ?_
        refine x_getfield (v := xC 18) (x_d C_PF_decode 31 rfl) f_PF_53 rfl rfl ?_
        refine x_getfield (v := xI (u2 581)) (x_d C_PF_decode 32 rfl) f_PF_198 rfl rfl ?_
        refine x_aload_n (x_d C_PF_decode 33 rfl) rfl ?_
        refine x_getfield (v := xC 18) (x_d C_PF_decode 34 rfl) f_PF_53 rfl rfl ?_
        refine x_getfield (v := xI (u2 582)) (x_d C_PF_decode 35 rfl) f_PF_201 rfl rfl ?_
        refine x_aload_n (x_d C_PF_decode 36 rfl) rfl ?_
        refine x_getfield (v := xC 18) (x_d C_PF_decode 37 rfl) f_PF_53 rfl rfl ?_
        refine x_getfield (v := xI (u2 581)) (x_d C_PF_decode 38 rfl) f_PF_198 rfl rfl ?_
        refine x_isub (x_d C_PF_decode 39 rfl) ⟨by omega, by omega⟩ ?_
        refine x_invokevirtual (st := []) (av := [xC 2, xI (u2 581), xI (u2 582 - (u2 581))]) (x_d C_PF_decode 40 rfl) k_PF_204 m_Pa_addRow v_Pa_addRow cl_Pa rfl rfl (Nat.le_of_ble_eq_true rfl) (by omega) rfl (c_Pb_addRow_38_2 Z (d - 1) (x_up (x_up (x_up (x_up (x_up (x_up (x_up (x_up (x_up q 581 (u2 581)) 582 (u2 582)) 609 (u2 609)) 610 (u2 610)) 611 (u2 611)) 673 (u2 673)) 674 (u2 674)) 675 (u2 675)) 1219 6000) (x_up (x_up (x_up (x_up (x_up (x_up (x_up r 7 (some 26)) 8 (some 32)) 9 (some 38)) 10 (some 40)) 578 (some 21)) 579 (some 19)) 580 (some 2)) (x_up (x_up A 20 (w2 20)) 22 (w2 22)) dy 0 0 (A 39) [] (by omega) (u2 581) (u2 582 - (u2 581)) (show (0 : Int) ≤ 6000 ∧ (6000 : Int) ≤ 6000 by omega) hpn (by omega)) ?_
        rintro _ _ ⟨rfl, s51, ov51, f51, rfl, hp51⟩
        have hp51 : pb 6000 s51 ov51 f51 ([] ++ s_sl (A 2) (u2 581).toNat (u2 582 - (u2 581)).toNat) := hp51
        rw [List.nil_append] at hp51
        refine x_aload_n (x_d C_PF_decode 41 rfl) rfl ?_
        refine x_getfield (v := xC 38) (x_d C_PF_decode 42 rfl) f_PF_81 rfl rfl ?_
        refine x_getfield (v := xI (s51)) (x_d C_PF_decode 43 rfl) f_PF_179 rfl rfl ?_
        refine x_ireturn (x_d C_PF_decode 44 rfl) ?_
        obtain ⟨_, _, ⟨h1, h2, h3, h4⟩ | ⟨h1, h2⟩⟩ := hp51
        · rw [s_sl_len] at h1 h3 h4
          have h5 : s51 = b2.length := by omega
          subst h2
          refine Or.inr ⟨k9, u2, w2, 21, 19, 2, by unfold dcf; omega, Or.inr ⟨b2, f51, hb2, by omega, by rw [h5], by rw [h5]; rfl, fun j hj => ?_⟩⟩
          rw [h4 j (by omega), s_sl_get _ _ _ j (by omega)]
          exact hr3 j hj
        · rw [s_sl_len] at h1
          omega
      · have hu3 : 0 ≤ u2 581 ∧ u2 582 = u2 581 + b2.length ∧ u2 582 ≤ 3000 := hu2
        have hr3 : ∀ k, k < b2.length → w2 20 ((u2 581).toNat + k) = b2.getD k 0 := hr2
        refine x_aload_n (x_d C_PF_decode 21 rfl) rfl ?_
        refine x_getfield (v := xC 38) (x_d C_PF_decode 22 rfl) f_PF_81 rfl rfl ?_
        refine x_sipush (x_d C_PF_decode 23 rfl) (by omega) ?_
        refine x_invokevirtual (st := []) (av := [xI (6000)]) (x_d C_PF_decode 24 rfl) k_PF_166 m_Pa_start v_Pa_start cl_Pa rfl rfl (Nat.le_of_ble_eq_true rfl) (by omega) rfl (c_Pa_start_38 Z (d - 1) (x_up (x_up (x_up (x_up (x_up (x_up (x_up (x_up q 581 (u2 581)) 582 (u2 582)) 609 (u2 609)) 610 (u2 610)) 611 (u2 611)) 673 (u2 673)) 674 (u2 674)) 675 (u2 675)) (x_up (x_up (x_up (x_up (x_up (x_up (x_up r 7 (some 26)) 8 (some 32)) 9 (some 38)) 10 (some 40)) 578 (some 21)) 579 (some 19)) 580 (some 20)) (x_up (x_up A 20 (w2 20)) 22 (w2 22)) dy (by omega) 6000) ?_
        rintro _ _ ⟨rfl, rfl⟩
        have hpn : pb 6000 0 0 (A 39) [] := ⟨by omega, by omega, Or.inl ⟨by show (0 : Int) ≤ 6000; omega, rfl, rfl, fun k hk => absurd hk (Nat.not_lt_zero _)⟩⟩
        refine x_aload_n (x_d C_PF_decode 25 rfl) rfl ?_
        refine x_getfield (v := xC 38) (x_d C_PF_decode 26 rfl) f_PF_81 rfl rfl ?_
        refine x_aload_n (x_d C_PF_decode 27 rfl) rfl ?_
        refine x_getfield (v := xC 18) (x_d C_PF_decode 28 rfl) f_PF_53 rfl rfl ?_
        refine x_getfield (v := xC 20) (x_d C_PF_decode 29 rfl) f_PF_194 rfl rfl ?_
        refine x_aload_n (x_d C_PF_decode 30 rfl) rfl ?_
        refine x_getfield (v := xC 18) (x_d C_PF_decode 31 rfl) f_PF_53 rfl rfl ?_
        refine x_getfield (v := xI (u2 581)) (x_d C_PF_decode 32 rfl) f_PF_198 rfl rfl ?_
        refine x_aload_n (x_d C_PF_decode 33 rfl) rfl ?_
        refine x_getfield (v := xC 18) (x_d C_PF_decode 34 rfl) f_PF_53 rfl rfl ?_
        refine x_getfield (v := xI (u2 582)) (x_d C_PF_decode 35 rfl) f_PF_201 rfl rfl ?_
        refine x_aload_n (x_d C_PF_decode 36 rfl) rfl ?_
        refine x_getfield (v := xC 18) (x_d C_PF_decode 37 rfl) f_PF_53 rfl rfl ?_
        refine x_getfield (v := xI (u2 581)) (x_d C_PF_decode 38 rfl) f_PF_198 rfl rfl ?_
        refine x_isub (x_d C_PF_decode 39 rfl) ⟨by omega, by omega⟩ ?_
        refine x_invokevirtual (st := []) (av := [xC 20, xI (u2 581), xI (u2 582 - (u2 581))]) (x_d C_PF_decode 40 rfl) k_PF_204 m_Pa_addRow v_Pa_addRow cl_Pa rfl rfl (Nat.le_of_ble_eq_true rfl) (by omega) rfl (c_Pb_addRow_38_20 Z (d - 1) (x_up (x_up (x_up (x_up (x_up (x_up (x_up (x_up (x_up q 581 (u2 581)) 582 (u2 582)) 609 (u2 609)) 610 (u2 610)) 611 (u2 611)) 673 (u2 673)) 674 (u2 674)) 675 (u2 675)) 1219 6000) (x_up (x_up (x_up (x_up (x_up (x_up (x_up r 7 (some 26)) 8 (some 32)) 9 (some 38)) 10 (some 40)) 578 (some 21)) 579 (some 19)) 580 (some 20)) (x_up (x_up A 20 (w2 20)) 22 (w2 22)) dy 0 0 (A 39) [] (by omega) (u2 581) (u2 582 - (u2 581)) (show (0 : Int) ≤ 6000 ∧ (6000 : Int) ≤ 6000 by omega) hpn (by omega)) ?_
        rintro _ _ ⟨rfl, s51, ov51, f51, rfl, hp51⟩
        have hp51 : pb 6000 s51 ov51 f51 ([] ++ s_sl (w2 20) (u2 581).toNat (u2 582 - (u2 581)).toNat) := hp51
        rw [List.nil_append] at hp51
        refine x_aload_n (x_d C_PF_decode 41 rfl) rfl ?_
        refine x_getfield (v := xC 38) (x_d C_PF_decode 42 rfl) f_PF_81 rfl rfl ?_
        refine x_getfield (v := xI (s51)) (x_d C_PF_decode 43 rfl) f_PF_179 rfl rfl ?_
        refine x_ireturn (x_d C_PF_decode 44 rfl) ?_
        obtain ⟨_, _, ⟨h1, h2, h3, h4⟩ | ⟨h1, h2⟩⟩ := hp51
        · rw [s_sl_len] at h1 h3 h4
          have h5 : s51 = b2.length := by omega
          subst h2
          refine Or.inr ⟨k9, u2, w2, 21, 19, 20, by unfold dcf; omega, Or.inr ⟨b2, f51, hb2, by omega, by rw [h5], by rw [h5]; rfl, fun j hj => ?_⟩⟩
          rw [h4 j (by omega), s_sl_get _ _ _ j (by omega)]
          exact hr3 j hj
        · rw [s_sl_len] at h1
          omega
    · obtain rfl := hv_
      refine x_if_ne (tgt := 44) (x_d C_PF_decode 18 rfl) rfl (fun q => absurd q (by omega)) (fun _ => ?_)
      refine x_bipush (x_d C_PF_decode 19 rfl) (by omega) ?_
      refine x_ireturn (x_d C_PF_decode 20 rfl) ?_
      exact Or.inr ⟨by omega, u2, w2, S9, T9, c9, hcf9, Or.inl ⟨hb2, rfl, rfl⟩⟩
  · refine x_bipush (x_d C_PF_decode 11 rfl) (by omega) ?_
    refine x_ireturn (x_d C_PF_decode 12 rfl) ?_
    exact Or.inl ⟨by omega, rfl, rfl⟩
theorem c_PF_decodeN (Z : xZ) (d : Nat) (q : Nat → Int) (r : Nat → Option Nat) (A : Nat → Nat → Int) (dy : xH) (hp : q 11 < 0) : xMet Z d Y_PF_decode [xC 0] (hF q (x_up (x_up (x_up (x_up r 7 (some 26)) 8 (some 32)) 9 (some 38)) 10 (some 40)) A ++ dy) (fun v h2 => v = some (xI (-2)) ∧ h2 = hF q (x_up (x_up (x_up (x_up r 7 (some 26)) 8 (some 32)) 9 (some 38)) 10 (some 40)) A ++ dy) := by
  refine xMet_of (by decide) (Nat.le_of_ble_eq_true rfl) (fun v h2 hq => by rw [hq.1]; trivial) ?_
  refine x_aload_n (x_d C_PF_decode 0 rfl) rfl ?_
  refine x_getfield (v := xI (q 11)) (x_d C_PF_decode 1 rfl) f_PF_88 rfl rfl ?_
  refine x_if_lt (tgt := 24) (x_d C_PF_decode 2 rfl) rfl (fun _ => ?_) (fun q => absurd q (by omega))
  refine x_bipush (x_d C_PF_decode 11 rfl) (by omega) ?_
  refine x_ireturn (x_d C_PF_decode 12 rfl) ?_
  exact ⟨rfl, rfl⟩
theorem c_PF_pages (Z : xZ) (d : Nat) (q : Nat → Int) (r : Nat → Option Nat) (A : Nat → Nat → Int) (dy : xH) (hd : 28 ≤ d) (hT : 0 ≤ q 34 ∧ q 34 ≤ q 35 ∧ q 35 ≤ 10248) (hz : 0 ≤ q 837 ∧ q 837 ≤ 300) (hR : s_okR A) (hsp : ∀ j, 0 ≤ A 8 j ∧ A 8 j ≤ 12900) (hus : ∀ k : Nat, (k : Int) < q 837 → ¬ A 29 k = 0 → wv (A 5) (A 6) (A 7) (A 8) (A 9) (A 2) (q 35) 8 (A 27 k)) (htw : 0 < q 837 → wv (A 5) (A 6) (A 7) (A 8) (A 9) (A 2) (q 35) 8 (q 840)) : xMet Z d Y_PF_pages [xC 0] (hF q (x_up (x_up (x_up (x_up r 7 (some 26)) 8 (some 32)) 9 (some 38)) 10 (some 40)) A ++ dy) (fun v h2 => (¬ 0 < q 837 ∧ v = some (xI (-2)) ∧ h2 = hF q (x_up (x_up (x_up (x_up r 7 (some 26)) 8 (some 32)) 9 (some 38)) 10 (some 40)) A ++ dy) ∨ (0 < q 837 ∧ ∃ sn2 nu2 fd2, h2 = hF (x_up q 737 fd2) (x_up (x_up (x_up (x_up (x_up r 740 (some 26)) 7 (some 26)) 8 (some 32)) 9 (some 38)) 10 (some 40)) (x_up (x_up A 24 nu2) 25 sn2) ++ dy ∧ ((∃ L2, s_pgs (A 5) (A 6) (A 7) (A 8) (A 9) (A 2) (A 27) (A 28) (A 29) (q 35) (q 837) (q 840) = some L2 ∧ v = some (xI (L2.length : Int))) ∨ (s_pgs (A 5) (A 6) (A 7) (A 8) (A 9) (A 2) (A 27) (A 28) (A 29) (q 35) (q 837) (q 840) = none ∧ v = some (xI (-4)))))) := by
  refine xMet_of (by decide) (Nat.le_of_ble_eq_true rfl) (fun v h2 hq => by obtain ⟨_, e, _⟩ | ⟨_, _, _, _, _, ⟨_, _, e⟩ | ⟨_, e⟩⟩ := hq <;> rw [e] <;> trivial) ?_
  refine x_aload_n (x_d C_PF_pages 0 rfl) rfl ?_
  refine x_getfield (v := xC 26) (x_d C_PF_pages 1 rfl) f_PF_69 rfl rfl ?_
  refine x_invokevirtual (st := []) (av := []) (x_d C_PF_pages 2 rfl) k_PF_141 m_B_isOpen v_B_isOpen cl_B rfl rfl (Nat.le_of_ble_eq_true rfl) (by omega) rfl (c_B_isOpen Z (d - 1) q (x_up (x_up (x_up (x_up r 7 (some 26)) 8 (some 32)) 9 (some 38)) 10 (some 40)) A dy) ?_
  rintro v_ _ ⟨hv_, rfl⟩
  obtain ⟨z1, rfl, hz1⟩ : ∃ z : Int, v_ = some (xI z) ∧ ((z = 1 ∧ (0 < q 837)) ∨ (z = 0 ∧ ¬ (0 < q 837))) := ⟨_, hv_, by by_cases c_ : (0 < q 837); exact Or.inl ⟨x_bo_t c_, c_⟩; exact Or.inr ⟨x_bo_f c_, c_⟩⟩
  refine x_if_ne (tgt := 13) (x_d C_PF_pages 3 rfl) rfl (fun c2 => ?_) (fun c2 => ?_)
  · refine x_aload_n (x_d C_PF_pages 6 rfl) rfl ?_
    refine x_getfield (v := xC 23) (x_d C_PF_pages 7 rfl) f_PF_62 rfl rfl ?_
    refine x_aload_n (x_d C_PF_pages 8 rfl) rfl ?_
    refine x_getfield (v := xC 26) (x_d C_PF_pages 9 rfl) f_PF_69 rfl rfl ?_
    refine x_invokevirtual (st := []) (av := [xC 26]) (x_d C_PF_pages 10 rfl) k_PF_258 m_PW_through v_PW_through cl_PW rfl rfl (Nat.le_of_ble_eq_true rfl) (by omega) rfl (c_PW_through Z (d - 1) q (x_up (x_up (x_up (x_up r 7 (some 26)) 8 (some 32)) 9 (some 38)) 10 (some 40)) A dy (by omega) hz hT hR hsp hus (htw (by omega))) ?_
    rintro v_ _ ⟨sn2, nu2, fd2, rfl, ⟨hv_, L2, hL2, hfd, h300, hnu⟩ | ⟨hv_, hL2⟩⟩
    · obtain rfl := hv_
      refine x_if_eq (tgt := 37) (x_d C_PF_pages 11 rfl) rfl (fun q => absurd q (by omega)) (fun _ => ?_)
      refine x_aload_n (x_d C_PF_pages 12 rfl) rfl ?_
      refine x_getfield (v := xC 23) (x_d C_PF_pages 13 rfl) f_PF_62 rfl rfl ?_
      refine x_getfield (v := xI (fd2)) (x_d C_PF_pages 14 rfl) f_PF_262 rfl rfl ?_
      refine x_goto (tgt := 39) (x_d C_PF_pages 15 rfl) rfl ?_
      refine x_ireturn (x_d C_PF_pages 17 rfl) ?_
      exact Or.inr ⟨by omega, _, _, _, rfl, Or.inl ⟨L2, hL2, by rw [hfd]⟩⟩
    · obtain rfl := hv_
      refine x_if_eq (tgt := 37) (x_d C_PF_pages 11 rfl) rfl (fun _ => ?_) (fun q => absurd q (by omega))
      refine x_bipush (x_d C_PF_pages 16 rfl) (by omega) ?_
      refine x_ireturn (x_d C_PF_pages 17 rfl) ?_
      exact Or.inr ⟨by omega, _, _, _, rfl, Or.inr ⟨hL2, rfl⟩⟩
  · refine x_bipush (x_d C_PF_pages 4 rfl) (by omega) ?_
    refine x_ireturn (x_d C_PF_pages 5 rfl) ?_
    exact Or.inl ⟨by omega, rfl, rfl⟩
theorem c_PF_page (Z : xZ) (d : Nat) (q : Nat → Int) (r : Nat → Option Nat) (A : Nat → Nat → Int) (dy : xH) (hd : 28 ≤ d) (n : Int) (hT : 0 ≤ q 34 ∧ q 34 ≤ q 35 ∧ q 35 ≤ 10248) (hz : 0 ≤ q 837 ∧ q 837 ≤ 300) (hR : s_okR A) (hsp : ∀ j, 0 ≤ A 8 j ∧ A 8 j ≤ 12900) (hus : ∀ k : Nat, (k : Int) < q 837 → ¬ A 29 k = 0 → wv (A 5) (A 6) (A 7) (A 8) (A 9) (A 2) (q 35) 8 (A 27 k)) (htw : 0 < q 837 → wv (A 5) (A 6) (A 7) (A 8) (A 9) (A 2) (q 35) 8 (q 840)) : xMet Z d Y_PF_page [xC 0, xI n] (hF q (x_up (x_up (x_up (x_up r 7 (some 26)) 8 (some 32)) 9 (some 38)) 10 (some 40)) A ++ dy) (fun v h2 => (¬ 0 < q 837 ∧ v = some (xI (-2)) ∧ h2 = hF q (x_up (x_up (x_up (x_up r 7 (some 26)) 8 (some 32)) 9 (some 38)) 10 (some 40)) A ++ dy) ∨ (0 < q 837 ∧ ∃ sn2 nu2 fd2, h2 = hF (x_up q 737 fd2) (x_up (x_up (x_up (x_up (x_up r 740 (some 26)) 7 (some 26)) 8 (some 32)) 9 (some 38)) 10 (some 40)) (x_up (x_up A 24 nu2) 25 sn2) ++ dy ∧ v = some (xI (match s_pgs (A 5) (A 6) (A 7) (A 8) (A 9) (A 2) (A 27) (A 28) (A 29) (q 35) (q 837) (q 840) with | none => -2 | some L2 => if 0 ≤ n ∧ n < L2.length then L2.getD n.toNat 0 else -2)))) := by
  refine xMet_of (by decide) (Nat.le_of_ble_eq_true rfl) (fun v h2 hq => by obtain ⟨_, e, _⟩ | ⟨_, _, _, _, _, e⟩ := hq <;> rw [e] <;> trivial) ?_
  refine x_aload_n (x_d C_PF_page 0 rfl) rfl ?_
  refine x_getfield (v := xC 26) (x_d C_PF_page 1 rfl) f_PF_69 rfl rfl ?_
  refine x_invokevirtual (st := []) (av := []) (x_d C_PF_page 2 rfl) k_PF_141 m_B_isOpen v_B_isOpen cl_B rfl rfl (Nat.le_of_ble_eq_true rfl) (by omega) rfl (c_B_isOpen Z (d - 1) q (x_up (x_up (x_up (x_up r 7 (some 26)) 8 (some 32)) 9 (some 38)) 10 (some 40)) A dy) ?_
  rintro v_ _ ⟨hv_, rfl⟩
  obtain ⟨z1, rfl, hz1⟩ : ∃ z : Int, v_ = some (xI z) ∧ ((z = 1 ∧ (0 < q 837)) ∨ (z = 0 ∧ ¬ (0 < q 837))) := ⟨_, hv_, by by_cases c_ : (0 < q 837); exact Or.inl ⟨x_bo_t c_, c_⟩; exact Or.inr ⟨x_bo_f c_, c_⟩⟩
  refine x_if_eq (tgt := 24) (x_d C_PF_page 3 rfl) rfl (fun c2 => ?_) (fun c2 => ?_)
  · refine x_bipush (x_d C_PF_page 10 rfl) (by omega) ?_
    refine x_ireturn (x_d C_PF_page 11 rfl) ?_
    exact Or.inl ⟨by omega, rfl, rfl⟩
  · refine x_aload_n (x_d C_PF_page 4 rfl) rfl ?_
    refine x_getfield (v := xC 23) (x_d C_PF_page 5 rfl) f_PF_62 rfl rfl ?_
    refine x_aload_n (x_d C_PF_page 6 rfl) rfl ?_
    refine x_getfield (v := xC 26) (x_d C_PF_page 7 rfl) f_PF_69 rfl rfl ?_
    refine x_invokevirtual (st := []) (av := [xC 26]) (x_d C_PF_page 8 rfl) k_PF_258 m_PW_through v_PW_through cl_PW rfl rfl (Nat.le_of_ble_eq_true rfl) (by omega) rfl (c_PW_through Z (d - 1) q (x_up (x_up (x_up (x_up r 7 (some 26)) 8 (some 32)) 9 (some 38)) 10 (some 40)) A dy (by omega) hz hT hR hsp hus (htw (by omega))) ?_
    rintro v_ _ ⟨sn2, nu2, fd2, rfl, ⟨hv_, L2, hL2, hfd, h300, hnu⟩ | ⟨hv_, hL2⟩⟩
    · obtain rfl := hv_
      refine x_if_ne (tgt := 27) (x_d C_PF_page 9 rfl) rfl (fun _ => ?_) (fun q => absurd q (by omega))
      refine x_iload_n (x_d C_PF_page 12 rfl) rfl ?_
      refine x_if_lt (tgt := 54) (x_d C_PF_page 13 rfl) rfl (fun c4 => ?_) (fun c4 => ?_)
      · refine x_bipush (x_d C_PF_page 25 rfl) (by omega) ?_
        refine x_ireturn (x_d C_PF_page 26 rfl) ?_
        refine Or.inr ⟨by omega, _, _, _, rfl, ?_⟩
        rw [hL2]
        show _ = some (xI (if 0 ≤ n ∧ n < L2.length then L2.getD n.toNat 0 else -2))
        rw [if_neg (by omega)]
      · refine x_iload_n (x_d C_PF_page 14 rfl) rfl ?_
        refine x_aload_n (x_d C_PF_page 15 rfl) rfl ?_
        refine x_getfield (v := xC 23) (x_d C_PF_page 16 rfl) f_PF_62 rfl rfl ?_
        refine x_getfield (v := xI (fd2)) (x_d C_PF_page 17 rfl) f_PF_262 rfl rfl ?_
        refine x_icmp_ge (tgt := 54) (x_d C_PF_page 18 rfl) rfl (fun c5 => ?_) (fun c5 => ?_)
        · refine x_bipush (x_d C_PF_page 25 rfl) (by omega) ?_
          refine x_ireturn (x_d C_PF_page 26 rfl) ?_
          refine Or.inr ⟨by omega, _, _, _, rfl, ?_⟩
          rw [hL2]
          show _ = some (xI (if 0 ≤ n ∧ n < L2.length then L2.getD n.toNat 0 else -2))
          rw [if_neg (by omega)]
        · refine x_aload_n (x_d C_PF_page 19 rfl) rfl ?_
          refine x_getfield (v := xC 23) (x_d C_PF_page 20 rfl) f_PF_62 rfl rfl ?_
          refine x_getfield (v := xC 24) (x_d C_PF_page 21 rfl) f_PF_265 rfl rfl ?_
          refine x_iload_n (x_d C_PF_page 22 rfl) rfl ?_
          refine x_iaload (f := nu2) (x_d C_PF_page 23 rfl) rfl (by omega) (by omega) ?_
          refine x_goto (tgt := 56) (x_d C_PF_page 24 rfl) rfl ?_
          refine x_ireturn (x_d C_PF_page 26 rfl) ?_
          refine Or.inr ⟨by omega, _, _, _, rfl, ?_⟩
          rw [hL2]
          show _ = some (xI (if 0 ≤ n ∧ n < L2.length then L2.getD n.toNat 0 else -2))
          rw [if_pos (by omega), ← hnu n.toNat (by omega)]
    · obtain rfl := hv_
      refine x_if_ne (tgt := 27) (x_d C_PF_page 9 rfl) rfl (fun q => absurd q (by omega)) (fun _ => ?_)
      refine x_bipush (x_d C_PF_page 10 rfl) (by omega) ?_
      refine x_ireturn (x_d C_PF_page 11 rfl) ?_
      exact Or.inr ⟨by omega, _, _, _, rfl, by rw [hL2]⟩
