/-! the reference: a dictionary -/
theorem s_sc_in {p : Int → Bool} {b : Nat → Int} {n : Int} : ∀ (k : Nat) {t : Int}, 0 ≤ t → t + k < s_sc p b n t → p (b (t + k).toNat) = true
  | 0, t, h0, h => by
    rw [show t + ((0 : Nat) : Int) = t by omega] at h ⊢
    cases hp : p (b t.toNat) with
    | true => rfl
    | false => rw [s_sc_stop (Or.inr (Or.inr hp))] at h; omega
  | k + 1, t, h0, h => by
    have h1 : p (b (t + ((0 : Nat) : Int)).toNat) = true := s_sc_in (n := n) 0 h0 (by omega)
    rw [show t + ((0 : Nat) : Int) = t by omega] at h1
    have hn : t < n := by
      rcases Int.lt_or_le t n with z | z
      · exact z
      · rw [s_sc_stop (Or.inr (Or.inl z))] at h; omega
    rw [s_sc_step h0 hn h1] at h
    have := s_sc_in (p := p) (b := b) (n := n) k (t := t + 1) (by omega) (by omega)
    rw [show t + ((k + 1 : Nat) : Int) = t + 1 + k by omega]
    exact this
theorem s_wd_reg {b : Nat → Int} {n t : Int} (h : 0 ≤ s_wd b n t) (k : Nat) (hk : (k : Int) < s_wd b n t - t) : s_reg (b (t.toNat + k)) = true := by
  have hi := s_wd_in b n t
  have e : s_wd b n t = s_sc s_reg b n t := by
    unfold s_wd at h ⊢
    by_cases c : t < s_sc s_reg b n t
    · rw [if_pos c]
    · rw [if_neg c] at h; omega
  have := s_sc_in (p := s_reg) (b := b) (n := n) k (t := t) (by omega) (by omega)
  rw [show (t + (k : Int)).toNat = t.toNat + k by omega] at this
  exact this
theorem w_M_dict_48 (Z : xZ) (d : Nat) (q : Nat → Int) (r : Nat → Option Nat) (A : Nat → Nat → Int) (dy : xH) (D : Nat) (hD : D ≤ 8) (hd : 3 * D + 13 ≤ d) (X : Nat → Int) (f : Int) (g : Nat → Option xE) (K : Nat → Nat → Nat) (hf : 0 ≤ f) (hn : 0 ≤ q 1345 ∧ q 1345 ≤ 4000) (hX : ∀ k : Nat, (k : Int) < q 1345 → A 44 k = X (f.toNat + k)) (hB : ∀ k, -128 ≤ X k ∧ X k ≤ 127) (hrec : OD Z q r A X f D) (e : Int) (he : e = 7 - (D : Int)) (p : Nat) : ∀ (m : Nat) (j : Int) (tz : Nat → Int) (ny : xH) (ci cn cap : Nat) (fi fn : Nat → Option Nat) (gk : Nat → Option xE) (L : List Int) (acc : List tk) (ns : List Int), L.length + m = 30 → (0 ≤ j ∧ j ≤ q 1345) → s_sc s_white X (f + q 1345) (f + j) = f + j → (cap = 4 ∨ cap = 8 ∨ cap = 16 ∨ cap = 32) → DS X (f + q 1345) dy g p (D + 1) ny ci cn cap cap fi fn gk L acc ns → (∀ u w, mu u w ny + k_ens (s_val X (f + q 1345) D) (k_val u w X (f + q 1345) D) u w X (f + q 1345) m L.length (f + j) ns ≤ K u w) → xW Z d Y_M_dict 48 [(0, xC 42), (1, xI e), (2, xC p)] [] (hF (x_up q 1346 j) (x_up r 1344 (some 44)) (x_up A 43 tz) ++ (dy ++ ny)) (orq q r A dy X f g K (D + 2) (s_bx 7 acc (s_ents (s_val X (f + q 1345) D) X (f + q 1345) m (f + j) ns))) := by
  have hXi : ∀ u : Int, 0 ≤ u → u < q 1345 → A 44 u.toNat = X (f + u).toNat := fun u h1 h2 => by rw [hX u.toNat (by omega)]; congr 1; omega
  intro m
  induction m with
  | zero =>
    intro j tz ny ci cn cap fi fn gk L acc ns hm hj hwh hcap hk hmu
    have hk0 := hk
    obtain ⟨a1, a2, a3, b3, a4, a5, a6, a7, a9, a10, a11, a12⟩ := hk0
    clear a11
    have xj := hXi j
    have bj := s_byte_in X (f + q 1345) (f + j)
    have bj1 := s_byte_in X (f + q 1345) (f + j + 1)
    have Bj := hB (f + j).toNat
    have hnmi := s_name_in X (f + q 1345) (f + j)
    have h62 := s_txt62 hB (f + q 1345) (f + j)
    refine x_aload_n (x_d C_M_dict 26 rfl) rfl ?_
    refine x_getfield (v := xI (j)) (x_d C_M_dict 27 rfl) f_M_7 rfl rfl ?_
    refine x_aload_n (x_d C_M_dict 28 rfl) rfl ?_
    refine x_getfield (v := xI (q 1345)) (x_d C_M_dict 29 rfl) f_M_11 rfl rfl ?_
    refine x_icmp_ge (tgt := 236) (x_d C_M_dict 30 rfl) rfl (fun c1 => ?_) (fun c1 => ?_)
    · refine x_aload_n (x_d C_M_dict 124 rfl) rfl ?_
      refine x_bipush (x_d C_M_dict 125 rfl) (by omega) ?_
      refine x_invokevirtual (st := []) (av := [xI (62)]) (x_d C_M_dict 126 rfl) k_M_132 m_M_takeByte v_M_takeByte cl_M rfl rfl (Nat.le_of_ble_eq_true rfl) (by omega) rfl (c_M_takeByte Z (d - 1) q r (x_up A 43 tz) (dy ++ ny) X f j 62 hf hn hX (by omega) hB (by omega)) ?_
      rintro v_ _ ⟨z2, j2, rfl, rfl, hz2⟩
      have hz2 : (z2 = 1 ∧ s_byte X (f + q 1345) (f + j) = 62 ∧ j2 = j + 1 ∧ j < q 1345) ∨ (z2 = 0 ∧ ¬ s_byte X (f + q 1345) (f + j) = 62 ∧ j2 = j) := hz2
      refine x_if_eq (tgt := 258) (x_d C_M_dict 127 rfl) rfl (fun c3 => ?_) (fun c3 => ?_)
      · refine x_null (x_d C_M_dict 134 rfl) ?_
        refine x_areturn (x_d C_M_dict 135 rfl) ?_
        have e0 : s_ents (s_val X (f + q 1345) D) X (f + q 1345) 0 (f + j) ns = none := by
          by_cases c62 : s_byte X (f + q 1345) (f + j) = 62
          · exact s_ents_62 c62 (by omega)
          · exact s_ents_bad c62 (by omega)
        rw [e0, s_bx_none]
        exact orq_fail (by omega) (fun u w => by have := hmu u w; omega)
      · have hs2 : s_byte X (f + q 1345) (f + j2) = s_byte X (f + q 1345) (f + j + 1) := by rw [show f + j2 = f + j + 1 by omega]
        refine x_aload_n (x_d C_M_dict 128 rfl) rfl ?_
        refine x_bipush (x_d C_M_dict 129 rfl) (by omega) ?_
        refine x_invokevirtual (st := []) (av := [xI (62)]) (x_d C_M_dict 130 rfl) k_M_132 m_M_takeByte v_M_takeByte cl_M rfl rfl (Nat.le_of_ble_eq_true rfl) (by omega) rfl (c_M_takeByte Z (d - 1) q r (x_up A 43 tz) (dy ++ ny) X f j2 62 hf hn hX (by omega) hB (by omega)) ?_
        rintro v_ _ ⟨z4, j4, rfl, rfl, hz4⟩
        have hz4 : (z4 = 1 ∧ s_byte X (f + q 1345) (f + j2) = 62 ∧ j4 = j2 + 1 ∧ j2 < q 1345) ∨ (z4 = 0 ∧ ¬ s_byte X (f + q 1345) (f + j2) = 62 ∧ j4 = j2) := hz4
        refine x_if_eq (tgt := 258) (x_d C_M_dict 131 rfl) rfl (fun c5 => ?_) (fun c5 => ?_)
        · refine x_null (x_d C_M_dict 134 rfl) ?_
          refine x_areturn (x_d C_M_dict 135 rfl) ?_
          have e0 : s_ents (s_val X (f + q 1345) D) X (f + q 1345) 0 (f + j) ns = none := by
            by_cases c62 : s_byte X (f + q 1345) (f + j) = 62
            · exact s_ents_62 c62 (by omega)
            · exact s_ents_bad c62 (by omega)
          rw [e0, s_bx_none]
          exact orq_fail (by omega) (fun u w => by have := hmu u w; omega)
        · refine x_aload_n (x_d C_M_dict 132 rfl) rfl ?_
          refine x_goto (tgt := 259) (x_d C_M_dict 133 rfl) rfl ?_
          refine x_areturn (x_d C_M_dict 135 rfl) ?_
          rw [s_ents_ok2 (by omega) (by omega) (by omega)]
          exact DS_done hk (by omega) (fun u w => by have := hmu u w; omega) (by omega)
    · refine x_aload_n (x_d C_M_dict 31 rfl) rfl ?_
      refine x_getfield (v := xC 44) (x_d C_M_dict 32 rfl) f_M_14 rfl rfl ?_
      refine x_aload_n (x_d C_M_dict 33 rfl) rfl ?_
      refine x_getfield (v := xI (j)) (x_d C_M_dict 34 rfl) f_M_7 rfl rfl ?_
      refine x_baload (f := A 44) (x_d C_M_dict 35 rfl) rfl (by omega) (by omega) ?_
      refine x_bipush (x_d C_M_dict 36 rfl) (by omega) ?_
      refine x_icmp_ne (tgt := 236) (x_d C_M_dict 37 rfl) rfl (fun c6 => ?_) (fun c6 => ?_)
      · refine x_aload_n (x_d C_M_dict 124 rfl) rfl ?_
        refine x_bipush (x_d C_M_dict 125 rfl) (by omega) ?_
        refine x_invokevirtual (st := []) (av := [xI (62)]) (x_d C_M_dict 126 rfl) k_M_132 m_M_takeByte v_M_takeByte cl_M rfl rfl (Nat.le_of_ble_eq_true rfl) (by omega) rfl (c_M_takeByte Z (d - 1) q r (x_up A 43 tz) (dy ++ ny) X f j 62 hf hn hX (by omega) hB (by omega)) ?_
        rintro v_ _ ⟨z7, j7, rfl, rfl, hz7⟩
        have hz7 : (z7 = 1 ∧ s_byte X (f + q 1345) (f + j) = 62 ∧ j7 = j + 1 ∧ j < q 1345) ∨ (z7 = 0 ∧ ¬ s_byte X (f + q 1345) (f + j) = 62 ∧ j7 = j) := hz7
        refine x_if_eq (tgt := 258) (x_d C_M_dict 127 rfl) rfl (fun c8 => ?_) (fun c8 => ?_)
        · refine x_null (x_d C_M_dict 134 rfl) ?_
          refine x_areturn (x_d C_M_dict 135 rfl) ?_
          have e0 : s_ents (s_val X (f + q 1345) D) X (f + q 1345) 0 (f + j) ns = none := by
            by_cases c62 : s_byte X (f + q 1345) (f + j) = 62
            · exact s_ents_62 c62 (by omega)
            · exact s_ents_bad c62 (by omega)
          rw [e0, s_bx_none]
          exact orq_fail (by omega) (fun u w => by have := hmu u w; omega)
        · have hs2 : s_byte X (f + q 1345) (f + j7) = s_byte X (f + q 1345) (f + j + 1) := by rw [show f + j7 = f + j + 1 by omega]
          refine x_aload_n (x_d C_M_dict 128 rfl) rfl ?_
          refine x_bipush (x_d C_M_dict 129 rfl) (by omega) ?_
          refine x_invokevirtual (st := []) (av := [xI (62)]) (x_d C_M_dict 130 rfl) k_M_132 m_M_takeByte v_M_takeByte cl_M rfl rfl (Nat.le_of_ble_eq_true rfl) (by omega) rfl (c_M_takeByte Z (d - 1) q r (x_up A 43 tz) (dy ++ ny) X f j7 62 hf hn hX (by omega) hB (by omega)) ?_
          rintro v_ _ ⟨z9, j9, rfl, rfl, hz9⟩
          have hz9 : (z9 = 1 ∧ s_byte X (f + q 1345) (f + j7) = 62 ∧ j9 = j7 + 1 ∧ j7 < q 1345) ∨ (z9 = 0 ∧ ¬ s_byte X (f + q 1345) (f + j7) = 62 ∧ j9 = j7) := hz9
          refine x_if_eq (tgt := 258) (x_d C_M_dict 131 rfl) rfl (fun c10 => ?_) (fun c10 => ?_)
          · refine x_null (x_d C_M_dict 134 rfl) ?_
            refine x_areturn (x_d C_M_dict 135 rfl) ?_
            have e0 : s_ents (s_val X (f + q 1345) D) X (f + q 1345) 0 (f + j) ns = none := by
              by_cases c62 : s_byte X (f + q 1345) (f + j) = 62
              · exact s_ents_62 c62 (by omega)
              · exact s_ents_bad c62 (by omega)
            rw [e0, s_bx_none]
            exact orq_fail (by omega) (fun u w => by have := hmu u w; omega)
          · refine x_aload_n (x_d C_M_dict 132 rfl) rfl ?_
            refine x_goto (tgt := 259) (x_d C_M_dict 133 rfl) rfl ?_
            refine x_areturn (x_d C_M_dict 135 rfl) ?_
            rw [s_ents_ok2 (by omega) (by omega) (by omega)]
            exact DS_done hk (by omega) (fun u w => by have := hmu u w; omega) (by omega)
      · refine x_aload_n (x_d C_M_dict 38 rfl) rfl ?_
        refine x_invokevirtual (st := []) (av := []) (x_d C_M_dict 39 rfl) k_M_63 m_M_name v_M_name cl_M rfl rfl (Nat.le_of_ble_eq_true rfl) (by omega) rfl (c_M_name Z (d - 1) q r A (dy ++ ny) (by omega) X f j tz hf hn hX hj hB (by omega)) ?_
        have h62n : ¬ s_byte X (f + q 1345) (f + j) = 62 := by omega
        rintro v_ h_ (⟨hs, rfl, rfl⟩ | ⟨hs, rfl, fb, hh_, hfb⟩)
        · rw [s_ents_bad h62n hs, s_bx_none]
          refine x_astore_n (l1 := [(3, xN), (0, xC 42), (1, xI (e)), (2, xC p)]) (x_d C_M_dict 40 rfl) (by decide) rfl ?_
          refine x_aload_n (x_d C_M_dict 41 rfl) rfl ?_
          refine x_ifnullN (tgt := 108) (x_d C_M_dict 42 rfl) rfl ?_
          refine x_null (x_d C_M_dict 56 rfl) ?_
          refine x_areturn (x_d C_M_dict 57 rfl) ?_
          exact orq_fail hj (fun u w => by have := hmu u w; omega)
        · obtain rfl : h_ = hF (x_up q 1346 (s_name X (f + q 1345) (f + j) - f)) (x_up r 1344 (some 44)) (x_up A 43 tz) ++ (dy ++ (ny ++ [xB 12 [xI 4, xI 0, xI 0, xI 0, xC (52 + (dy ++ ny).length + 1), xN, xN], xA 1 (s_name X (f + q 1345) (f + j) - (f + j) - 1).toNat fb])) := by rw [hh_, List.append_assoc]
          have hc3 : ct (dy ++ (ny ++ [xB 12 [xI 4, xI 0, xI 0, xI 0, xC (52 + (dy ++ ny).length + 1), xN, xN], xA 1 (s_name X (f + q 1345) (f + j) - (f + j) - 1).toNat fb])) (52 + (dy ++ ny).length) (xB 12 [xI 4, xI 0, xI 0, xI 0, xC (52 + (dy ++ ny).length + 1), xN, xN]) := by rw [← List.append_assoc dy]; exact ct_new0 (dy ++ ny) _ rfl
          have hcb : ct (dy ++ (ny ++ [xB 12 [xI 4, xI 0, xI 0, xI 0, xC (52 + (dy ++ ny).length + 1), xN, xN], xA 1 (s_name X (f + q 1345) (f + j) - (f + j) - 1).toNat fb])) (52 + (dy ++ ny).length + 1) (xA 1 (s_name X (f + q 1345) (f + j) - (f + j) - 1).toNat fb) := by rw [← List.append_assoc dy]; exact ct_new (dy ++ ny) _ 1 rfl
          have hmuN : ∀ u w, mu u w (ny ++ [xB 12 [xI 4, xI 0, xI 0, xI 0, xC (52 + (dy ++ ny).length + 1), xN, xN], xA 1 (s_name X (f + q 1345) (f + j) - (f + j) - 1).toNat fb]) = mu u w ny + k_nm u w X (f + q 1345) (f + j) := fun u w => by unfold k_nm; rw [mu_app, mu_cons, mu_cons, mu_nil]; show _ + (u + w * 7 + (u + w * (s_name X (f + q 1345) (f + j) - (f + j) - 1).toNat + 0)) = _; rw [Nat.mul_comm w (s_name X (f + q 1345) (f + j) - (f + j) - 1).toNat]; omega
          have hkx : DS X (f + q 1345) dy g p (D + 1) (ny ++ [xB 12 [xI 4, xI 0, xI 0, xI 0, xC (52 + (dy ++ ny).length + 1), xN, xN], xA 1 (s_name X (f + q 1345) (f + j) - (f + j) - 1).toNat fb]) ci cn cap cap fi fn (x_up (x_up gk (52 + (dy ++ ny).length) (some (xB 12 [xI 4, xI 0, xI 0, xI 0, xC (52 + (dy ++ ny).length + 1), xN, xN]))) (52 + (dy ++ ny).length + 1) (some (xA 1 (s_name X (f + q 1345) (f + j) - (f + j) - 1).toNat fb))) L acc ns := DS_obj hk (fun k e2 z => by have := ct_lt (a4 k e2 z); rw [x_up_n _ _ (by omega), x_up_n _ _ (by omega)]; exact z) (gok_new (gok_new (by rw [← List.append_assoc]; exact gok_app a4 _) hc3) hcb) (gnw_up (gnw_up (gnw_rf gk _) (Nat.le_refl _) _) (by omega) _)
          have g3 : (x_up (x_up gk (52 + (dy ++ ny).length) (some (xB 12 [xI 4, xI 0, xI 0, xI 0, xC (52 + (dy ++ ny).length + 1), xN, xN]))) (52 + (dy ++ ny).length + 1) (some (xA 1 (s_name X (f + q 1345) (f + j) - (f + j) - 1).toNat fb))) (52 + (dy ++ ny).length) = some (xB 12 [xI 4, xI 0, xI 0, xI 0, xC (52 + (dy ++ ny).length + 1), xN, xN]) := by rw [x_up_n _ _ (by omega), x_up_s]
          have gcb : (x_up (x_up gk (52 + (dy ++ ny).length) (some (xB 12 [xI 4, xI 0, xI 0, xI 0, xC (52 + (dy ++ ny).length + 1), xN, xN]))) (52 + (dy ++ ny).length + 1) (some (xA 1 (s_name X (f + q 1345) (f + j) - (f + j) - 1).toNat fb))) (52 + (dy ++ ny).length + 1) = some (xA 1 (s_name X (f + q 1345) (f + j) - (f + j) - 1).toNat fb) := x_up_s _ _ _
          generalize hg1 : (x_up (x_up gk (52 + (dy ++ ny).length) (some (xB 12 [xI 4, xI 0, xI 0, xI 0, xC (52 + (dy ++ ny).length + 1), xN, xN]))) (52 + (dy ++ ny).length + 1) (some (xA 1 (s_name X (f + q 1345) (f + j) - (f + j) - 1).toNat fb))) = g1 at hkx g3 gcb
          clear hg1
          generalize hny1 : (ny ++ [xB 12 [xI 4, xI 0, xI 0, xI 0, xC (52 + (dy ++ ny).length + 1), xN, xN], xA 1 (s_name X (f + q 1345) (f + j) - (f + j) - 1).toNat fb]) = ny1 at hkx hmuN hc3 hcb ⊢
          clear hny1
          generalize hcq : 52 + (dy ++ ny).length = cq at g3 gcb hc3 hcb ⊢
          obtain ⟨cb, hcbe⟩ : ∃ cb, cb = cq + 1 := ⟨_, rfl⟩
          rw [← hcbe] at g3 gcb hc3 hcb
          clear hcq hcbe
          obtain ⟨len, hlen⟩ : ∃ len, len = (s_name X (f + q 1345) (f + j) - (f + j) - 1).toNat := ⟨_, rfl⟩
          rw [← hlen] at gcb hcb
          have hk1 := hkx
          obtain ⟨d1, d2, d3, -, d4, -, -, -, d9, -⟩ := hk1
          refine x_astore_n (l1 := [(3, xC cq), (0, xC 42), (1, xI (e)), (2, xC p)]) (x_d C_M_dict 40 rfl) (by decide) rfl ?_
          refine x_aload_n (x_d C_M_dict 41 rfl) rfl ?_
          refine x_ifnullC (tgt := 108) (x_d C_M_dict 42 rfl) rfl ?_
          refine x_aload_n (x_d C_M_dict 43 rfl) rfl ?_
          refine x_getfield (v := xI ((L.length : Int))) (x_d C_M_dict 44 rfl) f_M_145 (ct_get d1 _ _ _) rfl ?_
          refine x_bipush (x_d C_M_dict 45 rfl) (by omega) ?_
          refine x_icmp_eq (tgt := 108) (x_d C_M_dict 46 rfl) rfl (fun _ => ?_) (fun q => absurd q (by omega))
          refine x_null (x_d C_M_dict 56 rfl) ?_
          refine x_areturn (x_d C_M_dict 57 rfl) ?_
          rw [s_ents_0 h62n, s_bx_none]
          have hke : ∀ u w, k_ens (s_val X (f + q 1345) D) (k_val u w X (f + q 1345) D) u w X (f + q 1345) 0 L.length (f + j) ns = k_nm u w X (f + q 1345) (f + j) := fun u w => by unfold k_ens; rw [if_neg (by omega)]
          exact orq_fail (by omega) (fun u w => by have a1 := hmu u w; rw [hke u w] at a1; have a2 := hmuN u w; omega)
  | succ m ih =>
    intro j tz ny ci cn cap fi fn gk L acc ns hm hj hwh hcap hk hmu
    have hk0 := hk
    obtain ⟨a1, a2, a3, b3, a4, a5, a6, a7, a9, a10, a11, a12⟩ := hk0
    clear a11
    have xj := hXi j
    have bj := s_byte_in X (f + q 1345) (f + j)
    have bj1 := s_byte_in X (f + q 1345) (f + j + 1)
    have Bj := hB (f + j).toNat
    have hnmi := s_name_in X (f + q 1345) (f + j)
    have h62 := s_txt62 hB (f + q 1345) (f + j)
    refine x_aload_n (x_d C_M_dict 26 rfl) rfl ?_
    refine x_getfield (v := xI (j)) (x_d C_M_dict 27 rfl) f_M_7 rfl rfl ?_
    refine x_aload_n (x_d C_M_dict 28 rfl) rfl ?_
    refine x_getfield (v := xI (q 1345)) (x_d C_M_dict 29 rfl) f_M_11 rfl rfl ?_
    refine x_icmp_ge (tgt := 236) (x_d C_M_dict 30 rfl) rfl (fun c1 => ?_) (fun c1 => ?_)
    · refine x_aload_n (x_d C_M_dict 124 rfl) rfl ?_
      refine x_bipush (x_d C_M_dict 125 rfl) (by omega) ?_
      refine x_invokevirtual (st := []) (av := [xI (62)]) (x_d C_M_dict 126 rfl) k_M_132 m_M_takeByte v_M_takeByte cl_M rfl rfl (Nat.le_of_ble_eq_true rfl) (by omega) rfl (c_M_takeByte Z (d - 1) q r (x_up A 43 tz) (dy ++ ny) X f j 62 hf hn hX (by omega) hB (by omega)) ?_
      rintro v_ _ ⟨z2, j2, rfl, rfl, hz2⟩
      have hz2 : (z2 = 1 ∧ s_byte X (f + q 1345) (f + j) = 62 ∧ j2 = j + 1 ∧ j < q 1345) ∨ (z2 = 0 ∧ ¬ s_byte X (f + q 1345) (f + j) = 62 ∧ j2 = j) := hz2
      refine x_if_eq (tgt := 258) (x_d C_M_dict 127 rfl) rfl (fun c3 => ?_) (fun c3 => ?_)
      · refine x_null (x_d C_M_dict 134 rfl) ?_
        refine x_areturn (x_d C_M_dict 135 rfl) ?_
        have e0 : s_ents (s_val X (f + q 1345) D) X (f + q 1345) (m + 1) (f + j) ns = none := by
          by_cases c62 : s_byte X (f + q 1345) (f + j) = 62
          · exact s_ents_62 c62 (by omega)
          · exact s_ents_bad c62 (by omega)
        rw [e0, s_bx_none]
        exact orq_fail (by omega) (fun u w => by have := hmu u w; omega)
      · have hs2 : s_byte X (f + q 1345) (f + j2) = s_byte X (f + q 1345) (f + j + 1) := by rw [show f + j2 = f + j + 1 by omega]
        refine x_aload_n (x_d C_M_dict 128 rfl) rfl ?_
        refine x_bipush (x_d C_M_dict 129 rfl) (by omega) ?_
        refine x_invokevirtual (st := []) (av := [xI (62)]) (x_d C_M_dict 130 rfl) k_M_132 m_M_takeByte v_M_takeByte cl_M rfl rfl (Nat.le_of_ble_eq_true rfl) (by omega) rfl (c_M_takeByte Z (d - 1) q r (x_up A 43 tz) (dy ++ ny) X f j2 62 hf hn hX (by omega) hB (by omega)) ?_
        rintro v_ _ ⟨z4, j4, rfl, rfl, hz4⟩
        have hz4 : (z4 = 1 ∧ s_byte X (f + q 1345) (f + j2) = 62 ∧ j4 = j2 + 1 ∧ j2 < q 1345) ∨ (z4 = 0 ∧ ¬ s_byte X (f + q 1345) (f + j2) = 62 ∧ j4 = j2) := hz4
        refine x_if_eq (tgt := 258) (x_d C_M_dict 131 rfl) rfl (fun c5 => ?_) (fun c5 => ?_)
        · refine x_null (x_d C_M_dict 134 rfl) ?_
          refine x_areturn (x_d C_M_dict 135 rfl) ?_
          have e0 : s_ents (s_val X (f + q 1345) D) X (f + q 1345) (m + 1) (f + j) ns = none := by
            by_cases c62 : s_byte X (f + q 1345) (f + j) = 62
            · exact s_ents_62 c62 (by omega)
            · exact s_ents_bad c62 (by omega)
          rw [e0, s_bx_none]
          exact orq_fail (by omega) (fun u w => by have := hmu u w; omega)
        · refine x_aload_n (x_d C_M_dict 132 rfl) rfl ?_
          refine x_goto (tgt := 259) (x_d C_M_dict 133 rfl) rfl ?_
          refine x_areturn (x_d C_M_dict 135 rfl) ?_
          rw [s_ents_ok2 (by omega) (by omega) (by omega)]
          exact DS_done hk (by omega) (fun u w => by have := hmu u w; omega) (by omega)
    · refine x_aload_n (x_d C_M_dict 31 rfl) rfl ?_
      refine x_getfield (v := xC 44) (x_d C_M_dict 32 rfl) f_M_14 rfl rfl ?_
      refine x_aload_n (x_d C_M_dict 33 rfl) rfl ?_
      refine x_getfield (v := xI (j)) (x_d C_M_dict 34 rfl) f_M_7 rfl rfl ?_
      refine x_baload (f := A 44) (x_d C_M_dict 35 rfl) rfl (by omega) (by omega) ?_
      refine x_bipush (x_d C_M_dict 36 rfl) (by omega) ?_
      refine x_icmp_ne (tgt := 236) (x_d C_M_dict 37 rfl) rfl (fun c6 => ?_) (fun c6 => ?_)
      · refine x_aload_n (x_d C_M_dict 124 rfl) rfl ?_
        refine x_bipush (x_d C_M_dict 125 rfl) (by omega) ?_
        refine x_invokevirtual (st := []) (av := [xI (62)]) (x_d C_M_dict 126 rfl) k_M_132 m_M_takeByte v_M_takeByte cl_M rfl rfl (Nat.le_of_ble_eq_true rfl) (by omega) rfl (c_M_takeByte Z (d - 1) q r (x_up A 43 tz) (dy ++ ny) X f j 62 hf hn hX (by omega) hB (by omega)) ?_
        rintro v_ _ ⟨z7, j7, rfl, rfl, hz7⟩
        have hz7 : (z7 = 1 ∧ s_byte X (f + q 1345) (f + j) = 62 ∧ j7 = j + 1 ∧ j < q 1345) ∨ (z7 = 0 ∧ ¬ s_byte X (f + q 1345) (f + j) = 62 ∧ j7 = j) := hz7
        refine x_if_eq (tgt := 258) (x_d C_M_dict 127 rfl) rfl (fun c8 => ?_) (fun c8 => ?_)
        · refine x_null (x_d C_M_dict 134 rfl) ?_
          refine x_areturn (x_d C_M_dict 135 rfl) ?_
          have e0 : s_ents (s_val X (f + q 1345) D) X (f + q 1345) (m + 1) (f + j) ns = none := by
            by_cases c62 : s_byte X (f + q 1345) (f + j) = 62
            · exact s_ents_62 c62 (by omega)
            · exact s_ents_bad c62 (by omega)
          rw [e0, s_bx_none]
          exact orq_fail (by omega) (fun u w => by have := hmu u w; omega)
        · have hs2 : s_byte X (f + q 1345) (f + j7) = s_byte X (f + q 1345) (f + j + 1) := by rw [show f + j7 = f + j + 1 by omega]
          refine x_aload_n (x_d C_M_dict 128 rfl) rfl ?_
          refine x_bipush (x_d C_M_dict 129 rfl) (by omega) ?_
          refine x_invokevirtual (st := []) (av := [xI (62)]) (x_d C_M_dict 130 rfl) k_M_132 m_M_takeByte v_M_takeByte cl_M rfl rfl (Nat.le_of_ble_eq_true rfl) (by omega) rfl (c_M_takeByte Z (d - 1) q r (x_up A 43 tz) (dy ++ ny) X f j7 62 hf hn hX (by omega) hB (by omega)) ?_
          rintro v_ _ ⟨z9, j9, rfl, rfl, hz9⟩
          have hz9 : (z9 = 1 ∧ s_byte X (f + q 1345) (f + j7) = 62 ∧ j9 = j7 + 1 ∧ j7 < q 1345) ∨ (z9 = 0 ∧ ¬ s_byte X (f + q 1345) (f + j7) = 62 ∧ j9 = j7) := hz9
          refine x_if_eq (tgt := 258) (x_d C_M_dict 131 rfl) rfl (fun c10 => ?_) (fun c10 => ?_)
          · refine x_null (x_d C_M_dict 134 rfl) ?_
            refine x_areturn (x_d C_M_dict 135 rfl) ?_
            have e0 : s_ents (s_val X (f + q 1345) D) X (f + q 1345) (m + 1) (f + j) ns = none := by
              by_cases c62 : s_byte X (f + q 1345) (f + j) = 62
              · exact s_ents_62 c62 (by omega)
              · exact s_ents_bad c62 (by omega)
            rw [e0, s_bx_none]
            exact orq_fail (by omega) (fun u w => by have := hmu u w; omega)
          · refine x_aload_n (x_d C_M_dict 132 rfl) rfl ?_
            refine x_goto (tgt := 259) (x_d C_M_dict 133 rfl) rfl ?_
            refine x_areturn (x_d C_M_dict 135 rfl) ?_
            rw [s_ents_ok2 (by omega) (by omega) (by omega)]
            exact DS_done hk (by omega) (fun u w => by have := hmu u w; omega) (by omega)
      · refine x_aload_n (x_d C_M_dict 38 rfl) rfl ?_
        refine x_invokevirtual (st := []) (av := []) (x_d C_M_dict 39 rfl) k_M_63 m_M_name v_M_name cl_M rfl rfl (Nat.le_of_ble_eq_true rfl) (by omega) rfl (c_M_name Z (d - 1) q r A (dy ++ ny) (by omega) X f j tz hf hn hX hj hB (by omega)) ?_
        have h62n : ¬ s_byte X (f + q 1345) (f + j) = 62 := by omega
        rintro v_ h_ (⟨hs, rfl, rfl⟩ | ⟨hs, rfl, fb, hh_, hfb⟩)
        · rw [s_ents_bad h62n hs, s_bx_none]
          refine x_astore_n (l1 := [(3, xN), (0, xC 42), (1, xI (e)), (2, xC p)]) (x_d C_M_dict 40 rfl) (by decide) rfl ?_
          refine x_aload_n (x_d C_M_dict 41 rfl) rfl ?_
          refine x_ifnullN (tgt := 108) (x_d C_M_dict 42 rfl) rfl ?_
          refine x_null (x_d C_M_dict 56 rfl) ?_
          refine x_areturn (x_d C_M_dict 57 rfl) ?_
          exact orq_fail hj (fun u w => by have := hmu u w; omega)
        · obtain rfl : h_ = hF (x_up q 1346 (s_name X (f + q 1345) (f + j) - f)) (x_up r 1344 (some 44)) (x_up A 43 tz) ++ (dy ++ (ny ++ [xB 12 [xI 4, xI 0, xI 0, xI 0, xC (52 + (dy ++ ny).length + 1), xN, xN], xA 1 (s_name X (f + q 1345) (f + j) - (f + j) - 1).toNat fb])) := by rw [hh_, List.append_assoc]
          have hc3 : ct (dy ++ (ny ++ [xB 12 [xI 4, xI 0, xI 0, xI 0, xC (52 + (dy ++ ny).length + 1), xN, xN], xA 1 (s_name X (f + q 1345) (f + j) - (f + j) - 1).toNat fb])) (52 + (dy ++ ny).length) (xB 12 [xI 4, xI 0, xI 0, xI 0, xC (52 + (dy ++ ny).length + 1), xN, xN]) := by rw [← List.append_assoc dy]; exact ct_new0 (dy ++ ny) _ rfl
          have hcb : ct (dy ++ (ny ++ [xB 12 [xI 4, xI 0, xI 0, xI 0, xC (52 + (dy ++ ny).length + 1), xN, xN], xA 1 (s_name X (f + q 1345) (f + j) - (f + j) - 1).toNat fb])) (52 + (dy ++ ny).length + 1) (xA 1 (s_name X (f + q 1345) (f + j) - (f + j) - 1).toNat fb) := by rw [← List.append_assoc dy]; exact ct_new (dy ++ ny) _ 1 rfl
          have hmuN : ∀ u w, mu u w (ny ++ [xB 12 [xI 4, xI 0, xI 0, xI 0, xC (52 + (dy ++ ny).length + 1), xN, xN], xA 1 (s_name X (f + q 1345) (f + j) - (f + j) - 1).toNat fb]) = mu u w ny + k_nm u w X (f + q 1345) (f + j) := fun u w => by unfold k_nm; rw [mu_app, mu_cons, mu_cons, mu_nil]; show _ + (u + w * 7 + (u + w * (s_name X (f + q 1345) (f + j) - (f + j) - 1).toNat + 0)) = _; rw [Nat.mul_comm w (s_name X (f + q 1345) (f + j) - (f + j) - 1).toNat]; omega
          have hkx : DS X (f + q 1345) dy g p (D + 1) (ny ++ [xB 12 [xI 4, xI 0, xI 0, xI 0, xC (52 + (dy ++ ny).length + 1), xN, xN], xA 1 (s_name X (f + q 1345) (f + j) - (f + j) - 1).toNat fb]) ci cn cap cap fi fn (x_up (x_up gk (52 + (dy ++ ny).length) (some (xB 12 [xI 4, xI 0, xI 0, xI 0, xC (52 + (dy ++ ny).length + 1), xN, xN]))) (52 + (dy ++ ny).length + 1) (some (xA 1 (s_name X (f + q 1345) (f + j) - (f + j) - 1).toNat fb))) L acc ns := DS_obj hk (fun k e2 z => by have := ct_lt (a4 k e2 z); rw [x_up_n _ _ (by omega), x_up_n _ _ (by omega)]; exact z) (gok_new (gok_new (by rw [← List.append_assoc]; exact gok_app a4 _) hc3) hcb) (gnw_up (gnw_up (gnw_rf gk _) (Nat.le_refl _) _) (by omega) _)
          have g3 : (x_up (x_up gk (52 + (dy ++ ny).length) (some (xB 12 [xI 4, xI 0, xI 0, xI 0, xC (52 + (dy ++ ny).length + 1), xN, xN]))) (52 + (dy ++ ny).length + 1) (some (xA 1 (s_name X (f + q 1345) (f + j) - (f + j) - 1).toNat fb))) (52 + (dy ++ ny).length) = some (xB 12 [xI 4, xI 0, xI 0, xI 0, xC (52 + (dy ++ ny).length + 1), xN, xN]) := by rw [x_up_n _ _ (by omega), x_up_s]
          have gcb : (x_up (x_up gk (52 + (dy ++ ny).length) (some (xB 12 [xI 4, xI 0, xI 0, xI 0, xC (52 + (dy ++ ny).length + 1), xN, xN]))) (52 + (dy ++ ny).length + 1) (some (xA 1 (s_name X (f + q 1345) (f + j) - (f + j) - 1).toNat fb))) (52 + (dy ++ ny).length + 1) = some (xA 1 (s_name X (f + q 1345) (f + j) - (f + j) - 1).toNat fb) := x_up_s _ _ _
          generalize hg1 : (x_up (x_up gk (52 + (dy ++ ny).length) (some (xB 12 [xI 4, xI 0, xI 0, xI 0, xC (52 + (dy ++ ny).length + 1), xN, xN]))) (52 + (dy ++ ny).length + 1) (some (xA 1 (s_name X (f + q 1345) (f + j) - (f + j) - 1).toNat fb))) = g1 at hkx g3 gcb
          clear hg1
          generalize hny1 : (ny ++ [xB 12 [xI 4, xI 0, xI 0, xI 0, xC (52 + (dy ++ ny).length + 1), xN, xN], xA 1 (s_name X (f + q 1345) (f + j) - (f + j) - 1).toNat fb]) = ny1 at hkx hmuN hc3 hcb ⊢
          clear hny1
          generalize hcq : 52 + (dy ++ ny).length = cq at g3 gcb hc3 hcb ⊢
          obtain ⟨cb, hcbe⟩ : ∃ cb, cb = cq + 1 := ⟨_, rfl⟩
          rw [← hcbe] at g3 gcb hc3 hcb
          clear hcq hcbe
          obtain ⟨len, hlen⟩ : ∃ len, len = (s_name X (f + q 1345) (f + j) - (f + j) - 1).toNat := ⟨_, rfl⟩
          rw [← hlen] at gcb hcb
          have hk1 := hkx
          obtain ⟨d1, d2, d3, -, d4, -, -, -, d9, -⟩ := hk1
          refine x_astore_n (l1 := [(3, xC cq), (0, xC 42), (1, xI (e)), (2, xC p)]) (x_d C_M_dict 40 rfl) (by decide) rfl ?_
          refine x_aload_n (x_d C_M_dict 41 rfl) rfl ?_
          refine x_ifnullC (tgt := 108) (x_d C_M_dict 42 rfl) rfl ?_
          refine x_aload_n (x_d C_M_dict 43 rfl) rfl ?_
          refine x_getfield (v := xI ((L.length : Int))) (x_d C_M_dict 44 rfl) f_M_145 (ct_get d1 _ _ _) rfl ?_
          refine x_bipush (x_d C_M_dict 45 rfl) (by omega) ?_
          refine x_icmp_eq (tgt := 108) (x_d C_M_dict 46 rfl) rfl (fun q => absurd q (by omega)) (fun _ => ?_)
          refine x_aload_n (x_d C_M_dict 47 rfl) rfl ?_
          refine x_aload_n (x_d C_M_dict 48 rfl) rfl ?_
          refine x_getfield (v := xC cb) (x_d C_M_dict 49 rfl) f_M_119 (ct_get hc3 _ _ _) rfl ?_
          refine x_iconst (x_d C_M_dict 50 rfl) ⟨by omega, by omega⟩ ?_
          refine x_aload_n (x_d C_M_dict 51 rfl) rfl ?_
          refine x_getfield (v := xC cb) (x_d C_M_dict 52 rfl) f_M_119 (ct_get hc3 _ _ _) rfl ?_
          refine x_arraylength (x_d C_M_dict 53 rfl) (ct_get hcb _ _ _) (by decide) (by omega) ?_
          obtain ⟨nb, nl, nf, hnn⟩ := DS_names hkx
          have hdup := DS_dup (M := (fun k => decide ((nl k : Int) = (len : Int)) && s_eqf (nf k) fb (0 : Int).toNat (len : Int).toNat)) (ns := ns) (S := (fun z => s_same X (f + q 1345) z (f + j + 1))) (fun k hk2 => nmw_same (hnn k (by omega)).2.2 (by omega) (by omega) (by omega) (fun k3 hk3 => by rw [hfb k3 (by omega)]))
          refine x_invokevirtual (st := []) (av := [xC cb, xI 0, xI (len : Int)]) (x_d C_M_dict 54 rfl) k_M_159 m_MQ_get1 v_MQ_get1 cl_MQ (ct_get d1 _ _ _) rfl (Nat.le_of_ble_eq_true rfl) (by omega) rfl (c_MQ_get1 Z (d - 1) (hF (x_up q 1346 (s_name X (f + q 1345) (f + j) - f)) (x_up r 1344 (some 44)) (x_up A 43 tz) ++ (dy ++ ny1)) (by omega) p ci cn cap cap 7 0 0 (L.length : Int) none fi fn nb nl nf (ct_get d1 _ _ _) (ct_get d2 _ _ _) (ct_get d3 _ _ _) (by omega) (fun k hk2 => ⟨(hnn k (by omega)).1, ct_get (d4 _ _ (hnn k (by omega)).2.1) _ _ _, by have := (hnn k (by omega)).2.2.2.2.1; omega⟩) cb len fb 0 len (ct_get hcb _ _ _) (by omega)) ?_
          rintro v_ h_ ⟨hv_, rfl⟩
          rw [show ((L.length : Nat) : Int).toNat = ns.length by omega] at hv_
          have hken : ∀ u w, k_ens (s_val X (f + q 1345) D) (k_val u w X (f + q 1345) D) u w X (f + q 1345) (m + 1) L.length (f + j) ns = k_nm u w X (f + q 1345) (f + j) + (if ns.any (fun z => s_same X (f + q 1345) z (f + j + 1)) = true then 0 else k_val u w X (f + q 1345) D (s_sc s_white X (f + q 1345) (s_name X (f + q 1345) (f + j))) + ((s_val X (f + q 1345) D (s_sc s_white X (f + q 1345) (s_name X (f + q 1345) (f + j)))).map (fun x => k_gr u w 2 L.length + k_ens (s_val X (f + q 1345) D) (k_val u w X (f + q 1345) D) u w X (f + q 1345) m (L.length + 1) (s_sc s_white X (f + q 1345) x.2) (ns ++ [f + j + 1]))).getD 0) := fun u w => by
            conv => lhs; unfold k_ens
            rw [if_neg h62n, if_neg (by omega)]
          have hmu := fun u w => (hken u w) ▸ hmu u w
          rw [s_ents_s h62n]
          rcases hdup with ⟨hi, hany⟩ | ⟨i, hi, hil, hany⟩
          · obtain rfl : v_ = some xN := by rw [hv_, hi]; rfl
            simp only [hany, Bool.false_eq_true, if_false] at hmu
            rw [hany, if_neg (by decide), if_neg (by omega)]
            refine x_ifnullN (tgt := 110) (x_d C_M_dict 55 rfl) rfl ?_
            refine x_aload_n (x_d C_M_dict 58 rfl) rfl ?_
            refine x_iload_n (x_d C_M_dict 59 rfl) rfl ?_
            refine x_iconst (x_d C_M_dict 60 rfl) ⟨by omega, by omega⟩ ?_
            refine x_iadd (x_d C_M_dict 61 rfl) ⟨by omega, by omega⟩ ?_
            refine x_invokevirtual (st := []) (av := [xI (e + 1)]) (x_d C_M_dict 62 rfl) k_M_148 m_M_object v_M_object cl_M rfl rfl (Nat.le_of_ble_eq_true rfl) (by omega) rfl (hrec (d - 1) (dy ++ ny1) g1 (s_name X (f + q 1345) (f + j) - f) tz (e + 1) (by omega) d4 (by omega) (by omega)) ?_
            rw [show f + (s_name X (f + q 1345) (f + j) - f) = s_name X (f + q 1345) (f + j) by omega]
            have hsge := s_sc_ge s_white X (f + q 1345) (s_name X (f + q 1345) (f + j))
            rintro v_ h_ ⟨j2, tk2, ny2, rfl, hj2, hmu2, hr_⟩
            have hmu2 : ∀ u w, mu u w ny2 ≤ k_val u w X (f + q 1345) D (s_sc s_white X (f + q 1345) (s_name X (f + q 1345) (f + j))) := hmu2
            rw [List.append_assoc]
            have hmuA := fun u w => mu_app u w ny1 ny2
            rcases hr_ with ⟨hs, rfl⟩ | ⟨ts, e2, c, g2, hs, rfl, he2, q1, q2, q3, q4, q5, -⟩
            · rw [hs, Option.bind_none, s_bx_none]
              refine x_astore (l1 := [(4, xN), (3, xC cq), (0, xC 42), (1, xI (e)), (2, xC p)]) (x_d C_M_dict 63 rfl) (by decide) rfl ?_
              refine x_aload (x_d C_M_dict 64 rfl) rfl ?_
              refine x_ifnonnullN (tgt := 126) (x_d C_M_dict 65 rfl) rfl ?_
              refine x_null (x_d C_M_dict 66 rfl) ?_
              refine x_areturn (x_d C_M_dict 67 rfl) ?_
              exact orq_fail hj2 (fun u w => by have a1 := hmu u w; have a2 := hmu2 u w; have a3 := hmuA u w; have a4 := hmuN u w; omega)
            · rw [List.append_assoc] at q2
              have hk2 := DS_obj hkx q1 q2 q3
              have hnc : ∀ k, k < L.length → fi k ≠ some c := fun k hk9 hz9 => by
                obtain ⟨-, -, -, -, -, -, -, -, z9, -⟩ := hkx
                obtain ⟨c9, hc9, ht9⟩ := z9.2 k hk9
                rw [hz9] at hc9
                obtain ⟨-, _, _, _, _, _, _, hg9, -⟩ := ht9
                rw [← Option.some.inj hc9, q5] at hg9
                cases hg9
              have hts := s_bh_0 hB hs
              have hok := s_val_ok X hB _ D _ ts e2 hs
              have hk3 := hk2
              obtain ⟨b1, b2, b3x, -⟩ := hk3
              rw [hs] at hmu ⊢
              rw [Option.bind_some, s_bx_more]
              have hnw : nmw X (f + q 1345) (f + j + 1) len fb := by
                refine ⟨by omega, by omega, by omega, by omega, fun k hk9 => ⟨hfb k (by omega), ?_⟩, ?_⟩
                · exact s_wd_reg (n := (f + q 1345)) (by omega) k (by omega)
                · have hwd := s_wd_stop (b := X) (n := (f + q 1345)) (t := f + j + 1) (by omega)
                  rcases hwd with z | z
                  · omega
                  · rw [show (f + j + 1).toNat + len = (s_wd X (f + q 1345) (f + j + 1)).toNat by omega]; exact z
              have hgr : L.length = cap → ∀ u w, k_gr u w 2 L.length = 2 * (u + 2 * cap * w) := fun h u w => by unfold k_gr; rw [if_pos (by omega), h]
              have hmu3 : ∀ u w, mu u w ny + (k_nm u w X (f + q 1345) (f + j) + (k_val u w X (f + q 1345) D (s_sc s_white X (f + q 1345) (s_name X (f + q 1345) (f + j))) + (k_gr u w 2 L.length + k_ens (s_val X (f + q 1345) D) (k_val u w X (f + q 1345) D) u w X (f + q 1345) m (L.length + 1) (s_sc s_white X (f + q 1345) e2) (ns ++ [f + j + 1])))) ≤ K u w := hmu
              refine x_astore (l1 := [(4, xC c), (3, xC cq), (0, xC 42), (1, xI (e)), (2, xC p)]) (x_d C_M_dict 63 rfl) (by decide) rfl ?_
              refine x_aload (x_d C_M_dict 64 rfl) rfl ?_
              refine x_ifnonnullC (tgt := 126) (x_d C_M_dict 65 rfl) rfl ?_
              refine x_aload_n (x_d C_M_dict 68 rfl) rfl ?_
              refine x_getfield (v := xI ((L.length : Int))) (x_d C_M_dict 69 rfl) f_M_145 (ct_get b1 _ _ _) rfl ?_
              refine x_aload_n (x_d C_M_dict 70 rfl) rfl ?_
              refine x_getfield (v := xC ci) (x_d C_M_dict 71 rfl) f_M_141 (ct_get b1 _ _ _) rfl ?_
              refine x_arraylengthQ (x_d C_M_dict 72 rfl) (ct_get b2 _ _ _) (Or.inl rfl) (by omega) ?_
              refine x_icmp_ne (tgt := 195) (x_d C_M_dict 73 rfl) rfl (fun c915 => ?_) (fun c915 => ?_)
              · refine x_locs [2, 3, 4, 1, 0] rfl ?_
                refine w_M_dict_195 Z d q r A dy D hD hd X f g K hf hn hX hB hrec e he p j2 tk2 (ny1 ++ ny2) ci cn cap fi fn g2 L acc ts ns cq c cb len _ fb (f + j + 1) _ hj2 hk2 ⟨by omega, by omega⟩ q4 ⟨hts.1, hts.2⟩ (q1 _ _ g3) (q1 _ _ gcb) hnw hnc (fun _ _ => rfl) (fun j9 tk9 ny9 y1 y2 y3 y4 => ?_)
                have hj9 : f + j9 = s_sc s_white X (f + q 1345) e2 := by rw [y2, show f + j2 = e2 by omega]; omega
                have := ih j9 tk9 ny9 _ _ _ _ _ g2 (L ++ [1 + (acc.length : Int)]) (acc ++ s_nm (f + j + 1) ts) (ns ++ [f + j + 1]) (by rw [List.length_append]; show L.length + 1 + m = 30; omega) y1 (by rw [hj9]; exact s_sc_id _ _ _ _) (by omega) y3 ?_
                · rw [hj9] at this
                  exact this
                · intro u w
                  have hl9 : (L ++ [1 + (acc.length : Int)]).length = L.length + 1 := by rw [List.length_append]; rfl
                  rw [y4 u w, hl9, hj9]
                  clear y3
                  have a1 := hmu3 u w
                  have a2 := hmu2 u w
                  have a3 := hmuA u w
                  have a4 := hmuN u w
                  omega
              · refine x_locs [2, 3, 4, 1, 0] rfl ?_
                have hgr2 := hgr (by omega)
                refine w_M_dict_138 Z d q r A dy D hD hd X f g K hf hn hX hB hrec e he p j2 tk2 (ny1 ++ ny2) ci cn cap fi fn g2 L acc ns cq c _ hk2 ⟨by omega, by omega⟩ (fun ny7 ci7 cn7 fi7 fn7 hk7 hfi7 hmu7 => ?_)
                refine w_M_dict_195 Z d q r A dy D hD hd X f g K hf hn hX hB hrec e he p j2 tk2 ny7 ci7 cn7 (2 * cap) fi7 fn7 g2 L acc ts ns cq c cb len _ fb (f + j + 1) _ hj2 hk7 ⟨by omega, by omega⟩ q4 ⟨hts.1, hts.2⟩ (q1 _ _ g3) (q1 _ _ gcb) hnw (fun k hk9 => by rw [hfi7 k hk9]; exact hnc k hk9) (fun _ _ => rfl) (fun j9 tk9 ny9 y1 y2 y3 y4 => ?_)
                have hj9 : f + j9 = s_sc s_white X (f + q 1345) e2 := by rw [y2, show f + j2 = e2 by omega]; omega
                have := ih j9 tk9 ny9 _ _ _ _ _ g2 (L ++ [1 + (acc.length : Int)]) (acc ++ s_nm (f + j + 1) ts) (ns ++ [f + j + 1]) (by rw [List.length_append]; show L.length + 1 + m = 30; omega) y1 (by rw [hj9]; exact s_sc_id _ _ _ _) (by omega) y3 ?_
                · rw [hj9] at this
                  exact this
                · intro u w
                  have hl9 : (L ++ [1 + (acc.length : Int)]).length = L.length + 1 := by rw [List.length_append]; rfl
                  rw [y4 u w, hl9, hj9]
                  clear y3
                  have a1 := hmu3 u w
                  have a2 := hmu2 u w
                  have a3 := hmuA u w
                  have a4 := hmuN u w
                  have a5 := hgr2 u w
                  have a6 := hmu7 u w
                  omega
          · obtain ⟨cz, hz1, -⟩ := d9.2 i (by omega)
            obtain rfl : v_ = some (xC cz) := hv_.trans (by rw [hi]; exact congrArg (fun z => some (xO z)) hz1)
            rw [if_pos hany, s_bx_none]
            refine x_ifnullC (tgt := 110) (x_d C_M_dict 55 rfl) rfl ?_
            refine x_null (x_d C_M_dict 56 rfl) ?_
            refine x_areturn (x_d C_M_dict 57 rfl) ?_
            exact orq_fail (by omega) (fun u w => by have a1 := hmu u w; have a2 := hmuN u w; omega)
