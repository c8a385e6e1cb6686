/-! the reference: a value that is written -/
theorem s_ch_first {sp : Nat → Int} {L : List Int} {a e : Int} (h : s_ch sp a L e) : ∀ k, k < L.length → (a < L.getD k 0 ↔ ¬ k = 0) := by
  intro k hk
  cases L with
  | nil => exact absurd hk (Nat.not_lt_zero _)
  | cons z l =>
    obtain ⟨h1, h2, h3⟩ := h
    cases k with
    | zero =>
      show a < z ↔ _
      exact ⟨fun q => by omega, fun q => absurd rfl q⟩
    | succ k =>
      have hk : k < l.length := by rw [List.length_cons] at hk; omega
      have := s_ch_lt h3 _ (s_getD_mem hk)
      have hb : a < s_bh sp a := by unfold s_bh; omega
      show a < l.getD k 0 ↔ _
      exact ⟨fun _ => by omega, fun _ => by omega⟩
theorem s_pcs_its {K : Int} {W : Int → List Int} {nm b : Nat → Int} {n p1 : Int} {L : List Int} {nmo out : Nat → List Int} (hf : ∀ k, k < L.length → (p1 < L.getD k 0 ↔ ¬ k = 0)) (h6 : K = 6 → ∀ x, x ∈ L → nm x.toNat = -1) (h7 : ¬ K = 6 → ∀ k, k < L.length → 0 ≤ nm (L.getD k 0).toNat ∧ nmo k = s_sl b (nm (L.getD k 0).toNat).toNat (s_wd b n (nm (L.getD k 0).toNat) - nm (L.getD k 0).toNat).toNat) (ho : ∀ k, k < L.length → out k = W (L.getD k 0)) : ∀ (u k : Nat), k + u = L.length → s_pcs (s_pc K nmo out) u k = s_its W nm b n p1 (L.drop k)
  | 0, k, hk => by rw [List.drop_eq_nil_of_le (by omega)]; rfl
  | u + 1, k, hk => by
    have hkl : k < L.length := by omega
    have hdr : L.drop k = L.getD k 0 :: L.drop (k + 1) := by
      rw [List.getD_eq_getElem?_getD, List.getElem?_eq_getElem hkl, List.drop_eq_getElem_cons hkl]
      rfl
    have ih := s_pcs_its hf h6 h7 ho u (k + 1) (by omega)
    have hfk := hf k hkl
    rw [hdr]
    show s_pc K nmo out k ++ s_pcs (s_pc K nmo out) u (k + 1) = ((if 0 ≤ nm (L.getD k 0).toNat then s_wn nm b n (L.getD k 0) (if p1 < L.getD k 0 then 1 else 0) else if p1 < L.getD k 0 then [32] else []) ++ W (L.getD k 0)) ++ s_its W nm b n p1 (L.drop (k + 1))
    rw [ih]
    congr 1
    unfold s_pc
    rw [ho k hkl]
    by_cases c : K = 6
    · have hn := h6 c _ (s_getD_mem hkl)
      rw [if_pos c, if_neg (show ¬ 0 ≤ nm (L.getD k 0).toNat by omega)]
      by_cases k0 : k = 0
      · rw [if_pos k0, if_neg (fun z => hfk.mp z k0)]; rfl
      · rw [if_neg k0, if_pos (hfk.mpr k0)]; rfl
    · obtain ⟨h1, h2⟩ := h7 c k hkl
      rw [if_neg c, if_pos h1, h2]
      unfold s_wn
      by_cases k0 : k = 0
      · rw [if_pos k0, if_neg (fun z => hfk.mp z k0), if_pos rfl, List.nil_append, List.append_assoc]
      · rw [if_neg k0, if_pos (hfk.mpr k0), if_neg (by omega)]
        simp only [List.append_assoc]
        rfl
theorem s_wv_lf {kd one two sp nm b : Nat → Int} {n : Int} {D : Nat} {p : Int} (h : 0 ≤ kd p.toNat ∧ kd p.toNat ≤ 8 ∧ ¬ kd p.toNat = 6 ∧ ¬ kd p.toNat = 7) : s_wv kd one two sp nm b n D p = s_lf kd one two b n p := by
  cases D <;> (unfold s_wv s_bxw; rw [if_neg (by omega), if_neg (by omega), if_pos (by omega)])
theorem s_sl_map {fb : Nat → Int} {L : List Int} {n : Nat} (hl : L.length = n) (h : ∀ k, k < n → fb k = x_by (L.getD k 0)) : s_sl fb 0 n = L.map x_by := by
  apply List.ext_getElem
  · rw [s_sl_len, List.length_map, hl]
  · intro k h1 h2
    have hk : k < n := by rw [s_sl_len] at h1; exact h1
    have e1 := s_sl_get fb n 0 k hk
    rw [List.getD_eq_getElem?_getD, List.getElem?_eq_getElem h1, Nat.zero_add, h k hk, List.getD_eq_getElem?_getD, List.getElem?_eq_getElem (by omega)] at e1
    rw [List.getElem_map]
    exact e1
theorem s_flat_by (L : List Int) : (L.map x_by).flatMap s_h2 = L.flatMap s_h2 := by
  induction L with
  | nil => rfl
  | cons z l ih => rw [List.map_cons, List.flatMap_cons, List.flatMap_cons, ih, s_h2_by]
theorem t_write_lf (Z : xZ) (d : Nat) (q : Nat → Int) (r : Nat → Option Nat) (A : Nat → Nat → Int) (dy : xH) (hd : 6 ≤ d) (X : Nat → Int) (E : Int) (g : Nat → Option xE) (P : Nat → Nat → Int) (hgk : gok g dy) (n2 : Int) (hE : E ≤ n2) (D : Nat) (p : Int) (c : Nat) (ht : Tr X E g P (D + 1) p c) (hk : ¬ P 5 p.toNat = 6 ∧ ¬ P 5 p.toNat = 7 ∧ ¬ P 5 p.toNat = 9) : WM Z d q r A dy c (s_wv (P 5) (P 6) (P 7) (P 8) (P 9) X n2 D p) := by
  intro s ov f bs hp
  refine xMet_of (by decide) (Nat.le_of_ble_eq_true rfl) (fun v h2 hq => by obtain ⟨e, _⟩ := hq; rw [e]; trivial) ?_
  refine xW_ok (fun _ _ hok => ?_)
  obtain ⟨h0, x, y, m, bt, it, nm, hc, hL, -⟩ := Tr_o ht
  have hk0 := hL.1
  rw [s_wv_lf (by omega)]
  have hlf : s_lf (P 5) (P 6) (P 7) X n2 p = if P 5 p.toNat = 0 then [110, 117, 108, 108] else if P 5 p.toNat = 1 then [116, 114, 117, 101] else if P 5 p.toNat = 2 then [102, 97, 108, 115, 101] else if P 5 p.toNat = 3 then s_int (P 6 p.toNat) else if P 5 p.toNat = 4 then [47] ++ s_sl X (P 6 p.toNat).toNat (P 7 p.toNat).toNat else if P 5 p.toNat = 5 then [60] ++ ((s_sb X n2 (decide (s_byte X n2 (P 6 p.toNat) = 60)) (P 7 p.toNat).toNat (P 6 p.toNat + 1)).flatMap s_h2 ++ [62]) else s_wr (P 6) (P 7) p := rfl
  rcases (show P 5 p.toNat = 0 ∨ P 5 p.toNat = 1 ∨ P 5 p.toNat = 2 ∨ P 5 p.toNat = 3 ∨ P 5 p.toNat = 4 ∨ P 5 p.toNat = 5 ∨ P 5 p.toNat = 8 by omega) with hK | hK | hK | hK | hK | hK | hK
  · rw [hK] at hc hlf
    refine x_aload_n (x_d C_M_write 0 rfl) rfl ?_
    refine x_getfield (v := xI (0)) (x_d C_M_write 1 rfl) f_M_261 (ct_get (hgk _ _ hc) _ _ _) rfl ?_
    refine x_tableIn (tgt := 56) (off := 52) (x_d C_M_write 2 rfl) (by omega) (by omega) rfl rfl ?_
    refine x_aload_n (x_d C_M_write 3 rfl) rfl ?_
    refine x_ldcS (i := 60) (x_d C_M_write 4 rfl) rfl ?_
    refine x_invokevirtual (st := []) (av := [xS (121)]) (x_d C_M_write 5 rfl) k_M_397 m_M_say3 v_M_say3 cl_M rfl rfl (Nat.le_of_ble_eq_true rfl) (by omega) rfl (c_M_say3 Z (d - 1) q r A dy (by omega) s ov f bs (si := 60) rfl hp) ?_
    rintro _ _ ⟨rfl, s2, ov2, f2, rfl, hp2⟩
    refine x_return (x_d C_M_write 6 rfl) ?_
    refine ⟨rfl, _, _, _, rfl, ?_⟩
    rw [hlf, if_pos rfl]
    exact hp2
  · rw [hK] at hc hlf
    refine x_aload_n (x_d C_M_write 0 rfl) rfl ?_
    refine x_getfield (v := xI (1)) (x_d C_M_write 1 rfl) f_M_261 (ct_get (hgk _ _ hc) _ _ _) rfl ?_
    refine x_tableIn (tgt := 63) (off := 59) (x_d C_M_write 2 rfl) (by omega) (by omega) rfl rfl ?_
    refine x_aload_n (x_d C_M_write 7 rfl) rfl ?_
    refine x_ldcS (i := 61) (x_d C_M_write 8 rfl) rfl ?_
    refine x_invokevirtual (st := []) (av := [xS (123)]) (x_d C_M_write 9 rfl) k_M_397 m_M_say3 v_M_say3 cl_M rfl rfl (Nat.le_of_ble_eq_true rfl) (by omega) rfl (c_M_say3 Z (d - 1) q r A dy (by omega) s ov f bs (si := 61) rfl hp) ?_
    rintro _ _ ⟨rfl, s2, ov2, f2, rfl, hp2⟩
    refine x_return (x_d C_M_write 10 rfl) ?_
    refine ⟨rfl, _, _, _, rfl, ?_⟩
    rw [hlf, if_neg (by omega), if_pos rfl]
    exact hp2
  · rw [hK] at hc hlf
    refine x_aload_n (x_d C_M_write 0 rfl) rfl ?_
    refine x_getfield (v := xI (2)) (x_d C_M_write 1 rfl) f_M_261 (ct_get (hgk _ _ hc) _ _ _) rfl ?_
    refine x_tableIn (tgt := 70) (off := 66) (x_d C_M_write 2 rfl) (by omega) (by omega) rfl rfl ?_
    refine x_aload_n (x_d C_M_write 11 rfl) rfl ?_
    refine x_ldcS (i := 62) (x_d C_M_write 12 rfl) rfl ?_
    refine x_invokevirtual (st := []) (av := [xS (125)]) (x_d C_M_write 13 rfl) k_M_397 m_M_say3 v_M_say3 cl_M rfl rfl (Nat.le_of_ble_eq_true rfl) (by omega) rfl (c_M_say3 Z (d - 1) q r A dy (by omega) s ov f bs (si := 62) rfl hp) ?_
    rintro _ _ ⟨rfl, s2, ov2, f2, rfl, hp2⟩
    refine x_return (x_d C_M_write 14 rfl) ?_
    refine ⟨rfl, _, _, _, rfl, ?_⟩
    rw [hlf, if_neg (by omega), if_neg (by omega), if_pos rfl]
    exact hp2
  · rw [hK] at hc hlf
    obtain ⟨rfl, hx1, hx2⟩ := hL.2.1 hK
    refine x_aload_n (x_d C_M_write 0 rfl) rfl ?_
    refine x_getfield (v := xI (3)) (x_d C_M_write 1 rfl) f_M_261 (ct_get (hgk _ _ hc) _ _ _) rfl ?_
    refine x_tableIn (tgt := 77) (off := 73) (x_d C_M_write 2 rfl) (by omega) (by omega) rfl rfl ?_
    refine x_aload_n (x_d C_M_write 15 rfl) rfl ?_
    refine x_aload_n (x_d C_M_write 16 rfl) rfl ?_
    refine x_getfield (v := xI (P 6 p.toNat)) (x_d C_M_write 17 rfl) f_M_95 (ct_get (hgk _ _ hc) _ _ _) rfl ?_
    refine x_iconst (x_d C_M_write 18 rfl) ⟨by omega, by omega⟩ ?_
    refine x_invokevirtual (st := []) (av := [xI (P 6 p.toNat), xI (1)]) (x_d C_M_write 19 rfl) k_M_400 m_M_number v_M_number cl_M rfl rfl (Nat.le_of_ble_eq_true rfl) (by omega) rfl (c_M_number1 Z (d - 1) q r A dy (by omega) s ov f bs (P 6 p.toNat) (by omega) hp) ?_
    rintro _ _ ⟨rfl, s2, ov2, f2, rfl, hp2⟩
    refine x_return (x_d C_M_write 20 rfl) ?_
    refine ⟨rfl, _, _, _, rfl, ?_⟩
    rw [hlf, if_neg (by omega), if_neg (by omega), if_neg (by omega), if_pos rfl]
    exact hp2
  · rw [hK] at hc hlf
    obtain ⟨e6, e7, e8, e9, cb, fb, rfl, hgb0, hfb⟩ := hL.2.2.2.1 (Or.inl hK)
    have hgb := hgk _ _ hgb0
    have hsl : s_sl fb 0 (P 7 p.toNat).toNat = s_sl X (P 6 p.toNat).toNat (P 7 p.toNat).toNat := s_sl_eq _ _ _ (fun j hj => by rw [Nat.zero_add]; exact hfb j (by omega))
    refine x_aload_n (x_d C_M_write 0 rfl) rfl ?_
    refine x_getfield (v := xI (4)) (x_d C_M_write 1 rfl) f_M_261 (ct_get (hgk _ _ hc) _ _ _) rfl ?_
    refine x_tableIn (tgt := 87) (off := 83) (x_d C_M_write 2 rfl) (by omega) (by omega) rfl rfl ?_
    refine x_aload_n (x_d C_M_write 21 rfl) rfl ?_
    refine x_bipush (x_d C_M_write 22 rfl) (by omega) ?_
    refine x_invokevirtual (st := []) (av := [xI (47)]) (x_d C_M_write 23 rfl) k_M_394 m_M_say2 v_M_say2 cl_M rfl rfl (Nat.le_of_ble_eq_true rfl) (by omega) rfl (c_M_say2 Z (d - 1) q r A dy s ov f bs 47 hp) ?_
    rintro _ _ ⟨rfl, s2, ov2, f2, rfl, hp2⟩
    refine x_aload_n (x_d C_M_write 24 rfl) rfl ?_
    refine x_aload_n (x_d C_M_write 25 rfl) rfl ?_
    refine x_getfield (v := xC cb) (x_d C_M_write 26 rfl) f_M_119 (ct_get (hgk _ _ hc) _ _ _) rfl ?_
    refine x_invokevirtual (st := []) (av := [xC cb]) (x_d C_M_write 27 rfl) k_M_404 m_M_say1 v_M_say1 cl_M rfl rfl (Nat.le_of_ble_eq_true rfl) (by omega) rfl (c_M_say1 Z (d - 1) q r A dy (by omega) s2 ov2 f2 (bs ++ [47]) cb _ _ hgb (by omega) hp2) ?_
    rintro _ _ ⟨rfl, s3, ov3, f3, rfl, hp3⟩
    refine x_return (x_d C_M_write 28 rfl) ?_
    refine ⟨rfl, _, _, _, rfl, ?_⟩
    rw [hlf, if_neg (by omega), if_neg (by omega), if_neg (by omega), if_neg (by omega), if_pos rfl]
    rw [← hsl, ← List.append_assoc]
    exact hp3
  · rw [hK] at hc hlf
    obtain ⟨hsg, cb, fb, rfl, hgb0, hfb⟩ := hL.2.2.2.2.1 hK
    have hgb := hgk _ _ hgb0
    have hx5 := sgs_x (X2 := X) (E2 := n2) ⟨hE, fun _ _ => rfl⟩ hsg
    have hsl := s_sl_map (s_sb_len X E (decide (s_byte X E (P 6 p.toNat) = 60)) (P 7 p.toNat).toNat (P 6 p.toNat + 1)) (fun k hk9 => hfb k (by omega))
    have hB : ∀ j, j < (P 7 p.toNat).toNat → -128 ≤ fb j ∧ fb j ≤ 127 := fun j _ => hok _ (List.mem_of_getElem? (ct_get hgb _ _ _)) j
    have h100 := hsg.2.2.1
    refine x_aload_n (x_d C_M_write 0 rfl) rfl ?_
    refine x_getfield (v := xI (5)) (x_d C_M_write 1 rfl) f_M_261 (ct_get (hgk _ _ hc) _ _ _) rfl ?_
    refine x_tableIn (tgt := 102) (off := 98) (x_d C_M_write 2 rfl) (by omega) (by omega) rfl rfl ?_
    refine x_aload_n (x_d C_M_write 29 rfl) rfl ?_
    refine x_bipush (x_d C_M_write 30 rfl) (by omega) ?_
    refine x_invokevirtual (st := []) (av := [xI (60)]) (x_d C_M_write 31 rfl) k_M_394 m_M_say2 v_M_say2 cl_M rfl rfl (Nat.le_of_ble_eq_true rfl) (by omega) rfl (c_M_say2 Z (d - 1) q r A dy s ov f bs 60 hp) ?_
    rintro _ _ ⟨rfl, s2, ov2, f2, rfl, hp2⟩
    refine x_aload_n (x_d C_M_write 32 rfl) rfl ?_
    refine x_getfield (v := xC cb) (x_d C_M_write 33 rfl) f_M_119 (ct_get (hgk _ _ hc) _ _ _) rfl ?_
    refine x_astore_n (l1 := [(2, xC cb), (0, xC 42), (1, xC c)]) (x_d C_M_write 34 rfl) (by decide) rfl ?_
    refine x_aload_n (x_d C_M_write 35 rfl) rfl ?_
    refine x_arraylength (x_d C_M_write 36 rfl) (ct_get hgb _ _ _) (by decide) (by omega) ?_
    refine x_istore_n (l1 := [(3, xI ((((P 7 p.toNat).toNat : Nat) : Int))), (2, xC cb), (0, xC 42), (1, xC c)]) (x_d C_M_write 37 rfl) (by decide) rfl ?_
    refine x_iconst (x_d C_M_write 38 rfl) ⟨by omega, by omega⟩ ?_
    refine x_istore (l1 := [(4, xI (0)), (3, xI ((((P 7 p.toNat).toNat : Nat) : Int))), (2, xC cb), (0, xC 42), (1, xC c)]) (x_d C_M_write 39 rfl) (by decide) rfl ?_
    refine x_locs [3, 2, 1, 0] rfl ?_
    refine w_M_write_119 Z d q r A dy (by omega) c cb (P 7 p.toNat).toNat fb hgb (by omega) hB _ (P 7 p.toNat).toNat 0 _ _ _ _ (by omega) hp2 (fun s9 ov9 f9 h9 => ?_)
    refine x_aload_n (x_d C_M_write 61 rfl) rfl ?_
    refine x_bipush (x_d C_M_write 62 rfl) (by omega) ?_
    refine x_invokevirtual (st := []) (av := [xI (62)]) (x_d C_M_write 63 rfl) k_M_394 m_M_say2 v_M_say2 cl_M rfl rfl (Nat.le_of_ble_eq_true rfl) (by omega) rfl (c_M_say2 Z (d - 1) q r A dy s9 ov9 f9 ((bs ++ [60]) ++ (s_sl fb (0 : Int).toNat (P 7 p.toNat).toNat).flatMap s_h2) 62 h9) ?_
    rintro _ _ ⟨rfl, s71, ov71, f71, rfl, hp71⟩
    refine x_return (x_d C_M_write 64 rfl) ?_
    refine ⟨rfl, _, _, _, rfl, ?_⟩
    rw [hlf, if_neg (by omega), if_neg (by omega), if_neg (by omega), if_neg (by omega), if_neg (by omega), if_pos rfl]
    have h8 := hp71
    rw [show (0 : Int).toNat = 0 from rfl, hsl, s_flat_by, ← hx5.2] at h8
    simp only [List.append_assoc] at h8 ⊢
    exact h8
  · rw [hK] at hc hlf
    obtain ⟨rfl, rfl, hx1, hx2, hx3, hx4⟩ := hL.2.2.1 hK
    refine x_aload_n (x_d C_M_write 0 rfl) rfl ?_
    refine x_getfield (v := xI (8)) (x_d C_M_write 1 rfl) f_M_261 (ct_get (hgk _ _ hc) _ _ _) rfl ?_
    refine x_tableIn (tgt := 164) (off := 160) (x_d C_M_write 2 rfl) (by omega) (by omega) rfl rfl ?_
    refine x_aload_n (x_d C_M_write 65 rfl) rfl ?_
    refine x_aload_n (x_d C_M_write 66 rfl) rfl ?_
    refine x_getfield (v := xI (P 6 p.toNat)) (x_d C_M_write 67 rfl) f_M_95 (ct_get (hgk _ _ hc) _ _ _) rfl ?_
    refine x_iconst (x_d C_M_write 68 rfl) ⟨by omega, by omega⟩ ?_
    refine x_invokevirtual (st := []) (av := [xI (P 6 p.toNat), xI (1)]) (x_d C_M_write 69 rfl) k_M_400 m_M_number v_M_number cl_M rfl rfl (Nat.le_of_ble_eq_true rfl) (by omega) rfl (c_M_number1 Z (d - 1) q r A dy (by omega) s ov f bs (P 6 p.toNat) (by omega) hp) ?_
    rintro _ _ ⟨rfl, s2, ov2, f2, rfl, hp2⟩
    refine x_aload_n (x_d C_M_write 70 rfl) rfl ?_
    refine x_bipush (x_d C_M_write 71 rfl) (by omega) ?_
    refine x_invokevirtual (st := []) (av := [xI (32)]) (x_d C_M_write 72 rfl) k_M_394 m_M_say2 v_M_say2 cl_M rfl rfl (Nat.le_of_ble_eq_true rfl) (by omega) rfl (c_M_say2 Z (d - 1) q r A dy s2 ov2 f2 (bs ++ s_int (P 6 p.toNat)) 32 hp2) ?_
    rintro _ _ ⟨rfl, s3, ov3, f3, rfl, hp3⟩
    refine x_aload_n (x_d C_M_write 73 rfl) rfl ?_
    refine x_aload_n (x_d C_M_write 74 rfl) rfl ?_
    refine x_getfield (v := xI (P 7 p.toNat)) (x_d C_M_write 75 rfl) f_M_108 (ct_get (hgk _ _ hc) _ _ _) rfl ?_
    refine x_iconst (x_d C_M_write 76 rfl) ⟨by omega, by omega⟩ ?_
    refine x_invokevirtual (st := []) (av := [xI (P 7 p.toNat), xI (1)]) (x_d C_M_write 77 rfl) k_M_400 m_M_number v_M_number cl_M rfl rfl (Nat.le_of_ble_eq_true rfl) (by omega) rfl (c_M_number1 Z (d - 1) q r A dy (by omega) s3 ov3 f3 ((bs ++ s_int (P 6 p.toNat)) ++ [32]) (P 7 p.toNat) (by omega) hp3) ?_
    rintro _ _ ⟨rfl, s4, ov4, f4, rfl, hp4⟩
    refine x_aload_n (x_d C_M_write 78 rfl) rfl ?_
    refine x_ldcSw (i := 76) (x_d C_M_write 79 rfl) rfl ?_
    refine x_invokevirtual (st := []) (av := [xS (153)]) (x_d C_M_write 80 rfl) k_M_397 m_M_say3 v_M_say3 cl_M rfl rfl (Nat.le_of_ble_eq_true rfl) (by omega) rfl (c_M_say3 Z (d - 1) q r A dy (by omega) s4 ov4 f4 (((bs ++ s_int (P 6 p.toNat)) ++ [32]) ++ s_int (P 7 p.toNat)) (si := 76) rfl hp4) ?_
    rintro _ _ ⟨rfl, s5, ov5, f5, rfl, hp5⟩
    refine x_return (x_d C_M_write 81 rfl) ?_
    refine ⟨rfl, _, _, _, rfl, ?_⟩
    rw [hlf, if_neg (by omega), if_neg (by omega), if_neg (by omega), if_neg (by omega), if_neg (by omega), if_neg (by omega)]
    unfold s_wr
    have h8 := hp5
    simp only [List.append_assoc] at h8 ⊢
    exact h8
theorem t_write (Z : xZ) (q : Nat → Int) (r : Nat → Option Nat) (A : Nat → Nat → Int) (dy : xH) (X : Nat → Int) (E : Int) (g : Nat → Option xE) (P : Nat → Nat → Int) (hgk : gok g dy) (n2 : Int) (hE : E ≤ n2) : ∀ (D d : Nat) (p : Int) (c : Nat), D + 7 ≤ d → Tr X E g P (D + 1) p c → WM Z d q r A dy c (s_wv (P 5) (P 6) (P 7) (P 8) (P 9) X n2 D p) := by
  intro D
  induction D with
  | zero =>
    intro d p c hd ht
    by_cases hk : ¬ P 5 p.toNat = 6 ∧ ¬ P 5 p.toNat = 7 ∧ ¬ P 5 p.toNat = 9
    · exact t_write_lf Z d q r A dy (by omega) X E g P hgk n2 hE 0 p c ht hk
    · have hK3 : P 5 p.toNat = 6 ∨ P 5 p.toNat = 7 ∨ P 5 p.toNat = 9 := by omega
      have hK79 : ¬ P 5 p.toNat = 6 → P 5 p.toNat = 7 ∨ P 5 p.toNat = 9 := fun z => by omega
      have ht2 := ht
      obtain ⟨h0, x, y, m, bt, it, nm, hc, hL, hm, h60, hch, L, k1, k2, k3, k4, k5, k6, k7, k8⟩ := Tr_o ht2
      obtain ⟨ci, cap, fi, rfl, e2, e3, e4, e5⟩ := k4 hK3
      have hl0 : L = [] := by
        cases L with
        | nil => rfl
        | cons z l =>
          obtain ⟨_, _, hz⟩ := e5 0 (by simp)
          exact hz.elim
      subst hl0
      have k2 : m = 0 := k2
      subst k2
      have hb := t_write_box Z d q r A dy (by omega) c ci cap (P 5 p.toNat) x y 0 bt nm fi (hgk _ _ hc) (hgk _ _ e2) (by omega) (fun _ => []) (fun _ => []) (fun h6 => by
        obtain ⟨cn, cap2, fn, f1, f2, f3, f4, f5⟩ := k5 (hK79 h6)
        exact ⟨cn, cap2, fn, f1, hgk _ _ f2, by omega, f4, fun k hk => absurd hk (by omega)⟩) (fun k hk => absurd hk (by omega)) (s_sl X (P 6 p.toNat).toNat (P 7 p.toNat).toNat) hK3 (fun h9 => by
        obtain ⟨e6, e7, e8, e9, cb, fb, f1, f2, f3⟩ := hL.2.2.2.1 (Or.inr h9)
        exact ⟨cb, _, fb, f1, hgk _ _ f2, by omega, s_sl_eq _ _ _ (fun j hj => by rw [Nat.zero_add]; exact f3 j (by omega))⟩)
      have he : s_wv (P 5) (P 6) (P 7) (P 8) (P 9) X n2 0 p = (if P 5 p.toNat = 6 then [91] ++ ([] ++ [93]) else if P 5 p.toNat = 9 then ([60, 60] ++ ([] ++ [62, 62])) ++ ([10, 115, 116, 114, 101, 97, 109, 10] ++ (s_sl X (P 6 p.toNat).toNat (P 7 p.toNat).toNat ++ [10, 101, 110, 100, 115, 116, 114, 101, 97, 109])) else [60, 60] ++ ([] ++ [62, 62])) := by
        clear k4 k5 hb hL
        unfold s_wv s_bxw s_wd8
        (repeat' split) <;> first | rfl | (exfalso; omega)
      rw [he]
      exact hb
  | succ D ih =>
    intro d p c hd ht
    by_cases hk : ¬ P 5 p.toNat = 6 ∧ ¬ P 5 p.toNat = 7 ∧ ¬ P 5 p.toNat = 9
    · exact t_write_lf Z d q r A dy (by omega) X E g P hgk n2 hE (D + 1) p c ht hk
    · have hK3 : P 5 p.toNat = 6 ∨ P 5 p.toNat = 7 ∨ P 5 p.toNat = 9 := by omega
      have hK79 : ¬ P 5 p.toNat = 6 → P 5 p.toNat = 7 ∨ P 5 p.toNat = 9 := fun z => by omega
      have ht2 := ht
      obtain ⟨h0, x, y, m, bt, it, nm, hc, hL, hm, h60, hch, L, k1, k2, k3, k4, k5, k6, k7, k8⟩ := Tr_o ht2
      have hLe : s_in (P 8) p = L := by unfold s_in; exact s_ch_K k1
      obtain ⟨ci, cap, fi, rfl, e2, e3, e4, e5⟩ := k4 hK3
      have hits : s_pcs (s_pc (P 5 p.toNat) (fun k => s_sl X (P 9 (L.getD k 0).toNat).toNat (s_wd X n2 (P 9 (L.getD k 0).toNat) - P 9 (L.getD k 0).toNat).toNat) (fun k => s_wv (P 5) (P 6) (P 7) (P 8) (P 9) X n2 D (L.getD k 0))) m.toNat 0 = s_its (s_wv (P 5) (P 6) (P 7) (P 8) (P 9) X n2 D) (P 9) X n2 (p + 1) L := by
        have := s_pcs_its (K := P 5 p.toNat) (W := s_wv (P 5) (P 6) (P 7) (P 8) (P 9) X n2 D) (nm := P 9) (b := X) (n := n2) (p1 := p + 1) (L := L) (nmo := fun k => s_sl X (P 9 (L.getD k 0).toNat).toNat (s_wd X n2 (P 9 (L.getD k 0).toNat) - P 9 (L.getD k 0).toNat).toNat) (out := fun k => s_wv (P 5) (P 6) (P 7) (P 8) (P 9) X n2 D (L.getD k 0)) (s_ch_first k1) k6 (fun h6 k hk9 => ⟨by
          obtain ⟨cn, cap2, fn, f1, f2, f3, f4, f5⟩ := k5 (hK79 h6)
          obtain ⟨cb, len, fb, g1, g2, g3⟩ := f5 k hk9
          exact g3.1, rfl⟩) (fun k hk9 => rfl) L.length 0 (by omega)
        rw [show m.toNat = L.length by omega]
        exact this
      have hb := t_write_box Z d q r A dy (by omega) c ci cap (P 5 p.toNat) x y m bt nm fi (hgk _ _ hc) (hgk _ _ e2) (by omega) (fun k => s_sl X (P 9 (L.getD k 0).toNat).toNat (s_wd X n2 (P 9 (L.getD k 0).toNat) - P 9 (L.getD k 0).toNat).toNat) (fun k => s_wv (P 5) (P 6) (P 7) (P 8) (P 9) X n2 D (L.getD k 0)) (fun h6 => by
        obtain ⟨cn, cap2, fn, f1, f2, f3, f4, f5⟩ := k5 (hK79 h6)
        refine ⟨cn, cap2, fn, f1, hgk _ _ f2, by omega, f4, fun k hk9 => ?_⟩
        obtain ⟨cb, len, fb, g1, g2, g3⟩ := f5 k (by omega)
        refine ⟨cb, len, fb, g1, hgk _ _ g2, by have := g3.2.2.1; omega, ?_⟩
        rw [nmw_wd g3 hE, show (P 9 (L.getD k 0).toNat + (len : Int) - P 9 (L.getD k 0).toNat).toNat = len by omega]
        exact s_sl_eq _ _ _ (fun j hj => by rw [Nat.zero_add]; exact (g3.2.2.2.2.1 j hj).1)) (fun k hk9 => by
        obtain ⟨c2, g1, g2⟩ := e5 k (by omega)
        obtain ⟨-, fs2, g3⟩ := Tr_c g2
        exact ⟨c2, _, g1, hgk _ _ g3, ih (d - 1) _ c2 (by omega) g2⟩) (s_sl X (P 6 p.toNat).toNat (P 7 p.toNat).toNat) hK3 (fun h9 => by
        obtain ⟨e6, e7, e8, e9, cb, fb, f1, f2, f3⟩ := hL.2.2.2.1 (Or.inr h9)
        exact ⟨cb, _, fb, f1, hgk _ _ f2, by omega, s_sl_eq _ _ _ (fun j hj => by rw [Nat.zero_add]; exact f3 j (by omega))⟩)
      rw [hits] at hb
      have he : s_wv (P 5) (P 6) (P 7) (P 8) (P 9) X n2 (D + 1) p = (if P 5 p.toNat = 6 then [91] ++ (s_its (s_wv (P 5) (P 6) (P 7) (P 8) (P 9) X n2 D) (P 9) X n2 (p + 1) L ++ [93]) else if P 5 p.toNat = 9 then ([60, 60] ++ (s_its (s_wv (P 5) (P 6) (P 7) (P 8) (P 9) X n2 D) (P 9) X n2 (p + 1) L ++ [62, 62])) ++ ([10, 115, 116, 114, 101, 97, 109, 10] ++ (s_sl X (P 6 p.toNat).toNat (P 7 p.toNat).toNat ++ [10, 101, 110, 100, 115, 116, 114, 101, 97, 109])) else [60, 60] ++ (s_its (s_wv (P 5) (P 6) (P 7) (P 8) (P 9) X n2 D) (P 9) X n2 (p + 1) L ++ [62, 62])) := by
        show s_bxw (P 5) (P 6) (P 7) X n2 p (s_its (s_wv (P 5) (P 6) (P 7) (P 8) (P 9) X n2 D) (P 9) X n2 (p + 1) (s_in (P 8) p)) = _
        rw [hLe]
        clear k4 k5 hb hL
        unfold s_bxw s_wd8
        (repeat' split) <;> first | rfl | (exfalso; omega)
      rw [he]
      exact hb
