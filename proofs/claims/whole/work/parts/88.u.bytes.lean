/-! the reference: bytes, numbers of a file -/
/-- the bytes that the point tells: none if it tells none -/
def s_by (X : Nat → Int) (n : Int) (P : Nat → Nat → Int) (p k : Int) : Option (List Int) := if P 5 p.toNat = 5 then some ((s_sb X n (decide (s_byte X n (P 6 p.toNat) = 60)) (P 7 p.toNat).toNat (P 6 p.toNat + 1)).map x_by) else if P 5 p.toNat = 4 ∨ (P 5 p.toNat = 9 ∧ k < 0) then some (s_sl X (P 6 p.toNat).toNat (P 7 p.toNat).toNat) else if P 5 p.toNat = 6 ∨ s_nth (s_in (P 8) p) k < 0 then none else some (s_sl X (P 9 (s_nth (s_in (P 8) p) k).toNat).toNat (s_wd X n (P 9 (s_nth (s_in (P 8) p) k).toNat) - P 9 (s_nth (s_in (P 8) p) k).toNat).toNat)
theorem s_sb_len (b : Nat → Int) (n : Int) (pr : Bool) : ∀ (m : Nat) (u : Int), (s_sb b n pr m u).length = m
  | 0, _ => rfl
  | m + 1, u => by unfold s_sb; rw [List.length_cons, s_sb_len b n pr m]
theorem c_M_bytes (Z : xZ) (d : Nat) (q : Nat → Int) (r : Nat → Option Nat) (A : Nat → Nat → Int) (dy : xH) (hd : 2 ≤ d) (fo : Option Nat) (X : Nat → Int) (E : Int) (g : Nat → Option xE) (P : Nat → Nat → Int) (hgk : gok g dy) (D : Nat) (hD : D ≤ 8) (p : Int) (c : Nat) (ht : Tr X E g P (D + 1) p c) (k E2 : Int) (hE : E ≤ E2) : xMet Z d Y_M_bytes [xC 42, xI k] (hF q (x_up (x_up r 1350 fo) 1351 (some c)) A ++ dy) (fun v h2 => (s_by X E2 P p k = none ∧ v = some (xI (-2)) ∧ h2 = hF q (x_up (x_up r 1350 fo) 1351 (some c)) A ++ dy) ∨ ∃ bs f2, s_by X E2 P p k = some bs ∧ v = some (xI (bs.length : Int)) ∧ bs.length ≤ 4000 ∧ h2 = hF (x_up q 1353 (bs.length : Int)) (x_up (x_up r 1350 fo) 1351 (some c)) (x_up A 45 f2) ++ dy ∧ ∀ j, j < bs.length → f2 j = bs.getD j 0) := by
  refine xMet_of (by decide) (Nat.le_of_ble_eq_true rfl) (fun v h2 hq => by obtain ⟨_, e, _⟩ | ⟨_, _, _, e, _⟩ := hq <;> rw [e] <;> trivial) ?_
  have ht2 := ht
  obtain ⟨h0, x, y, m, bt, it, nm, hc, hL, hm, h60, hch, L, k1, k2, k3, k4, k5, k6, k7, k8⟩ := Tr_o ht2
  have hLe : s_in (P 8) p = L := by unfold s_in; exact s_ch_K k1
  rw [hLe] at hm h60
  have a49 := hL.2.2.2.1
  have a5 := hL.2.2.2.2.1
  have hsn : s_nth (s_in (P 8) p) k = if 0 ≤ k ∧ k < L.length then L.getD k.toNat 0 else -1 := by rw [hLe]; exact s_nth_eq L k
  have htl : ∀ (cb n : Nat) (fb : Nat → Int), g cb = some (xA 1 n fb) → n ≤ 4000 → ∀ bs : List Int, s_by X E2 P p k = some bs → bs.length = n → (∀ j, j < n → fb j = bs.getD j 0) → xMet Z (d - 1) Y_M_tell [xC 42, xC cb] (hF q (x_up (x_up r 1350 fo) 1351 (some c)) A ++ dy) (fun v h2 => (s_by X E2 P p k = none ∧ v = some (xI (-2)) ∧ h2 = hF q (x_up (x_up r 1350 fo) 1351 (some c)) A ++ dy) ∨ ∃ bs f2, s_by X E2 P p k = some bs ∧ v = some (xI (bs.length : Int)) ∧ bs.length ≤ 4000 ∧ h2 = hF (x_up q 1353 (bs.length : Int)) (x_up (x_up r 1350 fo) 1351 (some c)) (x_up A 45 f2) ++ dy ∧ ∀ j, j < bs.length → f2 j = bs.getD j 0) := fun cb n fb h1 h2 bs h3 h4 h5 => by
    refine xMet_post ?_ (c_M_tell Z (d - 1) q (x_up (x_up r 1350 fo) 1351 (some c)) A dy (by omega) cb n fb (hgk _ _ h1) (by omega))
    rintro v h9 ⟨rfl, f2, rfl, hf2⟩
    refine Or.inr ⟨bs, f2, h3, by rw [h4], by omega, by rw [h4], fun j hj => ?_⟩
    rw [hf2 j (by omega)]
    exact h5 j (by omega)
  by_cases k5c : P 5 p.toNat = 5
  · obtain ⟨hsg, cb, fb, rfl, hb, h5⟩ := a5 k5c
    have hx5 := sgs_x (X2 := X) (E2 := E2) ⟨hE, fun _ _ => rfl⟩ hsg
    have hg5 := hsg.2.2.1
    have hg0 := hsg.2.1
    have hs5 : s_by X E2 P p k = some ((s_sb X E2 (decide (s_byte X E2 (P 6 p.toNat) = 60)) (P 7 p.toNat).toNat (P 6 p.toNat + 1)).map x_by) := by unfold s_by; rw [if_pos k5c]
    refine x_aload_n (x_d C_M_bytes 0 rfl) rfl ?_
    refine x_getfield (v := xC c) (x_d C_M_bytes 1 rfl) f_M_211 rfl rfl ?_
    refine x_ifnonnullC (tgt := 10) (x_d C_M_bytes 2 rfl) rfl ?_
    refine x_aload_n (x_d C_M_bytes 5 rfl) rfl ?_
    refine x_getfield (v := xC c) (x_d C_M_bytes 6 rfl) f_M_211 rfl rfl ?_
    refine x_getfield (v := xI (P 5 p.toNat)) (x_d C_M_bytes 7 rfl) f_M_261 (ct_get (hgk _ _ hc) _ _ _) rfl ?_
    refine x_iconst (x_d C_M_bytes 8 rfl) ⟨by omega, by omega⟩ ?_
    refine x_icmp_eq (tgt := 48) (x_d C_M_bytes 9 rfl) rfl (fun q => absurd q (by omega)) (fun _ => ?_)
    refine x_aload_n (x_d C_M_bytes 10 rfl) rfl ?_
    refine x_getfield (v := xC c) (x_d C_M_bytes 11 rfl) f_M_211 rfl rfl ?_
    refine x_getfield (v := xI (P 5 p.toNat)) (x_d C_M_bytes 12 rfl) f_M_261 (ct_get (hgk _ _ hc) _ _ _) rfl ?_
    refine x_iconst (x_d C_M_bytes 13 rfl) ⟨by omega, by omega⟩ ?_
    refine x_icmp_eq (tgt := 48) (x_d C_M_bytes 14 rfl) rfl (fun _ => ?_) (fun q => absurd q (by omega))
    refine x_aload_n (x_d C_M_bytes 22 rfl) rfl ?_
    refine x_aload_n (x_d C_M_bytes 23 rfl) rfl ?_
    refine x_getfield (v := xC c) (x_d C_M_bytes 24 rfl) f_M_211 rfl rfl ?_
    refine x_getfield (v := xC cb) (x_d C_M_bytes 25 rfl) f_M_119 (ct_get (hgk _ _ hc) _ _ _) rfl ?_
    refine x_invokevirtual (st := []) (av := [xC cb]) (x_d C_M_bytes 26 rfl) k_M_332 m_M_tell v_M_tell cl_M rfl rfl (Nat.le_of_ble_eq_true rfl) (by omega) rfl (htl cb _ _ hb (by omega) _ hs5 (by rw [List.length_map, s_sb_len]) (fun j hj => (h5 j (by omega)).trans (by rw [hx5.2, s_getD_mapby]))) ?_
    rintro v_ h_ hq_
    obtain ⟨z_, rfl⟩ : ∃ z : Int, v_ = some (xI z) := by obtain ⟨_, e, _⟩ | ⟨_, _, _, e, _⟩ := hq_ <;> exact ⟨_, e⟩
    refine x_ireturn (x_d C_M_bytes 27 rfl) ?_
    exact hq_
  by_cases k4c : P 5 p.toNat = 4 ∨ (P 5 p.toNat = 9 ∧ k < 0)
  · obtain ⟨e6, e7, e8, e9, cb, fb, rfl, hb, h5⟩ := a49 (by rcases k4c with z | z; exact Or.inl z; exact Or.inr z.1)
    have hs5 : s_by X E2 P p k = some (s_sl X (P 6 p.toNat).toNat (P 7 p.toNat).toNat) := by unfold s_by; rw [if_neg k5c, if_pos k4c]
    refine x_aload_n (x_d C_M_bytes 0 rfl) rfl ?_
    refine x_getfield (v := xC c) (x_d C_M_bytes 1 rfl) f_M_211 rfl rfl ?_
    refine x_ifnonnullC (tgt := 10) (x_d C_M_bytes 2 rfl) rfl ?_
    refine x_aload_n (x_d C_M_bytes 5 rfl) rfl ?_
    refine x_getfield (v := xC c) (x_d C_M_bytes 6 rfl) f_M_211 rfl rfl ?_
    refine x_getfield (v := xI (P 5 p.toNat)) (x_d C_M_bytes 7 rfl) f_M_261 (ct_get (hgk _ _ hc) _ _ _) rfl ?_
    refine x_iconst (x_d C_M_bytes 8 rfl) ⟨by omega, by omega⟩ ?_
    refine x_icmp_eq (tgt := 48) (x_d C_M_bytes 9 rfl) rfl (fun c2 => ?_) (fun c2 => ?_)
    · refine x_aload_n (x_d C_M_bytes 22 rfl) rfl ?_
      refine x_aload_n (x_d C_M_bytes 23 rfl) rfl ?_
      refine x_getfield (v := xC c) (x_d C_M_bytes 24 rfl) f_M_211 rfl rfl ?_
      refine x_getfield (v := xC cb) (x_d C_M_bytes 25 rfl) f_M_119 (ct_get (hgk _ _ hc) _ _ _) rfl ?_
      refine x_invokevirtual (st := []) (av := [xC cb]) (x_d C_M_bytes 26 rfl) k_M_332 m_M_tell v_M_tell cl_M rfl rfl (Nat.le_of_ble_eq_true rfl) (by omega) rfl (htl cb _ _ hb (by omega) _ hs5 (by rw [s_sl_len]) (fun j hj => (h5 j (by omega)).trans (s_sl_get X _ _ j hj).symm)) ?_
      rintro v_ h_ hq_
      obtain ⟨z_, rfl⟩ : ∃ z : Int, v_ = some (xI z) := by obtain ⟨_, e, _⟩ | ⟨_, _, _, e, _⟩ := hq_ <;> exact ⟨_, e⟩
      refine x_ireturn (x_d C_M_bytes 27 rfl) ?_
      exact hq_
    · refine x_aload_n (x_d C_M_bytes 10 rfl) rfl ?_
      refine x_getfield (v := xC c) (x_d C_M_bytes 11 rfl) f_M_211 rfl rfl ?_
      refine x_getfield (v := xI (P 5 p.toNat)) (x_d C_M_bytes 12 rfl) f_M_261 (ct_get (hgk _ _ hc) _ _ _) rfl ?_
      refine x_iconst (x_d C_M_bytes 13 rfl) ⟨by omega, by omega⟩ ?_
      refine x_icmp_eq (tgt := 48) (x_d C_M_bytes 14 rfl) rfl (fun c3 => ?_) (fun c3 => ?_)
      · refine x_aload_n (x_d C_M_bytes 22 rfl) rfl ?_
        refine x_aload_n (x_d C_M_bytes 23 rfl) rfl ?_
        refine x_getfield (v := xC c) (x_d C_M_bytes 24 rfl) f_M_211 rfl rfl ?_
        refine x_getfield (v := xC cb) (x_d C_M_bytes 25 rfl) f_M_119 (ct_get (hgk _ _ hc) _ _ _) rfl ?_
        refine x_invokevirtual (st := []) (av := [xC cb]) (x_d C_M_bytes 26 rfl) k_M_332 m_M_tell v_M_tell cl_M rfl rfl (Nat.le_of_ble_eq_true rfl) (by omega) rfl (htl cb _ _ hb (by omega) _ hs5 (by rw [s_sl_len]) (fun j hj => (h5 j (by omega)).trans (s_sl_get X _ _ j hj).symm)) ?_
        rintro v_ h_ hq_
        obtain ⟨z_, rfl⟩ : ∃ z : Int, v_ = some (xI z) := by obtain ⟨_, e, _⟩ | ⟨_, _, _, e, _⟩ := hq_ <;> exact ⟨_, e⟩
        refine x_ireturn (x_d C_M_bytes 27 rfl) ?_
        exact hq_
      · refine x_aload_n (x_d C_M_bytes 15 rfl) rfl ?_
        refine x_getfield (v := xC c) (x_d C_M_bytes 16 rfl) f_M_211 rfl rfl ?_
        refine x_getfield (v := xI (P 5 p.toNat)) (x_d C_M_bytes 17 rfl) f_M_261 (ct_get (hgk _ _ hc) _ _ _) rfl ?_
        refine x_bipush (x_d C_M_bytes 18 rfl) (by omega) ?_
        refine x_icmp_ne (tgt := 60) (x_d C_M_bytes 19 rfl) rfl (fun c4 => ?_) (fun c4 => ?_)
        · exfalso
          omega
        · refine x_iload_n (x_d C_M_bytes 20 rfl) rfl ?_
          refine x_if_ge (tgt := 60) (x_d C_M_bytes 21 rfl) rfl (fun c5 => ?_) (fun c5 => ?_)
          · exfalso
            omega
          · refine x_aload_n (x_d C_M_bytes 22 rfl) rfl ?_
            refine x_aload_n (x_d C_M_bytes 23 rfl) rfl ?_
            refine x_getfield (v := xC c) (x_d C_M_bytes 24 rfl) f_M_211 rfl rfl ?_
            refine x_getfield (v := xC cb) (x_d C_M_bytes 25 rfl) f_M_119 (ct_get (hgk _ _ hc) _ _ _) rfl ?_
            refine x_invokevirtual (st := []) (av := [xC cb]) (x_d C_M_bytes 26 rfl) k_M_332 m_M_tell v_M_tell cl_M rfl rfl (Nat.le_of_ble_eq_true rfl) (by omega) rfl (htl cb _ _ hb (by omega) _ hs5 (by rw [s_sl_len]) (fun j hj => (h5 j (by omega)).trans (s_sl_get X _ _ j hj).symm)) ?_
            rintro v_ h_ hq_
            obtain ⟨z_, rfl⟩ : ∃ z : Int, v_ = some (xI z) := by obtain ⟨_, e, _⟩ | ⟨_, _, _, e, _⟩ := hq_ <;> exact ⟨_, e⟩
            refine x_ireturn (x_d C_M_bytes 27 rfl) ?_
            exact hq_
  by_cases k7c : P 5 p.toNat = 7 ∨ P 5 p.toNat = 9
  · obtain ⟨cn, cap, fn, rfl, a2, a3, a4, a6⟩ := k5 k7c
    refine x_aload_n (x_d C_M_bytes 0 rfl) rfl ?_
    refine x_getfield (v := xC c) (x_d C_M_bytes 1 rfl) f_M_211 rfl rfl ?_
    refine x_ifnonnullC (tgt := 10) (x_d C_M_bytes 2 rfl) rfl ?_
    refine x_aload_n (x_d C_M_bytes 5 rfl) rfl ?_
    refine x_getfield (v := xC c) (x_d C_M_bytes 6 rfl) f_M_211 rfl rfl ?_
    refine x_getfield (v := xI (P 5 p.toNat)) (x_d C_M_bytes 7 rfl) f_M_261 (ct_get (hgk _ _ hc) _ _ _) rfl ?_
    refine x_iconst (x_d C_M_bytes 8 rfl) ⟨by omega, by omega⟩ ?_
    refine x_icmp_eq (tgt := 48) (x_d C_M_bytes 9 rfl) rfl (fun c2 => ?_) (fun c2 => ?_)
    · exfalso
      clear a49 a5 k4 k5 htl
      omega
    · refine x_aload_n (x_d C_M_bytes 10 rfl) rfl ?_
      refine x_getfield (v := xC c) (x_d C_M_bytes 11 rfl) f_M_211 rfl rfl ?_
      refine x_getfield (v := xI (P 5 p.toNat)) (x_d C_M_bytes 12 rfl) f_M_261 (ct_get (hgk _ _ hc) _ _ _) rfl ?_
      refine x_iconst (x_d C_M_bytes 13 rfl) ⟨by omega, by omega⟩ ?_
      refine x_icmp_eq (tgt := 48) (x_d C_M_bytes 14 rfl) rfl (fun c3 => ?_) (fun c3 => ?_)
      · exfalso
        clear a49 a5 k4 k5 htl
        omega
      · refine x_aload_n (x_d C_M_bytes 15 rfl) rfl ?_
        refine x_getfield (v := xC c) (x_d C_M_bytes 16 rfl) f_M_211 rfl rfl ?_
        refine x_getfield (v := xI (P 5 p.toNat)) (x_d C_M_bytes 17 rfl) f_M_261 (ct_get (hgk _ _ hc) _ _ _) rfl ?_
        refine x_bipush (x_d C_M_bytes 18 rfl) (by omega) ?_
        refine x_icmp_ne (tgt := 60) (x_d C_M_bytes 19 rfl) rfl (fun c4 => ?_) (fun c4 => ?_)
        · refine x_aload_n (x_d C_M_bytes 28 rfl) rfl ?_
          refine x_getfield (v := xC c) (x_d C_M_bytes 29 rfl) f_M_211 rfl rfl ?_
          refine x_getfield (v := xC cn) (x_d C_M_bytes 30 rfl) f_M_156 (ct_get (hgk _ _ hc) _ _ _) rfl ?_
          refine x_ifnullC (tgt := 105) (x_d C_M_bytes 31 rfl) rfl ?_
          refine x_iload_n (x_d C_M_bytes 32 rfl) rfl ?_
          refine x_i2l (x_d C_M_bytes 33 rfl) ?_
          refine x_lconst0 (x_d C_M_bytes 34 rfl) ?_
          refine x_aload_n (x_d C_M_bytes 35 rfl) rfl ?_
          refine x_getfield (v := xC c) (x_d C_M_bytes 36 rfl) f_M_211 rfl rfl ?_
          refine x_getfield (v := xI (m)) (x_d C_M_bytes 37 rfl) f_M_145 (ct_get (hgk _ _ hc) _ _ _) rfl ?_
          refine x_iconst (x_d C_M_bytes 38 rfl) ⟨by omega, by omega⟩ ?_
          refine x_isub (x_d C_M_bytes 39 rfl) ⟨by omega, by omega⟩ ?_
          refine x_i2l (x_d C_M_bytes 40 rfl) ?_
          refine x_invokestatic (st := []) (av := [xJ (k), xJ (0), xJ (m - 1)]) (x_d C_M_bytes 41 rfl) k_M_48 m_M_in s_M_in rfl (Nat.le_of_ble_eq_true rfl) (by omega) rfl (c_M_in Z (d - 1) (hF q (x_up (x_up r 1350 fo) 1351 (some c)) A ++ dy) k 0 (m - 1)) ?_
          rintro v_ h_ ⟨hv_, hh_⟩
          rw [hh_]
          clear hh_
          obtain ⟨z6, rfl, hz6⟩ : ∃ z : Int, v_ = some (xI z) ∧ ((z = 1 ∧ (0 ≤ k ∧ k ≤ m - 1)) ∨ (z = 0 ∧ ¬ (0 ≤ k ∧ k ≤ m - 1))) := ⟨_, hv_, by by_cases c_ : (0 ≤ k ∧ k ≤ m - 1); exact Or.inl ⟨x_bo_t c_, c_⟩; exact Or.inr ⟨x_bo_f c_, c_⟩⟩
          refine x_if_eq (tgt := 105) (x_d C_M_bytes 42 rfl) rfl (fun c7 => ?_) (fun c7 => ?_)
          · refine x_bipush (x_d C_M_bytes 51 rfl) (by omega) ?_
            refine x_ireturn (x_d C_M_bytes 52 rfl) ?_
            exact Or.inl ⟨by unfold s_by; rw [if_neg k5c, if_neg k4c, if_pos (Or.inr (by rw [hsn, if_neg (by omega)]; omega))], rfl, rfl⟩
          · refine x_aload_n (x_d C_M_bytes 43 rfl) rfl ?_
            refine x_aload_n (x_d C_M_bytes 44 rfl) rfl ?_
            refine x_getfield (v := xC c) (x_d C_M_bytes 45 rfl) f_M_211 rfl rfl ?_
            refine x_getfield (v := xC cn) (x_d C_M_bytes 46 rfl) f_M_156 (ct_get (hgk _ _ hc) _ _ _) rfl ?_
            refine x_iload_n (x_d C_M_bytes 47 rfl) rfl ?_
            refine x_aaload5 (x_d C_M_bytes 48 rfl) (ct_get (hgk _ _ a2) _ _ _) (by omega) (by omega) ?_
            obtain ⟨cb, len, fb, hcb, hgb, hnw⟩ := a6 k.toNat (by omega)
            rw [hcb]
            have hsn2 : s_nth (s_in (P 8) p) k = L.getD k.toNat 0 := by rw [hsn, if_pos (by omega)]
            have hml := s_ch_lt k1 _ (s_getD_mem (show k.toNat < L.length by omega))
            have hwd := nmw_wd hnw hE
            have hs5 : s_by X E2 P p k = some (s_sl X (P 9 (L.getD k.toNat 0).toNat).toNat len) := by
              unfold s_by
              rw [if_neg k5c, if_neg k4c, if_neg (by rw [hsn2]; omega), hsn2, hwd]
              congr 2
              omega
            have hl20 := hnw.2.2.1
            have hu0 := hnw.1
            refine x_invokevirtual (st := []) (av := [xC cb]) (x_d C_M_bytes 49 rfl) k_M_332 m_M_tell v_M_tell cl_M rfl rfl (Nat.le_of_ble_eq_true rfl) (by omega) rfl (htl cb _ _ hgb (by omega) _ hs5 (by rw [s_sl_len]) (fun j hj => ((hnw.2.2.2.2.1 j hj).1).trans (s_sl_get X _ _ j hj).symm)) ?_
            rintro v_ h_ hq_
            obtain ⟨z_, rfl⟩ : ∃ z : Int, v_ = some (xI z) := by obtain ⟨_, e, _⟩ | ⟨_, _, _, e, _⟩ := hq_ <;> exact ⟨_, e⟩
            refine x_goto (tgt := 107) (x_d C_M_bytes 50 rfl) rfl ?_
            refine x_ireturn (x_d C_M_bytes 52 rfl) ?_
            exact hq_
        · refine x_iload_n (x_d C_M_bytes 20 rfl) rfl ?_
          refine x_if_ge (tgt := 60) (x_d C_M_bytes 21 rfl) rfl (fun c8 => ?_) (fun c8 => ?_)
          · refine x_aload_n (x_d C_M_bytes 28 rfl) rfl ?_
            refine x_getfield (v := xC c) (x_d C_M_bytes 29 rfl) f_M_211 rfl rfl ?_
            refine x_getfield (v := xC cn) (x_d C_M_bytes 30 rfl) f_M_156 (ct_get (hgk _ _ hc) _ _ _) rfl ?_
            refine x_ifnullC (tgt := 105) (x_d C_M_bytes 31 rfl) rfl ?_
            refine x_iload_n (x_d C_M_bytes 32 rfl) rfl ?_
            refine x_i2l (x_d C_M_bytes 33 rfl) ?_
            refine x_lconst0 (x_d C_M_bytes 34 rfl) ?_
            refine x_aload_n (x_d C_M_bytes 35 rfl) rfl ?_
            refine x_getfield (v := xC c) (x_d C_M_bytes 36 rfl) f_M_211 rfl rfl ?_
            refine x_getfield (v := xI (m)) (x_d C_M_bytes 37 rfl) f_M_145 (ct_get (hgk _ _ hc) _ _ _) rfl ?_
            refine x_iconst (x_d C_M_bytes 38 rfl) ⟨by omega, by omega⟩ ?_
            refine x_isub (x_d C_M_bytes 39 rfl) ⟨by omega, by omega⟩ ?_
            refine x_i2l (x_d C_M_bytes 40 rfl) ?_
            refine x_invokestatic (st := []) (av := [xJ (k), xJ (0), xJ (m - 1)]) (x_d C_M_bytes 41 rfl) k_M_48 m_M_in s_M_in rfl (Nat.le_of_ble_eq_true rfl) (by omega) rfl (c_M_in Z (d - 1) (hF q (x_up (x_up r 1350 fo) 1351 (some c)) A ++ dy) k 0 (m - 1)) ?_
            rintro v_ h_ ⟨hv_, hh_⟩
            rw [hh_]
            clear hh_
            obtain ⟨z10, rfl, hz10⟩ : ∃ z : Int, v_ = some (xI z) ∧ ((z = 1 ∧ (0 ≤ k ∧ k ≤ m - 1)) ∨ (z = 0 ∧ ¬ (0 ≤ k ∧ k ≤ m - 1))) := ⟨_, hv_, by by_cases c_ : (0 ≤ k ∧ k ≤ m - 1); exact Or.inl ⟨x_bo_t c_, c_⟩; exact Or.inr ⟨x_bo_f c_, c_⟩⟩
            refine x_if_eq (tgt := 105) (x_d C_M_bytes 42 rfl) rfl (fun c11 => ?_) (fun c11 => ?_)
            · refine x_bipush (x_d C_M_bytes 51 rfl) (by omega) ?_
              refine x_ireturn (x_d C_M_bytes 52 rfl) ?_
              exact Or.inl ⟨by unfold s_by; rw [if_neg k5c, if_neg k4c, if_pos (Or.inr (by rw [hsn, if_neg (by omega)]; omega))], rfl, rfl⟩
            · refine x_aload_n (x_d C_M_bytes 43 rfl) rfl ?_
              refine x_aload_n (x_d C_M_bytes 44 rfl) rfl ?_
              refine x_getfield (v := xC c) (x_d C_M_bytes 45 rfl) f_M_211 rfl rfl ?_
              refine x_getfield (v := xC cn) (x_d C_M_bytes 46 rfl) f_M_156 (ct_get (hgk _ _ hc) _ _ _) rfl ?_
              refine x_iload_n (x_d C_M_bytes 47 rfl) rfl ?_
              refine x_aaload5 (x_d C_M_bytes 48 rfl) (ct_get (hgk _ _ a2) _ _ _) (by omega) (by omega) ?_
              obtain ⟨cb, len, fb, hcb, hgb, hnw⟩ := a6 k.toNat (by omega)
              rw [hcb]
              have hsn2 : s_nth (s_in (P 8) p) k = L.getD k.toNat 0 := by rw [hsn, if_pos (by omega)]
              have hml := s_ch_lt k1 _ (s_getD_mem (show k.toNat < L.length by omega))
              have hwd := nmw_wd hnw hE
              have hs5 : s_by X E2 P p k = some (s_sl X (P 9 (L.getD k.toNat 0).toNat).toNat len) := by
                unfold s_by
                rw [if_neg k5c, if_neg k4c, if_neg (by rw [hsn2]; omega), hsn2, hwd]
                congr 2
                omega
              have hl20 := hnw.2.2.1
              have hu0 := hnw.1
              refine x_invokevirtual (st := []) (av := [xC cb]) (x_d C_M_bytes 49 rfl) k_M_332 m_M_tell v_M_tell cl_M rfl rfl (Nat.le_of_ble_eq_true rfl) (by omega) rfl (htl cb _ _ hgb (by omega) _ hs5 (by rw [s_sl_len]) (fun j hj => ((hnw.2.2.2.2.1 j hj).1).trans (s_sl_get X _ _ j hj).symm)) ?_
              rintro v_ h_ hq_
              obtain ⟨z_, rfl⟩ : ∃ z : Int, v_ = some (xI z) := by obtain ⟨_, e, _⟩ | ⟨_, _, _, e, _⟩ := hq_ <;> exact ⟨_, e⟩
              refine x_goto (tgt := 107) (x_d C_M_bytes 50 rfl) rfl ?_
              refine x_ireturn (x_d C_M_bytes 52 rfl) ?_
              exact hq_
          · exfalso
            clear a49 a5 k4 k5 htl
            omega
  · obtain rfl := k7 k7c
    have hno : s_by X E2 P p k = none := by
      clear a49 a5 k4 k5 htl
      unfold s_by
      rw [if_neg k5c, if_neg k4c, if_pos]
      by_cases k6c : P 5 p.toNat = 6
      · exact Or.inl k6c
      · right
        rw [hsn, (k8 (by omega)).1, if_neg (by show ¬ (0 ≤ k ∧ k < ((0 : Nat) : Int)); omega)]
        omega
    refine x_aload_n (x_d C_M_bytes 0 rfl) rfl ?_
    refine x_getfield (v := xC c) (x_d C_M_bytes 1 rfl) f_M_211 rfl rfl ?_
    refine x_ifnonnullC (tgt := 10) (x_d C_M_bytes 2 rfl) rfl ?_
    refine x_aload_n (x_d C_M_bytes 5 rfl) rfl ?_
    refine x_getfield (v := xC c) (x_d C_M_bytes 6 rfl) f_M_211 rfl rfl ?_
    refine x_getfield (v := xI (P 5 p.toNat)) (x_d C_M_bytes 7 rfl) f_M_261 (ct_get (hgk _ _ hc) _ _ _) rfl ?_
    refine x_iconst (x_d C_M_bytes 8 rfl) ⟨by omega, by omega⟩ ?_
    refine x_icmp_eq (tgt := 48) (x_d C_M_bytes 9 rfl) rfl (fun c2 => ?_) (fun c2 => ?_)
    · exfalso
      clear a49 a5 k4 k5 htl
      omega
    · refine x_aload_n (x_d C_M_bytes 10 rfl) rfl ?_
      refine x_getfield (v := xC c) (x_d C_M_bytes 11 rfl) f_M_211 rfl rfl ?_
      refine x_getfield (v := xI (P 5 p.toNat)) (x_d C_M_bytes 12 rfl) f_M_261 (ct_get (hgk _ _ hc) _ _ _) rfl ?_
      refine x_iconst (x_d C_M_bytes 13 rfl) ⟨by omega, by omega⟩ ?_
      refine x_icmp_eq (tgt := 48) (x_d C_M_bytes 14 rfl) rfl (fun c3 => ?_) (fun c3 => ?_)
      · exfalso
        clear a49 a5 k4 k5 htl
        omega
      · refine x_aload_n (x_d C_M_bytes 15 rfl) rfl ?_
        refine x_getfield (v := xC c) (x_d C_M_bytes 16 rfl) f_M_211 rfl rfl ?_
        refine x_getfield (v := xI (P 5 p.toNat)) (x_d C_M_bytes 17 rfl) f_M_261 (ct_get (hgk _ _ hc) _ _ _) rfl ?_
        refine x_bipush (x_d C_M_bytes 18 rfl) (by omega) ?_
        refine x_icmp_ne (tgt := 60) (x_d C_M_bytes 19 rfl) rfl (fun c4 => ?_) (fun c4 => ?_)
        · refine x_aload_n (x_d C_M_bytes 28 rfl) rfl ?_
          refine x_getfield (v := xC c) (x_d C_M_bytes 29 rfl) f_M_211 rfl rfl ?_
          refine x_getfield (v := xN) (x_d C_M_bytes 30 rfl) f_M_156 (ct_get (hgk _ _ hc) _ _ _) rfl ?_
          refine x_ifnullN (tgt := 105) (x_d C_M_bytes 31 rfl) rfl ?_
          refine x_bipush (x_d C_M_bytes 51 rfl) (by omega) ?_
          refine x_ireturn (x_d C_M_bytes 52 rfl) ?_
          exact Or.inl ⟨hno, rfl, rfl⟩
        · refine x_iload_n (x_d C_M_bytes 20 rfl) rfl ?_
          refine x_if_ge (tgt := 60) (x_d C_M_bytes 21 rfl) rfl (fun c6 => ?_) (fun c6 => ?_)
          · refine x_aload_n (x_d C_M_bytes 28 rfl) rfl ?_
            refine x_getfield (v := xC c) (x_d C_M_bytes 29 rfl) f_M_211 rfl rfl ?_
            refine x_getfield (v := xN) (x_d C_M_bytes 30 rfl) f_M_156 (ct_get (hgk _ _ hc) _ _ _) rfl ?_
            refine x_ifnullN (tgt := 105) (x_d C_M_bytes 31 rfl) rfl ?_
            refine x_bipush (x_d C_M_bytes 51 rfl) (by omega) ?_
            refine x_ireturn (x_d C_M_bytes 52 rfl) ?_
            exact Or.inl ⟨hno, rfl, rfl⟩
          · exfalso
            clear a49 a5 k4 k5 htl
            omega
theorem c_M_bytesN (Z : xZ) (d : Nat) (q : Nat → Int) (r : Nat → Option Nat) (A : Nat → Nat → Int) (dy : xH) (k : Int) (fo : Option Nat) : xMet Z d Y_M_bytes [xC 42, xI k] (hF q (x_up (x_up r 1350 fo) 1351 none) A ++ dy) (fun v h2 => v = some (xI (-2)) ∧ h2 = hF q (x_up (x_up r 1350 fo) 1351 none) A ++ dy) := by
  refine xMet_of (by decide) (Nat.le_of_ble_eq_true rfl) (fun v h2 hq => by rw [hq.1]; trivial) ?_
  refine x_aload_n (x_d C_M_bytes 0 rfl) rfl ?_
  refine x_getfield (v := xN) (x_d C_M_bytes 1 rfl) f_M_211 rfl rfl ?_
  refine x_ifnonnullN (tgt := 10) (x_d C_M_bytes 2 rfl) rfl ?_
  refine x_bipush (x_d C_M_bytes 3 rfl) (by omega) ?_
  refine x_ireturn (x_d C_M_bytes 4 rfl) ?_
  exact ⟨rfl, rfl⟩
theorem w_M_inUse_4 (Z : xZ) (d : Nat) (q : Nat → Int) (r : Nat → Option Nat) (A : Nat → Nat → Int) (dy : xH) (cp : Nat) (bt : Option Nat) (tb lt : Int) (tr : Option Nat) (sz : Int) (fis fge fpl : Nat → Int) (fva : Nat → Option Nat) (fch : Nat → Int) (hp : PB dy cp bt tb lt tr sz fis fge fpl fva fch) (hsz : 0 ≤ sz ∧ sz ≤ 300) : ∀ (m : Nat) (t : Int), (0 ≤ t ∧ t + m = sz) → xW Z d Y_M_inUse 4 [(0, xC 42), (1, xI (s_sm (fun k => if fis k = 2 then 1 else 0) t.toNat)), (2, xI t)] [] (hF q (x_up r 1350 (some cp)) A ++ dy) (fun v h2 => v = some (xI (s_sm (fun k => if fis k = 2 then 1 else 0) sz.toNat)) ∧ h2 = hF q (x_up r 1350 (some cp)) A ++ dy) := by
  have hi0 := s_sm_in (f := (fun k => if fis k = 2 then 1 else 0)) (m := 1) (fun k => by show 0 ≤ (if fis k = 2 then (1 : Int) else 0) ∧ (if fis k = 2 then (1 : Int) else 0) ≤ 1; split <;> omega)
  intro m
  induction m with
  | zero =>
    intro t ht
    have h0 := hi0 t.toNat
    refine x_iload_n (x_d C_M_inUse 4 rfl) rfl ?_
    refine x_aload_n (x_d C_M_inUse 5 rfl) rfl ?_
    refine x_getfield (v := xC cp) (x_d C_M_inUse 6 rfl) f_M_207 rfl rfl ?_
    refine x_getfield (v := xI (sz)) (x_d C_M_inUse 7 rfl) f_M_266 (ct_get hp.1 _ _ _) rfl ?_
    refine x_icmp_ge (tgt := 37) (x_d C_M_inUse 8 rfl) rfl (fun _ => ?_) (fun q => absurd q (by omega))
    refine x_iload_n (x_d C_M_inUse 19 rfl) rfl ?_
    refine x_ireturn (x_d C_M_inUse 20 rfl) ?_
    exact ⟨by rw [show sz.toNat = t.toNat by omega], rfl⟩
  | succ m ih =>
    intro t ht
    have h0 := hi0 t.toNat
    have hs := s_sm_s (fun k => if fis k = 2 then 1 else 0) (t := t) ht.1
    have hs : s_sm (fun k => if fis k = 2 then 1 else 0) (t + 1).toNat = s_sm (fun k => if fis k = 2 then 1 else 0) t.toNat + (if fis t.toNat = 2 then 1 else 0) := hs
    refine x_iload_n (x_d C_M_inUse 4 rfl) rfl ?_
    refine x_aload_n (x_d C_M_inUse 5 rfl) rfl ?_
    refine x_getfield (v := xC cp) (x_d C_M_inUse 6 rfl) f_M_207 rfl rfl ?_
    refine x_getfield (v := xI (sz)) (x_d C_M_inUse 7 rfl) f_M_266 (ct_get hp.1 _ _ _) rfl ?_
    refine x_icmp_ge (tgt := 37) (x_d C_M_inUse 8 rfl) rfl (fun q => absurd q (by omega)) (fun _ => ?_)
    refine x_aload_n (x_d C_M_inUse 9 rfl) rfl ?_
    refine x_getfield (v := xC cp) (x_d C_M_inUse 10 rfl) f_M_207 rfl rfl ?_
    refine x_getfield (v := xC (cp + 1)) (x_d C_M_inUse 11 rfl) f_M_267 (ct_get hp.1 _ _ _) rfl ?_
    refine x_iload_n (x_d C_M_inUse 12 rfl) rfl ?_
    refine x_iaload (f := fis) (x_d C_M_inUse 13 rfl) (ct_get hp.2.1 _ _ _) (by omega) (by omega) ?_
    refine x_iconst (x_d C_M_inUse 14 rfl) ⟨by omega, by omega⟩ ?_
    refine x_icmp_ne (tgt := 31) (x_d C_M_inUse 15 rfl) rfl (fun c2 => ?_) (fun c2 => ?_)
    · refine x_iinc (l1 := [(2, xI (t + 1)), (0, xC 42), (1, xI (s_sm (fun k => if fis k = 2 then 1 else 0) t.toNat))]) (x_d C_M_inUse 17 rfl) rfl ⟨by omega, by omega⟩ (by decide) rfl ?_
      refine x_goto (tgt := 4) (x_d C_M_inUse 18 rfl) rfl ?_
      refine x_locs [1, 2, 0] rfl ?_
      rw [if_neg (by omega), Int.add_zero] at hs
      rw [← hs]
      exact ih (t + 1) (by omega)
    · refine x_iinc (l1 := [(1, xI ((s_sm (fun k => if fis k = 2 then 1 else 0) t.toNat) + 1)), (0, xC 42), (2, xI (t))]) (x_d C_M_inUse 16 rfl) rfl ⟨by omega, by omega⟩ (by decide) rfl ?_
      refine x_iinc (l1 := [(2, xI (t + 1)), (1, xI ((s_sm (fun k => if fis k = 2 then 1 else 0) t.toNat) + 1)), (0, xC 42)]) (x_d C_M_inUse 17 rfl) rfl ⟨by omega, by omega⟩ (by decide) rfl ?_
      refine x_goto (tgt := 4) (x_d C_M_inUse 18 rfl) rfl ?_
      refine x_locs [2, 1, 0] rfl ?_
      rw [if_pos (by omega)] at hs
      rw [← hs]
      exact ih (t + 1) (by omega)
theorem c_M_inUse (Z : xZ) (d : Nat) (q : Nat → Int) (r : Nat → Option Nat) (A : Nat → Nat → Int) (dy : xH) (cp : Nat) (bt : Option Nat) (tb lt : Int) (tr : Option Nat) (sz : Int) (fis fge fpl : Nat → Int) (fva : Nat → Option Nat) (fch : Nat → Int) (hp : PB dy cp bt tb lt tr sz fis fge fpl fva fch) (hsz : 0 ≤ sz ∧ sz ≤ 300) : xMet Z d Y_M_inUse [xC 42] (hF q (x_up r 1350 (some cp)) A ++ dy) (fun v h2 => v = some (xI (s_sm (fun k => if fis k = 2 then 1 else 0) sz.toNat)) ∧ h2 = hF q (x_up r 1350 (some cp)) A ++ dy) := by
  refine xMet_of (by decide) (Nat.le_of_ble_eq_true rfl) (fun v h2 hq => by rw [hq.1]; trivial) ?_
  refine x_iconst (x_d C_M_inUse 0 rfl) ⟨by omega, by omega⟩ ?_
  refine x_istore_n (l1 := [(1, xI (0)), (0, xC 42)]) (x_d C_M_inUse 1 rfl) (by decide) rfl ?_
  refine x_iconst (x_d C_M_inUse 2 rfl) ⟨by omega, by omega⟩ ?_
  refine x_istore_n (l1 := [(2, xI (0)), (1, xI (0)), (0, xC 42)]) (x_d C_M_inUse 3 rfl) (by decide) rfl ?_
  refine x_locs [2, 1, 0] rfl ?_
  exact w_M_inUse_4 Z d q r A dy cp bt tb lt tr sz fis fge fpl fva fch hp hsz sz.toNat 0 (by omega)
theorem w_M_changes_16 (Z : xZ) (d : Nat) (q : Nat → Int) (r : Nat → Option Nat) (A : Nat → Nat → Int) (dy : xH) (cp : Nat) (bt : Option Nat) (tb lt : Int) (tr : Option Nat) (sz : Int) (fis fge fpl : Nat → Int) (fva : Nat → Option Nat) (fch : Nat → Int) (hp : PB dy cp bt tb lt tr sz fis fge fpl fva fch) (hsz : 0 ≤ sz ∧ sz ≤ 300) (hch : ∀ k, fch k = 0 ∨ fch k = 1) : ∀ (m : Nat) (t b5 : Int), (0 ≤ t ∧ t + m = 301) → xW Z d Y_M_changes 16 [(0, xC 42), (1, xI (s_sm fch t.toNat)), (2, xC (cp + 5)), (3, xI 301), (4, xI t)] [] (hF q (x_up r 1350 (some cp)) A ++ dy) (fun v h2 => v = some (xI (s_sm fch 301)) ∧ h2 = hF q (x_up r 1350 (some cp)) A ++ dy) := by
  have hi0 := s_sm_in (f := fch) (m := 1) (fun k => by have := hch k; omega)
  intro m
  induction m with
  | zero =>
    intro t b5 ht
    have h0 := hi0 t.toNat
    refine x_iload (x_d C_M_changes 11 rfl) rfl ?_
    refine x_iload_n (x_d C_M_changes 12 rfl) rfl ?_
    refine x_icmp_ge (tgt := 42) (x_d C_M_changes 13 rfl) rfl (fun _ => ?_) (fun q => absurd q (by omega))
    refine x_iload_n (x_d C_M_changes 23 rfl) rfl ?_
    refine x_ireturn (x_d C_M_changes 24 rfl) ?_
    exact ⟨by rw [show (301 : Nat) = t.toNat by omega], rfl⟩
  | succ m ih =>
    intro t b5 ht
    have h0 := hi0 t.toNat
    have hct := hch t.toNat
    have hs := s_sm_s fch (t := t) ht.1
    refine x_iload (x_d C_M_changes 11 rfl) rfl ?_
    refine x_iload_n (x_d C_M_changes 12 rfl) rfl ?_
    refine x_icmp_ge (tgt := 42) (x_d C_M_changes 13 rfl) rfl (fun q => absurd q (by omega)) (fun _ => ?_)
    refine x_aload_n (x_d C_M_changes 14 rfl) rfl ?_
    refine x_iload (x_d C_M_changes 15 rfl) rfl ?_
    refine x_zaload (f := fch) (x_d C_M_changes 16 rfl) (ct_get hp.2.2.2.2.2 _ _ _) (by omega) (by omega) ?_
    refine x_istore (l1 := [(5, xI (fch (t).toNat)), (0, xC 42), (1, xI (s_sm fch t.toNat)), (2, xC (cp + 5)), (3, xI (301)), (4, xI (t))]) (x_d C_M_changes 17 rfl) (by decide) rfl ?_
    refine x_iload (x_d C_M_changes 18 rfl) rfl ?_
    refine x_if_eq (tgt := 36) (x_d C_M_changes 19 rfl) rfl (fun c2 => ?_) (fun c2 => ?_)
    · refine x_iinc (l1 := [(4, xI (t + 1)), (5, xI (fch (t).toNat)), (0, xC 42), (1, xI (s_sm fch t.toNat)), (2, xC (cp + 5)), (3, xI (301))]) (x_d C_M_changes 21 rfl) rfl ⟨by omega, by omega⟩ (by decide) rfl ?_
      refine x_goto (tgt := 16) (x_d C_M_changes 22 rfl) rfl ?_
      refine x_locs [2, 3, 4, 5, 0] rfl ?_
      rw [show fch t.toNat = 0 by omega, Int.add_zero] at hs
      rw [← hs]
      exact ih (t + 1) 0 (by omega)
    · refine x_iinc (l1 := [(1, xI ((s_sm fch t.toNat) + 1)), (5, xI (fch (t).toNat)), (0, xC 42), (2, xC (cp + 5)), (3, xI (301)), (4, xI (t))]) (x_d C_M_changes 20 rfl) rfl ⟨by omega, by omega⟩ (by decide) rfl ?_
      refine x_iinc (l1 := [(4, xI (t + 1)), (1, xI ((s_sm fch t.toNat) + 1)), (5, xI (fch (t).toNat)), (0, xC 42), (2, xC (cp + 5)), (3, xI (301))]) (x_d C_M_changes 21 rfl) rfl ⟨by omega, by omega⟩ (by decide) rfl ?_
      refine x_goto (tgt := 16) (x_d C_M_changes 22 rfl) rfl ?_
      refine x_locs [3, 1, 4, 5, 0] rfl ?_
      rw [show fch t.toNat = 1 by omega] at hs
      rw [← hs]
      exact ih (t + 1) 0 (by omega)
theorem c_M_changes (Z : xZ) (d : Nat) (q : Nat → Int) (r : Nat → Option Nat) (A : Nat → Nat → Int) (dy : xH) (cp : Nat) (bt : Option Nat) (tb lt : Int) (tr : Option Nat) (sz : Int) (fis fge fpl : Nat → Int) (fva : Nat → Option Nat) (fch : Nat → Int) (hp : PB dy cp bt tb lt tr sz fis fge fpl fva fch) (hsz : 0 ≤ sz ∧ sz ≤ 300) (hch : ∀ k, fch k = 0 ∨ fch k = 1) : xMet Z d Y_M_changes [xC 42] (hF q (x_up r 1350 (some cp)) A ++ dy) (fun v h2 => v = some (xI (s_sm fch 301)) ∧ h2 = hF q (x_up r 1350 (some cp)) A ++ dy) := by
  refine xMet_of (by decide) (Nat.le_of_ble_eq_true rfl) (fun v h2 hq => by rw [hq.1]; trivial) ?_
  refine x_iconst (x_d C_M_changes 0 rfl) ⟨by omega, by omega⟩ ?_
  refine x_istore_n (l1 := [(1, xI (0)), (0, xC 42)]) (x_d C_M_changes 1 rfl) (by decide) rfl ?_
  refine x_aload_n (x_d C_M_changes 2 rfl) rfl ?_
  refine x_getfield (v := xC cp) (x_d C_M_changes 3 rfl) f_M_207 rfl rfl ?_
  refine x_getfield (v := xC (cp + 5)) (x_d C_M_changes 4 rfl) f_M_371 (ct_get hp.1 _ _ _) rfl ?_
  refine x_astore_n (l1 := [(2, xC (cp + 5)), (1, xI (0)), (0, xC 42)]) (x_d C_M_changes 5 rfl) (by decide) rfl ?_
  refine x_aload_n (x_d C_M_changes 6 rfl) rfl ?_
  refine x_arraylength (x_d C_M_changes 7 rfl) (ct_get hp.2.2.2.2.2 _ _ _) (by decide) (by omega) ?_
  refine x_istore_n (l1 := [(3, xI ((301 : Int))), (2, xC (cp + 5)), (1, xI (0)), (0, xC 42)]) (x_d C_M_changes 8 rfl) (by decide) rfl ?_
  refine x_iconst (x_d C_M_changes 9 rfl) ⟨by omega, by omega⟩ ?_
  refine x_istore (l1 := [(4, xI (0)), (3, xI ((301 : Int))), (2, xC (cp + 5)), (1, xI (0)), (0, xC 42)]) (x_d C_M_changes 10 rfl) (by decide) rfl ?_
  refine x_locs [4, 3, 2, 1, 0] rfl ?_
  exact w_M_changes_16 Z d q r A dy cp bt tb lt tr sz fis fge fpl fva fch hp hsz hch 301 0 0 (by omega)
theorem w_M_partsBut_4 (Z : xZ) (d : Nat) (q : Nat → Int) (r : Nat → Option Nat) (A : Nat → Nat → Int) (dy : xH) (hd : 10 ≤ d) (cp : Nat) (bt : Option Nat) (tb lt : Int) (tr : Option Nat) (sz : Int) (fis fge fpl : Nat → Int) (fva : Nat → Option Nat) (fch : Nat → Int) (hp : PB dy cp bt tb lt tr sz fis fge fpl fva fch) (hsz : 0 ≤ sz ∧ sz ≤ 300) (X : Nat → Int) (E : Int) (g : Nat → Option xE) (P : Nat → Nat → Int) (hgk : gok g dy) (rt us : Nat → Int) (one : Int) (hus : ∀ k : Nat, (k : Int) < sz → (fis k = 2 ↔ ¬ us k = 0)) (hva : ∀ k : Nat, (k : Int) < sz → ¬ us k = 0 → ∃ c2, fva k = some c2 ∧ Tr X E g P 9 (rt k) c2 ∧ s_bh (P 8) (rt k) ≤ 12900 ∧ 1 ≤ P 8 (rt k).toNat) : ∀ (m : Nat) (t : Int), (0 ≤ t ∧ t + m = sz) → (0 ≤ s_sm (s_pbf us rt (P 8) one) t.toNat ∧ s_sm (s_pbf us rt (P 8) one) t.toNat ≤ 12900 * t) → xW Z d Y_M_partsBut 4 [(0, xC 42), (1, xI one), (2, xI (s_sm (s_pbf us rt (P 8) one) t.toNat)), (3, xI t)] [] (hF q (x_up r 1350 (some cp)) A ++ dy) (fun v h2 => v = some (xI (s_sm (s_pbf us rt (P 8) one) sz.toNat)) ∧ h2 = hF q (x_up r 1350 (some cp)) A ++ dy) := by
  intro m
  induction m with
  | zero =>
    intro t ht hb
    refine x_iload_n (x_d C_M_partsBut 4 rfl) rfl ?_
    refine x_aload_n (x_d C_M_partsBut 5 rfl) rfl ?_
    refine x_getfield (v := xC cp) (x_d C_M_partsBut 6 rfl) f_M_207 rfl rfl ?_
    refine x_getfield (v := xI (sz)) (x_d C_M_partsBut 7 rfl) f_M_266 (ct_get hp.1 _ _ _) rfl ?_
    refine x_icmp_ge (tgt := 54) (x_d C_M_partsBut 8 rfl) rfl (fun _ => ?_) (fun q => absurd q (by omega))
    refine x_iload_n (x_d C_M_partsBut 30 rfl) rfl ?_
    refine x_ireturn (x_d C_M_partsBut 31 rfl) ?_
    exact ⟨by rw [show sz.toNat = t.toNat by omega], rfl⟩
  | succ m ih =>
    intro t ht hb
    have hs := s_sm_s (s_pbf us rt (P 8) one) (t := t) ht.1
    have hs : s_sm (s_pbf us rt (P 8) one) (t + 1).toNat = s_sm (s_pbf us rt (P 8) one) t.toNat + (if ¬ us t.toNat = 0 ∧ ¬ ((t.toNat : Nat) : Int) = one then P 8 (rt t.toNat).toNat else 0) := hs
    rw [show ((t.toNat : Nat) : Int) = t by omega] at hs
    have hut := hus t.toNat (by omega)
    refine x_iload_n (x_d C_M_partsBut 4 rfl) rfl ?_
    refine x_aload_n (x_d C_M_partsBut 5 rfl) rfl ?_
    refine x_getfield (v := xC cp) (x_d C_M_partsBut 6 rfl) f_M_207 rfl rfl ?_
    refine x_getfield (v := xI (sz)) (x_d C_M_partsBut 7 rfl) f_M_266 (ct_get hp.1 _ _ _) rfl ?_
    refine x_icmp_ge (tgt := 54) (x_d C_M_partsBut 8 rfl) rfl (fun q => absurd q (by omega)) (fun _ => ?_)
    refine x_iload_n (x_d C_M_partsBut 9 rfl) rfl ?_
    refine x_iload_n (x_d C_M_partsBut 10 rfl) rfl ?_
    refine x_icmp_eq (tgt := 48) (x_d C_M_partsBut 11 rfl) rfl (fun c2 => ?_) (fun c2 => ?_)
    · refine x_iinc (l1 := [(3, xI (t + 1)), (0, xC 42), (1, xI (one)), (2, xI (s_sm (s_pbf us rt (P 8) one) t.toNat))]) (x_d C_M_partsBut 28 rfl) rfl ⟨by omega, by omega⟩ (by decide) rfl ?_
      refine x_goto (tgt := 4) (x_d C_M_partsBut 29 rfl) rfl ?_
      refine x_locs [1, 2, 3, 0] rfl ?_
      rw [if_neg (fun z => by have := hut.mpr z.1; omega), Int.add_zero] at hs
      rw [← hs]
      exact ih (t + 1) (by omega) (by rw [hs]; omega)
    · refine x_aload_n (x_d C_M_partsBut 12 rfl) rfl ?_
      refine x_getfield (v := xC cp) (x_d C_M_partsBut 13 rfl) f_M_207 rfl rfl ?_
      refine x_getfield (v := xC (cp + 1)) (x_d C_M_partsBut 14 rfl) f_M_267 (ct_get hp.1 _ _ _) rfl ?_
      refine x_iload_n (x_d C_M_partsBut 15 rfl) rfl ?_
      refine x_iaload (f := fis) (x_d C_M_partsBut 16 rfl) (ct_get hp.2.1 _ _ _) (by omega) (by omega) ?_
      refine x_iconst (x_d C_M_partsBut 17 rfl) ⟨by omega, by omega⟩ ?_
      refine x_icmp_ne (tgt := 48) (x_d C_M_partsBut 18 rfl) rfl (fun c3 => ?_) (fun c3 => ?_)
      · refine x_iinc (l1 := [(3, xI (t + 1)), (0, xC 42), (1, xI (one)), (2, xI (s_sm (s_pbf us rt (P 8) one) t.toNat))]) (x_d C_M_partsBut 28 rfl) rfl ⟨by omega, by omega⟩ (by decide) rfl ?_
        refine x_goto (tgt := 4) (x_d C_M_partsBut 29 rfl) rfl ?_
        refine x_locs [1, 2, 3, 0] rfl ?_
        rw [if_neg (fun z => by have := hut.mpr z.1; omega), Int.add_zero] at hs
        rw [← hs]
        exact ih (t + 1) (by omega) (by rw [hs]; omega)
      · refine x_iload_n (x_d C_M_partsBut 19 rfl) rfl ?_
        refine x_aload_n (x_d C_M_partsBut 20 rfl) rfl ?_
        refine x_getfield (v := xC cp) (x_d C_M_partsBut 21 rfl) f_M_207 rfl rfl ?_
        refine x_getfield (v := xC (cp + 4)) (x_d C_M_partsBut 22 rfl) f_M_281 (ct_get hp.1 _ _ _) rfl ?_
        refine x_iload_n (x_d C_M_partsBut 23 rfl) rfl ?_
        refine x_aaload (x_d C_M_partsBut 24 rfl) (ct_get hp.2.2.2.2.1 _ _ _) (by omega) (by omega) ?_
        have hu1 : ¬ us t.toNat = 0 := hut.mp (by omega)
        obtain ⟨c2, hc2, ht2, hb2, hp2⟩ := hva t.toNat (by omega) hu1
        obtain ⟨h02, fs2, hf2⟩ := Tr_c ht2
        rw [hc2]
        have hbh : s_bh (P 8) (rt t.toNat) - rt t.toNat = P 8 (rt t.toNat).toNat := by unfold s_bh; omega
        refine x_invokevirtual (st := [xI (s_sm (s_pbf us rt (P 8) one) t.toNat)]) (av := []) (x_d C_M_partsBut 25 rfl) k_M_288 m_MQ_parts v_MQ_parts cl_MQ (ct_get (hgk _ _ hf2) _ _ _) rfl (Nat.le_of_ble_eq_true rfl) (by omega) rfl (t_parts Z (hF q (x_up r 1350 (some cp)) A ++ dy) X E g P (gh_of hgk _ _ _) 9 (d - 1) (rt t.toNat) c2 (by omega) ht2 hb2) ?_
        rintro v_ h_ ⟨hv_, hh_⟩
        rw [hh_]
        clear hh_
        obtain rfl : v_ = some (xI (P 8 (rt t.toNat).toNat)) := by rw [hv_, hbh]
        refine x_iadd (x_d C_M_partsBut 26 rfl) ⟨by omega, by omega⟩ ?_
        refine x_istore_n (l1 := [(2, xI ((s_sm (s_pbf us rt (P 8) one) t.toNat) + (P 8 (rt t.toNat).toNat))), (0, xC 42), (1, xI (one)), (3, xI (t))]) (x_d C_M_partsBut 27 rfl) (by decide) rfl ?_
        refine x_iinc (l1 := [(3, xI (t + 1)), (2, xI ((s_sm (s_pbf us rt (P 8) one) t.toNat) + (P 8 (rt t.toNat).toNat))), (0, xC 42), (1, xI (one))]) (x_d C_M_partsBut 28 rfl) rfl ⟨by omega, by omega⟩ (by decide) rfl ?_
        refine x_goto (tgt := 4) (x_d C_M_partsBut 29 rfl) rfl ?_
        refine x_locs [2, 3, 1, 0] rfl ?_
        rw [if_pos ⟨hu1, by omega⟩] at hs
        rw [← hs]
        exact ih (t + 1) (by omega) (by rw [hs]; omega)
theorem c_M_partsBut (Z : xZ) (d : Nat) (q : Nat → Int) (r : Nat → Option Nat) (A : Nat → Nat → Int) (dy : xH) (hd : 10 ≤ d) (cp : Nat) (bt : Option Nat) (tb lt : Int) (tr : Option Nat) (sz : Int) (fis fge fpl : Nat → Int) (fva : Nat → Option Nat) (fch : Nat → Int) (hp : PB dy cp bt tb lt tr sz fis fge fpl fva fch) (hsz : 0 ≤ sz ∧ sz ≤ 300) (X : Nat → Int) (E : Int) (g : Nat → Option xE) (P : Nat → Nat → Int) (hgk : gok g dy) (rt us : Nat → Int) (one : Int) (hus : ∀ k : Nat, (k : Int) < sz → (fis k = 2 ↔ ¬ us k = 0)) (hva : ∀ k : Nat, (k : Int) < sz → ¬ us k = 0 → ∃ c2, fva k = some c2 ∧ Tr X E g P 9 (rt k) c2 ∧ s_bh (P 8) (rt k) ≤ 12900 ∧ 1 ≤ P 8 (rt k).toNat) : xMet Z d Y_M_partsBut [xC 42, xI one] (hF q (x_up r 1350 (some cp)) A ++ dy) (fun v h2 => v = some (xI (s_sm (s_pbf us rt (P 8) one) sz.toNat)) ∧ h2 = hF q (x_up r 1350 (some cp)) A ++ dy) := by
  refine xMet_of (by decide) (Nat.le_of_ble_eq_true rfl) (fun v h2 hq => by rw [hq.1]; trivial) ?_
  refine x_iconst (x_d C_M_partsBut 0 rfl) ⟨by omega, by omega⟩ ?_
  refine x_istore_n (l1 := [(2, xI (0)), (0, xC 42), (1, xI (one))]) (x_d C_M_partsBut 1 rfl) (by decide) rfl ?_
  refine x_iconst (x_d C_M_partsBut 2 rfl) ⟨by omega, by omega⟩ ?_
  refine x_istore_n (l1 := [(3, xI (0)), (2, xI (0)), (0, xC 42), (1, xI (one))]) (x_d C_M_partsBut 3 rfl) (by decide) rfl ?_
  refine x_locs [2, 3, 1, 0] rfl ?_
  exact w_M_partsBut_4 Z d q r A dy hd cp bt tb lt tr sz fis fge fpl fva fch hp hsz X E g P hgk rt us one hus hva sz.toNat 0 (by omega) ⟨Int.le_refl 0, by show (0 : Int) ≤ 12900 * 0; omega⟩
