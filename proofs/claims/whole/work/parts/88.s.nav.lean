/-! the reference: from part to part -/
theorem s_nth_eq : ∀ (L : List Int) (k : Int), s_nth L k = if 0 ≤ k ∧ k < L.length then L.getD k.toNat 0 else -1
  | [], k => by
    show (-1 : Int) = _
    rw [if_neg (by show ¬ (0 ≤ k ∧ k < ((0 : Nat) : Int)); omega)]
  | x :: l, k => by
    unfold s_nth
    split
    · next e =>
      subst e
      rw [if_pos ⟨by omega, by show (0 : Int) < ((l.length + 1 : Nat) : Int); omega⟩]
      rfl
    · next e =>
      rw [s_nth_eq l (k - 1)]
      by_cases c : 0 ≤ k - 1 ∧ k - 1 < l.length
      · rw [if_pos c, if_pos ⟨by omega, by show k < ((l.length + 1 : Nat) : Int); omega⟩]
        obtain ⟨m, hm⟩ : ∃ m, k.toNat = m + 1 := ⟨k.toNat - 1, by omega⟩
        rw [hm, show (k - 1).toNat = m by omega]
        rfl
      · rw [if_neg c, if_neg (by show ¬ (0 ≤ k ∧ k < ((l.length + 1 : Nat) : Int)); omega)]
/-- where the point is then: p2 the part, -1 for none -/
def nvq (q : Nat → Int) (r : Nat → Option Nat) (A : Nat → Nat → Int) (dy : xH) (fo po : Option Nat) (X : Nat → Int) (E : Int) (g : Nat → Option xE) (P : Nat → Nat → Int) (p2 : Int) : Option xV → xH → Prop := fun v h2 => (p2 < 0 ∧ v = some (xI (-2)) ∧ h2 = hF q (x_up (x_up r 1350 fo) 1351 po) A ++ dy) ∨ (0 ≤ p2 ∧ ∃ c2, Tr X E g P 9 p2 c2 ∧ v = some (xI (P 5 p2.toNat)) ∧ h2 = hF q (x_up (x_up r 1350 fo) 1351 (some c2)) A ++ dy)
theorem nvq_rok {q : Nat → Int} {r : Nat → Option Nat} {A : Nat → Nat → Int} {dy : xH} {fo po : Option Nat} {X : Nat → Int} {E : Int} {g : Nat → Option xE} {P : Nat → Nat → Int} {p2 : Int} {v : Option xV} {h2 : xH} (h : nvq q r A dy fo po X E g P p2 v h2) : x_rok (some .int) v := by
  rcases h with ⟨_, e, _⟩ | ⟨_, _, _, e, _⟩ <;> rw [e] <;> trivial
theorem Tr_c {X : Nat → Int} {E : Int} {g : Nat → Option xE} {P : Nat → Nat → Int} {D : Nat} {p : Int} {c : Nat} (h : Tr X E g P D p c) : 0 ≤ p ∧ ∃ fs, g c = some (xB 12 (xI (P 5 p.toNat) :: fs)) := by
  cases D with
  | zero => exact h.elim
  | succ D =>
    obtain ⟨h0, x, y, m, bt, it, nm, h1, -⟩ := h
    exact ⟨h0, _, h1⟩
theorem c_M_isUsed2 (Z : xZ) (d : Nat) (q : Nat → Int) (r : Nat → Option Nat) (A : Nat → Nat → Int) (dy : xH) (hd : 1 ≤ d) (n : Int) (po : Option Nat) (cp : Nat) (bt : Option Nat) (tb lt : Int) (tr : Option Nat) (sz : Int) (fis fge fpl : Nat → Int) (fva : Nat → Option Nat) (fch : Nat → Int) (hp : PB dy cp bt tb lt tr sz fis fge fpl fva fch) (hsz : 0 ≤ sz ∧ sz ≤ 300) : xMet Z d Y_M_isUsed [xC 42, xI n] (hF q (x_up (x_up r 1350 (some cp)) 1351 po) A ++ dy) (fun v h2 => ∃ z : Int, v = some (xI z) ∧ h2 = hF q (x_up (x_up r 1350 (some cp)) 1351 po) A ++ dy ∧ ((z = 1 ∧ 0 ≤ n ∧ n < sz ∧ fis n.toNat = 2) ∨ (z = 0 ∧ ¬ (0 ≤ n ∧ n < sz ∧ fis n.toNat = 2)))) := by
  have h0 := c_M_isUsed Z d q (x_up r 1351 po) A dy hd n cp bt tb lt tr sz fis fge fpl fva fch hp hsz
  rw [x_up_c r (by decide : (1351 : Nat) ≠ 1350) po (some cp)] at h0
  refine xMet_post (fun v h2 hq => ⟨_, hq.1, hq.2, ?_⟩) h0
  by_cases c : 0 ≤ n ∧ n < sz ∧ fis n.toNat = 2
  · exact Or.inl ⟨x_bo_t c, c⟩
  · exact Or.inr ⟨x_bo_f c, c⟩
theorem c_M_go (Z : xZ) (d : Nat) (q : Nat → Int) (r : Nat → Option Nat) (A : Nat → Nat → Int) (dy : xH) (hd : 2 ≤ d) (n : Int) (po : Option Nat) (X : Nat → Int) (E : Int) (g : Nat → Option xE) (P : Nat → Nat → Int) (hgk : gok g dy) (cp : Nat) (bt : Option Nat) (tb lt : Int) (tr : Option Nat) (sz : Int) (fis fge fpl : Nat → Int) (fva : Nat → Option Nat) (fch : Nat → Int) (hp : PB dy cp bt tb lt tr sz fis fge fpl fva fch) (hsz : 0 ≤ sz ∧ sz ≤ 300) (rt us gn : Nat → Int) (hus : ∀ k : Nat, (k : Int) < sz → (fis k = 2 ↔ ¬ us k = 0) ∧ gn k = fge k) (hva : ∀ k : Nat, (k : Int) < sz → ¬ us k = 0 → ∃ c2, fva k = some c2 ∧ Tr X E g P 9 (rt k) c2) : xMet Z d Y_M_go [xC 42, xI n] (hF q (x_up (x_up r 1350 (some cp)) 1351 po) A ++ dy) (nvq q r A dy (some cp) po X E g P (if 0 ≤ n ∧ n < sz ∧ ¬ us n.toNat = 0 then rt n.toNat else -1)) := by
  refine xMet_of (by decide) (Nat.le_of_ble_eq_true rfl) (fun v h2 hq => nvq_rok hq) ?_
  have hun := hus n.toNat
  refine x_aload_n (x_d C_M_go 0 rfl) rfl ?_
  refine x_iload_n (x_d C_M_go 1 rfl) rfl ?_
  refine x_invokevirtual (st := []) (av := [xI (n)]) (x_d C_M_go 2 rfl) k_M_311 m_M_isUsed v_M_isUsed cl_M rfl rfl (Nat.le_of_ble_eq_true rfl) (by omega) rfl (c_M_isUsed2 Z (d - 1) q r A dy (by omega) n po cp bt tb lt tr sz fis fge fpl fva fch hp hsz) ?_
  rintro v_ _ ⟨z1, rfl, rfl, hz1⟩
  refine x_if_eq (tgt := 24) (x_d C_M_go 3 rfl) rfl (fun c2 => ?_) (fun c2 => ?_)
  · refine x_bipush (x_d C_M_go 12 rfl) (by omega) ?_
    refine x_ireturn (x_d C_M_go 13 rfl) ?_
    refine Or.inl ⟨?_, rfl, rfl⟩
    rw [if_neg (fun z => by have := (hun (by omega)).1.mpr z.2.2; omega)]
    omega
  · refine x_aload_n (x_d C_M_go 4 rfl) rfl ?_
    refine x_aload_n (x_d C_M_go 5 rfl) rfl ?_
    refine x_getfield (v := xC cp) (x_d C_M_go 6 rfl) f_M_207 rfl rfl ?_
    refine x_getfield (v := xC (cp + 4)) (x_d C_M_go 7 rfl) f_M_281 (ct_get hp.1 _ _ _) rfl ?_
    refine x_iload_n (x_d C_M_go 8 rfl) rfl ?_
    refine x_aaload (x_d C_M_go 9 rfl) (ct_get hp.2.2.2.2.1 _ _ _) (by omega) (by omega) ?_
    have hun2 := hun (by omega)
    have hu9 : ¬ us n.toNat = 0 := hun2.1.mp (by omega)
    obtain ⟨c2, hc2, ht2⟩ := hva n.toNat (by omega) hu9
    obtain ⟨h02, fs2, hf2⟩ := Tr_c ht2
    rw [hc2]
    refine x_invokevirtual (st := []) (av := [xC c2]) (x_d C_M_go 10 rfl) k_M_314 m_M_isAt2 v_M_isAt2 cl_M rfl rfl (Nat.le_of_ble_eq_true rfl) (by omega) rfl (c_M_isAt2 Z (d - 1) q (x_up (x_up r 1350 (some cp)) 1351 po) A dy c2 _ _ (hgk _ _ hf2)) ?_
    rintro v_ h_ ⟨hv_, hh_⟩
    obtain rfl : v_ = some (xI (P 5 (rt n.toNat).toNat)) := hv_
    obtain rfl : h_ = hF q (x_up (x_up r 1350 (some cp)) 1351 (some c2)) A ++ dy := by rw [hh_, x_up_2]
    refine x_goto (tgt := 26) (x_d C_M_go 11 rfl) rfl ?_
    refine x_ireturn (x_d C_M_go 13 rfl) ?_
    refine Or.inr ⟨?_, c2, ?_, ?_, rfl⟩
    · rw [if_pos ⟨by omega, by omega, hu9⟩]; exact h02
    · rw [if_pos ⟨by omega, by omega, hu9⟩]; exact ht2
    · rw [if_pos ⟨by omega, by omega, hu9⟩]
theorem c_M_isUsedN2 (Z : xZ) (d : Nat) (q : Nat → Int) (r : Nat → Option Nat) (A : Nat → Nat → Int) (dy : xH) (n : Int) (po : Option Nat) : xMet Z d Y_M_isUsed [xC 42, xI n] (hF q (x_up (x_up r 1350 none) 1351 po) A ++ dy) (fun v h2 => v = some (xI 0) ∧ h2 = hF q (x_up (x_up r 1350 none) 1351 po) A ++ dy) := by
  refine xMet_of (by decide) (Nat.le_of_ble_eq_true rfl) (fun v h2 hq => by rw [hq.1]; exact Or.inl rfl) ?_
  refine x_aload_n (x_d C_M_isUsed 0 rfl) rfl ?_
  refine x_getfield (v := xN) (x_d C_M_isUsed 1 rfl) f_M_207 rfl rfl ?_
  refine x_ifnullN (tgt := 43) (x_d C_M_isUsed 2 rfl) rfl ?_
  refine x_iconst (x_d C_M_isUsed 23 rfl) ⟨by omega, by omega⟩ ?_
  refine x_ireturn (x_d C_M_isUsed 24 rfl) ?_
  exact ⟨rfl, rfl⟩
theorem c_M_goN (Z : xZ) (d : Nat) (q : Nat → Int) (r : Nat → Option Nat) (A : Nat → Nat → Int) (dy : xH) (hd : 1 ≤ d) (n : Int) (po : Option Nat) : xMet Z d Y_M_go [xC 42, xI n] (hF q (x_up (x_up r 1350 none) 1351 po) A ++ dy) (fun v h2 => v = some (xI (-2)) ∧ h2 = hF q (x_up (x_up r 1350 none) 1351 po) A ++ dy) := by
  refine xMet_of (by decide) (Nat.le_of_ble_eq_true rfl) (fun v h2 hq => by rw [hq.1]; trivial) ?_
  refine x_aload_n (x_d C_M_go 0 rfl) rfl ?_
  refine x_iload_n (x_d C_M_go 1 rfl) rfl ?_
  refine x_invokevirtual (st := []) (av := [xI (n)]) (x_d C_M_go 2 rfl) k_M_311 m_M_isUsed v_M_isUsed cl_M rfl rfl (Nat.le_of_ble_eq_true rfl) (by omega) rfl (c_M_isUsedN2 Z (d - 1) q r A dy n po) ?_
  rintro v_ _ ⟨hv_, rfl⟩
  obtain rfl : v_ = some (xI 0) := hv_
  refine x_if_eq (tgt := 24) (x_d C_M_go 3 rfl) rfl (fun _ => ?_) (fun q => absurd q (by omega))
  refine x_bipush (x_d C_M_go 12 rfl) (by omega) ?_
  refine x_ireturn (x_d C_M_go 13 rfl) ?_
  exact ⟨rfl, rfl⟩
theorem c_M_trailer (Z : xZ) (d : Nat) (q : Nat → Int) (r : Nat → Option Nat) (A : Nat → Nat → Int) (dy : xH) (hd : 1 ≤ d) (po : Option Nat) (X : Nat → Int) (E : Int) (g : Nat → Option xE) (P : Nat → Nat → Int) (hgk : gok g dy) (cp : Nat) (bt : Option Nat) (tb lt : Int) (sz : Int) (fis fge fpl : Nat → Int) (fva : Nat → Option Nat) (fch : Nat → Int) (c : Nat) (p : Int) (hp : PB dy cp bt tb lt (some c) sz fis fge fpl fva fch) (ht : Tr X E g P 9 p c) : xMet Z d Y_M_trailer [xC 42] (hF q (x_up (x_up r 1350 (some cp)) 1351 po) A ++ dy) (nvq q r A dy (some cp) po X E g P (p)) := by
  refine xMet_of (by decide) (Nat.le_of_ble_eq_true rfl) (fun v h2 hq => nvq_rok hq) ?_
  obtain ⟨h0, fs, hf⟩ := Tr_c ht
  refine x_aload_n (x_d C_M_trailer 0 rfl) rfl ?_
  refine x_getfield (v := xC cp) (x_d C_M_trailer 1 rfl) f_M_207 rfl rfl ?_
  refine x_ifnonnullC (tgt := 12) (x_d C_M_trailer 2 rfl) rfl ?_
  refine x_aload_n (x_d C_M_trailer 5 rfl) rfl ?_
  refine x_aload_n (x_d C_M_trailer 6 rfl) rfl ?_
  refine x_getfield (v := xC cp) (x_d C_M_trailer 7 rfl) f_M_207 rfl rfl ?_
  refine x_getfield (v := xC c) (x_d C_M_trailer 8 rfl) f_M_264 (ct_get hp.1 _ _ _) rfl ?_
  refine x_invokevirtual (st := []) (av := [xC c]) (x_d C_M_trailer 9 rfl) k_M_314 m_M_isAt2 v_M_isAt2 cl_M rfl rfl (Nat.le_of_ble_eq_true rfl) (by omega) rfl (c_M_isAt2 Z (d - 1) q (x_up (x_up r 1350 (some cp)) 1351 po) A dy c _ _ (hgk _ _ hf)) ?_
  rintro v_ h_ ⟨hv_, hh_⟩
  obtain rfl : v_ = some (xI (P 5 p.toNat)) := hv_
  obtain rfl : h_ = hF q (x_up (x_up r 1350 (some cp)) 1351 (some c)) A ++ dy := by rw [hh_, x_up_2]
  refine x_ireturn (x_d C_M_trailer 10 rfl) ?_
  exact Or.inr ⟨h0, c, ht, rfl, rfl⟩
theorem c_M_trailerN (Z : xZ) (d : Nat) (q : Nat → Int) (r : Nat → Option Nat) (A : Nat → Nat → Int) (dy : xH) (po : Option Nat) : xMet Z d Y_M_trailer [xC 42] (hF q (x_up (x_up r 1350 none) 1351 po) A ++ dy) (fun v h2 => v = some (xI (-2)) ∧ h2 = hF q (x_up (x_up r 1350 none) 1351 po) A ++ dy) := by
  refine xMet_of (by decide) (Nat.le_of_ble_eq_true rfl) (fun v h2 hq => by rw [hq.1]; trivial) ?_
  refine x_aload_n (x_d C_M_trailer 0 rfl) rfl ?_
  refine x_getfield (v := xN) (x_d C_M_trailer 1 rfl) f_M_207 rfl rfl ?_
  refine x_ifnonnullN (tgt := 12) (x_d C_M_trailer 2 rfl) rfl ?_
  refine x_bipush (x_d C_M_trailer 3 rfl) (by omega) ?_
  refine x_goto (tgt := 23) (x_d C_M_trailer 4 rfl) rfl ?_
  refine x_ireturn (x_d C_M_trailer 10 rfl) ?_
  exact ⟨rfl, rfl⟩
theorem c_M_item (Z : xZ) (d : Nat) (q : Nat → Int) (r : Nat → Option Nat) (A : Nat → Nat → Int) (dy : xH) (hd : 1 ≤ d) (fo : Option Nat) (X : Nat → Int) (E : Int) (g : Nat → Option xE) (P : Nat → Nat → Int) (hgk : gok g dy) (D : Nat) (hD : D ≤ 8) (p : Int) (c : Nat) (ht : Tr X E g P (D + 1) p c) (k : Int) : xMet Z d Y_M_item [xC 42, xI k] (hF q (x_up (x_up r 1350 fo) 1351 (some c)) A ++ dy) (nvq q r A dy fo (some c) X E g P (s_nth (s_in (P 8) p) k)) := by
  refine xMet_of (by decide) (Nat.le_of_ble_eq_true rfl) (fun v h2 hq => nvq_rok hq) ?_
  have ht2 := ht
  obtain ⟨h0, x, y, m, bt, it, nm, hc, hL, hm, h60, hch, L, k1, k2, k3, k4, k5, k6, k7, k8⟩ := Tr_o ht2
  have hLe : s_in (P 8) p = L := by unfold s_in; exact s_ch_K k1
  rw [hLe] at hm h60
  rw [hLe, s_nth_eq]
  by_cases hkd : P 5 p.toNat = 6 ∨ P 5 p.toNat = 7 ∨ P 5 p.toNat = 9
  · obtain ⟨ci, cap, fi, rfl, a2, a3, a4, a5⟩ := k4 hkd
    refine x_aload_n (x_d C_M_item 0 rfl) rfl ?_
    refine x_getfield (v := xC c) (x_d C_M_item 1 rfl) f_M_211 rfl rfl ?_
    refine x_ifnullC (tgt := 42) (x_d C_M_item 2 rfl) rfl ?_
    refine x_iload_n (x_d C_M_item 3 rfl) rfl ?_
    refine x_i2l (x_d C_M_item 4 rfl) ?_
    refine x_lconst0 (x_d C_M_item 5 rfl) ?_
    refine x_aload_n (x_d C_M_item 6 rfl) rfl ?_
    refine x_getfield (v := xC c) (x_d C_M_item 7 rfl) f_M_211 rfl rfl ?_
    refine x_getfield (v := xI (m)) (x_d C_M_item 8 rfl) f_M_145 (ct_get (hgk _ _ hc) _ _ _) rfl ?_
    refine x_iconst (x_d C_M_item 9 rfl) ⟨by omega, by omega⟩ ?_
    refine x_isub (x_d C_M_item 10 rfl) ⟨by omega, by omega⟩ ?_
    refine x_i2l (x_d C_M_item 11 rfl) ?_
    refine x_invokestatic (st := []) (av := [xJ (k), xJ (0), xJ (m - 1)]) (x_d C_M_item 12 rfl) k_M_48 m_M_in s_M_in rfl (Nat.le_of_ble_eq_true rfl) (by omega) rfl (c_M_in Z (d - 1) (hF q (x_up (x_up r 1350 fo) 1351 (some c)) A ++ dy) k 0 (m - 1)) ?_
    rintro v_ h_ ⟨hv_, hh_⟩
    rw [hh_]
    clear hh_
    obtain ⟨z2, rfl, hz2⟩ : ∃ z : Int, v_ = some (xI z) ∧ ((z = 1 ∧ (0 ≤ k ∧ k ≤ m - 1)) ∨ (z = 0 ∧ ¬ (0 ≤ k ∧ k ≤ m - 1))) := ⟨_, hv_, by by_cases c_ : (0 ≤ k ∧ k ≤ m - 1); exact Or.inl ⟨x_bo_t c_, c_⟩; exact Or.inr ⟨x_bo_f c_, c_⟩⟩
    refine x_if_eq (tgt := 42) (x_d C_M_item 13 rfl) rfl (fun c3 => ?_) (fun c3 => ?_)
    · refine x_bipush (x_d C_M_item 22 rfl) (by omega) ?_
      refine x_ireturn (x_d C_M_item 23 rfl) ?_
      refine Or.inl ⟨?_, rfl, rfl⟩
      rw [if_neg (by omega)]
      omega
    · refine x_aload_n (x_d C_M_item 14 rfl) rfl ?_
      refine x_aload_n (x_d C_M_item 15 rfl) rfl ?_
      refine x_getfield (v := xC c) (x_d C_M_item 16 rfl) f_M_211 rfl rfl ?_
      refine x_getfield (v := xC ci) (x_d C_M_item 17 rfl) f_M_141 (ct_get (hgk _ _ hc) _ _ _) rfl ?_
      refine x_iload_n (x_d C_M_item 18 rfl) rfl ?_
      refine x_aaload (x_d C_M_item 19 rfl) (ct_get (hgk _ _ a2) _ _ _) (by omega) (by omega) ?_
      obtain ⟨c2, hc2, ht3⟩ := a5 k.toNat (by omega)
      obtain ⟨h02, fs2, hf2⟩ := Tr_c ht3
      rw [hc2]
      refine x_invokevirtual (st := []) (av := [xC c2]) (x_d C_M_item 20 rfl) k_M_314 m_M_isAt2 v_M_isAt2 cl_M rfl rfl (Nat.le_of_ble_eq_true rfl) (by omega) rfl (c_M_isAt2 Z (d - 1) q (x_up (x_up r 1350 fo) 1351 (some c)) A dy c2 _ _ (hgk _ _ hf2)) ?_
      rintro v_ h_ ⟨hv_, hh_⟩
      obtain rfl : v_ = some (xI (P 5 (L.getD k.toNat 0).toNat)) := hv_
      obtain rfl : h_ = hF q (x_up (x_up r 1350 fo) 1351 (some c2)) A ++ dy := by rw [hh_, x_up_2]
      refine x_goto (tgt := 44) (x_d C_M_item 21 rfl) rfl ?_
      refine x_ireturn (x_d C_M_item 23 rfl) ?_
      have hin : 0 ≤ k ∧ k < (L.length : Int) := by omega
      refine Or.inr ⟨?_, c2, ?_, ?_, rfl⟩
      · rw [if_pos hin]; exact h02
      · rw [if_pos hin]; exact Tr_le ht3 (by omega)
      · rw [if_pos hin]
  · refine x_aload_n (x_d C_M_item 0 rfl) rfl ?_
    refine x_getfield (v := xC c) (x_d C_M_item 1 rfl) f_M_211 rfl rfl ?_
    refine x_ifnullC (tgt := 42) (x_d C_M_item 2 rfl) rfl ?_
    refine x_iload_n (x_d C_M_item 3 rfl) rfl ?_
    refine x_i2l (x_d C_M_item 4 rfl) ?_
    refine x_lconst0 (x_d C_M_item 5 rfl) ?_
    refine x_aload_n (x_d C_M_item 6 rfl) rfl ?_
    refine x_getfield (v := xC c) (x_d C_M_item 7 rfl) f_M_211 rfl rfl ?_
    refine x_getfield (v := xI (m)) (x_d C_M_item 8 rfl) f_M_145 (ct_get (hgk _ _ hc) _ _ _) rfl ?_
    refine x_iconst (x_d C_M_item 9 rfl) ⟨by omega, by omega⟩ ?_
    refine x_isub (x_d C_M_item 10 rfl) ⟨by omega, by omega⟩ ?_
    refine x_i2l (x_d C_M_item 11 rfl) ?_
    refine x_invokestatic (st := []) (av := [xJ (k), xJ (0), xJ (m - 1)]) (x_d C_M_item 12 rfl) k_M_48 m_M_in s_M_in rfl (Nat.le_of_ble_eq_true rfl) (by omega) rfl (c_M_in Z (d - 1) (hF q (x_up (x_up r 1350 fo) 1351 (some c)) A ++ dy) k 0 (m - 1)) ?_
    rintro v_ h_ ⟨hv_, hh_⟩
    rw [hh_]
    clear hh_
    obtain ⟨z2, rfl, hz2⟩ : ∃ z : Int, v_ = some (xI z) ∧ ((z = 1 ∧ (0 ≤ k ∧ k ≤ m - 1)) ∨ (z = 0 ∧ ¬ (0 ≤ k ∧ k ≤ m - 1))) := ⟨_, hv_, by by_cases c_ : (0 ≤ k ∧ k ≤ m - 1); exact Or.inl ⟨x_bo_t c_, c_⟩; exact Or.inr ⟨x_bo_f c_, c_⟩⟩
    refine x_if_eq (tgt := 42) (x_d C_M_item 13 rfl) rfl (fun c3 => ?_) (fun c3 => ?_)
    · refine x_bipush (x_d C_M_item 22 rfl) (by omega) ?_
      refine x_ireturn (x_d C_M_item 23 rfl) ?_
      refine Or.inl ⟨?_, rfl, rfl⟩
      rw [if_neg (by omega)]
      omega
    · exfalso
      have := (k8 hkd).1
      rw [this] at hm
      have hm : m = 0 := hm
      omega
theorem c_M_itemN (Z : xZ) (d : Nat) (q : Nat → Int) (r : Nat → Option Nat) (A : Nat → Nat → Int) (dy : xH) (k : Int) (fo : Option Nat) : xMet Z d Y_M_item [xC 42, xI k] (hF q (x_up (x_up r 1350 fo) 1351 none) A ++ dy) (fun v h2 => v = some (xI (-2)) ∧ h2 = hF q (x_up (x_up r 1350 fo) 1351 none) A ++ dy) := by
  refine xMet_of (by decide) (Nat.le_of_ble_eq_true rfl) (fun v h2 hq => by rw [hq.1]; trivial) ?_
  refine x_aload_n (x_d C_M_item 0 rfl) rfl ?_
  refine x_getfield (v := xN) (x_d C_M_item 1 rfl) f_M_211 rfl rfl ?_
  refine x_ifnullN (tgt := 42) (x_d C_M_item 2 rfl) rfl ?_
  refine x_bipush (x_d C_M_item 22 rfl) (by omega) ?_
  refine x_ireturn (x_d C_M_item 23 rfl) ?_
  exact ⟨rfl, rfl⟩
theorem c_M_findN (Z : xZ) (d : Nat) (q : Nat → Int) (r : Nat → Option Nat) (A : Nat → Nat → Int) (dy : xH) (hd : 1 ≤ d) (fo : Option Nat) : xMet Z d Y_M_find [xC 42] (hF q (x_up (x_up r 1350 fo) 1351 none) A ++ dy) (fun v h2 => v = some (xI (-2)) ∧ h2 = hF (x_up q 1349 0) (x_up (x_up r 1350 fo) 1351 none) A ++ dy) := by
  refine xMet_of (by decide) (Nat.le_of_ble_eq_true rfl) (fun v h2 hq => by rw [hq.1]; trivial) ?_
  refine x_aload_n (x_d C_M_find 0 rfl) rfl ?_
  refine x_invokevirtual (st := []) (av := []) (x_d C_M_find 1 rfl) k_M_199 m_M_used v_M_used cl_M rfl rfl (Nat.le_of_ble_eq_true rfl) (by omega) rfl (c_M_used Z (d - 1) q (x_up (x_up r 1350 fo) 1351 none) A dy) ?_
  rintro v_ _ ⟨hv_, rfl⟩
  obtain rfl : v_ = some (xI (q 1349)) := hv_
  refine x_istore_n (l1 := [(1, xI (q 1349)), (0, xC 42)]) (x_d C_M_find 2 rfl) (by decide) rfl ?_
  refine x_aload_n (x_d C_M_find 3 rfl) rfl ?_
  refine x_getfield (v := xN) (x_d C_M_find 4 rfl) f_M_211 rfl rfl ?_
  refine x_ifnonnullN (tgt := 17) (x_d C_M_find 5 rfl) rfl ?_
  refine x_bipush (x_d C_M_find 6 rfl) (by omega) ?_
  refine x_goto (tgt := 34) (x_d C_M_find 7 rfl) rfl ?_
  refine x_ireturn (x_d C_M_find 17 rfl) ?_
  exact ⟨rfl, rfl⟩
theorem c_M_find (Z : xZ) (d : Nat) (q : Nat → Int) (r : Nat → Option Nat) (A : Nat → Nat → Int) (dy : xH) (hd : 2 ≤ d) (fo : Option Nat) (X : Nat → Int) (E : Int) (g : Nat → Option xE) (P : Nat → Nat → Int) (hgk : gok g dy) (D : Nat) (hD : D ≤ 8) (p : Int) (c : Nat) (ht : Tr X E g P (D + 1) p c) (f : Int) (hf : 0 ≤ f) (hn : 0 ≤ q 1349 ∧ q 1349 ≤ 4000) (hE : E ≤ f + q 1349) (hX : ∀ k : Nat, (k : Int) < q 1349 → A 44 k = X (f.toNat + k)) : xMet Z d Y_M_find [xC 42] (hF q (x_up (x_up r 1350 fo) 1351 (some c)) A ++ dy) (nvq (x_up q 1349 0) r A dy fo (some c) X E g P (s_first (fun t => s_tiw X f (f + q 1349) (P 9 t.toNat)) (s_in (P 8) p))) := by
  refine xMet_of (by decide) (Nat.le_of_ble_eq_true rfl) (fun v h2 hq => nvq_rok hq) ?_
  obtain ⟨h0, fs, hc⟩ := Tr_c ht
  refine x_aload_n (x_d C_M_find 0 rfl) rfl ?_
  refine x_invokevirtual (st := []) (av := []) (x_d C_M_find 1 rfl) k_M_199 m_M_used v_M_used cl_M rfl rfl (Nat.le_of_ble_eq_true rfl) (by omega) rfl (c_M_used Z (d - 1) q (x_up (x_up r 1350 fo) 1351 (some c)) A dy) ?_
  rintro v_ _ ⟨hv_, rfl⟩
  obtain rfl : v_ = some (xI (q 1349)) := hv_
  refine x_istore_n (l1 := [(1, xI (q 1349)), (0, xC 42)]) (x_d C_M_find 2 rfl) (by decide) rfl ?_
  refine x_aload_n (x_d C_M_find 3 rfl) rfl ?_
  refine x_getfield (v := xC c) (x_d C_M_find 4 rfl) f_M_211 rfl rfl ?_
  refine x_ifnonnullC (tgt := 17) (x_d C_M_find 5 rfl) rfl ?_
  refine x_aload_n (x_d C_M_find 8 rfl) rfl ?_
  refine x_aload_n (x_d C_M_find 9 rfl) rfl ?_
  refine x_getfield (v := xC c) (x_d C_M_find 10 rfl) f_M_211 rfl rfl ?_
  refine x_aload_n (x_d C_M_find 11 rfl) rfl ?_
  refine x_getfield (v := xC 44) (x_d C_M_find 12 rfl) f_M_167 rfl rfl ?_
  refine x_iconst (x_d C_M_find 13 rfl) ⟨by omega, by omega⟩ ?_
  refine x_iload_n (x_d C_M_find 14 rfl) rfl ?_
  refine x_invokevirtual (st := [xC 42]) (av := [xC 44, xI 0, xI (q 1349)]) (x_d C_M_find 15 rfl) k_M_159 m_MQ_get1 v_MQ_get1 cl_MQ (ct_get (hgk _ _ hc) _ _ _) rfl (Nat.le_of_ble_eq_true rfl) (by omega) rfl (t_get1 Z (d - 1) (hF (x_up q 1349 0) (x_up (x_up r 1350 fo) 1351 (some c)) A ++ dy) X E g P D p c (gh_of hgk _ _ _) ht (by omega) 44 4000 (A 44) f (q 1349) rfl (by omega) hf hE hX) ?_
  rintro v_ h_ ⟨hh_, x_, hv_, hr_⟩
  rw [hh_]
  clear hh_
  obtain rfl := hv_
  rcases hr_ with ⟨e1, rfl⟩ | ⟨e1, e2, c2, rfl, t2⟩
  · refine x_invokevirtual (st := []) (av := [xN]) (x_d C_M_find 16 rfl) k_M_314 m_M_isAt2 v_M_isAt2 cl_M rfl rfl (Nat.le_of_ble_eq_true rfl) (by omega) rfl (c_M_isAt2N Z (d - 1) (x_up q 1349 0) (x_up (x_up r 1350 fo) 1351 (some c)) A dy) ?_
    rintro v_ _ ⟨hv_, rfl⟩
    obtain rfl : v_ = some (xI (-2)) := hv_
    refine x_ireturn (x_d C_M_find 17 rfl) ?_
    exact Or.inl ⟨by rw [e1]; omega, rfl, rfl⟩
  · obtain ⟨h02, fs2, hf2⟩ := Tr_c t2
    refine x_invokevirtual (st := []) (av := [xC c2]) (x_d C_M_find 16 rfl) k_M_314 m_M_isAt2 v_M_isAt2 cl_M rfl rfl (Nat.le_of_ble_eq_true rfl) (by omega) rfl (c_M_isAt2 Z (d - 1) (x_up q 1349 0) (x_up (x_up r 1350 fo) 1351 (some c)) A dy c2 _ _ (hgk _ _ hf2)) ?_
    rintro v_ h_ ⟨hv_, hh_⟩
    obtain rfl : v_ = some (xI (P 5 (s_first (fun t => s_tiw X f (f + q 1349) (P 9 t.toNat)) (s_in (P 8) p)).toNat)) := hv_
    obtain rfl : h_ = hF (x_up q 1349 0) (x_up (x_up r 1350 fo) 1351 (some c2)) A ++ dy := by rw [hh_, x_up_2]
    refine x_ireturn (x_d C_M_find 17 rfl) ?_
    exact Or.inr ⟨e1, c2, Tr_le t2 (by omega), rfl, rfl⟩
theorem c_M_led (Z : xZ) (d : Nat) (q : Nat → Int) (r : Nat → Option Nat) (A : Nat → Nat → Int) (dy : xH) (hd : 2 ≤ d) (po : Option Nat) (X : Nat → Int) (E : Int) (g : Nat → Option xE) (P : Nat → Nat → Int) (hgk : gok g dy) (cp : Nat) (bt : Option Nat) (tb lt : Int) (tr : Option Nat) (sz : Int) (fis fge fpl : Nat → Int) (fva : Nat → Option Nat) (fch : Nat → Int) (hp : PB dy cp bt tb lt tr sz fis fge fpl fva fch) (hsz : 0 ≤ sz ∧ sz ≤ 300) (rt us gn : Nat → Int) (hus : ∀ k : Nat, (k : Int) < sz → (fis k = 2 ↔ ¬ us k = 0) ∧ gn k = fge k) (D : Nat) (hD : D ≤ 8) (p : Int) (c : Nat) (ht : Tr X E g P (D + 1) p c) : xMet Z d Y_M_led [xC 42, xC c] (hF q (x_up (x_up r 1350 (some cp)) 1351 po) A ++ dy) (fun v h2 => v = some (xO (if s_ldt (P 5) (P 6) (P 7) gn us sz p < 0 then none else fva (s_ldt (P 5) (P 6) (P 7) gn us sz p).toNat)) ∧ h2 = hF q (x_up (x_up r 1350 (some cp)) 1351 po) A ++ dy) := by
  refine xMet_of (by decide) (Nat.le_of_ble_eq_true rfl) (fun v h2 hq => by rw [hq.1]; split <;> (try trivial) <;> (cases fva (s_ldt (P 5) (P 6) (P 7) gn us sz p).toNat <;> trivial)) ?_
  have ht2 := ht
  obtain ⟨h0, x, y, m, bt2, it, nm, hc, hL, hm, h60, hch, L, k1, k2, k3, k4, k5, k6, k7, k8⟩ := Tr_o ht2
  have hLe : s_in (P 8) p = L := by unfold s_in; exact s_ch_K k1
  rw [hLe] at hm h60
  have h8 := hL.2.2.1
  have hu6 := hus (P 6 p.toNat).toNat
  by_cases k8c : P 5 p.toNat = 8
  · obtain ⟨rfl, rfl, h8a, h8b, h8c, h8d⟩ := h8 k8c
    refine x_aload_n (x_d C_M_led 0 rfl) rfl ?_
    refine x_ifnullC (tgt := 58) (x_d C_M_led 1 rfl) rfl ?_
    refine x_aload_n (x_d C_M_led 2 rfl) rfl ?_
    refine x_getfield (v := xI (P 5 p.toNat)) (x_d C_M_led 3 rfl) f_M_261 (ct_get (hgk _ _ hc) _ _ _) rfl ?_
    refine x_bipush (x_d C_M_led 4 rfl) (by omega) ?_
    refine x_icmp_ne (tgt := 58) (x_d C_M_led 5 rfl) rfl (fun q => absurd q (by omega)) (fun _ => ?_)
    refine x_aload_n (x_d C_M_led 6 rfl) rfl ?_
    refine x_aload_n (x_d C_M_led 7 rfl) rfl ?_
    refine x_getfield (v := xI (P 6 p.toNat)) (x_d C_M_led 8 rfl) f_M_95 (ct_get (hgk _ _ hc) _ _ _) rfl ?_
    refine x_invokevirtual (st := []) (av := [xI (P 6 p.toNat)]) (x_d C_M_led 9 rfl) k_M_311 m_M_isUsed v_M_isUsed cl_M rfl rfl (Nat.le_of_ble_eq_true rfl) (by omega) rfl (c_M_isUsed2 Z (d - 1) q r A dy (by omega) (P 6 p.toNat) po cp bt tb lt tr sz fis fge fpl fva fch hp hsz) ?_
    rintro v_ _ ⟨z3, rfl, rfl, hz3⟩
    refine x_if_eq (tgt := 58) (x_d C_M_led 10 rfl) rfl (fun c4 => ?_) (fun c4 => ?_)
    · refine x_null (x_d C_M_led 27 rfl) ?_
      refine x_areturn (x_d C_M_led 28 rfl) ?_
      refine ⟨?_, rfl⟩
      rw [if_pos]
      unfold s_ldt
      rw [if_neg (by omega), if_neg (fun z => by have := hu6 (by omega); have := this.1.mpr z.1.2.2; omega)]
      omega
    · refine x_aload_n (x_d C_M_led 11 rfl) rfl ?_
      refine x_getfield (v := xC cp) (x_d C_M_led 12 rfl) f_M_207 rfl rfl ?_
      refine x_getfield (v := xC (cp + 2)) (x_d C_M_led 13 rfl) f_M_278 (ct_get hp.1 _ _ _) rfl ?_
      refine x_aload_n (x_d C_M_led 14 rfl) rfl ?_
      refine x_getfield (v := xI (P 6 p.toNat)) (x_d C_M_led 15 rfl) f_M_95 (ct_get (hgk _ _ hc) _ _ _) rfl ?_
      refine x_iaload (f := fge) (x_d C_M_led 16 rfl) (ct_get hp.2.2.1 _ _ _) (by omega) (by omega) ?_
      refine x_aload_n (x_d C_M_led 17 rfl) rfl ?_
      refine x_getfield (v := xI (P 7 p.toNat)) (x_d C_M_led 18 rfl) f_M_108 (ct_get (hgk _ _ hc) _ _ _) rfl ?_
      refine x_icmp_ne (tgt := 58) (x_d C_M_led 19 rfl) rfl (fun c5 => ?_) (fun c5 => ?_)
      · refine x_null (x_d C_M_led 27 rfl) ?_
        refine x_areturn (x_d C_M_led 28 rfl) ?_
        refine ⟨?_, rfl⟩
        rw [if_pos]
        unfold s_ldt
        rw [if_neg (by omega), if_neg (fun z => by have := hu6 (by omega); have := this.1.mpr z.1.2.2; omega)]
        omega
      · refine x_aload_n (x_d C_M_led 20 rfl) rfl ?_
        refine x_getfield (v := xC cp) (x_d C_M_led 21 rfl) f_M_207 rfl rfl ?_
        refine x_getfield (v := xC (cp + 4)) (x_d C_M_led 22 rfl) f_M_281 (ct_get hp.1 _ _ _) rfl ?_
        refine x_aload_n (x_d C_M_led 23 rfl) rfl ?_
        refine x_getfield (v := xI (P 6 p.toNat)) (x_d C_M_led 24 rfl) f_M_95 (ct_get (hgk _ _ hc) _ _ _) rfl ?_
        refine x_aaload (x_d C_M_led 25 rfl) (ct_get hp.2.2.2.2.1 _ _ _) (by omega) (by omega) ?_
        refine x_goto (tgt := 59) (x_d C_M_led 26 rfl) rfl ?_
        refine x_areturn (x_d C_M_led 28 rfl) ?_
        have hu7 := hu6 (by omega)
        have hu8 : ¬ us (P 6 p.toNat).toNat = 0 := hu7.1.mp (by omega)
        have hle : s_ldt (P 5) (P 6) (P 7) gn us sz p = P 6 p.toNat := by unfold s_ldt; rw [if_neg (by omega), if_pos ⟨⟨by omega, by omega, hu8⟩, by omega⟩]
        refine ⟨?_, rfl⟩
        rw [hle, if_neg (by omega)]
  · refine x_aload_n (x_d C_M_led 0 rfl) rfl ?_
    refine x_ifnullC (tgt := 58) (x_d C_M_led 1 rfl) rfl ?_
    refine x_aload_n (x_d C_M_led 2 rfl) rfl ?_
    refine x_getfield (v := xI (P 5 p.toNat)) (x_d C_M_led 3 rfl) f_M_261 (ct_get (hgk _ _ hc) _ _ _) rfl ?_
    refine x_bipush (x_d C_M_led 4 rfl) (by omega) ?_
    refine x_icmp_ne (tgt := 58) (x_d C_M_led 5 rfl) rfl (fun _ => ?_) (fun q => absurd q (by omega))
    refine x_null (x_d C_M_led 27 rfl) ?_
    refine x_areturn (x_d C_M_led 28 rfl) ?_
    refine ⟨?_, rfl⟩
    rw [if_pos]
    unfold s_ldt
    rw [if_pos (Or.inr k8c)]
    omega
theorem c_M_ledN (Z : xZ) (d : Nat) (q : Nat → Int) (r : Nat → Option Nat) (A : Nat → Nat → Int) (dy : xH) : xMet Z d Y_M_led [xC 42, xN] (hF q r A ++ dy) (fun v h2 => v = some xN ∧ h2 = hF q r A ++ dy) := by
  refine xMet_of (by decide) (Nat.le_of_ble_eq_true rfl) (fun v h2 hq => by rw [hq.1]; trivial) ?_
  refine x_aload_n (x_d C_M_led 0 rfl) rfl ?_
  refine x_ifnullN (tgt := 58) (x_d C_M_led 1 rfl) rfl ?_
  refine x_null (x_d C_M_led 27 rfl) ?_
  refine x_areturn (x_d C_M_led 28 rfl) ?_
  exact ⟨rfl, rfl⟩
