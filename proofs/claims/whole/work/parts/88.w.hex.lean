/-! the reference: filters -/
/-- what a filter has written so far -/
def aok (mn : Int) (f : Nat → Int) (acc : List Int) : Prop := mn = acc.length ∧ acc.length ≤ 3000 ∧ ∀ k, k < acc.length → f k = acc.getD k 0
theorem aok_nil (f : Nat → Int) : aok 0 f [] := ⟨rfl, by decide, fun k hk => absurd hk (Nat.not_lt_zero _)⟩
theorem aok_one {mn : Int} {f : Nat → Int} {acc : List Int} (h : aok mn f acc) (hl : mn < 3000) (b : Int) : aok (mn + 1) (x_up f mn.toNat b) (acc ++ [b]) := by
  obtain ⟨h1, h2, h3⟩ := h
  refine ⟨by rw [List.length_append]; show mn + 1 = ((acc.length + 1 : Nat) : Int); omega, by rw [List.length_append]; show acc.length + 1 ≤ 3000; omega, fun k hk => ?_⟩
  rw [List.length_append] at hk
  have hk : k < acc.length + 1 := hk
  rw [s_getD_app]
  by_cases e : k = acc.length
  · rw [if_neg (by omega), e, show mn.toNat = acc.length by omega, x_up_s, Nat.sub_self]; rfl
  · rw [if_pos (by omega), x_up_n _ _ (by omega)]; exact h3 k (by omega)
/-- what a filter of the reference answers: S what comes out, if all is well -/
def flq (q : Nat → Int) (r : Nat → Option Nat) (A : Nat → Nat → Int) (dy : xH) (S : Option (List Int)) : Option xV → xH → Prop := fun v h2 => ∃ mn f2, h2 = hF (x_up q 1357 mn) r (x_up A 47 f2) ++ dy ∧ (0 ≤ mn ∧ mn ≤ 3000) ∧ ((v = some (xI 1) ∧ ∃ b2, S = some b2 ∧ aok mn f2 b2) ∨ (v = some (xI 0) ∧ ∀ b2, S = some b2 → 3000 < b2.length))
theorem flq_rok {q : Nat → Int} {r : Nat → Option Nat} {A : Nat → Nat → Int} {dy : xH} {S : Option (List Int)} {v : Option xV} {h2 : xH} (h : flq q r A dy S v h2) : x_rok (some .boolean) v := by
  obtain ⟨_, _, _, _, ⟨e, _⟩ | ⟨e, _⟩⟩ := h <;> rw [e]
  · exact Or.inr rfl
  · exact Or.inl rfl
theorem s_over {S : Option (List Int)} {acc b2 : List Int} {n : Nat} (hn : 3000 < acc.length + n) (h : S.map (fun y => acc ++ y) = some b2) (hS : ∀ y, S = some y → n ≤ y.length) : 3000 < b2.length := by
  cases S with
  | none => cases h
  | some y =>
    have h := Option.some.inj h
    have := hS y rfl
    rw [← h, List.length_append]
    omega
theorem s_nob {S : Option (List Int)} {acc : List Int} (hS : S = none) : ∀ b2, S.map (fun y => acc ++ y) = some b2 → 3000 < b2.length := fun b2 h => by rw [hS] at h; cases h
theorem s_sl_snoc (f : Nat → Int) : ∀ (n a : Nat), s_sl f a (n + 1) = s_sl f a n ++ [f (a + n)]
  | 0, a => by show [f a] = [f (a + 0)]; rw [Nat.add_zero]
  | n + 1, a => by
    show f a :: s_sl f (a + 1) (n + 1) = f a :: s_sl f (a + 1) n ++ [f (a + (n + 1))]
    rw [s_sl_snoc f n (a + 1), show a + 1 + n = a + (n + 1) by omega]
    rfl
theorem hF_b46 {q : Nat → Int} {r : Nat → Option Nat} {A : Nat → Nat → Int} {dy : xH} (h : x_okH (hF q r A ++ dy)) (j : Nat) : -128 ≤ A 46 j ∧ A 46 j ≤ 127 := h _ (List.mem_of_getElem? (i := 46) rfl) j
theorem c_M_one (Z : xZ) (d : Nat) (q : Nat → Int) (r : Nat → Option Nat) (A : Nat → Nat → Int) (dy : xH) (mn : Int) (f : Nat → Int) (acc : List Int) (hmn : aok mn f acc) (b : Int) : xMet Z d Y_M_one [xC 42, xI b] (hF (x_up q 1357 mn) r (x_up A 47 f) ++ dy) (fun v h2 => (3000 ≤ acc.length ∧ v = some (xI 0) ∧ h2 = hF (x_up q 1357 mn) r (x_up A 47 f) ++ dy) ∨ (acc.length < 3000 ∧ v = some (xI 1) ∧ ∃ mn2 f2, h2 = hF (x_up q 1357 mn2) r (x_up A 47 f2) ++ dy ∧ aok mn2 f2 (acc ++ [x_by b]))) := by
  refine xMet_of (by decide) (Nat.le_of_ble_eq_true rfl) (fun v h2 hq => by obtain ⟨_, e, _⟩ | ⟨_, e, _⟩ := hq <;> rw [e]; exact Or.inl rfl; exact Or.inr rfl) ?_
  have hm1 := hmn.1
  have hm2 := hmn.2.1
  refine x_aload_n (x_d C_M_one 0 rfl) rfl ?_
  refine x_getfield (v := xI (mn)) (x_d C_M_one 1 rfl) f_M_358 rfl rfl ?_
  refine x_sipush (x_d C_M_one 2 rfl) (by omega) ?_
  refine x_icmp_ne (tgt := 12) (x_d C_M_one 3 rfl) rfl (fun c1 => ?_) (fun c1 => ?_)
  · refine x_aload_n (x_d C_M_one 6 rfl) rfl ?_
    refine x_getfield (v := xC 47) (x_d C_M_one 7 rfl) f_M_176 rfl rfl ?_
    refine x_aload_n (x_d C_M_one 8 rfl) rfl ?_
    refine x_getfield (v := xI (mn)) (x_d C_M_one 9 rfl) f_M_358 rfl rfl ?_
    refine x_iload_n (x_d C_M_one 10 rfl) rfl ?_
    refine x_i2b (x_d C_M_one 11 rfl) ?_
    refine x_bastore (h1 := hF (x_up q 1357 mn) r (x_up A 47 (x_up f (mn).toNat (x_by b))) ++ dy) (x_d C_M_one 12 rfl) rfl (by omega) (by omega) (x_by_in _) rfl ?_
    refine x_aload_n (x_d C_M_one 13 rfl) rfl ?_
    refine x_dup (x_d C_M_one 14 rfl) rfl ?_
    refine x_getfield (v := xI (mn)) (x_d C_M_one 15 rfl) f_M_358 rfl rfl ?_
    refine x_iconst (x_d C_M_one 16 rfl) ⟨by omega, by omega⟩ ?_
    refine x_iadd (x_d C_M_one 17 rfl) ⟨by omega, by omega⟩ ?_
    refine x_putfield (h1 := hF (x_up q 1357 (mn + 1)) r (x_up A 47 (x_up f (mn).toNat (x_by b))) ++ dy) (x_d C_M_one 18 rfl) p_M_358 rfl rfl rfl trivial rfl ?_
    refine x_iconst (x_d C_M_one 19 rfl) ⟨by omega, by omega⟩ ?_
    refine x_ireturn (x_d C_M_one 20 rfl) ?_
    exact Or.inr ⟨by omega, rfl, _, _, rfl, aok_one hmn (by omega) _⟩
  · refine x_iconst (x_d C_M_one 4 rfl) ⟨by omega, by omega⟩ ?_
    refine x_ireturn (x_d C_M_one 5 rfl) ?_
    exact Or.inl ⟨by omega, rfl, rfl⟩
theorem w_M_hex_40 (Z : xZ) (d : Nat) (q : Nat → Int) (r : Nat → Option Nat) (A : Nat → Nat → Int) (dy : xH) (hd : 2 ≤ d) (hB : ∀ j, -128 ≤ A 46 j ∧ A 46 j ≤ 127) (n e : Int) (he : 0 ≤ e ∧ e ≤ 7000) : ∀ (m : Nat) (t mn : Int) (f : Nat → Int) (acc : List Int), (0 ≤ t ∧ t + 2 * m = e) → aok mn f acc → xW Z d Y_M_hex 40 [(0, xC 42), (1, xI n), (2, xI e), (3, xI t)] [] (hF (x_up q 1357 mn) r (x_up A 47 f) ++ dy) (flq q r A dy ((s_hxs (A 46) m t.toNat).map (fun y => acc ++ y))) := by
  intro m
  induction m with
  | zero =>
    intro t mn f acc ht ha
    have ha1 := ha.1
    have ha2 := ha.2.1
    refine x_iload_n (x_d C_M_hex 27 rfl) rfl ?_
    refine x_iload_n (x_d C_M_hex 28 rfl) rfl ?_
    refine x_icmp_ge (tgt := 110) (x_d C_M_hex 29 rfl) rfl (fun _ => ?_) (fun q => absurd q (by omega))
    refine x_iconst (x_d C_M_hex 66 rfl) ⟨by omega, by omega⟩ ?_
    refine x_ireturn (x_d C_M_hex 67 rfl) ?_
    exact ⟨mn, f, rfl, by omega, Or.inl ⟨rfl, acc, by show some (acc ++ []) = some acc; rw [List.append_nil], ha⟩⟩
  | succ m ih =>
    intro t mn f acc ht ha
    have ha1 := ha.1
    have ha2 := ha.2.1
    have hb0 := hB t.toNat
    have hb1 := hB (t + 1).toNat
    have hx0 := s_hex_in (A 46 t.toNat)
    have hx1 := s_hex_in (A 46 (t + 1).toNat)
    have hst := s_hxs_s (A 46) m t.toNat
    rw [show t.toNat + 1 = (t + 1).toNat by omega] at hst
    refine x_iload_n (x_d C_M_hex 27 rfl) rfl ?_
    refine x_iload_n (x_d C_M_hex 28 rfl) rfl ?_
    refine x_icmp_ge (tgt := 110) (x_d C_M_hex 29 rfl) rfl (fun q => absurd q (by omega)) (fun _ => ?_)
    refine x_aload_n (x_d C_M_hex 30 rfl) rfl ?_
    refine x_getfield (v := xC 46) (x_d C_M_hex 31 rfl) f_M_173 rfl rfl ?_
    refine x_iload_n (x_d C_M_hex 32 rfl) rfl ?_
    refine x_baload (f := A 46) (x_d C_M_hex 33 rfl) rfl (by omega) (by omega) ?_
    refine x_invokestatic (st := []) (av := [xI (A 46 (t).toNat)]) (x_d C_M_hex 34 rfl) k_M_138 m_M_hexOf s_M_hexOf rfl (Nat.le_of_ble_eq_true rfl) (by omega) rfl (c_M_hexOf Z (d - 1) (hF (x_up q 1357 mn) r (x_up A 47 f) ++ dy) (by omega) (A 46 (t).toNat) (by omega)) ?_
    rintro v_ _ ⟨hv_, rfl⟩
    obtain rfl : v_ = some (xI (s_hex (A 46 (t).toNat))) := hv_
    refine x_if_lt (tgt := 102) (x_d C_M_hex 35 rfl) rfl (fun c2 => ?_) (fun c2 => ?_)
    · refine x_iconst (x_d C_M_hex 62 rfl) ⟨by omega, by omega⟩ ?_
      refine x_ireturn (x_d C_M_hex 63 rfl) ?_
      exact ⟨mn, f, rfl, by omega, Or.inr ⟨rfl, s_nob (by rw [hst, if_pos (by omega)])⟩⟩
    · refine x_aload_n (x_d C_M_hex 36 rfl) rfl ?_
      refine x_getfield (v := xC 46) (x_d C_M_hex 37 rfl) f_M_173 rfl rfl ?_
      refine x_iload_n (x_d C_M_hex 38 rfl) rfl ?_
      refine x_iconst (x_d C_M_hex 39 rfl) ⟨by omega, by omega⟩ ?_
      refine x_iadd (x_d C_M_hex 40 rfl) ⟨by omega, by omega⟩ ?_
      refine x_baload (f := A 46) (x_d C_M_hex 41 rfl) rfl (by omega) (by omega) ?_
      refine x_invokestatic (st := []) (av := [xI (A 46 (t + 1).toNat)]) (x_d C_M_hex 42 rfl) k_M_138 m_M_hexOf s_M_hexOf rfl (Nat.le_of_ble_eq_true rfl) (by omega) rfl (c_M_hexOf Z (d - 1) (hF (x_up q 1357 mn) r (x_up A 47 f) ++ dy) (by omega) (A 46 (t + 1).toNat) (by omega)) ?_
      rintro v_ _ ⟨hv_, rfl⟩
      obtain rfl : v_ = some (xI (s_hex (A 46 (t + 1).toNat))) := hv_
      refine x_if_lt (tgt := 102) (x_d C_M_hex 43 rfl) rfl (fun c3 => ?_) (fun c3 => ?_)
      · refine x_iconst (x_d C_M_hex 62 rfl) ⟨by omega, by omega⟩ ?_
        refine x_ireturn (x_d C_M_hex 63 rfl) ?_
        exact ⟨mn, f, rfl, by omega, Or.inr ⟨rfl, s_nob (by rw [hst, if_pos (by omega)])⟩⟩
      · refine x_aload_n (x_d C_M_hex 44 rfl) rfl ?_
        refine x_bipush (x_d C_M_hex 45 rfl) (by omega) ?_
        refine x_aload_n (x_d C_M_hex 46 rfl) rfl ?_
        refine x_getfield (v := xC 46) (x_d C_M_hex 47 rfl) f_M_173 rfl rfl ?_
        refine x_iload_n (x_d C_M_hex 48 rfl) rfl ?_
        refine x_baload (f := A 46) (x_d C_M_hex 49 rfl) rfl (by omega) (by omega) ?_
        refine x_invokestatic (st := [xI (16), xC 42]) (av := [xI (A 46 (t).toNat)]) (x_d C_M_hex 50 rfl) k_M_138 m_M_hexOf s_M_hexOf rfl (Nat.le_of_ble_eq_true rfl) (by omega) rfl (c_M_hexOf Z (d - 1) (hF (x_up q 1357 mn) r (x_up A 47 f) ++ dy) (by omega) (A 46 (t).toNat) (by omega)) ?_
        rintro v_ _ ⟨hv_, rfl⟩
        obtain rfl : v_ = some (xI (s_hex (A 46 (t).toNat))) := hv_
        refine x_imul (x_d C_M_hex 51 rfl) ⟨by omega, by omega⟩ ?_
        refine x_aload_n (x_d C_M_hex 52 rfl) rfl ?_
        refine x_getfield (v := xC 46) (x_d C_M_hex 53 rfl) f_M_173 rfl rfl ?_
        refine x_iload_n (x_d C_M_hex 54 rfl) rfl ?_
        refine x_iconst (x_d C_M_hex 55 rfl) ⟨by omega, by omega⟩ ?_
        refine x_iadd (x_d C_M_hex 56 rfl) ⟨by omega, by omega⟩ ?_
        refine x_baload (f := A 46) (x_d C_M_hex 57 rfl) rfl (by omega) (by omega) ?_
        refine x_invokestatic (st := [xI (16 * (s_hex (A 46 (t).toNat))), xC 42]) (av := [xI (A 46 (t + 1).toNat)]) (x_d C_M_hex 58 rfl) k_M_138 m_M_hexOf s_M_hexOf rfl (Nat.le_of_ble_eq_true rfl) (by omega) rfl (c_M_hexOf Z (d - 1) (hF (x_up q 1357 mn) r (x_up A 47 f) ++ dy) (by omega) (A 46 (t + 1).toNat) (by omega)) ?_
        rintro v_ _ ⟨hv_, rfl⟩
        obtain rfl : v_ = some (xI (s_hex (A 46 (t + 1).toNat))) := hv_
        refine x_iadd (x_d C_M_hex 59 rfl) ⟨by omega, by omega⟩ ?_
        refine x_invokevirtual (st := []) (av := [xI ((16 * (s_hex (A 46 (t).toNat))) + (s_hex (A 46 (t + 1).toNat)))]) (x_d C_M_hex 60 rfl) k_M_359 m_M_one v_M_one cl_M rfl rfl (Nat.le_of_ble_eq_true rfl) (by omega) rfl (c_M_one Z (d - 1) q r A dy mn f acc ha ((16 * (s_hex (A 46 (t).toNat))) + (s_hex (A 46 (t + 1).toNat)))) ?_
        rintro v_ h_ hr4
        obtain ⟨z4, mn4, f4, rfl, rfl, hq4⟩ : ∃ (z mn9 : Int) (f9 : Nat → Int), v_ = some (xI z) ∧ h_ = hF (x_up q 1357 mn9) r (x_up A 47 f9) ++ dy ∧ ((z = 0 ∧ 3000 ≤ (acc).length ∧ (0 ≤ mn9 ∧ mn9 ≤ 3000)) ∨ (z = 1 ∧ aok mn9 f9 (acc ++ [x_by ((16 * (s_hex (A 46 (t).toNat))) + (s_hex (A 46 (t + 1).toNat)))]))) := by
          rcases hr4 with ⟨e1, e2, e3⟩ | ⟨e1, e2, mn2, f2, e3, e4⟩
          · exact ⟨0, _, _, e2, e3, Or.inl ⟨rfl, e1, by have := (ha).1; have := (ha).2.1; omega⟩⟩
          · exact ⟨1, mn2, f2, e2, e3, Or.inr ⟨rfl, e4⟩⟩
        refine x_if_ne (tgt := 104) (x_d C_M_hex 61 rfl) rfl (fun c5 => ?_) (fun c5 => ?_)
        · refine x_iinc (l1 := [(3, xI (t + 2)), (0, xC 42), (1, xI (n)), (2, xI (e))]) (x_d C_M_hex 64 rfl) rfl ⟨by omega, by omega⟩ (by decide) rfl ?_
          refine x_goto (tgt := 40) (x_d C_M_hex 65 rfl) rfl ?_
          refine x_locs [1, 2, 3, 0] rfl ?_
          have h9 : aok mn4 f4 (acc ++ [x_by (16 * s_hex (A 46 t.toNat) + s_hex (A 46 (t + 1).toNat))]) := by rcases hq4 with z | z; omega; exact z.2
          have := ih (t + 2) _ _ _ (by omega) h9
          rw [show (t + 2).toNat = t.toNat + 2 by omega] at this
          rw [hst, if_neg (by omega), s_mapc]
          exact this
        · refine x_iconst (x_d C_M_hex 62 rfl) ⟨by omega, by omega⟩ ?_
          refine x_ireturn (x_d C_M_hex 63 rfl) ?_
          have h9 : 3000 ≤ acc.length := by rcases hq4 with z | z; exact z.2.1; omega
          have h8 : 0 ≤ mn4 ∧ mn4 ≤ 3000 := by rcases hq4 with z | z; exact z.2.2; omega
          refine ⟨_, _, rfl, h8, Or.inr ⟨rfl, fun b2 hb2 => s_over (n := 1) (by omega) hb2 (fun y hy => ?_)⟩⟩
          rw [hst, if_neg (by omega)] at hy
          cases hs : s_hxs (A 46) m (t.toNat + 2) with
          | none => rw [hs] at hy; cases hy
          | some y2 => rw [hs] at hy; rw [← Option.some.inj hy, List.length_cons]; omega
theorem c_M_hex (Z : xZ) (d : Nat) (q : Nat → Int) (r : Nat → Option Nat) (A : Nat → Nat → Int) (dy : xH) (hd : 2 ≤ d) (hB : ∀ j, -128 ≤ A 46 j ∧ A 46 j ≤ 127) (n : Int) (hn : 0 ≤ n ∧ n ≤ 7000) : xMet Z d Y_M_hex [xC 42, xI n] (hF q r A ++ dy) (flq q r A dy (s_fhex (A 46) n.toNat)) := by
  refine xMet_of (by decide) (Nat.le_of_ble_eq_true rfl) (fun v h2 hq => flq_rok hq) ?_
  have hxe : s_hxe (A 46) n.toNat = if 0 < n.toNat ∧ A 46 (n.toNat - 1) = 62 then n.toNat - 1 else n.toNat := rfl
  rw [show n.toNat - 1 = (n - 1).toNat by omega] at hxe
  have hfx : s_fhex (A 46) n.toNat = if ¬ s_hxe (A 46) n.toNat % 2 = 0 then none else s_hxs (A 46) (s_hxe (A 46) n.toNat / 2) 0 := rfl
  refine x_aload_n (x_d C_M_hex 0 rfl) rfl ?_
  refine x_iconst (x_d C_M_hex 1 rfl) ⟨by omega, by omega⟩ ?_
  refine x_putfield (h1 := hF (x_up q 1357 0) r A ++ dy) (x_d C_M_hex 2 rfl) p_M_358 rfl rfl rfl trivial rfl ?_
  refine x_iload_n (x_d C_M_hex 3 rfl) rfl ?_
  refine x_if_le (tgt := 28) (x_d C_M_hex 4 rfl) rfl (fun c1 => ?_) (fun c1 => ?_)
  · refine x_iload_n (x_d C_M_hex 17 rfl) rfl ?_
    refine x_istore_n (l1 := [(2, xI (n)), (0, xC 42), (1, xI (n))]) (x_d C_M_hex 18 rfl) (by decide) rfl ?_
    refine x_iload_n (x_d C_M_hex 19 rfl) rfl ?_
    refine x_iconst (x_d C_M_hex 20 rfl) ⟨by omega, by omega⟩ ?_
    refine x_irem (x_d C_M_hex 21 rfl) (by omega) (by omega) ?_
    refine x_if_eq (tgt := 38) (x_d C_M_hex 22 rfl) rfl (fun c2 => ?_) (fun c2 => ?_)
    · refine x_iconst (x_d C_M_hex 25 rfl) ⟨by omega, by omega⟩ ?_
      refine x_istore_n (l1 := [(3, xI (0)), (2, xI (n)), (0, xC 42), (1, xI (n))]) (x_d C_M_hex 26 rfl) (by decide) rfl ?_
      refine x_locs [2, 3, 1, 0] rfl ?_
      have hee : s_hxe (A 46) n.toNat = (n).toNat := by rw [hxe]; split <;> omega
      rw [hfx, if_neg (by rw [hee]; omega), hee]
      refine x_heq (h1 := hF (x_up q 1357 0) r (x_up A 47 (A 47)) ++ dy) (by rw [x_up_same A 47]) ?_
      have := w_M_hex_40 Z d q r A dy (by omega) hB n (n) (by omega) ((n).toNat / 2) 0 0 (A 47) [] (by omega) (aok_nil _)
      rw [s_mapnil] at this
      exact this
    · refine x_iconst (x_d C_M_hex 23 rfl) ⟨by omega, by omega⟩ ?_
      refine x_ireturn (x_d C_M_hex 24 rfl) ?_
      refine ⟨0, A 47, by rw [x_up_same A 47], by omega, Or.inr ⟨rfl, fun b2 hb2 => ?_⟩⟩
      have hee : s_hxe (A 46) n.toNat = (n).toNat := by rw [hxe]; split <;> omega
      rw [hfx, if_pos (by rw [hee]; omega)] at hb2
      cases hb2
  · refine x_aload_n (x_d C_M_hex 5 rfl) rfl ?_
    refine x_getfield (v := xC 46) (x_d C_M_hex 6 rfl) f_M_173 rfl rfl ?_
    refine x_iload_n (x_d C_M_hex 7 rfl) rfl ?_
    refine x_iconst (x_d C_M_hex 8 rfl) ⟨by omega, by omega⟩ ?_
    refine x_isub (x_d C_M_hex 9 rfl) ⟨by omega, by omega⟩ ?_
    refine x_baload (f := A 46) (x_d C_M_hex 10 rfl) rfl (by omega) (by omega) ?_
    refine x_bipush (x_d C_M_hex 11 rfl) (by omega) ?_
    refine x_icmp_ne (tgt := 28) (x_d C_M_hex 12 rfl) rfl (fun c3 => ?_) (fun c3 => ?_)
    · refine x_iload_n (x_d C_M_hex 17 rfl) rfl ?_
      refine x_istore_n (l1 := [(2, xI (n)), (0, xC 42), (1, xI (n))]) (x_d C_M_hex 18 rfl) (by decide) rfl ?_
      refine x_iload_n (x_d C_M_hex 19 rfl) rfl ?_
      refine x_iconst (x_d C_M_hex 20 rfl) ⟨by omega, by omega⟩ ?_
      refine x_irem (x_d C_M_hex 21 rfl) (by omega) (by omega) ?_
      refine x_if_eq (tgt := 38) (x_d C_M_hex 22 rfl) rfl (fun c4 => ?_) (fun c4 => ?_)
      · refine x_iconst (x_d C_M_hex 25 rfl) ⟨by omega, by omega⟩ ?_
        refine x_istore_n (l1 := [(3, xI (0)), (2, xI (n)), (0, xC 42), (1, xI (n))]) (x_d C_M_hex 26 rfl) (by decide) rfl ?_
        refine x_locs [2, 3, 1, 0] rfl ?_
        have hee : s_hxe (A 46) n.toNat = (n).toNat := by rw [hxe]; split <;> omega
        rw [hfx, if_neg (by rw [hee]; omega), hee]
        refine x_heq (h1 := hF (x_up q 1357 0) r (x_up A 47 (A 47)) ++ dy) (by rw [x_up_same A 47]) ?_
        have := w_M_hex_40 Z d q r A dy (by omega) hB n (n) (by omega) ((n).toNat / 2) 0 0 (A 47) [] (by omega) (aok_nil _)
        rw [s_mapnil] at this
        exact this
      · refine x_iconst (x_d C_M_hex 23 rfl) ⟨by omega, by omega⟩ ?_
        refine x_ireturn (x_d C_M_hex 24 rfl) ?_
        refine ⟨0, A 47, by rw [x_up_same A 47], by omega, Or.inr ⟨rfl, fun b2 hb2 => ?_⟩⟩
        have hee : s_hxe (A 46) n.toNat = (n).toNat := by rw [hxe]; split <;> omega
        rw [hfx, if_pos (by rw [hee]; omega)] at hb2
        cases hb2
    · refine x_iload_n (x_d C_M_hex 13 rfl) rfl ?_
      refine x_iconst (x_d C_M_hex 14 rfl) ⟨by omega, by omega⟩ ?_
      refine x_isub (x_d C_M_hex 15 rfl) ⟨by omega, by omega⟩ ?_
      refine x_goto (tgt := 29) (x_d C_M_hex 16 rfl) rfl ?_
      refine x_istore_n (l1 := [(2, xI (n - 1)), (0, xC 42), (1, xI (n))]) (x_d C_M_hex 18 rfl) (by decide) rfl ?_
      refine x_iload_n (x_d C_M_hex 19 rfl) rfl ?_
      refine x_iconst (x_d C_M_hex 20 rfl) ⟨by omega, by omega⟩ ?_
      refine x_irem (x_d C_M_hex 21 rfl) (by omega) (by omega) ?_
      refine x_if_eq (tgt := 38) (x_d C_M_hex 22 rfl) rfl (fun c5 => ?_) (fun c5 => ?_)
      · refine x_iconst (x_d C_M_hex 25 rfl) ⟨by omega, by omega⟩ ?_
        refine x_istore_n (l1 := [(3, xI (0)), (2, xI (n - 1)), (0, xC 42), (1, xI (n))]) (x_d C_M_hex 26 rfl) (by decide) rfl ?_
        refine x_locs [2, 3, 1, 0] rfl ?_
        have hee : s_hxe (A 46) n.toNat = (n - 1).toNat := by rw [hxe]; split <;> omega
        rw [hfx, if_neg (by rw [hee]; omega), hee]
        refine x_heq (h1 := hF (x_up q 1357 0) r (x_up A 47 (A 47)) ++ dy) (by rw [x_up_same A 47]) ?_
        have := w_M_hex_40 Z d q r A dy (by omega) hB n (n - 1) (by omega) ((n - 1).toNat / 2) 0 0 (A 47) [] (by omega) (aok_nil _)
        rw [s_mapnil] at this
        exact this
      · refine x_iconst (x_d C_M_hex 23 rfl) ⟨by omega, by omega⟩ ?_
        refine x_ireturn (x_d C_M_hex 24 rfl) ?_
        refine ⟨0, A 47, by rw [x_up_same A 47], by omega, Or.inr ⟨rfl, fun b2 hb2 => ?_⟩⟩
        have hee : s_hxe (A 46) n.toNat = (n - 1).toNat := by rw [hxe]; split <;> omega
        rw [hfx, if_pos (by rw [hee]; omega)] at hb2
        cases hb2
