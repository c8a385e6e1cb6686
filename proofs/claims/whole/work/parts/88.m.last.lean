/-! the reference: the last place -/
theorem w_M_read_42 (Z : xZ) (d : Nat) (q : Nat → Int) (r : Nat → Option Nat) (A : Nat → Nat → Int) (hd : 44 ≤ d) (X : Nat → Int) (f j ol : Int) (tz : Nat → Int) (dyn : xH) (cp : Nat) (hf : 0 ≤ f) (hn : 0 ≤ q 1345 ∧ q 1345 ≤ 4000) (hX : ∀ k : Nat, (k : Int) < q 1345 → A 44 k = X (f.toNat + k)) (hB : ∀ k, -128 ≤ X k ∧ X k ≤ 127) (hj : 0 ≤ j ∧ j ≤ 4000) (LK : Int) (h37 : s_txt X (f + q 1345) f [115, 116, 97, 114, 116, 120, 114, 101, 102] < 0) (Q : Option xV → xH → Prop) (kk : ∀ t : Int, ((t < 0 ∧ LK ≤ f) ∨ (0 < t ∧ t + 9 ≤ q 1345 ∧ LK = f + t ∧ 0 ≤ s_txt X (f + q 1345) LK [115, 116, 97, 114, 116, 120, 114, 101, 102])) → xW Z d Y_M_read 62 [(0, xC 42), (1, xC cp), (2, xI t)] [] (hF (x_up (x_up q 1354 ol) 1346 j) (x_up r 1344 (some 44)) (x_up A 43 tz) ++ dyn) Q) : ∀ (m : Nat) (t : Int), t + 1 = m → t + 9 ≤ q 1345 → s_lk X (f + q 1345) f t.toNat (f + t) = LK → xW Z d Y_M_read 42 [(0, xC 42), (1, xC cp), (2, xI t)] [] (hF (x_up (x_up q 1354 ol) 1346 j) (x_up r 1344 (some 44)) (x_up A 43 tz) ++ dyn) Q := by
  intro m
  induction m with
  | zero =>
    intro t hm ht hl
    refine x_iload_n (x_d C_M_read 22 rfl) rfl ?_
    refine x_if_lt (tgt := 62) (x_d C_M_read 23 rfl) rfl (fun _ => ?_) (fun q => absurd q (by omega))
    refine x_locs [0, 1, 2] rfl ?_
    exact kk t (Or.inl ⟨by omega, by rw [← hl, show t.toNat = 0 by omega]; show f + t ≤ f; omega⟩)
  | succ m ih =>
    intro t hm ht hl
    have htx := s_txt_in X (f + q 1345) (f + t) [115, 116, 97, 114, 116, 120, 114, 101, 102]
    have hst : 0 < t → s_lk X (f + q 1345) f t.toNat (f + t) = if f < f + t ∧ s_txt X (f + q 1345) (f + t) [115, 116, 97, 114, 116, 120, 114, 101, 102] < 0 then s_lk X (f + q 1345) f (t - 1).toNat (f + t - 1) else f + t := fun h => by
      obtain ⟨p, hp⟩ : ∃ p, t.toNat = p + 1 := ⟨t.toNat - 1, by omega⟩
      rw [hp, show (t - 1).toNat = p by omega]
      rfl
    rcases Int.lt_or_le 0 t with h0 | h0
    · refine x_iload_n (x_d C_M_read 22 rfl) rfl ?_
      refine x_if_lt (tgt := 62) (x_d C_M_read 23 rfl) rfl (fun q => absurd q (by omega)) (fun _ => ?_)
      refine x_aload_n (x_d C_M_read 24 rfl) rfl ?_
      refine x_iload_n (x_d C_M_read 25 rfl) rfl ?_
      refine x_ldcS (i := 55) (x_d C_M_read 26 rfl) rfl ?_
      refine x_invokevirtual (st := []) (av := [xI (t), xS (111)]) (x_d C_M_read 27 rfl) k_M_34 m_M_isAt1 v_M_isAt1 cl_M rfl rfl (Nat.le_of_ble_eq_true rfl) (by omega) rfl (c_M_isAt1 Z (d - 1) (x_up q 1354 ol) r (x_up A 43 tz) dyn (by omega) X f j t (si := 55) rfl hf hn hX (by omega)) ?_
      rintro v_ _ ⟨hv_, rfl⟩
      obtain ⟨z_, rfl, hz_⟩ : ∃ z : Int, v_ = some (xI z) ∧ ((z = 1 ∧ 0 ≤ t ∧ 0 ≤ s_txt X (f + q 1345) (f + t) [115, 116, 97, 114, 116, 120, 114, 101, 102]) ∨ (z = 0 ∧ ¬ (0 ≤ t ∧ 0 ≤ s_txt X (f + q 1345) (f + t) [115, 116, 97, 114, 116, 120, 114, 101, 102]))) := ⟨_, hv_, by by_cases c_ : (0 ≤ t ∧ 0 ≤ s_txt X (f + q 1345) (f + t) [115, 116, 97, 114, 116, 120, 114, 101, 102]); exact Or.inl ⟨x_bo_t c_, c_⟩; exact Or.inr ⟨x_bo_f c_, c_⟩⟩
      refine x_if_ne (tgt := 62) (x_d C_M_read 28 rfl) rfl (fun c2 => ?_) (fun c2 => ?_)
      · refine x_locs [0, 1, 2] rfl ?_
        rw [hst h0, if_neg (by omega)] at hl
        exact kk t (Or.inr ⟨h0, ht, hl.symm, by rw [← hl]; omega⟩)
      · refine x_iinc (l1 := [(2, xI (t + (-1))), (0, xC 42), (1, xC cp)]) (x_d C_M_read 29 rfl) rfl ⟨by omega, by omega⟩ (by decide) rfl ?_
        refine x_goto (tgt := 42) (x_d C_M_read 30 rfl) rfl ?_
        refine x_locs [1, 2, 0] rfl ?_
        rw [hst h0, if_pos ⟨by omega, by omega⟩] at hl
        rw [show f + t - 1 = f + (t - 1) by omega] at hl
        exact ih (t + (-1)) (by omega) (by omega) hl
    · refine x_iload_n (x_d C_M_read 22 rfl) rfl ?_
      refine x_if_lt (tgt := 62) (x_d C_M_read 23 rfl) rfl (fun q => absurd q (by omega)) (fun _ => ?_)
      refine x_aload_n (x_d C_M_read 24 rfl) rfl ?_
      refine x_iload_n (x_d C_M_read 25 rfl) rfl ?_
      refine x_ldcS (i := 55) (x_d C_M_read 26 rfl) rfl ?_
      refine x_invokevirtual (st := []) (av := [xI (t), xS (111)]) (x_d C_M_read 27 rfl) k_M_34 m_M_isAt1 v_M_isAt1 cl_M rfl rfl (Nat.le_of_ble_eq_true rfl) (by omega) rfl (c_M_isAt1 Z (d - 1) (x_up q 1354 ol) r (x_up A 43 tz) dyn (by omega) X f j t (si := 55) rfl hf hn hX (by omega)) ?_
      rintro v_ _ ⟨hv_, rfl⟩
      obtain ⟨z_, rfl, hz_⟩ : ∃ z : Int, v_ = some (xI z) ∧ ((z = 1 ∧ 0 ≤ t ∧ 0 ≤ s_txt X (f + q 1345) (f + t) [115, 116, 97, 114, 116, 120, 114, 101, 102]) ∨ (z = 0 ∧ ¬ (0 ≤ t ∧ 0 ≤ s_txt X (f + q 1345) (f + t) [115, 116, 97, 114, 116, 120, 114, 101, 102]))) := ⟨_, hv_, by by_cases c_ : (0 ≤ t ∧ 0 ≤ s_txt X (f + q 1345) (f + t) [115, 116, 97, 114, 116, 120, 114, 101, 102]); exact Or.inl ⟨x_bo_t c_, c_⟩; exact Or.inr ⟨x_bo_f c_, c_⟩⟩
      refine x_if_ne (tgt := 62) (x_d C_M_read 28 rfl) rfl (fun c2 => ?_) (fun c2 => ?_)
      · exfalso
        rw [show f + t = f by omega] at htx hz_
        omega
      · refine x_iinc (l1 := [(2, xI (t + (-1))), (0, xC 42), (1, xC cp)]) (x_d C_M_read 29 rfl) rfl ⟨by omega, by omega⟩ (by decide) rfl ?_
        refine x_goto (tgt := 42) (x_d C_M_read 30 rfl) rfl ?_
        refine x_locs [1, 2, 0] rfl ?_
        refine x_iload_n (x_d C_M_read 22 rfl) rfl ?_
        refine x_if_lt (tgt := 62) (x_d C_M_read 23 rfl) rfl (fun _ => ?_) (fun q => absurd q (by omega))
        refine x_locs [0, 1, 2] rfl ?_
        exact kk (t + (-1)) (Or.inl ⟨by omega, by rw [← hl, show t.toNat = 0 by omega]; show f + t ≤ f; omega⟩)
theorem w_M_read_62 (Z : xZ) (d : Nat) (q : Nat → Int) (r : Nat → Option Nat) (A : Nat → Nat → Int) (hd : 44 ≤ d) (X : Nat → Int) (f j ol : Int) (tz : Nat → Int) (dyn : xH) (cp : Nat) (hf : 0 ≤ f) (hn : 0 ≤ q 1345 ∧ q 1345 ≤ 4000) (hX : ∀ k : Nat, (k : Int) < q 1345 → A 44 k = X (f.toNat + k)) (hB : ∀ k, -128 ≤ X k ∧ X k ≤ 127) (hj : 0 ≤ j ∧ j ≤ 4000) (LK t : Int) (hlk : (t < 0 ∧ LK ≤ f) ∨ (0 < t ∧ t + 9 ≤ q 1345 ∧ LK = f + t ∧ 0 ≤ s_txt X (f + q 1345) LK [115, 116, 97, 114, 116, 120, 114, 101, 102])) (Q : Option xV → xH → Prop) (k2 : s_last1 X (f + q 1345) f LK < 0 → ∀ j2, (0 ≤ j2 ∧ j2 ≤ 4000) → Q (some (xI 2)) (hF (x_up (x_up q 1354 ol) 1346 j2) (x_up r 1344 (some 44)) (x_up A 43 tz) ++ dyn)) (kk : 0 ≤ s_last1 X (f + q 1345) f LK → s_last1 X (f + q 1345) f LK ≤ 999999999 → ∀ j2, (0 ≤ j2 ∧ j2 ≤ q 1345) → xW Z d Y_M_read 174 [(0, xC 42), (1, xC cp), (2, xI t), (3, xI (s_last1 X (f + q 1345) f LK))] [] (hF (x_up (x_up q 1354 ol) 1346 j2) (x_up r 1344 (some 44)) (x_up A 43 tz) ++ dyn) Q) : xW Z d Y_M_read 62 [(0, xC 42), (1, xC cp), (2, xI t)] [] (hF (x_up (x_up q 1354 ol) 1346 j) (x_up r 1344 (some 44)) (x_up A 43 tz) ++ dyn) Q := by
  have hXi : ∀ u : Int, 0 ≤ u → u < q 1345 → A 44 u.toNat = X (f + u).toNat := fun u h1 h2 => by rw [hX u.toNat (by omega)]; congr 1; omega
  obtain ⟨sx, hsx⟩ : ∃ z, z = s_txt X (f + q 1345) LK [115, 116, 97, 114, 116, 120, 114, 101, 102] := ⟨_, rfl⟩
  obtain ⟨ln, hln⟩ : ∃ z, z = s_abyte X (f + q 1345) sx 10 := ⟨_, rfl⟩
  obtain ⟨nu, hnu⟩ : ∃ z, z = s_num X (f + q 1345) ln := ⟨_, rfl⟩
  obtain ⟨wd, hwd⟩ : ∃ z, z = s_wd X (f + q 1345) ln := ⟨_, rfl⟩
  obtain ⟨ab, hab⟩ : ∃ z, z = s_abyte X (f + q 1345) wd 10 := ⟨_, rfl⟩
  obtain ⟨ef, hef⟩ : ∃ z, z = s_txt X (f + q 1345) ab [37, 37, 69, 79, 70] := ⟨_, rfl⟩
  obtain ⟨fi, hfi⟩ : ∃ z, z = s_abyte X (f + q 1345) ef 10 := ⟨_, rfl⟩
  obtain ⟨w1, hw1⟩ : ∃ z, z = s_wd X (f + q 1345) (LK - 1) := ⟨_, rfl⟩
  obtain ⟨la, hla⟩ : ∃ z, z = s_last1 X (f + q 1345) f LK := ⟨_, rfl⟩
  have hv : la = if LK ≤ f ∨ 0 ≤ w1 then -1 else if fi = (f + q 1345) then nu else -1 := by rw [hla]; unfold s_last1 s_lnum; rw [← hw1, ← hsx, ← hln, ← hwd, ← hab, ← hef, ← hfi, ← hnu]
  rw [← hla] at k2 kk
  have i1 := s_txt_in X (f + q 1345) LK [115, 116, 97, 114, 116, 120, 114, 101, 102]
  have i2 := s_abyte_in X (f + q 1345) sx 10
  have i3 := s_num_in X (f + q 1345) ln
  have i4 := s_wd_in X (f + q 1345) ln
  have i5 := s_abyte_in X (f + q 1345) wd 10
  have i6 := s_txt_in X (f + q 1345) ab [37, 37, 69, 79, 70]
  have i7 := s_abyte_in X (f + q 1345) ef 10
  have b1 := s_byte_in X (f + q 1345) sx
  have b2 := s_byte_in X (f + q 1345) wd
  have b3 := s_byte_in X (f + q 1345) ef
  rw [← hsx] at i1
  rw [← hln] at i2
  rw [← hnu, ← hwd] at i3
  rw [← hwd] at i4
  rw [← hab] at i5
  rw [← hef] at i6
  rw [← hfi] at i7
  rw [← hsx] at hlk
  simp only [List.length_cons, List.length_nil] at i1 i6
  refine x_iload_n (x_d C_M_read 31 rfl) rfl ?_
  refine x_if_lt (tgt := 84) (x_d C_M_read 32 rfl) rfl (fun c1 => ?_) (fun c1 => ?_)
  · refine x_iconst (x_d C_M_read 43 rfl) ⟨by omega, by omega⟩ ?_
    refine x_ireturn (x_d C_M_read 44 rfl) ?_
    exact k2 (by rw [hv]; (repeat' split) <;> omega) _ (by omega)
  · obtain ⟨lk1, lk2, lk3, lk4⟩ : 0 < t ∧ t + 9 ≤ q 1345 ∧ LK = f + t ∧ 0 ≤ sx := by
      rcases hlk with h | h
      · omega
      · exact h
    have i1 : sx = LK + 9 ∧ LK + 9 ≤ (f + q 1345) := by omega
    clear hlk
    refine x_iload_n (x_d C_M_read 33 rfl) rfl ?_
    refine x_if_le (tgt := 86) (x_d C_M_read 34 rfl) rfl (fun q => absurd q (by omega)) (fun _ => ?_)
    refine x_aload_n (x_d C_M_read 35 rfl) rfl ?_
    refine x_getfield (v := xC 44) (x_d C_M_read 36 rfl) f_M_14 rfl rfl ?_
    refine x_iload_n (x_d C_M_read 37 rfl) rfl ?_
    refine x_iconst (x_d C_M_read 38 rfl) ⟨by omega, by omega⟩ ?_
    refine x_isub (x_d C_M_read 39 rfl) ⟨by omega, by omega⟩ ?_
    refine x_baload (f := A 44) (x_d C_M_read 40 rfl) rfl (by omega) (by omega) ?_
    refine x_invokestatic (st := []) (av := [xI (A 44 (t - 1).toNat)]) (x_d C_M_read 41 rfl) k_M_21 m_M_isRegular s_M_isRegular rfl (Nat.le_of_ble_eq_true rfl) (by omega) rfl (c_M_isRegular Z (d - 1) (hF (x_up (x_up q 1354 ol) 1346 j) (x_up r 1344 (some 44)) (x_up A 43 tz) ++ dyn) (by omega) (A 44 (t - 1).toNat)) ?_
    rintro v_ _ ⟨hv_, rfl⟩
    obtain rfl : v_ = some (xI (x_bo (s_reg (A 44 (t - 1).toNat)))) := hv_
    have hrg : (x_bo (s_reg (A 44 (t - 1).toNat)) = 1 ∧ 0 ≤ w1) ∨ (x_bo (s_reg (A 44 (t - 1).toNat)) = 0 ∧ ¬ 0 ≤ w1) := by
      have hx1 := hXi (t - 1) (by omega) (by omega)
      rw [show f + (t - 1) = LK - 1 by omega] at hx1
      cases hr : s_reg (A 44 (t - 1).toNat) with
      | true =>
        refine Or.inl ⟨rfl, ?_⟩
        rw [hx1] at hr
        have := s_sc_step (p := s_reg) (b := X) (n := (f + q 1345)) (t := LK - 1) (by omega) (by omega) hr
        have h2 := s_sc_ge s_reg X (f + q 1345) (LK - 1 + 1)
        rw [hw1]
        unfold s_wd
        rw [if_pos (by omega)]
        omega
      | false =>
        refine Or.inr ⟨rfl, ?_⟩
        rw [hx1] at hr
        have := s_sc_stop (p := s_reg) (b := X) (n := (f + q 1345)) (t := LK - 1) (Or.inr (Or.inr hr))
        rw [hw1]
        unfold s_wd
        rw [if_neg (by omega)]
        omega
    refine x_if_eq (tgt := 86) (x_d C_M_read 42 rfl) rfl (fun c3 => ?_) (fun c3 => ?_)
    · have hw0 : ¬ 0 ≤ w1 := by omega
      clear hrg
      rw [if_neg (by omega)] at hv
      refine x_aload_n (x_d C_M_read 45 rfl) rfl ?_
      refine x_iload_n (x_d C_M_read 46 rfl) rfl ?_
      refine x_putfield (h1 := hF (x_up (x_up q 1354 ol) 1346 t) (x_up r 1344 (some 44)) (x_up A 43 tz) ++ dyn) (x_d C_M_read 47 rfl) p_M_7 rfl rfl rfl trivial rfl ?_
      refine x_aload_n (x_d C_M_read 48 rfl) rfl ?_
      refine x_ldcS (i := 55) (x_d C_M_read 49 rfl) rfl ?_
      refine x_invokevirtual (st := []) (av := [xS (111)]) (x_d C_M_read 50 rfl) k_M_103 m_M_takeWord v_M_takeWord cl_M rfl rfl (Nat.le_of_ble_eq_true rfl) (by omega) rfl (c_M_takeWord Z (d - 1) (x_up q 1354 ol) r (x_up A 43 tz) dyn (by omega) X f t (si := 55) rfl hf hn hX (show 0 ≤ t ∧ t ≤ q 1345 by omega) (by decide)) ?_
      rintro v_ _ ⟨z4, j4, rfl, rfl, hz4⟩
      have hz4 : (z4 = 1 ∧ 0 ≤ s_the X (f + q 1345) (f + t) [115, 116, 97, 114, 116, 120, 114, 101, 102] ∧ j4 = s_the X (f + q 1345) (f + t) [115, 116, 97, 114, 116, 120, 114, 101, 102] - f) ∨ (z4 = 0 ∧ s_the X (f + q 1345) (f + t) [115, 116, 97, 114, 116, 120, 114, 101, 102] < 0 ∧ j4 = t) := hz4
      have hti4 := s_the_in X (f + q 1345) (f + t) [115, 116, 97, 114, 116, 120, 114, 101, 102]
      simp only [List.length_cons, List.length_nil] at hti4
      rw [show f + t = LK by omega] at hz4 hti4
      have hth : s_the X (f + q 1345) LK [115, 116, 97, 114, 116, 120, 114, 101, 102] = sx ∨ (s_the X (f + q 1345) LK [115, 116, 97, 114, 116, 120, 114, 101, 102] = -1 ∧ ¬ s_byte X (f + q 1345) sx = 10) := by
        by_cases cc : 0 ≤ sx ∧ sx < (f + q 1345) ∧ s_reg (X sx.toNat) = true
        · refine Or.inr ⟨?_, ?_⟩
          · unfold s_the
            rw [← hsx, if_pos cc]
          · intro e
            have := hB sx.toNat
            have h10 : X sx.toNat = 10 := by omega
            have c3 := cc.2.2
            rw [h10] at c3
            cases c3
        · left
          unfold s_the
          rw [← hsx, if_neg cc]
      refine x_if_eq (tgt := 109) (x_d C_M_read 51 rfl) rfl (fun c5 => ?_) (fun c5 => ?_)
      · refine x_iconst (x_d C_M_read 56 rfl) ⟨by omega, by omega⟩ ?_
        refine x_ireturn (x_d C_M_read 57 rfl) ?_
        exact k2 (by rw [hv]; (repeat' split) <;> omega) _ (by omega)
      · have hz4 : 0 ≤ s_the X (f + q 1345) LK [115, 116, 97, 114, 116, 120, 114, 101, 102] ∧ j4 = s_the X (f + q 1345) LK [115, 116, 97, 114, 116, 120, 114, 101, 102] - f := by rcases hz4 with ⟨-, a⟩ | ⟨a, _⟩; exact a; omega
        have hj4 : j4 = sx - f := by omega
        clear hz4 hth hti4
        refine x_aload_n (x_d C_M_read 52 rfl) rfl ?_
        refine x_bipush (x_d C_M_read 53 rfl) (by omega) ?_
        refine x_invokevirtual (st := []) (av := [xI (10)]) (x_d C_M_read 54 rfl) k_M_132 m_M_takeByte v_M_takeByte cl_M rfl rfl (Nat.le_of_ble_eq_true rfl) (by omega) rfl (c_M_takeByte Z (d - 1) (x_up q 1354 ol) r (x_up A 43 tz) dyn X f j4 10 hf hn hX (show 0 ≤ j4 ∧ j4 ≤ q 1345 by omega) hB (by omega)) ?_
        rintro v_ _ ⟨z6, j6, rfl, rfl, hz6⟩
        have hz6 : (z6 = 1 ∧ s_byte X (f + q 1345) (f + j4) = 10 ∧ j6 = j4 + 1 ∧ j4 < q 1345) ∨ (z6 = 0 ∧ ¬ s_byte X (f + q 1345) (f + j4) = 10 ∧ j6 = j4) := hz6
        rw [show f + j4 = sx by omega] at hz6
        have hv6 : ln = if s_byte X (f + q 1345) sx = 10 then sx + 1 else -1 := by rw [hln]; rfl
        refine x_if_ne (tgt := 111) (x_d C_M_read 55 rfl) rfl (fun c7 => ?_) (fun c7 => ?_)
        · have e6 : s_byte X (f + q 1345) sx = 10 ∧ j6 = j4 + 1 ∧ j4 < q 1345 := by rcases hz6 with ⟨-, a⟩ | ⟨a, _⟩; exact a; omega
          have hv6 : ln = sx + 1 := by rw [hv6, if_pos e6.1]
          clear hz6 i2 b1
          refine x_aload_n (x_d C_M_read 58 rfl) rfl ?_
          refine x_invokevirtual (st := []) (av := []) (x_d C_M_read 59 rfl) k_M_98 m_M_takeNumber v_M_takeNumber cl_M rfl rfl (Nat.le_of_ble_eq_true rfl) (by omega) rfl (c_M_takeNumber Z (d - 1) (x_up q 1354 ol) r (x_up A 43 tz) dyn (by omega) X f j6 hf hn hX (show 0 ≤ j6 ∧ j6 ≤ q 1345 by omega)) ?_
          rintro v_ _ ⟨j8, hv_, rfl, hz8⟩
          have hz8 : (0 ≤ s_num X (f + q 1345) (f + j6) ∧ j8 = s_wd X (f + q 1345) (f + j6) - f) ∨ (s_num X (f + q 1345) (f + j6) < 0 ∧ j8 = j6) := hz8
          have hv_ : v_ = some (xI (s_num X (f + q 1345) (f + j6))) := hv_
          have hps : f + j6 = ln := by omega
          rw [hps, ← hnu, ← hwd] at hz8
          rw [hps, ← hnu] at hv_
          obtain rfl := hv_
          refine x_istore_n (l1 := [(3, xI (nu)), (0, xC 42), (1, xC cp), (2, xI (t))]) (x_d C_M_read 60 rfl) (by decide) rfl ?_
          refine x_iload_n (x_d C_M_read 61 rfl) rfl ?_
          refine x_if_lt (tgt := 172) (x_d C_M_read 62 rfl) rfl (fun c9 => ?_) (fun c9 => ?_)
          · refine x_iconst (x_d C_M_read 89 rfl) ⟨by omega, by omega⟩ ?_
            refine x_ireturn (x_d C_M_read 90 rfl) ?_
            exact k2 (by rw [hv]; (repeat' split) <;> omega) _ (by omega)
          · have e8 : j8 = wd - f := by omega
            have i3 : nu < 1000000000 ∧ 0 ≤ ln ∧ ln < wd ∧ wd ≤ ln + 9 ∧ ln < (f + q 1345) := by omega
            have i4 : wd ≤ (f + q 1345) := by omega
            clear hz8
            refine x_aload_n (x_d C_M_read 63 rfl) rfl ?_
            refine x_bipush (x_d C_M_read 64 rfl) (by omega) ?_
            refine x_invokevirtual (st := []) (av := [xI (10)]) (x_d C_M_read 65 rfl) k_M_132 m_M_takeByte v_M_takeByte cl_M rfl rfl (Nat.le_of_ble_eq_true rfl) (by omega) rfl (c_M_takeByte Z (d - 1) (x_up q 1354 ol) r (x_up A 43 tz) dyn X f j8 10 hf hn hX (show 0 ≤ j8 ∧ j8 ≤ q 1345 by omega) hB (by omega)) ?_
            rintro v_ _ ⟨z10, j10, rfl, rfl, hz10⟩
            have hz10 : (z10 = 1 ∧ s_byte X (f + q 1345) (f + j8) = 10 ∧ j10 = j8 + 1 ∧ j8 < q 1345) ∨ (z10 = 0 ∧ ¬ s_byte X (f + q 1345) (f + j8) = 10 ∧ j10 = j8) := hz10
            rw [show f + j8 = wd by omega] at hz10
            have hv10 : ab = if s_byte X (f + q 1345) wd = 10 then wd + 1 else -1 := by rw [hab]; rfl
            refine x_if_eq (tgt := 172) (x_d C_M_read 66 rfl) rfl (fun c11 => ?_) (fun c11 => ?_)
            · refine x_iconst (x_d C_M_read 89 rfl) ⟨by omega, by omega⟩ ?_
              refine x_ireturn (x_d C_M_read 90 rfl) ?_
              exact k2 (by rw [hv]; (repeat' split) <;> omega) _ (by omega)
            · have e10 : s_byte X (f + q 1345) wd = 10 ∧ j10 = j8 + 1 ∧ j8 < q 1345 := by rcases hz10 with ⟨-, a⟩ | ⟨a, _⟩; exact a; omega
              have hv10 : ab = wd + 1 := by rw [hv10, if_pos e10.1]
              clear hz10 i5 b2
              refine x_aload_n (x_d C_M_read 67 rfl) rfl ?_
              refine x_aload_n (x_d C_M_read 68 rfl) rfl ?_
              refine x_getfield (v := xI (j10)) (x_d C_M_read 69 rfl) f_M_7 rfl rfl ?_
              refine x_ldcS (i := 56) (x_d C_M_read 70 rfl) rfl ?_
              refine x_invokevirtual (st := []) (av := [xI (j10), xS (113)]) (x_d C_M_read 71 rfl) k_M_34 m_M_isAt1 v_M_isAt1 cl_M rfl rfl (Nat.le_of_ble_eq_true rfl) (by omega) rfl (c_M_isAt1 Z (d - 1) (x_up q 1354 ol) r (x_up A 43 tz) dyn (by omega) X f j10 j10 (si := 56) rfl hf hn hX (by omega)) ?_
              rintro v_ _ ⟨hv_, rfl⟩
              obtain ⟨z_, rfl, hz_⟩ : ∃ z : Int, v_ = some (xI z) ∧ ((z = 1 ∧ 0 ≤ j10 ∧ 0 ≤ s_txt X (f + q 1345) (f + j10) [37, 37, 69, 79, 70]) ∨ (z = 0 ∧ ¬ (0 ≤ j10 ∧ 0 ≤ s_txt X (f + q 1345) (f + j10) [37, 37, 69, 79, 70]))) := ⟨_, hv_, by by_cases c_ : (0 ≤ j10 ∧ 0 ≤ s_txt X (f + q 1345) (f + j10) [37, 37, 69, 79, 70]); exact Or.inl ⟨x_bo_t c_, c_⟩; exact Or.inr ⟨x_bo_f c_, c_⟩⟩
              rw [show f + j10 = ab by omega, ← hef] at hz_
              refine x_if_eq (tgt := 172) (x_d C_M_read 72 rfl) rfl (fun c12 => ?_) (fun c12 => ?_)
              · refine x_iconst (x_d C_M_read 89 rfl) ⟨by omega, by omega⟩ ?_
                refine x_ireturn (x_d C_M_read 90 rfl) ?_
                exact k2 (by rw [hv]; (repeat' split) <;> omega) _ (by omega)
              · have e10 : 0 ≤ ef := by omega
                have i6 : ef = ab + 5 ∧ ab + 5 ≤ (f + q 1345) := by omega
                clear hz_
                refine x_aload_n (x_d C_M_read 73 rfl) rfl ?_
                refine x_getfield (v := xI (j10)) (x_d C_M_read 74 rfl) f_M_7 rfl rfl ?_
                refine x_bipush (x_d C_M_read 75 rfl) (by omega) ?_
                refine x_iadd (x_d C_M_read 76 rfl) ⟨by omega, by omega⟩ ?_
                refine x_aload_n (x_d C_M_read 77 rfl) rfl ?_
                refine x_getfield (v := xI (q 1345)) (x_d C_M_read 78 rfl) f_M_11 rfl rfl ?_
                have hxe := hXi (q 1345 - 1)
                have hBe := hB (f + (q 1345 - 1)).toNat
                have hb3 : ef = f + (q 1345 - 1) → s_byte X (f + q 1345) ef = X (f + (q 1345 - 1)).toNat % 256 ∨ s_byte X (f + q 1345) ef = -1 := fun e => by rw [e] at b3 ⊢; omega
                have hfv : fi = if s_byte X (f + q 1345) ef = 10 then ef + 1 else -1 := by rw [hfi]; rfl
                refine x_icmp_ne (tgt := 172) (x_d C_M_read 79 rfl) rfl (fun c13 => ?_) (fun c13 => ?_)
                · refine x_iconst (x_d C_M_read 89 rfl) ⟨by omega, by omega⟩ ?_
                  refine x_ireturn (x_d C_M_read 90 rfl) ?_
                  exact k2 (by rw [hv]; (repeat' split) <;> omega) _ (by omega)
                · refine x_aload_n (x_d C_M_read 80 rfl) rfl ?_
                  refine x_getfield (v := xC 44) (x_d C_M_read 81 rfl) f_M_14 rfl rfl ?_
                  refine x_aload_n (x_d C_M_read 82 rfl) rfl ?_
                  refine x_getfield (v := xI (q 1345)) (x_d C_M_read 83 rfl) f_M_11 rfl rfl ?_
                  refine x_iconst (x_d C_M_read 84 rfl) ⟨by omega, by omega⟩ ?_
                  refine x_isub (x_d C_M_read 85 rfl) ⟨by omega, by omega⟩ ?_
                  refine x_baload (f := A 44) (x_d C_M_read 86 rfl) rfl (by omega) (by omega) ?_
                  refine x_bipush (x_d C_M_read 87 rfl) (by omega) ?_
                  refine x_icmp_eq (tgt := 174) (x_d C_M_read 88 rfl) rfl (fun c14 => ?_) (fun c14 => ?_)
                  · refine x_locs [1, 2, 3, 0] rfl ?_
                    have hle : nu = la := by rw [hv, if_pos (by omega)]
                    rw [hle]
                    exact kk (by omega) (by omega) _ (by omega)
                  · refine x_iconst (x_d C_M_read 89 rfl) ⟨by omega, by omega⟩ ?_
                    refine x_ireturn (x_d C_M_read 90 rfl) ?_
                    exact k2 (by rw [hv]; (repeat' split) <;> omega) _ (by omega)
        · refine x_iconst (x_d C_M_read 56 rfl) ⟨by omega, by omega⟩ ?_
          refine x_ireturn (x_d C_M_read 57 rfl) ?_
          exact k2 (by rw [hv]; (repeat' split) <;> omega) _ (by omega)
    · refine x_iconst (x_d C_M_read 43 rfl) ⟨by omega, by omega⟩ ?_
      refine x_ireturn (x_d C_M_read 44 rfl) ?_
      exact k2 (by rw [hv]; (repeat' split) <;> omega) _ (by omega)
