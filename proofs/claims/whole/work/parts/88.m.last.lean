/-! the reference: the last place -/
theorem w_M_read_42 (Z : xZ) (d : Nat) (q : Nat → Int) (r : Nat → Option Nat) (A : Nat → Nat → Int) (hd : 44 ≤ d) (X : Nat → Int) (f j ol : Int) (tz : Nat → Int) (dyn : xH) (cp : Nat) (hf : 0 ≤ f) (hn : 0 ≤ q 1345 ∧ q 1345 ≤ 4000) (hX : ∀ k : Nat, (k : Int) < q 1345 → A 44 k = X (f.toNat + k)) (hB : ∀ k, -128 ≤ X k ∧ X k ≤ 127) (hj : 0 ≤ j ∧ j ≤ 4000) (LK : Int) (h37 : s_txt X (f + q 1345) f [115, 116, 97, 114, 116, 120, 114, 101, 102] < 0) (Q : Option xV → xH → Prop) (kk : ∀ t : Int, ((t < 0 ∧ LK ≤ f) ∨ (0 < t ∧ t + 9 ≤ q 1345 ∧ LK = f + t ∧ 0 ≤ s_txt X (f + q 1345) LK [115, 116, 97, 114, 116, 120, 114, 101, 102])) → xW Z d Y_M_read 62 [(0, xC 42), (1, xC cp), (2, xI t)] [] (hF (x_up (x_up q 1354 ol) 1346 j) (x_up r 1344 (some 44)) (x_up A 43 tz) ++ dyn) Q) : ∀ (m : Nat) (t : Int), t + 1 = m → t + 9 ≤ q 1345 → s_lk X (f + q 1345) f t.toNat (f + t) = LK → xW Z d Y_M_read 42 [(0, xC 42), (1, xC cp), (2, xI t)] [] (hF (x_up (x_up q 1354 ol) 1346 j) (x_up r 1344 (some 44)) (x_up A 43 tz) ++ dyn) Q := by
  intro m
  induction m with
  | zero =>
    intro t hm ht hl
    refine x_iload_n (x_d C_M_read 22 rfl) rfl ?_
    refine x_if_lt (tgt := 62) (x_d C_M_read 23 rfl) rfl (fun _ => ?_) (fun q => absurd q (by omega))
    refine x_locs [0, 1, 2] rfl ?_
    exact kk t (Or.inl ⟨by omega, by rw [← hl, show t.toNat = 0 by omega]; show f + t ≤ f; omega⟩)
  | succ m ih =>
    intro t hm ht hl
    have htx := s_txt_in X (f + q 1345) (f + t) [115, 116, 97, 114, 116, 120, 114, 101, 102]
    have hst : 0 < t → s_lk X (f + q 1345) f t.toNat (f + t) = if f < f + t ∧ s_txt X (f + q 1345) (f + t) [115, 116, 97, 114, 116, 120, 114, 101, 102] < 0 then s_lk X (f + q 1345) f (t - 1).toNat (f + t - 1) else f + t := fun h => by
      obtain ⟨p, hp⟩ : ∃ p, t.toNat = p + 1 := ⟨t.toNat - 1, by omega⟩
      rw [hp, show (t - 1).toNat = p by omega]
      rfl
    rcases Int.lt_or_le 0 t with h0 | h0
    · refine x_iload_n (x_d C_M_read 22 rfl) rfl ?_
      refine x_if_lt (tgt := 62) (x_d C_M_read 23 rfl) rfl (fun q => absurd q (by omega)) (fun _ => ?_)
      refine x_aload_n (x_d C_M_read 24 rfl) rfl ?_
      refine x_iload_n (x_d C_M_read 25 rfl) rfl ?_
      refine x_ldcS (i := 55) (x_d C_M_read 26 rfl) rfl ?_
      refine x_invokevirtual (st := []) (av := [xI (t), xS (111)]) (x_d C_M_read 27 rfl) k_M_34 m_M_isAt1 v_M_isAt1 cl_M rfl rfl (Nat.le_of_ble_eq_true rfl) (by omega) rfl (c_M_isAt1 Z (d - 1) (x_up q 1354 ol) r (x_up A 43 tz) dyn (by omega) X f j t (si := 55) rfl hf hn hX (by omega)) ?_
      rintro v_ _ ⟨hv_, rfl⟩
      obtain ⟨z_, rfl, hz_⟩ : ∃ z : Int, v_ = some (xI z) ∧ ((z = 1 ∧ 0 ≤ t ∧ 0 ≤ s_txt X (f + q 1345) (f + t) [115, 116, 97, 114, 116, 120, 114, 101, 102]) ∨ (z = 0 ∧ ¬ (0 ≤ t ∧ 0 ≤ s_txt X (f + q 1345) (f + t) [115, 116, 97, 114, 116, 120, 114, 101, 102]))) := ⟨_, hv_, by by_cases c_ : (0 ≤ t ∧ 0 ≤ s_txt X (f + q 1345) (f + t) [115, 116, 97, 114, 116, 120, 114, 101, 102]); exact Or.inl ⟨x_bo_t c_, c_⟩; exact Or.inr ⟨x_bo_f c_, c_⟩⟩
      refine x_if_ne (tgt := 62) (x_d C_M_read 28 rfl) rfl (fun c2 => ?_) (fun c2 => ?_)
      · refine x_locs [0, 1, 2] rfl ?_
        rw [hst h0, if_neg (by omega)] at hl
        exact kk t (Or.inr ⟨h0, ht, hl.symm, by rw [← hl]; omega⟩)
      · refine x_iinc (l1 := [(2, xI (t + (-1))), (0, xC 42), (1, xC cp)]) (x_d C_M_read 29 rfl) rfl ⟨by omega, by omega⟩ (by decide) rfl ?_
        refine x_goto (tgt := 42) (x_d C_M_read 30 rfl) rfl ?_
        refine x_locs [1, 2, 0] rfl ?_
        rw [hst h0, if_pos ⟨by omega, by omega⟩] at hl
        rw [show f + t - 1 = f + (t - 1) by omega] at hl
        exact ih (t + (-1)) (by omega) (by omega) hl
    · refine x_iload_n (x_d C_M_read 22 rfl) rfl ?_
      refine x_if_lt (tgt := 62) (x_d C_M_read 23 rfl) rfl (fun q => absurd q (by omega)) (fun _ => ?_)
      refine x_aload_n (x_d C_M_read 24 rfl) rfl ?_
      refine x_iload_n (x_d C_M_read 25 rfl) rfl ?_
      refine x_ldcS (i := 55) (x_d C_M_read 26 rfl) rfl ?_
      refine x_invokevirtual (st := []) (av := [xI (t), xS (111)]) (x_d C_M_read 27 rfl) k_M_34 m_M_isAt1 v_M_isAt1 cl_M rfl rfl (Nat.le_of_ble_eq_true rfl) (by omega) rfl (c_M_isAt1 Z (d - 1) (x_up q 1354 ol) r (x_up A 43 tz) dyn (by omega) X f j t (si := 55) rfl hf hn hX (by omega)) ?_
      rintro v_ _ ⟨hv_, rfl⟩
      obtain ⟨z_, rfl, hz_⟩ : ∃ z : Int, v_ = some (xI z) ∧ ((z = 1 ∧ 0 ≤ t ∧ 0 ≤ s_txt X (f + q 1345) (f + t) [115, 116, 97, 114, 116, 120, 114, 101, 102]) ∨ (z = 0 ∧ ¬ (0 ≤ t ∧ 0 ≤ s_txt X (f + q 1345) (f + t) [115, 116, 97, 114, 116, 120, 114, 101, 102]))) := ⟨_, hv_, by by_cases c_ : (0 ≤ t ∧ 0 ≤ s_txt X (f + q 1345) (f + t) [115, 116, 97, 114, 116, 120, 114, 101, 102]); exact Or.inl ⟨x_bo_t c_, c_⟩; exact Or.inr ⟨x_bo_f c_, c_⟩⟩
      refine x_if_ne (tgt := 62) (x_d C_M_read 28 rfl) rfl (fun c2 => ?_) (fun c2 => ?_)
      · exfalso
        rw [show f + t = f by omega] at htx hz_
        omega
      · refine x_iinc (l1 := [(2, xI (t + (-1))), (0, xC 42), (1, xC cp)]) (x_d C_M_read 29 rfl) rfl ⟨by omega, by omega⟩ (by decide) rfl ?_
        refine x_goto (tgt := 42) (x_d C_M_read 30 rfl) rfl ?_
        refine x_locs [1, 2, 0] rfl ?_
        refine x_iload_n (x_d C_M_read 22 rfl) rfl ?_
        refine x_if_lt (tgt := 62) (x_d C_M_read 23 rfl) rfl (fun _ => ?_) (fun q => absurd q (by omega))
        refine x_locs [0, 1, 2] rfl ?_
        exact kk (t + (-1)) (Or.inl ⟨by omega, by rw [← hl, show t.toNat = 0 by omega]; show f + t ≤ f; omega⟩)
theorem w_M_read_62 (Z : xZ) (d : Nat) (q : Nat → Int) (r : Nat → Option Nat) (A : Nat → Nat → Int) (hd : 44 ≤ d) (X : Nat → Int) (f j ol : Int) (tz : Nat → Int) (dyn : xH) (cp : Nat) (hf : 0 ≤ f) (hn : 0 ≤ q 1345 ∧ q 1345 ≤ 4000) (hX : ∀ k : Nat, (k : Int) < q 1345 → A 44 k = X (f.toNat + k)) (hB : ∀ k, -128 ≤ X k ∧ X k ≤ 127) (hj : 0 ≤ j ∧ j ≤ 4000) (LK t : Int) (hlk : (t < 0 ∧ LK ≤ f) ∨ (0 < t ∧ t + 9 ≤ q 1345 ∧ LK = f + t ∧ 0 ≤ s_txt X (f + q 1345) LK [115, 116, 97, 114, 116, 120, 114, 101, 102])) (Q : Option xV → xH → Prop) (k2 : s_last1 X (f + q 1345) f LK < 0 → ∀ j2, (0 ≤ j2 ∧ j2 ≤ 4000) → Q (some (xI 2)) (hF (x_up (x_up q 1354 ol) 1346 j2) (x_up r 1344 (some 44)) (x_up A 43 tz) ++ dyn)) (kk : 0 ≤ s_last1 X (f + q 1345) f LK → s_last1 X (f + q 1345) f LK ≤ 999999999 → ∀ j2, (0 ≤ j2 ∧ j2 ≤ q 1345) → xW Z d Y_M_read 174 [(0, xC 42), (1, xC cp), (2, xI t), (3, xI (s_last1 X (f + q 1345) f LK))] [] (hF (x_up (x_up q 1354 ol) 1346 j2) (x_up r 1344 (some 44)) (x_up A 43 tz) ++ dyn) Q) : xW Z d Y_M_read 62 [(0, xC 42), (1, xC cp), (2, xI t)] [] (hF (x_up (x_up q 1354 ol) 1346 j) (x_up r 1344 (some 44)) (x_up A 43 tz) ++ dyn) Q := by
  have hXi : ∀ u : Int, 0 ≤ u → u < q 1345 → A 44 u.toNat = X (f + u).toNat := fun u h1 h2 => by rw [hX u.toNat (by omega)]; congr 1; omega
  obtain ⟨sx, hsx⟩ : ∃ z, z = s_txt X (f + q 1345) LK [115, 116, 97, 114, 116, 120, 114, 101, 102] := ⟨_, rfl⟩
  obtain ⟨ln, hln⟩ : ∃ z, z = s_abyte X (f + q 1345) sx 10 := ⟨_, rfl⟩
  obtain ⟨nu, hnu⟩ : ∃ z, z = s_num X (f + q 1345) ln := ⟨_, rfl⟩
  obtain ⟨wd, hwd⟩ : ∃ z, z = s_wd X (f + q 1345) ln := ⟨_, rfl⟩
  obtain ⟨ab, hab⟩ : ∃ z, z = s_abyte X (f + q 1345) wd 10 := ⟨_, rfl⟩
  obtain ⟨ef, hef⟩ : ∃ z, z = s_txt X (f + q 1345) ab [37, 37, 69, 79, 70] := ⟨_, rfl⟩
  obtain ⟨fi, hfi⟩ : ∃ z, z = s_abyte X (f + q 1345) ef 10 := ⟨_, rfl⟩
  obtain ⟨w1, hw1⟩ : ∃ z, z = s_wd X (f + q 1345) (LK - 1) := ⟨_, rfl⟩
  obtain ⟨la, hla⟩ : ∃ z, z = s_last1 X (f + q 1345) f LK := ⟨_, rfl⟩
  have hv : la = if LK ≤ f ∨ 0 ≤ w1 then -1 else if fi = (f + q 1345) then nu else -1 := by rw [hla]; unfold s_last1 s_lnum; rw [← hw1, ← hsx, ← hln, ← hwd, ← hab, ← hef, ← hfi, ← hnu]
  rw [← hla] at k2 kk
  have i1 := s_txt_in X (f + q 1345) LK [115, 116, 97, 114, 116, 120, 114, 101, 102]
  have i2 := s_abyte_in X (f + q 1345) sx 10
  have i3 := s_num_in X (f + q 1345) ln
  have i4 := s_wd_in X (f + q 1345) ln
  have i5 := s_abyte_in X (f + q 1345) wd 10
  have i6 := s_txt_in X (f + q 1345) ab [37, 37, 69, 79, 70]
  have i7 := s_abyte_in X (f + q 1345) ef 10
  have b1 := s_byte_in X (f + q 1345) sx
  have b2 := s_byte_in X (f + q 1345) wd
  have b3 := s_byte_in X (f + q 1345) ef
  rw [← hsx] at i1
  rw [← hln] at i2
  rw [← hnu, ← hwd] at i3
  rw [← hwd] at i4
  rw [← hab] at i5
  rw [← hef] at i6
  rw [← hfi] at i7
  rw [← hsx] at hlk
  simp only [List.length_cons, List.length_nil] at i1 i6
  refine x_iload_n (x_d C_M_read 31 rfl) rfl ?_
  refine x_if_lt (tgt := 84) (x_d C_M_read 32 rfl) rfl (fun c1 => ?_) (fun c1 => ?_)
  · refine x_iconst (x_d C_M_read 43 rfl) ⟨by omega, by omega⟩ ?_
    refine x_ireturn (x_d C_M_read 44 rfl) ?_
    exact k2 (by rw [hv]; (repeat' split) <;> omega) _ (by omega)
  · refine x_iload_n (x_d C_M_read 33 rfl) rfl ?_
    refine x_if_le (tgt := 86) (x_d C_M_read 34 rfl) rfl (fun c2 => ?_) (fun c2 => ?_)
    · refine x_aload_n (x_d C_M_read 45 rfl) rfl ?_
      refine x_iload_n (x_d C_M_read 46 rfl) rfl ?_
      refine x_putfield (h1 := hF (x_up (x_up q 1354 ol) 1346 t) (x_up r 1344 (some 44)) (x_up A 43 tz) ++ dyn) (x_d C_M_read 47 rfl) p_M_7 rfl rfl rfl trivial rfl ?_
      refine x_aload_n (x_d C_M_read 48 rfl) rfl ?_
      refine x_ldcS (i := 55) (x_d C_M_read 49 rfl) rfl ?_
      refine x_invokevirtual (st := []) (av := [xS (111)]) (x_d C_M_read 50 rfl) k_M_103 m_M_takeWord v_M_takeWord cl_M rfl rfl (Nat.le_of_ble_eq_true rfl) (by omega) rfl (c_M_takeWord Z (d - 1) (x_up q 1354 ol) r (x_up A 43 tz) dyn (by omega) X f t (si := 55) rfl hf hn hX (by omega) (by decide)) ?_
      rintro v_ _ ⟨z3, j3, rfl, rfl, hz3⟩
      have hz3 : (z3 = 1 ∧ 0 ≤ s_the X (f + q 1345) (f + t) [115, 116, 97, 114, 116, 120, 114, 101, 102] ∧ j3 = s_the X (f + q 1345) (f + t) [115, 116, 97, 114, 116, 120, 114, 101, 102] - f) ∨ (z3 = 0 ∧ s_the X (f + q 1345) (f + t) [115, 116, 97, 114, 116, 120, 114, 101, 102] < 0 ∧ j3 = t) := hz3
      have hti3 := s_the_in X (f + q 1345) (f + t) [115, 116, 97, 114, 116, 120, 114, 101, 102]
      simp only [List.length_cons, List.length_nil] at hti3
      rw [show f + t = LK by omega] at hz3 hti3
      have hth : s_the X (f + q 1345) LK [115, 116, 97, 114, 116, 120, 114, 101, 102] = sx ∨ (s_the X (f + q 1345) LK [115, 116, 97, 114, 116, 120, 114, 101, 102] = -1 ∧ ¬ s_byte X (f + q 1345) sx = 10) := by
        by_cases cc : 0 ≤ sx ∧ sx < (f + q 1345) ∧ s_reg (X sx.toNat) = true
        · refine Or.inr ⟨?_, ?_⟩
          · unfold s_the
            rw [← hsx, if_pos cc]
          · intro e
            have := hB sx.toNat
            have h10 : X sx.toNat = 10 := by omega
            have c3 := cc.2.2
            rw [h10] at c3
            cases c3
        · left
          unfold s_the
          rw [← hsx, if_neg cc]
      refine x_if_eq (tgt := 109) (x_d C_M_read 51 rfl) rfl (fun c4 => ?_) (fun c4 => ?_)
      · refine x_iconst (x_d C_M_read 56 rfl) ⟨by omega, by omega⟩ ?_
        refine x_ireturn (x_d C_M_read 57 rfl) ?_
        exact k2 (by rw [hv]; (repeat' split) <;> omega) _ (by omega)
      · refine x_aload_n (x_d C_M_read 52 rfl) rfl ?_
        refine x_bipush (x_d C_M_read 53 rfl) (by omega) ?_
        refine x_invokevirtual (st := []) (av := [xI (10)]) (x_d C_M_read 54 rfl) k_M_132 m_M_takeByte v_M_takeByte cl_M rfl rfl (Nat.le_of_ble_eq_true rfl) (by omega) rfl (c_M_takeByte Z (d - 1) (x_up q 1354 ol) r (x_up A 43 tz) dyn X f j3 10 hf hn hX (by omega) hB (by omega)) ?_
        rintro v_ _ ⟨z5, j5, rfl, rfl, hz5⟩
        have hz5 : (z5 = 1 ∧ s_byte X (f + q 1345) (f + j3) = 10 ∧ j5 = j3 + 1 ∧ j3 < q 1345) ∨ (z5 = 0 ∧ ¬ s_byte X (f + q 1345) (f + j3) = 10 ∧ j5 = j3) := hz5
        rw [show f + j3 = sx by omega] at hz5
        have hv5 : ln = if s_byte X (f + q 1345) sx = 10 then sx + 1 else -1 := by rw [hln]; rfl
        refine x_if_ne (tgt := 111) (x_d C_M_read 55 rfl) rfl (fun c6 => ?_) (fun c6 => ?_)
        · refine x_aload_n (x_d C_M_read 58 rfl) rfl ?_
          refine x_invokevirtual (st := []) (av := []) (x_d C_M_read 59 rfl) k_M_98 m_M_takeNumber v_M_takeNumber cl_M rfl rfl (Nat.le_of_ble_eq_true rfl) (by omega) rfl (c_M_takeNumber Z (d - 1) (x_up q 1354 ol) r (x_up A 43 tz) dyn (by omega) X f j5 hf hn hX (by omega)) ?_
          rintro v_ _ ⟨j7, hv_, rfl, hz7⟩
          have hz7 : (0 ≤ s_num X (f + q 1345) (f + j5) ∧ j7 = s_wd X (f + q 1345) (f + j5) - f) ∨ (s_num X (f + q 1345) (f + j5) < 0 ∧ j7 = j5) := hz7
          have hv_ : v_ = some (xI (s_num X (f + q 1345) (f + j5))) := hv_
          have hps : f + j5 = ln := by omega
          rw [hps, ← hnu, ← hwd] at hz7
          rw [hps, ← hnu] at hv_
          obtain rfl := hv_
          refine x_istore_n (l1 := [(3, xI (nu)), (0, xC 42), (1, xC cp), (2, xI (t))]) (x_d C_M_read 60 rfl) (by decide) rfl ?_
          refine x_iload_n (x_d C_M_read 61 rfl) rfl ?_
          refine x_if_lt (tgt := 172) (x_d C_M_read 62 rfl) rfl (fun c8 => ?_) (fun c8 => ?_)
          · refine x_iconst (x_d C_M_read 89 rfl) ⟨by omega, by omega⟩ ?_
            refine x_ireturn (x_d C_M_read 90 rfl) ?_
            exact k2 (by rw [hv]; (repeat' split) <;> omega) _ (by omega)
          · refine x_aload_n (x_d C_M_read 63 rfl) rfl ?_
            refine x_bipush (x_d C_M_read 64 rfl) (by omega) ?_
            refine x_invokevirtual (st := []) (av := [xI (10)]) (x_d C_M_read 65 rfl) k_M_132 m_M_takeByte v_M_takeByte cl_M rfl rfl (Nat.le_of_ble_eq_true rfl) (by omega) rfl (c_M_takeByte Z (d - 1) (x_up q 1354 ol) r (x_up A 43 tz) dyn X f j7 10 hf hn hX (by omega) hB (by omega)) ?_
            rintro v_ _ ⟨z9, j9, rfl, rfl, hz9⟩
            have hz9 : (z9 = 1 ∧ s_byte X (f + q 1345) (f + j7) = 10 ∧ j9 = j7 + 1 ∧ j7 < q 1345) ∨ (z9 = 0 ∧ ¬ s_byte X (f + q 1345) (f + j7) = 10 ∧ j9 = j7) := hz9
            rw [show f + j7 = wd by omega] at hz9
            have hv9 : ab = if s_byte X (f + q 1345) wd = 10 then wd + 1 else -1 := by rw [hab]; rfl
            refine x_if_eq (tgt := 172) (x_d C_M_read 66 rfl) rfl (fun c10 => ?_) (fun c10 => ?_)
            · refine x_iconst (x_d C_M_read 89 rfl) ⟨by omega, by omega⟩ ?_
              refine x_ireturn (x_d C_M_read 90 rfl) ?_
              exact k2 (by rw [hv]; (repeat' split) <;> omega) _ (by omega)
            · refine x_aload_n (x_d C_M_read 67 rfl) rfl ?_
              refine x_aload_n (x_d C_M_read 68 rfl) rfl ?_
              refine x_getfield (v := xI (j9)) (x_d C_M_read 69 rfl) f_M_7 rfl rfl ?_
              refine x_ldcS (i := 56) (x_d C_M_read 70 rfl) rfl ?_
              refine x_invokevirtual (st := []) (av := [xI (j9), xS (113)]) (x_d C_M_read 71 rfl) k_M_34 m_M_isAt1 v_M_isAt1 cl_M rfl rfl (Nat.le_of_ble_eq_true rfl) (by omega) rfl (c_M_isAt1 Z (d - 1) (x_up q 1354 ol) r (x_up A 43 tz) dyn (by omega) X f j9 j9 (si := 56) rfl hf hn hX (by omega)) ?_
              rintro v_ _ ⟨hv_, rfl⟩
              obtain ⟨z_, rfl, hz_⟩ : ∃ z : Int, v_ = some (xI z) ∧ ((z = 1 ∧ 0 ≤ j9 ∧ 0 ≤ s_txt X (f + q 1345) (f + j9) [37, 37, 69, 79, 70]) ∨ (z = 0 ∧ ¬ (0 ≤ j9 ∧ 0 ≤ s_txt X (f + q 1345) (f + j9) [37, 37, 69, 79, 70]))) := ⟨_, hv_, by by_cases c_ : (0 ≤ j9 ∧ 0 ≤ s_txt X (f + q 1345) (f + j9) [37, 37, 69, 79, 70]); exact Or.inl ⟨x_bo_t c_, c_⟩; exact Or.inr ⟨x_bo_f c_, c_⟩⟩
              rw [show f + j9 = ab by omega, ← hef] at hz_
              refine x_if_eq (tgt := 172) (x_d C_M_read 72 rfl) rfl (fun c11 => ?_) (fun c11 => ?_)
              · refine x_iconst (x_d C_M_read 89 rfl) ⟨by omega, by omega⟩ ?_
                refine x_ireturn (x_d C_M_read 90 rfl) ?_
                exact k2 (by rw [hv]; (repeat' split) <;> omega) _ (by omega)
              · refine x_aload_n (x_d C_M_read 73 rfl) rfl ?_
                refine x_getfield (v := xI (j9)) (x_d C_M_read 74 rfl) f_M_7 rfl rfl ?_
                refine x_bipush (x_d C_M_read 75 rfl) (by omega) ?_
                refine x_iadd (x_d C_M_read 76 rfl) ⟨by omega, by omega⟩ ?_
                refine x_aload_n (x_d C_M_read 77 rfl) rfl ?_
                refine x_getfield (v := xI (q 1345)) (x_d C_M_read 78 rfl) f_M_11 rfl rfl ?_
                have hxe := hXi (q 1345 - 1)
                have hBe := hB (f + (q 1345 - 1)).toNat
                have hb3 : ef = f + (q 1345 - 1) → s_byte X (f + q 1345) ef = X (f + (q 1345 - 1)).toNat % 256 ∨ s_byte X (f + q 1345) ef = -1 := fun e => by rw [e] at b3 ⊢; omega
                have hfv : fi = if s_byte X (f + q 1345) ef = 10 then ef + 1 else -1 := by rw [hfi]; rfl
                refine x_icmp_ne (tgt := 172) (x_d C_M_read 79 rfl) rfl (fun c12 => ?_) (fun c12 => ?_)
                · refine x_iconst (x_d C_M_read 89 rfl) ⟨by omega, by omega⟩ ?_
                  refine x_ireturn (x_d C_M_read 90 rfl) ?_
                  exact k2 (by rw [hv]; (repeat' split) <;> omega) _ (by omega)
                · refine x_aload_n (x_d C_M_read 80 rfl) rfl ?_
                  refine x_getfield (v := xC 44) (x_d C_M_read 81 rfl) f_M_14 rfl rfl ?_
                  refine x_aload_n (x_d C_M_read 82 rfl) rfl ?_
                  refine x_getfield (v := xI (q 1345)) (x_d C_M_read 83 rfl) f_M_11 rfl rfl ?_
                  refine x_iconst (x_d C_M_read 84 rfl) ⟨by omega, by omega⟩ ?_
                  refine x_isub (x_d C_M_read 85 rfl) ⟨by omega, by omega⟩ ?_
                  refine x_baload (f := A 44) (x_d C_M_read 86 rfl) rfl (by omega) (by omega) ?_
                  refine x_bipush (x_d C_M_read 87 rfl) (by omega) ?_
                  refine x_icmp_eq (tgt := 174) (x_d C_M_read 88 rfl) rfl (fun c13 => ?_) (fun c13 => ?_)
                  · refine x_locs [1, 2, 3, 0] rfl ?_
                    have hle : nu = la := by rw [hv, if_neg (by omega), if_pos (by omega)]
                    rw [hle]
                    exact kk (by omega) (by omega) _ (by omega)
                  · refine x_iconst (x_d C_M_read 89 rfl) ⟨by omega, by omega⟩ ?_
                    refine x_ireturn (x_d C_M_read 90 rfl) ?_
                    exact k2 (by rw [hv]; (repeat' split) <;> omega) _ (by omega)
        · refine x_iconst (x_d C_M_read 56 rfl) ⟨by omega, by omega⟩ ?_
          refine x_ireturn (x_d C_M_read 57 rfl) ?_
          exact k2 (by rw [hv]; (repeat' split) <;> omega) _ (by omega)
    · refine x_aload_n (x_d C_M_read 35 rfl) rfl ?_
      refine x_getfield (v := xC 44) (x_d C_M_read 36 rfl) f_M_14 rfl rfl ?_
      refine x_iload_n (x_d C_M_read 37 rfl) rfl ?_
      refine x_iconst (x_d C_M_read 38 rfl) ⟨by omega, by omega⟩ ?_
      refine x_isub (x_d C_M_read 39 rfl) ⟨by omega, by omega⟩ ?_
      refine x_baload (f := A 44) (x_d C_M_read 40 rfl) rfl (by omega) (by omega) ?_
      refine x_invokestatic (st := []) (av := [xI (A 44 (t - 1).toNat)]) (x_d C_M_read 41 rfl) k_M_21 m_M_isRegular s_M_isRegular rfl (Nat.le_of_ble_eq_true rfl) (by omega) rfl (c_M_isRegular Z (d - 1) (hF (x_up (x_up q 1354 ol) 1346 j) (x_up r 1344 (some 44)) (x_up A 43 tz) ++ dyn) (by omega) (A 44 (t - 1).toNat)) ?_
      rintro v_ _ ⟨hv_, rfl⟩
      obtain rfl : v_ = some (xI (x_bo (s_reg (A 44 (t - 1).toNat)))) := hv_
      have hrg : (x_bo (s_reg (A 44 (t - 1).toNat)) = 1 ∧ 0 ≤ w1) ∨ (x_bo (s_reg (A 44 (t - 1).toNat)) = 0 ∧ ¬ 0 ≤ w1) := by
        have hx1 := hXi (t - 1) (by omega) (by omega)
        rw [show f + (t - 1) = LK - 1 by omega] at hx1
        cases hr : s_reg (A 44 (t - 1).toNat) with
        | true =>
          refine Or.inl ⟨rfl, ?_⟩
          rw [hx1] at hr
          have := s_sc_step (p := s_reg) (b := X) (n := (f + q 1345)) (t := LK - 1) (by omega) (by omega) hr
          have h2 := s_sc_ge s_reg X (f + q 1345) (LK - 1 + 1)
          rw [hw1]
          unfold s_wd
          rw [if_pos (by omega)]
          omega
        | false =>
          refine Or.inr ⟨rfl, ?_⟩
          rw [hx1] at hr
          have := s_sc_stop (p := s_reg) (b := X) (n := (f + q 1345)) (t := LK - 1) (Or.inr (Or.inr hr))
          rw [hw1]
          unfold s_wd
          rw [if_neg (by omega)]
          omega
      refine x_if_eq (tgt := 86) (x_d C_M_read 42 rfl) rfl (fun c14 => ?_) (fun c14 => ?_)
      · refine x_aload_n (x_d C_M_read 45 rfl) rfl ?_
        refine x_iload_n (x_d C_M_read 46 rfl) rfl ?_
        refine x_putfield (h1 := hF (x_up (x_up q 1354 ol) 1346 t) (x_up r 1344 (some 44)) (x_up A 43 tz) ++ dyn) (x_d C_M_read 47 rfl) p_M_7 rfl rfl rfl trivial rfl ?_
        refine x_aload_n (x_d C_M_read 48 rfl) rfl ?_
        refine x_ldcS (i := 55) (x_d C_M_read 49 rfl) rfl ?_
        refine x_invokevirtual (st := []) (av := [xS (111)]) (x_d C_M_read 50 rfl) k_M_103 m_M_takeWord v_M_takeWord cl_M rfl rfl (Nat.le_of_ble_eq_true rfl) (by omega) rfl (c_M_takeWord Z (d - 1) (x_up q 1354 ol) r (x_up A 43 tz) dyn (by omega) X f t (si := 55) rfl hf hn hX (by omega) (by decide)) ?_
        rintro v_ _ ⟨z15, j15, rfl, rfl, hz15⟩
        have hz15 : (z15 = 1 ∧ 0 ≤ s_the X (f + q 1345) (f + t) [115, 116, 97, 114, 116, 120, 114, 101, 102] ∧ j15 = s_the X (f + q 1345) (f + t) [115, 116, 97, 114, 116, 120, 114, 101, 102] - f) ∨ (z15 = 0 ∧ s_the X (f + q 1345) (f + t) [115, 116, 97, 114, 116, 120, 114, 101, 102] < 0 ∧ j15 = t) := hz15
        have hti15 := s_the_in X (f + q 1345) (f + t) [115, 116, 97, 114, 116, 120, 114, 101, 102]
        simp only [List.length_cons, List.length_nil] at hti15
        rw [show f + t = LK by omega] at hz15 hti15
        have hth : s_the X (f + q 1345) LK [115, 116, 97, 114, 116, 120, 114, 101, 102] = sx ∨ (s_the X (f + q 1345) LK [115, 116, 97, 114, 116, 120, 114, 101, 102] = -1 ∧ ¬ s_byte X (f + q 1345) sx = 10) := by
          by_cases cc : 0 ≤ sx ∧ sx < (f + q 1345) ∧ s_reg (X sx.toNat) = true
          · refine Or.inr ⟨?_, ?_⟩
            · unfold s_the
              rw [← hsx, if_pos cc]
            · intro e
              have := hB sx.toNat
              have h10 : X sx.toNat = 10 := by omega
              have c3 := cc.2.2
              rw [h10] at c3
              cases c3
          · left
            unfold s_the
            rw [← hsx, if_neg cc]
        refine x_if_eq (tgt := 109) (x_d C_M_read 51 rfl) rfl (fun c16 => ?_) (fun c16 => ?_)
        · refine x_iconst (x_d C_M_read 56 rfl) ⟨by omega, by omega⟩ ?_
          refine x_ireturn (x_d C_M_read 57 rfl) ?_
          exact k2 (by rw [hv]; (repeat' split) <;> omega) _ (by omega)
        · refine x_aload_n (x_d C_M_read 52 rfl) rfl ?_
          refine x_bipush (x_d C_M_read 53 rfl) (by omega) ?_
          refine x_invokevirtual (st := []) (av := [xI (10)]) (x_d C_M_read 54 rfl) k_M_132 m_M_takeByte v_M_takeByte cl_M rfl rfl (Nat.le_of_ble_eq_true rfl) (by omega) rfl (c_M_takeByte Z (d - 1) (x_up q 1354 ol) r (x_up A 43 tz) dyn X f j15 10 hf hn hX (by omega) hB (by omega)) ?_
          rintro v_ _ ⟨z17, j17, rfl, rfl, hz17⟩
          have hz17 : (z17 = 1 ∧ s_byte X (f + q 1345) (f + j15) = 10 ∧ j17 = j15 + 1 ∧ j15 < q 1345) ∨ (z17 = 0 ∧ ¬ s_byte X (f + q 1345) (f + j15) = 10 ∧ j17 = j15) := hz17
          rw [show f + j15 = sx by omega] at hz17
          have hv17 : ln = if s_byte X (f + q 1345) sx = 10 then sx + 1 else -1 := by rw [hln]; rfl
          refine x_if_ne (tgt := 111) (x_d C_M_read 55 rfl) rfl (fun c18 => ?_) (fun c18 => ?_)
          · refine x_aload_n (x_d C_M_read 58 rfl) rfl ?_
            refine x_invokevirtual (st := []) (av := []) (x_d C_M_read 59 rfl) k_M_98 m_M_takeNumber v_M_takeNumber cl_M rfl rfl (Nat.le_of_ble_eq_true rfl) (by omega) rfl (c_M_takeNumber Z (d - 1) (x_up q 1354 ol) r (x_up A 43 tz) dyn (by omega) X f j17 hf hn hX (by omega)) ?_
            rintro v_ _ ⟨j19, hv_, rfl, hz19⟩
            have hz19 : (0 ≤ s_num X (f + q 1345) (f + j17) ∧ j19 = s_wd X (f + q 1345) (f + j17) - f) ∨ (s_num X (f + q 1345) (f + j17) < 0 ∧ j19 = j17) := hz19
            have hv_ : v_ = some (xI (s_num X (f + q 1345) (f + j17))) := hv_
            have hps : f + j17 = ln := by omega
            rw [hps, ← hnu, ← hwd] at hz19
            rw [hps, ← hnu] at hv_
            obtain rfl := hv_
            refine x_istore_n (l1 := [(3, xI (nu)), (0, xC 42), (1, xC cp), (2, xI (t))]) (x_d C_M_read 60 rfl) (by decide) rfl ?_
            refine x_iload_n (x_d C_M_read 61 rfl) rfl ?_
            refine x_if_lt (tgt := 172) (x_d C_M_read 62 rfl) rfl (fun c20 => ?_) (fun c20 => ?_)
            · refine x_iconst (x_d C_M_read 89 rfl) ⟨by omega, by omega⟩ ?_
              refine x_ireturn (x_d C_M_read 90 rfl) ?_
              exact k2 (by rw [hv]; (repeat' split) <;> omega) _ (by omega)
            · refine x_aload_n (x_d C_M_read 63 rfl) rfl ?_
              refine x_bipush (x_d C_M_read 64 rfl) (by omega) ?_
              refine x_invokevirtual (st := []) (av := [xI (10)]) (x_d C_M_read 65 rfl) k_M_132 m_M_takeByte v_M_takeByte cl_M rfl rfl (Nat.le_of_ble_eq_true rfl) (by omega) rfl (c_M_takeByte Z (d - 1) (x_up q 1354 ol) r (x_up A 43 tz) dyn X f j19 10 hf hn hX (by omega) hB (by omega)) ?_
              rintro v_ _ ⟨z21, j21, rfl, rfl, hz21⟩
              have hz21 : (z21 = 1 ∧ s_byte X (f + q 1345) (f + j19) = 10 ∧ j21 = j19 + 1 ∧ j19 < q 1345) ∨ (z21 = 0 ∧ ¬ s_byte X (f + q 1345) (f + j19) = 10 ∧ j21 = j19) := hz21
              rw [show f + j19 = wd by omega] at hz21
              have hv21 : ab = if s_byte X (f + q 1345) wd = 10 then wd + 1 else -1 := by rw [hab]; rfl
              refine x_if_eq (tgt := 172) (x_d C_M_read 66 rfl) rfl (fun c22 => ?_) (fun c22 => ?_)
              · refine x_iconst (x_d C_M_read 89 rfl) ⟨by omega, by omega⟩ ?_
                refine x_ireturn (x_d C_M_read 90 rfl) ?_
                exact k2 (by rw [hv]; (repeat' split) <;> omega) _ (by omega)
              · refine x_aload_n (x_d C_M_read 67 rfl) rfl ?_
                refine x_aload_n (x_d C_M_read 68 rfl) rfl ?_
                refine x_getfield (v := xI (j21)) (x_d C_M_read 69 rfl) f_M_7 rfl rfl ?_
                refine x_ldcS (i := 56) (x_d C_M_read 70 rfl) rfl ?_
                refine x_invokevirtual (st := []) (av := [xI (j21), xS (113)]) (x_d C_M_read 71 rfl) k_M_34 m_M_isAt1 v_M_isAt1 cl_M rfl rfl (Nat.le_of_ble_eq_true rfl) (by omega) rfl (c_M_isAt1 Z (d - 1) (x_up q 1354 ol) r (x_up A 43 tz) dyn (by omega) X f j21 j21 (si := 56) rfl hf hn hX (by omega)) ?_
                rintro v_ _ ⟨hv_, rfl⟩
                obtain ⟨z_, rfl, hz_⟩ : ∃ z : Int, v_ = some (xI z) ∧ ((z = 1 ∧ 0 ≤ j21 ∧ 0 ≤ s_txt X (f + q 1345) (f + j21) [37, 37, 69, 79, 70]) ∨ (z = 0 ∧ ¬ (0 ≤ j21 ∧ 0 ≤ s_txt X (f + q 1345) (f + j21) [37, 37, 69, 79, 70]))) := ⟨_, hv_, by by_cases c_ : (0 ≤ j21 ∧ 0 ≤ s_txt X (f + q 1345) (f + j21) [37, 37, 69, 79, 70]); exact Or.inl ⟨x_bo_t c_, c_⟩; exact Or.inr ⟨x_bo_f c_, c_⟩⟩
                rw [show f + j21 = ab by omega, ← hef] at hz_
                refine x_if_eq (tgt := 172) (x_d C_M_read 72 rfl) rfl (fun c23 => ?_) (fun c23 => ?_)
                · refine x_iconst (x_d C_M_read 89 rfl) ⟨by omega, by omega⟩ ?_
                  refine x_ireturn (x_d C_M_read 90 rfl) ?_
                  exact k2 (by rw [hv]; (repeat' split) <;> omega) _ (by omega)
                · refine x_aload_n (x_d C_M_read 73 rfl) rfl ?_
                  refine x_getfield (v := xI (j21)) (x_d C_M_read 74 rfl) f_M_7 rfl rfl ?_
                  refine x_bipush (x_d C_M_read 75 rfl) (by omega) ?_
                  refine x_iadd (x_d C_M_read 76 rfl) ⟨by omega, by omega⟩ ?_
                  refine x_aload_n (x_d C_M_read 77 rfl) rfl ?_
                  refine x_getfield (v := xI (q 1345)) (x_d C_M_read 78 rfl) f_M_11 rfl rfl ?_
                  have hxe := hXi (q 1345 - 1)
                  have hBe := hB (f + (q 1345 - 1)).toNat
                  have hb3 : ef = f + (q 1345 - 1) → s_byte X (f + q 1345) ef = X (f + (q 1345 - 1)).toNat % 256 ∨ s_byte X (f + q 1345) ef = -1 := fun e => by rw [e] at b3 ⊢; omega
                  have hfv : fi = if s_byte X (f + q 1345) ef = 10 then ef + 1 else -1 := by rw [hfi]; rfl
                  refine x_icmp_ne (tgt := 172) (x_d C_M_read 79 rfl) rfl (fun c24 => ?_) (fun c24 => ?_)
                  · refine x_iconst (x_d C_M_read 89 rfl) ⟨by omega, by omega⟩ ?_
                    refine x_ireturn (x_d C_M_read 90 rfl) ?_
                    exact k2 (by rw [hv]; (repeat' split) <;> omega) _ (by omega)
                  · refine x_aload_n (x_d C_M_read 80 rfl) rfl ?_
                    refine x_getfield (v := xC 44) (x_d C_M_read 81 rfl) f_M_14 rfl rfl ?_
                    refine x_aload_n (x_d C_M_read 82 rfl) rfl ?_
                    refine x_getfield (v := xI (q 1345)) (x_d C_M_read 83 rfl) f_M_11 rfl rfl ?_
                    refine x_iconst (x_d C_M_read 84 rfl) ⟨by omega, by omega⟩ ?_
                    refine x_isub (x_d C_M_read 85 rfl) ⟨by omega, by omega⟩ ?_
                    refine x_baload (f := A 44) (x_d C_M_read 86 rfl) rfl (by omega) (by omega) ?_
                    refine x_bipush (x_d C_M_read 87 rfl) (by omega) ?_
                    refine x_icmp_eq (tgt := 174) (x_d C_M_read 88 rfl) rfl (fun c25 => ?_) (fun c25 => ?_)
                    · refine x_locs [1, 2, 3, 0] rfl ?_
                      have hle : nu = la := by rw [hv, if_neg (by omega), if_pos (by omega)]
                      rw [hle]
                      exact kk (by omega) (by omega) _ (by omega)
                    · refine x_iconst (x_d C_M_read 89 rfl) ⟨by omega, by omega⟩ ?_
                      refine x_ireturn (x_d C_M_read 90 rfl) ?_
                      exact k2 (by rw [hv]; (repeat' split) <;> omega) _ (by omega)
          · refine x_iconst (x_d C_M_read 56 rfl) ⟨by omega, by omega⟩ ?_
            refine x_ireturn (x_d C_M_read 57 rfl) ?_
            exact k2 (by rw [hv]; (repeat' split) <;> omega) _ (by omega)
      · refine x_iconst (x_d C_M_read 43 rfl) ⟨by omega, by omega⟩ ?_
        refine x_ireturn (x_d C_M_read 44 rfl) ?_
        exact k2 (by rw [hv]; (repeat' split) <;> omega) _ (by omega)
