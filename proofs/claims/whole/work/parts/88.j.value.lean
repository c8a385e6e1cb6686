/-! the reference: an object -/
/-- an object, as the reference reads it -/
def s_rv (b : Nat → Int) (n f : Int) (pl gn us : Nat → Int) (sz k : Int) : Option (List tk) := (s_val b n 8 (s_hd b n f (pl k.toNat) (gn k.toNat) k)).bind (fun y => if lkd y.1 0 = 7 ∧ 0 ≤ s_the b n (s_sc s_white b n y.2) [115, 116, 114, 101, 97, 109] then (if s_es b n (s_rl b n f pl gn us sz y.1) (s_the b n (s_sc s_white b n y.2) [115, 116, 114, 101, 97, 109]) < 0 ∨ s_the b n (s_sc s_white b n (s_es b n (s_rl b n f pl gn us sz y.1) (s_the b n (s_sc s_white b n y.2) [115, 116, 114, 101, 97, 109]))) [101, 110, 100, 111, 98, 106] < 0 then none else some (s_st9 (s_abyte b n (s_the b n (s_sc s_white b n y.2) [115, 116, 114, 101, 97, 109]) 10) (s_rl b n f pl gn us sz y.1) y.1)) else if s_the b n (s_sc s_white b n y.2) [101, 110, 100, 111, 98, 106] < 0 then none else some y.1)
def k_rv (u w : Nat) (b : Nat → Int) (n f : Int) (pl gn us : Nat → Int) (sz k : Int) : Nat := k_val u w b n 8 (s_hd b n f (pl k.toNat) (gn k.toNat) k) + ((s_val b n 8 (s_hd b n f (pl k.toNat) (gn k.toNat) k)).map (fun y => if lkd y.1 0 = 7 ∧ 0 ≤ s_the b n (s_sc s_white b n y.2) [115, 116, 114, 101, 97, 109] then k_st u w b n f pl gn us sz y.1 (s_the b n (s_sc s_white b n y.2) [115, 116, 114, 101, 97, 109]) else 0)).getD 0
theorem c_M_valueAt (Z : xZ) (d : Nat) (q : Nat → Int) (r : Nat → Option Nat) (A : Nat → Nat → Int) (dyn : xH) (hd : 42 ≤ d) (X : Nat → Int) (f j k : Int) (tz : Nat → Int) (g : Nat → Option xE) (cp : Nat) (bt : Option Nat) (tb lt : Int) (tr : Option Nat) (sz : Int) (fis fge fpl : Nat → Int) (fva : Nat → Option Nat) (fch : Nat → Int) (pl gn us : Nat → Int) (hp : PB dyn cp bt tb lt tr sz fis fge fpl fva fch) (hgk : gok g dyn) (hf : 0 ≤ f) (hn : 0 ≤ q 1345 ∧ q 1345 ≤ 4000) (hX : ∀ k : Nat, (k : Int) < q 1345 → A 44 k = X (f.toNat + k)) (hB : ∀ k, -128 ≤ X k ∧ X k ≤ 127) (hj : 0 ≤ j ∧ j ≤ q 1345) (hsz : 0 ≤ sz ∧ sz ≤ 300) (hox : OX sz (q 1345) fis fge fpl pl gn us) (hk : 0 ≤ k ∧ k < sz) (hk2 : fis k.toNat = 2) : xMet Z d Y_M_valueAt [xC 42, xC cp, xI k] (hF (x_up q 1346 j) (x_up r 1344 (some 44)) (x_up A 43 tz) ++ dyn) (fun v h2 => ∃ j2 tk2 ny, h2 = hF (x_up q 1346 j2) (x_up r 1344 (some 44)) (x_up A 43 tk2) ++ (dyn ++ ny) ∧ (0 ≤ j2 ∧ j2 ≤ q 1345) ∧ (∀ u w, mu u w ny ≤ k_rv u w X (f + q 1345) f pl gn us sz k) ∧ ((s_rv X (f + q 1345) f pl gn us sz k = none ∧ v = some xN) ∨ ∃ ts c g2, s_rv X (f + q 1345) f pl gn us sz k = some ts ∧ v = some (xC c) ∧ gle g g2 ∧ gok g2 (dyn ++ ny) ∧ gnw g g2 (52 + dyn.length) ∧ Tr X (f + q 1345) g2 (lP ts) 9 0 c)) := by
  refine xMet_of (by decide) (Nat.le_of_ble_eq_true rfl) (fun v h2 hq => by obtain ⟨_, _, _, _, _, _, ⟨_, e⟩ | ⟨_, _, _, _, e, _⟩⟩ := hq <;> rw [e] <;> trivial) ?_
  have hoxk := (hox k.toNat (by omega)).2 hk2
  obtain ⟨hd0, hhd⟩ : ∃ z, z = s_hd X (f + q 1345) f (pl k.toNat) (gn k.toNat) k := ⟨_, rfl⟩
  obtain ⟨bg, hbg⟩ : ∃ z, z = s_bg X (f + q 1345) f (min (fpl k.toNat) (q 1345)) (fge k.toNat) k := ⟨_, rfl⟩
  have hhb : hd0 = s_sc s_white X (f + q 1345) bg := by rw [hhd, hbg, hoxk.1, hoxk.2.1]; exact s_hd_bg _ _ _ _ _ _
  have hrv0 : s_val X (f + q 1345) 8 hd0 = none → s_rv X (f + q 1345) f pl gn us sz k = none := fun h => by unfold s_rv; rw [← hhd, h]; rfl
  have hkz : ∀ u w, mu u w [] ≤ k_rv u w X (f + q 1345) f pl gn us sz k := fun u w => Nat.zero_le _
  have hkv : ∀ u w, k_val u w X (f + q 1345) 8 hd0 ≤ k_rv u w X (f + q 1345) f pl gn us sz k := fun u w => by unfold k_rv; rw [← hhd]; exact Nat.le_add_right _ _
  refine x_aload_n (x_d C_M_valueAt 0 rfl) rfl ?_
  refine x_aload_n (x_d C_M_valueAt 1 rfl) rfl ?_
  refine x_iload_n (x_d C_M_valueAt 2 rfl) rfl ?_
  refine x_invokevirtual (st := []) (av := [xC cp, xI k]) (x_d C_M_valueAt 3 rfl) k_M_293 m_M_begin v_M_begin cl_M rfl rfl (Nat.le_of_ble_eq_true rfl) (by omega) rfl (c_M_begin Z (d - 1) q r A dyn (by omega) X f j k tz cp bt tb lt tr sz fis fge fpl fva fch hp hf hn hX hB hj (by omega) (by omega)) ?_
  rintro v_ h_ ⟨z, j2, rfl, rfl, hj2, hz⟩
  rw [← hbg] at hz
  refine x_if_ne (tgt := 11) (x_d C_M_valueAt 4 rfl) rfl (fun c101 => ?_) (fun c101 => ?_)
  · refine x_aload_n (x_d C_M_valueAt 7 rfl) rfl ?_
    refine x_iconst (x_d C_M_valueAt 8 rfl) ⟨by omega, by omega⟩ ?_
    refine x_invokevirtual (st := []) (av := [xI 0]) (x_d C_M_valueAt 9 rfl) k_M_148 m_M_object v_M_object cl_M rfl rfl (Nat.le_of_ble_eq_true rfl) (by omega) rfl (OD_all Z q r A X f hf hn hX hB 8 (by omega) (d - 1) dyn g j2 tz 0 (by omega) hgk (by omega) hj2) ?_
    rw [show f + j2 = bg by omega, ← hhb]
    rintro v_ h_ ⟨j8, tk8, ny, rfl, hj8, hmu8, hr_⟩
    rcases hr_ with ⟨hs, rfl⟩ | ⟨ts, e2, c, g2, hs, rfl, he2, q1, q2, q3, q4, -⟩
    · refine x_astore_n (l1 := [(3, xN), (0, xC 42), (1, xC cp), (2, xI (k))]) (x_d C_M_valueAt 10 rfl) (by decide) rfl ?_
      refine x_aload_n (x_d C_M_valueAt 11 rfl) rfl ?_
      refine x_ifnonnullN (tgt := 23) (x_d C_M_valueAt 12 rfl) rfl ?_
      refine x_null (x_d C_M_valueAt 13 rfl) ?_
      refine x_areturn (x_d C_M_valueAt 14 rfl) ?_
      exact ⟨j8, tk8, ny, rfl, hj8, fun u w => Nat.le_trans (hmu8 u w) (hkv u w), Or.inl ⟨hrv0 hs, rfl⟩⟩
    · have hp2 := PB_app hp ny
      have hts0 := s_bh_0 hB hs
      obtain ⟨-, x4, y4, m4, bt4, it4, nm4, hc4, htl4, -⟩ := Tr_o q4
      obtain ⟨w2, hw2⟩ : ∃ z, z = s_sc s_white X (f + q 1345) e2 := ⟨_, rfl⟩
      have hrv : s_rv X (f + q 1345) f pl gn us sz k = if lkd ts 0 = 7 ∧ 0 ≤ s_the X (f + q 1345) w2 [115, 116, 114, 101, 97, 109] then (if s_es X (f + q 1345) (s_rl X (f + q 1345) f pl gn us sz ts) (s_the X (f + q 1345) w2 [115, 116, 114, 101, 97, 109]) < 0 ∨ s_the X (f + q 1345) (s_sc s_white X (f + q 1345) (s_es X (f + q 1345) (s_rl X (f + q 1345) f pl gn us sz ts) (s_the X (f + q 1345) w2 [115, 116, 114, 101, 97, 109]))) [101, 110, 100, 111, 98, 106] < 0 then none else some (s_st9 (s_abyte X (f + q 1345) (s_the X (f + q 1345) w2 [115, 116, 114, 101, 97, 109]) 10) (s_rl X (f + q 1345) f pl gn us sz ts) ts)) else if s_the X (f + q 1345) w2 [101, 110, 100, 111, 98, 106] < 0 then none else some ts := by unfold s_rv; rw [← hhd, hs, Option.bind_some]; rw [hw2]
      have hkk : ∀ u w, k_rv u w X (f + q 1345) f pl gn us sz k = k_val u w X (f + q 1345) 8 hd0 + if lkd ts 0 = 7 ∧ 0 ≤ s_the X (f + q 1345) w2 [115, 116, 114, 101, 97, 109] then k_st u w X (f + q 1345) f pl gn us sz ts (s_the X (f + q 1345) w2 [115, 116, 114, 101, 97, 109]) else 0 := fun u w => by unfold k_rv; rw [← hhd, hs, hw2]; rfl
      have hk0 : lP ts 5 (0 : Int).toNat = lkd ts 0 := rfl
      obtain ⟨sw, hsw⟩ : ∃ z, z = s_the X (f + q 1345) w2 [115, 116, 114, 101, 97, 109] := ⟨_, rfl⟩
      rw [← hsw] at hrv hkk
      refine x_astore_n (l1 := [(3, xC c), (0, xC 42), (1, xC cp), (2, xI (k))]) (x_d C_M_valueAt 10 rfl) (by decide) rfl ?_
      refine x_aload_n (x_d C_M_valueAt 11 rfl) rfl ?_
      refine x_ifnonnullC (tgt := 23) (x_d C_M_valueAt 12 rfl) rfl ?_
      refine x_aload_n (x_d C_M_valueAt 15 rfl) rfl ?_
      refine x_invokevirtual (st := []) (av := []) (x_d C_M_valueAt 16 rfl) k_M_59 m_M_white v_M_white cl_M rfl rfl (Nat.le_of_ble_eq_true rfl) (by omega) rfl (c_M_white Z (d - 1) q r (x_up A 43 tk8) (dyn ++ ny) (by omega) X f j8 hf hn hX (by omega)) ?_
      rintro _ h_ ⟨rfl, hh_⟩
      obtain ⟨j203, hj203⟩ : ∃ z, z = s_sc s_white X (f + q 1345) (f + j8) - f := ⟨_, rfl⟩
      rw [← hj203] at hh_
      subst hh_
      have hj203a := s_sc_ge s_white X (f + q 1345) (f + j8)
      have hj203b := s_sc_le s_white X (n := (f + q 1345)) (t := f + j8) (by omega)
      rw [show f + j8 = e2 by omega, ← hw2] at hj203 hj203a hj203b
      refine x_aload_n (x_d C_M_valueAt 17 rfl) rfl ?_
      refine x_getfield (v := xI (lP ts 5 (0 : Int).toNat)) (x_d C_M_valueAt 18 rfl) f_M_261 (ct_get (q2 _ _ hc4) _ _ _) rfl ?_
      refine x_bipush (x_d C_M_valueAt 19 rfl) (by omega) ?_
      refine x_icmp_ne (tgt := 75) (x_d C_M_valueAt 20 rfl) rfl (fun c204 => ?_) (fun c204 => ?_)
      · refine x_aload_n (x_d C_M_valueAt 42 rfl) rfl ?_
        refine x_ldcSw (i := 70) (x_d C_M_valueAt 43 rfl) rfl ?_
        refine x_invokevirtual (st := []) (av := [xS (141)]) (x_d C_M_valueAt 44 rfl) k_M_103 m_M_takeWord v_M_takeWord cl_M rfl rfl (Nat.le_of_ble_eq_true rfl) (by omega) rfl (c_M_takeWord Z (d - 1) q r (x_up A 43 tk8) (dyn ++ ny) (by omega) X f j203 (si := 70) rfl hf hn hX (by omega) (by decide)) ?_
        rintro v_ _ ⟨z205, j205, rfl, rfl, hz205⟩
        have hz205 : (z205 = 1 ∧ 0 ≤ s_the X (f + q 1345) (f + j203) [101, 110, 100, 111, 98, 106] ∧ j205 = s_the X (f + q 1345) (f + j203) [101, 110, 100, 111, 98, 106] - f) ∨ (z205 = 0 ∧ s_the X (f + q 1345) (f + j203) [101, 110, 100, 111, 98, 106] < 0 ∧ j205 = j203) := hz205
        have hti205 := s_the_in X (f + q 1345) (f + j203) [101, 110, 100, 111, 98, 106]
        simp only [List.length_cons, List.length_nil] at hti205
        rw [show f + j203 = w2 by omega] at hz205 hti205
        refine x_if_eq (tgt := 89) (x_d C_M_valueAt 45 rfl) rfl (fun c206 => ?_) (fun c206 => ?_)
        · refine x_null (x_d C_M_valueAt 48 rfl) ?_
          refine x_areturn (x_d C_M_valueAt 49 rfl) ?_
          refine ⟨_, tk8, ny, rfl, by omega, fun u w => Nat.le_trans (hmu8 u w) (hkv u w), Or.inl ⟨?_, rfl⟩⟩
          rw [hrv, if_neg (by omega), if_pos (by omega)]
        · refine x_aload_n (x_d C_M_valueAt 46 rfl) rfl ?_
          refine x_goto (tgt := 90) (x_d C_M_valueAt 47 rfl) rfl ?_
          refine x_areturn (x_d C_M_valueAt 49 rfl) ?_
          refine ⟨_, tk8, ny, rfl, by omega, fun u w => Nat.le_trans (hmu8 u w) (hkv u w), Or.inr ⟨ts, c, g2, ?_, rfl, q1, q2, q3, q4⟩⟩
          rw [hrv, if_neg (by omega), if_neg (by omega)]
      · refine x_aload_n (x_d C_M_valueAt 21 rfl) rfl ?_
        refine x_aload_n (x_d C_M_valueAt 22 rfl) rfl ?_
        refine x_getfield (v := xI (j203)) (x_d C_M_valueAt 23 rfl) f_M_7 rfl rfl ?_
        refine x_aload_n (x_d C_M_valueAt 24 rfl) rfl ?_
        refine x_aload_n (x_d C_M_valueAt 25 rfl) rfl ?_
        refine x_getfield (v := xI (j203)) (x_d C_M_valueAt 26 rfl) f_M_7 rfl rfl ?_
        refine x_invokevirtual (st := [xI (j203), xC 42]) (av := [xI (j203)]) (x_d C_M_valueAt 27 rfl) k_M_38 m_M_wordEnd v_M_wordEnd cl_M rfl rfl (Nat.le_of_ble_eq_true rfl) (by omega) rfl (c_M_wordEnd Z (d - 1) q r (x_up A 43 tk8) (dyn ++ ny) (by omega) X f j203 j203 hf hn hX (by omega)) ?_
        rintro v_ _ ⟨hv_, rfl⟩
        obtain rfl : v_ = some (xI (s_sc s_reg X (f + q 1345) (f + j203) - f)) := hv_
        have hwg_ := s_sc_ge s_reg X (f + q 1345) (f + j203)
        have hwl_ := s_sc_le s_reg X (n := (f + q 1345)) (t := f + j203) (by omega)
        refine x_ldcSw (i := 67) (x_d C_M_valueAt 28 rfl) rfl ?_
        refine x_invokevirtual (st := []) (av := [xI (j203), xI (s_sc s_reg X (f + q 1345) (f + j203) - f), xS (135)]) (x_d C_M_valueAt 29 rfl) k_M_42 m_M_isWord v_M_isWord cl_M rfl rfl (Nat.le_of_ble_eq_true rfl) (by omega) rfl (c_M_isWord Z (d - 1) q r (x_up A 43 tk8) (dyn ++ ny) (by omega) X f j203 j203 (s_sc s_reg X (f + q 1345) (f + j203) - f) (si := 67) rfl hf hn hX (by omega)) ?_
        rintro v_ _ ⟨hv_, rfl⟩
        obtain ⟨z_, rfl, hz_⟩ : ∃ z : Int, v_ = some (xI z) ∧ ((z = 1 ∧ ((s_sc s_reg X (f + q 1345) (f + j203) - f) - j203 = 6 ∧ 0 ≤ j203 ∧ 0 ≤ s_txt X (f + q 1345) (f + j203) [115, 116, 114, 101, 97, 109])) ∨ (z = 0 ∧ ¬ ((s_sc s_reg X (f + q 1345) (f + j203) - f) - j203 = 6 ∧ 0 ≤ j203 ∧ 0 ≤ s_txt X (f + q 1345) (f + j203) [115, 116, 114, 101, 97, 109]))) := ⟨_, hv_, by by_cases c_ : ((s_sc s_reg X (f + q 1345) (f + j203) - f) - j203 = ([115, 116, 114, 101, 97, 109] : List Int).length ∧ 0 ≤ j203 ∧ 0 ≤ s_txt X (f + q 1345) (f + j203) [115, 116, 114, 101, 97, 109]); exact Or.inl ⟨x_bo_t c_, c_⟩; exact Or.inr ⟨x_bo_f c_, c_⟩⟩
        have hiw := s_the_word (b := X) (n := (f + q 1345)) (p := w2) (cs := [115, 116, 114, 101, 97, 109]) (by omega) (by decide)
        simp only [List.length_cons, List.length_nil] at hiw
        rw [← hsw] at hiw
        rw [show f + j203 = w2 by omega] at hz_
        refine x_if_eq (tgt := 75) (x_d C_M_valueAt 30 rfl) rfl (fun c207 => ?_) (fun c207 => ?_)
        · refine x_aload_n (x_d C_M_valueAt 42 rfl) rfl ?_
          refine x_ldcSw (i := 70) (x_d C_M_valueAt 43 rfl) rfl ?_
          refine x_invokevirtual (st := []) (av := [xS (141)]) (x_d C_M_valueAt 44 rfl) k_M_103 m_M_takeWord v_M_takeWord cl_M rfl rfl (Nat.le_of_ble_eq_true rfl) (by omega) rfl (c_M_takeWord Z (d - 1) q r (x_up A 43 tk8) (dyn ++ ny) (by omega) X f j203 (si := 70) rfl hf hn hX (by omega) (by decide)) ?_
          rintro v_ _ ⟨z208, j208, rfl, rfl, hz208⟩
          have hz208 : (z208 = 1 ∧ 0 ≤ s_the X (f + q 1345) (f + j203) [101, 110, 100, 111, 98, 106] ∧ j208 = s_the X (f + q 1345) (f + j203) [101, 110, 100, 111, 98, 106] - f) ∨ (z208 = 0 ∧ s_the X (f + q 1345) (f + j203) [101, 110, 100, 111, 98, 106] < 0 ∧ j208 = j203) := hz208
          have hti208 := s_the_in X (f + q 1345) (f + j203) [101, 110, 100, 111, 98, 106]
          simp only [List.length_cons, List.length_nil] at hti208
          rw [show f + j203 = w2 by omega] at hz208 hti208
          refine x_if_eq (tgt := 89) (x_d C_M_valueAt 45 rfl) rfl (fun c209 => ?_) (fun c209 => ?_)
          · refine x_null (x_d C_M_valueAt 48 rfl) ?_
            refine x_areturn (x_d C_M_valueAt 49 rfl) ?_
            refine ⟨_, tk8, ny, rfl, by omega, fun u w => Nat.le_trans (hmu8 u w) (hkv u w), Or.inl ⟨?_, rfl⟩⟩
            rw [hrv, if_neg (by omega), if_pos (by omega)]
          · refine x_aload_n (x_d C_M_valueAt 46 rfl) rfl ?_
            refine x_goto (tgt := 90) (x_d C_M_valueAt 47 rfl) rfl ?_
            refine x_areturn (x_d C_M_valueAt 49 rfl) ?_
            refine ⟨_, tk8, ny, rfl, by omega, fun u w => Nat.le_trans (hmu8 u w) (hkv u w), Or.inr ⟨ts, c, g2, ?_, rfl, q1, q2, q3, q4⟩⟩
            rw [hrv, if_neg (by omega), if_neg (by omega)]
        · refine x_aload_n (x_d C_M_valueAt 31 rfl) rfl ?_
          refine x_aload_n (x_d C_M_valueAt 32 rfl) rfl ?_
          refine x_aload_n (x_d C_M_valueAt 33 rfl) rfl ?_
          refine x_invokevirtual (st := []) (av := [xC cp, xC c]) (x_d C_M_valueAt 34 rfl) k_M_298 m_M_stream v_M_stream cl_M rfl rfl (Nat.le_of_ble_eq_true rfl) (by omega) rfl (c_M_stream Z (d - 1) q r A (dyn ++ ny) (by omega) X f j203 tk8 g2 cp bt tb lt tr sz fis fge fpl fva fch pl gn us ts c hp2 q2 hf hn hX hB (by omega) hsz hox q4 hts0.2 (by omega) (by rw [show f + j203 = w2 by omega, ← hsw]; omega)) ?_
          rw [show f + j203 = w2 by omega, ← hsw]
          rintro v_ h_ ⟨j9, tk9, ny9, rfl, hj9, hmu9, hr9⟩
          have hmuA : ∀ u w, mu u w (ny ++ ny9) ≤ k_rv u w X (f + q 1345) f pl gn us sz k := fun u w => by
            have a1 : mu u w ny ≤ k_val u w X (f + q 1345) 8 hd0 := hmu8 u w
            have a2 := hmu9 u w
            have a3 := mu_app u w ny ny9
            have a4 := hkk u w
            rw [if_pos (by omega)] at a4
            omega
          rw [if_pos (by omega)] at hrv
          obtain ⟨es, hes⟩ : ∃ z, z = s_es X (f + q 1345) (s_rl X (f + q 1345) f pl gn us sz ts) sw := ⟨_, rfl⟩
          rw [← hes] at hrv hr9
          rcases hr9 with ⟨hs9, rfl⟩ | ⟨c9, g9, hs9, rfl, he9, p1, p2, p3, p4⟩
          · refine x_astore_n (l1 := [(3, xN), (0, xC 42), (1, xC cp), (2, xI (k))]) (x_d C_M_valueAt 35 rfl) (by decide) rfl ?_
            refine x_aload_n (x_d C_M_valueAt 36 rfl) rfl ?_
            refine x_ifnonnullN (tgt := 71) (x_d C_M_valueAt 37 rfl) rfl ?_
            refine x_null (x_d C_M_valueAt 38 rfl) ?_
            refine x_areturn (x_d C_M_valueAt 39 rfl) ?_
            exact ⟨j9, tk9, ny ++ ny9, by rw [List.append_assoc], hj9, hmuA, Or.inl ⟨by rw [hrv, if_pos (by omega)], rfl⟩⟩
          · obtain ⟨w9, hw9⟩ : ∃ z, z = s_sc s_white X (f + q 1345) es := ⟨_, rfl⟩
            rw [← hw9] at hrv
            refine x_astore_n (l1 := [(3, xC c9), (0, xC 42), (1, xC cp), (2, xI (k))]) (x_d C_M_valueAt 35 rfl) (by decide) rfl ?_
            refine x_aload_n (x_d C_M_valueAt 36 rfl) rfl ?_
            refine x_ifnonnullC (tgt := 71) (x_d C_M_valueAt 37 rfl) rfl ?_
            refine x_aload_n (x_d C_M_valueAt 40 rfl) rfl ?_
            refine x_invokevirtual (st := []) (av := []) (x_d C_M_valueAt 41 rfl) k_M_59 m_M_white v_M_white cl_M rfl rfl (Nat.le_of_ble_eq_true rfl) (by omega) rfl (c_M_white Z (d - 1) q r (x_up A 43 tk9) ((dyn ++ ny) ++ ny9) (by omega) X f j9 hf hn hX (by omega)) ?_
            rintro _ h_ ⟨rfl, hh_⟩
            obtain ⟨j311, hj311⟩ : ∃ z, z = s_sc s_white X (f + q 1345) (f + j9) - f := ⟨_, rfl⟩
            rw [← hj311] at hh_
            subst hh_
            have hj311a := s_sc_ge s_white X (f + q 1345) (f + j9)
            have hj311b := s_sc_le s_white X (n := (f + q 1345)) (t := f + j9) (by omega)
            rw [show f + j9 = es by omega] at hj311 hj311a hj311b
            refine x_aload_n (x_d C_M_valueAt 42 rfl) rfl ?_
            refine x_ldcSw (i := 70) (x_d C_M_valueAt 43 rfl) rfl ?_
            refine x_invokevirtual (st := []) (av := [xS (141)]) (x_d C_M_valueAt 44 rfl) k_M_103 m_M_takeWord v_M_takeWord cl_M rfl rfl (Nat.le_of_ble_eq_true rfl) (by omega) rfl (c_M_takeWord Z (d - 1) q r (x_up A 43 tk9) ((dyn ++ ny) ++ ny9) (by omega) X f j311 (si := 70) rfl hf hn hX (by omega) (by decide)) ?_
            rintro v_ _ ⟨z312, j312, rfl, rfl, hz312⟩
            have hz312 : (z312 = 1 ∧ 0 ≤ s_the X (f + q 1345) (f + j311) [101, 110, 100, 111, 98, 106] ∧ j312 = s_the X (f + q 1345) (f + j311) [101, 110, 100, 111, 98, 106] - f) ∨ (z312 = 0 ∧ s_the X (f + q 1345) (f + j311) [101, 110, 100, 111, 98, 106] < 0 ∧ j312 = j311) := hz312
            have hti312 := s_the_in X (f + q 1345) (f + j311) [101, 110, 100, 111, 98, 106]
            simp only [List.length_cons, List.length_nil] at hti312
            rw [show f + j311 = w9 by omega] at hz312 hti312
            refine x_if_eq (tgt := 89) (x_d C_M_valueAt 45 rfl) rfl (fun c313 => ?_) (fun c313 => ?_)
            · refine x_null (x_d C_M_valueAt 48 rfl) ?_
              refine x_areturn (x_d C_M_valueAt 49 rfl) ?_
              exact ⟨_, tk9, ny ++ ny9, by rw [List.append_assoc], by omega, hmuA, Or.inl ⟨by rw [hrv, if_pos (by omega)], rfl⟩⟩
            · refine x_aload_n (x_d C_M_valueAt 46 rfl) rfl ?_
              refine x_goto (tgt := 90) (x_d C_M_valueAt 47 rfl) rfl ?_
              refine x_areturn (x_d C_M_valueAt 49 rfl) ?_
              refine ⟨_, tk9, ny ++ ny9, by rw [List.append_assoc], by omega, hmuA, Or.inr ⟨_, c9, g9, by rw [hrv, if_neg (by omega)], rfl, gle_tr q1 p1, ?_, ?_, p4⟩⟩
              · rw [← List.append_assoc]; exact p2
              · intro k9 hk9 z9
                exact p3 k9 (by rw [List.length_append]; omega) (q3 k9 hk9 z9)
  · refine x_null (x_d C_M_valueAt 5 rfl) ?_
    refine x_areturn (x_d C_M_valueAt 6 rfl) ?_
    have hneg : hd0 < 0 := by rw [hhb, s_sc_stop (Or.inl (by omega))]; omega
    have hvn : s_val X (f + q 1345) 8 hd0 = none := by
      cases hv : s_val X (f + q 1345) 8 hd0 with
      | none => rfl
      | some y => have := s_val_ok X hB _ 8 _ y.1 y.2 hv; omega
    exact ⟨j2, tz, [], by rw [List.append_nil], hj2, hkz, Or.inl ⟨hrv0 hvn, rfl⟩⟩
