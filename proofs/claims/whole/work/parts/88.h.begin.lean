/-! the reference: where an object begins, how long a stream is -/
/-- behind the words that begin an object -/
def s_bg (b : Nat → Int) (n f pl gn k : Int) : Int := if ¬ s_num b n (f + pl) = k ∨ ¬ s_num b n (s_hg b n f pl) = gn then -1 else s_the b n (s_abyte b n (s_wd b n (s_hg b n f pl)) 32) [111, 98, 106]
theorem s_hd_bg (b : Nat → Int) (n f pl gn k : Int) : s_hd b n f pl gn k = s_sc s_white b n (s_bg b n f pl gn k) := by
  unfold s_hd s_bg
  split
  · exact (s_sc_stop (Or.inl (by omega))).symm
  · rfl
/-- the entries of a file that has been opened, against the reference's -/
def OX (sz N : Int) (fis fge fpl pl gn us : Nat → Int) : Prop := ∀ k : Nat, (k : Int) < sz → (fis k = 2 ↔ ¬ us k = 0) ∧ (fis k = 2 → gn k = fge k ∧ pl k = min (fpl k) N ∧ 0 ≤ fpl k ∧ 0 ≤ fge k)
/-- the length of a stream, read again -/
def s_rl (b : Nat → Int) (n f : Int) (pl gn us : Nat → Int) (sz : Int) (ts : List tk) : Int := if s_lnj b n ts < 0 then -1 else if s_ldt (lkd ts) (lon ts) (ltw ts) gn us sz (s_lnj b n ts) < 0 then (if lkd ts (s_lnj b n ts).toNat = 3 then lon ts (s_lnj b n ts).toNat else -1) else ((s_val b n 8 (s_hd b n f (pl (s_ldt (lkd ts) (lon ts) (ltw ts) gn us sz (s_lnj b n ts)).toNat) (gn (s_ldt (lkd ts) (lon ts) (ltw ts) gn us sz (s_lnj b n ts)).toNat) (s_ldt (lkd ts) (lon ts) (ltw ts) gn us sz (s_lnj b n ts)))).map (fun y => if lkd y.1 0 = 3 then lon y.1 0 else -1)).getD (-1)
def k_rl (u w : Nat) (b : Nat → Int) (n f : Int) (pl gn us : Nat → Int) (sz : Int) (ts : List tk) : Nat := if s_lnj b n ts < 0 then 0 else if s_ldt (lkd ts) (lon ts) (ltw ts) gn us sz (s_lnj b n ts) < 0 then 0 else k_val u w b n 8 (s_hd b n f (pl (s_ldt (lkd ts) (lon ts) (ltw ts) gn us sz (s_lnj b n ts)).toNat) (gn (s_ldt (lkd ts) (lon ts) (ltw ts) gn us sz (s_lnj b n ts)).toNat) (s_ldt (lkd ts) (lon ts) (ltw ts) gn us sz (s_lnj b n ts)))
theorem c_M_begin (Z : xZ) (d : Nat) (q : Nat → Int) (r : Nat → Option Nat) (A : Nat → Nat → Int) (dyn : xH) (hd : 7 ≤ d) (X : Nat → Int) (f j k : Int) (tz : Nat → Int) (cp : Nat) (bt : Option Nat) (tb lt : Int) (tr : Option Nat) (sz : Int) (fis fge fpl : Nat → Int) (fva : Nat → Option Nat) (fch : Nat → Int) (hp : PB dyn cp bt tb lt tr sz fis fge fpl fva fch) (hf : 0 ≤ f) (hn : 0 ≤ q 1345 ∧ q 1345 ≤ 4000) (hX : ∀ k : Nat, (k : Int) < q 1345 → A 44 k = X (f.toNat + k)) (hB : ∀ k, -128 ≤ X k ∧ X k ≤ 127) (hj : 0 ≤ j ∧ j ≤ q 1345) (hk : 0 ≤ k ∧ k < 300) (hkk : 0 ≤ fpl k.toNat ∧ 0 ≤ fge k.toNat) : xMet Z d Y_M_begin [xC 42, xC cp, xI k] (hF (x_up q 1346 j) (x_up r 1344 (some 44)) (x_up A 43 tz) ++ dyn) (fun v h2 => ∃ z j2, v = some (xI z) ∧ h2 = hF (x_up q 1346 j2) (x_up r 1344 (some 44)) (x_up A 43 tz) ++ dyn ∧ (0 ≤ j2 ∧ j2 ≤ q 1345) ∧ ((z = 1 ∧ 0 ≤ s_bg X (f + q 1345) f (min (fpl k.toNat) (q 1345)) (fge k.toNat) k ∧ f + j2 = s_bg X (f + q 1345) f (min (fpl k.toNat) (q 1345)) (fge k.toNat) k) ∨ (z = 0 ∧ s_bg X (f + q 1345) f (min (fpl k.toNat) (q 1345)) (fge k.toNat) k < 0))) := by
  refine xMet_of (by decide) (Nat.le_of_ble_eq_true rfl) (fun v h2 hq => by obtain ⟨z, _, e, _, _, ⟨e2, _⟩ | ⟨e2, _⟩⟩ := hq <;> rw [e, e2]; exact Or.inr rfl; exact Or.inl rfl) ?_
  have hlc : (x_lc (fpl k.toNat) (q 1345) < 0 ∧ fpl k.toNat < q 1345) ∨ (0 ≤ x_lc (fpl k.toNat) (q 1345) ∧ q 1345 ≤ fpl k.toNat) := by unfold x_lc; (repeat' split) <;> omega
  obtain ⟨n1, hn1⟩ : ∃ z, z = s_num X (f + q 1345) (f + (min (fpl k.toNat) (q 1345))) := ⟨_, rfl⟩
  obtain ⟨p1, hp1⟩ : ∃ z, z = s_wd X (f + q 1345) (f + (min (fpl k.toNat) (q 1345))) := ⟨_, rfl⟩
  obtain ⟨w1, hw1⟩ : ∃ z, z = s_abyte X (f + q 1345) p1 32 := ⟨_, rfl⟩
  obtain ⟨n2, hn2⟩ : ∃ z, z = s_num X (f + q 1345) w1 := ⟨_, rfl⟩
  obtain ⟨p2, hp2⟩ : ∃ z, z = s_wd X (f + q 1345) w1 := ⟨_, rfl⟩
  obtain ⟨w2, hw2⟩ : ∃ z, z = s_abyte X (f + q 1345) p2 32 := ⟨_, rfl⟩
  obtain ⟨e1, he1⟩ : ∃ z, z = s_the X (f + q 1345) w2 [111, 98, 106] := ⟨_, rfl⟩
  have hbg : s_bg X (f + q 1345) f (min (fpl k.toNat) (q 1345)) (fge k.toNat) k = if ¬ n1 = k ∨ ¬ n2 = fge k.toNat then -1 else e1 := by unfold s_bg s_hg; rw [← hn1, ← hp1, ← hw1, ← hn2, ← hp2, ← hw2, ← he1]
  rw [hbg]
  have hwd1 := s_wd_in X (f + q 1345) (f + (min (fpl k.toNat) (q 1345)))
  have hwd2 := s_wd_in X (f + q 1345) w1
  rw [← hp1] at hwd1
  rw [← hp2] at hwd2
  have hnn1 := s_num_in X (f + q 1345) (f + (min (fpl k.toNat) (q 1345)))
  have hnn2 := s_num_in X (f + q 1345) w1
  rw [← hn1, ← hp1] at hnn1
  rw [← hn2, ← hp2] at hnn2
  have ha1 := s_abyte_in X (f + q 1345) p1 32
  have ha2 := s_abyte_in X (f + q 1345) p2 32
  rw [← hw1] at ha1
  rw [← hw2] at ha2
  have hti := s_the_in X (f + q 1345) w2 [111, 98, 106]
  rw [← he1] at hti
  simp only [List.length_cons, List.length_nil] at hti
  refine x_aload_n (x_d C_M_begin 0 rfl) rfl ?_
  refine x_getfield (v := xC (cp + 3)) (x_d C_M_begin 1 rfl) f_M_274 (ct_get hp.1 _ _ _) rfl ?_
  refine x_iload_n (x_d C_M_begin 2 rfl) rfl ?_
  refine x_laload (f := fpl) (x_d C_M_begin 3 rfl) (ct_get hp.2.2.2.1 _ _ _) (by omega) (by omega) ?_
  refine x_aload_n (x_d C_M_begin 4 rfl) rfl ?_
  refine x_getfield (v := xI (q 1345)) (x_d C_M_begin 5 rfl) f_M_11 rfl rfl ?_
  refine x_i2l (x_d C_M_begin 6 rfl) ?_
  refine x_lcmp (x_d C_M_begin 7 rfl) ?_
  refine x_if_lt (tgt := 17) (x_d C_M_begin 8 rfl) rfl (fun c1 => ?_) (fun c1 => ?_)
  · refine x_aload_n (x_d C_M_begin 11 rfl) rfl ?_
    refine x_aload_n (x_d C_M_begin 12 rfl) rfl ?_
    refine x_getfield (v := xC (cp + 3)) (x_d C_M_begin 13 rfl) f_M_274 (ct_get hp.1 _ _ _) rfl ?_
    refine x_iload_n (x_d C_M_begin 14 rfl) rfl ?_
    refine x_laload (f := fpl) (x_d C_M_begin 15 rfl) (ct_get hp.2.2.2.1 _ _ _) (by omega) (by omega) ?_
    refine x_l2i (x_d C_M_begin 16 rfl) ⟨by omega, by omega⟩ ?_
    refine x_putfield (h1 := hF (x_up q 1346 (fpl (k).toNat)) (x_up r 1344 (some 44)) (x_up A 43 tz) ++ dyn) (x_d C_M_begin 17 rfl) p_M_7 rfl rfl rfl trivial rfl ?_
    refine x_aload_n (x_d C_M_begin 18 rfl) rfl ?_
    refine x_invokevirtual (st := []) (av := []) (x_d C_M_begin 19 rfl) k_M_98 m_M_takeNumber v_M_takeNumber cl_M rfl rfl (Nat.le_of_ble_eq_true rfl) (by omega) rfl (c_M_takeNumber Z (d - 1) q r (x_up A 43 tz) dyn (by omega) X f (fpl (k).toNat) hf hn hX (by omega)) ?_
    rintro v_ _ ⟨j2, hv_, rfl, hz2⟩
    have hz2 : (0 ≤ s_num X (f + q 1345) (f + (fpl (k).toNat)) ∧ j2 = s_wd X (f + q 1345) (f + (fpl (k).toNat)) - f) ∨ (s_num X (f + q 1345) (f + (fpl (k).toNat)) < 0 ∧ j2 = fpl (k).toNat) := hz2
    have hv_ : v_ = some (xI (s_num X (f + q 1345) (f + (fpl (k).toNat)))) := hv_
    have hps2 : f + (fpl (k).toNat) = (f + (min (fpl k.toNat) (q 1345))) := by omega
    rw [hps2, ← hn1, ← hp1] at hz2
    rw [hps2, ← hn1] at hv_
    obtain rfl := hv_
    refine x_iload_n (x_d C_M_begin 20 rfl) rfl ?_
    refine x_icmp_ne (tgt := 81) (x_d C_M_begin 21 rfl) rfl (fun c3 => ?_) (fun c3 => ?_)
    · refine x_iconst (x_d C_M_begin 43 rfl) ⟨by omega, by omega⟩ ?_
      refine x_ireturn (x_d C_M_begin 44 rfl) ?_
      refine ⟨0, _, rfl, rfl, by omega, Or.inr ⟨rfl, ?_⟩⟩
      split <;> omega
    · refine x_aload_n (x_d C_M_begin 22 rfl) rfl ?_
      refine x_bipush (x_d C_M_begin 23 rfl) (by omega) ?_
      refine x_invokevirtual (st := []) (av := [xI (32)]) (x_d C_M_begin 24 rfl) k_M_132 m_M_takeByte v_M_takeByte cl_M rfl rfl (Nat.le_of_ble_eq_true rfl) (by omega) rfl (c_M_takeByte Z (d - 1) q r (x_up A 43 tz) dyn X f j2 32 hf hn hX (by omega) hB (by omega)) ?_
      rintro v_ _ ⟨z4, j4, rfl, rfl, hz4⟩
      have hz4 : (z4 = 1 ∧ s_byte X (f + q 1345) (f + j2) = 32 ∧ j4 = j2 + 1 ∧ j2 < q 1345) ∨ (z4 = 0 ∧ ¬ s_byte X (f + q 1345) (f + j2) = 32 ∧ j4 = j2) := hz4
      have hsv4 : w1 = if s_byte X (f + q 1345) (f + j2) = 32 then p1 + 1 else -1 := by rw [hw1, show f + j2 = p1 by omega]; rfl
      refine x_if_eq (tgt := 81) (x_d C_M_begin 25 rfl) rfl (fun c5 => ?_) (fun c5 => ?_)
      · refine x_iconst (x_d C_M_begin 43 rfl) ⟨by omega, by omega⟩ ?_
        refine x_ireturn (x_d C_M_begin 44 rfl) ?_
        refine ⟨0, _, rfl, rfl, by omega, Or.inr ⟨rfl, ?_⟩⟩
        split <;> omega
      · refine x_aload_n (x_d C_M_begin 26 rfl) rfl ?_
        refine x_invokevirtual (st := []) (av := []) (x_d C_M_begin 27 rfl) k_M_98 m_M_takeNumber v_M_takeNumber cl_M rfl rfl (Nat.le_of_ble_eq_true rfl) (by omega) rfl (c_M_takeNumber Z (d - 1) q r (x_up A 43 tz) dyn (by omega) X f j4 hf hn hX (by omega)) ?_
        rintro v_ _ ⟨j6, hv_, rfl, hz6⟩
        have hz6 : (0 ≤ s_num X (f + q 1345) (f + j4) ∧ j6 = s_wd X (f + q 1345) (f + j4) - f) ∨ (s_num X (f + q 1345) (f + j4) < 0 ∧ j6 = j4) := hz6
        have hv_ : v_ = some (xI (s_num X (f + q 1345) (f + j4))) := hv_
        have hps6 : f + j4 = w1 := by omega
        rw [hps6, ← hn2, ← hp2] at hz6
        rw [hps6, ← hn2] at hv_
        obtain rfl := hv_
        refine x_aload_n (x_d C_M_begin 28 rfl) rfl ?_
        refine x_getfield (v := xC (cp + 2)) (x_d C_M_begin 29 rfl) f_M_278 (ct_get hp.1 _ _ _) rfl ?_
        refine x_iload_n (x_d C_M_begin 30 rfl) rfl ?_
        refine x_iaload (f := fge) (x_d C_M_begin 31 rfl) (ct_get hp.2.2.1 _ _ _) (by omega) (by omega) ?_
        refine x_icmp_ne (tgt := 81) (x_d C_M_begin 32 rfl) rfl (fun c7 => ?_) (fun c7 => ?_)
        · refine x_iconst (x_d C_M_begin 43 rfl) ⟨by omega, by omega⟩ ?_
          refine x_ireturn (x_d C_M_begin 44 rfl) ?_
          refine ⟨0, _, rfl, rfl, by omega, Or.inr ⟨rfl, ?_⟩⟩
          split <;> omega
        · refine x_aload_n (x_d C_M_begin 33 rfl) rfl ?_
          refine x_bipush (x_d C_M_begin 34 rfl) (by omega) ?_
          refine x_invokevirtual (st := []) (av := [xI (32)]) (x_d C_M_begin 35 rfl) k_M_132 m_M_takeByte v_M_takeByte cl_M rfl rfl (Nat.le_of_ble_eq_true rfl) (by omega) rfl (c_M_takeByte Z (d - 1) q r (x_up A 43 tz) dyn X f j6 32 hf hn hX (by omega) hB (by omega)) ?_
          rintro v_ _ ⟨z8, j8, rfl, rfl, hz8⟩
          have hz8 : (z8 = 1 ∧ s_byte X (f + q 1345) (f + j6) = 32 ∧ j8 = j6 + 1 ∧ j6 < q 1345) ∨ (z8 = 0 ∧ ¬ s_byte X (f + q 1345) (f + j6) = 32 ∧ j8 = j6) := hz8
          have hsv8 : w2 = if s_byte X (f + q 1345) (f + j6) = 32 then p2 + 1 else -1 := by rw [hw2, show f + j6 = p2 by omega]; rfl
          refine x_if_eq (tgt := 81) (x_d C_M_begin 36 rfl) rfl (fun c9 => ?_) (fun c9 => ?_)
          · refine x_iconst (x_d C_M_begin 43 rfl) ⟨by omega, by omega⟩ ?_
            refine x_ireturn (x_d C_M_begin 44 rfl) ?_
            refine ⟨0, _, rfl, rfl, by omega, Or.inr ⟨rfl, ?_⟩⟩
            split <;> omega
          · refine x_aload_n (x_d C_M_begin 37 rfl) rfl ?_
            refine x_ldcSw (i := 66) (x_d C_M_begin 38 rfl) rfl ?_
            refine x_invokevirtual (st := []) (av := [xS (133)]) (x_d C_M_begin 39 rfl) k_M_103 m_M_takeWord v_M_takeWord cl_M rfl rfl (Nat.le_of_ble_eq_true rfl) (by omega) rfl (c_M_takeWord Z (d - 1) q r (x_up A 43 tz) dyn (by omega) X f j8 (si := 66) rfl hf hn hX (by omega) (by decide)) ?_
            rintro v_ _ ⟨z10, j10, rfl, rfl, hz10⟩
            have hz10 : (z10 = 1 ∧ 0 ≤ s_the X (f + q 1345) (f + j8) [111, 98, 106] ∧ j10 = s_the X (f + q 1345) (f + j8) [111, 98, 106] - f) ∨ (z10 = 0 ∧ s_the X (f + q 1345) (f + j8) [111, 98, 106] < 0 ∧ j10 = j8) := hz10
            have hti10 := s_the_in X (f + q 1345) (f + j8) [111, 98, 106]
            simp only [List.length_cons, List.length_nil] at hti10
            rw [show f + j8 = w2 by omega] at hz10 hti10
            have hz10 : (z10 = 1 ∧ 0 ≤ s_the X (f + q 1345) w2 [111, 98, 106] ∧ j10 = s_the X (f + q 1345) w2 [111, 98, 106] - f) ∨ (z10 = 0 ∧ s_the X (f + q 1345) w2 [111, 98, 106] < 0 ∧ j10 = j8) := hz10
            rw [← he1] at hz10
            refine x_if_eq (tgt := 81) (x_d C_M_begin 40 rfl) rfl (fun c11 => ?_) (fun c11 => ?_)
            · refine x_iconst (x_d C_M_begin 43 rfl) ⟨by omega, by omega⟩ ?_
              refine x_ireturn (x_d C_M_begin 44 rfl) ?_
              refine ⟨0, _, rfl, rfl, by omega, Or.inr ⟨rfl, ?_⟩⟩
              split <;> omega
            · refine x_iconst (x_d C_M_begin 41 rfl) ⟨by omega, by omega⟩ ?_
              refine x_goto (tgt := 82) (x_d C_M_begin 42 rfl) rfl ?_
              refine x_ireturn (x_d C_M_begin 44 rfl) ?_
              have hfin : (if ¬ n1 = k ∨ ¬ n2 = fge k.toNat then -1 else e1) = e1 := if_neg (by omega)
              rw [hfin]
              exact ⟨1, _, rfl, rfl, by omega, Or.inl ⟨rfl, by omega, by omega⟩⟩
  · refine x_iconst (x_d C_M_begin 9 rfl) ⟨by omega, by omega⟩ ?_
    refine x_ireturn (x_d C_M_begin 10 rfl) ?_
    refine ⟨0, _, rfl, rfl, by omega, Or.inr ⟨rfl, ?_⟩⟩
    split <;> omega
theorem c_M_lengthOf (Z : xZ) (d : Nat) (q : Nat → Int) (r : Nat → Option Nat) (A : Nat → Nat → Int) (dyn : xH) (hd : 40 ≤ d) (X : Nat → Int) (f j : Int) (tz : Nat → Int) (g : Nat → Option xE) (cp : Nat) (bt : Option Nat) (tb lt : Int) (tr : Option Nat) (sz : Int) (fis fge fpl : Nat → Int) (fva : Nat → Option Nat) (fch : Nat → Int) (pl gn us : Nat → Int) (ts : List tk) (l : Option Nat) (hp : PB dyn cp bt tb lt tr sz fis fge fpl fva fch) (hgk : gok g dyn) (hf : 0 ≤ f) (hn : 0 ≤ q 1345 ∧ q 1345 ≤ 4000) (hX : ∀ k : Nat, (k : Int) < q 1345 → A 44 k = X (f.toNat + k)) (hB : ∀ k, -128 ≤ X k ∧ X k ≤ 127) (hj : 0 ≤ j ∧ j ≤ q 1345) (hsz : 0 ≤ sz ∧ sz ≤ 300) (hox : OX sz (q 1345) fis fge fpl pl gn us) (hl : ((s_lnj X (f + q 1345) ts) < 0 ∧ l = none) ∨ (0 ≤ (s_lnj X (f + q 1345) ts) ∧ ∃ c2, l = some c2 ∧ Tr X (f + q 1345) g (lP ts) 8 (s_lnj X (f + q 1345) ts) c2)) : xMet Z d Y_M_lengthOf [xC 42, xC cp, xO l] (hF (x_up q 1346 j) (x_up r 1344 (some 44)) (x_up A 43 tz) ++ dyn) (fun v h2 => ∃ j2 tk2 ny, v = some (xI (s_rl X (f + q 1345) f pl gn us sz ts)) ∧ h2 = hF (x_up q 1346 j2) (x_up r 1344 (some 44)) (x_up A 43 tk2) ++ (dyn ++ ny) ∧ (0 ≤ j2 ∧ j2 ≤ q 1345) ∧ (-999999999 ≤ s_rl X (f + q 1345) f pl gn us sz ts ∧ s_rl X (f + q 1345) f pl gn us sz ts ≤ 999999999) ∧ ∀ u w, mu u w ny ≤ k_rl u w X (f + q 1345) f pl gn us sz ts) := by
  refine xMet_of (by decide) (Nat.le_of_ble_eq_true rfl) (fun v h2 hq => by obtain ⟨_, _, _, e, _⟩ := hq; rw [e]; trivial) ?_
  obtain ⟨lj, hlj⟩ : ∃ z, z = s_lnj X (f + q 1345) ts := ⟨_, rfl⟩
  obtain ⟨ld, hld⟩ : ∃ z, z = s_ldt (lkd ts) (lon ts) (ltw ts) gn us sz lj := ⟨_, rfl⟩
  have hrl : s_rl X (f + q 1345) f pl gn us sz ts = if lj < 0 then -1 else if ld < 0 then (if lP ts 5 lj.toNat = 3 then lP ts 6 lj.toNat else -1) else ((s_val X (f + q 1345) 8 (s_hd X (f + q 1345) f (pl ld.toNat) (gn ld.toNat) ld)).map (fun y => if lkd y.1 0 = 3 then lon y.1 0 else -1)).getD (-1) := by unfold s_rl; rw [← hlj, ← hld]; rfl
  have hkrl : ∀ u w, k_rl u w X (f + q 1345) f pl gn us sz ts = if lj < 0 then 0 else if ld < 0 then 0 else k_val u w X (f + q 1345) 8 (s_hd X (f + q 1345) f (pl ld.toNat) (gn ld.toNat) ld) := fun u w => by unfold k_rl; rw [← hlj, ← hld]
  have hldt : ld = if lj < 0 ∨ ¬ lP ts 5 lj.toNat = 8 then -1 else if (0 ≤ lP ts 6 lj.toNat ∧ lP ts 6 lj.toNat < sz ∧ ¬ us (lP ts 6 lj.toNat).toNat = 0) ∧ gn (lP ts 6 lj.toNat).toNat = lP ts 7 lj.toNat then lP ts 6 lj.toNat else -1 := by rw [hld]; rfl
  rw [← hlj] at hl
  rw [hrl]
  have hkz : ∀ u w, mu u w [] ≤ k_rl u w X (f + q 1345) f pl gn us sz ts := fun u w => Nat.zero_le _
  rcases hl with ⟨hl1, rfl⟩ | ⟨hl1, cl2, rfl, ht2⟩
  · rw [if_pos hl1]
    refine x_aload_n (x_d C_M_lengthOf 0 rfl) rfl ?_
    refine x_ifnonnullN (tgt := 6) (x_d C_M_lengthOf 1 rfl) rfl ?_
    refine x_iconst (x_d C_M_lengthOf 2 rfl) ⟨by omega, by omega⟩ ?_
    refine x_ireturn (x_d C_M_lengthOf 3 rfl) ?_
    exact ⟨j, tz, [], rfl, by rw [List.append_nil], hj, ⟨by omega, by omega⟩, hkz⟩
  · rw [if_neg (by omega)]
    obtain ⟨h0, vx, vy, m2, bt2, it2, nm2, hc2, htl, -⟩ := Tr_o ht2
    have h3 := htl.2.1
    have h8 := htl.2.2.1
    have hkd0 := htl.1
    clear htl
    refine x_aload_n (x_d C_M_lengthOf 0 rfl) rfl ?_
    refine x_ifnonnullC (tgt := 6) (x_d C_M_lengthOf 1 rfl) rfl ?_
    refine x_aload_n (x_d C_M_lengthOf 4 rfl) rfl ?_
    refine x_getfield (v := xI (lP ts 5 lj.toNat)) (x_d C_M_lengthOf 5 rfl) f_M_261 (ct_get (hgk _ _ hc2) _ _ _) rfl ?_
    refine x_iconst (x_d C_M_lengthOf 6 rfl) ⟨by omega, by omega⟩ ?_
    refine x_icmp_ne (tgt := 19) (x_d C_M_lengthOf 7 rfl) rfl (fun c2 => ?_) (fun c2 => ?_)
    · refine x_aload_n (x_d C_M_lengthOf 11 rfl) rfl ?_
      refine x_getfield (v := xI (lP ts 5 lj.toNat)) (x_d C_M_lengthOf 12 rfl) f_M_261 (ct_get (hgk _ _ hc2) _ _ _) rfl ?_
      refine x_bipush (x_d C_M_lengthOf 13 rfl) (by omega) ?_
      refine x_icmp_ne (tgt := 80) (x_d C_M_lengthOf 14 rfl) rfl (fun c3 => ?_) (fun c3 => ?_)
      · refine x_iconst (x_d C_M_lengthOf 41 rfl) ⟨by omega, by omega⟩ ?_
        refine x_ireturn (x_d C_M_lengthOf 42 rfl) ?_
        have hld0 : ld = -1 := by rw [hldt, if_pos (by omega)]
        rw [if_pos (by omega), if_neg (by omega)]
        exact ⟨j, tz, [], rfl, by rw [List.append_nil], hj, ⟨by omega, by omega⟩, hkz⟩
      · have hx8 := h8 (by omega)
        obtain ⟨rk, hrk⟩ : ∃ z, z = lP ts 6 lj.toNat := ⟨_, rfl⟩
        obtain ⟨rg, hrg⟩ : ∃ z, z = lP ts 7 lj.toNat := ⟨_, rfl⟩
        rw [← hrk, ← hrg] at hx8
        rw [← hrk, ← hrg] at hldt
        obtain ⟨e1_, e2_, hx3, hx4, hx5, hx6⟩ := hx8
        rw [e1_, e2_] at hc2
        clear e1_ e2_ h3 h8
        refine x_aload_n (x_d C_M_lengthOf 15 rfl) rfl ?_
        refine x_getfield (v := xI (rk)) (x_d C_M_lengthOf 16 rfl) f_M_95 (ct_get (hgk _ _ hc2) _ _ _) rfl ?_
        refine x_aload_n (x_d C_M_lengthOf 17 rfl) rfl ?_
        refine x_getfield (v := xI (sz)) (x_d C_M_lengthOf 18 rfl) f_M_266 (ct_get hp.1 _ _ _) rfl ?_
        refine x_icmp_ge (tgt := 80) (x_d C_M_lengthOf 19 rfl) rfl (fun c4 => ?_) (fun c4 => ?_)
        · refine x_iconst (x_d C_M_lengthOf 41 rfl) ⟨by omega, by omega⟩ ?_
          refine x_ireturn (x_d C_M_lengthOf 42 rfl) ?_
          have hld0 : ld = -1 := by
            rw [hldt]
            split
            · rfl
            · rw [if_neg]
              rintro ⟨⟨z1, z2, z3⟩, z4⟩
              have ho := hox rk.toNat (by omega)
              have ho1 := ho.1.mpr z3
              have ho2 := (ho.2 ho1).1
              omega
          rw [if_pos (by omega), if_neg (by omega)]
          exact ⟨j, tz, [], rfl, by rw [List.append_nil], hj, ⟨by omega, by omega⟩, hkz⟩
        · refine x_aload_n (x_d C_M_lengthOf 20 rfl) rfl ?_
          refine x_getfield (v := xC (cp + 1)) (x_d C_M_lengthOf 21 rfl) f_M_267 (ct_get hp.1 _ _ _) rfl ?_
          refine x_aload_n (x_d C_M_lengthOf 22 rfl) rfl ?_
          refine x_getfield (v := xI (rk)) (x_d C_M_lengthOf 23 rfl) f_M_95 (ct_get (hgk _ _ hc2) _ _ _) rfl ?_
          refine x_iaload (f := fis) (x_d C_M_lengthOf 24 rfl) (ct_get hp.2.1 _ _ _) (by omega) (by omega) ?_
          refine x_iconst (x_d C_M_lengthOf 25 rfl) ⟨by omega, by omega⟩ ?_
          refine x_icmp_ne (tgt := 80) (x_d C_M_lengthOf 26 rfl) rfl (fun c5 => ?_) (fun c5 => ?_)
          · refine x_iconst (x_d C_M_lengthOf 41 rfl) ⟨by omega, by omega⟩ ?_
            refine x_ireturn (x_d C_M_lengthOf 42 rfl) ?_
            have hld0 : ld = -1 := by
              rw [hldt]
              split
              · rfl
              · rw [if_neg]
                rintro ⟨⟨z1, z2, z3⟩, z4⟩
                have ho := hox rk.toNat (by omega)
                have ho1 := ho.1.mpr z3
                have ho2 := (ho.2 ho1).1
                omega
            rw [if_pos (by omega), if_neg (by omega)]
            exact ⟨j, tz, [], rfl, by rw [List.append_nil], hj, ⟨by omega, by omega⟩, hkz⟩
          · refine x_aload_n (x_d C_M_lengthOf 27 rfl) rfl ?_
            refine x_getfield (v := xC (cp + 2)) (x_d C_M_lengthOf 28 rfl) f_M_278 (ct_get hp.1 _ _ _) rfl ?_
            refine x_aload_n (x_d C_M_lengthOf 29 rfl) rfl ?_
            refine x_getfield (v := xI (rk)) (x_d C_M_lengthOf 30 rfl) f_M_95 (ct_get (hgk _ _ hc2) _ _ _) rfl ?_
            refine x_iaload (f := fge) (x_d C_M_lengthOf 31 rfl) (ct_get hp.2.2.1 _ _ _) (by omega) (by omega) ?_
            refine x_aload_n (x_d C_M_lengthOf 32 rfl) rfl ?_
            refine x_getfield (v := xI (rg)) (x_d C_M_lengthOf 33 rfl) f_M_108 (ct_get (hgk _ _ hc2) _ _ _) rfl ?_
            refine x_icmp_ne (tgt := 80) (x_d C_M_lengthOf 34 rfl) rfl (fun c6 => ?_) (fun c6 => ?_)
            · refine x_iconst (x_d C_M_lengthOf 41 rfl) ⟨by omega, by omega⟩ ?_
              refine x_ireturn (x_d C_M_lengthOf 42 rfl) ?_
              have hld0 : ld = -1 := by
                rw [hldt]
                split
                · rfl
                · rw [if_neg]
                  rintro ⟨⟨z1, z2, z3⟩, z4⟩
                  have ho := hox rk.toNat (by omega)
                  have ho1 := ho.1.mpr z3
                  have ho2 := (ho.2 ho1).1
                  omega
              rw [if_pos (by omega), if_neg (by omega)]
              exact ⟨j, tz, [], rfl, by rw [List.append_nil], hj, ⟨by omega, by omega⟩, hkz⟩
            · refine x_aload_n (x_d C_M_lengthOf 35 rfl) rfl ?_
              refine x_aload_n (x_d C_M_lengthOf 36 rfl) rfl ?_
              refine x_aload_n (x_d C_M_lengthOf 37 rfl) rfl ?_
              refine x_getfield (v := xI (rk)) (x_d C_M_lengthOf 38 rfl) f_M_95 (ct_get (hgk _ _ hc2) _ _ _) rfl ?_
              have hox1 := hox rk.toNat (by omega)
              have hfr := hox1.2 (by omega)
              have hldr : ld = rk := by rw [hldt, if_neg (by omega), if_pos ⟨⟨by omega, by omega, hox1.1.mp (by omega)⟩, by omega⟩]
              rw [if_neg (by omega)]
              have hkr : ∀ u w, k_rl u w X (f + q 1345) f pl gn us sz ts = k_val u w X (f + q 1345) 8 (s_hd X (f + q 1345) f (pl ld.toNat) (gn ld.toNat) ld) := fun u w => by rw [hkrl u w, if_neg (by omega), if_neg (by omega)]
              rw [hldr, hfr.1, hfr.2.1] at hkr
              rw [hldr, hfr.1, hfr.2.1]
              refine x_invokevirtual (st := []) (av := [xC cp, xI rk]) (x_d C_M_lengthOf 39 rfl) k_M_293 m_M_begin v_M_begin cl_M rfl rfl (Nat.le_of_ble_eq_true rfl) (by omega) rfl (c_M_begin Z (d - 1) q r A dyn (by omega) X f j rk tz cp bt tb lt tr sz fis fge fpl fva fch hp hf hn hX hB hj (by omega) (by omega)) ?_
              rintro v_ h_ ⟨z, j2, rfl, rfl, hj2, hz⟩
              rw [s_hd_bg] at hkr ⊢
              have hse := s_val_end X hB (f + q 1345) 8 (i := -1)
              refine x_if_ne (tgt := 82) (x_d C_M_lengthOf 40 rfl) rfl (fun c107 => ?_) (fun c107 => ?_)
              · refine x_aload_n (x_d C_M_lengthOf 43 rfl) rfl ?_
                refine x_iconst (x_d C_M_lengthOf 44 rfl) ⟨by omega, by omega⟩ ?_
                refine x_invokevirtual (st := []) (av := [xI 0]) (x_d C_M_lengthOf 45 rfl) k_M_148 m_M_object v_M_object cl_M rfl rfl (Nat.le_of_ble_eq_true rfl) (by omega) rfl (OD_all Z q r A X f hf hn hX hB 8 (by omega) (d - 1) dyn g j2 tz 0 (by omega) hgk (by omega) hj2) ?_
                rw [show f + j2 = s_bg X (f + q 1345) f (min (fpl rk.toNat) (q 1345)) (fge rk.toNat) rk by omega]
                rintro v_ h_ ⟨j8, tk8, ny, rfl, hj8, hmu8, hr_⟩
                have hmu8 : ∀ u w, mu u w ny ≤ k_rl u w X (f + q 1345) f pl gn us sz ts := fun u w => by rw [hkr u w]; exact hmu8 u w
                rcases hr_ with ⟨hs, rfl⟩ | ⟨ts2, e2, c, g2, hs, rfl, he2, q1, q2, q3, q4, -⟩
                · refine x_astore_n (l1 := [(3, xN), (0, xC 42), (1, xC cp), (2, xC cl2)]) (x_d C_M_lengthOf 46 rfl) (by decide) rfl ?_
                  refine x_aload_n (x_d C_M_lengthOf 47 rfl) rfl ?_
                  refine x_ifnullN (tgt := 107) (x_d C_M_lengthOf 48 rfl) rfl ?_
                  refine x_iconst (x_d C_M_lengthOf 56 rfl) ⟨by omega, by omega⟩ ?_
                  refine x_ireturn (x_d C_M_lengthOf 57 rfl) ?_
                  rw [hs]
                  exact ⟨j8, tk8, ny, rfl, rfl, hj8, ⟨by show (-999999999 : Int) ≤ -1; omega, by show (-1 : Int) ≤ 999999999; omega⟩, hmu8⟩
                · obtain ⟨-, vx9, vy9, m9, bt9, it9, nm9, hc9, htl9, -⟩ := Tr_o q4
                  have h39 := htl9.2.1
                  refine x_astore_n (l1 := [(3, xC c), (0, xC 42), (1, xC cp), (2, xC cl2)]) (x_d C_M_lengthOf 46 rfl) (by decide) rfl ?_
                  refine x_aload_n (x_d C_M_lengthOf 47 rfl) rfl ?_
                  refine x_ifnullC (tgt := 107) (x_d C_M_lengthOf 48 rfl) rfl ?_
                  refine x_aload_n (x_d C_M_lengthOf 49 rfl) rfl ?_
                  refine x_getfield (v := xI (lP ts2 5 (0 : Int).toNat)) (x_d C_M_lengthOf 50 rfl) f_M_261 (ct_get (q2 _ _ hc9) _ _ _) rfl ?_
                  refine x_iconst (x_d C_M_lengthOf 51 rfl) ⟨by omega, by omega⟩ ?_
                  refine x_icmp_ne (tgt := 107) (x_d C_M_lengthOf 52 rfl) rfl (fun c209 => ?_) (fun c209 => ?_)
                  · refine x_iconst (x_d C_M_lengthOf 56 rfl) ⟨by omega, by omega⟩ ?_
                    refine x_ireturn (x_d C_M_lengthOf 57 rfl) ?_
                    rw [hs]
                    refine ⟨j8, tk8, ny, ?_, rfl, hj8, ?_, hmu8⟩
                    · show _ = some (xI (if lP ts2 5 (0 : Int).toNat = 3 then lP ts2 6 (0 : Int).toNat else -1))
                      rw [if_neg (by omega)]
                    · show -999999999 ≤ (if lP ts2 5 (0 : Int).toNat = 3 then lP ts2 6 (0 : Int).toNat else -1) ∧ (if lP ts2 5 (0 : Int).toNat = 3 then lP ts2 6 (0 : Int).toNat else -1) ≤ 999999999
                      rw [if_neg (by omega)]
                      omega
                  · refine x_aload_n (x_d C_M_lengthOf 53 rfl) rfl ?_
                    refine x_getfield (v := xI (vx9)) (x_d C_M_lengthOf 54 rfl) f_M_95 (ct_get (q2 _ _ hc9) _ _ _) rfl ?_
                    refine x_goto (tgt := 108) (x_d C_M_lengthOf 55 rfl) rfl ?_
                    refine x_ireturn (x_d C_M_lengthOf 57 rfl) ?_
                    rw [hs]
                    refine ⟨j8, tk8, ny, ?_, rfl, hj8, ?_, hmu8⟩
                    · show _ = some (xI (if lP ts2 5 (0 : Int).toNat = 3 then lP ts2 6 (0 : Int).toNat else -1))
                      rw [if_pos (by omega), (h39 (by omega)).1]
                    · show -999999999 ≤ (if lP ts2 5 (0 : Int).toNat = 3 then lP ts2 6 (0 : Int).toNat else -1) ∧ (if lP ts2 5 (0 : Int).toNat = 3 then lP ts2 6 (0 : Int).toNat else -1) ≤ 999999999
                      rw [if_pos (by omega)]
                      exact (h39 (by omega)).2
              · refine x_iconst (x_d C_M_lengthOf 41 rfl) ⟨by omega, by omega⟩ ?_
                refine x_ireturn (x_d C_M_lengthOf 42 rfl) ?_
                have hneg : s_sc s_white X (f + q 1345) (s_bg X (f + q 1345) f (min (fpl rk.toNat) (q 1345)) (fge rk.toNat) rk) < 0 := by rw [s_sc_stop (Or.inl (by omega))]; omega
                have hvn : s_val X (f + q 1345) 8 (s_sc s_white X (f + q 1345) (s_bg X (f + q 1345) f (min (fpl rk.toNat) (q 1345)) (fge rk.toNat) rk)) = none := by
                  cases hv : s_val X (f + q 1345) 8 (s_sc s_white X (f + q 1345) (s_bg X (f + q 1345) f (min (fpl rk.toNat) (q 1345)) (fge rk.toNat) rk)) with
                  | none => rfl
                  | some y => have := s_val_ok X hB _ 8 _ y.1 y.2 hv; omega
                rw [hvn]
                exact ⟨j2, tz, [], rfl, by rw [List.append_nil], hj2, ⟨by show (-999999999 : Int) ≤ -1; omega, by show (-1 : Int) ≤ 999999999; omega⟩, hkz⟩
    · refine x_aload_n (x_d C_M_lengthOf 8 rfl) rfl ?_
      refine x_getfield (v := xI (vx)) (x_d C_M_lengthOf 9 rfl) f_M_95 (ct_get (hgk _ _ hc2) _ _ _) rfl ?_
      refine x_ireturn (x_d C_M_lengthOf 10 rfl) ?_
      rw [if_pos (by omega), if_pos (by omega)]
      exact ⟨j, tz, [], by rw [(h3 (by omega)).1], by rw [List.append_nil], hj, (h3 (by omega)).2, hkz⟩
