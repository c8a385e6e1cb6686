/-! the reference: a table -/
theorem w_M_table_185 (Z : xZ) (d : Nat) (q : Nat → Int) (r : Nat → Option Nat) (A : Nat → Nat → Int) (hd : 40 ≤ d) (X : Nat → Int) (f : Int) (g : Nat → Option xE) (cp : Nat) (bt : Option Nat) (tb lt : Int) (tr : Option Nat) (sz : Int) (fva : Nat → Option Nat) (fch : Nat → Int) (ctd : Nat) (t pl : Int) (n0 : Nat) (M : Nat → Nat → Nat) (tz : Nat → Int) (hf : 0 ≤ f) (hn : 0 ≤ q 1345 ∧ q 1345 ≤ 4000) (hX : ∀ k : Nat, (k : Int) < q 1345 → A 44 k = X (f.toNat + k)) (hB : ∀ k, -128 ≤ X k ∧ X k ≤ 127) (hnp : gnp g cp) (hctd : ctn g cp ctd) (ht : 0 ≤ t) (htr : (t = 0 ∧ tr = none) ∨ (¬ t = 0 ∧ ∃ c, tr = some c)) : ∀ (m : Nat) (j : Int) (dyn : xH) (fis fge fpl ft : Nat → Int) (x : ost), q 1345 - j ≤ 4 * m → (0 ≤ j ∧ j ≤ q 1345) → (-1 ≤ x.2.2.2.2 ∧ x.2.2.2.2 < 300) → TS g dyn cp bt tb lt tr sz fis fge fpl fva fch ctd ft t (q 1345) x → n0 ≤ 52 + dyn.length → (∀ u w, mu u w dyn = M u w + (u + 300 * w)) → xW Z d Y_M_table 185 [(0, xC 42), (1, xC cp), (2, xI pl), (3, xC ctd), (4, xI x.2.2.2.2), (5, xI 1)] [] (hF (x_up q 1346 j) (x_up r 1344 (some 44)) (x_up A 43 tz) ++ dyn) (tqp q r A X f g cp bt tb lt tr sz fva fch t n0 M (s_tl X (f + q 1345) f t sz m (f + j) x)) := by
  have hXi : ∀ u : Int, 0 ≤ u → u < q 1345 → A 44 u.toNat = X (f + u).toNat := fun u h1 h2 => by rw [hX u.toNat (by omega)]; congr 1; omega
  have hd1 : ∀ j, 0 ≤ j → j < q 1345 → ((x_bo (s_dig (A 44 j.toNat)) = 1 ∧ 0 ≤ s_dgs X (f + q 1345) (f + j) 1) ∨ (x_bo (s_dig (A 44 j.toNat)) = 0 ∧ s_dgs X (f + q 1345) (f + j) 1 < 0)) := fun j h1 h2 => by
    have hi := s_dgs_iff (b := X) (n := f + q 1345) (i := f + j) (m := 1) (by omega) (by omega)
    rw [show ((1 : Nat) : Int) = 1 from rfl] at hi
    have hx := hXi j h1 h2
    cases hz : s_dig (A 44 j.toNat) with
    | true => exact Or.inl ⟨rfl, hi.mpr (fun k hk => by rw [show k = 0 by omega, Nat.add_zero, ← hx]; exact hz)⟩
    | false =>
      refine Or.inr ⟨rfl, ?_⟩
      rcases Int.lt_or_le (s_dgs X (f + q 1345) (f + j) 1) 0 with z | z
      · exact z
      · have := hi.mp z 0 (by omega)
        rw [Nat.add_zero, ← hx, hz] at this
        cases this
  have hd0 : ∀ j, q 1345 ≤ j → s_dgs X (f + q 1345) (f + j) 1 < 0 := fun j h => by unfold s_dgs; rw [if_neg (by omega)]; omega
  intro m
  induction m with
  | zero =>
    intro j dyn fis fge fpl ft x hm hj hhi hts hn0 hmu
    have hsp : s_tl X (f + q 1345) f t sz 0 (f + j) x = if s_the X (f + q 1345) (f + j) [116, 114, 97, 105, 108, 101, 114] < 0 then none else some (x, s_the X (f + q 1345) (f + j) [116, 114, 97, 105, 108, 101, 114]) := rfl
    rw [hsp]
    refine x_aload_n (x_d C_M_table 99 rfl) rfl ?_
    refine x_getfield (v := xI (j)) (x_d C_M_table 100 rfl) f_M_7 rfl rfl ?_
    refine x_aload_n (x_d C_M_table 101 rfl) rfl ?_
    refine x_getfield (v := xI (q 1345)) (x_d C_M_table 102 rfl) f_M_11 rfl rfl ?_
    refine x_icmp_ge (tgt := 215) (x_d C_M_table 103 rfl) rfl (fun _ => ?_) (fun q => absurd q (by omega))
    refine x_iconst (x_d C_M_table 113 rfl) ⟨by omega, by omega⟩ ?_
    refine x_istore (l1 := [(5, xI (0)), (0, xC 42), (1, xC cp), (2, xI (pl)), (3, xC ctd), (4, xI (x.2.2.2.2))]) (x_d C_M_table 114 rfl) (by decide) rfl ?_
    refine x_goto (tgt := 37) (x_d C_M_table 115 rfl) rfl ?_
    refine x_iload (x_d C_M_table 20 rfl) rfl ?_
    refine x_if_eq (tgt := 221) (x_d C_M_table 21 rfl) rfl (fun _ => ?_) (fun q => absurd q (by omega))
    refine x_locs [1, 2, 3, 4, 5, 0] rfl ?_
    exact w_M_table_221 Z d q r A hd X f g cp bt tb lt tr sz fva fch ctd t pl n0 M tz hf hn hX hB hnp hctd ht htr j dyn fis fge fpl ft x hj hhi hts hn0 hmu 0
  | succ m ih =>
    intro j dyn fis fge fpl ft x hm hj hhi hts hn0 hmu
    have hdj := hd1 j
    have hd0j := hd0 j
    have hsl : s_secl X (f + q 1345) f t sz (m + 1) (f + j) x = if s_dgs X (f + q 1345) (f + j) 1 < 0 then some (x, f + j) else (s_sect X (f + q 1345) f t sz (f + j) x).bind (fun y => s_secl X (f + q 1345) f t sz m y.2 y.1) := rfl
    refine x_aload_n (x_d C_M_table 99 rfl) rfl ?_
    refine x_getfield (v := xI (j)) (x_d C_M_table 100 rfl) f_M_7 rfl rfl ?_
    refine x_aload_n (x_d C_M_table 101 rfl) rfl ?_
    refine x_getfield (v := xI (q 1345)) (x_d C_M_table 102 rfl) f_M_11 rfl rfl ?_
    refine x_icmp_ge (tgt := 215) (x_d C_M_table 103 rfl) rfl (fun c1 => ?_) (fun c1 => ?_)
    · refine x_iconst (x_d C_M_table 113 rfl) ⟨by omega, by omega⟩ ?_
      refine x_istore (l1 := [(5, xI (0)), (0, xC 42), (1, xC cp), (2, xI (pl)), (3, xC ctd), (4, xI (x.2.2.2.2))]) (x_d C_M_table 114 rfl) (by decide) rfl ?_
      refine x_goto (tgt := 37) (x_d C_M_table 115 rfl) rfl ?_
      refine x_iload (x_d C_M_table 20 rfl) rfl ?_
      refine x_if_eq (tgt := 221) (x_d C_M_table 21 rfl) rfl (fun _ => ?_) (fun q => absurd q (by omega))
      refine x_locs [1, 2, 3, 4, 5, 0] rfl ?_
      have hsp : s_tl X (f + q 1345) f t sz (m + 1) (f + j) x = if s_the X (f + q 1345) (f + j) [116, 114, 97, 105, 108, 101, 114] < 0 then none else some (x, s_the X (f + q 1345) (f + j) [116, 114, 97, 105, 108, 101, 114]) := by unfold s_tl; rw [hsl, if_pos (by omega)]; rfl
      rw [hsp]
      exact w_M_table_221 Z d q r A hd X f g cp bt tb lt tr sz fva fch ctd t pl n0 M tz hf hn hX hB hnp hctd ht htr j dyn fis fge fpl ft x hj hhi hts hn0 hmu 0
    · refine x_aload_n (x_d C_M_table 104 rfl) rfl ?_
      refine x_getfield (v := xC 44) (x_d C_M_table 105 rfl) f_M_14 rfl rfl ?_
      refine x_aload_n (x_d C_M_table 106 rfl) rfl ?_
      refine x_getfield (v := xI (j)) (x_d C_M_table 107 rfl) f_M_7 rfl rfl ?_
      refine x_baload (f := A 44) (x_d C_M_table 108 rfl) rfl (by omega) (by omega) ?_
      refine x_invokestatic (st := []) (av := [xI (A 44 (j).toNat)]) (x_d C_M_table 109 rfl) k_M_52 m_M_isDigit s_M_isDigit rfl (Nat.le_of_ble_eq_true rfl) (by omega) rfl (c_M_isDigit Z (d - 1) (hF (x_up q 1346 j) (x_up r 1344 (some 44)) (x_up A 43 tz) ++ dyn) (A 44 (j).toNat)) ?_
      rintro v_ h_ ⟨hv_, hh_⟩
      obtain rfl : v_ = some (xI (x_bo (s_dig (A 44 (j).toNat)))) := hv_
      rw [hh_]
      clear hh_
      refine x_if_eq (tgt := 215) (x_d C_M_table 110 rfl) rfl (fun c3 => ?_) (fun c3 => ?_)
      · refine x_iconst (x_d C_M_table 113 rfl) ⟨by omega, by omega⟩ ?_
        refine x_istore (l1 := [(5, xI (0)), (0, xC 42), (1, xC cp), (2, xI (pl)), (3, xC ctd), (4, xI (x.2.2.2.2))]) (x_d C_M_table 114 rfl) (by decide) rfl ?_
        refine x_goto (tgt := 37) (x_d C_M_table 115 rfl) rfl ?_
        refine x_iload (x_d C_M_table 20 rfl) rfl ?_
        refine x_if_eq (tgt := 221) (x_d C_M_table 21 rfl) rfl (fun _ => ?_) (fun q => absurd q (by omega))
        refine x_locs [1, 2, 3, 4, 5, 0] rfl ?_
        have hsp : s_tl X (f + q 1345) f t sz (m + 1) (f + j) x = if s_the X (f + q 1345) (f + j) [116, 114, 97, 105, 108, 101, 114] < 0 then none else some (x, s_the X (f + q 1345) (f + j) [116, 114, 97, 105, 108, 101, 114]) := by unfold s_tl; rw [hsl, if_pos (by omega)]; rfl
        rw [hsp]
        exact w_M_table_221 Z d q r A hd X f g cp bt tb lt tr sz fva fch ctd t pl n0 M tz hf hn hX hB hnp hctd ht htr j dyn fis fge fpl ft x hj hhi hts hn0 hmu 0
      · refine x_iconst (x_d C_M_table 111 rfl) ⟨by omega, by omega⟩ ?_
        refine x_goto (tgt := 216) (x_d C_M_table 112 rfl) rfl ?_
        refine x_istore (l1 := [(5, xI (1)), (0, xC 42), (1, xC cp), (2, xI (pl)), (3, xC ctd), (4, xI (x.2.2.2.2))]) (x_d C_M_table 114 rfl) (by decide) rfl ?_
        refine x_goto (tgt := 37) (x_d C_M_table 115 rfl) rfl ?_
        refine x_iload (x_d C_M_table 20 rfl) rfl ?_
        refine x_if_eq (tgt := 221) (x_d C_M_table 21 rfl) rfl (fun q => absurd q (by omega)) (fun _ => ?_)
        refine x_locs [1, 2, 3, 4, 5, 0] rfl ?_
        refine w_M_table_42 Z d q r (x_up A 43 tz) (by omega) X f g cp bt tb lt tr sz fva fch ctd t pl (fun u w => M u w + (u + 300 * w)) hf hn hX hB hnp hctd ht _ j dyn fis fge fpl ft x hj hhi hts hmu (fun hno j2 dyn2 h1 h2 h3 => ?_) (fun y e2 hy dyn2 fis2 fge2 fpl2 ft2 h1 h2 h3 => ?_)
        · have hsp : s_tl X (f + q 1345) f t sz (m + 1) (f + j) x = none := by unfold s_tl; rw [hsl, if_neg (by omega), hno]; rfl
          rw [hsp]
          exact ⟨j2, q 1354, tz, dyn2, by rw [show x_up (x_up q 1346 j2) 1354 (q 1354) = x_up q 1346 j2 from x_up_same (x_up q 1346 j2) 1354], h1, fun u w => by rw [h3 u w]; exact Nat.le_refl _, Or.inl ⟨rfl, rfl, h2⟩⟩
        · have hin := s_sect_in hy
          have hsp : s_tl X (f + q 1345) f t sz (m + 1) (f + j) x = s_tl X (f + q 1345) f t sz m e2 y := by unfold s_tl; rw [hsl, if_neg (by omega), hy]; rfl
          rw [hsp]
          have hl2 : n0 ≤ 52 + dyn2.length := by
            have a1 := hmu 1 0
            have a2 := h2 1 0
            unfold mu at a1 a2
            have a2 : 1 * dyn2.length + 0 * x_S dyn2 = M 1 0 + (1 + 300 * 0) := a2
            omega
          have := ih (e2 - f) dyn2 fis2 fge2 fpl2 ft2 y (by omega) (by omega) h3 h1 hl2 h2
          rw [show f + (e2 - f) = e2 by omega] at this
          exact this
theorem c_M_table (Z : xZ) (d : Nat) (q : Nat → Int) (r : Nat → Option Nat) (A : Nat → Nat → Int) (hd : 40 ≤ d) (X : Nat → Int) (f : Int) (g : Nat → Option xE) (cp : Nat) (bt : Option Nat) (tb lt : Int) (tr : Option Nat) (sz : Int) (fva : Nat → Option Nat) (fch : Nat → Int) (t pl : Int) (tz : Nat → Int) (hf : 0 ≤ f) (hn : 0 ≤ q 1345 ∧ q 1345 ≤ 4000) (hX : ∀ k : Nat, (k : Int) < q 1345 → A 44 k = X (f.toNat + k)) (hB : ∀ k, -128 ≤ X k ∧ X k ≤ 127) (hnp : gnp g cp) (ht : 0 ≤ t) (htr : (t = 0 ∧ tr = none) ∨ (¬ t = 0 ∧ ∃ c, tr = some c)) (j : Int) (dyn : xH) (fis fge fpl : Nat → Int) (x : ost) (hpl : 0 ≤ pl ∧ pl < q 1345) (hp : PB dyn cp bt tb lt tr sz fis fge fpl fva fch) (hgk : gok g dyn) (hrx : RX t sz (q 1345) (s_hi x (-1)) fis fge fpl (fun _ => 0)) : xMet Z d Y_M_table [xC 42, xC cp, xI pl] (hF (x_up q 1346 j) (x_up r 1344 (some 44)) (x_up A 43 tz) ++ dyn) (tqp q r A X f g cp bt tb lt tr sz fva fch t (52 + dyn.length) (fun u w => mu u w dyn) ((s_sect X (f + q 1345) f t sz (s_abyte X (f + q 1345) (s_the X (f + q 1345) (f + pl) [120, 114, 101, 102]) 10) (s_hi x (-1))).bind (fun y => s_tl X (f + q 1345) f t sz 4000 y.2 y.1))) := by
  refine xMet_of (by decide) (Nat.le_of_ble_eq_true rfl) (fun v h2 hq => by obtain ⟨_, _, _, _, _, _, _, ⟨_, e, _⟩ | ⟨_, _, ⟨_, e, _⟩ | ⟨_, _, _, _, _, _, _, _, _, e, _⟩⟩⟩ := hq <;> rw [e] <;> trivial) ?_
  obtain ⟨wx, hwx⟩ : ∃ z, z = s_the X (f + q 1345) (f + pl) [120, 114, 101, 102] := ⟨_, rfl⟩
  obtain ⟨wi, hwi⟩ : ∃ z, z = s_abyte X (f + q 1345) wx 10 := ⟨_, rfl⟩
  have hab := s_abyte_in X (f + q 1345) wx 10
  rw [← hwi] at hab
  rw [← hwx, ← hwi]
  have hneg : wi < 0 → (s_sect X (f + q 1345) f t sz wi (s_hi x (-1))).bind (fun y => s_tl X (f + q 1345) f t sz 4000 y.2 y.1) = none := fun h => by
    have := s_num_in X (f + q 1345) wi
    have hs : s_sect X (f + q 1345) f t sz wi (s_hi x (-1)) = none := by unfold s_sect; rw [if_pos (Or.inl (by omega))]
    rw [hs]
    rfl
  have hsame : ∀ jj tk2, hF (x_up q 1346 jj) (x_up r 1344 (some 44)) (x_up A 43 tk2) = hF (x_up (x_up q 1346 jj) 1354 (q 1354)) (x_up r 1344 (some 44)) (x_up A 43 tk2) := fun jj tk2 => by rw [show x_up (x_up q 1346 jj) 1354 (q 1354) = x_up q 1346 jj from x_up_same (x_up q 1346 jj) 1354]
  refine x_aload_n (x_d C_M_table 0 rfl) rfl ?_
  refine x_iload_n (x_d C_M_table 1 rfl) rfl ?_
  refine x_putfield (h1 := hF (x_up q 1346 pl) (x_up r 1344 (some 44)) (x_up A 43 tz) ++ dyn) (x_d C_M_table 2 rfl) p_M_7 rfl rfl rfl trivial rfl ?_
  refine x_aload_n (x_d C_M_table 3 rfl) rfl ?_
  refine x_ldcS (i := 57) (x_d C_M_table 4 rfl) rfl ?_
  refine x_invokevirtual (st := []) (av := [xS (115)]) (x_d C_M_table 5 rfl) k_M_103 m_M_takeWord v_M_takeWord cl_M rfl rfl (Nat.le_of_ble_eq_true rfl) (by omega) rfl (c_M_takeWord Z (d - 1) q r (x_up A 43 tz) dyn (by omega) X f pl (si := 57) rfl hf hn hX (by omega) (by decide)) ?_
  rintro v_ _ ⟨z1, j1, rfl, rfl, hz1⟩
  have hz1 : (z1 = 1 ∧ 0 ≤ s_the X (f + q 1345) (f + pl) [120, 114, 101, 102] ∧ j1 = s_the X (f + q 1345) (f + pl) [120, 114, 101, 102] - f) ∨ (z1 = 0 ∧ s_the X (f + q 1345) (f + pl) [120, 114, 101, 102] < 0 ∧ j1 = pl) := hz1
  have hti1 := s_the_in X (f + q 1345) (f + pl) [120, 114, 101, 102]
  simp only [List.length_cons, List.length_nil] at hti1
  rw [← hwx] at hz1 hti1
  refine x_if_eq (tgt := 23) (x_d C_M_table 6 rfl) rfl (fun c2 => ?_) (fun c2 => ?_)
  · refine x_iconst (x_d C_M_table 11 rfl) ⟨by omega, by omega⟩ ?_
    refine x_ireturn (x_d C_M_table 12 rfl) ?_
    rw [hneg (by first | omega | (have := s_byte_in X (f + q 1345) wx; omega))]
    exact ⟨_, q 1354, tz, dyn, by rw [← hsame], by omega, fun u w => Nat.le_add_right _ _, Or.inl ⟨rfl, rfl, hgk⟩⟩
  · refine x_aload_n (x_d C_M_table 7 rfl) rfl ?_
    refine x_bipush (x_d C_M_table 8 rfl) (by omega) ?_
    refine x_invokevirtual (st := []) (av := [xI (10)]) (x_d C_M_table 9 rfl) k_M_132 m_M_takeByte v_M_takeByte cl_M rfl rfl (Nat.le_of_ble_eq_true rfl) (by omega) rfl (c_M_takeByte Z (d - 1) q r (x_up A 43 tz) dyn X f j1 10 hf hn hX (by omega) hB (by omega)) ?_
    rintro v_ _ ⟨z3, j3, rfl, rfl, hz3⟩
    have hz3 : (z3 = 1 ∧ s_byte X (f + q 1345) (f + j1) = 10 ∧ j3 = j1 + 1 ∧ j1 < q 1345) ∨ (z3 = 0 ∧ ¬ s_byte X (f + q 1345) (f + j1) = 10 ∧ j3 = j1) := hz3
    have hsb3 : s_byte X (f + q 1345) (f + j1) = s_byte X (f + q 1345) wx := by rw [show f + j1 = wx by omega]
    have hsv3 : wi = if s_byte X (f + q 1345) wx = 10 then wx + 1 else -1 := by rw [hwi]; rfl
    rw [← hsb3] at hsv3
    refine x_if_ne (tgt := 25) (x_d C_M_table 10 rfl) rfl (fun c4 => ?_) (fun c4 => ?_)
    · refine x_sipush (x_d C_M_table 13 rfl) (by omega) ?_
      refine x_newarrayL (k := 52 + dyn.length) (h1 := hF (x_up q 1346 j3) (x_up r 1344 (some 44)) (x_up A 43 tz) ++ (dyn ++ [xA 2 300 (fun _ => 0)])) (x_d C_M_table 14 rfl) at_boolean (by omega) (by omega) (g_len0 _ _ _ _) (g_push0 _ _ _ _ _) ?_
      have hctd : ctn g cp (52 + dyn.length) := by
        refine ⟨?_, by have := ct_lt hp.1; omega, by have := ct_lt hp.2.1; omega, by have := ct_lt hp.2.2.1; omega, by have := ct_lt hp.2.2.2.1; omega, by have := ct_lt hp.2.2.2.2.1; omega, by have := ct_lt hp.2.2.2.2.2; omega⟩
        cases hz : g (52 + dyn.length) with
        | none => rfl
        | some z => have := ct_lt (hgk _ _ hz); omega
      have hts : TS g (dyn ++ [xA 2 300 (fun _ => 0)]) cp bt tb lt tr sz fis fge fpl fva fch (52 + dyn.length) (fun _ => 0) t (q 1345) (s_hi x (-1)) := ⟨PB_app hp _, ct_new0 dyn _ rfl, gok_app hgk _, hrx⟩
      have hmu1 : ∀ u w, mu u w (dyn ++ [xA 2 300 (fun _ => 0)]) = mu u w dyn + (u + 300 * w) := fun u w => by rw [mu_app, mu_cons, mu_nil]; show _ + (u + w * 300 + 0) = _; omega
      have hl1 : 52 + dyn.length ≤ 52 + (dyn ++ [xA 2 300 (fun _ => (0 : Int))]).length := by rw [List.length_append]; omega
      generalize dyn ++ [xA 2 300 (fun _ => 0)] = dyn1 at hts hmu1 hl1 ⊢
      generalize hcd : 52 + dyn.length = ctd at hctd hts ⊢
      have hwj : f + j3 = wi := by omega
      refine x_astore_n (l1 := [(3, xC ctd), (0, xC 42), (1, xC cp), (2, xI (pl))]) (x_d C_M_table 15 rfl) (by decide) rfl ?_
      refine x_iconst (x_d C_M_table 16 rfl) ⟨by omega, by omega⟩ ?_
      refine x_istore (l1 := [(4, xI (-1)), (3, xC ctd), (0, xC 42), (1, xC cp), (2, xI (pl))]) (x_d C_M_table 17 rfl) (by decide) rfl ?_
      refine x_iconst (x_d C_M_table 18 rfl) ⟨by omega, by omega⟩ ?_
      refine x_istore (l1 := [(5, xI (1)), (4, xI (-1)), (3, xC ctd), (0, xC 42), (1, xC cp), (2, xI (pl))]) (x_d C_M_table 19 rfl) (by decide) rfl ?_
      refine x_iload (x_d C_M_table 20 rfl) rfl ?_
      refine x_if_eq (tgt := 221) (x_d C_M_table 21 rfl) rfl (fun q => absurd q (by omega)) (fun _ => ?_)
      refine x_locs [3, 4, 5, 2, 1, 0] rfl ?_
      refine w_M_table_42 Z d q r (x_up A 43 tz) (by omega) X f g cp bt tb lt tr sz fva fch ctd t pl (fun u w => mu u w dyn + (u + 300 * w)) hf hn hX hB hnp hctd ht _ j3 dyn1 fis fge fpl (fun _ => 0) (s_hi x (-1)) (by omega) (by show -1 ≤ (-1 : Int) ∧ (-1 : Int) < 300; omega) hts hmu1 (fun hno j2 dyn2 h1 h2 h3 => ?_) (fun y e2 hy dyn2 fis2 fge2 fpl2 ft2 h1 h2 h3 => ?_)
      · rw [hwj] at hno
        rw [hno]
        exact ⟨j2, q 1354, tz, dyn2, by rw [← hsame], h1, fun u w => by rw [h3 u w]; exact Nat.le_refl _, Or.inl ⟨rfl, rfl, h2⟩⟩
      · rw [hwj] at hy
        have hin := s_sect_in hy
        rw [hy, Option.bind_some]
        have hl2 : ctd ≤ 52 + dyn2.length := by
          have a1 := hmu1 1 0
          have a2 := h2 1 0
          unfold mu at a1 a2
          have a2 : 1 * dyn2.length + 0 * x_S dyn2 = (1 * dyn.length + 0 * x_S dyn) + (1 + 300 * 0) := a2
          omega
        have := w_M_table_185 Z d q r A hd X f g cp bt tb lt tr sz fva fch ctd t pl ctd (fun u w => mu u w dyn) tz hf hn hX hB hnp hctd ht htr 4000 (e2 - f) dyn2 fis2 fge2 fpl2 ft2 y (by omega) (by omega) h3 h1 hl2 h2
        rw [show f + (e2 - f) = e2 by omega] at this
        exact this
    · refine x_iconst (x_d C_M_table 11 rfl) ⟨by omega, by omega⟩ ?_
      refine x_ireturn (x_d C_M_table 12 rfl) ?_
      rw [hneg (by first | omega | (have := s_byte_in X (f + q 1345) wx; omega))]
      exact ⟨_, q 1354, tz, dyn, by rw [← hsame], by omega, fun u w => Nat.le_add_right _ _, Or.inl ⟨rfl, rfl, hgk⟩⟩
