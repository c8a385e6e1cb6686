/-! the reference: a stream -/
/-- behind the word endstream: L the length, st the place behind the word stream -/
def s_es (b : Nat → Int) (n L st : Int) : Int := if 0 ≤ s_abyte b n st 10 ∧ 0 ≤ L ∧ L ≤ n - s_abyte b n st 10 then s_the b n (s_abyte b n (s_abyte b n st 10 + L) 10) [101, 110, 100, 115, 116, 114, 101, 97, 109] else -1
/-- the parts of a stream -/
def s_st9 (a L : Int) (ts : List tk) : List tk := (9, a, L, lsp ts 0, lnm ts 0) :: ts.tail
theorem s_st9_len (a L : Int) {ts : List tk} (h : 1 ≤ ts.length) : (s_st9 a L ts).length = ts.length := by
  unfold s_st9
  rw [List.length_cons, List.length_tail]
  omega
theorem s_st9_bh (a L : Int) (ts : List tk) : s_bh (lsp (s_st9 a L ts)) 0 = s_bh (lsp ts) 0 := rfl
theorem Tr_stream {X : Nat → Int} {E : Int} {g g2 : Nat → Option xE} {ts : List tk} {D c c2 cb : Nat} {a L x y m : Int} {bt it nm : Option Nat} {fb : Nat → Int} (ht : Tr X E g (lP ts) (D + 1) 0 c) (hk : lkd ts 0 = 7) (hg : gle g g2) (hc : g c = some (xB 12 [xI (lP ts 5 (0 : Int).toNat), xI x, xI y, xI m, xO bt, xO it, xO nm])) (hc2 : g2 c2 = some (xB 12 [xI 9, xI 0, xI 0, xI m, xC cb, xO it, xO nm])) (hcb : g2 cb = some (xA 1 L.toNat fb)) (hL : 0 ≤ a ∧ 0 ≤ L ∧ L ≤ 4000 ∧ a + L ≤ E) (hfb : ∀ k : Nat, (k : Int) < L → fb k = X (a.toNat + k)) (hl : 1 ≤ ts.length) : Tr X E g2 (lP (s_st9 a L ts)) (D + 1) 0 c2 := by
  obtain ⟨t, tl, rfl⟩ : ∃ t tl, ts = t :: tl := by
    cases ts with
    | nil => simp at hl
    | cons t tl => exact ⟨t, tl, rfl⟩
  have hsame : ∀ (k : Nat) (j : Int), 1 ≤ j → lP (s_st9 a L (t :: tl)) k (j + 0).toNat = lP (t :: tl) k j.toNat := fun k j hj => by
    rw [lP_tka, lP_tka, Int.add_zero]
    obtain ⟨m, hm⟩ : ∃ m, j.toNat = m + 1 := ⟨j.toNat - 1, by omega⟩
    rw [hm]
    rfl
  obtain ⟨h0, x1, y1, m1, bt1, it1, nm1, h1, -, L1, b1, b2, b3, b4, b5, b6, b7, b8⟩ := ht
  rw [h1] at hc
  simp only [Option.some.injEq, Sum.inr.injEq, Prod.mk.injEq, List.cons.injEq, Sum.inl.injEq, true_and, and_true] at hc
  obtain ⟨e1, e2, i3, e4, i5, i6⟩ := hc
  subst i3 i5 i6
  have hk7 : lP (t :: tl) 5 (0 : Int).toNat = 7 := hk
  have hmem : ∀ k, k < L1.length → 1 ≤ L1.getD k 0 := fun k hk => by
    have m1 := s_getD_mem hk
    have m2 := s_ch_lt b1 _ m1
    omega
  refine ⟨Int.le_refl 0, 0, 0, m1, some cb, it1, nm1, hc2, ⟨⟨by show (0 : Int) ≤ 9; omega, by show (9 : Int) ≤ 9; omega⟩, fun z => absurd (show (9 : Int) = 3 from z) (by omega), fun z => absurd (show (9 : Int) = 8 from z) (by omega), fun _ => ⟨hL.1, hL.2.1, hL.2.2.1, hL.2.2.2, cb, fb, rfl, hcb, hfb⟩, fun z => absurd (show (9 : Int) = 5 from z) (by omega), fun z => absurd (show (9 : Int) = 4 ∨ (9 : Int) = 5 ∨ (9 : Int) = 9 from Or.inr (Or.inr rfl)) z⟩, L1, ?_, b2, b3, ?_, ?_, fun z => absurd (show (9 : Int) = 6 from z) (by omega), fun z => absurd (show (9 : Int) = 7 ∨ (9 : Int) = 9 from Or.inr rfl) z, fun z => absurd (show (9 : Int) = 6 ∨ (9 : Int) = 7 ∨ (9 : Int) = 9 from Or.inr (Or.inr rfl)) z⟩
  · exact s_ch_ge b1 (fun j hj => hsame 8 j (by omega))
  · intro _
    obtain ⟨ci, cap, fi, c1, c2, c3, c4, c5⟩ := b4 (Or.inr (Or.inl hk7))
    refine ⟨ci, cap, fi, c1, hg _ _ c2, c3, c4, fun k hk => ?_⟩
    obtain ⟨cc, d1, d2⟩ := c5 k hk
    refine ⟨cc, d1, ?_⟩
    have := Tr_sh (u := 0) (P2 := lP (s_st9 a L (t :: tl))) D _ cc d2 (by have := hmem k hk; omega) (fun a _ _ j j1 _ _ => hsame a j (by have := hmem k hk; omega))
    rw [Int.add_zero] at this
    exact Tr_g hg _ _ _ this
  · intro _
    obtain ⟨cn, cap, fn, c1, c2, c3, c4, c5⟩ := b5 (Or.inl hk7)
    refine ⟨cn, cap, fn, c1, hg _ _ c2, c3, c4, fun k hk => ?_⟩
    obtain ⟨cb2, len, fb2, d1, d2, d3⟩ := c5 k hk
    refine ⟨cb2, len, fb2, d1, hg _ _ d2, ?_⟩
    have := hsame 9 (L1.getD k 0) (hmem k hk)
    rw [Int.add_zero] at this
    rw [this]
    exact d3
def k_st (u w : Nat) (b : Nat → Int) (n f : Int) (pl gn us : Nat → Int) (sz : Int) (ts : List tk) (st : Int) : Nat := k_rl u w b n f pl gn us sz ts + (if s_es b n (s_rl b n f pl gn us sz ts) st < 0 then 0 else (u + 7 * w) + (u + (s_rl b n f pl gn us sz ts).toNat * w))
theorem c_M_stream (Z : xZ) (d : Nat) (q : Nat → Int) (r : Nat → Option Nat) (A : Nat → Nat → Int) (dyn : xH) (hd : 41 ≤ d) (X : Nat → Int) (f j : Int) (tz : Nat → Int) (g : Nat → Option xE) (cp : Nat) (bt : Option Nat) (tb lt : Int) (tr : Option Nat) (sz : Int) (fis fge fpl : Nat → Int) (fva : Nat → Option Nat) (fch : Nat → Int) (pl gn us : Nat → Int) (ts : List tk) (c : Nat) (hp : PB dyn cp bt tb lt tr sz fis fge fpl fva fch) (hgk : gok g dyn) (hf : 0 ≤ f) (hn : 0 ≤ q 1345 ∧ q 1345 ≤ 4000) (hX : ∀ k : Nat, (k : Int) < q 1345 → A 44 k = X (f.toNat + k)) (hB : ∀ k, -128 ≤ X k ∧ X k ≤ 127) (hj : 0 ≤ j ∧ j ≤ q 1345) (hsz : 0 ≤ sz ∧ sz ≤ 300) (hox : OX sz (q 1345) fis fge fpl pl gn us) (ht : Tr X (f + q 1345) g (lP ts) 9 0 c) (hts : 1 ≤ ts.length) (hkd : lkd ts 0 = 7) (hst : 0 ≤ s_the X (f + q 1345) (f + j) [115, 116, 114, 101, 97, 109]) : xMet Z d Y_M_stream [xC 42, xC cp, xC c] (hF (x_up q 1346 j) (x_up r 1344 (some 44)) (x_up A 43 tz) ++ dyn) (fun v h2 => ∃ j2 tk2 ny, h2 = hF (x_up q 1346 j2) (x_up r 1344 (some 44)) (x_up A 43 tk2) ++ (dyn ++ ny) ∧ (0 ≤ j2 ∧ j2 ≤ q 1345) ∧ (∀ u w, mu u w ny ≤ k_st u w X (f + q 1345) f pl gn us sz ts (s_the X (f + q 1345) (f + j) [115, 116, 114, 101, 97, 109])) ∧ ((s_es X (f + q 1345) (s_rl X (f + q 1345) f pl gn us sz ts) (s_the X (f + q 1345) (f + j) [115, 116, 114, 101, 97, 109]) < 0 ∧ v = some xN) ∨ ∃ c2 g2, 0 ≤ s_es X (f + q 1345) (s_rl X (f + q 1345) f pl gn us sz ts) (s_the X (f + q 1345) (f + j) [115, 116, 114, 101, 97, 109]) ∧ v = some (xC c2) ∧ f + j2 = s_es X (f + q 1345) (s_rl X (f + q 1345) f pl gn us sz ts) (s_the X (f + q 1345) (f + j) [115, 116, 114, 101, 97, 109]) ∧ gle g g2 ∧ gok g2 (dyn ++ ny) ∧ gnw g g2 (52 + dyn.length) ∧ Tr X (f + q 1345) g2 (lP (s_st9 (s_abyte X (f + q 1345) (s_the X (f + q 1345) (f + j) [115, 116, 114, 101, 97, 109]) 10) (s_rl X (f + q 1345) f pl gn us sz ts) ts)) 9 0 c2)) := by
  refine xMet_of (by decide) (Nat.le_of_ble_eq_true rfl) (fun v h2 hq => by obtain ⟨_, _, _, _, _, _, ⟨_, e⟩ | ⟨_, _, _, e, _⟩⟩ := hq <;> rw [e] <;> trivial) ?_
  obtain ⟨st, hst9⟩ : ∃ z, z = s_the X (f + q 1345) (f + j) [115, 116, 114, 101, 97, 109] := ⟨_, rfl⟩
  obtain ⟨wa, hwa⟩ : ∃ z, z = s_abyte X (f + q 1345) st 10 := ⟨_, rfl⟩
  obtain ⟨L, hL⟩ : ∃ z, z = s_rl X (f + q 1345) f pl gn us sz ts := ⟨_, rfl⟩
  have hwe : s_sc s_reg X (f + q 1345) (f + j) = st := by
    have h1 := (s_the_word (b := X) (n := (f + q 1345)) (p := f + j) (cs := [115, 116, 114, 101, 97, 109]) (by omega) (by decide)).mpr hst
    have h2 := s_the_in X (f + q 1345) (f + j) [115, 116, 114, 101, 97, 109]
    have h1 := h1.1
    simp only [List.length_cons, List.length_nil] at h1 h2
    omega
  have hti := s_the_in X (f + q 1345) (f + j) [115, 116, 114, 101, 97, 109]
  simp only [List.length_cons, List.length_nil] at hti
  have hab := s_abyte_in X (f + q 1345) st 10
  rw [← hst9] at hti hst ⊢
  rw [← hwa] at hab
  have hkst : ∀ u w, k_st u w X (f + q 1345) f pl gn us sz ts st = k_rl u w X (f + q 1345) f pl gn us sz ts + (if s_es X (f + q 1345) L st < 0 then 0 else (u + 7 * w) + (u + L.toNat * w)) := fun u w => by unfold k_st; rw [← hL]
  have hes : s_es X (f + q 1345) L st = if 0 ≤ wa ∧ 0 ≤ L ∧ L ≤ (f + q 1345) - wa then s_the X (f + q 1345) (s_abyte X (f + q 1345) (wa + L) 10) [101, 110, 100, 115, 116, 114, 101, 97, 109] else -1 := by unfold s_es; rw [← hwa]
  rw [← hL, ← hwa]
  obtain ⟨-, x4, y4, m4, bt4, it4, nm4, hc4, htl4, -, -, hch4, -⟩ := Tr_o ht
  have hnone : ∀ jj, s_es X (f + q 1345) L st < 0 → (0 ≤ jj ∧ jj ≤ q 1345) → (fun v h2 => ∃ j2 tk2 ny, h2 = hF (x_up q 1346 j2) (x_up r 1344 (some 44)) (x_up A 43 tk2) ++ (dyn ++ ny) ∧ (0 ≤ j2 ∧ j2 ≤ q 1345) ∧ (∀ u w, mu u w ny ≤ k_st u w X (f + q 1345) f pl gn us sz ts (st)) ∧ ((s_es X (f + q 1345) (L) (st) < 0 ∧ v = some xN) ∨ ∃ c2 g2, 0 ≤ s_es X (f + q 1345) (L) (st) ∧ v = some (xC c2) ∧ f + j2 = s_es X (f + q 1345) (L) (st) ∧ gle g g2 ∧ gok g2 (dyn ++ ny) ∧ gnw g g2 (52 + dyn.length) ∧ Tr X (f + q 1345) g2 (lP (s_st9 (wa) (L) ts)) 9 0 c2)) (some xN) (hF (x_up q 1346 jj) (x_up r 1344 (some 44)) (x_up A 43 tz) ++ dyn) := fun jj h1 h2 => ⟨jj, tz, [], by rw [List.append_nil], h2, fun u w => Nat.zero_le _, Or.inl ⟨h1, rfl⟩⟩
  have hlc : ∀ a b : Int, (x_lc a b ≤ 0 ∧ a ≤ b) ∨ (0 < x_lc a b ∧ b < a) := fun a b => by unfold x_lc; (repeat' split) <;> omega
  refine x_aload_n (x_d C_M_stream 0 rfl) rfl ?_
  refine x_aload_n (x_d C_M_stream 1 rfl) rfl ?_
  refine x_aload_n (x_d C_M_stream 2 rfl) rfl ?_
  refine x_getfield (v := xI (j)) (x_d C_M_stream 3 rfl) f_M_7 rfl rfl ?_
  refine x_invokevirtual (st := [xC 42]) (av := [xI (j)]) (x_d C_M_stream 4 rfl) k_M_38 m_M_wordEnd v_M_wordEnd cl_M rfl rfl (Nat.le_of_ble_eq_true rfl) (by omega) rfl (c_M_wordEnd Z (d - 1) q r (x_up A 43 tz) dyn (by omega) X f j j hf hn hX (by omega)) ?_
  rintro v_ _ ⟨hv_, rfl⟩
  obtain rfl : v_ = some (xI (st - f)) := by rw [hv_, hwe]
  refine x_putfield (h1 := hF (x_up q 1346 (st - f)) (x_up r 1344 (some 44)) (x_up A 43 tz) ++ dyn) (x_d C_M_stream 5 rfl) p_M_7 rfl rfl rfl trivial rfl ?_
  refine x_aload_n (x_d C_M_stream 6 rfl) rfl ?_
  refine x_bipush (x_d C_M_stream 7 rfl) (by omega) ?_
  refine x_invokevirtual (st := []) (av := [xI (10)]) (x_d C_M_stream 8 rfl) k_M_132 m_M_takeByte v_M_takeByte cl_M rfl rfl (Nat.le_of_ble_eq_true rfl) (by omega) rfl (c_M_takeByte Z (d - 1) q r (x_up A 43 tz) dyn X f (st - f) 10 hf hn hX (by omega) hB (by omega)) ?_
  rintro v_ _ ⟨z1, j1, rfl, rfl, hz1⟩
  have hz1 : (z1 = 1 ∧ s_byte X (f + q 1345) (f + (st - f)) = 10 ∧ j1 = st - f + 1 ∧ st - f < q 1345) ∨ (z1 = 0 ∧ ¬ s_byte X (f + q 1345) (f + (st - f)) = 10 ∧ j1 = st - f) := hz1
  rw [show f + (st - f) = st by omega] at hz1
  have hwv : wa = if s_byte X (f + q 1345) st = 10 then st + 1 else -1 := by rw [hwa]; rfl
  refine x_if_ne (tgt := 23) (x_d C_M_stream 9 rfl) rfl (fun c2 => ?_) (fun c2 => ?_)
  · refine x_aload_n (x_d C_M_stream 12 rfl) rfl ?_
    refine x_getfield (v := xI (j1)) (x_d C_M_stream 13 rfl) f_M_7 rfl rfl ?_
    refine x_istore_n (l1 := [(3, xI (j1)), (0, xC 42), (1, xC cp), (2, xC c)]) (x_d C_M_stream 14 rfl) (by decide) rfl ?_
    refine x_aload_n (x_d C_M_stream 15 rfl) rfl ?_
    refine x_aload_n (x_d C_M_stream 16 rfl) rfl ?_
    refine x_aload_n (x_d C_M_stream 17 rfl) rfl ?_
    refine x_ldcSw (i := 68) (x_d C_M_stream 18 rfl) rfl ?_
    refine x_invokevirtual (st := [xC cp, xC 42]) (av := [xS (2 * 68 + 1)]) (x_d C_M_stream 19 rfl) k_M_256 m_MQ_get2 v_MQ_get2 cl_MQ (ct_get (hgk _ _ hc4) _ _ _) rfl (Nat.le_of_ble_eq_true rfl) (by omega) rfl (t_get2 Z (d - 1) (hF (x_up q 1346 j1) (x_up r 1344 (some 44)) (x_up A 43 tz) ++ dyn) X (f + q 1345) g (lP ts) 8 0 c (gh_of hgk _ _ _) ht (by omega) (si := 68) rfl (by decide) (by decide) (f + q 1345) (Int.le_refl _)) ?_
    rintro v_ h_ ⟨hh_, x_A, hv_, hA⟩
    rw [hh_]
    clear hh_
    obtain rfl := hv_
    have hl9 : (s_lnj X (f + q 1345) ts < 0 ∧ x_A = none) ∨ (0 ≤ s_lnj X (f + q 1345) ts ∧ ∃ c2, x_A = some c2 ∧ Tr X (f + q 1345) g (lP ts) 8 (s_lnj X (f + q 1345) ts) c2) := by
      rcases hA with ⟨z1, z2⟩ | ⟨z1, -, c2, z2, z3⟩
      · exact Or.inl ⟨by show s_nam (lsp ts) (lnm ts) X (f + q 1345) 0 [76, 101, 110, 103, 116, 104] < 0; have z1 : s_nam (lsp ts) (lnm ts) X (f + q 1345) 0 [76, 101, 110, 103, 116, 104] = -1 := z1; omega, z2⟩
      · exact Or.inr ⟨z1, c2, z2, z3⟩
    refine x_invokevirtual (st := []) (av := [xC cp, xO x_A]) (x_d C_M_stream 20 rfl) k_M_305 m_M_lengthOf v_M_lengthOf cl_M rfl rfl (Nat.le_of_ble_eq_true rfl) (by omega) rfl (c_M_lengthOf Z (d - 1) q r A dyn (by omega) X f j1 tz g cp bt tb lt tr sz fis fge fpl fva fch pl gn us ts x_A hp hgk hf hn hX hB (by omega) hsz hox hl9) ?_
    rintro v_ h_ ⟨j5, tk5, ny, hv_, rfl, hj5, hLb, hmu5⟩
    rw [← hL] at hv_ hLb
    obtain rfl := hv_
    have hnone : ∀ jj, s_es X (f + q 1345) L st < 0 → (0 ≤ jj ∧ jj ≤ q 1345) → _ := fun jj h1 h2 => (show (fun v h2 => ∃ j2 tk2 ny, h2 = hF (x_up q 1346 j2) (x_up r 1344 (some 44)) (x_up A 43 tk2) ++ (dyn ++ ny) ∧ (0 ≤ j2 ∧ j2 ≤ q 1345) ∧ (∀ u w, mu u w ny ≤ k_st u w X (f + q 1345) f pl gn us sz ts (st)) ∧ ((s_es X (f + q 1345) (L) (st) < 0 ∧ v = some xN) ∨ ∃ c2 g2, 0 ≤ s_es X (f + q 1345) (L) (st) ∧ v = some (xC c2) ∧ f + j2 = s_es X (f + q 1345) (L) (st) ∧ gle g g2 ∧ gok g2 (dyn ++ ny) ∧ gnw g g2 (52 + dyn.length) ∧ Tr X (f + q 1345) g2 (lP (s_st9 (wa) (L) ts)) 9 0 c2)) (some xN) (hF (x_up q 1346 jj) (x_up r 1344 (some 44)) (x_up A 43 tk5) ++ (dyn ++ ny)) from ⟨jj, tk5, ny, rfl, h2, fun u w => by have := hmu5 u w; have := hkst u w; omega, Or.inl ⟨h1, rfl⟩⟩)
    have hgk2 : gok g (dyn ++ ny) := gok_app hgk ny
    have hlen : 52 + dyn.length ≤ 52 + (dyn ++ ny).length := by rw [List.length_append]; omega
    generalize hdy : dyn ++ ny = dy at hnone hgk2 hlen ⊢
    have hlc1 := hlc (j1 + L) (q 1345)
    refine x_istore (l1 := [(4, xI (L)), (3, xI (j1)), (0, xC 42), (1, xC cp), (2, xC c)]) (x_d C_M_stream 21 rfl) (by decide) rfl ?_
    refine x_iload (x_d C_M_stream 22 rfl) rfl ?_
    refine x_if_lt (tgt := 62) (x_d C_M_stream 23 rfl) rfl (fun c103 => ?_) (fun c103 => ?_)
    · refine x_null (x_d C_M_stream 34 rfl) ?_
      refine x_areturn (x_d C_M_stream 35 rfl) ?_
      exact hnone _ (by first | omega | (rw [hes, if_neg (by omega)]; omega)) (by omega)
    · refine x_iload_n (x_d C_M_stream 24 rfl) rfl ?_
      refine x_i2l (x_d C_M_stream 25 rfl) ?_
      refine x_iload (x_d C_M_stream 26 rfl) rfl ?_
      refine x_i2l (x_d C_M_stream 27 rfl) ?_
      refine x_ladd (x_d C_M_stream 28 rfl) ⟨by omega, by omega⟩ ?_
      refine x_aload_n (x_d C_M_stream 29 rfl) rfl ?_
      refine x_getfield (v := xI (q 1345)) (x_d C_M_stream 30 rfl) f_M_11 rfl rfl ?_
      refine x_i2l (x_d C_M_stream 31 rfl) ?_
      refine x_lcmp (x_d C_M_stream 32 rfl) ?_
      refine x_if_le (tgt := 64) (x_d C_M_stream 33 rfl) rfl (fun c104 => ?_) (fun c104 => ?_)
      · refine x_aload_n (x_d C_M_stream 36 rfl) rfl ?_
        refine x_iload_n (x_d C_M_stream 37 rfl) rfl ?_
        refine x_iload (x_d C_M_stream 38 rfl) rfl ?_
        refine x_iadd (x_d C_M_stream 39 rfl) ⟨by omega, by omega⟩ ?_
        refine x_putfield (h1 := hF (x_up q 1346 (j1 + L)) (x_up r 1344 (some 44)) (x_up A 43 tk5) ++ dy) (x_d C_M_stream 40 rfl) p_M_7 rfl rfl rfl trivial rfl ?_
        refine x_aload_n (x_d C_M_stream 41 rfl) rfl ?_
        refine x_bipush (x_d C_M_stream 42 rfl) (by omega) ?_
        refine x_invokevirtual (st := []) (av := [xI (10)]) (x_d C_M_stream 43 rfl) k_M_132 m_M_takeByte v_M_takeByte cl_M rfl rfl (Nat.le_of_ble_eq_true rfl) (by omega) rfl (c_M_takeByte Z (d - 1) q r (x_up A 43 tk5) dy X f (j1 + L) 10 hf hn hX (by omega) hB (by omega)) ?_
        rintro v_ _ ⟨z105, j105, rfl, rfl, hz105⟩
        have hz105 : (z105 = 1 ∧ s_byte X (f + q 1345) (f + (j1 + L)) = 10 ∧ j105 = j1 + L + 1 ∧ j1 + L < q 1345) ∨ (z105 = 0 ∧ ¬ s_byte X (f + q 1345) (f + (j1 + L)) = 10 ∧ j105 = j1 + L) := hz105
        rw [show f + (j1 + L) = wa + L by omega] at hz105
        obtain ⟨wb, hwb⟩ : ∃ z, z = s_abyte X (f + q 1345) (wa + L) 10 := ⟨_, rfl⟩
        have hwbv : wb = if s_byte X (f + q 1345) (wa + L) = 10 then wa + L + 1 else -1 := by rw [hwb]; rfl
        rw [← hwb, if_pos (by omega)] at hes
        have hti2 := s_the_in X (f + q 1345) wb [101, 110, 100, 115, 116, 114, 101, 97, 109]
        simp only [List.length_cons, List.length_nil] at hti2
        refine x_if_eq (tgt := 91) (x_d C_M_stream 44 rfl) rfl (fun c106 => ?_) (fun c106 => ?_)
        · refine x_null (x_d C_M_stream 49 rfl) ?_
          refine x_areturn (x_d C_M_stream 50 rfl) ?_
          exact hnone _ (by first | omega | (rw [hes, if_neg (by omega)]; omega)) (by omega)
        · refine x_aload_n (x_d C_M_stream 45 rfl) rfl ?_
          refine x_ldcSw (i := 69) (x_d C_M_stream 46 rfl) rfl ?_
          refine x_invokevirtual (st := []) (av := [xS (139)]) (x_d C_M_stream 47 rfl) k_M_103 m_M_takeWord v_M_takeWord cl_M rfl rfl (Nat.le_of_ble_eq_true rfl) (by omega) rfl (c_M_takeWord Z (d - 1) q r (x_up A 43 tk5) dy (by omega) X f j105 (si := 69) rfl hf hn hX (by omega) (by decide)) ?_
          rintro v_ _ ⟨z107, j107, rfl, rfl, hz107⟩
          have hz107 : (z107 = 1 ∧ 0 ≤ s_the X (f + q 1345) (f + j105) [101, 110, 100, 115, 116, 114, 101, 97, 109] ∧ j107 = s_the X (f + q 1345) (f + j105) [101, 110, 100, 115, 116, 114, 101, 97, 109] - f) ∨ (z107 = 0 ∧ s_the X (f + q 1345) (f + j105) [101, 110, 100, 115, 116, 114, 101, 97, 109] < 0 ∧ j107 = j105) := hz107
          have hti107 := s_the_in X (f + q 1345) (f + j105) [101, 110, 100, 115, 116, 114, 101, 97, 109]
          simp only [List.length_cons, List.length_nil] at hti107
          rw [show f + j105 = wb by omega, ← hes] at hz107
          refine x_if_ne (tgt := 93) (x_d C_M_stream 48 rfl) rfl (fun c108 => ?_) (fun c108 => ?_)
          · refine x_newL (k := 52 + dy.length) (h1 := hF (x_up q 1346 j107) (x_up r 1344 (some 44)) (x_up A 43 tk5) ++ (dy ++ [xB 12 [xI (0), xI (0), xI (0), xI (0), xN, xN, xN]])) (x_d C_M_stream 51 rfl) n_M_82 (g_len0 _ _ _ _) (g_push0 _ _ _ _ _) ?_
            refine x_dup (x_d C_M_stream 52 rfl) rfl ?_
            refine x_bipush (x_d C_M_stream 53 rfl) (by omega) ?_
            refine x_invokespecial (st := [xC (52 + dy.length)]) (av := [xI (9)]) (x_d C_M_stream 54 rfl) k_M_84 m_MQ_init rfl v_MQ_init rfl (Nat.le_of_ble_eq_true rfl) (by omega) rfl (c_MQ_init Z (d - 1) (hF (x_up q 1346 j107) (x_up r 1344 (some 44)) (x_up A 43 tk5) ++ (dy ++ [xB 12 [xI (0), xI (0), xI (0), xI (0), xN, xN, xN]])) (by omega) (52 + dy.length) 9 (ct_get (ct_new0 dy [xB 12 [xI (0), xI (0), xI (0), xI (0), xN, xN, xN]] rfl) _ _ _)) ?_
            rintro _ h_ ⟨rfl, hh_⟩
            obtain rfl : h_ = hF (x_up q 1346 j107) (x_up r 1344 (some 44)) (x_up A 43 tk5) ++ (dy ++ [xB 12 [xI (9), xI (0), xI (0), xI (0), xN, xN, xN]]) := hh_.trans (g_setl0 _ _ _ _ [xB 12 [xI (0), xI (0), xI (0), xI (0), xN, xN, xN]] _)
            refine x_astore (l1 := [(5, xC (52 + dy.length)), (4, xI (L)), (3, xI (j1)), (0, xC 42), (1, xC cp), (2, xC c)]) (x_d C_M_stream 55 rfl) (by decide) rfl ?_
            refine x_aload (x_d C_M_stream 56 rfl) rfl ?_
            refine x_aload_n (x_d C_M_stream 57 rfl) rfl ?_
            refine x_getfield (v := xI (m4)) (x_d C_M_stream 58 rfl) f_M_145 (ct_get (gok_app hgk2 [xB 12 [xI (9), xI (0), xI (0), xI (0), xN, xN, xN]] _ _ hc4) _ _ _) rfl ?_
            refine x_putfield (h1 := hF (x_up q 1346 j107) (x_up r 1344 (some 44)) (x_up A 43 tk5) ++ (dy ++ [xB 12 [xI (9), xI (0), xI (0), xI (m4), xN, xN, xN]])) (x_d C_M_stream 59 rfl) p_M_145 (ct_get (ct_new0 dy [xB 12 [xI (9), xI (0), xI (0), xI (0), xN, xN, xN]] rfl) _ _ _) rfl rfl trivial (g_setl0 _ _ _ _ [xB 12 [xI (9), xI (0), xI (0), xI (0), xN, xN, xN]] _) ?_
            refine x_aload (x_d C_M_stream 60 rfl) rfl ?_
            refine x_aload_n (x_d C_M_stream 61 rfl) rfl ?_
            refine x_getfield (v := xO (it4)) (x_d C_M_stream 62 rfl) f_M_141 (ct_get (gok_app hgk2 [xB 12 [xI (9), xI (0), xI (0), xI (m4), xN, xN, xN]] _ _ hc4) _ _ _) rfl ?_
            refine x_putfield (h1 := hF (x_up q 1346 j107) (x_up r 1344 (some 44)) (x_up A 43 tk5) ++ (dy ++ [xB 12 [xI (9), xI (0), xI (0), xI (m4), xN, xO (it4), xN]])) (x_d C_M_stream 63 rfl) p_M_141 (ct_get (ct_new0 dy [xB 12 [xI (9), xI (0), xI (0), xI (m4), xN, xN, xN]] rfl) _ _ _) rfl rfl trivial (g_setl0 _ _ _ _ [xB 12 [xI (9), xI (0), xI (0), xI (m4), xN, xN, xN]] _) ?_
            refine x_aload (x_d C_M_stream 64 rfl) rfl ?_
            refine x_aload_n (x_d C_M_stream 65 rfl) rfl ?_
            refine x_getfield (v := xO (nm4)) (x_d C_M_stream 66 rfl) f_M_156 (ct_get (gok_app hgk2 [xB 12 [xI (9), xI (0), xI (0), xI (m4), xN, xO (it4), xN]] _ _ hc4) _ _ _) rfl ?_
            refine x_putfield (h1 := hF (x_up q 1346 j107) (x_up r 1344 (some 44)) (x_up A 43 tk5) ++ (dy ++ [xB 12 [xI (9), xI (0), xI (0), xI (m4), xN, xO (it4), xO (nm4)]])) (x_d C_M_stream 67 rfl) p_M_156 (ct_get (ct_new0 dy [xB 12 [xI (9), xI (0), xI (0), xI (m4), xN, xO (it4), xN]] rfl) _ _ _) rfl rfl trivial (g_setl0 _ _ _ _ [xB 12 [xI (9), xI (0), xI (0), xI (m4), xN, xO (it4), xN]] _) ?_
            refine x_aload (x_d C_M_stream 68 rfl) rfl ?_
            refine x_aload_n (x_d C_M_stream 69 rfl) rfl ?_
            refine x_getfield (v := xC 44) (x_d C_M_stream 70 rfl) f_M_14 rfl rfl ?_
            refine x_iload_n (x_d C_M_stream 71 rfl) rfl ?_
            refine x_iload_n (x_d C_M_stream 72 rfl) rfl ?_
            refine x_iload (x_d C_M_stream 73 rfl) rfl ?_
            refine x_iadd (x_d C_M_stream 74 rfl) ⟨by omega, by omega⟩ ?_
            refine x_invokestatic (st := [xC (52 + dy.length)]) (av := [xC 44, xI (j1), xI (j1 + L)]) (x_d C_M_stream 75 rfl) k_M_113 m_Ar_copyOfRange s_Ar_copyOfRange rfl (Nat.le_of_ble_eq_true rfl) (by omega) rfl (c_Ar_copyOfRange Z (d - 1) (hF (x_up q 1346 j107) (x_up r 1344 (some 44)) (x_up A 43 tk5) ++ (dy ++ [xB 12 [xI (9), xI (0), xI (0), xI (m4), xN, xO (it4), xO (nm4)]])) (by omega) 44 4000 (A 44) j1 (j1 + L) rfl (by omega)) ?_
            rintro v_ h_ ⟨g109, hv_, hh_, hg109⟩
            obtain rfl : v_ = some (xC (52 + dy.length + 1)) := by rw [hv_, g_len _ _ _ _ [xB 12 [xI (9), xI (0), xI (0), xI (m4), xN, xO (it4), xO (nm4)]] (n := 1) rfl]
            obtain rfl : h_ = hF (x_up q 1346 j107) (x_up r 1344 (some 44)) (x_up A 43 tk5) ++ (dy ++ [xB 12 [xI (9), xI (0), xI (0), xI (m4), xN, xO (it4), xO (nm4)], xA 1 ((j1 + L) - j1).toNat g109]) := hh_.trans (g_push _ _ _ _ [xB 12 [xI (9), xI (0), xI (0), xI (m4), xN, xO (it4), xO (nm4)]] _)
            refine x_putfield (h1 := hF (x_up q 1346 j107) (x_up r 1344 (some 44)) (x_up A 43 tk5) ++ (dy ++ [xB 12 [xI (9), xI (0), xI (0), xI (m4), xC (52 + dy.length + 1), xO (it4), xO (nm4)], xA 1 ((j1 + L) - j1).toNat g109])) (x_d C_M_stream 76 rfl) p_M_119 (ct_get (ct_new0 dy [xB 12 [xI (9), xI (0), xI (0), xI (m4), xN, xO (it4), xO (nm4)], xA 1 ((j1 + L) - j1).toNat g109] rfl) _ _ _) rfl rfl trivial (g_setl0 _ _ _ _ [xB 12 [xI (9), xI (0), xI (0), xI (m4), xN, xO (it4), xO (nm4)], xA 1 ((j1 + L) - j1).toNat g109] _) ?_
            refine x_aload (x_d C_M_stream 77 rfl) rfl ?_
            refine x_areturn (x_d C_M_stream 78 rfl) ?_
            have hgl : gle g (x_up (x_up g (52 + dy.length) (some (xB 12 [xI (9), xI (0), xI (0), xI (m4), xC (52 + dy.length + 1), xO (it4), xO (nm4)]))) (52 + dy.length + 1) (some (xA 1 ((j1 + L) - j1).toNat g109))) := by
              intro c9 e9 z9
              have := ct_lt (hgk2 c9 e9 z9)
              rw [x_up_n _ _ (by omega), x_up_n _ _ (by omega)]
              exact z9
            refine ⟨j107, tk5, ny ++ [xB 12 [xI (9), xI (0), xI (0), xI (m4), xC (52 + dy.length + 1), xO (it4), xO (nm4)], xA 1 ((j1 + L) - j1).toNat g109], ?_, by omega, fun u w => ?_, Or.inr ⟨52 + dy.length, x_up (x_up g (52 + dy.length) (some (xB 12 [xI (9), xI (0), xI (0), xI (m4), xC (52 + dy.length + 1), xO (it4), xO (nm4)]))) (52 + dy.length + 1) (some (xA 1 ((j1 + L) - j1).toNat g109)), by omega, rfl, ?_, hgl, ?_, ?_, ?_⟩⟩
            · rw [← hdy, List.append_assoc]
            · have a1 := hmu5 u w
              have a2 := hkst u w
              rw [if_neg (by omega)] at a2
              rw [mu_app, mu_cons, mu_cons, mu_nil]
              have a3 : u + w * x_sz (xB 12 [xI (9), xI (0), xI (0), xI (m4), xC (52 + dy.length + 1), xO (it4), xO (nm4)]) + (u + w * x_sz (xA 1 ((j1 + L) - j1).toNat g109) + 0) = u + w * 7 + (u + w * (j1 + L - (j1)).toNat + 0) := rfl
              rw [a3, show (j1 + L - (j1)).toNat = L.toNat by omega, Nat.mul_comm w L.toNat]
              omega
            · omega
            · rw [← List.append_assoc, hdy]
              exact gok_new (gok_new (gok_app hgk2 _) (ct_new0 dy _ rfl)) (ct_new dy _ 1 rfl)
            · exact gnw_up (gnw_up (gnw_rf g _) hlen _) (by omega) _
            · refine Tr_stream (D := 8) ht hkd hgl hc4 (fb := g109) (cb := 52 + dy.length + 1) ?_ ?_ ?_ ?_ hts
              · rw [x_up_n _ _ (by omega), x_up_s]
              · rw [x_up_s, show (j1 + L - (j1)).toNat = L.toNat by omega]
              · omega
              · intro k hk
                rw [hg109 k (by omega)]
                have := hX ((j1).toNat + k) (by omega)
                rw [show wa.toNat + k = f.toNat + ((j1).toNat + k) by omega]
                exact this
          · refine x_null (x_d C_M_stream 49 rfl) ?_
            refine x_areturn (x_d C_M_stream 50 rfl) ?_
            exact hnone _ (by first | omega | (rw [hes, if_neg (by omega)]; omega)) (by omega)
      · refine x_null (x_d C_M_stream 34 rfl) ?_
        refine x_areturn (x_d C_M_stream 35 rfl) ?_
        exact hnone _ (by first | omega | (rw [hes, if_neg (by omega)]; omega)) (by omega)
  · refine x_null (x_d C_M_stream 10 rfl) ?_
    refine x_areturn (x_d C_M_stream 11 rfl) ?_
    exact hnone _ (by rw [hes, if_neg (by omega)]; omega) (by omega)
