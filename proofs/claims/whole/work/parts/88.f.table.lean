/-! the reference: a table is whole -/
theorem s_txt60 {b : Nat → Int} (hB : ∀ j, -128 ≤ b j ∧ b j ≤ 127) (n i : Int) : (s_byte b n i = 60 ∧ s_byte b n (i + 1) = 60 ∧ s_txt b n i [60, 60] = i + 2) ∨ (¬ (s_byte b n i = 60 ∧ s_byte b n (i + 1) = 60) ∧ s_txt b n i [60, 60] = -1) := by
  have h0 := s_byte_in b n i
  have h1 := s_byte_in b n (i + 1)
  have B0 := hB i.toNat
  have B1 := hB (i + 1).toNat
  have hm : s_match b [60, 60] i.toNat = (decide (b i.toNat = 60) && (decide (b (i.toNat + 1) = 60) && true)) := rfl
  by_cases c : s_byte b n i = 60 ∧ s_byte b n (i + 1) = 60
  · refine Or.inl ⟨c.1, c.2, ?_⟩
    have e1 : b i.toNat = 60 := by omega
    have e2 : b (i.toNat + 1) = 60 := by rw [show i.toNat + 1 = (i + 1).toNat by omega]; omega
    unfold s_txt
    rw [if_pos ⟨by omega, by show i + 2 ≤ n; omega, by rw [hm, e1, e2]; rfl⟩]
    rfl
  · refine Or.inr ⟨c, ?_⟩
    unfold s_txt
    rw [if_neg]
    rintro ⟨z1, z2, z3⟩
    have z2 : i + 2 ≤ n := z2
    rw [hm, Bool.and_eq_true, Bool.and_eq_true, decide_eq_true_eq, decide_eq_true_eq, show i.toNat + 1 = (i + 1).toNat by omega] at z3
    omega
theorem s_bx_kd {k : Int} {acc ts : List tk} {x : Option (List tk × Int)} {e : Int} (h : s_bx k acc x = some (ts, e)) : lkd ts 0 = k := by
  cases x with
  | none => cases h
  | some y =>
    have := congrArg Prod.fst (Option.some.inj h)
    have this : (k, 0, 0, ((acc ++ y.1).length : Int) + 1, -1) :: (acc ++ y.1) = ts := this
    rw [← this]
    rfl
theorem x_up_same {α : Type} (f : Nat → α) (k : Nat) : x_up f k (f k) = f := by
  funext m
  by_cases e : m = k
  · rw [e, x_up_s]
  · exact x_up_n _ _ e
theorem s_leaf_kd {b : Nat → Int} {n i j : Int} {ts : List tk} (h : s_leaf b n i = some (ts, j)) : ¬ lkd ts 0 = 7 := by
  have one : ∀ (k a c e : Int), some ([s_one k a c], e) = some (ts, j) → ¬ k = 7 → ¬ lkd ts 0 = 7 := fun k a c e z hk => by
    have := congrArg Prod.fst (Option.some.inj z)
    have this : [s_one k a c] = ts := this
    rw [← this]
    exact hk
  unfold s_leaf at h
  split at h
  · cases hs : s_str b n 101 (i + 1) 0 with
    | none => rw [hs] at h; cases h
    | some x => rw [hs] at h; exact one 5 _ _ _ h (by omega)
  · split at h
    · cases hs : s_prs b n 101 (i + 1) 0 with
      | none => rw [hs] at h; cases h
      | some x => rw [hs] at h; exact one 5 _ _ _ h (by omega)
    · split at h
      · split at h
        · cases h
        · exact one 4 _ _ _ h (by omega)
      · unfold s_word s_con at h
        split at h
        · split at h
          · exact one 0 _ _ _ h (by omega)
          · split at h
            · exact one 1 _ _ _ h (by omega)
            · split at h
              · exact one 2 _ _ _ h (by omega)
              · cases h
        · split at h
          · exact one 8 _ _ _ h (by omega)
          · exact one 3 _ _ _ h (by omega)
theorem s_val_kd {b : Nat → Int} {n i j : Int} {D : Nat} {ts : List tk} (h : s_val b n D i = some (ts, j)) (hb : ¬ (s_byte b n i = 60 ∧ s_byte b n (i + 1) = 60)) : ¬ lkd ts 0 = 7 := by
  cases D with
  | zero =>
    unfold s_val at h
    split at h
    · cases h
    · exact s_leaf_kd h
  | succ D =>
    unfold s_val at h
    split at h
    · cases hs : s_items (s_val b n D) b n 60 (s_sc s_white b n (i + 1)) with
      | none => rw [hs] at h; cases h
      | some x =>
        rw [hs] at h
        have := congrArg Prod.fst (Option.some.inj h)
        have this : (6, 0, 0, (x.1.length : Int) + 1, -1) :: x.1 = ts := this
        rw [← this]
        show ¬ (6 : Int) = 7
        omega
    · exact s_leaf_kd h
/-- what a table costs -/
def k_tr (u w : Nat) (X : Nat → Int) (T : Int) (s : Option (ost × Int)) : Nat := (u + 300 * w) + (s.map (fun y => k_val u w X T 8 (s_abyte X T y.2 10))).getD 0
def s_old (p : Option Int) : Int := match p with
  | none => -1
  | some v => if v < 0 then -2 else v
theorem gnp_gnw {g g2 : Nat → Option xE} {dy : xH} {cp : Nat} {bt : Option Nat} {tb lt : Int} {tr : Option Nat} {sz : Int} {fis fge fpl : Nat → Int} {fva : Nat → Option Nat} {fch : Nat → Int} (h : gnw g g2 (52 + dy.length)) (hp : PB dy cp bt tb lt tr sz fis fge fpl fva fch) (n : gnp g cp) : gnp g2 cp := ⟨h _ (ct_lt hp.1) n.1, h _ (ct_lt hp.2.1) n.2.1, h _ (ct_lt hp.2.2.1) n.2.2.1, h _ (ct_lt hp.2.2.2.1) n.2.2.2.1, h _ (ct_lt hp.2.2.2.2.1) n.2.2.2.2.1, h _ (ct_lt hp.2.2.2.2.2) n.2.2.2.2.2⟩
/-- what reading a table leaves -/
def tqp (q : Nat → Int) (r : Nat → Option Nat) (A : Nat → Nat → Int) (X : Nat → Int) (f : Int) (g : Nat → Option xE) (cp : Nat) (bt : Option Nat) (tb lt : Int) (tr : Option Nat) (sz : Int) (fva : Nat → Option Nat) (fch : Nat → Int) (t : Int) (n0 : Nat) (M : Nat → Nat → Nat) (S : Option (ost × Int)) : Option xV → xH → Prop := fun v h2 => ∃ j2 ol tk2 dyn2, h2 = hF (x_up (x_up q 1346 j2) 1354 ol) (x_up r 1344 (some 44)) (x_up A 43 tk2) ++ dyn2 ∧ (0 ≤ j2 ∧ j2 ≤ q 1345) ∧ (∀ u w, mu u w dyn2 ≤ M u w + k_tr u w X (f + q 1345) S) ∧ ((S = none ∧ v = some (xI 3) ∧ gok g dyn2) ∨ ∃ y, S = some y ∧ ((s_trd X (f + q 1345) y.2 y.1.2.2.2.2 = none ∧ v = some (xI 4) ∧ gok g dyn2) ∨ ∃ z g2 fis2 fge2 fpl2 ft2 tr9 sz9, s_trd X (f + q 1345) y.2 y.1.2.2.2.2 = some z ∧ v = some (xI 0) ∧ gle g g2 ∧ gok g2 dyn2 ∧ gnw g g2 n0 ∧ PB dyn2 cp bt tb lt tr9 sz9 fis2 fge2 fpl2 fva fch ∧ RX t sz (q 1345) y.1 fis2 fge2 fpl2 ft2 ∧ ol = s_old z.2.2 ∧ ((t = 0 ∧ sz9 = z.2.1 ∧ ∃ c, tr9 = some c ∧ Tr X (f + q 1345) g2 (lP z.1) 9 0 c ∧ Dj g2 c) ∨ (¬ t = 0 ∧ tr9 = tr ∧ sz9 = sz))))
theorem w_M_table_221 (Z : xZ) (d : Nat) (q : Nat → Int) (r : Nat → Option Nat) (A : Nat → Nat → Int) (hd : 40 ≤ d) (X : Nat → Int) (f : Int) (g : Nat → Option xE) (cp : Nat) (bt : Option Nat) (tb lt : Int) (tr : Option Nat) (sz : Int) (fva : Nat → Option Nat) (fch : Nat → Int) (ctd : Nat) (t pl : Int) (n0 : Nat) (M : Nat → Nat → Nat) (tz : Nat → Int) (hf : 0 ≤ f) (hn : 0 ≤ q 1345 ∧ q 1345 ≤ 4000) (hX : ∀ k : Nat, (k : Int) < q 1345 → A 44 k = X (f.toNat + k)) (hB : ∀ k, -128 ≤ X k ∧ X k ≤ 127) (hnp : gnp g cp) (hctd : ctn g cp ctd) (ht : 0 ≤ t) (htr : (t = 0 ∧ tr = none) ∨ (¬ t = 0 ∧ ∃ c, tr = some c)) (j : Int) (dyn : xH) (fis fge fpl ft : Nat → Int) (x : ost) (hj : 0 ≤ j ∧ j ≤ q 1345) (hhi : -1 ≤ x.2.2.2.2 ∧ x.2.2.2.2 < 300) (hts : TS g dyn cp bt tb lt tr sz fis fge fpl fva fch ctd ft t (q 1345) x) (hn0 : n0 ≤ 52 + dyn.length) (hmu : ∀ u w, mu u w dyn = M u w + (u + 300 * w)) (b5 : Int) : xW Z d Y_M_table 221 [(0, xC 42), (1, xC cp), (2, xI pl), (3, xC ctd), (4, xI x.2.2.2.2), (5, xI b5)] [] (hF (x_up q 1346 j) (x_up r 1344 (some 44)) (x_up A 43 tz) ++ dyn) (tqp q r A X f g cp bt tb lt tr sz fva fch t n0 M (if s_the X (f + q 1345) (f + j) [116, 114, 97, 105, 108, 101, 114] < 0 then none else some (x, s_the X (f + q 1345) (f + j) [116, 114, 97, 105, 108, 101, 114]))) := by
  have hXi : ∀ u : Int, 0 ≤ u → u < q 1345 → A 44 u.toNat = X (f + u).toNat := fun u h1 h2 => by rw [hX u.toNat (by omega)]; congr 1; omega
  obtain ⟨hp, hct, hgk, hrx⟩ := hts
  obtain ⟨wt, hwt⟩ : ∃ z, z = s_the X (f + q 1345) (f + j) [116, 114, 97, 105, 108, 101, 114] := ⟨_, rfl⟩
  obtain ⟨wi, hwi⟩ : ∃ z, z = s_abyte X (f + q 1345) wt 10 := ⟨_, rfl⟩
  have hab := s_abyte_in X (f + q 1345) wt 10
  rw [← hwi] at hab
  rw [← hwt]
  have hsame : ∀ jj tk2, hF (x_up q 1346 jj) (x_up r 1344 (some 44)) (x_up A 43 tk2) = hF (x_up (x_up q 1346 jj) 1354 (q 1354)) (x_up r 1344 (some 44)) (x_up A 43 tk2) := fun jj tk2 => by rw [show x_up (x_up q 1346 jj) 1354 (q 1354) = x_up q 1346 jj from x_up_same (x_up q 1346 jj) 1354]
  refine x_aload_n (x_d C_M_table 116 rfl) rfl ?_
  refine x_ldcS (i := 58) (x_d C_M_table 117 rfl) rfl ?_
  refine x_invokevirtual (st := []) (av := [xS (117)]) (x_d C_M_table 118 rfl) k_M_103 m_M_takeWord v_M_takeWord cl_M rfl rfl (Nat.le_of_ble_eq_true rfl) (by omega) rfl (c_M_takeWord Z (d - 1) q r (x_up A 43 tz) dyn (by omega) X f j (si := 58) rfl hf hn hX (by omega) (by decide)) ?_
  rintro v_ _ ⟨z1, j1, rfl, rfl, hz1⟩
  have hz1 : (z1 = 1 ∧ 0 ≤ s_the X (f + q 1345) (f + j) [116, 114, 97, 105, 108, 101, 114] ∧ j1 = s_the X (f + q 1345) (f + j) [116, 114, 97, 105, 108, 101, 114] - f) ∨ (z1 = 0 ∧ s_the X (f + q 1345) (f + j) [116, 114, 97, 105, 108, 101, 114] < 0 ∧ j1 = j) := hz1
  have hti1 := s_the_in X (f + q 1345) (f + j) [116, 114, 97, 105, 108, 101, 114]
  simp only [List.length_cons, List.length_nil] at hti1
  rw [← hwt] at hz1 hti1
  refine x_if_ne (tgt := 232) (x_d C_M_table 119 rfl) rfl (fun c2 => ?_) (fun c2 => ?_)
  · refine x_aload_n (x_d C_M_table 122 rfl) rfl ?_
    refine x_bipush (x_d C_M_table 123 rfl) (by omega) ?_
    refine x_invokevirtual (st := []) (av := [xI (10)]) (x_d C_M_table 124 rfl) k_M_132 m_M_takeByte v_M_takeByte cl_M rfl rfl (Nat.le_of_ble_eq_true rfl) (by omega) rfl (c_M_takeByte Z (d - 1) q r (x_up A 43 tz) dyn X f j1 10 hf hn hX (by omega) hB (by omega)) ?_
    rintro v_ _ ⟨z3, j3, rfl, rfl, hz3⟩
    have hz3 : (z3 = 1 ∧ s_byte X (f + q 1345) (f + j1) = 10 ∧ j3 = j1 + 1 ∧ j1 < q 1345) ∨ (z3 = 0 ∧ ¬ s_byte X (f + q 1345) (f + j1) = 10 ∧ j3 = j1) := hz3
    have hsb3 : s_byte X (f + q 1345) (f + j1) = s_byte X (f + q 1345) wt := by rw [show f + j1 = wt by omega]
    have hsv3 : wi = if s_byte X (f + q 1345) wt = 10 then wt + 1 else -1 := by rw [hwi]; rfl
    rw [← hsb3] at hsv3
    refine x_if_ne (tgt := 243) (x_d C_M_table 125 rfl) rfl (fun c4 => ?_) (fun c4 => ?_)
    · refine x_aload_n (x_d C_M_table 128 rfl) rfl ?_
      refine x_aload_n (x_d C_M_table 129 rfl) rfl ?_
      refine x_getfield (v := xI (j3)) (x_d C_M_table 130 rfl) f_M_7 rfl rfl ?_
      refine x_ldcS (i := 59) (x_d C_M_table 131 rfl) rfl ?_
      refine x_invokevirtual (st := []) (av := [xI (j3), xS (119)]) (x_d C_M_table 132 rfl) k_M_34 m_M_isAt1 v_M_isAt1 cl_M rfl rfl (Nat.le_of_ble_eq_true rfl) (by omega) rfl (c_M_isAt1 Z (d - 1) q r (x_up A 43 tz) dyn (by omega) X f j3 j3 (si := 59) rfl hf hn hX (by omega)) ?_
      rintro v_ _ ⟨hv_, rfl⟩
      obtain ⟨z_, rfl, hz_⟩ : ∃ z : Int, v_ = some (xI z) ∧ ((z = 1 ∧ 0 ≤ j3 ∧ 0 ≤ s_txt X (f + q 1345) (f + j3) [60, 60]) ∨ (z = 0 ∧ ¬ (0 ≤ j3 ∧ 0 ≤ s_txt X (f + q 1345) (f + j3) [60, 60]))) := ⟨_, hv_, by by_cases c_ : (0 ≤ j3 ∧ 0 ≤ s_txt X (f + q 1345) (f + j3) [60, 60]); exact Or.inl ⟨x_bo_t c_, c_⟩; exact Or.inr ⟨x_bo_f c_, c_⟩⟩
      refine x_if_eq (tgt := 264) (x_d C_M_table 133 rfl) rfl (fun c5 => ?_) (fun c5 => ?_)
      · refine x_null (x_d C_M_table 138 rfl) ?_
        refine x_astore (l1 := [(6, xN), (0, xC 42), (1, xC cp), (2, xI (pl)), (3, xC ctd), (4, xI (x.2.2.2.2)), (5, xI (b5))]) (x_d C_M_table 139 rfl) (by decide) rfl ?_
        refine x_aload (x_d C_M_table 140 rfl) rfl ?_
        refine x_ifnonnullN (tgt := 274) (x_d C_M_table 141 rfl) rfl ?_
        refine x_iconst (x_d C_M_table 142 rfl) ⟨by omega, by omega⟩ ?_
        refine x_ireturn (x_d C_M_table 143 rfl) ?_
        rw [if_neg (by omega)]
        have htd : s_trd X (f + q 1345) wt x.2.2.2.2 = none := by
          unfold s_trd
          rw [← hwi]
          cases hv : s_val X (f + q 1345) 8 wi with
          | none => rfl
          | some y =>
            first
            | (have := s_val_ok X hB _ 8 _ y.1 y.2 hv; omega)
            | (rw [Option.bind_some, if_pos (s_val_kd hv (by have h6n := s_txt60 hB (f + q 1345) wi; rw [← show f + j3 = wi by omega] at h6n ⊢; omega))])
        exact ⟨_, q 1354, tz, dyn, by rw [← hsame], by omega, fun u w => by have a1 : k_tr u w X (f + q 1345) (some (x, wt)) = (u + 300 * w) + k_val u w X (f + q 1345) 8 (s_abyte X (f + q 1345) wt 10) := rfl; have a2 := hmu u w; omega, Or.inr ⟨_, rfl, Or.inl ⟨htd, rfl, hgk⟩⟩⟩
      · refine x_aload_n (x_d C_M_table 134 rfl) rfl ?_
        refine x_iconst (x_d C_M_table 135 rfl) ⟨by omega, by omega⟩ ?_
        have hpw : f + j3 = wi := by omega
        have b0 := s_byte_in X (f + q 1345) wi
        have b1 := s_byte_in X (f + q 1345) (wi + 1)
        have h60 : s_byte X (f + q 1345) wi = 60 ∧ s_byte X (f + q 1345) (wi + 1) = 60 := by
          have hz := s_txt_iff.mp (show 0 ≤ s_txt X (f + q 1345) (f + j3) [60, 60] by omega)
          obtain ⟨z1, z2, z3⟩ := hz
          have z2 : f + j3 + 2 ≤ (f + q 1345) := z2
          have e0 : X ((f + j3).toNat + 0) = 60 := z3 0 (by decide)
          have e1 : X ((f + j3).toNat + 1) = 60 := z3 1 (by decide)
          rw [show (f + j3).toNat + 0 = wi.toNat by omega] at e0
          rw [show (f + j3).toNat + 1 = (wi + 1).toNat by omega] at e1
          rw [e0] at b0
          rw [e1] at b1
          omega
        have hev : s_val X (f + q 1345) 8 wi = s_bx 7 [] (s_ents (s_val X (f + q 1345) 7) X (f + q 1345) 30 (s_sc s_white X (f + q 1345) (f + j3 + 2)) []) := by
          rw [hpw]
          conv => lhs; unfold s_val
          rw [if_neg (by omega), if_pos h60]
          rfl
        have hek : ∀ u w, k_val u w X (f + q 1345) 8 wi = (u + 7 * w) + 2 * (u + 4 * w) + k_ens (s_val X (f + q 1345) 7) (k_val u w X (f + q 1345) 7) u w X (f + q 1345) 30 0 (s_sc s_white X (f + q 1345) (f + j3 + 2)) [] := fun u w => by
          rw [hpw]
          conv => lhs; unfold k_val
          rw [if_neg (by omega), if_pos h60]
        refine x_invokevirtual (st := []) (av := [xI 0]) (x_d C_M_table 136 rfl) k_M_74 m_M_dict v_M_dict cl_M rfl rfl (Nat.le_of_ble_eq_true rfl) (by omega) rfl (c_M_dict Z (d - 1) q r A dyn 7 (by omega) (by omega) X f j3 tz g hgk hf hn hX (by omega) hB (OD_all Z q r A X f hf hn hX hB 7 (by omega)) 0 (by omega) (by omega)) ?_
        rw [← hev]
        rintro v_ h_ ⟨j8, tk8, ny, rfl, hj8, hmu8, hr_⟩
        have hmu8 : ∀ u w, mu u w ny ≤ k_val u w X (f + q 1345) 8 wi := fun u w => by rw [hek u w]; exact hmu8 u w
        have hmuA : ∀ u w, mu u w (dyn ++ ny) ≤ M u w + k_tr u w X (f + q 1345) (some (x, wt)) := fun u w => by
          have a1 := hmu u w
          have a2 := hmu8 u w
          have a3 := mu_app u w dyn ny
          have a4 : k_tr u w X (f + q 1345) (some (x, wt)) = (u + 300 * w) + k_val u w X (f + q 1345) 8 wi := by rw [hwi]; rfl
          omega
        rw [if_neg (show ¬ wt < 0 by omega)]
        rcases hr_ with ⟨hs, rfl⟩ | ⟨ts, e2, c, g2, hs, rfl, he2, q1, q2, q3, q4, -, q6⟩
        · have htd : s_trd X (f + q 1345) wt x.2.2.2.2 = none := by unfold s_trd; rw [← hwi, hs]; rfl
          refine x_goto (tgt := 265) (x_d C_M_table 137 rfl) rfl ?_
          refine x_astore (l1 := [(6, xN), (0, xC 42), (1, xC cp), (2, xI (pl)), (3, xC ctd), (4, xI (x.2.2.2.2)), (5, xI (b5))]) (x_d C_M_table 139 rfl) (by decide) rfl ?_
          refine x_aload (x_d C_M_table 140 rfl) rfl ?_
          refine x_ifnonnullN (tgt := 274) (x_d C_M_table 141 rfl) rfl ?_
          refine x_iconst (x_d C_M_table 142 rfl) ⟨by omega, by omega⟩ ?_
          refine x_ireturn (x_d C_M_table 143 rfl) ?_
          exact ⟨_, q 1354, tk8, _, by rw [← hsame], hj8, hmuA, Or.inr ⟨_, rfl, Or.inl ⟨htd, rfl, gok_app hgk _⟩⟩⟩
        · have hp2 := PB_app hp ny
          have hnp2 := gnp_gnw q3 hp hnp
          have hq4 := q4
          obtain ⟨-, x4, y4, m4, bt4, it4, nm4, hc4, htl4, -, -, hch4, -⟩ := Tr_o hq4
          have hts0 := s_bh_0 hB hs
          have hkd : lkd ts 0 = 7 := s_bx_kd (hev ▸ hs)
          refine x_goto (tgt := 265) (x_d C_M_table 137 rfl) rfl ?_
          refine x_astore (l1 := [(6, xC c), (0, xC 42), (1, xC cp), (2, xI (pl)), (3, xC ctd), (4, xI (x.2.2.2.2)), (5, xI (b5))]) (x_d C_M_table 139 rfl) (by decide) rfl ?_
          refine x_aload (x_d C_M_table 140 rfl) rfl ?_
          refine x_ifnonnullC (tgt := 274) (x_d C_M_table 141 rfl) rfl ?_
          refine x_aload (x_d C_M_table 144 rfl) rfl ?_
          refine x_ldcS (i := 64) (x_d C_M_table 145 rfl) rfl ?_
          refine x_invokevirtual (st := []) (av := [xS (2 * 64 + 1)]) (x_d C_M_table 146 rfl) k_M_256 m_MQ_get2 v_MQ_get2 cl_MQ (ct_get (q2 _ _ hc4) _ _ _) rfl (Nat.le_of_ble_eq_true rfl) (by omega) rfl (t_get2 Z (d - 1) (hF (x_up q 1346 j8) (x_up r 1344 (some 44)) (x_up A 43 tk8) ++ (dyn ++ ny)) X (f + q 1345) g2 (lP ts) 8 0 c (gh_of q2 _ _ _) q4 (by omega) (si := 64) rfl (by decide) (by decide) (f + q 1345) (Int.le_refl _)) ?_
          rintro v_ h_ ⟨hh_, x_A, hv_, hA⟩
          rw [hh_]
          clear hh_
          obtain rfl := hv_
          have hA : (s_nam (lsp ts) (lnm ts) X (f + q 1345) 0 [83, 105, 122, 101] = -1 ∧ x_A = none) ∨ (0 ≤ s_nam (lsp ts) (lnm ts) X (f + q 1345) 0 [83, 105, 122, 101] ∧ s_nam (lsp ts) (lnm ts) X (f + q 1345) 0 [83, 105, 122, 101] ∈ s_in (lP ts 8) 0 ∧ ∃ c2, x_A = some c2 ∧ Tr X (f + q 1345) g2 (lP ts) 8 (s_nam (lsp ts) (lnm ts) X (f + q 1345) 0 [83, 105, 122, 101]) c2) := hA
          obtain ⟨sA, hsA⟩ : ∃ z, z = s_nam (lsp ts) (lnm ts) X (f + q 1345) 0 [83, 105, 122, 101] := ⟨_, rfl⟩
          rw [← hsA] at hA
          rcases hA with ⟨eA, rfl⟩ | ⟨eA, mA, cA, rfl, tA⟩
          · refine x_astore (l1 := [(7, xN), (6, xC c), (0, xC 42), (1, xC cp), (2, xI (pl)), (3, xC ctd), (4, xI (x.2.2.2.2)), (5, xI (b5))]) (x_d C_M_table 147 rfl) (by decide) rfl ?_
            refine x_aload (x_d C_M_table 148 rfl) rfl ?_
            refine x_ldcSw (i := 65) (x_d C_M_table 149 rfl) rfl ?_
            refine x_invokevirtual (st := []) (av := [xS (2 * 65 + 1)]) (x_d C_M_table 150 rfl) k_M_256 m_MQ_get2 v_MQ_get2 cl_MQ (ct_get (q2 _ _ hc4) _ _ _) rfl (Nat.le_of_ble_eq_true rfl) (by omega) rfl (t_get2 Z (d - 1) (hF (x_up q 1346 j8) (x_up r 1344 (some 44)) (x_up A 43 tk8) ++ (dyn ++ ny)) X (f + q 1345) g2 (lP ts) 8 0 c (gh_of q2 _ _ _) q4 (by omega) (si := 65) rfl (by decide) (by decide) (f + q 1345) (Int.le_refl _)) ?_
            rintro v_ h_ ⟨hh_, x_B, hv_, hB2⟩
            rw [hh_]
            clear hh_
            obtain rfl := hv_
            have hB2 : (s_nam (lsp ts) (lnm ts) X (f + q 1345) 0 [80, 114, 101, 118] = -1 ∧ x_B = none) ∨ (0 ≤ s_nam (lsp ts) (lnm ts) X (f + q 1345) 0 [80, 114, 101, 118] ∧ s_nam (lsp ts) (lnm ts) X (f + q 1345) 0 [80, 114, 101, 118] ∈ s_in (lP ts 8) 0 ∧ ∃ c2, x_B = some c2 ∧ Tr X (f + q 1345) g2 (lP ts) 8 (s_nam (lsp ts) (lnm ts) X (f + q 1345) 0 [80, 114, 101, 118]) c2) := hB2
            obtain ⟨sB, hsB⟩ : ∃ z, z = s_nam (lsp ts) (lnm ts) X (f + q 1345) 0 [80, 114, 101, 118] := ⟨_, rfl⟩
            rw [← hsB] at hB2
            have htrd : s_trd X (f + q 1345) wt x.2.2.2.2 = (if sA < 0 ∨ ¬ lP ts 5 sA.toNat = 3 ∨ (0 ≤ sB ∧ ¬ lP ts 5 sB.toNat = 3) then none else if lP ts 6 sA.toNat < 1 ∨ 300 < lP ts 6 sA.toNat ∨ lP ts 6 sA.toNat ≤ x.2.2.2.2 then none else some (ts, lP ts 6 sA.toNat, if sB < 0 then none else some (lP ts 6 sB.toNat))) := by
              unfold s_trd
              rw [← hwi, hs, Option.bind_some, if_neg (by exact fun z => z hkd), ← hsA, ← hsB]
              rfl
            refine x_astore (l1 := [(8, xO (x_B)), (7, xN), (6, xC c), (0, xC 42), (1, xC cp), (2, xI (pl)), (3, xC ctd), (4, xI (x.2.2.2.2)), (5, xI (b5))]) (x_d C_M_table 151 rfl) (by decide) rfl ?_
            refine x_aload (x_d C_M_table 152 rfl) rfl ?_
            refine x_ifnullN (tgt := 347) (x_d C_M_table 153 rfl) rfl ?_
            refine x_iconst (x_d C_M_table 175 rfl) ⟨by omega, by omega⟩ ?_
            refine x_ireturn (x_d C_M_table 176 rfl) ?_
            have htd : s_trd X (f + q 1345) wt x.2.2.2.2 = none := by
              rw [htrd]
              by_cases c1_ : sA < 0 ∨ ¬ lP ts 5 sA.toNat = 3 ∨ (0 ≤ sB ∧ ¬ lP ts 5 sB.toNat = 3)
              · exact if_pos c1_
              · rw [if_neg c1_]; exact if_pos (by omega)
            exact ⟨_, q 1354, tk8, _, by rw [← hsame], hj8, hmuA, Or.inr ⟨_, rfl, Or.inl ⟨htd, rfl, gok_app hgk _⟩⟩⟩
          · obtain ⟨h0A, vxA, yA, mA2, btA, itA, nmA, hcA, htlA, -⟩ := Tr_o tA
            have h3A := htlA.2.1
            refine x_astore (l1 := [(7, xC cA), (6, xC c), (0, xC 42), (1, xC cp), (2, xI (pl)), (3, xC ctd), (4, xI (x.2.2.2.2)), (5, xI (b5))]) (x_d C_M_table 147 rfl) (by decide) rfl ?_
            refine x_aload (x_d C_M_table 148 rfl) rfl ?_
            refine x_ldcSw (i := 65) (x_d C_M_table 149 rfl) rfl ?_
            refine x_invokevirtual (st := []) (av := [xS (2 * 65 + 1)]) (x_d C_M_table 150 rfl) k_M_256 m_MQ_get2 v_MQ_get2 cl_MQ (ct_get (q2 _ _ hc4) _ _ _) rfl (Nat.le_of_ble_eq_true rfl) (by omega) rfl (t_get2 Z (d - 1) (hF (x_up q 1346 j8) (x_up r 1344 (some 44)) (x_up A 43 tk8) ++ (dyn ++ ny)) X (f + q 1345) g2 (lP ts) 8 0 c (gh_of q2 _ _ _) q4 (by omega) (si := 65) rfl (by decide) (by decide) (f + q 1345) (Int.le_refl _)) ?_
            rintro v_ h_ ⟨hh_, x_B, hv_, hB2⟩
            rw [hh_]
            clear hh_
            obtain rfl := hv_
            have hB2 : (s_nam (lsp ts) (lnm ts) X (f + q 1345) 0 [80, 114, 101, 118] = -1 ∧ x_B = none) ∨ (0 ≤ s_nam (lsp ts) (lnm ts) X (f + q 1345) 0 [80, 114, 101, 118] ∧ s_nam (lsp ts) (lnm ts) X (f + q 1345) 0 [80, 114, 101, 118] ∈ s_in (lP ts 8) 0 ∧ ∃ c2, x_B = some c2 ∧ Tr X (f + q 1345) g2 (lP ts) 8 (s_nam (lsp ts) (lnm ts) X (f + q 1345) 0 [80, 114, 101, 118]) c2) := hB2
            obtain ⟨sB, hsB⟩ : ∃ z, z = s_nam (lsp ts) (lnm ts) X (f + q 1345) 0 [80, 114, 101, 118] := ⟨_, rfl⟩
            rw [← hsB] at hB2
            have htrd : s_trd X (f + q 1345) wt x.2.2.2.2 = (if sA < 0 ∨ ¬ lP ts 5 sA.toNat = 3 ∨ (0 ≤ sB ∧ ¬ lP ts 5 sB.toNat = 3) then none else if lP ts 6 sA.toNat < 1 ∨ 300 < lP ts 6 sA.toNat ∨ lP ts 6 sA.toNat ≤ x.2.2.2.2 then none else some (ts, lP ts 6 sA.toNat, if sB < 0 then none else some (lP ts 6 sB.toNat))) := by
              unfold s_trd
              rw [← hwi, hs, Option.bind_some, if_neg (by exact fun z => z hkd), ← hsA, ← hsB]
              rfl
            rcases hB2 with ⟨eB, rfl⟩ | ⟨eB, mB, cB, rfl, tB⟩
            · rcases htr with ⟨ht0, rfl⟩ | ⟨ht0, trc, rfl⟩
              · refine x_astore (l1 := [(8, xN), (7, xC cA), (6, xC c), (0, xC 42), (1, xC cp), (2, xI (pl)), (3, xC ctd), (4, xI (x.2.2.2.2)), (5, xI (b5))]) (x_d C_M_table 151 rfl) (by decide) rfl ?_
                refine x_aload (x_d C_M_table 152 rfl) rfl ?_
                refine x_ifnullC (tgt := 347) (x_d C_M_table 153 rfl) rfl ?_
                refine x_aload (x_d C_M_table 154 rfl) rfl ?_
                refine x_getfield (v := xI (lP ts 5 sA.toNat)) (x_d C_M_table 155 rfl) f_M_261 (ct_get (q2 _ _ hcA) _ _ _) rfl ?_
                refine x_iconst (x_d C_M_table 156 rfl) ⟨by omega, by omega⟩ ?_
                refine x_icmp_ne (tgt := 347) (x_d C_M_table 157 rfl) rfl (fun c509 => ?_) (fun c509 => ?_)
                · refine x_iconst (x_d C_M_table 175 rfl) ⟨by omega, by omega⟩ ?_
                  refine x_ireturn (x_d C_M_table 176 rfl) ?_
                  have htd : s_trd X (f + q 1345) wt x.2.2.2.2 = none := by
                    rw [htrd]
                    by_cases c1_ : sA < 0 ∨ ¬ lP ts 5 sA.toNat = 3 ∨ (0 ≤ sB ∧ ¬ lP ts 5 sB.toNat = 3)
                    · exact if_pos c1_
                    · rw [if_neg c1_]; exact if_pos (by omega)
                  exact ⟨_, q 1354, tk8, _, by rw [← hsame], hj8, hmuA, Or.inr ⟨_, rfl, Or.inl ⟨htd, rfl, gok_app hgk _⟩⟩⟩
                · refine x_aload (x_d C_M_table 158 rfl) rfl ?_
                  refine x_getfield (v := xI (vxA)) (x_d C_M_table 159 rfl) f_M_95 (ct_get (q2 _ _ hcA) _ _ _) rfl ?_
                  refine x_i2l (x_d C_M_table 160 rfl) ?_
                  refine x_lconst1 (x_d C_M_table 161 rfl) ?_
                  refine x_ldc2 (n := 300) (x_d C_M_table 162 rfl) lc_M_239 ⟨by omega, by omega⟩ ?_
                  refine x_invokestatic (st := []) (av := [xJ (vxA), xJ (1), xJ (300)]) (x_d C_M_table 163 rfl) k_M_48 m_M_in s_M_in rfl (Nat.le_of_ble_eq_true rfl) (by omega) rfl (c_M_in Z (d - 1) (hF (x_up q 1346 j8) (x_up r 1344 (some 44)) (x_up A 43 tk8) ++ (dyn ++ ny)) vxA 1 300) ?_
                  rintro v_ _ ⟨hv_, rfl⟩
                  obtain ⟨z_, rfl, hz_⟩ : ∃ z : Int, v_ = some (xI z) ∧ ((z = 1 ∧ 1 ≤ vxA ∧ vxA ≤ 300) ∨ (z = 0 ∧ ¬ (1 ≤ vxA ∧ vxA ≤ 300))) := ⟨_, hv_, by by_cases c_ : (1 ≤ vxA ∧ vxA ≤ 300); exact Or.inl ⟨x_bo_t c_, c_⟩; exact Or.inr ⟨x_bo_f c_, c_⟩⟩
                  refine x_if_eq (tgt := 347) (x_d C_M_table 164 rfl) rfl (fun c510 => ?_) (fun c510 => ?_)
                  · refine x_iconst (x_d C_M_table 175 rfl) ⟨by omega, by omega⟩ ?_
                    refine x_ireturn (x_d C_M_table 176 rfl) ?_
                    have htd : s_trd X (f + q 1345) wt x.2.2.2.2 = none := by
                      rw [htrd]
                      by_cases c1_ : sA < 0 ∨ ¬ lP ts 5 sA.toNat = 3 ∨ (0 ≤ sB ∧ ¬ lP ts 5 sB.toNat = 3)
                      · exact if_pos c1_
                      · rw [if_neg c1_]; exact if_pos (by omega)
                    exact ⟨_, q 1354, tk8, _, by rw [← hsame], hj8, hmuA, Or.inr ⟨_, rfl, Or.inl ⟨htd, rfl, gok_app hgk _⟩⟩⟩
                  · refine x_aload (x_d C_M_table 165 rfl) rfl ?_
                    refine x_ifnullN (tgt := 337) (x_d C_M_table 166 rfl) rfl ?_
                    refine x_iload (x_d C_M_table 171 rfl) rfl ?_
                    refine x_aload (x_d C_M_table 172 rfl) rfl ?_
                    refine x_getfield (v := xI (vxA)) (x_d C_M_table 173 rfl) f_M_95 (ct_get (q2 _ _ hcA) _ _ _) rfl ?_
                    refine x_icmp_lt (tgt := 349) (x_d C_M_table 174 rfl) rfl (fun c512 => ?_) (fun c512 => ?_)
                    · refine x_aload_n (x_d C_M_table 177 rfl) rfl ?_
                      refine x_getfield (v := xN) (x_d C_M_table 178 rfl) f_M_264 (ct_get hp2.1 _ _ _) rfl ?_
                      refine x_ifnonnullN (tgt := 371) (x_d C_M_table 179 rfl) rfl ?_
                      refine x_aload_n (x_d C_M_table 180 rfl) rfl ?_
                      refine x_aload (x_d C_M_table 181 rfl) rfl ?_
                      refine x_putfield (h1 := hF (x_up q 1346 j8) (x_up r 1344 (some 44)) (x_up A 43 tk8) ++ ((dyn ++ ny).set (cp - 52) (xB 11 [xO bt, xI tb, xI lt, xO ((some c)), xC (cp + 1), xC (cp + 2), xC (cp + 3), xC (cp + 4), xC (cp + 5), xI sz]))) (x_d C_M_table 182 rfl) p_M_264 (ct_get hp2.1 _ _ _) rfl rfl trivial (g_set hp2.1.1 _ _ _ _) ?_
                      have hs_ := PB_ob hp2 hnp2 q2 bt tb lt ((some c)) sz
                      generalize (dyn ++ ny).set (cp - 52) (xB 11 [xO bt, xI tb, xI lt, xO ((some c)), xC (cp + 1), xC (cp + 2), xC (cp + 3), xC (cp + 4), xC (cp + 5), xI sz]) = dn1 at hs_ ⊢
                      obtain ⟨hp1, hs1⟩ := hs_
                      have hgk1 := hs1.1
                      refine x_aload_n (x_d C_M_table 183 rfl) rfl ?_
                      refine x_aload (x_d C_M_table 184 rfl) rfl ?_
                      refine x_getfield (v := xI (vxA)) (x_d C_M_table 185 rfl) f_M_95 (ct_get (hgk1 _ _ hcA) _ _ _) rfl ?_
                      refine x_putfield (h1 := hF (x_up q 1346 j8) (x_up r 1344 (some 44)) (x_up A 43 tk8) ++ (dn1.set (cp - 52) (xB 11 [xO bt, xI tb, xI lt, xO ((some c)), xC (cp + 1), xC (cp + 2), xC (cp + 3), xC (cp + 4), xC (cp + 5), xI vxA]))) (x_d C_M_table 186 rfl) p_M_266 (ct_get hp1.1 _ _ _) rfl rfl trivial (g_set hp1.1.1 _ _ _ _) ?_
                      have hs_ := PB_ob hp1 hnp2 hgk1 bt tb lt ((some c)) vxA
                      generalize dn1.set (cp - 52) (xB 11 [xO bt, xI tb, xI lt, xO ((some c)), xC (cp + 1), xC (cp + 2), xC (cp + 3), xC (cp + 4), xC (cp + 5), xI vxA]) = dn2 at hs_ ⊢
                      obtain ⟨hp2, hs2⟩ := hs_
                      have hgk2 := hs2.1
                      have hPS2 := PS_tr hs1 hs2
                      refine x_aload_n (x_d C_M_table 187 rfl) rfl ?_
                      refine x_aload (x_d C_M_table 188 rfl) rfl ?_
                      refine x_ifnonnullN (tgt := 381) (x_d C_M_table 189 rfl) rfl ?_
                      refine x_iconst (x_d C_M_table 190 rfl) ⟨by omega, by omega⟩ ?_
                      refine x_goto (tgt := 399) (x_d C_M_table 191 rfl) rfl ?_
                      refine x_putfield (h1 := hF (x_up (x_up q 1346 j8) 1354 (-1)) (x_up r 1344 (some 44)) (x_up A 43 tk8) ++ dn2) (x_d C_M_table 199 rfl) p_M_227 rfl rfl rfl trivial rfl ?_
                      refine x_iconst (x_d C_M_table 200 rfl) ⟨by omega, by omega⟩ ?_
                      refine x_ireturn (x_d C_M_table 201 rfl) ?_
                      refine ⟨_, _, tk8, _, rfl, hj8, fun u w => by rw [hPS2.2.1 u w]; exact hmuA u w, Or.inr ⟨_, rfl, Or.inr ⟨(ts, lP ts 6 sA.toNat, (if sB < 0 then none else some (lP ts 6 sB.toNat))), g2, fis, fge, fpl, ft, _, _, ?_, rfl, q1, hgk2, fun k hk z => q3 k (by omega) z, hp2, hrx, ?_, Or.inl ⟨by omega, by first | rfl | omega | exact (h3A (by omega)).1, c, rfl, q4, q6⟩⟩⟩⟩
                      · rw [htrd, if_neg (by omega), if_neg (by omega)]
                      · show _ = s_old (if sB < 0 then none else some (lP ts 6 sB.toNat))
                        rw [if_pos (by omega)]
                        rfl
                    · refine x_iconst (x_d C_M_table 175 rfl) ⟨by omega, by omega⟩ ?_
                      refine x_ireturn (x_d C_M_table 176 rfl) ?_
                      have htd : s_trd X (f + q 1345) wt x.2.2.2.2 = none := by
                        rw [htrd]
                        by_cases c1_ : sA < 0 ∨ ¬ lP ts 5 sA.toNat = 3 ∨ (0 ≤ sB ∧ ¬ lP ts 5 sB.toNat = 3)
                        · exact if_pos c1_
                        · rw [if_neg c1_]; exact if_pos (by omega)
                      exact ⟨_, q 1354, tk8, _, by rw [← hsame], hj8, hmuA, Or.inr ⟨_, rfl, Or.inl ⟨htd, rfl, gok_app hgk _⟩⟩⟩
              · refine x_astore (l1 := [(8, xN), (7, xC cA), (6, xC c), (0, xC 42), (1, xC cp), (2, xI (pl)), (3, xC ctd), (4, xI (x.2.2.2.2)), (5, xI (b5))]) (x_d C_M_table 151 rfl) (by decide) rfl ?_
                refine x_aload (x_d C_M_table 152 rfl) rfl ?_
                refine x_ifnullC (tgt := 347) (x_d C_M_table 153 rfl) rfl ?_
                refine x_aload (x_d C_M_table 154 rfl) rfl ?_
                refine x_getfield (v := xI (lP ts 5 sA.toNat)) (x_d C_M_table 155 rfl) f_M_261 (ct_get (q2 _ _ hcA) _ _ _) rfl ?_
                refine x_iconst (x_d C_M_table 156 rfl) ⟨by omega, by omega⟩ ?_
                refine x_icmp_ne (tgt := 347) (x_d C_M_table 157 rfl) rfl (fun c509 => ?_) (fun c509 => ?_)
                · refine x_iconst (x_d C_M_table 175 rfl) ⟨by omega, by omega⟩ ?_
                  refine x_ireturn (x_d C_M_table 176 rfl) ?_
                  have htd : s_trd X (f + q 1345) wt x.2.2.2.2 = none := by
                    rw [htrd]
                    by_cases c1_ : sA < 0 ∨ ¬ lP ts 5 sA.toNat = 3 ∨ (0 ≤ sB ∧ ¬ lP ts 5 sB.toNat = 3)
                    · exact if_pos c1_
                    · rw [if_neg c1_]; exact if_pos (by omega)
                  exact ⟨_, q 1354, tk8, _, by rw [← hsame], hj8, hmuA, Or.inr ⟨_, rfl, Or.inl ⟨htd, rfl, gok_app hgk _⟩⟩⟩
                · refine x_aload (x_d C_M_table 158 rfl) rfl ?_
                  refine x_getfield (v := xI (vxA)) (x_d C_M_table 159 rfl) f_M_95 (ct_get (q2 _ _ hcA) _ _ _) rfl ?_
                  refine x_i2l (x_d C_M_table 160 rfl) ?_
                  refine x_lconst1 (x_d C_M_table 161 rfl) ?_
                  refine x_ldc2 (n := 300) (x_d C_M_table 162 rfl) lc_M_239 ⟨by omega, by omega⟩ ?_
                  refine x_invokestatic (st := []) (av := [xJ (vxA), xJ (1), xJ (300)]) (x_d C_M_table 163 rfl) k_M_48 m_M_in s_M_in rfl (Nat.le_of_ble_eq_true rfl) (by omega) rfl (c_M_in Z (d - 1) (hF (x_up q 1346 j8) (x_up r 1344 (some 44)) (x_up A 43 tk8) ++ (dyn ++ ny)) vxA 1 300) ?_
                  rintro v_ _ ⟨hv_, rfl⟩
                  obtain ⟨z_, rfl, hz_⟩ : ∃ z : Int, v_ = some (xI z) ∧ ((z = 1 ∧ 1 ≤ vxA ∧ vxA ≤ 300) ∨ (z = 0 ∧ ¬ (1 ≤ vxA ∧ vxA ≤ 300))) := ⟨_, hv_, by by_cases c_ : (1 ≤ vxA ∧ vxA ≤ 300); exact Or.inl ⟨x_bo_t c_, c_⟩; exact Or.inr ⟨x_bo_f c_, c_⟩⟩
                  refine x_if_eq (tgt := 347) (x_d C_M_table 164 rfl) rfl (fun c510 => ?_) (fun c510 => ?_)
                  · refine x_iconst (x_d C_M_table 175 rfl) ⟨by omega, by omega⟩ ?_
                    refine x_ireturn (x_d C_M_table 176 rfl) ?_
                    have htd : s_trd X (f + q 1345) wt x.2.2.2.2 = none := by
                      rw [htrd]
                      by_cases c1_ : sA < 0 ∨ ¬ lP ts 5 sA.toNat = 3 ∨ (0 ≤ sB ∧ ¬ lP ts 5 sB.toNat = 3)
                      · exact if_pos c1_
                      · rw [if_neg c1_]; exact if_pos (by omega)
                    exact ⟨_, q 1354, tk8, _, by rw [← hsame], hj8, hmuA, Or.inr ⟨_, rfl, Or.inl ⟨htd, rfl, gok_app hgk _⟩⟩⟩
                  · refine x_aload (x_d C_M_table 165 rfl) rfl ?_
                    refine x_ifnullN (tgt := 337) (x_d C_M_table 166 rfl) rfl ?_
                    refine x_iload (x_d C_M_table 171 rfl) rfl ?_
                    refine x_aload (x_d C_M_table 172 rfl) rfl ?_
                    refine x_getfield (v := xI (vxA)) (x_d C_M_table 173 rfl) f_M_95 (ct_get (q2 _ _ hcA) _ _ _) rfl ?_
                    refine x_icmp_lt (tgt := 349) (x_d C_M_table 174 rfl) rfl (fun c512 => ?_) (fun c512 => ?_)
                    · refine x_aload_n (x_d C_M_table 177 rfl) rfl ?_
                      refine x_getfield (v := xC trc) (x_d C_M_table 178 rfl) f_M_264 (ct_get hp2.1 _ _ _) rfl ?_
                      refine x_ifnonnullC (tgt := 371) (x_d C_M_table 179 rfl) rfl ?_
                      refine x_aload_n (x_d C_M_table 187 rfl) rfl ?_
                      refine x_aload (x_d C_M_table 188 rfl) rfl ?_
                      refine x_ifnonnullN (tgt := 381) (x_d C_M_table 189 rfl) rfl ?_
                      refine x_iconst (x_d C_M_table 190 rfl) ⟨by omega, by omega⟩ ?_
                      refine x_goto (tgt := 399) (x_d C_M_table 191 rfl) rfl ?_
                      refine x_putfield (h1 := hF (x_up (x_up q 1346 j8) 1354 (-1)) (x_up r 1344 (some 44)) (x_up A 43 tk8) ++ (dyn ++ ny)) (x_d C_M_table 199 rfl) p_M_227 rfl rfl rfl trivial rfl ?_
                      refine x_iconst (x_d C_M_table 200 rfl) ⟨by omega, by omega⟩ ?_
                      refine x_ireturn (x_d C_M_table 201 rfl) ?_
                      refine ⟨_, _, tk8, _, rfl, hj8, hmuA, Or.inr ⟨_, rfl, Or.inr ⟨(ts, lP ts 6 sA.toNat, (if sB < 0 then none else some (lP ts 6 sB.toNat))), g2, fis, fge, fpl, ft, _, _, ?_, rfl, q1, q2, fun k hk z => q3 k (by omega) z, hp2, hrx, ?_, Or.inr ⟨by omega, rfl, rfl⟩⟩⟩⟩
                      · rw [htrd, if_neg (by omega), if_neg (by omega)]
                      · show _ = s_old (if sB < 0 then none else some (lP ts 6 sB.toNat))
                        rw [if_pos (by omega)]
                        rfl
                    · refine x_iconst (x_d C_M_table 175 rfl) ⟨by omega, by omega⟩ ?_
                      refine x_ireturn (x_d C_M_table 176 rfl) ?_
                      have htd : s_trd X (f + q 1345) wt x.2.2.2.2 = none := by
                        rw [htrd]
                        by_cases c1_ : sA < 0 ∨ ¬ lP ts 5 sA.toNat = 3 ∨ (0 ≤ sB ∧ ¬ lP ts 5 sB.toNat = 3)
                        · exact if_pos c1_
                        · rw [if_neg c1_]; exact if_pos (by omega)
                      exact ⟨_, q 1354, tk8, _, by rw [← hsame], hj8, hmuA, Or.inr ⟨_, rfl, Or.inl ⟨htd, rfl, gok_app hgk _⟩⟩⟩
            · obtain ⟨h0B, vxB, yB, mB2, btB, itB, nmB, hcB, htlB, -⟩ := Tr_o tB
              have h3B := htlB.2.1
              rcases htr with ⟨ht0, rfl⟩ | ⟨ht0, trc, rfl⟩
              · refine x_astore (l1 := [(8, xC cB), (7, xC cA), (6, xC c), (0, xC 42), (1, xC cp), (2, xI (pl)), (3, xC ctd), (4, xI (x.2.2.2.2)), (5, xI (b5))]) (x_d C_M_table 151 rfl) (by decide) rfl ?_
                refine x_aload (x_d C_M_table 152 rfl) rfl ?_
                refine x_ifnullC (tgt := 347) (x_d C_M_table 153 rfl) rfl ?_
                refine x_aload (x_d C_M_table 154 rfl) rfl ?_
                refine x_getfield (v := xI (lP ts 5 sA.toNat)) (x_d C_M_table 155 rfl) f_M_261 (ct_get (q2 _ _ hcA) _ _ _) rfl ?_
                refine x_iconst (x_d C_M_table 156 rfl) ⟨by omega, by omega⟩ ?_
                refine x_icmp_ne (tgt := 347) (x_d C_M_table 157 rfl) rfl (fun c509 => ?_) (fun c509 => ?_)
                · refine x_iconst (x_d C_M_table 175 rfl) ⟨by omega, by omega⟩ ?_
                  refine x_ireturn (x_d C_M_table 176 rfl) ?_
                  have htd : s_trd X (f + q 1345) wt x.2.2.2.2 = none := by
                    rw [htrd]
                    by_cases c1_ : sA < 0 ∨ ¬ lP ts 5 sA.toNat = 3 ∨ (0 ≤ sB ∧ ¬ lP ts 5 sB.toNat = 3)
                    · exact if_pos c1_
                    · rw [if_neg c1_]; exact if_pos (by omega)
                  exact ⟨_, q 1354, tk8, _, by rw [← hsame], hj8, hmuA, Or.inr ⟨_, rfl, Or.inl ⟨htd, rfl, gok_app hgk _⟩⟩⟩
                · refine x_aload (x_d C_M_table 158 rfl) rfl ?_
                  refine x_getfield (v := xI (vxA)) (x_d C_M_table 159 rfl) f_M_95 (ct_get (q2 _ _ hcA) _ _ _) rfl ?_
                  refine x_i2l (x_d C_M_table 160 rfl) ?_
                  refine x_lconst1 (x_d C_M_table 161 rfl) ?_
                  refine x_ldc2 (n := 300) (x_d C_M_table 162 rfl) lc_M_239 ⟨by omega, by omega⟩ ?_
                  refine x_invokestatic (st := []) (av := [xJ (vxA), xJ (1), xJ (300)]) (x_d C_M_table 163 rfl) k_M_48 m_M_in s_M_in rfl (Nat.le_of_ble_eq_true rfl) (by omega) rfl (c_M_in Z (d - 1) (hF (x_up q 1346 j8) (x_up r 1344 (some 44)) (x_up A 43 tk8) ++ (dyn ++ ny)) vxA 1 300) ?_
                  rintro v_ _ ⟨hv_, rfl⟩
                  obtain ⟨z_, rfl, hz_⟩ : ∃ z : Int, v_ = some (xI z) ∧ ((z = 1 ∧ 1 ≤ vxA ∧ vxA ≤ 300) ∨ (z = 0 ∧ ¬ (1 ≤ vxA ∧ vxA ≤ 300))) := ⟨_, hv_, by by_cases c_ : (1 ≤ vxA ∧ vxA ≤ 300); exact Or.inl ⟨x_bo_t c_, c_⟩; exact Or.inr ⟨x_bo_f c_, c_⟩⟩
                  refine x_if_eq (tgt := 347) (x_d C_M_table 164 rfl) rfl (fun c510 => ?_) (fun c510 => ?_)
                  · refine x_iconst (x_d C_M_table 175 rfl) ⟨by omega, by omega⟩ ?_
                    refine x_ireturn (x_d C_M_table 176 rfl) ?_
                    have htd : s_trd X (f + q 1345) wt x.2.2.2.2 = none := by
                      rw [htrd]
                      by_cases c1_ : sA < 0 ∨ ¬ lP ts 5 sA.toNat = 3 ∨ (0 ≤ sB ∧ ¬ lP ts 5 sB.toNat = 3)
                      · exact if_pos c1_
                      · rw [if_neg c1_]; exact if_pos (by omega)
                    exact ⟨_, q 1354, tk8, _, by rw [← hsame], hj8, hmuA, Or.inr ⟨_, rfl, Or.inl ⟨htd, rfl, gok_app hgk _⟩⟩⟩
                  · refine x_aload (x_d C_M_table 165 rfl) rfl ?_
                    refine x_ifnullC (tgt := 337) (x_d C_M_table 166 rfl) rfl ?_
                    refine x_aload (x_d C_M_table 167 rfl) rfl ?_
                    refine x_getfield (v := xI (lP ts 5 sB.toNat)) (x_d C_M_table 168 rfl) f_M_261 (ct_get (q2 _ _ hcB) _ _ _) rfl ?_
                    refine x_iconst (x_d C_M_table 169 rfl) ⟨by omega, by omega⟩ ?_
                    refine x_icmp_ne (tgt := 347) (x_d C_M_table 170 rfl) rfl (fun c512 => ?_) (fun c512 => ?_)
                    · refine x_iconst (x_d C_M_table 175 rfl) ⟨by omega, by omega⟩ ?_
                      refine x_ireturn (x_d C_M_table 176 rfl) ?_
                      have htd : s_trd X (f + q 1345) wt x.2.2.2.2 = none := by
                        rw [htrd]
                        by_cases c1_ : sA < 0 ∨ ¬ lP ts 5 sA.toNat = 3 ∨ (0 ≤ sB ∧ ¬ lP ts 5 sB.toNat = 3)
                        · exact if_pos c1_
                        · rw [if_neg c1_]; exact if_pos (by omega)
                      exact ⟨_, q 1354, tk8, _, by rw [← hsame], hj8, hmuA, Or.inr ⟨_, rfl, Or.inl ⟨htd, rfl, gok_app hgk _⟩⟩⟩
                    · refine x_iload (x_d C_M_table 171 rfl) rfl ?_
                      refine x_aload (x_d C_M_table 172 rfl) rfl ?_
                      refine x_getfield (v := xI (vxA)) (x_d C_M_table 173 rfl) f_M_95 (ct_get (q2 _ _ hcA) _ _ _) rfl ?_
                      refine x_icmp_lt (tgt := 349) (x_d C_M_table 174 rfl) rfl (fun c513 => ?_) (fun c513 => ?_)
                      · refine x_aload_n (x_d C_M_table 177 rfl) rfl ?_
                        refine x_getfield (v := xN) (x_d C_M_table 178 rfl) f_M_264 (ct_get hp2.1 _ _ _) rfl ?_
                        refine x_ifnonnullN (tgt := 371) (x_d C_M_table 179 rfl) rfl ?_
                        refine x_aload_n (x_d C_M_table 180 rfl) rfl ?_
                        refine x_aload (x_d C_M_table 181 rfl) rfl ?_
                        refine x_putfield (h1 := hF (x_up q 1346 j8) (x_up r 1344 (some 44)) (x_up A 43 tk8) ++ ((dyn ++ ny).set (cp - 52) (xB 11 [xO bt, xI tb, xI lt, xO ((some c)), xC (cp + 1), xC (cp + 2), xC (cp + 3), xC (cp + 4), xC (cp + 5), xI sz]))) (x_d C_M_table 182 rfl) p_M_264 (ct_get hp2.1 _ _ _) rfl rfl trivial (g_set hp2.1.1 _ _ _ _) ?_
                        have hs_ := PB_ob hp2 hnp2 q2 bt tb lt ((some c)) sz
                        generalize (dyn ++ ny).set (cp - 52) (xB 11 [xO bt, xI tb, xI lt, xO ((some c)), xC (cp + 1), xC (cp + 2), xC (cp + 3), xC (cp + 4), xC (cp + 5), xI sz]) = dn1 at hs_ ⊢
                        obtain ⟨hp1, hs1⟩ := hs_
                        have hgk1 := hs1.1
                        refine x_aload_n (x_d C_M_table 183 rfl) rfl ?_
                        refine x_aload (x_d C_M_table 184 rfl) rfl ?_
                        refine x_getfield (v := xI (vxA)) (x_d C_M_table 185 rfl) f_M_95 (ct_get (hgk1 _ _ hcA) _ _ _) rfl ?_
                        refine x_putfield (h1 := hF (x_up q 1346 j8) (x_up r 1344 (some 44)) (x_up A 43 tk8) ++ (dn1.set (cp - 52) (xB 11 [xO bt, xI tb, xI lt, xO ((some c)), xC (cp + 1), xC (cp + 2), xC (cp + 3), xC (cp + 4), xC (cp + 5), xI vxA]))) (x_d C_M_table 186 rfl) p_M_266 (ct_get hp1.1 _ _ _) rfl rfl trivial (g_set hp1.1.1 _ _ _ _) ?_
                        have hs_ := PB_ob hp1 hnp2 hgk1 bt tb lt ((some c)) vxA
                        generalize dn1.set (cp - 52) (xB 11 [xO bt, xI tb, xI lt, xO ((some c)), xC (cp + 1), xC (cp + 2), xC (cp + 3), xC (cp + 4), xC (cp + 5), xI vxA]) = dn2 at hs_ ⊢
                        obtain ⟨hp2, hs2⟩ := hs_
                        have hgk2 := hs2.1
                        have hPS2 := PS_tr hs1 hs2
                        refine x_aload_n (x_d C_M_table 187 rfl) rfl ?_
                        refine x_aload (x_d C_M_table 188 rfl) rfl ?_
                        refine x_ifnonnullC (tgt := 381) (x_d C_M_table 189 rfl) rfl ?_
                        refine x_aload (x_d C_M_table 192 rfl) rfl ?_
                        refine x_getfield (v := xI (vxB)) (x_d C_M_table 193 rfl) f_M_95 (ct_get (hgk2 _ _ hcB) _ _ _) rfl ?_
                        refine x_if_ge (tgt := 394) (x_d C_M_table 194 rfl) rfl (fun c516 => ?_) (fun c516 => ?_)
                        · refine x_aload (x_d C_M_table 197 rfl) rfl ?_
                          refine x_getfield (v := xI (vxB)) (x_d C_M_table 198 rfl) f_M_95 (ct_get (hgk2 _ _ hcB) _ _ _) rfl ?_
                          refine x_putfield (h1 := hF (x_up (x_up q 1346 j8) 1354 vxB) (x_up r 1344 (some 44)) (x_up A 43 tk8) ++ dn2) (x_d C_M_table 199 rfl) p_M_227 rfl rfl rfl trivial rfl ?_
                          refine x_iconst (x_d C_M_table 200 rfl) ⟨by omega, by omega⟩ ?_
                          refine x_ireturn (x_d C_M_table 201 rfl) ?_
                          refine ⟨_, _, tk8, _, rfl, hj8, fun u w => by rw [hPS2.2.1 u w]; exact hmuA u w, Or.inr ⟨_, rfl, Or.inr ⟨(ts, lP ts 6 sA.toNat, (if sB < 0 then none else some (lP ts 6 sB.toNat))), g2, fis, fge, fpl, ft, _, _, ?_, rfl, q1, hgk2, fun k hk z => q3 k (by omega) z, hp2, hrx, ?_, Or.inl ⟨by omega, by first | rfl | omega | exact (h3A (by omega)).1, c, rfl, q4, q6⟩⟩⟩⟩
                          · rw [htrd, if_neg (by omega), if_neg (by omega)]
                          · show _ = s_old (if sB < 0 then none else some (lP ts 6 sB.toNat))
                            rw [if_neg (by omega)]
                            show _ = if lP ts 6 sB.toNat < 0 then (-2 : Int) else lP ts 6 sB.toNat
                            have := (h3B (by omega)).1
                            split <;> omega
                        · refine x_bipush (x_d C_M_table 195 rfl) (by omega) ?_
                          refine x_goto (tgt := 399) (x_d C_M_table 196 rfl) rfl ?_
                          refine x_putfield (h1 := hF (x_up (x_up q 1346 j8) 1354 (-2)) (x_up r 1344 (some 44)) (x_up A 43 tk8) ++ dn2) (x_d C_M_table 199 rfl) p_M_227 rfl rfl rfl trivial rfl ?_
                          refine x_iconst (x_d C_M_table 200 rfl) ⟨by omega, by omega⟩ ?_
                          refine x_ireturn (x_d C_M_table 201 rfl) ?_
                          refine ⟨_, _, tk8, _, rfl, hj8, fun u w => by rw [hPS2.2.1 u w]; exact hmuA u w, Or.inr ⟨_, rfl, Or.inr ⟨(ts, lP ts 6 sA.toNat, (if sB < 0 then none else some (lP ts 6 sB.toNat))), g2, fis, fge, fpl, ft, _, _, ?_, rfl, q1, hgk2, fun k hk z => q3 k (by omega) z, hp2, hrx, ?_, Or.inl ⟨by omega, by first | rfl | omega | exact (h3A (by omega)).1, c, rfl, q4, q6⟩⟩⟩⟩
                          · rw [htrd, if_neg (by omega), if_neg (by omega)]
                          · show _ = s_old (if sB < 0 then none else some (lP ts 6 sB.toNat))
                            rw [if_neg (by omega)]
                            show _ = if lP ts 6 sB.toNat < 0 then (-2 : Int) else lP ts 6 sB.toNat
                            have := (h3B (by omega)).1
                            split <;> omega
                      · refine x_iconst (x_d C_M_table 175 rfl) ⟨by omega, by omega⟩ ?_
                        refine x_ireturn (x_d C_M_table 176 rfl) ?_
                        have htd : s_trd X (f + q 1345) wt x.2.2.2.2 = none := by
                          rw [htrd]
                          by_cases c1_ : sA < 0 ∨ ¬ lP ts 5 sA.toNat = 3 ∨ (0 ≤ sB ∧ ¬ lP ts 5 sB.toNat = 3)
                          · exact if_pos c1_
                          · rw [if_neg c1_]; exact if_pos (by omega)
                        exact ⟨_, q 1354, tk8, _, by rw [← hsame], hj8, hmuA, Or.inr ⟨_, rfl, Or.inl ⟨htd, rfl, gok_app hgk _⟩⟩⟩
              · refine x_astore (l1 := [(8, xC cB), (7, xC cA), (6, xC c), (0, xC 42), (1, xC cp), (2, xI (pl)), (3, xC ctd), (4, xI (x.2.2.2.2)), (5, xI (b5))]) (x_d C_M_table 151 rfl) (by decide) rfl ?_
                refine x_aload (x_d C_M_table 152 rfl) rfl ?_
                refine x_ifnullC (tgt := 347) (x_d C_M_table 153 rfl) rfl ?_
                refine x_aload (x_d C_M_table 154 rfl) rfl ?_
                refine x_getfield (v := xI (lP ts 5 sA.toNat)) (x_d C_M_table 155 rfl) f_M_261 (ct_get (q2 _ _ hcA) _ _ _) rfl ?_
                refine x_iconst (x_d C_M_table 156 rfl) ⟨by omega, by omega⟩ ?_
                refine x_icmp_ne (tgt := 347) (x_d C_M_table 157 rfl) rfl (fun c509 => ?_) (fun c509 => ?_)
                · refine x_iconst (x_d C_M_table 175 rfl) ⟨by omega, by omega⟩ ?_
                  refine x_ireturn (x_d C_M_table 176 rfl) ?_
                  have htd : s_trd X (f + q 1345) wt x.2.2.2.2 = none := by
                    rw [htrd]
                    by_cases c1_ : sA < 0 ∨ ¬ lP ts 5 sA.toNat = 3 ∨ (0 ≤ sB ∧ ¬ lP ts 5 sB.toNat = 3)
                    · exact if_pos c1_
                    · rw [if_neg c1_]; exact if_pos (by omega)
                  exact ⟨_, q 1354, tk8, _, by rw [← hsame], hj8, hmuA, Or.inr ⟨_, rfl, Or.inl ⟨htd, rfl, gok_app hgk _⟩⟩⟩
                · refine x_aload (x_d C_M_table 158 rfl) rfl ?_
                  refine x_getfield (v := xI (vxA)) (x_d C_M_table 159 rfl) f_M_95 (ct_get (q2 _ _ hcA) _ _ _) rfl ?_
                  refine x_i2l (x_d C_M_table 160 rfl) ?_
                  refine x_lconst1 (x_d C_M_table 161 rfl) ?_
                  refine x_ldc2 (n := 300) (x_d C_M_table 162 rfl) lc_M_239 ⟨by omega, by omega⟩ ?_
                  refine x_invokestatic (st := []) (av := [xJ (vxA), xJ (1), xJ (300)]) (x_d C_M_table 163 rfl) k_M_48 m_M_in s_M_in rfl (Nat.le_of_ble_eq_true rfl) (by omega) rfl (c_M_in Z (d - 1) (hF (x_up q 1346 j8) (x_up r 1344 (some 44)) (x_up A 43 tk8) ++ (dyn ++ ny)) vxA 1 300) ?_
                  rintro v_ _ ⟨hv_, rfl⟩
                  obtain ⟨z_, rfl, hz_⟩ : ∃ z : Int, v_ = some (xI z) ∧ ((z = 1 ∧ 1 ≤ vxA ∧ vxA ≤ 300) ∨ (z = 0 ∧ ¬ (1 ≤ vxA ∧ vxA ≤ 300))) := ⟨_, hv_, by by_cases c_ : (1 ≤ vxA ∧ vxA ≤ 300); exact Or.inl ⟨x_bo_t c_, c_⟩; exact Or.inr ⟨x_bo_f c_, c_⟩⟩
                  refine x_if_eq (tgt := 347) (x_d C_M_table 164 rfl) rfl (fun c510 => ?_) (fun c510 => ?_)
                  · refine x_iconst (x_d C_M_table 175 rfl) ⟨by omega, by omega⟩ ?_
                    refine x_ireturn (x_d C_M_table 176 rfl) ?_
                    have htd : s_trd X (f + q 1345) wt x.2.2.2.2 = none := by
                      rw [htrd]
                      by_cases c1_ : sA < 0 ∨ ¬ lP ts 5 sA.toNat = 3 ∨ (0 ≤ sB ∧ ¬ lP ts 5 sB.toNat = 3)
                      · exact if_pos c1_
                      · rw [if_neg c1_]; exact if_pos (by omega)
                    exact ⟨_, q 1354, tk8, _, by rw [← hsame], hj8, hmuA, Or.inr ⟨_, rfl, Or.inl ⟨htd, rfl, gok_app hgk _⟩⟩⟩
                  · refine x_aload (x_d C_M_table 165 rfl) rfl ?_
                    refine x_ifnullC (tgt := 337) (x_d C_M_table 166 rfl) rfl ?_
                    refine x_aload (x_d C_M_table 167 rfl) rfl ?_
                    refine x_getfield (v := xI (lP ts 5 sB.toNat)) (x_d C_M_table 168 rfl) f_M_261 (ct_get (q2 _ _ hcB) _ _ _) rfl ?_
                    refine x_iconst (x_d C_M_table 169 rfl) ⟨by omega, by omega⟩ ?_
                    refine x_icmp_ne (tgt := 347) (x_d C_M_table 170 rfl) rfl (fun c512 => ?_) (fun c512 => ?_)
                    · refine x_iconst (x_d C_M_table 175 rfl) ⟨by omega, by omega⟩ ?_
                      refine x_ireturn (x_d C_M_table 176 rfl) ?_
                      have htd : s_trd X (f + q 1345) wt x.2.2.2.2 = none := by
                        rw [htrd]
                        by_cases c1_ : sA < 0 ∨ ¬ lP ts 5 sA.toNat = 3 ∨ (0 ≤ sB ∧ ¬ lP ts 5 sB.toNat = 3)
                        · exact if_pos c1_
                        · rw [if_neg c1_]; exact if_pos (by omega)
                      exact ⟨_, q 1354, tk8, _, by rw [← hsame], hj8, hmuA, Or.inr ⟨_, rfl, Or.inl ⟨htd, rfl, gok_app hgk _⟩⟩⟩
                    · refine x_iload (x_d C_M_table 171 rfl) rfl ?_
                      refine x_aload (x_d C_M_table 172 rfl) rfl ?_
                      refine x_getfield (v := xI (vxA)) (x_d C_M_table 173 rfl) f_M_95 (ct_get (q2 _ _ hcA) _ _ _) rfl ?_
                      refine x_icmp_lt (tgt := 349) (x_d C_M_table 174 rfl) rfl (fun c513 => ?_) (fun c513 => ?_)
                      · refine x_aload_n (x_d C_M_table 177 rfl) rfl ?_
                        refine x_getfield (v := xC trc) (x_d C_M_table 178 rfl) f_M_264 (ct_get hp2.1 _ _ _) rfl ?_
                        refine x_ifnonnullC (tgt := 371) (x_d C_M_table 179 rfl) rfl ?_
                        refine x_aload_n (x_d C_M_table 187 rfl) rfl ?_
                        refine x_aload (x_d C_M_table 188 rfl) rfl ?_
                        refine x_ifnonnullC (tgt := 381) (x_d C_M_table 189 rfl) rfl ?_
                        refine x_aload (x_d C_M_table 192 rfl) rfl ?_
                        refine x_getfield (v := xI (vxB)) (x_d C_M_table 193 rfl) f_M_95 (ct_get (q2 _ _ hcB) _ _ _) rfl ?_
                        refine x_if_ge (tgt := 394) (x_d C_M_table 194 rfl) rfl (fun c516 => ?_) (fun c516 => ?_)
                        · refine x_aload (x_d C_M_table 197 rfl) rfl ?_
                          refine x_getfield (v := xI (vxB)) (x_d C_M_table 198 rfl) f_M_95 (ct_get (q2 _ _ hcB) _ _ _) rfl ?_
                          refine x_putfield (h1 := hF (x_up (x_up q 1346 j8) 1354 vxB) (x_up r 1344 (some 44)) (x_up A 43 tk8) ++ (dyn ++ ny)) (x_d C_M_table 199 rfl) p_M_227 rfl rfl rfl trivial rfl ?_
                          refine x_iconst (x_d C_M_table 200 rfl) ⟨by omega, by omega⟩ ?_
                          refine x_ireturn (x_d C_M_table 201 rfl) ?_
                          refine ⟨_, _, tk8, _, rfl, hj8, hmuA, Or.inr ⟨_, rfl, Or.inr ⟨(ts, lP ts 6 sA.toNat, (if sB < 0 then none else some (lP ts 6 sB.toNat))), g2, fis, fge, fpl, ft, _, _, ?_, rfl, q1, q2, fun k hk z => q3 k (by omega) z, hp2, hrx, ?_, Or.inr ⟨by omega, rfl, rfl⟩⟩⟩⟩
                          · rw [htrd, if_neg (by omega), if_neg (by omega)]
                          · show _ = s_old (if sB < 0 then none else some (lP ts 6 sB.toNat))
                            rw [if_neg (by omega)]
                            show _ = if lP ts 6 sB.toNat < 0 then (-2 : Int) else lP ts 6 sB.toNat
                            have := (h3B (by omega)).1
                            split <;> omega
                        · refine x_bipush (x_d C_M_table 195 rfl) (by omega) ?_
                          refine x_goto (tgt := 399) (x_d C_M_table 196 rfl) rfl ?_
                          refine x_putfield (h1 := hF (x_up (x_up q 1346 j8) 1354 (-2)) (x_up r 1344 (some 44)) (x_up A 43 tk8) ++ (dyn ++ ny)) (x_d C_M_table 199 rfl) p_M_227 rfl rfl rfl trivial rfl ?_
                          refine x_iconst (x_d C_M_table 200 rfl) ⟨by omega, by omega⟩ ?_
                          refine x_ireturn (x_d C_M_table 201 rfl) ?_
                          refine ⟨_, _, tk8, _, rfl, hj8, hmuA, Or.inr ⟨_, rfl, Or.inr ⟨(ts, lP ts 6 sA.toNat, (if sB < 0 then none else some (lP ts 6 sB.toNat))), g2, fis, fge, fpl, ft, _, _, ?_, rfl, q1, q2, fun k hk z => q3 k (by omega) z, hp2, hrx, ?_, Or.inr ⟨by omega, rfl, rfl⟩⟩⟩⟩
                          · rw [htrd, if_neg (by omega), if_neg (by omega)]
                          · show _ = s_old (if sB < 0 then none else some (lP ts 6 sB.toNat))
                            rw [if_neg (by omega)]
                            show _ = if lP ts 6 sB.toNat < 0 then (-2 : Int) else lP ts 6 sB.toNat
                            have := (h3B (by omega)).1
                            split <;> omega
                      · refine x_iconst (x_d C_M_table 175 rfl) ⟨by omega, by omega⟩ ?_
                        refine x_ireturn (x_d C_M_table 176 rfl) ?_
                        have htd : s_trd X (f + q 1345) wt x.2.2.2.2 = none := by
                          rw [htrd]
                          by_cases c1_ : sA < 0 ∨ ¬ lP ts 5 sA.toNat = 3 ∨ (0 ≤ sB ∧ ¬ lP ts 5 sB.toNat = 3)
                          · exact if_pos c1_
                          · rw [if_neg c1_]; exact if_pos (by omega)
                        exact ⟨_, q 1354, tk8, _, by rw [← hsame], hj8, hmuA, Or.inr ⟨_, rfl, Or.inl ⟨htd, rfl, gok_app hgk _⟩⟩⟩
    · refine x_iconst (x_d C_M_table 126 rfl) ⟨by omega, by omega⟩ ?_
      refine x_ireturn (x_d C_M_table 127 rfl) ?_
      rw [if_neg (by omega)]
      have htd : s_trd X (f + q 1345) wt x.2.2.2.2 = none := by
        unfold s_trd
        rw [← hwi]
        cases hv : s_val X (f + q 1345) 8 wi with
        | none => rfl
        | some y =>
          first
          | (have := s_val_ok X hB _ 8 _ y.1 y.2 hv; omega)
          | (rw [Option.bind_some, if_pos (s_val_kd hv (by have h6n := s_txt60 hB (f + q 1345) wi; rw [← show f + j3 = wi by omega] at h6n ⊢; omega))])
      exact ⟨_, q 1354, tz, dyn, by rw [← hsame], by omega, fun u w => by have a1 : k_tr u w X (f + q 1345) (some (x, wt)) = (u + 300 * w) + k_val u w X (f + q 1345) 8 (s_abyte X (f + q 1345) wt 10) := rfl; have a2 := hmu u w; omega, Or.inr ⟨_, rfl, Or.inl ⟨htd, rfl, hgk⟩⟩⟩
  · refine x_iconst (x_d C_M_table 120 rfl) ⟨by omega, by omega⟩ ?_
    refine x_ireturn (x_d C_M_table 121 rfl) ?_
    rw [if_pos (by omega)]
    exact ⟨_, q 1354, tz, dyn, by rw [← hsame], by omega, fun u w => by rw [hmu u w]; exact Nat.le_refl _, Or.inl ⟨rfl, rfl, hgk⟩⟩
