/-! the reference: a section -/
/-- a table that is being read -/
def TS (g : Nat → Option xE) (dyn : xH) (cp : Nat) (bt : Option Nat) (tb lt : Int) (tr : Option Nat) (sz : Int) (fis fge fpl : Nat → Int) (fva : Nat → Option Nat) (fch : Nat → Int) (ctd : Nat) (ft : Nat → Int) (t N : Int) (x : ost) : Prop := PB dyn cp bt tb lt tr sz fis fge fpl fva fch ∧ ct dyn ctd (xA 2 300 ft) ∧ gok g dyn ∧ RX t sz N x fis fge fpl ft
def ctn (g : Nat → Option xE) (cp ctd : Nat) : Prop := g ctd = none ∧ ctd ≠ cp ∧ ctd ≠ cp + 1 ∧ ctd ≠ cp + 2 ∧ ctd ≠ cp + 3 ∧ ctd ≠ cp + 4 ∧ ctd ≠ cp + 5
theorem PB_oth {dy : xH} {cp : Nat} {bt : Option Nat} {tb lt : Int} {tr : Option Nat} {sz : Int} {fis fge fpl : Nat → Int} {fva : Nat → Option Nat} {fch : Nat → Int} (h : PB dy cp bt tb lt tr sz fis fge fpl fva fch) {c : Nat} (hc : 52 ≤ c) (n : c ≠ cp ∧ c ≠ cp + 1 ∧ c ≠ cp + 2 ∧ c ≠ cp + 3 ∧ c ≠ cp + 4 ∧ c ≠ cp + 5) (e : xE) : PB (dy.set (c - 52) e) cp bt tb lt tr sz fis fge fpl fva fch := ⟨ct_setn h.1 (by omega) hc, ct_setn h.2.1 (by omega) hc, ct_setn h.2.2.1 (by omega) hc, ct_setn h.2.2.2.1 (by omega) hc, ct_setn h.2.2.2.2.1 (by omega) hc, ct_setn h.2.2.2.2.2 (by omega) hc⟩
theorem w_M_table_132 (Z : xZ) (d : Nat) (q : Nat → Int) (r : Nat → Option Nat) (A : Nat → Nat → Int) (hd : 4 ≤ d) (X : Nat → Int) (f : Int) (g : Nat → Option xE) (cp : Nat) (bt : Option Nat) (tb lt : Int) (tr : Option Nat) (sz : Int) (fva : Nat → Option Nat) (fch : Nat → Int) (ctd : Nat) (t pl : Int) (MU : Nat → Nat → Nat) (hf : 0 ≤ f) (hn : 0 ≤ q 1345 ∧ q 1345 ≤ 4000) (hX : ∀ k : Nat, (k : Int) < q 1345 → A 44 k = X (f.toNat + k)) (hB : ∀ k, -128 ≤ X k ∧ X k ≤ 127) (hnp : gnp g cp) (hctd : ctn g cp ctd) (ht : 0 ≤ t) (fst cnt : Int) (hfc : 0 ≤ fst ∧ fst + cnt ≤ 300) (Q : Option xV → xH → Prop) : ∀ (m : Nat) (t8 j : Int) (dyn : xH) (fis fge fpl ft : Nat → Int) (x : ost), (0 ≤ t8 ∧ t8 + m = cnt) → (0 ≤ j ∧ j + 20 * m ≤ q 1345) → (-1 ≤ x.2.2.2.2 ∧ x.2.2.2.2 < 300) → TS g dyn cp bt tb lt tr sz fis fge fpl fva fch ctd ft t (q 1345) x → (∀ u w, mu u w dyn = MU u w) → (s_entrs X (f + q 1345) f t sz m (f + j) (fst + t8) x = none → (∀ j2 dyn2, (0 ≤ j2 ∧ j2 ≤ q 1345) → gok g dyn2 → (∀ u w, mu u w dyn2 = MU u w) → Q (some (xI 3)) (hF (x_up q 1346 j2) (x_up r 1344 (some 44)) A ++ dyn2))) → (∀ y e2, s_entrs X (f + q 1345) f t sz m (f + j) (fst + t8) x = some (y, e2) → ∀ dyn2 fis2 fge2 fpl2 ft2, TS g dyn2 cp bt tb lt tr sz fis2 fge2 fpl2 fva fch ctd ft2 t (q 1345) y → (∀ u w, mu u w dyn2 = MU u w) → (-1 ≤ y.2.2.2.2 ∧ y.2.2.2.2 < 300) → (f + j ≤ e2 ∧ e2 ≤ (f + q 1345)) → xW Z d Y_M_table 185 [(0, xC 42), (1, xC cp), (2, xI pl), (3, xC ctd), (4, xI y.2.2.2.2), (5, xI 1)] [] (hF (x_up q 1346 (e2 - f)) (x_up r 1344 (some 44)) A ++ dyn2) Q) → xW Z d Y_M_table 132 [(0, xC 42), (1, xC cp), (2, xI pl), (3, xC ctd), (4, xI x.2.2.2.2), (5, xI 1), (6, xI fst), (7, xI cnt), (8, xI t8)] [] (hF (x_up q 1346 j) (x_up r 1344 (some 44)) A ++ dyn) Q := by
  intro m
  induction m with
  | zero =>
    intro t8 j dyn fis fge fpl ft x h8 hj hhi hts hmu q3 kk
    refine x_iload (x_d C_M_table 71 rfl) rfl ?_
    refine x_iload (x_d C_M_table 72 rfl) rfl ?_
    refine x_icmp_ge (tgt := 185) (x_d C_M_table 73 rfl) rfl (fun _ => ?_) (fun q => absurd q (by omega))
    refine x_locs [0, 1, 2, 3, 4, 5] rfl ?_
    have := kk x (f + j) rfl dyn fis fge fpl ft hts hmu hhi (by omega)
    rw [show f + j - f = j by omega] at this
    exact this
  | succ m ih =>
    intro t8 j dyn fis fge fpl ft x h8 hj hhi hts hmu q3 kk
    have hts0 := hts
    obtain ⟨hp, hct, hgk, hrx⟩ := hts0
    have hrk := hrx (fst + t8).toNat (by omega)
    have hxk := hrk.2.2.2.1
    have hf01 := hrk.2.2.1
    clear hrk
    have hsen : s_entrs X (f + q 1345) f t sz (m + 1) (f + j) (fst + t8) x = (s_entry X (f + q 1345) f t sz (f + j) (fst + t8) x).bind (s_entrs X (f + q 1345) f t sz m (f + j + 20) (fst + t8 + 1)) := rfl
    refine x_iload (x_d C_M_table 71 rfl) rfl ?_
    refine x_iload (x_d C_M_table 72 rfl) rfl ?_
    refine x_icmp_ge (tgt := 185) (x_d C_M_table 73 rfl) rfl (fun q => absurd q (by omega)) (fun _ => ?_)
    refine x_iload (x_d C_M_table 74 rfl) rfl ?_
    refine x_iload (x_d C_M_table 75 rfl) rfl ?_
    refine x_iadd (x_d C_M_table 76 rfl) ⟨by omega, by omega⟩ ?_
    refine x_istore (l1 := [(9, xI (fst + t8)), (0, xC 42), (1, xC cp), (2, xI (pl)), (3, xC ctd), (4, xI (x.2.2.2.2)), (5, xI (1)), (6, xI (fst)), (7, xI (cnt)), (8, xI (t8))]) (x_d C_M_table 77 rfl) (by decide) rfl ?_
    refine x_aload_n (x_d C_M_table 78 rfl) rfl ?_
    refine x_iload (x_d C_M_table 79 rfl) rfl ?_
    refine x_zaload (f := ft) (x_d C_M_table 80 rfl) (ct_get hct _ _ _) (by omega) (by omega) ?_
    refine x_if_ne (tgt := 163) (x_d C_M_table 81 rfl) rfl (fun c2 => ?_) (fun c2 => ?_)
    · refine x_iconst (x_d C_M_table 87 rfl) ⟨by omega, by omega⟩ ?_
      refine x_ireturn (x_d C_M_table 88 rfl) ?_
      have hno : s_entrs X (f + q 1345) f t sz (m + 1) (f + j) (fst + t8) x = none := by rw [hsen]; unfold s_entry; rw [if_pos (Or.inr (hxk.mp (by omega)))]; rfl
      exact q3 hno j dyn (by omega) hgk hmu
    · refine x_aload_n (x_d C_M_table 82 rfl) rfl ?_
      refine x_aload_n (x_d C_M_table 83 rfl) rfl ?_
      refine x_iload (x_d C_M_table 84 rfl) rfl ?_
      have hg1 : gok (x_up g ctd (some (xA 2 300 ft))) dyn := gok_new hgk hct
      have hn1 : gnp (x_up g ctd (some (xA 2 300 ft))) cp := by
        obtain ⟨n0, n1, n2, n3, n4, n5⟩ := hnp
        obtain ⟨-, c0, c1, c2, c3, c4, c5⟩ := hctd
        exact ⟨(x_up_n _ _ (Ne.symm c0)).trans n0, (x_up_n _ _ (Ne.symm c1)).trans n1, (x_up_n _ _ (Ne.symm c2)).trans n2, (x_up_n _ _ (Ne.symm c3)).trans n3, (x_up_n _ _ (Ne.symm c4)).trans n4, (x_up_n _ _ (Ne.symm c5)).trans n5⟩
      refine x_invokevirtual (st := []) (av := [xC cp, xI (fst + t8)]) (x_d C_M_table 85 rfl) k_M_241 m_M_entry v_M_entry cl_M rfl rfl (Nat.le_of_ble_eq_true rfl) (by omega) rfl (c_M_entry Z (d - 1) q r A dyn (by omega) X f j (fst + t8) (x_up g ctd (some (xA 2 300 ft))) cp bt tb lt tr sz fis fge fpl fva fch hp hn1 hg1 hf hn hX hB (by omega) (by omega)) ?_
      rintro v_ h_ ⟨z, rfl, ⟨rfl, hbad, rfl⟩ | ⟨rfl, hbad, dyn2, fis2, fge2, fpl2, rfl, hp2, hps2, hent⟩⟩
      · have hno : s_entrs X (f + q 1345) f t sz (m + 1) (f + j) (fst + t8) x = none := by rw [hsen]; unfold s_entry; rw [if_pos (Or.inl hbad)]; rfl
        refine x_if_ne (tgt := 165) (x_d C_M_table 86 rfl) rfl (fun q => absurd q (by omega)) (fun _ => ?_)
        refine x_iconst (x_d C_M_table 87 rfl) ⟨by omega, by omega⟩ ?_
        refine x_ireturn (x_d C_M_table 88 rfl) ?_
        exact q3 hno j dyn (by omega) hgk hmu
      · have hct2 : ct dyn2 ctd (xA 2 300 ft) := hps2.1 ctd _ (x_up_s _ _ _)
        have hgk2 : gok g dyn2 := fun c e z => hps2.1 c e (by rw [x_up_n _ _ (fun ec => by rw [ec, hctd.1] at z; cases z)]; exact z)
        have hmu2 : ∀ u w, mu u w dyn2 = MU u w := fun u w => (hps2.2.1 u w).trans (hmu u w)
        have hrx2 := RX_entry (b := X) (n := (f + q 1345)) (f := f) (i := f + j) (k := fst + t8) hrx ht (by omega) (by omega) hbad hent
        have hsen2 : s_entrs X (f + q 1345) f t sz (m + 1) (f + j) (fst + t8) x = s_entrs X (f + q 1345) f t sz m (f + (j + 20)) (fst + (t8 + 1)) (e_st X (f + q 1345) f t sz (f + j) (fst + t8) x) := by
          rw [hsen]
          unfold s_entry
          rw [if_neg (by rintro (z | z); rw [hbad] at z; cases z; exact absurd (hxk.mpr z) (by omega)), Option.bind_some, ← Int.add_assoc, ← Int.add_assoc]
        rw [hsen2] at q3 kk
        have hhi2 : (e_st X (f + q 1345) f t sz (f + j) (fst + t8) x).2.2.2.2 = max x.2.2.2.2 (fst + t8) := by unfold e_st; split <;> rfl
        refine x_if_ne (tgt := 165) (x_d C_M_table 86 rfl) rfl (fun _ => ?_) (fun q => absurd q (by omega))
        refine x_aload_n (x_d C_M_table 89 rfl) rfl ?_
        refine x_iload (x_d C_M_table 90 rfl) rfl ?_
        refine x_iconst (x_d C_M_table 91 rfl) ⟨by omega, by omega⟩ ?_
        refine x_zastore (h1 := hF (x_up q 1346 ((j + 20))) (x_up r 1344 (some 44)) A ++ (dyn2.set (ctd - 52) (xA 2 300 (x_up ft (fst + t8).toNat 1)))) (x_d C_M_table 92 rfl) (ct_get hct2 _ _ _) (by omega) (by omega) (Or.inr rfl) (g_set hct2.1 _ _ _ _) ?_
        have hp3 := PB_oth hp2 hct2.1 hctd.2 (xA 2 300 (x_up ft (fst + t8).toNat 1))
        have hct3 := ct_set hct2 (xA 2 300 (x_up ft (fst + t8).toNat 1))
        have hgk3 := gok_set hgk2 hctd.1 hct2.1 (xA 2 300 (x_up ft (fst + t8).toNat 1))
        have hmu3 : ∀ u w, mu u w (dyn2.set (ctd - 52) (xA 2 300 (x_up ft (fst + t8).toNat 1))) = MU u w := fun u w => (mu_ct u w hct2 (xA 2 300 (x_up ft (fst + t8).toNat 1)) rfl).trans (hmu2 u w)
        generalize dyn2.set (ctd - 52) (xA 2 300 (x_up ft (fst + t8).toNat 1)) = dyn3 at hp3 hct3 hgk3 hmu3 ⊢
        refine x_iload (x_d C_M_table 93 rfl) rfl ?_
        refine x_iload (x_d C_M_table 94 rfl) rfl ?_
        refine x_mmax (st := []) (x_d C_M_table 95 rfl) kM_M_245 mmax_w (Nat.le_of_ble_eq_true rfl) (by omega) ?_
        refine x_istore (l1 := [(4, xI (max x.2.2.2.2 (fst + t8))), (9, xI (fst + t8)), (0, xC 42), (1, xC cp), (2, xI (pl)), (3, xC ctd), (5, xI (1)), (6, xI (fst)), (7, xI (cnt)), (8, xI (t8))]) (x_d C_M_table 96 rfl) (by decide) rfl ?_
        refine x_iinc (l1 := [(8, xI (t8 + 1)), (4, xI (max x.2.2.2.2 (fst + t8))), (9, xI (fst + t8)), (0, xC 42), (1, xC cp), (2, xI (pl)), (3, xC ctd), (5, xI (1)), (6, xI (fst)), (7, xI (cnt))]) (x_d C_M_table 97 rfl) rfl ⟨by omega, by omega⟩ (by decide) rfl ?_
        refine x_goto (tgt := 132) (x_d C_M_table 98 rfl) rfl ?_
        refine x_locs [3, 4, 5, 6, 1, 7, 8, 9, 0] rfl ?_
        have := ih (t8 + 1) (j + 20) dyn3 fis2 fge2 fpl2 (x_up ft (fst + t8).toNat 1) (e_st X (f + q 1345) f t sz (f + j) (fst + t8) x) (by omega) (by omega) (by rw [hhi2]; omega) ⟨hp3, hct3, hgk3, hrx2⟩ hmu3 q3 (fun y e2 hy dyn9 f1 f2 f3 f4 z1 z2 z3 z4 => kk y e2 hy dyn9 f1 f2 f3 f4 z1 z2 z3 (by omega))
        rw [hhi2] at this
        exact this
theorem w_M_table_42 (Z : xZ) (d : Nat) (q : Nat → Int) (r : Nat → Option Nat) (A : Nat → Nat → Int) (hd : 4 ≤ d) (X : Nat → Int) (f : Int) (g : Nat → Option xE) (cp : Nat) (bt : Option Nat) (tb lt : Int) (tr : Option Nat) (sz : Int) (fva : Nat → Option Nat) (fch : Nat → Int) (ctd : Nat) (t pl : Int) (MU : Nat → Nat → Nat) (hf : 0 ≤ f) (hn : 0 ≤ q 1345 ∧ q 1345 ≤ 4000) (hX : ∀ k : Nat, (k : Int) < q 1345 → A 44 k = X (f.toNat + k)) (hB : ∀ k, -128 ≤ X k ∧ X k ≤ 127) (hnp : gnp g cp) (hctd : ctn g cp ctd) (ht : 0 ≤ t) (Q : Option xV → xH → Prop) (j : Int) (dyn : xH) (fis fge fpl ft : Nat → Int) (x : ost) (hj : 0 ≤ j ∧ j ≤ q 1345) (hhi : -1 ≤ x.2.2.2.2 ∧ x.2.2.2.2 < 300) (hts : TS g dyn cp bt tb lt tr sz fis fge fpl fva fch ctd ft t (q 1345) x) (hmu : ∀ u w, mu u w dyn = MU u w) (q3 : s_sect X (f + q 1345) f t sz (f + j) x = none → (∀ j2 dyn2, (0 ≤ j2 ∧ j2 ≤ q 1345) → gok g dyn2 → (∀ u w, mu u w dyn2 = MU u w) → Q (some (xI 3)) (hF (x_up q 1346 j2) (x_up r 1344 (some 44)) A ++ dyn2))) (kk : ∀ y e2, s_sect X (f + q 1345) f t sz (f + j) x = some (y, e2) → ∀ dyn2 fis2 fge2 fpl2 ft2, TS g dyn2 cp bt tb lt tr sz fis2 fge2 fpl2 fva fch ctd ft2 t (q 1345) y → (∀ u w, mu u w dyn2 = MU u w) → (-1 ≤ y.2.2.2.2 ∧ y.2.2.2.2 < 300) → xW Z d Y_M_table 185 [(0, xC 42), (1, xC cp), (2, xI pl), (3, xC ctd), (4, xI y.2.2.2.2), (5, xI 1)] [] (hF (x_up q 1346 (e2 - f)) (x_up r 1344 (some 44)) A ++ dyn2) Q) : xW Z d Y_M_table 42 [(0, xC 42), (1, xC cp), (2, xI pl), (3, xC ctd), (4, xI x.2.2.2.2), (5, xI 1)] [] (hF (x_up q 1346 j) (x_up r 1344 (some 44)) A ++ dyn) Q := by
  have hgk := hts.2.2.1
  obtain ⟨n1, hn1⟩ : ∃ z, z = s_num X (f + q 1345) (f + j) := ⟨_, rfl⟩
  obtain ⟨w1, hw1⟩ : ∃ z, z = s_abyte X (f + q 1345) (s_wd X (f + q 1345) (f + j)) 32 := ⟨_, rfl⟩
  obtain ⟨n2, hn2⟩ : ∃ z, z = s_num X (f + q 1345) w1 := ⟨_, rfl⟩
  obtain ⟨w2, hw2⟩ : ∃ z, z = s_abyte X (f + q 1345) (s_wd X (f + q 1345) w1) 10 := ⟨_, rfl⟩
  have hse : s_sect X (f + q 1345) f t sz (f + j) x = if n1 < 0 ∨ n2 < 0 ∨ w2 < 0 ∨ (0 < n2 ∧ 300 < n1 + n2) then none else s_entrs X (f + q 1345) f t sz n2.toNat w2 n1 x := by unfold s_sect; rw [← hn1, ← hw1, ← hn2, ← hw2]
  rw [hse] at q3 kk
  have ha1 := s_abyte_in X (f + q 1345) (s_wd X (f + q 1345) (f + j)) 32
  have ha2 := s_abyte_in X (f + q 1345) (s_wd X (f + q 1345) w1) 10
  rw [← hw1] at ha1
  rw [← hw2] at ha2
  have hnb := s_num_in X (f + q 1345) w1
  rw [← hn2] at hnb
  have hlc : ∀ a b : Int, (x_lc a b ≤ 0 ∧ a ≤ b) ∨ (0 < x_lc a b ∧ b < a) := fun a b => by unfold x_lc; (repeat' split) <;> omega
  refine x_aload_n (x_d C_M_table 22 rfl) rfl ?_
  refine x_invokevirtual (st := []) (av := []) (x_d C_M_table 23 rfl) k_M_98 m_M_takeNumber v_M_takeNumber cl_M rfl rfl (Nat.le_of_ble_eq_true rfl) (by omega) rfl (c_M_takeNumber Z (d - 1) q r A dyn (by omega) X f j hf hn hX (by omega)) ?_
  rintro v_ _ ⟨j1, hv_, rfl, hz1⟩
  rw [← hn1] at hv_ hz1
  obtain rfl : v_ = some (xI n1) := hv_
  have hz1 : (0 ≤ n1 ∧ j1 = s_wd X (f + q 1345) (f + j) - f) ∨ (n1 < 0 ∧ j1 = j) := hz1
  have hni1 := s_num_in X (f + q 1345) (f + j)
  rw [← hn1] at hni1
  have hwi1 := s_wd_in X (f + q 1345) (f + j)
  refine x_istore (l1 := [(6, xI (n1)), (0, xC 42), (1, xC cp), (2, xI (pl)), (3, xC ctd), (4, xI (x.2.2.2.2)), (5, xI (1))]) (x_d C_M_table 24 rfl) (by decide) rfl ?_
  refine x_iload (x_d C_M_table 25 rfl) rfl ?_
  refine x_if_lt (tgt := 62) (x_d C_M_table 26 rfl) rfl (fun c2 => ?_) (fun c2 => ?_)
  · refine x_iconst (x_d C_M_table 31 rfl) ⟨by omega, by omega⟩ ?_
    refine x_ireturn (x_d C_M_table 32 rfl) ?_
    have hno : (if n1 < 0 ∨ n2 < 0 ∨ w2 < 0 ∨ (0 < n2 ∧ 300 < n1 + n2) then none else s_entrs X (f + q 1345) f t sz n2.toNat w2 n1 x) = none := by
      first
      | exact if_pos (by omega)
      | (rw [if_neg (by omega)]
         cases he : s_entrs X (f + q 1345) f t sz n2.toNat w2 n1 x with
         | none => rfl
         | some y => have := s_entrs_room he (by omega); omega)
    exact q3 hno _ dyn (by omega) hgk hmu
  · refine x_aload_n (x_d C_M_table 27 rfl) rfl ?_
    refine x_bipush (x_d C_M_table 28 rfl) (by omega) ?_
    refine x_invokevirtual (st := []) (av := [xI (32)]) (x_d C_M_table 29 rfl) k_M_132 m_M_takeByte v_M_takeByte cl_M rfl rfl (Nat.le_of_ble_eq_true rfl) (by omega) rfl (c_M_takeByte Z (d - 1) q r A dyn X f j1 32 hf hn hX (by omega) hB (by omega)) ?_
    rintro v_ _ ⟨z3, j3, rfl, rfl, hz3⟩
    have hz3 : (z3 = 1 ∧ s_byte X (f + q 1345) (f + j1) = 32 ∧ j3 = j1 + 1 ∧ j1 < q 1345) ∨ (z3 = 0 ∧ ¬ s_byte X (f + q 1345) (f + j1) = 32 ∧ j3 = j1) := hz3
    have hsb3 : s_byte X (f + q 1345) (f + j1) = s_byte X (f + q 1345) (s_wd X (f + q 1345) (f + j)) := by rw [show f + j1 = s_wd X (f + q 1345) (f + j) by omega]
    have hsv3 : w1 = if s_byte X (f + q 1345) (s_wd X (f + q 1345) (f + j)) = 32 then s_wd X (f + q 1345) (f + j) + 1 else -1 := by rw [hw1]; rfl
    rw [← hsb3] at hsv3
    refine x_if_ne (tgt := 64) (x_d C_M_table 30 rfl) rfl (fun c4 => ?_) (fun c4 => ?_)
    · refine x_aload_n (x_d C_M_table 33 rfl) rfl ?_
      refine x_invokevirtual (st := []) (av := []) (x_d C_M_table 34 rfl) k_M_98 m_M_takeNumber v_M_takeNumber cl_M rfl rfl (Nat.le_of_ble_eq_true rfl) (by omega) rfl (c_M_takeNumber Z (d - 1) q r A dyn (by omega) X f j3 hf hn hX (by omega)) ?_
      rintro v_ _ ⟨j5, hv_, rfl, hz5⟩
      have hpos : f + j3 = w1 := by omega
      rw [hpos] at hv_ hz5
      rw [← hn2] at hv_ hz5
      obtain rfl : v_ = some (xI n2) := hv_
      have hz5 : (0 ≤ n2 ∧ j5 = s_wd X (f + q 1345) w1 - f) ∨ (n2 < 0 ∧ j5 = j3) := hz5
      have hni5 := s_num_in X (f + q 1345) w1
      rw [← hn2] at hni5
      have hwi5 := s_wd_in X (f + q 1345) w1
      refine x_istore (l1 := [(7, xI (n2)), (6, xI (n1)), (0, xC 42), (1, xC cp), (2, xI (pl)), (3, xC ctd), (4, xI (x.2.2.2.2)), (5, xI (1))]) (x_d C_M_table 35 rfl) (by decide) rfl ?_
      refine x_iload (x_d C_M_table 36 rfl) rfl ?_
      refine x_if_lt (tgt := 84) (x_d C_M_table 37 rfl) rfl (fun c6 => ?_) (fun c6 => ?_)
      · refine x_iconst (x_d C_M_table 42 rfl) ⟨by omega, by omega⟩ ?_
        refine x_ireturn (x_d C_M_table 43 rfl) ?_
        have hno : (if n1 < 0 ∨ n2 < 0 ∨ w2 < 0 ∨ (0 < n2 ∧ 300 < n1 + n2) then none else s_entrs X (f + q 1345) f t sz n2.toNat w2 n1 x) = none := by
          first
          | exact if_pos (by omega)
          | (rw [if_neg (by omega)]
             cases he : s_entrs X (f + q 1345) f t sz n2.toNat w2 n1 x with
             | none => rfl
             | some y => have := s_entrs_room he (by omega); omega)
        exact q3 hno _ dyn (by omega) hgk hmu
      · refine x_aload_n (x_d C_M_table 38 rfl) rfl ?_
        refine x_bipush (x_d C_M_table 39 rfl) (by omega) ?_
        refine x_invokevirtual (st := []) (av := [xI (10)]) (x_d C_M_table 40 rfl) k_M_132 m_M_takeByte v_M_takeByte cl_M rfl rfl (Nat.le_of_ble_eq_true rfl) (by omega) rfl (c_M_takeByte Z (d - 1) q r A dyn X f j5 10 hf hn hX (by omega) hB (by omega)) ?_
        rintro v_ _ ⟨z7, j7, rfl, rfl, hz7⟩
        have hz7 : (z7 = 1 ∧ s_byte X (f + q 1345) (f + j5) = 10 ∧ j7 = j5 + 1 ∧ j5 < q 1345) ∨ (z7 = 0 ∧ ¬ s_byte X (f + q 1345) (f + j5) = 10 ∧ j7 = j5) := hz7
        have hsb7 : s_byte X (f + q 1345) (f + j5) = s_byte X (f + q 1345) (s_wd X (f + q 1345) w1) := by rw [show f + j5 = s_wd X (f + q 1345) w1 by omega]
        have hsv7 : w2 = if s_byte X (f + q 1345) (s_wd X (f + q 1345) w1) = 10 then s_wd X (f + q 1345) w1 + 1 else -1 := by rw [hw2]; rfl
        rw [← hsb7] at hsv7
        refine x_if_ne (tgt := 86) (x_d C_M_table 41 rfl) rfl (fun c8 => ?_) (fun c8 => ?_)
        · refine x_iload (x_d C_M_table 44 rfl) rfl ?_
          refine x_if_le (tgt := 105) (x_d C_M_table 45 rfl) rfl (fun c9 => ?_) (fun c9 => ?_)
          · refine x_aload_n (x_d C_M_table 54 rfl) rfl ?_
            refine x_getfield (v := xI (j7)) (x_d C_M_table 55 rfl) f_M_7 rfl rfl ?_
            refine x_i2l (x_d C_M_table 56 rfl) ?_
            refine x_ldc2 (n := 20) (x_d C_M_table 57 rfl) lc_M_111 ⟨by omega, by omega⟩ ?_
            refine x_iload (x_d C_M_table 58 rfl) rfl ?_
            refine x_i2l (x_d C_M_table 59 rfl) ?_
            refine x_lmul (x_d C_M_table 60 rfl) ⟨by omega, by omega⟩ ?_
            refine x_ladd (x_d C_M_table 61 rfl) ⟨by omega, by omega⟩ ?_
            refine x_aload_n (x_d C_M_table 62 rfl) rfl ?_
            refine x_getfield (v := xI (q 1345)) (x_d C_M_table 63 rfl) f_M_11 rfl rfl ?_
            refine x_i2l (x_d C_M_table 64 rfl) ?_
            refine x_lcmp (x_d C_M_table 65 rfl) ?_
            have hl2 := hlc (j7 + 20 * n2) (q 1345)
            refine x_if_le (tgt := 129) (x_d C_M_table 66 rfl) rfl (fun c10 => ?_) (fun c10 => ?_)
            · refine x_iconst (x_d C_M_table 69 rfl) ⟨by omega, by omega⟩ ?_
              refine x_istore (l1 := [(8, xI (0)), (7, xI (n2)), (6, xI (n1)), (0, xC 42), (1, xC cp), (2, xI (pl)), (3, xC ctd), (4, xI (x.2.2.2.2)), (5, xI (1))]) (x_d C_M_table 70 rfl) (by decide) rfl ?_
              refine x_locs [3, 4, 5, 6, 7, 8, 2, 1, 0] rfl ?_
              have hc2 : ¬ (n1 < 0 ∨ n2 < 0 ∨ w2 < 0 ∨ (0 < n2 ∧ 300 < n1 + n2)) := by omega
              rw [if_neg hc2] at q3 kk
              have hjw : f + j7 = w2 := by omega
              by_cases hz : n2 = 0
              · have := kk x w2 (by rw [hz]; rfl) dyn fis fge fpl ft hts hmu hhi
                rw [show w2 - f = j7 by omega] at this
                rw [hz]
                refine x_iload (x_d C_M_table 71 rfl) rfl ?_
                refine x_iload (x_d C_M_table 72 rfl) rfl ?_
                refine x_icmp_ge (tgt := 185) (x_d C_M_table 73 rfl) rfl (fun _ => ?_) (fun q => absurd q (by omega))
                refine x_locs [0, 1, 2, 3, 4, 5] rfl ?_
                exact this
              · refine w_M_table_132 Z d q r A hd X f g cp bt tb lt tr sz fva fch ctd t pl MU hf hn hX hB hnp hctd ht n1 n2 (by omega) Q n2.toNat 0 j7 dyn fis fge fpl ft x (by omega) (by omega) hhi hts hmu ?_ ?_
                · rw [hjw, Int.add_zero]; exact q3
                · rw [hjw, Int.add_zero]; exact fun y e2 hy dyn9 f1 f2 f3 f4 z1 z2 z3 z4 => kk y e2 hy dyn9 f1 f2 f3 f4 z1 z2 z3
            · refine x_iconst (x_d C_M_table 67 rfl) ⟨by omega, by omega⟩ ?_
              refine x_ireturn (x_d C_M_table 68 rfl) ?_
              have hno : (if n1 < 0 ∨ n2 < 0 ∨ w2 < 0 ∨ (0 < n2 ∧ 300 < n1 + n2) then none else s_entrs X (f + q 1345) f t sz n2.toNat w2 n1 x) = none := by
                first
                | exact if_pos (by omega)
                | (rw [if_neg (by omega)]
                   cases he : s_entrs X (f + q 1345) f t sz n2.toNat w2 n1 x with
                   | none => rfl
                   | some y => have := s_entrs_room he (by omega); omega)
              exact q3 hno _ dyn (by omega) hgk hmu
          · refine x_iload (x_d C_M_table 46 rfl) rfl ?_
            refine x_i2l (x_d C_M_table 47 rfl) ?_
            refine x_iload (x_d C_M_table 48 rfl) rfl ?_
            refine x_i2l (x_d C_M_table 49 rfl) ?_
            refine x_ladd (x_d C_M_table 50 rfl) ⟨by omega, by omega⟩ ?_
            refine x_ldc2 (n := 300) (x_d C_M_table 51 rfl) lc_M_239 ⟨by omega, by omega⟩ ?_
            refine x_lcmp (x_d C_M_table 52 rfl) ?_
            have hl1 := hlc (n1 + n2) 300
            refine x_if_gt (tgt := 127) (x_d C_M_table 53 rfl) rfl (fun c11 => ?_) (fun c11 => ?_)
            · refine x_iconst (x_d C_M_table 67 rfl) ⟨by omega, by omega⟩ ?_
              refine x_ireturn (x_d C_M_table 68 rfl) ?_
              have hno : (if n1 < 0 ∨ n2 < 0 ∨ w2 < 0 ∨ (0 < n2 ∧ 300 < n1 + n2) then none else s_entrs X (f + q 1345) f t sz n2.toNat w2 n1 x) = none := by
                first
                | exact if_pos (by omega)
                | (rw [if_neg (by omega)]
                   cases he : s_entrs X (f + q 1345) f t sz n2.toNat w2 n1 x with
                   | none => rfl
                   | some y => have := s_entrs_room he (by omega); omega)
              exact q3 hno _ dyn (by omega) hgk hmu
            · refine x_aload_n (x_d C_M_table 54 rfl) rfl ?_
              refine x_getfield (v := xI (j7)) (x_d C_M_table 55 rfl) f_M_7 rfl rfl ?_
              refine x_i2l (x_d C_M_table 56 rfl) ?_
              refine x_ldc2 (n := 20) (x_d C_M_table 57 rfl) lc_M_111 ⟨by omega, by omega⟩ ?_
              refine x_iload (x_d C_M_table 58 rfl) rfl ?_
              refine x_i2l (x_d C_M_table 59 rfl) ?_
              refine x_lmul (x_d C_M_table 60 rfl) ⟨by omega, by omega⟩ ?_
              refine x_ladd (x_d C_M_table 61 rfl) ⟨by omega, by omega⟩ ?_
              refine x_aload_n (x_d C_M_table 62 rfl) rfl ?_
              refine x_getfield (v := xI (q 1345)) (x_d C_M_table 63 rfl) f_M_11 rfl rfl ?_
              refine x_i2l (x_d C_M_table 64 rfl) ?_
              refine x_lcmp (x_d C_M_table 65 rfl) ?_
              have hl2 := hlc (j7 + 20 * n2) (q 1345)
              refine x_if_le (tgt := 129) (x_d C_M_table 66 rfl) rfl (fun c12 => ?_) (fun c12 => ?_)
              · refine x_iconst (x_d C_M_table 69 rfl) ⟨by omega, by omega⟩ ?_
                refine x_istore (l1 := [(8, xI (0)), (7, xI (n2)), (6, xI (n1)), (0, xC 42), (1, xC cp), (2, xI (pl)), (3, xC ctd), (4, xI (x.2.2.2.2)), (5, xI (1))]) (x_d C_M_table 70 rfl) (by decide) rfl ?_
                refine x_locs [3, 4, 5, 6, 7, 8, 2, 1, 0] rfl ?_
                have hc2 : ¬ (n1 < 0 ∨ n2 < 0 ∨ w2 < 0 ∨ (0 < n2 ∧ 300 < n1 + n2)) := by omega
                rw [if_neg hc2] at q3 kk
                have hjw : f + j7 = w2 := by omega
                by_cases hz : n2 = 0
                · have := kk x w2 (by rw [hz]; rfl) dyn fis fge fpl ft hts hmu hhi
                  rw [show w2 - f = j7 by omega] at this
                  rw [hz]
                  refine x_iload (x_d C_M_table 71 rfl) rfl ?_
                  refine x_iload (x_d C_M_table 72 rfl) rfl ?_
                  refine x_icmp_ge (tgt := 185) (x_d C_M_table 73 rfl) rfl (fun _ => ?_) (fun q => absurd q (by omega))
                  refine x_locs [0, 1, 2, 3, 4, 5] rfl ?_
                  exact this
                · refine w_M_table_132 Z d q r A hd X f g cp bt tb lt tr sz fva fch ctd t pl MU hf hn hX hB hnp hctd ht n1 n2 (by omega) Q n2.toNat 0 j7 dyn fis fge fpl ft x (by omega) (by omega) hhi hts hmu ?_ ?_
                  · rw [hjw, Int.add_zero]; exact q3
                  · rw [hjw, Int.add_zero]; exact fun y e2 hy dyn9 f1 f2 f3 f4 z1 z2 z3 z4 => kk y e2 hy dyn9 f1 f2 f3 f4 z1 z2 z3
              · refine x_iconst (x_d C_M_table 67 rfl) ⟨by omega, by omega⟩ ?_
                refine x_ireturn (x_d C_M_table 68 rfl) ?_
                have hno : (if n1 < 0 ∨ n2 < 0 ∨ w2 < 0 ∨ (0 < n2 ∧ 300 < n1 + n2) then none else s_entrs X (f + q 1345) f t sz n2.toNat w2 n1 x) = none := by
                  first
                  | exact if_pos (by omega)
                  | (rw [if_neg (by omega)]
                     cases he : s_entrs X (f + q 1345) f t sz n2.toNat w2 n1 x with
                     | none => rfl
                     | some y => have := s_entrs_room he (by omega); omega)
                exact q3 hno _ dyn (by omega) hgk hmu
        · refine x_iconst (x_d C_M_table 42 rfl) ⟨by omega, by omega⟩ ?_
          refine x_ireturn (x_d C_M_table 43 rfl) ?_
          have hno : (if n1 < 0 ∨ n2 < 0 ∨ w2 < 0 ∨ (0 < n2 ∧ 300 < n1 + n2) then none else s_entrs X (f + q 1345) f t sz n2.toNat w2 n1 x) = none := by
            first
            | exact if_pos (by omega)
            | (rw [if_neg (by omega)]
               cases he : s_entrs X (f + q 1345) f t sz n2.toNat w2 n1 x with
               | none => rfl
               | some y => have := s_entrs_room he (by omega); omega)
          exact q3 hno _ dyn (by omega) hgk hmu
    · refine x_iconst (x_d C_M_table 31 rfl) ⟨by omega, by omega⟩ ?_
      refine x_ireturn (x_d C_M_table 32 rfl) ?_
      have hno : (if n1 < 0 ∨ n2 < 0 ∨ w2 < 0 ∨ (0 < n2 ∧ 300 < n1 + n2) then none else s_entrs X (f + q 1345) f t sz n2.toNat w2 n1 x) = none := by
        first
        | exact if_pos (by omega)
        | (rw [if_neg (by omega)]
           cases he : s_entrs X (f + q 1345) f t sz n2.toNat w2 n1 x with
           | none => rfl
           | some y => have := s_entrs_room he (by omega); omega)
      exact q3 hno _ dyn (by omega) hgk hmu
