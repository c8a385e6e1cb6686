/-! the reference: all objects -/
/-- what reading all objects costs: the first that is wrong ends it -/
def k_obs (u w : Nat) (b : Nat → Int) (n f : Int) (pl gn us : Nat → Int) (sz : Int) : Nat → Int → Nat
  | 0, _ => 0
  | m + 1, k => if us k.toNat = 0 then k_obs u w b n f pl gn us sz m (k + 1) else k_rv u w b n f pl gn us sz k + ((s_rv b n f pl gn us sz k).map (fun _ => k_obs u w b n f pl gn us sz m (k + 1))).getD 0
theorem OX_sub {sz N : Int} {fis fge fpl fis2 fge2 pl gn us : Nat → Int} (h : OX sz N fis fge fpl pl gn us) (h1 : ∀ k : Nat, (k : Int) < sz → fis2 k = fis k) (h2 : ∀ k : Nat, (k : Int) < sz → fis k = 2 → fge2 k = fge k) : OX sz N fis2 fge2 fpl pl gn us := fun k hk => by
  have := h k hk
  rw [h1 k hk]
  exact ⟨this.1, fun z => by rw [h2 k hk z]; exact this.2 z⟩
theorem w_M_objects_5 (Z : xZ) (d : Nat) (q : Nat → Int) (r : Nat → Option Nat) (A : Nat → Nat → Int) (j : Int) (tz : Nat → Int) (g : Nat → Option xE) (cp : Nat) (bt : Option Nat) (tb lt : Int) (tr : Option Nat) (sz : Int) (fpl : Nat → Int) (fva : Nat → Option Nat) (fch : Nat → Int) (hnp : gnp g cp) (fge : Nat → Int) (hsz : 0 ≤ sz ∧ sz ≤ 300) (Q : Option xV → xH → Prop) (fis : Nat → Int) (dyn : xH) (kk : ∀ dyn2 fis2, PB dyn2 cp bt tb lt tr sz fis2 fge fpl fva fch → PS g dyn dyn2 → (∀ i : Nat, (i : Int) < sz → fis2 i = fis i) → (∀ i : Nat, sz ≤ i → i ≤ 300 → fis2 i = 0) → xW Z d Y_M_objects 25 [(0, xC 42), (1, xC cp)] [] (hF (x_up q 1346 j) (x_up r 1344 (some 44)) (x_up A 43 tz) ++ dyn2) Q) : ∀ (m : Nat) (t : Int) (dyn1 : xH) (fis1 : Nat → Int), (t + m = 301 ∧ sz ≤ t) → PB dyn1 cp bt tb lt tr sz fis1 fge fpl fva fch → PS g dyn dyn1 → (∀ i : Nat, (i : Int) < sz → fis1 i = fis i) → (∀ i : Nat, sz ≤ i → (i : Int) < t → fis1 i = 0) → xW Z d Y_M_objects 5 [(0, xC 42), (1, xC cp), (2, xI t)] [] (hF (x_up q 1346 j) (x_up r 1344 (some 44)) (x_up A 43 tz) ++ dyn1) Q := by
  intro m
  induction m with
  | zero =>
    intro t dyn1 fis1 ht hp hps h1 h2
    refine x_iload_n (x_d C_M_objects 3 rfl) rfl ?_
    refine x_sipush (x_d C_M_objects 4 rfl) (by omega) ?_
    refine x_icmp_gt (tgt := 25) (x_d C_M_objects 5 rfl) rfl (fun _ => ?_) (fun q => absurd q (by omega))
    refine x_locs [0, 1] rfl ?_
    exact kk dyn1 fis1 hp hps h1 (fun i hi hi2 => h2 i hi (by omega))
  | succ m ih =>
    intro t dyn1 fis1 ht hp hps h1 h2
    refine x_iload_n (x_d C_M_objects 3 rfl) rfl ?_
    refine x_sipush (x_d C_M_objects 4 rfl) (by omega) ?_
    refine x_icmp_gt (tgt := 25) (x_d C_M_objects 5 rfl) rfl (fun q => absurd q (by omega)) (fun _ => ?_)
    refine x_aload_n (x_d C_M_objects 6 rfl) rfl ?_
    refine x_getfield (v := xC (cp + 1)) (x_d C_M_objects 7 rfl) f_M_267 (ct_get hp.1 _ _ _) rfl ?_
    refine x_iload_n (x_d C_M_objects 8 rfl) rfl ?_
    refine x_iconst (x_d C_M_objects 9 rfl) ⟨by omega, by omega⟩ ?_
    refine x_iastore (h1 := hF (x_up q 1346 j) (x_up r 1344 (some 44)) (x_up A 43 tz) ++ (dyn1.set (cp + 1 - 52) (xA 0 301 (x_up fis1 (t).toNat 0)))) (x_d C_M_objects 10 rfl) (ct_get hp.2.1 _ _ _) (by omega) (by omega) (g_set (by have := hp.1.1; omega) _ _ _ _) ?_
    have hs_ := PB_fis hp hnp hps.1 (x_up fis1 (t).toNat 0)
    generalize dyn1.set (cp + 1 - 52) (xA 0 301 (x_up fis1 (t).toNat 0)) = dn1 at hs_ ⊢
    obtain ⟨hp1, hs1⟩ := hs_
    have hgk1 := hs1.1
    refine x_iinc (l1 := [(2, xI (t + 1)), (0, xC 42), (1, xC cp)]) (x_d C_M_objects 11 rfl) rfl ⟨by omega, by omega⟩ (by decide) rfl ?_
    refine x_goto (tgt := 5) (x_d C_M_objects 12 rfl) rfl ?_
    refine x_locs [1, 2, 0] rfl ?_
    exact ih (t + 1) dn1 (x_up fis1 t.toNat 0) (by omega) hp1 (PS_tr hps hs1) (fun i hi => by rw [x_up_n _ _ (by omega)]; exact h1 i hi) (fun i hi hi2 => by by_cases e : i = t.toNat; rw [e, x_up_s]; rw [x_up_n _ _ e]; exact h2 i hi (by omega))
theorem w_M_objects_27 (Z : xZ) (d : Nat) (q : Nat → Int) (r : Nat → Option Nat) (A : Nat → Nat → Int) (j : Int) (tz : Nat → Int) (g : Nat → Option xE) (cp : Nat) (bt : Option Nat) (tb lt : Int) (tr : Option Nat) (sz : Int) (fpl : Nat → Int) (fva : Nat → Option Nat) (fch : Nat → Int) (hnp : gnp g cp) (fis : Nat → Int) (Q : Option xV → xH → Prop) (fge : Nat → Int) (dyn : xH) (kk : ∀ dyn2 fge2, PB dyn2 cp bt tb lt tr sz fis fge2 fpl fva fch → PS g dyn dyn2 → (∀ i : Nat, i ≤ 300 → fge2 i = if fis i = 0 then 0 else fge i) → xW Z d Y_M_objects 56 [(0, xC 42), (1, xC cp)] [] (hF (x_up q 1346 j) (x_up r 1344 (some 44)) (x_up A 43 tz) ++ dyn2) Q) : ∀ (m : Nat) (t : Int) (dyn1 : xH) (fge1 : Nat → Int), (t + m = 301 ∧ 0 ≤ t) → PB dyn1 cp bt tb lt tr sz fis fge1 fpl fva fch → PS g dyn dyn1 → (∀ i : Nat, (i : Int) < t → fge1 i = if fis i = 0 then 0 else fge i) → (∀ i : Nat, t ≤ i → fge1 i = fge i) → xW Z d Y_M_objects 27 [(0, xC 42), (1, xC cp), (2, xI t)] [] (hF (x_up q 1346 j) (x_up r 1344 (some 44)) (x_up A 43 tz) ++ dyn1) Q := by
  intro m
  induction m with
  | zero =>
    intro t dyn1 fge1 ht hp hps h1 h2
    refine x_iload_n (x_d C_M_objects 15 rfl) rfl ?_
    refine x_sipush (x_d C_M_objects 16 rfl) (by omega) ?_
    refine x_icmp_gt (tgt := 56) (x_d C_M_objects 17 rfl) rfl (fun _ => ?_) (fun q => absurd q (by omega))
    refine x_locs [0, 1] rfl ?_
    exact kk dyn1 fge1 hp hps (fun i hi => h1 i (by omega))
  | succ m ih =>
    intro t dyn1 fge1 ht hp hps h1 h2
    refine x_iload_n (x_d C_M_objects 15 rfl) rfl ?_
    refine x_sipush (x_d C_M_objects 16 rfl) (by omega) ?_
    refine x_icmp_gt (tgt := 56) (x_d C_M_objects 17 rfl) rfl (fun q => absurd q (by omega)) (fun _ => ?_)
    refine x_aload_n (x_d C_M_objects 18 rfl) rfl ?_
    refine x_getfield (v := xC (cp + 1)) (x_d C_M_objects 19 rfl) f_M_267 (ct_get hp.1 _ _ _) rfl ?_
    refine x_iload_n (x_d C_M_objects 20 rfl) rfl ?_
    refine x_iaload (f := fis) (x_d C_M_objects 21 rfl) (ct_get hp.2.1 _ _ _) (by omega) (by omega) ?_
    refine x_if_ne (tgt := 50) (x_d C_M_objects 22 rfl) rfl (fun c2 => ?_) (fun c2 => ?_)
    · refine x_iinc (l1 := [(2, xI (t + 1)), (0, xC 42), (1, xC cp)]) (x_d C_M_objects 28 rfl) rfl ⟨by omega, by omega⟩ (by decide) rfl ?_
      refine x_goto (tgt := 27) (x_d C_M_objects 29 rfl) rfl ?_
      refine x_locs [1, 2, 0] rfl ?_
      exact ih (t + 1) dyn1 fge1 (by omega) hp hps (fun i hi => by by_cases e : (i : Int) = t; rw [if_neg (by rw [show i = t.toNat by omega]; omega)]; exact h2 i (by omega); exact h1 i (by omega)) (fun i hi => h2 i (by omega))
    · refine x_aload_n (x_d C_M_objects 23 rfl) rfl ?_
      refine x_getfield (v := xC (cp + 2)) (x_d C_M_objects 24 rfl) f_M_278 (ct_get hp.1 _ _ _) rfl ?_
      refine x_iload_n (x_d C_M_objects 25 rfl) rfl ?_
      refine x_iconst (x_d C_M_objects 26 rfl) ⟨by omega, by omega⟩ ?_
      refine x_iastore (h1 := hF (x_up q 1346 j) (x_up r 1344 (some 44)) (x_up A 43 tz) ++ (dyn1.set (cp + 2 - 52) (xA 0 301 (x_up fge1 (t).toNat 0)))) (x_d C_M_objects 27 rfl) (ct_get hp.2.2.1 _ _ _) (by omega) (by omega) (g_set (by have := hp.1.1; omega) _ _ _ _) ?_
      have hs_ := PB_fge hp hnp hps.1 (x_up fge1 (t).toNat 0)
      generalize dyn1.set (cp + 2 - 52) (xA 0 301 (x_up fge1 (t).toNat 0)) = dn1 at hs_ ⊢
      obtain ⟨hp1, hs1⟩ := hs_
      have hgk1 := hs1.1
      refine x_iinc (l1 := [(2, xI (t + 1)), (0, xC 42), (1, xC cp)]) (x_d C_M_objects 28 rfl) rfl ⟨by omega, by omega⟩ (by decide) rfl ?_
      refine x_goto (tgt := 27) (x_d C_M_objects 29 rfl) rfl ?_
      refine x_locs [1, 2, 0] rfl ?_
      exact ih (t + 1) dn1 (x_up fge1 t.toNat 0) (by omega) hp1 (PS_tr hps hs1) (fun i hi => by by_cases e : i = t.toNat; rw [e, x_up_s, if_pos (by omega)]; rw [x_up_n _ _ e]; exact h1 i (by omega)) (fun i hi => by rw [x_up_n _ _ (by omega)]; exact h2 i (by omega))
/-- what reading the objects leaves -/
def oqp (q : Nat → Int) (r : Nat → Option Nat) (A : Nat → Nat → Int) (X : Nat → Int) (f : Int) (g : Nat → Option xE) (cp : Nat) (bt : Option Nat) (tb lt : Int) (tr : Option Nat) (sz : Int) (fis fge fpl : Nat → Int) (fva : Nat → Option Nat) (fch : Nat → Int) (pl gn us : Nat → Int) (n0 : Nat) (M : Nat → Nat → Nat) : Option xV → xH → Prop := fun v h2 => ∃ j2 tk2 dyn2, h2 = hF (x_up q 1346 j2) (x_up r 1344 (some 44)) (x_up A 43 tk2) ++ dyn2 ∧ (0 ≤ j2 ∧ j2 ≤ q 1345) ∧ (∀ u w, mu u w dyn2 ≤ M u w) ∧ ((v = some (xI 5) ∧ gok g dyn2 ∧ ¬ (s_rvs X (f + q 1345) f pl gn us sz ∧ s_sm (s_lrr X (f + q 1345) f pl gn us sz) sz.toNat ≤ 900)) ∨ (v = some (xI 0) ∧ (s_rvs X (f + q 1345) f pl gn us sz ∧ s_sm (s_lrr X (f + q 1345) f pl gn us sz) sz.toNat ≤ 900) ∧ ∃ g2 fva2, gle g g2 ∧ gok g2 dyn2 ∧ gnw g g2 n0 ∧ PB dyn2 cp bt tb lt tr sz fis fge fpl fva2 fch ∧ (∀ k : Nat, (us k = 0 ∨ sz ≤ k) → fva2 k = fva k) ∧ ∀ k : Nat, (k : Int) < sz → ¬ us k = 0 → ∃ ts c, s_rv X (f + q 1345) f pl gn us sz k = some ts ∧ fva2 k = some c ∧ Tr X (f + q 1345) g2 (lP ts) 9 0 c))
theorem w_M_objects_60 (Z : xZ) (d : Nat) (q : Nat → Int) (r : Nat → Option Nat) (A : Nat → Nat → Int) (hd : 43 ≤ d) (X : Nat → Int) (f : Int) (cp : Nat) (bt : Option Nat) (tb lt : Int) (tr : Option Nat) (sz : Int) (fis fge fpl : Nat → Int) (fva0 : Nat → Option Nat) (fch pl gn us : Nat → Int) (M : Nat → Nat → Nat) (hf : 0 ≤ f) (hn : 0 ≤ q 1345 ∧ q 1345 ≤ 4000) (hX : ∀ k : Nat, (k : Int) < q 1345 → A 44 k = X (f.toNat + k)) (hB : ∀ k, -128 ≤ X k ∧ X k ≤ 127) (hsz : 0 ≤ sz ∧ sz ≤ 300) (hox : OX sz (q 1345) fis fge fpl pl gn us) (hfE : f + q 1345 ≤ 10248) : ∀ (m : Nat) (k j : Int) (tz : Nat → Int) (g : Nat → Option xE) (n0 : Nat) (dyn : xH) (fva : Nat → Option Nat), (k + m = sz ∧ 0 ≤ k) → (0 ≤ j ∧ j ≤ q 1345) → PB dyn cp bt tb lt tr sz fis fge fpl fva fch → gnp g cp → gok g dyn → n0 ≤ 52 + dyn.length → (∀ u w, mu u w dyn + k_obs u w X (f + q 1345) f pl gn us sz m k ≤ M u w) → (∀ i : Nat, (us i = 0 ∨ k ≤ i) → fva i = fva0 i) → (∀ i : Nat, (i : Int) < k → ¬ us i = 0 → ∃ ts c, s_rv X (f + q 1345) f pl gn us sz i = some ts ∧ fva i = some c ∧ Tr X (f + q 1345) g (lP ts) 9 0 c) → xW Z d Y_M_objects 60 [(0, xC 42), (1, xC cp), (2, xI (s_sm (s_lrr X (f + q 1345) f pl gn us sz) k.toNat)), (3, xI k)] [] (hF (x_up q 1346 j) (x_up r 1344 (some 44)) (x_up A 43 tz) ++ dyn) (oqp q r A X f g cp bt tb lt tr sz fis fge fpl fva0 fch pl gn us n0 M) := by
  have hlr : ∀ i, 0 ≤ (s_lrr X (f + q 1345) f pl gn us sz) i ∧ (s_lrr X (f + q 1345) f pl gn us sz) i ≤ 10248 := fun i => by
    unfold s_lrr
    split
    · omega
    · cases hv : s_rv X (f + q 1345) f pl gn us sz i with
      | none => exact ⟨Int.le_refl 0, by show (0 : Int) ≤ 10248; omega⟩
      | some ts =>
        have := rv_len hB hv
        show 0 ≤ ((ts.length : Nat) : Int) ∧ ((ts.length : Nat) : Int) ≤ 10248
        omega
  intro m
  induction m with
  | zero =>
    intro k j tz g n0 dyn fva hm hj hp hnp hgk hn0 hmu hva hvs
    have hsm := s_sm_in hlr k.toNat
    have hks : k = sz := by omega
    have hmu2 : ∀ u w, mu u w dyn ≤ M u w := fun u w => by have := hmu u w; omega
    have hrvs : s_rvs X (f + q 1345) f pl gn us sz := fun i hi hu => by obtain ⟨ts, c, z, -⟩ := hvs i (by omega) hu; exact ⟨ts, z⟩
    refine x_iload_n (x_d C_M_objects 34 rfl) rfl ?_
    refine x_aload_n (x_d C_M_objects 35 rfl) rfl ?_
    refine x_getfield (v := xI (sz)) (x_d C_M_objects 36 rfl) f_M_266 (ct_get hp.1 _ _ _) rfl ?_
    refine x_icmp_ge (tgt := 122) (x_d C_M_objects 37 rfl) rfl (fun _ => ?_) (fun q => absurd q (by omega))
    refine x_iload_n (x_d C_M_objects 70 rfl) rfl ?_
    refine x_sipush (x_d C_M_objects 71 rfl) (by omega) ?_
    refine x_icmp_le (tgt := 133) (x_d C_M_objects 72 rfl) rfl (fun c2 => ?_) (fun c2 => ?_)
    · refine x_iconst (x_d C_M_objects 75 rfl) ⟨by omega, by omega⟩ ?_
      refine x_ireturn (x_d C_M_objects 76 rfl) ?_
      exact ⟨j, tz, dyn, rfl, hj, hmu2, Or.inr ⟨rfl, ⟨hrvs, by rw [show sz.toNat = k.toNat by omega]; omega⟩, g, fva, gle_rf g, hgk, gnw_rf g _, hp, fun i hi => hva i (by omega), fun i hi hu => hvs i (by omega) hu⟩⟩
    · refine x_iconst (x_d C_M_objects 73 rfl) ⟨by omega, by omega⟩ ?_
      refine x_goto (tgt := 134) (x_d C_M_objects 74 rfl) rfl ?_
      refine x_ireturn (x_d C_M_objects 76 rfl) ?_
      exact ⟨j, tz, dyn, rfl, hj, hmu2, Or.inl ⟨rfl, hgk, fun z => by have := z.2; rw [show sz.toNat = k.toNat by omega] at this; omega⟩⟩
  | succ m ih =>
    intro k j tz g n0 dyn fva hm hj hp hnp hgk hn0 hmu hva hvs
    have hsm := s_sm_in hlr k.toNat
    have hkb : s_sm (s_lrr X (f + q 1345) f pl gn us sz) k.toNat ≤ 10248 * 300 := by
      have : (10248 : Int) * ((k.toNat : Nat) : Int) ≤ 10248 * 300 := by omega
      omega
    have hoxk := hox k.toNat (by omega)
    have hlk := hlr k.toNat
    have hss : s_sm (s_lrr X (f + q 1345) f pl gn us sz) (k + 1).toNat = s_sm (s_lrr X (f + q 1345) f pl gn us sz) k.toNat + s_lrr X (f + q 1345) f pl gn us sz k.toNat := s_sm_s (s_lrr X (f + q 1345) f pl gn us sz) (by omega)
    have hlrk : s_lrr X (f + q 1345) f pl gn us sz k.toNat = if us k.toNat = 0 then (0 : Int) else ((((s_rv X (f + q 1345) f pl gn us sz ((k.toNat : Nat) : Int)).map List.length).getD 0 : Nat) : Int) := rfl
    rw [show ((k.toNat : Nat) : Int) = k by omega] at hlrk
    have hko : ∀ u w, k_obs u w X (f + q 1345) f pl gn us sz (m + 1) k = if us k.toNat = 0 then k_obs u w X (f + q 1345) f pl gn us sz m (k + 1) else k_rv u w X (f + q 1345) f pl gn us sz k + ((s_rv X (f + q 1345) f pl gn us sz k).map (fun _ => k_obs u w X (f + q 1345) f pl gn us sz m (k + 1))).getD 0 := fun u w => rfl
    refine x_iload_n (x_d C_M_objects 34 rfl) rfl ?_
    refine x_aload_n (x_d C_M_objects 35 rfl) rfl ?_
    refine x_getfield (v := xI (sz)) (x_d C_M_objects 36 rfl) f_M_266 (ct_get hp.1 _ _ _) rfl ?_
    refine x_icmp_ge (tgt := 122) (x_d C_M_objects 37 rfl) rfl (fun q => absurd q (by omega)) (fun _ => ?_)
    refine x_aload_n (x_d C_M_objects 38 rfl) rfl ?_
    refine x_getfield (v := xC (cp + 1)) (x_d C_M_objects 39 rfl) f_M_267 (ct_get hp.1 _ _ _) rfl ?_
    refine x_iload_n (x_d C_M_objects 40 rfl) rfl ?_
    refine x_iaload (f := fis) (x_d C_M_objects 41 rfl) (ct_get hp.2.1 _ _ _) (by omega) (by omega) ?_
    refine x_iconst (x_d C_M_objects 42 rfl) ⟨by omega, by omega⟩ ?_
    refine x_icmp_eq (tgt := 81) (x_d C_M_objects 43 rfl) rfl (fun c2 => ?_) (fun c2 => ?_)
    · refine x_aload_n (x_d C_M_objects 45 rfl) rfl ?_
      refine x_getfield (v := xC (cp + 4)) (x_d C_M_objects 46 rfl) f_M_281 (ct_get hp.1 _ _ _) rfl ?_
      refine x_iload_n (x_d C_M_objects 47 rfl) rfl ?_
      refine x_aload_n (x_d C_M_objects 48 rfl) rfl ?_
      refine x_aload_n (x_d C_M_objects 49 rfl) rfl ?_
      refine x_iload_n (x_d C_M_objects 50 rfl) rfl ?_
      have hu1 : ¬ us k.toNat = 0 := hoxk.1.mp (by omega)
      refine x_invokevirtual (st := [xI k, xC (cp + 4)]) (av := [xC cp, xI k]) (x_d C_M_objects 51 rfl) k_M_284 m_M_valueAt v_M_valueAt cl_M rfl rfl (Nat.le_of_ble_eq_true rfl) (by omega) rfl (c_M_valueAt Z (d - 1) q r A dyn (by omega) X f j k tz g cp bt tb lt tr sz fis fge fpl fva fch pl gn us hp hgk hf hn hX hB hj hsz hox (by omega) (by omega)) ?_
      rintro v_ h_ ⟨j2, tk2, ny, rfl, hj2, hmu2, hr_⟩
      have hp2 := PB_app hp ny
      have hn2 : n0 ≤ 52 + (dyn ++ ny).length := by rw [List.length_append]; omega
      rcases hr_ with ⟨hs, rfl⟩ | ⟨ts, c, g2, hs, rfl, q1, q2, q3, q4⟩
      · have hgkN : gok g (dyn ++ ny) := gok_app hgk ny
        refine x_aastore4N (h1 := hF (x_up q 1346 j2) (x_up r 1344 (some 44)) (x_up A 43 tk2) ++ ((dyn ++ ny).set (cp + 4 - 52) (xQ 4 301 (x_up fva (k).toNat none)))) (x_d C_M_objects 52 rfl) (ct_get hp2.2.2.2.2.1 _ _ _) (by omega) (by omega) (g_set (by have := hp2.1.1; omega) _ _ _ _) ?_
        have hs_ := PB_fva hp2 hnp hgkN (x_up fva (k).toNat none)
        generalize (dyn ++ ny).set (cp + 4 - 52) (xQ 4 301 (x_up fva (k).toNat none)) = dn1 at hs_ ⊢
        obtain ⟨hp1, hs1⟩ := hs_
        have hgk1 := hs1.1
        refine x_aload_n (x_d C_M_objects 53 rfl) rfl ?_
        refine x_getfield (v := xC (cp + 4)) (x_d C_M_objects 54 rfl) f_M_281 (ct_get hp1.1 _ _ _) rfl ?_
        refine x_iload_n (x_d C_M_objects 55 rfl) rfl ?_
        refine x_aaload (x_d C_M_objects 56 rfl) (ct_get hp1.2.2.2.2.1 _ _ _) (by omega) (by omega) ?_
        rw [x_up_s]
        refine x_ifnonnullN (tgt := 104) (x_d C_M_objects 57 rfl) rfl ?_
        refine x_iconst (x_d C_M_objects 58 rfl) ⟨by omega, by omega⟩ ?_
        refine x_ireturn (x_d C_M_objects 59 rfl) ?_
        refine ⟨j2, tk2, _, rfl, hj2, fun u w => ?_, Or.inl ⟨rfl, hgk1, fun z => ?_⟩⟩
        · rw [hs1.2.1 u w, mu_app]
          have a1 := hmu u w
          have a2 := hmu2 u w
          rw [hko u w, if_neg hu1] at a1
          omega
        · obtain ⟨ts, hz⟩ := z.1 k.toNat (by omega) hu1
          rw [show ((k.toNat : Nat) : Int) = k by omega, hs] at hz
          cases hz
      · have hbl := rv_len hB hs
        obtain ⟨-, x4, y4, m4, bt4, it4, nm4, hc4, htl4, -⟩ := Tr_o q4
        refine x_aastore4 (h1 := hF (x_up q 1346 j2) (x_up r 1344 (some 44)) (x_up A 43 tk2) ++ ((dyn ++ ny).set (cp + 4 - 52) (xQ 4 301 (x_up fva (k).toNat (some c))))) (x_d C_M_objects 52 rfl) (ct_get hp2.2.2.2.2.1 _ _ _) (ct_get (q2 _ _ hc4) _ _ _) (by omega) (by omega) (g_set (by have := hp2.1.1; omega) _ _ _ _) ?_
        have hs_ := PB_fva hp2 (gnp_gnw q3 hp hnp) q2 (x_up fva (k).toNat (some c))
        generalize (dyn ++ ny).set (cp + 4 - 52) (xQ 4 301 (x_up fva (k).toNat (some c))) = dn1 at hs_ ⊢
        obtain ⟨hp1, hs1⟩ := hs_
        have hgk1 := hs1.1
        refine x_aload_n (x_d C_M_objects 53 rfl) rfl ?_
        refine x_getfield (v := xC (cp + 4)) (x_d C_M_objects 54 rfl) f_M_281 (ct_get hp1.1 _ _ _) rfl ?_
        refine x_iload_n (x_d C_M_objects 55 rfl) rfl ?_
        refine x_aaload (x_d C_M_objects 56 rfl) (ct_get hp1.2.2.2.2.1 _ _ _) (by omega) (by omega) ?_
        rw [x_up_s]
        refine x_ifnonnullC (tgt := 104) (x_d C_M_objects 57 rfl) rfl ?_
        refine x_iload_n (x_d C_M_objects 60 rfl) rfl ?_
        refine x_aload_n (x_d C_M_objects 61 rfl) rfl ?_
        refine x_getfield (v := xC (cp + 4)) (x_d C_M_objects 62 rfl) f_M_281 (ct_get hp1.1 _ _ _) rfl ?_
        refine x_iload_n (x_d C_M_objects 63 rfl) rfl ?_
        refine x_aaload (x_d C_M_objects 64 rfl) (ct_get hp1.2.2.2.2.1 _ _ _) (by omega) (by omega) ?_
        rw [x_up_s]
        refine x_invokevirtual (st := [xI (s_sm (s_lrr X (f + q 1345) f pl gn us sz) k.toNat)]) (av := []) (x_d C_M_objects 65 rfl) k_M_288 m_MQ_parts v_MQ_parts cl_MQ (ct_get (hgk1 _ _ hc4) _ _ _) rfl (Nat.le_of_ble_eq_true rfl) (by omega) rfl (t_parts Z (hF (x_up q 1346 j2) (x_up r 1344 (some 44)) (x_up A 43 tk2) ++ dn1) X (f + q 1345) g2 (lP ts) (gh_of hgk1 _ _ _) 9 (d - 1) 0 c (by omega) q4 (by show s_bh (lsp ts) 0 ≤ 12900; rw [hbl.1]; omega)) ?_
        rintro v_ h_ ⟨hv_, hh_⟩
        rw [hh_]
        clear hh_
        obtain rfl : v_ = some (xI (ts.length : Int)) := by rw [hv_]; show some (xI (s_bh (lsp ts) 0 - 0)) = _; rw [hbl.1, Int.sub_zero]
        refine x_iadd (x_d C_M_objects 66 rfl) ⟨by omega, by omega⟩ ?_
        refine x_istore_n (l1 := [(2, xI ((s_sm (s_lrr X (f + q 1345) f pl gn us sz) k.toNat) + ((ts.length : Int)))), (0, xC 42), (1, xC cp), (3, xI (k))]) (x_d C_M_objects 67 rfl) (by decide) rfl ?_
        refine x_iinc (l1 := [(3, xI (k + 1)), (2, xI ((s_sm (s_lrr X (f + q 1345) f pl gn us sz) k.toNat) + ((ts.length : Int)))), (0, xC 42), (1, xC cp)]) (x_d C_M_objects 68 rfl) rfl ⟨by omega, by omega⟩ (by decide) rfl ?_
        refine x_goto (tgt := 60) (x_d C_M_objects 69 rfl) rfl ?_
        refine x_locs [2, 3, 1, 0] rfl ?_
        have hle : s_lrr X (f + q 1345) f pl gn us sz k.toNat = ts.length := by rw [hlrk, if_neg hu1, hs]; rfl
        have e0 : s_sm (s_lrr X (f + q 1345) f pl gn us sz) k.toNat + (ts.length : Int) = s_sm (s_lrr X (f + q 1345) f pl gn us sz) (k + 1).toNat := by rw [hss, hle]
        rw [e0]
        refine xW_post ?_ (ih (k + 1) j2 tk2 g2 n0 dn1 (x_up fva k.toNat (some c)) (by omega) hj2 hp1 (gnp_gnw q3 hp hnp) hgk1 (by rw [hs1.2.2]; exact hn2) (fun u w => ?_) (fun i hi => ?_) (fun i hi hu => ?_))
        · rintro v9 h9 ⟨j9, tk9, dy9, e1, e2, e3, ⟨e4, e5, e6⟩ | ⟨e4, e5, g9, fva9, e6, e7, e8, e9⟩⟩
          · exact ⟨j9, tk9, dy9, e1, e2, e3, Or.inl ⟨e4, gok_le q1 e5, e6⟩⟩
          · exact ⟨j9, tk9, dy9, e1, e2, e3, Or.inr ⟨e4, e5, g9, fva9, gle_tr q1 e6, e7, fun i hi z => e8 i hi (q3 i (by omega) z), e9⟩⟩
        · rw [hs1.2.1 u w, mu_app]
          have a1 := hmu u w
          have a2 := hmu2 u w
          rw [hko u w, if_neg hu1, hs] at a1
          have a1 : mu u w dyn + (k_rv u w X (f + q 1345) f pl gn us sz k + k_obs u w X (f + q 1345) f pl gn us sz m (k + 1)) ≤ M u w := a1
          omega
        · rcases hi with hi | hi
          · by_cases e : i = k.toNat
            · rw [e] at hi; exact absurd hi hu1
            · rw [x_up_n _ _ e]; exact hva i (Or.inl hi)
          · rw [x_up_n _ _ (by omega)]; exact hva i (Or.inr (by omega))
        · by_cases e : i = k.toNat
          · refine ⟨ts, c, by rw [e, show ((k.toNat : Nat) : Int) = k by omega]; exact hs, by rw [e, x_up_s], q4⟩
          · obtain ⟨ts3, c3, z1, z2, z3⟩ := hvs i (by omega) hu
            exact ⟨ts3, c3, z1, by rw [x_up_n _ _ e]; exact z2, Tr_g q1 _ _ _ z3⟩
    · refine x_goto (tgt := 116) (x_d C_M_objects 44 rfl) rfl ?_
      refine x_iinc (l1 := [(3, xI (k + 1)), (0, xC 42), (1, xC cp), (2, xI (s_sm (s_lrr X (f + q 1345) f pl gn us sz) k.toNat))]) (x_d C_M_objects 68 rfl) rfl ⟨by omega, by omega⟩ (by decide) rfl ?_
      refine x_goto (tgt := 60) (x_d C_M_objects 69 rfl) rfl ?_
      refine x_locs [1, 2, 3, 0] rfl ?_
      have hu0 : us k.toNat = 0 := by
        rcases Classical.em (us k.toNat = 0) with z | z
        · exact z
        · exact absurd (hoxk.1.mpr z) (by omega)
      have e0 : s_sm (s_lrr X (f + q 1345) f pl gn us sz) (k + 1).toNat = s_sm (s_lrr X (f + q 1345) f pl gn us sz) k.toNat := by rw [hss, hlrk, if_pos hu0, Int.add_zero]
      rw [← e0]
      exact ih (k + 1) j tz g n0 dyn fva (by omega) hj hp hnp hgk hn0 (fun u w => by have := hmu u w; rw [hko u w, if_pos hu0] at this; exact this) (fun i hi => hva i (by omega)) (fun i hi hu => by by_cases e : i = k.toNat; rw [e] at hu; exact absurd hu0 hu; exact hvs i (by omega) hu)
theorem c_M_objects (Z : xZ) (d : Nat) (q : Nat → Int) (r : Nat → Option Nat) (A : Nat → Nat → Int) (hd : 43 ≤ d) (X : Nat → Int) (f : Int) (cp : Nat) (bt : Option Nat) (tb lt : Int) (tr : Option Nat) (sz : Int) (fis fge fpl : Nat → Int) (fva0 : Nat → Option Nat) (fch pl gn us : Nat → Int) (M : Nat → Nat → Nat) (hf : 0 ≤ f) (hn : 0 ≤ q 1345 ∧ q 1345 ≤ 4000) (hX : ∀ k : Nat, (k : Int) < q 1345 → A 44 k = X (f.toNat + k)) (hB : ∀ k, -128 ≤ X k ∧ X k ≤ 127) (hsz : 0 ≤ sz ∧ sz ≤ 300) (hox : OX sz (q 1345) fis fge fpl pl gn us) (hfE : f + q 1345 ≤ 10248) (j : Int) (tz : Nat → Int) (g : Nat → Option xE) (dyn : xH) (hj : 0 ≤ j ∧ j ≤ q 1345) (hp : PB dyn cp bt tb lt tr sz fis fge fpl fva0 fch) (hnp : gnp g cp) (hgk : gok g dyn) (hmu : ∀ u w, mu u w dyn + k_obs u w X (f + q 1345) f pl gn us sz sz.toNat 0 ≤ M u w) : xMet Z d Y_M_objects [xC 42, xC cp] (hF (x_up q 1346 j) (x_up r 1344 (some 44)) (x_up A 43 tz) ++ dyn) (fun v h2 => ∃ fis2 fge2, (∀ i : Nat, (i : Int) < sz → fis2 i = fis i) ∧ (∀ i : Nat, sz ≤ i → i ≤ 300 → fis2 i = 0) ∧ (∀ i : Nat, i ≤ 300 → fge2 i = if fis2 i = 0 then 0 else fge i) ∧ oqp q r A X f g cp bt tb lt tr sz fis2 fge2 fpl fva0 fch pl gn us (52 + dyn.length) M v h2) := by
  refine xMet_of (by decide) (Nat.le_of_ble_eq_true rfl) (fun v h2 hq => by obtain ⟨_, _, _, _, _, _, _, _, _, _, _, ⟨e, _⟩ | ⟨e, _⟩⟩ := hq <;> rw [e] <;> trivial) ?_
  refine x_aload_n (x_d C_M_objects 0 rfl) rfl ?_
  refine x_getfield (v := xI (sz)) (x_d C_M_objects 1 rfl) f_M_266 (ct_get hp.1 _ _ _) rfl ?_
  refine x_istore_n (l1 := [(2, xI (sz)), (0, xC 42), (1, xC cp)]) (x_d C_M_objects 2 rfl) (by decide) rfl ?_
  refine x_locs [1, 2, 0] rfl ?_
  refine w_M_objects_5 Z d q r A j tz g cp bt tb lt tr sz fpl fva0 fch hnp fge hsz _ fis dyn (fun dyn2 fis2 hp2 hs2 a1 a2 => ?_) (301 - sz).toNat sz dyn fis (by omega) hp ⟨hgk, fun _ _ => rfl, rfl⟩ (fun _ _ => rfl) (fun i hi hi2 => absurd hi2 (by omega))
  refine x_iconst (x_d C_M_objects 13 rfl) ⟨by omega, by omega⟩ ?_
  refine x_istore_n (l1 := [(2, xI (0)), (0, xC 42), (1, xC cp)]) (x_d C_M_objects 14 rfl) (by decide) rfl ?_
  refine x_locs [1, 2, 0] rfl ?_
  refine w_M_objects_27 Z d q r A j tz g cp bt tb lt tr sz fpl fva0 fch hnp fis2 _ fge dyn2 (fun dyn3 fge2 hp3 hs3 a4 => ?_) 301 0 dyn2 fge (by omega) hp2 ⟨hs2.1, fun _ _ => rfl, rfl⟩ (fun i hi => absurd hi (by omega)) (fun _ _ => rfl)
  refine x_iconst (x_d C_M_objects 30 rfl) ⟨by omega, by omega⟩ ?_
  refine x_istore_n (l1 := [(2, xI (0)), (0, xC 42), (1, xC cp)]) (x_d C_M_objects 31 rfl) (by decide) rfl ?_
  refine x_iconst (x_d C_M_objects 32 rfl) ⟨by omega, by omega⟩ ?_
  refine x_istore_n (l1 := [(3, xI (0)), (2, xI (0)), (0, xC 42), (1, xC cp)]) (x_d C_M_objects 33 rfl) (by decide) rfl ?_
  refine x_locs [2, 3, 1, 0] rfl ?_
  refine xW_post (fun v h2 hq => ⟨fis2, fge2, a1, a2, a4, hq⟩) ?_
  have hox2 : OX sz (q 1345) fis2 fge2 fpl pl gn us := OX_sub hox a1 (fun i hi hz => by rw [a4 i (by omega), if_neg (by rw [a1 i hi]; omega)])
  exact w_M_objects_60 Z d q r A hd X f cp bt tb lt tr sz fis2 fge2 fpl fva0 fch pl gn us M hf hn hX hB hsz hox2 hfE sz.toNat 0 j tz g (52 + dyn.length) dyn3 fva0 (by omega) hj hp3 hnp hs3.1 (by rw [hs3.2.2, hs2.2.2]; exact Nat.le_refl _) (fun u w => by rw [hs3.2.1 u w, hs2.2.1 u w]; exact hmu u w) (fun _ _ => rfl) (fun i hi => absurd hi (by omega))
