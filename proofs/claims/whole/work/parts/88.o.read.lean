/-! the reference: reading tables -/
theorem ctn_g1 {g : Nat → Option xE} {cp ca : Nat} (h : gnp g cp) (hc : ctn g cp ca) (e : xE) : gnp (x_up g ca (some e)) cp := by
  obtain ⟨n0, n1, n2, n3, n4, n5⟩ := h
  obtain ⟨-, c0, c1, c2, c3, c4, c5⟩ := hc
  exact ⟨(x_up_n _ _ (Ne.symm c0)).trans n0, (x_up_n _ _ (Ne.symm c1)).trans n1, (x_up_n _ _ (Ne.symm c2)).trans n2, (x_up_n _ _ (Ne.symm c3)).trans n3, (x_up_n _ _ (Ne.symm c4)).trans n4, (x_up_n _ _ (Ne.symm c5)).trans n5⟩
theorem gle_rm {g g2 : Nat → Option xE} {ca : Nat} {e : xE} (h : gle (x_up g ca (some e)) g2) (hc : g ca = none) : gle g (grm g2 ca) := fun k e2 z => by
  have hk : k ≠ ca := fun ek => by rw [ek, hc] at z; cases z
  rw [grm_n hk]
  exact h k e2 (by rw [x_up_n _ _ hk]; exact z)
theorem gnw_rm {g g2 : Nat → Option xE} {ca n : Nat} {e : xE} (h : gnw (x_up g ca (some e)) g2 n) : gnw g (grm g2 ca) n := fun k hk z => by
  unfold grm
  split
  · rfl
  · next hk2 => exact h k hk (by rw [x_up_n _ _ hk2]; exact z)
theorem gok_g1 {g : Nat → Option xE} {ca : Nat} {e : xE} {dy : xH} (hc : g ca = none) (h : gok (x_up g ca (some e)) dy) : gok g dy := fun k e2 z => h k e2 (by rw [x_up_n _ _ (fun ek => by rw [ek, hc] at z; cases z)]; exact z)
theorem s_tabs_neg {b : Nat → Int} {n f k nx sz : Int} {m : Nat} {pls : List Int} {x : ost} {ts : List tk} (h : nx < 0) : (s_tabs b n f m k nx pls x sz ts).1 = 3 := by
  cases m with
  | zero => rfl
  | succ m =>
    have : s_tab b n f k sz nx pls x = none := by unfold s_tab; rw [if_pos (Or.inr (Or.inl h))]
    rw [s_tabs_3 this]
theorem w_M_read_188 (Z : xZ) (d : Nat) (q : Nat → Int) (r : Nat → Option Nat) (A : Nat → Nat → Int) (hd : 44 ≤ d) (X : Nat → Int) (f : Int) (cp ca : Nat) (bt : Option Nat) (lt : Int) (fva : Nat → Option Nat) (fch : Nat → Int) (l2 l3 : Int) (M : Nat → Nat → Nat) (hf : 0 ≤ f) (hn : 0 ≤ q 1345 ∧ q 1345 ≤ 4000) (hX : ∀ k : Nat, (k : Int) < q 1345 → A 44 k = X (f.toNat + k)) (hB : ∀ k, -128 ≤ X k ∧ X k ≤ 127) (hfE : f + q 1345 ≤ 10248) : ∀ (m : Nat) (k nx : Int) (pls : List Int) (x : ost) (sz : Int) (tr : Option Nat) (ts : List tk) (fis fge fpl : Nat → Int) (j ol : Int) (tz : Nat → Int) (g : Nat → Option xE) (n0 : Nat) (dyn : xH) (fp : Nat → Int), (k + m = 6 ∧ 0 ≤ k) → 0 ≤ nx → ((pls.length : Int) = k ∧ ∀ i : Nat, i < pls.length → fp i = pls.getD i 0) → (0 ≤ j ∧ j ≤ q 1345) → PB dyn cp bt k lt tr sz fis fge fpl fva fch → ctn g cp ca → ct dyn ca (xA 0 6 fp) → gok g dyn → gnp g cp → n0 ≤ ca → RX k sz (q 1345) (s_hi x (-1)) fis fge fpl (fun _ => 0) → ((k = 0 ∧ tr = none) ∨ (¬ k = 0 ∧ (1 ≤ sz ∧ sz ≤ 300) ∧ ∃ c, tr = some c ∧ Tr X (f + q 1345) g (lP ts) 9 0 c ∧ Dj g c)) → (∀ u w, mu u w dyn + k_tabs u w X (f + q 1345) f m k nx pls x sz ≤ M u w) → xW Z d Y_M_read 188 [(0, xC 42), (1, xC cp), (2, xI l2), (3, xI l3), (4, xC ca), (5, xI nx)] [] (hF (x_up (x_up q 1354 ol) 1346 j) (x_up r 1344 (some 44)) (x_up A 43 tz) ++ dyn) (rqp q r A X f g cp bt lt fva fch n0 M ((s_tabs X (f + q 1345) f m k nx pls x sz ts))) := by
  intro m
  induction m with
  | zero =>
    intro k nx pls x sz tr ts fis fge fpl j ol tz g n0 dyn fp hm hnx hpl hj hp hct hca hgk hnp hn0 hrx htr hmu
    refine x_iload (x_d C_M_read 99 rfl) rfl ?_
    refine x_if_lt (tgt := 304) (x_d C_M_read 100 rfl) rfl (fun q => absurd q (by omega)) (fun _ => ?_)
    refine x_iload (x_d C_M_read 101 rfl) rfl ?_
    refine x_aload_n (x_d C_M_read 102 rfl) rfl ?_
    refine x_getfield (v := xI (q 1345)) (x_d C_M_read 103 rfl) f_M_11 rfl rfl ?_
    refine x_icmp_ge (tgt := 211) (x_d C_M_read 104 rfl) rfl (fun c2 => ?_) (fun c2 => ?_)
    · refine x_iconst (x_d C_M_read 109 rfl) ⟨by omega, by omega⟩ ?_
      refine x_ireturn (x_d C_M_read 110 rfl) ?_
      exact ⟨j, ol, tz, dyn, rfl, by omega, fun u w => Nat.le_trans (Nat.le_add_right _ _) (hmu u w), Or.inl ⟨by show ¬ (3 : Int) = 0; omega, ⟨by show (1 : Int) ≤ 3; omega, by show (3 : Int) ≤ 4; omega⟩, rfl, hgk⟩⟩
    · refine x_aload_n (x_d C_M_read 105 rfl) rfl ?_
      refine x_getfield (v := xI (k)) (x_d C_M_read 106 rfl) f_M_224 (ct_get hp.1 _ _ _) rfl ?_
      refine x_bipush (x_d C_M_read 107 rfl) (by omega) ?_
      refine x_icmp_ne (tgt := 213) (x_d C_M_read 108 rfl) rfl (fun q => absurd q (by omega)) (fun _ => ?_)
      refine x_iconst (x_d C_M_read 109 rfl) ⟨by omega, by omega⟩ ?_
      refine x_ireturn (x_d C_M_read 110 rfl) ?_
      exact ⟨j, ol, tz, dyn, rfl, by omega, fun u w => Nat.le_trans (Nat.le_add_right _ _) (hmu u w), Or.inl ⟨by show ¬ (3 : Int) = 0; omega, ⟨by show (1 : Int) ≤ 3; omega, by show (3 : Int) ≤ 4; omega⟩, rfl, hgk⟩⟩
  | succ m ih =>
    intro k nx pls x sz tr ts fis fge fpl j ol tz g n0 dyn fp hm hnx hpl hj hp hct hca hgk hnp hn0 hrx htr hmu
    have htno : (nx ∈ pls ∨ nx < 0 ∨ (f + q 1345) - f ≤ nx) → s_tab X (f + q 1345) f k sz nx pls x = none := fun h => by unfold s_tab; rw [if_pos h]
    have hty : ¬ (nx ∈ pls ∨ nx < 0 ∨ (f + q 1345) - f ≤ nx) → s_tab X (f + q 1345) f k sz nx pls x = (s_sect X (f + q 1345) f k sz (s_abyte X (f + q 1345) (s_the X (f + q 1345) (f + nx) [120, 114, 101, 102]) 10) (s_hi x (-1))).bind (fun y => s_tl X (f + q 1345) f k sz 4000 y.2 y.1) := fun h => by unfold s_tab; rw [if_neg h]
    have hky : ¬ (nx ∈ pls ∨ nx < 0 ∨ (f + q 1345) - f ≤ nx) → ∀ u w, k_tabs u w X (f + q 1345) f (m + 1) k nx pls x sz = k_tr u w X (f + q 1345) (s_tab X (f + q 1345) f k sz nx pls x) + ((s_tab X (f + q 1345) f k sz nx pls x).bind (fun y => (s_trd X (f + q 1345) y.2 y.1.2.2.2.2).map (fun z => match z.2.2 with
      | none => k_obs u w X (f + q 1345) f y.1.2.1 y.1.2.2.1 y.1.2.2.2.1 (if k = 0 then z.2.1 else sz) (if k = 0 then z.2.1 else sz).toNat 0
      | some p => k_tabs u w X (f + q 1345) f m (k + 1) p (pls ++ [nx]) y.1 (if k = 0 then z.2.1 else sz)))).getD 0 := fun h u w => by
      show (if nx ∈ pls ∨ nx < 0 ∨ (f + q 1345) - f ≤ nx then 0 else _) = _
      exact if_neg h
    refine x_iload (x_d C_M_read 99 rfl) rfl ?_
    refine x_if_lt (tgt := 304) (x_d C_M_read 100 rfl) rfl (fun q => absurd q (by omega)) (fun _ => ?_)
    refine x_iload (x_d C_M_read 101 rfl) rfl ?_
    refine x_aload_n (x_d C_M_read 102 rfl) rfl ?_
    refine x_getfield (v := xI (q 1345)) (x_d C_M_read 103 rfl) f_M_11 rfl rfl ?_
    refine x_icmp_ge (tgt := 211) (x_d C_M_read 104 rfl) rfl (fun c2 => ?_) (fun c2 => ?_)
    · refine x_iconst (x_d C_M_read 109 rfl) ⟨by omega, by omega⟩ ?_
      refine x_ireturn (x_d C_M_read 110 rfl) ?_
      rw [s_tabs_3 (htno (by omega))]
      exact ⟨j, ol, tz, dyn, rfl, by omega, fun u w => Nat.le_trans (Nat.le_add_right _ _) (hmu u w), Or.inl ⟨by show ¬ (3 : Int) = 0; omega, ⟨by show (1 : Int) ≤ 3; omega, by show (3 : Int) ≤ 4; omega⟩, rfl, hgk⟩⟩
    · refine x_aload_n (x_d C_M_read 105 rfl) rfl ?_
      refine x_getfield (v := xI (k)) (x_d C_M_read 106 rfl) f_M_224 (ct_get hp.1 _ _ _) rfl ?_
      refine x_bipush (x_d C_M_read 107 rfl) (by omega) ?_
      refine x_icmp_ne (tgt := 213) (x_d C_M_read 108 rfl) rfl (fun _ => ?_) (fun q => absurd q (by omega))
      refine x_iconst (x_d C_M_read 111 rfl) ⟨by omega, by omega⟩ ?_
      refine x_istore (l1 := [(6, xI (0)), (0, xC 42), (1, xC cp), (2, xI (l2)), (3, xI (l3)), (4, xC ca), (5, xI (nx))]) (x_d C_M_read 112 rfl) (by decide) rfl ?_
      refine x_locs [1, 2, 3, 4, 5, 6, 0] rfl ?_
      refine w_M_read_216 Z d q r A j ol tz dyn cp ca bt k lt tr sz fis fge fpl fva fch fp l2 l3 nx hp hca (by omega) _ (fun i hi hfi => ?_) (fun hno => ?_) k.toNat 0 (by omega) (fun i hi => absurd hi (by omega))
      · rw [s_tabs_3 (htno (Or.inl (by rw [← hfi, hpl.2 i (by omega)]; exact s_getD_mem (by omega))))]
        exact ⟨j, ol, tz, dyn, rfl, by omega, fun u w => Nat.le_trans (Nat.le_add_right _ _) (hmu u w), Or.inl ⟨by show ¬ (3 : Int) = 0; omega, ⟨by show (1 : Int) ≤ 3; omega, by show (3 : Int) ≤ 4; omega⟩, rfl, hgk⟩⟩
      · have hgood : ¬ (nx ∈ pls ∨ nx < 0 ∨ (f + q 1345) - f ≤ nx) := by
          rintro (z | z | z)
          · obtain ⟨i, hi, hz⟩ := List.mem_iff_getElem.mp z
            refine hno i (by omega) ?_
            rw [hpl.2 i hi, List.getD_eq_getElem?_getD, List.getElem?_eq_getElem hi]
            exact hz
          · omega
          · omega
        have hty := hty hgood
        have hky := hky hgood
        clear htno
        refine x_aload (x_d C_M_read 126 rfl) rfl ?_
        refine x_aload_n (x_d C_M_read 127 rfl) rfl ?_
        refine x_getfield (v := xI (k)) (x_d C_M_read 128 rfl) f_M_224 (ct_get hp.1 _ _ _) rfl ?_
        refine x_iload (x_d C_M_read 129 rfl) rfl ?_
        refine x_iastore (h1 := hF (x_up (x_up q 1354 ol) 1346 j) (x_up r 1344 (some 44)) (x_up A 43 tz) ++ (dyn.set (ca - 52) (xA 0 6 (x_up fp k.toNat nx)))) (x_d C_M_read 130 rfl) (ct_get hca _ _ _) (by omega) (by omega) (g_set hca.1 _ _ _ _) ?_
        have hp1 := PB_oth hp hca.1 hct.2 (xA 0 6 (x_up fp k.toNat nx))
        have hca1 := ct_set hca (xA 0 6 (x_up fp k.toNat nx))
        have hgk1 := gok_set hgk hct.1 hca.1 (xA 0 6 (x_up fp k.toNat nx))
        have hmu1 : ∀ u w, mu u w (dyn.set (ca - 52) (xA 0 6 (x_up fp k.toNat nx))) = mu u w dyn := fun u w => mu_ct u w hca (xA 0 6 (x_up fp k.toNat nx)) rfl
        have hln1 : (dyn.set (ca - 52) (xA 0 6 (x_up fp k.toNat nx))).length = dyn.length := List.length_set
        generalize dyn.set (ca - 52) (xA 0 6 (x_up fp k.toNat nx)) = dyn1 at hp1 hca1 hgk1 hmu1 hln1 ⊢
        have hg1 : gok (x_up g ca (some (xA 0 6 (x_up fp k.toNat nx)))) dyn1 := gok_new hgk1 hca1
        have hn1 := ctn_g1 hnp hct (xA 0 6 (x_up fp k.toNat nx))
        refine x_aload_n (x_d C_M_read 131 rfl) rfl ?_
        refine x_dup (x_d C_M_read 132 rfl) rfl ?_
        refine x_getfield (v := xI (k)) (x_d C_M_read 133 rfl) f_M_224 (ct_get hp1.1 _ _ _) rfl ?_
        refine x_iconst (x_d C_M_read 134 rfl) ⟨by omega, by omega⟩ ?_
        refine x_iadd (x_d C_M_read 135 rfl) ⟨by omega, by omega⟩ ?_
        refine x_putfield (h1 := hF (x_up (x_up q 1354 ol) 1346 j) (x_up r 1344 (some 44)) (x_up A 43 tz) ++ (dyn1.set (cp - 52) (xB 11 [xO bt, xI (k + 1), xI lt, xO tr, xC (cp + 1), xC (cp + 2), xC (cp + 3), xC (cp + 4), xC (cp + 5), xI sz]))) (x_d C_M_read 136 rfl) p_M_224 (ct_get hp1.1 _ _ _) rfl rfl trivial (g_set hp1.1.1 _ _ _ _) ?_
        have hs_ := PB_ob hp1 hn1 hg1 bt (k + 1) lt tr sz
        generalize dyn1.set (cp - 52) (xB 11 [xO bt, xI (k + 1), xI lt, xO tr, xC (cp + 1), xC (cp + 2), xC (cp + 3), xC (cp + 4), xC (cp + 5), xI sz]) = dn1 at hs_ ⊢
        obtain ⟨hp1, hs1⟩ := hs_
        have hgk1 := hs1.1
        refine x_aload_n (x_d C_M_read 137 rfl) rfl ?_
        refine x_iconst (x_d C_M_read 138 rfl) ⟨by omega, by omega⟩ ?_
        refine x_putfield (h1 := hF (x_up (x_up q 1354 (-1)) 1346 j) (x_up r 1344 (some 44)) (x_up A 43 tz) ++ dn1) (x_d C_M_read 139 rfl) p_M_227 rfl rfl rfl trivial rfl ?_
        refine x_aload_n (x_d C_M_read 140 rfl) rfl ?_
        refine x_aload_n (x_d C_M_read 141 rfl) rfl ?_
        refine x_iload (x_d C_M_read 142 rfl) rfl ?_
        refine x_invokevirtual (st := []) (av := [xC cp, xI nx]) (x_d C_M_read 143 rfl) k_M_230 m_M_table v_M_table cl_M rfl rfl (Nat.le_of_ble_eq_true rfl) (by omega) rfl (c_M_table Z (d - 1) (x_up q 1354 (-1)) r A (by omega) X f (x_up g ca (some (xA 0 6 (x_up fp k.toNat nx)))) cp bt (k + 1) lt tr sz fva fch k nx tz hf hn hX hB hn1 (by omega) (by rcases htr with z | ⟨z1, -, c, z2, -⟩; exact Or.inl z; exact Or.inr ⟨z1, c, z2⟩) j dn1 fis fge fpl x (show 0 ≤ nx ∧ nx < q 1345 by omega) hp1 hgk1 hrx) ?_
        rintro v_ h_ ⟨j2, ol2, tk2, dyn2, rfl, hj2, hmu2, hr_⟩
        have hj2 : 0 ≤ j2 ∧ j2 ≤ q 1345 := hj2
        have hmu2 : ∀ u w, mu u w dyn2 ≤ mu u w dn1 + k_tr u w X (f + q 1345) ((s_sect X (f + q 1345) f k sz (s_abyte X (f + q 1345) (s_the X (f + q 1345) (f + nx) [120, 114, 101, 102]) 10) (s_hi x (-1))).bind (fun y => s_tl X (f + q 1345) f k sz 4000 y.2 y.1)) := hmu2
        have hmu3 : ∀ u w, mu u w dyn2 ≤ mu u w dyn + k_tr u w X (f + q 1345) ((s_sect X (f + q 1345) f k sz (s_abyte X (f + q 1345) (s_the X (f + q 1345) (f + nx) [120, 114, 101, 102]) 10) (s_hi x (-1))).bind (fun y => s_tl X (f + q 1345) f k sz 4000 y.2 y.1)) := fun u w => by have a1 := hmu2 u w; rw [hs1.2.1 u w, hmu1 u w] at a1; exact a1
        have hln2 : 52 + dn1.length = 52 + dyn.length := by rw [hs1.2.2, hln1]
        rw [show x_up (x_up (x_up q 1354 (-1)) 1346 j2) 1354 ol2 = x_up (x_up q 1354 ol2) 1346 j2 by rw [x_up_c (x_up q 1354 (-1)) (by decide : (1346 : Nat) ≠ 1354) j2 ol2, x_up_2]]
        rcases hr_ with ⟨hs, rfl, hgo⟩ | ⟨y, hs, ⟨hz, rfl, hgo⟩ | ⟨z, g2, fis2, fge2, fpl2, ft2, tr9, sz9, hz, rfl, q1, q2, q3, q4, q5, q6, q7⟩⟩
        · have hs : (s_sect X (f + q 1345) f k sz (s_abyte X (f + q 1345) (s_the X (f + q 1345) (f + nx) [120, 114, 101, 102]) 10) (s_hi x (-1))).bind (fun y => s_tl X (f + q 1345) f k sz 4000 y.2 y.1) = none := hs
          refine x_istore (l1 := [(6, xI (3)), (0, xC 42), (1, xC cp), (2, xI (l2)), (3, xI (l3)), (4, xC ca), (5, xI (nx))]) (x_d C_M_read 144 rfl) (by decide) rfl ?_
          refine x_iload (x_d C_M_read 145 rfl) rfl ?_
          refine x_if_le (tgt := 284) (x_d C_M_read 146 rfl) rfl (fun q => absurd q (by omega)) (fun _ => ?_)
          refine x_iload (x_d C_M_read 147 rfl) rfl ?_
          refine x_ireturn (x_d C_M_read 148 rfl) ?_
          rw [s_tabs_3 (hty.trans hs)]
          exact ⟨j2, ol2, tk2, dyn2, rfl, by omega, fun u w => by have a1 := hmu3 u w; have a2 := hmu u w; rw [hky u w, hty] at a2; omega, Or.inl ⟨by show ¬ (3 : Int) = 0; omega, ⟨by show (1 : Int) ≤ 3; omega, by show (3 : Int) ≤ 4; omega⟩, rfl, gok_g1 hct.1 hgo⟩⟩
        · have hz : s_trd X (f + q 1345) y.2 y.1.2.2.2.2 = none := hz
          have hs : (s_sect X (f + q 1345) f k sz (s_abyte X (f + q 1345) (s_the X (f + q 1345) (f + nx) [120, 114, 101, 102]) 10) (s_hi x (-1))).bind (fun y => s_tl X (f + q 1345) f k sz 4000 y.2 y.1) = some y := hs
          refine x_istore (l1 := [(6, xI (4)), (0, xC 42), (1, xC cp), (2, xI (l2)), (3, xI (l3)), (4, xC ca), (5, xI (nx))]) (x_d C_M_read 144 rfl) (by decide) rfl ?_
          refine x_iload (x_d C_M_read 145 rfl) rfl ?_
          refine x_if_le (tgt := 284) (x_d C_M_read 146 rfl) rfl (fun q => absurd q (by omega)) (fun _ => ?_)
          refine x_iload (x_d C_M_read 147 rfl) rfl ?_
          refine x_ireturn (x_d C_M_read 148 rfl) ?_
          rw [s_tabs_4 (hty.trans hs) hz]
          exact ⟨j2, ol2, tk2, dyn2, rfl, by omega, fun u w => by have a1 := hmu3 u w; have a2 := hmu u w; rw [hky u w, hty] at a2; omega, Or.inl ⟨by show ¬ (4 : Int) = 0; omega, ⟨by show (1 : Int) ≤ 4; omega, by show (4 : Int) ≤ 4; omega⟩, rfl, gok_g1 hct.1 hgo⟩⟩
        · have hz : s_trd X (f + q 1345) y.2 y.1.2.2.2.2 = some z := hz
          have hs : (s_sect X (f + q 1345) f k sz (s_abyte X (f + q 1345) (s_the X (f + q 1345) (f + nx) [120, 114, 101, 102]) 10) (s_hi x (-1))).bind (fun y => s_tl X (f + q 1345) f k sz 4000 y.2 y.1) = some y := hs
          have hgca : g2 ca = some (xA 0 6 (x_up fp k.toNat nx)) := q1 _ _ (x_up_s _ _ _)
          have hca2 : ct dyn2 ca (xA 0 6 (x_up fp k.toNat nx)) := q2 _ _ hgca
          have hgl3 : gle g (grm g2 ca) := gle_rm q1 hct.1
          have hgk3 : gok (grm g2 ca) dyn2 := gok_rm q2
          rw [hln2] at q3
          have hgn3 : gnw g (grm g2 ca) (52 + dyn.length) := gnw_rm q3
          have hnp3 : gnp (grm g2 ca) cp := gnp_gnw hgn3 hp hnp
          have hct3 : ctn (grm g2 ca) cp ca := ⟨if_pos rfl, hct.2⟩
          have hti := s_trd_in hB hz
          have hltd := ct_lt hca
          have hsz9 : sz9 = if k = 0 then z.2.1 else sz := by
            rcases q7 with ⟨z1, z2, -⟩ | ⟨z1, -, z2⟩
            · rw [if_pos z1]; exact z2
            · rw [if_neg z1]; exact z2
          have hszb : 1 ≤ sz9 ∧ sz9 ≤ 300 := by
            rcases q7 with ⟨z1, z2, -⟩ | ⟨z1, -, z2⟩
            · rw [z2]; omega
            · rcases htr with ⟨z3, -⟩ | ⟨-, z3, -⟩
              · exact absurd z3 z1
              · rw [z2]; exact z3
          have htr9 : ∃ c, tr9 = some c ∧ Tr X (f + q 1345) (grm g2 ca) (lP (if k = 0 then z.1 else ts)) 9 0 c ∧ Dj (grm g2 ca) c := by
            rcases q7 with ⟨z1, -, c, z3, z4, z5⟩ | ⟨z1, z2, -⟩
            · rw [if_pos z1]; exact ⟨c, z3, Tr_rm hgca _ _ _ z4, Dj_le (grm_le g2 ca) z5⟩
            · rw [if_neg z1]
              rcases htr with ⟨z3, -⟩ | ⟨-, -, c, z3, z4, z5⟩
              · exact absurd z3 z1
              · exact ⟨c, z2.trans z3, Tr_g hgl3 _ _ _ z4, Dj_g hgl3 z4 z5⟩
          have hrx2 : RX (k + 1) sz9 (q 1345) (s_hi y.1 (-1)) fis2 fge2 fpl2 (fun _ => 0) := RX_next (by omega) q5 (by rcases q7 with ⟨z1, z2, -⟩ | ⟨z1, -, z2⟩; exact Or.inl ⟨z1, by rw [z2]; omega⟩; exact Or.inr ⟨z1, z2⟩)
          obtain ⟨zt, zs, zp⟩ := z
          have htab := hty.trans hs
          cases zp with
          | none =>
            obtain rfl : ol2 = -1 := q6
            have hmuo : ∀ u w, mu u w dyn2 + k_obs u w X (f + q 1345) f y.1.2.1 y.1.2.2.1 y.1.2.2.2.1 sz9 sz9.toNat 0 ≤ M u w := fun u w => by
              have a1 := hmu3 u w
              have a2 := hmu u w
              rw [hky u w, htab, Option.bind_some, hz] at a2
              have a2 : mu u w dyn + (k_tr u w X (f + q 1345) (some y) + k_obs u w X (f + q 1345) f y.1.2.1 y.1.2.2.1 y.1.2.2.2.1 (if k = 0 then zs else sz) (if k = 0 then zs else sz).toNat 0) ≤ M u w := a2
              have hsz9 : sz9 = if k = 0 then zs else sz := hsz9
              rw [← hsz9] at a2
              rw [hs] at a1
              omega
            refine x_istore (l1 := [(6, xI (0)), (0, xC 42), (1, xC cp), (2, xI (l2)), (3, xI (l3)), (4, xC ca), (5, xI (nx))]) (x_d C_M_read 144 rfl) (by decide) rfl ?_
            refine x_iload (x_d C_M_read 145 rfl) rfl ?_
            refine x_if_le (tgt := 284) (x_d C_M_read 146 rfl) rfl (fun _ => ?_) (fun q => absurd q (by omega))
            refine x_aload_n (x_d C_M_read 149 rfl) rfl ?_
            refine x_getfield (v := xI (-1)) (x_d C_M_read 150 rfl) f_M_227 rfl rfl ?_
            refine x_istore (l1 := [(5, xI (-1)), (6, xI (0)), (0, xC 42), (1, xC cp), (2, xI (l2)), (3, xI (l3)), (4, xC ca)]) (x_d C_M_read 151 rfl) (by decide) rfl ?_
            refine x_aload_n (x_d C_M_read 152 rfl) rfl ?_
            refine x_getfield (v := xI (-1)) (x_d C_M_read 153 rfl) f_M_227 rfl rfl ?_
            refine x_bipush (x_d C_M_read 154 rfl) (by omega) ?_
            refine x_icmp_ne (tgt := 301) (x_d C_M_read 155 rfl) rfl (fun _ => ?_) (fun q => absurd q (by omega))
            refine x_goto (tgt := 188) (x_d C_M_read 158 rfl) rfl ?_
            refine x_iload (x_d C_M_read 99 rfl) rfl ?_
            refine x_if_lt (tgt := 304) (x_d C_M_read 100 rfl) rfl (fun _ => ?_) (fun q => absurd q (by omega))
            refine x_aload_n (x_d C_M_read 159 rfl) rfl ?_
            refine x_aload_n (x_d C_M_read 160 rfl) rfl ?_
            refine x_invokevirtual (st := []) (av := [xC cp]) (x_d C_M_read 161 rfl) k_M_234 m_M_objects v_M_objects cl_M rfl rfl (Nat.le_of_ble_eq_true rfl) (by omega) rfl (c_M_objects Z (d - 1) (x_up q 1354 (-1)) r A (by omega) X f cp bt (k + 1) lt tr9 sz9 fis2 fge2 fpl2 fva fch y.1.2.1 y.1.2.2.1 y.1.2.2.2.1 M hf hn hX hB (by omega) (RX_OX (x := s_hi y.1 (-1)) (N := q 1345) hszb.2 hrx2) hfE j2 tk2 (grm g2 ca) dyn2 hj2 q4 hnp3 hgk3 hmuo) ?_
            rintro v_ h_ ⟨fis3, fge3, a1, a2, a4, j9, tk9, dy9, rfl, hj9, hmu9, ho⟩
            have hj9 : 0 ≤ j9 ∧ j9 ≤ q 1345 := hj9
            rw [s_tabs_0 htab hz rfl, ← hsz9]
            rcases ho with ⟨rfl, ho1, ho2⟩ | ⟨rfl, ho1, g9, fva9, p1, p2, p3, p4, p5, p6⟩
            · refine x_ireturn (x_d C_M_read 162 rfl) ?_
              exact ⟨j9, -1, tk9, dy9, rfl, by omega, hmu9, Or.inr ⟨rfl, Or.inl ⟨rfl, ho2, gok_le hgl3 ho1⟩⟩⟩
            · refine x_ireturn (x_d C_M_read 162 rfl) ?_
              obtain ⟨c9, hc9, ht9, hdj9⟩ := htr9
              rw [hc9] at p4
              exact ⟨j9, -1, tk9, dy9, rfl, by omega, hmu9, Or.inr ⟨rfl, Or.inr ⟨rfl, ho1, g9, c9, fis3, fge3, fpl2, fva9, gle_tr hgl3 p1, p2, fun i hi zi => p3 i (by have := ct_lt hca2; omega) (hgn3 i (by omega) zi), p4, Tr_g p1 _ _ _ ht9, Dj_g p1 ht9 hdj9, hszb, RX_EX (x := s_hi y.1 (-1)) (by omega) hrx2 a1 a2 a4 hszb.2, p5, p6⟩⟩⟩
          | some p =>
            have hq6 : ol2 = if p < 0 then (-2 : Int) else p := q6
            rcases Int.lt_or_le p 0 with hp0 | hp0
            · rw [if_pos hp0] at hq6
              subst hq6
              refine x_istore (l1 := [(6, xI (0)), (0, xC 42), (1, xC cp), (2, xI (l2)), (3, xI (l3)), (4, xC ca), (5, xI (nx))]) (x_d C_M_read 144 rfl) (by decide) rfl ?_
              refine x_iload (x_d C_M_read 145 rfl) rfl ?_
              refine x_if_le (tgt := 284) (x_d C_M_read 146 rfl) rfl (fun _ => ?_) (fun q => absurd q (by omega))
              refine x_aload_n (x_d C_M_read 149 rfl) rfl ?_
              refine x_getfield (v := xI (-2)) (x_d C_M_read 150 rfl) f_M_227 rfl rfl ?_
              refine x_istore (l1 := [(5, xI (-2)), (6, xI (0)), (0, xC 42), (1, xC cp), (2, xI (l2)), (3, xI (l3)), (4, xC ca)]) (x_d C_M_read 151 rfl) (by decide) rfl ?_
              refine x_aload_n (x_d C_M_read 152 rfl) rfl ?_
              refine x_getfield (v := xI (-2)) (x_d C_M_read 153 rfl) f_M_227 rfl rfl ?_
              refine x_bipush (x_d C_M_read 154 rfl) (by omega) ?_
              refine x_icmp_ne (tgt := 301) (x_d C_M_read 155 rfl) rfl (fun q => absurd q (by omega)) (fun _ => ?_)
              refine x_iconst (x_d C_M_read 156 rfl) ⟨by omega, by omega⟩ ?_
              refine x_ireturn (x_d C_M_read 157 rfl) ?_
              rw [s_tabs_s htab hz rfl]
              have h3 : (s_tabs X (f + q 1345) f m (k + 1) p (pls ++ [nx]) y.1 (if k = 0 then zs else sz) (if k = 0 then zt else ts)).1 = 3 := s_tabs_neg hp0
              refine ⟨j2, -2, tk2, dyn2, rfl, by omega, fun u w => ?_, Or.inl ⟨?_, ?_, ?_, gok_le hgl3 hgk3⟩⟩
              · have a1 := hmu3 u w
                have a2 := hmu u w
                rw [hky u w, hty] at a2
                omega
              · show ¬ (s_tabs X (f + q 1345) f m (k + 1) p (pls ++ [nx]) y.1 (if k = 0 then zs else sz) (if k = 0 then zt else ts)).1 = 0
                omega
              · show 1 ≤ (s_tabs X (f + q 1345) f m (k + 1) p (pls ++ [nx]) y.1 (if k = 0 then zs else sz) (if k = 0 then zt else ts)).1 ∧ (s_tabs X (f + q 1345) f m (k + 1) p (pls ++ [nx]) y.1 (if k = 0 then zs else sz) (if k = 0 then zt else ts)).1 ≤ 4
                omega
              · show some (xI 3) = some (xI (s_tabs X (f + q 1345) f m (k + 1) p (pls ++ [nx]) y.1 (if k = 0 then zs else sz) (if k = 0 then zt else ts)).1)
                rw [h3]
            · rw [if_neg (by omega)] at hq6
              have hq6 := hq6.symm
              subst hq6
              refine x_istore (l1 := [(6, xI (0)), (0, xC 42), (1, xC cp), (2, xI (l2)), (3, xI (l3)), (4, xC ca), (5, xI (nx))]) (x_d C_M_read 144 rfl) (by decide) rfl ?_
              refine x_iload (x_d C_M_read 145 rfl) rfl ?_
              refine x_if_le (tgt := 284) (x_d C_M_read 146 rfl) rfl (fun _ => ?_) (fun q => absurd q (by omega))
              refine x_aload_n (x_d C_M_read 149 rfl) rfl ?_
              refine x_getfield (v := xI (p)) (x_d C_M_read 150 rfl) f_M_227 rfl rfl ?_
              refine x_istore (l1 := [(5, xI (p)), (6, xI (0)), (0, xC 42), (1, xC cp), (2, xI (l2)), (3, xI (l3)), (4, xC ca)]) (x_d C_M_read 151 rfl) (by decide) rfl ?_
              refine x_aload_n (x_d C_M_read 152 rfl) rfl ?_
              refine x_getfield (v := xI (p)) (x_d C_M_read 153 rfl) f_M_227 rfl rfl ?_
              refine x_bipush (x_d C_M_read 154 rfl) (by omega) ?_
              refine x_icmp_ne (tgt := 301) (x_d C_M_read 155 rfl) rfl (fun _ => ?_) (fun q => absurd q (by omega))
              refine x_goto (tgt := 188) (x_d C_M_read 158 rfl) rfl ?_
              refine x_locs [2, 3, 4, 5, 6, 0] rfl ?_
              rw [s_tabs_s htab hz rfl, ← hsz9]
              refine xW_post ?_ (ih (k + 1) p (pls ++ [nx]) y.1 sz9 tr9 (if k = 0 then zt else ts) fis2 fge2 fpl2 j2 p tk2 (grm g2 ca) n0 dyn2 (x_up fp k.toNat nx) (by omega) hp0 ⟨?_, ?_⟩ hj2 q4 hct3 hca2 hgk3 hnp3 hn0 hrx2 (Or.inr ⟨by omega, hszb, htr9⟩) (fun u w => ?_))
              · rintro v9 h9 ⟨j9, ol9, tk9, dy9, e1, e2, e3, ⟨e4, e5, e6, e7⟩ | ⟨e4, ⟨e5, e6, e7⟩ | ⟨e5, e6, g9, c9, f1, f2, f3, f4, e7, e8, e9, e10⟩⟩⟩
                · exact ⟨j9, ol9, tk9, dy9, e1, e2, e3, Or.inl ⟨e4, e5, e6, gok_le hgl3 e7⟩⟩
                · exact ⟨j9, ol9, tk9, dy9, e1, e2, e3, Or.inr ⟨e4, Or.inl ⟨e5, e6, gok_le hgl3 e7⟩⟩⟩
                · exact ⟨j9, ol9, tk9, dy9, e1, e2, e3, Or.inr ⟨e4, Or.inr ⟨e5, e6, g9, c9, f1, f2, f3, f4, gle_tr hgl3 e7, e8, fun i hi zi => e9 i hi (hgn3 i (by omega) zi), e10⟩⟩⟩
              · rw [List.length_append]
                show ((pls.length + 1 : Nat) : Int) = k + 1
                omega
              · intro i hi
                rw [List.length_append] at hi
                have hi : i < pls.length + 1 := hi
                rw [s_getD_app]
                split
                · next c9 => rw [x_up_n _ _ (by omega)]; exact hpl.2 i c9
                · next c9 => rw [show i = k.toNat by omega, x_up_s, show k.toNat - pls.length = 0 by omega]; rfl
              · have a1 := hmu3 u w
                have a2 := hmu u w
                rw [hky u w, htab, Option.bind_some, hz] at a2
                have a2 : mu u w dyn + (k_tr u w X (f + q 1345) (some y) + k_tabs u w X (f + q 1345) f m (k + 1) p (pls ++ [nx]) y.1 (if k = 0 then zs else sz)) ≤ M u w := a2
                have hsz9 : sz9 = if k = 0 then zs else sz := hsz9
                rw [← hsz9] at a2
                rw [hs] at a1
                omega
