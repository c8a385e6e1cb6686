/-! the class: open -/
theorem tabs_sz {b : Nat → Int} (hB : ∀ j, -128 ≤ b j ∧ b j ≤ 127) {n f : Int} (hf : 0 ≤ f) : ∀ {m : Nat} {k nx : Int} {pls : List Int} {x : ost} {sz : Int} {ts : List tk}, (k = 0 ∨ ((1 ≤ sz ∧ sz ≤ 300) ∧ 1 ≤ ts.length ∧ 9 * (ts.length : Int) ≤ 8 * (n - f - 17) + 1)) → 0 ≤ k → (s_tabs b n f m k nx pls x sz ts).1 = 0 → (1 ≤ (s_tabs b n f m k nx pls x sz ts).2.2.1 ∧ (s_tabs b n f m k nx pls x sz ts).2.2.1 ≤ 300) ∧ 1 ≤ (s_tabs b n f m k nx pls x sz ts).2.2.2.2.length ∧ 9 * ((s_tabs b n f m k nx pls x sz ts).2.2.2.2.length : Int) ≤ 8 * (n - f - 17) + 1
  | 0, k, nx, pls, x, sz, ts, h, _, h0 => absurd (show (3 : Int) = 0 from h0) (by decide)
  | m + 1, k, nx, pls, x, sz, ts, h, hk, h0 => by
    cases h1 : s_tab b n f k sz nx pls x with
    | none => rw [s_tabs_3 h1] at h0; exact absurd (show (3 : Int) = 0 from h0) (by decide)
    | some y =>
      cases h3 : s_trd b n y.2 y.1.2.2.2.2 with
      | none => rw [s_tabs_4 h1 h3] at h0; exact absurd (show (4 : Int) = 0 from h0) (by decide)
      | some z =>
        have h5 := s_trd_in hB h3
        have h6 := s_tab_in h1 hf
        have h7 : 9 * (z.1.length : Int) ≤ 8 * (n - f - 17) + 1 := by
          have h8 := h3
          unfold s_trd at h8
          obtain ⟨v, hv, h9⟩ := Option.bind_eq_some_iff.mp h8
          have hd := val_dens hB (ts := v.1) (e := v.2) hv
          have hl := s_val_len hB (ts := v.1) (j := v.2) hv
          have hab : y.2 < s_abyte b n y.2 10 := by
            unfold s_abyte at hl ⊢
            split at hl
            · next z9 => rw [if_pos z9]; omega
            · omega
          have e1 : z.1 = v.1 := by
            split at h9
            · cases h9
            · split at h9
              · cases h9
              · split at h9
                · cases h9
                · cases h9; rfl
          rw [e1]
          omega
        have h8 : (1 ≤ (if k = 0 then z.2.1 else sz) ∧ (if k = 0 then z.2.1 else sz) ≤ 300) ∧ 1 ≤ (if k = 0 then z.1 else ts).length ∧ 9 * ((if k = 0 then z.1 else ts).length : Int) ≤ 8 * (n - f - 17) + 1 := by
          by_cases k0 : k = 0
          · rw [if_pos k0, if_pos k0]; exact ⟨⟨h5.2.2.1, h5.2.2.2.1⟩, h5.1, h7⟩
          · rw [if_neg k0, if_neg k0]
            rcases h with h | h
            · exact absurd h k0
            · exact h
        cases h4 : z.2.2 with
        | none => rw [s_tabs_0 h1 h3 h4]; exact h8
        | some p =>
          rw [s_tabs_s h1 h3 h4] at h0 ⊢
          exact tabs_sz hB hf (Or.inr h8) (by omega) h0
theorem ot_sz {b : Nat → Int} (hB : ∀ j, -128 ≤ b j ∧ b j ≤ 127) {n f : Int} (hf : 0 ≤ f) {x : ost} (h : (s_ot b n f x).1 = 0) : (1 ≤ (s_ot b n f x).2.2.1 ∧ (s_ot b n f x).2.2.1 ≤ 300) ∧ 1 ≤ (s_ot b n f x).2.2.2.2.length ∧ 9 * ((s_ot b n f x).2.2.2.2.length : Int) ≤ 8 * (n - f - 17) + 1 := by
  unfold s_ot at h ⊢
  split at h
  · exact absurd (show (1 : Int) = 0 from h) (by decide)
  · next c1 =>
    rw [if_neg c1]
    split at h
    · exact absurd (show (2 : Int) = 0 from h) (by decide)
    · next c2 =>
      rw [if_neg c2]
      exact tabs_sz hB hf (Or.inl rfl) (Int.le_refl 0) h
theorem s_cut_0 (P : Nat → Nat → Int) (f t : Int) : s_cut P f 0 t = P := by
  funext c
  unfold s_cut va_cpy
  funext k
  split
  · next z => congr 1; omega
  · rfl
def oQ (q : Nat → Int) (t nx mo hi aw sz tb lt tr : Int) : Nat → Int := x_up (x_up (x_up (x_up (x_up (x_up (x_up (x_up (x_up (x_up (x_up q 1033 (q 34)) 1034 (q 35)) 133 t) 360 nx) 361 mo) 362 hi) 363 aw) 1029 sz) 1030 tb) 1031 lt) 1032 tr
def oA (A P : Nat → Nat → Int) (x : ost) (pc sm rt : Nat → Int) : Nat → Nat → Int := x_up (x_up (x_up (x_up (x_up (x_up (x_up (s_pt (x_up (x_up A 36 (s_zr (A 36) 300)) 37 (s_zr (A 37) 300)) P) 13 x.1) 14 x.2.1) 34 x.2.2.1) 35 x.2.2.2.1) 12 pc) 15 sm) 33 rt
theorem x_up_id {α : Type} {f : Nat → α} {k : Nat} {v : α} (h : f k = v) : x_up f k v = f := by rw [← h, x_up_same]
theorem oQ_t (q : Nat → Int) (t t2 nx mo hi aw sz tb lt tr : Int) : x_up (oQ q t nx mo hi aw sz tb lt tr) 133 t2 = oQ q t2 nx mo hi aw sz tb lt tr := by
  funext k
  by_cases h : k = 133
  · subst h; rfl
  · rw [x_up_n _ _ h]
    unfold oQ
    simp only [x_up, if_neg h]
theorem oA_0 (A P : Nat → Nat → Int) (x : ost) (pc : Nat → Int) : oA A P x pc (A 15) (A 33) = x_up (x_up (x_up (x_up (x_up (s_pt (x_up (x_up A 36 (s_zr (A 36) 300)) 37 (s_zr (A 37) 300)) P) 13 x.1) 14 x.2.1) 34 x.2.2.1) 35 x.2.2.2.1) 12 pc := by
  unfold oA
  rw [x_up_id (k := 15) (v := A 15), x_up_id (k := 33) (v := A 33)] <;> rfl
theorem oA_p (A P P2 : Nat → Nat → Int) (x : ost) (pc sm sm2 rt rt2 : Nat → Int) : x_up (x_up (s_pt (oA A P x pc sm rt) P2) 15 sm2) 33 rt2 = oA A P2 x pc sm2 rt2 := by
  funext c
  by_cases h5 : c = 5
  · subst h5; rfl
  by_cases h6 : c = 6
  · subst h6; rfl
  by_cases h7 : c = 7
  · subst h7; rfl
  by_cases h8 : c = 8
  · subst h8; rfl
  by_cases h9 : c = 9
  · subst h9; rfl
  by_cases h15 : c = 15
  · subst h15; rfl
  by_cases h33 : c = 33
  · subst h33; rfl
  unfold oA s_pt
  simp only [x_up, if_neg h5, if_neg h6, if_neg h7, if_neg h8, if_neg h9, if_neg h15, if_neg h33]
theorem c_P_cutA (Z : xZ) (d : Nat) (q : Nat → Int) (r : Nat → Option Nat) (A : Nat → Nat → Int) (dy : xH) (hd : 1 ≤ d) (f n : Int) (hc : 0 ≤ f ∧ 0 ≤ n ∧ f + n ≤ q 133 ∧ q 133 ≤ 12900) : xMet Z d Y_P_cut [xC 4, xI f, xI n] (hF q r A ++ dy) (fun v h2 => v = none ∧ h2 = hF (x_up q 133 (q 133 - n)) r (s_pt A (s_cut A f n (q 133))) ++ dy) := by
  by_cases n0 : n = 0
  · subst n0
    refine xMet_post ?_ (c_P_cut0 Z d q r A dy f 0 (by omega))
    rintro v h2 ⟨rfl, rfl⟩
    refine ⟨rfl, ?_⟩
    rw [s_cut_0, s_pt_self, Int.sub_zero, x_up_same]
  · refine xMet_post ?_ (c_P_cut Z d q r A dy hd f n (by omega))
    rintro v h2 ⟨rfl, rfl⟩
    exact ⟨rfl, rfl⟩
theorem c_PF_open (Z : xZ) (d : Nat) (q : Nat → Int) (r : Nat → Option Nat) (A : Nat → Nat → Int) (dy : xH) (hd : 45 ≤ d) (hT : 0 ≤ q 34 ∧ q 34 ≤ q 35 ∧ q 35 ≤ 10248) (hta : q 35 - q 34 ≤ 4000) (hR : s_okR A) (hB : ∀ j, -128 ≤ A 2 j ∧ A 2 j ≤ 127) (ho : s_ok5 A) (ht0 : 0 ≤ q 133 ∧ q 133 ≤ 4445) (hrt : ∀ j, 0 ≤ A 33 j ∧ A 33 j ≤ 12900) : xMet Z d Y_PF_open [xC 0] (hF q (x_up (x_up (x_up (x_up r 7 (some 26)) 8 (some 32)) 9 (some 38)) 10 (some 40)) A ++ dy) (fun v h2 => (¬ (s_fault (A 2) (q 35) (q 34) (s_ot (A 2) (q 35) (q 34) (s_x0 A (q 362)))) = 0 ∧ v = some (xI (s_fault (A 2) (q 35) (q 34) (s_ot (A 2) (q 35) (q 34) (s_x0 A (q 362))))) ∧ ∃ (x9 : ost) (aw nx mo sz tb lt tr : Int) (pc sm rt : Nat → Int) (P2 : Nat → Nat → Int), h2 = hF (x_up (oQ q (q 133) nx mo x9.2.2.2.2 aw sz tb lt tr) 35 (q 34)) (x_up (x_up (x_up (x_up (x_up r 7 (some 26)) 8 (some 32)) 9 (some 38)) 10 (some 40)) 359 (some 32)) (oA A P2 x9 pc sm rt) ++ dy ∧ s_keep (q 133).toNat A P2 ∧ s_ok5 P2 ∧ ∀ j, 0 ≤ rt j ∧ rt j ≤ 12900) ∨ ((s_fault (A 2) (q 35) (q 34) (s_ot (A 2) (q 35) (q 34) (s_x0 A (q 362)))) = 0 ∧ v = some (xI 0) ∧ (s_ot (A 2) (q 35) (q 34) (s_x0 A (q 362))).1 = 0 ∧ s_obj5 (A 2) (q 35) (fun k : Int => s_ob1 (A 2) (q 35) (q 34) ((s_ot (A 2) (q 35) (q 34) (s_x0 A (q 362))).2.1.2.1 k.toNat) ((s_ot (A 2) (q 35) (q 34) (s_x0 A (q 362))).2.1.2.2.1 k.toNat) k) (s_ot (A 2) (q 35) (q 34) (s_x0 A (q 362))).2.1.2.2.1 (s_ot (A 2) (q 35) (q 34) (s_x0 A (q 362))).2.1.2.2.2.1 (s_ot (A 2) (q 35) (q 34) (s_x0 A (q 362))).2.2.1 ∧ ∃ (aw nx mo t2 : Int) (pc sm rt : Nat → Int) (P2 : Nat → Nat → Int), h2 = hF (x_up (x_up (x_up (x_up (oQ q t2 nx mo (s_ot (A 2) (q 35) (q 34) (s_x0 A (q 362))).2.1.2.2.2.2 aw (s_ot (A 2) (q 35) (q 34) (s_x0 A (q 362))).2.2.1 (s_ot (A 2) (q 35) (q 34) (s_x0 A (q 362))).2.2.2.1 (s_last (A 2) (q 35) (q 34)) (q 133)) 133 (t2 - q 133)) 1032 (q 133 - (if 0 < q 133 then q 133 else 0))) 34 (q 35)) 11 (-1)) (x_up (x_up (x_up (x_up (x_up r 7 (some 32)) 8 (some 26)) 9 (some 38)) 10 (some 40)) 359 (some 32)) (x_up (s_pt (oA A P2 (s_ot (A 2) (q 35) (q 34) (s_x0 A (q 362))).2.1 pc sm rt) (s_cut P2 0 (q 133) t2)) 33 (s_gap rt (s_ot (A 2) (q 35) (q 34) (s_x0 A (q 362))).2.1.2.2.2.1 (s_ot (A 2) (q 35) (q 34) (s_x0 A (q 362))).2.2.1 0 (q 133))) ++ dy ∧ s_ok5 P2 ∧ (∀ j, 0 ≤ rt j ∧ rt j ≤ 12900) ∧ t2 = q 133 + (s_ot (A 2) (q 35) (q 34) (s_x0 A (q 362))).2.2.2.2.length + s_sm (s_ln (fun k : Int => s_ob1 (A 2) (q 35) (q 34) ((s_ot (A 2) (q 35) (q 34) (s_x0 A (q 362))).2.1.2.1 k.toNat) ((s_ot (A 2) (q 35) (q 34) (s_x0 A (q 362))).2.1.2.2.1 k.toNat) k) (s_ot (A 2) (q 35) (q 34) (s_x0 A (q 362))).2.1.2.2.2.1) ((s_ot (A 2) (q 35) (q 34) (s_x0 A (q 362))).2.2.1).toNat ∧ t2 ≤ 12900 ∧ s_at P2 (q 133).toNat (s_ot (A 2) (q 35) (q 34) (s_x0 A (q 362))).2.2.2.2 ∧ ∀ k : Nat, (k : Int) < (s_ot (A 2) (q 35) (q 34) (s_x0 A (q 362))).2.2.1 → ¬ (s_ot (A 2) (q 35) (q 34) (s_x0 A (q 362))).2.1.2.2.2.1 k = 0 → rt k = q 133 + (s_ot (A 2) (q 35) (q 34) (s_x0 A (q 362))).2.2.2.2.length + s_sm (s_ln (fun k : Int => s_ob1 (A 2) (q 35) (q 34) ((s_ot (A 2) (q 35) (q 34) (s_x0 A (q 362))).2.1.2.1 k.toNat) ((s_ot (A 2) (q 35) (q 34) (s_x0 A (q 362))).2.1.2.2.1 k.toNat) k) (s_ot (A 2) (q 35) (q 34) (s_x0 A (q 362))).2.1.2.2.2.1) k ∧ s_at P2 (rt k).toNat (s_fin (A 2) (q 35) (fun k : Int => s_ob1 (A 2) (q 35) (q 34) ((s_ot (A 2) (q 35) (q 34) (s_x0 A (q 362))).2.1.2.1 k.toNat) ((s_ot (A 2) (q 35) (q 34) (s_x0 A (q 362))).2.1.2.2.1 k.toNat) k) (s_ot (A 2) (q 35) (q 34) (s_x0 A (q 362))).2.1.2.2.1 (s_ot (A 2) (q 35) (q 34) (s_x0 A (q 362))).2.1.2.2.2.1 (s_ot (A 2) (q 35) (q 34) (s_x0 A (q 362))).2.2.1 k))) := by
  refine xMet_of (by decide) (Nat.le_of_ble_eq_true rfl) (fun v h2 hq => by obtain ⟨_, e, _⟩ | ⟨_, e, _⟩ := hq <;> rw [e] <;> trivial) ?_
  obtain ⟨S, hS⟩ : ∃ S, S = (s_ot (A 2) (q 35) (q 34) (s_x0 A (q 362))) := ⟨_, rfl⟩
  have hsz := fun h => ot_sz hB (n := q 35) (f := q 34) hT.1 (x := s_x0 A (q 362)) h
  have hpx := PX_ot (b := A 2) (n := q 35) (f := q 34) hT.2.1 (PX_0 A (q 362) (q 35 - q 34))
  rw [← hS] at hsz hpx ⊢
  have hplc0 := hpx.2
  refine x_aload_n (x_d C_PF_open 0 rfl) rfl ?_
  refine x_getfield (v := xC 4) (x_d C_PF_open 1 rfl) f_PF_21 rfl rfl ?_
  refine x_getfield (v := xI (q 133)) (x_d C_PF_open 2 rfl) f_PF_106 rfl rfl ?_
  refine x_istore_n (l1 := [(1, xI (q 133)), (0, xC 0)]) (x_d C_PF_open 3 rfl) (by decide) rfl ?_
  refine x_aload_n (x_d C_PF_open 4 rfl) rfl ?_
  refine x_getfield (v := xC 11) (x_d C_PF_open 5 rfl) f_PF_39 rfl rfl ?_
  refine x_aload_n (x_d C_PF_open 6 rfl) rfl ?_
  refine x_getfield (v := xC 32) (x_d C_PF_open 7 rfl) f_PF_73 rfl rfl ?_
  refine x_invokevirtual (st := []) (av := [xC 32]) (x_d C_PF_open 8 rfl) k_PF_109 m_O_tablesFault v_O_tablesFault cl_O rfl rfl (Nat.le_of_ble_eq_true rfl) (by omega) rfl (c_O_tablesFault Z (d - 1) q (x_up (x_up (x_up (x_up r 7 (some 26)) 8 (some 32)) 9 (some 38)) 10 (some 40)) A dy (by omega) hT hR hB hta (by omega) ho) ?_
  rintro v_ h_ ⟨x9, aw9, pc9, t9, P9, nx9, mo9, sz9, tb9, lt9, tr9, hh_, hv_, hk1, hk2, hk3, hk4, hk5⟩
  rw [← hS] at hv_ hk5
  obtain ⟨S1, hS1⟩ : ∃ S1, S1 = S.1 := ⟨_, rfl⟩
  obtain rfl : v_ = some (xI S1) := by rw [hS1]; exact hv_
  obtain rfl : h_ = hF (oQ q t9 nx9 mo9 x9.2.2.2.2 aw9 sz9 tb9 lt9 tr9) (x_up (x_up (x_up (x_up (x_up r 7 (some 26)) 8 (some 32)) 9 (some 38)) 10 (some 40)) 359 (some 32)) (oA A P9 x9 pc9 (A 15) (A 33)) ++ dy := by rw [oA_0]; exact hh_
  refine x_istore_n (l1 := [(2, xI (S1)), (1, xI (q 133)), (0, xC 0)]) (x_d C_PF_open 9 rfl) (by decide) rfl ?_
  refine x_iload_n (x_d C_PF_open 10 rfl) rfl ?_
  refine x_if_ne (tgt := 36) (x_d C_PF_open 11 rfl) rfl (fun c1 => ?_) (fun c1 => ?_)
  · refine x_iload_n (x_d C_PF_open 18 rfl) rfl ?_
    refine x_if_eq (tgt := 57) (x_d C_PF_open 19 rfl) rfl (fun q => absurd q (by omega)) (fun _ => ?_)
    refine x_aload_n (x_d C_PF_open 20 rfl) rfl ?_
    refine x_getfield (v := xC 4) (x_d C_PF_open 21 rfl) f_PF_21 rfl rfl ?_
    refine x_iload_n (x_d C_PF_open 22 rfl) rfl ?_
    refine x_putfield (h1 := hF (x_up (oQ q t9 nx9 mo9 x9.2.2.2.2 aw9 sz9 tb9 lt9 tr9) 133 (q 133)) (x_up (x_up (x_up (x_up (x_up r 7 (some 26)) 8 (some 32)) 9 (some 38)) 10 (some 40)) 359 (some 32)) (oA A P9 x9 pc9 (A 15) (A 33)) ++ dy) (x_d C_PF_open 23 rfl) p_PF_106 rfl rfl rfl trivial rfl ?_
    refine x_aload_n (x_d C_PF_open 24 rfl) rfl ?_
    refine x_getfield (v := xC 1) (x_d C_PF_open 25 rfl) f_PF_12 rfl rfl ?_
    refine x_invokevirtual (st := []) (av := []) (x_d C_PF_open 26 rfl) k_PF_117 m_T_dropTape v_T_dropTape cl_T rfl rfl (Nat.le_of_ble_eq_true rfl) (by omega) rfl (c_T_dropTape Z (d - 1) (x_up (oQ q t9 nx9 mo9 x9.2.2.2.2 aw9 sz9 tb9 lt9 tr9) 133 (q 133)) (x_up (x_up (x_up (x_up (x_up r 7 (some 26)) 8 (some 32)) 9 (some 38)) 10 (some 40)) 359 (some 32)) (oA A P9 x9 pc9 (A 15) (A 33)) dy) ?_
    rintro _ _ ⟨rfl, rfl⟩
    refine x_iload_n (x_d C_PF_open 27 rfl) rfl ?_
    refine x_ireturn (x_d C_PF_open 28 rfl) ?_
    have hF0 : s_fault (A 2) (q 35) (q 34) S = S1 := by unfold s_fault; rw [if_pos (by omega), hS1]
    exact Or.inl ⟨by omega, by rw [hF0], x9, aw9, nx9, mo9, sz9, tb9, lt9, tr9, pc9, A 15, A 33, P9, rfl, hk1, hk2, hrt⟩
  · refine x_aload_n (x_d C_PF_open 12 rfl) rfl ?_
    refine x_getfield (v := xC 11) (x_d C_PF_open 13 rfl) f_PF_39 rfl rfl ?_
    have hS0 : S.1 = 0 := by omega
    obtain ⟨e1, e2, e3, e4, e5⟩ := hk5 hS0
    obtain ⟨hz9, hl9, hd9⟩ := hsz hS0
    have ex : S.2.1 = x9 := congrArg (fun z : otr => z.2.1) e1
    have ez : S.2.2.1 = sz9 := congrArg (fun z : otr => z.2.2.1) e1
    have eb : S.2.2.2.1 = tb9 := congrArg (fun z : otr => z.2.2.2.1) e1
    clear e1
    subst ex
    subst ez
    subst eb
    subst e4
    subst e5
    obtain ⟨ob, hob⟩ : ∃ ob, ob = (fun k : Int => s_ob1 (A 2) (q 35) (q 34) (S.2.1.2.1 k.toNat) (S.2.1.2.2.1 k.toNat) k) := ⟨_, rfl⟩
    have hplc : ∀ k : Nat, (k : Int) < S.2.2.1 → ¬ S.2.1.2.2.2.1 k = 0 → 0 ≤ S.2.1.2.1 k ∧ S.2.1.2.1 k ≤ 10248 := fun k k1 k2 => by
      have := hplc0 k (by omega) k2
      omega
    have h5 := rv_5 hB (n := q 35) (f := q 34) (pl := S.2.1.2.1) (gn := S.2.1.2.2.1) (us := S.2.1.2.2.2.1) (sz := S.2.2.1) hob
    have hFt : s_fault (A 2) (q 35) (q 34) S = @ite _ (s_rvs (A 2) (q 35) (q 34) S.2.1.2.1 S.2.1.2.2.1 S.2.1.2.2.2.1 S.2.2.1 ∧ s_sm (s_lrr (A 2) (q 35) (q 34) S.2.1.2.1 S.2.1.2.2.1 S.2.1.2.2.2.1 S.2.2.1) S.2.2.1.toNat ≤ 900) (Classical.propDecidable _) 0 5 := by unfold s_fault; rw [if_neg (fun z => z hS0)]
    have hcO := c_O_objectsStand Z (d - 1) (oQ q t9 nx9 mo9 S.2.1.2.2.2.2 aw9 S.2.2.1 S.2.2.2.1 (s_last (A 2) (q 35) (q 34)) (q 133)) (x_up (x_up (x_up (x_up r 7 (some 26)) 8 (some 32)) 9 (some 38)) 10 (some 40)) (oA A P9 S.2.1 pc9 (A 15) (A 33)) dy (by omega) t9 P9 ob hob hT hR hB (show 0 ≤ S.2.2.1 ∧ S.2.2.1 ≤ 300 by omega) hplc (show 0 ≤ t9 ∧ t9 + 900 + (q 35 - q 34) < 12900 by omega) (A 15) (A 33) hk2 hrt
    rw [oQ_t, oA_p] at hcO
    refine x_invokevirtual (st := []) (av := []) (x_d C_PF_open 14 rfl) k_PF_113 m_O_objectsStand v_O_objectsStand cl_O rfl rfl (Nat.le_of_ble_eq_true rfl) (by omega) rfl hcO ?_
    rintro v_ h_ ⟨t2, P2, sm2, rt2, hh_, g1, g2, g3, g4, g5, g6⟩
    obtain rfl : h_ = hF (oQ q t2 nx9 mo9 S.2.1.2.2.2.2 aw9 S.2.2.1 S.2.2.2.1 (s_last (A 2) (q 35) (q 34)) (q 133)) (x_up (x_up (x_up (x_up (x_up r 7 (some 26)) 8 (some 32)) 9 (some 38)) 10 (some 40)) 359 (some 32)) (oA A P2 S.2.1 pc9 sm2 rt2) ++ dy := by rw [hh_, oQ_t, oA_p]
    rcases g6 with ⟨hv_, h51, h52, h53⟩ | ⟨hv_, h51⟩
    · obtain rfl := hv_
      refine x_if_ne (tgt := 36) (x_d C_PF_open 15 rfl) rfl (fun _ => ?_) (fun q => absurd q (by omega))
      refine x_iload_n (x_d C_PF_open 18 rfl) rfl ?_
      refine x_if_eq (tgt := 57) (x_d C_PF_open 19 rfl) rfl (fun _ => ?_) (fun q => absurd q (by omega))
      refine x_aload_n (x_d C_PF_open 29 rfl) rfl ?_
      refine x_getfield (v := xC 32) (x_d C_PF_open 30 rfl) f_PF_73 rfl rfl ?_
      refine x_astore_n (l1 := [(3, xC 32), (2, xI (S1)), (1, xI (q 133)), (0, xC 0)]) (x_d C_PF_open 31 rfl) (by decide) rfl ?_
      refine x_aload_n (x_d C_PF_open 32 rfl) rfl ?_
      refine x_aload_n (x_d C_PF_open 33 rfl) rfl ?_
      refine x_getfield (v := xC 26) (x_d C_PF_open 34 rfl) f_PF_69 rfl rfl ?_
      refine x_putfield (h1 := hF (oQ q t2 nx9 mo9 S.2.1.2.2.2.2 aw9 S.2.2.1 S.2.2.2.1 (s_last (A 2) (q 35) (q 34)) (q 133)) (x_up (x_up (x_up (x_up (x_up r 7 (some 26)) 9 (some 38)) 10 (some 40)) 359 (some 32)) 8 (some 26)) (oA A P2 S.2.1 pc9 sm2 rt2) ++ dy) (x_d C_PF_open 35 rfl) p_PF_73 rfl rfl rfl trivial rfl ?_
      refine x_aload_n (x_d C_PF_open 36 rfl) rfl ?_
      refine x_aload_n (x_d C_PF_open 37 rfl) rfl ?_
      refine x_putfield (h1 := hF (oQ q t2 nx9 mo9 S.2.1.2.2.2.2 aw9 S.2.2.1 S.2.2.2.1 (s_last (A 2) (q 35) (q 34)) (q 133)) (x_up (x_up (x_up (x_up (x_up r 9 (some 38)) 10 (some 40)) 359 (some 32)) 8 (some 26)) 7 (some 32)) (oA A P2 S.2.1 pc9 sm2 rt2) ++ dy) (x_d C_PF_open 38 rfl) p_PF_69 rfl rfl rfl trivial rfl ?_
      refine x_aload_n (x_d C_PF_open 39 rfl) rfl ?_
      refine x_getfield (v := xC 4) (x_d C_PF_open 40 rfl) f_PF_21 rfl rfl ?_
      refine x_iconst (x_d C_PF_open 41 rfl) ⟨by omega, by omega⟩ ?_
      refine x_iload_n (x_d C_PF_open 42 rfl) rfl ?_
      refine x_invokevirtual (st := []) (av := [xI (0), xI (q 133)]) (x_d C_PF_open 43 rfl) k_PF_120 m_P_cut v_P_cut cl_P rfl rfl (Nat.le_of_ble_eq_true rfl) (by omega) rfl (c_P_cutA Z (d - 1) (oQ q t2 nx9 mo9 S.2.1.2.2.2.2 aw9 S.2.2.1 S.2.2.2.1 (s_last (A 2) (q 35) (q 34)) (q 133)) (x_up (x_up (x_up (x_up (x_up r 9 (some 38)) 10 (some 40)) 359 (some 32)) 8 (some 26)) 7 (some 32)) (oA A P2 S.2.1 pc9 sm2 rt2) dy (by omega) 0 (q 133) (show (0 : Int) ≤ 0 ∧ 0 ≤ q 133 ∧ 0 + q 133 ≤ t2 ∧ t2 ≤ 12900 by omega)) ?_
      rintro _ _ ⟨rfl, rfl⟩
      refine x_aload_n (x_d C_PF_open 44 rfl) rfl ?_
      refine x_getfield (v := xC 32) (x_d C_PF_open 45 rfl) f_PF_69 rfl rfl ?_
      refine x_iconst (x_d C_PF_open 46 rfl) ⟨by omega, by omega⟩ ?_
      refine x_iload_n (x_d C_PF_open 47 rfl) rfl ?_
      refine x_invokevirtual (st := []) (av := [xI (0), xI (q 133)]) (x_d C_PF_open 48 rfl) k_PF_124 m_B_closeGap v_B_closeGap cl_B rfl rfl (Nat.le_of_ble_eq_true rfl) (by omega) rfl (c_B_closeGap_32 Z (d - 1) (x_up (oQ q t2 nx9 mo9 S.2.1.2.2.2.2 aw9 S.2.2.1 S.2.2.2.1 (s_last (A 2) (q 35) (q 34)) (q 133)) 133 (t2 - q 133)) (x_up (x_up (x_up (x_up (x_up r 9 (some 38)) 10 (some 40)) 359 (some 32)) 8 (some 26)) 7 (some 32)) (s_pt (oA A P2 S.2.1 pc9 sm2 rt2) (s_cut P2 0 (q 133) t2)) dy 0 (q 133) (show 0 ≤ S.2.2.1 ∧ S.2.2.1 ≤ 300 by omega) g5 (by omega) (show 0 ≤ q 133 ∧ q 133 ≤ 12900 by omega)) ?_
      rintro _ _ ⟨rfl, rfl⟩
      refine x_aload_n (x_d C_PF_open 49 rfl) rfl ?_
      refine x_getfield (v := xC 1) (x_d C_PF_open 50 rfl) f_PF_12 rfl rfl ?_
      refine x_invokevirtual (st := []) (av := []) (x_d C_PF_open 51 rfl) k_PF_127 m_T_keepTape v_T_keepTape cl_T rfl rfl (Nat.le_of_ble_eq_true rfl) (by omega) rfl (c_T_keepTape Z (d - 1) (x_up (x_up (oQ q t2 nx9 mo9 S.2.1.2.2.2.2 aw9 S.2.2.1 S.2.2.2.1 (s_last (A 2) (q 35) (q 34)) (q 133)) 133 (t2 - q 133)) 1032 (q 133 - (if 0 < q 133 then q 133 else 0))) (x_up (x_up (x_up (x_up (x_up r 9 (some 38)) 10 (some 40)) 359 (some 32)) 8 (some 26)) 7 (some 32)) (x_up (s_pt (oA A P2 S.2.1 pc9 sm2 rt2) (s_cut P2 0 (q 133) t2)) 33 (s_gap rt2 S.2.1.2.2.2.1 S.2.2.1 0 (q 133))) dy) ?_
      rintro _ _ ⟨rfl, rfl⟩
      refine x_aload_n (x_d C_PF_open 52 rfl) rfl ?_
      refine x_iconst (x_d C_PF_open 53 rfl) ⟨by omega, by omega⟩ ?_
      refine x_putfield (h1 := hF (x_up (x_up (x_up (x_up (oQ q t2 nx9 mo9 S.2.1.2.2.2.2 aw9 S.2.2.1 S.2.2.2.1 (s_last (A 2) (q 35) (q 34)) (q 133)) 133 (t2 - q 133)) 1032 (q 133 - (if 0 < q 133 then q 133 else 0))) 34 (q 35)) 11 (-1)) (x_up (x_up (x_up (x_up (x_up r 9 (some 38)) 10 (some 40)) 359 (some 32)) 8 (some 26)) 7 (some 32)) (x_up (s_pt (oA A P2 S.2.1 pc9 sm2 rt2) (s_cut P2 0 (q 133) t2)) 33 (s_gap rt2 S.2.1.2.2.2.1 S.2.2.1 0 (q 133))) ++ dy) (x_d C_PF_open 54 rfl) p_PF_88 rfl rfl rfl trivial rfl ?_
      refine x_iconst (x_d C_PF_open 55 rfl) ⟨by omega, by omega⟩ ?_
      refine x_ireturn (x_d C_PF_open 56 rfl) ?_
      have hF0 : s_fault (A 2) (q 35) (q 34) S = 0 := by rw [hFt, if_pos (h5.mpr h51)]
      subst hob
      refine Or.inr ⟨hF0, by congr 1, hS0, h51, aw9, nx9, mo9, t2, pc9, sm2, rt2, P2, rfl, g2, g5, by rw [h52, e2]; rfl, g4, s_at_keep e3 g1 (by omega), fun k k1 k2 => ?_⟩
      obtain ⟨j1, j2⟩ := h53 k k1 k2
      exact ⟨by rw [j1, e2]; rfl, j2⟩
    · obtain rfl := hv_
      refine x_if_ne (tgt := 36) (x_d C_PF_open 15 rfl) rfl (fun q => absurd q (by omega)) (fun _ => ?_)
      refine x_iconst (x_d C_PF_open 16 rfl) ⟨by omega, by omega⟩ ?_
      refine x_istore_n (l1 := [(2, xI (5)), (1, xI (q 133)), (0, xC 0)]) (x_d C_PF_open 17 rfl) (by decide) rfl ?_
      refine x_iload_n (x_d C_PF_open 18 rfl) rfl ?_
      refine x_if_eq (tgt := 57) (x_d C_PF_open 19 rfl) rfl (fun q => absurd q (by omega)) (fun _ => ?_)
      refine x_aload_n (x_d C_PF_open 20 rfl) rfl ?_
      refine x_getfield (v := xC 4) (x_d C_PF_open 21 rfl) f_PF_21 rfl rfl ?_
      refine x_iload_n (x_d C_PF_open 22 rfl) rfl ?_
      refine x_putfield (h1 := hF (x_up (oQ q t2 nx9 mo9 S.2.1.2.2.2.2 aw9 S.2.2.1 S.2.2.2.1 (s_last (A 2) (q 35) (q 34)) (q 133)) 133 (q 133)) (x_up (x_up (x_up (x_up (x_up r 7 (some 26)) 8 (some 32)) 9 (some 38)) 10 (some 40)) 359 (some 32)) (oA A P2 S.2.1 pc9 sm2 rt2) ++ dy) (x_d C_PF_open 23 rfl) p_PF_106 rfl rfl rfl trivial rfl ?_
      refine x_aload_n (x_d C_PF_open 24 rfl) rfl ?_
      refine x_getfield (v := xC 1) (x_d C_PF_open 25 rfl) f_PF_12 rfl rfl ?_
      refine x_invokevirtual (st := []) (av := []) (x_d C_PF_open 26 rfl) k_PF_117 m_T_dropTape v_T_dropTape cl_T rfl rfl (Nat.le_of_ble_eq_true rfl) (by omega) rfl (c_T_dropTape Z (d - 1) (x_up (oQ q t2 nx9 mo9 S.2.1.2.2.2.2 aw9 S.2.2.1 S.2.2.2.1 (s_last (A 2) (q 35) (q 34)) (q 133)) 133 (q 133)) (x_up (x_up (x_up (x_up (x_up r 7 (some 26)) 8 (some 32)) 9 (some 38)) 10 (some 40)) 359 (some 32)) (oA A P2 S.2.1 pc9 sm2 rt2) dy) ?_
      rintro _ _ ⟨rfl, rfl⟩
      refine x_iload_n (x_d C_PF_open 27 rfl) rfl ?_
      refine x_ireturn (x_d C_PF_open 28 rfl) ?_
      have hF5 : s_fault (A 2) (q 35) (q 34) S = 5 := by rw [hFt, if_neg (fun z => h51 (h5.mp z))]
      exact Or.inl ⟨by omega, by rw [hF5], _, aw9, nx9, mo9, _, _, _, _, pc9, sm2, rt2, P2, rfl, s_keep_tr hk1 g1 (by omega), g2, g5⟩
