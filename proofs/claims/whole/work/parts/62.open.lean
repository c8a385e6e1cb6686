/-! the opener: all tables -/
/-- the tables: fault, entries, SIZE, how many tables, the latest trailer's parts -/
abbrev otr := Int × ost × Int × Int × List tk
def s_tabs (b : Nat → Int) (n f : Int) : Nat → Int → Int → List Int → ost → Int → List tk → otr
  | 0, k, _, _, x, sz, ts => (3, x, sz, k, ts)
  | m + 1, k, nx, pls, x, sz, ts => match s_tab b n f k sz nx pls x with
    | none => (3, x, sz, k, ts)
    | some y => match s_trd b n y.2 y.1.2.2.2.2 with
      | none => (4, x, sz, k, ts)
      | some z => match z.2.2 with
        | none => (0, y.1, if k = 0 then z.2.1 else sz, k + 1, if k = 0 then z.1 else ts)
        | some p => s_tabs b n f m (k + 1) p (pls ++ [nx]) y.1 (if k = 0 then z.2.1 else sz) (if k = 0 then z.1 else ts)
theorem s_tabs_3 {b : Nat → Int} {n f k nx sz : Int} {m : Nat} {pls : List Int} {x : ost} {ts : List tk} (h : s_tab b n f k sz nx pls x = none) : s_tabs b n f (m + 1) k nx pls x sz ts = (3, x, sz, k, ts) := by
  unfold s_tabs
  rw [h]
theorem s_tabs_4 {b : Nat → Int} {n f k nx sz : Int} {m : Nat} {pls : List Int} {x : ost} {ts : List tk} {y : ost × Int} (h : s_tab b n f k sz nx pls x = some y) (h2 : s_trd b n y.2 y.1.2.2.2.2 = none) : s_tabs b n f (m + 1) k nx pls x sz ts = (4, x, sz, k, ts) := by
  unfold s_tabs
  rw [h]
  simp only [h2]
theorem s_tabs_0 {b : Nat → Int} {n f k nx sz : Int} {m : Nat} {pls : List Int} {x : ost} {ts : List tk} {y : ost × Int} {z : List tk × Int × Option Int} (h : s_tab b n f k sz nx pls x = some y) (h2 : s_trd b n y.2 y.1.2.2.2.2 = some z) (h3 : z.2.2 = none) : s_tabs b n f (m + 1) k nx pls x sz ts = (0, y.1, if k = 0 then z.2.1 else sz, k + 1, if k = 0 then z.1 else ts) := by
  unfold s_tabs
  rw [h]
  simp only [h2, h3]
theorem s_tabs_s {b : Nat → Int} {n f k nx sz p : Int} {m : Nat} {pls : List Int} {x : ost} {ts : List tk} {y : ost × Int} {z : List tk × Int × Option Int} (h : s_tab b n f k sz nx pls x = some y) (h2 : s_trd b n y.2 y.1.2.2.2.2 = some z) (h3 : z.2.2 = some p) : s_tabs b n f (m + 1) k nx pls x sz ts = s_tabs b n f m (k + 1) p (pls ++ [nx]) y.1 (if k = 0 then z.2.1 else sz) (if k = 0 then z.1 else ts) := by
  conv => lhs; unfold s_tabs
  rw [h]
  simp only [h2, h3]
theorem s_secl_in {b : Nat → Int} {n f t sz : Int} : ∀ {m : Nat} {i : Int} {x : ost} {z : ost × Int}, s_secl b n f t sz m i x = some z → (0 ≤ i ∧ i ≤ n) → i ≤ z.2 ∧ z.2 ≤ n
  | 0, i, x, z, h, h0 => by
    have := Option.some.inj h
    rw [← this]
    exact ⟨Int.le_refl _, h0.2⟩
  | m + 1, i, x, z, h, h0 => by
    unfold s_secl at h
    split at h
    · have := Option.some.inj h
      rw [← this]
      exact ⟨Int.le_refl _, h0.2⟩
    · obtain ⟨y, h1, h2⟩ := Option.bind_eq_some_iff.mp h
      have h3 := s_sect_in (y := y.1) (j := y.2) h1
      have := s_secl_in h2 (by omega)
      omega
theorem s_tab_in {b : Nat → Int} {n f k nx sz : Int} {pls : List Int} {x : ost} {y : ost × Int} (h : s_tab b n f k sz nx pls x = some y) (hf : 0 ≤ f) : f + 16 ≤ y.2 ∧ y.2 ≤ n ∧ 0 ≤ nx ∧ nx < n - f := by
  unfold s_tab at h
  split at h
  · cases h
  · next hc =>
    obtain ⟨u, h1, h2⟩ := Option.bind_eq_some_iff.mp h
    have h3 := s_sect_in (y := u.1) (j := u.2) h1
    unfold s_tl at h2
    obtain ⟨v, h4, h5⟩ := Option.bind_eq_some_iff.mp h2
    have h6 := s_secl_in h4 (by omega)
    have h7 := s_abyte_in b n (s_the b n (f + nx) [120, 114, 101, 102]) 10
    have h8 := s_the_in b n (f + nx) [120, 114, 101, 102]
    have h9 := s_the_in b n v.2 [116, 114, 97, 105, 108, 101, 114]
    have h10 := s_byte_in b n (s_the b n (f + nx) [120, 114, 101, 102])
    simp only [List.length_cons, List.length_nil] at h8 h9
    split at h5
    · cases h5
    · have h5 := Option.some.inj h5
      rw [← h5]
      show f + 16 ≤ s_the b n v.2 _ ∧ s_the b n v.2 _ ≤ n ∧ _
      have n1 : ¬ nx < 0 := fun z => hc (Or.inr (Or.inl z))
      have n2 : ¬ n - f ≤ nx := fun z => hc (Or.inr (Or.inr z))
      omega
theorem s_trd_in {b : Nat → Int} (hB : ∀ j, -128 ≤ b j ∧ b j ≤ 127) {n w hi : Int} {z : List tk × Int × Option Int} (h : s_trd b n w hi = some z) : 1 ≤ z.1.length ∧ (z.1.length : Int) ≤ n - w - 1 ∧ 1 ≤ z.2.1 ∧ z.2.1 ≤ 300 ∧ hi < z.2.1 := by
  unfold s_trd at h
  obtain ⟨y, h1, h2⟩ := Option.bind_eq_some_iff.mp h
  have h3 := s_val_ok b hB n 8 _ y.1 y.2 h1
  have h4 := s_abyte_in b n w 10
  split at h2
  · cases h2
  · split at h2
    · cases h2
    · split at h2
      · cases h2
      · have h2 := Option.some.inj h2
        rw [← h2]
        refine ⟨by show 1 ≤ y.1.length; omega, ?_, by show 1 ≤ lon y.1 _; omega, by show lon y.1 _ ≤ 300; omega, by show hi < lon y.1 _; omega⟩
        show (y.1.length : Int) ≤ n - w - 1
        omega
theorem w_O_tablesFault_100 (Z : xZ) (d : Nat) (q : Nat → Int) (r : Nat → Option Nat) (A : Nat → Nat → Int) (dy : xH) (hd : 38 ≤ d) (t0 l0 : Int) (P0 : Nat → Nat → Int) (hT : 0 ≤ q 34 ∧ q 34 ≤ q 35 ∧ q 35 ≤ 10248) (hR : s_okR A) (hB : ∀ j, -128 ≤ A 2 j ∧ A 2 j ≤ 127) (hta : q 35 - q 34 ≤ 4000) (ht0 : 0 ≤ t0 ∧ t0 ≤ 4900) (dg : Int) : ∀ (m : Nat) (k : Int) (x : ost) (aw : Int) (pc : Nat → Int) (t : Int) (P : Nat → Nat → Int) (nx mo sz tb lt tr : Int) (pls : List Int) (ts : List tk), (k + m = 6 ∧ 1 ≤ k ∧ (pls.length : Int) = k) → (∀ j, j < pls.length → pc j = pls.getD j 0) → s_keep t0.toNat P0 P → s_ok5 P → (1 ≤ sz ∧ sz ≤ 300) → (t = t0 + ts.length ∧ (ts.length : Int) ≤ q 35 - q 34 - 16) → s_at P t0.toNat ts → tr = t0 → lt = l0 → xW Z d Y_O_tablesFault 100 [(0, xC 11), (1, xC 32), (2, xI dg), (3, xI k)] [] (hF (x_up (x_up (x_up (x_up (x_up (x_up (x_up (x_up (x_up q 133 t) 360 nx) 361 mo) 362 x.2.2.2.2) 363 aw) 1029 sz) 1030 tb) 1031 lt) 1032 tr) (x_up r 359 (some 32)) (x_up (x_up (x_up (x_up (x_up (s_pt A P) 13 x.1) 14 x.2.1) 34 x.2.2.1) 35 x.2.2.2.1) 12 pc) ++ dy) (fun v0 h2 => ∃ x9 aw9 pc9 t9 P9 nx9 mo9 sz9 tb9 lt9 tr9, h2 = hF (x_up (x_up (x_up (x_up (x_up (x_up (x_up (x_up (x_up q 133 t9) 360 nx9) 361 mo9) 362 x9.2.2.2.2) 363 aw9) 1029 sz9) 1030 tb9) 1031 lt9) 1032 tr9) (x_up r 359 (some 32)) (x_up (x_up (x_up (x_up (x_up (s_pt A P9) 13 x9.1) 14 x9.2.1) 34 x9.2.2.1) 35 x9.2.2.2.1) 12 pc9) ++ dy ∧ v0 = some (xI (s_tabs (A 2) (q 35) (q 34) m k nx pls x sz ts).1) ∧ s_keep t0.toNat P0 P9 ∧ s_ok5 P9 ∧ t0 ≤ t9 ∧ t9 ≤ 12900 ∧ ((s_tabs (A 2) (q 35) (q 34) m k nx pls x sz ts).1 = 0 → s_tabs (A 2) (q 35) (q 34) m k nx pls x sz ts = (0, x9, sz9, tb9, (s_tabs (A 2) (q 35) (q 34) m k nx pls x sz ts).2.2.2.2) ∧ t9 = t0 + (s_tabs (A 2) (q 35) (q 34) m k nx pls x sz ts).2.2.2.2.length ∧ s_at P9 t0.toNat (s_tabs (A 2) (q 35) (q 34) m k nx pls x sz ts).2.2.2.2 ∧ tr9 = t0 ∧ lt9 = l0)) := by
  intro m
  induction m with
  | zero =>
    intro k x aw pc t P nx mo sz tb lt tr pls ts hk hpl hkp ho hsz htt hat htr hlt
    refine x_iload_n (x_d C_O_tablesFault 53 rfl) rfl ?_
    refine x_bipush (x_d C_O_tablesFault 54 rfl) (by omega) ?_
    refine x_icmp_ge (tgt := 141) (x_d C_O_tablesFault 55 rfl) rfl (fun _ => ?_) (fun q => absurd q (by omega))
    refine x_iconst (x_d C_O_tablesFault 75 rfl) ⟨by omega, by omega⟩ ?_
    refine x_ireturn (x_d C_O_tablesFault 76 rfl) ?_
    exact ⟨x, aw, pc, t, P, nx, mo, sz, tb, lt, tr, rfl, rfl, hkp, ho, by omega, by omega, fun h => absurd h (by show ¬ (3 : Int) = 0; omega)⟩
  | succ m ih =>
    intro k x aw pc t P nx mo sz tb lt tr pls ts hk hpl hkp ho hsz htt hat htr hlt
    refine x_iload_n (x_d C_O_tablesFault 53 rfl) rfl ?_
    refine x_bipush (x_d C_O_tablesFault 54 rfl) (by omega) ?_
    refine x_icmp_ge (tgt := 141) (x_d C_O_tablesFault 55 rfl) rfl (fun q => absurd q (by omega)) (fun _ => ?_)
    refine x_aload_n (x_d C_O_tablesFault 56 rfl) rfl ?_
    refine x_iload_n (x_d C_O_tablesFault 57 rfl) rfl ?_
    refine x_invokevirtual (st := []) (av := [xI (k)]) (x_d C_O_tablesFault 58 rfl) k_O_72 m_O_readTable v_O_readTable cl_O rfl rfl (Nat.le_of_ble_eq_true rfl) (by omega) rfl (c_O_readTable Z (d - 1) (x_up (x_up (x_up (x_up (x_up (x_up (x_up q 133 t) 360 nx) 361 mo) 1029 sz) 1030 tb) 1031 lt) 1032 tr) r (x_up (x_up (x_up (x_up (x_up A 5 (P 5)) 6 (P 6)) 7 (P 7)) 8 (P 8)) 9 (P 9)) dy (by omega) x aw k pc pls hT hR (show 0 ≤ sz ∧ sz ≤ 300 by omega) (by omega) ⟨by omega, hpl⟩) ?_
    rintro v_ _ ⟨x1, aw1, pc1, rfl, hr_⟩
    obtain ⟨z1, rfl, hz1⟩ : ∃ z : Int, v_ = some (xI z) ∧ ((z = 1 ∧ s_tab (A 2) (q 35) (q 34) k sz nx pls x = some (x1, aw1) ∧ pc1 = x_up pc (k : Int).toNat nx) ∨ (z = 0 ∧ s_tab (A 2) (q 35) (q 34) k sz nx pls x = none)) := by
      rcases hr_ with ⟨h1, h2⟩ | ⟨h1, h2⟩
      · exact ⟨1, h1, Or.inl ⟨rfl, h2⟩⟩
      · exact ⟨0, h1, Or.inr ⟨rfl, h2⟩⟩
    clear hr_
    refine x_if_ne (tgt := 116) (x_d C_O_tablesFault 59 rfl) rfl (fun c2 => ?_) (fun c2 => ?_)
    · obtain ⟨htab, hpc1⟩ : s_tab (A 2) (q 35) (q 34) k sz nx pls x = some (x1, aw1) ∧ pc1 = x_up pc (k : Int).toNat nx := by rcases hz1 with ⟨_, a, b⟩ | ⟨a, _⟩; exact ⟨a, b⟩; omega
      have hti := s_tab_in htab (by omega)
      have hti1 : q 34 + 16 ≤ aw1 := hti.1
      have hti2 : aw1 ≤ q 35 := hti.2.1
      refine x_aload_n (x_d C_O_tablesFault 62 rfl) rfl ?_
      refine x_iload_n (x_d C_O_tablesFault 63 rfl) rfl ?_
      refine x_invokevirtual (st := []) (av := [xI (k)]) (x_d C_O_tablesFault 64 rfl) k_O_76 m_O_readTrailer v_O_readTrailer cl_O rfl rfl (Nat.le_of_ble_eq_true rfl) (by omega) rfl (c_O_readTrailerS Z (d - 1) (x_up (x_up q 362 x1.2.2.2.2) 363 aw1) r (x_up (x_up (x_up (x_up (x_up A 13 x1.1) 14 x1.2.1) 34 x1.2.2.1) 35 x1.2.2.2.1) 12 pc1) dy (by omega) t nx mo sz tb lt tr P k (by omega) hT hR hB ho (show 0 ≤ t ∧ t < 12900 ∧ t + (q 35 - aw1) < 12900 by omega) (show 0 ≤ aw1 ∧ aw1 ≤ q 35 by omega)) ?_
      rintro v_ _ ⟨t2, nx2, mo2, sz2, tb2, lt2, tr2, P2, rfl, kp1, kp2, kp3, kp4, hr_⟩
      obtain ⟨z2, rfl, hz2⟩ : ∃ z : Int, v_ = some (xI z) ∧ ((z = 1 ∧ ∃ y, s_trd (A 2) (q 35) aw1 x1.2.2.2.2 = some y ∧ (t2 = t ∧ sz2 = sz ∧ tr2 = tr ∧ lt2 = lt) ∧ tb2 = k + 1 ∧ nx2 = y.2.2.getD (-1) ∧ mo2 = x_bo y.2.2.isSome) ∨ (z = 0 ∧ s_trd (A 2) (q 35) aw1 x1.2.2.2.2 = none)) := by
        rcases hr_ with ⟨h1, h2⟩ | ⟨h1, h2⟩
        · exact ⟨1, h1, Or.inl ⟨rfl, h2⟩⟩
        · exact ⟨0, h1, Or.inr ⟨rfl, h2⟩⟩
      clear hr_
      refine x_if_ne (tgt := 126) (x_d C_O_tablesFault 65 rfl) rfl (fun c3 => ?_) (fun c3 => ?_)
      · obtain ⟨y, htrd, hsu, htb2, hnx2, hmo2⟩ : ∃ y, s_trd (A 2) (q 35) aw1 x1.2.2.2.2 = some y ∧ (t2 = t ∧ sz2 = sz ∧ tr2 = tr ∧ lt2 = lt) ∧ tb2 = k + 1 ∧ nx2 = y.2.2.getD (-1) ∧ mo2 = x_bo y.2.2.isSome := by rcases hz2 with ⟨_, a⟩ | ⟨a, _⟩; exact a; omega
        clear hz2
        have hyi := s_trd_in hB htrd
        have hmb := x_bo_in y.2.2.isSome
        refine x_aload_n (x_d C_O_tablesFault 68 rfl) rfl ?_
        refine x_getfield (v := xI (mo2)) (x_d C_O_tablesFault 69 rfl) f_O_79 rfl rfl ?_
        refine x_if_ne (tgt := 135) (x_d C_O_tablesFault 70 rfl) rfl (fun c4 => ?_) (fun c4 => ?_)
        · refine x_iinc (l1 := [(3, xI (k + 1)), (0, xC 11), (1, xC 32), (2, xI (dg))]) (x_d C_O_tablesFault 73 rfl) rfl ⟨by omega, by omega⟩ (by decide) rfl ?_
          refine x_goto (tgt := 100) (x_d C_O_tablesFault 74 rfl) rfl ?_
          obtain ⟨p, hsome⟩ : ∃ p, y.2.2 = some p := by cases e : y.2.2 with | some p => exact ⟨p, rfl⟩ | none => rw [e] at hmo2; have : mo2 = 0 := hmo2; omega
          obtain ⟨u1, u2, u3, u4⟩ := hsu
          have hnx3 : nx2 = p := by rw [hnx2, hsome]; rfl
          rw [s_tabs_s htab htrd hsome, if_neg (show ¬ k = 0 by omega), if_neg (show ¬ k = 0 by omega), ← hnx3]
          refine x_locs [1, 2, 3, 0] rfl ?_
          have := ih (k + 1) x1 aw1 pc1 t2 P2 nx2 mo2 sz2 tb2 lt2 tr2 (pls ++ [nx]) ts ⟨by omega, by omega, by rw [List.length_append]; show ((pls.length + 1 : Nat) : Int) = _; omega⟩ (fun j hj => by
            rw [hpc1, s_getD_app]
            rw [List.length_append] at hj
            have hj : j < pls.length + 1 := hj
            split
            · next c => rw [x_up_n _ _ (by omega)]; exact hpl j c
            · next c => rw [show j = k.toNat by omega, x_up_s, show k.toNat - pls.length = 0 by omega]; rfl)
            (s_keep_tr hkp kp1 (by omega)) kp2 (by omega) (by omega) (s_at_keep hat kp1 (by omega)) (by omega) (by omega)
          rw [u2] at this ⊢
          exact this
        · refine x_iconst (x_d C_O_tablesFault 71 rfl) ⟨by omega, by omega⟩ ?_
          refine x_ireturn (x_d C_O_tablesFault 72 rfl) ?_
          have hnone : y.2.2 = none := by cases e : y.2.2 with | none => rfl | some p => rw [e] at hmo2; have : mo2 = 1 := hmo2; omega
          obtain ⟨u1, u2, u3, u4⟩ := hsu
          rw [s_tabs_0 htab htrd hnone, if_neg (show ¬ k = 0 by omega), if_neg (show ¬ k = 0 by omega)]
          exact ⟨x1, aw1, pc1, t2, P2, nx2, mo2, sz2, tb2, lt2, tr2, rfl, rfl, s_keep_tr hkp kp1 (by omega), kp2, by omega, kp4, fun _ => ⟨by rw [u2, htb2], by show t2 = t0 + ts.length; omega, s_at_keep hat kp1 (show t0.toNat + ts.length ≤ t.toNat by omega), by omega, by omega⟩⟩
      · refine x_iconst (x_d C_O_tablesFault 66 rfl) ⟨by omega, by omega⟩ ?_
        refine x_ireturn (x_d C_O_tablesFault 67 rfl) ?_
        have hno : s_trd (A 2) (q 35) aw1 x1.2.2.2.2 = none := by rcases hz2 with ⟨a, _⟩ | ⟨_, a⟩; omega; exact a
        rw [s_tabs_4 htab hno]
        exact ⟨x1, aw1, pc1, t2, P2, nx2, mo2, sz2, tb2, lt2, tr2, rfl, rfl, s_keep_tr hkp kp1 (by omega), kp2, by omega, kp4, fun h => absurd h (by show ¬ (4 : Int) = 0; omega)⟩
    · refine x_iconst (x_d C_O_tablesFault 60 rfl) ⟨by omega, by omega⟩ ?_
      refine x_ireturn (x_d C_O_tablesFault 61 rfl) ?_
      have hno : s_tab (A 2) (q 35) (q 34) k sz nx pls x = none := by rcases hz1 with ⟨a, _⟩ | ⟨_, a⟩; omega; exact a
      rw [s_tabs_3 hno]
      exact ⟨x1, aw1, pc1, t, P, nx, mo, sz, tb, lt, tr, rfl, rfl, hkp, ho, by omega, by omega, fun h => absurd h (by show ¬ (3 : Int) = 0; omega)⟩
theorem w_O_tablesFault_100a (Z : xZ) (d : Nat) (q : Nat → Int) (r : Nat → Option Nat) (A : Nat → Nat → Int) (dy : xH) (hd : 38 ≤ d) (hT : 0 ≤ q 34 ∧ q 34 ≤ q 35 ∧ q 35 ≤ 10248) (hR : s_okR A) (hB : ∀ j, -128 ≤ A 2 j ∧ A 2 j ≤ 127) (hta : q 35 - q 34 ≤ 4000) (dg : Int) (x : ost) (aw : Int) (pc : Nat → Int) (t0 : Int) (P0 : Nat → Nat → Int) (nx mo tb lt tr : Int) (ht0 : 0 ≤ t0 ∧ t0 ≤ 4900) (ho : s_ok5 P0) (hnx : 0 ≤ nx) : xW Z d Y_O_tablesFault 100 [(0, xC 11), (1, xC 32), (2, xI dg), (3, xI 0)] [] (hF (x_up (x_up (x_up (x_up (x_up (x_up (x_up (x_up (x_up q 133 t0) 360 nx) 361 mo) 362 x.2.2.2.2) 363 aw) 1029 0) 1030 tb) 1031 lt) 1032 tr) (x_up r 359 (some 32)) (x_up (x_up (x_up (x_up (x_up (s_pt A P0) 13 x.1) 14 x.2.1) 34 x.2.2.1) 35 x.2.2.2.1) 12 pc) ++ dy) (fun v0 h2 => ∃ x9 aw9 pc9 t9 P9 nx9 mo9 sz9 tb9 lt9 tr9, h2 = hF (x_up (x_up (x_up (x_up (x_up (x_up (x_up (x_up (x_up q 133 t9) 360 nx9) 361 mo9) 362 x9.2.2.2.2) 363 aw9) 1029 sz9) 1030 tb9) 1031 lt9) 1032 tr9) (x_up r 359 (some 32)) (x_up (x_up (x_up (x_up (x_up (s_pt A P9) 13 x9.1) 14 x9.2.1) 34 x9.2.2.1) 35 x9.2.2.2.1) 12 pc9) ++ dy ∧ v0 = some (xI (s_tabs (A 2) (q 35) (q 34) 6 0 nx [] x 0 []).1) ∧ s_keep t0.toNat P0 P9 ∧ s_ok5 P9 ∧ t0 ≤ t9 ∧ t9 ≤ 12900 ∧ ((s_tabs (A 2) (q 35) (q 34) 6 0 nx [] x 0 []).1 = 0 → s_tabs (A 2) (q 35) (q 34) 6 0 nx [] x 0 [] = (0, x9, sz9, tb9, (s_tabs (A 2) (q 35) (q 34) 6 0 nx [] x 0 []).2.2.2.2) ∧ t9 = t0 + (s_tabs (A 2) (q 35) (q 34) 6 0 nx [] x 0 []).2.2.2.2.length ∧ s_at P9 t0.toNat (s_tabs (A 2) (q 35) (q 34) 6 0 nx [] x 0 []).2.2.2.2 ∧ tr9 = t0 ∧ lt9 = nx)) := by
  refine x_iload_n (x_d C_O_tablesFault 53 rfl) rfl ?_
  refine x_bipush (x_d C_O_tablesFault 54 rfl) (by omega) ?_
  refine x_icmp_ge (tgt := 141) (x_d C_O_tablesFault 55 rfl) rfl (fun q => absurd q (by omega)) (fun _ => ?_)
  refine x_aload_n (x_d C_O_tablesFault 56 rfl) rfl ?_
  refine x_iload_n (x_d C_O_tablesFault 57 rfl) rfl ?_
  refine x_invokevirtual (st := []) (av := [xI (0)]) (x_d C_O_tablesFault 58 rfl) k_O_72 m_O_readTable v_O_readTable cl_O rfl rfl (Nat.le_of_ble_eq_true rfl) (by omega) rfl (c_O_readTable Z (d - 1) (x_up (x_up (x_up (x_up (x_up (x_up (x_up q 133 t0) 360 nx) 361 mo) 1029 0) 1030 tb) 1031 lt) 1032 tr) r (x_up (x_up (x_up (x_up (x_up A 5 (P0 5)) 6 (P0 6)) 7 (P0 7)) 8 (P0 8)) 9 (P0 9)) dy (by omega) x aw 0 pc [] hT hR (show (0 : Int) ≤ 0 ∧ (0 : Int) ≤ 300 by omega) (by omega) ⟨rfl, fun j hj => absurd hj (Nat.not_lt_zero _)⟩) ?_
  rintro v_ _ ⟨x1, aw1, pc1, rfl, hr_⟩
  obtain ⟨z1, rfl, hz1⟩ : ∃ z : Int, v_ = some (xI z) ∧ ((z = 1 ∧ s_tab (A 2) (q 35) (q 34) 0 0 nx [] x = some (x1, aw1) ∧ pc1 = x_up pc (0 : Int).toNat nx) ∨ (z = 0 ∧ s_tab (A 2) (q 35) (q 34) 0 0 nx [] x = none)) := by
    rcases hr_ with ⟨h1, h2⟩ | ⟨h1, h2⟩
    · exact ⟨1, h1, Or.inl ⟨rfl, h2⟩⟩
    · exact ⟨0, h1, Or.inr ⟨rfl, h2⟩⟩
  clear hr_
  refine x_if_ne (tgt := 116) (x_d C_O_tablesFault 59 rfl) rfl (fun c2 => ?_) (fun c2 => ?_)
  · obtain ⟨htab, hpc1⟩ : s_tab (A 2) (q 35) (q 34) 0 0 nx [] x = some (x1, aw1) ∧ pc1 = x_up pc (0 : Int).toNat nx := by rcases hz1 with ⟨_, a, b⟩ | ⟨a, _⟩; exact ⟨a, b⟩; omega
    have hti := s_tab_in htab (by omega)
    have hti1 : q 34 + 16 ≤ aw1 := hti.1
    have hti2 : aw1 ≤ q 35 := hti.2.1
    refine x_aload_n (x_d C_O_tablesFault 62 rfl) rfl ?_
    refine x_iload_n (x_d C_O_tablesFault 63 rfl) rfl ?_
    refine x_invokevirtual (st := []) (av := [xI (0)]) (x_d C_O_tablesFault 64 rfl) k_O_76 m_O_readTrailer v_O_readTrailer cl_O rfl rfl (Nat.le_of_ble_eq_true rfl) (by omega) rfl (c_O_readTrailer0 Z (d - 1) (x_up (x_up q 362 x1.2.2.2.2) 363 aw1) r (x_up (x_up (x_up (x_up (x_up A 13 x1.1) 14 x1.2.1) 34 x1.2.2.1) 35 x1.2.2.2.1) 12 pc1) dy (by omega) t0 nx mo 0 tb lt tr P0 hT hR hB ho (show 0 ≤ t0 ∧ t0 < 12900 ∧ t0 + (q 35 - aw1) < 12900 by omega) (show 0 ≤ aw1 ∧ aw1 ≤ q 35 by omega)) ?_
    rintro v_ _ ⟨t2, nx2, mo2, sz2, tb2, lt2, tr2, P2, rfl, kp1, kp2, kp3, kp4, hr_⟩
    obtain ⟨z2, rfl, hz2⟩ : ∃ z : Int, v_ = some (xI z) ∧ ((z = 1 ∧ ∃ y, s_trd (A 2) (q 35) aw1 x1.2.2.2.2 = some y ∧ (t2 = t0 + y.1.length ∧ s_at P2 t0.toNat y.1 ∧ sz2 = y.2.1 ∧ tr2 = t0 ∧ lt2 = pc1 0) ∧ tb2 = 0 + 1 ∧ nx2 = y.2.2.getD (-1) ∧ mo2 = x_bo y.2.2.isSome) ∨ (z = 0 ∧ s_trd (A 2) (q 35) aw1 x1.2.2.2.2 = none)) := by
      rcases hr_ with ⟨h1, h2⟩ | ⟨h1, h2⟩
      · exact ⟨1, h1, Or.inl ⟨rfl, h2⟩⟩
      · exact ⟨0, h1, Or.inr ⟨rfl, h2⟩⟩
    clear hr_
    refine x_if_ne (tgt := 126) (x_d C_O_tablesFault 65 rfl) rfl (fun c3 => ?_) (fun c3 => ?_)
    · obtain ⟨y, htrd, hsu, htb2, hnx2, hmo2⟩ : ∃ y, s_trd (A 2) (q 35) aw1 x1.2.2.2.2 = some y ∧ (t2 = t0 + y.1.length ∧ s_at P2 t0.toNat y.1 ∧ sz2 = y.2.1 ∧ tr2 = t0 ∧ lt2 = pc1 0) ∧ tb2 = 0 + 1 ∧ nx2 = y.2.2.getD (-1) ∧ mo2 = x_bo y.2.2.isSome := by rcases hz2 with ⟨_, a⟩ | ⟨a, _⟩; exact a; omega
      clear hz2
      have hyi := s_trd_in hB htrd
      have hmb := x_bo_in y.2.2.isSome
      have hpc0 : pc1 0 = nx := by rw [hpc1]; exact x_up_s _ _ _
      refine x_aload_n (x_d C_O_tablesFault 68 rfl) rfl ?_
      refine x_getfield (v := xI (mo2)) (x_d C_O_tablesFault 69 rfl) f_O_79 rfl rfl ?_
      refine x_if_ne (tgt := 135) (x_d C_O_tablesFault 70 rfl) rfl (fun c4 => ?_) (fun c4 => ?_)
      · refine x_iinc (l1 := [(3, xI (1)), (0, xC 11), (1, xC 32), (2, xI (dg))]) (x_d C_O_tablesFault 73 rfl) rfl ⟨by omega, by omega⟩ (by decide) rfl ?_
        refine x_goto (tgt := 100) (x_d C_O_tablesFault 74 rfl) rfl ?_
        obtain ⟨p, hsome⟩ : ∃ p, y.2.2 = some p := by cases e : y.2.2 with | some p => exact ⟨p, rfl⟩ | none => rw [e] at hmo2; have : mo2 = 0 := hmo2; omega
        obtain ⟨u1, u2, u3, u4, u5⟩ := hsu
        have hnx3 : nx2 = p := by rw [hnx2, hsome]; rfl
        rw [s_tabs_s htab htrd hsome, if_pos rfl, if_pos rfl, ← hnx3, ← u3]
        refine x_locs [1, 2, 3, 0] rfl ?_
        exact w_O_tablesFault_100 Z d q r A dy hd t0 nx P0 hT hR hB hta ht0 dg 5 1 x1 aw1 pc1 t2 P2 nx2 mo2 sz2 tb2 lt2 tr2 [nx] y.1 ⟨by omega, by omega, rfl⟩ (fun j hj => by have hj : j < 1 := hj; rw [show j = 0 by omega, hpc0]; rfl) kp1 kp2 (by omega) ⟨by omega, by omega⟩ u2 u4 (by omega)
      · refine x_iconst (x_d C_O_tablesFault 71 rfl) ⟨by omega, by omega⟩ ?_
        refine x_ireturn (x_d C_O_tablesFault 72 rfl) ?_
        have hnone : y.2.2 = none := by cases e : y.2.2 with | none => rfl | some p => rw [e] at hmo2; have : mo2 = 1 := hmo2; omega
        obtain ⟨u1, u2, u3, u4, u5⟩ := hsu
        rw [s_tabs_0 htab htrd hnone, if_pos rfl, if_pos rfl]
        exact ⟨x1, aw1, pc1, t2, P2, nx2, mo2, sz2, tb2, lt2, tr2, rfl, rfl, kp1, kp2, by omega, kp4, fun _ => ⟨by rw [u3, htb2], u1, u2, u4, by omega⟩⟩
    · refine x_iconst (x_d C_O_tablesFault 66 rfl) ⟨by omega, by omega⟩ ?_
      refine x_ireturn (x_d C_O_tablesFault 67 rfl) ?_
      have hno : s_trd (A 2) (q 35) aw1 x1.2.2.2.2 = none := by rcases hz2 with ⟨a, _⟩ | ⟨_, a⟩; omega; exact a
      rw [s_tabs_4 htab hno]
      exact ⟨x1, aw1, pc1, t2, P2, nx2, mo2, sz2, tb2, lt2, tr2, rfl, rfl, kp1, kp2, by omega, kp4, fun h => absurd h (by show ¬ (4 : Int) = 0; omega)⟩
  · refine x_iconst (x_d C_O_tablesFault 60 rfl) ⟨by omega, by omega⟩ ?_
    refine x_ireturn (x_d C_O_tablesFault 61 rfl) ?_
    have hno : s_tab (A 2) (q 35) (q 34) 0 0 nx [] x = none := by rcases hz1 with ⟨a, _⟩ | ⟨_, a⟩; omega; exact a
    rw [s_tabs_3 hno]
    exact ⟨x1, aw1, pc1, t0, P0, nx, mo, 0, tb, lt, tr, rfl, rfl, fun _ _ => rfl, ho, by omega, by omega, fun h => absurd h (by show ¬ (3 : Int) = 0; omega)⟩
