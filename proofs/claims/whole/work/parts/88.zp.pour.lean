/-! the reference: put, what is poured -/
theorem c_M_put (Z : xZ) (d : Nat) (q : Nat → Int) (r : Nat → Option Nat) (A : Nat → Nat → Int) (dy : xH) (hd : 40 ≤ d) (po : Option Nat) (X : Nat → Int) (E : Int) (g : Nat → Option xE) (P : Nat → Nat → Int) (hgk : gok g dy) (cp : Nat) (bt : Option Nat) (tb lt : Int) (tr : Option Nat) (sz : Int) (fis fge fpl : Nat → Int) (fva : Nat → Option Nat) (fch : Nat → Int) (hp : PB dy cp bt tb lt tr sz fis fge fpl fva fch) (hsz : 0 ≤ sz ∧ sz ≤ 300) (hnp : gnp g cp) (rt us : Nat → Int) (hus : ∀ k : Nat, (k : Int) < sz → (fis k = 2 ↔ ¬ us k = 0)) (hva : ∀ k : Nat, (k : Int) < sz → ¬ us k = 0 → ∃ c2, fva k = some c2 ∧ Tr X E g P 9 (rt k) c2 ∧ s_bh (P 8) (rt k) ≤ 12900 ∧ 1 ≤ P 8 (rt k).toNat) (n : Int) (hpm : 0 ≤ s_sm (s_pbf us rt (P 8) n) sz.toNat ∧ s_sm (s_pbf us rt (P 8) n) sz.toNat ≤ 900) (f : Int) (hf : 0 ≤ f) (hn : 0 ≤ q 1349 ∧ q 1349 ≤ 4000) (hX : ∀ k : Nat, (k : Int) < q 1349 → A 44 k = X (f.toNat + k)) (hB : ∀ k, -128 ≤ X k ∧ X k ≤ 127) (hEf : E ≤ f + q 1349) : xMet Z d Y_M_put [xC 42, xI n] (hF q (x_up (x_up r 1350 (some cp)) 1351 po) A ++ dy) (puq q r A dy po cp bt tb lt tr sz fis fge fpl fva fch X g f n (if 0 ≤ n ∧ n ≤ sz ∧ n < 300 then s_put X (f + q 1349) f (s_sm (s_pbf us rt (P 8) n) sz.toNat) else .inl (-1))) := by
  have h := c_M_put0 Z d q r A dy hd po X E g P hgk cp bt tb lt tr sz fis fge fpl fva fch hp hsz hnp rt us hus hva n hpm f hf hn hX hB hEf (A 43)
  rw [x_up_same A 43] at h
  exact h
theorem c_M_putN (Z : xZ) (d : Nat) (q : Nat → Int) (r : Nat → Option Nat) (A : Nat → Nat → Int) (dy : xH) (hd : 1 ≤ d) (po : Option Nat) (n : Int) : xMet Z d Y_M_put [xC 42, xI n] (hF q (x_up (x_up r 1350 none) 1351 po) A ++ dy) (fun v h2 => v = some (xI (-2)) ∧ h2 = hF (x_up (x_up (x_up q 1349 0) 1345 (q 1349)) 1346 0) (x_up (x_up (x_up r 1350 none) 1351 po) 1344 (some 44)) A ++ dy) := by
  refine xMet_of (by decide) (Nat.le_of_ble_eq_true rfl) (fun v h2 hq => by rw [hq.1]; trivial) ?_
  refine x_aload_n (x_d C_M_put 0 rfl) rfl ?_
  refine x_aload_n (x_d C_M_put 1 rfl) rfl ?_
  refine x_getfield (v := xC 44) (x_d C_M_put 2 rfl) f_M_167 rfl rfl ?_
  refine x_putfield (h1 := hF q (x_up (x_up (x_up r 1350 none) 1351 po) 1344 (some 44)) A ++ dy) (x_d C_M_put 3 rfl) p_M_14 rfl rfl rfl trivial rfl ?_
  refine x_aload_n (x_d C_M_put 4 rfl) rfl ?_
  refine x_aload_n (x_d C_M_put 5 rfl) rfl ?_
  refine x_invokevirtual (st := [xC 42]) (av := []) (x_d C_M_put 6 rfl) k_M_199 m_M_used v_M_used cl_M rfl rfl (Nat.le_of_ble_eq_true rfl) (by omega) rfl (c_M_used Z (d - 1) q (x_up (x_up (x_up r 1350 none) 1351 po) 1344 (some 44)) A dy) ?_
  rintro v_ _ ⟨hv_, rfl⟩
  obtain rfl : v_ = some (xI (q 1349)) := hv_
  refine x_putfield (h1 := hF (x_up (x_up q 1349 0) 1345 (q 1349)) (x_up (x_up (x_up r 1350 none) 1351 po) 1344 (some 44)) A ++ dy) (x_d C_M_put 7 rfl) p_M_11 rfl rfl rfl trivial rfl ?_
  refine x_aload_n (x_d C_M_put 8 rfl) rfl ?_
  refine x_iconst (x_d C_M_put 9 rfl) ⟨by omega, by omega⟩ ?_
  refine x_putfield (h1 := hF (x_up (x_up (x_up q 1349 0) 1345 (q 1349)) 1346 0) (x_up (x_up (x_up r 1350 none) 1351 po) 1344 (some 44)) A ++ dy) (x_d C_M_put 10 rfl) p_M_7 rfl rfl rfl trivial rfl ?_
  refine x_aload_n (x_d C_M_put 11 rfl) rfl ?_
  refine x_getfield (v := xN) (x_d C_M_put 12 rfl) f_M_207 rfl rfl ?_
  refine x_ifnonnullN (tgt := 31) (x_d C_M_put 13 rfl) rfl ?_
  refine x_bipush (x_d C_M_put 14 rfl) (by omega) ?_
  refine x_ireturn (x_d C_M_put 15 rfl) ?_
  exact ⟨rfl, rfl⟩
/-- what stays, and new cells behind it -/
def gext (g : Nat → Option xE) (dy ny : xH) : Nat → Option xE := fun c => if c < 52 + dy.length then g c else ny[c - (52 + dy.length)]?
theorem gext_at (g : Nat → Option xE) (dy ny : xH) (k : Nat) : gext g dy ny (52 + dy.length + k) = ny[k]? := by
  unfold gext
  rw [if_neg (by omega), show 52 + dy.length + k - (52 + dy.length) = k by omega]
theorem gext_le {g : Nat → Option xE} {dy : xH} (h : gok g dy) (ny : xH) : gle g (gext g dy ny) := fun c e z => by
  have := ct_lt (h c e z)
  unfold gext
  rw [if_pos (by omega)]
  exact z
theorem gext_ok {g : Nat → Option xE} {dy : xH} (h : gok g dy) (ny : xH) : gok (gext g dy ny) (dy ++ ny) := fun c e z => by
  unfold gext at z
  split at z
  · exact ct_app (h c e z) ny
  · next hc =>
    refine ⟨by omega, ?_⟩
    rw [List.getElem?_append_right (by omega), show c - 52 - dy.length = c - (52 + dy.length) by omega]
    exact z
theorem gext_nw (g : Nat → Option xE) (dy ny : xH) : gnw g (gext g dy ny) (52 + dy.length) := fun k hk z => by
  unfold gext
  rw [if_pos hk]
  exact z
theorem Tr_prd {X : Nat → Int} {E f N : Int} {g : Nat → Option xE} {c0 c1 c2 c3 c4 c5 : Nat} {fb fn : Nat → Int} (hf : 8 ≤ f) (hN : 0 ≤ N ∧ N ≤ 4000 ∧ f + N ≤ E) (hL : ∀ k, k < 6 → X k = [76, 101, 110, 103, 116, 104].getD k 0) (h6 : s_reg (X 6) = false) (h0 : g c0 = some (xB 12 [xI 9, xI 0, xI 0, xI 1, xC c5, xC c2, xC c3])) (h1 : g c1 = some (xB 12 [xI 3, xI N, xI 0, xI 0, xN, xN, xN])) (h2 : g c2 = some (xQ 4 1 (x_up (fun _ => none) 0 (some c1)))) (h3 : g c3 = some (xQ 5 1 (x_up (fun _ => none) 0 (some c4)))) (h4 : g c4 = some (xA 1 6 fn)) (hfn : ∀ k, k < 6 → fn k = [76, 101, 110, 103, 116, 104].getD k 0) (h5 : g c5 = some (xA 1 N.toNat fb)) (hfb : ∀ k : Nat, (k : Int) < N → fb k = X (f.toNat + k)) : Tr X E g (lP (s_prd f N)) 9 0 c0 := by
  have hreg : ∀ k, k < 6 → s_reg ([76, 101, 110, 103, 116, 104].getD k 0) = true := by decide
  have hlf : Tr X E g (lP (s_prd f N)) 8 1 c1 := by
    refine ⟨by omega, N, 0, 0, none, none, none, h1, ⟨⟨by show (0 : Int) ≤ 3; omega, by show (3 : Int) ≤ 9; omega⟩, fun _ => ⟨rfl, by show -999999999 ≤ N; omega, by show N ≤ 999999999; omega⟩, fun z => absurd (show (3 : Int) = 8 from z) (by omega), fun z => absurd (show (3 : Int) = 4 ∨ (3 : Int) = 9 from z) (by omega), fun z => absurd (show (3 : Int) = 5 from z) (by omega), fun _ => rfl⟩, [], rfl, rfl, by show 0 ≤ 60; omega, ?_, ?_, ?_, ?_, ?_⟩
    · intro z; exact absurd (show (3 : Int) = 6 ∨ (3 : Int) = 7 ∨ (3 : Int) = 9 from z) (by omega)
    · intro z; exact absurd (show (3 : Int) = 7 ∨ (3 : Int) = 9 from z) (by omega)
    · intro z; exact absurd (show (3 : Int) = 6 from z) (by omega)
    · intro _; rfl
    · intro _; exact ⟨rfl, rfl⟩
  refine ⟨by omega, 0, 0, 1, some c5, some c2, some c3, h0, ⟨⟨by show (0 : Int) ≤ 9; omega, by show (9 : Int) ≤ 9; omega⟩, fun z => absurd (show (9 : Int) = 3 from z) (by omega), fun z => absurd (show (9 : Int) = 8 from z) (by omega), fun _ => ⟨by show 0 ≤ f; omega, hN.1, hN.2.1, hN.2.2, c5, fb, rfl, h5, hfb⟩, fun z => absurd (show (9 : Int) = 5 from z) (by omega), fun z => absurd (show ¬ ((9 : Int) = 4 ∨ (9 : Int) = 5 ∨ (9 : Int) = 9) from z) (by omega)⟩, [1], ⟨rfl, by omega, rfl⟩, rfl, by show 1 ≤ 60; omega, ?_, ?_, ?_, ?_, ?_⟩
  · intro _
    refine ⟨c2, 1, _, rfl, h2, by show 1 ≤ 1; omega, by omega, fun k hk => ?_⟩
    have hk : k < 1 := hk
    obtain rfl : k = 0 := by omega
    exact ⟨c1, rfl, hlf⟩
  · intro _
    refine ⟨c3, 1, _, rfl, h3, by show 1 ≤ 1; omega, by omega, fun k hk => ?_⟩
    have hk : k < 1 := hk
    obtain rfl : k = 0 := by omega
    refine ⟨c4, 6, fn, rfl, h4, ?_⟩
    show nmw X E 0 6 fn
    refine ⟨by omega, by omega, by omega, by omega, fun k hk => ?_, ?_⟩
    · rw [show (0 : Int).toNat + k = k by omega, hfn k hk, hL k hk]
      exact ⟨rfl, hreg k hk⟩
    · exact h6
  · intro z; exact absurd (show (9 : Int) = 6 from z) (by omega)
  · intro z; exact absurd (show ¬ ((9 : Int) = 7 ∨ (9 : Int) = 9) from z) (by omega)
  · intro z; exact absurd (show ¬ ((9 : Int) = 6 ∨ (9 : Int) = 7 ∨ (9 : Int) = 9) from z) (by omega)
theorem w_M_pour_132 (Z : xZ) (d : Nat) (q : Nat → Int) (r : Nat → Option Nat) (A : Nat → Nat → Int) (dy : xH) (hd : 1 ≤ d) (po : Option Nat) (X : Nat → Int) (E : Int) (g : Nat → Option xE) (P : Nat → Nat → Int) (hgk : gok g dy) (cp : Nat) (bt : Option Nat) (tb lt : Int) (tr : Option Nat) (sz : Int) (fis fge fpl : Nat → Int) (fva : Nat → Option Nat) (fch : Nat → Int) (hp : PB dy cp bt tb lt tr sz fis fge fpl fva fch) (hsz : 0 ≤ sz ∧ sz ≤ 300) (rt us pd : Nat → Int) (hus : ∀ k : Nat, (k : Int) < sz → (fis k = 2 ↔ ¬ us k = 0)) (hva : ∀ k : Nat, (k : Int) < sz → ¬ us k = 0 → ∃ c2, fva k = some c2 ∧ Tr X E g P 9 (rt k) c2 ∧ s_bh (P 8) (rt k) ≤ 12900 ∧ 1 ≤ P 8 (rt k).toNat) (hpd : ∀ k : Nat, (k : Int) < sz → ¬ us k = 0 → (¬ pd k = 0 ↔ ¬ fch k = 0 ∧ P 5 (rt k).toNat = 9)) (n N : Int) (c0 : Nat) (hN : 0 ≤ N ∧ N ≤ 4000) (Q : Option xV → xH → Prop) (kk : xW Z d Y_M_pour 220 [(0, xC 42), (1, xI n), (3, xC c0), (5, xI (N + s_sm (s_qbf us pd rt (P 7) n) sz.toNat))] [] (hF q (x_up (x_up r 1350 (some cp)) 1351 po) A ++ dy) Q) : ∀ (m : Nat) (t a : Int), (0 ≤ t ∧ t + m = sz) → a = N + s_sm (s_qbf us pd rt (P 7) n) t.toNat → (0 ≤ s_sm (s_qbf us pd rt (P 7) n) t.toNat ∧ s_sm (s_qbf us pd rt (P 7) n) t.toNat ≤ 4000 * t) → xW Z d Y_M_pour 132 [(0, xC 42), (1, xI n), (3, xC c0), (5, xI a), (6, xI t)] [] (hF q (x_up (x_up r 1350 (some cp)) 1351 po) A ++ dy) Q := by
  intro m
  induction m with
  | zero =>
    intro t a ht ha hs
    obtain rfl : sz = t := by omega
    subst ha
    refine x_iload (x_d C_M_pour 81 rfl) rfl ?_
    refine x_aload_n (x_d C_M_pour 82 rfl) rfl ?_
    refine x_getfield (v := xC cp) (x_d C_M_pour 83 rfl) f_M_207 rfl rfl ?_
    refine x_getfield (v := xI (sz)) (x_d C_M_pour 84 rfl) f_M_266 (ct_get hp.1 _ _ _) rfl ?_
    refine x_icmp_ge (tgt := 220) (x_d C_M_pour 85 rfl) rfl (fun _ => ?_) (fun q => absurd q (by omega))
    refine x_locs [0, 1, 2, 3] rfl ?_
    exact kk
  | succ m ih =>
    intro t a ht ha hs
    have hut := hus t.toNat (by omega)
    have hss := s_sm_s (s_qbf us pd rt (P 7) n) ht.1
    have hsq : (s_qbf us pd rt (P 7) n) t.toNat = if ¬ us t.toNat = 0 ∧ ¬ pd t.toNat = 0 ∧ ¬ (t.toNat : Int) = n then P 7 (rt t.toNat).toNat else 0 := rfl
    have hz : ¬ (¬ us t.toNat = 0 ∧ ¬ pd t.toNat = 0 ∧ ¬ (t.toNat : Int) = n) → xW Z d Y_M_pour 214 [(0, xC 42), (1, xI n), (3, xC c0), (5, xI a), (6, xI t)] [] (hF q (x_up (x_up r 1350 (some cp)) 1351 po) A ++ dy) Q := fun z => by
      rw [if_neg z] at hsq
      refine x_iinc (l1 := [(6, xI (t + 1)), (0, xC 42), (1, xI (n)), (3, xC c0), (5, xI (a))]) (x_d C_M_pour 120 rfl) rfl ⟨by omega, by omega⟩ (by decide) rfl ?_
      refine x_goto (tgt := 132) (x_d C_M_pour 121 rfl) rfl ?_
      refine x_locs [1, 2, 3, 4, 0] rfl ?_
      exact ih (t + 1) a (by omega) (by rw [hss, hsq]; omega) (by rw [hss, hsq]; omega)
    by_cases hu : us t.toNat = 0
    · refine x_iload (x_d C_M_pour 81 rfl) rfl ?_
      refine x_aload_n (x_d C_M_pour 82 rfl) rfl ?_
      refine x_getfield (v := xC cp) (x_d C_M_pour 83 rfl) f_M_207 rfl rfl ?_
      refine x_getfield (v := xI (sz)) (x_d C_M_pour 84 rfl) f_M_266 (ct_get hp.1 _ _ _) rfl ?_
      refine x_icmp_ge (tgt := 220) (x_d C_M_pour 85 rfl) rfl (fun q => absurd q (by omega)) (fun _ => ?_)
      refine x_iload (x_d C_M_pour 86 rfl) rfl ?_
      refine x_iload_n (x_d C_M_pour 87 rfl) rfl ?_
      refine x_icmp_eq (tgt := 214) (x_d C_M_pour 88 rfl) rfl (fun c2 => ?_) (fun c2 => ?_)
      · refine x_locs [0, 1, 2, 3, 4] rfl ?_
        exact hz (fun z => z.1 hu)
      · refine x_aload_n (x_d C_M_pour 89 rfl) rfl ?_
        refine x_getfield (v := xC cp) (x_d C_M_pour 90 rfl) f_M_207 rfl rfl ?_
        refine x_getfield (v := xC (cp + 1)) (x_d C_M_pour 91 rfl) f_M_267 (ct_get hp.1 _ _ _) rfl ?_
        refine x_iload (x_d C_M_pour 92 rfl) rfl ?_
        refine x_iaload (f := fis) (x_d C_M_pour 93 rfl) (ct_get hp.2.1 _ _ _) (by omega) (by omega) ?_
        refine x_iconst (x_d C_M_pour 94 rfl) ⟨by omega, by omega⟩ ?_
        refine x_icmp_ne (tgt := 214) (x_d C_M_pour 95 rfl) rfl (fun _ => ?_) (fun q => absurd q (by omega))
        refine x_locs [0, 1, 2, 3, 4] rfl ?_
        exact hz (fun z => z.1 hu)
    · obtain ⟨c2, hc2, hT2, hb2, h12⟩ := hva t.toNat (by omega) hu
      have hpt := hpd t.toNat (by omega) hu
      obtain ⟨h0, x2, y2, m2, bt2, it2, nm2, hg2, hL2, -⟩ := Tr_o hT2
      by_cases hk9 : P 5 (rt t.toNat).toNat = 9
      · obtain ⟨e6, e7, e8, e9, cb, fb, rfl, hcb, hfb⟩ := hL2.2.2.2.1 (Or.inr hk9)
        refine x_iload (x_d C_M_pour 81 rfl) rfl ?_
        refine x_aload_n (x_d C_M_pour 82 rfl) rfl ?_
        refine x_getfield (v := xC cp) (x_d C_M_pour 83 rfl) f_M_207 rfl rfl ?_
        refine x_getfield (v := xI (sz)) (x_d C_M_pour 84 rfl) f_M_266 (ct_get hp.1 _ _ _) rfl ?_
        refine x_icmp_ge (tgt := 220) (x_d C_M_pour 85 rfl) rfl (fun q => absurd q (by omega)) (fun _ => ?_)
        refine x_iload (x_d C_M_pour 86 rfl) rfl ?_
        refine x_iload_n (x_d C_M_pour 87 rfl) rfl ?_
        refine x_icmp_eq (tgt := 214) (x_d C_M_pour 88 rfl) rfl (fun c2 => ?_) (fun c2 => ?_)
        · refine x_locs [0, 1, 2, 3, 4] rfl ?_
          exact hz (fun z => by first | (have := z.2.2; omega) | (exact absurd (hpt.mp z.2.1).1 (by omega)) | (exact absurd (hpt.mp z.2.1).2 (by omega)))
        · refine x_aload_n (x_d C_M_pour 89 rfl) rfl ?_
          refine x_getfield (v := xC cp) (x_d C_M_pour 90 rfl) f_M_207 rfl rfl ?_
          refine x_getfield (v := xC (cp + 1)) (x_d C_M_pour 91 rfl) f_M_267 (ct_get hp.1 _ _ _) rfl ?_
          refine x_iload (x_d C_M_pour 92 rfl) rfl ?_
          refine x_iaload (f := fis) (x_d C_M_pour 93 rfl) (ct_get hp.2.1 _ _ _) (by omega) (by omega) ?_
          refine x_iconst (x_d C_M_pour 94 rfl) ⟨by omega, by omega⟩ ?_
          refine x_icmp_ne (tgt := 214) (x_d C_M_pour 95 rfl) rfl (fun q => absurd q (by omega)) (fun _ => ?_)
          refine x_aload_n (x_d C_M_pour 96 rfl) rfl ?_
          refine x_getfield (v := xC cp) (x_d C_M_pour 97 rfl) f_M_207 rfl rfl ?_
          refine x_getfield (v := xC (cp + 5)) (x_d C_M_pour 98 rfl) f_M_371 (ct_get hp.1 _ _ _) rfl ?_
          refine x_iload (x_d C_M_pour 99 rfl) rfl ?_
          refine x_zaload (f := fch) (x_d C_M_pour 100 rfl) (ct_get hp.2.2.2.2.2 _ _ _) (by omega) (by omega) ?_
          refine x_if_eq (tgt := 214) (x_d C_M_pour 101 rfl) rfl (fun c4 => ?_) (fun c4 => ?_)
          · refine x_locs [0, 1, 2, 3, 4] rfl ?_
            exact hz (fun z => by first | (have := z.2.2; omega) | (exact absurd (hpt.mp z.2.1).1 (by omega)) | (exact absurd (hpt.mp z.2.1).2 (by omega)))
          · refine x_aload_n (x_d C_M_pour 102 rfl) rfl ?_
            refine x_getfield (v := xC cp) (x_d C_M_pour 103 rfl) f_M_207 rfl rfl ?_
            refine x_getfield (v := xC (cp + 4)) (x_d C_M_pour 104 rfl) f_M_281 (ct_get hp.1 _ _ _) rfl ?_
            refine x_iload (x_d C_M_pour 105 rfl) rfl ?_
            refine x_aaload (x_d C_M_pour 106 rfl) (ct_get hp.2.2.2.2.1 _ _ _) (by omega) (by omega) ?_
            rw [hc2]
            refine x_getfield (v := xI (P 5 (rt t.toNat).toNat)) (x_d C_M_pour 107 rfl) f_M_261 (ct_get (hgk _ _ hg2) _ _ _) rfl ?_
            refine x_bipush (x_d C_M_pour 108 rfl) (by omega) ?_
            refine x_icmp_ne (tgt := 214) (x_d C_M_pour 109 rfl) rfl (fun q => absurd q (by omega)) (fun _ => ?_)
            refine x_iload (x_d C_M_pour 110 rfl) rfl ?_
            refine x_aload_n (x_d C_M_pour 111 rfl) rfl ?_
            refine x_getfield (v := xC cp) (x_d C_M_pour 112 rfl) f_M_207 rfl rfl ?_
            refine x_getfield (v := xC (cp + 4)) (x_d C_M_pour 113 rfl) f_M_281 (ct_get hp.1 _ _ _) rfl ?_
            refine x_iload (x_d C_M_pour 114 rfl) rfl ?_
            refine x_aaload (x_d C_M_pour 115 rfl) (ct_get hp.2.2.2.2.1 _ _ _) (by omega) (by omega) ?_
            rw [hc2]
            refine x_getfield (v := xC cb) (x_d C_M_pour 116 rfl) f_M_119 (ct_get (hgk _ _ hg2) _ _ _) rfl ?_
            refine x_arraylength (x_d C_M_pour 117 rfl) (ct_get (hgk _ _ hcb) _ _ _) (by decide) (by omega) ?_
            refine x_iadd (x_d C_M_pour 118 rfl) ⟨by omega, by omega⟩ ?_
            refine x_istore (l1 := [(5, xI (a + ((((P 7 (rt t.toNat).toNat).toNat : Nat) : Int)))), (0, xC 42), (1, xI (n)), (3, xC c0), (6, xI (t))]) (x_d C_M_pour 119 rfl) (by decide) rfl ?_
            refine x_locs [1, 2, 3, 0, 4] rfl ?_
            rw [if_pos ⟨hu, hpt.mpr ⟨by omega, hk9⟩, by omega⟩] at hsq
            refine x_iinc (l1 := [(6, xI (t + 1)), (0, xC 42), (1, xI (n)), (3, xC c0), (5, xI (a + ((((P 7 (rt t.toNat).toNat).toNat : Nat) : Int))))]) (x_d C_M_pour 120 rfl) rfl ⟨by omega, by omega⟩ (by decide) rfl ?_
            refine x_goto (tgt := 132) (x_d C_M_pour 121 rfl) rfl ?_
            refine x_locs [1, 2, 3, 4, 0] rfl ?_
            exact ih (t + 1) _ (by omega) (by rw [hss, hsq]; omega) (by rw [hss, hsq]; omega)
      · refine x_iload (x_d C_M_pour 81 rfl) rfl ?_
        refine x_aload_n (x_d C_M_pour 82 rfl) rfl ?_
        refine x_getfield (v := xC cp) (x_d C_M_pour 83 rfl) f_M_207 rfl rfl ?_
        refine x_getfield (v := xI (sz)) (x_d C_M_pour 84 rfl) f_M_266 (ct_get hp.1 _ _ _) rfl ?_
        refine x_icmp_ge (tgt := 220) (x_d C_M_pour 85 rfl) rfl (fun q => absurd q (by omega)) (fun _ => ?_)
        refine x_iload (x_d C_M_pour 86 rfl) rfl ?_
        refine x_iload_n (x_d C_M_pour 87 rfl) rfl ?_
        refine x_icmp_eq (tgt := 214) (x_d C_M_pour 88 rfl) rfl (fun c2 => ?_) (fun c2 => ?_)
        · refine x_locs [0, 1, 2, 3, 4] rfl ?_
          exact hz (fun z => by first | (have := z.2.2; omega) | (exact absurd (hpt.mp z.2.1).1 (by omega)) | (exact absurd (hpt.mp z.2.1).2 (by omega)))
        · refine x_aload_n (x_d C_M_pour 89 rfl) rfl ?_
          refine x_getfield (v := xC cp) (x_d C_M_pour 90 rfl) f_M_207 rfl rfl ?_
          refine x_getfield (v := xC (cp + 1)) (x_d C_M_pour 91 rfl) f_M_267 (ct_get hp.1 _ _ _) rfl ?_
          refine x_iload (x_d C_M_pour 92 rfl) rfl ?_
          refine x_iaload (f := fis) (x_d C_M_pour 93 rfl) (ct_get hp.2.1 _ _ _) (by omega) (by omega) ?_
          refine x_iconst (x_d C_M_pour 94 rfl) ⟨by omega, by omega⟩ ?_
          refine x_icmp_ne (tgt := 214) (x_d C_M_pour 95 rfl) rfl (fun q => absurd q (by omega)) (fun _ => ?_)
          refine x_aload_n (x_d C_M_pour 96 rfl) rfl ?_
          refine x_getfield (v := xC cp) (x_d C_M_pour 97 rfl) f_M_207 rfl rfl ?_
          refine x_getfield (v := xC (cp + 5)) (x_d C_M_pour 98 rfl) f_M_371 (ct_get hp.1 _ _ _) rfl ?_
          refine x_iload (x_d C_M_pour 99 rfl) rfl ?_
          refine x_zaload (f := fch) (x_d C_M_pour 100 rfl) (ct_get hp.2.2.2.2.2 _ _ _) (by omega) (by omega) ?_
          refine x_if_eq (tgt := 214) (x_d C_M_pour 101 rfl) rfl (fun c4 => ?_) (fun c4 => ?_)
          · refine x_locs [0, 1, 2, 3, 4] rfl ?_
            exact hz (fun z => by first | (have := z.2.2; omega) | (exact absurd (hpt.mp z.2.1).1 (by omega)) | (exact absurd (hpt.mp z.2.1).2 (by omega)))
          · refine x_aload_n (x_d C_M_pour 102 rfl) rfl ?_
            refine x_getfield (v := xC cp) (x_d C_M_pour 103 rfl) f_M_207 rfl rfl ?_
            refine x_getfield (v := xC (cp + 4)) (x_d C_M_pour 104 rfl) f_M_281 (ct_get hp.1 _ _ _) rfl ?_
            refine x_iload (x_d C_M_pour 105 rfl) rfl ?_
            refine x_aaload (x_d C_M_pour 106 rfl) (ct_get hp.2.2.2.2.1 _ _ _) (by omega) (by omega) ?_
            rw [hc2]
            refine x_getfield (v := xI (P 5 (rt t.toNat).toNat)) (x_d C_M_pour 107 rfl) f_M_261 (ct_get (hgk _ _ hg2) _ _ _) rfl ?_
            refine x_bipush (x_d C_M_pour 108 rfl) (by omega) ?_
            refine x_icmp_ne (tgt := 214) (x_d C_M_pour 109 rfl) rfl (fun _ => ?_) (fun q => absurd q (by omega))
            refine x_locs [0, 1, 2, 3, 4] rfl ?_
            exact hz (fun z => by first | (have := z.2.2; omega) | (exact absurd (hpt.mp z.2.1).1 (by omega)) | (exact absurd (hpt.mp z.2.1).2 (by omega)))
