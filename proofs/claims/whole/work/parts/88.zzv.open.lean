/-! open: what holds then -/
theorem Inv_os {n : Nat} {q : Nat → Int} {r : Nat → Option Nat} {A P2 : Nat → Nat → Int} {dy dyn2 : xH} {g g2 : Nat → Option xE} {x9 : ost} {Zs tb lt nx mo hi aw t2 N ol j : Int} {ts : List tk} {pc sm rt tk9 ln : Nat → Int} {fin : Nat → List tk} {cp cb c : Nat} {fb fis fge fpl : Nat → Int} {fva2 : Nat → Option Nat} (h : Inv n q r A dy g) (h133 : 0 ≤ q 133) (hz : 1 ≤ Zs ∧ Zs ≤ 300) (hts : PT (A 2) (q 35) ts) (h1 : 1 ≤ ts.length) (hd : (ts.length : Int) ≤ 3545) (ho : s_ok5 P2) (hrt : ∀ j, 0 ≤ rt j ∧ rt j ≤ 12900) (hln : ∀ k, 0 ≤ ln k) (hl0 : ∀ k, x9.2.2.2.1 k = 0 → ln k = 0) (ht2 : t2 = q 133 + ts.length + s_sm ln Zs.toNat) (h900 : s_sm ln Zs.toNat ≤ 900) (hat : s_at P2 (q 133).toNat ts) (hobj : ∀ k : Nat, (k : Int) < Zs → ¬ x9.2.2.2.1 k = 0 → rt k = q 133 + ts.length + s_sm ln k ∧ s_at P2 (rt k).toNat (fin k) ∧ lsp (fin k) 0 = (fin k).length ∧ 1 ≤ (fin k).length ∧ ((fin k).length : Int) = ln k ∧ ∃ c2, fva2 k = some c2 ∧ Tr (A 2) (q 35) g2 (lP (fin k)) 9 0 c2) (hEX : EX Zs fis fge x9.2.2.1 x9.2.2.2.1) (hlt : 0 ≤ lt ∧ lt ≤ 2147483647) (hj : 0 ≤ j ∧ j ≤ 4000) (hg2 : gok g2 dyn2) (hnp : gnp g2 cp) (hp2 : PB dyn2 cp (some cb) tb lt (some c) Zs fis fge fpl fva2 (fun _ => 0)) (hcb : g2 cb = some (xA 1 (q 35 - q 34).toNat fb)) (hfb : ∀ k : Nat, (k : Int) < q 35 - q 34 → fb k = A 2 ((q 34).toNat + k)) (htr : Tr (A 2) (q 35) g2 (lP ts) 9 0 c) (hdj : Dj g2 c) (hnm : ∀ n2, q 35 ≤ n2 → 0 ≤ s_nam (lsp ts) (lnm ts) (A 2) n2 0 [83, 105, 122, 101]) : Inv n (vq true false (x_up (x_up (x_up (x_up (x_up (x_up (x_up (x_up (oQ q t2 nx mo hi aw Zs tb lt (q 133)) 133 (t2 - q 133)) 1032 0) 34 (q 35)) 11 (-1)) 1349 0) 1345 N) 1354 ol) 1346 j)) (vr true false (x_up (x_up (x_up (x_up (x_up (x_up (x_up (x_up r 7 (some 32)) 8 (some 26)) 9 (some 38)) 10 (some 40)) 359 (some 32)) 1344 (some 44)) 1350 (some cp)) 1351 none)) (vA true false (x_up (x_up (s_pt (oA A P2 x9 pc sm rt) (s_cut P2 0 (q 133) t2)) 33 (s_gap rt x9.2.2.2.1 Zs 0 (q 133))) 43 tk9)) dyn2 g2 := by
  obtain ⟨t, rr, oo, bb, gk, -, -⟩ := h
  obtain ⟨S, T, c0, hdc, s1, s2, s3⟩ := rr.2
  obtain ⟨d1, d2, d3⟩ := dcf_sw true false hdc
  have hcp : 52 ≤ cp := hp2.1.1
  have hCt : s_at (s_cut P2 0 (q 133) t2) (0 : Int).toNat ts := by
    have hs0 : 0 ≤ s_sm ln Zs.toNat := by have := s_sm_mono hln (Nat.zero_le Zs.toNat); exact this
    have := cut_down (t0 := q 133) (T := t2) hat ⟨h133, Int.le_refl _, by omega⟩
    rw [Int.sub_self] at this
    exact this
  obtain ⟨t8, t5⟩ := at_8 hCt hts.2.2 h1
  have hR : ∀ k : Nat, (k : Int) < Zs → ¬ x9.2.2.2.1 k = 0 → s_gap rt x9.2.2.2.1 Zs 0 (q 133) k = ts.length + s_sm ln k ∧ s_at (s_cut P2 0 (q 133) t2) (s_gap rt x9.2.2.2.1 Zs 0 (q 133) k).toNat (fin k) := fun k k1 k2 => by
    obtain ⟨e1, e2, e3, e4, e5, -⟩ := hobj k k1 k2
    have b1 : 0 ≤ s_sm ln k := by have := s_sm_mono hln (Nat.zero_le k); exact this
    have b2 : s_sm ln (k + 1) ≤ s_sm ln Zs.toNat := s_sm_mono hln (by omega)
    have b3 : s_sm ln (k + 1) = s_sm ln k + ln k := rfl
    have eg : s_gap rt x9.2.2.2.1 Zs 0 (q 133) k = rt k - q 133 := by
      unfold s_gap
      rw [if_pos ⟨k1, k2, by omega⟩]
    rw [eg]
    refine ⟨by omega, cut_down e2 ⟨h133, by omega, by omega⟩⟩
  have hLY := op_LY (C := s_cut P2 0 (q 133) t2) (U := x9.2.2.2.1) (R := s_gap rt x9.2.2.2.1 Zs 0 (q 133)) (ln := ln) (sz := Zs) (lt := (ts.length : Int)) (by omega) (by omega) t8 hln (fun k k1 k2 => by
    obtain ⟨e1, e2, e3, e4, e5, -⟩ := hobj k k1 k2
    obtain ⟨r1, r2⟩ := hR k k1 k2
    exact ⟨r1, by rw [(at_8 r2 e3 e4).1, e5], by omega⟩)
  have hsm : s_sm (s_pbf x9.2.2.2.1 (s_gap rt x9.2.2.2.1 Zs 0 (q 133)) (s_cut P2 0 (q 133) t2 8) (-1)) Zs.toNat = s_sm ln Zs.toNat := s_sm_cong _ (fun k hk => by
    unfold s_pbf
    by_cases z : ¬ x9.2.2.2.1 k = 0
    · obtain ⟨e1, e2, e3, e4, e5, -⟩ := hobj k (by omega) z
      rw [if_pos ⟨z, by omega⟩, (at_8 (hR k (by omega) z).2 e3 e4).1, e5]
    · rw [if_neg (fun w => z w.1), hl0 k (by omega)])
  have e28 : vA true false (x_up (x_up (s_pt (oA A P2 x9 pc sm rt) (s_cut P2 0 (q 133) t2)) 33 (s_gap rt x9.2.2.2.1 Zs 0 (q 133))) 43 tk9) 28 = x9.2.2.1 := rfl
  have e29 : vA true false (x_up (x_up (s_pt (oA A P2 x9 pc sm rt) (s_cut P2 0 (q 133) t2)) 33 (s_gap rt x9.2.2.2.1 Zs 0 (q 133))) 43 tk9) 29 = x9.2.2.2.1 := rfl
  have e30 : vA true false (x_up (x_up (s_pt (oA A P2 x9 pc sm rt) (s_cut P2 0 (q 133) t2)) 33 (s_gap rt x9.2.2.2.1 Zs 0 (q 133))) 43 tk9) 30 = s_zr (A 36) 300 := by
    unfold vA
    rw [show swc true false 30 = 36 from rfl]
    unfold oA s_pt
    simp [x_up]
  have e31 : vA true false (x_up (x_up (s_pt (oA A P2 x9 pc sm rt) (s_cut P2 0 (q 133) t2)) 33 (s_gap rt x9.2.2.2.1 Zs 0 (q 133))) 43 tk9) 31 = s_zr (A 37) 300 := by
    unfold vA
    rw [show swc true false 31 = 37 from rfl]
    unfold oA s_pt
    simp [x_up]
  have eT : t2 - q 133 = ts.length + s_sm ln Zs.toNat := by omega
  refine ⟨⟨⟨?_, Int.le_refl _, t.1.2.2⟩, ⟨?_, ?_⟩, fun k hk => ?_, t.2.2.2⟩, ⟨⟨rfl, rfl, rfl, rfl⟩, S, T, c0, hdc, ?_, ?_, ?_⟩, oo, ⟨ok5_cut ho, hj, bb.2.2.1, bb.2.2.2.1, fun k => ?_, bb.2.2.2.2.1⟩, hg2, Or.inl ⟨rfl, rfl⟩, Or.inr ⟨iL_LY.mpr ⟨?_, ?_, ?_, ?_⟩, cp, cb, c, fis, fge, fpl, fva2, _, fb, ?_, hp2, hnp, ⟨hcb, hfb⟩, ⟨?_, t.1.2.1, Int.le_refl _, ?_⟩, hz, hlt, fun k hk => ?_, rfl, fun k k1 k2 => ?_, at_Tr (Int.le_refl 0) hCt hts.2.2 h1 htr, ?_, hdj, fun n2 hn2 => at_nam (Int.le_refl 0) hCt hts.2.2 h1 (hnm n2 hn2)⟩⟩
  · show 8 ≤ q 35
    have := t.1; omega
  · show q 35 - q 35 = 0
    omega
  · show (0 : Int) ≤ 4000
    omega
  · have hk : (k : Int) < 0 := hk
    omega
  · show (r 578).map (swc true false) = some S
    rw [s1]; show some (swc true false S) = some S; rw [d1]
  · show (r 579).map (swc true false) = some T
    rw [s2]; show some (swc true false T) = some T; rw [d2]
  · show (r 580).map (swc true false) = some c0
    rw [s3]; show some (swc true false c0) = some c0; rw [d3]
  · show 0 ≤ s_gap rt x9.2.2.2.1 Zs 0 (q 133) k ∧ s_gap rt x9.2.2.2.1 Zs 0 (q 133) k ≤ 12900
    by_cases z : (k : Int) < Zs ∧ ¬ x9.2.2.2.1 k = 0
    · have e1 := (hR k z.1 z.2).1
      have e2 := (hobj k z.1 z.2).1
      have e3 := hrt k
      have b1 : 0 ≤ s_sm ln k := by have := s_sm_mono hln (Nat.zero_le k); exact this
      omega
    · unfold s_gap
      rw [if_neg (fun w => z ⟨w.1, w.2.1⟩)]
      exact hrt k
  · show LY (t2 - q 133) Zs x9.2.2.2.1 (s_gap rt x9.2.2.2.1 Zs 0 (q 133)) (s_cut P2 0 (q 133) t2 8) 0
    rw [eT]; exact hLY
  · show s_cut P2 0 (q 133) t2 8 (0 : Int).toNat ≤ 3545
    rw [t8]; exact hd
  · show t2 - q 133 = s_cut P2 0 (q 133) t2 8 (0 : Int).toNat + s_sm (s_pbf x9.2.2.2.1 (s_gap rt x9.2.2.2.1 Zs 0 (q 133)) (s_cut P2 0 (q 133) t2 8) (-1)) Zs.toNat
    rw [t8, hsm]; exact eT
  · show s_sm (s_pbf x9.2.2.2.1 (s_gap rt x9.2.2.2.1 Zs 0 (q 133)) (s_cut P2 0 (q 133) t2 8) (-1)) Zs.toNat ≤ 900
    rw [hsm]; exact h900
  · show some (swc true false cp) = some cp
    rw [swc_hi true false (by omega)]
  · show 0 ≤ q 34
    have := t.1; omega
  · show q 35 - q 34 ≤ 4000
    have := t.2.1; omega
  · obtain ⟨a1, a2, a3, a4, a5⟩ := hEX.1 k hk
    rw [e28, e29, e30, s_zr_lt (by omega), a2, a3]
    refine ⟨by split <;> omega, rfl, rfl, a4, fun z => ?_⟩
    have := (a5 z).1
    rw [if_neg (by omega)]
    exact ⟨rfl, rfl⟩
  · have k1 : (k : Int) < Zs := k1
    have k2 : ¬ x9.2.2.2.1 k = 0 := k2
    obtain ⟨e1, e2, e3, e4, e5, c2, e6, e7⟩ := hobj k k1 k2
    obtain ⟨r1, r2⟩ := hR k k1 k2
    have b1 : 0 ≤ s_sm ln k := by have := s_sm_mono hln (Nat.zero_le k); exact this
    have hT9 := at_Tr (show 0 ≤ s_gap rt x9.2.2.2.1 Zs 0 (q 133) k by omega) r2 e3 e4 e7
    refine ⟨⟨c2, e6, hT9⟩, ?_⟩
    rw [e30, e31, s_zr_lt (by omega), s_zr_lt (by omega)]
    exact ⟨fun z => absurd rfl z, fun z => absurd rfl z.1⟩
  · show s_cut P2 0 (q 133) t2 5 (0 : Int).toNat = 7
    rw [t5]; exact hts.1
