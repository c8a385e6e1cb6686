/-! steps: open succeeds -/
theorem s_last_in (b : Nat → Int) (n f : Int) : s_last b n f = -1 ∨ (0 ≤ s_last b n f ∧ s_last b n f < 1000000000) := by
  unfold s_last s_last1
  split
  · exact Or.inl rfl
  · split
    · rcases s_num_in b n (s_lnum b n (s_lk b n f (n - 9 - f).toNat (n - 9))) with h | h
      · exact Or.inl h
      · exact Or.inr ⟨h.1, h.2.1⟩
    · exact Or.inl rfl
theorem ot_last {b : Nat → Int} {n f : Int} {x : ost} (h : (s_ot b n f x).1 = 0) : 0 ≤ s_last b n f := by
  unfold s_ot at h
  split at h
  · exact absurd (show (1 : Int) = 0 from h) (by decide)
  · split at h
    · exact absurd (show (2 : Int) = 0 from h) (by decide)
    · omega
theorem op_good {Z : xZ} {d : Nat} {n : Nat} {b o : Bool} {q : Nat → Int} {r : Nat → Option Nat} {A : Nat → Nat → Int} {dy : xH} {g : Nat → Option xE} (hd : 60 ≤ d) (hn : n < 512) (hB : ∀ j, -128 ≤ A 2 j ∧ A 2 j ≤ 127) (hI : Inv n q r A dy g) (h133 : 0 ≤ q 133) (gx : Nat → Option xE) (hgx : gok gx dy) {nx mo aw t2 : Int} {pc sm rt : Nat → Int} {P2 : Nat → Nat → Int} {S : otr} (hS : S = (s_ot (A 2) (q 35) (q 34) (s_x0 A (q 362)))) (hF0 : s_fault (A 2) (q 35) (q 34) S = 0) (hS0 : S.1 = 0) (h5 : s_obj5 (A 2) (q 35) (fun k : Int => s_ob1 (A 2) (q 35) (q 34) (S.2.1.2.1 k.toNat) (S.2.1.2.2.1 k.toNat) k) S.2.1.2.2.1 S.2.1.2.2.2.1 S.2.2.1) (ho : s_ok5 P2) (hrt : ∀ j, 0 ≤ rt j ∧ rt j ≤ 12900) (ht2 : t2 = q 133 + S.2.2.2.2.length + s_sm (s_ln (fun k : Int => s_ob1 (A 2) (q 35) (q 34) (S.2.1.2.1 k.toNat) (S.2.1.2.2.1 k.toNat) k) S.2.1.2.2.2.1) (S.2.2.1).toNat) (hat : s_at P2 (q 133).toNat S.2.2.2.2) (hob : ∀ k : Nat, (k : Int) < S.2.2.1 → ¬ S.2.1.2.2.2.1 k = 0 → rt k = q 133 + S.2.2.2.2.length + s_sm (s_ln (fun k : Int => s_ob1 (A 2) (q 35) (q 34) (S.2.1.2.1 k.toNat) (S.2.1.2.2.1 k.toNat) k) S.2.1.2.2.2.1) k ∧ s_at P2 (rt k).toNat (s_fin (A 2) (q 35) (fun k : Int => s_ob1 (A 2) (q 35) (q 34) (S.2.1.2.1 k.toNat) (S.2.1.2.2.1 k.toNat) k) S.2.1.2.2.1 S.2.1.2.2.2.1 S.2.2.1 k)) : xMet Z d Y_M_open [xC 42] (hF (vq b o (x_up (x_up (x_up (x_up (oQ q t2 nx mo S.2.1.2.2.2.2 aw S.2.2.1 S.2.2.2.1 (s_last (A 2) (q 35) (q 34)) (q 133)) 133 (t2 - q 133)) 1032 0) 34 (q 35)) 11 (-1))) (vr b o (x_up (x_up (x_up (x_up (x_up r 7 (some 32)) 8 (some 26)) 9 (some 38)) 10 (some 40)) 359 (some 32))) (vA b o (x_up (s_pt (oA A P2 S.2.1 pc sm rt) (s_cut P2 0 (q 133) t2)) 33 (s_gap rt S.2.1.2.2.2.1 S.2.2.1 0 (q 133)))) ++ dy) (fun v2 h2 => v2 = some (xI 0) ∧ Nx (n + 1) dy (fun u w => 6 * u + 1515 * w + (u + 6 * w) + k_tabs u w (A 2) (q 35) (q 34) 6 0 (s_last (A 2) (q 35) (q 34)) [] (s_x0 A (q 362)) 0 + (u + (q 1349).toNat * w)) 0 h2) := by
  have hI2 := Inv_s hI
  obtain ⟨t, rr, oo, bb, gk, pt, f⟩ := hI
  have h13 := t.2.1
  have h80 := t.1
  have e3 : vq b o (x_up (x_up (x_up (x_up (oQ q t2 nx mo S.2.1.2.2.2.2 aw S.2.2.1 S.2.2.2.1 (s_last (A 2) (q 35) (q 34)) (q 133)) 133 (t2 - q 133)) 1032 0) 34 (q 35)) 11 (-1)) 1349 = q 1349 := by rw [vq_hi b o _ (by omega)]; rfl
  have e4 : vq b o (x_up (x_up (x_up (x_up (oQ q t2 nx mo S.2.1.2.2.2.2 aw S.2.2.1 S.2.2.2.1 (s_last (A 2) (q 35) (q 34)) (q 133)) 133 (t2 - q 133)) 1032 0) 34 (q 35)) 11 (-1)) 1346 = q 1346 := by rw [vq_hi b o _ (by omega)]; rfl
  have e5 : vA b o (x_up (s_pt (oA A P2 S.2.1 pc sm rt) (s_cut P2 0 (q 133) t2)) 33 (s_gap rt S.2.1.2.2.2.1 S.2.2.1 0 (q 133))) 44 = A 44 := by rw [vA_hi b o _ (by omega)]; rfl
  have hm := c_M_open Z d (vq b o (x_up (x_up (x_up (x_up (oQ q t2 nx mo S.2.1.2.2.2.2 aw S.2.2.1 S.2.2.2.1 (s_last (A 2) (q 35) (q 34)) (q 133)) 133 (t2 - q 133)) 1032 0) 34 (q 35)) 11 (-1))) (vr b o (x_up (x_up (x_up (x_up (x_up r 7 (some 32)) 8 (some 26)) 9 (some 38)) 10 (some 40)) 359 (some 32))) (vA b o (x_up (s_pt (oA A P2 S.2.1 pc sm rt) (s_cut P2 0 (q 133) t2)) 33 (s_gap rt S.2.1.2.2.2.1 S.2.2.1 0 (q 133)))) dy (by omega) (A 2) (q 34) gx (s_x0 A (q 362)) (by omega) (by rw [e3]; omega) (fun k hk => by rw [e5]; rw [e3] at hk; exact t.2.2.1 k hk) hB (by rw [e3]; omega) (by rw [e4]; exact bb.2.1) hgx (fun k hk => by
    unfold s_x0
    dsimp only
    rw [s_zr_lt (by omega), s_zr_lt (by omega), s_zr_lt (by omega)]
    exact ⟨rfl, rfl, rfl⟩)
  refine xMet_post ?_ hm
  rintro v h2 ⟨j2, ol2, tk2, dyn2, hj2, hmu, hh⟩
  rw [e3, show q 34 + q 1349 = q 35 by omega, ← hS] at hh
  rw [e3, show q 34 + q 1349 = q 35 by omega] at hmu
  have hPT := ot_PT hB (show (s_ot (A 2) (q 35) (q 34) (s_x0 A (q 362))).1 = 0 by rw [← hS]; exact hS0)
  have hsz := ot_sz hB (show 0 ≤ q 34 by omega) (show (s_ot (A 2) (q 35) (q 34) (s_x0 A (q 362))).1 = 0 by rw [← hS]; exact hS0)
  have hla := ot_last (show (s_ot (A 2) (q 35) (q 34) (s_x0 A (q 362))).1 = 0 by rw [← hS]; exact hS0)
  rw [← hS] at hPT hsz
  have hlb := s_last_in (A 2) (q 35) (q 34)
  rcases hh with ⟨h0, -⟩ | ⟨_, rfl, rfl, g2, c, cb, fb, fis, fge, fpl, fva2, hle, hg2, hnp, hp2, hcb, hfb, htr, hdj, hz, hEX, hnone, hrv⟩
  · exact absurd hF0 h0
  · refine ⟨rfl, ?_⟩
    have hrvs := ((rv_5 hB (n := q 35) (f := q 34) (pl := S.2.1.2.1) (gn := S.2.1.2.2.1) (us := S.2.1.2.2.2.1) (sz := S.2.2.1) (ob := (fun k : Int => s_ob1 (A 2) (q 35) (q 34) (S.2.1.2.1 k.toNat) (S.2.1.2.2.1 k.toNat) k)) rfl).mpr h5).1
    rw [vq_up b o _ (by omega), vq_up b o _ (by omega), vq_up b o _ (by omega), vq_up b o _ (by omega), vr_up b o _ (by omega) (some 44) (fun c hc => by cases hc; omega), vr_up b o _ (by omega) (some (52 + dy.length)) (fun c hc => by cases hc; omega), vr_up b o _ (by omega) none (fun c hc => by cases hc), vA_up b o _ (by omega), hF_sb]
    refine ⟨!b, o, _, _, _, dyn2, g2, rfl, Inv_os (ln := s_ln (fun k : Int => s_ob1 (A 2) (q 35) (q 34) (S.2.1.2.1 k.toNat) (S.2.1.2.2.1 k.toNat) k) S.2.1.2.2.2.1) (fin := fun k => s_fin (A 2) (q 35) (fun k : Int => s_ob1 (A 2) (q 35) (q 34) (S.2.1.2.1 k.toNat) (S.2.1.2.2.1 k.toNat) k) S.2.1.2.2.1 S.2.1.2.2.2.1 S.2.2.1 k) hI2 h133 hz hPT hsz.2.1 (by omega) ho hrt (s_ln_0 _ _) (fun k hk => by unfold s_ln; rw [if_pos hk]) ht2 h5.2.1 hat (fun k k1 k2 => ?_) hEX (by omega) hj2 hg2 hnp hp2 (by rw [h13.1]; exact hcb) (fun k hk => hfb k (by omega)) htr hdj (fun n2 hn2 => ?_), Int.le_refl _, hmu⟩
    · obtain ⟨o1, o2⟩ := hob k k1 k2
      obtain ⟨ts, c2, r1, r2, r3⟩ := hrv k k1 k2
      rw [rv_fin rfl hrvs k1 k2] at r1
      obtain ⟨y, hy⟩ := h5.1 k k1 k2
      have hy2 : s_ob1 (A 2) (q 35) (q 34) (S.2.1.2.1 k) (S.2.1.2.2.1 k) k = some y := hy
      have y1 := (s_ob1_in hB hy2).1
      have y2 := ob1_sp0 hB hy2
      rw [← (s_tks_of (ob := (fun k : Int => s_ob1 (A 2) (q 35) (q 34) (S.2.1.2.1 k.toNat) (S.2.1.2.2.1 k.toNat) k)) (k := (k : Int)) hy).1] at y1 y2
      refine ⟨o1, o2, fin_sp0 y1 y2, by rw [s_fin_len y1]; exact y1, ?_, c2, r2, ?_⟩
      · rw [s_fin_len y1]
        unfold s_ln
        rw [if_neg k2]
      · rw [Option.some.inj r1]; exact r3
    · rw [show s_nam (lsp S.2.2.2.2) (lnm S.2.2.2.2) (A 2) n2 0 [83, 105, 122, 101] = s_nam (lsp S.2.2.2.2) (lnm S.2.2.2.2) (A 2) (q 35) 0 [83, 105, 122, 101] from nam_x (X := A 2) (X2 := A 2) (E := q 35) (E2 := q 35) ⟨Int.le_refl _, fun _ _ => rfl⟩ htr hPT.1 (by decide) (Int.le_refl _) hn2]
      exact hPT.2.1
