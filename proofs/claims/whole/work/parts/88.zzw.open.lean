/-! steps: open fails -/
/-- open fails, for whatever stays -/
theorem op_bad {Z : xZ} {d : Nat} {n : Nat} {b o : Bool} {q : Nat → Int} {r : Nat → Option Nat} {A : Nat → Nat → Int} {dy : xH} {g : Nat → Option xE} (hd : 60 ≤ d) (hn : n < 512) (hB : ∀ j, -128 ≤ A 2 j ∧ A 2 j ≤ 127) (hI : Inv n q r A dy g) (gx : Nat → Option xE) (hgx : gok gx dy) (hbk : ∀ dy2, gok gx dy2 → Inv (n + 1) q r A dy2 g) {x9 : ost} {nx mo hi aw sz tb lt tr F : Int} {pc sm rt : Nat → Int} {P2 : Nat → Nat → Int} (hk : s_keep (q 133).toNat A P2) (ho : s_ok5 P2) (hrt : ∀ j, 0 ≤ rt j ∧ rt j ≤ 12900) (hFe : F = s_fault (A 2) (q 35) (q 34) (s_ot (A 2) (q 35) (q 34) (s_x0 A (q 362)))) (hF0 : ¬ F = 0) : xMet Z d Y_M_open [xC 42] (hF (vq b o (x_up (oQ q (q 133) nx mo hi aw sz tb lt tr) 35 (q 34))) (vr b o (x_up (x_up (x_up (x_up (x_up r 7 (some 26)) 8 (some 32)) 9 (some 38)) 10 (some 40)) 359 (some 32))) (vA b o (oA A P2 x9 pc sm rt)) ++ dy) (fun v2 h2 => v2 = some (xI F) ∧ Nx (n + 1) dy (fun u w => 6 * u + 1515 * w + (u + 6 * w) + k_tabs u w (A 2) (q 35) (q 34) 6 0 (s_last (A 2) (q 35) (q 34)) [] (s_x0 A (q 362)) 0 + (u + (q 1349).toNat * w)) 0 h2) := by
  obtain ⟨t, rr, oo, bb, gk, pt, f⟩ := hI
  have h13 := t.2.1
  have h80 := t.1
  have e3 : vq b o (x_up (oQ q (q 133) nx mo hi aw sz tb lt tr) 35 (q 34)) 1349 = q 1349 := by rw [vq_hi b o _ (by omega)]; rfl
  have e4 : vq b o (x_up (oQ q (q 133) nx mo hi aw sz tb lt tr) 35 (q 34)) 1346 = q 1346 := by rw [vq_hi b o _ (by omega)]; rfl
  have e5 : vA b o (oA A P2 x9 pc sm rt) 44 = A 44 := by rw [vA_hi b o _ (by omega)]; rfl
  have hx := PX_0 A (q 362) 0
  have hm := c_M_open Z d (vq b o (x_up (oQ q (q 133) nx mo hi aw sz tb lt tr) 35 (q 34))) (vr b o (x_up (x_up (x_up (x_up (x_up r 7 (some 26)) 8 (some 32)) 9 (some 38)) 10 (some 40)) 359 (some 32))) (vA b o (oA A P2 x9 pc sm rt)) dy (by omega) (A 2) (q 34) gx (s_x0 A (q 362)) (by omega) (by rw [e3]; omega) (fun k hk => by rw [e5]; rw [e3] at hk; exact t.2.2.1 k hk) hB (by rw [e3]; omega) (by rw [e4]; exact bb.2.1) hgx (fun k hk => by
    unfold s_x0
    dsimp only
    rw [s_zr_lt (by omega), s_zr_lt (by omega), s_zr_lt (by omega)]
    exact ⟨rfl, rfl, rfl⟩)
  refine xMet_post ?_ hm
  rintro v h2 ⟨j2, ol2, tk2, dyn2, hj2, hmu, hh⟩
  rw [e3, show q 34 + q 1349 = q 35 by omega] at hh hmu
  rcases hh with ⟨_, rfl, rfl, hg2⟩ | ⟨h0, _⟩
  · refine ⟨by rw [hFe], ?_⟩
    rw [vq_up b o _ (by omega), vq_up b o _ (by omega), vq_up b o _ (by omega), vq_up b o _ (by omega), vr_up b o _ (by omega) (some 44) (fun c hc => by cases hc; omega), vA_up b o _ (by omega)]
    exact ⟨b, o, _, _, _, dyn2, g, rfl, Inv_of (hbk dyn2 hg2) hk ho hrt hj2, Int.le_refl _, hmu⟩
  · exact absurd (hFe.trans h0) hF0
