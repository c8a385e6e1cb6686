/-! step: open -/
theorem open_gx {n : Nat} {q : Nat → Int} {r : Nat → Option Nat} {A : Nat → Nat → Int} {dy : xH} {g : Nat → Option xE} (hI : Inv n q r A dy g) : ∃ gx : Nat → Option xE, gok gx dy ∧ ∀ dy2, gok gx dy2 → Inv n q r A dy2 g := by
  obtain ⟨t, rr, oo, bb, gk, pt, f⟩ := hI
  rcases f with f | ⟨l, cp, cb, c, fis, fge, fpl, fva, fch, fb, f1, f2, f3, f4⟩
  · exact ⟨g, gk, fun dy2 h2 => ⟨t, rr, oo, bb, h2, pt, Or.inl f⟩⟩
  · refine ⟨_, gfx_ok gk f2.1 f2.2.1 f2.2.2.1 f2.2.2.2.1 f2.2.2.2.2.1 f2.2.2.2.2.2, fun dy2 h2 => ?_⟩
    have hk := gfx_bk f3 h2
    exact ⟨t, rr, oo, bb, hk.1, pt, Or.inr ⟨l, cp, cb, c, fis, fge, fpl, fva, fch, fb, f1, hk.2, f3, f4⟩⟩
theorem open_133 {n : Nat} {q : Nat → Int} {r : Nat → Option Nat} {A : Nat → Nat → Int} {dy : xH} {g : Nat → Option xE} (hI : Inv n q r A dy g) : 0 ≤ q 133 ∧ q 133 ≤ 4445 := by
  obtain ⟨t, rr, oo, bb, gk, pt, f⟩ := hI
  rcases f with f | ⟨l, -⟩
  · have := f.2.2.2.2.1; omega
  · obtain ⟨-, l2, -, -, l5, l6⟩ := l
    omega
theorem st_open {Z : xZ} {d : Nat} {n : Nat} {b o : Bool} {q : Nat → Int} {r : Nat → Option Nat} {A : Nat → Nat → Int} {dy : xH} {g : Nat → Option xE} (hd : 60 ≤ d) (hn : n < 512) (hI : Inv n q r A dy g) : Bth Z d Y_PF_open Y_M_open [] (hF (vq b o q) (vr b o r) (vA b o A) ++ dy) (Nx (n + 1) dy (fun u w => 6 * u + 1515 * w + (u + 6 * w) + k_tabs u w (A 2) (q 35) (q 34) 6 0 (s_last (A 2) (q 35) (q 34)) [] (s_x0 A (q 362)) 0 + (u + (q 1349).toNat * w)) 0) := by
  refine bth_ok (fun hok => ?_)
  obtain ⟨h29, h30, hB⟩ := ok_A hok
  have hRC := Inv_RC hI
  have hI1 := Inv_s hI
  have h133 := open_133 hI
  obtain ⟨gx, hgx, hbk⟩ := open_gx hI1
  have hI0 := hI
  obtain ⟨t, rr, oo, bb, gk, pt, f⟩ := hI
  have hc := c_PF_open Z d q r A (vd b o dy) (by omega) (by have := t.1; omega) (by have := t.2.1; omega) t.2.2.2.2.2 hB bb.1 h133 bb.2.2.2.2.2
  rw [show hF q (x_up (x_up (x_up (x_up r 7 (some 26)) 8 (some 32)) 9 (some 38)) 10 (some 40)) A = hF q r A by rw [hRC]] at hc
  refine bth_view b o rfl hc (fun v h2 hh => ?_)
  rcases hh with ⟨h0, rfl, x9, aw, nx, mo, sz, tb, lt, tr, pc, sm, rt, P2, rfl, hk, ho, hrt⟩ | ⟨h0, rfl, h1, h5, aw, nx, mo, t2, pc, sm, rt, P2, rfl, ho, hrt, ht2, _, hat, hob⟩
  · exact ⟨_, _, _, _, rfl, rfl, op_bad hd hn hB hI0 gx hgx hbk hk ho hrt rfl h0⟩
  · rw [show q 133 - (if 0 < q 133 then q 133 else 0) = 0 by split <;> omega]
    exact ⟨_, _, _, _, rfl, rfl, op_good hd hn hB hI0 h133.1 gx hgx rfl h0 h1 h5 ho hrt ht2 hat hob⟩
