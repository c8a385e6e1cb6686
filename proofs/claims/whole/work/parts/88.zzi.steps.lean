/-! steps: the text grows -/
theorem nmw_xx {X X2 : Nat → Int} {E E2 u : Int} {len : Nat} {fb : Nat → Int} (hx : xle X X2 E E2) (h : nmw X E u len fb) : nmw X2 E2 u len fb := by
  obtain ⟨h1, h2, h3, h4, h5, h6⟩ := h
  have := hx.1
  refine ⟨h1, h2, h3, by omega, fun k hk => ?_, ?_⟩
  · rw [hx.2 (u.toNat + k) (by omega)]; exact h5 k hk
  · rw [hx.2 (u.toNat + len) (by omega)]; exact h6
theorem nam_x {X X2 : Nat → Int} {E E2 : Int} {g : Nat → Option xE} {P : Nat → Nat → Int} {D : Nat} {p : Int} {c : Nat} (hx : xle X X2 E E2) (ht : Tr X E g P (D + 1) p c) (hk : P 5 p.toNat = 7) {cs : List Int} (hcs : ∀ c, c ∈ cs → s_reg c = true) {n1 n2 : Int} (h1 : E ≤ n1) (h2 : E2 ≤ n2) : s_nam (P 8) (P 9) X2 n2 p cs = s_nam (P 8) (P 9) X n1 p cs := by
  have ht2 := Tr_x hx _ _ _ ht
  obtain ⟨_, _, _, _, _, _, _, _, _, _, _, _, hK⟩ := Tr_o ht
  obtain ⟨_, x, y, m, bt, it, nm, hc, hL, hm, h60, hch, hK2⟩ := Tr_o ht2
  obtain ⟨ci, cn, cap, cap2, fi, fn, nb, nl, nf, b1, b2, b3, b4, b5, b6, b7, b8, b9, b10, b11⟩ := tK_names hK (Or.inl hk)
  unfold s_nam
  have key : ∀ L : List Int, (∀ z, z ∈ L → z ∈ s_in (P 8) p) → s_first (fun t => decide (0 ≤ s_the X2 n2 (P 9 t.toNat) cs)) L = s_first (fun t => decide (0 ≤ s_the X n1 (P 9 t.toNat) cs)) L := by
    intro L
    induction L with
    | nil => intro _; rfl
    | cons z l ih =>
      intro hz
      obtain ⟨j, hj, e⟩ := List.getElem_of_mem (hz z List.mem_cons_self)
      have e2 : (s_in (P 8) p).getD j 0 = z := by rw [List.getD_eq_getElem?_getD, List.getElem?_eq_getElem hj]; exact e
      have g1 := (b11 j hj).2.2
      rw [e2] at g1
      have g2 : nmw X2 E2 (P 9 z.toNat) (nl j) (nf j) := nmw_xx hx g1
      have k1 := nmw_the g1 h1 hcs
      have k2 := nmw_the g2 h2 hcs
      show (if decide (0 ≤ s_the X2 n2 (P 9 z.toNat) cs) = true then z else _) = (if decide (0 ≤ s_the X n1 (P 9 z.toNat) cs) = true then z else _)
      rw [← k2, ← k1, ih (fun y hy => hz y (List.mem_cons_of_mem _ hy))]
  exact key _ (fun z hz => hz)
theorem iP_t {q : Nat → Int} {r : Nat → Option Nat} {A : Nat → Nat → Int} {g : Nat → Option xE} {f2 : Nat → Int} {e4 : Int} (h : iP q r A g) (hx : xle (A 2) f2 (q 34) e4) : iP (x_up q 34 e4) r (x_up A 2 f2) g := by
  rcases h with h | ⟨h1, c, h2, h3⟩
  · exact Or.inl h
  · exact Or.inr ⟨h1, c, h2, Tr_x hx _ _ _ h3⟩
theorem iF_t {q : Nat → Int} {r : Nat → Option Nat} {A : Nat → Nat → Int} {dy : xH} {g : Nat → Option xE} {f2 : Nat → Int} {e4 : Int} {cp cb ct : Nat} {fis fge fpl : Nat → Int} {fva : Nat → Option Nat} {fch fb : Nat → Int} (h : iF q r A dy g cp cb ct fis fge fpl fva fch fb) (hx : xle (A 2) f2 (q 34) e4) : iF (x_up q 34 e4) r (x_up A 2 f2) dy g cp cb ct fis fge fpl fva fch fb := by
  obtain ⟨f1, f2', f3, f4, f5, f6, f7, f8, f9, f10, f11⟩ := h
  refine ⟨f1, f2', f3, ⟨f4.1, fun k hk => ?_⟩, ⟨f5.1, f5.2.1, ?_, f5.2.2.2⟩, f6, f7, f8, f9, fun k k1 k2 => ?_, Tr_x hx _ _ _ f11.1, f11.2.1, f11.2.2.1, fun n2 hn2 => ?_⟩
  · have hk : (k : Int) < q 842 - q 841 := hk
    have e1 := f4.2 k hk
    rw [e1]
    exact (hx.2 ((q 841).toNat + k) (by omega)).symm
  · show q 842 ≤ e4
    have := hx.1
    omega
  · obtain ⟨⟨c2, a1, a2⟩, a3⟩ := f10 k k1 k2
    exact ⟨⟨c2, a1, Tr_x hx _ _ _ a2⟩, a3⟩
  · have e1 := nam_x hx f11.1 f11.2.1 (cs := [83, 105, 122, 101]) (by decide) (n1 := q 34) (Int.le_refl _) (n2 := n2) hn2
    have e2 := f11.2.2.2 (q 34) (Int.le_refl _)
    rw [← e1] at e2
    exact e2
theorem st_feed {Z : xZ} {d : Nat} {n : Nat} {b o : Bool} {q : Nat → Int} {r : Nat → Option Nat} {A : Nat → Nat → Int} {dy : xH} {g : Nat → Option xE} (hd : 60 ≤ d) (hn : n < 512) (hI : Inv n q r A dy g) (a1 a2 a3 a4 a5 : Int) : Bth Z d Y_PF_feed Y_M_feed [xI a1, xI a2, xI a3, xI a4, xI a5] (hF (vq b o q) (vr b o r) (vA b o A) ++ dy) (Nx (n + 1) dy (fun u w => u + 5 * w) (q 1349 + 20)) := by
  have hRC := Inv_RC hI
  have hI1 := Inv_s hI
  have hI0 := hI
  obtain ⟨t, rr, oo, bb, gk, pt, f⟩ := hI
  have et : x_up q 1349 (q 35 - q 34) = q := x_up_id t.2.1.1.symm
  have hT : 0 ≤ q 34 ∧ q 34 ≤ q 35 ∧ q 35 ≤ 10248 := by have := t.1; omega
  have hc := c_PF_feed Z d q r A (vd b o dy) (by omega) a1 a2 a3 a4 a5 hT
  rw [hRC] at hc
  refine bth_view b o rfl hc (fun v h2 hh => ?_)
  have h13 := t.2.1
  have h80 := t.1.1
  rcases hh with ⟨hn2, rfl, rfl⟩ | ⟨hn2, rfl, f2, rfl, hf2, hf3⟩
  · refine ⟨-3, q, r, A, rfl, rfl, ?_⟩
    refine xMet_post ?_ (c_M_feed Z d (vq b o q) (vr b o r) (vA b o A) dy a1 a2 a3 a4 a5 (by rw [vq_hi b o q (by omega)]; omega))
    rw [vq_hi b o q (by omega)]
    rintro v h2 (⟨_, rfl, rfl⟩ | ⟨h0, _⟩)
    · exact ⟨rfl, Nx_i hI1 (by omega)⟩
    · have := t.1; omega
  · refine ⟨q 35 - q 34 + 20, x_up q 35 (q 35 + 20), r, x_up A 2 f2, rfl, rfl, ?_⟩
    refine xMet_post ?_ (c_M_feed Z d (vq b o (x_up q 35 (q 35 + 20))) (vr b o r) (vA b o (x_up A 2 f2)) dy a1 a2 a3 a4 a5 (by rw [vq_hi b o _ (by omega), x_up_n q _ (by omega : (1349 : Nat) ≠ 35)]; omega))
    rw [vq_hi b o _ (by omega), x_up_n q _ (by omega : (1349 : Nat) ≠ 35), vA_hi b o _ (by omega)]
    rintro v h2 (⟨h0, _⟩ | ⟨_, rfl, f4, F4, rfl, hf4, hf5⟩)
    · omega
    · refine ⟨by rw [h13.1], ?_⟩
      rw [vq_up b o _ (by omega), vA_up b o _ (by omega)]
      have hx : xle (A 2) f2 (q 34) (q 34) := ⟨Int.le_refl _, fun k hk => hf2 k (by omega)⟩
      refine ⟨b, o, _, r, _, _, g, rfl, ⟨⟨⟨t.1.1, ?_, ?_⟩, ⟨?_, ?_⟩, fun k hk => ?_, fun k hk => ?_, ?_, t.2.2.2.2.2⟩, rr, oo, bb, gok_app gk _, ?_, ?_⟩, Int.le_refl _, fun u w => ?_⟩
      · show q 34 ≤ q 35 + 20
        omega
      · show q 35 + 20 ≤ 8 + 20 * ((n + 1 : Nat) : Int)
        have := t.1
        omega
      · show q 35 + 20 - q 34 = q 1349 + 20
        omega
      · show q 1349 + 20 ≤ 4000
        omega
      · have hk : (k : Int) < q 1349 + 20 := hk
        show f4 k = f2 ((q 34).toNat + k)
        by_cases c1 : (k : Int) < q 1349
        · rw [hf4 k c1, hf2 _ (by omega)]
          exact t.2.2.1 k c1
        · have e1 := hf5 (k - (q 1349).toNat) (by omega)
          have e2 := hf3 (k - (q 1349).toNat) (by omega)
          rw [show (q 1349).toNat + (k - (q 1349).toNat) = k by omega] at e1
          rw [show (q 35).toNat + (k - (q 1349).toNat) = (q 34).toNat + k by omega] at e2
          rw [e1, e2]
      · show f2 k = _
        rw [hf2 k (by omega)]
        exact t.2.2.2.1 k hk
      · show s_reg (f2 6) = false
        rw [hf2 6 (by omega)]
        exact t.2.2.2.2.1
      · have p9 := iP_t pt hx
        exact p9
      · rcases f with f | ⟨l, cp, cb, ct, fis, fge, fpl, fva, fch, fb, f⟩
        · exact Or.inl f
        · have f9 := iF_t f hx
          obtain ⟨g1, g2, g3⟩ := f9
          exact Or.inr ⟨l, cp, cb, ct, fis, fge, fpl, fva, fch, fb, g1, PB_app g2 _, g3⟩
      · rw [mu_app, mu_cons, mu_nil]
        show mu u w dy + (u + w * 5 + 0) ≤ mu u w dy + (u + 5 * w)
        omega
