/-! steps: decode, pages -/
theorem dq_self (q : Nat → Int) : dq q q = q := by
  unfold dq
  rw [x_up_same, x_up_same, x_up_same, x_up_same, x_up_same, x_up_same, x_up_same, x_up_same]
theorem dw_self (A : Nat → Nat → Int) : dw A A = A := by
  unfold dw
  rw [x_up_same, x_up_same]
theorem dr_eq {r : Nat → Option Nat} {S S2 c : Nat} (h1 : r 578 = some S) (h2 : r 579 = some S2) (h3 : r 580 = some c) : dr r S S2 c = r := by
  unfold dr
  rw [← h1, x_up_same, ← h2, x_up_same, ← h3, x_up_same]
theorem Inv_dec {n : Nat} {q u2 : Nat → Int} {r : Nat → Option Nat} {A w2 : Nat → Nat → Int} {dy : xH} {g : Nat → Option xE} {S T c : Nat} {mn : Int} {f46 f47 : Nat → Int} (h : Inv n q r A dy g) (hd : dcf S T c) : Inv n (x_up (dq q u2) 1357 mn) (x_up (x_up (x_up (x_up (dr r S T c) 7 (some 26)) 8 (some 32)) 9 (some 38)) 10 (some 40)) (x_up (x_up (dw A w2) 46 f46) 47 f47) dy g := by
  obtain ⟨t, rr, oo, bb, gk, pt, f⟩ := h
  exact ⟨t, ⟨⟨rfl, rfl, rfl, rfl⟩, S, T, c, hd, rfl, rfl, rfl⟩, oo, bb, gk, pt, f⟩
theorem Inv_dec2 {n : Nat} {q u2 : Nat → Int} {r : Nat → Option Nat} {A w2 : Nat → Nat → Int} {dy : xH} {g : Nat → Option xE} {S T c : Nat} {mn m : Int} {f46 f47 f2 f3 : Nat → Int} (h : Inv n q r A dy g) (hd : dcf S T c) (hm : 0 ≤ m ∧ m ≤ 6000) (hf : ∀ k : Nat, (k : Int) < m → f2 k = f3 k) : Inv n (x_up (x_up (x_up (x_up (x_up (dq q u2) 1217 m) 1218 0) 1219 6000) 1357 mn) 1353 m) (x_up (x_up (x_up (x_up (dr r S T c) 7 (some 26)) 8 (some 32)) 9 (some 38)) 10 (some 40)) (x_up (x_up (x_up (x_up (dw A w2) 39 f2) 46 f46) 47 f47) 45 f3) dy g := by
  obtain ⟨t, rr, oo, bb, gk, pt, f⟩ := h
  exact ⟨t, ⟨⟨rfl, rfl, rfl, rfl⟩, S, T, c, hd, rfl, rfl, rfl⟩, ⟨rfl, hm, hf⟩, bb, gk, pt, f⟩
theorem st_decode {Z : xZ} {d : Nat} {n : Nat} {b o : Bool} {q : Nat → Int} {r : Nat → Option Nat} {A : Nat → Nat → Int} {dy : xH} {g : Nat → Option xE} (hd : 60 ≤ d) (hn : n < 512) (hI : Inv n q r A dy g) : Bth Z d Y_PF_decode Y_M_decode [] (hF (vq b o q) (vr b o r) (vA b o A) ++ dy) (Nx (n + 1) dy (fun _ _ => 0) (q 1349)) := by
  have hRC := Inv_RC hI
  have hI1 := Inv_s hI
  have hI0 := hI
  obtain ⟨t, rr, oo, bb, gk, pt, f⟩ := hI
  have et : x_up q 1349 (q 35 - q 34) = q := x_up_id t.2.1.1.symm
  have hT : 0 ≤ q 34 ∧ q 34 ≤ q 35 ∧ q 35 ≤ 10248 := by have := t.1; omega
  have hfo : ∀ c, r 1350 = some c → 42 ≤ c := fun c hc => by
    rcases f with f | ⟨l, cp, cb, ct, fis, fge, fpl, fva, fch, fb, f⟩
    · rw [f.1] at hc; cases hc
    · rw [f.1] at hc; cases hc; have := f.2.1.1.1; omega
  rcases pt with ⟨p1, p2⟩ | ⟨⟨p11, p12, p13, p14⟩, c, p2, p3⟩
  · have hc := c_PF_decodeN Z d q r A (vd b o dy) (by omega)
    rw [hRC] at hc
    have hm := c_M_decodeN Z d (vq b o q) (vr b o r) (vA b o A) dy (r 1350)
    rw [vr_pt (b := b) (o := o) rfl p2 hfo (fun c hc => by cases hc)] at hm
    refine bth_eq rfl hc (xMet_post ?_ hm)
    rintro v h2 ⟨rfl, rfl⟩
    exact ⟨rfl, Nx_i hI1⟩
  · have hcc := Tr_52 gk p3
    have p1 : 0 ≤ q 11 ∧ q 11 < 12900 ∧ s_bh (A 8) (q 11) ≤ 12900 := ⟨p11, p12, p13⟩
    obtain ⟨S, S2, c0, hcf, s1, s2, s3⟩ := rr.2
    have hc := c_PF_decode Z d q r A (vd b o dy) (by omega) q A S S2 c0 hcf hT t.2.2.2.2.2 bb.1.1 p1 (q 34) g c p3 (by omega)
    rw [dq_self, dw_self, dr_eq s1 s2 s3, hRC] at hc
    refine bth_view b o rfl hc (fun v h2 hh => ?_)
    rcases hh with ⟨k9, rfl, rfl⟩ | ⟨k9, u2, w2, S9, T9, c9, hcf9, ⟨hs, rfl, rfl⟩ | ⟨b2, f2, hs, hl, rfl, rfl, hf2⟩⟩
    · refine ⟨-2, q, r, A, rfl, rfl, ?_⟩
      have hm := c_M_decode Z d (vq b o q) (vr b o r) (vr b o r) (vA b o A) dy (by omega) (A 2) (q 34) g A gk 8 (by omega) (q 11) c p3 (r 1350) (vr_pt (b := b) (o := o) rfl p2 hfo (fun c2 hc2 => by cases hc2; omega)).symm (q 35) (by omega)
      refine xMet_post ?_ hm
      rintro v h2 (⟨_, rfl, rfl⟩ | ⟨h0, _⟩)
      · exact ⟨rfl, Nx_i hI1⟩
      · exact absurd h0 k9
    · refine ⟨-4, _, _, _, rfl, rfl, ?_⟩
      have hm := c_M_decode Z d (vq b o (dq q u2)) (vr b o (x_up (x_up (x_up (x_up (dr r S9 T9 c9) 7 (some 26)) 8 (some 32)) 9 (some 38)) 10 (some 40))) (vr b o (x_up (x_up (x_up (x_up (dr r S9 T9 c9) 7 (some 26)) 8 (some 32)) 9 (some 38)) 10 (some 40))) (vA b o (dw A w2)) dy (by omega) (A 2) (q 34) g A gk 8 (by omega) (q 11) c p3 (r 1350) (vr_pt (b := b) (o := o) (r := (x_up (x_up (x_up (x_up (dr r S9 T9 c9) 7 (some 26)) 8 (some 32)) 9 (some 38)) 10 (some 40))) rfl p2 hfo (fun c2 hc2 => by cases hc2; omega)).symm (q 35) (by omega)
      refine xMet_post ?_ hm
      rintro v h2 (⟨h0, _⟩ | ⟨_, mn, f46, f47, ⟨_, rfl, rfl⟩ | ⟨b2, _, h0, _⟩⟩)
      · exact absurd k9 h0
      · refine ⟨rfl, ?_⟩
        rw [vq_up b o _ (by omega), vA_up b o _ (by omega), vA_up b o _ (by omega)]
        exact Nx_i (Inv_dec hI1 hcf9)
      · rw [hs] at h0; cases h0
    · refine ⟨(b2.length : Int), _, _, _, rfl, rfl, ?_⟩
      have hm := c_M_decode Z d (vq b o (x_up (x_up (x_up (dq q u2) 1217 (b2.length : Int)) 1218 0) 1219 6000)) (vr b o (x_up (x_up (x_up (x_up (dr r S9 T9 c9) 7 (some 26)) 8 (some 32)) 9 (some 38)) 10 (some 40))) (vr b o (x_up (x_up (x_up (x_up (dr r S9 T9 c9) 7 (some 26)) 8 (some 32)) 9 (some 38)) 10 (some 40))) (vA b o (x_up (dw A w2) 39 f2)) dy (by omega) (A 2) (q 34) g A gk 8 (by omega) (q 11) c p3 (r 1350) (vr_pt (b := b) (o := o) (r := (x_up (x_up (x_up (x_up (dr r S9 T9 c9) 7 (some 26)) 8 (some 32)) 9 (some 38)) 10 (some 40))) rfl p2 hfo (fun c2 hc2 => by cases hc2; omega)).symm (q 35) (by omega)
      refine xMet_post ?_ hm
      rintro v h2 (⟨h0, _⟩ | ⟨_, mn, f46, f47, ⟨h0, _⟩ | ⟨b3, f45, h0, hl3, rfl, rfl, hf3⟩⟩)
      · exact absurd k9 h0
      · rw [hs] at h0; cases h0
      · rw [hs] at h0
        cases h0
        refine ⟨rfl, ?_⟩
        rw [vq_up b o _ (by omega), vq_up b o _ (by omega), vA_up b o _ (by omega), vA_up b o _ (by omega), vA_up b o _ (by omega)]
        exact Nx_i (Inv_dec2 hI1 hcf9 (by omega) (fun j hj => by rw [hf2 j (by omega)]; exact (hf3 j (by omega)).symm))
theorem Inv_pg {n : Nat} {q : Nat → Int} {r : Nat → Option Nat} {A : Nat → Nat → Int} {dy : xH} {g : Nat → Option xE} {fd fd2 : Int} {nu sn sn2 nu2 : Nat → Int} (h : Inv n q r A dy g) : Inv n (x_up (x_up q 737 fd) 1364 fd2) (x_up (x_up (x_up (x_up (x_up r 740 (some 26)) 7 (some 26)) 8 (some 32)) 9 (some 38)) 10 (some 40)) (x_up (x_up (x_up (x_up A 24 nu) 25 sn) 50 sn2) 51 nu2) dy g := by
  obtain ⟨t, rr, oo, bb, gk, pt, f⟩ := h
  obtain ⟨S, T, c, hd, s1, s2, s3⟩ := rr.2
  exact ⟨t, ⟨⟨rfl, rfl, rfl, rfl⟩, S, T, c, hd, s1, s2, s3⟩, oo, bb, gk, pt, f⟩
theorem st_pages {Z : xZ} {d : Nat} {n : Nat} {b o : Bool} {q : Nat → Int} {r : Nat → Option Nat} {A : Nat → Nat → Int} {dy : xH} {g : Nat → Option xE} (hd : 60 ≤ d) (hn : n < 512) (hI : Inv n q r A dy g) : Bth Z d Y_PF_pages Y_M_pages [] (hF (vq b o q) (vr b o r) (vA b o A) ++ dy) (Nx (n + 1) dy (fun _ _ => 0) (q 1349)) := by
  have hRC := Inv_RC hI
  have hI1 := Inv_s hI
  have hI0 := hI
  obtain ⟨t, rr, oo, bb, gk, pt, f⟩ := hI
  have et : x_up q 1349 (q 35 - q 34) = q := x_up_id t.2.1.1.symm
  rcases f with f | ⟨l, cp, cb, ct, fis, fge, fpl, fva, fch, fb, f⟩
  · have hr1 := iP_no pt f.2.2.2.2.2.2
    have er := vr_no (b := b) (o := o) f.1 hr1
    have hc := c_PF_pages Z d q r A (vd b o dy) (by omega) (by have := t.1; omega) (by have := f.2.1; omega) t.2.2.2.2.2 bb.1.1 (fun k k1 k2 => absurd k1 (by have := f.2.1; omega)) (fun z => absurd z (by have := f.2.1; omega))
    rw [hRC] at hc
    have hm := c_M_pagesN Z d (vq b o q) (vr b o r) (vA b o A) dy none
    rw [er] at hm
    refine bth_eq (z := -2) rfl (xMet_post ?_ hc) (xMet_post ?_ hm)
    · rintro v h2 (⟨_, rfl, rfl⟩ | ⟨h0, _⟩)
      · exact ⟨rfl, rfl⟩
      · have := f.2.1; omega
    · rintro v h2 ⟨rfl, rfl⟩
      exact ⟨rfl, Nx_i hI1⟩
  · obtain ⟨f1, f2, f3, f4, f5, f6, f7, f8, f9, f10, f11⟩ := f
    obtain ⟨l1, l2, l3⟩ := iL_f l
    have hcp : 52 ≤ cp := f2.1.1
    have hT : 0 ≤ q 34 ∧ q 34 ≤ q 35 ∧ q 35 ≤ 10248 := by have := t.1; omega
    have hus : ∀ k : Nat, (k : Int) < q 837 → (fis k = 2 ↔ ¬ A 29 k = 0) ∧ A 28 k = fge k := fun k hk => ⟨(f8 k (by omega)).1, (f8 k (by omega)).2.1.symm⟩
    have hva : ∀ k : Nat, (k : Int) < q 837 → ¬ A 29 k = 0 → ∃ c2, fva k = some c2 ∧ Tr (A 2) (q 34) g A 9 (A 27 k) c2 := fun k k1 k2 => (f10 k k1 k2).1
    have hfc : ∀ c, some cp = some c → 42 ≤ c := fun c hc => by cases hc; omega
    have hwv : ∀ k : Nat, (k : Int) < q 837 → ¬ A 29 k = 0 → wv (A 5) (A 6) (A 7) (A 8) (A 9) (A 2) (q 35) 8 (A 27 k) := fun k k1 k2 => by
      obtain ⟨c2, _, e2⟩ := hva k k1 k2
      exact Tr_wv ⟨by omega, by omega⟩ 8 _ c2 e2 (l2 k k1 k2).2.2.1
    have htw : wv (A 5) (A 6) (A 7) (A 8) (A 9) (A 2) (q 35) 8 (q 840) := Tr_wv ⟨by omega, by omega⟩ 8 _ ct f11.1 l3.2.2
    have hpc : ∀ c, r 1351 = some c → 42 ≤ c := fun c hc => by
      rcases pt with ⟨_, z⟩ | ⟨_, c2, z, zt⟩
      · rw [z] at hc; cases hc
      · rw [z] at hc; cases hc; have := Tr_52 gk zt; omega
    have hc := c_PF_pages Z d q r A (vd b o dy) (by omega) hT (by omega) t.2.2.2.2.2 bb.1.1 hwv (fun _ => htw)
    rw [hRC] at hc
    refine bth_view b o rfl hc (fun v h2 hh => ?_)
    rcases hh with ⟨h0, _⟩ | ⟨_, sn2, nu2, fd2, rfl, hh⟩
    · omega
    · have hm := c_M_pages Z d (vq b o (x_up q 737 fd2)) (vr b o (x_up (x_up (x_up (x_up (x_up r 740 (some 26)) 7 (some 26)) 8 (some 32)) 9 (some 38)) 10 (some 40))) (vA b o (x_up (x_up A 24 nu2) 25 sn2)) dy (by omega) (r 1351) (A 2) (q 34) g A gk cp (some cb) (q 838) (q 839) ct (q 837) fis fge fpl fva fch f2 (by omega) (A 27) (A 29) (A 28) hus hva (q 35) (by omega) (q 840) f11.1
      rw [vr_pt (b := b) (o := o) (r := (x_up (x_up (x_up (x_up (x_up r 740 (some 26)) 7 (some 26)) 8 (some 32)) 9 (some 38)) 10 (some 40))) (po := r 1351) f1 rfl hfc hpc] at hm
      rcases hh with ⟨L2, hL, rfl⟩ | ⟨hL, rfl⟩
      · refine ⟨(L2.length : Int), _, _, _, rfl, rfl, xMet_post ?_ hm⟩
        rintro v h2 ⟨sn3, nu3, fd3, rfl, ⟨L3, h0, rfl, _⟩ | ⟨h0, _⟩⟩
        · rw [hL] at h0
          cases h0
          refine ⟨rfl, ?_⟩
          rw [vq_up b o _ (by omega), vA_up b o _ (by omega), vA_up b o _ (by omega)]
          exact Nx_i (Inv_pg hI1)
        · rw [hL] at h0; cases h0
      · refine ⟨-4, _, _, _, rfl, rfl, xMet_post ?_ hm⟩
        rintro v h2 ⟨sn3, nu3, fd3, rfl, ⟨L3, h0, _⟩ | ⟨_, rfl⟩⟩
        · rw [hL] at h0; cases h0
        · refine ⟨rfl, ?_⟩
          rw [vq_up b o _ (by omega), vA_up b o _ (by omega), vA_up b o _ (by omega)]
          exact Nx_i (Inv_pg hI1)
theorem st_page {Z : xZ} {d : Nat} {n : Nat} {b o : Bool} {q : Nat → Int} {r : Nat → Option Nat} {A : Nat → Nat → Int} {dy : xH} {g : Nat → Option xE} (hd : 60 ≤ d) (hn : n < 512) (hI : Inv n q r A dy g) (a : Int) : Bth Z d Y_PF_page Y_M_page [xI a] (hF (vq b o q) (vr b o r) (vA b o A) ++ dy) (Nx (n + 1) dy (fun _ _ => 0) (q 1349)) := by
  have hRC := Inv_RC hI
  have hI1 := Inv_s hI
  have hI0 := hI
  obtain ⟨t, rr, oo, bb, gk, pt, f⟩ := hI
  have et : x_up q 1349 (q 35 - q 34) = q := x_up_id t.2.1.1.symm
  rcases f with f | ⟨l, cp, cb, ct, fis, fge, fpl, fva, fch, fb, f⟩
  · have hr1 := iP_no pt f.2.2.2.2.2.2
    have er := vr_no (b := b) (o := o) f.1 hr1
    have hc := c_PF_page Z d q r A (vd b o dy) (by omega) a (by have := t.1; omega) (by have := f.2.1; omega) t.2.2.2.2.2 bb.1.1 (fun k k1 k2 => absurd k1 (by have := f.2.1; omega)) (fun z => absurd z (by have := f.2.1; omega))
    rw [hRC] at hc
    have hm := c_M_pageN Z d (vq b o q) (vr b o r) (vA b o A) dy (by omega) none a
    rw [er] at hm
    refine bth_eq (z := -2) rfl (xMet_post ?_ hc) (xMet_post ?_ hm)
    · rintro v h2 (⟨_, rfl, rfl⟩ | ⟨h0, _⟩)
      · exact ⟨rfl, rfl⟩
      · have := f.2.1; omega
    · rintro v h2 ⟨rfl, rfl⟩
      exact ⟨rfl, Nx_i hI1⟩
  · obtain ⟨f1, f2, f3, f4, f5, f6, f7, f8, f9, f10, f11⟩ := f
    obtain ⟨l1, l2, l3⟩ := iL_f l
    have hcp : 52 ≤ cp := f2.1.1
    have hT : 0 ≤ q 34 ∧ q 34 ≤ q 35 ∧ q 35 ≤ 10248 := by have := t.1; omega
    have hus : ∀ k : Nat, (k : Int) < q 837 → (fis k = 2 ↔ ¬ A 29 k = 0) ∧ A 28 k = fge k := fun k hk => ⟨(f8 k (by omega)).1, (f8 k (by omega)).2.1.symm⟩
    have hva : ∀ k : Nat, (k : Int) < q 837 → ¬ A 29 k = 0 → ∃ c2, fva k = some c2 ∧ Tr (A 2) (q 34) g A 9 (A 27 k) c2 := fun k k1 k2 => (f10 k k1 k2).1
    have hfc : ∀ c, some cp = some c → 42 ≤ c := fun c hc => by cases hc; omega
    have hwv : ∀ k : Nat, (k : Int) < q 837 → ¬ A 29 k = 0 → wv (A 5) (A 6) (A 7) (A 8) (A 9) (A 2) (q 35) 8 (A 27 k) := fun k k1 k2 => by
      obtain ⟨c2, _, e2⟩ := hva k k1 k2
      exact Tr_wv ⟨by omega, by omega⟩ 8 _ c2 e2 (l2 k k1 k2).2.2.1
    have htw : wv (A 5) (A 6) (A 7) (A 8) (A 9) (A 2) (q 35) 8 (q 840) := Tr_wv ⟨by omega, by omega⟩ 8 _ ct f11.1 l3.2.2
    have hpc : ∀ c, r 1351 = some c → 42 ≤ c := fun c hc => by
      rcases pt with ⟨_, z⟩ | ⟨_, c2, z, zt⟩
      · rw [z] at hc; cases hc
      · rw [z] at hc; cases hc; have := Tr_52 gk zt; omega
    have hc := c_PF_page Z d q r A (vd b o dy) (by omega) a hT (by omega) t.2.2.2.2.2 bb.1.1 hwv (fun _ => htw)
    rw [hRC] at hc
    refine bth_view b o rfl hc (fun v h2 hh => ?_)
    rcases hh with ⟨h0, _⟩ | ⟨_, sn2, nu2, fd2, rfl, hh⟩
    · omega
    · have hm := c_M_page Z d (vq b o (x_up q 737 fd2)) (vr b o (x_up (x_up (x_up (x_up (x_up r 740 (some 26)) 7 (some 26)) 8 (some 32)) 9 (some 38)) 10 (some 40))) (vA b o (x_up (x_up A 24 nu2) 25 sn2)) dy (by omega) (r 1351) (A 2) (q 34) g A gk cp (some cb) (q 838) (q 839) ct (q 837) fis fge fpl fva fch f2 (by omega) (A 27) (A 29) (A 28) hus hva (q 35) (by omega) (q 840) f11.1 a
      rw [vr_pt (b := b) (o := o) (r := (x_up (x_up (x_up (x_up (x_up r 740 (some 26)) 7 (some 26)) 8 (some 32)) 9 (some 38)) 10 (some 40))) (po := r 1351) f1 rfl hfc hpc] at hm
      refine ⟨_, _, _, _, hh, rfl, xMet_post ?_ hm⟩
      rintro v h2 ⟨sn3, nu3, fd3, rfl, rfl⟩
      refine ⟨rfl, ?_⟩
      rw [vq_up b o _ (by omega), vA_up b o _ (by omega), vA_up b o _ (by omega)]
      exact Nx_i (Inv_pg hI1)
