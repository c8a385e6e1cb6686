/-! steps: more moves, looks -/
theorem Inv_drop {n : Nat} {q : Nat → Int} {r : Nat → Option Nat} {A : Nat → Nat → Int} {dy : xH} {g : Nat → Option xE} (h : Inv n q r A dy g) : Inv n (x_up (x_up q 35 (q 34)) 1349 0) r A dy g := by
  obtain ⟨t, rr, oo, bb, gk, pt, f⟩ := h
  refine ⟨⟨⟨t.1.1, Int.le_refl _, ?_⟩, ⟨?_, ?_⟩, fun k hk => ?_, t.2.2.2⟩, rr, oo, bb, gk, pt, f⟩
  · show q 34 ≤ 8 + 20 * (n : Int)
    have := t.1
    omega
  · show q 34 - q 34 = 0
    omega
  · show (0 : Int) ≤ 4000
    omega
  · have hk : (k : Int) < 0 := hk
    omega
theorem bth_ok {Z : xZ} {d : Nat} {Yc Ym : xY} {av : List xV} {P : xH → Prop} {h : xH} (k : x_okH h → Bth Z d Yc Ym av h P) : Bth Z d Yc Ym av h P := fun a c => k c a c
theorem ok_A {b o : Bool} {q : Nat → Int} {r : Nat → Option Nat} {A : Nat → Nat → Int} {dy : xH} (h : x_okH (hF (vq b o q) (vr b o r) (vA b o A) ++ dy)) : (∀ j, A 29 j = 0 ∨ A 29 j = 1) ∧ (∀ j, A 30 j = 0 ∨ A 30 j = 1) ∧ ∀ j, -128 ≤ A 2 j ∧ A 2 j ≤ 127 := by
  cases b
  · exact ⟨fun j => h (xA 2 300 (A 29)) (List.mem_of_getElem? (i := 29) rfl) j, fun j => h (xA 2 300 (A 30)) (List.mem_of_getElem? (i := 30) rfl) j, fun j => h (xA 1 10248 (A 2)) (List.mem_of_getElem? (i := 2) rfl) j⟩
  · exact ⟨fun j => h (xA 2 300 (A 29)) (List.mem_of_getElem? (i := 35) rfl) j, fun j => h (xA 2 300 (A 30)) (List.mem_of_getElem? (i := 36) rfl) j, fun j => h (xA 1 10248 (A 2)) (List.mem_of_getElem? (i := 2) rfl) j⟩
theorem vr_pt {b o : Bool} {r : Nat → Option Nat} {fo po : Option Nat} (h1 : r 1350 = fo) (h2 : r 1351 = po) (k1 : ∀ c, fo = some c → 42 ≤ c) (k2 : ∀ c, po = some c → 42 ≤ c) : x_up (x_up (vr b o r) 1350 fo) 1351 po = vr b o r := x_up2 _ _ _ (vr_at (by omega) h1 k1) (vr_at (by omega) h2 k2)
theorem st_item {Z : xZ} {d : Nat} {n : Nat} {b o : Bool} {q : Nat → Int} {r : Nat → Option Nat} {A : Nat → Nat → Int} {dy : xH} {g : Nat → Option xE} (hd : 60 ≤ d) (hn : n < 512) (hI : Inv n q r A dy g) (k : Int) : Bth Z d Y_PF_item Y_M_item [xI k] (hF (vq b o q) (vr b o r) (vA b o A) ++ dy) (Nx (n + 1) dy (fun _ _ => 0) (q 1349)) := by
  have hRC := Inv_RC hI
  have hI1 := Inv_s hI
  have hI0 := hI
  obtain ⟨t, rr, oo, bb, gk, pt, f⟩ := hI
  have et : x_up q 1349 (q 35 - q 34) = q := x_up_id t.2.1.1.symm
  have hT : 0 ≤ q 34 ∧ q 34 ≤ q 35 ∧ q 35 ≤ 10248 := by have := t.1; omega
  have hfo : ∀ c, r 1350 = some c → 42 ≤ c := fun c hc => by
    rcases f with f | ⟨l, cp, cb, ct, fis, fge, fpl, fva, fch, fb, f⟩
    · rw [f.1] at hc; cases hc
    · rw [f.1] at hc; cases hc; have := f.2.1.1.1; omega
  rcases pt with ⟨p1, p2⟩ | ⟨⟨p11, p12, p13, p14⟩, c, p2, p3⟩
  · have hc := c_PF_itemN Z d q r A (vd b o dy) (by omega) k (by omega)
    rw [hRC] at hc
    have hm := c_M_itemN Z d (vq b o q) (vr b o r) (vA b o A) dy k (r 1350)
    rw [vr_pt (b := b) (o := o) rfl p2 hfo (fun c hc => by cases hc)] at hm
    refine bth_eq rfl hc (xMet_post ?_ hm)
    rintro v h2 ⟨rfl, rfl⟩
    exact ⟨rfl, Nx_i hI1⟩
  · have hsp := bb.1.1
    have p1 : 0 ≤ q 11 ∧ q 11 < 12900 ∧ s_bh (A 8) (q 11) ≤ 12900 := ⟨p11, p12, p13⟩
    have hf1 : 1 ≤ q 837 := by
      rcases f with f | ⟨l, cp, cb, ct, fis, fge, fpl, fva, fch, fb, f⟩
      · have := f.2.2.2.2.2.2; omega
      · exact f.2.2.2.2.2.1.1
    have hcc := Tr_52 gk p3
    have hc := c_PF_item Z d q r A (vd b o dy) (by omega) k hsp p1
    rw [hRC] at hc
    refine nav_fin rfl q (by rw [et]; exact hI1) (by have := t.2.1; omega) hf1 (fun _ _ => rfl) (fun z => ?_) hc rfl p2 hfo (fun c2 hc2 => by cases hc2; omega) rfl (fun q2 hq2 => ?_)
    · rw [s_nth_eq] at z ⊢
      by_cases c9 : 0 ≤ k ∧ k < (s_in (A 8) (q 11)).length
      · rw [if_pos c9]
        obtain ⟨_, _, _, _, _, _, _, _, _, _, _, hch, _⟩ := Tr_o p3
        have hm9 := s_getD_mem (L := s_in (A 8) (q 11)) (k := k.toNat) (by omega)
        have h1 := s_ch_lt hch _ hm9
        have h2 := s_ch_bh hch _ hm9
        omega
      · rw [if_neg c9] at z; omega
    · have hm := c_M_item Z d (vq b o q2) (vr b o r) (vA b o A) dy (by omega) (r 1350) (A 2) (q 34) g A gk 8 (by omega) (q 11) c p3 k
      rw [show x_up (vq b o q2) 1349 (q 35 - q 34) = vq b o q2 from x_up_id (by rw [vq_hi b o q2 (by omega), hq2 1349 (by omega)]; exact t.2.1.1.symm)]
      exact hm
theorem st_find {Z : xZ} {d : Nat} {n : Nat} {b o : Bool} {q : Nat → Int} {r : Nat → Option Nat} {A : Nat → Nat → Int} {dy : xH} {g : Nat → Option xE} (hd : 60 ≤ d) (hn : n < 512) (hI : Inv n q r A dy g) : Bth Z d Y_PF_find Y_M_find [] (hF (vq b o q) (vr b o r) (vA b o A) ++ dy) (Nx (n + 1) dy (fun _ _ => 0) (q 1349)) := by
  have hRC := Inv_RC hI
  have hI1 := Inv_s hI
  have hI0 := hI
  obtain ⟨t, rr, oo, bb, gk, pt, f⟩ := hI
  have et : x_up q 1349 (q 35 - q 34) = q := x_up_id t.2.1.1.symm
  have hT : 0 ≤ q 34 ∧ q 34 ≤ q 35 ∧ q 35 ≤ 10248 := by have := t.1; omega
  have hfo : ∀ c, r 1350 = some c → 42 ≤ c := fun c hc => by
    rcases f with f | ⟨l, cp, cb, ct, fis, fge, fpl, fva, fch, fb, f⟩
    · rw [f.1] at hc; cases hc
    · rw [f.1] at hc; cases hc; have := f.2.1.1.1; omega
  rcases pt with ⟨p1, p2⟩ | ⟨⟨p11, p12, p13, p14⟩, c, p2, p3⟩
  · have hc := c_PF_findN Z d q r A (vd b o dy) (by omega) (by omega)
    rw [hRC] at hc
    have hm := c_M_findN Z d (vq b o (x_up q 35 (q 34))) (vr b o r) (vA b o A) dy (by omega) (r 1350)
    rw [vr_pt (b := b) (o := o) rfl p2 hfo (fun c hc => by cases hc)] at hm
    refine bth_eq rfl hc (xMet_post ?_ hm)
    rintro v h2 ⟨rfl, rfl⟩
    rw [vq_up b o _ (by omega)]
    exact ⟨rfl, Nx_i (Inv_drop hI1) (show (0 : Int) ≤ q 1349 by have := t.1; have := t.2.1; omega)⟩
  · have hsp := bb.1.1
    have p1 : 0 ≤ q 11 ∧ q 11 < 12900 ∧ s_bh (A 8) (q 11) ≤ 12900 := ⟨p11, p12, p13⟩
    have hf1 : 1 ≤ q 837 := by
      rcases f with f | ⟨l, cp, cb, ct, fis, fge, fpl, fva, fch, fb, f⟩
      · have := f.2.2.2.2.2.2; omega
      · exact f.2.2.2.2.2.1.1
    have hcc := Tr_52 gk p3
    have hc := c_PF_find Z d q r A (vd b o dy) (by omega) hT t.2.2.2.2.2 hsp bb.1.2 p1
    rw [hRC] at hc
    have e0 : x_up q 35 (q 34) 35 - x_up q 35 (q 34) 34 = 0 := by show q 34 - q 34 = 0; omega
    refine nav_fin rfl (x_up q 35 (q 34)) (by rw [e0]; exact Inv_drop hI1) (by rw [e0]; have := t.1; have := t.2.1; omega) hf1 (fun k hk => x_up_n _ _ (by omega)) (fun z => ?_) hc rfl p2 hfo (fun c2 hc2 => by cases hc2; omega) rfl (fun q2 hq2 => ?_)
    · obtain ⟨_, _, _, _, _, _, _, _, _, _, _, hch, _⟩ := Tr_o p3
      rcases s_first_in (fun t => s_tiw (A 2) (q 34) (q 35) (A 9 t.toNat)) (s_in (A 8) (q 11)) with h | h
      · omega
      · have h1 := s_ch_lt hch _ h
        have h2 := s_ch_bh hch _ h
        show _ ∧ _ ∧ _ ≤ q 133
        omega
    · have e1 : vq b o q2 1349 = q 35 - q 34 := by rw [vq_hi b o q2 (by omega), hq2 1349 (by omega), t.2.1.1]
      have hm := c_M_find Z d (vq b o q2) (vr b o r) (vA b o A) dy (by omega) (r 1350) (A 2) (q 34) g A gk 8 (by omega) (q 11) c p3 (q 34) (by omega) (by rw [e1, t.2.1.1]; have := t.2.1; omega) (by rw [e1]; omega) (fun k hk => by rw [vA_hi b o A (by omega)]; rw [e1, t.2.1.1] at hk; exact t.2.2.1 k hk)
      rw [e1, show q 34 + (q 35 - q 34) = q 35 by omega] at hm
      rw [e0]
      exact hm
theorem st_look {Z : xZ} {d : Nat} {n : Nat} {b o : Bool} {q : Nat → Int} {r : Nat → Option Nat} {A : Nat → Nat → Int} {dy : xH} {g : Nat → Option xE} (hd : 60 ≤ d) (hn : n < 512) (hI : Inv n q r A dy g) (k : Int) : Bth Z d Y_PF_look Y_M_look [xI k] (hF (vq b o q) (vr b o r) (vA b o A) ++ dy) (Nx (n + 1) dy (fun _ _ => 0) (q 1349)) := by
  have hRC := Inv_RC hI
  have hI1 := Inv_s hI
  have hI0 := hI
  obtain ⟨t, rr, oo, bb, gk, pt, f⟩ := hI
  have et : x_up q 1349 (q 35 - q 34) = q := x_up_id t.2.1.1.symm
  have hT : 0 ≤ q 34 ∧ q 34 ≤ q 35 ∧ q 35 ≤ 10248 := by have := t.1; omega
  have hfo : ∀ c, r 1350 = some c → 42 ≤ c := fun c hc => by
    rcases f with f | ⟨l, cp, cb, ct, fis, fge, fpl, fva, fch, fb, f⟩
    · rw [f.1] at hc; cases hc
    · rw [f.1] at hc; cases hc; have := f.2.1.1.1; omega
  rcases pt with ⟨p1, p2⟩ | ⟨⟨p11, p12, p13, p14⟩, c, p2, p3⟩
  · have hc := c_PF_lookN Z d q r A (vd b o dy) k (by omega)
    rw [hRC] at hc
    have hm := c_M_lookN Z d (vq b o q) (vr b o r) (vA b o A) dy (by omega) k (r 1350)
    rw [vr_pt (b := b) (o := o) rfl p2 hfo (fun c hc => by cases hc)] at hm
    refine bth_eq rfl hc (xMet_post ?_ hm)
    rintro v h2 ⟨rfl, rfl⟩
    exact ⟨rfl, Nx_i hI1⟩
  · have hcc := Tr_52 gk p3
    have p1 : 0 ≤ q 11 ∧ q 11 < 12900 ∧ s_bh (A 8) (q 11) ≤ 12900 := ⟨p11, p12, p13⟩
    have hc := c_PF_look Z d q r A (vd b o dy) (by omega) k bb.1.1 p1
    rw [hRC] at hc
    have hm := c_M_look Z d (vq b o q) (vr b o r) (vA b o A) dy (by omega) (r 1350) (A 2) (q 34) g A gk 8 (by omega) (q 11) c p3 k
    rw [vr_pt (b := b) (o := o) rfl p2 hfo (fun c2 hc2 => by cases hc2; omega)] at hm
    refine bth_eq rfl hc (xMet_post ?_ hm)
    rintro v h2 ⟨rfl, rfl⟩
    exact ⟨rfl, Nx_i hI1⟩
theorem st_octet {Z : xZ} {d : Nat} {n : Nat} {b o : Bool} {q : Nat → Int} {r : Nat → Option Nat} {A : Nat → Nat → Int} {dy : xH} {g : Nat → Option xE} (hd : 60 ≤ d) (hn : n < 512) (hI : Inv n q r A dy g) (i : Int) : Bth Z d Y_PF_octet Y_M_octet [xI i] (hF (vq b o q) (vr b o r) (vA b o A) ++ dy) (Nx (n + 1) dy (fun _ _ => 0) (q 1349)) := by
  have hRC := Inv_RC hI
  have hI1 := Inv_s hI
  have hI0 := hI
  obtain ⟨t, rr, oo, bb, gk, pt, f⟩ := hI
  have et : x_up q 1349 (q 35 - q 34) = q := x_up_id t.2.1.1.symm
  have hc := c_PF_octet Z d q r A (vd b o dy) i (by have := oo.1; have := oo.2.1; omega)
  rw [hRC] at hc
  have hm := c_M_octet Z d (vq b o q) (vr b o r) (vA b o A) dy (by omega) i (by rw [vq_hi b o q (by omega)]; exact oo.2.1)
  refine bth_eq rfl hc (xMet_post ?_ hm)
  rintro v h2 ⟨rfl, rfl⟩
  refine ⟨?_, Nx_i hI1⟩
  rw [vq_hi b o q (by omega), vA_hi b o A (by omega), oo.1]
  by_cases h1 : i = -1
  · rw [if_pos h1, if_pos h1]
  · rw [if_neg h1, if_neg h1]
    by_cases h2 : 0 ≤ i ∧ i < q 1353
    · rw [if_pos h2, if_pos h2, oo.2.2 i.toNat (by omega)]
    · rw [if_neg h2, if_neg h2]
theorem st_end {Z : xZ} {d : Nat} {n : Nat} {b o : Bool} {q : Nat → Int} {r : Nat → Option Nat} {A : Nat → Nat → Int} {dy : xH} {g : Nat → Option xE} (hd : 60 ≤ d) (hn : n < 512) (hI : Inv n q r A dy g) (a : Int) : Bth Z d Y_PF_end Y_M_end [xI a] (hF (vq b o q) (vr b o r) (vA b o A) ++ dy) (Nx (n + 1) dy (fun _ _ => 0) (q 1349)) := by
  have hRC := Inv_RC hI
  have hI1 := Inv_s hI
  have hI0 := hI
  obtain ⟨t, rr, oo, bb, gk, pt, f⟩ := hI
  have et : x_up q 1349 (q 35 - q 34) = q := x_up_id t.2.1.1.symm
  have hT : 0 ≤ q 34 ∧ q 34 ≤ q 35 ∧ q 35 ≤ 10248 := by have := t.1; omega
  have hc := c_PF_end Z d q r A (vd b o dy) (by omega) a hT
  rw [hRC] at hc
  refine bth_view b o rfl hc (fun v h2 hh => ?_)
  rcases hh with ⟨hn2, rfl, rfl⟩ | ⟨hn2, rfl, rfl⟩
  · refine ⟨-1, q, r, A, rfl, rfl, ?_⟩
    refine xMet_post ?_ (c_M_end Z d (by omega) (vq b o q) (vr b o r) (vA b o A) dy a)
    rw [vq_hi b o q (by omega), ← t.2.1.1]
    rintro v h2 (⟨_, rfl, rfl⟩ | ⟨h0, _⟩)
    · exact ⟨rfl, Nx_i hI1 (by have := t.2.1; omega)⟩
    · exact absurd h0 hn2
  · refine ⟨a, x_up q 35 (q 34 + a), r, A, rfl, rfl, ?_⟩
    refine xMet_post ?_ (c_M_end Z d (by omega) (vq b o (x_up q 35 (q 34 + a))) (vr b o r) (vA b o A) dy a)
    rw [vq_hi b o _ (by omega), x_up_n q _ (by omega : (1349 : Nat) ≠ 35), ← t.2.1.1]
    rintro v h2 (⟨h0, _⟩ | ⟨_, rfl, rfl⟩)
    · exact absurd hn2 h0
    · refine ⟨rfl, ?_⟩
      rw [vq_up b o _ (by omega)]
      refine Nx_i (g := g) ?_ (show a ≤ q 35 - q 34 by omega)
      obtain ⟨t1, rr1, oo1, bb1, gk1, pt1, f1⟩ := hI1
      refine ⟨⟨⟨t.1.1, ?_, ?_⟩, ⟨?_, ?_⟩, fun k hk => ?_, t.2.2.2⟩, rr1, oo1, bb1, gk1, pt1, f1⟩
      · show q 34 ≤ q 34 + a
        omega
      · show q 34 + a ≤ 8 + 20 * ((n + 1 : Nat) : Int)
        have := t.1
        omega
      · show q 34 + a - q 34 = a
        omega
      · show a ≤ 4000
        have := t.2.1
        omega
      · have hk : (k : Int) < a := hk
        exact t.2.2.1 k (by have := t.2.1; omega)
