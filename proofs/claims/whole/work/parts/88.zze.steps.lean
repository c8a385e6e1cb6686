/-! steps: moves -/
theorem bth_eq {Z : xZ} {d : Nat} {b o : Bool} {q : Nat → Int} {r : Nat → Option Nat} {A : Nat → Nat → Int} {dy : xH} {Yc Ym : xY} {av : List xV} {P : xH → Prop} {z : Int} {q1 : Nat → Int} {r1 : Nat → Option Nat} {A1 : Nat → Nat → Int} (hav : av.map (rnV (swc b o)) = av) (hc : xMet Z d Yc (xC 0 :: av) (hF q r A ++ vd b o dy) (fun v h2 => v = some (xI z) ∧ h2 = hF q1 r1 A1 ++ vd b o dy)) (hm : xMet Z d Ym (xC 42 :: av) (hF (vq b o q1) (vr b o r1) (vA b o A1) ++ dy) (fun v h2 => v = some (xI z) ∧ P h2)) : Bth Z d Yc Ym av (hF (vq b o q) (vr b o r) (vA b o A) ++ dy) P := by
  refine bth_view b o hav hc (fun v h2 hh => ?_)
  obtain ⟨rfl, rfl⟩ := hh
  exact ⟨z, q1, r1, A1, rfl, rfl, hm⟩
theorem iL_f {q : Nat → Int} {A : Nat → Nat → Int} (h : iL q A) : (0 ≤ q 133 ∧ q 133 ≤ 4445) ∧ (∀ k : Nat, (k : Int) < q 837 → ¬ A 29 k = 0 → 0 ≤ A 27 k ∧ A 27 k < 12900 ∧ s_bh (A 8) (A 27 k) ≤ 12900 ∧ 1 ≤ A 8 (A 27 k).toNat) ∧ (0 ≤ q 840 ∧ q 840 < 12900 ∧ s_bh (A 8) (q 840) ≤ 12900) := by
  obtain ⟨l1, l2, l3, l4, l5, l6⟩ := h
  refine ⟨by omega, fun k k1 k2 => ?_, ?_⟩
  · have := l1 k k1 k2
    refine ⟨by omega, by omega, ?_, by omega⟩
    unfold s_bh
    omega
  · refine ⟨by omega, by omega, ?_⟩
    unfold s_bh
    omega
theorem iL_g {q : Nat → Int} {A : Nat → Nat → Int} (h : iL q A) : (∀ k : Nat, (k : Int) < q 837 → ¬ A 29 k = 0 → s_bh (A 8) (A 27 k) ≤ q 133) ∧ s_bh (A 8) (q 840) ≤ q 133 := by
  obtain ⟨l1, l2, l3, l4, l5, l6⟩ := h
  refine ⟨fun k k1 k2 => ?_, ?_⟩
  · have := l1 k k1 k2
    unfold s_bh
    omega
  · unfold s_bh
    omega
theorem vr_no {b o : Bool} {r : Nat → Option Nat} (h1 : r 1350 = none) (h2 : r 1351 = none) : x_up (x_up (vr b o r) 1350 none) 1351 none = vr b o r := x_up2 _ _ _ (vr_at (by omega) h1 (fun c hc => by cases hc)) (vr_at (by omega) h2 (fun c hc => by cases hc))
theorem iP_no {q : Nat → Int} {r : Nat → Option Nat} {A : Nat → Nat → Int} {g : Nat → Option xE} (h : iP q r A g) (h1 : q 11 = -1) : r 1351 = none := by
  rcases h with h | ⟨h, _⟩
  · exact h.2
  · omega
theorem st_go {Z : xZ} {d : Nat} {n : Nat} {b o : Bool} {q : Nat → Int} {r : Nat → Option Nat} {A : Nat → Nat → Int} {dy : xH} {g : Nat → Option xE} (hd : 60 ≤ d) (hn : n < 512) (hI : Inv n q r A dy g) (a : Int) : Bth Z d Y_PF_go Y_M_go [xI a] (hF (vq b o q) (vr b o r) (vA b o A) ++ dy) (Nx (n + 1) dy (fun _ _ => 0) (q 1349)) := by
  have hRC := Inv_RC hI
  have hI1 := Inv_s hI
  have hI0 := hI
  obtain ⟨t, rr, oo, bb, gk, pt, f⟩ := hI
  have et : x_up q 1349 (q 35 - q 34) = q := x_up_id t.2.1.1.symm
  rcases f with f | ⟨l, cp, cb, ct, fis, fge, fpl, fva, fch, fb, f⟩
  · have hr1 := iP_no pt f.2.2.2.2.2.2
    have er := vr_no (b := b) (o := o) f.1 hr1
    have hc := c_PF_go Z d q r A (vd b o dy) (by omega) a (by have := f.2.1; omega) (fun k k1 k2 => absurd k1 (by have := f.2.1; omega))
    rw [hRC] at hc
    have hm := c_M_goN Z d (vq b o q) (vr b o r) (vA b o A) dy (by omega) a none
    rw [er] at hm
    refine bth_eq (z := -2) rfl (xMet_post ?_ hc) (xMet_post ?_ hm)
    · rintro v h2 (⟨_, rfl, rfl⟩ | ⟨h0, _⟩)
      · exact ⟨rfl, rfl⟩
      · rw [if_neg (by have := f.2.1; omega)] at h0; omega
    · rintro v h2 ⟨rfl, rfl⟩
      exact ⟨rfl, Nx_i hI1⟩
  · obtain ⟨f1, f2, f3, f4, f5, f6, f7, f8, f9, f10, f11⟩ := f
    obtain ⟨l1, l2, l3⟩ := iL_f l
    have hcp : 52 ≤ cp := f2.1.1
    have hT : 0 ≤ q 34 ∧ q 34 ≤ q 35 ∧ q 35 ≤ 10248 := by have := t.1; omega
    have hus : ∀ k : Nat, (k : Int) < q 837 → (fis k = 2 ↔ ¬ A 29 k = 0) ∧ A 28 k = fge k := fun k hk => ⟨(f8 k (by omega)).1, (f8 k (by omega)).2.1.symm⟩
    have hva : ∀ k : Nat, (k : Int) < q 837 → ¬ A 29 k = 0 → ∃ c2, fva k = some c2 ∧ Tr (A 2) (q 34) g A 9 (A 27 k) c2 := fun k k1 k2 => (f10 k k1 k2).1
    have hfc : ∀ c, some cp = some c → 42 ≤ c := fun c hc => by cases hc; omega
    have hp2 : 0 ≤ (if 0 ≤ a ∧ a < q 837 ∧ ¬ A 29 a.toNat = 0 then A 27 a.toNat else -1) → (if 0 ≤ a ∧ a < q 837 ∧ ¬ A 29 a.toNat = 0 then A 27 a.toNat else -1) < 12900 ∧ s_bh (A 8) (if 0 ≤ a ∧ a < q 837 ∧ ¬ A 29 a.toNat = 0 then A 27 a.toNat else -1) ≤ 12900 ∧ s_bh (A 8) (if 0 ≤ a ∧ a < q 837 ∧ ¬ A 29 a.toNat = 0 then A 27 a.toNat else -1) ≤ q 133 := fun z => by
      by_cases c : 0 ≤ a ∧ a < q 837 ∧ ¬ A 29 a.toNat = 0
      · rw [if_pos c]
        have := l2 a.toNat (by omega) c.2.2
        exact ⟨this.2.1, this.2.2.1, (iL_g l).1 a.toNat (by omega) c.2.2⟩
      · rw [if_neg c] at z; omega
    have hpc : ∀ c, r 1351 = some c → 42 ≤ c := fun c hc => by
      rcases pt with ⟨_, z⟩ | ⟨_, c2, z, zt⟩
      · rw [z] at hc; cases hc
      · rw [z] at hc; cases hc; have := Tr_52 gk zt; omega
    have hc := c_PF_go Z d q r A (vd b o dy) (by omega) a (by omega) (fun k k1 k2 => ⟨(l2 k k1 k2).1, (l2 k k1 k2).2.1⟩)
    rw [hRC] at hc
    refine nav_fin rfl q (by rw [et]; exact hI1) (by have := t.2.1; omega) (by show 1 ≤ q 837; omega) (fun _ _ => rfl) hp2 hc f1 rfl hfc hpc rfl (fun q2 hq2 => ?_)
    have hm := c_M_go Z d (vq b o q2) (vr b o r) (vA b o A) dy (by omega) a (r 1351) (A 2) (q 34) g A gk cp (some cb) (q 838) (q 839) (some ct) (q 837) fis fge fpl fva fch f2 (by omega) (A 27) (A 29) (A 28) hus hva
    rw [show x_up (vq b o q2) 1349 (q 35 - q 34) = vq b o q2 from x_up_id (by rw [vq_hi b o q2 (by omega), hq2 1349 (by omega)]; exact t.2.1.1.symm)]
    exact hm
theorem st_trailer {Z : xZ} {d : Nat} {n : Nat} {b o : Bool} {q : Nat → Int} {r : Nat → Option Nat} {A : Nat → Nat → Int} {dy : xH} {g : Nat → Option xE} (hd : 60 ≤ d) (hn : n < 512) (hI : Inv n q r A dy g) : Bth Z d Y_PF_trailer Y_M_trailer [] (hF (vq b o q) (vr b o r) (vA b o A) ++ dy) (Nx (n + 1) dy (fun _ _ => 0) (q 1349)) := by
  have hRC := Inv_RC hI
  have hI1 := Inv_s hI
  have hI0 := hI
  obtain ⟨t, rr, oo, bb, gk, pt, f⟩ := hI
  have et : x_up q 1349 (q 35 - q 34) = q := x_up_id t.2.1.1.symm
  rcases f with f | ⟨l, cp, cb, ct, fis, fge, fpl, fva, fch, fb, f⟩
  · have hr1 := iP_no pt f.2.2.2.2.2.2
    have er := vr_no (b := b) (o := o) f.1 hr1
    have hc := c_PF_trailer Z d q r A (vd b o dy) (by omega) (by have := f.2.2.2.2.2.1; omega)
    rw [hRC] at hc
    have hm := c_M_trailerN Z d (vq b o q) (vr b o r) (vA b o A) dy none
    rw [er] at hm
    refine bth_eq (z := -2) rfl (xMet_post ?_ hc) (xMet_post ?_ hm)
    · rintro v h2 (⟨_, rfl, rfl⟩ | ⟨h0, _⟩)
      · exact ⟨rfl, rfl⟩
      · rw [if_neg (by have := f.2.1; omega)] at h0; omega
    · rintro v h2 ⟨rfl, rfl⟩
      exact ⟨rfl, Nx_i hI1⟩
  · obtain ⟨f1, f2, f3, f4, f5, f6, f7, f8, f9, f10, f11⟩ := f
    obtain ⟨l1, l2, l3⟩ := iL_f l
    have hcp : 52 ≤ cp := f2.1.1
    have hT : 0 ≤ q 34 ∧ q 34 ≤ q 35 ∧ q 35 ≤ 10248 := by have := t.1; omega
    have hus : ∀ k : Nat, (k : Int) < q 837 → (fis k = 2 ↔ ¬ A 29 k = 0) ∧ A 28 k = fge k := fun k hk => ⟨(f8 k (by omega)).1, (f8 k (by omega)).2.1.symm⟩
    have hva : ∀ k : Nat, (k : Int) < q 837 → ¬ A 29 k = 0 → ∃ c2, fva k = some c2 ∧ Tr (A 2) (q 34) g A 9 (A 27 k) c2 := fun k k1 k2 => (f10 k k1 k2).1
    have hfc : ∀ c, some cp = some c → 42 ≤ c := fun c hc => by cases hc; omega
    have e0 : (if 0 < q 837 then q 840 else -1) = q 840 := if_pos (by omega)
    have hpc : ∀ c, r 1351 = some c → 42 ≤ c := fun c hc => by
      rcases pt with ⟨_, z⟩ | ⟨_, c2, z, zt⟩
      · rw [z] at hc; cases hc
      · rw [z] at hc; cases hc; have := Tr_52 gk zt; omega
    have hc := c_PF_trailer Z d q r A (vd b o dy) (by omega) (by omega)
    rw [hRC, e0] at hc
    refine nav_fin rfl q (by rw [et]; exact hI1) (by have := t.2.1; omega) (by show 1 ≤ q 837; omega) (fun _ _ => rfl) (fun _ => ⟨l3.2.1, l3.2.2, (iL_g l).2⟩) hc f1 rfl hfc hpc rfl (fun q2 hq2 => ?_)
    have hm := c_M_trailer Z d (vq b o q2) (vr b o r) (vA b o A) dy (by omega) (r 1351) (A 2) (q 34) g A gk cp (some cb) (q 838) (q 839) (q 837) fis fge fpl fva fch ct (q 840) f2 f11.1
    rw [show x_up (vq b o q2) 1349 (q 35 - q 34) = vq b o q2 from x_up_id (by rw [vq_hi b o q2 (by omega), hq2 1349 (by omega)]; exact t.2.1.1.symm)]
    exact hm
theorem st_follow {Z : xZ} {d : Nat} {n : Nat} {b o : Bool} {q : Nat → Int} {r : Nat → Option Nat} {A : Nat → Nat → Int} {dy : xH} {g : Nat → Option xE} (hd : 60 ≤ d) (hn : n < 512) (hI : Inv n q r A dy g) : Bth Z d Y_PF_follow Y_M_follow [] (hF (vq b o q) (vr b o r) (vA b o A) ++ dy) (Nx (n + 1) dy (fun _ _ => 0) (q 1349)) := by
  have hRC := Inv_RC hI
  have hI1 := Inv_s hI
  have hI0 := hI
  obtain ⟨t, rr, oo, bb, gk, pt, f⟩ := hI
  have et : x_up q 1349 (q 35 - q 34) = q := x_up_id t.2.1.1.symm
  rcases f with f | ⟨l, cp, cb, ct, fis, fge, fpl, fva, fch, fb, f⟩
  · have hr1 := iP_no pt f.2.2.2.2.2.2
    have er := vr_no (b := b) (o := o) f.1 hr1
    have hc := c_PF_follow Z d q r A (vd b o dy) (by omega) (by have := f.2.1; omega) (fun k k1 k2 => absurd k1 (by have := f.2.1; omega)) (by have := f.2.2.2.2.2.2; omega)
    rw [hRC] at hc
    have hm := c_M_followN Z d (vq b o q) (vr b o r) (vA b o A) dy (by omega) none
    rw [er] at hm
    have hl : s_ldt (A 5) (A 6) (A 7) (A 28) (A 29) (q 837) (q 11) < 0 := by unfold s_ldt; rw [if_pos (Or.inl (by have := f.2.2.2.2.2.2; omega))]; omega
    refine bth_eq (z := -2) rfl (xMet_post ?_ hc) (xMet_post ?_ hm)
    · rintro v h2 (⟨_, rfl, rfl⟩ | ⟨h0, _⟩)
      · exact ⟨rfl, rfl⟩
      · rw [if_pos hl] at h0; omega
    · rintro v h2 ⟨rfl, rfl⟩
      exact ⟨rfl, Nx_i hI1⟩
  · obtain ⟨f1, f2, f3, f4, f5, f6, f7, f8, f9, f10, f11⟩ := f
    obtain ⟨l1, l2, l3⟩ := iL_f l
    have hcp : 52 ≤ cp := f2.1.1
    have hT : 0 ≤ q 34 ∧ q 34 ≤ q 35 ∧ q 35 ≤ 10248 := by have := t.1; omega
    have hus : ∀ k : Nat, (k : Int) < q 837 → (fis k = 2 ↔ ¬ A 29 k = 0) ∧ A 28 k = fge k := fun k hk => ⟨(f8 k (by omega)).1, (f8 k (by omega)).2.1.symm⟩
    have hva : ∀ k : Nat, (k : Int) < q 837 → ¬ A 29 k = 0 → ∃ c2, fva k = some c2 ∧ Tr (A 2) (q 34) g A 9 (A 27 k) c2 := fun k k1 k2 => (f10 k k1 k2).1
    have hfc : ∀ c, some cp = some c → 42 ≤ c := fun c hc => by cases hc; omega
    have hc := c_PF_follow Z d q r A (vd b o dy) (by omega) (by omega) (fun k k1 k2 => ⟨(l2 k k1 k2).1, (l2 k k1 k2).2.1⟩) (by rcases pt with ⟨z, _⟩ | ⟨z, _⟩ <;> omega)
    rw [hRC] at hc
    rcases pt with ⟨p1, p2⟩ | ⟨p1, c, p2, p3⟩
    · have hl : s_ldt (A 5) (A 6) (A 7) (A 28) (A 29) (q 837) (q 11) < 0 := by unfold s_ldt; rw [if_pos (Or.inl (by omega))]; omega
      have hm := c_M_followN Z d (vq b o q) (vr b o r) (vA b o A) dy (by omega) (some cp)
      rw [show x_up (x_up (vr b o r) 1350 (some cp)) 1351 none = vr b o r from x_up2 _ _ _ (vr_at (by omega) f1 hfc) (vr_at (by omega) p2 (fun c hc => by cases hc))] at hm
      refine bth_eq (z := -2) rfl (xMet_post ?_ hc) (xMet_post ?_ hm)
      · rintro v h2 (⟨_, rfl, rfl⟩ | ⟨h0, _⟩)
        · exact ⟨rfl, rfl⟩
        · rw [if_pos hl] at h0; omega
      · rintro v h2 ⟨rfl, rfl⟩
        exact ⟨rfl, Nx_i hI1⟩
    · have hcc := Tr_52 gk p3
      refine nav_fin rfl q (by rw [et]; exact hI1) (by have := t.2.1; omega) (by omega) (fun _ _ => rfl) (fun z => ?_) hc f1 p2 hfc (fun c2 hc2 => by cases hc2; omega) rfl (fun q2 hq2 => ?_)
      · have hli := s_ldt_in (A 5) (A 6) (A 7) (A 28) (A 29) (q 837) (q 11)
        by_cases hl : s_ldt (A 5) (A 6) (A 7) (A 28) (A 29) (q 837) (q 11) < 0
        · rw [if_pos hl] at z; omega
        · rw [if_neg hl]
          rcases hli with e | e
          · omega
          · have := l2 (s_ldt (A 5) (A 6) (A 7) (A 28) (A 29) (q 837) (q 11)).toNat (by omega) e.2.2
            exact ⟨this.2.1, this.2.2.1, (iL_g l).1 _ (by omega) e.2.2⟩
      · have hm := c_M_follow Z d (vq b o q2) (vr b o r) (vA b o A) dy (by omega) (A 2) (q 34) g A gk cp (some cb) (q 838) (q 839) (some ct) (q 837) fis fge fpl fva fch f2 (by omega) (A 27) (A 29) (A 28) hus hva 8 (by omega) (q 11) c p3
        rw [show x_up (vq b o q2) 1349 (q 35 - q 34) = vq b o q2 from x_up_id (by rw [vq_hi b o q2 (by omega), hq2 1349 (by omega)]; exact t.2.1.1.symm)]
        exact hm
