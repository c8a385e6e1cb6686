/-! steps: free, in both -/
theorem st_free {Z : xZ} {d : Nat} {n : Nat} {b o : Bool} {q : Nat → Int} {r : Nat → Option Nat} {A : Nat → Nat → Int} {dy : xH} {g : Nat → Option xE} (hd : 60 ≤ d) (hn : n < 512) (hI : Inv n q r A dy g) (a : Int) : Bth Z d Y_PF_free Y_M_free [xI a] (hF (vq b o q) (vr b o r) (vA b o A) ++ dy) (Nx (n + 1) dy (fun _ _ => 0) (q 1349)) := by
  refine bth_ok (fun hok => ?_)
  obtain ⟨h29, h30, hB⟩ := ok_A hok
  have hRC := Inv_RC hI
  have hI1 := Inv_s hI
  have hI0 := hI
  obtain ⟨t, rr, oo, bb, gk, pt, f⟩ := hI
  have et : x_up q 1349 (q 35 - q 34) = q := x_up_id t.2.1.1.symm
  rcases f with f | ⟨l, cp, cb, ct, fis, fge, fpl, fva, fch, fb, f⟩
  · have hr1 := iP_no pt f.2.2.2.2.2.2
    have er := vr_no (b := b) (o := o) f.1 hr1
    have hc := c_PF_free Z d q r A (vd b o dy) (by omega) a (by have := f.2.1; omega) bb.2.2.2.2.1 (by have := f.2.2.2.2.2.1; omega) (fun _ z => absurd z (by have := f.2.1; omega)) (fun _ z => absurd z (by have := f.2.1; omega))
    rw [hRC] at hc
    have hm := c_M_freeN Z d (vq b o q) (vr b o r) (vA b o A) dy (by omega) none a
    rw [er] at hm
    refine bth_eq (z := -2) rfl (xMet_post ?_ hc) (xMet_post ?_ hm)
    · rintro v h2 (⟨_, rfl, rfl⟩ | ⟨h0, _⟩)
      · exact ⟨rfl, rfl⟩
      · have := f.2.1; omega
    · rintro v h2 ⟨rfl, rfl⟩
      exact ⟨rfl, Nx_i hI1⟩
  · have hff := f
    obtain ⟨f1, f2, f3, f4, f5, f6, f7, f8, f9, f10, f11⟩ := f
    obtain ⟨l1, l2, l3⟩ := iL_f l
    have hcp : 52 ≤ cp := f2.1.1
    have hT : 0 ≤ q 34 ∧ q 34 ≤ q 35 ∧ q 35 ≤ 10248 := by have := t.1; omega
    have hus : ∀ k : Nat, (k : Int) < q 837 → (fis k = 2 ↔ ¬ A 29 k = 0) ∧ A 28 k = fge k := fun k hk => ⟨(f8 k (by omega)).1, (f8 k (by omega)).2.1.symm⟩
    have hva : ∀ k : Nat, (k : Int) < q 837 → ¬ A 29 k = 0 → ∃ c2, fva k = some c2 ∧ Tr (A 2) (q 34) g A 9 (A 27 k) c2 := fun k k1 k2 => (f10 k k1 k2).1
    have hfc : ∀ c, some cp = some c → 42 ≤ c := fun c hc => by cases hc; omega
    have hpc : ∀ c, r 1351 = some c → 42 ≤ c := fun c hc => by
      rcases pt with ⟨_, z⟩ | ⟨_, c2, z, zt⟩
      · rw [z] at hc; cases hc
      · rw [z] at hc; cases hc; have := Tr_52 gk zt; omega
    have hc := c_PF_free Z d q r A (vd b o dy) (by omega) a (by omega) bb.2.2.2.2.1 (by omega) (fun z1 z2 z3 => by have h1 := l2 a.toNat (by omega) z3; have h2 := l.1 a.toNat (by omega) z3; omega) (fun z1 z2 => (f8 a.toNat (by omega)).2.2.2.1)
    rw [hRC] at hc
    have hge : ∀ k, k < 300 → 0 ≤ fge k ∧ fge k ≤ 99999 := fun k hk => by rw [(f8 k hk).2.1]; exact (f8 k hk).2.2.2.1
    refine bth_view b o rfl hc (fun v h2 hh => ?_)
    rcases hh with ⟨h0, rfl, rfl⟩ | ⟨h0, rfl, rfl⟩
    · refine ⟨-2, q, r, A, rfl, rfl, ?_⟩
      have hm := c_M_free Z d (vq b o q) (vr b o r) (vA b o A) dy (by omega) (r 1351) g cp (some cb) (q 838) (q 839) (some ct) (q 837) fis fge fpl fva fch f2 (by omega) f3 gk hge a
      rw [vr_pt (b := b) (o := o) f1 rfl hfc hpc] at hm
      refine xMet_post ?_ hm
      rintro v h2 (⟨_, rfl, rfl⟩ | ⟨h9, _⟩)
      · exact ⟨rfl, Nx_i hI1⟩
      · exact absurd ⟨h9.1, h9.2.1, (hus a.toNat (by omega)).1.mp h9.2.2⟩ h0
    · refine ⟨_, _, r, _, rfl, rfl, ?_⟩
      have hm := c_M_free Z d (vq b o (x_up (x_up (x_up q 133 (q 133 - (A 8 (A 27 a.toNat).toNat))) 840 (q 840 - (if A 27 a.toNat < q 840 then (A 8 (A 27 a.toNat).toNat) else 0))) 11 (-1))) (vr b o r) (vA b o (x_up (x_up (x_up (x_up (s_pt A (s_cut A (A 27 a.toNat) (A 8 (A 27 a.toNat).toNat) (q 133))) 29 (x_up (A 29) a.toNat 0)) 30 (x_up (A 30) a.toNat 1)) 28 (x_up (A 28) a.toNat (A 28 a.toNat + (if A 28 a.toNat < 65535 then 1 else 0)))) 27 (s_gap (A 27) (x_up (A 29) a.toNat 0) (q 837) (A 27 a.toNat) (A 8 (A 27 a.toNat).toNat)))) dy (by omega) (r 1351) g cp (some cb) (q 838) (q 839) (some ct) (q 837) fis fge fpl fva fch f2 (by omega) f3 gk hge a
      rw [vr_pt (b := b) (o := o) f1 rfl hfc hpc] at hm
      refine xMet_post ?_ hm
      rintro v h2 (⟨h9, _⟩ | ⟨_, rfl, dy2, rfl, hp2, hps⟩)
      · exact absurd ⟨h0.1, h0.2.1, (hus a.toNat (by omega)).1.mpr h0.2.2⟩ h9
      · refine ⟨?_, ?_⟩
        · congr 2
          refine s_sm_cong _ (fun k hk => ?_)
          have h1 := (hus k (by omega)).1
          have h2 := h29 k
          show (if x_up fis a.toNat 1 k = 2 then 1 else 0) = x_up (A 29) a.toNat 0 k
          by_cases e : k = a.toNat
          · rw [e, x_up_s, x_up_s, if_neg (by omega)]
          · rw [x_up_n _ _ e, x_up_n _ _ e]
            by_cases c9 : fis k = 2
            · rw [if_pos c9]; have := h1.mp c9; omega
            · rw [if_neg c9]; by_cases z : A 29 k = 0; exact z.symm; exact absurd (h1.mpr z) c9
        · have e2 : x_up (x_up (vr b o r) 1350 (some cp)) 1351 none = vr b o (x_up r 1351 none) := by
            rw [← vr_up b o r (by omega) none (fun c hc => by cases hc)]
            congr 1
            rw [← vr_at (b := b) (o := o) (k := 1350) (by omega) f1 hfc, x_up_same]
          rw [e2]
          exact ⟨b, o, _, _, _, dy2, g, rfl, Inv_fr hI1 l hff h0 hp2 hps.1, Int.le_refl _, fun u w => by rw [hps.2.1]; exact Nat.le_add_right _ _⟩
