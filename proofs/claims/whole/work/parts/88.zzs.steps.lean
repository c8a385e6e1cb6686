/-! steps: pour -/
theorem qbn_in {U D R two : Nat → Int} {a sz : Int} (hz : 0 ≤ sz ∧ sz ≤ 300) (h : ∀ k : Nat, (k : Int) < sz → ¬ U k = 0 → ¬ D k = 0 → 0 ≤ two (R k).toNat ∧ two (R k).toNat ≤ 4000) : 0 ≤ s_sm (s_qbf U D R two a) sz.toNat ∧ s_sm (s_qbf U D R two a) sz.toNat ≤ 1200000 := by
  have e : s_sm (s_qbf U D R two a) sz.toNat = s_sm (s_zx (s_qbf U D R two a) sz.toNat) sz.toNat := s_sm_cong _ (fun k hk => by unfold s_zx; rw [if_pos hk])
  have h1 := s_sm_in (f := s_zx (s_qbf U D R two a) sz.toNat) (m := 4000) (fun k => by
    unfold s_zx s_qbf
    split
    · next c =>
      split
      · next z => exact h k (by omega) z.1 z.2.1
      · omega
    · omega) sz.toNat
  rw [e]
  omega
theorem st_pour {Z : xZ} {d : Nat} {n : Nat} {b o : Bool} {q : Nat → Int} {r : Nat → Option Nat} {A : Nat → Nat → Int} {dy : xH} {g : Nat → Option xE} (hd : 60 ≤ d) (hn : n < 512) (hI : Inv n q r A dy g) (a : Int) : Bth Z d Y_PF_pour Y_M_pour [xI a] (hF (vq b o q) (vr b o r) (vA b o A) ++ dy) (Nx (n + 1) dy (fun u w => 6 * u + (22 + (q 1349).toNat) * w) 0) := by
  refine bth_ok (fun hok => ?_)
  obtain ⟨h29, h30, hB⟩ := ok_A hok
  have hRC := Inv_RC hI
  have hI1 := Inv_s hI
  have hI0 := hI
  obtain ⟨t, rr, oo, bb, gk, pt, f⟩ := hI
  have et : x_up q 1349 (q 35 - q 34) = q := x_up_id t.2.1.1.symm
  rcases f with f | ⟨l, cp, cb, ct, fis, fge, fpl, fva, fch, fb, f⟩
  · have hr1 := iP_no pt f.2.2.2.2.2.2
    have er := vr_no (b := b) (o := o) f.1 hr1
    have hp0 := pbn_in (U := A 29) (R := A 27) (sp := A 8) (a := a) (sz := q 837) (fun k => (bb.1.1 k).1)
    have hc := c_PF_pour Z d q r A (vd b o dy) (by omega) a (by have := t.1; omega) (by have := t.2.1; omega) t.2.2.2.2.2 hB bb.1 (by have := f.2.2.2.2.1; omega) (by have := f.2.1; omega) bb.2.2.2.2.1 (by have := f.2.2.2.2.2.1; omega) (fun k k1 _ => absurd k1 (by have := f.2.1; omega)) ⟨hp0.1, by rw [f.2.1]; show (0 : Int) ≤ 900; omega⟩ (by rw [f.2.1]; show (0 : Int) ≤ 0 ∧ (0 : Int) ≤ 1200000; omega) (fun k k1 _ _ => absurd k1 (by have := f.2.1; omega))
    rw [hRC, if_pos (show ¬ 0 < q 837 by have := f.2.1; omega)] at hc
    refine bth_view b o rfl hc (fun v h2 hh => ?_)
    rcases hh with ⟨a', P2, ha', rfl, hk, ho, rfl⟩ | ⟨ts, _, _, _, h0, _⟩
    · cases ha'
      refine ⟨-2, _, _, _, rfl, rfl, ?_⟩
      have hm := c_M_pourN Z d (vq b o (x_up q 35 (q 34))) (vr b o r) (vA b o (s_pt A P2)) dy (by omega) none a
      rw [er] at hm
      refine xMet_post ?_ hm
      rintro v h2 ⟨rfl, rfl⟩
      refine ⟨rfl, ?_⟩
      rw [vq_up b o _ (by omega)]
      exact Nx_i (Inv_keep (Inv_drop hI1) hk ho gk (fun _ _ _ _ _ _ _ _ _ _ _ z _ => z))
    · cases h0
  · have hff := f
    obtain ⟨f1, f2, f3, f4, f5, f6, f7, f8, f9, f10, f11⟩ := f
    obtain ⟨l1, l2, l3⟩ := iL_f l
    have hcp : 52 ≤ cp := f2.1.1
    have hT : 0 ≤ q 34 ∧ q 34 ≤ q 35 ∧ q 35 ≤ 10248 := by have := t.1; omega
    have hus : ∀ k : Nat, (k : Int) < q 837 → (fis k = 2 ↔ ¬ A 29 k = 0) ∧ A 28 k = fge k := fun k hk => ⟨(f8 k (by omega)).1, (f8 k (by omega)).2.1.symm⟩
    have hva : ∀ k : Nat, (k : Int) < q 837 → ¬ A 29 k = 0 → ∃ c2, fva k = some c2 ∧ Tr (A 2) (q 34) g A 9 (A 27 k) c2 := fun k k1 k2 => (f10 k k1 k2).1
    have hfc : ∀ c, some cp = some c → 42 ≤ c := fun c hc => by cases hc; omega
    have hpc : ∀ c, r 1351 = some c → 42 ≤ c := fun c hc => by
      rcases pt with ⟨_, z⟩ | ⟨_, c2, z, zt⟩
      · rw [z] at hc; cases hc
      · rw [z] at hc; cases hc; have := Tr_52 gk zt; omega
    have hp0 := pbn_in (U := A 29) (R := A 27) (sp := A 8) (a := a) (sz := q 837) (fun k => (bb.1.1 k).1)
    have hpm : 0 ≤ s_sm (s_pbf (A 29) (A 27) (A 8) a) (q 837).toNat ∧ s_sm (s_pbf (A 29) (A 27) (A 8) a) (q 837).toNat ≤ 900 := ⟨hp0.1, by have := l.2.2.2.2.2; omega⟩
    have hpd : ∀ k : Nat, (k : Int) < q 837 → ¬ A 29 k = 0 → ¬ A 31 k = 0 → 0 ≤ A 7 (A 27 k).toNat ∧ A 7 (A 27 k).toNat ≤ 4000 := fun k k1 k2 k3 => by
      obtain ⟨⟨c2, e1, e2⟩, e3⟩ := f10 k k1 k2
      obtain ⟨_, _, _, _, _, _, _, _, hL, _⟩ := Tr_o e2
      obtain ⟨_, a2, a3, _⟩ := hL.2.2.2.1 (Or.inr (e3.mp k3).2)
      exact ⟨a2, a3⟩
    have hqm := qbn_in (U := A 29) (D := A 31) (R := A 27) (two := A 7) (a := a) (sz := q 837) (by omega) hpd
    have hc := c_PF_pour Z d q r A (vd b o dy) (by omega) a hT (by have := t.2.1; omega) t.2.2.2.2.2 hB bb.1 (by omega) (by omega) bb.2.2.2.2.1 (by omega) (fun k k1 k2 => by have := l.1 k k1 k2; omega) hpm hqm hpd
    rw [hRC, if_neg (show ¬ ¬ 0 < q 837 by omega), t.2.1.1] at hc
    have hva2 : ∀ k : Nat, (k : Int) < q 837 → ¬ A 29 k = 0 → ∃ c2, fva k = some c2 ∧ Tr (A 2) (q 34) g A 9 (A 27 k) c2 ∧ s_bh (A 8) (A 27 k) ≤ 12900 ∧ 1 ≤ A 8 (A 27 k).toNat := fun k k1 k2 => by
      obtain ⟨c2, e1, e2⟩ := hva k k1 k2
      exact ⟨c2, e1, e2, (l2 k k1 k2).2.2.1, (l2 k k1 k2).2.2.2⟩
    have hpd2 : ∀ k : Nat, (k : Int) < q 837 → ¬ A 29 k = 0 → (¬ A 31 k = 0 ↔ ¬ fch k = 0 ∧ A 5 (A 27 k).toNat = 9) := fun k k1 k2 => by rw [(f8 k (by omega)).2.2.1]; exact (f10 k k1 k2).2
    have h13 := t.2.1
    have h80 := t.1.1
    have href : ∀ (q1 : Nat → Int) (A1 : Nat → Nat → Int), q1 1349 = q 1349 → A1 44 = A 44 → xMet Z d Y_M_pour [xC 42, xI a] (hF (vq b o q1) (vr b o r) (vA b o A1) ++ dy) (prq (vq b o q1) (vr b o r) (vA b o A1) dy (r 1351) cp (some cb) (q 838) (q 839) (some ct) (q 837) fis fge fpl fva fch (A 2) g (q 34) a (if 0 ≤ a ∧ a ≤ q 837 ∧ a < 300 then (if 4000 < s_sm (s_qbf (A 29) (A 31) (A 27) (A 7) a) (q 837).toNat + q 1349 ∨ 900 < s_sm (s_pbf (A 29) (A 27) (A 8) a) (q 837).toNat + 2 then .inl (-3) else .inr (s_prd (q 34) (q 1349))) else .inl (-1))) := fun q1 A1 e1 e2 => by
      have e3 : vq b o q1 1349 = q 1349 := by rw [vq_hi b o q1 (by omega), e1]
      have hm := c_M_pour Z d (vq b o q1) (vr b o r) (vA b o A1) dy (by omega) (r 1351) (A 2) (q 34) g A gk cp (some cb) (q 838) (q 839) (some ct) (q 837) fis fge fpl fva fch f2 (by omega) f3 (A 27) (A 29) (A 31) (fun k hk => (hus k hk).1) hva2 hpd2 a hpm hqm (q 34) (by omega) (by rw [e3]; omega) (fun k hk => by rw [vA_hi b o A1 (by omega), e2]; rw [e3] at hk; exact t.2.2.1 k hk) hB (by rw [e3]; omega) t.2.2.2.1 t.2.2.2.2.1
      rw [vr_pt (b := b) (o := o) f1 rfl hfc hpc, e3] at hm
      exact hm
    have er2 : ∀ po : Option Nat, (∀ c, po = some c → 42 ≤ c) → x_up (x_up (vr b o r) 1350 (some cp)) 1351 po = vr b o (x_up r 1351 po) := fun po hpo => by
      rw [← vr_up b o r (by omega) po hpo]
      congr 1
      rw [← vr_at (b := b) (o := o) (k := 1350) (by omega) f1 hfc, x_up_same]
    refine bth_view b o rfl hc (fun v h2 hh => ?_)
    rcases hh with ⟨a', P2, ha', rfl, hk, ho, rfl⟩ | ⟨ts, P2, q2, A2, hts, rfl, hk, ho, hat, htk, rfl⟩
    · refine ⟨a', _, _, _, rfl, rfl, ?_⟩
      refine xMet_post ?_ (href (x_up q 35 (q 34)) (s_pt A P2) rfl rfl)
      rintro v h2 ⟨dy2, hmu, ⟨a2, h0, rfl, rfl, hg2, hp2⟩ | ⟨ts, _, _, h0, _⟩⟩
      · rw [ha'] at h0
        cases h0
        refine ⟨rfl, ?_⟩
        have hI2 : Inv (n + 1) q r A dy2 g := ⟨hI1.1, rr, oo, bb, hg2, pt, Or.inr ⟨l, cp, cb, ct, fis, fge, fpl, fva, fch, fb, f1, hp2, f3, f4, f5, f6, f7, f8, f9, f10, f11⟩⟩
        rw [er2 (r 1351) hpc, x_up_same r 1351, vq_up b o _ (by omega)]
        refine ⟨b, o, _, _, _, dy2, g, rfl, Inv_keep (Inv_drop hI2) hk ho hg2 (fun _ _ _ _ _ _ _ _ _ _ _ z _ => z), Int.le_refl _, fun u w => ?_⟩
        have e3 : vq b o (x_up q 35 (q 34)) 1349 = q 1349 := vq_hi b o _ (by omega)
        have := hmu u w
        rw [e3] at this
        exact this
      · rw [ha'] at h0; cases h0
    · obtain ⟨e5, e6⟩ := tkq_hi htk
      refine ⟨_, _, _, _, rfl, rfl, ?_⟩
      refine xMet_post ?_ (href (x_up (x_up q2 34 (q 35)) 11 (-1)) A2 e5 e6)
      rintro v h2 ⟨dy2, hmu, ⟨a2, h0, _⟩ | ⟨ts2, c, g2, h0, rfl, rfl, hg, hg2, hnp, hp2, hT2⟩⟩
      · rw [hts] at h0; cases h0
      · rw [hts] at h0
        cases h0
        refine ⟨rfl, ?_⟩
        by_cases hmay : 0 ≤ a ∧ a ≤ q 837 ∧ a < 300
        · rw [if_pos hmay] at hts
          by_cases hbig : 4000 < s_sm (s_qbf (A 29) (A 31) (A 27) (A 7) a) (q 837).toNat + q 1349 ∨ 900 < s_sm (s_pbf (A 29) (A 27) (A 8) a) (q 837).toNat + 2
          · rw [if_pos hbig] at hts; cases hts
          · rw [if_neg hbig] at hts
            cases hts
            have e3 : vq b o (x_up (x_up q2 34 (q 35)) 11 (-1)) 1349 = q 1349 := by rw [vq_hi b o _ (by omega)]; exact e5
            rw [e3, show q 34 + q 1349 = q 35 by omega] at hT2
            have hI2 := Inv_put hI1 l hff hmay hk ho hat htk rfl (by show 1 ≤ 2; omega) (by show s_sm (s_pbf (A 29) (A 27) (A 8) a) (q 837).toNat + 2 ≤ 900; omega) hT2 ⟨fun _ => rfl, fun _ => by omega⟩ hg hg2 hnp hp2
            rw [er2 none (fun c hc => by cases hc), vq_up b o _ (by omega)]
            refine ⟨b, o, _, _, _, dy2, g2, rfl, hI2, Int.le_refl _, fun u w => ?_⟩
            have := hmu u w
            rw [e3] at this
            exact this
        · rw [if_neg hmay] at hts; cases hts
