/-! steps: put, in both -/
theorem s_sm_le {f g : Nat → Int} (h : ∀ k, f k ≤ g k) : ∀ n : Nat, s_sm f n ≤ s_sm g n
  | 0 => Int.le_refl _
  | n + 1 => by
    have h1 := s_sm_le h n
    have h2 := h n
    show s_sm f n + f n ≤ s_sm g n + g n
    omega
theorem pbn_in {U R sp : Nat → Int} {a sz : Int} (hs : ∀ k, 0 ≤ sp k) : 0 ≤ s_sm (s_pbf U R sp a) sz.toNat ∧ s_sm (s_pbf U R sp a) sz.toNat ≤ s_sm (s_pbf U R sp (-1)) sz.toNat := by
  refine ⟨?_, s_sm_le (fun k => ?_) _⟩
  · have : s_sm (fun _ => 0) sz.toNat ≤ s_sm (s_pbf U R sp a) sz.toNat := s_sm_le (fun k => by
      unfold s_pbf
      split
      · exact hs _
      · exact Int.le_refl _) _
    have e : s_sm (fun _ => 0) sz.toNat = 0 := by
      generalize sz.toNat = m
      induction m with
      | zero => rfl
      | succ m ih => show s_sm (fun _ => 0) m + 0 = 0; rw [ih]; rfl
    omega
  · unfold s_pbf
    have h0 := hs (R k).toNat
    by_cases z : ¬ U k = 0
    · rw [if_pos (show ¬ U k = 0 ∧ ¬ (k : Int) = -1 from ⟨z, by omega⟩)]
      split <;> omega
    · rw [if_neg (fun w => z w.1), if_neg (fun w => z w.1)]
      exact Int.le_refl _
theorem tkq_hi {q : Nat → Int} {A : Nat → Nat → Int} {n p w : Int} {q2 : Nat → Int} {A2 : Nat → Nat → Int} (h : tkq q A n p w q2 A2) : q2 1349 = q 1349 ∧ A2 44 = A 44 := by
  rcases h with ⟨_, rfl, rfl⟩ | ⟨_, rfl, rfl⟩ <;> exact ⟨rfl, rfl⟩
theorem Inv_at {n : Nat} {q : Nat → Int} {r : Nat → Option Nat} {A : Nat → Nat → Int} {dy : xH} {g : Nat → Option xE} {N j : Int} {tk : Nat → Int} (h : Inv n q r A dy g) (hj : 0 ≤ j ∧ j ≤ 4000) : Inv n (x_up (x_up q 1345 N) 1346 j) (x_up r 1344 (some 44)) (x_up A 43 tk) dy g := by
  obtain ⟨t, rr, oo, bb, gk, pt, f⟩ := h
  exact ⟨t, rr, oo, ⟨bb.1, hj, bb.2.2⟩, gk, pt, f⟩
theorem Inv_at2 {n : Nat} {q : Nat → Int} {r : Nat → Option Nat} {A : Nat → Nat → Int} {dy : xH} {g : Nat → Option xE} {N j : Int} (h : Inv n q r A dy g) (hj : 0 ≤ j ∧ j ≤ 4000) : Inv n (x_up (x_up q 1345 N) 1346 j) (x_up r 1344 (some 44)) A dy g := by
  obtain ⟨t, rr, oo, bb, gk, pt, f⟩ := h
  exact ⟨t, rr, oo, ⟨bb.1, hj, bb.2.2⟩, gk, pt, f⟩
theorem st_put {Z : xZ} {d : Nat} {n : Nat} {b o : Bool} {q : Nat → Int} {r : Nat → Option Nat} {A : Nat → Nat → Int} {dy : xH} {g : Nat → Option xE} (hd : 60 ≤ d) (hn : n < 512) (hI : Inv n q r A dy g) (a : Int) : Bth Z d Y_PF_put Y_M_put [xI a] (hF (vq b o q) (vr b o r) (vA b o A) ++ dy) (Nx (n + 1) dy (fun u w => k_val u w (A 2) (q 35) 8 (s_sc s_white (A 2) (q 35) (q 34))) 0) := by
  refine bth_ok (fun hok => ?_)
  obtain ⟨h29, h30, hB⟩ := ok_A hok
  have hRC := Inv_RC hI
  have hI1 := Inv_s hI
  have hI0 := hI
  obtain ⟨t, rr, oo, bb, gk, pt, f⟩ := hI
  have et : x_up q 1349 (q 35 - q 34) = q := x_up_id t.2.1.1.symm
  rcases f with f | ⟨l, cp, cb, ct, fis, fge, fpl, fva, fch, fb, f⟩
  · have hr1 := iP_no pt f.2.2.2.2.2.2
    have er := vr_no (b := b) (o := o) f.1 hr1
    have hp0 := pbn_in (U := A 29) (R := A 27) (sp := A 8) (a := a) (sz := q 837) (fun k => (bb.1.1 k).1)
    have hc := c_PF_put Z d q r A (vd b o dy) (by omega) a (by have := t.1; omega) (by have := t.2.1; omega) t.2.2.2.2.2 hB bb.1 (by have := f.2.2.2.2.1; omega) (by have := f.2.1; omega) bb.2.2.2.2.1 (by have := f.2.2.2.2.2.1; omega) (fun k k1 _ => absurd k1 (by have := f.2.1; omega)) ⟨hp0.1, by rw [f.2.1]; show (0 : Int) ≤ 900; omega⟩
    rw [hRC, if_pos (show ¬ 0 < q 837 by have := f.2.1; omega)] at hc
    refine bth_view b o rfl hc (fun v h2 hh => ?_)
    rcases hh with ⟨a', P2, ha', rfl, hk, ho, rfl⟩ | ⟨ts, _, _, _, h0, _⟩
    · cases ha'
      refine ⟨-2, _, _, _, rfl, rfl, ?_⟩
      have hm := c_M_putN Z d (vq b o (x_up q 35 (q 34))) (vr b o r) (vA b o (s_pt A P2)) dy (by omega) none a
      rw [er] at hm
      refine xMet_post ?_ hm
      rintro v h2 ⟨rfl, rfl⟩
      refine ⟨rfl, ?_⟩
      rw [vq_up b o _ (by omega), vq_up b o _ (by omega), vq_up b o _ (by omega), vr_up b o r (by omega) (some 44) (fun c hc => by cases hc; omega)]
      exact Nx_i (Inv_at2 (Inv_keep (Inv_drop hI1) hk ho gk (fun _ _ _ _ _ _ _ _ _ _ _ z _ => z)) (by omega))
    · cases h0
  · have hff := f
    obtain ⟨f1, f2, f3, f4, f5, f6, f7, f8, f9, f10, f11⟩ := f
    obtain ⟨l1, l2, l3⟩ := iL_f l
    have hcp : 52 ≤ cp := f2.1.1
    have hT : 0 ≤ q 34 ∧ q 34 ≤ q 35 ∧ q 35 ≤ 10248 := by have := t.1; omega
    have hus : ∀ k : Nat, (k : Int) < q 837 → (fis k = 2 ↔ ¬ A 29 k = 0) ∧ A 28 k = fge k := fun k hk => ⟨(f8 k (by omega)).1, (f8 k (by omega)).2.1.symm⟩
    have hva : ∀ k : Nat, (k : Int) < q 837 → ¬ A 29 k = 0 → ∃ c2, fva k = some c2 ∧ Tr (A 2) (q 34) g A 9 (A 27 k) c2 := fun k k1 k2 => (f10 k k1 k2).1
    have hfc : ∀ c, some cp = some c → 42 ≤ c := fun c hc => by cases hc; omega
    have hpc : ∀ c, r 1351 = some c → 42 ≤ c := fun c hc => by
      rcases pt with ⟨_, z⟩ | ⟨_, c2, z, zt⟩
      · rw [z] at hc; cases hc
      · rw [z] at hc; cases hc; have := Tr_52 gk zt; omega
    have hp0 := pbn_in (U := A 29) (R := A 27) (sp := A 8) (a := a) (sz := q 837) (fun k => (bb.1.1 k).1)
    have hpm : 0 ≤ s_sm (s_pbf (A 29) (A 27) (A 8) a) (q 837).toNat ∧ s_sm (s_pbf (A 29) (A 27) (A 8) a) (q 837).toNat ≤ 900 := ⟨hp0.1, by have := l.2.2.2.2.2; omega⟩
    have hc := c_PF_put Z d q r A (vd b o dy) (by omega) a hT (by have := t.2.1; omega) t.2.2.2.2.2 hB bb.1 (by omega) (by omega) bb.2.2.2.2.1 (by omega) (fun k k1 k2 => by have := l.1 k k1 k2; omega) hpm
    rw [hRC, if_neg (show ¬ ¬ 0 < q 837 by omega)] at hc
    have hva2 : ∀ k : Nat, (k : Int) < q 837 → ¬ A 29 k = 0 → ∃ c2, fva k = some c2 ∧ Tr (A 2) (q 34) g A 9 (A 27 k) c2 ∧ s_bh (A 8) (A 27 k) ≤ 12900 ∧ 1 ≤ A 8 (A 27 k).toNat := fun k k1 k2 => by
      obtain ⟨c2, e1, e2⟩ := hva k k1 k2
      exact ⟨c2, e1, e2, (l2 k k1 k2).2.2.1, (l2 k k1 k2).2.2.2⟩
    have h13 := t.2.1
    have href : ∀ (q1 : Nat → Int) (A1 : Nat → Nat → Int), q1 1349 = q 1349 → A1 44 = A 44 → xMet Z d Y_M_put [xC 42, xI a] (hF (vq b o q1) (vr b o r) (vA b o A1) ++ dy) (puq (vq b o q1) (vr b o r) (vA b o A1) dy (r 1351) cp (some cb) (q 838) (q 839) (some ct) (q 837) fis fge fpl fva fch (A 2) g (q 34) a (if 0 ≤ a ∧ a ≤ q 837 ∧ a < 300 then s_put (A 2) (q 35) (q 34) (s_sm (s_pbf (A 29) (A 27) (A 8) a) (q 837).toNat) else .inl (-1))) := fun q1 A1 e1 e2 => by
      have e3 : vq b o q1 1349 = q 1349 := by rw [vq_hi b o q1 (by omega), e1]
      have hm := c_M_put Z d (vq b o q1) (vr b o r) (vA b o A1) dy (by omega) (r 1351) (A 2) (q 34) g A gk cp (some cb) (q 838) (q 839) (some ct) (q 837) fis fge fpl fva fch f2 (by omega) f3 (A 27) (A 29) (fun k hk => (hus k hk).1) hva2 a hpm (q 34) (by omega) (by rw [e3]; omega) (fun k hk => by rw [vA_hi b o A1 (by omega), e2]; rw [e3] at hk; exact t.2.2.1 k hk) hB (by rw [e3]; omega)
      rw [vr_pt (b := b) (o := o) f1 rfl hfc hpc, e3, show q 34 + q 1349 = q 35 by omega] at hm
      exact hm
    have er2 : ∀ po : Option Nat, (∀ c, po = some c → 42 ≤ c) → x_up (x_up (x_up (vr b o r) 1350 (some cp)) 1351 po) 1344 (some 44) = vr b o (x_up (x_up r 1351 po) 1344 (some 44)) := fun po hpo => by
      rw [← vr_up b o _ (by omega) (some 44) (fun c hc => by cases hc; omega), ← vr_up b o r (by omega) po hpo]
      congr 2
      rw [← vr_at (b := b) (o := o) (k := 1350) (by omega) f1 hfc, x_up_same]
    refine bth_view b o rfl hc (fun v h2 hh => ?_)
    rcases hh with ⟨a', P2, ha', rfl, hk, ho, rfl⟩ | ⟨ts, P2, q2, A2, hts, rfl, hk, ho, hat, htk, rfl⟩
    · refine ⟨a', _, _, _, rfl, rfl, ?_⟩
      refine xMet_post ?_ (href (x_up q 35 (q 34)) (s_pt A P2) rfl rfl)
      rintro v h2 ⟨j2, tk2, dy2, hj2, hmu, ⟨a2, h0, rfl, rfl, hg2, hp2⟩ | ⟨ts, _, _, h0, _⟩⟩
      · rw [ha'] at h0
        cases h0
        refine ⟨rfl, ?_⟩
        have hI2 : Inv (n + 1) q r A dy2 g := ⟨hI1.1, rr, oo, bb, hg2, pt, Or.inr ⟨l, cp, cb, ct, fis, fge, fpl, fva, fch, fb, f1, hp2, f3, f4, f5, f6, f7, f8, f9, f10, f11⟩⟩
        rw [er2 (r 1351) hpc, x_up_same r 1351, vq_up b o _ (by omega), vq_up b o _ (by omega), vq_up b o _ (by omega), vA_up b o _ (by omega)]
        refine ⟨b, o, _, _, _, dy2, g, rfl, Inv_at (Inv_keep (Inv_drop hI2) hk ho hg2 (fun _ _ _ _ _ _ _ _ _ _ _ z _ => z)) hj2, Int.le_refl _, fun u w => ?_⟩
        have e3 : vq b o (x_up q 35 (q 34)) 1349 = q 1349 := vq_hi b o _ (by omega)
        have := hmu u w
        rw [e3, show q 34 + q 1349 = q 35 by omega] at this
        exact this
      · rw [ha'] at h0; cases h0
    · obtain ⟨e5, e6⟩ := tkq_hi htk
      refine ⟨_, _, _, _, rfl, rfl, ?_⟩
      refine xMet_post ?_ (href (x_up (x_up q2 34 (q 35)) 11 (-1)) A2 e5 e6)
      rintro v h2 ⟨j2, tk2, dy2, hj2, hmu, ⟨a2, h0, _⟩ | ⟨ts2, c, g2, h0, rfl, rfl, hg, hg2, hnp, hp2, hT2⟩⟩
      · rw [hts] at h0; cases h0
      · rw [hts] at h0
        cases h0
        refine ⟨rfl, ?_⟩
        by_cases hmay : 0 ≤ a ∧ a ≤ q 837 ∧ a < 300
        · rw [if_pos hmay] at hts
          obtain ⟨p1, p2, p3, p4⟩ := put_in hB hts
          have e3 : vq b o (x_up (x_up q2 34 (q 35)) 11 (-1)) 1349 = q 1349 := by rw [vq_hi b o _ (by omega)]; exact e5
          rw [e3, show q 34 + q 1349 = q 35 by omega] at hT2
          have hI2 := Inv_put hI1 l hff hmay hk ho hat htk p1 p2 p3 hT2 ⟨fun z => absurd rfl z, fun z => absurd z p4⟩ hg hg2 hnp hp2
          rw [er2 none (fun c hc => by cases hc), vq_up b o _ (by omega), vq_up b o _ (by omega), vq_up b o _ (by omega), vA_up b o _ (by omega)]
          refine ⟨b, o, _, _, _, dy2, g2, rfl, Inv_at hI2 hj2, Int.le_refl _, fun u w => ?_⟩
          have := hmu u w
          rw [e3, show q 34 + q 1349 = q 35 by omega] at this
          exact this
        · rw [if_neg hmay] at hts; cases hts
