/-! steps: counts, bytes -/
theorem s_sm_tail {f : Nat → Int} : ∀ (m n : Nat), (∀ k, n ≤ k → k < n + m → f k = 0) → s_sm f (n + m) = s_sm f n
  | 0, n, _ => rfl
  | m + 1, n, h => by
    show s_sm f (n + m) + f (n + m) = s_sm f n
    rw [h (n + m) (by omega) (by omega), s_sm_tail m n (fun k k1 k2 => h k k1 (by omega)), Int.add_zero]
theorem s_sm_ch {f g : Nat → Int} {sz : Int} (hz : 0 ≤ sz ∧ sz ≤ 300) (h : ∀ k : Nat, k < 300 → f k = g k ∧ (sz ≤ k → g k = 0)) (h3 : f 300 = 0) : s_sm f 301 = s_sm g sz.toNat := by
  have h1 : s_sm f (sz.toNat + (301 - sz.toNat)) = s_sm f sz.toNat := s_sm_tail _ _ (fun k k1 k2 => by
    by_cases e : k = 300
    · rw [e]; exact h3
    · have := h k (by omega)
      rw [this.1, this.2 (by omega)])
  rw [show sz.toNat + (301 - sz.toNat) = 301 by omega] at h1
  rw [h1]
  exact s_sm_cong _ (fun k hk => (h k (by omega)).1)
theorem st_count {Z : xZ} {d : Nat} {n : Nat} {b o : Bool} {q : Nat → Int} {r : Nat → Option Nat} {A : Nat → Nat → Int} {dy : xH} {g : Nat → Option xE} (hd : 60 ≤ d) (hn : n < 512) (hI : Inv n q r A dy g) (k : Int) : Bth Z d Y_PF_count Y_M_count [xI k] (hF (vq b o q) (vr b o r) (vA b o A) ++ dy) (Nx (n + 1) dy (fun _ _ => 0) (q 1349)) := by
  refine bth_ok (fun hok => ?_)
  obtain ⟨h29, h30, hB⟩ := ok_A hok
  have hRC := Inv_RC hI
  have hI1 := Inv_s hI
  have hI0 := hI
  obtain ⟨t, rr, oo, bb, gk, pt, f⟩ := hI
  have et : x_up q 1349 (q 35 - q 34) = q := x_up_id t.2.1.1.symm
  rcases f with f | ⟨l, cp, cb, ct, fis, fge, fpl, fva, fch, fb, f⟩
  · have hr1 := iP_no pt f.2.2.2.2.2.2
    have er := vr_no (b := b) (o := o) f.1 hr1
    obtain ⟨f1, f2, f3, f4, f5, f6, f7⟩ := f
    have hc := c_PF_count Z d q r A (vd b o dy) (by omega) k (by omega) (by omega) bb.1.1 (fun k k1 k2 => absurd k1 (by omega))
    rw [hRC] at hc
    have hm := c_M_countN Z d (vq b o q) (vr b o r) (vA b o A) dy (by omega) none k
    rw [er] at hm
    refine bth_eq rfl hc (xMet_post ?_ hm)
    rintro v h2 ⟨rfl, rfl⟩
    refine ⟨?_, Nx_i hI1⟩
    rw [f2, f3, f4.1]
    congr 2
    have e1 : ∀ f : Nat → Int, s_sm f (0 : Int).toNat = 0 := fun _ => rfl
    rw [e1, e1, e1, Int.sub_self]
    (repeat' split) <;> omega
  · obtain ⟨f1, f2, f3, f4, f5, f6, f7, f8, f9, f10, f11⟩ := f
    obtain ⟨l1, l2, l3⟩ := iL_f l
    have hcp : 52 ≤ cp := f2.1.1
    have hT : 0 ≤ q 34 ∧ q 34 ≤ q 35 ∧ q 35 ≤ 10248 := by have := t.1; omega
    have hus : ∀ k : Nat, (k : Int) < q 837 → (fis k = 2 ↔ ¬ A 29 k = 0) ∧ A 28 k = fge k := fun k hk => ⟨(f8 k (by omega)).1, (f8 k (by omega)).2.1.symm⟩
    have hva : ∀ k : Nat, (k : Int) < q 837 → ¬ A 29 k = 0 → ∃ c2, fva k = some c2 ∧ Tr (A 2) (q 34) g A 9 (A 27 k) c2 := fun k k1 k2 => (f10 k k1 k2).1
    have hfc : ∀ c, some cp = some c → 42 ≤ c := fun c hc => by cases hc; omega
    have hc := c_PF_count Z d q r A (vd b o dy) (by omega) k (by omega) (by omega) bb.1.1 (fun k k1 k2 => ⟨(l2 k k1 k2).1, (l2 k k1 k2).2.1⟩)
    rw [hRC] at hc
    have hpc : ∀ c, r 1351 = some c → 42 ≤ c := fun c hc => by
      rcases pt with ⟨_, z⟩ | ⟨_, c2, z, zt⟩
      · rw [z] at hc; cases hc
      · rw [z] at hc; cases hc; have := Tr_52 gk zt; omega
    have hfb : ∀ k, fch k = 0 ∨ fch k = 1 := fun k => hok (xA 2 301 fch) (List.mem_of_getElem? (ct_get f2.2.2.2.2.2 _ _ _)) k
    have hm := c_M_count Z d (vq b o q) (vr b o r) (vA b o A) dy (by omega) (r 1351) cp cb (q 842 - q 841).toNat (q 838) (q 839) (some ct) (q 837) fis fge fpl fva fch fb f2 (by omega) hfb (A 2) (q 34) g A gk (A 27) (A 29) (fun k hk => (hus k hk).1) (fun k k1 k2 => by obtain ⟨c2, e1, e2⟩ := hva k k1 k2; exact ⟨c2, e1, e2, (l2 k k1 k2).2.2.1, (l2 k k1 k2).2.2.2⟩) f4.1 (by omega) k
    rw [vr_pt (b := b) (o := o) f1 rfl hfc hpc] at hm
    have e1 : s_sm (fun k => if fis k = 2 then 1 else 0) (q 837).toNat = s_sm (A 29) (q 837).toNat := s_sm_cong _ (fun k hk => by
      have h1 := (hus k (by omega)).1
      by_cases c9 : fis k = 2
      · rw [if_pos c9]; have := h1.mp c9; have := h29 k; omega
      · rw [if_neg c9]; have := h29 k; by_cases z : A 29 k = 0; exact z.symm; exact absurd (h1.mpr z) c9)
    have e2 : s_sm fch 301 = s_sm (A 30) (q 837).toNat := s_sm_ch (by omega) (fun k hk => ⟨(f8 k hk).2.2.1, fun z => ((f8 k hk).2.2.2.2 z).2⟩) f9
    rw [e1, e2, show (((q 842 - q 841).toNat : Nat) : Int) = q 842 - q 841 by omega] at hm
    refine bth_eq rfl hc (xMet_post ?_ hm)
    rintro v h2 ⟨rfl, rfl⟩
    exact ⟨rfl, Nx_i hI1⟩
theorem st_state {Z : xZ} {d : Nat} {n : Nat} {b o : Bool} {q : Nat → Int} {r : Nat → Option Nat} {A : Nat → Nat → Int} {dy : xH} {g : Nat → Option xE} (hd : 60 ≤ d) (hn : n < 512) (hI : Inv n q r A dy g) (a k : Int) : Bth Z d Y_PF_state Y_M_state [xI a, xI k] (hF (vq b o q) (vr b o r) (vA b o A) ++ dy) (Nx (n + 1) dy (fun _ _ => 0) (q 1349)) := by
  refine bth_ok (fun hok => ?_)
  obtain ⟨h29, h30, hB⟩ := ok_A hok
  have hRC := Inv_RC hI
  have hI1 := Inv_s hI
  have hI0 := hI
  obtain ⟨t, rr, oo, bb, gk, pt, f⟩ := hI
  have et : x_up q 1349 (q 35 - q 34) = q := x_up_id t.2.1.1.symm
  rcases f with f | ⟨l, cp, cb, ct, fis, fge, fpl, fva, fch, fb, f⟩
  · have hr1 := iP_no pt f.2.2.2.2.2.2
    have er := vr_no (b := b) (o := o) f.1 hr1
    have hc := c_PF_state Z d q r A (vd b o dy) a k (by have := f.2.1; omega)
    rw [hRC] at hc
    have hm := c_M_stateN Z d (vq b o q) (vr b o r) (vA b o A) dy (by omega) none a k
    rw [er] at hm
    refine bth_eq rfl hc (xMet_post ?_ hm)
    rintro v h2 ⟨rfl, rfl⟩
    refine ⟨?_, Nx_i hI1⟩
    rw [if_pos (show ¬ (0 ≤ a ∧ a < q 837) by have := f.2.1; omega)]
  · obtain ⟨f1, f2, f3, f4, f5, f6, f7, f8, f9, f10, f11⟩ := f
    obtain ⟨l1, l2, l3⟩ := iL_f l
    have hcp : 52 ≤ cp := f2.1.1
    have hT : 0 ≤ q 34 ∧ q 34 ≤ q 35 ∧ q 35 ≤ 10248 := by have := t.1; omega
    have hus : ∀ k : Nat, (k : Int) < q 837 → (fis k = 2 ↔ ¬ A 29 k = 0) ∧ A 28 k = fge k := fun k hk => ⟨(f8 k (by omega)).1, (f8 k (by omega)).2.1.symm⟩
    have hva : ∀ k : Nat, (k : Int) < q 837 → ¬ A 29 k = 0 → ∃ c2, fva k = some c2 ∧ Tr (A 2) (q 34) g A 9 (A 27 k) c2 := fun k k1 k2 => (f10 k k1 k2).1
    have hfc : ∀ c, some cp = some c → 42 ≤ c := fun c hc => by cases hc; omega
    have hc := c_PF_state Z d q r A (vd b o dy) a k (by omega)
    rw [hRC] at hc
    have hpc : ∀ c, r 1351 = some c → 42 ≤ c := fun c hc => by
      rcases pt with ⟨_, z⟩ | ⟨_, c2, z, zt⟩
      · rw [z] at hc; cases hc
      · rw [z] at hc; cases hc; have := Tr_52 gk zt; omega
    have hm := c_M_state Z d (vq b o q) (vr b o r) (vA b o A) dy (by omega) (r 1351) cp (some cb) (q 838) (q 839) (some ct) (q 837) fis fge fpl fva fch f2 (by omega) a k
    rw [vr_pt (b := b) (o := o) f1 rfl hfc hpc] at hm
    refine bth_eq rfl hc (xMet_post ?_ hm)
    rintro v h2 ⟨rfl, rfl⟩
    refine ⟨?_, Nx_i hI1⟩
    congr 2
    by_cases c1 : ¬ (0 ≤ k ∧ k ≤ 2)
    · rw [if_pos c1, if_pos c1]
    · rw [if_neg c1, if_neg c1]
      by_cases c2 : ¬ (0 ≤ a ∧ a < q 837)
      · rw [if_pos c2, if_pos c2]
      · rw [if_neg c2, if_neg c2]
        obtain ⟨g1, g2, g3, -⟩ := f8 a.toNat (by omega)
        have g4 := h29 a.toNat
        have g5 := h30 a.toNat
        rw [g2, g3]
        by_cases k0 : k = 0
        · rw [if_pos k0, if_pos k0]
          by_cases c9 : fis a.toNat = 2
          · rw [if_pos c9]; have := g1.mp c9; omega
          · rw [if_neg c9]; by_cases z : A 29 a.toNat = 0; exact z.symm; exact absurd (g1.mpr z) c9
        · rw [if_neg k0, if_neg k0]
          by_cases k1 : k = 1
          · rw [if_pos k1, if_pos k1]
          · rw [if_neg k1, if_neg k1]
            by_cases z : A 30 a.toNat = 0
            · rw [if_pos z, z]
            · rw [if_neg z]; omega
theorem Inv_out {n : Nat} {q : Nat → Int} {r : Nat → Option Nat} {A : Nat → Nat → Int} {dy : xH} {g : Nat → Option xE} {m : Int} {f f2 : Nat → Int} (h : Inv n q r A dy g) (hm : 0 ≤ m ∧ m ≤ 6000) (hf : ∀ k : Nat, (k : Int) < m → f k = f2 k) : Inv n (x_up (x_up (x_up (x_up q 1217 m) 1218 0) 1219 6000) 1353 m) r (x_up (x_up A 39 f) 45 f2) dy g := by
  obtain ⟨t, rr, oo, bb, gk, pt, f⟩ := h
  exact ⟨t, rr, ⟨rfl, hm, hf⟩, bb, gk, pt, f⟩
theorem st_bytes {Z : xZ} {d : Nat} {n : Nat} {b o : Bool} {q : Nat → Int} {r : Nat → Option Nat} {A : Nat → Nat → Int} {dy : xH} {g : Nat → Option xE} (hd : 60 ≤ d) (hn : n < 512) (hI : Inv n q r A dy g) (k : Int) : Bth Z d Y_PF_bytes Y_M_bytes [xI k] (hF (vq b o q) (vr b o r) (vA b o A) ++ dy) (Nx (n + 1) dy (fun _ _ => 0) (q 1349)) := by
  have hRC := Inv_RC hI
  have hI1 := Inv_s hI
  have hI0 := hI
  obtain ⟨t, rr, oo, bb, gk, pt, f⟩ := hI
  have et : x_up q 1349 (q 35 - q 34) = q := x_up_id t.2.1.1.symm
  have hT : 0 ≤ q 34 ∧ q 34 ≤ q 35 ∧ q 35 ≤ 10248 := by have := t.1; omega
  have hfo : ∀ c, r 1350 = some c → 42 ≤ c := fun c hc => by
    rcases f with f | ⟨l, cp, cb, ct, fis, fge, fpl, fva, fch, fb, f⟩
    · rw [f.1] at hc; cases hc
    · rw [f.1] at hc; cases hc; have := f.2.1.1.1; omega
  rcases pt with ⟨p1, p2⟩ | ⟨⟨p11, p12, p13, p14⟩, c, p2, p3⟩
  · have hc := c_PF_bytesN Z d q r A (vd b o dy) k (by omega)
    rw [hRC] at hc
    have hm := c_M_bytesN Z d (vq b o q) (vr b o r) (vA b o A) dy k (r 1350)
    rw [vr_pt (b := b) (o := o) rfl p2 hfo (fun c hc => by cases hc)] at hm
    refine bth_eq rfl hc (xMet_post ?_ hm)
    rintro v h2 ⟨rfl, rfl⟩
    exact ⟨rfl, Nx_i hI1⟩
  · have hcc := Tr_52 gk p3
    have p1 : 0 ≤ q 11 ∧ q 11 < 12900 ∧ s_bh (A 8) (q 11) ≤ 12900 := ⟨p11, p12, p13⟩
    have hc := c_PF_bytes Z d q r A (vd b o dy) (by omega) k hT t.2.2.2.2.2 bb.1.1 p1 (q 34) g c p3 (by omega)
    rw [hRC] at hc
    refine bth_view b o rfl hc (fun v h2 hh => ?_)
    rcases hh with ⟨hs, rfl, rfl⟩ | ⟨bs, f2, hs, rfl, rfl, hf2⟩
    · refine ⟨-2, q, r, A, rfl, rfl, ?_⟩
      have hm := c_M_bytes Z d (vq b o q) (vr b o r) (vA b o A) dy (by omega) (r 1350) (A 2) (q 34) g A gk 8 (by omega) (q 11) c p3 k (q 35) (by omega)
      rw [vr_pt (b := b) (o := o) rfl p2 hfo (fun c2 hc2 => by cases hc2; omega)] at hm
      refine xMet_post ?_ hm
      rintro v h2 (⟨_, rfl, rfl⟩ | ⟨bs, _, h0, _⟩)
      · exact ⟨rfl, Nx_i hI1⟩
      · rw [hs] at h0; cases h0
    · refine ⟨(bs.length : Int), _, r, _, rfl, rfl, ?_⟩
      have hm := c_M_bytes Z d (vq b o (x_up (x_up (x_up q 1217 (bs.length : Int)) 1218 0) 1219 6000)) (vr b o r) (vA b o (x_up A 39 f2)) dy (by omega) (r 1350) (A 2) (q 34) g A gk 8 (by omega) (q 11) c p3 k (q 35) (by omega)
      rw [vr_pt (b := b) (o := o) rfl p2 hfo (fun c2 hc2 => by cases hc2; omega)] at hm
      refine xMet_post ?_ hm
      rintro v h2 (⟨h0, _⟩ | ⟨bs2, f3, h0, rfl, hl, rfl, hf3⟩)
      · rw [hs] at h0; cases h0
      · rw [hs] at h0
        cases h0
        refine ⟨rfl, ?_⟩
        rw [vq_up b o _ (by omega), vA_up b o _ (by omega)]
        exact Nx_i (Inv_out hI1 (by omega) (fun j hj => by rw [hf2 j (by omega), hf3 j (by omega)]))
