/-! steps: free -/
theorem nam_cut {X : Nat → Int} {A P2 : Nat → Nat → Int} {f m T p n : Int} {cs : List Int} (hP2 : ∀ a, 5 ≤ a → a ≤ 9 → P2 a = s_cut A f m T a) (hf : 0 ≤ f ∧ 0 < m ∧ f + m ≤ T) (hp : 0 ≤ p ∧ 1 ≤ A 8 p.toNat ∧ p + A 8 p.toNat ≤ T) (hd : p + A 8 p.toNat ≤ f ∨ f + m ≤ p) (h : 0 ≤ s_nam (A 8) (A 9) X n p cs) : 0 ≤ s_nam (P2 8) (P2 9) X n (sf f m p) cs := by
  have hs0 : 0 ≤ sf f m p := by unfold sf; split <;> omega
  have hb : s_bh (fun j => A 8 (p.toNat + j)) 0 = A 8 p.toNat := by
    unfold s_bh
    show 0 + max 1 (A 8 (p.toNat + 0)) = _
    rw [Nat.add_zero]
    omega
  have e1 := s_nam_sh (sp := A 8) (nm := A 9) (sp2 := fun j => A 8 (p.toNat + j)) (nm2 := fun j => A 9 (p.toNat + j)) (b := X) (n := n) (p := p) (cs := cs) hp.1 (fun j _ => ⟨rfl, rfl⟩)
  have e2 := s_nam_sh (sp := P2 8) (nm := P2 9) (sp2 := fun j => A 8 (p.toNat + j)) (nm2 := fun j => A 9 (p.toNat + j)) (b := X) (n := n) (p := sf f m p) (cs := cs) hs0 (fun j hj => by
    rw [hb] at hj
    have h1 := cut_at (A := A) hf ⟨hp.1, hp.2.2⟩ hd (j := p + j) ⟨by omega, by omega⟩
    rw [show (p + j + (sf f m p - p)).toNat = (sf f m p).toNat + j by omega, show (p + (j : Int)).toNat = p.toNat + j by omega] at h1
    rw [hP2 8 (by omega) (by omega), hP2 9 (by omega) (by omega)]
    exact ⟨s_tok_a h1 8 (by omega) (by omega), s_tok_a h1 9 (by omega) (by omega)⟩)
  rw [e1] at h
  rw [e2]
  split at h
  · omega
  · next c => rw [if_neg c]; omega
theorem ok5_cut {A : Nat → Nat → Int} {f m T : Int} (h : s_ok5 A) : s_ok5 (s_cut A f m T) := by
  refine ⟨fun j => ?_, fun j => ?_⟩
  · unfold s_cut va_cpy
    split
    · exact h.1 _
    · exact h.1 _
  · unfold s_cut va_cpy
    split
    · exact h.2 _
    · exact h.2 _
theorem Inv_fr {n : Nat} {q : Nat → Int} {r : Nat → Option Nat} {A : Nat → Nat → Int} {dy dy2 : xH} {g : Nat → Option xE} {a : Int} {cp cb ct : Nat} {fis fge fpl : Nat → Int} {fva : Nat → Option Nat} {fch fb : Nat → Int} (h : Inv n q r A dy g) (hl : iL q A) (hf : iF q r A dy g cp cb ct fis fge fpl fva fch fb) (ha : 0 ≤ a ∧ a < q 837 ∧ ¬ A 29 a.toNat = 0) (hp2 : PB dy2 cp (some cb) (q 838) (q 839) (some ct) (q 837) (x_up fis a.toNat 1) (x_up fge a.toNat (max (fge a.toNat) (min 65535 (fge a.toNat + 1)))) fpl (x_up fva a.toNat none) (x_up fch a.toNat 1)) (hg2 : gok g dy2) : Inv n (x_up (x_up (x_up q 133 (q 133 - (A 8 (A 27 a.toNat).toNat))) 840 (q 840 - (if A 27 a.toNat < q 840 then (A 8 (A 27 a.toNat).toNat) else 0))) 11 (-1)) (x_up r 1351 none) (x_up (x_up (x_up (x_up (s_pt A (s_cut A (A 27 a.toNat) (A 8 (A 27 a.toNat).toNat) (q 133))) 29 (x_up (A 29) a.toNat 0)) 30 (x_up (A 30) a.toNat 1)) 28 (x_up (A 28) a.toNat (A 28 a.toNat + (if A 28 a.toNat < 65535 then 1 else 0)))) 27 (s_gap (A 27) (x_up (A 29) a.toNat 0) (q 837) (A 27 a.toNat) (A 8 (A 27 a.toNat).toNat))) dy2 g := by
  obtain ⟨t, rr, oo, bb, gk, -, -⟩ := h
  obtain ⟨f1, f2, f3, f4, f5, f6, f7, f8, f9, f10, f11⟩ := hf
  obtain ⟨ly, l35, lT, l9⟩ := iL_LY.mp hl
  have h133 := (iL_f hl).1
  obtain ⟨y1, y2, y3, y4⟩ := ly
  have hfa := y1 a.toNat (by omega) ha.2.2
  obtain ⟨f0, hf0⟩ : ∃ f0, f0 = A 27 a.toNat := ⟨_, rfl⟩
  obtain ⟨m, hm⟩ : ∃ m, m = A 8 (A 27 a.toNat).toNat := ⟨_, rfl⟩
  rw [← hf0] at hm
  rw [← hf0, ← hm] at hfa
  have hcut : 0 ≤ f0 ∧ 0 < m ∧ f0 + m ≤ q 133 := by omega
  have hU : ∀ k : Nat, ¬ x_up (A 29) a.toNat 0 k = 0 → ¬ k = a.toNat ∧ ¬ A 29 k = 0 := fun k z => by
    by_cases e : k = a.toNat
    · rw [e, x_up_s] at z; exact absurd rfl z
    · rw [x_up_n _ _ e] at z; exact ⟨e, z⟩
  have hd : ∀ k : Nat, (k : Int) < q 837 → ¬ x_up (A 29) a.toNat 0 k = 0 → A 27 k + A 8 (A 27 k).toNat ≤ f0 ∨ f0 + m ≤ A 27 k := fun k k1 k2 => by
    obtain ⟨e1, e2⟩ := hU k k2
    have := y3 k a.toNat k1 (by omega) e2 ha.2.2 e1
    rw [← hf0, ← hm] at this
    exact this
  have htd : q 840 + A 8 (q 840).toNat ≤ f0 ∨ f0 + m ≤ q 840 := by
    have := y4 a.toNat (by omega) ha.2.2
    rw [← hf0, ← hm] at this
    omega
  have hly : LY (q 133) (q 837) (x_up (A 29) a.toNat 0) (A 27) (A 8) (q 840) := ⟨fun k k1 k2 => y1 k k1 (hU k k2).2, y2, fun j k j1 j2 j3 j4 j5 => y3 j k j1 j2 (hU j j3).2 (hU k j4).2 j5, fun k k1 k2 => y4 k k1 (hU k k2).2⟩
  obtain ⟨c1, c2, c3, c4⟩ := LY_cut hly hcut hd htd
  have hsum := sum_but (U := A 29) (R := A 27) (sp := A 8) (n := a) (sz := q 837) ⟨ha.1, ha.2.1⟩ ha.2.2
  rw [← hf0, ← hm] at hsum
  have hs2 : s_sm (s_pbf (x_up (A 29) a.toNat 0) (s_gap (A 27) (x_up (A 29) a.toNat 0) (q 837) f0 m) (s_cut A f0 m (q 133) 8) (-1)) (q 837).toNat = s_sm (s_pbf (A 29) (A 27) (A 8) a) (q 837).toNat := s_sm_cong _ (fun k hk => by
    unfold s_pbf
    by_cases z : ¬ x_up (A 29) a.toNat 0 k = 0
    · obtain ⟨e1, e2⟩ := hU k z
      rw [if_pos ⟨z, by omega⟩, if_pos ⟨e2, by omega⟩, (c1 k (by omega) z).2]
    · rw [if_neg (fun w => z w.1)]
      by_cases e : k = a.toNat
      · rw [if_neg (fun w => w.2 (by omega))]
      · rw [x_up_n _ _ e] at z
        rw [if_neg (fun w => z w.1)])
  have hP2 : ∀ a', 5 ≤ a' → a' ≤ 9 → (x_up (x_up (x_up (x_up (s_pt A (s_cut A (A 27 a.toNat) (A 8 (A 27 a.toNat).toNat) (q 133))) 29 (x_up (A 29) a.toNat 0)) 30 (x_up (A 30) a.toNat 1)) 28 (x_up (A 28) a.toNat (A 28 a.toNat + (if A 28 a.toNat < 65535 then 1 else 0)))) 27 (s_gap (A 27) (x_up (A 29) a.toNat 0) (q 837) (A 27 a.toNat) (A 8 (A 27 a.toNat).toNat))) a' = s_cut A f0 m (q 133) a' := fun a' h5 h9 => by
    rw [hm, hf0]
    rcases (show a' = 5 ∨ a' = 6 ∨ a' = 7 ∨ a' = 8 ∨ a' = 9 by omega) with rfl | rfl | rfl | rfl | rfl <;> rfl
  rw [← hf0, ← hm] at hP2 ⊢
  have hgap : ∀ j, 0 ≤ s_gap (A 27) (x_up (A 29) a.toNat 0) (q 837) f0 m j ∧ s_gap (A 27) (x_up (A 29) a.toNat 0) (q 837) f0 m j ≤ 12900 := fun j => by
    have b1 := bb.2.2.2.2.1 j
    unfold s_gap
    split
    · next z => have := hd j z.1 z.2.1; have b2 := y1 j z.1 (hU j z.2.1).2; omega
    · omega
  rw [c2]
  refine ⟨t, rr, oo, ⟨ok5_cut bb.1, bb.2.1, bb.2.2.1, bb.2.2.2.1, hgap, bb.2.2.2.2.2⟩, hg2, Or.inl ⟨rfl, rfl⟩, Or.inr ⟨iL_LY.mpr ⟨c4, ?_, ?_, ?_⟩, cp, cb, ct, _, _, _, _, _, fb, f1, hp2, f3, f4, f5, f6, f7, fun k hk => ?_, ?_, fun k k1 k2 => ?_, ?_, ?_, f11.2.2.1, fun n2 hn2 => ?_⟩⟩
  · show s_cut A f0 m (q 133) 8 (sf f0 m (q 840)).toNat ≤ 3545
    rw [c3]; exact l35
  · show q 133 - m = s_cut A f0 m (q 133) 8 (sf f0 m (q 840)).toNat + s_sm (s_pbf (x_up (A 29) a.toNat 0) (s_gap (A 27) (x_up (A 29) a.toNat 0) (q 837) f0 m) (s_cut A f0 m (q 133) 8) (-1)) (q 837).toNat
    rw [c3, hs2]; omega
  · show s_sm (s_pbf (x_up (A 29) a.toNat 0) (s_gap (A 27) (x_up (A 29) a.toNat 0) (q 837) f0 m) (s_cut A f0 m (q 133) 8) (-1)) (q 837).toNat ≤ 900
    rw [hs2]; omega
  · obtain ⟨a1, a2, a3, a4, a5⟩ := f8 k hk
    show (x_up fis a.toNat 1 k = 2 ↔ ¬ x_up (A 29) a.toNat 0 k = 0) ∧ x_up fge a.toNat (max (fge a.toNat) (min 65535 (fge a.toNat + 1))) k = x_up (A 28) a.toNat (A 28 a.toNat + (if A 28 a.toNat < 65535 then 1 else 0)) k ∧ x_up fch a.toNat 1 k = x_up (A 30) a.toNat 1 k ∧ (0 ≤ x_up (A 28) a.toNat (A 28 a.toNat + (if A 28 a.toNat < 65535 then 1 else 0)) k ∧ x_up (A 28) a.toNat (A 28 a.toNat + (if A 28 a.toNat < 65535 then 1 else 0)) k ≤ 99999) ∧ (q 837 ≤ k → x_up (A 29) a.toNat 0 k = 0 ∧ x_up (A 30) a.toNat 1 k = 0)
    by_cases e : k = a.toNat
    · subst e
      rw [x_up_s, x_up_s, x_up_s, x_up_s, x_up_s, x_up_s, a2]
      refine ⟨⟨fun z => absurd z (by omega), fun z => absurd rfl z⟩, by split <;> omega, rfl, by split <;> omega, fun z => by omega⟩
    · rw [x_up_n _ _ e, x_up_n _ _ e, x_up_n _ _ e, x_up_n _ _ e, x_up_n _ _ e, x_up_n _ _ e]
      exact ⟨a1, a2, a3, a4, a5⟩
  · rw [x_up_n _ _ (by omega)]; exact f9
  · have k2 : ¬ x_up (A 29) a.toNat 0 k = 0 := k2
    have k1 : (k : Int) < q 837 := k1
    obtain ⟨e1, e2⟩ := hU k k2
    obtain ⟨⟨c9, a1, a2⟩, a3⟩ := f10 k k1 e2
    obtain ⟨g1, g2⟩ := c1 k k1 k2
    refine ⟨⟨c9, by rw [x_up_n _ _ e1]; exact a1, ?_⟩, ?_⟩
    · have := cut_Tr hP2 hcut (y1 k k1 e2) (hd k k1 k2) a2
      rw [← g1] at this
      exact this
    · show ¬ A 31 k = 0 ↔ ¬ x_up (A 30) a.toNat 1 k = 0 ∧ s_cut A f0 m (q 133) 5 (s_gap (A 27) (x_up (A 29) a.toNat 0) (q 837) f0 m k).toNat = 9
      rw [x_up_n _ _ e1, g1, cut_8 hcut (y1 k k1 e2) (hd k k1 k2) 5 (by omega) (by omega)]
      exact a3
  · exact cut_Tr hP2 hcut y2 htd f11.1
  · show s_cut A f0 m (q 133) 5 (sf f0 m (q 840)).toNat = 7
    rw [cut_8 hcut y2 htd 5 (by omega) (by omega)]
    exact f11.2.1
  · exact nam_cut hP2 hcut y2 htd (f11.2.2.2 n2 hn2)
