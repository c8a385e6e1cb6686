/-! a value is taken: both ways -/
theorem Inv_put {n : Nat} {q q2 : Nat → Int} {r : Nat → Option Nat} {A A2 P2 : Nat → Nat → Int} {dy dy2 : xH} {g g2 : Nat → Option xE} {a w : Int} {ts : List tk} {cp cb ct c : Nat} {fis fge fpl : Nat → Int} {fva : Nat → Option Nat} {fch fb : Nat → Int} (h : Inv n q r A dy g) (hl : iL q A) (hf : iF q r A dy g cp cb ct fis fge fpl fva fch fb) (ha : 0 ≤ a ∧ a ≤ q 837 ∧ a < 300) (hk : s_keep (q 133).toNat A P2) (ho : s_ok5 P2) (hat : s_at P2 (q 133).toNat ts) (htk : tkq (x_up q 133 (q 133 + ts.length)) (s_pt A P2) a (q 133) w q2 A2) (hs0 : lsp ts 0 = ts.length) (h1 : 1 ≤ ts.length) (h900 : s_sm (s_pbf (A 29) (A 27) (A 8) a) (q 837).toNat + ts.length ≤ 900) (hT : Tr (A 2) (q 35) g2 (lP ts) 9 0 c) (hw : ¬ w = 0 ↔ lkd ts 0 = 9) (hg : gle g g2) (hg2 : gok g2 dy2) (hnp : gnp g2 cp) (hp2 : PB dy2 cp (some cb) (q 838) (q 839) (some ct) (max (q 837) (a + 1)) (x_up fis a.toNat 2) fge fpl (x_up fva a.toNat (some c)) (x_up fch a.toNat 1)) : Inv n (x_up (x_up (x_up q2 34 (q 35)) 11 (-1)) 1349 0) (x_up r 1351 none) A2 dy2 g2 := by
  have hff := hf
  obtain ⟨t, -, -, bb, -, -, -⟩ := id h
  obtain ⟨f1, f2, f3, f4, f5, f6, f7, f8, f9, f10, f11⟩ := hf
  obtain ⟨ly, l35, lT, l9⟩ := iL_LY.mp hl
  have h133 := (iL_f hl).1
  have hy := id ly
  obtain ⟨y1, y2, y3, y4⟩ := hy
  have hg0 := s_at_get hat (j := 0) (by omega)
  rw [Nat.add_zero] at hg0
  have h8 : P2 8 (q 133).toNat = (ts.length : Int) := by rw [hg0.2.2.2.1, hs0]
  have h5 : P2 5 (q 133).toNat = lkd ts 0 := hg0.1
  obtain ⟨B1, B2, B3, B4⟩ := tk_base (len := (ts.length : Int)) ly hk ⟨ha.1, ha.2.1⟩ h133.1 (by omega) h8
  have hsum := tk_sum (q := q) (A := A) (P2 := P2) (a := a) (len := (ts.length : Int)) ⟨ha.1, ha.2.1⟩ (by omega) h8 B3
  have hx : xle (A 2) (A 2) (q 34) (q 35) := ⟨t.1.2.1, fun _ _ => rfl⟩
  have hTn : Tr (A 2) (q 35) g2 P2 9 (q 133) c := by
    have := Tr_sh (P2 := P2) (u := q 133) 9 0 c hT (by omega) (fun a' a5 a9 j j1 j2 _ => by
      have e : s_bh (lP ts 8) 0 = ts.length := by
        unfold s_bh
        show 0 + max 1 (lsp ts 0) = _
        rw [hs0]; omega
      rw [e] at j2
      have hgj := s_at_get hat (j := j.toNat) (by omega)
      rw [show (j + q 133).toNat = (q 133).toNat + j.toNat by omega]
      rcases (show a' = 5 ∨ a' = 6 ∨ a' = 7 ∨ a' = 8 ∨ a' = 9 by omega) with rfl | rfl | rfl | rfl | rfl
      · exact hgj.1
      · exact hgj.2.1
      · exact hgj.2.2.1
      · exact hgj.2.2.2.1
      · exact hgj.2.2.2.2)
    rw [Int.zero_add] at this
    exact this
  have hTo : ∀ {p : Int} {c2 : Nat}, 0 ≤ p ∧ 1 ≤ A 8 p.toNat ∧ p + A 8 p.toNat ≤ q 133 → Tr (A 2) (q 34) g A 9 p c2 → Tr (A 2) (q 35) g2 P2 9 p c2 := fun hp ht => keep_Tr hk hp (Tr_g hg _ _ _ (Tr_x hx _ _ _ ht))
  have htr := hTo y2 f11.1
  have h7 : P2 5 (q 840).toNat = 7 := by rw [s_tok_a (hk _ (by omega)) 5 (by omega) (by omega)]; exact f11.2.1
  have hnm : ∀ n2, q 35 ≤ n2 → 0 ≤ s_nam (P2 8) (P2 9) (A 2) n2 (q 840) [83, 105, 122, 101] := fun n2 hn2 => nam_keep hk y2 (f11.2.2.2 n2 (by have := t.1; omega))
  have hdj := Dj_gl f11.1 f11.2.1 f11.2.2.1 hg
  have kTr0 : ∀ k : Nat, (k : Int) < max (q 837) (a + 1) → ¬ x_up (A 29) a.toNat 1 k = 0 → (∃ c2, x_up fva a.toNat (some c) k = some c2 ∧ Tr (A 2) (q 35) g2 P2 9 (x_up (A 27) a.toNat (q 133) k) c2) ∧ (¬ x_up (A 31) a.toNat w k = 0 ↔ ¬ x_up (A 30) a.toNat 1 k = 0 ∧ P2 5 (x_up (A 27) a.toNat (q 133) k).toNat = 9) := fun k k1 k2 => by
    rcases B2 k k1 k2 with e | ⟨e, b1, b2⟩
    · subst e
      rw [x_up_s, x_up_s, x_up_s, x_up_s, h5]
      exact ⟨⟨c, rfl, hTn⟩, ⟨fun z => ⟨by omega, hw.mp z⟩, fun z => hw.mpr z.2⟩⟩
    · rw [x_up_n _ _ e, x_up_n _ _ e, x_up_n _ _ e, x_up_n _ _ e]
      obtain ⟨⟨c2, a1, a2⟩, a3⟩ := f10 k b1 b2
      refine ⟨⟨c2, a1, hTo (y1 k b1 b2) a2⟩, ?_⟩
      rw [s_tok_a (hk _ (by have := y1 k b1 b2; omega)) 5 (by omega) (by omega)]
      exact a3
  have kR0 : ∀ j, 0 ≤ x_up (A 27) a.toNat (q 133) j ∧ x_up (A 27) a.toNat (q 133) j ≤ 12900 := fun j => by
    by_cases e : j = a.toNat
    · rw [e, x_up_s]; omega
    · rw [x_up_n _ _ e]; exact bb.2.2.2.2.1 j
  rcases htk with ⟨hu, rfl, rfl⟩ | ⟨hu, rfl, rfl⟩
  · have hu : ¬ (a < q 837 ∧ ¬ A 29 a.toNat = 0) := hu
    have e1 : s_sm (s_pbf (A 29) (A 27) (A 8) a) (q 837).toNat = s_sm (s_pbf (A 29) (A 27) (A 8) (-1)) (q 837).toNat := s_sm_cong _ (fun k hk9 => by
      unfold s_pbf
      by_cases z : ¬ A 29 k = 0
      · have hka : ¬ (k : Int) = a := fun e => hu ⟨by omega, by rw [show a.toNat = k by omega]; exact z⟩
        rw [if_pos ⟨z, hka⟩, if_pos ⟨z, by omega⟩]
      · rw [if_neg (fun w => z w.1), if_neg (fun w => z w.1)])
    have := Inv_tk (C := P2) (w := w) (T2 := q 133 + ts.length) (tr2 := q 840) (R2 := x_up (A 27) a.toNat (q 133)) (c := c) h hff ha ho kR0 B1 (by rw [B4]; exact l35) (by rw [B4, hsum, e1]; omega) (by rw [hsum]; exact h900) kTr0 htr h7 hnm hg hg2 hnp hdj hp2
    exact this
  · have hu : a < q 837 ∧ ¬ A 29 a.toNat = 0 := hu
    have hfa := y1 a.toNat (by omega) hu.2
    have em : P2 8 (A 27 a.toNat).toNat = A 8 (A 27 a.toNat).toNat := B3 a.toNat (by omega) hu.2
    obtain ⟨f0, hf0⟩ : ∃ f0, f0 = A 27 a.toNat := ⟨_, rfl⟩
    obtain ⟨m, hm⟩ : ∃ m, m = P2 8 (A 27 a.toNat).toNat := ⟨_, rfl⟩
    have hsb := sum_but (U := A 29) (R := A 27) (sp := A 8) (n := a) (sz := q 837) ⟨ha.1, hu.1⟩ hu.2
    have hcut : 0 ≤ f0 ∧ 0 < m ∧ f0 + m ≤ q 133 + (ts.length : Int) := by rw [hm, hf0, em]; omega
    have hd : ∀ k : Nat, (k : Int) < max (q 837) (a + 1) → ¬ x_up (A 29) a.toNat 1 k = 0 → x_up (A 27) a.toNat (q 133) k + P2 8 (x_up (A 27) a.toNat (q 133) k).toNat ≤ f0 ∨ f0 + m ≤ x_up (A 27) a.toNat (q 133) k := fun k k1 k2 => by
      rcases B2 k k1 k2 with e | ⟨e, b1, b2⟩
      · right; rw [e, x_up_s, hm, hf0, em]; omega
      · rw [x_up_n _ _ e, B3 k b1 b2, hm, hf0, em]
        exact y3 k a.toNat b1 (by omega) b2 hu.2 e
    have htd : q 840 + P2 8 (q 840).toNat ≤ f0 ∨ f0 + m ≤ q 840 := by
      have := y4 a.toNat (by omega) hu.2
      rw [B4, hm, hf0, em]
      omega
    obtain ⟨c1, c2, c3, c4⟩ := LY_cut B1 hcut hd htd
    have hs2 : s_sm (s_pbf (x_up (A 29) a.toNat 1) (s_gap (x_up (A 27) a.toNat (q 133)) (x_up (A 29) a.toNat 1) (max (q 837) (a + 1)) f0 m) (s_cut P2 f0 m (q 133 + ts.length) 8) (-1)) (max (q 837) (a + 1)).toNat = s_sm (s_pbf (A 29) (A 27) (A 8) a) (q 837).toNat + ts.length := by
      rw [← hsum]
      exact s_sm_cong _ (fun k hk9 => by
        unfold s_pbf
        by_cases z : ¬ x_up (A 29) a.toNat 1 k = 0
        · rw [if_pos ⟨z, by omega⟩, if_pos ⟨z, by omega⟩, (c1 k (by omega) z).2]
        · rw [if_neg (fun w => z w.1), if_neg (fun w => z w.1)])
    have := Inv_tk (C := s_cut P2 f0 m (q 133 + ts.length)) (w := w) (T2 := q 133 + ts.length - m) (tr2 := sf f0 m (q 840)) (R2 := s_gap (x_up (A 27) a.toNat (q 133)) (x_up (A 29) a.toNat 1) (max (q 837) (a + 1)) f0 m) (c := c) h hff ha (ok5_cut ho) (fun j => by
        have b1 := kR0 j
        unfold s_gap
        split
        · next z => have b2 := hd j z.1 z.2.1; have b3 := B1.1 j z.1 z.2.1; omega
        · omega) c4 (by rw [c3, B4]; exact l35) (by rw [c3, hs2, B4, hm, em]; omega) (by rw [hs2]; exact h900) (fun k k1 k2 => by
        obtain ⟨⟨c9, a1, a2⟩, a3⟩ := kTr0 k k1 k2
        obtain ⟨g1, g3⟩ := c1 k k1 k2
        rw [g1]
        refine ⟨⟨c9, a1, cut_Tr (fun _ _ _ => rfl) hcut (B1.1 k k1 k2) (hd k k1 k2) a2⟩, ?_⟩
        rw [cut_8 hcut (B1.1 k k1 k2) (hd k k1 k2) 5 (by omega) (by omega)]
        exact a3) (cut_Tr (fun _ _ _ => rfl) hcut B1.2.1 htd htr) (by rw [cut_8 hcut B1.2.1 htd 5 (by omega) (by omega)]; exact h7) (fun n2 hn2 => nam_cut (fun _ _ _ => rfl) hcut B1.2.1 htd (hnm n2 hn2)) hg hg2 hnp hdj hp2
    rw [← c2] at this
    subst hm
    subst hf0
    exact this
