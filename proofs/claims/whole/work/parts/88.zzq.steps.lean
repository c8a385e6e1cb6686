/-! steps: put -/
theorem val_sp0 {b : Nat → Int} (hB : ∀ j, -128 ≤ b j ∧ b j ≤ 127) {n i j : Int} {D : Nat} {ts : List tk} (h : s_val b n D i = some (ts, j)) : lsp ts 0 = ts.length := by
  obtain ⟨h1, h2, h3, h4, h5, -⟩ := s_val_ok b hB n D i ts j h
  cases ts with
  | nil => exact absurd h4.1 (by decide)
  | cons y l => exact (h5 y rfl).1
theorem put_in {b : Nat → Int} (hB : ∀ j, -128 ≤ b j ∧ b j ≤ 127) {T f m : Int} {ts : List tk} (h : s_put b T f m = .inr ts) : lsp ts 0 = ts.length ∧ 1 ≤ ts.length ∧ m + ts.length ≤ 900 ∧ ¬ lkd ts 0 = 9 := by
  unfold s_put at h
  cases hv : s_val b T 8 (s_sc s_white b T f) with
  | none => rw [hv] at h; cases h
  | some y =>
    rw [hv] at h
    have h : (if ¬ s_sc s_white b T y.2 = T then (.inl (-4) : Int ⊕ List tk) else if 900 < m + y.1.length then .inl (-3) else .inr y.1) = .inr ts := h
    split at h
    · cases h
    · split at h
      · cases h
      · cases h
        have hl := s_val_len hB (ts := y.1) (j := y.2) hv
        exact ⟨val_sp0 hB (ts := y.1) (j := y.2) hv, hl.2.1, by omega, val_k9 (ts := y.1) (e := y.2) hv⟩
/-- the parts behind are other ones -/
theorem Inv_keep {n : Nat} {q : Nat → Int} {r : Nat → Option Nat} {A P2 : Nat → Nat → Int} {dy dy2 : xH} {g : Nat → Option xE} (h : Inv n q r A dy g) (hk : s_keep (q 133).toNat A P2) (ho : s_ok5 P2) (hg : gok g dy2) (hpb : ∀ cp bt tb lt tr sz fis fge fpl fva fch, PB dy cp bt tb lt tr sz fis fge fpl fva fch → r 1350 = some cp → PB dy2 cp bt tb lt tr sz fis fge fpl fva fch) : Inv n q r (s_pt A P2) dy2 g := by
  obtain ⟨t, rr, oo, bb, gk, pt, f⟩ := h
  rcases f with f | ⟨l, cp, cb, ct, fis, fge, fpl, fva, fch, fb, f⟩
  · refine ⟨t, rr, oo, ⟨ho, bb.2⟩, hg, ?_, Or.inl f⟩
    rcases pt with pt | ⟨p1, _⟩
    · exact Or.inl pt
    · have := f.2.2.2.2.2.2; omega
  · obtain ⟨f1, f2, f3, f4, f5, f6, f7, f8, f9, f10, f11⟩ := f
    obtain ⟨y1, y2, y3, y4, y5, y6⟩ := l
    have e8 : ∀ k : Nat, (k : Int) < q 837 → ¬ A 29 k = 0 → ∀ a, 5 ≤ a → a ≤ 9 → P2 a (A 27 k).toNat = A a (A 27 k).toNat := fun k k1 k2 a a5 a9 => by
      have := y1 k k1 k2
      exact s_tok_a (hk _ (by omega)) a a5 a9
    have et : ∀ a, 5 ≤ a → a ≤ 9 → P2 a (q 840).toNat = A a (q 840).toNat := fun a a5 a9 => s_tok_a (hk _ (by omega)) a a5 a9
    have hsm : s_sm (s_pbf (A 29) (A 27) (P2 8) (-1)) (q 837).toNat = s_sm (s_pbf (A 29) (A 27) (A 8) (-1)) (q 837).toNat := s_sm_cong _ (fun k hk9 => by
      unfold s_pbf
      by_cases z : ¬ A 29 k = 0
      · rw [if_pos ⟨z, by omega⟩, if_pos ⟨z, by omega⟩, e8 k (by omega) z 8 (by omega) (by omega)]
      · rw [if_neg (fun w => z w.1), if_neg (fun w => z w.1)])
    have kT : ∀ {X : Nat → Int} {E p : Int} {c : Nat}, 0 ≤ p ∧ 1 ≤ A 8 p.toNat ∧ p + A 8 p.toNat ≤ q 133 → Tr X E g A 9 p c → Tr X E g (s_pt A P2) 9 p c := fun hp ht => by
      have h9 := keep_Tr hk hp ht
      have := Tr_sh (P2 := s_pt A P2) (u := 0) 9 _ _ h9 (by omega) (fun a a5 a9 j j1 j2 _ => by
        rw [Int.add_zero]
        rcases (show a = 5 ∨ a = 6 ∨ a = 7 ∨ a = 8 ∨ a = 9 by omega) with rfl | rfl | rfl | rfl | rfl <;> rfl)
      rw [Int.add_zero] at this
      exact this
    refine ⟨t, rr, oo, ⟨ho, bb.2⟩, hg, ?_, Or.inr ⟨⟨fun k k1 k2 => ?_, ?_, fun j k j1 k1 j2 k2 jk => ?_, fun k k1 k2 => ?_, ?_, ?_⟩, cp, cb, ct, fis, fge, fpl, fva, fch, fb, f1, hpb _ _ _ _ _ _ _ _ _ _ _ f2 f1, f3, f4, f5, f6, f7, f8, f9, fun k k1 k2 => ?_, kT ⟨y2.1, y2.2.1, y2.2.2.1⟩ f11.1, ?_, f11.2.2.1, fun n2 hn2 => ?_⟩⟩
    · rcases pt with pt | ⟨p1, c, p2, p3⟩
      · exact Or.inl pt
      · have hb : s_bh (P2 8) (q 11) = s_bh (A 8) (q 11) := by
          unfold s_bh
          rw [s_tok_8 (hk (q 11).toNat (by have := p1.2.2.2; unfold s_bh at this; omega))]
        refine Or.inr ⟨⟨p1.1, p1.2.1, ?_, ?_⟩, c, p2, ?_⟩
        · show s_bh (P2 8) (q 11) ≤ 12900
          rw [hb]; exact p1.2.2.1
        · show s_bh (P2 8) (q 11) ≤ q 133
          rw [hb]; exact p1.2.2.2
        · have h9 := Tr_sh (P2 := s_pt A P2) (u := 0) 9 _ _ p3 (by omega) (fun a a5 a9 j j1 j2 _ => by
            rw [Int.add_zero]
            have e := s_tok_a (hk j.toNat (by have := p1.2.2.2; omega)) a a5 a9
            rcases (show a = 5 ∨ a = 6 ∨ a = 7 ∨ a = 8 ∨ a = 9 by omega) with rfl | rfl | rfl | rfl | rfl <;> exact e)
          rw [Int.add_zero] at h9
          exact h9
    · show 0 ≤ A 27 k ∧ 1 ≤ P2 8 (A 27 k).toNat ∧ A 27 k + P2 8 (A 27 k).toNat ≤ q 133
      rw [e8 k k1 k2 8 (by omega) (by omega)]; exact y1 k k1 k2
    · show 0 ≤ q 840 ∧ 1 ≤ P2 8 (q 840).toNat ∧ q 840 + P2 8 (q 840).toNat ≤ q 133 ∧ P2 8 (q 840).toNat ≤ 3545
      rw [et 8 (by omega) (by omega)]; exact y2
    · show A 27 j + P2 8 (A 27 j).toNat ≤ A 27 k ∨ A 27 k + P2 8 (A 27 k).toNat ≤ A 27 j
      rw [e8 j j1 j2 8 (by omega) (by omega), e8 k k1 k2 8 (by omega) (by omega)]; exact y3 j k j1 k1 j2 k2 jk
    · show A 27 k + P2 8 (A 27 k).toNat ≤ q 840 ∨ q 840 + P2 8 (q 840).toNat ≤ A 27 k
      rw [e8 k k1 k2 8 (by omega) (by omega), et 8 (by omega) (by omega)]; exact y4 k k1 k2
    · show q 133 = P2 8 (q 840).toNat + s_sm (s_pbf (A 29) (A 27) (P2 8) (-1)) (q 837).toNat
      rw [et 8 (by omega) (by omega), hsm]; exact y5
    · show s_sm (s_pbf (A 29) (A 27) (P2 8) (-1)) (q 837).toNat ≤ 900
      rw [hsm]; exact y6
    · obtain ⟨⟨c2, a1, a2⟩, a3⟩ := f10 k k1 k2
      refine ⟨⟨c2, a1, kT (y1 k k1 k2) a2⟩, ?_⟩
      show ¬ A 31 k = 0 ↔ ¬ A 30 k = 0 ∧ P2 5 (A 27 k).toNat = 9
      rw [e8 k k1 k2 5 (by omega) (by omega)]; exact a3
    · show P2 5 (q 840).toNat = 7
      rw [et 5 (by omega) (by omega)]; exact f11.2.1
    · exact nam_keep hk ⟨y2.1, y2.2.1, y2.2.2.1⟩ (f11.2.2.2 n2 hn2)
