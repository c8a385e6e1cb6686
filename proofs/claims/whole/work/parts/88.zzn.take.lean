/-! a value is taken -/
/-- the first n, then nothing -/
def s_zx (f : Nat → Int) (n : Nat) : Nat → Int := fun k => if k < n then f k else 0
theorem val_k9 {b : Nat → Int} {n i e : Int} {D : Nat} {ts : List tk} (h : s_val b n D i = some (ts, e)) : ¬ lkd ts 0 = 9 := by
  have hl : ∀ {ts : List tk} {e : Int}, s_leaf b n i = some (ts, e) → ¬ lkd ts 0 = 9 := by
    intro ts e h
    unfold s_leaf at h
    split at h
    · cases hs : s_str b n 101 (i + 1) 0 with
      | none => rw [hs] at h; cases h
      | some x => rw [hs] at h; cases h; exact fun z => absurd (show (5 : Int) = 9 from z) (by omega)
    · split at h
      · cases hs : s_prs b n 101 (i + 1) 0 with
        | none => rw [hs] at h; cases h
        | some x => rw [hs] at h; cases h; exact fun z => absurd (show (5 : Int) = 9 from z) (by omega)
      · split at h
        · split at h
          · cases h
          · cases h; exact fun z => absurd (show (4 : Int) = 9 from z) (by omega)
        · unfold s_word at h
          split at h
          · unfold s_con at h
            split at h
            · cases h; exact fun z => absurd (show (0 : Int) = 9 from z) (by omega)
            · split at h
              · cases h; exact fun z => absurd (show (1 : Int) = 9 from z) (by omega)
              · split at h
                · cases h; exact fun z => absurd (show (2 : Int) = 9 from z) (by omega)
                · cases h
          · split at h
            · cases h; exact fun z => absurd (show (8 : Int) = 9 from z) (by omega)
            · cases h; exact fun z => absurd (show (3 : Int) = 9 from z) (by omega)
  cases D with
  | zero =>
    unfold s_val at h
    split at h
    · cases h
    · split at h
      · cases h
      · exact hl h
  | succ D =>
    unfold s_val at h
    split at h
    · cases hr : s_items (s_val b n D) b n 60 (s_sc s_white b n (i + 1)) with
      | none => rw [hr] at h; cases h
      | some x => rw [hr] at h; cases h; exact fun z => absurd (show (6 : Int) = 9 from z) (by omega)
    · split at h
      · cases hr : s_ents (s_val b n D) b n 30 (s_sc s_white b n (i + 2)) [] with
        | none => rw [hr] at h; cases h
        | some x => rw [hr] at h; cases h; exact fun z => absurd (show (7 : Int) = 9 from z) (by omega)
      · exact hl h
theorem keep_Tr {X : Nat → Int} {E : Int} {g : Nat → Option xE} {A P2 : Nat → Nat → Int} {T p : Int} {c D : Nat} (hk : s_keep T.toNat A P2) (hp : 0 ≤ p ∧ 1 ≤ A 8 p.toNat ∧ p + A 8 p.toNat ≤ T) (h : Tr X E g A D p c) : Tr X E g P2 D p c := by
  have hb : s_bh (A 8) p = p + A 8 p.toNat := by unfold s_bh; omega
  have := Tr_sh (P2 := P2) (u := 0) D p c h (by omega) (fun a a5 a9 j j1 j2 _ => by
    rw [hb] at j2
    rw [Int.add_zero]
    exact s_tok_a (hk j.toNat (by omega)) a a5 a9)
  rw [Int.add_zero] at this
  exact this
theorem nam_keep {X : Nat → Int} {A P2 : Nat → Nat → Int} {T p n : Int} {cs : List Int} (hk : s_keep T.toNat A P2) (hp : 0 ≤ p ∧ 1 ≤ A 8 p.toNat ∧ p + A 8 p.toNat ≤ T) (h : 0 ≤ s_nam (A 8) (A 9) X n p cs) : 0 ≤ s_nam (P2 8) (P2 9) X n p cs := by
  have hb : s_bh (fun j => A 8 (p.toNat + j)) 0 = A 8 p.toNat := by
    unfold s_bh
    show 0 + max 1 (A 8 (p.toNat + 0)) = _
    rw [Nat.add_zero]
    omega
  have e1 := s_nam_sh (sp := A 8) (nm := A 9) (sp2 := fun j => A 8 (p.toNat + j)) (nm2 := fun j => A 9 (p.toNat + j)) (b := X) (n := n) (p := p) (cs := cs) hp.1 (fun j _ => ⟨rfl, rfl⟩)
  have e2 := s_nam_sh (sp := P2 8) (nm := P2 9) (sp2 := fun j => A 8 (p.toNat + j)) (nm2 := fun j => A 9 (p.toNat + j)) (b := X) (n := n) (p := p) (cs := cs) hp.1 (fun j hj => by
    rw [hb] at hj
    have h1 := hk (p.toNat + j) (by omega)
    exact ⟨s_tok_a h1 8 (by omega) (by omega), s_tok_a h1 9 (by omega) (by omega)⟩)
  rw [e1] at h
  rw [e2]
  exact h
/-- a value of len parts stands behind all, and is object a's -/
theorem tk_base {q : Nat → Int} {A P2 : Nat → Nat → Int} {a len : Int} (ly : LY (q 133) (q 837) (A 29) (A 27) (A 8) (q 840)) (hk : s_keep (q 133).toNat A P2) (ha : 0 ≤ a ∧ a ≤ q 837) (h0 : 0 ≤ q 133) (hlen : 1 ≤ len) (h8 : P2 8 (q 133).toNat = len) : LY (q 133 + len) (max (q 837) (a + 1)) (x_up (A 29) a.toNat 1) (x_up (A 27) a.toNat (q 133)) (P2 8) (q 840) ∧ (∀ k : Nat, (k : Int) < max (q 837) (a + 1) → ¬ x_up (A 29) a.toNat 1 k = 0 → k = a.toNat ∨ (¬ k = a.toNat ∧ (k : Int) < q 837 ∧ ¬ A 29 k = 0)) ∧ (∀ k : Nat, (k : Int) < q 837 → ¬ A 29 k = 0 → P2 8 (A 27 k).toNat = A 8 (A 27 k).toNat) ∧ P2 8 (q 840).toNat = A 8 (q 840).toNat := by
  obtain ⟨y1, y2, y3, y4⟩ := ly
  have hw : ∀ k : Nat, (k : Int) < max (q 837) (a + 1) → ¬ x_up (A 29) a.toNat 1 k = 0 → k = a.toNat ∨ (¬ k = a.toNat ∧ (k : Int) < q 837 ∧ ¬ A 29 k = 0) := fun k k1 k2 => by
    by_cases e : k = a.toNat
    · exact Or.inl e
    · rw [x_up_n _ _ e] at k2
      exact Or.inr ⟨e, by omega, k2⟩
  have e8 : ∀ k : Nat, (k : Int) < q 837 → ¬ A 29 k = 0 → P2 8 (A 27 k).toNat = A 8 (A 27 k).toNat := fun k k1 k2 => by
    have := y1 k k1 k2
    exact s_tok_8 (hk _ (by omega))
  have et : P2 8 (q 840).toNat = A 8 (q 840).toNat := s_tok_8 (hk _ (by omega))
  refine ⟨⟨fun k k1 k2 => ?_, ?_, fun j k j1 k1 j2 k2 jk => ?_, fun k k1 k2 => ?_⟩, hw, e8, et⟩
  · rcases hw k k1 k2 with e | ⟨e, b1, b2⟩
    · rw [e, x_up_s, h8]; omega
    · rw [x_up_n _ _ e, e8 k b1 b2]
      have := y1 k b1 b2
      omega
  · rw [et]; omega
  · rcases hw j j1 j2 with e | ⟨e, b1, b2⟩
    · rcases hw k k1 k2 with e2 | ⟨e2, b3, b4⟩
      · omega
      · rw [e, x_up_s, x_up_n _ _ e2, h8, e8 k b3 b4]
        have := y1 k b3 b4
        omega
    · rcases hw k k1 k2 with e2 | ⟨e2, b3, b4⟩
      · rw [e2, x_up_s, x_up_n _ _ e, h8, e8 j b1 b2]
        have := y1 j b1 b2
        omega
      · rw [x_up_n _ _ e, x_up_n _ _ e2, e8 j b1 b2, e8 k b3 b4]
        exact y3 j k b1 b3 b2 b4 jk
  · rcases hw k k1 k2 with e | ⟨e, b1, b2⟩
    · rw [e, x_up_s, h8, et]; omega
    · rw [x_up_n _ _ e, e8 k b1 b2, et]
      exact y4 k b1 b2
/-- the sum with the new value -/
theorem tk_sum {q : Nat → Int} {A P2 : Nat → Nat → Int} {a len : Int} (ha : 0 ≤ a ∧ a ≤ q 837) (h0 : 0 ≤ q 837) (h8 : P2 8 (q 133).toNat = len) (e8 : ∀ k : Nat, (k : Int) < q 837 → ¬ A 29 k = 0 → P2 8 (A 27 k).toNat = A 8 (A 27 k).toNat) : s_sm (s_pbf (x_up (A 29) a.toNat 1) (x_up (A 27) a.toNat (q 133)) (P2 8) (-1)) (max (q 837) (a + 1)).toNat = s_sm (s_pbf (A 29) (A 27) (A 8) a) (q 837).toNat + len := by
  have e1 : s_sm (s_pbf (x_up (A 29) a.toNat 1) (x_up (A 27) a.toNat (q 133)) (P2 8) (-1)) (max (q 837) (a + 1)).toNat = s_sm (x_up (s_zx (s_pbf (A 29) (A 27) (A 8) a) (q 837).toNat) a.toNat len) (max (q 837) (a + 1)).toNat := s_sm_cong _ (fun k hk => by
    by_cases e : k = a.toNat
    · rw [e, x_up_s]
      unfold s_pbf
      rw [x_up_s, if_pos ⟨by omega, by omega⟩, x_up_s, h8]
    · rw [x_up_n _ _ e]
      unfold s_zx s_pbf
      rw [x_up_n _ _ e, x_up_n _ _ e, if_pos (show k < (q 837).toNat by omega)]
      by_cases c : ¬ A 29 k = 0
      · rw [if_pos ⟨c, by omega⟩, if_pos ⟨c, by omega⟩, e8 k (by omega) c]
      · rw [if_neg (fun z => c z.1), if_neg (fun z => c z.1)])
  rw [e1, s_sm_up (by omega)]
  have e2 : s_zx (s_pbf (A 29) (A 27) (A 8) a) (q 837).toNat a.toNat = 0 := by
    unfold s_zx
    split
    · unfold s_pbf
      rw [if_neg (fun z => z.2 (by omega))]
    · rfl
  have e3 : s_sm (s_zx (s_pbf (A 29) (A 27) (A 8) a) (q 837).toNat) (max (q 837) (a + 1)).toNat = s_sm (s_pbf (A 29) (A 27) (A 8) a) (q 837).toNat := by
    have h1 := s_sm_tail (f := s_zx (s_pbf (A 29) (A 27) (A 8) a) (q 837).toNat) ((max (q 837) (a + 1)).toNat - (q 837).toNat) (q 837).toNat (fun k k1 k2 => by unfold s_zx; rw [if_neg (by omega)])
    rw [show (q 837).toNat + ((max (q 837) (a + 1)).toNat - (q 837).toNat) = (max (q 837) (a + 1)).toNat by omega] at h1
    rw [h1]
    exact s_sm_cong _ (fun k hk => by unfold s_zx; rw [if_pos hk])
  rw [e2, e3]
  omega
