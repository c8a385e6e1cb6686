/-! open: spans of objects -/
theorem ob1_sp0 {b : Nat → Int} (hB : ∀ j, -128 ≤ b j ∧ b j ≤ 127) {n f pl gn k : Int} {y : List tk × Int} (h : s_ob1 b n f pl gn k = some y) : lsp y.1 0 = y.1.length := by
  unfold s_ob1 at h
  obtain ⟨v, hv, h9⟩ := Option.bind_eq_some_iff.mp h
  have h0 := val_sp0 hB (ts := v.1) (j := v.2) hv
  have e : y.1 = v.1 := by
    by_cases c7 : lkd v.1 0 = 7
    · simp only [if_pos c7] at h9
      split at h9
      · cases h9
      · rw [← Option.some.inj h9]
    · simp only [if_neg c7] at h9
      split at h9
      · cases h9
      · rw [← Option.some.inj h9]
  rw [e]
  exact h0
theorem fin_sp0 {b : Nat → Int} {n : Int} {ob : Int → Option (List tk × Int)} {gn us : Nat → Int} {sz k : Int} (h : 1 ≤ (s_tks ob k).length) (h0 : lsp (s_tks ob k) 0 = (s_tks ob k).length) : lsp (s_fin b n ob gn us sz k) 0 = (s_fin b n ob gn us sz k).length := by
  rw [s_fin_len h, ← h0]
  unfold s_fin
  split
  · rfl
  · rfl
