/-! how many parts a text may have -/
theorem s_reg_at {b : Nat → Int} (hB : ∀ j, -128 ≤ b j ∧ b j ≤ 127) {n i c : Int} (h : s_byte b n i = c) (hc : 0 ≤ c ∧ c ≤ 127) : b i.toNat = c ∧ 0 ≤ i ∧ i < n := by
  have h1 := s_byte_in b n i
  have h2 := hB i.toNat
  omega
/-- how many parts, by the bytes: a value that begins with a regular byte, one that doesn't -/
def vdn (b : Nat → Int) (n i : Int) (ts : List tk) (e : Int) : Prop := (s_reg (b i.toNat) = true → 9 * (ts.length : Int) ≤ 8 * (e - i) + 1 ∧ (n ≤ e ∨ s_reg (b e.toNat) = false)) ∧ (s_reg (b i.toNat) = false → 9 * (ts.length : Int) ≤ 8 * (e - i) - 1)
theorem s_the_stop {b : Nat → Int} {n i : Int} {cs : List Int} (h : 0 ≤ s_the b n i cs) : n ≤ s_the b n i cs ∨ s_reg (b (s_the b n i cs).toNat) = false := by
  unfold s_the at h ⊢
  split at h
  · omega
  · next c =>
    rw [if_neg c]
    by_cases z : n ≤ s_txt b n i cs
    · exact Or.inl z
    · right
      cases hr : s_reg (b (s_txt b n i cs).toNat) with
      | false => rfl
      | true => exact absurd ⟨h, by omega, hr⟩ c
theorem s_wd_stp {b : Nat → Int} {n i : Int} (h : 0 ≤ s_wd b n i) (h0 : 0 ≤ i) : (n ≤ s_wd b n i ∨ s_reg (b (s_wd b n i).toNat) = false) ∧ s_reg (b i.toNat) = true ∧ i < s_wd b n i := by
  unfold s_wd at h ⊢
  split at h
  · next c =>
    rw [if_pos c]
    refine ⟨?_, s_sc_all s_reg b n _ i i rfl h0 (Int.le_refl i) c, c⟩
    by_cases z : n ≤ s_sc s_reg b n i
    · exact Or.inl z
    · exact Or.inr (s_sc_end s_reg b n _ i rfl h0 (by omega))
  · omega
theorem vdn_leaf {b : Nat → Int} (hB : ∀ j, -128 ≤ b j ∧ b j ≤ 127) {n i : Int} {ts : List tk} {e : Int} (h : s_leaf b n i = some (ts, e)) (hi : 0 ≤ i) : vdn b n i ts e := by
  unfold s_leaf at h
  split at h
  · next c =>
    have hb := s_reg_at hB c (by omega)
    cases hs : s_str b n 101 (i + 1) 0 with
    | none => rw [hs] at h; cases h
    | some x =>
      rw [hs] at h
      cases h
      have := s_str_in b n 101 (i + 1) 0 x (by omega) hs
      refine ⟨fun z => ?_, fun _ => ?_⟩
      · rw [hb.1] at z; exact absurd z (by decide)
      · show 9 * ((1 : Nat) : Int) ≤ _; omega
  · split at h
    · next c =>
      have hb := s_reg_at hB c (by omega)
      cases hs : s_prs b n 101 (i + 1) 0 with
      | none => rw [hs] at h; cases h
      | some x =>
        rw [hs] at h
        cases h
        have := s_prs_in b n 101 (i + 1) 0 x (by omega) hs
        refine ⟨fun z => ?_, fun _ => ?_⟩
        · rw [hb.1] at z; exact absurd z (by decide)
        · show 9 * ((1 : Nat) : Int) ≤ _; omega
    · split at h
      · next c =>
        have hb := s_reg_at hB c (by omega)
        split at h
        · cases h
        · cases h
          have := s_name_in b n i
          refine ⟨fun z => ?_, fun _ => ?_⟩
          · rw [hb.1] at z; exact absurd z (by decide)
          · show 9 * ((1 : Nat) : Int) ≤ _; omega
      · unfold s_word at h
        split at h
        · unfold s_con at h
          split at h
          · next c =>
            cases h
            have h2 := s_the_in b n i [110, 117, 108, 108]
            have h3 := s_the_stop c
            simp only [List.length_cons, List.length_nil] at h2
            exact ⟨fun _ => ⟨by show 9 * ((1 : Nat) : Int) ≤ _; omega, h3⟩, fun _ => by show 9 * ((1 : Nat) : Int) ≤ _; omega⟩
          · split at h
            · next c =>
              cases h
              have h2 := s_the_in b n i [116, 114, 117, 101]
              have h3 := s_the_stop c
              simp only [List.length_cons, List.length_nil] at h2
              exact ⟨fun _ => ⟨by show 9 * ((1 : Nat) : Int) ≤ _; omega, h3⟩, fun _ => by show 9 * ((1 : Nat) : Int) ≤ _; omega⟩
            · split at h
              · next c =>
                cases h
                have h2 := s_the_in b n i [102, 97, 108, 115, 101]
                have h3 := s_the_stop c
                simp only [List.length_cons, List.length_nil] at h2
                exact ⟨fun _ => ⟨by show 9 * ((1 : Nat) : Int) ≤ _; omega, h3⟩, fun _ => by show 9 * ((1 : Nat) : Int) ≤ _; omega⟩
              · cases h
        · next hnat =>
          split at h
          · next c =>
            cases h
            have hnat2 : 0 ≤ s_num b n i := by unfold s_nat at hnat; rw [if_neg c.1] at hnat; omega
            have h4 := s_num_in b n i
            have h5 := s_ref_in b n (s_nat b n i) (s_wd b n i) c.2 (by omega)
            have h6 : n ≤ s_ref b n (s_nat b n i) (s_wd b n i) ∨ s_reg (b (s_ref b n (s_nat b n i) (s_wd b n i)).toNat) = false := by
              have h7 := c.2
              unfold s_ref at h7 ⊢
              split at h7
              · omega
              · next c2 =>
                rw [if_neg c2]
                exact s_the_stop h7
            exact ⟨fun _ => ⟨by show 9 * ((1 : Nat) : Int) ≤ _; omega, h6⟩, fun _ => by show 9 * ((1 : Nat) : Int) ≤ _; omega⟩
          · cases h
            have hw : 0 ≤ s_wd b n i := by
              by_cases c5 : s_byte b n i = 45
              · have hb := s_reg_at hB c5 (by omega)
                have hr : s_reg (b i.toNat) = true := by rw [hb.1]; decide
                have h8 := s_sc_step hb.2.1 hb.2.2 hr
                have h9 := s_sc_ge s_reg b n (i + 1)
                unfold s_wd
                rw [if_pos (by omega)]
                omega
              · unfold s_nat at hnat
                rw [if_neg c5] at hnat
                have h4 := s_num_in b n i
                omega
            have h3 := s_wd_stp hw hi
            exact ⟨fun _ => ⟨by show 9 * ((1 : Nat) : Int) ≤ _; omega, h3.1⟩, fun z => by rw [h3.2.1] at z; cases z⟩
theorem vdn_items {b : Nat → Int} (hB : ∀ j, -128 ≤ b j ∧ b j ≤ 127) {n : Int} {D : Nat} (hV : ∀ i ts e, 0 ≤ i → s_val b n D i = some (ts, e) → vdn b n i ts e) : ∀ (m : Nat) (i : Int) (ts : List tk) (e : Int), 0 ≤ i → s_items (s_val b n D) b n m i = some (ts, e) → 9 * (ts.length : Int) ≤ 8 * (e - 1 - i) + 1 ∧ (s_reg (b i.toNat) = false → 9 * (ts.length : Int) ≤ 8 * (e - 1 - i)) ∧ i < e
  | 0, i, ts, e, hi, h => by
    unfold s_items at h
    split at h
    · cases h; exact ⟨by show 9 * ((0 : Nat) : Int) ≤ _; omega, fun _ => by show 9 * ((0 : Nat) : Int) ≤ _; omega, by omega⟩
    · cases h
  | m + 1, i, ts, e, hi, h => by
    unfold s_items at h
    split at h
    · cases h; exact ⟨by show 9 * ((0 : Nat) : Int) ≤ _; omega, fun _ => by show 9 * ((0 : Nat) : Int) ≤ _; omega, by omega⟩
    · cases hv : s_val b n D i with
      | none => rw [hv] at h; cases h
      | some x =>
        rw [hv] at h
        have h : (s_items (s_val b n D) b n m (s_sc s_white b n x.2)).map (fun y => (x.1 ++ y.1, y.2)) = some (ts, e) := h
        cases hr : s_items (s_val b n D) b n m (s_sc s_white b n x.2) with
        | none => rw [hr] at h; cases h
        | some y =>
          rw [hr] at h
          cases h
          have hx := s_val_len hB (ts := x.1) (j := x.2) hv
          have hd := hV i x.1 x.2 hi hv
          have hg := s_sc_ge s_white b n x.2
          have ih := vdn_items hB hV m (s_sc s_white b n x.2) y.1 y.2 (by omega) hr
          have hlen : ((x.1 ++ y.1).length : Int) = x.1.length + y.1.length := by rw [List.length_append]; omega
          refine ⟨?_, fun z => ?_, by show i < y.2; omega⟩
          · show 9 * ((x.1 ++ y.1).length : Int) ≤ 8 * (y.2 - 1 - i) + 1
            rw [hlen]
            cases hc : s_reg (b i.toNat) with
            | false => have := hd.2 hc; omega
            | true =>
              have h1 := hd.1 hc
              by_cases hs : s_sc s_white b n x.2 = x.2
              · rw [hs] at ih hr
                rcases h1.2 with h2 | h2
                · exfalso
                  have hn : ¬ s_byte b n x.2 = 93 := by have := s_byte_in b n x.2; omega
                  have hv2 := s_val_end b hB n D (i := x.2) h2
                  cases m with
                  | zero => unfold s_items at hr; rw [if_neg hn] at hr; cases hr
                  | succ m => unfold s_items at hr; rw [if_neg hn, hv2] at hr; cases hr
                · have := ih.2.1 h2
                  omega
              · omega
          · show 9 * ((x.1 ++ y.1).length : Int) ≤ 8 * (y.2 - 1 - i)
            rw [hlen]
            have := hd.2 z
            omega
theorem vdn_ents {b : Nat → Int} (hB : ∀ j, -128 ≤ b j ∧ b j ≤ 127) {n : Int} {D : Nat} (hV : ∀ i ts e, 0 ≤ i → s_val b n D i = some (ts, e) → vdn b n i ts e) : ∀ (m : Nat) (i : Int) (ns : List Int) (ts : List tk) (e : Int), 0 ≤ i → s_ents (s_val b n D) b n m i ns = some (ts, e) → 9 * (ts.length : Int) ≤ 8 * (e - i) ∧ i ≤ e
  | 0, i, ns, ts, e, hi, h => by
    unfold s_ents at h
    split at h
    · split at h
      · next c => cases h; have h9 := s_txt_in b n i [62, 62]; simp only [List.length_cons, List.length_nil] at h9; exact ⟨by show 9 * ((0 : Nat) : Int) ≤ _; omega, by omega⟩
      · cases h
    · cases h
  | m + 1, i, ns, ts, e, hi, h => by
    unfold s_ents at h
    split at h
    · split at h
      · next c => cases h; have h9 := s_txt_in b n i [62, 62]; simp only [List.length_cons, List.length_nil] at h9; exact ⟨by show 9 * ((0 : Nat) : Int) ≤ _; omega, by omega⟩
      · cases h
    · split at h
      · cases h
      · split at h
        · cases h
        · next cn =>
          have hnm := s_name_in b n i
          have hg1 := s_sc_ge s_white b n (s_name b n i)
          cases hv : s_val b n D (s_sc s_white b n (s_name b n i)) with
          | none => rw [hv] at h; cases h
          | some x =>
            rw [hv] at h
            have h : (s_ents (s_val b n D) b n m (s_sc s_white b n x.2) (ns ++ [i + 1])).map (fun y => (s_nm (i + 1) x.1 ++ y.1, y.2)) = some (ts, e) := h
            cases hr : s_ents (s_val b n D) b n m (s_sc s_white b n x.2) (ns ++ [i + 1]) with
            | none => rw [hr] at h; cases h
            | some y =>
              rw [hr] at h
              cases h
              have hx := s_val_len hB (ts := x.1) (j := x.2) hv
              have hd := hV _ x.1 x.2 (by omega) hv
              have hg := s_sc_ge s_white b n x.2
              have ih := vdn_ents hB hV m (s_sc s_white b n x.2) _ y.1 y.2 (by omega) hr
              have hlen : ((s_nm (i + 1) x.1 ++ y.1).length : Int) = x.1.length + y.1.length := by rw [List.length_append, s_nm_len]; omega
              have h1 : 9 * (x.1.length : Int) ≤ 8 * (x.2 - s_sc s_white b n (s_name b n i)) + 1 := by
                cases hc : s_reg (b (s_sc s_white b n (s_name b n i)).toNat) with
                | false => have := hd.2 hc; omega
                | true => exact (hd.1 hc).1
              refine ⟨?_, by show i ≤ y.2; omega⟩
              show 9 * ((s_nm (i + 1) x.1 ++ y.1).length : Int) ≤ 8 * (y.2 - i)
              rw [hlen]
              omega
theorem vdn_val {b : Nat → Int} (hB : ∀ j, -128 ≤ b j ∧ b j ≤ 127) {n : Int} : ∀ (D : Nat) (i : Int) (ts : List tk) (e : Int), 0 ≤ i → s_val b n D i = some (ts, e) → vdn b n i ts e
  | 0, i, ts, e, hi, h => by
    unfold s_val at h
    split at h
    · cases h
    · split at h
      · cases h
      · exact vdn_leaf hB h hi
  | D + 1, i, ts, e, hi, h => by
    unfold s_val at h
    split at h
    · next c =>
      have hb := s_reg_at hB c (by omega)
      have hg := s_sc_ge s_white b n (i + 1)
      cases hr : s_items (s_val b n D) b n 60 (s_sc s_white b n (i + 1)) with
      | none => rw [hr] at h; cases h
      | some x =>
        rw [hr] at h
        cases h
        have ih := vdn_items hB (vdn_val hB D) 60 _ x.1 x.2 (by omega) hr
        refine ⟨fun z => ?_, fun _ => ?_⟩
        · rw [hb.1] at z; exact absurd z (by decide)
        · show 9 * (((x.1.length + 1 : Nat)) : Int) ≤ 8 * (x.2 - i) - 1
          omega
    · split at h
      · next c =>
        have hb := s_reg_at hB c.1 (by omega)
        have hg := s_sc_ge s_white b n (i + 2)
        cases hr : s_ents (s_val b n D) b n 30 (s_sc s_white b n (i + 2)) [] with
        | none => rw [hr] at h; cases h
        | some x =>
          rw [hr] at h
          cases h
          have ih := vdn_ents hB (vdn_val hB D) 30 _ [] x.1 x.2 (by omega) hr
          refine ⟨fun z => ?_, fun _ => ?_⟩
          · rw [hb.1] at z; exact absurd z (by decide)
          · show 9 * (((x.1.length + 1 : Nat)) : Int) ≤ 8 * (x.2 - i) - 1
            omega
      · exact vdn_leaf hB h hi
theorem val_dens {b : Nat → Int} (hB : ∀ j, -128 ≤ b j ∧ b j ≤ 127) {n i : Int} {D : Nat} {ts : List tk} {e : Int} (h : s_val b n D i = some (ts, e)) : 9 * (ts.length : Int) ≤ 8 * (e - i) + 1 := by
  have hl := s_val_len hB h
  have hd := vdn_val hB D i ts e hl.2.2.2.1 h
  cases hc : s_reg (b i.toNat) with
  | false => have := hd.2 hc; omega
  | true => exact (hd.1 hc).1
