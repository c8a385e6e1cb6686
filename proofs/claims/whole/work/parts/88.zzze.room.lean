/-! room: leaves -/
theorem s_reg_10 : s_reg 10 = false := by decide
theorem s_reg_dg {c : Int} (h : 48 ≤ c ∧ c ≤ 57) : s_reg c = true := by
  rcases (show c = 48 ∨ c = 49 ∨ c = 50 ∨ c = 51 ∨ c = 52 ∨ c = 53 ∨ c = 54 ∨ c = 55 ∨ c = 56 ∨ c = 57 by omega) with rfl | rfl | rfl | rfl | rfl | rfl | rfl | rfl | rfl | rfl <;> decide
theorem s_reg_n10 {c : Int} (h : s_reg c = true) : ¬ c = 10 := fun z => by rw [z, s_reg_10] at h; cases h
theorem the_get {b : Nat → Int} {n i : Int} {cs : List Int} (h : 0 ≤ s_the b n i cs) : s_the b n i cs = i + cs.length ∧ 0 ≤ i ∧ i + cs.length ≤ n ∧ ∀ k, k < cs.length → b (i.toNat + k) = cs.getD k 0 := by
  have h2 := s_the_in b n i cs
  have h3 : 0 ≤ s_txt b n i cs := by
    unfold s_the at h
    split at h
    · omega
    · exact h
  exact ⟨by omega, by omega, by omega, (s_txt_iff.mp h3).2.2⟩
theorem the_out {b : Nat → Int} {f n i : Int} {cs : List Int} (h : 0 ≤ s_the b n i cs) (hcs : ∀ k, k < cs.length → ¬ cs.getD k 0 = 10) (h0 : ¬ (48 ≤ cs.getD 0 0 ∧ cs.getD 0 0 ≤ 57)) (h1 : 1 ≤ cs.length) (hc : wC b f n i) : ∀ p : Int, i ≤ p → p < s_the b n i cs → wB b f n p.toNat = false := by
  obtain ⟨e1, e2, e3, e4⟩ := the_get h
  refine tok_run hc e2 (fun p h1 h2 => ?_) (fun hx => ?_)
  · have := e4 (p - i).toNat (by omega)
    rw [show i.toNat + (p - i).toNat = p.toNat by omega] at this
    rw [this]
    exact hcs _ (by omega)
  · have := (ew_char (k := 0) hx (by omega)).2.2 (by omega)
    have h4 := e4 0 (by omega)
    rw [h4] at this
    exact h0 this
/-- no entry begins in a number -/
theorem num_no {b : Nat → Int} {f n p : Int} (h : 0 ≤ s_num b n p) {x : Nat} (h1 : p ≤ (x : Int)) (h2 : (x : Int) < s_wd b n p) (h3 : ewB b f n x = true) : False := by
  have hn := s_num_in b n p
  have hw : 0 ≤ s_wd b n p := by omega
  by_cases c : (x : Int) = p
  · have hs := s_wd_stp hw (by omega)
    have h4 := (ewB_iff.mp h3).2.1
    rcases hs.1 with z | z
    · omega
    · have h5 := (ew_char (k := (s_wd b n p).toNat - x) h3 (by omega)).2.2 (by omega)
      rw [show x + ((s_wd b n p).toNat - x) = (s_wd b n p).toNat by omega] at h5
      rw [s_reg_dg h5] at z
      cases z
  · have h5 := s_wd_reg hw (x - 1 - p.toNat) (by omega)
    rw [show p.toNat + (x - 1 - p.toNat) = x - 1 by omega, (ewB_iff.mp h3).2.2.1] at h5
    exact absurd h5 (by decide)
theorem wd_run {b : Nat → Int} {n p : Int} (hw : 0 ≤ s_wd b n p) (h0 : 0 ≤ p) : ∀ q : Int, p ≤ q → q < s_wd b n p → s_reg (b q.toNat) = true := fun q h1 h2 => by
  have h5 := s_wd_reg hw (q - p).toNat (by omega)
  rw [show p.toNat + (q - p).toNat = q.toNat by omega] at h5
  exact h5
theorem str_end (b : Nat → Int) (n : Int) : ∀ (m : Nat) (i k : Int) (x : Int × Int), 0 ≤ i → s_str b n m i k = some x → s_byte b n (x.2 - 1) = 41 ∧ k ≤ x.1 ∧ x.1 - k ≤ x.2 - 1 - i
  | 0, i, k, x, _, h => by cases h
  | m + 1, i, k, x, h0, h => by
    unfold s_str at h
    split at h
    · next c =>
      cases h
      exact ⟨by rw [show i + 1 - 1 = i by omega]; exact c, Int.le_refl k, by show k - k ≤ i + 1 - 1 - i; omega⟩
    · split at h
      · cases h
      · next c =>
        have h2 := s_ss_in b n i
        have ih := str_end b n m (i + s_ss b n i) (k + 1) x (by omega) h
        exact ⟨ih.1, by omega, by omega⟩
theorem prs_end (b : Nat → Int) (n : Int) : ∀ (m : Nat) (i k : Int) (x : Int × Int), 0 ≤ i → s_prs b n m i k = some x → s_byte b n (x.2 - 1) = 62 ∧ k ≤ x.1 ∧ x.1 - k ≤ x.2 - 1 - i
  | 0, i, k, x, _, h => by cases h
  | m + 1, i, k, x, h0, h => by
    unfold s_prs at h
    split at h
    · next c =>
      cases h
      exact ⟨by rw [show i + 1 - 1 = i by omega]; exact c, Int.le_refl k, by show k - k ≤ i + 1 - 1 - i; omega⟩
    · split at h
      · cases h
      · next c =>
        have ih := prs_end b n m (i + 2) (k + 1) x (by omega) h
        exact ⟨ih.1, by omega, by omega⟩
/-- what a value that is read pays, with what is left over -/
def wV (b : Nat → Int) (f n : Int) (A w h : Nat) (i : Int) (K : Nat) (e : Int) : Prop := wC b f n e ∧ (wS b f n A w i + K + 4 * h ≤ wS b f n A w e ∨ (wS b f n A w i + K + 2 * h ≤ wS b f n A w e ∧ s_reg (b i.toNat) = true ∧ (n ≤ e ∨ s_reg (b e.toNat) = false)))
theorem wV_word {b : Nat → Int} {f n : Int} {u w A h : Nat} (h1 : u + 7 * w + 2 * h ≤ A) {i e : Int} (h0 : 0 ≤ i) (hie : i < e) (ht : ∀ p : Int, i ≤ p → p < e → wB b f n p.toNat = false) (hr : s_reg (b i.toNat) = true) (hs : n ≤ e ∨ s_reg (b e.toNat) = false) : wV b f n A w h i (u + 7 * w) e := by
  obtain ⟨a1, a2⟩ := tok_w (A := A) (w := w) h0 hie ht
  refine ⟨a1, Or.inr ⟨?_, hr, hs⟩⟩
  have : A ≤ (e - i).toNat * A := Nat.le_mul_of_pos_left A (by omega)
  rw [a2]
  omega
theorem wV_str {b : Nat → Int} {f n : Int} {u w A h : Nat} (h2 : 2 * u + 8 * w + 4 * h ≤ 2 * A) (hw : w ≤ A) {i e L : Int} (h0 : 0 ≤ i) (hL : 0 ≤ L ∧ L ≤ e - 1 - (i + 1)) (hi : wB b f n i.toNat = false) (he : wB b f n (e - 1).toNat = false) : wV b f n A w h i (u + 7 * w + (u + L.toNat * w)) e := by
  have a1 := wS_1 (A := A) (w := w) h0 hi
  have a2 := wS_lo2 (b := b) (f := f) (N := n) hw (i := i + 1) (j := e - 1) (L := L.toNat) (by omega) (by omega)
  have a3 := wS_1 (A := A) (w := w) (p := e - 1) (by omega) he
  have a4 := wC_pre (e := e - 1) (by omega) he
  rw [show e - 1 + 1 = e by omega] at a3 a4
  exact ⟨a4, Or.inl (by omega)⟩
theorem name_w {b : Nat → Int} {f n : Int} {u w A h : Nat} (hB : ∀ j, -128 ≤ b j ∧ b j ≤ 127) (h2 : 2 * u + 8 * w + 4 * h ≤ 2 * A) (hw : w ≤ A) {i : Int} (h0 : 0 ≤ s_name b n i) (hc : wC b f n i) : wC b f n (s_name b n i) ∧ wS b f n A w i + (u + 7 * w + (u + (s_name b n i - i - 1).toNat * w) : Nat) + 4 * h ≤ wS b f n A w (s_name b n i) := by
  have hn := s_name_in b n i
  have hb := s_reg_at hB (n := n) (i := i) (c := 47) (by omega) (by omega)
  have ht : ∀ p : Int, i ≤ p → p < s_name b n i → wB b f n p.toNat = false := tok_run hc (by omega) (fun p p1 p2 => by
    by_cases c : p = i
    · rw [c, hb.1]; decide
    · exact s_reg_n10 (wd_run (b := b) (n := n) (p := i + 1) (by omega) (by omega) p (by omega) (by omega))) (fun hx => by
    have := (ew_char (k := 0) hx (by omega)).2.2 (by omega)
    rw [Nat.add_zero, hb.1] at this
    omega)
  obtain ⟨a1, a2⟩ := tok_w (A := A) (w := w) (by omega) (show i < s_name b n i by omega) ht
  refine ⟨a1, ?_⟩
  rw [a2]
  obtain ⟨l, hl⟩ : ∃ l : Nat, (s_name b n i - i - 1).toNat = l + 1 := ⟨(s_name b n i - i - 2).toNat, by omega⟩
  rw [show (s_name b n i - i).toNat = l + 1 + 1 by omega, hl]
  have h3 : l * w ≤ l * A := Nat.mul_le_mul_left l hw
  rw [Nat.add_mul (l + 1), Nat.add_mul l, Nat.add_mul l]
  omega
theorem leaf_w {b : Nat → Int} {f n : Int} {u w A h : Nat} (hB : ∀ j, -128 ≤ b j ∧ b j ≤ 127) (h1 : u + 7 * w + 2 * h ≤ A) (h2 : 2 * u + 8 * w + 4 * h ≤ 2 * A) (hw : w ≤ A) {i : Int} {ts : List tk} {e : Int} (hl : s_leaf b n i = some (ts, e)) (hi : 0 ≤ i) (hc : wC b f n i) : wV b f n A w h i (k_tok u w (ts.getD 0 tk0)) e := by
  unfold s_leaf at hl
  split at hl
  · next c =>
    have hb := s_reg_at hB c (by omega)
    cases hs : s_str b n 101 (i + 1) 0 with
    | none => rw [hs] at hl; cases hl
    | some x =>
      rw [hs] at hl
      cases hl
      have h3 := str_end b n 101 (i + 1) 0 x (by omega) hs
      have h4 := s_reg_at hB h3.1 (by omega)
      exact wV_str (L := x.1) h2 hw hi (by omega) (wB_ch (by rw [hb.1]; omega)) (wB_ch (by rw [h4.1]; omega))
  · split at hl
    · next c =>
      have hb := s_reg_at hB c (by omega)
      cases hs : s_prs b n 101 (i + 1) 0 with
      | none => rw [hs] at hl; cases hl
      | some x =>
        rw [hs] at hl
        cases hl
        have h3 := prs_end b n 101 (i + 1) 0 x (by omega) hs
        have h4 := s_reg_at hB h3.1 (by omega)
        exact wV_str (L := x.1) h2 hw hi (by omega) (wB_ch (by rw [hb.1]; omega)) (wB_ch (by rw [h4.1]; omega))
    · split at hl
      · next c =>
        split at hl
        · cases hl
        · next c2 =>
          cases hl
          have h3 := name_w (f := f) hB h2 hw (by omega) hc
          exact ⟨h3.1, Or.inl h3.2⟩
      · unfold s_word at hl
        split at hl
        · unfold s_con at hl
          split at hl
          · next c =>
            cases hl
            have h3 := the_get c
            have h4 := s_the_stop c
            have h5 := h3.2.2.2 0 (by decide)
            rw [Nat.add_zero] at h5
            exact wV_word h1 hi (by simp only [List.length_cons, List.length_nil] at h3; omega) (the_out c (by decide) (by decide) (by decide) hc) (by rw [h5]; decide) h4
          · split at hl
            · next c =>
              cases hl
              have h3 := the_get c
              have h4 := s_the_stop c
              have h5 := h3.2.2.2 0 (by decide)
              rw [Nat.add_zero] at h5
              exact wV_word h1 hi (by simp only [List.length_cons, List.length_nil] at h3; omega) (the_out c (by decide) (by decide) (by decide) hc) (by rw [h5]; decide) h4
            · split at hl
              · next c =>
                cases hl
                have h3 := the_get c
                have h4 := s_the_stop c
                have h5 := h3.2.2.2 0 (by decide)
                rw [Nat.add_zero] at h5
                exact wV_word h1 hi (by simp only [List.length_cons, List.length_nil] at h3; omega) (the_out c (by decide) (by decide) (by decide) hc) (by rw [h5]; decide) h4
              · cases hl
        · next hnat =>
          split at hl
          · next c =>
            cases hl
            have hnat2 : 0 ≤ s_num b n i := by unfold s_nat at hnat; rw [if_neg c.1] at hnat; omega
            have h4 := s_num_in b n i
            have h5 := s_ref_in b n (s_nat b n i) (s_wd b n i) c.2 (by omega)
            have h7 := c.2
            have hre : s_ref b n (s_nat b n i) (s_wd b n i) = s_the b n (s_sc s_white b n (s_wd b n (s_sc s_white b n (s_wd b n i)))) [82] := by
              unfold s_ref at h7 ⊢
              split at h7
              · omega
              · next c2 => rw [if_neg c2]
            have h6 : n ≤ s_ref b n (s_nat b n i) (s_wd b n i) ∨ s_reg (b (s_ref b n (s_nat b n i) (s_wd b n i)).toNat) = false := by
              rw [hre] at h7 ⊢
              exact s_the_stop h7
            rw [hre] at h7
            have h8 := the_get h7
            have hg1 := s_sc_ge s_white b n (s_wd b n i)
            have h9 := s_num_in b n (s_sc s_white b n (s_wd b n i))
            have hg2 := s_sc_ge s_white b n (s_wd b n (s_sc s_white b n (s_wd b n i)))
            have hst := s_wd_stp (b := b) (n := n) (i := i) (by omega) hi
            simp only [List.length_cons, List.length_nil] at h8
            have hwt : ∀ (q : Int) (x : Nat), 0 ≤ q → q ≤ (x : Int) → (x : Int) < s_sc s_white b n q → ewB b f n x = true → False := fun q x q0 q1 q2 q3 => by
              have z1 := s_sc_all s_white b n _ q x rfl q0 q1 q2
              rw [show ((x : Int)).toNat = x by omega] at z1
              have z2 := (ew_char (k := 0) q3 (by omega)).2.2 (by omega)
              rw [Nat.add_zero] at z2
              unfold s_white at z1
              simp only [Bool.or_eq_true, decide_eq_true_eq] at z1
              omega
            refine wV_word h1 hi (by omega) (tok_out hc hi (fun x x1 x2 x3 => ?_)) hst.2.1 h6
            rw [hre] at x2
            by_cases y1 : (x : Int) < s_wd b n i
            · exact num_no hnat2 x1 y1 x3
            · by_cases y2 : (x : Int) < s_sc s_white b n (s_wd b n i)
              · exact hwt _ x (by omega) (by omega) y2 x3
              · by_cases y3 : (x : Int) < s_wd b n (s_sc s_white b n (s_wd b n i))
                · exact num_no (by omega) (by omega) y3 x3
                · by_cases y4 : (x : Int) < s_sc s_white b n (s_wd b n (s_sc s_white b n (s_wd b n i)))
                  · exact hwt _ x (by omega) (by omega) y4 x3
                  · have z3 := h8.2.2.2 0 (by decide)
                    have z4 := (ew_char (k := 0) x3 (by omega)).2.2 (by omega)
                    rw [show (s_sc s_white b n (s_wd b n (s_sc s_white b n (s_wd b n i)))).toNat = x by omega] at z3
                    rw [z3] at z4
                    exact absurd z4 (by decide)
          · cases hl
            by_cases c5 : s_byte b n i = 45
            · have hb := s_reg_at hB c5 (by omega)
              have hr : s_reg (b i.toNat) = true := by rw [hb.1]; decide
              have h8 := s_sc_step hb.2.1 hb.2.2 hr
              have h9 := s_sc_ge s_reg b n (i + 1)
              have hw9 : 0 ≤ s_wd b n i := by
                unfold s_wd
                rw [if_pos (by omega)]
                omega
              have h3 := s_wd_stp hw9 hi
              exact wV_word h1 hi h3.2.2 (tok_run hc hi (fun p p1 p2 => s_reg_n10 (wd_run hw9 hi p p1 p2)) (fun hx => by
                have := (ew_char (k := 0) hx (by omega)).2.2 (by omega)
                rw [Nat.add_zero, hb.1] at this
                omega)) hr h3.1
            · unfold s_nat at hnat
              rw [if_neg c5] at hnat
              have h4 := s_num_in b n i
              have hw9 : 0 ≤ s_wd b n i := by omega
              have h3 := s_wd_stp hw9 hi
              exact wV_word h1 hi h3.2.2 (tok_out hc hi (fun x x1 x2 x3 => num_no (by omega) x1 x2 x3)) h3.2.1 h3.1
