/-! room: values -/
theorem s_sc_len {p : Int → Bool} {b : Nat → Int} {n t : Int} (h : t ≤ n) : s_sc p b n t ≤ n := by
  unfold s_sc
  split
  · exact h
  · have := s_skip_le p b (n - t).toNat t.toNat
    omega
theorem leaf_in {b : Nat → Int} (hB : ∀ j, -128 ≤ b j ∧ b j ≤ 127) {n i : Int} {ts : List tk} {e : Int} (h : s_leaf b n i = some (ts, e)) (hi : 0 ≤ i) : i < e ∧ e ≤ n := by
  have hs : s_val b n 0 i = some (ts, e) ∨ s_byte b n i = 91 ∨ (s_byte b n i = 60 ∧ s_byte b n (i + 1) = 60) := by
    unfold s_val
    by_cases c1 : s_byte b n i = 91
    · exact Or.inr (Or.inl c1)
    · by_cases c2 : s_byte b n i = 60 ∧ s_byte b n (i + 1) = 60
      · exact Or.inr (Or.inr c2)
      · rw [if_neg c1, if_neg c2]; exact Or.inl h
  rcases hs with hs | hs | hs
  · have := s_val_len hB hs
    omega
  · exfalso
    unfold s_leaf at h
    rw [if_neg (by omega), if_neg (by omega), if_neg (by omega)] at h
    have hb := s_reg_at hB hs (by omega)
    have hw : s_wd b n i = -1 := by
      unfold s_wd
      rw [if_neg]
      intro z
      have := s_sc_all s_reg b n _ i i rfl hi (Int.le_refl i) z
      rw [hb.1] at this
      exact absurd this (by decide)
    unfold s_word at h
    have hnum : s_nat b n i < 0 := by
      unfold s_nat
      rw [if_neg (by omega)]
      have := s_num_in b n i
      omega
    rw [if_pos hnum] at h
    unfold s_con at h
    have hno : ∀ cs : List Int, 1 ≤ cs.length → ¬ cs.getD 0 0 = 91 → ¬ 0 ≤ s_the b n i cs := fun cs h1 h2 z => by
      have := (the_get z).2.2.2 0 (by omega)
      rw [Nat.add_zero, hb.1] at this
      exact h2 this.symm
    rw [if_neg (hno _ (by decide) (by decide)), if_neg (hno _ (by decide) (by decide)), if_neg (hno _ (by decide) (by decide))] at h
    cases h
  · unfold s_leaf at h
    rw [if_neg (by omega), if_pos hs.1] at h
    cases hp : s_prs b n 101 (i + 1) 0 with
    | none => rw [hp] at h; cases h
    | some x =>
      rw [hp] at h
      cases h
      have := s_prs_in b n 101 (i + 1) 0 x (by omega) hp
      show i < x.2 ∧ x.2 ≤ n
      omega
/-- what longer rows cost -/
def gS (u w c : Nat) : Nat → Nat → Nat
  | _, 0 => 0
  | k, M + 1 => k_gr u w c k + gS u w c (k + 1) M
theorem gS_mono (u w c : Nat) : ∀ {M N : Nat} (k : Nat), M ≤ N → gS u w c k M ≤ gS u w c k N
  | 0, N, k, _ => Nat.zero_le _
  | M + 1, 0, k, h => absurd h (by omega)
  | M + 1, N + 1, k, h => Nat.add_le_add_left (gS_mono u w c (k + 1) (Nat.le_of_succ_le_succ h)) _
/-- what the weights must pay -/
def HP (u w A h g : Nat) : Prop := (u + 7 * w + 2 * h ≤ A ∧ 2 * u + 8 * w + 4 * h ≤ 2 * A ∧ w ≤ A) ∧ (∀ M, M ≤ 60 → 2 * u + 11 * w + gS u w 1 0 M + 4 * h + (if M = 0 then 0 else h) ≤ 2 * A + 3 * (M * h)) ∧ (∀ M, M ≤ 30 → 3 * u + 15 * w + gS u w 2 0 M + 4 * h ≤ 4 * A + 6 * (M * h)) ∧ 2 * u + 11 * w + gS u w 1 0 60 ≤ g ∧ 3 * u + 15 * w + gS u w 2 0 30 ≤ g
theorem k_its_s {F : Int → Option (List tk × Int)} {K : Int → Nat} {u w : Nat} {b : Nat → Int} {n : Int} {m k : Nat} {i : Int} {x : List tk × Int} (hc : ¬ s_byte b n i = 93) (hx : F i = some x) : k_its F K u w b n (m + 1) k i = K i + (k_gr u w 1 k + k_its F K u w b n m (k + 1) (s_sc s_white b n x.2)) := by
  show (if s_byte b n i = 93 then 0 else K i + ((F i).map (fun x => k_gr u w 1 k + k_its F K u w b n m (k + 1) (s_sc s_white b n x.2))).getD 0) = _
  rw [if_neg hc, hx]
  rfl
theorem k_its_n {F : Int → Option (List tk × Int)} {K : Int → Nat} {u w : Nat} {b : Nat → Int} {n : Int} {m k : Nat} {i : Int} (hc : ¬ s_byte b n i = 93) (hx : F i = none) : k_its F K u w b n (m + 1) k i = K i := by
  show (if s_byte b n i = 93 then 0 else K i + ((F i).map (fun x => k_gr u w 1 k + k_its F K u w b n m (k + 1) (s_sc s_white b n x.2))).getD 0) = _
  rw [if_neg hc, hx]
  rfl
theorem k_its_0 {F : Int → Option (List tk × Int)} {K : Int → Nat} {u w : Nat} {b : Nat → Int} {n : Int} {k : Nat} {i : Int} (hc : s_byte b n i = 93) : ∀ m, k_its F K u w b n m k i = 0
  | 0 => rfl
  | m + 1 => by
    show (if s_byte b n i = 93 then 0 else _) = 0
    rw [if_pos hc]
theorem k_ens_0 {F : Int → Option (List tk × Int)} {K : Int → Nat} {u w : Nat} {b : Nat → Int} {n : Int} {k : Nat} {i : Int} {ns : List Int} (hc : s_byte b n i = 62) : ∀ m, k_ens F K u w b n m k i ns = 0
  | 0 => by
    show (if s_name b n i < 0 then 0 else _) = 0
    have : s_name b n i < 0 := by have := s_name_in b n i; omega
    rw [if_pos this]
  | m + 1 => by
    show (if s_byte b n i = 62 then 0 else _) = 0
    rw [if_pos hc]
theorem k_ens_m {F : Int → Option (List tk × Int)} {K : Int → Nat} {u w : Nat} {b : Nat → Int} {n : Int} {k : Nat} {i : Int} {ns : List Int} (hn : s_name b n i < 0) : ∀ m, k_ens F K u w b n m k i ns = 0
  | 0 => by
    show (if s_name b n i < 0 then 0 else _) = 0
    rw [if_pos hn]
  | m + 1 => by
    show (if s_byte b n i = 62 then 0 else if s_name b n i < 0 then 0 else _) = 0
    rw [if_pos hn]
    split <;> rfl
theorem k_ens_a {F : Int → Option (List tk × Int)} {K : Int → Nat} {u w : Nat} {b : Nat → Int} {n : Int} {m k : Nat} {i : Int} {ns : List Int} (hc : ¬ s_byte b n i = 62) (hn : ¬ s_name b n i < 0) (ha : ns.any (fun z => s_same b n z (i + 1)) = true) : k_ens F K u w b n (m + 1) k i ns = k_nm u w b n i := by
  show (if s_byte b n i = 62 then 0 else if s_name b n i < 0 then 0 else k_nm u w b n i + (if ns.any (fun z => s_same b n z (i + 1)) = true then 0 else _)) = _
  rw [if_neg hc, if_neg hn, if_pos ha, Nat.add_zero]
theorem k_ens_n {F : Int → Option (List tk × Int)} {K : Int → Nat} {u w : Nat} {b : Nat → Int} {n : Int} {m k : Nat} {i : Int} {ns : List Int} (hc : ¬ s_byte b n i = 62) (hn : ¬ s_name b n i < 0) (ha : ¬ ns.any (fun z => s_same b n z (i + 1)) = true) (hx : F (s_sc s_white b n (s_name b n i)) = none) : k_ens F K u w b n (m + 1) k i ns = k_nm u w b n i + K (s_sc s_white b n (s_name b n i)) := by
  show (if s_byte b n i = 62 then 0 else if s_name b n i < 0 then 0 else k_nm u w b n i + (if ns.any (fun z => s_same b n z (i + 1)) = true then 0 else K (s_sc s_white b n (s_name b n i)) + ((F (s_sc s_white b n (s_name b n i))).map (fun x => k_gr u w 2 k + k_ens F K u w b n m (k + 1) (s_sc s_white b n x.2) (ns ++ [i + 1]))).getD 0)) = _
  rw [if_neg hc, if_neg hn, if_neg ha, hx]
  rfl
theorem k_ens_s {F : Int → Option (List tk × Int)} {K : Int → Nat} {u w : Nat} {b : Nat → Int} {n : Int} {m k : Nat} {i : Int} {ns : List Int} {x : List tk × Int} (hc : ¬ s_byte b n i = 62) (hn : ¬ s_name b n i < 0) (ha : ¬ ns.any (fun z => s_same b n z (i + 1)) = true) (hx : F (s_sc s_white b n (s_name b n i)) = some x) : k_ens F K u w b n (m + 1) k i ns = k_nm u w b n i + (K (s_sc s_white b n (s_name b n i)) + (k_gr u w 2 k + k_ens F K u w b n m (k + 1) (s_sc s_white b n x.2) (ns ++ [i + 1]))) := by
  show (if s_byte b n i = 62 then 0 else if s_name b n i < 0 then 0 else k_nm u w b n i + (if ns.any (fun z => s_same b n z (i + 1)) = true then 0 else K (s_sc s_white b n (s_name b n i)) + ((F (s_sc s_white b n (s_name b n i))).map (fun x => k_gr u w 2 k + k_ens F K u w b n m (k + 1) (s_sc s_white b n x.2) (ns ++ [i + 1]))).getD 0)) = _
  rw [if_neg hc, if_neg hn, if_neg ha, hx]
  rfl
theorem wV_2 {b : Nat → Int} {f n : Int} {w A h : Nat} {i e : Int} {K : Nat} (h1 : wV b f n A w h i K e) : wC b f n e ∧ wS b f n A w i + K + 2 * h ≤ wS b f n A w e := ⟨h1.1, by rcases h1.2 with z | z <;> omega⟩
theorem its_w {b : Nat → Int} {f n : Int} {u w A h : Nat} (hB : ∀ j, -128 ≤ b j ∧ b j ≤ 127) {g : Nat} (hP : HP u w A h g) {D : Nat} (hV : ∀ i ts e, 0 ≤ i → wC b f n i → s_val b n D i = some (ts, e) → wV b f n A w h i (k_val u w b n D i) e) : ∀ (m k : Nat) (i : Int) (ts : List tk) (e : Int), 0 ≤ i → wC b f n i → s_items (s_val b n D) b n m i = some (ts, e) → ∃ M, M ≤ m ∧ s_byte b n (e - 1) = 93 ∧ i ≤ e - 1 ∧ wS b f n A w i + k_its (s_val b n D) (k_val u w b n D) u w b n m k i + 3 * (M * h : Nat) ≤ wS b f n A w (e - 1) + gS u w 1 k M + (if M = 0 then 0 else h : Nat) ∧ (s_reg (b i.toNat) = false → wS b f n A w i + k_its (s_val b n D) (k_val u w b n D) u w b n m k i + 3 * (M * h : Nat) ≤ wS b f n A w (e - 1) + gS u w 1 k M)
  | 0, k, i, ts, e, hi, hc, hs => by
    unfold s_items at hs
    split at hs
    · next c =>
      cases hs
      refine ⟨0, Nat.le_refl 0, by rw [show i + 1 - 1 = i by omega]; exact c, by omega, ?_, fun _ => ?_⟩
      · rw [k_its_0 c 0, show i + 1 - 1 = i by omega, Nat.zero_mul]
        show _ ≤ wS b f n A w i + (0 : Nat) + (0 : Nat)
        omega
      · rw [k_its_0 c 0, show i + 1 - 1 = i by omega, Nat.zero_mul]
        show _ ≤ wS b f n A w i + (0 : Nat)
        omega
    · cases hs
  | m + 1, k, i, ts, e, hi, hc, hs => by
    unfold s_items at hs
    split at hs
    · next c =>
      cases hs
      refine ⟨0, Nat.zero_le _, by rw [show i + 1 - 1 = i by omega]; exact c, by omega, ?_, fun _ => ?_⟩
      · rw [k_its_0 c (m + 1), show i + 1 - 1 = i by omega, Nat.zero_mul]
        show _ ≤ wS b f n A w i + (0 : Nat) + (0 : Nat)
        omega
      · rw [k_its_0 c (m + 1), show i + 1 - 1 = i by omega, Nat.zero_mul]
        show _ ≤ wS b f n A w i + (0 : Nat)
        omega
    · next c =>
      cases hv : s_val b n D i with
      | none => rw [hv] at hs; cases hs
      | some x =>
        rw [hv] at hs
        have hs : (s_items (s_val b n D) b n m (s_sc s_white b n x.2)).map (fun y => (x.1 ++ y.1, y.2)) = some (ts, e) := hs
        cases hr : s_items (s_val b n D) b n m (s_sc s_white b n x.2) with
        | none => rw [hr] at hs; cases hs
        | some y =>
          rw [hr] at hs
          cases hs
          have hx := s_val_len hB (ts := x.1) (j := x.2) hv
          have hd := hV i x.1 x.2 hi hc hv
          have hg := s_sc_ge s_white b n x.2
          have hwt := white_w (n := n) hP.1.2.2 (show 0 ≤ x.2 by omega) hd.1
          obtain ⟨M, m1, m2, m3, m4, m5⟩ := its_w hB hP hV m (k + 1) (s_sc s_white b n x.2) y.1 y.2 (by omega) hwt.1 hr
          have hA := hP.1.1
          have hm : (if M = 0 then 0 else h) ≤ h := by split <;> omega
          rw [k_its_s c hv]
          refine ⟨M + 1, by omega, m2, by omega, ?_, fun z => ?_⟩
          · rw [if_neg (by omega : ¬ M + 1 = 0), Nat.add_mul, Nat.one_mul, show gS u w 1 k (M + 1) = k_gr u w 1 k + gS u w 1 (k + 1) M from rfl]
            rcases hd.2 with z | ⟨z1, z2, z3⟩
            · omega
            · by_cases hsx : s_sc s_white b n x.2 = x.2
              · rw [hsx] at m5 hr
                rcases z3 with z4 | z4
                · exfalso
                  have hn : ¬ s_byte b n x.2 = 93 := by have := s_byte_in b n x.2; omega
                  have hv2 := s_val_end b hB n D (i := x.2) z4
                  cases m with
                  | zero => unfold s_items at hr; rw [if_neg hn] at hr; cases hr
                  | succ m => unfold s_items at hr; rw [if_neg hn, hv2] at hr; cases hr
                · have := m5 z4
                  rw [hsx]
                  omega
              · have := hwt.2.2 hsx
                omega
          · rw [Nat.add_mul, Nat.one_mul, show gS u w 1 k (M + 1) = k_gr u w 1 k + gS u w 1 (k + 1) M from rfl]
            rcases hd.2 with z1 | ⟨z1, z2, z3⟩
            · omega
            · rw [z] at z2; cases z2
theorem its_f {b : Nat → Int} {f n : Int} {u w A h : Nat} (hB : ∀ j, -128 ≤ b j ∧ b j ≤ 127) {g : Nat} (hP : HP u w A h g) {D c : Nat} (hV : ∀ i ts e, 0 ≤ i → wC b f n i → s_val b n D i = some (ts, e) → wV b f n A w h i (k_val u w b n D i) e) (hF : ∀ i, 0 ≤ i → i ≤ n → wC b f n i → wS b f n A w i + k_val u w b n D i ≤ wS b f n A w n + c) : ∀ (m k : Nat) (i : Int), 0 ≤ i → i ≤ n → wC b f n i → wS b f n A w i + k_its (s_val b n D) (k_val u w b n D) u w b n m k i ≤ wS b f n A w n + gS u w 1 k m + c
  | 0, k, i, hi, hn, hc => by
    have := wS_mono (b := b) (f := f) (N := n) hP.1.2.2 hi hn
    show wS b f n A w i + (0 : Nat) ≤ wS b f n A w n + (0 : Nat) + c
    omega
  | m + 1, k, i, hi, hn, hc => by
    have hmo := wS_mono (b := b) (f := f) (N := n) hP.1.2.2 hi hn
    have hgs : gS u w 1 k (m + 1) = k_gr u w 1 k + gS u w 1 (k + 1) m := rfl
    by_cases c9 : s_byte b n i = 93
    · rw [k_its_0 c9]; omega
    · cases hv : s_val b n D i with
      | none =>
        rw [k_its_n c9 hv]
        have := hF i hi hn hc
        omega
      | some x =>
        rw [k_its_s c9 hv]
        have hx := s_val_len hB (ts := x.1) (j := x.2) hv
        have hd := wV_2 (hV i x.1 x.2 hi hc hv)
        have hg := s_sc_ge s_white b n x.2
        have hl := s_sc_len (p := s_white) (b := b) (n := n) (t := x.2) (by omega)
        have hwt := white_w (n := n) hP.1.2.2 (show 0 ≤ x.2 by omega) hd.1
        have ih := its_f hB hP hV hF m (k + 1) (s_sc s_white b n x.2) (by omega) hl hwt.1
        omega
theorem ens_w {b : Nat → Int} {f n : Int} {u w A h : Nat} (hB : ∀ j, -128 ≤ b j ∧ b j ≤ 127) {g : Nat} (hP : HP u w A h g) {D : Nat} (hV : ∀ i ts e, 0 ≤ i → wC b f n i → s_val b n D i = some (ts, e) → wV b f n A w h i (k_val u w b n D i) e) : ∀ (m k : Nat) (i : Int) (ns : List Int) (ts : List tk) (e : Int), 0 ≤ i → wC b f n i → s_ents (s_val b n D) b n m i ns = some (ts, e) → ∃ M, M ≤ m ∧ 0 ≤ s_txt b n (e - 2) [62, 62] ∧ i ≤ e - 2 ∧ wS b f n A w i + k_ens (s_val b n D) (k_val u w b n D) u w b n m k i ns + 6 * (M * h : Nat) ≤ wS b f n A w (e - 2) + gS u w 2 k M
  | 0, k, i, ns, ts, e, hi, hc, hs => by
    unfold s_ents at hs
    split at hs
    · next c =>
      split at hs
      · next c2 =>
        cases hs
        have h9 := s_txt_in b n i [62, 62]
        simp only [List.length_cons, List.length_nil] at h9
        have e1 : s_txt b n i [62, 62] - 2 = i := by omega
        refine ⟨0, Nat.le_refl 0, by rw [e1]; exact c2, by omega, ?_⟩
        rw [k_ens_0 c 0, e1, Nat.zero_mul]
        show _ ≤ wS b f n A w i + (0 : Nat)
        omega
      · cases hs
    · cases hs
  | m + 1, k, i, ns, ts, e, hi, hc, hs => by
    unfold s_ents at hs
    split at hs
    · next c =>
      split at hs
      · next c2 =>
        cases hs
        have h9 := s_txt_in b n i [62, 62]
        simp only [List.length_cons, List.length_nil] at h9
        have e1 : s_txt b n i [62, 62] - 2 = i := by omega
        refine ⟨0, Nat.zero_le _, by rw [e1]; exact c2, by omega, ?_⟩
        rw [k_ens_0 c (m + 1), e1, Nat.zero_mul]
        show _ ≤ wS b f n A w i + (0 : Nat)
        omega
      · cases hs
    · next c =>
      split at hs
      · cases hs
      · next ca =>
        split at hs
        · cases hs
        · next cn =>
          have hnm := s_name_in b n i
          have hg1 := s_sc_ge s_white b n (s_name b n i)
          cases hv : s_val b n D (s_sc s_white b n (s_name b n i)) with
          | none => rw [hv] at hs; cases hs
          | some x =>
            rw [hv] at hs
            have hs : (s_ents (s_val b n D) b n m (s_sc s_white b n x.2) (ns ++ [i + 1])).map (fun y => (s_nm (i + 1) x.1 ++ y.1, y.2)) = some (ts, e) := hs
            cases hr : s_ents (s_val b n D) b n m (s_sc s_white b n x.2) (ns ++ [i + 1]) with
            | none => rw [hr] at hs; cases hs
            | some y =>
              rw [hr] at hs
              cases hs
              have hx := s_val_len hB (ts := x.1) (j := x.2) hv
              have hw1 := name_w (f := f) hB hP.1.2.1 hP.1.2.2 (by omega) hc
              have hw2 := white_w (n := n) hP.1.2.2 (show 0 ≤ s_name b n i by omega) hw1.1
              have hd := wV_2 (hV _ x.1 x.2 (by omega) hw2.1 hv)
              have hg := s_sc_ge s_white b n x.2
              have hwt := white_w (n := n) hP.1.2.2 (show 0 ≤ x.2 by omega) hd.1
              obtain ⟨M, m1, m2, m3, m4⟩ := ens_w hB hP hV m (k + 1) (s_sc s_white b n x.2) (ns ++ [i + 1]) y.1 y.2 (by omega) hwt.1 hr
              rw [k_ens_s c cn ca hv]
              refine ⟨M + 1, by omega, m2, by omega, ?_⟩
              rw [Nat.add_mul, Nat.one_mul, show gS u w 2 k (M + 1) = k_gr u w 2 k + gS u w 2 (k + 1) M from rfl]
              have hk : k_nm u w b n i = u + 7 * w + (u + (s_name b n i - i - 1).toNat * w) := rfl
              omega
theorem ens_f {b : Nat → Int} {f n : Int} {u w A h : Nat} (hB : ∀ j, -128 ≤ b j ∧ b j ≤ 127) {g : Nat} (hP : HP u w A h g) {D c : Nat} (hV : ∀ i ts e, 0 ≤ i → wC b f n i → s_val b n D i = some (ts, e) → wV b f n A w h i (k_val u w b n D i) e) (hF : ∀ i, 0 ≤ i → i ≤ n → wC b f n i → wS b f n A w i + k_val u w b n D i ≤ wS b f n A w n + c) : ∀ (m k : Nat) (i : Int) (ns : List Int), 0 ≤ i → i ≤ n → wC b f n i → wS b f n A w i + k_ens (s_val b n D) (k_val u w b n D) u w b n m k i ns ≤ wS b f n A w n + gS u w 2 k m + c
  | 0, k, i, ns, hi, hn, hc => by
    have hmo := wS_mono (b := b) (f := f) (N := n) hP.1.2.2 hi hn
    by_cases cn : s_name b n i < 0
    · rw [k_ens_m cn]; omega
    · have e1 : k_ens (s_val b n D) (k_val u w b n D) u w b n 0 k i ns = k_nm u w b n i := by
        show (if s_name b n i < 0 then 0 else k_nm u w b n i) = _
        rw [if_neg cn]
      rw [e1]
      have hnm := s_name_in b n i
      have hw1 := name_w (f := f) hB hP.1.2.1 hP.1.2.2 (by omega) hc
      have hmo2 := wS_mono (b := b) (f := f) (N := n) hP.1.2.2 (i := s_name b n i) (j := n) (by omega) (by omega)
      have hk : k_nm u w b n i = u + 7 * w + (u + (s_name b n i - i - 1).toNat * w) := rfl
      omega
  | m + 1, k, i, ns, hi, hn, hc => by
    have hmo := wS_mono (b := b) (f := f) (N := n) hP.1.2.2 hi hn
    have hgs : gS u w 2 k (m + 1) = k_gr u w 2 k + gS u w 2 (k + 1) m := rfl
    by_cases c9 : s_byte b n i = 62
    · rw [k_ens_0 c9]; omega
    · by_cases cn : s_name b n i < 0
      · rw [k_ens_m cn]; omega
      · have hnm := s_name_in b n i
        have hw1 := name_w (f := f) hB hP.1.2.1 hP.1.2.2 (by omega) hc
        have hmo2 := wS_mono (b := b) (f := f) (N := n) hP.1.2.2 (i := s_name b n i) (j := n) (by omega) (by omega)
        have hk : k_nm u w b n i = u + 7 * w + (u + (s_name b n i - i - 1).toNat * w) := rfl
        by_cases ca : ns.any (fun z => s_same b n z (i + 1)) = true
        · rw [k_ens_a c9 cn ca]; omega
        · have hg1 := s_sc_ge s_white b n (s_name b n i)
          have hl1 := s_sc_len (p := s_white) (b := b) (n := n) (t := s_name b n i) (by omega)
          have hw2 := white_w (n := n) hP.1.2.2 (show 0 ≤ s_name b n i by omega) hw1.1
          cases hv : s_val b n D (s_sc s_white b n (s_name b n i)) with
          | none =>
            rw [k_ens_n c9 cn ca hv]
            have := hF _ (by omega) hl1 hw2.1
            omega
          | some x =>
            rw [k_ens_s c9 cn ca hv]
            have hx := s_val_len hB (ts := x.1) (j := x.2) hv
            have hd := wV_2 (hV _ x.1 x.2 (by omega) hw2.1 hv)
            have hg := s_sc_ge s_white b n x.2
            have hl := s_sc_len (p := s_white) (b := b) (n := n) (t := x.2) (by omega)
            have hwt := white_w (n := n) hP.1.2.2 (show 0 ≤ x.2 by omega) hd.1
            have ih := ens_f hB hP hV hF m (k + 1) (s_sc s_white b n x.2) (ns ++ [i + 1]) (by omega) hl hwt.1
            omega
theorem val_w {b : Nat → Int} {f n : Int} {u w A h : Nat} (hB : ∀ j, -128 ≤ b j ∧ b j ≤ 127) {g : Nat} (hP : HP u w A h g) : ∀ (D : Nat), (∀ i ts e, 0 ≤ i → wC b f n i → s_val b n D i = some (ts, e) → wV b f n A w h i (k_val u w b n D i) e) ∧ (∀ i, 0 ≤ i → i ≤ n → wC b f n i → wS b f n A w i + k_val u w b n D i ≤ wS b f n A w n + (D * g : Nat))
  | 0 => by
    refine ⟨fun i ts e hi hc hs => ?_, fun i hi hn hc => ?_⟩
    · unfold s_val at hs
      unfold k_val
      split at hs
      · cases hs
      · next c1 =>
        rw [if_neg c1]
        split at hs
        · cases hs
        · next c2 =>
          rw [if_neg c2, hs]
          exact leaf_w hB hP.1.1 hP.1.2.1 hP.1.2.2 hs hi hc
    · have hmo := wS_mono (b := b) (f := f) (N := n) hP.1.2.2 hi hn
      unfold k_val
      split
      · omega
      · split
        · omega
        · cases hs : s_leaf b n i with
          | none => show wS b f n A w i + (0 : Nat) ≤ _; omega
          | some y =>
            have h1 := wV_2 (leaf_w (f := f) hB hP.1.1 hP.1.2.1 hP.1.2.2 (ts := y.1) (e := y.2) hs hi hc)
            have hin := leaf_in hB (ts := y.1) (e := y.2) hs hi
            have hmo2 := wS_mono (b := b) (f := f) (N := n) hP.1.2.2 (i := y.2) (j := n) (by omega) (by omega)
            show wS b f n A w i + (k_tok u w (y.1.getD 0 tk0) : Nat) ≤ _
            omega
  | D + 1 => by
    obtain ⟨hV, hF⟩ := val_w hB hP D
    have hmul : (D + 1) * g = D * g + g := by rw [Nat.add_mul, Nat.one_mul]
    refine ⟨fun i ts e hi hc hs => ?_, fun i hi hn hc => ?_⟩
    · unfold s_val at hs
      unfold k_val
      split at hs
      · next c1 =>
        rw [if_pos c1]
        have hb := s_reg_at hB c1 (by omega)
        have ho : wB b f n i.toNat = false := wB_ch (by rw [hb.1]; omega)
        have a1 := wS_1 (A := A) (w := w) hi ho
        have a2 := white_w (n := n) hP.1.2.2 (show 0 ≤ i + 1 by omega) (wC_pre hi ho)
        have hg := s_sc_ge s_white b n (i + 1)
        cases hr : s_items (s_val b n D) b n 60 (s_sc s_white b n (i + 1)) with
        | none => rw [hr] at hs; cases hs
        | some x =>
          rw [hr] at hs
          cases hs
          obtain ⟨M, m1, m2, m3, m4, -⟩ := its_w hB hP hV 60 0 _ x.1 x.2 (by omega) a2.1 hr
          have hb2 := s_reg_at hB m2 (by omega)
          have ho2 : wB b f n (x.2 - 1).toNat = false := wB_ch (by rw [hb2.1]; omega)
          have a3 := wS_1 (A := A) (w := w) (p := x.2 - 1) (by omega) ho2
          have a4 := wC_pre (e := x.2 - 1) (by omega) ho2
          rw [show x.2 - 1 + 1 = x.2 by omega] at a3 a4
          have h4 := hP.2.1 M m1
          exact ⟨a4, Or.inl (by omega)⟩
      · next c1 =>
        rw [if_neg c1]
        split at hs
        · next c2 =>
          rw [if_pos c2]
          have hb := s_reg_at hB c2.1 (by omega)
          have hb1 := s_reg_at hB c2.2 (by omega)
          have ho : wB b f n i.toNat = false := wB_ch (by rw [hb.1]; omega)
          have ho1 : wB b f n (i + 1).toNat = false := wB_ch (by rw [hb1.1]; omega)
          have a1 := wS_1 (A := A) (w := w) hi ho
          have a1' := wS_1 (A := A) (w := w) (p := i + 1) (by omega) ho1
          have a2' := wC_pre (e := i + 1) (by omega) ho1
          rw [show i + 1 + 1 = i + 2 by omega] at a1' a2'
          have a2 := white_w (n := n) hP.1.2.2 (show 0 ≤ i + 2 by omega) a2'
          have hg := s_sc_ge s_white b n (i + 2)
          cases hr : s_ents (s_val b n D) b n 30 (s_sc s_white b n (i + 2)) [] with
          | none => rw [hr] at hs; cases hs
          | some x =>
            rw [hr] at hs
            cases hs
            obtain ⟨M, m1, m2, m3, m4⟩ := ens_w hB hP hV 30 0 _ [] x.1 x.2 (by omega) a2.1 hr
            have ht := s_txt_iff.mp m2
            have t0 := ht.2.2 0 (by decide)
            have t1 := ht.2.2 1 (by decide)
            have ho2 : wB b f n (x.2 - 2).toNat = false := wB_ch (by rw [Nat.add_zero] at t0; rw [t0]; decide)
            have ho3 : wB b f n (x.2 - 1).toNat = false := wB_ch (by rw [show (x.2 - 1).toNat = (x.2 - 2).toNat + 1 by omega, t1]; decide)
            have a3 := wS_1 (A := A) (w := w) (p := x.2 - 2) (by omega) ho2
            have a4 := wS_1 (A := A) (w := w) (p := x.2 - 1) (by omega) ho3
            have a5 := wC_pre (e := x.2 - 1) (by omega) ho3
            rw [show x.2 - 1 + 1 = x.2 by omega] at a4 a5
            rw [show x.2 - 2 + 1 = x.2 - 1 by omega] at a3
            have h4 := hP.2.2.1 M m1
            exact ⟨a5, Or.inl (by omega)⟩
        · next c2 =>
          rw [if_neg c2, hs]
          exact leaf_w hB hP.1.1 hP.1.2.1 hP.1.2.2 hs hi hc
    · have hmo := wS_mono (b := b) (f := f) (N := n) hP.1.2.2 hi hn
      unfold k_val
      split
      · next c1 =>
        have hb := s_reg_at hB c1 (by omega)
        have ho : wB b f n i.toNat = false := wB_ch (by rw [hb.1]; omega)
        have a1 := wS_1 (A := A) (w := w) hi ho
        have a2 := white_w (n := n) hP.1.2.2 (show 0 ≤ i + 1 by omega) (wC_pre hi ho)
        have hg := s_sc_ge s_white b n (i + 1)
        have hl := s_sc_len (p := s_white) (b := b) (n := n) (t := i + 1) (by omega)
        have h3 := its_f hB hP hV hF 60 0 _ (by omega) hl a2.1
        have h4 := hP.2.2.2.1
        omega
      · split
        · next c2 =>
          have hb := s_reg_at hB c2.1 (by omega)
          have hb1 := s_reg_at hB c2.2 (by omega)
          have ho : wB b f n i.toNat = false := wB_ch (by rw [hb.1]; omega)
          have ho1 : wB b f n (i + 1).toNat = false := wB_ch (by rw [hb1.1]; omega)
          have a1 := wS_1 (A := A) (w := w) hi ho
          have a1' := wS_1 (A := A) (w := w) (p := i + 1) (by omega) ho1
          have a2' := wC_pre (e := i + 1) (by omega) ho1
          rw [show i + 1 + 1 = i + 2 by omega] at a1' a2'
          have a2 := white_w (n := n) hP.1.2.2 (show 0 ≤ i + 2 by omega) a2'
          have hg := s_sc_ge s_white b n (i + 2)
          have hl := s_sc_len (p := s_white) (b := b) (n := n) (t := i + 2) (by omega)
          have h3 := ens_f hB hP hV hF 30 0 _ [] (by omega) hl a2.1
          have h4 := hP.2.2.2.2
          omega
        · cases hs : s_leaf b n i with
          | none => show wS b f n A w i + (0 : Nat) ≤ _; omega
          | some y =>
            have h1 := wV_2 (leaf_w (f := f) hB hP.1.1 hP.1.2.1 hP.1.2.2 (ts := y.1) (e := y.2) hs hi hc)
            have hin := leaf_in hB (ts := y.1) (e := y.2) hs hi
            have hmo2 := wS_mono (b := b) (f := f) (N := n) hP.1.2.2 (i := y.2) (j := n) (by omega) (by omega)
            show wS b f n A w i + (k_tok u w (y.1.getD 0 tk0) : Nat) ≤ _
            omega
