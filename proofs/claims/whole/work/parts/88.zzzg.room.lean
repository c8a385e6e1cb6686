/-! room: objects -/
theorem kval_neg {b : Nat → Int} (hB : ∀ j, -128 ≤ b j ∧ b j ≤ 127) {n i : Int} {u w : Nat} (h : i < 0) : k_val u w b n 8 i = 0 := by
  have h1 := s_byte_in b n i
  have hv : s_val b n 8 i = s_leaf b n i := by
    show (if s_byte b n i = 91 then _ else if s_byte b n i = 60 ∧ s_byte b n (i + 1) = 60 then _ else s_leaf b n i) = _
    rw [if_neg (by omega), if_neg (by omega)]
  show (if s_byte b n i = 91 then _ else if s_byte b n i = 60 ∧ s_byte b n (i + 1) = 60 then _ else k_opt u w (s_leaf b n i)) = 0
  rw [if_neg (by omega), if_neg (by omega)]
  cases hl : s_leaf b n i with
  | none => rfl
  | some y =>
    rw [hl] at hv
    have := s_val_len hB (ts := y.1) (j := y.2) hv
    omega
theorem kval_int {b : Nat → Int} {n i : Int} {u w D : Nat} {y : List tk × Int} (h : s_val b n (D + 1) i = some y) (h3 : lkd y.1 0 = 3) : k_val u w b n (D + 1) i = u + 7 * w := by
  unfold s_val at h
  unfold k_val
  by_cases c1 : s_byte b n i = 91
  · rw [if_pos c1] at h
    obtain ⟨x, _, e⟩ := Option.map_eq_some_iff.mp h
    rw [← e] at h3
    exact absurd (show (6 : Int) = 3 from h3) (by decide)
  · rw [if_neg c1] at h ⊢
    by_cases c2 : s_byte b n i = 60 ∧ s_byte b n (i + 1) = 60
    · rw [if_pos c2] at h
      obtain ⟨x, _, e⟩ := Option.map_eq_some_iff.mp h
      rw [← e] at h3
      exact absurd (show (7 : Int) = 3 from h3) (by decide)
    · rw [if_neg c2] at h ⊢
      rw [h]
      show (if (y.1.getD 0 tk0).1 = 4 ∨ (y.1.getD 0 tk0).1 = 5 then _ else u + 7 * w) = _
      have h3 : (y.1.getD 0 tk0).1 = 3 := h3
      rw [if_neg (by omega)]
theorem hd_w {b : Nat → Int} {f n pl gn k : Int} (hf : 0 ≤ f) (hpl : 0 ≤ pl) : s_hd b n f pl gn k < 0 ∨ (f ≤ s_hd b n f pl gn k ∧ s_hd b n f pl gn k ≤ n ∧ wC b f n (s_hd b n f pl gn k)) := by
  have h1 := s_hd_in b n f pl gn k (by omega)
  by_cases c : s_hd b n f pl gn k < 0
  · exact Or.inl c
  · refine Or.inr ⟨by omega, by omega, ?_⟩
    unfold s_hd at c ⊢
    split at c
    · omega
    · next c2 =>
      rw [if_neg c2]
      have hT : 0 ≤ s_the b n (s_abyte b n (s_wd b n (s_hg b n f pl)) 32) [111, 98, 106] := by
        by_cases z : s_the b n (s_abyte b n (s_wd b n (s_hg b n f pl)) 32) [111, 98, 106] < 0
        · rw [s_sc_0 s_white b z] at c; omega
        · omega
      obtain ⟨g1, g2, g3, g4⟩ := the_get hT
      have g5 := g4 2 (by decide)
      simp only [List.length_cons, List.length_nil] at g1
      have hc := wC_pre (b := b) (f := f) (N := n) (e := s_abyte b n (s_wd b n (s_hg b n f pl)) 32 + 2) (by omega) (wB_ch (by
        rw [show (s_abyte b n (s_wd b n (s_hg b n f pl)) 32 + 2).toNat = (s_abyte b n (s_wd b n (s_hg b n f pl)) 32).toNat + 2 by omega, g5]
        decide))
      rw [show s_abyte b n (s_wd b n (s_hg b n f pl)) 32 + 2 + 1 = s_the b n (s_abyte b n (s_wd b n (s_hg b n f pl)) 32) [111, 98, 106] by omega] at hc
      exact (white_w (A := 0) (w := 0) (Nat.le_refl 0) hT hc).1
/-- all bytes' weight -/
def wT (b : Nat → Int) (f n : Int) (A w : Nat) : Int := wS b f n A w n - wS b f n A w f
theorem val_t {b : Nat → Int} {f n : Int} {u w A h : Nat} (hB : ∀ j, -128 ≤ b j ∧ b j ≤ 127) {g : Nat} (hP : HP u w A h g) (hf : 0 ≤ f) {pl gn k : Int} (hpl : 0 ≤ pl) (hfn : f ≤ n) : (k_val u w b n 8 (s_hd b n f pl gn k) : Int) ≤ wT b f n A w + (8 * g : Nat) := by
  unfold wT
  have hm := wS_mono (b := b) (f := f) (N := n) hP.1.2.2 hf hfn
  rcases hd_w (b := b) (n := n) (gn := gn) (k := k) hf hpl with z | ⟨z1, z2, z3⟩
  · rw [kval_neg hB z]; omega
  · have h1 := (val_w (f := f) hB hP 8).2 _ (by omega) z2 z3
    have h2 := wS_mono (b := b) (f := f) (N := n) hP.1.2.2 hf z1
    omega
theorem rl_w {b : Nat → Int} {f n : Int} {u w A h : Nat} (hB : ∀ j, -128 ≤ b j ∧ b j ≤ 127) {g : Nat} (hP : HP u w A h g) (hf : 0 ≤ f) (hfn : f ≤ n) {pl gn us : Nat → Int} {sz : Int} (hpl : ∀ j : Nat, (j : Int) < sz → ¬ us j = 0 → 0 ≤ pl j) (ts : List tk) : (k_rl u w b n f pl gn us sz ts : Int) ≤ wT b f n A w + (8 * g : Nat) ∧ (0 ≤ s_rl b n f pl gn us sz ts → k_rl u w b n f pl gn us sz ts ≤ u + 7 * w) := by
  have hm := wS_mono (b := b) (f := f) (N := n) hP.1.2.2 hf hfn
  unfold k_rl s_rl
  by_cases c1 : s_lnj b n ts < 0
  · rw [if_pos c1, if_pos c1]
    exact ⟨by unfold wT; omega, fun z => by omega⟩
  · rw [if_neg c1, if_neg c1]
    obtain ⟨ld, hld⟩ : ∃ z, z = s_ldt (lkd ts) (lon ts) (ltw ts) gn us sz (s_lnj b n ts) := ⟨_, rfl⟩
    have hin := s_ldt_in (lkd ts) (lon ts) (ltw ts) gn us sz (s_lnj b n ts)
    rw [← hld] at hin ⊢
    by_cases c2 : ld < 0
    · rw [if_pos c2, if_pos c2]
      exact ⟨by unfold wT; omega, fun z => Nat.zero_le _⟩
    · rw [if_neg c2, if_neg c2]
      have hp := hpl ld.toNat (by omega) (by rcases hin with z | z; omega; exact z.2.2)
      refine ⟨val_t hB hP hf hp hfn, fun z => ?_⟩
      cases hv : s_val b n 8 (s_hd b n f (pl ld.toNat) (gn ld.toNat) ld) with
      | none => rw [hv] at z; exact absurd (show (0 : Int) ≤ -1 from z) (by decide)
      | some y =>
        rw [hv] at z
        have z : 0 ≤ (if lkd y.1 0 = 3 then lon y.1 0 else -1) := z
        by_cases c3 : lkd y.1 0 = 3
        · rw [kval_int (D := 7) hv c3]
          exact Nat.le_refl _
        · rw [if_neg c3] at z; omega
theorem rv_w {b : Nat → Int} {f n : Int} {u w A h : Nat} (hB : ∀ j, -128 ≤ b j ∧ b j ≤ 127) {g : Nat} (hP : HP u w A h g) (hf : 0 ≤ f) (hfn : f ≤ n) {pl gn us : Nat → Int} {sz k : Int} (hpl : ∀ j : Nat, (j : Int) < sz → ¬ us j = 0 → 0 ≤ pl j) (hk : 0 ≤ pl k.toNat) : (k_rv u w b n f pl gn us sz k : Int) ≤ 2 * wT b f n A w + (8 * g : Nat) + (3 * u + 14 * w : Nat) ∧ (∀ ts, s_rv b n f pl gn us sz k = some ts → (k_rv u w b n f pl gn us sz k : Int) ≤ wT b f n A w + (3 * u + 14 * w : Nat)) := by
  have hm := wS_mono (b := b) (f := f) (N := n) hP.1.2.2 hf hfn
  have ht := val_t (b := b) (n := n) (gn := gn k.toNat) (k := k) hB hP hf hk hfn
  have hwT : 0 ≤ wT b f n A w := by unfold wT; omega
  unfold k_rv s_rv
  cases hv : s_val b n 8 (s_hd b n f (pl k.toNat) (gn k.toNat) k) with
  | none =>
    refine ⟨?_, fun ts z => by cases z⟩
    show ((k_val u w b n 8 (s_hd b n f (pl k.toNat) (gn k.toNat) k) + 0 : Nat) : Int) ≤ _
    omega
  | some y =>
    have hl := s_val_len hB (ts := y.1) (j := y.2) hv
    rcases hd_w (b := b) (n := n) (gn := gn k.toNat) (k := k) hf hk with z | ⟨z1, z2, z3⟩
    · omega
    · have hw := wV_2 ((val_w (f := f) hB hP 8).1 _ y.1 y.2 (by omega) z3 hv)
      have h2 := wS_mono (b := b) (f := f) (N := n) hP.1.2.2 hf z1
      have h3 := wS_mono (b := b) (f := f) (N := n) hP.1.2.2 (i := y.2) (j := n) (by omega) (by omega)
      obtain ⟨st, hst⟩ : ∃ z, z = s_the b n (s_sc s_white b n y.2) [115, 116, 114, 101, 97, 109] := ⟨_, rfl⟩
      obtain ⟨K, hK⟩ : ∃ z, z = k_val u w b n 8 (s_hd b n f (pl k.toNat) (gn k.toNat) k) := ⟨_, rfl⟩
      rw [← hK] at hw ht ⊢
      simp only [Option.map_some, Option.getD_some, Option.bind_some]
      rw [← hst]
      by_cases c : lkd y.1 0 = 7 ∧ 0 ≤ st
      · rw [if_pos c]
        obtain ⟨r1, r2⟩ := rl_w (us := us) (gn := gn) hB hP hf hfn hpl y.1
        unfold k_st
        by_cases c2 : s_es b n (s_rl b n f pl gn us sz y.1) st < 0
        · rw [if_pos c2]
          refine ⟨by unfold wT at *; omega, fun ts z => ?_⟩
          rw [if_pos c, if_pos (Or.inl c2)] at z
          cases z
        · rw [if_neg c2]
          have hes : 0 ≤ s_abyte b n st 10 ∧ 0 ≤ s_rl b n f pl gn us sz y.1 ∧ s_rl b n f pl gn us sz y.1 ≤ n - s_abyte b n st 10 := by
            unfold s_es at c2
            split at c2
            · next z => exact z
            · omega
          have hab := s_abyte_in b n st 10
          have hth := s_the_in b n (s_sc s_white b n y.2) [115, 116, 114, 101, 97, 109]
          have hge := s_sc_ge s_white b n y.2
          rw [← hst] at hth
          have hL := wS_lo2 (b := b) (f := f) (N := n) hP.1.2.2 (i := y.2) (j := n) (L := (s_rl b n f pl gn us sz y.1).toNat) (by omega) (by omega)
          have hrl := r2 hes.2.1
          exact ⟨by unfold wT at *; omega, fun ts _ => by unfold wT; omega⟩
      · rw [if_neg c]
        exact ⟨by unfold wT at *; omega, fun ts _ => by unfold wT; omega⟩
/-- how many are used -/
def cU (us : Nat → Int) : Nat → Nat → Nat
  | 0, _ => 0
  | m + 1, k => (if us k = 0 then 0 else 1) + cU us m (k + 1)
theorem obs_w {b : Nat → Int} {f n : Int} {u w A h : Nat} (hB : ∀ j, -128 ≤ b j ∧ b j ≤ 127) {g : Nat} (hP : HP u w A h g) (hf : 0 ≤ f) (hfn : f ≤ n) {pl gn us : Nat → Int} {sz : Int} (hpl : ∀ j : Nat, (j : Int) < sz → ¬ us j = 0 → 0 ≤ pl j) : ∀ (m k : Nat), (k : Int) + m ≤ sz → (k_obs u w b n f pl gn us sz m k : Int) ≤ (cU us m k : Int) * (wT b f n A w + (3 * u + 14 * w : Nat)) + wT b f n A w + (8 * g : Nat)
  | 0, k, _ => by
    have hm := wS_mono (b := b) (f := f) (N := n) hP.1.2.2 hf hfn
    show (0 : Int) ≤ (0 : Int) * _ + wT b f n A w + (8 * g : Nat)
    rw [Int.zero_mul]
    unfold wT
    omega
  | m + 1, k, hk => by
    have hm := wS_mono (b := b) (f := f) (N := n) hP.1.2.2 hf hfn
    have hwT : 0 ≤ wT b f n A w := by unfold wT; omega
    have ih := obs_w hB hP hf hfn hpl (gn := gn) m (k + 1) (by omega)
    show ((if us (k : Int).toNat = 0 then k_obs u w b n f pl gn us sz m ((k : Int) + 1) else k_rv u w b n f pl gn us sz k + ((s_rv b n f pl gn us sz k).map (fun _ => k_obs u w b n f pl gn us sz m ((k : Int) + 1))).getD 0 : Nat) : Int) ≤ (((if us k = 0 then 0 else 1) + cU us m (k + 1) : Nat) : Int) * (wT b f n A w + (3 * u + 14 * w : Nat)) + wT b f n A w + (8 * g : Nat)
    rw [show ((k : Int)).toNat = k by omega, show (k : Int) + 1 = ((k + 1 : Nat) : Int) by omega]
    have hc0 : 0 ≤ (cU us m (k + 1) : Int) * (wT b f n A w + (3 * u + 14 * w : Nat)) := Int.mul_nonneg (by omega) (by omega)
    by_cases c : us k = 0
    · rw [if_pos c, if_pos c, Nat.zero_add]
      exact ih
    · rw [if_neg c, if_neg c]
      obtain ⟨r1, r2⟩ := rv_w (gn := gn) (k := (k : Int)) hB hP hf hfn hpl (by rw [show ((k : Int)).toNat = k by omega]; exact hpl k (by omega) c)
      have e : (((1 + cU us m (k + 1) : Nat)) : Int) * (wT b f n A w + (3 * u + 14 * w : Nat)) = (wT b f n A w + (3 * u + 14 * w : Nat)) + (cU us m (k + 1) : Int) * (wT b f n A w + (3 * u + 14 * w : Nat)) := by
        rw [show (((1 + cU us m (k + 1) : Nat)) : Int) = 1 + (cU us m (k + 1) : Int) by omega, Int.add_mul, Int.one_mul]
      rw [e]
      generalize (cU us m (k + 1) : Int) * (wT b f n A w + (3 * u + 14 * w : Nat)) = C at *
      cases hv : s_rv b n f pl gn us sz k with
      | none =>
        show ((k_rv u w b n f pl gn us sz k + 0 : Nat) : Int) ≤ _
        omega
      | some ts =>
        have := r2 ts hv
        show ((k_rv u w b n f pl gn us sz k + k_obs u w b n f pl gn us sz m ((k + 1 : Nat) : Int) : Nat) : Int) ≤ _
        omega
