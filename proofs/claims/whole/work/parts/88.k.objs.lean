/-! the reference: all objects, pure -/
theorem gok_le {g g2 : Nat → Option xE} {dy : xH} (h : gle g g2) (h2 : gok g2 dy) : gok g dy := fun c e z => h2 c e (h c e z)
/-- what the reference reads, and what the class does -/
theorem rv_ob (b : Nat → Int) (n f : Int) (pl gn us : Nat → Int) (sz k : Int) : (s_ob1 b n f (pl k.toNat) (gn k.toNat) k = none ∧ s_rv b n f pl gn us sz k = none) ∨ ∃ y, s_ob1 b n f (pl k.toNat) (gn k.toNat) k = some y ∧ (∃ e, s_val b n 8 (s_hd b n f (pl k.toNat) (gn k.toNat) k) = some (y.1, e)) ∧ ((y.2 < 0 ∧ s_rv b n f pl gn us sz k = some y.1) ∨ (0 ≤ y.2 ∧ s_sok b n (s_rl b n f pl gn us sz y.1) y.2 ∧ s_rv b n f pl gn us sz k = some (s_st9 (s_abyte b n y.2 10) (s_rl b n f pl gn us sz y.1) y.1)) ∨ (0 ≤ y.2 ∧ ¬ s_sok b n (s_rl b n f pl gn us sz y.1) y.2 ∧ s_rv b n f pl gn us sz k = none)) := by
  unfold s_ob1 s_rv
  cases hv : s_val b n 8 (s_hd b n f (pl k.toNat) (gn k.toNat) k) with
  | none => exact Or.inl ⟨rfl, rfl⟩
  | some y =>
    obtain ⟨ts, e⟩ := y
    rw [Option.bind_some, Option.bind_some]
    dsimp only
    obtain ⟨st, hst⟩ : ∃ z, z = s_the b n (s_sc s_white b n e) [115, 116, 114, 101, 97, 109] := ⟨_, rfl⟩
    obtain ⟨en, hen⟩ : ∃ z, z = s_the b n (s_sc s_white b n e) [101, 110, 100, 111, 98, 106] := ⟨_, rfl⟩
    rw [← hst, ← hen]
    by_cases c7 : lkd ts 0 = 7
    · rw [if_pos c7]
      by_cases c0 : 0 ≤ st
      · rw [if_neg (by omega), if_pos ⟨c7, c0⟩]
        refine Or.inr ⟨_, rfl, ⟨e, rfl⟩, Or.inr ?_⟩
        dsimp only
        obtain ⟨L, hL⟩ : ∃ z, z = s_rl b n f pl gn us sz ts := ⟨_, rfl⟩
        rw [← hL]
        have hes : s_es b n L st = if 0 ≤ s_abyte b n st 10 ∧ 0 ≤ L ∧ L ≤ n - s_abyte b n st 10 then s_the b n (s_abyte b n (s_abyte b n st 10 + L) 10) [101, 110, 100, 115, 116, 114, 101, 97, 109] else -1 := rfl
        by_cases cs : s_sok b n L st
        · refine Or.inl ⟨c0, cs, ?_⟩
          obtain ⟨h1, h2, h3, h4⟩ := cs
          rw [if_pos ⟨h1, h2, h3⟩] at hes
          rw [if_neg]
          rw [hes]
          have h5 := s_the_in b n (s_abyte b n (s_abyte b n st 10 + L) 10) [101, 110, 100, 115, 116, 114, 101, 97, 109]
          rcases Int.lt_or_le (s_the b n (s_abyte b n (s_abyte b n st 10 + L) 10) [101, 110, 100, 115, 116, 114, 101, 97, 109]) 0 with z | z
          · rw [s_sc_stop (Or.inl z)] at h4
            have h6 := s_the_in b n (s_the b n (s_abyte b n (s_abyte b n st 10 + L) 10) [101, 110, 100, 115, 116, 114, 101, 97, 109]) [101, 110, 100, 111, 98, 106]
            omega
          · omega
        · refine Or.inr ⟨c0, cs, ?_⟩
          rw [if_pos]
          by_cases cc : 0 ≤ s_abyte b n st 10 ∧ 0 ≤ L ∧ L ≤ n - s_abyte b n st 10
          · rw [if_pos cc] at hes
            rw [hes]
            right
            rcases Int.lt_or_le (s_the b n (s_sc s_white b n (s_the b n (s_abyte b n (s_abyte b n st 10 + L) 10) [101, 110, 100, 115, 116, 114, 101, 97, 109])) [101, 110, 100, 111, 98, 106]) 0 with z | z
            · exact z
            · exact absurd ⟨cc.1, cc.2.1, cc.2.2, z⟩ cs
          · rw [if_neg cc] at hes
            left
            omega
      · rw [if_neg (show ¬ (lkd ts 0 = 7 ∧ 0 ≤ st) from fun z => c0 z.2)]
        by_cases c1 : en < 0
        · rw [if_pos (by omega), if_pos c1]
          exact Or.inl ⟨rfl, rfl⟩
        · rw [if_neg (by omega), if_neg c1]
          exact Or.inr ⟨_, rfl, ⟨e, rfl⟩, Or.inl ⟨by show st < 0; omega, rfl⟩⟩
    · rw [if_neg c7, if_neg (show ¬ (lkd ts 0 = 7 ∧ 0 ≤ st) from fun z => c7 z.1)]
      by_cases c1 : en < 0
      · rw [if_pos (by omega), if_pos c1]
        exact Or.inl ⟨rfl, rfl⟩
      · rw [if_neg (by omega), if_neg c1]
        exact Or.inr ⟨_, rfl, ⟨e, rfl⟩, Or.inl ⟨by show (-1 : Int) < 0; omega, rfl⟩⟩
/-- all objects, as the reference reads them -/
def s_rvs (b : Nat → Int) (n f : Int) (pl gn us : Nat → Int) (sz : Int) : Prop := ∀ k : Nat, (k : Int) < sz → ¬ us k = 0 → ∃ ts, s_rv b n f pl gn us sz k = some ts
def s_lrr (b : Nat → Int) (n f : Int) (pl gn us : Nat → Int) (sz : Int) : Nat → Int := fun k => if us k = 0 then 0 else (((s_rv b n f pl gn us sz k).map List.length).getD 0 : Nat)
theorem rl_len {b : Nat → Int} {n f : Int} {pl gn us : Nat → Int} {sz : Int} {ob : Int → Option (List tk × Int)} (hob : ob = (fun k : Int => s_ob1 b n f (pl k.toNat) (gn k.toNat) k)) (hall : ∀ k : Nat, (k : Int) < sz → ¬ us k = 0 → ∃ y, ob k = some y) (ts : List tk) : s_rl b n f pl gn us sz ts = s_len b n ob gn us sz ts := by
  unfold s_rl s_len
  split
  · rfl
  · obtain ⟨ld, hld⟩ : ∃ z, z = s_ldt (lkd ts) (lon ts) (ltw ts) gn us sz (s_lnj b n ts) := ⟨_, rfl⟩
    have hi := s_ldt_in (lkd ts) (lon ts) (ltw ts) gn us sz (s_lnj b n ts)
    rw [← hld] at hi ⊢
    by_cases c : ld < 0
    · rw [if_pos c, if_pos c]
    · rw [if_neg c, if_neg c]
      rcases hi with hi | ⟨h1, h2, h3⟩
      · omega
      · obtain ⟨y, hy⟩ := hall ld.toNat (by omega) h3
        rw [show ((ld.toNat : Nat) : Int) = ld by omega] at hy
        have hy2 := hy
        rw [hob] at hy2
        have hy2 : s_ob1 b n f (pl ld.toNat) (gn ld.toNat) ld = some y := hy2
        rcases rv_ob b n f pl gn us sz ld with ⟨z, -⟩ | ⟨y3, z1, ⟨e, z2⟩, -⟩
        · rw [z] at hy2; cases hy2
        · rw [hy2] at z1
          have z1 := Option.some.inj z1
          rw [← z1] at z2
          rw [z2]
          unfold s_tks
          rw [hy]
          rfl
theorem rv_all {b : Nat → Int} {n f : Int} {pl gn us : Nat → Int} {sz : Int} {ob : Int → Option (List tk × Int)} (hob : ob = (fun k : Int => s_ob1 b n f (pl k.toNat) (gn k.toNat) k)) : s_rvs b n f pl gn us sz ↔ ((∀ k : Nat, (k : Int) < sz → ¬ us k = 0 → ∃ y, ob k = some y) ∧ ∀ k : Nat, (k : Int) < sz → ¬ us k = 0 → 0 ≤ s_stm ob k → s_sok b n (s_len b n ob gn us sz (s_tks ob k)) (s_stm ob k)) := by
  have hobk : ∀ k : Nat, ob k = s_ob1 b n f (pl k) (gn k) k := fun k => by rw [hob]; rfl
  constructor
  · intro h
    have h1 : ∀ k : Nat, (k : Int) < sz → ¬ us k = 0 → ∃ y, ob k = some y := fun k hk hu => by
      obtain ⟨ts, ht⟩ := h k hk hu
      rcases rv_ob b n f pl gn us sz k with ⟨-, z⟩ | ⟨y, z1, -⟩
      · rw [z] at ht; cases ht
      · exact ⟨y, by rw [hobk]; exact z1⟩
    refine ⟨h1, fun k hk hu hs => ?_⟩
    obtain ⟨ts, ht⟩ := h k hk hu
    rcases rv_ob b n f pl gn us sz k with ⟨-, z⟩ | ⟨y, z1, -, z2⟩
    · rw [z] at ht; cases ht
    · have z1 : ob k = some y := by rw [hobk]; exact z1
      have e1 : s_stm ob k = y.2 := by unfold s_stm; rw [z1]; rfl
      have e2 : s_tks ob k = y.1 := by unfold s_tks; rw [z1]; rfl
      rw [e1] at hs ⊢
      rw [e2, ← rl_len hob h1]
      rcases z2 with ⟨z3, -⟩ | ⟨-, z3, -⟩ | ⟨-, -, z3⟩
      · omega
      · exact z3
      · rw [z3] at ht; cases ht
  · rintro ⟨h1, h2⟩ k hk hu
    obtain ⟨y, hy⟩ := h1 k hk hu
    rcases rv_ob b n f pl gn us sz k with ⟨z, -⟩ | ⟨y2, z1, -, z2⟩
    · rw [hobk] at hy
      have z : s_ob1 b n f (pl k) (gn k) k = none := z
      rw [z] at hy; cases hy
    · have z1 : ob k = some y2 := by rw [hobk]; exact z1
      have e1 : s_stm ob k = y2.2 := by unfold s_stm; rw [z1]; rfl
      have e2 : s_tks ob k = y2.1 := by unfold s_tks; rw [z1]; rfl
      rcases z2 with ⟨-, z3⟩ | ⟨-, -, z3⟩ | ⟨z4, z5, -⟩
      · exact ⟨_, z3⟩
      · exact ⟨_, z3⟩
      · have := h2 k hk hu (by rw [e1]; exact z4)
        rw [e1, e2, ← rl_len hob h1] at this
        exact absurd this z5
theorem rv_fin {b : Nat → Int} {n f : Int} {pl gn us : Nat → Int} {sz : Int} {ob : Int → Option (List tk × Int)} (hob : ob = (fun k : Int => s_ob1 b n f (pl k.toNat) (gn k.toNat) k)) (h : s_rvs b n f pl gn us sz) {k : Nat} (hk : (k : Int) < sz) (hu : ¬ us k = 0) : s_rv b n f pl gn us sz k = some (s_fin b n ob gn us sz k) := by
  have hobk : ∀ k : Nat, ob k = s_ob1 b n f (pl k) (gn k) k := fun k => by rw [hob]; rfl
  obtain ⟨ts, ht⟩ := h k hk hu
  have h1 := ((rv_all hob).mp h).1
  rcases rv_ob b n f pl gn us sz k with ⟨-, z⟩ | ⟨y, z1, -, z2⟩
  · rw [z] at ht; cases ht
  · have z1 : ob k = some y := by rw [hobk]; exact z1
    have e1 : s_stm ob k = y.2 := by unfold s_stm; rw [z1]; rfl
    have e2 : s_tks ob k = y.1 := by unfold s_tks; rw [z1]; rfl
    unfold s_fin
    rw [e1, e2, ← rl_len hob h1]
    rcases z2 with ⟨z3, z4⟩ | ⟨z3, -, z4⟩ | ⟨-, -, z4⟩
    · rw [if_neg (by omega)]; exact z4
    · rw [if_pos z3]; exact z4
    · rw [z4] at ht; cases ht
theorem rv_5 {b : Nat → Int} (hB : ∀ j, -128 ≤ b j ∧ b j ≤ 127) {n f : Int} {pl gn us : Nat → Int} {sz : Int} {ob : Int → Option (List tk × Int)} (hob : ob = (fun k : Int => s_ob1 b n f (pl k.toNat) (gn k.toNat) k)) : (s_rvs b n f pl gn us sz ∧ s_sm (s_lrr b n f pl gn us sz) sz.toNat ≤ 900) ↔ s_obj5 b n ob gn us sz := by
  have hsm : s_rvs b n f pl gn us sz → s_sm (s_lrr b n f pl gn us sz) sz.toNat = s_sm (s_ln ob us) sz.toNat := fun h => by
    refine s_sm_cong _ (fun k hk => ?_)
    unfold s_lrr s_ln
    split
    · rfl
    · next hu =>
      rw [rv_fin hob h (by omega) hu]
      have h1 := ((rv_all hob).mp h).1 k (by omega) hu
      obtain ⟨y, hy⟩ := h1
      have hl : 1 ≤ (s_tks ob k).length := by
        have : s_tks ob k = y.1 := by unfold s_tks; rw [hy]; rfl
        rw [this]
        rw [hob] at hy
        exact (s_ob1_in hB hy).1
      show (((s_fin b n ob gn us sz k).length : Nat) : Int) = _
      rw [s_fin_len hl]
  constructor
  · rintro ⟨h1, h2⟩
    have h3 := (rv_all hob).mp h1
    exact ⟨h3.1, by rw [← hsm h1]; exact h2, h3.2⟩
  · rintro ⟨h1, h2, h3⟩
    have h4 := (rv_all hob).mpr ⟨h1, h3⟩
    exact ⟨h4, by rw [hsm h4]; exact h2⟩
/-- how many parts -/
theorem rv_len {b : Nat → Int} (hB : ∀ j, -128 ≤ b j ∧ b j ≤ 127) {n f : Int} {pl gn us : Nat → Int} {sz k : Int} {ts : List tk} (h : s_rv b n f pl gn us sz k = some ts) : s_bh (lsp ts) 0 = ts.length ∧ 1 ≤ ts.length ∧ (ts.length : Int) ≤ n := by
  rcases rv_ob b n f pl gn us sz k with ⟨-, z⟩ | ⟨y, -, ⟨e, z1⟩, z2⟩
  · rw [z] at h; cases h
  · have h0 := s_bh_0 hB z1
    have h1 := s_val_ok b hB n 8 _ y.1 e z1
    rcases z2 with ⟨-, z4⟩ | ⟨-, -, z4⟩ | ⟨-, -, z4⟩
    · rw [z4] at h
      have h := Option.some.inj h
      rw [← h]
      exact ⟨h0.1, h0.2, by omega⟩
    · rw [z4] at h
      have h := Option.some.inj h
      rw [← h, s_st9_bh, s_st9_len _ _ h0.2]
      exact ⟨h0.1, h0.2, by omega⟩
    · rw [z4] at h; cases h
