/-! room: what an open uses -/
theorem kt_0 {u w : Nat} {b : Nat → Int} {n f : Int} {m : Nat} {k nx : Int} {pls : List Int} {x : ost} {sz : Int} (h : nx ∈ pls ∨ nx < 0 ∨ n - f ≤ nx) : k_tabs u w b n f (m + 1) k nx pls x sz = 0 := by
  unfold k_tabs
  rw [if_pos h]
theorem kt_3 {u w : Nat} {b : Nat → Int} {n f : Int} {m : Nat} {k nx : Int} {pls : List Int} {x : ost} {sz : Int} (h : ¬ (nx ∈ pls ∨ nx < 0 ∨ n - f ≤ nx)) (h1 : s_tab b n f k sz nx pls x = none) : k_tabs u w b n f (m + 1) k nx pls x sz = u + 300 * w := by
  unfold k_tabs
  rw [if_neg h, h1]
  rfl
theorem kt_4 {u w : Nat} {b : Nat → Int} {n f : Int} {m : Nat} {k nx : Int} {pls : List Int} {x : ost} {sz : Int} {y : ost × Int} (h : ¬ (nx ∈ pls ∨ nx < 0 ∨ n - f ≤ nx)) (h1 : s_tab b n f k sz nx pls x = some y) (h2 : s_trd b n y.2 y.1.2.2.2.2 = none) : k_tabs u w b n f (m + 1) k nx pls x sz = u + 300 * w + k_val u w b n 8 (s_abyte b n y.2 10) := by
  unfold k_tabs
  rw [if_neg h, h1]
  show k_tr u w b n (some y) + ((s_trd b n y.2 y.1.2.2.2.2).map _).getD 0 = _
  rw [h2]
  rfl
theorem kt_s {u w : Nat} {b : Nat → Int} {n f : Int} {m : Nat} {k nx : Int} {pls : List Int} {x : ost} {sz : Int} {y : ost × Int} {z : List tk × Int × Option Int} (h : ¬ (nx ∈ pls ∨ nx < 0 ∨ n - f ≤ nx)) (h1 : s_tab b n f k sz nx pls x = some y) (h2 : s_trd b n y.2 y.1.2.2.2.2 = some z) : k_tabs u w b n f (m + 1) k nx pls x sz = u + 300 * w + k_val u w b n 8 (s_abyte b n y.2 10) + (match z.2.2 with
    | none => k_obs u w b n f y.1.2.1 y.1.2.2.1 y.1.2.2.2.1 (if k = 0 then z.2.1 else sz) (if k = 0 then z.2.1 else sz).toNat 0
    | some p => k_tabs u w b n f m (k + 1) p (pls ++ [nx]) y.1 (if k = 0 then z.2.1 else sz)) := by
  conv => lhs; unfold k_tabs
  rw [if_neg h, h1]
  show k_tr u w b n (some y) + ((s_trd b n y.2 y.1.2.2.2.2).map _).getD 0 = _
  rw [h2]
  rfl
theorem trv_w {b : Nat → Int} {f n : Int} {u w A h : Nat} (hB : ∀ j, -128 ≤ b j ∧ b j ≤ 127) {g : Nat} (hP : HP u w A h g) (hf : 0 ≤ f) (hfn : f ≤ n) {p : Int} (hp : f ≤ p) : (k_val u w b n 8 (s_abyte b n p 10) : Int) ≤ wT b f n A w + (8 * g : Nat) ∧ (∀ y, s_val b n 8 (s_abyte b n p 10) = some y → (k_val u w b n 8 (s_abyte b n p 10) : Int) ≤ wT b f n A w) := by
  have hm := wS_mono (b := b) (f := f) (N := n) hP.1.2.2 hf hfn
  have hwT : 0 ≤ wT b f n A w := by unfold wT; omega
  rcases s_abyte_in b n p 10 with e | ⟨e, e2⟩
  · rw [e, kval_neg hB (by omega)]
    exact ⟨by omega, fun _ _ => by omega⟩
  · have hb := s_reg_at hB e2 (by omega)
    have hc := wC_nl (b := b) (f := f) (N := n) (e := p) (by omega) hb.1
    rw [e]
    have h1 := (val_w (f := f) hB hP 8).2 (p + 1) (by omega) (by omega) hc
    have h2 := wS_mono (b := b) (f := f) (N := n) hP.1.2.2 (i := f) (j := p + 1) hf (by omega)
    refine ⟨by unfold wT; omega, fun y hy => ?_⟩
    have hl := s_val_len hB (ts := y.1) (j := y.2) hy
    have hw := wV_2 ((val_w (f := f) hB hP 8).1 _ y.1 y.2 (by omega) hc hy)
    have h3 := wS_mono (b := b) (f := f) (N := n) hP.1.2.2 (i := y.2) (j := n) (by omega) (by omega)
    unfold wT
    omega
theorem tabs_w {b : Nat → Int} {f n : Int} {u w A h : Nat} (hB : ∀ j, -128 ≤ b j ∧ b j ≤ 127) {g : Nat} (hP : HP u w A h g) (hf : 0 ≤ f) (hfn : f ≤ n) : ∀ (m : Nat) (k nx sz : Int) (pls : List Int) (x : ost), TI b f n pls x → sz ≤ 300 → ∃ c : Nat, wT b f n A w + ((A - w : Nat) : Int) * (20 * (c : Int)) ≤ A * (n - f) ∧ (k_tabs u w b n f m k nx pls x sz : Int) ≤ (m : Int) * (wT b f n A w + (u + 300 * w : Nat)) + (8 * g : Nat) + ((c : Int) * (wT b f n A w + (3 * u + 14 * w : Nat)) + wT b f n A w + (8 * g : Nat))
  | 0, k, nx, sz, pls, x, hT, hz => by
    have hm := wS_mono (b := b) (f := f) (N := n) hP.1.2.2 hf hfn
    have hwT : 0 ≤ wT b f n A w := by unfold wT; omega
    refine ⟨0, TI_w hP.1.2.2 hf hfn hT (m := 0) (by omega), ?_⟩
    show (0 : Int) ≤ (0 : Int) * _ + (8 * g : Nat) + ((0 : Int) * _ + wT b f n A w + (8 * g : Nat))
    rw [Int.zero_mul, Int.zero_mul]
    omega
  | m + 1, k, nx, sz, pls, x, hT, hz => by
    have hm := wS_mono (b := b) (f := f) (N := n) hP.1.2.2 hf hfn
    have hwT : 0 ≤ wT b f n A w := by unfold wT; omega
    have hX : 0 ≤ (m : Int) * (wT b f n A w + (u + 300 * w : Nat)) := Int.mul_nonneg (by omega) (by omega)
    have e0 : ((m + 1 : Nat) : Int) * (wT b f n A w + (u + 300 * w : Nat)) = (m : Int) * (wT b f n A w + (u + 300 * w : Nat)) + (wT b f n A w + (u + 300 * w : Nat)) := by
      rw [show ((m + 1 : Nat) : Int) = (m : Int) + 1 by omega, Int.add_mul, Int.one_mul]
    rw [e0]
    have hz0 : ∀ Y : Int, ((0 : Nat) : Int) * Y = 0 := fun Y => Int.zero_mul Y
    by_cases c : nx ∈ pls ∨ nx < 0 ∨ n - f ≤ nx
    · refine ⟨0, TI_w hP.1.2.2 hf hfn hT (m := 0) (by omega), ?_⟩
      rw [kt_0 c, hz0]
      omega
    · cases h1 : s_tab b n f k sz nx pls x with
      | none =>
        refine ⟨0, TI_w hP.1.2.2 hf hfn hT (m := 0) (by omega), ?_⟩
        rw [kt_3 c h1, hz0]
        omega
      | some y =>
        obtain ⟨t1, t2⟩ := TI_tab hB hf hfn hT h1
        obtain ⟨v1, v2⟩ := trv_w hB hP hf hfn t2
        cases h2 : s_trd b n y.2 y.1.2.2.2.2 with
        | none =>
          refine ⟨0, TI_w hP.1.2.2 hf hfn hT (m := 0) (by omega), ?_⟩
          rw [kt_4 c h1 h2, hz0]
          omega
        | some z =>
          have h3 := s_trd_in hB h2
          have hv : (k_val u w b n 8 (s_abyte b n y.2 10) : Int) ≤ wT b f n A w := by
            unfold s_trd at h2
            obtain ⟨v, hv, _⟩ := Option.bind_eq_some_iff.mp h2
            exact v2 v hv
          rw [kt_s c h1 h2]
          have hsz : (if k = 0 then z.2.1 else sz) ≤ 300 := by split <;> omega
          cases h4 : z.2.2 with
          | none =>
            by_cases hz2 : 0 ≤ (if k = 0 then z.2.1 else sz)
            · have ho := obs_w (pl := y.1.2.1) (gn := y.1.2.2.1) (us := y.1.2.2.2.1) (sz := (if k = 0 then z.2.1 else sz)) hB hP hf hfn (fun j j1 j2 => by
                obtain ⟨pos, p1, _⟩ := t1
                exact (p1 j (by omega) j2).1) (if k = 0 then z.2.1 else sz).toNat 0 (by omega)
              refine ⟨cU y.1.2.2.2.1 (if k = 0 then z.2.1 else sz).toNat 0, TI_w hP.1.2.2 hf hfn t1 (by omega), ?_⟩
              show ((u + 300 * w + k_val u w b n 8 (s_abyte b n y.2 10) + k_obs u w b n f y.1.2.1 y.1.2.2.1 y.1.2.2.2.1 (if k = 0 then z.2.1 else sz) (if k = 0 then z.2.1 else sz).toNat ((0 : Nat) : Int) : Nat) : Int) ≤ _
              generalize ((cU y.1.2.2.2.1 (if k = 0 then z.2.1 else sz).toNat 0 : Nat) : Int) * (wT b f n A w + (3 * u + 14 * w : Nat)) = C at ho ⊢
              omega
            · refine ⟨0, TI_w hP.1.2.2 hf hfn hT (m := 0) (by omega), ?_⟩
              rw [show (if k = 0 then z.2.1 else sz).toNat = 0 by omega, hz0]
              show ((u + 300 * w + k_val u w b n 8 (s_abyte b n y.2 10) + 0 : Nat) : Int) ≤ _
              omega
          | some p =>
            obtain ⟨c9, i1, i2⟩ := tabs_w hB hP hf hfn m (k + 1) p (if k = 0 then z.2.1 else sz) (pls ++ [nx]) y.1 t1 hsz
            refine ⟨c9, i1, ?_⟩
            show ((u + 300 * w + k_val u w b n 8 (s_abyte b n y.2 10) + k_tabs u w b n f m (k + 1) p (pls ++ [nx]) y.1 (if k = 0 then z.2.1 else sz) : Nat) : Int) ≤ _
            generalize (c9 : Int) * (wT b f n A w + (3 * u + 14 * w : Nat)) = C at i2 ⊢
            omega
