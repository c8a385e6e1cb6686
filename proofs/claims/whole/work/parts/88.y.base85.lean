/-! the reference: base 85 -/
theorem s_gb_len (v : Int) : ∀ (m i : Nat), (s_gb v m i).length = m
  | 0, _ => rfl
  | m + 1, i => by show (s_gb v m (i + 1)).length + 1 = m + 1; rw [s_gb_len v m]
theorem w_M_base85_63 (Z : xZ) (d : Nat) (q : Nat → Int) (r : Nat → Option Nat) (A : Nat → Nat → Int) (dy : xH) (hd : 1 ≤ d) (n t e : Int) (acc : List Int) (Q : Option xV → xH → Prop) (k0 : 3000 < acc.length + 4 → ∀ mn f, (0 ≤ mn ∧ mn ≤ 3000) → Q (some (xI 0)) (hF (x_up q 1357 mn) r (x_up A 47 f) ++ dy)) (kk : ∀ mn f, aok mn f (acc ++ [0, 0, 0, 0]) → xW Z d Y_M_base85 85 [(0, xC 42), (1, xI n), (2, xI t), (3, xI e)] [] (hF (x_up q 1357 mn) r (x_up A 47 f) ++ dy) Q) : ∀ (m : Nat) (i mn : Int) (f : Nat → Int), (0 ≤ i ∧ i + m = 4) → aok mn f (acc ++ List.replicate i.toNat 0) → xW Z d Y_M_base85 63 [(0, xC 42), (1, xI n), (2, xI t), (3, xI e), (4, xI i)] [] (hF (x_up q 1357 mn) r (x_up A 47 f) ++ dy) Q := by
  intro m
  induction m with
  | zero =>
    intro i mn f hi ha
    refine x_iload (x_d C_M_base85 41 rfl) rfl ?_
    refine x_iconst (x_d C_M_base85 42 rfl) ⟨by omega, by omega⟩ ?_
    refine x_icmp_ge (tgt := 85) (x_d C_M_base85 43 rfl) rfl (fun _ => ?_) (fun q => absurd q (by omega))
    refine x_locs [0, 1, 2, 3] rfl ?_
    exact kk mn f (by rw [show i.toNat = 4 by omega] at ha; exact ha)
  | succ m ih =>
    intro i mn f hi ha
    have ha1 := ha.1
    have ha2 := ha.2.1
    refine x_iload (x_d C_M_base85 41 rfl) rfl ?_
    refine x_iconst (x_d C_M_base85 42 rfl) ⟨by omega, by omega⟩ ?_
    refine x_icmp_ge (tgt := 85) (x_d C_M_base85 43 rfl) rfl (fun q => absurd q (by omega)) (fun _ => ?_)
    refine x_aload_n (x_d C_M_base85 44 rfl) rfl ?_
    refine x_iconst (x_d C_M_base85 45 rfl) ⟨by omega, by omega⟩ ?_
    refine x_invokevirtual (st := []) (av := [xI (0)]) (x_d C_M_base85 46 rfl) k_M_359 m_M_one v_M_one cl_M rfl rfl (Nat.le_of_ble_eq_true rfl) (by omega) rfl (c_M_one Z (d - 1) q r A dy mn f (acc ++ List.replicate i.toNat 0) ha 0) ?_
    rintro v_ h_ hr2
    obtain ⟨z2, mn2, f2, rfl, rfl, hq2⟩ : ∃ (z mn9 : Int) (f9 : Nat → Int), v_ = some (xI z) ∧ h_ = hF (x_up q 1357 mn9) r (x_up A 47 f9) ++ dy ∧ ((z = 0 ∧ 3000 ≤ ((acc ++ List.replicate i.toNat 0)).length ∧ (0 ≤ mn9 ∧ mn9 ≤ 3000)) ∨ (z = 1 ∧ aok mn9 f9 ((acc ++ List.replicate i.toNat 0) ++ [x_by (0)]))) := by
      rcases hr2 with ⟨e1, e2, e3⟩ | ⟨e1, e2, mn2, f2, e3, e4⟩
      · exact ⟨0, _, _, e2, e3, Or.inl ⟨rfl, e1, by have := (ha).1; have := (ha).2.1; omega⟩⟩
      · exact ⟨1, mn2, f2, e2, e3, Or.inr ⟨rfl, e4⟩⟩
    refine x_if_ne (tgt := 79) (x_d C_M_base85 47 rfl) rfl (fun c3 => ?_) (fun c3 => ?_)
    · refine x_iinc (l1 := [(4, xI (i + 1)), (0, xC 42), (1, xI (n)), (2, xI (t)), (3, xI (e))]) (x_d C_M_base85 50 rfl) rfl ⟨by omega, by omega⟩ (by decide) rfl ?_
      refine x_goto (tgt := 63) (x_d C_M_base85 51 rfl) rfl ?_
      refine x_locs [1, 2, 3, 4, 0] rfl ?_
      have h9 : aok mn2 f2 ((acc ++ List.replicate i.toNat 0) ++ [x_by (0)]) := by rcases hq2 with z | z; omega; exact z.2
      rw [show x_by 0 = 0 from rfl, List.append_assoc, ← List.replicate_succ', show i.toNat + 1 = (i + 1).toNat by omega] at h9
      exact ih (i + 1) _ _ (by omega) h9
    · refine x_iconst (x_d C_M_base85 48 rfl) ⟨by omega, by omega⟩ ?_
      refine x_ireturn (x_d C_M_base85 49 rfl) ?_
      have h9 : 3000 ≤ ((acc ++ List.replicate i.toNat 0)).length := by rcases hq2 with z | z; exact z.2.1; omega
      have h8 : 0 ≤ mn2 ∧ mn2 ≤ 3000 := by rcases hq2 with z | z; exact z.2.2; omega
      rw [List.length_append, List.length_replicate] at h9
      exact k0 (by omega) _ _ h8
theorem w_M_base85_114 (Z : xZ) (d : Nat) (q : Nat → Int) (r : Nat → Option Nat) (A : Nat → Nat → Int) (dy : xH) (hB : ∀ j, -128 ≤ A 46 j ∧ A 46 j ≤ 127) (n t e sz : Int) (ht : 0 ≤ t ∧ t + sz ≤ 7000) (hz : 2 ≤ sz ∧ sz ≤ 5) (mn : Int) (f : Nat → Int) (Q : Option xV → xH → Prop) (k0 : s_ok5d (A 46) t.toNat sz.toNat 5 = false → Q (some (xI 0)) (hF (x_up q 1357 mn) r (x_up A 47 f) ++ dy)) (kk : s_ok5d (A 46) t.toNat sz.toNat 5 = true → xW Z d Y_M_base85 181 [(0, xC 42), (1, xI n), (2, xI t), (3, xI e), (4, xI sz), (5, xJ (s_v5 (A 46) t.toNat sz.toNat 5))] [] (hF (x_up q 1357 mn) r (x_up A 47 f) ++ dy) Q) : ∀ (m : Nat) (i : Int), (0 ≤ i ∧ i + m = 5) → s_ok5d (A 46) t.toNat sz.toNat i.toNat = true → xW Z d Y_M_base85 114 [(0, xC 42), (1, xI n), (2, xI t), (3, xI e), (4, xI sz), (5, xJ (s_v5 (A 46) t.toNat sz.toNat i.toNat)), (7, xI i)] [] (hF (x_up q 1357 mn) r (x_up A 47 f) ++ dy) Q := by
  intro m
  induction m with
  | zero =>
    intro i hi ho
    refine x_iload (x_d C_M_base85 69 rfl) rfl ?_
    refine x_iconst (x_d C_M_base85 70 rfl) ⟨by omega, by omega⟩ ?_
    refine x_icmp_ge (tgt := 181) (x_d C_M_base85 71 rfl) rfl (fun _ => ?_) (fun q => absurd q (by omega))
    refine x_locs [0, 1, 2, 3, 4, 5] rfl ?_
    rw [show i.toNat = 5 by omega] at ho ⊢
    exact kk ho
  | succ m ih =>
    intro i hi ho
    have hv := s_v5_in ho
    have hp : (85 : Int) ^ i.toNat ≤ 85 ^ 4 := s_p85 (by omega)
    have hp4 : (85 : Int) ^ 4 = 52200625 := by decide
    have hbi := hB (t + i).toNat
    have hdd : s_d5 (A 46) t.toNat sz.toNat i.toNat = if i < sz then A 46 (t + i).toNat - 33 else 84 := by
      unfold s_d5
      by_cases c : i < sz
      · rw [if_pos c, if_pos (by omega), show t.toNat + i.toNat = (t + i).toNat by omega]
      · rw [if_neg c, if_neg (by omega)]
    have hvs : s_v5 (A 46) t.toNat sz.toNat (i + 1).toNat = 85 * s_v5 (A 46) t.toNat sz.toNat i.toNat + s_d5 (A 46) t.toNat sz.toNat i.toNat := by rw [show (i + 1).toNat = i.toNat + 1 by omega]; rfl
    have hos : s_ok5d (A 46) t.toNat sz.toNat (i + 1).toNat = (s_ok5d (A 46) t.toNat sz.toNat i.toNat && decide (0 ≤ s_d5 (A 46) t.toNat sz.toNat i.toNat ∧ s_d5 (A 46) t.toNat sz.toNat i.toNat ≤ 84)) := by rw [show (i + 1).toNat = i.toNat + 1 by omega]; rfl
    refine x_iload (x_d C_M_base85 69 rfl) rfl ?_
    refine x_iconst (x_d C_M_base85 70 rfl) ⟨by omega, by omega⟩ ?_
    refine x_icmp_ge (tgt := 181) (x_d C_M_base85 71 rfl) rfl (fun q => absurd q (by omega)) (fun _ => ?_)
    refine x_iload (x_d C_M_base85 72 rfl) rfl ?_
    refine x_iload (x_d C_M_base85 73 rfl) rfl ?_
    refine x_icmp_ge (tgt := 139) (x_d C_M_base85 74 rfl) rfl (fun c2 => ?_) (fun c2 => ?_)
    · refine x_bipush (x_d C_M_base85 82 rfl) (by omega) ?_
      refine x_istore (l1 := [(8, xI (117)), (0, xC 42), (1, xI (n)), (2, xI (t)), (3, xI (e)), (4, xI (sz)), (5, xJ (s_v5 (A 46) t.toNat sz.toNat i.toNat)), (7, xI (i))]) (x_d C_M_base85 83 rfl) (by decide) rfl ?_
      refine x_iload (x_d C_M_base85 84 rfl) rfl ?_
      refine x_bipush (x_d C_M_base85 85 rfl) (by omega) ?_
      refine x_icmp_lt (tgt := 157) (x_d C_M_base85 86 rfl) rfl (fun q => absurd q (by omega)) (fun _ => ?_)
      refine x_iload (x_d C_M_base85 87 rfl) rfl ?_
      refine x_bipush (x_d C_M_base85 88 rfl) (by omega) ?_
      refine x_icmp_le (tgt := 159) (x_d C_M_base85 89 rfl) rfl (fun _ => ?_) (fun q => absurd q (by omega))
      refine x_ldc2 (n := 85) (x_d C_M_base85 92 rfl) lc_M_365 ⟨by omega, by omega⟩ ?_
      refine x_lload (x_d C_M_base85 93 rfl) rfl ?_
      refine x_lmul (x_d C_M_base85 94 rfl) ⟨by omega, by omega⟩ ?_
      refine x_iload (x_d C_M_base85 95 rfl) rfl ?_
      refine x_i2l (x_d C_M_base85 96 rfl) ?_
      refine x_ladd (x_d C_M_base85 97 rfl) ⟨by omega, by omega⟩ ?_
      refine x_ldc2 (n := 33) (x_d C_M_base85 98 rfl) lc_M_367 ⟨by omega, by omega⟩ ?_
      refine x_lsub (x_d C_M_base85 99 rfl) ⟨by omega, by omega⟩ ?_
      refine x_lstore (l1 := [(5, xJ (((85 * (s_v5 (A 46) t.toNat sz.toNat i.toNat)) + 117) - 33)), (8, xI (117)), (0, xC 42), (1, xI (n)), (2, xI (t)), (3, xI (e)), (4, xI (sz)), (7, xI (i))]) (x_d C_M_base85 100 rfl) (by decide) rfl ?_
      refine x_iinc (l1 := [(7, xI (i + 1)), (5, xJ (((85 * (s_v5 (A 46) t.toNat sz.toNat i.toNat)) + 117) - 33)), (8, xI (117)), (0, xC 42), (1, xI (n)), (2, xI (t)), (3, xI (e)), (4, xI (sz))]) (x_d C_M_base85 101 rfl) rfl ⟨by omega, by omega⟩ (by decide) rfl ?_
      refine x_goto (tgt := 114) (x_d C_M_base85 102 rfl) rfl ?_
      refine x_locs [3, 4, 5, 6, 7, 1, 0] rfl ?_
      have hd0 : s_d5 (A 46) t.toNat sz.toNat i.toNat = 117 - 33 := by rw [hdd]; split <;> omega
      rw [show ((85 * (s_v5 (A 46) t.toNat sz.toNat i.toNat)) + 117) - 33 = s_v5 (A 46) t.toNat sz.toNat (i + 1).toNat by rw [hvs, hd0]; omega]
      exact ih (i + 1) (by omega) (by rw [hos, ho, Bool.true_and]; exact decide_eq_true (by omega))
    · refine x_aload_n (x_d C_M_base85 75 rfl) rfl ?_
      refine x_getfield (v := xC 46) (x_d C_M_base85 76 rfl) f_M_173 rfl rfl ?_
      refine x_iload_n (x_d C_M_base85 77 rfl) rfl ?_
      refine x_iload (x_d C_M_base85 78 rfl) rfl ?_
      refine x_iadd (x_d C_M_base85 79 rfl) ⟨by omega, by omega⟩ ?_
      refine x_baload (f := A 46) (x_d C_M_base85 80 rfl) rfl (by omega) (by omega) ?_
      refine x_goto (tgt := 141) (x_d C_M_base85 81 rfl) rfl ?_
      refine x_istore (l1 := [(8, xI (A 46 (t + i).toNat)), (0, xC 42), (1, xI (n)), (2, xI (t)), (3, xI (e)), (4, xI (sz)), (5, xJ (s_v5 (A 46) t.toNat sz.toNat i.toNat)), (7, xI (i))]) (x_d C_M_base85 83 rfl) (by decide) rfl ?_
      refine x_iload (x_d C_M_base85 84 rfl) rfl ?_
      refine x_bipush (x_d C_M_base85 85 rfl) (by omega) ?_
      refine x_icmp_lt (tgt := 157) (x_d C_M_base85 86 rfl) rfl (fun c5 => ?_) (fun c5 => ?_)
      · refine x_iconst (x_d C_M_base85 90 rfl) ⟨by omega, by omega⟩ ?_
        refine x_ireturn (x_d C_M_base85 91 rfl) ?_
        refine k0 (s_ok5_bad (k := i.toNat) (by omega) ?_)
        rw [hdd]
        split <;> omega
      · refine x_iload (x_d C_M_base85 87 rfl) rfl ?_
        refine x_bipush (x_d C_M_base85 88 rfl) (by omega) ?_
        refine x_icmp_le (tgt := 159) (x_d C_M_base85 89 rfl) rfl (fun c6 => ?_) (fun c6 => ?_)
        · refine x_ldc2 (n := 85) (x_d C_M_base85 92 rfl) lc_M_365 ⟨by omega, by omega⟩ ?_
          refine x_lload (x_d C_M_base85 93 rfl) rfl ?_
          refine x_lmul (x_d C_M_base85 94 rfl) ⟨by omega, by omega⟩ ?_
          refine x_iload (x_d C_M_base85 95 rfl) rfl ?_
          refine x_i2l (x_d C_M_base85 96 rfl) ?_
          refine x_ladd (x_d C_M_base85 97 rfl) ⟨by omega, by omega⟩ ?_
          refine x_ldc2 (n := 33) (x_d C_M_base85 98 rfl) lc_M_367 ⟨by omega, by omega⟩ ?_
          refine x_lsub (x_d C_M_base85 99 rfl) ⟨by omega, by omega⟩ ?_
          refine x_lstore (l1 := [(5, xJ (((85 * (s_v5 (A 46) t.toNat sz.toNat i.toNat)) + (A 46 (t + i).toNat)) - 33)), (8, xI (A 46 (t + i).toNat)), (0, xC 42), (1, xI (n)), (2, xI (t)), (3, xI (e)), (4, xI (sz)), (7, xI (i))]) (x_d C_M_base85 100 rfl) (by decide) rfl ?_
          refine x_iinc (l1 := [(7, xI (i + 1)), (5, xJ (((85 * (s_v5 (A 46) t.toNat sz.toNat i.toNat)) + (A 46 (t + i).toNat)) - 33)), (8, xI (A 46 (t + i).toNat)), (0, xC 42), (1, xI (n)), (2, xI (t)), (3, xI (e)), (4, xI (sz))]) (x_d C_M_base85 101 rfl) rfl ⟨by omega, by omega⟩ (by decide) rfl ?_
          refine x_goto (tgt := 114) (x_d C_M_base85 102 rfl) rfl ?_
          refine x_locs [3, 4, 5, 6, 7, 1, 0] rfl ?_
          have hd0 : s_d5 (A 46) t.toNat sz.toNat i.toNat = A 46 (t + i).toNat - 33 := by rw [hdd]; split <;> omega
          rw [show ((85 * (s_v5 (A 46) t.toNat sz.toNat i.toNat)) + (A 46 (t + i).toNat)) - 33 = s_v5 (A 46) t.toNat sz.toNat (i + 1).toNat by rw [hvs, hd0]; omega]
          exact ih (i + 1) (by omega) (by rw [hos, ho, Bool.true_and]; exact decide_eq_true (by omega))
        · refine x_iconst (x_d C_M_base85 90 rfl) ⟨by omega, by omega⟩ ?_
          refine x_ireturn (x_d C_M_base85 91 rfl) ?_
          refine k0 (s_ok5_bad (k := i.toNat) (by omega) ?_)
          rw [hdd]
          split <;> omega
theorem w_M_base85_195 (Z : xZ) (d : Nat) (q : Nat → Int) (r : Nat → Option Nat) (A : Nat → Nat → Int) (dy : xH) (hd : 1 ≤ d) (n t e sz v : Int) (hz : 2 ≤ sz ∧ sz ≤ 5) (hv : 0 ≤ v ∧ v < 4294967296) (Q : Option xV → xH → Prop) : ∀ (m : Nat) (i mn : Int) (f : Nat → Int) (acc : List Int), (0 ≤ i ∧ i + m = sz - 1) → aok mn f acc → (3000 < acc.length + m → ∀ mn f, (0 ≤ mn ∧ mn ≤ 3000) → Q (some (xI 0)) (hF (x_up q 1357 mn) r (x_up A 47 f) ++ dy)) → (∀ mn f, aok mn f (acc ++ s_gb v m i.toNat) → xW Z d Y_M_base85 231 [(0, xC 42), (1, xI n), (2, xI t), (3, xI e), (4, xI sz)] [] (hF (x_up q 1357 mn) r (x_up A 47 f) ++ dy) Q) → xW Z d Y_M_base85 195 [(0, xC 42), (1, xI n), (2, xI t), (3, xI e), (4, xI sz), (5, xJ v), (7, xI i)] [] (hF (x_up q 1357 mn) r (x_up A 47 f) ++ dy) Q := by
  intro m
  induction m with
  | zero =>
    intro i mn f acc hi ha k0 kk
    refine x_iload (x_d C_M_base85 111 rfl) rfl ?_
    refine x_iload (x_d C_M_base85 112 rfl) rfl ?_
    refine x_iconst (x_d C_M_base85 113 rfl) ⟨by omega, by omega⟩ ?_
    refine x_isub (x_d C_M_base85 114 rfl) ⟨by omega, by omega⟩ ?_
    refine x_icmp_ge (tgt := 231) (x_d C_M_base85 115 rfl) rfl (fun _ => ?_) (fun q => absurd q (by omega))
    refine x_locs [0, 1, 2, 3, 4] rfl ?_
    exact kk mn f (by show aok mn f (acc ++ []); rw [List.append_nil]; exact ha)
  | succ m ih =>
    intro i mn f acc hi ha k0 kk
    have ha1 := ha.1
    have ha2 := ha.2.1
    refine x_iload (x_d C_M_base85 111 rfl) rfl ?_
    refine x_iload (x_d C_M_base85 112 rfl) rfl ?_
    refine x_iconst (x_d C_M_base85 113 rfl) ⟨by omega, by omega⟩ ?_
    refine x_isub (x_d C_M_base85 114 rfl) ⟨by omega, by omega⟩ ?_
    refine x_icmp_ge (tgt := 231) (x_d C_M_base85 115 rfl) rfl (fun q => absurd q (by omega)) (fun _ => ?_)
    refine x_aload_n (x_d C_M_base85 116 rfl) rfl ?_
    refine x_lload (x_d C_M_base85 117 rfl) rfl ?_
    refine x_bipush (x_d C_M_base85 118 rfl) (by omega) ?_
    refine x_bipush (x_d C_M_base85 119 rfl) (by omega) ?_
    refine x_iload (x_d C_M_base85 120 rfl) rfl ?_
    refine x_imul (x_d C_M_base85 121 rfl) ⟨by omega, by omega⟩ ?_
    refine x_isub (x_d C_M_base85 122 rfl) ⟨by omega, by omega⟩ ?_
    refine x_lshr (k := (24 - (8 * i) : Int).toNat) (x_d C_M_base85 123 rfl) (by omega) (by omega) (by omega) (by omega) ?_
    refine x_l2iW (z := (v / 2 ^ (24 - (8 * i) : Int).toNat).bmod 4294967296) (x_d C_M_base85 124 rfl) (s_bm32 _) Int.bmod_emod ?_
    refine x_invokevirtual (st := []) (av := [xI ((v / 2 ^ (24 - (8 * i) : Int).toNat).bmod 4294967296)]) (x_d C_M_base85 125 rfl) k_M_359 m_M_one v_M_one cl_M rfl rfl (Nat.le_of_ble_eq_true rfl) (by omega) rfl (c_M_one Z (d - 1) q r A dy mn f acc ha ((v / 2 ^ (24 - (8 * i) : Int).toNat).bmod 4294967296)) ?_
    rintro v_ h_ hr2
    obtain ⟨z2, mn2, f2, rfl, rfl, hq2⟩ : ∃ (z mn9 : Int) (f9 : Nat → Int), v_ = some (xI z) ∧ h_ = hF (x_up q 1357 mn9) r (x_up A 47 f9) ++ dy ∧ ((z = 0 ∧ 3000 ≤ (acc).length ∧ (0 ≤ mn9 ∧ mn9 ≤ 3000)) ∨ (z = 1 ∧ aok mn9 f9 (acc ++ [x_by ((v / 2 ^ (24 - (8 * i) : Int).toNat).bmod 4294967296)]))) := by
      rcases hr2 with ⟨e1, e2, e3⟩ | ⟨e1, e2, mn2, f2, e3, e4⟩
      · exact ⟨0, _, _, e2, e3, Or.inl ⟨rfl, e1, by have := (ha).1; have := (ha).2.1; omega⟩⟩
      · exact ⟨1, mn2, f2, e2, e3, Or.inr ⟨rfl, e4⟩⟩
    refine x_if_ne (tgt := 225) (x_d C_M_base85 126 rfl) rfl (fun c3 => ?_) (fun c3 => ?_)
    · refine x_iinc (l1 := [(7, xI (i + 1)), (0, xC 42), (1, xI (n)), (2, xI (t)), (3, xI (e)), (4, xI (sz)), (5, xJ (v))]) (x_d C_M_base85 129 rfl) rfl ⟨by omega, by omega⟩ (by decide) rfl ?_
      refine x_goto (tgt := 195) (x_d C_M_base85 130 rfl) rfl ?_
      refine x_locs [1, 2, 3, 4, 5, 6, 0] rfl ?_
      have h9 : aok mn2 f2 (acc ++ [x_by ((v / 2 ^ (24 - (8 * i) : Int).toNat).bmod 4294967296)]) := by rcases hq2 with z | z; omega; exact z.2
      rw [s_by_bm, show (24 - 8 * i : Int).toNat = 24 - 8 * i.toNat by omega] at h9
      refine ih (i + 1) _ _ _ (by omega) h9 (fun hl => k0 (by rw [List.length_append] at hl; have hl : 3000 < acc.length + 1 + m := hl; omega)) (fun mn9 f9 h8 => kk mn9 f9 ?_)
      rw [List.append_assoc, show (i + 1).toNat = i.toNat + 1 by omega] at h8
      exact h8
    · refine x_iconst (x_d C_M_base85 127 rfl) ⟨by omega, by omega⟩ ?_
      refine x_ireturn (x_d C_M_base85 128 rfl) ?_
      have h9 : 3000 ≤ acc.length := by rcases hq2 with z | z; exact z.2.1; omega
      have h8 : 0 ≤ mn2 ∧ mn2 ≤ 3000 := by rcases hq2 with z | z; exact z.2.2; omega
      exact k0 (by omega) _ _ h8
theorem w_M_base85_44 (Z : xZ) (d : Nat) (q : Nat → Int) (r : Nat → Option Nat) (A : Nat → Nat → Int) (dy : xH) (hd : 1 ≤ d) (hB : ∀ j, -128 ≤ A 46 j ∧ A 46 j ≤ 127) (n e : Int) (he : 0 ≤ e ∧ e + 2 ≤ 7000) : ∀ (m : Nat) (t mn : Int) (f : Nat → Int) (acc : List Int), (0 ≤ t ∧ t ≤ e ∧ e - t < m) → aok mn f acc → xW Z d Y_M_base85 44 [(0, xC 42), (1, xI n), (2, xI t), (3, xI e)] [] (hF (x_up q 1357 mn) r (x_up A 47 f) ++ dy) (flq q r A dy ((s_b85 (A 46) e.toNat m t.toNat).map (fun y => acc ++ y))) := by
  intro m
  induction m with
  | zero =>
    intro t mn f acc ht ha
    exfalso
    omega
  | succ m ih =>
    intro t mn f acc ht ha
    have ha1 := ha.1
    have ha2 := ha.2.1
    have hb := hB t.toNat
    have hst := s_b85_s (A 46) e.toNat m t.toNat
    obtain ⟨gr, hgr⟩ : ∃ z, z = s_grp (A 46) t.toNat (min 5 (e.toNat - t.toNat)) := ⟨_, rfl⟩
    have hg := hgr
    unfold s_grp at hg
    refine x_iload_n (x_d C_M_base85 30 rfl) rfl ?_
    refine x_iload_n (x_d C_M_base85 31 rfl) rfl ?_
    refine x_icmp_ge (tgt := 239) (x_d C_M_base85 32 rfl) rfl (fun c1 => ?_) (fun c1 => ?_)
    · refine x_iconst (x_d C_M_base85 136 rfl) ⟨by omega, by omega⟩ ?_
      refine x_ireturn (x_d C_M_base85 137 rfl) ?_
      exact ⟨mn, f, rfl, by omega, Or.inl ⟨rfl, acc, by rw [hst, if_pos (by omega)]; show some (acc ++ []) = _; rw [List.append_nil], ha⟩⟩
    · refine x_aload_n (x_d C_M_base85 33 rfl) rfl ?_
      refine x_getfield (v := xC 46) (x_d C_M_base85 34 rfl) f_M_173 rfl rfl ?_
      refine x_iload_n (x_d C_M_base85 35 rfl) rfl ?_
      refine x_baload (f := A 46) (x_d C_M_base85 36 rfl) rfl (by omega) (by omega) ?_
      refine x_bipush (x_d C_M_base85 37 rfl) (by omega) ?_
      refine x_icmp_ne (tgt := 91) (x_d C_M_base85 38 rfl) rfl (fun c2 => ?_) (fun c2 => ?_)
      · refine x_iconst (x_d C_M_base85 54 rfl) ⟨by omega, by omega⟩ ?_
        refine x_iload_n (x_d C_M_base85 55 rfl) rfl ?_
        refine x_iload_n (x_d C_M_base85 56 rfl) rfl ?_
        refine x_isub (x_d C_M_base85 57 rfl) ⟨by omega, by omega⟩ ?_
        refine x_mmin (st := []) (x_d C_M_base85 58 rfl) kM_M_362 mmin_w (Nat.le_of_ble_eq_true rfl) (by omega) ?_
        refine x_istore (l1 := [(4, xI (min 5 (e - t))), (0, xC 42), (1, xI (n)), (2, xI (t)), (3, xI (e))]) (x_d C_M_base85 59 rfl) (by decide) rfl ?_
        refine x_iload (x_d C_M_base85 60 rfl) rfl ?_
        refine x_iconst (x_d C_M_base85 61 rfl) ⟨by omega, by omega⟩ ?_
        refine x_icmp_ge (tgt := 108) (x_d C_M_base85 62 rfl) rfl (fun c3 => ?_) (fun c3 => ?_)
        · refine x_lconst0 (x_d C_M_base85 65 rfl) ?_
          refine x_lstore (l1 := [(5, xJ (0)), (4, xI (min 5 (e - t))), (0, xC 42), (1, xI (n)), (2, xI (t)), (3, xI (e))]) (x_d C_M_base85 66 rfl) (by decide) rfl ?_
          refine x_iconst (x_d C_M_base85 67 rfl) ⟨by omega, by omega⟩ ?_
          refine x_istore (l1 := [(7, xI (0)), (5, xJ (0)), (4, xI (min 5 (e - t))), (0, xC 42), (1, xI (n)), (2, xI (t)), (3, xI (e))]) (x_d C_M_base85 68 rfl) (by decide) rfl ?_
          refine x_locs [3, 4, 5, 6, 2, 1, 0] rfl ?_
          have hszn : min 5 (e.toNat - t.toNat) = (min 5 (e - t)).toNat := by omega
          rw [hszn] at hgr hg hst
          obtain ⟨sz, hsz⟩ : ∃ z, z = min 5 (e - t) := ⟨_, rfl⟩
          rw [← hsz] at hgr hg hst ⊢
          refine w_M_base85_114 Z d q r A dy hB n t e sz (by omega) (by omega) mn f _ (fun hbad => ?_) (fun hok => ?_) 5 0 (by omega) rfl
          · refine ⟨mn, f, rfl, by omega, Or.inr ⟨rfl, s_nob ?_⟩⟩
            rw [hst, if_neg (by omega), if_neg (by omega), ← hgr, hg, if_pos (Or.inr (Or.inl hbad))]
            rfl
          · have hvi := s_v5_in hok
            have hp5 : (85 : Int) ^ 5 = 4437053125 := by decide
            obtain ⟨vv, hvv⟩ : ∃ z, z = s_v5 (A 46) t.toNat sz.toNat 5 := ⟨_, rfl⟩
            rw [← hvv] at hg hvi ⊢
            have hlc : (vv < 4294967296 ∧ x_lc vv 4294967296 = -1) ∨ (4294967296 ≤ vv ∧ 0 ≤ x_lc vv 4294967296) := by unfold x_lc; (repeat' split) <;> omega
            refine x_lload (x_d C_M_base85 103 rfl) rfl ?_
            refine x_ldc2 (n := 4294967296) (x_d C_M_base85 104 rfl) lc_M_369 ⟨by omega, by omega⟩ ?_
            refine x_lcmp (x_d C_M_base85 105 rfl) ?_
            refine x_if_lt (tgt := 192) (x_d C_M_base85 106 rfl) rfl (fun c104 => ?_) (fun c104 => ?_)
            · refine x_iconst (x_d C_M_base85 109 rfl) ⟨by omega, by omega⟩ ?_
              refine x_istore (l1 := [(7, xI (0)), (0, xC 42), (1, xI (n)), (2, xI (t)), (3, xI (e)), (4, xI (sz)), (5, xJ (vv))]) (x_d C_M_base85 110 rfl) (by decide) rfl ?_
              have hgs : gr = some (s_gb vv (sz.toNat - 1) 0) := by rw [hg, if_neg]; rintro (z | z | z); omega; (rw [hok] at z; cases z); omega
              have hs2 : s_b85 (A 46) e.toNat (m + 1) t.toNat = (s_b85 (A 46) e.toNat m (t.toNat + sz.toNat)).map (fun x => s_gb vv (sz.toNat - 1) 0 ++ x) := by rw [hst, if_neg (by omega), if_neg (by omega), ← hgr, hgs]; rfl
              rw [hs2, s_map_app]
              refine x_locs [1, 2, 3, 4, 5, 6, 0] rfl ?_
              refine w_M_base85_195 Z d q r A dy hd n t e sz vv (by omega) (by omega) _ (sz.toNat - 1) 0 mn f acc (by omega) ha (fun hov mn9 f9 h9 => ⟨mn9, f9, rfl, h9, Or.inr ⟨rfl, fun b2 hb2 => ?_⟩⟩) (fun mn9 f9 h9 => ?_)
              · rw [← s_map_app] at hb2
                exact s_over hov hb2 (s_getl _ _ _ (by rw [s_gb_len]; omega))
              · refine x_iload_n (x_d C_M_base85 131 rfl) rfl ?_
                refine x_iload (x_d C_M_base85 132 rfl) rfl ?_
                refine x_iadd (x_d C_M_base85 133 rfl) ⟨by omega, by omega⟩ ?_
                refine x_istore_n (l1 := [(2, xI (t + sz)), (0, xC 42), (1, xI (n)), (3, xI (e)), (4, xI (sz))]) (x_d C_M_base85 134 rfl) (by decide) rfl ?_
                refine x_goto (tgt := 44) (x_d C_M_base85 135 rfl) rfl ?_
                refine x_locs [1, 2, 0, 3] rfl ?_
                have := ih (t + sz) mn9 f9 _ (by omega) h9
                rw [show (t + sz).toNat = t.toNat + sz.toNat by omega] at this
                exact this
            · refine x_iconst (x_d C_M_base85 107 rfl) ⟨by omega, by omega⟩ ?_
              refine x_ireturn (x_d C_M_base85 108 rfl) ?_
              refine ⟨_, _, rfl, by omega, Or.inr ⟨rfl, s_nob ?_⟩⟩
              rw [hst, if_neg (by omega), if_neg (by omega), ← hgr, hg, if_pos (Or.inr (Or.inr (by omega)))]
              rfl
        · refine x_iconst (x_d C_M_base85 63 rfl) ⟨by omega, by omega⟩ ?_
          refine x_ireturn (x_d C_M_base85 64 rfl) ?_
          refine ⟨mn, f, rfl, by omega, Or.inr ⟨rfl, s_nob ?_⟩⟩
          rw [hst, if_neg (by omega), if_neg (by omega), ← hgr, hg, if_pos (Or.inl (by omega))]
          rfl
      · refine x_iconst (x_d C_M_base85 39 rfl) ⟨by omega, by omega⟩ ?_
        refine x_istore (l1 := [(4, xI (0)), (0, xC 42), (1, xI (n)), (2, xI (t)), (3, xI (e))]) (x_d C_M_base85 40 rfl) (by decide) rfl ?_
        have hs2 : s_b85 (A 46) e.toNat (m + 1) t.toNat = (s_b85 (A 46) e.toNat m (t.toNat + 1)).map (fun x => [0, 0, 0, 0] ++ x) := by rw [hst, if_neg (by omega), if_pos (by omega)]
        rw [hs2, s_map_app]
        refine x_locs [1, 2, 3, 4, 0] rfl ?_
        refine w_M_base85_63 Z d q r A dy hd n t e acc _ (fun hov mn9 f9 h9 => ⟨mn9, f9, rfl, h9, Or.inr ⟨rfl, fun b2 hb2 => ?_⟩⟩) (fun mn9 f9 h9 => ?_) 4 0 mn f (by omega) (by show aok mn f (acc ++ []); rw [List.append_nil]; exact ha)
        · refine x_iinc (l1 := [(2, xI (t + 1)), (0, xC 42), (1, xI (n)), (3, xI (e))]) (x_d C_M_base85 52 rfl) rfl ⟨by omega, by omega⟩ (by decide) rfl ?_
          refine x_goto (tgt := 44) (x_d C_M_base85 53 rfl) rfl ?_
          refine x_locs [1, 2, 0, 3] rfl ?_
          have := ih (t + 1) mn9 f9 _ (by omega) h9
          rw [show (t + 1).toNat = t.toNat + 1 by omega] at this
          exact this
        · rw [← s_map_app] at hb2
          exact s_over hov hb2 (s_getl _ _ _ (by decide))
theorem c_M_base85 (Z : xZ) (d : Nat) (q : Nat → Int) (r : Nat → Option Nat) (A : Nat → Nat → Int) (dy : xH) (hd : 2 ≤ d) (hB : ∀ j, -128 ≤ A 46 j ∧ A 46 j ≤ 127) (n : Int) (hn : 0 ≤ n ∧ n ≤ 7000) : xMet Z d Y_M_base85 [xC 42, xI n] (hF q r A ++ dy) (flq q r A dy (s_f85 (A 46) n.toNat)) := by
  refine xMet_of (by decide) (Nat.le_of_ble_eq_true rfl) (fun v h2 hq => flq_rok hq) ?_
  have hfx : s_f85 (A 46) n.toNat = if n.toNat < 2 ∨ ¬ A 46 (n.toNat - 2) = 126 ∨ ¬ A 46 (n.toNat - 1) = 62 then none else s_b85 (A 46) (n.toNat - 2) (n.toNat + 1) 0 := rfl
  rw [show n.toNat - 2 = (n - 2).toNat by omega, show n.toNat - 1 = (n - 1).toNat by omega] at hfx
  refine x_aload_n (x_d C_M_base85 0 rfl) rfl ?_
  refine x_iconst (x_d C_M_base85 1 rfl) ⟨by omega, by omega⟩ ?_
  refine x_putfield (h1 := hF (x_up q 1357 0) r A ++ dy) (x_d C_M_base85 2 rfl) p_M_358 rfl rfl rfl trivial rfl ?_
  refine x_iload_n (x_d C_M_base85 3 rfl) rfl ?_
  refine x_iconst (x_d C_M_base85 4 rfl) ⟨by omega, by omega⟩ ?_
  refine x_icmp_lt (tgt := 36) (x_d C_M_base85 5 rfl) rfl (fun c1 => ?_) (fun c1 => ?_)
  · refine x_iconst (x_d C_M_base85 22 rfl) ⟨by omega, by omega⟩ ?_
    refine x_ireturn (x_d C_M_base85 23 rfl) ?_
    refine ⟨0, A 47, by rw [x_up_same A 47], by omega, Or.inr ⟨rfl, fun b2 hb2 => ?_⟩⟩
    rw [hfx, if_pos (by omega)] at hb2
    cases hb2
  · refine x_aload_n (x_d C_M_base85 6 rfl) rfl ?_
    refine x_getfield (v := xC 46) (x_d C_M_base85 7 rfl) f_M_173 rfl rfl ?_
    refine x_iload_n (x_d C_M_base85 8 rfl) rfl ?_
    refine x_iconst (x_d C_M_base85 9 rfl) ⟨by omega, by omega⟩ ?_
    refine x_isub (x_d C_M_base85 10 rfl) ⟨by omega, by omega⟩ ?_
    refine x_baload (f := A 46) (x_d C_M_base85 11 rfl) rfl (by omega) (by omega) ?_
    refine x_bipush (x_d C_M_base85 12 rfl) (by omega) ?_
    refine x_icmp_ne (tgt := 36) (x_d C_M_base85 13 rfl) rfl (fun c2 => ?_) (fun c2 => ?_)
    · refine x_iconst (x_d C_M_base85 22 rfl) ⟨by omega, by omega⟩ ?_
      refine x_ireturn (x_d C_M_base85 23 rfl) ?_
      refine ⟨0, A 47, by rw [x_up_same A 47], by omega, Or.inr ⟨rfl, fun b2 hb2 => ?_⟩⟩
      rw [hfx, if_pos (by omega)] at hb2
      cases hb2
    · refine x_aload_n (x_d C_M_base85 14 rfl) rfl ?_
      refine x_getfield (v := xC 46) (x_d C_M_base85 15 rfl) f_M_173 rfl rfl ?_
      refine x_iload_n (x_d C_M_base85 16 rfl) rfl ?_
      refine x_iconst (x_d C_M_base85 17 rfl) ⟨by omega, by omega⟩ ?_
      refine x_isub (x_d C_M_base85 18 rfl) ⟨by omega, by omega⟩ ?_
      refine x_baload (f := A 46) (x_d C_M_base85 19 rfl) rfl (by omega) (by omega) ?_
      refine x_bipush (x_d C_M_base85 20 rfl) (by omega) ?_
      refine x_icmp_eq (tgt := 38) (x_d C_M_base85 21 rfl) rfl (fun c3 => ?_) (fun c3 => ?_)
      · refine x_iconst (x_d C_M_base85 24 rfl) ⟨by omega, by omega⟩ ?_
        refine x_istore_n (l1 := [(2, xI (0)), (0, xC 42), (1, xI (n))]) (x_d C_M_base85 25 rfl) (by decide) rfl ?_
        refine x_iload_n (x_d C_M_base85 26 rfl) rfl ?_
        refine x_iconst (x_d C_M_base85 27 rfl) ⟨by omega, by omega⟩ ?_
        refine x_isub (x_d C_M_base85 28 rfl) ⟨by omega, by omega⟩ ?_
        refine x_istore_n (l1 := [(3, xI (n - 2)), (2, xI (0)), (0, xC 42), (1, xI (n))]) (x_d C_M_base85 29 rfl) (by decide) rfl ?_
        refine x_locs [2, 3, 1, 0] rfl ?_
        rw [hfx, if_neg (by omega)]
        refine x_heq (h1 := hF (x_up q 1357 0) r (x_up A 47 (A 47)) ++ dy) (by rw [x_up_same A 47]) ?_
        have := w_M_base85_44 Z d q r A dy (by omega) hB n (n - 2) (by omega) (n.toNat + 1) 0 0 (A 47) [] (by omega) (aok_nil _)
        rw [s_mapnil] at this
        exact this
      · refine x_iconst (x_d C_M_base85 22 rfl) ⟨by omega, by omega⟩ ?_
        refine x_ireturn (x_d C_M_base85 23 rfl) ?_
        refine ⟨0, A 47, by rw [x_up_same A 47], by omega, Or.inr ⟨rfl, fun b2 hb2 => ?_⟩⟩
        rw [hfx, if_pos (by omega)] at hb2
        cases hb2
