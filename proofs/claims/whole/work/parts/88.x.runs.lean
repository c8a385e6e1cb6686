/-! the reference: runs -/
theorem s_getl (S : Option (List Int)) (l : List Int) (n : Nat) (hl : n ≤ l.length) : ∀ y, S.map (fun x => l ++ x) = some y → n ≤ y.length := fun y hy => by
  cases S with
  | none => cases hy
  | some x => rw [← Option.some.inj hy, List.length_append]; omega
theorem w_M_runs_83c (Z : xZ) (d : Nat) (q : Nat → Int) (r : Nat → Option Nat) (A : Nat → Nat → Int) (dy : xH) (hd : 1 ≤ d) (hB : ∀ j, -128 ≤ A 46 j ∧ A 46 j ≤ 127) (n k c T : Int) (hn : 0 ≤ n ∧ n ≤ 7000) (hc : 0 ≤ c ∧ c < 128) (hk : 0 ≤ k ∧ k + T < n) (hT : 0 ≤ T ∧ T ≤ 300) (acc : List Int) (Q : Option xV → xH → Prop) (k0 : 3000 < acc.length + T.toNat → ∀ mn f, (0 ≤ mn ∧ mn ≤ 3000) → Q (some (xI 0)) (hF (x_up q 1357 mn) r (x_up A 47 f) ++ dy)) (kk : ∀ mn f, aok mn f (acc ++ s_sl (A 46) (k + 1).toNat T.toNat) → xW Z d Y_M_runs 127 [(0, xC 42), (1, xI n), (2, xI k), (3, xI c), (4, xI T)] [] (hF (x_up q 1357 mn) r (x_up A 47 f) ++ dy) Q) : ∀ (m : Nat) (i mn : Int) (f : Nat → Int), (0 ≤ i ∧ i + m = T) → aok mn f (acc ++ s_sl (A 46) (k + 1).toNat i.toNat) → xW Z d Y_M_runs 83 [(0, xC 42), (1, xI n), (2, xI k), (3, xI c), (4, xI T), (5, xI i)] [] (hF (x_up q 1357 mn) r (x_up A 47 f) ++ dy) Q := by
  have hll : ∀ m9 : Nat, (s_sl (A 46) (k + 1).toNat m9).length = m9 := fun m9 => by rw [s_sl_len]
  intro m
  induction m with
  | zero =>
    intro i mn f hi ha
    refine x_iload (x_d C_M_runs 48 rfl) rfl ?_
    refine x_iload (x_d C_M_runs 49 rfl) rfl ?_
    refine x_icmp_ge (tgt := 127) (x_d C_M_runs 50 rfl) rfl (fun _ => ?_) (fun q => absurd q (by omega))
    refine x_locs [0, 1, 2, 3, 4] rfl ?_
    exact kk mn f (by rw [show T.toNat = i.toNat by omega]; exact ha)
  | succ m ih =>
    intro i mn f hi ha
    have ha1 := ha.1
    have ha2 := ha.2.1
    have hbb := hB (k + 1 + i).toNat
    have hby : x_by (A 46 (k + 1 + i).toNat) = A 46 (k + 1 + i).toNat := x_by_id hbb
    refine x_iload (x_d C_M_runs 48 rfl) rfl ?_
    refine x_iload (x_d C_M_runs 49 rfl) rfl ?_
    refine x_icmp_ge (tgt := 127) (x_d C_M_runs 50 rfl) rfl (fun q => absurd q (by omega)) (fun _ => ?_)
    refine x_aload_n (x_d C_M_runs 51 rfl) rfl ?_
    refine x_aload_n (x_d C_M_runs 52 rfl) rfl ?_
    refine x_getfield (v := xC 46) (x_d C_M_runs 53 rfl) f_M_173 rfl rfl ?_
    refine x_iload_n (x_d C_M_runs 54 rfl) rfl ?_
    refine x_iconst (x_d C_M_runs 55 rfl) ⟨by omega, by omega⟩ ?_
    refine x_iadd (x_d C_M_runs 56 rfl) ⟨by omega, by omega⟩ ?_
    refine x_iload_n (x_d C_M_runs 57 rfl) rfl ?_
    refine x_sipush (x_d C_M_runs 58 rfl) (by omega) ?_
    refine x_icmp_ge (tgt := 110) (x_d C_M_runs 59 rfl) rfl (fun q => absurd q (by omega)) (fun _ => ?_)
    refine x_iload (x_d C_M_runs 60 rfl) rfl ?_
    refine x_goto (tgt := 111) (x_d C_M_runs 61 rfl) rfl ?_
    refine x_iadd (x_d C_M_runs 63 rfl) ⟨by omega, by omega⟩ ?_
    refine x_baload (f := A 46) (x_d C_M_runs 64 rfl) rfl (by omega) (by omega) ?_
    refine x_invokevirtual (st := []) (av := [xI (A 46 (k + 1 + i).toNat)]) (x_d C_M_runs 65 rfl) k_M_359 m_M_one v_M_one cl_M rfl rfl (Nat.le_of_ble_eq_true rfl) (by omega) rfl (c_M_one Z (d - 1) q r A dy mn f (acc ++ s_sl (A 46) (k + 1).toNat i.toNat) ha (A 46 (k + 1 + i).toNat)) ?_
    rintro v_ h_ hr3
    obtain ⟨z3, mn3, f3, rfl, rfl, hq3⟩ : ∃ (z mn9 : Int) (f9 : Nat → Int), v_ = some (xI z) ∧ h_ = hF (x_up q 1357 mn9) r (x_up A 47 f9) ++ dy ∧ ((z = 0 ∧ 3000 ≤ ((acc ++ s_sl (A 46) (k + 1).toNat i.toNat)).length ∧ (0 ≤ mn9 ∧ mn9 ≤ 3000)) ∨ (z = 1 ∧ aok mn9 f9 ((acc ++ s_sl (A 46) (k + 1).toNat i.toNat) ++ [x_by (A 46 (k + 1 + i).toNat)]))) := by
      rcases hr3 with ⟨e1, e2, e3⟩ | ⟨e1, e2, mn2, f2, e3, e4⟩
      · exact ⟨0, _, _, e2, e3, Or.inl ⟨rfl, e1, by have := (ha).1; have := (ha).2.1; omega⟩⟩
      · exact ⟨1, mn2, f2, e2, e3, Or.inr ⟨rfl, e4⟩⟩
    refine x_if_ne (tgt := 121) (x_d C_M_runs 66 rfl) rfl (fun c4 => ?_) (fun c4 => ?_)
    · refine x_iinc (l1 := [(5, xI (i + 1)), (0, xC 42), (1, xI (n)), (2, xI (k)), (3, xI (c)), (4, xI (T))]) (x_d C_M_runs 69 rfl) rfl ⟨by omega, by omega⟩ (by decide) rfl ?_
      refine x_goto (tgt := 83) (x_d C_M_runs 70 rfl) rfl ?_
      refine x_locs [1, 2, 3, 4, 5, 0] rfl ?_
      have h9 : aok mn3 f3 ((acc ++ s_sl (A 46) (k + 1).toNat i.toNat) ++ [x_by (A 46 (k + 1 + i).toNat)]) := by rcases hq3 with z | z; omega; exact z.2
      refine ih (i + 1) _ _ (by omega) ?_
      rw [hby, List.append_assoc] at h9
      rw [show (i + 1).toNat = i.toNat + 1 by omega, s_sl_snoc, show (k + 1).toNat + i.toNat = (k + 1 + i).toNat by omega]
      exact h9
    · refine x_iconst (x_d C_M_runs 67 rfl) ⟨by omega, by omega⟩ ?_
      refine x_ireturn (x_d C_M_runs 68 rfl) ?_
      have h9 : 3000 ≤ ((acc ++ s_sl (A 46) (k + 1).toNat i.toNat)).length := by rcases hq3 with z | z; exact z.2.1; omega
      have h8 : 0 ≤ mn3 ∧ mn3 ≤ 3000 := by rcases hq3 with z | z; exact z.2.2; omega
      rw [List.length_append, hll] at h9
      exact k0 (by omega) _ _ h8
theorem w_M_runs_83r (Z : xZ) (d : Nat) (q : Nat → Int) (r : Nat → Option Nat) (A : Nat → Nat → Int) (dy : xH) (hd : 1 ≤ d) (hB : ∀ j, -128 ≤ A 46 j ∧ A 46 j ≤ 127) (n k c T : Int) (hn : 0 ≤ n ∧ n ≤ 7000) (hc : 128 ≤ c ∧ c ≤ 256) (hk : 0 ≤ k ∧ k + 1 < n) (hT : 0 ≤ T ∧ T ≤ 300) (acc : List Int) (Q : Option xV → xH → Prop) (k0 : 3000 < acc.length + T.toNat → ∀ mn f, (0 ≤ mn ∧ mn ≤ 3000) → Q (some (xI 0)) (hF (x_up q 1357 mn) r (x_up A 47 f) ++ dy)) (kk : ∀ mn f, aok mn f (acc ++ List.replicate T.toNat (A 46 (k + 1).toNat)) → xW Z d Y_M_runs 127 [(0, xC 42), (1, xI n), (2, xI k), (3, xI c), (4, xI T)] [] (hF (x_up q 1357 mn) r (x_up A 47 f) ++ dy) Q) : ∀ (m : Nat) (i mn : Int) (f : Nat → Int), (0 ≤ i ∧ i + m = T) → aok mn f (acc ++ List.replicate i.toNat (A 46 (k + 1).toNat)) → xW Z d Y_M_runs 83 [(0, xC 42), (1, xI n), (2, xI k), (3, xI c), (4, xI T), (5, xI i)] [] (hF (x_up q 1357 mn) r (x_up A 47 f) ++ dy) Q := by
  have hll : ∀ m9 : Nat, (List.replicate m9 (A 46 (k + 1).toNat)).length = m9 := fun m9 => by rw [List.length_replicate]
  intro m
  induction m with
  | zero =>
    intro i mn f hi ha
    refine x_iload (x_d C_M_runs 48 rfl) rfl ?_
    refine x_iload (x_d C_M_runs 49 rfl) rfl ?_
    refine x_icmp_ge (tgt := 127) (x_d C_M_runs 50 rfl) rfl (fun _ => ?_) (fun q => absurd q (by omega))
    refine x_locs [0, 1, 2, 3, 4] rfl ?_
    exact kk mn f (by rw [show T.toNat = i.toNat by omega]; exact ha)
  | succ m ih =>
    intro i mn f hi ha
    have ha1 := ha.1
    have ha2 := ha.2.1
    have hbb := hB (k + 1 + 0).toNat
    have hby : x_by (A 46 (k + 1 + 0).toNat) = A 46 (k + 1 + 0).toNat := x_by_id hbb
    refine x_iload (x_d C_M_runs 48 rfl) rfl ?_
    refine x_iload (x_d C_M_runs 49 rfl) rfl ?_
    refine x_icmp_ge (tgt := 127) (x_d C_M_runs 50 rfl) rfl (fun q => absurd q (by omega)) (fun _ => ?_)
    refine x_aload_n (x_d C_M_runs 51 rfl) rfl ?_
    refine x_aload_n (x_d C_M_runs 52 rfl) rfl ?_
    refine x_getfield (v := xC 46) (x_d C_M_runs 53 rfl) f_M_173 rfl rfl ?_
    refine x_iload_n (x_d C_M_runs 54 rfl) rfl ?_
    refine x_iconst (x_d C_M_runs 55 rfl) ⟨by omega, by omega⟩ ?_
    refine x_iadd (x_d C_M_runs 56 rfl) ⟨by omega, by omega⟩ ?_
    refine x_iload_n (x_d C_M_runs 57 rfl) rfl ?_
    refine x_sipush (x_d C_M_runs 58 rfl) (by omega) ?_
    refine x_icmp_ge (tgt := 110) (x_d C_M_runs 59 rfl) rfl (fun _ => ?_) (fun q => absurd q (by omega))
    refine x_iconst (x_d C_M_runs 62 rfl) ⟨by omega, by omega⟩ ?_
    refine x_iadd (x_d C_M_runs 63 rfl) ⟨by omega, by omega⟩ ?_
    refine x_baload (f := A 46) (x_d C_M_runs 64 rfl) rfl (by omega) (by omega) ?_
    refine x_invokevirtual (st := []) (av := [xI (A 46 (k + 1 + 0).toNat)]) (x_d C_M_runs 65 rfl) k_M_359 m_M_one v_M_one cl_M rfl rfl (Nat.le_of_ble_eq_true rfl) (by omega) rfl (c_M_one Z (d - 1) q r A dy mn f (acc ++ List.replicate i.toNat (A 46 (k + 1).toNat)) ha (A 46 (k + 1 + 0).toNat)) ?_
    rintro v_ h_ hr3
    obtain ⟨z3, mn3, f3, rfl, rfl, hq3⟩ : ∃ (z mn9 : Int) (f9 : Nat → Int), v_ = some (xI z) ∧ h_ = hF (x_up q 1357 mn9) r (x_up A 47 f9) ++ dy ∧ ((z = 0 ∧ 3000 ≤ ((acc ++ List.replicate i.toNat (A 46 (k + 1).toNat))).length ∧ (0 ≤ mn9 ∧ mn9 ≤ 3000)) ∨ (z = 1 ∧ aok mn9 f9 ((acc ++ List.replicate i.toNat (A 46 (k + 1).toNat)) ++ [x_by (A 46 (k + 1 + 0).toNat)]))) := by
      rcases hr3 with ⟨e1, e2, e3⟩ | ⟨e1, e2, mn2, f2, e3, e4⟩
      · exact ⟨0, _, _, e2, e3, Or.inl ⟨rfl, e1, by have := (ha).1; have := (ha).2.1; omega⟩⟩
      · exact ⟨1, mn2, f2, e2, e3, Or.inr ⟨rfl, e4⟩⟩
    refine x_if_ne (tgt := 121) (x_d C_M_runs 66 rfl) rfl (fun c4 => ?_) (fun c4 => ?_)
    · refine x_iinc (l1 := [(5, xI (i + 1)), (0, xC 42), (1, xI (n)), (2, xI (k)), (3, xI (c)), (4, xI (T))]) (x_d C_M_runs 69 rfl) rfl ⟨by omega, by omega⟩ (by decide) rfl ?_
      refine x_goto (tgt := 83) (x_d C_M_runs 70 rfl) rfl ?_
      refine x_locs [1, 2, 3, 4, 5, 0] rfl ?_
      have h9 : aok mn3 f3 ((acc ++ List.replicate i.toNat (A 46 (k + 1).toNat)) ++ [x_by (A 46 (k + 1 + 0).toNat)]) := by rcases hq3 with z | z; omega; exact z.2
      refine ih (i + 1) _ _ (by omega) ?_
      rw [hby, List.append_assoc] at h9
      rw [show (i + 1).toNat = i.toNat + 1 by omega, List.replicate_succ', show k + 1 = k + 1 + 0 by omega]
      rw [show k + 1 + 0 = k + 1 by omega] at h9 ⊢
      exact h9
    · refine x_iconst (x_d C_M_runs 67 rfl) ⟨by omega, by omega⟩ ?_
      refine x_ireturn (x_d C_M_runs 68 rfl) ?_
      have h9 : 3000 ≤ ((acc ++ List.replicate i.toNat (A 46 (k + 1).toNat))).length := by rcases hq3 with z | z; exact z.2.1; omega
      have h8 : 0 ≤ mn3 ∧ mn3 ≤ 3000 := by rcases hq3 with z | z; exact z.2.2; omega
      rw [List.length_append, hll] at h9
      exact k0 (by omega) _ _ h8
theorem w_M_runs_7 (Z : xZ) (d : Nat) (q : Nat → Int) (r : Nat → Option Nat) (A : Nat → Nat → Int) (dy : xH) (hd : 1 ≤ d) (hB : ∀ j, -128 ≤ A 46 j ∧ A 46 j ≤ 127) (n : Int) (hn : 0 ≤ n ∧ n ≤ 7000) : ∀ (m : Nat) (t mn : Int) (f : Nat → Int) (acc : List Int), (0 ≤ t ∧ n - t < m) → t ≤ n + 300 → aok mn f acc → xW Z d Y_M_runs 7 [(0, xC 42), (1, xI n), (2, xI t)] [] (hF (x_up q 1357 mn) r (x_up A 47 f) ++ dy) (flq q r A dy ((s_runs (A 46) n.toNat m t.toNat).map (fun y => acc ++ y))) := by
  intro m
  induction m with
  | zero =>
    intro t mn f acc ht ht2 ha
    have ha1 := ha.1
    have ha2 := ha.2.1
    refine x_iload_n (x_d C_M_runs 5 rfl) rfl ?_
    refine x_iload_n (x_d C_M_runs 6 rfl) rfl ?_
    refine x_icmp_ge (tgt := 148) (x_d C_M_runs 7 rfl) rfl (fun _ => ?_) (fun q => absurd q (by omega))
    refine x_iload_n (x_d C_M_runs 83 rfl) rfl ?_
    refine x_iload_n (x_d C_M_runs 84 rfl) rfl ?_
    refine x_iconst (x_d C_M_runs 85 rfl) ⟨by omega, by omega⟩ ?_
    refine x_isub (x_d C_M_runs 86 rfl) ⟨by omega, by omega⟩ ?_
    refine x_icmp_ne (tgt := 159) (x_d C_M_runs 87 rfl) rfl (fun _ => ?_) (fun q => absurd q (by omega))
    refine x_iconst (x_d C_M_runs 90 rfl) ⟨by omega, by omega⟩ ?_
    refine x_ireturn (x_d C_M_runs 91 rfl) ?_
    exact ⟨mn, f, rfl, by omega, Or.inr ⟨rfl, s_nob rfl⟩⟩
  | succ m ih =>
    intro t mn f acc ht ht2 ha
    have ha1 := ha.1
    have ha2 := ha.2.1
    have hb := hB t.toNat
    have hst := s_runs_s (A 46) n.toNat m t.toNat
    refine x_iload_n (x_d C_M_runs 5 rfl) rfl ?_
    refine x_iload_n (x_d C_M_runs 6 rfl) rfl ?_
    refine x_icmp_ge (tgt := 148) (x_d C_M_runs 7 rfl) rfl (fun c1 => ?_) (fun c1 => ?_)
    · refine x_iload_n (x_d C_M_runs 83 rfl) rfl ?_
      refine x_iload_n (x_d C_M_runs 84 rfl) rfl ?_
      refine x_iconst (x_d C_M_runs 85 rfl) ⟨by omega, by omega⟩ ?_
      refine x_isub (x_d C_M_runs 86 rfl) ⟨by omega, by omega⟩ ?_
      refine x_icmp_ne (tgt := 159) (x_d C_M_runs 87 rfl) rfl (fun c2 => ?_) (fun c2 => ?_)
      · refine x_iconst (x_d C_M_runs 90 rfl) ⟨by omega, by omega⟩ ?_
        refine x_ireturn (x_d C_M_runs 91 rfl) ?_
        refine ⟨mn, f, rfl, by omega, Or.inr ⟨rfl, s_nob ?_⟩⟩
        rw [hst]
        (repeat' split) <;> first | rfl | (exfalso; omega)
      · refine x_iconst (x_d C_M_runs 88 rfl) ⟨by omega, by omega⟩ ?_
        refine x_goto (tgt := 160) (x_d C_M_runs 89 rfl) rfl ?_
        refine x_ireturn (x_d C_M_runs 91 rfl) ?_
        refine ⟨mn, f, rfl, by omega, Or.inl ⟨rfl, acc, ?_, ha⟩⟩
        rw [hst, if_neg (by omega), if_pos (by omega), if_pos (by omega)]
        show some (acc ++ []) = _
        rw [List.append_nil]
    · refine x_aload_n (x_d C_M_runs 8 rfl) rfl ?_
      refine x_getfield (v := xC 46) (x_d C_M_runs 9 rfl) f_M_173 rfl rfl ?_
      refine x_iload_n (x_d C_M_runs 10 rfl) rfl ?_
      refine x_baload (f := A 46) (x_d C_M_runs 11 rfl) rfl (by omega) (by omega) ?_
      refine x_sipush (x_d C_M_runs 12 rfl) (by omega) ?_
      refine x_iand255 (x_d C_M_runs 13 rfl) ?_
      refine x_sipush (x_d C_M_runs 14 rfl) (by omega) ?_
      refine x_icmp_eq (tgt := 148) (x_d C_M_runs 15 rfl) rfl (fun c3 => ?_) (fun c3 => ?_)
      · refine x_iload_n (x_d C_M_runs 83 rfl) rfl ?_
        refine x_iload_n (x_d C_M_runs 84 rfl) rfl ?_
        refine x_iconst (x_d C_M_runs 85 rfl) ⟨by omega, by omega⟩ ?_
        refine x_isub (x_d C_M_runs 86 rfl) ⟨by omega, by omega⟩ ?_
        refine x_icmp_ne (tgt := 159) (x_d C_M_runs 87 rfl) rfl (fun c4 => ?_) (fun c4 => ?_)
        · refine x_iconst (x_d C_M_runs 90 rfl) ⟨by omega, by omega⟩ ?_
          refine x_ireturn (x_d C_M_runs 91 rfl) ?_
          refine ⟨mn, f, rfl, by omega, Or.inr ⟨rfl, s_nob ?_⟩⟩
          rw [hst]
          (repeat' split) <;> first | rfl | (exfalso; omega)
        · refine x_iconst (x_d C_M_runs 88 rfl) ⟨by omega, by omega⟩ ?_
          refine x_goto (tgt := 160) (x_d C_M_runs 89 rfl) rfl ?_
          refine x_ireturn (x_d C_M_runs 91 rfl) ?_
          refine ⟨mn, f, rfl, by omega, Or.inl ⟨rfl, acc, ?_, ha⟩⟩
          rw [hst, if_neg (by omega), if_pos (by omega), if_pos (by omega)]
          show some (acc ++ []) = _
          rw [List.append_nil]
      · refine x_aload_n (x_d C_M_runs 16 rfl) rfl ?_
        refine x_getfield (v := xC 46) (x_d C_M_runs 17 rfl) f_M_173 rfl rfl ?_
        refine x_iload_n (x_d C_M_runs 18 rfl) rfl ?_
        refine x_baload (f := A 46) (x_d C_M_runs 19 rfl) rfl (by omega) (by omega) ?_
        refine x_sipush (x_d C_M_runs 20 rfl) (by omega) ?_
        refine x_iand255 (x_d C_M_runs 21 rfl) ?_
        refine x_istore_n (l1 := [(3, xI ((A 46 (t).toNat) % 256)), (0, xC 42), (1, xI (n)), (2, xI (t))]) (x_d C_M_runs 22 rfl) (by decide) rfl ?_
        refine x_iload_n (x_d C_M_runs 23 rfl) rfl ?_
        refine x_sipush (x_d C_M_runs 24 rfl) (by omega) ?_
        refine x_icmp_ge (tgt := 52) (x_d C_M_runs 25 rfl) rfl (fun c5 => ?_) (fun c5 => ?_)
        · refine x_sipush (x_d C_M_runs 30 rfl) (by omega) ?_
          refine x_iload_n (x_d C_M_runs 31 rfl) rfl ?_
          refine x_isub (x_d C_M_runs 32 rfl) ⟨by omega, by omega⟩ ?_
          refine x_istore (l1 := [(4, xI (257 - ((A 46 (t).toNat) % 256))), (3, xI ((A 46 (t).toNat) % 256)), (0, xC 42), (1, xI (n)), (2, xI (t))]) (x_d C_M_runs 33 rfl) (by decide) rfl ?_
          refine x_iload_n (x_d C_M_runs 34 rfl) rfl ?_
          refine x_iload_n (x_d C_M_runs 35 rfl) rfl ?_
          refine x_sipush (x_d C_M_runs 36 rfl) (by omega) ?_
          refine x_icmp_ge (tgt := 72) (x_d C_M_runs 37 rfl) rfl (fun c6 => ?_) (fun c6 => ?_)
          · refine x_iconst (x_d C_M_runs 40 rfl) ⟨by omega, by omega⟩ ?_
            refine x_iadd (x_d C_M_runs 41 rfl) ⟨by omega, by omega⟩ ?_
            refine x_iload_n (x_d C_M_runs 42 rfl) rfl ?_
            refine x_icmp_lt (tgt := 80) (x_d C_M_runs 43 rfl) rfl (fun c7 => ?_) (fun c7 => ?_)
            · refine x_iconst (x_d C_M_runs 46 rfl) ⟨by omega, by omega⟩ ?_
              refine x_istore (l1 := [(5, xI (0)), (4, xI (257 - ((A 46 (t).toNat) % 256))), (3, xI ((A 46 (t).toNat) % 256)), (0, xC 42), (1, xI (n)), (2, xI (t))]) (x_d C_M_runs 47 rfl) (by decide) rfl ?_
              have hs2 : s_runs (A 46) n.toNat (m + 1) t.toNat = (s_runs (A 46) n.toNat m (t.toNat + 2)).map (fun x => List.replicate (257 - A 46 t.toNat % 256).toNat (A 46 (t.toNat + 1)) ++ x) := by rw [hst, if_neg (by omega), if_neg (by omega), if_neg (by omega), if_neg (by omega)]
              rw [hs2, s_map_app, show t.toNat + 1 = (t + 1).toNat by omega]
              refine x_locs [3, 4, 5, 2, 1, 0] rfl ?_
              refine w_M_runs_83r Z d q r A dy hd hB n t (A 46 t.toNat % 256) (257 - ((A 46 (t).toNat) % 256)) hn (by omega) (by omega) (by omega) acc _ (fun hov mn9 f9 h9 => ⟨mn9, f9, rfl, h9, Or.inr ⟨rfl, fun b2 hb2 => ?_⟩⟩) (fun mn9 f9 h9 => ?_) (257 - ((A 46 (t).toNat) % 256)).toNat 0 mn f (by omega) (by show aok mn f (acc ++ []); rw [List.append_nil]; exact ha)
              · refine x_iload_n (x_d C_M_runs 71 rfl) rfl ?_
                refine x_iconst (x_d C_M_runs 72 rfl) ⟨by omega, by omega⟩ ?_
                refine x_iload_n (x_d C_M_runs 73 rfl) rfl ?_
                refine x_sipush (x_d C_M_runs 74 rfl) (by omega) ?_
                refine x_icmp_ge (tgt := 141) (x_d C_M_runs 75 rfl) rfl (fun _ => ?_) (fun q => absurd q (by omega))
                refine x_iconst (x_d C_M_runs 78 rfl) ⟨by omega, by omega⟩ ?_
                refine x_iadd (x_d C_M_runs 79 rfl) ⟨by omega, by omega⟩ ?_
                refine x_iadd (x_d C_M_runs 80 rfl) ⟨by omega, by omega⟩ ?_
                refine x_istore_n (l1 := [(2, xI (t + (1 + 1))), (0, xC 42), (1, xI (n)), (3, xI (A 46 t.toNat % 256)), (4, xI (257 - ((A 46 (t).toNat) % 256)))]) (x_d C_M_runs 81 rfl) (by decide) rfl ?_
                refine x_goto (tgt := 7) (x_d C_M_runs 82 rfl) rfl ?_
                refine x_locs [1, 2, 0] rfl ?_
                have := ih (t + (1 + 1)) mn9 f9 _ (by omega) (by omega) h9
                rw [show (t + (1 + 1)).toNat = t.toNat + 2 by omega] at this
                exact this
              · rw [← s_map_app] at hb2
                exact s_over hov hb2 (s_getl _ _ _ (by rw [List.length_replicate]; omega))
            · refine x_iconst (x_d C_M_runs 44 rfl) ⟨by omega, by omega⟩ ?_
              refine x_ireturn (x_d C_M_runs 45 rfl) ?_
              refine ⟨mn, f, rfl, by omega, Or.inr ⟨rfl, s_nob ?_⟩⟩
              rw [hst]
              (repeat' split) <;> first | rfl | (exfalso; omega)
          · refine x_iload (x_d C_M_runs 38 rfl) rfl ?_
            refine x_goto (tgt := 73) (x_d C_M_runs 39 rfl) rfl ?_
            refine x_iadd (x_d C_M_runs 41 rfl) ⟨by omega, by omega⟩ ?_
            refine x_iload_n (x_d C_M_runs 42 rfl) rfl ?_
            refine x_icmp_lt (tgt := 80) (x_d C_M_runs 43 rfl) rfl (fun c8 => ?_) (fun c8 => ?_)
            · refine x_iconst (x_d C_M_runs 46 rfl) ⟨by omega, by omega⟩ ?_
              refine x_istore (l1 := [(5, xI (0)), (4, xI (257 - ((A 46 (t).toNat) % 256))), (3, xI ((A 46 (t).toNat) % 256)), (0, xC 42), (1, xI (n)), (2, xI (t))]) (x_d C_M_runs 47 rfl) (by decide) rfl ?_
              have hs2 : s_runs (A 46) n.toNat (m + 1) t.toNat = (s_runs (A 46) n.toNat m (t.toNat + 2)).map (fun x => List.replicate (257 - A 46 t.toNat % 256).toNat (A 46 (t.toNat + 1)) ++ x) := by rw [hst, if_neg (by omega), if_neg (by omega), if_neg (by omega), if_neg (by omega)]
              rw [hs2, s_map_app, show t.toNat + 1 = (t + 1).toNat by omega]
              refine x_locs [3, 4, 5, 2, 1, 0] rfl ?_
              refine w_M_runs_83r Z d q r A dy hd hB n t (A 46 t.toNat % 256) (257 - ((A 46 (t).toNat) % 256)) hn (by omega) (by omega) (by omega) acc _ (fun hov mn9 f9 h9 => ⟨mn9, f9, rfl, h9, Or.inr ⟨rfl, fun b2 hb2 => ?_⟩⟩) (fun mn9 f9 h9 => ?_) (257 - ((A 46 (t).toNat) % 256)).toNat 0 mn f (by omega) (by show aok mn f (acc ++ []); rw [List.append_nil]; exact ha)
              · refine x_iload_n (x_d C_M_runs 71 rfl) rfl ?_
                refine x_iconst (x_d C_M_runs 72 rfl) ⟨by omega, by omega⟩ ?_
                refine x_iload_n (x_d C_M_runs 73 rfl) rfl ?_
                refine x_sipush (x_d C_M_runs 74 rfl) (by omega) ?_
                refine x_icmp_ge (tgt := 141) (x_d C_M_runs 75 rfl) rfl (fun _ => ?_) (fun q => absurd q (by omega))
                refine x_iconst (x_d C_M_runs 78 rfl) ⟨by omega, by omega⟩ ?_
                refine x_iadd (x_d C_M_runs 79 rfl) ⟨by omega, by omega⟩ ?_
                refine x_iadd (x_d C_M_runs 80 rfl) ⟨by omega, by omega⟩ ?_
                refine x_istore_n (l1 := [(2, xI (t + (1 + 1))), (0, xC 42), (1, xI (n)), (3, xI (A 46 t.toNat % 256)), (4, xI (257 - ((A 46 (t).toNat) % 256)))]) (x_d C_M_runs 81 rfl) (by decide) rfl ?_
                refine x_goto (tgt := 7) (x_d C_M_runs 82 rfl) rfl ?_
                refine x_locs [1, 2, 0] rfl ?_
                have := ih (t + (1 + 1)) mn9 f9 _ (by omega) (by omega) h9
                rw [show (t + (1 + 1)).toNat = t.toNat + 2 by omega] at this
                exact this
              · rw [← s_map_app] at hb2
                exact s_over hov hb2 (s_getl _ _ _ (by rw [List.length_replicate]; omega))
            · refine x_iconst (x_d C_M_runs 44 rfl) ⟨by omega, by omega⟩ ?_
              refine x_ireturn (x_d C_M_runs 45 rfl) ?_
              refine ⟨mn, f, rfl, by omega, Or.inr ⟨rfl, s_nob ?_⟩⟩
              rw [hst]
              (repeat' split) <;> first | rfl | (exfalso; omega)
        · refine x_iload_n (x_d C_M_runs 26 rfl) rfl ?_
          refine x_iconst (x_d C_M_runs 27 rfl) ⟨by omega, by omega⟩ ?_
          refine x_iadd (x_d C_M_runs 28 rfl) ⟨by omega, by omega⟩ ?_
          refine x_goto (tgt := 57) (x_d C_M_runs 29 rfl) rfl ?_
          refine x_istore (l1 := [(4, xI (((A 46 (t).toNat) % 256) + 1)), (3, xI ((A 46 (t).toNat) % 256)), (0, xC 42), (1, xI (n)), (2, xI (t))]) (x_d C_M_runs 33 rfl) (by decide) rfl ?_
          refine x_iload_n (x_d C_M_runs 34 rfl) rfl ?_
          refine x_iload_n (x_d C_M_runs 35 rfl) rfl ?_
          refine x_sipush (x_d C_M_runs 36 rfl) (by omega) ?_
          refine x_icmp_ge (tgt := 72) (x_d C_M_runs 37 rfl) rfl (fun c9 => ?_) (fun c9 => ?_)
          · refine x_iconst (x_d C_M_runs 40 rfl) ⟨by omega, by omega⟩ ?_
            refine x_iadd (x_d C_M_runs 41 rfl) ⟨by omega, by omega⟩ ?_
            refine x_iload_n (x_d C_M_runs 42 rfl) rfl ?_
            refine x_icmp_lt (tgt := 80) (x_d C_M_runs 43 rfl) rfl (fun c10 => ?_) (fun c10 => ?_)
            · refine x_iconst (x_d C_M_runs 46 rfl) ⟨by omega, by omega⟩ ?_
              refine x_istore (l1 := [(5, xI (0)), (4, xI (((A 46 (t).toNat) % 256) + 1)), (3, xI ((A 46 (t).toNat) % 256)), (0, xC 42), (1, xI (n)), (2, xI (t))]) (x_d C_M_runs 47 rfl) (by decide) rfl ?_
              have hs2 : s_runs (A 46) n.toNat (m + 1) t.toNat = (s_runs (A 46) n.toNat m (t.toNat + (A 46 t.toNat % 256).toNat + 2)).map (fun x => s_sl (A 46) (t.toNat + 1) (A 46 t.toNat % 256 + 1).toNat ++ x) := by rw [hst, if_neg (by omega), if_neg (by omega), if_pos (by omega), if_neg (by omega)]
              rw [hs2, s_map_app, show t.toNat + 1 = (t + 1).toNat by omega]
              refine x_locs [3, 4, 5, 2, 1, 0] rfl ?_
              refine w_M_runs_83c Z d q r A dy hd hB n t (A 46 t.toNat % 256) (((A 46 (t).toNat) % 256) + 1) hn (by omega) (by omega) (by omega) acc _ (fun hov mn9 f9 h9 => ⟨mn9, f9, rfl, h9, Or.inr ⟨rfl, fun b2 hb2 => ?_⟩⟩) (fun mn9 f9 h9 => ?_) (((A 46 (t).toNat) % 256) + 1).toNat 0 mn f (by omega) (by show aok mn f (acc ++ []); rw [List.append_nil]; exact ha)
              · refine x_iload_n (x_d C_M_runs 71 rfl) rfl ?_
                refine x_iconst (x_d C_M_runs 72 rfl) ⟨by omega, by omega⟩ ?_
                refine x_iload_n (x_d C_M_runs 73 rfl) rfl ?_
                refine x_sipush (x_d C_M_runs 74 rfl) (by omega) ?_
                refine x_icmp_ge (tgt := 141) (x_d C_M_runs 75 rfl) rfl (fun q => absurd q (by omega)) (fun _ => ?_)
                refine x_iload (x_d C_M_runs 76 rfl) rfl ?_
                refine x_goto (tgt := 142) (x_d C_M_runs 77 rfl) rfl ?_
                refine x_iadd (x_d C_M_runs 79 rfl) ⟨by omega, by omega⟩ ?_
                refine x_iadd (x_d C_M_runs 80 rfl) ⟨by omega, by omega⟩ ?_
                refine x_istore_n (l1 := [(2, xI (t + (1 + (((A 46 (t).toNat) % 256) + 1)))), (0, xC 42), (1, xI (n)), (3, xI (A 46 t.toNat % 256)), (4, xI (((A 46 (t).toNat) % 256) + 1))]) (x_d C_M_runs 81 rfl) (by decide) rfl ?_
                refine x_goto (tgt := 7) (x_d C_M_runs 82 rfl) rfl ?_
                refine x_locs [1, 2, 0] rfl ?_
                have := ih (t + (1 + (((A 46 (t).toNat) % 256) + 1))) mn9 f9 _ (by omega) (by omega) h9
                rw [show (t + (1 + (((A 46 (t).toNat) % 256) + 1))).toNat = t.toNat + (A 46 t.toNat % 256).toNat + 2 by omega] at this
                exact this
              · rw [← s_map_app] at hb2
                exact s_over hov hb2 (s_getl _ _ _ (by rw [s_sl_len]; omega))
            · refine x_iconst (x_d C_M_runs 44 rfl) ⟨by omega, by omega⟩ ?_
              refine x_ireturn (x_d C_M_runs 45 rfl) ?_
              refine ⟨mn, f, rfl, by omega, Or.inr ⟨rfl, s_nob ?_⟩⟩
              rw [hst]
              (repeat' split) <;> first | rfl | (exfalso; omega)
          · refine x_iload (x_d C_M_runs 38 rfl) rfl ?_
            refine x_goto (tgt := 73) (x_d C_M_runs 39 rfl) rfl ?_
            refine x_iadd (x_d C_M_runs 41 rfl) ⟨by omega, by omega⟩ ?_
            refine x_iload_n (x_d C_M_runs 42 rfl) rfl ?_
            refine x_icmp_lt (tgt := 80) (x_d C_M_runs 43 rfl) rfl (fun c11 => ?_) (fun c11 => ?_)
            · refine x_iconst (x_d C_M_runs 46 rfl) ⟨by omega, by omega⟩ ?_
              refine x_istore (l1 := [(5, xI (0)), (4, xI (((A 46 (t).toNat) % 256) + 1)), (3, xI ((A 46 (t).toNat) % 256)), (0, xC 42), (1, xI (n)), (2, xI (t))]) (x_d C_M_runs 47 rfl) (by decide) rfl ?_
              have hs2 : s_runs (A 46) n.toNat (m + 1) t.toNat = (s_runs (A 46) n.toNat m (t.toNat + (A 46 t.toNat % 256).toNat + 2)).map (fun x => s_sl (A 46) (t.toNat + 1) (A 46 t.toNat % 256 + 1).toNat ++ x) := by rw [hst, if_neg (by omega), if_neg (by omega), if_pos (by omega), if_neg (by omega)]
              rw [hs2, s_map_app, show t.toNat + 1 = (t + 1).toNat by omega]
              refine x_locs [3, 4, 5, 2, 1, 0] rfl ?_
              refine w_M_runs_83c Z d q r A dy hd hB n t (A 46 t.toNat % 256) (((A 46 (t).toNat) % 256) + 1) hn (by omega) (by omega) (by omega) acc _ (fun hov mn9 f9 h9 => ⟨mn9, f9, rfl, h9, Or.inr ⟨rfl, fun b2 hb2 => ?_⟩⟩) (fun mn9 f9 h9 => ?_) (((A 46 (t).toNat) % 256) + 1).toNat 0 mn f (by omega) (by show aok mn f (acc ++ []); rw [List.append_nil]; exact ha)
              · refine x_iload_n (x_d C_M_runs 71 rfl) rfl ?_
                refine x_iconst (x_d C_M_runs 72 rfl) ⟨by omega, by omega⟩ ?_
                refine x_iload_n (x_d C_M_runs 73 rfl) rfl ?_
                refine x_sipush (x_d C_M_runs 74 rfl) (by omega) ?_
                refine x_icmp_ge (tgt := 141) (x_d C_M_runs 75 rfl) rfl (fun q => absurd q (by omega)) (fun _ => ?_)
                refine x_iload (x_d C_M_runs 76 rfl) rfl ?_
                refine x_goto (tgt := 142) (x_d C_M_runs 77 rfl) rfl ?_
                refine x_iadd (x_d C_M_runs 79 rfl) ⟨by omega, by omega⟩ ?_
                refine x_iadd (x_d C_M_runs 80 rfl) ⟨by omega, by omega⟩ ?_
                refine x_istore_n (l1 := [(2, xI (t + (1 + (((A 46 (t).toNat) % 256) + 1)))), (0, xC 42), (1, xI (n)), (3, xI (A 46 t.toNat % 256)), (4, xI (((A 46 (t).toNat) % 256) + 1))]) (x_d C_M_runs 81 rfl) (by decide) rfl ?_
                refine x_goto (tgt := 7) (x_d C_M_runs 82 rfl) rfl ?_
                refine x_locs [1, 2, 0] rfl ?_
                have := ih (t + (1 + (((A 46 (t).toNat) % 256) + 1))) mn9 f9 _ (by omega) (by omega) h9
                rw [show (t + (1 + (((A 46 (t).toNat) % 256) + 1))).toNat = t.toNat + (A 46 t.toNat % 256).toNat + 2 by omega] at this
                exact this
              · rw [← s_map_app] at hb2
                exact s_over hov hb2 (s_getl _ _ _ (by rw [s_sl_len]; omega))
            · refine x_iconst (x_d C_M_runs 44 rfl) ⟨by omega, by omega⟩ ?_
              refine x_ireturn (x_d C_M_runs 45 rfl) ?_
              refine ⟨mn, f, rfl, by omega, Or.inr ⟨rfl, s_nob ?_⟩⟩
              rw [hst]
              (repeat' split) <;> first | rfl | (exfalso; omega)
theorem c_M_runs (Z : xZ) (d : Nat) (q : Nat → Int) (r : Nat → Option Nat) (A : Nat → Nat → Int) (dy : xH) (hd : 2 ≤ d) (hB : ∀ j, -128 ≤ A 46 j ∧ A 46 j ≤ 127) (n : Int) (hn : 0 ≤ n ∧ n ≤ 7000) : xMet Z d Y_M_runs [xC 42, xI n] (hF q r A ++ dy) (flq q r A dy (s_frun (A 46) n.toNat)) := by
  refine xMet_of (by decide) (Nat.le_of_ble_eq_true rfl) (fun v h2 hq => flq_rok hq) ?_
  refine x_aload_n (x_d C_M_runs 0 rfl) rfl ?_
  refine x_iconst (x_d C_M_runs 1 rfl) ⟨by omega, by omega⟩ ?_
  refine x_putfield (h1 := hF (x_up q 1357 0) r A ++ dy) (x_d C_M_runs 2 rfl) p_M_358 rfl rfl rfl trivial rfl ?_
  refine x_iconst (x_d C_M_runs 3 rfl) ⟨by omega, by omega⟩ ?_
  refine x_istore_n (l1 := [(2, xI (0)), (0, xC 42), (1, xI (n))]) (x_d C_M_runs 4 rfl) (by decide) rfl ?_
  refine x_locs [1, 2, 0] rfl ?_
  refine x_heq (h1 := hF (x_up q 1357 0) r (x_up A 47 (A 47)) ++ dy) (by rw [x_up_same A 47]) ?_
  have := w_M_runs_7 Z d q r A dy (by omega) hB n hn (n.toNat + 1) 0 0 (A 47) [] (by omega) (by omega) (aok_nil _)
  rw [s_mapnil] at this
  exact this
