/-! the reference: reading an entry -/
theorem w_M_entry_2 (Z : xZ) (d : Nat) (q : Nat → Int) (r : Nat → Option Nat) (A : Nat → Nat → Int) (dyn : xH) (hd : 2 ≤ d) (X : Nat → Int) (f j k : Int) (g : Nat → Option xE) (cp : Nat) (bt : Option Nat) (tb lt : Int) (tr : Option Nat) (sz : Int) (fis fge fpl : Nat → Int) (fva : Nat → Option Nat) (fch : Nat → Int) (hp : PB dyn cp bt tb lt tr sz fis fge fpl fva fch) (hnp : gnp g cp) (hgk : gok g dyn) (hf : 0 ≤ f) (hn : 0 ≤ q 1345 ∧ q 1345 ≤ 4000) (hX : ∀ k : Nat, (k : Int) < q 1345 → A 44 k = X (f.toNat + k)) (hB : ∀ k, -128 ≤ X k ∧ X k ≤ 127) (hj : 0 ≤ j ∧ j + 20 ≤ q 1345) (hk : 0 ≤ k ∧ k < 300) (kk : (∀ i, i < 20 → eg i (X ((f + j).toNat + i)) = true) → xW Z d Y_M_entry 135 [(0, xC 42), (1, xC cp), (2, xI k)] [] (hF (x_up q 1346 j) (x_up r 1344 (some 44)) A ++ dyn) (fun v h2 => ∃ z, v = some (xI z) ∧ ((z = 0 ∧ e_bad X (f + q 1345) (f + j) = true ∧ h2 = hF (x_up q 1346 j) (x_up r 1344 (some 44)) A ++ dyn) ∨ (z = 1 ∧ e_bad X (f + q 1345) (f + j) = false ∧ ∃ dyn2 fis2 fge2 fpl2, h2 = hF (x_up q 1346 (j + 20)) (x_up r 1344 (some 44)) A ++ dyn2 ∧ PB dyn2 cp bt tb lt tr sz fis2 fge2 fpl2 fva fch ∧ PS g dyn dyn2 ∧ ((fis k.toNat = 0 ∧ fis2 = x_up fis k.toNat (if 0 ≤ s_txt X (f + q 1345) (f + j + 16) [32, 110, 32, 10] then 2 else 1) ∧ fpl2 = x_up fpl k.toNat (s_dgs X (f + q 1345) (f + j) 10) ∧ fge2 = x_up fge k.toNat (s_dgs X (f + q 1345) (f + j + 11) 5)) ∨ (¬ fis k.toNat = 0 ∧ fis2 = fis ∧ fpl2 = fpl ∧ fge2 = fge)))))) : ∀ (m : Nat) (t : Int), (0 ≤ t ∧ t + m = 20) → (∀ i : Nat, (i : Int) < t → eg i (X ((f + j).toNat + i)) = true) → xW Z d Y_M_entry 2 [(0, xC 42), (1, xC cp), (2, xI k), (3, xI t)] [] (hF (x_up q 1346 j) (x_up r 1344 (some 44)) A ++ dyn) (fun v h2 => ∃ z, v = some (xI z) ∧ ((z = 0 ∧ e_bad X (f + q 1345) (f + j) = true ∧ h2 = hF (x_up q 1346 j) (x_up r 1344 (some 44)) A ++ dyn) ∨ (z = 1 ∧ e_bad X (f + q 1345) (f + j) = false ∧ ∃ dyn2 fis2 fge2 fpl2, h2 = hF (x_up q 1346 (j + 20)) (x_up r 1344 (some 44)) A ++ dyn2 ∧ PB dyn2 cp bt tb lt tr sz fis2 fge2 fpl2 fva fch ∧ PS g dyn dyn2 ∧ ((fis k.toNat = 0 ∧ fis2 = x_up fis k.toNat (if 0 ≤ s_txt X (f + q 1345) (f + j + 16) [32, 110, 32, 10] then 2 else 1) ∧ fpl2 = x_up fpl k.toNat (s_dgs X (f + q 1345) (f + j) 10) ∧ fge2 = x_up fge k.toNat (s_dgs X (f + q 1345) (f + j + 11) 5)) ∨ (¬ fis k.toNat = 0 ∧ fis2 = fis ∧ fpl2 = fpl ∧ fge2 = fge))))) := by
  have hXi : ∀ u : Int, 0 ≤ u → u < q 1345 → A 44 u.toNat = X (f + u).toNat := fun u h1 h2 => by rw [hX u.toNat (by omega)]; congr 1; omega
  intro m
  induction m with
  | zero =>
    intro t ht he
    refine x_iload_n (x_d C_M_entry 2 rfl) rfl ?_
    refine x_bipush (x_d C_M_entry 3 rfl) (by omega) ?_
    refine x_icmp_ge (tgt := 135) (x_d C_M_entry 4 rfl) rfl (fun _ => ?_) (fun q => absurd q (by omega))
    refine x_locs [0, 1, 2] rfl ?_
    exact kk (fun i hi => he i (by omega))
  | succ m ih =>
    intro t ht he
    have hxt := hXi (j + t)
    have hXt : X ((f + j).toNat + t.toNat) = A 44 (j + t).toNat := by rw [hxt (by omega) (by omega)]; congr 1; omega
    have hdg : (x_bo (s_dig (A 44 (j + t).toNat)) = 1 ∧ s_dig (A 44 (j + t).toNat) = true) ∨ (x_bo (s_dig (A 44 (j + t).toNat)) = 0 ∧ s_dig (A 44 (j + t).toNat) = false) := by cases s_dig (A 44 (j + t).toNat); exact Or.inr ⟨rfl, rfl⟩; exact Or.inl ⟨rfl, rfl⟩
    refine x_iload_n (x_d C_M_entry 2 rfl) rfl ?_
    refine x_bipush (x_d C_M_entry 3 rfl) (by omega) ?_
    refine x_icmp_ge (tgt := 135) (x_d C_M_entry 4 rfl) rfl (fun q => absurd q (by omega)) (fun _ => ?_)
    refine x_aload_n (x_d C_M_entry 5 rfl) rfl ?_
    refine x_getfield (v := xC 44) (x_d C_M_entry 6 rfl) f_M_14 rfl rfl ?_
    refine x_aload_n (x_d C_M_entry 7 rfl) rfl ?_
    refine x_getfield (v := xI (j)) (x_d C_M_entry 8 rfl) f_M_7 rfl rfl ?_
    refine x_iload_n (x_d C_M_entry 9 rfl) rfl ?_
    refine x_iadd (x_d C_M_entry 10 rfl) ⟨by omega, by omega⟩ ?_
    refine x_baload (f := A 44) (x_d C_M_entry 11 rfl) rfl (by omega) (by omega) ?_
    refine x_istore (l1 := [(4, xI (A 44 (j + t).toNat)), (0, xC 42), (1, xC cp), (2, xI (k)), (3, xI (t))]) (x_d C_M_entry 12 rfl) (by decide) rfl ?_
    refine x_iload_n (x_d C_M_entry 13 rfl) rfl ?_
    refine x_bipush (x_d C_M_entry 14 rfl) (by omega) ?_
    refine x_icmp_lt (tgt := 39) (x_d C_M_entry 15 rfl) rfl (fun c2 => ?_) (fun c2 => ?_)
    · refine x_iload (x_d C_M_entry 22 rfl) rfl ?_
      refine x_invokestatic (st := []) (av := [xI (A 44 (j + t).toNat)]) (x_d C_M_entry 23 rfl) k_M_52 m_M_isDigit s_M_isDigit rfl (Nat.le_of_ble_eq_true rfl) (by omega) rfl (c_M_isDigit Z (d - 1) (hF (x_up q 1346 j) (x_up r 1344 (some 44)) A ++ dyn) (A 44 (j + t).toNat)) ?_
      rintro v_ h_ ⟨hv_, hh_⟩
      obtain rfl : v_ = some (xI (x_bo (s_dig (A 44 (j + t).toNat)))) := hv_
      rw [hh_]
      clear hh_
      refine x_goto (tgt := 120) (x_d C_M_entry 24 rfl) rfl ?_
      refine x_istore (l1 := [(5, xI (x_bo (s_dig (A 44 (j + t).toNat)))), (4, xI (A 44 (j + t).toNat)), (0, xC 42), (1, xC cp), (2, xI (k)), (3, xI (t))]) (x_d C_M_entry 60 rfl) (by decide) rfl ?_
      refine x_iload (x_d C_M_entry 61 rfl) rfl ?_
      refine x_if_ne (tgt := 129) (x_d C_M_entry 62 rfl) rfl (fun c3 => ?_) (fun c3 => ?_)
      · refine x_iinc (l1 := [(3, xI (t + 1)), (5, xI (x_bo (s_dig (A 44 (j + t).toNat)))), (4, xI (A 44 (j + t).toNat)), (0, xC 42), (1, xC cp), (2, xI (k))]) (x_d C_M_entry 65 rfl) rfl ⟨by omega, by omega⟩ (by decide) rfl ?_
        refine x_goto (tgt := 2) (x_d C_M_entry 66 rfl) rfl ?_
        refine x_locs [3, 4, 5, 0] rfl ?_
        have hne : eg t.toNat (X ((f + j).toNat + t.toNat)) = true := by
          rw [hXt]
          unfold eg
          (repeat' split) <;> first | (exfalso; omega) | exact decide_eq_true (by omega) | (rw [decide_eq_true (show A 44 (j + t).toNat = 110 by omega)]; rfl) | (rw [decide_eq_true (show A 44 (j + t).toNat = 102 by omega), Bool.or_true]) | (rcases hdg with ⟨_, a⟩ | ⟨a, _⟩; exact a; omega)
        exact ih (t + 1) (by omega) (fun i hi => by by_cases e : (i : Int) = t; rw [show i = t.toNat by omega]; exact hne; exact he i (by omega))
      · refine x_iconst (x_d C_M_entry 63 rfl) ⟨by omega, by omega⟩ ?_
        refine x_ireturn (x_d C_M_entry 64 rfl) ?_
        have hne : eg t.toNat (X ((f + j).toNat + t.toNat)) = false := by
          rw [hXt]
          unfold eg
          (repeat' split) <;> first | (exfalso; omega) | exact decide_eq_false (by omega) | (rw [decide_eq_false (by omega), decide_eq_false (by omega)]; rfl) | (rcases hdg with ⟨a, _⟩ | ⟨_, a⟩; omega; exact a)
        refine ⟨0, rfl, Or.inl ⟨rfl, ?_, rfl⟩⟩
        cases hb : e_bad X (f + q 1345) (f + j) with
        | true => rfl
        | false =>
          have := (e_eg hB (by omega) (by omega)).mp hb t.toNat (by omega)
          rw [hne] at this
          cases this
    · refine x_iload_n (x_d C_M_entry 16 rfl) rfl ?_
      refine x_bipush (x_d C_M_entry 17 rfl) (by omega) ?_
      refine x_icmp_le (tgt := 47) (x_d C_M_entry 18 rfl) rfl (fun c4 => ?_) (fun c4 => ?_)
      · refine x_iload_n (x_d C_M_entry 25 rfl) rfl ?_
        refine x_bipush (x_d C_M_entry 26 rfl) (by omega) ?_
        refine x_icmp_eq (tgt := 65) (x_d C_M_entry 27 rfl) rfl (fun c5 => ?_) (fun c5 => ?_)
        · refine x_iload (x_d C_M_entry 34 rfl) rfl ?_
          refine x_bipush (x_d C_M_entry 35 rfl) (by omega) ?_
          refine x_icmp_ne (tgt := 76) (x_d C_M_entry 36 rfl) rfl (fun c6 => ?_) (fun c6 => ?_)
          · refine x_iconst (x_d C_M_entry 39 rfl) ⟨by omega, by omega⟩ ?_
            refine x_goto (tgt := 120) (x_d C_M_entry 40 rfl) rfl ?_
            refine x_istore (l1 := [(5, xI (0)), (4, xI (A 44 (j + t).toNat)), (0, xC 42), (1, xC cp), (2, xI (k)), (3, xI (t))]) (x_d C_M_entry 60 rfl) (by decide) rfl ?_
            refine x_iload (x_d C_M_entry 61 rfl) rfl ?_
            refine x_if_ne (tgt := 129) (x_d C_M_entry 62 rfl) rfl (fun q => absurd q (by omega)) (fun _ => ?_)
            refine x_iconst (x_d C_M_entry 63 rfl) ⟨by omega, by omega⟩ ?_
            refine x_ireturn (x_d C_M_entry 64 rfl) ?_
            have hne : eg t.toNat (X ((f + j).toNat + t.toNat)) = false := by
              rw [hXt]
              unfold eg
              (repeat' split) <;> first | (exfalso; omega) | exact decide_eq_false (by omega) | (rw [decide_eq_false (by omega), decide_eq_false (by omega)]; rfl) | (rcases hdg with ⟨a, _⟩ | ⟨_, a⟩; omega; exact a)
            refine ⟨0, rfl, Or.inl ⟨rfl, ?_, rfl⟩⟩
            cases hb : e_bad X (f + q 1345) (f + j) with
            | true => rfl
            | false =>
              have := (e_eg hB (by omega) (by omega)).mp hb t.toNat (by omega)
              rw [hne] at this
              cases this
          · refine x_iconst (x_d C_M_entry 37 rfl) ⟨by omega, by omega⟩ ?_
            refine x_goto (tgt := 120) (x_d C_M_entry 38 rfl) rfl ?_
            refine x_istore (l1 := [(5, xI (1)), (4, xI (A 44 (j + t).toNat)), (0, xC 42), (1, xC cp), (2, xI (k)), (3, xI (t))]) (x_d C_M_entry 60 rfl) (by decide) rfl ?_
            refine x_iload (x_d C_M_entry 61 rfl) rfl ?_
            refine x_if_ne (tgt := 129) (x_d C_M_entry 62 rfl) rfl (fun _ => ?_) (fun q => absurd q (by omega))
            refine x_iinc (l1 := [(3, xI (t + 1)), (5, xI (1)), (4, xI (A 44 (j + t).toNat)), (0, xC 42), (1, xC cp), (2, xI (k))]) (x_d C_M_entry 65 rfl) rfl ⟨by omega, by omega⟩ (by decide) rfl ?_
            refine x_goto (tgt := 2) (x_d C_M_entry 66 rfl) rfl ?_
            refine x_locs [3, 4, 5, 0] rfl ?_
            have hne : eg t.toNat (X ((f + j).toNat + t.toNat)) = true := by
              rw [hXt]
              unfold eg
              (repeat' split) <;> first | (exfalso; omega) | exact decide_eq_true (by omega) | (rw [decide_eq_true (show A 44 (j + t).toNat = 110 by omega)]; rfl) | (rw [decide_eq_true (show A 44 (j + t).toNat = 102 by omega), Bool.or_true]) | (rcases hdg with ⟨_, a⟩ | ⟨a, _⟩; exact a; omega)
            exact ih (t + 1) (by omega) (fun i hi => by by_cases e : (i : Int) = t; rw [show i = t.toNat by omega]; exact hne; exact he i (by omega))
        · refine x_iload_n (x_d C_M_entry 28 rfl) rfl ?_
          refine x_bipush (x_d C_M_entry 29 rfl) (by omega) ?_
          refine x_icmp_eq (tgt := 65) (x_d C_M_entry 30 rfl) rfl (fun c9 => ?_) (fun c9 => ?_)
          · refine x_iload (x_d C_M_entry 34 rfl) rfl ?_
            refine x_bipush (x_d C_M_entry 35 rfl) (by omega) ?_
            refine x_icmp_ne (tgt := 76) (x_d C_M_entry 36 rfl) rfl (fun c10 => ?_) (fun c10 => ?_)
            · refine x_iconst (x_d C_M_entry 39 rfl) ⟨by omega, by omega⟩ ?_
              refine x_goto (tgt := 120) (x_d C_M_entry 40 rfl) rfl ?_
              refine x_istore (l1 := [(5, xI (0)), (4, xI (A 44 (j + t).toNat)), (0, xC 42), (1, xC cp), (2, xI (k)), (3, xI (t))]) (x_d C_M_entry 60 rfl) (by decide) rfl ?_
              refine x_iload (x_d C_M_entry 61 rfl) rfl ?_
              refine x_if_ne (tgt := 129) (x_d C_M_entry 62 rfl) rfl (fun q => absurd q (by omega)) (fun _ => ?_)
              refine x_iconst (x_d C_M_entry 63 rfl) ⟨by omega, by omega⟩ ?_
              refine x_ireturn (x_d C_M_entry 64 rfl) ?_
              have hne : eg t.toNat (X ((f + j).toNat + t.toNat)) = false := by
                rw [hXt]
                unfold eg
                (repeat' split) <;> first | (exfalso; omega) | exact decide_eq_false (by omega) | (rw [decide_eq_false (by omega), decide_eq_false (by omega)]; rfl) | (rcases hdg with ⟨a, _⟩ | ⟨_, a⟩; omega; exact a)
              refine ⟨0, rfl, Or.inl ⟨rfl, ?_, rfl⟩⟩
              cases hb : e_bad X (f + q 1345) (f + j) with
              | true => rfl
              | false =>
                have := (e_eg hB (by omega) (by omega)).mp hb t.toNat (by omega)
                rw [hne] at this
                cases this
            · refine x_iconst (x_d C_M_entry 37 rfl) ⟨by omega, by omega⟩ ?_
              refine x_goto (tgt := 120) (x_d C_M_entry 38 rfl) rfl ?_
              refine x_istore (l1 := [(5, xI (1)), (4, xI (A 44 (j + t).toNat)), (0, xC 42), (1, xC cp), (2, xI (k)), (3, xI (t))]) (x_d C_M_entry 60 rfl) (by decide) rfl ?_
              refine x_iload (x_d C_M_entry 61 rfl) rfl ?_
              refine x_if_ne (tgt := 129) (x_d C_M_entry 62 rfl) rfl (fun _ => ?_) (fun q => absurd q (by omega))
              refine x_iinc (l1 := [(3, xI (t + 1)), (5, xI (1)), (4, xI (A 44 (j + t).toNat)), (0, xC 42), (1, xC cp), (2, xI (k))]) (x_d C_M_entry 65 rfl) rfl ⟨by omega, by omega⟩ (by decide) rfl ?_
              refine x_goto (tgt := 2) (x_d C_M_entry 66 rfl) rfl ?_
              refine x_locs [3, 4, 5, 0] rfl ?_
              have hne : eg t.toNat (X ((f + j).toNat + t.toNat)) = true := by
                rw [hXt]
                unfold eg
                (repeat' split) <;> first | (exfalso; omega) | exact decide_eq_true (by omega) | (rw [decide_eq_true (show A 44 (j + t).toNat = 110 by omega)]; rfl) | (rw [decide_eq_true (show A 44 (j + t).toNat = 102 by omega), Bool.or_true]) | (rcases hdg with ⟨_, a⟩ | ⟨a, _⟩; exact a; omega)
              exact ih (t + 1) (by omega) (fun i hi => by by_cases e : (i : Int) = t; rw [show i = t.toNat by omega]; exact hne; exact he i (by omega))
          · refine x_iload_n (x_d C_M_entry 31 rfl) rfl ?_
            refine x_bipush (x_d C_M_entry 32 rfl) (by omega) ?_
            refine x_icmp_ne (tgt := 80) (x_d C_M_entry 33 rfl) rfl (fun c13 => ?_) (fun c13 => ?_)
            · refine x_iload_n (x_d C_M_entry 41 rfl) rfl ?_
              refine x_bipush (x_d C_M_entry 42 rfl) (by omega) ?_
              refine x_icmp_ne (tgt := 108) (x_d C_M_entry 43 rfl) rfl (fun c14 => ?_) (fun c14 => ?_)
              · refine x_iload (x_d C_M_entry 54 rfl) rfl ?_
                refine x_bipush (x_d C_M_entry 55 rfl) (by omega) ?_
                refine x_icmp_ne (tgt := 119) (x_d C_M_entry 56 rfl) rfl (fun c15 => ?_) (fun c15 => ?_)
                · refine x_iconst (x_d C_M_entry 59 rfl) ⟨by omega, by omega⟩ ?_
                  refine x_istore (l1 := [(5, xI (0)), (4, xI (A 44 (j + t).toNat)), (0, xC 42), (1, xC cp), (2, xI (k)), (3, xI (t))]) (x_d C_M_entry 60 rfl) (by decide) rfl ?_
                  refine x_iload (x_d C_M_entry 61 rfl) rfl ?_
                  refine x_if_ne (tgt := 129) (x_d C_M_entry 62 rfl) rfl (fun q => absurd q (by omega)) (fun _ => ?_)
                  refine x_iconst (x_d C_M_entry 63 rfl) ⟨by omega, by omega⟩ ?_
                  refine x_ireturn (x_d C_M_entry 64 rfl) ?_
                  have hne : eg t.toNat (X ((f + j).toNat + t.toNat)) = false := by
                    rw [hXt]
                    unfold eg
                    (repeat' split) <;> first | (exfalso; omega) | exact decide_eq_false (by omega) | (rw [decide_eq_false (by omega), decide_eq_false (by omega)]; rfl) | (rcases hdg with ⟨a, _⟩ | ⟨_, a⟩; omega; exact a)
                  refine ⟨0, rfl, Or.inl ⟨rfl, ?_, rfl⟩⟩
                  cases hb : e_bad X (f + q 1345) (f + j) with
                  | true => rfl
                  | false =>
                    have := (e_eg hB (by omega) (by omega)).mp hb t.toNat (by omega)
                    rw [hne] at this
                    cases this
                · refine x_iconst (x_d C_M_entry 57 rfl) ⟨by omega, by omega⟩ ?_
                  refine x_goto (tgt := 120) (x_d C_M_entry 58 rfl) rfl ?_
                  refine x_istore (l1 := [(5, xI (1)), (4, xI (A 44 (j + t).toNat)), (0, xC 42), (1, xC cp), (2, xI (k)), (3, xI (t))]) (x_d C_M_entry 60 rfl) (by decide) rfl ?_
                  refine x_iload (x_d C_M_entry 61 rfl) rfl ?_
                  refine x_if_ne (tgt := 129) (x_d C_M_entry 62 rfl) rfl (fun _ => ?_) (fun q => absurd q (by omega))
                  refine x_iinc (l1 := [(3, xI (t + 1)), (5, xI (1)), (4, xI (A 44 (j + t).toNat)), (0, xC 42), (1, xC cp), (2, xI (k))]) (x_d C_M_entry 65 rfl) rfl ⟨by omega, by omega⟩ (by decide) rfl ?_
                  refine x_goto (tgt := 2) (x_d C_M_entry 66 rfl) rfl ?_
                  refine x_locs [3, 4, 5, 0] rfl ?_
                  have hne : eg t.toNat (X ((f + j).toNat + t.toNat)) = true := by
                    rw [hXt]
                    unfold eg
                    (repeat' split) <;> first | (exfalso; omega) | exact decide_eq_true (by omega) | (rw [decide_eq_true (show A 44 (j + t).toNat = 110 by omega)]; rfl) | (rw [decide_eq_true (show A 44 (j + t).toNat = 102 by omega), Bool.or_true]) | (rcases hdg with ⟨_, a⟩ | ⟨a, _⟩; exact a; omega)
                  exact ih (t + 1) (by omega) (fun i hi => by by_cases e : (i : Int) = t; rw [show i = t.toNat by omega]; exact hne; exact he i (by omega))
              · refine x_iload (x_d C_M_entry 44 rfl) rfl ?_
                refine x_bipush (x_d C_M_entry 45 rfl) (by omega) ?_
                refine x_icmp_eq (tgt := 100) (x_d C_M_entry 46 rfl) rfl (fun c18 => ?_) (fun c18 => ?_)
                · refine x_iconst (x_d C_M_entry 50 rfl) ⟨by omega, by omega⟩ ?_
                  refine x_goto (tgt := 120) (x_d C_M_entry 51 rfl) rfl ?_
                  refine x_istore (l1 := [(5, xI (1)), (4, xI (A 44 (j + t).toNat)), (0, xC 42), (1, xC cp), (2, xI (k)), (3, xI (t))]) (x_d C_M_entry 60 rfl) (by decide) rfl ?_
                  refine x_iload (x_d C_M_entry 61 rfl) rfl ?_
                  refine x_if_ne (tgt := 129) (x_d C_M_entry 62 rfl) rfl (fun _ => ?_) (fun q => absurd q (by omega))
                  refine x_iinc (l1 := [(3, xI (t + 1)), (5, xI (1)), (4, xI (A 44 (j + t).toNat)), (0, xC 42), (1, xC cp), (2, xI (k))]) (x_d C_M_entry 65 rfl) rfl ⟨by omega, by omega⟩ (by decide) rfl ?_
                  refine x_goto (tgt := 2) (x_d C_M_entry 66 rfl) rfl ?_
                  refine x_locs [3, 4, 5, 0] rfl ?_
                  have hne : eg t.toNat (X ((f + j).toNat + t.toNat)) = true := by
                    rw [hXt]
                    unfold eg
                    (repeat' split) <;> first | (exfalso; omega) | exact decide_eq_true (by omega) | (rw [decide_eq_true (show A 44 (j + t).toNat = 110 by omega)]; rfl) | (rw [decide_eq_true (show A 44 (j + t).toNat = 102 by omega), Bool.or_true]) | (rcases hdg with ⟨_, a⟩ | ⟨a, _⟩; exact a; omega)
                  exact ih (t + 1) (by omega) (fun i hi => by by_cases e : (i : Int) = t; rw [show i = t.toNat by omega]; exact hne; exact he i (by omega))
                · refine x_iload (x_d C_M_entry 47 rfl) rfl ?_
                  refine x_bipush (x_d C_M_entry 48 rfl) (by omega) ?_
                  refine x_icmp_ne (tgt := 104) (x_d C_M_entry 49 rfl) rfl (fun c20 => ?_) (fun c20 => ?_)
                  · refine x_iconst (x_d C_M_entry 52 rfl) ⟨by omega, by omega⟩ ?_
                    refine x_goto (tgt := 120) (x_d C_M_entry 53 rfl) rfl ?_
                    refine x_istore (l1 := [(5, xI (0)), (4, xI (A 44 (j + t).toNat)), (0, xC 42), (1, xC cp), (2, xI (k)), (3, xI (t))]) (x_d C_M_entry 60 rfl) (by decide) rfl ?_
                    refine x_iload (x_d C_M_entry 61 rfl) rfl ?_
                    refine x_if_ne (tgt := 129) (x_d C_M_entry 62 rfl) rfl (fun q => absurd q (by omega)) (fun _ => ?_)
                    refine x_iconst (x_d C_M_entry 63 rfl) ⟨by omega, by omega⟩ ?_
                    refine x_ireturn (x_d C_M_entry 64 rfl) ?_
                    have hne : eg t.toNat (X ((f + j).toNat + t.toNat)) = false := by
                      rw [hXt]
                      unfold eg
                      (repeat' split) <;> first | (exfalso; omega) | exact decide_eq_false (by omega) | (rw [decide_eq_false (by omega), decide_eq_false (by omega)]; rfl) | (rcases hdg with ⟨a, _⟩ | ⟨_, a⟩; omega; exact a)
                    refine ⟨0, rfl, Or.inl ⟨rfl, ?_, rfl⟩⟩
                    cases hb : e_bad X (f + q 1345) (f + j) with
                    | true => rfl
                    | false =>
                      have := (e_eg hB (by omega) (by omega)).mp hb t.toNat (by omega)
                      rw [hne] at this
                      cases this
                  · refine x_iconst (x_d C_M_entry 50 rfl) ⟨by omega, by omega⟩ ?_
                    refine x_goto (tgt := 120) (x_d C_M_entry 51 rfl) rfl ?_
                    refine x_istore (l1 := [(5, xI (1)), (4, xI (A 44 (j + t).toNat)), (0, xC 42), (1, xC cp), (2, xI (k)), (3, xI (t))]) (x_d C_M_entry 60 rfl) (by decide) rfl ?_
                    refine x_iload (x_d C_M_entry 61 rfl) rfl ?_
                    refine x_if_ne (tgt := 129) (x_d C_M_entry 62 rfl) rfl (fun _ => ?_) (fun q => absurd q (by omega))
                    refine x_iinc (l1 := [(3, xI (t + 1)), (5, xI (1)), (4, xI (A 44 (j + t).toNat)), (0, xC 42), (1, xC cp), (2, xI (k))]) (x_d C_M_entry 65 rfl) rfl ⟨by omega, by omega⟩ (by decide) rfl ?_
                    refine x_goto (tgt := 2) (x_d C_M_entry 66 rfl) rfl ?_
                    refine x_locs [3, 4, 5, 0] rfl ?_
                    have hne : eg t.toNat (X ((f + j).toNat + t.toNat)) = true := by
                      rw [hXt]
                      unfold eg
                      (repeat' split) <;> first | (exfalso; omega) | exact decide_eq_true (by omega) | (rw [decide_eq_true (show A 44 (j + t).toNat = 110 by omega)]; rfl) | (rw [decide_eq_true (show A 44 (j + t).toNat = 102 by omega), Bool.or_true]) | (rcases hdg with ⟨_, a⟩ | ⟨a, _⟩; exact a; omega)
                    exact ih (t + 1) (by omega) (fun i hi => by by_cases e : (i : Int) = t; rw [show i = t.toNat by omega]; exact hne; exact he i (by omega))
            · refine x_iload (x_d C_M_entry 34 rfl) rfl ?_
              refine x_bipush (x_d C_M_entry 35 rfl) (by omega) ?_
              refine x_icmp_ne (tgt := 76) (x_d C_M_entry 36 rfl) rfl (fun c23 => ?_) (fun c23 => ?_)
              · refine x_iconst (x_d C_M_entry 39 rfl) ⟨by omega, by omega⟩ ?_
                refine x_goto (tgt := 120) (x_d C_M_entry 40 rfl) rfl ?_
                refine x_istore (l1 := [(5, xI (0)), (4, xI (A 44 (j + t).toNat)), (0, xC 42), (1, xC cp), (2, xI (k)), (3, xI (t))]) (x_d C_M_entry 60 rfl) (by decide) rfl ?_
                refine x_iload (x_d C_M_entry 61 rfl) rfl ?_
                refine x_if_ne (tgt := 129) (x_d C_M_entry 62 rfl) rfl (fun q => absurd q (by omega)) (fun _ => ?_)
                refine x_iconst (x_d C_M_entry 63 rfl) ⟨by omega, by omega⟩ ?_
                refine x_ireturn (x_d C_M_entry 64 rfl) ?_
                have hne : eg t.toNat (X ((f + j).toNat + t.toNat)) = false := by
                  rw [hXt]
                  unfold eg
                  (repeat' split) <;> first | (exfalso; omega) | exact decide_eq_false (by omega) | (rw [decide_eq_false (by omega), decide_eq_false (by omega)]; rfl) | (rcases hdg with ⟨a, _⟩ | ⟨_, a⟩; omega; exact a)
                refine ⟨0, rfl, Or.inl ⟨rfl, ?_, rfl⟩⟩
                cases hb : e_bad X (f + q 1345) (f + j) with
                | true => rfl
                | false =>
                  have := (e_eg hB (by omega) (by omega)).mp hb t.toNat (by omega)
                  rw [hne] at this
                  cases this
              · refine x_iconst (x_d C_M_entry 37 rfl) ⟨by omega, by omega⟩ ?_
                refine x_goto (tgt := 120) (x_d C_M_entry 38 rfl) rfl ?_
                refine x_istore (l1 := [(5, xI (1)), (4, xI (A 44 (j + t).toNat)), (0, xC 42), (1, xC cp), (2, xI (k)), (3, xI (t))]) (x_d C_M_entry 60 rfl) (by decide) rfl ?_
                refine x_iload (x_d C_M_entry 61 rfl) rfl ?_
                refine x_if_ne (tgt := 129) (x_d C_M_entry 62 rfl) rfl (fun _ => ?_) (fun q => absurd q (by omega))
                refine x_iinc (l1 := [(3, xI (t + 1)), (5, xI (1)), (4, xI (A 44 (j + t).toNat)), (0, xC 42), (1, xC cp), (2, xI (k))]) (x_d C_M_entry 65 rfl) rfl ⟨by omega, by omega⟩ (by decide) rfl ?_
                refine x_goto (tgt := 2) (x_d C_M_entry 66 rfl) rfl ?_
                refine x_locs [3, 4, 5, 0] rfl ?_
                have hne : eg t.toNat (X ((f + j).toNat + t.toNat)) = true := by
                  rw [hXt]
                  unfold eg
                  (repeat' split) <;> first | (exfalso; omega) | exact decide_eq_true (by omega) | (rw [decide_eq_true (show A 44 (j + t).toNat = 110 by omega)]; rfl) | (rw [decide_eq_true (show A 44 (j + t).toNat = 102 by omega), Bool.or_true]) | (rcases hdg with ⟨_, a⟩ | ⟨a, _⟩; exact a; omega)
                exact ih (t + 1) (by omega) (fun i hi => by by_cases e : (i : Int) = t; rw [show i = t.toNat by omega]; exact hne; exact he i (by omega))
      · refine x_iload_n (x_d C_M_entry 19 rfl) rfl ?_
        refine x_bipush (x_d C_M_entry 20 rfl) (by omega) ?_
        refine x_icmp_ge (tgt := 47) (x_d C_M_entry 21 rfl) rfl (fun c26 => ?_) (fun c26 => ?_)
        · refine x_iload_n (x_d C_M_entry 25 rfl) rfl ?_
          refine x_bipush (x_d C_M_entry 26 rfl) (by omega) ?_
          refine x_icmp_eq (tgt := 65) (x_d C_M_entry 27 rfl) rfl (fun c27 => ?_) (fun c27 => ?_)
          · refine x_iload (x_d C_M_entry 34 rfl) rfl ?_
            refine x_bipush (x_d C_M_entry 35 rfl) (by omega) ?_
            refine x_icmp_ne (tgt := 76) (x_d C_M_entry 36 rfl) rfl (fun c28 => ?_) (fun c28 => ?_)
            · refine x_iconst (x_d C_M_entry 39 rfl) ⟨by omega, by omega⟩ ?_
              refine x_goto (tgt := 120) (x_d C_M_entry 40 rfl) rfl ?_
              refine x_istore (l1 := [(5, xI (0)), (4, xI (A 44 (j + t).toNat)), (0, xC 42), (1, xC cp), (2, xI (k)), (3, xI (t))]) (x_d C_M_entry 60 rfl) (by decide) rfl ?_
              refine x_iload (x_d C_M_entry 61 rfl) rfl ?_
              refine x_if_ne (tgt := 129) (x_d C_M_entry 62 rfl) rfl (fun q => absurd q (by omega)) (fun _ => ?_)
              refine x_iconst (x_d C_M_entry 63 rfl) ⟨by omega, by omega⟩ ?_
              refine x_ireturn (x_d C_M_entry 64 rfl) ?_
              have hne : eg t.toNat (X ((f + j).toNat + t.toNat)) = false := by
                rw [hXt]
                unfold eg
                (repeat' split) <;> first | (exfalso; omega) | exact decide_eq_false (by omega) | (rw [decide_eq_false (by omega), decide_eq_false (by omega)]; rfl) | (rcases hdg with ⟨a, _⟩ | ⟨_, a⟩; omega; exact a)
              refine ⟨0, rfl, Or.inl ⟨rfl, ?_, rfl⟩⟩
              cases hb : e_bad X (f + q 1345) (f + j) with
              | true => rfl
              | false =>
                have := (e_eg hB (by omega) (by omega)).mp hb t.toNat (by omega)
                rw [hne] at this
                cases this
            · refine x_iconst (x_d C_M_entry 37 rfl) ⟨by omega, by omega⟩ ?_
              refine x_goto (tgt := 120) (x_d C_M_entry 38 rfl) rfl ?_
              refine x_istore (l1 := [(5, xI (1)), (4, xI (A 44 (j + t).toNat)), (0, xC 42), (1, xC cp), (2, xI (k)), (3, xI (t))]) (x_d C_M_entry 60 rfl) (by decide) rfl ?_
              refine x_iload (x_d C_M_entry 61 rfl) rfl ?_
              refine x_if_ne (tgt := 129) (x_d C_M_entry 62 rfl) rfl (fun _ => ?_) (fun q => absurd q (by omega))
              refine x_iinc (l1 := [(3, xI (t + 1)), (5, xI (1)), (4, xI (A 44 (j + t).toNat)), (0, xC 42), (1, xC cp), (2, xI (k))]) (x_d C_M_entry 65 rfl) rfl ⟨by omega, by omega⟩ (by decide) rfl ?_
              refine x_goto (tgt := 2) (x_d C_M_entry 66 rfl) rfl ?_
              refine x_locs [3, 4, 5, 0] rfl ?_
              have hne : eg t.toNat (X ((f + j).toNat + t.toNat)) = true := by
                rw [hXt]
                unfold eg
                (repeat' split) <;> first | (exfalso; omega) | exact decide_eq_true (by omega) | (rw [decide_eq_true (show A 44 (j + t).toNat = 110 by omega)]; rfl) | (rw [decide_eq_true (show A 44 (j + t).toNat = 102 by omega), Bool.or_true]) | (rcases hdg with ⟨_, a⟩ | ⟨a, _⟩; exact a; omega)
              exact ih (t + 1) (by omega) (fun i hi => by by_cases e : (i : Int) = t; rw [show i = t.toNat by omega]; exact hne; exact he i (by omega))
          · refine x_iload_n (x_d C_M_entry 28 rfl) rfl ?_
            refine x_bipush (x_d C_M_entry 29 rfl) (by omega) ?_
            refine x_icmp_eq (tgt := 65) (x_d C_M_entry 30 rfl) rfl (fun c31 => ?_) (fun c31 => ?_)
            · refine x_iload (x_d C_M_entry 34 rfl) rfl ?_
              refine x_bipush (x_d C_M_entry 35 rfl) (by omega) ?_
              refine x_icmp_ne (tgt := 76) (x_d C_M_entry 36 rfl) rfl (fun c32 => ?_) (fun c32 => ?_)
              · refine x_iconst (x_d C_M_entry 39 rfl) ⟨by omega, by omega⟩ ?_
                refine x_goto (tgt := 120) (x_d C_M_entry 40 rfl) rfl ?_
                refine x_istore (l1 := [(5, xI (0)), (4, xI (A 44 (j + t).toNat)), (0, xC 42), (1, xC cp), (2, xI (k)), (3, xI (t))]) (x_d C_M_entry 60 rfl) (by decide) rfl ?_
                refine x_iload (x_d C_M_entry 61 rfl) rfl ?_
                refine x_if_ne (tgt := 129) (x_d C_M_entry 62 rfl) rfl (fun q => absurd q (by omega)) (fun _ => ?_)
                refine x_iconst (x_d C_M_entry 63 rfl) ⟨by omega, by omega⟩ ?_
                refine x_ireturn (x_d C_M_entry 64 rfl) ?_
                have hne : eg t.toNat (X ((f + j).toNat + t.toNat)) = false := by
                  rw [hXt]
                  unfold eg
                  (repeat' split) <;> first | (exfalso; omega) | exact decide_eq_false (by omega) | (rw [decide_eq_false (by omega), decide_eq_false (by omega)]; rfl) | (rcases hdg with ⟨a, _⟩ | ⟨_, a⟩; omega; exact a)
                refine ⟨0, rfl, Or.inl ⟨rfl, ?_, rfl⟩⟩
                cases hb : e_bad X (f + q 1345) (f + j) with
                | true => rfl
                | false =>
                  have := (e_eg hB (by omega) (by omega)).mp hb t.toNat (by omega)
                  rw [hne] at this
                  cases this
              · refine x_iconst (x_d C_M_entry 37 rfl) ⟨by omega, by omega⟩ ?_
                refine x_goto (tgt := 120) (x_d C_M_entry 38 rfl) rfl ?_
                refine x_istore (l1 := [(5, xI (1)), (4, xI (A 44 (j + t).toNat)), (0, xC 42), (1, xC cp), (2, xI (k)), (3, xI (t))]) (x_d C_M_entry 60 rfl) (by decide) rfl ?_
                refine x_iload (x_d C_M_entry 61 rfl) rfl ?_
                refine x_if_ne (tgt := 129) (x_d C_M_entry 62 rfl) rfl (fun _ => ?_) (fun q => absurd q (by omega))
                refine x_iinc (l1 := [(3, xI (t + 1)), (5, xI (1)), (4, xI (A 44 (j + t).toNat)), (0, xC 42), (1, xC cp), (2, xI (k))]) (x_d C_M_entry 65 rfl) rfl ⟨by omega, by omega⟩ (by decide) rfl ?_
                refine x_goto (tgt := 2) (x_d C_M_entry 66 rfl) rfl ?_
                refine x_locs [3, 4, 5, 0] rfl ?_
                have hne : eg t.toNat (X ((f + j).toNat + t.toNat)) = true := by
                  rw [hXt]
                  unfold eg
                  (repeat' split) <;> first | (exfalso; omega) | exact decide_eq_true (by omega) | (rw [decide_eq_true (show A 44 (j + t).toNat = 110 by omega)]; rfl) | (rw [decide_eq_true (show A 44 (j + t).toNat = 102 by omega), Bool.or_true]) | (rcases hdg with ⟨_, a⟩ | ⟨a, _⟩; exact a; omega)
                exact ih (t + 1) (by omega) (fun i hi => by by_cases e : (i : Int) = t; rw [show i = t.toNat by omega]; exact hne; exact he i (by omega))
            · refine x_iload_n (x_d C_M_entry 31 rfl) rfl ?_
              refine x_bipush (x_d C_M_entry 32 rfl) (by omega) ?_
              refine x_icmp_ne (tgt := 80) (x_d C_M_entry 33 rfl) rfl (fun c35 => ?_) (fun c35 => ?_)
              · refine x_iload_n (x_d C_M_entry 41 rfl) rfl ?_
                refine x_bipush (x_d C_M_entry 42 rfl) (by omega) ?_
                refine x_icmp_ne (tgt := 108) (x_d C_M_entry 43 rfl) rfl (fun c36 => ?_) (fun c36 => ?_)
                · refine x_iload (x_d C_M_entry 54 rfl) rfl ?_
                  refine x_bipush (x_d C_M_entry 55 rfl) (by omega) ?_
                  refine x_icmp_ne (tgt := 119) (x_d C_M_entry 56 rfl) rfl (fun c37 => ?_) (fun c37 => ?_)
                  · refine x_iconst (x_d C_M_entry 59 rfl) ⟨by omega, by omega⟩ ?_
                    refine x_istore (l1 := [(5, xI (0)), (4, xI (A 44 (j + t).toNat)), (0, xC 42), (1, xC cp), (2, xI (k)), (3, xI (t))]) (x_d C_M_entry 60 rfl) (by decide) rfl ?_
                    refine x_iload (x_d C_M_entry 61 rfl) rfl ?_
                    refine x_if_ne (tgt := 129) (x_d C_M_entry 62 rfl) rfl (fun q => absurd q (by omega)) (fun _ => ?_)
                    refine x_iconst (x_d C_M_entry 63 rfl) ⟨by omega, by omega⟩ ?_
                    refine x_ireturn (x_d C_M_entry 64 rfl) ?_
                    have hne : eg t.toNat (X ((f + j).toNat + t.toNat)) = false := by
                      rw [hXt]
                      unfold eg
                      (repeat' split) <;> first | (exfalso; omega) | exact decide_eq_false (by omega) | (rw [decide_eq_false (by omega), decide_eq_false (by omega)]; rfl) | (rcases hdg with ⟨a, _⟩ | ⟨_, a⟩; omega; exact a)
                    refine ⟨0, rfl, Or.inl ⟨rfl, ?_, rfl⟩⟩
                    cases hb : e_bad X (f + q 1345) (f + j) with
                    | true => rfl
                    | false =>
                      have := (e_eg hB (by omega) (by omega)).mp hb t.toNat (by omega)
                      rw [hne] at this
                      cases this
                  · refine x_iconst (x_d C_M_entry 57 rfl) ⟨by omega, by omega⟩ ?_
                    refine x_goto (tgt := 120) (x_d C_M_entry 58 rfl) rfl ?_
                    refine x_istore (l1 := [(5, xI (1)), (4, xI (A 44 (j + t).toNat)), (0, xC 42), (1, xC cp), (2, xI (k)), (3, xI (t))]) (x_d C_M_entry 60 rfl) (by decide) rfl ?_
                    refine x_iload (x_d C_M_entry 61 rfl) rfl ?_
                    refine x_if_ne (tgt := 129) (x_d C_M_entry 62 rfl) rfl (fun _ => ?_) (fun q => absurd q (by omega))
                    refine x_iinc (l1 := [(3, xI (t + 1)), (5, xI (1)), (4, xI (A 44 (j + t).toNat)), (0, xC 42), (1, xC cp), (2, xI (k))]) (x_d C_M_entry 65 rfl) rfl ⟨by omega, by omega⟩ (by decide) rfl ?_
                    refine x_goto (tgt := 2) (x_d C_M_entry 66 rfl) rfl ?_
                    refine x_locs [3, 4, 5, 0] rfl ?_
                    have hne : eg t.toNat (X ((f + j).toNat + t.toNat)) = true := by
                      rw [hXt]
                      unfold eg
                      (repeat' split) <;> first | (exfalso; omega) | exact decide_eq_true (by omega) | (rw [decide_eq_true (show A 44 (j + t).toNat = 110 by omega)]; rfl) | (rw [decide_eq_true (show A 44 (j + t).toNat = 102 by omega), Bool.or_true]) | (rcases hdg with ⟨_, a⟩ | ⟨a, _⟩; exact a; omega)
                    exact ih (t + 1) (by omega) (fun i hi => by by_cases e : (i : Int) = t; rw [show i = t.toNat by omega]; exact hne; exact he i (by omega))
                · refine x_iload (x_d C_M_entry 44 rfl) rfl ?_
                  refine x_bipush (x_d C_M_entry 45 rfl) (by omega) ?_
                  refine x_icmp_eq (tgt := 100) (x_d C_M_entry 46 rfl) rfl (fun c40 => ?_) (fun c40 => ?_)
                  · refine x_iconst (x_d C_M_entry 50 rfl) ⟨by omega, by omega⟩ ?_
                    refine x_goto (tgt := 120) (x_d C_M_entry 51 rfl) rfl ?_
                    refine x_istore (l1 := [(5, xI (1)), (4, xI (A 44 (j + t).toNat)), (0, xC 42), (1, xC cp), (2, xI (k)), (3, xI (t))]) (x_d C_M_entry 60 rfl) (by decide) rfl ?_
                    refine x_iload (x_d C_M_entry 61 rfl) rfl ?_
                    refine x_if_ne (tgt := 129) (x_d C_M_entry 62 rfl) rfl (fun _ => ?_) (fun q => absurd q (by omega))
                    refine x_iinc (l1 := [(3, xI (t + 1)), (5, xI (1)), (4, xI (A 44 (j + t).toNat)), (0, xC 42), (1, xC cp), (2, xI (k))]) (x_d C_M_entry 65 rfl) rfl ⟨by omega, by omega⟩ (by decide) rfl ?_
                    refine x_goto (tgt := 2) (x_d C_M_entry 66 rfl) rfl ?_
                    refine x_locs [3, 4, 5, 0] rfl ?_
                    have hne : eg t.toNat (X ((f + j).toNat + t.toNat)) = true := by
                      rw [hXt]
                      unfold eg
                      (repeat' split) <;> first | (exfalso; omega) | exact decide_eq_true (by omega) | (rw [decide_eq_true (show A 44 (j + t).toNat = 110 by omega)]; rfl) | (rw [decide_eq_true (show A 44 (j + t).toNat = 102 by omega), Bool.or_true]) | (rcases hdg with ⟨_, a⟩ | ⟨a, _⟩; exact a; omega)
                    exact ih (t + 1) (by omega) (fun i hi => by by_cases e : (i : Int) = t; rw [show i = t.toNat by omega]; exact hne; exact he i (by omega))
                  · refine x_iload (x_d C_M_entry 47 rfl) rfl ?_
                    refine x_bipush (x_d C_M_entry 48 rfl) (by omega) ?_
                    refine x_icmp_ne (tgt := 104) (x_d C_M_entry 49 rfl) rfl (fun c42 => ?_) (fun c42 => ?_)
                    · refine x_iconst (x_d C_M_entry 52 rfl) ⟨by omega, by omega⟩ ?_
                      refine x_goto (tgt := 120) (x_d C_M_entry 53 rfl) rfl ?_
                      refine x_istore (l1 := [(5, xI (0)), (4, xI (A 44 (j + t).toNat)), (0, xC 42), (1, xC cp), (2, xI (k)), (3, xI (t))]) (x_d C_M_entry 60 rfl) (by decide) rfl ?_
                      refine x_iload (x_d C_M_entry 61 rfl) rfl ?_
                      refine x_if_ne (tgt := 129) (x_d C_M_entry 62 rfl) rfl (fun q => absurd q (by omega)) (fun _ => ?_)
                      refine x_iconst (x_d C_M_entry 63 rfl) ⟨by omega, by omega⟩ ?_
                      refine x_ireturn (x_d C_M_entry 64 rfl) ?_
                      have hne : eg t.toNat (X ((f + j).toNat + t.toNat)) = false := by
                        rw [hXt]
                        unfold eg
                        (repeat' split) <;> first | (exfalso; omega) | exact decide_eq_false (by omega) | (rw [decide_eq_false (by omega), decide_eq_false (by omega)]; rfl) | (rcases hdg with ⟨a, _⟩ | ⟨_, a⟩; omega; exact a)
                      refine ⟨0, rfl, Or.inl ⟨rfl, ?_, rfl⟩⟩
                      cases hb : e_bad X (f + q 1345) (f + j) with
                      | true => rfl
                      | false =>
                        have := (e_eg hB (by omega) (by omega)).mp hb t.toNat (by omega)
                        rw [hne] at this
                        cases this
                    · refine x_iconst (x_d C_M_entry 50 rfl) ⟨by omega, by omega⟩ ?_
                      refine x_goto (tgt := 120) (x_d C_M_entry 51 rfl) rfl ?_
                      refine x_istore (l1 := [(5, xI (1)), (4, xI (A 44 (j + t).toNat)), (0, xC 42), (1, xC cp), (2, xI (k)), (3, xI (t))]) (x_d C_M_entry 60 rfl) (by decide) rfl ?_
                      refine x_iload (x_d C_M_entry 61 rfl) rfl ?_
                      refine x_if_ne (tgt := 129) (x_d C_M_entry 62 rfl) rfl (fun _ => ?_) (fun q => absurd q (by omega))
                      refine x_iinc (l1 := [(3, xI (t + 1)), (5, xI (1)), (4, xI (A 44 (j + t).toNat)), (0, xC 42), (1, xC cp), (2, xI (k))]) (x_d C_M_entry 65 rfl) rfl ⟨by omega, by omega⟩ (by decide) rfl ?_
                      refine x_goto (tgt := 2) (x_d C_M_entry 66 rfl) rfl ?_
                      refine x_locs [3, 4, 5, 0] rfl ?_
                      have hne : eg t.toNat (X ((f + j).toNat + t.toNat)) = true := by
                        rw [hXt]
                        unfold eg
                        (repeat' split) <;> first | (exfalso; omega) | exact decide_eq_true (by omega) | (rw [decide_eq_true (show A 44 (j + t).toNat = 110 by omega)]; rfl) | (rw [decide_eq_true (show A 44 (j + t).toNat = 102 by omega), Bool.or_true]) | (rcases hdg with ⟨_, a⟩ | ⟨a, _⟩; exact a; omega)
                      exact ih (t + 1) (by omega) (fun i hi => by by_cases e : (i : Int) = t; rw [show i = t.toNat by omega]; exact hne; exact he i (by omega))
              · refine x_iload (x_d C_M_entry 34 rfl) rfl ?_
                refine x_bipush (x_d C_M_entry 35 rfl) (by omega) ?_
                refine x_icmp_ne (tgt := 76) (x_d C_M_entry 36 rfl) rfl (fun c45 => ?_) (fun c45 => ?_)
                · refine x_iconst (x_d C_M_entry 39 rfl) ⟨by omega, by omega⟩ ?_
                  refine x_goto (tgt := 120) (x_d C_M_entry 40 rfl) rfl ?_
                  refine x_istore (l1 := [(5, xI (0)), (4, xI (A 44 (j + t).toNat)), (0, xC 42), (1, xC cp), (2, xI (k)), (3, xI (t))]) (x_d C_M_entry 60 rfl) (by decide) rfl ?_
                  refine x_iload (x_d C_M_entry 61 rfl) rfl ?_
                  refine x_if_ne (tgt := 129) (x_d C_M_entry 62 rfl) rfl (fun q => absurd q (by omega)) (fun _ => ?_)
                  refine x_iconst (x_d C_M_entry 63 rfl) ⟨by omega, by omega⟩ ?_
                  refine x_ireturn (x_d C_M_entry 64 rfl) ?_
                  have hne : eg t.toNat (X ((f + j).toNat + t.toNat)) = false := by
                    rw [hXt]
                    unfold eg
                    (repeat' split) <;> first | (exfalso; omega) | exact decide_eq_false (by omega) | (rw [decide_eq_false (by omega), decide_eq_false (by omega)]; rfl) | (rcases hdg with ⟨a, _⟩ | ⟨_, a⟩; omega; exact a)
                  refine ⟨0, rfl, Or.inl ⟨rfl, ?_, rfl⟩⟩
                  cases hb : e_bad X (f + q 1345) (f + j) with
                  | true => rfl
                  | false =>
                    have := (e_eg hB (by omega) (by omega)).mp hb t.toNat (by omega)
                    rw [hne] at this
                    cases this
                · refine x_iconst (x_d C_M_entry 37 rfl) ⟨by omega, by omega⟩ ?_
                  refine x_goto (tgt := 120) (x_d C_M_entry 38 rfl) rfl ?_
                  refine x_istore (l1 := [(5, xI (1)), (4, xI (A 44 (j + t).toNat)), (0, xC 42), (1, xC cp), (2, xI (k)), (3, xI (t))]) (x_d C_M_entry 60 rfl) (by decide) rfl ?_
                  refine x_iload (x_d C_M_entry 61 rfl) rfl ?_
                  refine x_if_ne (tgt := 129) (x_d C_M_entry 62 rfl) rfl (fun _ => ?_) (fun q => absurd q (by omega))
                  refine x_iinc (l1 := [(3, xI (t + 1)), (5, xI (1)), (4, xI (A 44 (j + t).toNat)), (0, xC 42), (1, xC cp), (2, xI (k))]) (x_d C_M_entry 65 rfl) rfl ⟨by omega, by omega⟩ (by decide) rfl ?_
                  refine x_goto (tgt := 2) (x_d C_M_entry 66 rfl) rfl ?_
                  refine x_locs [3, 4, 5, 0] rfl ?_
                  have hne : eg t.toNat (X ((f + j).toNat + t.toNat)) = true := by
                    rw [hXt]
                    unfold eg
                    (repeat' split) <;> first | (exfalso; omega) | exact decide_eq_true (by omega) | (rw [decide_eq_true (show A 44 (j + t).toNat = 110 by omega)]; rfl) | (rw [decide_eq_true (show A 44 (j + t).toNat = 102 by omega), Bool.or_true]) | (rcases hdg with ⟨_, a⟩ | ⟨a, _⟩; exact a; omega)
                  exact ih (t + 1) (by omega) (fun i hi => by by_cases e : (i : Int) = t; rw [show i = t.toNat by omega]; exact hne; exact he i (by omega))
        · refine x_iload (x_d C_M_entry 22 rfl) rfl ?_
          refine x_invokestatic (st := []) (av := [xI (A 44 (j + t).toNat)]) (x_d C_M_entry 23 rfl) k_M_52 m_M_isDigit s_M_isDigit rfl (Nat.le_of_ble_eq_true rfl) (by omega) rfl (c_M_isDigit Z (d - 1) (hF (x_up q 1346 j) (x_up r 1344 (some 44)) A ++ dyn) (A 44 (j + t).toNat)) ?_
          rintro v_ h_ ⟨hv_, hh_⟩
          obtain rfl : v_ = some (xI (x_bo (s_dig (A 44 (j + t).toNat)))) := hv_
          rw [hh_]
          clear hh_
          refine x_goto (tgt := 120) (x_d C_M_entry 24 rfl) rfl ?_
          refine x_istore (l1 := [(5, xI (x_bo (s_dig (A 44 (j + t).toNat)))), (4, xI (A 44 (j + t).toNat)), (0, xC 42), (1, xC cp), (2, xI (k)), (3, xI (t))]) (x_d C_M_entry 60 rfl) (by decide) rfl ?_
          refine x_iload (x_d C_M_entry 61 rfl) rfl ?_
          refine x_if_ne (tgt := 129) (x_d C_M_entry 62 rfl) rfl (fun c48 => ?_) (fun c48 => ?_)
          · refine x_iinc (l1 := [(3, xI (t + 1)), (5, xI (x_bo (s_dig (A 44 (j + t).toNat)))), (4, xI (A 44 (j + t).toNat)), (0, xC 42), (1, xC cp), (2, xI (k))]) (x_d C_M_entry 65 rfl) rfl ⟨by omega, by omega⟩ (by decide) rfl ?_
            refine x_goto (tgt := 2) (x_d C_M_entry 66 rfl) rfl ?_
            refine x_locs [3, 4, 5, 0] rfl ?_
            have hne : eg t.toNat (X ((f + j).toNat + t.toNat)) = true := by
              rw [hXt]
              unfold eg
              (repeat' split) <;> first | (exfalso; omega) | exact decide_eq_true (by omega) | (rw [decide_eq_true (show A 44 (j + t).toNat = 110 by omega)]; rfl) | (rw [decide_eq_true (show A 44 (j + t).toNat = 102 by omega), Bool.or_true]) | (rcases hdg with ⟨_, a⟩ | ⟨a, _⟩; exact a; omega)
            exact ih (t + 1) (by omega) (fun i hi => by by_cases e : (i : Int) = t; rw [show i = t.toNat by omega]; exact hne; exact he i (by omega))
          · refine x_iconst (x_d C_M_entry 63 rfl) ⟨by omega, by omega⟩ ?_
            refine x_ireturn (x_d C_M_entry 64 rfl) ?_
            have hne : eg t.toNat (X ((f + j).toNat + t.toNat)) = false := by
              rw [hXt]
              unfold eg
              (repeat' split) <;> first | (exfalso; omega) | exact decide_eq_false (by omega) | (rw [decide_eq_false (by omega), decide_eq_false (by omega)]; rfl) | (rcases hdg with ⟨a, _⟩ | ⟨_, a⟩; omega; exact a)
            refine ⟨0, rfl, Or.inl ⟨rfl, ?_, rfl⟩⟩
            cases hb : e_bad X (f + q 1345) (f + j) with
            | true => rfl
            | false =>
              have := (e_eg hB (by omega) (by omega)).mp hb t.toNat (by omega)
              rw [hne] at this
              cases this
theorem w_M_entry_177 (Z : xZ) (d : Nat) (q : Nat → Int) (r : Nat → Option Nat) (A : Nat → Nat → Int) (dyn : xH) (hd : 2 ≤ d) (X : Nat → Int) (f j k : Int) (g : Nat → Option xE) (cp : Nat) (bt : Option Nat) (tb lt : Int) (tr : Option Nat) (sz : Int) (fis fge fpl : Nat → Int) (fva : Nat → Option Nat) (fch : Nat → Int) (hp : PB dyn cp bt tb lt tr sz fis fge fpl fva fch) (hnp : gnp g cp) (hgk : gok g dyn) (hf : 0 ≤ f) (hn : 0 ≤ q 1345 ∧ q 1345 ≤ 4000) (hX : ∀ k : Nat, (k : Int) < q 1345 → A 44 k = X (f.toNat + k)) (hB : ∀ k, -128 ≤ X k ∧ X k ≤ 127) (hj : 0 ≤ j ∧ j + 20 ≤ q 1345) (hk : 0 ≤ k ∧ k < 300) (Q : Option xV → xH → Prop) (hall : ∀ i, i < 10 → s_dig (X ((f + j).toNat + i)) = true) (kk : xW Z d Y_M_entry 214 [(0, xC 42), (1, xC cp), (2, xI k), (3, xJ (s_dv X 10 (f + j).toNat))] [] (hF (x_up q 1346 j) (x_up r 1344 (some 44)) A ++ dyn) Q) : ∀ (m : Nat) (t : Int), (0 ≤ t ∧ t + m = 10) → xW Z d Y_M_entry 177 [(0, xC 42), (1, xC cp), (2, xI k), (3, xJ (s_dv X t.toNat (f + j).toNat)), (5, xI t)] [] (hF (x_up q 1346 j) (x_up r 1344 (some 44)) A ++ dyn) Q := by
  have hXi : ∀ u : Int, 0 ≤ u → u < q 1345 → A 44 u.toNat = X (f + u).toNat := fun u h1 h2 => by rw [hX u.toNat (by omega)]; congr 1; omega
  intro m
  induction m with
  | zero =>
    intro t ht
    refine x_iload (x_d C_M_entry 92 rfl) rfl ?_
    refine x_bipush (x_d C_M_entry 93 rfl) (by omega) ?_
    refine x_icmp_ge (tgt := 214) (x_d C_M_entry 94 rfl) rfl (fun _ => ?_) (fun q => absurd q (by omega))
    refine x_locs [0, 1, 2, 3] rfl ?_
    rw [show t.toNat = 10 by omega]
    exact kk
  | succ m ih =>
    intro t ht
    have hxt := hXi (j + t)
    have hXt : X ((f + j).toNat + t.toNat) = A 44 (j + t).toNat := by rw [hxt (by omega) (by omega)]; congr 1; omega
    have hd9 := hall t.toNat (by omega)
    rw [hXt] at hd9
    unfold s_dig at hd9
    rw [Bool.and_eq_true, decide_eq_true_eq, decide_eq_true_eq] at hd9
    have hin := s_dv_in X t.toNat (f + j).toNat ((s_alld_iff X _ _).mpr (fun k hk => hall k (by omega)))
    have hpw : (10 : Int) ^ t.toNat ≤ 1000000000 := s_pow9 (by omega)
    have hsv : s_dv X (t + 1).toNat (f + j).toNat = 10 * s_dv X t.toNat (f + j).toNat + A 44 (j + t).toNat - 48 := by rw [show (t + 1).toNat = t.toNat + 1 by omega, ← hXt]; rfl
    refine x_iload (x_d C_M_entry 92 rfl) rfl ?_
    refine x_bipush (x_d C_M_entry 93 rfl) (by omega) ?_
    refine x_icmp_ge (tgt := 214) (x_d C_M_entry 94 rfl) rfl (fun q => absurd q (by omega)) (fun _ => ?_)
    refine x_ldc2 (n := 10) (x_d C_M_entry 95 rfl) lc_M_270 ⟨by omega, by omega⟩ ?_
    refine x_lload_n (x_d C_M_entry 96 rfl) rfl ?_
    refine x_lmul (x_d C_M_entry 97 rfl) ⟨by omega, by omega⟩ ?_
    refine x_aload_n (x_d C_M_entry 98 rfl) rfl ?_
    refine x_getfield (v := xC 44) (x_d C_M_entry 99 rfl) f_M_14 rfl rfl ?_
    refine x_aload_n (x_d C_M_entry 100 rfl) rfl ?_
    refine x_getfield (v := xI (j)) (x_d C_M_entry 101 rfl) f_M_7 rfl rfl ?_
    refine x_iload (x_d C_M_entry 102 rfl) rfl ?_
    refine x_iadd (x_d C_M_entry 103 rfl) ⟨by omega, by omega⟩ ?_
    refine x_baload (f := A 44) (x_d C_M_entry 104 rfl) rfl (by omega) (by omega) ?_
    refine x_i2l (x_d C_M_entry 105 rfl) ?_
    refine x_ladd (x_d C_M_entry 106 rfl) ⟨by omega, by omega⟩ ?_
    refine x_ldc2 (n := 48) (x_d C_M_entry 107 rfl) lc_M_272 ⟨by omega, by omega⟩ ?_
    refine x_lsub (x_d C_M_entry 108 rfl) ⟨by omega, by omega⟩ ?_
    refine x_lstore_n (l1 := [(3, xJ (((10 * (s_dv X t.toNat (f + j).toNat)) + (A 44 (j + t).toNat)) - 48)), (0, xC 42), (1, xC cp), (2, xI (k)), (5, xI (t))]) (x_d C_M_entry 109 rfl) (by decide) rfl ?_
    refine x_iinc (l1 := [(5, xI (t + 1)), (3, xJ (((10 * (s_dv X t.toNat (f + j).toNat)) + (A 44 (j + t).toNat)) - 48)), (0, xC 42), (1, xC cp), (2, xI (k))]) (x_d C_M_entry 110 rfl) rfl ⟨by omega, by omega⟩ (by decide) rfl ?_
    refine x_goto (tgt := 177) (x_d C_M_entry 111 rfl) rfl ?_
    refine x_locs [2, 3, 4, 1, 0] rfl ?_
    have := ih (t + 1) (by omega)
    rw [hsv] at this
    exact this
theorem c_M_entry (Z : xZ) (d : Nat) (q : Nat → Int) (r : Nat → Option Nat) (A : Nat → Nat → Int) (dyn : xH) (hd : 2 ≤ d) (X : Nat → Int) (f j k : Int) (g : Nat → Option xE) (cp : Nat) (bt : Option Nat) (tb lt : Int) (tr : Option Nat) (sz : Int) (fis fge fpl : Nat → Int) (fva : Nat → Option Nat) (fch : Nat → Int) (hp : PB dyn cp bt tb lt tr sz fis fge fpl fva fch) (hnp : gnp g cp) (hgk : gok g dyn) (hf : 0 ≤ f) (hn : 0 ≤ q 1345 ∧ q 1345 ≤ 4000) (hX : ∀ k : Nat, (k : Int) < q 1345 → A 44 k = X (f.toNat + k)) (hB : ∀ k, -128 ≤ X k ∧ X k ≤ 127) (hj : 0 ≤ j ∧ j + 20 ≤ q 1345) (hk : 0 ≤ k ∧ k < 300) : xMet Z d Y_M_entry [xC 42, xC cp, xI k] (hF (x_up q 1346 j) (x_up r 1344 (some 44)) A ++ dyn) (fun v h2 => ∃ z, v = some (xI z) ∧ ((z = 0 ∧ e_bad X (f + q 1345) (f + j) = true ∧ h2 = hF (x_up q 1346 j) (x_up r 1344 (some 44)) A ++ dyn) ∨ (z = 1 ∧ e_bad X (f + q 1345) (f + j) = false ∧ ∃ dyn2 fis2 fge2 fpl2, h2 = hF (x_up q 1346 (j + 20)) (x_up r 1344 (some 44)) A ++ dyn2 ∧ PB dyn2 cp bt tb lt tr sz fis2 fge2 fpl2 fva fch ∧ PS g dyn dyn2 ∧ ((fis k.toNat = 0 ∧ fis2 = x_up fis k.toNat (if 0 ≤ s_txt X (f + q 1345) (f + j + 16) [32, 110, 32, 10] then 2 else 1) ∧ fpl2 = x_up fpl k.toNat (s_dgs X (f + q 1345) (f + j) 10) ∧ fge2 = x_up fge k.toNat (s_dgs X (f + q 1345) (f + j + 11) 5)) ∨ (¬ fis k.toNat = 0 ∧ fis2 = fis ∧ fpl2 = fpl ∧ fge2 = fge))))) := by
  refine xMet_of (by decide) (Nat.le_of_ble_eq_true rfl) (fun v h2 hq => by obtain ⟨z, e, ⟨e2, _⟩ | ⟨e2, _⟩⟩ := hq <;> rw [e, e2]; exact Or.inl rfl; exact Or.inr rfl) ?_
  have hXi : ∀ u : Int, 0 ≤ u → u < q 1345 → A 44 u.toNat = X (f + u).toNat := fun u h1 h2 => by rw [hX u.toNat (by omega)]; congr 1; omega
  refine x_iconst (x_d C_M_entry 0 rfl) ⟨by omega, by omega⟩ ?_
  refine x_istore_n (l1 := [(3, xI (0)), (0, xC 42), (1, xC cp), (2, xI (k))]) (x_d C_M_entry 1 rfl) (by decide) rfl ?_
  refine x_locs [1, 2, 3, 0] rfl ?_
  refine w_M_entry_2 Z d q r A dyn hd X f j k g cp bt tb lt tr sz fis fge fpl fva fch hp hnp hgk hf hn hX hB hj hk (fun heg => ?_) 20 0 (by omega) (fun i hi => absurd hi (by omega))
  have hbd := (e_eg hB (n := (f + q 1345)) (i := f + j) (by omega) (by omega)).mpr heg
  have hen := e_n hB (n := (f + q 1345)) (i := f + j) (by omega) (by omega) hbd
  have hx17 : X ((f + j).toNat + 17) = A 44 (j + 17).toNat := by rw [hXi (j + 17) (by omega) (by omega)]; congr 1; omega
  rw [hx17] at hen
  have hall : ∀ i, i < 10 → s_dig (X ((f + j).toNat + i)) = true := fun i hi => by
    have := heg i (by omega)
    unfold eg at this
    rw [if_pos (Or.inl hi)] at this
    exact this
  have hd10 : s_dgs X (f + q 1345) (f + j) 10 = s_dv X 10 (f + j).toNat := by
    unfold s_dgs
    exact if_pos ⟨by omega, by omega, (s_alld_iff X _ _).mpr (fun i hi => hall i hi)⟩
  refine x_aload_n (x_d C_M_entry 67 rfl) rfl ?_
  refine x_getfield (v := xC (cp + 1)) (x_d C_M_entry 68 rfl) f_M_267 (ct_get hp.1 _ _ _) rfl ?_
  refine x_iload_n (x_d C_M_entry 69 rfl) rfl ?_
  refine x_iaload (f := fis) (x_d C_M_entry 70 rfl) (ct_get hp.2.1 _ _ _) (by omega) (by omega) ?_
  refine x_if_ne (tgt := 245) (x_d C_M_entry 71 rfl) rfl (fun c101 => ?_) (fun c101 => ?_)
  · refine x_aload_n (x_d C_M_entry 131 rfl) rfl ?_
    refine x_dup (x_d C_M_entry 132 rfl) rfl ?_
    refine x_getfield (v := xI (j)) (x_d C_M_entry 133 rfl) f_M_7 rfl rfl ?_
    refine x_bipush (x_d C_M_entry 134 rfl) (by omega) ?_
    refine x_iadd (x_d C_M_entry 135 rfl) ⟨by omega, by omega⟩ ?_
    refine x_putfield (h1 := hF (x_up q 1346 (j + 20)) (x_up r 1344 (some 44)) A ++ dyn) (x_d C_M_entry 136 rfl) p_M_7 rfl rfl rfl trivial rfl ?_
    refine x_iconst (x_d C_M_entry 137 rfl) ⟨by omega, by omega⟩ ?_
    refine x_ireturn (x_d C_M_entry 138 rfl) ?_
    exact ⟨1, rfl, Or.inr ⟨rfl, hbd, _, _, _, _, rfl, hp, ⟨hgk, fun _ _ => rfl, rfl⟩, Or.inr ⟨by omega, rfl, rfl, rfl⟩⟩⟩
  · refine x_aload_n (x_d C_M_entry 72 rfl) rfl ?_
    refine x_getfield (v := xC (cp + 1)) (x_d C_M_entry 73 rfl) f_M_267 (ct_get hp.1 _ _ _) rfl ?_
    refine x_iload_n (x_d C_M_entry 74 rfl) rfl ?_
    refine x_aload_n (x_d C_M_entry 75 rfl) rfl ?_
    refine x_getfield (v := xC 44) (x_d C_M_entry 76 rfl) f_M_14 rfl rfl ?_
    refine x_aload_n (x_d C_M_entry 77 rfl) rfl ?_
    refine x_getfield (v := xI (j)) (x_d C_M_entry 78 rfl) f_M_7 rfl rfl ?_
    refine x_bipush (x_d C_M_entry 79 rfl) (by omega) ?_
    refine x_iadd (x_d C_M_entry 80 rfl) ⟨by omega, by omega⟩ ?_
    refine x_baload (f := A 44) (x_d C_M_entry 81 rfl) rfl (by omega) (by omega) ?_
    refine x_bipush (x_d C_M_entry 82 rfl) (by omega) ?_
    refine x_icmp_ne (tgt := 170) (x_d C_M_entry 83 rfl) rfl (fun c102 => ?_) (fun c102 => ?_)
    · refine x_iconst (x_d C_M_entry 86 rfl) ⟨by omega, by omega⟩ ?_
      refine x_iastore (h1 := hF (x_up q 1346 j) (x_up r 1344 (some 44)) A ++ (dyn.set (cp + 1 - 52) (xA 0 301 (x_up fis (k).toNat 1)))) (x_d C_M_entry 87 rfl) (ct_get hp.2.1 _ _ _) (by omega) (by omega) (g_set (by have := hp.1.1; omega) _ _ _ _) ?_
      have hs_ := PB_fis hp hnp hgk (x_up fis (k).toNat 1)
      generalize dyn.set (cp + 1 - 52) (xA 0 301 (x_up fis (k).toNat 1)) = dn1 at hs_ ⊢
      obtain ⟨hp1, hs1⟩ := hs_
      have hgk1 := hs1.1
      refine x_lconst0 (x_d C_M_entry 88 rfl) ?_
      refine x_lstore_n (l1 := [(3, xJ (0)), (0, xC 42), (1, xC cp), (2, xI (k))]) (x_d C_M_entry 89 rfl) (by decide) rfl ?_
      refine x_iconst (x_d C_M_entry 90 rfl) ⟨by omega, by omega⟩ ?_
      refine x_istore (l1 := [(5, xI (0)), (3, xJ (0)), (0, xC 42), (1, xC cp), (2, xI (k))]) (x_d C_M_entry 91 rfl) (by decide) rfl ?_
      refine x_locs [2, 3, 4, 1, 0] rfl ?_
      refine w_M_entry_177 Z d q r A dn1 hd X f j k g cp bt tb lt tr sz (x_up fis (k).toNat 1) fge fpl fva fch hp1 hnp hgk1 hf hn hX hB hj hk _ hall ?_ 10 0 (by omega)
      refine x_aload_n (x_d C_M_entry 112 rfl) rfl ?_
      refine x_getfield (v := xC (cp + 3)) (x_d C_M_entry 113 rfl) f_M_274 (ct_get hp1.1 _ _ _) rfl ?_
      refine x_iload_n (x_d C_M_entry 114 rfl) rfl ?_
      refine x_lload_n (x_d C_M_entry 115 rfl) rfl ?_
      refine x_lastore (h1 := hF (x_up q 1346 j) (x_up r 1344 (some 44)) A ++ (dn1.set (cp + 3 - 52) (xA 3 301 (x_up fpl (k).toNat (s_dv X 10 (f + j).toNat))))) (x_d C_M_entry 116 rfl) (ct_get hp1.2.2.2.1 _ _ _) (by omega) (by omega) (g_set (by have := hp1.1.1; omega) _ _ _ _) ?_
      have hs_ := PB_fpl hp1 hnp hgk1 (x_up fpl (k).toNat (s_dv X 10 (f + j).toNat))
      generalize dn1.set (cp + 3 - 52) (xA 3 301 (x_up fpl (k).toNat (s_dv X 10 (f + j).toNat))) = dn2 at hs_ ⊢
      obtain ⟨hp2, hs2⟩ := hs_
      have hgk2 := hs2.1
      have hPS2 := PS_tr hs1 hs2
      refine x_aload_n (x_d C_M_entry 117 rfl) rfl ?_
      refine x_getfield (v := xC (cp + 2)) (x_d C_M_entry 118 rfl) f_M_278 (ct_get hp2.1 _ _ _) rfl ?_
      refine x_iload_n (x_d C_M_entry 119 rfl) rfl ?_
      refine x_aload_n (x_d C_M_entry 120 rfl) rfl ?_
      refine x_aload_n (x_d C_M_entry 121 rfl) rfl ?_
      refine x_getfield (v := xI (j)) (x_d C_M_entry 122 rfl) f_M_7 rfl rfl ?_
      refine x_bipush (x_d C_M_entry 123 rfl) (by omega) ?_
      refine x_iadd (x_d C_M_entry 124 rfl) ⟨by omega, by omega⟩ ?_
      refine x_aload_n (x_d C_M_entry 125 rfl) rfl ?_
      refine x_getfield (v := xI (j)) (x_d C_M_entry 126 rfl) f_M_7 rfl rfl ?_
      refine x_bipush (x_d C_M_entry 127 rfl) (by omega) ?_
      refine x_iadd (x_d C_M_entry 128 rfl) ⟨by omega, by omega⟩ ?_
      refine x_invokevirtual (st := [xI (k), xC (cp + 2)]) (av := [xI (j + 11), xI (j + 16)]) (x_d C_M_entry 129 rfl) k_M_55 m_M_numberOf v_M_numberOf cl_M rfl rfl (Nat.le_of_ble_eq_true rfl) (by omega) rfl (c_M_numberOf Z (d - 1) q r A dn2 (by omega) X f j (j + 11) (j + 16) hf hn hX (by omega)) ?_
      rintro v_ _ ⟨hv_, rfl⟩
      obtain rfl : v_ = some (xI (s_dgs X (f + q 1345) (f + j + 11) 5)) := by
        rw [hv_]
        unfold s_dgs
        rw [show j + 16 - (j + 11) = 5 by omega, show f + (j + 11) = f + j + 11 by omega]
        by_cases c : s_alld X (5 : Int).toNat (f + j + 11).toNat = true
        · rw [if_pos ⟨by omega, c⟩, if_pos ⟨by omega, by omega, c⟩]
        · rw [if_neg (fun z => c z.2), if_neg (fun z => c z.2.2)]
      refine x_iastore (h1 := hF (x_up q 1346 j) (x_up r 1344 (some 44)) A ++ (dn2.set (cp + 2 - 52) (xA 0 301 (x_up fge (k).toNat (s_dgs X (f + q 1345) (f + j + 11) 5))))) (x_d C_M_entry 130 rfl) (ct_get hp2.2.2.1 _ _ _) (by omega) (by omega) (g_set (by have := hp2.1.1; omega) _ _ _ _) ?_
      have hs_ := PB_fge hp2 hnp hgk2 (x_up fge (k).toNat (s_dgs X (f + q 1345) (f + j + 11) 5))
      generalize dn2.set (cp + 2 - 52) (xA 0 301 (x_up fge (k).toNat (s_dgs X (f + q 1345) (f + j + 11) 5))) = dn3 at hs_ ⊢
      obtain ⟨hp3, hs3⟩ := hs_
      have hgk3 := hs3.1
      have hPS3 := PS_tr hPS2 hs3
      refine x_aload_n (x_d C_M_entry 131 rfl) rfl ?_
      refine x_dup (x_d C_M_entry 132 rfl) rfl ?_
      refine x_getfield (v := xI (j)) (x_d C_M_entry 133 rfl) f_M_7 rfl rfl ?_
      refine x_bipush (x_d C_M_entry 134 rfl) (by omega) ?_
      refine x_iadd (x_d C_M_entry 135 rfl) ⟨by omega, by omega⟩ ?_
      refine x_putfield (h1 := hF (x_up q 1346 (j + 20)) (x_up r 1344 (some 44)) A ++ dn3) (x_d C_M_entry 136 rfl) p_M_7 rfl rfl rfl trivial rfl ?_
      refine x_iconst (x_d C_M_entry 137 rfl) ⟨by omega, by omega⟩ ?_
      refine x_ireturn (x_d C_M_entry 138 rfl) ?_
      refine ⟨1, rfl, Or.inr ⟨rfl, hbd, _, _, _, _, rfl, hp3, hPS3, Or.inl ⟨by omega, ?_, ?_, rfl⟩⟩⟩
      · rw [if_neg (fun z => by have := hen.mp z; omega)]
      · rw [hd10]
    · refine x_iconst (x_d C_M_entry 84 rfl) ⟨by omega, by omega⟩ ?_
      refine x_goto (tgt := 171) (x_d C_M_entry 85 rfl) rfl ?_
      refine x_iastore (h1 := hF (x_up q 1346 j) (x_up r 1344 (some 44)) A ++ (dyn.set (cp + 1 - 52) (xA 0 301 (x_up fis (k).toNat 2)))) (x_d C_M_entry 87 rfl) (ct_get hp.2.1 _ _ _) (by omega) (by omega) (g_set (by have := hp.1.1; omega) _ _ _ _) ?_
      have hs_ := PB_fis hp hnp hgk (x_up fis (k).toNat 2)
      generalize dyn.set (cp + 1 - 52) (xA 0 301 (x_up fis (k).toNat 2)) = dn1 at hs_ ⊢
      obtain ⟨hp1, hs1⟩ := hs_
      have hgk1 := hs1.1
      refine x_lconst0 (x_d C_M_entry 88 rfl) ?_
      refine x_lstore_n (l1 := [(3, xJ (0)), (0, xC 42), (1, xC cp), (2, xI (k))]) (x_d C_M_entry 89 rfl) (by decide) rfl ?_
      refine x_iconst (x_d C_M_entry 90 rfl) ⟨by omega, by omega⟩ ?_
      refine x_istore (l1 := [(5, xI (0)), (3, xJ (0)), (0, xC 42), (1, xC cp), (2, xI (k))]) (x_d C_M_entry 91 rfl) (by decide) rfl ?_
      refine x_locs [2, 3, 4, 1, 0] rfl ?_
      refine w_M_entry_177 Z d q r A dn1 hd X f j k g cp bt tb lt tr sz (x_up fis (k).toNat 2) fge fpl fva fch hp1 hnp hgk1 hf hn hX hB hj hk _ hall ?_ 10 0 (by omega)
      refine x_aload_n (x_d C_M_entry 112 rfl) rfl ?_
      refine x_getfield (v := xC (cp + 3)) (x_d C_M_entry 113 rfl) f_M_274 (ct_get hp1.1 _ _ _) rfl ?_
      refine x_iload_n (x_d C_M_entry 114 rfl) rfl ?_
      refine x_lload_n (x_d C_M_entry 115 rfl) rfl ?_
      refine x_lastore (h1 := hF (x_up q 1346 j) (x_up r 1344 (some 44)) A ++ (dn1.set (cp + 3 - 52) (xA 3 301 (x_up fpl (k).toNat (s_dv X 10 (f + j).toNat))))) (x_d C_M_entry 116 rfl) (ct_get hp1.2.2.2.1 _ _ _) (by omega) (by omega) (g_set (by have := hp1.1.1; omega) _ _ _ _) ?_
      have hs_ := PB_fpl hp1 hnp hgk1 (x_up fpl (k).toNat (s_dv X 10 (f + j).toNat))
      generalize dn1.set (cp + 3 - 52) (xA 3 301 (x_up fpl (k).toNat (s_dv X 10 (f + j).toNat))) = dn2 at hs_ ⊢
      obtain ⟨hp2, hs2⟩ := hs_
      have hgk2 := hs2.1
      have hPS2 := PS_tr hs1 hs2
      refine x_aload_n (x_d C_M_entry 117 rfl) rfl ?_
      refine x_getfield (v := xC (cp + 2)) (x_d C_M_entry 118 rfl) f_M_278 (ct_get hp2.1 _ _ _) rfl ?_
      refine x_iload_n (x_d C_M_entry 119 rfl) rfl ?_
      refine x_aload_n (x_d C_M_entry 120 rfl) rfl ?_
      refine x_aload_n (x_d C_M_entry 121 rfl) rfl ?_
      refine x_getfield (v := xI (j)) (x_d C_M_entry 122 rfl) f_M_7 rfl rfl ?_
      refine x_bipush (x_d C_M_entry 123 rfl) (by omega) ?_
      refine x_iadd (x_d C_M_entry 124 rfl) ⟨by omega, by omega⟩ ?_
      refine x_aload_n (x_d C_M_entry 125 rfl) rfl ?_
      refine x_getfield (v := xI (j)) (x_d C_M_entry 126 rfl) f_M_7 rfl rfl ?_
      refine x_bipush (x_d C_M_entry 127 rfl) (by omega) ?_
      refine x_iadd (x_d C_M_entry 128 rfl) ⟨by omega, by omega⟩ ?_
      refine x_invokevirtual (st := [xI (k), xC (cp + 2)]) (av := [xI (j + 11), xI (j + 16)]) (x_d C_M_entry 129 rfl) k_M_55 m_M_numberOf v_M_numberOf cl_M rfl rfl (Nat.le_of_ble_eq_true rfl) (by omega) rfl (c_M_numberOf Z (d - 1) q r A dn2 (by omega) X f j (j + 11) (j + 16) hf hn hX (by omega)) ?_
      rintro v_ _ ⟨hv_, rfl⟩
      obtain rfl : v_ = some (xI (s_dgs X (f + q 1345) (f + j + 11) 5)) := by
        rw [hv_]
        unfold s_dgs
        rw [show j + 16 - (j + 11) = 5 by omega, show f + (j + 11) = f + j + 11 by omega]
        by_cases c : s_alld X (5 : Int).toNat (f + j + 11).toNat = true
        · rw [if_pos ⟨by omega, c⟩, if_pos ⟨by omega, by omega, c⟩]
        · rw [if_neg (fun z => c z.2), if_neg (fun z => c z.2.2)]
      refine x_iastore (h1 := hF (x_up q 1346 j) (x_up r 1344 (some 44)) A ++ (dn2.set (cp + 2 - 52) (xA 0 301 (x_up fge (k).toNat (s_dgs X (f + q 1345) (f + j + 11) 5))))) (x_d C_M_entry 130 rfl) (ct_get hp2.2.2.1 _ _ _) (by omega) (by omega) (g_set (by have := hp2.1.1; omega) _ _ _ _) ?_
      have hs_ := PB_fge hp2 hnp hgk2 (x_up fge (k).toNat (s_dgs X (f + q 1345) (f + j + 11) 5))
      generalize dn2.set (cp + 2 - 52) (xA 0 301 (x_up fge (k).toNat (s_dgs X (f + q 1345) (f + j + 11) 5))) = dn3 at hs_ ⊢
      obtain ⟨hp3, hs3⟩ := hs_
      have hgk3 := hs3.1
      have hPS3 := PS_tr hPS2 hs3
      refine x_aload_n (x_d C_M_entry 131 rfl) rfl ?_
      refine x_dup (x_d C_M_entry 132 rfl) rfl ?_
      refine x_getfield (v := xI (j)) (x_d C_M_entry 133 rfl) f_M_7 rfl rfl ?_
      refine x_bipush (x_d C_M_entry 134 rfl) (by omega) ?_
      refine x_iadd (x_d C_M_entry 135 rfl) ⟨by omega, by omega⟩ ?_
      refine x_putfield (h1 := hF (x_up q 1346 (j + 20)) (x_up r 1344 (some 44)) A ++ dn3) (x_d C_M_entry 136 rfl) p_M_7 rfl rfl rfl trivial rfl ?_
      refine x_iconst (x_d C_M_entry 137 rfl) ⟨by omega, by omega⟩ ?_
      refine x_ireturn (x_d C_M_entry 138 rfl) ?_
      refine ⟨1, rfl, Or.inr ⟨rfl, hbd, _, _, _, _, rfl, hp3, hPS3, Or.inl ⟨by omega, ?_, ?_, rfl⟩⟩⟩
      · rw [if_pos (hen.mpr (by omega))]
      · rw [hd10]
