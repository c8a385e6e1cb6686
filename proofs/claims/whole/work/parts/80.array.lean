/-! the reference: reading arrays -/
theorem s_sc_id (p : Int → Bool) (b : Nat → Int) (n t : Int) : s_sc p b n (s_sc p b n t) = s_sc p b n t := by
  by_cases h0 : 0 ≤ t
  · rcases s_sc_fin (p := p) (b := b) (n := n) h0 with h | h
    · exact s_sc_stop (Or.inr (Or.inl h))
    · exact s_sc_stop (Or.inr (Or.inr h))
  · have e : s_sc p b n t = t := s_sc_stop (Or.inl (by omega))
    rw [e]
    exact e
theorem s_val_end (b : Nat → Int) (hB : ∀ j, -128 ≤ b j ∧ b j ≤ 127) (n : Int) (D : Nat) {i : Int} (h : n ≤ i) : s_val b n D i = none := by
  cases hx : s_val b n D i with
  | none => rfl
  | some x => exact absurd (s_val_ok b hB n D i x.1 x.2 hx) (fun z => by omega)
theorem s_val_hd {b : Nat → Int} (hB : ∀ j, -128 ≤ b j ∧ b j ≤ 127) {n i j : Int} {D : Nat} {ts : List tk} (h : s_val b n D i = some (ts, j)) : lnm ts 0 = -1 := by
  obtain ⟨-, -, -, h4, h5, -⟩ := s_val_ok b hB n D i ts j h
  cases ts with
  | nil => exact absurd h4.1 (by simp)
  | cons y l => exact (h5 y rfl).2
theorem orq_K {q : Nat → Int} {r : Nat → Option Nat} {A : Nat → Nat → Int} {dy : xH} {X : Nat → Int} {f : Int} {g : Nat → Option xE} {K K2 : Nat → Nat → Nat} {D : Nat} {spec : Option (List tk × Int)} {v : Option xV} {h : xH} (hk : ∀ u w, K u w ≤ K2 u w) (h1 : orq q r A dy X f g K D spec v h) : orq q r A dy X f g K2 D spec v h := by
  obtain ⟨j, tk, ny, a1, a2, a3, a4⟩ := h1
  exact ⟨j, tk, ny, a1, a2, fun u w => Nat.le_trans (a3 u w) (hk u w), a4⟩
theorem orq_fail {q : Nat → Int} {r : Nat → Option Nat} {A : Nat → Nat → Int} {dy ny : xH} {X : Nat → Int} {f : Int} {g : Nat → Option xE} {K : Nat → Nat → Nat} {D : Nat} {j : Int} {tk : Nat → Int} (hj : 0 ≤ j ∧ j ≤ q 1345) (hK : ∀ u w, mu u w ny ≤ K u w) : orq q r A dy X f g K D none (some xN) (hF (x_up q 1346 j) (x_up r 1344 (some 44)) (x_up A 43 tk) ++ (dy ++ ny)) :=
  ⟨j, tk, ny, rfl, hj, hK, Or.inl ⟨rfl, rfl⟩⟩
theorem w_M_array_115 (Z : xZ) (d : Nat) (q : Nat → Int) (r : Nat → Option Nat) (A : Nat → Nat → Int) (dy : xH) (D : Nat) (hD : D ≤ 8) (hd : 3 * D + 13 ≤ d) (X : Nat → Int) (f : Int) (g : Nat → Option xE) (K : Nat → Nat → Nat) (hf : 0 ≤ f) (hn : 0 ≤ q 1345 ∧ q 1345 ≤ 4000) (hX : ∀ k : Nat, (k : Int) < q 1345 → A 44 k = X (f.toNat + k)) (hB : ∀ k, -128 ≤ X k ∧ X k ≤ 127) (hrec : OD Z q r A X f D) (e : Int) (he : e = 7 - (D : Int)) (p : Nat) (j0 : Int) (tk0 : Nat → Int) (ny : xH) (ci cap : Nat) (fi : Nat → Option Nat) (gk : Nat → Option xE) (L : List Int) (acc ts : List tk) (c : Nat) (M : Nat → Nat → Nat) (Q : Option xV → xH → Prop) (hj : 0 ≤ j0 ∧ j0 ≤ q 1345) (hk : AS X (f + q 1345) dy g p (D + 1) ny ci cap fi gk L acc) (hlt : L.length < cap ∧ L.length < 60) (htr : Tr X (f + q 1345) gk (lP ts) (D + 1) 0 c) (hts : s_bh (lsp ts) 0 = ts.length ∧ 1 ≤ ts.length ∧ lnm ts 0 = -1) (hM : ∀ u w, mu u w ny = M u w) (kk : ∀ (j : Int) (tk : Nat → Int) (ny : xH), (0 ≤ j ∧ j ≤ q 1345) → j = s_sc s_white X (f + q 1345) (f + j0) - f → AS X (f + q 1345) dy g p (D + 1) ny ci cap (x_up fi L.length (some c)) gk (L ++ [1 + (acc.length : Int)]) (acc ++ ts) → (∀ u w, mu u w ny = M u w) → xW Z d Y_M_array 40 [(0, xC 42), (1, xI e), (2, xC p)] [] (hF (x_up q 1346 j) (x_up r 1344 (some 44)) (x_up A 43 tk) ++ (dy ++ ny)) Q) : xW Z d Y_M_array 115 [(0, xC 42), (1, xI e), (2, xC p), (3, xC c)] [] (hF (x_up q 1346 j0) (x_up r 1344 (some 44)) (x_up A 43 tk0) ++ (dy ++ ny)) Q := by
  have hk0 := hk
  obtain ⟨a1, a2, a3, a4, -⟩ := hk0
  obtain ⟨fs, hcc⟩ : ∃ fs, ct (dy ++ ny) c (xB 12 fs) := by
    obtain ⟨-, x, y, m, bt, it, nm, d1, -⟩ := htr
    exact ⟨_, a4 _ _ d1⟩
  refine x_aload_n (x_d C_M_array 61 rfl) rfl ?_
  refine x_getfield (v := xC ci) (x_d C_M_array 62 rfl) f_M_141 (ct_get a1 _ _ _) rfl ?_
  refine x_aload_n (x_d C_M_array 63 rfl) rfl ?_
  refine x_getfield (v := xI ((L.length : Int))) (x_d C_M_array 64 rfl) f_M_145 (ct_get a1 _ _ _) rfl ?_
  refine x_aload_n (x_d C_M_array 65 rfl) rfl ?_
  refine x_aastore4 (h1 := hF (x_up q 1346 j0) (x_up r 1344 (some 44)) (x_up A 43 tk0) ++ (dy ++ (ny.set (ci - (52 + dy.length)) (xQ 4 cap (x_up fi L.length (some c)))))) (x_d C_M_array 66 rfl) (ct_get a2 _ _ _) (ct_get hcc _ _ _) (by omega) (by omega) (by rw [show ((L.length : Nat) : Int).toNat = L.length by omega]; exact g_setd a3.2.1 _ _ _ _) ?_
  have b1 := ct_setdn (e2 := xQ 4 cap (x_up fi L.length (some c))) a1 a3.2.2 a3.2.1
  refine x_aload_n (x_d C_M_array 67 rfl) rfl ?_
  refine x_dup (x_d C_M_array 68 rfl) rfl ?_
  refine x_getfield (v := xI ((L.length : Int))) (x_d C_M_array 69 rfl) f_M_145 (ct_get b1 _ _ _) rfl ?_
  refine x_iconst (x_d C_M_array 70 rfl) ⟨by omega, by omega⟩ ?_
  refine x_iadd (x_d C_M_array 71 rfl) ⟨by omega, by omega⟩ ?_
  have hlen2 : ((L ++ [1 + (acc.length : Int)]).length : Int) = (L.length : Int) + 1 := by rw [List.length_append]; rfl
  refine x_putfield (h1 := hF (x_up q 1346 j0) (x_up r 1344 (some 44)) (x_up A 43 tk0) ++ (dy ++ ((ny.set (ci - (52 + dy.length)) (xQ 4 cap (x_up fi L.length (some c)))).set (p - (52 + dy.length)) (xB 12 [xI 6, xI 0, xI 0, xI ((L ++ [1 + (acc.length : Int)]).length : Int), xN, xC ci, xN])))) (x_d C_M_array 72 rfl) p_M_145 (ct_get b1 _ _ _) rfl rfl trivial (by rw [← hlen2]; exact g_setd a3.1 _ _ _ _) ?_
  have hst := AS_store hk hlt.1 hlt.2 htr hts.1 hts.2.1 hts.2.2
  have hmu : ∀ u w, mu u w ((ny.set (ci - (52 + dy.length)) (xQ 4 cap (x_up fi L.length (some c)))).set (p - (52 + dy.length)) (xB 12 [xI 6, xI 0, xI 0, xI ((L ++ [1 + (acc.length : Int)]).length : Int), xN, xC ci, xN])) = M u w := fun u w => by rw [mu_setd u w (e2 := xB 12 [xI 6, xI 0, xI 0, xI ((L ++ [1 + (acc.length : Int)]).length : Int), xN, xC ci, xN]) b1 a3.1 rfl, mu_setd u w (e2 := xQ 4 cap (x_up fi L.length (some c))) a2 a3.2.1 rfl]; exact hM u w
  generalize hny2 : ((ny.set (ci - (52 + dy.length)) (xQ 4 cap (x_up fi L.length (some c)))).set (p - (52 + dy.length)) (xB 12 [xI 6, xI 0, xI 0, xI ((L ++ [1 + (acc.length : Int)]).length : Int), xN, xC ci, xN])) = ny2 at hst hmu ⊢
  refine x_aload_n (x_d C_M_array 73 rfl) rfl ?_
  refine x_invokevirtual (st := []) (av := []) (x_d C_M_array 74 rfl) k_M_59 m_M_white v_M_white cl_M rfl rfl (Nat.le_of_ble_eq_true rfl) (by omega) rfl (c_M_white Z (d - 1) q r (x_up A 43 tk0) (dy ++ ny2) (by omega) X f j0 hf hn hX (by omega)) ?_
  rintro _ h_ ⟨rfl, hh_⟩
  obtain ⟨j1, hj1⟩ : ∃ z, z = s_sc s_white X (f + q 1345) (f + j0) - f := ⟨_, rfl⟩
  rw [← hj1] at hh_
  subst hh_
  have hj1a := s_sc_ge s_white X (f + q 1345) (f + j0)
  have hj1b := s_sc_le s_white X (n := (f + q 1345)) (t := f + j0) (by omega)
  refine x_goto (tgt := 40) (x_d C_M_array 75 rfl) rfl ?_
  refine x_locs [0, 1, 2] rfl ?_
  exact kk j1 tk0 ny2 (by omega) hj1 hst hmu
theorem w_M_array_40 (Z : xZ) (d : Nat) (q : Nat → Int) (r : Nat → Option Nat) (A : Nat → Nat → Int) (dy : xH) (D : Nat) (hD : D ≤ 8) (hd : 3 * D + 13 ≤ d) (X : Nat → Int) (f : Int) (g : Nat → Option xE) (K : Nat → Nat → Nat) (hf : 0 ≤ f) (hn : 0 ≤ q 1345 ∧ q 1345 ≤ 4000) (hX : ∀ k : Nat, (k : Int) < q 1345 → A 44 k = X (f.toNat + k)) (hB : ∀ k, -128 ≤ X k ∧ X k ≤ 127) (hrec : OD Z q r A X f D) (e : Int) (he : e = 7 - (D : Int)) (p : Nat) : ∀ (m : Nat) (j : Int) (tz : Nat → Int) (ny : xH) (ci cap : Nat) (fi : Nat → Option Nat) (gk : Nat → Option xE) (L : List Int) (acc : List tk), L.length + m = 60 → (0 ≤ j ∧ j ≤ q 1345) → s_sc s_white X (f + q 1345) (f + j) = f + j → AS X (f + q 1345) dy g p (D + 1) ny ci cap fi gk L acc → (∀ u w, mu u w ny + k_its (s_val X (f + q 1345) D) (k_val u w X (f + q 1345) D) u w X (f + q 1345) m L.length (f + j) ≤ K u w) → xW Z d Y_M_array 40 [(0, xC 42), (1, xI e), (2, xC p)] [] (hF (x_up q 1346 j) (x_up r 1344 (some 44)) (x_up A 43 tz) ++ (dy ++ ny)) (orq q r A dy X f g K (D + 2) (s_bx 6 acc (s_items (s_val X (f + q 1345) D) X (f + q 1345) m (f + j)))) := by
  have hXi : ∀ u : Int, 0 ≤ u → u < q 1345 → A 44 u.toNat = X (f + u).toNat := fun u h1 h2 => by rw [hX u.toNat (by omega)]; congr 1; omega
  intro m
  induction m with
  | zero =>
    intro j tz ny ci cap fi gk L acc hm hj hwh hk hmu
    have hk0 := hk
    obtain ⟨a1, a2, a3, a4, a5, a6, a7, a8, a9, a10, a11, a12, a13⟩ := hk0
    have xj := hXi j
    have bj := s_byte_in X (f + q 1345) (f + j)
    have Bj := hB (f + j).toNat
    have hend : ¬ j < q 1345 → s_val X (f + q 1345) D (f + j) = none := fun h => s_val_end X hB _ D (by omega)
    refine x_aload_n (x_d C_M_array 22 rfl) rfl ?_
    refine x_getfield (v := xI (j)) (x_d C_M_array 23 rfl) f_M_7 rfl rfl ?_
    refine x_aload_n (x_d C_M_array 24 rfl) rfl ?_
    refine x_getfield (v := xI (q 1345)) (x_d C_M_array 25 rfl) f_M_11 rfl rfl ?_
    refine x_icmp_ge (tgt := 142) (x_d C_M_array 26 rfl) rfl (fun c1 => ?_) (fun c1 => ?_)
    · refine x_aload_n (x_d C_M_array 76 rfl) rfl ?_
      refine x_bipush (x_d C_M_array 77 rfl) (by omega) ?_
      refine x_invokevirtual (st := []) (av := [xI (93)]) (x_d C_M_array 78 rfl) k_M_132 m_M_takeByte v_M_takeByte cl_M rfl rfl (Nat.le_of_ble_eq_true rfl) (by omega) rfl (c_M_takeByte Z (d - 1) q r (x_up A 43 tz) (dy ++ ny) X f j 93 hf hn hX (by omega) hB (by omega)) ?_
      rintro v_ _ ⟨z2, j2, rfl, rfl, hz2⟩
      have hz2 : (z2 = 1 ∧ s_byte X (f + q 1345) (f + j) = 93 ∧ j2 = j + 1 ∧ j < q 1345) ∨ (z2 = 0 ∧ ¬ s_byte X (f + q 1345) (f + j) = 93 ∧ j2 = j) := hz2
      refine x_if_eq (tgt := 155) (x_d C_M_array 79 rfl) rfl (fun c3 => ?_) (fun c3 => ?_)
      · refine x_null (x_d C_M_array 82 rfl) ?_
        refine x_areturn (x_d C_M_array 83 rfl) ?_
        have e0 : s_items (s_val X (f + q 1345) D) X (f + q 1345) 0 (f + j) = none := by
          exact s_items_0 (by omega)
        rw [e0, s_bx_none]
        exact orq_fail (by omega) (fun u w => by have := hmu u w; omega)
      · refine x_aload_n (x_d C_M_array 80 rfl) rfl ?_
        refine x_goto (tgt := 156) (x_d C_M_array 81 rfl) rfl ?_
        refine x_areturn (x_d C_M_array 83 rfl) ?_
        rw [s_items_end (by omega)]
        exact AS_done hk (by omega) (fun u w => by have := hmu u w; omega) (by omega)
    · refine x_aload_n (x_d C_M_array 27 rfl) rfl ?_
      refine x_getfield (v := xC 44) (x_d C_M_array 28 rfl) f_M_14 rfl rfl ?_
      refine x_aload_n (x_d C_M_array 29 rfl) rfl ?_
      refine x_getfield (v := xI (j)) (x_d C_M_array 30 rfl) f_M_7 rfl rfl ?_
      refine x_baload (f := A 44) (x_d C_M_array 31 rfl) rfl (by omega) (by omega) ?_
      refine x_bipush (x_d C_M_array 32 rfl) (by omega) ?_
      refine x_icmp_eq (tgt := 142) (x_d C_M_array 33 rfl) rfl (fun c4 => ?_) (fun c4 => ?_)
      · refine x_aload_n (x_d C_M_array 76 rfl) rfl ?_
        refine x_bipush (x_d C_M_array 77 rfl) (by omega) ?_
        refine x_invokevirtual (st := []) (av := [xI (93)]) (x_d C_M_array 78 rfl) k_M_132 m_M_takeByte v_M_takeByte cl_M rfl rfl (Nat.le_of_ble_eq_true rfl) (by omega) rfl (c_M_takeByte Z (d - 1) q r (x_up A 43 tz) (dy ++ ny) X f j 93 hf hn hX (by omega) hB (by omega)) ?_
        rintro v_ _ ⟨z5, j5, rfl, rfl, hz5⟩
        have hz5 : (z5 = 1 ∧ s_byte X (f + q 1345) (f + j) = 93 ∧ j5 = j + 1 ∧ j < q 1345) ∨ (z5 = 0 ∧ ¬ s_byte X (f + q 1345) (f + j) = 93 ∧ j5 = j) := hz5
        refine x_if_eq (tgt := 155) (x_d C_M_array 79 rfl) rfl (fun c6 => ?_) (fun c6 => ?_)
        · refine x_null (x_d C_M_array 82 rfl) ?_
          refine x_areturn (x_d C_M_array 83 rfl) ?_
          have e0 : s_items (s_val X (f + q 1345) D) X (f + q 1345) 0 (f + j) = none := by
            exact s_items_0 (by omega)
          rw [e0, s_bx_none]
          exact orq_fail (by omega) (fun u w => by have := hmu u w; omega)
        · refine x_aload_n (x_d C_M_array 80 rfl) rfl ?_
          refine x_goto (tgt := 156) (x_d C_M_array 81 rfl) rfl ?_
          refine x_areturn (x_d C_M_array 83 rfl) ?_
          rw [s_items_end (by omega)]
          exact AS_done hk (by omega) (fun u w => by have := hmu u w; omega) (by omega)
      · refine x_aload_n (x_d C_M_array 34 rfl) rfl ?_
        refine x_getfield (v := xI ((L.length : Int))) (x_d C_M_array 35 rfl) f_M_145 (ct_get a1 _ _ _) rfl ?_
        refine x_bipush (x_d C_M_array 36 rfl) (by omega) ?_
        refine x_icmp_ne (tgt := 78) (x_d C_M_array 37 rfl) rfl (fun q => absurd q (by omega)) (fun _ => ?_)
        refine x_null (x_d C_M_array 38 rfl) ?_
        refine x_goto (tgt := 85) (x_d C_M_array 39 rfl) rfl ?_
        refine x_astore_n (l1 := [(3, xN), (0, xC 42), (1, xI (e)), (2, xC p)]) (x_d C_M_array 45 rfl) (by decide) rfl ?_
        refine x_aload_n (x_d C_M_array 46 rfl) rfl ?_
        refine x_ifnonnullN (tgt := 92) (x_d C_M_array 47 rfl) rfl ?_
        refine x_null (x_d C_M_array 48 rfl) ?_
        refine x_areturn (x_d C_M_array 49 rfl) ?_
        rw [s_items_0 (by omega), s_bx_none]
        exact orq_fail (by omega) (fun u w => by have := hmu u w; omega)
  | succ m ih =>
    intro j tz ny ci cap fi gk L acc hm hj hwh hk hmu
    have hk0 := hk
    obtain ⟨a1, a2, a3, a4, a5, a6, a7, a8, a9, a10, a11, a12, a13⟩ := hk0
    have xj := hXi j
    have bj := s_byte_in X (f + q 1345) (f + j)
    have Bj := hB (f + j).toNat
    have hend : ¬ j < q 1345 → s_val X (f + q 1345) D (f + j) = none := fun h => s_val_end X hB _ D (by omega)
    refine x_aload_n (x_d C_M_array 22 rfl) rfl ?_
    refine x_getfield (v := xI (j)) (x_d C_M_array 23 rfl) f_M_7 rfl rfl ?_
    refine x_aload_n (x_d C_M_array 24 rfl) rfl ?_
    refine x_getfield (v := xI (q 1345)) (x_d C_M_array 25 rfl) f_M_11 rfl rfl ?_
    refine x_icmp_ge (tgt := 142) (x_d C_M_array 26 rfl) rfl (fun c1 => ?_) (fun c1 => ?_)
    · refine x_aload_n (x_d C_M_array 76 rfl) rfl ?_
      refine x_bipush (x_d C_M_array 77 rfl) (by omega) ?_
      refine x_invokevirtual (st := []) (av := [xI (93)]) (x_d C_M_array 78 rfl) k_M_132 m_M_takeByte v_M_takeByte cl_M rfl rfl (Nat.le_of_ble_eq_true rfl) (by omega) rfl (c_M_takeByte Z (d - 1) q r (x_up A 43 tz) (dy ++ ny) X f j 93 hf hn hX (by omega) hB (by omega)) ?_
      rintro v_ _ ⟨z2, j2, rfl, rfl, hz2⟩
      have hz2 : (z2 = 1 ∧ s_byte X (f + q 1345) (f + j) = 93 ∧ j2 = j + 1 ∧ j < q 1345) ∨ (z2 = 0 ∧ ¬ s_byte X (f + q 1345) (f + j) = 93 ∧ j2 = j) := hz2
      refine x_if_eq (tgt := 155) (x_d C_M_array 79 rfl) rfl (fun c3 => ?_) (fun c3 => ?_)
      · refine x_null (x_d C_M_array 82 rfl) ?_
        refine x_areturn (x_d C_M_array 83 rfl) ?_
        have e0 : s_items (s_val X (f + q 1345) D) X (f + q 1345) (m + 1) (f + j) = none := by
          rw [s_items_s (by omega), hend (by omega)]; rfl
        rw [e0, s_bx_none]
        exact orq_fail (by omega) (fun u w => by have := hmu u w; omega)
      · refine x_aload_n (x_d C_M_array 80 rfl) rfl ?_
        refine x_goto (tgt := 156) (x_d C_M_array 81 rfl) rfl ?_
        refine x_areturn (x_d C_M_array 83 rfl) ?_
        rw [s_items_end (by omega)]
        exact AS_done hk (by omega) (fun u w => by have := hmu u w; omega) (by omega)
    · refine x_aload_n (x_d C_M_array 27 rfl) rfl ?_
      refine x_getfield (v := xC 44) (x_d C_M_array 28 rfl) f_M_14 rfl rfl ?_
      refine x_aload_n (x_d C_M_array 29 rfl) rfl ?_
      refine x_getfield (v := xI (j)) (x_d C_M_array 30 rfl) f_M_7 rfl rfl ?_
      refine x_baload (f := A 44) (x_d C_M_array 31 rfl) rfl (by omega) (by omega) ?_
      refine x_bipush (x_d C_M_array 32 rfl) (by omega) ?_
      refine x_icmp_eq (tgt := 142) (x_d C_M_array 33 rfl) rfl (fun c4 => ?_) (fun c4 => ?_)
      · refine x_aload_n (x_d C_M_array 76 rfl) rfl ?_
        refine x_bipush (x_d C_M_array 77 rfl) (by omega) ?_
        refine x_invokevirtual (st := []) (av := [xI (93)]) (x_d C_M_array 78 rfl) k_M_132 m_M_takeByte v_M_takeByte cl_M rfl rfl (Nat.le_of_ble_eq_true rfl) (by omega) rfl (c_M_takeByte Z (d - 1) q r (x_up A 43 tz) (dy ++ ny) X f j 93 hf hn hX (by omega) hB (by omega)) ?_
        rintro v_ _ ⟨z5, j5, rfl, rfl, hz5⟩
        have hz5 : (z5 = 1 ∧ s_byte X (f + q 1345) (f + j) = 93 ∧ j5 = j + 1 ∧ j < q 1345) ∨ (z5 = 0 ∧ ¬ s_byte X (f + q 1345) (f + j) = 93 ∧ j5 = j) := hz5
        refine x_if_eq (tgt := 155) (x_d C_M_array 79 rfl) rfl (fun c6 => ?_) (fun c6 => ?_)
        · refine x_null (x_d C_M_array 82 rfl) ?_
          refine x_areturn (x_d C_M_array 83 rfl) ?_
          have e0 : s_items (s_val X (f + q 1345) D) X (f + q 1345) (m + 1) (f + j) = none := by
            rw [s_items_s (by omega), hend (by omega)]; rfl
          rw [e0, s_bx_none]
          exact orq_fail (by omega) (fun u w => by have := hmu u w; omega)
        · refine x_aload_n (x_d C_M_array 80 rfl) rfl ?_
          refine x_goto (tgt := 156) (x_d C_M_array 81 rfl) rfl ?_
          refine x_areturn (x_d C_M_array 83 rfl) ?_
          rw [s_items_end (by omega)]
          exact AS_done hk (by omega) (fun u w => by have := hmu u w; omega) (by omega)
      · refine x_aload_n (x_d C_M_array 34 rfl) rfl ?_
        refine x_getfield (v := xI ((L.length : Int))) (x_d C_M_array 35 rfl) f_M_145 (ct_get a1 _ _ _) rfl ?_
        refine x_bipush (x_d C_M_array 36 rfl) (by omega) ?_
        refine x_icmp_ne (tgt := 78) (x_d C_M_array 37 rfl) rfl (fun _ => ?_) (fun q => absurd q (by omega))
        refine x_aload_n (x_d C_M_array 40 rfl) rfl ?_
        refine x_iload_n (x_d C_M_array 41 rfl) rfl ?_
        refine x_iconst (x_d C_M_array 42 rfl) ⟨by omega, by omega⟩ ?_
        refine x_iadd (x_d C_M_array 43 rfl) ⟨by omega, by omega⟩ ?_
        refine x_invokevirtual (st := []) (av := [xI (e + 1)]) (x_d C_M_array 44 rfl) k_M_148 m_M_object v_M_object cl_M rfl rfl (Nat.le_of_ble_eq_true rfl) (by omega) rfl (hrec (d - 1) (dy ++ ny) gk j tz (e + 1) (by omega) a4 (by omega) hj) ?_
        have hws : s_sc s_white X (f + q 1345) (f + j) = f + j := hwh
        rw [hws]
        rintro v_ h_ ⟨j2, tk2, ny2, rfl, hj2, hmu2, hr_⟩
        have hmu2 : ∀ u w, mu u w ny2 ≤ k_val u w X (f + q 1345) D (f + j) := hmu2
        have hkit : ∀ u w, k_its (s_val X (f + q 1345) D) (k_val u w X (f + q 1345) D) u w X (f + q 1345) (m + 1) L.length (f + j) = k_val u w X (f + q 1345) D (f + j) + ((s_val X (f + q 1345) D (f + j)).map (fun x => k_gr u w 1 L.length + k_its (s_val X (f + q 1345) D) (k_val u w X (f + q 1345) D) u w X (f + q 1345) m (L.length + 1) (s_sc s_white X (f + q 1345) x.2))).getD 0 := fun u w => by
          conv => lhs; unfold k_its
          rw [if_neg (by omega)]
        have hmu := fun u w => (hkit u w) ▸ hmu u w
        rw [s_items_s (by omega)]
        rw [List.append_assoc]
        have hmuA := fun u w => mu_app u w ny ny2
        rcases hr_ with ⟨hs, rfl⟩ | ⟨ts, e2, c, g2, hs, rfl, he2, q1, q2, q3, q4, -⟩
        · rw [hs, Option.bind_none, s_bx_none]
          refine x_astore_n (l1 := [(3, xN), (0, xC 42), (1, xI (e)), (2, xC p)]) (x_d C_M_array 45 rfl) (by decide) rfl ?_
          refine x_aload_n (x_d C_M_array 46 rfl) rfl ?_
          refine x_ifnonnullN (tgt := 92) (x_d C_M_array 47 rfl) rfl ?_
          refine x_null (x_d C_M_array 48 rfl) ?_
          refine x_areturn (x_d C_M_array 49 rfl) ?_
          exact orq_fail hj2 (fun u w => by have a1 := hmu u w; have a2 := hmu2 u w; have a3 := hmuA u w; omega)
        · have hk2 := AS_obj hk q1 q2 q3
          have hts := s_bh_0 hB hs
          have hnm := s_val_hd hB hs
          have hok := s_val_ok X hB _ D _ ts e2 hs
          have hk3 := hk2
          obtain ⟨b1, b2, b3, b4, -, -, -, -, -, -, b11, b12, -⟩ := hk3
          rw [hs] at hmu ⊢
          rw [Option.bind_some, s_bx_more]
          have hgr : L.length = cap → ∀ u w, k_gr u w 1 L.length = u + 2 * cap * w := fun h u w => by unfold k_gr; rw [if_pos (by omega), h, Nat.one_mul]
          have hmu3 : ∀ u w, mu u w ny + (k_val u w X (f + q 1345) D (f + j) + (k_gr u w 1 L.length + k_its (s_val X (f + q 1345) D) (k_val u w X (f + q 1345) D) u w X (f + q 1345) m (L.length + 1) (s_sc s_white X (f + q 1345) e2))) ≤ K u w := hmu
          refine x_astore_n (l1 := [(3, xC c), (0, xC 42), (1, xI (e)), (2, xC p)]) (x_d C_M_array 45 rfl) (by decide) rfl ?_
          refine x_aload_n (x_d C_M_array 46 rfl) rfl ?_
          refine x_ifnonnullC (tgt := 92) (x_d C_M_array 47 rfl) rfl ?_
          refine x_aload_n (x_d C_M_array 50 rfl) rfl ?_
          refine x_getfield (v := xI ((L.length : Int))) (x_d C_M_array 51 rfl) f_M_145 (ct_get b1 _ _ _) rfl ?_
          refine x_aload_n (x_d C_M_array 52 rfl) rfl ?_
          refine x_getfield (v := xC ci) (x_d C_M_array 53 rfl) f_M_141 (ct_get b1 _ _ _) rfl ?_
          refine x_arraylengthQ (x_d C_M_array 54 rfl) (ct_get b2 _ _ _) (Or.inl rfl) (by omega) ?_
          refine x_icmp_ne (tgt := 115) (x_d C_M_array 55 rfl) rfl (fun c209 => ?_) (fun c209 => ?_)
          · refine x_locs [1, 2, 3, 0] rfl ?_
            refine w_M_array_115 Z d q r A dy D hD hd X f g K hf hn hX hB hrec e he p j2 tk2 (ny ++ ny2) ci cap fi g2 L acc ts c _ _ hj2 hk2 ⟨by omega, by omega⟩ q4 ⟨hts.1, hts.2, hnm⟩ (fun _ _ => rfl) (fun j9 tk9 ny9 y1 y2 y3 y4 => ?_)
            have := ih j9 tk9 ny9 ci cap _ g2 (L ++ [1 + (acc.length : Int)]) (acc ++ ts) (by rw [List.length_append]; show L.length + 1 + m = 60; omega) y1 (by rw [y2]; rw [show f + (s_sc s_white X (f + q 1345) (f + j2) - f) = s_sc s_white X (f + q 1345) (f + j2) by omega]; exact s_sc_id _ _ _ _) y3 ?_
            · rw [show f + j9 = s_sc s_white X (f + q 1345) e2 by rw [y2, show f + j2 = e2 by omega]; omega] at this
              exact this
            · intro u w
              have hl9 : (L ++ [1 + (acc.length : Int)]).length = L.length + 1 := by rw [List.length_append]; rfl
              rw [y4 u w, hl9, show f + j9 = s_sc s_white X (f + q 1345) e2 by rw [y2, show f + j2 = e2 by omega]; omega]
              show mu u w (ny ++ ny2) + k_its (s_val X (f + q 1345) D) (k_val u w X (f + q 1345) D) u w X (f + q 1345) m (L.length + 1) (s_sc s_white X (f + q 1345) e2) ≤ K u w
              have a1 := hmu3 u w
              have a2 := hmu2 u w
              have a3 := hmuA u w
              omega
          · refine x_aload_n (x_d C_M_array 56 rfl) rfl ?_
            refine x_aload_n (x_d C_M_array 57 rfl) rfl ?_
            refine x_getfield (v := xC ci) (x_d C_M_array 58 rfl) f_M_141 (ct_get b1 _ _ _) rfl ?_
            refine x_invokestatic (st := [xC p]) (av := [xC ci]) (x_d C_M_array 59 rfl) k_M_151 m_M_longer s_M_longer rfl (Nat.le_of_ble_eq_true rfl) (by omega) rfl (c_M_longer Z (d - 1) (hF (x_up q 1346 j2) (x_up r 1344 (some 44)) (x_up A 43 tk2) ++ (dy ++ (ny ++ ny2))) ci cap fi (ct_get b2 _ _ _) (by omega) (by have := AS_parts hk2 (x_up q 1346 j2) (x_up r 1344 (some 44)) (x_up A 43 tk2); rw [show L.length = cap by omega] at this; exact this)) ?_
            rintro v_ h_ ⟨hv_, hh_⟩
            obtain rfl : v_ = some (xC (52 + dy.length + (ny ++ ny2).length)) := by rw [hv_, g_len _ _ _ _ _ rfl]
            obtain rfl : h_ = hF (x_up q 1346 j2) (x_up r 1344 (some 44)) (x_up A 43 tk2) ++ (dy ++ (ny ++ ny2 ++ [xQ 4 (2 * cap) (s_cpq fi cap)])) := hh_.trans (g_push _ _ _ _ _ _)
            have b1g : ct (dy ++ (ny ++ ny2 ++ [xQ 4 (2 * cap) (s_cpq fi cap)])) p (xB 12 [xI 6, xI 0, xI 0, xI (L.length : Int), xN, xC ci, xN]) := by rw [← List.append_assoc dy]; exact ct_app b1 _
            refine x_putfield (h1 := hF (x_up q 1346 j2) (x_up r 1344 (some 44)) (x_up A 43 tk2) ++ (dy ++ ((ny ++ ny2 ++ [xQ 4 (2 * cap) (s_cpq fi cap)]).set (p - (52 + dy.length)) (xB 12 [xI 6, xI 0, xI 0, xI (L.length : Int), xN, xC (52 + dy.length + (ny ++ ny2).length), xN])))) (x_d C_M_array 60 rfl) p_M_141 (ct_get b1g _ _ _) rfl rfl trivial (g_setd b3.1 _ _ _ _) ?_
            have hk4 := AS_grow hk2 (by omega) (by omega)
            have hmu4 : ∀ u w, mu u w ((ny ++ ny2 ++ [xQ 4 (2 * cap) (s_cpq fi cap)]).set (p - (52 + dy.length)) (xB 12 [xI 6, xI 0, xI 0, xI (L.length : Int), xN, xC (52 + dy.length + (ny ++ ny2).length), xN])) = mu u w (ny ++ ny2) + (u + 2 * cap * w) := fun u w => by rw [mu_setd u w (e2 := xB 12 [xI 6, xI 0, xI 0, xI (L.length : Int), xN, xC (52 + dy.length + (ny ++ ny2).length), xN]) b1g b3.1 rfl, mu_app, mu_cons, mu_nil]; show _ + (u + w * (2 * cap) + 0) = _; rw [Nat.mul_comm w (2 * cap)]; omega
            have hgr2 := hgr (by omega)
            refine x_locs [1, 2, 3, 0] rfl ?_
            refine w_M_array_115 Z d q r A dy D hD hd X f g K hf hn hX hB hrec e he p j2 tk2 ((ny ++ ny2 ++ [xQ 4 (2 * cap) (s_cpq fi cap)]).set (p - (52 + dy.length)) (xB 12 [xI 6, xI 0, xI 0, xI (L.length : Int), xN, xC (52 + dy.length + (ny ++ ny2).length), xN])) (52 + dy.length + (ny ++ ny2).length) (2 * cap) (s_cpq fi cap) g2 L acc ts c _ _ hj2 hk4 ⟨by omega, by omega⟩ q4 ⟨hts.1, hts.2, hnm⟩ (fun _ _ => rfl) (fun j9 tk9 ny9 y1 y2 y3 y4 => ?_)
            have := ih j9 tk9 ny9 _ _ _ g2 (L ++ [1 + (acc.length : Int)]) (acc ++ ts) (by rw [List.length_append]; show L.length + 1 + m = 60; omega) y1 (by rw [y2]; rw [show f + (s_sc s_white X (f + q 1345) (f + j2) - f) = s_sc s_white X (f + q 1345) (f + j2) by omega]; exact s_sc_id _ _ _ _) y3 ?_
            · rw [show f + j9 = s_sc s_white X (f + q 1345) e2 by rw [y2, show f + j2 = e2 by omega]; omega] at this
              exact this
            · intro u w
              have hl9 : (L ++ [1 + (acc.length : Int)]).length = L.length + 1 := by rw [List.length_append]; rfl
              rw [y4 u w, hl9, show f + j9 = s_sc s_white X (f + q 1345) e2 by rw [y2, show f + j2 = e2 by omega]; omega]
              show mu u w ((ny ++ ny2 ++ [xQ 4 (2 * cap) (s_cpq fi cap)]).set (p - (52 + dy.length)) (xB 12 [xI 6, xI 0, xI 0, xI (L.length : Int), xN, xC (52 + dy.length + (ny ++ ny2).length), xN])) + k_its (s_val X (f + q 1345) D) (k_val u w X (f + q 1345) D) u w X (f + q 1345) m (L.length + 1) (s_sc s_white X (f + q 1345) e2) ≤ K u w
              have a1 := hmu3 u w
              have a2 := hmu2 u w
              have a3 := hmuA u w
              have a4 := hmu4 u w
              have a5 := hgr2 u w
              omega
