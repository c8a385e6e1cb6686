/-! the reference: the new trailer, whole -/
theorem t_trl (Z : xZ) (d : Nat) (q : Nat → Int) (r : Nat → Option Nat) (A : Nat → Nat → Int) (dy : xH) (X : Nat → Int) (E : Int) (g : Nat → Option xE) (P : Nat → Nat → Int) (hgk : gok g dy) (n2 : Int) (hE : E ≤ n2) (hd : 16 ≤ d) (p : Int) (L : List Int) (hL : s_in (P 8) p = L) (hp : 0 ≤ p) (hch : s_ch (P 8) (p + 1) L (s_bh (P 8) p)) (h60 : L.length ≤ 60) (fi fn : Nat → Option Nat) (nb nl : Nat → Nat) (nf : Nat → Nat → Int) (b10 : ∀ k, k < L.length → ∃ c, fi k = some c ∧ Tr X E g P 8 (L.getD k 0) c) (b11 : ∀ k, k < L.length → fn k = some (nb k) ∧ g (nb k) = some (xA 1 (nl k) (nf k)) ∧ nmw X E (P 9 (L.getD k 0).toNat) (nl k) (nf k)) (oS oP : Option Nat) (sz lt : Int) (hsz : 0 ≤ sz ∧ sz ≤ 300) (hlt : -2147483648 < lt ∧ lt ≤ 2147483647) (c0 c1 c2 c3 c4 MN : Nat) (f2 f3 : Nat → Option Nat) (h0 : ct dy c0 (xB 12 [xI 7, xI 0, xI 0, xI (MN : Int), xN, xC c3, xC c4])) (h1 : ct dy c1 (xB 12 [xI 3, xI sz, xI 0, xI 0, xN, xN, xN])) (h2 : ct dy c2 (xB 12 [xI 3, xI lt, xI 0, xI 0, xN, xN, xN])) (h3 : ct dy c3 (xQ 4 MN f2)) (h4 : ct dy c4 (xQ 5 MN f3)) (hf : ∀ j, j < L.length → f2 j = n_sel oS oP c1 c2 fi j ∧ f3 j = fn j) (a c : Int) (ha : a = s_nam (P 8) (P 9) X n2 p [83, 105, 122, 101]) (hc : c = s_nam (P 8) (P 9) X n2 p [80, 114, 101, 118]) (hS : (oS = none ∧ a = -1) ∨ ∃ i, oS = some i ∧ i < L.length ∧ a = L.getD i 0) (hP : (oP = none ∧ c = -1) ∨ ∃ i, oP = some i ∧ i < L.length ∧ c = L.getD i 0) (hSz : 0 ≤ a) (hM : (¬ oP = none ∧ MN = L.length) ∨ (oP = none ∧ MN = L.length + 1 ∧ f2 L.length = some c2 ∧ ∃ cv fv, f3 L.length = some cv ∧ ct dy cv (xA 1 4 fv) ∧ s_sl fv 0 4 = [80, 114, 101, 118])) : WM Z d q r A dy c0 (s_trl (s_wv (P 5) (P 6) (P 7) (P 8) (P 9) X n2 7) (P 8) (P 9) X n2 p sz lt) := by
  have hge : ∀ k, k < L.length → 0 ≤ L.getD k 0 := fun k hk => by have := s_ch_lt hch _ (s_getD_mem hk); omega
  have hinj := s_ch_inj hch
  have hne : ¬ L.length = 0 := by
    rcases hS with ⟨_, z⟩ | ⟨i, _, z, _⟩
    · omega
    · omega
  have eS : ∀ k, k < L.length → (oS = some k ↔ L.getD k 0 = a) := fun k hk => by
    have hk0 := hge k hk
    rcases hS with ⟨z1, z2⟩ | ⟨i, z1, z2, z3⟩
    · exact ⟨fun z => absurd (z1.symm.trans z) (by exact fun z => nomatch z), fun z => by omega⟩
    · refine ⟨fun z => by rw [z1] at z; cases z; rw [z3], fun z => ?_⟩
      rw [z1, hinj k i hk z2 (by rw [z, z3])]
  have eP : ∀ k, k < L.length → (oP = some k ↔ L.getD k 0 = c) := fun k hk => by
    have hk0 := hge k hk
    rcases hP with ⟨z1, z2⟩ | ⟨i, z1, z2, z3⟩
    · exact ⟨fun z => absurd (z1.symm.trans z) (by exact fun z => nomatch z), fun z => by omega⟩
    · refine ⟨fun z => by rw [z1] at z; cases z; rw [z3], fun z => ?_⟩
      rw [z1, hinj k i hk z2 (by rw [z, z3])]
  have hMb : L.length ≤ MN ∧ MN ≤ L.length + 1 := by
    rcases hM with ⟨_, z⟩ | ⟨_, z, _⟩ <;> omega
  have hw1 := fun (d : Nat) (h : 3 ≤ d) => t_write_int Z d q r A dy h c1 sz 0 0 none none none h1 (by omega)
  have hw2 := fun (d : Nat) (h : 3 ≤ d) => t_write_int Z d q r A dy h c2 lt 0 0 none none none h2 hlt
  have hlast : ∀ k : Nat, ¬ k < L.length → (k : Int) < (MN : Int) → k = L.length ∧ oP = none ∧ f2 L.length = some c2 ∧ ∃ cv fv, f3 L.length = some cv ∧ ct dy cv (xA 1 4 fv) ∧ s_sl fv 0 4 = [80, 114, 101, 118] := fun k z1 z2 => by
    rcases hM with ⟨_, z⟩ | ⟨z3, z, z4, z5⟩
    · omega
    · exact ⟨by omega, z3, z4, z5⟩
  have hb := t_write_box Z d q r A dy (by omega) c0 c3 MN 7 0 0 (MN : Int) none (some c4) f2 h0 h3 (by omega) (fun k => if k < L.length then s_sl X (P 9 (L.getD k 0).toNat).toNat (s_wd X n2 (P 9 (L.getD k 0).toNat) - P 9 (L.getD k 0).toNat).toNat else [80, 114, 101, 118]) (fun k => if k < L.length then (if L.getD k 0 = a then s_int sz else if L.getD k 0 = c then s_int lt else (s_wv (P 5) (P 6) (P 7) (P 8) (P 9) X n2 7) (L.getD k 0)) else s_int lt) (fun _ => by
    refine ⟨c4, MN, f3, rfl, h4, by omega, by omega, fun k hk => ?_⟩
    by_cases hkl : k < L.length
    · obtain ⟨g1, g2, g3⟩ := b11 k hkl
      rw [if_pos hkl]
      refine ⟨nb k, nl k, nf k, by rw [(hf k hkl).2, g1], hgk _ _ g2, by have := g3.2.2.1; omega, ?_⟩
      rw [nmw_wd g3 hE, show (P 9 (L.getD k 0).toNat + (nl k : Int) - P 9 (L.getD k 0).toNat).toNat = nl k by omega]
      exact s_sl_eq _ _ _ (fun j hj => by rw [Nat.zero_add]; exact (g3.2.2.2.2.1 j hj).1)
    · obtain ⟨e1, e2, e3, cv, fv, e4, e5, e6⟩ := hlast k hkl hk
      rw [if_neg hkl]
      subst e1
      exact ⟨cv, 4, fv, e4, e5, by omega, e6⟩) (fun k hk => by
    by_cases hkl : k < L.length
    · have hfk := (hf k hkl).1
      unfold n_sel at hfk
      rw [if_pos hkl]
      by_cases z1 : oS = some k
      · rw [if_pos z1] at hfk
        rw [if_pos ((eS k hkl).mp z1)]
        exact ⟨c1, _, hfk, h1, hw1 _ (by omega)⟩
      · rw [if_neg z1] at hfk
        rw [if_neg (fun z => z1 ((eS k hkl).mpr z))]
        by_cases z2 : oP = some k
        · rw [if_pos z2] at hfk
          rw [if_pos ((eP k hkl).mp z2)]
          exact ⟨c2, _, hfk, h2, hw2 _ (by omega)⟩
        · rw [if_neg z2] at hfk
          rw [if_neg (fun z => z2 ((eP k hkl).mpr z))]
          obtain ⟨c5, g1, g2⟩ := b10 k hkl
          obtain ⟨-, fs2, g3⟩ := Tr_c g2
          exact ⟨c5, _, by rw [hfk, g1], hgk _ _ g3, t_write Z q r A dy X E g P hgk n2 hE 7 (d - 1) _ c5 (by omega) g2⟩
    · obtain ⟨e1, e2, e3, cv, fv, e4, e5, e6⟩ := hlast k hkl hk
      rw [if_neg hkl]
      subst e1
      exact ⟨c2, _, e3, h2, hw2 _ (by omega)⟩) [] (Or.inr (Or.inl rfl)) (fun z => absurd z (by omega))
  have ht := s_pcs_tit (W := (s_wv (P 5) (P 6) (P 7) (P 8) (P 9) X n2 7)) (nm := P 9) (b := X) (n := n2) (p1 := p + 1) (a := a) (c := c) (sz := sz) (lt := lt) (L := L) (nmo := fun k => if k < L.length then s_sl X (P 9 (L.getD k 0).toNat).toNat (s_wd X n2 (P 9 (L.getD k 0).toNat) - P 9 (L.getD k 0).toNat).toNat else [80, 114, 101, 118]) (out := fun k => if k < L.length then (if L.getD k 0 = a then s_int sz else if L.getD k 0 = c then s_int lt else (s_wv (P 5) (P 6) (P 7) (P 8) (P 9) X n2 7) (L.getD k 0)) else s_int lt) (s_ch_first hch) (fun k hk => if_pos hk) (fun k hk => if_pos hk) L.length 0 (by omega)
  rw [if_neg (by omega), if_neg (by omega)] at hb
  unfold s_trl
  rw [← ha, ← hc, hL]
  rcases hM with ⟨z1, z2⟩ | ⟨z1, z2, z3, z4⟩
  · have hc0 : ¬ c < 0 := by
      rcases hP with ⟨y, _⟩ | ⟨i, _, y1, y2⟩
      · exact absurd y z1
      · have := hge i y1; omega
    rw [if_neg hc0, List.nil_append]
    rw [show ((MN : Nat) : Int).toNat = L.length by omega, ht] at hb
    exact hb
  · have hc0 : c < 0 := by
      rcases hP with ⟨_, y⟩ | ⟨i, y, _⟩
      · omega
      · rw [z1] at y; cases y
    rw [if_pos hc0]
    rw [show ((MN : Nat) : Int).toNat = L.length + 1 by omega, s_pcs_snoc, ht, Nat.zero_add] at hb
    unfold s_pc at hb
    rw [if_neg hne, if_neg (show ¬ (7 : Int) = 6 by omega)] at hb
    simp only [Nat.lt_irrefl, if_false] at hb
    simp only [List.append_assoc, List.drop_zero] at hb ⊢
    exact hb
theorem c_M_newTrailer (Z : xZ) (d : Nat) (q : Nat → Int) (r : Nat → Option Nat) (A : Nat → Nat → Int) (dy : xH) (hd : 6 ≤ d) (po : Option Nat) (X : Nat → Int) (E : Int) (g : Nat → Option xE) (P : Nat → Nat → Int) (hgk : gok g dy) (cp : Nat) (bt : Option Nat) (tb lt : Int) (ctr : Nat) (sz : Int) (fis fge fpl : Nat → Int) (fva : Nat → Option Nat) (fch : Nat → Int) (hp : PB dy cp bt tb lt (some ctr) sz fis fge fpl fva fch) (hsz : 0 ≤ sz ∧ sz ≤ 300) (hlt : -2147483648 < lt ∧ lt ≤ 2147483647) (p : Int) (ht : Tr X E g P 9 p ctr) (hk7 : P 5 p.toNat = 7) (hdj : Dj g ctr) (n2 : Int) (hE : E ≤ n2) (hSz : 0 ≤ s_nam (P 8) (P 9) X n2 p [83, 105, 122, 101]) : xMet Z d Y_M_newTrailer [xC 42] (hF q (x_up (x_up r 1350 (some cp)) 1351 po) A ++ dy) (fun v h2 => v = some (xC (52 + dy.length)) ∧ ∃ ny fs, h2 = hF q (x_up (x_up r 1350 (some cp)) 1351 po) A ++ (dy ++ ny) ∧ (∀ u w, mu u w ny ≤ 6 * u + 160 * w) ∧ ct (dy ++ ny) (52 + dy.length) (xB 12 fs) ∧ ∀ (d9 : Nat) (q9 : Nat → Int) (r9 : Nat → Option Nat) (A9 : Nat → Nat → Int), 16 ≤ d9 → WM Z d9 q9 r9 A9 (dy ++ ny) (52 + dy.length) (s_trl (s_wv (P 5) (P 6) (P 7) (P 8) (P 9) X n2 7) (P 8) (P 9) X n2 p sz lt)) := by
  refine xMet_of (by decide) (Nat.le_of_ble_eq_true rfl) (fun v h2 hq => by obtain ⟨e, _⟩ := hq; rw [e]; trivial) ?_
  obtain ⟨h0, x, y, m, bt2, it, nm, hc, hL, hm, h60, hch, hK⟩ := Tr_o ht
  obtain ⟨ci, cn, cap, cap2, fi, fn, nb, nl, nf, rfl, rfl, b3, b4, b5, b6, b7, b8, b9, b10, b11⟩ := tK_names hK (Or.inl hk7)
  rw [hk7] at hc
  have hdj2 := hdj x y m bt2 ci (some cn) cap fi hc b3
  clear hK hL hdj
  generalize hLe : s_in (P 8) p = L at *
  subst hm
  have hct := hgk _ _ hc
  have hci := hgk _ _ b3
  have hcn := hgk _ _ b4
  have hl : L.length ≤ cap ∧ L.length ≤ cap2 ∧ L.length ≤ 60 := ⟨b6, b7, h60⟩
  have hnm : ∀ k, k < L.length → fn k = some (nb k) ∧ ct dy (nb k) (xA 1 (nl k) (nf k)) ∧ (nl k : Int) ≤ 100000 := fun k hk => ⟨(b11 k hk).1, hgk _ _ (b11 k hk).2.1, by have := (b11 k hk).2.2.2.2.1; omega⟩
  have hit : ∀ k, k < L.length → ∃ c2 fs, fi k = some c2 ∧ ct dy c2 (xB 12 fs) := fun k hk => by
    obtain ⟨c2, g1, g2⟩ := b10 k hk
    obtain ⟨-, fs2, g3⟩ := Tr_c g2
    exact ⟨c2, _, g1, hgk _ _ g3⟩
  have hdj : ∀ i k, i < L.length → k < L.length → fi i = fi k → i = k := fun i k hi hk e => hdj2 i k (by omega) (by omega) e
  obtain ⟨oS, hS⟩ : ∃ oS, oS = s_idx (fun k => decide ((nl k : Int) = ([83, 105, 122, 101] : List Int).length) && s_eqf (nf k) (fun i => ([83, 105, 122, 101] : List Int).getD i 0) 0 ([83, 105, 122, 101] : List Int).length) L.length 0 := ⟨_, rfl⟩
  obtain ⟨oP, hP⟩ : ∃ oP, oP = s_idx (fun k => decide ((nl k : Int) = ([80, 114, 101, 118] : List Int).length) && s_eqf (nf k) (fun i => ([80, 114, 101, 118] : List Int).getD i 0) 0 ([80, 114, 101, 118] : List Int).length) L.length 0 := ⟨_, rfl⟩
  have hSs : (oS = none ∧ s_nam (P 8) (P 9) X n2 p [83, 105, 122, 101] = -1) ∨ ∃ i, oS = some i ∧ i < L.length ∧ s_nam (P 8) (P 9) X n2 p [83, 105, 122, 101] = L.getD i 0 := by
    unfold s_nam
    rw [hLe, hS]
    rcases s_first_idx (M := (fun k => decide ((nl k : Int) = ([83, 105, 122, 101] : List Int).length) && s_eqf (nf k) (fun i => ([83, 105, 122, 101] : List Int).getD i 0) 0 ([83, 105, 122, 101] : List Int).length)) (F := (fun t => decide (0 ≤ s_the X n2 (P 9 t.toNat) [83, 105, 122, 101]))) L 0 (fun k hk2 => by rw [Nat.zero_add]; exact nmw_the (b11 k hk2).2.2 hE (by decide)) with ⟨z1, z2⟩ | ⟨i, z1, z2, z3⟩
    · exact Or.inl ⟨z1, z2⟩
    · exact Or.inr ⟨i, by rw [z1, Nat.zero_add], z2, z3⟩
  have hPs : (oP = none ∧ s_nam (P 8) (P 9) X n2 p [80, 114, 101, 118] = -1) ∨ ∃ i, oP = some i ∧ i < L.length ∧ s_nam (P 8) (P 9) X n2 p [80, 114, 101, 118] = L.getD i 0 := by
    unfold s_nam
    rw [hLe, hP]
    rcases s_first_idx (M := (fun k => decide ((nl k : Int) = ([80, 114, 101, 118] : List Int).length) && s_eqf (nf k) (fun i => ([80, 114, 101, 118] : List Int).getD i 0) 0 ([80, 114, 101, 118] : List Int).length)) (F := (fun t => decide (0 ≤ s_the X n2 (P 9 t.toNat) [80, 114, 101, 118]))) L 0 (fun k hk2 => by rw [Nat.zero_add]; exact nmw_the (b11 k hk2).2.2 hE (by decide)) with ⟨z1, z2⟩ | ⟨i, z1, z2, z3⟩
    · exact Or.inl ⟨z1, z2⟩
    · exact Or.inr ⟨i, by rw [z1, Nat.zero_add], z2, z3⟩
  have hpp : ct dy cp (xB 11 [xO bt, xI tb, xI lt, xC ctr, xC (cp + 1), xC (cp + 2), xC (cp + 3), xC (cp + 4), xC (cp + 5), xI sz]) := hp.1
  cases hoP : oP with
  | none =>
    obtain ⟨MN, hMN⟩ : ∃ MN : Nat, (MN : Int) = (L.length : Int) + 1 := ⟨L.length + 1, rfl⟩
    refine x_aload_n (x_d C_M_newTrailer 0 rfl) rfl ?_
    refine x_getfield (v := xC cp) (x_d C_M_newTrailer 1 rfl) f_M_207 rfl rfl ?_
    refine x_getfield (v := xC ctr) (x_d C_M_newTrailer 2 rfl) f_M_264 (ct_get hpp _ _ _) rfl ?_
    refine x_astore_n (l1 := [(1, xC ctr), (0, xC 42)]) (x_d C_M_newTrailer 3 rfl) (by decide) rfl ?_
    refine x_newL (k := 52 + dy.length) (h1 := hF q (x_up (x_up r 1350 (some cp)) 1351 po) A ++ (dy ++ [xB 12 [xI (0), xI (0), xI (0), xI (0), xN, xN, xN]])) (x_d C_M_newTrailer 4 rfl) n_M_82 (g_len0 _ _ _ _) (g_push0 _ _ _ _ _) ?_
    refine x_dup (x_d C_M_newTrailer 5 rfl) rfl ?_
    refine x_bipush (x_d C_M_newTrailer 6 rfl) (by omega) ?_
    refine x_invokespecial (st := [xC (52 + dy.length)]) (av := [xI (7)]) (x_d C_M_newTrailer 7 rfl) k_M_84 m_MQ_init rfl v_MQ_init rfl (Nat.le_of_ble_eq_true rfl) (by omega) rfl (c_MQ_init Z (d - 1) (hF q (x_up (x_up r 1350 (some cp)) 1351 po) A ++ (dy ++ [xB 12 [xI (0), xI (0), xI (0), xI (0), xN, xN, xN]])) (by omega) (52 + dy.length) 7 (ct_get (ct_new0 dy [xB 12 [xI (0), xI (0), xI (0), xI (0), xN, xN, xN]] rfl) _ _ _)) ?_
    rintro _ h_ ⟨rfl, hh_⟩
    obtain rfl : h_ = hF q (x_up (x_up r 1350 (some cp)) 1351 po) A ++ (dy ++ [xB 12 [xI (7), xI (0), xI (0), xI (0), xN, xN, xN]]) := hh_.trans (g_setl0 _ _ _ _ [xB 12 [xI (0), xI (0), xI (0), xI (0), xN, xN, xN]] _)
    refine x_astore_n (l1 := [(2, xC (52 + dy.length)), (1, xC ctr), (0, xC 42)]) (x_d C_M_newTrailer 8 rfl) (by decide) rfl ?_
    refine x_newL (k := 52 + dy.length + 1) (h1 := hF q (x_up (x_up r 1350 (some cp)) 1351 po) A ++ (dy ++ [xB 12 [xI (7), xI (0), xI (0), xI (0), xN, xN, xN], xB 12 [xI (0), xI (0), xI (0), xI (0), xN, xN, xN]])) (x_d C_M_newTrailer 9 rfl) n_M_82 (g_len _ _ _ _ [xB 12 [xI (7), xI (0), xI (0), xI (0), xN, xN, xN]] rfl) (g_push _ _ _ _ [xB 12 [xI (7), xI (0), xI (0), xI (0), xN, xN, xN]] _) ?_
    refine x_dup (x_d C_M_newTrailer 10 rfl) rfl ?_
    refine x_iconst (x_d C_M_newTrailer 11 rfl) ⟨by omega, by omega⟩ ?_
    refine x_invokespecial (st := [xC (52 + dy.length + 1)]) (av := [xI (3)]) (x_d C_M_newTrailer 12 rfl) k_M_84 m_MQ_init rfl v_MQ_init rfl (Nat.le_of_ble_eq_true rfl) (by omega) rfl (c_MQ_init Z (d - 1) (hF q (x_up (x_up r 1350 (some cp)) 1351 po) A ++ (dy ++ [xB 12 [xI (7), xI (0), xI (0), xI (0), xN, xN, xN], xB 12 [xI (0), xI (0), xI (0), xI (0), xN, xN, xN]])) (by omega) (52 + dy.length + 1) 3 (ct_get (ct_new dy [xB 12 [xI (7), xI (0), xI (0), xI (0), xN, xN, xN], xB 12 [xI (0), xI (0), xI (0), xI (0), xN, xN, xN]] 1 rfl) _ _ _)) ?_
    rintro _ h_ ⟨rfl, hh_⟩
    obtain rfl : h_ = hF q (x_up (x_up r 1350 (some cp)) 1351 po) A ++ (dy ++ [xB 12 [xI (7), xI (0), xI (0), xI (0), xN, xN, xN], xB 12 [xI (3), xI (0), xI (0), xI (0), xN, xN, xN]]) := hh_.trans (g_setl _ _ _ _ [xB 12 [xI (7), xI (0), xI (0), xI (0), xN, xN, xN], xB 12 [xI (0), xI (0), xI (0), xI (0), xN, xN, xN]] 1 _)
    refine x_astore_n (l1 := [(3, xC (52 + dy.length + 1)), (2, xC (52 + dy.length)), (1, xC ctr), (0, xC 42)]) (x_d C_M_newTrailer 13 rfl) (by decide) rfl ?_
    refine x_newL (k := 52 + dy.length + 2) (h1 := hF q (x_up (x_up r 1350 (some cp)) 1351 po) A ++ (dy ++ [xB 12 [xI (7), xI (0), xI (0), xI (0), xN, xN, xN], xB 12 [xI (3), xI (0), xI (0), xI (0), xN, xN, xN], xB 12 [xI (0), xI (0), xI (0), xI (0), xN, xN, xN]])) (x_d C_M_newTrailer 14 rfl) n_M_82 (g_len _ _ _ _ [xB 12 [xI (7), xI (0), xI (0), xI (0), xN, xN, xN], xB 12 [xI (3), xI (0), xI (0), xI (0), xN, xN, xN]] rfl) (g_push _ _ _ _ [xB 12 [xI (7), xI (0), xI (0), xI (0), xN, xN, xN], xB 12 [xI (3), xI (0), xI (0), xI (0), xN, xN, xN]] _) ?_
    refine x_dup (x_d C_M_newTrailer 15 rfl) rfl ?_
    refine x_iconst (x_d C_M_newTrailer 16 rfl) ⟨by omega, by omega⟩ ?_
    refine x_invokespecial (st := [xC (52 + dy.length + 2)]) (av := [xI (3)]) (x_d C_M_newTrailer 17 rfl) k_M_84 m_MQ_init rfl v_MQ_init rfl (Nat.le_of_ble_eq_true rfl) (by omega) rfl (c_MQ_init Z (d - 1) (hF q (x_up (x_up r 1350 (some cp)) 1351 po) A ++ (dy ++ [xB 12 [xI (7), xI (0), xI (0), xI (0), xN, xN, xN], xB 12 [xI (3), xI (0), xI (0), xI (0), xN, xN, xN], xB 12 [xI (0), xI (0), xI (0), xI (0), xN, xN, xN]])) (by omega) (52 + dy.length + 2) 3 (ct_get (ct_new dy [xB 12 [xI (7), xI (0), xI (0), xI (0), xN, xN, xN], xB 12 [xI (3), xI (0), xI (0), xI (0), xN, xN, xN], xB 12 [xI (0), xI (0), xI (0), xI (0), xN, xN, xN]] 2 rfl) _ _ _)) ?_
    rintro _ h_ ⟨rfl, hh_⟩
    obtain rfl : h_ = hF q (x_up (x_up r 1350 (some cp)) 1351 po) A ++ (dy ++ [xB 12 [xI (7), xI (0), xI (0), xI (0), xN, xN, xN], xB 12 [xI (3), xI (0), xI (0), xI (0), xN, xN, xN], xB 12 [xI (3), xI (0), xI (0), xI (0), xN, xN, xN]]) := hh_.trans (g_setl _ _ _ _ [xB 12 [xI (7), xI (0), xI (0), xI (0), xN, xN, xN], xB 12 [xI (3), xI (0), xI (0), xI (0), xN, xN, xN], xB 12 [xI (0), xI (0), xI (0), xI (0), xN, xN, xN]] 2 _)
    refine x_astore (l1 := [(4, xC (52 + dy.length + 2)), (3, xC (52 + dy.length + 1)), (2, xC (52 + dy.length)), (1, xC ctr), (0, xC 42)]) (x_d C_M_newTrailer 18 rfl) (by decide) rfl ?_
    refine x_aload_n (x_d C_M_newTrailer 19 rfl) rfl ?_
    refine x_aload_n (x_d C_M_newTrailer 20 rfl) rfl ?_
    refine x_getfield (v := xC cp) (x_d C_M_newTrailer 21 rfl) f_M_207 rfl rfl ?_
    refine x_getfield (v := xI (sz)) (x_d C_M_newTrailer 22 rfl) f_M_266 (ct_get (ct_app hpp _) _ _ _) rfl ?_
    refine x_putfield (h1 := hF q (x_up (x_up r 1350 (some cp)) 1351 po) A ++ (dy ++ [xB 12 [xI (7), xI (0), xI (0), xI (0), xN, xN, xN], xB 12 [xI (3), xI (sz), xI (0), xI (0), xN, xN, xN], xB 12 [xI (3), xI (0), xI (0), xI (0), xN, xN, xN]])) (x_d C_M_newTrailer 23 rfl) p_M_95 (ct_get (ct_new dy [xB 12 [xI (7), xI (0), xI (0), xI (0), xN, xN, xN], xB 12 [xI (3), xI (0), xI (0), xI (0), xN, xN, xN], xB 12 [xI (3), xI (0), xI (0), xI (0), xN, xN, xN]] 1 rfl) _ _ _) rfl rfl trivial (g_setl _ _ _ _ [xB 12 [xI (7), xI (0), xI (0), xI (0), xN, xN, xN], xB 12 [xI (3), xI (0), xI (0), xI (0), xN, xN, xN], xB 12 [xI (3), xI (0), xI (0), xI (0), xN, xN, xN]] 1 _) ?_
    refine x_aload (x_d C_M_newTrailer 24 rfl) rfl ?_
    refine x_aload_n (x_d C_M_newTrailer 25 rfl) rfl ?_
    refine x_getfield (v := xC cp) (x_d C_M_newTrailer 26 rfl) f_M_207 rfl rfl ?_
    refine x_getfield (v := xI (lt)) (x_d C_M_newTrailer 27 rfl) f_M_221 (ct_get (ct_app hpp _) _ _ _) rfl ?_
    refine x_putfield (h1 := hF q (x_up (x_up r 1350 (some cp)) 1351 po) A ++ (dy ++ [xB 12 [xI (7), xI (0), xI (0), xI (0), xN, xN, xN], xB 12 [xI (3), xI (sz), xI (0), xI (0), xN, xN, xN], xB 12 [xI (3), xI (lt), xI (0), xI (0), xN, xN, xN]])) (x_d C_M_newTrailer 28 rfl) p_M_95 (ct_get (ct_new dy [xB 12 [xI (7), xI (0), xI (0), xI (0), xN, xN, xN], xB 12 [xI (3), xI (sz), xI (0), xI (0), xN, xN, xN], xB 12 [xI (3), xI (0), xI (0), xI (0), xN, xN, xN]] 2 rfl) _ _ _) rfl rfl trivial (g_setl _ _ _ _ [xB 12 [xI (7), xI (0), xI (0), xI (0), xN, xN, xN], xB 12 [xI (3), xI (sz), xI (0), xI (0), xN, xN, xN], xB 12 [xI (3), xI (0), xI (0), xI (0), xN, xN, xN]] 2 _) ?_
    refine x_aload_n (x_d C_M_newTrailer 29 rfl) rfl ?_
    refine x_ldcSw (i := 65) (x_d C_M_newTrailer 30 rfl) rfl ?_
    refine x_invokevirtual (st := []) (av := [xS (131)]) (x_d C_M_newTrailer 31 rfl) k_M_256 m_MQ_get2 v_MQ_get2 cl_MQ (ct_get (ct_app hct _) _ _ _) rfl (Nat.le_of_ble_eq_true rfl) (by omega) rfl (c_MQ_get2 Z (d - 1) (hF q (x_up (x_up r 1350 (some cp)) 1351 po) A ++ (dy ++ [xB 12 [xI (7), xI (0), xI (0), xI (0), xN, xN, xN], xB 12 [xI (3), xI (sz), xI (0), xI (0), xN, xN, xN], xB 12 [xI (3), xI (lt), xI (0), xI (0), xN, xN, xN]])) (by omega) ctr ci cn cap cap2 7 x y (L.length : Int) bt2 fi fn nb nl nf (ct_get (ct_app hct _) _ _ _) (ct_get (ct_app hci _) _ _ _) (ct_get (ct_app hcn _) _ _ _) (by omega) (fun k hk9 => ⟨(hnm k (by omega)).1, (ct_get (ct_app (hnm k (by omega)).2.1 _) _ _ _), (hnm k (by omega)).2.2⟩) (si := 65) rfl (by decide)) ?_
    rintro v_ h_ ⟨hv_, hh_⟩
    rw [hh_]
    clear hh_
    obtain rfl : v_ = some (xN) := by rw [hv_, show ((L.length : Nat) : Int).toNat = L.length by omega]; show some (xO ((s_idx (fun k => decide ((nl k : Int) = ([80, 114, 101, 118] : List Int).length) && s_eqf (nf k) (fun i => ([80, 114, 101, 118] : List Int).getD i 0) 0 ([80, 114, 101, 118] : List Int).length) L.length 0).bind fi)) = _; rw [← hP, hoP]; rfl
    refine x_ifnullN (tgt := 74) (x_d C_M_newTrailer 32 rfl) rfl ?_
    refine x_iconst (x_d C_M_newTrailer 35 rfl) ⟨by omega, by omega⟩ ?_
    refine x_istore (l1 := [(5, xI (0)), (4, xC (52 + dy.length + 2)), (3, xC (52 + dy.length + 1)), (2, xC (52 + dy.length)), (1, xC ctr), (0, xC 42)]) (x_d C_M_newTrailer 36 rfl) (by decide) rfl ?_
    refine x_aload_n (x_d C_M_newTrailer 37 rfl) rfl ?_
    refine x_aload_n (x_d C_M_newTrailer 38 rfl) rfl ?_
    refine x_getfield (v := xI ((L.length : Int))) (x_d C_M_newTrailer 39 rfl) f_M_145 (ct_get (ct_app hct _) _ _ _) rfl ?_
    refine x_iload (x_d C_M_newTrailer 40 rfl) rfl ?_
    refine x_if_eq (tgt := 91) (x_d C_M_newTrailer 41 rfl) rfl (fun _ => ?_) (fun q => absurd q (by omega))
    refine x_iconst (x_d C_M_newTrailer 44 rfl) ⟨by omega, by omega⟩ ?_
    refine x_iadd (x_d C_M_newTrailer 45 rfl) ⟨by omega, by omega⟩ ?_
    rw [← hMN]
    refine x_putfield (h1 := hF q (x_up (x_up r 1350 (some cp)) 1351 po) A ++ (dy ++ [xB 12 [xI (7), xI (0), xI (0), xI ((MN : Int)), xN, xN, xN], xB 12 [xI (3), xI (sz), xI (0), xI (0), xN, xN, xN], xB 12 [xI (3), xI (lt), xI (0), xI (0), xN, xN, xN]])) (x_d C_M_newTrailer 46 rfl) p_M_145 (ct_get (ct_new0 dy [xB 12 [xI (7), xI (0), xI (0), xI (0), xN, xN, xN], xB 12 [xI (3), xI (sz), xI (0), xI (0), xN, xN, xN], xB 12 [xI (3), xI (lt), xI (0), xI (0), xN, xN, xN]] rfl) _ _ _) rfl rfl trivial (g_setl0 _ _ _ _ [xB 12 [xI (7), xI (0), xI (0), xI (0), xN, xN, xN], xB 12 [xI (3), xI (sz), xI (0), xI (0), xN, xN, xN], xB 12 [xI (3), xI (lt), xI (0), xI (0), xN, xN, xN]] _) ?_
    refine x_aload_n (x_d C_M_newTrailer 47 rfl) rfl ?_
    refine x_aload_n (x_d C_M_newTrailer 48 rfl) rfl ?_
    refine x_getfield (v := xI ((MN : Int))) (x_d C_M_newTrailer 49 rfl) f_M_145 (ct_get (ct_new0 dy [xB 12 [xI (7), xI (0), xI (0), xI ((MN : Int)), xN, xN, xN], xB 12 [xI (3), xI (sz), xI (0), xI (0), xN, xN, xN], xB 12 [xI (3), xI (lt), xI (0), xI (0), xN, xN, xN]] rfl) _ _ _) rfl ?_
    refine x_anewarray4 (k := 52 + dy.length + 3) (h1 := hF q (x_up (x_up r 1350 (some cp)) 1351 po) A ++ (dy ++ [xB 12 [xI (7), xI (0), xI (0), xI ((MN : Int)), xN, xN, xN], xB 12 [xI (3), xI (sz), xI (0), xI (0), xN, xN, xN], xB 12 [xI (3), xI (lt), xI (0), xI (0), xN, xN, xN], xQ 4 ((MN : Int)).toNat (fun _ => none)])) (x_d C_M_newTrailer 50 rfl) qn_M_82 (by omega) (by omega) (g_len _ _ _ _ [xB 12 [xI (7), xI (0), xI (0), xI ((MN : Int)), xN, xN, xN], xB 12 [xI (3), xI (sz), xI (0), xI (0), xN, xN, xN], xB 12 [xI (3), xI (lt), xI (0), xI (0), xN, xN, xN]] rfl) (g_push _ _ _ _ [xB 12 [xI (7), xI (0), xI (0), xI ((MN : Int)), xN, xN, xN], xB 12 [xI (3), xI (sz), xI (0), xI (0), xN, xN, xN], xB 12 [xI (3), xI (lt), xI (0), xI (0), xN, xN, xN]] _) ?_
    refine x_putfield (h1 := hF q (x_up (x_up r 1350 (some cp)) 1351 po) A ++ (dy ++ [xB 12 [xI (7), xI (0), xI (0), xI ((MN : Int)), xN, xC (52 + dy.length + 3), xN], xB 12 [xI (3), xI (sz), xI (0), xI (0), xN, xN, xN], xB 12 [xI (3), xI (lt), xI (0), xI (0), xN, xN, xN], xQ 4 ((MN : Int)).toNat (fun _ => none)])) (x_d C_M_newTrailer 51 rfl) p_M_141 (ct_get (ct_new0 dy [xB 12 [xI (7), xI (0), xI (0), xI ((MN : Int)), xN, xN, xN], xB 12 [xI (3), xI (sz), xI (0), xI (0), xN, xN, xN], xB 12 [xI (3), xI (lt), xI (0), xI (0), xN, xN, xN], xQ 4 ((MN : Int)).toNat (fun _ => none)] rfl) _ _ _) rfl rfl trivial (g_setl0 _ _ _ _ [xB 12 [xI (7), xI (0), xI (0), xI ((MN : Int)), xN, xN, xN], xB 12 [xI (3), xI (sz), xI (0), xI (0), xN, xN, xN], xB 12 [xI (3), xI (lt), xI (0), xI (0), xN, xN, xN], xQ 4 ((MN : Int)).toNat (fun _ => none)] _) ?_
    refine x_aload_n (x_d C_M_newTrailer 52 rfl) rfl ?_
    refine x_aload_n (x_d C_M_newTrailer 53 rfl) rfl ?_
    refine x_getfield (v := xI ((MN : Int))) (x_d C_M_newTrailer 54 rfl) f_M_145 (ct_get (ct_new0 dy [xB 12 [xI (7), xI (0), xI (0), xI ((MN : Int)), xN, xC (52 + dy.length + 3), xN], xB 12 [xI (3), xI (sz), xI (0), xI (0), xN, xN, xN], xB 12 [xI (3), xI (lt), xI (0), xI (0), xN, xN, xN], xQ 4 ((MN : Int)).toNat (fun _ => none)] rfl) _ _ _) rfl ?_
    refine x_anewarray5 (k := 52 + dy.length + 4) (h1 := hF q (x_up (x_up r 1350 (some cp)) 1351 po) A ++ (dy ++ [xB 12 [xI (7), xI (0), xI (0), xI ((MN : Int)), xN, xC (52 + dy.length + 3), xN], xB 12 [xI (3), xI (sz), xI (0), xI (0), xN, xN, xN], xB 12 [xI (3), xI (lt), xI (0), xI (0), xN, xN, xN], xQ 4 ((MN : Int)).toNat (fun _ => none), xQ 5 ((MN : Int)).toNat (fun _ => none)])) (x_d C_M_newTrailer 55 rfl) qn_M_155 (by omega) (by omega) (g_len _ _ _ _ [xB 12 [xI (7), xI (0), xI (0), xI ((MN : Int)), xN, xC (52 + dy.length + 3), xN], xB 12 [xI (3), xI (sz), xI (0), xI (0), xN, xN, xN], xB 12 [xI (3), xI (lt), xI (0), xI (0), xN, xN, xN], xQ 4 ((MN : Int)).toNat (fun _ => none)] rfl) (g_push _ _ _ _ [xB 12 [xI (7), xI (0), xI (0), xI ((MN : Int)), xN, xC (52 + dy.length + 3), xN], xB 12 [xI (3), xI (sz), xI (0), xI (0), xN, xN, xN], xB 12 [xI (3), xI (lt), xI (0), xI (0), xN, xN, xN], xQ 4 ((MN : Int)).toNat (fun _ => none)] _) ?_
    refine x_putfield (h1 := hF q (x_up (x_up r 1350 (some cp)) 1351 po) A ++ (dy ++ [xB 12 [xI (7), xI (0), xI (0), xI ((MN : Int)), xN, xC (52 + dy.length + 3), xC (52 + dy.length + 4)], xB 12 [xI (3), xI (sz), xI (0), xI (0), xN, xN, xN], xB 12 [xI (3), xI (lt), xI (0), xI (0), xN, xN, xN], xQ 4 ((MN : Int)).toNat (fun _ => none), xQ 5 ((MN : Int)).toNat (fun _ => none)])) (x_d C_M_newTrailer 56 rfl) p_M_156 (ct_get (ct_new0 dy [xB 12 [xI (7), xI (0), xI (0), xI ((MN : Int)), xN, xC (52 + dy.length + 3), xN], xB 12 [xI (3), xI (sz), xI (0), xI (0), xN, xN, xN], xB 12 [xI (3), xI (lt), xI (0), xI (0), xN, xN, xN], xQ 4 ((MN : Int)).toNat (fun _ => none), xQ 5 ((MN : Int)).toNat (fun _ => none)] rfl) _ _ _) rfl rfl trivial (g_setl0 _ _ _ _ [xB 12 [xI (7), xI (0), xI (0), xI ((MN : Int)), xN, xC (52 + dy.length + 3), xN], xB 12 [xI (3), xI (sz), xI (0), xI (0), xN, xN, xN], xB 12 [xI (3), xI (lt), xI (0), xI (0), xN, xN, xN], xQ 4 ((MN : Int)).toNat (fun _ => none), xQ 5 ((MN : Int)).toNat (fun _ => none)] _) ?_
    refine x_iconst (x_d C_M_newTrailer 57 rfl) ⟨by omega, by omega⟩ ?_
    refine x_istore (l1 := [(6, xI (0)), (5, xI (0)), (4, xC (52 + dy.length + 2)), (3, xC (52 + dy.length + 1)), (2, xC (52 + dy.length)), (1, xC ctr), (0, xC 42)]) (x_d C_M_newTrailer 58 rfl) (by decide) rfl ?_
    refine x_locs [6, 5, 4, 3, 2, 1, 0] rfl ?_
    refine w_M_newTrailer_121 Z d q (x_up (x_up r 1350 (some cp)) 1351 po) A dy (by omega) ctr ci cn cap cap2 7 x y L bt2 fi fn nb nl nf hct hci hcn hl hnm hit hdj oS oP hS hP sz lt 0 MN (by omega) _ (fun f2 f3 hf => ?_) L.length 0 _ _ (by omega) (fun j hj => absurd hj (by omega))
    refine x_iload (x_d C_M_newTrailer 101 rfl) rfl ?_
    refine x_if_ne (tgt := 254) (x_d C_M_newTrailer 102 rfl) rfl (fun q => absurd q (by omega)) (fun _ => ?_)
    refine x_aload_n (x_d C_M_newTrailer 103 rfl) rfl ?_
    refine x_getfield (v := xC (52 + dy.length + 4)) (x_d C_M_newTrailer 104 rfl) f_M_156 (ct_get (ct_new0 dy [xB 12 [xI (7), xI (0), xI (0), xI ((MN : Int)), xN, xC (52 + dy.length + 3), xC (52 + dy.length + 4)], xB 12 [xI (3), xI (sz), xI (0), xI (0), xN, xN, xN], xB 12 [xI (3), xI (lt), xI (0), xI (0), xN, xN, xN], xQ 4 MN (f2), xQ 5 MN (f3)] rfl) _ _ _) rfl ?_
    refine x_aload_n (x_d C_M_newTrailer 105 rfl) rfl ?_
    refine x_getfield (v := xI ((L.length : Int))) (x_d C_M_newTrailer 106 rfl) f_M_145 (ct_get (ct_app hct _) _ _ _) rfl ?_
    refine x_iconst (x_d C_M_newTrailer 107 rfl) ⟨by omega, by omega⟩ ?_
    refine x_newarrayL (k := 52 + dy.length + 5) (h1 := hF q (x_up (x_up r 1350 (some cp)) 1351 po) A ++ (dy ++ [xB 12 [xI (7), xI (0), xI (0), xI ((MN : Int)), xN, xC (52 + dy.length + 3), xC (52 + dy.length + 4)], xB 12 [xI (3), xI (sz), xI (0), xI (0), xN, xN, xN], xB 12 [xI (3), xI (lt), xI (0), xI (0), xN, xN, xN], xQ 4 MN (f2), xQ 5 MN (f3), xA 1 4 (fun _ => 0)])) (x_d C_M_newTrailer 108 rfl) at_byte (by omega) (by omega) (g_len _ _ _ _ [xB 12 [xI (7), xI (0), xI (0), xI ((MN : Int)), xN, xC (52 + dy.length + 3), xC (52 + dy.length + 4)], xB 12 [xI (3), xI (sz), xI (0), xI (0), xN, xN, xN], xB 12 [xI (3), xI (lt), xI (0), xI (0), xN, xN, xN], xQ 4 MN (f2), xQ 5 MN (f3)] rfl) (g_push _ _ _ _ [xB 12 [xI (7), xI (0), xI (0), xI ((MN : Int)), xN, xC (52 + dy.length + 3), xC (52 + dy.length + 4)], xB 12 [xI (3), xI (sz), xI (0), xI (0), xN, xN, xN], xB 12 [xI (3), xI (lt), xI (0), xI (0), xN, xN, xN], xQ 4 MN (f2), xQ 5 MN (f3)] _) ?_
    refine x_dup (x_d C_M_newTrailer 109 rfl) rfl ?_
    refine x_iconst (x_d C_M_newTrailer 110 rfl) ⟨by omega, by omega⟩ ?_
    refine x_bipush (x_d C_M_newTrailer 111 rfl) (by omega) ?_
    refine x_bastore (h1 := hF q (x_up (x_up r 1350 (some cp)) 1351 po) A ++ (dy ++ [xB 12 [xI (7), xI (0), xI (0), xI ((MN : Int)), xN, xC (52 + dy.length + 3), xC (52 + dy.length + 4)], xB 12 [xI (3), xI (sz), xI (0), xI (0), xN, xN, xN], xB 12 [xI (3), xI (lt), xI (0), xI (0), xN, xN, xN], xQ 4 MN (f2), xQ 5 MN (f3), xA 1 4 (x_up (fun _ => 0) (0 : Int).toNat 80)])) (x_d C_M_newTrailer 112 rfl) (ct_get (ct_new dy [xB 12 [xI (7), xI (0), xI (0), xI ((MN : Int)), xN, xC (52 + dy.length + 3), xC (52 + dy.length + 4)], xB 12 [xI (3), xI (sz), xI (0), xI (0), xN, xN, xN], xB 12 [xI (3), xI (lt), xI (0), xI (0), xN, xN, xN], xQ 4 MN (f2), xQ 5 MN (f3), xA 1 4 (fun _ => 0)] 5 rfl) _ _ _) (by omega) (by omega) (by omega) (g_setl _ _ _ _ [xB 12 [xI (7), xI (0), xI (0), xI ((MN : Int)), xN, xC (52 + dy.length + 3), xC (52 + dy.length + 4)], xB 12 [xI (3), xI (sz), xI (0), xI (0), xN, xN, xN], xB 12 [xI (3), xI (lt), xI (0), xI (0), xN, xN, xN], xQ 4 MN (f2), xQ 5 MN (f3), xA 1 4 (fun _ => 0)] 5 _) ?_
    refine x_dup (x_d C_M_newTrailer 113 rfl) rfl ?_
    refine x_iconst (x_d C_M_newTrailer 114 rfl) ⟨by omega, by omega⟩ ?_
    refine x_bipush (x_d C_M_newTrailer 115 rfl) (by omega) ?_
    refine x_bastore (h1 := hF q (x_up (x_up r 1350 (some cp)) 1351 po) A ++ (dy ++ [xB 12 [xI (7), xI (0), xI (0), xI ((MN : Int)), xN, xC (52 + dy.length + 3), xC (52 + dy.length + 4)], xB 12 [xI (3), xI (sz), xI (0), xI (0), xN, xN, xN], xB 12 [xI (3), xI (lt), xI (0), xI (0), xN, xN, xN], xQ 4 MN (f2), xQ 5 MN (f3), xA 1 4 (x_up (x_up (fun _ => 0) (0 : Int).toNat 80) (1 : Int).toNat 114)])) (x_d C_M_newTrailer 116 rfl) (ct_get (ct_new dy [xB 12 [xI (7), xI (0), xI (0), xI ((MN : Int)), xN, xC (52 + dy.length + 3), xC (52 + dy.length + 4)], xB 12 [xI (3), xI (sz), xI (0), xI (0), xN, xN, xN], xB 12 [xI (3), xI (lt), xI (0), xI (0), xN, xN, xN], xQ 4 MN (f2), xQ 5 MN (f3), xA 1 4 (x_up (fun _ => 0) (0 : Int).toNat 80)] 5 rfl) _ _ _) (by omega) (by omega) (by omega) (g_setl _ _ _ _ [xB 12 [xI (7), xI (0), xI (0), xI ((MN : Int)), xN, xC (52 + dy.length + 3), xC (52 + dy.length + 4)], xB 12 [xI (3), xI (sz), xI (0), xI (0), xN, xN, xN], xB 12 [xI (3), xI (lt), xI (0), xI (0), xN, xN, xN], xQ 4 MN (f2), xQ 5 MN (f3), xA 1 4 (x_up (fun _ => 0) (0 : Int).toNat 80)] 5 _) ?_
    refine x_dup (x_d C_M_newTrailer 117 rfl) rfl ?_
    refine x_iconst (x_d C_M_newTrailer 118 rfl) ⟨by omega, by omega⟩ ?_
    refine x_bipush (x_d C_M_newTrailer 119 rfl) (by omega) ?_
    refine x_bastore (h1 := hF q (x_up (x_up r 1350 (some cp)) 1351 po) A ++ (dy ++ [xB 12 [xI (7), xI (0), xI (0), xI ((MN : Int)), xN, xC (52 + dy.length + 3), xC (52 + dy.length + 4)], xB 12 [xI (3), xI (sz), xI (0), xI (0), xN, xN, xN], xB 12 [xI (3), xI (lt), xI (0), xI (0), xN, xN, xN], xQ 4 MN (f2), xQ 5 MN (f3), xA 1 4 (x_up (x_up (x_up (fun _ => 0) (0 : Int).toNat 80) (1 : Int).toNat 114) (2 : Int).toNat 101)])) (x_d C_M_newTrailer 120 rfl) (ct_get (ct_new dy [xB 12 [xI (7), xI (0), xI (0), xI ((MN : Int)), xN, xC (52 + dy.length + 3), xC (52 + dy.length + 4)], xB 12 [xI (3), xI (sz), xI (0), xI (0), xN, xN, xN], xB 12 [xI (3), xI (lt), xI (0), xI (0), xN, xN, xN], xQ 4 MN (f2), xQ 5 MN (f3), xA 1 4 (x_up (x_up (fun _ => 0) (0 : Int).toNat 80) (1 : Int).toNat 114)] 5 rfl) _ _ _) (by omega) (by omega) (by omega) (g_setl _ _ _ _ [xB 12 [xI (7), xI (0), xI (0), xI ((MN : Int)), xN, xC (52 + dy.length + 3), xC (52 + dy.length + 4)], xB 12 [xI (3), xI (sz), xI (0), xI (0), xN, xN, xN], xB 12 [xI (3), xI (lt), xI (0), xI (0), xN, xN, xN], xQ 4 MN (f2), xQ 5 MN (f3), xA 1 4 (x_up (x_up (fun _ => 0) (0 : Int).toNat 80) (1 : Int).toNat 114)] 5 _) ?_
    refine x_dup (x_d C_M_newTrailer 121 rfl) rfl ?_
    refine x_iconst (x_d C_M_newTrailer 122 rfl) ⟨by omega, by omega⟩ ?_
    refine x_bipush (x_d C_M_newTrailer 123 rfl) (by omega) ?_
    refine x_bastore (h1 := hF q (x_up (x_up r 1350 (some cp)) 1351 po) A ++ (dy ++ [xB 12 [xI (7), xI (0), xI (0), xI ((MN : Int)), xN, xC (52 + dy.length + 3), xC (52 + dy.length + 4)], xB 12 [xI (3), xI (sz), xI (0), xI (0), xN, xN, xN], xB 12 [xI (3), xI (lt), xI (0), xI (0), xN, xN, xN], xQ 4 MN (f2), xQ 5 MN (f3), xA 1 4 (x_up (x_up (x_up (x_up (fun _ => 0) (0 : Int).toNat 80) (1 : Int).toNat 114) (2 : Int).toNat 101) (3 : Int).toNat 118)])) (x_d C_M_newTrailer 124 rfl) (ct_get (ct_new dy [xB 12 [xI (7), xI (0), xI (0), xI ((MN : Int)), xN, xC (52 + dy.length + 3), xC (52 + dy.length + 4)], xB 12 [xI (3), xI (sz), xI (0), xI (0), xN, xN, xN], xB 12 [xI (3), xI (lt), xI (0), xI (0), xN, xN, xN], xQ 4 MN (f2), xQ 5 MN (f3), xA 1 4 (x_up (x_up (x_up (fun _ => 0) (0 : Int).toNat 80) (1 : Int).toNat 114) (2 : Int).toNat 101)] 5 rfl) _ _ _) (by omega) (by omega) (by omega) (g_setl _ _ _ _ [xB 12 [xI (7), xI (0), xI (0), xI ((MN : Int)), xN, xC (52 + dy.length + 3), xC (52 + dy.length + 4)], xB 12 [xI (3), xI (sz), xI (0), xI (0), xN, xN, xN], xB 12 [xI (3), xI (lt), xI (0), xI (0), xN, xN, xN], xQ 4 MN (f2), xQ 5 MN (f3), xA 1 4 (x_up (x_up (x_up (fun _ => 0) (0 : Int).toNat 80) (1 : Int).toNat 114) (2 : Int).toNat 101)] 5 _) ?_
    refine x_aastore5 (h1 := hF q (x_up (x_up r 1350 (some cp)) 1351 po) A ++ (dy ++ [xB 12 [xI (7), xI (0), xI (0), xI ((MN : Int)), xN, xC (52 + dy.length + 3), xC (52 + dy.length + 4)], xB 12 [xI (3), xI (sz), xI (0), xI (0), xN, xN, xN], xB 12 [xI (3), xI (lt), xI (0), xI (0), xN, xN, xN], xQ 4 MN (f2), xQ 5 MN (x_up f3 ((L.length : Int)).toNat (some (52 + dy.length + 5))), xA 1 4 (x_up (x_up (x_up (x_up (fun _ => 0) (0 : Int).toNat 80) (1 : Int).toNat 114) (2 : Int).toNat 101) (3 : Int).toNat 118)])) (x_d C_M_newTrailer 125 rfl) (ct_get (ct_new dy [xB 12 [xI (7), xI (0), xI (0), xI ((MN : Int)), xN, xC (52 + dy.length + 3), xC (52 + dy.length + 4)], xB 12 [xI (3), xI (sz), xI (0), xI (0), xN, xN, xN], xB 12 [xI (3), xI (lt), xI (0), xI (0), xN, xN, xN], xQ 4 MN (f2), xQ 5 MN (f3), xA 1 4 (x_up (x_up (x_up (x_up (fun _ => 0) (0 : Int).toNat 80) (1 : Int).toNat 114) (2 : Int).toNat 101) (3 : Int).toNat 118)] 4 rfl) _ _ _) (ct_get (ct_new dy [xB 12 [xI (7), xI (0), xI (0), xI ((MN : Int)), xN, xC (52 + dy.length + 3), xC (52 + dy.length + 4)], xB 12 [xI (3), xI (sz), xI (0), xI (0), xN, xN, xN], xB 12 [xI (3), xI (lt), xI (0), xI (0), xN, xN, xN], xQ 4 MN (f2), xQ 5 MN (f3), xA 1 4 (x_up (x_up (x_up (x_up (fun _ => 0) (0 : Int).toNat 80) (1 : Int).toNat 114) (2 : Int).toNat 101) (3 : Int).toNat 118)] 5 rfl) _ _ _) (by omega) (by omega) (g_setl _ _ _ _ [xB 12 [xI (7), xI (0), xI (0), xI ((MN : Int)), xN, xC (52 + dy.length + 3), xC (52 + dy.length + 4)], xB 12 [xI (3), xI (sz), xI (0), xI (0), xN, xN, xN], xB 12 [xI (3), xI (lt), xI (0), xI (0), xN, xN, xN], xQ 4 MN (f2), xQ 5 MN (f3), xA 1 4 (x_up (x_up (x_up (x_up (fun _ => 0) (0 : Int).toNat 80) (1 : Int).toNat 114) (2 : Int).toNat 101) (3 : Int).toNat 118)] 4 _) ?_
    refine x_aload_n (x_d C_M_newTrailer 126 rfl) rfl ?_
    refine x_getfield (v := xC (52 + dy.length + 3)) (x_d C_M_newTrailer 127 rfl) f_M_141 (ct_get (ct_new0 dy [xB 12 [xI (7), xI (0), xI (0), xI ((MN : Int)), xN, xC (52 + dy.length + 3), xC (52 + dy.length + 4)], xB 12 [xI (3), xI (sz), xI (0), xI (0), xN, xN, xN], xB 12 [xI (3), xI (lt), xI (0), xI (0), xN, xN, xN], xQ 4 MN (f2), xQ 5 MN (x_up f3 ((L.length : Int)).toNat (some (52 + dy.length + 5))), xA 1 4 (x_up (x_up (x_up (x_up (fun _ => 0) (0 : Int).toNat 80) (1 : Int).toNat 114) (2 : Int).toNat 101) (3 : Int).toNat 118)] rfl) _ _ _) rfl ?_
    refine x_aload_n (x_d C_M_newTrailer 128 rfl) rfl ?_
    refine x_getfield (v := xI ((L.length : Int))) (x_d C_M_newTrailer 129 rfl) f_M_145 (ct_get (ct_app hct _) _ _ _) rfl ?_
    refine x_aload (x_d C_M_newTrailer 130 rfl) rfl ?_
    refine x_aastore4 (h1 := hF q (x_up (x_up r 1350 (some cp)) 1351 po) A ++ (dy ++ [xB 12 [xI (7), xI (0), xI (0), xI ((MN : Int)), xN, xC (52 + dy.length + 3), xC (52 + dy.length + 4)], xB 12 [xI (3), xI (sz), xI (0), xI (0), xN, xN, xN], xB 12 [xI (3), xI (lt), xI (0), xI (0), xN, xN, xN], xQ 4 MN (x_up f2 ((L.length : Int)).toNat (some (52 + dy.length + 2))), xQ 5 MN (x_up f3 ((L.length : Int)).toNat (some (52 + dy.length + 5))), xA 1 4 (x_up (x_up (x_up (x_up (fun _ => 0) (0 : Int).toNat 80) (1 : Int).toNat 114) (2 : Int).toNat 101) (3 : Int).toNat 118)])) (x_d C_M_newTrailer 131 rfl) (ct_get (ct_new dy [xB 12 [xI (7), xI (0), xI (0), xI ((MN : Int)), xN, xC (52 + dy.length + 3), xC (52 + dy.length + 4)], xB 12 [xI (3), xI (sz), xI (0), xI (0), xN, xN, xN], xB 12 [xI (3), xI (lt), xI (0), xI (0), xN, xN, xN], xQ 4 MN (f2), xQ 5 MN (x_up f3 ((L.length : Int)).toNat (some (52 + dy.length + 5))), xA 1 4 (x_up (x_up (x_up (x_up (fun _ => 0) (0 : Int).toNat 80) (1 : Int).toNat 114) (2 : Int).toNat 101) (3 : Int).toNat 118)] 3 rfl) _ _ _) (ct_get (ct_new dy [xB 12 [xI (7), xI (0), xI (0), xI ((MN : Int)), xN, xC (52 + dy.length + 3), xC (52 + dy.length + 4)], xB 12 [xI (3), xI (sz), xI (0), xI (0), xN, xN, xN], xB 12 [xI (3), xI (lt), xI (0), xI (0), xN, xN, xN], xQ 4 MN (f2), xQ 5 MN (x_up f3 ((L.length : Int)).toNat (some (52 + dy.length + 5))), xA 1 4 (x_up (x_up (x_up (x_up (fun _ => 0) (0 : Int).toNat 80) (1 : Int).toNat 114) (2 : Int).toNat 101) (3 : Int).toNat 118)] 2 rfl) _ _ _) (by omega) (by omega) (g_setl _ _ _ _ [xB 12 [xI (7), xI (0), xI (0), xI ((MN : Int)), xN, xC (52 + dy.length + 3), xC (52 + dy.length + 4)], xB 12 [xI (3), xI (sz), xI (0), xI (0), xN, xN, xN], xB 12 [xI (3), xI (lt), xI (0), xI (0), xN, xN, xN], xQ 4 MN (f2), xQ 5 MN (x_up f3 ((L.length : Int)).toNat (some (52 + dy.length + 5))), xA 1 4 (x_up (x_up (x_up (x_up (fun _ => 0) (0 : Int).toNat 80) (1 : Int).toNat 114) (2 : Int).toNat 101) (3 : Int).toNat 118)] 3 _) ?_
    refine x_aload_n (x_d C_M_newTrailer 132 rfl) rfl ?_
    refine x_areturn (x_d C_M_newTrailer 133 rfl) ?_
    refine ⟨rfl, [xB 12 [xI (7), xI (0), xI (0), xI ((MN : Int)), xN, xC (52 + dy.length + 3), xC (52 + dy.length + 4)], xB 12 [xI (3), xI (sz), xI (0), xI (0), xN, xN, xN], xB 12 [xI (3), xI (lt), xI (0), xI (0), xN, xN, xN], xQ 4 MN (x_up f2 ((L.length : Int)).toNat (some (52 + dy.length + 2))), xQ 5 MN (x_up f3 ((L.length : Int)).toNat (some (52 + dy.length + 5))), xA 1 4 (x_up (x_up (x_up (x_up (fun _ => 0) (0 : Int).toNat 80) (1 : Int).toNat 114) (2 : Int).toNat 101) (3 : Int).toNat 118)], _, rfl, fun u w => ?_, ct_new0 dy [xB 12 [xI (7), xI (0), xI (0), xI ((MN : Int)), xN, xC (52 + dy.length + 3), xC (52 + dy.length + 4)], xB 12 [xI (3), xI (sz), xI (0), xI (0), xN, xN, xN], xB 12 [xI (3), xI (lt), xI (0), xI (0), xN, xN, xN], xQ 4 MN (x_up f2 ((L.length : Int)).toNat (some (52 + dy.length + 2))), xQ 5 MN (x_up f3 ((L.length : Int)).toNat (some (52 + dy.length + 5))), xA 1 4 (x_up (x_up (x_up (x_up (fun _ => 0) (0 : Int).toNat 80) (1 : Int).toNat 114) (2 : Int).toNat 101) (3 : Int).toNat 118)] rfl, fun d9 q9 r9 A9 hd9 => ?_⟩
    · rw [mu_cons, mu_cons, mu_cons, mu_cons, mu_cons, mu_cons, mu_nil]
      show u + w * 7 + (u + w * 7 + (u + w * 7 + (u + w * MN + (u + w * MN + (u + w * 4 + 0))))) ≤ _
      have e1 : w * MN ≤ w * 61 := Nat.mul_le_mul_left w (by omega)
      omega
    · refine t_trl Z d9 q9 r9 A9 _ X E g P (gok_app hgk _) n2 hE hd9 p L hLe h0 hch h60 fi fn nb nl nf b10 b11 oS oP sz lt hsz hlt (52 + dy.length) (52 + dy.length + 1) (52 + dy.length + 2) (52 + dy.length + 3) (52 + dy.length + 4) MN (x_up f2 ((L.length : Int)).toNat (some (52 + dy.length + 2))) (x_up f3 ((L.length : Int)).toNat (some (52 + dy.length + 5))) (ct_new0 dy [xB 12 [xI (7), xI (0), xI (0), xI ((MN : Int)), xN, xC (52 + dy.length + 3), xC (52 + dy.length + 4)], xB 12 [xI (3), xI (sz), xI (0), xI (0), xN, xN, xN], xB 12 [xI (3), xI (lt), xI (0), xI (0), xN, xN, xN], xQ 4 MN (x_up f2 ((L.length : Int)).toNat (some (52 + dy.length + 2))), xQ 5 MN (x_up f3 ((L.length : Int)).toNat (some (52 + dy.length + 5))), xA 1 4 (x_up (x_up (x_up (x_up (fun _ => 0) (0 : Int).toNat 80) (1 : Int).toNat 114) (2 : Int).toNat 101) (3 : Int).toNat 118)] rfl) (ct_new dy [xB 12 [xI (7), xI (0), xI (0), xI ((MN : Int)), xN, xC (52 + dy.length + 3), xC (52 + dy.length + 4)], xB 12 [xI (3), xI (sz), xI (0), xI (0), xN, xN, xN], xB 12 [xI (3), xI (lt), xI (0), xI (0), xN, xN, xN], xQ 4 MN (x_up f2 ((L.length : Int)).toNat (some (52 + dy.length + 2))), xQ 5 MN (x_up f3 ((L.length : Int)).toNat (some (52 + dy.length + 5))), xA 1 4 (x_up (x_up (x_up (x_up (fun _ => 0) (0 : Int).toNat 80) (1 : Int).toNat 114) (2 : Int).toNat 101) (3 : Int).toNat 118)] 1 rfl) (ct_new dy [xB 12 [xI (7), xI (0), xI (0), xI ((MN : Int)), xN, xC (52 + dy.length + 3), xC (52 + dy.length + 4)], xB 12 [xI (3), xI (sz), xI (0), xI (0), xN, xN, xN], xB 12 [xI (3), xI (lt), xI (0), xI (0), xN, xN, xN], xQ 4 MN (x_up f2 ((L.length : Int)).toNat (some (52 + dy.length + 2))), xQ 5 MN (x_up f3 ((L.length : Int)).toNat (some (52 + dy.length + 5))), xA 1 4 (x_up (x_up (x_up (x_up (fun _ => 0) (0 : Int).toNat 80) (1 : Int).toNat 114) (2 : Int).toNat 101) (3 : Int).toNat 118)] 2 rfl) (ct_new dy [xB 12 [xI (7), xI (0), xI (0), xI ((MN : Int)), xN, xC (52 + dy.length + 3), xC (52 + dy.length + 4)], xB 12 [xI (3), xI (sz), xI (0), xI (0), xN, xN, xN], xB 12 [xI (3), xI (lt), xI (0), xI (0), xN, xN, xN], xQ 4 MN (x_up f2 ((L.length : Int)).toNat (some (52 + dy.length + 2))), xQ 5 MN (x_up f3 ((L.length : Int)).toNat (some (52 + dy.length + 5))), xA 1 4 (x_up (x_up (x_up (x_up (fun _ => 0) (0 : Int).toNat 80) (1 : Int).toNat 114) (2 : Int).toNat 101) (3 : Int).toNat 118)] 3 rfl) (ct_new dy [xB 12 [xI (7), xI (0), xI (0), xI ((MN : Int)), xN, xC (52 + dy.length + 3), xC (52 + dy.length + 4)], xB 12 [xI (3), xI (sz), xI (0), xI (0), xN, xN, xN], xB 12 [xI (3), xI (lt), xI (0), xI (0), xN, xN, xN], xQ 4 MN (x_up f2 ((L.length : Int)).toNat (some (52 + dy.length + 2))), xQ 5 MN (x_up f3 ((L.length : Int)).toNat (some (52 + dy.length + 5))), xA 1 4 (x_up (x_up (x_up (x_up (fun _ => 0) (0 : Int).toNat 80) (1 : Int).toNat 114) (2 : Int).toNat 101) (3 : Int).toNat 118)] 4 rfl) ?_ _ _ rfl rfl hSs hPs hSz ?_
      · intro j hj
        rw [x_up_n _ _ (show ¬ j = (L.length : Int).toNat by omega), x_up_n _ _ (show ¬ j = (L.length : Int).toNat by omega)]
        exact hf j hj
      · refine Or.inr ⟨hoP, by omega, ?_, _, _, ?_, ct_new dy [xB 12 [xI (7), xI (0), xI (0), xI ((MN : Int)), xN, xC (52 + dy.length + 3), xC (52 + dy.length + 4)], xB 12 [xI (3), xI (sz), xI (0), xI (0), xN, xN, xN], xB 12 [xI (3), xI (lt), xI (0), xI (0), xN, xN, xN], xQ 4 MN (x_up f2 ((L.length : Int)).toNat (some (52 + dy.length + 2))), xQ 5 MN (x_up f3 ((L.length : Int)).toNat (some (52 + dy.length + 5))), xA 1 4 (x_up (x_up (x_up (x_up (fun _ => 0) (0 : Int).toNat 80) (1 : Int).toNat 114) (2 : Int).toNat 101) (3 : Int).toNat 118)] 5 rfl, ?_⟩
        · exact x_up_s _ _ _
        · exact x_up_s _ _ _
        · rfl
  | some i =>
    have hil : i < L.length := by rcases hPs with ⟨z, _⟩ | ⟨k, z, z2, _⟩; rw [hoP] at z; cases z; rw [hoP] at z; cases z; exact z2
    obtain ⟨c5, fs5, hc5, hg5⟩ := hit i hil
    obtain ⟨MN, hMN⟩ : ∃ MN : Nat, (MN : Int) = (L.length : Int) + 0 := ⟨L.length, (Int.add_zero _).symm⟩
    refine x_aload_n (x_d C_M_newTrailer 0 rfl) rfl ?_
    refine x_getfield (v := xC cp) (x_d C_M_newTrailer 1 rfl) f_M_207 rfl rfl ?_
    refine x_getfield (v := xC ctr) (x_d C_M_newTrailer 2 rfl) f_M_264 (ct_get hpp _ _ _) rfl ?_
    refine x_astore_n (l1 := [(1, xC ctr), (0, xC 42)]) (x_d C_M_newTrailer 3 rfl) (by decide) rfl ?_
    refine x_newL (k := 52 + dy.length) (h1 := hF q (x_up (x_up r 1350 (some cp)) 1351 po) A ++ (dy ++ [xB 12 [xI (0), xI (0), xI (0), xI (0), xN, xN, xN]])) (x_d C_M_newTrailer 4 rfl) n_M_82 (g_len0 _ _ _ _) (g_push0 _ _ _ _ _) ?_
    refine x_dup (x_d C_M_newTrailer 5 rfl) rfl ?_
    refine x_bipush (x_d C_M_newTrailer 6 rfl) (by omega) ?_
    refine x_invokespecial (st := [xC (52 + dy.length)]) (av := [xI (7)]) (x_d C_M_newTrailer 7 rfl) k_M_84 m_MQ_init rfl v_MQ_init rfl (Nat.le_of_ble_eq_true rfl) (by omega) rfl (c_MQ_init Z (d - 1) (hF q (x_up (x_up r 1350 (some cp)) 1351 po) A ++ (dy ++ [xB 12 [xI (0), xI (0), xI (0), xI (0), xN, xN, xN]])) (by omega) (52 + dy.length) 7 (ct_get (ct_new0 dy [xB 12 [xI (0), xI (0), xI (0), xI (0), xN, xN, xN]] rfl) _ _ _)) ?_
    rintro _ h_ ⟨rfl, hh_⟩
    obtain rfl : h_ = hF q (x_up (x_up r 1350 (some cp)) 1351 po) A ++ (dy ++ [xB 12 [xI (7), xI (0), xI (0), xI (0), xN, xN, xN]]) := hh_.trans (g_setl0 _ _ _ _ [xB 12 [xI (0), xI (0), xI (0), xI (0), xN, xN, xN]] _)
    refine x_astore_n (l1 := [(2, xC (52 + dy.length)), (1, xC ctr), (0, xC 42)]) (x_d C_M_newTrailer 8 rfl) (by decide) rfl ?_
    refine x_newL (k := 52 + dy.length + 1) (h1 := hF q (x_up (x_up r 1350 (some cp)) 1351 po) A ++ (dy ++ [xB 12 [xI (7), xI (0), xI (0), xI (0), xN, xN, xN], xB 12 [xI (0), xI (0), xI (0), xI (0), xN, xN, xN]])) (x_d C_M_newTrailer 9 rfl) n_M_82 (g_len _ _ _ _ [xB 12 [xI (7), xI (0), xI (0), xI (0), xN, xN, xN]] rfl) (g_push _ _ _ _ [xB 12 [xI (7), xI (0), xI (0), xI (0), xN, xN, xN]] _) ?_
    refine x_dup (x_d C_M_newTrailer 10 rfl) rfl ?_
    refine x_iconst (x_d C_M_newTrailer 11 rfl) ⟨by omega, by omega⟩ ?_
    refine x_invokespecial (st := [xC (52 + dy.length + 1)]) (av := [xI (3)]) (x_d C_M_newTrailer 12 rfl) k_M_84 m_MQ_init rfl v_MQ_init rfl (Nat.le_of_ble_eq_true rfl) (by omega) rfl (c_MQ_init Z (d - 1) (hF q (x_up (x_up r 1350 (some cp)) 1351 po) A ++ (dy ++ [xB 12 [xI (7), xI (0), xI (0), xI (0), xN, xN, xN], xB 12 [xI (0), xI (0), xI (0), xI (0), xN, xN, xN]])) (by omega) (52 + dy.length + 1) 3 (ct_get (ct_new dy [xB 12 [xI (7), xI (0), xI (0), xI (0), xN, xN, xN], xB 12 [xI (0), xI (0), xI (0), xI (0), xN, xN, xN]] 1 rfl) _ _ _)) ?_
    rintro _ h_ ⟨rfl, hh_⟩
    obtain rfl : h_ = hF q (x_up (x_up r 1350 (some cp)) 1351 po) A ++ (dy ++ [xB 12 [xI (7), xI (0), xI (0), xI (0), xN, xN, xN], xB 12 [xI (3), xI (0), xI (0), xI (0), xN, xN, xN]]) := hh_.trans (g_setl _ _ _ _ [xB 12 [xI (7), xI (0), xI (0), xI (0), xN, xN, xN], xB 12 [xI (0), xI (0), xI (0), xI (0), xN, xN, xN]] 1 _)
    refine x_astore_n (l1 := [(3, xC (52 + dy.length + 1)), (2, xC (52 + dy.length)), (1, xC ctr), (0, xC 42)]) (x_d C_M_newTrailer 13 rfl) (by decide) rfl ?_
    refine x_newL (k := 52 + dy.length + 2) (h1 := hF q (x_up (x_up r 1350 (some cp)) 1351 po) A ++ (dy ++ [xB 12 [xI (7), xI (0), xI (0), xI (0), xN, xN, xN], xB 12 [xI (3), xI (0), xI (0), xI (0), xN, xN, xN], xB 12 [xI (0), xI (0), xI (0), xI (0), xN, xN, xN]])) (x_d C_M_newTrailer 14 rfl) n_M_82 (g_len _ _ _ _ [xB 12 [xI (7), xI (0), xI (0), xI (0), xN, xN, xN], xB 12 [xI (3), xI (0), xI (0), xI (0), xN, xN, xN]] rfl) (g_push _ _ _ _ [xB 12 [xI (7), xI (0), xI (0), xI (0), xN, xN, xN], xB 12 [xI (3), xI (0), xI (0), xI (0), xN, xN, xN]] _) ?_
    refine x_dup (x_d C_M_newTrailer 15 rfl) rfl ?_
    refine x_iconst (x_d C_M_newTrailer 16 rfl) ⟨by omega, by omega⟩ ?_
    refine x_invokespecial (st := [xC (52 + dy.length + 2)]) (av := [xI (3)]) (x_d C_M_newTrailer 17 rfl) k_M_84 m_MQ_init rfl v_MQ_init rfl (Nat.le_of_ble_eq_true rfl) (by omega) rfl (c_MQ_init Z (d - 1) (hF q (x_up (x_up r 1350 (some cp)) 1351 po) A ++ (dy ++ [xB 12 [xI (7), xI (0), xI (0), xI (0), xN, xN, xN], xB 12 [xI (3), xI (0), xI (0), xI (0), xN, xN, xN], xB 12 [xI (0), xI (0), xI (0), xI (0), xN, xN, xN]])) (by omega) (52 + dy.length + 2) 3 (ct_get (ct_new dy [xB 12 [xI (7), xI (0), xI (0), xI (0), xN, xN, xN], xB 12 [xI (3), xI (0), xI (0), xI (0), xN, xN, xN], xB 12 [xI (0), xI (0), xI (0), xI (0), xN, xN, xN]] 2 rfl) _ _ _)) ?_
    rintro _ h_ ⟨rfl, hh_⟩
    obtain rfl : h_ = hF q (x_up (x_up r 1350 (some cp)) 1351 po) A ++ (dy ++ [xB 12 [xI (7), xI (0), xI (0), xI (0), xN, xN, xN], xB 12 [xI (3), xI (0), xI (0), xI (0), xN, xN, xN], xB 12 [xI (3), xI (0), xI (0), xI (0), xN, xN, xN]]) := hh_.trans (g_setl _ _ _ _ [xB 12 [xI (7), xI (0), xI (0), xI (0), xN, xN, xN], xB 12 [xI (3), xI (0), xI (0), xI (0), xN, xN, xN], xB 12 [xI (0), xI (0), xI (0), xI (0), xN, xN, xN]] 2 _)
    refine x_astore (l1 := [(4, xC (52 + dy.length + 2)), (3, xC (52 + dy.length + 1)), (2, xC (52 + dy.length)), (1, xC ctr), (0, xC 42)]) (x_d C_M_newTrailer 18 rfl) (by decide) rfl ?_
    refine x_aload_n (x_d C_M_newTrailer 19 rfl) rfl ?_
    refine x_aload_n (x_d C_M_newTrailer 20 rfl) rfl ?_
    refine x_getfield (v := xC cp) (x_d C_M_newTrailer 21 rfl) f_M_207 rfl rfl ?_
    refine x_getfield (v := xI (sz)) (x_d C_M_newTrailer 22 rfl) f_M_266 (ct_get (ct_app hpp _) _ _ _) rfl ?_
    refine x_putfield (h1 := hF q (x_up (x_up r 1350 (some cp)) 1351 po) A ++ (dy ++ [xB 12 [xI (7), xI (0), xI (0), xI (0), xN, xN, xN], xB 12 [xI (3), xI (sz), xI (0), xI (0), xN, xN, xN], xB 12 [xI (3), xI (0), xI (0), xI (0), xN, xN, xN]])) (x_d C_M_newTrailer 23 rfl) p_M_95 (ct_get (ct_new dy [xB 12 [xI (7), xI (0), xI (0), xI (0), xN, xN, xN], xB 12 [xI (3), xI (0), xI (0), xI (0), xN, xN, xN], xB 12 [xI (3), xI (0), xI (0), xI (0), xN, xN, xN]] 1 rfl) _ _ _) rfl rfl trivial (g_setl _ _ _ _ [xB 12 [xI (7), xI (0), xI (0), xI (0), xN, xN, xN], xB 12 [xI (3), xI (0), xI (0), xI (0), xN, xN, xN], xB 12 [xI (3), xI (0), xI (0), xI (0), xN, xN, xN]] 1 _) ?_
    refine x_aload (x_d C_M_newTrailer 24 rfl) rfl ?_
    refine x_aload_n (x_d C_M_newTrailer 25 rfl) rfl ?_
    refine x_getfield (v := xC cp) (x_d C_M_newTrailer 26 rfl) f_M_207 rfl rfl ?_
    refine x_getfield (v := xI (lt)) (x_d C_M_newTrailer 27 rfl) f_M_221 (ct_get (ct_app hpp _) _ _ _) rfl ?_
    refine x_putfield (h1 := hF q (x_up (x_up r 1350 (some cp)) 1351 po) A ++ (dy ++ [xB 12 [xI (7), xI (0), xI (0), xI (0), xN, xN, xN], xB 12 [xI (3), xI (sz), xI (0), xI (0), xN, xN, xN], xB 12 [xI (3), xI (lt), xI (0), xI (0), xN, xN, xN]])) (x_d C_M_newTrailer 28 rfl) p_M_95 (ct_get (ct_new dy [xB 12 [xI (7), xI (0), xI (0), xI (0), xN, xN, xN], xB 12 [xI (3), xI (sz), xI (0), xI (0), xN, xN, xN], xB 12 [xI (3), xI (0), xI (0), xI (0), xN, xN, xN]] 2 rfl) _ _ _) rfl rfl trivial (g_setl _ _ _ _ [xB 12 [xI (7), xI (0), xI (0), xI (0), xN, xN, xN], xB 12 [xI (3), xI (sz), xI (0), xI (0), xN, xN, xN], xB 12 [xI (3), xI (0), xI (0), xI (0), xN, xN, xN]] 2 _) ?_
    refine x_aload_n (x_d C_M_newTrailer 29 rfl) rfl ?_
    refine x_ldcSw (i := 65) (x_d C_M_newTrailer 30 rfl) rfl ?_
    refine x_invokevirtual (st := []) (av := [xS (131)]) (x_d C_M_newTrailer 31 rfl) k_M_256 m_MQ_get2 v_MQ_get2 cl_MQ (ct_get (ct_app hct _) _ _ _) rfl (Nat.le_of_ble_eq_true rfl) (by omega) rfl (c_MQ_get2 Z (d - 1) (hF q (x_up (x_up r 1350 (some cp)) 1351 po) A ++ (dy ++ [xB 12 [xI (7), xI (0), xI (0), xI (0), xN, xN, xN], xB 12 [xI (3), xI (sz), xI (0), xI (0), xN, xN, xN], xB 12 [xI (3), xI (lt), xI (0), xI (0), xN, xN, xN]])) (by omega) ctr ci cn cap cap2 7 x y (L.length : Int) bt2 fi fn nb nl nf (ct_get (ct_app hct _) _ _ _) (ct_get (ct_app hci _) _ _ _) (ct_get (ct_app hcn _) _ _ _) (by omega) (fun k hk9 => ⟨(hnm k (by omega)).1, (ct_get (ct_app (hnm k (by omega)).2.1 _) _ _ _), (hnm k (by omega)).2.2⟩) (si := 65) rfl (by decide)) ?_
    rintro v_ h_ ⟨hv_, hh_⟩
    rw [hh_]
    clear hh_
    obtain rfl : v_ = some (xC c5) := by rw [hv_, show ((L.length : Nat) : Int).toNat = L.length by omega]; show some (xO ((s_idx (fun k => decide ((nl k : Int) = ([80, 114, 101, 118] : List Int).length) && s_eqf (nf k) (fun i => ([80, 114, 101, 118] : List Int).getD i 0) 0 ([80, 114, 101, 118] : List Int).length) L.length 0).bind fi)) = _; rw [← hP, hoP]; show some (xO (fi i)) = _; rw [hc5]
    refine x_ifnullC (tgt := 74) (x_d C_M_newTrailer 32 rfl) rfl ?_
    refine x_iconst (x_d C_M_newTrailer 33 rfl) ⟨by omega, by omega⟩ ?_
    refine x_goto (tgt := 75) (x_d C_M_newTrailer 34 rfl) rfl ?_
    refine x_istore (l1 := [(5, xI (1)), (4, xC (52 + dy.length + 2)), (3, xC (52 + dy.length + 1)), (2, xC (52 + dy.length)), (1, xC ctr), (0, xC 42)]) (x_d C_M_newTrailer 36 rfl) (by decide) rfl ?_
    refine x_aload_n (x_d C_M_newTrailer 37 rfl) rfl ?_
    refine x_aload_n (x_d C_M_newTrailer 38 rfl) rfl ?_
    refine x_getfield (v := xI ((L.length : Int))) (x_d C_M_newTrailer 39 rfl) f_M_145 (ct_get (ct_app hct _) _ _ _) rfl ?_
    refine x_iload (x_d C_M_newTrailer 40 rfl) rfl ?_
    refine x_if_eq (tgt := 91) (x_d C_M_newTrailer 41 rfl) rfl (fun q => absurd q (by omega)) (fun _ => ?_)
    refine x_iconst (x_d C_M_newTrailer 42 rfl) ⟨by omega, by omega⟩ ?_
    refine x_goto (tgt := 92) (x_d C_M_newTrailer 43 rfl) rfl ?_
    refine x_iadd (x_d C_M_newTrailer 45 rfl) ⟨by omega, by omega⟩ ?_
    rw [← hMN]
    refine x_putfield (h1 := hF q (x_up (x_up r 1350 (some cp)) 1351 po) A ++ (dy ++ [xB 12 [xI (7), xI (0), xI (0), xI ((MN : Int)), xN, xN, xN], xB 12 [xI (3), xI (sz), xI (0), xI (0), xN, xN, xN], xB 12 [xI (3), xI (lt), xI (0), xI (0), xN, xN, xN]])) (x_d C_M_newTrailer 46 rfl) p_M_145 (ct_get (ct_new0 dy [xB 12 [xI (7), xI (0), xI (0), xI (0), xN, xN, xN], xB 12 [xI (3), xI (sz), xI (0), xI (0), xN, xN, xN], xB 12 [xI (3), xI (lt), xI (0), xI (0), xN, xN, xN]] rfl) _ _ _) rfl rfl trivial (g_setl0 _ _ _ _ [xB 12 [xI (7), xI (0), xI (0), xI (0), xN, xN, xN], xB 12 [xI (3), xI (sz), xI (0), xI (0), xN, xN, xN], xB 12 [xI (3), xI (lt), xI (0), xI (0), xN, xN, xN]] _) ?_
    refine x_aload_n (x_d C_M_newTrailer 47 rfl) rfl ?_
    refine x_aload_n (x_d C_M_newTrailer 48 rfl) rfl ?_
    refine x_getfield (v := xI ((MN : Int))) (x_d C_M_newTrailer 49 rfl) f_M_145 (ct_get (ct_new0 dy [xB 12 [xI (7), xI (0), xI (0), xI ((MN : Int)), xN, xN, xN], xB 12 [xI (3), xI (sz), xI (0), xI (0), xN, xN, xN], xB 12 [xI (3), xI (lt), xI (0), xI (0), xN, xN, xN]] rfl) _ _ _) rfl ?_
    refine x_anewarray4 (k := 52 + dy.length + 3) (h1 := hF q (x_up (x_up r 1350 (some cp)) 1351 po) A ++ (dy ++ [xB 12 [xI (7), xI (0), xI (0), xI ((MN : Int)), xN, xN, xN], xB 12 [xI (3), xI (sz), xI (0), xI (0), xN, xN, xN], xB 12 [xI (3), xI (lt), xI (0), xI (0), xN, xN, xN], xQ 4 ((MN : Int)).toNat (fun _ => none)])) (x_d C_M_newTrailer 50 rfl) qn_M_82 (by omega) (by omega) (g_len _ _ _ _ [xB 12 [xI (7), xI (0), xI (0), xI ((MN : Int)), xN, xN, xN], xB 12 [xI (3), xI (sz), xI (0), xI (0), xN, xN, xN], xB 12 [xI (3), xI (lt), xI (0), xI (0), xN, xN, xN]] rfl) (g_push _ _ _ _ [xB 12 [xI (7), xI (0), xI (0), xI ((MN : Int)), xN, xN, xN], xB 12 [xI (3), xI (sz), xI (0), xI (0), xN, xN, xN], xB 12 [xI (3), xI (lt), xI (0), xI (0), xN, xN, xN]] _) ?_
    refine x_putfield (h1 := hF q (x_up (x_up r 1350 (some cp)) 1351 po) A ++ (dy ++ [xB 12 [xI (7), xI (0), xI (0), xI ((MN : Int)), xN, xC (52 + dy.length + 3), xN], xB 12 [xI (3), xI (sz), xI (0), xI (0), xN, xN, xN], xB 12 [xI (3), xI (lt), xI (0), xI (0), xN, xN, xN], xQ 4 ((MN : Int)).toNat (fun _ => none)])) (x_d C_M_newTrailer 51 rfl) p_M_141 (ct_get (ct_new0 dy [xB 12 [xI (7), xI (0), xI (0), xI ((MN : Int)), xN, xN, xN], xB 12 [xI (3), xI (sz), xI (0), xI (0), xN, xN, xN], xB 12 [xI (3), xI (lt), xI (0), xI (0), xN, xN, xN], xQ 4 ((MN : Int)).toNat (fun _ => none)] rfl) _ _ _) rfl rfl trivial (g_setl0 _ _ _ _ [xB 12 [xI (7), xI (0), xI (0), xI ((MN : Int)), xN, xN, xN], xB 12 [xI (3), xI (sz), xI (0), xI (0), xN, xN, xN], xB 12 [xI (3), xI (lt), xI (0), xI (0), xN, xN, xN], xQ 4 ((MN : Int)).toNat (fun _ => none)] _) ?_
    refine x_aload_n (x_d C_M_newTrailer 52 rfl) rfl ?_
    refine x_aload_n (x_d C_M_newTrailer 53 rfl) rfl ?_
    refine x_getfield (v := xI ((MN : Int))) (x_d C_M_newTrailer 54 rfl) f_M_145 (ct_get (ct_new0 dy [xB 12 [xI (7), xI (0), xI (0), xI ((MN : Int)), xN, xC (52 + dy.length + 3), xN], xB 12 [xI (3), xI (sz), xI (0), xI (0), xN, xN, xN], xB 12 [xI (3), xI (lt), xI (0), xI (0), xN, xN, xN], xQ 4 ((MN : Int)).toNat (fun _ => none)] rfl) _ _ _) rfl ?_
    refine x_anewarray5 (k := 52 + dy.length + 4) (h1 := hF q (x_up (x_up r 1350 (some cp)) 1351 po) A ++ (dy ++ [xB 12 [xI (7), xI (0), xI (0), xI ((MN : Int)), xN, xC (52 + dy.length + 3), xN], xB 12 [xI (3), xI (sz), xI (0), xI (0), xN, xN, xN], xB 12 [xI (3), xI (lt), xI (0), xI (0), xN, xN, xN], xQ 4 ((MN : Int)).toNat (fun _ => none), xQ 5 ((MN : Int)).toNat (fun _ => none)])) (x_d C_M_newTrailer 55 rfl) qn_M_155 (by omega) (by omega) (g_len _ _ _ _ [xB 12 [xI (7), xI (0), xI (0), xI ((MN : Int)), xN, xC (52 + dy.length + 3), xN], xB 12 [xI (3), xI (sz), xI (0), xI (0), xN, xN, xN], xB 12 [xI (3), xI (lt), xI (0), xI (0), xN, xN, xN], xQ 4 ((MN : Int)).toNat (fun _ => none)] rfl) (g_push _ _ _ _ [xB 12 [xI (7), xI (0), xI (0), xI ((MN : Int)), xN, xC (52 + dy.length + 3), xN], xB 12 [xI (3), xI (sz), xI (0), xI (0), xN, xN, xN], xB 12 [xI (3), xI (lt), xI (0), xI (0), xN, xN, xN], xQ 4 ((MN : Int)).toNat (fun _ => none)] _) ?_
    refine x_putfield (h1 := hF q (x_up (x_up r 1350 (some cp)) 1351 po) A ++ (dy ++ [xB 12 [xI (7), xI (0), xI (0), xI ((MN : Int)), xN, xC (52 + dy.length + 3), xC (52 + dy.length + 4)], xB 12 [xI (3), xI (sz), xI (0), xI (0), xN, xN, xN], xB 12 [xI (3), xI (lt), xI (0), xI (0), xN, xN, xN], xQ 4 ((MN : Int)).toNat (fun _ => none), xQ 5 ((MN : Int)).toNat (fun _ => none)])) (x_d C_M_newTrailer 56 rfl) p_M_156 (ct_get (ct_new0 dy [xB 12 [xI (7), xI (0), xI (0), xI ((MN : Int)), xN, xC (52 + dy.length + 3), xN], xB 12 [xI (3), xI (sz), xI (0), xI (0), xN, xN, xN], xB 12 [xI (3), xI (lt), xI (0), xI (0), xN, xN, xN], xQ 4 ((MN : Int)).toNat (fun _ => none), xQ 5 ((MN : Int)).toNat (fun _ => none)] rfl) _ _ _) rfl rfl trivial (g_setl0 _ _ _ _ [xB 12 [xI (7), xI (0), xI (0), xI ((MN : Int)), xN, xC (52 + dy.length + 3), xN], xB 12 [xI (3), xI (sz), xI (0), xI (0), xN, xN, xN], xB 12 [xI (3), xI (lt), xI (0), xI (0), xN, xN, xN], xQ 4 ((MN : Int)).toNat (fun _ => none), xQ 5 ((MN : Int)).toNat (fun _ => none)] _) ?_
    refine x_iconst (x_d C_M_newTrailer 57 rfl) ⟨by omega, by omega⟩ ?_
    refine x_istore (l1 := [(6, xI (0)), (5, xI (1)), (4, xC (52 + dy.length + 2)), (3, xC (52 + dy.length + 1)), (2, xC (52 + dy.length)), (1, xC ctr), (0, xC 42)]) (x_d C_M_newTrailer 58 rfl) (by decide) rfl ?_
    refine x_locs [6, 5, 4, 3, 2, 1, 0] rfl ?_
    refine w_M_newTrailer_121 Z d q (x_up (x_up r 1350 (some cp)) 1351 po) A dy (by omega) ctr ci cn cap cap2 7 x y L bt2 fi fn nb nl nf hct hci hcn hl hnm hit hdj oS oP hS hP sz lt 1 MN (by omega) _ (fun f2 f3 hf => ?_) L.length 0 _ _ (by omega) (fun j hj => absurd hj (by omega))
    refine x_iload (x_d C_M_newTrailer 101 rfl) rfl ?_
    refine x_if_ne (tgt := 254) (x_d C_M_newTrailer 102 rfl) rfl (fun _ => ?_) (fun q => absurd q (by omega))
    refine x_aload_n (x_d C_M_newTrailer 132 rfl) rfl ?_
    refine x_areturn (x_d C_M_newTrailer 133 rfl) ?_
    refine ⟨rfl, [xB 12 [xI (7), xI (0), xI (0), xI ((MN : Int)), xN, xC (52 + dy.length + 3), xC (52 + dy.length + 4)], xB 12 [xI (3), xI (sz), xI (0), xI (0), xN, xN, xN], xB 12 [xI (3), xI (lt), xI (0), xI (0), xN, xN, xN], xQ 4 MN (f2), xQ 5 MN (f3)], _, rfl, fun u w => ?_, ct_new0 dy [xB 12 [xI (7), xI (0), xI (0), xI ((MN : Int)), xN, xC (52 + dy.length + 3), xC (52 + dy.length + 4)], xB 12 [xI (3), xI (sz), xI (0), xI (0), xN, xN, xN], xB 12 [xI (3), xI (lt), xI (0), xI (0), xN, xN, xN], xQ 4 MN (f2), xQ 5 MN (f3)] rfl, fun d9 q9 r9 A9 hd9 => ?_⟩
    · rw [mu_cons, mu_cons, mu_cons, mu_cons, mu_cons, mu_nil]
      show u + w * 7 + (u + w * 7 + (u + w * 7 + (u + w * MN + (u + w * MN + 0)))) ≤ _
      have e1 : w * MN ≤ w * 61 := Nat.mul_le_mul_left w (by omega)
      omega
    · refine t_trl Z d9 q9 r9 A9 _ X E g P (gok_app hgk _) n2 hE hd9 p L hLe h0 hch h60 fi fn nb nl nf b10 b11 oS oP sz lt hsz hlt (52 + dy.length) (52 + dy.length + 1) (52 + dy.length + 2) (52 + dy.length + 3) (52 + dy.length + 4) MN (f2) (f3) (ct_new0 dy [xB 12 [xI (7), xI (0), xI (0), xI ((MN : Int)), xN, xC (52 + dy.length + 3), xC (52 + dy.length + 4)], xB 12 [xI (3), xI (sz), xI (0), xI (0), xN, xN, xN], xB 12 [xI (3), xI (lt), xI (0), xI (0), xN, xN, xN], xQ 4 MN (f2), xQ 5 MN (f3)] rfl) (ct_new dy [xB 12 [xI (7), xI (0), xI (0), xI ((MN : Int)), xN, xC (52 + dy.length + 3), xC (52 + dy.length + 4)], xB 12 [xI (3), xI (sz), xI (0), xI (0), xN, xN, xN], xB 12 [xI (3), xI (lt), xI (0), xI (0), xN, xN, xN], xQ 4 MN (f2), xQ 5 MN (f3)] 1 rfl) (ct_new dy [xB 12 [xI (7), xI (0), xI (0), xI ((MN : Int)), xN, xC (52 + dy.length + 3), xC (52 + dy.length + 4)], xB 12 [xI (3), xI (sz), xI (0), xI (0), xN, xN, xN], xB 12 [xI (3), xI (lt), xI (0), xI (0), xN, xN, xN], xQ 4 MN (f2), xQ 5 MN (f3)] 2 rfl) (ct_new dy [xB 12 [xI (7), xI (0), xI (0), xI ((MN : Int)), xN, xC (52 + dy.length + 3), xC (52 + dy.length + 4)], xB 12 [xI (3), xI (sz), xI (0), xI (0), xN, xN, xN], xB 12 [xI (3), xI (lt), xI (0), xI (0), xN, xN, xN], xQ 4 MN (f2), xQ 5 MN (f3)] 3 rfl) (ct_new dy [xB 12 [xI (7), xI (0), xI (0), xI ((MN : Int)), xN, xC (52 + dy.length + 3), xC (52 + dy.length + 4)], xB 12 [xI (3), xI (sz), xI (0), xI (0), xN, xN, xN], xB 12 [xI (3), xI (lt), xI (0), xI (0), xN, xN, xN], xQ 4 MN (f2), xQ 5 MN (f3)] 4 rfl) ?_ _ _ rfl rfl hSs hPs hSz ?_
      · exact hf
      · exact Or.inl ⟨fun z => absurd (hoP.symm.trans z) (by exact fun z => nomatch z), by omega⟩
