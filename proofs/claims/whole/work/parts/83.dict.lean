/-! the reference: reading dictionaries -/
theorem DS_names {X : Nat → Int} {E : Int} {dy : xH} {g : Nat → Option xE} {p D : Nat} {ny : xH} {ci cn cap cap2 : Nat} {fi fn : Nat → Option Nat} {gk : Nat → Option xE} {L : List Int} {acc : List tk} {ns : List Int} (h : DS X E dy g p D ny ci cn cap cap2 fi fn gk L acc ns) : ∃ (nb nl : Nat → Nat) (nf : Nat → Nat → Int), ∀ k, k < L.length → fn k = some (nb k) ∧ gk (nb k) = some (xA 1 (nl k) (nf k)) ∧ nmw X E (ns.getD k 0) (nl k) (nf k) := by
  obtain ⟨-, -, -, -, -, -, -, -, -, -, a11, -⟩ := h
  have hc : ∀ k : Nat, ∃ y : Nat × Nat × (Nat → Int), k < L.length → fn k = some y.1 ∧ gk y.1 = some (xA 1 y.2.1 y.2.2) ∧ nmw X E (ns.getD k 0) y.2.1 y.2.2 := fun k => by
    by_cases hk : k < L.length
    · obtain ⟨-, cb, len, fb, z2, z3, z4⟩ := a11 k hk
      exact ⟨(cb, len, fb), fun _ => ⟨z2, z3, z4⟩⟩
    · exact ⟨(0, 0, fun _ => 0), fun z => absurd z hk⟩
  obtain ⟨F, hF1⟩ := Classical.axiomOfChoice hc
  exact ⟨fun k => (F k).1, fun k => (F k).2.1, fun k => (F k).2.2, hF1⟩
theorem s_txt62 {b : Nat → Int} (hB : ∀ j, -128 ≤ b j ∧ b j ≤ 127) (n i : Int) : (s_byte b n i = 62 ∧ s_byte b n (i + 1) = 62 ∧ s_txt b n i [62, 62] = i + 2) ∨ (¬ (s_byte b n i = 62 ∧ s_byte b n (i + 1) = 62) ∧ s_txt b n i [62, 62] = -1) := by
  have h0 := s_byte_in b n i
  have h1 := s_byte_in b n (i + 1)
  have B0 := hB i.toNat
  have B1 := hB (i + 1).toNat
  have hm : s_match b [62, 62] i.toNat = (decide (b i.toNat = 62) && (decide (b (i.toNat + 1) = 62) && true)) := rfl
  by_cases c : s_byte b n i = 62 ∧ s_byte b n (i + 1) = 62
  · refine Or.inl ⟨c.1, c.2, ?_⟩
    have e1 : b i.toNat = 62 := by omega
    have e2 : b (i.toNat + 1) = 62 := by rw [show i.toNat + 1 = (i + 1).toNat by omega]; omega
    unfold s_txt
    rw [if_pos ⟨by omega, by show i + 2 ≤ n; omega, by rw [hm, e1, e2]; rfl⟩]
    rfl
  · refine Or.inr ⟨c, ?_⟩
    unfold s_txt
    rw [if_neg]
    rintro ⟨z1, z2, z3⟩
    have z2 : i + 2 ≤ n := z2
    rw [hm, Bool.and_eq_true, Bool.and_eq_true, decide_eq_true_eq, decide_eq_true_eq, show i.toNat + 1 = (i + 1).toNat by omega] at z3
    omega
theorem s_ents_62 {F : Int → Option (List tk × Int)} {b : Nat → Int} {n i : Int} {m : Nat} {ns : List Int} (h : s_byte b n i = 62) (h2 : s_txt b n i [62, 62] = -1) : s_ents F b n m i ns = none := by
  rw [s_ents_end h, h2, if_neg (by omega)]
theorem s_ents_ok2 {F : Int → Option (List tk × Int)} {b : Nat → Int} {n i : Int} {m : Nat} {ns : List Int} (h : s_byte b n i = 62) (h2 : s_txt b n i [62, 62] = i + 2) (h0 : 0 ≤ i) : s_ents F b n m i ns = some ([], i + 2) := by
  rw [s_ents_end h, h2, if_pos (by omega)]
theorem s_ents_bad {F : Int → Option (List tk × Int)} {b : Nat → Int} {n i : Int} {m : Nat} {ns : List Int} (h : ¬ s_byte b n i = 62) (h2 : s_name b n i < 0) : s_ents F b n m i ns = none := by
  cases m with
  | zero => exact s_ents_0 h
  | succ m =>
    rw [s_ents_s h, if_pos h2]
    split <;> rfl
theorem w_M_dict_162 (Z : xZ) (d : Nat) (h : xH) (e : Int) (p ci cn cap mm c3 c : Nat) (fn : Nat → Option Nat) (hp : h[p]? = some (xB 12 [xI 7, xI 0, xI 0, xI (mm : Int), xN, xC ci, xC cn])) (hc : h[cn]? = some (xQ 5 cap fn)) (hmm : mm = cap) (hcap : (cap : Int) ≤ 1000) (hall : ∀ k, k < cap → ∃ cb len fb, fn k = some cb ∧ h[cb]? = some (xA 1 len fb)) (Q : Option xV → xH → Prop) (kk : xW Z d Y_M_dict 189 [(0, xC 42), (1, xI e), (2, xC p), (3, xC c3), (4, xC c), (5, xC h.length), (6, xI cap)] [] (h ++ [xQ 5 (2 * cap) (s_cpq fn cap)]) Q) : ∀ (m : Nat) (t : Int), (0 ≤ t ∧ t + m = cap) → xW Z d Y_M_dict 162 [(0, xC 42), (1, xI e), (2, xC p), (3, xC c3), (4, xC c), (5, xC h.length), (6, xI t)] [] (h ++ [xQ 5 (2 * cap) (s_cpq fn t)]) Q := by
  intro m
  induction m with
  | zero =>
    intro t ht
    refine x_iload (x_d C_M_dict 86 rfl) rfl ?_
    refine x_aload_n (x_d C_M_dict 87 rfl) rfl ?_
    refine x_getfield (v := xI (mm : Int)) (x_d C_M_dict 88 rfl) f_M_145 (g_left hp _) rfl ?_
    refine x_icmp_ge (tgt := 189) (x_d C_M_dict 89 rfl) rfl (fun _ => ?_) (fun q => absurd q (by omega))
    obtain rfl : t = cap := by omega
    exact kk
  | succ m ih =>
    intro t ht
    obtain ⟨cb, len, fb, hcb, hcc⟩ := hall t.toNat (by omega)
    refine x_iload (x_d C_M_dict 86 rfl) rfl ?_
    refine x_aload_n (x_d C_M_dict 87 rfl) rfl ?_
    refine x_getfield (v := xI (mm : Int)) (x_d C_M_dict 88 rfl) f_M_145 (g_left hp _) rfl ?_
    refine x_icmp_ge (tgt := 189) (x_d C_M_dict 89 rfl) rfl (fun q => absurd q (by omega)) (fun _ => ?_)
    refine x_aload (x_d C_M_dict 90 rfl) rfl ?_
    refine x_iload (x_d C_M_dict 91 rfl) rfl ?_
    refine x_aload_n (x_d C_M_dict 92 rfl) rfl ?_
    refine x_getfield (v := xC cn) (x_d C_M_dict 93 rfl) f_M_156 (g_left hp _) rfl ?_
    refine x_iload (x_d C_M_dict 94 rfl) rfl ?_
    refine x_aaload5 (x_d C_M_dict 95 rfl) (g_left hc _) (by omega) (by omega) ?_
    rw [hcb]
    refine x_aastore5 (h1 := h ++ [xQ 5 (2 * cap) (s_cpq fn (t + 1))]) (x_d C_M_dict 96 rfl) (g_right _ _) (g_left hcc _) (by omega) (by omega) (by rw [g_setr, ← hcb, s_cpq_s fn (by omega)]) ?_
    refine x_iinc (l1 := [(6, xI (t + 1)), (0, xC 42), (1, xI e), (2, xC p), (3, xC c3), (4, xC c), (5, xC h.length)]) (x_d C_M_dict 97 rfl) rfl ⟨by omega, by omega⟩ (by decide) rfl ?_
    refine x_goto (tgt := 162) (x_d C_M_dict 98 rfl) rfl ?_
    refine x_locs [1, 2, 3, 4, 5, 6, 0] rfl ?_
    exact ih (t + 1) (by omega)
theorem w_M_dict_138 (Z : xZ) (d : Nat) (q : Nat → Int) (r : Nat → Option Nat) (A : Nat → Nat → Int) (dy : xH) (D : Nat) (hD : D ≤ 8) (hd : 3 * D + 13 ≤ d) (X : Nat → Int) (f : Int) (g : Nat → Option xE) (K : Nat → Nat → Nat) (hf : 0 ≤ f) (hn : 0 ≤ q 1345 ∧ q 1345 ≤ 4000) (hX : ∀ k : Nat, (k : Int) < q 1345 → A 44 k = X (f.toNat + k)) (hB : ∀ k, -128 ≤ X k ∧ X k ≤ 127) (hrec : OD Z q r A X f D) (e : Int) (he : e = 7 - (D : Int)) (p : Nat) (j0 : Int) (tk0 : Nat → Int) (ny : xH) (ci cn cap : Nat) (fi fn : Nat → Option Nat) (gk : Nat → Option xE) (L : List Int) (acc : List tk) (ns : List Int) (c3 c : Nat) (Q : Option xV → xH → Prop) (hk : DS X (f + q 1345) dy g p (D + 1) ny ci cn cap cap fi fn gk L acc ns) (hlt : L.length = cap ∧ cap ≤ 32) (kk : ∀ (ny2 : xH) (ci2 cn2 : Nat) (fi2 fn2 : Nat → Option Nat), DS X (f + q 1345) dy g p (D + 1) ny2 ci2 cn2 (2 * cap) (2 * cap) fi2 fn2 gk L acc ns → (∀ k, k < L.length → fi2 k = fi k) → (∀ u w, mu u w ny2 = mu u w ny + 2 * (u + 2 * cap * w)) → xW Z d Y_M_dict 195 [(0, xC 42), (1, xI e), (2, xC p), (3, xC c3), (4, xC c)] [] (hF (x_up q 1346 j0) (x_up r 1344 (some 44)) (x_up A 43 tk0) ++ (dy ++ ny2)) Q) : xW Z d Y_M_dict 138 [(0, xC 42), (1, xI e), (2, xC p), (3, xC c3), (4, xC c)] [] (hF (x_up q 1346 j0) (x_up r 1344 (some 44)) (x_up A 43 tk0) ++ (dy ++ ny)) Q := by
  have hk0 := hk
  obtain ⟨a1, a2, a3, b3, a4, -⟩ := hk0
  refine x_aload_n (x_d C_M_dict 74 rfl) rfl ?_
  refine x_aload_n (x_d C_M_dict 75 rfl) rfl ?_
  refine x_getfield (v := xC ci) (x_d C_M_dict 76 rfl) f_M_141 (ct_get a1 _ _ _) rfl ?_
  refine x_invokestatic (st := [xC p]) (av := [xC ci]) (x_d C_M_dict 77 rfl) k_M_151 m_M_longer s_M_longer rfl (Nat.le_of_ble_eq_true rfl) (by omega) rfl (c_M_longer Z (d - 1) (hF (x_up q 1346 j0) (x_up r 1344 (some 44)) (x_up A 43 tk0) ++ (dy ++ ny)) ci cap fi (ct_get a2 _ _ _) (by omega) (by have := DS_parts hk (x_up q 1346 j0) (x_up r 1344 (some 44)) (x_up A 43 tk0); rw [show L.length = cap by omega] at this; exact this)) ?_
  rintro v_ h_ ⟨hv_, hh_⟩
  obtain rfl : v_ = some (xC (52 + dy.length + ny.length)) := by rw [hv_, g_len _ _ _ _ _ rfl]
  obtain rfl : h_ = hF (x_up q 1346 j0) (x_up r 1344 (some 44)) (x_up A 43 tk0) ++ (dy ++ (ny ++ [xQ 4 (2 * cap) (s_cpq fi cap)])) := hh_.trans (g_push _ _ _ _ _ _)
  have b1g : ct (dy ++ (ny ++ [xQ 4 (2 * cap) (s_cpq fi cap)])) p (xB 12 [xI 7, xI 0, xI 0, xI (L.length : Int), xN, xC ci, xC cn]) := by rw [← List.append_assoc dy]; exact ct_app a1 _
  refine x_putfield (h1 := hF (x_up q 1346 j0) (x_up r 1344 (some 44)) (x_up A 43 tk0) ++ (dy ++ ((ny ++ [xQ 4 (2 * cap) (s_cpq fi cap)]).set (p - (52 + dy.length)) (xB 12 [xI 7, xI 0, xI 0, xI (L.length : Int), xN, xC (52 + dy.length + ny.length), xC cn])))) (x_d C_M_dict 78 rfl) p_M_141 (ct_get b1g _ _ _) rfl rfl trivial (g_setd b3.1 _ _ _ _) ?_
  have hk4 := DS_gi hk (by omega) (by omega)
  have hmu4 : ∀ u w, mu u w ((ny ++ [xQ 4 (2 * cap) (s_cpq fi cap)]).set (p - (52 + dy.length)) (xB 12 [xI 7, xI 0, xI 0, xI (L.length : Int), xN, xC (52 + dy.length + ny.length), xC cn])) = mu u w ny + (u + 2 * cap * w) := fun u w => by rw [mu_setd u w (e2 := xB 12 [xI 7, xI 0, xI 0, xI (L.length : Int), xN, xC (52 + dy.length + ny.length), xC cn]) b1g b3.1 rfl, mu_app, mu_cons, mu_nil]; show _ + (u + w * (2 * cap) + 0) = _; rw [Nat.mul_comm w (2 * cap)]; omega
  generalize hny3 : ((ny ++ [xQ 4 (2 * cap) (s_cpq fi cap)]).set (p - (52 + dy.length)) (xB 12 [xI 7, xI 0, xI 0, xI (L.length : Int), xN, xC (52 + dy.length + ny.length), xC cn])) = ny3 at hk4 hmu4 ⊢
  generalize hci : 52 + dy.length + ny.length = ci3 at hk4 ⊢
  have hk5 := hk4
  obtain ⟨d1, d2, d3, e3, d4, -⟩ := hk5
  refine x_aload_n (x_d C_M_dict 79 rfl) rfl ?_
  refine x_getfield (v := xC ci3) (x_d C_M_dict 80 rfl) f_M_141 (ct_get d1 _ _ _) rfl ?_
  refine x_arraylengthQ (x_d C_M_dict 81 rfl) (ct_get d2 _ _ _) (Or.inl rfl) (by omega) ?_
  refine x_anewarray5 (k := (hF (x_up q 1346 j0) (x_up r 1344 (some 44)) (x_up A 43 tk0) ++ (dy ++ ny3)).length) (h1 := hF (x_up q 1346 j0) (x_up r 1344 (some 44)) (x_up A 43 tk0) ++ (dy ++ ny3) ++ [xQ 5 (2 * cap) (s_cpq fn 0)]) (x_d C_M_dict 82 rfl) qn_M_155 (by omega) (by omega) rfl (by rw [s_cpq_0]; rfl) ?_
  refine x_astore (l1 := [(5, xC (hF (x_up q 1346 j0) (x_up r 1344 (some 44)) (x_up A 43 tk0) ++ (dy ++ ny3)).length), (0, xC 42), (1, xI e), (2, xC p), (3, xC c3), (4, xC c)]) (x_d C_M_dict 83 rfl) (by decide) rfl ?_
  refine x_iconst (x_d C_M_dict 84 rfl) ⟨by omega, by omega⟩ ?_
  refine x_istore (l1 := [(6, xI 0), (5, xC (hF (x_up q 1346 j0) (x_up r 1344 (some 44)) (x_up A 43 tk0) ++ (dy ++ ny3)).length), (0, xC 42), (1, xI e), (2, xC p), (3, xC c3), (4, xC c)]) (x_d C_M_dict 85 rfl) (by decide) rfl ?_
  refine x_locs [2, 3, 4, 5, 6, 1, 0] rfl ?_
  refine w_M_dict_162 Z d (hF (x_up q 1346 j0) (x_up r 1344 (some 44)) (x_up A 43 tk0) ++ (dy ++ ny3)) e p ci3 cn cap L.length c3 c fn (ct_get d1 _ _ _) (ct_get d3 _ _ _) (by omega) (by omega) (fun k hk2 => ?_) Q ?_ cap 0 (by omega)
  · obtain ⟨nb, nl, nf, hnn⟩ := DS_names hk4
    have := hnn k (by omega)
    exact ⟨nb k, nl k, nf k, this.1, ct_get (d4 _ _ this.2.1) _ _ _⟩
  · rw [g_push, g_len _ _ _ _ _ rfl]
    refine x_aload_n (x_d C_M_dict 99 rfl) rfl ?_
    refine x_aload (x_d C_M_dict 100 rfl) rfl ?_
    have b5g : ct (dy ++ (ny3 ++ [xQ 5 (2 * cap) (s_cpq fn cap)])) p (xB 12 [xI 7, xI 0, xI 0, xI (L.length : Int), xN, xC ci3, xC cn]) := by rw [← List.append_assoc dy]; exact ct_app d1 _
    refine x_putfield (h1 := hF (x_up q 1346 j0) (x_up r 1344 (some 44)) (x_up A 43 tk0) ++ (dy ++ ((ny3 ++ [xQ 5 (2 * cap) (s_cpq fn cap)]).set (p - (52 + dy.length)) (xB 12 [xI 7, xI 0, xI 0, xI (L.length : Int), xN, xC ci3, xC (52 + dy.length + ny3.length)])))) (x_d C_M_dict 101 rfl) p_M_156 (ct_get b5g _ _ _) rfl rfl trivial (g_setd e3.1 _ _ _ _) ?_
    refine x_locs [0, 1, 2, 3, 4] rfl ?_
    refine kk _ _ _ _ _ (DS_gn hk4 (by omega) (by omega)) (fun k hk2 => by unfold s_cpq; rw [if_pos (by omega)]) ?_
    intro u w
    have hmu5 := hmu4 u w
    rw [mu_setd u w (e2 := xB 12 [xI 7, xI 0, xI 0, xI (L.length : Int), xN, xC ci3, xC (52 + dy.length + ny3.length)]) b5g e3.1 rfl, mu_app, mu_cons, mu_nil]
    show _ + (u + w * (2 * cap) + 0) = _
    rw [Nat.mul_comm w (2 * cap)]
    omega
theorem w_M_dict_195 (Z : xZ) (d : Nat) (q : Nat → Int) (r : Nat → Option Nat) (A : Nat → Nat → Int) (dy : xH) (D : Nat) (hD : D ≤ 8) (hd : 3 * D + 13 ≤ d) (X : Nat → Int) (f : Int) (g : Nat → Option xE) (K : Nat → Nat → Nat) (hf : 0 ≤ f) (hn : 0 ≤ q 1345 ∧ q 1345 ≤ 4000) (hX : ∀ k : Nat, (k : Int) < q 1345 → A 44 k = X (f.toNat + k)) (hB : ∀ k, -128 ≤ X k ∧ X k ≤ 127) (hrec : OD Z q r A X f D) (e : Int) (he : e = 7 - (D : Int)) (p : Nat) (j0 : Int) (tk0 : Nat → Int) (ny : xH) (ci cn cap : Nat) (fi fn : Nat → Option Nat) (gk : Nat → Option xE) (L : List Int) (acc ts : List tk) (ns : List Int) (c3 c cb len : Nat) (M : Nat → Nat → Nat) (fb : Nat → Int) (nu : Int) (Q : Option xV → xH → Prop) (hj : 0 ≤ j0 ∧ j0 ≤ q 1345) (hk : DS X (f + q 1345) dy g p (D + 1) ny ci cn cap cap fi fn gk L acc ns) (hlt : L.length < cap ∧ L.length < 30) (htr : Tr X (f + q 1345) gk (lP ts) (D + 1) 0 c) (hts : s_bh (lsp ts) 0 = ts.length ∧ 1 ≤ ts.length) (h3 : gk c3 = some (xB 12 [xI 4, xI 0, xI 0, xI 0, xC cb, xN, xN])) (hcb : gk cb = some (xA 1 len fb)) (hnu : nmw X (f + q 1345) nu len fb) (hnc : ∀ k, k < L.length → fi k ≠ some c) (hM : ∀ u w, mu u w ny = M u w) (kk : ∀ (j : Int) (tk : Nat → Int) (ny : xH), (0 ≤ j ∧ j ≤ q 1345) → j = s_sc s_white X (f + q 1345) (f + j0) - f → DS X (f + q 1345) dy g p (D + 1) ny ci cn cap cap (x_up fi L.length (some c)) (x_up fn L.length (some cb)) gk (L ++ [1 + (acc.length : Int)]) (acc ++ s_nm nu ts) (ns ++ [nu]) → (∀ u w, mu u w ny = M u w) → xW Z d Y_M_dict 48 [(0, xC 42), (1, xI e), (2, xC p)] [] (hF (x_up q 1346 j) (x_up r 1344 (some 44)) (x_up A 43 tk) ++ (dy ++ ny)) Q) : xW Z d Y_M_dict 195 [(0, xC 42), (1, xI e), (2, xC p), (3, xC c3), (4, xC c)] [] (hF (x_up q 1346 j0) (x_up r 1344 (some 44)) (x_up A 43 tk0) ++ (dy ++ ny)) Q := by
  have hk0 := hk
  obtain ⟨a1, a2, a3, b3, a4, a5, a6, a7, -⟩ := hk0
  obtain ⟨fs, hcg⟩ : ∃ fs, gk c = some (xB 12 fs) := by
    obtain ⟨-, x, y, m, bt, it, nm, d1, -⟩ := htr
    exact ⟨_, d1⟩
  refine x_aload_n (x_d C_M_dict 102 rfl) rfl ?_
  refine x_getfield (v := xC cn) (x_d C_M_dict 103 rfl) f_M_156 (ct_get a1 _ _ _) rfl ?_
  refine x_aload_n (x_d C_M_dict 104 rfl) rfl ?_
  refine x_getfield (v := xI ((L.length : Int))) (x_d C_M_dict 105 rfl) f_M_145 (ct_get a1 _ _ _) rfl ?_
  refine x_aload_n (x_d C_M_dict 106 rfl) rfl ?_
  refine x_getfield (v := xC cb) (x_d C_M_dict 107 rfl) f_M_119 (ct_get (a4 _ _ h3) _ _ _) rfl ?_
  refine x_aastore5 (h1 := hF (x_up q 1346 j0) (x_up r 1344 (some 44)) (x_up A 43 tk0) ++ (dy ++ (ny.set (cn - (52 + dy.length)) (xQ 5 cap (x_up fn L.length (some cb)))))) (x_d C_M_dict 108 rfl) (ct_get a3 _ _ _) (ct_get (a4 _ _ hcb) _ _ _) (by omega) (by omega) (by rw [show ((L.length : Nat) : Int).toNat = L.length by omega]; exact g_setd b3.2.2.1 _ _ _ _) ?_
  have c1 := ct_setdn (e2 := xQ 5 cap (x_up fn L.length (some cb))) a1 b3.2.2.2.2.1 b3.2.2.1
  have c2 := ct_setdn (e2 := xQ 5 cap (x_up fn L.length (some cb))) a2 b3.2.2.2.2.2 b3.2.2.1
  have hcc := ct_setdn (e2 := xQ 5 cap (x_up fn L.length (some cb))) (a4 _ _ hcg) (c2 := cn) (fun z => by rw [z, a7.2.2] at hcg; cases hcg) b3.2.2.1
  refine x_aload_n (x_d C_M_dict 109 rfl) rfl ?_
  refine x_getfield (v := xC ci) (x_d C_M_dict 110 rfl) f_M_141 (ct_get c1 _ _ _) rfl ?_
  refine x_aload_n (x_d C_M_dict 111 rfl) rfl ?_
  refine x_getfield (v := xI ((L.length : Int))) (x_d C_M_dict 112 rfl) f_M_145 (ct_get c1 _ _ _) rfl ?_
  refine x_aload (x_d C_M_dict 113 rfl) rfl ?_
  refine x_aastore4 (h1 := hF (x_up q 1346 j0) (x_up r 1344 (some 44)) (x_up A 43 tk0) ++ (dy ++ ((ny.set (cn - (52 + dy.length)) (xQ 5 cap (x_up fn L.length (some cb)))).set (ci - (52 + dy.length)) (xQ 4 cap (x_up fi L.length (some c)))))) (x_d C_M_dict 114 rfl) (ct_get c2 _ _ _) (ct_get hcc _ _ _) (by omega) (by omega) (by rw [show ((L.length : Nat) : Int).toNat = L.length by omega]; exact g_setd b3.2.1 _ _ _ _) ?_
  have d1 := ct_setdn (e2 := xQ 4 cap (x_up fi L.length (some c))) c1 b3.2.2.2.1 b3.2.1
  refine x_aload_n (x_d C_M_dict 115 rfl) rfl ?_
  refine x_dup (x_d C_M_dict 116 rfl) rfl ?_
  refine x_getfield (v := xI ((L.length : Int))) (x_d C_M_dict 117 rfl) f_M_145 (ct_get d1 _ _ _) rfl ?_
  refine x_iconst (x_d C_M_dict 118 rfl) ⟨by omega, by omega⟩ ?_
  refine x_iadd (x_d C_M_dict 119 rfl) ⟨by omega, by omega⟩ ?_
  have hlen2 : ((L ++ [1 + (acc.length : Int)]).length : Int) = (L.length : Int) + 1 := by rw [List.length_append]; rfl
  refine x_putfield (h1 := hF (x_up q 1346 j0) (x_up r 1344 (some 44)) (x_up A 43 tk0) ++ (dy ++ (((ny.set (cn - (52 + dy.length)) (xQ 5 cap (x_up fn L.length (some cb)))).set (ci - (52 + dy.length)) (xQ 4 cap (x_up fi L.length (some c)))).set (p - (52 + dy.length)) (xB 12 [xI 7, xI 0, xI 0, xI ((L ++ [1 + (acc.length : Int)]).length : Int), xN, xC ci, xC cn])))) (x_d C_M_dict 120 rfl) p_M_145 (ct_get d1 _ _ _) rfl rfl trivial (by rw [← hlen2]; exact g_setd b3.1 _ _ _ _) ?_
  have hst := DS_store hk ⟨hlt.1, hlt.1⟩ hlt.2 htr hts.1 hts.2 hcb hnu hnc
  have hmu : ∀ u w, mu u w (((ny.set (cn - (52 + dy.length)) (xQ 5 cap (x_up fn L.length (some cb)))).set (ci - (52 + dy.length)) (xQ 4 cap (x_up fi L.length (some c)))).set (p - (52 + dy.length)) (xB 12 [xI 7, xI 0, xI 0, xI ((L ++ [1 + (acc.length : Int)]).length : Int), xN, xC ci, xC cn])) = M u w := fun u w => by rw [mu_setd u w (e2 := xB 12 [xI 7, xI 0, xI 0, xI ((L ++ [1 + (acc.length : Int)]).length : Int), xN, xC ci, xC cn]) d1 b3.1 rfl, mu_setd u w (e2 := xQ 4 cap (x_up fi L.length (some c))) c2 b3.2.1 rfl, mu_setd u w (e2 := xQ 5 cap (x_up fn L.length (some cb))) a3 b3.2.2.1 rfl]; exact hM u w
  generalize hny2 : (((ny.set (cn - (52 + dy.length)) (xQ 5 cap (x_up fn L.length (some cb)))).set (ci - (52 + dy.length)) (xQ 4 cap (x_up fi L.length (some c)))).set (p - (52 + dy.length)) (xB 12 [xI 7, xI 0, xI 0, xI ((L ++ [1 + (acc.length : Int)]).length : Int), xN, xC ci, xC cn])) = ny2 at hst hmu ⊢
  refine x_aload_n (x_d C_M_dict 121 rfl) rfl ?_
  refine x_invokevirtual (st := []) (av := []) (x_d C_M_dict 122 rfl) k_M_59 m_M_white v_M_white cl_M rfl rfl (Nat.le_of_ble_eq_true rfl) (by omega) rfl (c_M_white Z (d - 1) q r (x_up A 43 tk0) (dy ++ ny2) (by omega) X f j0 hf hn hX (by omega)) ?_
  rintro _ h_ ⟨rfl, hh_⟩
  obtain ⟨j1, hj1⟩ : ∃ z, z = s_sc s_white X (f + q 1345) (f + j0) - f := ⟨_, rfl⟩
  rw [← hj1] at hh_
  subst hh_
  have hj1a := s_sc_ge s_white X (f + q 1345) (f + j0)
  have hj1b := s_sc_le s_white X (n := (f + q 1345)) (t := f + j0) (by omega)
  refine x_goto (tgt := 48) (x_d C_M_dict 123 rfl) rfl ?_
  refine x_locs [0, 1, 2] rfl ?_
  exact kk j1 tk0 ny2 (by omega) hj1 hst hmu
