/-! the reference: the new trailer -/
theorem t_write_int (Z : xZ) (d : Nat) (q : Nat → Int) (r : Nat → Option Nat) (A : Nat → Nat → Int) (dy : xH) (hd : 3 ≤ d) (c : Nat) (v y m : Int) (bt it nm : Option Nat) (hc : ct dy c (xB 12 [xI 3, xI v, xI y, xI m, xO bt, xO it, xO nm])) (hv : -2147483648 < v ∧ v ≤ 2147483647) : WM Z d q r A dy c (s_int v) := by
  intro s ov f bs hp
  refine xMet_of (by decide) (Nat.le_of_ble_eq_true rfl) (fun v h2 hq => by obtain ⟨e, _⟩ := hq; rw [e]; trivial) ?_
  refine x_aload_n (x_d C_M_write 0 rfl) rfl ?_
  refine x_getfield (v := xI (3)) (x_d C_M_write 1 rfl) f_M_261 (ct_get hc _ _ _) rfl ?_
  refine x_tableIn (tgt := 77) (off := 73) (x_d C_M_write 2 rfl) (by omega) (by omega) rfl rfl ?_
  refine x_aload_n (x_d C_M_write 15 rfl) rfl ?_
  refine x_aload_n (x_d C_M_write 16 rfl) rfl ?_
  refine x_getfield (v := xI (v)) (x_d C_M_write 17 rfl) f_M_95 (ct_get hc _ _ _) rfl ?_
  refine x_iconst (x_d C_M_write 18 rfl) ⟨by omega, by omega⟩ ?_
  refine x_invokevirtual (st := []) (av := [xI (v), xI (1)]) (x_d C_M_write 19 rfl) k_M_400 m_M_number v_M_number cl_M rfl rfl (Nat.le_of_ble_eq_true rfl) (by omega) rfl (c_M_number1 Z (d - 1) q r A dy (by omega) s ov f bs v (by omega) hp) ?_
  rintro _ _ ⟨rfl, s2, ov2, f2, rfl, hp2⟩
  refine x_return (x_d C_M_write 20 rfl) ?_
  exact ⟨rfl, _, _, _, rfl, hp2⟩
theorem s_pcs_snoc (F : Nat → List Int) : ∀ (u k : Nat), s_pcs F (u + 1) k = s_pcs F u k ++ F (k + u)
  | 0, k => by show F k ++ [] = [] ++ F (k + 0); rw [List.append_nil]; rfl
  | u + 1, k => by
    show F k ++ s_pcs F (u + 1) (k + 1) = (F k ++ s_pcs F u (k + 1)) ++ F (k + (u + 1))
    rw [s_pcs_snoc F u (k + 1), List.append_assoc, show k + 1 + u = k + (u + 1) by omega]
theorem s_pcs_tit {W : Int → List Int} {nm b : Nat → Int} {n p1 a c sz lt : Int} {L : List Int} {nmo out : Nat → List Int} (hf : ∀ k, k < L.length → (p1 < L.getD k 0 ↔ ¬ k = 0)) (h7 : ∀ k, k < L.length → nmo k = s_sl b (nm (L.getD k 0).toNat).toNat (s_wd b n (nm (L.getD k 0).toNat) - nm (L.getD k 0).toNat).toNat) (ho : ∀ k, k < L.length → out k = if L.getD k 0 = a then s_int sz else if L.getD k 0 = c then s_int lt else W (L.getD k 0)) : ∀ (u k : Nat), k + u = L.length → s_pcs (s_pc 7 nmo out) u k = s_tit W nm b n p1 a c sz lt (L.drop k)
  | 0, k, hk => by rw [List.drop_eq_nil_of_le (by omega)]; rfl
  | u + 1, k, hk => by
    have hkl : k < L.length := by omega
    have hdr : L.drop k = L.getD k 0 :: L.drop (k + 1) := by
      rw [List.getD_eq_getElem?_getD, List.getElem?_eq_getElem hkl, List.drop_eq_getElem_cons hkl]
      rfl
    have ih := s_pcs_tit hf h7 ho u (k + 1) (by omega)
    have hfk := hf k hkl
    rw [hdr]
    show s_pc 7 nmo out k ++ s_pcs (s_pc 7 nmo out) u (k + 1) = (s_wn nm b n (L.getD k 0) (if p1 < L.getD k 0 then 1 else 0) ++ (if L.getD k 0 = a then s_int sz else if L.getD k 0 = c then s_int lt else W (L.getD k 0))) ++ s_tit W nm b n p1 a c sz lt (L.drop (k + 1))
    rw [ih]
    congr 1
    unfold s_pc s_wn
    rw [ho k hkl, h7 k hkl, if_neg (show ¬ (7 : Int) = 6 by omega)]
    by_cases k0 : k = 0
    · rw [if_pos k0, if_neg (fun z => hfk.mp z k0), if_pos rfl, List.nil_append, List.append_assoc]
    · rw [if_neg k0, if_pos (hfk.mpr k0), if_neg (show ¬ (1 : Int) = 0 by omega)]
      simp only [List.append_assoc]
      rfl
theorem s_ch_inj {sp : Nat → Int} : ∀ {L : List Int} {a e : Int}, s_ch sp a L e → ∀ i k, i < L.length → k < L.length → L.getD i 0 = L.getD k 0 → i = k
  | [], _, _, _, i, _, hi, _, _ => absurd hi (Nat.not_lt_zero _)
  | z :: l, a, e, h, i, k, hi, hk, he => by
    obtain ⟨h1, h2, h3⟩ := h
    have hb : a < s_bh sp a := by unfold s_bh; omega
    cases i with
    | zero =>
      cases k with
      | zero => rfl
      | succ k =>
        have := s_ch_lt h3 _ (s_getD_mem (show k < l.length by rw [List.length_cons] at hk; omega))
        have he : z = l.getD k 0 := he
        omega
    | succ i =>
      cases k with
      | zero =>
        have := s_ch_lt h3 _ (s_getD_mem (show i < l.length by rw [List.length_cons] at hi; omega))
        have he : l.getD i 0 = z := he
        omega
      | succ k => rw [s_ch_inj h3 i k (by rw [List.length_cons] at hi; omega) (by rw [List.length_cons] at hk; omega) he]
/-- which value stands where in the new trailer -/
def n_sel (oS oP : Option Nat) (cS cP : Nat) (fi : Nat → Option Nat) (j : Nat) : Option Nat := if oS = some j then some cS else if oP = some j then some cP else fi j
theorem w_M_newTrailer_121 (Z : xZ) (d : Nat) (q : Nat → Int) (r : Nat → Option Nat) (A : Nat → Nat → Int) (dy : xH) (hd : 5 ≤ d) (ctr ci cn cap cap2 : Nat) (kk0 x y : Int) (L : List Int) (bt2 : Option Nat) (fi fn : Nat → Option Nat) (nb nl : Nat → Nat) (nf : Nat → Nat → Int) (hct : ct dy ctr (xB 12 [xI kk0, xI x, xI y, xI (L.length : Int), xO bt2, xC ci, xC cn])) (hci : ct dy ci (xQ 4 cap fi)) (hcn : ct dy cn (xQ 5 cap2 fn)) (hl : L.length ≤ cap ∧ L.length ≤ cap2 ∧ L.length ≤ 60) (hnm : ∀ k, k < L.length → fn k = some (nb k) ∧ ct dy (nb k) (xA 1 (nl k) (nf k)) ∧ (nl k : Int) ≤ 100000) (hit : ∀ k, k < L.length → ∃ c2 fs, fi k = some c2 ∧ ct dy c2 (xB 12 fs)) (hdj : ∀ i k, i < L.length → k < L.length → fi i = fi k → i = k) (oS oP : Option Nat) (hS : oS = s_idx (fun k => decide ((nl k : Int) = ([83, 105, 122, 101] : List Int).length) && s_eqf (nf k) (fun i => ([83, 105, 122, 101] : List Int).getD i 0) 0 ([83, 105, 122, 101] : List Int).length) L.length 0) (hP : oP = s_idx (fun k => decide ((nl k : Int) = ([80, 114, 101, 118] : List Int).length) && s_eqf (nf k) (fun i => ([80, 114, 101, 118] : List Int).getD i 0) 0 ([80, 114, 101, 118] : List Int).length) L.length 0) (sz lt has : Int) (MN : Nat) (hMN : L.length ≤ MN ∧ MN ≤ 61) (Q : Option xV → xH → Prop) (kk : ∀ f2 f3 : Nat → Option Nat, (∀ j, j < L.length → f2 j = n_sel oS oP (52 + dy.length + 1) (52 + dy.length + 2) fi j ∧ f3 j = fn j) → xW Z d Y_M_newTrailer 206 [(0, xC 42), (1, xC ctr), (2, xC (52 + dy.length)), (3, xC (52 + dy.length + 1)), (4, xC (52 + dy.length + 2)), (5, xI has)] [] (hF q r A ++ (dy ++ [xB 12 [xI 7, xI 0, xI 0, xI (MN : Int), xN, xC (52 + dy.length + 3), xC (52 + dy.length + 4)], xB 12 [xI 3, xI sz, xI 0, xI 0, xN, xN, xN], xB 12 [xI 3, xI lt, xI 0, xI 0, xN, xN, xN], xQ 4 MN f2, xQ 5 MN f3])) Q) : ∀ (u : Nat) (t : Int) (f2 f3 : Nat → Option Nat), (0 ≤ t ∧ t + u = L.length) → (∀ j : Nat, (j : Int) < t → f2 j = n_sel oS oP (52 + dy.length + 1) (52 + dy.length + 2) fi j ∧ f3 j = fn j) → xW Z d Y_M_newTrailer 121 [(0, xC 42), (1, xC ctr), (2, xC (52 + dy.length)), (3, xC (52 + dy.length + 1)), (4, xC (52 + dy.length + 2)), (5, xI has), (6, xI t)] [] (hF q r A ++ (dy ++ [xB 12 [xI 7, xI 0, xI 0, xI (MN : Int), xN, xC (52 + dy.length + 3), xC (52 + dy.length + 4)], xB 12 [xI 3, xI sz, xI 0, xI 0, xN, xN, xN], xB 12 [xI 3, xI lt, xI 0, xI 0, xN, xN, xN], xQ 4 MN f2, xQ 5 MN f3])) Q := by
  intro u
  induction u with
  | zero =>
    intro t f2 f3 ht hj
    refine x_iload (x_d C_M_newTrailer 59 rfl) rfl ?_
    refine x_aload_n (x_d C_M_newTrailer 60 rfl) rfl ?_
    refine x_getfield (v := xI ((L.length : Int))) (x_d C_M_newTrailer 61 rfl) f_M_145 (ct_get (ct_app hct _) _ _ _) rfl ?_
    refine x_icmp_ge (tgt := 206) (x_d C_M_newTrailer 62 rfl) rfl (fun _ => ?_) (fun q => absurd q (by omega))
    refine x_locs [0, 1, 2, 3, 4, 5] rfl ?_
    exact kk f2 f3 (fun j hj9 => hj j (by omega))
  | succ u ih =>
    intro t f2 f3 ht hj
    obtain ⟨hn1, hn2, hn3⟩ := hnm t.toNat (by omega)
    obtain ⟨c5, fs5, hc5, hg5⟩ := hit t.toNat (by omega)
    have hSi : ∀ i, oS = some i → i < L.length := fun i h => by rw [hS] at h; have := s_idx_some h; omega
    have hPi : ∀ i, oP = some i → i < L.length := fun i h => by rw [hP] at h; have := s_idx_some h; omega
    have hSt : fi t.toNat = oS.bind fi ↔ oS = some t.toNat := by
      constructor
      · intro h
        cases ho : oS with
        | none => rw [ho, hc5] at h; cases h
        | some i =>
          rw [ho] at h
          rw [hdj t.toNat i (by omega) (hSi i ho) h]
      · intro h; rw [h]; rfl
    have hPt : fi t.toNat = oP.bind fi ↔ oP = some t.toNat := by
      constructor
      · intro h
        cases ho : oP with
        | none => rw [ho, hc5] at h; cases h
        | some i =>
          rw [ho] at h
          rw [hdj t.toNat i (by omega) (hPi i ho) h]
      · intro h; rw [h]; rfl
    refine x_iload (x_d C_M_newTrailer 59 rfl) rfl ?_
    refine x_aload_n (x_d C_M_newTrailer 60 rfl) rfl ?_
    refine x_getfield (v := xI ((L.length : Int))) (x_d C_M_newTrailer 61 rfl) f_M_145 (ct_get (ct_app hct _) _ _ _) rfl ?_
    refine x_icmp_ge (tgt := 206) (x_d C_M_newTrailer 62 rfl) rfl (fun q => absurd q (by omega)) (fun _ => ?_)
    refine x_aload_n (x_d C_M_newTrailer 63 rfl) rfl ?_
    refine x_getfield (v := xC (52 + dy.length + 4)) (x_d C_M_newTrailer 64 rfl) f_M_156 (ct_get (ct_new0 dy [xB 12 [xI (7), xI (0), xI (0), xI ((MN : Int)), xN, xC (52 + dy.length + 3), xC (52 + dy.length + 4)], xB 12 [xI (3), xI (sz), xI (0), xI (0), xN, xN, xN], xB 12 [xI (3), xI (lt), xI (0), xI (0), xN, xN, xN], xQ 4 MN (f2), xQ 5 MN (f3)] rfl) _ _ _) rfl ?_
    refine x_iload (x_d C_M_newTrailer 65 rfl) rfl ?_
    refine x_aload_n (x_d C_M_newTrailer 66 rfl) rfl ?_
    refine x_getfield (v := xC cn) (x_d C_M_newTrailer 67 rfl) f_M_156 (ct_get (ct_app hct _) _ _ _) rfl ?_
    refine x_iload (x_d C_M_newTrailer 68 rfl) rfl ?_
    refine x_aaload5 (x_d C_M_newTrailer 69 rfl) (ct_get (ct_app hcn _) _ _ _) (by omega) (by omega) ?_
    rw [hn1]
    refine x_aastore5 (h1 := hF q r A ++ (dy ++ [xB 12 [xI (7), xI (0), xI (0), xI ((MN : Int)), xN, xC (52 + dy.length + 3), xC (52 + dy.length + 4)], xB 12 [xI (3), xI (sz), xI (0), xI (0), xN, xN, xN], xB 12 [xI (3), xI (lt), xI (0), xI (0), xN, xN, xN], xQ 4 MN (f2), xQ 5 MN (x_up f3 (t).toNat (some (nb t.toNat)))])) (x_d C_M_newTrailer 70 rfl) (ct_get (ct_new dy [xB 12 [xI (7), xI (0), xI (0), xI ((MN : Int)), xN, xC (52 + dy.length + 3), xC (52 + dy.length + 4)], xB 12 [xI (3), xI (sz), xI (0), xI (0), xN, xN, xN], xB 12 [xI (3), xI (lt), xI (0), xI (0), xN, xN, xN], xQ 4 MN (f2), xQ 5 MN (f3)] 4 rfl) _ _ _) (ct_get (ct_app hn2 _) _ _ _) (by omega) (by omega) (g_setl _ _ _ _ [xB 12 [xI (7), xI (0), xI (0), xI ((MN : Int)), xN, xC (52 + dy.length + 3), xC (52 + dy.length + 4)], xB 12 [xI (3), xI (sz), xI (0), xI (0), xN, xN, xN], xB 12 [xI (3), xI (lt), xI (0), xI (0), xN, xN, xN], xQ 4 MN (f2), xQ 5 MN (f3)] 4 _) ?_
    refine x_aload_n (x_d C_M_newTrailer 71 rfl) rfl ?_
    refine x_getfield (v := xC (52 + dy.length + 3)) (x_d C_M_newTrailer 72 rfl) f_M_141 (ct_get (ct_new0 dy [xB 12 [xI (7), xI (0), xI (0), xI ((MN : Int)), xN, xC (52 + dy.length + 3), xC (52 + dy.length + 4)], xB 12 [xI (3), xI (sz), xI (0), xI (0), xN, xN, xN], xB 12 [xI (3), xI (lt), xI (0), xI (0), xN, xN, xN], xQ 4 MN (f2), xQ 5 MN (x_up f3 (t).toNat (some (nb t.toNat)))] rfl) _ _ _) rfl ?_
    refine x_iload (x_d C_M_newTrailer 73 rfl) rfl ?_
    refine x_aload_n (x_d C_M_newTrailer 74 rfl) rfl ?_
    refine x_getfield (v := xC ci) (x_d C_M_newTrailer 75 rfl) f_M_141 (ct_get (ct_app hct _) _ _ _) rfl ?_
    refine x_iload (x_d C_M_newTrailer 76 rfl) rfl ?_
    refine x_aaload (x_d C_M_newTrailer 77 rfl) (ct_get (ct_app hci _) _ _ _) (by omega) (by omega) ?_
    refine x_aload_n (x_d C_M_newTrailer 78 rfl) rfl ?_
    refine x_ldcS (i := 64) (x_d C_M_newTrailer 79 rfl) rfl ?_
    refine x_invokevirtual (st := [xO (fi (t).toNat), xI (t), xC (52 + dy.length + 3)]) (av := [xS (129)]) (x_d C_M_newTrailer 80 rfl) k_M_256 m_MQ_get2 v_MQ_get2 cl_MQ (ct_get (ct_app hct _) _ _ _) rfl (Nat.le_of_ble_eq_true rfl) (by omega) rfl (c_MQ_get2 Z (d - 1) (hF q r A ++ (dy ++ [xB 12 [xI (7), xI (0), xI (0), xI ((MN : Int)), xN, xC (52 + dy.length + 3), xC (52 + dy.length + 4)], xB 12 [xI (3), xI (sz), xI (0), xI (0), xN, xN, xN], xB 12 [xI (3), xI (lt), xI (0), xI (0), xN, xN, xN], xQ 4 MN (f2), xQ 5 MN (x_up f3 (t).toNat (some (nb t.toNat)))])) (by omega) ctr ci cn cap cap2 kk0 x y (L.length : Int) bt2 fi fn nb nl nf (ct_get (ct_app hct _) _ _ _) (ct_get (ct_app hci _) _ _ _) (ct_get (ct_app hcn _) _ _ _) (by omega) (fun k hk9 => ⟨(hnm k (by omega)).1, (ct_get (ct_app (hnm k (by omega)).2.1 _) _ _ _), (hnm k (by omega)).2.2⟩) (si := 64) rfl (by decide)) ?_
    rintro v_ h_ ⟨hv_, hh_⟩
    rw [hh_]
    clear hh_
    obtain rfl : v_ = some (xO (oS.bind fi)) := by rw [hv_, hS, show ((L.length : Nat) : Int).toNat = L.length by omega]
    refine x_acmp_ne (tgt := 170) (x_d C_M_newTrailer 81 rfl) rfl (fun hqS => ?_) (fun hqS => ?_)
    · refine x_aload_n (x_d C_M_newTrailer 84 rfl) rfl ?_
      refine x_getfield (v := xC ci) (x_d C_M_newTrailer 85 rfl) f_M_141 (ct_get (ct_app hct _) _ _ _) rfl ?_
      refine x_iload (x_d C_M_newTrailer 86 rfl) rfl ?_
      refine x_aaload (x_d C_M_newTrailer 87 rfl) (ct_get (ct_app hci _) _ _ _) (by omega) (by omega) ?_
      refine x_aload_n (x_d C_M_newTrailer 88 rfl) rfl ?_
      refine x_ldcSw (i := 65) (x_d C_M_newTrailer 89 rfl) rfl ?_
      refine x_invokevirtual (st := [xO (fi (t).toNat), xI (t), xC (52 + dy.length + 3)]) (av := [xS (131)]) (x_d C_M_newTrailer 90 rfl) k_M_256 m_MQ_get2 v_MQ_get2 cl_MQ (ct_get (ct_app hct _) _ _ _) rfl (Nat.le_of_ble_eq_true rfl) (by omega) rfl (c_MQ_get2 Z (d - 1) (hF q r A ++ (dy ++ [xB 12 [xI (7), xI (0), xI (0), xI ((MN : Int)), xN, xC (52 + dy.length + 3), xC (52 + dy.length + 4)], xB 12 [xI (3), xI (sz), xI (0), xI (0), xN, xN, xN], xB 12 [xI (3), xI (lt), xI (0), xI (0), xN, xN, xN], xQ 4 MN (f2), xQ 5 MN (x_up f3 (t).toNat (some (nb t.toNat)))])) (by omega) ctr ci cn cap cap2 kk0 x y (L.length : Int) bt2 fi fn nb nl nf (ct_get (ct_app hct _) _ _ _) (ct_get (ct_app hci _) _ _ _) (ct_get (ct_app hcn _) _ _ _) (by omega) (fun k hk9 => ⟨(hnm k (by omega)).1, (ct_get (ct_app (hnm k (by omega)).2.1 _) _ _ _), (hnm k (by omega)).2.2⟩) (si := 65) rfl (by decide)) ?_
      rintro v_ h_ ⟨hv_, hh_⟩
      rw [hh_]
      clear hh_
      obtain rfl : v_ = some (xO (oP.bind fi)) := by rw [hv_, hP, show ((L.length : Nat) : Int).toNat = L.length by omega]
      refine x_acmp_ne (tgt := 192) (x_d C_M_newTrailer 91 rfl) rfl (fun hqP => ?_) (fun hqP => ?_)
      · refine x_aload_n (x_d C_M_newTrailer 94 rfl) rfl ?_
        refine x_getfield (v := xC ci) (x_d C_M_newTrailer 95 rfl) f_M_141 (ct_get (ct_app hct _) _ _ _) rfl ?_
        refine x_iload (x_d C_M_newTrailer 96 rfl) rfl ?_
        refine x_aaload (x_d C_M_newTrailer 97 rfl) (ct_get (ct_app hci _) _ _ _) (by omega) (by omega) ?_
        rw [hc5]
        refine x_aastore4 (h1 := hF q r A ++ (dy ++ [xB 12 [xI (7), xI (0), xI (0), xI ((MN : Int)), xN, xC (52 + dy.length + 3), xC (52 + dy.length + 4)], xB 12 [xI (3), xI (sz), xI (0), xI (0), xN, xN, xN], xB 12 [xI (3), xI (lt), xI (0), xI (0), xN, xN, xN], xQ 4 MN (x_up f2 (t).toNat (some c5)), xQ 5 MN (x_up f3 (t).toNat (some (nb t.toNat)))])) (x_d C_M_newTrailer 98 rfl) (ct_get (ct_new dy [xB 12 [xI (7), xI (0), xI (0), xI ((MN : Int)), xN, xC (52 + dy.length + 3), xC (52 + dy.length + 4)], xB 12 [xI (3), xI (sz), xI (0), xI (0), xN, xN, xN], xB 12 [xI (3), xI (lt), xI (0), xI (0), xN, xN, xN], xQ 4 MN (f2), xQ 5 MN (x_up f3 (t).toNat (some (nb t.toNat)))] 3 rfl) _ _ _) (ct_get (ct_app hg5 _) _ _ _) (by omega) (by omega) (g_setl _ _ _ _ [xB 12 [xI (7), xI (0), xI (0), xI ((MN : Int)), xN, xC (52 + dy.length + 3), xC (52 + dy.length + 4)], xB 12 [xI (3), xI (sz), xI (0), xI (0), xN, xN, xN], xB 12 [xI (3), xI (lt), xI (0), xI (0), xN, xN, xN], xQ 4 MN (f2), xQ 5 MN (x_up f3 (t).toNat (some (nb t.toNat)))] 3 _) ?_
        refine x_iinc (l1 := [(6, xI (t + 1)), (0, xC 42), (1, xC ctr), (2, xC (52 + dy.length)), (3, xC (52 + dy.length + 1)), (4, xC (52 + dy.length + 2)), (5, xI (has))]) (x_d C_M_newTrailer 99 rfl) rfl ⟨by omega, by omega⟩ (by decide) rfl ?_
        refine x_goto (tgt := 121) (x_d C_M_newTrailer 100 rfl) rfl ?_
        refine x_locs [1, 2, 3, 4, 5, 6, 0] rfl ?_
        refine ih (t + 1) _ _ (by omega) (fun j hj9 => ?_)
        by_cases ej : j = t.toNat
        · rw [ej, x_up_s, x_up_s, hn1]
          refine ⟨?_, rfl⟩
          unfold n_sel
          rw [if_neg (fun z => hqS (hSt.mpr z)), if_neg (fun z => hqP (hPt.mpr z)), hc5]
        · rw [x_up_n _ _ ej, x_up_n _ _ ej]
          exact hj j (by omega)
      · refine x_aload (x_d C_M_newTrailer 92 rfl) rfl ?_
        refine x_goto (tgt := 199) (x_d C_M_newTrailer 93 rfl) rfl ?_
        refine x_aastore4 (h1 := hF q r A ++ (dy ++ [xB 12 [xI (7), xI (0), xI (0), xI ((MN : Int)), xN, xC (52 + dy.length + 3), xC (52 + dy.length + 4)], xB 12 [xI (3), xI (sz), xI (0), xI (0), xN, xN, xN], xB 12 [xI (3), xI (lt), xI (0), xI (0), xN, xN, xN], xQ 4 MN (x_up f2 (t).toNat (some (52 + dy.length + 2))), xQ 5 MN (x_up f3 (t).toNat (some (nb t.toNat)))])) (x_d C_M_newTrailer 98 rfl) (ct_get (ct_new dy [xB 12 [xI (7), xI (0), xI (0), xI ((MN : Int)), xN, xC (52 + dy.length + 3), xC (52 + dy.length + 4)], xB 12 [xI (3), xI (sz), xI (0), xI (0), xN, xN, xN], xB 12 [xI (3), xI (lt), xI (0), xI (0), xN, xN, xN], xQ 4 MN (f2), xQ 5 MN (x_up f3 (t).toNat (some (nb t.toNat)))] 3 rfl) _ _ _) (ct_get (ct_new dy [xB 12 [xI (7), xI (0), xI (0), xI ((MN : Int)), xN, xC (52 + dy.length + 3), xC (52 + dy.length + 4)], xB 12 [xI (3), xI (sz), xI (0), xI (0), xN, xN, xN], xB 12 [xI (3), xI (lt), xI (0), xI (0), xN, xN, xN], xQ 4 MN (f2), xQ 5 MN (x_up f3 (t).toNat (some (nb t.toNat)))] 2 rfl) _ _ _) (by omega) (by omega) (g_setl _ _ _ _ [xB 12 [xI (7), xI (0), xI (0), xI ((MN : Int)), xN, xC (52 + dy.length + 3), xC (52 + dy.length + 4)], xB 12 [xI (3), xI (sz), xI (0), xI (0), xN, xN, xN], xB 12 [xI (3), xI (lt), xI (0), xI (0), xN, xN, xN], xQ 4 MN (f2), xQ 5 MN (x_up f3 (t).toNat (some (nb t.toNat)))] 3 _) ?_
        refine x_iinc (l1 := [(6, xI (t + 1)), (0, xC 42), (1, xC ctr), (2, xC (52 + dy.length)), (3, xC (52 + dy.length + 1)), (4, xC (52 + dy.length + 2)), (5, xI (has))]) (x_d C_M_newTrailer 99 rfl) rfl ⟨by omega, by omega⟩ (by decide) rfl ?_
        refine x_goto (tgt := 121) (x_d C_M_newTrailer 100 rfl) rfl ?_
        refine x_locs [1, 2, 3, 4, 5, 6, 0] rfl ?_
        refine ih (t + 1) _ _ (by omega) (fun j hj9 => ?_)
        by_cases ej : j = t.toNat
        · rw [ej, x_up_s, x_up_s, hn1]
          refine ⟨?_, rfl⟩
          unfold n_sel
          rw [if_neg (fun z => hqS (hSt.mpr z)), if_pos (hPt.mp hqP)]
        · rw [x_up_n _ _ ej, x_up_n _ _ ej]
          exact hj j (by omega)
    · refine x_aload_n (x_d C_M_newTrailer 82 rfl) rfl ?_
      refine x_goto (tgt := 199) (x_d C_M_newTrailer 83 rfl) rfl ?_
      refine x_aastore4 (h1 := hF q r A ++ (dy ++ [xB 12 [xI (7), xI (0), xI (0), xI ((MN : Int)), xN, xC (52 + dy.length + 3), xC (52 + dy.length + 4)], xB 12 [xI (3), xI (sz), xI (0), xI (0), xN, xN, xN], xB 12 [xI (3), xI (lt), xI (0), xI (0), xN, xN, xN], xQ 4 MN (x_up f2 (t).toNat (some (52 + dy.length + 1))), xQ 5 MN (x_up f3 (t).toNat (some (nb t.toNat)))])) (x_d C_M_newTrailer 98 rfl) (ct_get (ct_new dy [xB 12 [xI (7), xI (0), xI (0), xI ((MN : Int)), xN, xC (52 + dy.length + 3), xC (52 + dy.length + 4)], xB 12 [xI (3), xI (sz), xI (0), xI (0), xN, xN, xN], xB 12 [xI (3), xI (lt), xI (0), xI (0), xN, xN, xN], xQ 4 MN (f2), xQ 5 MN (x_up f3 (t).toNat (some (nb t.toNat)))] 3 rfl) _ _ _) (ct_get (ct_new dy [xB 12 [xI (7), xI (0), xI (0), xI ((MN : Int)), xN, xC (52 + dy.length + 3), xC (52 + dy.length + 4)], xB 12 [xI (3), xI (sz), xI (0), xI (0), xN, xN, xN], xB 12 [xI (3), xI (lt), xI (0), xI (0), xN, xN, xN], xQ 4 MN (f2), xQ 5 MN (x_up f3 (t).toNat (some (nb t.toNat)))] 1 rfl) _ _ _) (by omega) (by omega) (g_setl _ _ _ _ [xB 12 [xI (7), xI (0), xI (0), xI ((MN : Int)), xN, xC (52 + dy.length + 3), xC (52 + dy.length + 4)], xB 12 [xI (3), xI (sz), xI (0), xI (0), xN, xN, xN], xB 12 [xI (3), xI (lt), xI (0), xI (0), xN, xN, xN], xQ 4 MN (f2), xQ 5 MN (x_up f3 (t).toNat (some (nb t.toNat)))] 3 _) ?_
      refine x_iinc (l1 := [(6, xI (t + 1)), (0, xC 42), (1, xC ctr), (2, xC (52 + dy.length)), (3, xC (52 + dy.length + 1)), (4, xC (52 + dy.length + 2)), (5, xI (has))]) (x_d C_M_newTrailer 99 rfl) rfl ⟨by omega, by omega⟩ (by decide) rfl ?_
      refine x_goto (tgt := 121) (x_d C_M_newTrailer 100 rfl) rfl ?_
      refine x_locs [1, 2, 3, 4, 5, 6, 0] rfl ?_
      refine ih (t + 1) _ _ (by omega) (fun j hj9 => ?_)
      by_cases ej : j = t.toNat
      · rw [ej, x_up_s, x_up_s, hn1]
        refine ⟨?_, rfl⟩
        unfold n_sel
        rw [if_pos (hSt.mp hqS)]
      · rw [x_up_n _ _ ej, x_up_n _ _ ej]
        exact hj j (by omega)
