/-! indexOf -/
/-- the place of c in cs, counted from k, -1 if it isn't there -/
def s_ix : List Int → Int → Nat → Int
  | [], _, _ => -1
  | b :: l, c, k => if b = c then (k : Int) else s_ix l c (k + 1)
theorem s_ix_drop {cs : List Int} {k : Nat} (hk : k < cs.length) (c : Int) : s_ix (cs.drop k) c k = if cs.getD k 0 = c then (k : Int) else s_ix (cs.drop (k + 1)) c (k + 1) := by
  have e : cs.drop k = cs.getD k 0 :: cs.drop (k + 1) := by
    rw [List.getD_eq_getElem?_getD, List.getElem?_eq_getElem hk, List.drop_eq_getElem_cons hk]
    rfl
  rw [e]
  rfl
theorem c_SL_canEncode (Z : xZ) (d : Nat) (h : xH) (c : Int) (hc : 0 ≤ c ∧ c ≤ 127) : xMet Z d Y_SL_canEncode [xI c] h (fun v h2 => v = some (xI 1) ∧ h2 = h) := by
  refine xMet_of (by decide) (Nat.le_of_ble_eq_true rfl) (fun v h2 hq => by rw [hq.1]; exact Or.inr rfl) ?_
  refine x_iload_n (x_d C_SL_canEncode 0 rfl) rfl ?_
  refine x_if_lt (tgt := 15) (x_d C_SL_canEncode 1 rfl) rfl (fun q => absurd q (by omega)) (fun _ => ?_)
  refine x_iload_n (x_d C_SL_canEncode 2 rfl) rfl ?_
  refine x_sipush (x_d C_SL_canEncode 3 rfl) (by omega) ?_
  refine x_icmp_gt (tgt := 15) (x_d C_SL_canEncode 4 rfl) rfl (fun q => absurd q (by omega)) (fun _ => ?_)
  refine x_iconst (x_d C_SL_canEncode 5 rfl) ⟨by omega, by omega⟩ ?_
  refine x_goto (tgt := 16) (x_d C_SL_canEncode 6 rfl) rfl ?_
  refine x_ireturn (x_d C_SL_canEncode 8 rfl) ?_
  exact ⟨rfl, rfl⟩
theorem w_SL_indexOfChar_7 (Z : xZ) (d : Nat) (h : xH) {i : Nat} {s : String × Nat × String × List Int} (hs : x_strs[i]? = some s) (c : Int) (hc : 0 ≤ c ∧ c ≤ 127) : ∀ (k : Nat) (t : Int), (s.2.2.2.length - t).toNat = k → 0 ≤ t ∧ t ≤ s.2.2.2.length → s_ix s.2.2.2 c 0 = s_ix (s.2.2.2.drop t.toNat) c t.toNat → xW Z d Y_SL_indexOfChar 7 [(0, xS (2 * i + 2)), (1, xI c), (2, xI 0), (3, xI s.2.2.2.length), (4, xI c), (5, xI t)] [] h (fun v h2 => v = some (xI (s_ix s.2.2.2 c 0)) ∧ h2 = h) := by
  intro k
  induction k using Nat.strongRecOn with
  | ind k ih =>
  intro t hk ht hx
  have hl := x_strs_len hs
  refine x_iload (x_d C_SL_indexOfChar 5 rfl) rfl ?_
  refine x_iload_n (x_d C_SL_indexOfChar 6 rfl) rfl ?_
  refine x_icmp_ge (tgt := 31) (x_d C_SL_indexOfChar 7 rfl) rfl (fun c1 => ?_) (fun c1 => ?_)
  · refine x_iconst (x_d C_SL_indexOfChar 17 rfl) ⟨by omega, by omega⟩ ?_
    refine x_ireturn (x_d C_SL_indexOfChar 18 rfl) ?_
    exact ⟨congrArg (fun z => some (xI z)) (by rw [hx, List.drop_eq_nil_of_le (by omega)]; rfl), rfl⟩
  · refine x_aload_n (x_d C_SL_indexOfChar 8 rfl) rfl ?_
    refine x_iload (x_d C_SL_indexOfChar 9 rfl) rfl ?_
    refine x_baldS (x_d C_SL_indexOfChar 10 rfl) hs (by omega) (by omega) ?_
    refine x_iload (x_d C_SL_indexOfChar 11 rfl) rfl ?_
    refine x_icmp_ne (tgt := 25) (x_d C_SL_indexOfChar 12 rfl) rfl (fun c2 => ?_) (fun c2 => ?_)
    · refine x_iinc (l1 := [(5, xI (t + 1)), (0, xS (2 * i + 2)), (1, xI (c)), (2, xI (0)), (3, xI (s.2.2.2.length)), (4, xI (c))]) (x_d C_SL_indexOfChar 15 rfl) rfl ⟨by omega, by omega⟩ (by decide) rfl ?_
      refine x_goto (tgt := 7) (x_d C_SL_indexOfChar 16 rfl) rfl ?_
      refine x_locs [1, 2, 3, 4, 5, 0] rfl ?_
      refine ih _ (by omega) _ rfl (by omega) ?_
      rw [hx, s_ix_drop (k := t.toNat) (by omega), if_neg (by assumption), show (t + 1).toNat = t.toNat + 1 by omega]
    · refine x_iload (x_d C_SL_indexOfChar 13 rfl) rfl ?_
      refine x_ireturn (x_d C_SL_indexOfChar 14 rfl) ?_
      exact ⟨congrArg (fun z => some (xI z)) (by rw [hx, s_ix_drop (k := t.toNat) (by omega), if_pos (by assumption)]; omega), rfl⟩
theorem c_SL_indexOfChar (Z : xZ) (d : Nat) (h : xH) {i : Nat} {s : String × Nat × String × List Int} (hs : x_strs[i]? = some s) (c : Int) (hc : 0 ≤ c ∧ c ≤ 127) : xMet Z d Y_SL_indexOfChar [xS (2 * i + 2), xI c, xI 0, xI s.2.2.2.length] h (fun v h2 => v = some (xI (s_ix s.2.2.2 c 0)) ∧ h2 = h) := by
  refine xMet_of (by decide) (Nat.le_of_ble_eq_true rfl) (fun v h2 hq => by rw [hq.1]; trivial) ?_
  have hl := x_strs_len hs
  refine x_iload_n (x_d C_SL_indexOfChar 0 rfl) rfl ?_
  refine x_i2b (x_d C_SL_indexOfChar 1 rfl) ?_
  refine x_istore (l1 := [(4, xI (x_by c)), (0, xS (2 * i + 2)), (1, xI (c)), (2, xI (0)), (3, xI (s.2.2.2.length))]) (x_d C_SL_indexOfChar 2 rfl) (by decide) rfl ?_
  refine x_iload_n (x_d C_SL_indexOfChar 3 rfl) rfl ?_
  refine x_istore (l1 := [(5, xI (0)), (4, xI (x_by c)), (0, xS (2 * i + 2)), (1, xI (c)), (2, xI (0)), (3, xI (s.2.2.2.length))]) (x_d C_SL_indexOfChar 4 rfl) (by decide) rfl ?_
  rw [x_by_id (by omega)]
  refine x_locs [2, 3, 4, 5, 1, 0] rfl ?_
  exact w_SL_indexOfChar_7 Z d h hs c hc _ _ rfl (by omega) rfl
theorem c_SL_indexOf (Z : xZ) (d : Nat) (h : xH) (hd : 2 ≤ d) {i : Nat} {s : String × Nat × String × List Int} (hs : x_strs[i]? = some s) (c : Int) (hc : 0 ≤ c ∧ c ≤ 127) (hlen : 0 < s.2.2.2.length) : xMet Z d Y_SL_indexOf [xS (2 * i + 2), xI c, xI 0, xI s.2.2.2.length] h (fun v h2 => v = some (xI (s_ix s.2.2.2 c 0)) ∧ h2 = h) := by
  refine xMet_of (by decide) (Nat.le_of_ble_eq_true rfl) (fun v h2 hq => by rw [hq.1]; trivial) ?_
  have hl := x_strs_len hs
  refine x_iload_n (x_d C_SL_indexOf 0 rfl) rfl ?_
  refine x_invokestatic (st := []) (av := [xI (c)]) (x_d C_SL_indexOf 1 rfl) k_SL_88 m_SL_canEncode s_SL_canEncode rfl (Nat.le_of_ble_eq_true rfl) (by omega) rfl (c_SL_canEncode Z (d - 1) (h) c hc) ?_
  rintro _ _ ⟨rfl, hh⟩; rw [hh]; clear hh
  refine x_if_ne (tgt := 9) (x_d C_SL_indexOf 2 rfl) rfl (fun _ => ?_) (fun q => absurd q (by omega))
  refine x_iload_n (x_d C_SL_indexOf 5 rfl) rfl ?_
  refine x_iconst (x_d C_SL_indexOf 6 rfl) ⟨by omega, by omega⟩ ?_
  refine x_mmax (st := []) (x_d C_SL_indexOf 7 rfl) kM_SL_92 mmax_w (Nat.le_of_ble_eq_true rfl) (by omega) ?_
  rw [show max (0 : Int) 0 = 0 by omega]
  refine x_istore_n (l1 := [(2, xI (0)), (0, xS (2 * i + 2)), (1, xI (c)), (3, xI (s.2.2.2.length))]) (x_d C_SL_indexOf 8 rfl) (by decide) rfl ?_
  refine x_iload_n (x_d C_SL_indexOf 9 rfl) rfl ?_
  refine x_aload_n (x_d C_SL_indexOf 10 rfl) rfl ?_
  refine x_alenS (x_d C_SL_indexOf 11 rfl) hs ?_
  refine x_mmin (st := []) (x_d C_SL_indexOf 12 rfl) kM_SL_38 mmin_w (Nat.le_of_ble_eq_true rfl) (by omega) ?_
  rw [show min (s.2.2.2.length : Int) s.2.2.2.length = s.2.2.2.length by omega]
  refine x_istore_n (l1 := [(3, xI (s.2.2.2.length)), (2, xI (0)), (0, xS (2 * i + 2)), (1, xI (c))]) (x_d C_SL_indexOf 13 rfl) (by decide) rfl ?_
  refine x_iload_n (x_d C_SL_indexOf 14 rfl) rfl ?_
  refine x_iload_n (x_d C_SL_indexOf 15 rfl) rfl ?_
  refine x_icmp_lt (tgt := 29) (x_d C_SL_indexOf 16 rfl) rfl (fun _ => ?_) (fun q => absurd q (by omega))
  refine x_aload_n (x_d C_SL_indexOf 19 rfl) rfl ?_
  refine x_iload_n (x_d C_SL_indexOf 20 rfl) rfl ?_
  refine x_iload_n (x_d C_SL_indexOf 21 rfl) rfl ?_
  refine x_iload_n (x_d C_SL_indexOf 22 rfl) rfl ?_
  refine x_invokestatic (st := []) (av := [xS (2 * i + 2), xI (c), xI (0), xI (s.2.2.2.length)]) (x_d C_SL_indexOf 23 rfl) k_SL_95 m_SL_indexOfChar s_SL_indexOfChar rfl (Nat.le_of_ble_eq_true rfl) (by omega) rfl (c_SL_indexOfChar Z (d - 1) (h) hs c hc) ?_
  rintro _ _ ⟨rfl, hh⟩; rw [hh]; clear hh
  refine x_ireturn (x_d C_SL_indexOf 24 rfl) ?_
  exact ⟨rfl, rfl⟩
theorem c_S_indexOf2 (Z : xZ) (d : Nat) (h : xH) (hd : 3 ≤ d) {i : Nat} {s : String × Nat × String × List Int} (hs : x_strs[i]? = some s) (c : Int) (hc : 0 ≤ c ∧ c ≤ 127) (hlen : 0 < s.2.2.2.length) : xMet Z d Y_S_indexOf2 [xS (2 * i + 1), xI c, xI 0] h (fun v h2 => v = some (xI (s_ix s.2.2.2 c 0)) ∧ h2 = h) := by
  refine xMet_of (by decide) (Nat.le_of_ble_eq_true rfl) (fun v h2 hq => by rw [hq.1]; trivial) ?_
  refine x_aload_n (x_d C_S_indexOf2 0 rfl) rfl ?_
  refine x_invokevirtualS (st := []) (av := []) (x_d C_S_indexOf2 1 rfl) k_S_492 m_S_isLatin1 v_S_isLatin1 rfl hs rfl (Nat.le_of_ble_eq_true rfl) (by omega) rfl (c_S_isLatin1 Z (d - 1) (h) hs) ?_
  rintro _ _ ⟨rfl, hh⟩; rw [hh]; clear hh
  refine x_if_eq (tgt := 23) (x_d C_S_indexOf2 2 rfl) rfl (fun q => absurd q (by omega)) (fun _ => ?_)
  refine x_aload_n (x_d C_S_indexOf2 3 rfl) rfl ?_
  refine x_getvalue (x_d C_S_indexOf2 4 rfl) fs_S_9 hs ?_
  refine x_iload_n (x_d C_S_indexOf2 5 rfl) rfl ?_
  refine x_iload_n (x_d C_S_indexOf2 6 rfl) rfl ?_
  refine x_aload_n (x_d C_S_indexOf2 7 rfl) rfl ?_
  refine x_invokevirtualS (st := [xI (0), xI (c), xS (2 * i + 2)]) (av := []) (x_d C_S_indexOf2 8 rfl) k_S_505 m_S_length v_S_length rfl hs rfl (Nat.le_of_ble_eq_true rfl) (by omega) rfl (c_S_length Z (d - 1) (h) (by omega) hs) ?_
  rintro _ _ ⟨rfl, hh⟩; rw [hh]; clear hh
  refine x_invokestatic (st := []) (av := [xS (2 * i + 2), xI (c), xI (0), xI (s.2.2.2.length)]) (x_d C_S_indexOf2 9 rfl) k_S_637 m_SL_indexOf s_SL_indexOf rfl (Nat.le_of_ble_eq_true rfl) (by omega) rfl (c_SL_indexOf Z (d - 1) (h) (by omega) hs c hc hlen) ?_
  rintro _ _ ⟨rfl, hh⟩; rw [hh]; clear hh
  refine x_goto (tgt := 36) (x_d C_S_indexOf2 10 rfl) rfl ?_
  refine x_ireturn (x_d C_S_indexOf2 18 rfl) ?_
  exact ⟨rfl, rfl⟩
theorem c_S_indexOf1 (Z : xZ) (d : Nat) (h : xH) (hd : 4 ≤ d) {i : Nat} {s : String × Nat × String × List Int} (hs : x_strs[i]? = some s) (c : Int) (hc : 0 ≤ c ∧ c ≤ 127) (hlen : 0 < s.2.2.2.length) : xMet Z d Y_S_indexOf1 [xS (2 * i + 1), xI c] h (fun v h2 => v = some (xI (s_ix s.2.2.2 c 0)) ∧ h2 = h) := by
  refine xMet_of (by decide) (Nat.le_of_ble_eq_true rfl) (fun v h2 hq => by rw [hq.1]; trivial) ?_
  refine x_aload_n (x_d C_S_indexOf1 0 rfl) rfl ?_
  refine x_iload_n (x_d C_S_indexOf1 1 rfl) rfl ?_
  refine x_iconst (x_d C_S_indexOf1 2 rfl) ⟨by omega, by omega⟩ ?_
  refine x_invokevirtualS (st := []) (av := [xI (c), xI (0)]) (x_d C_S_indexOf1 3 rfl) k_S_633 m_S_indexOf2 v_S_indexOf2 rfl hs rfl (Nat.le_of_ble_eq_true rfl) (by omega) rfl (c_S_indexOf2 Z (d - 1) (h) (by omega) hs c hc hlen) ?_
  rintro _ _ ⟨rfl, hh⟩; rw [hh]; clear hh
  refine x_ireturn (x_d C_S_indexOf1 4 rfl) ?_
  exact ⟨rfl, rfl⟩
