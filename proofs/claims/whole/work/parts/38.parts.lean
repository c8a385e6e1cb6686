/-! parts: from part to part -/
/-- wrapped numbers -/
theorem x_wrap {a b : Int} (h : a % 4294967296 = b % 4294967296) : Int32.ofInt a = Int32.ofInt b := by
  refine Int32.toBitVec_inj.mp (BitVec.eq_of_toNat_eq ?_)
  show (BitVec.ofInt 32 a).toNat = (BitVec.ofInt 32 b).toNat
  rw [BitVec.toNat_ofInt, BitVec.toNat_ofInt]
  omega
theorem x_iincW {Z : xZ} {d : Nat} {Y : xY} {pc : Nat} {l l1 : xL} {st : List xV} {h : xH} {Q : Option xV → xH → Prop} {i : Nat} {x n : Int} (z : Int) (hd : decode Y.2.1 pc = .ok (.iinc i n, 3)) (hg : x_get l i = some (xI x)) (hr : x_i32 z) (hz : z % 4294967296 = (x + n) % 4294967296) (hi : i < Y.2.2.1) (hl1 : x_put1 l i (xI z) = l1) (kk : xW Z d Y (pc + 3) l1 st h Q) : xW Z d Y pc l st h Q := by
  subst hl1
  refine xW_sto (fun ho hs => ⟨x_okL_put1 (v := xI z) _ ho hr, hs⟩) (fun {p l0 e R s m args below meth c H locs cells slots Q ls ad sa} hx hb _ _ _ hl kk => ?_) kk
  obtain ⟨j, hj⟩ := List.mem_iff_getElem?.mp (List.mem_map.mpr ⟨(i, xI x), x_get_mem hg, rfl⟩ : (i, x_v ad sa (xI x)) ∈ x_ls ad sa l)
  exact lv_iinc hx hb hd hl hj ((Int32.ofInt_add x n).symm.trans (x_wrap hz.symm)) hi (x_put1_ls ad sa l i (xI z)) kk
/-- the parts from t on, each behind the other, up to e -/
def s_kd (sp : Nat → Int) (e : Int) : Nat → Int → List Int
  | 0, _ => []
  | k + 1, t => if t < e then t :: s_kd sp e k (s_bh sp t) else []
theorem s_bh_gt (sp : Nat → Int) (t : Int) : t < s_bh sp t := by
  unfold s_bh
  omega
theorem s_kd_more (sp : Nat → Int) (e : Int) : ∀ (k m : Nat) (t : Int), (e - t).toNat ≤ k → (e - t).toNat ≤ m → s_kd sp e k t = s_kd sp e m t := by
  intro k
  induction k with
  | zero =>
    intro m t hk hm
    cases m with
    | zero => rfl
    | succ m =>
      unfold s_kd
      rw [if_neg (by omega)]
  | succ k ih =>
    intro m t hk hm
    cases m with
    | zero =>
      unfold s_kd
      rw [if_neg (by omega)]
    | succ m =>
      unfold s_kd
      by_cases hte : t < e
      · have := s_bh_gt sp t
        rw [if_pos hte, if_pos hte, ih m (s_bh sp t) (by omega) (by omega)]
      · rw [if_neg hte, if_neg hte]
def s_K (sp : Nat → Int) (e t : Int) : List Int := s_kd sp e (e - t).toNat t
theorem s_K_stop {sp : Nat → Int} {e t : Int} (h : e ≤ t) : s_K sp e t = [] := by
  unfold s_K
  rw [show (e - t).toNat = 0 by omega]
  rfl
theorem s_K_step {sp : Nat → Int} {e t : Int} (h : t < e) : s_K sp e t = t :: s_K sp e (s_bh sp t) := by
  unfold s_K
  have h1 := s_bh_gt sp t
  obtain ⟨k, hk⟩ : ∃ k, (e - t).toNat = k + 1 := ⟨(e - t).toNat - 1, by omega⟩
  rw [hk]
  conv => lhs; unfold s_kd
  rw [if_pos h, s_kd_more sp e k (e - s_bh sp t).toNat (s_bh sp t) (by omega) (by omega)]
/-- the parts that lie in a part -/
def s_in (sp : Nat → Int) (p : Int) : List Int := s_K sp (s_bh sp p) (p + 1)
def s_nth : List Int → Int → Int
  | [], _ => -1
  | x :: l, k => if k = 0 then x else s_nth l (k - 1)
def s_first (f : Int → Bool) : List Int → Int
  | [] => -1
  | x :: l => if f x = true then x else s_first f l
theorem w_P_items_6 (Z : xZ) (d : Nat) (q : Nat → Int) (r : Nat → Option Nat) (A : Nat → Nat → Int) (dy : xH) (hd : 2 ≤ d) (p : Int) (hsp : ∀ j, 0 ≤ A 8 j ∧ A 8 j ≤ 12900) (hp : 0 ≤ p ∧ p < 12900 ∧ s_bh (A 8) p ≤ 12900) : ∀ (k : Nat) (t n : Int), (s_bh (A 8) p - t).toNat = k → p < t → 0 ≤ n ∧ n ≤ t → xW Z d Y_P_items 6 [(0, xC 4), (1, xI p), (2, xI n), (3, xI t)] [] (hF q r A ++ dy) (fun v h2 => v = some (xI (n + (s_K (A 8) (s_bh (A 8) p) t).length)) ∧ h2 = hF q r A ++ dy) := by
  intro k
  induction k using Nat.strongRecOn with
  | ind k ih =>
  intro t n hk ht hn
  have hs8 := hsp t.toNat
  have hgt := s_bh_gt (A 8) t
  have hb8 : s_bh (A 8) t ≤ t + 12900 := by unfold s_bh; omega
  have hgp := s_bh_gt (A 8) p
  refine x_iload_n (x_d C_P_items 6 rfl) rfl ?_
  refine x_aload_n (x_d C_P_items 7 rfl) rfl ?_
  refine x_iload_n (x_d C_P_items 8 rfl) rfl ?_
  refine x_invokevirtual (st := [xI (t)]) (av := [xI (p)]) (x_d C_P_items 9 rfl) k_P_49 m_P_behind v_P_behind cl_P rfl rfl (Nat.le_of_ble_eq_true rfl) (by omega) rfl (c_P_behind Z (d - 1) q r A dy (by omega) p ⟨by omega, by omega, hsp⟩) ?_
  rintro _ _ ⟨rfl, rfl⟩
  refine x_icmp_ge (tgt := 27) (x_d C_P_items 10 rfl) rfl (fun c1 => ?_) (fun c1 => ?_)
  · refine x_iload_n (x_d C_P_items 17 rfl) rfl ?_
    refine x_ireturn (x_d C_P_items 18 rfl) ?_
    rw [s_K_stop (by omega)]
    exact ⟨congrArg (fun z => some (xI z)) (by simp), rfl⟩
  · refine x_iinc (l1 := [(2, xI (n + 1)), (0, xC 4), (1, xI (p)), (3, xI (t))]) (x_d C_P_items 11 rfl) rfl ⟨by omega, by omega⟩ (by decide) rfl ?_
    refine x_aload_n (x_d C_P_items 12 rfl) rfl ?_
    refine x_iload_n (x_d C_P_items 13 rfl) rfl ?_
    refine x_invokevirtual (st := []) (av := [xI (t)]) (x_d C_P_items 14 rfl) k_P_49 m_P_behind v_P_behind cl_P rfl rfl (Nat.le_of_ble_eq_true rfl) (by omega) rfl (c_P_behind Z (d - 1) q r A dy (by omega) t ⟨by omega, by omega, hsp⟩) ?_
    rintro _ _ ⟨rfl, rfl⟩
    refine x_istore_n (l1 := [(3, xI (s_bh (A 8) t)), (2, xI (n + 1)), (0, xC 4), (1, xI (p))]) (x_d C_P_items 15 rfl) (by decide) rfl ?_
    refine x_goto (tgt := 6) (x_d C_P_items 16 rfl) rfl ?_
    refine x_locs [2, 3, 1, 0] rfl ?_
    rw [s_K_step (t := t) (by omega), List.length_cons]
    refine xW_post ?_ (ih _ (by omega) _ _ rfl (by omega) (by omega))
    rintro v h2 ⟨hv, hh⟩
    exact ⟨by rw [hv]; congr 2; omega, hh⟩
theorem c_P_items (Z : xZ) (d : Nat) (q : Nat → Int) (r : Nat → Option Nat) (A : Nat → Nat → Int) (dy : xH) (hd : 2 ≤ d) (p : Int) (hsp : ∀ j, 0 ≤ A 8 j ∧ A 8 j ≤ 12900) (hp : 0 ≤ p ∧ p < 12900 ∧ s_bh (A 8) p ≤ 12900) : xMet Z d Y_P_items [xC 4, xI p] (hF q r A ++ dy) (fun v h2 => v = some (xI (s_in (A 8) p).length) ∧ h2 = hF q r A ++ dy) := by
  refine xMet_of (by decide) (Nat.le_of_ble_eq_true rfl) (fun v h2 hq => by rw [hq.1]; trivial) ?_
  refine x_iconst (x_d C_P_items 0 rfl) ⟨by omega, by omega⟩ ?_
  refine x_istore_n (l1 := [(2, xI (0)), (0, xC 4), (1, xI (p))]) (x_d C_P_items 1 rfl) (by decide) rfl ?_
  refine x_iload_n (x_d C_P_items 2 rfl) rfl ?_
  refine x_iconst (x_d C_P_items 3 rfl) ⟨by omega, by omega⟩ ?_
  refine x_iadd (x_d C_P_items 4 rfl) ⟨by omega, by omega⟩ ?_
  refine x_istore_n (l1 := [(3, xI (p + 1)), (2, xI (0)), (0, xC 4), (1, xI (p))]) (x_d C_P_items 5 rfl) (by decide) rfl ?_
  refine x_locs [2, 3, 1, 0] rfl ?_
  refine xW_post ?_ (w_P_items_6 Z d q r A dy hd p hsp hp _ _ _ rfl (by omega) (by omega))
  rintro v h2 ⟨hv, hh⟩
  exact ⟨by rw [hv, Int.zero_add]; rfl, hh⟩
theorem w_P_itemAt_13 (Z : xZ) (d : Nat) (q : Nat → Int) (r : Nat → Option Nat) (A : Nat → Nat → Int) (dy : xH) (hd : 2 ≤ d) (p k0 : Int) (hsp : ∀ j, 0 ≤ A 8 j ∧ A 8 j ≤ 12900) (hp : 0 ≤ p ∧ p < 12900 ∧ s_bh (A 8) p ≤ 12900) : ∀ (k : Nat) (t n u : Int), (s_bh (A 8) p - t).toNat = k → p < t → (n = u ∨ (n = u + 4294967296 ∧ u < 0 ∧ 0 < n)) → -2147483648 - t ≤ u → x_i32 n → xW Z d Y_P_itemAt 13 [(0, xC 4), (1, xI p), (2, xI k0), (3, xI n), (4, xI t)] [] (hF q r A ++ dy) (fun v h2 => v = some (xI (s_nth (s_K (A 8) (s_bh (A 8) p) t) u)) ∧ h2 = hF q r A ++ dy) := by
  intro k
  induction k using Nat.strongRecOn with
  | ind k ih =>
  intro t n u hk ht hu hlo hn
  obtain ⟨hn1, hn2⟩ := hn
  have hs8 := hsp t.toNat
  have hgt := s_bh_gt (A 8) t
  have hb8 : s_bh (A 8) t ≤ t + 12900 := by unfold s_bh; omega
  have hgp := s_bh_gt (A 8) p
  refine x_iload (x_d C_P_itemAt 10 rfl) rfl ?_
  refine x_aload_n (x_d C_P_itemAt 11 rfl) rfl ?_
  refine x_iload_n (x_d C_P_itemAt 12 rfl) rfl ?_
  refine x_invokevirtual (st := [xI (t)]) (av := [xI (p)]) (x_d C_P_itemAt 13 rfl) k_P_49 m_P_behind v_P_behind cl_P rfl rfl (Nat.le_of_ble_eq_true rfl) (by omega) rfl (c_P_behind Z (d - 1) q r A dy (by omega) p ⟨by omega, by omega, hsp⟩) ?_
  rintro _ _ ⟨rfl, rfl⟩
  refine x_icmp_ge (tgt := 44) (x_d C_P_itemAt 14 rfl) rfl (fun c1 => ?_) (fun c1 => ?_)
  · refine x_iconst (x_d C_P_itemAt 25 rfl) ⟨by omega, by omega⟩ ?_
    refine x_ireturn (x_d C_P_itemAt 26 rfl) ?_
    rw [s_K_stop (by omega)]
    exact ⟨rfl, rfl⟩
  · refine x_iload_n (x_d C_P_itemAt 15 rfl) rfl ?_
    refine x_if_ne (tgt := 30) (x_d C_P_itemAt 16 rfl) rfl (fun c2 => ?_) (fun c2 => ?_)
    · refine x_iincW (l1 := [(3, xI (if n = -2147483648 then 2147483647 else n - 1)), (0, xC 4), (1, xI (p)), (2, xI (k0)), (4, xI (t))]) (if n = -2147483648 then 2147483647 else n - 1) (x_d C_P_itemAt 19 rfl) rfl (by split <;> exact ⟨by omega, by omega⟩) (by split <;> omega) (by decide) rfl ?_
      refine x_aload_n (x_d C_P_itemAt 20 rfl) rfl ?_
      refine x_iload (x_d C_P_itemAt 21 rfl) rfl ?_
      refine x_invokevirtual (st := []) (av := [xI (t)]) (x_d C_P_itemAt 22 rfl) k_P_49 m_P_behind v_P_behind cl_P rfl rfl (Nat.le_of_ble_eq_true rfl) (by omega) rfl (c_P_behind Z (d - 1) q r A dy (by omega) t ⟨by omega, by omega, hsp⟩) ?_
      rintro _ _ ⟨rfl, rfl⟩
      refine x_istore (l1 := [(4, xI (s_bh (A 8) t)), (3, xI (if n = -2147483648 then 2147483647 else n - 1)), (0, xC 4), (1, xI (p)), (2, xI (k0))]) (x_d C_P_itemAt 23 rfl) (by decide) rfl ?_
      refine x_goto (tgt := 13) (x_d C_P_itemAt 24 rfl) rfl ?_
      refine x_locs [2, 3, 4, 1, 0] rfl ?_
      rw [s_K_step (t := t) (by omega)]
      show xW _ _ _ _ _ _ _ (fun v h2 => v = some (xI (if u = 0 then t else s_nth (s_K (A 8) (s_bh (A 8) p) (s_bh (A 8) t)) (u - 1))) ∧ _)
      rw [if_neg (show ¬ u = 0 by omega)]
      exact ih (s_bh (A 8) p - s_bh (A 8) t).toNat (by omega) (s_bh (A 8) t) (if n = -2147483648 then 2147483647 else n - 1) (u - 1) rfl (by omega) (by split <;> omega) (by omega) (by split <;> exact ⟨by omega, by omega⟩)
    · refine x_iload (x_d C_P_itemAt 17 rfl) rfl ?_
      refine x_ireturn (x_d C_P_itemAt 18 rfl) ?_
      rw [s_K_step (t := t) (by omega)]
      refine ⟨?_, rfl⟩
      show _ = some (xI (if u = 0 then t else _))
      rw [if_pos (show u = 0 by omega)]
theorem c_P_itemAt (Z : xZ) (d : Nat) (q : Nat → Int) (r : Nat → Option Nat) (A : Nat → Nat → Int) (dy : xH) (hd : 2 ≤ d) (p k : Int) (hsp : ∀ j, 0 ≤ A 8 j ∧ A 8 j ≤ 12900) (hp : 0 ≤ p ∧ p < 12900 ∧ s_bh (A 8) p ≤ 12900) : xMet Z d Y_P_itemAt [xC 4, xI p, xI k] (hF q r A ++ dy) (fun v h2 => v = some (xI (s_nth (s_in (A 8) p) k)) ∧ h2 = hF q r A ++ dy) := by
  refine xMet_of (by decide) (Nat.le_of_ble_eq_true rfl) (fun v h2 hq => by rw [hq.1]; trivial) ?_
  refine xW_ok (fun hol _ _ => ?_)
  have hk : x_i32 k := x_okL_get (i := 2) hol rfl
  refine x_iload_n (x_d C_P_itemAt 0 rfl) rfl ?_
  refine x_if_ge (tgt := 6) (x_d C_P_itemAt 1 rfl) rfl (fun _ => ?_) (fun q => absurd q (by omega))
  refine x_iload_n (x_d C_P_itemAt 4 rfl) rfl ?_
  refine x_istore_n (l1 := [(3, xI (k)), (0, xC 4), (1, xI (p)), (2, xI (k))]) (x_d C_P_itemAt 5 rfl) (by decide) rfl ?_
  refine x_iload_n (x_d C_P_itemAt 6 rfl) rfl ?_
  refine x_iconst (x_d C_P_itemAt 7 rfl) ⟨by omega, by omega⟩ ?_
  refine x_iadd (x_d C_P_itemAt 8 rfl) ⟨by omega, by omega⟩ ?_
  refine x_istore (l1 := [(4, xI (p + 1)), (3, xI (k)), (0, xC 4), (1, xI (p)), (2, xI (k))]) (x_d C_P_itemAt 9 rfl) (by decide) rfl ?_
  refine x_locs [2, 3, 4, 1, 0] rfl ?_
  exact w_P_itemAt_13 Z d q r A dy hd p k hsp hp _ _ _ _ rfl (by omega) (Or.inl rfl) (by have := hk.1; omega) hk
theorem w_P_named_10 (Z : xZ) (d : Nat) (q : Nat → Int) (r : Nat → Option Nat) (A : Nat → Nat → Int) (dy : xH) (hd : 6 ≤ d) {i : Nat} {s : String × Nat × String × List Int} (hs : x_strs[i]? = some s) (p : Int) (hT : 0 ≤ q 34 ∧ q 34 ≤ q 35 ∧ q 35 ≤ 10248) (hR : s_okR A) (hsp : ∀ j, 0 ≤ A 8 j ∧ A 8 j ≤ 12900) (hp : 0 ≤ p ∧ p < 12900 ∧ s_bh (A 8) p ≤ 12900) : ∀ (k : Nat) (t : Int), (s_bh (A 8) p - t).toNat = k → p < t → xW Z d Y_P_named 10 [(0, xC 4), (1, xI p), (2, xS (2 * i + 1)), (3, xI t)] [] (hF q r A ++ dy) (fun v h2 => v = some (xI (s_first (fun t => decide (0 ≤ s_the (A 2) (q 35) (A 9 t.toNat) s.2.2.2)) (s_K (A 8) (s_bh (A 8) p) t))) ∧ h2 = hF q r A ++ dy) := by
  intro k
  induction k using Nat.strongRecOn with
  | ind k ih =>
  intro t hk ht
  have hs8 := hsp t.toNat
  have hgt := s_bh_gt (A 8) t
  have hb8 : s_bh (A 8) t ≤ t + 12900 := by unfold s_bh; omega
  have hgp := s_bh_gt (A 8) p
  refine x_iload_n (x_d C_P_named 8 rfl) rfl ?_
  refine x_aload_n (x_d C_P_named 9 rfl) rfl ?_
  refine x_iload_n (x_d C_P_named 10 rfl) rfl ?_
  refine x_invokevirtual (st := [xI (t)]) (av := [xI (p)]) (x_d C_P_named 11 rfl) k_P_49 m_P_behind v_P_behind cl_P rfl rfl (Nat.le_of_ble_eq_true rfl) (by omega) rfl (c_P_behind Z (d - 1) q r A dy (by omega) p ⟨by omega, by omega, hsp⟩) ?_
  rintro _ _ ⟨rfl, rfl⟩
  refine x_icmp_ge (tgt := 47) (x_d C_P_named 12 rfl) rfl (fun c1 => ?_) (fun c1 => ?_)
  · refine x_iconst (x_d C_P_named 29 rfl) ⟨by omega, by omega⟩ ?_
    refine x_ireturn (x_d C_P_named 30 rfl) ?_
    rw [s_K_stop (by omega)]
    exact ⟨rfl, rfl⟩
  · refine x_aload_n (x_d C_P_named 13 rfl) rfl ?_
    refine x_getfield (v := xC 1) (x_d C_P_named 14 rfl) f_P_27 rfl rfl ?_
    refine x_aload_n (x_d C_P_named 15 rfl) rfl ?_
    refine x_getfield (v := xC 9) (x_d C_P_named 16 rfl) f_P_24 rfl rfl ?_
    refine x_iload_n (x_d C_P_named 17 rfl) rfl ?_
    refine x_iaload (f := A 9) (x_d C_P_named 18 rfl) rfl (by omega) (by omega) ?_
    refine x_aload_n (x_d C_P_named 19 rfl) rfl ?_
    refine x_invokevirtual (st := []) (av := [xI (A 9 (t).toNat), xS (2 * i + 1)]) (x_d C_P_named 20 rfl) k_P_53 m_T_afterThe v_T_afterThe cl_T rfl rfl (Nat.le_of_ble_eq_true rfl) (by omega) rfl (c_T_afterThe Z (d - 1) q r A dy (by omega) hs (A 9 (t).toNat) hT hR) ?_
    rintro _ _ ⟨rfl, rfl⟩
    refine x_if_lt (tgt := 38) (x_d C_P_named 21 rfl) rfl (fun c2 => ?_) (fun c2 => ?_)
    · refine x_aload_n (x_d C_P_named 24 rfl) rfl ?_
      refine x_iload_n (x_d C_P_named 25 rfl) rfl ?_
      refine x_invokevirtual (st := []) (av := [xI (t)]) (x_d C_P_named 26 rfl) k_P_49 m_P_behind v_P_behind cl_P rfl rfl (Nat.le_of_ble_eq_true rfl) (by omega) rfl (c_P_behind Z (d - 1) q r A dy (by omega) t ⟨by omega, by omega, hsp⟩) ?_
      rintro _ _ ⟨rfl, rfl⟩
      refine x_istore_n (l1 := [(3, xI (s_bh (A 8) t)), (0, xC 4), (1, xI (p)), (2, xS (2 * i + 1))]) (x_d C_P_named 27 rfl) (by decide) rfl ?_
      refine x_goto (tgt := 10) (x_d C_P_named 28 rfl) rfl ?_
      refine x_locs [1, 2, 3, 0] rfl ?_
      rw [s_K_step (t := t) (by omega)]
      show xW _ _ _ _ _ _ _ (fun v h2 => v = some (xI (if decide (0 ≤ s_the (A 2) (q 35) (A 9 t.toNat) s.2.2.2) = true then t else s_first _ (s_K (A 8) (s_bh (A 8) p) (s_bh (A 8) t)))) ∧ _)
      rw [if_neg (by rw [decide_eq_true_eq]; omega)]
      exact ih _ (by omega) _ rfl (by omega)
    · refine x_iload_n (x_d C_P_named 22 rfl) rfl ?_
      refine x_ireturn (x_d C_P_named 23 rfl) ?_
      rw [s_K_step (t := t) (by omega)]
      refine ⟨?_, rfl⟩
      show _ = some (xI (if decide (0 ≤ s_the (A 2) (q 35) (A 9 t.toNat) s.2.2.2) = true then t else _))
      rw [if_pos (by rw [decide_eq_true_eq]; omega)]
theorem c_P_named (Z : xZ) (d : Nat) (q : Nat → Int) (r : Nat → Option Nat) (A : Nat → Nat → Int) (dy : xH) (hd : 6 ≤ d) {i : Nat} {s : String × Nat × String × List Int} (hs : x_strs[i]? = some s) (p : Int) (hT : 0 ≤ q 34 ∧ q 34 ≤ q 35 ∧ q 35 ≤ 10248) (hR : s_okR A) (hsp : ∀ j, 0 ≤ A 8 j ∧ A 8 j ≤ 12900) (hp : 0 ≤ p ∧ p < 12900 ∧ s_bh (A 8) p ≤ 12900) : xMet Z d Y_P_named [xC 4, xI p, xS (2 * i + 1)] (hF q r A ++ dy) (fun v h2 => v = some (xI (s_first (fun t => decide (0 ≤ s_the (A 2) (q 35) (A 9 t.toNat) s.2.2.2)) (s_in (A 8) p))) ∧ h2 = hF q r A ++ dy) := by
  refine xMet_of (by decide) (Nat.le_of_ble_eq_true rfl) (fun v h2 hq => by rw [hq.1]; trivial) ?_
  refine x_iload_n (x_d C_P_named 0 rfl) rfl ?_
  refine x_if_ge (tgt := 6) (x_d C_P_named 1 rfl) rfl (fun _ => ?_) (fun q => absurd q (by omega))
  refine x_iload_n (x_d C_P_named 4 rfl) rfl ?_
  refine x_iconst (x_d C_P_named 5 rfl) ⟨by omega, by omega⟩ ?_
  refine x_iadd (x_d C_P_named 6 rfl) ⟨by omega, by omega⟩ ?_
  refine x_istore_n (l1 := [(3, xI (p + 1)), (0, xC 4), (1, xI (p)), (2, xS (2 * i + 1))]) (x_d C_P_named 7 rfl) (by decide) rfl ?_
  refine x_locs [1, 2, 3, 0] rfl ?_
  exact w_P_named_10 Z d q r A dy hd hs p hT hR hsp hp _ _ rfl (by omega)
theorem w_P_namedByTape_10 (Z : xZ) (d : Nat) (q : Nat → Int) (r : Nat → Option Nat) (A : Nat → Nat → Int) (dy : xH) (hd : 4 ≤ d) (p : Int) (hT : 0 ≤ q 34 ∧ q 34 ≤ q 35 ∧ q 35 ≤ 10248) (hR : s_okR A) (hsp : ∀ j, 0 ≤ A 8 j ∧ A 8 j ≤ 12900) (hnm : ∀ j, -1 ≤ A 9 j ∧ A 9 j ≤ 10248) (hp : 0 ≤ p ∧ p < 12900 ∧ s_bh (A 8) p ≤ 12900) : ∀ (k : Nat) (t : Int), (s_bh (A 8) p - t).toNat = k → p < t → xW Z d Y_P_namedByTape 10 [(0, xC 4), (1, xI p), (2, xI t)] [] (hF q r A ++ dy) (fun v h2 => v = some (xI (s_first (fun t => s_tiw (A 2) (q 34) (q 35) (A 9 t.toNat)) (s_K (A 8) (s_bh (A 8) p) t))) ∧ h2 = hF q r A ++ dy) := by
  intro k
  induction k using Nat.strongRecOn with
  | ind k ih =>
  intro t hk ht
  have hn9 := hnm t.toNat
  have hs8 := hsp t.toNat
  have hgt := s_bh_gt (A 8) t
  have hb8 : s_bh (A 8) t ≤ t + 12900 := by unfold s_bh; omega
  have hgp := s_bh_gt (A 8) p
  refine x_iload_n (x_d C_P_namedByTape 8 rfl) rfl ?_
  refine x_aload_n (x_d C_P_namedByTape 9 rfl) rfl ?_
  refine x_iload_n (x_d C_P_namedByTape 10 rfl) rfl ?_
  refine x_invokevirtual (st := [xI (t)]) (av := [xI (p)]) (x_d C_P_namedByTape 11 rfl) k_P_49 m_P_behind v_P_behind cl_P rfl rfl (Nat.le_of_ble_eq_true rfl) (by omega) rfl (c_P_behind Z (d - 1) q r A dy (by omega) p ⟨by omega, by omega, hsp⟩) ?_
  rintro _ _ ⟨rfl, rfl⟩
  refine x_icmp_ge (tgt := 46) (x_d C_P_namedByTape 12 rfl) rfl (fun c1 => ?_) (fun c1 => ?_)
  · refine x_iconst (x_d C_P_namedByTape 28 rfl) ⟨by omega, by omega⟩ ?_
    refine x_ireturn (x_d C_P_namedByTape 29 rfl) ?_
    rw [s_K_stop (by omega)]
    exact ⟨rfl, rfl⟩
  · refine x_aload_n (x_d C_P_namedByTape 13 rfl) rfl ?_
    refine x_getfield (v := xC 1) (x_d C_P_namedByTape 14 rfl) f_P_27 rfl rfl ?_
    refine x_aload_n (x_d C_P_namedByTape 15 rfl) rfl ?_
    refine x_getfield (v := xC 9) (x_d C_P_namedByTape 16 rfl) f_P_24 rfl rfl ?_
    refine x_iload_n (x_d C_P_namedByTape 17 rfl) rfl ?_
    refine x_iaload (f := A 9) (x_d C_P_namedByTape 18 rfl) rfl (by omega) (by omega) ?_
    refine x_invokevirtual (st := []) (av := [xI (A 9 (t).toNat)]) (x_d C_P_namedByTape 19 rfl) k_P_68 m_T_tapeIsWord v_T_tapeIsWord cl_T rfl rfl (Nat.le_of_ble_eq_true rfl) (by omega) rfl (c_T_tapeIsWord Z (d - 1) q r A dy (by omega) (A 9 (t).toNat) hT hR (by omega)) ?_
    rintro _ _ ⟨rfl, rfl⟩
    refine x_if_eq (tgt := 37) (x_d C_P_namedByTape 20 rfl) rfl (fun c2 => ?_) (fun c2 => ?_)
    · refine x_aload_n (x_d C_P_namedByTape 23 rfl) rfl ?_
      refine x_iload_n (x_d C_P_namedByTape 24 rfl) rfl ?_
      refine x_invokevirtual (st := []) (av := [xI (t)]) (x_d C_P_namedByTape 25 rfl) k_P_49 m_P_behind v_P_behind cl_P rfl rfl (Nat.le_of_ble_eq_true rfl) (by omega) rfl (c_P_behind Z (d - 1) q r A dy (by omega) t ⟨by omega, by omega, hsp⟩) ?_
      rintro _ _ ⟨rfl, rfl⟩
      refine x_istore_n (l1 := [(2, xI (s_bh (A 8) t)), (0, xC 4), (1, xI (p))]) (x_d C_P_namedByTape 26 rfl) (by decide) rfl ?_
      refine x_goto (tgt := 10) (x_d C_P_namedByTape 27 rfl) rfl ?_
      refine x_locs [1, 2, 0] rfl ?_
      rw [s_K_step (t := t) (by omega)]
      show xW _ _ _ _ _ _ _ (fun v h2 => v = some (xI (if s_tiw (A 2) (q 34) (q 35) (A 9 t.toNat) = true then t else s_first _ (s_K (A 8) (s_bh (A 8) p) (s_bh (A 8) t)))) ∧ _)
      rw [if_neg (by cases hz : s_tiw (A 2) (q 34) (q 35) (A 9 t.toNat) <;> simp_all [x_bo])]
      exact ih _ (by omega) _ rfl (by omega)
    · refine x_iload_n (x_d C_P_namedByTape 21 rfl) rfl ?_
      refine x_ireturn (x_d C_P_namedByTape 22 rfl) ?_
      rw [s_K_step (t := t) (by omega)]
      refine ⟨?_, rfl⟩
      show _ = some (xI (if s_tiw (A 2) (q 34) (q 35) (A 9 t.toNat) = true then t else _))
      rw [if_pos (by cases hz : s_tiw (A 2) (q 34) (q 35) (A 9 t.toNat) <;> simp_all [x_bo])]
theorem c_P_namedByTape (Z : xZ) (d : Nat) (q : Nat → Int) (r : Nat → Option Nat) (A : Nat → Nat → Int) (dy : xH) (hd : 4 ≤ d) (p : Int) (hT : 0 ≤ q 34 ∧ q 34 ≤ q 35 ∧ q 35 ≤ 10248) (hR : s_okR A) (hsp : ∀ j, 0 ≤ A 8 j ∧ A 8 j ≤ 12900) (hnm : ∀ j, -1 ≤ A 9 j ∧ A 9 j ≤ 10248) (hp : 0 ≤ p ∧ p < 12900 ∧ s_bh (A 8) p ≤ 12900) : xMet Z d Y_P_namedByTape [xC 4, xI p] (hF q r A ++ dy) (fun v h2 => v = some (xI (s_first (fun t => s_tiw (A 2) (q 34) (q 35) (A 9 t.toNat)) (s_in (A 8) p))) ∧ h2 = hF q r A ++ dy) := by
  refine xMet_of (by decide) (Nat.le_of_ble_eq_true rfl) (fun v h2 hq => by rw [hq.1]; trivial) ?_
  refine x_iload_n (x_d C_P_namedByTape 0 rfl) rfl ?_
  refine x_if_ge (tgt := 6) (x_d C_P_namedByTape 1 rfl) rfl (fun _ => ?_) (fun q => absurd q (by omega))
  refine x_iload_n (x_d C_P_namedByTape 4 rfl) rfl ?_
  refine x_iconst (x_d C_P_namedByTape 5 rfl) ⟨by omega, by omega⟩ ?_
  refine x_iadd (x_d C_P_namedByTape 6 rfl) ⟨by omega, by omega⟩ ?_
  refine x_istore_n (l1 := [(2, xI (p + 1)), (0, xC 4), (1, xI (p))]) (x_d C_P_namedByTape 7 rfl) (by decide) rfl ?_
  refine x_locs [1, 2, 0] rfl ?_
  exact w_P_namedByTape_10 Z d q r A dy hd p hT hR hsp hnm hp _ _ rfl (by omega)
theorem w_P_hasNameOf_4 (Z : xZ) (d : Nat) (q : Nat → Int) (r : Nat → Option Nat) (A : Nat → Nat → Int) (dy : xH) (hd : 3 ≤ d) (p u : Int) (hT : 0 ≤ q 34 ∧ q 34 ≤ q 35 ∧ q 35 ≤ 10248) (hR : s_okR A) (hsp : ∀ j, 0 ≤ A 8 j ∧ A 8 j ≤ 12900) (hnm : ∀ j, -1 ≤ A 9 j ∧ A 9 j ≤ 10248) (hu : -10 ≤ u ∧ u ≤ 20000) (hpt : 0 ≤ p ∧ q 133 ≤ 12900 ∧ p < 12900) : ∀ (k : Nat) (t : Int), (q 133 - t).toNat = k → p < t → xW Z d Y_P_hasNameOf 4 [(0, xC 4), (1, xI p), (2, xI u), (3, xI t)] [] (hF q r A ++ dy) (fun v h2 => v = some (xI (x_bo ((s_K (A 8) (q 133) t).any (fun t => s_same (A 2) (q 35) (A 9 t.toNat) u)))) ∧ h2 = hF q r A ++ dy) := by
  intro k
  induction k using Nat.strongRecOn with
  | ind k ih =>
  intro t hk ht
  have hn9 := hnm t.toNat
  have hs8 := hsp t.toNat
  have hgt := s_bh_gt (A 8) t
  have hb8 : s_bh (A 8) t ≤ t + 12900 := by unfold s_bh; omega
  refine x_iload_n (x_d C_P_hasNameOf 4 rfl) rfl ?_
  refine x_aload_n (x_d C_P_hasNameOf 5 rfl) rfl ?_
  refine x_getfield (v := xI (q 133)) (x_d C_P_hasNameOf 6 rfl) f_P_31 rfl rfl ?_
  refine x_icmp_ge (tgt := 40) (x_d C_P_hasNameOf 7 rfl) rfl (fun c1 => ?_) (fun c1 => ?_)
  · refine x_iconst (x_d C_P_hasNameOf 24 rfl) ⟨by omega, by omega⟩ ?_
    refine x_ireturn (x_d C_P_hasNameOf 25 rfl) ?_
    rw [s_K_stop (by omega)]
    exact ⟨rfl, rfl⟩
  · refine x_aload_n (x_d C_P_hasNameOf 8 rfl) rfl ?_
    refine x_getfield (v := xC 1) (x_d C_P_hasNameOf 9 rfl) f_P_27 rfl rfl ?_
    refine x_aload_n (x_d C_P_hasNameOf 10 rfl) rfl ?_
    refine x_getfield (v := xC 9) (x_d C_P_hasNameOf 11 rfl) f_P_24 rfl rfl ?_
    refine x_iload_n (x_d C_P_hasNameOf 12 rfl) rfl ?_
    refine x_iaload (f := A 9) (x_d C_P_hasNameOf 13 rfl) rfl (by omega) (by omega) ?_
    refine x_iload_n (x_d C_P_hasNameOf 14 rfl) rfl ?_
    refine x_invokevirtual (st := []) (av := [xI (A 9 (t).toNat), xI (u)]) (x_d C_P_hasNameOf 15 rfl) k_P_72 m_T_sameWord v_T_sameWord cl_T rfl rfl (Nat.le_of_ble_eq_true rfl) (by omega) rfl (c_T_sameWord Z (d - 1) q r A dy (by omega) (A 9 (t).toNat) u hT hR (by omega)) ?_
    rintro _ _ ⟨rfl, rfl⟩
    refine x_if_eq (tgt := 31) (x_d C_P_hasNameOf 16 rfl) rfl (fun c2 => ?_) (fun c2 => ?_)
    · refine x_aload_n (x_d C_P_hasNameOf 19 rfl) rfl ?_
      refine x_iload_n (x_d C_P_hasNameOf 20 rfl) rfl ?_
      refine x_invokevirtual (st := []) (av := [xI (t)]) (x_d C_P_hasNameOf 21 rfl) k_P_49 m_P_behind v_P_behind cl_P rfl rfl (Nat.le_of_ble_eq_true rfl) (by omega) rfl (c_P_behind Z (d - 1) q r A dy (by omega) t ⟨by omega, by omega, hsp⟩) ?_
      rintro _ _ ⟨rfl, rfl⟩
      refine x_istore_n (l1 := [(3, xI (s_bh (A 8) t)), (0, xC 4), (1, xI (p)), (2, xI (u))]) (x_d C_P_hasNameOf 22 rfl) (by decide) rfl ?_
      refine x_goto (tgt := 4) (x_d C_P_hasNameOf 23 rfl) rfl ?_
      refine x_locs [1, 2, 3, 0] rfl ?_
      rw [s_K_step (t := t) (by omega), List.any_cons, show s_same (A 2) (q 35) (A 9 t.toNat) u = false by cases hz : s_same (A 2) (q 35) (A 9 t.toNat) u <;> simp_all [x_bo], Bool.false_or]
      exact ih _ (by omega) _ rfl (by omega)
    · refine x_iconst (x_d C_P_hasNameOf 17 rfl) ⟨by omega, by omega⟩ ?_
      refine x_ireturn (x_d C_P_hasNameOf 18 rfl) ?_
      rw [s_K_step (t := t) (by omega), List.any_cons, show s_same (A 2) (q 35) (A 9 t.toNat) u = true by cases hz : s_same (A 2) (q 35) (A 9 t.toNat) u <;> simp_all [x_bo]]
      exact ⟨rfl, rfl⟩
theorem c_P_hasNameOf (Z : xZ) (d : Nat) (q : Nat → Int) (r : Nat → Option Nat) (A : Nat → Nat → Int) (dy : xH) (hd : 3 ≤ d) (p u : Int) (hT : 0 ≤ q 34 ∧ q 34 ≤ q 35 ∧ q 35 ≤ 10248) (hR : s_okR A) (hsp : ∀ j, 0 ≤ A 8 j ∧ A 8 j ≤ 12900) (hnm : ∀ j, -1 ≤ A 9 j ∧ A 9 j ≤ 10248) (hu : -10 ≤ u ∧ u ≤ 20000) (hpt : 0 ≤ p ∧ q 133 ≤ 12900 ∧ p < 12900) : xMet Z d Y_P_hasNameOf [xC 4, xI p, xI u] (hF q r A ++ dy) (fun v h2 => v = some (xI (x_bo ((s_K (A 8) (q 133) (p + 1)).any (fun t => s_same (A 2) (q 35) (A 9 t.toNat) u)))) ∧ h2 = hF q r A ++ dy) := by
  refine xMet_of (by decide) (Nat.le_of_ble_eq_true rfl) (fun v h2 hq => by rw [hq.1]; exact x_fitZ _) ?_
  refine x_iload_n (x_d C_P_hasNameOf 0 rfl) rfl ?_
  refine x_iconst (x_d C_P_hasNameOf 1 rfl) ⟨by omega, by omega⟩ ?_
  refine x_iadd (x_d C_P_hasNameOf 2 rfl) ⟨by omega, by omega⟩ ?_
  refine x_istore_n (l1 := [(3, xI (p + 1)), (0, xC 4), (1, xI (p)), (2, xI (u))]) (x_d C_P_hasNameOf 3 rfl) (by decide) rfl ?_
  refine x_locs [1, 2, 3, 0] rfl ?_
  exact w_P_hasNameOf_4 Z d q r A dy hd p u hT hR hsp hnm hu hpt _ _ rfl (by omega)
def s_isn (b : Nat → Int) (n : Int) (kd one two : Int) (cs : List Int) : Bool := decide (kd = 4 ∧ two = cs.length ∧ 0 ≤ s_txt b n one cs)
theorem c_P_isName (Z : xZ) (d : Nat) (q : Nat → Int) (r : Nat → Option Nat) (A : Nat → Nat → Int) (dy : xH) (hd : 5 ≤ d) {i : Nat} {s : String × Nat × String × List Int} (hs : x_strs[i]? = some s) (p : Int) (hT : 0 ≤ q 34 ∧ q 34 ≤ q 35 ∧ q 35 ≤ 10248) (hp : p < 12900) : xMet Z d Y_P_isName [xC 4, xI p, xS (2 * i + 1)] (hF q r A ++ dy) (fun v h2 => v = some (xI (x_bo (decide (0 ≤ p ∧ A 5 p.toNat = 4 ∧ A 7 p.toNat = s.2.2.2.length ∧ 0 ≤ s_txt (A 2) (q 35) (A 6 p.toNat) s.2.2.2)))) ∧ h2 = hF q r A ++ dy) := by
  refine xMet_of (by decide) (Nat.le_of_ble_eq_true rfl) (fun v h2 hq => by rw [hq.1]; exact x_fitZ _) ?_
  refine x_iload_n (x_d C_P_isName 0 rfl) rfl ?_
  refine x_if_lt (tgt := 48) (x_d C_P_isName 1 rfl) rfl (fun c1 => ?_) (fun c1 => ?_)
  · refine x_iconst (x_d C_P_isName 26 rfl) ⟨by omega, by omega⟩ ?_
    refine x_ireturn (x_d C_P_isName 27 rfl) ?_
    exact ⟨congrArg (fun z => some (xI z)) (x_bo_f (by omega)).symm, rfl⟩
  · refine x_aload_n (x_d C_P_isName 2 rfl) rfl ?_
    refine x_getfield (v := xC 5) (x_d C_P_isName 3 rfl) f_P_9 rfl rfl ?_
    refine x_iload_n (x_d C_P_isName 4 rfl) rfl ?_
    refine x_iaload (f := A 5) (x_d C_P_isName 5 rfl) rfl (by omega) (by omega) ?_
    refine x_iconst (x_d C_P_isName 6 rfl) ⟨by omega, by omega⟩ ?_
    refine x_icmp_ne (tgt := 48) (x_d C_P_isName 7 rfl) rfl (fun c2 => ?_) (fun c2 => ?_)
    · refine x_iconst (x_d C_P_isName 26 rfl) ⟨by omega, by omega⟩ ?_
      refine x_ireturn (x_d C_P_isName 27 rfl) ?_
      exact ⟨congrArg (fun z => some (xI z)) (x_bo_f (by omega)).symm, rfl⟩
    · refine x_aload_n (x_d C_P_isName 8 rfl) rfl ?_
      refine x_getfield (v := xC 7) (x_d C_P_isName 9 rfl) f_P_18 rfl rfl ?_
      refine x_iload_n (x_d C_P_isName 10 rfl) rfl ?_
      refine x_iaload (f := A 7) (x_d C_P_isName 11 rfl) rfl (by omega) (by omega) ?_
      refine x_aload_n (x_d C_P_isName 12 rfl) rfl ?_
      refine x_invokevirtualS (st := [xI (A 7 (p).toNat)]) (av := []) (x_d C_P_isName 13 rfl) k_P_59 m_S_length v_S_length rfl hs rfl (Nat.le_of_ble_eq_true rfl) (by omega) rfl (c_S_length Z (d - 1) (hF q r A ++ dy) (by omega) hs) ?_
      rintro _ _ ⟨rfl, rfl⟩
      refine x_icmp_ne (tgt := 48) (x_d C_P_isName 14 rfl) rfl (fun c3 => ?_) (fun c3 => ?_)
      · refine x_iconst (x_d C_P_isName 26 rfl) ⟨by omega, by omega⟩ ?_
        refine x_ireturn (x_d C_P_isName 27 rfl) ?_
        exact ⟨congrArg (fun z => some (xI z)) (x_bo_f (by omega)).symm, rfl⟩
      · refine x_aload_n (x_d C_P_isName 15 rfl) rfl ?_
        refine x_getfield (v := xC 1) (x_d C_P_isName 16 rfl) f_P_27 rfl rfl ?_
        refine x_aload_n (x_d C_P_isName 17 rfl) rfl ?_
        refine x_getfield (v := xC 6) (x_d C_P_isName 18 rfl) f_P_15 rfl rfl ?_
        refine x_iload_n (x_d C_P_isName 19 rfl) rfl ?_
        refine x_iaload (f := A 6) (x_d C_P_isName 20 rfl) rfl (by omega) (by omega) ?_
        refine x_aload_n (x_d C_P_isName 21 rfl) rfl ?_
        refine x_invokevirtual (st := []) (av := [xI (A 6 (p).toNat), xS (2 * i + 1)]) (x_d C_P_isName 22 rfl) k_P_65 m_T_afterText v_T_afterText cl_T rfl rfl (Nat.le_of_ble_eq_true rfl) (by omega) rfl (c_T_afterText Z (d - 1) q r A dy (by omega) hs (A 6 (p).toNat) hT) ?_
        rintro _ _ ⟨rfl, rfl⟩
        refine x_if_lt (tgt := 48) (x_d C_P_isName 23 rfl) rfl (fun c4 => ?_) (fun c4 => ?_)
        · refine x_iconst (x_d C_P_isName 26 rfl) ⟨by omega, by omega⟩ ?_
          refine x_ireturn (x_d C_P_isName 27 rfl) ?_
          exact ⟨congrArg (fun z => some (xI z)) (x_bo_f (by omega)).symm, rfl⟩
        · refine x_iconst (x_d C_P_isName 24 rfl) ⟨by omega, by omega⟩ ?_
          refine x_goto (tgt := 49) (x_d C_P_isName 25 rfl) rfl ?_
          refine x_ireturn (x_d C_P_isName 27 rfl) ?_
          exact ⟨congrArg (fun z => some (xI z)) (x_bo_t (by omega)).symm, rfl⟩
theorem c_P_secondMeasure (Z : xZ) (d : Nat) (q : Nat → Int) (r : Nat → Option Nat) (A : Nat → Nat → Int) (dy : xH) (hd : 3 ≤ d) (p : Int) (hsp : ∀ j, 0 ≤ A 8 j ∧ A 8 j ≤ 12900) (hp : 0 ≤ p ∧ p < 12900 ∧ s_bh (A 8) p ≤ 12900) : xMet Z d Y_P_secondMeasure [xC 4, xI p] (hF q r A ++ dy) (fun v h2 => v = some (xI (if A 5 p.toNat = 8 then A 7 p.toNat else if A 5 p.toNat = 9 then ((s_in (A 8) p).length : Int) else 0)) ∧ h2 = hF q r A ++ dy) := by
  refine xMet_of (by decide) (Nat.le_of_ble_eq_true rfl) (fun v h2 hq => by rw [hq.1]; trivial) ?_
  refine x_aload_n (x_d C_P_secondMeasure 0 rfl) rfl ?_
  refine x_getfield (v := xC 5) (x_d C_P_secondMeasure 1 rfl) f_P_9 rfl rfl ?_
  refine x_iload_n (x_d C_P_secondMeasure 2 rfl) rfl ?_
  refine x_iaload (f := A 5) (x_d C_P_secondMeasure 3 rfl) rfl (by omega) (by omega) ?_
  refine x_bipush (x_d C_P_secondMeasure 4 rfl) (by omega) ?_
  refine x_icmp_ne (tgt := 18) (x_d C_P_secondMeasure 5 rfl) rfl (fun c1 => ?_) (fun c1 => ?_)
  · refine x_aload_n (x_d C_P_secondMeasure 11 rfl) rfl ?_
    refine x_getfield (v := xC 5) (x_d C_P_secondMeasure 12 rfl) f_P_9 rfl rfl ?_
    refine x_iload_n (x_d C_P_secondMeasure 13 rfl) rfl ?_
    refine x_iaload (f := A 5) (x_d C_P_secondMeasure 14 rfl) rfl (by omega) (by omega) ?_
    refine x_bipush (x_d C_P_secondMeasure 15 rfl) (by omega) ?_
    refine x_icmp_ne (tgt := 37) (x_d C_P_secondMeasure 16 rfl) rfl (fun c2 => ?_) (fun c2 => ?_)
    · refine x_iconst (x_d C_P_secondMeasure 21 rfl) ⟨by omega, by omega⟩ ?_
      refine x_ireturn (x_d C_P_secondMeasure 22 rfl) ?_
      exact ⟨congrArg (fun z => some (xI z)) (by (repeat' split) <;> omega), rfl⟩
    · refine x_aload_n (x_d C_P_secondMeasure 17 rfl) rfl ?_
      refine x_iload_n (x_d C_P_secondMeasure 18 rfl) rfl ?_
      refine x_invokevirtual (st := []) (av := [xI (p)]) (x_d C_P_secondMeasure 19 rfl) k_P_76 m_P_items v_P_items cl_P rfl rfl (Nat.le_of_ble_eq_true rfl) (by omega) rfl (c_P_items Z (d - 1) q r A dy (by omega) p hsp hp) ?_
      rintro _ _ ⟨rfl, rfl⟩
      refine x_goto (tgt := 38) (x_d C_P_secondMeasure 20 rfl) rfl ?_
      refine x_ireturn (x_d C_P_secondMeasure 22 rfl) ?_
      exact ⟨congrArg (fun z => some (xI z)) (by (repeat' split) <;> omega), rfl⟩
  · refine x_aload_n (x_d C_P_secondMeasure 6 rfl) rfl ?_
    refine x_getfield (v := xC 7) (x_d C_P_secondMeasure 7 rfl) f_P_18 rfl rfl ?_
    refine x_iload_n (x_d C_P_secondMeasure 8 rfl) rfl ?_
    refine x_iaload (f := A 7) (x_d C_P_secondMeasure 9 rfl) rfl (by omega) (by omega) ?_
    refine x_ireturn (x_d C_P_secondMeasure 10 rfl) ?_
    exact ⟨congrArg (fun z => some (xI z)) (by (repeat' split) <;> omega), rfl⟩
