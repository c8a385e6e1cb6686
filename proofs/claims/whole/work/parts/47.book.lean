/-! books -/
/-- a sum of the first n -/
def s_sm (f : Nat → Int) : Nat → Int
  | 0 => 0
  | n + 1 => s_sm f n + f n
theorem s_sm_s (f : Nat → Int) {t : Int} (h : 0 ≤ t) : s_sm f (t + 1).toNat = s_sm f t.toNat + f t.toNat := by
  rw [show (t + 1).toNat = t.toNat + 1 by omega]; rfl
theorem s_sm_in {f : Nat → Int} {m : Int} (hf : ∀ k, 0 ≤ f k ∧ f k ≤ m) : ∀ n : Nat, 0 ≤ s_sm f n ∧ s_sm f n ≤ m * n
  | 0 => ⟨Int.le_refl 0, by show (0 : Int) ≤ m * (0 : Int); omega⟩
  | n + 1 => by
    have h1 := s_sm_in hf n
    have h2 := hf n
    have e : m * ((n + 1 : Nat) : Int) = m * (n : Int) + m := by rw [Int.natCast_add, Int.mul_add]; simp
    show 0 ≤ s_sm f n + f n ∧ s_sm f n + f n ≤ _
    omega
theorem s_sm_cong {f g : Nat → Int} : ∀ (n : Nat), (∀ k, k < n → f k = g k) → s_sm f n = s_sm g n
  | 0, _ => rfl
  | n + 1, h => by show s_sm f n + f n = s_sm g n + g n; rw [s_sm_cong n (fun k hk => h k (by omega)), h n (by omega)]
/-- what is marked but one -/
def s_pbf (used root sp : Nat → Int) (one : Int) : Nat → Int := fun k => if ¬ used k = 0 ∧ ¬ (k : Int) = one then sp (root k).toNat else 0
def s_qbf (used poured root two : Nat → Int) (one : Int) : Nat → Int := fun k => if ¬ used k = 0 ∧ ¬ poured k = 0 ∧ ¬ (k : Int) = one then two (root k).toNat else 0
def s_gap (root used : Nat → Int) (t gap gone : Int) : Nat → Int := fun k => if (k : Int) < t ∧ ¬ used k = 0 ∧ gap < root k then root k - gone else root k
theorem s_gap_0 (root used : Nat → Int) (gap gone : Int) : s_gap root used 0 gap gone = root := by
  funext k
  unfold s_gap
  rw [if_neg (by omega)]
theorem s_gap_at (root used : Nat → Int) {t : Int} (gap gone : Int) (h : 0 ≤ t) : s_gap root used t gap gone t.toNat = root t.toNat := by
  unfold s_gap
  rw [if_neg (by omega)]
theorem s_gap_s {root used : Nat → Int} {t gap gone x : Int} (h : 0 ≤ t) (hx : x = root t.toNat - (if ¬ used t.toNat = 0 ∧ gap < root t.toNat then gone else 0)) : x_up (s_gap root used t gap gone) t.toNat x = s_gap root used (t + 1) gap gone := by
  funext k
  by_cases e : k = t.toNat
  · rw [e, x_up_s, hx]
    unfold s_gap
    by_cases c : ¬ used t.toNat = 0 ∧ gap < root t.toNat
    · rw [if_pos c, if_pos ⟨by omega, c.1, c.2⟩]
    · rw [if_neg c, if_neg (fun z => c z.2)]; omega
  · rw [x_up_n _ _ e]
    unfold s_gap
    by_cases c : (k : Int) < t
    · by_cases c2 : ¬ used k = 0 ∧ gap < root k
      · rw [if_pos ⟨c, c2⟩, if_pos ⟨by omega, c2⟩]
      · rw [if_neg (fun z => c2 z.2), if_neg (fun z => c2 z.2)]
    · rw [if_neg (fun z => c z.1), if_neg (fun z => by omega)]
/-- the first t are 0 -/
def s_zr (f : Nat → Int) (t : Int) : Nat → Int := fun k => if (k : Int) < t then 0 else f k
theorem s_zr_0 (f : Nat → Int) : s_zr f 0 = f := by funext k; unfold s_zr; rw [if_neg (by omega)]
theorem s_zr_s (f : Nat → Int) {t : Int} (h : 0 ≤ t) : x_up (s_zr f t) t.toNat 0 = s_zr f (t + 1) := by
  funext k
  by_cases e : k = t.toNat
  · rw [e, x_up_s]; unfold s_zr; rw [if_pos (by omega)]
  · rw [x_up_n _ _ e]; unfold s_zr
    by_cases c : (k : Int) < t
    · rw [if_pos c, if_pos (by omega)]
    · rw [if_neg c, if_neg (by omega)]
/-- the number of the object that a part leads to -/
def s_ldt (kd one two gen used : Nat → Int) (sz p : Int) : Int := if p < 0 ∨ ¬ kd p.toNat = 8 then -1 else if (0 ≤ one p.toNat ∧ one p.toNat < sz ∧ ¬ used (one p.toNat).toNat = 0) ∧ gen (one p.toNat).toNat = two p.toNat then one p.toNat else -1
/-- n parts from f on are gone -/
def s_cut (P : Nat → Nat → Int) (f n t : Int) : Nat → Nat → Int := fun c => va_cpy (P c) (P c) (f + n).toNat f.toNat (t - (f + n)).toNat
theorem s_cut_tok (P : Nat → Nat → Int) {f n t : Int} (hf : 0 ≤ f) (hn : 0 ≤ n) (ht : f + n ≤ t) (j : Nat) : s_tok (s_cut P f n t) j = if f ≤ j ∧ (j : Int) < t - n then s_tok P (j + n.toNat) else s_tok P j := by
  have e : ∀ c, s_cut P f n t c j = if f ≤ j ∧ (j : Int) < t - n then P c (j + n.toNat) else P c j := by
    intro c
    show va_cpy (P c) (P c) (f + n).toNat f.toNat (t - (f + n)).toNat j = _
    unfold va_cpy
    by_cases c1 : f ≤ j ∧ (j : Int) < t - n
    · rw [if_pos c1, if_pos (by omega)]
      congr 1
      omega
    · rw [if_neg c1, if_neg (by omega)]
  unfold s_tok
  rw [e, e, e, e, e]
  split <;> rfl
theorem hF_z {q : Nat → Int} {r : Nat → Option Nat} {A : Nat → Nat → Int} {dy : xH} (h : x_okH (hF q r A ++ dy)) (c n : Nat) (hc : (hF q r A ++ dy)[c]? = some (xA 2 n (A c))) (j : Nat) : A c j = 0 ∨ A c j = 1 := h _ (List.mem_of_getElem? hc) j
theorem c_B_isOpen (Z : xZ) (d : Nat) (q : Nat → Int) (r : Nat → Option Nat) (A : Nat → Nat → Int) (dy : xH) : xMet Z d Y_B_isOpen [xC 26] (hF q r A ++ dy) (fun v h2 => v = some (xI (x_bo (decide (0 < q 837)))) ∧ h2 = hF q r A ++ dy) := by
  refine xMet_of (by decide) (Nat.le_of_ble_eq_true rfl) (fun v h2 hq => by rw [hq.1]; exact x_fitZ _) ?_
  refine x_aload_n (x_d C_B_isOpen 0 rfl) rfl ?_
  refine x_getfield (v := xI (q 837)) (x_d C_B_isOpen 1 rfl) f_B_32 rfl rfl ?_
  refine x_if_le (tgt := 11) (x_d C_B_isOpen 2 rfl) rfl (fun c1 => ?_) (fun c1 => ?_)
  · refine x_iconst (x_d C_B_isOpen 5 rfl) ⟨by omega, by omega⟩ ?_
    refine x_ireturn (x_d C_B_isOpen 6 rfl) ?_
    exact ⟨congrArg (fun z => some (xI z)) (x_bo_f (by omega)).symm, rfl⟩
  · refine x_iconst (x_d C_B_isOpen 3 rfl) ⟨by omega, by omega⟩ ?_
    refine x_goto (tgt := 12) (x_d C_B_isOpen 4 rfl) rfl ?_
    refine x_ireturn (x_d C_B_isOpen 6 rfl) ?_
    exact ⟨congrArg (fun z => some (xI z)) (x_bo_t (by omega)).symm, rfl⟩
theorem c_B_isUsed_26 (Z : xZ) (d : Nat) (q : Nat → Int) (r : Nat → Option Nat) (A : Nat → Nat → Int) (dy : xH) (n : Int) (hz : 0 ≤ q 837 ∧ q 837 ≤ 300) : xMet Z d Y_B_isUsed [xC 26, xI n] (hF q r A ++ dy) (fun v h2 => v = some (xI (x_bo (decide (0 ≤ n ∧ n < q 837 ∧ ¬ A 29 n.toNat = 0)))) ∧ h2 = hF q r A ++ dy) := by
  refine xMet_of (by decide) (Nat.le_of_ble_eq_true rfl) (fun v h2 hq => by rw [hq.1]; exact x_fitZ _) ?_
  refine x_iload_n (x_d C_B_isUsed 0 rfl) rfl ?_
  refine x_if_lt (tgt := 25) (x_d C_B_isUsed 1 rfl) rfl (fun c1 => ?_) (fun c1 => ?_)
  · refine x_iconst (x_d C_B_isUsed 13 rfl) ⟨by omega, by omega⟩ ?_
    refine x_ireturn (x_d C_B_isUsed 14 rfl) ?_
    exact ⟨congrArg (fun z => some (xI z)) (x_bo_f (by omega)).symm, rfl⟩
  · refine x_iload_n (x_d C_B_isUsed 2 rfl) rfl ?_
    refine x_aload_n (x_d C_B_isUsed 3 rfl) rfl ?_
    refine x_getfield (v := xI (q 837)) (x_d C_B_isUsed 4 rfl) f_B_32 rfl rfl ?_
    refine x_icmp_ge (tgt := 25) (x_d C_B_isUsed 5 rfl) rfl (fun c2 => ?_) (fun c2 => ?_)
    · refine x_iconst (x_d C_B_isUsed 13 rfl) ⟨by omega, by omega⟩ ?_
      refine x_ireturn (x_d C_B_isUsed 14 rfl) ?_
      exact ⟨congrArg (fun z => some (xI z)) (x_bo_f (by omega)).symm, rfl⟩
    · refine x_aload_n (x_d C_B_isUsed 6 rfl) rfl ?_
      refine x_getfield (v := xC 29) (x_d C_B_isUsed 7 rfl) f_B_18 rfl rfl ?_
      refine x_iload_n (x_d C_B_isUsed 8 rfl) rfl ?_
      refine x_zaload (f := A 29) (x_d C_B_isUsed 9 rfl) rfl (by omega) (by omega) ?_
      refine x_if_eq (tgt := 25) (x_d C_B_isUsed 10 rfl) rfl (fun c3 => ?_) (fun c3 => ?_)
      · refine x_iconst (x_d C_B_isUsed 13 rfl) ⟨by omega, by omega⟩ ?_
        refine x_ireturn (x_d C_B_isUsed 14 rfl) ?_
        exact ⟨congrArg (fun z => some (xI z)) (x_bo_f (by omega)).symm, rfl⟩
      · refine x_iconst (x_d C_B_isUsed 11 rfl) ⟨by omega, by omega⟩ ?_
        refine x_goto (tgt := 26) (x_d C_B_isUsed 12 rfl) rfl ?_
        refine x_ireturn (x_d C_B_isUsed 14 rfl) ?_
        exact ⟨congrArg (fun z => some (xI z)) (x_bo_t (by omega)).symm, rfl⟩
theorem c_B_leadsTo_26 (Z : xZ) (d : Nat) (q : Nat → Int) (r : Nat → Option Nat) (A : Nat → Nat → Int) (dy : xH) (hd : 1 ≤ d) (p : Int) (hz : 0 ≤ q 837 ∧ q 837 ≤ 300) (hp : p < 12900) : xMet Z d Y_B_leadsTo [xC 26, xI p] (hF q r A ++ dy) (fun v h2 => v = some (xI (s_ldt (A 5) (A 6) (A 7) (A 28) (A 29) (q 837) p)) ∧ h2 = hF q r A ++ dy) := by
  refine xMet_of (by decide) (Nat.le_of_ble_eq_true rfl) (fun v h2 hq => by rw [hq.1]; trivial) ?_
  refine x_iload_n (x_d C_B_leadsTo 0 rfl) rfl ?_
  refine x_if_lt (tgt := 18) (x_d C_B_leadsTo 1 rfl) rfl (fun c1 => ?_) (fun c1 => ?_)
  · refine x_iconst (x_d C_B_leadsTo 9 rfl) ⟨by omega, by omega⟩ ?_
    refine x_ireturn (x_d C_B_leadsTo 10 rfl) ?_
    exact ⟨congrArg (fun z => some (xI z)) (by unfold s_ldt; first | rw [if_pos (by omega)] | (rw [if_neg (by omega), if_neg]; intro z; omega) | (rw [if_neg (by omega), if_neg]; intro z; rw [x_bo_t z.1] at *; omega)), rfl⟩
  · refine x_aload_n (x_d C_B_leadsTo 2 rfl) rfl ?_
    refine x_getfield (v := xC 4) (x_d C_B_leadsTo 3 rfl) f_B_28 rfl rfl ?_
    refine x_getfield (v := xC 5) (x_d C_B_leadsTo 4 rfl) f_B_45 rfl rfl ?_
    refine x_iload_n (x_d C_B_leadsTo 5 rfl) rfl ?_
    refine x_iaload (f := A 5) (x_d C_B_leadsTo 6 rfl) rfl (by omega) (by omega) ?_
    refine x_bipush (x_d C_B_leadsTo 7 rfl) (by omega) ?_
    refine x_icmp_eq (tgt := 20) (x_d C_B_leadsTo 8 rfl) rfl (fun c2 => ?_) (fun c2 => ?_)
    · refine x_aload_n (x_d C_B_leadsTo 11 rfl) rfl ?_
      refine x_getfield (v := xC 4) (x_d C_B_leadsTo 12 rfl) f_B_28 rfl rfl ?_
      refine x_getfield (v := xC 6) (x_d C_B_leadsTo 13 rfl) f_B_50 rfl rfl ?_
      refine x_iload_n (x_d C_B_leadsTo 14 rfl) rfl ?_
      refine x_iaload (f := A 6) (x_d C_B_leadsTo 15 rfl) rfl (by omega) (by omega) ?_
      refine x_istore_n (l1 := [(2, xI (A 6 (p).toNat)), (0, xC 26), (1, xI (p))]) (x_d C_B_leadsTo 16 rfl) (by decide) rfl ?_
      refine x_aload_n (x_d C_B_leadsTo 17 rfl) rfl ?_
      refine x_iload_n (x_d C_B_leadsTo 18 rfl) rfl ?_
      refine x_invokevirtual (st := []) (av := [xI (A 6 (p).toNat)]) (x_d C_B_leadsTo 19 rfl) k_B_53 m_B_isUsed v_B_isUsed cl_B rfl rfl (Nat.le_of_ble_eq_true rfl) (by omega) rfl (c_B_isUsed_26 Z (d - 1) q r A dy (A 6 (p).toNat) hz) ?_
      rintro _ _ ⟨rfl, rfl⟩
      refine x_if_eq (tgt := 60) (x_d C_B_leadsTo 20 rfl) rfl (fun c3 => ?_) (fun c3 => ?_)
      · refine x_iconst (x_d C_B_leadsTo 33 rfl) ⟨by omega, by omega⟩ ?_
        refine x_ireturn (x_d C_B_leadsTo 34 rfl) ?_
        exact ⟨congrArg (fun z => some (xI z)) (by unfold s_ldt; first | rw [if_pos (by omega)] | (rw [if_neg (by omega), if_neg]; intro z; omega) | (rw [if_neg (by omega), if_neg]; intro z; rw [x_bo_t z.1] at *; omega)), rfl⟩
      · have hused : 0 ≤ A 6 p.toNat ∧ A 6 p.toNat < q 837 ∧ ¬ A 29 (A 6 p.toNat).toNat = 0 := of_decide_eq_true (x_bo_1.mp (by assumption))
        refine x_aload_n (x_d C_B_leadsTo 21 rfl) rfl ?_
        refine x_getfield (v := xC 28) (x_d C_B_leadsTo 22 rfl) f_B_15 rfl rfl ?_
        refine x_iload_n (x_d C_B_leadsTo 23 rfl) rfl ?_
        refine x_iaload (f := A 28) (x_d C_B_leadsTo 24 rfl) rfl (by omega) (by omega) ?_
        refine x_aload_n (x_d C_B_leadsTo 25 rfl) rfl ?_
        refine x_getfield (v := xC 4) (x_d C_B_leadsTo 26 rfl) f_B_28 rfl rfl ?_
        refine x_getfield (v := xC 7) (x_d C_B_leadsTo 27 rfl) f_B_57 rfl rfl ?_
        refine x_iload_n (x_d C_B_leadsTo 28 rfl) rfl ?_
        refine x_iaload (f := A 7) (x_d C_B_leadsTo 29 rfl) rfl (by omega) (by omega) ?_
        refine x_icmp_ne (tgt := 60) (x_d C_B_leadsTo 30 rfl) rfl (fun c4 => ?_) (fun c4 => ?_)
        · refine x_iconst (x_d C_B_leadsTo 33 rfl) ⟨by omega, by omega⟩ ?_
          refine x_ireturn (x_d C_B_leadsTo 34 rfl) ?_
          exact ⟨congrArg (fun z => some (xI z)) (by unfold s_ldt; first | rw [if_pos (by omega)] | (rw [if_neg (by omega), if_neg]; intro z; omega) | (rw [if_neg (by omega), if_neg]; intro z; rw [x_bo_t z.1] at *; omega)), rfl⟩
        · refine x_iload_n (x_d C_B_leadsTo 31 rfl) rfl ?_
          refine x_goto (tgt := 61) (x_d C_B_leadsTo 32 rfl) rfl ?_
          refine x_ireturn (x_d C_B_leadsTo 34 rfl) ?_
          exact ⟨congrArg (fun z => some (xI z)) (by unfold s_ldt; rw [if_neg (by omega), if_pos]; exact ⟨hused, by omega⟩), rfl⟩
    · refine x_iconst (x_d C_B_leadsTo 9 rfl) ⟨by omega, by omega⟩ ?_
      refine x_ireturn (x_d C_B_leadsTo 10 rfl) ?_
      exact ⟨congrArg (fun z => some (xI z)) (by unfold s_ldt; first | rw [if_pos (by omega)] | (rw [if_neg (by omega), if_neg]; intro z; omega) | (rw [if_neg (by omega), if_neg]; intro z; rw [x_bo_t z.1] at *; omega)), rfl⟩
theorem w_B_marked_4_29 (Z : xZ) (d : Nat) (q : Nat → Int) (r : Nat → Option Nat) (A : Nat → Nat → Int) (dy : xH) (hz : 0 ≤ q 837 ∧ q 837 ≤ 300) : ∀ (k : Nat) (t n : Int), (q 837 - t).toNat = k → 0 ≤ t ∧ t ≤ q 837 → n = s_sm (A 29) t.toNat → 0 ≤ n ∧ n ≤ t → xW Z d Y_B_marked 4 [(0, xC 26), (1, xC 29), (2, xI n), (3, xI t)] [] (hF q r A ++ dy) (fun v h2 => v = some (xI (s_sm (A 29) (q 837).toNat)) ∧ h2 = hF q r A ++ dy) := by
  intro k
  induction k using Nat.strongRecOn with
  | ind k ih =>
  intro t n hk ht hn hb
  refine xW_ok (fun _ _ hok => ?_)
  have hz29 := hF_z hok 29 300 rfl t.toNat
  refine x_iload_n (x_d C_B_marked 4 rfl) rfl ?_
  refine x_aload_n (x_d C_B_marked 5 rfl) rfl ?_
  refine x_getfield (v := xI (q 837)) (x_d C_B_marked 6 rfl) f_B_32 rfl rfl ?_
  refine x_icmp_ge (tgt := 32) (x_d C_B_marked 7 rfl) rfl (fun c1 => ?_) (fun c1 => ?_)
  · refine x_iload_n (x_d C_B_marked 20 rfl) rfl ?_
    refine x_ireturn (x_d C_B_marked 21 rfl) ?_
    obtain rfl : t = q 837 := by omega
    exact ⟨by rw [hn], rfl⟩
  · refine x_iload_n (x_d C_B_marked 8 rfl) rfl ?_
    refine x_aload_n (x_d C_B_marked 9 rfl) rfl ?_
    refine x_iload_n (x_d C_B_marked 10 rfl) rfl ?_
    refine x_zaload (f := A 29) (x_d C_B_marked 11 rfl) rfl (by omega) (by omega) ?_
    refine x_if_eq (tgt := 23) (x_d C_B_marked 12 rfl) rfl (fun c2 => ?_) (fun c2 => ?_)
    · refine x_iconst (x_d C_B_marked 15 rfl) ⟨by omega, by omega⟩ ?_
      refine x_iadd (x_d C_B_marked 16 rfl) ⟨by omega, by omega⟩ ?_
      refine x_istore_n (l1 := [(2, xI (n + 0)), (0, xC 26), (1, xC 29), (3, xI (t))]) (x_d C_B_marked 17 rfl) (by decide) rfl ?_
      refine x_iinc (l1 := [(3, xI (t + 1)), (2, xI (n + 0)), (0, xC 26), (1, xC 29)]) (x_d C_B_marked 18 rfl) rfl ⟨by omega, by omega⟩ (by decide) rfl ?_
      refine x_goto (tgt := 4) (x_d C_B_marked 19 rfl) rfl ?_
      refine x_locs [2, 3, 1, 0] rfl ?_
      exact ih _ (by omega) _ _ rfl (by omega) (by rw [s_sm_s _ (by omega)]; omega) (by omega)
    · refine x_iconst (x_d C_B_marked 13 rfl) ⟨by omega, by omega⟩ ?_
      refine x_goto (tgt := 24) (x_d C_B_marked 14 rfl) rfl ?_
      refine x_iadd (x_d C_B_marked 16 rfl) ⟨by omega, by omega⟩ ?_
      refine x_istore_n (l1 := [(2, xI (n + 1)), (0, xC 26), (1, xC 29), (3, xI (t))]) (x_d C_B_marked 17 rfl) (by decide) rfl ?_
      refine x_iinc (l1 := [(3, xI (t + 1)), (2, xI (n + 1)), (0, xC 26), (1, xC 29)]) (x_d C_B_marked 18 rfl) rfl ⟨by omega, by omega⟩ (by decide) rfl ?_
      refine x_goto (tgt := 4) (x_d C_B_marked 19 rfl) rfl ?_
      refine x_locs [2, 3, 1, 0] rfl ?_
      exact ih _ (by omega) _ _ rfl (by omega) (by rw [s_sm_s _ (by omega)]; omega) (by omega)
theorem c_B_marked_29 (Z : xZ) (d : Nat) (q : Nat → Int) (r : Nat → Option Nat) (A : Nat → Nat → Int) (dy : xH) (hz : 0 ≤ q 837 ∧ q 837 ≤ 300) : xMet Z d Y_B_marked [xC 26, xC 29] (hF q r A ++ dy) (fun v h2 => v = some (xI (s_sm (A 29) (q 837).toNat)) ∧ h2 = hF q r A ++ dy) := by
  refine xMet_of (by decide) (Nat.le_of_ble_eq_true rfl) (fun v h2 hq => by rw [hq.1]; trivial) ?_
  refine x_iconst (x_d C_B_marked 0 rfl) ⟨by omega, by omega⟩ ?_
  refine x_istore_n (l1 := [(2, xI (0)), (0, xC 26), (1, xC 29)]) (x_d C_B_marked 1 rfl) (by decide) rfl ?_
  refine x_iconst (x_d C_B_marked 2 rfl) ⟨by omega, by omega⟩ ?_
  refine x_istore_n (l1 := [(3, xI (0)), (2, xI (0)), (0, xC 26), (1, xC 29)]) (x_d C_B_marked 3 rfl) (by decide) rfl ?_
  refine x_locs [2, 3, 1, 0] rfl ?_
  exact w_B_marked_4_29 Z d q r A dy hz _ _ _ rfl (by omega) rfl (by omega)
theorem w_B_marked_4_30 (Z : xZ) (d : Nat) (q : Nat → Int) (r : Nat → Option Nat) (A : Nat → Nat → Int) (dy : xH) (hz : 0 ≤ q 837 ∧ q 837 ≤ 300) : ∀ (k : Nat) (t n : Int), (q 837 - t).toNat = k → 0 ≤ t ∧ t ≤ q 837 → n = s_sm (A 30) t.toNat → 0 ≤ n ∧ n ≤ t → xW Z d Y_B_marked 4 [(0, xC 26), (1, xC 30), (2, xI n), (3, xI t)] [] (hF q r A ++ dy) (fun v h2 => v = some (xI (s_sm (A 30) (q 837).toNat)) ∧ h2 = hF q r A ++ dy) := by
  intro k
  induction k using Nat.strongRecOn with
  | ind k ih =>
  intro t n hk ht hn hb
  refine xW_ok (fun _ _ hok => ?_)
  have hz30 := hF_z hok 30 300 rfl t.toNat
  refine x_iload_n (x_d C_B_marked 4 rfl) rfl ?_
  refine x_aload_n (x_d C_B_marked 5 rfl) rfl ?_
  refine x_getfield (v := xI (q 837)) (x_d C_B_marked 6 rfl) f_B_32 rfl rfl ?_
  refine x_icmp_ge (tgt := 32) (x_d C_B_marked 7 rfl) rfl (fun c1 => ?_) (fun c1 => ?_)
  · refine x_iload_n (x_d C_B_marked 20 rfl) rfl ?_
    refine x_ireturn (x_d C_B_marked 21 rfl) ?_
    obtain rfl : t = q 837 := by omega
    exact ⟨by rw [hn], rfl⟩
  · refine x_iload_n (x_d C_B_marked 8 rfl) rfl ?_
    refine x_aload_n (x_d C_B_marked 9 rfl) rfl ?_
    refine x_iload_n (x_d C_B_marked 10 rfl) rfl ?_
    refine x_zaload (f := A 30) (x_d C_B_marked 11 rfl) rfl (by omega) (by omega) ?_
    refine x_if_eq (tgt := 23) (x_d C_B_marked 12 rfl) rfl (fun c2 => ?_) (fun c2 => ?_)
    · refine x_iconst (x_d C_B_marked 15 rfl) ⟨by omega, by omega⟩ ?_
      refine x_iadd (x_d C_B_marked 16 rfl) ⟨by omega, by omega⟩ ?_
      refine x_istore_n (l1 := [(2, xI (n + 0)), (0, xC 26), (1, xC 30), (3, xI (t))]) (x_d C_B_marked 17 rfl) (by decide) rfl ?_
      refine x_iinc (l1 := [(3, xI (t + 1)), (2, xI (n + 0)), (0, xC 26), (1, xC 30)]) (x_d C_B_marked 18 rfl) rfl ⟨by omega, by omega⟩ (by decide) rfl ?_
      refine x_goto (tgt := 4) (x_d C_B_marked 19 rfl) rfl ?_
      refine x_locs [2, 3, 1, 0] rfl ?_
      exact ih _ (by omega) _ _ rfl (by omega) (by rw [s_sm_s _ (by omega)]; omega) (by omega)
    · refine x_iconst (x_d C_B_marked 13 rfl) ⟨by omega, by omega⟩ ?_
      refine x_goto (tgt := 24) (x_d C_B_marked 14 rfl) rfl ?_
      refine x_iadd (x_d C_B_marked 16 rfl) ⟨by omega, by omega⟩ ?_
      refine x_istore_n (l1 := [(2, xI (n + 1)), (0, xC 26), (1, xC 30), (3, xI (t))]) (x_d C_B_marked 17 rfl) (by decide) rfl ?_
      refine x_iinc (l1 := [(3, xI (t + 1)), (2, xI (n + 1)), (0, xC 26), (1, xC 30)]) (x_d C_B_marked 18 rfl) rfl ⟨by omega, by omega⟩ (by decide) rfl ?_
      refine x_goto (tgt := 4) (x_d C_B_marked 19 rfl) rfl ?_
      refine x_locs [2, 3, 1, 0] rfl ?_
      exact ih _ (by omega) _ _ rfl (by omega) (by rw [s_sm_s _ (by omega)]; omega) (by omega)
theorem c_B_marked_30 (Z : xZ) (d : Nat) (q : Nat → Int) (r : Nat → Option Nat) (A : Nat → Nat → Int) (dy : xH) (hz : 0 ≤ q 837 ∧ q 837 ≤ 300) : xMet Z d Y_B_marked [xC 26, xC 30] (hF q r A ++ dy) (fun v h2 => v = some (xI (s_sm (A 30) (q 837).toNat)) ∧ h2 = hF q r A ++ dy) := by
  refine xMet_of (by decide) (Nat.le_of_ble_eq_true rfl) (fun v h2 hq => by rw [hq.1]; trivial) ?_
  refine x_iconst (x_d C_B_marked 0 rfl) ⟨by omega, by omega⟩ ?_
  refine x_istore_n (l1 := [(2, xI (0)), (0, xC 26), (1, xC 30)]) (x_d C_B_marked 1 rfl) (by decide) rfl ?_
  refine x_iconst (x_d C_B_marked 2 rfl) ⟨by omega, by omega⟩ ?_
  refine x_istore_n (l1 := [(3, xI (0)), (2, xI (0)), (0, xC 26), (1, xC 30)]) (x_d C_B_marked 3 rfl) (by decide) rfl ?_
  refine x_locs [2, 3, 1, 0] rfl ?_
  exact w_B_marked_4_30 Z d q r A dy hz _ _ _ rfl (by omega) rfl (by omega)
theorem w_B_partsBut_4 (Z : xZ) (d : Nat) (q : Nat → Int) (r : Nat → Option Nat) (A : Nat → Nat → Int) (dy : xH) (one : Int) (hz : 0 ≤ q 837 ∧ q 837 ≤ 300) (hsp : ∀ j, 0 ≤ A 8 j ∧ A 8 j ≤ 12900) (hrt : ∀ k : Nat, (k : Int) < q 837 → ¬ A 29 k = 0 → 0 ≤ A 27 k ∧ A 27 k < 12900) : ∀ (k : Nat) (t n : Int), (q 837 - t).toNat = k → 0 ≤ t ∧ t ≤ q 837 → n = s_sm (s_pbf (A 29) (A 27) (A 8) one) t.toNat → 0 ≤ n ∧ n ≤ 12900 * t → xW Z d Y_B_partsBut 4 [(0, xC 26), (1, xI one), (2, xI n), (3, xI t)] [] (hF q r A ++ dy) (fun v h2 => v = some (xI (s_sm (s_pbf (A 29) (A 27) (A 8) one) (q 837).toNat)) ∧ h2 = hF q r A ++ dy) := by
  intro k
  induction k using Nat.strongRecOn with
  | ind k ih =>
  intro t n hk ht hn hb
  have hs8 := hsp (A 27 t.toNat).toNat
  have hr1 := hrt t.toNat
  refine xW_ok (fun _ _ hok => ?_)
  have hz29 := hF_z hok 29 300 rfl t.toNat
  refine x_iload_n (x_d C_B_partsBut 4 rfl) rfl ?_
  refine x_aload_n (x_d C_B_partsBut 5 rfl) rfl ?_
  refine x_getfield (v := xI (q 837)) (x_d C_B_partsBut 6 rfl) f_B_32 rfl rfl ?_
  refine x_icmp_ge (tgt := 53) (x_d C_B_partsBut 7 rfl) rfl (fun c1 => ?_) (fun c1 => ?_)
  · refine x_iload_n (x_d C_B_partsBut 31 rfl) rfl ?_
    refine x_ireturn (x_d C_B_partsBut 32 rfl) ?_
    obtain rfl : t = q 837 := by omega
    exact ⟨by rw [hn], rfl⟩
  · refine x_iload_n (x_d C_B_partsBut 8 rfl) rfl ?_
    refine x_aload_n (x_d C_B_partsBut 9 rfl) rfl ?_
    refine x_getfield (v := xC 29) (x_d C_B_partsBut 10 rfl) f_B_18 rfl rfl ?_
    refine x_iload_n (x_d C_B_partsBut 11 rfl) rfl ?_
    refine x_zaload (f := A 29) (x_d C_B_partsBut 12 rfl) rfl (by omega) (by omega) ?_
    refine x_if_eq (tgt := 44) (x_d C_B_partsBut 13 rfl) rfl (fun c2 => ?_) (fun c2 => ?_)
    · refine x_iconst (x_d C_B_partsBut 26 rfl) ⟨by omega, by omega⟩ ?_
      refine x_iadd (x_d C_B_partsBut 27 rfl) ⟨by omega, by omega⟩ ?_
      refine x_istore_n (l1 := [(2, xI (n + 0)), (0, xC 26), (1, xI (one)), (3, xI (t))]) (x_d C_B_partsBut 28 rfl) (by decide) rfl ?_
      refine x_iinc (l1 := [(3, xI (t + 1)), (2, xI (n + 0)), (0, xC 26), (1, xI (one))]) (x_d C_B_partsBut 29 rfl) rfl ⟨by omega, by omega⟩ (by decide) rfl ?_
      refine x_goto (tgt := 4) (x_d C_B_partsBut 30 rfl) rfl ?_
      refine x_locs [2, 3, 1, 0] rfl ?_
      exact ih _ (by omega) _ _ rfl (by omega) (by rw [s_sm_s _ (by omega), ← hn]; congr 1; unfold s_pbf; first | rw [if_pos (by omega)] | rw [if_neg (by omega)]) (by omega)
    · refine x_iload_n (x_d C_B_partsBut 14 rfl) rfl ?_
      refine x_iload_n (x_d C_B_partsBut 15 rfl) rfl ?_
      refine x_icmp_eq (tgt := 44) (x_d C_B_partsBut 16 rfl) rfl (fun c3 => ?_) (fun c3 => ?_)
      · refine x_iconst (x_d C_B_partsBut 26 rfl) ⟨by omega, by omega⟩ ?_
        refine x_iadd (x_d C_B_partsBut 27 rfl) ⟨by omega, by omega⟩ ?_
        refine x_istore_n (l1 := [(2, xI (n + 0)), (0, xC 26), (1, xI (one)), (3, xI (t))]) (x_d C_B_partsBut 28 rfl) (by decide) rfl ?_
        refine x_iinc (l1 := [(3, xI (t + 1)), (2, xI (n + 0)), (0, xC 26), (1, xI (one))]) (x_d C_B_partsBut 29 rfl) rfl ⟨by omega, by omega⟩ (by decide) rfl ?_
        refine x_goto (tgt := 4) (x_d C_B_partsBut 30 rfl) rfl ?_
        refine x_locs [2, 3, 1, 0] rfl ?_
        exact ih _ (by omega) _ _ rfl (by omega) (by rw [s_sm_s _ (by omega), ← hn]; congr 1; unfold s_pbf; first | rw [if_pos (by omega)] | rw [if_neg (by omega)]) (by omega)
      · refine x_aload_n (x_d C_B_partsBut 17 rfl) rfl ?_
        refine x_getfield (v := xC 4) (x_d C_B_partsBut 18 rfl) f_B_28 rfl rfl ?_
        refine x_getfield (v := xC 8) (x_d C_B_partsBut 19 rfl) f_B_60 rfl rfl ?_
        refine x_aload_n (x_d C_B_partsBut 20 rfl) rfl ?_
        refine x_getfield (v := xC 27) (x_d C_B_partsBut 21 rfl) f_B_9 rfl rfl ?_
        refine x_iload_n (x_d C_B_partsBut 22 rfl) rfl ?_
        refine x_iaload (f := A 27) (x_d C_B_partsBut 23 rfl) rfl (by omega) (by omega) ?_
        refine x_iaload (f := A 8) (x_d C_B_partsBut 24 rfl) rfl (by omega) (by omega) ?_
        refine x_goto (tgt := 45) (x_d C_B_partsBut 25 rfl) rfl ?_
        refine x_iadd (x_d C_B_partsBut 27 rfl) ⟨by omega, by omega⟩ ?_
        refine x_istore_n (l1 := [(2, xI (n + (A 8 (A 27 (t).toNat).toNat))), (0, xC 26), (1, xI (one)), (3, xI (t))]) (x_d C_B_partsBut 28 rfl) (by decide) rfl ?_
        refine x_iinc (l1 := [(3, xI (t + 1)), (2, xI (n + (A 8 (A 27 (t).toNat).toNat))), (0, xC 26), (1, xI (one))]) (x_d C_B_partsBut 29 rfl) rfl ⟨by omega, by omega⟩ (by decide) rfl ?_
        refine x_goto (tgt := 4) (x_d C_B_partsBut 30 rfl) rfl ?_
        refine x_locs [2, 3, 1, 0] rfl ?_
        exact ih _ (by omega) _ _ rfl (by omega) (by rw [s_sm_s _ (by omega), ← hn]; congr 1; unfold s_pbf; first | rw [if_pos (by omega)] | rw [if_neg (by omega)]) (by omega)
theorem c_B_partsBut (Z : xZ) (d : Nat) (q : Nat → Int) (r : Nat → Option Nat) (A : Nat → Nat → Int) (dy : xH) (one : Int) (hz : 0 ≤ q 837 ∧ q 837 ≤ 300) (hsp : ∀ j, 0 ≤ A 8 j ∧ A 8 j ≤ 12900) (hrt : ∀ k : Nat, (k : Int) < q 837 → ¬ A 29 k = 0 → 0 ≤ A 27 k ∧ A 27 k < 12900) : xMet Z d Y_B_partsBut [xC 26, xI one] (hF q r A ++ dy) (fun v h2 => v = some (xI (s_sm (s_pbf (A 29) (A 27) (A 8) one) (q 837).toNat)) ∧ h2 = hF q r A ++ dy) := by
  refine xMet_of (by decide) (Nat.le_of_ble_eq_true rfl) (fun v h2 hq => by rw [hq.1]; trivial) ?_
  refine x_iconst (x_d C_B_partsBut 0 rfl) ⟨by omega, by omega⟩ ?_
  refine x_istore_n (l1 := [(2, xI (0)), (0, xC 26), (1, xI (one))]) (x_d C_B_partsBut 1 rfl) (by decide) rfl ?_
  refine x_iconst (x_d C_B_partsBut 2 rfl) ⟨by omega, by omega⟩ ?_
  refine x_istore_n (l1 := [(3, xI (0)), (2, xI (0)), (0, xC 26), (1, xI (one))]) (x_d C_B_partsBut 3 rfl) (by decide) rfl ?_
  refine x_locs [2, 3, 1, 0] rfl ?_
  exact w_B_partsBut_4 Z d q r A dy one hz hsp hrt _ _ _ rfl (by omega) rfl (by omega)
theorem w_B_pouredBut_4 (Z : xZ) (d : Nat) (q : Nat → Int) (r : Nat → Option Nat) (A : Nat → Nat → Int) (dy : xH) (one : Int) (hz : 0 ≤ q 837 ∧ q 837 ≤ 300) (hrt : ∀ k : Nat, (k : Int) < q 837 → ¬ A 29 k = 0 → ¬ A 31 k = 0 → 0 ≤ A 27 k ∧ A 27 k < 12900 ∧ 0 ≤ A 7 (A 27 k).toNat ∧ A 7 (A 27 k).toNat ≤ 4000) : ∀ (k : Nat) (t n : Int), (q 837 - t).toNat = k → 0 ≤ t ∧ t ≤ q 837 → n = s_sm (s_qbf (A 29) (A 31) (A 27) (A 7) one) t.toNat → 0 ≤ n ∧ n ≤ 4000 * t → xW Z d Y_B_pouredBut 4 [(0, xC 26), (1, xI one), (2, xI n), (3, xI t)] [] (hF q r A ++ dy) (fun v h2 => v = some (xI (s_sm (s_qbf (A 29) (A 31) (A 27) (A 7) one) (q 837).toNat)) ∧ h2 = hF q r A ++ dy) := by
  intro k
  induction k using Nat.strongRecOn with
  | ind k ih =>
  intro t n hk ht hn hb
  have hr1 := hrt t.toNat
  refine xW_ok (fun _ _ hok => ?_)
  have hz29 := hF_z hok 29 300 rfl t.toNat
  have hz31 := hF_z hok 31 300 rfl t.toNat
  refine x_iload_n (x_d C_B_pouredBut 4 rfl) rfl ?_
  refine x_aload_n (x_d C_B_pouredBut 5 rfl) rfl ?_
  refine x_getfield (v := xI (q 837)) (x_d C_B_pouredBut 6 rfl) f_B_32 rfl rfl ?_
  refine x_icmp_ge (tgt := 62) (x_d C_B_pouredBut 7 rfl) rfl (fun c1 => ?_) (fun c1 => ?_)
  · refine x_iload_n (x_d C_B_pouredBut 36 rfl) rfl ?_
    refine x_ireturn (x_d C_B_pouredBut 37 rfl) ?_
    obtain rfl : t = q 837 := by omega
    exact ⟨by rw [hn], rfl⟩
  · refine x_iload_n (x_d C_B_pouredBut 8 rfl) rfl ?_
    refine x_aload_n (x_d C_B_pouredBut 9 rfl) rfl ?_
    refine x_getfield (v := xC 29) (x_d C_B_pouredBut 10 rfl) f_B_18 rfl rfl ?_
    refine x_iload_n (x_d C_B_pouredBut 11 rfl) rfl ?_
    refine x_zaload (f := A 29) (x_d C_B_pouredBut 12 rfl) rfl (by omega) (by omega) ?_
    refine x_if_eq (tgt := 53) (x_d C_B_pouredBut 13 rfl) rfl (fun c2 => ?_) (fun c2 => ?_)
    · refine x_iconst (x_d C_B_pouredBut 31 rfl) ⟨by omega, by omega⟩ ?_
      refine x_iadd (x_d C_B_pouredBut 32 rfl) ⟨by omega, by omega⟩ ?_
      refine x_istore_n (l1 := [(2, xI (n + 0)), (0, xC 26), (1, xI (one)), (3, xI (t))]) (x_d C_B_pouredBut 33 rfl) (by decide) rfl ?_
      refine x_iinc (l1 := [(3, xI (t + 1)), (2, xI (n + 0)), (0, xC 26), (1, xI (one))]) (x_d C_B_pouredBut 34 rfl) rfl ⟨by omega, by omega⟩ (by decide) rfl ?_
      refine x_goto (tgt := 4) (x_d C_B_pouredBut 35 rfl) rfl ?_
      refine x_locs [2, 3, 1, 0] rfl ?_
      exact ih _ (by omega) _ _ rfl (by omega) (by rw [s_sm_s _ (by omega), ← hn]; congr 1; unfold s_qbf; first | rw [if_pos (by omega)] | rw [if_neg (by omega)]) (by omega)
    · refine x_aload_n (x_d C_B_pouredBut 14 rfl) rfl ?_
      refine x_getfield (v := xC 31) (x_d C_B_pouredBut 15 rfl) f_B_25 rfl rfl ?_
      refine x_iload_n (x_d C_B_pouredBut 16 rfl) rfl ?_
      refine x_zaload (f := A 31) (x_d C_B_pouredBut 17 rfl) rfl (by omega) (by omega) ?_
      refine x_if_eq (tgt := 53) (x_d C_B_pouredBut 18 rfl) rfl (fun c3 => ?_) (fun c3 => ?_)
      · refine x_iconst (x_d C_B_pouredBut 31 rfl) ⟨by omega, by omega⟩ ?_
        refine x_iadd (x_d C_B_pouredBut 32 rfl) ⟨by omega, by omega⟩ ?_
        refine x_istore_n (l1 := [(2, xI (n + 0)), (0, xC 26), (1, xI (one)), (3, xI (t))]) (x_d C_B_pouredBut 33 rfl) (by decide) rfl ?_
        refine x_iinc (l1 := [(3, xI (t + 1)), (2, xI (n + 0)), (0, xC 26), (1, xI (one))]) (x_d C_B_pouredBut 34 rfl) rfl ⟨by omega, by omega⟩ (by decide) rfl ?_
        refine x_goto (tgt := 4) (x_d C_B_pouredBut 35 rfl) rfl ?_
        refine x_locs [2, 3, 1, 0] rfl ?_
        exact ih _ (by omega) _ _ rfl (by omega) (by rw [s_sm_s _ (by omega), ← hn]; congr 1; unfold s_qbf; first | rw [if_pos (by omega)] | rw [if_neg (by omega)]) (by omega)
      · refine x_iload_n (x_d C_B_pouredBut 19 rfl) rfl ?_
        refine x_iload_n (x_d C_B_pouredBut 20 rfl) rfl ?_
        refine x_icmp_eq (tgt := 53) (x_d C_B_pouredBut 21 rfl) rfl (fun c4 => ?_) (fun c4 => ?_)
        · refine x_iconst (x_d C_B_pouredBut 31 rfl) ⟨by omega, by omega⟩ ?_
          refine x_iadd (x_d C_B_pouredBut 32 rfl) ⟨by omega, by omega⟩ ?_
          refine x_istore_n (l1 := [(2, xI (n + 0)), (0, xC 26), (1, xI (one)), (3, xI (t))]) (x_d C_B_pouredBut 33 rfl) (by decide) rfl ?_
          refine x_iinc (l1 := [(3, xI (t + 1)), (2, xI (n + 0)), (0, xC 26), (1, xI (one))]) (x_d C_B_pouredBut 34 rfl) rfl ⟨by omega, by omega⟩ (by decide) rfl ?_
          refine x_goto (tgt := 4) (x_d C_B_pouredBut 35 rfl) rfl ?_
          refine x_locs [2, 3, 1, 0] rfl ?_
          exact ih _ (by omega) _ _ rfl (by omega) (by rw [s_sm_s _ (by omega), ← hn]; congr 1; unfold s_qbf; first | rw [if_pos (by omega)] | rw [if_neg (by omega)]) (by omega)
        · refine x_aload_n (x_d C_B_pouredBut 22 rfl) rfl ?_
          refine x_getfield (v := xC 4) (x_d C_B_pouredBut 23 rfl) f_B_28 rfl rfl ?_
          refine x_getfield (v := xC 7) (x_d C_B_pouredBut 24 rfl) f_B_57 rfl rfl ?_
          refine x_aload_n (x_d C_B_pouredBut 25 rfl) rfl ?_
          refine x_getfield (v := xC 27) (x_d C_B_pouredBut 26 rfl) f_B_9 rfl rfl ?_
          refine x_iload_n (x_d C_B_pouredBut 27 rfl) rfl ?_
          refine x_iaload (f := A 27) (x_d C_B_pouredBut 28 rfl) rfl (by omega) (by omega) ?_
          refine x_iaload (f := A 7) (x_d C_B_pouredBut 29 rfl) rfl (by omega) (by omega) ?_
          refine x_goto (tgt := 54) (x_d C_B_pouredBut 30 rfl) rfl ?_
          refine x_iadd (x_d C_B_pouredBut 32 rfl) ⟨by omega, by omega⟩ ?_
          refine x_istore_n (l1 := [(2, xI (n + (A 7 (A 27 (t).toNat).toNat))), (0, xC 26), (1, xI (one)), (3, xI (t))]) (x_d C_B_pouredBut 33 rfl) (by decide) rfl ?_
          refine x_iinc (l1 := [(3, xI (t + 1)), (2, xI (n + (A 7 (A 27 (t).toNat).toNat))), (0, xC 26), (1, xI (one))]) (x_d C_B_pouredBut 34 rfl) rfl ⟨by omega, by omega⟩ (by decide) rfl ?_
          refine x_goto (tgt := 4) (x_d C_B_pouredBut 35 rfl) rfl ?_
          refine x_locs [2, 3, 1, 0] rfl ?_
          exact ih _ (by omega) _ _ rfl (by omega) (by rw [s_sm_s _ (by omega), ← hn]; congr 1; unfold s_qbf; first | rw [if_pos (by omega)] | rw [if_neg (by omega)]) (by omega)
theorem c_B_pouredBut (Z : xZ) (d : Nat) (q : Nat → Int) (r : Nat → Option Nat) (A : Nat → Nat → Int) (dy : xH) (one : Int) (hz : 0 ≤ q 837 ∧ q 837 ≤ 300) (hrt : ∀ k : Nat, (k : Int) < q 837 → ¬ A 29 k = 0 → ¬ A 31 k = 0 → 0 ≤ A 27 k ∧ A 27 k < 12900 ∧ 0 ≤ A 7 (A 27 k).toNat ∧ A 7 (A 27 k).toNat ≤ 4000) : xMet Z d Y_B_pouredBut [xC 26, xI one] (hF q r A ++ dy) (fun v h2 => v = some (xI (s_sm (s_qbf (A 29) (A 31) (A 27) (A 7) one) (q 837).toNat)) ∧ h2 = hF q r A ++ dy) := by
  refine xMet_of (by decide) (Nat.le_of_ble_eq_true rfl) (fun v h2 hq => by rw [hq.1]; trivial) ?_
  refine x_iconst (x_d C_B_pouredBut 0 rfl) ⟨by omega, by omega⟩ ?_
  refine x_istore_n (l1 := [(2, xI (0)), (0, xC 26), (1, xI (one))]) (x_d C_B_pouredBut 1 rfl) (by decide) rfl ?_
  refine x_iconst (x_d C_B_pouredBut 2 rfl) ⟨by omega, by omega⟩ ?_
  refine x_istore_n (l1 := [(3, xI (0)), (2, xI (0)), (0, xC 26), (1, xI (one))]) (x_d C_B_pouredBut 3 rfl) (by decide) rfl ?_
  refine x_locs [2, 3, 1, 0] rfl ?_
  exact w_B_pouredBut_4 Z d q r A dy one hz hrt _ _ _ rfl (by omega) rfl (by omega)
theorem w_B_closeGap_2_26 (Z : xZ) (d : Nat) (q : Nat → Int) (r : Nat → Option Nat) (A : Nat → Nat → Int) (dy : xH) (gap gone : Int) (hz : 0 ≤ q 837 ∧ q 837 ≤ 300) (hrt : ∀ k, 0 ≤ A 27 k ∧ A 27 k ≤ 12900) (hg : 0 ≤ gone ∧ gone ≤ 12900) (htr : 0 ≤ q 840 ∧ q 840 ≤ 12900) : ∀ (m : Nat) (t : Int), 0 ≤ t ∧ t + m = q 837 → xW Z d Y_B_closeGap 2 [(0, xC 26), (1, xI gap), (2, xI gone), (3, xI t)] [] (hF q r (x_up A 27 (s_gap (A 27) (A 29) t gap gone)) ++ dy) (fun v h2 => v = none ∧ h2 = hF (x_up q 840 (q 840 - (if gap < q 840 then gone else 0))) r (x_up A 27 (s_gap (A 27) (A 29) (q 837) gap gone)) ++ dy) := by
  intro m
  induction m with
  | zero =>
    intro t ht
    obtain rfl : t = q 837 := by omega
    refine x_iload_n (x_d C_B_closeGap 2 rfl) rfl ?_
    refine x_aload_n (x_d C_B_closeGap 3 rfl) rfl ?_
    refine x_getfield (v := xI (q 837)) (x_d C_B_closeGap 4 rfl) f_B_32 rfl rfl ?_
    refine x_icmp_ge (tgt := 49) (x_d C_B_closeGap 5 rfl) rfl (fun _ => ?_) (fun q => absurd q (by omega))
    refine x_aload_n (x_d C_B_closeGap 29 rfl) rfl ?_
    refine x_dup (x_d C_B_closeGap 30 rfl) rfl ?_
    refine x_getfield (v := xI (q 840)) (x_d C_B_closeGap 31 rfl) f_B_81 rfl rfl ?_
    refine x_aload_n (x_d C_B_closeGap 32 rfl) rfl ?_
    refine x_getfield (v := xI (q 840)) (x_d C_B_closeGap 33 rfl) f_B_81 rfl rfl ?_
    refine x_iload_n (x_d C_B_closeGap 34 rfl) rfl ?_
    refine x_icmp_le (tgt := 66) (x_d C_B_closeGap 35 rfl) rfl (fun c2 => ?_) (fun c2 => ?_)
    · refine x_iconst (x_d C_B_closeGap 38 rfl) ⟨by omega, by omega⟩ ?_
      refine x_isub (x_d C_B_closeGap 39 rfl) ⟨by omega, by omega⟩ ?_
      refine x_putfield (h1 := hF (x_up q 840 (q 840 - 0)) r (x_up A 27 (s_gap (A 27) (A 29) (q 837) gap gone)) ++ dy) (x_d C_B_closeGap 40 rfl) p_B_81 rfl rfl rfl trivial rfl ?_
      refine x_return (x_d C_B_closeGap 41 rfl) ?_
      exact ⟨rfl, by rw [if_neg (by omega)]⟩
    · refine x_iload_n (x_d C_B_closeGap 36 rfl) rfl ?_
      refine x_goto (tgt := 67) (x_d C_B_closeGap 37 rfl) rfl ?_
      refine x_isub (x_d C_B_closeGap 39 rfl) ⟨by omega, by omega⟩ ?_
      refine x_putfield (h1 := hF (x_up q 840 (q 840 - gone)) r (x_up A 27 (s_gap (A 27) (A 29) (q 837) gap gone)) ++ dy) (x_d C_B_closeGap 40 rfl) p_B_81 rfl rfl rfl trivial rfl ?_
      refine x_return (x_d C_B_closeGap 41 rfl) ?_
      exact ⟨rfl, by rw [if_pos (by omega)]⟩
  | succ m ih =>
    intro t ht
    have hr1 := hrt t.toNat
    have hga := s_gap_at (A 27) (A 29) (t := t) gap gone (by omega)
    refine xW_ok (fun _ _ hok => ?_)
    have hz29 := hF_z hok 29 300 rfl t.toNat
    refine x_iload_n (x_d C_B_closeGap 2 rfl) rfl ?_
    refine x_aload_n (x_d C_B_closeGap 3 rfl) rfl ?_
    refine x_getfield (v := xI (q 837)) (x_d C_B_closeGap 4 rfl) f_B_32 rfl rfl ?_
    refine x_icmp_ge (tgt := 49) (x_d C_B_closeGap 5 rfl) rfl (fun q => absurd q (by omega)) (fun _ => ?_)
    refine x_aload_n (x_d C_B_closeGap 6 rfl) rfl ?_
    refine x_getfield (v := xC 27) (x_d C_B_closeGap 7 rfl) f_B_9 rfl rfl ?_
    refine x_iload_n (x_d C_B_closeGap 8 rfl) rfl ?_
    refine x_dup2 (x_d C_B_closeGap 9 rfl) rfl rfl ?_
    refine x_iaload (f := s_gap (A 27) (A 29) t gap gone) (x_d C_B_closeGap 10 rfl) rfl (by omega) (by omega) ?_
    refine x_aload_n (x_d C_B_closeGap 11 rfl) rfl ?_
    refine x_getfield (v := xC 29) (x_d C_B_closeGap 12 rfl) f_B_18 rfl rfl ?_
    refine x_iload_n (x_d C_B_closeGap 13 rfl) rfl ?_
    refine x_zaload (f := A 29) (x_d C_B_closeGap 14 rfl) rfl (by omega) (by omega) ?_
    refine x_if_eq (tgt := 40) (x_d C_B_closeGap 15 rfl) rfl (fun c2 => ?_) (fun c2 => ?_)
    · refine x_iconst (x_d C_B_closeGap 24 rfl) ⟨by omega, by omega⟩ ?_
      refine x_isub (x_d C_B_closeGap 25 rfl) ⟨by omega, by omega⟩ ?_
      refine x_iastore (h1 := hF q r (x_up A 27 (x_up (s_gap (A 27) (A 29) t gap gone) (t).toNat (((s_gap (A 27) (A 29) t gap gone) (t).toNat) - 0))) ++ dy) (x_d C_B_closeGap 26 rfl) rfl (by omega) (by omega) rfl ?_
      refine x_iinc (l1 := [(3, xI (t + 1)), (0, xC 26), (1, xI (gap)), (2, xI (gone))]) (x_d C_B_closeGap 27 rfl) rfl ⟨by omega, by omega⟩ (by decide) rfl ?_
      refine x_goto (tgt := 2) (x_d C_B_closeGap 28 rfl) rfl ?_
      refine x_locs [1, 2, 3, 0] rfl ?_
      rw [s_gap_s (by omega) (by rw [hga]; first | rw [if_pos (by omega)] | rw [if_neg (by omega)])]
      exact ih (t + 1) (by omega)
    · refine x_aload_n (x_d C_B_closeGap 16 rfl) rfl ?_
      refine x_getfield (v := xC 27) (x_d C_B_closeGap 17 rfl) f_B_9 rfl rfl ?_
      refine x_iload_n (x_d C_B_closeGap 18 rfl) rfl ?_
      refine x_iaload (f := s_gap (A 27) (A 29) t gap gone) (x_d C_B_closeGap 19 rfl) rfl (by omega) (by omega) ?_
      refine x_iload_n (x_d C_B_closeGap 20 rfl) rfl ?_
      refine x_icmp_le (tgt := 40) (x_d C_B_closeGap 21 rfl) rfl (fun c3 => ?_) (fun c3 => ?_)
      · refine x_iconst (x_d C_B_closeGap 24 rfl) ⟨by omega, by omega⟩ ?_
        refine x_isub (x_d C_B_closeGap 25 rfl) ⟨by omega, by omega⟩ ?_
        refine x_iastore (h1 := hF q r (x_up A 27 (x_up (s_gap (A 27) (A 29) t gap gone) (t).toNat (((s_gap (A 27) (A 29) t gap gone) (t).toNat) - 0))) ++ dy) (x_d C_B_closeGap 26 rfl) rfl (by omega) (by omega) rfl ?_
        refine x_iinc (l1 := [(3, xI (t + 1)), (0, xC 26), (1, xI (gap)), (2, xI (gone))]) (x_d C_B_closeGap 27 rfl) rfl ⟨by omega, by omega⟩ (by decide) rfl ?_
        refine x_goto (tgt := 2) (x_d C_B_closeGap 28 rfl) rfl ?_
        refine x_locs [1, 2, 3, 0] rfl ?_
        rw [s_gap_s (by omega) (by rw [hga]; first | rw [if_pos (by omega)] | rw [if_neg (by omega)])]
        exact ih (t + 1) (by omega)
      · refine x_iload_n (x_d C_B_closeGap 22 rfl) rfl ?_
        refine x_goto (tgt := 41) (x_d C_B_closeGap 23 rfl) rfl ?_
        refine x_isub (x_d C_B_closeGap 25 rfl) ⟨by omega, by omega⟩ ?_
        refine x_iastore (h1 := hF q r (x_up A 27 (x_up (s_gap (A 27) (A 29) t gap gone) (t).toNat (((s_gap (A 27) (A 29) t gap gone) (t).toNat) - gone))) ++ dy) (x_d C_B_closeGap 26 rfl) rfl (by omega) (by omega) rfl ?_
        refine x_iinc (l1 := [(3, xI (t + 1)), (0, xC 26), (1, xI (gap)), (2, xI (gone))]) (x_d C_B_closeGap 27 rfl) rfl ⟨by omega, by omega⟩ (by decide) rfl ?_
        refine x_goto (tgt := 2) (x_d C_B_closeGap 28 rfl) rfl ?_
        refine x_locs [1, 2, 3, 0] rfl ?_
        rw [s_gap_s (by omega) (by rw [hga]; first | rw [if_pos (by omega)] | rw [if_neg (by omega)])]
        exact ih (t + 1) (by omega)
theorem c_B_closeGap_26 (Z : xZ) (d : Nat) (q : Nat → Int) (r : Nat → Option Nat) (A : Nat → Nat → Int) (dy : xH) (gap gone : Int) (hz : 0 ≤ q 837 ∧ q 837 ≤ 300) (hrt : ∀ k, 0 ≤ A 27 k ∧ A 27 k ≤ 12900) (hg : 0 ≤ gone ∧ gone ≤ 12900) (htr : 0 ≤ q 840 ∧ q 840 ≤ 12900) : xMet Z d Y_B_closeGap [xC 26, xI gap, xI gone] (hF q r A ++ dy) (fun v h2 => v = none ∧ h2 = hF (x_up q 840 (q 840 - (if gap < q 840 then gone else 0))) r (x_up A 27 (s_gap (A 27) (A 29) (q 837) gap gone)) ++ dy) := by
  refine xMet_of (by decide) (Nat.le_of_ble_eq_true rfl) (fun v h2 hq => by rw [hq.1]; trivial) ?_
  refine x_iconst (x_d C_B_closeGap 0 rfl) ⟨by omega, by omega⟩ ?_
  refine x_istore_n (l1 := [(3, xI (0)), (0, xC 26), (1, xI (gap)), (2, xI (gone))]) (x_d C_B_closeGap 1 rfl) (by decide) rfl ?_
  refine x_locs [1, 2, 3, 0] rfl ?_
  have := w_B_closeGap_2_26 Z d q r A dy gap gone hz hrt hg htr (q 837).toNat 0 (by omega)
  rw [s_gap_0] at this
  exact this
theorem c_B_isUsed_32 (Z : xZ) (d : Nat) (q : Nat → Int) (r : Nat → Option Nat) (A : Nat → Nat → Int) (dy : xH) (n : Int) (hz : 0 ≤ q 1029 ∧ q 1029 ≤ 300) : xMet Z d Y_B_isUsed [xC 32, xI n] (hF q r A ++ dy) (fun v h2 => v = some (xI (x_bo (decide (0 ≤ n ∧ n < q 1029 ∧ ¬ A 35 n.toNat = 0)))) ∧ h2 = hF q r A ++ dy) := by
  refine xMet_of (by decide) (Nat.le_of_ble_eq_true rfl) (fun v h2 hq => by rw [hq.1]; exact x_fitZ _) ?_
  refine x_iload_n (x_d C_B_isUsed 0 rfl) rfl ?_
  refine x_if_lt (tgt := 25) (x_d C_B_isUsed 1 rfl) rfl (fun c1 => ?_) (fun c1 => ?_)
  · refine x_iconst (x_d C_B_isUsed 13 rfl) ⟨by omega, by omega⟩ ?_
    refine x_ireturn (x_d C_B_isUsed 14 rfl) ?_
    exact ⟨congrArg (fun z => some (xI z)) (x_bo_f (by omega)).symm, rfl⟩
  · refine x_iload_n (x_d C_B_isUsed 2 rfl) rfl ?_
    refine x_aload_n (x_d C_B_isUsed 3 rfl) rfl ?_
    refine x_getfield (v := xI (q 1029)) (x_d C_B_isUsed 4 rfl) f_B_32 rfl rfl ?_
    refine x_icmp_ge (tgt := 25) (x_d C_B_isUsed 5 rfl) rfl (fun c2 => ?_) (fun c2 => ?_)
    · refine x_iconst (x_d C_B_isUsed 13 rfl) ⟨by omega, by omega⟩ ?_
      refine x_ireturn (x_d C_B_isUsed 14 rfl) ?_
      exact ⟨congrArg (fun z => some (xI z)) (x_bo_f (by omega)).symm, rfl⟩
    · refine x_aload_n (x_d C_B_isUsed 6 rfl) rfl ?_
      refine x_getfield (v := xC 35) (x_d C_B_isUsed 7 rfl) f_B_18 rfl rfl ?_
      refine x_iload_n (x_d C_B_isUsed 8 rfl) rfl ?_
      refine x_zaload (f := A 35) (x_d C_B_isUsed 9 rfl) rfl (by omega) (by omega) ?_
      refine x_if_eq (tgt := 25) (x_d C_B_isUsed 10 rfl) rfl (fun c3 => ?_) (fun c3 => ?_)
      · refine x_iconst (x_d C_B_isUsed 13 rfl) ⟨by omega, by omega⟩ ?_
        refine x_ireturn (x_d C_B_isUsed 14 rfl) ?_
        exact ⟨congrArg (fun z => some (xI z)) (x_bo_f (by omega)).symm, rfl⟩
      · refine x_iconst (x_d C_B_isUsed 11 rfl) ⟨by omega, by omega⟩ ?_
        refine x_goto (tgt := 26) (x_d C_B_isUsed 12 rfl) rfl ?_
        refine x_ireturn (x_d C_B_isUsed 14 rfl) ?_
        exact ⟨congrArg (fun z => some (xI z)) (x_bo_t (by omega)).symm, rfl⟩
theorem c_B_leadsTo_32 (Z : xZ) (d : Nat) (q : Nat → Int) (r : Nat → Option Nat) (A : Nat → Nat → Int) (dy : xH) (hd : 1 ≤ d) (p : Int) (hz : 0 ≤ q 1029 ∧ q 1029 ≤ 300) (hp : p < 12900) : xMet Z d Y_B_leadsTo [xC 32, xI p] (hF q r A ++ dy) (fun v h2 => v = some (xI (s_ldt (A 5) (A 6) (A 7) (A 34) (A 35) (q 1029) p)) ∧ h2 = hF q r A ++ dy) := by
  refine xMet_of (by decide) (Nat.le_of_ble_eq_true rfl) (fun v h2 hq => by rw [hq.1]; trivial) ?_
  refine x_iload_n (x_d C_B_leadsTo 0 rfl) rfl ?_
  refine x_if_lt (tgt := 18) (x_d C_B_leadsTo 1 rfl) rfl (fun c1 => ?_) (fun c1 => ?_)
  · refine x_iconst (x_d C_B_leadsTo 9 rfl) ⟨by omega, by omega⟩ ?_
    refine x_ireturn (x_d C_B_leadsTo 10 rfl) ?_
    exact ⟨congrArg (fun z => some (xI z)) (by unfold s_ldt; first | rw [if_pos (by omega)] | (rw [if_neg (by omega), if_neg]; intro z; omega) | (rw [if_neg (by omega), if_neg]; intro z; rw [x_bo_t z.1] at *; omega)), rfl⟩
  · refine x_aload_n (x_d C_B_leadsTo 2 rfl) rfl ?_
    refine x_getfield (v := xC 4) (x_d C_B_leadsTo 3 rfl) f_B_28 rfl rfl ?_
    refine x_getfield (v := xC 5) (x_d C_B_leadsTo 4 rfl) f_B_45 rfl rfl ?_
    refine x_iload_n (x_d C_B_leadsTo 5 rfl) rfl ?_
    refine x_iaload (f := A 5) (x_d C_B_leadsTo 6 rfl) rfl (by omega) (by omega) ?_
    refine x_bipush (x_d C_B_leadsTo 7 rfl) (by omega) ?_
    refine x_icmp_eq (tgt := 20) (x_d C_B_leadsTo 8 rfl) rfl (fun c2 => ?_) (fun c2 => ?_)
    · refine x_aload_n (x_d C_B_leadsTo 11 rfl) rfl ?_
      refine x_getfield (v := xC 4) (x_d C_B_leadsTo 12 rfl) f_B_28 rfl rfl ?_
      refine x_getfield (v := xC 6) (x_d C_B_leadsTo 13 rfl) f_B_50 rfl rfl ?_
      refine x_iload_n (x_d C_B_leadsTo 14 rfl) rfl ?_
      refine x_iaload (f := A 6) (x_d C_B_leadsTo 15 rfl) rfl (by omega) (by omega) ?_
      refine x_istore_n (l1 := [(2, xI (A 6 (p).toNat)), (0, xC 32), (1, xI (p))]) (x_d C_B_leadsTo 16 rfl) (by decide) rfl ?_
      refine x_aload_n (x_d C_B_leadsTo 17 rfl) rfl ?_
      refine x_iload_n (x_d C_B_leadsTo 18 rfl) rfl ?_
      refine x_invokevirtual (st := []) (av := [xI (A 6 (p).toNat)]) (x_d C_B_leadsTo 19 rfl) k_B_53 m_B_isUsed v_B_isUsed cl_B rfl rfl (Nat.le_of_ble_eq_true rfl) (by omega) rfl (c_B_isUsed_32 Z (d - 1) q r A dy (A 6 (p).toNat) hz) ?_
      rintro _ _ ⟨rfl, rfl⟩
      refine x_if_eq (tgt := 60) (x_d C_B_leadsTo 20 rfl) rfl (fun c3 => ?_) (fun c3 => ?_)
      · refine x_iconst (x_d C_B_leadsTo 33 rfl) ⟨by omega, by omega⟩ ?_
        refine x_ireturn (x_d C_B_leadsTo 34 rfl) ?_
        exact ⟨congrArg (fun z => some (xI z)) (by unfold s_ldt; first | rw [if_pos (by omega)] | (rw [if_neg (by omega), if_neg]; intro z; omega) | (rw [if_neg (by omega), if_neg]; intro z; rw [x_bo_t z.1] at *; omega)), rfl⟩
      · have hused : 0 ≤ A 6 p.toNat ∧ A 6 p.toNat < q 1029 ∧ ¬ A 35 (A 6 p.toNat).toNat = 0 := of_decide_eq_true (x_bo_1.mp (by assumption))
        refine x_aload_n (x_d C_B_leadsTo 21 rfl) rfl ?_
        refine x_getfield (v := xC 34) (x_d C_B_leadsTo 22 rfl) f_B_15 rfl rfl ?_
        refine x_iload_n (x_d C_B_leadsTo 23 rfl) rfl ?_
        refine x_iaload (f := A 34) (x_d C_B_leadsTo 24 rfl) rfl (by omega) (by omega) ?_
        refine x_aload_n (x_d C_B_leadsTo 25 rfl) rfl ?_
        refine x_getfield (v := xC 4) (x_d C_B_leadsTo 26 rfl) f_B_28 rfl rfl ?_
        refine x_getfield (v := xC 7) (x_d C_B_leadsTo 27 rfl) f_B_57 rfl rfl ?_
        refine x_iload_n (x_d C_B_leadsTo 28 rfl) rfl ?_
        refine x_iaload (f := A 7) (x_d C_B_leadsTo 29 rfl) rfl (by omega) (by omega) ?_
        refine x_icmp_ne (tgt := 60) (x_d C_B_leadsTo 30 rfl) rfl (fun c4 => ?_) (fun c4 => ?_)
        · refine x_iconst (x_d C_B_leadsTo 33 rfl) ⟨by omega, by omega⟩ ?_
          refine x_ireturn (x_d C_B_leadsTo 34 rfl) ?_
          exact ⟨congrArg (fun z => some (xI z)) (by unfold s_ldt; first | rw [if_pos (by omega)] | (rw [if_neg (by omega), if_neg]; intro z; omega) | (rw [if_neg (by omega), if_neg]; intro z; rw [x_bo_t z.1] at *; omega)), rfl⟩
        · refine x_iload_n (x_d C_B_leadsTo 31 rfl) rfl ?_
          refine x_goto (tgt := 61) (x_d C_B_leadsTo 32 rfl) rfl ?_
          refine x_ireturn (x_d C_B_leadsTo 34 rfl) ?_
          exact ⟨congrArg (fun z => some (xI z)) (by unfold s_ldt; rw [if_neg (by omega), if_pos]; exact ⟨hused, by omega⟩), rfl⟩
    · refine x_iconst (x_d C_B_leadsTo 9 rfl) ⟨by omega, by omega⟩ ?_
      refine x_ireturn (x_d C_B_leadsTo 10 rfl) ?_
      exact ⟨congrArg (fun z => some (xI z)) (by unfold s_ldt; first | rw [if_pos (by omega)] | (rw [if_neg (by omega), if_neg]; intro z; omega) | (rw [if_neg (by omega), if_neg]; intro z; rw [x_bo_t z.1] at *; omega)), rfl⟩
theorem w_B_closeGap_2_32 (Z : xZ) (d : Nat) (q : Nat → Int) (r : Nat → Option Nat) (A : Nat → Nat → Int) (dy : xH) (gap gone : Int) (hz : 0 ≤ q 1029 ∧ q 1029 ≤ 300) (hrt : ∀ k, 0 ≤ A 33 k ∧ A 33 k ≤ 12900) (hg : 0 ≤ gone ∧ gone ≤ 12900) (htr : 0 ≤ q 1032 ∧ q 1032 ≤ 12900) : ∀ (m : Nat) (t : Int), 0 ≤ t ∧ t + m = q 1029 → xW Z d Y_B_closeGap 2 [(0, xC 32), (1, xI gap), (2, xI gone), (3, xI t)] [] (hF q r (x_up A 33 (s_gap (A 33) (A 35) t gap gone)) ++ dy) (fun v h2 => v = none ∧ h2 = hF (x_up q 1032 (q 1032 - (if gap < q 1032 then gone else 0))) r (x_up A 33 (s_gap (A 33) (A 35) (q 1029) gap gone)) ++ dy) := by
  intro m
  induction m with
  | zero =>
    intro t ht
    obtain rfl : t = q 1029 := by omega
    refine x_iload_n (x_d C_B_closeGap 2 rfl) rfl ?_
    refine x_aload_n (x_d C_B_closeGap 3 rfl) rfl ?_
    refine x_getfield (v := xI (q 1029)) (x_d C_B_closeGap 4 rfl) f_B_32 rfl rfl ?_
    refine x_icmp_ge (tgt := 49) (x_d C_B_closeGap 5 rfl) rfl (fun _ => ?_) (fun q => absurd q (by omega))
    refine x_aload_n (x_d C_B_closeGap 29 rfl) rfl ?_
    refine x_dup (x_d C_B_closeGap 30 rfl) rfl ?_
    refine x_getfield (v := xI (q 1032)) (x_d C_B_closeGap 31 rfl) f_B_81 rfl rfl ?_
    refine x_aload_n (x_d C_B_closeGap 32 rfl) rfl ?_
    refine x_getfield (v := xI (q 1032)) (x_d C_B_closeGap 33 rfl) f_B_81 rfl rfl ?_
    refine x_iload_n (x_d C_B_closeGap 34 rfl) rfl ?_
    refine x_icmp_le (tgt := 66) (x_d C_B_closeGap 35 rfl) rfl (fun c2 => ?_) (fun c2 => ?_)
    · refine x_iconst (x_d C_B_closeGap 38 rfl) ⟨by omega, by omega⟩ ?_
      refine x_isub (x_d C_B_closeGap 39 rfl) ⟨by omega, by omega⟩ ?_
      refine x_putfield (h1 := hF (x_up q 1032 (q 1032 - 0)) r (x_up A 33 (s_gap (A 33) (A 35) (q 1029) gap gone)) ++ dy) (x_d C_B_closeGap 40 rfl) p_B_81 rfl rfl rfl trivial rfl ?_
      refine x_return (x_d C_B_closeGap 41 rfl) ?_
      exact ⟨rfl, by rw [if_neg (by omega)]⟩
    · refine x_iload_n (x_d C_B_closeGap 36 rfl) rfl ?_
      refine x_goto (tgt := 67) (x_d C_B_closeGap 37 rfl) rfl ?_
      refine x_isub (x_d C_B_closeGap 39 rfl) ⟨by omega, by omega⟩ ?_
      refine x_putfield (h1 := hF (x_up q 1032 (q 1032 - gone)) r (x_up A 33 (s_gap (A 33) (A 35) (q 1029) gap gone)) ++ dy) (x_d C_B_closeGap 40 rfl) p_B_81 rfl rfl rfl trivial rfl ?_
      refine x_return (x_d C_B_closeGap 41 rfl) ?_
      exact ⟨rfl, by rw [if_pos (by omega)]⟩
  | succ m ih =>
    intro t ht
    have hr1 := hrt t.toNat
    have hga := s_gap_at (A 33) (A 35) (t := t) gap gone (by omega)
    refine xW_ok (fun _ _ hok => ?_)
    have hz35 := hF_z hok 35 300 rfl t.toNat
    refine x_iload_n (x_d C_B_closeGap 2 rfl) rfl ?_
    refine x_aload_n (x_d C_B_closeGap 3 rfl) rfl ?_
    refine x_getfield (v := xI (q 1029)) (x_d C_B_closeGap 4 rfl) f_B_32 rfl rfl ?_
    refine x_icmp_ge (tgt := 49) (x_d C_B_closeGap 5 rfl) rfl (fun q => absurd q (by omega)) (fun _ => ?_)
    refine x_aload_n (x_d C_B_closeGap 6 rfl) rfl ?_
    refine x_getfield (v := xC 33) (x_d C_B_closeGap 7 rfl) f_B_9 rfl rfl ?_
    refine x_iload_n (x_d C_B_closeGap 8 rfl) rfl ?_
    refine x_dup2 (x_d C_B_closeGap 9 rfl) rfl rfl ?_
    refine x_iaload (f := s_gap (A 33) (A 35) t gap gone) (x_d C_B_closeGap 10 rfl) rfl (by omega) (by omega) ?_
    refine x_aload_n (x_d C_B_closeGap 11 rfl) rfl ?_
    refine x_getfield (v := xC 35) (x_d C_B_closeGap 12 rfl) f_B_18 rfl rfl ?_
    refine x_iload_n (x_d C_B_closeGap 13 rfl) rfl ?_
    refine x_zaload (f := A 35) (x_d C_B_closeGap 14 rfl) rfl (by omega) (by omega) ?_
    refine x_if_eq (tgt := 40) (x_d C_B_closeGap 15 rfl) rfl (fun c2 => ?_) (fun c2 => ?_)
    · refine x_iconst (x_d C_B_closeGap 24 rfl) ⟨by omega, by omega⟩ ?_
      refine x_isub (x_d C_B_closeGap 25 rfl) ⟨by omega, by omega⟩ ?_
      refine x_iastore (h1 := hF q r (x_up A 33 (x_up (s_gap (A 33) (A 35) t gap gone) (t).toNat (((s_gap (A 33) (A 35) t gap gone) (t).toNat) - 0))) ++ dy) (x_d C_B_closeGap 26 rfl) rfl (by omega) (by omega) rfl ?_
      refine x_iinc (l1 := [(3, xI (t + 1)), (0, xC 32), (1, xI (gap)), (2, xI (gone))]) (x_d C_B_closeGap 27 rfl) rfl ⟨by omega, by omega⟩ (by decide) rfl ?_
      refine x_goto (tgt := 2) (x_d C_B_closeGap 28 rfl) rfl ?_
      refine x_locs [1, 2, 3, 0] rfl ?_
      rw [s_gap_s (by omega) (by rw [hga]; first | rw [if_pos (by omega)] | rw [if_neg (by omega)])]
      exact ih (t + 1) (by omega)
    · refine x_aload_n (x_d C_B_closeGap 16 rfl) rfl ?_
      refine x_getfield (v := xC 33) (x_d C_B_closeGap 17 rfl) f_B_9 rfl rfl ?_
      refine x_iload_n (x_d C_B_closeGap 18 rfl) rfl ?_
      refine x_iaload (f := s_gap (A 33) (A 35) t gap gone) (x_d C_B_closeGap 19 rfl) rfl (by omega) (by omega) ?_
      refine x_iload_n (x_d C_B_closeGap 20 rfl) rfl ?_
      refine x_icmp_le (tgt := 40) (x_d C_B_closeGap 21 rfl) rfl (fun c3 => ?_) (fun c3 => ?_)
      · refine x_iconst (x_d C_B_closeGap 24 rfl) ⟨by omega, by omega⟩ ?_
        refine x_isub (x_d C_B_closeGap 25 rfl) ⟨by omega, by omega⟩ ?_
        refine x_iastore (h1 := hF q r (x_up A 33 (x_up (s_gap (A 33) (A 35) t gap gone) (t).toNat (((s_gap (A 33) (A 35) t gap gone) (t).toNat) - 0))) ++ dy) (x_d C_B_closeGap 26 rfl) rfl (by omega) (by omega) rfl ?_
        refine x_iinc (l1 := [(3, xI (t + 1)), (0, xC 32), (1, xI (gap)), (2, xI (gone))]) (x_d C_B_closeGap 27 rfl) rfl ⟨by omega, by omega⟩ (by decide) rfl ?_
        refine x_goto (tgt := 2) (x_d C_B_closeGap 28 rfl) rfl ?_
        refine x_locs [1, 2, 3, 0] rfl ?_
        rw [s_gap_s (by omega) (by rw [hga]; first | rw [if_pos (by omega)] | rw [if_neg (by omega)])]
        exact ih (t + 1) (by omega)
      · refine x_iload_n (x_d C_B_closeGap 22 rfl) rfl ?_
        refine x_goto (tgt := 41) (x_d C_B_closeGap 23 rfl) rfl ?_
        refine x_isub (x_d C_B_closeGap 25 rfl) ⟨by omega, by omega⟩ ?_
        refine x_iastore (h1 := hF q r (x_up A 33 (x_up (s_gap (A 33) (A 35) t gap gone) (t).toNat (((s_gap (A 33) (A 35) t gap gone) (t).toNat) - gone))) ++ dy) (x_d C_B_closeGap 26 rfl) rfl (by omega) (by omega) rfl ?_
        refine x_iinc (l1 := [(3, xI (t + 1)), (0, xC 32), (1, xI (gap)), (2, xI (gone))]) (x_d C_B_closeGap 27 rfl) rfl ⟨by omega, by omega⟩ (by decide) rfl ?_
        refine x_goto (tgt := 2) (x_d C_B_closeGap 28 rfl) rfl ?_
        refine x_locs [1, 2, 3, 0] rfl ?_
        rw [s_gap_s (by omega) (by rw [hga]; first | rw [if_pos (by omega)] | rw [if_neg (by omega)])]
        exact ih (t + 1) (by omega)
theorem c_B_closeGap_32 (Z : xZ) (d : Nat) (q : Nat → Int) (r : Nat → Option Nat) (A : Nat → Nat → Int) (dy : xH) (gap gone : Int) (hz : 0 ≤ q 1029 ∧ q 1029 ≤ 300) (hrt : ∀ k, 0 ≤ A 33 k ∧ A 33 k ≤ 12900) (hg : 0 ≤ gone ∧ gone ≤ 12900) (htr : 0 ≤ q 1032 ∧ q 1032 ≤ 12900) : xMet Z d Y_B_closeGap [xC 32, xI gap, xI gone] (hF q r A ++ dy) (fun v h2 => v = none ∧ h2 = hF (x_up q 1032 (q 1032 - (if gap < q 1032 then gone else 0))) r (x_up A 33 (s_gap (A 33) (A 35) (q 1029) gap gone)) ++ dy) := by
  refine xMet_of (by decide) (Nat.le_of_ble_eq_true rfl) (fun v h2 hq => by rw [hq.1]; trivial) ?_
  refine x_iconst (x_d C_B_closeGap 0 rfl) ⟨by omega, by omega⟩ ?_
  refine x_istore_n (l1 := [(3, xI (0)), (0, xC 32), (1, xI (gap)), (2, xI (gone))]) (x_d C_B_closeGap 1 rfl) (by decide) rfl ?_
  refine x_locs [1, 2, 3, 0] rfl ?_
  have := w_B_closeGap_2_32 Z d q r A dy gap gone hz hrt hg htr (q 1029).toNat 0 (by omega)
  rw [s_gap_0] at this
  exact this
theorem w_B_empty_2 (Z : xZ) (d : Nat) (q : Nat → Int) (r : Nat → Option Nat) (A : Nat → Nat → Int) (dy : xH) (a b : Int) : ∀ (m : Nat) (t : Int), 0 ≤ t ∧ t + m = 300 → xW Z d Y_B_empty 2 [(0, xC 32), (1, xI a), (2, xI b), (3, xI t)] [] (hF q r (x_up (x_up (x_up (x_up A 34 (s_zr (A 34) t)) 35 (s_zr (A 35) t)) 36 (s_zr (A 36) t)) 37 (s_zr (A 37) t)) ++ dy) (fun v h2 => v = none ∧ h2 = hF (x_up (x_up (x_up (x_up q 1029 0) 1030 0) 1033 a) 1034 b) r (x_up (x_up (x_up (x_up A 34 (s_zr (A 34) 300)) 35 (s_zr (A 35) 300)) 36 (s_zr (A 36) 300)) 37 (s_zr (A 37) 300)) ++ dy) := by
  intro m
  induction m with
  | zero =>
    intro t ht
    obtain rfl : t = 300 := by omega
    refine x_iload_n (x_d C_B_empty 2 rfl) rfl ?_
    refine x_sipush (x_d C_B_empty 3 rfl) (by omega) ?_
    refine x_icmp_ge (tgt := 43) (x_d C_B_empty 4 rfl) rfl (fun _ => ?_) (fun q => absurd q (by omega))
    refine x_aload_n (x_d C_B_empty 27 rfl) rfl ?_
    refine x_iconst (x_d C_B_empty 28 rfl) ⟨by omega, by omega⟩ ?_
    refine x_putfield (h1 := hF (x_up q 1029 0) r (x_up (x_up (x_up (x_up A 34 (s_zr (A 34) 300)) 35 (s_zr (A 35) 300)) 36 (s_zr (A 36) 300)) 37 (s_zr (A 37) 300)) ++ dy) (x_d C_B_empty 29 rfl) p_B_32 rfl rfl rfl trivial rfl ?_
    refine x_aload_n (x_d C_B_empty 30 rfl) rfl ?_
    refine x_iconst (x_d C_B_empty 31 rfl) ⟨by omega, by omega⟩ ?_
    refine x_putfield (h1 := hF (x_up (x_up q 1029 0) 1030 0) r (x_up (x_up (x_up (x_up A 34 (s_zr (A 34) 300)) 35 (s_zr (A 35) 300)) 36 (s_zr (A 36) 300)) 37 (s_zr (A 37) 300)) ++ dy) (x_d C_B_empty 32 rfl) p_B_36 rfl rfl rfl trivial rfl ?_
    refine x_aload_n (x_d C_B_empty 33 rfl) rfl ?_
    refine x_iload_n (x_d C_B_empty 34 rfl) rfl ?_
    refine x_putfield (h1 := hF (x_up (x_up (x_up q 1029 0) 1030 0) 1033 a) r (x_up (x_up (x_up (x_up A 34 (s_zr (A 34) 300)) 35 (s_zr (A 35) 300)) 36 (s_zr (A 36) 300)) 37 (s_zr (A 37) 300)) ++ dy) (x_d C_B_empty 35 rfl) p_B_39 rfl rfl rfl trivial rfl ?_
    refine x_aload_n (x_d C_B_empty 36 rfl) rfl ?_
    refine x_iload_n (x_d C_B_empty 37 rfl) rfl ?_
    refine x_putfield (h1 := hF (x_up (x_up (x_up (x_up q 1029 0) 1030 0) 1033 a) 1034 b) r (x_up (x_up (x_up (x_up A 34 (s_zr (A 34) 300)) 35 (s_zr (A 35) 300)) 36 (s_zr (A 36) 300)) 37 (s_zr (A 37) 300)) ++ dy) (x_d C_B_empty 38 rfl) p_B_42 rfl rfl rfl trivial rfl ?_
    refine x_return (x_d C_B_empty 39 rfl) ?_
    exact ⟨rfl, rfl⟩
  | succ m ih =>
    intro t ht
    refine x_iload_n (x_d C_B_empty 2 rfl) rfl ?_
    refine x_sipush (x_d C_B_empty 3 rfl) (by omega) ?_
    refine x_icmp_ge (tgt := 43) (x_d C_B_empty 4 rfl) rfl (fun q => absurd q (by omega)) (fun _ => ?_)
    refine x_aload_n (x_d C_B_empty 5 rfl) rfl ?_
    refine x_getfield (v := xC 34) (x_d C_B_empty 6 rfl) f_B_15 rfl rfl ?_
    refine x_iload_n (x_d C_B_empty 7 rfl) rfl ?_
    refine x_iconst (x_d C_B_empty 8 rfl) ⟨by omega, by omega⟩ ?_
    refine x_iastore (h1 := hF q r (x_up (x_up (x_up (x_up A 34 (x_up (s_zr (A 34) t) (t).toNat 0)) 35 (s_zr (A 35) t)) 36 (s_zr (A 36) t)) 37 (s_zr (A 37) t)) ++ dy) (x_d C_B_empty 9 rfl) rfl (by omega) (by omega) rfl ?_
    refine x_aload_n (x_d C_B_empty 10 rfl) rfl ?_
    refine x_getfield (v := xC 35) (x_d C_B_empty 11 rfl) f_B_18 rfl rfl ?_
    refine x_iload_n (x_d C_B_empty 12 rfl) rfl ?_
    refine x_iconst (x_d C_B_empty 13 rfl) ⟨by omega, by omega⟩ ?_
    refine x_zastore (h1 := hF q r (x_up (x_up (x_up (x_up A 34 (x_up (s_zr (A 34) t) (t).toNat 0)) 35 (x_up (s_zr (A 35) t) (t).toNat 0)) 36 (s_zr (A 36) t)) 37 (s_zr (A 37) t)) ++ dy) (x_d C_B_empty 14 rfl) rfl (by omega) (by omega) (Or.inl rfl) rfl ?_
    refine x_aload_n (x_d C_B_empty 15 rfl) rfl ?_
    refine x_getfield (v := xC 36) (x_d C_B_empty 16 rfl) f_B_22 rfl rfl ?_
    refine x_iload_n (x_d C_B_empty 17 rfl) rfl ?_
    refine x_iconst (x_d C_B_empty 18 rfl) ⟨by omega, by omega⟩ ?_
    refine x_zastore (h1 := hF q r (x_up (x_up (x_up (x_up A 34 (x_up (s_zr (A 34) t) (t).toNat 0)) 35 (x_up (s_zr (A 35) t) (t).toNat 0)) 36 (x_up (s_zr (A 36) t) (t).toNat 0)) 37 (s_zr (A 37) t)) ++ dy) (x_d C_B_empty 19 rfl) rfl (by omega) (by omega) (Or.inl rfl) rfl ?_
    refine x_aload_n (x_d C_B_empty 20 rfl) rfl ?_
    refine x_getfield (v := xC 37) (x_d C_B_empty 21 rfl) f_B_25 rfl rfl ?_
    refine x_iload_n (x_d C_B_empty 22 rfl) rfl ?_
    refine x_iconst (x_d C_B_empty 23 rfl) ⟨by omega, by omega⟩ ?_
    refine x_zastore (h1 := hF q r (x_up (x_up (x_up (x_up A 34 (x_up (s_zr (A 34) t) (t).toNat 0)) 35 (x_up (s_zr (A 35) t) (t).toNat 0)) 36 (x_up (s_zr (A 36) t) (t).toNat 0)) 37 (x_up (s_zr (A 37) t) (t).toNat 0)) ++ dy) (x_d C_B_empty 24 rfl) rfl (by omega) (by omega) (Or.inl rfl) rfl ?_
    refine x_iinc (l1 := [(3, xI (t + 1)), (0, xC 32), (1, xI (a)), (2, xI (b))]) (x_d C_B_empty 25 rfl) rfl ⟨by omega, by omega⟩ (by decide) rfl ?_
    refine x_goto (tgt := 2) (x_d C_B_empty 26 rfl) rfl ?_
    refine x_locs [1, 2, 3, 0] rfl ?_
    rw [s_zr_s (A 34) ht.1, s_zr_s (A 35) ht.1, s_zr_s (A 36) ht.1, s_zr_s (A 37) ht.1]
    exact ih (t + 1) (by omega)
theorem c_B_empty (Z : xZ) (d : Nat) (q : Nat → Int) (r : Nat → Option Nat) (A : Nat → Nat → Int) (dy : xH) (a b : Int) : xMet Z d Y_B_empty [xC 32, xI a, xI b] (hF q r A ++ dy) (fun v h2 => v = none ∧ h2 = hF (x_up (x_up (x_up (x_up q 1029 0) 1030 0) 1033 a) 1034 b) r (x_up (x_up (x_up (x_up A 34 (s_zr (A 34) 300)) 35 (s_zr (A 35) 300)) 36 (s_zr (A 36) 300)) 37 (s_zr (A 37) 300)) ++ dy) := by
  refine xMet_of (by decide) (Nat.le_of_ble_eq_true rfl) (fun v h2 hq => by rw [hq.1]; trivial) ?_
  refine x_iconst (x_d C_B_empty 0 rfl) ⟨by omega, by omega⟩ ?_
  refine x_istore_n (l1 := [(3, xI (0)), (0, xC 32), (1, xI (a)), (2, xI (b))]) (x_d C_B_empty 1 rfl) (by decide) rfl ?_
  refine x_locs [1, 2, 3, 0] rfl ?_
  have := w_B_empty_2 Z d q r A dy a b 300 0 (by omega)
  rw [s_zr_0, s_zr_0, s_zr_0, s_zr_0] at this
  exact this
