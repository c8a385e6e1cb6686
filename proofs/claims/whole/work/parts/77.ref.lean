/-! the reference: longer rows -/
def s_cpq (fi : Nat → Option Nat) (t : Int) : Nat → Option Nat := fun k => if (k : Int) < t then fi k else none
theorem s_cpq_s (fi : Nat → Option Nat) {t : Int} (h : 0 ≤ t) : x_up (s_cpq fi t) t.toNat (fi t.toNat) = s_cpq fi (t + 1) := by
  funext k
  by_cases e : k = t.toNat
  · rw [e, x_up_s]; unfold s_cpq; rw [if_pos (by omega)]
  · rw [x_up_n _ _ e]; unfold s_cpq
    by_cases c : (k : Int) < t
    · rw [if_pos c, if_pos (by omega)]
    · rw [if_neg c, if_neg (by omega)]
theorem s_cpq_0 (fi : Nat → Option Nat) : s_cpq fi 0 = fun _ => none := by
  funext k
  unfold s_cpq
  rw [if_neg (by omega)]
theorem w_M_longer_10 (Z : xZ) (d : Nat) (h : xH) (ci cap : Nat) (fi : Nat → Option Nat) (hi : h[ci]? = some (xQ 4 cap fi)) (hcap : (cap : Int) ≤ 1000) (hall : ∀ k, k < cap → ∃ c fs, fi k = some c ∧ h[c]? = some (xB 12 fs)) : ∀ (m : Nat) (t : Int), (0 ≤ t ∧ t + m = cap) → xW Z d Y_M_longer 10 [(0, xC ci), (1, xC h.length), (2, xI t)] [] (h ++ [xQ 4 (2 * cap) (s_cpq fi t)]) (fun v h2 => v = some (xC h.length) ∧ h2 = h ++ [xQ 4 (2 * cap) (s_cpq fi cap)]) := by
  intro m
  induction m with
  | zero =>
    intro t ht
    refine x_iload_n (x_d C_M_longer 8 rfl) rfl ?_
    refine x_aload_n (x_d C_M_longer 9 rfl) rfl ?_
    refine x_arraylengthQ (x_d C_M_longer 10 rfl) (g_left hi _) (Or.inl rfl) (by omega) ?_
    refine x_icmp_ge (tgt := 28) (x_d C_M_longer 11 rfl) rfl (fun _ => ?_) (fun q => absurd q (by omega))
    refine x_aload_n (x_d C_M_longer 20 rfl) rfl ?_
    refine x_areturn (x_d C_M_longer 21 rfl) ?_
    exact ⟨rfl, by rw [show t = cap by omega]⟩
  | succ m ih =>
    intro t ht
    obtain ⟨c, fs, hc, hcc⟩ := hall t.toNat (by omega)
    refine x_iload_n (x_d C_M_longer 8 rfl) rfl ?_
    refine x_aload_n (x_d C_M_longer 9 rfl) rfl ?_
    refine x_arraylengthQ (x_d C_M_longer 10 rfl) (g_left hi _) (Or.inl rfl) (by omega) ?_
    refine x_icmp_ge (tgt := 28) (x_d C_M_longer 11 rfl) rfl (fun q => absurd q (by omega)) (fun _ => ?_)
    refine x_aload_n (x_d C_M_longer 12 rfl) rfl ?_
    refine x_iload_n (x_d C_M_longer 13 rfl) rfl ?_
    refine x_aload_n (x_d C_M_longer 14 rfl) rfl ?_
    refine x_iload_n (x_d C_M_longer 15 rfl) rfl ?_
    refine x_aaload (x_d C_M_longer 16 rfl) (g_left hi _) (by omega) (by omega) ?_
    rw [hc]
    refine x_aastore4 (h1 := h ++ [xQ 4 (2 * cap) (s_cpq fi (t + 1))]) (x_d C_M_longer 17 rfl) (g_right _ _) (g_left hcc _) (by omega) (by omega) (by rw [g_setr, ← hc, s_cpq_s fi (by omega)]) ?_
    refine x_iinc (l1 := [(2, xI (t + 1)), (0, xC ci), (1, xC h.length)]) (x_d C_M_longer 18 rfl) rfl ⟨by omega, by omega⟩ (by decide) rfl ?_
    refine x_goto (tgt := 10) (x_d C_M_longer 19 rfl) rfl ?_
    refine x_locs [1, 2, 0] rfl ?_
    exact ih (t + 1) (by omega)
theorem c_M_longer (Z : xZ) (d : Nat) (h : xH) (ci cap : Nat) (fi : Nat → Option Nat) (hi : h[ci]? = some (xQ 4 cap fi)) (hcap : (cap : Int) ≤ 1000) (hall : ∀ k, k < cap → ∃ c fs, fi k = some c ∧ h[c]? = some (xB 12 fs)) : xMet Z d Y_M_longer [xC ci] h (fun v h2 => v = some (xC h.length) ∧ h2 = h ++ [xQ 4 (2 * cap) (s_cpq fi cap)]) := by
  refine xMet_of (by decide) (Nat.le_of_ble_eq_true rfl) (fun v h2 hq => by rw [hq.1]; trivial) ?_
  refine x_iconst (x_d C_M_longer 0 rfl) ⟨by omega, by omega⟩ ?_
  refine x_aload_n (x_d C_M_longer 1 rfl) rfl ?_
  refine x_arraylengthQ (x_d C_M_longer 2 rfl) hi (Or.inl rfl) (by omega) ?_
  refine x_imul (x_d C_M_longer 3 rfl) ⟨by omega, by omega⟩ ?_
  refine x_anewarray4 (k := h.length) (h1 := h ++ [xQ 4 (2 * cap) (s_cpq fi 0)]) (x_d C_M_longer 4 rfl) qn_M_82 (by omega) (by omega) rfl (by rw [s_cpq_0, show ((2 : Int) * (cap : Int)).toNat = 2 * cap by omega]) ?_
  refine x_astore_n (l1 := [(1, xC h.length), (0, xC ci)]) (x_d C_M_longer 5 rfl) (by decide) rfl ?_
  refine x_iconst (x_d C_M_longer 6 rfl) ⟨by omega, by omega⟩ ?_
  refine x_istore_n (l1 := [(2, xI 0), (1, xC h.length), (0, xC ci)]) (x_d C_M_longer 7 rfl) (by decide) rfl ?_
  refine x_locs [2, 1, 0] rfl ?_
  exact w_M_longer_10 Z d h ci cap fi hi hcap hall cap 0 (by omega)
