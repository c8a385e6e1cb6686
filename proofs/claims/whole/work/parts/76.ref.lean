/-! the reference: names compared -/
/-- the first n are alike -/
def s_eqf (fa fb : Nat → Int) (a : Nat) : Nat → Bool
  | 0 => true
  | n + 1 => s_eqf fa fb a n && decide (fa n = fb (a + n))
theorem s_eqf_iff (fa fb : Nat → Int) (a : Nat) : ∀ n, s_eqf fa fb a n = true ↔ ∀ k, k < n → fa k = fb (a + k)
  | 0 => ⟨fun _ k h => absurd h (Nat.not_lt_zero _), fun _ => rfl⟩
  | n + 1 => by
    show (s_eqf fa fb a n && decide (fa n = fb (a + n))) = true ↔ _
    rw [Bool.and_eq_true, s_eqf_iff fa fb a n, decide_eq_true_eq]
    constructor
    · rintro ⟨h1, h2⟩ k hk
      by_cases e : k = n
      · rw [e]; exact h2
      · exact h1 k (by omega)
    · exact fun h => ⟨fun k hk => h k (by omega), h n (by omega)⟩
/-- the first one from k on -/
def s_idx (M : Nat → Bool) : Nat → Nat → Option Nat
  | 0, _ => none
  | m + 1, k => if M k = true then some k else s_idx M m (k + 1)
theorem s_idx_some {M : Nat → Bool} : ∀ {m k i : Nat}, s_idx M m k = some i → k ≤ i ∧ i < k + m ∧ M i = true ∧ ∀ j, k ≤ j → j < i → M j = false
  | 0, _, _, h => by cases h
  | m + 1, k, i, h => by
    unfold s_idx at h
    by_cases c : M k = true
    · rw [if_pos c] at h
      have := Option.some.inj h
      subst this
      exact ⟨Nat.le_refl _, by omega, c, fun j h1 h2 => by omega⟩
    · rw [if_neg c] at h
      obtain ⟨h1, h2, h3, h4⟩ := s_idx_some h
      refine ⟨by omega, by omega, h3, fun j h5 h6 => ?_⟩
      by_cases e : j = k
      · rw [e]; cases hM : M k with | true => exact absurd hM c | false => rfl
      · exact h4 j (by omega) h6
theorem s_idx_none {M : Nat → Bool} : ∀ {m k : Nat}, s_idx M m k = none → ∀ j, k ≤ j → j < k + m → M j = false
  | 0, _, _, j, h1, h2 => by omega
  | m + 1, k, h, j, h1, h2 => by
    unfold s_idx at h
    by_cases c : M k = true
    · rw [if_pos c] at h; cases h
    · rw [if_neg c] at h
      by_cases e : j = k
      · rw [e]; cases hM : M k with | true => exact absurd hM c | false => rfl
      · exact s_idx_none h j (by omega) (by omega)
theorem w_M_isLike_11 (Z : xZ) (d : Nat) (h : xH) (ca cb na nb : Nat) (fa fb : Nat → Int) (a n : Int) (ha : h[ca]? = some (xA 1 na fa)) (hb : h[cb]? = some (xA 1 nb fb)) (hn : (na : Int) = n ∧ 0 ≤ a ∧ a + n ≤ nb ∧ (nb : Int) ≤ 100000) : ∀ (m : Nat) (t : Int), (0 ≤ t ∧ t + m = n) → s_eqf fa fb a.toNat t.toNat = true → xW Z d Y_M_isLike 11 [(0, xC ca), (1, xC cb), (2, xI a), (3, xI n), (4, xI t)] [] h (fun v0 h2 => v0 = some (xI (x_bo (decide ((na : Int) = n) && s_eqf fa fb a.toNat n.toNat))) ∧ h2 = h) := by
  intro m
  induction m with
  | zero =>
    intro t ht he
    obtain rfl : t = n := by omega
    refine x_iload (x_d C_M_isLike 8 rfl) rfl ?_
    refine x_iload_n (x_d C_M_isLike 9 rfl) rfl ?_
    refine x_icmp_ge (tgt := 38) (x_d C_M_isLike 10 rfl) rfl (fun _ => ?_) (fun q => absurd q (by omega))
    refine x_iconst (x_d C_M_isLike 24 rfl) ⟨by omega, by omega⟩ ?_
    refine x_ireturn (x_d C_M_isLike 25 rfl) ?_
    exact ⟨by rw [decide_eq_true hn.1, he]; rfl, rfl⟩
  | succ m ih =>
    intro t ht he
    have hs : s_eqf fa fb a.toNat (t + 1).toNat = (s_eqf fa fb a.toNat t.toNat && decide (fa t.toNat = fb (a.toNat + t.toNat))) := by rw [show (t + 1).toNat = t.toNat + 1 by omega]; rfl
    have hidx : (a + t).toNat = a.toNat + t.toNat := by omega
    refine x_iload (x_d C_M_isLike 8 rfl) rfl ?_
    refine x_iload_n (x_d C_M_isLike 9 rfl) rfl ?_
    refine x_icmp_ge (tgt := 38) (x_d C_M_isLike 10 rfl) rfl (fun q => absurd q (by omega)) (fun _ => ?_)
    refine x_aload_n (x_d C_M_isLike 11 rfl) rfl ?_
    refine x_iload (x_d C_M_isLike 12 rfl) rfl ?_
    refine x_baload (f := fa) (x_d C_M_isLike 13 rfl) ha (by omega) (by omega) ?_
    refine x_aload_n (x_d C_M_isLike 14 rfl) rfl ?_
    refine x_iload_n (x_d C_M_isLike 15 rfl) rfl ?_
    refine x_iload (x_d C_M_isLike 16 rfl) rfl ?_
    refine x_iadd (x_d C_M_isLike 17 rfl) ⟨by omega, by omega⟩ ?_
    refine x_baload (f := fb) (x_d C_M_isLike 18 rfl) hb (by omega) (by omega) ?_
    refine x_icmp_eq (tgt := 32) (x_d C_M_isLike 19 rfl) rfl (fun c2 => ?_) (fun c2 => ?_)
    · refine x_iinc (l1 := [(4, xI (t + 1)), (0, xC ca), (1, xC cb), (2, xI (a)), (3, xI (n))]) (x_d C_M_isLike 22 rfl) rfl ⟨by omega, by omega⟩ (by decide) rfl ?_
      refine x_goto (tgt := 11) (x_d C_M_isLike 23 rfl) rfl ?_
      refine x_locs [1, 2, 3, 4, 0] rfl ?_
      exact ih (t + 1) (by omega) (by rw [hs, he, decide_eq_true (by rw [← hidx]; omega)]; rfl)
    · refine x_iconst (x_d C_M_isLike 20 rfl) ⟨by omega, by omega⟩ ?_
      refine x_ireturn (x_d C_M_isLike 21 rfl) ?_
      refine ⟨congrArg (fun z => some (xI z)) ?_, rfl⟩
      have hne : s_eqf fa fb a.toNat n.toNat = false := by
        cases e : s_eqf fa fb a.toNat n.toNat with
        | false => rfl
        | true =>
          have := (s_eqf_iff fa fb a.toNat n.toNat).mp e t.toNat (by omega)
          rw [← hidx] at this
          omega
      rw [hne, Bool.and_false]
      rfl
theorem c_M_isLike (Z : xZ) (d : Nat) (h : xH) (ca cb na nb : Nat) (fa fb : Nat → Int) (a n : Int) (ha : h[ca]? = some (xA 1 na fa)) (hb : h[cb]? = some (xA 1 nb fb)) (hn : 0 ≤ n ∧ 0 ≤ a ∧ a + n ≤ nb ∧ (nb : Int) ≤ 100000 ∧ (na : Int) ≤ 100000) : xMet Z d Y_M_isLike [xC ca, xC cb, xI a, xI n] h (fun v0 h2 => v0 = some (xI (x_bo (decide ((na : Int) = n) && s_eqf fa fb a.toNat n.toNat))) ∧ h2 = h) := by
  refine xMet_of (by decide) (Nat.le_of_ble_eq_true rfl) (fun v h2 hq => by rw [hq.1]; exact x_fitZ _) ?_
  refine x_aload_n (x_d C_M_isLike 0 rfl) rfl ?_
  refine x_arraylength (x_d C_M_isLike 1 rfl) ha (by decide) (by omega) ?_
  refine x_iload_n (x_d C_M_isLike 2 rfl) rfl ?_
  refine x_icmp_eq (tgt := 8) (x_d C_M_isLike 3 rfl) rfl (fun c1 => ?_) (fun c1 => ?_)
  · refine x_iconst (x_d C_M_isLike 6 rfl) ⟨by omega, by omega⟩ ?_
    refine x_istore (l1 := [(4, xI (0)), (0, xC ca), (1, xC cb), (2, xI (a)), (3, xI (n))]) (x_d C_M_isLike 7 rfl) (by decide) rfl ?_
    refine x_locs [1, 2, 3, 4, 0] rfl ?_
    exact w_M_isLike_11 Z d h ca cb na nb fa fb a n ha hb (by omega) n.toNat 0 (by omega) rfl
  · refine x_iconst (x_d C_M_isLike 4 rfl) ⟨by omega, by omega⟩ ?_
    refine x_ireturn (x_d C_M_isLike 5 rfl) ?_
    exact ⟨by rw [decide_eq_false (by omega)]; rfl, rfl⟩
theorem w_MQ_get1_3 (Z : xZ) (d : Nat) (h : xH) (hd : 1 ≤ d) (c ci cn cap cap2 : Nat) (kk x y m : Int) (bt : Option Nat) (fi fn : Nat → Option Nat) (nb nl : Nat → Nat) (nf : Nat → Nat → Int) (hc : h[c]? = some (xB 12 [xI kk, xI x, xI y, xI m, xO bt, xC ci, xC cn])) (hi : h[ci]? = some (xQ 4 cap fi)) (hcn : h[cn]? = some (xQ 5 cap2 fn)) (hm : 0 ≤ m ∧ m ≤ cap ∧ m ≤ cap2 ∧ m ≤ 1000) (hnm : ∀ k : Nat, (k : Int) < m → fn k = some (nb k) ∧ h[nb k]? = some (xA 1 (nl k) (nf k)) ∧ (nl k : Int) ≤ 100000) (bb nbb : Nat) (fb : Nat → Int) (a n : Int) (hbb : h[bb]? = some (xA 1 nbb fb)) (hn : 0 ≤ n ∧ 0 ≤ a ∧ a + n ≤ nbb ∧ (nbb : Int) ≤ 100000) : ∀ (k : Nat) (t : Int), (0 ≤ t ∧ t + k = m) → xW Z d Y_MQ_get1 3 [(0, xC c), (1, xC bb), (2, xI a), (3, xI n), (4, xI t)] [] h (fun v0 h2 => v0 = some (xO ((s_idx (fun k => decide ((nl k : Int) = n) && s_eqf (nf k) fb a.toNat n.toNat) k t.toNat).bind fi)) ∧ h2 = h) := by
  intro k
  induction k with
  | zero =>
    intro t ht
    refine x_iload (x_d C_MQ_get1 2 rfl) rfl ?_
    refine x_aload_n (x_d C_MQ_get1 3 rfl) rfl ?_
    refine x_getfield (v := xI (m)) (x_d C_MQ_get1 4 rfl) f_MQ_15 hc rfl ?_
    refine x_icmp_ge (tgt := 49) (x_d C_MQ_get1 5 rfl) rfl (fun _ => ?_) (fun q => absurd q (by omega))
    refine x_null (x_d C_MQ_get1 25 rfl) ?_
    refine x_areturn (x_d C_MQ_get1 26 rfl) ?_
    exact ⟨rfl, rfl⟩
  | succ k ih =>
    intro t ht
    have hb2 : ∀ b : Bool, (x_bo b = 1 ∧ b = true) ∨ (x_bo b = 0 ∧ b = false) := fun b => by cases b; exact Or.inr ⟨rfl, rfl⟩; exact Or.inl ⟨rfl, rfl⟩
    have hb1 := hb2 ((fun k => decide ((nl k : Int) = n) && s_eqf (nf k) fb a.toNat n.toNat) t.toNat)
    have hsx : s_idx (fun k => decide ((nl k : Int) = n) && s_eqf (nf k) fb a.toNat n.toNat) (k + 1) t.toNat = if (fun k => decide ((nl k : Int) = n) && s_eqf (nf k) fb a.toNat n.toNat) t.toNat = true then some t.toNat else s_idx (fun k => decide ((nl k : Int) = n) && s_eqf (nf k) fb a.toNat n.toNat) k (t.toNat + 1) := rfl
    refine x_iload (x_d C_MQ_get1 2 rfl) rfl ?_
    refine x_aload_n (x_d C_MQ_get1 3 rfl) rfl ?_
    refine x_getfield (v := xI (m)) (x_d C_MQ_get1 4 rfl) f_MQ_15 hc rfl ?_
    refine x_icmp_ge (tgt := 49) (x_d C_MQ_get1 5 rfl) rfl (fun q => absurd q (by omega)) (fun _ => ?_)
    refine x_aload_n (x_d C_MQ_get1 6 rfl) rfl ?_
    refine x_getfield (v := xC cn) (x_d C_MQ_get1 7 rfl) f_MQ_26 hc rfl ?_
    refine x_ifnullC (tgt := 49) (x_d C_MQ_get1 8 rfl) rfl ?_
    refine x_aload_n (x_d C_MQ_get1 9 rfl) rfl ?_
    refine x_getfield (v := xC cn) (x_d C_MQ_get1 10 rfl) f_MQ_26 hc rfl ?_
    refine x_iload (x_d C_MQ_get1 11 rfl) rfl ?_
    refine x_aaload5 (x_d C_MQ_get1 12 rfl) hcn (by omega) (by omega) ?_
    rw [(hnm t.toNat (by omega)).1]
    refine x_aload_n (x_d C_MQ_get1 13 rfl) rfl ?_
    refine x_iload_n (x_d C_MQ_get1 14 rfl) rfl ?_
    refine x_iload_n (x_d C_MQ_get1 15 rfl) rfl ?_
    refine x_invokestatic (st := []) (av := [xC (nb t.toNat), xC bb, xI (a), xI (n)]) (x_d C_MQ_get1 16 rfl) k_MQ_30 m_M_isLike s_M_isLike rfl (Nat.le_of_ble_eq_true rfl) (by omega) rfl (c_M_isLike Z (d - 1) h (nb t.toNat) bb (nl t.toNat) nbb (nf t.toNat) fb a n (hnm t.toNat (by omega)).2.1 hbb (by have := (hnm t.toNat (by omega)).2.2; omega)) ?_
    rintro v_ h_ ⟨hv_, hh_⟩
    rw [hh_]
    clear hh_
    obtain rfl : v_ = some (xI (x_bo ((fun k => decide ((nl k : Int) = n) && s_eqf (nf k) fb a.toNat n.toNat) t.toNat))) := hv_
    refine x_if_eq (tgt := 43) (x_d C_MQ_get1 17 rfl) rfl (fun c4 => ?_) (fun c4 => ?_)
    · refine x_iinc (l1 := [(4, xI (t + 1)), (0, xC c), (1, xC bb), (2, xI (a)), (3, xI (n))]) (x_d C_MQ_get1 23 rfl) rfl ⟨by omega, by omega⟩ (by decide) rfl ?_
      refine x_goto (tgt := 3) (x_d C_MQ_get1 24 rfl) rfl ?_
      refine x_locs [1, 2, 3, 4, 0] rfl ?_
      rw [hsx, if_neg (by rcases hb1 with e | e; omega; rw [e.2]; decide)]
      have := ih (t + 1) (by omega)
      rw [show (t + 1).toNat = t.toNat + 1 by omega] at this
      exact this
    · refine x_aload_n (x_d C_MQ_get1 18 rfl) rfl ?_
      refine x_getfield (v := xC ci) (x_d C_MQ_get1 19 rfl) f_MQ_18 hc rfl ?_
      refine x_iload (x_d C_MQ_get1 20 rfl) rfl ?_
      refine x_aaload (x_d C_MQ_get1 21 rfl) hi (by omega) (by omega) ?_
      refine x_areturn (x_d C_MQ_get1 22 rfl) ?_
      rw [hsx, if_pos (by rcases hb1 with e | e; exact e.2; omega)]
      exact ⟨rfl, rfl⟩
theorem c_MQ_get1 (Z : xZ) (d : Nat) (h : xH) (hd : 1 ≤ d) (c ci cn cap cap2 : Nat) (kk x y m : Int) (bt : Option Nat) (fi fn : Nat → Option Nat) (nb nl : Nat → Nat) (nf : Nat → Nat → Int) (hc : h[c]? = some (xB 12 [xI kk, xI x, xI y, xI m, xO bt, xC ci, xC cn])) (hi : h[ci]? = some (xQ 4 cap fi)) (hcn : h[cn]? = some (xQ 5 cap2 fn)) (hm : 0 ≤ m ∧ m ≤ cap ∧ m ≤ cap2 ∧ m ≤ 1000) (hnm : ∀ k : Nat, (k : Int) < m → fn k = some (nb k) ∧ h[nb k]? = some (xA 1 (nl k) (nf k)) ∧ (nl k : Int) ≤ 100000) (bb nbb : Nat) (fb : Nat → Int) (a n : Int) (hbb : h[bb]? = some (xA 1 nbb fb)) (hn : 0 ≤ n ∧ 0 ≤ a ∧ a + n ≤ nbb ∧ (nbb : Int) ≤ 100000) : xMet Z d Y_MQ_get1 [xC c, xC bb, xI a, xI n] h (fun v0 h2 => v0 = some (xO ((s_idx (fun k => decide ((nl k : Int) = n) && s_eqf (nf k) fb a.toNat n.toNat) m.toNat 0).bind fi)) ∧ h2 = h) := by
  refine xMet_of (by decide) (Nat.le_of_ble_eq_true rfl) (fun v h2 hq => by rw [hq.1]; trivial) ?_
  refine x_iconst (x_d C_MQ_get1 0 rfl) ⟨by omega, by omega⟩ ?_
  refine x_istore (l1 := [(4, xI (0)), (0, xC c), (1, xC bb), (2, xI (a)), (3, xI (n))]) (x_d C_MQ_get1 1 rfl) (by decide) rfl ?_
  refine x_locs [1, 2, 3, 4, 0] rfl ?_
  exact w_MQ_get1_3 Z d h hd c ci cn cap cap2 kk x y m bt fi fn nb nl nf hc hi hcn hm hnm bb nbb fb a n hbb hn m.toNat 0 (by omega)
theorem c_MQ_get1N (Z : xZ) (d : Nat) (h : xH) (c : Nat) (kk x y m : Int) (bt it : Option Nat) (bb : Nat) (a n : Int) (hc : h[c]? = some (xB 12 [xI kk, xI x, xI y, xI m, xO bt, xO it, xN])) : xMet Z d Y_MQ_get1 [xC c, xC bb, xI a, xI n] h (fun v0 h2 => v0 = some xN ∧ h2 = h) := by
  refine xMet_of (by decide) (Nat.le_of_ble_eq_true rfl) (fun v h2 hq => by rw [hq.1]; trivial) ?_
  refine x_iconst (x_d C_MQ_get1 0 rfl) ⟨by omega, by omega⟩ ?_
  refine x_istore (l1 := [(4, xI (0)), (0, xC c), (1, xC bb), (2, xI (a)), (3, xI (n))]) (x_d C_MQ_get1 1 rfl) (by decide) rfl ?_
  refine x_iload (x_d C_MQ_get1 2 rfl) rfl ?_
  refine x_aload_n (x_d C_MQ_get1 3 rfl) rfl ?_
  refine x_getfield (v := xI (m)) (x_d C_MQ_get1 4 rfl) f_MQ_15 hc rfl ?_
  refine x_icmp_ge (tgt := 49) (x_d C_MQ_get1 5 rfl) rfl (fun c1 => ?_) (fun c1 => ?_)
  · refine x_null (x_d C_MQ_get1 25 rfl) ?_
    refine x_areturn (x_d C_MQ_get1 26 rfl) ?_
    exact ⟨rfl, rfl⟩
  · refine x_aload_n (x_d C_MQ_get1 6 rfl) rfl ?_
    refine x_getfield (v := xN) (x_d C_MQ_get1 7 rfl) f_MQ_26 hc rfl ?_
    refine x_ifnullN (tgt := 49) (x_d C_MQ_get1 8 rfl) rfl ?_
    refine x_null (x_d C_MQ_get1 25 rfl) ?_
    refine x_areturn (x_d C_MQ_get1 26 rfl) ?_
    exact ⟨rfl, rfl⟩
