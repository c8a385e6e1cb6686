/-! the reference: parts asked for their names -/
theorem w_MQ_get2_40 (Z : xZ) (d : Nat) (h : xH) (hd : 4 ≤ d) (c ci cn cap cap2 : Nat) (kk x y m : Int) (bt : Option Nat) (fi fn : Nat → Option Nat) (nb nl : Nat → Nat) (nf : Nat → Nat → Int) (hc : h[c]? = some (xB 12 [xI kk, xI x, xI y, xI m, xO bt, xC ci, xC cn])) (hi0 : h[ci]? = some (xQ 4 cap fi)) (hcn : h[cn]? = some (xQ 5 cap2 fn)) (hm : 0 ≤ m ∧ m ≤ cap ∧ m ≤ cap2 ∧ m ≤ 1000) (hnm : ∀ k : Nat, (k : Int) < m → fn k = some (nb k) ∧ h[nb k]? = some (xA 1 (nl k) (nf k)) ∧ (nl k : Int) ≤ 100000) {si : Nat} {sc : String × Nat × String × List Int} (hs : x_strs[si]? = some sc) (hsl : (sc.2.2.2.length : Int) ≤ 1000) (t : Int) (ht : 0 ≤ t ∧ t < m) (Q : Option xV → xH → Prop) (kk : ∀ i b : Int, ((b = 1 ∧ (fun k => decide ((nl k : Int) = (sc.2.2.2.length : Int)) && s_eqf (nf k) (fun i => sc.2.2.2.getD i 0) 0 sc.2.2.2.length) t.toNat = true) ∨ (b = 0 ∧ (fun k => decide ((nl k : Int) = (sc.2.2.2.length : Int)) && s_eqf (nf k) (fun i => sc.2.2.2.getD i 0) 0 sc.2.2.2.length) t.toNat = false)) → xW Z d Y_MQ_get2 83 [(0, xC c), (1, xS (2 * si + 1)), (2, xI t), (3, xI b), (4, xI i)] [] h Q) : ∀ (k : Nat) (i b : Int), (0 ≤ i ∧ i + k = sc.2.2.2.length) → ((b = 1 ∧ (nl t.toNat : Int) = sc.2.2.2.length ∧ s_eqf (nf t.toNat) (fun i => sc.2.2.2.getD i 0) 0 i.toNat = true) ∨ (b = 0 ∧ (fun k => decide ((nl k : Int) = (sc.2.2.2.length : Int)) && s_eqf (nf k) (fun i => sc.2.2.2.getD i 0) 0 sc.2.2.2.length) t.toNat = false)) → xW Z d Y_MQ_get2 40 [(0, xC c), (1, xS (2 * si + 1)), (2, xI t), (3, xI b), (4, xI i)] [] h Q := by
  intro k
  induction k with
  | zero =>
    intro i b hi hb
    refine x_iload (x_d C_MQ_get2 23 rfl) rfl ?_
    refine x_aload_n (x_d C_MQ_get2 24 rfl) rfl ?_
    refine x_invokevirtualS (st := [xI (i)]) (av := []) (x_d C_MQ_get2 25 rfl) k_MQ_34 m_S_length v_S_length rfl hs rfl (Nat.le_of_ble_eq_true rfl) (by omega) rfl (c_S_length Z (d - 1) (h) (by omega) hs) ?_
    rintro v_ h_ ⟨hv_, hh_⟩
    rw [hh_]
    clear hh_
    obtain rfl : v_ = some (xI ((sc.2.2.2.length : Int))) := hv_
    refine x_icmp_ge (tgt := 83) (x_d C_MQ_get2 26 rfl) rfl (fun _ => ?_) (fun q => absurd q (by omega))
    refine x_locs [0, 1, 2, 3, 4] rfl ?_
    refine kk i b ?_
    rcases hb with ⟨b1, b2, b3⟩ | hb
    · refine Or.inl ⟨b1, ?_⟩
      rw [show i.toNat = sc.2.2.2.length by omega] at b3
      show (decide ((nl t.toNat : Int) = (sc.2.2.2.length : Int)) && s_eqf (nf t.toNat) (fun i => sc.2.2.2.getD i 0) 0 sc.2.2.2.length) = true
      rw [decide_eq_true b2, b3]
      rfl
    · exact Or.inr hb
  | succ k ih =>
    intro i b hi hb
    have hnk := hnm t.toNat (by omega)
    refine x_iload (x_d C_MQ_get2 23 rfl) rfl ?_
    refine x_aload_n (x_d C_MQ_get2 24 rfl) rfl ?_
    refine x_invokevirtualS (st := [xI (i)]) (av := []) (x_d C_MQ_get2 25 rfl) k_MQ_34 m_S_length v_S_length rfl hs rfl (Nat.le_of_ble_eq_true rfl) (by omega) rfl (c_S_length Z (d - 1) (h) (by omega) hs) ?_
    rintro v_ h_ ⟨hv_, hh_⟩
    rw [hh_]
    clear hh_
    obtain rfl : v_ = some (xI ((sc.2.2.2.length : Int))) := hv_
    refine x_icmp_ge (tgt := 83) (x_d C_MQ_get2 26 rfl) rfl (fun q => absurd q (by omega)) (fun _ => ?_)
    have hbb : ¬ b = 0 → (nl t.toNat : Int) = sc.2.2.2.length := fun h => by rcases hb with hb | hb; exact hb.2.1; exact absurd hb.1 h
    refine x_iload_n (x_d C_MQ_get2 27 rfl) rfl ?_
    refine x_if_eq (tgt := 83) (x_d C_MQ_get2 28 rfl) rfl (fun c2 => ?_) (fun c2 => ?_)
    · refine x_locs [0, 1, 2, 3, 4] rfl ?_
      exact kk i b (Or.inr (by rcases hb with hb | hb; exact absurd hb.1 (by omega); exact hb))
    · refine x_aload_n (x_d C_MQ_get2 29 rfl) rfl ?_
      refine x_getfield (v := xC cn) (x_d C_MQ_get2 30 rfl) f_MQ_26 hc rfl ?_
      refine x_iload_n (x_d C_MQ_get2 31 rfl) rfl ?_
      refine x_aaload5 (x_d C_MQ_get2 32 rfl) hcn (by omega) (by omega) ?_
      rw [hnk.1]
      refine x_iload (x_d C_MQ_get2 33 rfl) rfl ?_
      refine x_baload (f := (nf t.toNat)) (x_d C_MQ_get2 34 rfl) hnk.2.1 (by omega) (by omega) ?_
      refine x_aload_n (x_d C_MQ_get2 35 rfl) rfl ?_
      refine x_iload (x_d C_MQ_get2 36 rfl) rfl ?_
      refine x_invokevirtualS (st := [xI (((nf t.toNat)) (i).toNat)]) (av := [xI (i)]) (x_d C_MQ_get2 37 rfl) k_MQ_39 m_S_charAt v_S_charAt rfl hs rfl (Nat.le_of_ble_eq_true rfl) (by omega) rfl (c_S_charAt Z (d - 1) (h) (by omega) hs i (by omega)) ?_
      rintro v_ h_ ⟨hv_, hh_⟩
      rw [hh_]
      clear hh_
      obtain rfl : v_ = some (xI (sc.2.2.2.getD (i).toNat 0)) := hv_
      refine x_icmp_ne (tgt := 75) (x_d C_MQ_get2 38 rfl) rfl (fun c3 => ?_) (fun c3 => ?_)
      · refine x_iconst (x_d C_MQ_get2 41 rfl) ⟨by omega, by omega⟩ ?_
        refine x_istore_n (l1 := [(3, xI (0)), (0, xC c), (1, xS (2 * si + 1)), (2, xI (t)), (4, xI (i))]) (x_d C_MQ_get2 42 rfl) (by decide) rfl ?_
        refine x_iinc (l1 := [(4, xI (i + 1)), (3, xI (0)), (0, xC c), (1, xS (2 * si + 1)), (2, xI (t))]) (x_d C_MQ_get2 43 rfl) rfl ⟨by omega, by omega⟩ (by decide) rfl ?_
        refine x_goto (tgt := 40) (x_d C_MQ_get2 44 rfl) rfl ?_
        refine x_locs [2, 3, 4, 1, 0] rfl ?_
        have hb1 : b = 1 ∧ (nl t.toNat : Int) = sc.2.2.2.length ∧ s_eqf (nf t.toNat) (fun i => sc.2.2.2.getD i 0) 0 i.toNat = true := by rcases hb with hb | hb; exact hb; exact absurd hb.1 (by omega)
        refine ih (i + 1) 0 (by omega) (Or.inr ⟨rfl, ?_⟩)
        show (decide ((nl t.toNat : Int) = (sc.2.2.2.length : Int)) && s_eqf (nf t.toNat) (fun i => sc.2.2.2.getD i 0) 0 sc.2.2.2.length) = false
        rw [Bool.and_eq_false_iff]
        refine Or.inr ?_
        cases e : s_eqf (nf t.toNat) (fun i => sc.2.2.2.getD i 0) 0 sc.2.2.2.length with
        | false => rfl
        | true =>
          have := (s_eqf_iff _ _ _ _).mp e i.toNat (by omega)
          rw [Nat.zero_add] at this
          omega
      · refine x_iconst (x_d C_MQ_get2 39 rfl) ⟨by omega, by omega⟩ ?_
        refine x_goto (tgt := 76) (x_d C_MQ_get2 40 rfl) rfl ?_
        refine x_istore_n (l1 := [(3, xI (1)), (0, xC c), (1, xS (2 * si + 1)), (2, xI (t)), (4, xI (i))]) (x_d C_MQ_get2 42 rfl) (by decide) rfl ?_
        refine x_iinc (l1 := [(4, xI (i + 1)), (3, xI (1)), (0, xC c), (1, xS (2 * si + 1)), (2, xI (t))]) (x_d C_MQ_get2 43 rfl) rfl ⟨by omega, by omega⟩ (by decide) rfl ?_
        refine x_goto (tgt := 40) (x_d C_MQ_get2 44 rfl) rfl ?_
        refine x_locs [2, 3, 4, 1, 0] rfl ?_
        have hb1 : b = 1 ∧ (nl t.toNat : Int) = sc.2.2.2.length ∧ s_eqf (nf t.toNat) (fun i => sc.2.2.2.getD i 0) 0 i.toNat = true := by rcases hb with hb | hb; exact hb; exact absurd hb.1 (by omega)
        refine ih (i + 1) 1 (by omega) (Or.inl ⟨rfl, hb1.2.1, ?_⟩)
        rw [show (i + 1).toNat = i.toNat + 1 by omega]
        show (s_eqf (nf t.toNat) (fun i => sc.2.2.2.getD i 0) 0 i.toNat && decide (nf t.toNat i.toNat = sc.2.2.2.getD (0 + i.toNat) 0)) = true
        rw [hb1.2.2, Nat.zero_add, decide_eq_true (by omega)]
        rfl
theorem w_MQ_get2_2 (Z : xZ) (d : Nat) (h : xH) (hd : 4 ≤ d) (c ci cn cap cap2 : Nat) (kk x y m : Int) (bt : Option Nat) (fi fn : Nat → Option Nat) (nb nl : Nat → Nat) (nf : Nat → Nat → Int) (hc : h[c]? = some (xB 12 [xI kk, xI x, xI y, xI m, xO bt, xC ci, xC cn])) (hi0 : h[ci]? = some (xQ 4 cap fi)) (hcn : h[cn]? = some (xQ 5 cap2 fn)) (hm : 0 ≤ m ∧ m ≤ cap ∧ m ≤ cap2 ∧ m ≤ 1000) (hnm : ∀ k : Nat, (k : Int) < m → fn k = some (nb k) ∧ h[nb k]? = some (xA 1 (nl k) (nf k)) ∧ (nl k : Int) ≤ 100000) {si : Nat} {sc : String × Nat × String × List Int} (hs : x_strs[si]? = some sc) (hsl : (sc.2.2.2.length : Int) ≤ 1000) : ∀ (k : Nat) (t : Int), (0 ≤ t ∧ t + k = m) → xW Z d Y_MQ_get2 2 [(0, xC c), (1, xS (2 * si + 1)), (2, xI t)] [] h (fun v0 h2 => v0 = some (xO ((s_idx (fun k => decide ((nl k : Int) = (sc.2.2.2.length : Int)) && s_eqf (nf k) (fun i => sc.2.2.2.getD i 0) 0 sc.2.2.2.length) k t.toNat).bind fi)) ∧ h2 = h) := by
  intro k
  induction k with
  | zero =>
    intro t ht
    refine x_iload_n (x_d C_MQ_get2 2 rfl) rfl ?_
    refine x_aload_n (x_d C_MQ_get2 3 rfl) rfl ?_
    refine x_getfield (v := xI (m)) (x_d C_MQ_get2 4 rfl) f_MQ_15 hc rfl ?_
    refine x_icmp_ge (tgt := 100) (x_d C_MQ_get2 5 rfl) rfl (fun _ => ?_) (fun q => absurd q (by omega))
    refine x_null (x_d C_MQ_get2 54 rfl) ?_
    refine x_areturn (x_d C_MQ_get2 55 rfl) ?_
    exact ⟨rfl, rfl⟩
  | succ k ih =>
    intro t ht
    have hnk := hnm t.toNat (by omega)
    have hsx : s_idx (fun k => decide ((nl k : Int) = (sc.2.2.2.length : Int)) && s_eqf (nf k) (fun i => sc.2.2.2.getD i 0) 0 sc.2.2.2.length) (k + 1) t.toNat = if (fun k => decide ((nl k : Int) = (sc.2.2.2.length : Int)) && s_eqf (nf k) (fun i => sc.2.2.2.getD i 0) 0 sc.2.2.2.length) t.toNat = true then some t.toNat else s_idx (fun k => decide ((nl k : Int) = (sc.2.2.2.length : Int)) && s_eqf (nf k) (fun i => sc.2.2.2.getD i 0) 0 sc.2.2.2.length) k (t.toNat + 1) := rfl
    refine x_iload_n (x_d C_MQ_get2 2 rfl) rfl ?_
    refine x_aload_n (x_d C_MQ_get2 3 rfl) rfl ?_
    refine x_getfield (v := xI (m)) (x_d C_MQ_get2 4 rfl) f_MQ_15 hc rfl ?_
    refine x_icmp_ge (tgt := 100) (x_d C_MQ_get2 5 rfl) rfl (fun q => absurd q (by omega)) (fun _ => ?_)
    refine x_aload_n (x_d C_MQ_get2 6 rfl) rfl ?_
    refine x_getfield (v := xC cn) (x_d C_MQ_get2 7 rfl) f_MQ_26 hc rfl ?_
    refine x_ifnullC (tgt := 100) (x_d C_MQ_get2 8 rfl) rfl ?_
    refine x_aload_n (x_d C_MQ_get2 9 rfl) rfl ?_
    refine x_getfield (v := xC cn) (x_d C_MQ_get2 10 rfl) f_MQ_26 hc rfl ?_
    refine x_iload_n (x_d C_MQ_get2 11 rfl) rfl ?_
    refine x_aaload5 (x_d C_MQ_get2 12 rfl) hcn (by omega) (by omega) ?_
    rw [hnk.1]
    refine x_arraylength (x_d C_MQ_get2 13 rfl) hnk.2.1 (by decide) (by omega) ?_
    refine x_aload_n (x_d C_MQ_get2 14 rfl) rfl ?_
    refine x_invokevirtualS (st := [xI (((nl t.toNat) : Int))]) (av := []) (x_d C_MQ_get2 15 rfl) k_MQ_34 m_S_length v_S_length rfl hs rfl (Nat.le_of_ble_eq_true rfl) (by omega) rfl (c_S_length Z (d - 1) (h) (by omega) hs) ?_
    rintro v_ h_ ⟨hv_, hh_⟩
    rw [hh_]
    clear hh_
    obtain rfl : v_ = some (xI ((sc.2.2.2.length : Int))) := hv_
    refine x_icmp_ne (tgt := 35) (x_d C_MQ_get2 16 rfl) rfl (fun c3 => ?_) (fun c3 => ?_)
    · refine x_iconst (x_d C_MQ_get2 19 rfl) ⟨by omega, by omega⟩ ?_
      refine x_istore_n (l1 := [(3, xI (0)), (0, xC c), (1, xS (2 * si + 1)), (2, xI (t))]) (x_d C_MQ_get2 20 rfl) (by decide) rfl ?_
      refine x_iconst (x_d C_MQ_get2 21 rfl) ⟨by omega, by omega⟩ ?_
      refine x_istore (l1 := [(4, xI (0)), (3, xI (0)), (0, xC c), (1, xS (2 * si + 1)), (2, xI (t))]) (x_d C_MQ_get2 22 rfl) (by decide) rfl ?_
      refine x_locs [2, 3, 4, 1, 0] rfl ?_
      refine w_MQ_get2_40 Z d h hd c ci cn cap cap2 kk x y m bt fi fn nb nl nf hc hi0 hcn hm hnm hs hsl t (by omega) _ (fun i b hb => ?_) sc.2.2.2.length 0 0 (by omega) (Or.inr ⟨rfl, by show (decide ((nl t.toNat : Int) = (sc.2.2.2.length : Int)) && _) = false; rw [decide_eq_false (by omega)]; rfl⟩)
      refine x_iload_n (x_d C_MQ_get2 45 rfl) rfl ?_
      refine x_if_eq (tgt := 94) (x_d C_MQ_get2 46 rfl) rfl (fun c104 => ?_) (fun c104 => ?_)
      · refine x_iinc (l1 := [(2, xI (t + 1)), (0, xC c), (1, xS (2 * si + 1)), (3, xI (b)), (4, xI (i))]) (x_d C_MQ_get2 52 rfl) rfl ⟨by omega, by omega⟩ (by decide) rfl ?_
        refine x_goto (tgt := 2) (x_d C_MQ_get2 53 rfl) rfl ?_
        refine x_locs [1, 2, 0] rfl ?_
        rw [hsx, if_neg (by rcases hb with e | e; exact absurd e.1 (by omega); rw [e.2]; decide)]
        have := ih (t + 1) (by omega)
        rw [show (t + 1).toNat = t.toNat + 1 by omega] at this
        exact this
      · refine x_aload_n (x_d C_MQ_get2 47 rfl) rfl ?_
        refine x_getfield (v := xC ci) (x_d C_MQ_get2 48 rfl) f_MQ_18 hc rfl ?_
        refine x_iload_n (x_d C_MQ_get2 49 rfl) rfl ?_
        refine x_aaload (x_d C_MQ_get2 50 rfl) hi0 (by omega) (by omega) ?_
        refine x_areturn (x_d C_MQ_get2 51 rfl) ?_
        rw [hsx, if_pos (by rcases hb with e | e; exact e.2; exact absurd e.1 (by omega))]
        exact ⟨rfl, rfl⟩
    · refine x_iconst (x_d C_MQ_get2 17 rfl) ⟨by omega, by omega⟩ ?_
      refine x_goto (tgt := 36) (x_d C_MQ_get2 18 rfl) rfl ?_
      refine x_istore_n (l1 := [(3, xI (1)), (0, xC c), (1, xS (2 * si + 1)), (2, xI (t))]) (x_d C_MQ_get2 20 rfl) (by decide) rfl ?_
      refine x_iconst (x_d C_MQ_get2 21 rfl) ⟨by omega, by omega⟩ ?_
      refine x_istore (l1 := [(4, xI (0)), (3, xI (1)), (0, xC c), (1, xS (2 * si + 1)), (2, xI (t))]) (x_d C_MQ_get2 22 rfl) (by decide) rfl ?_
      refine x_locs [2, 3, 4, 1, 0] rfl ?_
      refine w_MQ_get2_40 Z d h hd c ci cn cap cap2 kk x y m bt fi fn nb nl nf hc hi0 hcn hm hnm hs hsl t (by omega) _ (fun i b hb => ?_) sc.2.2.2.length 0 1 (by omega) (Or.inl ⟨rfl, by omega, rfl⟩)
      refine x_iload_n (x_d C_MQ_get2 45 rfl) rfl ?_
      refine x_if_eq (tgt := 94) (x_d C_MQ_get2 46 rfl) rfl (fun c104 => ?_) (fun c104 => ?_)
      · refine x_iinc (l1 := [(2, xI (t + 1)), (0, xC c), (1, xS (2 * si + 1)), (3, xI (b)), (4, xI (i))]) (x_d C_MQ_get2 52 rfl) rfl ⟨by omega, by omega⟩ (by decide) rfl ?_
        refine x_goto (tgt := 2) (x_d C_MQ_get2 53 rfl) rfl ?_
        refine x_locs [1, 2, 0] rfl ?_
        rw [hsx, if_neg (by rcases hb with e | e; exact absurd e.1 (by omega); rw [e.2]; decide)]
        have := ih (t + 1) (by omega)
        rw [show (t + 1).toNat = t.toNat + 1 by omega] at this
        exact this
      · refine x_aload_n (x_d C_MQ_get2 47 rfl) rfl ?_
        refine x_getfield (v := xC ci) (x_d C_MQ_get2 48 rfl) f_MQ_18 hc rfl ?_
        refine x_iload_n (x_d C_MQ_get2 49 rfl) rfl ?_
        refine x_aaload (x_d C_MQ_get2 50 rfl) hi0 (by omega) (by omega) ?_
        refine x_areturn (x_d C_MQ_get2 51 rfl) ?_
        rw [hsx, if_pos (by rcases hb with e | e; exact e.2; exact absurd e.1 (by omega))]
        exact ⟨rfl, rfl⟩
theorem c_MQ_get2 (Z : xZ) (d : Nat) (h : xH) (hd : 4 ≤ d) (c ci cn cap cap2 : Nat) (kk x y m : Int) (bt : Option Nat) (fi fn : Nat → Option Nat) (nb nl : Nat → Nat) (nf : Nat → Nat → Int) (hc : h[c]? = some (xB 12 [xI kk, xI x, xI y, xI m, xO bt, xC ci, xC cn])) (hi0 : h[ci]? = some (xQ 4 cap fi)) (hcn : h[cn]? = some (xQ 5 cap2 fn)) (hm : 0 ≤ m ∧ m ≤ cap ∧ m ≤ cap2 ∧ m ≤ 1000) (hnm : ∀ k : Nat, (k : Int) < m → fn k = some (nb k) ∧ h[nb k]? = some (xA 1 (nl k) (nf k)) ∧ (nl k : Int) ≤ 100000) {si : Nat} {sc : String × Nat × String × List Int} (hs : x_strs[si]? = some sc) (hsl : (sc.2.2.2.length : Int) ≤ 1000) : xMet Z d Y_MQ_get2 [xC c, xS (2 * si + 1)] h (fun v0 h2 => v0 = some (xO ((s_idx (fun k => decide ((nl k : Int) = (sc.2.2.2.length : Int)) && s_eqf (nf k) (fun i => sc.2.2.2.getD i 0) 0 sc.2.2.2.length) m.toNat 0).bind fi)) ∧ h2 = h) := by
  refine xMet_of (by decide) (Nat.le_of_ble_eq_true rfl) (fun v h2 hq => by rw [hq.1]; trivial) ?_
  refine x_iconst (x_d C_MQ_get2 0 rfl) ⟨by omega, by omega⟩ ?_
  refine x_istore_n (l1 := [(2, xI (0)), (0, xC c), (1, xS (2 * si + 1))]) (x_d C_MQ_get2 1 rfl) (by decide) rfl ?_
  refine x_locs [1, 2, 0] rfl ?_
  exact w_MQ_get2_2 Z d h hd c ci cn cap cap2 kk x y m bt fi fn nb nl nf hc hi0 hcn hm hnm hs hsl m.toNat 0 (by omega)
theorem c_MQ_get2N (Z : xZ) (d : Nat) (h : xH) (c : Nat) (kk x y m : Int) (bt it : Option Nat) (si : Nat) (hc : h[c]? = some (xB 12 [xI kk, xI x, xI y, xI m, xO bt, xO it, xN])) : xMet Z d Y_MQ_get2 [xC c, xS (2 * si + 1)] h (fun v0 h2 => v0 = some xN ∧ h2 = h) := by
  refine xMet_of (by decide) (Nat.le_of_ble_eq_true rfl) (fun v h2 hq => by rw [hq.1]; trivial) ?_
  refine x_iconst (x_d C_MQ_get2 0 rfl) ⟨by omega, by omega⟩ ?_
  refine x_istore_n (l1 := [(2, xI (0)), (0, xC c), (1, xS (2 * si + 1))]) (x_d C_MQ_get2 1 rfl) (by decide) rfl ?_
  refine x_iload_n (x_d C_MQ_get2 2 rfl) rfl ?_
  refine x_aload_n (x_d C_MQ_get2 3 rfl) rfl ?_
  refine x_getfield (v := xI (m)) (x_d C_MQ_get2 4 rfl) f_MQ_15 hc rfl ?_
  refine x_icmp_ge (tgt := 100) (x_d C_MQ_get2 5 rfl) rfl (fun c1 => ?_) (fun c1 => ?_)
  · refine x_null (x_d C_MQ_get2 54 rfl) ?_
    refine x_areturn (x_d C_MQ_get2 55 rfl) ?_
    exact ⟨rfl, rfl⟩
  · refine x_aload_n (x_d C_MQ_get2 6 rfl) rfl ?_
    refine x_getfield (v := xN) (x_d C_MQ_get2 7 rfl) f_MQ_26 hc rfl ?_
    refine x_ifnullN (tgt := 100) (x_d C_MQ_get2 8 rfl) rfl ?_
    refine x_null (x_d C_MQ_get2 54 rfl) ?_
    refine x_areturn (x_d C_MQ_get2 55 rfl) ?_
    exact ⟨rfl, rfl⟩
theorem w_MQ_isName_24 (Z : xZ) (d : Nat) (h : xH) (hd : 4 ≤ d) (c cb nl : Nat) (x y m : Int) (it nm : Option Nat) (fb : Nat → Int) (hc : h[c]? = some (xB 12 [xI 4, xI x, xI y, xI m, xC cb, xO it, xO nm])) (hcb : h[cb]? = some (xA 1 nl fb)) (hnl : (nl : Int) ≤ 20000) {si : Nat} {sc : String × Nat × String × List Int} (hs : x_strs[si]? = some sc) (hsl : (sc.2.2.2.length : Int) ≤ 1000) (hlen : (nl : Int) = sc.2.2.2.length) : ∀ (k : Nat) (t : Int), (0 ≤ t ∧ t + k = sc.2.2.2.length) → s_eqf fb (fun i => sc.2.2.2.getD i 0) 0 t.toNat = true → xW Z d Y_MQ_isName 24 [(0, xC c), (1, xS (2 * si + 1)), (2, xI t)] [] h (fun v0 h2 => v0 = some (xI (x_bo (decide ((nl : Int) = (sc.2.2.2.length : Int)) && s_eqf fb (fun i => sc.2.2.2.getD i 0) 0 sc.2.2.2.length))) ∧ h2 = h) := by
  intro k
  induction k with
  | zero =>
    intro t ht he
    refine x_iload_n (x_d C_MQ_isName 14 rfl) rfl ?_
    refine x_aload_n (x_d C_MQ_isName 15 rfl) rfl ?_
    refine x_invokevirtualS (st := [xI (t)]) (av := []) (x_d C_MQ_isName 16 rfl) k_MQ_34 m_S_length v_S_length rfl hs rfl (Nat.le_of_ble_eq_true rfl) (by omega) rfl (c_S_length Z (d - 1) (h) (by omega) hs) ?_
    rintro v_ h_ ⟨hv_, hh_⟩
    rw [hh_]
    clear hh_
    obtain rfl : v_ = some (xI ((sc.2.2.2.length : Int))) := hv_
    refine x_icmp_ge (tgt := 54) (x_d C_MQ_isName 17 rfl) rfl (fun _ => ?_) (fun q => absurd q (by omega))
    refine x_iconst (x_d C_MQ_isName 30 rfl) ⟨by omega, by omega⟩ ?_
    refine x_ireturn (x_d C_MQ_isName 31 rfl) ?_
    refine ⟨?_, rfl⟩
    rw [show t.toNat = sc.2.2.2.length by omega] at he
    rw [decide_eq_true hlen, he]
    rfl
  | succ k ih =>
    intro t ht he
    refine x_iload_n (x_d C_MQ_isName 14 rfl) rfl ?_
    refine x_aload_n (x_d C_MQ_isName 15 rfl) rfl ?_
    refine x_invokevirtualS (st := [xI (t)]) (av := []) (x_d C_MQ_isName 16 rfl) k_MQ_34 m_S_length v_S_length rfl hs rfl (Nat.le_of_ble_eq_true rfl) (by omega) rfl (c_S_length Z (d - 1) (h) (by omega) hs) ?_
    rintro v_ h_ ⟨hv_, hh_⟩
    rw [hh_]
    clear hh_
    obtain rfl : v_ = some (xI ((sc.2.2.2.length : Int))) := hv_
    refine x_icmp_ge (tgt := 54) (x_d C_MQ_isName 17 rfl) rfl (fun q => absurd q (by omega)) (fun _ => ?_)
    refine x_aload_n (x_d C_MQ_isName 18 rfl) rfl ?_
    refine x_getfield (v := xC cb) (x_d C_MQ_isName 19 rfl) f_MQ_43 hc rfl ?_
    refine x_iload_n (x_d C_MQ_isName 20 rfl) rfl ?_
    refine x_baload (f := fb) (x_d C_MQ_isName 21 rfl) hcb (by omega) (by omega) ?_
    refine x_aload_n (x_d C_MQ_isName 22 rfl) rfl ?_
    refine x_iload_n (x_d C_MQ_isName 23 rfl) rfl ?_
    refine x_invokevirtualS (st := [xI (fb (t).toNat)]) (av := [xI (t)]) (x_d C_MQ_isName 24 rfl) k_MQ_39 m_S_charAt v_S_charAt rfl hs rfl (Nat.le_of_ble_eq_true rfl) (by omega) rfl (c_S_charAt Z (d - 1) (h) (by omega) hs t (by omega)) ?_
    rintro v_ h_ ⟨hv_, hh_⟩
    rw [hh_]
    clear hh_
    obtain rfl : v_ = some (xI (sc.2.2.2.getD (t).toNat 0)) := hv_
    refine x_icmp_eq (tgt := 48) (x_d C_MQ_isName 25 rfl) rfl (fun c2 => ?_) (fun c2 => ?_)
    · refine x_iinc (l1 := [(2, xI (t + 1)), (0, xC c), (1, xS (2 * si + 1))]) (x_d C_MQ_isName 28 rfl) rfl ⟨by omega, by omega⟩ (by decide) rfl ?_
      refine x_goto (tgt := 24) (x_d C_MQ_isName 29 rfl) rfl ?_
      refine x_locs [1, 2, 0] rfl ?_
      refine ih (t + 1) (by omega) ?_
      rw [show (t + 1).toNat = t.toNat + 1 by omega]
      show (s_eqf fb (fun i => sc.2.2.2.getD i 0) 0 t.toNat && decide (fb t.toNat = sc.2.2.2.getD (0 + t.toNat) 0)) = true
      rw [he, Nat.zero_add, decide_eq_true (by omega)]
      rfl
    · refine x_iconst (x_d C_MQ_isName 26 rfl) ⟨by omega, by omega⟩ ?_
      refine x_ireturn (x_d C_MQ_isName 27 rfl) ?_
      refine ⟨?_, rfl⟩
      have e2 : s_eqf fb (fun i => sc.2.2.2.getD i 0) 0 sc.2.2.2.length = false := by
        cases e : s_eqf fb (fun i => sc.2.2.2.getD i 0) 0 sc.2.2.2.length with
        | false => rfl
        | true =>
          have := (s_eqf_iff _ _ _ _).mp e t.toNat (by omega)
          rw [Nat.zero_add] at this
          omega
      rw [e2, Bool.and_false]
      rfl
theorem c_MQ_isName (Z : xZ) (d : Nat) (h : xH) (hd : 4 ≤ d) (c cb nl : Nat) (x y m : Int) (it nm : Option Nat) (fb : Nat → Int) (hc : h[c]? = some (xB 12 [xI 4, xI x, xI y, xI m, xC cb, xO it, xO nm])) (hcb : h[cb]? = some (xA 1 nl fb)) (hnl : (nl : Int) ≤ 20000) {si : Nat} {sc : String × Nat × String × List Int} (hs : x_strs[si]? = some sc) (hsl : (sc.2.2.2.length : Int) ≤ 1000) : xMet Z d Y_MQ_isName [xC c, xS (2 * si + 1)] h (fun v0 h2 => v0 = some (xI (x_bo (decide ((nl : Int) = (sc.2.2.2.length : Int)) && s_eqf fb (fun i => sc.2.2.2.getD i 0) 0 sc.2.2.2.length))) ∧ h2 = h) := by
  refine xMet_of (by decide) (Nat.le_of_ble_eq_true rfl) (fun v h2 hq => by rw [hq.1]; exact x_fitZ _) ?_
  refine x_aload_n (x_d C_MQ_isName 0 rfl) rfl ?_
  refine x_getfield (v := xI (4)) (x_d C_MQ_isName 1 rfl) f_MQ_9 hc rfl ?_
  refine x_iconst (x_d C_MQ_isName 2 rfl) ⟨by omega, by omega⟩ ?_
  refine x_icmp_ne (tgt := 20) (x_d C_MQ_isName 3 rfl) rfl (fun q => absurd q (by omega)) (fun _ => ?_)
  refine x_aload_n (x_d C_MQ_isName 4 rfl) rfl ?_
  refine x_getfield (v := xC cb) (x_d C_MQ_isName 5 rfl) f_MQ_43 hc rfl ?_
  refine x_arraylength (x_d C_MQ_isName 6 rfl) hcb (by decide) (by omega) ?_
  refine x_aload_n (x_d C_MQ_isName 7 rfl) rfl ?_
  refine x_invokevirtualS (st := [xI ((nl : Int))]) (av := []) (x_d C_MQ_isName 8 rfl) k_MQ_34 m_S_length v_S_length rfl hs rfl (Nat.le_of_ble_eq_true rfl) (by omega) rfl (c_S_length Z (d - 1) (h) (by omega) hs) ?_
  rintro v_ h_ ⟨hv_, hh_⟩
  rw [hh_]
  clear hh_
  obtain rfl : v_ = some (xI ((sc.2.2.2.length : Int))) := hv_
  refine x_icmp_eq (tgt := 22) (x_d C_MQ_isName 9 rfl) rfl (fun c2 => ?_) (fun c2 => ?_)
  · refine x_iconst (x_d C_MQ_isName 12 rfl) ⟨by omega, by omega⟩ ?_
    refine x_istore_n (l1 := [(2, xI (0)), (0, xC c), (1, xS (2 * si + 1))]) (x_d C_MQ_isName 13 rfl) (by decide) rfl ?_
    refine x_locs [1, 2, 0] rfl ?_
    exact w_MQ_isName_24 Z d h hd c cb nl x y m it nm fb hc hcb hnl hs hsl (by omega) sc.2.2.2.length 0 (by omega) rfl
  · refine x_iconst (x_d C_MQ_isName 10 rfl) ⟨by omega, by omega⟩ ?_
    refine x_ireturn (x_d C_MQ_isName 11 rfl) ?_
    exact ⟨by rw [decide_eq_false (by omega)]; rfl, rfl⟩
theorem c_MQ_isNameN (Z : xZ) (d : Nat) (h : xH) (c : Nat) (kk x y m : Int) (bt it nm : Option Nat) (si : Nat) (hc : h[c]? = some (xB 12 [xI kk, xI x, xI y, xI m, xO bt, xO it, xO nm])) (hk : ¬ kk = 4) : xMet Z d Y_MQ_isName [xC c, xS (2 * si + 1)] h (fun v0 h2 => v0 = some (xI 0) ∧ h2 = h) := by
  refine xMet_of (by decide) (Nat.le_of_ble_eq_true rfl) (fun v h2 hq => by rw [hq.1]; exact Or.inl rfl) ?_
  refine x_aload_n (x_d C_MQ_isName 0 rfl) rfl ?_
  refine x_getfield (v := xI (kk)) (x_d C_MQ_isName 1 rfl) f_MQ_9 hc rfl ?_
  refine x_iconst (x_d C_MQ_isName 2 rfl) ⟨by omega, by omega⟩ ?_
  refine x_icmp_ne (tgt := 20) (x_d C_MQ_isName 3 rfl) rfl (fun _ => ?_) (fun q => absurd q (by omega))
  refine x_iconst (x_d C_MQ_isName 10 rfl) ⟨by omega, by omega⟩ ?_
  refine x_ireturn (x_d C_MQ_isName 11 rfl) ?_
  exact ⟨rfl, rfl⟩
