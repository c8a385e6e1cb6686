/-! the reference: the walk through the pages -/
theorem s_isN_neg {kd one two b : Nat → Int} {n p : Int} {cs : List Int} (h : p < 0) : s_isN kd one two b n p cs = false := by
  unfold s_isN
  exact decide_eq_false (fun z => by have := z.1; omega)
/-- what a visit of the reference says, at the depth that leaves D -/
def VM (Z : xZ) (q : Nat → Int) (r : Nat → Option Nat) (A : Nat → Nat → Int) (dy : xH) (po : Option Nat) (cp : Nat) (X : Nat → Int) (E : Int) (g : Nat → Option xE) (P : Nat → Nat → Int) (rt gn us : Nat → Int) (n2 sz : Int) (D : Nat) : Prop := ∀ (d : Nat) (sn nu : Nat → Int) (fd : Int) (L : List Int) (p e : Int) (oc : Option Nat), D + 7 ≤ d → e = 9 - (D : Int) → ((oc = none ∧ p < 0) ∨ ∃ c D9, D9 ≤ 8 ∧ oc = some c ∧ Tr X E g P (D9 + 1) p c) → pw sn nu fd L → xMet Z d Y_M_walk [xC 42, xO oc, xI e] (hF (x_up q 1364 fd) (x_up (x_up r 1350 (some cp)) 1351 po) (x_up (x_up A 50 sn) 51 nu) ++ dy) (fun v0 h2 => ∃ sn2 nu2 fd2, h2 = hF (x_up q 1364 fd2) (x_up (x_up r 1350 (some cp)) 1351 po) (x_up (x_up A 50 sn2) 51 nu2) ++ dy ∧ ((v0 = some (xI 1) ∧ ∃ L2, s_vis (P 5) (P 6) (P 7) (P 8) (P 9) X rt gn us n2 sz D p sn L = some (sn2, L2) ∧ pw sn2 nu2 fd2 L2) ∨ (v0 = some (xI 0) ∧ s_vis (P 5) (P 6) (P 7) (P 8) (P 9) X rt gn us n2 sz D p sn L = none)))
theorem w_M_walk_144 (Z : xZ) (d : Nat) (q : Nat → Int) (r : Nat → Option Nat) (A : Nat → Nat → Int) (dy : xH) (D : Nat) (hd : D + 8 ≤ d) (po : Option Nat) (X : Nat → Int) (E : Int) (g : Nat → Option xE) (P : Nat → Nat → Int) (hgk : gok g dy) (cp : Nat) (rt gn us : Nat → Int) (n2 sz e : Int) (hD : D ≤ 8) (he : e = 8 - (D : Int)) (hrec : VM Z q r A dy po cp X E g P rt gn us n2 sz D) (x1 x3 x4 : xV) (ck ci cap : Nat) (K x y m : Int) (bt2 nm : Option Nat) (fi : Nat → Option Nat) (Lk : List Int) (hck : ct dy ck (xB 12 [xI K, xI x, xI y, xI m, xO bt2, xC ci, xO nm])) (hci : ct dy ci (xQ 4 cap fi)) (hm : m = Lk.length ∧ Lk.length ≤ cap ∧ Lk.length ≤ 60) (hit : ∀ k, k < Lk.length → ∃ c D9, D9 ≤ 8 ∧ fi k = some c ∧ Tr X E g P (D9 + 1) (Lk.getD k 0) c) : ∀ (u : Nat) (t : Int) (sn nu : Nat → Int) (fd : Int) (L : List Int), (0 ≤ t ∧ t + u = m) → pw sn nu fd L → xW Z d Y_M_walk 144 [(0, xC 42), (2, xI e), (5, xC ck), (6, xI t)] [] (hF (x_up q 1364 fd) (x_up (x_up r 1350 (some cp)) 1351 po) (x_up (x_up A 50 sn) 51 nu) ++ dy) (fun v0 h2 => ∃ sn2 nu2 fd2, h2 = hF (x_up q 1364 fd2) (x_up (x_up r 1350 (some cp)) 1351 po) (x_up (x_up A 50 sn2) 51 nu2) ++ dy ∧ ((v0 = some (xI 1) ∧ ∃ L2, s_vks (s_vis (P 5) (P 6) (P 7) (P 8) (P 9) X rt gn us n2 sz D) (Lk.drop t.toNat) sn L = some (sn2, L2) ∧ pw sn2 nu2 fd2 L2) ∨ (v0 = some (xI 0) ∧ s_vks (s_vis (P 5) (P 6) (P 7) (P 8) (P 9) X rt gn us n2 sz D) (Lk.drop t.toNat) sn L = none))) := by
  intro u
  induction u with
  | zero =>
    intro t sn nu fd L ht hpw
    refine x_iload (x_d C_M_walk 72 rfl) rfl ?_
    refine x_aload (x_d C_M_walk 73 rfl) rfl ?_
    refine x_getfield (v := xI (m)) (x_d C_M_walk 74 rfl) f_M_145 (ct_get hck _ _ _) rfl ?_
    refine x_icmp_ge (tgt := 180) (x_d C_M_walk 75 rfl) rfl (fun _ => ?_) (fun q => absurd q (by omega))
    refine x_iconst (x_d C_M_walk 90 rfl) ⟨by omega, by omega⟩ ?_
    refine x_ireturn (x_d C_M_walk 91 rfl) ?_
    rw [List.drop_eq_nil_of_le (by omega)]
    exact ⟨sn, nu, fd, rfl, Or.inl ⟨rfl, L, rfl, hpw⟩⟩
  | succ u ih =>
    intro t sn nu fd L ht hpw
    obtain ⟨c5, D9, h9, hc5, hT5⟩ := hit t.toNat (by omega)
    obtain ⟨-, fs5, hg5⟩ := Tr_c hT5
    have hdr : Lk.drop t.toNat = Lk.getD t.toNat 0 :: Lk.drop (t.toNat + 1) := by
      rw [List.getD_eq_getElem?_getD, List.getElem?_eq_getElem (show t.toNat < Lk.length by omega), List.drop_eq_getElem_cons (show t.toNat < Lk.length by omega)]
      rfl
    have hv0 : s_vks (s_vis (P 5) (P 6) (P 7) (P 8) (P 9) X rt gn us n2 sz D) (Lk.drop t.toNat) sn L = ((s_vis (P 5) (P 6) (P 7) (P 8) (P 9) X rt gn us n2 sz D) (Lk.getD t.toNat 0) sn L).bind (fun y => s_vks (s_vis (P 5) (P 6) (P 7) (P 8) (P 9) X rt gn us n2 sz D) (Lk.drop (t.toNat + 1)) y.1 y.2) := by rw [hdr]; rfl
    refine x_iload (x_d C_M_walk 72 rfl) rfl ?_
    refine x_aload (x_d C_M_walk 73 rfl) rfl ?_
    refine x_getfield (v := xI (m)) (x_d C_M_walk 74 rfl) f_M_145 (ct_get hck _ _ _) rfl ?_
    refine x_icmp_ge (tgt := 180) (x_d C_M_walk 75 rfl) rfl (fun q => absurd q (by omega)) (fun _ => ?_)
    refine x_aload_n (x_d C_M_walk 76 rfl) rfl ?_
    refine x_aload (x_d C_M_walk 77 rfl) rfl ?_
    refine x_getfield (v := xC ci) (x_d C_M_walk 78 rfl) f_M_141 (ct_get hck _ _ _) rfl ?_
    refine x_iload (x_d C_M_walk 79 rfl) rfl ?_
    refine x_aaload (x_d C_M_walk 80 rfl) (ct_get hci _ _ _) (by omega) (by omega) ?_
    rw [hc5]
    refine x_iload_n (x_d C_M_walk 81 rfl) rfl ?_
    refine x_iconst (x_d C_M_walk 82 rfl) ⟨by omega, by omega⟩ ?_
    refine x_iadd (x_d C_M_walk 83 rfl) ⟨by omega, by omega⟩ ?_
    refine x_invokevirtual (st := []) (av := [xC c5, xI (e + 1)]) (x_d C_M_walk 84 rfl) k_M_448 m_M_walk v_M_walk cl_M rfl rfl (Nat.le_of_ble_eq_true rfl) (by omega) rfl (hrec (d - 1) sn nu fd L (Lk.getD t.toNat 0) (e + 1) (some c5) (by omega) (by omega) (Or.inr ⟨c5, D9, h9, rfl, hT5⟩) hpw) ?_
    rintro v_ _ ⟨sn2, nu2, fd2, rfl, hr_⟩
    obtain ⟨z2, rfl, hz2⟩ : ∃ z : Int, v_ = some (xI z) ∧ ((z = 1 ∧ ∃ L2, (s_vis (P 5) (P 6) (P 7) (P 8) (P 9) X rt gn us n2 sz D) (Lk.getD t.toNat 0) sn L = some (sn2, L2) ∧ pw sn2 nu2 fd2 L2) ∨ (z = 0 ∧ (s_vis (P 5) (P 6) (P 7) (P 8) (P 9) X rt gn us n2 sz D) (Lk.getD t.toNat 0) sn L = none)) := by
      rcases hr_ with ⟨h1_, h2_⟩ | ⟨h1_, h2_⟩
      · exact ⟨1, h1_, Or.inl ⟨rfl, h2_⟩⟩
      · exact ⟨0, h1_, Or.inr ⟨rfl, h2_⟩⟩
    clear hr_
    refine x_if_ne (tgt := 174) (x_d C_M_walk 85 rfl) rfl (fun c3 => ?_) (fun c3 => ?_)
    · refine x_iinc (l1 := [(6, xI (t + 1)), (0, xC 42), (2, xI (e)), (5, xC ck)]) (x_d C_M_walk 88 rfl) rfl ⟨by omega, by omega⟩ (by decide) rfl ?_
      refine x_goto (tgt := 144) (x_d C_M_walk 89 rfl) rfl ?_
      refine x_locs [1, 2, 3, 0] rfl ?_
      rcases hz2 with ⟨h1, L2, h2, h3⟩ | ⟨h1, h2⟩
      · rw [hv0, h2]
        refine xW_post ?_ (ih (t + 1) sn2 nu2 fd2 L2 (by omega) h3)
        rw [show (t + 1).toNat = t.toNat + 1 by omega]
        exact fun _ _ h => h
      · exfalso; omega
    · refine x_iconst (x_d C_M_walk 86 rfl) ⟨by omega, by omega⟩ ?_
      refine x_ireturn (x_d C_M_walk 87 rfl) ?_
      rcases hz2 with ⟨h1, h2⟩ | ⟨h1, h2⟩
      · exfalso; omega
      · refine ⟨_, _, _, rfl, Or.inr ⟨rfl, ?_⟩⟩
        rw [hv0, h2]
        rfl
theorem c_M_walk_0 (Z : xZ) (q : Nat → Int) (r : Nat → Option Nat) (A : Nat → Nat → Int) (dy : xH) (po : Option Nat) (X : Nat → Int) (E : Int) (g : Nat → Option xE) (P : Nat → Nat → Int) (hgk : gok g dy) (cp : Nat) (bt : Option Nat) (tb lt : Int) (tr : Option Nat) (sz : Int) (fis fge fpl : Nat → Int) (fva : Nat → Option Nat) (fch : Nat → Int) (hp : PB dy cp bt tb lt tr sz fis fge fpl fva fch) (hsz : 0 ≤ sz ∧ sz ≤ 300) (rt us gn : Nat → Int) (hus : ∀ k : Nat, (k : Int) < sz → (fis k = 2 ↔ ¬ us k = 0) ∧ gn k = fge k) (hva : ∀ k : Nat, (k : Int) < sz → ¬ us k = 0 → ∃ c2, fva k = some c2 ∧ Tr X E g P 9 (rt k) c2) (n2 : Int) (hE : E ≤ n2) : VM Z q r A dy po cp X E g P rt gn us n2 sz 0 := by
  intro d sn nu fd L p e oc hd he hoc hpw
  refine xMet_of (by decide) (Nat.le_of_ble_eq_true rfl) (fun v0 h2 hq => by obtain ⟨_, _, _, _, ⟨e, _⟩ | ⟨e, _⟩⟩ := hq <;> rw [e]; exact Or.inr rfl; exact Or.inl rfl) ?_
  have hsn := hpw.2.2.2
  obtain ⟨n, hn⟩ : ∃ n, n = s_ldt (P 5) (P 6) (P 7) gn us sz p := ⟨_, rfl⟩
  have hn2 := s_ldt_in (P 5) (P 6) (P 7) gn us sz p
  rw [← hn] at hn2
  rcases hoc with ⟨rfl, hpn⟩ | ⟨c, D9, h9, rfl, hT⟩
  · have hnn : n < 0 := by rw [hn]; unfold s_ldt; rw [if_pos (Or.inl hpn)]; omega
    refine x_aload_n (x_d C_M_walk 0 rfl) rfl ?_
    refine x_aload_n (x_d C_M_walk 1 rfl) rfl ?_
    refine x_invokevirtual (st := []) (av := [xN]) (x_d C_M_walk 2 rfl) k_M_317 m_M_led v_M_led cl_M rfl rfl (Nat.le_of_ble_eq_true rfl) (by omega) rfl (c_M_ledN Z (d - 1) (x_up q 1364 fd) (x_up (x_up r 1350 (some cp)) 1351 po) (x_up (x_up A 50 sn) 51 nu) dy) ?_
    rintro v_ _ ⟨hv_, rfl⟩
    obtain rfl : v_ = some xN := hv_
    refine x_astore_n (l1 := [(3, xN), (0, xC 42), (1, xN), (2, xI (e))]) (x_d C_M_walk 3 rfl) (by decide) rfl ?_
    refine x_aload_n (x_d C_M_walk 4 rfl) rfl ?_
    refine x_ifnullN (tgt := 37) (x_d C_M_walk 5 rfl) rfl ?_
    refine x_iconst (x_d C_M_walk 19 rfl) ⟨by omega, by omega⟩ ?_
    refine x_ireturn (x_d C_M_walk 20 rfl) ?_
    exact ⟨sn, nu, fd, rfl, Or.inr ⟨rfl, rfl⟩⟩
  · by_cases hneg : n < 0
    · refine x_aload_n (x_d C_M_walk 0 rfl) rfl ?_
      refine x_aload_n (x_d C_M_walk 1 rfl) rfl ?_
      refine x_invokevirtual (st := []) (av := [xC c]) (x_d C_M_walk 2 rfl) k_M_317 m_M_led v_M_led cl_M rfl rfl (Nat.le_of_ble_eq_true rfl) (by omega) rfl (c_M_led Z (d - 1) (x_up q 1364 fd) r (x_up (x_up A 50 sn) 51 nu) dy (by omega) po X E g P hgk cp bt tb lt tr sz fis fge fpl fva fch hp hsz rt us gn hus D9 h9 p c hT) ?_
      rintro v_ _ ⟨hv_, rfl⟩
      rw [← hn] at hv_
      obtain rfl : v_ = some (xN) := by rw [hv_]; rw [if_pos hneg]
      refine x_astore_n (l1 := [(3, xN), (0, xC 42), (1, xC c), (2, xI (e))]) (x_d C_M_walk 3 rfl) (by decide) rfl ?_
      refine x_aload_n (x_d C_M_walk 4 rfl) rfl ?_
      refine x_ifnullN (tgt := 37) (x_d C_M_walk 5 rfl) rfl ?_
      refine x_iconst (x_d C_M_walk 19 rfl) ⟨by omega, by omega⟩ ?_
      refine x_ireturn (x_d C_M_walk 20 rfl) ?_
      exact ⟨sn, nu, fd, rfl, Or.inr ⟨rfl, rfl⟩⟩
    · have hn3 : 0 ≤ n ∧ n < sz ∧ ¬ us n.toNat = 0 := by rcases hn2 with z | z; omega; exact z
      obtain ⟨cr, hv3, hT3⟩ := hva n.toNat (by omega) hn3.2.2
      obtain ⟨hp0, x_l, y_l, m_l, b_l, i_l, n_l, hcl, hLl, -⟩ := Tr_o hT
      have h8 : P 5 p.toNat = 8 ∧ P 6 p.toNat = n := by
        unfold s_ldt at hn
        split at hn
        · omega
        · next z =>
          split at hn
          · exact ⟨by omega, hn.symm⟩
          · omega
      obtain ⟨hx1, hx2, -⟩ := hLl.2.2.1 h8.1
      rw [h8.2] at hx1
      rw [hx1, hx2] at hcl
      obtain ⟨_, x_r, y_r, m_r, b_r, i_r, n_r, hcr, -⟩ := Tr_o hT3
      have hcase : sn n.toNat = 0 ∨ sn n.toNat = 1 := hsn n.toNat
      refine x_aload_n (x_d C_M_walk 0 rfl) rfl ?_
      refine x_aload_n (x_d C_M_walk 1 rfl) rfl ?_
      refine x_invokevirtual (st := []) (av := [xC c]) (x_d C_M_walk 2 rfl) k_M_317 m_M_led v_M_led cl_M rfl rfl (Nat.le_of_ble_eq_true rfl) (by omega) rfl (c_M_led Z (d - 1) (x_up q 1364 fd) r (x_up (x_up A 50 sn) 51 nu) dy (by omega) po X E g P hgk cp bt tb lt tr sz fis fge fpl fva fch hp hsz rt us gn hus D9 h9 p c hT) ?_
      rintro v_ _ ⟨hv_, rfl⟩
      rw [← hn] at hv_
      obtain rfl : v_ = some (xC cr) := by rw [hv_]; rw [if_neg hneg, hv3]
      refine x_astore_n (l1 := [(3, xC cr), (0, xC 42), (1, xC c), (2, xI (e))]) (x_d C_M_walk 3 rfl) (by decide) rfl ?_
      refine x_aload_n (x_d C_M_walk 4 rfl) rfl ?_
      refine x_ifnullC (tgt := 37) (x_d C_M_walk 5 rfl) rfl ?_
      refine x_aload_n (x_d C_M_walk 6 rfl) rfl ?_
      refine x_getfield (v := xI (P 5 (rt n.toNat).toNat)) (x_d C_M_walk 7 rfl) f_M_261 (ct_get (hgk _ _ hcr) _ _ _) rfl ?_
      refine x_bipush (x_d C_M_walk 8 rfl) (by omega) ?_
      refine x_icmp_ne (tgt := 37) (x_d C_M_walk 9 rfl) rfl (fun c2 => ?_) (fun c2 => ?_)
      · refine x_iconst (x_d C_M_walk 19 rfl) ⟨by omega, by omega⟩ ?_
        refine x_ireturn (x_d C_M_walk 20 rfl) ?_
        exact ⟨sn, nu, fd, rfl, Or.inr ⟨rfl, rfl⟩⟩
      · refine x_aload_n (x_d C_M_walk 10 rfl) rfl ?_
        refine x_getfield (v := xC 50) (x_d C_M_walk 11 rfl) f_M_186 rfl rfl ?_
        refine x_aload_n (x_d C_M_walk 12 rfl) rfl ?_
        refine x_getfield (v := xI (n)) (x_d C_M_walk 13 rfl) f_M_95 (ct_get (hgk _ _ hcl) _ _ _) rfl ?_
        refine x_zaload (f := sn) (x_d C_M_walk 14 rfl) rfl (by omega) (by omega) ?_
        refine x_if_ne (tgt := 37) (x_d C_M_walk 15 rfl) rfl (fun c3 => ?_) (fun c3 => ?_)
        · refine x_iconst (x_d C_M_walk 19 rfl) ⟨by omega, by omega⟩ ?_
          refine x_ireturn (x_d C_M_walk 20 rfl) ?_
          exact ⟨sn, nu, fd, rfl, Or.inr ⟨rfl, rfl⟩⟩
        · refine x_iload_n (x_d C_M_walk 16 rfl) rfl ?_
          refine x_bipush (x_d C_M_walk 17 rfl) (by omega) ?_
          refine x_icmp_le (tgt := 39) (x_d C_M_walk 18 rfl) rfl (fun q => absurd q (by omega)) (fun _ => ?_)
          refine x_iconst (x_d C_M_walk 19 rfl) ⟨by omega, by omega⟩ ?_
          refine x_ireturn (x_d C_M_walk 20 rfl) ?_
          exact ⟨sn, nu, fd, rfl, Or.inr ⟨rfl, rfl⟩⟩
theorem c_M_walk_s (Z : xZ) (q : Nat → Int) (r : Nat → Option Nat) (A : Nat → Nat → Int) (dy : xH) (po : Option Nat) (X : Nat → Int) (E : Int) (g : Nat → Option xE) (P : Nat → Nat → Int) (hgk : gok g dy) (cp : Nat) (bt : Option Nat) (tb lt : Int) (tr : Option Nat) (sz : Int) (fis fge fpl : Nat → Int) (fva : Nat → Option Nat) (fch : Nat → Int) (hp : PB dy cp bt tb lt tr sz fis fge fpl fva fch) (hsz : 0 ≤ sz ∧ sz ≤ 300) (rt us gn : Nat → Int) (hus : ∀ k : Nat, (k : Int) < sz → (fis k = 2 ↔ ¬ us k = 0) ∧ gn k = fge k) (hva : ∀ k : Nat, (k : Int) < sz → ¬ us k = 0 → ∃ c2, fva k = some c2 ∧ Tr X E g P 9 (rt k) c2) (n2 : Int) (hE : E ≤ n2) (D : Nat) (hD : D + 1 ≤ 8) (hrec : VM Z q r A dy po cp X E g P rt gn us n2 sz D) : VM Z q r A dy po cp X E g P rt gn us n2 sz (D + 1) := by
  intro d sn nu fd L p e oc hd he hoc hpw
  refine xMet_of (by decide) (Nat.le_of_ble_eq_true rfl) (fun v0 h2 hq => by obtain ⟨_, _, _, _, ⟨e, _⟩ | ⟨e, _⟩⟩ := hq <;> rw [e]; exact Or.inr rfl; exact Or.inl rfl) ?_
  have hsn := hpw.2.2.2
  obtain ⟨n, hn⟩ : ∃ n, n = s_ldt (P 5) (P 6) (P 7) gn us sz p := ⟨_, rfl⟩
  have hn2 := s_ldt_in (P 5) (P 6) (P 7) gn us sz p
  rw [← hn] at hn2
  have hv0 : s_vis (P 5) (P 6) (P 7) (P 8) (P 9) X rt gn us n2 sz (D + 1) p sn L = if n < 0 ∨ ¬ P 5 (rt n.toNat).toNat = 7 ∨ ¬ sn n.toNat = 0 then none else s_vs1 (s_vis (P 5) (P 6) (P 7) (P 8) (P 9) X rt gn us n2 sz D) (P 5) (P 6) (P 7) (P 8) (P 9) X n2 (rt n.toNat) n sn L := by rw [hn]; rfl
  rcases hoc with ⟨rfl, hpn⟩ | ⟨c, D9, h9, rfl, hT⟩
  · have hnn : n < 0 := by rw [hn]; unfold s_ldt; rw [if_pos (Or.inl hpn)]; omega
    refine x_aload_n (x_d C_M_walk 0 rfl) rfl ?_
    refine x_aload_n (x_d C_M_walk 1 rfl) rfl ?_
    refine x_invokevirtual (st := []) (av := [xN]) (x_d C_M_walk 2 rfl) k_M_317 m_M_led v_M_led cl_M rfl rfl (Nat.le_of_ble_eq_true rfl) (by omega) rfl (c_M_ledN Z (d - 1) (x_up q 1364 fd) (x_up (x_up r 1350 (some cp)) 1351 po) (x_up (x_up A 50 sn) 51 nu) dy) ?_
    rintro v_ _ ⟨hv_, rfl⟩
    obtain rfl : v_ = some xN := hv_
    refine x_astore_n (l1 := [(3, xN), (0, xC 42), (1, xN), (2, xI (e))]) (x_d C_M_walk 3 rfl) (by decide) rfl ?_
    refine x_aload_n (x_d C_M_walk 4 rfl) rfl ?_
    refine x_ifnullN (tgt := 37) (x_d C_M_walk 5 rfl) rfl ?_
    refine x_iconst (x_d C_M_walk 19 rfl) ⟨by omega, by omega⟩ ?_
    refine x_ireturn (x_d C_M_walk 20 rfl) ?_
    refine ⟨sn, nu, fd, rfl, Or.inr ⟨rfl, ?_⟩⟩
    rw [hv0, if_pos (by omega)]
  · by_cases hneg : n < 0
    · refine x_aload_n (x_d C_M_walk 0 rfl) rfl ?_
      refine x_aload_n (x_d C_M_walk 1 rfl) rfl ?_
      refine x_invokevirtual (st := []) (av := [xC c]) (x_d C_M_walk 2 rfl) k_M_317 m_M_led v_M_led cl_M rfl rfl (Nat.le_of_ble_eq_true rfl) (by omega) rfl (c_M_led Z (d - 1) (x_up q 1364 fd) r (x_up (x_up A 50 sn) 51 nu) dy (by omega) po X E g P hgk cp bt tb lt tr sz fis fge fpl fva fch hp hsz rt us gn hus D9 h9 p c hT) ?_
      rintro v_ _ ⟨hv_, rfl⟩
      rw [← hn] at hv_
      obtain rfl : v_ = some (xN) := by rw [hv_]; rw [if_pos hneg]
      refine x_astore_n (l1 := [(3, xN), (0, xC 42), (1, xC c), (2, xI (e))]) (x_d C_M_walk 3 rfl) (by decide) rfl ?_
      refine x_aload_n (x_d C_M_walk 4 rfl) rfl ?_
      refine x_ifnullN (tgt := 37) (x_d C_M_walk 5 rfl) rfl ?_
      refine x_iconst (x_d C_M_walk 19 rfl) ⟨by omega, by omega⟩ ?_
      refine x_ireturn (x_d C_M_walk 20 rfl) ?_
      refine ⟨sn, nu, fd, rfl, Or.inr ⟨rfl, ?_⟩⟩
      rw [hv0, if_pos (by omega)]
    · have hn3 : 0 ≤ n ∧ n < sz ∧ ¬ us n.toNat = 0 := by rcases hn2 with z | z; omega; exact z
      obtain ⟨cr, hv3, hT3⟩ := hva n.toNat (by omega) hn3.2.2
      obtain ⟨hp0, x_l, y_l, m_l, b_l, i_l, n_l, hcl, hLl, -⟩ := Tr_o hT
      have h8 : P 5 p.toNat = 8 ∧ P 6 p.toNat = n := by
        unfold s_ldt at hn
        split at hn
        · omega
        · next z =>
          split at hn
          · exact ⟨by omega, hn.symm⟩
          · omega
      obtain ⟨hx1, hx2, -⟩ := hLl.2.2.1 h8.1
      rw [h8.2] at hx1
      rw [hx1, hx2] at hcl
      obtain ⟨_, x_r, y_r, m_r, b_r, i_r, n_r, hcr, -⟩ := Tr_o hT3
      have hcase : sn n.toNat = 0 ∨ sn n.toNat = 1 := hsn n.toNat
      refine x_aload_n (x_d C_M_walk 0 rfl) rfl ?_
      refine x_aload_n (x_d C_M_walk 1 rfl) rfl ?_
      refine x_invokevirtual (st := []) (av := [xC c]) (x_d C_M_walk 2 rfl) k_M_317 m_M_led v_M_led cl_M rfl rfl (Nat.le_of_ble_eq_true rfl) (by omega) rfl (c_M_led Z (d - 1) (x_up q 1364 fd) r (x_up (x_up A 50 sn) 51 nu) dy (by omega) po X E g P hgk cp bt tb lt tr sz fis fge fpl fva fch hp hsz rt us gn hus D9 h9 p c hT) ?_
      rintro v_ _ ⟨hv_, rfl⟩
      rw [← hn] at hv_
      obtain rfl : v_ = some (xC cr) := by rw [hv_]; rw [if_neg hneg, hv3]
      refine x_astore_n (l1 := [(3, xC cr), (0, xC 42), (1, xC c), (2, xI (e))]) (x_d C_M_walk 3 rfl) (by decide) rfl ?_
      refine x_aload_n (x_d C_M_walk 4 rfl) rfl ?_
      refine x_ifnullC (tgt := 37) (x_d C_M_walk 5 rfl) rfl ?_
      refine x_aload_n (x_d C_M_walk 6 rfl) rfl ?_
      refine x_getfield (v := xI (P 5 (rt n.toNat).toNat)) (x_d C_M_walk 7 rfl) f_M_261 (ct_get (hgk _ _ hcr) _ _ _) rfl ?_
      refine x_bipush (x_d C_M_walk 8 rfl) (by omega) ?_
      refine x_icmp_ne (tgt := 37) (x_d C_M_walk 9 rfl) rfl (fun c2 => ?_) (fun c2 => ?_)
      · refine x_iconst (x_d C_M_walk 19 rfl) ⟨by omega, by omega⟩ ?_
        refine x_ireturn (x_d C_M_walk 20 rfl) ?_
        refine ⟨sn, nu, fd, rfl, Or.inr ⟨rfl, ?_⟩⟩
        rw [hv0, if_pos (by omega)]
      · refine x_aload_n (x_d C_M_walk 10 rfl) rfl ?_
        refine x_getfield (v := xC 50) (x_d C_M_walk 11 rfl) f_M_186 rfl rfl ?_
        refine x_aload_n (x_d C_M_walk 12 rfl) rfl ?_
        refine x_getfield (v := xI (n)) (x_d C_M_walk 13 rfl) f_M_95 (ct_get (hgk _ _ hcl) _ _ _) rfl ?_
        refine x_zaload (f := sn) (x_d C_M_walk 14 rfl) rfl (by omega) (by omega) ?_
        refine x_if_ne (tgt := 37) (x_d C_M_walk 15 rfl) rfl (fun c3 => ?_) (fun c3 => ?_)
        · refine x_iconst (x_d C_M_walk 19 rfl) ⟨by omega, by omega⟩ ?_
          refine x_ireturn (x_d C_M_walk 20 rfl) ?_
          refine ⟨sn, nu, fd, rfl, Or.inr ⟨rfl, ?_⟩⟩
          rw [hv0, if_pos (by omega)]
        · refine x_iload_n (x_d C_M_walk 16 rfl) rfl ?_
          refine x_bipush (x_d C_M_walk 17 rfl) (by omega) ?_
          refine x_icmp_le (tgt := 39) (x_d C_M_walk 18 rfl) rfl (fun _ => ?_) (fun q => absurd q (by omega))
          refine x_aload_n (x_d C_M_walk 21 rfl) rfl ?_
          refine x_getfield (v := xC 50) (x_d C_M_walk 22 rfl) f_M_186 rfl rfl ?_
          refine x_aload_n (x_d C_M_walk 23 rfl) rfl ?_
          refine x_getfield (v := xI (n)) (x_d C_M_walk 24 rfl) f_M_95 (ct_get (hgk _ _ hcl) _ _ _) rfl ?_
          refine x_iconst (x_d C_M_walk 25 rfl) ⟨by omega, by omega⟩ ?_
          refine x_zastore (h1 := hF (x_up q 1364 fd) (x_up (x_up r 1350 (some cp)) 1351 po) (x_up (x_up A 50 (x_up sn (n).toNat 1)) 51 nu) ++ dy) (x_d C_M_walk 26 rfl) rfl (by omega) (by omega) (Or.inr rfl) rfl ?_
          have hpw1 := pw_seen hpw (n := n) (by omega) (by omega)
          have hfd := pw_room hpw (n := n) (by omega) (by omega)
          have hfd0 := hpw.1
          refine x_aload_n (x_d C_M_walk 27 rfl) rfl ?_
          refine x_ldcSw (i := 84) (x_d C_M_walk 28 rfl) rfl ?_
          refine x_invokevirtual (st := []) (av := [xS (169)]) (x_d C_M_walk 29 rfl) k_M_256 m_MQ_get2 v_MQ_get2 cl_MQ (ct_get (hgk _ _ hcr) _ _ _) rfl (Nat.le_of_ble_eq_true rfl) (by omega) rfl (t_get2 Z (d - 1) (hF (x_up q 1364 fd) (x_up (x_up r 1350 (some cp)) 1351 po) (x_up (x_up A 50 (x_up sn (n).toNat 1)) 51 nu) ++ dy) X E g P 8 (rt n.toNat) cr (gh_of hgk _ _ _) hT3 (by omega) (si := 84) rfl (by decide) (by decide) n2 hE) ?_
          rintro v_ h_ ⟨hh_, xty, hv_, hx_⟩
          rw [hh_]
          clear hh_
          obtain rfl := hv_
          obtain ⟨ty, hty⟩ : ∃ z, z = s_nam (P 8) (P 9) X n2 (rt n.toNat) [84, 121, 112, 101] := ⟨_, rfl⟩
          have hx_ : (ty = -1 ∧ xty = none) ∨ (0 ≤ ty ∧ ty ∈ s_in (P 8) (rt n.toNat) ∧ ∃ c2, xty = some c2 ∧ Tr X E g P 8 ty c2) := by rw [hty]; exact hx_
          rcases hx_ with ⟨hty0, rfl⟩ | ⟨hty0, htym, cty, rfl, hTty⟩
          · have hqty : ty < 0 := by omega
            refine x_astore (l1 := [(4, xN), (3, xC cr), (0, xC 42), (1, xC c), (2, xI (e))]) (x_d C_M_walk 30 rfl) (by decide) rfl ?_
            refine x_aload_n (x_d C_M_walk 31 rfl) rfl ?_
            refine x_ldcSw (i := 85) (x_d C_M_walk 32 rfl) rfl ?_
            refine x_invokevirtual (st := []) (av := [xS (171)]) (x_d C_M_walk 33 rfl) k_M_256 m_MQ_get2 v_MQ_get2 cl_MQ (ct_get (hgk _ _ hcr) _ _ _) rfl (Nat.le_of_ble_eq_true rfl) (by omega) rfl (t_get2 Z (d - 1) (hF (x_up q 1364 fd) (x_up (x_up r 1350 (some cp)) 1351 po) (x_up (x_up A 50 (x_up sn (n).toNat 1)) 51 nu) ++ dy) X E g P 8 (rt n.toNat) cr (gh_of hgk _ _ _) hT3 (by omega) (si := 85) rfl (by decide) (by decide) n2 hE) ?_
            rintro v_ h_ ⟨hh_, xkk, hv_, hx_⟩
            rw [hh_]
            clear hh_
            obtain rfl := hv_
            obtain ⟨kk, hkk⟩ : ∃ z, z = s_nam (P 8) (P 9) X n2 (rt n.toNat) [75, 105, 100, 115] := ⟨_, rfl⟩
            have hx_ : (kk = -1 ∧ xkk = none) ∨ (0 ≤ kk ∧ kk ∈ s_in (P 8) (rt n.toNat) ∧ ∃ c2, xkk = some c2 ∧ Tr X E g P 8 kk c2) := by rw [hkk]; exact hx_
            rcases hx_ with ⟨hkk0, rfl⟩ | ⟨hkk0, hkkm, ckk, rfl, hTkk⟩
            · have hqkk : kk < 0 := by omega
              refine x_astore (l1 := [(5, xN), (4, xN), (3, xC cr), (0, xC 42), (1, xC c), (2, xI (e))]) (x_d C_M_walk 34 rfl) (by decide) rfl ?_
              refine x_aload (x_d C_M_walk 35 rfl) rfl ?_
              refine x_ifnullN (tgt := 108) (x_d C_M_walk 36 rfl) rfl ?_
              refine x_aload (x_d C_M_walk 56 rfl) rfl ?_
              refine x_ifnullN (tgt := 139) (x_d C_M_walk 57 rfl) rfl ?_
              refine x_iconst (x_d C_M_walk 68 rfl) ⟨by omega, by omega⟩ ?_
              refine x_ireturn (x_d C_M_walk 69 rfl) ?_
              rw [if_neg (by omega)] at hv0
              unfold s_vs1 at hv0
              rw [← hty] at hv0
              rw [s_isN_neg hqty, s_isN_neg hqty, if_neg (by decide), if_neg (by decide)] at hv0
              exact ⟨_, _, _, rfl, Or.inr ⟨rfl, hv0⟩⟩
            · obtain ⟨_, x_kk, y_kk, m_kk, b_kk, i_kk, n_kk, hckk, hLkk, hmkk, h60kk, hchkk, hKkk⟩ := Tr_o hTkk
              refine x_astore (l1 := [(5, xC ckk), (4, xN), (3, xC cr), (0, xC 42), (1, xC c), (2, xI (e))]) (x_d C_M_walk 34 rfl) (by decide) rfl ?_
              refine x_aload (x_d C_M_walk 35 rfl) rfl ?_
              refine x_ifnullN (tgt := 108) (x_d C_M_walk 36 rfl) rfl ?_
              refine x_aload (x_d C_M_walk 56 rfl) rfl ?_
              refine x_ifnullN (tgt := 139) (x_d C_M_walk 57 rfl) rfl ?_
              refine x_iconst (x_d C_M_walk 68 rfl) ⟨by omega, by omega⟩ ?_
              refine x_ireturn (x_d C_M_walk 69 rfl) ?_
              rw [if_neg (by omega)] at hv0
              unfold s_vs1 at hv0
              rw [← hty] at hv0
              rw [s_isN_neg hqty, s_isN_neg hqty, if_neg (by decide), if_neg (by decide)] at hv0
              exact ⟨_, _, _, rfl, Or.inr ⟨rfl, hv0⟩⟩
          · obtain ⟨_, x_ty, y_ty, m_ty, b_ty, i_ty, n_ty, hcty, hLty, hmty, h60ty, hchty, hKty⟩ := Tr_o hTty
            refine x_astore (l1 := [(4, xC cty), (3, xC cr), (0, xC 42), (1, xC c), (2, xI (e))]) (x_d C_M_walk 30 rfl) (by decide) rfl ?_
            refine x_aload_n (x_d C_M_walk 31 rfl) rfl ?_
            refine x_ldcSw (i := 85) (x_d C_M_walk 32 rfl) rfl ?_
            refine x_invokevirtual (st := []) (av := [xS (171)]) (x_d C_M_walk 33 rfl) k_M_256 m_MQ_get2 v_MQ_get2 cl_MQ (ct_get (hgk _ _ hcr) _ _ _) rfl (Nat.le_of_ble_eq_true rfl) (by omega) rfl (t_get2 Z (d - 1) (hF (x_up q 1364 fd) (x_up (x_up r 1350 (some cp)) 1351 po) (x_up (x_up A 50 (x_up sn (n).toNat 1)) 51 nu) ++ dy) X E g P 8 (rt n.toNat) cr (gh_of hgk _ _ _) hT3 (by omega) (si := 85) rfl (by decide) (by decide) n2 hE) ?_
            rintro v_ h_ ⟨hh_, xkk, hv_, hx_⟩
            rw [hh_]
            clear hh_
            obtain rfl := hv_
            obtain ⟨kk, hkk⟩ : ∃ z, z = s_nam (P 8) (P 9) X n2 (rt n.toNat) [75, 105, 100, 115] := ⟨_, rfl⟩
            have hx_ : (kk = -1 ∧ xkk = none) ∨ (0 ≤ kk ∧ kk ∈ s_in (P 8) (rt n.toNat) ∧ ∃ c2, xkk = some c2 ∧ Tr X E g P 8 kk c2) := by rw [hkk]; exact hx_
            rcases hx_ with ⟨hkk0, rfl⟩ | ⟨hkk0, hkkm, ckk, rfl, hTkk⟩
            · have hqkk : kk < 0 := by omega
              refine x_astore (l1 := [(5, xN), (4, xC cty), (3, xC cr), (0, xC 42), (1, xC c), (2, xI (e))]) (x_d C_M_walk 34 rfl) (by decide) rfl ?_
              refine x_aload (x_d C_M_walk 35 rfl) rfl ?_
              refine x_ifnullC (tgt := 108) (x_d C_M_walk 36 rfl) rfl ?_
              refine x_aload (x_d C_M_walk 37 rfl) rfl ?_
              refine x_ldcSw (i := 86) (x_d C_M_walk 38 rfl) rfl ?_
              refine x_invokevirtual (st := []) (av := [xS (173)]) (x_d C_M_walk 39 rfl) k_M_342 m_MQ_isName v_MQ_isName cl_MQ (ct_get (hgk _ _ hcty) _ _ _) rfl (Nat.le_of_ble_eq_true rfl) (by omega) rfl (t_isName Z (d - 1) (hF (x_up q 1364 fd) (x_up (x_up r 1350 (some cp)) 1351 po) (x_up (x_up A 50 (x_up sn (n).toNat 1)) 51 nu) ++ dy) X E g P 7 ty cty (gh_of hgk _ _ _) hTty (by omega) (si := 86) rfl (by decide) n2 hE) ?_
              rintro v_ h_ ⟨hv_, hh_⟩
              rw [hh_]
              clear hh_
              obtain ⟨z10, rfl, hz10⟩ : ∃ z : Int, v_ = some (xI z) ∧ ((z = 1 ∧ s_isN (P 5) (P 6) (P 7) X n2 ty [80, 97, 103, 101] = true) ∨ (z = 0 ∧ s_isN (P 5) (P 6) (P 7) X n2 ty [80, 97, 103, 101] = false)) := by
                have he_ : v_ = some (xI (x_bo (s_isN (P 5) (P 6) (P 7) X n2 ty [80, 97, 103, 101]))) := by
                  rw [hv_]
                  unfold s_isN
                  rw [decide_eq_decide.mpr (show (0 ≤ ty ∧ _) ↔ _ from ⟨fun z => z.2, fun z => ⟨hty0, z⟩⟩)]
                cases hb_ : s_isN (P 5) (P 6) (P 7) X n2 ty [80, 97, 103, 101] with
                | true => exact ⟨1, by rw [he_, hb_]; rfl, Or.inl ⟨rfl, rfl⟩⟩
                | false => exact ⟨0, by rw [he_, hb_]; rfl, Or.inr ⟨rfl, rfl⟩⟩
              refine x_if_eq (tgt := 108) (x_d C_M_walk 40 rfl) rfl (fun c11 => ?_) (fun c11 => ?_)
              · refine x_aload (x_d C_M_walk 56 rfl) rfl ?_
                refine x_ifnullC (tgt := 139) (x_d C_M_walk 57 rfl) rfl ?_
                refine x_aload (x_d C_M_walk 58 rfl) rfl ?_
                refine x_ldcSw (i := 83) (x_d C_M_walk 59 rfl) rfl ?_
                refine x_invokevirtual (st := []) (av := [xS (167)]) (x_d C_M_walk 60 rfl) k_M_342 m_MQ_isName v_MQ_isName cl_MQ (ct_get (hgk _ _ hcty) _ _ _) rfl (Nat.le_of_ble_eq_true rfl) (by omega) rfl (t_isName Z (d - 1) (hF (x_up q 1364 fd) (x_up (x_up r 1350 (some cp)) 1351 po) (x_up (x_up A 50 (x_up sn (n).toNat 1)) 51 nu) ++ dy) X E g P 7 ty cty (gh_of hgk _ _ _) hTty (by omega) (si := 83) rfl (by decide) n2 hE) ?_
                rintro v_ h_ ⟨hv_, hh_⟩
                rw [hh_]
                clear hh_
                obtain ⟨z13, rfl, hz13⟩ : ∃ z : Int, v_ = some (xI z) ∧ ((z = 1 ∧ s_isN (P 5) (P 6) (P 7) X n2 ty [80, 97, 103, 101, 115] = true) ∨ (z = 0 ∧ s_isN (P 5) (P 6) (P 7) X n2 ty [80, 97, 103, 101, 115] = false)) := by
                  have he_ : v_ = some (xI (x_bo (s_isN (P 5) (P 6) (P 7) X n2 ty [80, 97, 103, 101, 115]))) := by
                    rw [hv_]
                    unfold s_isN
                    rw [decide_eq_decide.mpr (show (0 ≤ ty ∧ _) ↔ _ from ⟨fun z => z.2, fun z => ⟨hty0, z⟩⟩)]
                  cases hb_ : s_isN (P 5) (P 6) (P 7) X n2 ty [80, 97, 103, 101, 115] with
                  | true => exact ⟨1, by rw [he_, hb_]; rfl, Or.inl ⟨rfl, rfl⟩⟩
                  | false => exact ⟨0, by rw [he_, hb_]; rfl, Or.inr ⟨rfl, rfl⟩⟩
                refine x_if_eq (tgt := 139) (x_d C_M_walk 61 rfl) rfl (fun c14 => ?_) (fun c14 => ?_)
                · refine x_iconst (x_d C_M_walk 68 rfl) ⟨by omega, by omega⟩ ?_
                  refine x_ireturn (x_d C_M_walk 69 rfl) ?_
                  rw [if_neg (by omega)] at hv0
                  unfold s_vs1 at hv0
                  rw [← hty] at hv0
                  rw [if_neg (by rcases hz10 with z | z; omega; rw [z.2]; decide)] at hv0
                  refine ⟨_, _, _, rfl, Or.inr ⟨rfl, ?_⟩⟩
                  rw [hv0]
                  rcases hz13 with ⟨z1, z2⟩ | ⟨z1, z2⟩
                  · rw [if_pos z2, ← hkk]
                    first | (unfold s_kds; rw [if_pos (by omega)]) | (exfalso; omega)
                  · rw [if_neg (by rw [z2]; decide)]
                · refine x_aload (x_d C_M_walk 62 rfl) rfl ?_
                  refine x_ifnullN (tgt := 139) (x_d C_M_walk 63 rfl) rfl ?_
                  refine x_iconst (x_d C_M_walk 68 rfl) ⟨by omega, by omega⟩ ?_
                  refine x_ireturn (x_d C_M_walk 69 rfl) ?_
                  rw [if_neg (by omega)] at hv0
                  unfold s_vs1 at hv0
                  rw [← hty] at hv0
                  rw [if_neg (by rcases hz10 with z | z; omega; rw [z.2]; decide)] at hv0
                  refine ⟨_, _, _, rfl, Or.inr ⟨rfl, ?_⟩⟩
                  rw [hv0]
                  rcases hz13 with ⟨z1, z2⟩ | ⟨z1, z2⟩
                  · rw [if_pos z2, ← hkk]
                    first | (unfold s_kds; rw [if_pos (by omega)]) | (exfalso; omega)
                  · rw [if_neg (by rw [z2]; decide)]
              · refine x_aload_n (x_d C_M_walk 41 rfl) rfl ?_
                refine x_getfield (v := xC 51) (x_d C_M_walk 42 rfl) f_M_190 rfl rfl ?_
                refine x_aload_n (x_d C_M_walk 43 rfl) rfl ?_
                refine x_getfield (v := xI (fd)) (x_d C_M_walk 44 rfl) f_M_443 rfl rfl ?_
                refine x_aload_n (x_d C_M_walk 45 rfl) rfl ?_
                refine x_getfield (v := xI (n)) (x_d C_M_walk 46 rfl) f_M_95 (ct_get (hgk _ _ hcl) _ _ _) rfl ?_
                refine x_iastore (h1 := hF (x_up q 1364 fd) (x_up (x_up r 1350 (some cp)) 1351 po) (x_up (x_up A 50 (x_up sn (n).toNat 1)) 51 (x_up nu (fd).toNat n)) ++ dy) (x_d C_M_walk 47 rfl) rfl (by omega) (by omega) rfl ?_
                refine x_aload_n (x_d C_M_walk 48 rfl) rfl ?_
                refine x_dup (x_d C_M_walk 49 rfl) rfl ?_
                refine x_getfield (v := xI (fd)) (x_d C_M_walk 50 rfl) f_M_443 rfl rfl ?_
                refine x_iconst (x_d C_M_walk 51 rfl) ⟨by omega, by omega⟩ ?_
                refine x_iadd (x_d C_M_walk 52 rfl) ⟨by omega, by omega⟩ ?_
                refine x_putfield (h1 := hF (x_up q 1364 (fd + 1)) (x_up (x_up r 1350 (some cp)) 1351 po) (x_up (x_up A 50 (x_up sn (n).toNat 1)) 51 (x_up nu (fd).toNat n)) ++ dy) (x_d C_M_walk 53 rfl) p_M_443 rfl rfl rfl trivial rfl ?_
                refine x_iconst (x_d C_M_walk 54 rfl) ⟨by omega, by omega⟩ ?_
                refine x_ireturn (x_d C_M_walk 55 rfl) ?_
                rw [if_neg (by omega)] at hv0
                unfold s_vs1 at hv0
                rw [← hty] at hv0
                rw [if_pos (by rcases hz10 with z | z; exact z.2; omega)] at hv0
                exact ⟨_, _, _, rfl, Or.inl ⟨rfl, _, hv0, pw_page hpw (by omega) (by omega)⟩⟩
            · obtain ⟨_, x_kk, y_kk, m_kk, b_kk, i_kk, n_kk, hckk, hLkk, hmkk, h60kk, hchkk, hKkk⟩ := Tr_o hTkk
              refine x_astore (l1 := [(5, xC ckk), (4, xC cty), (3, xC cr), (0, xC 42), (1, xC c), (2, xI (e))]) (x_d C_M_walk 34 rfl) (by decide) rfl ?_
              refine x_aload (x_d C_M_walk 35 rfl) rfl ?_
              refine x_ifnullC (tgt := 108) (x_d C_M_walk 36 rfl) rfl ?_
              refine x_aload (x_d C_M_walk 37 rfl) rfl ?_
              refine x_ldcSw (i := 86) (x_d C_M_walk 38 rfl) rfl ?_
              refine x_invokevirtual (st := []) (av := [xS (173)]) (x_d C_M_walk 39 rfl) k_M_342 m_MQ_isName v_MQ_isName cl_MQ (ct_get (hgk _ _ hcty) _ _ _) rfl (Nat.le_of_ble_eq_true rfl) (by omega) rfl (t_isName Z (d - 1) (hF (x_up q 1364 fd) (x_up (x_up r 1350 (some cp)) 1351 po) (x_up (x_up A 50 (x_up sn (n).toNat 1)) 51 nu) ++ dy) X E g P 7 ty cty (gh_of hgk _ _ _) hTty (by omega) (si := 86) rfl (by decide) n2 hE) ?_
              rintro v_ h_ ⟨hv_, hh_⟩
              rw [hh_]
              clear hh_
              obtain ⟨z17, rfl, hz17⟩ : ∃ z : Int, v_ = some (xI z) ∧ ((z = 1 ∧ s_isN (P 5) (P 6) (P 7) X n2 ty [80, 97, 103, 101] = true) ∨ (z = 0 ∧ s_isN (P 5) (P 6) (P 7) X n2 ty [80, 97, 103, 101] = false)) := by
                have he_ : v_ = some (xI (x_bo (s_isN (P 5) (P 6) (P 7) X n2 ty [80, 97, 103, 101]))) := by
                  rw [hv_]
                  unfold s_isN
                  rw [decide_eq_decide.mpr (show (0 ≤ ty ∧ _) ↔ _ from ⟨fun z => z.2, fun z => ⟨hty0, z⟩⟩)]
                cases hb_ : s_isN (P 5) (P 6) (P 7) X n2 ty [80, 97, 103, 101] with
                | true => exact ⟨1, by rw [he_, hb_]; rfl, Or.inl ⟨rfl, rfl⟩⟩
                | false => exact ⟨0, by rw [he_, hb_]; rfl, Or.inr ⟨rfl, rfl⟩⟩
              refine x_if_eq (tgt := 108) (x_d C_M_walk 40 rfl) rfl (fun c18 => ?_) (fun c18 => ?_)
              · refine x_aload (x_d C_M_walk 56 rfl) rfl ?_
                refine x_ifnullC (tgt := 139) (x_d C_M_walk 57 rfl) rfl ?_
                refine x_aload (x_d C_M_walk 58 rfl) rfl ?_
                refine x_ldcSw (i := 83) (x_d C_M_walk 59 rfl) rfl ?_
                refine x_invokevirtual (st := []) (av := [xS (167)]) (x_d C_M_walk 60 rfl) k_M_342 m_MQ_isName v_MQ_isName cl_MQ (ct_get (hgk _ _ hcty) _ _ _) rfl (Nat.le_of_ble_eq_true rfl) (by omega) rfl (t_isName Z (d - 1) (hF (x_up q 1364 fd) (x_up (x_up r 1350 (some cp)) 1351 po) (x_up (x_up A 50 (x_up sn (n).toNat 1)) 51 nu) ++ dy) X E g P 7 ty cty (gh_of hgk _ _ _) hTty (by omega) (si := 83) rfl (by decide) n2 hE) ?_
                rintro v_ h_ ⟨hv_, hh_⟩
                rw [hh_]
                clear hh_
                obtain ⟨z20, rfl, hz20⟩ : ∃ z : Int, v_ = some (xI z) ∧ ((z = 1 ∧ s_isN (P 5) (P 6) (P 7) X n2 ty [80, 97, 103, 101, 115] = true) ∨ (z = 0 ∧ s_isN (P 5) (P 6) (P 7) X n2 ty [80, 97, 103, 101, 115] = false)) := by
                  have he_ : v_ = some (xI (x_bo (s_isN (P 5) (P 6) (P 7) X n2 ty [80, 97, 103, 101, 115]))) := by
                    rw [hv_]
                    unfold s_isN
                    rw [decide_eq_decide.mpr (show (0 ≤ ty ∧ _) ↔ _ from ⟨fun z => z.2, fun z => ⟨hty0, z⟩⟩)]
                  cases hb_ : s_isN (P 5) (P 6) (P 7) X n2 ty [80, 97, 103, 101, 115] with
                  | true => exact ⟨1, by rw [he_, hb_]; rfl, Or.inl ⟨rfl, rfl⟩⟩
                  | false => exact ⟨0, by rw [he_, hb_]; rfl, Or.inr ⟨rfl, rfl⟩⟩
                refine x_if_eq (tgt := 139) (x_d C_M_walk 61 rfl) rfl (fun c21 => ?_) (fun c21 => ?_)
                · refine x_iconst (x_d C_M_walk 68 rfl) ⟨by omega, by omega⟩ ?_
                  refine x_ireturn (x_d C_M_walk 69 rfl) ?_
                  rw [if_neg (by omega)] at hv0
                  unfold s_vs1 at hv0
                  rw [← hty] at hv0
                  rw [if_neg (by rcases hz17 with z | z; omega; rw [z.2]; decide)] at hv0
                  refine ⟨_, _, _, rfl, Or.inr ⟨rfl, ?_⟩⟩
                  rw [hv0]
                  rcases hz20 with ⟨z1, z2⟩ | ⟨z1, z2⟩
                  · rw [if_pos z2, ← hkk]
                    first | (unfold s_kds; rw [if_pos (by omega)]) | (exfalso; omega)
                  · rw [if_neg (by rw [z2]; decide)]
                · refine x_aload (x_d C_M_walk 62 rfl) rfl ?_
                  refine x_ifnullC (tgt := 139) (x_d C_M_walk 63 rfl) rfl ?_
                  refine x_aload (x_d C_M_walk 64 rfl) rfl ?_
                  refine x_getfield (v := xI (P 5 kk.toNat)) (x_d C_M_walk 65 rfl) f_M_261 (ct_get (hgk _ _ hckk) _ _ _) rfl ?_
                  refine x_bipush (x_d C_M_walk 66 rfl) (by omega) ?_
                  refine x_icmp_eq (tgt := 141) (x_d C_M_walk 67 rfl) rfl (fun c23 => ?_) (fun c23 => ?_)
                  · refine x_iconst (x_d C_M_walk 70 rfl) ⟨by omega, by omega⟩ ?_
                    refine x_istore (l1 := [(6, xI (0)), (5, xC ckk), (4, xC cty), (3, xC cr), (0, xC 42), (1, xC c), (2, xI (e))]) (x_d C_M_walk 71 rfl) (by decide) rfl ?_
                    refine x_locs [4, 6, 1, 0] rfl ?_
                    rw [if_neg (by omega)] at hv0
                    unfold s_vs1 at hv0
                    rw [← hty, if_neg (by rcases hz17 with z | z; omega; rw [z.2]; decide), if_pos (by rcases hz20 with z | z; exact z.2; omega), ← hkk] at hv0
                    unfold s_kds at hv0
                    rw [if_neg (by omega)] at hv0
                    rw [hv0]
                    have hKk := hKkk
                    obtain ⟨Lk, k1, k2, k3, k4, -⟩ := hKk
                    obtain ⟨ci, cap, fi, hi_, e2, e3, e4, e5⟩ := k4 (by clear k4; omega)
                    have hLk : s_in (P 8) kk = Lk := by unfold s_in; exact s_ch_K k1
                    rw [hLk]
                    subst hi_
                    exact w_M_walk_144 Z d q r A dy D (by omega) po X E g P hgk cp rt gn us n2 sz e (by omega) (by omega) hrec xN xN xN ckk ci cap _ x_kk y_kk m_kk b_kk n_kk fi Lk (hgk _ _ hckk) (hgk _ _ e2) ⟨k2, e3, k3⟩ (fun k hk9 => by obtain ⟨c9, g1, g2⟩ := e5 k hk9; exact ⟨c9, 6, by omega, g1, g2⟩) Lk.length 0 _ _ _ _ (by omega) hpw1
                  · refine x_iconst (x_d C_M_walk 68 rfl) ⟨by omega, by omega⟩ ?_
                    refine x_ireturn (x_d C_M_walk 69 rfl) ?_
                    rw [if_neg (by omega)] at hv0
                    unfold s_vs1 at hv0
                    rw [← hty] at hv0
                    rw [if_neg (by rcases hz17 with z | z; omega; rw [z.2]; decide)] at hv0
                    refine ⟨_, _, _, rfl, Or.inr ⟨rfl, ?_⟩⟩
                    rw [hv0]
                    rcases hz20 with ⟨z1, z2⟩ | ⟨z1, z2⟩
                    · rw [if_pos z2, ← hkk]
                      first | (unfold s_kds; rw [if_pos (by omega)]) | (exfalso; omega)
                    · rw [if_neg (by rw [z2]; decide)]
              · refine x_aload_n (x_d C_M_walk 41 rfl) rfl ?_
                refine x_getfield (v := xC 51) (x_d C_M_walk 42 rfl) f_M_190 rfl rfl ?_
                refine x_aload_n (x_d C_M_walk 43 rfl) rfl ?_
                refine x_getfield (v := xI (fd)) (x_d C_M_walk 44 rfl) f_M_443 rfl rfl ?_
                refine x_aload_n (x_d C_M_walk 45 rfl) rfl ?_
                refine x_getfield (v := xI (n)) (x_d C_M_walk 46 rfl) f_M_95 (ct_get (hgk _ _ hcl) _ _ _) rfl ?_
                refine x_iastore (h1 := hF (x_up q 1364 fd) (x_up (x_up r 1350 (some cp)) 1351 po) (x_up (x_up A 50 (x_up sn (n).toNat 1)) 51 (x_up nu (fd).toNat n)) ++ dy) (x_d C_M_walk 47 rfl) rfl (by omega) (by omega) rfl ?_
                refine x_aload_n (x_d C_M_walk 48 rfl) rfl ?_
                refine x_dup (x_d C_M_walk 49 rfl) rfl ?_
                refine x_getfield (v := xI (fd)) (x_d C_M_walk 50 rfl) f_M_443 rfl rfl ?_
                refine x_iconst (x_d C_M_walk 51 rfl) ⟨by omega, by omega⟩ ?_
                refine x_iadd (x_d C_M_walk 52 rfl) ⟨by omega, by omega⟩ ?_
                refine x_putfield (h1 := hF (x_up q 1364 (fd + 1)) (x_up (x_up r 1350 (some cp)) 1351 po) (x_up (x_up A 50 (x_up sn (n).toNat 1)) 51 (x_up nu (fd).toNat n)) ++ dy) (x_d C_M_walk 53 rfl) p_M_443 rfl rfl rfl trivial rfl ?_
                refine x_iconst (x_d C_M_walk 54 rfl) ⟨by omega, by omega⟩ ?_
                refine x_ireturn (x_d C_M_walk 55 rfl) ?_
                rw [if_neg (by omega)] at hv0
                unfold s_vs1 at hv0
                rw [← hty] at hv0
                rw [if_pos (by rcases hz17 with z | z; exact z.2; omega)] at hv0
                exact ⟨_, _, _, rfl, Or.inl ⟨rfl, _, hv0, pw_page hpw (by omega) (by omega)⟩⟩
theorem c_M_walk (Z : xZ) (q : Nat → Int) (r : Nat → Option Nat) (A : Nat → Nat → Int) (dy : xH) (po : Option Nat) (X : Nat → Int) (E : Int) (g : Nat → Option xE) (P : Nat → Nat → Int) (hgk : gok g dy) (cp : Nat) (bt : Option Nat) (tb lt : Int) (tr : Option Nat) (sz : Int) (fis fge fpl : Nat → Int) (fva : Nat → Option Nat) (fch : Nat → Int) (hp : PB dy cp bt tb lt tr sz fis fge fpl fva fch) (hsz : 0 ≤ sz ∧ sz ≤ 300) (rt us gn : Nat → Int) (hus : ∀ k : Nat, (k : Int) < sz → (fis k = 2 ↔ ¬ us k = 0) ∧ gn k = fge k) (hva : ∀ k : Nat, (k : Int) < sz → ¬ us k = 0 → ∃ c2, fva k = some c2 ∧ Tr X E g P 9 (rt k) c2) (n2 : Int) (hE : E ≤ n2) : ∀ D : Nat, D ≤ 8 → VM Z q r A dy po cp X E g P rt gn us n2 sz D
  | 0, _ => c_M_walk_0 Z q r A dy po X E g P hgk cp bt tb lt tr sz fis fge fpl fva fch hp hsz rt us gn hus hva n2 hE
  | D + 1, h => c_M_walk_s Z q r A dy po X E g P hgk cp bt tb lt tr sz fis fge fpl fva fch hp hsz rt us gn hus hva n2 hE D h (c_M_walk Z q r A dy po X E g P hgk cp bt tb lt tr sz fis fge fpl fva fch hp hsz rt us gn hus hva n2 hE D (by omega))
