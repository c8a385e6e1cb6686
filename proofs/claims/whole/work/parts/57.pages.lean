/-! the walk through the pages -/
/-- the pages: what was seen, the numbers found -/
abbrev pgs := (Nat → Int) × List Int
def s_vks (F : Int → (Nat → Int) → List Int → Option pgs) : List Int → (Nat → Int) → List Int → Option pgs
  | [], sn, L => some (sn, L)
  | x :: xs, sn, L => (F x sn L).bind (fun y => s_vks F xs y.1 y.2)
def s_kds (F : Int → (Nat → Int) → List Int → Option pgs) (kd sp : Nat → Int) (k : Int) (sn : Nat → Int) (L : List Int) : Option pgs := if k < 0 ∨ ¬ kd k.toNat = 6 then none else s_vks F (s_in sp k) sn L
def s_vs1 (F : Int → (Nat → Int) → List Int → Option pgs) (kd one two sp nm b : Nat → Int) (n p : Int) (k : Int) (sn : Nat → Int) (L : List Int) : Option pgs := if s_isN kd one two b n (s_nam sp nm b n p [84, 121, 112, 101]) [80, 97, 103, 101] = true then some (x_up sn k.toNat 1, L ++ [k]) else if s_isN kd one two b n (s_nam sp nm b n p [84, 121, 112, 101]) [80, 97, 103, 101, 115] = true then s_kds F kd sp (s_nam sp nm b n p [75, 105, 100, 115]) (x_up sn k.toNat 1) L else none
def s_vis (kd one two sp nm b root gen us : Nat → Int) (n sz : Int) : Nat → Int → (Nat → Int) → List Int → Option pgs
  | 0, _, _, _ => none
  | D + 1, p, sn, L => if s_ldt kd one two gen us sz p < 0 ∨ ¬ kd (root (s_ldt kd one two gen us sz p).toNat).toNat = 7 ∨ ¬ sn (s_ldt kd one two gen us sz p).toNat = 0 then none else s_vs1 (s_vis kd one two sp nm b root gen us n sz D) kd one two sp nm b n (root (s_ldt kd one two gen us sz p).toNat) (s_ldt kd one two gen us sz p) sn L
def s_pgs (kd one two sp nm b root gen us : Nat → Int) (n sz tr : Int) : Option (List Int) := if s_ldt kd one two gen us sz (s_nam sp nm b n tr [82, 111, 111, 116]) < 0 ∨ ¬ kd (root (s_ldt kd one two gen us sz (s_nam sp nm b n tr [82, 111, 111, 116])).toNat).toNat = 7 then none else (s_vis kd one two sp nm b root gen us n sz 8 (s_nam sp nm b n (root (s_ldt kd one two gen us sz (s_nam sp nm b n tr [82, 111, 111, 116])).toNat) [80, 97, 103, 101, 115]) (fun _ => 0) []).map Prod.snd
/-- what the walk keeps -/
def pw (sn nu : Nat → Int) (fd : Int) (L : List Int) : Prop := fd = L.length ∧ (∀ k, k < L.length → nu k = L.getD k 0) ∧ fd ≤ s_sm sn 300 ∧ ∀ k, sn k = 0 ∨ sn k = 1
theorem s_sm_up {f : Nat → Int} {k : Nat} {x : Int} : ∀ {n : Nat}, k < n → s_sm (x_up f k x) n = s_sm f n + (x - f k)
  | 0, h => absurd h (Nat.not_lt_zero _)
  | n + 1, h => by
    show s_sm (x_up f k x) n + x_up f k x n = s_sm f n + f n + (x - f k)
    by_cases e : k = n
    · rw [← e, x_up_s, s_sm_cong (f := x_up f k x) (g := f) k (fun j hj => x_up_n _ _ (by omega))]; omega
    · rw [s_sm_up (by omega), x_up_n _ _ (by omega)]; omega
theorem pw_room {sn nu : Nat → Int} {fd : Int} {L : List Int} {n : Int} (h : pw sn nu fd L) (hn : 0 ≤ n ∧ n < 300) (h0 : sn n.toNat = 0) : fd < 300 := by
  have h1 := s_sm_up (f := sn) (k := n.toNat) (x := 1) (n := 300) (by omega)
  have h2 := s_sm_in (f := x_up sn n.toNat 1) (m := 1) (fun k => by
    unfold x_up
    split
    · omega
    · have := h.2.2.2 k; omega) 300
  have h3 := h.2.2.1
  omega
theorem pw_seen {sn nu : Nat → Int} {fd : Int} {L : List Int} {n : Int} (h : pw sn nu fd L) (hn : 0 ≤ n ∧ n < 300) (h0 : sn n.toNat = 0) : pw (x_up sn n.toNat 1) nu fd L := by
  have h1 := s_sm_up (f := sn) (k := n.toNat) (x := 1) (n := 300) (by omega)
  have h3 := h.2.2.1
  exact ⟨h.1, h.2.1, by omega, fun k => by unfold x_up; split; exact Or.inr rfl; exact h.2.2.2 k⟩
theorem pw_page {sn nu : Nat → Int} {fd : Int} {L : List Int} {n : Int} (h : pw sn nu fd L) (hn : 0 ≤ n ∧ n < 300) (h0 : sn n.toNat = 0) : pw (x_up sn n.toNat 1) (x_up nu fd.toNat n) (fd + 1) (L ++ [n]) := by
  have h1 := s_sm_up (f := sn) (k := n.toNat) (x := 1) (n := 300) (by omega)
  have h3 := h.2.2.1
  have h4 := h.1
  refine ⟨by rw [List.length_append]; show _ = ((L.length + 1 : Nat) : Int); omega, fun k hk => ?_, by omega, fun k => by unfold x_up; split; exact Or.inr rfl; exact h.2.2.2 k⟩
  rw [s_getD_app]
  rw [List.length_append] at hk
  have hk : k < L.length + 1 := hk
  split
  · next c => rw [x_up_n _ _ (by omega)]; exact h.2.1 k c
  · next c =>
    have e : k = fd.toNat := by omega
    rw [e, x_up_s, show fd.toNat - L.length = 0 by omega]
    rfl
/-- what is asked of a visit at the depth that leaves D -/
def VD (Z : xZ) (q : Nat → Int) (r : Nat → Option Nat) (A : Nat → Nat → Int) (dy : xH) (D : Nat) : Prop := ∀ (d : Nat) (sn nu : Nat → Int) (fd : Int) (L : List Int) (p e : Int), 2 * D + 8 ≤ d → e = 9 - (D : Int) → p < 12900 → pw sn nu fd L → xMet Z d Y_PW_visit [xC 23, xI p, xI e] (hF (x_up q 737 fd) (x_up r 740 (some 26)) (x_up (x_up A 24 nu) 25 sn) ++ dy) (fun v0 h2 => ∃ sn2 nu2 fd2, h2 = hF (x_up q 737 fd2) (x_up r 740 (some 26)) (x_up (x_up A 24 nu2) 25 sn2) ++ dy ∧ ((v0 = some (xI 1) ∧ ∃ L2, s_vis (A 5) (A 6) (A 7) (A 8) (A 9) (A 2) (A 27) (A 28) (A 29) (q 35) (q 837) D p sn L = some (sn2, L2) ∧ pw sn2 nu2 fd2 L2) ∨ (v0 = some (xI 0) ∧ s_vis (A 5) (A 6) (A 7) (A 8) (A 9) (A 2) (A 27) (A 28) (A 29) (q 35) (q 837) D p sn L = none)))
theorem c_PW_isDict (Z : xZ) (d : Nat) (q : Nat → Int) (r : Nat → Option Nat) (A : Nat → Nat → Int) (dy : xH) (n : Int) (hn : n < 300) (hr : 0 ≤ n → 0 ≤ A 27 n.toNat ∧ A 27 n.toNat < 12900) : xMet Z d Y_PW_isDict [xC 23, xI n] (hF q (x_up r 740 (some 26)) A ++ dy) (fun v h2 => v = some (xI (x_bo (decide (0 ≤ n ∧ A 5 (A 27 n.toNat).toNat = 7)))) ∧ h2 = hF q (x_up r 740 (some 26)) A ++ dy) := by
  refine xMet_of (by decide) (Nat.le_of_ble_eq_true rfl) (fun v h2 hq => by rw [hq.1]; exact x_fitZ _) ?_
  refine x_iload_n (x_d C_PW_isDict 0 rfl) rfl ?_
  refine x_if_lt (tgt := 30) (x_d C_PW_isDict 1 rfl) rfl (fun c1 => ?_) (fun c1 => ?_)
  · refine x_iconst (x_d C_PW_isDict 15 rfl) ⟨by omega, by omega⟩ ?_
    refine x_ireturn (x_d C_PW_isDict 16 rfl) ?_
    exact ⟨congrArg (fun z => some (xI z)) (x_bo_f (by omega)).symm, rfl⟩
  · refine x_aload_n (x_d C_PW_isDict 2 rfl) rfl ?_
    refine x_getfield (v := xC 4) (x_d C_PW_isDict 3 rfl) f_PW_19 rfl rfl ?_
    refine x_getfield (v := xC 5) (x_d C_PW_isDict 4 rfl) f_PW_61 rfl rfl ?_
    refine x_aload_n (x_d C_PW_isDict 5 rfl) rfl ?_
    refine x_getfield (v := xC 26) (x_d C_PW_isDict 6 rfl) f_PW_23 rfl rfl ?_
    refine x_getfield (v := xC 27) (x_d C_PW_isDict 7 rfl) f_PW_52 rfl rfl ?_
    refine x_iload_n (x_d C_PW_isDict 8 rfl) rfl ?_
    refine x_iaload (f := A 27) (x_d C_PW_isDict 9 rfl) rfl (by omega) (by omega) ?_
    refine x_iaload (f := A 5) (x_d C_PW_isDict 10 rfl) rfl (by omega) (by omega) ?_
    refine x_bipush (x_d C_PW_isDict 11 rfl) (by omega) ?_
    refine x_icmp_ne (tgt := 30) (x_d C_PW_isDict 12 rfl) rfl (fun c2 => ?_) (fun c2 => ?_)
    · refine x_iconst (x_d C_PW_isDict 15 rfl) ⟨by omega, by omega⟩ ?_
      refine x_ireturn (x_d C_PW_isDict 16 rfl) ?_
      exact ⟨congrArg (fun z => some (xI z)) (x_bo_f (by omega)).symm, rfl⟩
    · refine x_iconst (x_d C_PW_isDict 13 rfl) ⟨by omega, by omega⟩ ?_
      refine x_goto (tgt := 31) (x_d C_PW_isDict 14 rfl) rfl ?_
      refine x_ireturn (x_d C_PW_isDict 16 rfl) ?_
      exact ⟨congrArg (fun z => some (xI z)) (x_bo_t (by omega)).symm, rfl⟩
theorem s_ldt_in (kd one two gen us : Nat → Int) (sz p : Int) : s_ldt kd one two gen us sz p = -1 ∨ (0 ≤ s_ldt kd one two gen us sz p ∧ s_ldt kd one two gen us sz p < sz ∧ ¬ us (s_ldt kd one two gen us sz p).toNat = 0) := by
  unfold s_ldt
  split
  · exact Or.inl rfl
  · split
    · next h => exact Or.inr h.1
    · exact Or.inl rfl
theorem w_PW_visitKids_24 (Z : xZ) (d : Nat) (q : Nat → Int) (r : Nat → Option Nat) (A : Nat → Nat → Int) (dy : xH) (D : Nat) (hD : D ≤ 8) (hd : 2 * D + 9 ≤ d) (k e : Int) (hsp : ∀ j, 0 ≤ A 8 j ∧ A 8 j ≤ 12900) (hrec : VD Z q r A dy D) (he : e = 8 - (D : Int)) (hk : 0 ≤ k ∧ k < 12900 ∧ s_bh (A 8) k ≤ 12900) : ∀ (m : Nat) (sn nu : Nat → Int) (fd : Int) (L : List Int) (t : Int), (s_bh (A 8) k - t).toNat = m → k < t → pw sn nu fd L → xW Z d Y_PW_visitKids 24 [(0, xC 23), (1, xI k), (2, xI e), (3, xI t)] [] (hF (x_up q 737 fd) (x_up r 740 (some 26)) (x_up (x_up A 24 nu) 25 sn) ++ dy) (fun v0 h2 => ∃ sn2 nu2 fd2, h2 = hF (x_up q 737 fd2) (x_up r 740 (some 26)) (x_up (x_up A 24 nu2) 25 sn2) ++ dy ∧ ((v0 = some (xI 1) ∧ ∃ L2, s_vks (s_vis (A 5) (A 6) (A 7) (A 8) (A 9) (A 2) (A 27) (A 28) (A 29) (q 35) (q 837) D) (s_K (A 8) (s_bh (A 8) k) t) sn L = some (sn2, L2) ∧ pw sn2 nu2 fd2 L2) ∨ (v0 = some (xI 0) ∧ s_vks (s_vis (A 5) (A 6) (A 7) (A 8) (A 9) (A 2) (A 27) (A 28) (A 29) (q 35) (q 837) D) (s_K (A 8) (s_bh (A 8) k) t) sn L = none))) := by
  intro m
  induction m using Nat.strongRecOn with
  | ind m ih =>
  intro sn nu fd L t hm ht hpw
  have hgt := s_bh_gt (A 8) t
  have hs8 := hsp t.toNat
  have hb8 : s_bh (A 8) t ≤ t + 12900 := by unfold s_bh; omega
  refine x_iload_n (x_d C_PW_visitKids 15 rfl) rfl ?_
  refine x_aload_n (x_d C_PW_visitKids 16 rfl) rfl ?_
  refine x_getfield (v := xC 4) (x_d C_PW_visitKids 17 rfl) f_PW_19 rfl rfl ?_
  refine x_iload_n (x_d C_PW_visitKids 18 rfl) rfl ?_
  refine x_invokevirtual (st := [xI (t)]) (av := [xI (k)]) (x_d C_PW_visitKids 19 rfl) k_PW_77 m_P_behind v_P_behind cl_P rfl rfl (Nat.le_of_ble_eq_true rfl) (by omega) rfl (c_P_behind Z (d - 1) (x_up q 737 fd) (x_up r 740 (some 26)) (x_up (x_up A 24 nu) 25 sn) dy (by omega) k ⟨by omega, by omega, hsp⟩) ?_
  rintro v_ _ ⟨hv_, rfl⟩
  obtain rfl : v_ = some (xI (s_bh (A 8) k)) := hv_
  refine x_icmp_ge (tgt := 61) (x_d C_PW_visitKids 20 rfl) rfl (fun c1 => ?_) (fun c1 => ?_)
  · refine x_iconst (x_d C_PW_visitKids 36 rfl) ⟨by omega, by omega⟩ ?_
    refine x_ireturn (x_d C_PW_visitKids 37 rfl) ?_
    rw [s_K_stop (by omega)]
    exact ⟨sn, nu, fd, rfl, Or.inl ⟨rfl, L, rfl, hpw⟩⟩
  · refine x_aload_n (x_d C_PW_visitKids 21 rfl) rfl ?_
    refine x_iload_n (x_d C_PW_visitKids 22 rfl) rfl ?_
    refine x_iload_n (x_d C_PW_visitKids 23 rfl) rfl ?_
    refine x_iconst (x_d C_PW_visitKids 24 rfl) ⟨by omega, by omega⟩ ?_
    refine x_iadd (x_d C_PW_visitKids 25 rfl) ⟨by omega, by omega⟩ ?_
    refine x_invokevirtual (st := []) (av := [xI (t), xI (e + 1)]) (x_d C_PW_visitKids 26 rfl) k_PW_57 m_PW_visit v_PW_visit cl_PW rfl rfl (Nat.le_of_ble_eq_true rfl) (by omega) rfl (hrec (d - 1) sn nu fd L t (e + 1) (by omega) (by omega) (by omega) hpw) ?_
    rintro v_ _ ⟨sn2, nu2, fd2, rfl, hr_⟩
    obtain ⟨z2, rfl, hz2⟩ : ∃ z : Int, v_ = some (xI z) ∧ ((z = 1 ∧ ∃ L2, s_vis (A 5) (A 6) (A 7) (A 8) (A 9) (A 2) (A 27) (A 28) (A 29) (q 35) (q 837) D t sn L = some (sn2, L2) ∧ pw sn2 nu2 fd2 L2) ∨ (z = 0 ∧ s_vis (A 5) (A 6) (A 7) (A 8) (A 9) (A 2) (A 27) (A 28) (A 29) (q 35) (q 837) D t sn L = none)) := by
      rcases hr_ with ⟨h1_, h2_⟩ | ⟨h1_, h2_⟩
      · exact ⟨1, h1_, Or.inl ⟨rfl, h2_⟩⟩
      · exact ⟨0, h1_, Or.inr ⟨rfl, h2_⟩⟩
    clear hr_
    refine x_if_ne (tgt := 49) (x_d C_PW_visitKids 27 rfl) rfl (fun c3 => ?_) (fun c3 => ?_)
    · refine x_aload_n (x_d C_PW_visitKids 30 rfl) rfl ?_
      refine x_getfield (v := xC 4) (x_d C_PW_visitKids 31 rfl) f_PW_19 rfl rfl ?_
      refine x_iload_n (x_d C_PW_visitKids 32 rfl) rfl ?_
      refine x_invokevirtual (st := []) (av := [xI (t)]) (x_d C_PW_visitKids 33 rfl) k_PW_77 m_P_behind v_P_behind cl_P rfl rfl (Nat.le_of_ble_eq_true rfl) (by omega) rfl (c_P_behind Z (d - 1) (x_up q 737 fd2) (x_up r 740 (some 26)) (x_up (x_up A 24 nu2) 25 sn2) dy (by omega) t ⟨by omega, by omega, hsp⟩) ?_
      rintro v_ _ ⟨hv_, rfl⟩
      obtain rfl : v_ = some (xI (s_bh (A 8) t)) := hv_
      refine x_istore_n (l1 := [(3, xI (s_bh (A 8) t)), (0, xC 23), (1, xI (k)), (2, xI (e))]) (x_d C_PW_visitKids 34 rfl) (by decide) rfl ?_
      refine x_goto (tgt := 24) (x_d C_PW_visitKids 35 rfl) rfl ?_
      refine x_locs [1, 2, 3, 0] rfl ?_
      rcases hz2 with ⟨h1, L2, h2, h3⟩ | ⟨h1, h2⟩
      · refine xW_post ?_ (ih (s_bh (A 8) k - s_bh (A 8) t).toNat (by omega) sn2 nu2 fd2 L2 (s_bh (A 8) t) rfl (by omega) h3)
        have e1 : s_vks (s_vis (A 5) (A 6) (A 7) (A 8) (A 9) (A 2) (A 27) (A 28) (A 29) (q 35) (q 837) D) (s_K (A 8) (s_bh (A 8) k) t) sn L = s_vks (s_vis (A 5) (A 6) (A 7) (A 8) (A 9) (A 2) (A 27) (A 28) (A 29) (q 35) (q 837) D) (s_K (A 8) (s_bh (A 8) k) (s_bh (A 8) t)) sn2 L2 := by
          rw [s_K_step (t := t) (by omega)]
          show (s_vis (A 5) (A 6) (A 7) (A 8) (A 9) (A 2) (A 27) (A 28) (A 29) (q 35) (q 837) D t sn L).bind _ = _
          rw [h2]
          rfl
        rw [e1]
        exact fun _ _ h => h
      · omega
    · refine x_iconst (x_d C_PW_visitKids 28 rfl) ⟨by omega, by omega⟩ ?_
      refine x_ireturn (x_d C_PW_visitKids 29 rfl) ?_
      rcases hz2 with ⟨h1, h2⟩ | ⟨h1, h2⟩
      · omega
      · refine ⟨_, _, _, rfl, Or.inr ⟨rfl, ?_⟩⟩
        rw [s_K_step (t := t) (by omega)]
        show (s_vis (A 5) (A 6) (A 7) (A 8) (A 9) (A 2) (A 27) (A 28) (A 29) (q 35) (q 837) D t sn L).bind _ = none
        rw [h2]
        rfl
theorem c_PW_visitKids (Z : xZ) (d : Nat) (q : Nat → Int) (r : Nat → Option Nat) (A : Nat → Nat → Int) (dy : xH) (D : Nat) (hD : D ≤ 8) (hd : 2 * D + 9 ≤ d) (k e : Int) (hsp : ∀ j, 0 ≤ A 8 j ∧ A 8 j ≤ 12900) (hrec : VD Z q r A dy D) (he : e = 8 - (D : Int)) (hk : k = -1 ∨ wl (A 5) (A 6) (A 7) (A 8) k) (sn nu : Nat → Int) (fd : Int) (L : List Int) (hpw : pw sn nu fd L) : xMet Z d Y_PW_visitKids [xC 23, xI k, xI e] (hF (x_up q 737 fd) (x_up r 740 (some 26)) (x_up (x_up A 24 nu) 25 sn) ++ dy) (fun v0 h2 => ∃ sn2 nu2 fd2, h2 = hF (x_up q 737 fd2) (x_up r 740 (some 26)) (x_up (x_up A 24 nu2) 25 sn2) ++ dy ∧ ((v0 = some (xI 1) ∧ ∃ L2, s_kds (s_vis (A 5) (A 6) (A 7) (A 8) (A 9) (A 2) (A 27) (A 28) (A 29) (q 35) (q 837) D) (A 5) (A 8) k sn L = some (sn2, L2) ∧ pw sn2 nu2 fd2 L2) ∨ (v0 = some (xI 0) ∧ s_kds (s_vis (A 5) (A 6) (A 7) (A 8) (A 9) (A 2) (A 27) (A 28) (A 29) (q 35) (q 837) D) (A 5) (A 8) k sn L = none))) := by
  refine xMet_of (by decide) (Nat.le_of_ble_eq_true rfl) (fun v0 h2 hq => by obtain ⟨_, _, _, _, ⟨e, _⟩ | ⟨e, _⟩⟩ := hq <;> rw [e]; exact Or.inr rfl; exact Or.inl rfl) ?_
  have hk2 : k = -1 ∨ (0 ≤ k ∧ k < 12900 ∧ s_bh (A 8) k ≤ 12900) := by rcases hk with e | e; exact Or.inl e; exact Or.inr ⟨e.1, e.2.1, e.2.2.1⟩
  refine x_iload_n (x_d C_PW_visitKids 0 rfl) rfl ?_
  refine x_if_lt (tgt := 18) (x_d C_PW_visitKids 1 rfl) rfl (fun c1 => ?_) (fun c1 => ?_)
  · refine x_iconst (x_d C_PW_visitKids 9 rfl) ⟨by omega, by omega⟩ ?_
    refine x_ireturn (x_d C_PW_visitKids 10 rfl) ?_
    refine ⟨sn, nu, fd, rfl, Or.inr ⟨rfl, ?_⟩⟩
    unfold s_kds
    rw [if_pos (by omega)]
  · refine x_aload_n (x_d C_PW_visitKids 2 rfl) rfl ?_
    refine x_getfield (v := xC 4) (x_d C_PW_visitKids 3 rfl) f_PW_19 rfl rfl ?_
    refine x_getfield (v := xC 5) (x_d C_PW_visitKids 4 rfl) f_PW_61 rfl rfl ?_
    refine x_iload_n (x_d C_PW_visitKids 5 rfl) rfl ?_
    refine x_iaload (f := A 5) (x_d C_PW_visitKids 6 rfl) rfl (by omega) (by omega) ?_
    refine x_bipush (x_d C_PW_visitKids 7 rfl) (by omega) ?_
    refine x_icmp_eq (tgt := 20) (x_d C_PW_visitKids 8 rfl) rfl (fun c2 => ?_) (fun c2 => ?_)
    · refine x_iload_n (x_d C_PW_visitKids 11 rfl) rfl ?_
      refine x_iconst (x_d C_PW_visitKids 12 rfl) ⟨by omega, by omega⟩ ?_
      refine x_iadd (x_d C_PW_visitKids 13 rfl) ⟨by omega, by omega⟩ ?_
      refine x_istore_n (l1 := [(3, xI (k + 1)), (0, xC 23), (1, xI (k)), (2, xI (e))]) (x_d C_PW_visitKids 14 rfl) (by decide) rfl ?_
      refine x_locs [1, 2, 3, 0] rfl ?_
      have := w_PW_visitKids_24 Z d q r A dy D hD hd k e hsp hrec he (by omega) _ sn nu fd L (k + 1) rfl (by omega) hpw
      unfold s_kds
      rw [if_neg (by omega)]
      exact this
    · refine x_iconst (x_d C_PW_visitKids 9 rfl) ⟨by omega, by omega⟩ ?_
      refine x_ireturn (x_d C_PW_visitKids 10 rfl) ?_
      refine ⟨sn, nu, fd, rfl, Or.inr ⟨rfl, ?_⟩⟩
      unfold s_kds
      rw [if_pos (by omega)]
theorem c_PW_visit_0 (Z : xZ) (q : Nat → Int) (r : Nat → Option Nat) (A : Nat → Nat → Int) (dy : xH) (hz : 0 ≤ q 837 ∧ q 837 ≤ 300) (hT : 0 ≤ q 34 ∧ q 34 ≤ q 35 ∧ q 35 ≤ 10248) (hR : s_okR A) (hsp : ∀ j, 0 ≤ A 8 j ∧ A 8 j ≤ 12900) (hus : ∀ k : Nat, (k : Int) < q 837 → ¬ A 29 k = 0 → wv (A 5) (A 6) (A 7) (A 8) (A 9) (A 2) (q 35) 8 (A 27 k)) : VD Z q r A dy 0 := by
  intro d sn nu fd L p e hd he hp12 hpw
  obtain rfl : e = 9 := by omega
  have hsn := hpw.2.2.2
  refine xMet_of (by decide) (Nat.le_of_ble_eq_true rfl) (fun v0 h2 hq => by obtain ⟨_, _, _, _, ⟨e, _⟩ | ⟨e, _⟩⟩ := hq <;> rw [e]; exact Or.inr rfl; exact Or.inl rfl) ?_
  refine x_aload_n (x_d C_PW_visit 0 rfl) rfl ?_
  refine x_getfield (v := xC 26) (x_d C_PW_visit 1 rfl) f_PW_23 rfl rfl ?_
  refine x_iload_n (x_d C_PW_visit 2 rfl) rfl ?_
  refine x_invokevirtual (st := []) (av := [xI (p)]) (x_d C_PW_visit 3 rfl) k_PW_44 m_B_leadsTo v_B_leadsTo cl_B rfl rfl (Nat.le_of_ble_eq_true rfl) (by omega) rfl (c_B_leadsTo_26 Z (d - 1) (x_up q 737 fd) (x_up r 740 (some 26)) (x_up (x_up A 24 nu) 25 sn) dy (by omega) p hz (by omega)) ?_
  rintro v_ _ ⟨hv_, rfl⟩
  obtain ⟨n, hn⟩ : ∃ n, n = s_ldt (A 5) (A 6) (A 7) (A 28) (A 29) (q 837) p := ⟨_, rfl⟩
  obtain rfl : v_ = some (xI n) := by rw [hn]; exact hv_
  have hn2 := s_ldt_in (A 5) (A 6) (A 7) (A 28) (A 29) (q 837) p
  rw [← hn] at hn2
  have hroot : 0 ≤ n → wv (A 5) (A 6) (A 7) (A 8) (A 9) (A 2) (q 35) 8 (A 27 n.toNat) := fun h => hus n.toNat (by omega) (by rcases hn2 with e | e; omega; exact e.2.2)
  have hrw : 0 ≤ n → 0 ≤ A 27 n.toNat ∧ A 27 n.toNat < 12900 ∧ s_bh (A 8) (A 27 n.toNat) ≤ 12900 := fun h => by have := wv_wl (hroot h); exact ⟨this.1, this.2.1, this.2.2.1⟩
  refine x_istore_n (l1 := [(3, xI (n)), (0, xC 23), (1, xI (p)), (2, xI (9))]) (x_d C_PW_visit 4 rfl) (by decide) rfl ?_
  refine x_aload_n (x_d C_PW_visit 5 rfl) rfl ?_
  refine x_iload_n (x_d C_PW_visit 6 rfl) rfl ?_
  refine x_invokevirtual (st := []) (av := [xI (n)]) (x_d C_PW_visit 7 rfl) k_PW_48 m_PW_isDict v_PW_isDict cl_PW rfl rfl (Nat.le_of_ble_eq_true rfl) (by omega) rfl (c_PW_isDict Z (d - 1) (x_up q 737 fd) r (x_up (x_up A 24 nu) 25 sn) dy n (by omega) (fun h => ⟨(hrw h).1, (hrw h).2.1⟩)) ?_
  rintro v_ _ ⟨hv_, rfl⟩
  obtain rfl : v_ = some (xI (x_bo (decide (0 ≤ n ∧ A 5 (A 27 n.toNat).toNat = 7)))) := hv_
  have hdi : x_bo (decide (0 ≤ n ∧ A 5 (A 27 n.toNat).toNat = 7)) = 1 ∧ (0 ≤ n ∧ A 5 (A 27 n.toNat).toNat = 7) ∨ x_bo (decide (0 ≤ n ∧ A 5 (A 27 n.toNat).toNat = 7)) = 0 ∧ ¬ (0 ≤ n ∧ A 5 (A 27 n.toNat).toNat = 7) := by by_cases z : (0 ≤ n ∧ A 5 (A 27 n.toNat).toNat = 7); exact Or.inl ⟨x_bo_t z, z⟩; exact Or.inr ⟨x_bo_f z, z⟩
  refine x_if_eq (tgt := 32) (x_d C_PW_visit 8 rfl) rfl (fun c1 => ?_) (fun c1 => ?_)
  · refine x_iconst (x_d C_PW_visit 17 rfl) ⟨by omega, by omega⟩ ?_
    refine x_ireturn (x_d C_PW_visit 18 rfl) ?_
    exact ⟨_, _, _, rfl, Or.inr ⟨rfl, rfl⟩⟩
  · refine x_aload_n (x_d C_PW_visit 9 rfl) rfl ?_
    refine x_getfield (v := xC 25) (x_d C_PW_visit 10 rfl) f_PW_15 rfl rfl ?_
    refine x_iload_n (x_d C_PW_visit 11 rfl) rfl ?_
    refine x_zaload (f := sn) (x_d C_PW_visit 12 rfl) rfl (by omega) (by omega) ?_
    refine x_if_ne (tgt := 32) (x_d C_PW_visit 13 rfl) rfl (fun c2 => ?_) (fun c2 => ?_)
    · refine x_iconst (x_d C_PW_visit 17 rfl) ⟨by omega, by omega⟩ ?_
      refine x_ireturn (x_d C_PW_visit 18 rfl) ?_
      exact ⟨_, _, _, rfl, Or.inr ⟨rfl, rfl⟩⟩
    · refine x_iload_n (x_d C_PW_visit 14 rfl) rfl ?_
      refine x_bipush (x_d C_PW_visit 15 rfl) (by omega) ?_
      refine x_icmp_le (tgt := 34) (x_d C_PW_visit 16 rfl) rfl (fun q => absurd q (by omega)) (fun _ => ?_)
      refine x_iconst (x_d C_PW_visit 17 rfl) ⟨by omega, by omega⟩ ?_
      refine x_ireturn (x_d C_PW_visit 18 rfl) ?_
      exact ⟨_, _, _, rfl, Or.inr ⟨rfl, rfl⟩⟩
theorem c_PW_visit_s (Z : xZ) (q : Nat → Int) (r : Nat → Option Nat) (A : Nat → Nat → Int) (dy : xH) (hz : 0 ≤ q 837 ∧ q 837 ≤ 300) (hT : 0 ≤ q 34 ∧ q 34 ≤ q 35 ∧ q 35 ≤ 10248) (hR : s_okR A) (hsp : ∀ j, 0 ≤ A 8 j ∧ A 8 j ≤ 12900) (hus : ∀ k : Nat, (k : Int) < q 837 → ¬ A 29 k = 0 → wv (A 5) (A 6) (A 7) (A 8) (A 9) (A 2) (q 35) 8 (A 27 k)) (D : Nat) (hD : D + 1 ≤ 8) (hrec : VD Z q r A dy D) : VD Z q r A dy (D + 1) := by
  intro d sn nu fd L p e hd he hp12 hpw
  have hsn := hpw.2.2.2
  refine xMet_of (by decide) (Nat.le_of_ble_eq_true rfl) (fun v0 h2 hq => by obtain ⟨_, _, _, _, ⟨e, _⟩ | ⟨e, _⟩⟩ := hq <;> rw [e]; exact Or.inr rfl; exact Or.inl rfl) ?_
  refine x_aload_n (x_d C_PW_visit 0 rfl) rfl ?_
  refine x_getfield (v := xC 26) (x_d C_PW_visit 1 rfl) f_PW_23 rfl rfl ?_
  refine x_iload_n (x_d C_PW_visit 2 rfl) rfl ?_
  refine x_invokevirtual (st := []) (av := [xI (p)]) (x_d C_PW_visit 3 rfl) k_PW_44 m_B_leadsTo v_B_leadsTo cl_B rfl rfl (Nat.le_of_ble_eq_true rfl) (by omega) rfl (c_B_leadsTo_26 Z (d - 1) (x_up q 737 fd) (x_up r 740 (some 26)) (x_up (x_up A 24 nu) 25 sn) dy (by omega) p hz (by omega)) ?_
  rintro v_ _ ⟨hv_, rfl⟩
  obtain ⟨n, hn⟩ : ∃ n, n = s_ldt (A 5) (A 6) (A 7) (A 28) (A 29) (q 837) p := ⟨_, rfl⟩
  obtain rfl : v_ = some (xI n) := by rw [hn]; exact hv_
  have hn2 := s_ldt_in (A 5) (A 6) (A 7) (A 28) (A 29) (q 837) p
  rw [← hn] at hn2
  have hroot : 0 ≤ n → wv (A 5) (A 6) (A 7) (A 8) (A 9) (A 2) (q 35) 8 (A 27 n.toNat) := fun h => hus n.toNat (by omega) (by rcases hn2 with e | e; omega; exact e.2.2)
  have hrw : 0 ≤ n → 0 ≤ A 27 n.toNat ∧ A 27 n.toNat < 12900 ∧ s_bh (A 8) (A 27 n.toNat) ≤ 12900 := fun h => by have := wv_wl (hroot h); exact ⟨this.1, this.2.1, this.2.2.1⟩
  refine x_istore_n (l1 := [(3, xI (n)), (0, xC 23), (1, xI (p)), (2, xI (e))]) (x_d C_PW_visit 4 rfl) (by decide) rfl ?_
  refine x_aload_n (x_d C_PW_visit 5 rfl) rfl ?_
  refine x_iload_n (x_d C_PW_visit 6 rfl) rfl ?_
  refine x_invokevirtual (st := []) (av := [xI (n)]) (x_d C_PW_visit 7 rfl) k_PW_48 m_PW_isDict v_PW_isDict cl_PW rfl rfl (Nat.le_of_ble_eq_true rfl) (by omega) rfl (c_PW_isDict Z (d - 1) (x_up q 737 fd) r (x_up (x_up A 24 nu) 25 sn) dy n (by omega) (fun h => ⟨(hrw h).1, (hrw h).2.1⟩)) ?_
  rintro v_ _ ⟨hv_, rfl⟩
  obtain rfl : v_ = some (xI (x_bo (decide (0 ≤ n ∧ A 5 (A 27 n.toNat).toNat = 7)))) := hv_
  have hdi : x_bo (decide (0 ≤ n ∧ A 5 (A 27 n.toNat).toNat = 7)) = 1 ∧ (0 ≤ n ∧ A 5 (A 27 n.toNat).toNat = 7) ∨ x_bo (decide (0 ≤ n ∧ A 5 (A 27 n.toNat).toNat = 7)) = 0 ∧ ¬ (0 ≤ n ∧ A 5 (A 27 n.toNat).toNat = 7) := by by_cases z : (0 ≤ n ∧ A 5 (A 27 n.toNat).toNat = 7); exact Or.inl ⟨x_bo_t z, z⟩; exact Or.inr ⟨x_bo_f z, z⟩
  refine x_if_eq (tgt := 32) (x_d C_PW_visit 8 rfl) rfl (fun c1 => ?_) (fun c1 => ?_)
  · refine x_iconst (x_d C_PW_visit 17 rfl) ⟨by omega, by omega⟩ ?_
    refine x_ireturn (x_d C_PW_visit 18 rfl) ?_
    have hv0 : s_vis (A 5) (A 6) (A 7) (A 8) (A 9) (A 2) (A 27) (A 28) (A 29) (q 35) (q 837) (D + 1) p sn L = if n < 0 ∨ ¬ A 5 (A 27 n.toNat).toNat = 7 ∨ ¬ sn n.toNat = 0 then none else s_vs1 (s_vis (A 5) (A 6) (A 7) (A 8) (A 9) (A 2) (A 27) (A 28) (A 29) (q 35) (q 837) D) (A 5) (A 6) (A 7) (A 8) (A 9) (A 2) (q 35) (A 27 n.toNat) n sn L := by rw [hn]; rfl
    refine ⟨sn, nu, fd, rfl, Or.inr ⟨rfl, ?_⟩⟩
    rw [hv0, if_pos (by omega)]
  · refine x_aload_n (x_d C_PW_visit 9 rfl) rfl ?_
    refine x_getfield (v := xC 25) (x_d C_PW_visit 10 rfl) f_PW_15 rfl rfl ?_
    refine x_iload_n (x_d C_PW_visit 11 rfl) rfl ?_
    refine x_zaload (f := sn) (x_d C_PW_visit 12 rfl) rfl (by omega) (by omega) ?_
    refine x_if_ne (tgt := 32) (x_d C_PW_visit 13 rfl) rfl (fun c2 => ?_) (fun c2 => ?_)
    · refine x_iconst (x_d C_PW_visit 17 rfl) ⟨by omega, by omega⟩ ?_
      refine x_ireturn (x_d C_PW_visit 18 rfl) ?_
      have hv0 : s_vis (A 5) (A 6) (A 7) (A 8) (A 9) (A 2) (A 27) (A 28) (A 29) (q 35) (q 837) (D + 1) p sn L = if n < 0 ∨ ¬ A 5 (A 27 n.toNat).toNat = 7 ∨ ¬ sn n.toNat = 0 then none else s_vs1 (s_vis (A 5) (A 6) (A 7) (A 8) (A 9) (A 2) (A 27) (A 28) (A 29) (q 35) (q 837) D) (A 5) (A 6) (A 7) (A 8) (A 9) (A 2) (q 35) (A 27 n.toNat) n sn L := by rw [hn]; rfl
      refine ⟨sn, nu, fd, rfl, Or.inr ⟨rfl, ?_⟩⟩
      rw [hv0, if_pos (by omega)]
    · refine x_iload_n (x_d C_PW_visit 14 rfl) rfl ?_
      refine x_bipush (x_d C_PW_visit 15 rfl) (by omega) ?_
      refine x_icmp_le (tgt := 34) (x_d C_PW_visit 16 rfl) rfl (fun _ => ?_) (fun q => absurd q (by omega))
      have hpw1 := pw_seen hpw (n := n) (by omega) (by omega)
      have hfd := pw_room hpw (n := n) (by omega) (by omega)
      have hfd0 := hpw.1
      refine x_aload_n (x_d C_PW_visit 19 rfl) rfl ?_
      refine x_getfield (v := xC 25) (x_d C_PW_visit 20 rfl) f_PW_15 rfl rfl ?_
      refine x_iload_n (x_d C_PW_visit 21 rfl) rfl ?_
      refine x_iconst (x_d C_PW_visit 22 rfl) ⟨by omega, by omega⟩ ?_
      refine x_zastore (h1 := hF (x_up q 737 fd) (x_up r 740 (some 26)) (x_up (x_up A 24 nu) 25 (x_up sn (n).toNat 1)) ++ dy) (x_d C_PW_visit 23 rfl) rfl (by omega) (by omega) (Or.inr rfl) rfl ?_
      refine x_aload_n (x_d C_PW_visit 24 rfl) rfl ?_
      refine x_getfield (v := xC 4) (x_d C_PW_visit 25 rfl) f_PW_19 rfl rfl ?_
      refine x_aload_n (x_d C_PW_visit 26 rfl) rfl ?_
      refine x_getfield (v := xC 26) (x_d C_PW_visit 27 rfl) f_PW_23 rfl rfl ?_
      refine x_getfield (v := xC 27) (x_d C_PW_visit 28 rfl) f_PW_52 rfl rfl ?_
      refine x_iload_n (x_d C_PW_visit 29 rfl) rfl ?_
      refine x_iaload (f := A 27) (x_d C_PW_visit 30 rfl) rfl (by omega) (by omega) ?_
      refine x_ldcS (i := 51) (x_d C_PW_visit 31 rfl) rfl ?_
      refine x_invokevirtual (st := []) (av := [xI (A 27 (n).toNat), xS (103)]) (x_d C_PW_visit 32 rfl) k_PW_38 m_P_named v_P_named cl_P rfl rfl (Nat.le_of_ble_eq_true rfl) (by omega) rfl (c_P_named Z (d - 1) (x_up q 737 fd) (x_up r 740 (some 26)) (x_up (x_up A 24 nu) 25 (x_up sn (n).toNat 1)) dy (by omega) (i := 51) rfl (A 27 (n).toNat) hT hR hsp (hrw (by omega))) ?_
      rintro v_ _ ⟨hv_, rfl⟩
      obtain ⟨ty, hty⟩ : ∃ z, z = s_nam (A 8) (A 9) (A 2) (q 35) (A 27 (n).toNat) [84, 121, 112, 101] := ⟨_, rfl⟩
      obtain rfl : v_ = some (xI ty) := by rw [hty]; exact hv_
      have hty2 := s_first_in (fun t => decide (0 ≤ s_the (A 2) (q 35) (A 9 t.toNat) [84, 121, 112, 101])) (s_in (A 8) (A 27 (n).toNat))
      have hty3 : ty = -1 ∨ ty ∈ s_in (A 8) (A 27 (n).toNat) := by rw [hty]; exact hty2
      have hty4 : ty < 12900 := by rcases hty3 with e | e; omega; exact (wv_wl ((hroot (by omega)).2 ty e).1).2.1
      refine x_istore (l1 := [(4, xI (ty)), (3, xI (n)), (0, xC 23), (1, xI (p)), (2, xI (e))]) (x_d C_PW_visit 33 rfl) (by decide) rfl ?_
      refine x_aload_n (x_d C_PW_visit 34 rfl) rfl ?_
      refine x_getfield (v := xC 4) (x_d C_PW_visit 35 rfl) f_PW_19 rfl rfl ?_
      refine x_iload (x_d C_PW_visit 36 rfl) rfl ?_
      refine x_ldcS (i := 52) (x_d C_PW_visit 37 rfl) rfl ?_
      refine x_invokevirtual (st := []) (av := [xI (ty), xS (105)]) (x_d C_PW_visit 38 rfl) k_PW_68 m_P_isName v_P_isName cl_P rfl rfl (Nat.le_of_ble_eq_true rfl) (by omega) rfl (c_P_isName Z (d - 1) (x_up q 737 fd) (x_up r 740 (some 26)) (x_up (x_up A 24 nu) 25 (x_up sn (n).toNat 1)) dy (by omega) (i := 52) rfl ty hT (by omega)) ?_
      rintro v_ _ ⟨hv_, rfl⟩
      obtain rfl : v_ = some (xI (x_bo (s_isN (A 5) (A 6) (A 7) (A 2) (q 35) ty [80, 97, 103, 101]))) := hv_
      refine x_if_eq (tgt := 97) (x_d C_PW_visit 39 rfl) rfl (fun c4 => ?_) (fun c4 => ?_)
      · refine x_aload_n (x_d C_PW_visit 54 rfl) rfl ?_
        refine x_getfield (v := xC 4) (x_d C_PW_visit 55 rfl) f_PW_19 rfl rfl ?_
        refine x_iload (x_d C_PW_visit 56 rfl) rfl ?_
        refine x_ldcS (i := 50) (x_d C_PW_visit 57 rfl) rfl ?_
        refine x_invokevirtual (st := []) (av := [xI (ty), xS (101)]) (x_d C_PW_visit 58 rfl) k_PW_68 m_P_isName v_P_isName cl_P rfl rfl (Nat.le_of_ble_eq_true rfl) (by omega) rfl (c_P_isName Z (d - 1) (x_up q 737 fd) (x_up r 740 (some 26)) (x_up (x_up A 24 nu) 25 (x_up sn (n).toNat 1)) dy (by omega) (i := 50) rfl ty hT (by omega)) ?_
        rintro v_ _ ⟨hv_, rfl⟩
        obtain rfl : v_ = some (xI (x_bo (s_isN (A 5) (A 6) (A 7) (A 2) (q 35) ty [80, 97, 103, 101, 115]))) := hv_
        refine x_if_eq (tgt := 141) (x_d C_PW_visit 59 rfl) rfl (fun c5 => ?_) (fun c5 => ?_)
        · refine x_iconst (x_d C_PW_visit 75 rfl) ⟨by omega, by omega⟩ ?_
          refine x_ireturn (x_d C_PW_visit 76 rfl) ?_
          have hv0 : s_vis (A 5) (A 6) (A 7) (A 8) (A 9) (A 2) (A 27) (A 28) (A 29) (q 35) (q 837) (D + 1) p sn L = if n < 0 ∨ ¬ A 5 (A 27 n.toNat).toNat = 7 ∨ ¬ sn n.toNat = 0 then none else s_vs1 (s_vis (A 5) (A 6) (A 7) (A 8) (A 9) (A 2) (A 27) (A 28) (A 29) (q 35) (q 837) D) (A 5) (A 6) (A 7) (A 8) (A 9) (A 2) (q 35) (A 27 n.toNat) n sn L := by rw [hn]; rfl
          rw [if_neg (by omega)] at hv0
          unfold s_vs1 at hv0
          rw [← hty] at hv0
          rw [if_neg (fun z => absurd (x_bo_1.mpr z) (show ¬ ¬ x_bo (s_isN (A 5) (A 6) (A 7) (A 2) (q 35) ty [80, 97, 103, 101]) = 0 by omega)), if_neg (fun z => absurd (x_bo_1.mpr z) (show ¬ ¬ x_bo (s_isN (A 5) (A 6) (A 7) (A 2) (q 35) ty [80, 97, 103, 101, 115]) = 0 by omega))] at hv0
          exact ⟨_, _, _, rfl, Or.inr ⟨rfl, hv0⟩⟩
        · refine x_aload_n (x_d C_PW_visit 60 rfl) rfl ?_
          refine x_aload_n (x_d C_PW_visit 61 rfl) rfl ?_
          refine x_getfield (v := xC 4) (x_d C_PW_visit 62 rfl) f_PW_19 rfl rfl ?_
          refine x_aload_n (x_d C_PW_visit 63 rfl) rfl ?_
          refine x_getfield (v := xC 26) (x_d C_PW_visit 64 rfl) f_PW_23 rfl rfl ?_
          refine x_getfield (v := xC 27) (x_d C_PW_visit 65 rfl) f_PW_52 rfl rfl ?_
          refine x_iload_n (x_d C_PW_visit 66 rfl) rfl ?_
          refine x_iaload (f := A 27) (x_d C_PW_visit 67 rfl) rfl (by omega) (by omega) ?_
          refine x_ldcS (i := 53) (x_d C_PW_visit 68 rfl) rfl ?_
          refine x_invokevirtual (st := [xC 23]) (av := [xI (A 27 (n).toNat), xS (107)]) (x_d C_PW_visit 69 rfl) k_PW_38 m_P_named v_P_named cl_P rfl rfl (Nat.le_of_ble_eq_true rfl) (by omega) rfl (c_P_named Z (d - 1) (x_up q 737 fd) (x_up r 740 (some 26)) (x_up (x_up A 24 nu) 25 (x_up sn (n).toNat 1)) dy (by omega) (i := 53) rfl (A 27 (n).toNat) hT hR hsp (hrw (by omega))) ?_
          rintro v_ _ ⟨hv_, rfl⟩
          obtain ⟨kk, hkk⟩ : ∃ z, z = s_nam (A 8) (A 9) (A 2) (q 35) (A 27 (n).toNat) [75, 105, 100, 115] := ⟨_, rfl⟩
          obtain rfl : v_ = some (xI kk) := by rw [hkk]; exact hv_
          have hkk2 := s_first_in (fun t => decide (0 ≤ s_the (A 2) (q 35) (A 9 t.toNat) [75, 105, 100, 115])) (s_in (A 8) (A 27 (n).toNat))
          have hkk3 : kk = -1 ∨ kk ∈ s_in (A 8) (A 27 (n).toNat) := by rw [hkk]; exact hkk2
          have hkk4 : kk = -1 ∨ wl (A 5) (A 6) (A 7) (A 8) kk ∧ ∀ x, x ∈ s_in (A 8) kk → x < 12900 ∧ s_bh (A 8) x ≤ 12900 := by rcases hkk3 with e | e; exact Or.inl e; exact Or.inr ⟨wv_wl ((hroot (by omega)).2 kk e).1, fun x hx => by have := wv_wl (((hroot (by omega)).2 kk e).1.2 x hx).1; exact ⟨this.2.1, this.2.2.1⟩⟩
          refine x_iload_n (x_d C_PW_visit 70 rfl) rfl ?_
          refine x_invokevirtual (st := []) (av := [xI (kk), xI (e)]) (x_d C_PW_visit 71 rfl) k_PW_74 m_PW_visitKids v_PW_visitKids cl_PW rfl rfl (Nat.le_of_ble_eq_true rfl) (by omega) rfl (c_PW_visitKids Z (d - 1) q r A dy D (by omega) (by omega) kk e hsp hrec (by omega) (by rcases hkk4 with z | z; exact Or.inl z; exact Or.inr z.1) (x_up sn (n).toNat 1) nu fd L hpw1) ?_
          rintro v_ _ ⟨sn6, nu6, fd6, rfl, hr_⟩
          obtain ⟨z6, rfl, hz6⟩ : ∃ z : Int, v_ = some (xI z) ∧ ((z = 1 ∧ ∃ L2, s_kds (s_vis (A 5) (A 6) (A 7) (A 8) (A 9) (A 2) (A 27) (A 28) (A 29) (q 35) (q 837) D) (A 5) (A 8) kk (x_up sn n.toNat 1) L = some (sn6, L2) ∧ pw sn6 nu6 fd6 L2) ∨ (z = 0 ∧ s_kds (s_vis (A 5) (A 6) (A 7) (A 8) (A 9) (A 2) (A 27) (A 28) (A 29) (q 35) (q 837) D) (A 5) (A 8) kk (x_up sn n.toNat 1) L = none)) := by
            rcases hr_ with ⟨h1_, h2_⟩ | ⟨h1_, h2_⟩
            · exact ⟨1, h1_, Or.inl ⟨rfl, h2_⟩⟩
            · exact ⟨0, h1_, Or.inr ⟨rfl, h2_⟩⟩
          clear hr_
          refine x_if_eq (tgt := 141) (x_d C_PW_visit 72 rfl) rfl (fun c7 => ?_) (fun c7 => ?_)
          · refine x_iconst (x_d C_PW_visit 75 rfl) ⟨by omega, by omega⟩ ?_
            refine x_ireturn (x_d C_PW_visit 76 rfl) ?_
            have hv0 : s_vis (A 5) (A 6) (A 7) (A 8) (A 9) (A 2) (A 27) (A 28) (A 29) (q 35) (q 837) (D + 1) p sn L = if n < 0 ∨ ¬ A 5 (A 27 n.toNat).toNat = 7 ∨ ¬ sn n.toNat = 0 then none else s_vs1 (s_vis (A 5) (A 6) (A 7) (A 8) (A 9) (A 2) (A 27) (A 28) (A 29) (q 35) (q 837) D) (A 5) (A 6) (A 7) (A 8) (A 9) (A 2) (q 35) (A 27 n.toNat) n sn L := by rw [hn]; rfl
            rw [if_neg (by omega)] at hv0
            unfold s_vs1 at hv0
            rw [← hty] at hv0
            rw [if_neg (fun z => absurd (x_bo_1.mpr z) (show ¬ ¬ x_bo (s_isN (A 5) (A 6) (A 7) (A 2) (q 35) ty [80, 97, 103, 101]) = 0 by omega)), if_pos (x_bo_1.mp (show ¬ x_bo (s_isN (A 5) (A 6) (A 7) (A 2) (q 35) ty [80, 97, 103, 101, 115]) = 0 by omega)), ← hkk] at hv0
            refine ⟨_, _, _, rfl, ?_⟩
            rw [hv0]
            rcases hz6 with ⟨h1, h2⟩ | ⟨h1, h2⟩
            · first | exact Or.inl ⟨rfl, h2⟩ | omega
            · first | exact Or.inr ⟨rfl, h2⟩ | omega
          · refine x_iconst (x_d C_PW_visit 73 rfl) ⟨by omega, by omega⟩ ?_
            refine x_goto (tgt := 142) (x_d C_PW_visit 74 rfl) rfl ?_
            refine x_ireturn (x_d C_PW_visit 76 rfl) ?_
            have hv0 : s_vis (A 5) (A 6) (A 7) (A 8) (A 9) (A 2) (A 27) (A 28) (A 29) (q 35) (q 837) (D + 1) p sn L = if n < 0 ∨ ¬ A 5 (A 27 n.toNat).toNat = 7 ∨ ¬ sn n.toNat = 0 then none else s_vs1 (s_vis (A 5) (A 6) (A 7) (A 8) (A 9) (A 2) (A 27) (A 28) (A 29) (q 35) (q 837) D) (A 5) (A 6) (A 7) (A 8) (A 9) (A 2) (q 35) (A 27 n.toNat) n sn L := by rw [hn]; rfl
            rw [if_neg (by omega)] at hv0
            unfold s_vs1 at hv0
            rw [← hty] at hv0
            rw [if_neg (fun z => absurd (x_bo_1.mpr z) (show ¬ ¬ x_bo (s_isN (A 5) (A 6) (A 7) (A 2) (q 35) ty [80, 97, 103, 101]) = 0 by omega)), if_pos (x_bo_1.mp (show ¬ x_bo (s_isN (A 5) (A 6) (A 7) (A 2) (q 35) ty [80, 97, 103, 101, 115]) = 0 by omega)), ← hkk] at hv0
            refine ⟨_, _, _, rfl, ?_⟩
            rw [hv0]
            rcases hz6 with ⟨h1, h2⟩ | ⟨h1, h2⟩
            · first | exact Or.inl ⟨rfl, h2⟩ | omega
            · first | exact Or.inr ⟨rfl, h2⟩ | omega
      · refine x_aload_n (x_d C_PW_visit 40 rfl) rfl ?_
        refine x_getfield (v := xC 24) (x_d C_PW_visit 41 rfl) f_PW_9 rfl rfl ?_
        refine x_aload_n (x_d C_PW_visit 42 rfl) rfl ?_
        refine x_getfield (v := xI (fd)) (x_d C_PW_visit 43 rfl) f_PW_27 rfl rfl ?_
        refine x_iload_n (x_d C_PW_visit 44 rfl) rfl ?_
        refine x_iastore (h1 := hF (x_up q 737 fd) (x_up r 740 (some 26)) (x_up (x_up A 24 (x_up nu (fd).toNat n)) 25 (x_up sn (n).toNat 1)) ++ dy) (x_d C_PW_visit 45 rfl) rfl (by omega) (by omega) rfl ?_
        refine x_aload_n (x_d C_PW_visit 46 rfl) rfl ?_
        refine x_dup (x_d C_PW_visit 47 rfl) rfl ?_
        refine x_getfield (v := xI (fd)) (x_d C_PW_visit 48 rfl) f_PW_27 rfl rfl ?_
        refine x_iconst (x_d C_PW_visit 49 rfl) ⟨by omega, by omega⟩ ?_
        refine x_iadd (x_d C_PW_visit 50 rfl) ⟨by omega, by omega⟩ ?_
        refine x_putfield (h1 := hF (x_up q 737 (fd + 1)) (x_up r 740 (some 26)) (x_up (x_up A 24 (x_up nu (fd).toNat n)) 25 (x_up sn (n).toNat 1)) ++ dy) (x_d C_PW_visit 51 rfl) p_PW_27 rfl rfl rfl trivial rfl ?_
        refine x_iconst (x_d C_PW_visit 52 rfl) ⟨by omega, by omega⟩ ?_
        refine x_ireturn (x_d C_PW_visit 53 rfl) ?_
        have hv0 : s_vis (A 5) (A 6) (A 7) (A 8) (A 9) (A 2) (A 27) (A 28) (A 29) (q 35) (q 837) (D + 1) p sn L = if n < 0 ∨ ¬ A 5 (A 27 n.toNat).toNat = 7 ∨ ¬ sn n.toNat = 0 then none else s_vs1 (s_vis (A 5) (A 6) (A 7) (A 8) (A 9) (A 2) (A 27) (A 28) (A 29) (q 35) (q 837) D) (A 5) (A 6) (A 7) (A 8) (A 9) (A 2) (q 35) (A 27 n.toNat) n sn L := by rw [hn]; rfl
        rw [if_neg (by omega)] at hv0
        unfold s_vs1 at hv0
        rw [← hty] at hv0
        rw [if_pos (x_bo_1.mp (show ¬ x_bo (s_isN (A 5) (A 6) (A 7) (A 2) (q 35) ty [80, 97, 103, 101]) = 0 by omega))] at hv0
        exact ⟨_, _, _, rfl, Or.inl ⟨rfl, _, hv0, pw_page hpw (by omega) (by omega)⟩⟩
theorem c_PW_visit (Z : xZ) (q : Nat → Int) (r : Nat → Option Nat) (A : Nat → Nat → Int) (dy : xH) (hz : 0 ≤ q 837 ∧ q 837 ≤ 300) (hT : 0 ≤ q 34 ∧ q 34 ≤ q 35 ∧ q 35 ≤ 10248) (hR : s_okR A) (hsp : ∀ j, 0 ≤ A 8 j ∧ A 8 j ≤ 12900) (hus : ∀ k : Nat, (k : Int) < q 837 → ¬ A 29 k = 0 → wv (A 5) (A 6) (A 7) (A 8) (A 9) (A 2) (q 35) 8 (A 27 k)) : ∀ D : Nat, D ≤ 8 → VD Z q r A dy D
  | 0, _ => c_PW_visit_0 Z q r A dy hz hT hR hsp hus
  | D + 1, h => c_PW_visit_s Z q r A dy hz hT hR hsp hus D h (c_PW_visit Z q r A dy hz hT hR hsp hus D (by omega))
