/-! the decoder: all passes -/
theorem w_D_run_126 (Z : xZ) (d : Nat) (q : Nat → Int) (r : Nat → Option Nat) (A : Nat → Nat → Int) (dy : xH) (p fl : Int) (u : Nat → Int) (w : Nat → Nat → Int) (S S2 c : Nat) (bs : List Int) (hcf : dcf S S2 c) (hbs : 0 ≤ u 581 ∧ u 582 = u 581 + bs.length ∧ u 582 ≤ dln c) (hg : ∀ k, k < bs.length → dsr A w c ((u 581).toNat + k) = bs.getD k 0) : xW Z d Y_D_run 126 [(0, xC 18), (1, xI p), (2, xI fl)] [] (hF (dq q u) (dr r S S2 c) (dw A w) ++ dy) (fun v0 h2 => ∃ u2 w2 S9 T9 c9, dcf S9 T9 c9 ∧ h2 = hF (dq q u2) (dr r S9 T9 c9) (dw A w2) ++ dy ∧ ((v0 = some (xI 1) ∧ ∃ b2, (some bs).bind (fun x => if (x.length : Int) ≤ 3000 then some x else none) = some b2 ∧ (0 ≤ u2 581 ∧ u2 582 = u2 581 + b2.length ∧ u2 582 ≤ dln c9) ∧ ∀ k, k < b2.length → dsr A w2 c9 ((u2 581).toNat + k) = b2.getD k 0) ∨ (v0 = some (xI 0) ∧ (some bs).bind (fun x => if (x.length : Int) ≤ 3000 then some x else none) = none))) := by
  have hln : dln c ≤ 10248 := by unfold dln; split <;> omega
  refine x_aload_n (x_d C_D_run 68 rfl) rfl ?_
  refine x_getfield (v := xI (u 582)) (x_d C_D_run 69 rfl) f_D_53 rfl rfl ?_
  refine x_aload_n (x_d C_D_run 70 rfl) rfl ?_
  refine x_getfield (v := xI (u 581)) (x_d C_D_run 71 rfl) f_D_46 rfl rfl ?_
  refine x_isub (x_d C_D_run 72 rfl) ⟨by omega, by omega⟩ ?_
  refine x_sipush (x_d C_D_run 73 rfl) (by omega) ?_
  refine x_icmp_gt (tgt := 145) (x_d C_D_run 74 rfl) rfl (fun c1 => ?_) (fun c1 => ?_)
  · refine x_iconst (x_d C_D_run 77 rfl) ⟨by omega, by omega⟩ ?_
    refine x_ireturn (x_d C_D_run 78 rfl) ?_
    exact ⟨u, w, S, S2, c, hcf, rfl, Or.inr ⟨rfl, by show (if (bs.length : Int) ≤ 3000 then some bs else none) = _; rw [if_neg (by omega)]⟩⟩
  · refine x_iconst (x_d C_D_run 75 rfl) ⟨by omega, by omega⟩ ?_
    refine x_goto (tgt := 146) (x_d C_D_run 76 rfl) rfl ?_
    refine x_ireturn (x_d C_D_run 78 rfl) ?_
    exact ⟨u, w, S, S2, c, hcf, rfl, Or.inl ⟨rfl, bs, by show (if (bs.length : Int) ≤ 3000 then some bs else none) = _; rw [if_pos (by omega)], hbs, hg⟩⟩
theorem w_D_run_75 (Z : xZ) (d : Nat) (q : Nat → Int) (r : Nat → Option Nat) (A : Nat → Nat → Int) (dy : xH) (hd : 9 ≤ d) (p fl : Int) (hT : 0 ≤ q 34 ∧ q 34 ≤ q 35 ∧ q 35 ≤ 10248) (hsp : ∀ j, 0 ≤ A 8 j ∧ A 8 j ≤ 12900) (hfl : 0 ≤ fl ∧ fl < 12900 ∧ s_bh (A 8) fl ≤ 12900) : ∀ (k : Nat) (u : Nat → Int) (w : Nat → Nat → Int) (S S2 c : Nat) (bs : List Int) (t : Int), (s_bh (A 8) fl - t).toNat = k → dcf S S2 c → (0 ≤ u 581 ∧ u 582 = u 581 + bs.length ∧ u 582 ≤ dln c) → (∀ k, k < bs.length → dsr A w c ((u 581).toNat + k) = bs.getD k 0) → fl < t → xW Z d Y_D_run 75 [(0, xC 18), (1, xI p), (2, xI fl), (3, xI t)] [] (hF (dq q u) (dr r S S2 c) (dw A w) ++ dy) (fun v0 h2 => ∃ u2 w2 S9 T9 c9, dcf S9 T9 c9 ∧ h2 = hF (dq q u2) (dr r S9 T9 c9) (dw A w2) ++ dy ∧ ((v0 = some (xI 1) ∧ ∃ b2, (s_fold (s_flt (A 5) (A 6) (A 7) (A 2) (q 35)) (s_K (A 8) (s_bh (A 8) fl) t) bs).bind (fun x => if (x.length : Int) ≤ 3000 then some x else none) = some b2 ∧ (0 ≤ u2 581 ∧ u2 582 = u2 581 + b2.length ∧ u2 582 ≤ dln c9) ∧ ∀ k, k < b2.length → dsr A w2 c9 ((u2 581).toNat + k) = b2.getD k 0) ∨ (v0 = some (xI 0) ∧ (s_fold (s_flt (A 5) (A 6) (A 7) (A 2) (q 35)) (s_K (A 8) (s_bh (A 8) fl) t) bs).bind (fun x => if (x.length : Int) ≤ 3000 then some x else none) = none))) := by
  intro k
  induction k using Nat.strongRecOn with
  | ind k ih =>
  intro u w S S2 c bs t hk hcf hbs hg ht
  have hgt := s_bh_gt (A 8) t
  have hs8 := hsp t.toNat
  have hb8 : s_bh (A 8) t ≤ t + 12900 := by unfold s_bh; omega
  refine x_iload_n (x_d C_D_run 41 rfl) rfl ?_
  refine x_aload_n (x_d C_D_run 42 rfl) rfl ?_
  refine x_getfield (v := xC 4) (x_d C_D_run 43 rfl) f_D_27 rfl rfl ?_
  refine x_iload_n (x_d C_D_run 44 rfl) rfl ?_
  refine x_invokevirtual (st := [xI (t)]) (av := [xI (fl)]) (x_d C_D_run 45 rfl) k_D_65 m_P_behind v_P_behind cl_P rfl rfl (Nat.le_of_ble_eq_true rfl) (by omega) rfl (c_P_behind Z (d - 1) (x_up (x_up (x_up (x_up (x_up (x_up (x_up (x_up q 581 (u 581)) 582 (u 582)) 609 (u 609)) 610 (u 610)) 611 (u 611)) 673 (u 673)) 674 (u 674)) 675 (u 675)) (x_up (x_up (x_up r 578 (some S)) 579 (some S2)) 580 (some c)) (x_up (x_up A 20 (w 20)) 22 (w 22)) dy (by omega) fl ⟨by omega, by omega, hsp⟩) ?_
  rintro v_ _ ⟨hv_, rfl⟩
  obtain rfl : v_ = some (xI (s_bh (A 8) fl)) := hv_
  refine x_icmp_ge (tgt := 109) (x_d C_D_run 46 rfl) rfl (fun c1 => ?_) (fun c1 => ?_)
  · refine x_goto (tgt := 126) (x_d C_D_run 59 rfl) rfl ?_
    refine x_locs [0, 1, 2] rfl ?_
    rw [s_K_stop (by omega)]
    exact w_D_run_126 Z d q r A dy p fl u w S S2 c bs hcf hbs hg
  · refine x_aload_n (x_d C_D_run 47 rfl) rfl ?_
    refine x_iload_n (x_d C_D_run 48 rfl) rfl ?_
    refine x_invokevirtual (st := []) (av := [xI (t)]) (x_d C_D_run 49 rfl) k_D_69 m_D_pass v_D_pass cl_D rfl rfl (Nat.le_of_ble_eq_true rfl) (by omega) rfl (c_D_pass Z (d - 1) q r A dy u w (by omega) S S2 c hcf t (fun k => bs.getD k 0) bs.length hT (by omega) hbs hg) ?_
    rintro v_ h_ ⟨u2, w2, hr_⟩
    obtain ⟨z1, S9, T9, c9, rfl, rfl, hcf9, hz1⟩ : ∃ (z : Int) (S9 T9 c9 : Nat), v_ = some (xI z) ∧ h_ = hF (dq q u2) (dr r S9 T9 c9) (dw A w2) ++ dy ∧ dcf S9 T9 c9 ∧ ((z = 1 ∧ ∃ b2, s_flt (A 5) (A 6) (A 7) (A 2) (q 35) t (fun k => bs.getD k 0) bs.length = some b2 ∧ (b2.length : Int) ≤ 3000 ∧ u2 581 = 0 ∧ u2 582 = b2.length ∧ dln c9 = 3000 ∧ ∀ k, k < b2.length → dsr A w2 c9 k = b2.getD k 0) ∨ (z = 0 ∧ ∀ b2, s_flt (A 5) (A 6) (A 7) (A 2) (q 35) t (fun k => bs.getD k 0) bs.length = some b2 → 3000 < (b2.length : Int))) := by
      rcases hr_ with ⟨h1, h2, h3⟩ | ⟨h1, h2, h3⟩
      · refine ⟨1, S2, S, S + 1, h1, h2, ?_, Or.inl ⟨rfl, ?_⟩⟩
        · rcases hcf with ⟨rfl, rfl, _⟩ | ⟨rfl, rfl, _⟩
          · exact Or.inr ⟨rfl, rfl, Or.inr rfl⟩
          · exact Or.inl ⟨rfl, rfl, Or.inr rfl⟩
        · obtain ⟨b2, k1, k2, k3, k4, k5⟩ := h3
          have e1 : ¬ S + 1 = 2 := by rcases hcf with ⟨rfl, _⟩ | ⟨rfl, _⟩ <;> decide
          exact ⟨b2, k1, k2, k3, k4, if_neg e1, fun k hk => by unfold dsr; rw [if_neg e1]; exact k5 k hk⟩
      · exact ⟨0, S, S2, c, h1, h2, hcf, Or.inr ⟨rfl, h3⟩⟩
    clear hr_
    refine x_if_ne (tgt := 97) (x_d C_D_run 50 rfl) rfl (fun c2 => ?_) (fun c2 => ?_)
    · refine x_aload_n (x_d C_D_run 53 rfl) rfl ?_
      refine x_getfield (v := xC 4) (x_d C_D_run 54 rfl) f_D_27 rfl rfl ?_
      refine x_iload_n (x_d C_D_run 55 rfl) rfl ?_
      refine x_invokevirtual (st := []) (av := [xI (t)]) (x_d C_D_run 56 rfl) k_D_65 m_P_behind v_P_behind cl_P rfl rfl (Nat.le_of_ble_eq_true rfl) (by omega) rfl (c_P_behind Z (d - 1) (x_up (x_up (x_up (x_up (x_up (x_up (x_up (x_up q 581 (u2 581)) 582 (u2 582)) 609 (u2 609)) 610 (u2 610)) 611 (u2 611)) 673 (u2 673)) 674 (u2 674)) 675 (u2 675)) (x_up (x_up (x_up r 578 (some S9)) 579 (some T9)) 580 (some c9)) (x_up (x_up A 20 (w2 20)) 22 (w2 22)) dy (by omega) t ⟨by omega, by omega, hsp⟩) ?_
      rintro v_ _ ⟨hv_, rfl⟩
      obtain rfl : v_ = some (xI (s_bh (A 8) t)) := hv_
      refine x_istore_n (l1 := [(3, xI (s_bh (A 8) t)), (0, xC 18), (1, xI (p)), (2, xI (fl))]) (x_d C_D_run 57 rfl) (by decide) rfl ?_
      refine x_goto (tgt := 75) (x_d C_D_run 58 rfl) rfl ?_
      refine x_locs [1, 2, 3, 0] rfl ?_
      rcases hz1 with ⟨h1, b2, k1, k2, k3, k4, k5, k6⟩ | ⟨h1, h2⟩
      · refine xW_post ?_ (ih (s_bh (A 8) fl - s_bh (A 8) t).toNat (by omega) u2 w2 S9 T9 c9 b2 (s_bh (A 8) t) rfl hcf9 ⟨by omega, by omega, by omega⟩ (fun k hk => by rw [k3]; show dsr A w2 c9 (0 + k) = _; rw [Nat.zero_add]; exact k6 k hk) (by omega))
        have e1 : (s_fold (s_flt (A 5) (A 6) (A 7) (A 2) (q 35)) (s_K (A 8) (s_bh (A 8) fl) t) bs) = s_fold (s_flt (A 5) (A 6) (A 7) (A 2) (q 35)) (s_K (A 8) (s_bh (A 8) fl) (s_bh (A 8) t)) b2 := by
          rw [s_K_step (t := t) (by omega)]
          show (s_flt (A 5) (A 6) (A 7) (A 2) (q 35) t (fun k => bs.getD k 0) bs.length).bind _ = _
          rw [k1, Option.bind_some, if_pos k2]
        rw [e1]
        exact fun _ _ h => h
      · omega
    · refine x_iconst (x_d C_D_run 51 rfl) ⟨by omega, by omega⟩ ?_
      refine x_ireturn (x_d C_D_run 52 rfl) ?_
      rw [s_K_step (t := t) (by omega)]
      rcases hz1 with ⟨h1, h2⟩ | ⟨h1, h2⟩
      · omega
      · refine ⟨u2, w2, S9, T9, c9, hcf9, rfl, Or.inr ⟨rfl, ?_⟩⟩
        show ((s_flt (A 5) (A 6) (A 7) (A 2) (q 35) t (fun k => bs.getD k 0) bs.length).bind _).bind _ = none
        cases hy : s_flt (A 5) (A 6) (A 7) (A 2) (q 35) t (fun k => bs.getD k 0) bs.length with
        | none => rfl
        | some b2 =>
          have := h2 b2 hy
          show (if (b2.length : Int) ≤ 3000 then _ else none).bind _ = none
          rw [if_neg (by omega)]
          rfl
theorem c_D_run (Z : xZ) (d : Nat) (q : Nat → Int) (r : Nat → Option Nat) (A : Nat → Nat → Int) (dy : xH) (hd : 9 ≤ d) (p : Int) (u : Nat → Int) (w : Nat → Nat → Int) (S S2 c : Nat) (hcf : dcf S S2 c) (hT : 0 ≤ q 34 ∧ q 34 ≤ q 35 ∧ q 35 ≤ 10248) (hR : s_okR A) (hsp : ∀ j, 0 ≤ A 8 j ∧ A 8 j ≤ 12900) (hp : 0 ≤ p ∧ p < 12900 ∧ s_bh (A 8) p ≤ 12900) (hin : ∀ x, x ∈ s_in (A 8) p → 0 ≤ x ∧ x < 12900 ∧ s_bh (A 8) x ≤ 12900) (hpt : 0 ≤ A 6 p.toNat ∧ 0 ≤ A 7 p.toNat ∧ A 6 p.toNat + A 7 p.toNat ≤ 10248) : xMet Z d Y_D_run [xC 18, xI p] (hF (dq q u) (dr r S S2 c) (dw A w) ++ dy) (fun v0 h2 => ∃ u2 w2 S9 T9 c9, dcf S9 T9 c9 ∧ h2 = hF (dq q u2) (dr r S9 T9 c9) (dw A w2) ++ dy ∧ ((v0 = some (xI 1) ∧ ∃ b2, s_dec (A 5) (A 6) (A 7) (A 8) (A 9) (A 2) (q 35) p = some b2 ∧ (0 ≤ u2 581 ∧ u2 582 = u2 581 + b2.length ∧ u2 582 ≤ dln c9) ∧ ∀ k, k < b2.length → dsr A w2 c9 ((u2 581).toNat + k) = b2.getD k 0) ∨ (v0 = some (xI 0) ∧ s_dec (A 5) (A 6) (A 7) (A 8) (A 9) (A 2) (q 35) p = none))) := by
  refine xMet_of (by decide) (Nat.le_of_ble_eq_true rfl) (fun v0 h2 hq => by obtain ⟨_, _, _, _, _, _, _, ⟨e, _⟩ | ⟨e, _⟩⟩ := hq <;> rw [e]; exact Or.inr rfl; exact Or.inl rfl) ?_
  obtain ⟨fl, hfl⟩ : ∃ fl, fl = (s_first (fun t => decide (0 ≤ s_the (A 2) (q 35) (A 9 t.toNat) [70, 105, 108, 116, 101, 114])) (s_in (A 8) p)) := ⟨_, rfl⟩
  have hf1 := s_first_in (fun t => decide (0 ≤ s_the (A 2) (q 35) (A 9 t.toNat) [70, 105, 108, 116, 101, 114])) (s_in (A 8) p)
  rw [← hfl] at hf1
  have hf2 : fl = -1 ∨ (0 ≤ fl ∧ fl < 12900 ∧ s_bh (A 8) fl ≤ 12900) := by
    rcases hf1 with h | h
    · exact Or.inl h
    · exact Or.inr (hin fl h)
  have hcf2 : dcf S S2 2 := by rcases hcf with ⟨h1, h2, _⟩ | ⟨h1, h2, _⟩; exact Or.inl ⟨h1, h2, Or.inl rfl⟩; exact Or.inr ⟨h1, h2, Or.inl rfl⟩
  have hlen : (((s_sl (A 2) (A 6 p.toNat).toNat (A 7 p.toNat).toNat)).length : Int) = A 7 p.toNat := by rw [s_sl_len]; omega
  obtain ⟨bs, hbs0⟩ : ∃ bs, bs = (s_sl (A 2) (A 6 p.toNat).toNat (A 7 p.toNat).toNat) := ⟨_, rfl⟩
  rw [← hbs0] at hlen
  obtain ⟨u1, hu1⟩ : ∃ u1, u1 = x_up (x_up u 581 (A 6 p.toNat)) 582 (A 6 p.toNat + A 7 p.toNat) := ⟨_, rfl⟩
  have hbs : 0 ≤ u1 581 ∧ u1 582 = u1 581 + bs.length ∧ u1 582 ≤ dln 2 := by rw [hu1]; show 0 ≤ A 6 p.toNat ∧ A 6 p.toNat + A 7 p.toNat = A 6 p.toNat + _ ∧ A 6 p.toNat + A 7 p.toNat ≤ (10248 : Int); omega
  have hg : ∀ k, k < bs.length → dsr A w 2 ((u1 581).toNat + k) = bs.getD k 0 := fun k hk => by rw [hbs0] at hk ⊢; rw [s_sl_len] at hk; rw [s_sl_get _ _ _ _ hk, hu1]; rfl
  have hdec : s_dec (A 5) (A 6) (A 7) (A 8) (A 9) (A 2) (q 35) p = (s_fold (s_flt (A 5) (A 6) (A 7) (A 2) (q 35)) (if fl < 0 then [] else if A 5 fl.toNat = 6 then s_in (A 8) fl else [fl]) bs).bind (fun x => if (x.length : Int) ≤ 3000 then some x else none) := by rw [hfl, hbs0]; rfl
  rw [hdec]
  refine x_aload_n (x_d C_D_run 0 rfl) rfl ?_
  refine x_aload_n (x_d C_D_run 1 rfl) rfl ?_
  refine x_getfield (v := xC 1) (x_d C_D_run 2 rfl) f_D_23 rfl rfl ?_
  refine x_getfield (v := xC 2) (x_d C_D_run 3 rfl) f_D_31 rfl rfl ?_
  refine x_putfield (h1 := hF (x_up (x_up (x_up (x_up (x_up (x_up (x_up (x_up q 581 (u 581)) 582 (u 582)) 609 (u 609)) 610 (u 610)) 611 (u 611)) 673 (u 673)) 674 (u 674)) 675 (u 675)) (x_up (x_up (x_up r 578 (some S)) 579 (some S2)) 580 (some 2)) (x_up (x_up A 20 (w 20)) 22 (w 22)) ++ dy) (x_d C_D_run 4 rfl) p_D_37 rfl rfl rfl trivial rfl ?_
  refine x_aload_n (x_d C_D_run 5 rfl) rfl ?_
  refine x_aload_n (x_d C_D_run 6 rfl) rfl ?_
  refine x_getfield (v := xC 4) (x_d C_D_run 7 rfl) f_D_27 rfl rfl ?_
  refine x_getfield (v := xC 6) (x_d C_D_run 8 rfl) f_D_40 rfl rfl ?_
  refine x_iload_n (x_d C_D_run 9 rfl) rfl ?_
  refine x_iaload (f := A 6) (x_d C_D_run 10 rfl) rfl (by omega) (by omega) ?_
  refine x_putfield (h1 := hF (x_up (x_up (x_up (x_up (x_up (x_up (x_up (x_up q 582 (u 582)) 609 (u 609)) 610 (u 610)) 611 (u 611)) 673 (u 673)) 674 (u 674)) 675 (u 675)) 581 (A 6 (p).toNat)) (x_up (x_up (x_up r 578 (some S)) 579 (some S2)) 580 (some 2)) (x_up (x_up A 20 (w 20)) 22 (w 22)) ++ dy) (x_d C_D_run 11 rfl) p_D_46 rfl rfl rfl trivial rfl ?_
  refine x_aload_n (x_d C_D_run 12 rfl) rfl ?_
  refine x_aload_n (x_d C_D_run 13 rfl) rfl ?_
  refine x_getfield (v := xI (A 6 (p).toNat)) (x_d C_D_run 14 rfl) f_D_46 rfl rfl ?_
  refine x_aload_n (x_d C_D_run 15 rfl) rfl ?_
  refine x_getfield (v := xC 4) (x_d C_D_run 16 rfl) f_D_27 rfl rfl ?_
  refine x_getfield (v := xC 7) (x_d C_D_run 17 rfl) f_D_50 rfl rfl ?_
  refine x_iload_n (x_d C_D_run 18 rfl) rfl ?_
  refine x_iaload (f := A 7) (x_d C_D_run 19 rfl) rfl (by omega) (by omega) ?_
  refine x_iadd (x_d C_D_run 20 rfl) ⟨by omega, by omega⟩ ?_
  refine x_putfield (h1 := hF (x_up (x_up (x_up (x_up (x_up (x_up (x_up (x_up q 609 (u 609)) 610 (u 610)) 611 (u 611)) 673 (u 673)) 674 (u 674)) 675 (u 675)) 581 (A 6 (p).toNat)) 582 ((A 6 (p).toNat) + (A 7 (p).toNat))) (x_up (x_up (x_up r 578 (some S)) 579 (some S2)) 580 (some 2)) (x_up (x_up A 20 (w 20)) 22 (w 22)) ++ dy) (x_d C_D_run 21 rfl) p_D_53 rfl rfl rfl trivial rfl ?_
  refine x_aload_n (x_d C_D_run 22 rfl) rfl ?_
  refine x_getfield (v := xC 4) (x_d C_D_run 23 rfl) f_D_27 rfl rfl ?_
  refine x_iload_n (x_d C_D_run 24 rfl) rfl ?_
  refine x_ldcS (i := 22) (x_d C_D_run 25 rfl) rfl ?_
  refine x_invokevirtual (st := []) (av := [xI (p), xS (45)]) (x_d C_D_run 26 rfl) k_D_58 m_P_named v_P_named cl_P rfl rfl (Nat.le_of_ble_eq_true rfl) (by omega) rfl (c_P_named Z (d - 1) (x_up (x_up (x_up (x_up (x_up (x_up (x_up (x_up q 609 (u 609)) 610 (u 610)) 611 (u 611)) 673 (u 673)) 674 (u 674)) 675 (u 675)) 581 (A 6 (p).toNat)) 582 ((A 6 (p).toNat) + (A 7 (p).toNat))) (x_up (x_up (x_up r 578 (some S)) 579 (some S2)) 580 (some 2)) (x_up (x_up A 20 (w 20)) 22 (w 22)) dy (by omega) (i := 22) rfl p hT hR hsp hp) ?_
  rintro v_ h_ ⟨hv_, hh_⟩
  obtain rfl : v_ = some (xI fl) := by rw [hfl]; exact hv_
  obtain rfl : h_ = hF (dq q u1) (dr r S S2 2) (dw A w) ++ dy := by rw [hh_, hu1]; rfl
  refine x_istore_n (l1 := [(2, xI (fl)), (0, xC 18), (1, xI (p))]) (x_d C_D_run 27 rfl) (by decide) rfl ?_
  refine x_iload_n (x_d C_D_run 28 rfl) rfl ?_
  refine x_if_lt (tgt := 112) (x_d C_D_run 29 rfl) rfl (fun c1 => ?_) (fun c1 => ?_)
  · refine x_iload_n (x_d C_D_run 60 rfl) rfl ?_
    refine x_if_lt (tgt := 126) (x_d C_D_run 61 rfl) rfl (fun _ => ?_) (fun q => absurd q (by omega))
    refine x_locs [1, 2, 0] rfl ?_
    rw [if_pos (show fl < 0 by omega)]
    exact w_D_run_126 Z d q r A dy p fl u1 w S S2 2 bs hcf2 hbs hg
  · refine x_aload_n (x_d C_D_run 30 rfl) rfl ?_
    refine x_getfield (v := xC 4) (x_d C_D_run 31 rfl) f_D_27 rfl rfl ?_
    refine x_getfield (v := xC 5) (x_d C_D_run 32 rfl) f_D_62 rfl rfl ?_
    refine x_iload_n (x_d C_D_run 33 rfl) rfl ?_
    refine x_iaload (f := A 5) (x_d C_D_run 34 rfl) rfl (by omega) (by omega) ?_
    refine x_bipush (x_d C_D_run 35 rfl) (by omega) ?_
    refine x_icmp_ne (tgt := 112) (x_d C_D_run 36 rfl) rfl (fun c3 => ?_) (fun c3 => ?_)
    · refine x_iload_n (x_d C_D_run 60 rfl) rfl ?_
      refine x_if_lt (tgt := 126) (x_d C_D_run 61 rfl) rfl (fun q => absurd q (by omega)) (fun _ => ?_)
      refine x_aload_n (x_d C_D_run 62 rfl) rfl ?_
      refine x_iload_n (x_d C_D_run 63 rfl) rfl ?_
      refine x_invokevirtual (st := []) (av := [xI (fl)]) (x_d C_D_run 64 rfl) k_D_69 m_D_pass v_D_pass cl_D rfl rfl (Nat.le_of_ble_eq_true rfl) (by omega) rfl (c_D_pass Z (d - 1) q r A dy u1 w (by omega) S S2 2 hcf2 fl (fun k => bs.getD k 0) bs.length hT (by omega) hbs hg) ?_
      rintro v_ h_ ⟨u2, w2, hr_⟩
      obtain ⟨z1, S9, T9, c9, rfl, rfl, hcf9, hz1⟩ : ∃ (z : Int) (S9 T9 c9 : Nat), v_ = some (xI z) ∧ h_ = hF (dq q u2) (dr r S9 T9 c9) (dw A w2) ++ dy ∧ dcf S9 T9 c9 ∧ ((z = 1 ∧ ∃ b2, s_flt (A 5) (A 6) (A 7) (A 2) (q 35) fl (fun k => bs.getD k 0) bs.length = some b2 ∧ (b2.length : Int) ≤ 3000 ∧ u2 581 = 0 ∧ u2 582 = b2.length ∧ dln c9 = 3000 ∧ ∀ k, k < b2.length → dsr A w2 c9 k = b2.getD k 0) ∨ (z = 0 ∧ ∀ b2, s_flt (A 5) (A 6) (A 7) (A 2) (q 35) fl (fun k => bs.getD k 0) bs.length = some b2 → 3000 < (b2.length : Int))) := by
        rcases hr_ with ⟨h1, h2, h3⟩ | ⟨h1, h2, h3⟩
        · refine ⟨1, S2, S, S + 1, h1, h2, ?_, Or.inl ⟨rfl, ?_⟩⟩
          · rcases hcf2 with ⟨rfl, rfl, _⟩ | ⟨rfl, rfl, _⟩
            · exact Or.inr ⟨rfl, rfl, Or.inr rfl⟩
            · exact Or.inl ⟨rfl, rfl, Or.inr rfl⟩
          · obtain ⟨b2, k1, k2, k3, k4, k5⟩ := h3
            have e1 : ¬ S + 1 = 2 := by rcases hcf2 with ⟨rfl, _⟩ | ⟨rfl, _⟩ <;> decide
            exact ⟨b2, k1, k2, k3, k4, if_neg e1, fun k hk => by unfold dsr; rw [if_neg e1]; exact k5 k hk⟩
        · exact ⟨0, S, S2, 2, h1, h2, hcf2, Or.inr ⟨rfl, h3⟩⟩
      clear hr_
      refine x_if_ne (tgt := 126) (x_d C_D_run 65 rfl) rfl (fun c5 => ?_) (fun c5 => ?_)
      · refine x_locs [1, 2, 0] rfl ?_
        rw [if_neg (show ¬ fl < 0 by omega), if_neg (show ¬ A 5 fl.toNat = 6 by omega)]
        rcases hz1 with ⟨h1, b2, k1, k2, k3, k4, k5, k6⟩ | ⟨h1, h2⟩
        · have e1 : (s_fold (s_flt (A 5) (A 6) (A 7) (A 2) (q 35)) [fl] bs) = some b2 := by
            show (s_flt (A 5) (A 6) (A 7) (A 2) (q 35) fl (fun k => bs.getD k 0) bs.length).bind _ = _
            rw [k1, Option.bind_some, if_pos k2]
            rfl
          rw [e1]
          exact w_D_run_126 Z d q r A dy p fl u2 w2 S9 T9 c9 b2 hcf9 ⟨by omega, by omega, by omega⟩ (fun k hk => by rw [k3]; show dsr A w2 c9 (0 + k) = _; rw [Nat.zero_add]; exact k6 k hk)
        · omega
      · refine x_iconst (x_d C_D_run 66 rfl) ⟨by omega, by omega⟩ ?_
        refine x_ireturn (x_d C_D_run 67 rfl) ?_
        rw [if_neg (show ¬ fl < 0 by omega), if_neg (show ¬ A 5 fl.toNat = 6 by omega)]
        rcases hz1 with ⟨h1, h2⟩ | ⟨h1, h2⟩
        · omega
        · refine ⟨u2, w2, S9, T9, c9, hcf9, rfl, Or.inr ⟨rfl, ?_⟩⟩
          show ((s_flt (A 5) (A 6) (A 7) (A 2) (q 35) fl (fun k => bs.getD k 0) bs.length).bind _).bind _ = none
          cases hy : s_flt (A 5) (A 6) (A 7) (A 2) (q 35) fl (fun k => bs.getD k 0) bs.length with
          | none => rfl
          | some b2 =>
            have := h2 b2 hy
            show (if (b2.length : Int) ≤ 3000 then _ else none).bind _ = none
            rw [if_neg (by omega)]
            rfl
    · refine x_iload_n (x_d C_D_run 37 rfl) rfl ?_
      refine x_iconst (x_d C_D_run 38 rfl) ⟨by omega, by omega⟩ ?_
      refine x_iadd (x_d C_D_run 39 rfl) ⟨by omega, by omega⟩ ?_
      refine x_istore_n (l1 := [(3, xI (fl + 1)), (2, xI (fl)), (0, xC 18), (1, xI (p))]) (x_d C_D_run 40 rfl) (by decide) rfl ?_
      refine x_locs [2, 3, 1, 0] rfl ?_
      rw [if_neg (show ¬ fl < 0 by omega), if_pos (show A 5 fl.toNat = 6 by omega)]
      exact w_D_run_75 Z d q r A dy hd p fl hT hsp (by omega) _ u1 w S S2 2 bs (fl + 1) rfl hcf2 hbs hg (by omega)
