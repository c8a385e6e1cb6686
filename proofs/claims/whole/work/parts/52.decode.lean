/-! the decoder: a pass -/
/-- what the decoder keeps: numbers u, rows w, its sink S, the other S2, its source c -/
def dq (q u : Nat → Int) : Nat → Int := x_up (x_up (x_up (x_up (x_up (x_up (x_up (x_up (q) 581 (u 581)) 582 (u 582)) 609 (u 609)) 610 (u 610)) 611 (u 611)) 673 (u 673)) 674 (u 674)) 675 (u 675)
def dw (A w : Nat → Nat → Int) : Nat → Nat → Int := x_up (x_up A 20 (w 20)) 22 (w 22)
def dr (r : Nat → Option Nat) (S S2 c : Nat) : Nat → Option Nat := x_up (x_up (x_up r 578 (some S)) 579 (some S2)) 580 (some c)
theorem c_D_pass_19_2 (Z : xZ) (d : Nat) (q : Nat → Int) (r : Nat → Option Nat) (A : Nat → Nat → Int) (dy : xH) (u : Nat → Int) (w : Nat → Nat → Int) (hd : 8 ≤ d) (p : Int) (g : Nat → Int) (n : Nat) (hT : 0 ≤ q 34 ∧ q 34 ≤ q 35 ∧ q 35 ≤ 10248) (hpp : p < 12900) (hn : 0 ≤ u 581 ∧ u 582 = u 581 + n ∧ u 582 ≤ 10248) (hg : ∀ k, k < n → A 2 ((u 581).toNat + k) = g k) : xMet Z d Y_D_pass [xC 18, xI p] (hF (dq q u) (dr r 19 21 2) (dw A w) ++ dy) (fun v0 h2 => ∃ u2 w2, (v0 = some (xI 1) ∧ h2 = hF (dq q u2) (dr r 21 19 20) (dw A w2) ++ dy ∧ ∃ b2, s_flt (A 5) (A 6) (A 7) (A 2) (q 35) p g n = some b2 ∧ (b2.length : Int) ≤ 3000 ∧ u2 581 = 0 ∧ u2 582 = b2.length ∧ ∀ k, k < b2.length → w2 20 k = b2.getD k 0) ∨ (v0 = some (xI 0) ∧ h2 = hF (dq q u2) (dr r 19 21 2) (dw A w2) ++ dy ∧ ∀ b2, s_flt (A 5) (A 6) (A 7) (A 2) (q 35) p g n = some b2 → 3000 < (b2.length : Int))) := by
  refine xMet_of (by decide) (Nat.le_of_ble_eq_true rfl) (fun v0 h2 hq => by obtain ⟨_, _, ⟨e, _⟩ | ⟨e, _⟩⟩ := hq <;> rw [e]; exact Or.inr rfl; exact Or.inl rfl) ?_
  refine x_aload_n (x_d C_D_pass 0 rfl) rfl ?_
  refine x_getfield (v := xC 19) (x_d C_D_pass 1 rfl) f_D_14 rfl rfl ?_
  refine x_sipush (x_d C_D_pass 2 rfl) (by omega) ?_
  refine x_invokevirtual (st := []) (av := [xI (3000)]) (x_d C_D_pass 3 rfl) k_D_73 m_Pa_start v_Pa_start cl_Pa rfl rfl (Nat.le_of_ble_eq_true rfl) (by omega) rfl (c_Pa_start_19 Z (d - 1) (x_up (x_up (x_up (x_up (x_up (x_up (x_up (x_up q 581 (u 581)) 582 (u 582)) 609 (u 609)) 610 (u 610)) 611 (u 611)) 673 (u 673)) 674 (u 674)) 675 (u 675)) (x_up (x_up (x_up r 578 (some 19)) 579 (some 21)) 580 (some 2)) (x_up (x_up A 20 (w 20)) 22 (w 22)) dy (by omega) 3000) ?_
  rintro _ _ ⟨rfl, rfl⟩
  refine x_aload_n (x_d C_D_pass 4 rfl) rfl ?_
  refine x_iload_n (x_d C_D_pass 5 rfl) rfl ?_
  refine x_invokevirtual (st := []) (av := [xI (p)]) (x_d C_D_pass 6 rfl) k_D_76 m_D_passNamed v_D_passNamed cl_D rfl rfl (Nat.le_of_ble_eq_true rfl) (by omega) rfl (c_D_passNamed_19_2 Z (d - 1) (x_up (x_up (x_up (x_up (x_up (x_up q 581 (u 581)) 582 (u 582)) 611 3000) 673 (u 673)) 674 (u 674)) 675 (u 675)) (x_up r 579 (some 21)) (x_up A 22 (w 22)) dy g n (by omega) 0 0 (w 20) [] p (show (0 : Int) ≤ 3000 ∧ (3000 : Int) ≤ 3000 by omega) hn hg hT hpp (pb_start (show (0 : Int) ≤ 3000 by omega) _)) ?_
  rintro v_ _ ⟨s1, o1, f1, rfl, hr_⟩
  rw [s_mapnil] at hr_
  obtain ⟨z1, rfl, hz1⟩ : ∃ z : Int, v_ = some (xI z) ∧ ((z = 1 ∧ ∃ b2, s_flt (A 5) (A 6) (A 7) (A 2) (q 35) p g n = some b2 ∧ pb 3000 s1 o1 f1 b2) ∨ (z = 0 ∧ ∀ b2, s_flt (A 5) (A 6) (A 7) (A 2) (q 35) p g n = some b2 → (3000 : Int) < b2.length)) := by
    rcases hr_ with ⟨h1_, h2_⟩ | ⟨h1_, h2_⟩
    · exact ⟨1, h1_, Or.inl ⟨rfl, h2_⟩⟩
    · exact ⟨0, h1_, Or.inr ⟨rfl, h2_⟩⟩
  refine x_if_eq (tgt := 28) (x_d C_D_pass 7 rfl) rfl (fun c1 => ?_) (fun c1 => ?_)
  · refine x_iconst (x_d C_D_pass 12 rfl) ⟨by omega, by omega⟩ ?_
    refine x_ireturn (x_d C_D_pass 13 rfl) ?_
    refine ⟨x_up (x_up (x_up (x_up (x_up (x_up (x_up (x_up (u) 581 (u 581)) 582 (u 582)) 609 (s1)) 610 (o1)) 611 (3000)) 673 (u 673)) 674 (u 674)) 675 (u 675), x_up w 20 f1, Or.inr ⟨rfl, rfl, fun b2 e => ?_⟩⟩
    rcases hz1 with ⟨h1, b3, h2, h3⟩ | ⟨h1, h2⟩
    · rcases pb_ov h3 with ⟨h4, h5⟩ | ⟨h4, h5⟩
      · omega
      · have := Option.some.inj (h2.symm.trans e)
        rw [← this]
        exact h5
    · exact h2 b2 e
  · refine x_aload_n (x_d C_D_pass 8 rfl) rfl ?_
    refine x_getfield (v := xC 19) (x_d C_D_pass 9 rfl) f_D_14 rfl rfl ?_
    refine x_getfield (v := xI (o1)) (x_d C_D_pass 10 rfl) f_D_79 rfl rfl ?_
    refine x_if_eq (tgt := 30) (x_d C_D_pass 11 rfl) rfl (fun c2 => ?_) (fun c2 => ?_)
    · refine x_aload_n (x_d C_D_pass 14 rfl) rfl ?_
      refine x_getfield (v := xC 19) (x_d C_D_pass 15 rfl) f_D_14 rfl rfl ?_
      refine x_astore_n (l1 := [(2, xC 19), (0, xC 18), (1, xI (p))]) (x_d C_D_pass 16 rfl) (by decide) rfl ?_
      refine x_aload_n (x_d C_D_pass 17 rfl) rfl ?_
      refine x_aload_n (x_d C_D_pass 18 rfl) rfl ?_
      refine x_getfield (v := xC 21) (x_d C_D_pass 19 rfl) f_D_20 rfl rfl ?_
      refine x_putfield (h1 := hF (x_up (x_up (x_up (x_up (x_up (x_up (x_up (x_up q 581 (u 581)) 582 (u 582)) 609 s1) 610 o1) 611 3000) 673 (u 673)) 674 (u 674)) 675 (u 675)) (x_up (x_up (x_up r 579 (some 21)) 580 (some 2)) 578 (some 21)) (x_up (x_up A 20 f1) 22 (w 22)) ++ dy) (x_d C_D_pass 20 rfl) p_D_14 rfl rfl rfl trivial rfl ?_
      refine x_aload_n (x_d C_D_pass 21 rfl) rfl ?_
      refine x_aload_n (x_d C_D_pass 22 rfl) rfl ?_
      refine x_putfield (h1 := hF (x_up (x_up (x_up (x_up (x_up (x_up (x_up (x_up q 581 (u 581)) 582 (u 582)) 609 s1) 610 o1) 611 3000) 673 (u 673)) 674 (u 674)) 675 (u 675)) (x_up (x_up (x_up r 580 (some 2)) 578 (some 21)) 579 (some 19)) (x_up (x_up A 20 f1) 22 (w 22)) ++ dy) (x_d C_D_pass 23 rfl) p_D_20 rfl rfl rfl trivial rfl ?_
      refine x_aload_n (x_d C_D_pass 24 rfl) rfl ?_
      refine x_aload_n (x_d C_D_pass 25 rfl) rfl ?_
      refine x_getfield (v := xC 20) (x_d C_D_pass 26 rfl) f_D_83 rfl rfl ?_
      refine x_putfield (h1 := hF (x_up (x_up (x_up (x_up (x_up (x_up (x_up (x_up q 581 (u 581)) 582 (u 582)) 609 s1) 610 o1) 611 3000) 673 (u 673)) 674 (u 674)) 675 (u 675)) (x_up (x_up (x_up r 578 (some 21)) 579 (some 19)) 580 (some 20)) (x_up (x_up A 20 f1) 22 (w 22)) ++ dy) (x_d C_D_pass 27 rfl) p_D_37 rfl rfl rfl trivial rfl ?_
      refine x_aload_n (x_d C_D_pass 28 rfl) rfl ?_
      refine x_iconst (x_d C_D_pass 29 rfl) ⟨by omega, by omega⟩ ?_
      refine x_putfield (h1 := hF (x_up (x_up (x_up (x_up (x_up (x_up (x_up (x_up q 582 (u 582)) 609 s1) 610 o1) 611 3000) 673 (u 673)) 674 (u 674)) 675 (u 675)) 581 0) (x_up (x_up (x_up r 578 (some 21)) 579 (some 19)) 580 (some 20)) (x_up (x_up A 20 f1) 22 (w 22)) ++ dy) (x_d C_D_pass 30 rfl) p_D_46 rfl rfl rfl trivial rfl ?_
      refine x_aload_n (x_d C_D_pass 31 rfl) rfl ?_
      refine x_aload_n (x_d C_D_pass 32 rfl) rfl ?_
      refine x_getfield (v := xI (s1)) (x_d C_D_pass 33 rfl) f_D_84 rfl rfl ?_
      refine x_putfield (h1 := hF (x_up (x_up (x_up (x_up (x_up (x_up (x_up (x_up q 609 s1) 610 o1) 611 3000) 673 (u 673)) 674 (u 674)) 675 (u 675)) 581 0) 582 s1) (x_up (x_up (x_up r 578 (some 21)) 579 (some 19)) 580 (some 20)) (x_up (x_up A 20 f1) 22 (w 22)) ++ dy) (x_d C_D_pass 34 rfl) p_D_53 rfl rfl rfl trivial rfl ?_
      refine x_iconst (x_d C_D_pass 35 rfl) ⟨by omega, by omega⟩ ?_
      refine x_ireturn (x_d C_D_pass 36 rfl) ?_
      rcases hz1 with ⟨h1, b3, h2, h3⟩ | ⟨h1, h2⟩
      · obtain ⟨k1, k2, ⟨k3, k4, k5, k6⟩ | ⟨k3, k4⟩⟩ := h3
        · exact ⟨x_up (x_up (x_up (x_up (x_up (x_up (x_up (x_up (u) 581 (0)) 582 (s1)) 609 (s1)) 610 (o1)) 611 (3000)) 673 (u 673)) 674 (u 674)) 675 (u 675), x_up w 20 f1, Or.inl ⟨rfl, rfl, b3, h2, k3, rfl, k5, k6⟩⟩
        · omega
      · omega
    · refine x_iconst (x_d C_D_pass 12 rfl) ⟨by omega, by omega⟩ ?_
      refine x_ireturn (x_d C_D_pass 13 rfl) ?_
      refine ⟨x_up (x_up (x_up (x_up (x_up (x_up (x_up (x_up (u) 581 (u 581)) 582 (u 582)) 609 (s1)) 610 (o1)) 611 (3000)) 673 (u 673)) 674 (u 674)) 675 (u 675), x_up w 20 f1, Or.inr ⟨rfl, rfl, fun b2 e => ?_⟩⟩
      rcases hz1 with ⟨h1, b3, h2, h3⟩ | ⟨h1, h2⟩
      · rcases pb_ov h3 with ⟨h4, h5⟩ | ⟨h4, h5⟩
        · omega
        · have := Option.some.inj (h2.symm.trans e)
          rw [← this]
          exact h5
      · exact h2 b2 e
theorem c_D_pass_19_22 (Z : xZ) (d : Nat) (q : Nat → Int) (r : Nat → Option Nat) (A : Nat → Nat → Int) (dy : xH) (u : Nat → Int) (w : Nat → Nat → Int) (hd : 8 ≤ d) (p : Int) (g : Nat → Int) (n : Nat) (hT : 0 ≤ q 34 ∧ q 34 ≤ q 35 ∧ q 35 ≤ 10248) (hpp : p < 12900) (hn : 0 ≤ u 581 ∧ u 582 = u 581 + n ∧ u 582 ≤ 3000) (hg : ∀ k, k < n → w 22 ((u 581).toNat + k) = g k) : xMet Z d Y_D_pass [xC 18, xI p] (hF (dq q u) (dr r 19 21 22) (dw A w) ++ dy) (fun v0 h2 => ∃ u2 w2, (v0 = some (xI 1) ∧ h2 = hF (dq q u2) (dr r 21 19 20) (dw A w2) ++ dy ∧ ∃ b2, s_flt (A 5) (A 6) (A 7) (A 2) (q 35) p g n = some b2 ∧ (b2.length : Int) ≤ 3000 ∧ u2 581 = 0 ∧ u2 582 = b2.length ∧ ∀ k, k < b2.length → w2 20 k = b2.getD k 0) ∨ (v0 = some (xI 0) ∧ h2 = hF (dq q u2) (dr r 19 21 22) (dw A w2) ++ dy ∧ ∀ b2, s_flt (A 5) (A 6) (A 7) (A 2) (q 35) p g n = some b2 → 3000 < (b2.length : Int))) := by
  refine xMet_of (by decide) (Nat.le_of_ble_eq_true rfl) (fun v0 h2 hq => by obtain ⟨_, _, ⟨e, _⟩ | ⟨e, _⟩⟩ := hq <;> rw [e]; exact Or.inr rfl; exact Or.inl rfl) ?_
  refine x_aload_n (x_d C_D_pass 0 rfl) rfl ?_
  refine x_getfield (v := xC 19) (x_d C_D_pass 1 rfl) f_D_14 rfl rfl ?_
  refine x_sipush (x_d C_D_pass 2 rfl) (by omega) ?_
  refine x_invokevirtual (st := []) (av := [xI (3000)]) (x_d C_D_pass 3 rfl) k_D_73 m_Pa_start v_Pa_start cl_Pa rfl rfl (Nat.le_of_ble_eq_true rfl) (by omega) rfl (c_Pa_start_19 Z (d - 1) (x_up (x_up (x_up (x_up (x_up (x_up (x_up (x_up q 581 (u 581)) 582 (u 582)) 609 (u 609)) 610 (u 610)) 611 (u 611)) 673 (u 673)) 674 (u 674)) 675 (u 675)) (x_up (x_up (x_up r 578 (some 19)) 579 (some 21)) 580 (some 22)) (x_up (x_up A 20 (w 20)) 22 (w 22)) dy (by omega) 3000) ?_
  rintro _ _ ⟨rfl, rfl⟩
  refine x_aload_n (x_d C_D_pass 4 rfl) rfl ?_
  refine x_iload_n (x_d C_D_pass 5 rfl) rfl ?_
  refine x_invokevirtual (st := []) (av := [xI (p)]) (x_d C_D_pass 6 rfl) k_D_76 m_D_passNamed v_D_passNamed cl_D rfl rfl (Nat.le_of_ble_eq_true rfl) (by omega) rfl (c_D_passNamed_19_22 Z (d - 1) (x_up (x_up (x_up (x_up (x_up (x_up q 581 (u 581)) 582 (u 582)) 611 3000) 673 (u 673)) 674 (u 674)) 675 (u 675)) (x_up r 579 (some 21)) (x_up A 22 (w 22)) dy g n (by omega) 0 0 (w 20) [] p (show (0 : Int) ≤ 3000 ∧ (3000 : Int) ≤ 3000 by omega) hn hg hT hpp (pb_start (show (0 : Int) ≤ 3000 by omega) _)) ?_
  rintro v_ _ ⟨s1, o1, f1, rfl, hr_⟩
  rw [s_mapnil] at hr_
  obtain ⟨z1, rfl, hz1⟩ : ∃ z : Int, v_ = some (xI z) ∧ ((z = 1 ∧ ∃ b2, s_flt (A 5) (A 6) (A 7) (A 2) (q 35) p g n = some b2 ∧ pb 3000 s1 o1 f1 b2) ∨ (z = 0 ∧ ∀ b2, s_flt (A 5) (A 6) (A 7) (A 2) (q 35) p g n = some b2 → (3000 : Int) < b2.length)) := by
    rcases hr_ with ⟨h1_, h2_⟩ | ⟨h1_, h2_⟩
    · exact ⟨1, h1_, Or.inl ⟨rfl, h2_⟩⟩
    · exact ⟨0, h1_, Or.inr ⟨rfl, h2_⟩⟩
  refine x_if_eq (tgt := 28) (x_d C_D_pass 7 rfl) rfl (fun c1 => ?_) (fun c1 => ?_)
  · refine x_iconst (x_d C_D_pass 12 rfl) ⟨by omega, by omega⟩ ?_
    refine x_ireturn (x_d C_D_pass 13 rfl) ?_
    refine ⟨x_up (x_up (x_up (x_up (x_up (x_up (x_up (x_up (u) 581 (u 581)) 582 (u 582)) 609 (s1)) 610 (o1)) 611 (3000)) 673 (u 673)) 674 (u 674)) 675 (u 675), x_up w 20 f1, Or.inr ⟨rfl, rfl, fun b2 e => ?_⟩⟩
    rcases hz1 with ⟨h1, b3, h2, h3⟩ | ⟨h1, h2⟩
    · rcases pb_ov h3 with ⟨h4, h5⟩ | ⟨h4, h5⟩
      · omega
      · have := Option.some.inj (h2.symm.trans e)
        rw [← this]
        exact h5
    · exact h2 b2 e
  · refine x_aload_n (x_d C_D_pass 8 rfl) rfl ?_
    refine x_getfield (v := xC 19) (x_d C_D_pass 9 rfl) f_D_14 rfl rfl ?_
    refine x_getfield (v := xI (o1)) (x_d C_D_pass 10 rfl) f_D_79 rfl rfl ?_
    refine x_if_eq (tgt := 30) (x_d C_D_pass 11 rfl) rfl (fun c2 => ?_) (fun c2 => ?_)
    · refine x_aload_n (x_d C_D_pass 14 rfl) rfl ?_
      refine x_getfield (v := xC 19) (x_d C_D_pass 15 rfl) f_D_14 rfl rfl ?_
      refine x_astore_n (l1 := [(2, xC 19), (0, xC 18), (1, xI (p))]) (x_d C_D_pass 16 rfl) (by decide) rfl ?_
      refine x_aload_n (x_d C_D_pass 17 rfl) rfl ?_
      refine x_aload_n (x_d C_D_pass 18 rfl) rfl ?_
      refine x_getfield (v := xC 21) (x_d C_D_pass 19 rfl) f_D_20 rfl rfl ?_
      refine x_putfield (h1 := hF (x_up (x_up (x_up (x_up (x_up (x_up (x_up (x_up q 581 (u 581)) 582 (u 582)) 609 s1) 610 o1) 611 3000) 673 (u 673)) 674 (u 674)) 675 (u 675)) (x_up (x_up (x_up r 579 (some 21)) 580 (some 22)) 578 (some 21)) (x_up (x_up A 20 f1) 22 (w 22)) ++ dy) (x_d C_D_pass 20 rfl) p_D_14 rfl rfl rfl trivial rfl ?_
      refine x_aload_n (x_d C_D_pass 21 rfl) rfl ?_
      refine x_aload_n (x_d C_D_pass 22 rfl) rfl ?_
      refine x_putfield (h1 := hF (x_up (x_up (x_up (x_up (x_up (x_up (x_up (x_up q 581 (u 581)) 582 (u 582)) 609 s1) 610 o1) 611 3000) 673 (u 673)) 674 (u 674)) 675 (u 675)) (x_up (x_up (x_up r 580 (some 22)) 578 (some 21)) 579 (some 19)) (x_up (x_up A 20 f1) 22 (w 22)) ++ dy) (x_d C_D_pass 23 rfl) p_D_20 rfl rfl rfl trivial rfl ?_
      refine x_aload_n (x_d C_D_pass 24 rfl) rfl ?_
      refine x_aload_n (x_d C_D_pass 25 rfl) rfl ?_
      refine x_getfield (v := xC 20) (x_d C_D_pass 26 rfl) f_D_83 rfl rfl ?_
      refine x_putfield (h1 := hF (x_up (x_up (x_up (x_up (x_up (x_up (x_up (x_up q 581 (u 581)) 582 (u 582)) 609 s1) 610 o1) 611 3000) 673 (u 673)) 674 (u 674)) 675 (u 675)) (x_up (x_up (x_up r 578 (some 21)) 579 (some 19)) 580 (some 20)) (x_up (x_up A 20 f1) 22 (w 22)) ++ dy) (x_d C_D_pass 27 rfl) p_D_37 rfl rfl rfl trivial rfl ?_
      refine x_aload_n (x_d C_D_pass 28 rfl) rfl ?_
      refine x_iconst (x_d C_D_pass 29 rfl) ⟨by omega, by omega⟩ ?_
      refine x_putfield (h1 := hF (x_up (x_up (x_up (x_up (x_up (x_up (x_up (x_up q 582 (u 582)) 609 s1) 610 o1) 611 3000) 673 (u 673)) 674 (u 674)) 675 (u 675)) 581 0) (x_up (x_up (x_up r 578 (some 21)) 579 (some 19)) 580 (some 20)) (x_up (x_up A 20 f1) 22 (w 22)) ++ dy) (x_d C_D_pass 30 rfl) p_D_46 rfl rfl rfl trivial rfl ?_
      refine x_aload_n (x_d C_D_pass 31 rfl) rfl ?_
      refine x_aload_n (x_d C_D_pass 32 rfl) rfl ?_
      refine x_getfield (v := xI (s1)) (x_d C_D_pass 33 rfl) f_D_84 rfl rfl ?_
      refine x_putfield (h1 := hF (x_up (x_up (x_up (x_up (x_up (x_up (x_up (x_up q 609 s1) 610 o1) 611 3000) 673 (u 673)) 674 (u 674)) 675 (u 675)) 581 0) 582 s1) (x_up (x_up (x_up r 578 (some 21)) 579 (some 19)) 580 (some 20)) (x_up (x_up A 20 f1) 22 (w 22)) ++ dy) (x_d C_D_pass 34 rfl) p_D_53 rfl rfl rfl trivial rfl ?_
      refine x_iconst (x_d C_D_pass 35 rfl) ⟨by omega, by omega⟩ ?_
      refine x_ireturn (x_d C_D_pass 36 rfl) ?_
      rcases hz1 with ⟨h1, b3, h2, h3⟩ | ⟨h1, h2⟩
      · obtain ⟨k1, k2, ⟨k3, k4, k5, k6⟩ | ⟨k3, k4⟩⟩ := h3
        · exact ⟨x_up (x_up (x_up (x_up (x_up (x_up (x_up (x_up (u) 581 (0)) 582 (s1)) 609 (s1)) 610 (o1)) 611 (3000)) 673 (u 673)) 674 (u 674)) 675 (u 675), x_up w 20 f1, Or.inl ⟨rfl, rfl, b3, h2, k3, rfl, k5, k6⟩⟩
        · omega
      · omega
    · refine x_iconst (x_d C_D_pass 12 rfl) ⟨by omega, by omega⟩ ?_
      refine x_ireturn (x_d C_D_pass 13 rfl) ?_
      refine ⟨x_up (x_up (x_up (x_up (x_up (x_up (x_up (x_up (u) 581 (u 581)) 582 (u 582)) 609 (s1)) 610 (o1)) 611 (3000)) 673 (u 673)) 674 (u 674)) 675 (u 675), x_up w 20 f1, Or.inr ⟨rfl, rfl, fun b2 e => ?_⟩⟩
      rcases hz1 with ⟨h1, b3, h2, h3⟩ | ⟨h1, h2⟩
      · rcases pb_ov h3 with ⟨h4, h5⟩ | ⟨h4, h5⟩
        · omega
        · have := Option.some.inj (h2.symm.trans e)
          rw [← this]
          exact h5
      · exact h2 b2 e
theorem c_D_pass_21_2 (Z : xZ) (d : Nat) (q : Nat → Int) (r : Nat → Option Nat) (A : Nat → Nat → Int) (dy : xH) (u : Nat → Int) (w : Nat → Nat → Int) (hd : 8 ≤ d) (p : Int) (g : Nat → Int) (n : Nat) (hT : 0 ≤ q 34 ∧ q 34 ≤ q 35 ∧ q 35 ≤ 10248) (hpp : p < 12900) (hn : 0 ≤ u 581 ∧ u 582 = u 581 + n ∧ u 582 ≤ 10248) (hg : ∀ k, k < n → A 2 ((u 581).toNat + k) = g k) : xMet Z d Y_D_pass [xC 18, xI p] (hF (dq q u) (dr r 21 19 2) (dw A w) ++ dy) (fun v0 h2 => ∃ u2 w2, (v0 = some (xI 1) ∧ h2 = hF (dq q u2) (dr r 19 21 22) (dw A w2) ++ dy ∧ ∃ b2, s_flt (A 5) (A 6) (A 7) (A 2) (q 35) p g n = some b2 ∧ (b2.length : Int) ≤ 3000 ∧ u2 581 = 0 ∧ u2 582 = b2.length ∧ ∀ k, k < b2.length → w2 22 k = b2.getD k 0) ∨ (v0 = some (xI 0) ∧ h2 = hF (dq q u2) (dr r 21 19 2) (dw A w2) ++ dy ∧ ∀ b2, s_flt (A 5) (A 6) (A 7) (A 2) (q 35) p g n = some b2 → 3000 < (b2.length : Int))) := by
  refine xMet_of (by decide) (Nat.le_of_ble_eq_true rfl) (fun v0 h2 hq => by obtain ⟨_, _, ⟨e, _⟩ | ⟨e, _⟩⟩ := hq <;> rw [e]; exact Or.inr rfl; exact Or.inl rfl) ?_
  refine x_aload_n (x_d C_D_pass 0 rfl) rfl ?_
  refine x_getfield (v := xC 21) (x_d C_D_pass 1 rfl) f_D_14 rfl rfl ?_
  refine x_sipush (x_d C_D_pass 2 rfl) (by omega) ?_
  refine x_invokevirtual (st := []) (av := [xI (3000)]) (x_d C_D_pass 3 rfl) k_D_73 m_Pa_start v_Pa_start cl_Pa rfl rfl (Nat.le_of_ble_eq_true rfl) (by omega) rfl (c_Pa_start_21 Z (d - 1) (x_up (x_up (x_up (x_up (x_up (x_up (x_up (x_up q 581 (u 581)) 582 (u 582)) 609 (u 609)) 610 (u 610)) 611 (u 611)) 673 (u 673)) 674 (u 674)) 675 (u 675)) (x_up (x_up (x_up r 578 (some 21)) 579 (some 19)) 580 (some 2)) (x_up (x_up A 20 (w 20)) 22 (w 22)) dy (by omega) 3000) ?_
  rintro _ _ ⟨rfl, rfl⟩
  refine x_aload_n (x_d C_D_pass 4 rfl) rfl ?_
  refine x_iload_n (x_d C_D_pass 5 rfl) rfl ?_
  refine x_invokevirtual (st := []) (av := [xI (p)]) (x_d C_D_pass 6 rfl) k_D_76 m_D_passNamed v_D_passNamed cl_D rfl rfl (Nat.le_of_ble_eq_true rfl) (by omega) rfl (c_D_passNamed_21_2 Z (d - 1) (x_up (x_up (x_up (x_up (x_up (x_up q 581 (u 581)) 582 (u 582)) 609 (u 609)) 610 (u 610)) 611 (u 611)) 675 3000) (x_up r 579 (some 19)) (x_up A 20 (w 20)) dy g n (by omega) 0 0 (w 22) [] p (show (0 : Int) ≤ 3000 ∧ (3000 : Int) ≤ 3000 by omega) hn hg hT hpp (pb_start (show (0 : Int) ≤ 3000 by omega) _)) ?_
  rintro v_ _ ⟨s1, o1, f1, rfl, hr_⟩
  rw [s_mapnil] at hr_
  obtain ⟨z1, rfl, hz1⟩ : ∃ z : Int, v_ = some (xI z) ∧ ((z = 1 ∧ ∃ b2, s_flt (A 5) (A 6) (A 7) (A 2) (q 35) p g n = some b2 ∧ pb 3000 s1 o1 f1 b2) ∨ (z = 0 ∧ ∀ b2, s_flt (A 5) (A 6) (A 7) (A 2) (q 35) p g n = some b2 → (3000 : Int) < b2.length)) := by
    rcases hr_ with ⟨h1_, h2_⟩ | ⟨h1_, h2_⟩
    · exact ⟨1, h1_, Or.inl ⟨rfl, h2_⟩⟩
    · exact ⟨0, h1_, Or.inr ⟨rfl, h2_⟩⟩
  refine x_if_eq (tgt := 28) (x_d C_D_pass 7 rfl) rfl (fun c1 => ?_) (fun c1 => ?_)
  · refine x_iconst (x_d C_D_pass 12 rfl) ⟨by omega, by omega⟩ ?_
    refine x_ireturn (x_d C_D_pass 13 rfl) ?_
    refine ⟨x_up (x_up (x_up (x_up (x_up (x_up (x_up (x_up (u) 581 (u 581)) 582 (u 582)) 609 (u 609)) 610 (u 610)) 611 (u 611)) 673 (s1)) 674 (o1)) 675 (3000), x_up w 22 f1, Or.inr ⟨rfl, rfl, fun b2 e => ?_⟩⟩
    rcases hz1 with ⟨h1, b3, h2, h3⟩ | ⟨h1, h2⟩
    · rcases pb_ov h3 with ⟨h4, h5⟩ | ⟨h4, h5⟩
      · omega
      · have := Option.some.inj (h2.symm.trans e)
        rw [← this]
        exact h5
    · exact h2 b2 e
  · refine x_aload_n (x_d C_D_pass 8 rfl) rfl ?_
    refine x_getfield (v := xC 21) (x_d C_D_pass 9 rfl) f_D_14 rfl rfl ?_
    refine x_getfield (v := xI (o1)) (x_d C_D_pass 10 rfl) f_D_79 rfl rfl ?_
    refine x_if_eq (tgt := 30) (x_d C_D_pass 11 rfl) rfl (fun c2 => ?_) (fun c2 => ?_)
    · refine x_aload_n (x_d C_D_pass 14 rfl) rfl ?_
      refine x_getfield (v := xC 21) (x_d C_D_pass 15 rfl) f_D_14 rfl rfl ?_
      refine x_astore_n (l1 := [(2, xC 21), (0, xC 18), (1, xI (p))]) (x_d C_D_pass 16 rfl) (by decide) rfl ?_
      refine x_aload_n (x_d C_D_pass 17 rfl) rfl ?_
      refine x_aload_n (x_d C_D_pass 18 rfl) rfl ?_
      refine x_getfield (v := xC 19) (x_d C_D_pass 19 rfl) f_D_20 rfl rfl ?_
      refine x_putfield (h1 := hF (x_up (x_up (x_up (x_up (x_up (x_up (x_up (x_up q 581 (u 581)) 582 (u 582)) 609 (u 609)) 610 (u 610)) 611 (u 611)) 673 s1) 674 o1) 675 3000) (x_up (x_up (x_up r 579 (some 19)) 580 (some 2)) 578 (some 19)) (x_up (x_up A 20 (w 20)) 22 f1) ++ dy) (x_d C_D_pass 20 rfl) p_D_14 rfl rfl rfl trivial rfl ?_
      refine x_aload_n (x_d C_D_pass 21 rfl) rfl ?_
      refine x_aload_n (x_d C_D_pass 22 rfl) rfl ?_
      refine x_putfield (h1 := hF (x_up (x_up (x_up (x_up (x_up (x_up (x_up (x_up q 581 (u 581)) 582 (u 582)) 609 (u 609)) 610 (u 610)) 611 (u 611)) 673 s1) 674 o1) 675 3000) (x_up (x_up (x_up r 580 (some 2)) 578 (some 19)) 579 (some 21)) (x_up (x_up A 20 (w 20)) 22 f1) ++ dy) (x_d C_D_pass 23 rfl) p_D_20 rfl rfl rfl trivial rfl ?_
      refine x_aload_n (x_d C_D_pass 24 rfl) rfl ?_
      refine x_aload_n (x_d C_D_pass 25 rfl) rfl ?_
      refine x_getfield (v := xC 22) (x_d C_D_pass 26 rfl) f_D_83 rfl rfl ?_
      refine x_putfield (h1 := hF (x_up (x_up (x_up (x_up (x_up (x_up (x_up (x_up q 581 (u 581)) 582 (u 582)) 609 (u 609)) 610 (u 610)) 611 (u 611)) 673 s1) 674 o1) 675 3000) (x_up (x_up (x_up r 578 (some 19)) 579 (some 21)) 580 (some 22)) (x_up (x_up A 20 (w 20)) 22 f1) ++ dy) (x_d C_D_pass 27 rfl) p_D_37 rfl rfl rfl trivial rfl ?_
      refine x_aload_n (x_d C_D_pass 28 rfl) rfl ?_
      refine x_iconst (x_d C_D_pass 29 rfl) ⟨by omega, by omega⟩ ?_
      refine x_putfield (h1 := hF (x_up (x_up (x_up (x_up (x_up (x_up (x_up (x_up q 582 (u 582)) 609 (u 609)) 610 (u 610)) 611 (u 611)) 673 s1) 674 o1) 675 3000) 581 0) (x_up (x_up (x_up r 578 (some 19)) 579 (some 21)) 580 (some 22)) (x_up (x_up A 20 (w 20)) 22 f1) ++ dy) (x_d C_D_pass 30 rfl) p_D_46 rfl rfl rfl trivial rfl ?_
      refine x_aload_n (x_d C_D_pass 31 rfl) rfl ?_
      refine x_aload_n (x_d C_D_pass 32 rfl) rfl ?_
      refine x_getfield (v := xI (s1)) (x_d C_D_pass 33 rfl) f_D_84 rfl rfl ?_
      refine x_putfield (h1 := hF (x_up (x_up (x_up (x_up (x_up (x_up (x_up (x_up q 609 (u 609)) 610 (u 610)) 611 (u 611)) 673 s1) 674 o1) 675 3000) 581 0) 582 s1) (x_up (x_up (x_up r 578 (some 19)) 579 (some 21)) 580 (some 22)) (x_up (x_up A 20 (w 20)) 22 f1) ++ dy) (x_d C_D_pass 34 rfl) p_D_53 rfl rfl rfl trivial rfl ?_
      refine x_iconst (x_d C_D_pass 35 rfl) ⟨by omega, by omega⟩ ?_
      refine x_ireturn (x_d C_D_pass 36 rfl) ?_
      rcases hz1 with ⟨h1, b3, h2, h3⟩ | ⟨h1, h2⟩
      · obtain ⟨k1, k2, ⟨k3, k4, k5, k6⟩ | ⟨k3, k4⟩⟩ := h3
        · exact ⟨x_up (x_up (x_up (x_up (x_up (x_up (x_up (x_up (u) 581 (0)) 582 (s1)) 609 (u 609)) 610 (u 610)) 611 (u 611)) 673 (s1)) 674 (o1)) 675 (3000), x_up w 22 f1, Or.inl ⟨rfl, rfl, b3, h2, k3, rfl, k5, k6⟩⟩
        · omega
      · omega
    · refine x_iconst (x_d C_D_pass 12 rfl) ⟨by omega, by omega⟩ ?_
      refine x_ireturn (x_d C_D_pass 13 rfl) ?_
      refine ⟨x_up (x_up (x_up (x_up (x_up (x_up (x_up (x_up (u) 581 (u 581)) 582 (u 582)) 609 (u 609)) 610 (u 610)) 611 (u 611)) 673 (s1)) 674 (o1)) 675 (3000), x_up w 22 f1, Or.inr ⟨rfl, rfl, fun b2 e => ?_⟩⟩
      rcases hz1 with ⟨h1, b3, h2, h3⟩ | ⟨h1, h2⟩
      · rcases pb_ov h3 with ⟨h4, h5⟩ | ⟨h4, h5⟩
        · omega
        · have := Option.some.inj (h2.symm.trans e)
          rw [← this]
          exact h5
      · exact h2 b2 e
theorem c_D_pass_21_20 (Z : xZ) (d : Nat) (q : Nat → Int) (r : Nat → Option Nat) (A : Nat → Nat → Int) (dy : xH) (u : Nat → Int) (w : Nat → Nat → Int) (hd : 8 ≤ d) (p : Int) (g : Nat → Int) (n : Nat) (hT : 0 ≤ q 34 ∧ q 34 ≤ q 35 ∧ q 35 ≤ 10248) (hpp : p < 12900) (hn : 0 ≤ u 581 ∧ u 582 = u 581 + n ∧ u 582 ≤ 3000) (hg : ∀ k, k < n → w 20 ((u 581).toNat + k) = g k) : xMet Z d Y_D_pass [xC 18, xI p] (hF (dq q u) (dr r 21 19 20) (dw A w) ++ dy) (fun v0 h2 => ∃ u2 w2, (v0 = some (xI 1) ∧ h2 = hF (dq q u2) (dr r 19 21 22) (dw A w2) ++ dy ∧ ∃ b2, s_flt (A 5) (A 6) (A 7) (A 2) (q 35) p g n = some b2 ∧ (b2.length : Int) ≤ 3000 ∧ u2 581 = 0 ∧ u2 582 = b2.length ∧ ∀ k, k < b2.length → w2 22 k = b2.getD k 0) ∨ (v0 = some (xI 0) ∧ h2 = hF (dq q u2) (dr r 21 19 20) (dw A w2) ++ dy ∧ ∀ b2, s_flt (A 5) (A 6) (A 7) (A 2) (q 35) p g n = some b2 → 3000 < (b2.length : Int))) := by
  refine xMet_of (by decide) (Nat.le_of_ble_eq_true rfl) (fun v0 h2 hq => by obtain ⟨_, _, ⟨e, _⟩ | ⟨e, _⟩⟩ := hq <;> rw [e]; exact Or.inr rfl; exact Or.inl rfl) ?_
  refine x_aload_n (x_d C_D_pass 0 rfl) rfl ?_
  refine x_getfield (v := xC 21) (x_d C_D_pass 1 rfl) f_D_14 rfl rfl ?_
  refine x_sipush (x_d C_D_pass 2 rfl) (by omega) ?_
  refine x_invokevirtual (st := []) (av := [xI (3000)]) (x_d C_D_pass 3 rfl) k_D_73 m_Pa_start v_Pa_start cl_Pa rfl rfl (Nat.le_of_ble_eq_true rfl) (by omega) rfl (c_Pa_start_21 Z (d - 1) (x_up (x_up (x_up (x_up (x_up (x_up (x_up (x_up q 581 (u 581)) 582 (u 582)) 609 (u 609)) 610 (u 610)) 611 (u 611)) 673 (u 673)) 674 (u 674)) 675 (u 675)) (x_up (x_up (x_up r 578 (some 21)) 579 (some 19)) 580 (some 20)) (x_up (x_up A 20 (w 20)) 22 (w 22)) dy (by omega) 3000) ?_
  rintro _ _ ⟨rfl, rfl⟩
  refine x_aload_n (x_d C_D_pass 4 rfl) rfl ?_
  refine x_iload_n (x_d C_D_pass 5 rfl) rfl ?_
  refine x_invokevirtual (st := []) (av := [xI (p)]) (x_d C_D_pass 6 rfl) k_D_76 m_D_passNamed v_D_passNamed cl_D rfl rfl (Nat.le_of_ble_eq_true rfl) (by omega) rfl (c_D_passNamed_21_20 Z (d - 1) (x_up (x_up (x_up (x_up (x_up (x_up q 581 (u 581)) 582 (u 582)) 609 (u 609)) 610 (u 610)) 611 (u 611)) 675 3000) (x_up r 579 (some 19)) (x_up A 20 (w 20)) dy g n (by omega) 0 0 (w 22) [] p (show (0 : Int) ≤ 3000 ∧ (3000 : Int) ≤ 3000 by omega) hn hg hT hpp (pb_start (show (0 : Int) ≤ 3000 by omega) _)) ?_
  rintro v_ _ ⟨s1, o1, f1, rfl, hr_⟩
  rw [s_mapnil] at hr_
  obtain ⟨z1, rfl, hz1⟩ : ∃ z : Int, v_ = some (xI z) ∧ ((z = 1 ∧ ∃ b2, s_flt (A 5) (A 6) (A 7) (A 2) (q 35) p g n = some b2 ∧ pb 3000 s1 o1 f1 b2) ∨ (z = 0 ∧ ∀ b2, s_flt (A 5) (A 6) (A 7) (A 2) (q 35) p g n = some b2 → (3000 : Int) < b2.length)) := by
    rcases hr_ with ⟨h1_, h2_⟩ | ⟨h1_, h2_⟩
    · exact ⟨1, h1_, Or.inl ⟨rfl, h2_⟩⟩
    · exact ⟨0, h1_, Or.inr ⟨rfl, h2_⟩⟩
  refine x_if_eq (tgt := 28) (x_d C_D_pass 7 rfl) rfl (fun c1 => ?_) (fun c1 => ?_)
  · refine x_iconst (x_d C_D_pass 12 rfl) ⟨by omega, by omega⟩ ?_
    refine x_ireturn (x_d C_D_pass 13 rfl) ?_
    refine ⟨x_up (x_up (x_up (x_up (x_up (x_up (x_up (x_up (u) 581 (u 581)) 582 (u 582)) 609 (u 609)) 610 (u 610)) 611 (u 611)) 673 (s1)) 674 (o1)) 675 (3000), x_up w 22 f1, Or.inr ⟨rfl, rfl, fun b2 e => ?_⟩⟩
    rcases hz1 with ⟨h1, b3, h2, h3⟩ | ⟨h1, h2⟩
    · rcases pb_ov h3 with ⟨h4, h5⟩ | ⟨h4, h5⟩
      · omega
      · have := Option.some.inj (h2.symm.trans e)
        rw [← this]
        exact h5
    · exact h2 b2 e
  · refine x_aload_n (x_d C_D_pass 8 rfl) rfl ?_
    refine x_getfield (v := xC 21) (x_d C_D_pass 9 rfl) f_D_14 rfl rfl ?_
    refine x_getfield (v := xI (o1)) (x_d C_D_pass 10 rfl) f_D_79 rfl rfl ?_
    refine x_if_eq (tgt := 30) (x_d C_D_pass 11 rfl) rfl (fun c2 => ?_) (fun c2 => ?_)
    · refine x_aload_n (x_d C_D_pass 14 rfl) rfl ?_
      refine x_getfield (v := xC 21) (x_d C_D_pass 15 rfl) f_D_14 rfl rfl ?_
      refine x_astore_n (l1 := [(2, xC 21), (0, xC 18), (1, xI (p))]) (x_d C_D_pass 16 rfl) (by decide) rfl ?_
      refine x_aload_n (x_d C_D_pass 17 rfl) rfl ?_
      refine x_aload_n (x_d C_D_pass 18 rfl) rfl ?_
      refine x_getfield (v := xC 19) (x_d C_D_pass 19 rfl) f_D_20 rfl rfl ?_
      refine x_putfield (h1 := hF (x_up (x_up (x_up (x_up (x_up (x_up (x_up (x_up q 581 (u 581)) 582 (u 582)) 609 (u 609)) 610 (u 610)) 611 (u 611)) 673 s1) 674 o1) 675 3000) (x_up (x_up (x_up r 579 (some 19)) 580 (some 20)) 578 (some 19)) (x_up (x_up A 20 (w 20)) 22 f1) ++ dy) (x_d C_D_pass 20 rfl) p_D_14 rfl rfl rfl trivial rfl ?_
      refine x_aload_n (x_d C_D_pass 21 rfl) rfl ?_
      refine x_aload_n (x_d C_D_pass 22 rfl) rfl ?_
      refine x_putfield (h1 := hF (x_up (x_up (x_up (x_up (x_up (x_up (x_up (x_up q 581 (u 581)) 582 (u 582)) 609 (u 609)) 610 (u 610)) 611 (u 611)) 673 s1) 674 o1) 675 3000) (x_up (x_up (x_up r 580 (some 20)) 578 (some 19)) 579 (some 21)) (x_up (x_up A 20 (w 20)) 22 f1) ++ dy) (x_d C_D_pass 23 rfl) p_D_20 rfl rfl rfl trivial rfl ?_
      refine x_aload_n (x_d C_D_pass 24 rfl) rfl ?_
      refine x_aload_n (x_d C_D_pass 25 rfl) rfl ?_
      refine x_getfield (v := xC 22) (x_d C_D_pass 26 rfl) f_D_83 rfl rfl ?_
      refine x_putfield (h1 := hF (x_up (x_up (x_up (x_up (x_up (x_up (x_up (x_up q 581 (u 581)) 582 (u 582)) 609 (u 609)) 610 (u 610)) 611 (u 611)) 673 s1) 674 o1) 675 3000) (x_up (x_up (x_up r 578 (some 19)) 579 (some 21)) 580 (some 22)) (x_up (x_up A 20 (w 20)) 22 f1) ++ dy) (x_d C_D_pass 27 rfl) p_D_37 rfl rfl rfl trivial rfl ?_
      refine x_aload_n (x_d C_D_pass 28 rfl) rfl ?_
      refine x_iconst (x_d C_D_pass 29 rfl) ⟨by omega, by omega⟩ ?_
      refine x_putfield (h1 := hF (x_up (x_up (x_up (x_up (x_up (x_up (x_up (x_up q 582 (u 582)) 609 (u 609)) 610 (u 610)) 611 (u 611)) 673 s1) 674 o1) 675 3000) 581 0) (x_up (x_up (x_up r 578 (some 19)) 579 (some 21)) 580 (some 22)) (x_up (x_up A 20 (w 20)) 22 f1) ++ dy) (x_d C_D_pass 30 rfl) p_D_46 rfl rfl rfl trivial rfl ?_
      refine x_aload_n (x_d C_D_pass 31 rfl) rfl ?_
      refine x_aload_n (x_d C_D_pass 32 rfl) rfl ?_
      refine x_getfield (v := xI (s1)) (x_d C_D_pass 33 rfl) f_D_84 rfl rfl ?_
      refine x_putfield (h1 := hF (x_up (x_up (x_up (x_up (x_up (x_up (x_up (x_up q 609 (u 609)) 610 (u 610)) 611 (u 611)) 673 s1) 674 o1) 675 3000) 581 0) 582 s1) (x_up (x_up (x_up r 578 (some 19)) 579 (some 21)) 580 (some 22)) (x_up (x_up A 20 (w 20)) 22 f1) ++ dy) (x_d C_D_pass 34 rfl) p_D_53 rfl rfl rfl trivial rfl ?_
      refine x_iconst (x_d C_D_pass 35 rfl) ⟨by omega, by omega⟩ ?_
      refine x_ireturn (x_d C_D_pass 36 rfl) ?_
      rcases hz1 with ⟨h1, b3, h2, h3⟩ | ⟨h1, h2⟩
      · obtain ⟨k1, k2, ⟨k3, k4, k5, k6⟩ | ⟨k3, k4⟩⟩ := h3
        · exact ⟨x_up (x_up (x_up (x_up (x_up (x_up (x_up (x_up (u) 581 (0)) 582 (s1)) 609 (u 609)) 610 (u 610)) 611 (u 611)) 673 (s1)) 674 (o1)) 675 (3000), x_up w 22 f1, Or.inl ⟨rfl, rfl, b3, h2, k3, rfl, k5, k6⟩⟩
        · omega
      · omega
    · refine x_iconst (x_d C_D_pass 12 rfl) ⟨by omega, by omega⟩ ?_
      refine x_ireturn (x_d C_D_pass 13 rfl) ?_
      refine ⟨x_up (x_up (x_up (x_up (x_up (x_up (x_up (x_up (u) 581 (u 581)) 582 (u 582)) 609 (u 609)) 610 (u 610)) 611 (u 611)) 673 (s1)) 674 (o1)) 675 (3000), x_up w 22 f1, Or.inr ⟨rfl, rfl, fun b2 e => ?_⟩⟩
      rcases hz1 with ⟨h1, b3, h2, h3⟩ | ⟨h1, h2⟩
      · rcases pb_ov h3 with ⟨h4, h5⟩ | ⟨h4, h5⟩
        · omega
        · have := Option.some.inj (h2.symm.trans e)
          rw [← this]
          exact h5
      · exact h2 b2 e
/-- the ways in which sink, other sink and source may stand -/
def dcf (S S2 c : Nat) : Prop := (S = 19 ∧ S2 = 21 ∧ (c = 2 ∨ c = 22)) ∨ (S = 21 ∧ S2 = 19 ∧ (c = 2 ∨ c = 20))
def dln (c : Nat) : Int := if c = 2 then 10248 else 3000
def dsr (A w : Nat → Nat → Int) (c : Nat) : Nat → Int := if c = 2 then A 2 else w c
theorem c_D_pass (Z : xZ) (d : Nat) (q : Nat → Int) (r : Nat → Option Nat) (A : Nat → Nat → Int) (dy : xH) (u : Nat → Int) (w : Nat → Nat → Int) (hd : 8 ≤ d) (S S2 c : Nat) (hcf : dcf S S2 c) (p : Int) (g : Nat → Int) (n : Nat) (hT : 0 ≤ q 34 ∧ q 34 ≤ q 35 ∧ q 35 ≤ 10248) (hpp : p < 12900) (hn : 0 ≤ u 581 ∧ u 582 = u 581 + n ∧ u 582 ≤ dln c) (hg : ∀ k, k < n → dsr A w c ((u 581).toNat + k) = g k) : xMet Z d Y_D_pass [xC 18, xI p] (hF (dq q u) (dr r S S2 c) (dw A w) ++ dy) (fun v0 h2 => ∃ u2 w2, (v0 = some (xI 1) ∧ h2 = hF (dq q u2) (dr r S2 S (S + 1)) (dw A w2) ++ dy ∧ ∃ b2, s_flt (A 5) (A 6) (A 7) (A 2) (q 35) p g n = some b2 ∧ (b2.length : Int) ≤ 3000 ∧ u2 581 = 0 ∧ u2 582 = b2.length ∧ ∀ k, k < b2.length → w2 (S + 1) k = b2.getD k 0) ∨ (v0 = some (xI 0) ∧ h2 = hF (dq q u2) (dr r S S2 c) (dw A w2) ++ dy ∧ ∀ b2, s_flt (A 5) (A 6) (A 7) (A 2) (q 35) p g n = some b2 → 3000 < (b2.length : Int))) := by
  rcases hcf with ⟨rfl, rfl, rfl | rfl⟩ | ⟨rfl, rfl, rfl | rfl⟩
  · exact c_D_pass_19_2 Z d q r A dy u w hd p g n hT hpp hn hg
  · exact c_D_pass_19_22 Z d q r A dy u w hd p g n hT hpp hn hg
  · exact c_D_pass_21_2 Z d q r A dy u w hd p g n hT hpp hn hg
  · exact c_D_pass_21_20 Z d q r A dy u w hd p g n hT hpp hn hg
/-- the filters ps, one behind the other -/
def s_fold (F : Int → (Nat → Int) → Nat → Option (List Int)) : List Int → List Int → Option (List Int)
  | [], b => some b
  | p :: ps, b => (F p (fun k => b.getD k 0) b.length).bind (fun b2 => if (b2.length : Int) ≤ 3000 then s_fold F ps b2 else none)
def s_fls (kd one two sp nm b : Nat → Int) (n p : Int) : List Int := if s_first (fun t => decide (0 ≤ s_the b n (nm t.toNat) [70, 105, 108, 116, 101, 114])) (s_in sp p) < 0 then [] else if kd (s_first (fun t => decide (0 ≤ s_the b n (nm t.toNat) [70, 105, 108, 116, 101, 114])) (s_in sp p)).toNat = 6 then s_in sp (s_first (fun t => decide (0 ≤ s_the b n (nm t.toNat) [70, 105, 108, 116, 101, 114])) (s_in sp p)) else [s_first (fun t => decide (0 ≤ s_the b n (nm t.toNat) [70, 105, 108, 116, 101, 114])) (s_in sp p)]
def s_dec (kd one two sp nm b : Nat → Int) (n p : Int) : Option (List Int) := (s_fold (s_flt kd one two b n) (s_fls kd one two sp nm b n p) (s_sl b (one p.toNat).toNat (two p.toNat).toNat)).bind (fun x => if (x.length : Int) ≤ 3000 then some x else none)
theorem s_K_mem {sp : Nat → Int} {e : Int} : ∀ {L : List Int} {a : Int}, s_K sp e a = L → 0 ≤ a → ∀ x, x ∈ L → a ≤ x ∧ x < e := by
  intro L
  induction L with
  | nil => intro a _ _ x hx; cases hx
  | cons y L ih =>
    intro a h h0 x hx
    by_cases c : a < e
    · rw [s_K_step c] at h
      have h1 := (List.cons.inj h).1
      have h2 := (List.cons.inj h).2
      have h3 := s_bh_gt sp a
      rcases List.mem_cons.mp hx with e | hx
      · omega
      · have := ih h2 (by omega) x hx
        omega
    · rw [s_K_stop (by omega)] at h
      cases h
theorem s_first_in (f : Int → Bool) : ∀ L : List Int, s_first f L = -1 ∨ s_first f L ∈ L
  | [] => Or.inl rfl
  | x :: L => by
    unfold s_first
    split
    · exact Or.inr List.mem_cons_self
    · rcases s_first_in f L with h | h
      · exact Or.inl h
      · exact Or.inr (List.mem_cons_of_mem _ h)
