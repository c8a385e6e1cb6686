/-! pails -/
/-- a pail with size s, mark o, row f: what was written, or more than fits -/
def pb (lm s ov : Int) (f : Nat → Int) (bs : List Int) : Prop := 0 ≤ s ∧ s ≤ lm ∧ (((bs.length : Int) ≤ lm ∧ ov = 0 ∧ s = bs.length ∧ ∀ k, k < bs.length → f k = bs.getD k 0) ∨ (lm < bs.length ∧ ov = 1))
/-- n numbers from a on -/
def s_sl (f : Nat → Int) (a : Nat) : Nat → List Int
  | 0 => []
  | n + 1 => f a :: s_sl f (a + 1) n
theorem s_sl_len (f : Nat → Int) : ∀ (n a : Nat), (s_sl f a n).length = n
  | 0, _ => rfl
  | n + 1, a => by show (s_sl f (a + 1) n).length + 1 = n + 1; rw [s_sl_len f n]
theorem s_sl_get (f : Nat → Int) : ∀ (n a k : Nat), k < n → (s_sl f a n).getD k 0 = f (a + k)
  | 0, _, _, h => absurd h (Nat.not_lt_zero _)
  | n + 1, a, 0, _ => rfl
  | n + 1, a, k + 1, h => by
    show (s_sl f (a + 1) n).getD k 0 = _
    rw [s_sl_get f n (a + 1) k (by omega)]
    congr 1
    omega
theorem s_getD_app (a b : List Int) (k : Nat) : (a ++ b).getD k 0 = if k < a.length then a.getD k 0 else b.getD (k - a.length) 0 := by
  split
  · next h => rw [List.getD_eq_getElem?_getD, List.getElem?_append_left h, List.getD_eq_getElem?_getD]
  · next h => rw [List.getD_eq_getElem?_getD, List.getElem?_append_right (by omega), List.getD_eq_getElem?_getD]
theorem pb_start {lm : Int} (h : 0 ≤ lm) (f : Nat → Int) : pb lm 0 0 f [] := ⟨Int.le_refl 0, h, Or.inl ⟨h, rfl, rfl, fun k hk => absurd hk (Nat.not_lt_zero _)⟩⟩
theorem pb_over {lm s ov : Int} {f : Nat → Int} {bs cs : List Int} (h : pb lm s ov f bs) (hl : lm - s < cs.length) : pb lm s 1 f (bs ++ cs) := by
  obtain ⟨p1, p2, p3⟩ := h
  refine ⟨p1, p2, Or.inr ⟨?_, rfl⟩⟩
  rw [List.length_append]
  rcases p3 with ⟨p3, p4, p5, p6⟩ | ⟨p3, p4⟩ <;> omega
theorem pb_more {lm s ov : Int} {f g : Nat → Int} {bs cs : List Int} (h : pb lm s ov f bs) (hl : s + cs.length ≤ lm) (h1 : ∀ k, k < s.toNat → g k = f k) (h2 : ∀ k, k < cs.length → g (s.toNat + k) = cs.getD k 0) : pb lm (s + cs.length) ov g (bs ++ cs) := by
  obtain ⟨p1, p2, p3⟩ := h
  refine ⟨by omega, hl, ?_⟩
  rw [List.length_append]
  rcases p3 with ⟨p3, p4, p5, p6⟩ | ⟨p3, p4⟩
  · refine Or.inl ⟨by omega, p4, by omega, fun k hk => ?_⟩
    rw [s_getD_app]
    split
    · next hk2 => rw [h1 k (by omega), p6 k hk2]
    · next hk2 =>
      have := h2 (k - bs.length) (by omega)
      rw [← this]
      congr 1
      omega
  · exact Or.inr ⟨by omega, p4⟩
theorem pb_add {lm s ov : Int} {f : Nat → Int} {bs : List Int} {b : Int} (h : pb lm s ov f bs) (hl : s < lm) : pb lm (s + 1) ov (x_up f s.toNat b) (bs ++ [b]) := by
  refine pb_more (cs := [b]) h (by show s + 1 ≤ lm; omega) (fun k hk => x_up_n _ _ (by omega)) (fun k hk => ?_)
  have : k = 0 := by simp only [List.length_cons, List.length_nil] at hk; omega
  subst this
  exact x_up_s _ _ _
theorem pb_row {lm s ov : Int} {f g : Nat → Int} {bs : List Int} {a n : Int} (h : pb lm s ov f bs) (ha : 0 ≤ a) (hn : 0 ≤ n) (hl : n ≤ lm - s) : pb lm (s + n) ov (va_cpy g f a.toNat s.toNat n.toNat) (bs ++ s_sl g a.toNat n.toNat) := by
  have h0 := h.1
  have e : ((s_sl g a.toNat n.toNat).length : Int) = n := by rw [s_sl_len]; omega
  have := pb_more (g := va_cpy g f a.toNat s.toNat n.toNat) (cs := s_sl g a.toNat n.toNat) h (by omega) (fun k hk => ?_) (fun k hk => ?_)
  · rw [e] at this
    exact this
  · unfold va_cpy
    rw [if_neg (by omega)]
  · rw [s_sl_len] at hk
    rw [s_sl_get g _ _ _ hk]
    unfold va_cpy
    rw [if_pos (by omega)]
    congr 1
    omega
theorem pb_nil {lm s ov : Int} {f : Nat → Int} {bs : List Int} (h : pb lm s ov f bs) : pb lm s ov f (bs ++ []) := by rw [List.append_nil]; exact h
theorem pb_as {lm s ov : Int} {f : Nat → Int} {bs cs ds : List Int} (h : pb lm s ov f (bs ++ cs ++ ds)) : pb lm s ov f (bs ++ (cs ++ ds)) := by rw [← List.append_assoc]; exact h
theorem c_Pb_add_19 (Z : xZ) (d : Nat) (q : Nat → Int) (r : Nat → Option Nat) (A : Nat → Nat → Int) (dy : xH) (s ov : Int) (f : Nat → Int) (bs : List Int) (b : Int) (hl : 0 ≤ q 611 ∧ q 611 ≤ 3000) (hp : pb (q 611) s ov f bs) : xMet Z d Y_Pa_add [xC 19, xI b] (hF (x_up (x_up q 609 s) 610 ov) r (x_up A 20 f) ++ dy) (fun v0 h2 => v0 = none ∧ ∃ s2 ov2 f2, h2 = hF (x_up (x_up q 609 s2) 610 ov2) r (x_up A 20 f2) ++ dy ∧ pb (q 611) s2 ov2 f2 (bs ++ [x_by b])) := by
  refine xMet_of (by decide) (Nat.le_of_ble_eq_true rfl) (fun v0 h2 hq => by rw [hq.1]; trivial) ?_
  have hp0 := hp.1
  have hp1 := hp.2.1
  refine x_aload_n (x_d C_Pa_add 0 rfl) rfl ?_
  refine x_getfield (v := xI (s)) (x_d C_Pa_add 1 rfl) f_Pa_15 rfl rfl ?_
  refine x_aload_n (x_d C_Pa_add 2 rfl) rfl ?_
  refine x_getfield (v := xI (q 611)) (x_d C_Pa_add 3 rfl) f_Pa_29 rfl rfl ?_
  refine x_icmp_lt (tgt := 17) (x_d C_Pa_add 4 rfl) rfl (fun c1 => ?_) (fun c1 => ?_)
  · refine x_aload_n (x_d C_Pa_add 9 rfl) rfl ?_
    refine x_getfield (v := xC 20) (x_d C_Pa_add 10 rfl) f_Pa_9 rfl rfl ?_
    refine x_aload_n (x_d C_Pa_add 11 rfl) rfl ?_
    refine x_getfield (v := xI (s)) (x_d C_Pa_add 12 rfl) f_Pa_15 rfl rfl ?_
    refine x_iload_n (x_d C_Pa_add 13 rfl) rfl ?_
    refine x_i2b (x_d C_Pa_add 14 rfl) ?_
    refine x_bastore (h1 := hF (x_up (x_up q 609 s) 610 ov) r (x_up A 20 (x_up f (s).toNat (x_by b))) ++ dy) (x_d C_Pa_add 15 rfl) rfl (by omega) (by omega) (x_by_in _) rfl ?_
    refine x_aload_n (x_d C_Pa_add 16 rfl) rfl ?_
    refine x_dup (x_d C_Pa_add 17 rfl) rfl ?_
    refine x_getfield (v := xI (s)) (x_d C_Pa_add 18 rfl) f_Pa_15 rfl rfl ?_
    refine x_iconst (x_d C_Pa_add 19 rfl) ⟨by omega, by omega⟩ ?_
    refine x_iadd (x_d C_Pa_add 20 rfl) ⟨by omega, by omega⟩ ?_
    refine x_putfield (h1 := hF (x_up (x_up q 610 ov) 609 (s + 1)) r (x_up A 20 (x_up f (s).toNat (x_by b))) ++ dy) (x_d C_Pa_add 21 rfl) p_Pa_15 rfl rfl rfl trivial rfl ?_
    refine x_return (x_d C_Pa_add 22 rfl) ?_
    exact ⟨rfl, _, _, _, rfl, pb_add hp (by omega)⟩
  · refine x_aload_n (x_d C_Pa_add 5 rfl) rfl ?_
    refine x_iconst (x_d C_Pa_add 6 rfl) ⟨by omega, by omega⟩ ?_
    refine x_putfield (h1 := hF (x_up (x_up q 609 s) 610 1) r (x_up A 20 f) ++ dy) (x_d C_Pa_add 7 rfl) p_Pa_19 rfl rfl rfl (Or.inr rfl) rfl ?_
    refine x_return (x_d C_Pa_add 8 rfl) ?_
    exact ⟨rfl, _, _, _, rfl, pb_over hp (by simp only [List.length_cons, List.length_nil]; omega)⟩
theorem c_Pb_addRow_19_2 (Z : xZ) (d : Nat) (q : Nat → Int) (r : Nat → Option Nat) (A : Nat → Nat → Int) (dy : xH) (s ov : Int) (f : Nat → Int) (bs : List Int) (hd : 1 ≤ d) (a n : Int) (hl : 0 ≤ q 611 ∧ q 611 ≤ 3000) (hp : pb (q 611) s ov f bs) (ha : 0 ≤ a ∧ 0 ≤ n ∧ a + n ≤ 10248) : xMet Z d Y_Pa_addRow [xC 19, xC 2, xI a, xI n] (hF (x_up (x_up q 609 s) 610 ov) r (x_up A 20 f) ++ dy) (fun v0 h2 => v0 = none ∧ ∃ s2 ov2 f2, h2 = hF (x_up (x_up q 609 s2) 610 ov2) r (x_up A 20 f2) ++ dy ∧ pb (q 611) s2 ov2 f2 (bs ++ s_sl (A 2) a.toNat n.toNat)) := by
  refine xMet_of (by decide) (Nat.le_of_ble_eq_true rfl) (fun v0 h2 hq => by rw [hq.1]; trivial) ?_
  have hp0 := hp.1
  have hp1 := hp.2.1
  refine x_iload_n (x_d C_Pa_addRow 0 rfl) rfl ?_
  refine x_aload_n (x_d C_Pa_addRow 1 rfl) rfl ?_
  refine x_getfield (v := xI (q 611)) (x_d C_Pa_addRow 2 rfl) f_Pa_29 rfl rfl ?_
  refine x_aload_n (x_d C_Pa_addRow 3 rfl) rfl ?_
  refine x_getfield (v := xI (s)) (x_d C_Pa_addRow 4 rfl) f_Pa_15 rfl rfl ?_
  refine x_isub (x_d C_Pa_addRow 5 rfl) ⟨by omega, by omega⟩ ?_
  refine x_icmp_le (tgt := 21) (x_d C_Pa_addRow 6 rfl) rfl (fun c1 => ?_) (fun c1 => ?_)
  · refine x_iload_n (x_d C_Pa_addRow 11 rfl) rfl ?_
    refine x_if_lt (tgt := 61) (x_d C_Pa_addRow 12 rfl) rfl (fun q => absurd q (by omega)) (fun _ => ?_)
    refine x_iload_n (x_d C_Pa_addRow 13 rfl) rfl ?_
    refine x_if_le (tgt := 61) (x_d C_Pa_addRow 14 rfl) rfl (fun c3 => ?_) (fun c3 => ?_)
    · refine x_return (x_d C_Pa_addRow 35 rfl) ?_
      have e : n = 0 := by omega
      subst e
      exact ⟨rfl, s, ov, f, rfl, pb_nil hp⟩
    · refine x_iload_n (x_d C_Pa_addRow 15 rfl) rfl ?_
      refine x_aload_n (x_d C_Pa_addRow 16 rfl) rfl ?_
      refine x_arraylength (x_d C_Pa_addRow 17 rfl) rfl (by decide) (by omega) ?_
      refine x_iload_n (x_d C_Pa_addRow 18 rfl) rfl ?_
      refine x_isub (x_d C_Pa_addRow 19 rfl) ⟨by omega, by omega⟩ ?_
      refine x_icmp_gt (tgt := 61) (x_d C_Pa_addRow 20 rfl) rfl (fun q => absurd q (by omega)) (fun _ => ?_)
      refine x_aload_n (x_d C_Pa_addRow 21 rfl) rfl ?_
      refine x_iload_n (x_d C_Pa_addRow 22 rfl) rfl ?_
      refine x_aload_n (x_d C_Pa_addRow 23 rfl) rfl ?_
      refine x_getfield (v := xC 20) (x_d C_Pa_addRow 24 rfl) f_Pa_9 rfl rfl ?_
      refine x_aload_n (x_d C_Pa_addRow 25 rfl) rfl ?_
      refine x_getfield (v := xI (s)) (x_d C_Pa_addRow 26 rfl) f_Pa_15 rfl rfl ?_
      refine x_iload_n (x_d C_Pa_addRow 27 rfl) rfl ?_
      refine x_arraycopy (st := []) (h1 := hF (x_up (x_up q 609 s) 610 ov) r (x_up A 20 (va_cpy (A 2) f (a : Int).toNat (s : Int).toNat (n : Int).toNat)) ++ dy) (x_d C_Pa_addRow 28 rfl) ac_Pa_32 ac_w (Or.inr rfl) rfl rfl (by omega) (by omega) (by omega) (by omega) (by omega) (Nat.le_of_ble_eq_true rfl) (by omega) rfl ?_
      refine x_aload_n (x_d C_Pa_addRow 29 rfl) rfl ?_
      refine x_dup (x_d C_Pa_addRow 30 rfl) rfl ?_
      refine x_getfield (v := xI (s)) (x_d C_Pa_addRow 31 rfl) f_Pa_15 rfl rfl ?_
      refine x_iload_n (x_d C_Pa_addRow 32 rfl) rfl ?_
      refine x_iadd (x_d C_Pa_addRow 33 rfl) ⟨by omega, by omega⟩ ?_
      refine x_putfield (h1 := hF (x_up (x_up q 610 ov) 609 (s + n)) r (x_up A 20 (va_cpy (A 2) f (a : Int).toNat (s : Int).toNat (n : Int).toNat)) ++ dy) (x_d C_Pa_addRow 34 rfl) p_Pa_15 rfl rfl rfl trivial rfl ?_
      refine x_return (x_d C_Pa_addRow 35 rfl) ?_
      exact ⟨rfl, _, _, _, rfl, pb_row hp (by omega) (by omega) (by omega)⟩
  · refine x_aload_n (x_d C_Pa_addRow 7 rfl) rfl ?_
    refine x_iconst (x_d C_Pa_addRow 8 rfl) ⟨by omega, by omega⟩ ?_
    refine x_putfield (h1 := hF (x_up (x_up q 609 s) 610 1) r (x_up A 20 f) ++ dy) (x_d C_Pa_addRow 9 rfl) p_Pa_19 rfl rfl rfl (Or.inr rfl) rfl ?_
    refine x_goto (tgt := 61) (x_d C_Pa_addRow 10 rfl) rfl ?_
    refine x_return (x_d C_Pa_addRow 35 rfl) ?_
    exact ⟨rfl, _, _, _, rfl, pb_over hp (by rw [s_sl_len]; omega)⟩
theorem c_Pb_addRow_19_22 (Z : xZ) (d : Nat) (q : Nat → Int) (r : Nat → Option Nat) (A : Nat → Nat → Int) (dy : xH) (s ov : Int) (f : Nat → Int) (bs : List Int) (hd : 1 ≤ d) (a n : Int) (hl : 0 ≤ q 611 ∧ q 611 ≤ 3000) (hp : pb (q 611) s ov f bs) (ha : 0 ≤ a ∧ 0 ≤ n ∧ a + n ≤ 3000) : xMet Z d Y_Pa_addRow [xC 19, xC 22, xI a, xI n] (hF (x_up (x_up q 609 s) 610 ov) r (x_up A 20 f) ++ dy) (fun v0 h2 => v0 = none ∧ ∃ s2 ov2 f2, h2 = hF (x_up (x_up q 609 s2) 610 ov2) r (x_up A 20 f2) ++ dy ∧ pb (q 611) s2 ov2 f2 (bs ++ s_sl (A 22) a.toNat n.toNat)) := by
  refine xMet_of (by decide) (Nat.le_of_ble_eq_true rfl) (fun v0 h2 hq => by rw [hq.1]; trivial) ?_
  have hp0 := hp.1
  have hp1 := hp.2.1
  refine x_iload_n (x_d C_Pa_addRow 0 rfl) rfl ?_
  refine x_aload_n (x_d C_Pa_addRow 1 rfl) rfl ?_
  refine x_getfield (v := xI (q 611)) (x_d C_Pa_addRow 2 rfl) f_Pa_29 rfl rfl ?_
  refine x_aload_n (x_d C_Pa_addRow 3 rfl) rfl ?_
  refine x_getfield (v := xI (s)) (x_d C_Pa_addRow 4 rfl) f_Pa_15 rfl rfl ?_
  refine x_isub (x_d C_Pa_addRow 5 rfl) ⟨by omega, by omega⟩ ?_
  refine x_icmp_le (tgt := 21) (x_d C_Pa_addRow 6 rfl) rfl (fun c1 => ?_) (fun c1 => ?_)
  · refine x_iload_n (x_d C_Pa_addRow 11 rfl) rfl ?_
    refine x_if_lt (tgt := 61) (x_d C_Pa_addRow 12 rfl) rfl (fun q => absurd q (by omega)) (fun _ => ?_)
    refine x_iload_n (x_d C_Pa_addRow 13 rfl) rfl ?_
    refine x_if_le (tgt := 61) (x_d C_Pa_addRow 14 rfl) rfl (fun c3 => ?_) (fun c3 => ?_)
    · refine x_return (x_d C_Pa_addRow 35 rfl) ?_
      have e : n = 0 := by omega
      subst e
      exact ⟨rfl, s, ov, f, rfl, pb_nil hp⟩
    · refine x_iload_n (x_d C_Pa_addRow 15 rfl) rfl ?_
      refine x_aload_n (x_d C_Pa_addRow 16 rfl) rfl ?_
      refine x_arraylength (x_d C_Pa_addRow 17 rfl) rfl (by decide) (by omega) ?_
      refine x_iload_n (x_d C_Pa_addRow 18 rfl) rfl ?_
      refine x_isub (x_d C_Pa_addRow 19 rfl) ⟨by omega, by omega⟩ ?_
      refine x_icmp_gt (tgt := 61) (x_d C_Pa_addRow 20 rfl) rfl (fun q => absurd q (by omega)) (fun _ => ?_)
      refine x_aload_n (x_d C_Pa_addRow 21 rfl) rfl ?_
      refine x_iload_n (x_d C_Pa_addRow 22 rfl) rfl ?_
      refine x_aload_n (x_d C_Pa_addRow 23 rfl) rfl ?_
      refine x_getfield (v := xC 20) (x_d C_Pa_addRow 24 rfl) f_Pa_9 rfl rfl ?_
      refine x_aload_n (x_d C_Pa_addRow 25 rfl) rfl ?_
      refine x_getfield (v := xI (s)) (x_d C_Pa_addRow 26 rfl) f_Pa_15 rfl rfl ?_
      refine x_iload_n (x_d C_Pa_addRow 27 rfl) rfl ?_
      refine x_arraycopy (st := []) (h1 := hF (x_up (x_up q 609 s) 610 ov) r (x_up A 20 (va_cpy (A 22) f (a : Int).toNat (s : Int).toNat (n : Int).toNat)) ++ dy) (x_d C_Pa_addRow 28 rfl) ac_Pa_32 ac_w (Or.inr rfl) rfl rfl (by omega) (by omega) (by omega) (by omega) (by omega) (Nat.le_of_ble_eq_true rfl) (by omega) rfl ?_
      refine x_aload_n (x_d C_Pa_addRow 29 rfl) rfl ?_
      refine x_dup (x_d C_Pa_addRow 30 rfl) rfl ?_
      refine x_getfield (v := xI (s)) (x_d C_Pa_addRow 31 rfl) f_Pa_15 rfl rfl ?_
      refine x_iload_n (x_d C_Pa_addRow 32 rfl) rfl ?_
      refine x_iadd (x_d C_Pa_addRow 33 rfl) ⟨by omega, by omega⟩ ?_
      refine x_putfield (h1 := hF (x_up (x_up q 610 ov) 609 (s + n)) r (x_up A 20 (va_cpy (A 22) f (a : Int).toNat (s : Int).toNat (n : Int).toNat)) ++ dy) (x_d C_Pa_addRow 34 rfl) p_Pa_15 rfl rfl rfl trivial rfl ?_
      refine x_return (x_d C_Pa_addRow 35 rfl) ?_
      exact ⟨rfl, _, _, _, rfl, pb_row hp (by omega) (by omega) (by omega)⟩
  · refine x_aload_n (x_d C_Pa_addRow 7 rfl) rfl ?_
    refine x_iconst (x_d C_Pa_addRow 8 rfl) ⟨by omega, by omega⟩ ?_
    refine x_putfield (h1 := hF (x_up (x_up q 609 s) 610 1) r (x_up A 20 f) ++ dy) (x_d C_Pa_addRow 9 rfl) p_Pa_19 rfl rfl rfl (Or.inr rfl) rfl ?_
    refine x_goto (tgt := 61) (x_d C_Pa_addRow 10 rfl) rfl ?_
    refine x_return (x_d C_Pa_addRow 35 rfl) ?_
    exact ⟨rfl, _, _, _, rfl, pb_over hp (by rw [s_sl_len]; omega)⟩
theorem c_Pb_add_21 (Z : xZ) (d : Nat) (q : Nat → Int) (r : Nat → Option Nat) (A : Nat → Nat → Int) (dy : xH) (s ov : Int) (f : Nat → Int) (bs : List Int) (b : Int) (hl : 0 ≤ q 675 ∧ q 675 ≤ 3000) (hp : pb (q 675) s ov f bs) : xMet Z d Y_Pa_add [xC 21, xI b] (hF (x_up (x_up q 673 s) 674 ov) r (x_up A 22 f) ++ dy) (fun v0 h2 => v0 = none ∧ ∃ s2 ov2 f2, h2 = hF (x_up (x_up q 673 s2) 674 ov2) r (x_up A 22 f2) ++ dy ∧ pb (q 675) s2 ov2 f2 (bs ++ [x_by b])) := by
  refine xMet_of (by decide) (Nat.le_of_ble_eq_true rfl) (fun v0 h2 hq => by rw [hq.1]; trivial) ?_
  have hp0 := hp.1
  have hp1 := hp.2.1
  refine x_aload_n (x_d C_Pa_add 0 rfl) rfl ?_
  refine x_getfield (v := xI (s)) (x_d C_Pa_add 1 rfl) f_Pa_15 rfl rfl ?_
  refine x_aload_n (x_d C_Pa_add 2 rfl) rfl ?_
  refine x_getfield (v := xI (q 675)) (x_d C_Pa_add 3 rfl) f_Pa_29 rfl rfl ?_
  refine x_icmp_lt (tgt := 17) (x_d C_Pa_add 4 rfl) rfl (fun c1 => ?_) (fun c1 => ?_)
  · refine x_aload_n (x_d C_Pa_add 9 rfl) rfl ?_
    refine x_getfield (v := xC 22) (x_d C_Pa_add 10 rfl) f_Pa_9 rfl rfl ?_
    refine x_aload_n (x_d C_Pa_add 11 rfl) rfl ?_
    refine x_getfield (v := xI (s)) (x_d C_Pa_add 12 rfl) f_Pa_15 rfl rfl ?_
    refine x_iload_n (x_d C_Pa_add 13 rfl) rfl ?_
    refine x_i2b (x_d C_Pa_add 14 rfl) ?_
    refine x_bastore (h1 := hF (x_up (x_up q 673 s) 674 ov) r (x_up A 22 (x_up f (s).toNat (x_by b))) ++ dy) (x_d C_Pa_add 15 rfl) rfl (by omega) (by omega) (x_by_in _) rfl ?_
    refine x_aload_n (x_d C_Pa_add 16 rfl) rfl ?_
    refine x_dup (x_d C_Pa_add 17 rfl) rfl ?_
    refine x_getfield (v := xI (s)) (x_d C_Pa_add 18 rfl) f_Pa_15 rfl rfl ?_
    refine x_iconst (x_d C_Pa_add 19 rfl) ⟨by omega, by omega⟩ ?_
    refine x_iadd (x_d C_Pa_add 20 rfl) ⟨by omega, by omega⟩ ?_
    refine x_putfield (h1 := hF (x_up (x_up q 674 ov) 673 (s + 1)) r (x_up A 22 (x_up f (s).toNat (x_by b))) ++ dy) (x_d C_Pa_add 21 rfl) p_Pa_15 rfl rfl rfl trivial rfl ?_
    refine x_return (x_d C_Pa_add 22 rfl) ?_
    exact ⟨rfl, _, _, _, rfl, pb_add hp (by omega)⟩
  · refine x_aload_n (x_d C_Pa_add 5 rfl) rfl ?_
    refine x_iconst (x_d C_Pa_add 6 rfl) ⟨by omega, by omega⟩ ?_
    refine x_putfield (h1 := hF (x_up (x_up q 673 s) 674 1) r (x_up A 22 f) ++ dy) (x_d C_Pa_add 7 rfl) p_Pa_19 rfl rfl rfl (Or.inr rfl) rfl ?_
    refine x_return (x_d C_Pa_add 8 rfl) ?_
    exact ⟨rfl, _, _, _, rfl, pb_over hp (by simp only [List.length_cons, List.length_nil]; omega)⟩
theorem c_Pb_addRow_21_2 (Z : xZ) (d : Nat) (q : Nat → Int) (r : Nat → Option Nat) (A : Nat → Nat → Int) (dy : xH) (s ov : Int) (f : Nat → Int) (bs : List Int) (hd : 1 ≤ d) (a n : Int) (hl : 0 ≤ q 675 ∧ q 675 ≤ 3000) (hp : pb (q 675) s ov f bs) (ha : 0 ≤ a ∧ 0 ≤ n ∧ a + n ≤ 10248) : xMet Z d Y_Pa_addRow [xC 21, xC 2, xI a, xI n] (hF (x_up (x_up q 673 s) 674 ov) r (x_up A 22 f) ++ dy) (fun v0 h2 => v0 = none ∧ ∃ s2 ov2 f2, h2 = hF (x_up (x_up q 673 s2) 674 ov2) r (x_up A 22 f2) ++ dy ∧ pb (q 675) s2 ov2 f2 (bs ++ s_sl (A 2) a.toNat n.toNat)) := by
  refine xMet_of (by decide) (Nat.le_of_ble_eq_true rfl) (fun v0 h2 hq => by rw [hq.1]; trivial) ?_
  have hp0 := hp.1
  have hp1 := hp.2.1
  refine x_iload_n (x_d C_Pa_addRow 0 rfl) rfl ?_
  refine x_aload_n (x_d C_Pa_addRow 1 rfl) rfl ?_
  refine x_getfield (v := xI (q 675)) (x_d C_Pa_addRow 2 rfl) f_Pa_29 rfl rfl ?_
  refine x_aload_n (x_d C_Pa_addRow 3 rfl) rfl ?_
  refine x_getfield (v := xI (s)) (x_d C_Pa_addRow 4 rfl) f_Pa_15 rfl rfl ?_
  refine x_isub (x_d C_Pa_addRow 5 rfl) ⟨by omega, by omega⟩ ?_
  refine x_icmp_le (tgt := 21) (x_d C_Pa_addRow 6 rfl) rfl (fun c1 => ?_) (fun c1 => ?_)
  · refine x_iload_n (x_d C_Pa_addRow 11 rfl) rfl ?_
    refine x_if_lt (tgt := 61) (x_d C_Pa_addRow 12 rfl) rfl (fun q => absurd q (by omega)) (fun _ => ?_)
    refine x_iload_n (x_d C_Pa_addRow 13 rfl) rfl ?_
    refine x_if_le (tgt := 61) (x_d C_Pa_addRow 14 rfl) rfl (fun c3 => ?_) (fun c3 => ?_)
    · refine x_return (x_d C_Pa_addRow 35 rfl) ?_
      have e : n = 0 := by omega
      subst e
      exact ⟨rfl, s, ov, f, rfl, pb_nil hp⟩
    · refine x_iload_n (x_d C_Pa_addRow 15 rfl) rfl ?_
      refine x_aload_n (x_d C_Pa_addRow 16 rfl) rfl ?_
      refine x_arraylength (x_d C_Pa_addRow 17 rfl) rfl (by decide) (by omega) ?_
      refine x_iload_n (x_d C_Pa_addRow 18 rfl) rfl ?_
      refine x_isub (x_d C_Pa_addRow 19 rfl) ⟨by omega, by omega⟩ ?_
      refine x_icmp_gt (tgt := 61) (x_d C_Pa_addRow 20 rfl) rfl (fun q => absurd q (by omega)) (fun _ => ?_)
      refine x_aload_n (x_d C_Pa_addRow 21 rfl) rfl ?_
      refine x_iload_n (x_d C_Pa_addRow 22 rfl) rfl ?_
      refine x_aload_n (x_d C_Pa_addRow 23 rfl) rfl ?_
      refine x_getfield (v := xC 22) (x_d C_Pa_addRow 24 rfl) f_Pa_9 rfl rfl ?_
      refine x_aload_n (x_d C_Pa_addRow 25 rfl) rfl ?_
      refine x_getfield (v := xI (s)) (x_d C_Pa_addRow 26 rfl) f_Pa_15 rfl rfl ?_
      refine x_iload_n (x_d C_Pa_addRow 27 rfl) rfl ?_
      refine x_arraycopy (st := []) (h1 := hF (x_up (x_up q 673 s) 674 ov) r (x_up A 22 (va_cpy (A 2) f (a : Int).toNat (s : Int).toNat (n : Int).toNat)) ++ dy) (x_d C_Pa_addRow 28 rfl) ac_Pa_32 ac_w (Or.inr rfl) rfl rfl (by omega) (by omega) (by omega) (by omega) (by omega) (Nat.le_of_ble_eq_true rfl) (by omega) rfl ?_
      refine x_aload_n (x_d C_Pa_addRow 29 rfl) rfl ?_
      refine x_dup (x_d C_Pa_addRow 30 rfl) rfl ?_
      refine x_getfield (v := xI (s)) (x_d C_Pa_addRow 31 rfl) f_Pa_15 rfl rfl ?_
      refine x_iload_n (x_d C_Pa_addRow 32 rfl) rfl ?_
      refine x_iadd (x_d C_Pa_addRow 33 rfl) ⟨by omega, by omega⟩ ?_
      refine x_putfield (h1 := hF (x_up (x_up q 674 ov) 673 (s + n)) r (x_up A 22 (va_cpy (A 2) f (a : Int).toNat (s : Int).toNat (n : Int).toNat)) ++ dy) (x_d C_Pa_addRow 34 rfl) p_Pa_15 rfl rfl rfl trivial rfl ?_
      refine x_return (x_d C_Pa_addRow 35 rfl) ?_
      exact ⟨rfl, _, _, _, rfl, pb_row hp (by omega) (by omega) (by omega)⟩
  · refine x_aload_n (x_d C_Pa_addRow 7 rfl) rfl ?_
    refine x_iconst (x_d C_Pa_addRow 8 rfl) ⟨by omega, by omega⟩ ?_
    refine x_putfield (h1 := hF (x_up (x_up q 673 s) 674 1) r (x_up A 22 f) ++ dy) (x_d C_Pa_addRow 9 rfl) p_Pa_19 rfl rfl rfl (Or.inr rfl) rfl ?_
    refine x_goto (tgt := 61) (x_d C_Pa_addRow 10 rfl) rfl ?_
    refine x_return (x_d C_Pa_addRow 35 rfl) ?_
    exact ⟨rfl, _, _, _, rfl, pb_over hp (by rw [s_sl_len]; omega)⟩
theorem c_Pb_addRow_21_20 (Z : xZ) (d : Nat) (q : Nat → Int) (r : Nat → Option Nat) (A : Nat → Nat → Int) (dy : xH) (s ov : Int) (f : Nat → Int) (bs : List Int) (hd : 1 ≤ d) (a n : Int) (hl : 0 ≤ q 675 ∧ q 675 ≤ 3000) (hp : pb (q 675) s ov f bs) (ha : 0 ≤ a ∧ 0 ≤ n ∧ a + n ≤ 3000) : xMet Z d Y_Pa_addRow [xC 21, xC 20, xI a, xI n] (hF (x_up (x_up q 673 s) 674 ov) r (x_up A 22 f) ++ dy) (fun v0 h2 => v0 = none ∧ ∃ s2 ov2 f2, h2 = hF (x_up (x_up q 673 s2) 674 ov2) r (x_up A 22 f2) ++ dy ∧ pb (q 675) s2 ov2 f2 (bs ++ s_sl (A 20) a.toNat n.toNat)) := by
  refine xMet_of (by decide) (Nat.le_of_ble_eq_true rfl) (fun v0 h2 hq => by rw [hq.1]; trivial) ?_
  have hp0 := hp.1
  have hp1 := hp.2.1
  refine x_iload_n (x_d C_Pa_addRow 0 rfl) rfl ?_
  refine x_aload_n (x_d C_Pa_addRow 1 rfl) rfl ?_
  refine x_getfield (v := xI (q 675)) (x_d C_Pa_addRow 2 rfl) f_Pa_29 rfl rfl ?_
  refine x_aload_n (x_d C_Pa_addRow 3 rfl) rfl ?_
  refine x_getfield (v := xI (s)) (x_d C_Pa_addRow 4 rfl) f_Pa_15 rfl rfl ?_
  refine x_isub (x_d C_Pa_addRow 5 rfl) ⟨by omega, by omega⟩ ?_
  refine x_icmp_le (tgt := 21) (x_d C_Pa_addRow 6 rfl) rfl (fun c1 => ?_) (fun c1 => ?_)
  · refine x_iload_n (x_d C_Pa_addRow 11 rfl) rfl ?_
    refine x_if_lt (tgt := 61) (x_d C_Pa_addRow 12 rfl) rfl (fun q => absurd q (by omega)) (fun _ => ?_)
    refine x_iload_n (x_d C_Pa_addRow 13 rfl) rfl ?_
    refine x_if_le (tgt := 61) (x_d C_Pa_addRow 14 rfl) rfl (fun c3 => ?_) (fun c3 => ?_)
    · refine x_return (x_d C_Pa_addRow 35 rfl) ?_
      have e : n = 0 := by omega
      subst e
      exact ⟨rfl, s, ov, f, rfl, pb_nil hp⟩
    · refine x_iload_n (x_d C_Pa_addRow 15 rfl) rfl ?_
      refine x_aload_n (x_d C_Pa_addRow 16 rfl) rfl ?_
      refine x_arraylength (x_d C_Pa_addRow 17 rfl) rfl (by decide) (by omega) ?_
      refine x_iload_n (x_d C_Pa_addRow 18 rfl) rfl ?_
      refine x_isub (x_d C_Pa_addRow 19 rfl) ⟨by omega, by omega⟩ ?_
      refine x_icmp_gt (tgt := 61) (x_d C_Pa_addRow 20 rfl) rfl (fun q => absurd q (by omega)) (fun _ => ?_)
      refine x_aload_n (x_d C_Pa_addRow 21 rfl) rfl ?_
      refine x_iload_n (x_d C_Pa_addRow 22 rfl) rfl ?_
      refine x_aload_n (x_d C_Pa_addRow 23 rfl) rfl ?_
      refine x_getfield (v := xC 22) (x_d C_Pa_addRow 24 rfl) f_Pa_9 rfl rfl ?_
      refine x_aload_n (x_d C_Pa_addRow 25 rfl) rfl ?_
      refine x_getfield (v := xI (s)) (x_d C_Pa_addRow 26 rfl) f_Pa_15 rfl rfl ?_
      refine x_iload_n (x_d C_Pa_addRow 27 rfl) rfl ?_
      refine x_arraycopy (st := []) (h1 := hF (x_up (x_up q 673 s) 674 ov) r (x_up A 22 (va_cpy (A 20) f (a : Int).toNat (s : Int).toNat (n : Int).toNat)) ++ dy) (x_d C_Pa_addRow 28 rfl) ac_Pa_32 ac_w (Or.inr rfl) rfl rfl (by omega) (by omega) (by omega) (by omega) (by omega) (Nat.le_of_ble_eq_true rfl) (by omega) rfl ?_
      refine x_aload_n (x_d C_Pa_addRow 29 rfl) rfl ?_
      refine x_dup (x_d C_Pa_addRow 30 rfl) rfl ?_
      refine x_getfield (v := xI (s)) (x_d C_Pa_addRow 31 rfl) f_Pa_15 rfl rfl ?_
      refine x_iload_n (x_d C_Pa_addRow 32 rfl) rfl ?_
      refine x_iadd (x_d C_Pa_addRow 33 rfl) ⟨by omega, by omega⟩ ?_
      refine x_putfield (h1 := hF (x_up (x_up q 674 ov) 673 (s + n)) r (x_up A 22 (va_cpy (A 20) f (a : Int).toNat (s : Int).toNat (n : Int).toNat)) ++ dy) (x_d C_Pa_addRow 34 rfl) p_Pa_15 rfl rfl rfl trivial rfl ?_
      refine x_return (x_d C_Pa_addRow 35 rfl) ?_
      exact ⟨rfl, _, _, _, rfl, pb_row hp (by omega) (by omega) (by omega)⟩
  · refine x_aload_n (x_d C_Pa_addRow 7 rfl) rfl ?_
    refine x_iconst (x_d C_Pa_addRow 8 rfl) ⟨by omega, by omega⟩ ?_
    refine x_putfield (h1 := hF (x_up (x_up q 673 s) 674 1) r (x_up A 22 f) ++ dy) (x_d C_Pa_addRow 9 rfl) p_Pa_19 rfl rfl rfl (Or.inr rfl) rfl ?_
    refine x_goto (tgt := 61) (x_d C_Pa_addRow 10 rfl) rfl ?_
    refine x_return (x_d C_Pa_addRow 35 rfl) ?_
    exact ⟨rfl, _, _, _, rfl, pb_over hp (by rw [s_sl_len]; omega)⟩
theorem c_Pb_add_38 (Z : xZ) (d : Nat) (q : Nat → Int) (r : Nat → Option Nat) (A : Nat → Nat → Int) (dy : xH) (s ov : Int) (f : Nat → Int) (bs : List Int) (b : Int) (hl : 0 ≤ q 1219 ∧ q 1219 ≤ 6000) (hp : pb (q 1219) s ov f bs) : xMet Z d Y_Pa_add [xC 38, xI b] (hF (x_up (x_up q 1217 s) 1218 ov) r (x_up A 39 f) ++ dy) (fun v0 h2 => v0 = none ∧ ∃ s2 ov2 f2, h2 = hF (x_up (x_up q 1217 s2) 1218 ov2) r (x_up A 39 f2) ++ dy ∧ pb (q 1219) s2 ov2 f2 (bs ++ [x_by b])) := by
  refine xMet_of (by decide) (Nat.le_of_ble_eq_true rfl) (fun v0 h2 hq => by rw [hq.1]; trivial) ?_
  have hp0 := hp.1
  have hp1 := hp.2.1
  refine x_aload_n (x_d C_Pa_add 0 rfl) rfl ?_
  refine x_getfield (v := xI (s)) (x_d C_Pa_add 1 rfl) f_Pa_15 rfl rfl ?_
  refine x_aload_n (x_d C_Pa_add 2 rfl) rfl ?_
  refine x_getfield (v := xI (q 1219)) (x_d C_Pa_add 3 rfl) f_Pa_29 rfl rfl ?_
  refine x_icmp_lt (tgt := 17) (x_d C_Pa_add 4 rfl) rfl (fun c1 => ?_) (fun c1 => ?_)
  · refine x_aload_n (x_d C_Pa_add 9 rfl) rfl ?_
    refine x_getfield (v := xC 39) (x_d C_Pa_add 10 rfl) f_Pa_9 rfl rfl ?_
    refine x_aload_n (x_d C_Pa_add 11 rfl) rfl ?_
    refine x_getfield (v := xI (s)) (x_d C_Pa_add 12 rfl) f_Pa_15 rfl rfl ?_
    refine x_iload_n (x_d C_Pa_add 13 rfl) rfl ?_
    refine x_i2b (x_d C_Pa_add 14 rfl) ?_
    refine x_bastore (h1 := hF (x_up (x_up q 1217 s) 1218 ov) r (x_up A 39 (x_up f (s).toNat (x_by b))) ++ dy) (x_d C_Pa_add 15 rfl) rfl (by omega) (by omega) (x_by_in _) rfl ?_
    refine x_aload_n (x_d C_Pa_add 16 rfl) rfl ?_
    refine x_dup (x_d C_Pa_add 17 rfl) rfl ?_
    refine x_getfield (v := xI (s)) (x_d C_Pa_add 18 rfl) f_Pa_15 rfl rfl ?_
    refine x_iconst (x_d C_Pa_add 19 rfl) ⟨by omega, by omega⟩ ?_
    refine x_iadd (x_d C_Pa_add 20 rfl) ⟨by omega, by omega⟩ ?_
    refine x_putfield (h1 := hF (x_up (x_up q 1218 ov) 1217 (s + 1)) r (x_up A 39 (x_up f (s).toNat (x_by b))) ++ dy) (x_d C_Pa_add 21 rfl) p_Pa_15 rfl rfl rfl trivial rfl ?_
    refine x_return (x_d C_Pa_add 22 rfl) ?_
    exact ⟨rfl, _, _, _, rfl, pb_add hp (by omega)⟩
  · refine x_aload_n (x_d C_Pa_add 5 rfl) rfl ?_
    refine x_iconst (x_d C_Pa_add 6 rfl) ⟨by omega, by omega⟩ ?_
    refine x_putfield (h1 := hF (x_up (x_up q 1217 s) 1218 1) r (x_up A 39 f) ++ dy) (x_d C_Pa_add 7 rfl) p_Pa_19 rfl rfl rfl (Or.inr rfl) rfl ?_
    refine x_return (x_d C_Pa_add 8 rfl) ?_
    exact ⟨rfl, _, _, _, rfl, pb_over hp (by simp only [List.length_cons, List.length_nil]; omega)⟩
theorem c_Pb_addRow_38_2 (Z : xZ) (d : Nat) (q : Nat → Int) (r : Nat → Option Nat) (A : Nat → Nat → Int) (dy : xH) (s ov : Int) (f : Nat → Int) (bs : List Int) (hd : 1 ≤ d) (a n : Int) (hl : 0 ≤ q 1219 ∧ q 1219 ≤ 6000) (hp : pb (q 1219) s ov f bs) (ha : 0 ≤ a ∧ 0 ≤ n ∧ a + n ≤ 10248) : xMet Z d Y_Pa_addRow [xC 38, xC 2, xI a, xI n] (hF (x_up (x_up q 1217 s) 1218 ov) r (x_up A 39 f) ++ dy) (fun v0 h2 => v0 = none ∧ ∃ s2 ov2 f2, h2 = hF (x_up (x_up q 1217 s2) 1218 ov2) r (x_up A 39 f2) ++ dy ∧ pb (q 1219) s2 ov2 f2 (bs ++ s_sl (A 2) a.toNat n.toNat)) := by
  refine xMet_of (by decide) (Nat.le_of_ble_eq_true rfl) (fun v0 h2 hq => by rw [hq.1]; trivial) ?_
  have hp0 := hp.1
  have hp1 := hp.2.1
  refine x_iload_n (x_d C_Pa_addRow 0 rfl) rfl ?_
  refine x_aload_n (x_d C_Pa_addRow 1 rfl) rfl ?_
  refine x_getfield (v := xI (q 1219)) (x_d C_Pa_addRow 2 rfl) f_Pa_29 rfl rfl ?_
  refine x_aload_n (x_d C_Pa_addRow 3 rfl) rfl ?_
  refine x_getfield (v := xI (s)) (x_d C_Pa_addRow 4 rfl) f_Pa_15 rfl rfl ?_
  refine x_isub (x_d C_Pa_addRow 5 rfl) ⟨by omega, by omega⟩ ?_
  refine x_icmp_le (tgt := 21) (x_d C_Pa_addRow 6 rfl) rfl (fun c1 => ?_) (fun c1 => ?_)
  · refine x_iload_n (x_d C_Pa_addRow 11 rfl) rfl ?_
    refine x_if_lt (tgt := 61) (x_d C_Pa_addRow 12 rfl) rfl (fun q => absurd q (by omega)) (fun _ => ?_)
    refine x_iload_n (x_d C_Pa_addRow 13 rfl) rfl ?_
    refine x_if_le (tgt := 61) (x_d C_Pa_addRow 14 rfl) rfl (fun c3 => ?_) (fun c3 => ?_)
    · refine x_return (x_d C_Pa_addRow 35 rfl) ?_
      have e : n = 0 := by omega
      subst e
      exact ⟨rfl, s, ov, f, rfl, pb_nil hp⟩
    · refine x_iload_n (x_d C_Pa_addRow 15 rfl) rfl ?_
      refine x_aload_n (x_d C_Pa_addRow 16 rfl) rfl ?_
      refine x_arraylength (x_d C_Pa_addRow 17 rfl) rfl (by decide) (by omega) ?_
      refine x_iload_n (x_d C_Pa_addRow 18 rfl) rfl ?_
      refine x_isub (x_d C_Pa_addRow 19 rfl) ⟨by omega, by omega⟩ ?_
      refine x_icmp_gt (tgt := 61) (x_d C_Pa_addRow 20 rfl) rfl (fun q => absurd q (by omega)) (fun _ => ?_)
      refine x_aload_n (x_d C_Pa_addRow 21 rfl) rfl ?_
      refine x_iload_n (x_d C_Pa_addRow 22 rfl) rfl ?_
      refine x_aload_n (x_d C_Pa_addRow 23 rfl) rfl ?_
      refine x_getfield (v := xC 39) (x_d C_Pa_addRow 24 rfl) f_Pa_9 rfl rfl ?_
      refine x_aload_n (x_d C_Pa_addRow 25 rfl) rfl ?_
      refine x_getfield (v := xI (s)) (x_d C_Pa_addRow 26 rfl) f_Pa_15 rfl rfl ?_
      refine x_iload_n (x_d C_Pa_addRow 27 rfl) rfl ?_
      refine x_arraycopy (st := []) (h1 := hF (x_up (x_up q 1217 s) 1218 ov) r (x_up A 39 (va_cpy (A 2) f (a : Int).toNat (s : Int).toNat (n : Int).toNat)) ++ dy) (x_d C_Pa_addRow 28 rfl) ac_Pa_32 ac_w (Or.inr rfl) rfl rfl (by omega) (by omega) (by omega) (by omega) (by omega) (Nat.le_of_ble_eq_true rfl) (by omega) rfl ?_
      refine x_aload_n (x_d C_Pa_addRow 29 rfl) rfl ?_
      refine x_dup (x_d C_Pa_addRow 30 rfl) rfl ?_
      refine x_getfield (v := xI (s)) (x_d C_Pa_addRow 31 rfl) f_Pa_15 rfl rfl ?_
      refine x_iload_n (x_d C_Pa_addRow 32 rfl) rfl ?_
      refine x_iadd (x_d C_Pa_addRow 33 rfl) ⟨by omega, by omega⟩ ?_
      refine x_putfield (h1 := hF (x_up (x_up q 1218 ov) 1217 (s + n)) r (x_up A 39 (va_cpy (A 2) f (a : Int).toNat (s : Int).toNat (n : Int).toNat)) ++ dy) (x_d C_Pa_addRow 34 rfl) p_Pa_15 rfl rfl rfl trivial rfl ?_
      refine x_return (x_d C_Pa_addRow 35 rfl) ?_
      exact ⟨rfl, _, _, _, rfl, pb_row hp (by omega) (by omega) (by omega)⟩
  · refine x_aload_n (x_d C_Pa_addRow 7 rfl) rfl ?_
    refine x_iconst (x_d C_Pa_addRow 8 rfl) ⟨by omega, by omega⟩ ?_
    refine x_putfield (h1 := hF (x_up (x_up q 1217 s) 1218 1) r (x_up A 39 f) ++ dy) (x_d C_Pa_addRow 9 rfl) p_Pa_19 rfl rfl rfl (Or.inr rfl) rfl ?_
    refine x_goto (tgt := 61) (x_d C_Pa_addRow 10 rfl) rfl ?_
    refine x_return (x_d C_Pa_addRow 35 rfl) ?_
    exact ⟨rfl, _, _, _, rfl, pb_over hp (by rw [s_sl_len]; omega)⟩
theorem c_Pb_addRow_38_20 (Z : xZ) (d : Nat) (q : Nat → Int) (r : Nat → Option Nat) (A : Nat → Nat → Int) (dy : xH) (s ov : Int) (f : Nat → Int) (bs : List Int) (hd : 1 ≤ d) (a n : Int) (hl : 0 ≤ q 1219 ∧ q 1219 ≤ 6000) (hp : pb (q 1219) s ov f bs) (ha : 0 ≤ a ∧ 0 ≤ n ∧ a + n ≤ 3000) : xMet Z d Y_Pa_addRow [xC 38, xC 20, xI a, xI n] (hF (x_up (x_up q 1217 s) 1218 ov) r (x_up A 39 f) ++ dy) (fun v0 h2 => v0 = none ∧ ∃ s2 ov2 f2, h2 = hF (x_up (x_up q 1217 s2) 1218 ov2) r (x_up A 39 f2) ++ dy ∧ pb (q 1219) s2 ov2 f2 (bs ++ s_sl (A 20) a.toNat n.toNat)) := by
  refine xMet_of (by decide) (Nat.le_of_ble_eq_true rfl) (fun v0 h2 hq => by rw [hq.1]; trivial) ?_
  have hp0 := hp.1
  have hp1 := hp.2.1
  refine x_iload_n (x_d C_Pa_addRow 0 rfl) rfl ?_
  refine x_aload_n (x_d C_Pa_addRow 1 rfl) rfl ?_
  refine x_getfield (v := xI (q 1219)) (x_d C_Pa_addRow 2 rfl) f_Pa_29 rfl rfl ?_
  refine x_aload_n (x_d C_Pa_addRow 3 rfl) rfl ?_
  refine x_getfield (v := xI (s)) (x_d C_Pa_addRow 4 rfl) f_Pa_15 rfl rfl ?_
  refine x_isub (x_d C_Pa_addRow 5 rfl) ⟨by omega, by omega⟩ ?_
  refine x_icmp_le (tgt := 21) (x_d C_Pa_addRow 6 rfl) rfl (fun c1 => ?_) (fun c1 => ?_)
  · refine x_iload_n (x_d C_Pa_addRow 11 rfl) rfl ?_
    refine x_if_lt (tgt := 61) (x_d C_Pa_addRow 12 rfl) rfl (fun q => absurd q (by omega)) (fun _ => ?_)
    refine x_iload_n (x_d C_Pa_addRow 13 rfl) rfl ?_
    refine x_if_le (tgt := 61) (x_d C_Pa_addRow 14 rfl) rfl (fun c3 => ?_) (fun c3 => ?_)
    · refine x_return (x_d C_Pa_addRow 35 rfl) ?_
      have e : n = 0 := by omega
      subst e
      exact ⟨rfl, s, ov, f, rfl, pb_nil hp⟩
    · refine x_iload_n (x_d C_Pa_addRow 15 rfl) rfl ?_
      refine x_aload_n (x_d C_Pa_addRow 16 rfl) rfl ?_
      refine x_arraylength (x_d C_Pa_addRow 17 rfl) rfl (by decide) (by omega) ?_
      refine x_iload_n (x_d C_Pa_addRow 18 rfl) rfl ?_
      refine x_isub (x_d C_Pa_addRow 19 rfl) ⟨by omega, by omega⟩ ?_
      refine x_icmp_gt (tgt := 61) (x_d C_Pa_addRow 20 rfl) rfl (fun q => absurd q (by omega)) (fun _ => ?_)
      refine x_aload_n (x_d C_Pa_addRow 21 rfl) rfl ?_
      refine x_iload_n (x_d C_Pa_addRow 22 rfl) rfl ?_
      refine x_aload_n (x_d C_Pa_addRow 23 rfl) rfl ?_
      refine x_getfield (v := xC 39) (x_d C_Pa_addRow 24 rfl) f_Pa_9 rfl rfl ?_
      refine x_aload_n (x_d C_Pa_addRow 25 rfl) rfl ?_
      refine x_getfield (v := xI (s)) (x_d C_Pa_addRow 26 rfl) f_Pa_15 rfl rfl ?_
      refine x_iload_n (x_d C_Pa_addRow 27 rfl) rfl ?_
      refine x_arraycopy (st := []) (h1 := hF (x_up (x_up q 1217 s) 1218 ov) r (x_up A 39 (va_cpy (A 20) f (a : Int).toNat (s : Int).toNat (n : Int).toNat)) ++ dy) (x_d C_Pa_addRow 28 rfl) ac_Pa_32 ac_w (Or.inr rfl) rfl rfl (by omega) (by omega) (by omega) (by omega) (by omega) (Nat.le_of_ble_eq_true rfl) (by omega) rfl ?_
      refine x_aload_n (x_d C_Pa_addRow 29 rfl) rfl ?_
      refine x_dup (x_d C_Pa_addRow 30 rfl) rfl ?_
      refine x_getfield (v := xI (s)) (x_d C_Pa_addRow 31 rfl) f_Pa_15 rfl rfl ?_
      refine x_iload_n (x_d C_Pa_addRow 32 rfl) rfl ?_
      refine x_iadd (x_d C_Pa_addRow 33 rfl) ⟨by omega, by omega⟩ ?_
      refine x_putfield (h1 := hF (x_up (x_up q 1218 ov) 1217 (s + n)) r (x_up A 39 (va_cpy (A 20) f (a : Int).toNat (s : Int).toNat (n : Int).toNat)) ++ dy) (x_d C_Pa_addRow 34 rfl) p_Pa_15 rfl rfl rfl trivial rfl ?_
      refine x_return (x_d C_Pa_addRow 35 rfl) ?_
      exact ⟨rfl, _, _, _, rfl, pb_row hp (by omega) (by omega) (by omega)⟩
  · refine x_aload_n (x_d C_Pa_addRow 7 rfl) rfl ?_
    refine x_iconst (x_d C_Pa_addRow 8 rfl) ⟨by omega, by omega⟩ ?_
    refine x_putfield (h1 := hF (x_up (x_up q 1217 s) 1218 1) r (x_up A 39 f) ++ dy) (x_d C_Pa_addRow 9 rfl) p_Pa_19 rfl rfl rfl (Or.inr rfl) rfl ?_
    refine x_goto (tgt := 61) (x_d C_Pa_addRow 10 rfl) rfl ?_
    refine x_return (x_d C_Pa_addRow 35 rfl) ?_
    exact ⟨rfl, _, _, _, rfl, pb_over hp (by rw [s_sl_len]; omega)⟩
theorem c_Pb_addRow_38_22 (Z : xZ) (d : Nat) (q : Nat → Int) (r : Nat → Option Nat) (A : Nat → Nat → Int) (dy : xH) (s ov : Int) (f : Nat → Int) (bs : List Int) (hd : 1 ≤ d) (a n : Int) (hl : 0 ≤ q 1219 ∧ q 1219 ≤ 6000) (hp : pb (q 1219) s ov f bs) (ha : 0 ≤ a ∧ 0 ≤ n ∧ a + n ≤ 3000) : xMet Z d Y_Pa_addRow [xC 38, xC 22, xI a, xI n] (hF (x_up (x_up q 1217 s) 1218 ov) r (x_up A 39 f) ++ dy) (fun v0 h2 => v0 = none ∧ ∃ s2 ov2 f2, h2 = hF (x_up (x_up q 1217 s2) 1218 ov2) r (x_up A 39 f2) ++ dy ∧ pb (q 1219) s2 ov2 f2 (bs ++ s_sl (A 22) a.toNat n.toNat)) := by
  refine xMet_of (by decide) (Nat.le_of_ble_eq_true rfl) (fun v0 h2 hq => by rw [hq.1]; trivial) ?_
  have hp0 := hp.1
  have hp1 := hp.2.1
  refine x_iload_n (x_d C_Pa_addRow 0 rfl) rfl ?_
  refine x_aload_n (x_d C_Pa_addRow 1 rfl) rfl ?_
  refine x_getfield (v := xI (q 1219)) (x_d C_Pa_addRow 2 rfl) f_Pa_29 rfl rfl ?_
  refine x_aload_n (x_d C_Pa_addRow 3 rfl) rfl ?_
  refine x_getfield (v := xI (s)) (x_d C_Pa_addRow 4 rfl) f_Pa_15 rfl rfl ?_
  refine x_isub (x_d C_Pa_addRow 5 rfl) ⟨by omega, by omega⟩ ?_
  refine x_icmp_le (tgt := 21) (x_d C_Pa_addRow 6 rfl) rfl (fun c1 => ?_) (fun c1 => ?_)
  · refine x_iload_n (x_d C_Pa_addRow 11 rfl) rfl ?_
    refine x_if_lt (tgt := 61) (x_d C_Pa_addRow 12 rfl) rfl (fun q => absurd q (by omega)) (fun _ => ?_)
    refine x_iload_n (x_d C_Pa_addRow 13 rfl) rfl ?_
    refine x_if_le (tgt := 61) (x_d C_Pa_addRow 14 rfl) rfl (fun c3 => ?_) (fun c3 => ?_)
    · refine x_return (x_d C_Pa_addRow 35 rfl) ?_
      have e : n = 0 := by omega
      subst e
      exact ⟨rfl, s, ov, f, rfl, pb_nil hp⟩
    · refine x_iload_n (x_d C_Pa_addRow 15 rfl) rfl ?_
      refine x_aload_n (x_d C_Pa_addRow 16 rfl) rfl ?_
      refine x_arraylength (x_d C_Pa_addRow 17 rfl) rfl (by decide) (by omega) ?_
      refine x_iload_n (x_d C_Pa_addRow 18 rfl) rfl ?_
      refine x_isub (x_d C_Pa_addRow 19 rfl) ⟨by omega, by omega⟩ ?_
      refine x_icmp_gt (tgt := 61) (x_d C_Pa_addRow 20 rfl) rfl (fun q => absurd q (by omega)) (fun _ => ?_)
      refine x_aload_n (x_d C_Pa_addRow 21 rfl) rfl ?_
      refine x_iload_n (x_d C_Pa_addRow 22 rfl) rfl ?_
      refine x_aload_n (x_d C_Pa_addRow 23 rfl) rfl ?_
      refine x_getfield (v := xC 39) (x_d C_Pa_addRow 24 rfl) f_Pa_9 rfl rfl ?_
      refine x_aload_n (x_d C_Pa_addRow 25 rfl) rfl ?_
      refine x_getfield (v := xI (s)) (x_d C_Pa_addRow 26 rfl) f_Pa_15 rfl rfl ?_
      refine x_iload_n (x_d C_Pa_addRow 27 rfl) rfl ?_
      refine x_arraycopy (st := []) (h1 := hF (x_up (x_up q 1217 s) 1218 ov) r (x_up A 39 (va_cpy (A 22) f (a : Int).toNat (s : Int).toNat (n : Int).toNat)) ++ dy) (x_d C_Pa_addRow 28 rfl) ac_Pa_32 ac_w (Or.inr rfl) rfl rfl (by omega) (by omega) (by omega) (by omega) (by omega) (Nat.le_of_ble_eq_true rfl) (by omega) rfl ?_
      refine x_aload_n (x_d C_Pa_addRow 29 rfl) rfl ?_
      refine x_dup (x_d C_Pa_addRow 30 rfl) rfl ?_
      refine x_getfield (v := xI (s)) (x_d C_Pa_addRow 31 rfl) f_Pa_15 rfl rfl ?_
      refine x_iload_n (x_d C_Pa_addRow 32 rfl) rfl ?_
      refine x_iadd (x_d C_Pa_addRow 33 rfl) ⟨by omega, by omega⟩ ?_
      refine x_putfield (h1 := hF (x_up (x_up q 1218 ov) 1217 (s + n)) r (x_up A 39 (va_cpy (A 22) f (a : Int).toNat (s : Int).toNat (n : Int).toNat)) ++ dy) (x_d C_Pa_addRow 34 rfl) p_Pa_15 rfl rfl rfl trivial rfl ?_
      refine x_return (x_d C_Pa_addRow 35 rfl) ?_
      exact ⟨rfl, _, _, _, rfl, pb_row hp (by omega) (by omega) (by omega)⟩
  · refine x_aload_n (x_d C_Pa_addRow 7 rfl) rfl ?_
    refine x_iconst (x_d C_Pa_addRow 8 rfl) ⟨by omega, by omega⟩ ?_
    refine x_putfield (h1 := hF (x_up (x_up q 1217 s) 1218 1) r (x_up A 39 f) ++ dy) (x_d C_Pa_addRow 9 rfl) p_Pa_19 rfl rfl rfl (Or.inr rfl) rfl ?_
    refine x_goto (tgt := 61) (x_d C_Pa_addRow 10 rfl) rfl ?_
    refine x_return (x_d C_Pa_addRow 35 rfl) ?_
    exact ⟨rfl, _, _, _, rfl, pb_over hp (by rw [s_sl_len]; omega)⟩
theorem c_Pb_add_40 (Z : xZ) (d : Nat) (q : Nat → Int) (r : Nat → Option Nat) (A : Nat → Nat → Int) (dy : xH) (s ov : Int) (f : Nat → Int) (bs : List Int) (b : Int) (hl : 0 ≤ q 1283 ∧ q 1283 ≤ 6000) (hp : pb (q 1283) s ov f bs) : xMet Z d Y_Pa_add [xC 40, xI b] (hF (x_up (x_up q 1281 s) 1282 ov) r (x_up A 41 f) ++ dy) (fun v0 h2 => v0 = none ∧ ∃ s2 ov2 f2, h2 = hF (x_up (x_up q 1281 s2) 1282 ov2) r (x_up A 41 f2) ++ dy ∧ pb (q 1283) s2 ov2 f2 (bs ++ [x_by b])) := by
  refine xMet_of (by decide) (Nat.le_of_ble_eq_true rfl) (fun v0 h2 hq => by rw [hq.1]; trivial) ?_
  have hp0 := hp.1
  have hp1 := hp.2.1
  refine x_aload_n (x_d C_Pa_add 0 rfl) rfl ?_
  refine x_getfield (v := xI (s)) (x_d C_Pa_add 1 rfl) f_Pa_15 rfl rfl ?_
  refine x_aload_n (x_d C_Pa_add 2 rfl) rfl ?_
  refine x_getfield (v := xI (q 1283)) (x_d C_Pa_add 3 rfl) f_Pa_29 rfl rfl ?_
  refine x_icmp_lt (tgt := 17) (x_d C_Pa_add 4 rfl) rfl (fun c1 => ?_) (fun c1 => ?_)
  · refine x_aload_n (x_d C_Pa_add 9 rfl) rfl ?_
    refine x_getfield (v := xC 41) (x_d C_Pa_add 10 rfl) f_Pa_9 rfl rfl ?_
    refine x_aload_n (x_d C_Pa_add 11 rfl) rfl ?_
    refine x_getfield (v := xI (s)) (x_d C_Pa_add 12 rfl) f_Pa_15 rfl rfl ?_
    refine x_iload_n (x_d C_Pa_add 13 rfl) rfl ?_
    refine x_i2b (x_d C_Pa_add 14 rfl) ?_
    refine x_bastore (h1 := hF (x_up (x_up q 1281 s) 1282 ov) r (x_up A 41 (x_up f (s).toNat (x_by b))) ++ dy) (x_d C_Pa_add 15 rfl) rfl (by omega) (by omega) (x_by_in _) rfl ?_
    refine x_aload_n (x_d C_Pa_add 16 rfl) rfl ?_
    refine x_dup (x_d C_Pa_add 17 rfl) rfl ?_
    refine x_getfield (v := xI (s)) (x_d C_Pa_add 18 rfl) f_Pa_15 rfl rfl ?_
    refine x_iconst (x_d C_Pa_add 19 rfl) ⟨by omega, by omega⟩ ?_
    refine x_iadd (x_d C_Pa_add 20 rfl) ⟨by omega, by omega⟩ ?_
    refine x_putfield (h1 := hF (x_up (x_up q 1282 ov) 1281 (s + 1)) r (x_up A 41 (x_up f (s).toNat (x_by b))) ++ dy) (x_d C_Pa_add 21 rfl) p_Pa_15 rfl rfl rfl trivial rfl ?_
    refine x_return (x_d C_Pa_add 22 rfl) ?_
    exact ⟨rfl, _, _, _, rfl, pb_add hp (by omega)⟩
  · refine x_aload_n (x_d C_Pa_add 5 rfl) rfl ?_
    refine x_iconst (x_d C_Pa_add 6 rfl) ⟨by omega, by omega⟩ ?_
    refine x_putfield (h1 := hF (x_up (x_up q 1281 s) 1282 1) r (x_up A 41 f) ++ dy) (x_d C_Pa_add 7 rfl) p_Pa_19 rfl rfl rfl (Or.inr rfl) rfl ?_
    refine x_return (x_d C_Pa_add 8 rfl) ?_
    exact ⟨rfl, _, _, _, rfl, pb_over hp (by simp only [List.length_cons, List.length_nil]; omega)⟩
theorem c_Pb_addRow_40_2 (Z : xZ) (d : Nat) (q : Nat → Int) (r : Nat → Option Nat) (A : Nat → Nat → Int) (dy : xH) (s ov : Int) (f : Nat → Int) (bs : List Int) (hd : 1 ≤ d) (a n : Int) (hl : 0 ≤ q 1283 ∧ q 1283 ≤ 6000) (hp : pb (q 1283) s ov f bs) (ha : 0 ≤ a ∧ 0 ≤ n ∧ a + n ≤ 10248) : xMet Z d Y_Pa_addRow [xC 40, xC 2, xI a, xI n] (hF (x_up (x_up q 1281 s) 1282 ov) r (x_up A 41 f) ++ dy) (fun v0 h2 => v0 = none ∧ ∃ s2 ov2 f2, h2 = hF (x_up (x_up q 1281 s2) 1282 ov2) r (x_up A 41 f2) ++ dy ∧ pb (q 1283) s2 ov2 f2 (bs ++ s_sl (A 2) a.toNat n.toNat)) := by
  refine xMet_of (by decide) (Nat.le_of_ble_eq_true rfl) (fun v0 h2 hq => by rw [hq.1]; trivial) ?_
  have hp0 := hp.1
  have hp1 := hp.2.1
  refine x_iload_n (x_d C_Pa_addRow 0 rfl) rfl ?_
  refine x_aload_n (x_d C_Pa_addRow 1 rfl) rfl ?_
  refine x_getfield (v := xI (q 1283)) (x_d C_Pa_addRow 2 rfl) f_Pa_29 rfl rfl ?_
  refine x_aload_n (x_d C_Pa_addRow 3 rfl) rfl ?_
  refine x_getfield (v := xI (s)) (x_d C_Pa_addRow 4 rfl) f_Pa_15 rfl rfl ?_
  refine x_isub (x_d C_Pa_addRow 5 rfl) ⟨by omega, by omega⟩ ?_
  refine x_icmp_le (tgt := 21) (x_d C_Pa_addRow 6 rfl) rfl (fun c1 => ?_) (fun c1 => ?_)
  · refine x_iload_n (x_d C_Pa_addRow 11 rfl) rfl ?_
    refine x_if_lt (tgt := 61) (x_d C_Pa_addRow 12 rfl) rfl (fun q => absurd q (by omega)) (fun _ => ?_)
    refine x_iload_n (x_d C_Pa_addRow 13 rfl) rfl ?_
    refine x_if_le (tgt := 61) (x_d C_Pa_addRow 14 rfl) rfl (fun c3 => ?_) (fun c3 => ?_)
    · refine x_return (x_d C_Pa_addRow 35 rfl) ?_
      have e : n = 0 := by omega
      subst e
      exact ⟨rfl, s, ov, f, rfl, pb_nil hp⟩
    · refine x_iload_n (x_d C_Pa_addRow 15 rfl) rfl ?_
      refine x_aload_n (x_d C_Pa_addRow 16 rfl) rfl ?_
      refine x_arraylength (x_d C_Pa_addRow 17 rfl) rfl (by decide) (by omega) ?_
      refine x_iload_n (x_d C_Pa_addRow 18 rfl) rfl ?_
      refine x_isub (x_d C_Pa_addRow 19 rfl) ⟨by omega, by omega⟩ ?_
      refine x_icmp_gt (tgt := 61) (x_d C_Pa_addRow 20 rfl) rfl (fun q => absurd q (by omega)) (fun _ => ?_)
      refine x_aload_n (x_d C_Pa_addRow 21 rfl) rfl ?_
      refine x_iload_n (x_d C_Pa_addRow 22 rfl) rfl ?_
      refine x_aload_n (x_d C_Pa_addRow 23 rfl) rfl ?_
      refine x_getfield (v := xC 41) (x_d C_Pa_addRow 24 rfl) f_Pa_9 rfl rfl ?_
      refine x_aload_n (x_d C_Pa_addRow 25 rfl) rfl ?_
      refine x_getfield (v := xI (s)) (x_d C_Pa_addRow 26 rfl) f_Pa_15 rfl rfl ?_
      refine x_iload_n (x_d C_Pa_addRow 27 rfl) rfl ?_
      refine x_arraycopy (st := []) (h1 := hF (x_up (x_up q 1281 s) 1282 ov) r (x_up A 41 (va_cpy (A 2) f (a : Int).toNat (s : Int).toNat (n : Int).toNat)) ++ dy) (x_d C_Pa_addRow 28 rfl) ac_Pa_32 ac_w (Or.inr rfl) rfl rfl (by omega) (by omega) (by omega) (by omega) (by omega) (Nat.le_of_ble_eq_true rfl) (by omega) rfl ?_
      refine x_aload_n (x_d C_Pa_addRow 29 rfl) rfl ?_
      refine x_dup (x_d C_Pa_addRow 30 rfl) rfl ?_
      refine x_getfield (v := xI (s)) (x_d C_Pa_addRow 31 rfl) f_Pa_15 rfl rfl ?_
      refine x_iload_n (x_d C_Pa_addRow 32 rfl) rfl ?_
      refine x_iadd (x_d C_Pa_addRow 33 rfl) ⟨by omega, by omega⟩ ?_
      refine x_putfield (h1 := hF (x_up (x_up q 1282 ov) 1281 (s + n)) r (x_up A 41 (va_cpy (A 2) f (a : Int).toNat (s : Int).toNat (n : Int).toNat)) ++ dy) (x_d C_Pa_addRow 34 rfl) p_Pa_15 rfl rfl rfl trivial rfl ?_
      refine x_return (x_d C_Pa_addRow 35 rfl) ?_
      exact ⟨rfl, _, _, _, rfl, pb_row hp (by omega) (by omega) (by omega)⟩
  · refine x_aload_n (x_d C_Pa_addRow 7 rfl) rfl ?_
    refine x_iconst (x_d C_Pa_addRow 8 rfl) ⟨by omega, by omega⟩ ?_
    refine x_putfield (h1 := hF (x_up (x_up q 1281 s) 1282 1) r (x_up A 41 f) ++ dy) (x_d C_Pa_addRow 9 rfl) p_Pa_19 rfl rfl rfl (Or.inr rfl) rfl ?_
    refine x_goto (tgt := 61) (x_d C_Pa_addRow 10 rfl) rfl ?_
    refine x_return (x_d C_Pa_addRow 35 rfl) ?_
    exact ⟨rfl, _, _, _, rfl, pb_over hp (by rw [s_sl_len]; omega)⟩
theorem s_map_drop (cs : List Int) (k : Nat) (h : k < cs.length) : (cs.drop k).map x_by = x_by (cs.getD k 0) :: (cs.drop (k + 1)).map x_by := by
  have e : cs.drop k = cs.getD k 0 :: cs.drop (k + 1) := by
    rw [List.getD_eq_getElem?_getD, List.getElem?_eq_getElem h, List.drop_eq_getElem_cons h]
    rfl
  rw [e]
  rfl
theorem w_Pa_addText_40_2 (Z : xZ) (d : Nat) (q : Nat → Int) (r : Nat → Option Nat) (A : Nat → Nat → Int) (dy : xH) (hd : 5 ≤ d) {i : Nat} {sc : String × Nat × String × List Int} (hs : x_strs[i]? = some sc) (hl : 0 ≤ q 1283 ∧ q 1283 ≤ 6000) : ∀ (m : Nat) (s ov : Int) (f : Nat → Int) (bs : List Int) (k : Int), (0 ≤ k ∧ k + m = sc.2.2.2.length) → pb (q 1283) s ov f bs → xW Z d Y_Pa_addText 2 [(0, xC 40), (1, xS (2 * i + 1)), (2, xI k)] [] (hF (x_up (x_up q 1281 s) 1282 ov) r (x_up A 41 f) ++ dy) (fun v0 h2 => v0 = none ∧ ∃ s2 ov2 f2, h2 = hF (x_up (x_up q 1281 s2) 1282 ov2) r (x_up A 41 f2) ++ dy ∧ pb (q 1283) s2 ov2 f2 (bs ++ (sc.2.2.2.drop k.toNat).map x_by)) := by
  intro m
  induction m with
  | zero =>
    intro s ov f bs k hk hp
    have hp0 := hp.1
    have hp1 := hp.2.1
    have hsl := x_strs_len hs
    refine x_iload_n (x_d C_Pa_addText 2 rfl) rfl ?_
    refine x_aload_n (x_d C_Pa_addText 3 rfl) rfl ?_
    refine x_invokevirtualS (st := [xI (k)]) (av := []) (x_d C_Pa_addText 4 rfl) k_Pa_38 m_S_length v_S_length rfl hs rfl (Nat.le_of_ble_eq_true rfl) (by omega) rfl (c_S_length Z (d - 1) (hF (x_up (x_up q 1281 s) 1282 ov) r (x_up A 41 f) ++ dy) (by omega) hs) ?_
    rintro v_ _ ⟨hv_, rfl⟩
    obtain rfl : v_ = some (xI (sc.2.2.2.length : Int)) := hv_
    refine x_icmp_ge (tgt := 25) (x_d C_Pa_addText 5 rfl) rfl (fun _ => ?_) (fun q => absurd q (by omega))
    refine x_return (x_d C_Pa_addText 13 rfl) ?_
    rw [List.drop_eq_nil_of_le (by omega)]
    exact ⟨rfl, s, ov, f, rfl, pb_nil hp⟩
  | succ m ih =>
    intro s ov f bs k hk hp
    have hp0 := hp.1
    have hp1 := hp.2.1
    have hsl := x_strs_len hs
    refine x_iload_n (x_d C_Pa_addText 2 rfl) rfl ?_
    refine x_aload_n (x_d C_Pa_addText 3 rfl) rfl ?_
    refine x_invokevirtualS (st := [xI (k)]) (av := []) (x_d C_Pa_addText 4 rfl) k_Pa_38 m_S_length v_S_length rfl hs rfl (Nat.le_of_ble_eq_true rfl) (by omega) rfl (c_S_length Z (d - 1) (hF (x_up (x_up q 1281 s) 1282 ov) r (x_up A 41 f) ++ dy) (by omega) hs) ?_
    rintro v_ _ ⟨hv_, rfl⟩
    obtain rfl : v_ = some (xI (sc.2.2.2.length : Int)) := hv_
    refine x_icmp_ge (tgt := 25) (x_d C_Pa_addText 5 rfl) rfl (fun q => absurd q (by omega)) (fun _ => ?_)
    refine x_aload_n (x_d C_Pa_addText 6 rfl) rfl ?_
    refine x_aload_n (x_d C_Pa_addText 7 rfl) rfl ?_
    refine x_iload_n (x_d C_Pa_addText 8 rfl) rfl ?_
    refine x_invokevirtualS (st := [xC 40]) (av := [xI (k)]) (x_d C_Pa_addText 9 rfl) k_Pa_44 m_S_charAt v_S_charAt rfl hs rfl (Nat.le_of_ble_eq_true rfl) (by omega) rfl (c_S_charAt Z (d - 1) (hF (x_up (x_up q 1281 s) 1282 ov) r (x_up A 41 f) ++ dy) (by omega) hs k (by omega)) ?_
    rintro v_ _ ⟨hv_, rfl⟩
    obtain rfl : v_ = some (xI (sc.2.2.2.getD (k).toNat 0)) := hv_
    refine x_invokevirtual (st := []) (av := [xI (sc.2.2.2.getD (k).toNat 0)]) (x_d C_Pa_addText 10 rfl) k_Pa_48 m_Pa_add v_Pa_add cl_Pa rfl rfl (Nat.le_of_ble_eq_true rfl) (by omega) rfl (c_Pb_add_40 Z (d - 1) q r A dy s ov f bs (sc.2.2.2.getD (k).toNat 0) hl hp) ?_
    rintro _ _ ⟨rfl, s2, ov2, f2, rfl, hp2⟩
    have hp02 := hp2.1
    have hp12 := hp2.2.1
    refine x_iinc (l1 := [(2, xI (k + 1)), (0, xC 40), (1, xS (2 * i + 1))]) (x_d C_Pa_addText 11 rfl) rfl ⟨by omega, by omega⟩ (by decide) rfl ?_
    refine x_goto (tgt := 2) (x_d C_Pa_addText 12 rfl) rfl ?_
    refine x_locs [1, 2, 0] rfl ?_
    refine xW_post ?_ (ih s2 ov2 f2 _ (k + 1) (by omega) hp2)
    rintro v h2 ⟨g1, s9, ov9, f9, g2, g3⟩
    exact ⟨g1, s9, ov9, f9, g2, by rw [s_map_drop _ _ (by omega)]; rw [show (k + 1).toNat = k.toNat + 1 by omega, List.append_assoc] at g3; exact g3⟩
theorem c_Pb_addText_40 (Z : xZ) (d : Nat) (q : Nat → Int) (r : Nat → Option Nat) (A : Nat → Nat → Int) (dy : xH) (s ov : Int) (f : Nat → Int) (bs : List Int) (hd : 5 ≤ d) {i : Nat} {sc : String × Nat × String × List Int} (hs : x_strs[i]? = some sc) (hl : 0 ≤ q 1283 ∧ q 1283 ≤ 6000) (hp : pb (q 1283) s ov f bs) : xMet Z d Y_Pa_addText [xC 40, xS (2 * i + 1)] (hF (x_up (x_up q 1281 s) 1282 ov) r (x_up A 41 f) ++ dy) (fun v0 h2 => v0 = none ∧ ∃ s2 ov2 f2, h2 = hF (x_up (x_up q 1281 s2) 1282 ov2) r (x_up A 41 f2) ++ dy ∧ pb (q 1283) s2 ov2 f2 (bs ++ sc.2.2.2.map x_by)) := by
  refine xMet_of (by decide) (Nat.le_of_ble_eq_true rfl) (fun v0 h2 hq => by rw [hq.1]; trivial) ?_
  have hp0 := hp.1
  have hp1 := hp.2.1
  refine x_iconst (x_d C_Pa_addText 0 rfl) ⟨by omega, by omega⟩ ?_
  refine x_istore_n (l1 := [(2, xI (0)), (0, xC 40), (1, xS (2 * i + 1))]) (x_d C_Pa_addText 1 rfl) (by decide) rfl ?_
  refine x_locs [1, 2, 0] rfl ?_
  have := w_Pa_addText_40_2 Z d q r A dy hd hs hl sc.2.2.2.length s ov f bs 0 (by omega) hp
  exact this
/-- n digits, the last ones of v -/
def s_dg : Nat → Int → List Int
  | 0, _ => []
  | n + 1, v => s_dg n (v / 10) ++ [48 + v % 10]
theorem s_dg_len : ∀ (n : Nat) (v : Int), (s_dg n v).length = n
  | 0, _ => rfl
  | n + 1, v => by show (s_dg n (v / 10) ++ [48 + v % 10]).length = n + 1; rw [List.length_append, s_dg_len n]; rfl
/-- how many digits -/
def s_nd : Nat → Int → Int
  | 0, _ => 1
  | k + 1, v => if 0 < v / 10 then 1 + s_nd k (v / 10) else 1
def s_int (v : Int) : List Int := (if v < 0 then [45] else []) ++ s_dg (s_nd 10 (if v < 0 then -v else v)).toNat (if v < 0 then -v else v)
theorem s_nd_in : ∀ (k : Nat) (v : Int), 1 ≤ s_nd k v ∧ s_nd k v ≤ k + 1
  | 0, _ => ⟨Int.le_refl 1, Int.le_refl 1⟩
  | k + 1, v => by
    have := s_nd_in k (v / 10)
    unfold s_nd
    split
    · omega
    · omega
theorem s_p10 (j : Nat) : (1 : Int) ≤ 10 ^ j := (Int.pow_pos (by omega) : (0 : Int) < 10 ^ j)
theorem s_p12 {j : Nat} (h : j ≤ 12) : (10 : Int) ^ j ≤ 10 ^ 12 := by
  have := Nat.pow_le_pow_right (n := 10) (by omega) h
  exact_mod_cast this
theorem s_by_dig (x : Int) : x_by (48 + x % 10) = 48 + x % 10 := x_by_id ⟨by omega, by omega⟩
theorem s_div10 (v : Int) (j : Nat) : v / 10 ^ j / 10 = v / 10 ^ (j + 1) := by
  rw [Int.ediv_ediv_of_nonneg (Int.le_of_lt (Int.pow_pos (by omega))), Int.pow_succ]
theorem w_Pa_addDigits_40_5 (Z : xZ) (d : Nat) (v n : Int) (H : xH) (Q : Option xV → xH → Prop) (hn : 1 ≤ n ∧ n ≤ 12) (kk : xW Z d Y_Pa_addDigits 23 [(0, xC 40), (1, xI v), (2, xI n), (3, xJ (10 ^ (n - 1).toNat)), (5, xI n)] [] H Q) : ∀ (m : Nat) (k : Int), 1 ≤ k ∧ k + m = n → xW Z d Y_Pa_addDigits 5 [(0, xC 40), (1, xI v), (2, xI n), (3, xJ (10 ^ (k - 1).toNat)), (5, xI k)] [] H Q := by
  intro m
  induction m with
  | zero =>
    intro k hk
    obtain rfl : k = n := by omega
    refine x_iload (x_d C_Pa_addDigits 4 rfl) rfl ?_
    refine x_iload_n (x_d C_Pa_addDigits 5 rfl) rfl ?_
    refine x_icmp_ge (tgt := 23) (x_d C_Pa_addDigits 6 rfl) rfl (fun _ => ?_) (fun q => absurd q (by omega))
    exact kk
  | succ m ih =>
    intro k hk
    have hpw := s_p10 (k - 1).toNat
    have hpx : (10 : Int) ^ (k - 1).toNat ≤ 10 ^ 12 := s_p12 (by omega)
    refine x_iload (x_d C_Pa_addDigits 4 rfl) rfl ?_
    refine x_iload_n (x_d C_Pa_addDigits 5 rfl) rfl ?_
    refine x_icmp_ge (tgt := 23) (x_d C_Pa_addDigits 6 rfl) rfl (fun q => absurd q (by omega)) (fun _ => ?_)
    refine x_lload_n (x_d C_Pa_addDigits 7 rfl) rfl ?_
    refine x_ldc2 (n := 10) (x_d C_Pa_addDigits 8 rfl) lc_Pa_60 ⟨by omega, by omega⟩ ?_
    refine x_lmul (x_d C_Pa_addDigits 9 rfl) ⟨by omega, by omega⟩ ?_
    refine x_lstore_n (l1 := [(3, xJ ((10 ^ (k - 1).toNat) * 10)), (0, xC 40), (1, xI (v)), (2, xI (n)), (5, xI (k))]) (x_d C_Pa_addDigits 10 rfl) (by decide) rfl ?_
    refine x_iinc (l1 := [(5, xI (k + 1)), (3, xJ ((10 ^ (k - 1).toNat) * 10)), (0, xC 40), (1, xI (v)), (2, xI (n))]) (x_d C_Pa_addDigits 11 rfl) rfl ⟨by omega, by omega⟩ (by decide) rfl ?_
    refine x_goto (tgt := 5) (x_d C_Pa_addDigits 12 rfl) rfl ?_
    refine x_locs [2, 3, 4, 1, 0] rfl ?_
    have e : (10 : Int) ^ (k - 1).toNat * 10 = 10 ^ (k + 1 - 1).toNat := by rw [show (k + 1 - 1).toNat = (k - 1).toNat + 1 by omega, Int.pow_succ]
    rw [e]
    exact ih (k + 1) (by omega)
theorem s_dg_get : ∀ (n : Nat) (v : Int) (k : Nat) (h : k < n), (s_dg n v)[k]'(by rw [s_dg_len]; exact h) = 48 + v / 10 ^ (n - 1 - k) % 10
  | 0, _, _, h => absurd h (Nat.not_lt_zero _)
  | n + 1, v, k, h => by
    have e : (s_dg (n + 1) v)[k]? = some (48 + v / 10 ^ (n + 1 - 1 - k) % 10) := by
      show (s_dg n (v / 10) ++ [48 + v % 10])[k]? = _
      by_cases hk : k < n
      · rw [List.getElem?_append_left (by rw [s_dg_len]; exact hk), List.getElem?_eq_getElem (by rw [s_dg_len]; exact hk), s_dg_get n (v / 10) k hk]
        congr 3
        rw [show n + 1 - 1 - k = (n - 1 - k) + 1 by omega, Int.pow_succ, Int.mul_comm, ← Int.ediv_ediv_of_nonneg (by omega)]
      · obtain rfl : k = n := by omega
        rw [List.getElem?_append_right (by rw [s_dg_len]; exact Nat.le_refl _), s_dg_len, Nat.sub_self, show k + 1 - 1 - k = 0 by omega, Int.pow_zero, Int.ediv_one]
        rfl
    exact Option.some.inj ((List.getElem?_eq_getElem _).symm.trans e)
theorem w_Pa_addDigits_40_26 (Z : xZ) (d : Nat) (q : Nat → Int) (r : Nat → Option Nat) (A : Nat → Nat → Int) (dy : xH) (hd : 1 ≤ d) (v n : Int) (hl : 0 ≤ q 1283 ∧ q 1283 ≤ 6000) (hn : 1 ≤ n ∧ n ≤ 12) (hv : 0 ≤ v) : ∀ (m : Nat) (s ov : Int) (f : Nat → Int) (bs : List Int) (k w : Int), (0 ≤ k ∧ k + m = n ∧ w = 10 ^ (n - 1 - k).toNat) → pb (q 1283) s ov f bs → xW Z d Y_Pa_addDigits 26 [(0, xC 40), (1, xI v), (2, xI n), (3, xJ w), (5, xI k)] [] (hF (x_up (x_up q 1281 s) 1282 ov) r (x_up A 41 f) ++ dy) (fun v0 h2 => v0 = none ∧ ∃ s2 ov2 f2, h2 = hF (x_up (x_up q 1281 s2) 1282 ov2) r (x_up A 41 f2) ++ dy ∧ pb (q 1283) s2 ov2 f2 (bs ++ ((s_dg n.toNat v).drop k.toNat))) := by
  intro m
  induction m with
  | zero =>
    intro s ov f bs k w hk hp
    have hp0 := hp.1
    have hp1 := hp.2.1
    refine x_iload (x_d C_Pa_addDigits 15 rfl) rfl ?_
    refine x_iload_n (x_d C_Pa_addDigits 16 rfl) rfl ?_
    refine x_icmp_ge (tgt := 65) (x_d C_Pa_addDigits 17 rfl) rfl (fun _ => ?_) (fun q => absurd q (by omega))
    refine x_return (x_d C_Pa_addDigits 37 rfl) ?_
    rw [List.drop_eq_nil_of_le (by rw [s_dg_len]; omega)]
    exact ⟨rfl, s, ov, f, rfl, pb_nil hp⟩
  | succ m ih =>
    intro s ov f bs k w hk hp
    have hp0 := hp.1
    have hp1 := hp.2.1
    have hw : 1 ≤ w := by rw [hk.2.2]; exact s_p10 _
    have hq0 : 0 ≤ v / w := Int.ediv_nonneg hv (by omega)
    have hmax : max 1 (w / 10) = 10 ^ (n - 1 - (k + 1)).toNat := by
      rw [hk.2.2]
      by_cases e : n - 1 - k = 0
      · rw [e, show (n - 1 - (k + 1)).toNat = 0 by omega]; decide
      · rw [show (n - 1 - k).toNat = (n - 1 - (k + 1)).toNat + 1 by omega, Int.pow_succ, Int.mul_ediv_cancel _ (by omega)]
        have := s_p10 (n - 1 - (k + 1)).toNat
        omega
    have hdrop : (s_dg n.toNat v).drop k.toNat = [x_by (48 + v / w % 10)] ++ (s_dg n.toNat v).drop (k.toNat + 1) := by
      rw [s_by_dig, List.drop_eq_getElem_cons (by rw [s_dg_len]; omega), s_dg_get n.toNat v k.toNat (by omega), hk.2.2, show n.toNat - 1 - k.toNat = (n - 1 - k).toNat by omega]
      rfl
    refine x_iload (x_d C_Pa_addDigits 15 rfl) rfl ?_
    refine x_iload_n (x_d C_Pa_addDigits 16 rfl) rfl ?_
    refine x_icmp_ge (tgt := 65) (x_d C_Pa_addDigits 17 rfl) rfl (fun q => absurd q (by omega)) (fun _ => ?_)
    refine x_aload_n (x_d C_Pa_addDigits 18 rfl) rfl ?_
    refine x_ldc2 (n := 48) (x_d C_Pa_addDigits 19 rfl) lc_Pa_62 ⟨by omega, by omega⟩ ?_
    refine x_iload_n (x_d C_Pa_addDigits 20 rfl) rfl ?_
    refine x_i2l (x_d C_Pa_addDigits 21 rfl) ?_
    refine x_lload_n (x_d C_Pa_addDigits 22 rfl) rfl ?_
    refine x_ldiv (x_d C_Pa_addDigits 23 rfl) (by omega) (by omega) ?_
    refine x_ldc2 (n := 10) (x_d C_Pa_addDigits 24 rfl) lc_Pa_60 ⟨by omega, by omega⟩ ?_
    refine x_lrem (x_d C_Pa_addDigits 25 rfl) (by omega) (by omega) ?_
    refine x_ladd (x_d C_Pa_addDigits 26 rfl) ⟨by omega, by omega⟩ ?_
    refine x_l2i (x_d C_Pa_addDigits 27 rfl) ⟨by omega, by omega⟩ ?_
    refine x_invokevirtual (st := []) (av := [xI (48 + ((v / w) % 10))]) (x_d C_Pa_addDigits 28 rfl) k_Pa_48 m_Pa_add v_Pa_add cl_Pa rfl rfl (Nat.le_of_ble_eq_true rfl) (by omega) rfl (c_Pb_add_40 Z (d - 1) q r A dy s ov f bs (48 + ((v / w) % 10)) hl hp) ?_
    rintro _ _ ⟨rfl, s2, ov2, f2, rfl, hp2⟩
    have hp02 := hp2.1
    have hp12 := hp2.2.1
    refine x_lconst1 (x_d C_Pa_addDigits 29 rfl) ?_
    refine x_lload_n (x_d C_Pa_addDigits 30 rfl) rfl ?_
    refine x_ldc2 (n := 10) (x_d C_Pa_addDigits 31 rfl) lc_Pa_60 ⟨by omega, by omega⟩ ?_
    refine x_ldiv (x_d C_Pa_addDigits 32 rfl) (by omega) (by omega) ?_
    refine x_mmaxL (st := []) (x_d C_Pa_addDigits 33 rfl) kM_Pa_64 mmaxL_w (Nat.le_of_ble_eq_true rfl) (by omega) ?_
    refine x_lstore_n (l1 := [(3, xJ (max 1 (w / 10))), (0, xC 40), (1, xI (v)), (2, xI (n)), (5, xI (k))]) (x_d C_Pa_addDigits 34 rfl) (by decide) rfl ?_
    refine x_iinc (l1 := [(5, xI (k + 1)), (3, xJ (max 1 (w / 10))), (0, xC 40), (1, xI (v)), (2, xI (n))]) (x_d C_Pa_addDigits 35 rfl) rfl ⟨by omega, by omega⟩ (by decide) rfl ?_
    refine x_goto (tgt := 26) (x_d C_Pa_addDigits 36 rfl) rfl ?_
    refine x_locs [2, 3, 4, 1, 0] rfl ?_
    refine xW_post ?_ (ih s2 ov2 f2 _ (k + 1) (max 1 (w / 10)) ⟨by omega, by omega, hmax⟩ hp2)
    rintro v h2 ⟨g1, s9, ov9, f9, g2, g3⟩
    exact ⟨g1, s9, ov9, f9, g2, by rw [hdrop]; rw [show (k + 1).toNat = k.toNat + 1 by omega, List.append_assoc] at g3; exact g3⟩
theorem c_Pb_addDigits_40 (Z : xZ) (d : Nat) (q : Nat → Int) (r : Nat → Option Nat) (A : Nat → Nat → Int) (dy : xH) (s ov : Int) (f : Nat → Int) (bs : List Int) (hd : 1 ≤ d) (v n : Int) (hl : 0 ≤ q 1283 ∧ q 1283 ≤ 6000) (hp : pb (q 1283) s ov f bs) (hn : 1 ≤ n ∧ n ≤ 12) (hv : 0 ≤ v) : xMet Z d Y_Pa_addDigits [xC 40, xI v, xI n] (hF (x_up (x_up q 1281 s) 1282 ov) r (x_up A 41 f) ++ dy) (fun v0 h2 => v0 = none ∧ ∃ s2 ov2 f2, h2 = hF (x_up (x_up q 1281 s2) 1282 ov2) r (x_up A 41 f2) ++ dy ∧ pb (q 1283) s2 ov2 f2 (bs ++ s_dg n.toNat v)) := by
  refine xMet_of (by decide) (Nat.le_of_ble_eq_true rfl) (fun v0 h2 hq => by rw [hq.1]; trivial) ?_
  have hp0 := hp.1
  have hp1 := hp.2.1
  refine x_lconst1 (x_d C_Pa_addDigits 0 rfl) ?_
  refine x_lstore_n (l1 := [(3, xJ (1)), (0, xC 40), (1, xI (v)), (2, xI (n))]) (x_d C_Pa_addDigits 1 rfl) (by decide) rfl ?_
  refine x_iconst (x_d C_Pa_addDigits 2 rfl) ⟨by omega, by omega⟩ ?_
  refine x_istore (l1 := [(5, xI (1)), (3, xJ (1)), (0, xC 40), (1, xI (v)), (2, xI (n))]) (x_d C_Pa_addDigits 3 rfl) (by decide) rfl ?_
  refine x_locs [2, 3, 4, 1, 0] rfl ?_
  refine w_Pa_addDigits_40_5 Z d v n _ _ hn ?_ (n - 1).toNat 1 (by omega)
  refine x_iconst (x_d C_Pa_addDigits 13 rfl) ⟨by omega, by omega⟩ ?_
  refine x_istore (l1 := [(5, xI (0)), (0, xC 40), (1, xI (v)), (2, xI (n)), (3, xJ (10 ^ (n - 1).toNat))]) (x_d C_Pa_addDigits 14 rfl) (by decide) rfl ?_
  refine x_locs [1, 2, 3, 4, 0] rfl ?_
  exact w_Pa_addDigits_40_26 Z d q r A dy hd v n hl hn hv n.toNat s ov f bs 0 _ ⟨by omega, by omega, by rw [Int.sub_zero]⟩ hp
