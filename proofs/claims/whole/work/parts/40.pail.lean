/-! pails -/
/-- a pail holds what was written, or more was written than fits -/
def pl (sz ov lm R : Nat) (q : Nat → Int) (A : Nat → Nat → Int) (bs : List Int) : Prop := 0 ≤ q sz ∧ q sz ≤ q lm ∧ (((bs.length : Int) ≤ q lm ∧ q ov = 0 ∧ q sz = bs.length ∧ ∀ k, k < bs.length → A R k = bs.getD k 0) ∨ (q lm < bs.length ∧ q ov = 1))
/-- all else stays -/
def fr (sz ov R : Nat) (q q2 : Nat → Int) (A A2 : Nat → Nat → Int) : Prop := (∀ v, v ≠ sz → v ≠ ov → q2 v = q v) ∧ ∀ c, c ≠ R → A2 c = A c
theorem fr_rf (sz ov R : Nat) (q : Nat → Int) (A : Nat → Nat → Int) : fr sz ov R q q A A := ⟨fun _ _ _ => rfl, fun _ _ => rfl⟩
theorem fr_tr {sz ov R : Nat} {q q2 q3 : Nat → Int} {A A2 A3 : Nat → Nat → Int} (h : fr sz ov R q q2 A A2) (h2 : fr sz ov R q2 q3 A2 A3) : fr sz ov R q q3 A A3 := ⟨fun v a b => (h2.1 v a b).trans (h.1 v a b), fun c a => (h2.2 c a).trans (h.2 c a)⟩
theorem pl_add {sz ov lm R : Nat} {q : Nat → Int} {A : Nat → Nat → Int} {bs : List Int} {b : Int} (h1 : ov ≠ sz) (h2 : lm ≠ sz) (h : pl sz ov lm R q A bs) (hl : q sz < q lm) : pl sz ov lm R (x_up q sz (q sz + 1)) (x_up A R (x_up (A R) (q sz).toNat b)) (bs ++ [b]) := by
  obtain ⟨p1, p2, p3⟩ := h
  have e1 : x_up q sz (q sz + 1) sz = q sz + 1 := x_up_s _ _ _
  have e2 : x_up q sz (q sz + 1) ov = q ov := x_up_n _ _ h1
  have e3 : x_up q sz (q sz + 1) lm = q lm := x_up_n _ _ h2
  have e4 : x_up A R (x_up (A R) (q sz).toNat b) R = x_up (A R) (q sz).toNat b := x_up_s _ _ _
  unfold pl
  rw [e1, e2, e3, e4, List.length_append]
  refine ⟨by omega, by omega, ?_⟩
  rcases p3 with ⟨p3, p4, p5, p6⟩ | ⟨p3, p4⟩
  · refine Or.inl ⟨by simp only [List.length_cons, List.length_nil]; omega, p4, by simp only [List.length_cons, List.length_nil]; omega, fun k hk => ?_⟩
    simp only [List.length_cons, List.length_nil] at hk
    by_cases e : k = (q sz).toNat
    · have hk2 : k = bs.length := by omega
      rw [e, x_up_s, List.getD_eq_getElem?_getD, ← e, hk2, List.getElem?_append_right (Nat.le_refl _), Nat.sub_self]
      rfl
    · rw [x_up_n _ _ e, p6 k (by omega), List.getD_eq_getElem?_getD, List.getD_eq_getElem?_getD, List.getElem?_append_left (by omega)]
  · exact Or.inr ⟨by simp only [List.length_cons, List.length_nil]; omega, p4⟩
theorem pl_over {sz ov lm R : Nat} {q : Nat → Int} {A : Nat → Nat → Int} {bs cs : List Int} (h1 : ov ≠ sz) (h2 : lm ≠ ov) (h : pl sz ov lm R q A bs) (hl : q lm - q sz < cs.length) : pl sz ov lm R (x_up q ov 1) A (bs ++ cs) := by
  obtain ⟨p1, p2, p3⟩ := h
  have e1 : x_up q ov 1 sz = q sz := x_up_n _ _ (Ne.symm h1)
  have e2 : x_up q ov 1 ov = 1 := x_up_s _ _ _
  have e3 : x_up q ov 1 lm = q lm := x_up_n _ _ h2
  unfold pl
  rw [e1, e2, e3, List.length_append]
  refine ⟨p1, p2, Or.inr ⟨?_, rfl⟩⟩
  rcases p3 with ⟨p3, p4, p5, p6⟩ | ⟨p3, p4⟩ <;> omega
theorem fr_add {sz ov R : Nat} {q : Nat → Int} {A : Nat → Nat → Int} {x : Int} {f : Nat → Int} : fr sz ov R q (x_up q sz x) A (x_up A R f) := ⟨fun v a _ => x_up_n _ _ a, fun c a => x_up_n _ _ a⟩
theorem fr_ov {sz ov R : Nat} {q : Nat → Int} {A : Nat → Nat → Int} {x : Int} : fr sz ov R q (x_up q ov x) A A := ⟨fun v _ b => x_up_n _ _ b, fun c _ => rfl⟩
theorem c_Pa_add_19 (Z : xZ) (d : Nat) (q : Nat → Int) (r : Nat → Option Nat) (A : Nat → Nat → Int) (dy : xH) (b : Int) (bs : List Int) (hl : q 611 ≤ 3000) (hp : pl 609 610 611 20 q A (bs)) : xMet Z d Y_Pa_add [xC 19, xI b] (hF q r A ++ dy) (fun v h2 => v = none ∧ ∃ q2 A2, h2 = hF q2 r A2 ++ dy ∧ fr 609 610 20 q q2 A A2 ∧ pl 609 610 611 20 q2 A2 (bs ++ [x_by b])) := by
  have hp0 := hp.1
  refine xMet_of (by decide) (Nat.le_of_ble_eq_true rfl) (fun v h2 hq => by rw [hq.1]; trivial) ?_
  refine x_aload_n (x_d C_Pa_add 0 rfl) rfl ?_
  refine x_getfield (v := xI (q 609)) (x_d C_Pa_add 1 rfl) f_Pa_15 rfl rfl ?_
  refine x_aload_n (x_d C_Pa_add 2 rfl) rfl ?_
  refine x_getfield (v := xI (q 611)) (x_d C_Pa_add 3 rfl) f_Pa_29 rfl rfl ?_
  refine x_icmp_lt (tgt := 17) (x_d C_Pa_add 4 rfl) rfl (fun c1 => ?_) (fun c1 => ?_)
  · refine x_aload_n (x_d C_Pa_add 9 rfl) rfl ?_
    refine x_getfield (v := xC 20) (x_d C_Pa_add 10 rfl) f_Pa_9 rfl rfl ?_
    refine x_aload_n (x_d C_Pa_add 11 rfl) rfl ?_
    refine x_getfield (v := xI (q 609)) (x_d C_Pa_add 12 rfl) f_Pa_15 rfl rfl ?_
    refine x_iload_n (x_d C_Pa_add 13 rfl) rfl ?_
    refine x_i2b (x_d C_Pa_add 14 rfl) ?_
    refine x_bastore (h1 := hF q r (x_up A 20 (x_up (A 20) (q 609).toNat (x_by b))) ++ dy) (x_d C_Pa_add 15 rfl) rfl (by omega) (by omega) (x_by_in _) rfl ?_
    refine x_aload_n (x_d C_Pa_add 16 rfl) rfl ?_
    refine x_dup (x_d C_Pa_add 17 rfl) rfl ?_
    refine x_getfield (v := xI (q 609)) (x_d C_Pa_add 18 rfl) f_Pa_15 rfl rfl ?_
    refine x_iconst (x_d C_Pa_add 19 rfl) ⟨by omega, by omega⟩ ?_
    refine x_iadd (x_d C_Pa_add 20 rfl) ⟨by omega, by omega⟩ ?_
    refine x_putfield (h1 := hF (x_up q 609 (q 609 + 1)) r (x_up A 20 (x_up (A 20) (q 609).toNat (x_by b))) ++ dy) (x_d C_Pa_add 21 rfl) p_Pa_15 rfl rfl rfl trivial rfl ?_
    refine x_return (x_d C_Pa_add 22 rfl) ?_
    exact ⟨rfl, _, _, rfl, fr_add, pl_add (by decide) (by decide) hp (by omega)⟩
  · refine x_aload_n (x_d C_Pa_add 5 rfl) rfl ?_
    refine x_iconst (x_d C_Pa_add 6 rfl) ⟨by omega, by omega⟩ ?_
    refine x_putfield (h1 := hF (x_up q 610 1) r A ++ dy) (x_d C_Pa_add 7 rfl) p_Pa_19 rfl rfl rfl (Or.inr rfl) rfl ?_
    refine x_return (x_d C_Pa_add 8 rfl) ?_
    exact ⟨rfl, _, _, rfl, fr_ov, pl_over (by decide) (by decide) hp (by simp only [List.length_cons, List.length_nil]; omega)⟩
theorem c_Pa_add_21 (Z : xZ) (d : Nat) (q : Nat → Int) (r : Nat → Option Nat) (A : Nat → Nat → Int) (dy : xH) (b : Int) (bs : List Int) (hl : q 675 ≤ 3000) (hp : pl 673 674 675 22 q A (bs)) : xMet Z d Y_Pa_add [xC 21, xI b] (hF q r A ++ dy) (fun v h2 => v = none ∧ ∃ q2 A2, h2 = hF q2 r A2 ++ dy ∧ fr 673 674 22 q q2 A A2 ∧ pl 673 674 675 22 q2 A2 (bs ++ [x_by b])) := by
  have hp0 := hp.1
  refine xMet_of (by decide) (Nat.le_of_ble_eq_true rfl) (fun v h2 hq => by rw [hq.1]; trivial) ?_
  refine x_aload_n (x_d C_Pa_add 0 rfl) rfl ?_
  refine x_getfield (v := xI (q 673)) (x_d C_Pa_add 1 rfl) f_Pa_15 rfl rfl ?_
  refine x_aload_n (x_d C_Pa_add 2 rfl) rfl ?_
  refine x_getfield (v := xI (q 675)) (x_d C_Pa_add 3 rfl) f_Pa_29 rfl rfl ?_
  refine x_icmp_lt (tgt := 17) (x_d C_Pa_add 4 rfl) rfl (fun c1 => ?_) (fun c1 => ?_)
  · refine x_aload_n (x_d C_Pa_add 9 rfl) rfl ?_
    refine x_getfield (v := xC 22) (x_d C_Pa_add 10 rfl) f_Pa_9 rfl rfl ?_
    refine x_aload_n (x_d C_Pa_add 11 rfl) rfl ?_
    refine x_getfield (v := xI (q 673)) (x_d C_Pa_add 12 rfl) f_Pa_15 rfl rfl ?_
    refine x_iload_n (x_d C_Pa_add 13 rfl) rfl ?_
    refine x_i2b (x_d C_Pa_add 14 rfl) ?_
    refine x_bastore (h1 := hF q r (x_up A 22 (x_up (A 22) (q 673).toNat (x_by b))) ++ dy) (x_d C_Pa_add 15 rfl) rfl (by omega) (by omega) (x_by_in _) rfl ?_
    refine x_aload_n (x_d C_Pa_add 16 rfl) rfl ?_
    refine x_dup (x_d C_Pa_add 17 rfl) rfl ?_
    refine x_getfield (v := xI (q 673)) (x_d C_Pa_add 18 rfl) f_Pa_15 rfl rfl ?_
    refine x_iconst (x_d C_Pa_add 19 rfl) ⟨by omega, by omega⟩ ?_
    refine x_iadd (x_d C_Pa_add 20 rfl) ⟨by omega, by omega⟩ ?_
    refine x_putfield (h1 := hF (x_up q 673 (q 673 + 1)) r (x_up A 22 (x_up (A 22) (q 673).toNat (x_by b))) ++ dy) (x_d C_Pa_add 21 rfl) p_Pa_15 rfl rfl rfl trivial rfl ?_
    refine x_return (x_d C_Pa_add 22 rfl) ?_
    exact ⟨rfl, _, _, rfl, fr_add, pl_add (by decide) (by decide) hp (by omega)⟩
  · refine x_aload_n (x_d C_Pa_add 5 rfl) rfl ?_
    refine x_iconst (x_d C_Pa_add 6 rfl) ⟨by omega, by omega⟩ ?_
    refine x_putfield (h1 := hF (x_up q 674 1) r A ++ dy) (x_d C_Pa_add 7 rfl) p_Pa_19 rfl rfl rfl (Or.inr rfl) rfl ?_
    refine x_return (x_d C_Pa_add 8 rfl) ?_
    exact ⟨rfl, _, _, rfl, fr_ov, pl_over (by decide) (by decide) hp (by simp only [List.length_cons, List.length_nil]; omega)⟩
theorem c_Pa_add_38 (Z : xZ) (d : Nat) (q : Nat → Int) (r : Nat → Option Nat) (A : Nat → Nat → Int) (dy : xH) (b : Int) (bs : List Int) (hl : q 1219 ≤ 6000) (hp : pl 1217 1218 1219 39 q A (bs)) : xMet Z d Y_Pa_add [xC 38, xI b] (hF q r A ++ dy) (fun v h2 => v = none ∧ ∃ q2 A2, h2 = hF q2 r A2 ++ dy ∧ fr 1217 1218 39 q q2 A A2 ∧ pl 1217 1218 1219 39 q2 A2 (bs ++ [x_by b])) := by
  have hp0 := hp.1
  refine xMet_of (by decide) (Nat.le_of_ble_eq_true rfl) (fun v h2 hq => by rw [hq.1]; trivial) ?_
  refine x_aload_n (x_d C_Pa_add 0 rfl) rfl ?_
  refine x_getfield (v := xI (q 1217)) (x_d C_Pa_add 1 rfl) f_Pa_15 rfl rfl ?_
  refine x_aload_n (x_d C_Pa_add 2 rfl) rfl ?_
  refine x_getfield (v := xI (q 1219)) (x_d C_Pa_add 3 rfl) f_Pa_29 rfl rfl ?_
  refine x_icmp_lt (tgt := 17) (x_d C_Pa_add 4 rfl) rfl (fun c1 => ?_) (fun c1 => ?_)
  · refine x_aload_n (x_d C_Pa_add 9 rfl) rfl ?_
    refine x_getfield (v := xC 39) (x_d C_Pa_add 10 rfl) f_Pa_9 rfl rfl ?_
    refine x_aload_n (x_d C_Pa_add 11 rfl) rfl ?_
    refine x_getfield (v := xI (q 1217)) (x_d C_Pa_add 12 rfl) f_Pa_15 rfl rfl ?_
    refine x_iload_n (x_d C_Pa_add 13 rfl) rfl ?_
    refine x_i2b (x_d C_Pa_add 14 rfl) ?_
    refine x_bastore (h1 := hF q r (x_up A 39 (x_up (A 39) (q 1217).toNat (x_by b))) ++ dy) (x_d C_Pa_add 15 rfl) rfl (by omega) (by omega) (x_by_in _) rfl ?_
    refine x_aload_n (x_d C_Pa_add 16 rfl) rfl ?_
    refine x_dup (x_d C_Pa_add 17 rfl) rfl ?_
    refine x_getfield (v := xI (q 1217)) (x_d C_Pa_add 18 rfl) f_Pa_15 rfl rfl ?_
    refine x_iconst (x_d C_Pa_add 19 rfl) ⟨by omega, by omega⟩ ?_
    refine x_iadd (x_d C_Pa_add 20 rfl) ⟨by omega, by omega⟩ ?_
    refine x_putfield (h1 := hF (x_up q 1217 (q 1217 + 1)) r (x_up A 39 (x_up (A 39) (q 1217).toNat (x_by b))) ++ dy) (x_d C_Pa_add 21 rfl) p_Pa_15 rfl rfl rfl trivial rfl ?_
    refine x_return (x_d C_Pa_add 22 rfl) ?_
    exact ⟨rfl, _, _, rfl, fr_add, pl_add (by decide) (by decide) hp (by omega)⟩
  · refine x_aload_n (x_d C_Pa_add 5 rfl) rfl ?_
    refine x_iconst (x_d C_Pa_add 6 rfl) ⟨by omega, by omega⟩ ?_
    refine x_putfield (h1 := hF (x_up q 1218 1) r A ++ dy) (x_d C_Pa_add 7 rfl) p_Pa_19 rfl rfl rfl (Or.inr rfl) rfl ?_
    refine x_return (x_d C_Pa_add 8 rfl) ?_
    exact ⟨rfl, _, _, rfl, fr_ov, pl_over (by decide) (by decide) hp (by simp only [List.length_cons, List.length_nil]; omega)⟩
theorem c_Pa_add_40 (Z : xZ) (d : Nat) (q : Nat → Int) (r : Nat → Option Nat) (A : Nat → Nat → Int) (dy : xH) (b : Int) (bs : List Int) (hl : q 1283 ≤ 6000) (hp : pl 1281 1282 1283 41 q A (bs)) : xMet Z d Y_Pa_add [xC 40, xI b] (hF q r A ++ dy) (fun v h2 => v = none ∧ ∃ q2 A2, h2 = hF q2 r A2 ++ dy ∧ fr 1281 1282 41 q q2 A A2 ∧ pl 1281 1282 1283 41 q2 A2 (bs ++ [x_by b])) := by
  have hp0 := hp.1
  refine xMet_of (by decide) (Nat.le_of_ble_eq_true rfl) (fun v h2 hq => by rw [hq.1]; trivial) ?_
  refine x_aload_n (x_d C_Pa_add 0 rfl) rfl ?_
  refine x_getfield (v := xI (q 1281)) (x_d C_Pa_add 1 rfl) f_Pa_15 rfl rfl ?_
  refine x_aload_n (x_d C_Pa_add 2 rfl) rfl ?_
  refine x_getfield (v := xI (q 1283)) (x_d C_Pa_add 3 rfl) f_Pa_29 rfl rfl ?_
  refine x_icmp_lt (tgt := 17) (x_d C_Pa_add 4 rfl) rfl (fun c1 => ?_) (fun c1 => ?_)
  · refine x_aload_n (x_d C_Pa_add 9 rfl) rfl ?_
    refine x_getfield (v := xC 41) (x_d C_Pa_add 10 rfl) f_Pa_9 rfl rfl ?_
    refine x_aload_n (x_d C_Pa_add 11 rfl) rfl ?_
    refine x_getfield (v := xI (q 1281)) (x_d C_Pa_add 12 rfl) f_Pa_15 rfl rfl ?_
    refine x_iload_n (x_d C_Pa_add 13 rfl) rfl ?_
    refine x_i2b (x_d C_Pa_add 14 rfl) ?_
    refine x_bastore (h1 := hF q r (x_up A 41 (x_up (A 41) (q 1281).toNat (x_by b))) ++ dy) (x_d C_Pa_add 15 rfl) rfl (by omega) (by omega) (x_by_in _) rfl ?_
    refine x_aload_n (x_d C_Pa_add 16 rfl) rfl ?_
    refine x_dup (x_d C_Pa_add 17 rfl) rfl ?_
    refine x_getfield (v := xI (q 1281)) (x_d C_Pa_add 18 rfl) f_Pa_15 rfl rfl ?_
    refine x_iconst (x_d C_Pa_add 19 rfl) ⟨by omega, by omega⟩ ?_
    refine x_iadd (x_d C_Pa_add 20 rfl) ⟨by omega, by omega⟩ ?_
    refine x_putfield (h1 := hF (x_up q 1281 (q 1281 + 1)) r (x_up A 41 (x_up (A 41) (q 1281).toNat (x_by b))) ++ dy) (x_d C_Pa_add 21 rfl) p_Pa_15 rfl rfl rfl trivial rfl ?_
    refine x_return (x_d C_Pa_add 22 rfl) ?_
    exact ⟨rfl, _, _, rfl, fr_add, pl_add (by decide) (by decide) hp (by omega)⟩
  · refine x_aload_n (x_d C_Pa_add 5 rfl) rfl ?_
    refine x_iconst (x_d C_Pa_add 6 rfl) ⟨by omega, by omega⟩ ?_
    refine x_putfield (h1 := hF (x_up q 1282 1) r A ++ dy) (x_d C_Pa_add 7 rfl) p_Pa_19 rfl rfl rfl (Or.inr rfl) rfl ?_
    refine x_return (x_d C_Pa_add 8 rfl) ?_
    exact ⟨rfl, _, _, rfl, fr_ov, pl_over (by decide) (by decide) hp (by simp only [List.length_cons, List.length_nil]; omega)⟩
