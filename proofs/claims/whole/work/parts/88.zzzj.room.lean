/-! room: numbers -/
theorem HP_c : HP 12 0 14 1 108 := ⟨⟨by decide, by decide, by decide⟩, by decide, by decide, by decide, by decide⟩
theorem HP_s : HP 0 2 20 3 262 := ⟨⟨by decide, by decide, by decide⟩, by decide, by decide, by decide, by decide⟩
theorem sq_nn (z : Int) : 0 ≤ z * z := by
  rcases Int.le_total 0 z with h | h
  · exact Int.mul_nonneg h h
  · have := Int.mul_nonneg (show 0 ≤ -z by omega) (show 0 ≤ -z by omega)
    rw [Int.neg_mul_neg] at this
    exact this
theorem am_gm (x y : Int) : 4 * (x * y) ≤ (x + y) * (x + y) := by
  have h := sq_nn (x - y)
  rw [Int.sub_mul, Int.mul_sub, Int.mul_sub, Int.mul_comm y x] at h
  rw [Int.add_mul, Int.mul_add, Int.mul_add, Int.mul_comm y x]
  omega
/-- whole opens of 4000 bytes, and a rest -/
def qQ (s : Nat) : Nat := (s / 4000) * 16000000 + (s % 4000) * (s % 4000)
theorem qQ_add (s t : Nat) (ht : t ≤ 4000) : qQ s + t * t ≤ qQ (s + t) := by
  unfold qQ
  obtain ⟨a, ha⟩ : ∃ a, a = s / 4000 := ⟨_, rfl⟩
  obtain ⟨r, hr⟩ : ∃ r, r = s % 4000 := ⟨_, rfl⟩
  rw [← ha, ← hr]
  by_cases c : r + t < 4000
  · rw [show (s + t) / 4000 = a by omega, show (s + t) % 4000 = r + t by omega, Nat.add_mul r t, Nat.mul_add, Nat.mul_add]
    omega
  · rw [show (s + t) / 4000 = a + 1 by omega, show (s + t) % 4000 = r + t - 4000 by omega]
    obtain ⟨p, hp⟩ : ∃ p, p = 4000 - r := ⟨_, rfl⟩
    obtain ⟨q, hq⟩ : ∃ q, q = 4000 - t := ⟨_, rfl⟩
    obtain ⟨z, hz⟩ : ∃ z, z = r + t - 4000 := ⟨_, rfl⟩
    rw [← hz]
    have e1 : r = z + q := by omega
    have e2 : t = z + p := by omega
    have e3 : z + p + q = 4000 := by omega
    have e4 : (z + p + q) * (z + p + q) = 16000000 := by rw [e3]
    rw [e1, e2]
    rw [Nat.add_mul, Nat.add_mul, Nat.mul_add, Nat.mul_add, Nat.mul_add, Nat.mul_add, Nat.mul_add, Nat.mul_add, Nat.mul_comm p z, Nat.mul_comm q z, Nat.mul_comm q p] at e4
    rw [Nat.add_mul z q, Nat.mul_add z z q, Nat.mul_add q z q, Nat.add_mul z p, Nat.mul_add z z p, Nat.mul_add p z p, Nat.mul_comm q z, Nat.mul_comm p z]
    omega
theorem qQ_mono {s t : Nat} (h : s ≤ t) : qQ s ≤ qQ t := by
  induction h with
  | refl => exact Nat.le_refl _
  | step _ ih => exact Nat.le_trans ih (Nat.le_trans (Nat.le_add_right _ (1 * 1)) (qQ_add _ 1 (by decide)))
theorem TI_0 {b : Nat → Int} {f n : Int} {x : ost} (h : ∀ k, k < 300 → x.1 k = 0 ∧ x.2.2.1 k = 0 ∧ x.2.2.2.1 k = 0) : TI b f n [] x := ⟨fun _ => 0, fun k k1 k2 => absurd (h k k1).2.2 k2, fun j k j1 _ j2 => absurd (h j j1).2.2 j2⟩
theorem open_c {b : Nat → Int} (hB : ∀ j, -128 ≤ b j ∧ b j ≤ 127) {N f t : Int} (hf : 0 ≤ f) (ht : 0 ≤ t) (hN : N = f + t) {x : ost} (hx : ∀ k, k < 300 → x.1 k = 0 ∧ x.2.2.1 k = 0 ∧ x.2.2.2.1 k = 0) {nx : Int} : 80 * ((96 + k_tabs 12 0 b N f 6 0 nx [] x 0 : Nat) : Int) ≤ 14 * (t * t) + 4064 * t + 426080 := by
  obtain ⟨c, h1, h2⟩ := tabs_w (f := f) (n := N) hB HP_c hf (by omega) 6 0 nx 0 [] x (TI_0 hx) (by omega)
  have hW : 0 ≤ wT b f N 14 0 := by
    have := wS_mono (b := b) (f := f) (N := N) (A := 14) (w := 0) (by omega) hf (show f ≤ N by omega)
    unfold wT
    omega
  rw [show N - f = t by omega] at h1
  generalize wT b f N 14 0 = W at h1 h2 hW
  have h3 : W ≤ 14 * (t - 20 * c) := by omega
  have h4 : ((c : Int) + 7) * W ≤ ((c : Int) + 7) * (14 * (t - 20 * c)) := Int.mul_le_mul_of_nonneg_left h3 (by omega)
  rw [Int.mul_left_comm] at h4
  have h5 := am_gm (20 * ((c : Int) + 7)) (t - 20 * c)
  rw [Int.mul_assoc, show 20 * ((c : Int) + 7) + (t - 20 * c) = t + 140 by omega] at h5
  have q1 : (t + 140) * (t + 140) = t * t + 280 * t + 19600 := by rw [Int.add_mul, Int.mul_add, Int.mul_add]; omega
  have q2 : ((c : Int) + 7) * W = c * W + 7 * W := Int.add_mul _ _ _
  have q3 : (c : Int) * (W + ((3 * 12 + 14 * 0 : Nat) : Int)) = c * W + 36 * c := by rw [Int.mul_add]; omega
  rw [q1] at h5
  rw [q2] at h4
  rw [q3] at h2
  generalize ((c : Int) + 7) * (t - 20 * c) = Z at h4 h5
  generalize (c : Int) * W = P at h2 h4
  generalize t * t = T at *
  omega
theorem open_s {b : Nat → Int} (hB : ∀ j, -128 ≤ b j ∧ b j ≤ 127) {N f t : Int} (hf : 0 ≤ f) (ht : 0 ≤ t) (hN : N = f + t) {x : ost} (hx : ∀ k, k < 300 → x.1 k = 0 ∧ x.2.2.1 k = 0 ∧ x.2.2.2.1 k = 0) {nx : Int} : 18 * ((3042 + k_tabs 0 2 b N f 6 0 nx [] x 0 + 2 * t.toNat : Nat) : Int) ≤ 5 * (t * t) + 1324 * t + 274392 := by
  obtain ⟨c, h1, h2⟩ := tabs_w (f := f) (n := N) hB HP_s hf (by omega) 6 0 nx 0 [] x (TI_0 hx) (by omega)
  have hW : 0 ≤ wT b f N 20 2 := by
    have := wS_mono (b := b) (f := f) (N := N) (A := 20) (w := 2) (by omega) hf (show f ≤ N by omega)
    unfold wT
    omega
  rw [show N - f = t by omega] at h1
  generalize wT b f N 20 2 = W at h1 h2 hW
  have h3 : W ≤ 20 * t - 360 * c := by omega
  have h4 : ((c : Int) + 7) * W ≤ ((c : Int) + 7) * (20 * t - 360 * c) := Int.mul_le_mul_of_nonneg_left h3 (by omega)
  have h5 := am_gm (360 * ((c : Int) + 7)) (20 * t - 360 * c)
  rw [Int.mul_assoc, show 360 * ((c : Int) + 7) + (20 * t - 360 * c) = 20 * (t + 126) by omega, Int.mul_assoc, Int.mul_left_comm (t + 126) 20] at h5
  have q1 : (t + 126) * (t + 126) = t * t + 252 * t + 15876 := by rw [Int.add_mul, Int.mul_add, Int.mul_add]; omega
  have q2 : ((c : Int) + 7) * W = c * W + 7 * W := Int.add_mul _ _ _
  have q3 : (c : Int) * (W + ((3 * 0 + 14 * 2 : Nat) : Int)) = c * W + 28 * c := by rw [Int.mul_add]; omega
  rw [q1] at h5
  rw [q2] at h4
  rw [q3] at h2
  generalize ((c : Int) + 7) * (20 * t - 360 * c) = Z at h4 h5
  generalize (c : Int) * W = P at h2 h4
  generalize t * t = T at *
  omega
theorem put_w {b : Nat → Int} {f n : Int} {u w A h : Nat} {g : Nat} (hB : ∀ j, -128 ≤ b j ∧ b j ≤ 127) (hP : HP u w A h g) (hf : 0 ≤ f) (hfn : f ≤ n) : (k_val u w b n 8 (s_sc s_white b n f) : Int) ≤ A * (n - f) + (8 * g : Nat) := by
  have hc : wC b f n f := fun x hx => Or.inl (by have := (ewB_iff.mp hx).1; omega)
  have h1 := white_w (n := n) hP.1.2.2 hf hc
  have h2 := s_sc_ge s_white b n f
  have h3 := s_sc_len (p := s_white) (b := b) (n := n) (t := f) hfn
  have h4 := (val_w (f := f) hB hP 8).2 _ (by omega) h3 h1.1
  have l1 := wS_lin (b := b) (f := f) (n := n) hP.1.2.2 n.toNat
  have l2 := wS_lin (b := b) (f := f) (n := n) hP.1.2.2 f.toNat
  have l3 := wS_f0 (b := b) (n := n) (f := f) f.toNat (by omega)
  have l4 := wS_mono (b := b) (f := f) (N := n) (A := 0) (w := 0) (by omega) hf hfn
  rw [l3, Int.mul_zero, Int.add_zero] at l2
  rw [show ((n.toNat : Nat) : Int) = n by omega] at l1
  rw [show ((f.toNat : Nat) : Int) = f by omega] at l2
  have l5 : 0 ≤ wS b f n 0 1 n := by
    have := s_sm_in (f := fun q => if wB b f n q = true then ((1 : Nat) : Int) else ((0 : Nat) : Int)) (m := 1) (fun k => by split <;> omega) n.toNat
    exact this.1
  have l6 : 0 ≤ ((A - w : Nat) : Int) * wS b f n 0 1 n := Int.mul_nonneg (by omega) l5
  rw [Int.mul_sub]
  omega
/-- what is used by then -/
def rB (n : Nat) (t : Int) (dy : xH) : Prop := ∃ s o : Nat, (s : Int) + t + 20 * o ≤ 20 * n ∧ 80 * (mu 12 0 dy : Int) ≤ 14 * (qQ s : Int) + 4064 * s + 426080 * o + 5760 * n ∧ 18 * (mu 0 2 dy : Int) ≤ 5 * (qQ s : Int) + 1324 * s + 274392 * o + 5760 * n
theorem rB_0 : rB 0 0 [] := ⟨0, 0, by decide, by decide, by decide⟩
theorem rB_R : BR rB := by
  refine ⟨fun n t dy t2 dy2 hn hb p0 p1 hm => ?_, fun n t dy t2 dy2 hn p2 p3 hb p0 p1 hm => ?_, fun n t dy dy2 hn p2 p3 hb hm => ?_, fun n t dy dy2 b N f hn q1 p2 p3 q2 hB hb hm => ?_, fun n t dy dy2 b N f x hn q1 p2 p3 q2 hB hx hb hm => ?_⟩
  · obtain ⟨s, o, b1, b2, b3⟩ := hb
    have m1 := hm 12 0
    have m2 := hm 0 2
    exact ⟨s, o, by omega, by omega, by omega⟩
  · obtain ⟨s, o, b1, b2, b3⟩ := hb
    have m1 := hm 12 0
    have m2 := hm 0 2
    exact ⟨s, o, by omega, by omega, by omega⟩
  · obtain ⟨s, o, b1, b2, b3⟩ := hb
    have m1 := hm 12 0
    have m2 := hm 0 2
    have hq := qQ_add s t.toNat (by omega)
    rw [Nat.mul_zero] at m1
    refine ⟨s + t.toNat, o, by omega, by omega, by omega⟩
  · obtain ⟨s, o, b1, b2, b3⟩ := hb
    have m1 := hm 12 0
    have m2 := hm 0 2
    have hq := qQ_add s t.toNat (by omega)
    have k1 := put_w (f := f) (n := N) hB HP_c q1 (by omega)
    have k2 := put_w (f := f) (n := N) hB HP_s q1 (by omega)
    rw [show N - f = t by omega] at k1 k2
    refine ⟨s + t.toNat, o + 1, by omega, by omega, by omega⟩
  · obtain ⟨s, o, b1, b2, b3⟩ := hb
    have m1 := hm 12 0
    have m2 := hm 0 2
    have hq := qQ_add s t.toNat (by omega)
    have k1 := open_c (f := f) (N := N) (nx := s_last b N f) hB q1 p2 q2 hx
    have k2 := open_s (f := f) (N := N) (nx := s_last b N f) hB q1 p2 q2 hx
    have e : t * t = ((t.toNat * t.toNat : Nat) : Int) := by
      rw [Int.natCast_mul, show ((t.toNat : Nat) : Int) = t by omega]
    rw [e] at k1 k2
    rw [Nat.mul_zero] at m1
    generalize t.toNat * t.toNat = T at k1 k2 hq
    refine ⟨s + t.toNat, o + 1, by omega, by omega, by omega⟩
theorem rB_fin {n : Nat} {t : Int} {dy : xH} (hn : n ≤ 512) (ht : 0 ≤ t) (h : rB n t dy) : dy.length ≤ 599900 ∧ x_S dy ≤ 7100000 := by
  obtain ⟨s, o, b1, b2, b3⟩ := h
  have e1 : mu 12 0 dy = 12 * dy.length := by
    show 12 * dy.length + 0 * x_S dy = _
    rw [Nat.zero_mul, Nat.add_zero]
  have e2 : mu 0 2 dy = 2 * x_S dy := by
    show 0 * dy.length + 2 * x_S dy = _
    rw [Nat.zero_mul, Nat.zero_add]
  rw [e1] at b2
  rw [e2] at b3
  by_cases c1 : o ≤ 28
  · have hq := qQ_mono (show s ≤ 10240 by omega)
    rw [show qQ 10240 = 37017600 from rfl] at hq
    omega
  · by_cases c2 : o ≤ 108
    · have hq := qQ_mono (show s ≤ 9680 by omega)
      rw [show qQ 9680 = 34822400 from rfl] at hq
      omega
    · by_cases c3 : o ≤ 216
      · have hq := qQ_mono (show s ≤ 8080 by omega)
        rw [show qQ 8080 = 32006400 from rfl] at hq
        omega
      · have hq := qQ_mono (show s ≤ 5920 by omega)
        rw [show qQ 5920 = 19686400 from rfl] at hq
        omega
theorem x_sz_A (t n : Nat) (f : Nat → Int) : x_sz (xA t n f) = n := rfl
theorem x_sz_B (c : Nat) (fs : List xV) : x_sz (xB c fs) = fs.length := rfl
theorem hF_S (q : Nat → Int) (r : Nat → Option Nat) (A : Nat → Nat → Int) : x_S (hF q r A) = 128930 := by
  unfold x_S hF
  simp only [List.map_cons, List.map_nil, List.sum_cons, List.sum_nil, x_sz_A, x_sz_B, List.length_cons, List.length_nil]
  omega
theorem law_done (Z : xZ) (hL : Z.2.2.2.2.2.2.1 ≤ 3072) (hs : ∀ j, x_i32 (Z.2.2.2.2.2.2.2 j)) : xW Z 1000 Y_law 0 [(0, xS 0)] [] [] (fun r h2 => r = some (xI 1) ∧ h2.length ≤ 600000 ∧ x_S h2 ≤ 7302250) := by
  refine xW_post ?_ (law_all rB_R rB_0 Z hL hs)
  rintro v h2 ⟨rfl, n2, hn, b, o, q, r, A, dy, g, rfl, hI, hB⟩
  have t1 := hI.1.1
  have t2 := hI.1.2.1
  obtain ⟨f1, f2⟩ := rB_fin hn (by omega) hB
  refine ⟨rfl, ?_, ?_⟩
  · rw [List.length_append]
    show 52 + dy.length ≤ 600000
    omega
  · have e : x_S (hF (vq b o q) (vr b o r) (vA b o A) ++ dy) = x_S (hF (vq b o q) (vr b o r) (vA b o A)) + x_S dy := by
      unfold x_S
      rw [List.map_append, List.sum_append]
    have e2 : x_S (hF (vq b o q) (vr b o r) (vA b o A)) = 128930 := hF_S _ _ _
    rw [e]
    omega
