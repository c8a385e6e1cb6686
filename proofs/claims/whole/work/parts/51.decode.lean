/-! the decoder: base 85, one filter -/
def s_isN (kd one two b : Nat → Int) (n p : Int) (cs : List Int) : Bool := decide (0 ≤ p ∧ kd p.toNat = 4 ∧ two p.toNat = cs.length ∧ 0 ≤ s_txt b n (one p.toNat) cs)
/-- what a filter makes -/
def s_flt (kd one two b : Nat → Int) (n p : Int) (g : Nat → Int) (m : Nat) : Option (List Int) := if s_isN kd one two b n p [72, 101, 120] = true then s_fhex g m else if s_isN kd one two b n p [82, 117, 110, 115] = true then s_frun g m else if s_isN kd one two b n p [66, 97, 115, 101, 56, 53] = true then s_f85 g m else none
theorem s_mapnil (x : Option (List Int)) : x.map (fun y => ([] : List Int) ++ y) = x := by cases x <;> rfl
theorem w_D_passBase85_46_19_2 (Z : xZ) (d : Nat) (q : Nat → Int) (r : Nat → Option Nat) (A : Nat → Nat → Int) (dy : xH) (g : Nat → Int) (n : Nat) (hd : 3 ≤ d) (e : Int) (hl : 0 ≤ q 611 ∧ q 611 ≤ 3000) (hn : 0 ≤ q 581 ∧ q 582 = q 581 + n ∧ q 582 ≤ 10248) (hg : ∀ k, k < n → A 2 ((q 581).toNat + k) = g k) (he : e = q 582 - 2) : ∀ (m : Nat) (s ov : Int) (f : Nat → Int) (bs : List Int) (i : Int), (q 581 ≤ i ∧ i ≤ e ∧ e < i + m) → pb (q 611) s ov f bs → xW Z d Y_D_passBase85 46 [(0, xC 18), (1, xI e), (2, xI i)] [] (hF (x_up (x_up q 609 s) 610 ov) (x_up (x_up r 578 (some 19)) 580 (some 2)) (x_up A 20 f) ++ dy) (fun v0 h2 => ∃ s2 ov2 f2, h2 = hF (x_up (x_up q 609 s2) 610 ov2) (x_up (x_up r 578 (some 19)) 580 (some 2)) (x_up A 20 f2) ++ dy ∧ ((v0 = some (xI 1) ∧ ∃ b2, (s_b85 g (n - 2) m (i - q 581).toNat).map (fun x => bs ++ x) = some b2 ∧ pb (q 611) s2 ov2 f2 b2) ∨ (v0 = some (xI 0) ∧ ∀ b2, (s_b85 g (n - 2) m (i - q 581).toNat).map (fun x => bs ++ x) = some b2 → q 611 < b2.length))) := by
  intro m
  induction m with
  | zero =>
    intro s ov f bs i hi hp
    have hp0 := hp.1
    have hp1 := hp.2.1
    have hgi : ∀ u : Int, q 581 ≤ u → u < q 582 → A 2 u.toNat = g (u - q 581).toNat := fun u h1 h2 => by rw [← hg _ (by omega)]; congr 1; omega
    refine xW_ok (fun _ _ hok => ?_)
    have hbB : ∀ j, -128 ≤ A 2 j ∧ A 2 j ≤ 127 := fun j => hok _ (List.mem_of_getElem? (i := 2) rfl) j
    omega
  | succ m ih =>
    intro s ov f bs i hi hp
    have hp0 := hp.1
    have hp1 := hp.2.1
    have hgi : ∀ u : Int, q 581 ≤ u → u < q 582 → A 2 u.toNat = g (u - q 581).toNat := fun u h1 h2 => by rw [← hg _ (by omega)]; congr 1; omega
    refine xW_ok (fun _ _ hok => ?_)
    have hbB : ∀ j, -128 ≤ A 2 j ∧ A 2 j ≤ 127 := fun j => hok _ (List.mem_of_getElem? (i := 2) rfl) j
    have hk0 : i < q 582 → g (i - q 581).toNat = A 2 i.toNat := fun h => (hgi i (by omega) h).symm
    refine x_iload_n (x_d C_D_passBase85 28 rfl) rfl ?_
    refine x_iload_n (x_d C_D_passBase85 29 rfl) rfl ?_
    refine x_icmp_ge (tgt := 114) (x_d C_D_passBase85 30 rfl) rfl (fun c1 => ?_) (fun c1 => ?_)
    · refine x_iconst (x_d C_D_passBase85 68 rfl) ⟨by omega, by omega⟩ ?_
      refine x_ireturn (x_d C_D_passBase85 69 rfl) ?_
      exact ⟨s, ov, f, rfl, Or.inl ⟨rfl, bs ++ [], by rw [s_b85_s, if_pos (by omega)]; rfl, pb_nil hp⟩⟩
    · refine x_aload_n (x_d C_D_passBase85 31 rfl) rfl ?_
      refine x_getfield (v := xC 2) (x_d C_D_passBase85 32 rfl) f_D_37 rfl rfl ?_
      refine x_iload_n (x_d C_D_passBase85 33 rfl) rfl ?_
      refine x_baload (f := A 2) (x_d C_D_passBase85 34 rfl) rfl (by omega) (by omega) ?_
      refine x_bipush (x_d C_D_passBase85 35 rfl) (by omega) ?_
      refine x_icmp_ne (tgt := 66) (x_d C_D_passBase85 36 rfl) rfl (fun c2 => ?_) (fun c2 => ?_)
      · refine x_iconst (x_d C_D_passBase85 39 rfl) ⟨by omega, by omega⟩ ?_
        refine x_iload_n (x_d C_D_passBase85 40 rfl) rfl ?_
        refine x_iload_n (x_d C_D_passBase85 41 rfl) rfl ?_
        refine x_isub (x_d C_D_passBase85 42 rfl) ⟨by omega, by omega⟩ ?_
        refine x_mmin (st := []) (x_d C_D_passBase85 43 rfl) kM_D_117 mmin_w (Nat.le_of_ble_eq_true rfl) (by omega) ?_
        refine x_istore_n (l1 := [(3, xI (min 5 (e - i))), (0, xC 18), (1, xI (e)), (2, xI (i))]) (x_d C_D_passBase85 44 rfl) (by decide) rfl ?_
        refine x_aload_n (x_d C_D_passBase85 45 rfl) rfl ?_
        refine x_getfield (v := xC 2) (x_d C_D_passBase85 46 rfl) f_D_37 rfl rfl ?_
        refine x_iload_n (x_d C_D_passBase85 47 rfl) rfl ?_
        refine x_baload (f := A 2) (x_d C_D_passBase85 48 rfl) rfl (by omega) (by omega) ?_
        refine x_bipush (x_d C_D_passBase85 49 rfl) (by omega) ?_
        refine x_icmp_ne (tgt := 92) (x_d C_D_passBase85 50 rfl) rfl (fun _ => ?_) (fun q => absurd q (by omega))
        refine x_aload_n (x_d C_D_passBase85 54 rfl) rfl ?_
        refine x_iload_n (x_d C_D_passBase85 55 rfl) rfl ?_
        refine x_iload_n (x_d C_D_passBase85 56 rfl) rfl ?_
        refine x_invokevirtual (st := []) (av := [xI (i), xI (min 5 (e - i))]) (x_d C_D_passBase85 57 rfl) k_D_126 m_D_passGroup v_D_passGroup cl_D rfl rfl (Nat.le_of_ble_eq_true rfl) (by omega) rfl (c_D_passGroup_19_2 Z (d - 1) q r A dy g n (by omega) s ov f bs i (min 5 (e - i)) (min 5 (n - 2 - (i - q 581).toNat)) hl hn hg (by omega) hp) ?_
        rintro v_ _ ⟨s4, ov4, f4, rfl, hr_⟩
        obtain ⟨z4, rfl, hz4⟩ : ∃ z : Int, v_ = some (xI z) ∧ ((z = 1 ∧ ∃ b2, ((s_grp g (i - q 581).toNat (min 5 (n - 2 - (i - q 581).toNat))).map (fun x => bs ++ x)) = some b2 ∧ pb (q 611) s4 ov4 f4 b2) ∨ (z = 0 ∧ ∀ b2, ((s_grp g (i - q 581).toNat (min 5 (n - 2 - (i - q 581).toNat))).map (fun x => bs ++ x)) = some b2 → q 611 < b2.length)) := by
          rcases hr_ with ⟨h1_, h2_⟩ | ⟨h1_, h2_⟩
          · exact ⟨1, h1_, Or.inl ⟨rfl, h2_⟩⟩
          · exact ⟨0, h1_, Or.inr ⟨rfl, h2_⟩⟩
        refine x_istore (l1 := [(4, xI (z4)), (3, xI (min 5 (e - i))), (0, xC 18), (1, xI (e)), (2, xI (i))]) (x_d C_D_passBase85 58 rfl) (by decide) rfl ?_
        refine x_iload (x_d C_D_passBase85 59 rfl) rfl ?_
        refine x_if_ne (tgt := 107) (x_d C_D_passBase85 60 rfl) rfl (fun c5 => ?_) (fun c5 => ?_)
        · refine x_iload_n (x_d C_D_passBase85 63 rfl) rfl ?_
          refine x_iload_n (x_d C_D_passBase85 64 rfl) rfl ?_
          refine x_iadd (x_d C_D_passBase85 65 rfl) ⟨by omega, by omega⟩ ?_
          refine x_istore_n (l1 := [(2, xI (i + (min 5 (e - i)))), (4, xI (z4)), (3, xI (min 5 (e - i))), (0, xC 18), (1, xI (e))]) (x_d C_D_passBase85 66 rfl) (by decide) rfl ?_
          refine x_goto (tgt := 46) (x_d C_D_passBase85 67 rfl) rfl ?_
          refine x_locs [3, 4, 0] rfl ?_
          rcases hz4 with ⟨h1, b2, h2, h3⟩ | ⟨h1, h2⟩
          · obtain ⟨y, hy, e1⟩ := Option.map_eq_some_iff.mp h2
            subst e1
            refine xW_post ?_ (ih s4 ov4 f4 _ (i + min 5 (e - i)) (by omega) h3)
            rintro v0 h2 ⟨s9, ov9, f9, g2, g3⟩
            refine ⟨s9, ov9, f9, g2, ?_⟩
            rw [s_b85_s, if_neg (by omega), if_neg (by omega), hy, Option.bind_some, s_map_app]
            rw [show (i + min 5 (e - i) - q 581).toNat = (i - q 581).toNat + min 5 (n - 2 - (i - q 581).toNat) by omega] at g3
            exact g3
          · omega
        · refine x_iconst (x_d C_D_passBase85 61 rfl) ⟨by omega, by omega⟩ ?_
          refine x_ireturn (x_d C_D_passBase85 62 rfl) ?_
          rcases hz4 with ⟨h1, h2⟩ | ⟨h1, h2⟩
          · omega
          · refine ⟨_, _, _, rfl, Or.inr ⟨rfl, fun b2 e2 => ?_⟩⟩
            rw [s_b85_s, if_neg (by omega)] at e2
            first
            | (rw [if_pos (by omega)] at e2
               obtain ⟨y, hy, e3⟩ := Option.map_eq_some_iff.mp e2
               obtain ⟨y2, hy2, e4⟩ := Option.map_eq_some_iff.mp hy
               have := h2 _ rfl
               rw [← e3, ← e4, List.length_append, List.length_append]
               rw [List.length_append] at this
               omega)
            | (rw [if_neg (by omega)] at e2
               obtain ⟨y, hy, e3⟩ := Option.map_eq_some_iff.mp e2
               obtain ⟨y2, hy2, e4⟩ := Option.bind_eq_some_iff.mp hy
               obtain ⟨y3, hy3, e5⟩ := Option.map_eq_some_iff.mp e4
               have := h2 (bs ++ y2) (by rw [hy2]; rfl)
               rw [← e3, ← e5, List.length_append, List.length_append]
               rw [List.length_append] at this
               omega)
      · refine x_iconst (x_d C_D_passBase85 37 rfl) ⟨by omega, by omega⟩ ?_
        refine x_goto (tgt := 73) (x_d C_D_passBase85 38 rfl) rfl ?_
        refine x_istore_n (l1 := [(3, xI (1)), (0, xC 18), (1, xI (e)), (2, xI (i))]) (x_d C_D_passBase85 44 rfl) (by decide) rfl ?_
        refine x_aload_n (x_d C_D_passBase85 45 rfl) rfl ?_
        refine x_getfield (v := xC 2) (x_d C_D_passBase85 46 rfl) f_D_37 rfl rfl ?_
        refine x_iload_n (x_d C_D_passBase85 47 rfl) rfl ?_
        refine x_baload (f := A 2) (x_d C_D_passBase85 48 rfl) rfl (by omega) (by omega) ?_
        refine x_bipush (x_d C_D_passBase85 49 rfl) (by omega) ?_
        refine x_icmp_ne (tgt := 92) (x_d C_D_passBase85 50 rfl) rfl (fun q => absurd q (by omega)) (fun _ => ?_)
        refine x_aload_n (x_d C_D_passBase85 51 rfl) rfl ?_
        refine x_invokevirtual (st := []) (av := []) (x_d C_D_passBase85 52 rfl) k_D_123 m_D_passZeros v_D_passZeros cl_D rfl rfl (Nat.le_of_ble_eq_true rfl) (by omega) rfl (c_D_passZeros_19_2 Z (d - 1) q r A dy g n (by omega) s ov f bs hl hn hg hp) ?_
        rintro v_ _ ⟨s7, ov7, f7, rfl, hr_⟩
        obtain ⟨z7, rfl, hz7⟩ : ∃ z : Int, v_ = some (xI z) ∧ ((z = 1 ∧ ∃ b2, (some (bs ++ [0, 0, 0, 0])) = some b2 ∧ pb (q 611) s7 ov7 f7 b2) ∨ (z = 0 ∧ ∀ b2, (some (bs ++ [0, 0, 0, 0])) = some b2 → q 611 < b2.length)) := by
          rcases hr_ with ⟨h1_, h2_⟩ | ⟨h1_, h2_⟩
          · exact ⟨1, h1_, Or.inl ⟨rfl, h2_⟩⟩
          · exact ⟨0, h1_, Or.inr ⟨rfl, h2_⟩⟩
        refine x_goto (tgt := 98) (x_d C_D_passBase85 53 rfl) rfl ?_
        refine x_istore (l1 := [(4, xI (z7)), (3, xI (1)), (0, xC 18), (1, xI (e)), (2, xI (i))]) (x_d C_D_passBase85 58 rfl) (by decide) rfl ?_
        refine x_iload (x_d C_D_passBase85 59 rfl) rfl ?_
        refine x_if_ne (tgt := 107) (x_d C_D_passBase85 60 rfl) rfl (fun c8 => ?_) (fun c8 => ?_)
        · refine x_iload_n (x_d C_D_passBase85 63 rfl) rfl ?_
          refine x_iload_n (x_d C_D_passBase85 64 rfl) rfl ?_
          refine x_iadd (x_d C_D_passBase85 65 rfl) ⟨by omega, by omega⟩ ?_
          refine x_istore_n (l1 := [(2, xI (i + 1)), (4, xI (z7)), (3, xI (1)), (0, xC 18), (1, xI (e))]) (x_d C_D_passBase85 66 rfl) (by decide) rfl ?_
          refine x_goto (tgt := 46) (x_d C_D_passBase85 67 rfl) rfl ?_
          refine x_locs [3, 4, 0] rfl ?_
          rcases hz7 with ⟨h1, b2, h2, h3⟩ | ⟨h1, h2⟩
          · have h2 := Option.some.inj h2
            subst h2
            refine xW_post ?_ (ih s7 ov7 f7 _ (i + 1) (by omega) h3)
            rintro v0 h2 ⟨s9, ov9, f9, g2, g3⟩
            refine ⟨s9, ov9, f9, g2, ?_⟩
            rw [s_b85_s, if_neg (by omega), if_pos (by omega), s_map_app]
            rw [show (i + 1 - q 581).toNat = (i - q 581).toNat + 1 by omega] at g3
            exact g3
          · omega
        · refine x_iconst (x_d C_D_passBase85 61 rfl) ⟨by omega, by omega⟩ ?_
          refine x_ireturn (x_d C_D_passBase85 62 rfl) ?_
          rcases hz7 with ⟨h1, h2⟩ | ⟨h1, h2⟩
          · omega
          · refine ⟨_, _, _, rfl, Or.inr ⟨rfl, fun b2 e2 => ?_⟩⟩
            rw [s_b85_s, if_neg (by omega)] at e2
            first
            | (rw [if_pos (by omega)] at e2
               obtain ⟨y, hy, e3⟩ := Option.map_eq_some_iff.mp e2
               obtain ⟨y2, hy2, e4⟩ := Option.map_eq_some_iff.mp hy
               have := h2 _ rfl
               rw [← e3, ← e4, List.length_append, List.length_append]
               rw [List.length_append] at this
               omega)
            | (rw [if_neg (by omega)] at e2
               obtain ⟨y, hy, e3⟩ := Option.map_eq_some_iff.mp e2
               obtain ⟨y2, hy2, e4⟩ := Option.bind_eq_some_iff.mp hy
               obtain ⟨y3, hy3, e5⟩ := Option.map_eq_some_iff.mp e4
               have := h2 (bs ++ y2) (by rw [hy2]; rfl)
               rw [← e3, ← e5, List.length_append, List.length_append]
               rw [List.length_append] at this
               omega)
theorem c_D_passBase85_19_2 (Z : xZ) (d : Nat) (q : Nat → Int) (r : Nat → Option Nat) (A : Nat → Nat → Int) (dy : xH) (g : Nat → Int) (n : Nat) (hd : 3 ≤ d) (s ov : Int) (f : Nat → Int) (bs : List Int) (hl : 0 ≤ q 611 ∧ q 611 ≤ 3000) (hn : 0 ≤ q 581 ∧ q 582 = q 581 + n ∧ q 582 ≤ 10248) (hg : ∀ k, k < n → A 2 ((q 581).toNat + k) = g k) (hp : pb (q 611) s ov f bs) : xMet Z d Y_D_passBase85 [xC 18] (hF (x_up (x_up q 609 s) 610 ov) (x_up (x_up r 578 (some 19)) 580 (some 2)) (x_up A 20 f) ++ dy) (fun v0 h2 => ∃ s2 ov2 f2, h2 = hF (x_up (x_up q 609 s2) 610 ov2) (x_up (x_up r 578 (some 19)) 580 (some 2)) (x_up A 20 f2) ++ dy ∧ ((v0 = some (xI 1) ∧ ∃ b2, (s_f85 g n).map (fun x => bs ++ x) = some b2 ∧ pb (q 611) s2 ov2 f2 b2) ∨ (v0 = some (xI 0) ∧ ∀ b2, (s_f85 g n).map (fun x => bs ++ x) = some b2 → q 611 < b2.length))) := by
  refine xMet_of (by decide) (Nat.le_of_ble_eq_true rfl) (fun v0 h2 hq => by obtain ⟨_, _, _, _, ⟨e, _⟩ | ⟨e, _⟩⟩ := hq <;> rw [e]; exact Or.inr rfl; exact Or.inl rfl) ?_
  have hp0 := hp.1
  have hp1 := hp.2.1
  have hgi : ∀ u : Int, q 581 ≤ u → u < q 582 → A 2 u.toNat = g (u - q 581).toNat := fun u h1 h2 => by rw [← hg _ (by omega)]; congr 1; omega
  refine xW_ok (fun _ _ hok => ?_)
  have hbB : ∀ j, -128 ≤ A 2 j ∧ A 2 j ≤ 127 := fun j => hok _ (List.mem_of_getElem? (i := 2) rfl) j
  have hl1 : 2 ≤ n → g (n - 1) = A 2 (q 582 - 2 + 1).toNat := fun h => by rw [hgi _ (by omega) (by omega)]; congr 1; omega
  have hl2 : 2 ≤ n → g (n - 2) = A 2 (q 582 - 2).toNat := fun h => by rw [hgi _ (by omega) (by omega)]; congr 1; omega
  refine x_aload_n (x_d C_D_passBase85 0 rfl) rfl ?_
  refine x_getfield (v := xI (q 582)) (x_d C_D_passBase85 1 rfl) f_D_53 rfl rfl ?_
  refine x_iconst (x_d C_D_passBase85 2 rfl) ⟨by omega, by omega⟩ ?_
  refine x_isub (x_d C_D_passBase85 3 rfl) ⟨by omega, by omega⟩ ?_
  refine x_istore_n (l1 := [(1, xI (q 582 - 2)), (0, xC 18)]) (x_d C_D_passBase85 4 rfl) (by decide) rfl ?_
  refine x_iload_n (x_d C_D_passBase85 5 rfl) rfl ?_
  refine x_aload_n (x_d C_D_passBase85 6 rfl) rfl ?_
  refine x_getfield (v := xI (q 581)) (x_d C_D_passBase85 7 rfl) f_D_46 rfl rfl ?_
  refine x_icmp_lt (tgt := 39) (x_d C_D_passBase85 8 rfl) rfl (fun c1 => ?_) (fun c1 => ?_)
  · refine x_iconst (x_d C_D_passBase85 23 rfl) ⟨by omega, by omega⟩ ?_
    refine x_ireturn (x_d C_D_passBase85 24 rfl) ?_
    refine ⟨s, ov, f, rfl, Or.inr ⟨rfl, fun b2 e => ?_⟩⟩
    unfold s_f85 at e
    rw [if_pos (by omega)] at e
    cases e
  · refine x_aload_n (x_d C_D_passBase85 9 rfl) rfl ?_
    refine x_getfield (v := xC 2) (x_d C_D_passBase85 10 rfl) f_D_37 rfl rfl ?_
    refine x_iload_n (x_d C_D_passBase85 11 rfl) rfl ?_
    refine x_baload (f := A 2) (x_d C_D_passBase85 12 rfl) rfl (by omega) (by omega) ?_
    refine x_bipush (x_d C_D_passBase85 13 rfl) (by omega) ?_
    refine x_icmp_ne (tgt := 39) (x_d C_D_passBase85 14 rfl) rfl (fun c2 => ?_) (fun c2 => ?_)
    · refine x_iconst (x_d C_D_passBase85 23 rfl) ⟨by omega, by omega⟩ ?_
      refine x_ireturn (x_d C_D_passBase85 24 rfl) ?_
      refine ⟨s, ov, f, rfl, Or.inr ⟨rfl, fun b2 e => ?_⟩⟩
      unfold s_f85 at e
      rw [if_pos (by omega)] at e
      cases e
    · refine x_aload_n (x_d C_D_passBase85 15 rfl) rfl ?_
      refine x_getfield (v := xC 2) (x_d C_D_passBase85 16 rfl) f_D_37 rfl rfl ?_
      refine x_iload_n (x_d C_D_passBase85 17 rfl) rfl ?_
      refine x_iconst (x_d C_D_passBase85 18 rfl) ⟨by omega, by omega⟩ ?_
      refine x_iadd (x_d C_D_passBase85 19 rfl) ⟨by omega, by omega⟩ ?_
      refine x_baload (f := A 2) (x_d C_D_passBase85 20 rfl) rfl (by omega) (by omega) ?_
      refine x_bipush (x_d C_D_passBase85 21 rfl) (by omega) ?_
      refine x_icmp_eq (tgt := 41) (x_d C_D_passBase85 22 rfl) rfl (fun c3 => ?_) (fun c3 => ?_)
      · refine x_aload_n (x_d C_D_passBase85 25 rfl) rfl ?_
        refine x_getfield (v := xI (q 581)) (x_d C_D_passBase85 26 rfl) f_D_46 rfl rfl ?_
        refine x_istore_n (l1 := [(2, xI (q 581)), (1, xI (q 582 - 2)), (0, xC 18)]) (x_d C_D_passBase85 27 rfl) (by decide) rfl ?_
        refine x_locs [2, 1, 0] rfl ?_
        have := w_D_passBase85_46_19_2 Z d q r A dy g n hd _ hl hn hg rfl (n + 1) s ov f bs (q 581) (by omega) hp
        rw [Int.sub_self] at this
        unfold s_f85
        rw [if_neg (by omega)]
        exact this
      · refine x_iconst (x_d C_D_passBase85 23 rfl) ⟨by omega, by omega⟩ ?_
        refine x_ireturn (x_d C_D_passBase85 24 rfl) ?_
        refine ⟨s, ov, f, rfl, Or.inr ⟨rfl, fun b2 e => ?_⟩⟩
        unfold s_f85 at e
        rw [if_pos (by omega)] at e
        cases e
theorem c_D_passNamed_19_2 (Z : xZ) (d : Nat) (q : Nat → Int) (r : Nat → Option Nat) (A : Nat → Nat → Int) (dy : xH) (g : Nat → Int) (n : Nat) (hd : 6 ≤ d) (s ov : Int) (f : Nat → Int) (bs : List Int) (p : Int) (hl : 0 ≤ q 611 ∧ q 611 ≤ 3000) (hn : 0 ≤ q 581 ∧ q 582 = q 581 + n ∧ q 582 ≤ 10248) (hg : ∀ k, k < n → A 2 ((q 581).toNat + k) = g k) (hT : 0 ≤ q 34 ∧ q 34 ≤ q 35 ∧ q 35 ≤ 10248) (hpp : p < 12900) (hp : pb (q 611) s ov f bs) : xMet Z d Y_D_passNamed [xC 18, xI p] (hF (x_up (x_up q 609 s) 610 ov) (x_up (x_up r 578 (some 19)) 580 (some 2)) (x_up A 20 f) ++ dy) (fun v0 h2 => ∃ s2 ov2 f2, h2 = hF (x_up (x_up q 609 s2) 610 ov2) (x_up (x_up r 578 (some 19)) 580 (some 2)) (x_up A 20 f2) ++ dy ∧ ((v0 = some (xI 1) ∧ ∃ b2, (s_flt (A 5) (A 6) (A 7) (A 2) (q 35) p g n).map (fun x => bs ++ x) = some b2 ∧ pb (q 611) s2 ov2 f2 b2) ∨ (v0 = some (xI 0) ∧ ∀ b2, (s_flt (A 5) (A 6) (A 7) (A 2) (q 35) p g n).map (fun x => bs ++ x) = some b2 → q 611 < b2.length))) := by
  refine xMet_of (by decide) (Nat.le_of_ble_eq_true rfl) (fun v0 h2 hq => by obtain ⟨_, _, _, _, ⟨e, _⟩ | ⟨e, _⟩⟩ := hq <;> rw [e]; exact Or.inr rfl; exact Or.inl rfl) ?_
  have hp0 := hp.1
  have hp1 := hp.2.1
  have hgi : ∀ u : Int, q 581 ≤ u → u < q 582 → A 2 u.toNat = g (u - q 581).toNat := fun u h1 h2 => by rw [← hg _ (by omega)]; congr 1; omega
  refine xW_ok (fun _ _ hok => ?_)
  have hbB : ∀ j, -128 ≤ A 2 j ∧ A 2 j ≤ 127 := fun j => hok _ (List.mem_of_getElem? (i := 2) rfl) j
  refine x_aload_n (x_d C_D_passNamed 0 rfl) rfl ?_
  refine x_getfield (v := xC 4) (x_d C_D_passNamed 1 rfl) f_D_27 rfl rfl ?_
  refine x_iload_n (x_d C_D_passNamed 2 rfl) rfl ?_
  refine x_ldcS (i := 23) (x_d C_D_passNamed 3 rfl) rfl ?_
  refine x_invokevirtual (st := []) (av := [xI (p), xS (47)]) (x_d C_D_passNamed 4 rfl) k_D_89 m_P_isName v_P_isName cl_P rfl rfl (Nat.le_of_ble_eq_true rfl) (by omega) rfl (c_P_isName Z (d - 1) (x_up (x_up q 609 s) 610 ov) (x_up (x_up r 578 (some 19)) 580 (some 2)) (x_up A 20 f) dy (by omega) (i := 23) rfl p hT (by omega)) ?_
  rintro v_ _ ⟨hv_, rfl⟩
  obtain rfl : v_ = some (xI (x_bo (s_isN (A 5) (A 6) (A 7) (A 2) (q 35) p [72, 101, 120]))) := hv_
  refine x_if_eq (tgt := 18) (x_d C_D_passNamed 5 rfl) rfl (fun c1 => ?_) (fun c1 => ?_)
  · refine x_aload_n (x_d C_D_passNamed 9 rfl) rfl ?_
    refine x_getfield (v := xC 4) (x_d C_D_passNamed 10 rfl) f_D_27 rfl rfl ?_
    refine x_iload_n (x_d C_D_passNamed 11 rfl) rfl ?_
    refine x_ldcS (i := 24) (x_d C_D_passNamed 12 rfl) rfl ?_
    refine x_invokevirtual (st := []) (av := [xI (p), xS (49)]) (x_d C_D_passNamed 13 rfl) k_D_89 m_P_isName v_P_isName cl_P rfl rfl (Nat.le_of_ble_eq_true rfl) (by omega) rfl (c_P_isName Z (d - 1) (x_up (x_up q 609 s) 610 ov) (x_up (x_up r 578 (some 19)) 580 (some 2)) (x_up A 20 f) dy (by omega) (i := 24) rfl p hT (by omega)) ?_
    rintro v_ _ ⟨hv_, rfl⟩
    obtain rfl : v_ = some (xI (x_bo (s_isN (A 5) (A 6) (A 7) (A 2) (q 35) p [82, 117, 110, 115]))) := hv_
    refine x_if_eq (tgt := 36) (x_d C_D_passNamed 14 rfl) rfl (fun c2 => ?_) (fun c2 => ?_)
    · refine x_aload_n (x_d C_D_passNamed 18 rfl) rfl ?_
      refine x_getfield (v := xC 4) (x_d C_D_passNamed 19 rfl) f_D_27 rfl rfl ?_
      refine x_iload_n (x_d C_D_passNamed 20 rfl) rfl ?_
      refine x_ldcS (i := 25) (x_d C_D_passNamed 21 rfl) rfl ?_
      refine x_invokevirtual (st := []) (av := [xI (p), xS (51)]) (x_d C_D_passNamed 22 rfl) k_D_89 m_P_isName v_P_isName cl_P rfl rfl (Nat.le_of_ble_eq_true rfl) (by omega) rfl (c_P_isName Z (d - 1) (x_up (x_up q 609 s) 610 ov) (x_up (x_up r 578 (some 19)) 580 (some 2)) (x_up A 20 f) dy (by omega) (i := 25) rfl p hT (by omega)) ?_
      rintro v_ _ ⟨hv_, rfl⟩
      obtain rfl : v_ = some (xI (x_bo (s_isN (A 5) (A 6) (A 7) (A 2) (q 35) p [66, 97, 115, 101, 56, 53]))) := hv_
      refine x_if_eq (tgt := 60) (x_d C_D_passNamed 23 rfl) rfl (fun c3 => ?_) (fun c3 => ?_)
      · refine x_iconst (x_d C_D_passNamed 29 rfl) ⟨by omega, by omega⟩ ?_
        refine x_ireturn (x_d C_D_passNamed 30 rfl) ?_
        have e0 : s_flt (A 5) (A 6) (A 7) (A 2) (q 35) p g n = none := by
          unfold s_flt
          rw [if_neg (fun z => absurd (x_bo_1.mpr z) (show ¬ ¬ x_bo (s_isN (A 5) (A 6) (A 7) (A 2) (q 35) p [72, 101, 120]) = 0 by omega)), if_neg (fun z => absurd (x_bo_1.mpr z) (show ¬ ¬ x_bo (s_isN (A 5) (A 6) (A 7) (A 2) (q 35) p [82, 117, 110, 115]) = 0 by omega)), if_neg (fun z => absurd (x_bo_1.mpr z) (show ¬ ¬ x_bo (s_isN (A 5) (A 6) (A 7) (A 2) (q 35) p [66, 97, 115, 101, 56, 53]) = 0 by omega))]
        rw [e0]
        exact ⟨s, ov, f, rfl, Or.inr ⟨rfl, fun b2 e => by cases e⟩⟩
      · refine x_aload_n (x_d C_D_passNamed 24 rfl) rfl ?_
        refine x_invokevirtual (st := []) (av := []) (x_d C_D_passNamed 25 rfl) k_D_104 m_D_passBase85 v_D_passBase85 cl_D rfl rfl (Nat.le_of_ble_eq_true rfl) (by omega) rfl (c_D_passBase85_19_2 Z (d - 1) q r A dy g n (by omega) s ov f bs hl hn hg hp) ?_
        rintro v_ _ ⟨s4, ov4, f4, rfl, hr_⟩
        obtain ⟨z4, rfl, hz4⟩ : ∃ z : Int, v_ = some (xI z) ∧ ((z = 1 ∧ ∃ b2, ((s_f85 g n).map (fun x => bs ++ x)) = some b2 ∧ pb (q 611) s4 ov4 f4 b2) ∨ (z = 0 ∧ ∀ b2, ((s_f85 g n).map (fun x => bs ++ x)) = some b2 → q 611 < b2.length)) := by
          rcases hr_ with ⟨h1_, h2_⟩ | ⟨h1_, h2_⟩
          · exact ⟨1, h1_, Or.inl ⟨rfl, h2_⟩⟩
          · exact ⟨0, h1_, Or.inr ⟨rfl, h2_⟩⟩
        refine x_if_eq (tgt := 60) (x_d C_D_passNamed 26 rfl) rfl (fun c5 => ?_) (fun c5 => ?_)
        · refine x_iconst (x_d C_D_passNamed 29 rfl) ⟨by omega, by omega⟩ ?_
          refine x_ireturn (x_d C_D_passNamed 30 rfl) ?_
          have e0 : s_flt (A 5) (A 6) (A 7) (A 2) (q 35) p g n = s_f85 g n := by
            unfold s_flt
            rw [if_neg (fun z => absurd (x_bo_1.mpr z) (show ¬ ¬ x_bo (s_isN (A 5) (A 6) (A 7) (A 2) (q 35) p [72, 101, 120]) = 0 by omega)), if_neg (fun z => absurd (x_bo_1.mpr z) (show ¬ ¬ x_bo (s_isN (A 5) (A 6) (A 7) (A 2) (q 35) p [82, 117, 110, 115]) = 0 by omega)), if_pos (x_bo_1.mp (show ¬ x_bo (s_isN (A 5) (A 6) (A 7) (A 2) (q 35) p [66, 97, 115, 101, 56, 53]) = 0 by omega))]
          rw [e0]
          refine ⟨_, _, _, rfl, ?_⟩
          rcases hz4 with ⟨h1, h2⟩ | ⟨h1, h2⟩
          · first | exact Or.inl ⟨rfl, h2⟩ | omega
          · first | exact Or.inr ⟨rfl, h2⟩ | omega
        · refine x_iconst (x_d C_D_passNamed 27 rfl) ⟨by omega, by omega⟩ ?_
          refine x_goto (tgt := 61) (x_d C_D_passNamed 28 rfl) rfl ?_
          refine x_ireturn (x_d C_D_passNamed 30 rfl) ?_
          have e0 : s_flt (A 5) (A 6) (A 7) (A 2) (q 35) p g n = s_f85 g n := by
            unfold s_flt
            rw [if_neg (fun z => absurd (x_bo_1.mpr z) (show ¬ ¬ x_bo (s_isN (A 5) (A 6) (A 7) (A 2) (q 35) p [72, 101, 120]) = 0 by omega)), if_neg (fun z => absurd (x_bo_1.mpr z) (show ¬ ¬ x_bo (s_isN (A 5) (A 6) (A 7) (A 2) (q 35) p [82, 117, 110, 115]) = 0 by omega)), if_pos (x_bo_1.mp (show ¬ x_bo (s_isN (A 5) (A 6) (A 7) (A 2) (q 35) p [66, 97, 115, 101, 56, 53]) = 0 by omega))]
          rw [e0]
          refine ⟨_, _, _, rfl, ?_⟩
          rcases hz4 with ⟨h1, h2⟩ | ⟨h1, h2⟩
          · first | exact Or.inl ⟨rfl, h2⟩ | omega
          · first | exact Or.inr ⟨rfl, h2⟩ | omega
    · refine x_aload_n (x_d C_D_passNamed 15 rfl) rfl ?_
      refine x_invokevirtual (st := []) (av := []) (x_d C_D_passNamed 16 rfl) k_D_99 m_D_passRuns v_D_passRuns cl_D rfl rfl (Nat.le_of_ble_eq_true rfl) (by omega) rfl (c_D_passRuns_19_2 Z (d - 1) q r A dy g n (by omega) s ov f bs hl hn hg hp) ?_
      rintro v_ _ ⟨s6, ov6, f6, rfl, hr_⟩
      obtain ⟨z6, rfl, hz6⟩ : ∃ z : Int, v_ = some (xI z) ∧ ((z = 1 ∧ ∃ b2, ((s_frun g n).map (fun x => bs ++ x)) = some b2 ∧ pb (q 611) s6 ov6 f6 b2) ∨ (z = 0 ∧ ∀ b2, ((s_frun g n).map (fun x => bs ++ x)) = some b2 → q 611 < b2.length)) := by
        rcases hr_ with ⟨h1_, h2_⟩ | ⟨h1_, h2_⟩
        · exact ⟨1, h1_, Or.inl ⟨rfl, h2_⟩⟩
        · exact ⟨0, h1_, Or.inr ⟨rfl, h2_⟩⟩
      refine x_ireturn (x_d C_D_passNamed 17 rfl) ?_
      have e0 : s_flt (A 5) (A 6) (A 7) (A 2) (q 35) p g n = s_frun g n := by
        unfold s_flt
        rw [if_neg (fun z => absurd (x_bo_1.mpr z) (show ¬ ¬ x_bo (s_isN (A 5) (A 6) (A 7) (A 2) (q 35) p [72, 101, 120]) = 0 by omega)), if_pos (x_bo_1.mp (show ¬ x_bo (s_isN (A 5) (A 6) (A 7) (A 2) (q 35) p [82, 117, 110, 115]) = 0 by omega))]
      rw [e0]
      refine ⟨_, _, _, rfl, ?_⟩
      rcases hz6 with ⟨h1, h2⟩ | ⟨h1, h2⟩
      · exact Or.inl ⟨by rw [h1], h2⟩
      · exact Or.inr ⟨by rw [h1], h2⟩
  · refine x_aload_n (x_d C_D_passNamed 6 rfl) rfl ?_
    refine x_invokevirtual (st := []) (av := []) (x_d C_D_passNamed 7 rfl) k_D_93 m_D_passHex v_D_passHex cl_D rfl rfl (Nat.le_of_ble_eq_true rfl) (by omega) rfl (c_D_passHex_19_2 Z (d - 1) q r A dy g n (by omega) s ov f bs hl hn hg hp) ?_
    rintro v_ _ ⟨s7, ov7, f7, rfl, hr_⟩
    obtain ⟨z7, rfl, hz7⟩ : ∃ z : Int, v_ = some (xI z) ∧ ((z = 1 ∧ ∃ b2, ((s_fhex g n).map (fun x => bs ++ x)) = some b2 ∧ pb (q 611) s7 ov7 f7 b2) ∨ (z = 0 ∧ ∀ b2, ((s_fhex g n).map (fun x => bs ++ x)) = some b2 → q 611 < b2.length)) := by
      rcases hr_ with ⟨h1_, h2_⟩ | ⟨h1_, h2_⟩
      · exact ⟨1, h1_, Or.inl ⟨rfl, h2_⟩⟩
      · exact ⟨0, h1_, Or.inr ⟨rfl, h2_⟩⟩
    refine x_ireturn (x_d C_D_passNamed 8 rfl) ?_
    have e0 : s_flt (A 5) (A 6) (A 7) (A 2) (q 35) p g n = s_fhex g n := by
      unfold s_flt
      rw [if_pos (x_bo_1.mp (show ¬ x_bo (s_isN (A 5) (A 6) (A 7) (A 2) (q 35) p [72, 101, 120]) = 0 by omega))]
    rw [e0]
    refine ⟨_, _, _, rfl, ?_⟩
    rcases hz7 with ⟨h1, h2⟩ | ⟨h1, h2⟩
    · exact Or.inl ⟨by rw [h1], h2⟩
    · exact Or.inr ⟨by rw [h1], h2⟩
theorem w_D_passBase85_46_19_22 (Z : xZ) (d : Nat) (q : Nat → Int) (r : Nat → Option Nat) (A : Nat → Nat → Int) (dy : xH) (g : Nat → Int) (n : Nat) (hd : 3 ≤ d) (e : Int) (hl : 0 ≤ q 611 ∧ q 611 ≤ 3000) (hn : 0 ≤ q 581 ∧ q 582 = q 581 + n ∧ q 582 ≤ 3000) (hg : ∀ k, k < n → A 22 ((q 581).toNat + k) = g k) (he : e = q 582 - 2) : ∀ (m : Nat) (s ov : Int) (f : Nat → Int) (bs : List Int) (i : Int), (q 581 ≤ i ∧ i ≤ e ∧ e < i + m) → pb (q 611) s ov f bs → xW Z d Y_D_passBase85 46 [(0, xC 18), (1, xI e), (2, xI i)] [] (hF (x_up (x_up q 609 s) 610 ov) (x_up (x_up r 578 (some 19)) 580 (some 22)) (x_up A 20 f) ++ dy) (fun v0 h2 => ∃ s2 ov2 f2, h2 = hF (x_up (x_up q 609 s2) 610 ov2) (x_up (x_up r 578 (some 19)) 580 (some 22)) (x_up A 20 f2) ++ dy ∧ ((v0 = some (xI 1) ∧ ∃ b2, (s_b85 g (n - 2) m (i - q 581).toNat).map (fun x => bs ++ x) = some b2 ∧ pb (q 611) s2 ov2 f2 b2) ∨ (v0 = some (xI 0) ∧ ∀ b2, (s_b85 g (n - 2) m (i - q 581).toNat).map (fun x => bs ++ x) = some b2 → q 611 < b2.length))) := by
  intro m
  induction m with
  | zero =>
    intro s ov f bs i hi hp
    have hp0 := hp.1
    have hp1 := hp.2.1
    have hgi : ∀ u : Int, q 581 ≤ u → u < q 582 → A 22 u.toNat = g (u - q 581).toNat := fun u h1 h2 => by rw [← hg _ (by omega)]; congr 1; omega
    refine xW_ok (fun _ _ hok => ?_)
    have hbB : ∀ j, -128 ≤ A 22 j ∧ A 22 j ≤ 127 := fun j => hok _ (List.mem_of_getElem? (i := 22) rfl) j
    omega
  | succ m ih =>
    intro s ov f bs i hi hp
    have hp0 := hp.1
    have hp1 := hp.2.1
    have hgi : ∀ u : Int, q 581 ≤ u → u < q 582 → A 22 u.toNat = g (u - q 581).toNat := fun u h1 h2 => by rw [← hg _ (by omega)]; congr 1; omega
    refine xW_ok (fun _ _ hok => ?_)
    have hbB : ∀ j, -128 ≤ A 22 j ∧ A 22 j ≤ 127 := fun j => hok _ (List.mem_of_getElem? (i := 22) rfl) j
    have hk0 : i < q 582 → g (i - q 581).toNat = A 22 i.toNat := fun h => (hgi i (by omega) h).symm
    refine x_iload_n (x_d C_D_passBase85 28 rfl) rfl ?_
    refine x_iload_n (x_d C_D_passBase85 29 rfl) rfl ?_
    refine x_icmp_ge (tgt := 114) (x_d C_D_passBase85 30 rfl) rfl (fun c1 => ?_) (fun c1 => ?_)
    · refine x_iconst (x_d C_D_passBase85 68 rfl) ⟨by omega, by omega⟩ ?_
      refine x_ireturn (x_d C_D_passBase85 69 rfl) ?_
      exact ⟨s, ov, f, rfl, Or.inl ⟨rfl, bs ++ [], by rw [s_b85_s, if_pos (by omega)]; rfl, pb_nil hp⟩⟩
    · refine x_aload_n (x_d C_D_passBase85 31 rfl) rfl ?_
      refine x_getfield (v := xC 22) (x_d C_D_passBase85 32 rfl) f_D_37 rfl rfl ?_
      refine x_iload_n (x_d C_D_passBase85 33 rfl) rfl ?_
      refine x_baload (f := A 22) (x_d C_D_passBase85 34 rfl) rfl (by omega) (by omega) ?_
      refine x_bipush (x_d C_D_passBase85 35 rfl) (by omega) ?_
      refine x_icmp_ne (tgt := 66) (x_d C_D_passBase85 36 rfl) rfl (fun c2 => ?_) (fun c2 => ?_)
      · refine x_iconst (x_d C_D_passBase85 39 rfl) ⟨by omega, by omega⟩ ?_
        refine x_iload_n (x_d C_D_passBase85 40 rfl) rfl ?_
        refine x_iload_n (x_d C_D_passBase85 41 rfl) rfl ?_
        refine x_isub (x_d C_D_passBase85 42 rfl) ⟨by omega, by omega⟩ ?_
        refine x_mmin (st := []) (x_d C_D_passBase85 43 rfl) kM_D_117 mmin_w (Nat.le_of_ble_eq_true rfl) (by omega) ?_
        refine x_istore_n (l1 := [(3, xI (min 5 (e - i))), (0, xC 18), (1, xI (e)), (2, xI (i))]) (x_d C_D_passBase85 44 rfl) (by decide) rfl ?_
        refine x_aload_n (x_d C_D_passBase85 45 rfl) rfl ?_
        refine x_getfield (v := xC 22) (x_d C_D_passBase85 46 rfl) f_D_37 rfl rfl ?_
        refine x_iload_n (x_d C_D_passBase85 47 rfl) rfl ?_
        refine x_baload (f := A 22) (x_d C_D_passBase85 48 rfl) rfl (by omega) (by omega) ?_
        refine x_bipush (x_d C_D_passBase85 49 rfl) (by omega) ?_
        refine x_icmp_ne (tgt := 92) (x_d C_D_passBase85 50 rfl) rfl (fun _ => ?_) (fun q => absurd q (by omega))
        refine x_aload_n (x_d C_D_passBase85 54 rfl) rfl ?_
        refine x_iload_n (x_d C_D_passBase85 55 rfl) rfl ?_
        refine x_iload_n (x_d C_D_passBase85 56 rfl) rfl ?_
        refine x_invokevirtual (st := []) (av := [xI (i), xI (min 5 (e - i))]) (x_d C_D_passBase85 57 rfl) k_D_126 m_D_passGroup v_D_passGroup cl_D rfl rfl (Nat.le_of_ble_eq_true rfl) (by omega) rfl (c_D_passGroup_19_22 Z (d - 1) q r A dy g n (by omega) s ov f bs i (min 5 (e - i)) (min 5 (n - 2 - (i - q 581).toNat)) hl hn hg (by omega) hp) ?_
        rintro v_ _ ⟨s4, ov4, f4, rfl, hr_⟩
        obtain ⟨z4, rfl, hz4⟩ : ∃ z : Int, v_ = some (xI z) ∧ ((z = 1 ∧ ∃ b2, ((s_grp g (i - q 581).toNat (min 5 (n - 2 - (i - q 581).toNat))).map (fun x => bs ++ x)) = some b2 ∧ pb (q 611) s4 ov4 f4 b2) ∨ (z = 0 ∧ ∀ b2, ((s_grp g (i - q 581).toNat (min 5 (n - 2 - (i - q 581).toNat))).map (fun x => bs ++ x)) = some b2 → q 611 < b2.length)) := by
          rcases hr_ with ⟨h1_, h2_⟩ | ⟨h1_, h2_⟩
          · exact ⟨1, h1_, Or.inl ⟨rfl, h2_⟩⟩
          · exact ⟨0, h1_, Or.inr ⟨rfl, h2_⟩⟩
        refine x_istore (l1 := [(4, xI (z4)), (3, xI (min 5 (e - i))), (0, xC 18), (1, xI (e)), (2, xI (i))]) (x_d C_D_passBase85 58 rfl) (by decide) rfl ?_
        refine x_iload (x_d C_D_passBase85 59 rfl) rfl ?_
        refine x_if_ne (tgt := 107) (x_d C_D_passBase85 60 rfl) rfl (fun c5 => ?_) (fun c5 => ?_)
        · refine x_iload_n (x_d C_D_passBase85 63 rfl) rfl ?_
          refine x_iload_n (x_d C_D_passBase85 64 rfl) rfl ?_
          refine x_iadd (x_d C_D_passBase85 65 rfl) ⟨by omega, by omega⟩ ?_
          refine x_istore_n (l1 := [(2, xI (i + (min 5 (e - i)))), (4, xI (z4)), (3, xI (min 5 (e - i))), (0, xC 18), (1, xI (e))]) (x_d C_D_passBase85 66 rfl) (by decide) rfl ?_
          refine x_goto (tgt := 46) (x_d C_D_passBase85 67 rfl) rfl ?_
          refine x_locs [3, 4, 0] rfl ?_
          rcases hz4 with ⟨h1, b2, h2, h3⟩ | ⟨h1, h2⟩
          · obtain ⟨y, hy, e1⟩ := Option.map_eq_some_iff.mp h2
            subst e1
            refine xW_post ?_ (ih s4 ov4 f4 _ (i + min 5 (e - i)) (by omega) h3)
            rintro v0 h2 ⟨s9, ov9, f9, g2, g3⟩
            refine ⟨s9, ov9, f9, g2, ?_⟩
            rw [s_b85_s, if_neg (by omega), if_neg (by omega), hy, Option.bind_some, s_map_app]
            rw [show (i + min 5 (e - i) - q 581).toNat = (i - q 581).toNat + min 5 (n - 2 - (i - q 581).toNat) by omega] at g3
            exact g3
          · omega
        · refine x_iconst (x_d C_D_passBase85 61 rfl) ⟨by omega, by omega⟩ ?_
          refine x_ireturn (x_d C_D_passBase85 62 rfl) ?_
          rcases hz4 with ⟨h1, h2⟩ | ⟨h1, h2⟩
          · omega
          · refine ⟨_, _, _, rfl, Or.inr ⟨rfl, fun b2 e2 => ?_⟩⟩
            rw [s_b85_s, if_neg (by omega)] at e2
            first
            | (rw [if_pos (by omega)] at e2
               obtain ⟨y, hy, e3⟩ := Option.map_eq_some_iff.mp e2
               obtain ⟨y2, hy2, e4⟩ := Option.map_eq_some_iff.mp hy
               have := h2 _ rfl
               rw [← e3, ← e4, List.length_append, List.length_append]
               rw [List.length_append] at this
               omega)
            | (rw [if_neg (by omega)] at e2
               obtain ⟨y, hy, e3⟩ := Option.map_eq_some_iff.mp e2
               obtain ⟨y2, hy2, e4⟩ := Option.bind_eq_some_iff.mp hy
               obtain ⟨y3, hy3, e5⟩ := Option.map_eq_some_iff.mp e4
               have := h2 (bs ++ y2) (by rw [hy2]; rfl)
               rw [← e3, ← e5, List.length_append, List.length_append]
               rw [List.length_append] at this
               omega)
      · refine x_iconst (x_d C_D_passBase85 37 rfl) ⟨by omega, by omega⟩ ?_
        refine x_goto (tgt := 73) (x_d C_D_passBase85 38 rfl) rfl ?_
        refine x_istore_n (l1 := [(3, xI (1)), (0, xC 18), (1, xI (e)), (2, xI (i))]) (x_d C_D_passBase85 44 rfl) (by decide) rfl ?_
        refine x_aload_n (x_d C_D_passBase85 45 rfl) rfl ?_
        refine x_getfield (v := xC 22) (x_d C_D_passBase85 46 rfl) f_D_37 rfl rfl ?_
        refine x_iload_n (x_d C_D_passBase85 47 rfl) rfl ?_
        refine x_baload (f := A 22) (x_d C_D_passBase85 48 rfl) rfl (by omega) (by omega) ?_
        refine x_bipush (x_d C_D_passBase85 49 rfl) (by omega) ?_
        refine x_icmp_ne (tgt := 92) (x_d C_D_passBase85 50 rfl) rfl (fun q => absurd q (by omega)) (fun _ => ?_)
        refine x_aload_n (x_d C_D_passBase85 51 rfl) rfl ?_
        refine x_invokevirtual (st := []) (av := []) (x_d C_D_passBase85 52 rfl) k_D_123 m_D_passZeros v_D_passZeros cl_D rfl rfl (Nat.le_of_ble_eq_true rfl) (by omega) rfl (c_D_passZeros_19_22 Z (d - 1) q r A dy g n (by omega) s ov f bs hl hn hg hp) ?_
        rintro v_ _ ⟨s7, ov7, f7, rfl, hr_⟩
        obtain ⟨z7, rfl, hz7⟩ : ∃ z : Int, v_ = some (xI z) ∧ ((z = 1 ∧ ∃ b2, (some (bs ++ [0, 0, 0, 0])) = some b2 ∧ pb (q 611) s7 ov7 f7 b2) ∨ (z = 0 ∧ ∀ b2, (some (bs ++ [0, 0, 0, 0])) = some b2 → q 611 < b2.length)) := by
          rcases hr_ with ⟨h1_, h2_⟩ | ⟨h1_, h2_⟩
          · exact ⟨1, h1_, Or.inl ⟨rfl, h2_⟩⟩
          · exact ⟨0, h1_, Or.inr ⟨rfl, h2_⟩⟩
        refine x_goto (tgt := 98) (x_d C_D_passBase85 53 rfl) rfl ?_
        refine x_istore (l1 := [(4, xI (z7)), (3, xI (1)), (0, xC 18), (1, xI (e)), (2, xI (i))]) (x_d C_D_passBase85 58 rfl) (by decide) rfl ?_
        refine x_iload (x_d C_D_passBase85 59 rfl) rfl ?_
        refine x_if_ne (tgt := 107) (x_d C_D_passBase85 60 rfl) rfl (fun c8 => ?_) (fun c8 => ?_)
        · refine x_iload_n (x_d C_D_passBase85 63 rfl) rfl ?_
          refine x_iload_n (x_d C_D_passBase85 64 rfl) rfl ?_
          refine x_iadd (x_d C_D_passBase85 65 rfl) ⟨by omega, by omega⟩ ?_
          refine x_istore_n (l1 := [(2, xI (i + 1)), (4, xI (z7)), (3, xI (1)), (0, xC 18), (1, xI (e))]) (x_d C_D_passBase85 66 rfl) (by decide) rfl ?_
          refine x_goto (tgt := 46) (x_d C_D_passBase85 67 rfl) rfl ?_
          refine x_locs [3, 4, 0] rfl ?_
          rcases hz7 with ⟨h1, b2, h2, h3⟩ | ⟨h1, h2⟩
          · have h2 := Option.some.inj h2
            subst h2
            refine xW_post ?_ (ih s7 ov7 f7 _ (i + 1) (by omega) h3)
            rintro v0 h2 ⟨s9, ov9, f9, g2, g3⟩
            refine ⟨s9, ov9, f9, g2, ?_⟩
            rw [s_b85_s, if_neg (by omega), if_pos (by omega), s_map_app]
            rw [show (i + 1 - q 581).toNat = (i - q 581).toNat + 1 by omega] at g3
            exact g3
          · omega
        · refine x_iconst (x_d C_D_passBase85 61 rfl) ⟨by omega, by omega⟩ ?_
          refine x_ireturn (x_d C_D_passBase85 62 rfl) ?_
          rcases hz7 with ⟨h1, h2⟩ | ⟨h1, h2⟩
          · omega
          · refine ⟨_, _, _, rfl, Or.inr ⟨rfl, fun b2 e2 => ?_⟩⟩
            rw [s_b85_s, if_neg (by omega)] at e2
            first
            | (rw [if_pos (by omega)] at e2
               obtain ⟨y, hy, e3⟩ := Option.map_eq_some_iff.mp e2
               obtain ⟨y2, hy2, e4⟩ := Option.map_eq_some_iff.mp hy
               have := h2 _ rfl
               rw [← e3, ← e4, List.length_append, List.length_append]
               rw [List.length_append] at this
               omega)
            | (rw [if_neg (by omega)] at e2
               obtain ⟨y, hy, e3⟩ := Option.map_eq_some_iff.mp e2
               obtain ⟨y2, hy2, e4⟩ := Option.bind_eq_some_iff.mp hy
               obtain ⟨y3, hy3, e5⟩ := Option.map_eq_some_iff.mp e4
               have := h2 (bs ++ y2) (by rw [hy2]; rfl)
               rw [← e3, ← e5, List.length_append, List.length_append]
               rw [List.length_append] at this
               omega)
theorem c_D_passBase85_19_22 (Z : xZ) (d : Nat) (q : Nat → Int) (r : Nat → Option Nat) (A : Nat → Nat → Int) (dy : xH) (g : Nat → Int) (n : Nat) (hd : 3 ≤ d) (s ov : Int) (f : Nat → Int) (bs : List Int) (hl : 0 ≤ q 611 ∧ q 611 ≤ 3000) (hn : 0 ≤ q 581 ∧ q 582 = q 581 + n ∧ q 582 ≤ 3000) (hg : ∀ k, k < n → A 22 ((q 581).toNat + k) = g k) (hp : pb (q 611) s ov f bs) : xMet Z d Y_D_passBase85 [xC 18] (hF (x_up (x_up q 609 s) 610 ov) (x_up (x_up r 578 (some 19)) 580 (some 22)) (x_up A 20 f) ++ dy) (fun v0 h2 => ∃ s2 ov2 f2, h2 = hF (x_up (x_up q 609 s2) 610 ov2) (x_up (x_up r 578 (some 19)) 580 (some 22)) (x_up A 20 f2) ++ dy ∧ ((v0 = some (xI 1) ∧ ∃ b2, (s_f85 g n).map (fun x => bs ++ x) = some b2 ∧ pb (q 611) s2 ov2 f2 b2) ∨ (v0 = some (xI 0) ∧ ∀ b2, (s_f85 g n).map (fun x => bs ++ x) = some b2 → q 611 < b2.length))) := by
  refine xMet_of (by decide) (Nat.le_of_ble_eq_true rfl) (fun v0 h2 hq => by obtain ⟨_, _, _, _, ⟨e, _⟩ | ⟨e, _⟩⟩ := hq <;> rw [e]; exact Or.inr rfl; exact Or.inl rfl) ?_
  have hp0 := hp.1
  have hp1 := hp.2.1
  have hgi : ∀ u : Int, q 581 ≤ u → u < q 582 → A 22 u.toNat = g (u - q 581).toNat := fun u h1 h2 => by rw [← hg _ (by omega)]; congr 1; omega
  refine xW_ok (fun _ _ hok => ?_)
  have hbB : ∀ j, -128 ≤ A 22 j ∧ A 22 j ≤ 127 := fun j => hok _ (List.mem_of_getElem? (i := 22) rfl) j
  have hl1 : 2 ≤ n → g (n - 1) = A 22 (q 582 - 2 + 1).toNat := fun h => by rw [hgi _ (by omega) (by omega)]; congr 1; omega
  have hl2 : 2 ≤ n → g (n - 2) = A 22 (q 582 - 2).toNat := fun h => by rw [hgi _ (by omega) (by omega)]; congr 1; omega
  refine x_aload_n (x_d C_D_passBase85 0 rfl) rfl ?_
  refine x_getfield (v := xI (q 582)) (x_d C_D_passBase85 1 rfl) f_D_53 rfl rfl ?_
  refine x_iconst (x_d C_D_passBase85 2 rfl) ⟨by omega, by omega⟩ ?_
  refine x_isub (x_d C_D_passBase85 3 rfl) ⟨by omega, by omega⟩ ?_
  refine x_istore_n (l1 := [(1, xI (q 582 - 2)), (0, xC 18)]) (x_d C_D_passBase85 4 rfl) (by decide) rfl ?_
  refine x_iload_n (x_d C_D_passBase85 5 rfl) rfl ?_
  refine x_aload_n (x_d C_D_passBase85 6 rfl) rfl ?_
  refine x_getfield (v := xI (q 581)) (x_d C_D_passBase85 7 rfl) f_D_46 rfl rfl ?_
  refine x_icmp_lt (tgt := 39) (x_d C_D_passBase85 8 rfl) rfl (fun c1 => ?_) (fun c1 => ?_)
  · refine x_iconst (x_d C_D_passBase85 23 rfl) ⟨by omega, by omega⟩ ?_
    refine x_ireturn (x_d C_D_passBase85 24 rfl) ?_
    refine ⟨s, ov, f, rfl, Or.inr ⟨rfl, fun b2 e => ?_⟩⟩
    unfold s_f85 at e
    rw [if_pos (by omega)] at e
    cases e
  · refine x_aload_n (x_d C_D_passBase85 9 rfl) rfl ?_
    refine x_getfield (v := xC 22) (x_d C_D_passBase85 10 rfl) f_D_37 rfl rfl ?_
    refine x_iload_n (x_d C_D_passBase85 11 rfl) rfl ?_
    refine x_baload (f := A 22) (x_d C_D_passBase85 12 rfl) rfl (by omega) (by omega) ?_
    refine x_bipush (x_d C_D_passBase85 13 rfl) (by omega) ?_
    refine x_icmp_ne (tgt := 39) (x_d C_D_passBase85 14 rfl) rfl (fun c2 => ?_) (fun c2 => ?_)
    · refine x_iconst (x_d C_D_passBase85 23 rfl) ⟨by omega, by omega⟩ ?_
      refine x_ireturn (x_d C_D_passBase85 24 rfl) ?_
      refine ⟨s, ov, f, rfl, Or.inr ⟨rfl, fun b2 e => ?_⟩⟩
      unfold s_f85 at e
      rw [if_pos (by omega)] at e
      cases e
    · refine x_aload_n (x_d C_D_passBase85 15 rfl) rfl ?_
      refine x_getfield (v := xC 22) (x_d C_D_passBase85 16 rfl) f_D_37 rfl rfl ?_
      refine x_iload_n (x_d C_D_passBase85 17 rfl) rfl ?_
      refine x_iconst (x_d C_D_passBase85 18 rfl) ⟨by omega, by omega⟩ ?_
      refine x_iadd (x_d C_D_passBase85 19 rfl) ⟨by omega, by omega⟩ ?_
      refine x_baload (f := A 22) (x_d C_D_passBase85 20 rfl) rfl (by omega) (by omega) ?_
      refine x_bipush (x_d C_D_passBase85 21 rfl) (by omega) ?_
      refine x_icmp_eq (tgt := 41) (x_d C_D_passBase85 22 rfl) rfl (fun c3 => ?_) (fun c3 => ?_)
      · refine x_aload_n (x_d C_D_passBase85 25 rfl) rfl ?_
        refine x_getfield (v := xI (q 581)) (x_d C_D_passBase85 26 rfl) f_D_46 rfl rfl ?_
        refine x_istore_n (l1 := [(2, xI (q 581)), (1, xI (q 582 - 2)), (0, xC 18)]) (x_d C_D_passBase85 27 rfl) (by decide) rfl ?_
        refine x_locs [2, 1, 0] rfl ?_
        have := w_D_passBase85_46_19_22 Z d q r A dy g n hd _ hl hn hg rfl (n + 1) s ov f bs (q 581) (by omega) hp
        rw [Int.sub_self] at this
        unfold s_f85
        rw [if_neg (by omega)]
        exact this
      · refine x_iconst (x_d C_D_passBase85 23 rfl) ⟨by omega, by omega⟩ ?_
        refine x_ireturn (x_d C_D_passBase85 24 rfl) ?_
        refine ⟨s, ov, f, rfl, Or.inr ⟨rfl, fun b2 e => ?_⟩⟩
        unfold s_f85 at e
        rw [if_pos (by omega)] at e
        cases e
theorem c_D_passNamed_19_22 (Z : xZ) (d : Nat) (q : Nat → Int) (r : Nat → Option Nat) (A : Nat → Nat → Int) (dy : xH) (g : Nat → Int) (n : Nat) (hd : 6 ≤ d) (s ov : Int) (f : Nat → Int) (bs : List Int) (p : Int) (hl : 0 ≤ q 611 ∧ q 611 ≤ 3000) (hn : 0 ≤ q 581 ∧ q 582 = q 581 + n ∧ q 582 ≤ 3000) (hg : ∀ k, k < n → A 22 ((q 581).toNat + k) = g k) (hT : 0 ≤ q 34 ∧ q 34 ≤ q 35 ∧ q 35 ≤ 10248) (hpp : p < 12900) (hp : pb (q 611) s ov f bs) : xMet Z d Y_D_passNamed [xC 18, xI p] (hF (x_up (x_up q 609 s) 610 ov) (x_up (x_up r 578 (some 19)) 580 (some 22)) (x_up A 20 f) ++ dy) (fun v0 h2 => ∃ s2 ov2 f2, h2 = hF (x_up (x_up q 609 s2) 610 ov2) (x_up (x_up r 578 (some 19)) 580 (some 22)) (x_up A 20 f2) ++ dy ∧ ((v0 = some (xI 1) ∧ ∃ b2, (s_flt (A 5) (A 6) (A 7) (A 2) (q 35) p g n).map (fun x => bs ++ x) = some b2 ∧ pb (q 611) s2 ov2 f2 b2) ∨ (v0 = some (xI 0) ∧ ∀ b2, (s_flt (A 5) (A 6) (A 7) (A 2) (q 35) p g n).map (fun x => bs ++ x) = some b2 → q 611 < b2.length))) := by
  refine xMet_of (by decide) (Nat.le_of_ble_eq_true rfl) (fun v0 h2 hq => by obtain ⟨_, _, _, _, ⟨e, _⟩ | ⟨e, _⟩⟩ := hq <;> rw [e]; exact Or.inr rfl; exact Or.inl rfl) ?_
  have hp0 := hp.1
  have hp1 := hp.2.1
  have hgi : ∀ u : Int, q 581 ≤ u → u < q 582 → A 22 u.toNat = g (u - q 581).toNat := fun u h1 h2 => by rw [← hg _ (by omega)]; congr 1; omega
  refine xW_ok (fun _ _ hok => ?_)
  have hbB : ∀ j, -128 ≤ A 22 j ∧ A 22 j ≤ 127 := fun j => hok _ (List.mem_of_getElem? (i := 22) rfl) j
  refine x_aload_n (x_d C_D_passNamed 0 rfl) rfl ?_
  refine x_getfield (v := xC 4) (x_d C_D_passNamed 1 rfl) f_D_27 rfl rfl ?_
  refine x_iload_n (x_d C_D_passNamed 2 rfl) rfl ?_
  refine x_ldcS (i := 23) (x_d C_D_passNamed 3 rfl) rfl ?_
  refine x_invokevirtual (st := []) (av := [xI (p), xS (47)]) (x_d C_D_passNamed 4 rfl) k_D_89 m_P_isName v_P_isName cl_P rfl rfl (Nat.le_of_ble_eq_true rfl) (by omega) rfl (c_P_isName Z (d - 1) (x_up (x_up q 609 s) 610 ov) (x_up (x_up r 578 (some 19)) 580 (some 22)) (x_up A 20 f) dy (by omega) (i := 23) rfl p hT (by omega)) ?_
  rintro v_ _ ⟨hv_, rfl⟩
  obtain rfl : v_ = some (xI (x_bo (s_isN (A 5) (A 6) (A 7) (A 2) (q 35) p [72, 101, 120]))) := hv_
  refine x_if_eq (tgt := 18) (x_d C_D_passNamed 5 rfl) rfl (fun c1 => ?_) (fun c1 => ?_)
  · refine x_aload_n (x_d C_D_passNamed 9 rfl) rfl ?_
    refine x_getfield (v := xC 4) (x_d C_D_passNamed 10 rfl) f_D_27 rfl rfl ?_
    refine x_iload_n (x_d C_D_passNamed 11 rfl) rfl ?_
    refine x_ldcS (i := 24) (x_d C_D_passNamed 12 rfl) rfl ?_
    refine x_invokevirtual (st := []) (av := [xI (p), xS (49)]) (x_d C_D_passNamed 13 rfl) k_D_89 m_P_isName v_P_isName cl_P rfl rfl (Nat.le_of_ble_eq_true rfl) (by omega) rfl (c_P_isName Z (d - 1) (x_up (x_up q 609 s) 610 ov) (x_up (x_up r 578 (some 19)) 580 (some 22)) (x_up A 20 f) dy (by omega) (i := 24) rfl p hT (by omega)) ?_
    rintro v_ _ ⟨hv_, rfl⟩
    obtain rfl : v_ = some (xI (x_bo (s_isN (A 5) (A 6) (A 7) (A 2) (q 35) p [82, 117, 110, 115]))) := hv_
    refine x_if_eq (tgt := 36) (x_d C_D_passNamed 14 rfl) rfl (fun c2 => ?_) (fun c2 => ?_)
    · refine x_aload_n (x_d C_D_passNamed 18 rfl) rfl ?_
      refine x_getfield (v := xC 4) (x_d C_D_passNamed 19 rfl) f_D_27 rfl rfl ?_
      refine x_iload_n (x_d C_D_passNamed 20 rfl) rfl ?_
      refine x_ldcS (i := 25) (x_d C_D_passNamed 21 rfl) rfl ?_
      refine x_invokevirtual (st := []) (av := [xI (p), xS (51)]) (x_d C_D_passNamed 22 rfl) k_D_89 m_P_isName v_P_isName cl_P rfl rfl (Nat.le_of_ble_eq_true rfl) (by omega) rfl (c_P_isName Z (d - 1) (x_up (x_up q 609 s) 610 ov) (x_up (x_up r 578 (some 19)) 580 (some 22)) (x_up A 20 f) dy (by omega) (i := 25) rfl p hT (by omega)) ?_
      rintro v_ _ ⟨hv_, rfl⟩
      obtain rfl : v_ = some (xI (x_bo (s_isN (A 5) (A 6) (A 7) (A 2) (q 35) p [66, 97, 115, 101, 56, 53]))) := hv_
      refine x_if_eq (tgt := 60) (x_d C_D_passNamed 23 rfl) rfl (fun c3 => ?_) (fun c3 => ?_)
      · refine x_iconst (x_d C_D_passNamed 29 rfl) ⟨by omega, by omega⟩ ?_
        refine x_ireturn (x_d C_D_passNamed 30 rfl) ?_
        have e0 : s_flt (A 5) (A 6) (A 7) (A 2) (q 35) p g n = none := by
          unfold s_flt
          rw [if_neg (fun z => absurd (x_bo_1.mpr z) (show ¬ ¬ x_bo (s_isN (A 5) (A 6) (A 7) (A 2) (q 35) p [72, 101, 120]) = 0 by omega)), if_neg (fun z => absurd (x_bo_1.mpr z) (show ¬ ¬ x_bo (s_isN (A 5) (A 6) (A 7) (A 2) (q 35) p [82, 117, 110, 115]) = 0 by omega)), if_neg (fun z => absurd (x_bo_1.mpr z) (show ¬ ¬ x_bo (s_isN (A 5) (A 6) (A 7) (A 2) (q 35) p [66, 97, 115, 101, 56, 53]) = 0 by omega))]
        rw [e0]
        exact ⟨s, ov, f, rfl, Or.inr ⟨rfl, fun b2 e => by cases e⟩⟩
      · refine x_aload_n (x_d C_D_passNamed 24 rfl) rfl ?_
        refine x_invokevirtual (st := []) (av := []) (x_d C_D_passNamed 25 rfl) k_D_104 m_D_passBase85 v_D_passBase85 cl_D rfl rfl (Nat.le_of_ble_eq_true rfl) (by omega) rfl (c_D_passBase85_19_22 Z (d - 1) q r A dy g n (by omega) s ov f bs hl hn hg hp) ?_
        rintro v_ _ ⟨s4, ov4, f4, rfl, hr_⟩
        obtain ⟨z4, rfl, hz4⟩ : ∃ z : Int, v_ = some (xI z) ∧ ((z = 1 ∧ ∃ b2, ((s_f85 g n).map (fun x => bs ++ x)) = some b2 ∧ pb (q 611) s4 ov4 f4 b2) ∨ (z = 0 ∧ ∀ b2, ((s_f85 g n).map (fun x => bs ++ x)) = some b2 → q 611 < b2.length)) := by
          rcases hr_ with ⟨h1_, h2_⟩ | ⟨h1_, h2_⟩
          · exact ⟨1, h1_, Or.inl ⟨rfl, h2_⟩⟩
          · exact ⟨0, h1_, Or.inr ⟨rfl, h2_⟩⟩
        refine x_if_eq (tgt := 60) (x_d C_D_passNamed 26 rfl) rfl (fun c5 => ?_) (fun c5 => ?_)
        · refine x_iconst (x_d C_D_passNamed 29 rfl) ⟨by omega, by omega⟩ ?_
          refine x_ireturn (x_d C_D_passNamed 30 rfl) ?_
          have e0 : s_flt (A 5) (A 6) (A 7) (A 2) (q 35) p g n = s_f85 g n := by
            unfold s_flt
            rw [if_neg (fun z => absurd (x_bo_1.mpr z) (show ¬ ¬ x_bo (s_isN (A 5) (A 6) (A 7) (A 2) (q 35) p [72, 101, 120]) = 0 by omega)), if_neg (fun z => absurd (x_bo_1.mpr z) (show ¬ ¬ x_bo (s_isN (A 5) (A 6) (A 7) (A 2) (q 35) p [82, 117, 110, 115]) = 0 by omega)), if_pos (x_bo_1.mp (show ¬ x_bo (s_isN (A 5) (A 6) (A 7) (A 2) (q 35) p [66, 97, 115, 101, 56, 53]) = 0 by omega))]
          rw [e0]
          refine ⟨_, _, _, rfl, ?_⟩
          rcases hz4 with ⟨h1, h2⟩ | ⟨h1, h2⟩
          · first | exact Or.inl ⟨rfl, h2⟩ | omega
          · first | exact Or.inr ⟨rfl, h2⟩ | omega
        · refine x_iconst (x_d C_D_passNamed 27 rfl) ⟨by omega, by omega⟩ ?_
          refine x_goto (tgt := 61) (x_d C_D_passNamed 28 rfl) rfl ?_
          refine x_ireturn (x_d C_D_passNamed 30 rfl) ?_
          have e0 : s_flt (A 5) (A 6) (A 7) (A 2) (q 35) p g n = s_f85 g n := by
            unfold s_flt
            rw [if_neg (fun z => absurd (x_bo_1.mpr z) (show ¬ ¬ x_bo (s_isN (A 5) (A 6) (A 7) (A 2) (q 35) p [72, 101, 120]) = 0 by omega)), if_neg (fun z => absurd (x_bo_1.mpr z) (show ¬ ¬ x_bo (s_isN (A 5) (A 6) (A 7) (A 2) (q 35) p [82, 117, 110, 115]) = 0 by omega)), if_pos (x_bo_1.mp (show ¬ x_bo (s_isN (A 5) (A 6) (A 7) (A 2) (q 35) p [66, 97, 115, 101, 56, 53]) = 0 by omega))]
          rw [e0]
          refine ⟨_, _, _, rfl, ?_⟩
          rcases hz4 with ⟨h1, h2⟩ | ⟨h1, h2⟩
          · first | exact Or.inl ⟨rfl, h2⟩ | omega
          · first | exact Or.inr ⟨rfl, h2⟩ | omega
    · refine x_aload_n (x_d C_D_passNamed 15 rfl) rfl ?_
      refine x_invokevirtual (st := []) (av := []) (x_d C_D_passNamed 16 rfl) k_D_99 m_D_passRuns v_D_passRuns cl_D rfl rfl (Nat.le_of_ble_eq_true rfl) (by omega) rfl (c_D_passRuns_19_22 Z (d - 1) q r A dy g n (by omega) s ov f bs hl hn hg hp) ?_
      rintro v_ _ ⟨s6, ov6, f6, rfl, hr_⟩
      obtain ⟨z6, rfl, hz6⟩ : ∃ z : Int, v_ = some (xI z) ∧ ((z = 1 ∧ ∃ b2, ((s_frun g n).map (fun x => bs ++ x)) = some b2 ∧ pb (q 611) s6 ov6 f6 b2) ∨ (z = 0 ∧ ∀ b2, ((s_frun g n).map (fun x => bs ++ x)) = some b2 → q 611 < b2.length)) := by
        rcases hr_ with ⟨h1_, h2_⟩ | ⟨h1_, h2_⟩
        · exact ⟨1, h1_, Or.inl ⟨rfl, h2_⟩⟩
        · exact ⟨0, h1_, Or.inr ⟨rfl, h2_⟩⟩
      refine x_ireturn (x_d C_D_passNamed 17 rfl) ?_
      have e0 : s_flt (A 5) (A 6) (A 7) (A 2) (q 35) p g n = s_frun g n := by
        unfold s_flt
        rw [if_neg (fun z => absurd (x_bo_1.mpr z) (show ¬ ¬ x_bo (s_isN (A 5) (A 6) (A 7) (A 2) (q 35) p [72, 101, 120]) = 0 by omega)), if_pos (x_bo_1.mp (show ¬ x_bo (s_isN (A 5) (A 6) (A 7) (A 2) (q 35) p [82, 117, 110, 115]) = 0 by omega))]
      rw [e0]
      refine ⟨_, _, _, rfl, ?_⟩
      rcases hz6 with ⟨h1, h2⟩ | ⟨h1, h2⟩
      · exact Or.inl ⟨by rw [h1], h2⟩
      · exact Or.inr ⟨by rw [h1], h2⟩
  · refine x_aload_n (x_d C_D_passNamed 6 rfl) rfl ?_
    refine x_invokevirtual (st := []) (av := []) (x_d C_D_passNamed 7 rfl) k_D_93 m_D_passHex v_D_passHex cl_D rfl rfl (Nat.le_of_ble_eq_true rfl) (by omega) rfl (c_D_passHex_19_22 Z (d - 1) q r A dy g n (by omega) s ov f bs hl hn hg hp) ?_
    rintro v_ _ ⟨s7, ov7, f7, rfl, hr_⟩
    obtain ⟨z7, rfl, hz7⟩ : ∃ z : Int, v_ = some (xI z) ∧ ((z = 1 ∧ ∃ b2, ((s_fhex g n).map (fun x => bs ++ x)) = some b2 ∧ pb (q 611) s7 ov7 f7 b2) ∨ (z = 0 ∧ ∀ b2, ((s_fhex g n).map (fun x => bs ++ x)) = some b2 → q 611 < b2.length)) := by
      rcases hr_ with ⟨h1_, h2_⟩ | ⟨h1_, h2_⟩
      · exact ⟨1, h1_, Or.inl ⟨rfl, h2_⟩⟩
      · exact ⟨0, h1_, Or.inr ⟨rfl, h2_⟩⟩
    refine x_ireturn (x_d C_D_passNamed 8 rfl) ?_
    have e0 : s_flt (A 5) (A 6) (A 7) (A 2) (q 35) p g n = s_fhex g n := by
      unfold s_flt
      rw [if_pos (x_bo_1.mp (show ¬ x_bo (s_isN (A 5) (A 6) (A 7) (A 2) (q 35) p [72, 101, 120]) = 0 by omega))]
    rw [e0]
    refine ⟨_, _, _, rfl, ?_⟩
    rcases hz7 with ⟨h1, h2⟩ | ⟨h1, h2⟩
    · exact Or.inl ⟨by rw [h1], h2⟩
    · exact Or.inr ⟨by rw [h1], h2⟩
theorem w_D_passBase85_46_21_2 (Z : xZ) (d : Nat) (q : Nat → Int) (r : Nat → Option Nat) (A : Nat → Nat → Int) (dy : xH) (g : Nat → Int) (n : Nat) (hd : 3 ≤ d) (e : Int) (hl : 0 ≤ q 675 ∧ q 675 ≤ 3000) (hn : 0 ≤ q 581 ∧ q 582 = q 581 + n ∧ q 582 ≤ 10248) (hg : ∀ k, k < n → A 2 ((q 581).toNat + k) = g k) (he : e = q 582 - 2) : ∀ (m : Nat) (s ov : Int) (f : Nat → Int) (bs : List Int) (i : Int), (q 581 ≤ i ∧ i ≤ e ∧ e < i + m) → pb (q 675) s ov f bs → xW Z d Y_D_passBase85 46 [(0, xC 18), (1, xI e), (2, xI i)] [] (hF (x_up (x_up q 673 s) 674 ov) (x_up (x_up r 578 (some 21)) 580 (some 2)) (x_up A 22 f) ++ dy) (fun v0 h2 => ∃ s2 ov2 f2, h2 = hF (x_up (x_up q 673 s2) 674 ov2) (x_up (x_up r 578 (some 21)) 580 (some 2)) (x_up A 22 f2) ++ dy ∧ ((v0 = some (xI 1) ∧ ∃ b2, (s_b85 g (n - 2) m (i - q 581).toNat).map (fun x => bs ++ x) = some b2 ∧ pb (q 675) s2 ov2 f2 b2) ∨ (v0 = some (xI 0) ∧ ∀ b2, (s_b85 g (n - 2) m (i - q 581).toNat).map (fun x => bs ++ x) = some b2 → q 675 < b2.length))) := by
  intro m
  induction m with
  | zero =>
    intro s ov f bs i hi hp
    have hp0 := hp.1
    have hp1 := hp.2.1
    have hgi : ∀ u : Int, q 581 ≤ u → u < q 582 → A 2 u.toNat = g (u - q 581).toNat := fun u h1 h2 => by rw [← hg _ (by omega)]; congr 1; omega
    refine xW_ok (fun _ _ hok => ?_)
    have hbB : ∀ j, -128 ≤ A 2 j ∧ A 2 j ≤ 127 := fun j => hok _ (List.mem_of_getElem? (i := 2) rfl) j
    omega
  | succ m ih =>
    intro s ov f bs i hi hp
    have hp0 := hp.1
    have hp1 := hp.2.1
    have hgi : ∀ u : Int, q 581 ≤ u → u < q 582 → A 2 u.toNat = g (u - q 581).toNat := fun u h1 h2 => by rw [← hg _ (by omega)]; congr 1; omega
    refine xW_ok (fun _ _ hok => ?_)
    have hbB : ∀ j, -128 ≤ A 2 j ∧ A 2 j ≤ 127 := fun j => hok _ (List.mem_of_getElem? (i := 2) rfl) j
    have hk0 : i < q 582 → g (i - q 581).toNat = A 2 i.toNat := fun h => (hgi i (by omega) h).symm
    refine x_iload_n (x_d C_D_passBase85 28 rfl) rfl ?_
    refine x_iload_n (x_d C_D_passBase85 29 rfl) rfl ?_
    refine x_icmp_ge (tgt := 114) (x_d C_D_passBase85 30 rfl) rfl (fun c1 => ?_) (fun c1 => ?_)
    · refine x_iconst (x_d C_D_passBase85 68 rfl) ⟨by omega, by omega⟩ ?_
      refine x_ireturn (x_d C_D_passBase85 69 rfl) ?_
      exact ⟨s, ov, f, rfl, Or.inl ⟨rfl, bs ++ [], by rw [s_b85_s, if_pos (by omega)]; rfl, pb_nil hp⟩⟩
    · refine x_aload_n (x_d C_D_passBase85 31 rfl) rfl ?_
      refine x_getfield (v := xC 2) (x_d C_D_passBase85 32 rfl) f_D_37 rfl rfl ?_
      refine x_iload_n (x_d C_D_passBase85 33 rfl) rfl ?_
      refine x_baload (f := A 2) (x_d C_D_passBase85 34 rfl) rfl (by omega) (by omega) ?_
      refine x_bipush (x_d C_D_passBase85 35 rfl) (by omega) ?_
      refine x_icmp_ne (tgt := 66) (x_d C_D_passBase85 36 rfl) rfl (fun c2 => ?_) (fun c2 => ?_)
      · refine x_iconst (x_d C_D_passBase85 39 rfl) ⟨by omega, by omega⟩ ?_
        refine x_iload_n (x_d C_D_passBase85 40 rfl) rfl ?_
        refine x_iload_n (x_d C_D_passBase85 41 rfl) rfl ?_
        refine x_isub (x_d C_D_passBase85 42 rfl) ⟨by omega, by omega⟩ ?_
        refine x_mmin (st := []) (x_d C_D_passBase85 43 rfl) kM_D_117 mmin_w (Nat.le_of_ble_eq_true rfl) (by omega) ?_
        refine x_istore_n (l1 := [(3, xI (min 5 (e - i))), (0, xC 18), (1, xI (e)), (2, xI (i))]) (x_d C_D_passBase85 44 rfl) (by decide) rfl ?_
        refine x_aload_n (x_d C_D_passBase85 45 rfl) rfl ?_
        refine x_getfield (v := xC 2) (x_d C_D_passBase85 46 rfl) f_D_37 rfl rfl ?_
        refine x_iload_n (x_d C_D_passBase85 47 rfl) rfl ?_
        refine x_baload (f := A 2) (x_d C_D_passBase85 48 rfl) rfl (by omega) (by omega) ?_
        refine x_bipush (x_d C_D_passBase85 49 rfl) (by omega) ?_
        refine x_icmp_ne (tgt := 92) (x_d C_D_passBase85 50 rfl) rfl (fun _ => ?_) (fun q => absurd q (by omega))
        refine x_aload_n (x_d C_D_passBase85 54 rfl) rfl ?_
        refine x_iload_n (x_d C_D_passBase85 55 rfl) rfl ?_
        refine x_iload_n (x_d C_D_passBase85 56 rfl) rfl ?_
        refine x_invokevirtual (st := []) (av := [xI (i), xI (min 5 (e - i))]) (x_d C_D_passBase85 57 rfl) k_D_126 m_D_passGroup v_D_passGroup cl_D rfl rfl (Nat.le_of_ble_eq_true rfl) (by omega) rfl (c_D_passGroup_21_2 Z (d - 1) q r A dy g n (by omega) s ov f bs i (min 5 (e - i)) (min 5 (n - 2 - (i - q 581).toNat)) hl hn hg (by omega) hp) ?_
        rintro v_ _ ⟨s4, ov4, f4, rfl, hr_⟩
        obtain ⟨z4, rfl, hz4⟩ : ∃ z : Int, v_ = some (xI z) ∧ ((z = 1 ∧ ∃ b2, ((s_grp g (i - q 581).toNat (min 5 (n - 2 - (i - q 581).toNat))).map (fun x => bs ++ x)) = some b2 ∧ pb (q 675) s4 ov4 f4 b2) ∨ (z = 0 ∧ ∀ b2, ((s_grp g (i - q 581).toNat (min 5 (n - 2 - (i - q 581).toNat))).map (fun x => bs ++ x)) = some b2 → q 675 < b2.length)) := by
          rcases hr_ with ⟨h1_, h2_⟩ | ⟨h1_, h2_⟩
          · exact ⟨1, h1_, Or.inl ⟨rfl, h2_⟩⟩
          · exact ⟨0, h1_, Or.inr ⟨rfl, h2_⟩⟩
        refine x_istore (l1 := [(4, xI (z4)), (3, xI (min 5 (e - i))), (0, xC 18), (1, xI (e)), (2, xI (i))]) (x_d C_D_passBase85 58 rfl) (by decide) rfl ?_
        refine x_iload (x_d C_D_passBase85 59 rfl) rfl ?_
        refine x_if_ne (tgt := 107) (x_d C_D_passBase85 60 rfl) rfl (fun c5 => ?_) (fun c5 => ?_)
        · refine x_iload_n (x_d C_D_passBase85 63 rfl) rfl ?_
          refine x_iload_n (x_d C_D_passBase85 64 rfl) rfl ?_
          refine x_iadd (x_d C_D_passBase85 65 rfl) ⟨by omega, by omega⟩ ?_
          refine x_istore_n (l1 := [(2, xI (i + (min 5 (e - i)))), (4, xI (z4)), (3, xI (min 5 (e - i))), (0, xC 18), (1, xI (e))]) (x_d C_D_passBase85 66 rfl) (by decide) rfl ?_
          refine x_goto (tgt := 46) (x_d C_D_passBase85 67 rfl) rfl ?_
          refine x_locs [3, 4, 0] rfl ?_
          rcases hz4 with ⟨h1, b2, h2, h3⟩ | ⟨h1, h2⟩
          · obtain ⟨y, hy, e1⟩ := Option.map_eq_some_iff.mp h2
            subst e1
            refine xW_post ?_ (ih s4 ov4 f4 _ (i + min 5 (e - i)) (by omega) h3)
            rintro v0 h2 ⟨s9, ov9, f9, g2, g3⟩
            refine ⟨s9, ov9, f9, g2, ?_⟩
            rw [s_b85_s, if_neg (by omega), if_neg (by omega), hy, Option.bind_some, s_map_app]
            rw [show (i + min 5 (e - i) - q 581).toNat = (i - q 581).toNat + min 5 (n - 2 - (i - q 581).toNat) by omega] at g3
            exact g3
          · omega
        · refine x_iconst (x_d C_D_passBase85 61 rfl) ⟨by omega, by omega⟩ ?_
          refine x_ireturn (x_d C_D_passBase85 62 rfl) ?_
          rcases hz4 with ⟨h1, h2⟩ | ⟨h1, h2⟩
          · omega
          · refine ⟨_, _, _, rfl, Or.inr ⟨rfl, fun b2 e2 => ?_⟩⟩
            rw [s_b85_s, if_neg (by omega)] at e2
            first
            | (rw [if_pos (by omega)] at e2
               obtain ⟨y, hy, e3⟩ := Option.map_eq_some_iff.mp e2
               obtain ⟨y2, hy2, e4⟩ := Option.map_eq_some_iff.mp hy
               have := h2 _ rfl
               rw [← e3, ← e4, List.length_append, List.length_append]
               rw [List.length_append] at this
               omega)
            | (rw [if_neg (by omega)] at e2
               obtain ⟨y, hy, e3⟩ := Option.map_eq_some_iff.mp e2
               obtain ⟨y2, hy2, e4⟩ := Option.bind_eq_some_iff.mp hy
               obtain ⟨y3, hy3, e5⟩ := Option.map_eq_some_iff.mp e4
               have := h2 (bs ++ y2) (by rw [hy2]; rfl)
               rw [← e3, ← e5, List.length_append, List.length_append]
               rw [List.length_append] at this
               omega)
      · refine x_iconst (x_d C_D_passBase85 37 rfl) ⟨by omega, by omega⟩ ?_
        refine x_goto (tgt := 73) (x_d C_D_passBase85 38 rfl) rfl ?_
        refine x_istore_n (l1 := [(3, xI (1)), (0, xC 18), (1, xI (e)), (2, xI (i))]) (x_d C_D_passBase85 44 rfl) (by decide) rfl ?_
        refine x_aload_n (x_d C_D_passBase85 45 rfl) rfl ?_
        refine x_getfield (v := xC 2) (x_d C_D_passBase85 46 rfl) f_D_37 rfl rfl ?_
        refine x_iload_n (x_d C_D_passBase85 47 rfl) rfl ?_
        refine x_baload (f := A 2) (x_d C_D_passBase85 48 rfl) rfl (by omega) (by omega) ?_
        refine x_bipush (x_d C_D_passBase85 49 rfl) (by omega) ?_
        refine x_icmp_ne (tgt := 92) (x_d C_D_passBase85 50 rfl) rfl (fun q => absurd q (by omega)) (fun _ => ?_)
        refine x_aload_n (x_d C_D_passBase85 51 rfl) rfl ?_
        refine x_invokevirtual (st := []) (av := []) (x_d C_D_passBase85 52 rfl) k_D_123 m_D_passZeros v_D_passZeros cl_D rfl rfl (Nat.le_of_ble_eq_true rfl) (by omega) rfl (c_D_passZeros_21_2 Z (d - 1) q r A dy g n (by omega) s ov f bs hl hn hg hp) ?_
        rintro v_ _ ⟨s7, ov7, f7, rfl, hr_⟩
        obtain ⟨z7, rfl, hz7⟩ : ∃ z : Int, v_ = some (xI z) ∧ ((z = 1 ∧ ∃ b2, (some (bs ++ [0, 0, 0, 0])) = some b2 ∧ pb (q 675) s7 ov7 f7 b2) ∨ (z = 0 ∧ ∀ b2, (some (bs ++ [0, 0, 0, 0])) = some b2 → q 675 < b2.length)) := by
          rcases hr_ with ⟨h1_, h2_⟩ | ⟨h1_, h2_⟩
          · exact ⟨1, h1_, Or.inl ⟨rfl, h2_⟩⟩
          · exact ⟨0, h1_, Or.inr ⟨rfl, h2_⟩⟩
        refine x_goto (tgt := 98) (x_d C_D_passBase85 53 rfl) rfl ?_
        refine x_istore (l1 := [(4, xI (z7)), (3, xI (1)), (0, xC 18), (1, xI (e)), (2, xI (i))]) (x_d C_D_passBase85 58 rfl) (by decide) rfl ?_
        refine x_iload (x_d C_D_passBase85 59 rfl) rfl ?_
        refine x_if_ne (tgt := 107) (x_d C_D_passBase85 60 rfl) rfl (fun c8 => ?_) (fun c8 => ?_)
        · refine x_iload_n (x_d C_D_passBase85 63 rfl) rfl ?_
          refine x_iload_n (x_d C_D_passBase85 64 rfl) rfl ?_
          refine x_iadd (x_d C_D_passBase85 65 rfl) ⟨by omega, by omega⟩ ?_
          refine x_istore_n (l1 := [(2, xI (i + 1)), (4, xI (z7)), (3, xI (1)), (0, xC 18), (1, xI (e))]) (x_d C_D_passBase85 66 rfl) (by decide) rfl ?_
          refine x_goto (tgt := 46) (x_d C_D_passBase85 67 rfl) rfl ?_
          refine x_locs [3, 4, 0] rfl ?_
          rcases hz7 with ⟨h1, b2, h2, h3⟩ | ⟨h1, h2⟩
          · have h2 := Option.some.inj h2
            subst h2
            refine xW_post ?_ (ih s7 ov7 f7 _ (i + 1) (by omega) h3)
            rintro v0 h2 ⟨s9, ov9, f9, g2, g3⟩
            refine ⟨s9, ov9, f9, g2, ?_⟩
            rw [s_b85_s, if_neg (by omega), if_pos (by omega), s_map_app]
            rw [show (i + 1 - q 581).toNat = (i - q 581).toNat + 1 by omega] at g3
            exact g3
          · omega
        · refine x_iconst (x_d C_D_passBase85 61 rfl) ⟨by omega, by omega⟩ ?_
          refine x_ireturn (x_d C_D_passBase85 62 rfl) ?_
          rcases hz7 with ⟨h1, h2⟩ | ⟨h1, h2⟩
          · omega
          · refine ⟨_, _, _, rfl, Or.inr ⟨rfl, fun b2 e2 => ?_⟩⟩
            rw [s_b85_s, if_neg (by omega)] at e2
            first
            | (rw [if_pos (by omega)] at e2
               obtain ⟨y, hy, e3⟩ := Option.map_eq_some_iff.mp e2
               obtain ⟨y2, hy2, e4⟩ := Option.map_eq_some_iff.mp hy
               have := h2 _ rfl
               rw [← e3, ← e4, List.length_append, List.length_append]
               rw [List.length_append] at this
               omega)
            | (rw [if_neg (by omega)] at e2
               obtain ⟨y, hy, e3⟩ := Option.map_eq_some_iff.mp e2
               obtain ⟨y2, hy2, e4⟩ := Option.bind_eq_some_iff.mp hy
               obtain ⟨y3, hy3, e5⟩ := Option.map_eq_some_iff.mp e4
               have := h2 (bs ++ y2) (by rw [hy2]; rfl)
               rw [← e3, ← e5, List.length_append, List.length_append]
               rw [List.length_append] at this
               omega)
theorem c_D_passBase85_21_2 (Z : xZ) (d : Nat) (q : Nat → Int) (r : Nat → Option Nat) (A : Nat → Nat → Int) (dy : xH) (g : Nat → Int) (n : Nat) (hd : 3 ≤ d) (s ov : Int) (f : Nat → Int) (bs : List Int) (hl : 0 ≤ q 675 ∧ q 675 ≤ 3000) (hn : 0 ≤ q 581 ∧ q 582 = q 581 + n ∧ q 582 ≤ 10248) (hg : ∀ k, k < n → A 2 ((q 581).toNat + k) = g k) (hp : pb (q 675) s ov f bs) : xMet Z d Y_D_passBase85 [xC 18] (hF (x_up (x_up q 673 s) 674 ov) (x_up (x_up r 578 (some 21)) 580 (some 2)) (x_up A 22 f) ++ dy) (fun v0 h2 => ∃ s2 ov2 f2, h2 = hF (x_up (x_up q 673 s2) 674 ov2) (x_up (x_up r 578 (some 21)) 580 (some 2)) (x_up A 22 f2) ++ dy ∧ ((v0 = some (xI 1) ∧ ∃ b2, (s_f85 g n).map (fun x => bs ++ x) = some b2 ∧ pb (q 675) s2 ov2 f2 b2) ∨ (v0 = some (xI 0) ∧ ∀ b2, (s_f85 g n).map (fun x => bs ++ x) = some b2 → q 675 < b2.length))) := by
  refine xMet_of (by decide) (Nat.le_of_ble_eq_true rfl) (fun v0 h2 hq => by obtain ⟨_, _, _, _, ⟨e, _⟩ | ⟨e, _⟩⟩ := hq <;> rw [e]; exact Or.inr rfl; exact Or.inl rfl) ?_
  have hp0 := hp.1
  have hp1 := hp.2.1
  have hgi : ∀ u : Int, q 581 ≤ u → u < q 582 → A 2 u.toNat = g (u - q 581).toNat := fun u h1 h2 => by rw [← hg _ (by omega)]; congr 1; omega
  refine xW_ok (fun _ _ hok => ?_)
  have hbB : ∀ j, -128 ≤ A 2 j ∧ A 2 j ≤ 127 := fun j => hok _ (List.mem_of_getElem? (i := 2) rfl) j
  have hl1 : 2 ≤ n → g (n - 1) = A 2 (q 582 - 2 + 1).toNat := fun h => by rw [hgi _ (by omega) (by omega)]; congr 1; omega
  have hl2 : 2 ≤ n → g (n - 2) = A 2 (q 582 - 2).toNat := fun h => by rw [hgi _ (by omega) (by omega)]; congr 1; omega
  refine x_aload_n (x_d C_D_passBase85 0 rfl) rfl ?_
  refine x_getfield (v := xI (q 582)) (x_d C_D_passBase85 1 rfl) f_D_53 rfl rfl ?_
  refine x_iconst (x_d C_D_passBase85 2 rfl) ⟨by omega, by omega⟩ ?_
  refine x_isub (x_d C_D_passBase85 3 rfl) ⟨by omega, by omega⟩ ?_
  refine x_istore_n (l1 := [(1, xI (q 582 - 2)), (0, xC 18)]) (x_d C_D_passBase85 4 rfl) (by decide) rfl ?_
  refine x_iload_n (x_d C_D_passBase85 5 rfl) rfl ?_
  refine x_aload_n (x_d C_D_passBase85 6 rfl) rfl ?_
  refine x_getfield (v := xI (q 581)) (x_d C_D_passBase85 7 rfl) f_D_46 rfl rfl ?_
  refine x_icmp_lt (tgt := 39) (x_d C_D_passBase85 8 rfl) rfl (fun c1 => ?_) (fun c1 => ?_)
  · refine x_iconst (x_d C_D_passBase85 23 rfl) ⟨by omega, by omega⟩ ?_
    refine x_ireturn (x_d C_D_passBase85 24 rfl) ?_
    refine ⟨s, ov, f, rfl, Or.inr ⟨rfl, fun b2 e => ?_⟩⟩
    unfold s_f85 at e
    rw [if_pos (by omega)] at e
    cases e
  · refine x_aload_n (x_d C_D_passBase85 9 rfl) rfl ?_
    refine x_getfield (v := xC 2) (x_d C_D_passBase85 10 rfl) f_D_37 rfl rfl ?_
    refine x_iload_n (x_d C_D_passBase85 11 rfl) rfl ?_
    refine x_baload (f := A 2) (x_d C_D_passBase85 12 rfl) rfl (by omega) (by omega) ?_
    refine x_bipush (x_d C_D_passBase85 13 rfl) (by omega) ?_
    refine x_icmp_ne (tgt := 39) (x_d C_D_passBase85 14 rfl) rfl (fun c2 => ?_) (fun c2 => ?_)
    · refine x_iconst (x_d C_D_passBase85 23 rfl) ⟨by omega, by omega⟩ ?_
      refine x_ireturn (x_d C_D_passBase85 24 rfl) ?_
      refine ⟨s, ov, f, rfl, Or.inr ⟨rfl, fun b2 e => ?_⟩⟩
      unfold s_f85 at e
      rw [if_pos (by omega)] at e
      cases e
    · refine x_aload_n (x_d C_D_passBase85 15 rfl) rfl ?_
      refine x_getfield (v := xC 2) (x_d C_D_passBase85 16 rfl) f_D_37 rfl rfl ?_
      refine x_iload_n (x_d C_D_passBase85 17 rfl) rfl ?_
      refine x_iconst (x_d C_D_passBase85 18 rfl) ⟨by omega, by omega⟩ ?_
      refine x_iadd (x_d C_D_passBase85 19 rfl) ⟨by omega, by omega⟩ ?_
      refine x_baload (f := A 2) (x_d C_D_passBase85 20 rfl) rfl (by omega) (by omega) ?_
      refine x_bipush (x_d C_D_passBase85 21 rfl) (by omega) ?_
      refine x_icmp_eq (tgt := 41) (x_d C_D_passBase85 22 rfl) rfl (fun c3 => ?_) (fun c3 => ?_)
      · refine x_aload_n (x_d C_D_passBase85 25 rfl) rfl ?_
        refine x_getfield (v := xI (q 581)) (x_d C_D_passBase85 26 rfl) f_D_46 rfl rfl ?_
        refine x_istore_n (l1 := [(2, xI (q 581)), (1, xI (q 582 - 2)), (0, xC 18)]) (x_d C_D_passBase85 27 rfl) (by decide) rfl ?_
        refine x_locs [2, 1, 0] rfl ?_
        have := w_D_passBase85_46_21_2 Z d q r A dy g n hd _ hl hn hg rfl (n + 1) s ov f bs (q 581) (by omega) hp
        rw [Int.sub_self] at this
        unfold s_f85
        rw [if_neg (by omega)]
        exact this
      · refine x_iconst (x_d C_D_passBase85 23 rfl) ⟨by omega, by omega⟩ ?_
        refine x_ireturn (x_d C_D_passBase85 24 rfl) ?_
        refine ⟨s, ov, f, rfl, Or.inr ⟨rfl, fun b2 e => ?_⟩⟩
        unfold s_f85 at e
        rw [if_pos (by omega)] at e
        cases e
theorem c_D_passNamed_21_2 (Z : xZ) (d : Nat) (q : Nat → Int) (r : Nat → Option Nat) (A : Nat → Nat → Int) (dy : xH) (g : Nat → Int) (n : Nat) (hd : 6 ≤ d) (s ov : Int) (f : Nat → Int) (bs : List Int) (p : Int) (hl : 0 ≤ q 675 ∧ q 675 ≤ 3000) (hn : 0 ≤ q 581 ∧ q 582 = q 581 + n ∧ q 582 ≤ 10248) (hg : ∀ k, k < n → A 2 ((q 581).toNat + k) = g k) (hT : 0 ≤ q 34 ∧ q 34 ≤ q 35 ∧ q 35 ≤ 10248) (hpp : p < 12900) (hp : pb (q 675) s ov f bs) : xMet Z d Y_D_passNamed [xC 18, xI p] (hF (x_up (x_up q 673 s) 674 ov) (x_up (x_up r 578 (some 21)) 580 (some 2)) (x_up A 22 f) ++ dy) (fun v0 h2 => ∃ s2 ov2 f2, h2 = hF (x_up (x_up q 673 s2) 674 ov2) (x_up (x_up r 578 (some 21)) 580 (some 2)) (x_up A 22 f2) ++ dy ∧ ((v0 = some (xI 1) ∧ ∃ b2, (s_flt (A 5) (A 6) (A 7) (A 2) (q 35) p g n).map (fun x => bs ++ x) = some b2 ∧ pb (q 675) s2 ov2 f2 b2) ∨ (v0 = some (xI 0) ∧ ∀ b2, (s_flt (A 5) (A 6) (A 7) (A 2) (q 35) p g n).map (fun x => bs ++ x) = some b2 → q 675 < b2.length))) := by
  refine xMet_of (by decide) (Nat.le_of_ble_eq_true rfl) (fun v0 h2 hq => by obtain ⟨_, _, _, _, ⟨e, _⟩ | ⟨e, _⟩⟩ := hq <;> rw [e]; exact Or.inr rfl; exact Or.inl rfl) ?_
  have hp0 := hp.1
  have hp1 := hp.2.1
  have hgi : ∀ u : Int, q 581 ≤ u → u < q 582 → A 2 u.toNat = g (u - q 581).toNat := fun u h1 h2 => by rw [← hg _ (by omega)]; congr 1; omega
  refine xW_ok (fun _ _ hok => ?_)
  have hbB : ∀ j, -128 ≤ A 2 j ∧ A 2 j ≤ 127 := fun j => hok _ (List.mem_of_getElem? (i := 2) rfl) j
  refine x_aload_n (x_d C_D_passNamed 0 rfl) rfl ?_
  refine x_getfield (v := xC 4) (x_d C_D_passNamed 1 rfl) f_D_27 rfl rfl ?_
  refine x_iload_n (x_d C_D_passNamed 2 rfl) rfl ?_
  refine x_ldcS (i := 23) (x_d C_D_passNamed 3 rfl) rfl ?_
  refine x_invokevirtual (st := []) (av := [xI (p), xS (47)]) (x_d C_D_passNamed 4 rfl) k_D_89 m_P_isName v_P_isName cl_P rfl rfl (Nat.le_of_ble_eq_true rfl) (by omega) rfl (c_P_isName Z (d - 1) (x_up (x_up q 673 s) 674 ov) (x_up (x_up r 578 (some 21)) 580 (some 2)) (x_up A 22 f) dy (by omega) (i := 23) rfl p hT (by omega)) ?_
  rintro v_ _ ⟨hv_, rfl⟩
  obtain rfl : v_ = some (xI (x_bo (s_isN (A 5) (A 6) (A 7) (A 2) (q 35) p [72, 101, 120]))) := hv_
  refine x_if_eq (tgt := 18) (x_d C_D_passNamed 5 rfl) rfl (fun c1 => ?_) (fun c1 => ?_)
  · refine x_aload_n (x_d C_D_passNamed 9 rfl) rfl ?_
    refine x_getfield (v := xC 4) (x_d C_D_passNamed 10 rfl) f_D_27 rfl rfl ?_
    refine x_iload_n (x_d C_D_passNamed 11 rfl) rfl ?_
    refine x_ldcS (i := 24) (x_d C_D_passNamed 12 rfl) rfl ?_
    refine x_invokevirtual (st := []) (av := [xI (p), xS (49)]) (x_d C_D_passNamed 13 rfl) k_D_89 m_P_isName v_P_isName cl_P rfl rfl (Nat.le_of_ble_eq_true rfl) (by omega) rfl (c_P_isName Z (d - 1) (x_up (x_up q 673 s) 674 ov) (x_up (x_up r 578 (some 21)) 580 (some 2)) (x_up A 22 f) dy (by omega) (i := 24) rfl p hT (by omega)) ?_
    rintro v_ _ ⟨hv_, rfl⟩
    obtain rfl : v_ = some (xI (x_bo (s_isN (A 5) (A 6) (A 7) (A 2) (q 35) p [82, 117, 110, 115]))) := hv_
    refine x_if_eq (tgt := 36) (x_d C_D_passNamed 14 rfl) rfl (fun c2 => ?_) (fun c2 => ?_)
    · refine x_aload_n (x_d C_D_passNamed 18 rfl) rfl ?_
      refine x_getfield (v := xC 4) (x_d C_D_passNamed 19 rfl) f_D_27 rfl rfl ?_
      refine x_iload_n (x_d C_D_passNamed 20 rfl) rfl ?_
      refine x_ldcS (i := 25) (x_d C_D_passNamed 21 rfl) rfl ?_
      refine x_invokevirtual (st := []) (av := [xI (p), xS (51)]) (x_d C_D_passNamed 22 rfl) k_D_89 m_P_isName v_P_isName cl_P rfl rfl (Nat.le_of_ble_eq_true rfl) (by omega) rfl (c_P_isName Z (d - 1) (x_up (x_up q 673 s) 674 ov) (x_up (x_up r 578 (some 21)) 580 (some 2)) (x_up A 22 f) dy (by omega) (i := 25) rfl p hT (by omega)) ?_
      rintro v_ _ ⟨hv_, rfl⟩
      obtain rfl : v_ = some (xI (x_bo (s_isN (A 5) (A 6) (A 7) (A 2) (q 35) p [66, 97, 115, 101, 56, 53]))) := hv_
      refine x_if_eq (tgt := 60) (x_d C_D_passNamed 23 rfl) rfl (fun c3 => ?_) (fun c3 => ?_)
      · refine x_iconst (x_d C_D_passNamed 29 rfl) ⟨by omega, by omega⟩ ?_
        refine x_ireturn (x_d C_D_passNamed 30 rfl) ?_
        have e0 : s_flt (A 5) (A 6) (A 7) (A 2) (q 35) p g n = none := by
          unfold s_flt
          rw [if_neg (fun z => absurd (x_bo_1.mpr z) (show ¬ ¬ x_bo (s_isN (A 5) (A 6) (A 7) (A 2) (q 35) p [72, 101, 120]) = 0 by omega)), if_neg (fun z => absurd (x_bo_1.mpr z) (show ¬ ¬ x_bo (s_isN (A 5) (A 6) (A 7) (A 2) (q 35) p [82, 117, 110, 115]) = 0 by omega)), if_neg (fun z => absurd (x_bo_1.mpr z) (show ¬ ¬ x_bo (s_isN (A 5) (A 6) (A 7) (A 2) (q 35) p [66, 97, 115, 101, 56, 53]) = 0 by omega))]
        rw [e0]
        exact ⟨s, ov, f, rfl, Or.inr ⟨rfl, fun b2 e => by cases e⟩⟩
      · refine x_aload_n (x_d C_D_passNamed 24 rfl) rfl ?_
        refine x_invokevirtual (st := []) (av := []) (x_d C_D_passNamed 25 rfl) k_D_104 m_D_passBase85 v_D_passBase85 cl_D rfl rfl (Nat.le_of_ble_eq_true rfl) (by omega) rfl (c_D_passBase85_21_2 Z (d - 1) q r A dy g n (by omega) s ov f bs hl hn hg hp) ?_
        rintro v_ _ ⟨s4, ov4, f4, rfl, hr_⟩
        obtain ⟨z4, rfl, hz4⟩ : ∃ z : Int, v_ = some (xI z) ∧ ((z = 1 ∧ ∃ b2, ((s_f85 g n).map (fun x => bs ++ x)) = some b2 ∧ pb (q 675) s4 ov4 f4 b2) ∨ (z = 0 ∧ ∀ b2, ((s_f85 g n).map (fun x => bs ++ x)) = some b2 → q 675 < b2.length)) := by
          rcases hr_ with ⟨h1_, h2_⟩ | ⟨h1_, h2_⟩
          · exact ⟨1, h1_, Or.inl ⟨rfl, h2_⟩⟩
          · exact ⟨0, h1_, Or.inr ⟨rfl, h2_⟩⟩
        refine x_if_eq (tgt := 60) (x_d C_D_passNamed 26 rfl) rfl (fun c5 => ?_) (fun c5 => ?_)
        · refine x_iconst (x_d C_D_passNamed 29 rfl) ⟨by omega, by omega⟩ ?_
          refine x_ireturn (x_d C_D_passNamed 30 rfl) ?_
          have e0 : s_flt (A 5) (A 6) (A 7) (A 2) (q 35) p g n = s_f85 g n := by
            unfold s_flt
            rw [if_neg (fun z => absurd (x_bo_1.mpr z) (show ¬ ¬ x_bo (s_isN (A 5) (A 6) (A 7) (A 2) (q 35) p [72, 101, 120]) = 0 by omega)), if_neg (fun z => absurd (x_bo_1.mpr z) (show ¬ ¬ x_bo (s_isN (A 5) (A 6) (A 7) (A 2) (q 35) p [82, 117, 110, 115]) = 0 by omega)), if_pos (x_bo_1.mp (show ¬ x_bo (s_isN (A 5) (A 6) (A 7) (A 2) (q 35) p [66, 97, 115, 101, 56, 53]) = 0 by omega))]
          rw [e0]
          refine ⟨_, _, _, rfl, ?_⟩
          rcases hz4 with ⟨h1, h2⟩ | ⟨h1, h2⟩
          · first | exact Or.inl ⟨rfl, h2⟩ | omega
          · first | exact Or.inr ⟨rfl, h2⟩ | omega
        · refine x_iconst (x_d C_D_passNamed 27 rfl) ⟨by omega, by omega⟩ ?_
          refine x_goto (tgt := 61) (x_d C_D_passNamed 28 rfl) rfl ?_
          refine x_ireturn (x_d C_D_passNamed 30 rfl) ?_
          have e0 : s_flt (A 5) (A 6) (A 7) (A 2) (q 35) p g n = s_f85 g n := by
            unfold s_flt
            rw [if_neg (fun z => absurd (x_bo_1.mpr z) (show ¬ ¬ x_bo (s_isN (A 5) (A 6) (A 7) (A 2) (q 35) p [72, 101, 120]) = 0 by omega)), if_neg (fun z => absurd (x_bo_1.mpr z) (show ¬ ¬ x_bo (s_isN (A 5) (A 6) (A 7) (A 2) (q 35) p [82, 117, 110, 115]) = 0 by omega)), if_pos (x_bo_1.mp (show ¬ x_bo (s_isN (A 5) (A 6) (A 7) (A 2) (q 35) p [66, 97, 115, 101, 56, 53]) = 0 by omega))]
          rw [e0]
          refine ⟨_, _, _, rfl, ?_⟩
          rcases hz4 with ⟨h1, h2⟩ | ⟨h1, h2⟩
          · first | exact Or.inl ⟨rfl, h2⟩ | omega
          · first | exact Or.inr ⟨rfl, h2⟩ | omega
    · refine x_aload_n (x_d C_D_passNamed 15 rfl) rfl ?_
      refine x_invokevirtual (st := []) (av := []) (x_d C_D_passNamed 16 rfl) k_D_99 m_D_passRuns v_D_passRuns cl_D rfl rfl (Nat.le_of_ble_eq_true rfl) (by omega) rfl (c_D_passRuns_21_2 Z (d - 1) q r A dy g n (by omega) s ov f bs hl hn hg hp) ?_
      rintro v_ _ ⟨s6, ov6, f6, rfl, hr_⟩
      obtain ⟨z6, rfl, hz6⟩ : ∃ z : Int, v_ = some (xI z) ∧ ((z = 1 ∧ ∃ b2, ((s_frun g n).map (fun x => bs ++ x)) = some b2 ∧ pb (q 675) s6 ov6 f6 b2) ∨ (z = 0 ∧ ∀ b2, ((s_frun g n).map (fun x => bs ++ x)) = some b2 → q 675 < b2.length)) := by
        rcases hr_ with ⟨h1_, h2_⟩ | ⟨h1_, h2_⟩
        · exact ⟨1, h1_, Or.inl ⟨rfl, h2_⟩⟩
        · exact ⟨0, h1_, Or.inr ⟨rfl, h2_⟩⟩
      refine x_ireturn (x_d C_D_passNamed 17 rfl) ?_
      have e0 : s_flt (A 5) (A 6) (A 7) (A 2) (q 35) p g n = s_frun g n := by
        unfold s_flt
        rw [if_neg (fun z => absurd (x_bo_1.mpr z) (show ¬ ¬ x_bo (s_isN (A 5) (A 6) (A 7) (A 2) (q 35) p [72, 101, 120]) = 0 by omega)), if_pos (x_bo_1.mp (show ¬ x_bo (s_isN (A 5) (A 6) (A 7) (A 2) (q 35) p [82, 117, 110, 115]) = 0 by omega))]
      rw [e0]
      refine ⟨_, _, _, rfl, ?_⟩
      rcases hz6 with ⟨h1, h2⟩ | ⟨h1, h2⟩
      · exact Or.inl ⟨by rw [h1], h2⟩
      · exact Or.inr ⟨by rw [h1], h2⟩
  · refine x_aload_n (x_d C_D_passNamed 6 rfl) rfl ?_
    refine x_invokevirtual (st := []) (av := []) (x_d C_D_passNamed 7 rfl) k_D_93 m_D_passHex v_D_passHex cl_D rfl rfl (Nat.le_of_ble_eq_true rfl) (by omega) rfl (c_D_passHex_21_2 Z (d - 1) q r A dy g n (by omega) s ov f bs hl hn hg hp) ?_
    rintro v_ _ ⟨s7, ov7, f7, rfl, hr_⟩
    obtain ⟨z7, rfl, hz7⟩ : ∃ z : Int, v_ = some (xI z) ∧ ((z = 1 ∧ ∃ b2, ((s_fhex g n).map (fun x => bs ++ x)) = some b2 ∧ pb (q 675) s7 ov7 f7 b2) ∨ (z = 0 ∧ ∀ b2, ((s_fhex g n).map (fun x => bs ++ x)) = some b2 → q 675 < b2.length)) := by
      rcases hr_ with ⟨h1_, h2_⟩ | ⟨h1_, h2_⟩
      · exact ⟨1, h1_, Or.inl ⟨rfl, h2_⟩⟩
      · exact ⟨0, h1_, Or.inr ⟨rfl, h2_⟩⟩
    refine x_ireturn (x_d C_D_passNamed 8 rfl) ?_
    have e0 : s_flt (A 5) (A 6) (A 7) (A 2) (q 35) p g n = s_fhex g n := by
      unfold s_flt
      rw [if_pos (x_bo_1.mp (show ¬ x_bo (s_isN (A 5) (A 6) (A 7) (A 2) (q 35) p [72, 101, 120]) = 0 by omega))]
    rw [e0]
    refine ⟨_, _, _, rfl, ?_⟩
    rcases hz7 with ⟨h1, h2⟩ | ⟨h1, h2⟩
    · exact Or.inl ⟨by rw [h1], h2⟩
    · exact Or.inr ⟨by rw [h1], h2⟩
theorem w_D_passBase85_46_21_20 (Z : xZ) (d : Nat) (q : Nat → Int) (r : Nat → Option Nat) (A : Nat → Nat → Int) (dy : xH) (g : Nat → Int) (n : Nat) (hd : 3 ≤ d) (e : Int) (hl : 0 ≤ q 675 ∧ q 675 ≤ 3000) (hn : 0 ≤ q 581 ∧ q 582 = q 581 + n ∧ q 582 ≤ 3000) (hg : ∀ k, k < n → A 20 ((q 581).toNat + k) = g k) (he : e = q 582 - 2) : ∀ (m : Nat) (s ov : Int) (f : Nat → Int) (bs : List Int) (i : Int), (q 581 ≤ i ∧ i ≤ e ∧ e < i + m) → pb (q 675) s ov f bs → xW Z d Y_D_passBase85 46 [(0, xC 18), (1, xI e), (2, xI i)] [] (hF (x_up (x_up q 673 s) 674 ov) (x_up (x_up r 578 (some 21)) 580 (some 20)) (x_up A 22 f) ++ dy) (fun v0 h2 => ∃ s2 ov2 f2, h2 = hF (x_up (x_up q 673 s2) 674 ov2) (x_up (x_up r 578 (some 21)) 580 (some 20)) (x_up A 22 f2) ++ dy ∧ ((v0 = some (xI 1) ∧ ∃ b2, (s_b85 g (n - 2) m (i - q 581).toNat).map (fun x => bs ++ x) = some b2 ∧ pb (q 675) s2 ov2 f2 b2) ∨ (v0 = some (xI 0) ∧ ∀ b2, (s_b85 g (n - 2) m (i - q 581).toNat).map (fun x => bs ++ x) = some b2 → q 675 < b2.length))) := by
  intro m
  induction m with
  | zero =>
    intro s ov f bs i hi hp
    have hp0 := hp.1
    have hp1 := hp.2.1
    have hgi : ∀ u : Int, q 581 ≤ u → u < q 582 → A 20 u.toNat = g (u - q 581).toNat := fun u h1 h2 => by rw [← hg _ (by omega)]; congr 1; omega
    refine xW_ok (fun _ _ hok => ?_)
    have hbB : ∀ j, -128 ≤ A 20 j ∧ A 20 j ≤ 127 := fun j => hok _ (List.mem_of_getElem? (i := 20) rfl) j
    omega
  | succ m ih =>
    intro s ov f bs i hi hp
    have hp0 := hp.1
    have hp1 := hp.2.1
    have hgi : ∀ u : Int, q 581 ≤ u → u < q 582 → A 20 u.toNat = g (u - q 581).toNat := fun u h1 h2 => by rw [← hg _ (by omega)]; congr 1; omega
    refine xW_ok (fun _ _ hok => ?_)
    have hbB : ∀ j, -128 ≤ A 20 j ∧ A 20 j ≤ 127 := fun j => hok _ (List.mem_of_getElem? (i := 20) rfl) j
    have hk0 : i < q 582 → g (i - q 581).toNat = A 20 i.toNat := fun h => (hgi i (by omega) h).symm
    refine x_iload_n (x_d C_D_passBase85 28 rfl) rfl ?_
    refine x_iload_n (x_d C_D_passBase85 29 rfl) rfl ?_
    refine x_icmp_ge (tgt := 114) (x_d C_D_passBase85 30 rfl) rfl (fun c1 => ?_) (fun c1 => ?_)
    · refine x_iconst (x_d C_D_passBase85 68 rfl) ⟨by omega, by omega⟩ ?_
      refine x_ireturn (x_d C_D_passBase85 69 rfl) ?_
      exact ⟨s, ov, f, rfl, Or.inl ⟨rfl, bs ++ [], by rw [s_b85_s, if_pos (by omega)]; rfl, pb_nil hp⟩⟩
    · refine x_aload_n (x_d C_D_passBase85 31 rfl) rfl ?_
      refine x_getfield (v := xC 20) (x_d C_D_passBase85 32 rfl) f_D_37 rfl rfl ?_
      refine x_iload_n (x_d C_D_passBase85 33 rfl) rfl ?_
      refine x_baload (f := A 20) (x_d C_D_passBase85 34 rfl) rfl (by omega) (by omega) ?_
      refine x_bipush (x_d C_D_passBase85 35 rfl) (by omega) ?_
      refine x_icmp_ne (tgt := 66) (x_d C_D_passBase85 36 rfl) rfl (fun c2 => ?_) (fun c2 => ?_)
      · refine x_iconst (x_d C_D_passBase85 39 rfl) ⟨by omega, by omega⟩ ?_
        refine x_iload_n (x_d C_D_passBase85 40 rfl) rfl ?_
        refine x_iload_n (x_d C_D_passBase85 41 rfl) rfl ?_
        refine x_isub (x_d C_D_passBase85 42 rfl) ⟨by omega, by omega⟩ ?_
        refine x_mmin (st := []) (x_d C_D_passBase85 43 rfl) kM_D_117 mmin_w (Nat.le_of_ble_eq_true rfl) (by omega) ?_
        refine x_istore_n (l1 := [(3, xI (min 5 (e - i))), (0, xC 18), (1, xI (e)), (2, xI (i))]) (x_d C_D_passBase85 44 rfl) (by decide) rfl ?_
        refine x_aload_n (x_d C_D_passBase85 45 rfl) rfl ?_
        refine x_getfield (v := xC 20) (x_d C_D_passBase85 46 rfl) f_D_37 rfl rfl ?_
        refine x_iload_n (x_d C_D_passBase85 47 rfl) rfl ?_
        refine x_baload (f := A 20) (x_d C_D_passBase85 48 rfl) rfl (by omega) (by omega) ?_
        refine x_bipush (x_d C_D_passBase85 49 rfl) (by omega) ?_
        refine x_icmp_ne (tgt := 92) (x_d C_D_passBase85 50 rfl) rfl (fun _ => ?_) (fun q => absurd q (by omega))
        refine x_aload_n (x_d C_D_passBase85 54 rfl) rfl ?_
        refine x_iload_n (x_d C_D_passBase85 55 rfl) rfl ?_
        refine x_iload_n (x_d C_D_passBase85 56 rfl) rfl ?_
        refine x_invokevirtual (st := []) (av := [xI (i), xI (min 5 (e - i))]) (x_d C_D_passBase85 57 rfl) k_D_126 m_D_passGroup v_D_passGroup cl_D rfl rfl (Nat.le_of_ble_eq_true rfl) (by omega) rfl (c_D_passGroup_21_20 Z (d - 1) q r A dy g n (by omega) s ov f bs i (min 5 (e - i)) (min 5 (n - 2 - (i - q 581).toNat)) hl hn hg (by omega) hp) ?_
        rintro v_ _ ⟨s4, ov4, f4, rfl, hr_⟩
        obtain ⟨z4, rfl, hz4⟩ : ∃ z : Int, v_ = some (xI z) ∧ ((z = 1 ∧ ∃ b2, ((s_grp g (i - q 581).toNat (min 5 (n - 2 - (i - q 581).toNat))).map (fun x => bs ++ x)) = some b2 ∧ pb (q 675) s4 ov4 f4 b2) ∨ (z = 0 ∧ ∀ b2, ((s_grp g (i - q 581).toNat (min 5 (n - 2 - (i - q 581).toNat))).map (fun x => bs ++ x)) = some b2 → q 675 < b2.length)) := by
          rcases hr_ with ⟨h1_, h2_⟩ | ⟨h1_, h2_⟩
          · exact ⟨1, h1_, Or.inl ⟨rfl, h2_⟩⟩
          · exact ⟨0, h1_, Or.inr ⟨rfl, h2_⟩⟩
        refine x_istore (l1 := [(4, xI (z4)), (3, xI (min 5 (e - i))), (0, xC 18), (1, xI (e)), (2, xI (i))]) (x_d C_D_passBase85 58 rfl) (by decide) rfl ?_
        refine x_iload (x_d C_D_passBase85 59 rfl) rfl ?_
        refine x_if_ne (tgt := 107) (x_d C_D_passBase85 60 rfl) rfl (fun c5 => ?_) (fun c5 => ?_)
        · refine x_iload_n (x_d C_D_passBase85 63 rfl) rfl ?_
          refine x_iload_n (x_d C_D_passBase85 64 rfl) rfl ?_
          refine x_iadd (x_d C_D_passBase85 65 rfl) ⟨by omega, by omega⟩ ?_
          refine x_istore_n (l1 := [(2, xI (i + (min 5 (e - i)))), (4, xI (z4)), (3, xI (min 5 (e - i))), (0, xC 18), (1, xI (e))]) (x_d C_D_passBase85 66 rfl) (by decide) rfl ?_
          refine x_goto (tgt := 46) (x_d C_D_passBase85 67 rfl) rfl ?_
          refine x_locs [3, 4, 0] rfl ?_
          rcases hz4 with ⟨h1, b2, h2, h3⟩ | ⟨h1, h2⟩
          · obtain ⟨y, hy, e1⟩ := Option.map_eq_some_iff.mp h2
            subst e1
            refine xW_post ?_ (ih s4 ov4 f4 _ (i + min 5 (e - i)) (by omega) h3)
            rintro v0 h2 ⟨s9, ov9, f9, g2, g3⟩
            refine ⟨s9, ov9, f9, g2, ?_⟩
            rw [s_b85_s, if_neg (by omega), if_neg (by omega), hy, Option.bind_some, s_map_app]
            rw [show (i + min 5 (e - i) - q 581).toNat = (i - q 581).toNat + min 5 (n - 2 - (i - q 581).toNat) by omega] at g3
            exact g3
          · omega
        · refine x_iconst (x_d C_D_passBase85 61 rfl) ⟨by omega, by omega⟩ ?_
          refine x_ireturn (x_d C_D_passBase85 62 rfl) ?_
          rcases hz4 with ⟨h1, h2⟩ | ⟨h1, h2⟩
          · omega
          · refine ⟨_, _, _, rfl, Or.inr ⟨rfl, fun b2 e2 => ?_⟩⟩
            rw [s_b85_s, if_neg (by omega)] at e2
            first
            | (rw [if_pos (by omega)] at e2
               obtain ⟨y, hy, e3⟩ := Option.map_eq_some_iff.mp e2
               obtain ⟨y2, hy2, e4⟩ := Option.map_eq_some_iff.mp hy
               have := h2 _ rfl
               rw [← e3, ← e4, List.length_append, List.length_append]
               rw [List.length_append] at this
               omega)
            | (rw [if_neg (by omega)] at e2
               obtain ⟨y, hy, e3⟩ := Option.map_eq_some_iff.mp e2
               obtain ⟨y2, hy2, e4⟩ := Option.bind_eq_some_iff.mp hy
               obtain ⟨y3, hy3, e5⟩ := Option.map_eq_some_iff.mp e4
               have := h2 (bs ++ y2) (by rw [hy2]; rfl)
               rw [← e3, ← e5, List.length_append, List.length_append]
               rw [List.length_append] at this
               omega)
      · refine x_iconst (x_d C_D_passBase85 37 rfl) ⟨by omega, by omega⟩ ?_
        refine x_goto (tgt := 73) (x_d C_D_passBase85 38 rfl) rfl ?_
        refine x_istore_n (l1 := [(3, xI (1)), (0, xC 18), (1, xI (e)), (2, xI (i))]) (x_d C_D_passBase85 44 rfl) (by decide) rfl ?_
        refine x_aload_n (x_d C_D_passBase85 45 rfl) rfl ?_
        refine x_getfield (v := xC 20) (x_d C_D_passBase85 46 rfl) f_D_37 rfl rfl ?_
        refine x_iload_n (x_d C_D_passBase85 47 rfl) rfl ?_
        refine x_baload (f := A 20) (x_d C_D_passBase85 48 rfl) rfl (by omega) (by omega) ?_
        refine x_bipush (x_d C_D_passBase85 49 rfl) (by omega) ?_
        refine x_icmp_ne (tgt := 92) (x_d C_D_passBase85 50 rfl) rfl (fun q => absurd q (by omega)) (fun _ => ?_)
        refine x_aload_n (x_d C_D_passBase85 51 rfl) rfl ?_
        refine x_invokevirtual (st := []) (av := []) (x_d C_D_passBase85 52 rfl) k_D_123 m_D_passZeros v_D_passZeros cl_D rfl rfl (Nat.le_of_ble_eq_true rfl) (by omega) rfl (c_D_passZeros_21_20 Z (d - 1) q r A dy g n (by omega) s ov f bs hl hn hg hp) ?_
        rintro v_ _ ⟨s7, ov7, f7, rfl, hr_⟩
        obtain ⟨z7, rfl, hz7⟩ : ∃ z : Int, v_ = some (xI z) ∧ ((z = 1 ∧ ∃ b2, (some (bs ++ [0, 0, 0, 0])) = some b2 ∧ pb (q 675) s7 ov7 f7 b2) ∨ (z = 0 ∧ ∀ b2, (some (bs ++ [0, 0, 0, 0])) = some b2 → q 675 < b2.length)) := by
          rcases hr_ with ⟨h1_, h2_⟩ | ⟨h1_, h2_⟩
          · exact ⟨1, h1_, Or.inl ⟨rfl, h2_⟩⟩
          · exact ⟨0, h1_, Or.inr ⟨rfl, h2_⟩⟩
        refine x_goto (tgt := 98) (x_d C_D_passBase85 53 rfl) rfl ?_
        refine x_istore (l1 := [(4, xI (z7)), (3, xI (1)), (0, xC 18), (1, xI (e)), (2, xI (i))]) (x_d C_D_passBase85 58 rfl) (by decide) rfl ?_
        refine x_iload (x_d C_D_passBase85 59 rfl) rfl ?_
        refine x_if_ne (tgt := 107) (x_d C_D_passBase85 60 rfl) rfl (fun c8 => ?_) (fun c8 => ?_)
        · refine x_iload_n (x_d C_D_passBase85 63 rfl) rfl ?_
          refine x_iload_n (x_d C_D_passBase85 64 rfl) rfl ?_
          refine x_iadd (x_d C_D_passBase85 65 rfl) ⟨by omega, by omega⟩ ?_
          refine x_istore_n (l1 := [(2, xI (i + 1)), (4, xI (z7)), (3, xI (1)), (0, xC 18), (1, xI (e))]) (x_d C_D_passBase85 66 rfl) (by decide) rfl ?_
          refine x_goto (tgt := 46) (x_d C_D_passBase85 67 rfl) rfl ?_
          refine x_locs [3, 4, 0] rfl ?_
          rcases hz7 with ⟨h1, b2, h2, h3⟩ | ⟨h1, h2⟩
          · have h2 := Option.some.inj h2
            subst h2
            refine xW_post ?_ (ih s7 ov7 f7 _ (i + 1) (by omega) h3)
            rintro v0 h2 ⟨s9, ov9, f9, g2, g3⟩
            refine ⟨s9, ov9, f9, g2, ?_⟩
            rw [s_b85_s, if_neg (by omega), if_pos (by omega), s_map_app]
            rw [show (i + 1 - q 581).toNat = (i - q 581).toNat + 1 by omega] at g3
            exact g3
          · omega
        · refine x_iconst (x_d C_D_passBase85 61 rfl) ⟨by omega, by omega⟩ ?_
          refine x_ireturn (x_d C_D_passBase85 62 rfl) ?_
          rcases hz7 with ⟨h1, h2⟩ | ⟨h1, h2⟩
          · omega
          · refine ⟨_, _, _, rfl, Or.inr ⟨rfl, fun b2 e2 => ?_⟩⟩
            rw [s_b85_s, if_neg (by omega)] at e2
            first
            | (rw [if_pos (by omega)] at e2
               obtain ⟨y, hy, e3⟩ := Option.map_eq_some_iff.mp e2
               obtain ⟨y2, hy2, e4⟩ := Option.map_eq_some_iff.mp hy
               have := h2 _ rfl
               rw [← e3, ← e4, List.length_append, List.length_append]
               rw [List.length_append] at this
               omega)
            | (rw [if_neg (by omega)] at e2
               obtain ⟨y, hy, e3⟩ := Option.map_eq_some_iff.mp e2
               obtain ⟨y2, hy2, e4⟩ := Option.bind_eq_some_iff.mp hy
               obtain ⟨y3, hy3, e5⟩ := Option.map_eq_some_iff.mp e4
               have := h2 (bs ++ y2) (by rw [hy2]; rfl)
               rw [← e3, ← e5, List.length_append, List.length_append]
               rw [List.length_append] at this
               omega)
theorem c_D_passBase85_21_20 (Z : xZ) (d : Nat) (q : Nat → Int) (r : Nat → Option Nat) (A : Nat → Nat → Int) (dy : xH) (g : Nat → Int) (n : Nat) (hd : 3 ≤ d) (s ov : Int) (f : Nat → Int) (bs : List Int) (hl : 0 ≤ q 675 ∧ q 675 ≤ 3000) (hn : 0 ≤ q 581 ∧ q 582 = q 581 + n ∧ q 582 ≤ 3000) (hg : ∀ k, k < n → A 20 ((q 581).toNat + k) = g k) (hp : pb (q 675) s ov f bs) : xMet Z d Y_D_passBase85 [xC 18] (hF (x_up (x_up q 673 s) 674 ov) (x_up (x_up r 578 (some 21)) 580 (some 20)) (x_up A 22 f) ++ dy) (fun v0 h2 => ∃ s2 ov2 f2, h2 = hF (x_up (x_up q 673 s2) 674 ov2) (x_up (x_up r 578 (some 21)) 580 (some 20)) (x_up A 22 f2) ++ dy ∧ ((v0 = some (xI 1) ∧ ∃ b2, (s_f85 g n).map (fun x => bs ++ x) = some b2 ∧ pb (q 675) s2 ov2 f2 b2) ∨ (v0 = some (xI 0) ∧ ∀ b2, (s_f85 g n).map (fun x => bs ++ x) = some b2 → q 675 < b2.length))) := by
  refine xMet_of (by decide) (Nat.le_of_ble_eq_true rfl) (fun v0 h2 hq => by obtain ⟨_, _, _, _, ⟨e, _⟩ | ⟨e, _⟩⟩ := hq <;> rw [e]; exact Or.inr rfl; exact Or.inl rfl) ?_
  have hp0 := hp.1
  have hp1 := hp.2.1
  have hgi : ∀ u : Int, q 581 ≤ u → u < q 582 → A 20 u.toNat = g (u - q 581).toNat := fun u h1 h2 => by rw [← hg _ (by omega)]; congr 1; omega
  refine xW_ok (fun _ _ hok => ?_)
  have hbB : ∀ j, -128 ≤ A 20 j ∧ A 20 j ≤ 127 := fun j => hok _ (List.mem_of_getElem? (i := 20) rfl) j
  have hl1 : 2 ≤ n → g (n - 1) = A 20 (q 582 - 2 + 1).toNat := fun h => by rw [hgi _ (by omega) (by omega)]; congr 1; omega
  have hl2 : 2 ≤ n → g (n - 2) = A 20 (q 582 - 2).toNat := fun h => by rw [hgi _ (by omega) (by omega)]; congr 1; omega
  refine x_aload_n (x_d C_D_passBase85 0 rfl) rfl ?_
  refine x_getfield (v := xI (q 582)) (x_d C_D_passBase85 1 rfl) f_D_53 rfl rfl ?_
  refine x_iconst (x_d C_D_passBase85 2 rfl) ⟨by omega, by omega⟩ ?_
  refine x_isub (x_d C_D_passBase85 3 rfl) ⟨by omega, by omega⟩ ?_
  refine x_istore_n (l1 := [(1, xI (q 582 - 2)), (0, xC 18)]) (x_d C_D_passBase85 4 rfl) (by decide) rfl ?_
  refine x_iload_n (x_d C_D_passBase85 5 rfl) rfl ?_
  refine x_aload_n (x_d C_D_passBase85 6 rfl) rfl ?_
  refine x_getfield (v := xI (q 581)) (x_d C_D_passBase85 7 rfl) f_D_46 rfl rfl ?_
  refine x_icmp_lt (tgt := 39) (x_d C_D_passBase85 8 rfl) rfl (fun c1 => ?_) (fun c1 => ?_)
  · refine x_iconst (x_d C_D_passBase85 23 rfl) ⟨by omega, by omega⟩ ?_
    refine x_ireturn (x_d C_D_passBase85 24 rfl) ?_
    refine ⟨s, ov, f, rfl, Or.inr ⟨rfl, fun b2 e => ?_⟩⟩
    unfold s_f85 at e
    rw [if_pos (by omega)] at e
    cases e
  · refine x_aload_n (x_d C_D_passBase85 9 rfl) rfl ?_
    refine x_getfield (v := xC 20) (x_d C_D_passBase85 10 rfl) f_D_37 rfl rfl ?_
    refine x_iload_n (x_d C_D_passBase85 11 rfl) rfl ?_
    refine x_baload (f := A 20) (x_d C_D_passBase85 12 rfl) rfl (by omega) (by omega) ?_
    refine x_bipush (x_d C_D_passBase85 13 rfl) (by omega) ?_
    refine x_icmp_ne (tgt := 39) (x_d C_D_passBase85 14 rfl) rfl (fun c2 => ?_) (fun c2 => ?_)
    · refine x_iconst (x_d C_D_passBase85 23 rfl) ⟨by omega, by omega⟩ ?_
      refine x_ireturn (x_d C_D_passBase85 24 rfl) ?_
      refine ⟨s, ov, f, rfl, Or.inr ⟨rfl, fun b2 e => ?_⟩⟩
      unfold s_f85 at e
      rw [if_pos (by omega)] at e
      cases e
    · refine x_aload_n (x_d C_D_passBase85 15 rfl) rfl ?_
      refine x_getfield (v := xC 20) (x_d C_D_passBase85 16 rfl) f_D_37 rfl rfl ?_
      refine x_iload_n (x_d C_D_passBase85 17 rfl) rfl ?_
      refine x_iconst (x_d C_D_passBase85 18 rfl) ⟨by omega, by omega⟩ ?_
      refine x_iadd (x_d C_D_passBase85 19 rfl) ⟨by omega, by omega⟩ ?_
      refine x_baload (f := A 20) (x_d C_D_passBase85 20 rfl) rfl (by omega) (by omega) ?_
      refine x_bipush (x_d C_D_passBase85 21 rfl) (by omega) ?_
      refine x_icmp_eq (tgt := 41) (x_d C_D_passBase85 22 rfl) rfl (fun c3 => ?_) (fun c3 => ?_)
      · refine x_aload_n (x_d C_D_passBase85 25 rfl) rfl ?_
        refine x_getfield (v := xI (q 581)) (x_d C_D_passBase85 26 rfl) f_D_46 rfl rfl ?_
        refine x_istore_n (l1 := [(2, xI (q 581)), (1, xI (q 582 - 2)), (0, xC 18)]) (x_d C_D_passBase85 27 rfl) (by decide) rfl ?_
        refine x_locs [2, 1, 0] rfl ?_
        have := w_D_passBase85_46_21_20 Z d q r A dy g n hd _ hl hn hg rfl (n + 1) s ov f bs (q 581) (by omega) hp
        rw [Int.sub_self] at this
        unfold s_f85
        rw [if_neg (by omega)]
        exact this
      · refine x_iconst (x_d C_D_passBase85 23 rfl) ⟨by omega, by omega⟩ ?_
        refine x_ireturn (x_d C_D_passBase85 24 rfl) ?_
        refine ⟨s, ov, f, rfl, Or.inr ⟨rfl, fun b2 e => ?_⟩⟩
        unfold s_f85 at e
        rw [if_pos (by omega)] at e
        cases e
theorem c_D_passNamed_21_20 (Z : xZ) (d : Nat) (q : Nat → Int) (r : Nat → Option Nat) (A : Nat → Nat → Int) (dy : xH) (g : Nat → Int) (n : Nat) (hd : 6 ≤ d) (s ov : Int) (f : Nat → Int) (bs : List Int) (p : Int) (hl : 0 ≤ q 675 ∧ q 675 ≤ 3000) (hn : 0 ≤ q 581 ∧ q 582 = q 581 + n ∧ q 582 ≤ 3000) (hg : ∀ k, k < n → A 20 ((q 581).toNat + k) = g k) (hT : 0 ≤ q 34 ∧ q 34 ≤ q 35 ∧ q 35 ≤ 10248) (hpp : p < 12900) (hp : pb (q 675) s ov f bs) : xMet Z d Y_D_passNamed [xC 18, xI p] (hF (x_up (x_up q 673 s) 674 ov) (x_up (x_up r 578 (some 21)) 580 (some 20)) (x_up A 22 f) ++ dy) (fun v0 h2 => ∃ s2 ov2 f2, h2 = hF (x_up (x_up q 673 s2) 674 ov2) (x_up (x_up r 578 (some 21)) 580 (some 20)) (x_up A 22 f2) ++ dy ∧ ((v0 = some (xI 1) ∧ ∃ b2, (s_flt (A 5) (A 6) (A 7) (A 2) (q 35) p g n).map (fun x => bs ++ x) = some b2 ∧ pb (q 675) s2 ov2 f2 b2) ∨ (v0 = some (xI 0) ∧ ∀ b2, (s_flt (A 5) (A 6) (A 7) (A 2) (q 35) p g n).map (fun x => bs ++ x) = some b2 → q 675 < b2.length))) := by
  refine xMet_of (by decide) (Nat.le_of_ble_eq_true rfl) (fun v0 h2 hq => by obtain ⟨_, _, _, _, ⟨e, _⟩ | ⟨e, _⟩⟩ := hq <;> rw [e]; exact Or.inr rfl; exact Or.inl rfl) ?_
  have hp0 := hp.1
  have hp1 := hp.2.1
  have hgi : ∀ u : Int, q 581 ≤ u → u < q 582 → A 20 u.toNat = g (u - q 581).toNat := fun u h1 h2 => by rw [← hg _ (by omega)]; congr 1; omega
  refine xW_ok (fun _ _ hok => ?_)
  have hbB : ∀ j, -128 ≤ A 20 j ∧ A 20 j ≤ 127 := fun j => hok _ (List.mem_of_getElem? (i := 20) rfl) j
  refine x_aload_n (x_d C_D_passNamed 0 rfl) rfl ?_
  refine x_getfield (v := xC 4) (x_d C_D_passNamed 1 rfl) f_D_27 rfl rfl ?_
  refine x_iload_n (x_d C_D_passNamed 2 rfl) rfl ?_
  refine x_ldcS (i := 23) (x_d C_D_passNamed 3 rfl) rfl ?_
  refine x_invokevirtual (st := []) (av := [xI (p), xS (47)]) (x_d C_D_passNamed 4 rfl) k_D_89 m_P_isName v_P_isName cl_P rfl rfl (Nat.le_of_ble_eq_true rfl) (by omega) rfl (c_P_isName Z (d - 1) (x_up (x_up q 673 s) 674 ov) (x_up (x_up r 578 (some 21)) 580 (some 20)) (x_up A 22 f) dy (by omega) (i := 23) rfl p hT (by omega)) ?_
  rintro v_ _ ⟨hv_, rfl⟩
  obtain rfl : v_ = some (xI (x_bo (s_isN (A 5) (A 6) (A 7) (A 2) (q 35) p [72, 101, 120]))) := hv_
  refine x_if_eq (tgt := 18) (x_d C_D_passNamed 5 rfl) rfl (fun c1 => ?_) (fun c1 => ?_)
  · refine x_aload_n (x_d C_D_passNamed 9 rfl) rfl ?_
    refine x_getfield (v := xC 4) (x_d C_D_passNamed 10 rfl) f_D_27 rfl rfl ?_
    refine x_iload_n (x_d C_D_passNamed 11 rfl) rfl ?_
    refine x_ldcS (i := 24) (x_d C_D_passNamed 12 rfl) rfl ?_
    refine x_invokevirtual (st := []) (av := [xI (p), xS (49)]) (x_d C_D_passNamed 13 rfl) k_D_89 m_P_isName v_P_isName cl_P rfl rfl (Nat.le_of_ble_eq_true rfl) (by omega) rfl (c_P_isName Z (d - 1) (x_up (x_up q 673 s) 674 ov) (x_up (x_up r 578 (some 21)) 580 (some 20)) (x_up A 22 f) dy (by omega) (i := 24) rfl p hT (by omega)) ?_
    rintro v_ _ ⟨hv_, rfl⟩
    obtain rfl : v_ = some (xI (x_bo (s_isN (A 5) (A 6) (A 7) (A 2) (q 35) p [82, 117, 110, 115]))) := hv_
    refine x_if_eq (tgt := 36) (x_d C_D_passNamed 14 rfl) rfl (fun c2 => ?_) (fun c2 => ?_)
    · refine x_aload_n (x_d C_D_passNamed 18 rfl) rfl ?_
      refine x_getfield (v := xC 4) (x_d C_D_passNamed 19 rfl) f_D_27 rfl rfl ?_
      refine x_iload_n (x_d C_D_passNamed 20 rfl) rfl ?_
      refine x_ldcS (i := 25) (x_d C_D_passNamed 21 rfl) rfl ?_
      refine x_invokevirtual (st := []) (av := [xI (p), xS (51)]) (x_d C_D_passNamed 22 rfl) k_D_89 m_P_isName v_P_isName cl_P rfl rfl (Nat.le_of_ble_eq_true rfl) (by omega) rfl (c_P_isName Z (d - 1) (x_up (x_up q 673 s) 674 ov) (x_up (x_up r 578 (some 21)) 580 (some 20)) (x_up A 22 f) dy (by omega) (i := 25) rfl p hT (by omega)) ?_
      rintro v_ _ ⟨hv_, rfl⟩
      obtain rfl : v_ = some (xI (x_bo (s_isN (A 5) (A 6) (A 7) (A 2) (q 35) p [66, 97, 115, 101, 56, 53]))) := hv_
      refine x_if_eq (tgt := 60) (x_d C_D_passNamed 23 rfl) rfl (fun c3 => ?_) (fun c3 => ?_)
      · refine x_iconst (x_d C_D_passNamed 29 rfl) ⟨by omega, by omega⟩ ?_
        refine x_ireturn (x_d C_D_passNamed 30 rfl) ?_
        have e0 : s_flt (A 5) (A 6) (A 7) (A 2) (q 35) p g n = none := by
          unfold s_flt
          rw [if_neg (fun z => absurd (x_bo_1.mpr z) (show ¬ ¬ x_bo (s_isN (A 5) (A 6) (A 7) (A 2) (q 35) p [72, 101, 120]) = 0 by omega)), if_neg (fun z => absurd (x_bo_1.mpr z) (show ¬ ¬ x_bo (s_isN (A 5) (A 6) (A 7) (A 2) (q 35) p [82, 117, 110, 115]) = 0 by omega)), if_neg (fun z => absurd (x_bo_1.mpr z) (show ¬ ¬ x_bo (s_isN (A 5) (A 6) (A 7) (A 2) (q 35) p [66, 97, 115, 101, 56, 53]) = 0 by omega))]
        rw [e0]
        exact ⟨s, ov, f, rfl, Or.inr ⟨rfl, fun b2 e => by cases e⟩⟩
      · refine x_aload_n (x_d C_D_passNamed 24 rfl) rfl ?_
        refine x_invokevirtual (st := []) (av := []) (x_d C_D_passNamed 25 rfl) k_D_104 m_D_passBase85 v_D_passBase85 cl_D rfl rfl (Nat.le_of_ble_eq_true rfl) (by omega) rfl (c_D_passBase85_21_20 Z (d - 1) q r A dy g n (by omega) s ov f bs hl hn hg hp) ?_
        rintro v_ _ ⟨s4, ov4, f4, rfl, hr_⟩
        obtain ⟨z4, rfl, hz4⟩ : ∃ z : Int, v_ = some (xI z) ∧ ((z = 1 ∧ ∃ b2, ((s_f85 g n).map (fun x => bs ++ x)) = some b2 ∧ pb (q 675) s4 ov4 f4 b2) ∨ (z = 0 ∧ ∀ b2, ((s_f85 g n).map (fun x => bs ++ x)) = some b2 → q 675 < b2.length)) := by
          rcases hr_ with ⟨h1_, h2_⟩ | ⟨h1_, h2_⟩
          · exact ⟨1, h1_, Or.inl ⟨rfl, h2_⟩⟩
          · exact ⟨0, h1_, Or.inr ⟨rfl, h2_⟩⟩
        refine x_if_eq (tgt := 60) (x_d C_D_passNamed 26 rfl) rfl (fun c5 => ?_) (fun c5 => ?_)
        · refine x_iconst (x_d C_D_passNamed 29 rfl) ⟨by omega, by omega⟩ ?_
          refine x_ireturn (x_d C_D_passNamed 30 rfl) ?_
          have e0 : s_flt (A 5) (A 6) (A 7) (A 2) (q 35) p g n = s_f85 g n := by
            unfold s_flt
            rw [if_neg (fun z => absurd (x_bo_1.mpr z) (show ¬ ¬ x_bo (s_isN (A 5) (A 6) (A 7) (A 2) (q 35) p [72, 101, 120]) = 0 by omega)), if_neg (fun z => absurd (x_bo_1.mpr z) (show ¬ ¬ x_bo (s_isN (A 5) (A 6) (A 7) (A 2) (q 35) p [82, 117, 110, 115]) = 0 by omega)), if_pos (x_bo_1.mp (show ¬ x_bo (s_isN (A 5) (A 6) (A 7) (A 2) (q 35) p [66, 97, 115, 101, 56, 53]) = 0 by omega))]
          rw [e0]
          refine ⟨_, _, _, rfl, ?_⟩
          rcases hz4 with ⟨h1, h2⟩ | ⟨h1, h2⟩
          · first | exact Or.inl ⟨rfl, h2⟩ | omega
          · first | exact Or.inr ⟨rfl, h2⟩ | omega
        · refine x_iconst (x_d C_D_passNamed 27 rfl) ⟨by omega, by omega⟩ ?_
          refine x_goto (tgt := 61) (x_d C_D_passNamed 28 rfl) rfl ?_
          refine x_ireturn (x_d C_D_passNamed 30 rfl) ?_
          have e0 : s_flt (A 5) (A 6) (A 7) (A 2) (q 35) p g n = s_f85 g n := by
            unfold s_flt
            rw [if_neg (fun z => absurd (x_bo_1.mpr z) (show ¬ ¬ x_bo (s_isN (A 5) (A 6) (A 7) (A 2) (q 35) p [72, 101, 120]) = 0 by omega)), if_neg (fun z => absurd (x_bo_1.mpr z) (show ¬ ¬ x_bo (s_isN (A 5) (A 6) (A 7) (A 2) (q 35) p [82, 117, 110, 115]) = 0 by omega)), if_pos (x_bo_1.mp (show ¬ x_bo (s_isN (A 5) (A 6) (A 7) (A 2) (q 35) p [66, 97, 115, 101, 56, 53]) = 0 by omega))]
          rw [e0]
          refine ⟨_, _, _, rfl, ?_⟩
          rcases hz4 with ⟨h1, h2⟩ | ⟨h1, h2⟩
          · first | exact Or.inl ⟨rfl, h2⟩ | omega
          · first | exact Or.inr ⟨rfl, h2⟩ | omega
    · refine x_aload_n (x_d C_D_passNamed 15 rfl) rfl ?_
      refine x_invokevirtual (st := []) (av := []) (x_d C_D_passNamed 16 rfl) k_D_99 m_D_passRuns v_D_passRuns cl_D rfl rfl (Nat.le_of_ble_eq_true rfl) (by omega) rfl (c_D_passRuns_21_20 Z (d - 1) q r A dy g n (by omega) s ov f bs hl hn hg hp) ?_
      rintro v_ _ ⟨s6, ov6, f6, rfl, hr_⟩
      obtain ⟨z6, rfl, hz6⟩ : ∃ z : Int, v_ = some (xI z) ∧ ((z = 1 ∧ ∃ b2, ((s_frun g n).map (fun x => bs ++ x)) = some b2 ∧ pb (q 675) s6 ov6 f6 b2) ∨ (z = 0 ∧ ∀ b2, ((s_frun g n).map (fun x => bs ++ x)) = some b2 → q 675 < b2.length)) := by
        rcases hr_ with ⟨h1_, h2_⟩ | ⟨h1_, h2_⟩
        · exact ⟨1, h1_, Or.inl ⟨rfl, h2_⟩⟩
        · exact ⟨0, h1_, Or.inr ⟨rfl, h2_⟩⟩
      refine x_ireturn (x_d C_D_passNamed 17 rfl) ?_
      have e0 : s_flt (A 5) (A 6) (A 7) (A 2) (q 35) p g n = s_frun g n := by
        unfold s_flt
        rw [if_neg (fun z => absurd (x_bo_1.mpr z) (show ¬ ¬ x_bo (s_isN (A 5) (A 6) (A 7) (A 2) (q 35) p [72, 101, 120]) = 0 by omega)), if_pos (x_bo_1.mp (show ¬ x_bo (s_isN (A 5) (A 6) (A 7) (A 2) (q 35) p [82, 117, 110, 115]) = 0 by omega))]
      rw [e0]
      refine ⟨_, _, _, rfl, ?_⟩
      rcases hz6 with ⟨h1, h2⟩ | ⟨h1, h2⟩
      · exact Or.inl ⟨by rw [h1], h2⟩
      · exact Or.inr ⟨by rw [h1], h2⟩
  · refine x_aload_n (x_d C_D_passNamed 6 rfl) rfl ?_
    refine x_invokevirtual (st := []) (av := []) (x_d C_D_passNamed 7 rfl) k_D_93 m_D_passHex v_D_passHex cl_D rfl rfl (Nat.le_of_ble_eq_true rfl) (by omega) rfl (c_D_passHex_21_20 Z (d - 1) q r A dy g n (by omega) s ov f bs hl hn hg hp) ?_
    rintro v_ _ ⟨s7, ov7, f7, rfl, hr_⟩
    obtain ⟨z7, rfl, hz7⟩ : ∃ z : Int, v_ = some (xI z) ∧ ((z = 1 ∧ ∃ b2, ((s_fhex g n).map (fun x => bs ++ x)) = some b2 ∧ pb (q 675) s7 ov7 f7 b2) ∨ (z = 0 ∧ ∀ b2, ((s_fhex g n).map (fun x => bs ++ x)) = some b2 → q 675 < b2.length)) := by
      rcases hr_ with ⟨h1_, h2_⟩ | ⟨h1_, h2_⟩
      · exact ⟨1, h1_, Or.inl ⟨rfl, h2_⟩⟩
      · exact ⟨0, h1_, Or.inr ⟨rfl, h2_⟩⟩
    refine x_ireturn (x_d C_D_passNamed 8 rfl) ?_
    have e0 : s_flt (A 5) (A 6) (A 7) (A 2) (q 35) p g n = s_fhex g n := by
      unfold s_flt
      rw [if_pos (x_bo_1.mp (show ¬ x_bo (s_isN (A 5) (A 6) (A 7) (A 2) (q 35) p [72, 101, 120]) = 0 by omega))]
    rw [e0]
    refine ⟨_, _, _, rfl, ?_⟩
    rcases hz7 with ⟨h1, h2⟩ | ⟨h1, h2⟩
    · exact Or.inl ⟨by rw [h1], h2⟩
    · exact Or.inr ⟨by rw [h1], h2⟩
