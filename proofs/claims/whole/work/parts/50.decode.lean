/-! the decoder: runs, base 85 -/
theorem s_sl_eq {f g : Nat → Int} : ∀ (n a b : Nat), (∀ j, j < n → f (a + j) = g (b + j)) → s_sl f a n = s_sl g b n
  | 0, _, _, _ => rfl
  | n + 1, a, b, h => by
    show f a :: s_sl f (a + 1) n = g b :: s_sl g (b + 1) n
    rw [show f a = g b from h 0 (by omega), s_sl_eq n (a + 1) (b + 1) (fun j hj => by have := h (j + 1) (by omega); rw [show a + 1 + j = a + (j + 1) by omega, show b + 1 + j = b + (j + 1) by omega]; exact this)]
theorem s_runs_s (g : Nat → Int) (n m k : Nat) : s_runs g n (m + 1) k = if n ≤ k then none else if g k % 256 = 128 then (if k + 1 = n then some [] else none) else if g k % 256 < 128 then (if n ≤ k + (g k % 256 + 1).toNat then none else (s_runs g n m (k + (g k % 256).toNat + 2)).map (fun x => s_sl g (k + 1) (g k % 256 + 1).toNat ++ x)) else (if n ≤ k + 1 then none else (s_runs g n m (k + 2)).map (fun x => List.replicate (257 - g k % 256).toNat (g (k + 1)) ++ x)) := rfl
theorem s_b85_s (g : Nat → Int) (e m k : Nat) : s_b85 g e (m + 1) k = if e ≤ k then some [] else if g k = 122 then (s_b85 g e m (k + 1)).map (fun x => [0, 0, 0, 0] ++ x) else (s_grp g k (min 5 (e - k))).bind (fun y => (s_b85 g e m (k + min 5 (e - k))).map (fun x => y ++ x)) := rfl
theorem pb_ov {lm s ov : Int} {f : Nat → Int} {bs : List Int} (h : pb lm s ov f bs) : (ov = 0 ∧ (bs.length : Int) ≤ lm) ∨ (ov = 1 ∧ lm < bs.length) := by
  obtain ⟨-, -, ⟨a, b, -⟩ | ⟨a, b⟩⟩ := h
  · exact Or.inl ⟨b, a⟩
  · exact Or.inr ⟨b, a⟩
theorem s_long {x : Option (List Int)} {bs b2 : List Int} {lm : Int} (h : x.map (fun y => bs ++ y) = some b2) (hl : lm < bs.length) : lm < b2.length := by
  obtain ⟨y, -, e⟩ := Option.map_eq_some_iff.mp h
  rw [← e, List.length_append]
  omega
theorem s_p85 {j : Nat} (h : j ≤ 4) : (85 : Int) ^ j ≤ 85 ^ 4 := by
  have := Nat.pow_le_pow_right (n := 85) (by omega) h
  exact_mod_cast this
theorem s_v5_in {g : Nat → Int} {k sz : Nat} : ∀ {i : Nat}, s_ok5d g k sz i = true → 0 ≤ s_v5 g k sz i ∧ s_v5 g k sz i < 85 ^ i
  | 0, _ => ⟨Int.le_refl 0, by show (0 : Int) < 85 ^ 0; decide⟩
  | i + 1, h => by
    have h : (s_ok5d g k sz i && decide (0 ≤ s_d5 g k sz i ∧ s_d5 g k sz i ≤ 84)) = true := h
    rw [Bool.and_eq_true, decide_eq_true_eq] at h
    have h1 := s_v5_in h.1
    show 0 ≤ 85 * s_v5 g k sz i + s_d5 g k sz i ∧ 85 * s_v5 g k sz i + s_d5 g k sz i < 85 ^ (i + 1)
    rw [Int.pow_succ]
    omega
theorem s_ok5_bad {g : Nat → Int} {b sz k : Nat} (h : k < 5) (hb : ¬ (0 ≤ s_d5 g b sz k ∧ s_d5 g b sz k ≤ 84)) : s_ok5d g b sz 5 = false := by
  cases e : s_ok5d g b sz 5 with
  | false => rfl
  | true =>
    have key : ∀ i, s_ok5d g b sz i = true → ∀ j, j < i → (0 ≤ s_d5 g b sz j ∧ s_d5 g b sz j ≤ 84) := by
      intro i
      induction i with
      | zero => intro _ j hj; omega
      | succ i ih =>
        intro h j hj
        have h : (s_ok5d g b sz i && decide (0 ≤ s_d5 g b sz i ∧ s_d5 g b sz i ≤ 84)) = true := h
        rw [Bool.and_eq_true, decide_eq_true_eq] at h
        by_cases e : j = i
        · rw [e]; exact h.2
        · exact ih h.1 j (by omega)
    exact absurd (key 5 e k h) hb
theorem w_D_passRuns_118_19_2 (Z : xZ) (d : Nat) (q : Nat → Int) (r : Nat → Option Nat) (A : Nat → Nat → Int) (dy : xH) (hd : 1 ≤ d) (i k tk x : Int) (hl : 0 ≤ q 611 ∧ q 611 ≤ 3000) (hi : 0 ≤ i ∧ i + 1 < 10248) (hx : A 2 (i + 1).toNat = x) (Q : Option xV → xH → Prop) (hx2 : -128 ≤ x ∧ x ≤ 127) : ∀ (m : Nat) (s ov : Int) (f : Nat → Int) (bs : List Int) (t : Int), t = m ∧ m ≤ 300 → pb (q 611) s ov f bs → (∀ (s2 ov2 : Int) (f2 : Nat → Int), pb (q 611) s2 ov2 f2 (bs ++ List.replicate m x) → xW Z d Y_D_passRuns 144 [(0, xC 18), (1, xI i), (2, xI k), (3, xI tk), (4, xI 0)] [] (hF (x_up (x_up q 609 s2) 610 ov2) (x_up (x_up r 578 (some 19)) 580 (some 2)) (x_up A 20 f2) ++ dy) Q) → xW Z d Y_D_passRuns 118 [(0, xC 18), (1, xI i), (2, xI k), (3, xI tk), (4, xI t)] [] (hF (x_up (x_up q 609 s) 610 ov) (x_up (x_up r 578 (some 19)) 580 (some 2)) (x_up A 20 f) ++ dy) Q := by
  intro m
  induction m with
  | zero =>
    intro s ov f bs t ht hp kk
    obtain rfl : t = 0 := by omega
    refine x_iload (x_d C_D_passRuns 67 rfl) rfl ?_
    refine x_if_le (tgt := 144) (x_d C_D_passRuns 68 rfl) rfl (fun _ => ?_) (fun q => absurd q (by omega))
    exact kk s ov f (pb_nil hp)
  | succ m ih =>
    intro s ov f bs t ht hp kk
    have hp0 := hp.1
    have hp1 := hp.2.1
    refine x_iload (x_d C_D_passRuns 67 rfl) rfl ?_
    refine x_if_le (tgt := 144) (x_d C_D_passRuns 68 rfl) rfl (fun q => absurd q (by omega)) (fun _ => ?_)
    refine x_aload_n (x_d C_D_passRuns 69 rfl) rfl ?_
    refine x_getfield (v := xC 19) (x_d C_D_passRuns 70 rfl) f_D_14 rfl rfl ?_
    refine x_aload_n (x_d C_D_passRuns 71 rfl) rfl ?_
    refine x_getfield (v := xC 2) (x_d C_D_passRuns 72 rfl) f_D_37 rfl rfl ?_
    refine x_iload_n (x_d C_D_passRuns 73 rfl) rfl ?_
    refine x_iconst (x_d C_D_passRuns 74 rfl) ⟨by omega, by omega⟩ ?_
    refine x_iadd (x_d C_D_passRuns 75 rfl) ⟨by omega, by omega⟩ ?_
    refine x_baload (f := A 2) (x_d C_D_passRuns 76 rfl) rfl (by omega) (by omega) ?_
    refine x_invokevirtual (st := []) (av := [xI (A 2 (i + 1).toNat)]) (x_d C_D_passRuns 77 rfl) k_D_110 m_Pa_add v_Pa_add cl_Pa rfl rfl (Nat.le_of_ble_eq_true rfl) (by omega) rfl (c_Pb_add_19 Z (d - 1) q (x_up (x_up r 578 (some 19)) 580 (some 2)) A dy s ov f bs (A 2 (i + 1).toNat) hl hp) ?_
    rintro _ _ ⟨rfl, s2, ov2, f2, rfl, hp2⟩
    have hp02 := hp2.1
    have hp12 := hp2.2.1
    refine x_iinc (l1 := [(4, xI (t + (-1))), (0, xC 18), (1, xI (i)), (2, xI (k)), (3, xI (tk))]) (x_d C_D_passRuns 78 rfl) rfl ⟨by omega, by omega⟩ (by decide) rfl ?_
    refine x_goto (tgt := 118) (x_d C_D_passRuns 79 rfl) rfl ?_
    refine x_locs [1, 2, 3, 4, 0] rfl ?_
    refine ih s2 ov2 f2 _ (t + (-1)) (by omega) hp2 (fun s2 ov2 f2 h2 => kk s2 ov2 f2 ?_)
    rw [List.append_assoc, hx, x_by_id hx2] at h2
    exact h2
theorem w_D_passRuns_5_19_2 (Z : xZ) (d : Nat) (q : Nat → Int) (r : Nat → Option Nat) (A : Nat → Nat → Int) (dy : xH) (g : Nat → Int) (n : Nat) (hd : 2 ≤ d) (hl : 0 ≤ q 611 ∧ q 611 ≤ 3000) (hn : 0 ≤ q 581 ∧ q 582 = q 581 + n ∧ q 582 ≤ 10248) (hg : ∀ k, k < n → A 2 ((q 581).toNat + k) = g k) : ∀ (m : Nat) (s ov : Int) (f : Nat → Int) (bs : List Int) (i : Int), (q 581 ≤ i ∧ i ≤ q 582 ∧ q 582 < i + m) → pb (q 611) s ov f bs → xW Z d Y_D_passRuns 5 [(0, xC 18), (1, xI i)] [] (hF (x_up (x_up q 609 s) 610 ov) (x_up (x_up r 578 (some 19)) 580 (some 2)) (x_up A 20 f) ++ dy) (fun v0 h2 => ∃ s2 ov2 f2, h2 = hF (x_up (x_up q 609 s2) 610 ov2) (x_up (x_up r 578 (some 19)) 580 (some 2)) (x_up A 20 f2) ++ dy ∧ ((v0 = some (xI 1) ∧ ∃ b2, (s_runs g n m (i - q 581).toNat).map (fun x => bs ++ x) = some b2 ∧ pb (q 611) s2 ov2 f2 b2) ∨ (v0 = some (xI 0) ∧ ∀ b2, (s_runs g n m (i - q 581).toNat).map (fun x => bs ++ x) = some b2 → q 611 < b2.length))) := by
  intro m
  induction m with
  | zero =>
    intro s ov f bs i hi hp
    have hp0 := hp.1
    have hp1 := hp.2.1
    have hgi : ∀ u : Int, q 581 ≤ u → u < q 582 → A 2 u.toNat = g (u - q 581).toNat := fun u h1 h2 => by rw [← hg _ (by omega)]; congr 1; omega
    refine xW_ok (fun _ _ hok => ?_)
    have hbB : ∀ j, -128 ≤ A 2 j ∧ A 2 j ≤ 127 := fun j => hok _ (List.mem_of_getElem? (i := 2) rfl) j
    omega
  | succ m ih =>
    intro s ov f bs i hi hp
    have hp0 := hp.1
    have hp1 := hp.2.1
    have hgi : ∀ u : Int, q 581 ≤ u → u < q 582 → A 2 u.toNat = g (u - q 581).toNat := fun u h1 h2 => by rw [← hg _ (by omega)]; congr 1; omega
    refine xW_ok (fun _ _ hok => ?_)
    have hbB : ∀ j, -128 ≤ A 2 j ∧ A 2 j ≤ 127 := fun j => hok _ (List.mem_of_getElem? (i := 2) rfl) j
    have hk0 : i < q 582 → g (i - q 581).toNat = A 2 i.toNat := fun h => (hgi i (by omega) h).symm
    have hk1 : i + 1 < q 582 → g ((i - q 581).toNat + 1) = A 2 (i + 1).toNat := fun h => by rw [hgi (i + 1) (by omega) h]; congr 1; omega
    refine x_iload_n (x_d C_D_passRuns 3 rfl) rfl ?_
    refine x_aload_n (x_d C_D_passRuns 4 rfl) rfl ?_
    refine x_getfield (v := xI (q 582)) (x_d C_D_passRuns 5 rfl) f_D_53 rfl rfl ?_
    refine x_icmp_ge (tgt := 153) (x_d C_D_passRuns 6 rfl) rfl (fun c1 => ?_) (fun c1 => ?_)
    · refine x_iconst (x_d C_D_passRuns 87 rfl) ⟨by omega, by omega⟩ ?_
      refine x_ireturn (x_d C_D_passRuns 88 rfl) ?_
      refine ⟨s, ov, f, rfl, Or.inr ⟨rfl, fun b2 e => ?_⟩⟩
      rcases pb_ov hp with ⟨h1, h2⟩ | ⟨h1, h2⟩
      · rw [s_runs_s] at e
        first
        | (rw [if_pos (by omega)] at e; cases e; done)
        | (rw [if_neg (by omega), if_pos (by omega), if_neg (by omega)] at e; cases e; done)
        | (rw [if_neg (by omega), if_neg (by omega), if_pos (by omega), if_pos (by omega)] at e; cases e; done)
        | (rw [if_neg (by omega), if_neg (by omega), if_neg (by omega), if_pos (by omega)] at e; cases e; done)
        | omega
      · exact s_long e h2
    · refine x_aload_n (x_d C_D_passRuns 7 rfl) rfl ?_
      refine x_getfield (v := xC 19) (x_d C_D_passRuns 8 rfl) f_D_14 rfl rfl ?_
      refine x_getfield (v := xI (ov)) (x_d C_D_passRuns 9 rfl) f_D_79 rfl rfl ?_
      refine x_if_ne (tgt := 153) (x_d C_D_passRuns 10 rfl) rfl (fun c2 => ?_) (fun c2 => ?_)
      · refine x_iconst (x_d C_D_passRuns 87 rfl) ⟨by omega, by omega⟩ ?_
        refine x_ireturn (x_d C_D_passRuns 88 rfl) ?_
        refine ⟨s, ov, f, rfl, Or.inr ⟨rfl, fun b2 e => ?_⟩⟩
        rcases pb_ov hp with ⟨h1, h2⟩ | ⟨h1, h2⟩
        · rw [s_runs_s] at e
          first
          | (rw [if_pos (by omega)] at e; cases e; done)
          | (rw [if_neg (by omega), if_pos (by omega), if_neg (by omega)] at e; cases e; done)
          | (rw [if_neg (by omega), if_neg (by omega), if_pos (by omega), if_pos (by omega)] at e; cases e; done)
          | (rw [if_neg (by omega), if_neg (by omega), if_neg (by omega), if_pos (by omega)] at e; cases e; done)
          | omega
        · exact s_long e h2
      · refine x_aload_n (x_d C_D_passRuns 11 rfl) rfl ?_
        refine x_getfield (v := xC 2) (x_d C_D_passRuns 12 rfl) f_D_37 rfl rfl ?_
        refine x_iload_n (x_d C_D_passRuns 13 rfl) rfl ?_
        refine x_baload (f := A 2) (x_d C_D_passRuns 14 rfl) rfl (by omega) (by omega) ?_
        refine x_sipush (x_d C_D_passRuns 15 rfl) (by omega) ?_
        refine x_iand255 (x_d C_D_passRuns 16 rfl) ?_
        refine x_istore_n (l1 := [(2, xI ((A 2 (i).toNat) % 256)), (0, xC 18), (1, xI (i))]) (x_d C_D_passRuns 17 rfl) (by decide) rfl ?_
        refine x_iload_n (x_d C_D_passRuns 18 rfl) rfl ?_
        refine x_sipush (x_d C_D_passRuns 19 rfl) (by omega) ?_
        refine x_icmp_ge (tgt := 47) (x_d C_D_passRuns 20 rfl) rfl (fun c3 => ?_) (fun c3 => ?_)
        · refine x_iconst (x_d C_D_passRuns 25 rfl) ⟨by omega, by omega⟩ ?_
          refine x_istore_n (l1 := [(3, xI (1)), (2, xI ((A 2 (i).toNat) % 256)), (0, xC 18), (1, xI (i))]) (x_d C_D_passRuns 26 rfl) (by decide) rfl ?_
          refine x_iload_n (x_d C_D_passRuns 27 rfl) rfl ?_
          refine x_sipush (x_d C_D_passRuns 28 rfl) (by omega) ?_
          refine x_icmp_ne (tgt := 72) (x_d C_D_passRuns 29 rfl) rfl (fun c4 => ?_) (fun c4 => ?_)
          · refine x_iload_n (x_d C_D_passRuns 40 rfl) rfl ?_
            refine x_aload_n (x_d C_D_passRuns 41 rfl) rfl ?_
            refine x_getfield (v := xI (q 582)) (x_d C_D_passRuns 42 rfl) f_D_53 rfl rfl ?_
            refine x_iload_n (x_d C_D_passRuns 43 rfl) rfl ?_
            refine x_isub (x_d C_D_passRuns 44 rfl) ⟨by omega, by omega⟩ ?_
            refine x_iconst (x_d C_D_passRuns 45 rfl) ⟨by omega, by omega⟩ ?_
            refine x_isub (x_d C_D_passRuns 46 rfl) ⟨by omega, by omega⟩ ?_
            refine x_icmp_le (tgt := 86) (x_d C_D_passRuns 47 rfl) rfl (fun c5 => ?_) (fun c5 => ?_)
            · refine x_iload_n (x_d C_D_passRuns 50 rfl) rfl ?_
              refine x_sipush (x_d C_D_passRuns 51 rfl) (by omega) ?_
              refine x_icmp_ge (tgt := 111) (x_d C_D_passRuns 52 rfl) rfl (fun _ => ?_) (fun q => absurd q (by omega))
              refine x_sipush (x_d C_D_passRuns 63 rfl) (by omega) ?_
              refine x_iload_n (x_d C_D_passRuns 64 rfl) rfl ?_
              refine x_isub (x_d C_D_passRuns 65 rfl) ⟨by omega, by omega⟩ ?_
              refine x_istore (l1 := [(4, xI (257 - ((A 2 (i).toNat) % 256))), (3, xI (1)), (2, xI ((A 2 (i).toNat) % 256)), (0, xC 18), (1, xI (i))]) (x_d C_D_passRuns 66 rfl) (by decide) rfl ?_
              refine x_locs [3, 4, 2, 1, 0] rfl ?_
              refine w_D_passRuns_118_19_2 Z d q r A dy (by omega) i _ _ _ hl (by omega) rfl _ (hbB _) (257 - A 2 i.toNat % 256).toNat s ov f bs _ (by omega) hp (fun s8 ov8 f8 h8 => ?_)
              refine x_iload_n (x_d C_D_passRuns 80 rfl) rfl ?_
              refine x_iload_n (x_d C_D_passRuns 81 rfl) rfl ?_
              refine x_iconst (x_d C_D_passRuns 82 rfl) ⟨by omega, by omega⟩ ?_
              refine x_iadd (x_d C_D_passRuns 83 rfl) ⟨by omega, by omega⟩ ?_
              refine x_iadd (x_d C_D_passRuns 84 rfl) ⟨by omega, by omega⟩ ?_
              refine x_istore_n (l1 := [(1, xI (i + (1 + 1))), (0, xC 18), (2, xI ((A 2 (i).toNat) % 256)), (3, xI (1)), (4, xI (0))]) (x_d C_D_passRuns 85 rfl) (by decide) rfl ?_
              refine x_goto (tgt := 5) (x_d C_D_passRuns 86 rfl) rfl ?_
              refine x_locs [1, 0] rfl ?_
              refine xW_post ?_ (ih s8 ov8 f8 _ (i + (1 + 1)) (by omega) h8)
              rintro v0 h2 ⟨s9, ov9, f9, g2, g3⟩
              refine ⟨s9, ov9, f9, g2, ?_⟩
              rw [s_runs_s, if_neg (by omega), if_neg (by omega), if_neg (by omega), if_neg (by omega), s_map_app, hk0 (by omega), hk1 (by omega)]
              rw [show (i + (1 + 1) - q 581).toNat = (i - q 581).toNat + 2 by omega] at g3
              exact g3
            · refine x_iconst (x_d C_D_passRuns 48 rfl) ⟨by omega, by omega⟩ ?_
              refine x_ireturn (x_d C_D_passRuns 49 rfl) ?_
              refine ⟨s, ov, f, rfl, Or.inr ⟨rfl, fun b2 e => ?_⟩⟩
              rcases pb_ov hp with ⟨h1, h2⟩ | ⟨h1, h2⟩
              · rw [s_runs_s] at e
                first
                | (rw [if_pos (by omega)] at e; cases e; done)
                | (rw [if_neg (by omega), if_pos (by omega), if_neg (by omega)] at e; cases e; done)
                | (rw [if_neg (by omega), if_neg (by omega), if_pos (by omega), if_pos (by omega)] at e; cases e; done)
                | (rw [if_neg (by omega), if_neg (by omega), if_neg (by omega), if_pos (by omega)] at e; cases e; done)
                | omega
              · exact s_long e h2
          · refine x_iload_n (x_d C_D_passRuns 30 rfl) rfl ?_
            refine x_aload_n (x_d C_D_passRuns 31 rfl) rfl ?_
            refine x_getfield (v := xI (q 582)) (x_d C_D_passRuns 32 rfl) f_D_53 rfl rfl ?_
            refine x_iconst (x_d C_D_passRuns 33 rfl) ⟨by omega, by omega⟩ ?_
            refine x_isub (x_d C_D_passRuns 34 rfl) ⟨by omega, by omega⟩ ?_
            refine x_icmp_ne (tgt := 70) (x_d C_D_passRuns 35 rfl) rfl (fun c7 => ?_) (fun c7 => ?_)
            · refine x_iconst (x_d C_D_passRuns 38 rfl) ⟨by omega, by omega⟩ ?_
              refine x_ireturn (x_d C_D_passRuns 39 rfl) ?_
              refine ⟨s, ov, f, rfl, Or.inr ⟨rfl, fun b2 e => ?_⟩⟩
              rcases pb_ov hp with ⟨h1, h2⟩ | ⟨h1, h2⟩
              · rw [s_runs_s] at e
                first
                | (rw [if_pos (by omega)] at e; cases e; done)
                | (rw [if_neg (by omega), if_pos (by omega), if_neg (by omega)] at e; cases e; done)
                | (rw [if_neg (by omega), if_neg (by omega), if_pos (by omega), if_pos (by omega)] at e; cases e; done)
                | (rw [if_neg (by omega), if_neg (by omega), if_neg (by omega), if_pos (by omega)] at e; cases e; done)
                | omega
              · exact s_long e h2
            · refine x_iconst (x_d C_D_passRuns 36 rfl) ⟨by omega, by omega⟩ ?_
              refine x_goto (tgt := 71) (x_d C_D_passRuns 37 rfl) rfl ?_
              refine x_ireturn (x_d C_D_passRuns 39 rfl) ?_
              exact ⟨s, ov, f, rfl, Or.inl ⟨rfl, bs ++ [], by rw [s_runs_s, if_neg (by omega), if_pos (by omega), if_pos (by omega)]; rfl, pb_nil hp⟩⟩
        · refine x_iload_n (x_d C_D_passRuns 21 rfl) rfl ?_
          refine x_iconst (x_d C_D_passRuns 22 rfl) ⟨by omega, by omega⟩ ?_
          refine x_iadd (x_d C_D_passRuns 23 rfl) ⟨by omega, by omega⟩ ?_
          refine x_goto (tgt := 48) (x_d C_D_passRuns 24 rfl) rfl ?_
          refine x_istore_n (l1 := [(3, xI (((A 2 (i).toNat) % 256) + 1)), (2, xI ((A 2 (i).toNat) % 256)), (0, xC 18), (1, xI (i))]) (x_d C_D_passRuns 26 rfl) (by decide) rfl ?_
          refine x_iload_n (x_d C_D_passRuns 27 rfl) rfl ?_
          refine x_sipush (x_d C_D_passRuns 28 rfl) (by omega) ?_
          refine x_icmp_ne (tgt := 72) (x_d C_D_passRuns 29 rfl) rfl (fun c8 => ?_) (fun c8 => ?_)
          · refine x_iload_n (x_d C_D_passRuns 40 rfl) rfl ?_
            refine x_aload_n (x_d C_D_passRuns 41 rfl) rfl ?_
            refine x_getfield (v := xI (q 582)) (x_d C_D_passRuns 42 rfl) f_D_53 rfl rfl ?_
            refine x_iload_n (x_d C_D_passRuns 43 rfl) rfl ?_
            refine x_isub (x_d C_D_passRuns 44 rfl) ⟨by omega, by omega⟩ ?_
            refine x_iconst (x_d C_D_passRuns 45 rfl) ⟨by omega, by omega⟩ ?_
            refine x_isub (x_d C_D_passRuns 46 rfl) ⟨by omega, by omega⟩ ?_
            refine x_icmp_le (tgt := 86) (x_d C_D_passRuns 47 rfl) rfl (fun c9 => ?_) (fun c9 => ?_)
            · refine x_iload_n (x_d C_D_passRuns 50 rfl) rfl ?_
              refine x_sipush (x_d C_D_passRuns 51 rfl) (by omega) ?_
              refine x_icmp_ge (tgt := 111) (x_d C_D_passRuns 52 rfl) rfl (fun q => absurd q (by omega)) (fun _ => ?_)
              refine x_aload_n (x_d C_D_passRuns 53 rfl) rfl ?_
              refine x_getfield (v := xC 19) (x_d C_D_passRuns 54 rfl) f_D_14 rfl rfl ?_
              refine x_aload_n (x_d C_D_passRuns 55 rfl) rfl ?_
              refine x_getfield (v := xC 2) (x_d C_D_passRuns 56 rfl) f_D_37 rfl rfl ?_
              refine x_iload_n (x_d C_D_passRuns 57 rfl) rfl ?_
              refine x_iconst (x_d C_D_passRuns 58 rfl) ⟨by omega, by omega⟩ ?_
              refine x_iadd (x_d C_D_passRuns 59 rfl) ⟨by omega, by omega⟩ ?_
              refine x_iload_n (x_d C_D_passRuns 60 rfl) rfl ?_
              refine x_invokevirtual (st := []) (av := [xC 2, xI (i + 1), xI (((A 2 (i).toNat) % 256) + 1)]) (x_d C_D_passRuns 61 rfl) k_D_113 m_Pa_addRow v_Pa_addRow cl_Pa rfl rfl (Nat.le_of_ble_eq_true rfl) (by omega) rfl (c_Pb_addRow_19_2 Z (d - 1) q (x_up (x_up r 578 (some 19)) 580 (some 2)) A dy s ov f bs (by omega) (i + 1) (((A 2 (i).toNat) % 256) + 1) hl hp (by omega)) ?_
              rintro _ _ ⟨rfl, s11, ov11, f11, rfl, hp11⟩
              have hp011 := hp11.1
              have hp111 := hp11.2.1
              refine x_goto (tgt := 144) (x_d C_D_passRuns 62 rfl) rfl ?_
              refine x_iload_n (x_d C_D_passRuns 80 rfl) rfl ?_
              refine x_iload_n (x_d C_D_passRuns 81 rfl) rfl ?_
              refine x_iconst (x_d C_D_passRuns 82 rfl) ⟨by omega, by omega⟩ ?_
              refine x_iadd (x_d C_D_passRuns 83 rfl) ⟨by omega, by omega⟩ ?_
              refine x_iadd (x_d C_D_passRuns 84 rfl) ⟨by omega, by omega⟩ ?_
              refine x_istore_n (l1 := [(1, xI (i + ((((A 2 (i).toNat) % 256) + 1) + 1))), (3, xI (((A 2 (i).toNat) % 256) + 1)), (2, xI ((A 2 (i).toNat) % 256)), (0, xC 18)]) (x_d C_D_passRuns 85 rfl) (by decide) rfl ?_
              refine x_goto (tgt := 5) (x_d C_D_passRuns 86 rfl) rfl ?_
              refine x_locs [3, 0] rfl ?_
              refine xW_post ?_ (ih s11 ov11 f11 _ (i + (A 2 i.toNat % 256 + 1 + 1)) (by omega) hp11)
              rintro v0 h2 ⟨s9, ov9, f9, g2, g3⟩
              refine ⟨s9, ov9, f9, g2, ?_⟩
              rw [s_runs_s, if_neg (by omega), if_neg (by omega), if_pos (by omega), if_neg (by omega), s_map_app]
              have e1 : s_sl (A 2) (i + 1).toNat (A 2 i.toNat % 256 + 1).toNat = s_sl g ((i - q 581).toNat + 1) (g (i - q 581).toNat % 256 + 1).toNat := by rw [hk0 (by omega)]; exact s_sl_eq _ _ _ (fun j hj => by have := hgi (i + 1 + j) (by omega) (by omega); rw [show (i + 1).toNat + j = (i + 1 + j).toNat by omega, this]; congr 1; omega)
              rw [e1, show (i + (A 2 i.toNat % 256 + 1 + 1) - q 581).toNat = (i - q 581).toNat + (g (i - q 581).toNat % 256).toNat + 2 by omega] at g3
              exact g3
            · refine x_iconst (x_d C_D_passRuns 48 rfl) ⟨by omega, by omega⟩ ?_
              refine x_ireturn (x_d C_D_passRuns 49 rfl) ?_
              refine ⟨s, ov, f, rfl, Or.inr ⟨rfl, fun b2 e => ?_⟩⟩
              rcases pb_ov hp with ⟨h1, h2⟩ | ⟨h1, h2⟩
              · rw [s_runs_s] at e
                first
                | (rw [if_pos (by omega)] at e; cases e; done)
                | (rw [if_neg (by omega), if_pos (by omega), if_neg (by omega)] at e; cases e; done)
                | (rw [if_neg (by omega), if_neg (by omega), if_pos (by omega), if_pos (by omega)] at e; cases e; done)
                | (rw [if_neg (by omega), if_neg (by omega), if_neg (by omega), if_pos (by omega)] at e; cases e; done)
                | omega
              · exact s_long e h2
          · refine x_iload_n (x_d C_D_passRuns 30 rfl) rfl ?_
            refine x_aload_n (x_d C_D_passRuns 31 rfl) rfl ?_
            refine x_getfield (v := xI (q 582)) (x_d C_D_passRuns 32 rfl) f_D_53 rfl rfl ?_
            refine x_iconst (x_d C_D_passRuns 33 rfl) ⟨by omega, by omega⟩ ?_
            refine x_isub (x_d C_D_passRuns 34 rfl) ⟨by omega, by omega⟩ ?_
            refine x_icmp_ne (tgt := 70) (x_d C_D_passRuns 35 rfl) rfl (fun c12 => ?_) (fun c12 => ?_)
            · refine x_iconst (x_d C_D_passRuns 38 rfl) ⟨by omega, by omega⟩ ?_
              refine x_ireturn (x_d C_D_passRuns 39 rfl) ?_
              refine ⟨s, ov, f, rfl, Or.inr ⟨rfl, fun b2 e => ?_⟩⟩
              rcases pb_ov hp with ⟨h1, h2⟩ | ⟨h1, h2⟩
              · rw [s_runs_s] at e
                first
                | (rw [if_pos (by omega)] at e; cases e; done)
                | (rw [if_neg (by omega), if_pos (by omega), if_neg (by omega)] at e; cases e; done)
                | (rw [if_neg (by omega), if_neg (by omega), if_pos (by omega), if_pos (by omega)] at e; cases e; done)
                | (rw [if_neg (by omega), if_neg (by omega), if_neg (by omega), if_pos (by omega)] at e; cases e; done)
                | omega
              · exact s_long e h2
            · refine x_iconst (x_d C_D_passRuns 36 rfl) ⟨by omega, by omega⟩ ?_
              refine x_goto (tgt := 71) (x_d C_D_passRuns 37 rfl) rfl ?_
              refine x_ireturn (x_d C_D_passRuns 39 rfl) ?_
              exact ⟨s, ov, f, rfl, Or.inl ⟨rfl, bs ++ [], by rw [s_runs_s, if_neg (by omega), if_pos (by omega), if_pos (by omega)]; rfl, pb_nil hp⟩⟩
theorem c_D_passRuns_19_2 (Z : xZ) (d : Nat) (q : Nat → Int) (r : Nat → Option Nat) (A : Nat → Nat → Int) (dy : xH) (g : Nat → Int) (n : Nat) (hd : 2 ≤ d) (s ov : Int) (f : Nat → Int) (bs : List Int) (hl : 0 ≤ q 611 ∧ q 611 ≤ 3000) (hn : 0 ≤ q 581 ∧ q 582 = q 581 + n ∧ q 582 ≤ 10248) (hg : ∀ k, k < n → A 2 ((q 581).toNat + k) = g k) (hp : pb (q 611) s ov f bs) : xMet Z d Y_D_passRuns [xC 18] (hF (x_up (x_up q 609 s) 610 ov) (x_up (x_up r 578 (some 19)) 580 (some 2)) (x_up A 20 f) ++ dy) (fun v0 h2 => ∃ s2 ov2 f2, h2 = hF (x_up (x_up q 609 s2) 610 ov2) (x_up (x_up r 578 (some 19)) 580 (some 2)) (x_up A 20 f2) ++ dy ∧ ((v0 = some (xI 1) ∧ ∃ b2, (s_frun g n).map (fun x => bs ++ x) = some b2 ∧ pb (q 611) s2 ov2 f2 b2) ∨ (v0 = some (xI 0) ∧ ∀ b2, (s_frun g n).map (fun x => bs ++ x) = some b2 → q 611 < b2.length))) := by
  refine xMet_of (by decide) (Nat.le_of_ble_eq_true rfl) (fun v0 h2 hq => by obtain ⟨_, _, _, _, ⟨e, _⟩ | ⟨e, _⟩⟩ := hq <;> rw [e]; exact Or.inr rfl; exact Or.inl rfl) ?_
  have hp0 := hp.1
  have hp1 := hp.2.1
  have hgi : ∀ u : Int, q 581 ≤ u → u < q 582 → A 2 u.toNat = g (u - q 581).toNat := fun u h1 h2 => by rw [← hg _ (by omega)]; congr 1; omega
  refine xW_ok (fun _ _ hok => ?_)
  have hbB : ∀ j, -128 ≤ A 2 j ∧ A 2 j ≤ 127 := fun j => hok _ (List.mem_of_getElem? (i := 2) rfl) j
  refine x_aload_n (x_d C_D_passRuns 0 rfl) rfl ?_
  refine x_getfield (v := xI (q 581)) (x_d C_D_passRuns 1 rfl) f_D_46 rfl rfl ?_
  refine x_istore_n (l1 := [(1, xI (q 581)), (0, xC 18)]) (x_d C_D_passRuns 2 rfl) (by decide) rfl ?_
  refine x_locs [1, 0] rfl ?_
  have := w_D_passRuns_5_19_2 Z d q r A dy g n hd hl hn hg (n + 1) s ov f bs (q 581) (by omega) hp
  rw [Int.sub_self] at this
  exact this
theorem c_D_passZeros_19_2 (Z : xZ) (d : Nat) (q : Nat → Int) (r : Nat → Option Nat) (A : Nat → Nat → Int) (dy : xH) (g : Nat → Int) (n : Nat) (hd : 2 ≤ d) (s ov : Int) (f : Nat → Int) (bs : List Int) (hl : 0 ≤ q 611 ∧ q 611 ≤ 3000) (hn : 0 ≤ q 581 ∧ q 582 = q 581 + n ∧ q 582 ≤ 10248) (hg : ∀ k, k < n → A 2 ((q 581).toNat + k) = g k) (hp : pb (q 611) s ov f bs) : xMet Z d Y_D_passZeros [xC 18] (hF (x_up (x_up q 609 s) 610 ov) (x_up (x_up r 578 (some 19)) 580 (some 2)) (x_up A 20 f) ++ dy) (fun v0 h2 => ∃ s2 ov2 f2, h2 = hF (x_up (x_up q 609 s2) 610 ov2) (x_up (x_up r 578 (some 19)) 580 (some 2)) (x_up A 20 f2) ++ dy ∧ ((v0 = some (xI 1) ∧ ∃ b2, (some (bs ++ [0, 0, 0, 0])) = some b2 ∧ pb (q 611) s2 ov2 f2 b2) ∨ (v0 = some (xI 0) ∧ ∀ b2, (some (bs ++ [0, 0, 0, 0])) = some b2 → q 611 < b2.length))) := by
  refine xMet_of (by decide) (Nat.le_of_ble_eq_true rfl) (fun v0 h2 hq => by obtain ⟨_, _, _, _, ⟨e, _⟩ | ⟨e, _⟩⟩ := hq <;> rw [e]; exact Or.inr rfl; exact Or.inl rfl) ?_
  have hp0 := hp.1
  have hp1 := hp.2.1
  have hgi : ∀ u : Int, q 581 ≤ u → u < q 582 → A 2 u.toNat = g (u - q 581).toNat := fun u h1 h2 => by rw [← hg _ (by omega)]; congr 1; omega
  refine xW_ok (fun _ _ hok => ?_)
  have hbB : ∀ j, -128 ≤ A 2 j ∧ A 2 j ≤ 127 := fun j => hok _ (List.mem_of_getElem? (i := 2) rfl) j
  refine x_iconst (x_d C_D_passZeros 0 rfl) ⟨by omega, by omega⟩ ?_
  refine x_istore_n (l1 := [(1, xI (0)), (0, xC 18)]) (x_d C_D_passZeros 1 rfl) (by decide) rfl ?_
  refine x_iload_n (x_d C_D_passZeros 2 rfl) rfl ?_
  refine x_iconst (x_d C_D_passZeros 3 rfl) ⟨by omega, by omega⟩ ?_
  refine x_icmp_ge (tgt := 21) (x_d C_D_passZeros 4 rfl) rfl (fun q => absurd q (by omega)) (fun _ => ?_)
  refine x_aload_n (x_d C_D_passZeros 5 rfl) rfl ?_
  refine x_getfield (v := xC 19) (x_d C_D_passZeros 6 rfl) f_D_14 rfl rfl ?_
  refine x_iconst (x_d C_D_passZeros 7 rfl) ⟨by omega, by omega⟩ ?_
  refine x_invokevirtual (st := []) (av := [xI (0)]) (x_d C_D_passZeros 8 rfl) k_D_110 m_Pa_add v_Pa_add cl_Pa rfl rfl (Nat.le_of_ble_eq_true rfl) (by omega) rfl (c_Pb_add_19 Z (d - 1) q (x_up (x_up r 578 (some 19)) 580 (some 2)) A dy s ov f bs 0 hl hp) ?_
  rintro _ _ ⟨rfl, s2, ov2, f2, rfl, hp2⟩
  have hp02 := hp2.1
  have hp12 := hp2.2.1
  refine x_iinc (l1 := [(1, xI (1)), (0, xC 18)]) (x_d C_D_passZeros 9 rfl) rfl ⟨by omega, by omega⟩ (by decide) rfl ?_
  refine x_goto (tgt := 2) (x_d C_D_passZeros 10 rfl) rfl ?_
  refine x_iload_n (x_d C_D_passZeros 2 rfl) rfl ?_
  refine x_iconst (x_d C_D_passZeros 3 rfl) ⟨by omega, by omega⟩ ?_
  refine x_icmp_ge (tgt := 21) (x_d C_D_passZeros 4 rfl) rfl (fun q => absurd q (by omega)) (fun _ => ?_)
  refine x_aload_n (x_d C_D_passZeros 5 rfl) rfl ?_
  refine x_getfield (v := xC 19) (x_d C_D_passZeros 6 rfl) f_D_14 rfl rfl ?_
  refine x_iconst (x_d C_D_passZeros 7 rfl) ⟨by omega, by omega⟩ ?_
  refine x_invokevirtual (st := []) (av := [xI (0)]) (x_d C_D_passZeros 8 rfl) k_D_110 m_Pa_add v_Pa_add cl_Pa rfl rfl (Nat.le_of_ble_eq_true rfl) (by omega) rfl (c_Pb_add_19 Z (d - 1) q (x_up (x_up r 578 (some 19)) 580 (some 2)) A dy s2 ov2 f2 (bs ++ ([x_by 0])) 0 hl hp2) ?_
  rintro _ _ ⟨rfl, s4, ov4, f4, rfl, hp4⟩
  have hp04 := hp4.1
  have hp14 := hp4.2.1
  refine x_iinc (l1 := [(1, xI (2)), (0, xC 18)]) (x_d C_D_passZeros 9 rfl) rfl ⟨by omega, by omega⟩ (by decide) rfl ?_
  refine x_goto (tgt := 2) (x_d C_D_passZeros 10 rfl) rfl ?_
  refine x_iload_n (x_d C_D_passZeros 2 rfl) rfl ?_
  refine x_iconst (x_d C_D_passZeros 3 rfl) ⟨by omega, by omega⟩ ?_
  refine x_icmp_ge (tgt := 21) (x_d C_D_passZeros 4 rfl) rfl (fun q => absurd q (by omega)) (fun _ => ?_)
  refine x_aload_n (x_d C_D_passZeros 5 rfl) rfl ?_
  refine x_getfield (v := xC 19) (x_d C_D_passZeros 6 rfl) f_D_14 rfl rfl ?_
  refine x_iconst (x_d C_D_passZeros 7 rfl) ⟨by omega, by omega⟩ ?_
  refine x_invokevirtual (st := []) (av := [xI (0)]) (x_d C_D_passZeros 8 rfl) k_D_110 m_Pa_add v_Pa_add cl_Pa rfl rfl (Nat.le_of_ble_eq_true rfl) (by omega) rfl (c_Pb_add_19 Z (d - 1) q (x_up (x_up r 578 (some 19)) 580 (some 2)) A dy s4 ov4 f4 (bs ++ ([x_by 0]) ++ ([x_by 0])) 0 hl hp4) ?_
  rintro _ _ ⟨rfl, s6, ov6, f6, rfl, hp6⟩
  have hp06 := hp6.1
  have hp16 := hp6.2.1
  refine x_iinc (l1 := [(1, xI (3)), (0, xC 18)]) (x_d C_D_passZeros 9 rfl) rfl ⟨by omega, by omega⟩ (by decide) rfl ?_
  refine x_goto (tgt := 2) (x_d C_D_passZeros 10 rfl) rfl ?_
  refine x_iload_n (x_d C_D_passZeros 2 rfl) rfl ?_
  refine x_iconst (x_d C_D_passZeros 3 rfl) ⟨by omega, by omega⟩ ?_
  refine x_icmp_ge (tgt := 21) (x_d C_D_passZeros 4 rfl) rfl (fun q => absurd q (by omega)) (fun _ => ?_)
  refine x_aload_n (x_d C_D_passZeros 5 rfl) rfl ?_
  refine x_getfield (v := xC 19) (x_d C_D_passZeros 6 rfl) f_D_14 rfl rfl ?_
  refine x_iconst (x_d C_D_passZeros 7 rfl) ⟨by omega, by omega⟩ ?_
  refine x_invokevirtual (st := []) (av := [xI (0)]) (x_d C_D_passZeros 8 rfl) k_D_110 m_Pa_add v_Pa_add cl_Pa rfl rfl (Nat.le_of_ble_eq_true rfl) (by omega) rfl (c_Pb_add_19 Z (d - 1) q (x_up (x_up r 578 (some 19)) 580 (some 2)) A dy s6 ov6 f6 (bs ++ ([x_by 0]) ++ ([x_by 0]) ++ ([x_by 0])) 0 hl hp6) ?_
  rintro _ _ ⟨rfl, s8, ov8, f8, rfl, hp8⟩
  have hp08 := hp8.1
  have hp18 := hp8.2.1
  refine x_iinc (l1 := [(1, xI (4)), (0, xC 18)]) (x_d C_D_passZeros 9 rfl) rfl ⟨by omega, by omega⟩ (by decide) rfl ?_
  refine x_goto (tgt := 2) (x_d C_D_passZeros 10 rfl) rfl ?_
  refine x_iload_n (x_d C_D_passZeros 2 rfl) rfl ?_
  refine x_iconst (x_d C_D_passZeros 3 rfl) ⟨by omega, by omega⟩ ?_
  refine x_icmp_ge (tgt := 21) (x_d C_D_passZeros 4 rfl) rfl (fun _ => ?_) (fun q => absurd q (by omega))
  refine x_iconst (x_d C_D_passZeros 11 rfl) ⟨by omega, by omega⟩ ?_
  refine x_ireturn (x_d C_D_passZeros 12 rfl) ?_
  refine ⟨_, _, _, rfl, Or.inl ⟨rfl, _, rfl, ?_⟩⟩
  have := hp8
  rw [List.append_assoc, List.append_assoc, List.append_assoc] at this
  exact this
theorem w_D_passGroup_5_19_2 (Z : xZ) (d : Nat) (q : Nat → Int) (r : Nat → Option Nat) (A : Nat → Nat → Int) (dy : xH) (g : Nat → Int) (n : Nat) (hd : 2 ≤ d) (s ov : Int) (f : Nat → Int) (bs : List Int) (i z : Int) (sz : Nat) (hl : 0 ≤ q 611 ∧ q 611 ≤ 3000) (hn : 0 ≤ q 581 ∧ q 582 = q 581 + n ∧ q 582 ≤ 10248) (hg : ∀ k, k < n → A 2 ((q 581).toNat + k) = g k) (hi : q 581 ≤ i ∧ z = sz ∧ 1 ≤ z ∧ z ≤ 5 ∧ i + z ≤ q 582) (kk : s_ok5d g (i - q 581).toNat sz 5 = true → xW Z d Y_D_passGroup 66 [(0, xC 18), (1, xI i), (2, xI z), (3, xJ (s_v5 g (i - q 581).toNat sz 5)), (5, xI 5)] [] (hF (x_up (x_up q 609 s) 610 ov) (x_up (x_up r 578 (some 19)) 580 (some 2)) (x_up A 20 f) ++ dy) (fun v0 h2 => ∃ s2 ov2 f2, h2 = hF (x_up (x_up q 609 s2) 610 ov2) (x_up (x_up r 578 (some 19)) 580 (some 2)) (x_up A 20 f2) ++ dy ∧ ((v0 = some (xI 1) ∧ ∃ b2, (s_grp g (i - q 581).toNat sz).map (fun x => bs ++ x) = some b2 ∧ pb (q 611) s2 ov2 f2 b2) ∨ (v0 = some (xI 0) ∧ ∀ b2, (s_grp g (i - q 581).toNat sz).map (fun x => bs ++ x) = some b2 → q 611 < b2.length)))) : ∀ (m : Nat) (k : Int), (0 ≤ k ∧ k + m = 5) → s_ok5d g (i - q 581).toNat sz k.toNat = true → xW Z d Y_D_passGroup 5 [(0, xC 18), (1, xI i), (2, xI z), (3, xJ (s_v5 g (i - q 581).toNat sz k.toNat)), (5, xI k)] [] (hF (x_up (x_up q 609 s) 610 ov) (x_up (x_up r 578 (some 19)) 580 (some 2)) (x_up A 20 f) ++ dy) (fun v0 h2 => ∃ s2 ov2 f2, h2 = hF (x_up (x_up q 609 s2) 610 ov2) (x_up (x_up r 578 (some 19)) 580 (some 2)) (x_up A 20 f2) ++ dy ∧ ((v0 = some (xI 1) ∧ ∃ b2, (s_grp g (i - q 581).toNat sz).map (fun x => bs ++ x) = some b2 ∧ pb (q 611) s2 ov2 f2 b2) ∨ (v0 = some (xI 0) ∧ ∀ b2, (s_grp g (i - q 581).toNat sz).map (fun x => bs ++ x) = some b2 → q 611 < b2.length))) := by
  intro m
  have hgi : ∀ u : Int, q 581 ≤ u → u < q 582 → A 2 u.toNat = g (u - q 581).toNat := fun u h1 h2 => by rw [← hg _ (by omega)]; congr 1; omega
  induction m with
  | zero =>
    intro k hk hok5
    obtain rfl : k = 5 := by omega
    refine x_iload (x_d C_D_passGroup 4 rfl) rfl ?_
    refine x_iconst (x_d C_D_passGroup 5 rfl) ⟨by omega, by omega⟩ ?_
    refine x_icmp_ge (tgt := 66) (x_d C_D_passGroup 6 rfl) rfl (fun _ => ?_) (fun q => absurd q (by omega))
    exact kk hok5
  | succ m ih =>
    intro k hk hok5
    have hv5 := s_v5_in hok5
    have hp5 : (85 : Int) ^ k.toNat ≤ 85 ^ 4 := s_p85 (by omega)
    have hd5 : k < z → s_d5 g (i - q 581).toNat sz k.toNat = A 2 (i + k).toNat - 33 := fun h => by unfold s_d5; rw [if_pos (by omega), hgi (i + k) (by omega) (by omega)]; congr 2; omega
    have hd6 : ¬ k < z → s_d5 g (i - q 581).toNat sz k.toNat = 84 := fun h => by unfold s_d5; rw [if_neg (by omega)]
    have hks : (k + 1).toNat = k.toNat + 1 := by omega
    refine xW_ok (fun _ _ hok => ?_)
    have hbB := hok _ (List.mem_of_getElem? (i := 2) rfl) (i + k).toNat
    have hbB : -128 ≤ A 2 (i + k).toNat ∧ A 2 (i + k).toNat ≤ 127 := hbB
    refine x_iload (x_d C_D_passGroup 4 rfl) rfl ?_
    refine x_iconst (x_d C_D_passGroup 5 rfl) ⟨by omega, by omega⟩ ?_
    refine x_icmp_ge (tgt := 66) (x_d C_D_passGroup 6 rfl) rfl (fun q => absurd q (by omega)) (fun _ => ?_)
    refine x_iload (x_d C_D_passGroup 7 rfl) rfl ?_
    refine x_iload_n (x_d C_D_passGroup 8 rfl) rfl ?_
    refine x_icmp_ge (tgt := 32) (x_d C_D_passGroup 9 rfl) rfl (fun c2 => ?_) (fun c2 => ?_)
    · refine x_bipush (x_d C_D_passGroup 19 rfl) (by omega) ?_
      refine x_istore (l1 := [(6, xI (84)), (0, xC 18), (1, xI (i)), (2, xI (z)), (3, xJ (s_v5 g (i - q 581).toNat sz k.toNat)), (5, xI (k))]) (x_d C_D_passGroup 20 rfl) (by decide) rfl ?_
      refine x_iload (x_d C_D_passGroup 21 rfl) rfl ?_
      refine x_if_lt (tgt := 48) (x_d C_D_passGroup 22 rfl) rfl (fun q => absurd q (by omega)) (fun _ => ?_)
      refine x_iload (x_d C_D_passGroup 23 rfl) rfl ?_
      refine x_bipush (x_d C_D_passGroup 24 rfl) (by omega) ?_
      refine x_icmp_le (tgt := 50) (x_d C_D_passGroup 25 rfl) rfl (fun _ => ?_) (fun q => absurd q (by omega))
      refine x_ldc2 (n := 85) (x_d C_D_passGroup 28 rfl) lc_D_130 ⟨by omega, by omega⟩ ?_
      refine x_lload_n (x_d C_D_passGroup 29 rfl) rfl ?_
      refine x_lmul (x_d C_D_passGroup 30 rfl) ⟨by omega, by omega⟩ ?_
      refine x_iload (x_d C_D_passGroup 31 rfl) rfl ?_
      refine x_i2l (x_d C_D_passGroup 32 rfl) ?_
      refine x_ladd (x_d C_D_passGroup 33 rfl) ⟨by omega, by omega⟩ ?_
      refine x_lstore_n (l1 := [(3, xJ ((85 * (s_v5 g (i - q 581).toNat sz k.toNat)) + 84)), (6, xI (84)), (0, xC 18), (1, xI (i)), (2, xI (z)), (5, xI (k))]) (x_d C_D_passGroup 34 rfl) (by decide) rfl ?_
      refine x_iinc (l1 := [(5, xI (k + 1)), (3, xJ ((85 * (s_v5 g (i - q 581).toNat sz k.toNat)) + 84)), (6, xI (84)), (0, xC 18), (1, xI (i)), (2, xI (z))]) (x_d C_D_passGroup 35 rfl) rfl ⟨by omega, by omega⟩ (by decide) rfl ?_
      refine x_goto (tgt := 5) (x_d C_D_passGroup 36 rfl) rfl ?_
      refine x_locs [3, 4, 5, 1, 0] rfl ?_
      have e1 : (85 * (s_v5 g (i - q 581).toNat sz k.toNat)) + 84 = s_v5 g (i - q 581).toNat sz (k + 1).toNat := by rw [hks]; show _ = 85 * s_v5 g (i - q 581).toNat sz k.toNat + s_d5 g (i - q 581).toNat sz k.toNat; omega
      rw [e1]
      refine ih (k + 1) (by omega) ?_
      rw [hks]
      show (s_ok5d g (i - q 581).toNat sz k.toNat && _) = true
      rw [hok5, Bool.true_and, decide_eq_true_eq]
      omega
    · refine x_aload_n (x_d C_D_passGroup 10 rfl) rfl ?_
      refine x_getfield (v := xC 2) (x_d C_D_passGroup 11 rfl) f_D_37 rfl rfl ?_
      refine x_iload_n (x_d C_D_passGroup 12 rfl) rfl ?_
      refine x_iload (x_d C_D_passGroup 13 rfl) rfl ?_
      refine x_iadd (x_d C_D_passGroup 14 rfl) ⟨by omega, by omega⟩ ?_
      refine x_baload (f := A 2) (x_d C_D_passGroup 15 rfl) rfl (by omega) (by omega) ?_
      refine x_bipush (x_d C_D_passGroup 16 rfl) (by omega) ?_
      refine x_isub (x_d C_D_passGroup 17 rfl) ⟨by omega, by omega⟩ ?_
      refine x_goto (tgt := 34) (x_d C_D_passGroup 18 rfl) rfl ?_
      refine x_istore (l1 := [(6, xI ((A 2 (i + k).toNat) - 33)), (0, xC 18), (1, xI (i)), (2, xI (z)), (3, xJ (s_v5 g (i - q 581).toNat sz k.toNat)), (5, xI (k))]) (x_d C_D_passGroup 20 rfl) (by decide) rfl ?_
      refine x_iload (x_d C_D_passGroup 21 rfl) rfl ?_
      refine x_if_lt (tgt := 48) (x_d C_D_passGroup 22 rfl) rfl (fun c5 => ?_) (fun c5 => ?_)
      · refine x_iconst (x_d C_D_passGroup 26 rfl) ⟨by omega, by omega⟩ ?_
        refine x_ireturn (x_d C_D_passGroup 27 rfl) ?_
        refine ⟨s, ov, f, rfl, Or.inr ⟨rfl, fun b2 e => ?_⟩⟩
        have hbad : s_ok5d g (i - q 581).toNat sz 5 = false := s_ok5_bad (k := k.toNat) (by omega) (by omega)
        unfold s_grp at e
        rw [if_pos (Or.inr (Or.inl hbad))] at e
        cases e
      · refine x_iload (x_d C_D_passGroup 23 rfl) rfl ?_
        refine x_bipush (x_d C_D_passGroup 24 rfl) (by omega) ?_
        refine x_icmp_le (tgt := 50) (x_d C_D_passGroup 25 rfl) rfl (fun c6 => ?_) (fun c6 => ?_)
        · refine x_ldc2 (n := 85) (x_d C_D_passGroup 28 rfl) lc_D_130 ⟨by omega, by omega⟩ ?_
          refine x_lload_n (x_d C_D_passGroup 29 rfl) rfl ?_
          refine x_lmul (x_d C_D_passGroup 30 rfl) ⟨by omega, by omega⟩ ?_
          refine x_iload (x_d C_D_passGroup 31 rfl) rfl ?_
          refine x_i2l (x_d C_D_passGroup 32 rfl) ?_
          refine x_ladd (x_d C_D_passGroup 33 rfl) ⟨by omega, by omega⟩ ?_
          refine x_lstore_n (l1 := [(3, xJ ((85 * (s_v5 g (i - q 581).toNat sz k.toNat)) + ((A 2 (i + k).toNat) - 33))), (6, xI ((A 2 (i + k).toNat) - 33)), (0, xC 18), (1, xI (i)), (2, xI (z)), (5, xI (k))]) (x_d C_D_passGroup 34 rfl) (by decide) rfl ?_
          refine x_iinc (l1 := [(5, xI (k + 1)), (3, xJ ((85 * (s_v5 g (i - q 581).toNat sz k.toNat)) + ((A 2 (i + k).toNat) - 33))), (6, xI ((A 2 (i + k).toNat) - 33)), (0, xC 18), (1, xI (i)), (2, xI (z))]) (x_d C_D_passGroup 35 rfl) rfl ⟨by omega, by omega⟩ (by decide) rfl ?_
          refine x_goto (tgt := 5) (x_d C_D_passGroup 36 rfl) rfl ?_
          refine x_locs [3, 4, 5, 1, 0] rfl ?_
          have e1 : (85 * (s_v5 g (i - q 581).toNat sz k.toNat)) + ((A 2 (i + k).toNat) - 33) = s_v5 g (i - q 581).toNat sz (k + 1).toNat := by rw [hks]; show _ = 85 * s_v5 g (i - q 581).toNat sz k.toNat + s_d5 g (i - q 581).toNat sz k.toNat; omega
          rw [e1]
          refine ih (k + 1) (by omega) ?_
          rw [hks]
          show (s_ok5d g (i - q 581).toNat sz k.toNat && _) = true
          rw [hok5, Bool.true_and, decide_eq_true_eq]
          omega
        · refine x_iconst (x_d C_D_passGroup 26 rfl) ⟨by omega, by omega⟩ ?_
          refine x_ireturn (x_d C_D_passGroup 27 rfl) ?_
          refine ⟨s, ov, f, rfl, Or.inr ⟨rfl, fun b2 e => ?_⟩⟩
          have hbad : s_ok5d g (i - q 581).toNat sz 5 = false := s_ok5_bad (k := k.toNat) (by omega) (by omega)
          unfold s_grp at e
          rw [if_pos (Or.inr (Or.inl hbad))] at e
          cases e
theorem w_D_passGroup_84_19_2 (Z : xZ) (d : Nat) (q : Nat → Int) (r : Nat → Option Nat) (A : Nat → Nat → Int) (dy : xH) (g : Nat → Int) (n : Nat) (hd : 2 ≤ d) (i z v : Int) (hl : 0 ≤ q 611 ∧ q 611 ≤ 3000) (hn : 0 ≤ q 581 ∧ q 582 = q 581 + n ∧ q 582 ≤ 10248) (hg : ∀ k, k < n → A 2 ((q 581).toNat + k) = g k) (hz : z ≤ 5 ∧ 0 ≤ v ∧ v < 4294967296) : ∀ (m : Nat) (s ov : Int) (f : Nat → Int) (bs : List Int) (k : Int), (0 ≤ k ∧ k + m = z - 1) → pb (q 611) s ov f bs → xW Z d Y_D_passGroup 84 [(0, xC 18), (1, xI i), (2, xI z), (3, xJ v), (5, xI k)] [] (hF (x_up (x_up q 609 s) 610 ov) (x_up (x_up r 578 (some 19)) 580 (some 2)) (x_up A 20 f) ++ dy) (fun v0 h2 => ∃ s2 ov2 f2, h2 = hF (x_up (x_up q 609 s2) 610 ov2) (x_up (x_up r 578 (some 19)) 580 (some 2)) (x_up A 20 f2) ++ dy ∧ ((v0 = some (xI 1) ∧ ∃ b2, (some (bs ++ s_gb v m k.toNat)) = some b2 ∧ pb (q 611) s2 ov2 f2 b2) ∨ (v0 = some (xI 0) ∧ ∀ b2, (some (bs ++ s_gb v m k.toNat)) = some b2 → q 611 < b2.length))) := by
  intro m
  induction m with
  | zero =>
    intro s ov f bs k hk hp
    have hp0 := hp.1
    have hp1 := hp.2.1
    have hgi : ∀ u : Int, q 581 ≤ u → u < q 582 → A 2 u.toNat = g (u - q 581).toNat := fun u h1 h2 => by rw [← hg _ (by omega)]; congr 1; omega
    refine xW_ok (fun _ _ hok => ?_)
    have hbB : ∀ j, -128 ≤ A 2 j ∧ A 2 j ≤ 127 := fun j => hok _ (List.mem_of_getElem? (i := 2) rfl) j
    refine x_iload (x_d C_D_passGroup 48 rfl) rfl ?_
    refine x_iload_n (x_d C_D_passGroup 49 rfl) rfl ?_
    refine x_iconst (x_d C_D_passGroup 50 rfl) ⟨by omega, by omega⟩ ?_
    refine x_isub (x_d C_D_passGroup 51 rfl) ⟨by omega, by omega⟩ ?_
    refine x_icmp_ge (tgt := 116) (x_d C_D_passGroup 52 rfl) rfl (fun _ => ?_) (fun q => absurd q (by omega))
    refine x_iconst (x_d C_D_passGroup 66 rfl) ⟨by omega, by omega⟩ ?_
    refine x_ireturn (x_d C_D_passGroup 67 rfl) ?_
    exact ⟨s, ov, f, rfl, Or.inl ⟨rfl, bs ++ [], rfl, pb_nil hp⟩⟩
  | succ m ih =>
    intro s ov f bs k hk hp
    have hp0 := hp.1
    have hp1 := hp.2.1
    have hgi : ∀ u : Int, q 581 ≤ u → u < q 582 → A 2 u.toNat = g (u - q 581).toNat := fun u h1 h2 => by rw [← hg _ (by omega)]; congr 1; omega
    refine xW_ok (fun _ _ hok => ?_)
    have hbB : ∀ j, -128 ≤ A 2 j ∧ A 2 j ≤ 127 := fun j => hok _ (List.mem_of_getElem? (i := 2) rfl) j
    refine x_iload (x_d C_D_passGroup 48 rfl) rfl ?_
    refine x_iload_n (x_d C_D_passGroup 49 rfl) rfl ?_
    refine x_iconst (x_d C_D_passGroup 50 rfl) ⟨by omega, by omega⟩ ?_
    refine x_isub (x_d C_D_passGroup 51 rfl) ⟨by omega, by omega⟩ ?_
    refine x_icmp_ge (tgt := 116) (x_d C_D_passGroup 52 rfl) rfl (fun q => absurd q (by omega)) (fun _ => ?_)
    refine x_aload_n (x_d C_D_passGroup 53 rfl) rfl ?_
    refine x_getfield (v := xC 19) (x_d C_D_passGroup 54 rfl) f_D_14 rfl rfl ?_
    refine x_lload_n (x_d C_D_passGroup 55 rfl) rfl ?_
    refine x_bipush (x_d C_D_passGroup 56 rfl) (by omega) ?_
    refine x_bipush (x_d C_D_passGroup 57 rfl) (by omega) ?_
    refine x_iload (x_d C_D_passGroup 58 rfl) rfl ?_
    refine x_imul (x_d C_D_passGroup 59 rfl) ⟨by omega, by omega⟩ ?_
    refine x_isub (x_d C_D_passGroup 60 rfl) ⟨by omega, by omega⟩ ?_
    refine x_lshr (k := (24 - (8 * k) : Int).toNat) (x_d C_D_passGroup 61 rfl) (by omega) (by omega) (by omega) (by omega) ?_
    refine x_l2iW (z := (v / 2 ^ (24 - (8 * k) : Int).toNat).bmod 4294967296) (x_d C_D_passGroup 62 rfl) (s_bm32 _) Int.bmod_emod ?_
    refine x_invokevirtual (st := []) (av := [xI ((v / 2 ^ (24 - (8 * k) : Int).toNat).bmod 4294967296)]) (x_d C_D_passGroup 63 rfl) k_D_110 m_Pa_add v_Pa_add cl_Pa rfl rfl (Nat.le_of_ble_eq_true rfl) (by omega) rfl (c_Pb_add_19 Z (d - 1) q (x_up (x_up r 578 (some 19)) 580 (some 2)) A dy s ov f bs ((v / 2 ^ (24 - (8 * k) : Int).toNat).bmod 4294967296) hl hp) ?_
    rintro _ _ ⟨rfl, s2, ov2, f2, rfl, hp2⟩
    have hp02 := hp2.1
    have hp12 := hp2.2.1
    refine x_iinc (l1 := [(5, xI (k + 1)), (0, xC 18), (1, xI (i)), (2, xI (z)), (3, xJ (v))]) (x_d C_D_passGroup 64 rfl) rfl ⟨by omega, by omega⟩ (by decide) rfl ?_
    refine x_goto (tgt := 84) (x_d C_D_passGroup 65 rfl) rfl ?_
    refine x_locs [1, 2, 3, 4, 0] rfl ?_
    refine xW_post ?_ (ih s2 ov2 f2 _ (k + 1) (by omega) hp2)
    rintro v0 h2 ⟨s9, ov9, f9, g2, g3⟩
    refine ⟨s9, ov9, f9, g2, ?_⟩
    rw [List.append_assoc, s_by_bm, show (24 - 8 * k).toNat = 24 - 8 * k.toNat by omega, show (k + 1).toNat = k.toNat + 1 by omega] at g3
    exact g3
theorem c_D_passGroup_19_2 (Z : xZ) (d : Nat) (q : Nat → Int) (r : Nat → Option Nat) (A : Nat → Nat → Int) (dy : xH) (g : Nat → Int) (n : Nat) (hd : 2 ≤ d) (s ov : Int) (f : Nat → Int) (bs : List Int) (i z : Int) (sz : Nat) (hl : 0 ≤ q 611 ∧ q 611 ≤ 3000) (hn : 0 ≤ q 581 ∧ q 582 = q 581 + n ∧ q 582 ≤ 10248) (hg : ∀ k, k < n → A 2 ((q 581).toNat + k) = g k) (hi : q 581 ≤ i ∧ z = sz ∧ 1 ≤ z ∧ z ≤ 5 ∧ i + z ≤ q 582) (hp : pb (q 611) s ov f bs) : xMet Z d Y_D_passGroup [xC 18, xI i, xI z] (hF (x_up (x_up q 609 s) 610 ov) (x_up (x_up r 578 (some 19)) 580 (some 2)) (x_up A 20 f) ++ dy) (fun v0 h2 => ∃ s2 ov2 f2, h2 = hF (x_up (x_up q 609 s2) 610 ov2) (x_up (x_up r 578 (some 19)) 580 (some 2)) (x_up A 20 f2) ++ dy ∧ ((v0 = some (xI 1) ∧ ∃ b2, (s_grp g (i - q 581).toNat sz).map (fun x => bs ++ x) = some b2 ∧ pb (q 611) s2 ov2 f2 b2) ∨ (v0 = some (xI 0) ∧ ∀ b2, (s_grp g (i - q 581).toNat sz).map (fun x => bs ++ x) = some b2 → q 611 < b2.length))) := by
  refine xMet_of (by decide) (Nat.le_of_ble_eq_true rfl) (fun v0 h2 hq => by obtain ⟨_, _, _, _, ⟨e, _⟩ | ⟨e, _⟩⟩ := hq <;> rw [e]; exact Or.inr rfl; exact Or.inl rfl) ?_
  have hp0 := hp.1
  have hp1 := hp.2.1
  have hgi : ∀ u : Int, q 581 ≤ u → u < q 582 → A 2 u.toNat = g (u - q 581).toNat := fun u h1 h2 => by rw [← hg _ (by omega)]; congr 1; omega
  refine xW_ok (fun _ _ hok => ?_)
  have hbB : ∀ j, -128 ≤ A 2 j ∧ A 2 j ≤ 127 := fun j => hok _ (List.mem_of_getElem? (i := 2) rfl) j
  refine x_lconst0 (x_d C_D_passGroup 0 rfl) ?_
  refine x_lstore_n (l1 := [(3, xJ (0)), (0, xC 18), (1, xI (i)), (2, xI (z))]) (x_d C_D_passGroup 1 rfl) (by decide) rfl ?_
  refine x_iconst (x_d C_D_passGroup 2 rfl) ⟨by omega, by omega⟩ ?_
  refine x_istore (l1 := [(5, xI (0)), (3, xJ (0)), (0, xC 18), (1, xI (i)), (2, xI (z))]) (x_d C_D_passGroup 3 rfl) (by decide) rfl ?_
  refine x_locs [2, 3, 4, 1, 0] rfl ?_
  refine w_D_passGroup_5_19_2 Z d q r A dy g n hd s ov f bs i z sz hl hn hg hi (fun hok5 => ?_) 5 0 (by omega) rfl
  have hv5 := s_v5_in hok5
  refine x_iload_n (x_d C_D_passGroup 37 rfl) rfl ?_
  refine x_iconst (x_d C_D_passGroup 38 rfl) ⟨by omega, by omega⟩ ?_
  refine x_icmp_lt (tgt := 79) (x_d C_D_passGroup 39 rfl) rfl (fun c101 => ?_) (fun c101 => ?_)
  · refine x_iconst (x_d C_D_passGroup 44 rfl) ⟨by omega, by omega⟩ ?_
    refine x_ireturn (x_d C_D_passGroup 45 rfl) ?_
    refine ⟨s, ov, f, rfl, Or.inr ⟨rfl, fun b2 e => ?_⟩⟩
    unfold s_grp at e
    unfold x_lc at *
    rw [if_pos (by first | exact Or.inl (by omega) | exact Or.inr (Or.inr (by (repeat' split at *) <;> omega)))] at e
    cases e
  · refine x_lload_n (x_d C_D_passGroup 40 rfl) rfl ?_
    refine x_ldc2 (n := 4294967296) (x_d C_D_passGroup 41 rfl) lc_D_132 ⟨by omega, by omega⟩ ?_
    refine x_lcmp (x_d C_D_passGroup 42 rfl) ?_
    refine x_if_lt (tgt := 81) (x_d C_D_passGroup 43 rfl) rfl (fun c102 => ?_) (fun c102 => ?_)
    · refine x_iconst (x_d C_D_passGroup 46 rfl) ⟨by omega, by omega⟩ ?_
      refine x_istore (l1 := [(5, xI (0)), (0, xC 18), (1, xI (i)), (2, xI (z)), (3, xJ (s_v5 g (i - q 581).toNat sz 5))]) (x_d C_D_passGroup 47 rfl) (by decide) rfl ?_
      have hlt : s_v5 g (i - q 581).toNat sz 5 < 4294967296 := by unfold x_lc at *; (repeat' split at *) <;> omega
      refine x_locs [1, 2, 3, 4, 0] rfl ?_
      have := w_D_passGroup_84_19_2 Z d q r A dy g n hd i z (s_v5 g (i - q 581).toNat sz 5) hl hn hg ⟨by omega, hv5.1, hlt⟩ (sz - 1) s ov f bs 0 (by omega) hp
      unfold s_grp
      rw [if_neg (by rintro (h | h | h); omega; rw [hok5] at h; cases h; omega)]
      exact this
    · refine x_iconst (x_d C_D_passGroup 44 rfl) ⟨by omega, by omega⟩ ?_
      refine x_ireturn (x_d C_D_passGroup 45 rfl) ?_
      refine ⟨s, ov, f, rfl, Or.inr ⟨rfl, fun b2 e => ?_⟩⟩
      unfold s_grp at e
      unfold x_lc at *
      rw [if_pos (by first | exact Or.inl (by omega) | exact Or.inr (Or.inr (by (repeat' split at *) <;> omega)))] at e
      cases e
theorem w_D_passRuns_118_19_22 (Z : xZ) (d : Nat) (q : Nat → Int) (r : Nat → Option Nat) (A : Nat → Nat → Int) (dy : xH) (hd : 1 ≤ d) (i k tk x : Int) (hl : 0 ≤ q 611 ∧ q 611 ≤ 3000) (hi : 0 ≤ i ∧ i + 1 < 3000) (hx : A 22 (i + 1).toNat = x) (Q : Option xV → xH → Prop) (hx2 : -128 ≤ x ∧ x ≤ 127) : ∀ (m : Nat) (s ov : Int) (f : Nat → Int) (bs : List Int) (t : Int), t = m ∧ m ≤ 300 → pb (q 611) s ov f bs → (∀ (s2 ov2 : Int) (f2 : Nat → Int), pb (q 611) s2 ov2 f2 (bs ++ List.replicate m x) → xW Z d Y_D_passRuns 144 [(0, xC 18), (1, xI i), (2, xI k), (3, xI tk), (4, xI 0)] [] (hF (x_up (x_up q 609 s2) 610 ov2) (x_up (x_up r 578 (some 19)) 580 (some 22)) (x_up A 20 f2) ++ dy) Q) → xW Z d Y_D_passRuns 118 [(0, xC 18), (1, xI i), (2, xI k), (3, xI tk), (4, xI t)] [] (hF (x_up (x_up q 609 s) 610 ov) (x_up (x_up r 578 (some 19)) 580 (some 22)) (x_up A 20 f) ++ dy) Q := by
  intro m
  induction m with
  | zero =>
    intro s ov f bs t ht hp kk
    obtain rfl : t = 0 := by omega
    refine x_iload (x_d C_D_passRuns 67 rfl) rfl ?_
    refine x_if_le (tgt := 144) (x_d C_D_passRuns 68 rfl) rfl (fun _ => ?_) (fun q => absurd q (by omega))
    exact kk s ov f (pb_nil hp)
  | succ m ih =>
    intro s ov f bs t ht hp kk
    have hp0 := hp.1
    have hp1 := hp.2.1
    refine x_iload (x_d C_D_passRuns 67 rfl) rfl ?_
    refine x_if_le (tgt := 144) (x_d C_D_passRuns 68 rfl) rfl (fun q => absurd q (by omega)) (fun _ => ?_)
    refine x_aload_n (x_d C_D_passRuns 69 rfl) rfl ?_
    refine x_getfield (v := xC 19) (x_d C_D_passRuns 70 rfl) f_D_14 rfl rfl ?_
    refine x_aload_n (x_d C_D_passRuns 71 rfl) rfl ?_
    refine x_getfield (v := xC 22) (x_d C_D_passRuns 72 rfl) f_D_37 rfl rfl ?_
    refine x_iload_n (x_d C_D_passRuns 73 rfl) rfl ?_
    refine x_iconst (x_d C_D_passRuns 74 rfl) ⟨by omega, by omega⟩ ?_
    refine x_iadd (x_d C_D_passRuns 75 rfl) ⟨by omega, by omega⟩ ?_
    refine x_baload (f := A 22) (x_d C_D_passRuns 76 rfl) rfl (by omega) (by omega) ?_
    refine x_invokevirtual (st := []) (av := [xI (A 22 (i + 1).toNat)]) (x_d C_D_passRuns 77 rfl) k_D_110 m_Pa_add v_Pa_add cl_Pa rfl rfl (Nat.le_of_ble_eq_true rfl) (by omega) rfl (c_Pb_add_19 Z (d - 1) q (x_up (x_up r 578 (some 19)) 580 (some 22)) A dy s ov f bs (A 22 (i + 1).toNat) hl hp) ?_
    rintro _ _ ⟨rfl, s2, ov2, f2, rfl, hp2⟩
    have hp02 := hp2.1
    have hp12 := hp2.2.1
    refine x_iinc (l1 := [(4, xI (t + (-1))), (0, xC 18), (1, xI (i)), (2, xI (k)), (3, xI (tk))]) (x_d C_D_passRuns 78 rfl) rfl ⟨by omega, by omega⟩ (by decide) rfl ?_
    refine x_goto (tgt := 118) (x_d C_D_passRuns 79 rfl) rfl ?_
    refine x_locs [1, 2, 3, 4, 0] rfl ?_
    refine ih s2 ov2 f2 _ (t + (-1)) (by omega) hp2 (fun s2 ov2 f2 h2 => kk s2 ov2 f2 ?_)
    rw [List.append_assoc, hx, x_by_id hx2] at h2
    exact h2
theorem w_D_passRuns_5_19_22 (Z : xZ) (d : Nat) (q : Nat → Int) (r : Nat → Option Nat) (A : Nat → Nat → Int) (dy : xH) (g : Nat → Int) (n : Nat) (hd : 2 ≤ d) (hl : 0 ≤ q 611 ∧ q 611 ≤ 3000) (hn : 0 ≤ q 581 ∧ q 582 = q 581 + n ∧ q 582 ≤ 3000) (hg : ∀ k, k < n → A 22 ((q 581).toNat + k) = g k) : ∀ (m : Nat) (s ov : Int) (f : Nat → Int) (bs : List Int) (i : Int), (q 581 ≤ i ∧ i ≤ q 582 ∧ q 582 < i + m) → pb (q 611) s ov f bs → xW Z d Y_D_passRuns 5 [(0, xC 18), (1, xI i)] [] (hF (x_up (x_up q 609 s) 610 ov) (x_up (x_up r 578 (some 19)) 580 (some 22)) (x_up A 20 f) ++ dy) (fun v0 h2 => ∃ s2 ov2 f2, h2 = hF (x_up (x_up q 609 s2) 610 ov2) (x_up (x_up r 578 (some 19)) 580 (some 22)) (x_up A 20 f2) ++ dy ∧ ((v0 = some (xI 1) ∧ ∃ b2, (s_runs g n m (i - q 581).toNat).map (fun x => bs ++ x) = some b2 ∧ pb (q 611) s2 ov2 f2 b2) ∨ (v0 = some (xI 0) ∧ ∀ b2, (s_runs g n m (i - q 581).toNat).map (fun x => bs ++ x) = some b2 → q 611 < b2.length))) := by
  intro m
  induction m with
  | zero =>
    intro s ov f bs i hi hp
    have hp0 := hp.1
    have hp1 := hp.2.1
    have hgi : ∀ u : Int, q 581 ≤ u → u < q 582 → A 22 u.toNat = g (u - q 581).toNat := fun u h1 h2 => by rw [← hg _ (by omega)]; congr 1; omega
    refine xW_ok (fun _ _ hok => ?_)
    have hbB : ∀ j, -128 ≤ A 22 j ∧ A 22 j ≤ 127 := fun j => hok _ (List.mem_of_getElem? (i := 22) rfl) j
    omega
  | succ m ih =>
    intro s ov f bs i hi hp
    have hp0 := hp.1
    have hp1 := hp.2.1
    have hgi : ∀ u : Int, q 581 ≤ u → u < q 582 → A 22 u.toNat = g (u - q 581).toNat := fun u h1 h2 => by rw [← hg _ (by omega)]; congr 1; omega
    refine xW_ok (fun _ _ hok => ?_)
    have hbB : ∀ j, -128 ≤ A 22 j ∧ A 22 j ≤ 127 := fun j => hok _ (List.mem_of_getElem? (i := 22) rfl) j
    have hk0 : i < q 582 → g (i - q 581).toNat = A 22 i.toNat := fun h => (hgi i (by omega) h).symm
    have hk1 : i + 1 < q 582 → g ((i - q 581).toNat + 1) = A 22 (i + 1).toNat := fun h => by rw [hgi (i + 1) (by omega) h]; congr 1; omega
    refine x_iload_n (x_d C_D_passRuns 3 rfl) rfl ?_
    refine x_aload_n (x_d C_D_passRuns 4 rfl) rfl ?_
    refine x_getfield (v := xI (q 582)) (x_d C_D_passRuns 5 rfl) f_D_53 rfl rfl ?_
    refine x_icmp_ge (tgt := 153) (x_d C_D_passRuns 6 rfl) rfl (fun c1 => ?_) (fun c1 => ?_)
    · refine x_iconst (x_d C_D_passRuns 87 rfl) ⟨by omega, by omega⟩ ?_
      refine x_ireturn (x_d C_D_passRuns 88 rfl) ?_
      refine ⟨s, ov, f, rfl, Or.inr ⟨rfl, fun b2 e => ?_⟩⟩
      rcases pb_ov hp with ⟨h1, h2⟩ | ⟨h1, h2⟩
      · rw [s_runs_s] at e
        first
        | (rw [if_pos (by omega)] at e; cases e; done)
        | (rw [if_neg (by omega), if_pos (by omega), if_neg (by omega)] at e; cases e; done)
        | (rw [if_neg (by omega), if_neg (by omega), if_pos (by omega), if_pos (by omega)] at e; cases e; done)
        | (rw [if_neg (by omega), if_neg (by omega), if_neg (by omega), if_pos (by omega)] at e; cases e; done)
        | omega
      · exact s_long e h2
    · refine x_aload_n (x_d C_D_passRuns 7 rfl) rfl ?_
      refine x_getfield (v := xC 19) (x_d C_D_passRuns 8 rfl) f_D_14 rfl rfl ?_
      refine x_getfield (v := xI (ov)) (x_d C_D_passRuns 9 rfl) f_D_79 rfl rfl ?_
      refine x_if_ne (tgt := 153) (x_d C_D_passRuns 10 rfl) rfl (fun c2 => ?_) (fun c2 => ?_)
      · refine x_iconst (x_d C_D_passRuns 87 rfl) ⟨by omega, by omega⟩ ?_
        refine x_ireturn (x_d C_D_passRuns 88 rfl) ?_
        refine ⟨s, ov, f, rfl, Or.inr ⟨rfl, fun b2 e => ?_⟩⟩
        rcases pb_ov hp with ⟨h1, h2⟩ | ⟨h1, h2⟩
        · rw [s_runs_s] at e
          first
          | (rw [if_pos (by omega)] at e; cases e; done)
          | (rw [if_neg (by omega), if_pos (by omega), if_neg (by omega)] at e; cases e; done)
          | (rw [if_neg (by omega), if_neg (by omega), if_pos (by omega), if_pos (by omega)] at e; cases e; done)
          | (rw [if_neg (by omega), if_neg (by omega), if_neg (by omega), if_pos (by omega)] at e; cases e; done)
          | omega
        · exact s_long e h2
      · refine x_aload_n (x_d C_D_passRuns 11 rfl) rfl ?_
        refine x_getfield (v := xC 22) (x_d C_D_passRuns 12 rfl) f_D_37 rfl rfl ?_
        refine x_iload_n (x_d C_D_passRuns 13 rfl) rfl ?_
        refine x_baload (f := A 22) (x_d C_D_passRuns 14 rfl) rfl (by omega) (by omega) ?_
        refine x_sipush (x_d C_D_passRuns 15 rfl) (by omega) ?_
        refine x_iand255 (x_d C_D_passRuns 16 rfl) ?_
        refine x_istore_n (l1 := [(2, xI ((A 22 (i).toNat) % 256)), (0, xC 18), (1, xI (i))]) (x_d C_D_passRuns 17 rfl) (by decide) rfl ?_
        refine x_iload_n (x_d C_D_passRuns 18 rfl) rfl ?_
        refine x_sipush (x_d C_D_passRuns 19 rfl) (by omega) ?_
        refine x_icmp_ge (tgt := 47) (x_d C_D_passRuns 20 rfl) rfl (fun c3 => ?_) (fun c3 => ?_)
        · refine x_iconst (x_d C_D_passRuns 25 rfl) ⟨by omega, by omega⟩ ?_
          refine x_istore_n (l1 := [(3, xI (1)), (2, xI ((A 22 (i).toNat) % 256)), (0, xC 18), (1, xI (i))]) (x_d C_D_passRuns 26 rfl) (by decide) rfl ?_
          refine x_iload_n (x_d C_D_passRuns 27 rfl) rfl ?_
          refine x_sipush (x_d C_D_passRuns 28 rfl) (by omega) ?_
          refine x_icmp_ne (tgt := 72) (x_d C_D_passRuns 29 rfl) rfl (fun c4 => ?_) (fun c4 => ?_)
          · refine x_iload_n (x_d C_D_passRuns 40 rfl) rfl ?_
            refine x_aload_n (x_d C_D_passRuns 41 rfl) rfl ?_
            refine x_getfield (v := xI (q 582)) (x_d C_D_passRuns 42 rfl) f_D_53 rfl rfl ?_
            refine x_iload_n (x_d C_D_passRuns 43 rfl) rfl ?_
            refine x_isub (x_d C_D_passRuns 44 rfl) ⟨by omega, by omega⟩ ?_
            refine x_iconst (x_d C_D_passRuns 45 rfl) ⟨by omega, by omega⟩ ?_
            refine x_isub (x_d C_D_passRuns 46 rfl) ⟨by omega, by omega⟩ ?_
            refine x_icmp_le (tgt := 86) (x_d C_D_passRuns 47 rfl) rfl (fun c5 => ?_) (fun c5 => ?_)
            · refine x_iload_n (x_d C_D_passRuns 50 rfl) rfl ?_
              refine x_sipush (x_d C_D_passRuns 51 rfl) (by omega) ?_
              refine x_icmp_ge (tgt := 111) (x_d C_D_passRuns 52 rfl) rfl (fun _ => ?_) (fun q => absurd q (by omega))
              refine x_sipush (x_d C_D_passRuns 63 rfl) (by omega) ?_
              refine x_iload_n (x_d C_D_passRuns 64 rfl) rfl ?_
              refine x_isub (x_d C_D_passRuns 65 rfl) ⟨by omega, by omega⟩ ?_
              refine x_istore (l1 := [(4, xI (257 - ((A 22 (i).toNat) % 256))), (3, xI (1)), (2, xI ((A 22 (i).toNat) % 256)), (0, xC 18), (1, xI (i))]) (x_d C_D_passRuns 66 rfl) (by decide) rfl ?_
              refine x_locs [3, 4, 2, 1, 0] rfl ?_
              refine w_D_passRuns_118_19_22 Z d q r A dy (by omega) i _ _ _ hl (by omega) rfl _ (hbB _) (257 - A 22 i.toNat % 256).toNat s ov f bs _ (by omega) hp (fun s8 ov8 f8 h8 => ?_)
              refine x_iload_n (x_d C_D_passRuns 80 rfl) rfl ?_
              refine x_iload_n (x_d C_D_passRuns 81 rfl) rfl ?_
              refine x_iconst (x_d C_D_passRuns 82 rfl) ⟨by omega, by omega⟩ ?_
              refine x_iadd (x_d C_D_passRuns 83 rfl) ⟨by omega, by omega⟩ ?_
              refine x_iadd (x_d C_D_passRuns 84 rfl) ⟨by omega, by omega⟩ ?_
              refine x_istore_n (l1 := [(1, xI (i + (1 + 1))), (0, xC 18), (2, xI ((A 22 (i).toNat) % 256)), (3, xI (1)), (4, xI (0))]) (x_d C_D_passRuns 85 rfl) (by decide) rfl ?_
              refine x_goto (tgt := 5) (x_d C_D_passRuns 86 rfl) rfl ?_
              refine x_locs [1, 0] rfl ?_
              refine xW_post ?_ (ih s8 ov8 f8 _ (i + (1 + 1)) (by omega) h8)
              rintro v0 h2 ⟨s9, ov9, f9, g2, g3⟩
              refine ⟨s9, ov9, f9, g2, ?_⟩
              rw [s_runs_s, if_neg (by omega), if_neg (by omega), if_neg (by omega), if_neg (by omega), s_map_app, hk0 (by omega), hk1 (by omega)]
              rw [show (i + (1 + 1) - q 581).toNat = (i - q 581).toNat + 2 by omega] at g3
              exact g3
            · refine x_iconst (x_d C_D_passRuns 48 rfl) ⟨by omega, by omega⟩ ?_
              refine x_ireturn (x_d C_D_passRuns 49 rfl) ?_
              refine ⟨s, ov, f, rfl, Or.inr ⟨rfl, fun b2 e => ?_⟩⟩
              rcases pb_ov hp with ⟨h1, h2⟩ | ⟨h1, h2⟩
              · rw [s_runs_s] at e
                first
                | (rw [if_pos (by omega)] at e; cases e; done)
                | (rw [if_neg (by omega), if_pos (by omega), if_neg (by omega)] at e; cases e; done)
                | (rw [if_neg (by omega), if_neg (by omega), if_pos (by omega), if_pos (by omega)] at e; cases e; done)
                | (rw [if_neg (by omega), if_neg (by omega), if_neg (by omega), if_pos (by omega)] at e; cases e; done)
                | omega
              · exact s_long e h2
          · refine x_iload_n (x_d C_D_passRuns 30 rfl) rfl ?_
            refine x_aload_n (x_d C_D_passRuns 31 rfl) rfl ?_
            refine x_getfield (v := xI (q 582)) (x_d C_D_passRuns 32 rfl) f_D_53 rfl rfl ?_
            refine x_iconst (x_d C_D_passRuns 33 rfl) ⟨by omega, by omega⟩ ?_
            refine x_isub (x_d C_D_passRuns 34 rfl) ⟨by omega, by omega⟩ ?_
            refine x_icmp_ne (tgt := 70) (x_d C_D_passRuns 35 rfl) rfl (fun c7 => ?_) (fun c7 => ?_)
            · refine x_iconst (x_d C_D_passRuns 38 rfl) ⟨by omega, by omega⟩ ?_
              refine x_ireturn (x_d C_D_passRuns 39 rfl) ?_
              refine ⟨s, ov, f, rfl, Or.inr ⟨rfl, fun b2 e => ?_⟩⟩
              rcases pb_ov hp with ⟨h1, h2⟩ | ⟨h1, h2⟩
              · rw [s_runs_s] at e
                first
                | (rw [if_pos (by omega)] at e; cases e; done)
                | (rw [if_neg (by omega), if_pos (by omega), if_neg (by omega)] at e; cases e; done)
                | (rw [if_neg (by omega), if_neg (by omega), if_pos (by omega), if_pos (by omega)] at e; cases e; done)
                | (rw [if_neg (by omega), if_neg (by omega), if_neg (by omega), if_pos (by omega)] at e; cases e; done)
                | omega
              · exact s_long e h2
            · refine x_iconst (x_d C_D_passRuns 36 rfl) ⟨by omega, by omega⟩ ?_
              refine x_goto (tgt := 71) (x_d C_D_passRuns 37 rfl) rfl ?_
              refine x_ireturn (x_d C_D_passRuns 39 rfl) ?_
              exact ⟨s, ov, f, rfl, Or.inl ⟨rfl, bs ++ [], by rw [s_runs_s, if_neg (by omega), if_pos (by omega), if_pos (by omega)]; rfl, pb_nil hp⟩⟩
        · refine x_iload_n (x_d C_D_passRuns 21 rfl) rfl ?_
          refine x_iconst (x_d C_D_passRuns 22 rfl) ⟨by omega, by omega⟩ ?_
          refine x_iadd (x_d C_D_passRuns 23 rfl) ⟨by omega, by omega⟩ ?_
          refine x_goto (tgt := 48) (x_d C_D_passRuns 24 rfl) rfl ?_
          refine x_istore_n (l1 := [(3, xI (((A 22 (i).toNat) % 256) + 1)), (2, xI ((A 22 (i).toNat) % 256)), (0, xC 18), (1, xI (i))]) (x_d C_D_passRuns 26 rfl) (by decide) rfl ?_
          refine x_iload_n (x_d C_D_passRuns 27 rfl) rfl ?_
          refine x_sipush (x_d C_D_passRuns 28 rfl) (by omega) ?_
          refine x_icmp_ne (tgt := 72) (x_d C_D_passRuns 29 rfl) rfl (fun c8 => ?_) (fun c8 => ?_)
          · refine x_iload_n (x_d C_D_passRuns 40 rfl) rfl ?_
            refine x_aload_n (x_d C_D_passRuns 41 rfl) rfl ?_
            refine x_getfield (v := xI (q 582)) (x_d C_D_passRuns 42 rfl) f_D_53 rfl rfl ?_
            refine x_iload_n (x_d C_D_passRuns 43 rfl) rfl ?_
            refine x_isub (x_d C_D_passRuns 44 rfl) ⟨by omega, by omega⟩ ?_
            refine x_iconst (x_d C_D_passRuns 45 rfl) ⟨by omega, by omega⟩ ?_
            refine x_isub (x_d C_D_passRuns 46 rfl) ⟨by omega, by omega⟩ ?_
            refine x_icmp_le (tgt := 86) (x_d C_D_passRuns 47 rfl) rfl (fun c9 => ?_) (fun c9 => ?_)
            · refine x_iload_n (x_d C_D_passRuns 50 rfl) rfl ?_
              refine x_sipush (x_d C_D_passRuns 51 rfl) (by omega) ?_
              refine x_icmp_ge (tgt := 111) (x_d C_D_passRuns 52 rfl) rfl (fun q => absurd q (by omega)) (fun _ => ?_)
              refine x_aload_n (x_d C_D_passRuns 53 rfl) rfl ?_
              refine x_getfield (v := xC 19) (x_d C_D_passRuns 54 rfl) f_D_14 rfl rfl ?_
              refine x_aload_n (x_d C_D_passRuns 55 rfl) rfl ?_
              refine x_getfield (v := xC 22) (x_d C_D_passRuns 56 rfl) f_D_37 rfl rfl ?_
              refine x_iload_n (x_d C_D_passRuns 57 rfl) rfl ?_
              refine x_iconst (x_d C_D_passRuns 58 rfl) ⟨by omega, by omega⟩ ?_
              refine x_iadd (x_d C_D_passRuns 59 rfl) ⟨by omega, by omega⟩ ?_
              refine x_iload_n (x_d C_D_passRuns 60 rfl) rfl ?_
              refine x_invokevirtual (st := []) (av := [xC 22, xI (i + 1), xI (((A 22 (i).toNat) % 256) + 1)]) (x_d C_D_passRuns 61 rfl) k_D_113 m_Pa_addRow v_Pa_addRow cl_Pa rfl rfl (Nat.le_of_ble_eq_true rfl) (by omega) rfl (c_Pb_addRow_19_22 Z (d - 1) q (x_up (x_up r 578 (some 19)) 580 (some 22)) A dy s ov f bs (by omega) (i + 1) (((A 22 (i).toNat) % 256) + 1) hl hp (by omega)) ?_
              rintro _ _ ⟨rfl, s11, ov11, f11, rfl, hp11⟩
              have hp011 := hp11.1
              have hp111 := hp11.2.1
              refine x_goto (tgt := 144) (x_d C_D_passRuns 62 rfl) rfl ?_
              refine x_iload_n (x_d C_D_passRuns 80 rfl) rfl ?_
              refine x_iload_n (x_d C_D_passRuns 81 rfl) rfl ?_
              refine x_iconst (x_d C_D_passRuns 82 rfl) ⟨by omega, by omega⟩ ?_
              refine x_iadd (x_d C_D_passRuns 83 rfl) ⟨by omega, by omega⟩ ?_
              refine x_iadd (x_d C_D_passRuns 84 rfl) ⟨by omega, by omega⟩ ?_
              refine x_istore_n (l1 := [(1, xI (i + ((((A 22 (i).toNat) % 256) + 1) + 1))), (3, xI (((A 22 (i).toNat) % 256) + 1)), (2, xI ((A 22 (i).toNat) % 256)), (0, xC 18)]) (x_d C_D_passRuns 85 rfl) (by decide) rfl ?_
              refine x_goto (tgt := 5) (x_d C_D_passRuns 86 rfl) rfl ?_
              refine x_locs [3, 0] rfl ?_
              refine xW_post ?_ (ih s11 ov11 f11 _ (i + (A 22 i.toNat % 256 + 1 + 1)) (by omega) hp11)
              rintro v0 h2 ⟨s9, ov9, f9, g2, g3⟩
              refine ⟨s9, ov9, f9, g2, ?_⟩
              rw [s_runs_s, if_neg (by omega), if_neg (by omega), if_pos (by omega), if_neg (by omega), s_map_app]
              have e1 : s_sl (A 22) (i + 1).toNat (A 22 i.toNat % 256 + 1).toNat = s_sl g ((i - q 581).toNat + 1) (g (i - q 581).toNat % 256 + 1).toNat := by rw [hk0 (by omega)]; exact s_sl_eq _ _ _ (fun j hj => by have := hgi (i + 1 + j) (by omega) (by omega); rw [show (i + 1).toNat + j = (i + 1 + j).toNat by omega, this]; congr 1; omega)
              rw [e1, show (i + (A 22 i.toNat % 256 + 1 + 1) - q 581).toNat = (i - q 581).toNat + (g (i - q 581).toNat % 256).toNat + 2 by omega] at g3
              exact g3
            · refine x_iconst (x_d C_D_passRuns 48 rfl) ⟨by omega, by omega⟩ ?_
              refine x_ireturn (x_d C_D_passRuns 49 rfl) ?_
              refine ⟨s, ov, f, rfl, Or.inr ⟨rfl, fun b2 e => ?_⟩⟩
              rcases pb_ov hp with ⟨h1, h2⟩ | ⟨h1, h2⟩
              · rw [s_runs_s] at e
                first
                | (rw [if_pos (by omega)] at e; cases e; done)
                | (rw [if_neg (by omega), if_pos (by omega), if_neg (by omega)] at e; cases e; done)
                | (rw [if_neg (by omega), if_neg (by omega), if_pos (by omega), if_pos (by omega)] at e; cases e; done)
                | (rw [if_neg (by omega), if_neg (by omega), if_neg (by omega), if_pos (by omega)] at e; cases e; done)
                | omega
              · exact s_long e h2
          · refine x_iload_n (x_d C_D_passRuns 30 rfl) rfl ?_
            refine x_aload_n (x_d C_D_passRuns 31 rfl) rfl ?_
            refine x_getfield (v := xI (q 582)) (x_d C_D_passRuns 32 rfl) f_D_53 rfl rfl ?_
            refine x_iconst (x_d C_D_passRuns 33 rfl) ⟨by omega, by omega⟩ ?_
            refine x_isub (x_d C_D_passRuns 34 rfl) ⟨by omega, by omega⟩ ?_
            refine x_icmp_ne (tgt := 70) (x_d C_D_passRuns 35 rfl) rfl (fun c12 => ?_) (fun c12 => ?_)
            · refine x_iconst (x_d C_D_passRuns 38 rfl) ⟨by omega, by omega⟩ ?_
              refine x_ireturn (x_d C_D_passRuns 39 rfl) ?_
              refine ⟨s, ov, f, rfl, Or.inr ⟨rfl, fun b2 e => ?_⟩⟩
              rcases pb_ov hp with ⟨h1, h2⟩ | ⟨h1, h2⟩
              · rw [s_runs_s] at e
                first
                | (rw [if_pos (by omega)] at e; cases e; done)
                | (rw [if_neg (by omega), if_pos (by omega), if_neg (by omega)] at e; cases e; done)
                | (rw [if_neg (by omega), if_neg (by omega), if_pos (by omega), if_pos (by omega)] at e; cases e; done)
                | (rw [if_neg (by omega), if_neg (by omega), if_neg (by omega), if_pos (by omega)] at e; cases e; done)
                | omega
              · exact s_long e h2
            · refine x_iconst (x_d C_D_passRuns 36 rfl) ⟨by omega, by omega⟩ ?_
              refine x_goto (tgt := 71) (x_d C_D_passRuns 37 rfl) rfl ?_
              refine x_ireturn (x_d C_D_passRuns 39 rfl) ?_
              exact ⟨s, ov, f, rfl, Or.inl ⟨rfl, bs ++ [], by rw [s_runs_s, if_neg (by omega), if_pos (by omega), if_pos (by omega)]; rfl, pb_nil hp⟩⟩
theorem c_D_passRuns_19_22 (Z : xZ) (d : Nat) (q : Nat → Int) (r : Nat → Option Nat) (A : Nat → Nat → Int) (dy : xH) (g : Nat → Int) (n : Nat) (hd : 2 ≤ d) (s ov : Int) (f : Nat → Int) (bs : List Int) (hl : 0 ≤ q 611 ∧ q 611 ≤ 3000) (hn : 0 ≤ q 581 ∧ q 582 = q 581 + n ∧ q 582 ≤ 3000) (hg : ∀ k, k < n → A 22 ((q 581).toNat + k) = g k) (hp : pb (q 611) s ov f bs) : xMet Z d Y_D_passRuns [xC 18] (hF (x_up (x_up q 609 s) 610 ov) (x_up (x_up r 578 (some 19)) 580 (some 22)) (x_up A 20 f) ++ dy) (fun v0 h2 => ∃ s2 ov2 f2, h2 = hF (x_up (x_up q 609 s2) 610 ov2) (x_up (x_up r 578 (some 19)) 580 (some 22)) (x_up A 20 f2) ++ dy ∧ ((v0 = some (xI 1) ∧ ∃ b2, (s_frun g n).map (fun x => bs ++ x) = some b2 ∧ pb (q 611) s2 ov2 f2 b2) ∨ (v0 = some (xI 0) ∧ ∀ b2, (s_frun g n).map (fun x => bs ++ x) = some b2 → q 611 < b2.length))) := by
  refine xMet_of (by decide) (Nat.le_of_ble_eq_true rfl) (fun v0 h2 hq => by obtain ⟨_, _, _, _, ⟨e, _⟩ | ⟨e, _⟩⟩ := hq <;> rw [e]; exact Or.inr rfl; exact Or.inl rfl) ?_
  have hp0 := hp.1
  have hp1 := hp.2.1
  have hgi : ∀ u : Int, q 581 ≤ u → u < q 582 → A 22 u.toNat = g (u - q 581).toNat := fun u h1 h2 => by rw [← hg _ (by omega)]; congr 1; omega
  refine xW_ok (fun _ _ hok => ?_)
  have hbB : ∀ j, -128 ≤ A 22 j ∧ A 22 j ≤ 127 := fun j => hok _ (List.mem_of_getElem? (i := 22) rfl) j
  refine x_aload_n (x_d C_D_passRuns 0 rfl) rfl ?_
  refine x_getfield (v := xI (q 581)) (x_d C_D_passRuns 1 rfl) f_D_46 rfl rfl ?_
  refine x_istore_n (l1 := [(1, xI (q 581)), (0, xC 18)]) (x_d C_D_passRuns 2 rfl) (by decide) rfl ?_
  refine x_locs [1, 0] rfl ?_
  have := w_D_passRuns_5_19_22 Z d q r A dy g n hd hl hn hg (n + 1) s ov f bs (q 581) (by omega) hp
  rw [Int.sub_self] at this
  exact this
theorem c_D_passZeros_19_22 (Z : xZ) (d : Nat) (q : Nat → Int) (r : Nat → Option Nat) (A : Nat → Nat → Int) (dy : xH) (g : Nat → Int) (n : Nat) (hd : 2 ≤ d) (s ov : Int) (f : Nat → Int) (bs : List Int) (hl : 0 ≤ q 611 ∧ q 611 ≤ 3000) (hn : 0 ≤ q 581 ∧ q 582 = q 581 + n ∧ q 582 ≤ 3000) (hg : ∀ k, k < n → A 22 ((q 581).toNat + k) = g k) (hp : pb (q 611) s ov f bs) : xMet Z d Y_D_passZeros [xC 18] (hF (x_up (x_up q 609 s) 610 ov) (x_up (x_up r 578 (some 19)) 580 (some 22)) (x_up A 20 f) ++ dy) (fun v0 h2 => ∃ s2 ov2 f2, h2 = hF (x_up (x_up q 609 s2) 610 ov2) (x_up (x_up r 578 (some 19)) 580 (some 22)) (x_up A 20 f2) ++ dy ∧ ((v0 = some (xI 1) ∧ ∃ b2, (some (bs ++ [0, 0, 0, 0])) = some b2 ∧ pb (q 611) s2 ov2 f2 b2) ∨ (v0 = some (xI 0) ∧ ∀ b2, (some (bs ++ [0, 0, 0, 0])) = some b2 → q 611 < b2.length))) := by
  refine xMet_of (by decide) (Nat.le_of_ble_eq_true rfl) (fun v0 h2 hq => by obtain ⟨_, _, _, _, ⟨e, _⟩ | ⟨e, _⟩⟩ := hq <;> rw [e]; exact Or.inr rfl; exact Or.inl rfl) ?_
  have hp0 := hp.1
  have hp1 := hp.2.1
  have hgi : ∀ u : Int, q 581 ≤ u → u < q 582 → A 22 u.toNat = g (u - q 581).toNat := fun u h1 h2 => by rw [← hg _ (by omega)]; congr 1; omega
  refine xW_ok (fun _ _ hok => ?_)
  have hbB : ∀ j, -128 ≤ A 22 j ∧ A 22 j ≤ 127 := fun j => hok _ (List.mem_of_getElem? (i := 22) rfl) j
  refine x_iconst (x_d C_D_passZeros 0 rfl) ⟨by omega, by omega⟩ ?_
  refine x_istore_n (l1 := [(1, xI (0)), (0, xC 18)]) (x_d C_D_passZeros 1 rfl) (by decide) rfl ?_
  refine x_iload_n (x_d C_D_passZeros 2 rfl) rfl ?_
  refine x_iconst (x_d C_D_passZeros 3 rfl) ⟨by omega, by omega⟩ ?_
  refine x_icmp_ge (tgt := 21) (x_d C_D_passZeros 4 rfl) rfl (fun q => absurd q (by omega)) (fun _ => ?_)
  refine x_aload_n (x_d C_D_passZeros 5 rfl) rfl ?_
  refine x_getfield (v := xC 19) (x_d C_D_passZeros 6 rfl) f_D_14 rfl rfl ?_
  refine x_iconst (x_d C_D_passZeros 7 rfl) ⟨by omega, by omega⟩ ?_
  refine x_invokevirtual (st := []) (av := [xI (0)]) (x_d C_D_passZeros 8 rfl) k_D_110 m_Pa_add v_Pa_add cl_Pa rfl rfl (Nat.le_of_ble_eq_true rfl) (by omega) rfl (c_Pb_add_19 Z (d - 1) q (x_up (x_up r 578 (some 19)) 580 (some 22)) A dy s ov f bs 0 hl hp) ?_
  rintro _ _ ⟨rfl, s2, ov2, f2, rfl, hp2⟩
  have hp02 := hp2.1
  have hp12 := hp2.2.1
  refine x_iinc (l1 := [(1, xI (1)), (0, xC 18)]) (x_d C_D_passZeros 9 rfl) rfl ⟨by omega, by omega⟩ (by decide) rfl ?_
  refine x_goto (tgt := 2) (x_d C_D_passZeros 10 rfl) rfl ?_
  refine x_iload_n (x_d C_D_passZeros 2 rfl) rfl ?_
  refine x_iconst (x_d C_D_passZeros 3 rfl) ⟨by omega, by omega⟩ ?_
  refine x_icmp_ge (tgt := 21) (x_d C_D_passZeros 4 rfl) rfl (fun q => absurd q (by omega)) (fun _ => ?_)
  refine x_aload_n (x_d C_D_passZeros 5 rfl) rfl ?_
  refine x_getfield (v := xC 19) (x_d C_D_passZeros 6 rfl) f_D_14 rfl rfl ?_
  refine x_iconst (x_d C_D_passZeros 7 rfl) ⟨by omega, by omega⟩ ?_
  refine x_invokevirtual (st := []) (av := [xI (0)]) (x_d C_D_passZeros 8 rfl) k_D_110 m_Pa_add v_Pa_add cl_Pa rfl rfl (Nat.le_of_ble_eq_true rfl) (by omega) rfl (c_Pb_add_19 Z (d - 1) q (x_up (x_up r 578 (some 19)) 580 (some 22)) A dy s2 ov2 f2 (bs ++ ([x_by 0])) 0 hl hp2) ?_
  rintro _ _ ⟨rfl, s4, ov4, f4, rfl, hp4⟩
  have hp04 := hp4.1
  have hp14 := hp4.2.1
  refine x_iinc (l1 := [(1, xI (2)), (0, xC 18)]) (x_d C_D_passZeros 9 rfl) rfl ⟨by omega, by omega⟩ (by decide) rfl ?_
  refine x_goto (tgt := 2) (x_d C_D_passZeros 10 rfl) rfl ?_
  refine x_iload_n (x_d C_D_passZeros 2 rfl) rfl ?_
  refine x_iconst (x_d C_D_passZeros 3 rfl) ⟨by omega, by omega⟩ ?_
  refine x_icmp_ge (tgt := 21) (x_d C_D_passZeros 4 rfl) rfl (fun q => absurd q (by omega)) (fun _ => ?_)
  refine x_aload_n (x_d C_D_passZeros 5 rfl) rfl ?_
  refine x_getfield (v := xC 19) (x_d C_D_passZeros 6 rfl) f_D_14 rfl rfl ?_
  refine x_iconst (x_d C_D_passZeros 7 rfl) ⟨by omega, by omega⟩ ?_
  refine x_invokevirtual (st := []) (av := [xI (0)]) (x_d C_D_passZeros 8 rfl) k_D_110 m_Pa_add v_Pa_add cl_Pa rfl rfl (Nat.le_of_ble_eq_true rfl) (by omega) rfl (c_Pb_add_19 Z (d - 1) q (x_up (x_up r 578 (some 19)) 580 (some 22)) A dy s4 ov4 f4 (bs ++ ([x_by 0]) ++ ([x_by 0])) 0 hl hp4) ?_
  rintro _ _ ⟨rfl, s6, ov6, f6, rfl, hp6⟩
  have hp06 := hp6.1
  have hp16 := hp6.2.1
  refine x_iinc (l1 := [(1, xI (3)), (0, xC 18)]) (x_d C_D_passZeros 9 rfl) rfl ⟨by omega, by omega⟩ (by decide) rfl ?_
  refine x_goto (tgt := 2) (x_d C_D_passZeros 10 rfl) rfl ?_
  refine x_iload_n (x_d C_D_passZeros 2 rfl) rfl ?_
  refine x_iconst (x_d C_D_passZeros 3 rfl) ⟨by omega, by omega⟩ ?_
  refine x_icmp_ge (tgt := 21) (x_d C_D_passZeros 4 rfl) rfl (fun q => absurd q (by omega)) (fun _ => ?_)
  refine x_aload_n (x_d C_D_passZeros 5 rfl) rfl ?_
  refine x_getfield (v := xC 19) (x_d C_D_passZeros 6 rfl) f_D_14 rfl rfl ?_
  refine x_iconst (x_d C_D_passZeros 7 rfl) ⟨by omega, by omega⟩ ?_
  refine x_invokevirtual (st := []) (av := [xI (0)]) (x_d C_D_passZeros 8 rfl) k_D_110 m_Pa_add v_Pa_add cl_Pa rfl rfl (Nat.le_of_ble_eq_true rfl) (by omega) rfl (c_Pb_add_19 Z (d - 1) q (x_up (x_up r 578 (some 19)) 580 (some 22)) A dy s6 ov6 f6 (bs ++ ([x_by 0]) ++ ([x_by 0]) ++ ([x_by 0])) 0 hl hp6) ?_
  rintro _ _ ⟨rfl, s8, ov8, f8, rfl, hp8⟩
  have hp08 := hp8.1
  have hp18 := hp8.2.1
  refine x_iinc (l1 := [(1, xI (4)), (0, xC 18)]) (x_d C_D_passZeros 9 rfl) rfl ⟨by omega, by omega⟩ (by decide) rfl ?_
  refine x_goto (tgt := 2) (x_d C_D_passZeros 10 rfl) rfl ?_
  refine x_iload_n (x_d C_D_passZeros 2 rfl) rfl ?_
  refine x_iconst (x_d C_D_passZeros 3 rfl) ⟨by omega, by omega⟩ ?_
  refine x_icmp_ge (tgt := 21) (x_d C_D_passZeros 4 rfl) rfl (fun _ => ?_) (fun q => absurd q (by omega))
  refine x_iconst (x_d C_D_passZeros 11 rfl) ⟨by omega, by omega⟩ ?_
  refine x_ireturn (x_d C_D_passZeros 12 rfl) ?_
  refine ⟨_, _, _, rfl, Or.inl ⟨rfl, _, rfl, ?_⟩⟩
  have := hp8
  rw [List.append_assoc, List.append_assoc, List.append_assoc] at this
  exact this
theorem w_D_passGroup_5_19_22 (Z : xZ) (d : Nat) (q : Nat → Int) (r : Nat → Option Nat) (A : Nat → Nat → Int) (dy : xH) (g : Nat → Int) (n : Nat) (hd : 2 ≤ d) (s ov : Int) (f : Nat → Int) (bs : List Int) (i z : Int) (sz : Nat) (hl : 0 ≤ q 611 ∧ q 611 ≤ 3000) (hn : 0 ≤ q 581 ∧ q 582 = q 581 + n ∧ q 582 ≤ 3000) (hg : ∀ k, k < n → A 22 ((q 581).toNat + k) = g k) (hi : q 581 ≤ i ∧ z = sz ∧ 1 ≤ z ∧ z ≤ 5 ∧ i + z ≤ q 582) (kk : s_ok5d g (i - q 581).toNat sz 5 = true → xW Z d Y_D_passGroup 66 [(0, xC 18), (1, xI i), (2, xI z), (3, xJ (s_v5 g (i - q 581).toNat sz 5)), (5, xI 5)] [] (hF (x_up (x_up q 609 s) 610 ov) (x_up (x_up r 578 (some 19)) 580 (some 22)) (x_up A 20 f) ++ dy) (fun v0 h2 => ∃ s2 ov2 f2, h2 = hF (x_up (x_up q 609 s2) 610 ov2) (x_up (x_up r 578 (some 19)) 580 (some 22)) (x_up A 20 f2) ++ dy ∧ ((v0 = some (xI 1) ∧ ∃ b2, (s_grp g (i - q 581).toNat sz).map (fun x => bs ++ x) = some b2 ∧ pb (q 611) s2 ov2 f2 b2) ∨ (v0 = some (xI 0) ∧ ∀ b2, (s_grp g (i - q 581).toNat sz).map (fun x => bs ++ x) = some b2 → q 611 < b2.length)))) : ∀ (m : Nat) (k : Int), (0 ≤ k ∧ k + m = 5) → s_ok5d g (i - q 581).toNat sz k.toNat = true → xW Z d Y_D_passGroup 5 [(0, xC 18), (1, xI i), (2, xI z), (3, xJ (s_v5 g (i - q 581).toNat sz k.toNat)), (5, xI k)] [] (hF (x_up (x_up q 609 s) 610 ov) (x_up (x_up r 578 (some 19)) 580 (some 22)) (x_up A 20 f) ++ dy) (fun v0 h2 => ∃ s2 ov2 f2, h2 = hF (x_up (x_up q 609 s2) 610 ov2) (x_up (x_up r 578 (some 19)) 580 (some 22)) (x_up A 20 f2) ++ dy ∧ ((v0 = some (xI 1) ∧ ∃ b2, (s_grp g (i - q 581).toNat sz).map (fun x => bs ++ x) = some b2 ∧ pb (q 611) s2 ov2 f2 b2) ∨ (v0 = some (xI 0) ∧ ∀ b2, (s_grp g (i - q 581).toNat sz).map (fun x => bs ++ x) = some b2 → q 611 < b2.length))) := by
  intro m
  have hgi : ∀ u : Int, q 581 ≤ u → u < q 582 → A 22 u.toNat = g (u - q 581).toNat := fun u h1 h2 => by rw [← hg _ (by omega)]; congr 1; omega
  induction m with
  | zero =>
    intro k hk hok5
    obtain rfl : k = 5 := by omega
    refine x_iload (x_d C_D_passGroup 4 rfl) rfl ?_
    refine x_iconst (x_d C_D_passGroup 5 rfl) ⟨by omega, by omega⟩ ?_
    refine x_icmp_ge (tgt := 66) (x_d C_D_passGroup 6 rfl) rfl (fun _ => ?_) (fun q => absurd q (by omega))
    exact kk hok5
  | succ m ih =>
    intro k hk hok5
    have hv5 := s_v5_in hok5
    have hp5 : (85 : Int) ^ k.toNat ≤ 85 ^ 4 := s_p85 (by omega)
    have hd5 : k < z → s_d5 g (i - q 581).toNat sz k.toNat = A 22 (i + k).toNat - 33 := fun h => by unfold s_d5; rw [if_pos (by omega), hgi (i + k) (by omega) (by omega)]; congr 2; omega
    have hd6 : ¬ k < z → s_d5 g (i - q 581).toNat sz k.toNat = 84 := fun h => by unfold s_d5; rw [if_neg (by omega)]
    have hks : (k + 1).toNat = k.toNat + 1 := by omega
    refine xW_ok (fun _ _ hok => ?_)
    have hbB := hok _ (List.mem_of_getElem? (i := 22) rfl) (i + k).toNat
    have hbB : -128 ≤ A 22 (i + k).toNat ∧ A 22 (i + k).toNat ≤ 127 := hbB
    refine x_iload (x_d C_D_passGroup 4 rfl) rfl ?_
    refine x_iconst (x_d C_D_passGroup 5 rfl) ⟨by omega, by omega⟩ ?_
    refine x_icmp_ge (tgt := 66) (x_d C_D_passGroup 6 rfl) rfl (fun q => absurd q (by omega)) (fun _ => ?_)
    refine x_iload (x_d C_D_passGroup 7 rfl) rfl ?_
    refine x_iload_n (x_d C_D_passGroup 8 rfl) rfl ?_
    refine x_icmp_ge (tgt := 32) (x_d C_D_passGroup 9 rfl) rfl (fun c2 => ?_) (fun c2 => ?_)
    · refine x_bipush (x_d C_D_passGroup 19 rfl) (by omega) ?_
      refine x_istore (l1 := [(6, xI (84)), (0, xC 18), (1, xI (i)), (2, xI (z)), (3, xJ (s_v5 g (i - q 581).toNat sz k.toNat)), (5, xI (k))]) (x_d C_D_passGroup 20 rfl) (by decide) rfl ?_
      refine x_iload (x_d C_D_passGroup 21 rfl) rfl ?_
      refine x_if_lt (tgt := 48) (x_d C_D_passGroup 22 rfl) rfl (fun q => absurd q (by omega)) (fun _ => ?_)
      refine x_iload (x_d C_D_passGroup 23 rfl) rfl ?_
      refine x_bipush (x_d C_D_passGroup 24 rfl) (by omega) ?_
      refine x_icmp_le (tgt := 50) (x_d C_D_passGroup 25 rfl) rfl (fun _ => ?_) (fun q => absurd q (by omega))
      refine x_ldc2 (n := 85) (x_d C_D_passGroup 28 rfl) lc_D_130 ⟨by omega, by omega⟩ ?_
      refine x_lload_n (x_d C_D_passGroup 29 rfl) rfl ?_
      refine x_lmul (x_d C_D_passGroup 30 rfl) ⟨by omega, by omega⟩ ?_
      refine x_iload (x_d C_D_passGroup 31 rfl) rfl ?_
      refine x_i2l (x_d C_D_passGroup 32 rfl) ?_
      refine x_ladd (x_d C_D_passGroup 33 rfl) ⟨by omega, by omega⟩ ?_
      refine x_lstore_n (l1 := [(3, xJ ((85 * (s_v5 g (i - q 581).toNat sz k.toNat)) + 84)), (6, xI (84)), (0, xC 18), (1, xI (i)), (2, xI (z)), (5, xI (k))]) (x_d C_D_passGroup 34 rfl) (by decide) rfl ?_
      refine x_iinc (l1 := [(5, xI (k + 1)), (3, xJ ((85 * (s_v5 g (i - q 581).toNat sz k.toNat)) + 84)), (6, xI (84)), (0, xC 18), (1, xI (i)), (2, xI (z))]) (x_d C_D_passGroup 35 rfl) rfl ⟨by omega, by omega⟩ (by decide) rfl ?_
      refine x_goto (tgt := 5) (x_d C_D_passGroup 36 rfl) rfl ?_
      refine x_locs [3, 4, 5, 1, 0] rfl ?_
      have e1 : (85 * (s_v5 g (i - q 581).toNat sz k.toNat)) + 84 = s_v5 g (i - q 581).toNat sz (k + 1).toNat := by rw [hks]; show _ = 85 * s_v5 g (i - q 581).toNat sz k.toNat + s_d5 g (i - q 581).toNat sz k.toNat; omega
      rw [e1]
      refine ih (k + 1) (by omega) ?_
      rw [hks]
      show (s_ok5d g (i - q 581).toNat sz k.toNat && _) = true
      rw [hok5, Bool.true_and, decide_eq_true_eq]
      omega
    · refine x_aload_n (x_d C_D_passGroup 10 rfl) rfl ?_
      refine x_getfield (v := xC 22) (x_d C_D_passGroup 11 rfl) f_D_37 rfl rfl ?_
      refine x_iload_n (x_d C_D_passGroup 12 rfl) rfl ?_
      refine x_iload (x_d C_D_passGroup 13 rfl) rfl ?_
      refine x_iadd (x_d C_D_passGroup 14 rfl) ⟨by omega, by omega⟩ ?_
      refine x_baload (f := A 22) (x_d C_D_passGroup 15 rfl) rfl (by omega) (by omega) ?_
      refine x_bipush (x_d C_D_passGroup 16 rfl) (by omega) ?_
      refine x_isub (x_d C_D_passGroup 17 rfl) ⟨by omega, by omega⟩ ?_
      refine x_goto (tgt := 34) (x_d C_D_passGroup 18 rfl) rfl ?_
      refine x_istore (l1 := [(6, xI ((A 22 (i + k).toNat) - 33)), (0, xC 18), (1, xI (i)), (2, xI (z)), (3, xJ (s_v5 g (i - q 581).toNat sz k.toNat)), (5, xI (k))]) (x_d C_D_passGroup 20 rfl) (by decide) rfl ?_
      refine x_iload (x_d C_D_passGroup 21 rfl) rfl ?_
      refine x_if_lt (tgt := 48) (x_d C_D_passGroup 22 rfl) rfl (fun c5 => ?_) (fun c5 => ?_)
      · refine x_iconst (x_d C_D_passGroup 26 rfl) ⟨by omega, by omega⟩ ?_
        refine x_ireturn (x_d C_D_passGroup 27 rfl) ?_
        refine ⟨s, ov, f, rfl, Or.inr ⟨rfl, fun b2 e => ?_⟩⟩
        have hbad : s_ok5d g (i - q 581).toNat sz 5 = false := s_ok5_bad (k := k.toNat) (by omega) (by omega)
        unfold s_grp at e
        rw [if_pos (Or.inr (Or.inl hbad))] at e
        cases e
      · refine x_iload (x_d C_D_passGroup 23 rfl) rfl ?_
        refine x_bipush (x_d C_D_passGroup 24 rfl) (by omega) ?_
        refine x_icmp_le (tgt := 50) (x_d C_D_passGroup 25 rfl) rfl (fun c6 => ?_) (fun c6 => ?_)
        · refine x_ldc2 (n := 85) (x_d C_D_passGroup 28 rfl) lc_D_130 ⟨by omega, by omega⟩ ?_
          refine x_lload_n (x_d C_D_passGroup 29 rfl) rfl ?_
          refine x_lmul (x_d C_D_passGroup 30 rfl) ⟨by omega, by omega⟩ ?_
          refine x_iload (x_d C_D_passGroup 31 rfl) rfl ?_
          refine x_i2l (x_d C_D_passGroup 32 rfl) ?_
          refine x_ladd (x_d C_D_passGroup 33 rfl) ⟨by omega, by omega⟩ ?_
          refine x_lstore_n (l1 := [(3, xJ ((85 * (s_v5 g (i - q 581).toNat sz k.toNat)) + ((A 22 (i + k).toNat) - 33))), (6, xI ((A 22 (i + k).toNat) - 33)), (0, xC 18), (1, xI (i)), (2, xI (z)), (5, xI (k))]) (x_d C_D_passGroup 34 rfl) (by decide) rfl ?_
          refine x_iinc (l1 := [(5, xI (k + 1)), (3, xJ ((85 * (s_v5 g (i - q 581).toNat sz k.toNat)) + ((A 22 (i + k).toNat) - 33))), (6, xI ((A 22 (i + k).toNat) - 33)), (0, xC 18), (1, xI (i)), (2, xI (z))]) (x_d C_D_passGroup 35 rfl) rfl ⟨by omega, by omega⟩ (by decide) rfl ?_
          refine x_goto (tgt := 5) (x_d C_D_passGroup 36 rfl) rfl ?_
          refine x_locs [3, 4, 5, 1, 0] rfl ?_
          have e1 : (85 * (s_v5 g (i - q 581).toNat sz k.toNat)) + ((A 22 (i + k).toNat) - 33) = s_v5 g (i - q 581).toNat sz (k + 1).toNat := by rw [hks]; show _ = 85 * s_v5 g (i - q 581).toNat sz k.toNat + s_d5 g (i - q 581).toNat sz k.toNat; omega
          rw [e1]
          refine ih (k + 1) (by omega) ?_
          rw [hks]
          show (s_ok5d g (i - q 581).toNat sz k.toNat && _) = true
          rw [hok5, Bool.true_and, decide_eq_true_eq]
          omega
        · refine x_iconst (x_d C_D_passGroup 26 rfl) ⟨by omega, by omega⟩ ?_
          refine x_ireturn (x_d C_D_passGroup 27 rfl) ?_
          refine ⟨s, ov, f, rfl, Or.inr ⟨rfl, fun b2 e => ?_⟩⟩
          have hbad : s_ok5d g (i - q 581).toNat sz 5 = false := s_ok5_bad (k := k.toNat) (by omega) (by omega)
          unfold s_grp at e
          rw [if_pos (Or.inr (Or.inl hbad))] at e
          cases e
theorem w_D_passGroup_84_19_22 (Z : xZ) (d : Nat) (q : Nat → Int) (r : Nat → Option Nat) (A : Nat → Nat → Int) (dy : xH) (g : Nat → Int) (n : Nat) (hd : 2 ≤ d) (i z v : Int) (hl : 0 ≤ q 611 ∧ q 611 ≤ 3000) (hn : 0 ≤ q 581 ∧ q 582 = q 581 + n ∧ q 582 ≤ 3000) (hg : ∀ k, k < n → A 22 ((q 581).toNat + k) = g k) (hz : z ≤ 5 ∧ 0 ≤ v ∧ v < 4294967296) : ∀ (m : Nat) (s ov : Int) (f : Nat → Int) (bs : List Int) (k : Int), (0 ≤ k ∧ k + m = z - 1) → pb (q 611) s ov f bs → xW Z d Y_D_passGroup 84 [(0, xC 18), (1, xI i), (2, xI z), (3, xJ v), (5, xI k)] [] (hF (x_up (x_up q 609 s) 610 ov) (x_up (x_up r 578 (some 19)) 580 (some 22)) (x_up A 20 f) ++ dy) (fun v0 h2 => ∃ s2 ov2 f2, h2 = hF (x_up (x_up q 609 s2) 610 ov2) (x_up (x_up r 578 (some 19)) 580 (some 22)) (x_up A 20 f2) ++ dy ∧ ((v0 = some (xI 1) ∧ ∃ b2, (some (bs ++ s_gb v m k.toNat)) = some b2 ∧ pb (q 611) s2 ov2 f2 b2) ∨ (v0 = some (xI 0) ∧ ∀ b2, (some (bs ++ s_gb v m k.toNat)) = some b2 → q 611 < b2.length))) := by
  intro m
  induction m with
  | zero =>
    intro s ov f bs k hk hp
    have hp0 := hp.1
    have hp1 := hp.2.1
    have hgi : ∀ u : Int, q 581 ≤ u → u < q 582 → A 22 u.toNat = g (u - q 581).toNat := fun u h1 h2 => by rw [← hg _ (by omega)]; congr 1; omega
    refine xW_ok (fun _ _ hok => ?_)
    have hbB : ∀ j, -128 ≤ A 22 j ∧ A 22 j ≤ 127 := fun j => hok _ (List.mem_of_getElem? (i := 22) rfl) j
    refine x_iload (x_d C_D_passGroup 48 rfl) rfl ?_
    refine x_iload_n (x_d C_D_passGroup 49 rfl) rfl ?_
    refine x_iconst (x_d C_D_passGroup 50 rfl) ⟨by omega, by omega⟩ ?_
    refine x_isub (x_d C_D_passGroup 51 rfl) ⟨by omega, by omega⟩ ?_
    refine x_icmp_ge (tgt := 116) (x_d C_D_passGroup 52 rfl) rfl (fun _ => ?_) (fun q => absurd q (by omega))
    refine x_iconst (x_d C_D_passGroup 66 rfl) ⟨by omega, by omega⟩ ?_
    refine x_ireturn (x_d C_D_passGroup 67 rfl) ?_
    exact ⟨s, ov, f, rfl, Or.inl ⟨rfl, bs ++ [], rfl, pb_nil hp⟩⟩
  | succ m ih =>
    intro s ov f bs k hk hp
    have hp0 := hp.1
    have hp1 := hp.2.1
    have hgi : ∀ u : Int, q 581 ≤ u → u < q 582 → A 22 u.toNat = g (u - q 581).toNat := fun u h1 h2 => by rw [← hg _ (by omega)]; congr 1; omega
    refine xW_ok (fun _ _ hok => ?_)
    have hbB : ∀ j, -128 ≤ A 22 j ∧ A 22 j ≤ 127 := fun j => hok _ (List.mem_of_getElem? (i := 22) rfl) j
    refine x_iload (x_d C_D_passGroup 48 rfl) rfl ?_
    refine x_iload_n (x_d C_D_passGroup 49 rfl) rfl ?_
    refine x_iconst (x_d C_D_passGroup 50 rfl) ⟨by omega, by omega⟩ ?_
    refine x_isub (x_d C_D_passGroup 51 rfl) ⟨by omega, by omega⟩ ?_
    refine x_icmp_ge (tgt := 116) (x_d C_D_passGroup 52 rfl) rfl (fun q => absurd q (by omega)) (fun _ => ?_)
    refine x_aload_n (x_d C_D_passGroup 53 rfl) rfl ?_
    refine x_getfield (v := xC 19) (x_d C_D_passGroup 54 rfl) f_D_14 rfl rfl ?_
    refine x_lload_n (x_d C_D_passGroup 55 rfl) rfl ?_
    refine x_bipush (x_d C_D_passGroup 56 rfl) (by omega) ?_
    refine x_bipush (x_d C_D_passGroup 57 rfl) (by omega) ?_
    refine x_iload (x_d C_D_passGroup 58 rfl) rfl ?_
    refine x_imul (x_d C_D_passGroup 59 rfl) ⟨by omega, by omega⟩ ?_
    refine x_isub (x_d C_D_passGroup 60 rfl) ⟨by omega, by omega⟩ ?_
    refine x_lshr (k := (24 - (8 * k) : Int).toNat) (x_d C_D_passGroup 61 rfl) (by omega) (by omega) (by omega) (by omega) ?_
    refine x_l2iW (z := (v / 2 ^ (24 - (8 * k) : Int).toNat).bmod 4294967296) (x_d C_D_passGroup 62 rfl) (s_bm32 _) Int.bmod_emod ?_
    refine x_invokevirtual (st := []) (av := [xI ((v / 2 ^ (24 - (8 * k) : Int).toNat).bmod 4294967296)]) (x_d C_D_passGroup 63 rfl) k_D_110 m_Pa_add v_Pa_add cl_Pa rfl rfl (Nat.le_of_ble_eq_true rfl) (by omega) rfl (c_Pb_add_19 Z (d - 1) q (x_up (x_up r 578 (some 19)) 580 (some 22)) A dy s ov f bs ((v / 2 ^ (24 - (8 * k) : Int).toNat).bmod 4294967296) hl hp) ?_
    rintro _ _ ⟨rfl, s2, ov2, f2, rfl, hp2⟩
    have hp02 := hp2.1
    have hp12 := hp2.2.1
    refine x_iinc (l1 := [(5, xI (k + 1)), (0, xC 18), (1, xI (i)), (2, xI (z)), (3, xJ (v))]) (x_d C_D_passGroup 64 rfl) rfl ⟨by omega, by omega⟩ (by decide) rfl ?_
    refine x_goto (tgt := 84) (x_d C_D_passGroup 65 rfl) rfl ?_
    refine x_locs [1, 2, 3, 4, 0] rfl ?_
    refine xW_post ?_ (ih s2 ov2 f2 _ (k + 1) (by omega) hp2)
    rintro v0 h2 ⟨s9, ov9, f9, g2, g3⟩
    refine ⟨s9, ov9, f9, g2, ?_⟩
    rw [List.append_assoc, s_by_bm, show (24 - 8 * k).toNat = 24 - 8 * k.toNat by omega, show (k + 1).toNat = k.toNat + 1 by omega] at g3
    exact g3
theorem c_D_passGroup_19_22 (Z : xZ) (d : Nat) (q : Nat → Int) (r : Nat → Option Nat) (A : Nat → Nat → Int) (dy : xH) (g : Nat → Int) (n : Nat) (hd : 2 ≤ d) (s ov : Int) (f : Nat → Int) (bs : List Int) (i z : Int) (sz : Nat) (hl : 0 ≤ q 611 ∧ q 611 ≤ 3000) (hn : 0 ≤ q 581 ∧ q 582 = q 581 + n ∧ q 582 ≤ 3000) (hg : ∀ k, k < n → A 22 ((q 581).toNat + k) = g k) (hi : q 581 ≤ i ∧ z = sz ∧ 1 ≤ z ∧ z ≤ 5 ∧ i + z ≤ q 582) (hp : pb (q 611) s ov f bs) : xMet Z d Y_D_passGroup [xC 18, xI i, xI z] (hF (x_up (x_up q 609 s) 610 ov) (x_up (x_up r 578 (some 19)) 580 (some 22)) (x_up A 20 f) ++ dy) (fun v0 h2 => ∃ s2 ov2 f2, h2 = hF (x_up (x_up q 609 s2) 610 ov2) (x_up (x_up r 578 (some 19)) 580 (some 22)) (x_up A 20 f2) ++ dy ∧ ((v0 = some (xI 1) ∧ ∃ b2, (s_grp g (i - q 581).toNat sz).map (fun x => bs ++ x) = some b2 ∧ pb (q 611) s2 ov2 f2 b2) ∨ (v0 = some (xI 0) ∧ ∀ b2, (s_grp g (i - q 581).toNat sz).map (fun x => bs ++ x) = some b2 → q 611 < b2.length))) := by
  refine xMet_of (by decide) (Nat.le_of_ble_eq_true rfl) (fun v0 h2 hq => by obtain ⟨_, _, _, _, ⟨e, _⟩ | ⟨e, _⟩⟩ := hq <;> rw [e]; exact Or.inr rfl; exact Or.inl rfl) ?_
  have hp0 := hp.1
  have hp1 := hp.2.1
  have hgi : ∀ u : Int, q 581 ≤ u → u < q 582 → A 22 u.toNat = g (u - q 581).toNat := fun u h1 h2 => by rw [← hg _ (by omega)]; congr 1; omega
  refine xW_ok (fun _ _ hok => ?_)
  have hbB : ∀ j, -128 ≤ A 22 j ∧ A 22 j ≤ 127 := fun j => hok _ (List.mem_of_getElem? (i := 22) rfl) j
  refine x_lconst0 (x_d C_D_passGroup 0 rfl) ?_
  refine x_lstore_n (l1 := [(3, xJ (0)), (0, xC 18), (1, xI (i)), (2, xI (z))]) (x_d C_D_passGroup 1 rfl) (by decide) rfl ?_
  refine x_iconst (x_d C_D_passGroup 2 rfl) ⟨by omega, by omega⟩ ?_
  refine x_istore (l1 := [(5, xI (0)), (3, xJ (0)), (0, xC 18), (1, xI (i)), (2, xI (z))]) (x_d C_D_passGroup 3 rfl) (by decide) rfl ?_
  refine x_locs [2, 3, 4, 1, 0] rfl ?_
  refine w_D_passGroup_5_19_22 Z d q r A dy g n hd s ov f bs i z sz hl hn hg hi (fun hok5 => ?_) 5 0 (by omega) rfl
  have hv5 := s_v5_in hok5
  refine x_iload_n (x_d C_D_passGroup 37 rfl) rfl ?_
  refine x_iconst (x_d C_D_passGroup 38 rfl) ⟨by omega, by omega⟩ ?_
  refine x_icmp_lt (tgt := 79) (x_d C_D_passGroup 39 rfl) rfl (fun c101 => ?_) (fun c101 => ?_)
  · refine x_iconst (x_d C_D_passGroup 44 rfl) ⟨by omega, by omega⟩ ?_
    refine x_ireturn (x_d C_D_passGroup 45 rfl) ?_
    refine ⟨s, ov, f, rfl, Or.inr ⟨rfl, fun b2 e => ?_⟩⟩
    unfold s_grp at e
    unfold x_lc at *
    rw [if_pos (by first | exact Or.inl (by omega) | exact Or.inr (Or.inr (by (repeat' split at *) <;> omega)))] at e
    cases e
  · refine x_lload_n (x_d C_D_passGroup 40 rfl) rfl ?_
    refine x_ldc2 (n := 4294967296) (x_d C_D_passGroup 41 rfl) lc_D_132 ⟨by omega, by omega⟩ ?_
    refine x_lcmp (x_d C_D_passGroup 42 rfl) ?_
    refine x_if_lt (tgt := 81) (x_d C_D_passGroup 43 rfl) rfl (fun c102 => ?_) (fun c102 => ?_)
    · refine x_iconst (x_d C_D_passGroup 46 rfl) ⟨by omega, by omega⟩ ?_
      refine x_istore (l1 := [(5, xI (0)), (0, xC 18), (1, xI (i)), (2, xI (z)), (3, xJ (s_v5 g (i - q 581).toNat sz 5))]) (x_d C_D_passGroup 47 rfl) (by decide) rfl ?_
      have hlt : s_v5 g (i - q 581).toNat sz 5 < 4294967296 := by unfold x_lc at *; (repeat' split at *) <;> omega
      refine x_locs [1, 2, 3, 4, 0] rfl ?_
      have := w_D_passGroup_84_19_22 Z d q r A dy g n hd i z (s_v5 g (i - q 581).toNat sz 5) hl hn hg ⟨by omega, hv5.1, hlt⟩ (sz - 1) s ov f bs 0 (by omega) hp
      unfold s_grp
      rw [if_neg (by rintro (h | h | h); omega; rw [hok5] at h; cases h; omega)]
      exact this
    · refine x_iconst (x_d C_D_passGroup 44 rfl) ⟨by omega, by omega⟩ ?_
      refine x_ireturn (x_d C_D_passGroup 45 rfl) ?_
      refine ⟨s, ov, f, rfl, Or.inr ⟨rfl, fun b2 e => ?_⟩⟩
      unfold s_grp at e
      unfold x_lc at *
      rw [if_pos (by first | exact Or.inl (by omega) | exact Or.inr (Or.inr (by (repeat' split at *) <;> omega)))] at e
      cases e
theorem w_D_passRuns_118_21_2 (Z : xZ) (d : Nat) (q : Nat → Int) (r : Nat → Option Nat) (A : Nat → Nat → Int) (dy : xH) (hd : 1 ≤ d) (i k tk x : Int) (hl : 0 ≤ q 675 ∧ q 675 ≤ 3000) (hi : 0 ≤ i ∧ i + 1 < 10248) (hx : A 2 (i + 1).toNat = x) (Q : Option xV → xH → Prop) (hx2 : -128 ≤ x ∧ x ≤ 127) : ∀ (m : Nat) (s ov : Int) (f : Nat → Int) (bs : List Int) (t : Int), t = m ∧ m ≤ 300 → pb (q 675) s ov f bs → (∀ (s2 ov2 : Int) (f2 : Nat → Int), pb (q 675) s2 ov2 f2 (bs ++ List.replicate m x) → xW Z d Y_D_passRuns 144 [(0, xC 18), (1, xI i), (2, xI k), (3, xI tk), (4, xI 0)] [] (hF (x_up (x_up q 673 s2) 674 ov2) (x_up (x_up r 578 (some 21)) 580 (some 2)) (x_up A 22 f2) ++ dy) Q) → xW Z d Y_D_passRuns 118 [(0, xC 18), (1, xI i), (2, xI k), (3, xI tk), (4, xI t)] [] (hF (x_up (x_up q 673 s) 674 ov) (x_up (x_up r 578 (some 21)) 580 (some 2)) (x_up A 22 f) ++ dy) Q := by
  intro m
  induction m with
  | zero =>
    intro s ov f bs t ht hp kk
    obtain rfl : t = 0 := by omega
    refine x_iload (x_d C_D_passRuns 67 rfl) rfl ?_
    refine x_if_le (tgt := 144) (x_d C_D_passRuns 68 rfl) rfl (fun _ => ?_) (fun q => absurd q (by omega))
    exact kk s ov f (pb_nil hp)
  | succ m ih =>
    intro s ov f bs t ht hp kk
    have hp0 := hp.1
    have hp1 := hp.2.1
    refine x_iload (x_d C_D_passRuns 67 rfl) rfl ?_
    refine x_if_le (tgt := 144) (x_d C_D_passRuns 68 rfl) rfl (fun q => absurd q (by omega)) (fun _ => ?_)
    refine x_aload_n (x_d C_D_passRuns 69 rfl) rfl ?_
    refine x_getfield (v := xC 21) (x_d C_D_passRuns 70 rfl) f_D_14 rfl rfl ?_
    refine x_aload_n (x_d C_D_passRuns 71 rfl) rfl ?_
    refine x_getfield (v := xC 2) (x_d C_D_passRuns 72 rfl) f_D_37 rfl rfl ?_
    refine x_iload_n (x_d C_D_passRuns 73 rfl) rfl ?_
    refine x_iconst (x_d C_D_passRuns 74 rfl) ⟨by omega, by omega⟩ ?_
    refine x_iadd (x_d C_D_passRuns 75 rfl) ⟨by omega, by omega⟩ ?_
    refine x_baload (f := A 2) (x_d C_D_passRuns 76 rfl) rfl (by omega) (by omega) ?_
    refine x_invokevirtual (st := []) (av := [xI (A 2 (i + 1).toNat)]) (x_d C_D_passRuns 77 rfl) k_D_110 m_Pa_add v_Pa_add cl_Pa rfl rfl (Nat.le_of_ble_eq_true rfl) (by omega) rfl (c_Pb_add_21 Z (d - 1) q (x_up (x_up r 578 (some 21)) 580 (some 2)) A dy s ov f bs (A 2 (i + 1).toNat) hl hp) ?_
    rintro _ _ ⟨rfl, s2, ov2, f2, rfl, hp2⟩
    have hp02 := hp2.1
    have hp12 := hp2.2.1
    refine x_iinc (l1 := [(4, xI (t + (-1))), (0, xC 18), (1, xI (i)), (2, xI (k)), (3, xI (tk))]) (x_d C_D_passRuns 78 rfl) rfl ⟨by omega, by omega⟩ (by decide) rfl ?_
    refine x_goto (tgt := 118) (x_d C_D_passRuns 79 rfl) rfl ?_
    refine x_locs [1, 2, 3, 4, 0] rfl ?_
    refine ih s2 ov2 f2 _ (t + (-1)) (by omega) hp2 (fun s2 ov2 f2 h2 => kk s2 ov2 f2 ?_)
    rw [List.append_assoc, hx, x_by_id hx2] at h2
    exact h2
theorem w_D_passRuns_5_21_2 (Z : xZ) (d : Nat) (q : Nat → Int) (r : Nat → Option Nat) (A : Nat → Nat → Int) (dy : xH) (g : Nat → Int) (n : Nat) (hd : 2 ≤ d) (hl : 0 ≤ q 675 ∧ q 675 ≤ 3000) (hn : 0 ≤ q 581 ∧ q 582 = q 581 + n ∧ q 582 ≤ 10248) (hg : ∀ k, k < n → A 2 ((q 581).toNat + k) = g k) : ∀ (m : Nat) (s ov : Int) (f : Nat → Int) (bs : List Int) (i : Int), (q 581 ≤ i ∧ i ≤ q 582 ∧ q 582 < i + m) → pb (q 675) s ov f bs → xW Z d Y_D_passRuns 5 [(0, xC 18), (1, xI i)] [] (hF (x_up (x_up q 673 s) 674 ov) (x_up (x_up r 578 (some 21)) 580 (some 2)) (x_up A 22 f) ++ dy) (fun v0 h2 => ∃ s2 ov2 f2, h2 = hF (x_up (x_up q 673 s2) 674 ov2) (x_up (x_up r 578 (some 21)) 580 (some 2)) (x_up A 22 f2) ++ dy ∧ ((v0 = some (xI 1) ∧ ∃ b2, (s_runs g n m (i - q 581).toNat).map (fun x => bs ++ x) = some b2 ∧ pb (q 675) s2 ov2 f2 b2) ∨ (v0 = some (xI 0) ∧ ∀ b2, (s_runs g n m (i - q 581).toNat).map (fun x => bs ++ x) = some b2 → q 675 < b2.length))) := by
  intro m
  induction m with
  | zero =>
    intro s ov f bs i hi hp
    have hp0 := hp.1
    have hp1 := hp.2.1
    have hgi : ∀ u : Int, q 581 ≤ u → u < q 582 → A 2 u.toNat = g (u - q 581).toNat := fun u h1 h2 => by rw [← hg _ (by omega)]; congr 1; omega
    refine xW_ok (fun _ _ hok => ?_)
    have hbB : ∀ j, -128 ≤ A 2 j ∧ A 2 j ≤ 127 := fun j => hok _ (List.mem_of_getElem? (i := 2) rfl) j
    omega
  | succ m ih =>
    intro s ov f bs i hi hp
    have hp0 := hp.1
    have hp1 := hp.2.1
    have hgi : ∀ u : Int, q 581 ≤ u → u < q 582 → A 2 u.toNat = g (u - q 581).toNat := fun u h1 h2 => by rw [← hg _ (by omega)]; congr 1; omega
    refine xW_ok (fun _ _ hok => ?_)
    have hbB : ∀ j, -128 ≤ A 2 j ∧ A 2 j ≤ 127 := fun j => hok _ (List.mem_of_getElem? (i := 2) rfl) j
    have hk0 : i < q 582 → g (i - q 581).toNat = A 2 i.toNat := fun h => (hgi i (by omega) h).symm
    have hk1 : i + 1 < q 582 → g ((i - q 581).toNat + 1) = A 2 (i + 1).toNat := fun h => by rw [hgi (i + 1) (by omega) h]; congr 1; omega
    refine x_iload_n (x_d C_D_passRuns 3 rfl) rfl ?_
    refine x_aload_n (x_d C_D_passRuns 4 rfl) rfl ?_
    refine x_getfield (v := xI (q 582)) (x_d C_D_passRuns 5 rfl) f_D_53 rfl rfl ?_
    refine x_icmp_ge (tgt := 153) (x_d C_D_passRuns 6 rfl) rfl (fun c1 => ?_) (fun c1 => ?_)
    · refine x_iconst (x_d C_D_passRuns 87 rfl) ⟨by omega, by omega⟩ ?_
      refine x_ireturn (x_d C_D_passRuns 88 rfl) ?_
      refine ⟨s, ov, f, rfl, Or.inr ⟨rfl, fun b2 e => ?_⟩⟩
      rcases pb_ov hp with ⟨h1, h2⟩ | ⟨h1, h2⟩
      · rw [s_runs_s] at e
        first
        | (rw [if_pos (by omega)] at e; cases e; done)
        | (rw [if_neg (by omega), if_pos (by omega), if_neg (by omega)] at e; cases e; done)
        | (rw [if_neg (by omega), if_neg (by omega), if_pos (by omega), if_pos (by omega)] at e; cases e; done)
        | (rw [if_neg (by omega), if_neg (by omega), if_neg (by omega), if_pos (by omega)] at e; cases e; done)
        | omega
      · exact s_long e h2
    · refine x_aload_n (x_d C_D_passRuns 7 rfl) rfl ?_
      refine x_getfield (v := xC 21) (x_d C_D_passRuns 8 rfl) f_D_14 rfl rfl ?_
      refine x_getfield (v := xI (ov)) (x_d C_D_passRuns 9 rfl) f_D_79 rfl rfl ?_
      refine x_if_ne (tgt := 153) (x_d C_D_passRuns 10 rfl) rfl (fun c2 => ?_) (fun c2 => ?_)
      · refine x_iconst (x_d C_D_passRuns 87 rfl) ⟨by omega, by omega⟩ ?_
        refine x_ireturn (x_d C_D_passRuns 88 rfl) ?_
        refine ⟨s, ov, f, rfl, Or.inr ⟨rfl, fun b2 e => ?_⟩⟩
        rcases pb_ov hp with ⟨h1, h2⟩ | ⟨h1, h2⟩
        · rw [s_runs_s] at e
          first
          | (rw [if_pos (by omega)] at e; cases e; done)
          | (rw [if_neg (by omega), if_pos (by omega), if_neg (by omega)] at e; cases e; done)
          | (rw [if_neg (by omega), if_neg (by omega), if_pos (by omega), if_pos (by omega)] at e; cases e; done)
          | (rw [if_neg (by omega), if_neg (by omega), if_neg (by omega), if_pos (by omega)] at e; cases e; done)
          | omega
        · exact s_long e h2
      · refine x_aload_n (x_d C_D_passRuns 11 rfl) rfl ?_
        refine x_getfield (v := xC 2) (x_d C_D_passRuns 12 rfl) f_D_37 rfl rfl ?_
        refine x_iload_n (x_d C_D_passRuns 13 rfl) rfl ?_
        refine x_baload (f := A 2) (x_d C_D_passRuns 14 rfl) rfl (by omega) (by omega) ?_
        refine x_sipush (x_d C_D_passRuns 15 rfl) (by omega) ?_
        refine x_iand255 (x_d C_D_passRuns 16 rfl) ?_
        refine x_istore_n (l1 := [(2, xI ((A 2 (i).toNat) % 256)), (0, xC 18), (1, xI (i))]) (x_d C_D_passRuns 17 rfl) (by decide) rfl ?_
        refine x_iload_n (x_d C_D_passRuns 18 rfl) rfl ?_
        refine x_sipush (x_d C_D_passRuns 19 rfl) (by omega) ?_
        refine x_icmp_ge (tgt := 47) (x_d C_D_passRuns 20 rfl) rfl (fun c3 => ?_) (fun c3 => ?_)
        · refine x_iconst (x_d C_D_passRuns 25 rfl) ⟨by omega, by omega⟩ ?_
          refine x_istore_n (l1 := [(3, xI (1)), (2, xI ((A 2 (i).toNat) % 256)), (0, xC 18), (1, xI (i))]) (x_d C_D_passRuns 26 rfl) (by decide) rfl ?_
          refine x_iload_n (x_d C_D_passRuns 27 rfl) rfl ?_
          refine x_sipush (x_d C_D_passRuns 28 rfl) (by omega) ?_
          refine x_icmp_ne (tgt := 72) (x_d C_D_passRuns 29 rfl) rfl (fun c4 => ?_) (fun c4 => ?_)
          · refine x_iload_n (x_d C_D_passRuns 40 rfl) rfl ?_
            refine x_aload_n (x_d C_D_passRuns 41 rfl) rfl ?_
            refine x_getfield (v := xI (q 582)) (x_d C_D_passRuns 42 rfl) f_D_53 rfl rfl ?_
            refine x_iload_n (x_d C_D_passRuns 43 rfl) rfl ?_
            refine x_isub (x_d C_D_passRuns 44 rfl) ⟨by omega, by omega⟩ ?_
            refine x_iconst (x_d C_D_passRuns 45 rfl) ⟨by omega, by omega⟩ ?_
            refine x_isub (x_d C_D_passRuns 46 rfl) ⟨by omega, by omega⟩ ?_
            refine x_icmp_le (tgt := 86) (x_d C_D_passRuns 47 rfl) rfl (fun c5 => ?_) (fun c5 => ?_)
            · refine x_iload_n (x_d C_D_passRuns 50 rfl) rfl ?_
              refine x_sipush (x_d C_D_passRuns 51 rfl) (by omega) ?_
              refine x_icmp_ge (tgt := 111) (x_d C_D_passRuns 52 rfl) rfl (fun _ => ?_) (fun q => absurd q (by omega))
              refine x_sipush (x_d C_D_passRuns 63 rfl) (by omega) ?_
              refine x_iload_n (x_d C_D_passRuns 64 rfl) rfl ?_
              refine x_isub (x_d C_D_passRuns 65 rfl) ⟨by omega, by omega⟩ ?_
              refine x_istore (l1 := [(4, xI (257 - ((A 2 (i).toNat) % 256))), (3, xI (1)), (2, xI ((A 2 (i).toNat) % 256)), (0, xC 18), (1, xI (i))]) (x_d C_D_passRuns 66 rfl) (by decide) rfl ?_
              refine x_locs [3, 4, 2, 1, 0] rfl ?_
              refine w_D_passRuns_118_21_2 Z d q r A dy (by omega) i _ _ _ hl (by omega) rfl _ (hbB _) (257 - A 2 i.toNat % 256).toNat s ov f bs _ (by omega) hp (fun s8 ov8 f8 h8 => ?_)
              refine x_iload_n (x_d C_D_passRuns 80 rfl) rfl ?_
              refine x_iload_n (x_d C_D_passRuns 81 rfl) rfl ?_
              refine x_iconst (x_d C_D_passRuns 82 rfl) ⟨by omega, by omega⟩ ?_
              refine x_iadd (x_d C_D_passRuns 83 rfl) ⟨by omega, by omega⟩ ?_
              refine x_iadd (x_d C_D_passRuns 84 rfl) ⟨by omega, by omega⟩ ?_
              refine x_istore_n (l1 := [(1, xI (i + (1 + 1))), (0, xC 18), (2, xI ((A 2 (i).toNat) % 256)), (3, xI (1)), (4, xI (0))]) (x_d C_D_passRuns 85 rfl) (by decide) rfl ?_
              refine x_goto (tgt := 5) (x_d C_D_passRuns 86 rfl) rfl ?_
              refine x_locs [1, 0] rfl ?_
              refine xW_post ?_ (ih s8 ov8 f8 _ (i + (1 + 1)) (by omega) h8)
              rintro v0 h2 ⟨s9, ov9, f9, g2, g3⟩
              refine ⟨s9, ov9, f9, g2, ?_⟩
              rw [s_runs_s, if_neg (by omega), if_neg (by omega), if_neg (by omega), if_neg (by omega), s_map_app, hk0 (by omega), hk1 (by omega)]
              rw [show (i + (1 + 1) - q 581).toNat = (i - q 581).toNat + 2 by omega] at g3
              exact g3
            · refine x_iconst (x_d C_D_passRuns 48 rfl) ⟨by omega, by omega⟩ ?_
              refine x_ireturn (x_d C_D_passRuns 49 rfl) ?_
              refine ⟨s, ov, f, rfl, Or.inr ⟨rfl, fun b2 e => ?_⟩⟩
              rcases pb_ov hp with ⟨h1, h2⟩ | ⟨h1, h2⟩
              · rw [s_runs_s] at e
                first
                | (rw [if_pos (by omega)] at e; cases e; done)
                | (rw [if_neg (by omega), if_pos (by omega), if_neg (by omega)] at e; cases e; done)
                | (rw [if_neg (by omega), if_neg (by omega), if_pos (by omega), if_pos (by omega)] at e; cases e; done)
                | (rw [if_neg (by omega), if_neg (by omega), if_neg (by omega), if_pos (by omega)] at e; cases e; done)
                | omega
              · exact s_long e h2
          · refine x_iload_n (x_d C_D_passRuns 30 rfl) rfl ?_
            refine x_aload_n (x_d C_D_passRuns 31 rfl) rfl ?_
            refine x_getfield (v := xI (q 582)) (x_d C_D_passRuns 32 rfl) f_D_53 rfl rfl ?_
            refine x_iconst (x_d C_D_passRuns 33 rfl) ⟨by omega, by omega⟩ ?_
            refine x_isub (x_d C_D_passRuns 34 rfl) ⟨by omega, by omega⟩ ?_
            refine x_icmp_ne (tgt := 70) (x_d C_D_passRuns 35 rfl) rfl (fun c7 => ?_) (fun c7 => ?_)
            · refine x_iconst (x_d C_D_passRuns 38 rfl) ⟨by omega, by omega⟩ ?_
              refine x_ireturn (x_d C_D_passRuns 39 rfl) ?_
              refine ⟨s, ov, f, rfl, Or.inr ⟨rfl, fun b2 e => ?_⟩⟩
              rcases pb_ov hp with ⟨h1, h2⟩ | ⟨h1, h2⟩
              · rw [s_runs_s] at e
                first
                | (rw [if_pos (by omega)] at e; cases e; done)
                | (rw [if_neg (by omega), if_pos (by omega), if_neg (by omega)] at e; cases e; done)
                | (rw [if_neg (by omega), if_neg (by omega), if_pos (by omega), if_pos (by omega)] at e; cases e; done)
                | (rw [if_neg (by omega), if_neg (by omega), if_neg (by omega), if_pos (by omega)] at e; cases e; done)
                | omega
              · exact s_long e h2
            · refine x_iconst (x_d C_D_passRuns 36 rfl) ⟨by omega, by omega⟩ ?_
              refine x_goto (tgt := 71) (x_d C_D_passRuns 37 rfl) rfl ?_
              refine x_ireturn (x_d C_D_passRuns 39 rfl) ?_
              exact ⟨s, ov, f, rfl, Or.inl ⟨rfl, bs ++ [], by rw [s_runs_s, if_neg (by omega), if_pos (by omega), if_pos (by omega)]; rfl, pb_nil hp⟩⟩
        · refine x_iload_n (x_d C_D_passRuns 21 rfl) rfl ?_
          refine x_iconst (x_d C_D_passRuns 22 rfl) ⟨by omega, by omega⟩ ?_
          refine x_iadd (x_d C_D_passRuns 23 rfl) ⟨by omega, by omega⟩ ?_
          refine x_goto (tgt := 48) (x_d C_D_passRuns 24 rfl) rfl ?_
          refine x_istore_n (l1 := [(3, xI (((A 2 (i).toNat) % 256) + 1)), (2, xI ((A 2 (i).toNat) % 256)), (0, xC 18), (1, xI (i))]) (x_d C_D_passRuns 26 rfl) (by decide) rfl ?_
          refine x_iload_n (x_d C_D_passRuns 27 rfl) rfl ?_
          refine x_sipush (x_d C_D_passRuns 28 rfl) (by omega) ?_
          refine x_icmp_ne (tgt := 72) (x_d C_D_passRuns 29 rfl) rfl (fun c8 => ?_) (fun c8 => ?_)
          · refine x_iload_n (x_d C_D_passRuns 40 rfl) rfl ?_
            refine x_aload_n (x_d C_D_passRuns 41 rfl) rfl ?_
            refine x_getfield (v := xI (q 582)) (x_d C_D_passRuns 42 rfl) f_D_53 rfl rfl ?_
            refine x_iload_n (x_d C_D_passRuns 43 rfl) rfl ?_
            refine x_isub (x_d C_D_passRuns 44 rfl) ⟨by omega, by omega⟩ ?_
            refine x_iconst (x_d C_D_passRuns 45 rfl) ⟨by omega, by omega⟩ ?_
            refine x_isub (x_d C_D_passRuns 46 rfl) ⟨by omega, by omega⟩ ?_
            refine x_icmp_le (tgt := 86) (x_d C_D_passRuns 47 rfl) rfl (fun c9 => ?_) (fun c9 => ?_)
            · refine x_iload_n (x_d C_D_passRuns 50 rfl) rfl ?_
              refine x_sipush (x_d C_D_passRuns 51 rfl) (by omega) ?_
              refine x_icmp_ge (tgt := 111) (x_d C_D_passRuns 52 rfl) rfl (fun q => absurd q (by omega)) (fun _ => ?_)
              refine x_aload_n (x_d C_D_passRuns 53 rfl) rfl ?_
              refine x_getfield (v := xC 21) (x_d C_D_passRuns 54 rfl) f_D_14 rfl rfl ?_
              refine x_aload_n (x_d C_D_passRuns 55 rfl) rfl ?_
              refine x_getfield (v := xC 2) (x_d C_D_passRuns 56 rfl) f_D_37 rfl rfl ?_
              refine x_iload_n (x_d C_D_passRuns 57 rfl) rfl ?_
              refine x_iconst (x_d C_D_passRuns 58 rfl) ⟨by omega, by omega⟩ ?_
              refine x_iadd (x_d C_D_passRuns 59 rfl) ⟨by omega, by omega⟩ ?_
              refine x_iload_n (x_d C_D_passRuns 60 rfl) rfl ?_
              refine x_invokevirtual (st := []) (av := [xC 2, xI (i + 1), xI (((A 2 (i).toNat) % 256) + 1)]) (x_d C_D_passRuns 61 rfl) k_D_113 m_Pa_addRow v_Pa_addRow cl_Pa rfl rfl (Nat.le_of_ble_eq_true rfl) (by omega) rfl (c_Pb_addRow_21_2 Z (d - 1) q (x_up (x_up r 578 (some 21)) 580 (some 2)) A dy s ov f bs (by omega) (i + 1) (((A 2 (i).toNat) % 256) + 1) hl hp (by omega)) ?_
              rintro _ _ ⟨rfl, s11, ov11, f11, rfl, hp11⟩
              have hp011 := hp11.1
              have hp111 := hp11.2.1
              refine x_goto (tgt := 144) (x_d C_D_passRuns 62 rfl) rfl ?_
              refine x_iload_n (x_d C_D_passRuns 80 rfl) rfl ?_
              refine x_iload_n (x_d C_D_passRuns 81 rfl) rfl ?_
              refine x_iconst (x_d C_D_passRuns 82 rfl) ⟨by omega, by omega⟩ ?_
              refine x_iadd (x_d C_D_passRuns 83 rfl) ⟨by omega, by omega⟩ ?_
              refine x_iadd (x_d C_D_passRuns 84 rfl) ⟨by omega, by omega⟩ ?_
              refine x_istore_n (l1 := [(1, xI (i + ((((A 2 (i).toNat) % 256) + 1) + 1))), (3, xI (((A 2 (i).toNat) % 256) + 1)), (2, xI ((A 2 (i).toNat) % 256)), (0, xC 18)]) (x_d C_D_passRuns 85 rfl) (by decide) rfl ?_
              refine x_goto (tgt := 5) (x_d C_D_passRuns 86 rfl) rfl ?_
              refine x_locs [3, 0] rfl ?_
              refine xW_post ?_ (ih s11 ov11 f11 _ (i + (A 2 i.toNat % 256 + 1 + 1)) (by omega) hp11)
              rintro v0 h2 ⟨s9, ov9, f9, g2, g3⟩
              refine ⟨s9, ov9, f9, g2, ?_⟩
              rw [s_runs_s, if_neg (by omega), if_neg (by omega), if_pos (by omega), if_neg (by omega), s_map_app]
              have e1 : s_sl (A 2) (i + 1).toNat (A 2 i.toNat % 256 + 1).toNat = s_sl g ((i - q 581).toNat + 1) (g (i - q 581).toNat % 256 + 1).toNat := by rw [hk0 (by omega)]; exact s_sl_eq _ _ _ (fun j hj => by have := hgi (i + 1 + j) (by omega) (by omega); rw [show (i + 1).toNat + j = (i + 1 + j).toNat by omega, this]; congr 1; omega)
              rw [e1, show (i + (A 2 i.toNat % 256 + 1 + 1) - q 581).toNat = (i - q 581).toNat + (g (i - q 581).toNat % 256).toNat + 2 by omega] at g3
              exact g3
            · refine x_iconst (x_d C_D_passRuns 48 rfl) ⟨by omega, by omega⟩ ?_
              refine x_ireturn (x_d C_D_passRuns 49 rfl) ?_
              refine ⟨s, ov, f, rfl, Or.inr ⟨rfl, fun b2 e => ?_⟩⟩
              rcases pb_ov hp with ⟨h1, h2⟩ | ⟨h1, h2⟩
              · rw [s_runs_s] at e
                first
                | (rw [if_pos (by omega)] at e; cases e; done)
                | (rw [if_neg (by omega), if_pos (by omega), if_neg (by omega)] at e; cases e; done)
                | (rw [if_neg (by omega), if_neg (by omega), if_pos (by omega), if_pos (by omega)] at e; cases e; done)
                | (rw [if_neg (by omega), if_neg (by omega), if_neg (by omega), if_pos (by omega)] at e; cases e; done)
                | omega
              · exact s_long e h2
          · refine x_iload_n (x_d C_D_passRuns 30 rfl) rfl ?_
            refine x_aload_n (x_d C_D_passRuns 31 rfl) rfl ?_
            refine x_getfield (v := xI (q 582)) (x_d C_D_passRuns 32 rfl) f_D_53 rfl rfl ?_
            refine x_iconst (x_d C_D_passRuns 33 rfl) ⟨by omega, by omega⟩ ?_
            refine x_isub (x_d C_D_passRuns 34 rfl) ⟨by omega, by omega⟩ ?_
            refine x_icmp_ne (tgt := 70) (x_d C_D_passRuns 35 rfl) rfl (fun c12 => ?_) (fun c12 => ?_)
            · refine x_iconst (x_d C_D_passRuns 38 rfl) ⟨by omega, by omega⟩ ?_
              refine x_ireturn (x_d C_D_passRuns 39 rfl) ?_
              refine ⟨s, ov, f, rfl, Or.inr ⟨rfl, fun b2 e => ?_⟩⟩
              rcases pb_ov hp with ⟨h1, h2⟩ | ⟨h1, h2⟩
              · rw [s_runs_s] at e
                first
                | (rw [if_pos (by omega)] at e; cases e; done)
                | (rw [if_neg (by omega), if_pos (by omega), if_neg (by omega)] at e; cases e; done)
                | (rw [if_neg (by omega), if_neg (by omega), if_pos (by omega), if_pos (by omega)] at e; cases e; done)
                | (rw [if_neg (by omega), if_neg (by omega), if_neg (by omega), if_pos (by omega)] at e; cases e; done)
                | omega
              · exact s_long e h2
            · refine x_iconst (x_d C_D_passRuns 36 rfl) ⟨by omega, by omega⟩ ?_
              refine x_goto (tgt := 71) (x_d C_D_passRuns 37 rfl) rfl ?_
              refine x_ireturn (x_d C_D_passRuns 39 rfl) ?_
              exact ⟨s, ov, f, rfl, Or.inl ⟨rfl, bs ++ [], by rw [s_runs_s, if_neg (by omega), if_pos (by omega), if_pos (by omega)]; rfl, pb_nil hp⟩⟩
theorem c_D_passRuns_21_2 (Z : xZ) (d : Nat) (q : Nat → Int) (r : Nat → Option Nat) (A : Nat → Nat → Int) (dy : xH) (g : Nat → Int) (n : Nat) (hd : 2 ≤ d) (s ov : Int) (f : Nat → Int) (bs : List Int) (hl : 0 ≤ q 675 ∧ q 675 ≤ 3000) (hn : 0 ≤ q 581 ∧ q 582 = q 581 + n ∧ q 582 ≤ 10248) (hg : ∀ k, k < n → A 2 ((q 581).toNat + k) = g k) (hp : pb (q 675) s ov f bs) : xMet Z d Y_D_passRuns [xC 18] (hF (x_up (x_up q 673 s) 674 ov) (x_up (x_up r 578 (some 21)) 580 (some 2)) (x_up A 22 f) ++ dy) (fun v0 h2 => ∃ s2 ov2 f2, h2 = hF (x_up (x_up q 673 s2) 674 ov2) (x_up (x_up r 578 (some 21)) 580 (some 2)) (x_up A 22 f2) ++ dy ∧ ((v0 = some (xI 1) ∧ ∃ b2, (s_frun g n).map (fun x => bs ++ x) = some b2 ∧ pb (q 675) s2 ov2 f2 b2) ∨ (v0 = some (xI 0) ∧ ∀ b2, (s_frun g n).map (fun x => bs ++ x) = some b2 → q 675 < b2.length))) := by
  refine xMet_of (by decide) (Nat.le_of_ble_eq_true rfl) (fun v0 h2 hq => by obtain ⟨_, _, _, _, ⟨e, _⟩ | ⟨e, _⟩⟩ := hq <;> rw [e]; exact Or.inr rfl; exact Or.inl rfl) ?_
  have hp0 := hp.1
  have hp1 := hp.2.1
  have hgi : ∀ u : Int, q 581 ≤ u → u < q 582 → A 2 u.toNat = g (u - q 581).toNat := fun u h1 h2 => by rw [← hg _ (by omega)]; congr 1; omega
  refine xW_ok (fun _ _ hok => ?_)
  have hbB : ∀ j, -128 ≤ A 2 j ∧ A 2 j ≤ 127 := fun j => hok _ (List.mem_of_getElem? (i := 2) rfl) j
  refine x_aload_n (x_d C_D_passRuns 0 rfl) rfl ?_
  refine x_getfield (v := xI (q 581)) (x_d C_D_passRuns 1 rfl) f_D_46 rfl rfl ?_
  refine x_istore_n (l1 := [(1, xI (q 581)), (0, xC 18)]) (x_d C_D_passRuns 2 rfl) (by decide) rfl ?_
  refine x_locs [1, 0] rfl ?_
  have := w_D_passRuns_5_21_2 Z d q r A dy g n hd hl hn hg (n + 1) s ov f bs (q 581) (by omega) hp
  rw [Int.sub_self] at this
  exact this
theorem c_D_passZeros_21_2 (Z : xZ) (d : Nat) (q : Nat → Int) (r : Nat → Option Nat) (A : Nat → Nat → Int) (dy : xH) (g : Nat → Int) (n : Nat) (hd : 2 ≤ d) (s ov : Int) (f : Nat → Int) (bs : List Int) (hl : 0 ≤ q 675 ∧ q 675 ≤ 3000) (hn : 0 ≤ q 581 ∧ q 582 = q 581 + n ∧ q 582 ≤ 10248) (hg : ∀ k, k < n → A 2 ((q 581).toNat + k) = g k) (hp : pb (q 675) s ov f bs) : xMet Z d Y_D_passZeros [xC 18] (hF (x_up (x_up q 673 s) 674 ov) (x_up (x_up r 578 (some 21)) 580 (some 2)) (x_up A 22 f) ++ dy) (fun v0 h2 => ∃ s2 ov2 f2, h2 = hF (x_up (x_up q 673 s2) 674 ov2) (x_up (x_up r 578 (some 21)) 580 (some 2)) (x_up A 22 f2) ++ dy ∧ ((v0 = some (xI 1) ∧ ∃ b2, (some (bs ++ [0, 0, 0, 0])) = some b2 ∧ pb (q 675) s2 ov2 f2 b2) ∨ (v0 = some (xI 0) ∧ ∀ b2, (some (bs ++ [0, 0, 0, 0])) = some b2 → q 675 < b2.length))) := by
  refine xMet_of (by decide) (Nat.le_of_ble_eq_true rfl) (fun v0 h2 hq => by obtain ⟨_, _, _, _, ⟨e, _⟩ | ⟨e, _⟩⟩ := hq <;> rw [e]; exact Or.inr rfl; exact Or.inl rfl) ?_
  have hp0 := hp.1
  have hp1 := hp.2.1
  have hgi : ∀ u : Int, q 581 ≤ u → u < q 582 → A 2 u.toNat = g (u - q 581).toNat := fun u h1 h2 => by rw [← hg _ (by omega)]; congr 1; omega
  refine xW_ok (fun _ _ hok => ?_)
  have hbB : ∀ j, -128 ≤ A 2 j ∧ A 2 j ≤ 127 := fun j => hok _ (List.mem_of_getElem? (i := 2) rfl) j
  refine x_iconst (x_d C_D_passZeros 0 rfl) ⟨by omega, by omega⟩ ?_
  refine x_istore_n (l1 := [(1, xI (0)), (0, xC 18)]) (x_d C_D_passZeros 1 rfl) (by decide) rfl ?_
  refine x_iload_n (x_d C_D_passZeros 2 rfl) rfl ?_
  refine x_iconst (x_d C_D_passZeros 3 rfl) ⟨by omega, by omega⟩ ?_
  refine x_icmp_ge (tgt := 21) (x_d C_D_passZeros 4 rfl) rfl (fun q => absurd q (by omega)) (fun _ => ?_)
  refine x_aload_n (x_d C_D_passZeros 5 rfl) rfl ?_
  refine x_getfield (v := xC 21) (x_d C_D_passZeros 6 rfl) f_D_14 rfl rfl ?_
  refine x_iconst (x_d C_D_passZeros 7 rfl) ⟨by omega, by omega⟩ ?_
  refine x_invokevirtual (st := []) (av := [xI (0)]) (x_d C_D_passZeros 8 rfl) k_D_110 m_Pa_add v_Pa_add cl_Pa rfl rfl (Nat.le_of_ble_eq_true rfl) (by omega) rfl (c_Pb_add_21 Z (d - 1) q (x_up (x_up r 578 (some 21)) 580 (some 2)) A dy s ov f bs 0 hl hp) ?_
  rintro _ _ ⟨rfl, s2, ov2, f2, rfl, hp2⟩
  have hp02 := hp2.1
  have hp12 := hp2.2.1
  refine x_iinc (l1 := [(1, xI (1)), (0, xC 18)]) (x_d C_D_passZeros 9 rfl) rfl ⟨by omega, by omega⟩ (by decide) rfl ?_
  refine x_goto (tgt := 2) (x_d C_D_passZeros 10 rfl) rfl ?_
  refine x_iload_n (x_d C_D_passZeros 2 rfl) rfl ?_
  refine x_iconst (x_d C_D_passZeros 3 rfl) ⟨by omega, by omega⟩ ?_
  refine x_icmp_ge (tgt := 21) (x_d C_D_passZeros 4 rfl) rfl (fun q => absurd q (by omega)) (fun _ => ?_)
  refine x_aload_n (x_d C_D_passZeros 5 rfl) rfl ?_
  refine x_getfield (v := xC 21) (x_d C_D_passZeros 6 rfl) f_D_14 rfl rfl ?_
  refine x_iconst (x_d C_D_passZeros 7 rfl) ⟨by omega, by omega⟩ ?_
  refine x_invokevirtual (st := []) (av := [xI (0)]) (x_d C_D_passZeros 8 rfl) k_D_110 m_Pa_add v_Pa_add cl_Pa rfl rfl (Nat.le_of_ble_eq_true rfl) (by omega) rfl (c_Pb_add_21 Z (d - 1) q (x_up (x_up r 578 (some 21)) 580 (some 2)) A dy s2 ov2 f2 (bs ++ ([x_by 0])) 0 hl hp2) ?_
  rintro _ _ ⟨rfl, s4, ov4, f4, rfl, hp4⟩
  have hp04 := hp4.1
  have hp14 := hp4.2.1
  refine x_iinc (l1 := [(1, xI (2)), (0, xC 18)]) (x_d C_D_passZeros 9 rfl) rfl ⟨by omega, by omega⟩ (by decide) rfl ?_
  refine x_goto (tgt := 2) (x_d C_D_passZeros 10 rfl) rfl ?_
  refine x_iload_n (x_d C_D_passZeros 2 rfl) rfl ?_
  refine x_iconst (x_d C_D_passZeros 3 rfl) ⟨by omega, by omega⟩ ?_
  refine x_icmp_ge (tgt := 21) (x_d C_D_passZeros 4 rfl) rfl (fun q => absurd q (by omega)) (fun _ => ?_)
  refine x_aload_n (x_d C_D_passZeros 5 rfl) rfl ?_
  refine x_getfield (v := xC 21) (x_d C_D_passZeros 6 rfl) f_D_14 rfl rfl ?_
  refine x_iconst (x_d C_D_passZeros 7 rfl) ⟨by omega, by omega⟩ ?_
  refine x_invokevirtual (st := []) (av := [xI (0)]) (x_d C_D_passZeros 8 rfl) k_D_110 m_Pa_add v_Pa_add cl_Pa rfl rfl (Nat.le_of_ble_eq_true rfl) (by omega) rfl (c_Pb_add_21 Z (d - 1) q (x_up (x_up r 578 (some 21)) 580 (some 2)) A dy s4 ov4 f4 (bs ++ ([x_by 0]) ++ ([x_by 0])) 0 hl hp4) ?_
  rintro _ _ ⟨rfl, s6, ov6, f6, rfl, hp6⟩
  have hp06 := hp6.1
  have hp16 := hp6.2.1
  refine x_iinc (l1 := [(1, xI (3)), (0, xC 18)]) (x_d C_D_passZeros 9 rfl) rfl ⟨by omega, by omega⟩ (by decide) rfl ?_
  refine x_goto (tgt := 2) (x_d C_D_passZeros 10 rfl) rfl ?_
  refine x_iload_n (x_d C_D_passZeros 2 rfl) rfl ?_
  refine x_iconst (x_d C_D_passZeros 3 rfl) ⟨by omega, by omega⟩ ?_
  refine x_icmp_ge (tgt := 21) (x_d C_D_passZeros 4 rfl) rfl (fun q => absurd q (by omega)) (fun _ => ?_)
  refine x_aload_n (x_d C_D_passZeros 5 rfl) rfl ?_
  refine x_getfield (v := xC 21) (x_d C_D_passZeros 6 rfl) f_D_14 rfl rfl ?_
  refine x_iconst (x_d C_D_passZeros 7 rfl) ⟨by omega, by omega⟩ ?_
  refine x_invokevirtual (st := []) (av := [xI (0)]) (x_d C_D_passZeros 8 rfl) k_D_110 m_Pa_add v_Pa_add cl_Pa rfl rfl (Nat.le_of_ble_eq_true rfl) (by omega) rfl (c_Pb_add_21 Z (d - 1) q (x_up (x_up r 578 (some 21)) 580 (some 2)) A dy s6 ov6 f6 (bs ++ ([x_by 0]) ++ ([x_by 0]) ++ ([x_by 0])) 0 hl hp6) ?_
  rintro _ _ ⟨rfl, s8, ov8, f8, rfl, hp8⟩
  have hp08 := hp8.1
  have hp18 := hp8.2.1
  refine x_iinc (l1 := [(1, xI (4)), (0, xC 18)]) (x_d C_D_passZeros 9 rfl) rfl ⟨by omega, by omega⟩ (by decide) rfl ?_
  refine x_goto (tgt := 2) (x_d C_D_passZeros 10 rfl) rfl ?_
  refine x_iload_n (x_d C_D_passZeros 2 rfl) rfl ?_
  refine x_iconst (x_d C_D_passZeros 3 rfl) ⟨by omega, by omega⟩ ?_
  refine x_icmp_ge (tgt := 21) (x_d C_D_passZeros 4 rfl) rfl (fun _ => ?_) (fun q => absurd q (by omega))
  refine x_iconst (x_d C_D_passZeros 11 rfl) ⟨by omega, by omega⟩ ?_
  refine x_ireturn (x_d C_D_passZeros 12 rfl) ?_
  refine ⟨_, _, _, rfl, Or.inl ⟨rfl, _, rfl, ?_⟩⟩
  have := hp8
  rw [List.append_assoc, List.append_assoc, List.append_assoc] at this
  exact this
theorem w_D_passGroup_5_21_2 (Z : xZ) (d : Nat) (q : Nat → Int) (r : Nat → Option Nat) (A : Nat → Nat → Int) (dy : xH) (g : Nat → Int) (n : Nat) (hd : 2 ≤ d) (s ov : Int) (f : Nat → Int) (bs : List Int) (i z : Int) (sz : Nat) (hl : 0 ≤ q 675 ∧ q 675 ≤ 3000) (hn : 0 ≤ q 581 ∧ q 582 = q 581 + n ∧ q 582 ≤ 10248) (hg : ∀ k, k < n → A 2 ((q 581).toNat + k) = g k) (hi : q 581 ≤ i ∧ z = sz ∧ 1 ≤ z ∧ z ≤ 5 ∧ i + z ≤ q 582) (kk : s_ok5d g (i - q 581).toNat sz 5 = true → xW Z d Y_D_passGroup 66 [(0, xC 18), (1, xI i), (2, xI z), (3, xJ (s_v5 g (i - q 581).toNat sz 5)), (5, xI 5)] [] (hF (x_up (x_up q 673 s) 674 ov) (x_up (x_up r 578 (some 21)) 580 (some 2)) (x_up A 22 f) ++ dy) (fun v0 h2 => ∃ s2 ov2 f2, h2 = hF (x_up (x_up q 673 s2) 674 ov2) (x_up (x_up r 578 (some 21)) 580 (some 2)) (x_up A 22 f2) ++ dy ∧ ((v0 = some (xI 1) ∧ ∃ b2, (s_grp g (i - q 581).toNat sz).map (fun x => bs ++ x) = some b2 ∧ pb (q 675) s2 ov2 f2 b2) ∨ (v0 = some (xI 0) ∧ ∀ b2, (s_grp g (i - q 581).toNat sz).map (fun x => bs ++ x) = some b2 → q 675 < b2.length)))) : ∀ (m : Nat) (k : Int), (0 ≤ k ∧ k + m = 5) → s_ok5d g (i - q 581).toNat sz k.toNat = true → xW Z d Y_D_passGroup 5 [(0, xC 18), (1, xI i), (2, xI z), (3, xJ (s_v5 g (i - q 581).toNat sz k.toNat)), (5, xI k)] [] (hF (x_up (x_up q 673 s) 674 ov) (x_up (x_up r 578 (some 21)) 580 (some 2)) (x_up A 22 f) ++ dy) (fun v0 h2 => ∃ s2 ov2 f2, h2 = hF (x_up (x_up q 673 s2) 674 ov2) (x_up (x_up r 578 (some 21)) 580 (some 2)) (x_up A 22 f2) ++ dy ∧ ((v0 = some (xI 1) ∧ ∃ b2, (s_grp g (i - q 581).toNat sz).map (fun x => bs ++ x) = some b2 ∧ pb (q 675) s2 ov2 f2 b2) ∨ (v0 = some (xI 0) ∧ ∀ b2, (s_grp g (i - q 581).toNat sz).map (fun x => bs ++ x) = some b2 → q 675 < b2.length))) := by
  intro m
  have hgi : ∀ u : Int, q 581 ≤ u → u < q 582 → A 2 u.toNat = g (u - q 581).toNat := fun u h1 h2 => by rw [← hg _ (by omega)]; congr 1; omega
  induction m with
  | zero =>
    intro k hk hok5
    obtain rfl : k = 5 := by omega
    refine x_iload (x_d C_D_passGroup 4 rfl) rfl ?_
    refine x_iconst (x_d C_D_passGroup 5 rfl) ⟨by omega, by omega⟩ ?_
    refine x_icmp_ge (tgt := 66) (x_d C_D_passGroup 6 rfl) rfl (fun _ => ?_) (fun q => absurd q (by omega))
    exact kk hok5
  | succ m ih =>
    intro k hk hok5
    have hv5 := s_v5_in hok5
    have hp5 : (85 : Int) ^ k.toNat ≤ 85 ^ 4 := s_p85 (by omega)
    have hd5 : k < z → s_d5 g (i - q 581).toNat sz k.toNat = A 2 (i + k).toNat - 33 := fun h => by unfold s_d5; rw [if_pos (by omega), hgi (i + k) (by omega) (by omega)]; congr 2; omega
    have hd6 : ¬ k < z → s_d5 g (i - q 581).toNat sz k.toNat = 84 := fun h => by unfold s_d5; rw [if_neg (by omega)]
    have hks : (k + 1).toNat = k.toNat + 1 := by omega
    refine xW_ok (fun _ _ hok => ?_)
    have hbB := hok _ (List.mem_of_getElem? (i := 2) rfl) (i + k).toNat
    have hbB : -128 ≤ A 2 (i + k).toNat ∧ A 2 (i + k).toNat ≤ 127 := hbB
    refine x_iload (x_d C_D_passGroup 4 rfl) rfl ?_
    refine x_iconst (x_d C_D_passGroup 5 rfl) ⟨by omega, by omega⟩ ?_
    refine x_icmp_ge (tgt := 66) (x_d C_D_passGroup 6 rfl) rfl (fun q => absurd q (by omega)) (fun _ => ?_)
    refine x_iload (x_d C_D_passGroup 7 rfl) rfl ?_
    refine x_iload_n (x_d C_D_passGroup 8 rfl) rfl ?_
    refine x_icmp_ge (tgt := 32) (x_d C_D_passGroup 9 rfl) rfl (fun c2 => ?_) (fun c2 => ?_)
    · refine x_bipush (x_d C_D_passGroup 19 rfl) (by omega) ?_
      refine x_istore (l1 := [(6, xI (84)), (0, xC 18), (1, xI (i)), (2, xI (z)), (3, xJ (s_v5 g (i - q 581).toNat sz k.toNat)), (5, xI (k))]) (x_d C_D_passGroup 20 rfl) (by decide) rfl ?_
      refine x_iload (x_d C_D_passGroup 21 rfl) rfl ?_
      refine x_if_lt (tgt := 48) (x_d C_D_passGroup 22 rfl) rfl (fun q => absurd q (by omega)) (fun _ => ?_)
      refine x_iload (x_d C_D_passGroup 23 rfl) rfl ?_
      refine x_bipush (x_d C_D_passGroup 24 rfl) (by omega) ?_
      refine x_icmp_le (tgt := 50) (x_d C_D_passGroup 25 rfl) rfl (fun _ => ?_) (fun q => absurd q (by omega))
      refine x_ldc2 (n := 85) (x_d C_D_passGroup 28 rfl) lc_D_130 ⟨by omega, by omega⟩ ?_
      refine x_lload_n (x_d C_D_passGroup 29 rfl) rfl ?_
      refine x_lmul (x_d C_D_passGroup 30 rfl) ⟨by omega, by omega⟩ ?_
      refine x_iload (x_d C_D_passGroup 31 rfl) rfl ?_
      refine x_i2l (x_d C_D_passGroup 32 rfl) ?_
      refine x_ladd (x_d C_D_passGroup 33 rfl) ⟨by omega, by omega⟩ ?_
      refine x_lstore_n (l1 := [(3, xJ ((85 * (s_v5 g (i - q 581).toNat sz k.toNat)) + 84)), (6, xI (84)), (0, xC 18), (1, xI (i)), (2, xI (z)), (5, xI (k))]) (x_d C_D_passGroup 34 rfl) (by decide) rfl ?_
      refine x_iinc (l1 := [(5, xI (k + 1)), (3, xJ ((85 * (s_v5 g (i - q 581).toNat sz k.toNat)) + 84)), (6, xI (84)), (0, xC 18), (1, xI (i)), (2, xI (z))]) (x_d C_D_passGroup 35 rfl) rfl ⟨by omega, by omega⟩ (by decide) rfl ?_
      refine x_goto (tgt := 5) (x_d C_D_passGroup 36 rfl) rfl ?_
      refine x_locs [3, 4, 5, 1, 0] rfl ?_
      have e1 : (85 * (s_v5 g (i - q 581).toNat sz k.toNat)) + 84 = s_v5 g (i - q 581).toNat sz (k + 1).toNat := by rw [hks]; show _ = 85 * s_v5 g (i - q 581).toNat sz k.toNat + s_d5 g (i - q 581).toNat sz k.toNat; omega
      rw [e1]
      refine ih (k + 1) (by omega) ?_
      rw [hks]
      show (s_ok5d g (i - q 581).toNat sz k.toNat && _) = true
      rw [hok5, Bool.true_and, decide_eq_true_eq]
      omega
    · refine x_aload_n (x_d C_D_passGroup 10 rfl) rfl ?_
      refine x_getfield (v := xC 2) (x_d C_D_passGroup 11 rfl) f_D_37 rfl rfl ?_
      refine x_iload_n (x_d C_D_passGroup 12 rfl) rfl ?_
      refine x_iload (x_d C_D_passGroup 13 rfl) rfl ?_
      refine x_iadd (x_d C_D_passGroup 14 rfl) ⟨by omega, by omega⟩ ?_
      refine x_baload (f := A 2) (x_d C_D_passGroup 15 rfl) rfl (by omega) (by omega) ?_
      refine x_bipush (x_d C_D_passGroup 16 rfl) (by omega) ?_
      refine x_isub (x_d C_D_passGroup 17 rfl) ⟨by omega, by omega⟩ ?_
      refine x_goto (tgt := 34) (x_d C_D_passGroup 18 rfl) rfl ?_
      refine x_istore (l1 := [(6, xI ((A 2 (i + k).toNat) - 33)), (0, xC 18), (1, xI (i)), (2, xI (z)), (3, xJ (s_v5 g (i - q 581).toNat sz k.toNat)), (5, xI (k))]) (x_d C_D_passGroup 20 rfl) (by decide) rfl ?_
      refine x_iload (x_d C_D_passGroup 21 rfl) rfl ?_
      refine x_if_lt (tgt := 48) (x_d C_D_passGroup 22 rfl) rfl (fun c5 => ?_) (fun c5 => ?_)
      · refine x_iconst (x_d C_D_passGroup 26 rfl) ⟨by omega, by omega⟩ ?_
        refine x_ireturn (x_d C_D_passGroup 27 rfl) ?_
        refine ⟨s, ov, f, rfl, Or.inr ⟨rfl, fun b2 e => ?_⟩⟩
        have hbad : s_ok5d g (i - q 581).toNat sz 5 = false := s_ok5_bad (k := k.toNat) (by omega) (by omega)
        unfold s_grp at e
        rw [if_pos (Or.inr (Or.inl hbad))] at e
        cases e
      · refine x_iload (x_d C_D_passGroup 23 rfl) rfl ?_
        refine x_bipush (x_d C_D_passGroup 24 rfl) (by omega) ?_
        refine x_icmp_le (tgt := 50) (x_d C_D_passGroup 25 rfl) rfl (fun c6 => ?_) (fun c6 => ?_)
        · refine x_ldc2 (n := 85) (x_d C_D_passGroup 28 rfl) lc_D_130 ⟨by omega, by omega⟩ ?_
          refine x_lload_n (x_d C_D_passGroup 29 rfl) rfl ?_
          refine x_lmul (x_d C_D_passGroup 30 rfl) ⟨by omega, by omega⟩ ?_
          refine x_iload (x_d C_D_passGroup 31 rfl) rfl ?_
          refine x_i2l (x_d C_D_passGroup 32 rfl) ?_
          refine x_ladd (x_d C_D_passGroup 33 rfl) ⟨by omega, by omega⟩ ?_
          refine x_lstore_n (l1 := [(3, xJ ((85 * (s_v5 g (i - q 581).toNat sz k.toNat)) + ((A 2 (i + k).toNat) - 33))), (6, xI ((A 2 (i + k).toNat) - 33)), (0, xC 18), (1, xI (i)), (2, xI (z)), (5, xI (k))]) (x_d C_D_passGroup 34 rfl) (by decide) rfl ?_
          refine x_iinc (l1 := [(5, xI (k + 1)), (3, xJ ((85 * (s_v5 g (i - q 581).toNat sz k.toNat)) + ((A 2 (i + k).toNat) - 33))), (6, xI ((A 2 (i + k).toNat) - 33)), (0, xC 18), (1, xI (i)), (2, xI (z))]) (x_d C_D_passGroup 35 rfl) rfl ⟨by omega, by omega⟩ (by decide) rfl ?_
          refine x_goto (tgt := 5) (x_d C_D_passGroup 36 rfl) rfl ?_
          refine x_locs [3, 4, 5, 1, 0] rfl ?_
          have e1 : (85 * (s_v5 g (i - q 581).toNat sz k.toNat)) + ((A 2 (i + k).toNat) - 33) = s_v5 g (i - q 581).toNat sz (k + 1).toNat := by rw [hks]; show _ = 85 * s_v5 g (i - q 581).toNat sz k.toNat + s_d5 g (i - q 581).toNat sz k.toNat; omega
          rw [e1]
          refine ih (k + 1) (by omega) ?_
          rw [hks]
          show (s_ok5d g (i - q 581).toNat sz k.toNat && _) = true
          rw [hok5, Bool.true_and, decide_eq_true_eq]
          omega
        · refine x_iconst (x_d C_D_passGroup 26 rfl) ⟨by omega, by omega⟩ ?_
          refine x_ireturn (x_d C_D_passGroup 27 rfl) ?_
          refine ⟨s, ov, f, rfl, Or.inr ⟨rfl, fun b2 e => ?_⟩⟩
          have hbad : s_ok5d g (i - q 581).toNat sz 5 = false := s_ok5_bad (k := k.toNat) (by omega) (by omega)
          unfold s_grp at e
          rw [if_pos (Or.inr (Or.inl hbad))] at e
          cases e
theorem w_D_passGroup_84_21_2 (Z : xZ) (d : Nat) (q : Nat → Int) (r : Nat → Option Nat) (A : Nat → Nat → Int) (dy : xH) (g : Nat → Int) (n : Nat) (hd : 2 ≤ d) (i z v : Int) (hl : 0 ≤ q 675 ∧ q 675 ≤ 3000) (hn : 0 ≤ q 581 ∧ q 582 = q 581 + n ∧ q 582 ≤ 10248) (hg : ∀ k, k < n → A 2 ((q 581).toNat + k) = g k) (hz : z ≤ 5 ∧ 0 ≤ v ∧ v < 4294967296) : ∀ (m : Nat) (s ov : Int) (f : Nat → Int) (bs : List Int) (k : Int), (0 ≤ k ∧ k + m = z - 1) → pb (q 675) s ov f bs → xW Z d Y_D_passGroup 84 [(0, xC 18), (1, xI i), (2, xI z), (3, xJ v), (5, xI k)] [] (hF (x_up (x_up q 673 s) 674 ov) (x_up (x_up r 578 (some 21)) 580 (some 2)) (x_up A 22 f) ++ dy) (fun v0 h2 => ∃ s2 ov2 f2, h2 = hF (x_up (x_up q 673 s2) 674 ov2) (x_up (x_up r 578 (some 21)) 580 (some 2)) (x_up A 22 f2) ++ dy ∧ ((v0 = some (xI 1) ∧ ∃ b2, (some (bs ++ s_gb v m k.toNat)) = some b2 ∧ pb (q 675) s2 ov2 f2 b2) ∨ (v0 = some (xI 0) ∧ ∀ b2, (some (bs ++ s_gb v m k.toNat)) = some b2 → q 675 < b2.length))) := by
  intro m
  induction m with
  | zero =>
    intro s ov f bs k hk hp
    have hp0 := hp.1
    have hp1 := hp.2.1
    have hgi : ∀ u : Int, q 581 ≤ u → u < q 582 → A 2 u.toNat = g (u - q 581).toNat := fun u h1 h2 => by rw [← hg _ (by omega)]; congr 1; omega
    refine xW_ok (fun _ _ hok => ?_)
    have hbB : ∀ j, -128 ≤ A 2 j ∧ A 2 j ≤ 127 := fun j => hok _ (List.mem_of_getElem? (i := 2) rfl) j
    refine x_iload (x_d C_D_passGroup 48 rfl) rfl ?_
    refine x_iload_n (x_d C_D_passGroup 49 rfl) rfl ?_
    refine x_iconst (x_d C_D_passGroup 50 rfl) ⟨by omega, by omega⟩ ?_
    refine x_isub (x_d C_D_passGroup 51 rfl) ⟨by omega, by omega⟩ ?_
    refine x_icmp_ge (tgt := 116) (x_d C_D_passGroup 52 rfl) rfl (fun _ => ?_) (fun q => absurd q (by omega))
    refine x_iconst (x_d C_D_passGroup 66 rfl) ⟨by omega, by omega⟩ ?_
    refine x_ireturn (x_d C_D_passGroup 67 rfl) ?_
    exact ⟨s, ov, f, rfl, Or.inl ⟨rfl, bs ++ [], rfl, pb_nil hp⟩⟩
  | succ m ih =>
    intro s ov f bs k hk hp
    have hp0 := hp.1
    have hp1 := hp.2.1
    have hgi : ∀ u : Int, q 581 ≤ u → u < q 582 → A 2 u.toNat = g (u - q 581).toNat := fun u h1 h2 => by rw [← hg _ (by omega)]; congr 1; omega
    refine xW_ok (fun _ _ hok => ?_)
    have hbB : ∀ j, -128 ≤ A 2 j ∧ A 2 j ≤ 127 := fun j => hok _ (List.mem_of_getElem? (i := 2) rfl) j
    refine x_iload (x_d C_D_passGroup 48 rfl) rfl ?_
    refine x_iload_n (x_d C_D_passGroup 49 rfl) rfl ?_
    refine x_iconst (x_d C_D_passGroup 50 rfl) ⟨by omega, by omega⟩ ?_
    refine x_isub (x_d C_D_passGroup 51 rfl) ⟨by omega, by omega⟩ ?_
    refine x_icmp_ge (tgt := 116) (x_d C_D_passGroup 52 rfl) rfl (fun q => absurd q (by omega)) (fun _ => ?_)
    refine x_aload_n (x_d C_D_passGroup 53 rfl) rfl ?_
    refine x_getfield (v := xC 21) (x_d C_D_passGroup 54 rfl) f_D_14 rfl rfl ?_
    refine x_lload_n (x_d C_D_passGroup 55 rfl) rfl ?_
    refine x_bipush (x_d C_D_passGroup 56 rfl) (by omega) ?_
    refine x_bipush (x_d C_D_passGroup 57 rfl) (by omega) ?_
    refine x_iload (x_d C_D_passGroup 58 rfl) rfl ?_
    refine x_imul (x_d C_D_passGroup 59 rfl) ⟨by omega, by omega⟩ ?_
    refine x_isub (x_d C_D_passGroup 60 rfl) ⟨by omega, by omega⟩ ?_
    refine x_lshr (k := (24 - (8 * k) : Int).toNat) (x_d C_D_passGroup 61 rfl) (by omega) (by omega) (by omega) (by omega) ?_
    refine x_l2iW (z := (v / 2 ^ (24 - (8 * k) : Int).toNat).bmod 4294967296) (x_d C_D_passGroup 62 rfl) (s_bm32 _) Int.bmod_emod ?_
    refine x_invokevirtual (st := []) (av := [xI ((v / 2 ^ (24 - (8 * k) : Int).toNat).bmod 4294967296)]) (x_d C_D_passGroup 63 rfl) k_D_110 m_Pa_add v_Pa_add cl_Pa rfl rfl (Nat.le_of_ble_eq_true rfl) (by omega) rfl (c_Pb_add_21 Z (d - 1) q (x_up (x_up r 578 (some 21)) 580 (some 2)) A dy s ov f bs ((v / 2 ^ (24 - (8 * k) : Int).toNat).bmod 4294967296) hl hp) ?_
    rintro _ _ ⟨rfl, s2, ov2, f2, rfl, hp2⟩
    have hp02 := hp2.1
    have hp12 := hp2.2.1
    refine x_iinc (l1 := [(5, xI (k + 1)), (0, xC 18), (1, xI (i)), (2, xI (z)), (3, xJ (v))]) (x_d C_D_passGroup 64 rfl) rfl ⟨by omega, by omega⟩ (by decide) rfl ?_
    refine x_goto (tgt := 84) (x_d C_D_passGroup 65 rfl) rfl ?_
    refine x_locs [1, 2, 3, 4, 0] rfl ?_
    refine xW_post ?_ (ih s2 ov2 f2 _ (k + 1) (by omega) hp2)
    rintro v0 h2 ⟨s9, ov9, f9, g2, g3⟩
    refine ⟨s9, ov9, f9, g2, ?_⟩
    rw [List.append_assoc, s_by_bm, show (24 - 8 * k).toNat = 24 - 8 * k.toNat by omega, show (k + 1).toNat = k.toNat + 1 by omega] at g3
    exact g3
theorem c_D_passGroup_21_2 (Z : xZ) (d : Nat) (q : Nat → Int) (r : Nat → Option Nat) (A : Nat → Nat → Int) (dy : xH) (g : Nat → Int) (n : Nat) (hd : 2 ≤ d) (s ov : Int) (f : Nat → Int) (bs : List Int) (i z : Int) (sz : Nat) (hl : 0 ≤ q 675 ∧ q 675 ≤ 3000) (hn : 0 ≤ q 581 ∧ q 582 = q 581 + n ∧ q 582 ≤ 10248) (hg : ∀ k, k < n → A 2 ((q 581).toNat + k) = g k) (hi : q 581 ≤ i ∧ z = sz ∧ 1 ≤ z ∧ z ≤ 5 ∧ i + z ≤ q 582) (hp : pb (q 675) s ov f bs) : xMet Z d Y_D_passGroup [xC 18, xI i, xI z] (hF (x_up (x_up q 673 s) 674 ov) (x_up (x_up r 578 (some 21)) 580 (some 2)) (x_up A 22 f) ++ dy) (fun v0 h2 => ∃ s2 ov2 f2, h2 = hF (x_up (x_up q 673 s2) 674 ov2) (x_up (x_up r 578 (some 21)) 580 (some 2)) (x_up A 22 f2) ++ dy ∧ ((v0 = some (xI 1) ∧ ∃ b2, (s_grp g (i - q 581).toNat sz).map (fun x => bs ++ x) = some b2 ∧ pb (q 675) s2 ov2 f2 b2) ∨ (v0 = some (xI 0) ∧ ∀ b2, (s_grp g (i - q 581).toNat sz).map (fun x => bs ++ x) = some b2 → q 675 < b2.length))) := by
  refine xMet_of (by decide) (Nat.le_of_ble_eq_true rfl) (fun v0 h2 hq => by obtain ⟨_, _, _, _, ⟨e, _⟩ | ⟨e, _⟩⟩ := hq <;> rw [e]; exact Or.inr rfl; exact Or.inl rfl) ?_
  have hp0 := hp.1
  have hp1 := hp.2.1
  have hgi : ∀ u : Int, q 581 ≤ u → u < q 582 → A 2 u.toNat = g (u - q 581).toNat := fun u h1 h2 => by rw [← hg _ (by omega)]; congr 1; omega
  refine xW_ok (fun _ _ hok => ?_)
  have hbB : ∀ j, -128 ≤ A 2 j ∧ A 2 j ≤ 127 := fun j => hok _ (List.mem_of_getElem? (i := 2) rfl) j
  refine x_lconst0 (x_d C_D_passGroup 0 rfl) ?_
  refine x_lstore_n (l1 := [(3, xJ (0)), (0, xC 18), (1, xI (i)), (2, xI (z))]) (x_d C_D_passGroup 1 rfl) (by decide) rfl ?_
  refine x_iconst (x_d C_D_passGroup 2 rfl) ⟨by omega, by omega⟩ ?_
  refine x_istore (l1 := [(5, xI (0)), (3, xJ (0)), (0, xC 18), (1, xI (i)), (2, xI (z))]) (x_d C_D_passGroup 3 rfl) (by decide) rfl ?_
  refine x_locs [2, 3, 4, 1, 0] rfl ?_
  refine w_D_passGroup_5_21_2 Z d q r A dy g n hd s ov f bs i z sz hl hn hg hi (fun hok5 => ?_) 5 0 (by omega) rfl
  have hv5 := s_v5_in hok5
  refine x_iload_n (x_d C_D_passGroup 37 rfl) rfl ?_
  refine x_iconst (x_d C_D_passGroup 38 rfl) ⟨by omega, by omega⟩ ?_
  refine x_icmp_lt (tgt := 79) (x_d C_D_passGroup 39 rfl) rfl (fun c101 => ?_) (fun c101 => ?_)
  · refine x_iconst (x_d C_D_passGroup 44 rfl) ⟨by omega, by omega⟩ ?_
    refine x_ireturn (x_d C_D_passGroup 45 rfl) ?_
    refine ⟨s, ov, f, rfl, Or.inr ⟨rfl, fun b2 e => ?_⟩⟩
    unfold s_grp at e
    unfold x_lc at *
    rw [if_pos (by first | exact Or.inl (by omega) | exact Or.inr (Or.inr (by (repeat' split at *) <;> omega)))] at e
    cases e
  · refine x_lload_n (x_d C_D_passGroup 40 rfl) rfl ?_
    refine x_ldc2 (n := 4294967296) (x_d C_D_passGroup 41 rfl) lc_D_132 ⟨by omega, by omega⟩ ?_
    refine x_lcmp (x_d C_D_passGroup 42 rfl) ?_
    refine x_if_lt (tgt := 81) (x_d C_D_passGroup 43 rfl) rfl (fun c102 => ?_) (fun c102 => ?_)
    · refine x_iconst (x_d C_D_passGroup 46 rfl) ⟨by omega, by omega⟩ ?_
      refine x_istore (l1 := [(5, xI (0)), (0, xC 18), (1, xI (i)), (2, xI (z)), (3, xJ (s_v5 g (i - q 581).toNat sz 5))]) (x_d C_D_passGroup 47 rfl) (by decide) rfl ?_
      have hlt : s_v5 g (i - q 581).toNat sz 5 < 4294967296 := by unfold x_lc at *; (repeat' split at *) <;> omega
      refine x_locs [1, 2, 3, 4, 0] rfl ?_
      have := w_D_passGroup_84_21_2 Z d q r A dy g n hd i z (s_v5 g (i - q 581).toNat sz 5) hl hn hg ⟨by omega, hv5.1, hlt⟩ (sz - 1) s ov f bs 0 (by omega) hp
      unfold s_grp
      rw [if_neg (by rintro (h | h | h); omega; rw [hok5] at h; cases h; omega)]
      exact this
    · refine x_iconst (x_d C_D_passGroup 44 rfl) ⟨by omega, by omega⟩ ?_
      refine x_ireturn (x_d C_D_passGroup 45 rfl) ?_
      refine ⟨s, ov, f, rfl, Or.inr ⟨rfl, fun b2 e => ?_⟩⟩
      unfold s_grp at e
      unfold x_lc at *
      rw [if_pos (by first | exact Or.inl (by omega) | exact Or.inr (Or.inr (by (repeat' split at *) <;> omega)))] at e
      cases e
theorem w_D_passRuns_118_21_20 (Z : xZ) (d : Nat) (q : Nat → Int) (r : Nat → Option Nat) (A : Nat → Nat → Int) (dy : xH) (hd : 1 ≤ d) (i k tk x : Int) (hl : 0 ≤ q 675 ∧ q 675 ≤ 3000) (hi : 0 ≤ i ∧ i + 1 < 3000) (hx : A 20 (i + 1).toNat = x) (Q : Option xV → xH → Prop) (hx2 : -128 ≤ x ∧ x ≤ 127) : ∀ (m : Nat) (s ov : Int) (f : Nat → Int) (bs : List Int) (t : Int), t = m ∧ m ≤ 300 → pb (q 675) s ov f bs → (∀ (s2 ov2 : Int) (f2 : Nat → Int), pb (q 675) s2 ov2 f2 (bs ++ List.replicate m x) → xW Z d Y_D_passRuns 144 [(0, xC 18), (1, xI i), (2, xI k), (3, xI tk), (4, xI 0)] [] (hF (x_up (x_up q 673 s2) 674 ov2) (x_up (x_up r 578 (some 21)) 580 (some 20)) (x_up A 22 f2) ++ dy) Q) → xW Z d Y_D_passRuns 118 [(0, xC 18), (1, xI i), (2, xI k), (3, xI tk), (4, xI t)] [] (hF (x_up (x_up q 673 s) 674 ov) (x_up (x_up r 578 (some 21)) 580 (some 20)) (x_up A 22 f) ++ dy) Q := by
  intro m
  induction m with
  | zero =>
    intro s ov f bs t ht hp kk
    obtain rfl : t = 0 := by omega
    refine x_iload (x_d C_D_passRuns 67 rfl) rfl ?_
    refine x_if_le (tgt := 144) (x_d C_D_passRuns 68 rfl) rfl (fun _ => ?_) (fun q => absurd q (by omega))
    exact kk s ov f (pb_nil hp)
  | succ m ih =>
    intro s ov f bs t ht hp kk
    have hp0 := hp.1
    have hp1 := hp.2.1
    refine x_iload (x_d C_D_passRuns 67 rfl) rfl ?_
    refine x_if_le (tgt := 144) (x_d C_D_passRuns 68 rfl) rfl (fun q => absurd q (by omega)) (fun _ => ?_)
    refine x_aload_n (x_d C_D_passRuns 69 rfl) rfl ?_
    refine x_getfield (v := xC 21) (x_d C_D_passRuns 70 rfl) f_D_14 rfl rfl ?_
    refine x_aload_n (x_d C_D_passRuns 71 rfl) rfl ?_
    refine x_getfield (v := xC 20) (x_d C_D_passRuns 72 rfl) f_D_37 rfl rfl ?_
    refine x_iload_n (x_d C_D_passRuns 73 rfl) rfl ?_
    refine x_iconst (x_d C_D_passRuns 74 rfl) ⟨by omega, by omega⟩ ?_
    refine x_iadd (x_d C_D_passRuns 75 rfl) ⟨by omega, by omega⟩ ?_
    refine x_baload (f := A 20) (x_d C_D_passRuns 76 rfl) rfl (by omega) (by omega) ?_
    refine x_invokevirtual (st := []) (av := [xI (A 20 (i + 1).toNat)]) (x_d C_D_passRuns 77 rfl) k_D_110 m_Pa_add v_Pa_add cl_Pa rfl rfl (Nat.le_of_ble_eq_true rfl) (by omega) rfl (c_Pb_add_21 Z (d - 1) q (x_up (x_up r 578 (some 21)) 580 (some 20)) A dy s ov f bs (A 20 (i + 1).toNat) hl hp) ?_
    rintro _ _ ⟨rfl, s2, ov2, f2, rfl, hp2⟩
    have hp02 := hp2.1
    have hp12 := hp2.2.1
    refine x_iinc (l1 := [(4, xI (t + (-1))), (0, xC 18), (1, xI (i)), (2, xI (k)), (3, xI (tk))]) (x_d C_D_passRuns 78 rfl) rfl ⟨by omega, by omega⟩ (by decide) rfl ?_
    refine x_goto (tgt := 118) (x_d C_D_passRuns 79 rfl) rfl ?_
    refine x_locs [1, 2, 3, 4, 0] rfl ?_
    refine ih s2 ov2 f2 _ (t + (-1)) (by omega) hp2 (fun s2 ov2 f2 h2 => kk s2 ov2 f2 ?_)
    rw [List.append_assoc, hx, x_by_id hx2] at h2
    exact h2
theorem w_D_passRuns_5_21_20 (Z : xZ) (d : Nat) (q : Nat → Int) (r : Nat → Option Nat) (A : Nat → Nat → Int) (dy : xH) (g : Nat → Int) (n : Nat) (hd : 2 ≤ d) (hl : 0 ≤ q 675 ∧ q 675 ≤ 3000) (hn : 0 ≤ q 581 ∧ q 582 = q 581 + n ∧ q 582 ≤ 3000) (hg : ∀ k, k < n → A 20 ((q 581).toNat + k) = g k) : ∀ (m : Nat) (s ov : Int) (f : Nat → Int) (bs : List Int) (i : Int), (q 581 ≤ i ∧ i ≤ q 582 ∧ q 582 < i + m) → pb (q 675) s ov f bs → xW Z d Y_D_passRuns 5 [(0, xC 18), (1, xI i)] [] (hF (x_up (x_up q 673 s) 674 ov) (x_up (x_up r 578 (some 21)) 580 (some 20)) (x_up A 22 f) ++ dy) (fun v0 h2 => ∃ s2 ov2 f2, h2 = hF (x_up (x_up q 673 s2) 674 ov2) (x_up (x_up r 578 (some 21)) 580 (some 20)) (x_up A 22 f2) ++ dy ∧ ((v0 = some (xI 1) ∧ ∃ b2, (s_runs g n m (i - q 581).toNat).map (fun x => bs ++ x) = some b2 ∧ pb (q 675) s2 ov2 f2 b2) ∨ (v0 = some (xI 0) ∧ ∀ b2, (s_runs g n m (i - q 581).toNat).map (fun x => bs ++ x) = some b2 → q 675 < b2.length))) := by
  intro m
  induction m with
  | zero =>
    intro s ov f bs i hi hp
    have hp0 := hp.1
    have hp1 := hp.2.1
    have hgi : ∀ u : Int, q 581 ≤ u → u < q 582 → A 20 u.toNat = g (u - q 581).toNat := fun u h1 h2 => by rw [← hg _ (by omega)]; congr 1; omega
    refine xW_ok (fun _ _ hok => ?_)
    have hbB : ∀ j, -128 ≤ A 20 j ∧ A 20 j ≤ 127 := fun j => hok _ (List.mem_of_getElem? (i := 20) rfl) j
    omega
  | succ m ih =>
    intro s ov f bs i hi hp
    have hp0 := hp.1
    have hp1 := hp.2.1
    have hgi : ∀ u : Int, q 581 ≤ u → u < q 582 → A 20 u.toNat = g (u - q 581).toNat := fun u h1 h2 => by rw [← hg _ (by omega)]; congr 1; omega
    refine xW_ok (fun _ _ hok => ?_)
    have hbB : ∀ j, -128 ≤ A 20 j ∧ A 20 j ≤ 127 := fun j => hok _ (List.mem_of_getElem? (i := 20) rfl) j
    have hk0 : i < q 582 → g (i - q 581).toNat = A 20 i.toNat := fun h => (hgi i (by omega) h).symm
    have hk1 : i + 1 < q 582 → g ((i - q 581).toNat + 1) = A 20 (i + 1).toNat := fun h => by rw [hgi (i + 1) (by omega) h]; congr 1; omega
    refine x_iload_n (x_d C_D_passRuns 3 rfl) rfl ?_
    refine x_aload_n (x_d C_D_passRuns 4 rfl) rfl ?_
    refine x_getfield (v := xI (q 582)) (x_d C_D_passRuns 5 rfl) f_D_53 rfl rfl ?_
    refine x_icmp_ge (tgt := 153) (x_d C_D_passRuns 6 rfl) rfl (fun c1 => ?_) (fun c1 => ?_)
    · refine x_iconst (x_d C_D_passRuns 87 rfl) ⟨by omega, by omega⟩ ?_
      refine x_ireturn (x_d C_D_passRuns 88 rfl) ?_
      refine ⟨s, ov, f, rfl, Or.inr ⟨rfl, fun b2 e => ?_⟩⟩
      rcases pb_ov hp with ⟨h1, h2⟩ | ⟨h1, h2⟩
      · rw [s_runs_s] at e
        first
        | (rw [if_pos (by omega)] at e; cases e; done)
        | (rw [if_neg (by omega), if_pos (by omega), if_neg (by omega)] at e; cases e; done)
        | (rw [if_neg (by omega), if_neg (by omega), if_pos (by omega), if_pos (by omega)] at e; cases e; done)
        | (rw [if_neg (by omega), if_neg (by omega), if_neg (by omega), if_pos (by omega)] at e; cases e; done)
        | omega
      · exact s_long e h2
    · refine x_aload_n (x_d C_D_passRuns 7 rfl) rfl ?_
      refine x_getfield (v := xC 21) (x_d C_D_passRuns 8 rfl) f_D_14 rfl rfl ?_
      refine x_getfield (v := xI (ov)) (x_d C_D_passRuns 9 rfl) f_D_79 rfl rfl ?_
      refine x_if_ne (tgt := 153) (x_d C_D_passRuns 10 rfl) rfl (fun c2 => ?_) (fun c2 => ?_)
      · refine x_iconst (x_d C_D_passRuns 87 rfl) ⟨by omega, by omega⟩ ?_
        refine x_ireturn (x_d C_D_passRuns 88 rfl) ?_
        refine ⟨s, ov, f, rfl, Or.inr ⟨rfl, fun b2 e => ?_⟩⟩
        rcases pb_ov hp with ⟨h1, h2⟩ | ⟨h1, h2⟩
        · rw [s_runs_s] at e
          first
          | (rw [if_pos (by omega)] at e; cases e; done)
          | (rw [if_neg (by omega), if_pos (by omega), if_neg (by omega)] at e; cases e; done)
          | (rw [if_neg (by omega), if_neg (by omega), if_pos (by omega), if_pos (by omega)] at e; cases e; done)
          | (rw [if_neg (by omega), if_neg (by omega), if_neg (by omega), if_pos (by omega)] at e; cases e; done)
          | omega
        · exact s_long e h2
      · refine x_aload_n (x_d C_D_passRuns 11 rfl) rfl ?_
        refine x_getfield (v := xC 20) (x_d C_D_passRuns 12 rfl) f_D_37 rfl rfl ?_
        refine x_iload_n (x_d C_D_passRuns 13 rfl) rfl ?_
        refine x_baload (f := A 20) (x_d C_D_passRuns 14 rfl) rfl (by omega) (by omega) ?_
        refine x_sipush (x_d C_D_passRuns 15 rfl) (by omega) ?_
        refine x_iand255 (x_d C_D_passRuns 16 rfl) ?_
        refine x_istore_n (l1 := [(2, xI ((A 20 (i).toNat) % 256)), (0, xC 18), (1, xI (i))]) (x_d C_D_passRuns 17 rfl) (by decide) rfl ?_
        refine x_iload_n (x_d C_D_passRuns 18 rfl) rfl ?_
        refine x_sipush (x_d C_D_passRuns 19 rfl) (by omega) ?_
        refine x_icmp_ge (tgt := 47) (x_d C_D_passRuns 20 rfl) rfl (fun c3 => ?_) (fun c3 => ?_)
        · refine x_iconst (x_d C_D_passRuns 25 rfl) ⟨by omega, by omega⟩ ?_
          refine x_istore_n (l1 := [(3, xI (1)), (2, xI ((A 20 (i).toNat) % 256)), (0, xC 18), (1, xI (i))]) (x_d C_D_passRuns 26 rfl) (by decide) rfl ?_
          refine x_iload_n (x_d C_D_passRuns 27 rfl) rfl ?_
          refine x_sipush (x_d C_D_passRuns 28 rfl) (by omega) ?_
          refine x_icmp_ne (tgt := 72) (x_d C_D_passRuns 29 rfl) rfl (fun c4 => ?_) (fun c4 => ?_)
          · refine x_iload_n (x_d C_D_passRuns 40 rfl) rfl ?_
            refine x_aload_n (x_d C_D_passRuns 41 rfl) rfl ?_
            refine x_getfield (v := xI (q 582)) (x_d C_D_passRuns 42 rfl) f_D_53 rfl rfl ?_
            refine x_iload_n (x_d C_D_passRuns 43 rfl) rfl ?_
            refine x_isub (x_d C_D_passRuns 44 rfl) ⟨by omega, by omega⟩ ?_
            refine x_iconst (x_d C_D_passRuns 45 rfl) ⟨by omega, by omega⟩ ?_
            refine x_isub (x_d C_D_passRuns 46 rfl) ⟨by omega, by omega⟩ ?_
            refine x_icmp_le (tgt := 86) (x_d C_D_passRuns 47 rfl) rfl (fun c5 => ?_) (fun c5 => ?_)
            · refine x_iload_n (x_d C_D_passRuns 50 rfl) rfl ?_
              refine x_sipush (x_d C_D_passRuns 51 rfl) (by omega) ?_
              refine x_icmp_ge (tgt := 111) (x_d C_D_passRuns 52 rfl) rfl (fun _ => ?_) (fun q => absurd q (by omega))
              refine x_sipush (x_d C_D_passRuns 63 rfl) (by omega) ?_
              refine x_iload_n (x_d C_D_passRuns 64 rfl) rfl ?_
              refine x_isub (x_d C_D_passRuns 65 rfl) ⟨by omega, by omega⟩ ?_
              refine x_istore (l1 := [(4, xI (257 - ((A 20 (i).toNat) % 256))), (3, xI (1)), (2, xI ((A 20 (i).toNat) % 256)), (0, xC 18), (1, xI (i))]) (x_d C_D_passRuns 66 rfl) (by decide) rfl ?_
              refine x_locs [3, 4, 2, 1, 0] rfl ?_
              refine w_D_passRuns_118_21_20 Z d q r A dy (by omega) i _ _ _ hl (by omega) rfl _ (hbB _) (257 - A 20 i.toNat % 256).toNat s ov f bs _ (by omega) hp (fun s8 ov8 f8 h8 => ?_)
              refine x_iload_n (x_d C_D_passRuns 80 rfl) rfl ?_
              refine x_iload_n (x_d C_D_passRuns 81 rfl) rfl ?_
              refine x_iconst (x_d C_D_passRuns 82 rfl) ⟨by omega, by omega⟩ ?_
              refine x_iadd (x_d C_D_passRuns 83 rfl) ⟨by omega, by omega⟩ ?_
              refine x_iadd (x_d C_D_passRuns 84 rfl) ⟨by omega, by omega⟩ ?_
              refine x_istore_n (l1 := [(1, xI (i + (1 + 1))), (0, xC 18), (2, xI ((A 20 (i).toNat) % 256)), (3, xI (1)), (4, xI (0))]) (x_d C_D_passRuns 85 rfl) (by decide) rfl ?_
              refine x_goto (tgt := 5) (x_d C_D_passRuns 86 rfl) rfl ?_
              refine x_locs [1, 0] rfl ?_
              refine xW_post ?_ (ih s8 ov8 f8 _ (i + (1 + 1)) (by omega) h8)
              rintro v0 h2 ⟨s9, ov9, f9, g2, g3⟩
              refine ⟨s9, ov9, f9, g2, ?_⟩
              rw [s_runs_s, if_neg (by omega), if_neg (by omega), if_neg (by omega), if_neg (by omega), s_map_app, hk0 (by omega), hk1 (by omega)]
              rw [show (i + (1 + 1) - q 581).toNat = (i - q 581).toNat + 2 by omega] at g3
              exact g3
            · refine x_iconst (x_d C_D_passRuns 48 rfl) ⟨by omega, by omega⟩ ?_
              refine x_ireturn (x_d C_D_passRuns 49 rfl) ?_
              refine ⟨s, ov, f, rfl, Or.inr ⟨rfl, fun b2 e => ?_⟩⟩
              rcases pb_ov hp with ⟨h1, h2⟩ | ⟨h1, h2⟩
              · rw [s_runs_s] at e
                first
                | (rw [if_pos (by omega)] at e; cases e; done)
                | (rw [if_neg (by omega), if_pos (by omega), if_neg (by omega)] at e; cases e; done)
                | (rw [if_neg (by omega), if_neg (by omega), if_pos (by omega), if_pos (by omega)] at e; cases e; done)
                | (rw [if_neg (by omega), if_neg (by omega), if_neg (by omega), if_pos (by omega)] at e; cases e; done)
                | omega
              · exact s_long e h2
          · refine x_iload_n (x_d C_D_passRuns 30 rfl) rfl ?_
            refine x_aload_n (x_d C_D_passRuns 31 rfl) rfl ?_
            refine x_getfield (v := xI (q 582)) (x_d C_D_passRuns 32 rfl) f_D_53 rfl rfl ?_
            refine x_iconst (x_d C_D_passRuns 33 rfl) ⟨by omega, by omega⟩ ?_
            refine x_isub (x_d C_D_passRuns 34 rfl) ⟨by omega, by omega⟩ ?_
            refine x_icmp_ne (tgt := 70) (x_d C_D_passRuns 35 rfl) rfl (fun c7 => ?_) (fun c7 => ?_)
            · refine x_iconst (x_d C_D_passRuns 38 rfl) ⟨by omega, by omega⟩ ?_
              refine x_ireturn (x_d C_D_passRuns 39 rfl) ?_
              refine ⟨s, ov, f, rfl, Or.inr ⟨rfl, fun b2 e => ?_⟩⟩
              rcases pb_ov hp with ⟨h1, h2⟩ | ⟨h1, h2⟩
              · rw [s_runs_s] at e
                first
                | (rw [if_pos (by omega)] at e; cases e; done)
                | (rw [if_neg (by omega), if_pos (by omega), if_neg (by omega)] at e; cases e; done)
                | (rw [if_neg (by omega), if_neg (by omega), if_pos (by omega), if_pos (by omega)] at e; cases e; done)
                | (rw [if_neg (by omega), if_neg (by omega), if_neg (by omega), if_pos (by omega)] at e; cases e; done)
                | omega
              · exact s_long e h2
            · refine x_iconst (x_d C_D_passRuns 36 rfl) ⟨by omega, by omega⟩ ?_
              refine x_goto (tgt := 71) (x_d C_D_passRuns 37 rfl) rfl ?_
              refine x_ireturn (x_d C_D_passRuns 39 rfl) ?_
              exact ⟨s, ov, f, rfl, Or.inl ⟨rfl, bs ++ [], by rw [s_runs_s, if_neg (by omega), if_pos (by omega), if_pos (by omega)]; rfl, pb_nil hp⟩⟩
        · refine x_iload_n (x_d C_D_passRuns 21 rfl) rfl ?_
          refine x_iconst (x_d C_D_passRuns 22 rfl) ⟨by omega, by omega⟩ ?_
          refine x_iadd (x_d C_D_passRuns 23 rfl) ⟨by omega, by omega⟩ ?_
          refine x_goto (tgt := 48) (x_d C_D_passRuns 24 rfl) rfl ?_
          refine x_istore_n (l1 := [(3, xI (((A 20 (i).toNat) % 256) + 1)), (2, xI ((A 20 (i).toNat) % 256)), (0, xC 18), (1, xI (i))]) (x_d C_D_passRuns 26 rfl) (by decide) rfl ?_
          refine x_iload_n (x_d C_D_passRuns 27 rfl) rfl ?_
          refine x_sipush (x_d C_D_passRuns 28 rfl) (by omega) ?_
          refine x_icmp_ne (tgt := 72) (x_d C_D_passRuns 29 rfl) rfl (fun c8 => ?_) (fun c8 => ?_)
          · refine x_iload_n (x_d C_D_passRuns 40 rfl) rfl ?_
            refine x_aload_n (x_d C_D_passRuns 41 rfl) rfl ?_
            refine x_getfield (v := xI (q 582)) (x_d C_D_passRuns 42 rfl) f_D_53 rfl rfl ?_
            refine x_iload_n (x_d C_D_passRuns 43 rfl) rfl ?_
            refine x_isub (x_d C_D_passRuns 44 rfl) ⟨by omega, by omega⟩ ?_
            refine x_iconst (x_d C_D_passRuns 45 rfl) ⟨by omega, by omega⟩ ?_
            refine x_isub (x_d C_D_passRuns 46 rfl) ⟨by omega, by omega⟩ ?_
            refine x_icmp_le (tgt := 86) (x_d C_D_passRuns 47 rfl) rfl (fun c9 => ?_) (fun c9 => ?_)
            · refine x_iload_n (x_d C_D_passRuns 50 rfl) rfl ?_
              refine x_sipush (x_d C_D_passRuns 51 rfl) (by omega) ?_
              refine x_icmp_ge (tgt := 111) (x_d C_D_passRuns 52 rfl) rfl (fun q => absurd q (by omega)) (fun _ => ?_)
              refine x_aload_n (x_d C_D_passRuns 53 rfl) rfl ?_
              refine x_getfield (v := xC 21) (x_d C_D_passRuns 54 rfl) f_D_14 rfl rfl ?_
              refine x_aload_n (x_d C_D_passRuns 55 rfl) rfl ?_
              refine x_getfield (v := xC 20) (x_d C_D_passRuns 56 rfl) f_D_37 rfl rfl ?_
              refine x_iload_n (x_d C_D_passRuns 57 rfl) rfl ?_
              refine x_iconst (x_d C_D_passRuns 58 rfl) ⟨by omega, by omega⟩ ?_
              refine x_iadd (x_d C_D_passRuns 59 rfl) ⟨by omega, by omega⟩ ?_
              refine x_iload_n (x_d C_D_passRuns 60 rfl) rfl ?_
              refine x_invokevirtual (st := []) (av := [xC 20, xI (i + 1), xI (((A 20 (i).toNat) % 256) + 1)]) (x_d C_D_passRuns 61 rfl) k_D_113 m_Pa_addRow v_Pa_addRow cl_Pa rfl rfl (Nat.le_of_ble_eq_true rfl) (by omega) rfl (c_Pb_addRow_21_20 Z (d - 1) q (x_up (x_up r 578 (some 21)) 580 (some 20)) A dy s ov f bs (by omega) (i + 1) (((A 20 (i).toNat) % 256) + 1) hl hp (by omega)) ?_
              rintro _ _ ⟨rfl, s11, ov11, f11, rfl, hp11⟩
              have hp011 := hp11.1
              have hp111 := hp11.2.1
              refine x_goto (tgt := 144) (x_d C_D_passRuns 62 rfl) rfl ?_
              refine x_iload_n (x_d C_D_passRuns 80 rfl) rfl ?_
              refine x_iload_n (x_d C_D_passRuns 81 rfl) rfl ?_
              refine x_iconst (x_d C_D_passRuns 82 rfl) ⟨by omega, by omega⟩ ?_
              refine x_iadd (x_d C_D_passRuns 83 rfl) ⟨by omega, by omega⟩ ?_
              refine x_iadd (x_d C_D_passRuns 84 rfl) ⟨by omega, by omega⟩ ?_
              refine x_istore_n (l1 := [(1, xI (i + ((((A 20 (i).toNat) % 256) + 1) + 1))), (3, xI (((A 20 (i).toNat) % 256) + 1)), (2, xI ((A 20 (i).toNat) % 256)), (0, xC 18)]) (x_d C_D_passRuns 85 rfl) (by decide) rfl ?_
              refine x_goto (tgt := 5) (x_d C_D_passRuns 86 rfl) rfl ?_
              refine x_locs [3, 0] rfl ?_
              refine xW_post ?_ (ih s11 ov11 f11 _ (i + (A 20 i.toNat % 256 + 1 + 1)) (by omega) hp11)
              rintro v0 h2 ⟨s9, ov9, f9, g2, g3⟩
              refine ⟨s9, ov9, f9, g2, ?_⟩
              rw [s_runs_s, if_neg (by omega), if_neg (by omega), if_pos (by omega), if_neg (by omega), s_map_app]
              have e1 : s_sl (A 20) (i + 1).toNat (A 20 i.toNat % 256 + 1).toNat = s_sl g ((i - q 581).toNat + 1) (g (i - q 581).toNat % 256 + 1).toNat := by rw [hk0 (by omega)]; exact s_sl_eq _ _ _ (fun j hj => by have := hgi (i + 1 + j) (by omega) (by omega); rw [show (i + 1).toNat + j = (i + 1 + j).toNat by omega, this]; congr 1; omega)
              rw [e1, show (i + (A 20 i.toNat % 256 + 1 + 1) - q 581).toNat = (i - q 581).toNat + (g (i - q 581).toNat % 256).toNat + 2 by omega] at g3
              exact g3
            · refine x_iconst (x_d C_D_passRuns 48 rfl) ⟨by omega, by omega⟩ ?_
              refine x_ireturn (x_d C_D_passRuns 49 rfl) ?_
              refine ⟨s, ov, f, rfl, Or.inr ⟨rfl, fun b2 e => ?_⟩⟩
              rcases pb_ov hp with ⟨h1, h2⟩ | ⟨h1, h2⟩
              · rw [s_runs_s] at e
                first
                | (rw [if_pos (by omega)] at e; cases e; done)
                | (rw [if_neg (by omega), if_pos (by omega), if_neg (by omega)] at e; cases e; done)
                | (rw [if_neg (by omega), if_neg (by omega), if_pos (by omega), if_pos (by omega)] at e; cases e; done)
                | (rw [if_neg (by omega), if_neg (by omega), if_neg (by omega), if_pos (by omega)] at e; cases e; done)
                | omega
              · exact s_long e h2
          · refine x_iload_n (x_d C_D_passRuns 30 rfl) rfl ?_
            refine x_aload_n (x_d C_D_passRuns 31 rfl) rfl ?_
            refine x_getfield (v := xI (q 582)) (x_d C_D_passRuns 32 rfl) f_D_53 rfl rfl ?_
            refine x_iconst (x_d C_D_passRuns 33 rfl) ⟨by omega, by omega⟩ ?_
            refine x_isub (x_d C_D_passRuns 34 rfl) ⟨by omega, by omega⟩ ?_
            refine x_icmp_ne (tgt := 70) (x_d C_D_passRuns 35 rfl) rfl (fun c12 => ?_) (fun c12 => ?_)
            · refine x_iconst (x_d C_D_passRuns 38 rfl) ⟨by omega, by omega⟩ ?_
              refine x_ireturn (x_d C_D_passRuns 39 rfl) ?_
              refine ⟨s, ov, f, rfl, Or.inr ⟨rfl, fun b2 e => ?_⟩⟩
              rcases pb_ov hp with ⟨h1, h2⟩ | ⟨h1, h2⟩
              · rw [s_runs_s] at e
                first
                | (rw [if_pos (by omega)] at e; cases e; done)
                | (rw [if_neg (by omega), if_pos (by omega), if_neg (by omega)] at e; cases e; done)
                | (rw [if_neg (by omega), if_neg (by omega), if_pos (by omega), if_pos (by omega)] at e; cases e; done)
                | (rw [if_neg (by omega), if_neg (by omega), if_neg (by omega), if_pos (by omega)] at e; cases e; done)
                | omega
              · exact s_long e h2
            · refine x_iconst (x_d C_D_passRuns 36 rfl) ⟨by omega, by omega⟩ ?_
              refine x_goto (tgt := 71) (x_d C_D_passRuns 37 rfl) rfl ?_
              refine x_ireturn (x_d C_D_passRuns 39 rfl) ?_
              exact ⟨s, ov, f, rfl, Or.inl ⟨rfl, bs ++ [], by rw [s_runs_s, if_neg (by omega), if_pos (by omega), if_pos (by omega)]; rfl, pb_nil hp⟩⟩
theorem c_D_passRuns_21_20 (Z : xZ) (d : Nat) (q : Nat → Int) (r : Nat → Option Nat) (A : Nat → Nat → Int) (dy : xH) (g : Nat → Int) (n : Nat) (hd : 2 ≤ d) (s ov : Int) (f : Nat → Int) (bs : List Int) (hl : 0 ≤ q 675 ∧ q 675 ≤ 3000) (hn : 0 ≤ q 581 ∧ q 582 = q 581 + n ∧ q 582 ≤ 3000) (hg : ∀ k, k < n → A 20 ((q 581).toNat + k) = g k) (hp : pb (q 675) s ov f bs) : xMet Z d Y_D_passRuns [xC 18] (hF (x_up (x_up q 673 s) 674 ov) (x_up (x_up r 578 (some 21)) 580 (some 20)) (x_up A 22 f) ++ dy) (fun v0 h2 => ∃ s2 ov2 f2, h2 = hF (x_up (x_up q 673 s2) 674 ov2) (x_up (x_up r 578 (some 21)) 580 (some 20)) (x_up A 22 f2) ++ dy ∧ ((v0 = some (xI 1) ∧ ∃ b2, (s_frun g n).map (fun x => bs ++ x) = some b2 ∧ pb (q 675) s2 ov2 f2 b2) ∨ (v0 = some (xI 0) ∧ ∀ b2, (s_frun g n).map (fun x => bs ++ x) = some b2 → q 675 < b2.length))) := by
  refine xMet_of (by decide) (Nat.le_of_ble_eq_true rfl) (fun v0 h2 hq => by obtain ⟨_, _, _, _, ⟨e, _⟩ | ⟨e, _⟩⟩ := hq <;> rw [e]; exact Or.inr rfl; exact Or.inl rfl) ?_
  have hp0 := hp.1
  have hp1 := hp.2.1
  have hgi : ∀ u : Int, q 581 ≤ u → u < q 582 → A 20 u.toNat = g (u - q 581).toNat := fun u h1 h2 => by rw [← hg _ (by omega)]; congr 1; omega
  refine xW_ok (fun _ _ hok => ?_)
  have hbB : ∀ j, -128 ≤ A 20 j ∧ A 20 j ≤ 127 := fun j => hok _ (List.mem_of_getElem? (i := 20) rfl) j
  refine x_aload_n (x_d C_D_passRuns 0 rfl) rfl ?_
  refine x_getfield (v := xI (q 581)) (x_d C_D_passRuns 1 rfl) f_D_46 rfl rfl ?_
  refine x_istore_n (l1 := [(1, xI (q 581)), (0, xC 18)]) (x_d C_D_passRuns 2 rfl) (by decide) rfl ?_
  refine x_locs [1, 0] rfl ?_
  have := w_D_passRuns_5_21_20 Z d q r A dy g n hd hl hn hg (n + 1) s ov f bs (q 581) (by omega) hp
  rw [Int.sub_self] at this
  exact this
theorem c_D_passZeros_21_20 (Z : xZ) (d : Nat) (q : Nat → Int) (r : Nat → Option Nat) (A : Nat → Nat → Int) (dy : xH) (g : Nat → Int) (n : Nat) (hd : 2 ≤ d) (s ov : Int) (f : Nat → Int) (bs : List Int) (hl : 0 ≤ q 675 ∧ q 675 ≤ 3000) (hn : 0 ≤ q 581 ∧ q 582 = q 581 + n ∧ q 582 ≤ 3000) (hg : ∀ k, k < n → A 20 ((q 581).toNat + k) = g k) (hp : pb (q 675) s ov f bs) : xMet Z d Y_D_passZeros [xC 18] (hF (x_up (x_up q 673 s) 674 ov) (x_up (x_up r 578 (some 21)) 580 (some 20)) (x_up A 22 f) ++ dy) (fun v0 h2 => ∃ s2 ov2 f2, h2 = hF (x_up (x_up q 673 s2) 674 ov2) (x_up (x_up r 578 (some 21)) 580 (some 20)) (x_up A 22 f2) ++ dy ∧ ((v0 = some (xI 1) ∧ ∃ b2, (some (bs ++ [0, 0, 0, 0])) = some b2 ∧ pb (q 675) s2 ov2 f2 b2) ∨ (v0 = some (xI 0) ∧ ∀ b2, (some (bs ++ [0, 0, 0, 0])) = some b2 → q 675 < b2.length))) := by
  refine xMet_of (by decide) (Nat.le_of_ble_eq_true rfl) (fun v0 h2 hq => by obtain ⟨_, _, _, _, ⟨e, _⟩ | ⟨e, _⟩⟩ := hq <;> rw [e]; exact Or.inr rfl; exact Or.inl rfl) ?_
  have hp0 := hp.1
  have hp1 := hp.2.1
  have hgi : ∀ u : Int, q 581 ≤ u → u < q 582 → A 20 u.toNat = g (u - q 581).toNat := fun u h1 h2 => by rw [← hg _ (by omega)]; congr 1; omega
  refine xW_ok (fun _ _ hok => ?_)
  have hbB : ∀ j, -128 ≤ A 20 j ∧ A 20 j ≤ 127 := fun j => hok _ (List.mem_of_getElem? (i := 20) rfl) j
  refine x_iconst (x_d C_D_passZeros 0 rfl) ⟨by omega, by omega⟩ ?_
  refine x_istore_n (l1 := [(1, xI (0)), (0, xC 18)]) (x_d C_D_passZeros 1 rfl) (by decide) rfl ?_
  refine x_iload_n (x_d C_D_passZeros 2 rfl) rfl ?_
  refine x_iconst (x_d C_D_passZeros 3 rfl) ⟨by omega, by omega⟩ ?_
  refine x_icmp_ge (tgt := 21) (x_d C_D_passZeros 4 rfl) rfl (fun q => absurd q (by omega)) (fun _ => ?_)
  refine x_aload_n (x_d C_D_passZeros 5 rfl) rfl ?_
  refine x_getfield (v := xC 21) (x_d C_D_passZeros 6 rfl) f_D_14 rfl rfl ?_
  refine x_iconst (x_d C_D_passZeros 7 rfl) ⟨by omega, by omega⟩ ?_
  refine x_invokevirtual (st := []) (av := [xI (0)]) (x_d C_D_passZeros 8 rfl) k_D_110 m_Pa_add v_Pa_add cl_Pa rfl rfl (Nat.le_of_ble_eq_true rfl) (by omega) rfl (c_Pb_add_21 Z (d - 1) q (x_up (x_up r 578 (some 21)) 580 (some 20)) A dy s ov f bs 0 hl hp) ?_
  rintro _ _ ⟨rfl, s2, ov2, f2, rfl, hp2⟩
  have hp02 := hp2.1
  have hp12 := hp2.2.1
  refine x_iinc (l1 := [(1, xI (1)), (0, xC 18)]) (x_d C_D_passZeros 9 rfl) rfl ⟨by omega, by omega⟩ (by decide) rfl ?_
  refine x_goto (tgt := 2) (x_d C_D_passZeros 10 rfl) rfl ?_
  refine x_iload_n (x_d C_D_passZeros 2 rfl) rfl ?_
  refine x_iconst (x_d C_D_passZeros 3 rfl) ⟨by omega, by omega⟩ ?_
  refine x_icmp_ge (tgt := 21) (x_d C_D_passZeros 4 rfl) rfl (fun q => absurd q (by omega)) (fun _ => ?_)
  refine x_aload_n (x_d C_D_passZeros 5 rfl) rfl ?_
  refine x_getfield (v := xC 21) (x_d C_D_passZeros 6 rfl) f_D_14 rfl rfl ?_
  refine x_iconst (x_d C_D_passZeros 7 rfl) ⟨by omega, by omega⟩ ?_
  refine x_invokevirtual (st := []) (av := [xI (0)]) (x_d C_D_passZeros 8 rfl) k_D_110 m_Pa_add v_Pa_add cl_Pa rfl rfl (Nat.le_of_ble_eq_true rfl) (by omega) rfl (c_Pb_add_21 Z (d - 1) q (x_up (x_up r 578 (some 21)) 580 (some 20)) A dy s2 ov2 f2 (bs ++ ([x_by 0])) 0 hl hp2) ?_
  rintro _ _ ⟨rfl, s4, ov4, f4, rfl, hp4⟩
  have hp04 := hp4.1
  have hp14 := hp4.2.1
  refine x_iinc (l1 := [(1, xI (2)), (0, xC 18)]) (x_d C_D_passZeros 9 rfl) rfl ⟨by omega, by omega⟩ (by decide) rfl ?_
  refine x_goto (tgt := 2) (x_d C_D_passZeros 10 rfl) rfl ?_
  refine x_iload_n (x_d C_D_passZeros 2 rfl) rfl ?_
  refine x_iconst (x_d C_D_passZeros 3 rfl) ⟨by omega, by omega⟩ ?_
  refine x_icmp_ge (tgt := 21) (x_d C_D_passZeros 4 rfl) rfl (fun q => absurd q (by omega)) (fun _ => ?_)
  refine x_aload_n (x_d C_D_passZeros 5 rfl) rfl ?_
  refine x_getfield (v := xC 21) (x_d C_D_passZeros 6 rfl) f_D_14 rfl rfl ?_
  refine x_iconst (x_d C_D_passZeros 7 rfl) ⟨by omega, by omega⟩ ?_
  refine x_invokevirtual (st := []) (av := [xI (0)]) (x_d C_D_passZeros 8 rfl) k_D_110 m_Pa_add v_Pa_add cl_Pa rfl rfl (Nat.le_of_ble_eq_true rfl) (by omega) rfl (c_Pb_add_21 Z (d - 1) q (x_up (x_up r 578 (some 21)) 580 (some 20)) A dy s4 ov4 f4 (bs ++ ([x_by 0]) ++ ([x_by 0])) 0 hl hp4) ?_
  rintro _ _ ⟨rfl, s6, ov6, f6, rfl, hp6⟩
  have hp06 := hp6.1
  have hp16 := hp6.2.1
  refine x_iinc (l1 := [(1, xI (3)), (0, xC 18)]) (x_d C_D_passZeros 9 rfl) rfl ⟨by omega, by omega⟩ (by decide) rfl ?_
  refine x_goto (tgt := 2) (x_d C_D_passZeros 10 rfl) rfl ?_
  refine x_iload_n (x_d C_D_passZeros 2 rfl) rfl ?_
  refine x_iconst (x_d C_D_passZeros 3 rfl) ⟨by omega, by omega⟩ ?_
  refine x_icmp_ge (tgt := 21) (x_d C_D_passZeros 4 rfl) rfl (fun q => absurd q (by omega)) (fun _ => ?_)
  refine x_aload_n (x_d C_D_passZeros 5 rfl) rfl ?_
  refine x_getfield (v := xC 21) (x_d C_D_passZeros 6 rfl) f_D_14 rfl rfl ?_
  refine x_iconst (x_d C_D_passZeros 7 rfl) ⟨by omega, by omega⟩ ?_
  refine x_invokevirtual (st := []) (av := [xI (0)]) (x_d C_D_passZeros 8 rfl) k_D_110 m_Pa_add v_Pa_add cl_Pa rfl rfl (Nat.le_of_ble_eq_true rfl) (by omega) rfl (c_Pb_add_21 Z (d - 1) q (x_up (x_up r 578 (some 21)) 580 (some 20)) A dy s6 ov6 f6 (bs ++ ([x_by 0]) ++ ([x_by 0]) ++ ([x_by 0])) 0 hl hp6) ?_
  rintro _ _ ⟨rfl, s8, ov8, f8, rfl, hp8⟩
  have hp08 := hp8.1
  have hp18 := hp8.2.1
  refine x_iinc (l1 := [(1, xI (4)), (0, xC 18)]) (x_d C_D_passZeros 9 rfl) rfl ⟨by omega, by omega⟩ (by decide) rfl ?_
  refine x_goto (tgt := 2) (x_d C_D_passZeros 10 rfl) rfl ?_
  refine x_iload_n (x_d C_D_passZeros 2 rfl) rfl ?_
  refine x_iconst (x_d C_D_passZeros 3 rfl) ⟨by omega, by omega⟩ ?_
  refine x_icmp_ge (tgt := 21) (x_d C_D_passZeros 4 rfl) rfl (fun _ => ?_) (fun q => absurd q (by omega))
  refine x_iconst (x_d C_D_passZeros 11 rfl) ⟨by omega, by omega⟩ ?_
  refine x_ireturn (x_d C_D_passZeros 12 rfl) ?_
  refine ⟨_, _, _, rfl, Or.inl ⟨rfl, _, rfl, ?_⟩⟩
  have := hp8
  rw [List.append_assoc, List.append_assoc, List.append_assoc] at this
  exact this
theorem w_D_passGroup_5_21_20 (Z : xZ) (d : Nat) (q : Nat → Int) (r : Nat → Option Nat) (A : Nat → Nat → Int) (dy : xH) (g : Nat → Int) (n : Nat) (hd : 2 ≤ d) (s ov : Int) (f : Nat → Int) (bs : List Int) (i z : Int) (sz : Nat) (hl : 0 ≤ q 675 ∧ q 675 ≤ 3000) (hn : 0 ≤ q 581 ∧ q 582 = q 581 + n ∧ q 582 ≤ 3000) (hg : ∀ k, k < n → A 20 ((q 581).toNat + k) = g k) (hi : q 581 ≤ i ∧ z = sz ∧ 1 ≤ z ∧ z ≤ 5 ∧ i + z ≤ q 582) (kk : s_ok5d g (i - q 581).toNat sz 5 = true → xW Z d Y_D_passGroup 66 [(0, xC 18), (1, xI i), (2, xI z), (3, xJ (s_v5 g (i - q 581).toNat sz 5)), (5, xI 5)] [] (hF (x_up (x_up q 673 s) 674 ov) (x_up (x_up r 578 (some 21)) 580 (some 20)) (x_up A 22 f) ++ dy) (fun v0 h2 => ∃ s2 ov2 f2, h2 = hF (x_up (x_up q 673 s2) 674 ov2) (x_up (x_up r 578 (some 21)) 580 (some 20)) (x_up A 22 f2) ++ dy ∧ ((v0 = some (xI 1) ∧ ∃ b2, (s_grp g (i - q 581).toNat sz).map (fun x => bs ++ x) = some b2 ∧ pb (q 675) s2 ov2 f2 b2) ∨ (v0 = some (xI 0) ∧ ∀ b2, (s_grp g (i - q 581).toNat sz).map (fun x => bs ++ x) = some b2 → q 675 < b2.length)))) : ∀ (m : Nat) (k : Int), (0 ≤ k ∧ k + m = 5) → s_ok5d g (i - q 581).toNat sz k.toNat = true → xW Z d Y_D_passGroup 5 [(0, xC 18), (1, xI i), (2, xI z), (3, xJ (s_v5 g (i - q 581).toNat sz k.toNat)), (5, xI k)] [] (hF (x_up (x_up q 673 s) 674 ov) (x_up (x_up r 578 (some 21)) 580 (some 20)) (x_up A 22 f) ++ dy) (fun v0 h2 => ∃ s2 ov2 f2, h2 = hF (x_up (x_up q 673 s2) 674 ov2) (x_up (x_up r 578 (some 21)) 580 (some 20)) (x_up A 22 f2) ++ dy ∧ ((v0 = some (xI 1) ∧ ∃ b2, (s_grp g (i - q 581).toNat sz).map (fun x => bs ++ x) = some b2 ∧ pb (q 675) s2 ov2 f2 b2) ∨ (v0 = some (xI 0) ∧ ∀ b2, (s_grp g (i - q 581).toNat sz).map (fun x => bs ++ x) = some b2 → q 675 < b2.length))) := by
  intro m
  have hgi : ∀ u : Int, q 581 ≤ u → u < q 582 → A 20 u.toNat = g (u - q 581).toNat := fun u h1 h2 => by rw [← hg _ (by omega)]; congr 1; omega
  induction m with
  | zero =>
    intro k hk hok5
    obtain rfl : k = 5 := by omega
    refine x_iload (x_d C_D_passGroup 4 rfl) rfl ?_
    refine x_iconst (x_d C_D_passGroup 5 rfl) ⟨by omega, by omega⟩ ?_
    refine x_icmp_ge (tgt := 66) (x_d C_D_passGroup 6 rfl) rfl (fun _ => ?_) (fun q => absurd q (by omega))
    exact kk hok5
  | succ m ih =>
    intro k hk hok5
    have hv5 := s_v5_in hok5
    have hp5 : (85 : Int) ^ k.toNat ≤ 85 ^ 4 := s_p85 (by omega)
    have hd5 : k < z → s_d5 g (i - q 581).toNat sz k.toNat = A 20 (i + k).toNat - 33 := fun h => by unfold s_d5; rw [if_pos (by omega), hgi (i + k) (by omega) (by omega)]; congr 2; omega
    have hd6 : ¬ k < z → s_d5 g (i - q 581).toNat sz k.toNat = 84 := fun h => by unfold s_d5; rw [if_neg (by omega)]
    have hks : (k + 1).toNat = k.toNat + 1 := by omega
    refine xW_ok (fun _ _ hok => ?_)
    have hbB := hok _ (List.mem_of_getElem? (i := 20) rfl) (i + k).toNat
    have hbB : -128 ≤ A 20 (i + k).toNat ∧ A 20 (i + k).toNat ≤ 127 := hbB
    refine x_iload (x_d C_D_passGroup 4 rfl) rfl ?_
    refine x_iconst (x_d C_D_passGroup 5 rfl) ⟨by omega, by omega⟩ ?_
    refine x_icmp_ge (tgt := 66) (x_d C_D_passGroup 6 rfl) rfl (fun q => absurd q (by omega)) (fun _ => ?_)
    refine x_iload (x_d C_D_passGroup 7 rfl) rfl ?_
    refine x_iload_n (x_d C_D_passGroup 8 rfl) rfl ?_
    refine x_icmp_ge (tgt := 32) (x_d C_D_passGroup 9 rfl) rfl (fun c2 => ?_) (fun c2 => ?_)
    · refine x_bipush (x_d C_D_passGroup 19 rfl) (by omega) ?_
      refine x_istore (l1 := [(6, xI (84)), (0, xC 18), (1, xI (i)), (2, xI (z)), (3, xJ (s_v5 g (i - q 581).toNat sz k.toNat)), (5, xI (k))]) (x_d C_D_passGroup 20 rfl) (by decide) rfl ?_
      refine x_iload (x_d C_D_passGroup 21 rfl) rfl ?_
      refine x_if_lt (tgt := 48) (x_d C_D_passGroup 22 rfl) rfl (fun q => absurd q (by omega)) (fun _ => ?_)
      refine x_iload (x_d C_D_passGroup 23 rfl) rfl ?_
      refine x_bipush (x_d C_D_passGroup 24 rfl) (by omega) ?_
      refine x_icmp_le (tgt := 50) (x_d C_D_passGroup 25 rfl) rfl (fun _ => ?_) (fun q => absurd q (by omega))
      refine x_ldc2 (n := 85) (x_d C_D_passGroup 28 rfl) lc_D_130 ⟨by omega, by omega⟩ ?_
      refine x_lload_n (x_d C_D_passGroup 29 rfl) rfl ?_
      refine x_lmul (x_d C_D_passGroup 30 rfl) ⟨by omega, by omega⟩ ?_
      refine x_iload (x_d C_D_passGroup 31 rfl) rfl ?_
      refine x_i2l (x_d C_D_passGroup 32 rfl) ?_
      refine x_ladd (x_d C_D_passGroup 33 rfl) ⟨by omega, by omega⟩ ?_
      refine x_lstore_n (l1 := [(3, xJ ((85 * (s_v5 g (i - q 581).toNat sz k.toNat)) + 84)), (6, xI (84)), (0, xC 18), (1, xI (i)), (2, xI (z)), (5, xI (k))]) (x_d C_D_passGroup 34 rfl) (by decide) rfl ?_
      refine x_iinc (l1 := [(5, xI (k + 1)), (3, xJ ((85 * (s_v5 g (i - q 581).toNat sz k.toNat)) + 84)), (6, xI (84)), (0, xC 18), (1, xI (i)), (2, xI (z))]) (x_d C_D_passGroup 35 rfl) rfl ⟨by omega, by omega⟩ (by decide) rfl ?_
      refine x_goto (tgt := 5) (x_d C_D_passGroup 36 rfl) rfl ?_
      refine x_locs [3, 4, 5, 1, 0] rfl ?_
      have e1 : (85 * (s_v5 g (i - q 581).toNat sz k.toNat)) + 84 = s_v5 g (i - q 581).toNat sz (k + 1).toNat := by rw [hks]; show _ = 85 * s_v5 g (i - q 581).toNat sz k.toNat + s_d5 g (i - q 581).toNat sz k.toNat; omega
      rw [e1]
      refine ih (k + 1) (by omega) ?_
      rw [hks]
      show (s_ok5d g (i - q 581).toNat sz k.toNat && _) = true
      rw [hok5, Bool.true_and, decide_eq_true_eq]
      omega
    · refine x_aload_n (x_d C_D_passGroup 10 rfl) rfl ?_
      refine x_getfield (v := xC 20) (x_d C_D_passGroup 11 rfl) f_D_37 rfl rfl ?_
      refine x_iload_n (x_d C_D_passGroup 12 rfl) rfl ?_
      refine x_iload (x_d C_D_passGroup 13 rfl) rfl ?_
      refine x_iadd (x_d C_D_passGroup 14 rfl) ⟨by omega, by omega⟩ ?_
      refine x_baload (f := A 20) (x_d C_D_passGroup 15 rfl) rfl (by omega) (by omega) ?_
      refine x_bipush (x_d C_D_passGroup 16 rfl) (by omega) ?_
      refine x_isub (x_d C_D_passGroup 17 rfl) ⟨by omega, by omega⟩ ?_
      refine x_goto (tgt := 34) (x_d C_D_passGroup 18 rfl) rfl ?_
      refine x_istore (l1 := [(6, xI ((A 20 (i + k).toNat) - 33)), (0, xC 18), (1, xI (i)), (2, xI (z)), (3, xJ (s_v5 g (i - q 581).toNat sz k.toNat)), (5, xI (k))]) (x_d C_D_passGroup 20 rfl) (by decide) rfl ?_
      refine x_iload (x_d C_D_passGroup 21 rfl) rfl ?_
      refine x_if_lt (tgt := 48) (x_d C_D_passGroup 22 rfl) rfl (fun c5 => ?_) (fun c5 => ?_)
      · refine x_iconst (x_d C_D_passGroup 26 rfl) ⟨by omega, by omega⟩ ?_
        refine x_ireturn (x_d C_D_passGroup 27 rfl) ?_
        refine ⟨s, ov, f, rfl, Or.inr ⟨rfl, fun b2 e => ?_⟩⟩
        have hbad : s_ok5d g (i - q 581).toNat sz 5 = false := s_ok5_bad (k := k.toNat) (by omega) (by omega)
        unfold s_grp at e
        rw [if_pos (Or.inr (Or.inl hbad))] at e
        cases e
      · refine x_iload (x_d C_D_passGroup 23 rfl) rfl ?_
        refine x_bipush (x_d C_D_passGroup 24 rfl) (by omega) ?_
        refine x_icmp_le (tgt := 50) (x_d C_D_passGroup 25 rfl) rfl (fun c6 => ?_) (fun c6 => ?_)
        · refine x_ldc2 (n := 85) (x_d C_D_passGroup 28 rfl) lc_D_130 ⟨by omega, by omega⟩ ?_
          refine x_lload_n (x_d C_D_passGroup 29 rfl) rfl ?_
          refine x_lmul (x_d C_D_passGroup 30 rfl) ⟨by omega, by omega⟩ ?_
          refine x_iload (x_d C_D_passGroup 31 rfl) rfl ?_
          refine x_i2l (x_d C_D_passGroup 32 rfl) ?_
          refine x_ladd (x_d C_D_passGroup 33 rfl) ⟨by omega, by omega⟩ ?_
          refine x_lstore_n (l1 := [(3, xJ ((85 * (s_v5 g (i - q 581).toNat sz k.toNat)) + ((A 20 (i + k).toNat) - 33))), (6, xI ((A 20 (i + k).toNat) - 33)), (0, xC 18), (1, xI (i)), (2, xI (z)), (5, xI (k))]) (x_d C_D_passGroup 34 rfl) (by decide) rfl ?_
          refine x_iinc (l1 := [(5, xI (k + 1)), (3, xJ ((85 * (s_v5 g (i - q 581).toNat sz k.toNat)) + ((A 20 (i + k).toNat) - 33))), (6, xI ((A 20 (i + k).toNat) - 33)), (0, xC 18), (1, xI (i)), (2, xI (z))]) (x_d C_D_passGroup 35 rfl) rfl ⟨by omega, by omega⟩ (by decide) rfl ?_
          refine x_goto (tgt := 5) (x_d C_D_passGroup 36 rfl) rfl ?_
          refine x_locs [3, 4, 5, 1, 0] rfl ?_
          have e1 : (85 * (s_v5 g (i - q 581).toNat sz k.toNat)) + ((A 20 (i + k).toNat) - 33) = s_v5 g (i - q 581).toNat sz (k + 1).toNat := by rw [hks]; show _ = 85 * s_v5 g (i - q 581).toNat sz k.toNat + s_d5 g (i - q 581).toNat sz k.toNat; omega
          rw [e1]
          refine ih (k + 1) (by omega) ?_
          rw [hks]
          show (s_ok5d g (i - q 581).toNat sz k.toNat && _) = true
          rw [hok5, Bool.true_and, decide_eq_true_eq]
          omega
        · refine x_iconst (x_d C_D_passGroup 26 rfl) ⟨by omega, by omega⟩ ?_
          refine x_ireturn (x_d C_D_passGroup 27 rfl) ?_
          refine ⟨s, ov, f, rfl, Or.inr ⟨rfl, fun b2 e => ?_⟩⟩
          have hbad : s_ok5d g (i - q 581).toNat sz 5 = false := s_ok5_bad (k := k.toNat) (by omega) (by omega)
          unfold s_grp at e
          rw [if_pos (Or.inr (Or.inl hbad))] at e
          cases e
theorem w_D_passGroup_84_21_20 (Z : xZ) (d : Nat) (q : Nat → Int) (r : Nat → Option Nat) (A : Nat → Nat → Int) (dy : xH) (g : Nat → Int) (n : Nat) (hd : 2 ≤ d) (i z v : Int) (hl : 0 ≤ q 675 ∧ q 675 ≤ 3000) (hn : 0 ≤ q 581 ∧ q 582 = q 581 + n ∧ q 582 ≤ 3000) (hg : ∀ k, k < n → A 20 ((q 581).toNat + k) = g k) (hz : z ≤ 5 ∧ 0 ≤ v ∧ v < 4294967296) : ∀ (m : Nat) (s ov : Int) (f : Nat → Int) (bs : List Int) (k : Int), (0 ≤ k ∧ k + m = z - 1) → pb (q 675) s ov f bs → xW Z d Y_D_passGroup 84 [(0, xC 18), (1, xI i), (2, xI z), (3, xJ v), (5, xI k)] [] (hF (x_up (x_up q 673 s) 674 ov) (x_up (x_up r 578 (some 21)) 580 (some 20)) (x_up A 22 f) ++ dy) (fun v0 h2 => ∃ s2 ov2 f2, h2 = hF (x_up (x_up q 673 s2) 674 ov2) (x_up (x_up r 578 (some 21)) 580 (some 20)) (x_up A 22 f2) ++ dy ∧ ((v0 = some (xI 1) ∧ ∃ b2, (some (bs ++ s_gb v m k.toNat)) = some b2 ∧ pb (q 675) s2 ov2 f2 b2) ∨ (v0 = some (xI 0) ∧ ∀ b2, (some (bs ++ s_gb v m k.toNat)) = some b2 → q 675 < b2.length))) := by
  intro m
  induction m with
  | zero =>
    intro s ov f bs k hk hp
    have hp0 := hp.1
    have hp1 := hp.2.1
    have hgi : ∀ u : Int, q 581 ≤ u → u < q 582 → A 20 u.toNat = g (u - q 581).toNat := fun u h1 h2 => by rw [← hg _ (by omega)]; congr 1; omega
    refine xW_ok (fun _ _ hok => ?_)
    have hbB : ∀ j, -128 ≤ A 20 j ∧ A 20 j ≤ 127 := fun j => hok _ (List.mem_of_getElem? (i := 20) rfl) j
    refine x_iload (x_d C_D_passGroup 48 rfl) rfl ?_
    refine x_iload_n (x_d C_D_passGroup 49 rfl) rfl ?_
    refine x_iconst (x_d C_D_passGroup 50 rfl) ⟨by omega, by omega⟩ ?_
    refine x_isub (x_d C_D_passGroup 51 rfl) ⟨by omega, by omega⟩ ?_
    refine x_icmp_ge (tgt := 116) (x_d C_D_passGroup 52 rfl) rfl (fun _ => ?_) (fun q => absurd q (by omega))
    refine x_iconst (x_d C_D_passGroup 66 rfl) ⟨by omega, by omega⟩ ?_
    refine x_ireturn (x_d C_D_passGroup 67 rfl) ?_
    exact ⟨s, ov, f, rfl, Or.inl ⟨rfl, bs ++ [], rfl, pb_nil hp⟩⟩
  | succ m ih =>
    intro s ov f bs k hk hp
    have hp0 := hp.1
    have hp1 := hp.2.1
    have hgi : ∀ u : Int, q 581 ≤ u → u < q 582 → A 20 u.toNat = g (u - q 581).toNat := fun u h1 h2 => by rw [← hg _ (by omega)]; congr 1; omega
    refine xW_ok (fun _ _ hok => ?_)
    have hbB : ∀ j, -128 ≤ A 20 j ∧ A 20 j ≤ 127 := fun j => hok _ (List.mem_of_getElem? (i := 20) rfl) j
    refine x_iload (x_d C_D_passGroup 48 rfl) rfl ?_
    refine x_iload_n (x_d C_D_passGroup 49 rfl) rfl ?_
    refine x_iconst (x_d C_D_passGroup 50 rfl) ⟨by omega, by omega⟩ ?_
    refine x_isub (x_d C_D_passGroup 51 rfl) ⟨by omega, by omega⟩ ?_
    refine x_icmp_ge (tgt := 116) (x_d C_D_passGroup 52 rfl) rfl (fun q => absurd q (by omega)) (fun _ => ?_)
    refine x_aload_n (x_d C_D_passGroup 53 rfl) rfl ?_
    refine x_getfield (v := xC 21) (x_d C_D_passGroup 54 rfl) f_D_14 rfl rfl ?_
    refine x_lload_n (x_d C_D_passGroup 55 rfl) rfl ?_
    refine x_bipush (x_d C_D_passGroup 56 rfl) (by omega) ?_
    refine x_bipush (x_d C_D_passGroup 57 rfl) (by omega) ?_
    refine x_iload (x_d C_D_passGroup 58 rfl) rfl ?_
    refine x_imul (x_d C_D_passGroup 59 rfl) ⟨by omega, by omega⟩ ?_
    refine x_isub (x_d C_D_passGroup 60 rfl) ⟨by omega, by omega⟩ ?_
    refine x_lshr (k := (24 - (8 * k) : Int).toNat) (x_d C_D_passGroup 61 rfl) (by omega) (by omega) (by omega) (by omega) ?_
    refine x_l2iW (z := (v / 2 ^ (24 - (8 * k) : Int).toNat).bmod 4294967296) (x_d C_D_passGroup 62 rfl) (s_bm32 _) Int.bmod_emod ?_
    refine x_invokevirtual (st := []) (av := [xI ((v / 2 ^ (24 - (8 * k) : Int).toNat).bmod 4294967296)]) (x_d C_D_passGroup 63 rfl) k_D_110 m_Pa_add v_Pa_add cl_Pa rfl rfl (Nat.le_of_ble_eq_true rfl) (by omega) rfl (c_Pb_add_21 Z (d - 1) q (x_up (x_up r 578 (some 21)) 580 (some 20)) A dy s ov f bs ((v / 2 ^ (24 - (8 * k) : Int).toNat).bmod 4294967296) hl hp) ?_
    rintro _ _ ⟨rfl, s2, ov2, f2, rfl, hp2⟩
    have hp02 := hp2.1
    have hp12 := hp2.2.1
    refine x_iinc (l1 := [(5, xI (k + 1)), (0, xC 18), (1, xI (i)), (2, xI (z)), (3, xJ (v))]) (x_d C_D_passGroup 64 rfl) rfl ⟨by omega, by omega⟩ (by decide) rfl ?_
    refine x_goto (tgt := 84) (x_d C_D_passGroup 65 rfl) rfl ?_
    refine x_locs [1, 2, 3, 4, 0] rfl ?_
    refine xW_post ?_ (ih s2 ov2 f2 _ (k + 1) (by omega) hp2)
    rintro v0 h2 ⟨s9, ov9, f9, g2, g3⟩
    refine ⟨s9, ov9, f9, g2, ?_⟩
    rw [List.append_assoc, s_by_bm, show (24 - 8 * k).toNat = 24 - 8 * k.toNat by omega, show (k + 1).toNat = k.toNat + 1 by omega] at g3
    exact g3
theorem c_D_passGroup_21_20 (Z : xZ) (d : Nat) (q : Nat → Int) (r : Nat → Option Nat) (A : Nat → Nat → Int) (dy : xH) (g : Nat → Int) (n : Nat) (hd : 2 ≤ d) (s ov : Int) (f : Nat → Int) (bs : List Int) (i z : Int) (sz : Nat) (hl : 0 ≤ q 675 ∧ q 675 ≤ 3000) (hn : 0 ≤ q 581 ∧ q 582 = q 581 + n ∧ q 582 ≤ 3000) (hg : ∀ k, k < n → A 20 ((q 581).toNat + k) = g k) (hi : q 581 ≤ i ∧ z = sz ∧ 1 ≤ z ∧ z ≤ 5 ∧ i + z ≤ q 582) (hp : pb (q 675) s ov f bs) : xMet Z d Y_D_passGroup [xC 18, xI i, xI z] (hF (x_up (x_up q 673 s) 674 ov) (x_up (x_up r 578 (some 21)) 580 (some 20)) (x_up A 22 f) ++ dy) (fun v0 h2 => ∃ s2 ov2 f2, h2 = hF (x_up (x_up q 673 s2) 674 ov2) (x_up (x_up r 578 (some 21)) 580 (some 20)) (x_up A 22 f2) ++ dy ∧ ((v0 = some (xI 1) ∧ ∃ b2, (s_grp g (i - q 581).toNat sz).map (fun x => bs ++ x) = some b2 ∧ pb (q 675) s2 ov2 f2 b2) ∨ (v0 = some (xI 0) ∧ ∀ b2, (s_grp g (i - q 581).toNat sz).map (fun x => bs ++ x) = some b2 → q 675 < b2.length))) := by
  refine xMet_of (by decide) (Nat.le_of_ble_eq_true rfl) (fun v0 h2 hq => by obtain ⟨_, _, _, _, ⟨e, _⟩ | ⟨e, _⟩⟩ := hq <;> rw [e]; exact Or.inr rfl; exact Or.inl rfl) ?_
  have hp0 := hp.1
  have hp1 := hp.2.1
  have hgi : ∀ u : Int, q 581 ≤ u → u < q 582 → A 20 u.toNat = g (u - q 581).toNat := fun u h1 h2 => by rw [← hg _ (by omega)]; congr 1; omega
  refine xW_ok (fun _ _ hok => ?_)
  have hbB : ∀ j, -128 ≤ A 20 j ∧ A 20 j ≤ 127 := fun j => hok _ (List.mem_of_getElem? (i := 20) rfl) j
  refine x_lconst0 (x_d C_D_passGroup 0 rfl) ?_
  refine x_lstore_n (l1 := [(3, xJ (0)), (0, xC 18), (1, xI (i)), (2, xI (z))]) (x_d C_D_passGroup 1 rfl) (by decide) rfl ?_
  refine x_iconst (x_d C_D_passGroup 2 rfl) ⟨by omega, by omega⟩ ?_
  refine x_istore (l1 := [(5, xI (0)), (3, xJ (0)), (0, xC 18), (1, xI (i)), (2, xI (z))]) (x_d C_D_passGroup 3 rfl) (by decide) rfl ?_
  refine x_locs [2, 3, 4, 1, 0] rfl ?_
  refine w_D_passGroup_5_21_20 Z d q r A dy g n hd s ov f bs i z sz hl hn hg hi (fun hok5 => ?_) 5 0 (by omega) rfl
  have hv5 := s_v5_in hok5
  refine x_iload_n (x_d C_D_passGroup 37 rfl) rfl ?_
  refine x_iconst (x_d C_D_passGroup 38 rfl) ⟨by omega, by omega⟩ ?_
  refine x_icmp_lt (tgt := 79) (x_d C_D_passGroup 39 rfl) rfl (fun c101 => ?_) (fun c101 => ?_)
  · refine x_iconst (x_d C_D_passGroup 44 rfl) ⟨by omega, by omega⟩ ?_
    refine x_ireturn (x_d C_D_passGroup 45 rfl) ?_
    refine ⟨s, ov, f, rfl, Or.inr ⟨rfl, fun b2 e => ?_⟩⟩
    unfold s_grp at e
    unfold x_lc at *
    rw [if_pos (by first | exact Or.inl (by omega) | exact Or.inr (Or.inr (by (repeat' split at *) <;> omega)))] at e
    cases e
  · refine x_lload_n (x_d C_D_passGroup 40 rfl) rfl ?_
    refine x_ldc2 (n := 4294967296) (x_d C_D_passGroup 41 rfl) lc_D_132 ⟨by omega, by omega⟩ ?_
    refine x_lcmp (x_d C_D_passGroup 42 rfl) ?_
    refine x_if_lt (tgt := 81) (x_d C_D_passGroup 43 rfl) rfl (fun c102 => ?_) (fun c102 => ?_)
    · refine x_iconst (x_d C_D_passGroup 46 rfl) ⟨by omega, by omega⟩ ?_
      refine x_istore (l1 := [(5, xI (0)), (0, xC 18), (1, xI (i)), (2, xI (z)), (3, xJ (s_v5 g (i - q 581).toNat sz 5))]) (x_d C_D_passGroup 47 rfl) (by decide) rfl ?_
      have hlt : s_v5 g (i - q 581).toNat sz 5 < 4294967296 := by unfold x_lc at *; (repeat' split at *) <;> omega
      refine x_locs [1, 2, 3, 4, 0] rfl ?_
      have := w_D_passGroup_84_21_20 Z d q r A dy g n hd i z (s_v5 g (i - q 581).toNat sz 5) hl hn hg ⟨by omega, hv5.1, hlt⟩ (sz - 1) s ov f bs 0 (by omega) hp
      unfold s_grp
      rw [if_neg (by rintro (h | h | h); omega; rw [hok5] at h; cases h; omega)]
      exact this
    · refine x_iconst (x_d C_D_passGroup 44 rfl) ⟨by omega, by omega⟩ ?_
      refine x_ireturn (x_d C_D_passGroup 45 rfl) ?_
      refine ⟨s, ov, f, rfl, Or.inr ⟨rfl, fun b2 e => ?_⟩⟩
      unfold s_grp at e
      unfold x_lc at *
      rw [if_pos (by first | exact Or.inl (by omega) | exact Or.inr (Or.inr (by (repeat' split at *) <;> omega)))] at e
      cases e
