/-! the decoder -/
theorem x_l2iW {Z : xZ} {d : Nat} {Y : xY} {pc : Nat} {l : xL} {st : List xV} {h : xH} {Q : Option xV → xH → Prop} {x z : Int} (hd : decode Y.2.1 pc = .ok (.l2i, 1)) (hr : x_i32 z) (hz : z % 4294967296 = x % 4294967296) (k : xW Z d Y (pc + 1) l (xI z :: st) h Q) : xW Z d Y pc l (xJ x :: st) h Q :=
  xW_one (fun _ hs => x_okS_I hr (x_okS_tl hs)) (fun hx hb _ _ _ _ k => lv_l2i hx hb hd (Int64.toInt32_ofInt.trans (x_wrap hz.symm)) k) k
theorem s_bm32 (x : Int) : x_i32 (x.bmod 4294967296) := by
  have h1 := Int.le_bmod (x := x) (m := 4294967296) (by omega)
  have h2 := Int.bmod_lt (x := x) (m := 4294967296) (by omega)
  exact ⟨by omega, by omega⟩
theorem s_by_bm (x : Int) : x_by (x.bmod 4294967296) = x_by x := by
  unfold x_by
  exact Int.bmod_bmod_of_dvd (by decide)
/-! what the filters make of the n numbers g -/
def s_hxs (g : Nat → Int) : Nat → Nat → Option (List Int)
  | 0, _ => some []
  | m + 1, i => if s_hex (g i) < 0 ∨ s_hex (g (i + 1)) < 0 then none else (s_hxs g m (i + 2)).map (fun x => x_by (16 * s_hex (g i) + s_hex (g (i + 1))) :: x)
def s_hxe (g : Nat → Int) (n : Nat) : Nat := if 0 < n ∧ g (n - 1) = 62 then n - 1 else n
def s_fhex (g : Nat → Int) (n : Nat) : Option (List Int) := if ¬ s_hxe g n % 2 = 0 then none else s_hxs g (s_hxe g n / 2) 0
def s_runs (g : Nat → Int) (n : Nat) : Nat → Nat → Option (List Int)
  | 0, _ => none
  | m + 1, k => if n ≤ k then none else if g k % 256 = 128 then (if k + 1 = n then some [] else none) else if g k % 256 < 128 then (if n ≤ k + (g k % 256 + 1).toNat then none else (s_runs g n m (k + (g k % 256).toNat + 2)).map (fun x => s_sl g (k + 1) (g k % 256 + 1).toNat ++ x)) else (if n ≤ k + 1 then none else (s_runs g n m (k + 2)).map (fun x => List.replicate (257 - g k % 256).toNat (g (k + 1)) ++ x))
def s_frun (g : Nat → Int) (n : Nat) : Option (List Int) := s_runs g n (n + 1) 0
def s_d5 (g : Nat → Int) (k sz i : Nat) : Int := if i < sz then g (k + i) - 33 else 84
def s_v5 (g : Nat → Int) (k sz : Nat) : Nat → Int
  | 0 => 0
  | i + 1 => 85 * s_v5 g k sz i + s_d5 g k sz i
def s_gb (v : Int) : Nat → Nat → List Int
  | 0, _ => []
  | m + 1, i => x_by (v / 2 ^ (24 - 8 * i)) :: s_gb v m (i + 1)
def s_ok5d (g : Nat → Int) (k sz : Nat) : Nat → Bool
  | 0 => true
  | i + 1 => s_ok5d g k sz i && decide (0 ≤ s_d5 g k sz i ∧ s_d5 g k sz i ≤ 84)
def s_grp (g : Nat → Int) (k sz : Nat) : Option (List Int) := if sz < 2 ∨ s_ok5d g k sz 5 = false ∨ 4294967296 ≤ s_v5 g k sz 5 then none else some (s_gb (s_v5 g k sz 5) (sz - 1) 0)
def s_b85 (g : Nat → Int) (e : Nat) : Nat → Nat → Option (List Int)
  | 0, _ => none
  | m + 1, k => if e ≤ k then some [] else if g k = 122 then (s_b85 g e m (k + 1)).map (fun x => [0, 0, 0, 0] ++ x) else (s_grp g k (min 5 (e - k))).bind (fun y => (s_b85 g e m (k + min 5 (e - k))).map (fun x => y ++ x))
def s_f85 (g : Nat → Int) (n : Nat) : Option (List Int) := if n < 2 ∨ ¬ g (n - 2) = 126 ∨ ¬ g (n - 1) = 62 then none else s_b85 g (n - 2) (n + 1) 0
theorem s_map_app (x : Option (List Int)) (a b : List Int) : (x.map (fun y => b ++ y)).map (fun y => a ++ y) = x.map (fun y => (a ++ b) ++ y) := by
  cases x with
  | none => rfl
  | some y => show some (a ++ (b ++ y)) = some (a ++ b ++ y); rw [List.append_assoc]
theorem s_hxs_s (g : Nat → Int) (m i : Nat) : s_hxs g (m + 1) i = if s_hex (g i) < 0 ∨ s_hex (g (i + 1)) < 0 then none else (s_hxs g m (i + 2)).map (fun x => x_by (16 * s_hex (g i) + s_hex (g (i + 1))) :: x) := rfl
theorem s_mapc (x : Option (List Int)) (a : List Int) (b : Int) : (x.map (fun y => b :: y)).map (fun y => a ++ y) = x.map (fun y => (a ++ [b]) ++ y) := s_map_app x a [b]
theorem w_D_passHex_59_19_2 (Z : xZ) (d : Nat) (q : Nat → Int) (r : Nat → Option Nat) (A : Nat → Nat → Int) (dy : xH) (g : Nat → Int) (n : Nat) (hd : 2 ≤ d) (e : Int) (hl : 0 ≤ q 611 ∧ q 611 ≤ 3000) (hn : 0 ≤ q 581 ∧ q 582 = q 581 + n ∧ q 582 ≤ 10248) (hg : ∀ k, k < n → A 2 ((q 581).toNat + k) = g k) : ∀ (m : Nat) (s ov : Int) (f : Nat → Int) (bs : List Int) (i : Int), (q 581 ≤ i ∧ e = i + 2 * m ∧ e ≤ q 582) → pb (q 611) s ov f bs → xW Z d Y_D_passHex 59 [(0, xC 18), (1, xI e), (2, xI i)] [] (hF (x_up (x_up q 609 s) 610 ov) (x_up (x_up r 578 (some 19)) 580 (some 2)) (x_up A 20 f) ++ dy) (fun v0 h2 => ∃ s2 ov2 f2, h2 = hF (x_up (x_up q 609 s2) 610 ov2) (x_up (x_up r 578 (some 19)) 580 (some 2)) (x_up A 20 f2) ++ dy ∧ ((v0 = some (xI 1) ∧ ∃ b2, (s_hxs g m (i - q 581).toNat).map (fun x => bs ++ x) = some b2 ∧ pb (q 611) s2 ov2 f2 b2) ∨ (v0 = some (xI 0) ∧ ∀ b2, (s_hxs g m (i - q 581).toNat).map (fun x => bs ++ x) = some b2 → q 611 < b2.length))) := by
  intro m
  induction m with
  | zero =>
    intro s ov f bs i hi hp
    have hp0 := hp.1
    have hp1 := hp.2.1
    have hgi : ∀ u : Int, q 581 ≤ u → u < q 582 → A 2 u.toNat = g (u - q 581).toNat := fun u h1 h2 => by rw [← hg _ (by omega)]; congr 1; omega
    refine xW_ok (fun _ _ hok => ?_)
    have hbB : ∀ j, -128 ≤ A 2 j ∧ A 2 j ≤ 127 := fun j => hok _ (List.mem_of_getElem? (i := 2) rfl) j
    refine x_iload_n (x_d C_D_passHex 34 rfl) rfl ?_
    refine x_iload_n (x_d C_D_passHex 35 rfl) rfl ?_
    refine x_icmp_ge (tgt := 118) (x_d C_D_passHex 36 rfl) rfl (fun _ => ?_) (fun q => absurd q (by omega))
    refine x_iconst (x_d C_D_passHex 67 rfl) ⟨by omega, by omega⟩ ?_
    refine x_ireturn (x_d C_D_passHex 68 rfl) ?_
    exact ⟨s, ov, f, rfl, Or.inl ⟨rfl, bs ++ [], rfl, pb_nil hp⟩⟩
  | succ m ih =>
    intro s ov f bs i hi hp
    have hp0 := hp.1
    have hp1 := hp.2.1
    have hgi : ∀ u : Int, q 581 ≤ u → u < q 582 → A 2 u.toNat = g (u - q 581).toNat := fun u h1 h2 => by rw [← hg _ (by omega)]; congr 1; omega
    refine xW_ok (fun _ _ hok => ?_)
    have hbB : ∀ j, -128 ≤ A 2 j ∧ A 2 j ≤ 127 := fun j => hok _ (List.mem_of_getElem? (i := 2) rfl) j
    have hk1 : g ((i - q 581).toNat + 1) = A 2 (i + 1).toNat := by rw [hgi (i + 1) (by omega) (by omega)]; congr 1; omega
    have hx1 := s_hex_in (A 2 i.toNat)
    have hx2 := s_hex_in (A 2 (i + 1).toNat)
    refine x_iload_n (x_d C_D_passHex 34 rfl) rfl ?_
    refine x_iload_n (x_d C_D_passHex 35 rfl) rfl ?_
    refine x_icmp_ge (tgt := 118) (x_d C_D_passHex 36 rfl) rfl (fun q => absurd q (by omega)) (fun _ => ?_)
    refine x_aload_n (x_d C_D_passHex 37 rfl) rfl ?_
    refine x_getfield (v := xC 2) (x_d C_D_passHex 38 rfl) f_D_37 rfl rfl ?_
    refine x_iload_n (x_d C_D_passHex 39 rfl) rfl ?_
    refine x_baload (f := A 2) (x_d C_D_passHex 40 rfl) rfl (by omega) (by omega) ?_
    refine x_invokestatic (st := []) (av := [xI (A 2 (i).toNat)]) (x_d C_D_passHex 41 rfl) k_D_107 m_PF_hexDigit s_PF_hexDigit rfl (Nat.le_of_ble_eq_true rfl) (by omega) rfl (c_PF_hexDigit Z (d - 1) (hF (x_up (x_up q 609 s) 610 ov) (x_up (x_up r 578 (some 19)) 580 (some 2)) (x_up A 20 f) ++ dy) (A 2 (i).toNat)) ?_
    rintro v_ _ ⟨hv_, rfl⟩
    obtain rfl : v_ = some (xI (s_hex (A 2 (i).toNat))) := hv_
    refine x_istore_n (l1 := [(3, xI (s_hex (A 2 (i).toNat))), (0, xC 18), (1, xI (e)), (2, xI (i))]) (x_d C_D_passHex 42 rfl) (by decide) rfl ?_
    refine x_aload_n (x_d C_D_passHex 43 rfl) rfl ?_
    refine x_getfield (v := xC 2) (x_d C_D_passHex 44 rfl) f_D_37 rfl rfl ?_
    refine x_iload_n (x_d C_D_passHex 45 rfl) rfl ?_
    refine x_iconst (x_d C_D_passHex 46 rfl) ⟨by omega, by omega⟩ ?_
    refine x_iadd (x_d C_D_passHex 47 rfl) ⟨by omega, by omega⟩ ?_
    refine x_baload (f := A 2) (x_d C_D_passHex 48 rfl) rfl (by omega) (by omega) ?_
    refine x_invokestatic (st := []) (av := [xI (A 2 (i + 1).toNat)]) (x_d C_D_passHex 49 rfl) k_D_107 m_PF_hexDigit s_PF_hexDigit rfl (Nat.le_of_ble_eq_true rfl) (by omega) rfl (c_PF_hexDigit Z (d - 1) (hF (x_up (x_up q 609 s) 610 ov) (x_up (x_up r 578 (some 19)) 580 (some 2)) (x_up A 20 f) ++ dy) (A 2 (i + 1).toNat)) ?_
    rintro v_ _ ⟨hv_, rfl⟩
    obtain rfl : v_ = some (xI (s_hex (A 2 (i + 1).toNat))) := hv_
    refine x_istore (l1 := [(4, xI (s_hex (A 2 (i + 1).toNat))), (3, xI (s_hex (A 2 (i).toNat))), (0, xC 18), (1, xI (e)), (2, xI (i))]) (x_d C_D_passHex 50 rfl) (by decide) rfl ?_
    refine x_iload_n (x_d C_D_passHex 51 rfl) rfl ?_
    refine x_if_lt (tgt := 96) (x_d C_D_passHex 52 rfl) rfl (fun c2 => ?_) (fun c2 => ?_)
    · refine x_iconst (x_d C_D_passHex 55 rfl) ⟨by omega, by omega⟩ ?_
      refine x_ireturn (x_d C_D_passHex 56 rfl) ?_
      exact ⟨s, ov, f, rfl, Or.inr ⟨rfl, fun b2 e => by rw [s_hxs_s, ← hgi i (by omega) (by omega), hk1, if_pos (by omega)] at e; cases e⟩⟩
    · refine x_iload (x_d C_D_passHex 53 rfl) rfl ?_
      refine x_if_ge (tgt := 98) (x_d C_D_passHex 54 rfl) rfl (fun c3 => ?_) (fun c3 => ?_)
      · refine x_aload_n (x_d C_D_passHex 57 rfl) rfl ?_
        refine x_getfield (v := xC 19) (x_d C_D_passHex 58 rfl) f_D_14 rfl rfl ?_
        refine x_bipush (x_d C_D_passHex 59 rfl) (by omega) ?_
        refine x_iload_n (x_d C_D_passHex 60 rfl) rfl ?_
        refine x_imul (x_d C_D_passHex 61 rfl) ⟨by omega, by omega⟩ ?_
        refine x_iload (x_d C_D_passHex 62 rfl) rfl ?_
        refine x_iadd (x_d C_D_passHex 63 rfl) ⟨by omega, by omega⟩ ?_
        refine x_invokevirtual (st := []) (av := [xI ((16 * (s_hex (A 2 (i).toNat))) + (s_hex (A 2 (i + 1).toNat)))]) (x_d C_D_passHex 64 rfl) k_D_110 m_Pa_add v_Pa_add cl_Pa rfl rfl (Nat.le_of_ble_eq_true rfl) (by omega) rfl (c_Pb_add_19 Z (d - 1) q (x_up (x_up r 578 (some 19)) 580 (some 2)) A dy s ov f bs ((16 * (s_hex (A 2 (i).toNat))) + (s_hex (A 2 (i + 1).toNat))) hl hp) ?_
        rintro _ _ ⟨rfl, s4, ov4, f4, rfl, hp4⟩
        have hp04 := hp4.1
        have hp14 := hp4.2.1
        refine x_iinc (l1 := [(2, xI (i + 2)), (4, xI (s_hex (A 2 (i + 1).toNat))), (3, xI (s_hex (A 2 (i).toNat))), (0, xC 18), (1, xI (e))]) (x_d C_D_passHex 65 rfl) rfl ⟨by omega, by omega⟩ (by decide) rfl ?_
        refine x_goto (tgt := 59) (x_d C_D_passHex 66 rfl) rfl ?_
        refine x_locs [3, 4, 0] rfl ?_
        refine xW_post ?_ (ih s4 ov4 f4 _ (i + 2) (by omega) hp4)
        rintro v0 h2 ⟨s9, ov9, f9, g2, g3⟩
        refine ⟨s9, ov9, f9, g2, ?_⟩
        rw [s_hxs_s, ← hgi i (by omega) (by omega), hk1, if_neg (by omega), s_mapc]
        rw [show (i + 2 - q 581).toNat = (i - q 581).toNat + 2 by omega] at g3
        exact g3
      · refine x_iconst (x_d C_D_passHex 55 rfl) ⟨by omega, by omega⟩ ?_
        refine x_ireturn (x_d C_D_passHex 56 rfl) ?_
        exact ⟨s, ov, f, rfl, Or.inr ⟨rfl, fun b2 e => by rw [s_hxs_s, ← hgi i (by omega) (by omega), hk1, if_pos (by omega)] at e; cases e⟩⟩
theorem c_D_passHex_19_2 (Z : xZ) (d : Nat) (q : Nat → Int) (r : Nat → Option Nat) (A : Nat → Nat → Int) (dy : xH) (g : Nat → Int) (n : Nat) (hd : 2 ≤ d) (s ov : Int) (f : Nat → Int) (bs : List Int) (hl : 0 ≤ q 611 ∧ q 611 ≤ 3000) (hn : 0 ≤ q 581 ∧ q 582 = q 581 + n ∧ q 582 ≤ 10248) (hg : ∀ k, k < n → A 2 ((q 581).toNat + k) = g k) (hp : pb (q 611) s ov f bs) : xMet Z d Y_D_passHex [xC 18] (hF (x_up (x_up q 609 s) 610 ov) (x_up (x_up r 578 (some 19)) 580 (some 2)) (x_up A 20 f) ++ dy) (fun v0 h2 => ∃ s2 ov2 f2, h2 = hF (x_up (x_up q 609 s2) 610 ov2) (x_up (x_up r 578 (some 19)) 580 (some 2)) (x_up A 20 f2) ++ dy ∧ ((v0 = some (xI 1) ∧ ∃ b2, (s_fhex g n).map (fun x => bs ++ x) = some b2 ∧ pb (q 611) s2 ov2 f2 b2) ∨ (v0 = some (xI 0) ∧ ∀ b2, (s_fhex g n).map (fun x => bs ++ x) = some b2 → q 611 < b2.length))) := by
  refine xMet_of (by decide) (Nat.le_of_ble_eq_true rfl) (fun v0 h2 hq => by obtain ⟨_, _, _, _, ⟨e, _⟩ | ⟨e, _⟩⟩ := hq <;> rw [e]; exact Or.inr rfl; exact Or.inl rfl) ?_
  have hp0 := hp.1
  have hp1 := hp.2.1
  have hgi : ∀ u : Int, q 581 ≤ u → u < q 582 → A 2 u.toNat = g (u - q 581).toNat := fun u h1 h2 => by rw [← hg _ (by omega)]; congr 1; omega
  refine xW_ok (fun _ _ hok => ?_)
  have hbB : ∀ j, -128 ≤ A 2 j ∧ A 2 j ≤ 127 := fun j => hok _ (List.mem_of_getElem? (i := 2) rfl) j
  have hlast : 0 < n → A 2 (q 582 - 1).toNat = g (n - 1) := fun h => by rw [hgi _ (by omega) (by omega)]; congr 1; omega
  refine x_aload_n (x_d C_D_passHex 0 rfl) rfl ?_
  refine x_getfield (v := xI (q 582)) (x_d C_D_passHex 1 rfl) f_D_53 rfl rfl ?_
  refine x_aload_n (x_d C_D_passHex 2 rfl) rfl ?_
  refine x_getfield (v := xI (q 581)) (x_d C_D_passHex 3 rfl) f_D_46 rfl rfl ?_
  refine x_icmp_le (tgt := 36) (x_d C_D_passHex 4 rfl) rfl (fun c1 => ?_) (fun c1 => ?_)
  · refine x_aload_n (x_d C_D_passHex 19 rfl) rfl ?_
    refine x_getfield (v := xI (q 582)) (x_d C_D_passHex 20 rfl) f_D_53 rfl rfl ?_
    refine x_istore_n (l1 := [(1, xI (q 582)), (0, xC 18)]) (x_d C_D_passHex 21 rfl) (by decide) rfl ?_
    refine x_iload_n (x_d C_D_passHex 22 rfl) rfl ?_
    refine x_aload_n (x_d C_D_passHex 23 rfl) rfl ?_
    refine x_getfield (v := xI (q 581)) (x_d C_D_passHex 24 rfl) f_D_46 rfl rfl ?_
    refine x_isub (x_d C_D_passHex 25 rfl) ⟨by omega, by omega⟩ ?_
    refine x_iconst (x_d C_D_passHex 26 rfl) ⟨by omega, by omega⟩ ?_
    refine x_irem (x_d C_D_passHex 27 rfl) (by omega) (by omega) ?_
    refine x_if_eq (tgt := 54) (x_d C_D_passHex 28 rfl) rfl (fun c2 => ?_) (fun c2 => ?_)
    · refine x_aload_n (x_d C_D_passHex 31 rfl) rfl ?_
      refine x_getfield (v := xI (q 581)) (x_d C_D_passHex 32 rfl) f_D_46 rfl rfl ?_
      refine x_istore_n (l1 := [(2, xI (q 581)), (1, xI (q 582)), (0, xC 18)]) (x_d C_D_passHex 33 rfl) (by decide) rfl ?_
      have he : ((s_hxe g n : Nat) : Int) = q 582 - q 581 := by unfold s_hxe; first | rw [if_pos ⟨by omega, by rw [← hlast (by omega)]; omega⟩]; omega | (rw [if_neg]; omega; rintro ⟨z1, z2⟩; rw [← hlast z1] at z2; omega)
      refine x_locs [2, 1, 0] rfl ?_
      have := w_D_passHex_59_19_2 Z d q r A dy g n hd (q 582) hl hn hg (s_hxe g n / 2) s ov f bs (q 581) (by omega) hp
      rw [Int.sub_self] at this
      unfold s_fhex
      rw [if_neg (by omega)]
      exact this
    · refine x_iconst (x_d C_D_passHex 29 rfl) ⟨by omega, by omega⟩ ?_
      refine x_ireturn (x_d C_D_passHex 30 rfl) ?_
      have he : ((s_hxe g n : Nat) : Int) = q 582 - q 581 := by unfold s_hxe; first | rw [if_pos ⟨by omega, by rw [← hlast (by omega)]; omega⟩]; omega | (rw [if_neg]; omega; rintro ⟨z1, z2⟩; rw [← hlast z1] at z2; omega)
      exact ⟨s, ov, f, rfl, Or.inr ⟨rfl, fun b2 e => by unfold s_fhex at e; rw [if_pos (by omega)] at e; cases e⟩⟩
  · refine x_aload_n (x_d C_D_passHex 5 rfl) rfl ?_
    refine x_getfield (v := xC 2) (x_d C_D_passHex 6 rfl) f_D_37 rfl rfl ?_
    refine x_aload_n (x_d C_D_passHex 7 rfl) rfl ?_
    refine x_getfield (v := xI (q 582)) (x_d C_D_passHex 8 rfl) f_D_53 rfl rfl ?_
    refine x_iconst (x_d C_D_passHex 9 rfl) ⟨by omega, by omega⟩ ?_
    refine x_isub (x_d C_D_passHex 10 rfl) ⟨by omega, by omega⟩ ?_
    refine x_baload (f := A 2) (x_d C_D_passHex 11 rfl) rfl (by omega) (by omega) ?_
    refine x_bipush (x_d C_D_passHex 12 rfl) (by omega) ?_
    refine x_icmp_ne (tgt := 36) (x_d C_D_passHex 13 rfl) rfl (fun c3 => ?_) (fun c3 => ?_)
    · refine x_aload_n (x_d C_D_passHex 19 rfl) rfl ?_
      refine x_getfield (v := xI (q 582)) (x_d C_D_passHex 20 rfl) f_D_53 rfl rfl ?_
      refine x_istore_n (l1 := [(1, xI (q 582)), (0, xC 18)]) (x_d C_D_passHex 21 rfl) (by decide) rfl ?_
      refine x_iload_n (x_d C_D_passHex 22 rfl) rfl ?_
      refine x_aload_n (x_d C_D_passHex 23 rfl) rfl ?_
      refine x_getfield (v := xI (q 581)) (x_d C_D_passHex 24 rfl) f_D_46 rfl rfl ?_
      refine x_isub (x_d C_D_passHex 25 rfl) ⟨by omega, by omega⟩ ?_
      refine x_iconst (x_d C_D_passHex 26 rfl) ⟨by omega, by omega⟩ ?_
      refine x_irem (x_d C_D_passHex 27 rfl) (by omega) (by omega) ?_
      refine x_if_eq (tgt := 54) (x_d C_D_passHex 28 rfl) rfl (fun c4 => ?_) (fun c4 => ?_)
      · refine x_aload_n (x_d C_D_passHex 31 rfl) rfl ?_
        refine x_getfield (v := xI (q 581)) (x_d C_D_passHex 32 rfl) f_D_46 rfl rfl ?_
        refine x_istore_n (l1 := [(2, xI (q 581)), (1, xI (q 582)), (0, xC 18)]) (x_d C_D_passHex 33 rfl) (by decide) rfl ?_
        have he : ((s_hxe g n : Nat) : Int) = q 582 - q 581 := by unfold s_hxe; first | rw [if_pos ⟨by omega, by rw [← hlast (by omega)]; omega⟩]; omega | (rw [if_neg]; omega; rintro ⟨z1, z2⟩; rw [← hlast z1] at z2; omega)
        refine x_locs [2, 1, 0] rfl ?_
        have := w_D_passHex_59_19_2 Z d q r A dy g n hd (q 582) hl hn hg (s_hxe g n / 2) s ov f bs (q 581) (by omega) hp
        rw [Int.sub_self] at this
        unfold s_fhex
        rw [if_neg (by omega)]
        exact this
      · refine x_iconst (x_d C_D_passHex 29 rfl) ⟨by omega, by omega⟩ ?_
        refine x_ireturn (x_d C_D_passHex 30 rfl) ?_
        have he : ((s_hxe g n : Nat) : Int) = q 582 - q 581 := by unfold s_hxe; first | rw [if_pos ⟨by omega, by rw [← hlast (by omega)]; omega⟩]; omega | (rw [if_neg]; omega; rintro ⟨z1, z2⟩; rw [← hlast z1] at z2; omega)
        exact ⟨s, ov, f, rfl, Or.inr ⟨rfl, fun b2 e => by unfold s_fhex at e; rw [if_pos (by omega)] at e; cases e⟩⟩
    · refine x_aload_n (x_d C_D_passHex 14 rfl) rfl ?_
      refine x_getfield (v := xI (q 582)) (x_d C_D_passHex 15 rfl) f_D_53 rfl rfl ?_
      refine x_iconst (x_d C_D_passHex 16 rfl) ⟨by omega, by omega⟩ ?_
      refine x_isub (x_d C_D_passHex 17 rfl) ⟨by omega, by omega⟩ ?_
      refine x_goto (tgt := 40) (x_d C_D_passHex 18 rfl) rfl ?_
      refine x_istore_n (l1 := [(1, xI (q 582 - 1)), (0, xC 18)]) (x_d C_D_passHex 21 rfl) (by decide) rfl ?_
      refine x_iload_n (x_d C_D_passHex 22 rfl) rfl ?_
      refine x_aload_n (x_d C_D_passHex 23 rfl) rfl ?_
      refine x_getfield (v := xI (q 581)) (x_d C_D_passHex 24 rfl) f_D_46 rfl rfl ?_
      refine x_isub (x_d C_D_passHex 25 rfl) ⟨by omega, by omega⟩ ?_
      refine x_iconst (x_d C_D_passHex 26 rfl) ⟨by omega, by omega⟩ ?_
      refine x_irem (x_d C_D_passHex 27 rfl) (by omega) (by omega) ?_
      refine x_if_eq (tgt := 54) (x_d C_D_passHex 28 rfl) rfl (fun c5 => ?_) (fun c5 => ?_)
      · refine x_aload_n (x_d C_D_passHex 31 rfl) rfl ?_
        refine x_getfield (v := xI (q 581)) (x_d C_D_passHex 32 rfl) f_D_46 rfl rfl ?_
        refine x_istore_n (l1 := [(2, xI (q 581)), (1, xI (q 582 - 1)), (0, xC 18)]) (x_d C_D_passHex 33 rfl) (by decide) rfl ?_
        have he : ((s_hxe g n : Nat) : Int) = q 582 - 1 - q 581 := by unfold s_hxe; first | rw [if_pos ⟨by omega, by rw [← hlast (by omega)]; omega⟩]; omega | (rw [if_neg]; omega; rintro ⟨z1, z2⟩; rw [← hlast z1] at z2; omega)
        refine x_locs [2, 1, 0] rfl ?_
        have := w_D_passHex_59_19_2 Z d q r A dy g n hd (q 582 - 1) hl hn hg (s_hxe g n / 2) s ov f bs (q 581) (by omega) hp
        rw [Int.sub_self] at this
        unfold s_fhex
        rw [if_neg (by omega)]
        exact this
      · refine x_iconst (x_d C_D_passHex 29 rfl) ⟨by omega, by omega⟩ ?_
        refine x_ireturn (x_d C_D_passHex 30 rfl) ?_
        have he : ((s_hxe g n : Nat) : Int) = q 582 - 1 - q 581 := by unfold s_hxe; first | rw [if_pos ⟨by omega, by rw [← hlast (by omega)]; omega⟩]; omega | (rw [if_neg]; omega; rintro ⟨z1, z2⟩; rw [← hlast z1] at z2; omega)
        exact ⟨s, ov, f, rfl, Or.inr ⟨rfl, fun b2 e => by unfold s_fhex at e; rw [if_pos (by omega)] at e; cases e⟩⟩
theorem w_D_passHex_59_19_22 (Z : xZ) (d : Nat) (q : Nat → Int) (r : Nat → Option Nat) (A : Nat → Nat → Int) (dy : xH) (g : Nat → Int) (n : Nat) (hd : 2 ≤ d) (e : Int) (hl : 0 ≤ q 611 ∧ q 611 ≤ 3000) (hn : 0 ≤ q 581 ∧ q 582 = q 581 + n ∧ q 582 ≤ 3000) (hg : ∀ k, k < n → A 22 ((q 581).toNat + k) = g k) : ∀ (m : Nat) (s ov : Int) (f : Nat → Int) (bs : List Int) (i : Int), (q 581 ≤ i ∧ e = i + 2 * m ∧ e ≤ q 582) → pb (q 611) s ov f bs → xW Z d Y_D_passHex 59 [(0, xC 18), (1, xI e), (2, xI i)] [] (hF (x_up (x_up q 609 s) 610 ov) (x_up (x_up r 578 (some 19)) 580 (some 22)) (x_up A 20 f) ++ dy) (fun v0 h2 => ∃ s2 ov2 f2, h2 = hF (x_up (x_up q 609 s2) 610 ov2) (x_up (x_up r 578 (some 19)) 580 (some 22)) (x_up A 20 f2) ++ dy ∧ ((v0 = some (xI 1) ∧ ∃ b2, (s_hxs g m (i - q 581).toNat).map (fun x => bs ++ x) = some b2 ∧ pb (q 611) s2 ov2 f2 b2) ∨ (v0 = some (xI 0) ∧ ∀ b2, (s_hxs g m (i - q 581).toNat).map (fun x => bs ++ x) = some b2 → q 611 < b2.length))) := by
  intro m
  induction m with
  | zero =>
    intro s ov f bs i hi hp
    have hp0 := hp.1
    have hp1 := hp.2.1
    have hgi : ∀ u : Int, q 581 ≤ u → u < q 582 → A 22 u.toNat = g (u - q 581).toNat := fun u h1 h2 => by rw [← hg _ (by omega)]; congr 1; omega
    refine xW_ok (fun _ _ hok => ?_)
    have hbB : ∀ j, -128 ≤ A 22 j ∧ A 22 j ≤ 127 := fun j => hok _ (List.mem_of_getElem? (i := 22) rfl) j
    refine x_iload_n (x_d C_D_passHex 34 rfl) rfl ?_
    refine x_iload_n (x_d C_D_passHex 35 rfl) rfl ?_
    refine x_icmp_ge (tgt := 118) (x_d C_D_passHex 36 rfl) rfl (fun _ => ?_) (fun q => absurd q (by omega))
    refine x_iconst (x_d C_D_passHex 67 rfl) ⟨by omega, by omega⟩ ?_
    refine x_ireturn (x_d C_D_passHex 68 rfl) ?_
    exact ⟨s, ov, f, rfl, Or.inl ⟨rfl, bs ++ [], rfl, pb_nil hp⟩⟩
  | succ m ih =>
    intro s ov f bs i hi hp
    have hp0 := hp.1
    have hp1 := hp.2.1
    have hgi : ∀ u : Int, q 581 ≤ u → u < q 582 → A 22 u.toNat = g (u - q 581).toNat := fun u h1 h2 => by rw [← hg _ (by omega)]; congr 1; omega
    refine xW_ok (fun _ _ hok => ?_)
    have hbB : ∀ j, -128 ≤ A 22 j ∧ A 22 j ≤ 127 := fun j => hok _ (List.mem_of_getElem? (i := 22) rfl) j
    have hk1 : g ((i - q 581).toNat + 1) = A 22 (i + 1).toNat := by rw [hgi (i + 1) (by omega) (by omega)]; congr 1; omega
    have hx1 := s_hex_in (A 22 i.toNat)
    have hx2 := s_hex_in (A 22 (i + 1).toNat)
    refine x_iload_n (x_d C_D_passHex 34 rfl) rfl ?_
    refine x_iload_n (x_d C_D_passHex 35 rfl) rfl ?_
    refine x_icmp_ge (tgt := 118) (x_d C_D_passHex 36 rfl) rfl (fun q => absurd q (by omega)) (fun _ => ?_)
    refine x_aload_n (x_d C_D_passHex 37 rfl) rfl ?_
    refine x_getfield (v := xC 22) (x_d C_D_passHex 38 rfl) f_D_37 rfl rfl ?_
    refine x_iload_n (x_d C_D_passHex 39 rfl) rfl ?_
    refine x_baload (f := A 22) (x_d C_D_passHex 40 rfl) rfl (by omega) (by omega) ?_
    refine x_invokestatic (st := []) (av := [xI (A 22 (i).toNat)]) (x_d C_D_passHex 41 rfl) k_D_107 m_PF_hexDigit s_PF_hexDigit rfl (Nat.le_of_ble_eq_true rfl) (by omega) rfl (c_PF_hexDigit Z (d - 1) (hF (x_up (x_up q 609 s) 610 ov) (x_up (x_up r 578 (some 19)) 580 (some 22)) (x_up A 20 f) ++ dy) (A 22 (i).toNat)) ?_
    rintro v_ _ ⟨hv_, rfl⟩
    obtain rfl : v_ = some (xI (s_hex (A 22 (i).toNat))) := hv_
    refine x_istore_n (l1 := [(3, xI (s_hex (A 22 (i).toNat))), (0, xC 18), (1, xI (e)), (2, xI (i))]) (x_d C_D_passHex 42 rfl) (by decide) rfl ?_
    refine x_aload_n (x_d C_D_passHex 43 rfl) rfl ?_
    refine x_getfield (v := xC 22) (x_d C_D_passHex 44 rfl) f_D_37 rfl rfl ?_
    refine x_iload_n (x_d C_D_passHex 45 rfl) rfl ?_
    refine x_iconst (x_d C_D_passHex 46 rfl) ⟨by omega, by omega⟩ ?_
    refine x_iadd (x_d C_D_passHex 47 rfl) ⟨by omega, by omega⟩ ?_
    refine x_baload (f := A 22) (x_d C_D_passHex 48 rfl) rfl (by omega) (by omega) ?_
    refine x_invokestatic (st := []) (av := [xI (A 22 (i + 1).toNat)]) (x_d C_D_passHex 49 rfl) k_D_107 m_PF_hexDigit s_PF_hexDigit rfl (Nat.le_of_ble_eq_true rfl) (by omega) rfl (c_PF_hexDigit Z (d - 1) (hF (x_up (x_up q 609 s) 610 ov) (x_up (x_up r 578 (some 19)) 580 (some 22)) (x_up A 20 f) ++ dy) (A 22 (i + 1).toNat)) ?_
    rintro v_ _ ⟨hv_, rfl⟩
    obtain rfl : v_ = some (xI (s_hex (A 22 (i + 1).toNat))) := hv_
    refine x_istore (l1 := [(4, xI (s_hex (A 22 (i + 1).toNat))), (3, xI (s_hex (A 22 (i).toNat))), (0, xC 18), (1, xI (e)), (2, xI (i))]) (x_d C_D_passHex 50 rfl) (by decide) rfl ?_
    refine x_iload_n (x_d C_D_passHex 51 rfl) rfl ?_
    refine x_if_lt (tgt := 96) (x_d C_D_passHex 52 rfl) rfl (fun c2 => ?_) (fun c2 => ?_)
    · refine x_iconst (x_d C_D_passHex 55 rfl) ⟨by omega, by omega⟩ ?_
      refine x_ireturn (x_d C_D_passHex 56 rfl) ?_
      exact ⟨s, ov, f, rfl, Or.inr ⟨rfl, fun b2 e => by rw [s_hxs_s, ← hgi i (by omega) (by omega), hk1, if_pos (by omega)] at e; cases e⟩⟩
    · refine x_iload (x_d C_D_passHex 53 rfl) rfl ?_
      refine x_if_ge (tgt := 98) (x_d C_D_passHex 54 rfl) rfl (fun c3 => ?_) (fun c3 => ?_)
      · refine x_aload_n (x_d C_D_passHex 57 rfl) rfl ?_
        refine x_getfield (v := xC 19) (x_d C_D_passHex 58 rfl) f_D_14 rfl rfl ?_
        refine x_bipush (x_d C_D_passHex 59 rfl) (by omega) ?_
        refine x_iload_n (x_d C_D_passHex 60 rfl) rfl ?_
        refine x_imul (x_d C_D_passHex 61 rfl) ⟨by omega, by omega⟩ ?_
        refine x_iload (x_d C_D_passHex 62 rfl) rfl ?_
        refine x_iadd (x_d C_D_passHex 63 rfl) ⟨by omega, by omega⟩ ?_
        refine x_invokevirtual (st := []) (av := [xI ((16 * (s_hex (A 22 (i).toNat))) + (s_hex (A 22 (i + 1).toNat)))]) (x_d C_D_passHex 64 rfl) k_D_110 m_Pa_add v_Pa_add cl_Pa rfl rfl (Nat.le_of_ble_eq_true rfl) (by omega) rfl (c_Pb_add_19 Z (d - 1) q (x_up (x_up r 578 (some 19)) 580 (some 22)) A dy s ov f bs ((16 * (s_hex (A 22 (i).toNat))) + (s_hex (A 22 (i + 1).toNat))) hl hp) ?_
        rintro _ _ ⟨rfl, s4, ov4, f4, rfl, hp4⟩
        have hp04 := hp4.1
        have hp14 := hp4.2.1
        refine x_iinc (l1 := [(2, xI (i + 2)), (4, xI (s_hex (A 22 (i + 1).toNat))), (3, xI (s_hex (A 22 (i).toNat))), (0, xC 18), (1, xI (e))]) (x_d C_D_passHex 65 rfl) rfl ⟨by omega, by omega⟩ (by decide) rfl ?_
        refine x_goto (tgt := 59) (x_d C_D_passHex 66 rfl) rfl ?_
        refine x_locs [3, 4, 0] rfl ?_
        refine xW_post ?_ (ih s4 ov4 f4 _ (i + 2) (by omega) hp4)
        rintro v0 h2 ⟨s9, ov9, f9, g2, g3⟩
        refine ⟨s9, ov9, f9, g2, ?_⟩
        rw [s_hxs_s, ← hgi i (by omega) (by omega), hk1, if_neg (by omega), s_mapc]
        rw [show (i + 2 - q 581).toNat = (i - q 581).toNat + 2 by omega] at g3
        exact g3
      · refine x_iconst (x_d C_D_passHex 55 rfl) ⟨by omega, by omega⟩ ?_
        refine x_ireturn (x_d C_D_passHex 56 rfl) ?_
        exact ⟨s, ov, f, rfl, Or.inr ⟨rfl, fun b2 e => by rw [s_hxs_s, ← hgi i (by omega) (by omega), hk1, if_pos (by omega)] at e; cases e⟩⟩
theorem c_D_passHex_19_22 (Z : xZ) (d : Nat) (q : Nat → Int) (r : Nat → Option Nat) (A : Nat → Nat → Int) (dy : xH) (g : Nat → Int) (n : Nat) (hd : 2 ≤ d) (s ov : Int) (f : Nat → Int) (bs : List Int) (hl : 0 ≤ q 611 ∧ q 611 ≤ 3000) (hn : 0 ≤ q 581 ∧ q 582 = q 581 + n ∧ q 582 ≤ 3000) (hg : ∀ k, k < n → A 22 ((q 581).toNat + k) = g k) (hp : pb (q 611) s ov f bs) : xMet Z d Y_D_passHex [xC 18] (hF (x_up (x_up q 609 s) 610 ov) (x_up (x_up r 578 (some 19)) 580 (some 22)) (x_up A 20 f) ++ dy) (fun v0 h2 => ∃ s2 ov2 f2, h2 = hF (x_up (x_up q 609 s2) 610 ov2) (x_up (x_up r 578 (some 19)) 580 (some 22)) (x_up A 20 f2) ++ dy ∧ ((v0 = some (xI 1) ∧ ∃ b2, (s_fhex g n).map (fun x => bs ++ x) = some b2 ∧ pb (q 611) s2 ov2 f2 b2) ∨ (v0 = some (xI 0) ∧ ∀ b2, (s_fhex g n).map (fun x => bs ++ x) = some b2 → q 611 < b2.length))) := by
  refine xMet_of (by decide) (Nat.le_of_ble_eq_true rfl) (fun v0 h2 hq => by obtain ⟨_, _, _, _, ⟨e, _⟩ | ⟨e, _⟩⟩ := hq <;> rw [e]; exact Or.inr rfl; exact Or.inl rfl) ?_
  have hp0 := hp.1
  have hp1 := hp.2.1
  have hgi : ∀ u : Int, q 581 ≤ u → u < q 582 → A 22 u.toNat = g (u - q 581).toNat := fun u h1 h2 => by rw [← hg _ (by omega)]; congr 1; omega
  refine xW_ok (fun _ _ hok => ?_)
  have hbB : ∀ j, -128 ≤ A 22 j ∧ A 22 j ≤ 127 := fun j => hok _ (List.mem_of_getElem? (i := 22) rfl) j
  have hlast : 0 < n → A 22 (q 582 - 1).toNat = g (n - 1) := fun h => by rw [hgi _ (by omega) (by omega)]; congr 1; omega
  refine x_aload_n (x_d C_D_passHex 0 rfl) rfl ?_
  refine x_getfield (v := xI (q 582)) (x_d C_D_passHex 1 rfl) f_D_53 rfl rfl ?_
  refine x_aload_n (x_d C_D_passHex 2 rfl) rfl ?_
  refine x_getfield (v := xI (q 581)) (x_d C_D_passHex 3 rfl) f_D_46 rfl rfl ?_
  refine x_icmp_le (tgt := 36) (x_d C_D_passHex 4 rfl) rfl (fun c1 => ?_) (fun c1 => ?_)
  · refine x_aload_n (x_d C_D_passHex 19 rfl) rfl ?_
    refine x_getfield (v := xI (q 582)) (x_d C_D_passHex 20 rfl) f_D_53 rfl rfl ?_
    refine x_istore_n (l1 := [(1, xI (q 582)), (0, xC 18)]) (x_d C_D_passHex 21 rfl) (by decide) rfl ?_
    refine x_iload_n (x_d C_D_passHex 22 rfl) rfl ?_
    refine x_aload_n (x_d C_D_passHex 23 rfl) rfl ?_
    refine x_getfield (v := xI (q 581)) (x_d C_D_passHex 24 rfl) f_D_46 rfl rfl ?_
    refine x_isub (x_d C_D_passHex 25 rfl) ⟨by omega, by omega⟩ ?_
    refine x_iconst (x_d C_D_passHex 26 rfl) ⟨by omega, by omega⟩ ?_
    refine x_irem (x_d C_D_passHex 27 rfl) (by omega) (by omega) ?_
    refine x_if_eq (tgt := 54) (x_d C_D_passHex 28 rfl) rfl (fun c2 => ?_) (fun c2 => ?_)
    · refine x_aload_n (x_d C_D_passHex 31 rfl) rfl ?_
      refine x_getfield (v := xI (q 581)) (x_d C_D_passHex 32 rfl) f_D_46 rfl rfl ?_
      refine x_istore_n (l1 := [(2, xI (q 581)), (1, xI (q 582)), (0, xC 18)]) (x_d C_D_passHex 33 rfl) (by decide) rfl ?_
      have he : ((s_hxe g n : Nat) : Int) = q 582 - q 581 := by unfold s_hxe; first | rw [if_pos ⟨by omega, by rw [← hlast (by omega)]; omega⟩]; omega | (rw [if_neg]; omega; rintro ⟨z1, z2⟩; rw [← hlast z1] at z2; omega)
      refine x_locs [2, 1, 0] rfl ?_
      have := w_D_passHex_59_19_22 Z d q r A dy g n hd (q 582) hl hn hg (s_hxe g n / 2) s ov f bs (q 581) (by omega) hp
      rw [Int.sub_self] at this
      unfold s_fhex
      rw [if_neg (by omega)]
      exact this
    · refine x_iconst (x_d C_D_passHex 29 rfl) ⟨by omega, by omega⟩ ?_
      refine x_ireturn (x_d C_D_passHex 30 rfl) ?_
      have he : ((s_hxe g n : Nat) : Int) = q 582 - q 581 := by unfold s_hxe; first | rw [if_pos ⟨by omega, by rw [← hlast (by omega)]; omega⟩]; omega | (rw [if_neg]; omega; rintro ⟨z1, z2⟩; rw [← hlast z1] at z2; omega)
      exact ⟨s, ov, f, rfl, Or.inr ⟨rfl, fun b2 e => by unfold s_fhex at e; rw [if_pos (by omega)] at e; cases e⟩⟩
  · refine x_aload_n (x_d C_D_passHex 5 rfl) rfl ?_
    refine x_getfield (v := xC 22) (x_d C_D_passHex 6 rfl) f_D_37 rfl rfl ?_
    refine x_aload_n (x_d C_D_passHex 7 rfl) rfl ?_
    refine x_getfield (v := xI (q 582)) (x_d C_D_passHex 8 rfl) f_D_53 rfl rfl ?_
    refine x_iconst (x_d C_D_passHex 9 rfl) ⟨by omega, by omega⟩ ?_
    refine x_isub (x_d C_D_passHex 10 rfl) ⟨by omega, by omega⟩ ?_
    refine x_baload (f := A 22) (x_d C_D_passHex 11 rfl) rfl (by omega) (by omega) ?_
    refine x_bipush (x_d C_D_passHex 12 rfl) (by omega) ?_
    refine x_icmp_ne (tgt := 36) (x_d C_D_passHex 13 rfl) rfl (fun c3 => ?_) (fun c3 => ?_)
    · refine x_aload_n (x_d C_D_passHex 19 rfl) rfl ?_
      refine x_getfield (v := xI (q 582)) (x_d C_D_passHex 20 rfl) f_D_53 rfl rfl ?_
      refine x_istore_n (l1 := [(1, xI (q 582)), (0, xC 18)]) (x_d C_D_passHex 21 rfl) (by decide) rfl ?_
      refine x_iload_n (x_d C_D_passHex 22 rfl) rfl ?_
      refine x_aload_n (x_d C_D_passHex 23 rfl) rfl ?_
      refine x_getfield (v := xI (q 581)) (x_d C_D_passHex 24 rfl) f_D_46 rfl rfl ?_
      refine x_isub (x_d C_D_passHex 25 rfl) ⟨by omega, by omega⟩ ?_
      refine x_iconst (x_d C_D_passHex 26 rfl) ⟨by omega, by omega⟩ ?_
      refine x_irem (x_d C_D_passHex 27 rfl) (by omega) (by omega) ?_
      refine x_if_eq (tgt := 54) (x_d C_D_passHex 28 rfl) rfl (fun c4 => ?_) (fun c4 => ?_)
      · refine x_aload_n (x_d C_D_passHex 31 rfl) rfl ?_
        refine x_getfield (v := xI (q 581)) (x_d C_D_passHex 32 rfl) f_D_46 rfl rfl ?_
        refine x_istore_n (l1 := [(2, xI (q 581)), (1, xI (q 582)), (0, xC 18)]) (x_d C_D_passHex 33 rfl) (by decide) rfl ?_
        have he : ((s_hxe g n : Nat) : Int) = q 582 - q 581 := by unfold s_hxe; first | rw [if_pos ⟨by omega, by rw [← hlast (by omega)]; omega⟩]; omega | (rw [if_neg]; omega; rintro ⟨z1, z2⟩; rw [← hlast z1] at z2; omega)
        refine x_locs [2, 1, 0] rfl ?_
        have := w_D_passHex_59_19_22 Z d q r A dy g n hd (q 582) hl hn hg (s_hxe g n / 2) s ov f bs (q 581) (by omega) hp
        rw [Int.sub_self] at this
        unfold s_fhex
        rw [if_neg (by omega)]
        exact this
      · refine x_iconst (x_d C_D_passHex 29 rfl) ⟨by omega, by omega⟩ ?_
        refine x_ireturn (x_d C_D_passHex 30 rfl) ?_
        have he : ((s_hxe g n : Nat) : Int) = q 582 - q 581 := by unfold s_hxe; first | rw [if_pos ⟨by omega, by rw [← hlast (by omega)]; omega⟩]; omega | (rw [if_neg]; omega; rintro ⟨z1, z2⟩; rw [← hlast z1] at z2; omega)
        exact ⟨s, ov, f, rfl, Or.inr ⟨rfl, fun b2 e => by unfold s_fhex at e; rw [if_pos (by omega)] at e; cases e⟩⟩
    · refine x_aload_n (x_d C_D_passHex 14 rfl) rfl ?_
      refine x_getfield (v := xI (q 582)) (x_d C_D_passHex 15 rfl) f_D_53 rfl rfl ?_
      refine x_iconst (x_d C_D_passHex 16 rfl) ⟨by omega, by omega⟩ ?_
      refine x_isub (x_d C_D_passHex 17 rfl) ⟨by omega, by omega⟩ ?_
      refine x_goto (tgt := 40) (x_d C_D_passHex 18 rfl) rfl ?_
      refine x_istore_n (l1 := [(1, xI (q 582 - 1)), (0, xC 18)]) (x_d C_D_passHex 21 rfl) (by decide) rfl ?_
      refine x_iload_n (x_d C_D_passHex 22 rfl) rfl ?_
      refine x_aload_n (x_d C_D_passHex 23 rfl) rfl ?_
      refine x_getfield (v := xI (q 581)) (x_d C_D_passHex 24 rfl) f_D_46 rfl rfl ?_
      refine x_isub (x_d C_D_passHex 25 rfl) ⟨by omega, by omega⟩ ?_
      refine x_iconst (x_d C_D_passHex 26 rfl) ⟨by omega, by omega⟩ ?_
      refine x_irem (x_d C_D_passHex 27 rfl) (by omega) (by omega) ?_
      refine x_if_eq (tgt := 54) (x_d C_D_passHex 28 rfl) rfl (fun c5 => ?_) (fun c5 => ?_)
      · refine x_aload_n (x_d C_D_passHex 31 rfl) rfl ?_
        refine x_getfield (v := xI (q 581)) (x_d C_D_passHex 32 rfl) f_D_46 rfl rfl ?_
        refine x_istore_n (l1 := [(2, xI (q 581)), (1, xI (q 582 - 1)), (0, xC 18)]) (x_d C_D_passHex 33 rfl) (by decide) rfl ?_
        have he : ((s_hxe g n : Nat) : Int) = q 582 - 1 - q 581 := by unfold s_hxe; first | rw [if_pos ⟨by omega, by rw [← hlast (by omega)]; omega⟩]; omega | (rw [if_neg]; omega; rintro ⟨z1, z2⟩; rw [← hlast z1] at z2; omega)
        refine x_locs [2, 1, 0] rfl ?_
        have := w_D_passHex_59_19_22 Z d q r A dy g n hd (q 582 - 1) hl hn hg (s_hxe g n / 2) s ov f bs (q 581) (by omega) hp
        rw [Int.sub_self] at this
        unfold s_fhex
        rw [if_neg (by omega)]
        exact this
      · refine x_iconst (x_d C_D_passHex 29 rfl) ⟨by omega, by omega⟩ ?_
        refine x_ireturn (x_d C_D_passHex 30 rfl) ?_
        have he : ((s_hxe g n : Nat) : Int) = q 582 - 1 - q 581 := by unfold s_hxe; first | rw [if_pos ⟨by omega, by rw [← hlast (by omega)]; omega⟩]; omega | (rw [if_neg]; omega; rintro ⟨z1, z2⟩; rw [← hlast z1] at z2; omega)
        exact ⟨s, ov, f, rfl, Or.inr ⟨rfl, fun b2 e => by unfold s_fhex at e; rw [if_pos (by omega)] at e; cases e⟩⟩
theorem w_D_passHex_59_21_2 (Z : xZ) (d : Nat) (q : Nat → Int) (r : Nat → Option Nat) (A : Nat → Nat → Int) (dy : xH) (g : Nat → Int) (n : Nat) (hd : 2 ≤ d) (e : Int) (hl : 0 ≤ q 675 ∧ q 675 ≤ 3000) (hn : 0 ≤ q 581 ∧ q 582 = q 581 + n ∧ q 582 ≤ 10248) (hg : ∀ k, k < n → A 2 ((q 581).toNat + k) = g k) : ∀ (m : Nat) (s ov : Int) (f : Nat → Int) (bs : List Int) (i : Int), (q 581 ≤ i ∧ e = i + 2 * m ∧ e ≤ q 582) → pb (q 675) s ov f bs → xW Z d Y_D_passHex 59 [(0, xC 18), (1, xI e), (2, xI i)] [] (hF (x_up (x_up q 673 s) 674 ov) (x_up (x_up r 578 (some 21)) 580 (some 2)) (x_up A 22 f) ++ dy) (fun v0 h2 => ∃ s2 ov2 f2, h2 = hF (x_up (x_up q 673 s2) 674 ov2) (x_up (x_up r 578 (some 21)) 580 (some 2)) (x_up A 22 f2) ++ dy ∧ ((v0 = some (xI 1) ∧ ∃ b2, (s_hxs g m (i - q 581).toNat).map (fun x => bs ++ x) = some b2 ∧ pb (q 675) s2 ov2 f2 b2) ∨ (v0 = some (xI 0) ∧ ∀ b2, (s_hxs g m (i - q 581).toNat).map (fun x => bs ++ x) = some b2 → q 675 < b2.length))) := by
  intro m
  induction m with
  | zero =>
    intro s ov f bs i hi hp
    have hp0 := hp.1
    have hp1 := hp.2.1
    have hgi : ∀ u : Int, q 581 ≤ u → u < q 582 → A 2 u.toNat = g (u - q 581).toNat := fun u h1 h2 => by rw [← hg _ (by omega)]; congr 1; omega
    refine xW_ok (fun _ _ hok => ?_)
    have hbB : ∀ j, -128 ≤ A 2 j ∧ A 2 j ≤ 127 := fun j => hok _ (List.mem_of_getElem? (i := 2) rfl) j
    refine x_iload_n (x_d C_D_passHex 34 rfl) rfl ?_
    refine x_iload_n (x_d C_D_passHex 35 rfl) rfl ?_
    refine x_icmp_ge (tgt := 118) (x_d C_D_passHex 36 rfl) rfl (fun _ => ?_) (fun q => absurd q (by omega))
    refine x_iconst (x_d C_D_passHex 67 rfl) ⟨by omega, by omega⟩ ?_
    refine x_ireturn (x_d C_D_passHex 68 rfl) ?_
    exact ⟨s, ov, f, rfl, Or.inl ⟨rfl, bs ++ [], rfl, pb_nil hp⟩⟩
  | succ m ih =>
    intro s ov f bs i hi hp
    have hp0 := hp.1
    have hp1 := hp.2.1
    have hgi : ∀ u : Int, q 581 ≤ u → u < q 582 → A 2 u.toNat = g (u - q 581).toNat := fun u h1 h2 => by rw [← hg _ (by omega)]; congr 1; omega
    refine xW_ok (fun _ _ hok => ?_)
    have hbB : ∀ j, -128 ≤ A 2 j ∧ A 2 j ≤ 127 := fun j => hok _ (List.mem_of_getElem? (i := 2) rfl) j
    have hk1 : g ((i - q 581).toNat + 1) = A 2 (i + 1).toNat := by rw [hgi (i + 1) (by omega) (by omega)]; congr 1; omega
    have hx1 := s_hex_in (A 2 i.toNat)
    have hx2 := s_hex_in (A 2 (i + 1).toNat)
    refine x_iload_n (x_d C_D_passHex 34 rfl) rfl ?_
    refine x_iload_n (x_d C_D_passHex 35 rfl) rfl ?_
    refine x_icmp_ge (tgt := 118) (x_d C_D_passHex 36 rfl) rfl (fun q => absurd q (by omega)) (fun _ => ?_)
    refine x_aload_n (x_d C_D_passHex 37 rfl) rfl ?_
    refine x_getfield (v := xC 2) (x_d C_D_passHex 38 rfl) f_D_37 rfl rfl ?_
    refine x_iload_n (x_d C_D_passHex 39 rfl) rfl ?_
    refine x_baload (f := A 2) (x_d C_D_passHex 40 rfl) rfl (by omega) (by omega) ?_
    refine x_invokestatic (st := []) (av := [xI (A 2 (i).toNat)]) (x_d C_D_passHex 41 rfl) k_D_107 m_PF_hexDigit s_PF_hexDigit rfl (Nat.le_of_ble_eq_true rfl) (by omega) rfl (c_PF_hexDigit Z (d - 1) (hF (x_up (x_up q 673 s) 674 ov) (x_up (x_up r 578 (some 21)) 580 (some 2)) (x_up A 22 f) ++ dy) (A 2 (i).toNat)) ?_
    rintro v_ _ ⟨hv_, rfl⟩
    obtain rfl : v_ = some (xI (s_hex (A 2 (i).toNat))) := hv_
    refine x_istore_n (l1 := [(3, xI (s_hex (A 2 (i).toNat))), (0, xC 18), (1, xI (e)), (2, xI (i))]) (x_d C_D_passHex 42 rfl) (by decide) rfl ?_
    refine x_aload_n (x_d C_D_passHex 43 rfl) rfl ?_
    refine x_getfield (v := xC 2) (x_d C_D_passHex 44 rfl) f_D_37 rfl rfl ?_
    refine x_iload_n (x_d C_D_passHex 45 rfl) rfl ?_
    refine x_iconst (x_d C_D_passHex 46 rfl) ⟨by omega, by omega⟩ ?_
    refine x_iadd (x_d C_D_passHex 47 rfl) ⟨by omega, by omega⟩ ?_
    refine x_baload (f := A 2) (x_d C_D_passHex 48 rfl) rfl (by omega) (by omega) ?_
    refine x_invokestatic (st := []) (av := [xI (A 2 (i + 1).toNat)]) (x_d C_D_passHex 49 rfl) k_D_107 m_PF_hexDigit s_PF_hexDigit rfl (Nat.le_of_ble_eq_true rfl) (by omega) rfl (c_PF_hexDigit Z (d - 1) (hF (x_up (x_up q 673 s) 674 ov) (x_up (x_up r 578 (some 21)) 580 (some 2)) (x_up A 22 f) ++ dy) (A 2 (i + 1).toNat)) ?_
    rintro v_ _ ⟨hv_, rfl⟩
    obtain rfl : v_ = some (xI (s_hex (A 2 (i + 1).toNat))) := hv_
    refine x_istore (l1 := [(4, xI (s_hex (A 2 (i + 1).toNat))), (3, xI (s_hex (A 2 (i).toNat))), (0, xC 18), (1, xI (e)), (2, xI (i))]) (x_d C_D_passHex 50 rfl) (by decide) rfl ?_
    refine x_iload_n (x_d C_D_passHex 51 rfl) rfl ?_
    refine x_if_lt (tgt := 96) (x_d C_D_passHex 52 rfl) rfl (fun c2 => ?_) (fun c2 => ?_)
    · refine x_iconst (x_d C_D_passHex 55 rfl) ⟨by omega, by omega⟩ ?_
      refine x_ireturn (x_d C_D_passHex 56 rfl) ?_
      exact ⟨s, ov, f, rfl, Or.inr ⟨rfl, fun b2 e => by rw [s_hxs_s, ← hgi i (by omega) (by omega), hk1, if_pos (by omega)] at e; cases e⟩⟩
    · refine x_iload (x_d C_D_passHex 53 rfl) rfl ?_
      refine x_if_ge (tgt := 98) (x_d C_D_passHex 54 rfl) rfl (fun c3 => ?_) (fun c3 => ?_)
      · refine x_aload_n (x_d C_D_passHex 57 rfl) rfl ?_
        refine x_getfield (v := xC 21) (x_d C_D_passHex 58 rfl) f_D_14 rfl rfl ?_
        refine x_bipush (x_d C_D_passHex 59 rfl) (by omega) ?_
        refine x_iload_n (x_d C_D_passHex 60 rfl) rfl ?_
        refine x_imul (x_d C_D_passHex 61 rfl) ⟨by omega, by omega⟩ ?_
        refine x_iload (x_d C_D_passHex 62 rfl) rfl ?_
        refine x_iadd (x_d C_D_passHex 63 rfl) ⟨by omega, by omega⟩ ?_
        refine x_invokevirtual (st := []) (av := [xI ((16 * (s_hex (A 2 (i).toNat))) + (s_hex (A 2 (i + 1).toNat)))]) (x_d C_D_passHex 64 rfl) k_D_110 m_Pa_add v_Pa_add cl_Pa rfl rfl (Nat.le_of_ble_eq_true rfl) (by omega) rfl (c_Pb_add_21 Z (d - 1) q (x_up (x_up r 578 (some 21)) 580 (some 2)) A dy s ov f bs ((16 * (s_hex (A 2 (i).toNat))) + (s_hex (A 2 (i + 1).toNat))) hl hp) ?_
        rintro _ _ ⟨rfl, s4, ov4, f4, rfl, hp4⟩
        have hp04 := hp4.1
        have hp14 := hp4.2.1
        refine x_iinc (l1 := [(2, xI (i + 2)), (4, xI (s_hex (A 2 (i + 1).toNat))), (3, xI (s_hex (A 2 (i).toNat))), (0, xC 18), (1, xI (e))]) (x_d C_D_passHex 65 rfl) rfl ⟨by omega, by omega⟩ (by decide) rfl ?_
        refine x_goto (tgt := 59) (x_d C_D_passHex 66 rfl) rfl ?_
        refine x_locs [3, 4, 0] rfl ?_
        refine xW_post ?_ (ih s4 ov4 f4 _ (i + 2) (by omega) hp4)
        rintro v0 h2 ⟨s9, ov9, f9, g2, g3⟩
        refine ⟨s9, ov9, f9, g2, ?_⟩
        rw [s_hxs_s, ← hgi i (by omega) (by omega), hk1, if_neg (by omega), s_mapc]
        rw [show (i + 2 - q 581).toNat = (i - q 581).toNat + 2 by omega] at g3
        exact g3
      · refine x_iconst (x_d C_D_passHex 55 rfl) ⟨by omega, by omega⟩ ?_
        refine x_ireturn (x_d C_D_passHex 56 rfl) ?_
        exact ⟨s, ov, f, rfl, Or.inr ⟨rfl, fun b2 e => by rw [s_hxs_s, ← hgi i (by omega) (by omega), hk1, if_pos (by omega)] at e; cases e⟩⟩
theorem c_D_passHex_21_2 (Z : xZ) (d : Nat) (q : Nat → Int) (r : Nat → Option Nat) (A : Nat → Nat → Int) (dy : xH) (g : Nat → Int) (n : Nat) (hd : 2 ≤ d) (s ov : Int) (f : Nat → Int) (bs : List Int) (hl : 0 ≤ q 675 ∧ q 675 ≤ 3000) (hn : 0 ≤ q 581 ∧ q 582 = q 581 + n ∧ q 582 ≤ 10248) (hg : ∀ k, k < n → A 2 ((q 581).toNat + k) = g k) (hp : pb (q 675) s ov f bs) : xMet Z d Y_D_passHex [xC 18] (hF (x_up (x_up q 673 s) 674 ov) (x_up (x_up r 578 (some 21)) 580 (some 2)) (x_up A 22 f) ++ dy) (fun v0 h2 => ∃ s2 ov2 f2, h2 = hF (x_up (x_up q 673 s2) 674 ov2) (x_up (x_up r 578 (some 21)) 580 (some 2)) (x_up A 22 f2) ++ dy ∧ ((v0 = some (xI 1) ∧ ∃ b2, (s_fhex g n).map (fun x => bs ++ x) = some b2 ∧ pb (q 675) s2 ov2 f2 b2) ∨ (v0 = some (xI 0) ∧ ∀ b2, (s_fhex g n).map (fun x => bs ++ x) = some b2 → q 675 < b2.length))) := by
  refine xMet_of (by decide) (Nat.le_of_ble_eq_true rfl) (fun v0 h2 hq => by obtain ⟨_, _, _, _, ⟨e, _⟩ | ⟨e, _⟩⟩ := hq <;> rw [e]; exact Or.inr rfl; exact Or.inl rfl) ?_
  have hp0 := hp.1
  have hp1 := hp.2.1
  have hgi : ∀ u : Int, q 581 ≤ u → u < q 582 → A 2 u.toNat = g (u - q 581).toNat := fun u h1 h2 => by rw [← hg _ (by omega)]; congr 1; omega
  refine xW_ok (fun _ _ hok => ?_)
  have hbB : ∀ j, -128 ≤ A 2 j ∧ A 2 j ≤ 127 := fun j => hok _ (List.mem_of_getElem? (i := 2) rfl) j
  have hlast : 0 < n → A 2 (q 582 - 1).toNat = g (n - 1) := fun h => by rw [hgi _ (by omega) (by omega)]; congr 1; omega
  refine x_aload_n (x_d C_D_passHex 0 rfl) rfl ?_
  refine x_getfield (v := xI (q 582)) (x_d C_D_passHex 1 rfl) f_D_53 rfl rfl ?_
  refine x_aload_n (x_d C_D_passHex 2 rfl) rfl ?_
  refine x_getfield (v := xI (q 581)) (x_d C_D_passHex 3 rfl) f_D_46 rfl rfl ?_
  refine x_icmp_le (tgt := 36) (x_d C_D_passHex 4 rfl) rfl (fun c1 => ?_) (fun c1 => ?_)
  · refine x_aload_n (x_d C_D_passHex 19 rfl) rfl ?_
    refine x_getfield (v := xI (q 582)) (x_d C_D_passHex 20 rfl) f_D_53 rfl rfl ?_
    refine x_istore_n (l1 := [(1, xI (q 582)), (0, xC 18)]) (x_d C_D_passHex 21 rfl) (by decide) rfl ?_
    refine x_iload_n (x_d C_D_passHex 22 rfl) rfl ?_
    refine x_aload_n (x_d C_D_passHex 23 rfl) rfl ?_
    refine x_getfield (v := xI (q 581)) (x_d C_D_passHex 24 rfl) f_D_46 rfl rfl ?_
    refine x_isub (x_d C_D_passHex 25 rfl) ⟨by omega, by omega⟩ ?_
    refine x_iconst (x_d C_D_passHex 26 rfl) ⟨by omega, by omega⟩ ?_
    refine x_irem (x_d C_D_passHex 27 rfl) (by omega) (by omega) ?_
    refine x_if_eq (tgt := 54) (x_d C_D_passHex 28 rfl) rfl (fun c2 => ?_) (fun c2 => ?_)
    · refine x_aload_n (x_d C_D_passHex 31 rfl) rfl ?_
      refine x_getfield (v := xI (q 581)) (x_d C_D_passHex 32 rfl) f_D_46 rfl rfl ?_
      refine x_istore_n (l1 := [(2, xI (q 581)), (1, xI (q 582)), (0, xC 18)]) (x_d C_D_passHex 33 rfl) (by decide) rfl ?_
      have he : ((s_hxe g n : Nat) : Int) = q 582 - q 581 := by unfold s_hxe; first | rw [if_pos ⟨by omega, by rw [← hlast (by omega)]; omega⟩]; omega | (rw [if_neg]; omega; rintro ⟨z1, z2⟩; rw [← hlast z1] at z2; omega)
      refine x_locs [2, 1, 0] rfl ?_
      have := w_D_passHex_59_21_2 Z d q r A dy g n hd (q 582) hl hn hg (s_hxe g n / 2) s ov f bs (q 581) (by omega) hp
      rw [Int.sub_self] at this
      unfold s_fhex
      rw [if_neg (by omega)]
      exact this
    · refine x_iconst (x_d C_D_passHex 29 rfl) ⟨by omega, by omega⟩ ?_
      refine x_ireturn (x_d C_D_passHex 30 rfl) ?_
      have he : ((s_hxe g n : Nat) : Int) = q 582 - q 581 := by unfold s_hxe; first | rw [if_pos ⟨by omega, by rw [← hlast (by omega)]; omega⟩]; omega | (rw [if_neg]; omega; rintro ⟨z1, z2⟩; rw [← hlast z1] at z2; omega)
      exact ⟨s, ov, f, rfl, Or.inr ⟨rfl, fun b2 e => by unfold s_fhex at e; rw [if_pos (by omega)] at e; cases e⟩⟩
  · refine x_aload_n (x_d C_D_passHex 5 rfl) rfl ?_
    refine x_getfield (v := xC 2) (x_d C_D_passHex 6 rfl) f_D_37 rfl rfl ?_
    refine x_aload_n (x_d C_D_passHex 7 rfl) rfl ?_
    refine x_getfield (v := xI (q 582)) (x_d C_D_passHex 8 rfl) f_D_53 rfl rfl ?_
    refine x_iconst (x_d C_D_passHex 9 rfl) ⟨by omega, by omega⟩ ?_
    refine x_isub (x_d C_D_passHex 10 rfl) ⟨by omega, by omega⟩ ?_
    refine x_baload (f := A 2) (x_d C_D_passHex 11 rfl) rfl (by omega) (by omega) ?_
    refine x_bipush (x_d C_D_passHex 12 rfl) (by omega) ?_
    refine x_icmp_ne (tgt := 36) (x_d C_D_passHex 13 rfl) rfl (fun c3 => ?_) (fun c3 => ?_)
    · refine x_aload_n (x_d C_D_passHex 19 rfl) rfl ?_
      refine x_getfield (v := xI (q 582)) (x_d C_D_passHex 20 rfl) f_D_53 rfl rfl ?_
      refine x_istore_n (l1 := [(1, xI (q 582)), (0, xC 18)]) (x_d C_D_passHex 21 rfl) (by decide) rfl ?_
      refine x_iload_n (x_d C_D_passHex 22 rfl) rfl ?_
      refine x_aload_n (x_d C_D_passHex 23 rfl) rfl ?_
      refine x_getfield (v := xI (q 581)) (x_d C_D_passHex 24 rfl) f_D_46 rfl rfl ?_
      refine x_isub (x_d C_D_passHex 25 rfl) ⟨by omega, by omega⟩ ?_
      refine x_iconst (x_d C_D_passHex 26 rfl) ⟨by omega, by omega⟩ ?_
      refine x_irem (x_d C_D_passHex 27 rfl) (by omega) (by omega) ?_
      refine x_if_eq (tgt := 54) (x_d C_D_passHex 28 rfl) rfl (fun c4 => ?_) (fun c4 => ?_)
      · refine x_aload_n (x_d C_D_passHex 31 rfl) rfl ?_
        refine x_getfield (v := xI (q 581)) (x_d C_D_passHex 32 rfl) f_D_46 rfl rfl ?_
        refine x_istore_n (l1 := [(2, xI (q 581)), (1, xI (q 582)), (0, xC 18)]) (x_d C_D_passHex 33 rfl) (by decide) rfl ?_
        have he : ((s_hxe g n : Nat) : Int) = q 582 - q 581 := by unfold s_hxe; first | rw [if_pos ⟨by omega, by rw [← hlast (by omega)]; omega⟩]; omega | (rw [if_neg]; omega; rintro ⟨z1, z2⟩; rw [← hlast z1] at z2; omega)
        refine x_locs [2, 1, 0] rfl ?_
        have := w_D_passHex_59_21_2 Z d q r A dy g n hd (q 582) hl hn hg (s_hxe g n / 2) s ov f bs (q 581) (by omega) hp
        rw [Int.sub_self] at this
        unfold s_fhex
        rw [if_neg (by omega)]
        exact this
      · refine x_iconst (x_d C_D_passHex 29 rfl) ⟨by omega, by omega⟩ ?_
        refine x_ireturn (x_d C_D_passHex 30 rfl) ?_
        have he : ((s_hxe g n : Nat) : Int) = q 582 - q 581 := by unfold s_hxe; first | rw [if_pos ⟨by omega, by rw [← hlast (by omega)]; omega⟩]; omega | (rw [if_neg]; omega; rintro ⟨z1, z2⟩; rw [← hlast z1] at z2; omega)
        exact ⟨s, ov, f, rfl, Or.inr ⟨rfl, fun b2 e => by unfold s_fhex at e; rw [if_pos (by omega)] at e; cases e⟩⟩
    · refine x_aload_n (x_d C_D_passHex 14 rfl) rfl ?_
      refine x_getfield (v := xI (q 582)) (x_d C_D_passHex 15 rfl) f_D_53 rfl rfl ?_
      refine x_iconst (x_d C_D_passHex 16 rfl) ⟨by omega, by omega⟩ ?_
      refine x_isub (x_d C_D_passHex 17 rfl) ⟨by omega, by omega⟩ ?_
      refine x_goto (tgt := 40) (x_d C_D_passHex 18 rfl) rfl ?_
      refine x_istore_n (l1 := [(1, xI (q 582 - 1)), (0, xC 18)]) (x_d C_D_passHex 21 rfl) (by decide) rfl ?_
      refine x_iload_n (x_d C_D_passHex 22 rfl) rfl ?_
      refine x_aload_n (x_d C_D_passHex 23 rfl) rfl ?_
      refine x_getfield (v := xI (q 581)) (x_d C_D_passHex 24 rfl) f_D_46 rfl rfl ?_
      refine x_isub (x_d C_D_passHex 25 rfl) ⟨by omega, by omega⟩ ?_
      refine x_iconst (x_d C_D_passHex 26 rfl) ⟨by omega, by omega⟩ ?_
      refine x_irem (x_d C_D_passHex 27 rfl) (by omega) (by omega) ?_
      refine x_if_eq (tgt := 54) (x_d C_D_passHex 28 rfl) rfl (fun c5 => ?_) (fun c5 => ?_)
      · refine x_aload_n (x_d C_D_passHex 31 rfl) rfl ?_
        refine x_getfield (v := xI (q 581)) (x_d C_D_passHex 32 rfl) f_D_46 rfl rfl ?_
        refine x_istore_n (l1 := [(2, xI (q 581)), (1, xI (q 582 - 1)), (0, xC 18)]) (x_d C_D_passHex 33 rfl) (by decide) rfl ?_
        have he : ((s_hxe g n : Nat) : Int) = q 582 - 1 - q 581 := by unfold s_hxe; first | rw [if_pos ⟨by omega, by rw [← hlast (by omega)]; omega⟩]; omega | (rw [if_neg]; omega; rintro ⟨z1, z2⟩; rw [← hlast z1] at z2; omega)
        refine x_locs [2, 1, 0] rfl ?_
        have := w_D_passHex_59_21_2 Z d q r A dy g n hd (q 582 - 1) hl hn hg (s_hxe g n / 2) s ov f bs (q 581) (by omega) hp
        rw [Int.sub_self] at this
        unfold s_fhex
        rw [if_neg (by omega)]
        exact this
      · refine x_iconst (x_d C_D_passHex 29 rfl) ⟨by omega, by omega⟩ ?_
        refine x_ireturn (x_d C_D_passHex 30 rfl) ?_
        have he : ((s_hxe g n : Nat) : Int) = q 582 - 1 - q 581 := by unfold s_hxe; first | rw [if_pos ⟨by omega, by rw [← hlast (by omega)]; omega⟩]; omega | (rw [if_neg]; omega; rintro ⟨z1, z2⟩; rw [← hlast z1] at z2; omega)
        exact ⟨s, ov, f, rfl, Or.inr ⟨rfl, fun b2 e => by unfold s_fhex at e; rw [if_pos (by omega)] at e; cases e⟩⟩
theorem w_D_passHex_59_21_20 (Z : xZ) (d : Nat) (q : Nat → Int) (r : Nat → Option Nat) (A : Nat → Nat → Int) (dy : xH) (g : Nat → Int) (n : Nat) (hd : 2 ≤ d) (e : Int) (hl : 0 ≤ q 675 ∧ q 675 ≤ 3000) (hn : 0 ≤ q 581 ∧ q 582 = q 581 + n ∧ q 582 ≤ 3000) (hg : ∀ k, k < n → A 20 ((q 581).toNat + k) = g k) : ∀ (m : Nat) (s ov : Int) (f : Nat → Int) (bs : List Int) (i : Int), (q 581 ≤ i ∧ e = i + 2 * m ∧ e ≤ q 582) → pb (q 675) s ov f bs → xW Z d Y_D_passHex 59 [(0, xC 18), (1, xI e), (2, xI i)] [] (hF (x_up (x_up q 673 s) 674 ov) (x_up (x_up r 578 (some 21)) 580 (some 20)) (x_up A 22 f) ++ dy) (fun v0 h2 => ∃ s2 ov2 f2, h2 = hF (x_up (x_up q 673 s2) 674 ov2) (x_up (x_up r 578 (some 21)) 580 (some 20)) (x_up A 22 f2) ++ dy ∧ ((v0 = some (xI 1) ∧ ∃ b2, (s_hxs g m (i - q 581).toNat).map (fun x => bs ++ x) = some b2 ∧ pb (q 675) s2 ov2 f2 b2) ∨ (v0 = some (xI 0) ∧ ∀ b2, (s_hxs g m (i - q 581).toNat).map (fun x => bs ++ x) = some b2 → q 675 < b2.length))) := by
  intro m
  induction m with
  | zero =>
    intro s ov f bs i hi hp
    have hp0 := hp.1
    have hp1 := hp.2.1
    have hgi : ∀ u : Int, q 581 ≤ u → u < q 582 → A 20 u.toNat = g (u - q 581).toNat := fun u h1 h2 => by rw [← hg _ (by omega)]; congr 1; omega
    refine xW_ok (fun _ _ hok => ?_)
    have hbB : ∀ j, -128 ≤ A 20 j ∧ A 20 j ≤ 127 := fun j => hok _ (List.mem_of_getElem? (i := 20) rfl) j
    refine x_iload_n (x_d C_D_passHex 34 rfl) rfl ?_
    refine x_iload_n (x_d C_D_passHex 35 rfl) rfl ?_
    refine x_icmp_ge (tgt := 118) (x_d C_D_passHex 36 rfl) rfl (fun _ => ?_) (fun q => absurd q (by omega))
    refine x_iconst (x_d C_D_passHex 67 rfl) ⟨by omega, by omega⟩ ?_
    refine x_ireturn (x_d C_D_passHex 68 rfl) ?_
    exact ⟨s, ov, f, rfl, Or.inl ⟨rfl, bs ++ [], rfl, pb_nil hp⟩⟩
  | succ m ih =>
    intro s ov f bs i hi hp
    have hp0 := hp.1
    have hp1 := hp.2.1
    have hgi : ∀ u : Int, q 581 ≤ u → u < q 582 → A 20 u.toNat = g (u - q 581).toNat := fun u h1 h2 => by rw [← hg _ (by omega)]; congr 1; omega
    refine xW_ok (fun _ _ hok => ?_)
    have hbB : ∀ j, -128 ≤ A 20 j ∧ A 20 j ≤ 127 := fun j => hok _ (List.mem_of_getElem? (i := 20) rfl) j
    have hk1 : g ((i - q 581).toNat + 1) = A 20 (i + 1).toNat := by rw [hgi (i + 1) (by omega) (by omega)]; congr 1; omega
    have hx1 := s_hex_in (A 20 i.toNat)
    have hx2 := s_hex_in (A 20 (i + 1).toNat)
    refine x_iload_n (x_d C_D_passHex 34 rfl) rfl ?_
    refine x_iload_n (x_d C_D_passHex 35 rfl) rfl ?_
    refine x_icmp_ge (tgt := 118) (x_d C_D_passHex 36 rfl) rfl (fun q => absurd q (by omega)) (fun _ => ?_)
    refine x_aload_n (x_d C_D_passHex 37 rfl) rfl ?_
    refine x_getfield (v := xC 20) (x_d C_D_passHex 38 rfl) f_D_37 rfl rfl ?_
    refine x_iload_n (x_d C_D_passHex 39 rfl) rfl ?_
    refine x_baload (f := A 20) (x_d C_D_passHex 40 rfl) rfl (by omega) (by omega) ?_
    refine x_invokestatic (st := []) (av := [xI (A 20 (i).toNat)]) (x_d C_D_passHex 41 rfl) k_D_107 m_PF_hexDigit s_PF_hexDigit rfl (Nat.le_of_ble_eq_true rfl) (by omega) rfl (c_PF_hexDigit Z (d - 1) (hF (x_up (x_up q 673 s) 674 ov) (x_up (x_up r 578 (some 21)) 580 (some 20)) (x_up A 22 f) ++ dy) (A 20 (i).toNat)) ?_
    rintro v_ _ ⟨hv_, rfl⟩
    obtain rfl : v_ = some (xI (s_hex (A 20 (i).toNat))) := hv_
    refine x_istore_n (l1 := [(3, xI (s_hex (A 20 (i).toNat))), (0, xC 18), (1, xI (e)), (2, xI (i))]) (x_d C_D_passHex 42 rfl) (by decide) rfl ?_
    refine x_aload_n (x_d C_D_passHex 43 rfl) rfl ?_
    refine x_getfield (v := xC 20) (x_d C_D_passHex 44 rfl) f_D_37 rfl rfl ?_
    refine x_iload_n (x_d C_D_passHex 45 rfl) rfl ?_
    refine x_iconst (x_d C_D_passHex 46 rfl) ⟨by omega, by omega⟩ ?_
    refine x_iadd (x_d C_D_passHex 47 rfl) ⟨by omega, by omega⟩ ?_
    refine x_baload (f := A 20) (x_d C_D_passHex 48 rfl) rfl (by omega) (by omega) ?_
    refine x_invokestatic (st := []) (av := [xI (A 20 (i + 1).toNat)]) (x_d C_D_passHex 49 rfl) k_D_107 m_PF_hexDigit s_PF_hexDigit rfl (Nat.le_of_ble_eq_true rfl) (by omega) rfl (c_PF_hexDigit Z (d - 1) (hF (x_up (x_up q 673 s) 674 ov) (x_up (x_up r 578 (some 21)) 580 (some 20)) (x_up A 22 f) ++ dy) (A 20 (i + 1).toNat)) ?_
    rintro v_ _ ⟨hv_, rfl⟩
    obtain rfl : v_ = some (xI (s_hex (A 20 (i + 1).toNat))) := hv_
    refine x_istore (l1 := [(4, xI (s_hex (A 20 (i + 1).toNat))), (3, xI (s_hex (A 20 (i).toNat))), (0, xC 18), (1, xI (e)), (2, xI (i))]) (x_d C_D_passHex 50 rfl) (by decide) rfl ?_
    refine x_iload_n (x_d C_D_passHex 51 rfl) rfl ?_
    refine x_if_lt (tgt := 96) (x_d C_D_passHex 52 rfl) rfl (fun c2 => ?_) (fun c2 => ?_)
    · refine x_iconst (x_d C_D_passHex 55 rfl) ⟨by omega, by omega⟩ ?_
      refine x_ireturn (x_d C_D_passHex 56 rfl) ?_
      exact ⟨s, ov, f, rfl, Or.inr ⟨rfl, fun b2 e => by rw [s_hxs_s, ← hgi i (by omega) (by omega), hk1, if_pos (by omega)] at e; cases e⟩⟩
    · refine x_iload (x_d C_D_passHex 53 rfl) rfl ?_
      refine x_if_ge (tgt := 98) (x_d C_D_passHex 54 rfl) rfl (fun c3 => ?_) (fun c3 => ?_)
      · refine x_aload_n (x_d C_D_passHex 57 rfl) rfl ?_
        refine x_getfield (v := xC 21) (x_d C_D_passHex 58 rfl) f_D_14 rfl rfl ?_
        refine x_bipush (x_d C_D_passHex 59 rfl) (by omega) ?_
        refine x_iload_n (x_d C_D_passHex 60 rfl) rfl ?_
        refine x_imul (x_d C_D_passHex 61 rfl) ⟨by omega, by omega⟩ ?_
        refine x_iload (x_d C_D_passHex 62 rfl) rfl ?_
        refine x_iadd (x_d C_D_passHex 63 rfl) ⟨by omega, by omega⟩ ?_
        refine x_invokevirtual (st := []) (av := [xI ((16 * (s_hex (A 20 (i).toNat))) + (s_hex (A 20 (i + 1).toNat)))]) (x_d C_D_passHex 64 rfl) k_D_110 m_Pa_add v_Pa_add cl_Pa rfl rfl (Nat.le_of_ble_eq_true rfl) (by omega) rfl (c_Pb_add_21 Z (d - 1) q (x_up (x_up r 578 (some 21)) 580 (some 20)) A dy s ov f bs ((16 * (s_hex (A 20 (i).toNat))) + (s_hex (A 20 (i + 1).toNat))) hl hp) ?_
        rintro _ _ ⟨rfl, s4, ov4, f4, rfl, hp4⟩
        have hp04 := hp4.1
        have hp14 := hp4.2.1
        refine x_iinc (l1 := [(2, xI (i + 2)), (4, xI (s_hex (A 20 (i + 1).toNat))), (3, xI (s_hex (A 20 (i).toNat))), (0, xC 18), (1, xI (e))]) (x_d C_D_passHex 65 rfl) rfl ⟨by omega, by omega⟩ (by decide) rfl ?_
        refine x_goto (tgt := 59) (x_d C_D_passHex 66 rfl) rfl ?_
        refine x_locs [3, 4, 0] rfl ?_
        refine xW_post ?_ (ih s4 ov4 f4 _ (i + 2) (by omega) hp4)
        rintro v0 h2 ⟨s9, ov9, f9, g2, g3⟩
        refine ⟨s9, ov9, f9, g2, ?_⟩
        rw [s_hxs_s, ← hgi i (by omega) (by omega), hk1, if_neg (by omega), s_mapc]
        rw [show (i + 2 - q 581).toNat = (i - q 581).toNat + 2 by omega] at g3
        exact g3
      · refine x_iconst (x_d C_D_passHex 55 rfl) ⟨by omega, by omega⟩ ?_
        refine x_ireturn (x_d C_D_passHex 56 rfl) ?_
        exact ⟨s, ov, f, rfl, Or.inr ⟨rfl, fun b2 e => by rw [s_hxs_s, ← hgi i (by omega) (by omega), hk1, if_pos (by omega)] at e; cases e⟩⟩
theorem c_D_passHex_21_20 (Z : xZ) (d : Nat) (q : Nat → Int) (r : Nat → Option Nat) (A : Nat → Nat → Int) (dy : xH) (g : Nat → Int) (n : Nat) (hd : 2 ≤ d) (s ov : Int) (f : Nat → Int) (bs : List Int) (hl : 0 ≤ q 675 ∧ q 675 ≤ 3000) (hn : 0 ≤ q 581 ∧ q 582 = q 581 + n ∧ q 582 ≤ 3000) (hg : ∀ k, k < n → A 20 ((q 581).toNat + k) = g k) (hp : pb (q 675) s ov f bs) : xMet Z d Y_D_passHex [xC 18] (hF (x_up (x_up q 673 s) 674 ov) (x_up (x_up r 578 (some 21)) 580 (some 20)) (x_up A 22 f) ++ dy) (fun v0 h2 => ∃ s2 ov2 f2, h2 = hF (x_up (x_up q 673 s2) 674 ov2) (x_up (x_up r 578 (some 21)) 580 (some 20)) (x_up A 22 f2) ++ dy ∧ ((v0 = some (xI 1) ∧ ∃ b2, (s_fhex g n).map (fun x => bs ++ x) = some b2 ∧ pb (q 675) s2 ov2 f2 b2) ∨ (v0 = some (xI 0) ∧ ∀ b2, (s_fhex g n).map (fun x => bs ++ x) = some b2 → q 675 < b2.length))) := by
  refine xMet_of (by decide) (Nat.le_of_ble_eq_true rfl) (fun v0 h2 hq => by obtain ⟨_, _, _, _, ⟨e, _⟩ | ⟨e, _⟩⟩ := hq <;> rw [e]; exact Or.inr rfl; exact Or.inl rfl) ?_
  have hp0 := hp.1
  have hp1 := hp.2.1
  have hgi : ∀ u : Int, q 581 ≤ u → u < q 582 → A 20 u.toNat = g (u - q 581).toNat := fun u h1 h2 => by rw [← hg _ (by omega)]; congr 1; omega
  refine xW_ok (fun _ _ hok => ?_)
  have hbB : ∀ j, -128 ≤ A 20 j ∧ A 20 j ≤ 127 := fun j => hok _ (List.mem_of_getElem? (i := 20) rfl) j
  have hlast : 0 < n → A 20 (q 582 - 1).toNat = g (n - 1) := fun h => by rw [hgi _ (by omega) (by omega)]; congr 1; omega
  refine x_aload_n (x_d C_D_passHex 0 rfl) rfl ?_
  refine x_getfield (v := xI (q 582)) (x_d C_D_passHex 1 rfl) f_D_53 rfl rfl ?_
  refine x_aload_n (x_d C_D_passHex 2 rfl) rfl ?_
  refine x_getfield (v := xI (q 581)) (x_d C_D_passHex 3 rfl) f_D_46 rfl rfl ?_
  refine x_icmp_le (tgt := 36) (x_d C_D_passHex 4 rfl) rfl (fun c1 => ?_) (fun c1 => ?_)
  · refine x_aload_n (x_d C_D_passHex 19 rfl) rfl ?_
    refine x_getfield (v := xI (q 582)) (x_d C_D_passHex 20 rfl) f_D_53 rfl rfl ?_
    refine x_istore_n (l1 := [(1, xI (q 582)), (0, xC 18)]) (x_d C_D_passHex 21 rfl) (by decide) rfl ?_
    refine x_iload_n (x_d C_D_passHex 22 rfl) rfl ?_
    refine x_aload_n (x_d C_D_passHex 23 rfl) rfl ?_
    refine x_getfield (v := xI (q 581)) (x_d C_D_passHex 24 rfl) f_D_46 rfl rfl ?_
    refine x_isub (x_d C_D_passHex 25 rfl) ⟨by omega, by omega⟩ ?_
    refine x_iconst (x_d C_D_passHex 26 rfl) ⟨by omega, by omega⟩ ?_
    refine x_irem (x_d C_D_passHex 27 rfl) (by omega) (by omega) ?_
    refine x_if_eq (tgt := 54) (x_d C_D_passHex 28 rfl) rfl (fun c2 => ?_) (fun c2 => ?_)
    · refine x_aload_n (x_d C_D_passHex 31 rfl) rfl ?_
      refine x_getfield (v := xI (q 581)) (x_d C_D_passHex 32 rfl) f_D_46 rfl rfl ?_
      refine x_istore_n (l1 := [(2, xI (q 581)), (1, xI (q 582)), (0, xC 18)]) (x_d C_D_passHex 33 rfl) (by decide) rfl ?_
      have he : ((s_hxe g n : Nat) : Int) = q 582 - q 581 := by unfold s_hxe; first | rw [if_pos ⟨by omega, by rw [← hlast (by omega)]; omega⟩]; omega | (rw [if_neg]; omega; rintro ⟨z1, z2⟩; rw [← hlast z1] at z2; omega)
      refine x_locs [2, 1, 0] rfl ?_
      have := w_D_passHex_59_21_20 Z d q r A dy g n hd (q 582) hl hn hg (s_hxe g n / 2) s ov f bs (q 581) (by omega) hp
      rw [Int.sub_self] at this
      unfold s_fhex
      rw [if_neg (by omega)]
      exact this
    · refine x_iconst (x_d C_D_passHex 29 rfl) ⟨by omega, by omega⟩ ?_
      refine x_ireturn (x_d C_D_passHex 30 rfl) ?_
      have he : ((s_hxe g n : Nat) : Int) = q 582 - q 581 := by unfold s_hxe; first | rw [if_pos ⟨by omega, by rw [← hlast (by omega)]; omega⟩]; omega | (rw [if_neg]; omega; rintro ⟨z1, z2⟩; rw [← hlast z1] at z2; omega)
      exact ⟨s, ov, f, rfl, Or.inr ⟨rfl, fun b2 e => by unfold s_fhex at e; rw [if_pos (by omega)] at e; cases e⟩⟩
  · refine x_aload_n (x_d C_D_passHex 5 rfl) rfl ?_
    refine x_getfield (v := xC 20) (x_d C_D_passHex 6 rfl) f_D_37 rfl rfl ?_
    refine x_aload_n (x_d C_D_passHex 7 rfl) rfl ?_
    refine x_getfield (v := xI (q 582)) (x_d C_D_passHex 8 rfl) f_D_53 rfl rfl ?_
    refine x_iconst (x_d C_D_passHex 9 rfl) ⟨by omega, by omega⟩ ?_
    refine x_isub (x_d C_D_passHex 10 rfl) ⟨by omega, by omega⟩ ?_
    refine x_baload (f := A 20) (x_d C_D_passHex 11 rfl) rfl (by omega) (by omega) ?_
    refine x_bipush (x_d C_D_passHex 12 rfl) (by omega) ?_
    refine x_icmp_ne (tgt := 36) (x_d C_D_passHex 13 rfl) rfl (fun c3 => ?_) (fun c3 => ?_)
    · refine x_aload_n (x_d C_D_passHex 19 rfl) rfl ?_
      refine x_getfield (v := xI (q 582)) (x_d C_D_passHex 20 rfl) f_D_53 rfl rfl ?_
      refine x_istore_n (l1 := [(1, xI (q 582)), (0, xC 18)]) (x_d C_D_passHex 21 rfl) (by decide) rfl ?_
      refine x_iload_n (x_d C_D_passHex 22 rfl) rfl ?_
      refine x_aload_n (x_d C_D_passHex 23 rfl) rfl ?_
      refine x_getfield (v := xI (q 581)) (x_d C_D_passHex 24 rfl) f_D_46 rfl rfl ?_
      refine x_isub (x_d C_D_passHex 25 rfl) ⟨by omega, by omega⟩ ?_
      refine x_iconst (x_d C_D_passHex 26 rfl) ⟨by omega, by omega⟩ ?_
      refine x_irem (x_d C_D_passHex 27 rfl) (by omega) (by omega) ?_
      refine x_if_eq (tgt := 54) (x_d C_D_passHex 28 rfl) rfl (fun c4 => ?_) (fun c4 => ?_)
      · refine x_aload_n (x_d C_D_passHex 31 rfl) rfl ?_
        refine x_getfield (v := xI (q 581)) (x_d C_D_passHex 32 rfl) f_D_46 rfl rfl ?_
        refine x_istore_n (l1 := [(2, xI (q 581)), (1, xI (q 582)), (0, xC 18)]) (x_d C_D_passHex 33 rfl) (by decide) rfl ?_
        have he : ((s_hxe g n : Nat) : Int) = q 582 - q 581 := by unfold s_hxe; first | rw [if_pos ⟨by omega, by rw [← hlast (by omega)]; omega⟩]; omega | (rw [if_neg]; omega; rintro ⟨z1, z2⟩; rw [← hlast z1] at z2; omega)
        refine x_locs [2, 1, 0] rfl ?_
        have := w_D_passHex_59_21_20 Z d q r A dy g n hd (q 582) hl hn hg (s_hxe g n / 2) s ov f bs (q 581) (by omega) hp
        rw [Int.sub_self] at this
        unfold s_fhex
        rw [if_neg (by omega)]
        exact this
      · refine x_iconst (x_d C_D_passHex 29 rfl) ⟨by omega, by omega⟩ ?_
        refine x_ireturn (x_d C_D_passHex 30 rfl) ?_
        have he : ((s_hxe g n : Nat) : Int) = q 582 - q 581 := by unfold s_hxe; first | rw [if_pos ⟨by omega, by rw [← hlast (by omega)]; omega⟩]; omega | (rw [if_neg]; omega; rintro ⟨z1, z2⟩; rw [← hlast z1] at z2; omega)
        exact ⟨s, ov, f, rfl, Or.inr ⟨rfl, fun b2 e => by unfold s_fhex at e; rw [if_pos (by omega)] at e; cases e⟩⟩
    · refine x_aload_n (x_d C_D_passHex 14 rfl) rfl ?_
      refine x_getfield (v := xI (q 582)) (x_d C_D_passHex 15 rfl) f_D_53 rfl rfl ?_
      refine x_iconst (x_d C_D_passHex 16 rfl) ⟨by omega, by omega⟩ ?_
      refine x_isub (x_d C_D_passHex 17 rfl) ⟨by omega, by omega⟩ ?_
      refine x_goto (tgt := 40) (x_d C_D_passHex 18 rfl) rfl ?_
      refine x_istore_n (l1 := [(1, xI (q 582 - 1)), (0, xC 18)]) (x_d C_D_passHex 21 rfl) (by decide) rfl ?_
      refine x_iload_n (x_d C_D_passHex 22 rfl) rfl ?_
      refine x_aload_n (x_d C_D_passHex 23 rfl) rfl ?_
      refine x_getfield (v := xI (q 581)) (x_d C_D_passHex 24 rfl) f_D_46 rfl rfl ?_
      refine x_isub (x_d C_D_passHex 25 rfl) ⟨by omega, by omega⟩ ?_
      refine x_iconst (x_d C_D_passHex 26 rfl) ⟨by omega, by omega⟩ ?_
      refine x_irem (x_d C_D_passHex 27 rfl) (by omega) (by omega) ?_
      refine x_if_eq (tgt := 54) (x_d C_D_passHex 28 rfl) rfl (fun c5 => ?_) (fun c5 => ?_)
      · refine x_aload_n (x_d C_D_passHex 31 rfl) rfl ?_
        refine x_getfield (v := xI (q 581)) (x_d C_D_passHex 32 rfl) f_D_46 rfl rfl ?_
        refine x_istore_n (l1 := [(2, xI (q 581)), (1, xI (q 582 - 1)), (0, xC 18)]) (x_d C_D_passHex 33 rfl) (by decide) rfl ?_
        have he : ((s_hxe g n : Nat) : Int) = q 582 - 1 - q 581 := by unfold s_hxe; first | rw [if_pos ⟨by omega, by rw [← hlast (by omega)]; omega⟩]; omega | (rw [if_neg]; omega; rintro ⟨z1, z2⟩; rw [← hlast z1] at z2; omega)
        refine x_locs [2, 1, 0] rfl ?_
        have := w_D_passHex_59_21_20 Z d q r A dy g n hd (q 582 - 1) hl hn hg (s_hxe g n / 2) s ov f bs (q 581) (by omega) hp
        rw [Int.sub_self] at this
        unfold s_fhex
        rw [if_neg (by omega)]
        exact this
      · refine x_iconst (x_d C_D_passHex 29 rfl) ⟨by omega, by omega⟩ ?_
        refine x_ireturn (x_d C_D_passHex 30 rfl) ?_
        have he : ((s_hxe g n : Nat) : Int) = q 582 - 1 - q 581 := by unfold s_hxe; first | rw [if_pos ⟨by omega, by rw [← hlast (by omega)]; omega⟩]; omega | (rw [if_neg]; omega; rintro ⟨z1, z2⟩; rw [← hlast z1] at z2; omega)
        exact ⟨s, ov, f, rfl, Or.inr ⟨rfl, fun b2 e => by unfold s_fhex at e; rw [if_pos (by omega)] at e; cases e⟩⟩
