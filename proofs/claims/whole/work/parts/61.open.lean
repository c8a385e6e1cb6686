/-! the opener: a trailer -/
/-- a list of parts as rows -/
def tk0 : tk := (0, 0, 0, 0, 0)
def lkd (ts : List tk) : Nat → Int := fun j => (ts.getD j tk0).1
def lon (ts : List tk) : Nat → Int := fun j => (ts.getD j tk0).2.1
def ltw (ts : List tk) : Nat → Int := fun j => (ts.getD j tk0).2.2.1
def lsp (ts : List tk) : Nat → Int := fun j => (ts.getD j tk0).2.2.2.1
def lnm (ts : List tk) : Nat → Int := fun j => (ts.getD j tk0).2.2.2.2
theorem s_K_sh {sp sp2 : Nat → Int} {p : Int} (hp : 0 ≤ p) {e : Int} (h : ∀ j : Nat, (j : Int) < e → sp (p.toNat + j) = sp2 j) : ∀ (m : Nat) (t : Int), 0 ≤ t → (e - t).toNat ≤ m → s_K sp (p + e) (p + t) = (s_K sp2 e t).map (fun x => p + x) := by
  intro m
  induction m with
  | zero =>
    intro t h0 hm
    rw [s_K_stop (by omega), s_K_stop (by omega)]
    rfl
  | succ m ih =>
    intro t h0 hm
    by_cases c : t < e
    · have h1 := s_bh_gt sp2 t
      have h2 : s_bh sp (p + t) = p + s_bh sp2 t := by
        unfold s_bh
        have := h t.toNat (by omega)
        rw [show (p + t).toNat = p.toNat + t.toNat by omega, this]
        omega
      rw [s_K_step (by omega), s_K_step c, h2, ih (s_bh sp2 t) (by omega) (by omega)]
      rfl
    · rw [s_K_stop (by omega), s_K_stop (by omega)]
      rfl
theorem s_in_sh {sp sp2 : Nat → Int} {p : Int} (hp : 0 ≤ p) (h : ∀ j : Nat, (j : Int) < s_bh sp2 0 → sp (p.toNat + j) = sp2 j) : s_in sp p = (s_in sp2 0).map (fun x => p + x) := by
  have h0 := s_bh_gt sp2 0
  have e : s_bh sp p = p + s_bh sp2 0 := by
    have := h 0 (by omega)
    unfold s_bh
    rw [show p.toNat = p.toNat + 0 by omega, this]
    show p + max 1 (sp2 0) = p + (0 + max 1 (sp2 0))
    omega
  unfold s_in
  rw [e]
  exact s_K_sh hp h _ (0 + 1) (by omega) (Nat.le_refl _)
theorem s_first_map {f g : Int → Bool} {p : Int} : ∀ L : List Int, (∀ x, x ∈ L → f (p + x) = g x ∧ 0 ≤ x) → 0 ≤ p → s_first f (L.map (fun x => p + x)) = if s_first g L < 0 then -1 else p + s_first g L
  | [], _, _ => rfl
  | x :: L, h, hp => by
    have h1 := h x List.mem_cons_self
    show (if f (p + x) = true then p + x else s_first f (L.map (fun x => p + x))) = if (if g x = true then x else s_first g L) < 0 then -1 else p + (if g x = true then x else s_first g L)
    rw [h1.1]
    by_cases c : g x = true
    · rw [if_pos c, if_pos c, if_neg (by omega)]
    · rw [if_neg c, if_neg c, s_first_map L (fun y hy => h y (List.mem_cons_of_mem _ hy)) hp]
theorem s_in_mem {sp : Nat → Int} {p x : Int} (hp : 0 ≤ p) (h : x ∈ s_in sp p) : p < x ∧ x < s_bh sp p := by
  have := s_K_mem (sp := sp) (e := s_bh sp p) (a := p + 1) rfl (by omega) x h
  omega
theorem s_nam_sh {sp nm sp2 nm2 b : Nat → Int} {n p : Int} {cs : List Int} (hp : 0 ≤ p) (h : ∀ j : Nat, (j : Int) < s_bh sp2 0 → sp (p.toNat + j) = sp2 j ∧ nm (p.toNat + j) = nm2 j) : s_nam sp nm b n p cs = if s_nam sp2 nm2 b n 0 cs < 0 then -1 else p + s_nam sp2 nm2 b n 0 cs := by
  unfold s_nam
  rw [s_in_sh hp (fun j hj => (h j hj).1)]
  refine s_first_map _ (fun x hx => ?_) hp
  have := s_in_mem (Int.le_refl 0) hx
  refine ⟨?_, by omega⟩
  rw [show (p + x).toNat = p.toNat + x.toNat by omega, (h x.toNat (by omega)).2]
/-- what a trailer says: its parts, Size, Prev -/
def s_trd (b : Nat → Int) (n w hi : Int) : Option (List tk × Int × Option Int) := (s_val b n 8 (s_abyte b n w 10)).bind (fun y => if ¬ lkd y.1 0 = 7 then none else if s_nam (lsp y.1) (lnm y.1) b n 0 [83, 105, 122, 101] < 0 ∨ ¬ lkd y.1 (s_nam (lsp y.1) (lnm y.1) b n 0 [83, 105, 122, 101]).toNat = 3 ∨ (0 ≤ s_nam (lsp y.1) (lnm y.1) b n 0 [80, 114, 101, 118] ∧ ¬ lkd y.1 (s_nam (lsp y.1) (lnm y.1) b n 0 [80, 114, 101, 118]).toNat = 3) then none else if lon y.1 (s_nam (lsp y.1) (lnm y.1) b n 0 [83, 105, 122, 101]).toNat < 1 ∨ 300 < lon y.1 (s_nam (lsp y.1) (lnm y.1) b n 0 [83, 105, 122, 101]).toNat ∨ lon y.1 (s_nam (lsp y.1) (lnm y.1) b n 0 [83, 105, 122, 101]).toNat ≤ hi then none else some (y.1, lon y.1 (s_nam (lsp y.1) (lnm y.1) b n 0 [83, 105, 122, 101]).toNat, if s_nam (lsp y.1) (lnm y.1) b n 0 [80, 114, 101, 118] < 0 then none else some (lon y.1 (s_nam (lsp y.1) (lnm y.1) b n 0 [80, 114, 101, 118]).toNat)))
theorem s_at_get {P : Nat → Nat → Int} {p : Nat} {ts : List tk} (h : s_at P p ts) {j : Nat} (hj : j < ts.length) : P 5 (p + j) = lkd ts j ∧ P 6 (p + j) = lon ts j ∧ P 7 (p + j) = ltw ts j ∧ P 8 (p + j) = lsp ts j ∧ P 9 (p + j) = lnm ts j := by
  have e := h j hj
  exact ⟨congrArg (fun x : tk => x.1) e, congrArg (fun x : tk => x.2.1) e, congrArg (fun x : tk => x.2.2.1) e, congrArg (fun x : tk => x.2.2.2.1) e, congrArg (fun x : tk => x.2.2.2.2) e⟩
/-- the first part of what is read spans it -/
theorem s_bh_0 {b : Nat → Int} (hB : ∀ j, -128 ≤ b j ∧ b j ≤ 127) {n i j : Int} {D : Nat} {ts : List tk} (h : s_val b n D i = some (ts, j)) : s_bh (lsp ts) 0 = ts.length ∧ 1 ≤ ts.length := by
  obtain ⟨-, -, -, h4, h5, -⟩ := s_val_ok b hB n D i ts j h
  cases ts with
  | nil => exact absurd h4.1 (by simp)
  | cons y l =>
    have := (h5 y rfl).1
    refine ⟨?_, h4.1⟩
    unfold s_bh
    show (0 : Int) + max 1 y.2.2.2.1 = _
    rw [this]
    have := h4.1
    omega
theorem s_nam_in (sp nm b : Nat → Int) (n : Int) (cs : List Int) : s_nam sp nm b n 0 cs = -1 ∨ (0 < s_nam sp nm b n 0 cs ∧ s_nam sp nm b n 0 cs < s_bh sp 0) := by
  rcases s_first_in (fun t => decide (0 ≤ s_the b n (nm t.toNat) cs)) (s_in sp 0) with h | h
  · exact Or.inl h
  · exact Or.inr (s_in_mem (Int.le_refl 0) h)
theorem s_bh_at {P : Nat → Nat → Int} {t : Int} {ts : List tk} (h : s_at P t.toNat ts) (hb : s_bh (lsp ts) 0 = ts.length) (h0 : 0 ≤ t) (hl : 0 < ts.length) : s_bh (P 8) t = t + ts.length := by
  have e := (s_at_get h (j := 0) hl).2.2.2.1
  rw [Nat.add_zero] at e
  unfold s_bh at hb ⊢
  rw [e]
  have hb : 0 + max 1 (lsp ts 0) = ts.length := hb
  omega
theorem c_O_readTrailer0 (Z : xZ) (d : Nat) (q : Nat → Int) (r : Nat → Option Nat) (A : Nat → Nat → Int) (dy : xH) (hd : 37 ≤ d) (t nx mo sz tb lt tr : Int) (P : Nat → Nat → Int) (hT : 0 ≤ q 34 ∧ q 34 ≤ q 35 ∧ q 35 ≤ 10248) (hR : s_okR A) (hB : ∀ j, -128 ≤ A 2 j ∧ A 2 j ≤ 127) (ho : s_ok5 P) (ht : 0 ≤ t ∧ t < 12900 ∧ t + (q 35 - q 363) < 12900) (haw : 0 ≤ q 363 ∧ q 363 ≤ q 35) : xMet Z d Y_O_readTrailer [xC 11, xI 0] (hF (x_up (x_up (x_up (x_up (x_up (x_up (x_up q 133 t) 360 nx) 361 mo) 1029 sz) 1030 tb) 1031 lt) 1032 tr) (x_up r 359 (some 32)) (s_pt A P) ++ dy) (fun v0 h2 => ∃ t2 nx2 mo2 sz2 tb2 lt2 tr2 P2, h2 = hF (x_up (x_up (x_up (x_up (x_up (x_up (x_up q 133 t2) 360 nx2) 361 mo2) 1029 sz2) 1030 tb2) 1031 lt2) 1032 tr2) (x_up r 359 (some 32)) (s_pt A P2) ++ dy ∧ s_keep t.toNat P P2 ∧ s_ok5 P2 ∧ t ≤ t2 ∧ t2 ≤ 12900 ∧ ((v0 = some (xI 1) ∧ ∃ y, s_trd (A 2) (q 35) (q 363) (q 362) = some y ∧ (t2 = t + y.1.length ∧ s_at P2 t.toNat y.1 ∧ sz2 = y.2.1 ∧ tr2 = t ∧ lt2 = A 12 0) ∧ tb2 = 0 + 1 ∧ nx2 = y.2.2.getD (-1) ∧ mo2 = x_bo y.2.2.isSome) ∨ (v0 = some (xI 0) ∧ s_trd (A 2) (q 35) (q 363) (q 362) = none))) := by
  refine xMet_of (by decide) (Nat.le_of_ble_eq_true rfl) (fun v0 h2 hq => by obtain ⟨_, _, _, _, _, _, _, _, _, _, _, _, _, ⟨e, _⟩ | ⟨e, _⟩⟩ := hq <;> rw [e]; exact Or.inr rfl; exact Or.inl rfl) ?_
  have hab := s_abyte_in (A 2) (q 35) (q 363) 10
  have hby := s_byte_in (A 2) (q 35) (q 363)
  refine x_aload_n (x_d C_O_readTrailer 0 rfl) rfl ?_
  refine x_getfield (v := xC 4) (x_d C_O_readTrailer 1 rfl) f_O_28 rfl rfl ?_
  refine x_getfield (v := xI (t)) (x_d C_O_readTrailer 2 rfl) f_O_152 rfl rfl ?_
  refine x_istore_n (l1 := [(2, xI (t)), (0, xC 11), (1, xI (0))]) (x_d C_O_readTrailer 3 rfl) (by decide) rfl ?_
  refine x_aload_n (x_d C_O_readTrailer 4 rfl) rfl ?_
  refine x_getfield (v := xC 10) (x_d C_O_readTrailer 5 rfl) f_O_32 rfl rfl ?_
  refine x_aload_n (x_d C_O_readTrailer 6 rfl) rfl ?_
  refine x_getfield (v := xC 1) (x_d C_O_readTrailer 7 rfl) f_O_24 rfl rfl ?_
  refine x_aload_n (x_d C_O_readTrailer 8 rfl) rfl ?_
  refine x_getfield (v := xI (q 363)) (x_d C_O_readTrailer 9 rfl) f_O_119 rfl rfl ?_
  refine x_bipush (x_d C_O_readTrailer 10 rfl) (by omega) ?_
  refine x_invokevirtual (st := [xC 10]) (av := [xI (q 363), xI (10)]) (x_d C_O_readTrailer 11 rfl) k_O_94 m_T_afterByte v_T_afterByte cl_T rfl rfl (Nat.le_of_ble_eq_true rfl) (by omega) rfl (c_T_afterByte Z (d - 1) (x_up (x_up (x_up (x_up (x_up (x_up (x_up q 133 t) 360 nx) 361 mo) 1029 sz) 1030 tb) 1031 lt) 1032 tr) (x_up r 359 (some 32)) (x_up (x_up (x_up (x_up (x_up A 5 (P 5)) 6 (P 6)) 7 (P 7)) 8 (P 8)) 9 (P 9)) dy (by omega) (q 363) 10 hT (by omega)) ?_
  rintro v_ _ ⟨hv_, rfl⟩
  obtain rfl : v_ = some (xI (s_abyte (A 2) (q 35) (q 363) 10)) := hv_
  refine x_iconst (x_d C_O_readTrailer 12 rfl) ⟨by omega, by omega⟩ ?_
  refine x_invokevirtual (st := []) (av := [xI (s_abyte (A 2) (q 35) (q 363) 10), xI (1)]) (x_d C_O_readTrailer 13 rfl) k_O_157 m_R_read v_R_read cl_R rfl rfl (Nat.le_of_ble_eq_true rfl) (by omega) rfl (c_R_read Z (x_up (x_up (x_up (x_up (x_up (x_up q 360 nx) 361 mo) 1029 sz) 1030 tb) 1031 lt) 1032 tr) (x_up r 359 (some 32)) A dy hT hR hB 8 (by omega) (d - 1) t P (s_abyte (A 2) (q 35) (q 363) 10) 1 (by omega) ho (show s_abyte (A 2) (q 35) (q 363) 10 = -1 ∨ (0 ≤ s_abyte (A 2) (q 35) (q 363) 10 ∧ s_abyte (A 2) (q 35) (q 363) 10 ≤ q 35) by omega) (show 0 ≤ t ∧ t < 12900 ∧ (0 ≤ s_abyte (A 2) (q 35) (q 363) 10 → t + (q 35 - s_abyte (A 2) (q 35) (q 363) 10) < 12900) by omega) (by omega)) ?_
  rintro v_ _ ⟨t1, P1, hv_, rfl, hrp⟩
  obtain rfl : v_ = some (xI (s_ps (s_val (A 2) (q 35) 8 (s_abyte (A 2) (q 35) (q 363) 10)))) := hv_
  obtain ⟨k1, k2, k3, k4, k5⟩ := hrp
  have hps : (s_ps (s_val (A 2) (q 35) 8 (s_abyte (A 2) (q 35) (q 363) 10)) = -1 ∧ s_val (A 2) (q 35) 8 (s_abyte (A 2) (q 35) (q 363) 10) = none) ∨ (0 ≤ s_ps (s_val (A 2) (q 35) 8 (s_abyte (A 2) (q 35) (q 363) 10)) ∧ ∃ ts j, s_val (A 2) (q 35) 8 (s_abyte (A 2) (q 35) (q 363) 10) = some (ts, j) ∧ t1 = t + ts.length ∧ s_at P1 t.toNat ts ∧ s_bh (lsp ts) 0 = ts.length ∧ 1 ≤ ts.length) := by
    cases hv : s_val (A 2) (q 35) 8 (s_abyte (A 2) (q 35) (q 363) 10) with
    | none => exact Or.inl ⟨rfl, rfl⟩
    | some y =>
      have g1 := k5 y.1 y.2 hv
      have g2 := s_bh_0 hB hv
      have g3 := s_val_ok (A 2) hB (q 35) 8 _ y.1 y.2 hv
      exact Or.inr ⟨by show 0 ≤ y.2; omega, y.1, y.2, rfl, g1.1, g1.2, g2.1, g2.2⟩
  refine x_istore_n (l1 := [(3, xI (s_ps (s_val (A 2) (q 35) 8 (s_abyte (A 2) (q 35) (q 363) 10)))), (2, xI (t)), (0, xC 11), (1, xI (0))]) (x_d C_O_readTrailer 14 rfl) (by decide) rfl ?_
  refine x_iload_n (x_d C_O_readTrailer 15 rfl) rfl ?_
  refine x_if_lt (tgt := 48) (x_d C_O_readTrailer 16 rfl) rfl (fun c1 => ?_) (fun c1 => ?_)
  · refine x_iconst (x_d C_O_readTrailer 24 rfl) ⟨by omega, by omega⟩ ?_
    refine x_ireturn (x_d C_O_readTrailer 25 rfl) ?_
    refine ⟨t1, nx, mo, sz, tb, lt, tr, P1, rfl, k1, k2, k3, k4, Or.inr ⟨rfl, ?_⟩⟩
    unfold s_trd
    rcases hps with ⟨z1, z2⟩ | ⟨z1, ts, j, z2, z3, z4, z5, z6⟩
    · rw [z2]; rfl
    · have hg0 := (s_at_get z4 (j := 0) (by omega)).1
      rw [Nat.add_zero] at hg0
      rw [z2, Option.bind_some]
      show (if ¬ lkd ts 0 = 7 then none else _) = none
      rw [if_pos (by omega)]
  · refine x_aload_n (x_d C_O_readTrailer 17 rfl) rfl ?_
    refine x_getfield (v := xC 4) (x_d C_O_readTrailer 18 rfl) f_O_28 rfl rfl ?_
    refine x_getfield (v := xC 5) (x_d C_O_readTrailer 19 rfl) f_O_162 rfl rfl ?_
    refine x_iload_n (x_d C_O_readTrailer 20 rfl) rfl ?_
    refine x_iaload (f := P1 5) (x_d C_O_readTrailer 21 rfl) rfl (by omega) (by omega) ?_
    refine x_bipush (x_d C_O_readTrailer 22 rfl) (by omega) ?_
    refine x_icmp_eq (tgt := 50) (x_d C_O_readTrailer 23 rfl) rfl (fun c2 => ?_) (fun c2 => ?_)
    · obtain ⟨hps0, ts, jj, hval, ht1, hat, hbh, hlen⟩ : 0 ≤ s_ps (s_val (A 2) (q 35) 8 (s_abyte (A 2) (q 35) (q 363) 10)) ∧ ∃ ts j, s_val (A 2) (q 35) 8 (s_abyte (A 2) (q 35) (q 363) 10) = some (ts, j) ∧ t1 = t + ts.length ∧ s_at P1 t.toNat ts ∧ s_bh (lsp ts) 0 = ts.length ∧ 1 ≤ ts.length := by rcases hps with ⟨z, _⟩ | z; omega; exact z
      clear hps
      have hg0 := (s_at_get hat (j := 0) (by omega)).1
      rw [Nat.add_zero] at hg0
      refine x_aload_n (x_d C_O_readTrailer 26 rfl) rfl ?_
      refine x_getfield (v := xC 4) (x_d C_O_readTrailer 27 rfl) f_O_28 rfl rfl ?_
      refine x_iload_n (x_d C_O_readTrailer 28 rfl) rfl ?_
      refine x_ldcS (i := 14) (x_d C_O_readTrailer 29 rfl) rfl ?_
      refine x_invokevirtual (st := []) (av := [xI (t), xS (29)]) (x_d C_O_readTrailer 30 rfl) k_O_167 m_P_named v_P_named cl_P rfl rfl (Nat.le_of_ble_eq_true rfl) (by omega) rfl (c_P_named Z (d - 1) (x_up (x_up (x_up (x_up (x_up (x_up (x_up q 133 t1) 360 nx) 361 mo) 1029 sz) 1030 tb) 1031 lt) 1032 tr) (x_up r 359 (some 32)) (x_up (x_up (x_up (x_up (x_up A 5 (P1 5)) 6 (P1 6)) 7 (P1 7)) 8 (P1 8)) 9 (P1 9)) dy (by omega) (i := 14) rfl t hT hR k2.1 (show 0 ≤ t ∧ t < 12900 ∧ s_bh (P1 8) t ≤ 12900 by have e := s_bh_at hat hbh (by omega) (by omega); omega)) ?_
      rintro v_ _ ⟨hv_, rfl⟩
      have ea := s_nam_sh (sp := P1 8) (nm := P1 9) (sp2 := lsp ts) (nm2 := lnm ts) (b := A 2) (n := q 35) (p := t) (cs := [83, 105, 122, 101]) (by omega) (fun j hj => ⟨(s_at_get hat (j := j) (by omega)).2.2.2.1, (s_at_get hat (j := j) (by omega)).2.2.2.2⟩)
      obtain ⟨a0, ha0⟩ : ∃ z, z = s_nam (lsp ts) (lnm ts) (A 2) (q 35) 0 [83, 105, 122, 101] := ⟨_, rfl⟩
      rw [← ha0] at ea
      have ha1 := s_nam_in (lsp ts) (lnm ts) (A 2) (q 35) [83, 105, 122, 101]
      rw [← ha0, hbh] at ha1
      obtain ⟨a, ha⟩ : ∃ z, z = s_nam (P1 8) (P1 9) (A 2) (q 35) t [83, 105, 122, 101] := ⟨_, rfl⟩
      rw [← ha] at ea
      obtain rfl : v_ = some (xI a) := by rw [ha]; exact hv_
      have ha2 : (a = -1 ∧ a0 = -1) ∨ (a = t + a0 ∧ 0 < a0 ∧ a0 < ts.length ∧ P1 5 a.toNat = lkd ts a0.toNat ∧ P1 6 a.toNat = lon ts a0.toNat) := by
        rcases ha1 with z | z
        · left; rw [if_pos (by omega)] at ea; exact ⟨ea, z⟩
        · right; rw [if_neg (by omega)] at ea; have g := s_at_get hat (j := a0.toNat) (by omega); rw [show t.toNat + a0.toNat = a.toNat by omega] at g; exact ⟨ea, z.1, z.2, g.1, g.2.1⟩
      refine x_istore (l1 := [(4, xI (a)), (3, xI (s_ps (s_val (A 2) (q 35) 8 (s_abyte (A 2) (q 35) (q 363) 10)))), (2, xI (t)), (0, xC 11), (1, xI (0))]) (x_d C_O_readTrailer 31 rfl) (by decide) rfl ?_
      refine x_aload_n (x_d C_O_readTrailer 32 rfl) rfl ?_
      refine x_getfield (v := xC 4) (x_d C_O_readTrailer 33 rfl) f_O_28 rfl rfl ?_
      refine x_iload_n (x_d C_O_readTrailer 34 rfl) rfl ?_
      refine x_ldcS (i := 15) (x_d C_O_readTrailer 35 rfl) rfl ?_
      refine x_invokevirtual (st := []) (av := [xI (t), xS (31)]) (x_d C_O_readTrailer 36 rfl) k_O_167 m_P_named v_P_named cl_P rfl rfl (Nat.le_of_ble_eq_true rfl) (by omega) rfl (c_P_named Z (d - 1) (x_up (x_up (x_up (x_up (x_up (x_up (x_up q 133 t1) 360 nx) 361 mo) 1029 sz) 1030 tb) 1031 lt) 1032 tr) (x_up r 359 (some 32)) (x_up (x_up (x_up (x_up (x_up A 5 (P1 5)) 6 (P1 6)) 7 (P1 7)) 8 (P1 8)) 9 (P1 9)) dy (by omega) (i := 15) rfl t hT hR k2.1 (show 0 ≤ t ∧ t < 12900 ∧ s_bh (P1 8) t ≤ 12900 by have e := s_bh_at hat hbh (by omega) (by omega); omega)) ?_
      rintro v_ _ ⟨hv_, rfl⟩
      have ec := s_nam_sh (sp := P1 8) (nm := P1 9) (sp2 := lsp ts) (nm2 := lnm ts) (b := A 2) (n := q 35) (p := t) (cs := [80, 114, 101, 118]) (by omega) (fun j hj => ⟨(s_at_get hat (j := j) (by omega)).2.2.2.1, (s_at_get hat (j := j) (by omega)).2.2.2.2⟩)
      obtain ⟨c0, hc0⟩ : ∃ z, z = s_nam (lsp ts) (lnm ts) (A 2) (q 35) 0 [80, 114, 101, 118] := ⟨_, rfl⟩
      rw [← hc0] at ec
      have hc1 := s_nam_in (lsp ts) (lnm ts) (A 2) (q 35) [80, 114, 101, 118]
      rw [← hc0, hbh] at hc1
      obtain ⟨c, hc⟩ : ∃ z, z = s_nam (P1 8) (P1 9) (A 2) (q 35) t [80, 114, 101, 118] := ⟨_, rfl⟩
      rw [← hc] at ec
      obtain rfl : v_ = some (xI c) := by rw [hc]; exact hv_
      have hc2 : (c = -1 ∧ c0 = -1) ∨ (c = t + c0 ∧ 0 < c0 ∧ c0 < ts.length ∧ P1 5 c.toNat = lkd ts c0.toNat ∧ P1 6 c.toNat = lon ts c0.toNat) := by
        rcases hc1 with z | z
        · left; rw [if_pos (by omega)] at ec; exact ⟨ec, z⟩
        · right; rw [if_neg (by omega)] at ec; have g := s_at_get hat (j := c0.toNat) (by omega); rw [show t.toNat + c0.toNat = c.toNat by omega] at g; exact ⟨ec, z.1, z.2, g.1, g.2.1⟩
      refine x_istore (l1 := [(5, xI (c)), (4, xI (a)), (3, xI (s_ps (s_val (A 2) (q 35) 8 (s_abyte (A 2) (q 35) (q 363) 10)))), (2, xI (t)), (0, xC 11), (1, xI (0))]) (x_d C_O_readTrailer 37 rfl) (by decide) rfl ?_
      refine x_iload (x_d C_O_readTrailer 38 rfl) rfl ?_
      refine x_if_lt (tgt := 112) (x_d C_O_readTrailer 39 rfl) rfl (fun c3 => ?_) (fun c3 => ?_)
      · refine x_iconst (x_d C_O_readTrailer 56 rfl) ⟨by omega, by omega⟩ ?_
        refine x_ireturn (x_d C_O_readTrailer 57 rfl) ?_
        refine ⟨t1, nx, mo, sz, tb, lt, tr, P1, rfl, k1, k2, k3, k4, Or.inr ⟨rfl, ?_⟩⟩
        unfold s_trd
        rw [hval, Option.bind_some]
        show (if ¬ lkd ts 0 = 7 then none else if s_nam (lsp ts) (lnm ts) (A 2) (q 35) 0 [83, 105, 122, 101] < 0 ∨ ¬ lkd ts (s_nam (lsp ts) (lnm ts) (A 2) (q 35) 0 [83, 105, 122, 101]).toNat = 3 ∨ (0 ≤ s_nam (lsp ts) (lnm ts) (A 2) (q 35) 0 [80, 114, 101, 118] ∧ ¬ lkd ts (s_nam (lsp ts) (lnm ts) (A 2) (q 35) 0 [80, 114, 101, 118]).toNat = 3) then none else if lon ts (s_nam (lsp ts) (lnm ts) (A 2) (q 35) 0 [83, 105, 122, 101]).toNat < 1 ∨ 300 < lon ts (s_nam (lsp ts) (lnm ts) (A 2) (q 35) 0 [83, 105, 122, 101]).toNat ∨ lon ts (s_nam (lsp ts) (lnm ts) (A 2) (q 35) 0 [83, 105, 122, 101]).toNat ≤ q 362 then none else _) = none
        rw [← ha0, ← hc0, if_neg (by omega)]
        first | rw [if_pos (by omega)] | rw [if_neg (by omega), if_pos (by omega)]
      · refine x_aload_n (x_d C_O_readTrailer 40 rfl) rfl ?_
        refine x_getfield (v := xC 4) (x_d C_O_readTrailer 41 rfl) f_O_28 rfl rfl ?_
        refine x_getfield (v := xC 5) (x_d C_O_readTrailer 42 rfl) f_O_162 rfl rfl ?_
        refine x_iload (x_d C_O_readTrailer 43 rfl) rfl ?_
        refine x_iaload (f := P1 5) (x_d C_O_readTrailer 44 rfl) rfl (by omega) (by omega) ?_
        refine x_iconst (x_d C_O_readTrailer 45 rfl) ⟨by omega, by omega⟩ ?_
        refine x_icmp_ne (tgt := 112) (x_d C_O_readTrailer 46 rfl) rfl (fun c4 => ?_) (fun c4 => ?_)
        · refine x_iconst (x_d C_O_readTrailer 56 rfl) ⟨by omega, by omega⟩ ?_
          refine x_ireturn (x_d C_O_readTrailer 57 rfl) ?_
          refine ⟨t1, nx, mo, sz, tb, lt, tr, P1, rfl, k1, k2, k3, k4, Or.inr ⟨rfl, ?_⟩⟩
          unfold s_trd
          rw [hval, Option.bind_some]
          show (if ¬ lkd ts 0 = 7 then none else if s_nam (lsp ts) (lnm ts) (A 2) (q 35) 0 [83, 105, 122, 101] < 0 ∨ ¬ lkd ts (s_nam (lsp ts) (lnm ts) (A 2) (q 35) 0 [83, 105, 122, 101]).toNat = 3 ∨ (0 ≤ s_nam (lsp ts) (lnm ts) (A 2) (q 35) 0 [80, 114, 101, 118] ∧ ¬ lkd ts (s_nam (lsp ts) (lnm ts) (A 2) (q 35) 0 [80, 114, 101, 118]).toNat = 3) then none else if lon ts (s_nam (lsp ts) (lnm ts) (A 2) (q 35) 0 [83, 105, 122, 101]).toNat < 1 ∨ 300 < lon ts (s_nam (lsp ts) (lnm ts) (A 2) (q 35) 0 [83, 105, 122, 101]).toNat ∨ lon ts (s_nam (lsp ts) (lnm ts) (A 2) (q 35) 0 [83, 105, 122, 101]).toNat ≤ q 362 then none else _) = none
          rw [← ha0, ← hc0, if_neg (by omega)]
          first | rw [if_pos (by omega)] | rw [if_neg (by omega), if_pos (by omega)]
        · refine x_iload (x_d C_O_readTrailer 47 rfl) rfl ?_
          refine x_if_lt (tgt := 114) (x_d C_O_readTrailer 48 rfl) rfl (fun c5 => ?_) (fun c5 => ?_)
          · refine x_aload_n (x_d C_O_readTrailer 58 rfl) rfl ?_
            refine x_getfield (v := xC 4) (x_d C_O_readTrailer 59 rfl) f_O_28 rfl rfl ?_
            refine x_getfield (v := xC 6) (x_d C_O_readTrailer 60 rfl) f_O_172 rfl rfl ?_
            refine x_iload (x_d C_O_readTrailer 61 rfl) rfl ?_
            refine x_iaload (f := P1 6) (x_d C_O_readTrailer 62 rfl) rfl (by omega) (by omega) ?_
            refine x_istore (l1 := [(6, xI ((P1 6) (a).toNat)), (5, xI (c)), (4, xI (a)), (3, xI (s_ps (s_val (A 2) (q 35) 8 (s_abyte (A 2) (q 35) (q 363) 10)))), (2, xI (t)), (0, xC 11), (1, xI (0))]) (x_d C_O_readTrailer 63 rfl) (by decide) rfl ?_
            refine x_iload (x_d C_O_readTrailer 64 rfl) rfl ?_
            refine x_iconst (x_d C_O_readTrailer 65 rfl) ⟨by omega, by omega⟩ ?_
            refine x_icmp_lt (tgt := 149) (x_d C_O_readTrailer 66 rfl) rfl (fun c6 => ?_) (fun c6 => ?_)
            · refine x_iconst (x_d C_O_readTrailer 74 rfl) ⟨by omega, by omega⟩ ?_
              refine x_ireturn (x_d C_O_readTrailer 75 rfl) ?_
              refine ⟨t1, nx, mo, sz, tb, lt, tr, P1, rfl, k1, k2, k3, k4, Or.inr ⟨rfl, ?_⟩⟩
              unfold s_trd
              rw [hval, Option.bind_some]
              show (if ¬ lkd ts 0 = 7 then none else if s_nam (lsp ts) (lnm ts) (A 2) (q 35) 0 [83, 105, 122, 101] < 0 ∨ ¬ lkd ts (s_nam (lsp ts) (lnm ts) (A 2) (q 35) 0 [83, 105, 122, 101]).toNat = 3 ∨ (0 ≤ s_nam (lsp ts) (lnm ts) (A 2) (q 35) 0 [80, 114, 101, 118] ∧ ¬ lkd ts (s_nam (lsp ts) (lnm ts) (A 2) (q 35) 0 [80, 114, 101, 118]).toNat = 3) then none else if lon ts (s_nam (lsp ts) (lnm ts) (A 2) (q 35) 0 [83, 105, 122, 101]).toNat < 1 ∨ 300 < lon ts (s_nam (lsp ts) (lnm ts) (A 2) (q 35) 0 [83, 105, 122, 101]).toNat ∨ lon ts (s_nam (lsp ts) (lnm ts) (A 2) (q 35) 0 [83, 105, 122, 101]).toNat ≤ q 362 then none else _) = none
              rw [← ha0, ← hc0, if_neg (by omega)]
              first | rw [if_pos (by omega)] | rw [if_neg (by omega), if_pos (by omega)]
            · refine x_iload (x_d C_O_readTrailer 67 rfl) rfl ?_
              refine x_sipush (x_d C_O_readTrailer 68 rfl) (by omega) ?_
              refine x_icmp_gt (tgt := 149) (x_d C_O_readTrailer 69 rfl) rfl (fun c7 => ?_) (fun c7 => ?_)
              · refine x_iconst (x_d C_O_readTrailer 74 rfl) ⟨by omega, by omega⟩ ?_
                refine x_ireturn (x_d C_O_readTrailer 75 rfl) ?_
                refine ⟨t1, nx, mo, sz, tb, lt, tr, P1, rfl, k1, k2, k3, k4, Or.inr ⟨rfl, ?_⟩⟩
                unfold s_trd
                rw [hval, Option.bind_some]
                show (if ¬ lkd ts 0 = 7 then none else if s_nam (lsp ts) (lnm ts) (A 2) (q 35) 0 [83, 105, 122, 101] < 0 ∨ ¬ lkd ts (s_nam (lsp ts) (lnm ts) (A 2) (q 35) 0 [83, 105, 122, 101]).toNat = 3 ∨ (0 ≤ s_nam (lsp ts) (lnm ts) (A 2) (q 35) 0 [80, 114, 101, 118] ∧ ¬ lkd ts (s_nam (lsp ts) (lnm ts) (A 2) (q 35) 0 [80, 114, 101, 118]).toNat = 3) then none else if lon ts (s_nam (lsp ts) (lnm ts) (A 2) (q 35) 0 [83, 105, 122, 101]).toNat < 1 ∨ 300 < lon ts (s_nam (lsp ts) (lnm ts) (A 2) (q 35) 0 [83, 105, 122, 101]).toNat ∨ lon ts (s_nam (lsp ts) (lnm ts) (A 2) (q 35) 0 [83, 105, 122, 101]).toNat ≤ q 362 then none else _) = none
                rw [← ha0, ← hc0, if_neg (by omega)]
                first | rw [if_pos (by omega)] | rw [if_neg (by omega), if_pos (by omega)]
              · refine x_aload_n (x_d C_O_readTrailer 70 rfl) rfl ?_
                refine x_getfield (v := xI (q 362)) (x_d C_O_readTrailer 71 rfl) f_O_106 rfl rfl ?_
                refine x_iload (x_d C_O_readTrailer 72 rfl) rfl ?_
                refine x_icmp_lt (tgt := 151) (x_d C_O_readTrailer 73 rfl) rfl (fun c8 => ?_) (fun c8 => ?_)
                · refine x_aload_n (x_d C_O_readTrailer 76 rfl) rfl ?_
                  refine x_iload (x_d C_O_readTrailer 77 rfl) rfl ?_
                  refine x_if_lt (tgt := 161) (x_d C_O_readTrailer 78 rfl) rfl (fun c9 => ?_) (fun c9 => ?_)
                  · refine x_iconst (x_d C_O_readTrailer 81 rfl) ⟨by omega, by omega⟩ ?_
                    refine x_putfield (h1 := hF (x_up (x_up (x_up (x_up (x_up (x_up (x_up q 133 t1) 360 nx) 1029 sz) 1030 tb) 1031 lt) 1032 tr) 361 0) (x_up r 359 (some 32)) (x_up (x_up (x_up (x_up (x_up A 5 (P1 5)) 6 (P1 6)) 7 (P1 7)) 8 (P1 8)) 9 (P1 9)) ++ dy) (x_d C_O_readTrailer 82 rfl) p_O_79 rfl rfl rfl (by first | exact Or.inl rfl | exact Or.inr rfl) rfl ?_
                    refine x_aload_n (x_d C_O_readTrailer 83 rfl) rfl ?_
                    refine x_aload_n (x_d C_O_readTrailer 84 rfl) rfl ?_
                    refine x_getfield (v := xI (0)) (x_d C_O_readTrailer 85 rfl) f_O_79 rfl rfl ?_
                    refine x_if_eq (tgt := 186) (x_d C_O_readTrailer 86 rfl) rfl (fun _ => ?_) (fun q => absurd q (by omega))
                    refine x_iconst (x_d C_O_readTrailer 93 rfl) ⟨by omega, by omega⟩ ?_
                    refine x_putfield (h1 := hF (x_up (x_up (x_up (x_up (x_up (x_up (x_up q 133 t1) 1029 sz) 1030 tb) 1031 lt) 1032 tr) 361 0) 360 (-1)) (x_up r 359 (some 32)) (x_up (x_up (x_up (x_up (x_up A 5 (P1 5)) 6 (P1 6)) 7 (P1 7)) 8 (P1 8)) 9 (P1 9)) ++ dy) (x_d C_O_readTrailer 94 rfl) p_O_69 rfl rfl rfl trivial rfl ?_
                    refine x_aload_n (x_d C_O_readTrailer 95 rfl) rfl ?_
                    refine x_getfield (v := xC 32) (x_d C_O_readTrailer 96 rfl) f_O_36 rfl rfl ?_
                    refine x_iload_n (x_d C_O_readTrailer 97 rfl) rfl ?_
                    refine x_iconst (x_d C_O_readTrailer 98 rfl) ⟨by omega, by omega⟩ ?_
                    refine x_iadd (x_d C_O_readTrailer 99 rfl) ⟨by omega, by omega⟩ ?_
                    refine x_putfield (h1 := hF (x_up (x_up (x_up (x_up (x_up (x_up (x_up q 133 t1) 1029 sz) 1031 lt) 1032 tr) 361 0) 360 (-1)) 1030 (0 + 1)) (x_up r 359 (some 32)) (x_up (x_up (x_up (x_up (x_up A 5 (P1 5)) 6 (P1 6)) 7 (P1 7)) 8 (P1 8)) 9 (P1 9)) ++ dy) (x_d C_O_readTrailer 100 rfl) p_O_175 rfl rfl rfl trivial rfl ?_
                    refine x_iload_n (x_d C_O_readTrailer 101 rfl) rfl ?_
                    refine x_if_ne (tgt := 237) (x_d C_O_readTrailer 102 rfl) rfl (fun q => absurd q (by omega)) (fun _ => ?_)
                    refine x_aload_n (x_d C_O_readTrailer 103 rfl) rfl ?_
                    refine x_getfield (v := xC 32) (x_d C_O_readTrailer 104 rfl) f_O_36 rfl rfl ?_
                    refine x_iload (x_d C_O_readTrailer 105 rfl) rfl ?_
                    refine x_putfield (h1 := hF (x_up (x_up (x_up (x_up (x_up (x_up (x_up q 133 t1) 1031 lt) 1032 tr) 361 0) 360 (-1)) 1030 (0 + 1)) 1029 ((P1 6) (a).toNat)) (x_up r 359 (some 32)) (x_up (x_up (x_up (x_up (x_up A 5 (P1 5)) 6 (P1 6)) 7 (P1 7)) 8 (P1 8)) 9 (P1 9)) ++ dy) (x_d C_O_readTrailer 106 rfl) p_O_133 rfl rfl rfl trivial rfl ?_
                    refine x_aload_n (x_d C_O_readTrailer 107 rfl) rfl ?_
                    refine x_getfield (v := xC 32) (x_d C_O_readTrailer 108 rfl) f_O_36 rfl rfl ?_
                    refine x_iload_n (x_d C_O_readTrailer 109 rfl) rfl ?_
                    refine x_putfield (h1 := hF (x_up (x_up (x_up (x_up (x_up (x_up (x_up q 133 t1) 1031 lt) 361 0) 360 (-1)) 1030 (0 + 1)) 1029 ((P1 6) (a).toNat)) 1032 t) (x_up r 359 (some 32)) (x_up (x_up (x_up (x_up (x_up A 5 (P1 5)) 6 (P1 6)) 7 (P1 7)) 8 (P1 8)) 9 (P1 9)) ++ dy) (x_d C_O_readTrailer 110 rfl) p_O_178 rfl rfl rfl trivial rfl ?_
                    refine x_aload_n (x_d C_O_readTrailer 111 rfl) rfl ?_
                    refine x_getfield (v := xC 32) (x_d C_O_readTrailer 112 rfl) f_O_36 rfl rfl ?_
                    refine x_aload_n (x_d C_O_readTrailer 113 rfl) rfl ?_
                    refine x_getfield (v := xC 12) (x_d C_O_readTrailer 114 rfl) f_O_9 rfl rfl ?_
                    refine x_iconst (x_d C_O_readTrailer 115 rfl) ⟨by omega, by omega⟩ ?_
                    refine x_iaload (f := A 12) (x_d C_O_readTrailer 116 rfl) rfl (by omega) (by omega) ?_
                    refine x_putfield (h1 := hF (x_up (x_up (x_up (x_up (x_up (x_up (x_up q 133 t1) 361 0) 360 (-1)) 1030 (0 + 1)) 1029 ((P1 6) (a).toNat)) 1032 t) 1031 (A 12 (0 : Int).toNat)) (x_up r 359 (some 32)) (x_up (x_up (x_up (x_up (x_up A 5 (P1 5)) 6 (P1 6)) 7 (P1 7)) 8 (P1 8)) 9 (P1 9)) ++ dy) (x_d C_O_readTrailer 117 rfl) p_O_180 rfl rfl rfl trivial rfl ?_
                    refine x_goto (tgt := 245) (x_d C_O_readTrailer 118 rfl) rfl ?_
                    refine x_iconst (x_d C_O_readTrailer 123 rfl) ⟨by omega, by omega⟩ ?_
                    refine x_ireturn (x_d C_O_readTrailer 124 rfl) ?_
                    refine ⟨t1, -1, 0, (P1 6) (a).toNat, 0 + 1, A 12 (0 : Int).toNat, t, P1, rfl, k1, k2, by omega, by omega, Or.inl ⟨rfl, (ts, lon ts a0.toNat, none), ?_, ?_, rfl, ?_, rfl⟩⟩
                    · unfold s_trd
                      rw [hval, Option.bind_some]
                      show (if ¬ lkd ts 0 = 7 then none else if s_nam (lsp ts) (lnm ts) (A 2) (q 35) 0 [83, 105, 122, 101] < 0 ∨ ¬ lkd ts (s_nam (lsp ts) (lnm ts) (A 2) (q 35) 0 [83, 105, 122, 101]).toNat = 3 ∨ (0 ≤ s_nam (lsp ts) (lnm ts) (A 2) (q 35) 0 [80, 114, 101, 118] ∧ ¬ lkd ts (s_nam (lsp ts) (lnm ts) (A 2) (q 35) 0 [80, 114, 101, 118]).toNat = 3) then none else if lon ts (s_nam (lsp ts) (lnm ts) (A 2) (q 35) 0 [83, 105, 122, 101]).toNat < 1 ∨ 300 < lon ts (s_nam (lsp ts) (lnm ts) (A 2) (q 35) 0 [83, 105, 122, 101]).toNat ∨ lon ts (s_nam (lsp ts) (lnm ts) (A 2) (q 35) 0 [83, 105, 122, 101]).toNat ≤ q 362 then none else some (ts, lon ts (s_nam (lsp ts) (lnm ts) (A 2) (q 35) 0 [83, 105, 122, 101]).toNat, if s_nam (lsp ts) (lnm ts) (A 2) (q 35) 0 [80, 114, 101, 118] < 0 then none else some (lon ts (s_nam (lsp ts) (lnm ts) (A 2) (q 35) 0 [80, 114, 101, 118]).toNat))) = _
                      rw [← ha0, ← hc0, if_neg (by omega), if_neg (by omega), if_neg (by omega), if_pos (by omega)]
                    · exact ⟨ht1, hat, by show P1 6 a.toNat = lon ts a0.toNat; omega, rfl, rfl⟩
                    · rfl
                  · refine x_iconst (x_d C_O_readTrailer 79 rfl) ⟨by omega, by omega⟩ ?_
                    refine x_goto (tgt := 162) (x_d C_O_readTrailer 80 rfl) rfl ?_
                    refine x_putfield (h1 := hF (x_up (x_up (x_up (x_up (x_up (x_up (x_up q 133 t1) 360 nx) 1029 sz) 1030 tb) 1031 lt) 1032 tr) 361 1) (x_up r 359 (some 32)) (x_up (x_up (x_up (x_up (x_up A 5 (P1 5)) 6 (P1 6)) 7 (P1 7)) 8 (P1 8)) 9 (P1 9)) ++ dy) (x_d C_O_readTrailer 82 rfl) p_O_79 rfl rfl rfl (by first | exact Or.inl rfl | exact Or.inr rfl) rfl ?_
                    refine x_aload_n (x_d C_O_readTrailer 83 rfl) rfl ?_
                    refine x_aload_n (x_d C_O_readTrailer 84 rfl) rfl ?_
                    refine x_getfield (v := xI (1)) (x_d C_O_readTrailer 85 rfl) f_O_79 rfl rfl ?_
                    refine x_if_eq (tgt := 186) (x_d C_O_readTrailer 86 rfl) rfl (fun q => absurd q (by omega)) (fun _ => ?_)
                    refine x_aload_n (x_d C_O_readTrailer 87 rfl) rfl ?_
                    refine x_getfield (v := xC 4) (x_d C_O_readTrailer 88 rfl) f_O_28 rfl rfl ?_
                    refine x_getfield (v := xC 6) (x_d C_O_readTrailer 89 rfl) f_O_172 rfl rfl ?_
                    refine x_iload (x_d C_O_readTrailer 90 rfl) rfl ?_
                    refine x_iaload (f := P1 6) (x_d C_O_readTrailer 91 rfl) rfl (by omega) (by omega) ?_
                    refine x_goto (tgt := 187) (x_d C_O_readTrailer 92 rfl) rfl ?_
                    refine x_putfield (h1 := hF (x_up (x_up (x_up (x_up (x_up (x_up (x_up q 133 t1) 1029 sz) 1030 tb) 1031 lt) 1032 tr) 361 1) 360 ((P1 6) (c).toNat)) (x_up r 359 (some 32)) (x_up (x_up (x_up (x_up (x_up A 5 (P1 5)) 6 (P1 6)) 7 (P1 7)) 8 (P1 8)) 9 (P1 9)) ++ dy) (x_d C_O_readTrailer 94 rfl) p_O_69 rfl rfl rfl trivial rfl ?_
                    refine x_aload_n (x_d C_O_readTrailer 95 rfl) rfl ?_
                    refine x_getfield (v := xC 32) (x_d C_O_readTrailer 96 rfl) f_O_36 rfl rfl ?_
                    refine x_iload_n (x_d C_O_readTrailer 97 rfl) rfl ?_
                    refine x_iconst (x_d C_O_readTrailer 98 rfl) ⟨by omega, by omega⟩ ?_
                    refine x_iadd (x_d C_O_readTrailer 99 rfl) ⟨by omega, by omega⟩ ?_
                    refine x_putfield (h1 := hF (x_up (x_up (x_up (x_up (x_up (x_up (x_up q 133 t1) 1029 sz) 1031 lt) 1032 tr) 361 1) 360 ((P1 6) (c).toNat)) 1030 (0 + 1)) (x_up r 359 (some 32)) (x_up (x_up (x_up (x_up (x_up A 5 (P1 5)) 6 (P1 6)) 7 (P1 7)) 8 (P1 8)) 9 (P1 9)) ++ dy) (x_d C_O_readTrailer 100 rfl) p_O_175 rfl rfl rfl trivial rfl ?_
                    refine x_iload_n (x_d C_O_readTrailer 101 rfl) rfl ?_
                    refine x_if_ne (tgt := 237) (x_d C_O_readTrailer 102 rfl) rfl (fun q => absurd q (by omega)) (fun _ => ?_)
                    refine x_aload_n (x_d C_O_readTrailer 103 rfl) rfl ?_
                    refine x_getfield (v := xC 32) (x_d C_O_readTrailer 104 rfl) f_O_36 rfl rfl ?_
                    refine x_iload (x_d C_O_readTrailer 105 rfl) rfl ?_
                    refine x_putfield (h1 := hF (x_up (x_up (x_up (x_up (x_up (x_up (x_up q 133 t1) 1031 lt) 1032 tr) 361 1) 360 ((P1 6) (c).toNat)) 1030 (0 + 1)) 1029 ((P1 6) (a).toNat)) (x_up r 359 (some 32)) (x_up (x_up (x_up (x_up (x_up A 5 (P1 5)) 6 (P1 6)) 7 (P1 7)) 8 (P1 8)) 9 (P1 9)) ++ dy) (x_d C_O_readTrailer 106 rfl) p_O_133 rfl rfl rfl trivial rfl ?_
                    refine x_aload_n (x_d C_O_readTrailer 107 rfl) rfl ?_
                    refine x_getfield (v := xC 32) (x_d C_O_readTrailer 108 rfl) f_O_36 rfl rfl ?_
                    refine x_iload_n (x_d C_O_readTrailer 109 rfl) rfl ?_
                    refine x_putfield (h1 := hF (x_up (x_up (x_up (x_up (x_up (x_up (x_up q 133 t1) 1031 lt) 361 1) 360 ((P1 6) (c).toNat)) 1030 (0 + 1)) 1029 ((P1 6) (a).toNat)) 1032 t) (x_up r 359 (some 32)) (x_up (x_up (x_up (x_up (x_up A 5 (P1 5)) 6 (P1 6)) 7 (P1 7)) 8 (P1 8)) 9 (P1 9)) ++ dy) (x_d C_O_readTrailer 110 rfl) p_O_178 rfl rfl rfl trivial rfl ?_
                    refine x_aload_n (x_d C_O_readTrailer 111 rfl) rfl ?_
                    refine x_getfield (v := xC 32) (x_d C_O_readTrailer 112 rfl) f_O_36 rfl rfl ?_
                    refine x_aload_n (x_d C_O_readTrailer 113 rfl) rfl ?_
                    refine x_getfield (v := xC 12) (x_d C_O_readTrailer 114 rfl) f_O_9 rfl rfl ?_
                    refine x_iconst (x_d C_O_readTrailer 115 rfl) ⟨by omega, by omega⟩ ?_
                    refine x_iaload (f := A 12) (x_d C_O_readTrailer 116 rfl) rfl (by omega) (by omega) ?_
                    refine x_putfield (h1 := hF (x_up (x_up (x_up (x_up (x_up (x_up (x_up q 133 t1) 361 1) 360 ((P1 6) (c).toNat)) 1030 (0 + 1)) 1029 ((P1 6) (a).toNat)) 1032 t) 1031 (A 12 (0 : Int).toNat)) (x_up r 359 (some 32)) (x_up (x_up (x_up (x_up (x_up A 5 (P1 5)) 6 (P1 6)) 7 (P1 7)) 8 (P1 8)) 9 (P1 9)) ++ dy) (x_d C_O_readTrailer 117 rfl) p_O_180 rfl rfl rfl trivial rfl ?_
                    refine x_goto (tgt := 245) (x_d C_O_readTrailer 118 rfl) rfl ?_
                    refine x_iconst (x_d C_O_readTrailer 123 rfl) ⟨by omega, by omega⟩ ?_
                    refine x_ireturn (x_d C_O_readTrailer 124 rfl) ?_
                    refine ⟨t1, (P1 6) (c).toNat, 1, (P1 6) (a).toNat, 0 + 1, A 12 (0 : Int).toNat, t, P1, rfl, k1, k2, by omega, by omega, Or.inl ⟨rfl, (ts, lon ts a0.toNat, some (lon ts c0.toNat)), ?_, ?_, rfl, ?_, rfl⟩⟩
                    · unfold s_trd
                      rw [hval, Option.bind_some]
                      show (if ¬ lkd ts 0 = 7 then none else if s_nam (lsp ts) (lnm ts) (A 2) (q 35) 0 [83, 105, 122, 101] < 0 ∨ ¬ lkd ts (s_nam (lsp ts) (lnm ts) (A 2) (q 35) 0 [83, 105, 122, 101]).toNat = 3 ∨ (0 ≤ s_nam (lsp ts) (lnm ts) (A 2) (q 35) 0 [80, 114, 101, 118] ∧ ¬ lkd ts (s_nam (lsp ts) (lnm ts) (A 2) (q 35) 0 [80, 114, 101, 118]).toNat = 3) then none else if lon ts (s_nam (lsp ts) (lnm ts) (A 2) (q 35) 0 [83, 105, 122, 101]).toNat < 1 ∨ 300 < lon ts (s_nam (lsp ts) (lnm ts) (A 2) (q 35) 0 [83, 105, 122, 101]).toNat ∨ lon ts (s_nam (lsp ts) (lnm ts) (A 2) (q 35) 0 [83, 105, 122, 101]).toNat ≤ q 362 then none else some (ts, lon ts (s_nam (lsp ts) (lnm ts) (A 2) (q 35) 0 [83, 105, 122, 101]).toNat, if s_nam (lsp ts) (lnm ts) (A 2) (q 35) 0 [80, 114, 101, 118] < 0 then none else some (lon ts (s_nam (lsp ts) (lnm ts) (A 2) (q 35) 0 [80, 114, 101, 118]).toNat))) = _
                      rw [← ha0, ← hc0, if_neg (by omega), if_neg (by omega), if_neg (by omega), if_neg (by omega)]
                    · exact ⟨ht1, hat, by show P1 6 a.toNat = lon ts a0.toNat; omega, rfl, rfl⟩
                    · show _ = lon ts c0.toNat; omega
                · refine x_iconst (x_d C_O_readTrailer 74 rfl) ⟨by omega, by omega⟩ ?_
                  refine x_ireturn (x_d C_O_readTrailer 75 rfl) ?_
                  refine ⟨t1, nx, mo, sz, tb, lt, tr, P1, rfl, k1, k2, k3, k4, Or.inr ⟨rfl, ?_⟩⟩
                  unfold s_trd
                  rw [hval, Option.bind_some]
                  show (if ¬ lkd ts 0 = 7 then none else if s_nam (lsp ts) (lnm ts) (A 2) (q 35) 0 [83, 105, 122, 101] < 0 ∨ ¬ lkd ts (s_nam (lsp ts) (lnm ts) (A 2) (q 35) 0 [83, 105, 122, 101]).toNat = 3 ∨ (0 ≤ s_nam (lsp ts) (lnm ts) (A 2) (q 35) 0 [80, 114, 101, 118] ∧ ¬ lkd ts (s_nam (lsp ts) (lnm ts) (A 2) (q 35) 0 [80, 114, 101, 118]).toNat = 3) then none else if lon ts (s_nam (lsp ts) (lnm ts) (A 2) (q 35) 0 [83, 105, 122, 101]).toNat < 1 ∨ 300 < lon ts (s_nam (lsp ts) (lnm ts) (A 2) (q 35) 0 [83, 105, 122, 101]).toNat ∨ lon ts (s_nam (lsp ts) (lnm ts) (A 2) (q 35) 0 [83, 105, 122, 101]).toNat ≤ q 362 then none else _) = none
                  rw [← ha0, ← hc0, if_neg (by omega)]
                  first | rw [if_pos (by omega)] | rw [if_neg (by omega), if_pos (by omega)]
          · refine x_aload_n (x_d C_O_readTrailer 49 rfl) rfl ?_
            refine x_getfield (v := xC 4) (x_d C_O_readTrailer 50 rfl) f_O_28 rfl rfl ?_
            refine x_getfield (v := xC 5) (x_d C_O_readTrailer 51 rfl) f_O_162 rfl rfl ?_
            refine x_iload (x_d C_O_readTrailer 52 rfl) rfl ?_
            refine x_iaload (f := P1 5) (x_d C_O_readTrailer 53 rfl) rfl (by omega) (by omega) ?_
            refine x_iconst (x_d C_O_readTrailer 54 rfl) ⟨by omega, by omega⟩ ?_
            refine x_icmp_eq (tgt := 114) (x_d C_O_readTrailer 55 rfl) rfl (fun c14 => ?_) (fun c14 => ?_)
            · refine x_aload_n (x_d C_O_readTrailer 58 rfl) rfl ?_
              refine x_getfield (v := xC 4) (x_d C_O_readTrailer 59 rfl) f_O_28 rfl rfl ?_
              refine x_getfield (v := xC 6) (x_d C_O_readTrailer 60 rfl) f_O_172 rfl rfl ?_
              refine x_iload (x_d C_O_readTrailer 61 rfl) rfl ?_
              refine x_iaload (f := P1 6) (x_d C_O_readTrailer 62 rfl) rfl (by omega) (by omega) ?_
              refine x_istore (l1 := [(6, xI ((P1 6) (a).toNat)), (5, xI (c)), (4, xI (a)), (3, xI (s_ps (s_val (A 2) (q 35) 8 (s_abyte (A 2) (q 35) (q 363) 10)))), (2, xI (t)), (0, xC 11), (1, xI (0))]) (x_d C_O_readTrailer 63 rfl) (by decide) rfl ?_
              refine x_iload (x_d C_O_readTrailer 64 rfl) rfl ?_
              refine x_iconst (x_d C_O_readTrailer 65 rfl) ⟨by omega, by omega⟩ ?_
              refine x_icmp_lt (tgt := 149) (x_d C_O_readTrailer 66 rfl) rfl (fun c15 => ?_) (fun c15 => ?_)
              · refine x_iconst (x_d C_O_readTrailer 74 rfl) ⟨by omega, by omega⟩ ?_
                refine x_ireturn (x_d C_O_readTrailer 75 rfl) ?_
                refine ⟨t1, nx, mo, sz, tb, lt, tr, P1, rfl, k1, k2, k3, k4, Or.inr ⟨rfl, ?_⟩⟩
                unfold s_trd
                rw [hval, Option.bind_some]
                show (if ¬ lkd ts 0 = 7 then none else if s_nam (lsp ts) (lnm ts) (A 2) (q 35) 0 [83, 105, 122, 101] < 0 ∨ ¬ lkd ts (s_nam (lsp ts) (lnm ts) (A 2) (q 35) 0 [83, 105, 122, 101]).toNat = 3 ∨ (0 ≤ s_nam (lsp ts) (lnm ts) (A 2) (q 35) 0 [80, 114, 101, 118] ∧ ¬ lkd ts (s_nam (lsp ts) (lnm ts) (A 2) (q 35) 0 [80, 114, 101, 118]).toNat = 3) then none else if lon ts (s_nam (lsp ts) (lnm ts) (A 2) (q 35) 0 [83, 105, 122, 101]).toNat < 1 ∨ 300 < lon ts (s_nam (lsp ts) (lnm ts) (A 2) (q 35) 0 [83, 105, 122, 101]).toNat ∨ lon ts (s_nam (lsp ts) (lnm ts) (A 2) (q 35) 0 [83, 105, 122, 101]).toNat ≤ q 362 then none else _) = none
                rw [← ha0, ← hc0, if_neg (by omega)]
                first | rw [if_pos (by omega)] | rw [if_neg (by omega), if_pos (by omega)]
              · refine x_iload (x_d C_O_readTrailer 67 rfl) rfl ?_
                refine x_sipush (x_d C_O_readTrailer 68 rfl) (by omega) ?_
                refine x_icmp_gt (tgt := 149) (x_d C_O_readTrailer 69 rfl) rfl (fun c16 => ?_) (fun c16 => ?_)
                · refine x_iconst (x_d C_O_readTrailer 74 rfl) ⟨by omega, by omega⟩ ?_
                  refine x_ireturn (x_d C_O_readTrailer 75 rfl) ?_
                  refine ⟨t1, nx, mo, sz, tb, lt, tr, P1, rfl, k1, k2, k3, k4, Or.inr ⟨rfl, ?_⟩⟩
                  unfold s_trd
                  rw [hval, Option.bind_some]
                  show (if ¬ lkd ts 0 = 7 then none else if s_nam (lsp ts) (lnm ts) (A 2) (q 35) 0 [83, 105, 122, 101] < 0 ∨ ¬ lkd ts (s_nam (lsp ts) (lnm ts) (A 2) (q 35) 0 [83, 105, 122, 101]).toNat = 3 ∨ (0 ≤ s_nam (lsp ts) (lnm ts) (A 2) (q 35) 0 [80, 114, 101, 118] ∧ ¬ lkd ts (s_nam (lsp ts) (lnm ts) (A 2) (q 35) 0 [80, 114, 101, 118]).toNat = 3) then none else if lon ts (s_nam (lsp ts) (lnm ts) (A 2) (q 35) 0 [83, 105, 122, 101]).toNat < 1 ∨ 300 < lon ts (s_nam (lsp ts) (lnm ts) (A 2) (q 35) 0 [83, 105, 122, 101]).toNat ∨ lon ts (s_nam (lsp ts) (lnm ts) (A 2) (q 35) 0 [83, 105, 122, 101]).toNat ≤ q 362 then none else _) = none
                  rw [← ha0, ← hc0, if_neg (by omega)]
                  first | rw [if_pos (by omega)] | rw [if_neg (by omega), if_pos (by omega)]
                · refine x_aload_n (x_d C_O_readTrailer 70 rfl) rfl ?_
                  refine x_getfield (v := xI (q 362)) (x_d C_O_readTrailer 71 rfl) f_O_106 rfl rfl ?_
                  refine x_iload (x_d C_O_readTrailer 72 rfl) rfl ?_
                  refine x_icmp_lt (tgt := 151) (x_d C_O_readTrailer 73 rfl) rfl (fun c17 => ?_) (fun c17 => ?_)
                  · refine x_aload_n (x_d C_O_readTrailer 76 rfl) rfl ?_
                    refine x_iload (x_d C_O_readTrailer 77 rfl) rfl ?_
                    refine x_if_lt (tgt := 161) (x_d C_O_readTrailer 78 rfl) rfl (fun c18 => ?_) (fun c18 => ?_)
                    · refine x_iconst (x_d C_O_readTrailer 81 rfl) ⟨by omega, by omega⟩ ?_
                      refine x_putfield (h1 := hF (x_up (x_up (x_up (x_up (x_up (x_up (x_up q 133 t1) 360 nx) 1029 sz) 1030 tb) 1031 lt) 1032 tr) 361 0) (x_up r 359 (some 32)) (x_up (x_up (x_up (x_up (x_up A 5 (P1 5)) 6 (P1 6)) 7 (P1 7)) 8 (P1 8)) 9 (P1 9)) ++ dy) (x_d C_O_readTrailer 82 rfl) p_O_79 rfl rfl rfl (by first | exact Or.inl rfl | exact Or.inr rfl) rfl ?_
                      refine x_aload_n (x_d C_O_readTrailer 83 rfl) rfl ?_
                      refine x_aload_n (x_d C_O_readTrailer 84 rfl) rfl ?_
                      refine x_getfield (v := xI (0)) (x_d C_O_readTrailer 85 rfl) f_O_79 rfl rfl ?_
                      refine x_if_eq (tgt := 186) (x_d C_O_readTrailer 86 rfl) rfl (fun _ => ?_) (fun q => absurd q (by omega))
                      refine x_iconst (x_d C_O_readTrailer 93 rfl) ⟨by omega, by omega⟩ ?_
                      refine x_putfield (h1 := hF (x_up (x_up (x_up (x_up (x_up (x_up (x_up q 133 t1) 1029 sz) 1030 tb) 1031 lt) 1032 tr) 361 0) 360 (-1)) (x_up r 359 (some 32)) (x_up (x_up (x_up (x_up (x_up A 5 (P1 5)) 6 (P1 6)) 7 (P1 7)) 8 (P1 8)) 9 (P1 9)) ++ dy) (x_d C_O_readTrailer 94 rfl) p_O_69 rfl rfl rfl trivial rfl ?_
                      refine x_aload_n (x_d C_O_readTrailer 95 rfl) rfl ?_
                      refine x_getfield (v := xC 32) (x_d C_O_readTrailer 96 rfl) f_O_36 rfl rfl ?_
                      refine x_iload_n (x_d C_O_readTrailer 97 rfl) rfl ?_
                      refine x_iconst (x_d C_O_readTrailer 98 rfl) ⟨by omega, by omega⟩ ?_
                      refine x_iadd (x_d C_O_readTrailer 99 rfl) ⟨by omega, by omega⟩ ?_
                      refine x_putfield (h1 := hF (x_up (x_up (x_up (x_up (x_up (x_up (x_up q 133 t1) 1029 sz) 1031 lt) 1032 tr) 361 0) 360 (-1)) 1030 (0 + 1)) (x_up r 359 (some 32)) (x_up (x_up (x_up (x_up (x_up A 5 (P1 5)) 6 (P1 6)) 7 (P1 7)) 8 (P1 8)) 9 (P1 9)) ++ dy) (x_d C_O_readTrailer 100 rfl) p_O_175 rfl rfl rfl trivial rfl ?_
                      refine x_iload_n (x_d C_O_readTrailer 101 rfl) rfl ?_
                      refine x_if_ne (tgt := 237) (x_d C_O_readTrailer 102 rfl) rfl (fun q => absurd q (by omega)) (fun _ => ?_)
                      refine x_aload_n (x_d C_O_readTrailer 103 rfl) rfl ?_
                      refine x_getfield (v := xC 32) (x_d C_O_readTrailer 104 rfl) f_O_36 rfl rfl ?_
                      refine x_iload (x_d C_O_readTrailer 105 rfl) rfl ?_
                      refine x_putfield (h1 := hF (x_up (x_up (x_up (x_up (x_up (x_up (x_up q 133 t1) 1031 lt) 1032 tr) 361 0) 360 (-1)) 1030 (0 + 1)) 1029 ((P1 6) (a).toNat)) (x_up r 359 (some 32)) (x_up (x_up (x_up (x_up (x_up A 5 (P1 5)) 6 (P1 6)) 7 (P1 7)) 8 (P1 8)) 9 (P1 9)) ++ dy) (x_d C_O_readTrailer 106 rfl) p_O_133 rfl rfl rfl trivial rfl ?_
                      refine x_aload_n (x_d C_O_readTrailer 107 rfl) rfl ?_
                      refine x_getfield (v := xC 32) (x_d C_O_readTrailer 108 rfl) f_O_36 rfl rfl ?_
                      refine x_iload_n (x_d C_O_readTrailer 109 rfl) rfl ?_
                      refine x_putfield (h1 := hF (x_up (x_up (x_up (x_up (x_up (x_up (x_up q 133 t1) 1031 lt) 361 0) 360 (-1)) 1030 (0 + 1)) 1029 ((P1 6) (a).toNat)) 1032 t) (x_up r 359 (some 32)) (x_up (x_up (x_up (x_up (x_up A 5 (P1 5)) 6 (P1 6)) 7 (P1 7)) 8 (P1 8)) 9 (P1 9)) ++ dy) (x_d C_O_readTrailer 110 rfl) p_O_178 rfl rfl rfl trivial rfl ?_
                      refine x_aload_n (x_d C_O_readTrailer 111 rfl) rfl ?_
                      refine x_getfield (v := xC 32) (x_d C_O_readTrailer 112 rfl) f_O_36 rfl rfl ?_
                      refine x_aload_n (x_d C_O_readTrailer 113 rfl) rfl ?_
                      refine x_getfield (v := xC 12) (x_d C_O_readTrailer 114 rfl) f_O_9 rfl rfl ?_
                      refine x_iconst (x_d C_O_readTrailer 115 rfl) ⟨by omega, by omega⟩ ?_
                      refine x_iaload (f := A 12) (x_d C_O_readTrailer 116 rfl) rfl (by omega) (by omega) ?_
                      refine x_putfield (h1 := hF (x_up (x_up (x_up (x_up (x_up (x_up (x_up q 133 t1) 361 0) 360 (-1)) 1030 (0 + 1)) 1029 ((P1 6) (a).toNat)) 1032 t) 1031 (A 12 (0 : Int).toNat)) (x_up r 359 (some 32)) (x_up (x_up (x_up (x_up (x_up A 5 (P1 5)) 6 (P1 6)) 7 (P1 7)) 8 (P1 8)) 9 (P1 9)) ++ dy) (x_d C_O_readTrailer 117 rfl) p_O_180 rfl rfl rfl trivial rfl ?_
                      refine x_goto (tgt := 245) (x_d C_O_readTrailer 118 rfl) rfl ?_
                      refine x_iconst (x_d C_O_readTrailer 123 rfl) ⟨by omega, by omega⟩ ?_
                      refine x_ireturn (x_d C_O_readTrailer 124 rfl) ?_
                      refine ⟨t1, -1, 0, (P1 6) (a).toNat, 0 + 1, A 12 (0 : Int).toNat, t, P1, rfl, k1, k2, by omega, by omega, Or.inl ⟨rfl, (ts, lon ts a0.toNat, none), ?_, ?_, rfl, ?_, rfl⟩⟩
                      · unfold s_trd
                        rw [hval, Option.bind_some]
                        show (if ¬ lkd ts 0 = 7 then none else if s_nam (lsp ts) (lnm ts) (A 2) (q 35) 0 [83, 105, 122, 101] < 0 ∨ ¬ lkd ts (s_nam (lsp ts) (lnm ts) (A 2) (q 35) 0 [83, 105, 122, 101]).toNat = 3 ∨ (0 ≤ s_nam (lsp ts) (lnm ts) (A 2) (q 35) 0 [80, 114, 101, 118] ∧ ¬ lkd ts (s_nam (lsp ts) (lnm ts) (A 2) (q 35) 0 [80, 114, 101, 118]).toNat = 3) then none else if lon ts (s_nam (lsp ts) (lnm ts) (A 2) (q 35) 0 [83, 105, 122, 101]).toNat < 1 ∨ 300 < lon ts (s_nam (lsp ts) (lnm ts) (A 2) (q 35) 0 [83, 105, 122, 101]).toNat ∨ lon ts (s_nam (lsp ts) (lnm ts) (A 2) (q 35) 0 [83, 105, 122, 101]).toNat ≤ q 362 then none else some (ts, lon ts (s_nam (lsp ts) (lnm ts) (A 2) (q 35) 0 [83, 105, 122, 101]).toNat, if s_nam (lsp ts) (lnm ts) (A 2) (q 35) 0 [80, 114, 101, 118] < 0 then none else some (lon ts (s_nam (lsp ts) (lnm ts) (A 2) (q 35) 0 [80, 114, 101, 118]).toNat))) = _
                        rw [← ha0, ← hc0, if_neg (by omega), if_neg (by omega), if_neg (by omega), if_pos (by omega)]
                      · exact ⟨ht1, hat, by show P1 6 a.toNat = lon ts a0.toNat; omega, rfl, rfl⟩
                      · rfl
                    · refine x_iconst (x_d C_O_readTrailer 79 rfl) ⟨by omega, by omega⟩ ?_
                      refine x_goto (tgt := 162) (x_d C_O_readTrailer 80 rfl) rfl ?_
                      refine x_putfield (h1 := hF (x_up (x_up (x_up (x_up (x_up (x_up (x_up q 133 t1) 360 nx) 1029 sz) 1030 tb) 1031 lt) 1032 tr) 361 1) (x_up r 359 (some 32)) (x_up (x_up (x_up (x_up (x_up A 5 (P1 5)) 6 (P1 6)) 7 (P1 7)) 8 (P1 8)) 9 (P1 9)) ++ dy) (x_d C_O_readTrailer 82 rfl) p_O_79 rfl rfl rfl (by first | exact Or.inl rfl | exact Or.inr rfl) rfl ?_
                      refine x_aload_n (x_d C_O_readTrailer 83 rfl) rfl ?_
                      refine x_aload_n (x_d C_O_readTrailer 84 rfl) rfl ?_
                      refine x_getfield (v := xI (1)) (x_d C_O_readTrailer 85 rfl) f_O_79 rfl rfl ?_
                      refine x_if_eq (tgt := 186) (x_d C_O_readTrailer 86 rfl) rfl (fun q => absurd q (by omega)) (fun _ => ?_)
                      refine x_aload_n (x_d C_O_readTrailer 87 rfl) rfl ?_
                      refine x_getfield (v := xC 4) (x_d C_O_readTrailer 88 rfl) f_O_28 rfl rfl ?_
                      refine x_getfield (v := xC 6) (x_d C_O_readTrailer 89 rfl) f_O_172 rfl rfl ?_
                      refine x_iload (x_d C_O_readTrailer 90 rfl) rfl ?_
                      refine x_iaload (f := P1 6) (x_d C_O_readTrailer 91 rfl) rfl (by omega) (by omega) ?_
                      refine x_goto (tgt := 187) (x_d C_O_readTrailer 92 rfl) rfl ?_
                      refine x_putfield (h1 := hF (x_up (x_up (x_up (x_up (x_up (x_up (x_up q 133 t1) 1029 sz) 1030 tb) 1031 lt) 1032 tr) 361 1) 360 ((P1 6) (c).toNat)) (x_up r 359 (some 32)) (x_up (x_up (x_up (x_up (x_up A 5 (P1 5)) 6 (P1 6)) 7 (P1 7)) 8 (P1 8)) 9 (P1 9)) ++ dy) (x_d C_O_readTrailer 94 rfl) p_O_69 rfl rfl rfl trivial rfl ?_
                      refine x_aload_n (x_d C_O_readTrailer 95 rfl) rfl ?_
                      refine x_getfield (v := xC 32) (x_d C_O_readTrailer 96 rfl) f_O_36 rfl rfl ?_
                      refine x_iload_n (x_d C_O_readTrailer 97 rfl) rfl ?_
                      refine x_iconst (x_d C_O_readTrailer 98 rfl) ⟨by omega, by omega⟩ ?_
                      refine x_iadd (x_d C_O_readTrailer 99 rfl) ⟨by omega, by omega⟩ ?_
                      refine x_putfield (h1 := hF (x_up (x_up (x_up (x_up (x_up (x_up (x_up q 133 t1) 1029 sz) 1031 lt) 1032 tr) 361 1) 360 ((P1 6) (c).toNat)) 1030 (0 + 1)) (x_up r 359 (some 32)) (x_up (x_up (x_up (x_up (x_up A 5 (P1 5)) 6 (P1 6)) 7 (P1 7)) 8 (P1 8)) 9 (P1 9)) ++ dy) (x_d C_O_readTrailer 100 rfl) p_O_175 rfl rfl rfl trivial rfl ?_
                      refine x_iload_n (x_d C_O_readTrailer 101 rfl) rfl ?_
                      refine x_if_ne (tgt := 237) (x_d C_O_readTrailer 102 rfl) rfl (fun q => absurd q (by omega)) (fun _ => ?_)
                      refine x_aload_n (x_d C_O_readTrailer 103 rfl) rfl ?_
                      refine x_getfield (v := xC 32) (x_d C_O_readTrailer 104 rfl) f_O_36 rfl rfl ?_
                      refine x_iload (x_d C_O_readTrailer 105 rfl) rfl ?_
                      refine x_putfield (h1 := hF (x_up (x_up (x_up (x_up (x_up (x_up (x_up q 133 t1) 1031 lt) 1032 tr) 361 1) 360 ((P1 6) (c).toNat)) 1030 (0 + 1)) 1029 ((P1 6) (a).toNat)) (x_up r 359 (some 32)) (x_up (x_up (x_up (x_up (x_up A 5 (P1 5)) 6 (P1 6)) 7 (P1 7)) 8 (P1 8)) 9 (P1 9)) ++ dy) (x_d C_O_readTrailer 106 rfl) p_O_133 rfl rfl rfl trivial rfl ?_
                      refine x_aload_n (x_d C_O_readTrailer 107 rfl) rfl ?_
                      refine x_getfield (v := xC 32) (x_d C_O_readTrailer 108 rfl) f_O_36 rfl rfl ?_
                      refine x_iload_n (x_d C_O_readTrailer 109 rfl) rfl ?_
                      refine x_putfield (h1 := hF (x_up (x_up (x_up (x_up (x_up (x_up (x_up q 133 t1) 1031 lt) 361 1) 360 ((P1 6) (c).toNat)) 1030 (0 + 1)) 1029 ((P1 6) (a).toNat)) 1032 t) (x_up r 359 (some 32)) (x_up (x_up (x_up (x_up (x_up A 5 (P1 5)) 6 (P1 6)) 7 (P1 7)) 8 (P1 8)) 9 (P1 9)) ++ dy) (x_d C_O_readTrailer 110 rfl) p_O_178 rfl rfl rfl trivial rfl ?_
                      refine x_aload_n (x_d C_O_readTrailer 111 rfl) rfl ?_
                      refine x_getfield (v := xC 32) (x_d C_O_readTrailer 112 rfl) f_O_36 rfl rfl ?_
                      refine x_aload_n (x_d C_O_readTrailer 113 rfl) rfl ?_
                      refine x_getfield (v := xC 12) (x_d C_O_readTrailer 114 rfl) f_O_9 rfl rfl ?_
                      refine x_iconst (x_d C_O_readTrailer 115 rfl) ⟨by omega, by omega⟩ ?_
                      refine x_iaload (f := A 12) (x_d C_O_readTrailer 116 rfl) rfl (by omega) (by omega) ?_
                      refine x_putfield (h1 := hF (x_up (x_up (x_up (x_up (x_up (x_up (x_up q 133 t1) 361 1) 360 ((P1 6) (c).toNat)) 1030 (0 + 1)) 1029 ((P1 6) (a).toNat)) 1032 t) 1031 (A 12 (0 : Int).toNat)) (x_up r 359 (some 32)) (x_up (x_up (x_up (x_up (x_up A 5 (P1 5)) 6 (P1 6)) 7 (P1 7)) 8 (P1 8)) 9 (P1 9)) ++ dy) (x_d C_O_readTrailer 117 rfl) p_O_180 rfl rfl rfl trivial rfl ?_
                      refine x_goto (tgt := 245) (x_d C_O_readTrailer 118 rfl) rfl ?_
                      refine x_iconst (x_d C_O_readTrailer 123 rfl) ⟨by omega, by omega⟩ ?_
                      refine x_ireturn (x_d C_O_readTrailer 124 rfl) ?_
                      refine ⟨t1, (P1 6) (c).toNat, 1, (P1 6) (a).toNat, 0 + 1, A 12 (0 : Int).toNat, t, P1, rfl, k1, k2, by omega, by omega, Or.inl ⟨rfl, (ts, lon ts a0.toNat, some (lon ts c0.toNat)), ?_, ?_, rfl, ?_, rfl⟩⟩
                      · unfold s_trd
                        rw [hval, Option.bind_some]
                        show (if ¬ lkd ts 0 = 7 then none else if s_nam (lsp ts) (lnm ts) (A 2) (q 35) 0 [83, 105, 122, 101] < 0 ∨ ¬ lkd ts (s_nam (lsp ts) (lnm ts) (A 2) (q 35) 0 [83, 105, 122, 101]).toNat = 3 ∨ (0 ≤ s_nam (lsp ts) (lnm ts) (A 2) (q 35) 0 [80, 114, 101, 118] ∧ ¬ lkd ts (s_nam (lsp ts) (lnm ts) (A 2) (q 35) 0 [80, 114, 101, 118]).toNat = 3) then none else if lon ts (s_nam (lsp ts) (lnm ts) (A 2) (q 35) 0 [83, 105, 122, 101]).toNat < 1 ∨ 300 < lon ts (s_nam (lsp ts) (lnm ts) (A 2) (q 35) 0 [83, 105, 122, 101]).toNat ∨ lon ts (s_nam (lsp ts) (lnm ts) (A 2) (q 35) 0 [83, 105, 122, 101]).toNat ≤ q 362 then none else some (ts, lon ts (s_nam (lsp ts) (lnm ts) (A 2) (q 35) 0 [83, 105, 122, 101]).toNat, if s_nam (lsp ts) (lnm ts) (A 2) (q 35) 0 [80, 114, 101, 118] < 0 then none else some (lon ts (s_nam (lsp ts) (lnm ts) (A 2) (q 35) 0 [80, 114, 101, 118]).toNat))) = _
                        rw [← ha0, ← hc0, if_neg (by omega), if_neg (by omega), if_neg (by omega), if_neg (by omega)]
                      · exact ⟨ht1, hat, by show P1 6 a.toNat = lon ts a0.toNat; omega, rfl, rfl⟩
                      · show _ = lon ts c0.toNat; omega
                  · refine x_iconst (x_d C_O_readTrailer 74 rfl) ⟨by omega, by omega⟩ ?_
                    refine x_ireturn (x_d C_O_readTrailer 75 rfl) ?_
                    refine ⟨t1, nx, mo, sz, tb, lt, tr, P1, rfl, k1, k2, k3, k4, Or.inr ⟨rfl, ?_⟩⟩
                    unfold s_trd
                    rw [hval, Option.bind_some]
                    show (if ¬ lkd ts 0 = 7 then none else if s_nam (lsp ts) (lnm ts) (A 2) (q 35) 0 [83, 105, 122, 101] < 0 ∨ ¬ lkd ts (s_nam (lsp ts) (lnm ts) (A 2) (q 35) 0 [83, 105, 122, 101]).toNat = 3 ∨ (0 ≤ s_nam (lsp ts) (lnm ts) (A 2) (q 35) 0 [80, 114, 101, 118] ∧ ¬ lkd ts (s_nam (lsp ts) (lnm ts) (A 2) (q 35) 0 [80, 114, 101, 118]).toNat = 3) then none else if lon ts (s_nam (lsp ts) (lnm ts) (A 2) (q 35) 0 [83, 105, 122, 101]).toNat < 1 ∨ 300 < lon ts (s_nam (lsp ts) (lnm ts) (A 2) (q 35) 0 [83, 105, 122, 101]).toNat ∨ lon ts (s_nam (lsp ts) (lnm ts) (A 2) (q 35) 0 [83, 105, 122, 101]).toNat ≤ q 362 then none else _) = none
                    rw [← ha0, ← hc0, if_neg (by omega)]
                    first | rw [if_pos (by omega)] | rw [if_neg (by omega), if_pos (by omega)]
            · refine x_iconst (x_d C_O_readTrailer 56 rfl) ⟨by omega, by omega⟩ ?_
              refine x_ireturn (x_d C_O_readTrailer 57 rfl) ?_
              refine ⟨t1, nx, mo, sz, tb, lt, tr, P1, rfl, k1, k2, k3, k4, Or.inr ⟨rfl, ?_⟩⟩
              unfold s_trd
              rw [hval, Option.bind_some]
              show (if ¬ lkd ts 0 = 7 then none else if s_nam (lsp ts) (lnm ts) (A 2) (q 35) 0 [83, 105, 122, 101] < 0 ∨ ¬ lkd ts (s_nam (lsp ts) (lnm ts) (A 2) (q 35) 0 [83, 105, 122, 101]).toNat = 3 ∨ (0 ≤ s_nam (lsp ts) (lnm ts) (A 2) (q 35) 0 [80, 114, 101, 118] ∧ ¬ lkd ts (s_nam (lsp ts) (lnm ts) (A 2) (q 35) 0 [80, 114, 101, 118]).toNat = 3) then none else if lon ts (s_nam (lsp ts) (lnm ts) (A 2) (q 35) 0 [83, 105, 122, 101]).toNat < 1 ∨ 300 < lon ts (s_nam (lsp ts) (lnm ts) (A 2) (q 35) 0 [83, 105, 122, 101]).toNat ∨ lon ts (s_nam (lsp ts) (lnm ts) (A 2) (q 35) 0 [83, 105, 122, 101]).toNat ≤ q 362 then none else _) = none
              rw [← ha0, ← hc0, if_neg (by omega)]
              first | rw [if_pos (by omega)] | rw [if_neg (by omega), if_pos (by omega)]
    · refine x_iconst (x_d C_O_readTrailer 24 rfl) ⟨by omega, by omega⟩ ?_
      refine x_ireturn (x_d C_O_readTrailer 25 rfl) ?_
      refine ⟨t1, nx, mo, sz, tb, lt, tr, P1, rfl, k1, k2, k3, k4, Or.inr ⟨rfl, ?_⟩⟩
      unfold s_trd
      rcases hps with ⟨z1, z2⟩ | ⟨z1, ts, j, z2, z3, z4, z5, z6⟩
      · rw [z2]; rfl
      · have hg0 := (s_at_get z4 (j := 0) (by omega)).1
        rw [Nat.add_zero] at hg0
        rw [z2, Option.bind_some]
        show (if ¬ lkd ts 0 = 7 then none else _) = none
        rw [if_pos (by omega)]
theorem c_O_readTrailerS (Z : xZ) (d : Nat) (q : Nat → Int) (r : Nat → Option Nat) (A : Nat → Nat → Int) (dy : xH) (hd : 37 ≤ d) (t nx mo sz tb lt tr : Int) (P : Nat → Nat → Int) (k : Int) (hk : 1 ≤ k ∧ k ≤ 5) (hT : 0 ≤ q 34 ∧ q 34 ≤ q 35 ∧ q 35 ≤ 10248) (hR : s_okR A) (hB : ∀ j, -128 ≤ A 2 j ∧ A 2 j ≤ 127) (ho : s_ok5 P) (ht : 0 ≤ t ∧ t < 12900 ∧ t + (q 35 - q 363) < 12900) (haw : 0 ≤ q 363 ∧ q 363 ≤ q 35) : xMet Z d Y_O_readTrailer [xC 11, xI k] (hF (x_up (x_up (x_up (x_up (x_up (x_up (x_up q 133 t) 360 nx) 361 mo) 1029 sz) 1030 tb) 1031 lt) 1032 tr) (x_up r 359 (some 32)) (s_pt A P) ++ dy) (fun v0 h2 => ∃ t2 nx2 mo2 sz2 tb2 lt2 tr2 P2, h2 = hF (x_up (x_up (x_up (x_up (x_up (x_up (x_up q 133 t2) 360 nx2) 361 mo2) 1029 sz2) 1030 tb2) 1031 lt2) 1032 tr2) (x_up r 359 (some 32)) (s_pt A P2) ++ dy ∧ s_keep t.toNat P P2 ∧ s_ok5 P2 ∧ t ≤ t2 ∧ t2 ≤ 12900 ∧ ((v0 = some (xI 1) ∧ ∃ y, s_trd (A 2) (q 35) (q 363) (q 362) = some y ∧ (t2 = t ∧ sz2 = sz ∧ tr2 = tr ∧ lt2 = lt) ∧ tb2 = k + 1 ∧ nx2 = y.2.2.getD (-1) ∧ mo2 = x_bo y.2.2.isSome) ∨ (v0 = some (xI 0) ∧ s_trd (A 2) (q 35) (q 363) (q 362) = none))) := by
  refine xMet_of (by decide) (Nat.le_of_ble_eq_true rfl) (fun v0 h2 hq => by obtain ⟨_, _, _, _, _, _, _, _, _, _, _, _, _, ⟨e, _⟩ | ⟨e, _⟩⟩ := hq <;> rw [e]; exact Or.inr rfl; exact Or.inl rfl) ?_
  have hab := s_abyte_in (A 2) (q 35) (q 363) 10
  have hby := s_byte_in (A 2) (q 35) (q 363)
  refine x_aload_n (x_d C_O_readTrailer 0 rfl) rfl ?_
  refine x_getfield (v := xC 4) (x_d C_O_readTrailer 1 rfl) f_O_28 rfl rfl ?_
  refine x_getfield (v := xI (t)) (x_d C_O_readTrailer 2 rfl) f_O_152 rfl rfl ?_
  refine x_istore_n (l1 := [(2, xI (t)), (0, xC 11), (1, xI (k))]) (x_d C_O_readTrailer 3 rfl) (by decide) rfl ?_
  refine x_aload_n (x_d C_O_readTrailer 4 rfl) rfl ?_
  refine x_getfield (v := xC 10) (x_d C_O_readTrailer 5 rfl) f_O_32 rfl rfl ?_
  refine x_aload_n (x_d C_O_readTrailer 6 rfl) rfl ?_
  refine x_getfield (v := xC 1) (x_d C_O_readTrailer 7 rfl) f_O_24 rfl rfl ?_
  refine x_aload_n (x_d C_O_readTrailer 8 rfl) rfl ?_
  refine x_getfield (v := xI (q 363)) (x_d C_O_readTrailer 9 rfl) f_O_119 rfl rfl ?_
  refine x_bipush (x_d C_O_readTrailer 10 rfl) (by omega) ?_
  refine x_invokevirtual (st := [xC 10]) (av := [xI (q 363), xI (10)]) (x_d C_O_readTrailer 11 rfl) k_O_94 m_T_afterByte v_T_afterByte cl_T rfl rfl (Nat.le_of_ble_eq_true rfl) (by omega) rfl (c_T_afterByte Z (d - 1) (x_up (x_up (x_up (x_up (x_up (x_up (x_up q 133 t) 360 nx) 361 mo) 1029 sz) 1030 tb) 1031 lt) 1032 tr) (x_up r 359 (some 32)) (x_up (x_up (x_up (x_up (x_up A 5 (P 5)) 6 (P 6)) 7 (P 7)) 8 (P 8)) 9 (P 9)) dy (by omega) (q 363) 10 hT (by omega)) ?_
  rintro v_ _ ⟨hv_, rfl⟩
  obtain rfl : v_ = some (xI (s_abyte (A 2) (q 35) (q 363) 10)) := hv_
  refine x_iconst (x_d C_O_readTrailer 12 rfl) ⟨by omega, by omega⟩ ?_
  refine x_invokevirtual (st := []) (av := [xI (s_abyte (A 2) (q 35) (q 363) 10), xI (1)]) (x_d C_O_readTrailer 13 rfl) k_O_157 m_R_read v_R_read cl_R rfl rfl (Nat.le_of_ble_eq_true rfl) (by omega) rfl (c_R_read Z (x_up (x_up (x_up (x_up (x_up (x_up q 360 nx) 361 mo) 1029 sz) 1030 tb) 1031 lt) 1032 tr) (x_up r 359 (some 32)) A dy hT hR hB 8 (by omega) (d - 1) t P (s_abyte (A 2) (q 35) (q 363) 10) 1 (by omega) ho (show s_abyte (A 2) (q 35) (q 363) 10 = -1 ∨ (0 ≤ s_abyte (A 2) (q 35) (q 363) 10 ∧ s_abyte (A 2) (q 35) (q 363) 10 ≤ q 35) by omega) (show 0 ≤ t ∧ t < 12900 ∧ (0 ≤ s_abyte (A 2) (q 35) (q 363) 10 → t + (q 35 - s_abyte (A 2) (q 35) (q 363) 10) < 12900) by omega) (by omega)) ?_
  rintro v_ _ ⟨t1, P1, hv_, rfl, hrp⟩
  obtain rfl : v_ = some (xI (s_ps (s_val (A 2) (q 35) 8 (s_abyte (A 2) (q 35) (q 363) 10)))) := hv_
  obtain ⟨k1, k2, k3, k4, k5⟩ := hrp
  have hps : (s_ps (s_val (A 2) (q 35) 8 (s_abyte (A 2) (q 35) (q 363) 10)) = -1 ∧ s_val (A 2) (q 35) 8 (s_abyte (A 2) (q 35) (q 363) 10) = none) ∨ (0 ≤ s_ps (s_val (A 2) (q 35) 8 (s_abyte (A 2) (q 35) (q 363) 10)) ∧ ∃ ts j, s_val (A 2) (q 35) 8 (s_abyte (A 2) (q 35) (q 363) 10) = some (ts, j) ∧ t1 = t + ts.length ∧ s_at P1 t.toNat ts ∧ s_bh (lsp ts) 0 = ts.length ∧ 1 ≤ ts.length) := by
    cases hv : s_val (A 2) (q 35) 8 (s_abyte (A 2) (q 35) (q 363) 10) with
    | none => exact Or.inl ⟨rfl, rfl⟩
    | some y =>
      have g1 := k5 y.1 y.2 hv
      have g2 := s_bh_0 hB hv
      have g3 := s_val_ok (A 2) hB (q 35) 8 _ y.1 y.2 hv
      exact Or.inr ⟨by show 0 ≤ y.2; omega, y.1, y.2, rfl, g1.1, g1.2, g2.1, g2.2⟩
  refine x_istore_n (l1 := [(3, xI (s_ps (s_val (A 2) (q 35) 8 (s_abyte (A 2) (q 35) (q 363) 10)))), (2, xI (t)), (0, xC 11), (1, xI (k))]) (x_d C_O_readTrailer 14 rfl) (by decide) rfl ?_
  refine x_iload_n (x_d C_O_readTrailer 15 rfl) rfl ?_
  refine x_if_lt (tgt := 48) (x_d C_O_readTrailer 16 rfl) rfl (fun c1 => ?_) (fun c1 => ?_)
  · refine x_iconst (x_d C_O_readTrailer 24 rfl) ⟨by omega, by omega⟩ ?_
    refine x_ireturn (x_d C_O_readTrailer 25 rfl) ?_
    refine ⟨t1, nx, mo, sz, tb, lt, tr, P1, rfl, k1, k2, k3, k4, Or.inr ⟨rfl, ?_⟩⟩
    unfold s_trd
    rcases hps with ⟨z1, z2⟩ | ⟨z1, ts, j, z2, z3, z4, z5, z6⟩
    · rw [z2]; rfl
    · have hg0 := (s_at_get z4 (j := 0) (by omega)).1
      rw [Nat.add_zero] at hg0
      rw [z2, Option.bind_some]
      show (if ¬ lkd ts 0 = 7 then none else _) = none
      rw [if_pos (by omega)]
  · refine x_aload_n (x_d C_O_readTrailer 17 rfl) rfl ?_
    refine x_getfield (v := xC 4) (x_d C_O_readTrailer 18 rfl) f_O_28 rfl rfl ?_
    refine x_getfield (v := xC 5) (x_d C_O_readTrailer 19 rfl) f_O_162 rfl rfl ?_
    refine x_iload_n (x_d C_O_readTrailer 20 rfl) rfl ?_
    refine x_iaload (f := P1 5) (x_d C_O_readTrailer 21 rfl) rfl (by omega) (by omega) ?_
    refine x_bipush (x_d C_O_readTrailer 22 rfl) (by omega) ?_
    refine x_icmp_eq (tgt := 50) (x_d C_O_readTrailer 23 rfl) rfl (fun c2 => ?_) (fun c2 => ?_)
    · obtain ⟨hps0, ts, jj, hval, ht1, hat, hbh, hlen⟩ : 0 ≤ s_ps (s_val (A 2) (q 35) 8 (s_abyte (A 2) (q 35) (q 363) 10)) ∧ ∃ ts j, s_val (A 2) (q 35) 8 (s_abyte (A 2) (q 35) (q 363) 10) = some (ts, j) ∧ t1 = t + ts.length ∧ s_at P1 t.toNat ts ∧ s_bh (lsp ts) 0 = ts.length ∧ 1 ≤ ts.length := by rcases hps with ⟨z, _⟩ | z; omega; exact z
      clear hps
      have hg0 := (s_at_get hat (j := 0) (by omega)).1
      rw [Nat.add_zero] at hg0
      refine x_aload_n (x_d C_O_readTrailer 26 rfl) rfl ?_
      refine x_getfield (v := xC 4) (x_d C_O_readTrailer 27 rfl) f_O_28 rfl rfl ?_
      refine x_iload_n (x_d C_O_readTrailer 28 rfl) rfl ?_
      refine x_ldcS (i := 14) (x_d C_O_readTrailer 29 rfl) rfl ?_
      refine x_invokevirtual (st := []) (av := [xI (t), xS (29)]) (x_d C_O_readTrailer 30 rfl) k_O_167 m_P_named v_P_named cl_P rfl rfl (Nat.le_of_ble_eq_true rfl) (by omega) rfl (c_P_named Z (d - 1) (x_up (x_up (x_up (x_up (x_up (x_up (x_up q 133 t1) 360 nx) 361 mo) 1029 sz) 1030 tb) 1031 lt) 1032 tr) (x_up r 359 (some 32)) (x_up (x_up (x_up (x_up (x_up A 5 (P1 5)) 6 (P1 6)) 7 (P1 7)) 8 (P1 8)) 9 (P1 9)) dy (by omega) (i := 14) rfl t hT hR k2.1 (show 0 ≤ t ∧ t < 12900 ∧ s_bh (P1 8) t ≤ 12900 by have e := s_bh_at hat hbh (by omega) (by omega); omega)) ?_
      rintro v_ _ ⟨hv_, rfl⟩
      have ea := s_nam_sh (sp := P1 8) (nm := P1 9) (sp2 := lsp ts) (nm2 := lnm ts) (b := A 2) (n := q 35) (p := t) (cs := [83, 105, 122, 101]) (by omega) (fun j hj => ⟨(s_at_get hat (j := j) (by omega)).2.2.2.1, (s_at_get hat (j := j) (by omega)).2.2.2.2⟩)
      obtain ⟨a0, ha0⟩ : ∃ z, z = s_nam (lsp ts) (lnm ts) (A 2) (q 35) 0 [83, 105, 122, 101] := ⟨_, rfl⟩
      rw [← ha0] at ea
      have ha1 := s_nam_in (lsp ts) (lnm ts) (A 2) (q 35) [83, 105, 122, 101]
      rw [← ha0, hbh] at ha1
      obtain ⟨a, ha⟩ : ∃ z, z = s_nam (P1 8) (P1 9) (A 2) (q 35) t [83, 105, 122, 101] := ⟨_, rfl⟩
      rw [← ha] at ea
      obtain rfl : v_ = some (xI a) := by rw [ha]; exact hv_
      have ha2 : (a = -1 ∧ a0 = -1) ∨ (a = t + a0 ∧ 0 < a0 ∧ a0 < ts.length ∧ P1 5 a.toNat = lkd ts a0.toNat ∧ P1 6 a.toNat = lon ts a0.toNat) := by
        rcases ha1 with z | z
        · left; rw [if_pos (by omega)] at ea; exact ⟨ea, z⟩
        · right; rw [if_neg (by omega)] at ea; have g := s_at_get hat (j := a0.toNat) (by omega); rw [show t.toNat + a0.toNat = a.toNat by omega] at g; exact ⟨ea, z.1, z.2, g.1, g.2.1⟩
      refine x_istore (l1 := [(4, xI (a)), (3, xI (s_ps (s_val (A 2) (q 35) 8 (s_abyte (A 2) (q 35) (q 363) 10)))), (2, xI (t)), (0, xC 11), (1, xI (k))]) (x_d C_O_readTrailer 31 rfl) (by decide) rfl ?_
      refine x_aload_n (x_d C_O_readTrailer 32 rfl) rfl ?_
      refine x_getfield (v := xC 4) (x_d C_O_readTrailer 33 rfl) f_O_28 rfl rfl ?_
      refine x_iload_n (x_d C_O_readTrailer 34 rfl) rfl ?_
      refine x_ldcS (i := 15) (x_d C_O_readTrailer 35 rfl) rfl ?_
      refine x_invokevirtual (st := []) (av := [xI (t), xS (31)]) (x_d C_O_readTrailer 36 rfl) k_O_167 m_P_named v_P_named cl_P rfl rfl (Nat.le_of_ble_eq_true rfl) (by omega) rfl (c_P_named Z (d - 1) (x_up (x_up (x_up (x_up (x_up (x_up (x_up q 133 t1) 360 nx) 361 mo) 1029 sz) 1030 tb) 1031 lt) 1032 tr) (x_up r 359 (some 32)) (x_up (x_up (x_up (x_up (x_up A 5 (P1 5)) 6 (P1 6)) 7 (P1 7)) 8 (P1 8)) 9 (P1 9)) dy (by omega) (i := 15) rfl t hT hR k2.1 (show 0 ≤ t ∧ t < 12900 ∧ s_bh (P1 8) t ≤ 12900 by have e := s_bh_at hat hbh (by omega) (by omega); omega)) ?_
      rintro v_ _ ⟨hv_, rfl⟩
      have ec := s_nam_sh (sp := P1 8) (nm := P1 9) (sp2 := lsp ts) (nm2 := lnm ts) (b := A 2) (n := q 35) (p := t) (cs := [80, 114, 101, 118]) (by omega) (fun j hj => ⟨(s_at_get hat (j := j) (by omega)).2.2.2.1, (s_at_get hat (j := j) (by omega)).2.2.2.2⟩)
      obtain ⟨c0, hc0⟩ : ∃ z, z = s_nam (lsp ts) (lnm ts) (A 2) (q 35) 0 [80, 114, 101, 118] := ⟨_, rfl⟩
      rw [← hc0] at ec
      have hc1 := s_nam_in (lsp ts) (lnm ts) (A 2) (q 35) [80, 114, 101, 118]
      rw [← hc0, hbh] at hc1
      obtain ⟨c, hc⟩ : ∃ z, z = s_nam (P1 8) (P1 9) (A 2) (q 35) t [80, 114, 101, 118] := ⟨_, rfl⟩
      rw [← hc] at ec
      obtain rfl : v_ = some (xI c) := by rw [hc]; exact hv_
      have hc2 : (c = -1 ∧ c0 = -1) ∨ (c = t + c0 ∧ 0 < c0 ∧ c0 < ts.length ∧ P1 5 c.toNat = lkd ts c0.toNat ∧ P1 6 c.toNat = lon ts c0.toNat) := by
        rcases hc1 with z | z
        · left; rw [if_pos (by omega)] at ec; exact ⟨ec, z⟩
        · right; rw [if_neg (by omega)] at ec; have g := s_at_get hat (j := c0.toNat) (by omega); rw [show t.toNat + c0.toNat = c.toNat by omega] at g; exact ⟨ec, z.1, z.2, g.1, g.2.1⟩
      refine x_istore (l1 := [(5, xI (c)), (4, xI (a)), (3, xI (s_ps (s_val (A 2) (q 35) 8 (s_abyte (A 2) (q 35) (q 363) 10)))), (2, xI (t)), (0, xC 11), (1, xI (k))]) (x_d C_O_readTrailer 37 rfl) (by decide) rfl ?_
      refine x_iload (x_d C_O_readTrailer 38 rfl) rfl ?_
      refine x_if_lt (tgt := 112) (x_d C_O_readTrailer 39 rfl) rfl (fun c3 => ?_) (fun c3 => ?_)
      · refine x_iconst (x_d C_O_readTrailer 56 rfl) ⟨by omega, by omega⟩ ?_
        refine x_ireturn (x_d C_O_readTrailer 57 rfl) ?_
        refine ⟨t1, nx, mo, sz, tb, lt, tr, P1, rfl, k1, k2, k3, k4, Or.inr ⟨rfl, ?_⟩⟩
        unfold s_trd
        rw [hval, Option.bind_some]
        show (if ¬ lkd ts 0 = 7 then none else if s_nam (lsp ts) (lnm ts) (A 2) (q 35) 0 [83, 105, 122, 101] < 0 ∨ ¬ lkd ts (s_nam (lsp ts) (lnm ts) (A 2) (q 35) 0 [83, 105, 122, 101]).toNat = 3 ∨ (0 ≤ s_nam (lsp ts) (lnm ts) (A 2) (q 35) 0 [80, 114, 101, 118] ∧ ¬ lkd ts (s_nam (lsp ts) (lnm ts) (A 2) (q 35) 0 [80, 114, 101, 118]).toNat = 3) then none else if lon ts (s_nam (lsp ts) (lnm ts) (A 2) (q 35) 0 [83, 105, 122, 101]).toNat < 1 ∨ 300 < lon ts (s_nam (lsp ts) (lnm ts) (A 2) (q 35) 0 [83, 105, 122, 101]).toNat ∨ lon ts (s_nam (lsp ts) (lnm ts) (A 2) (q 35) 0 [83, 105, 122, 101]).toNat ≤ q 362 then none else _) = none
        rw [← ha0, ← hc0, if_neg (by omega)]
        first | rw [if_pos (by omega)] | rw [if_neg (by omega), if_pos (by omega)]
      · refine x_aload_n (x_d C_O_readTrailer 40 rfl) rfl ?_
        refine x_getfield (v := xC 4) (x_d C_O_readTrailer 41 rfl) f_O_28 rfl rfl ?_
        refine x_getfield (v := xC 5) (x_d C_O_readTrailer 42 rfl) f_O_162 rfl rfl ?_
        refine x_iload (x_d C_O_readTrailer 43 rfl) rfl ?_
        refine x_iaload (f := P1 5) (x_d C_O_readTrailer 44 rfl) rfl (by omega) (by omega) ?_
        refine x_iconst (x_d C_O_readTrailer 45 rfl) ⟨by omega, by omega⟩ ?_
        refine x_icmp_ne (tgt := 112) (x_d C_O_readTrailer 46 rfl) rfl (fun c4 => ?_) (fun c4 => ?_)
        · refine x_iconst (x_d C_O_readTrailer 56 rfl) ⟨by omega, by omega⟩ ?_
          refine x_ireturn (x_d C_O_readTrailer 57 rfl) ?_
          refine ⟨t1, nx, mo, sz, tb, lt, tr, P1, rfl, k1, k2, k3, k4, Or.inr ⟨rfl, ?_⟩⟩
          unfold s_trd
          rw [hval, Option.bind_some]
          show (if ¬ lkd ts 0 = 7 then none else if s_nam (lsp ts) (lnm ts) (A 2) (q 35) 0 [83, 105, 122, 101] < 0 ∨ ¬ lkd ts (s_nam (lsp ts) (lnm ts) (A 2) (q 35) 0 [83, 105, 122, 101]).toNat = 3 ∨ (0 ≤ s_nam (lsp ts) (lnm ts) (A 2) (q 35) 0 [80, 114, 101, 118] ∧ ¬ lkd ts (s_nam (lsp ts) (lnm ts) (A 2) (q 35) 0 [80, 114, 101, 118]).toNat = 3) then none else if lon ts (s_nam (lsp ts) (lnm ts) (A 2) (q 35) 0 [83, 105, 122, 101]).toNat < 1 ∨ 300 < lon ts (s_nam (lsp ts) (lnm ts) (A 2) (q 35) 0 [83, 105, 122, 101]).toNat ∨ lon ts (s_nam (lsp ts) (lnm ts) (A 2) (q 35) 0 [83, 105, 122, 101]).toNat ≤ q 362 then none else _) = none
          rw [← ha0, ← hc0, if_neg (by omega)]
          first | rw [if_pos (by omega)] | rw [if_neg (by omega), if_pos (by omega)]
        · refine x_iload (x_d C_O_readTrailer 47 rfl) rfl ?_
          refine x_if_lt (tgt := 114) (x_d C_O_readTrailer 48 rfl) rfl (fun c5 => ?_) (fun c5 => ?_)
          · refine x_aload_n (x_d C_O_readTrailer 58 rfl) rfl ?_
            refine x_getfield (v := xC 4) (x_d C_O_readTrailer 59 rfl) f_O_28 rfl rfl ?_
            refine x_getfield (v := xC 6) (x_d C_O_readTrailer 60 rfl) f_O_172 rfl rfl ?_
            refine x_iload (x_d C_O_readTrailer 61 rfl) rfl ?_
            refine x_iaload (f := P1 6) (x_d C_O_readTrailer 62 rfl) rfl (by omega) (by omega) ?_
            refine x_istore (l1 := [(6, xI ((P1 6) (a).toNat)), (5, xI (c)), (4, xI (a)), (3, xI (s_ps (s_val (A 2) (q 35) 8 (s_abyte (A 2) (q 35) (q 363) 10)))), (2, xI (t)), (0, xC 11), (1, xI (k))]) (x_d C_O_readTrailer 63 rfl) (by decide) rfl ?_
            refine x_iload (x_d C_O_readTrailer 64 rfl) rfl ?_
            refine x_iconst (x_d C_O_readTrailer 65 rfl) ⟨by omega, by omega⟩ ?_
            refine x_icmp_lt (tgt := 149) (x_d C_O_readTrailer 66 rfl) rfl (fun c6 => ?_) (fun c6 => ?_)
            · refine x_iconst (x_d C_O_readTrailer 74 rfl) ⟨by omega, by omega⟩ ?_
              refine x_ireturn (x_d C_O_readTrailer 75 rfl) ?_
              refine ⟨t1, nx, mo, sz, tb, lt, tr, P1, rfl, k1, k2, k3, k4, Or.inr ⟨rfl, ?_⟩⟩
              unfold s_trd
              rw [hval, Option.bind_some]
              show (if ¬ lkd ts 0 = 7 then none else if s_nam (lsp ts) (lnm ts) (A 2) (q 35) 0 [83, 105, 122, 101] < 0 ∨ ¬ lkd ts (s_nam (lsp ts) (lnm ts) (A 2) (q 35) 0 [83, 105, 122, 101]).toNat = 3 ∨ (0 ≤ s_nam (lsp ts) (lnm ts) (A 2) (q 35) 0 [80, 114, 101, 118] ∧ ¬ lkd ts (s_nam (lsp ts) (lnm ts) (A 2) (q 35) 0 [80, 114, 101, 118]).toNat = 3) then none else if lon ts (s_nam (lsp ts) (lnm ts) (A 2) (q 35) 0 [83, 105, 122, 101]).toNat < 1 ∨ 300 < lon ts (s_nam (lsp ts) (lnm ts) (A 2) (q 35) 0 [83, 105, 122, 101]).toNat ∨ lon ts (s_nam (lsp ts) (lnm ts) (A 2) (q 35) 0 [83, 105, 122, 101]).toNat ≤ q 362 then none else _) = none
              rw [← ha0, ← hc0, if_neg (by omega)]
              first | rw [if_pos (by omega)] | rw [if_neg (by omega), if_pos (by omega)]
            · refine x_iload (x_d C_O_readTrailer 67 rfl) rfl ?_
              refine x_sipush (x_d C_O_readTrailer 68 rfl) (by omega) ?_
              refine x_icmp_gt (tgt := 149) (x_d C_O_readTrailer 69 rfl) rfl (fun c7 => ?_) (fun c7 => ?_)
              · refine x_iconst (x_d C_O_readTrailer 74 rfl) ⟨by omega, by omega⟩ ?_
                refine x_ireturn (x_d C_O_readTrailer 75 rfl) ?_
                refine ⟨t1, nx, mo, sz, tb, lt, tr, P1, rfl, k1, k2, k3, k4, Or.inr ⟨rfl, ?_⟩⟩
                unfold s_trd
                rw [hval, Option.bind_some]
                show (if ¬ lkd ts 0 = 7 then none else if s_nam (lsp ts) (lnm ts) (A 2) (q 35) 0 [83, 105, 122, 101] < 0 ∨ ¬ lkd ts (s_nam (lsp ts) (lnm ts) (A 2) (q 35) 0 [83, 105, 122, 101]).toNat = 3 ∨ (0 ≤ s_nam (lsp ts) (lnm ts) (A 2) (q 35) 0 [80, 114, 101, 118] ∧ ¬ lkd ts (s_nam (lsp ts) (lnm ts) (A 2) (q 35) 0 [80, 114, 101, 118]).toNat = 3) then none else if lon ts (s_nam (lsp ts) (lnm ts) (A 2) (q 35) 0 [83, 105, 122, 101]).toNat < 1 ∨ 300 < lon ts (s_nam (lsp ts) (lnm ts) (A 2) (q 35) 0 [83, 105, 122, 101]).toNat ∨ lon ts (s_nam (lsp ts) (lnm ts) (A 2) (q 35) 0 [83, 105, 122, 101]).toNat ≤ q 362 then none else _) = none
                rw [← ha0, ← hc0, if_neg (by omega)]
                first | rw [if_pos (by omega)] | rw [if_neg (by omega), if_pos (by omega)]
              · refine x_aload_n (x_d C_O_readTrailer 70 rfl) rfl ?_
                refine x_getfield (v := xI (q 362)) (x_d C_O_readTrailer 71 rfl) f_O_106 rfl rfl ?_
                refine x_iload (x_d C_O_readTrailer 72 rfl) rfl ?_
                refine x_icmp_lt (tgt := 151) (x_d C_O_readTrailer 73 rfl) rfl (fun c8 => ?_) (fun c8 => ?_)
                · refine x_aload_n (x_d C_O_readTrailer 76 rfl) rfl ?_
                  refine x_iload (x_d C_O_readTrailer 77 rfl) rfl ?_
                  refine x_if_lt (tgt := 161) (x_d C_O_readTrailer 78 rfl) rfl (fun c9 => ?_) (fun c9 => ?_)
                  · refine x_iconst (x_d C_O_readTrailer 81 rfl) ⟨by omega, by omega⟩ ?_
                    refine x_putfield (h1 := hF (x_up (x_up (x_up (x_up (x_up (x_up (x_up q 133 t1) 360 nx) 1029 sz) 1030 tb) 1031 lt) 1032 tr) 361 0) (x_up r 359 (some 32)) (x_up (x_up (x_up (x_up (x_up A 5 (P1 5)) 6 (P1 6)) 7 (P1 7)) 8 (P1 8)) 9 (P1 9)) ++ dy) (x_d C_O_readTrailer 82 rfl) p_O_79 rfl rfl rfl (by first | exact Or.inl rfl | exact Or.inr rfl) rfl ?_
                    refine x_aload_n (x_d C_O_readTrailer 83 rfl) rfl ?_
                    refine x_aload_n (x_d C_O_readTrailer 84 rfl) rfl ?_
                    refine x_getfield (v := xI (0)) (x_d C_O_readTrailer 85 rfl) f_O_79 rfl rfl ?_
                    refine x_if_eq (tgt := 186) (x_d C_O_readTrailer 86 rfl) rfl (fun _ => ?_) (fun q => absurd q (by omega))
                    refine x_iconst (x_d C_O_readTrailer 93 rfl) ⟨by omega, by omega⟩ ?_
                    refine x_putfield (h1 := hF (x_up (x_up (x_up (x_up (x_up (x_up (x_up q 133 t1) 1029 sz) 1030 tb) 1031 lt) 1032 tr) 361 0) 360 (-1)) (x_up r 359 (some 32)) (x_up (x_up (x_up (x_up (x_up A 5 (P1 5)) 6 (P1 6)) 7 (P1 7)) 8 (P1 8)) 9 (P1 9)) ++ dy) (x_d C_O_readTrailer 94 rfl) p_O_69 rfl rfl rfl trivial rfl ?_
                    refine x_aload_n (x_d C_O_readTrailer 95 rfl) rfl ?_
                    refine x_getfield (v := xC 32) (x_d C_O_readTrailer 96 rfl) f_O_36 rfl rfl ?_
                    refine x_iload_n (x_d C_O_readTrailer 97 rfl) rfl ?_
                    refine x_iconst (x_d C_O_readTrailer 98 rfl) ⟨by omega, by omega⟩ ?_
                    refine x_iadd (x_d C_O_readTrailer 99 rfl) ⟨by omega, by omega⟩ ?_
                    refine x_putfield (h1 := hF (x_up (x_up (x_up (x_up (x_up (x_up (x_up q 133 t1) 1029 sz) 1031 lt) 1032 tr) 361 0) 360 (-1)) 1030 (k + 1)) (x_up r 359 (some 32)) (x_up (x_up (x_up (x_up (x_up A 5 (P1 5)) 6 (P1 6)) 7 (P1 7)) 8 (P1 8)) 9 (P1 9)) ++ dy) (x_d C_O_readTrailer 100 rfl) p_O_175 rfl rfl rfl trivial rfl ?_
                    refine x_iload_n (x_d C_O_readTrailer 101 rfl) rfl ?_
                    refine x_if_ne (tgt := 237) (x_d C_O_readTrailer 102 rfl) rfl (fun _ => ?_) (fun q => absurd q (by omega))
                    refine x_aload_n (x_d C_O_readTrailer 119 rfl) rfl ?_
                    refine x_getfield (v := xC 4) (x_d C_O_readTrailer 120 rfl) f_O_28 rfl rfl ?_
                    refine x_iload_n (x_d C_O_readTrailer 121 rfl) rfl ?_
                    refine x_putfield (h1 := hF (x_up (x_up (x_up (x_up (x_up (x_up (x_up q 1029 sz) 1031 lt) 1032 tr) 361 0) 360 (-1)) 1030 (k + 1)) 133 t) (x_up r 359 (some 32)) (x_up (x_up (x_up (x_up (x_up A 5 (P1 5)) 6 (P1 6)) 7 (P1 7)) 8 (P1 8)) 9 (P1 9)) ++ dy) (x_d C_O_readTrailer 122 rfl) p_O_152 rfl rfl rfl trivial rfl ?_
                    refine x_iconst (x_d C_O_readTrailer 123 rfl) ⟨by omega, by omega⟩ ?_
                    refine x_ireturn (x_d C_O_readTrailer 124 rfl) ?_
                    refine ⟨t, -1, 0, sz, k + 1, lt, tr, P1, rfl, k1, k2, by omega, by omega, Or.inl ⟨rfl, (ts, lon ts a0.toNat, none), ?_, ?_, rfl, ?_, rfl⟩⟩
                    · unfold s_trd
                      rw [hval, Option.bind_some]
                      show (if ¬ lkd ts 0 = 7 then none else if s_nam (lsp ts) (lnm ts) (A 2) (q 35) 0 [83, 105, 122, 101] < 0 ∨ ¬ lkd ts (s_nam (lsp ts) (lnm ts) (A 2) (q 35) 0 [83, 105, 122, 101]).toNat = 3 ∨ (0 ≤ s_nam (lsp ts) (lnm ts) (A 2) (q 35) 0 [80, 114, 101, 118] ∧ ¬ lkd ts (s_nam (lsp ts) (lnm ts) (A 2) (q 35) 0 [80, 114, 101, 118]).toNat = 3) then none else if lon ts (s_nam (lsp ts) (lnm ts) (A 2) (q 35) 0 [83, 105, 122, 101]).toNat < 1 ∨ 300 < lon ts (s_nam (lsp ts) (lnm ts) (A 2) (q 35) 0 [83, 105, 122, 101]).toNat ∨ lon ts (s_nam (lsp ts) (lnm ts) (A 2) (q 35) 0 [83, 105, 122, 101]).toNat ≤ q 362 then none else some (ts, lon ts (s_nam (lsp ts) (lnm ts) (A 2) (q 35) 0 [83, 105, 122, 101]).toNat, if s_nam (lsp ts) (lnm ts) (A 2) (q 35) 0 [80, 114, 101, 118] < 0 then none else some (lon ts (s_nam (lsp ts) (lnm ts) (A 2) (q 35) 0 [80, 114, 101, 118]).toNat))) = _
                      rw [← ha0, ← hc0, if_neg (by omega), if_neg (by omega), if_neg (by omega), if_pos (by omega)]
                    · exact ⟨rfl, rfl, rfl, rfl⟩
                    · rfl
                  · refine x_iconst (x_d C_O_readTrailer 79 rfl) ⟨by omega, by omega⟩ ?_
                    refine x_goto (tgt := 162) (x_d C_O_readTrailer 80 rfl) rfl ?_
                    refine x_putfield (h1 := hF (x_up (x_up (x_up (x_up (x_up (x_up (x_up q 133 t1) 360 nx) 1029 sz) 1030 tb) 1031 lt) 1032 tr) 361 1) (x_up r 359 (some 32)) (x_up (x_up (x_up (x_up (x_up A 5 (P1 5)) 6 (P1 6)) 7 (P1 7)) 8 (P1 8)) 9 (P1 9)) ++ dy) (x_d C_O_readTrailer 82 rfl) p_O_79 rfl rfl rfl (by first | exact Or.inl rfl | exact Or.inr rfl) rfl ?_
                    refine x_aload_n (x_d C_O_readTrailer 83 rfl) rfl ?_
                    refine x_aload_n (x_d C_O_readTrailer 84 rfl) rfl ?_
                    refine x_getfield (v := xI (1)) (x_d C_O_readTrailer 85 rfl) f_O_79 rfl rfl ?_
                    refine x_if_eq (tgt := 186) (x_d C_O_readTrailer 86 rfl) rfl (fun q => absurd q (by omega)) (fun _ => ?_)
                    refine x_aload_n (x_d C_O_readTrailer 87 rfl) rfl ?_
                    refine x_getfield (v := xC 4) (x_d C_O_readTrailer 88 rfl) f_O_28 rfl rfl ?_
                    refine x_getfield (v := xC 6) (x_d C_O_readTrailer 89 rfl) f_O_172 rfl rfl ?_
                    refine x_iload (x_d C_O_readTrailer 90 rfl) rfl ?_
                    refine x_iaload (f := P1 6) (x_d C_O_readTrailer 91 rfl) rfl (by omega) (by omega) ?_
                    refine x_goto (tgt := 187) (x_d C_O_readTrailer 92 rfl) rfl ?_
                    refine x_putfield (h1 := hF (x_up (x_up (x_up (x_up (x_up (x_up (x_up q 133 t1) 1029 sz) 1030 tb) 1031 lt) 1032 tr) 361 1) 360 ((P1 6) (c).toNat)) (x_up r 359 (some 32)) (x_up (x_up (x_up (x_up (x_up A 5 (P1 5)) 6 (P1 6)) 7 (P1 7)) 8 (P1 8)) 9 (P1 9)) ++ dy) (x_d C_O_readTrailer 94 rfl) p_O_69 rfl rfl rfl trivial rfl ?_
                    refine x_aload_n (x_d C_O_readTrailer 95 rfl) rfl ?_
                    refine x_getfield (v := xC 32) (x_d C_O_readTrailer 96 rfl) f_O_36 rfl rfl ?_
                    refine x_iload_n (x_d C_O_readTrailer 97 rfl) rfl ?_
                    refine x_iconst (x_d C_O_readTrailer 98 rfl) ⟨by omega, by omega⟩ ?_
                    refine x_iadd (x_d C_O_readTrailer 99 rfl) ⟨by omega, by omega⟩ ?_
                    refine x_putfield (h1 := hF (x_up (x_up (x_up (x_up (x_up (x_up (x_up q 133 t1) 1029 sz) 1031 lt) 1032 tr) 361 1) 360 ((P1 6) (c).toNat)) 1030 (k + 1)) (x_up r 359 (some 32)) (x_up (x_up (x_up (x_up (x_up A 5 (P1 5)) 6 (P1 6)) 7 (P1 7)) 8 (P1 8)) 9 (P1 9)) ++ dy) (x_d C_O_readTrailer 100 rfl) p_O_175 rfl rfl rfl trivial rfl ?_
                    refine x_iload_n (x_d C_O_readTrailer 101 rfl) rfl ?_
                    refine x_if_ne (tgt := 237) (x_d C_O_readTrailer 102 rfl) rfl (fun _ => ?_) (fun q => absurd q (by omega))
                    refine x_aload_n (x_d C_O_readTrailer 119 rfl) rfl ?_
                    refine x_getfield (v := xC 4) (x_d C_O_readTrailer 120 rfl) f_O_28 rfl rfl ?_
                    refine x_iload_n (x_d C_O_readTrailer 121 rfl) rfl ?_
                    refine x_putfield (h1 := hF (x_up (x_up (x_up (x_up (x_up (x_up (x_up q 1029 sz) 1031 lt) 1032 tr) 361 1) 360 ((P1 6) (c).toNat)) 1030 (k + 1)) 133 t) (x_up r 359 (some 32)) (x_up (x_up (x_up (x_up (x_up A 5 (P1 5)) 6 (P1 6)) 7 (P1 7)) 8 (P1 8)) 9 (P1 9)) ++ dy) (x_d C_O_readTrailer 122 rfl) p_O_152 rfl rfl rfl trivial rfl ?_
                    refine x_iconst (x_d C_O_readTrailer 123 rfl) ⟨by omega, by omega⟩ ?_
                    refine x_ireturn (x_d C_O_readTrailer 124 rfl) ?_
                    refine ⟨t, (P1 6) (c).toNat, 1, sz, k + 1, lt, tr, P1, rfl, k1, k2, by omega, by omega, Or.inl ⟨rfl, (ts, lon ts a0.toNat, some (lon ts c0.toNat)), ?_, ?_, rfl, ?_, rfl⟩⟩
                    · unfold s_trd
                      rw [hval, Option.bind_some]
                      show (if ¬ lkd ts 0 = 7 then none else if s_nam (lsp ts) (lnm ts) (A 2) (q 35) 0 [83, 105, 122, 101] < 0 ∨ ¬ lkd ts (s_nam (lsp ts) (lnm ts) (A 2) (q 35) 0 [83, 105, 122, 101]).toNat = 3 ∨ (0 ≤ s_nam (lsp ts) (lnm ts) (A 2) (q 35) 0 [80, 114, 101, 118] ∧ ¬ lkd ts (s_nam (lsp ts) (lnm ts) (A 2) (q 35) 0 [80, 114, 101, 118]).toNat = 3) then none else if lon ts (s_nam (lsp ts) (lnm ts) (A 2) (q 35) 0 [83, 105, 122, 101]).toNat < 1 ∨ 300 < lon ts (s_nam (lsp ts) (lnm ts) (A 2) (q 35) 0 [83, 105, 122, 101]).toNat ∨ lon ts (s_nam (lsp ts) (lnm ts) (A 2) (q 35) 0 [83, 105, 122, 101]).toNat ≤ q 362 then none else some (ts, lon ts (s_nam (lsp ts) (lnm ts) (A 2) (q 35) 0 [83, 105, 122, 101]).toNat, if s_nam (lsp ts) (lnm ts) (A 2) (q 35) 0 [80, 114, 101, 118] < 0 then none else some (lon ts (s_nam (lsp ts) (lnm ts) (A 2) (q 35) 0 [80, 114, 101, 118]).toNat))) = _
                      rw [← ha0, ← hc0, if_neg (by omega), if_neg (by omega), if_neg (by omega), if_neg (by omega)]
                    · exact ⟨rfl, rfl, rfl, rfl⟩
                    · show _ = lon ts c0.toNat; omega
                · refine x_iconst (x_d C_O_readTrailer 74 rfl) ⟨by omega, by omega⟩ ?_
                  refine x_ireturn (x_d C_O_readTrailer 75 rfl) ?_
                  refine ⟨t1, nx, mo, sz, tb, lt, tr, P1, rfl, k1, k2, k3, k4, Or.inr ⟨rfl, ?_⟩⟩
                  unfold s_trd
                  rw [hval, Option.bind_some]
                  show (if ¬ lkd ts 0 = 7 then none else if s_nam (lsp ts) (lnm ts) (A 2) (q 35) 0 [83, 105, 122, 101] < 0 ∨ ¬ lkd ts (s_nam (lsp ts) (lnm ts) (A 2) (q 35) 0 [83, 105, 122, 101]).toNat = 3 ∨ (0 ≤ s_nam (lsp ts) (lnm ts) (A 2) (q 35) 0 [80, 114, 101, 118] ∧ ¬ lkd ts (s_nam (lsp ts) (lnm ts) (A 2) (q 35) 0 [80, 114, 101, 118]).toNat = 3) then none else if lon ts (s_nam (lsp ts) (lnm ts) (A 2) (q 35) 0 [83, 105, 122, 101]).toNat < 1 ∨ 300 < lon ts (s_nam (lsp ts) (lnm ts) (A 2) (q 35) 0 [83, 105, 122, 101]).toNat ∨ lon ts (s_nam (lsp ts) (lnm ts) (A 2) (q 35) 0 [83, 105, 122, 101]).toNat ≤ q 362 then none else _) = none
                  rw [← ha0, ← hc0, if_neg (by omega)]
                  first | rw [if_pos (by omega)] | rw [if_neg (by omega), if_pos (by omega)]
          · refine x_aload_n (x_d C_O_readTrailer 49 rfl) rfl ?_
            refine x_getfield (v := xC 4) (x_d C_O_readTrailer 50 rfl) f_O_28 rfl rfl ?_
            refine x_getfield (v := xC 5) (x_d C_O_readTrailer 51 rfl) f_O_162 rfl rfl ?_
            refine x_iload (x_d C_O_readTrailer 52 rfl) rfl ?_
            refine x_iaload (f := P1 5) (x_d C_O_readTrailer 53 rfl) rfl (by omega) (by omega) ?_
            refine x_iconst (x_d C_O_readTrailer 54 rfl) ⟨by omega, by omega⟩ ?_
            refine x_icmp_eq (tgt := 114) (x_d C_O_readTrailer 55 rfl) rfl (fun c14 => ?_) (fun c14 => ?_)
            · refine x_aload_n (x_d C_O_readTrailer 58 rfl) rfl ?_
              refine x_getfield (v := xC 4) (x_d C_O_readTrailer 59 rfl) f_O_28 rfl rfl ?_
              refine x_getfield (v := xC 6) (x_d C_O_readTrailer 60 rfl) f_O_172 rfl rfl ?_
              refine x_iload (x_d C_O_readTrailer 61 rfl) rfl ?_
              refine x_iaload (f := P1 6) (x_d C_O_readTrailer 62 rfl) rfl (by omega) (by omega) ?_
              refine x_istore (l1 := [(6, xI ((P1 6) (a).toNat)), (5, xI (c)), (4, xI (a)), (3, xI (s_ps (s_val (A 2) (q 35) 8 (s_abyte (A 2) (q 35) (q 363) 10)))), (2, xI (t)), (0, xC 11), (1, xI (k))]) (x_d C_O_readTrailer 63 rfl) (by decide) rfl ?_
              refine x_iload (x_d C_O_readTrailer 64 rfl) rfl ?_
              refine x_iconst (x_d C_O_readTrailer 65 rfl) ⟨by omega, by omega⟩ ?_
              refine x_icmp_lt (tgt := 149) (x_d C_O_readTrailer 66 rfl) rfl (fun c15 => ?_) (fun c15 => ?_)
              · refine x_iconst (x_d C_O_readTrailer 74 rfl) ⟨by omega, by omega⟩ ?_
                refine x_ireturn (x_d C_O_readTrailer 75 rfl) ?_
                refine ⟨t1, nx, mo, sz, tb, lt, tr, P1, rfl, k1, k2, k3, k4, Or.inr ⟨rfl, ?_⟩⟩
                unfold s_trd
                rw [hval, Option.bind_some]
                show (if ¬ lkd ts 0 = 7 then none else if s_nam (lsp ts) (lnm ts) (A 2) (q 35) 0 [83, 105, 122, 101] < 0 ∨ ¬ lkd ts (s_nam (lsp ts) (lnm ts) (A 2) (q 35) 0 [83, 105, 122, 101]).toNat = 3 ∨ (0 ≤ s_nam (lsp ts) (lnm ts) (A 2) (q 35) 0 [80, 114, 101, 118] ∧ ¬ lkd ts (s_nam (lsp ts) (lnm ts) (A 2) (q 35) 0 [80, 114, 101, 118]).toNat = 3) then none else if lon ts (s_nam (lsp ts) (lnm ts) (A 2) (q 35) 0 [83, 105, 122, 101]).toNat < 1 ∨ 300 < lon ts (s_nam (lsp ts) (lnm ts) (A 2) (q 35) 0 [83, 105, 122, 101]).toNat ∨ lon ts (s_nam (lsp ts) (lnm ts) (A 2) (q 35) 0 [83, 105, 122, 101]).toNat ≤ q 362 then none else _) = none
                rw [← ha0, ← hc0, if_neg (by omega)]
                first | rw [if_pos (by omega)] | rw [if_neg (by omega), if_pos (by omega)]
              · refine x_iload (x_d C_O_readTrailer 67 rfl) rfl ?_
                refine x_sipush (x_d C_O_readTrailer 68 rfl) (by omega) ?_
                refine x_icmp_gt (tgt := 149) (x_d C_O_readTrailer 69 rfl) rfl (fun c16 => ?_) (fun c16 => ?_)
                · refine x_iconst (x_d C_O_readTrailer 74 rfl) ⟨by omega, by omega⟩ ?_
                  refine x_ireturn (x_d C_O_readTrailer 75 rfl) ?_
                  refine ⟨t1, nx, mo, sz, tb, lt, tr, P1, rfl, k1, k2, k3, k4, Or.inr ⟨rfl, ?_⟩⟩
                  unfold s_trd
                  rw [hval, Option.bind_some]
                  show (if ¬ lkd ts 0 = 7 then none else if s_nam (lsp ts) (lnm ts) (A 2) (q 35) 0 [83, 105, 122, 101] < 0 ∨ ¬ lkd ts (s_nam (lsp ts) (lnm ts) (A 2) (q 35) 0 [83, 105, 122, 101]).toNat = 3 ∨ (0 ≤ s_nam (lsp ts) (lnm ts) (A 2) (q 35) 0 [80, 114, 101, 118] ∧ ¬ lkd ts (s_nam (lsp ts) (lnm ts) (A 2) (q 35) 0 [80, 114, 101, 118]).toNat = 3) then none else if lon ts (s_nam (lsp ts) (lnm ts) (A 2) (q 35) 0 [83, 105, 122, 101]).toNat < 1 ∨ 300 < lon ts (s_nam (lsp ts) (lnm ts) (A 2) (q 35) 0 [83, 105, 122, 101]).toNat ∨ lon ts (s_nam (lsp ts) (lnm ts) (A 2) (q 35) 0 [83, 105, 122, 101]).toNat ≤ q 362 then none else _) = none
                  rw [← ha0, ← hc0, if_neg (by omega)]
                  first | rw [if_pos (by omega)] | rw [if_neg (by omega), if_pos (by omega)]
                · refine x_aload_n (x_d C_O_readTrailer 70 rfl) rfl ?_
                  refine x_getfield (v := xI (q 362)) (x_d C_O_readTrailer 71 rfl) f_O_106 rfl rfl ?_
                  refine x_iload (x_d C_O_readTrailer 72 rfl) rfl ?_
                  refine x_icmp_lt (tgt := 151) (x_d C_O_readTrailer 73 rfl) rfl (fun c17 => ?_) (fun c17 => ?_)
                  · refine x_aload_n (x_d C_O_readTrailer 76 rfl) rfl ?_
                    refine x_iload (x_d C_O_readTrailer 77 rfl) rfl ?_
                    refine x_if_lt (tgt := 161) (x_d C_O_readTrailer 78 rfl) rfl (fun c18 => ?_) (fun c18 => ?_)
                    · refine x_iconst (x_d C_O_readTrailer 81 rfl) ⟨by omega, by omega⟩ ?_
                      refine x_putfield (h1 := hF (x_up (x_up (x_up (x_up (x_up (x_up (x_up q 133 t1) 360 nx) 1029 sz) 1030 tb) 1031 lt) 1032 tr) 361 0) (x_up r 359 (some 32)) (x_up (x_up (x_up (x_up (x_up A 5 (P1 5)) 6 (P1 6)) 7 (P1 7)) 8 (P1 8)) 9 (P1 9)) ++ dy) (x_d C_O_readTrailer 82 rfl) p_O_79 rfl rfl rfl (by first | exact Or.inl rfl | exact Or.inr rfl) rfl ?_
                      refine x_aload_n (x_d C_O_readTrailer 83 rfl) rfl ?_
                      refine x_aload_n (x_d C_O_readTrailer 84 rfl) rfl ?_
                      refine x_getfield (v := xI (0)) (x_d C_O_readTrailer 85 rfl) f_O_79 rfl rfl ?_
                      refine x_if_eq (tgt := 186) (x_d C_O_readTrailer 86 rfl) rfl (fun _ => ?_) (fun q => absurd q (by omega))
                      refine x_iconst (x_d C_O_readTrailer 93 rfl) ⟨by omega, by omega⟩ ?_
                      refine x_putfield (h1 := hF (x_up (x_up (x_up (x_up (x_up (x_up (x_up q 133 t1) 1029 sz) 1030 tb) 1031 lt) 1032 tr) 361 0) 360 (-1)) (x_up r 359 (some 32)) (x_up (x_up (x_up (x_up (x_up A 5 (P1 5)) 6 (P1 6)) 7 (P1 7)) 8 (P1 8)) 9 (P1 9)) ++ dy) (x_d C_O_readTrailer 94 rfl) p_O_69 rfl rfl rfl trivial rfl ?_
                      refine x_aload_n (x_d C_O_readTrailer 95 rfl) rfl ?_
                      refine x_getfield (v := xC 32) (x_d C_O_readTrailer 96 rfl) f_O_36 rfl rfl ?_
                      refine x_iload_n (x_d C_O_readTrailer 97 rfl) rfl ?_
                      refine x_iconst (x_d C_O_readTrailer 98 rfl) ⟨by omega, by omega⟩ ?_
                      refine x_iadd (x_d C_O_readTrailer 99 rfl) ⟨by omega, by omega⟩ ?_
                      refine x_putfield (h1 := hF (x_up (x_up (x_up (x_up (x_up (x_up (x_up q 133 t1) 1029 sz) 1031 lt) 1032 tr) 361 0) 360 (-1)) 1030 (k + 1)) (x_up r 359 (some 32)) (x_up (x_up (x_up (x_up (x_up A 5 (P1 5)) 6 (P1 6)) 7 (P1 7)) 8 (P1 8)) 9 (P1 9)) ++ dy) (x_d C_O_readTrailer 100 rfl) p_O_175 rfl rfl rfl trivial rfl ?_
                      refine x_iload_n (x_d C_O_readTrailer 101 rfl) rfl ?_
                      refine x_if_ne (tgt := 237) (x_d C_O_readTrailer 102 rfl) rfl (fun _ => ?_) (fun q => absurd q (by omega))
                      refine x_aload_n (x_d C_O_readTrailer 119 rfl) rfl ?_
                      refine x_getfield (v := xC 4) (x_d C_O_readTrailer 120 rfl) f_O_28 rfl rfl ?_
                      refine x_iload_n (x_d C_O_readTrailer 121 rfl) rfl ?_
                      refine x_putfield (h1 := hF (x_up (x_up (x_up (x_up (x_up (x_up (x_up q 1029 sz) 1031 lt) 1032 tr) 361 0) 360 (-1)) 1030 (k + 1)) 133 t) (x_up r 359 (some 32)) (x_up (x_up (x_up (x_up (x_up A 5 (P1 5)) 6 (P1 6)) 7 (P1 7)) 8 (P1 8)) 9 (P1 9)) ++ dy) (x_d C_O_readTrailer 122 rfl) p_O_152 rfl rfl rfl trivial rfl ?_
                      refine x_iconst (x_d C_O_readTrailer 123 rfl) ⟨by omega, by omega⟩ ?_
                      refine x_ireturn (x_d C_O_readTrailer 124 rfl) ?_
                      refine ⟨t, -1, 0, sz, k + 1, lt, tr, P1, rfl, k1, k2, by omega, by omega, Or.inl ⟨rfl, (ts, lon ts a0.toNat, none), ?_, ?_, rfl, ?_, rfl⟩⟩
                      · unfold s_trd
                        rw [hval, Option.bind_some]
                        show (if ¬ lkd ts 0 = 7 then none else if s_nam (lsp ts) (lnm ts) (A 2) (q 35) 0 [83, 105, 122, 101] < 0 ∨ ¬ lkd ts (s_nam (lsp ts) (lnm ts) (A 2) (q 35) 0 [83, 105, 122, 101]).toNat = 3 ∨ (0 ≤ s_nam (lsp ts) (lnm ts) (A 2) (q 35) 0 [80, 114, 101, 118] ∧ ¬ lkd ts (s_nam (lsp ts) (lnm ts) (A 2) (q 35) 0 [80, 114, 101, 118]).toNat = 3) then none else if lon ts (s_nam (lsp ts) (lnm ts) (A 2) (q 35) 0 [83, 105, 122, 101]).toNat < 1 ∨ 300 < lon ts (s_nam (lsp ts) (lnm ts) (A 2) (q 35) 0 [83, 105, 122, 101]).toNat ∨ lon ts (s_nam (lsp ts) (lnm ts) (A 2) (q 35) 0 [83, 105, 122, 101]).toNat ≤ q 362 then none else some (ts, lon ts (s_nam (lsp ts) (lnm ts) (A 2) (q 35) 0 [83, 105, 122, 101]).toNat, if s_nam (lsp ts) (lnm ts) (A 2) (q 35) 0 [80, 114, 101, 118] < 0 then none else some (lon ts (s_nam (lsp ts) (lnm ts) (A 2) (q 35) 0 [80, 114, 101, 118]).toNat))) = _
                        rw [← ha0, ← hc0, if_neg (by omega), if_neg (by omega), if_neg (by omega), if_pos (by omega)]
                      · exact ⟨rfl, rfl, rfl, rfl⟩
                      · rfl
                    · refine x_iconst (x_d C_O_readTrailer 79 rfl) ⟨by omega, by omega⟩ ?_
                      refine x_goto (tgt := 162) (x_d C_O_readTrailer 80 rfl) rfl ?_
                      refine x_putfield (h1 := hF (x_up (x_up (x_up (x_up (x_up (x_up (x_up q 133 t1) 360 nx) 1029 sz) 1030 tb) 1031 lt) 1032 tr) 361 1) (x_up r 359 (some 32)) (x_up (x_up (x_up (x_up (x_up A 5 (P1 5)) 6 (P1 6)) 7 (P1 7)) 8 (P1 8)) 9 (P1 9)) ++ dy) (x_d C_O_readTrailer 82 rfl) p_O_79 rfl rfl rfl (by first | exact Or.inl rfl | exact Or.inr rfl) rfl ?_
                      refine x_aload_n (x_d C_O_readTrailer 83 rfl) rfl ?_
                      refine x_aload_n (x_d C_O_readTrailer 84 rfl) rfl ?_
                      refine x_getfield (v := xI (1)) (x_d C_O_readTrailer 85 rfl) f_O_79 rfl rfl ?_
                      refine x_if_eq (tgt := 186) (x_d C_O_readTrailer 86 rfl) rfl (fun q => absurd q (by omega)) (fun _ => ?_)
                      refine x_aload_n (x_d C_O_readTrailer 87 rfl) rfl ?_
                      refine x_getfield (v := xC 4) (x_d C_O_readTrailer 88 rfl) f_O_28 rfl rfl ?_
                      refine x_getfield (v := xC 6) (x_d C_O_readTrailer 89 rfl) f_O_172 rfl rfl ?_
                      refine x_iload (x_d C_O_readTrailer 90 rfl) rfl ?_
                      refine x_iaload (f := P1 6) (x_d C_O_readTrailer 91 rfl) rfl (by omega) (by omega) ?_
                      refine x_goto (tgt := 187) (x_d C_O_readTrailer 92 rfl) rfl ?_
                      refine x_putfield (h1 := hF (x_up (x_up (x_up (x_up (x_up (x_up (x_up q 133 t1) 1029 sz) 1030 tb) 1031 lt) 1032 tr) 361 1) 360 ((P1 6) (c).toNat)) (x_up r 359 (some 32)) (x_up (x_up (x_up (x_up (x_up A 5 (P1 5)) 6 (P1 6)) 7 (P1 7)) 8 (P1 8)) 9 (P1 9)) ++ dy) (x_d C_O_readTrailer 94 rfl) p_O_69 rfl rfl rfl trivial rfl ?_
                      refine x_aload_n (x_d C_O_readTrailer 95 rfl) rfl ?_
                      refine x_getfield (v := xC 32) (x_d C_O_readTrailer 96 rfl) f_O_36 rfl rfl ?_
                      refine x_iload_n (x_d C_O_readTrailer 97 rfl) rfl ?_
                      refine x_iconst (x_d C_O_readTrailer 98 rfl) ⟨by omega, by omega⟩ ?_
                      refine x_iadd (x_d C_O_readTrailer 99 rfl) ⟨by omega, by omega⟩ ?_
                      refine x_putfield (h1 := hF (x_up (x_up (x_up (x_up (x_up (x_up (x_up q 133 t1) 1029 sz) 1031 lt) 1032 tr) 361 1) 360 ((P1 6) (c).toNat)) 1030 (k + 1)) (x_up r 359 (some 32)) (x_up (x_up (x_up (x_up (x_up A 5 (P1 5)) 6 (P1 6)) 7 (P1 7)) 8 (P1 8)) 9 (P1 9)) ++ dy) (x_d C_O_readTrailer 100 rfl) p_O_175 rfl rfl rfl trivial rfl ?_
                      refine x_iload_n (x_d C_O_readTrailer 101 rfl) rfl ?_
                      refine x_if_ne (tgt := 237) (x_d C_O_readTrailer 102 rfl) rfl (fun _ => ?_) (fun q => absurd q (by omega))
                      refine x_aload_n (x_d C_O_readTrailer 119 rfl) rfl ?_
                      refine x_getfield (v := xC 4) (x_d C_O_readTrailer 120 rfl) f_O_28 rfl rfl ?_
                      refine x_iload_n (x_d C_O_readTrailer 121 rfl) rfl ?_
                      refine x_putfield (h1 := hF (x_up (x_up (x_up (x_up (x_up (x_up (x_up q 1029 sz) 1031 lt) 1032 tr) 361 1) 360 ((P1 6) (c).toNat)) 1030 (k + 1)) 133 t) (x_up r 359 (some 32)) (x_up (x_up (x_up (x_up (x_up A 5 (P1 5)) 6 (P1 6)) 7 (P1 7)) 8 (P1 8)) 9 (P1 9)) ++ dy) (x_d C_O_readTrailer 122 rfl) p_O_152 rfl rfl rfl trivial rfl ?_
                      refine x_iconst (x_d C_O_readTrailer 123 rfl) ⟨by omega, by omega⟩ ?_
                      refine x_ireturn (x_d C_O_readTrailer 124 rfl) ?_
                      refine ⟨t, (P1 6) (c).toNat, 1, sz, k + 1, lt, tr, P1, rfl, k1, k2, by omega, by omega, Or.inl ⟨rfl, (ts, lon ts a0.toNat, some (lon ts c0.toNat)), ?_, ?_, rfl, ?_, rfl⟩⟩
                      · unfold s_trd
                        rw [hval, Option.bind_some]
                        show (if ¬ lkd ts 0 = 7 then none else if s_nam (lsp ts) (lnm ts) (A 2) (q 35) 0 [83, 105, 122, 101] < 0 ∨ ¬ lkd ts (s_nam (lsp ts) (lnm ts) (A 2) (q 35) 0 [83, 105, 122, 101]).toNat = 3 ∨ (0 ≤ s_nam (lsp ts) (lnm ts) (A 2) (q 35) 0 [80, 114, 101, 118] ∧ ¬ lkd ts (s_nam (lsp ts) (lnm ts) (A 2) (q 35) 0 [80, 114, 101, 118]).toNat = 3) then none else if lon ts (s_nam (lsp ts) (lnm ts) (A 2) (q 35) 0 [83, 105, 122, 101]).toNat < 1 ∨ 300 < lon ts (s_nam (lsp ts) (lnm ts) (A 2) (q 35) 0 [83, 105, 122, 101]).toNat ∨ lon ts (s_nam (lsp ts) (lnm ts) (A 2) (q 35) 0 [83, 105, 122, 101]).toNat ≤ q 362 then none else some (ts, lon ts (s_nam (lsp ts) (lnm ts) (A 2) (q 35) 0 [83, 105, 122, 101]).toNat, if s_nam (lsp ts) (lnm ts) (A 2) (q 35) 0 [80, 114, 101, 118] < 0 then none else some (lon ts (s_nam (lsp ts) (lnm ts) (A 2) (q 35) 0 [80, 114, 101, 118]).toNat))) = _
                        rw [← ha0, ← hc0, if_neg (by omega), if_neg (by omega), if_neg (by omega), if_neg (by omega)]
                      · exact ⟨rfl, rfl, rfl, rfl⟩
                      · show _ = lon ts c0.toNat; omega
                  · refine x_iconst (x_d C_O_readTrailer 74 rfl) ⟨by omega, by omega⟩ ?_
                    refine x_ireturn (x_d C_O_readTrailer 75 rfl) ?_
                    refine ⟨t1, nx, mo, sz, tb, lt, tr, P1, rfl, k1, k2, k3, k4, Or.inr ⟨rfl, ?_⟩⟩
                    unfold s_trd
                    rw [hval, Option.bind_some]
                    show (if ¬ lkd ts 0 = 7 then none else if s_nam (lsp ts) (lnm ts) (A 2) (q 35) 0 [83, 105, 122, 101] < 0 ∨ ¬ lkd ts (s_nam (lsp ts) (lnm ts) (A 2) (q 35) 0 [83, 105, 122, 101]).toNat = 3 ∨ (0 ≤ s_nam (lsp ts) (lnm ts) (A 2) (q 35) 0 [80, 114, 101, 118] ∧ ¬ lkd ts (s_nam (lsp ts) (lnm ts) (A 2) (q 35) 0 [80, 114, 101, 118]).toNat = 3) then none else if lon ts (s_nam (lsp ts) (lnm ts) (A 2) (q 35) 0 [83, 105, 122, 101]).toNat < 1 ∨ 300 < lon ts (s_nam (lsp ts) (lnm ts) (A 2) (q 35) 0 [83, 105, 122, 101]).toNat ∨ lon ts (s_nam (lsp ts) (lnm ts) (A 2) (q 35) 0 [83, 105, 122, 101]).toNat ≤ q 362 then none else _) = none
                    rw [← ha0, ← hc0, if_neg (by omega)]
                    first | rw [if_pos (by omega)] | rw [if_neg (by omega), if_pos (by omega)]
            · refine x_iconst (x_d C_O_readTrailer 56 rfl) ⟨by omega, by omega⟩ ?_
              refine x_ireturn (x_d C_O_readTrailer 57 rfl) ?_
              refine ⟨t1, nx, mo, sz, tb, lt, tr, P1, rfl, k1, k2, k3, k4, Or.inr ⟨rfl, ?_⟩⟩
              unfold s_trd
              rw [hval, Option.bind_some]
              show (if ¬ lkd ts 0 = 7 then none else if s_nam (lsp ts) (lnm ts) (A 2) (q 35) 0 [83, 105, 122, 101] < 0 ∨ ¬ lkd ts (s_nam (lsp ts) (lnm ts) (A 2) (q 35) 0 [83, 105, 122, 101]).toNat = 3 ∨ (0 ≤ s_nam (lsp ts) (lnm ts) (A 2) (q 35) 0 [80, 114, 101, 118] ∧ ¬ lkd ts (s_nam (lsp ts) (lnm ts) (A 2) (q 35) 0 [80, 114, 101, 118]).toNat = 3) then none else if lon ts (s_nam (lsp ts) (lnm ts) (A 2) (q 35) 0 [83, 105, 122, 101]).toNat < 1 ∨ 300 < lon ts (s_nam (lsp ts) (lnm ts) (A 2) (q 35) 0 [83, 105, 122, 101]).toNat ∨ lon ts (s_nam (lsp ts) (lnm ts) (A 2) (q 35) 0 [83, 105, 122, 101]).toNat ≤ q 362 then none else _) = none
              rw [← ha0, ← hc0, if_neg (by omega)]
              first | rw [if_pos (by omega)] | rw [if_neg (by omega), if_pos (by omega)]
    · refine x_iconst (x_d C_O_readTrailer 24 rfl) ⟨by omega, by omega⟩ ?_
      refine x_ireturn (x_d C_O_readTrailer 25 rfl) ?_
      refine ⟨t1, nx, mo, sz, tb, lt, tr, P1, rfl, k1, k2, k3, k4, Or.inr ⟨rfl, ?_⟩⟩
      unfold s_trd
      rcases hps with ⟨z1, z2⟩ | ⟨z1, ts, j, z2, z3, z4, z5, z6⟩
      · rw [z2]; rfl
      · have hg0 := (s_at_get z4 (j := 0) (by omega)).1
        rw [Nat.add_zero] at hg0
        rw [z2, Option.bind_some]
        show (if ¬ lkd ts 0 = 7 then none else _) = none
        rw [if_pos (by omega)]
