/-! the reader: values of one part -/
/-- the arrays of the parts -/
def s_pt (A P : Nat → Nat → Int) : Nat → Nat → Int := x_up (x_up (x_up (x_up (x_up A 5 (P 5)) 6 (P 6)) 7 (P 7)) 8 (P 8)) 9 (P 9)
def s_app (P : Nat → Nat → Int) (t : Int) (x : tk) : Nat → Nat → Int := x_up (x_up (x_up (x_up (x_up P 5 (x_up (P 5) t.toNat x.1)) 6 (x_up (P 6) t.toNat x.2.1)) 7 (x_up (P 7) t.toNat x.2.2.1)) 8 (x_up (P 8) t.toNat x.2.2.2.1)) 9 (x_up (P 9) t.toNat x.2.2.2.2)
def s_tok (P : Nat → Nat → Int) (j : Nat) : tk := (P 5 j, P 6 j, P 7 j, P 8 j, P 9 j)
def s_ok5 (P : Nat → Nat → Int) : Prop := (∀ j, 0 ≤ P 8 j ∧ P 8 j ≤ 12900) ∧ ∀ j, -1 ≤ P 9 j ∧ P 9 j ≤ 10248
def s_keep (m : Nat) (P P2 : Nat → Nat → Int) : Prop := ∀ j, j < m → s_tok P2 j = s_tok P j
/-- the parts ts stand from p on -/
def s_at (P : Nat → Nat → Int) (p : Nat) (ts : List tk) : Prop := ∀ i, i < ts.length → s_tok P (p + i) = ts.getD i (0, 0, 0, 0, 0)
/-- what reading does to the parts -/
def s_rp (t : Int) (P : Nat → Nat → Int) (t2 : Int) (P2 : Nat → Nat → Int) (x : Option (List tk × Int)) : Prop := s_keep t.toNat P P2 ∧ s_ok5 P2 ∧ t ≤ t2 ∧ t2 ≤ 12900 ∧ ∀ ts j, x = some (ts, j) → t2 = t + ts.length ∧ s_at P2 t.toNat ts
theorem s_rp_none {t : Int} {P : Nat → Nat → Int} (h : s_ok5 P) (ht : t ≤ 12900) : s_rp t P t P none := ⟨fun _ _ => rfl, h, Int.le_refl t, ht, fun _ _ e => by cases e⟩
theorem s_app_tok (P : Nat → Nat → Int) (t : Int) (x : tk) (j : Nat) : s_tok (s_app P t x) j = if j = t.toNat then x else s_tok P j := by
  show (x_up (P 5) t.toNat x.1 j, x_up (P 6) t.toNat x.2.1 j, x_up (P 7) t.toNat x.2.2.1 j, x_up (P 8) t.toNat x.2.2.2.1 j, x_up (P 9) t.toNat x.2.2.2.2 j) = _
  by_cases e : j = t.toNat
  · rw [if_pos e, e, x_up_s, x_up_s, x_up_s, x_up_s, x_up_s]
  · rw [if_neg e, x_up_n _ _ e, x_up_n _ _ e, x_up_n _ _ e, x_up_n _ _ e, x_up_n _ _ e]
    rfl
theorem s_app_ok {P : Nat → Nat → Int} {t : Int} {x : tk} (h : s_ok5 P) (h1 : 0 ≤ x.2.2.2.1 ∧ x.2.2.2.1 ≤ 12900) (h2 : -1 ≤ x.2.2.2.2 ∧ x.2.2.2.2 ≤ 10248) : s_ok5 (s_app P t x) := by
  refine ⟨fun j => ?_, fun j => ?_⟩
  · show 0 ≤ x_up (P 8) t.toNat x.2.2.2.1 j ∧ x_up (P 8) t.toNat x.2.2.2.1 j ≤ 12900
    by_cases e : j = t.toNat
    · rw [e, x_up_s]; exact h1
    · rw [x_up_n _ _ e]; exact h.1 j
  · show -1 ≤ x_up (P 9) t.toNat x.2.2.2.2 j ∧ x_up (P 9) t.toNat x.2.2.2.2 j ≤ 10248
    by_cases e : j = t.toNat
    · rw [e, x_up_s]; exact h2
    · rw [x_up_n _ _ e]; exact h.2 j
theorem s_app_keep (P : Nat → Nat → Int) (t : Int) (x : tk) : s_keep t.toNat P (s_app P t x) := fun j hj => by rw [s_app_tok, if_neg (Nat.ne_of_lt hj)]
theorem s_rp_one {t : Int} {P : Nat → Nat → Int} (h : s_ok5 P) (ht : 0 ≤ t ∧ t < 12900) (k a b j : Int) : s_rp t P (t + 1) (s_app P t (k, a, b, 1, -1)) (some ([s_one k a b], j)) := by
  refine ⟨s_app_keep P t _, s_app_ok h ⟨by show (0 : Int) ≤ 1; omega, by show (1 : Int) ≤ 12900; omega⟩ ⟨by show (-1 : Int) ≤ -1; omega, by show (-1 : Int) ≤ 10248; omega⟩, by omega, by omega, fun ts j2 e => ?_⟩
  have e := Option.some.inj e
  have e1 : [s_one k a b] = ts := congrArg Prod.fst e
  subst e1
  refine ⟨rfl, fun i hi => ?_⟩
  have : i = 0 := by simp only [List.length_cons, List.length_nil] at hi; omega
  subst this
  rw [s_app_tok, if_pos (Nat.add_zero _)]
  rfl
theorem c_R_added (Z : xZ) (d : Nat) (q : Nat → Int) (r : Nat → Option Nat) (A : Nat → Nat → Int) (dy : xH) (t : Int) (P : Nat → Nat → Int) (hd : 1 ≤ d) (k a b j : Int) (ht : 0 ≤ t ∧ t < 12900) : xMet Z d Y_R_added [xC 10, xI k, xI a, xI b, xI j] (hF (x_up q 133 t) r (s_pt A P) ++ dy) (fun v h2 => v = some (xI j) ∧ h2 = hF (x_up q 133 (t + 1)) r (s_pt A (s_app P t (k, a, b, 1, -1))) ++ dy) := by
  refine xMet_of (by decide) (Nat.le_of_ble_eq_true rfl) (fun v h2 hq => by rw [hq.1]; trivial) ?_
  refine x_aload_n (x_d C_R_added 0 rfl) rfl ?_
  refine x_getfield (v := xC 4) (x_d C_R_added 1 rfl) f_R_15 rfl rfl ?_
  refine x_iload_n (x_d C_R_added 2 rfl) rfl ?_
  refine x_iload_n (x_d C_R_added 3 rfl) rfl ?_
  refine x_iload_n (x_d C_R_added 4 rfl) rfl ?_
  refine x_invokevirtual (st := []) (av := [xI (k), xI (a), xI (b)]) (x_d C_R_added 5 rfl) k_R_44 m_P_add v_P_add cl_P rfl rfl (Nat.le_of_ble_eq_true rfl) (by omega) rfl (c_P_add Z (d - 1) (x_up q 133 t) r (x_up (x_up (x_up (x_up (x_up A 5 (P 5)) 6 (P 6)) 7 (P 7)) 8 (P 8)) 9 (P 9)) dy k a b (show 0 ≤ t ∧ t < 12900 from ⟨by omega, by omega⟩)) ?_
  rintro v_ _ ⟨hv_, rfl⟩
  obtain rfl : v_ = some (xI (t)) := hv_
  refine x_if_ge (tgt := 17) (x_d C_R_added 6 rfl) rfl (fun _ => ?_) (fun q => absurd q (by omega))
  refine x_iload (x_d C_R_added 9 rfl) rfl ?_
  refine x_ireturn (x_d C_R_added 10 rfl) ?_
  exact ⟨rfl, rfl⟩
theorem c_R_readConstant (Z : xZ) (d : Nat) (q : Nat → Int) (r : Nat → Option Nat) (A : Nat → Nat → Int) (dy : xH) (t : Int) (P : Nat → Nat → Int) (hd : 6 ≤ d) (i : Int) (hT : 0 ≤ q 34 ∧ q 34 ≤ q 35 ∧ q 35 ≤ 10248) (hR : s_okR A) (ho : s_ok5 P) (ht : 0 ≤ t ∧ t < 12900) : xMet Z d Y_R_readConstant [xC 10, xI i] (hF (x_up q 133 t) r (s_pt A P) ++ dy) (fun v h2 => ∃ t2 P2, v = some (xI (s_ps (s_con (A 2) (q 35) i))) ∧ h2 = hF (x_up q 133 t2) r (s_pt A P2) ++ dy ∧ s_rp t P t2 P2 (s_con (A 2) (q 35) i)) := by
  refine xMet_of (by decide) (Nat.le_of_ble_eq_true rfl) (fun v h2 hq => by obtain ⟨_, _, e, _⟩ := hq; rw [e]; trivial) ?_
  refine x_aload_n (x_d C_R_readConstant 0 rfl) rfl ?_
  refine x_getfield (v := xC 1) (x_d C_R_readConstant 1 rfl) f_R_9 rfl rfl ?_
  refine x_iload_n (x_d C_R_readConstant 2 rfl) rfl ?_
  refine x_ldcS (i := 10) (x_d C_R_readConstant 3 rfl) rfl ?_
  refine x_invokevirtual (st := []) (av := [xI (i), xS (21)]) (x_d C_R_readConstant 4 rfl) k_R_108 m_T_afterThe v_T_afterThe cl_T rfl rfl (Nat.le_of_ble_eq_true rfl) (by omega) rfl (c_T_afterThe Z (d - 1) (x_up q 133 t) r (x_up (x_up (x_up (x_up (x_up A 5 (P 5)) 6 (P 6)) 7 (P 7)) 8 (P 8)) 9 (P 9)) dy (by omega) (i := 10) rfl i hT hR) ?_
  rintro v_ _ ⟨hv_, rfl⟩
  obtain rfl : v_ = some (xI (s_the (A 2) (q 35) i [110, 117, 108, 108])) := hv_
  refine x_istore_n (l1 := [(2, xI (s_the (A 2) (q 35) i [110, 117, 108, 108])), (0, xC 10), (1, xI (i))]) (x_d C_R_readConstant 5 rfl) (by decide) rfl ?_
  refine x_iload_n (x_d C_R_readConstant 6 rfl) rfl ?_
  refine x_if_lt (tgt := 24) (x_d C_R_readConstant 7 rfl) rfl (fun c1 => ?_) (fun c1 => ?_)
  · refine x_aload_n (x_d C_R_readConstant 15 rfl) rfl ?_
    refine x_getfield (v := xC 1) (x_d C_R_readConstant 16 rfl) f_R_9 rfl rfl ?_
    refine x_iload_n (x_d C_R_readConstant 17 rfl) rfl ?_
    refine x_ldcS (i := 11) (x_d C_R_readConstant 18 rfl) rfl ?_
    refine x_invokevirtual (st := []) (av := [xI (i), xS (23)]) (x_d C_R_readConstant 19 rfl) k_R_108 m_T_afterThe v_T_afterThe cl_T rfl rfl (Nat.le_of_ble_eq_true rfl) (by omega) rfl (c_T_afterThe Z (d - 1) (x_up q 133 t) r (x_up (x_up (x_up (x_up (x_up A 5 (P 5)) 6 (P 6)) 7 (P 7)) 8 (P 8)) 9 (P 9)) dy (by omega) (i := 11) rfl i hT hR) ?_
    rintro v_ _ ⟨hv_, rfl⟩
    obtain rfl : v_ = some (xI (s_the (A 2) (q 35) i [116, 114, 117, 101])) := hv_
    refine x_istore_n (l1 := [(2, xI (s_the (A 2) (q 35) i [116, 114, 117, 101])), (0, xC 10), (1, xI (i))]) (x_d C_R_readConstant 20 rfl) (by decide) rfl ?_
    refine x_iload_n (x_d C_R_readConstant 21 rfl) rfl ?_
    refine x_if_lt (tgt := 48) (x_d C_R_readConstant 22 rfl) rfl (fun c2 => ?_) (fun c2 => ?_)
    · refine x_aload_n (x_d C_R_readConstant 30 rfl) rfl ?_
      refine x_getfield (v := xC 1) (x_d C_R_readConstant 31 rfl) f_R_9 rfl rfl ?_
      refine x_iload_n (x_d C_R_readConstant 32 rfl) rfl ?_
      refine x_ldcS (i := 12) (x_d C_R_readConstant 33 rfl) rfl ?_
      refine x_invokevirtual (st := []) (av := [xI (i), xS (25)]) (x_d C_R_readConstant 34 rfl) k_R_108 m_T_afterThe v_T_afterThe cl_T rfl rfl (Nat.le_of_ble_eq_true rfl) (by omega) rfl (c_T_afterThe Z (d - 1) (x_up q 133 t) r (x_up (x_up (x_up (x_up (x_up A 5 (P 5)) 6 (P 6)) 7 (P 7)) 8 (P 8)) 9 (P 9)) dy (by omega) (i := 12) rfl i hT hR) ?_
      rintro v_ _ ⟨hv_, rfl⟩
      obtain rfl : v_ = some (xI (s_the (A 2) (q 35) i [102, 97, 108, 115, 101])) := hv_
      refine x_istore_n (l1 := [(2, xI (s_the (A 2) (q 35) i [102, 97, 108, 115, 101])), (0, xC 10), (1, xI (i))]) (x_d C_R_readConstant 35 rfl) (by decide) rfl ?_
      refine x_iload_n (x_d C_R_readConstant 36 rfl) rfl ?_
      refine x_if_ge (tgt := 67) (x_d C_R_readConstant 37 rfl) rfl (fun c3 => ?_) (fun c3 => ?_)
      · refine x_aload_n (x_d C_R_readConstant 40 rfl) rfl ?_
        refine x_iconst (x_d C_R_readConstant 41 rfl) ⟨by omega, by omega⟩ ?_
        refine x_iconst (x_d C_R_readConstant 42 rfl) ⟨by omega, by omega⟩ ?_
        refine x_iconst (x_d C_R_readConstant 43 rfl) ⟨by omega, by omega⟩ ?_
        refine x_iload_n (x_d C_R_readConstant 44 rfl) rfl ?_
        refine x_invokevirtual (st := []) (av := [xI (2), xI (0), xI (0), xI (s_the (A 2) (q 35) i [102, 97, 108, 115, 101])]) (x_d C_R_readConstant 45 rfl) k_R_84 m_R_added v_R_added cl_R rfl rfl (Nat.le_of_ble_eq_true rfl) (by omega) rfl (c_R_added Z (d - 1) q r A dy t P (by omega) 2 0 0 (s_the (A 2) (q 35) i [102, 97, 108, 115, 101]) (by omega)) ?_
        rintro v_ _ ⟨hv_, rfl⟩
        obtain rfl : v_ = some (xI (s_the (A 2) (q 35) i [102, 97, 108, 115, 101])) := hv_
        refine x_ireturn (x_d C_R_readConstant 46 rfl) ?_
        have e : s_con (A 2) (q 35) i = some ([s_one 2 0 0], s_the (A 2) (q 35) i [102, 97, 108, 115, 101]) := by
          unfold s_con
          first | rw [if_pos (by omega)] | rw [if_neg (by omega), if_pos (by omega)] | rw [if_neg (by omega), if_neg (by omega), if_pos (by omega)]
        refine ⟨t + 1, _, ?_, rfl, ?_⟩
        · rw [e]; rfl
        · rw [e]; exact s_rp_one ho (by omega) _ _ _ _
      · refine x_iconst (x_d C_R_readConstant 38 rfl) ⟨by omega, by omega⟩ ?_
        refine x_goto (tgt := 75) (x_d C_R_readConstant 39 rfl) rfl ?_
        refine x_ireturn (x_d C_R_readConstant 46 rfl) ?_
        exact ⟨t, P, by rw [(show s_con (A 2) (q 35) i = none by unfold s_con; rw [if_neg (by omega), if_neg (by omega), if_neg (by omega)])]; rfl, rfl, by rw [(show s_con (A 2) (q 35) i = none by unfold s_con; rw [if_neg (by omega), if_neg (by omega), if_neg (by omega)])]; exact s_rp_none ho (by omega)⟩
    · refine x_aload_n (x_d C_R_readConstant 23 rfl) rfl ?_
      refine x_iconst (x_d C_R_readConstant 24 rfl) ⟨by omega, by omega⟩ ?_
      refine x_iconst (x_d C_R_readConstant 25 rfl) ⟨by omega, by omega⟩ ?_
      refine x_iconst (x_d C_R_readConstant 26 rfl) ⟨by omega, by omega⟩ ?_
      refine x_iload_n (x_d C_R_readConstant 27 rfl) rfl ?_
      refine x_invokevirtual (st := []) (av := [xI (1), xI (0), xI (0), xI (s_the (A 2) (q 35) i [116, 114, 117, 101])]) (x_d C_R_readConstant 28 rfl) k_R_84 m_R_added v_R_added cl_R rfl rfl (Nat.le_of_ble_eq_true rfl) (by omega) rfl (c_R_added Z (d - 1) q r A dy t P (by omega) 1 0 0 (s_the (A 2) (q 35) i [116, 114, 117, 101]) (by omega)) ?_
      rintro v_ _ ⟨hv_, rfl⟩
      obtain rfl : v_ = some (xI (s_the (A 2) (q 35) i [116, 114, 117, 101])) := hv_
      refine x_ireturn (x_d C_R_readConstant 29 rfl) ?_
      have e : s_con (A 2) (q 35) i = some ([s_one 1 0 0], s_the (A 2) (q 35) i [116, 114, 117, 101]) := by
        unfold s_con
        first | rw [if_pos (by omega)] | rw [if_neg (by omega), if_pos (by omega)] | rw [if_neg (by omega), if_neg (by omega), if_pos (by omega)]
      refine ⟨t + 1, _, ?_, rfl, ?_⟩
      · rw [e]; rfl
      · rw [e]; exact s_rp_one ho (by omega) _ _ _ _
  · refine x_aload_n (x_d C_R_readConstant 8 rfl) rfl ?_
    refine x_iconst (x_d C_R_readConstant 9 rfl) ⟨by omega, by omega⟩ ?_
    refine x_iconst (x_d C_R_readConstant 10 rfl) ⟨by omega, by omega⟩ ?_
    refine x_iconst (x_d C_R_readConstant 11 rfl) ⟨by omega, by omega⟩ ?_
    refine x_iload_n (x_d C_R_readConstant 12 rfl) rfl ?_
    refine x_invokevirtual (st := []) (av := [xI (0), xI (0), xI (0), xI (s_the (A 2) (q 35) i [110, 117, 108, 108])]) (x_d C_R_readConstant 13 rfl) k_R_84 m_R_added v_R_added cl_R rfl rfl (Nat.le_of_ble_eq_true rfl) (by omega) rfl (c_R_added Z (d - 1) q r A dy t P (by omega) 0 0 0 (s_the (A 2) (q 35) i [110, 117, 108, 108]) (by omega)) ?_
    rintro v_ _ ⟨hv_, rfl⟩
    obtain rfl : v_ = some (xI (s_the (A 2) (q 35) i [110, 117, 108, 108])) := hv_
    refine x_ireturn (x_d C_R_readConstant 14 rfl) ?_
    have e : s_con (A 2) (q 35) i = some ([s_one 0 0 0], s_the (A 2) (q 35) i [110, 117, 108, 108]) := by
      unfold s_con
      first | rw [if_pos (by omega)] | rw [if_neg (by omega), if_pos (by omega)] | rw [if_neg (by omega), if_neg (by omega), if_pos (by omega)]
    refine ⟨t + 1, _, ?_, rfl, ?_⟩
    · rw [e]; rfl
    · rw [e]; exact s_rp_one ho (by omega) _ _ _ _
theorem c_R_readRef (Z : xZ) (d : Nat) (q : Nat → Int) (r : Nat → Option Nat) (A : Nat → Nat → Int) (dy : xH) (t : Int) (P : Nat → Nat → Int) (hd : 6 ≤ d) (num i : Int) (hT : 0 ≤ q 34 ∧ q 34 ≤ q 35 ∧ q 35 ≤ 10248) (hR : s_okR A) (ho : s_ok5 P) (ht : 0 ≤ t ∧ t < 12900) : xMet Z d Y_R_readRef [xC 10, xI num, xI i] (hF (x_up q 133 t) r (s_pt A P) ++ dy) (fun v h2 => ∃ t2 P2, v = some (xI (s_ref (A 2) (q 35) num i)) ∧ h2 = hF (x_up q 133 t2) r (s_pt A P2) ++ dy ∧ s_rp t P t2 P2 (if 0 ≤ s_ref (A 2) (q 35) num i then some ([s_one 8 num (s_num (A 2) (q 35) (s_sc s_white (A 2) (q 35) i))], s_ref (A 2) (q 35) num i) else none) ∧ (s_ref (A 2) (q 35) num i < 0 → t = t2 ∧ P = P2)) := by
  refine xMet_of (by decide) (Nat.le_of_ble_eq_true rfl) (fun v h2 hq => by obtain ⟨_, _, e, _⟩ := hq; rw [e]; trivial) ?_
  have hth := s_the_in (A 2) (q 35) (s_sc s_white (A 2) (q 35) (s_wd (A 2) (q 35) (s_sc s_white (A 2) (q 35) i))) [82]
  refine x_aload_n (x_d C_R_readRef 0 rfl) rfl ?_
  refine x_getfield (v := xC 1) (x_d C_R_readRef 1 rfl) f_R_9 rfl rfl ?_
  refine x_iload_n (x_d C_R_readRef 2 rfl) rfl ?_
  refine x_invokevirtual (st := []) (av := [xI (i)]) (x_d C_R_readRef 3 rfl) k_R_50 m_T_afterWhite v_T_afterWhite cl_T rfl rfl (Nat.le_of_ble_eq_true rfl) (by omega) rfl (c_T_afterWhite Z (d - 1) (x_up q 133 t) r (x_up (x_up (x_up (x_up (x_up A 5 (P 5)) 6 (P 6)) 7 (P 7)) 8 (P 8)) 9 (P 9)) dy i hT) ?_
  rintro v_ _ ⟨hv_, rfl⟩
  obtain rfl : v_ = some (xI (s_sc s_white (A 2) (q 35) i)) := hv_
  refine x_istore_n (l1 := [(3, xI (s_sc s_white (A 2) (q 35) i)), (0, xC 10), (1, xI (num)), (2, xI (i))]) (x_d C_R_readRef 4 rfl) (by decide) rfl ?_
  refine x_aload_n (x_d C_R_readRef 5 rfl) rfl ?_
  refine x_getfield (v := xC 1) (x_d C_R_readRef 6 rfl) f_R_9 rfl rfl ?_
  refine x_iload_n (x_d C_R_readRef 7 rfl) rfl ?_
  refine x_invokevirtual (st := []) (av := [xI (s_sc s_white (A 2) (q 35) i)]) (x_d C_R_readRef 8 rfl) k_R_94 m_T_number v_T_number cl_T rfl rfl (Nat.le_of_ble_eq_true rfl) (by omega) rfl (c_T_numberA Z (d - 1) (x_up q 133 t) r (x_up (x_up (x_up (x_up (x_up A 5 (P 5)) 6 (P 6)) 7 (P 7)) 8 (P 8)) 9 (P 9)) dy (s_sc s_white (A 2) (q 35) i) hT hR) ?_
  rintro v_ _ ⟨hv_, rfl⟩
  obtain rfl : v_ = some (xI (s_num (A 2) (q 35) (s_sc s_white (A 2) (q 35) i))) := hv_
  refine x_istore (l1 := [(4, xI (s_num (A 2) (q 35) (s_sc s_white (A 2) (q 35) i))), (3, xI (s_sc s_white (A 2) (q 35) i)), (0, xC 10), (1, xI (num)), (2, xI (i))]) (x_d C_R_readRef 9 rfl) (by decide) rfl ?_
  refine x_aload_n (x_d C_R_readRef 10 rfl) rfl ?_
  refine x_getfield (v := xC 1) (x_d C_R_readRef 11 rfl) f_R_9 rfl rfl ?_
  refine x_aload_n (x_d C_R_readRef 12 rfl) rfl ?_
  refine x_getfield (v := xC 1) (x_d C_R_readRef 13 rfl) f_R_9 rfl rfl ?_
  refine x_aload_n (x_d C_R_readRef 14 rfl) rfl ?_
  refine x_getfield (v := xC 1) (x_d C_R_readRef 15 rfl) f_R_9 rfl rfl ?_
  refine x_iload_n (x_d C_R_readRef 16 rfl) rfl ?_
  refine x_invokevirtual (st := [xC 1, xC 1]) (av := [xI (s_sc s_white (A 2) (q 35) i)]) (x_d C_R_readRef 17 rfl) k_R_100 m_T_afterWord v_T_afterWord cl_T rfl rfl (Nat.le_of_ble_eq_true rfl) (by omega) rfl (c_T_afterWord Z (d - 1) (x_up q 133 t) r (x_up (x_up (x_up (x_up (x_up A 5 (P 5)) 6 (P 6)) 7 (P 7)) 8 (P 8)) 9 (P 9)) dy (s_sc s_white (A 2) (q 35) i) hT hR) ?_
  rintro v_ _ ⟨hv_, rfl⟩
  obtain rfl : v_ = some (xI (s_wd (A 2) (q 35) (s_sc s_white (A 2) (q 35) i))) := hv_
  refine x_invokevirtual (st := [xC 1]) (av := [xI (s_wd (A 2) (q 35) (s_sc s_white (A 2) (q 35) i))]) (x_d C_R_readRef 18 rfl) k_R_50 m_T_afterWhite v_T_afterWhite cl_T rfl rfl (Nat.le_of_ble_eq_true rfl) (by omega) rfl (c_T_afterWhite Z (d - 1) (x_up q 133 t) r (x_up (x_up (x_up (x_up (x_up A 5 (P 5)) 6 (P 6)) 7 (P 7)) 8 (P 8)) 9 (P 9)) dy (s_wd (A 2) (q 35) (s_sc s_white (A 2) (q 35) i)) hT) ?_
  rintro v_ _ ⟨hv_, rfl⟩
  obtain rfl : v_ = some (xI (s_sc s_white (A 2) (q 35) (s_wd (A 2) (q 35) (s_sc s_white (A 2) (q 35) i)))) := hv_
  refine x_ldcS (i := 13) (x_d C_R_readRef 19 rfl) rfl ?_
  refine x_invokevirtual (st := []) (av := [xI (s_sc s_white (A 2) (q 35) (s_wd (A 2) (q 35) (s_sc s_white (A 2) (q 35) i))), xS (27)]) (x_d C_R_readRef 20 rfl) k_R_108 m_T_afterThe v_T_afterThe cl_T rfl rfl (Nat.le_of_ble_eq_true rfl) (by omega) rfl (c_T_afterThe Z (d - 1) (x_up q 133 t) r (x_up (x_up (x_up (x_up (x_up A 5 (P 5)) 6 (P 6)) 7 (P 7)) 8 (P 8)) 9 (P 9)) dy (by omega) (i := 13) rfl (s_sc s_white (A 2) (q 35) (s_wd (A 2) (q 35) (s_sc s_white (A 2) (q 35) i))) hT hR) ?_
  rintro v_ _ ⟨hv_, rfl⟩
  obtain rfl : v_ = some (xI (s_the (A 2) (q 35) (s_sc s_white (A 2) (q 35) (s_wd (A 2) (q 35) (s_sc s_white (A 2) (q 35) i))) [82])) := hv_
  refine x_istore (l1 := [(5, xI (s_the (A 2) (q 35) (s_sc s_white (A 2) (q 35) (s_wd (A 2) (q 35) (s_sc s_white (A 2) (q 35) i))) [82])), (4, xI (s_num (A 2) (q 35) (s_sc s_white (A 2) (q 35) i))), (3, xI (s_sc s_white (A 2) (q 35) i)), (0, xC 10), (1, xI (num)), (2, xI (i))]) (x_d C_R_readRef 21 rfl) (by decide) rfl ?_
  refine x_iload_n (x_d C_R_readRef 22 rfl) rfl ?_
  refine x_sipush (x_d C_R_readRef 23 rfl) (by omega) ?_
  refine x_icmp_ge (tgt := 69) (x_d C_R_readRef 24 rfl) rfl (fun c1 => ?_) (fun c1 => ?_)
  · refine x_iconst (x_d C_R_readRef 32 rfl) ⟨by omega, by omega⟩ ?_
    refine x_ireturn (x_d C_R_readRef 33 rfl) ?_
    have e : s_ref (A 2) (q 35) num i = -1 := by
      unfold s_ref
      first | rw [if_pos (by omega)] | (rw [if_neg (by omega)]; omega)
    exact ⟨t, P, by rw [e], rfl, by rw [if_neg (by omega)]; exact s_rp_none ho (by omega), fun _ => ⟨rfl, rfl⟩⟩
  · refine x_iload (x_d C_R_readRef 25 rfl) rfl ?_
    refine x_if_lt (tgt := 69) (x_d C_R_readRef 26 rfl) rfl (fun c2 => ?_) (fun c2 => ?_)
    · refine x_iconst (x_d C_R_readRef 32 rfl) ⟨by omega, by omega⟩ ?_
      refine x_ireturn (x_d C_R_readRef 33 rfl) ?_
      have e : s_ref (A 2) (q 35) num i = -1 := by
        unfold s_ref
        first | rw [if_pos (by omega)] | (rw [if_neg (by omega)]; omega)
      exact ⟨t, P, by rw [e], rfl, by rw [if_neg (by omega)]; exact s_rp_none ho (by omega), fun _ => ⟨rfl, rfl⟩⟩
    · refine x_iload (x_d C_R_readRef 27 rfl) rfl ?_
      refine x_ldc (n := 65536) (x_d C_R_readRef 28 rfl) lc_R_111 ⟨by omega, by omega⟩ ?_
      refine x_icmp_ge (tgt := 69) (x_d C_R_readRef 29 rfl) rfl (fun c3 => ?_) (fun c3 => ?_)
      · refine x_iconst (x_d C_R_readRef 32 rfl) ⟨by omega, by omega⟩ ?_
        refine x_ireturn (x_d C_R_readRef 33 rfl) ?_
        have e : s_ref (A 2) (q 35) num i = -1 := by
          unfold s_ref
          first | rw [if_pos (by omega)] | (rw [if_neg (by omega)]; omega)
        exact ⟨t, P, by rw [e], rfl, by rw [if_neg (by omega)]; exact s_rp_none ho (by omega), fun _ => ⟨rfl, rfl⟩⟩
      · refine x_iload (x_d C_R_readRef 30 rfl) rfl ?_
        refine x_if_ge (tgt := 71) (x_d C_R_readRef 31 rfl) rfl (fun c4 => ?_) (fun c4 => ?_)
        · refine x_aload_n (x_d C_R_readRef 34 rfl) rfl ?_
          refine x_bipush (x_d C_R_readRef 35 rfl) (by omega) ?_
          refine x_iload_n (x_d C_R_readRef 36 rfl) rfl ?_
          refine x_iload (x_d C_R_readRef 37 rfl) rfl ?_
          refine x_iload (x_d C_R_readRef 38 rfl) rfl ?_
          refine x_invokevirtual (st := []) (av := [xI (8), xI (num), xI (s_num (A 2) (q 35) (s_sc s_white (A 2) (q 35) i)), xI (s_the (A 2) (q 35) (s_sc s_white (A 2) (q 35) (s_wd (A 2) (q 35) (s_sc s_white (A 2) (q 35) i))) [82])]) (x_d C_R_readRef 39 rfl) k_R_84 m_R_added v_R_added cl_R rfl rfl (Nat.le_of_ble_eq_true rfl) (by omega) rfl (c_R_added Z (d - 1) q r A dy t P (by omega) 8 num (s_num (A 2) (q 35) (s_sc s_white (A 2) (q 35) i)) (s_the (A 2) (q 35) (s_sc s_white (A 2) (q 35) (s_wd (A 2) (q 35) (s_sc s_white (A 2) (q 35) i))) [82]) (by omega)) ?_
          rintro v_ _ ⟨hv_, rfl⟩
          obtain rfl : v_ = some (xI (s_the (A 2) (q 35) (s_sc s_white (A 2) (q 35) (s_wd (A 2) (q 35) (s_sc s_white (A 2) (q 35) i))) [82])) := hv_
          refine x_ireturn (x_d C_R_readRef 40 rfl) ?_
          have e : s_ref (A 2) (q 35) num i = s_the (A 2) (q 35) (s_sc s_white (A 2) (q 35) (s_wd (A 2) (q 35) (s_sc s_white (A 2) (q 35) i))) [82] := by
            unfold s_ref
            rw [if_neg (by omega)]
          refine ⟨t + 1, _, ?_, rfl, ?_, fun h => absurd h (by omega)⟩
          · rw [e]
          · rw [if_pos (by omega)]; exact s_rp_one ho (by omega) _ _ _ _
        · refine x_iconst (x_d C_R_readRef 32 rfl) ⟨by omega, by omega⟩ ?_
          refine x_ireturn (x_d C_R_readRef 33 rfl) ?_
          have e : s_ref (A 2) (q 35) num i = -1 := by
            unfold s_ref
            first | rw [if_pos (by omega)] | (rw [if_neg (by omega)]; omega)
          exact ⟨t, P, by rw [e], rfl, by rw [if_neg (by omega)]; exact s_rp_none ho (by omega), fun _ => ⟨rfl, rfl⟩⟩
theorem s_str_s (b : Nat → Int) (n : Int) (f : Nat) (i k : Int) : s_str b n (f + 1) i k = if s_byte b n i = 41 then some (k, i + 1) else if s_ss b n i = 0 then none else s_str b n f (i + s_ss b n i) (k + 1) := rfl
theorem s_prs_s (b : Nat → Int) (n : Int) (f : Nat) (i k : Int) : s_prs b n (f + 1) i k = if s_byte b n i = 62 then some (k, i + 1) else if s_pair b n i < 0 then none else s_prs b n f (i + 2) (k + 1) := rfl
theorem w_R_readString_6 (Z : xZ) (d : Nat) (q : Nat → Int) (r : Nat → Option Nat) (A : Nat → Nat → Int) (dy : xH) (t : Int) (P : Nat → Nat → Int) (hd : 5 ≤ d) (i : Int) (hT : 0 ≤ q 34 ∧ q 34 ≤ q 35 ∧ q 35 ≤ 10248) (hR : s_okR A) (ho : s_ok5 P) (ht : 0 ≤ t ∧ t < 12900) : ∀ (f : Nat) (u k : Int), k + f = 101 → 0 ≤ k → 0 ≤ u ∧ u ≤ q 35 → xW Z d Y_R_readString 6 [(0, xC 10), (1, xI i), (2, xI u), (3, xI k)] [] (hF (x_up q 133 t) r (s_pt A P) ++ dy) (fun v h2 => ∃ t2 P2, v = some (xI (s_ps ((s_str (A 2) (q 35) f u k).map (fun x => ([s_one 5 i x.1], x.2))))) ∧ h2 = hF (x_up q 133 t2) r (s_pt A P2) ++ dy ∧ s_rp t P t2 P2 ((s_str (A 2) (q 35) f u k).map (fun x => ([s_one 5 i x.1], x.2)))) := by
  intro f
  induction f with
  | zero =>
    intro u k hk h0 hu
    refine x_iload_n (x_d C_R_readString 6 rfl) rfl ?_
    refine x_bipush (x_d C_R_readString 7 rfl) (by omega) ?_
    refine x_icmp_gt (tgt := 64) (x_d C_R_readString 8 rfl) rfl (fun _ => ?_) (fun q => absurd q (by omega))
    refine x_iconst (x_d C_R_readString 39 rfl) ⟨by omega, by omega⟩ ?_
    refine x_ireturn (x_d C_R_readString 40 rfl) ?_
    exact ⟨t, P, rfl, rfl, s_rp_none ho (by omega)⟩
  | succ f ih =>
    intro u k hk h0 hu
    have hs := s_ss_in (A 2) (q 35) u
    have hb := s_byte_in (A 2) (q 35) u
    refine x_iload_n (x_d C_R_readString 6 rfl) rfl ?_
    refine x_bipush (x_d C_R_readString 7 rfl) (by omega) ?_
    refine x_icmp_gt (tgt := 64) (x_d C_R_readString 8 rfl) rfl (fun q => absurd q (by omega)) (fun _ => ?_)
    refine x_aload_n (x_d C_R_readString 9 rfl) rfl ?_
    refine x_getfield (v := xC 1) (x_d C_R_readString 10 rfl) f_R_9 rfl rfl ?_
    refine x_iload_n (x_d C_R_readString 11 rfl) rfl ?_
    refine x_invokevirtual (st := []) (av := [xI (u)]) (x_d C_R_readString 12 rfl) k_R_19 m_T_byteAt v_T_byteAt cl_T rfl rfl (Nat.le_of_ble_eq_true rfl) (by omega) rfl (c_T_byteAt Z (d - 1) (x_up q 133 t) r (x_up (x_up (x_up (x_up (x_up A 5 (P 5)) 6 (P 6)) 7 (P 7)) 8 (P 8)) 9 (P 9)) dy u hT) ?_
    rintro v_ _ ⟨hv_, rfl⟩
    obtain rfl : v_ = some (xI (s_byte (A 2) (q 35) u)) := hv_
    refine x_bipush (x_d C_R_readString 13 rfl) (by omega) ?_
    refine x_icmp_ne (tgt := 36) (x_d C_R_readString 14 rfl) rfl (fun c2 => ?_) (fun c2 => ?_)
    · refine x_aload_n (x_d C_R_readString 24 rfl) rfl ?_
      refine x_getfield (v := xC 1) (x_d C_R_readString 25 rfl) f_R_9 rfl rfl ?_
      refine x_iload_n (x_d C_R_readString 26 rfl) rfl ?_
      refine x_invokevirtual (st := []) (av := [xI (u)]) (x_d C_R_readString 27 rfl) k_R_88 m_T_signSize v_T_signSize cl_T rfl rfl (Nat.le_of_ble_eq_true rfl) (by omega) rfl (c_T_signSize Z (d - 1) (x_up q 133 t) r (x_up (x_up (x_up (x_up (x_up A 5 (P 5)) 6 (P 6)) 7 (P 7)) 8 (P 8)) 9 (P 9)) dy (by omega) u hT (by omega)) ?_
      rintro v_ _ ⟨hv_, rfl⟩
      obtain rfl : v_ = some (xI (s_ss (A 2) (q 35) u)) := hv_
      refine x_istore (l1 := [(4, xI (s_ss (A 2) (q 35) u)), (0, xC 10), (1, xI (i)), (2, xI (u)), (3, xI (k))]) (x_d C_R_readString 28 rfl) (by decide) rfl ?_
      refine x_iload (x_d C_R_readString 29 rfl) rfl ?_
      refine x_if_ne (tgt := 53) (x_d C_R_readString 30 rfl) rfl (fun c3 => ?_) (fun c3 => ?_)
      · refine x_iload_n (x_d C_R_readString 33 rfl) rfl ?_
        refine x_iload (x_d C_R_readString 34 rfl) rfl ?_
        refine x_iadd (x_d C_R_readString 35 rfl) ⟨by omega, by omega⟩ ?_
        refine x_istore_n (l1 := [(2, xI (u + (s_ss (A 2) (q 35) u))), (4, xI (s_ss (A 2) (q 35) u)), (0, xC 10), (1, xI (i)), (3, xI (k))]) (x_d C_R_readString 36 rfl) (by decide) rfl ?_
        refine x_iinc (l1 := [(3, xI (k + 1)), (2, xI (u + (s_ss (A 2) (q 35) u))), (4, xI (s_ss (A 2) (q 35) u)), (0, xC 10), (1, xI (i))]) (x_d C_R_readString 37 rfl) rfl ⟨by omega, by omega⟩ (by decide) rfl ?_
        refine x_goto (tgt := 6) (x_d C_R_readString 38 rfl) rfl ?_
        refine x_locs [3, 4, 1, 0] rfl ?_
        rw [s_str_s, if_neg (by omega), if_neg (by omega)]
        exact ih _ _ (by omega) (by omega) (by omega)
      · refine x_iconst (x_d C_R_readString 31 rfl) ⟨by omega, by omega⟩ ?_
        refine x_ireturn (x_d C_R_readString 32 rfl) ?_
        have e : s_str (A 2) (q 35) (f + 1) u k = none := by rw [s_str_s, if_neg (by omega), if_pos (by omega)]
        exact ⟨t, P, by rw [e]; rfl, rfl, by rw [e]; exact s_rp_none ho (by omega)⟩
    · refine x_aload_n (x_d C_R_readString 15 rfl) rfl ?_
      refine x_iconst (x_d C_R_readString 16 rfl) ⟨by omega, by omega⟩ ?_
      refine x_iload_n (x_d C_R_readString 17 rfl) rfl ?_
      refine x_iload_n (x_d C_R_readString 18 rfl) rfl ?_
      refine x_iload_n (x_d C_R_readString 19 rfl) rfl ?_
      refine x_iconst (x_d C_R_readString 20 rfl) ⟨by omega, by omega⟩ ?_
      refine x_iadd (x_d C_R_readString 21 rfl) ⟨by omega, by omega⟩ ?_
      refine x_invokevirtual (st := []) (av := [xI (5), xI (i), xI (k), xI (u + 1)]) (x_d C_R_readString 22 rfl) k_R_84 m_R_added v_R_added cl_R rfl rfl (Nat.le_of_ble_eq_true rfl) (by omega) rfl (c_R_added Z (d - 1) q r A dy t P (by omega) 5 i k (u + 1) (by omega)) ?_
      rintro v_ _ ⟨hv_, rfl⟩
      obtain rfl : v_ = some (xI (u + 1)) := hv_
      refine x_ireturn (x_d C_R_readString 23 rfl) ?_
      have e : s_str (A 2) (q 35) (f + 1) u k = some (k, u + 1) := by rw [s_str_s, if_pos (by omega)]
      refine ⟨t + 1, _, ?_, rfl, ?_⟩
      · rw [e]; rfl
      · rw [e]; exact s_rp_one ho (by omega) _ _ _ _
theorem c_R_readString (Z : xZ) (d : Nat) (q : Nat → Int) (r : Nat → Option Nat) (A : Nat → Nat → Int) (dy : xH) (t : Int) (P : Nat → Nat → Int) (hd : 5 ≤ d) (i : Int) (hT : 0 ≤ q 34 ∧ q 34 ≤ q 35 ∧ q 35 ≤ 10248) (hR : s_okR A) (ho : s_ok5 P) (ht : 0 ≤ t ∧ t < 12900) (hi : 0 ≤ i ∧ i < q 35) : xMet Z d Y_R_readString [xC 10, xI i] (hF (x_up q 133 t) r (s_pt A P) ++ dy) (fun v h2 => ∃ t2 P2, v = some (xI (s_ps ((s_str (A 2) (q 35) 101 (i + 1) 0).map (fun x => ([s_one 5 i x.1], x.2))))) ∧ h2 = hF (x_up q 133 t2) r (s_pt A P2) ++ dy ∧ s_rp t P t2 P2 ((s_str (A 2) (q 35) 101 (i + 1) 0).map (fun x => ([s_one 5 i x.1], x.2)))) := by
  refine xMet_of (by decide) (Nat.le_of_ble_eq_true rfl) (fun v h2 hq => by obtain ⟨_, _, e, _⟩ := hq; rw [e]; trivial) ?_
  refine x_iload_n (x_d C_R_readString 0 rfl) rfl ?_
  refine x_iconst (x_d C_R_readString 1 rfl) ⟨by omega, by omega⟩ ?_
  refine x_iadd (x_d C_R_readString 2 rfl) ⟨by omega, by omega⟩ ?_
  refine x_istore_n (l1 := [(2, xI (i + 1)), (0, xC 10), (1, xI (i))]) (x_d C_R_readString 3 rfl) (by decide) rfl ?_
  refine x_iconst (x_d C_R_readString 4 rfl) ⟨by omega, by omega⟩ ?_
  refine x_istore_n (l1 := [(3, xI (0)), (2, xI (i + 1)), (0, xC 10), (1, xI (i))]) (x_d C_R_readString 5 rfl) (by decide) rfl ?_
  refine x_locs [2, 3, 1, 0] rfl ?_
  exact w_R_readString_6 Z d q r A dy t P hd i hT hR ho ht 101 _ _ rfl (Int.le_refl 0) (by omega)
theorem w_R_readPairs_6 (Z : xZ) (d : Nat) (q : Nat → Int) (r : Nat → Option Nat) (A : Nat → Nat → Int) (dy : xH) (t : Int) (P : Nat → Nat → Int) (hd : 5 ≤ d) (i : Int) (hT : 0 ≤ q 34 ∧ q 34 ≤ q 35 ∧ q 35 ≤ 10248) (hR : s_okR A) (ho : s_ok5 P) (ht : 0 ≤ t ∧ t < 12900) : ∀ (f : Nat) (u k : Int), k + f = 101 → 0 ≤ k → 0 ≤ u ∧ u ≤ q 35 → xW Z d Y_R_readPairs 6 [(0, xC 10), (1, xI i), (2, xI u), (3, xI k)] [] (hF (x_up q 133 t) r (s_pt A P) ++ dy) (fun v h2 => ∃ t2 P2, v = some (xI (s_ps ((s_prs (A 2) (q 35) f u k).map (fun x => ([s_one 5 i x.1], x.2))))) ∧ h2 = hF (x_up q 133 t2) r (s_pt A P2) ++ dy ∧ s_rp t P t2 P2 ((s_prs (A 2) (q 35) f u k).map (fun x => ([s_one 5 i x.1], x.2)))) := by
  intro f
  induction f with
  | zero =>
    intro u k hk h0 hu
    refine x_iload_n (x_d C_R_readPairs 6 rfl) rfl ?_
    refine x_bipush (x_d C_R_readPairs 7 rfl) (by omega) ?_
    refine x_icmp_gt (tgt := 58) (x_d C_R_readPairs 8 rfl) rfl (fun _ => ?_) (fun q => absurd q (by omega))
    refine x_iconst (x_d C_R_readPairs 34 rfl) ⟨by omega, by omega⟩ ?_
    refine x_ireturn (x_d C_R_readPairs 35 rfl) ?_
    exact ⟨t, P, rfl, rfl, s_rp_none ho (by omega)⟩
  | succ f ih =>
    intro u k hk h0 hu
    have hs := s_pair_in (A 2) (q 35) u
    have hb := s_byte_in (A 2) (q 35) u
    refine x_iload_n (x_d C_R_readPairs 6 rfl) rfl ?_
    refine x_bipush (x_d C_R_readPairs 7 rfl) (by omega) ?_
    refine x_icmp_gt (tgt := 58) (x_d C_R_readPairs 8 rfl) rfl (fun q => absurd q (by omega)) (fun _ => ?_)
    refine x_aload_n (x_d C_R_readPairs 9 rfl) rfl ?_
    refine x_getfield (v := xC 1) (x_d C_R_readPairs 10 rfl) f_R_9 rfl rfl ?_
    refine x_iload_n (x_d C_R_readPairs 11 rfl) rfl ?_
    refine x_invokevirtual (st := []) (av := [xI (u)]) (x_d C_R_readPairs 12 rfl) k_R_19 m_T_byteAt v_T_byteAt cl_T rfl rfl (Nat.le_of_ble_eq_true rfl) (by omega) rfl (c_T_byteAt Z (d - 1) (x_up q 133 t) r (x_up (x_up (x_up (x_up (x_up A 5 (P 5)) 6 (P 6)) 7 (P 7)) 8 (P 8)) 9 (P 9)) dy u hT) ?_
    rintro v_ _ ⟨hv_, rfl⟩
    obtain rfl : v_ = some (xI (s_byte (A 2) (q 35) u)) := hv_
    refine x_bipush (x_d C_R_readPairs 13 rfl) (by omega) ?_
    refine x_icmp_ne (tgt := 36) (x_d C_R_readPairs 14 rfl) rfl (fun c2 => ?_) (fun c2 => ?_)
    · refine x_aload_n (x_d C_R_readPairs 24 rfl) rfl ?_
      refine x_getfield (v := xC 1) (x_d C_R_readPairs 25 rfl) f_R_9 rfl rfl ?_
      refine x_iload_n (x_d C_R_readPairs 26 rfl) rfl ?_
      refine x_invokevirtual (st := []) (av := [xI (u)]) (x_d C_R_readPairs 27 rfl) k_R_91 m_T_pair v_T_pair cl_T rfl rfl (Nat.le_of_ble_eq_true rfl) (by omega) rfl (c_T_pair Z (d - 1) (x_up q 133 t) r (x_up (x_up (x_up (x_up (x_up A 5 (P 5)) 6 (P 6)) 7 (P 7)) 8 (P 8)) 9 (P 9)) dy (by omega) u hT (by omega)) ?_
      rintro v_ _ ⟨hv_, rfl⟩
      obtain rfl : v_ = some (xI (s_pair (A 2) (q 35) u)) := hv_
      refine x_if_ge (tgt := 49) (x_d C_R_readPairs 28 rfl) rfl (fun c3 => ?_) (fun c3 => ?_)
      · refine x_iinc (l1 := [(2, xI (u + 2)), (0, xC 10), (1, xI (i)), (3, xI (k))]) (x_d C_R_readPairs 31 rfl) rfl ⟨by omega, by omega⟩ (by decide) rfl ?_
        refine x_iinc (l1 := [(3, xI (k + 1)), (2, xI (u + 2)), (0, xC 10), (1, xI (i))]) (x_d C_R_readPairs 32 rfl) rfl ⟨by omega, by omega⟩ (by decide) rfl ?_
        refine x_goto (tgt := 6) (x_d C_R_readPairs 33 rfl) rfl ?_
        refine x_locs [2, 3, 1, 0] rfl ?_
        rw [s_prs_s, if_neg (by omega), if_neg (by omega)]
        exact ih _ _ (by omega) (by omega) (by omega)
      · refine x_iconst (x_d C_R_readPairs 29 rfl) ⟨by omega, by omega⟩ ?_
        refine x_ireturn (x_d C_R_readPairs 30 rfl) ?_
        have e : s_prs (A 2) (q 35) (f + 1) u k = none := by rw [s_prs_s, if_neg (by omega), if_pos (by omega)]
        exact ⟨t, P, by rw [e]; rfl, rfl, by rw [e]; exact s_rp_none ho (by omega)⟩
    · refine x_aload_n (x_d C_R_readPairs 15 rfl) rfl ?_
      refine x_iconst (x_d C_R_readPairs 16 rfl) ⟨by omega, by omega⟩ ?_
      refine x_iload_n (x_d C_R_readPairs 17 rfl) rfl ?_
      refine x_iload_n (x_d C_R_readPairs 18 rfl) rfl ?_
      refine x_iload_n (x_d C_R_readPairs 19 rfl) rfl ?_
      refine x_iconst (x_d C_R_readPairs 20 rfl) ⟨by omega, by omega⟩ ?_
      refine x_iadd (x_d C_R_readPairs 21 rfl) ⟨by omega, by omega⟩ ?_
      refine x_invokevirtual (st := []) (av := [xI (5), xI (i), xI (k), xI (u + 1)]) (x_d C_R_readPairs 22 rfl) k_R_84 m_R_added v_R_added cl_R rfl rfl (Nat.le_of_ble_eq_true rfl) (by omega) rfl (c_R_added Z (d - 1) q r A dy t P (by omega) 5 i k (u + 1) (by omega)) ?_
      rintro v_ _ ⟨hv_, rfl⟩
      obtain rfl : v_ = some (xI (u + 1)) := hv_
      refine x_ireturn (x_d C_R_readPairs 23 rfl) ?_
      have e : s_prs (A 2) (q 35) (f + 1) u k = some (k, u + 1) := by rw [s_prs_s, if_pos (by omega)]
      refine ⟨t + 1, _, ?_, rfl, ?_⟩
      · rw [e]; rfl
      · rw [e]; exact s_rp_one ho (by omega) _ _ _ _
theorem c_R_readPairs (Z : xZ) (d : Nat) (q : Nat → Int) (r : Nat → Option Nat) (A : Nat → Nat → Int) (dy : xH) (t : Int) (P : Nat → Nat → Int) (hd : 5 ≤ d) (i : Int) (hT : 0 ≤ q 34 ∧ q 34 ≤ q 35 ∧ q 35 ≤ 10248) (hR : s_okR A) (ho : s_ok5 P) (ht : 0 ≤ t ∧ t < 12900) (hi : 0 ≤ i ∧ i < q 35) : xMet Z d Y_R_readPairs [xC 10, xI i] (hF (x_up q 133 t) r (s_pt A P) ++ dy) (fun v h2 => ∃ t2 P2, v = some (xI (s_ps ((s_prs (A 2) (q 35) 101 (i + 1) 0).map (fun x => ([s_one 5 i x.1], x.2))))) ∧ h2 = hF (x_up q 133 t2) r (s_pt A P2) ++ dy ∧ s_rp t P t2 P2 ((s_prs (A 2) (q 35) 101 (i + 1) 0).map (fun x => ([s_one 5 i x.1], x.2)))) := by
  refine xMet_of (by decide) (Nat.le_of_ble_eq_true rfl) (fun v h2 hq => by obtain ⟨_, _, e, _⟩ := hq; rw [e]; trivial) ?_
  refine x_iload_n (x_d C_R_readPairs 0 rfl) rfl ?_
  refine x_iconst (x_d C_R_readPairs 1 rfl) ⟨by omega, by omega⟩ ?_
  refine x_iadd (x_d C_R_readPairs 2 rfl) ⟨by omega, by omega⟩ ?_
  refine x_istore_n (l1 := [(2, xI (i + 1)), (0, xC 10), (1, xI (i))]) (x_d C_R_readPairs 3 rfl) (by decide) rfl ?_
  refine x_iconst (x_d C_R_readPairs 4 rfl) ⟨by omega, by omega⟩ ?_
  refine x_istore_n (l1 := [(3, xI (0)), (2, xI (i + 1)), (0, xC 10), (1, xI (i))]) (x_d C_R_readPairs 5 rfl) (by decide) rfl ?_
  refine x_locs [2, 3, 1, 0] rfl ?_
  exact w_R_readPairs_6 Z d q r A dy t P hd i hT hR ho ht 101 _ _ rfl (Int.le_refl 0) (by omega)
theorem c_R_readName (Z : xZ) (d : Nat) (q : Nat → Int) (r : Nat → Option Nat) (A : Nat → Nat → Int) (dy : xH) (t : Int) (P : Nat → Nat → Int) (hd : 2 ≤ d) (i : Int) (hT : 0 ≤ q 34 ∧ q 34 ≤ q 35 ∧ q 35 ≤ 10248) (hR : s_okR A) (ho : s_ok5 P) (ht : 0 ≤ t ∧ t < 12900) (hi : 0 ≤ i ∧ i < q 35) : xMet Z d Y_R_readName [xC 10, xI i] (hF (x_up q 133 t) r (s_pt A P) ++ dy) (fun v h2 => ∃ t2 P2, v = some (xI (s_ps ((if s_name (A 2) (q 35) i < 0 then none else some ([s_one 4 (i + 1) (s_name (A 2) (q 35) i - i - 1)], s_name (A 2) (q 35) i))))) ∧ h2 = hF (x_up q 133 t2) r (s_pt A P2) ++ dy ∧ s_rp t P t2 P2 ((if s_name (A 2) (q 35) i < 0 then none else some ([s_one 4 (i + 1) (s_name (A 2) (q 35) i - i - 1)], s_name (A 2) (q 35) i)))) := by
  refine xMet_of (by decide) (Nat.le_of_ble_eq_true rfl) (fun v h2 hq => by obtain ⟨_, _, e, _⟩ := hq; rw [e]; trivial) ?_
  have hnm := s_name_in (A 2) (q 35) i
  refine x_aload_n (x_d C_R_readName 0 rfl) rfl ?_
  refine x_getfield (v := xC 1) (x_d C_R_readName 1 rfl) f_R_9 rfl rfl ?_
  refine x_iload_n (x_d C_R_readName 2 rfl) rfl ?_
  refine x_invokevirtual (st := []) (av := [xI (i)]) (x_d C_R_readName 3 rfl) k_R_77 m_T_afterName v_T_afterName cl_T rfl rfl (Nat.le_of_ble_eq_true rfl) (by omega) rfl (c_T_afterName Z (d - 1) (x_up q 133 t) r (x_up (x_up (x_up (x_up (x_up A 5 (P 5)) 6 (P 6)) 7 (P 7)) 8 (P 8)) 9 (P 9)) dy (by omega) i hT hR (by omega)) ?_
  rintro v_ _ ⟨hv_, rfl⟩
  obtain rfl : v_ = some (xI (s_name (A 2) (q 35) i)) := hv_
  refine x_istore_n (l1 := [(2, xI (s_name (A 2) (q 35) i)), (0, xC 10), (1, xI (i))]) (x_d C_R_readName 4 rfl) (by decide) rfl ?_
  refine x_iload_n (x_d C_R_readName 5 rfl) rfl ?_
  refine x_if_ge (tgt := 17) (x_d C_R_readName 6 rfl) rfl (fun c1 => ?_) (fun c1 => ?_)
  · refine x_aload_n (x_d C_R_readName 9 rfl) rfl ?_
    refine x_iconst (x_d C_R_readName 10 rfl) ⟨by omega, by omega⟩ ?_
    refine x_iload_n (x_d C_R_readName 11 rfl) rfl ?_
    refine x_iconst (x_d C_R_readName 12 rfl) ⟨by omega, by omega⟩ ?_
    refine x_iadd (x_d C_R_readName 13 rfl) ⟨by omega, by omega⟩ ?_
    refine x_iload_n (x_d C_R_readName 14 rfl) rfl ?_
    refine x_iload_n (x_d C_R_readName 15 rfl) rfl ?_
    refine x_isub (x_d C_R_readName 16 rfl) ⟨by omega, by omega⟩ ?_
    refine x_iconst (x_d C_R_readName 17 rfl) ⟨by omega, by omega⟩ ?_
    refine x_isub (x_d C_R_readName 18 rfl) ⟨by omega, by omega⟩ ?_
    refine x_iload_n (x_d C_R_readName 19 rfl) rfl ?_
    refine x_invokevirtual (st := []) (av := [xI (4), xI (i + 1), xI (((s_name (A 2) (q 35) i) - i) - 1), xI (s_name (A 2) (q 35) i)]) (x_d C_R_readName 20 rfl) k_R_84 m_R_added v_R_added cl_R rfl rfl (Nat.le_of_ble_eq_true rfl) (by omega) rfl (c_R_added Z (d - 1) q r A dy t P (by omega) 4 (i + 1) (((s_name (A 2) (q 35) i) - i) - 1) (s_name (A 2) (q 35) i) (by omega)) ?_
    rintro v_ _ ⟨hv_, rfl⟩
    obtain rfl : v_ = some (xI (s_name (A 2) (q 35) i)) := hv_
    refine x_ireturn (x_d C_R_readName 21 rfl) ?_
    rw [if_neg (by omega)]
    exact ⟨t + 1, _, rfl, rfl, s_rp_one ho (by omega) _ _ _ _⟩
  · refine x_iconst (x_d C_R_readName 7 rfl) ⟨by omega, by omega⟩ ?_
    refine x_goto (tgt := 31) (x_d C_R_readName 8 rfl) rfl ?_
    refine x_ireturn (x_d C_R_readName 21 rfl) ?_
    rw [if_pos (by omega)]
    exact ⟨t, P, rfl, rfl, s_rp_none ho (by omega)⟩
theorem c_R_readWord (Z : xZ) (d : Nat) (q : Nat → Int) (r : Nat → Option Nat) (A : Nat → Nat → Int) (dy : xH) (t : Int) (P : Nat → Nat → Int) (hd : 7 ≤ d) (i : Int) (hT : 0 ≤ q 34 ∧ q 34 ≤ q 35 ∧ q 35 ≤ 10248) (hR : s_okR A) (ho : s_ok5 P) (ht : 0 ≤ t ∧ t < 12900) (hi : i = -1 ∨ (0 ≤ i ∧ i ≤ q 35)) : xMet Z d Y_R_readWord [xC 10, xI i] (hF (x_up q 133 t) r (s_pt A P) ++ dy) (fun v h2 => ∃ t2 P2, v = some (xI (s_ps (s_word (A 2) (q 35) i))) ∧ h2 = hF (x_up q 133 t2) r (s_pt A P2) ++ dy ∧ s_rp t P t2 P2 (s_word (A 2) (q 35) i)) := by
  refine xMet_of (by decide) (Nat.le_of_ble_eq_true rfl) (fun v h2 hq => by obtain ⟨_, _, e, _⟩ := hq; rw [e]; trivial) ?_
  have hbi := s_byte_in (A 2) (q 35) i
  have hn1 := s_num_in (A 2) (q 35) i
  have hn2 := s_num_in (A 2) (q 35) (i + 1)
  have hwd := s_wd_in (A 2) (q 35) i
  refine x_aload_n (x_d C_R_readWord 0 rfl) rfl ?_
  refine x_getfield (v := xC 1) (x_d C_R_readWord 1 rfl) f_R_9 rfl rfl ?_
  refine x_iload_n (x_d C_R_readWord 2 rfl) rfl ?_
  refine x_invokevirtual (st := []) (av := [xI (i)]) (x_d C_R_readWord 3 rfl) k_R_19 m_T_byteAt v_T_byteAt cl_T rfl rfl (Nat.le_of_ble_eq_true rfl) (by omega) rfl (c_T_byteAt Z (d - 1) (x_up q 133 t) r (x_up (x_up (x_up (x_up (x_up A 5 (P 5)) 6 (P 6)) 7 (P 7)) 8 (P 8)) 9 (P 9)) dy i hT) ?_
  rintro v_ _ ⟨hv_, rfl⟩
  obtain rfl : v_ = some (xI (s_byte (A 2) (q 35) i)) := hv_
  refine x_bipush (x_d C_R_readWord 4 rfl) (by omega) ?_
  refine x_icmp_ne (tgt := 17) (x_d C_R_readWord 5 rfl) rfl (fun c1 => ?_) (fun c1 => ?_)
  · refine x_iconst (x_d C_R_readWord 8 rfl) ⟨by omega, by omega⟩ ?_
    refine x_istore_n (l1 := [(2, xI (0)), (0, xC 10), (1, xI (i))]) (x_d C_R_readWord 9 rfl) (by decide) rfl ?_
    refine x_aload_n (x_d C_R_readWord 10 rfl) rfl ?_
    refine x_getfield (v := xC 1) (x_d C_R_readWord 11 rfl) f_R_9 rfl rfl ?_
    refine x_iload_n (x_d C_R_readWord 12 rfl) rfl ?_
    refine x_if_eq (tgt := 33) (x_d C_R_readWord 13 rfl) rfl (fun _ => ?_) (fun q => absurd q (by omega))
    refine x_iload_n (x_d C_R_readWord 18 rfl) rfl ?_
    refine x_invokevirtual (st := []) (av := [xI (i)]) (x_d C_R_readWord 19 rfl) k_R_94 m_T_number v_T_number cl_T rfl rfl (Nat.le_of_ble_eq_true rfl) (by omega) rfl (c_T_numberA Z (d - 1) (x_up q 133 t) r (x_up (x_up (x_up (x_up (x_up A 5 (P 5)) 6 (P 6)) 7 (P 7)) 8 (P 8)) 9 (P 9)) dy i hT hR) ?_
    rintro v_ _ ⟨hv_, rfl⟩
    obtain rfl : v_ = some (xI (s_num (A 2) (q 35) i)) := hv_
    refine x_istore_n (l1 := [(3, xI (s_num (A 2) (q 35) i)), (2, xI (0)), (0, xC 10), (1, xI (i))]) (x_d C_R_readWord 20 rfl) (by decide) rfl ?_
    refine x_iload_n (x_d C_R_readWord 21 rfl) rfl ?_
    refine x_if_ge (tgt := 48) (x_d C_R_readWord 22 rfl) rfl (fun c3 => ?_) (fun c3 => ?_)
    · refine x_aload_n (x_d C_R_readWord 27 rfl) rfl ?_
      refine x_getfield (v := xC 1) (x_d C_R_readWord 28 rfl) f_R_9 rfl rfl ?_
      refine x_iload_n (x_d C_R_readWord 29 rfl) rfl ?_
      refine x_invokevirtual (st := []) (av := [xI (i)]) (x_d C_R_readWord 30 rfl) k_R_100 m_T_afterWord v_T_afterWord cl_T rfl rfl (Nat.le_of_ble_eq_true rfl) (by omega) rfl (c_T_afterWord Z (d - 1) (x_up q 133 t) r (x_up (x_up (x_up (x_up (x_up A 5 (P 5)) 6 (P 6)) 7 (P 7)) 8 (P 8)) 9 (P 9)) dy i hT hR) ?_
      rintro v_ _ ⟨hv_, rfl⟩
      obtain rfl : v_ = some (xI (s_wd (A 2) (q 35) i)) := hv_
      refine x_istore (l1 := [(4, xI (s_wd (A 2) (q 35) i)), (3, xI (s_num (A 2) (q 35) i)), (2, xI (0)), (0, xC 10), (1, xI (i))]) (x_d C_R_readWord 31 rfl) (by decide) rfl ?_
      refine x_iload_n (x_d C_R_readWord 32 rfl) rfl ?_
      refine x_if_eq (tgt := 66) (x_d C_R_readWord 33 rfl) rfl (fun _ => ?_) (fun q => absurd q (by omega))
      refine x_aload_n (x_d C_R_readWord 36 rfl) rfl ?_
      refine x_iload_n (x_d C_R_readWord 37 rfl) rfl ?_
      refine x_iload (x_d C_R_readWord 38 rfl) rfl ?_
      refine x_invokevirtual (st := []) (av := [xI (s_num (A 2) (q 35) i), xI (s_wd (A 2) (q 35) i)]) (x_d C_R_readWord 39 rfl) k_R_103 m_R_readRef v_R_readRef cl_R rfl rfl (Nat.le_of_ble_eq_true rfl) (by omega) rfl (c_R_readRef Z (d - 1) q r A dy t P (by omega) (s_num (A 2) (q 35) i) (s_wd (A 2) (q 35) i) hT hR ho (by omega)) ?_
      rintro v_ _ ⟨t5, P5, hv_, rfl, hrp5, hz5⟩
      obtain rfl : v_ = some (xI (s_ref (A 2) (q 35) (s_num (A 2) (q 35) i) (s_wd (A 2) (q 35) i))) := hv_
      refine x_istore (l1 := [(5, xI (s_ref (A 2) (q 35) (s_num (A 2) (q 35) i) (s_wd (A 2) (q 35) i))), (4, xI (s_wd (A 2) (q 35) i)), (3, xI (s_num (A 2) (q 35) i)), (2, xI (0)), (0, xC 10), (1, xI (i))]) (x_d C_R_readWord 40 rfl) (by decide) rfl ?_
      refine x_iload (x_d C_R_readWord 41 rfl) rfl ?_
      refine x_if_lt (tgt := 83) (x_d C_R_readWord 42 rfl) rfl (fun c6 => ?_) (fun c6 => ?_)
      · obtain ⟨rfl, rfl⟩ := hz5 (by omega)
        refine x_aload_n (x_d C_R_readWord 45 rfl) rfl ?_
        refine x_iconst (x_d C_R_readWord 46 rfl) ⟨by omega, by omega⟩ ?_
        refine x_iload_n (x_d C_R_readWord 47 rfl) rfl ?_
        refine x_if_eq (tgt := 94) (x_d C_R_readWord 48 rfl) rfl (fun _ => ?_) (fun q => absurd q (by omega))
        refine x_iload_n (x_d C_R_readWord 52 rfl) rfl ?_
        refine x_iconst (x_d C_R_readWord 53 rfl) ⟨by omega, by omega⟩ ?_
        refine x_iload (x_d C_R_readWord 54 rfl) rfl ?_
        refine x_invokevirtual (st := []) (av := [xI (3), xI (s_num (A 2) (q 35) i), xI (0), xI (s_wd (A 2) (q 35) i)]) (x_d C_R_readWord 55 rfl) k_R_84 m_R_added v_R_added cl_R rfl rfl (Nat.le_of_ble_eq_true rfl) (by omega) rfl (c_R_added Z (d - 1) q r A dy t P (by omega) 3 (s_num (A 2) (q 35) i) 0 (s_wd (A 2) (q 35) i) (by omega)) ?_
        rintro v_ _ ⟨hv_, rfl⟩
        obtain rfl : v_ = some (xI (s_wd (A 2) (q 35) i)) := hv_
        refine x_ireturn (x_d C_R_readWord 56 rfl) ?_
        have e : s_word (A 2) (q 35) i = some ([s_one 3 (s_num (A 2) (q 35) i) 0], s_wd (A 2) (q 35) i) := by
          unfold s_word s_nat
          rw [if_neg (show ¬ s_byte (A 2) (q 35) i = 45 by omega), if_neg (show ¬ s_byte (A 2) (q 35) i = 45 by omega), if_neg (by omega), if_neg (by omega)]
        rw [e]
        exact ⟨t + 1, _, rfl, rfl, s_rp_one ho (by omega) _ _ _ _⟩
      · refine x_iload (x_d C_R_readWord 43 rfl) rfl ?_
        refine x_ireturn (x_d C_R_readWord 44 rfl) ?_
        have e2 : s_nat (A 2) (q 35) i = s_num (A 2) (q 35) i := by unfold s_nat; rw [if_neg (by omega)]
        have e : s_word (A 2) (q 35) i = some ([s_one 8 (s_num (A 2) (q 35) i) (s_num (A 2) (q 35) (s_sc s_white (A 2) (q 35) (s_wd (A 2) (q 35) i)))], s_ref (A 2) (q 35) (s_num (A 2) (q 35) i) (s_wd (A 2) (q 35) i)) := by unfold s_word; rw [e2, if_neg (by omega), if_pos ⟨by omega, by omega⟩]
        rw [e]
        rw [if_pos (by omega)] at hrp5
        exact ⟨_, _, rfl, rfl, hrp5⟩
    · refine x_aload_n (x_d C_R_readWord 23 rfl) rfl ?_
      refine x_iload_n (x_d C_R_readWord 24 rfl) rfl ?_
      refine x_invokevirtual (st := []) (av := [xI (i)]) (x_d C_R_readWord 25 rfl) k_R_97 m_R_readConstant v_R_readConstant cl_R rfl rfl (Nat.le_of_ble_eq_true rfl) (by omega) rfl (c_R_readConstant Z (d - 1) q r A dy t P (by omega) i hT hR ho (by omega)) ?_
      rintro v_ _ ⟨t8, P8, hv_, rfl, hrp8⟩
      obtain rfl : v_ = some (xI (s_ps (s_con (A 2) (q 35) i))) := hv_
      refine x_ireturn (x_d C_R_readWord 26 rfl) ?_
      have e : s_word (A 2) (q 35) i = s_con (A 2) (q 35) i := by unfold s_word s_nat; first | rw [if_pos (show s_byte (A 2) (q 35) i = 45 by omega), if_pos (by omega)] | rw [if_neg (show ¬ s_byte (A 2) (q 35) i = 45 by omega), if_pos (by omega)]
      rw [e]
      exact ⟨_, _, rfl, rfl, hrp8⟩
  · refine x_iconst (x_d C_R_readWord 6 rfl) ⟨by omega, by omega⟩ ?_
    refine x_goto (tgt := 18) (x_d C_R_readWord 7 rfl) rfl ?_
    refine x_istore_n (l1 := [(2, xI (1)), (0, xC 10), (1, xI (i))]) (x_d C_R_readWord 9 rfl) (by decide) rfl ?_
    refine x_aload_n (x_d C_R_readWord 10 rfl) rfl ?_
    refine x_getfield (v := xC 1) (x_d C_R_readWord 11 rfl) f_R_9 rfl rfl ?_
    refine x_iload_n (x_d C_R_readWord 12 rfl) rfl ?_
    refine x_if_eq (tgt := 33) (x_d C_R_readWord 13 rfl) rfl (fun q => absurd q (by omega)) (fun _ => ?_)
    refine x_iload_n (x_d C_R_readWord 14 rfl) rfl ?_
    refine x_iconst (x_d C_R_readWord 15 rfl) ⟨by omega, by omega⟩ ?_
    refine x_iadd (x_d C_R_readWord 16 rfl) ⟨by omega, by omega⟩ ?_
    refine x_goto (tgt := 34) (x_d C_R_readWord 17 rfl) rfl ?_
    refine x_invokevirtual (st := []) (av := [xI (i + 1)]) (x_d C_R_readWord 19 rfl) k_R_94 m_T_number v_T_number cl_T rfl rfl (Nat.le_of_ble_eq_true rfl) (by omega) rfl (c_T_numberA Z (d - 1) (x_up q 133 t) r (x_up (x_up (x_up (x_up (x_up A 5 (P 5)) 6 (P 6)) 7 (P 7)) 8 (P 8)) 9 (P 9)) dy (i + 1) hT hR) ?_
    rintro v_ _ ⟨hv_, rfl⟩
    obtain rfl : v_ = some (xI (s_num (A 2) (q 35) (i + 1))) := hv_
    refine x_istore_n (l1 := [(3, xI (s_num (A 2) (q 35) (i + 1))), (2, xI (1)), (0, xC 10), (1, xI (i))]) (x_d C_R_readWord 20 rfl) (by decide) rfl ?_
    refine x_iload_n (x_d C_R_readWord 21 rfl) rfl ?_
    refine x_if_ge (tgt := 48) (x_d C_R_readWord 22 rfl) rfl (fun c10 => ?_) (fun c10 => ?_)
    · refine x_aload_n (x_d C_R_readWord 27 rfl) rfl ?_
      refine x_getfield (v := xC 1) (x_d C_R_readWord 28 rfl) f_R_9 rfl rfl ?_
      refine x_iload_n (x_d C_R_readWord 29 rfl) rfl ?_
      refine x_invokevirtual (st := []) (av := [xI (i)]) (x_d C_R_readWord 30 rfl) k_R_100 m_T_afterWord v_T_afterWord cl_T rfl rfl (Nat.le_of_ble_eq_true rfl) (by omega) rfl (c_T_afterWord Z (d - 1) (x_up q 133 t) r (x_up (x_up (x_up (x_up (x_up A 5 (P 5)) 6 (P 6)) 7 (P 7)) 8 (P 8)) 9 (P 9)) dy i hT hR) ?_
      rintro v_ _ ⟨hv_, rfl⟩
      obtain rfl : v_ = some (xI (s_wd (A 2) (q 35) i)) := hv_
      refine x_istore (l1 := [(4, xI (s_wd (A 2) (q 35) i)), (3, xI (s_num (A 2) (q 35) (i + 1))), (2, xI (1)), (0, xC 10), (1, xI (i))]) (x_d C_R_readWord 31 rfl) (by decide) rfl ?_
      refine x_iload_n (x_d C_R_readWord 32 rfl) rfl ?_
      refine x_if_eq (tgt := 66) (x_d C_R_readWord 33 rfl) rfl (fun q => absurd q (by omega)) (fun _ => ?_)
      refine x_iconst (x_d C_R_readWord 34 rfl) ⟨by omega, by omega⟩ ?_
      refine x_goto (tgt := 73) (x_d C_R_readWord 35 rfl) rfl ?_
      refine x_istore (l1 := [(5, xI (-1)), (4, xI (s_wd (A 2) (q 35) i)), (3, xI (s_num (A 2) (q 35) (i + 1))), (2, xI (1)), (0, xC 10), (1, xI (i))]) (x_d C_R_readWord 40 rfl) (by decide) rfl ?_
      refine x_iload (x_d C_R_readWord 41 rfl) rfl ?_
      refine x_if_lt (tgt := 83) (x_d C_R_readWord 42 rfl) rfl (fun _ => ?_) (fun q => absurd q (by omega))
      refine x_aload_n (x_d C_R_readWord 45 rfl) rfl ?_
      refine x_iconst (x_d C_R_readWord 46 rfl) ⟨by omega, by omega⟩ ?_
      refine x_iload_n (x_d C_R_readWord 47 rfl) rfl ?_
      refine x_if_eq (tgt := 94) (x_d C_R_readWord 48 rfl) rfl (fun q => absurd q (by omega)) (fun _ => ?_)
      refine x_iload_n (x_d C_R_readWord 49 rfl) rfl ?_
      refine x_ineg (x_d C_R_readWord 50 rfl) ⟨by omega, by omega⟩ ?_
      refine x_goto (tgt := 95) (x_d C_R_readWord 51 rfl) rfl ?_
      refine x_iconst (x_d C_R_readWord 53 rfl) ⟨by omega, by omega⟩ ?_
      refine x_iload (x_d C_R_readWord 54 rfl) rfl ?_
      refine x_invokevirtual (st := []) (av := [xI (3), xI (-(s_num (A 2) (q 35) (i + 1))), xI (0), xI (s_wd (A 2) (q 35) i)]) (x_d C_R_readWord 55 rfl) k_R_84 m_R_added v_R_added cl_R rfl rfl (Nat.le_of_ble_eq_true rfl) (by omega) rfl (c_R_added Z (d - 1) q r A dy t P (by omega) 3 (-(s_num (A 2) (q 35) (i + 1))) 0 (s_wd (A 2) (q 35) i) (by omega)) ?_
      rintro v_ _ ⟨hv_, rfl⟩
      obtain rfl : v_ = some (xI (s_wd (A 2) (q 35) i)) := hv_
      refine x_ireturn (x_d C_R_readWord 56 rfl) ?_
      have e : s_word (A 2) (q 35) i = some ([s_one 3 (-(s_num (A 2) (q 35) (i + 1))) 0], s_wd (A 2) (q 35) i) := by
        unfold s_word s_nat
        rw [if_pos (show s_byte (A 2) (q 35) i = 45 by omega), if_pos (show s_byte (A 2) (q 35) i = 45 by omega), if_neg (by omega), if_neg (by omega)]
      rw [e]
      exact ⟨t + 1, _, rfl, rfl, s_rp_one ho (by omega) _ _ _ _⟩
    · refine x_aload_n (x_d C_R_readWord 23 rfl) rfl ?_
      refine x_iload_n (x_d C_R_readWord 24 rfl) rfl ?_
      refine x_invokevirtual (st := []) (av := [xI (i)]) (x_d C_R_readWord 25 rfl) k_R_97 m_R_readConstant v_R_readConstant cl_R rfl rfl (Nat.le_of_ble_eq_true rfl) (by omega) rfl (c_R_readConstant Z (d - 1) q r A dy t P (by omega) i hT hR ho (by omega)) ?_
      rintro v_ _ ⟨t14, P14, hv_, rfl, hrp14⟩
      obtain rfl : v_ = some (xI (s_ps (s_con (A 2) (q 35) i))) := hv_
      refine x_ireturn (x_d C_R_readWord 26 rfl) ?_
      have e : s_word (A 2) (q 35) i = s_con (A 2) (q 35) i := by unfold s_word s_nat; first | rw [if_pos (show s_byte (A 2) (q 35) i = 45 by omega), if_pos (by omega)] | rw [if_neg (show ¬ s_byte (A 2) (q 35) i = 45 by omega), if_pos (by omega)]
      rw [e]
      exact ⟨_, _, rfl, rfl, hrp14⟩
