/-! the reader: values in one another -/
theorem s_val_neg (b : Nat → Int) (hB : ∀ j, -128 ≤ b j ∧ b j ≤ 127) (n : Int) (D : Nat) {i : Int} (h : i < 0) : s_val b n D i = none := by
  cases hx : s_val b n D i with
  | none => rfl
  | some x => exact absurd (s_val_ok b hB n D i x.1 x.2 hx).1 (by omega)
theorem s_byte_neg (b : Nat → Int) (n : Int) {i : Int} (h : i < 0) : s_byte b n i = -1 := by
  unfold s_byte
  rw [if_neg (by omega)]
theorem s_items_neg {f : Int → Option (List tk × Int)} {b : Nat → Int} {n i : Int} {m : Nat} (h : i < 0) (hf : f i = none) : s_items f b n m i = none := by
  have hb := s_byte_neg b n h
  cases m with
  | zero => unfold s_items; rw [if_neg (by omega)]
  | succ m => unfold s_items; rw [if_neg (by omega), hf]; rfl
theorem s_ents_neg {f : Int → Option (List tk × Int)} {b : Nat → Int} {n i : Int} {m : Nat} {ns : List Int} (h : i < 0) : s_ents f b n m i ns = none := by
  have hb := s_byte_neg b n h
  have hm := s_name_in b n i
  cases m with
  | zero => unfold s_ents; rw [if_neg (by omega)]
  | succ m =>
    unfold s_ents
    rw [if_neg (by omega)]
    split
    · rfl
    · rw [if_pos (by omega)]
theorem s_items_end {f : Int → Option (List tk × Int)} {b : Nat → Int} {n i : Int} {m : Nat} (h : s_byte b n i = 93) : s_items f b n m i = some ([], i + 1) := by
  cases m <;> (unfold s_items; rw [if_pos h])
theorem s_items_0 {f : Int → Option (List tk × Int)} {b : Nat → Int} {n i : Int} (h : ¬ s_byte b n i = 93) : s_items f b n 0 i = none := by
  unfold s_items; rw [if_neg h]
theorem s_items_s {f : Int → Option (List tk × Int)} {b : Nat → Int} {n i : Int} {m : Nat} (h : ¬ s_byte b n i = 93) : s_items f b n (m + 1) i = (f i).bind (fun x => (s_items f b n m (s_sc s_white b n x.2)).map (fun y => (x.1 ++ y.1, y.2))) := by
  conv => lhs; unfold s_items
  rw [if_neg h]
theorem s_ents_end {f : Int → Option (List tk × Int)} {b : Nat → Int} {n i : Int} {m : Nat} {ns : List Int} (h : s_byte b n i = 62) : s_ents f b n m i ns = if 0 ≤ s_txt b n i [62, 62] then some ([], s_txt b n i [62, 62]) else none := by
  cases m <;> (unfold s_ents; rw [if_pos h])
theorem s_ents_0 {f : Int → Option (List tk × Int)} {b : Nat → Int} {n i : Int} {ns : List Int} (h : ¬ s_byte b n i = 62) : s_ents f b n 0 i ns = none := by
  unfold s_ents; rw [if_neg h]
theorem s_ents_s {f : Int → Option (List tk × Int)} {b : Nat → Int} {n i : Int} {m : Nat} {ns : List Int} (h : ¬ s_byte b n i = 62) : s_ents f b n (m + 1) i ns = if ns.any (fun u => s_same b n u (i + 1)) = true then none else if s_name b n i < 0 then none else (f (s_sc s_white b n (s_name b n i))).bind (fun x => (s_ents f b n m (s_sc s_white b n x.2) (ns ++ [i + 1])).map (fun y => (s_nm (i + 1) x.1 ++ y.1, y.2))) := by
  conv => lhs; unfold s_ents
  rw [if_neg h]
/-- a box of kind k with the parts acc, and behind them those of x -/
def s_bx (k : Int) (acc : List tk) (x : Option (List tk × Int)) : Option (List tk × Int) := x.map (fun x => ((k, 0, 0, ((acc ++ x.1).length : Int) + 1, -1) :: (acc ++ x.1), x.2))
theorem s_bx_none (k : Int) (acc : List tk) : s_bx k acc none = none := rfl
theorem s_bx_more (k : Int) (acc ts : List tk) (x : Option (List tk × Int)) : s_bx k acc (x.map (fun y => (ts ++ y.1, y.2))) = s_bx k (acc ++ ts) x := by
  cases x with
  | none => rfl
  | some y =>
    show some ((k, 0, 0, ((acc ++ (ts ++ y.1)).length : Int) + 1, -1) :: (acc ++ (ts ++ y.1)), y.2) = some ((k, 0, 0, ((acc ++ ts ++ y.1).length : Int) + 1, -1) :: (acc ++ ts ++ y.1), y.2)
    rw [List.append_assoc]
theorem s_ps_map (x : Option (List tk × Int)) (g : List tk × Int → List tk) : s_ps (x.map (fun y => (g y, y.2))) = s_ps x := by cases x <;> rfl
theorem s_keep_tr {m m2 : Nat} {P P2 P3 : Nat → Nat → Int} (h : s_keep m P P2) (h2 : s_keep m2 P2 P3) (hm : m ≤ m2) : s_keep m P P3 := fun j hj => (h2 j (by omega)).trans (h j hj)
theorem s_rp_tr {a t t2 : Int} {P P1 P2 : Nat → Nat → Int} {x : Option (List tk × Int)} (h : s_rp a P1 t2 P2 x) (hk : s_keep t.toNat P P1) (ht : a = t) : s_rp t P t2 P2 x := by
  subst ht
  exact ⟨s_keep_tr hk h.1 (Nat.le_refl _), h.2⟩
theorem s_at_cons {P : Nat → Nat → Int} {p : Nat} {x : tk} {ts : List tk} : s_at P p (x :: ts) ↔ s_tok P p = x ∧ s_at P (p + 1) ts := by
  constructor
  · intro h
    refine ⟨h 0 (by simp), fun i hi => ?_⟩
    have := h (i + 1) (by simp only [List.length_cons]; omega)
    rw [Nat.add_assoc, Nat.add_comm 1 i]
    exact this
  · intro h i hi
    cases i with
    | zero => exact h.1
    | succ i =>
      have := h.2 i (by simp only [List.length_cons] at hi; omega)
      rw [Nat.add_assoc, Nat.add_comm 1 i] at this
      exact this
theorem s_at_app {P : Nat → Nat → Int} {p : Nat} {ts us : List tk} : s_at P p (ts ++ us) ↔ s_at P p ts ∧ s_at P (p + ts.length) us := by
  induction ts generalizing p with
  | nil =>
    rw [List.nil_append]
    exact ⟨fun h => ⟨fun i hi => absurd hi (Nat.not_lt_zero _), h⟩, fun h => h.2⟩
  | cons x ts ih =>
    rw [List.cons_append, s_at_cons, s_at_cons, ih, List.length_cons, and_assoc, show p + 1 + ts.length = p + (ts.length + 1) by omega]
theorem s_at_keep {P P2 : Nat → Nat → Int} {p m : Nat} {ts : List tk} (h : s_at P p ts) (hk : s_keep m P P2) (hm : p + ts.length ≤ m) : s_at P2 p ts := fun i hi => (hk _ (by omega)).trans (h i hi)
theorem s_at_nil (P : Nat → Nat → Int) (p : Nat) : s_at P p [] := fun i hi => absurd hi (Nat.not_lt_zero _)
theorem s_tok_8 {P P2 : Nat → Nat → Int} {j k : Nat} (h : s_tok P j = s_tok P2 k) : P 8 j = P2 8 k := congrArg (fun x : tk => x.2.2.2.1) h
theorem s_tok_9 {P P2 : Nat → Nat → Int} {j k : Nat} (h : s_tok P j = s_tok P2 k) : P 9 j = P2 9 k := congrArg (fun x : tk => x.2.2.2.2) h
theorem s_tok_cl (P : Nat → Nat → Int) (a : Nat) (z : Int) (j : Nat) : s_tok (x_up P 8 (x_up (P 8) a z)) j = if j = a then (P 5 j, P 6 j, P 7 j, z, P 9 j) else s_tok P j := by
  show (P 5 j, P 6 j, P 7 j, x_up (P 8) a z j, P 9 j) = _
  by_cases e : j = a
  · rw [if_pos e, e, x_up_s]
  · rw [if_neg e, x_up_n _ _ e]; rfl
theorem s_tok_nm (P : Nat → Nat → Int) (a : Nat) (z : Int) (j : Nat) : s_tok (x_up P 9 (x_up (P 9) a z)) j = if j = a then (P 5 j, P 6 j, P 7 j, P 8 j, z) else s_tok P j := by
  show (P 5 j, P 6 j, P 7 j, P 8 j, x_up (P 9) a z j) = _
  by_cases e : j = a
  · rw [if_pos e, e, x_up_s]
  · rw [if_neg e, x_up_n _ _ e]; rfl
/-- a box is closed -/
theorem s_close {k a t j : Int} {P : Nat → Nat → Int} {acc : List tk} (ho : s_ok5 P) (ha : 0 ≤ a) (ht : t = a + 1 + acc.length) (hm : t ≤ 12900) (h : s_at P a.toNat ((k, 0, 0, 1, -1) :: acc)) : s_rp a P t (x_up P 8 (x_up (P 8) a.toNat (t - a))) (s_bx k acc (some ([], j))) := by
  refine ⟨fun i hi => ?_, ⟨fun i => ?_, ho.2⟩, by omega, hm, fun ts j2 e => ?_⟩
  · rw [s_tok_cl, if_neg (by omega)]
  · show 0 ≤ x_up (P 8) a.toNat (t - a) i ∧ x_up (P 8) a.toNat (t - a) i ≤ 12900
    by_cases e : i = a.toNat
    · rw [e, x_up_s]; omega
    · rw [x_up_n _ _ e]; exact ho.1 i
  · have e := Option.some.inj e
    have e1 : (k, 0, 0, ((acc ++ []).length : Int) + 1, -1) :: (acc ++ []) = ts := congrArg Prod.fst e
    rw [List.append_nil] at e1
    subst e1
    refine ⟨by simp only [List.length_cons]; omega, ?_⟩
    rw [s_at_cons] at h ⊢
    refine ⟨?_, fun i hi => ?_⟩
    · rw [s_tok_cl, if_pos rfl]
      have h1 := h.1
      have g1 : P 5 a.toNat = k := congrArg (fun x : tk => x.1) h1
      have g2 : P 6 a.toNat = 0 := congrArg (fun x : tk => x.2.1) h1
      have g3 : P 7 a.toNat = 0 := congrArg (fun x : tk => x.2.2.1) h1
      have g4 : P 9 a.toNat = -1 := congrArg (fun x : tk => x.2.2.2.2) h1
      rw [g1, g2, g3, g4, show t - a = (acc.length : Int) + 1 by omega]
    · rw [s_tok_cl, if_neg (by omega)]
      exact h.2 i hi
theorem s_rp_weak {a t t2 : Int} {P P2 : Nat → Nat → Int} {x : Option (List tk × Int)} (h : s_rp t P t2 P2 x) (ha : 0 ≤ a ∧ a ≤ t) : s_rp a P t2 P2 none := ⟨s_keep_tr (fun _ _ => rfl) h.1 (by omega), h.2.1, by have := h.2.2.1; omega, h.2.2.2.1, fun _ _ e => by cases e⟩
/-- a part gets its name -/
theorem s_rp_nm {t t2 u : Int} {P P2 : Nat → Nat → Int} {x : Option (List tk × Int)} (h : s_rp t P t2 P2 x) (hx : ∀ y, x = some y → y.1 ≠ []) (hs : x ≠ none) (hu : -1 ≤ u ∧ u ≤ 10248) : s_rp t P t2 (x_up P2 9 (x_up (P2 9) t.toNat u)) (x.map (fun y => (s_nm u y.1, y.2))) := by
  obtain ⟨h1, h2, h3, h4, h5⟩ := h
  refine ⟨fun i hi => ?_, ⟨h2.1, fun i => ?_⟩, h3, h4, fun ts j e => ?_⟩
  · rw [s_tok_nm, if_neg (by omega)]; exact h1 i hi
  · show -1 ≤ x_up (P2 9) t.toNat u i ∧ x_up (P2 9) t.toNat u i ≤ 10248
    by_cases e : i = t.toNat
    · rw [e, x_up_s]; exact hu
    · rw [x_up_n _ _ e]; exact h2.2 i
  · obtain ⟨y, hy, e⟩ := Option.map_eq_some_iff.mp e
    have e1 : s_nm u y.1 = ts := congrArg Prod.fst e
    subst e1
    obtain ⟨g1, g2⟩ := h5 y.1 y.2 hy
    refine ⟨by rw [s_nm_len]; exact g1, ?_⟩
    cases hy1 : y.1 with
    | nil => exact absurd hy1 (hx y hy)
    | cons z l =>
      rw [hy1] at g2
      show s_at _ _ ((z.1, z.2.1, z.2.2.1, z.2.2.2.1, u) :: l)
      rw [s_at_cons] at g2 ⊢
      refine ⟨?_, fun i hi => ?_⟩
      · rw [s_tok_nm, if_pos rfl]
        have k1 := g2.1
        rw [← k1]
        rfl
      · rw [s_tok_nm, if_neg (by omega)]
        exact g2.2 i hi
/-- a row of values, each behind the other, from a to e -/
def s_ch (sp : Nat → Int) : Int → List Int → Int → Prop
  | a, [], e => a = e
  | a, x :: L, e => x = a ∧ 0 ≤ a ∧ s_ch sp (s_bh sp a) L e
theorem s_ch_le {sp : Nat → Int} : ∀ {L : List Int} {a e : Int}, s_ch sp a L e → a ≤ e
  | [], _, _, h => Int.le_of_eq h
  | x :: L, a, e, h => by
    have := s_ch_le h.2.2
    have := s_bh_gt sp a
    omega
theorem s_ch_K {sp : Nat → Int} : ∀ {L : List Int} {a e : Int}, s_ch sp a L e → s_K sp e a = L
  | [], _, _, h => s_K_stop (by have : _ = _ := h; omega)
  | x :: L, a, e, h => by
    have h1 := s_ch_le h.2.2
    have h2 := s_bh_gt sp a
    rw [s_K_step (by omega), s_ch_K h.2.2, h.1]
theorem s_ch_keep {sp sp2 : Nat → Int} : ∀ {L : List Int} {a e : Int}, s_ch sp a L e → (∀ j : Nat, (j : Int) < e → sp2 j = sp j) → s_ch sp2 a L e
  | [], _, _, h, _ => h
  | x :: L, a, e, h, hk => by
    have h1 := s_ch_le h.2.2
    have h2 := s_bh_gt sp a
    have h3 := h.2.1
    have e1 : s_bh sp2 a = s_bh sp a := by unfold s_bh; rw [hk a.toNat (by omega)]
    refine ⟨h.1, h.2.1, ?_⟩
    rw [e1]
    exact s_ch_keep h.2.2 hk
theorem s_ch_snoc {sp : Nat → Int} : ∀ {L : List Int} {a e : Int}, s_ch sp a L e → 0 ≤ e → s_ch sp a (L ++ [e]) (s_bh sp e)
  | [], a, e, h, h0 => by
    have h : a = e := h
    subst h
    exact ⟨rfl, h0, rfl⟩
  | x :: L, a, e, h, h0 => ⟨h.1, h.2.1, s_ch_snoc h.2.2 h0⟩
theorem s_ch_lt {sp : Nat → Int} : ∀ {L : List Int} {a e : Int}, s_ch sp a L e → ∀ x, x ∈ L → a ≤ x ∧ x < e
  | [], _, _, _, x, hx => by cases hx
  | y :: L, a, e, h, x, hx => by
    have h1 := s_ch_le h.2.2
    have h2 := s_bh_gt sp a
    rcases List.mem_cons.mp hx with rfl | hx
    · have := h.1
      omega
    · have := s_ch_lt h.2.2 x hx
      omega
/-- what is asked of a read at the depth that leaves D -/
def RD (Z : xZ) (q : Nat → Int) (r : Nat → Option Nat) (A : Nat → Nat → Int) (dy : xH) (D : Nat) : Prop := ∀ (d : Nat) (t : Int) (P : Nat → Nat → Int) (i e : Int), 3 * D + 12 ≤ d → s_ok5 P → (i = -1 ∨ (0 ≤ i ∧ i ≤ q 35)) → (0 ≤ t ∧ t < 12900 ∧ (0 ≤ i → t + (q 35 - i) < 12900)) → e = 9 - (D : Int) → xMet Z d Y_R_read [xC 10, xI i, xI e] (hF (x_up q 133 t) r (s_pt A P) ++ dy) (fun v h2 => ∃ t2 P2, v = some (xI (s_ps (s_val (A 2) (q 35) D i))) ∧ h2 = hF (x_up q 133 t2) r (s_pt A P2) ++ dy ∧ s_rp t P t2 P2 (s_val (A 2) (q 35) D i))
theorem c_R_readNamed (Z : xZ) (d : Nat) (q : Nat → Int) (r : Nat → Option Nat) (A : Nat → Nat → Int) (dy : xH) (t : Int) (P : Nat → Nat → Int) (D : Nat) (hD : D ≤ 8) (hd : 3 * D + 13 ≤ d) (u e : Int) (hT : 0 ≤ q 34 ∧ q 34 ≤ q 35 ∧ q 35 ≤ 10248) (hR : s_okR A) (hB : ∀ j, -128 ≤ A 2 j ∧ A 2 j ≤ 127) (ho : s_ok5 P) (hrec : RD Z q r A dy D) (he : e = 8 - (D : Int)) (hu : 0 ≤ u ∧ u ≤ q 35) (ht : 0 ≤ t ∧ t + (q 35 - u) < 12900) : xMet Z d Y_R_readNamed [xC 10, xI u, xI e] (hF (x_up q 133 t) r (s_pt A P) ++ dy) (fun v h2 => ∃ t2 P2, v = some (xI (s_ps ((s_val (A 2) (q 35) D (s_sc s_white (A 2) (q 35) (s_name (A 2) (q 35) u))).map (fun y => (s_nm (u + 1) y.1, y.2))))) ∧ h2 = hF (x_up q 133 t2) r (s_pt A P2) ++ dy ∧ s_rp t P t2 P2 ((s_val (A 2) (q 35) D (s_sc s_white (A 2) (q 35) (s_name (A 2) (q 35) u))).map (fun y => (s_nm (u + 1) y.1, y.2)))) := by
  refine xMet_of (by decide) (Nat.le_of_ble_eq_true rfl) (fun v h2 hq => by obtain ⟨_, _, e, _⟩ := hq; rw [e]; trivial) ?_
  have hnm := s_name_in (A 2) (q 35) u
  have hwg := s_sc_ge s_white (A 2) (q 35) (s_name (A 2) (q 35) u)
  have hwl : s_name (A 2) (q 35) u ≤ q 35 → s_sc s_white (A 2) (q 35) (s_name (A 2) (q 35) u) ≤ q 35 := fun h => s_sc_le s_white _ h
  have hw0 : s_name (A 2) (q 35) u = -1 → s_sc s_white (A 2) (q 35) (s_name (A 2) (q 35) u) = -1 := fun h => by rw [h]; exact s_sc_0 _ _ (by omega)
  have hv2 := s_val_ok (A 2) hB (q 35) D (s_sc s_white (A 2) (q 35) (s_name (A 2) (q 35) u))
  have hvn : s_sc s_white (A 2) (q 35) (s_name (A 2) (q 35) u) = -1 → s_ps (s_val (A 2) (q 35) D (s_sc s_white (A 2) (q 35) (s_name (A 2) (q 35) u))) = -1 := fun h => by rw [h, s_val_neg (A 2) hB (q 35) D (by omega)]; rfl
  refine x_aload_n (x_d C_R_readNamed 0 rfl) rfl ?_
  refine x_getfield (v := xC 4) (x_d C_R_readNamed 1 rfl) f_R_15 rfl rfl ?_
  refine x_getfield (v := xI (t)) (x_d C_R_readNamed 2 rfl) f_R_73 rfl rfl ?_
  refine x_istore_n (l1 := [(3, xI (t)), (0, xC 10), (1, xI (u)), (2, xI (e))]) (x_d C_R_readNamed 3 rfl) (by decide) rfl ?_
  refine x_aload_n (x_d C_R_readNamed 4 rfl) rfl ?_
  refine x_aload_n (x_d C_R_readNamed 5 rfl) rfl ?_
  refine x_getfield (v := xC 1) (x_d C_R_readNamed 6 rfl) f_R_9 rfl rfl ?_
  refine x_aload_n (x_d C_R_readNamed 7 rfl) rfl ?_
  refine x_getfield (v := xC 1) (x_d C_R_readNamed 8 rfl) f_R_9 rfl rfl ?_
  refine x_iload_n (x_d C_R_readNamed 9 rfl) rfl ?_
  refine x_invokevirtual (st := [xC 1, xC 10]) (av := [xI (u)]) (x_d C_R_readNamed 10 rfl) k_R_77 m_T_afterName v_T_afterName cl_T rfl rfl (Nat.le_of_ble_eq_true rfl) (by omega) rfl (c_T_afterName Z (d - 1) (x_up q 133 t) r (x_up (x_up (x_up (x_up (x_up A 5 (P 5)) 6 (P 6)) 7 (P 7)) 8 (P 8)) 9 (P 9)) dy (by omega) u hT hR (by omega)) ?_
  rintro v_ _ ⟨hv_, rfl⟩
  obtain rfl : v_ = some (xI (s_name (A 2) (q 35) u)) := hv_
  refine x_invokevirtual (st := [xC 10]) (av := [xI (s_name (A 2) (q 35) u)]) (x_d C_R_readNamed 11 rfl) k_R_50 m_T_afterWhite v_T_afterWhite cl_T rfl rfl (Nat.le_of_ble_eq_true rfl) (by omega) rfl (c_T_afterWhite Z (d - 1) (x_up q 133 t) r (x_up (x_up (x_up (x_up (x_up A 5 (P 5)) 6 (P 6)) 7 (P 7)) 8 (P 8)) 9 (P 9)) dy (s_name (A 2) (q 35) u) hT) ?_
  rintro v_ _ ⟨hv_, rfl⟩
  obtain rfl : v_ = some (xI (s_sc s_white (A 2) (q 35) (s_name (A 2) (q 35) u))) := hv_
  refine x_iload_n (x_d C_R_readNamed 12 rfl) rfl ?_
  refine x_iconst (x_d C_R_readNamed 13 rfl) ⟨by omega, by omega⟩ ?_
  refine x_iadd (x_d C_R_readNamed 14 rfl) ⟨by omega, by omega⟩ ?_
  refine x_invokevirtual (st := []) (av := [xI (s_sc s_white (A 2) (q 35) (s_name (A 2) (q 35) u)), xI (e + 1)]) (x_d C_R_readNamed 15 rfl) k_R_57 m_R_read v_R_read cl_R rfl rfl (Nat.le_of_ble_eq_true rfl) (by omega) rfl (hrec (d - 1) t P (s_sc s_white (A 2) (q 35) (s_name (A 2) (q 35) u)) (e + 1) (by omega) ho (by omega) (by omega) (by omega)) ?_
  rintro v_ _ ⟨t1, P1, hv_, rfl, hrp1⟩
  obtain rfl : v_ = some (xI (s_ps (s_val (A 2) (q 35) D (s_sc s_white (A 2) (q 35) (s_name (A 2) (q 35) u))))) := hv_
  refine x_istore (l1 := [(4, xI (s_ps (s_val (A 2) (q 35) D (s_sc s_white (A 2) (q 35) (s_name (A 2) (q 35) u))))), (3, xI (t)), (0, xC 10), (1, xI (u)), (2, xI (e))]) (x_d C_R_readNamed 16 rfl) (by decide) rfl ?_
  refine x_iload (x_d C_R_readNamed 17 rfl) rfl ?_
  refine x_if_lt (tgt := 49) (x_d C_R_readNamed 18 rfl) rfl (fun c2 => ?_) (fun c2 => ?_)
  · refine x_iload (x_d C_R_readNamed 27 rfl) rfl ?_
    refine x_ireturn (x_d C_R_readNamed 28 rfl) ?_
    have e : s_val (A 2) (q 35) D (s_sc s_white (A 2) (q 35) (s_name (A 2) (q 35) u)) = none := by
      cases hy : s_val (A 2) (q 35) D (s_sc s_white (A 2) (q 35) (s_name (A 2) (q 35) u)) with
      | none => rfl
      | some y => rw [hy] at c2; have := hv2 y.1 y.2 hy; exact absurd c2 (by show ¬ y.2 < 0; omega)
    rw [e] at hrp1 ⊢
    exact ⟨t1, P1, rfl, rfl, hrp1⟩
  · refine x_aload_n (x_d C_R_readNamed 19 rfl) rfl ?_
    refine x_getfield (v := xC 4) (x_d C_R_readNamed 20 rfl) f_R_15 rfl rfl ?_
    refine x_getfield (v := xC 9) (x_d C_R_readNamed 21 rfl) f_R_80 rfl rfl ?_
    refine x_iload_n (x_d C_R_readNamed 22 rfl) rfl ?_
    refine x_iload_n (x_d C_R_readNamed 23 rfl) rfl ?_
    refine x_iconst (x_d C_R_readNamed 24 rfl) ⟨by omega, by omega⟩ ?_
    refine x_iadd (x_d C_R_readNamed 25 rfl) ⟨by omega, by omega⟩ ?_
    refine x_iastore (h1 := hF (x_up q 133 t1) r (x_up (x_up (x_up (x_up (x_up A 5 (P1 5)) 6 (P1 6)) 7 (P1 7)) 8 (P1 8)) 9 (x_up (P1 9) (t).toNat (u + 1))) ++ dy) (x_d C_R_readNamed 26 rfl) rfl (by omega) (by omega) rfl ?_
    refine x_iload (x_d C_R_readNamed 27 rfl) rfl ?_
    refine x_ireturn (x_d C_R_readNamed 28 rfl) ?_
    refine ⟨t1, x_up P1 9 (x_up (P1 9) t.toNat (u + 1)), by rw [s_ps_map], rfl, s_rp_nm hrp1 (fun y hy => ?_) (fun z => ?_) (by omega)⟩
    · have := hv2 y.1 y.2 hy
      intro z
      rw [z] at this
      exact absurd this.2.2.2.1.1 (by simp)
    · rw [z] at c2
      exact absurd c2 (by show ¬ ¬ (-1 : Int) < 0; omega)
theorem w_R_readArray_41 (Z : xZ) (d : Nat) (q : Nat → Int) (r : Nat → Option Nat) (A : Nat → Nat → Int) (dy : xH) (D : Nat) (hD : D ≤ 8) (hd : 3 * D + 13 ≤ d) (i e a : Int) (hT : 0 ≤ q 34 ∧ q 34 ≤ q 35 ∧ q 35 ≤ 10248) (hR : s_okR A) (hB : ∀ j, -128 ≤ A 2 j ∧ A 2 j ≤ 127) (hrec : RD Z q r A dy D) (he : e = 8 - (D : Int)) : ∀ (f : Nat) (t : Int) (P : Nat → Nat → Int) (u k : Int) (acc : List tk), k + f = 60 ∧ 0 ≤ k → s_ok5 P → (u = -1 ∨ (0 ≤ u ∧ u ≤ q 35)) → (0 ≤ a ∧ a < t ∧ t ≤ 12900) → (0 ≤ u → t = a + 1 + acc.length ∧ s_at P a.toNat ((6, 0, 0, 1, -1) :: acc) ∧ t + (q 35 - u) < 12900) → xW Z d Y_R_readArray 41 [(0, xC 10), (1, xI i), (2, xI e), (3, xI a), (4, xI u), (5, xI k)] [] (hF (x_up q 133 t) r (s_pt A P) ++ dy) (fun v h2 => ∃ t2 P2, v = some (xI (s_ps (s_bx 6 acc (s_items (s_val (A 2) (q 35) D) (A 2) (q 35) f u)))) ∧ h2 = hF (x_up q 133 t2) r (s_pt A P2) ++ dy ∧ s_rp a P t2 P2 (s_bx 6 acc (s_items (s_val (A 2) (q 35) D) (A 2) (q 35) f u))) := by
  intro f
  induction f with
  | zero =>
    intro t P u k acc hk ho hu ha hacc
    have hvn : u < 0 → s_items (s_val (A 2) (q 35) D) (A 2) (q 35) 0 u = none := fun h => s_items_neg h (s_val_neg (A 2) hB (q 35) D h)
    have hb := s_byte_in (A 2) (q 35) u
    have hv2 := s_val_ok (A 2) hB (q 35) D u
    obtain rfl : k = 60 := by omega
    have hacc2 : 0 ≤ u → t + (q 35 - u) < 12900 := fun h => (hacc h).2.2
    refine x_iload (x_d C_R_readArray 23 rfl) rfl ?_
    refine x_bipush (x_d C_R_readArray 24 rfl) (by omega) ?_
    refine x_icmp_gt (tgt := 104) (x_d C_R_readArray 25 rfl) rfl (fun q => absurd q (by omega)) (fun _ => ?_)
    refine x_iload (x_d C_R_readArray 26 rfl) rfl ?_
    refine x_if_lt (tgt := 104) (x_d C_R_readArray 27 rfl) rfl (fun c2 => ?_) (fun c2 => ?_)
    · refine x_iconst (x_d C_R_readArray 54 rfl) ⟨by omega, by omega⟩ ?_
      refine x_ireturn (x_d C_R_readArray 55 rfl) ?_
      rw [hvn (by omega)]
      exact ⟨t, P, rfl, rfl, ⟨fun _ _ => rfl, ho, by omega, by omega, fun _ _ e => by cases e⟩⟩
    · refine x_aload_n (x_d C_R_readArray 28 rfl) rfl ?_
      refine x_getfield (v := xC 1) (x_d C_R_readArray 29 rfl) f_R_9 rfl rfl ?_
      refine x_iload (x_d C_R_readArray 30 rfl) rfl ?_
      refine x_invokevirtual (st := []) (av := [xI (u)]) (x_d C_R_readArray 31 rfl) k_R_19 m_T_byteAt v_T_byteAt cl_T rfl rfl (Nat.le_of_ble_eq_true rfl) (by omega) rfl (c_T_byteAt Z (d - 1) (x_up q 133 t) r (x_up (x_up (x_up (x_up (x_up A 5 (P 5)) 6 (P 6)) 7 (P 7)) 8 (P 8)) 9 (P 9)) dy u hT) ?_
      rintro v_ _ ⟨hv_, rfl⟩
      obtain rfl : v_ = some (xI (s_byte (A 2) (q 35) u)) := hv_
      refine x_bipush (x_d C_R_readArray 32 rfl) (by omega) ?_
      refine x_icmp_ne (tgt := 80) (x_d C_R_readArray 33 rfl) rfl (fun c3 => ?_) (fun c3 => ?_)
      · refine x_aload_n (x_d C_R_readArray 42 rfl) rfl ?_
        refine x_getfield (v := xC 1) (x_d C_R_readArray 43 rfl) f_R_9 rfl rfl ?_
        refine x_aload_n (x_d C_R_readArray 44 rfl) rfl ?_
        refine x_iload (x_d C_R_readArray 45 rfl) rfl ?_
        refine x_iload_n (x_d C_R_readArray 46 rfl) rfl ?_
        refine x_iconst (x_d C_R_readArray 47 rfl) ⟨by omega, by omega⟩ ?_
        refine x_iadd (x_d C_R_readArray 48 rfl) ⟨by omega, by omega⟩ ?_
        refine x_invokevirtual (st := [xC 1]) (av := [xI (u), xI (e + 1)]) (x_d C_R_readArray 49 rfl) k_R_57 m_R_read v_R_read cl_R rfl rfl (Nat.le_of_ble_eq_true rfl) (by omega) rfl (hrec (d - 1) t P u (e + 1) (by omega) ho (by omega) (by omega) (by omega)) ?_
        rintro v_ _ ⟨t4, P4, hv_, rfl, hrp4⟩
        obtain rfl : v_ = some (xI (s_ps (s_val (A 2) (q 35) D u))) := hv_
        refine x_invokevirtual (st := []) (av := [xI (s_ps (s_val (A 2) (q 35) D u))]) (x_d C_R_readArray 50 rfl) k_R_50 m_T_afterWhite v_T_afterWhite cl_T rfl rfl (Nat.le_of_ble_eq_true rfl) (by omega) rfl (c_T_afterWhite Z (d - 1) (x_up q 133 t4) r (x_up (x_up (x_up (x_up (x_up A 5 (P4 5)) 6 (P4 6)) 7 (P4 7)) 8 (P4 8)) 9 (P4 9)) dy (s_ps (s_val (A 2) (q 35) D u)) hT) ?_
        rintro v_ _ ⟨hv_, rfl⟩
        obtain rfl : v_ = some (xI (s_sc s_white (A 2) (q 35) (s_ps (s_val (A 2) (q 35) D u)))) := hv_
        refine x_istore (l1 := [(4, xI (s_sc s_white (A 2) (q 35) (s_ps (s_val (A 2) (q 35) D u)))), (0, xC 10), (1, xI (i)), (2, xI (e)), (3, xI (a)), (5, xI (60))]) (x_d C_R_readArray 51 rfl) (by decide) rfl ?_
        refine x_iinc (l1 := [(5, xI (61)), (4, xI (s_sc s_white (A 2) (q 35) (s_ps (s_val (A 2) (q 35) D u)))), (0, xC 10), (1, xI (i)), (2, xI (e)), (3, xI (a))]) (x_d C_R_readArray 52 rfl) rfl ⟨by omega, by omega⟩ (by decide) rfl ?_
        refine x_goto (tgt := 41) (x_d C_R_readArray 53 rfl) rfl ?_
        refine x_iload (x_d C_R_readArray 23 rfl) rfl ?_
        refine x_bipush (x_d C_R_readArray 24 rfl) (by omega) ?_
        refine x_icmp_gt (tgt := 104) (x_d C_R_readArray 25 rfl) rfl (fun _ => ?_) (fun q => absurd q (by omega))
        refine x_iconst (x_d C_R_readArray 54 rfl) ⟨by omega, by omega⟩ ?_
        refine x_ireturn (x_d C_R_readArray 55 rfl) ?_
        rw [s_items_0 (by omega)]
        exact ⟨_, _, rfl, rfl, s_rp_weak hrp4 (by omega)⟩
      · refine x_aload_n (x_d C_R_readArray 34 rfl) rfl ?_
        refine x_getfield (v := xC 4) (x_d C_R_readArray 35 rfl) f_R_15 rfl rfl ?_
        refine x_iload_n (x_d C_R_readArray 36 rfl) rfl ?_
        refine x_invokevirtual (st := []) (av := [xI (a)]) (x_d C_R_readArray 37 rfl) k_R_53 m_P_close v_P_close cl_P rfl rfl (Nat.le_of_ble_eq_true rfl) (by omega) rfl (c_P_close Z (d - 1) (x_up q 133 t) r (x_up (x_up (x_up (x_up (x_up A 5 (P 5)) 6 (P 6)) 7 (P 7)) 8 (P 8)) 9 (P 9)) dy a (show 0 ≤ t ∧ t ≤ 12900 ∧ 0 ≤ a ∧ a < 12900 from ⟨by omega, by omega, by omega, by omega⟩)) ?_
        rintro _ _ ⟨rfl, rfl⟩
        refine x_iload (x_d C_R_readArray 38 rfl) rfl ?_
        refine x_iconst (x_d C_R_readArray 39 rfl) ⟨by omega, by omega⟩ ?_
        refine x_iadd (x_d C_R_readArray 40 rfl) ⟨by omega, by omega⟩ ?_
        refine x_ireturn (x_d C_R_readArray 41 rfl) ?_
        obtain ⟨h1, h2, h3⟩ := hacc (by omega)
        rw [s_items_end (by omega)]
        exact ⟨t, _, rfl, rfl, s_close ho (by omega) h1 (by omega) h2⟩
  | succ f ih =>
    intro t P u k acc hk ho hu ha hacc
    have hvn : u < 0 → s_items (s_val (A 2) (q 35) D) (A 2) (q 35) (f + 1) u = none := fun h => s_items_neg h (s_val_neg (A 2) hB (q 35) D h)
    have hb := s_byte_in (A 2) (q 35) u
    have hv2 := s_val_ok (A 2) hB (q 35) D u
    have hacc2 : 0 ≤ u → t + (q 35 - u) < 12900 := fun h => (hacc h).2.2
    refine x_iload (x_d C_R_readArray 23 rfl) rfl ?_
    refine x_bipush (x_d C_R_readArray 24 rfl) (by omega) ?_
    refine x_icmp_gt (tgt := 104) (x_d C_R_readArray 25 rfl) rfl (fun q => absurd q (by omega)) (fun _ => ?_)
    refine x_iload (x_d C_R_readArray 26 rfl) rfl ?_
    refine x_if_lt (tgt := 104) (x_d C_R_readArray 27 rfl) rfl (fun c2 => ?_) (fun c2 => ?_)
    · refine x_iconst (x_d C_R_readArray 54 rfl) ⟨by omega, by omega⟩ ?_
      refine x_ireturn (x_d C_R_readArray 55 rfl) ?_
      rw [hvn (by omega)]
      exact ⟨t, P, rfl, rfl, ⟨fun _ _ => rfl, ho, by omega, by omega, fun _ _ e => by cases e⟩⟩
    · refine x_aload_n (x_d C_R_readArray 28 rfl) rfl ?_
      refine x_getfield (v := xC 1) (x_d C_R_readArray 29 rfl) f_R_9 rfl rfl ?_
      refine x_iload (x_d C_R_readArray 30 rfl) rfl ?_
      refine x_invokevirtual (st := []) (av := [xI (u)]) (x_d C_R_readArray 31 rfl) k_R_19 m_T_byteAt v_T_byteAt cl_T rfl rfl (Nat.le_of_ble_eq_true rfl) (by omega) rfl (c_T_byteAt Z (d - 1) (x_up q 133 t) r (x_up (x_up (x_up (x_up (x_up A 5 (P 5)) 6 (P 6)) 7 (P 7)) 8 (P 8)) 9 (P 9)) dy u hT) ?_
      rintro v_ _ ⟨hv_, rfl⟩
      obtain rfl : v_ = some (xI (s_byte (A 2) (q 35) u)) := hv_
      refine x_bipush (x_d C_R_readArray 32 rfl) (by omega) ?_
      refine x_icmp_ne (tgt := 80) (x_d C_R_readArray 33 rfl) rfl (fun c3 => ?_) (fun c3 => ?_)
      · refine x_aload_n (x_d C_R_readArray 42 rfl) rfl ?_
        refine x_getfield (v := xC 1) (x_d C_R_readArray 43 rfl) f_R_9 rfl rfl ?_
        refine x_aload_n (x_d C_R_readArray 44 rfl) rfl ?_
        refine x_iload (x_d C_R_readArray 45 rfl) rfl ?_
        refine x_iload_n (x_d C_R_readArray 46 rfl) rfl ?_
        refine x_iconst (x_d C_R_readArray 47 rfl) ⟨by omega, by omega⟩ ?_
        refine x_iadd (x_d C_R_readArray 48 rfl) ⟨by omega, by omega⟩ ?_
        refine x_invokevirtual (st := [xC 1]) (av := [xI (u), xI (e + 1)]) (x_d C_R_readArray 49 rfl) k_R_57 m_R_read v_R_read cl_R rfl rfl (Nat.le_of_ble_eq_true rfl) (by omega) rfl (hrec (d - 1) t P u (e + 1) (by omega) ho (by omega) (by omega) (by omega)) ?_
        rintro v_ _ ⟨t4, P4, hv_, rfl, hrp4⟩
        obtain rfl : v_ = some (xI (s_ps (s_val (A 2) (q 35) D u))) := hv_
        refine x_invokevirtual (st := []) (av := [xI (s_ps (s_val (A 2) (q 35) D u))]) (x_d C_R_readArray 50 rfl) k_R_50 m_T_afterWhite v_T_afterWhite cl_T rfl rfl (Nat.le_of_ble_eq_true rfl) (by omega) rfl (c_T_afterWhite Z (d - 1) (x_up q 133 t4) r (x_up (x_up (x_up (x_up (x_up A 5 (P4 5)) 6 (P4 6)) 7 (P4 7)) 8 (P4 8)) 9 (P4 9)) dy (s_ps (s_val (A 2) (q 35) D u)) hT) ?_
        rintro v_ _ ⟨hv_, rfl⟩
        obtain rfl : v_ = some (xI (s_sc s_white (A 2) (q 35) (s_ps (s_val (A 2) (q 35) D u)))) := hv_
        refine x_istore (l1 := [(4, xI (s_sc s_white (A 2) (q 35) (s_ps (s_val (A 2) (q 35) D u)))), (0, xC 10), (1, xI (i)), (2, xI (e)), (3, xI (a)), (5, xI (k))]) (x_d C_R_readArray 51 rfl) (by decide) rfl ?_
        refine x_iinc (l1 := [(5, xI (k + 1)), (4, xI (s_sc s_white (A 2) (q 35) (s_ps (s_val (A 2) (q 35) D u)))), (0, xC 10), (1, xI (i)), (2, xI (e)), (3, xI (a))]) (x_d C_R_readArray 52 rfl) rfl ⟨by omega, by omega⟩ (by decide) rfl ?_
        refine x_goto (tgt := 41) (x_d C_R_readArray 53 rfl) rfl ?_
        refine x_locs [2, 3, 4, 5, 1, 0] rfl ?_
        obtain ⟨h1, h2, h3⟩ := hacc (by omega)
        rw [s_items_s (by omega)]
        obtain ⟨k1, k2, k3, k4, k5⟩ := hrp4
        have hk0 : a.toNat ≤ t.toNat := by omega
        cases hy : s_val (A 2) (q 35) D u with
        | none =>
          rw [Option.bind_none, s_bx_none]
          have e1 : s_sc s_white (A 2) (q 35) (s_ps none) = -1 := s_sc_0 _ _ (by show (-1 : Int) < 0; omega)
          rw [e1]
          refine xW_post ?_ (ih t4 P4 (-1) (k + 1) [] ⟨by omega, by omega⟩ k2 (Or.inl rfl) (by omega) (fun h => absurd h (by omega)))
          rintro v h ⟨t9, P9, g1, g2, g3⟩
          rw [s_items_neg (by omega) (s_val_neg (A 2) hB (q 35) D (by omega))] at g1 g3
          exact ⟨t9, P9, g1, g2, ⟨fun j hj => (g3.1 j hj).trans (k1 j (Nat.lt_of_lt_of_le hj hk0)), g3.2⟩⟩
        | some y =>
          obtain ⟨g1, g2, g3, g4, g5, g6⟩ := hv2 y.1 y.2 hy
          obtain ⟨m1, m2⟩ := k5 y.1 y.2 hy
          rw [Option.bind_some, s_bx_more]
          have e1 := s_sc_ge s_white (A 2) (q 35) y.2
          have e2 := s_sc_le s_white (A 2) (n := q 35) (t := y.2) (by omega)
          show xW _ _ _ _ [(0, xC 10), (1, xI i), (2, xI e), (3, xI a), (4, xI (s_sc s_white (A 2) (q 35) y.2)), (5, xI (k + 1))] _ _ _
          refine xW_post ?_ (ih t4 P4 _ (k + 1) (acc ++ y.1) ⟨by omega, by omega⟩ k2 (Or.inr ⟨by omega, by omega⟩) (by omega) (fun _ => ⟨by rw [List.length_append]; omega, ?_, by omega⟩))
          · rintro v h ⟨t9, P9, l1, l2, l3⟩
            exact ⟨t9, P9, l1, l2, ⟨fun j hj => (l3.1 j hj).trans (k1 j (Nat.lt_of_lt_of_le hj hk0)), l3.2⟩⟩
          · show s_at P4 a.toNat (((6, 0, 0, 1, -1) :: acc) ++ y.1)
            rw [s_at_app]
            refine ⟨s_at_keep h2 k1 (by simp only [List.length_cons]; omega), ?_⟩
            rw [show a.toNat + ((6, 0, 0, 1, -1) :: acc : List tk).length = t.toNat by simp only [List.length_cons]; omega]
            exact m2
      · refine x_aload_n (x_d C_R_readArray 34 rfl) rfl ?_
        refine x_getfield (v := xC 4) (x_d C_R_readArray 35 rfl) f_R_15 rfl rfl ?_
        refine x_iload_n (x_d C_R_readArray 36 rfl) rfl ?_
        refine x_invokevirtual (st := []) (av := [xI (a)]) (x_d C_R_readArray 37 rfl) k_R_53 m_P_close v_P_close cl_P rfl rfl (Nat.le_of_ble_eq_true rfl) (by omega) rfl (c_P_close Z (d - 1) (x_up q 133 t) r (x_up (x_up (x_up (x_up (x_up A 5 (P 5)) 6 (P 6)) 7 (P 7)) 8 (P 8)) 9 (P 9)) dy a (show 0 ≤ t ∧ t ≤ 12900 ∧ 0 ≤ a ∧ a < 12900 from ⟨by omega, by omega, by omega, by omega⟩)) ?_
        rintro _ _ ⟨rfl, rfl⟩
        refine x_iload (x_d C_R_readArray 38 rfl) rfl ?_
        refine x_iconst (x_d C_R_readArray 39 rfl) ⟨by omega, by omega⟩ ?_
        refine x_iadd (x_d C_R_readArray 40 rfl) ⟨by omega, by omega⟩ ?_
        refine x_ireturn (x_d C_R_readArray 41 rfl) ?_
        obtain ⟨h1, h2, h3⟩ := hacc (by omega)
        rw [s_items_end (by omega)]
        exact ⟨t, _, rfl, rfl, s_close ho (by omega) h1 (by omega) h2⟩
theorem c_R_readArray (Z : xZ) (d : Nat) (q : Nat → Int) (r : Nat → Option Nat) (A : Nat → Nat → Int) (dy : xH) (t : Int) (P : Nat → Nat → Int) (D : Nat) (hD : D ≤ 8) (hd : 3 * D + 13 ≤ d) (i e : Int) (hT : 0 ≤ q 34 ∧ q 34 ≤ q 35 ∧ q 35 ≤ 10248) (hR : s_okR A) (hB : ∀ j, -128 ≤ A 2 j ∧ A 2 j ≤ 127) (ho : s_ok5 P) (hrec : RD Z q r A dy D) (he : e = 8 - (D : Int)) (hi : 0 ≤ i ∧ i < q 35) (ht : 0 ≤ t ∧ t + (q 35 - i) < 12900) : xMet Z d Y_R_readArray [xC 10, xI i, xI e] (hF (x_up q 133 t) r (s_pt A P) ++ dy) (fun v h2 => ∃ t2 P2, v = some (xI (s_ps (s_bx 6 [] (s_items (s_val (A 2) (q 35) D) (A 2) (q 35) 60 (s_sc s_white (A 2) (q 35) (i + 1)))))) ∧ h2 = hF (x_up q 133 t2) r (s_pt A P2) ++ dy ∧ s_rp t P t2 P2 (s_bx 6 [] (s_items (s_val (A 2) (q 35) D) (A 2) (q 35) 60 (s_sc s_white (A 2) (q 35) (i + 1))))) := by
  refine xMet_of (by decide) (Nat.le_of_ble_eq_true rfl) (fun v h2 hq => by obtain ⟨_, _, e, _⟩ := hq; rw [e]; trivial) ?_
  have hw1 := s_sc_ge s_white (A 2) (q 35) (i + 1)
  have hw2 : i + 1 ≤ q 35 → s_sc s_white (A 2) (q 35) (i + 1) ≤ q 35 := fun h => s_sc_le s_white _ h
  refine x_aload_n (x_d C_R_readArray 0 rfl) rfl ?_
  refine x_getfield (v := xC 4) (x_d C_R_readArray 1 rfl) f_R_15 rfl rfl ?_
  refine x_bipush (x_d C_R_readArray 2 rfl) (by omega) ?_
  refine x_iconst (x_d C_R_readArray 3 rfl) ⟨by omega, by omega⟩ ?_
  refine x_iconst (x_d C_R_readArray 4 rfl) ⟨by omega, by omega⟩ ?_
  refine x_invokevirtual (st := []) (av := [xI (6), xI (0), xI (0)]) (x_d C_R_readArray 5 rfl) k_R_44 m_P_add v_P_add cl_P rfl rfl (Nat.le_of_ble_eq_true rfl) (by omega) rfl (c_P_add Z (d - 1) (x_up q 133 t) r (x_up (x_up (x_up (x_up (x_up A 5 (P 5)) 6 (P 6)) 7 (P 7)) 8 (P 8)) 9 (P 9)) dy 6 0 0 (show 0 ≤ t ∧ t < 12900 from ⟨by omega, by omega⟩)) ?_
  rintro v_ _ ⟨hv_, rfl⟩
  obtain rfl : v_ = some (xI (t)) := hv_
  refine x_istore_n (l1 := [(3, xI (t)), (0, xC 10), (1, xI (i)), (2, xI (e))]) (x_d C_R_readArray 6 rfl) (by decide) rfl ?_
  refine x_iload_n (x_d C_R_readArray 7 rfl) rfl ?_
  refine x_if_lt (tgt := 22) (x_d C_R_readArray 8 rfl) rfl (fun q => absurd q (by omega)) (fun _ => ?_)
  refine x_iload_n (x_d C_R_readArray 9 rfl) rfl ?_
  refine x_bipush (x_d C_R_readArray 10 rfl) (by omega) ?_
  refine x_icmp_le (tgt := 26) (x_d C_R_readArray 11 rfl) rfl (fun _ => ?_) (fun q => absurd q (by omega))
  refine x_aload_n (x_d C_R_readArray 14 rfl) rfl ?_
  refine x_getfield (v := xC 1) (x_d C_R_readArray 15 rfl) f_R_9 rfl rfl ?_
  refine x_iload_n (x_d C_R_readArray 16 rfl) rfl ?_
  refine x_iconst (x_d C_R_readArray 17 rfl) ⟨by omega, by omega⟩ ?_
  refine x_iadd (x_d C_R_readArray 18 rfl) ⟨by omega, by omega⟩ ?_
  refine x_invokevirtual (st := []) (av := [xI (i + 1)]) (x_d C_R_readArray 19 rfl) k_R_50 m_T_afterWhite v_T_afterWhite cl_T rfl rfl (Nat.le_of_ble_eq_true rfl) (by omega) rfl (c_T_afterWhite Z (d - 1) (x_up q 133 (t + 1)) r (x_up (x_up (x_up (x_up (x_up A 5 (x_up (P 5) (t).toNat 6)) 6 (x_up (P 6) (t).toNat 0)) 7 (x_up (P 7) (t).toNat 0)) 8 (x_up (P 8) (t).toNat 1)) 9 (x_up (P 9) (t).toNat (-1))) dy (i + 1) hT) ?_
  rintro v_ _ ⟨hv_, rfl⟩
  obtain rfl : v_ = some (xI (s_sc s_white (A 2) (q 35) (i + 1))) := hv_
  refine x_istore (l1 := [(4, xI (s_sc s_white (A 2) (q 35) (i + 1))), (3, xI (t)), (0, xC 10), (1, xI (i)), (2, xI (e))]) (x_d C_R_readArray 20 rfl) (by decide) rfl ?_
  refine x_iconst (x_d C_R_readArray 21 rfl) ⟨by omega, by omega⟩ ?_
  refine x_istore (l1 := [(5, xI (0)), (4, xI (s_sc s_white (A 2) (q 35) (i + 1))), (3, xI (t)), (0, xC 10), (1, xI (i)), (2, xI (e))]) (x_d C_R_readArray 22 rfl) (by decide) rfl ?_
  refine x_locs [3, 4, 5, 2, 1, 0] rfl ?_
  refine xW_post ?_ (w_R_readArray_41 Z d q r A dy D hD hd i e t hT hR hB hrec he 60 (t + 1) (s_app P t (6, 0, 0, 1, -1)) _ 0 [] ⟨by omega, by omega⟩ (s_app_ok ho ⟨by show (0 : Int) ≤ 1; omega, by show (1 : Int) ≤ 12900; omega⟩ ⟨by show (-1 : Int) ≤ -1; omega, by show (-1 : Int) ≤ 10248; omega⟩) (by omega) (by omega) (fun _ => ⟨by simp only [List.length_nil]; omega, by rw [s_at_cons]; exact ⟨by rw [s_app_tok, if_pos rfl], s_at_nil _ _⟩, by omega⟩))
  rintro v h2 ⟨t9, P9, g1, g2, g3⟩
  exact ⟨t9, P9, g1, g2, s_rp_tr g3 (s_app_keep P t _) rfl⟩
theorem c_R_readArray9 (Z : xZ) (d : Nat) (q : Nat → Int) (r : Nat → Option Nat) (A : Nat → Nat → Int) (dy : xH) (t : Int) (P : Nat → Nat → Int) (hd : 2 ≤ d) (i : Int) (hT : 0 ≤ q 34 ∧ q 34 ≤ q 35 ∧ q 35 ≤ 10248) (ho : s_ok5 P) (hi : 0 ≤ i ∧ i < q 35) (ht : 0 ≤ t ∧ t + (q 35 - i) < 12900) : xMet Z d Y_R_readArray [xC 10, xI i, xI 9] (hF (x_up q 133 t) r (s_pt A P) ++ dy) (fun v h2 => ∃ t2 P2, v = some (xI (s_ps none)) ∧ h2 = hF (x_up q 133 t2) r (s_pt A P2) ++ dy ∧ s_rp t P t2 P2 none) := by
  refine xMet_of (by decide) (Nat.le_of_ble_eq_true rfl) (fun v h2 hq => by obtain ⟨_, _, e, _⟩ := hq; rw [e]; trivial) ?_
  refine x_aload_n (x_d C_R_readArray 0 rfl) rfl ?_
  refine x_getfield (v := xC 4) (x_d C_R_readArray 1 rfl) f_R_15 rfl rfl ?_
  refine x_bipush (x_d C_R_readArray 2 rfl) (by omega) ?_
  refine x_iconst (x_d C_R_readArray 3 rfl) ⟨by omega, by omega⟩ ?_
  refine x_iconst (x_d C_R_readArray 4 rfl) ⟨by omega, by omega⟩ ?_
  refine x_invokevirtual (st := []) (av := [xI (6), xI (0), xI (0)]) (x_d C_R_readArray 5 rfl) k_R_44 m_P_add v_P_add cl_P rfl rfl (Nat.le_of_ble_eq_true rfl) (by omega) rfl (c_P_add Z (d - 1) (x_up q 133 t) r (x_up (x_up (x_up (x_up (x_up A 5 (P 5)) 6 (P 6)) 7 (P 7)) 8 (P 8)) 9 (P 9)) dy 6 0 0 (show 0 ≤ t ∧ t < 12900 from ⟨by omega, by omega⟩)) ?_
  rintro v_ _ ⟨hv_, rfl⟩
  obtain rfl : v_ = some (xI (t)) := hv_
  refine x_istore_n (l1 := [(3, xI (t)), (0, xC 10), (1, xI (i)), (2, xI (9))]) (x_d C_R_readArray 6 rfl) (by decide) rfl ?_
  refine x_iload_n (x_d C_R_readArray 7 rfl) rfl ?_
  refine x_if_lt (tgt := 22) (x_d C_R_readArray 8 rfl) rfl (fun q => absurd q (by omega)) (fun _ => ?_)
  refine x_iload_n (x_d C_R_readArray 9 rfl) rfl ?_
  refine x_bipush (x_d C_R_readArray 10 rfl) (by omega) ?_
  refine x_icmp_le (tgt := 26) (x_d C_R_readArray 11 rfl) rfl (fun q => absurd q (by omega)) (fun _ => ?_)
  refine x_iconst (x_d C_R_readArray 12 rfl) ⟨by omega, by omega⟩ ?_
  refine x_goto (tgt := 36) (x_d C_R_readArray 13 rfl) rfl ?_
  refine x_istore (l1 := [(4, xI (-1)), (3, xI (t)), (0, xC 10), (1, xI (i)), (2, xI (9))]) (x_d C_R_readArray 20 rfl) (by decide) rfl ?_
  refine x_iconst (x_d C_R_readArray 21 rfl) ⟨by omega, by omega⟩ ?_
  refine x_istore (l1 := [(5, xI (0)), (4, xI (-1)), (3, xI (t)), (0, xC 10), (1, xI (i)), (2, xI (9))]) (x_d C_R_readArray 22 rfl) (by decide) rfl ?_
  refine x_iload (x_d C_R_readArray 23 rfl) rfl ?_
  refine x_bipush (x_d C_R_readArray 24 rfl) (by omega) ?_
  refine x_icmp_gt (tgt := 104) (x_d C_R_readArray 25 rfl) rfl (fun q => absurd q (by omega)) (fun _ => ?_)
  refine x_iload (x_d C_R_readArray 26 rfl) rfl ?_
  refine x_if_lt (tgt := 104) (x_d C_R_readArray 27 rfl) rfl (fun _ => ?_) (fun q => absurd q (by omega))
  refine x_iconst (x_d C_R_readArray 54 rfl) ⟨by omega, by omega⟩ ?_
  refine x_ireturn (x_d C_R_readArray 55 rfl) ?_
  exact ⟨t + 1, (s_app P t (6, 0, 0, 1, -1)), rfl, rfl, ⟨s_app_keep P t _, (s_app_ok ho ⟨by show (0 : Int) ≤ 1; omega, by show (1 : Int) ≤ 12900; omega⟩ ⟨by show (-1 : Int) ≤ -1; omega, by show (-1 : Int) ≤ 10248; omega⟩), by omega, by omega, fun _ _ e => by cases e⟩⟩
theorem w_R_readDict_41 (Z : xZ) (d : Nat) (q : Nat → Int) (r : Nat → Option Nat) (A : Nat → Nat → Int) (dy : xH) (D : Nat) (hD : D ≤ 8) (hd : 3 * D + 14 ≤ d) (i e a : Int) (hT : 0 ≤ q 34 ∧ q 34 ≤ q 35 ∧ q 35 ≤ 10248) (hR : s_okR A) (hB : ∀ j, -128 ≤ A 2 j ∧ A 2 j ≤ 127) (hrec : RD Z q r A dy D) (he : e = 8 - (D : Int)) : ∀ (f : Nat) (t : Int) (P : Nat → Nat → Int) (u k : Int) (acc : List tk) (ns : List Int), k + f = 30 ∧ 0 ≤ k → s_ok5 P → (u = -1 ∨ (0 ≤ u ∧ u ≤ q 35)) → (0 ≤ a ∧ a < t ∧ t ≤ 12900) → (0 ≤ u → t = a + 1 + acc.length ∧ s_at P a.toNat ((7, 0, 0, 1, -1) :: acc) ∧ t + (q 35 - u) < 12900 ∧ ∃ L, s_ch (P 8) (a + 1) L t ∧ L.map (fun x => P 9 x.toNat) = ns) → xW Z d Y_R_readDict 41 [(0, xC 10), (1, xI i), (2, xI e), (3, xI a), (4, xI u), (5, xI k)] [] (hF (x_up q 133 t) r (s_pt A P) ++ dy) (fun v h2 => ∃ t2 P2, v = some (xI (s_ps (s_bx 7 acc (s_ents (s_val (A 2) (q 35) D) (A 2) (q 35) f u ns)))) ∧ h2 = hF (x_up q 133 t2) r (s_pt A P2) ++ dy ∧ s_rp a P t2 P2 (s_bx 7 acc (s_ents (s_val (A 2) (q 35) D) (A 2) (q 35) f u ns))) := by
  intro f
  induction f with
  | zero =>
    intro t P u k acc ns hk ho hu ha hacc
    have hvn : u < 0 → s_ents (s_val (A 2) (q 35) D) (A 2) (q 35) 0 u ns = none := fun h => s_ents_neg h
    have hb := s_byte_in (A 2) (q 35) u
    have hv2 := s_val_ok (A 2) hB (q 35) D (s_sc s_white (A 2) (q 35) (s_name (A 2) (q 35) u))
    have hnm := s_name_in (A 2) (q 35) u
    have hacc2 : 0 ≤ u → t + (q 35 - u) < 12900 := fun h => (hacc h).2.2.1
    have hw2 : s_name (A 2) (q 35) u ≤ q 35 → s_sc s_white (A 2) (q 35) (s_name (A 2) (q 35) u) ≤ q 35 := fun h => s_sc_le s_white _ h
    obtain rfl : k = 30 := by omega
    refine x_iload (x_d C_R_readDict 23 rfl) rfl ?_
    refine x_bipush (x_d C_R_readDict 24 rfl) (by omega) ?_
    refine x_icmp_gt (tgt := 132) (x_d C_R_readDict 25 rfl) rfl (fun q => absurd q (by omega)) (fun _ => ?_)
    refine x_iload (x_d C_R_readDict 26 rfl) rfl ?_
    refine x_if_lt (tgt := 132) (x_d C_R_readDict 27 rfl) rfl (fun c2 => ?_) (fun c2 => ?_)
    · refine x_iconst (x_d C_R_readDict 66 rfl) ⟨by omega, by omega⟩ ?_
      refine x_ireturn (x_d C_R_readDict 67 rfl) ?_
      first
      | (rw [hvn (by omega)]
         exact ⟨t, P, rfl, rfl, ⟨fun _ _ => rfl, ho, by omega, by omega, fun _ _ e => by cases e⟩⟩)
      | (rw [s_ents_0 (by omega)]
         exact ⟨t, P, rfl, rfl, ⟨fun _ _ => rfl, ho, by omega, by omega, fun _ _ e => by cases e⟩⟩)
    · refine x_aload_n (x_d C_R_readDict 28 rfl) rfl ?_
      refine x_getfield (v := xC 1) (x_d C_R_readDict 29 rfl) f_R_9 rfl rfl ?_
      refine x_iload (x_d C_R_readDict 30 rfl) rfl ?_
      refine x_invokevirtual (st := []) (av := [xI (u)]) (x_d C_R_readDict 31 rfl) k_R_19 m_T_byteAt v_T_byteAt cl_T rfl rfl (Nat.le_of_ble_eq_true rfl) (by omega) rfl (c_T_byteAt Z (d - 1) (x_up q 133 t) r (x_up (x_up (x_up (x_up (x_up A 5 (P 5)) 6 (P 6)) 7 (P 7)) 8 (P 8)) 9 (P 9)) dy u hT) ?_
      rintro v_ _ ⟨hv_, rfl⟩
      obtain rfl : v_ = some (xI (s_byte (A 2) (q 35) u)) := hv_
      refine x_bipush (x_d C_R_readDict 32 rfl) (by omega) ?_
      refine x_icmp_ne (tgt := 87) (x_d C_R_readDict 33 rfl) rfl (fun c3 => ?_) (fun c3 => ?_)
      · refine x_aload_n (x_d C_R_readDict 44 rfl) rfl ?_
        refine x_getfield (v := xC 4) (x_d C_R_readDict 45 rfl) f_R_15 rfl rfl ?_
        refine x_iload_n (x_d C_R_readDict 46 rfl) rfl ?_
        refine x_iload (x_d C_R_readDict 47 rfl) rfl ?_
        refine x_iconst (x_d C_R_readDict 48 rfl) ⟨by omega, by omega⟩ ?_
        refine x_iadd (x_d C_R_readDict 49 rfl) ⟨by omega, by omega⟩ ?_
        refine x_invokevirtual (st := []) (av := [xI (a), xI (u + 1)]) (x_d C_R_readDict 50 rfl) k_R_66 m_P_hasNameOf v_P_hasNameOf cl_P rfl rfl (Nat.le_of_ble_eq_true rfl) (by omega) rfl (c_P_hasNameOf Z (d - 1) (x_up q 133 t) r (x_up (x_up (x_up (x_up (x_up A 5 (P 5)) 6 (P 6)) 7 (P 7)) 8 (P 8)) 9 (P 9)) dy (by omega) a (u + 1) hT hR ho.1 ho.2 (by omega) (show 0 ≤ a ∧ t ≤ 12900 ∧ a < 12900 from ⟨by omega, by omega, by omega⟩)) ?_
        rintro v_ _ ⟨hv_, rfl⟩
        obtain ⟨h1, h2, h3, L, h4, h5⟩ := hacc (by omega)
        have hany : (s_K (P 8) t (a + 1)).any (fun z => s_same (A 2) (q 35) (P 9 z.toNat) (u + 1)) = ns.any (fun z => s_same (A 2) (q 35) z (u + 1)) := by rw [s_ch_K h4, ← h5, List.any_map]; rfl
        obtain rfl : v_ = some (xI (x_bo (ns.any (fun z => s_same (A 2) (q 35) z (u + 1))))) := by rw [← hany]; exact hv_
        refine x_istore (l1 := [(6, xI (x_bo (ns.any (fun z => s_same (A 2) (q 35) z (u + 1))))), (0, xC 10), (1, xI (i)), (2, xI (e)), (3, xI (a)), (4, xI (u)), (5, xI (30))]) (x_d C_R_readDict 51 rfl) (by decide) rfl ?_
        refine x_iload (x_d C_R_readDict 52 rfl) rfl ?_
        refine x_if_eq (tgt := 110) (x_d C_R_readDict 53 rfl) rfl (fun c4 => ?_) (fun c4 => ?_)
        · refine x_aload_n (x_d C_R_readDict 56 rfl) rfl ?_
          refine x_getfield (v := xC 1) (x_d C_R_readDict 57 rfl) f_R_9 rfl rfl ?_
          refine x_aload_n (x_d C_R_readDict 58 rfl) rfl ?_
          refine x_iload (x_d C_R_readDict 59 rfl) rfl ?_
          refine x_iload_n (x_d C_R_readDict 60 rfl) rfl ?_
          refine x_invokevirtual (st := [xC 1]) (av := [xI (u), xI (e)]) (x_d C_R_readDict 61 rfl) k_R_70 m_R_readNamed v_R_readNamed cl_R rfl rfl (Nat.le_of_ble_eq_true rfl) (by omega) rfl (c_R_readNamed Z (d - 1) q r A dy t P D hD (by omega) u e hT hR hB ho hrec he (by omega) (by omega)) ?_
          rintro v_ _ ⟨t5, P5, hv_, rfl, hrp5⟩
          obtain rfl : v_ = some (xI (s_ps ((s_val (A 2) (q 35) D (s_sc s_white (A 2) (q 35) (s_name (A 2) (q 35) u))).map (fun y => (s_nm (u + 1) y.1, y.2))))) := hv_
          refine x_invokevirtual (st := []) (av := [xI (s_ps ((s_val (A 2) (q 35) D (s_sc s_white (A 2) (q 35) (s_name (A 2) (q 35) u))).map (fun y => (s_nm (u + 1) y.1, y.2))))]) (x_d C_R_readDict 62 rfl) k_R_50 m_T_afterWhite v_T_afterWhite cl_T rfl rfl (Nat.le_of_ble_eq_true rfl) (by omega) rfl (c_T_afterWhite Z (d - 1) (x_up q 133 t5) r (x_up (x_up (x_up (x_up (x_up A 5 (P5 5)) 6 (P5 6)) 7 (P5 7)) 8 (P5 8)) 9 (P5 9)) dy (s_ps ((s_val (A 2) (q 35) D (s_sc s_white (A 2) (q 35) (s_name (A 2) (q 35) u))).map (fun y => (s_nm (u + 1) y.1, y.2)))) hT) ?_
          rintro v_ _ ⟨hv_, rfl⟩
          obtain rfl : v_ = some (xI (s_sc s_white (A 2) (q 35) (s_ps ((s_val (A 2) (q 35) D (s_sc s_white (A 2) (q 35) (s_name (A 2) (q 35) u))).map (fun y => (s_nm (u + 1) y.1, y.2)))))) := hv_
          refine x_istore (l1 := [(4, xI (s_sc s_white (A 2) (q 35) (s_ps ((s_val (A 2) (q 35) D (s_sc s_white (A 2) (q 35) (s_name (A 2) (q 35) u))).map (fun y => (s_nm (u + 1) y.1, y.2)))))), (6, xI (x_bo (ns.any (fun z => s_same (A 2) (q 35) z (u + 1))))), (0, xC 10), (1, xI (i)), (2, xI (e)), (3, xI (a)), (5, xI (30))]) (x_d C_R_readDict 63 rfl) (by decide) rfl ?_
          refine x_iinc (l1 := [(5, xI (31)), (4, xI (s_sc s_white (A 2) (q 35) (s_ps ((s_val (A 2) (q 35) D (s_sc s_white (A 2) (q 35) (s_name (A 2) (q 35) u))).map (fun y => (s_nm (u + 1) y.1, y.2)))))), (6, xI (x_bo (ns.any (fun z => s_same (A 2) (q 35) z (u + 1))))), (0, xC 10), (1, xI (i)), (2, xI (e)), (3, xI (a))]) (x_d C_R_readDict 64 rfl) rfl ⟨by omega, by omega⟩ (by decide) rfl ?_
          refine x_goto (tgt := 41) (x_d C_R_readDict 65 rfl) rfl ?_
          refine x_iload (x_d C_R_readDict 23 rfl) rfl ?_
          refine x_bipush (x_d C_R_readDict 24 rfl) (by omega) ?_
          refine x_icmp_gt (tgt := 132) (x_d C_R_readDict 25 rfl) rfl (fun _ => ?_) (fun q => absurd q (by omega))
          refine x_iconst (x_d C_R_readDict 66 rfl) ⟨by omega, by omega⟩ ?_
          refine x_ireturn (x_d C_R_readDict 67 rfl) ?_
          rw [s_ents_0 (by omega)]
          exact ⟨_, _, rfl, rfl, s_rp_weak hrp5 (by omega)⟩
        · refine x_iconst (x_d C_R_readDict 54 rfl) ⟨by omega, by omega⟩ ?_
          refine x_goto (tgt := 124) (x_d C_R_readDict 55 rfl) rfl ?_
          refine x_istore (l1 := [(4, xI (-1)), (6, xI (x_bo (ns.any (fun z => s_same (A 2) (q 35) z (u + 1))))), (0, xC 10), (1, xI (i)), (2, xI (e)), (3, xI (a)), (5, xI (30))]) (x_d C_R_readDict 63 rfl) (by decide) rfl ?_
          refine x_iinc (l1 := [(5, xI (31)), (4, xI (-1)), (6, xI (x_bo (ns.any (fun z => s_same (A 2) (q 35) z (u + 1))))), (0, xC 10), (1, xI (i)), (2, xI (e)), (3, xI (a))]) (x_d C_R_readDict 64 rfl) rfl ⟨by omega, by omega⟩ (by decide) rfl ?_
          refine x_goto (tgt := 41) (x_d C_R_readDict 65 rfl) rfl ?_
          refine x_iload (x_d C_R_readDict 23 rfl) rfl ?_
          refine x_bipush (x_d C_R_readDict 24 rfl) (by omega) ?_
          refine x_icmp_gt (tgt := 132) (x_d C_R_readDict 25 rfl) rfl (fun _ => ?_) (fun q => absurd q (by omega))
          refine x_iconst (x_d C_R_readDict 66 rfl) ⟨by omega, by omega⟩ ?_
          refine x_ireturn (x_d C_R_readDict 67 rfl) ?_
          first
          | (rw [hvn (by omega)]
             exact ⟨t, P, rfl, rfl, ⟨fun _ _ => rfl, ho, by omega, by omega, fun _ _ e => by cases e⟩⟩)
          | (rw [s_ents_0 (by omega)]
             exact ⟨t, P, rfl, rfl, ⟨fun _ _ => rfl, ho, by omega, by omega, fun _ _ e => by cases e⟩⟩)
      · refine x_aload_n (x_d C_R_readDict 34 rfl) rfl ?_
        refine x_getfield (v := xC 4) (x_d C_R_readDict 35 rfl) f_R_15 rfl rfl ?_
        refine x_iload_n (x_d C_R_readDict 36 rfl) rfl ?_
        refine x_invokevirtual (st := []) (av := [xI (a)]) (x_d C_R_readDict 37 rfl) k_R_53 m_P_close v_P_close cl_P rfl rfl (Nat.le_of_ble_eq_true rfl) (by omega) rfl (c_P_close Z (d - 1) (x_up q 133 t) r (x_up (x_up (x_up (x_up (x_up A 5 (P 5)) 6 (P 6)) 7 (P 7)) 8 (P 8)) 9 (P 9)) dy a (show 0 ≤ t ∧ t ≤ 12900 ∧ 0 ≤ a ∧ a < 12900 from ⟨by omega, by omega, by omega, by omega⟩)) ?_
        rintro _ _ ⟨rfl, rfl⟩
        refine x_aload_n (x_d C_R_readDict 38 rfl) rfl ?_
        refine x_getfield (v := xC 1) (x_d C_R_readDict 39 rfl) f_R_9 rfl rfl ?_
        refine x_iload (x_d C_R_readDict 40 rfl) rfl ?_
        refine x_ldcS (i := 9) (x_d C_R_readDict 41 rfl) rfl ?_
        refine x_invokevirtual (st := []) (av := [xI (u), xS (19)]) (x_d C_R_readDict 42 rfl) k_R_62 m_T_afterText v_T_afterText cl_T rfl rfl (Nat.le_of_ble_eq_true rfl) (by omega) rfl (c_T_afterText Z (d - 1) (x_up q 133 t) r (x_up (x_up (x_up (x_up (x_up A 5 (P 5)) 6 (P 6)) 7 (P 7)) 8 (x_up (P 8) (a).toNat (t - a))) 9 (P 9)) dy (by omega) (i := 9) rfl u hT) ?_
        rintro v_ _ ⟨hv_, rfl⟩
        obtain rfl : v_ = some (xI (s_txt (A 2) (q 35) u [62, 62])) := hv_
        refine x_ireturn (x_d C_R_readDict 43 rfl) ?_
        obtain ⟨h1, h2, h3, -⟩ := hacc (by omega)
        rw [s_ents_end (by omega)]
        have ht2 := s_txt_in (A 2) (q 35) u [62, 62]
        by_cases hc : 0 ≤ s_txt (A 2) (q 35) u [62, 62]
        · rw [if_pos hc]
          exact ⟨t, _, rfl, rfl, s_close ho (by omega) h1 (by omega) h2⟩
        · rw [if_neg hc]
          exact ⟨t, _, by rw [show s_txt (A 2) (q 35) u [62, 62] = -1 by omega]; rfl, rfl, ⟨(s_close (j := 0) ho (by omega) h1 (by omega) h2).1, (s_close (j := 0) ho (by omega) h1 (by omega) h2).2.1, by omega, by omega, fun _ _ e => by cases e⟩⟩
  | succ f ih =>
    intro t P u k acc ns hk ho hu ha hacc
    have hvn : u < 0 → s_ents (s_val (A 2) (q 35) D) (A 2) (q 35) (f + 1) u ns = none := fun h => s_ents_neg h
    have hb := s_byte_in (A 2) (q 35) u
    have hv2 := s_val_ok (A 2) hB (q 35) D (s_sc s_white (A 2) (q 35) (s_name (A 2) (q 35) u))
    have hnm := s_name_in (A 2) (q 35) u
    have hacc2 : 0 ≤ u → t + (q 35 - u) < 12900 := fun h => (hacc h).2.2.1
    have hw2 : s_name (A 2) (q 35) u ≤ q 35 → s_sc s_white (A 2) (q 35) (s_name (A 2) (q 35) u) ≤ q 35 := fun h => s_sc_le s_white _ h
    refine x_iload (x_d C_R_readDict 23 rfl) rfl ?_
    refine x_bipush (x_d C_R_readDict 24 rfl) (by omega) ?_
    refine x_icmp_gt (tgt := 132) (x_d C_R_readDict 25 rfl) rfl (fun q => absurd q (by omega)) (fun _ => ?_)
    refine x_iload (x_d C_R_readDict 26 rfl) rfl ?_
    refine x_if_lt (tgt := 132) (x_d C_R_readDict 27 rfl) rfl (fun c2 => ?_) (fun c2 => ?_)
    · refine x_iconst (x_d C_R_readDict 66 rfl) ⟨by omega, by omega⟩ ?_
      refine x_ireturn (x_d C_R_readDict 67 rfl) ?_
      first
      | (rw [hvn (by omega)]
         exact ⟨t, P, rfl, rfl, ⟨fun _ _ => rfl, ho, by omega, by omega, fun _ _ e => by cases e⟩⟩)
      | (rw [s_ents_0 (by omega)]
         exact ⟨t, P, rfl, rfl, ⟨fun _ _ => rfl, ho, by omega, by omega, fun _ _ e => by cases e⟩⟩)
    · refine x_aload_n (x_d C_R_readDict 28 rfl) rfl ?_
      refine x_getfield (v := xC 1) (x_d C_R_readDict 29 rfl) f_R_9 rfl rfl ?_
      refine x_iload (x_d C_R_readDict 30 rfl) rfl ?_
      refine x_invokevirtual (st := []) (av := [xI (u)]) (x_d C_R_readDict 31 rfl) k_R_19 m_T_byteAt v_T_byteAt cl_T rfl rfl (Nat.le_of_ble_eq_true rfl) (by omega) rfl (c_T_byteAt Z (d - 1) (x_up q 133 t) r (x_up (x_up (x_up (x_up (x_up A 5 (P 5)) 6 (P 6)) 7 (P 7)) 8 (P 8)) 9 (P 9)) dy u hT) ?_
      rintro v_ _ ⟨hv_, rfl⟩
      obtain rfl : v_ = some (xI (s_byte (A 2) (q 35) u)) := hv_
      refine x_bipush (x_d C_R_readDict 32 rfl) (by omega) ?_
      refine x_icmp_ne (tgt := 87) (x_d C_R_readDict 33 rfl) rfl (fun c3 => ?_) (fun c3 => ?_)
      · refine x_aload_n (x_d C_R_readDict 44 rfl) rfl ?_
        refine x_getfield (v := xC 4) (x_d C_R_readDict 45 rfl) f_R_15 rfl rfl ?_
        refine x_iload_n (x_d C_R_readDict 46 rfl) rfl ?_
        refine x_iload (x_d C_R_readDict 47 rfl) rfl ?_
        refine x_iconst (x_d C_R_readDict 48 rfl) ⟨by omega, by omega⟩ ?_
        refine x_iadd (x_d C_R_readDict 49 rfl) ⟨by omega, by omega⟩ ?_
        refine x_invokevirtual (st := []) (av := [xI (a), xI (u + 1)]) (x_d C_R_readDict 50 rfl) k_R_66 m_P_hasNameOf v_P_hasNameOf cl_P rfl rfl (Nat.le_of_ble_eq_true rfl) (by omega) rfl (c_P_hasNameOf Z (d - 1) (x_up q 133 t) r (x_up (x_up (x_up (x_up (x_up A 5 (P 5)) 6 (P 6)) 7 (P 7)) 8 (P 8)) 9 (P 9)) dy (by omega) a (u + 1) hT hR ho.1 ho.2 (by omega) (show 0 ≤ a ∧ t ≤ 12900 ∧ a < 12900 from ⟨by omega, by omega, by omega⟩)) ?_
        rintro v_ _ ⟨hv_, rfl⟩
        obtain ⟨h1, h2, h3, L, h4, h5⟩ := hacc (by omega)
        have hany : (s_K (P 8) t (a + 1)).any (fun z => s_same (A 2) (q 35) (P 9 z.toNat) (u + 1)) = ns.any (fun z => s_same (A 2) (q 35) z (u + 1)) := by rw [s_ch_K h4, ← h5, List.any_map]; rfl
        obtain rfl : v_ = some (xI (x_bo (ns.any (fun z => s_same (A 2) (q 35) z (u + 1))))) := by rw [← hany]; exact hv_
        refine x_istore (l1 := [(6, xI (x_bo (ns.any (fun z => s_same (A 2) (q 35) z (u + 1))))), (0, xC 10), (1, xI (i)), (2, xI (e)), (3, xI (a)), (4, xI (u)), (5, xI (k))]) (x_d C_R_readDict 51 rfl) (by decide) rfl ?_
        refine x_iload (x_d C_R_readDict 52 rfl) rfl ?_
        refine x_if_eq (tgt := 110) (x_d C_R_readDict 53 rfl) rfl (fun c4 => ?_) (fun c4 => ?_)
        · refine x_aload_n (x_d C_R_readDict 56 rfl) rfl ?_
          refine x_getfield (v := xC 1) (x_d C_R_readDict 57 rfl) f_R_9 rfl rfl ?_
          refine x_aload_n (x_d C_R_readDict 58 rfl) rfl ?_
          refine x_iload (x_d C_R_readDict 59 rfl) rfl ?_
          refine x_iload_n (x_d C_R_readDict 60 rfl) rfl ?_
          refine x_invokevirtual (st := [xC 1]) (av := [xI (u), xI (e)]) (x_d C_R_readDict 61 rfl) k_R_70 m_R_readNamed v_R_readNamed cl_R rfl rfl (Nat.le_of_ble_eq_true rfl) (by omega) rfl (c_R_readNamed Z (d - 1) q r A dy t P D hD (by omega) u e hT hR hB ho hrec he (by omega) (by omega)) ?_
          rintro v_ _ ⟨t5, P5, hv_, rfl, hrp5⟩
          obtain rfl : v_ = some (xI (s_ps ((s_val (A 2) (q 35) D (s_sc s_white (A 2) (q 35) (s_name (A 2) (q 35) u))).map (fun y => (s_nm (u + 1) y.1, y.2))))) := hv_
          refine x_invokevirtual (st := []) (av := [xI (s_ps ((s_val (A 2) (q 35) D (s_sc s_white (A 2) (q 35) (s_name (A 2) (q 35) u))).map (fun y => (s_nm (u + 1) y.1, y.2))))]) (x_d C_R_readDict 62 rfl) k_R_50 m_T_afterWhite v_T_afterWhite cl_T rfl rfl (Nat.le_of_ble_eq_true rfl) (by omega) rfl (c_T_afterWhite Z (d - 1) (x_up q 133 t5) r (x_up (x_up (x_up (x_up (x_up A 5 (P5 5)) 6 (P5 6)) 7 (P5 7)) 8 (P5 8)) 9 (P5 9)) dy (s_ps ((s_val (A 2) (q 35) D (s_sc s_white (A 2) (q 35) (s_name (A 2) (q 35) u))).map (fun y => (s_nm (u + 1) y.1, y.2)))) hT) ?_
          rintro v_ _ ⟨hv_, rfl⟩
          obtain rfl : v_ = some (xI (s_sc s_white (A 2) (q 35) (s_ps ((s_val (A 2) (q 35) D (s_sc s_white (A 2) (q 35) (s_name (A 2) (q 35) u))).map (fun y => (s_nm (u + 1) y.1, y.2)))))) := hv_
          refine x_istore (l1 := [(4, xI (s_sc s_white (A 2) (q 35) (s_ps ((s_val (A 2) (q 35) D (s_sc s_white (A 2) (q 35) (s_name (A 2) (q 35) u))).map (fun y => (s_nm (u + 1) y.1, y.2)))))), (6, xI (x_bo (ns.any (fun z => s_same (A 2) (q 35) z (u + 1))))), (0, xC 10), (1, xI (i)), (2, xI (e)), (3, xI (a)), (5, xI (k))]) (x_d C_R_readDict 63 rfl) (by decide) rfl ?_
          refine x_iinc (l1 := [(5, xI (k + 1)), (4, xI (s_sc s_white (A 2) (q 35) (s_ps ((s_val (A 2) (q 35) D (s_sc s_white (A 2) (q 35) (s_name (A 2) (q 35) u))).map (fun y => (s_nm (u + 1) y.1, y.2)))))), (6, xI (x_bo (ns.any (fun z => s_same (A 2) (q 35) z (u + 1))))), (0, xC 10), (1, xI (i)), (2, xI (e)), (3, xI (a))]) (x_d C_R_readDict 64 rfl) rfl ⟨by omega, by omega⟩ (by decide) rfl ?_
          refine x_goto (tgt := 41) (x_d C_R_readDict 65 rfl) rfl ?_
          refine x_locs [3, 4, 5, 6, 1, 0] rfl ?_
          rw [s_ents_s (by omega), if_neg (fun z => absurd (x_bo_1.mpr z) (by omega))]
          obtain ⟨k1, k2, k3, k4, k5⟩ := hrp5
          have hk0 : a.toNat ≤ t.toNat := by omega
          have hfail : s_sc s_white (A 2) (q 35) (s_ps ((none : Option (List tk × Int)).map (fun y => (s_nm (u + 1) y.1, y.2)))) = -1 := s_sc_0 _ _ (by show (-1 : Int) < 0; omega)
          cases hy : s_val (A 2) (q 35) D (s_sc s_white (A 2) (q 35) (s_name (A 2) (q 35) u)) with
          | none =>
            rw [hfail]
            have e2 : (if s_name (A 2) (q 35) u < 0 then none else (none : Option (List tk × Int)).bind (fun x => (s_ents (s_val (A 2) (q 35) D) (A 2) (q 35) f (s_sc s_white (A 2) (q 35) x.2) (ns ++ [u + 1])).map (fun y => (s_nm (u + 1) x.1 ++ y.1, y.2)))) = none := by split <;> rfl
            rw [e2, s_bx_none]
            refine xW_post ?_ (ih t5 P5 (-1) (k + 1) [] [] ⟨by omega, by omega⟩ k2 (Or.inl rfl) (by omega) (fun h => absurd h (by omega)))
            rintro v h ⟨t9, P9, g1, g2, g3⟩
            rw [s_ents_neg (by omega)] at g1 g3
            exact ⟨t9, P9, g1, g2, ⟨fun j hj => (g3.1 j hj).trans (k1 j (Nat.lt_of_lt_of_le hj hk0)), g3.2⟩⟩
          | some y =>
            obtain ⟨g1, g2, g3, g4, g5, g6⟩ := hv2 y.1 y.2 hy
            have hn0 : ¬ s_name (A 2) (q 35) u < 0 := fun z => by rw [show s_name (A 2) (q 35) u = -1 by omega, s_sc_0 _ _ (by omega), s_val_neg (A 2) hB (q 35) D (by omega)] at hy; cases hy
            have hw4 := s_sc_ge s_white (A 2) (q 35) (s_name (A 2) (q 35) u)
            obtain ⟨m1, m2⟩ := k5 (s_nm (u + 1) y.1) y.2 (by rw [hy]; rfl)
            rw [s_nm_len] at m1
            rw [if_neg hn0, Option.bind_some, s_bx_more]
            have e1 := s_sc_ge s_white (A 2) (q 35) y.2
            have e2 := s_sc_le s_white (A 2) (n := q 35) (t := y.2) (by omega)
            show xW _ _ _ _ [(0, xC 10), (1, xI i), (2, xI e), (3, xI a), (4, xI (s_sc s_white (A 2) (q 35) y.2)), (5, xI (k + 1))] _ _ _
            refine xW_post ?_ (ih t5 P5 _ (k + 1) (acc ++ s_nm (u + 1) y.1) (ns ++ [u + 1]) ⟨by omega, by omega⟩ k2 (Or.inr ⟨by omega, by omega⟩) (by omega) (fun _ => ⟨by rw [List.length_append, s_nm_len]; omega, ?_, by omega, L ++ [t], ?_, ?_⟩))
            · rintro v h ⟨t9, P9, l1, l2, l3⟩
              exact ⟨t9, P9, l1, l2, ⟨fun j hj => (l3.1 j hj).trans (k1 j (Nat.lt_of_lt_of_le hj hk0)), l3.2⟩⟩
            · show s_at P5 a.toNat (((7, 0, 0, 1, -1) :: acc) ++ s_nm (u + 1) y.1)
              rw [s_at_app]
              refine ⟨s_at_keep h2 k1 (by simp only [List.length_cons]; omega), ?_⟩
              rw [show a.toNat + ((7, 0, 0, 1, -1) :: acc : List tk).length = t.toNat by simp only [List.length_cons]; omega]
              exact m2
            · have hsp : P5 8 t.toNat = y.1.length ∧ P5 9 t.toNat = u + 1 := by
                cases hy1 : y.1 with
                | nil => rw [hy1] at g4; exact absurd g4.1 (by simp)
                | cons z l =>
                  rw [hy1] at m2 g5
                  have m3 := (s_at_cons.mp m2).1
                  exact ⟨(congrArg (fun x : tk => x.2.2.2.1) m3).trans (g5 z rfl).1, congrArg (fun x : tk => x.2.2.2.2) m3⟩
              have h6 : s_ch (P5 8) (a + 1) L t := s_ch_keep h4 (fun j hj => s_tok_8 (k1 j (by omega)))
              have h7 := s_ch_snoc h6 (by omega)
              rw [show s_bh (P5 8) t = t5 by unfold s_bh; rw [hsp.1]; omega] at h7
              exact h7
            · have hsp : P5 9 t.toNat = u + 1 := by
                cases hy1 : y.1 with
                | nil => rw [hy1] at g4; exact absurd g4.1 (by simp)
                | cons z l =>
                  rw [hy1] at m2
                  exact congrArg (fun x : tk => x.2.2.2.2) (s_at_cons.mp m2).1
              rw [List.map_append, ← h5]
              congr 1
              · refine List.map_congr_left (fun x hx => ?_)
                have := s_ch_lt h4 x hx
                exact s_tok_9 (k1 x.toNat (by omega))
              · show [P5 9 t.toNat] = _
                rw [hsp]
        · refine x_iconst (x_d C_R_readDict 54 rfl) ⟨by omega, by omega⟩ ?_
          refine x_goto (tgt := 124) (x_d C_R_readDict 55 rfl) rfl ?_
          refine x_istore (l1 := [(4, xI (-1)), (6, xI (x_bo (ns.any (fun z => s_same (A 2) (q 35) z (u + 1))))), (0, xC 10), (1, xI (i)), (2, xI (e)), (3, xI (a)), (5, xI (k))]) (x_d C_R_readDict 63 rfl) (by decide) rfl ?_
          refine x_iinc (l1 := [(5, xI (k + 1)), (4, xI (-1)), (6, xI (x_bo (ns.any (fun z => s_same (A 2) (q 35) z (u + 1))))), (0, xC 10), (1, xI (i)), (2, xI (e)), (3, xI (a))]) (x_d C_R_readDict 64 rfl) rfl ⟨by omega, by omega⟩ (by decide) rfl ?_
          refine x_goto (tgt := 41) (x_d C_R_readDict 65 rfl) rfl ?_
          refine x_locs [3, 4, 5, 6, 1, 0] rfl ?_
          rw [s_ents_s (by omega), if_pos (x_bo_1.mp (by omega)), s_bx_none]
          refine xW_post ?_ (ih t P (-1) (k + 1) [] [] ⟨by omega, by omega⟩ ho (Or.inl rfl) (by omega) (fun h => absurd h (by omega)))
          rintro v h ⟨t9, P9, g1, g2, g3⟩
          rw [s_ents_neg (by omega)] at g1 g3
          exact ⟨t9, P9, g1, g2, g3⟩
      · refine x_aload_n (x_d C_R_readDict 34 rfl) rfl ?_
        refine x_getfield (v := xC 4) (x_d C_R_readDict 35 rfl) f_R_15 rfl rfl ?_
        refine x_iload_n (x_d C_R_readDict 36 rfl) rfl ?_
        refine x_invokevirtual (st := []) (av := [xI (a)]) (x_d C_R_readDict 37 rfl) k_R_53 m_P_close v_P_close cl_P rfl rfl (Nat.le_of_ble_eq_true rfl) (by omega) rfl (c_P_close Z (d - 1) (x_up q 133 t) r (x_up (x_up (x_up (x_up (x_up A 5 (P 5)) 6 (P 6)) 7 (P 7)) 8 (P 8)) 9 (P 9)) dy a (show 0 ≤ t ∧ t ≤ 12900 ∧ 0 ≤ a ∧ a < 12900 from ⟨by omega, by omega, by omega, by omega⟩)) ?_
        rintro _ _ ⟨rfl, rfl⟩
        refine x_aload_n (x_d C_R_readDict 38 rfl) rfl ?_
        refine x_getfield (v := xC 1) (x_d C_R_readDict 39 rfl) f_R_9 rfl rfl ?_
        refine x_iload (x_d C_R_readDict 40 rfl) rfl ?_
        refine x_ldcS (i := 9) (x_d C_R_readDict 41 rfl) rfl ?_
        refine x_invokevirtual (st := []) (av := [xI (u), xS (19)]) (x_d C_R_readDict 42 rfl) k_R_62 m_T_afterText v_T_afterText cl_T rfl rfl (Nat.le_of_ble_eq_true rfl) (by omega) rfl (c_T_afterText Z (d - 1) (x_up q 133 t) r (x_up (x_up (x_up (x_up (x_up A 5 (P 5)) 6 (P 6)) 7 (P 7)) 8 (x_up (P 8) (a).toNat (t - a))) 9 (P 9)) dy (by omega) (i := 9) rfl u hT) ?_
        rintro v_ _ ⟨hv_, rfl⟩
        obtain rfl : v_ = some (xI (s_txt (A 2) (q 35) u [62, 62])) := hv_
        refine x_ireturn (x_d C_R_readDict 43 rfl) ?_
        obtain ⟨h1, h2, h3, -⟩ := hacc (by omega)
        rw [s_ents_end (by omega)]
        have ht2 := s_txt_in (A 2) (q 35) u [62, 62]
        by_cases hc : 0 ≤ s_txt (A 2) (q 35) u [62, 62]
        · rw [if_pos hc]
          exact ⟨t, _, rfl, rfl, s_close ho (by omega) h1 (by omega) h2⟩
        · rw [if_neg hc]
          exact ⟨t, _, by rw [show s_txt (A 2) (q 35) u [62, 62] = -1 by omega]; rfl, rfl, ⟨(s_close (j := 0) ho (by omega) h1 (by omega) h2).1, (s_close (j := 0) ho (by omega) h1 (by omega) h2).2.1, by omega, by omega, fun _ _ e => by cases e⟩⟩
theorem c_R_readDict (Z : xZ) (d : Nat) (q : Nat → Int) (r : Nat → Option Nat) (A : Nat → Nat → Int) (dy : xH) (t : Int) (P : Nat → Nat → Int) (D : Nat) (hD : D ≤ 8) (hd : 3 * D + 14 ≤ d) (i e : Int) (hT : 0 ≤ q 34 ∧ q 34 ≤ q 35 ∧ q 35 ≤ 10248) (hR : s_okR A) (hB : ∀ j, -128 ≤ A 2 j ∧ A 2 j ≤ 127) (ho : s_ok5 P) (hrec : RD Z q r A dy D) (he : e = 8 - (D : Int)) (hi : 0 ≤ i ∧ i + 1 < q 35) (ht : 0 ≤ t ∧ t + (q 35 - i) < 12900) : xMet Z d Y_R_readDict [xC 10, xI i, xI e] (hF (x_up q 133 t) r (s_pt A P) ++ dy) (fun v h2 => ∃ t2 P2, v = some (xI (s_ps (s_bx 7 [] (s_ents (s_val (A 2) (q 35) D) (A 2) (q 35) 30 (s_sc s_white (A 2) (q 35) (i + 2)) [])))) ∧ h2 = hF (x_up q 133 t2) r (s_pt A P2) ++ dy ∧ s_rp t P t2 P2 (s_bx 7 [] (s_ents (s_val (A 2) (q 35) D) (A 2) (q 35) 30 (s_sc s_white (A 2) (q 35) (i + 2)) []))) := by
  refine xMet_of (by decide) (Nat.le_of_ble_eq_true rfl) (fun v h2 hq => by obtain ⟨_, _, e, _⟩ := hq; rw [e]; trivial) ?_
  have hw1 := s_sc_ge s_white (A 2) (q 35) (i + 2)
  have hw2 : i + 2 ≤ q 35 → s_sc s_white (A 2) (q 35) (i + 2) ≤ q 35 := fun h => s_sc_le s_white _ h
  refine x_aload_n (x_d C_R_readDict 0 rfl) rfl ?_
  refine x_getfield (v := xC 4) (x_d C_R_readDict 1 rfl) f_R_15 rfl rfl ?_
  refine x_bipush (x_d C_R_readDict 2 rfl) (by omega) ?_
  refine x_iconst (x_d C_R_readDict 3 rfl) ⟨by omega, by omega⟩ ?_
  refine x_iconst (x_d C_R_readDict 4 rfl) ⟨by omega, by omega⟩ ?_
  refine x_invokevirtual (st := []) (av := [xI (7), xI (0), xI (0)]) (x_d C_R_readDict 5 rfl) k_R_44 m_P_add v_P_add cl_P rfl rfl (Nat.le_of_ble_eq_true rfl) (by omega) rfl (c_P_add Z (d - 1) (x_up q 133 t) r (x_up (x_up (x_up (x_up (x_up A 5 (P 5)) 6 (P 6)) 7 (P 7)) 8 (P 8)) 9 (P 9)) dy 7 0 0 (show 0 ≤ t ∧ t < 12900 from ⟨by omega, by omega⟩)) ?_
  rintro v_ _ ⟨hv_, rfl⟩
  obtain rfl : v_ = some (xI (t)) := hv_
  refine x_istore_n (l1 := [(3, xI (t)), (0, xC 10), (1, xI (i)), (2, xI (e))]) (x_d C_R_readDict 6 rfl) (by decide) rfl ?_
  refine x_iload_n (x_d C_R_readDict 7 rfl) rfl ?_
  refine x_if_lt (tgt := 22) (x_d C_R_readDict 8 rfl) rfl (fun q => absurd q (by omega)) (fun _ => ?_)
  refine x_iload_n (x_d C_R_readDict 9 rfl) rfl ?_
  refine x_bipush (x_d C_R_readDict 10 rfl) (by omega) ?_
  refine x_icmp_le (tgt := 26) (x_d C_R_readDict 11 rfl) rfl (fun _ => ?_) (fun q => absurd q (by omega))
  refine x_aload_n (x_d C_R_readDict 14 rfl) rfl ?_
  refine x_getfield (v := xC 1) (x_d C_R_readDict 15 rfl) f_R_9 rfl rfl ?_
  refine x_iload_n (x_d C_R_readDict 16 rfl) rfl ?_
  refine x_iconst (x_d C_R_readDict 17 rfl) ⟨by omega, by omega⟩ ?_
  refine x_iadd (x_d C_R_readDict 18 rfl) ⟨by omega, by omega⟩ ?_
  refine x_invokevirtual (st := []) (av := [xI (i + 2)]) (x_d C_R_readDict 19 rfl) k_R_50 m_T_afterWhite v_T_afterWhite cl_T rfl rfl (Nat.le_of_ble_eq_true rfl) (by omega) rfl (c_T_afterWhite Z (d - 1) (x_up q 133 (t + 1)) r (x_up (x_up (x_up (x_up (x_up A 5 (x_up (P 5) (t).toNat 7)) 6 (x_up (P 6) (t).toNat 0)) 7 (x_up (P 7) (t).toNat 0)) 8 (x_up (P 8) (t).toNat 1)) 9 (x_up (P 9) (t).toNat (-1))) dy (i + 2) hT) ?_
  rintro v_ _ ⟨hv_, rfl⟩
  obtain rfl : v_ = some (xI (s_sc s_white (A 2) (q 35) (i + 2))) := hv_
  refine x_istore (l1 := [(4, xI (s_sc s_white (A 2) (q 35) (i + 2))), (3, xI (t)), (0, xC 10), (1, xI (i)), (2, xI (e))]) (x_d C_R_readDict 20 rfl) (by decide) rfl ?_
  refine x_iconst (x_d C_R_readDict 21 rfl) ⟨by omega, by omega⟩ ?_
  refine x_istore (l1 := [(5, xI (0)), (4, xI (s_sc s_white (A 2) (q 35) (i + 2))), (3, xI (t)), (0, xC 10), (1, xI (i)), (2, xI (e))]) (x_d C_R_readDict 22 rfl) (by decide) rfl ?_
  refine x_locs [3, 4, 5, 2, 1, 0] rfl ?_
  refine xW_post ?_ (w_R_readDict_41 Z d q r A dy D hD hd i e t hT hR hB hrec he 30 (t + 1) (s_app P t (7, 0, 0, 1, -1)) _ 0 [] [] ⟨by omega, by omega⟩ (s_app_ok ho ⟨by show (0 : Int) ≤ 1; omega, by show (1 : Int) ≤ 12900; omega⟩ ⟨by show (-1 : Int) ≤ -1; omega, by show (-1 : Int) ≤ 10248; omega⟩) (by omega) (by omega) (fun _ => ⟨by simp only [List.length_nil]; omega, by rw [s_at_cons]; exact ⟨by rw [s_app_tok, if_pos rfl], s_at_nil _ _⟩, by omega, [], rfl, rfl⟩))
  rintro v h2 ⟨t9, P9, g1, g2, g3⟩
  exact ⟨t9, P9, g1, g2, s_rp_tr g3 (s_app_keep P t _) rfl⟩
theorem c_R_readDict9 (Z : xZ) (d : Nat) (q : Nat → Int) (r : Nat → Option Nat) (A : Nat → Nat → Int) (dy : xH) (t : Int) (P : Nat → Nat → Int) (hd : 2 ≤ d) (i : Int) (hT : 0 ≤ q 34 ∧ q 34 ≤ q 35 ∧ q 35 ≤ 10248) (ho : s_ok5 P) (hi : 0 ≤ i ∧ i < q 35) (ht : 0 ≤ t ∧ t + (q 35 - i) < 12900) : xMet Z d Y_R_readDict [xC 10, xI i, xI 9] (hF (x_up q 133 t) r (s_pt A P) ++ dy) (fun v h2 => ∃ t2 P2, v = some (xI (s_ps none)) ∧ h2 = hF (x_up q 133 t2) r (s_pt A P2) ++ dy ∧ s_rp t P t2 P2 none) := by
  refine xMet_of (by decide) (Nat.le_of_ble_eq_true rfl) (fun v h2 hq => by obtain ⟨_, _, e, _⟩ := hq; rw [e]; trivial) ?_
  refine x_aload_n (x_d C_R_readDict 0 rfl) rfl ?_
  refine x_getfield (v := xC 4) (x_d C_R_readDict 1 rfl) f_R_15 rfl rfl ?_
  refine x_bipush (x_d C_R_readDict 2 rfl) (by omega) ?_
  refine x_iconst (x_d C_R_readDict 3 rfl) ⟨by omega, by omega⟩ ?_
  refine x_iconst (x_d C_R_readDict 4 rfl) ⟨by omega, by omega⟩ ?_
  refine x_invokevirtual (st := []) (av := [xI (7), xI (0), xI (0)]) (x_d C_R_readDict 5 rfl) k_R_44 m_P_add v_P_add cl_P rfl rfl (Nat.le_of_ble_eq_true rfl) (by omega) rfl (c_P_add Z (d - 1) (x_up q 133 t) r (x_up (x_up (x_up (x_up (x_up A 5 (P 5)) 6 (P 6)) 7 (P 7)) 8 (P 8)) 9 (P 9)) dy 7 0 0 (show 0 ≤ t ∧ t < 12900 from ⟨by omega, by omega⟩)) ?_
  rintro v_ _ ⟨hv_, rfl⟩
  obtain rfl : v_ = some (xI (t)) := hv_
  refine x_istore_n (l1 := [(3, xI (t)), (0, xC 10), (1, xI (i)), (2, xI (9))]) (x_d C_R_readDict 6 rfl) (by decide) rfl ?_
  refine x_iload_n (x_d C_R_readDict 7 rfl) rfl ?_
  refine x_if_lt (tgt := 22) (x_d C_R_readDict 8 rfl) rfl (fun q => absurd q (by omega)) (fun _ => ?_)
  refine x_iload_n (x_d C_R_readDict 9 rfl) rfl ?_
  refine x_bipush (x_d C_R_readDict 10 rfl) (by omega) ?_
  refine x_icmp_le (tgt := 26) (x_d C_R_readDict 11 rfl) rfl (fun q => absurd q (by omega)) (fun _ => ?_)
  refine x_iconst (x_d C_R_readDict 12 rfl) ⟨by omega, by omega⟩ ?_
  refine x_goto (tgt := 36) (x_d C_R_readDict 13 rfl) rfl ?_
  refine x_istore (l1 := [(4, xI (-1)), (3, xI (t)), (0, xC 10), (1, xI (i)), (2, xI (9))]) (x_d C_R_readDict 20 rfl) (by decide) rfl ?_
  refine x_iconst (x_d C_R_readDict 21 rfl) ⟨by omega, by omega⟩ ?_
  refine x_istore (l1 := [(5, xI (0)), (4, xI (-1)), (3, xI (t)), (0, xC 10), (1, xI (i)), (2, xI (9))]) (x_d C_R_readDict 22 rfl) (by decide) rfl ?_
  refine x_iload (x_d C_R_readDict 23 rfl) rfl ?_
  refine x_bipush (x_d C_R_readDict 24 rfl) (by omega) ?_
  refine x_icmp_gt (tgt := 132) (x_d C_R_readDict 25 rfl) rfl (fun q => absurd q (by omega)) (fun _ => ?_)
  refine x_iload (x_d C_R_readDict 26 rfl) rfl ?_
  refine x_if_lt (tgt := 132) (x_d C_R_readDict 27 rfl) rfl (fun _ => ?_) (fun q => absurd q (by omega))
  refine x_iconst (x_d C_R_readDict 66 rfl) ⟨by omega, by omega⟩ ?_
  refine x_ireturn (x_d C_R_readDict 67 rfl) ?_
  exact ⟨t + 1, (s_app P t (7, 0, 0, 1, -1)), rfl, rfl, ⟨s_app_keep P t _, (s_app_ok ho ⟨by show (0 : Int) ≤ 1; omega, by show (1 : Int) ≤ 12900; omega⟩ ⟨by show (-1 : Int) ≤ -1; omega, by show (-1 : Int) ≤ 10248; omega⟩), by omega, by omega, fun _ _ e => by cases e⟩⟩
theorem c_R_read_0 (Z : xZ) (q : Nat → Int) (r : Nat → Option Nat) (A : Nat → Nat → Int) (dy : xH) (hT : 0 ≤ q 34 ∧ q 34 ≤ q 35 ∧ q 35 ≤ 10248) (hR : s_okR A) (hB : ∀ j, -128 ≤ A 2 j ∧ A 2 j ≤ 127) : RD Z q r A dy (0) := by
  intro d t P i e hd ho hi ht he
  obtain rfl : e = 9 := by omega
  have hb := s_byte_in (A 2) (q 35) i
  have hb1 := s_byte_in (A 2) (q 35) (i + 1)
  refine xMet_of (by decide) (Nat.le_of_ble_eq_true rfl) (fun v h2 hq => by obtain ⟨_, _, e, _⟩ := hq; rw [e]; trivial) ?_
  refine x_aload_n (x_d C_R_read 0 rfl) rfl ?_
  refine x_getfield (v := xC 1) (x_d C_R_read 1 rfl) f_R_9 rfl rfl ?_
  refine x_iload_n (x_d C_R_read 2 rfl) rfl ?_
  refine x_invokevirtual (st := []) (av := [xI (i)]) (x_d C_R_read 3 rfl) k_R_19 m_T_byteAt v_T_byteAt cl_T rfl rfl (Nat.le_of_ble_eq_true rfl) (by omega) rfl (c_T_byteAt Z (d - 1) (x_up q 133 t) r (x_up (x_up (x_up (x_up (x_up A 5 (P 5)) 6 (P 6)) 7 (P 7)) 8 (P 8)) 9 (P 9)) dy i hT) ?_
  rintro v_ _ ⟨hv_, rfl⟩
  obtain rfl : v_ = some (xI (s_byte (A 2) (q 35) i)) := hv_
  rcases (show s_byte (A 2) (q 35) i = 40 ∨ s_byte (A 2) (q 35) i = 47 ∨ s_byte (A 2) (q 35) i = 60 ∨ s_byte (A 2) (q 35) i = 91 ∨ (¬ s_byte (A 2) (q 35) i = 40 ∧ ¬ s_byte (A 2) (q 35) i = 47 ∧ ¬ s_byte (A 2) (q 35) i = 60 ∧ ¬ s_byte (A 2) (q 35) i = 91) by omega) with c1 | c1 | c1 | c1 | c1
  · refine x_lookup (tgt := 59) (off := 51) (x_d C_R_read 4 rfl) rfl (by rw [c1]; rfl) rfl ?_
    refine x_aload_n (x_d C_R_read 10 rfl) rfl ?_
    refine x_iload_n (x_d C_R_read 11 rfl) rfl ?_
    refine x_invokevirtual (st := []) (av := [xI (i)]) (x_d C_R_read 12 rfl) k_R_29 m_R_readString v_R_readString cl_R rfl rfl (Nat.le_of_ble_eq_true rfl) (by omega) rfl (c_R_readString Z (d - 1) q r A dy t P (by omega) i hT hR ho (by omega) (by omega)) ?_
    rintro v_ _ ⟨t2, P2, hv_, rfl, hrp2⟩
    obtain rfl : v_ = some (xI (s_ps ((s_str (A 2) (q 35) 101 (i + 1) 0).map (fun x => ([s_one 5 i x.1], x.2))))) := hv_
    refine x_ireturn (x_d C_R_read 13 rfl) ?_
    have e9 : s_val (A 2) (q 35) (0) i = (s_str (A 2) (q 35) 101 (i + 1) 0).map (fun x => ([s_one 5 i x.1], x.2)) := by
      conv => lhs; unfold s_val
      unfold s_leaf; rw [if_neg (by omega), if_neg (by omega), if_pos (by omega)]
    rw [e9]
    exact ⟨t2, P2, rfl, rfl, hrp2⟩
  · refine x_lookup (tgt := 95) (off := 87) (x_d C_R_read 4 rfl) rfl (by rw [c1]; rfl) rfl ?_
    refine x_aload_n (x_d C_R_read 31 rfl) rfl ?_
    refine x_iload_n (x_d C_R_read 32 rfl) rfl ?_
    refine x_invokevirtual (st := []) (av := [xI (i)]) (x_d C_R_read 33 rfl) k_R_38 m_R_readName v_R_readName cl_R rfl rfl (Nat.le_of_ble_eq_true rfl) (by omega) rfl (c_R_readName Z (d - 1) q r A dy t P (by omega) i hT hR ho (by omega) (by omega)) ?_
    rintro v_ _ ⟨t3, P3, hv_, rfl, hrp3⟩
    obtain rfl : v_ = some (xI (s_ps ((if s_name (A 2) (q 35) i < 0 then none else some ([s_one 4 (i + 1) (s_name (A 2) (q 35) i - i - 1)], s_name (A 2) (q 35) i))))) := hv_
    refine x_ireturn (x_d C_R_read 34 rfl) ?_
    have e9 : s_val (A 2) (q 35) (0) i = (if s_name (A 2) (q 35) i < 0 then none else some ([s_one 4 (i + 1) (s_name (A 2) (q 35) i - i - 1)], s_name (A 2) (q 35) i)) := by
      conv => lhs; unfold s_val
      unfold s_leaf; rw [if_neg (by omega), if_neg (by omega), if_neg (by omega), if_neg (by omega), if_pos (by omega)]
    rw [e9]
    exact ⟨t3, P3, rfl, rfl, hrp3⟩
  · refine x_lookup (tgt := 65) (off := 57) (x_d C_R_read 4 rfl) rfl (by rw [c1]; rfl) rfl ?_
    refine x_aload_n (x_d C_R_read 14 rfl) rfl ?_
    refine x_getfield (v := xC 1) (x_d C_R_read 15 rfl) f_R_9 rfl rfl ?_
    refine x_iload_n (x_d C_R_read 16 rfl) rfl ?_
    refine x_iconst (x_d C_R_read 17 rfl) ⟨by omega, by omega⟩ ?_
    refine x_iadd (x_d C_R_read 18 rfl) ⟨by omega, by omega⟩ ?_
    refine x_invokevirtual (st := []) (av := [xI (i + 1)]) (x_d C_R_read 19 rfl) k_R_19 m_T_byteAt v_T_byteAt cl_T rfl rfl (Nat.le_of_ble_eq_true rfl) (by omega) rfl (c_T_byteAt Z (d - 1) (x_up q 133 t) r (x_up (x_up (x_up (x_up (x_up A 5 (P 5)) 6 (P 6)) 7 (P 7)) 8 (P 8)) 9 (P 9)) dy (i + 1) hT) ?_
    rintro v_ _ ⟨hv_, rfl⟩
    obtain rfl : v_ = some (xI (s_byte (A 2) (q 35) (i + 1))) := hv_
    refine x_bipush (x_d C_R_read 20 rfl) (by omega) ?_
    refine x_icmp_ne (tgt := 89) (x_d C_R_read 21 rfl) rfl (fun c4 => ?_) (fun c4 => ?_)
    · refine x_aload_n (x_d C_R_read 27 rfl) rfl ?_
      refine x_iload_n (x_d C_R_read 28 rfl) rfl ?_
      refine x_invokevirtual (st := []) (av := [xI (i)]) (x_d C_R_read 29 rfl) k_R_35 m_R_readPairs v_R_readPairs cl_R rfl rfl (Nat.le_of_ble_eq_true rfl) (by omega) rfl (c_R_readPairs Z (d - 1) q r A dy t P (by omega) i hT hR ho (by omega) (by omega)) ?_
      rintro v_ _ ⟨t5, P5, hv_, rfl, hrp5⟩
      obtain rfl : v_ = some (xI (s_ps ((s_prs (A 2) (q 35) 101 (i + 1) 0).map (fun x => ([s_one 5 i x.1], x.2))))) := hv_
      refine x_ireturn (x_d C_R_read 30 rfl) ?_
      have e9 : s_val (A 2) (q 35) (0) i = (s_prs (A 2) (q 35) 101 (i + 1) 0).map (fun x => ([s_one 5 i x.1], x.2)) := by
        conv => lhs; unfold s_val
        unfold s_leaf; rw [if_neg (by omega), if_neg (by omega), if_neg (by omega), if_pos (by omega)]
      rw [e9]
      exact ⟨t5, P5, rfl, rfl, hrp5⟩
    · refine x_aload_n (x_d C_R_read 22 rfl) rfl ?_
      refine x_iload_n (x_d C_R_read 23 rfl) rfl ?_
      refine x_iload_n (x_d C_R_read 24 rfl) rfl ?_
      refine x_invokevirtual (st := []) (av := [xI (i), xI (9)]) (x_d C_R_read 25 rfl) k_R_32 m_R_readDict v_R_readDict cl_R rfl rfl (Nat.le_of_ble_eq_true rfl) (by omega) rfl (c_R_readDict9 Z (d - 1) q r A dy t P (by omega) i hT ho (by omega) (by omega)) ?_
      rintro v_ _ ⟨t6, P6, hv_, rfl, hrp6⟩
      obtain rfl : v_ = some (xI (s_ps (none))) := hv_
      refine x_goto (tgt := 94) (x_d C_R_read 26 rfl) rfl ?_
      refine x_ireturn (x_d C_R_read 30 rfl) ?_
      have e9 : s_val (A 2) (q 35) (0) i = none := by
        conv => lhs; unfold s_val
        rw [if_neg (by omega), if_pos ⟨by omega, by omega⟩]
      rw [e9]
      exact ⟨t6, P6, rfl, rfl, hrp6⟩
  · refine x_lookup (tgt := 52) (off := 44) (x_d C_R_read 4 rfl) rfl (by rw [c1]; rfl) rfl ?_
    refine x_aload_n (x_d C_R_read 5 rfl) rfl ?_
    refine x_iload_n (x_d C_R_read 6 rfl) rfl ?_
    refine x_iload_n (x_d C_R_read 7 rfl) rfl ?_
    refine x_invokevirtual (st := []) (av := [xI (i), xI (9)]) (x_d C_R_read 8 rfl) k_R_25 m_R_readArray v_R_readArray cl_R rfl rfl (Nat.le_of_ble_eq_true rfl) (by omega) rfl (c_R_readArray9 Z (d - 1) q r A dy t P (by omega) i hT ho (by omega) (by omega)) ?_
    rintro v_ _ ⟨t7, P7, hv_, rfl, hrp7⟩
    obtain rfl : v_ = some (xI (s_ps (none))) := hv_
    refine x_ireturn (x_d C_R_read 9 rfl) ?_
    have e9 : s_val (A 2) (q 35) (0) i = none := by
      conv => lhs; unfold s_val
      rw [if_pos (by omega)]
    rw [e9]
    exact ⟨t7, P7, rfl, rfl, hrp7⟩
  · refine x_lookup (tgt := 101) (off := 93) (x_d C_R_read 4 rfl) rfl (by show (if (40 : Int) = s_byte (A 2) (q 35) i then (51 : Int) else if (47 : Int) = s_byte (A 2) (q 35) i then (87 : Int) else if (60 : Int) = s_byte (A 2) (q 35) i then (57 : Int) else if (91 : Int) = s_byte (A 2) (q 35) i then (44 : Int) else (93 : Int)) = 93; rw [if_neg (by omega), if_neg (by omega), if_neg (by omega), if_neg (by omega)]) rfl ?_
    refine x_aload_n (x_d C_R_read 35 rfl) rfl ?_
    refine x_iload_n (x_d C_R_read 36 rfl) rfl ?_
    refine x_invokevirtual (st := []) (av := [xI (i)]) (x_d C_R_read 37 rfl) k_R_41 m_R_readWord v_R_readWord cl_R rfl rfl (Nat.le_of_ble_eq_true rfl) (by omega) rfl (c_R_readWord Z (d - 1) q r A dy t P (by omega) i hT hR ho (by omega) (by omega)) ?_
    rintro v_ _ ⟨t8, P8, hv_, rfl, hrp8⟩
    obtain rfl : v_ = some (xI (s_ps (s_word (A 2) (q 35) i))) := hv_
    refine x_ireturn (x_d C_R_read 38 rfl) ?_
    have e9 : s_val (A 2) (q 35) (0) i = s_word (A 2) (q 35) i := by
      conv => lhs; unfold s_val
      unfold s_leaf; rw [if_neg (by omega), if_neg (by omega), if_neg (by omega), if_neg (by omega), if_neg (by omega)]
    rw [e9]
    exact ⟨t8, P8, rfl, rfl, hrp8⟩
theorem c_R_read_s (Z : xZ) (q : Nat → Int) (r : Nat → Option Nat) (A : Nat → Nat → Int) (dy : xH) (hT : 0 ≤ q 34 ∧ q 34 ≤ q 35 ∧ q 35 ≤ 10248) (hR : s_okR A) (hB : ∀ j, -128 ≤ A 2 j ∧ A 2 j ≤ 127) (D : Nat) (hD : D + 1 ≤ 8) (hrec : RD Z q r A dy D) : RD Z q r A dy (D + 1) := by
  intro d t P i e hd ho hi ht he
  have hb := s_byte_in (A 2) (q 35) i
  have hb1 := s_byte_in (A 2) (q 35) (i + 1)
  refine xMet_of (by decide) (Nat.le_of_ble_eq_true rfl) (fun v h2 hq => by obtain ⟨_, _, e, _⟩ := hq; rw [e]; trivial) ?_
  refine x_aload_n (x_d C_R_read 0 rfl) rfl ?_
  refine x_getfield (v := xC 1) (x_d C_R_read 1 rfl) f_R_9 rfl rfl ?_
  refine x_iload_n (x_d C_R_read 2 rfl) rfl ?_
  refine x_invokevirtual (st := []) (av := [xI (i)]) (x_d C_R_read 3 rfl) k_R_19 m_T_byteAt v_T_byteAt cl_T rfl rfl (Nat.le_of_ble_eq_true rfl) (by omega) rfl (c_T_byteAt Z (d - 1) (x_up q 133 t) r (x_up (x_up (x_up (x_up (x_up A 5 (P 5)) 6 (P 6)) 7 (P 7)) 8 (P 8)) 9 (P 9)) dy i hT) ?_
  rintro v_ _ ⟨hv_, rfl⟩
  obtain rfl : v_ = some (xI (s_byte (A 2) (q 35) i)) := hv_
  rcases (show s_byte (A 2) (q 35) i = 40 ∨ s_byte (A 2) (q 35) i = 47 ∨ s_byte (A 2) (q 35) i = 60 ∨ s_byte (A 2) (q 35) i = 91 ∨ (¬ s_byte (A 2) (q 35) i = 40 ∧ ¬ s_byte (A 2) (q 35) i = 47 ∧ ¬ s_byte (A 2) (q 35) i = 60 ∧ ¬ s_byte (A 2) (q 35) i = 91) by omega) with c1 | c1 | c1 | c1 | c1
  · refine x_lookup (tgt := 59) (off := 51) (x_d C_R_read 4 rfl) rfl (by rw [c1]; rfl) rfl ?_
    refine x_aload_n (x_d C_R_read 10 rfl) rfl ?_
    refine x_iload_n (x_d C_R_read 11 rfl) rfl ?_
    refine x_invokevirtual (st := []) (av := [xI (i)]) (x_d C_R_read 12 rfl) k_R_29 m_R_readString v_R_readString cl_R rfl rfl (Nat.le_of_ble_eq_true rfl) (by omega) rfl (c_R_readString Z (d - 1) q r A dy t P (by omega) i hT hR ho (by omega) (by omega)) ?_
    rintro v_ _ ⟨t2, P2, hv_, rfl, hrp2⟩
    obtain rfl : v_ = some (xI (s_ps ((s_str (A 2) (q 35) 101 (i + 1) 0).map (fun x => ([s_one 5 i x.1], x.2))))) := hv_
    refine x_ireturn (x_d C_R_read 13 rfl) ?_
    have e9 : s_val (A 2) (q 35) (D + 1) i = (s_str (A 2) (q 35) 101 (i + 1) 0).map (fun x => ([s_one 5 i x.1], x.2)) := by
      conv => lhs; unfold s_val
      unfold s_leaf; rw [if_neg (by omega), if_neg (by omega), if_pos (by omega)]
    rw [e9]
    exact ⟨t2, P2, rfl, rfl, hrp2⟩
  · refine x_lookup (tgt := 95) (off := 87) (x_d C_R_read 4 rfl) rfl (by rw [c1]; rfl) rfl ?_
    refine x_aload_n (x_d C_R_read 31 rfl) rfl ?_
    refine x_iload_n (x_d C_R_read 32 rfl) rfl ?_
    refine x_invokevirtual (st := []) (av := [xI (i)]) (x_d C_R_read 33 rfl) k_R_38 m_R_readName v_R_readName cl_R rfl rfl (Nat.le_of_ble_eq_true rfl) (by omega) rfl (c_R_readName Z (d - 1) q r A dy t P (by omega) i hT hR ho (by omega) (by omega)) ?_
    rintro v_ _ ⟨t3, P3, hv_, rfl, hrp3⟩
    obtain rfl : v_ = some (xI (s_ps ((if s_name (A 2) (q 35) i < 0 then none else some ([s_one 4 (i + 1) (s_name (A 2) (q 35) i - i - 1)], s_name (A 2) (q 35) i))))) := hv_
    refine x_ireturn (x_d C_R_read 34 rfl) ?_
    have e9 : s_val (A 2) (q 35) (D + 1) i = (if s_name (A 2) (q 35) i < 0 then none else some ([s_one 4 (i + 1) (s_name (A 2) (q 35) i - i - 1)], s_name (A 2) (q 35) i)) := by
      conv => lhs; unfold s_val
      unfold s_leaf; rw [if_neg (by omega), if_neg (by omega), if_neg (by omega), if_neg (by omega), if_pos (by omega)]
    rw [e9]
    exact ⟨t3, P3, rfl, rfl, hrp3⟩
  · refine x_lookup (tgt := 65) (off := 57) (x_d C_R_read 4 rfl) rfl (by rw [c1]; rfl) rfl ?_
    refine x_aload_n (x_d C_R_read 14 rfl) rfl ?_
    refine x_getfield (v := xC 1) (x_d C_R_read 15 rfl) f_R_9 rfl rfl ?_
    refine x_iload_n (x_d C_R_read 16 rfl) rfl ?_
    refine x_iconst (x_d C_R_read 17 rfl) ⟨by omega, by omega⟩ ?_
    refine x_iadd (x_d C_R_read 18 rfl) ⟨by omega, by omega⟩ ?_
    refine x_invokevirtual (st := []) (av := [xI (i + 1)]) (x_d C_R_read 19 rfl) k_R_19 m_T_byteAt v_T_byteAt cl_T rfl rfl (Nat.le_of_ble_eq_true rfl) (by omega) rfl (c_T_byteAt Z (d - 1) (x_up q 133 t) r (x_up (x_up (x_up (x_up (x_up A 5 (P 5)) 6 (P 6)) 7 (P 7)) 8 (P 8)) 9 (P 9)) dy (i + 1) hT) ?_
    rintro v_ _ ⟨hv_, rfl⟩
    obtain rfl : v_ = some (xI (s_byte (A 2) (q 35) (i + 1))) := hv_
    refine x_bipush (x_d C_R_read 20 rfl) (by omega) ?_
    refine x_icmp_ne (tgt := 89) (x_d C_R_read 21 rfl) rfl (fun c4 => ?_) (fun c4 => ?_)
    · refine x_aload_n (x_d C_R_read 27 rfl) rfl ?_
      refine x_iload_n (x_d C_R_read 28 rfl) rfl ?_
      refine x_invokevirtual (st := []) (av := [xI (i)]) (x_d C_R_read 29 rfl) k_R_35 m_R_readPairs v_R_readPairs cl_R rfl rfl (Nat.le_of_ble_eq_true rfl) (by omega) rfl (c_R_readPairs Z (d - 1) q r A dy t P (by omega) i hT hR ho (by omega) (by omega)) ?_
      rintro v_ _ ⟨t5, P5, hv_, rfl, hrp5⟩
      obtain rfl : v_ = some (xI (s_ps ((s_prs (A 2) (q 35) 101 (i + 1) 0).map (fun x => ([s_one 5 i x.1], x.2))))) := hv_
      refine x_ireturn (x_d C_R_read 30 rfl) ?_
      have e9 : s_val (A 2) (q 35) (D + 1) i = (s_prs (A 2) (q 35) 101 (i + 1) 0).map (fun x => ([s_one 5 i x.1], x.2)) := by
        conv => lhs; unfold s_val
        unfold s_leaf; rw [if_neg (by omega), if_neg (by omega), if_neg (by omega), if_pos (by omega)]
      rw [e9]
      exact ⟨t5, P5, rfl, rfl, hrp5⟩
    · refine x_aload_n (x_d C_R_read 22 rfl) rfl ?_
      refine x_iload_n (x_d C_R_read 23 rfl) rfl ?_
      refine x_iload_n (x_d C_R_read 24 rfl) rfl ?_
      refine x_invokevirtual (st := []) (av := [xI (i), xI (e)]) (x_d C_R_read 25 rfl) k_R_32 m_R_readDict v_R_readDict cl_R rfl rfl (Nat.le_of_ble_eq_true rfl) (by omega) rfl (c_R_readDict Z (d - 1) q r A dy t P D (by omega) (by omega) i e hT hR hB ho hrec (by omega) (by omega) (by omega)) ?_
      rintro v_ _ ⟨t6, P6, hv_, rfl, hrp6⟩
      obtain rfl : v_ = some (xI (s_ps (s_bx 7 [] (s_ents (s_val (A 2) (q 35) D) (A 2) (q 35) 30 (s_sc s_white (A 2) (q 35) (i + 2)) [])))) := hv_
      refine x_goto (tgt := 94) (x_d C_R_read 26 rfl) rfl ?_
      refine x_ireturn (x_d C_R_read 30 rfl) ?_
      have e9 : s_val (A 2) (q 35) (D + 1) i = s_bx 7 [] (s_ents (s_val (A 2) (q 35) D) (A 2) (q 35) 30 (s_sc s_white (A 2) (q 35) (i + 2)) []) := by
        conv => lhs; unfold s_val
        rw [if_neg (by omega), if_pos ⟨by omega, by omega⟩]
        rfl
      rw [e9]
      exact ⟨t6, P6, rfl, rfl, hrp6⟩
  · refine x_lookup (tgt := 52) (off := 44) (x_d C_R_read 4 rfl) rfl (by rw [c1]; rfl) rfl ?_
    refine x_aload_n (x_d C_R_read 5 rfl) rfl ?_
    refine x_iload_n (x_d C_R_read 6 rfl) rfl ?_
    refine x_iload_n (x_d C_R_read 7 rfl) rfl ?_
    refine x_invokevirtual (st := []) (av := [xI (i), xI (e)]) (x_d C_R_read 8 rfl) k_R_25 m_R_readArray v_R_readArray cl_R rfl rfl (Nat.le_of_ble_eq_true rfl) (by omega) rfl (c_R_readArray Z (d - 1) q r A dy t P D (by omega) (by omega) i e hT hR hB ho hrec (by omega) (by omega) (by omega)) ?_
    rintro v_ _ ⟨t7, P7, hv_, rfl, hrp7⟩
    obtain rfl : v_ = some (xI (s_ps (s_bx 6 [] (s_items (s_val (A 2) (q 35) D) (A 2) (q 35) 60 (s_sc s_white (A 2) (q 35) (i + 1)))))) := hv_
    refine x_ireturn (x_d C_R_read 9 rfl) ?_
    have e9 : s_val (A 2) (q 35) (D + 1) i = s_bx 6 [] (s_items (s_val (A 2) (q 35) D) (A 2) (q 35) 60 (s_sc s_white (A 2) (q 35) (i + 1))) := by
      conv => lhs; unfold s_val
      rw [if_pos (by omega)]
      rfl
    rw [e9]
    exact ⟨t7, P7, rfl, rfl, hrp7⟩
  · refine x_lookup (tgt := 101) (off := 93) (x_d C_R_read 4 rfl) rfl (by show (if (40 : Int) = s_byte (A 2) (q 35) i then (51 : Int) else if (47 : Int) = s_byte (A 2) (q 35) i then (87 : Int) else if (60 : Int) = s_byte (A 2) (q 35) i then (57 : Int) else if (91 : Int) = s_byte (A 2) (q 35) i then (44 : Int) else (93 : Int)) = 93; rw [if_neg (by omega), if_neg (by omega), if_neg (by omega), if_neg (by omega)]) rfl ?_
    refine x_aload_n (x_d C_R_read 35 rfl) rfl ?_
    refine x_iload_n (x_d C_R_read 36 rfl) rfl ?_
    refine x_invokevirtual (st := []) (av := [xI (i)]) (x_d C_R_read 37 rfl) k_R_41 m_R_readWord v_R_readWord cl_R rfl rfl (Nat.le_of_ble_eq_true rfl) (by omega) rfl (c_R_readWord Z (d - 1) q r A dy t P (by omega) i hT hR ho (by omega) (by omega)) ?_
    rintro v_ _ ⟨t8, P8, hv_, rfl, hrp8⟩
    obtain rfl : v_ = some (xI (s_ps (s_word (A 2) (q 35) i))) := hv_
    refine x_ireturn (x_d C_R_read 38 rfl) ?_
    have e9 : s_val (A 2) (q 35) (D + 1) i = s_word (A 2) (q 35) i := by
      conv => lhs; unfold s_val
      unfold s_leaf; rw [if_neg (by omega), if_neg (by omega), if_neg (by omega), if_neg (by omega), if_neg (by omega)]
    rw [e9]
    exact ⟨t8, P8, rfl, rfl, hrp8⟩
theorem c_R_read (Z : xZ) (q : Nat → Int) (r : Nat → Option Nat) (A : Nat → Nat → Int) (dy : xH) (hT : 0 ≤ q 34 ∧ q 34 ≤ q 35 ∧ q 35 ≤ 10248) (hR : s_okR A) (hB : ∀ j, -128 ≤ A 2 j ∧ A 2 j ≤ 127) : ∀ D : Nat, D ≤ 8 → RD Z q r A dy D
  | 0, _ => c_R_read_0 Z q r A dy hT hR hB
  | D + 1, h => c_R_read_s Z q r A dy hT hR hB D h (c_R_read Z q r A dy hT hR hB D (by omega))
