/-! the reference: values of one part -/
theorem Tr_leaf {X : Nat → Int} {E : Int} {g : Nat → Option xE} {k a b x y : Int} {bt : Option Nat} {c : Nat} (D : Nat) (hg : g c = some (xB 12 [xI k, xI x, xI y, xI 0, xO bt, xN, xN])) (hk : ¬ (k = 6 ∨ k = 7 ∨ k = 9)) (hL : tL X E g (lP [s_one k a b]) 0 x y bt) : Tr X E g (lP [s_one k a b]) (D + 1) 0 c :=
  ⟨Int.le_refl 0, x, y, 0, bt, none, none, hg, hL, [], rfl, rfl, Nat.zero_le _, fun z => absurd z hk, fun z => absurd (show k = 6 ∨ k = 7 ∨ k = 9 from Or.inr z) hk, fun _ x hx => (by cases hx), fun _ => rfl, fun _ => ⟨rfl, rfl⟩⟩
theorem gle_new {g : Nat → Option xE} {dy : xH} {c : Nat} (h : gok g dy) (hc : 52 + dy.length ≤ c) (e : xE) : gle g (x_up g c (some e)) := fun k e2 z => by
  have := ct_lt (h k e2 z)
  rw [x_up_n _ _ (by omega)]
  exact z
theorem gok_new {g : Nat → Option xE} {dy : xH} {c : Nat} {e : xE} (h : gok g dy) (hc : ct dy c e) : gok (x_up g c (some e)) dy := fun k e2 z => by
  by_cases ek : k = c
  · rw [ek, x_up_s] at z
    have := Option.some.inj z
    rw [← this, ek]
    exact hc
  · rw [x_up_n _ _ ek] at z
    exact h k e2 z
/-- cells that are known are old, or new ones -/
def gnw (g g2 : Nat → Option xE) (n : Nat) : Prop := ∀ k, k < n → g k = none → g2 k = none
theorem gnw_up {g g2 : Nat → Option xE} {n c : Nat} (h : gnw g g2 n) (hc : n ≤ c) (e : xE) : gnw g (x_up g2 c (some e)) n := fun k hk z => by
  rw [x_up_n _ _ (by omega)]
  exact h k hk z
theorem gnw_rf (g : Nat → Option xE) (n : Nat) : gnw g g n := fun _ _ z => z
theorem gok_no {g : Nat → Option xE} {dy : xH} (h : gok g dy) {c : Nat} (hc : 52 + dy.length ≤ c) : g c = none := by
  cases hz : g c with
  | none => rfl
  | some e => have := ct_lt (h c e hz); omega
/-- the values of a dictionary are cells of their own -/
def Dj (g : Nat → Option xE) (c : Nat) : Prop := ∀ (x y m : Int) (bt : Option Nat) (ci : Nat) (nm : Option Nat) (cap : Nat) (fi : Nat → Option Nat), g c = some (xB 12 [xI 7, xI x, xI y, xI m, xO bt, xC ci, xO nm]) → g ci = some (xQ 4 cap fi) → ∀ i k : Nat, (i : Int) < m → (k : Int) < m → fi i = fi k → i = k
theorem Dj_k {g : Nat → Option xE} {c : Nat} {k : Int} {fs : List xV} (h : g c = some (xB 12 (xI k :: fs))) (hk : ¬ k = 7) : Dj g c := fun x y m bt ci nm cap fi h1 => by
  rw [h] at h1
  have h2 := Sum.inr.inj (Sum.inr.inj (Option.some.inj h1))
  have h3 := (List.cons.inj (congrArg Prod.snd h2)).1
  exact absurd (Sum.inl.inj h3) hk
/-- what reading a value leaves: spec what is read, K what it may cost -/
def orq (q : Nat → Int) (r : Nat → Option Nat) (A : Nat → Nat → Int) (dy : xH) (X : Nat → Int) (f : Int) (g : Nat → Option xE) (K : Nat → Nat → Nat) (D : Nat) (spec : Option (List tk × Int)) : Option xV → xH → Prop := fun v h2 => ∃ j2 tk2 ny, h2 = hF (x_up q 1346 j2) (x_up r 1344 (some 44)) (x_up A 43 tk2) ++ (dy ++ ny) ∧ (0 ≤ j2 ∧ j2 ≤ q 1345) ∧ (∀ u w, mu u w ny ≤ K u w) ∧ ((spec = none ∧ v = some xN) ∨ ∃ ts e c g2, spec = some (ts, e) ∧ v = some (xC c) ∧ j2 = e - f ∧ gle g g2 ∧ gok g2 (dy ++ ny) ∧ gnw g g2 (52 + dy.length) ∧ Tr X (f + q 1345) g2 (lP ts) D 0 c ∧ g c = none ∧ Dj g2 c)
theorem orq_rok {q : Nat → Int} {r : Nat → Option Nat} {A : Nat → Nat → Int} {dy : xH} {X : Nat → Int} {f : Int} {g : Nat → Option xE} {K : Nat → Nat → Nat} {D : Nat} {spec : Option (List tk × Int)} {v : Option xV} {h2 : xH} {C : String} (h : orq q r A dy X f g K D spec v h2) : x_rok (some (.object C)) v := by
  obtain ⟨_, _, _, _, _, _, ⟨_, e⟩ | ⟨_, _, _, _, _, e, _⟩⟩ := h <;> rw [e] <;> trivial
theorem orq_none {q : Nat → Int} {r : Nat → Option Nat} {A : Nat → Nat → Int} {dy : xH} {X : Nat → Int} {f : Int} {g : Nat → Option xE} {K : Nat → Nat → Nat} {D : Nat} {j : Int} {tk : Nat → Int} (hj : 0 ≤ j ∧ j ≤ q 1345) : orq q r A dy X f g K D none (some xN) (hF (x_up q 1346 j) (x_up r 1344 (some 44)) (x_up A 43 tk) ++ dy) :=
  ⟨j, tk, [], by rw [List.append_nil], hj, fun _ _ => Nat.zero_le _, Or.inl ⟨rfl, rfl⟩⟩
/-- a leaf without bytes -/
theorem orq_one {q : Nat → Int} {r : Nat → Option Nat} {A : Nat → Nat → Int} {dy : xH} {X : Nat → Int} {f : Int} {g : Nat → Option xE} {K : Nat → Nat → Nat} {D : Nat} {j : Int} {tk : Nat → Int} {k a b x y e : Int} (hj : 0 ≤ j ∧ j ≤ q 1345) (hg : gok g dy) (hK : ∀ u w, u + 7 * w ≤ K u w) (he : j = e - f) (hk : ¬ (k = 6 ∨ k = 7 ∨ k = 9)) (hL : ∀ g2, tL X (f + q 1345) g2 (lP [s_one k a b]) 0 x y none) : orq q r A dy X f g K (D + 1) (some ([s_one k a b], e)) (some (xC (52 + dy.length))) (hF (x_up q 1346 j) (x_up r 1344 (some 44)) (x_up A 43 tk) ++ (dy ++ [xB 12 [xI k, xI x, xI y, xI 0, xN, xN, xN]])) :=
  ⟨j, tk, [xB 12 [xI k, xI x, xI y, xI 0, xN, xN, xN]], rfl, hj, fun u w => by have := hK u w; rw [mu_cons, mu_nil]; show u + w * 7 + 0 ≤ K u w; omega, Or.inr ⟨_, e, 52 + dy.length, x_up g (52 + dy.length) (some (xB 12 [xI k, xI x, xI y, xI 0, xN, xN, xN])), rfl, rfl, he, gle_new hg (Nat.le_refl _) _, gok_new (gok_app hg _) (ct_new0 dy _ rfl), gnw_up (gnw_rf g _) (Nat.le_refl _) _, Tr_leaf D (x_up_s _ _ _) hk (hL _), gok_no hg (Nat.le_refl _), Dj_k (x_up_s _ _ _) (fun z => hk (Or.inr (Or.inl z)))⟩⟩
/-- a leaf with bytes -/
theorem orq_by {q : Nat → Int} {r : Nat → Option Nat} {A : Nat → Nat → Int} {dy : xH} {X : Nat → Int} {f : Int} {g : Nat → Option xE} {K : Nat → Nat → Nat} {D n : Nat} {j : Int} {tk fb : Nat → Int} {k a b e : Int} (hj : 0 ≤ j ∧ j ≤ q 1345) (hg : gok g dy) (hK : ∀ u w, u + 7 * w + (u + n * w) ≤ K u w) (he : j = e - f) (hk : ¬ (k = 6 ∨ k = 7 ∨ k = 9)) (hL : ∀ g2, g2 (52 + dy.length + 1) = some (xA 1 n fb) → tL X (f + q 1345) g2 (lP [s_one k a b]) 0 0 0 (some (52 + dy.length + 1))) : orq q r A dy X f g K (D + 1) (some ([s_one k a b], e)) (some (xC (52 + dy.length))) (hF (x_up q 1346 j) (x_up r 1344 (some 44)) (x_up A 43 tk) ++ (dy ++ [xB 12 [xI k, xI 0, xI 0, xI 0, xC (52 + dy.length + 1), xN, xN], xA 1 n fb])) := by
  refine ⟨j, tk, [xB 12 [xI k, xI 0, xI 0, xI 0, xC (52 + dy.length + 1), xN, xN], xA 1 n fb], rfl, hj, fun u w => by have := hK u w; rw [mu_cons, mu_cons, mu_nil]; show u + w * 7 + (u + w * n + 0) ≤ K u w; rw [Nat.mul_comm w n]; omega, Or.inr ⟨_, e, 52 + dy.length, x_up (x_up g (52 + dy.length) (some (xB 12 [xI k, xI 0, xI 0, xI 0, xC (52 + dy.length + 1), xN, xN]))) (52 + dy.length + 1) (some (xA 1 n fb)), rfl, rfl, he, ?_, gok_new (gok_new (gok_app hg _) (ct_new0 dy _ rfl)) (ct_new dy _ 1 rfl), gnw_up (gnw_up (gnw_rf g _) (Nat.le_refl _) _) (by omega) _, ?_, gok_no hg (Nat.le_refl _), Dj_k (k := k) (by rw [x_up_n _ _ (by omega), x_up_s]) (fun z => hk (Or.inr (Or.inl z)))⟩⟩
  · intro c e2 z
    have := ct_lt (hg c e2 z)
    rw [x_up_n _ _ (by omega), x_up_n _ _ (by omega)]
    exact z
  · exact Tr_leaf D (by rw [x_up_n _ _ (by omega), x_up_s]) hk (hL _ (x_up_s _ _ _))
theorem c_M_name (Z : xZ) (d : Nat) (q : Nat → Int) (r : Nat → Option Nat) (A : Nat → Nat → Int) (dy : xH) (hd : 4 ≤ d) (X : Nat → Int) (f j : Int) (tk : Nat → Int) (hf : 0 ≤ f) (hn : 0 ≤ q 1345 ∧ q 1345 ≤ 4000) (hX : ∀ k : Nat, (k : Int) < q 1345 → A 44 k = X (f.toNat + k)) (hj : 0 ≤ j ∧ j ≤ q 1345) (hB : ∀ k, -128 ≤ X k ∧ X k ≤ 127) (hb : s_byte X (f + q 1345) (f + j) = 47) : xMet Z d Y_M_name [xC 42] (hF (x_up q 1346 j) (x_up r 1344 (some 44)) (x_up A 43 tk) ++ dy) (fun v h2 => (s_name X (f + q 1345) (f + j) < 0 ∧ v = some xN ∧ h2 = hF (x_up q 1346 j) (x_up r 1344 (some 44)) (x_up A 43 tk) ++ dy) ∨ (0 ≤ s_name X (f + q 1345) (f + j) ∧ v = some (xC (52 + dy.length)) ∧ ∃ fb, h2 = hF (x_up q 1346 (s_name X (f + q 1345) (f + j) - f)) (x_up r 1344 (some 44)) (x_up A 43 tk) ++ (dy ++ [xB 12 [xI 4, xI 0, xI 0, xI 0, xC (52 + dy.length + 1), xN, xN], xA 1 (s_name X (f + q 1345) (f + j) - (f + j) - 1).toNat fb]) ∧ ∀ k : Nat, (k : Int) < s_name X (f + q 1345) (f + j) - (f + j) - 1 → fb k = X ((f + j + 1).toNat + k))) := by
  refine xMet_of (by decide) (Nat.le_of_ble_eq_true rfl) (fun v h2 hq => by rcases hq with ⟨_, e, _⟩ | ⟨_, e, _⟩ <;> rw [e] <;> trivial) ?_
  have hXi : ∀ u : Int, 0 ≤ u → u < q 1345 → A 44 u.toNat = X (f + u).toNat := fun u h1 h2 => by rw [hX u.toNat (by omega)]; congr 1; omega
  have hbi := s_byte_in X (f + q 1345) (f + j)
  have hsg := s_sc_ge s_reg X (f + q 1345) (f + (j + 1))
  have hsl := s_sc_le s_reg X (n := (f + q 1345)) (t := f + (j + 1)) (by omega)
  have hnm := s_name_in X (f + q 1345) (f + j)
  have hnv : s_name X (f + q 1345) (f + j) = if 1 ≤ s_sc s_reg X (f + q 1345) (f + (j + 1)) - f - j - 1 ∧ s_sc s_reg X (f + q 1345) (f + (j + 1)) - f - j - 1 ≤ 20 then s_sc s_reg X (f + q 1345) (f + (j + 1)) else -1 := by
    unfold s_name s_wd
    rw [hb, show f + j + 1 = f + (j + 1) by omega]
    (repeat' split) <;> omega
  refine x_aload_n (x_d C_M_name 0 rfl) rfl ?_
  refine x_aload_n (x_d C_M_name 1 rfl) rfl ?_
  refine x_getfield (v := xI (j)) (x_d C_M_name 2 rfl) f_M_7 rfl rfl ?_
  refine x_iconst (x_d C_M_name 3 rfl) ⟨by omega, by omega⟩ ?_
  refine x_iadd (x_d C_M_name 4 rfl) ⟨by omega, by omega⟩ ?_
  refine x_invokevirtual (st := []) (av := [xI (j + 1)]) (x_d C_M_name 5 rfl) k_M_38 m_M_wordEnd v_M_wordEnd cl_M rfl rfl (Nat.le_of_ble_eq_true rfl) (by omega) rfl (c_M_wordEnd Z (d - 1) q r (x_up A 43 tk) dy (by omega) X f j (j + 1) hf hn hX (by omega)) ?_
  rintro v_ _ ⟨hv_, rfl⟩
  obtain rfl : v_ = some (xI (s_sc s_reg X (f + q 1345) (f + (j + 1)) - f)) := hv_
  refine x_istore_n (l1 := [(1, xI (s_sc s_reg X (f + q 1345) (f + (j + 1)) - f)), (0, xC 42)]) (x_d C_M_name 6 rfl) (by decide) rfl ?_
  refine x_iload_n (x_d C_M_name 7 rfl) rfl ?_
  refine x_aload_n (x_d C_M_name 8 rfl) rfl ?_
  refine x_getfield (v := xI (j)) (x_d C_M_name 9 rfl) f_M_7 rfl rfl ?_
  refine x_isub (x_d C_M_name 10 rfl) ⟨by omega, by omega⟩ ?_
  refine x_iconst (x_d C_M_name 11 rfl) ⟨by omega, by omega⟩ ?_
  refine x_isub (x_d C_M_name 12 rfl) ⟨by omega, by omega⟩ ?_
  refine x_i2l (x_d C_M_name 13 rfl) ?_
  refine x_lconst1 (x_d C_M_name 14 rfl) ?_
  refine x_ldc2 (n := 20) (x_d C_M_name 15 rfl) lc_M_111 ⟨by omega, by omega⟩ ?_
  refine x_invokestatic (st := []) (av := [xJ (((s_sc s_reg X (f + q 1345) (f + (j + 1)) - f) - j) - 1), xJ (1), xJ (20)]) (x_d C_M_name 16 rfl) k_M_48 m_M_in s_M_in rfl (Nat.le_of_ble_eq_true rfl) (by omega) rfl (c_M_in Z (d - 1) (hF (x_up q 1346 j) (x_up r 1344 (some 44)) (x_up A 43 tk) ++ dy) (((s_sc s_reg X (f + q 1345) (f + (j + 1)) - f) - j) - 1) 1 20) ?_
  rintro v_ _ ⟨hv_, rfl⟩
  obtain ⟨z_, rfl, hz_⟩ : ∃ z : Int, v_ = some (xI z) ∧ ((z = 1 ∧ 1 ≤ ((s_sc s_reg X (f + q 1345) (f + (j + 1)) - f) - j) - 1 ∧ ((s_sc s_reg X (f + q 1345) (f + (j + 1)) - f) - j) - 1 ≤ 20) ∨ (z = 0 ∧ ¬ (1 ≤ ((s_sc s_reg X (f + q 1345) (f + (j + 1)) - f) - j) - 1 ∧ ((s_sc s_reg X (f + q 1345) (f + (j + 1)) - f) - j) - 1 ≤ 20))) := ⟨_, hv_, by by_cases c_ : (1 ≤ ((s_sc s_reg X (f + q 1345) (f + (j + 1)) - f) - j) - 1 ∧ ((s_sc s_reg X (f + q 1345) (f + (j + 1)) - f) - j) - 1 ≤ 20); exact Or.inl ⟨x_bo_t c_, c_⟩; exact Or.inr ⟨x_bo_f c_, c_⟩⟩
  refine x_if_ne (tgt := 32) (x_d C_M_name 17 rfl) rfl (fun c1 => ?_) (fun c1 => ?_)
  · refine x_newL (k := 52 + dy.length) (h1 := hF (x_up q 1346 j) (x_up r 1344 (some 44)) (x_up A 43 tk) ++ (dy ++ [xB 12 [xI (0), xI (0), xI (0), xI (0), xN, xN, xN]])) (x_d C_M_name 20 rfl) n_M_82 (g_len0 _ _ _ _) (g_push0 _ _ _ _ _) ?_
    refine x_dup (x_d C_M_name 21 rfl) rfl ?_
    refine x_iconst (x_d C_M_name 22 rfl) ⟨by omega, by omega⟩ ?_
    refine x_invokespecial (st := [xC (52 + dy.length)]) (av := [xI (4)]) (x_d C_M_name 23 rfl) k_M_84 m_MQ_init rfl v_MQ_init rfl (Nat.le_of_ble_eq_true rfl) (by omega) rfl (c_MQ_init Z (d - 1) (hF (x_up q 1346 j) (x_up r 1344 (some 44)) (x_up A 43 tk) ++ (dy ++ [xB 12 [xI (0), xI (0), xI (0), xI (0), xN, xN, xN]])) (by omega) (52 + dy.length) 4 (ct_get (ct_new0 dy [xB 12 [xI (0), xI (0), xI (0), xI (0), xN, xN, xN]] rfl) _ _ _)) ?_
    rintro _ h_ ⟨rfl, hh_⟩
    obtain rfl : h_ = hF (x_up q 1346 j) (x_up r 1344 (some 44)) (x_up A 43 tk) ++ (dy ++ [xB 12 [xI (4), xI (0), xI (0), xI (0), xN, xN, xN]]) := hh_.trans (g_setl0 _ _ _ _ [xB 12 [xI (0), xI (0), xI (0), xI (0), xN, xN, xN]] _)
    refine x_astore_n (l1 := [(2, xC (52 + dy.length)), (1, xI (s_sc s_reg X (f + q 1345) (f + (j + 1)) - f)), (0, xC 42)]) (x_d C_M_name 24 rfl) (by decide) rfl ?_
    refine x_aload_n (x_d C_M_name 25 rfl) rfl ?_
    refine x_aload_n (x_d C_M_name 26 rfl) rfl ?_
    refine x_getfield (v := xC 44) (x_d C_M_name 27 rfl) f_M_14 rfl rfl ?_
    refine x_aload_n (x_d C_M_name 28 rfl) rfl ?_
    refine x_getfield (v := xI (j)) (x_d C_M_name 29 rfl) f_M_7 rfl rfl ?_
    refine x_iconst (x_d C_M_name 30 rfl) ⟨by omega, by omega⟩ ?_
    refine x_iadd (x_d C_M_name 31 rfl) ⟨by omega, by omega⟩ ?_
    refine x_iload_n (x_d C_M_name 32 rfl) rfl ?_
    refine x_invokestatic (st := [xC (52 + dy.length)]) (av := [xC 44, xI (j + 1), xI (s_sc s_reg X (f + q 1345) (f + (j + 1)) - f)]) (x_d C_M_name 33 rfl) k_M_113 m_Ar_copyOfRange s_Ar_copyOfRange rfl (Nat.le_of_ble_eq_true rfl) (by omega) rfl (c_Ar_copyOfRange Z (d - 1) (hF (x_up q 1346 j) (x_up r 1344 (some 44)) (x_up A 43 tk) ++ (dy ++ [xB 12 [xI (4), xI (0), xI (0), xI (0), xN, xN, xN]])) (by omega) 44 4000 (A 44) (j + 1) (s_sc s_reg X (f + q 1345) (f + (j + 1)) - f) rfl (by omega)) ?_
    rintro v_ h_ ⟨g2, hv_, hh_, hg2⟩
    obtain rfl : v_ = some (xC (52 + dy.length + 1)) := by rw [hv_, g_len _ _ _ _ [xB 12 [xI (4), xI (0), xI (0), xI (0), xN, xN, xN]] (n := 1) rfl]
    obtain rfl : h_ = hF (x_up q 1346 j) (x_up r 1344 (some 44)) (x_up A 43 tk) ++ (dy ++ [xB 12 [xI (4), xI (0), xI (0), xI (0), xN, xN, xN], xA 1 ((s_sc s_reg X (f + q 1345) (f + (j + 1)) - f) - (j + 1)).toNat g2]) := hh_.trans (g_push _ _ _ _ [xB 12 [xI (4), xI (0), xI (0), xI (0), xN, xN, xN]] _)
    refine x_putfield (h1 := hF (x_up q 1346 j) (x_up r 1344 (some 44)) (x_up A 43 tk) ++ (dy ++ [xB 12 [xI (4), xI (0), xI (0), xI (0), xC (52 + dy.length + 1), xN, xN], xA 1 ((s_sc s_reg X (f + q 1345) (f + (j + 1)) - f) - (j + 1)).toNat g2])) (x_d C_M_name 34 rfl) p_M_119 (ct_get (ct_new0 dy [xB 12 [xI (4), xI (0), xI (0), xI (0), xN, xN, xN], xA 1 ((s_sc s_reg X (f + q 1345) (f + (j + 1)) - f) - (j + 1)).toNat g2] rfl) _ _ _) rfl rfl trivial (g_setl0 _ _ _ _ [xB 12 [xI (4), xI (0), xI (0), xI (0), xN, xN, xN], xA 1 ((s_sc s_reg X (f + q 1345) (f + (j + 1)) - f) - (j + 1)).toNat g2] _) ?_
    refine x_aload_n (x_d C_M_name 35 rfl) rfl ?_
    refine x_iload_n (x_d C_M_name 36 rfl) rfl ?_
    refine x_putfield (h1 := hF (x_up q 1346 (s_sc s_reg X (f + q 1345) (f + (j + 1)) - f)) (x_up r 1344 (some 44)) (x_up A 43 tk) ++ (dy ++ [xB 12 [xI (4), xI (0), xI (0), xI (0), xC (52 + dy.length + 1), xN, xN], xA 1 ((s_sc s_reg X (f + q 1345) (f + (j + 1)) - f) - (j + 1)).toNat g2])) (x_d C_M_name 37 rfl) p_M_7 rfl rfl rfl trivial rfl ?_
    refine x_aload_n (x_d C_M_name 38 rfl) rfl ?_
    refine x_areturn (x_d C_M_name 39 rfl) ?_
    rw [if_pos (by omega)] at hnv
    refine Or.inr ⟨by omega, rfl, g2, ?_, fun k hk => ?_⟩
    · rw [hnv, show s_sc s_reg X (f + q 1345) (f + (j + 1)) - (f + j) - 1 = s_sc s_reg X (f + q 1345) (f + (j + 1)) - f - (j + 1) by omega]
    · rw [hg2 k (by omega)]
      have := hX ((j + 1).toNat + k) (by omega)
      rw [show (f + j + 1).toNat + k = f.toNat + ((j + 1).toNat + k) by omega]
      exact this
  · refine x_null (x_d C_M_name 18 rfl) ?_
    refine x_areturn (x_d C_M_name 19 rfl) ?_
    rw [if_neg (by omega)] at hnv
    exact Or.inl ⟨by omega, rfl, rfl⟩
theorem s_sc_fin {p : Int → Bool} {b : Nat → Int} {n t : Int} (h0 : 0 ≤ t) : n ≤ s_sc p b n t ∨ p (b (s_sc p b n t).toNat) = false := by
  by_cases hn : n ≤ t
  · left; have := s_sc_ge p b n t; omega
  · have key : ∀ (m : Nat) (t : Int), (n - t).toNat = m → 0 ≤ t → (n ≤ s_sc p b n t ∨ p (b (s_sc p b n t).toNat) = false) := by
      intro m
      induction m with
      | zero => intro t hm h0; left; have := s_sc_ge p b n t; omega
      | succ m ih =>
        intro t hm h0
        cases hp : p (b t.toNat) with
        | true => rw [s_sc_step h0 (by omega) hp]; exact ih (t + 1) (by omega) (by omega)
        | false => rw [s_sc_stop (Or.inr (Or.inr hp))]; exact Or.inr hp
    exact key _ t rfl h0
theorem s_wd_stop {b : Nat → Int} {n t : Int} (h : 0 ≤ s_wd b n t) : n ≤ s_wd b n t ∨ s_reg (b (s_wd b n t).toNat) = false := by
  have hi := s_wd_in b n t
  have e : s_wd b n t = s_sc s_reg b n t := by
    unfold s_wd at h ⊢
    by_cases c : t < s_sc s_reg b n t
    · rw [if_pos c]
    · rw [if_neg c] at h; omega
  rw [e]
  exact s_sc_fin (by omega)
theorem s_noR {X : Nat → Int} (hB : ∀ k, -128 ≤ X k ∧ X k ≤ 127) {n i : Int} (h0 : 0 ≤ i) (h : n ≤ i ∨ s_reg (X i.toNat) = false) : s_the X n i [82] < 0 := by
  have ht := s_the_in X n i [82]
  simp only [List.length_cons, List.length_nil] at ht
  rcases Int.lt_or_le (s_the X n i [82]) 0 with z | z
  · exact z
  · exfalso
    have hx : 0 ≤ s_txt X n i [82] := by
      unfold s_the at z
      split at z
      · omega
      · exact z
    have hm : s_match X [82] i.toNat = true := by
      unfold s_txt at hx
      split at hx
      · next hh => exact hh.2.2
      · omega
    have hm : (decide (X i.toNat = 82) && true) = true := hm
    rw [Bool.and_true, decide_eq_true_eq] at hm
    rcases h with h | h
    · omega
    · rw [hm] at h; cases h
theorem c_M_reference (Z : xZ) (d : Nat) (q : Nat → Int) (r : Nat → Option Nat) (A : Nat → Nat → Int) (dy : xH) (hd : 8 ≤ d) (X : Nat → Int) (f j : Int) (tk : Nat → Int) (K : Nat → Nat → Nat) (num : Int) (g : Nat → Option xE) (D : Nat) (hg : gok g dy) (hf : 0 ≤ f) (hn : 0 ≤ q 1345 ∧ q 1345 ≤ 4000) (hX : ∀ k : Nat, (k : Int) < q 1345 → A 44 k = X (f.toNat + k)) (hj : 0 ≤ j ∧ j ≤ q 1345) (hB : ∀ k, -128 ≤ X k ∧ X k ≤ 127) (hnum : 0 ≤ num ∧ num < 1000000000) (hK : ∀ u w, u + 7 * w ≤ K u w) : xMet Z d Y_M_reference [xC 42, xI num] (hF (x_up q 1346 j) (x_up r 1344 (some 44)) (x_up A 43 tk) ++ dy) (orq q r A dy X f g (K) (D + 1) (if 0 ≤ s_ref X (f + q 1345) num (f + j) then some ([s_one 8 num (s_num X (f + q 1345) (s_sc s_white X (f + q 1345) (f + j)))], s_ref X (f + q 1345) num (f + j)) else none)) := by
  refine xMet_of (by decide) (Nat.le_of_ble_eq_true rfl) (fun v h2 hq => orq_rok hq) ?_
  refine x_aload_n (x_d C_M_reference 0 rfl) rfl ?_
  refine x_invokevirtual (st := []) (av := []) (x_d C_M_reference 1 rfl) k_M_59 m_M_white v_M_white cl_M rfl rfl (Nat.le_of_ble_eq_true rfl) (by omega) rfl (c_M_white Z (d - 1) q r (x_up A 43 tk) dy (by omega) X f j hf hn hX (by omega)) ?_
  rintro _ h_ ⟨rfl, hh_⟩
  obtain ⟨j1, hj1⟩ : ∃ z, z = s_sc s_white X (f + q 1345) (f + j) - f := ⟨_, rfl⟩
  rw [← hj1] at hh_
  subst hh_
  have hj1a := s_sc_ge s_white X (f + q 1345) (f + j)
  have hj1b := s_sc_le s_white X (n := (f + q 1345)) (t := f + j) (by omega)
  refine x_aload_n (x_d C_M_reference 2 rfl) rfl ?_
  refine x_invokevirtual (st := []) (av := []) (x_d C_M_reference 3 rfl) k_M_98 m_M_takeNumber v_M_takeNumber cl_M rfl rfl (Nat.le_of_ble_eq_true rfl) (by omega) rfl (c_M_takeNumber Z (d - 1) q r (x_up A 43 tk) dy (by omega) X f j1 hf hn hX (by omega)) ?_
  rintro v_ _ ⟨j2, hv_, rfl, hz2⟩
  obtain rfl : v_ = some (xI (s_num X (f + q 1345) (f + j1))) := hv_
  have hz2 : (0 ≤ s_num X (f + q 1345) (f + j1) ∧ j2 = s_wd X (f + q 1345) (f + j1) - f) ∨ (s_num X (f + q 1345) (f + j1) < 0 ∧ j2 = j1) := hz2
  have hni2 := s_num_in X (f + q 1345) (f + j1)
  have hwi2 := s_wd_in X (f + q 1345) (f + j1)
  refine x_istore_n (l1 := [(2, xI (s_num X (f + q 1345) (f + j1))), (0, xC 42), (1, xI (num))]) (x_d C_M_reference 4 rfl) (by decide) rfl ?_
  refine x_iload_n (x_d C_M_reference 5 rfl) rfl ?_
  refine x_if_ge (tgt := 15) (x_d C_M_reference 6 rfl) rfl (fun c3 => ?_) (fun c3 => ?_)
  · refine x_aload_n (x_d C_M_reference 9 rfl) rfl ?_
    refine x_getfield (v := xI (j2)) (x_d C_M_reference 10 rfl) f_M_7 rfl rfl ?_
    refine x_istore_n (l1 := [(3, xI (j2)), (2, xI (s_num X (f + q 1345) (f + j1))), (0, xC 42), (1, xI (num))]) (x_d C_M_reference 11 rfl) (by decide) rfl ?_
    refine x_aload_n (x_d C_M_reference 12 rfl) rfl ?_
    refine x_invokevirtual (st := []) (av := []) (x_d C_M_reference 13 rfl) k_M_59 m_M_white v_M_white cl_M rfl rfl (Nat.le_of_ble_eq_true rfl) (by omega) rfl (c_M_white Z (d - 1) q r (x_up A 43 tk) dy (by omega) X f j2 hf hn hX (by omega)) ?_
    rintro _ h_ ⟨rfl, hh_⟩
    obtain ⟨j4, hj4⟩ : ∃ z, z = s_sc s_white X (f + q 1345) (f + j2) - f := ⟨_, rfl⟩
    rw [← hj4] at hh_
    subst hh_
    have hj4a := s_sc_ge s_white X (f + q 1345) (f + j2)
    have hj4b := s_sc_le s_white X (n := (f + q 1345)) (t := f + j2) (by omega)
    refine x_aload_n (x_d C_M_reference 14 rfl) rfl ?_
    refine x_getfield (v := xI (j4)) (x_d C_M_reference 15 rfl) f_M_7 rfl rfl ?_
    refine x_iload_n (x_d C_M_reference 16 rfl) rfl ?_
    obtain ⟨j3, hj3⟩ : ∃ z, z = j4 := ⟨_, rfl⟩
    have hnoR : j3 = j2 → s_the X (f + q 1345) (f + j3) [82] < 0 := fun e => s_noR hB (by omega) (by rw [e]; rw [show f + j2 = s_wd X (f + q 1345) (f + j1) by omega]; exact s_wd_stop (by omega))
    refine x_icmp_eq (tgt := 54) (x_d C_M_reference 17 rfl) rfl (fun c5 => ?_) (fun c5 => ?_)
    · refine x_null (x_d C_M_reference 28 rfl) ?_
      refine x_areturn (x_d C_M_reference 29 rfl) ?_
      have hrf : s_ref X (f + q 1345) num (f + j) = if 300 ≤ num ∨ s_num X (f + q 1345) (f + j1) < 0 ∨ 65536 ≤ s_num X (f + q 1345) (f + j1) then -1 else s_the X (f + q 1345) (s_sc s_white X (f + q 1345) (s_wd X (f + q 1345) (f + j1))) [82] := by unfold s_ref; rw [show s_sc s_white X (f + q 1345) (f + j) = f + j1 by omega]
      have hneg : s_ref X (f + q 1345) num (f + j) < 0 := by
        rw [hrf]
        split
        · omega
        · first
          | omega
          | (rw [show s_sc s_white X (f + q 1345) (s_wd X (f + q 1345) (f + j1)) = f + j3 by rw [show s_wd X (f + q 1345) (f + j1) = f + j2 by omega]; omega]; first | exact hnoR (by omega) | (rw [hj3]; omega))
      rw [if_neg (by omega)]
      exact orq_none (by omega)
    · refine x_aload_n (x_d C_M_reference 18 rfl) rfl ?_
      refine x_ldcS (i := 63) (x_d C_M_reference 19 rfl) rfl ?_
      refine x_invokevirtual (st := []) (av := [xS (127)]) (x_d C_M_reference 20 rfl) k_M_103 m_M_takeWord v_M_takeWord cl_M rfl rfl (Nat.le_of_ble_eq_true rfl) (by omega) rfl (c_M_takeWord Z (d - 1) q r (x_up A 43 tk) dy (by omega) X f j4 (si := 63) rfl hf hn hX (by omega) (by decide)) ?_
      rintro v_ _ ⟨z6, j6, rfl, rfl, hz6⟩
      have hz6 : (z6 = 1 ∧ 0 ≤ s_the X (f + q 1345) (f + j4) [82] ∧ j6 = s_the X (f + q 1345) (f + j4) [82] - f) ∨ (z6 = 0 ∧ s_the X (f + q 1345) (f + j4) [82] < 0 ∧ j6 = j4) := hz6
      have hti6 := s_the_in X (f + q 1345) (f + j4) [82]
      simp only [List.length_cons, List.length_nil] at hti6
      refine x_if_eq (tgt := 54) (x_d C_M_reference 21 rfl) rfl (fun c7 => ?_) (fun c7 => ?_)
      · refine x_null (x_d C_M_reference 28 rfl) ?_
        refine x_areturn (x_d C_M_reference 29 rfl) ?_
        have hrf : s_ref X (f + q 1345) num (f + j) = if 300 ≤ num ∨ s_num X (f + q 1345) (f + j1) < 0 ∨ 65536 ≤ s_num X (f + q 1345) (f + j1) then -1 else s_the X (f + q 1345) (s_sc s_white X (f + q 1345) (s_wd X (f + q 1345) (f + j1))) [82] := by unfold s_ref; rw [show s_sc s_white X (f + q 1345) (f + j) = f + j1 by omega]
        have hneg : s_ref X (f + q 1345) num (f + j) < 0 := by
          rw [hrf]
          split
          · omega
          · first
            | omega
            | (rw [show s_sc s_white X (f + q 1345) (s_wd X (f + q 1345) (f + j1)) = f + j3 by rw [show s_wd X (f + q 1345) (f + j1) = f + j2 by omega]; omega]; first | exact hnoR (by omega) | (rw [hj3]; omega))
        rw [if_neg (by omega)]
        exact orq_none (by omega)
      · refine x_iload_n (x_d C_M_reference 22 rfl) rfl ?_
        refine x_sipush (x_d C_M_reference 23 rfl) (by omega) ?_
        refine x_icmp_ge (tgt := 54) (x_d C_M_reference 24 rfl) rfl (fun c8 => ?_) (fun c8 => ?_)
        · refine x_null (x_d C_M_reference 28 rfl) ?_
          refine x_areturn (x_d C_M_reference 29 rfl) ?_
          have hrf : s_ref X (f + q 1345) num (f + j) = if 300 ≤ num ∨ s_num X (f + q 1345) (f + j1) < 0 ∨ 65536 ≤ s_num X (f + q 1345) (f + j1) then -1 else s_the X (f + q 1345) (s_sc s_white X (f + q 1345) (s_wd X (f + q 1345) (f + j1))) [82] := by unfold s_ref; rw [show s_sc s_white X (f + q 1345) (f + j) = f + j1 by omega]
          have hneg : s_ref X (f + q 1345) num (f + j) < 0 := by
            rw [hrf]
            split
            · omega
            · first
              | omega
              | (rw [show s_sc s_white X (f + q 1345) (s_wd X (f + q 1345) (f + j1)) = f + j3 by rw [show s_wd X (f + q 1345) (f + j1) = f + j2 by omega]; omega]; first | exact hnoR (by omega) | (rw [hj3]; omega))
          rw [if_neg (by omega)]
          exact orq_none (by omega)
        · refine x_iload_n (x_d C_M_reference 25 rfl) rfl ?_
          refine x_ldc (n := 65535) (x_d C_M_reference 26 rfl) lc_M_107 ⟨by omega, by omega⟩ ?_
          refine x_icmp_le (tgt := 56) (x_d C_M_reference 27 rfl) rfl (fun c9 => ?_) (fun c9 => ?_)
          · refine x_newL (k := 52 + dy.length) (h1 := hF (x_up q 1346 j6) (x_up r 1344 (some 44)) (x_up A 43 tk) ++ (dy ++ [xB 12 [xI (0), xI (0), xI (0), xI (0), xN, xN, xN]])) (x_d C_M_reference 30 rfl) n_M_82 (g_len0 _ _ _ _) (g_push0 _ _ _ _ _) ?_
            refine x_dup (x_d C_M_reference 31 rfl) rfl ?_
            refine x_bipush (x_d C_M_reference 32 rfl) (by omega) ?_
            refine x_invokespecial (st := [xC (52 + dy.length)]) (av := [xI (8)]) (x_d C_M_reference 33 rfl) k_M_84 m_MQ_init rfl v_MQ_init rfl (Nat.le_of_ble_eq_true rfl) (by omega) rfl (c_MQ_init Z (d - 1) (hF (x_up q 1346 j6) (x_up r 1344 (some 44)) (x_up A 43 tk) ++ (dy ++ [xB 12 [xI (0), xI (0), xI (0), xI (0), xN, xN, xN]])) (by omega) (52 + dy.length) 8 (ct_get (ct_new0 dy [xB 12 [xI (0), xI (0), xI (0), xI (0), xN, xN, xN]] rfl) _ _ _)) ?_
            rintro _ h_ ⟨rfl, hh_⟩
            obtain rfl : h_ = hF (x_up q 1346 j6) (x_up r 1344 (some 44)) (x_up A 43 tk) ++ (dy ++ [xB 12 [xI (8), xI (0), xI (0), xI (0), xN, xN, xN]]) := hh_.trans (g_setl0 _ _ _ _ [xB 12 [xI (0), xI (0), xI (0), xI (0), xN, xN, xN]] _)
            refine x_astore (l1 := [(4, xC (52 + dy.length)), (3, xI (j2)), (2, xI (s_num X (f + q 1345) (f + j1))), (0, xC 42), (1, xI (num))]) (x_d C_M_reference 34 rfl) (by decide) rfl ?_
            refine x_aload (x_d C_M_reference 35 rfl) rfl ?_
            refine x_iload_n (x_d C_M_reference 36 rfl) rfl ?_
            refine x_putfield (h1 := hF (x_up q 1346 j6) (x_up r 1344 (some 44)) (x_up A 43 tk) ++ (dy ++ [xB 12 [xI (8), xI (num), xI (0), xI (0), xN, xN, xN]])) (x_d C_M_reference 37 rfl) p_M_95 (ct_get (ct_new0 dy [xB 12 [xI (8), xI (0), xI (0), xI (0), xN, xN, xN]] rfl) _ _ _) rfl rfl trivial (g_setl0 _ _ _ _ [xB 12 [xI (8), xI (0), xI (0), xI (0), xN, xN, xN]] _) ?_
            refine x_aload (x_d C_M_reference 38 rfl) rfl ?_
            refine x_iload_n (x_d C_M_reference 39 rfl) rfl ?_
            refine x_putfield (h1 := hF (x_up q 1346 j6) (x_up r 1344 (some 44)) (x_up A 43 tk) ++ (dy ++ [xB 12 [xI (8), xI (num), xI (s_num X (f + q 1345) (f + j1)), xI (0), xN, xN, xN]])) (x_d C_M_reference 40 rfl) p_M_108 (ct_get (ct_new0 dy [xB 12 [xI (8), xI (num), xI (0), xI (0), xN, xN, xN]] rfl) _ _ _) rfl rfl trivial (g_setl0 _ _ _ _ [xB 12 [xI (8), xI (num), xI (0), xI (0), xN, xN, xN]] _) ?_
            refine x_aload (x_d C_M_reference 41 rfl) rfl ?_
            refine x_areturn (x_d C_M_reference 42 rfl) ?_
            have hrf : s_ref X (f + q 1345) num (f + j) = if 300 ≤ num ∨ s_num X (f + q 1345) (f + j1) < 0 ∨ 65536 ≤ s_num X (f + q 1345) (f + j1) then -1 else s_the X (f + q 1345) (s_sc s_white X (f + q 1345) (s_wd X (f + q 1345) (f + j1))) [82] := by unfold s_ref; rw [show s_sc s_white X (f + q 1345) (f + j) = f + j1 by omega]
            rw [if_neg (by omega), show s_sc s_white X (f + q 1345) (s_wd X (f + q 1345) (f + j1)) = f + j3 by rw [show s_wd X (f + q 1345) (f + j1) = f + j2 by omega]; omega, hj3] at hrf
            have hpos : 0 ≤ s_ref X (f + q 1345) num (f + j) := by omega
            rw [if_pos hpos, show s_sc s_white X (f + q 1345) (f + j) = f + j1 by omega]
            exact orq_one (by omega) hg hK (by omega) (by omega) (fun g2 => ⟨⟨by show (0 : Int) ≤ 8; omega, by show (8 : Int) ≤ 9; omega⟩, fun z => absurd (show (8 : Int) = 3 from z) (by omega), fun _ => ⟨rfl, rfl, by show 0 ≤ num; omega, by show num < 300; omega, by show 0 ≤ s_num X (f + q 1345) (f + j1); omega, by show s_num X (f + q 1345) (f + j1) ≤ 65535; omega⟩, fun z => absurd (show (8 : Int) = 4 ∨ (8 : Int) = 9 from z) (by omega), fun z => absurd (show (8 : Int) = 5 from z) (by omega), fun _ => rfl⟩)
          · refine x_null (x_d C_M_reference 28 rfl) ?_
            refine x_areturn (x_d C_M_reference 29 rfl) ?_
            have hrf : s_ref X (f + q 1345) num (f + j) = if 300 ≤ num ∨ s_num X (f + q 1345) (f + j1) < 0 ∨ 65536 ≤ s_num X (f + q 1345) (f + j1) then -1 else s_the X (f + q 1345) (s_sc s_white X (f + q 1345) (s_wd X (f + q 1345) (f + j1))) [82] := by unfold s_ref; rw [show s_sc s_white X (f + q 1345) (f + j) = f + j1 by omega]
            have hneg : s_ref X (f + q 1345) num (f + j) < 0 := by
              rw [hrf]
              split
              · omega
              · first
                | omega
                | (rw [show s_sc s_white X (f + q 1345) (s_wd X (f + q 1345) (f + j1)) = f + j3 by rw [show s_wd X (f + q 1345) (f + j1) = f + j2 by omega]; omega]; first | exact hnoR (by omega) | (rw [hj3]; omega))
            rw [if_neg (by omega)]
            exact orq_none (by omega)
  · refine x_null (x_d C_M_reference 7 rfl) ?_
    refine x_areturn (x_d C_M_reference 8 rfl) ?_
    have hrf : s_ref X (f + q 1345) num (f + j) = if 300 ≤ num ∨ s_num X (f + q 1345) (f + j1) < 0 ∨ 65536 ≤ s_num X (f + q 1345) (f + j1) then -1 else s_the X (f + q 1345) (s_sc s_white X (f + q 1345) (s_wd X (f + q 1345) (f + j1))) [82] := by unfold s_ref; rw [show s_sc s_white X (f + q 1345) (f + j) = f + j1 by omega]
    have hneg : s_ref X (f + q 1345) num (f + j) < 0 := by
      rw [hrf]
      split
      · omega
      · first
        | omega
        | (rw [show s_sc s_white X (f + q 1345) (s_wd X (f + q 1345) (f + j1)) = f + j3 by rw [show s_wd X (f + q 1345) (f + j1) = f + j2 by omega]; omega]; first | exact hnoR (by omega) | (rw [hj3]; omega))
    rw [if_neg (by omega)]
    exact orq_none (by omega)
