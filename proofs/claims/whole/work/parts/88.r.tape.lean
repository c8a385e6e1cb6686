/-! the reference: the tape, what a file answers -/
/-- the bytes that a feed brings -/
def fdw (a b c e i : Int) (j : Nat) : Int := if j = 0 then a else if j = 1 then b else if j = 2 then c else if j = 3 then e else i
def fdb (a b c e i : Int) (k : Nat) : Int := x_by (fdw a b c e i (k / 4) / 2 ^ (24 - 8 * (k % 4)))
theorem w_M_feed_46 (Z : xZ) (d : Nat) (q : Nat → Int) (r : Nat → Option Nat) (A : Nat → Nat → Int) (dy : xH) (a b c e i : Int) (F : Nat → Int) (hF5 : ∀ j, j < 5 → F j = fdw a b c e i j) (hn : 0 ≤ q 1349 ∧ q 1349 + 20 ≤ 4000) : ∀ (m : Nat) (t : Int) (f : Nat → Int), (0 ≤ t ∧ t + m = 20) → (∀ k : Nat, (k : Int) < q 1349 → f k = A 44 k) → (∀ k : Nat, (k : Int) < t → f ((q 1349).toNat + k) = fdb a b c e i k) → xW Z d Y_M_feed 46 [(0, xC 42), (6, xC (52 + dy.length)), (7, xI t)] [] (hF q r (x_up A 44 f) ++ (dy ++ [xA 0 5 F])) (fun v h2 => v = some (xI (q 1349 + 20)) ∧ ∃ f2 F2, h2 = hF (x_up q 1349 (q 1349 + 20)) r (x_up A 44 f2) ++ (dy ++ [xA 0 5 F2]) ∧ (∀ k : Nat, (k : Int) < q 1349 → f2 k = A 44 k) ∧ ∀ k : Nat, k < 20 → f2 ((q 1349).toNat + k) = fdb a b c e i k) := by
  intro m
  induction m with
  | zero =>
    intro t f ht h1 h2
    refine x_iload (x_d C_M_feed 33 rfl) rfl ?_
    refine x_bipush (x_d C_M_feed 34 rfl) (by omega) ?_
    refine x_icmp_ge (tgt := 90) (x_d C_M_feed 35 rfl) rfl (fun _ => ?_) (fun q => absurd q (by omega))
    refine x_aload_n (x_d C_M_feed 59 rfl) rfl ?_
    refine x_dup (x_d C_M_feed 60 rfl) rfl ?_
    refine x_getfield (v := xI (q 1349)) (x_d C_M_feed 61 rfl) f_M_193 rfl rfl ?_
    refine x_bipush (x_d C_M_feed 62 rfl) (by omega) ?_
    refine x_iadd (x_d C_M_feed 63 rfl) ⟨by omega, by omega⟩ ?_
    refine x_putfield (h1 := hF (x_up q 1349 (q 1349 + 20)) r (x_up A 44 f) ++ (dy ++ [xA 0 5 (F)])) (x_d C_M_feed 64 rfl) p_M_193 rfl rfl rfl trivial rfl ?_
    refine x_aload_n (x_d C_M_feed 65 rfl) rfl ?_
    refine x_getfield (v := xI (q 1349 + 20)) (x_d C_M_feed 66 rfl) f_M_193 rfl rfl ?_
    refine x_ireturn (x_d C_M_feed 67 rfl) ?_
    exact ⟨rfl, f, F, rfl, h1, fun k hk => h2 k (by omega)⟩
  | succ m ih =>
    intro t f ht h1 h2
    have hq4 : (t / 4).toNat < 5 := by omega
    have hF9 := hF5 (t / 4).toNat hq4
    refine x_iload (x_d C_M_feed 33 rfl) rfl ?_
    refine x_bipush (x_d C_M_feed 34 rfl) (by omega) ?_
    refine x_icmp_ge (tgt := 90) (x_d C_M_feed 35 rfl) rfl (fun q => absurd q (by omega)) (fun _ => ?_)
    refine x_aload_n (x_d C_M_feed 36 rfl) rfl ?_
    refine x_getfield (v := xC 44) (x_d C_M_feed 37 rfl) f_M_167 rfl rfl ?_
    refine x_aload_n (x_d C_M_feed 38 rfl) rfl ?_
    refine x_getfield (v := xI (q 1349)) (x_d C_M_feed 39 rfl) f_M_193 rfl rfl ?_
    refine x_iload (x_d C_M_feed 40 rfl) rfl ?_
    refine x_iadd (x_d C_M_feed 41 rfl) ⟨by omega, by omega⟩ ?_
    refine x_aload (x_d C_M_feed 42 rfl) rfl ?_
    refine x_iload (x_d C_M_feed 43 rfl) rfl ?_
    refine x_iconst (x_d C_M_feed 44 rfl) ⟨by omega, by omega⟩ ?_
    refine x_idiv (x_d C_M_feed 45 rfl) (by omega) (by omega) ?_
    refine x_iaload (f := F) (x_d C_M_feed 46 rfl) (ct_get (ct_new0 dy [xA 0 5 (F)] rfl) _ _ _) (by omega) (by omega) ?_
    refine x_bipush (x_d C_M_feed 47 rfl) (by omega) ?_
    refine x_bipush (x_d C_M_feed 48 rfl) (by omega) ?_
    refine x_iload (x_d C_M_feed 49 rfl) rfl ?_
    refine x_iconst (x_d C_M_feed 50 rfl) ⟨by omega, by omega⟩ ?_
    refine x_irem (x_d C_M_feed 51 rfl) (by omega) (by omega) ?_
    refine x_imul (x_d C_M_feed 52 rfl) ⟨by omega, by omega⟩ ?_
    refine x_isub (x_d C_M_feed 53 rfl) ⟨by omega, by omega⟩ ?_
    refine x_ishr (k := (24 - (8 * (t % 4)) : Int).toNat) (x_d C_M_feed 54 rfl) (by omega) (by omega) ?_
    refine x_i2b (x_d C_M_feed 55 rfl) ?_
    refine x_bastore (h1 := hF q r (x_up A 44 (x_up f (q 1349 + t).toNat (x_by ((F (t / 4).toNat) / 2 ^ (24 - (8 * (t % 4)) : Int).toNat)))) ++ (dy ++ [xA 0 5 (F)])) (x_d C_M_feed 56 rfl) rfl (by omega) (by omega) (x_by_in _) rfl ?_
    refine x_iinc (l1 := [(7, xI (t + 1)), (0, xC 42), (6, xC (52 + dy.length))]) (x_d C_M_feed 57 rfl) rfl ⟨by omega, by omega⟩ (by decide) rfl ?_
    refine x_goto (tgt := 46) (x_d C_M_feed 58 rfl) rfl ?_
    refine x_locs [1, 2, 0] rfl ?_
    refine ih (t + 1) _ (by omega) (fun k hk => ?_) (fun k hk => ?_)
    · rw [x_up_n _ _ (by omega)]; exact h1 k hk
    · by_cases ek : (k : Int) = t
      · rw [show (q 1349).toNat + k = (q 1349 + t).toNat by omega, x_up_s]
        unfold fdb
        rw [hF9, show (t / 4).toNat = k / 4 by omega, show (24 - 8 * (t % 4)).toNat = 24 - 8 * (k % 4) by omega]
      · rw [x_up_n _ _ (by omega)]; exact h2 k (by omega)
theorem c_M_feed (Z : xZ) (d : Nat) (q : Nat → Int) (r : Nat → Option Nat) (A : Nat → Nat → Int) (dy : xH) (a b c e i : Int) (hn : 0 ≤ q 1349 ∧ q 1349 ≤ 4000) : xMet Z d Y_M_feed [xC 42, xI a, xI b, xI c, xI e, xI i] (hF q r A ++ dy) (fun v h2 => (4000 < q 1349 + 20 ∧ v = some (xI (-3)) ∧ h2 = hF q r A ++ dy) ∨ (q 1349 + 20 ≤ 4000 ∧ (fun v h2 => v = some (xI (q 1349 + 20)) ∧ ∃ f2 F2, h2 = hF (x_up q 1349 (q 1349 + 20)) r (x_up A 44 f2) ++ (dy ++ [xA 0 5 F2]) ∧ (∀ k : Nat, (k : Int) < q 1349 → f2 k = A 44 k) ∧ ∀ k : Nat, k < 20 → f2 ((q 1349).toNat + k) = fdb a b c e i k) v h2)) := by
  refine xMet_of (by decide) (Nat.le_of_ble_eq_true rfl) (fun v h2 hq => by rcases hq with ⟨_, e, _⟩ | ⟨_, e, _⟩ <;> rw [e] <;> trivial) ?_
  refine x_aload_n (x_d C_M_feed 0 rfl) rfl ?_
  refine x_getfield (v := xI (q 1349)) (x_d C_M_feed 1 rfl) f_M_193 rfl rfl ?_
  refine x_bipush (x_d C_M_feed 2 rfl) (by omega) ?_
  refine x_iadd (x_d C_M_feed 3 rfl) ⟨by omega, by omega⟩ ?_
  refine x_sipush (x_d C_M_feed 4 rfl) (by omega) ?_
  refine x_icmp_le (tgt := 16) (x_d C_M_feed 5 rfl) rfl (fun c1 => ?_) (fun c1 => ?_)
  · refine x_iconst (x_d C_M_feed 8 rfl) ⟨by omega, by omega⟩ ?_
    refine x_newarrayL (k := 52 + dy.length) (h1 := hF q r A ++ (dy ++ [xA 0 5 (fun _ => 0)])) (x_d C_M_feed 9 rfl) at_int (by omega) (by omega) (g_len0 _ _ _ _) (g_push0 _ _ _ _ _) ?_
    refine x_dup (x_d C_M_feed 10 rfl) rfl ?_
    refine x_iconst (x_d C_M_feed 11 rfl) ⟨by omega, by omega⟩ ?_
    refine x_iload_n (x_d C_M_feed 12 rfl) rfl ?_
    refine x_iastore (h1 := hF q r A ++ (dy ++ [xA 0 5 (x_up (fun _ => 0) (0 : Int).toNat a)])) (x_d C_M_feed 13 rfl) (ct_get (ct_new0 dy [xA 0 5 (fun _ => 0)] rfl) _ _ _) (by omega) (by omega) (g_setl0 _ _ _ _ [xA 0 5 (fun _ => 0)] _) ?_
    refine x_dup (x_d C_M_feed 14 rfl) rfl ?_
    refine x_iconst (x_d C_M_feed 15 rfl) ⟨by omega, by omega⟩ ?_
    refine x_iload_n (x_d C_M_feed 16 rfl) rfl ?_
    refine x_iastore (h1 := hF q r A ++ (dy ++ [xA 0 5 (x_up (x_up (fun _ => 0) (0 : Int).toNat a) (1 : Int).toNat b)])) (x_d C_M_feed 17 rfl) (ct_get (ct_new0 dy [xA 0 5 (x_up (fun _ => 0) (0 : Int).toNat a)] rfl) _ _ _) (by omega) (by omega) (g_setl0 _ _ _ _ [xA 0 5 (x_up (fun _ => 0) (0 : Int).toNat a)] _) ?_
    refine x_dup (x_d C_M_feed 18 rfl) rfl ?_
    refine x_iconst (x_d C_M_feed 19 rfl) ⟨by omega, by omega⟩ ?_
    refine x_iload_n (x_d C_M_feed 20 rfl) rfl ?_
    refine x_iastore (h1 := hF q r A ++ (dy ++ [xA 0 5 (x_up (x_up (x_up (fun _ => 0) (0 : Int).toNat a) (1 : Int).toNat b) (2 : Int).toNat c)])) (x_d C_M_feed 21 rfl) (ct_get (ct_new0 dy [xA 0 5 (x_up (x_up (fun _ => 0) (0 : Int).toNat a) (1 : Int).toNat b)] rfl) _ _ _) (by omega) (by omega) (g_setl0 _ _ _ _ [xA 0 5 (x_up (x_up (fun _ => 0) (0 : Int).toNat a) (1 : Int).toNat b)] _) ?_
    refine x_dup (x_d C_M_feed 22 rfl) rfl ?_
    refine x_iconst (x_d C_M_feed 23 rfl) ⟨by omega, by omega⟩ ?_
    refine x_iload (x_d C_M_feed 24 rfl) rfl ?_
    refine x_iastore (h1 := hF q r A ++ (dy ++ [xA 0 5 (x_up (x_up (x_up (x_up (fun _ => 0) (0 : Int).toNat a) (1 : Int).toNat b) (2 : Int).toNat c) (3 : Int).toNat e)])) (x_d C_M_feed 25 rfl) (ct_get (ct_new0 dy [xA 0 5 (x_up (x_up (x_up (fun _ => 0) (0 : Int).toNat a) (1 : Int).toNat b) (2 : Int).toNat c)] rfl) _ _ _) (by omega) (by omega) (g_setl0 _ _ _ _ [xA 0 5 (x_up (x_up (x_up (fun _ => 0) (0 : Int).toNat a) (1 : Int).toNat b) (2 : Int).toNat c)] _) ?_
    refine x_dup (x_d C_M_feed 26 rfl) rfl ?_
    refine x_iconst (x_d C_M_feed 27 rfl) ⟨by omega, by omega⟩ ?_
    refine x_iload (x_d C_M_feed 28 rfl) rfl ?_
    refine x_iastore (h1 := hF q r A ++ (dy ++ [xA 0 5 (x_up (x_up (x_up (x_up (x_up (fun _ => 0) (0 : Int).toNat a) (1 : Int).toNat b) (2 : Int).toNat c) (3 : Int).toNat e) (4 : Int).toNat i)])) (x_d C_M_feed 29 rfl) (ct_get (ct_new0 dy [xA 0 5 (x_up (x_up (x_up (x_up (fun _ => 0) (0 : Int).toNat a) (1 : Int).toNat b) (2 : Int).toNat c) (3 : Int).toNat e)] rfl) _ _ _) (by omega) (by omega) (g_setl0 _ _ _ _ [xA 0 5 (x_up (x_up (x_up (x_up (fun _ => 0) (0 : Int).toNat a) (1 : Int).toNat b) (2 : Int).toNat c) (3 : Int).toNat e)] _) ?_
    refine x_astore (l1 := [(6, xC (52 + dy.length)), (0, xC 42), (1, xI (a)), (2, xI (b)), (3, xI (c)), (4, xI (e)), (5, xI (i))]) (x_d C_M_feed 30 rfl) (by decide) rfl ?_
    refine x_iconst (x_d C_M_feed 31 rfl) ⟨by omega, by omega⟩ ?_
    refine x_istore (l1 := [(7, xI (0)), (6, xC (52 + dy.length)), (0, xC 42), (1, xI (a)), (2, xI (b)), (3, xI (c)), (4, xI (e)), (5, xI (i))]) (x_d C_M_feed 32 rfl) (by decide) rfl ?_
    refine x_locs [2, 1, 0] rfl ?_
    refine xW_post (fun v h2 hq => Or.inr ⟨by omega, hq⟩) ?_
    refine x_heq (h1 := hF q r (x_up A 44 (A 44)) ++ (dy ++ [xA 0 5 (x_up (x_up (x_up (x_up (x_up (fun _ => 0) (0 : Int).toNat a) (1 : Int).toNat b) (2 : Int).toNat c) (3 : Int).toNat e) (4 : Int).toNat i)])) (by rw [x_up_same A 44]) ?_
    refine w_M_feed_46 Z d q r A dy a b c e i _ (fun j hj => ?_) (by omega) 20 0 (A 44) (by omega) (fun _ _ => rfl) (fun k hk => absurd hk (by omega))
    rcases (show j = 0 ∨ j = 1 ∨ j = 2 ∨ j = 3 ∨ j = 4 by omega) with rfl | rfl | rfl | rfl | rfl <;> rfl
  · refine x_bipush (x_d C_M_feed 6 rfl) (by omega) ?_
    refine x_ireturn (x_d C_M_feed 7 rfl) ?_
    exact Or.inl ⟨by omega, rfl, rfl⟩
theorem c_M_end (Z : xZ) (d : Nat) (hd : 1 ≤ d) (q : Nat → Int) (r : Nat → Option Nat) (A : Nat → Nat → Int) (dy : xH) (n : Int) : xMet Z d Y_M_end [xC 42, xI n] (hF q r A ++ dy) (fun v h2 => (¬ (0 ≤ n ∧ n ≤ q 1349) ∧ v = some (xI (-1)) ∧ h2 = hF q r A ++ dy) ∨ ((0 ≤ n ∧ n ≤ q 1349) ∧ v = some (xI n) ∧ h2 = hF (x_up q 1349 n) r A ++ dy)) := by
  refine xMet_of (by decide) (Nat.le_of_ble_eq_true rfl) (fun v h2 hq => by rcases hq with ⟨_, e, _⟩ | ⟨_, e, _⟩ <;> rw [e] <;> trivial) ?_
  refine x_iload_n (x_d C_M_end 0 rfl) rfl ?_
  refine x_i2l (x_d C_M_end 1 rfl) ?_
  refine x_lconst0 (x_d C_M_end 2 rfl) ?_
  refine x_aload_n (x_d C_M_end 3 rfl) rfl ?_
  refine x_getfield (v := xI (q 1349)) (x_d C_M_end 4 rfl) f_M_193 rfl rfl ?_
  refine x_i2l (x_d C_M_end 5 rfl) ?_
  refine x_invokestatic (st := []) (av := [xJ (n), xJ (0), xJ (q 1349)]) (x_d C_M_end 6 rfl) k_M_48 m_M_in s_M_in rfl (Nat.le_of_ble_eq_true rfl) (by omega) rfl (c_M_in Z (d - 1) (hF q r A ++ dy) n 0 (q 1349)) ?_
  rintro v_ h_ ⟨hv_, hh_⟩
  rw [hh_]
  clear hh_
  obtain ⟨z1, rfl, hz1⟩ : ∃ z : Int, v_ = some (xI z) ∧ ((z = 1 ∧ (0 ≤ n ∧ n ≤ q 1349)) ∨ (z = 0 ∧ ¬ (0 ≤ n ∧ n ≤ q 1349))) := ⟨_, hv_, by by_cases c_ : (0 ≤ n ∧ n ≤ q 1349); exact Or.inl ⟨x_bo_t c_, c_⟩; exact Or.inr ⟨x_bo_f c_, c_⟩⟩
  refine x_if_ne (tgt := 16) (x_d C_M_end 7 rfl) rfl (fun c2 => ?_) (fun c2 => ?_)
  · refine x_aload_n (x_d C_M_end 10 rfl) rfl ?_
    refine x_iload_n (x_d C_M_end 11 rfl) rfl ?_
    refine x_putfield (h1 := hF (x_up q 1349 n) r A ++ dy) (x_d C_M_end 12 rfl) p_M_193 rfl rfl rfl trivial rfl ?_
    refine x_iload_n (x_d C_M_end 13 rfl) rfl ?_
    refine x_ireturn (x_d C_M_end 14 rfl) ?_
    exact Or.inr ⟨by omega, rfl, rfl⟩
  · refine x_iconst (x_d C_M_end 8 rfl) ⟨by omega, by omega⟩ ?_
    refine x_ireturn (x_d C_M_end 9 rfl) ?_
    exact Or.inl ⟨by omega, rfl, rfl⟩
theorem c_M_isUsed (Z : xZ) (d : Nat) (q : Nat → Int) (r : Nat → Option Nat) (A : Nat → Nat → Int) (dy : xH) (hd : 1 ≤ d) (n : Int) (cp : Nat) (bt : Option Nat) (tb lt : Int) (tr : Option Nat) (sz : Int) (fis fge fpl : Nat → Int) (fva : Nat → Option Nat) (fch : Nat → Int) (hp : PB dy cp bt tb lt tr sz fis fge fpl fva fch) (hsz : 0 ≤ sz ∧ sz ≤ 300) : xMet Z d Y_M_isUsed [xC 42, xI n] (hF q (x_up r 1350 (some cp)) A ++ dy) (fun v h2 => v = some (xI (x_bo (decide (0 ≤ n ∧ n < sz ∧ fis n.toNat = 2)))) ∧ h2 = hF q (x_up r 1350 (some cp)) A ++ dy) := by
  refine xMet_of (by decide) (Nat.le_of_ble_eq_true rfl) (fun v h2 hq => by rw [hq.1]; exact x_fitZ _) ?_
  refine x_aload_n (x_d C_M_isUsed 0 rfl) rfl ?_
  refine x_getfield (v := xC cp) (x_d C_M_isUsed 1 rfl) f_M_207 rfl rfl ?_
  refine x_ifnullC (tgt := 43) (x_d C_M_isUsed 2 rfl) rfl ?_
  refine x_iload_n (x_d C_M_isUsed 3 rfl) rfl ?_
  refine x_i2l (x_d C_M_isUsed 4 rfl) ?_
  refine x_lconst0 (x_d C_M_isUsed 5 rfl) ?_
  refine x_aload_n (x_d C_M_isUsed 6 rfl) rfl ?_
  refine x_getfield (v := xC cp) (x_d C_M_isUsed 7 rfl) f_M_207 rfl rfl ?_
  refine x_getfield (v := xI (sz)) (x_d C_M_isUsed 8 rfl) f_M_266 (ct_get hp.1 _ _ _) rfl ?_
  refine x_iconst (x_d C_M_isUsed 9 rfl) ⟨by omega, by omega⟩ ?_
  refine x_isub (x_d C_M_isUsed 10 rfl) ⟨by omega, by omega⟩ ?_
  refine x_i2l (x_d C_M_isUsed 11 rfl) ?_
  refine x_invokestatic (st := []) (av := [xJ (n), xJ (0), xJ (sz - 1)]) (x_d C_M_isUsed 12 rfl) k_M_48 m_M_in s_M_in rfl (Nat.le_of_ble_eq_true rfl) (by omega) rfl (c_M_in Z (d - 1) (hF q (x_up r 1350 (some cp)) A ++ dy) n 0 (sz - 1)) ?_
  rintro v_ h_ ⟨hv_, hh_⟩
  rw [hh_]
  clear hh_
  obtain ⟨z2, rfl, hz2⟩ : ∃ z : Int, v_ = some (xI z) ∧ ((z = 1 ∧ (0 ≤ n ∧ n ≤ sz - 1)) ∨ (z = 0 ∧ ¬ (0 ≤ n ∧ n ≤ sz - 1))) := ⟨_, hv_, by by_cases c_ : (0 ≤ n ∧ n ≤ sz - 1); exact Or.inl ⟨x_bo_t c_, c_⟩; exact Or.inr ⟨x_bo_f c_, c_⟩⟩
  refine x_if_eq (tgt := 43) (x_d C_M_isUsed 13 rfl) rfl (fun c3 => ?_) (fun c3 => ?_)
  · refine x_iconst (x_d C_M_isUsed 23 rfl) ⟨by omega, by omega⟩ ?_
    refine x_ireturn (x_d C_M_isUsed 24 rfl) ?_
    exact ⟨congrArg (fun z => some (xI z)) (x_bo_f (by omega)).symm, rfl⟩
  · refine x_aload_n (x_d C_M_isUsed 14 rfl) rfl ?_
    refine x_getfield (v := xC cp) (x_d C_M_isUsed 15 rfl) f_M_207 rfl rfl ?_
    refine x_getfield (v := xC (cp + 1)) (x_d C_M_isUsed 16 rfl) f_M_267 (ct_get hp.1 _ _ _) rfl ?_
    refine x_iload_n (x_d C_M_isUsed 17 rfl) rfl ?_
    refine x_iaload (f := fis) (x_d C_M_isUsed 18 rfl) (ct_get hp.2.1 _ _ _) (by omega) (by omega) ?_
    refine x_iconst (x_d C_M_isUsed 19 rfl) ⟨by omega, by omega⟩ ?_
    refine x_icmp_ne (tgt := 43) (x_d C_M_isUsed 20 rfl) rfl (fun c4 => ?_) (fun c4 => ?_)
    · refine x_iconst (x_d C_M_isUsed 23 rfl) ⟨by omega, by omega⟩ ?_
      refine x_ireturn (x_d C_M_isUsed 24 rfl) ?_
      exact ⟨congrArg (fun z => some (xI z)) (x_bo_f (by omega)).symm, rfl⟩
    · refine x_iconst (x_d C_M_isUsed 21 rfl) ⟨by omega, by omega⟩ ?_
      refine x_goto (tgt := 44) (x_d C_M_isUsed 22 rfl) rfl ?_
      refine x_ireturn (x_d C_M_isUsed 24 rfl) ?_
      exact ⟨congrArg (fun z => some (xI z)) (x_bo_t (by omega)).symm, rfl⟩
theorem c_M_isUsedN (Z : xZ) (d : Nat) (q : Nat → Int) (r : Nat → Option Nat) (A : Nat → Nat → Int) (dy : xH) (n : Int) : xMet Z d Y_M_isUsed [xC 42, xI n] (hF q (x_up r 1350 none) A ++ dy) (fun v h2 => v = some (xI 0) ∧ h2 = hF q (x_up r 1350 none) A ++ dy) := by
  refine xMet_of (by decide) (Nat.le_of_ble_eq_true rfl) (fun v h2 hq => by rw [hq.1]; exact Or.inl rfl) ?_
  refine x_aload_n (x_d C_M_isUsed 0 rfl) rfl ?_
  refine x_getfield (v := xN) (x_d C_M_isUsed 1 rfl) f_M_207 rfl rfl ?_
  refine x_ifnullN (tgt := 43) (x_d C_M_isUsed 2 rfl) rfl ?_
  refine x_iconst (x_d C_M_isUsed 23 rfl) ⟨by omega, by omega⟩ ?_
  refine x_ireturn (x_d C_M_isUsed 24 rfl) ?_
  exact ⟨rfl, rfl⟩
theorem c_M_isAt2 (Z : xZ) (d : Nat) (q : Nat → Int) (r : Nat → Option Nat) (A : Nat → Nat → Int) (dy : xH) (c : Nat) (k : Int) (fs : List xV) (hc : ct dy c (xB 12 (xI k :: fs))) : xMet Z d Y_M_isAt2 [xC 42, xC c] (hF q r A ++ dy) (fun v h2 => v = some (xI k) ∧ h2 = hF q (x_up r 1351 (some c)) A ++ dy) := by
  refine xMet_of (by decide) (Nat.le_of_ble_eq_true rfl) (fun v h2 hq => by rw [hq.1]; trivial) ?_
  refine x_aload_n (x_d C_M_isAt2 0 rfl) rfl ?_
  refine x_ifnonnullC (tgt := 7) (x_d C_M_isAt2 1 rfl) rfl ?_
  refine x_aload_n (x_d C_M_isAt2 4 rfl) rfl ?_
  refine x_aload_n (x_d C_M_isAt2 5 rfl) rfl ?_
  refine x_putfield (h1 := hF q (x_up r 1351 (some c)) A ++ dy) (x_d C_M_isAt2 6 rfl) p_M_211 rfl rfl rfl trivial rfl ?_
  refine x_aload_n (x_d C_M_isAt2 7 rfl) rfl ?_
  refine x_getfield (v := xI (k)) (x_d C_M_isAt2 8 rfl) f_M_261 (ct_get hc _ _ _) rfl ?_
  refine x_ireturn (x_d C_M_isAt2 9 rfl) ?_
  exact ⟨rfl, rfl⟩
theorem c_M_isAt2N (Z : xZ) (d : Nat) (q : Nat → Int) (r : Nat → Option Nat) (A : Nat → Nat → Int) (dy : xH) : xMet Z d Y_M_isAt2 [xC 42, xN] (hF q r A ++ dy) (fun v h2 => v = some (xI (-2)) ∧ h2 = hF q r A ++ dy) := by
  refine xMet_of (by decide) (Nat.le_of_ble_eq_true rfl) (fun v h2 hq => by rw [hq.1]; trivial) ?_
  refine x_aload_n (x_d C_M_isAt2 0 rfl) rfl ?_
  refine x_ifnonnullN (tgt := 7) (x_d C_M_isAt2 1 rfl) rfl ?_
  refine x_bipush (x_d C_M_isAt2 2 rfl) (by omega) ?_
  refine x_ireturn (x_d C_M_isAt2 3 rfl) ?_
  exact ⟨rfl, rfl⟩
theorem c_M_octet (Z : xZ) (d : Nat) (q : Nat → Int) (r : Nat → Option Nat) (A : Nat → Nat → Int) (dy : xH) (hd : 1 ≤ d) (i : Int) (hn : 0 ≤ q 1353 ∧ q 1353 ≤ 6000) : xMet Z d Y_M_octet [xC 42, xI i] (hF q r A ++ dy) (fun v h2 => v = some (xI (if i = -1 then q 1353 else if 0 ≤ i ∧ i < q 1353 then A 45 i.toNat % 256 else -2)) ∧ h2 = hF q r A ++ dy) := by
  refine xMet_of (by decide) (Nat.le_of_ble_eq_true rfl) (fun v h2 hq => by rw [hq.1]; trivial) ?_
  refine x_iload_n (x_d C_M_octet 0 rfl) rfl ?_
  refine x_i2l (x_d C_M_octet 1 rfl) ?_
  refine x_ldc2 (n := -1) (x_d C_M_octet 2 rfl) lc_M_336 ⟨by omega, by omega⟩ ?_
  refine x_aload_n (x_d C_M_octet 3 rfl) rfl ?_
  refine x_getfield (v := xI (q 1353)) (x_d C_M_octet 4 rfl) f_M_329 rfl rfl ?_
  refine x_iconst (x_d C_M_octet 5 rfl) ⟨by omega, by omega⟩ ?_
  refine x_isub (x_d C_M_octet 6 rfl) ⟨by omega, by omega⟩ ?_
  refine x_i2l (x_d C_M_octet 7 rfl) ?_
  refine x_invokestatic (st := []) (av := [xJ (i), xJ (-1), xJ (q 1353 - 1)]) (x_d C_M_octet 8 rfl) k_M_48 m_M_in s_M_in rfl (Nat.le_of_ble_eq_true rfl) (by omega) rfl (c_M_in Z (d - 1) (hF q r A ++ dy) i (-1) (q 1353 - 1)) ?_
  rintro v_ h_ ⟨hv_, hh_⟩
  rw [hh_]
  clear hh_
  obtain ⟨z1, rfl, hz1⟩ : ∃ z : Int, v_ = some (xI z) ∧ ((z = 1 ∧ (-1 ≤ i ∧ i ≤ q 1353 - 1)) ∨ (z = 0 ∧ ¬ (-1 ≤ i ∧ i ≤ q 1353 - 1))) := ⟨_, hv_, by by_cases c_ : (-1 ≤ i ∧ i ≤ q 1353 - 1); exact Or.inl ⟨x_bo_t c_, c_⟩; exact Or.inr ⟨x_bo_f c_, c_⟩⟩
  refine x_if_ne (tgt := 21) (x_d C_M_octet 9 rfl) rfl (fun c2 => ?_) (fun c2 => ?_)
  · refine x_iload_n (x_d C_M_octet 12 rfl) rfl ?_
    refine x_if_ge (tgt := 32) (x_d C_M_octet 13 rfl) rfl (fun c3 => ?_) (fun c3 => ?_)
    · refine x_aload_n (x_d C_M_octet 17 rfl) rfl ?_
      refine x_getfield (v := xC 45) (x_d C_M_octet 18 rfl) f_M_170 rfl rfl ?_
      refine x_iload_n (x_d C_M_octet 19 rfl) rfl ?_
      refine x_baload (f := A 45) (x_d C_M_octet 20 rfl) rfl (by omega) (by omega) ?_
      refine x_sipush (x_d C_M_octet 21 rfl) (by omega) ?_
      refine x_iand255 (x_d C_M_octet 22 rfl) ?_
      refine x_ireturn (x_d C_M_octet 23 rfl) ?_
      exact ⟨congrArg (fun z => some (xI z)) (by split <;> (try split) <;> omega), rfl⟩
    · refine x_aload_n (x_d C_M_octet 14 rfl) rfl ?_
      refine x_getfield (v := xI (q 1353)) (x_d C_M_octet 15 rfl) f_M_329 rfl rfl ?_
      refine x_goto (tgt := 42) (x_d C_M_octet 16 rfl) rfl ?_
      refine x_ireturn (x_d C_M_octet 23 rfl) ?_
      exact ⟨congrArg (fun z => some (xI z)) (by split <;> (try split) <;> omega), rfl⟩
  · refine x_bipush (x_d C_M_octet 10 rfl) (by omega) ?_
    refine x_ireturn (x_d C_M_octet 11 rfl) ?_
    exact ⟨congrArg (fun z => some (xI z)) (by split <;> (try split) <;> omega), rfl⟩
