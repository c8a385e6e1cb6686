/-! the reference: open -/
/-- what the tables of a text that is opened say, and its objects: none if there is a fault -/
noncomputable def s_fault (X : Nat → Int) (T f : Int) (S : otr) : Int := if ¬ S.1 = 0 then S.1 else @ite _ (s_rvs X T f S.2.1.2.1 S.2.1.2.2.1 S.2.1.2.2.2.1 S.2.2.1 ∧ s_sm (s_lrr X T f S.2.1.2.1 S.2.1.2.2.1 S.2.1.2.2.2.1 S.2.2.1) S.2.2.1.toNat ≤ 900) (Classical.propDecidable _) 0 5
/-- what open leaves of the reference: X, f the text, x what the class had of the entries -/
def moq (q : Nat → Int) (r : Nat → Option Nat) (A : Nat → Nat → Int) (dy : xH) (X : Nat → Int) (f : Int) (g : Nat → Option xE) (x : ost) : Option xV → xH → Prop := fun v h2 => ∃ j2 ol2 tk2 dyn2, (0 ≤ j2 ∧ j2 ≤ 4000) ∧ (∀ u w, mu u w dyn2 ≤ mu u w dy + (6 * u + 1515 * w + (u + 6 * w) + k_tabs u w X (f + q 1349) f 6 0 (s_last X (f + q 1349) f) [] x 0 + (u + (q 1349).toNat * w))) ∧ ((¬ s_fault X (f + q 1349) f (s_ot X (f + q 1349) f x) = 0 ∧ v = some (xI (s_fault X (f + q 1349) f (s_ot X (f + q 1349) f x))) ∧ h2 = hF (x_up (x_up (x_up (x_up q 1349 0) 1345 (q 1349)) 1354 ol2) 1346 j2) (x_up r 1344 (some 44)) (x_up A 43 tk2) ++ dyn2 ∧ gok g dyn2) ∨ (s_fault X (f + q 1349) f (s_ot X (f + q 1349) f x) = 0 ∧ v = some (xI 0) ∧ h2 = hF (x_up (x_up (x_up (x_up q 1349 0) 1345 (q 1349)) 1354 ol2) 1346 j2) (x_up (x_up (x_up r 1344 (some 44)) 1350 (some (52 + dy.length))) 1351 none) (x_up A 43 tk2) ++ dyn2 ∧ ∃ g2 c cb fb fis fge fpl fva2, gle g g2 ∧ gok g2 dyn2 ∧ gnp g2 (52 + dy.length) ∧ PB dyn2 (52 + dy.length) (some cb) (s_ot X (f + q 1349) f x).2.2.2.1 (s_last X (f + q 1349) f) (some c) (s_ot X (f + q 1349) f x).2.2.1 fis fge fpl fva2 (fun _ => 0) ∧ g2 cb = some (xA 1 (q 1349).toNat fb) ∧ (∀ k : Nat, (k : Int) < q 1349 → fb k = X (f.toNat + k)) ∧ Tr X (f + q 1349) g2 (lP (s_ot X (f + q 1349) f x).2.2.2.2) 9 0 c ∧ Dj g2 c ∧ (1 ≤ (s_ot X (f + q 1349) f x).2.2.1 ∧ (s_ot X (f + q 1349) f x).2.2.1 ≤ 300) ∧ EX (s_ot X (f + q 1349) f x).2.2.1 fis fge (s_ot X (f + q 1349) f x).2.1.2.2.1 (s_ot X (f + q 1349) f x).2.1.2.2.2.1 ∧ (∀ k : Nat, ((s_ot X (f + q 1349) f x).2.1.2.2.2.1 k = 0 ∨ (s_ot X (f + q 1349) f x).2.2.1 ≤ k) → fva2 k = none) ∧ ∀ k : Nat, (k : Int) < (s_ot X (f + q 1349) f x).2.2.1 → ¬ (s_ot X (f + q 1349) f x).2.1.2.2.2.1 k = 0 → ∃ ts c2, s_rv X (f + q 1349) f (s_ot X (f + q 1349) f x).2.1.2.1 (s_ot X (f + q 1349) f x).2.1.2.2.1 (s_ot X (f + q 1349) f x).2.1.2.2.2.1 (s_ot X (f + q 1349) f x).2.2.1 k = some ts ∧ fva2 k = some c2 ∧ Tr X (f + q 1349) g2 (lP ts) 9 0 c2))
theorem c_M_open (Z : xZ) (d : Nat) (q : Nat → Int) (r : Nat → Option Nat) (A : Nat → Nat → Int) (dy : xH) (hd : 46 ≤ d) (X : Nat → Int) (f : Int) (g : Nat → Option xE) (x : ost) (hf : 0 ≤ f) (hn : 0 ≤ q 1349 ∧ q 1349 ≤ 4000) (hX : ∀ k : Nat, (k : Int) < q 1349 → A 44 k = X (f.toNat + k)) (hB : ∀ k, -128 ≤ X k ∧ X k ≤ 127) (hfE : f + q 1349 ≤ 10248) (hj : 0 ≤ q 1346 ∧ q 1346 ≤ 4000) (hgk : gok g dy) (hx0 : ∀ k, k < 300 → x.1 k = 0 ∧ x.2.2.1 k = 0 ∧ x.2.2.2.1 k = 0) : xMet Z d Y_M_open [xC 42] (hF q r A ++ dy) (moq q r A dy X f g x) := by
  refine xMet_of (by decide) (Nat.le_of_ble_eq_true rfl) (fun v h2 hq => by obtain ⟨_, _, _, _, _, _, ⟨_, e, _⟩ | ⟨_, e, _⟩⟩ := hq <;> rw [e] <;> trivial) ?_
  have hrx : RX 0 0 (q 1349) (s_hi x (-1)) (fun _ => 0) (fun _ => 0) (fun _ => 0) (fun _ => 0) := fun k hk => by
    obtain ⟨h1, h2, h3⟩ := hx0 k hk
    refine ⟨Or.inl rfl, ⟨fun _ => h1, fun _ => rfl⟩, Or.inl rfl, ⟨fun z => absurd rfl z, fun z => ?_⟩, ?_, fun z => absurd rfl z, fun _ => ⟨h3, h2, rfl⟩, fun z => absurd rfl z, fun z => ?_⟩
    · have z : x.1 k = 0 + 1 := z
      omega
    · show 0 ≤ x.1 k ∧ x.1 k ≤ 0 + 1
      omega
    · have z : x.1 k = 0 + 1 := z
      omega
  refine x_newL (k := 52 + dy.length) (h1 := hF q r A ++ (dy ++ [xB 11 [xN, xI (0), xI (0), xN, xN, xN, xN, xN, xN, xI (0)]])) (x_d C_M_open 0 rfl) n_M_196 (g_len0 _ _ _ _) (g_push0 _ _ _ _ _) ?_
  refine x_dup (x_d C_M_open 1 rfl) rfl ?_
  refine x_invokespecial (st := [xC (52 + dy.length)]) (av := []) (x_d C_M_open 2 rfl) k_M_198 m_MP_init rfl v_MP_init rfl (Nat.le_of_ble_eq_true rfl) (by omega) rfl (c_MP_init Z (d - 1) q r A dy (by omega)) ?_
  rintro _ _ ⟨rfl, rfl⟩
  refine x_astore_n (l1 := [(1, xC (52 + dy.length)), (0, xC 42)]) (x_d C_M_open 3 rfl) (by decide) rfl ?_
  refine x_aload_n (x_d C_M_open 4 rfl) rfl ?_
  refine x_aload_n (x_d C_M_open 5 rfl) rfl ?_
  refine x_getfield (v := xC 44) (x_d C_M_open 6 rfl) f_M_167 rfl rfl ?_
  refine x_putfield (h1 := hF q (x_up r 1344 (some 44)) A ++ (dy ++ [xB 11 [xN, xI (0), xI (0), xN, xC (52 + dy.length + 1), xC (52 + dy.length + 2), xC (52 + dy.length + 3), xC (52 + dy.length + 4), xC (52 + dy.length + 5), xI (0)], xA 0 301 (fun _ => 0), xA 0 301 (fun _ => 0), xA 3 301 (fun _ => 0), xQ 4 301 (fun _ => none), xA 2 301 (fun _ => 0)])) (x_d C_M_open 7 rfl) p_M_14 rfl rfl rfl trivial rfl ?_
  refine x_aload_n (x_d C_M_open 8 rfl) rfl ?_
  refine x_aload_n (x_d C_M_open 9 rfl) rfl ?_
  refine x_invokevirtual (st := [xC 42]) (av := []) (x_d C_M_open 10 rfl) k_M_199 m_M_used v_M_used cl_M rfl rfl (Nat.le_of_ble_eq_true rfl) (by omega) rfl (c_M_used Z (d - 1) q (x_up r 1344 (some 44)) A (dy ++ [xB 11 [xN, xI 0, xI 0, xN, xC (52 + dy.length + 1), xC (52 + dy.length + 2), xC (52 + dy.length + 3), xC (52 + dy.length + 4), xC (52 + dy.length + 5), xI 0], xA 0 301 (fun _ => 0), xA 0 301 (fun _ => 0), xA 3 301 (fun _ => 0), xQ 4 301 (fun _ => none), xA 2 301 (fun _ => 0)])) ?_
  rintro v_ _ ⟨hv_, rfl⟩
  obtain rfl : v_ = some (xI (q 1349)) := hv_
  refine x_putfield (h1 := hF (x_up (x_up q 1349 0) 1345 (q 1349)) (x_up r 1344 (some 44)) A ++ (dy ++ [xB 11 [xN, xI (0), xI (0), xN, xC (52 + dy.length + 1), xC (52 + dy.length + 2), xC (52 + dy.length + 3), xC (52 + dy.length + 4), xC (52 + dy.length + 5), xI (0)], xA 0 301 (fun _ => 0), xA 0 301 (fun _ => 0), xA 3 301 (fun _ => 0), xQ 4 301 (fun _ => none), xA 2 301 (fun _ => 0)])) (x_d C_M_open 11 rfl) p_M_11 rfl rfl rfl trivial rfl ?_
  refine x_aload_n (x_d C_M_open 12 rfl) rfl ?_
  refine x_aload_n (x_d C_M_open 13 rfl) rfl ?_
  have hp : PB (dy ++ [xB 11 [xN, xI 0, xI 0, xN, xC (52 + dy.length + 1), xC (52 + dy.length + 2), xC (52 + dy.length + 3), xC (52 + dy.length + 4), xC (52 + dy.length + 5), xI 0], xA 0 301 (fun _ => 0), xA 0 301 (fun _ => 0), xA 3 301 (fun _ => 0), xQ 4 301 (fun _ => none), xA 2 301 (fun _ => 0)]) (52 + dy.length) none 0 0 none 0 (fun _ => 0) (fun _ => 0) (fun _ => 0) (fun _ => none) (fun _ => 0) := ⟨ct_new0 dy _ rfl, ct_new dy _ 1 rfl, ct_new dy _ 2 rfl, ct_new dy _ 3 rfl, ct_new dy _ 4 rfl, ct_new dy _ 5 rfl⟩
  have hgk0 : gok g (dy ++ [xB 11 [xN, xI 0, xI 0, xN, xC (52 + dy.length + 1), xC (52 + dy.length + 2), xC (52 + dy.length + 3), xC (52 + dy.length + 4), xC (52 + dy.length + 5), xI 0], xA 0 301 (fun _ => 0), xA 0 301 (fun _ => 0), xA 3 301 (fun _ => 0), xQ 4 301 (fun _ => none), xA 2 301 (fun _ => 0)]) := gok_app hgk _
  have hnp : gnp g (52 + dy.length) := ⟨gok_no hgk (by omega), gok_no hgk (by omega), gok_no hgk (by omega), gok_no hgk (by omega), gok_no hgk (by omega), gok_no hgk (by omega)⟩
  have hmu0 : ∀ u w, mu u w (dy ++ [xB 11 [xN, xI 0, xI 0, xN, xC (52 + dy.length + 1), xC (52 + dy.length + 2), xC (52 + dy.length + 3), xC (52 + dy.length + 4), xC (52 + dy.length + 5), xI 0], xA 0 301 (fun _ => 0), xA 0 301 (fun _ => 0), xA 3 301 (fun _ => 0), xQ 4 301 (fun _ => none), xA 2 301 (fun _ => 0)]) = mu u w dy + (6 * u + 1515 * w) := fun u w => by
    rw [mu_app, mu_cons, mu_cons, mu_cons, mu_cons, mu_cons, mu_cons, mu_nil]
    show _ + (u + w * 10 + (u + w * 301 + (u + w * 301 + (u + w * 301 + (u + w * 301 + (u + w * 301 + 0)))))) = _
    omega
  have hln0 : 52 + dy.length + 6 = 52 + (dy ++ [xB 11 [xN, xI 0, xI 0, xN, xC (52 + dy.length + 1), xC (52 + dy.length + 2), xC (52 + dy.length + 3), xC (52 + dy.length + 4), xC (52 + dy.length + 5), xI 0], xA 0 301 (fun _ => 0), xA 0 301 (fun _ => 0), xA 3 301 (fun _ => 0), xQ 4 301 (fun _ => none), xA 2 301 (fun _ => 0)]).length := by rw [List.length_append]; rfl
  generalize dy ++ [xB 11 [xN, xI 0, xI 0, xN, xC (52 + dy.length + 1), xC (52 + dy.length + 2), xC (52 + dy.length + 3), xC (52 + dy.length + 4), xC (52 + dy.length + 5), xI 0], xA 0 301 (fun _ => 0), xA 0 301 (fun _ => 0), xA 3 301 (fun _ => 0), xQ 4 301 (fun _ => none), xA 2 301 (fun _ => 0)] = dyn at hp hgk0 hmu0 hln0 ⊢
  obtain ⟨cp, hcp⟩ : ∃ z, z = 52 + dy.length := ⟨_, rfl⟩
  rw [← hcp] at hp hnp ⊢
  refine x_heq (h1 := hF (x_up (x_up (x_up (x_up q 1349 0) 1345 (q 1349)) 1354 (q 1354)) 1346 (q 1346)) (x_up r 1344 (some 44)) (x_up A 43 (A 43)) ++ dyn) (by rw [show x_up (x_up (x_up q 1349 0) 1345 (q 1349)) 1354 (q 1354) = (x_up (x_up q 1349 0) 1345 (q 1349)) from x_up_same (x_up (x_up q 1349 0) 1345 (q 1349)) 1354, show x_up (x_up (x_up q 1349 0) 1345 (q 1349)) 1346 (q 1346) = (x_up (x_up q 1349 0) 1345 (q 1349)) from x_up_same (x_up (x_up q 1349 0) 1345 (q 1349)) 1346, x_up_same A 43]) ?_
  refine x_invokevirtual (st := []) (av := [xC cp]) (x_d C_M_open 14 rfl) k_M_202 m_M_read v_M_read cl_M rfl rfl (Nat.le_of_ble_eq_true rfl) (by omega) rfl (c_M_read Z (d - 1) (x_up (x_up q 1349 0) 1345 (q 1349)) r A (by omega) X f cp none 0 (fun _ => 0) (fun _ => 0) (fun _ => 0) (fun _ => none) (fun _ => 0) x (fun u w => mu u w dyn + (u + 6 * w) + k_tabs u w X (f + q 1349) f 6 0 (s_last X (f + q 1349) f) [] x 0) hf hn hX hB hfE (q 1346) (q 1354) (A 43) g dyn hj hp hnp hgk0 hrx (fun u w => Nat.le_refl _)) ?_
  rintro v_ h_ ⟨j2, ol2, tk2, dyn2, rfl, hj2, hmu2, hr_⟩
  have hmu2 : ∀ u w, mu u w dyn2 ≤ mu u w dyn + (u + 6 * w) + k_tabs u w X (f + q 1349) f 6 0 (s_last X (f + q 1349) f) [] x 0 := hmu2
  rcases hr_ with ⟨e1, e2, rfl, e4⟩ | ⟨e1, ⟨rfl, e2, e3⟩ | ⟨rfl, e2, g2, c, fis, fge, fpl, fva2, e3, e4, e5, e6, e7, e7d, e8, e9, e10, e11⟩⟩
  · have e2 : 1 ≤ (s_ot X (f + q 1349) f x).1 ∧ (s_ot X (f + q 1349) f x).1 ≤ 4 := e2
    refine x_istore_n (l1 := [(2, xI ((s_ot X (f + q 1349) f x).1)), (1, xC cp), (0, xC 42)]) (x_d C_M_open 15 rfl) (by decide) rfl ?_
    refine x_iload_n (x_d C_M_open 16 rfl) rfl ?_
    refine x_if_le (tgt := 36) (x_d C_M_open 17 rfl) rfl (fun q => absurd q (by omega)) (fun _ => ?_)
    refine x_iload_n (x_d C_M_open 18 rfl) rfl ?_
    refine x_ireturn (x_d C_M_open 19 rfl) ?_
    have hft : s_fault X (f + q 1349) f (s_ot X (f + q 1349) f x) = (s_ot X (f + q 1349) f x).1 := by unfold s_fault; exact if_pos e1
    exact ⟨j2, ol2, tk2, dyn2, hj2, fun u w => by have a1 := hmu0 u w; have a2 := hmu2 u w; omega, Or.inl ⟨by rw [hft]; exact e1, by rw [hft], rfl, e4⟩⟩
  · refine x_istore_n (l1 := [(2, xI (5)), (1, xC cp), (0, xC 42)]) (x_d C_M_open 15 rfl) (by decide) rfl ?_
    refine x_iload_n (x_d C_M_open 16 rfl) rfl ?_
    refine x_if_le (tgt := 36) (x_d C_M_open 17 rfl) rfl (fun q => absurd q (by omega)) (fun _ => ?_)
    refine x_iload_n (x_d C_M_open 18 rfl) rfl ?_
    refine x_ireturn (x_d C_M_open 19 rfl) ?_
    have hft : s_fault X (f + q 1349) f (s_ot X (f + q 1349) f x) = 5 := by unfold s_fault; rw [if_neg (fun z => z e1)]; exact if_neg e2
    exact ⟨j2, ol2, tk2, dyn2, hj2, fun u w => by have a1 := hmu0 u w; have a2 := hmu2 u w; omega, Or.inl ⟨by rw [hft]; omega, by rw [hft], rfl, e3⟩⟩
  · refine x_istore_n (l1 := [(2, xI (0)), (1, xC cp), (0, xC 42)]) (x_d C_M_open 15 rfl) (by decide) rfl ?_
    refine x_iload_n (x_d C_M_open 16 rfl) rfl ?_
    refine x_if_le (tgt := 36) (x_d C_M_open 17 rfl) rfl (fun _ => ?_) (fun q => absurd q (by omega))
    refine x_aload_n (x_d C_M_open 20 rfl) rfl ?_
    refine x_aload_n (x_d C_M_open 21 rfl) rfl ?_
    refine x_getfield (v := xC 44) (x_d C_M_open 22 rfl) f_M_167 rfl rfl ?_
    refine x_aload_n (x_d C_M_open 23 rfl) rfl ?_
    refine x_getfield (v := xI (q 1349)) (x_d C_M_open 24 rfl) f_M_11 rfl rfl ?_
    refine x_invokestatic (st := [xC cp]) (av := [xC 44, xI (q 1349)]) (x_d C_M_open 25 rfl) k_M_125 m_Ar_copyOf s_Ar_copyOf rfl (Nat.le_of_ble_eq_true rfl) (by omega) rfl (c_Ar_copyOf Z (d - 1) (hF (x_up (x_up (x_up (x_up q 1349 0) 1345 (q 1349)) 1354 ol2) 1346 j2) (x_up r 1344 (some 44)) (x_up A 43 tk2) ++ dyn2) (by omega) 44 4000 (A 44) (q 1349) rfl (by omega)) ?_
    rintro v_ h_ ⟨fb, hv_, hh_, hfb⟩
    obtain rfl : v_ = some (xC (52 + dyn2.length)) := by rw [hv_, g_len0]
    obtain rfl : h_ = hF (x_up (x_up (x_up (x_up q 1349 0) 1345 (q 1349)) 1354 ol2) 1346 j2) (x_up r 1344 (some 44)) (x_up A 43 tk2) ++ (dyn2 ++ [xA 1 (q 1349).toNat fb]) := hh_.trans (g_push0 _ _ _ _ _)
    have hnp2 : gnp g2 cp := ⟨e5 _ (ct_lt hp.1) hnp.1, e5 _ (ct_lt hp.2.1) hnp.2.1, e5 _ (ct_lt hp.2.2.1) hnp.2.2.1, e5 _ (ct_lt hp.2.2.2.1) hnp.2.2.2.1, e5 _ (ct_lt hp.2.2.2.2.1) hnp.2.2.2.2.1, e5 _ (ct_lt hp.2.2.2.2.2) hnp.2.2.2.2.2⟩
    have hgl3 := gle_new e4 (Nat.le_refl _) (xA 1 (q 1349).toNat fb)
    have hg3 : gok (x_up g2 (52 + dyn2.length) (some (xA 1 (q 1349).toNat fb))) (dyn2 ++ [xA 1 (q 1349).toNat fb]) := gok_new (gok_app e4 _) (ct_new0 dyn2 _ rfl)
    have hp3 := PB_app e6 [xA 1 (q 1349).toNat fb]
    have hlt6 := ct_lt e6.2.2.2.2.2
    have hnp3 : gnp (x_up g2 (52 + dyn2.length) (some (xA 1 (q 1349).toNat fb))) cp := ⟨(x_up_n _ _ (by omega)).trans hnp2.1, (x_up_n _ _ (by omega)).trans hnp2.2.1, (x_up_n _ _ (by omega)).trans hnp2.2.2.1, (x_up_n _ _ (by omega)).trans hnp2.2.2.2.1, (x_up_n _ _ (by omega)).trans hnp2.2.2.2.2.1, (x_up_n _ _ (by omega)).trans hnp2.2.2.2.2.2⟩
    have hcbg : x_up g2 (52 + dyn2.length) (some (xA 1 (q 1349).toNat fb)) (52 + dyn2.length) = some (xA 1 (q 1349).toNat fb) := x_up_s _ _ _
    have hmu3 : ∀ u w, mu u w (dyn2 ++ [xA 1 (q 1349).toNat fb]) = mu u w dyn2 + (u + (q 1349).toNat * w) := fun u w => by rw [mu_app, mu_cons, mu_nil]; show _ + (u + w * (q 1349).toNat + 0) = _; rw [Nat.mul_comm w]; omega
    generalize x_up g2 (52 + dyn2.length) (some (xA 1 (q 1349).toNat fb)) = g3 at hgl3 hg3 hnp3 hcbg
    generalize dyn2 ++ [xA 1 (q 1349).toNat fb] = dyn3 at hg3 hp3 hmu3 ⊢
    generalize 52 + dyn2.length = cb at hcbg ⊢
    refine x_putfield (h1 := hF (x_up (x_up (x_up (x_up q 1349 0) 1345 (q 1349)) 1354 ol2) 1346 j2) (x_up r 1344 (some 44)) (x_up A 43 tk2) ++ (dyn3.set (cp - 52) (xB 11 [xO ((some cb)), xI ((s_ot X (f + q 1349) f x).2.2.2.1), xI ((s_last X (f + q 1349) f)), xO ((some c)), xC (cp + 1), xC (cp + 2), xC (cp + 3), xC (cp + 4), xC (cp + 5), xI ((s_ot X (f + q 1349) f x).2.2.1)]))) (x_d C_M_open 26 rfl) p_M_206 (ct_get hp3.1 _ _ _) rfl rfl trivial (g_set hp3.1.1 _ _ _ _) ?_
    have hs_ := PB_ob hp3 hnp3 hg3 ((some cb)) ((s_ot X (f + q 1349) f x).2.2.2.1) ((s_last X (f + q 1349) f)) ((some c)) ((s_ot X (f + q 1349) f x).2.2.1)
    generalize dyn3.set (cp - 52) (xB 11 [xO ((some cb)), xI ((s_ot X (f + q 1349) f x).2.2.2.1), xI ((s_last X (f + q 1349) f)), xO ((some c)), xC (cp + 1), xC (cp + 2), xC (cp + 3), xC (cp + 4), xC (cp + 5), xI ((s_ot X (f + q 1349) f x).2.2.1)]) = dn1 at hs_ ⊢
    obtain ⟨hp1, hs1⟩ := hs_
    have hgk1 := hs1.1
    refine x_aload_n (x_d C_M_open 27 rfl) rfl ?_
    refine x_aload_n (x_d C_M_open 28 rfl) rfl ?_
    refine x_putfield (h1 := hF (x_up (x_up (x_up (x_up q 1349 0) 1345 (q 1349)) 1354 ol2) 1346 j2) (x_up (x_up r 1344 (some 44)) 1350 (some cp)) (x_up A 43 tk2) ++ dn1) (x_d C_M_open 29 rfl) p_M_207 rfl rfl rfl trivial rfl ?_
    refine x_aload_n (x_d C_M_open 30 rfl) rfl ?_
    refine x_null (x_d C_M_open 31 rfl) ?_
    refine x_putfield (h1 := hF (x_up (x_up (x_up (x_up q 1349 0) 1345 (q 1349)) 1354 ol2) 1346 j2) (x_up (x_up (x_up r 1344 (some 44)) 1350 (some cp)) 1351 none) (x_up A 43 tk2) ++ dn1) (x_d C_M_open 32 rfl) p_M_211 rfl rfl rfl trivial rfl ?_
    refine x_iconst (x_d C_M_open 33 rfl) ⟨by omega, by omega⟩ ?_
    refine x_ireturn (x_d C_M_open 34 rfl) ?_
    have hft : s_fault X (f + q 1349) f (s_ot X (f + q 1349) f x) = 0 := by unfold s_fault; rw [if_neg (fun z => z e1)]; exact if_pos e2
    rw [hcp] at *
    exact ⟨j2, ol2, tk2, _, hj2, fun u w => by have a1 := hmu0 u w; have a2 := hmu2 u w; have a3 := hmu3 u w; have a4 := hs1.2.1 u w; omega, Or.inr ⟨hft, rfl, rfl, g3, c, cb, fb, fis, fge, fpl, fva2, gle_tr e3 hgl3, hgk1, hnp3, hp1, hcbg, fun k hk => (hfb k hk).trans (hX k hk), Tr_g hgl3 _ _ _ e7, Dj_g hgl3 e7 e7d, e8, e9, e10, fun k h1 h2 => by obtain ⟨ts, c2, z1, z2, z3⟩ := e11 k h1 h2; exact ⟨ts, c2, z1, z2, Tr_g hgl3 _ _ _ z3⟩⟩⟩
