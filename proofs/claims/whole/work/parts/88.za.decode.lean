/-! the reference: a filter of decode -/
theorem s_hxs_cong {g h : Nat → Int} : ∀ (m i : Nat), (∀ j, j < i + 2 * m → g j = h j) → s_hxs g m i = s_hxs h m i
  | 0, _, _ => rfl
  | m + 1, i, e => by rw [s_hxs_s, s_hxs_s, e i (by omega), e (i + 1) (by omega), s_hxs_cong m (i + 2) (fun j hj => e j (by omega))]
theorem s_fhex_cong {g h : Nat → Int} {n : Nat} (e : ∀ j, j < n → g j = h j) : s_fhex g n = s_fhex h n := by
  have e1 : s_hxe g n = s_hxe h n := by
    unfold s_hxe
    by_cases c : 0 < n
    · rw [e (n - 1) (by omega)]
    · rw [if_neg (fun z => c z.1), if_neg (fun z => c z.1)]
  have e2 : s_hxe h n ≤ n := by unfold s_hxe; split <;> omega
  unfold s_fhex
  rw [e1, s_hxs_cong (s_hxe h n / 2) 0 (fun j hj => e j (by omega))]
theorem s_runs_cong {g h : Nat → Int} {n : Nat} (e : ∀ j, j < n → g j = h j) : ∀ (m k : Nat), s_runs g n m k = s_runs h n m k
  | 0, _ => rfl
  | m + 1, k => by
    rw [s_runs_s, s_runs_s]
    by_cases c : n ≤ k
    · rw [if_pos c, if_pos c]
    · rw [if_neg c, if_neg c, e k (by omega), s_runs_cong e m, s_runs_cong e m]
      by_cases c2 : h k % 256 = 128
      · rw [if_pos c2, if_pos c2]
      · rw [if_neg c2, if_neg c2]
        by_cases c3 : h k % 256 < 128
        · rw [if_pos c3, if_pos c3]
          by_cases c4 : n ≤ k + (h k % 256 + 1).toNat
          · rw [if_pos c4, if_pos c4]
          · rw [if_neg c4, if_neg c4, s_sl_eq (f := g) (g := h) _ (k + 1) (k + 1) (fun j hj => e _ (by omega))]
        · rw [if_neg c3, if_neg c3]
          by_cases c4 : n ≤ k + 1
          · rw [if_pos c4, if_pos c4]
          · rw [if_neg c4, if_neg c4, e (k + 1) (by omega)]
theorem s_frun_cong {g h : Nat → Int} {n : Nat} (e : ∀ j, j < n → g j = h j) : s_frun g n = s_frun h n := s_runs_cong e _ _
theorem s_d5_cong {g h : Nat → Int} {k sz : Nat} (e : ∀ j, j < k + sz → g j = h j) (i : Nat) : s_d5 g k sz i = s_d5 h k sz i := by
  unfold s_d5
  split
  · rw [e _ (by omega)]
  · rfl
theorem s_v5_cong {g h : Nat → Int} {k sz : Nat} (e : ∀ j, j < k + sz → g j = h j) : ∀ i, s_v5 g k sz i = s_v5 h k sz i
  | 0 => rfl
  | i + 1 => by show 85 * s_v5 g k sz i + s_d5 g k sz i = 85 * s_v5 h k sz i + s_d5 h k sz i; rw [s_v5_cong e i, s_d5_cong e i]
theorem s_ok5d_cong {g h : Nat → Int} {k sz : Nat} (e : ∀ j, j < k + sz → g j = h j) : ∀ i, s_ok5d g k sz i = s_ok5d h k sz i
  | 0 => rfl
  | i + 1 => by
    show (s_ok5d g k sz i && decide (0 ≤ s_d5 g k sz i ∧ s_d5 g k sz i ≤ 84)) = (s_ok5d h k sz i && decide (0 ≤ s_d5 h k sz i ∧ s_d5 h k sz i ≤ 84))
    rw [s_ok5d_cong e i, s_d5_cong e i]
theorem s_b85_cong {g h : Nat → Int} {n : Nat} (e : ∀ j, j < n → g j = h j) : ∀ (m k : Nat), s_b85 g n m k = s_b85 h n m k
  | 0, _ => rfl
  | m + 1, k => by
    rw [s_b85_s, s_b85_s]
    by_cases c : n ≤ k
    · rw [if_pos c, if_pos c]
    · have e2 : s_grp g k (min 5 (n - k)) = s_grp h k (min 5 (n - k)) := by
        unfold s_grp
        rw [s_ok5d_cong (fun j hj => e j (by omega)) 5, s_v5_cong (fun j hj => e j (by omega)) 5]
      rw [if_neg c, if_neg c, e k (by omega), s_b85_cong e m, s_b85_cong e m, e2]
theorem s_f85_cong {g h : Nat → Int} {n : Nat} (e : ∀ j, j < n → g j = h j) : s_f85 g n = s_f85 h n := by
  unfold s_f85
  by_cases c : n < 2
  · rw [if_pos (Or.inl c), if_pos (Or.inl c)]
  · rw [e (n - 2) (by omega), e (n - 1) (by omega), s_b85_cong (g := g) (h := h) (n := n - 2) (fun j hj => e j (by omega))]
/-- the first bytes of a row -/
def rowb (f : Nat → Int) (b : List Int) : Prop := ∀ j, j < b.length → f j = b.getD j 0
theorem w_M_decode_145 (Z : xZ) (d : Nat) (q : Nat → Int) (r : Nat → Option Nat) (A : Nat → Nat → Int) (dy : xH) (hd : 5 ≤ d) (X : Nat → Int) (E : Int) (g : Nat → Option xE) (P : Nat → Nat → Int) (hgk : gok g dy) (D : Nat) (n2 : Int) (hE : E ≤ n2) (p5 : Int) (c5 cf : Nat) (k flt : Int) (hk : 0 ≤ k ∧ k ≤ 100) (ht : Tr X E g P (D + 1) p5 c5) (b : List Int) (hb : b.length ≤ 4000) (mn : Int) (f46 f47 : Nat → Int) (hrb : rowb f46 b) (Q : Option xV → xH → Prop) (k0 : (∀ b2, s_flt (P 5) (P 6) (P 7) X n2 p5 (fun j => b.getD j 0) b.length = some b2 → 3000 < b2.length) → ∀ mn f47, Q (some (xI (-4))) (hF (x_up q 1357 mn) r (x_up (x_up A 46 f46) 47 f47) ++ dy)) (kk : ∀ b2, s_flt (P 5) (P 6) (P 7) X n2 p5 (fun j => b.getD j 0) b.length = some b2 → b2.length ≤ 3000 → ∀ mn f46 f47, rowb f46 b2 → xW Z d Y_M_decode 118 [(0, xC 42), (1, xI (b2.length : Int)), (2, xC cf), (3, xI flt), (4, xI (k + 1))] [] (hF (x_up q 1357 mn) r (x_up (x_up A 46 f46) 47 f47) ++ dy) Q) : xW Z d Y_M_decode 145 [(0, xC 42), (1, xI (b.length : Int)), (2, xC cf), (3, xI flt), (4, xI k), (5, xC c5)] [] (hF (x_up q 1357 mn) r (x_up (x_up A 46 f46) 47 f47) ++ dy) Q := by
  refine xW_ok (fun _ _ hok => ?_)
  have hB46 : ∀ j, -128 ≤ f46 j ∧ f46 j ≤ 127 := fun j => hF_b46 hok j
  have hp5 := (Tr_c ht).1
  obtain ⟨-, fs5, hc5⟩ := Tr_c ht
  have hgb : ∀ j, j < ((b.length : Nat) : Int).toNat → f46 j = (fun j => b.getD j 0) j := fun j hj => hrb j (by omega)
  have hbl : ((b.length : Nat) : Int).toNat = b.length := by omega
  have hfl : s_flt (P 5) (P 6) (P 7) X n2 p5 (fun j => b.getD j 0) b.length = if s_isN (P 5) (P 6) (P 7) X n2 p5 [72, 101, 120] = true then s_fhex (fun j => b.getD j 0) b.length else if s_isN (P 5) (P 6) (P 7) X n2 p5 [82, 117, 110, 115] = true then s_frun (fun j => b.getD j 0) b.length else if s_isN (P 5) (P 6) (P 7) X n2 p5 [66, 97, 115, 101, 56, 53] = true then s_f85 (fun j => b.getD j 0) b.length else none := rfl
  generalize s_flt (P 5) (P 6) (P 7) X n2 p5 (fun j => b.getD j 0) b.length = FL at hfl k0 kk
  refine x_aload (x_d C_M_decode 73 rfl) rfl ?_
  refine x_ldcSw (i := 72) (x_d C_M_decode 74 rfl) rfl ?_
  refine x_invokevirtual (st := []) (av := [xS (145)]) (x_d C_M_decode 75 rfl) k_M_342 m_MQ_isName v_MQ_isName cl_MQ (ct_get (hgk _ _ hc5) _ _ _) rfl (Nat.le_of_ble_eq_true rfl) (by omega) rfl (t_isName Z (d - 1) (hF (x_up q 1357 mn) r (x_up (x_up A 46 f46) 47 f47) ++ dy) X E g P D p5 c5 (gh_of hgk _ _ _) ht (by omega) (si := 72) rfl (by decide) n2 hE) ?_
  rintro v_ h_ ⟨hv_, hh_⟩
  rw [hh_]
  clear hh_
  obtain ⟨z1, rfl, hz1⟩ : ∃ z : Int, v_ = some (xI z) ∧ ((z = 1 ∧ s_isN (P 5) (P 6) (P 7) X n2 p5 [72, 101, 120] = true) ∨ (z = 0 ∧ ¬ s_isN (P 5) (P 6) (P 7) X n2 p5 [72, 101, 120] = true)) := by
    refine ⟨_, hv_, ?_⟩
    unfold s_isN
    rw [decide_eq_true_iff]
    by_cases c_ : P 5 p5.toNat = 4 ∧ P 7 p5.toNat = ([72, 101, 120] : List Int).length ∧ 0 ≤ s_txt X n2 (P 6 p5.toNat) [72, 101, 120]
    · exact Or.inl ⟨x_bo_t c_, hp5, c_⟩
    · exact Or.inr ⟨x_bo_f c_, fun z => c_ z.2⟩
  refine x_if_eq (tgt := 164) (x_d C_M_decode 76 rfl) rfl (fun c2 => ?_) (fun c2 => ?_)
  · have hy1 : ¬ s_isN (P 5) (P 6) (P 7) X n2 p5 [72, 101, 120] = true := by rcases hz1 with z | z; omega; exact z.2
    rw [if_neg hy1] at hfl
    clear hz1
    refine x_aload (x_d C_M_decode 81 rfl) rfl ?_
    refine x_ldcSw (i := 73) (x_d C_M_decode 82 rfl) rfl ?_
    refine x_invokevirtual (st := []) (av := [xS (147)]) (x_d C_M_decode 83 rfl) k_M_342 m_MQ_isName v_MQ_isName cl_MQ (ct_get (hgk _ _ hc5) _ _ _) rfl (Nat.le_of_ble_eq_true rfl) (by omega) rfl (t_isName Z (d - 1) (hF (x_up q 1357 mn) r (x_up (x_up A 46 f46) 47 f47) ++ dy) X E g P D p5 c5 (gh_of hgk _ _ _) ht (by omega) (si := 73) rfl (by decide) n2 hE) ?_
    rintro v_ h_ ⟨hv_, hh_⟩
    rw [hh_]
    clear hh_
    obtain ⟨z3, rfl, hz3⟩ : ∃ z : Int, v_ = some (xI z) ∧ ((z = 1 ∧ s_isN (P 5) (P 6) (P 7) X n2 p5 [82, 117, 110, 115] = true) ∨ (z = 0 ∧ ¬ s_isN (P 5) (P 6) (P 7) X n2 p5 [82, 117, 110, 115] = true)) := by
      refine ⟨_, hv_, ?_⟩
      unfold s_isN
      rw [decide_eq_true_iff]
      by_cases c_ : P 5 p5.toNat = 4 ∧ P 7 p5.toNat = ([82, 117, 110, 115] : List Int).length ∧ 0 ≤ s_txt X n2 (P 6 p5.toNat) [82, 117, 110, 115]
      · exact Or.inl ⟨x_bo_t c_, hp5, c_⟩
      · exact Or.inr ⟨x_bo_f c_, fun z => c_ z.2⟩
    refine x_if_eq (tgt := 183) (x_d C_M_decode 84 rfl) rfl (fun c4 => ?_) (fun c4 => ?_)
    · have hy3 : ¬ s_isN (P 5) (P 6) (P 7) X n2 p5 [82, 117, 110, 115] = true := by rcases hz3 with z | z; omega; exact z.2
      rw [if_neg hy3] at hfl
      clear hz3
      refine x_aload (x_d C_M_decode 89 rfl) rfl ?_
      refine x_ldcSw (i := 74) (x_d C_M_decode 90 rfl) rfl ?_
      refine x_invokevirtual (st := []) (av := [xS (149)]) (x_d C_M_decode 91 rfl) k_M_342 m_MQ_isName v_MQ_isName cl_MQ (ct_get (hgk _ _ hc5) _ _ _) rfl (Nat.le_of_ble_eq_true rfl) (by omega) rfl (t_isName Z (d - 1) (hF (x_up q 1357 mn) r (x_up (x_up A 46 f46) 47 f47) ++ dy) X E g P D p5 c5 (gh_of hgk _ _ _) ht (by omega) (si := 74) rfl (by decide) n2 hE) ?_
      rintro v_ h_ ⟨hv_, hh_⟩
      rw [hh_]
      clear hh_
      obtain ⟨z5, rfl, hz5⟩ : ∃ z : Int, v_ = some (xI z) ∧ ((z = 1 ∧ s_isN (P 5) (P 6) (P 7) X n2 p5 [66, 97, 115, 101, 56, 53] = true) ∨ (z = 0 ∧ ¬ s_isN (P 5) (P 6) (P 7) X n2 p5 [66, 97, 115, 101, 56, 53] = true)) := by
        refine ⟨_, hv_, ?_⟩
        unfold s_isN
        rw [decide_eq_true_iff]
        by_cases c_ : P 5 p5.toNat = 4 ∧ P 7 p5.toNat = ([66, 97, 115, 101, 56, 53] : List Int).length ∧ 0 ≤ s_txt X n2 (P 6 p5.toNat) [66, 97, 115, 101, 56, 53]
        · exact Or.inl ⟨x_bo_t c_, hp5, c_⟩
        · exact Or.inr ⟨x_bo_f c_, fun z => c_ z.2⟩
      refine x_if_eq (tgt := 206) (x_d C_M_decode 92 rfl) rfl (fun c6 => ?_) (fun c6 => ?_)
      · have hy5 : ¬ s_isN (P 5) (P 6) (P 7) X n2 p5 [66, 97, 115, 101, 56, 53] = true := by rcases hz5 with z | z; omega; exact z.2
        rw [if_neg hy5] at hfl
        clear hz5
        refine x_iconst (x_d C_M_decode 99 rfl) ⟨by omega, by omega⟩ ?_
        refine x_istore (l1 := [(6, xI (0)), (0, xC 42), (1, xI ((b.length : Int))), (2, xC cf), (3, xI (flt)), (4, xI (k)), (5, xC c5)]) (x_d C_M_decode 100 rfl) (by decide) rfl ?_
        refine x_iload (x_d C_M_decode 101 rfl) rfl ?_
        refine x_if_ne (tgt := 217) (x_d C_M_decode 102 rfl) rfl (fun q => absurd q (by omega)) (fun _ => ?_)
        refine x_bipush (x_d C_M_decode 103 rfl) (by omega) ?_
        refine x_ireturn (x_d C_M_decode 104 rfl) ?_
        exact k0 (fun b2 h9 => by rw [hfl] at h9; cases h9) _ _
      · have hy5 : s_isN (P 5) (P 6) (P 7) X n2 p5 [66, 97, 115, 101, 56, 53] = true := by rcases hz5 with z | z; exact z.2; omega
        rw [if_pos hy5] at hfl
        clear hz5
        refine x_aload_n (x_d C_M_decode 93 rfl) rfl ?_
        refine x_iload_n (x_d C_M_decode 94 rfl) rfl ?_
        refine x_invokevirtual (st := []) (av := [xI ((b.length : Int))]) (x_d C_M_decode 95 rfl) k_M_355 m_M_base85 v_M_base85 cl_M rfl rfl (Nat.le_of_ble_eq_true rfl) (by omega) rfl (c_M_base85 Z (d - 1) (x_up q 1357 mn) r (x_up (x_up A 46 f46) 47 f47) dy (by omega) (show ∀ j, -128 ≤ f46 j ∧ f46 j ≤ 127 from hB46) (b.length : Int) (by omega)) ?_
        rintro v_ h_ ⟨mn8, f8, hh_, hm8, hr_⟩
        obtain rfl : h_ = hF (x_up q 1357 mn8) r (x_up (x_up A 46 f46) 47 f8) ++ dy := by rw [hh_, x_up_2, x_up_2]
        have hsp : s_f85 ((x_up (x_up A 46 f46) 47 f47) 46) ((b.length : Nat) : Int).toNat = s_f85 (fun j => b.getD j 0) b.length := by rw [show (x_up (x_up A 46 f46) 47 f47) 46 = f46 from rfl, s_f85_cong hgb, hbl]
        rw [hsp] at hr_
        obtain ⟨z8, rfl, hz8⟩ : ∃ z : Int, v_ = some (xI z) ∧ ((z = 1 ∧ ∃ b2, s_f85 (fun j => b.getD j 0) b.length = some b2 ∧ aok mn8 f8 b2) ∨ (z = 0 ∧ ∀ b2, s_f85 (fun j => b.getD j 0) b.length = some b2 → 3000 < b2.length)) := by
          rcases hr_ with ⟨e1, e2⟩ | ⟨e1, e2⟩
          · exact ⟨1, e1, Or.inl ⟨rfl, e2⟩⟩
          · exact ⟨0, e1, Or.inr ⟨rfl, e2⟩⟩
        refine x_if_eq (tgt := 206) (x_d C_M_decode 96 rfl) rfl (fun c9 => ?_) (fun c9 => ?_)
        · refine x_iconst (x_d C_M_decode 99 rfl) ⟨by omega, by omega⟩ ?_
          refine x_istore (l1 := [(6, xI (0)), (0, xC 42), (1, xI ((b.length : Int))), (2, xC cf), (3, xI (flt)), (4, xI (k)), (5, xC c5)]) (x_d C_M_decode 100 rfl) (by decide) rfl ?_
          refine x_iload (x_d C_M_decode 101 rfl) rfl ?_
          refine x_if_ne (tgt := 217) (x_d C_M_decode 102 rfl) rfl (fun q => absurd q (by omega)) (fun _ => ?_)
          refine x_bipush (x_d C_M_decode 103 rfl) (by omega) ?_
          refine x_ireturn (x_d C_M_decode 104 rfl) ?_
          exact k0 (fun b2 h9 => by rw [hfl] at h9; rcases hz8 with z | z; omega; exact z.2 b2 h9) _ _
        · refine x_iconst (x_d C_M_decode 97 rfl) ⟨by omega, by omega⟩ ?_
          refine x_goto (tgt := 207) (x_d C_M_decode 98 rfl) rfl ?_
          refine x_istore (l1 := [(6, xI (1)), (0, xC 42), (1, xI ((b.length : Int))), (2, xC cf), (3, xI (flt)), (4, xI (k)), (5, xC c5)]) (x_d C_M_decode 100 rfl) (by decide) rfl ?_
          refine x_iload (x_d C_M_decode 101 rfl) rfl ?_
          refine x_if_ne (tgt := 217) (x_d C_M_decode 102 rfl) rfl (fun _ => ?_) (fun q => absurd q (by omega))
          obtain ⟨b2, hb2, hao⟩ : ∃ b2, s_f85 (fun j => b.getD j 0) b.length = some b2 ∧ aok mn8 f8 b2 := by rcases hz8 with z | z; exact z.2; omega
          have hmm := hao.1
          have hmm2 := hao.2.1
          obtain rfl : mn8 = (b2.length : Int) := hmm
          refine x_aload_n (x_d C_M_decode 105 rfl) rfl ?_
          refine x_getfield (v := xC 47) (x_d C_M_decode 106 rfl) f_M_176 rfl rfl ?_
          refine x_iconst (x_d C_M_decode 107 rfl) ⟨by omega, by omega⟩ ?_
          refine x_aload_n (x_d C_M_decode 108 rfl) rfl ?_
          refine x_getfield (v := xC 46) (x_d C_M_decode 109 rfl) f_M_173 rfl rfl ?_
          refine x_iconst (x_d C_M_decode 110 rfl) ⟨by omega, by omega⟩ ?_
          refine x_aload_n (x_d C_M_decode 111 rfl) rfl ?_
          refine x_getfield (v := xI ((b2.length : Int))) (x_d C_M_decode 112 rfl) f_M_358 rfl rfl ?_
          refine x_arraycopy (st := []) (h1 := hF (x_up q 1357 ((b2.length : Int))) r (x_up (x_up A 46 (va_cpy f8 f46 (0 : Int).toNat (0 : Int).toNat ((b2.length : Int) : Int).toNat)) 47 f8) ++ dy) (x_d C_M_decode 113 rfl) ac_M_323 ac_w (Or.inr rfl) rfl rfl (by omega) (by omega) (by omega) (by omega) (by omega) (Nat.le_of_ble_eq_true rfl) (by omega) rfl ?_
          refine x_aload_n (x_d C_M_decode 114 rfl) rfl ?_
          refine x_getfield (v := xI ((b2.length : Int))) (x_d C_M_decode 115 rfl) f_M_358 rfl rfl ?_
          refine x_istore_n (l1 := [(1, xI ((b2.length : Int))), (6, xI (1)), (0, xC 42), (2, xC cf), (3, xI (flt)), (4, xI (k)), (5, xC c5)]) (x_d C_M_decode 116 rfl) (by decide) rfl ?_
          refine x_iinc (l1 := [(4, xI (k + 1)), (1, xI ((b2.length : Int))), (6, xI (1)), (0, xC 42), (2, xC cf), (3, xI (flt)), (5, xC c5)]) (x_d C_M_decode 117 rfl) rfl ⟨by omega, by omega⟩ (by decide) rfl ?_
          refine x_goto (tgt := 118) (x_d C_M_decode 118 rfl) rfl ?_
          refine x_locs [3, 1, 4, 5, 0] rfl ?_
          exact kk b2 (hfl.trans hb2) hao.2.1 _ _ _ (fun j hj => by unfold va_cpy; rw [if_pos (by have := hao.1; omega)]; have := hao.2.2 j hj; rw [show (0 : Int).toNat + (j - (0 : Int).toNat) = j by omega]; exact this)
    · have hy3 : s_isN (P 5) (P 6) (P 7) X n2 p5 [82, 117, 110, 115] = true := by rcases hz3 with z | z; exact z.2; omega
      rw [if_pos hy3] at hfl
      clear hz3
      refine x_aload_n (x_d C_M_decode 85 rfl) rfl ?_
      refine x_iload_n (x_d C_M_decode 86 rfl) rfl ?_
      refine x_invokevirtual (st := []) (av := [xI ((b.length : Int))]) (x_d C_M_decode 87 rfl) k_M_350 m_M_runs v_M_runs cl_M rfl rfl (Nat.le_of_ble_eq_true rfl) (by omega) rfl (c_M_runs Z (d - 1) (x_up q 1357 mn) r (x_up (x_up A 46 f46) 47 f47) dy (by omega) (show ∀ j, -128 ≤ f46 j ∧ f46 j ≤ 127 from hB46) (b.length : Int) (by omega)) ?_
      rintro v_ h_ ⟨mn12, f12, hh_, hm12, hr_⟩
      obtain rfl : h_ = hF (x_up q 1357 mn12) r (x_up (x_up A 46 f46) 47 f12) ++ dy := by rw [hh_, x_up_2, x_up_2]
      have hsp : s_frun ((x_up (x_up A 46 f46) 47 f47) 46) ((b.length : Nat) : Int).toNat = s_frun (fun j => b.getD j 0) b.length := by rw [show (x_up (x_up A 46 f46) 47 f47) 46 = f46 from rfl, s_frun_cong hgb, hbl]
      rw [hsp] at hr_
      obtain ⟨z12, rfl, hz12⟩ : ∃ z : Int, v_ = some (xI z) ∧ ((z = 1 ∧ ∃ b2, s_frun (fun j => b.getD j 0) b.length = some b2 ∧ aok mn12 f12 b2) ∨ (z = 0 ∧ ∀ b2, s_frun (fun j => b.getD j 0) b.length = some b2 → 3000 < b2.length)) := by
        rcases hr_ with ⟨e1, e2⟩ | ⟨e1, e2⟩
        · exact ⟨1, e1, Or.inl ⟨rfl, e2⟩⟩
        · exact ⟨0, e1, Or.inr ⟨rfl, e2⟩⟩
      refine x_goto (tgt := 207) (x_d C_M_decode 88 rfl) rfl ?_
      refine x_istore (l1 := [(6, xI (z12)), (0, xC 42), (1, xI ((b.length : Int))), (2, xC cf), (3, xI (flt)), (4, xI (k)), (5, xC c5)]) (x_d C_M_decode 100 rfl) (by decide) rfl ?_
      refine x_iload (x_d C_M_decode 101 rfl) rfl ?_
      refine x_if_ne (tgt := 217) (x_d C_M_decode 102 rfl) rfl (fun c13 => ?_) (fun c13 => ?_)
      · obtain ⟨b2, hb2, hao⟩ : ∃ b2, s_frun (fun j => b.getD j 0) b.length = some b2 ∧ aok mn12 f12 b2 := by rcases hz12 with z | z; exact z.2; omega
        have hmm := hao.1
        have hmm2 := hao.2.1
        obtain rfl : mn12 = (b2.length : Int) := hmm
        refine x_aload_n (x_d C_M_decode 105 rfl) rfl ?_
        refine x_getfield (v := xC 47) (x_d C_M_decode 106 rfl) f_M_176 rfl rfl ?_
        refine x_iconst (x_d C_M_decode 107 rfl) ⟨by omega, by omega⟩ ?_
        refine x_aload_n (x_d C_M_decode 108 rfl) rfl ?_
        refine x_getfield (v := xC 46) (x_d C_M_decode 109 rfl) f_M_173 rfl rfl ?_
        refine x_iconst (x_d C_M_decode 110 rfl) ⟨by omega, by omega⟩ ?_
        refine x_aload_n (x_d C_M_decode 111 rfl) rfl ?_
        refine x_getfield (v := xI ((b2.length : Int))) (x_d C_M_decode 112 rfl) f_M_358 rfl rfl ?_
        refine x_arraycopy (st := []) (h1 := hF (x_up q 1357 ((b2.length : Int))) r (x_up (x_up A 46 (va_cpy f12 f46 (0 : Int).toNat (0 : Int).toNat ((b2.length : Int) : Int).toNat)) 47 f12) ++ dy) (x_d C_M_decode 113 rfl) ac_M_323 ac_w (Or.inr rfl) rfl rfl (by omega) (by omega) (by omega) (by omega) (by omega) (Nat.le_of_ble_eq_true rfl) (by omega) rfl ?_
        refine x_aload_n (x_d C_M_decode 114 rfl) rfl ?_
        refine x_getfield (v := xI ((b2.length : Int))) (x_d C_M_decode 115 rfl) f_M_358 rfl rfl ?_
        refine x_istore_n (l1 := [(1, xI ((b2.length : Int))), (6, xI (z12)), (0, xC 42), (2, xC cf), (3, xI (flt)), (4, xI (k)), (5, xC c5)]) (x_d C_M_decode 116 rfl) (by decide) rfl ?_
        refine x_iinc (l1 := [(4, xI (k + 1)), (1, xI ((b2.length : Int))), (6, xI (z12)), (0, xC 42), (2, xC cf), (3, xI (flt)), (5, xC c5)]) (x_d C_M_decode 117 rfl) rfl ⟨by omega, by omega⟩ (by decide) rfl ?_
        refine x_goto (tgt := 118) (x_d C_M_decode 118 rfl) rfl ?_
        refine x_locs [3, 1, 4, 5, 0] rfl ?_
        exact kk b2 (hfl.trans hb2) hao.2.1 _ _ _ (fun j hj => by unfold va_cpy; rw [if_pos (by have := hao.1; omega)]; have := hao.2.2 j hj; rw [show (0 : Int).toNat + (j - (0 : Int).toNat) = j by omega]; exact this)
      · refine x_bipush (x_d C_M_decode 103 rfl) (by omega) ?_
        refine x_ireturn (x_d C_M_decode 104 rfl) ?_
        exact k0 (fun b2 h9 => by rw [hfl] at h9; rcases hz12 with z | z; omega; exact z.2 b2 h9) _ _
  · have hy1 : s_isN (P 5) (P 6) (P 7) X n2 p5 [72, 101, 120] = true := by rcases hz1 with z | z; exact z.2; omega
    rw [if_pos hy1] at hfl
    clear hz1
    refine x_aload_n (x_d C_M_decode 77 rfl) rfl ?_
    refine x_iload_n (x_d C_M_decode 78 rfl) rfl ?_
    refine x_invokevirtual (st := []) (av := [xI ((b.length : Int))]) (x_d C_M_decode 79 rfl) k_M_345 m_M_hex v_M_hex cl_M rfl rfl (Nat.le_of_ble_eq_true rfl) (by omega) rfl (c_M_hex Z (d - 1) (x_up q 1357 mn) r (x_up (x_up A 46 f46) 47 f47) dy (by omega) (show ∀ j, -128 ≤ f46 j ∧ f46 j ≤ 127 from hB46) (b.length : Int) (by omega)) ?_
    rintro v_ h_ ⟨mn14, f14, hh_, hm14, hr_⟩
    obtain rfl : h_ = hF (x_up q 1357 mn14) r (x_up (x_up A 46 f46) 47 f14) ++ dy := by rw [hh_, x_up_2, x_up_2]
    have hsp : s_fhex ((x_up (x_up A 46 f46) 47 f47) 46) ((b.length : Nat) : Int).toNat = s_fhex (fun j => b.getD j 0) b.length := by rw [show (x_up (x_up A 46 f46) 47 f47) 46 = f46 from rfl, s_fhex_cong hgb, hbl]
    rw [hsp] at hr_
    obtain ⟨z14, rfl, hz14⟩ : ∃ z : Int, v_ = some (xI z) ∧ ((z = 1 ∧ ∃ b2, s_fhex (fun j => b.getD j 0) b.length = some b2 ∧ aok mn14 f14 b2) ∨ (z = 0 ∧ ∀ b2, s_fhex (fun j => b.getD j 0) b.length = some b2 → 3000 < b2.length)) := by
      rcases hr_ with ⟨e1, e2⟩ | ⟨e1, e2⟩
      · exact ⟨1, e1, Or.inl ⟨rfl, e2⟩⟩
      · exact ⟨0, e1, Or.inr ⟨rfl, e2⟩⟩
    refine x_goto (tgt := 207) (x_d C_M_decode 80 rfl) rfl ?_
    refine x_istore (l1 := [(6, xI (z14)), (0, xC 42), (1, xI ((b.length : Int))), (2, xC cf), (3, xI (flt)), (4, xI (k)), (5, xC c5)]) (x_d C_M_decode 100 rfl) (by decide) rfl ?_
    refine x_iload (x_d C_M_decode 101 rfl) rfl ?_
    refine x_if_ne (tgt := 217) (x_d C_M_decode 102 rfl) rfl (fun c15 => ?_) (fun c15 => ?_)
    · obtain ⟨b2, hb2, hao⟩ : ∃ b2, s_fhex (fun j => b.getD j 0) b.length = some b2 ∧ aok mn14 f14 b2 := by rcases hz14 with z | z; exact z.2; omega
      have hmm := hao.1
      have hmm2 := hao.2.1
      obtain rfl : mn14 = (b2.length : Int) := hmm
      refine x_aload_n (x_d C_M_decode 105 rfl) rfl ?_
      refine x_getfield (v := xC 47) (x_d C_M_decode 106 rfl) f_M_176 rfl rfl ?_
      refine x_iconst (x_d C_M_decode 107 rfl) ⟨by omega, by omega⟩ ?_
      refine x_aload_n (x_d C_M_decode 108 rfl) rfl ?_
      refine x_getfield (v := xC 46) (x_d C_M_decode 109 rfl) f_M_173 rfl rfl ?_
      refine x_iconst (x_d C_M_decode 110 rfl) ⟨by omega, by omega⟩ ?_
      refine x_aload_n (x_d C_M_decode 111 rfl) rfl ?_
      refine x_getfield (v := xI ((b2.length : Int))) (x_d C_M_decode 112 rfl) f_M_358 rfl rfl ?_
      refine x_arraycopy (st := []) (h1 := hF (x_up q 1357 ((b2.length : Int))) r (x_up (x_up A 46 (va_cpy f14 f46 (0 : Int).toNat (0 : Int).toNat ((b2.length : Int) : Int).toNat)) 47 f14) ++ dy) (x_d C_M_decode 113 rfl) ac_M_323 ac_w (Or.inr rfl) rfl rfl (by omega) (by omega) (by omega) (by omega) (by omega) (Nat.le_of_ble_eq_true rfl) (by omega) rfl ?_
      refine x_aload_n (x_d C_M_decode 114 rfl) rfl ?_
      refine x_getfield (v := xI ((b2.length : Int))) (x_d C_M_decode 115 rfl) f_M_358 rfl rfl ?_
      refine x_istore_n (l1 := [(1, xI ((b2.length : Int))), (6, xI (z14)), (0, xC 42), (2, xC cf), (3, xI (flt)), (4, xI (k)), (5, xC c5)]) (x_d C_M_decode 116 rfl) (by decide) rfl ?_
      refine x_iinc (l1 := [(4, xI (k + 1)), (1, xI ((b2.length : Int))), (6, xI (z14)), (0, xC 42), (2, xC cf), (3, xI (flt)), (5, xC c5)]) (x_d C_M_decode 117 rfl) rfl ⟨by omega, by omega⟩ (by decide) rfl ?_
      refine x_goto (tgt := 118) (x_d C_M_decode 118 rfl) rfl ?_
      refine x_locs [3, 1, 4, 5, 0] rfl ?_
      exact kk b2 (hfl.trans hb2) hao.2.1 _ _ _ (fun j hj => by unfold va_cpy; rw [if_pos (by have := hao.1; omega)]; have := hao.2.2 j hj; rw [show (0 : Int).toNat + (j - (0 : Int).toNat) = j by omega]; exact this)
    · refine x_bipush (x_d C_M_decode 103 rfl) (by omega) ?_
      refine x_ireturn (x_d C_M_decode 104 rfl) ?_
      exact k0 (fun b2 h9 => by rw [hfl] at h9; rcases hz14 with z | z; omega; exact z.2 b2 h9) _ _
