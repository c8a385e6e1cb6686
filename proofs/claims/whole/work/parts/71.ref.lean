/-! the reference: words, bytes, numbers -/
theorem s_match_sc {b : Nat → Int} {n : Int} : ∀ (cs : List Int) (p : Int), 0 ≤ p → p + cs.length ≤ n → (∀ c, c ∈ cs → s_reg c = true) → s_match b cs p.toNat = true → s_sc s_reg b n p = s_sc s_reg b n (p + cs.length)
  | [], p, h0, h1, hr, hm => by simp
  | c :: cs, p, h0, h1, hr, hm => by
    have hm : (decide (b p.toNat = c) && s_match b cs (p.toNat + 1)) = true := hm
    rw [Bool.and_eq_true, decide_eq_true_eq] at hm
    rw [List.length_cons] at h1 ⊢
    rw [s_sc_step h0 (by omega) (by rw [hm.1]; exact hr c List.mem_cons_self), s_match_sc cs (p + 1) (by omega) (by omega) (fun x hx => hr x (List.mem_cons_of_mem _ hx)) (by rw [show (p + 1).toNat = p.toNat + 1 by omega]; exact hm.2)]
    congr 1
    omega
theorem s_the_word {b : Nat → Int} {n p : Int} {cs : List Int} (h0 : 0 ≤ p) (hr : ∀ c, c ∈ cs → s_reg c = true) : (s_sc s_reg b n p - p = cs.length ∧ 0 ≤ s_txt b n p cs) ↔ 0 ≤ s_the b n p cs := by
  have ht := s_txt_in b n p cs
  constructor
  · rintro ⟨h1, h2⟩
    have e : s_txt b n p cs = p + cs.length := by omega
    unfold s_the
    rw [if_neg]
    · exact h2
    · rintro ⟨-, z1, z2⟩
      have hm : s_match b cs p.toNat = true := by
        unfold s_txt at h2
        split at h2
        · next h => exact h.2.2
        · omega
      have := s_match_sc (n := n) cs p h0 (by omega) hr hm
      rw [e] at z1 z2
      have h3 := s_sc_step (p := s_reg) (by omega) z1 z2
      have h4 := s_sc_ge s_reg b n (p + cs.length + 1)
      omega
  · intro h
    have h2 : 0 ≤ s_txt b n p cs := by
      unfold s_the at h
      split at h
      · omega
      · exact h
    refine ⟨?_, h2⟩
    have e : s_txt b n p cs = p + cs.length := by omega
    have hm : s_match b cs p.toNat = true := by
      unfold s_txt at h2
      split at h2
      · next h => exact h.2.2
      · omega
    have h5 := s_match_sc (n := n) cs p h0 (by omega) hr hm
    have h6 : s_sc s_reg b n (p + cs.length) = p + cs.length := by
      refine s_sc_stop ?_
      by_cases c : n ≤ p + cs.length
      · exact Or.inr (Or.inl c)
      · right; right
        cases e2 : s_reg (b (p + cs.length).toNat) with
        | false => rfl
        | true =>
          unfold s_the at h
          rw [e, if_pos ⟨by omega, by omega, e2⟩] at h
          omega
    omega
theorem c_M_isWord (Z : xZ) (d : Nat) (q : Nat → Int) (r : Nat → Option Nat) (A : Nat → Nat → Int) (dy : xH) (hd : 5 ≤ d) (X : Nat → Int) (f j : Int) (i b : Int) {si : Nat} {sc : String × Nat × String × List Int} (hs : x_strs[si]? = some sc) (hf : 0 ≤ f) (hn : 0 ≤ q 1345 ∧ q 1345 ≤ 4000) (hX : ∀ k : Nat, (k : Int) < q 1345 → A 44 k = X (f.toNat + k)) (hi : i ≤ 10000 ∧ -1000 ≤ i ∧ -1000 ≤ b ∧ b ≤ 10000) : xMet Z d Y_M_isWord [xC 42, xI i, xI b, xS (2 * si + 1)] (hF (x_up q 1346 j) (x_up r 1344 (some 44)) A ++ dy) (fun v h2 => v = some (xI (x_bo (decide (b - i = sc.2.2.2.length ∧ 0 ≤ i ∧ 0 ≤ s_txt X (f + q 1345) (f + i) sc.2.2.2)))) ∧ h2 = hF (x_up q 1346 j) (x_up r 1344 (some 44)) A ++ dy) := by
  refine xMet_of (by decide) (Nat.le_of_ble_eq_true rfl) (fun v h2 hq => by rw [hq.1]; exact x_fitZ _) ?_
  refine x_iload_n (x_d C_M_isWord 0 rfl) rfl ?_
  refine x_iload_n (x_d C_M_isWord 1 rfl) rfl ?_
  refine x_isub (x_d C_M_isWord 2 rfl) ⟨by omega, by omega⟩ ?_
  refine x_aload_n (x_d C_M_isWord 3 rfl) rfl ?_
  refine x_invokevirtualS (st := [xI (b - i)]) (av := []) (x_d C_M_isWord 4 rfl) k_M_24 m_S_length v_S_length rfl hs rfl (Nat.le_of_ble_eq_true rfl) (by omega) rfl (c_S_length Z (d - 1) (hF (x_up q 1346 j) (x_up r 1344 (some 44)) A ++ dy) (by omega) hs) ?_
  rintro v_ _ ⟨hv_, rfl⟩
  obtain rfl : v_ = some (xI (sc.2.2.2.length : Int)) := hv_
  refine x_icmp_ne (tgt := 23) (x_d C_M_isWord 5 rfl) rfl (fun c1 => ?_) (fun c1 => ?_)
  · refine x_iconst (x_d C_M_isWord 13 rfl) ⟨by omega, by omega⟩ ?_
    refine x_ireturn (x_d C_M_isWord 14 rfl) ?_
    exact ⟨congrArg (fun z => some (xI z)) (x_bo_f (by omega)).symm, rfl⟩
  · refine x_aload_n (x_d C_M_isWord 6 rfl) rfl ?_
    refine x_iload_n (x_d C_M_isWord 7 rfl) rfl ?_
    refine x_aload_n (x_d C_M_isWord 8 rfl) rfl ?_
    refine x_invokevirtual (st := []) (av := [xI (i), xS (2 * si + 1)]) (x_d C_M_isWord 9 rfl) k_M_34 m_M_isAt1 v_M_isAt1 cl_M rfl rfl (Nat.le_of_ble_eq_true rfl) (by omega) rfl (c_M_isAt1 Z (d - 1) q r A dy (by omega) X f j i hs hf hn hX (by omega)) ?_
    rintro v_ _ ⟨hv_, rfl⟩
    obtain ⟨z_, rfl, hz_⟩ : ∃ z : Int, v_ = some (xI z) ∧ ((z = 1 ∧ 0 ≤ i ∧ 0 ≤ s_txt X (f + q 1345) (f + i) sc.2.2.2) ∨ (z = 0 ∧ ¬ (0 ≤ i ∧ 0 ≤ s_txt X (f + q 1345) (f + i) sc.2.2.2))) := ⟨_, hv_, by by_cases c_ : (0 ≤ i ∧ 0 ≤ s_txt X (f + q 1345) (f + i) sc.2.2.2); exact Or.inl ⟨x_bo_t c_, c_⟩; exact Or.inr ⟨x_bo_f c_, c_⟩⟩
    refine x_if_eq (tgt := 23) (x_d C_M_isWord 10 rfl) rfl (fun c2 => ?_) (fun c2 => ?_)
    · refine x_iconst (x_d C_M_isWord 13 rfl) ⟨by omega, by omega⟩ ?_
      refine x_ireturn (x_d C_M_isWord 14 rfl) ?_
      exact ⟨congrArg (fun z => some (xI z)) (x_bo_f (by omega)).symm, rfl⟩
    · refine x_iconst (x_d C_M_isWord 11 rfl) ⟨by omega, by omega⟩ ?_
      refine x_goto (tgt := 24) (x_d C_M_isWord 12 rfl) rfl ?_
      refine x_ireturn (x_d C_M_isWord 14 rfl) ?_
      exact ⟨congrArg (fun z => some (xI z)) (x_bo_t (by omega)).symm, rfl⟩
theorem c_M_takeWord (Z : xZ) (d : Nat) (q : Nat → Int) (r : Nat → Option Nat) (A : Nat → Nat → Int) (dy : xH) (hd : 6 ≤ d) (X : Nat → Int) (f j : Int) {si : Nat} {sc : String × Nat × String × List Int} (hs : x_strs[si]? = some sc) (hf : 0 ≤ f) (hn : 0 ≤ q 1345 ∧ q 1345 ≤ 4000) (hX : ∀ k : Nat, (k : Int) < q 1345 → A 44 k = X (f.toNat + k)) (hj : 0 ≤ j ∧ j ≤ q 1345) (hr : ∀ c, c ∈ sc.2.2.2 → s_reg c = true) : xMet Z d Y_M_takeWord [xC 42, xS (2 * si + 1)] (hF (x_up q 1346 j) (x_up r 1344 (some 44)) A ++ dy) (fun v h2 => ∃ z j2 : Int, v = some (xI z) ∧ h2 = hF (x_up q 1346 j2) (x_up r 1344 (some 44)) A ++ dy ∧ ((z = 1 ∧ 0 ≤ s_the X (f + q 1345) (f + j) sc.2.2.2 ∧ j2 = s_the X (f + q 1345) (f + j) sc.2.2.2 - f) ∨ (z = 0 ∧ s_the X (f + q 1345) (f + j) sc.2.2.2 < 0 ∧ j2 = j))) := by
  refine xMet_of (by decide) (Nat.le_of_ble_eq_true rfl) (fun v h2 hq => by obtain ⟨z, _, e, _, ⟨e2, _⟩ | ⟨e2, _⟩⟩ := hq <;> rw [e, e2]; exact Or.inr rfl; exact Or.inl rfl) ?_
  have hw := s_the_word (b := X) (n := (f + q 1345)) (p := f + j) (by omega) hr
  have hti := s_the_in X (f + q 1345) (f + j) sc.2.2.2
  have hsg := s_sc_ge s_reg X (f + q 1345) (f + j)
  have hsl := s_sc_le s_reg X (n := (f + q 1345)) (t := f + j) (by omega)
  refine x_aload_n (x_d C_M_takeWord 0 rfl) rfl ?_
  refine x_aload_n (x_d C_M_takeWord 1 rfl) rfl ?_
  refine x_getfield (v := xI (j)) (x_d C_M_takeWord 2 rfl) f_M_7 rfl rfl ?_
  refine x_invokevirtual (st := []) (av := [xI (j)]) (x_d C_M_takeWord 3 rfl) k_M_38 m_M_wordEnd v_M_wordEnd cl_M rfl rfl (Nat.le_of_ble_eq_true rfl) (by omega) rfl (c_M_wordEnd Z (d - 1) q r A dy (by omega) X f j j hf hn hX (by omega)) ?_
  rintro v_ _ ⟨hv_, rfl⟩
  obtain rfl : v_ = some (xI (s_sc s_reg X (f + q 1345) (f + j) - f)) := hv_
  refine x_istore_n (l1 := [(2, xI (s_sc s_reg X (f + q 1345) (f + j) - f)), (0, xC 42), (1, xS (2 * si + 1))]) (x_d C_M_takeWord 4 rfl) (by decide) rfl ?_
  refine x_aload_n (x_d C_M_takeWord 5 rfl) rfl ?_
  refine x_aload_n (x_d C_M_takeWord 6 rfl) rfl ?_
  refine x_getfield (v := xI (j)) (x_d C_M_takeWord 7 rfl) f_M_7 rfl rfl ?_
  refine x_iload_n (x_d C_M_takeWord 8 rfl) rfl ?_
  refine x_aload_n (x_d C_M_takeWord 9 rfl) rfl ?_
  refine x_invokevirtual (st := []) (av := [xI (j), xI (s_sc s_reg X (f + q 1345) (f + j) - f), xS (2 * si + 1)]) (x_d C_M_takeWord 10 rfl) k_M_42 m_M_isWord v_M_isWord cl_M rfl rfl (Nat.le_of_ble_eq_true rfl) (by omega) rfl (c_M_isWord Z (d - 1) q r A dy (by omega) X f j j (s_sc s_reg X (f + q 1345) (f + j) - f) hs hf hn hX (by omega)) ?_
  rintro v_ _ ⟨hv_, rfl⟩
  obtain ⟨z_, rfl, hz_⟩ : ∃ z : Int, v_ = some (xI z) ∧ ((z = 1 ∧ ((s_sc s_reg X (f + q 1345) (f + j) - f) - j = sc.2.2.2.length ∧ 0 ≤ j ∧ 0 ≤ s_txt X (f + q 1345) (f + j) sc.2.2.2)) ∨ (z = 0 ∧ ¬ ((s_sc s_reg X (f + q 1345) (f + j) - f) - j = sc.2.2.2.length ∧ 0 ≤ j ∧ 0 ≤ s_txt X (f + q 1345) (f + j) sc.2.2.2))) := ⟨_, hv_, by by_cases c_ : ((s_sc s_reg X (f + q 1345) (f + j) - f) - j = sc.2.2.2.length ∧ 0 ≤ j ∧ 0 ≤ s_txt X (f + q 1345) (f + j) sc.2.2.2); exact Or.inl ⟨x_bo_t c_, c_⟩; exact Or.inr ⟨x_bo_f c_, c_⟩⟩
  refine x_if_ne (tgt := 24) (x_d C_M_takeWord 11 rfl) rfl (fun c1 => ?_) (fun c1 => ?_)
  · refine x_aload_n (x_d C_M_takeWord 14 rfl) rfl ?_
    refine x_iload_n (x_d C_M_takeWord 15 rfl) rfl ?_
    refine x_putfield (h1 := hF (x_up q 1346 (s_sc s_reg X (f + q 1345) (f + j) - f)) (x_up r 1344 (some 44)) A ++ dy) (x_d C_M_takeWord 16 rfl) p_M_7 rfl rfl rfl trivial rfl ?_
    refine x_iconst (x_d C_M_takeWord 17 rfl) ⟨by omega, by omega⟩ ?_
    refine x_ireturn (x_d C_M_takeWord 18 rfl) ?_
    have hp := hw.mp ⟨by omega, by omega⟩
    exact ⟨1, _, rfl, rfl, Or.inl ⟨rfl, hp, by omega⟩⟩
  · refine x_iconst (x_d C_M_takeWord 12 rfl) ⟨by omega, by omega⟩ ?_
    refine x_ireturn (x_d C_M_takeWord 13 rfl) ?_
    refine ⟨0, j, rfl, rfl, Or.inr ⟨rfl, ?_, rfl⟩⟩
    rcases Int.lt_or_le (s_the X (f + q 1345) (f + j) sc.2.2.2) 0 with h | h
    · exact h
    · have := hw.mpr h
      omega
theorem c_M_takeByte (Z : xZ) (d : Nat) (q : Nat → Int) (r : Nat → Option Nat) (A : Nat → Nat → Int) (dy : xH) (X : Nat → Int) (f j : Int) (c : Int) (hf : 0 ≤ f) (hn : 0 ≤ q 1345 ∧ q 1345 ≤ 4000) (hX : ∀ k : Nat, (k : Int) < q 1345 → A 44 k = X (f.toNat + k)) (hj : 0 ≤ j ∧ j ≤ q 1345) (hB : ∀ k, -128 ≤ X k ∧ X k ≤ 127) (hc : 0 ≤ c ∧ c ≤ 127) : xMet Z d Y_M_takeByte [xC 42, xI c] (hF (x_up q 1346 j) (x_up r 1344 (some 44)) A ++ dy) (fun v h2 => ∃ z j2 : Int, v = some (xI z) ∧ h2 = hF (x_up q 1346 j2) (x_up r 1344 (some 44)) A ++ dy ∧ ((z = 1 ∧ s_byte X (f + q 1345) (f + j) = c ∧ j2 = j + 1 ∧ j < q 1345) ∨ (z = 0 ∧ ¬ s_byte X (f + q 1345) (f + j) = c ∧ j2 = j))) := by
  refine xMet_of (by decide) (Nat.le_of_ble_eq_true rfl) (fun v h2 hq => by obtain ⟨z, _, e, _, ⟨e2, _⟩ | ⟨e2, _⟩⟩ := hq <;> rw [e, e2]; exact Or.inr rfl; exact Or.inl rfl) ?_
  have hXi : ∀ u : Int, 0 ≤ u → u < q 1345 → A 44 u.toNat = X (f + u).toNat := fun u h1 h2 => by rw [hX u.toNat (by omega)]; congr 1; omega
  have hxj := hXi j
  have hb := s_byte_in X (f + q 1345) (f + j)
  have hB1 := hB (f + j).toNat
  refine x_aload_n (x_d C_M_takeByte 0 rfl) rfl ?_
  refine x_getfield (v := xI (j)) (x_d C_M_takeByte 1 rfl) f_M_7 rfl rfl ?_
  refine x_aload_n (x_d C_M_takeByte 2 rfl) rfl ?_
  refine x_getfield (v := xI (q 1345)) (x_d C_M_takeByte 3 rfl) f_M_11 rfl rfl ?_
  refine x_icmp_ge (tgt := 24) (x_d C_M_takeByte 4 rfl) rfl (fun c1 => ?_) (fun c1 => ?_)
  · refine x_iconst (x_d C_M_takeByte 12 rfl) ⟨by omega, by omega⟩ ?_
    refine x_ireturn (x_d C_M_takeByte 13 rfl) ?_
    exact ⟨0, j, rfl, rfl, Or.inr ⟨rfl, by omega, rfl⟩⟩
  · refine x_aload_n (x_d C_M_takeByte 5 rfl) rfl ?_
    refine x_getfield (v := xC 44) (x_d C_M_takeByte 6 rfl) f_M_14 rfl rfl ?_
    refine x_aload_n (x_d C_M_takeByte 7 rfl) rfl ?_
    refine x_getfield (v := xI (j)) (x_d C_M_takeByte 8 rfl) f_M_7 rfl rfl ?_
    refine x_baload (f := A 44) (x_d C_M_takeByte 9 rfl) rfl (by omega) (by omega) ?_
    refine x_iload_n (x_d C_M_takeByte 10 rfl) rfl ?_
    refine x_icmp_eq (tgt := 26) (x_d C_M_takeByte 11 rfl) rfl (fun c2 => ?_) (fun c2 => ?_)
    · refine x_aload_n (x_d C_M_takeByte 14 rfl) rfl ?_
      refine x_dup (x_d C_M_takeByte 15 rfl) rfl ?_
      refine x_getfield (v := xI (j)) (x_d C_M_takeByte 16 rfl) f_M_7 rfl rfl ?_
      refine x_iconst (x_d C_M_takeByte 17 rfl) ⟨by omega, by omega⟩ ?_
      refine x_iadd (x_d C_M_takeByte 18 rfl) ⟨by omega, by omega⟩ ?_
      refine x_putfield (h1 := hF (x_up q 1346 (j + 1)) (x_up r 1344 (some 44)) A ++ dy) (x_d C_M_takeByte 19 rfl) p_M_7 rfl rfl rfl trivial rfl ?_
      refine x_iconst (x_d C_M_takeByte 20 rfl) ⟨by omega, by omega⟩ ?_
      refine x_ireturn (x_d C_M_takeByte 21 rfl) ?_
      exact ⟨1, _, rfl, rfl, Or.inl ⟨rfl, by omega, rfl, by omega⟩⟩
    · refine x_iconst (x_d C_M_takeByte 12 rfl) ⟨by omega, by omega⟩ ?_
      refine x_ireturn (x_d C_M_takeByte 13 rfl) ?_
      exact ⟨0, j, rfl, rfl, Or.inr ⟨rfl, by omega, rfl⟩⟩
theorem s_alld_all (b : Nat → Int) : ∀ (m i : Nat), s_alld b m i = true → ∀ k, k < m → s_dig (b (i + k)) = true
  | 0, _, _, _, h => absurd h (Nat.not_lt_zero _)
  | m + 1, i, h, k, hk => by
    have h : (s_alld b m i && s_dig (b (i + m))) = true := h
    rw [Bool.and_eq_true] at h
    by_cases e : k = m
    · rw [e]; exact h.2
    · exact s_alld_all b m i h.1 k (by omega)
theorem w_M_numberOf_21 (Z : xZ) (d : Nat) (q : Nat → Int) (r : Nat → Option Nat) (A : Nat → Nat → Int) (dy : xH) (hd : 1 ≤ d) (X : Nat → Int) (f : Int) (j i b : Int) (hf : 0 ≤ f) (hn : 0 ≤ q 1345 ∧ q 1345 ≤ 4000) (hX : ∀ k : Nat, (k : Int) < q 1345 → A 44 k = X (f.toNat + k)) (hib : 0 ≤ i ∧ 1 ≤ b - i ∧ b - i ≤ 9 ∧ b ≤ q 1345) : ∀ (m : Nat) (t w : Int), (b - t).toNat = m → (i ≤ t ∧ t ≤ b) → w = s_dv X (t - i).toNat (f + i).toNat → s_alld X (t - i).toNat (f + i).toNat = true → xW Z d Y_M_numberOf 21 [(0, xC 42), (1, xI i), (2, xI b), (3, xI w), (4, xI t)] [] (hF (x_up q 1346 j) (x_up r 1344 (some 44)) A ++ dy) (fun v h2 => v = some (xI (if (1 ≤ b - i ∧ b - i ≤ 9) ∧ s_alld X (b - i).toNat (f + i).toNat = true then s_dv X (b - i).toNat (f + i).toNat else -1)) ∧ h2 = hF (x_up q 1346 j) (x_up r 1344 (some 44)) A ++ dy) := by
  intro m
  induction m using Nat.strongRecOn with
  | ind m ih =>
  intro t w hk ht hv had
  have hXi : ∀ u : Int, 0 ≤ u → u < q 1345 → A 44 u.toNat = X (f + u).toNat := fun u h1 h2 => by rw [hX u.toNat (by omega)]; congr 1; omega
  have hxt := hXi t
  have hin := s_dv_in X (t - i).toNat (f + i).toNat had
  have hpw := s_pow9 (j := (t - i).toNat) (by omega)
  have hp8 : t < b → (10 : Int) ^ (t - i).toNat ≤ 100000000 := fun h => s_pow8 (by omega)
  have hdg : (x_bo (s_dig (A 44 t.toNat)) = 1 ∧ s_dig (A 44 t.toNat) = true ∧ 48 ≤ A 44 t.toNat ∧ A 44 t.toNat ≤ 57) ∨ (x_bo (s_dig (A 44 t.toNat)) = 0 ∧ s_dig (A 44 t.toNat) = false) := by
    by_cases e : 48 ≤ A 44 t.toNat ∧ A 44 t.toNat ≤ 57
    · exact Or.inl ⟨by rw [s_dig_t e]; rfl, s_dig_t e, e⟩
    · exact Or.inr ⟨by rw [s_dig_f e]; rfl, s_dig_f e⟩
  refine x_iload (x_d C_M_numberOf 14 rfl) rfl ?_
  refine x_iload_n (x_d C_M_numberOf 15 rfl) rfl ?_
  refine x_icmp_ge (tgt := 64) (x_d C_M_numberOf 16 rfl) rfl (fun c1 => ?_) (fun c1 => ?_)
  · refine x_iload_n (x_d C_M_numberOf 38 rfl) rfl ?_
    refine x_ireturn (x_d C_M_numberOf 39 rfl) ?_
    obtain rfl : t = b := by omega
    refine ⟨congrArg (fun z => some (xI z)) ?_, rfl⟩
    rw [if_pos ⟨by omega, had⟩, hv]
  · refine x_aload_n (x_d C_M_numberOf 17 rfl) rfl ?_
    refine x_getfield (v := xC 44) (x_d C_M_numberOf 18 rfl) f_M_14 rfl rfl ?_
    refine x_iload (x_d C_M_numberOf 19 rfl) rfl ?_
    refine x_baload (f := A 44) (x_d C_M_numberOf 20 rfl) rfl (by omega) (by omega) ?_
    refine x_invokestatic (st := []) (av := [xI (A 44 (t).toNat)]) (x_d C_M_numberOf 21 rfl) k_M_52 m_M_isDigit s_M_isDigit rfl (Nat.le_of_ble_eq_true rfl) (by omega) rfl (c_M_isDigit Z (d - 1) (hF (x_up q 1346 j) (x_up r 1344 (some 44)) A ++ dy) (A 44 (t).toNat)) ?_
    rintro v_ _ ⟨hv_, rfl⟩
    obtain rfl : v_ = some (xI (x_bo (s_dig (A 44 (t).toNat)))) := hv_
    refine x_if_ne (tgt := 42) (x_d C_M_numberOf 22 rfl) rfl (fun c2 => ?_) (fun c2 => ?_)
    · refine x_bipush (x_d C_M_numberOf 25 rfl) (by omega) ?_
      refine x_iload_n (x_d C_M_numberOf 26 rfl) rfl ?_
      refine x_imul (x_d C_M_numberOf 27 rfl) ⟨by omega, by omega⟩ ?_
      refine x_aload_n (x_d C_M_numberOf 28 rfl) rfl ?_
      refine x_getfield (v := xC 44) (x_d C_M_numberOf 29 rfl) f_M_14 rfl rfl ?_
      refine x_iload (x_d C_M_numberOf 30 rfl) rfl ?_
      refine x_baload (f := A 44) (x_d C_M_numberOf 31 rfl) rfl (by omega) (by omega) ?_
      refine x_iadd (x_d C_M_numberOf 32 rfl) ⟨by omega, by omega⟩ ?_
      refine x_bipush (x_d C_M_numberOf 33 rfl) (by omega) ?_
      refine x_isub (x_d C_M_numberOf 34 rfl) ⟨by omega, by omega⟩ ?_
      refine x_istore_n (l1 := [(3, xI (((10 * w) + (A 44 (t).toNat)) - 48)), (0, xC 42), (1, xI (i)), (2, xI (b)), (4, xI (t))]) (x_d C_M_numberOf 35 rfl) (by decide) rfl ?_
      refine x_iinc (l1 := [(4, xI (t + 1)), (3, xI (((10 * w) + (A 44 (t).toNat)) - 48)), (0, xC 42), (1, xI (i)), (2, xI (b))]) (x_d C_M_numberOf 36 rfl) rfl ⟨by omega, by omega⟩ (by decide) rfl ?_
      refine x_goto (tgt := 21) (x_d C_M_numberOf 37 rfl) rfl ?_
      refine x_locs [2, 3, 4, 1, 0] rfl ?_
      refine ih (b - (t + 1)).toNat (by omega) (t + 1) _ rfl (by omega) ?_ ?_
      · rw [show (t + 1 - i).toNat = (t - i).toNat + 1 by omega]
        show _ = 10 * s_dv X (t - i).toNat (f + i).toNat + X ((f + i).toNat + (t - i).toNat) - 48
        rw [← hv, show (f + i).toNat + (t - i).toNat = (f + t).toNat by omega, ← hxt (by omega) (by omega)]
      · rw [show (t + 1 - i).toNat = (t - i).toNat + 1 by omega]
        show (s_alld X (t - i).toNat (f + i).toNat && s_dig (X ((f + i).toNat + (t - i).toNat))) = true
        rw [had, show (f + i).toNat + (t - i).toNat = (f + t).toNat by omega, ← hxt (by omega) (by omega), Bool.true_and]
        rcases hdg with ⟨_, a, _⟩ | ⟨a, _⟩
        · exact a
        · omega
    · refine x_iconst (x_d C_M_numberOf 23 rfl) ⟨by omega, by omega⟩ ?_
      refine x_ireturn (x_d C_M_numberOf 24 rfl) ?_
      refine ⟨congrArg (fun z => some (xI z)) ?_, rfl⟩
      rw [if_neg]
      rintro ⟨-, z⟩
      have := s_alld_all X _ _ z (t - i).toNat (by omega)
      rw [show (f + i).toNat + (t - i).toNat = (f + t).toNat by omega, ← hxt (by omega) (by omega)] at this
      rcases hdg with ⟨a, _⟩ | ⟨_, a⟩
      · omega
      · rw [a] at this; cases this
theorem c_M_numberOf (Z : xZ) (d : Nat) (q : Nat → Int) (r : Nat → Option Nat) (A : Nat → Nat → Int) (dy : xH) (hd : 1 ≤ d) (X : Nat → Int) (f j : Int) (i b : Int) (hf : 0 ≤ f) (hn : 0 ≤ q 1345 ∧ q 1345 ≤ 4000) (hX : ∀ k : Nat, (k : Int) < q 1345 → A 44 k = X (f.toNat + k)) (hib : 0 ≤ i ∧ i ≤ b + 1 ∧ b ≤ q 1345) : xMet Z d Y_M_numberOf [xC 42, xI i, xI b] (hF (x_up q 1346 j) (x_up r 1344 (some 44)) A ++ dy) (fun v h2 => v = some (xI (if (1 ≤ b - i ∧ b - i ≤ 9) ∧ s_alld X (b - i).toNat (f + i).toNat = true then s_dv X (b - i).toNat (f + i).toNat else -1)) ∧ h2 = hF (x_up q 1346 j) (x_up r 1344 (some 44)) A ++ dy) := by
  refine xMet_of (by decide) (Nat.le_of_ble_eq_true rfl) (fun v h2 hq => by rw [hq.1]; trivial) ?_
  refine x_iload_n (x_d C_M_numberOf 0 rfl) rfl ?_
  refine x_iload_n (x_d C_M_numberOf 1 rfl) rfl ?_
  refine x_isub (x_d C_M_numberOf 2 rfl) ⟨by omega, by omega⟩ ?_
  refine x_i2l (x_d C_M_numberOf 3 rfl) ?_
  refine x_lconst1 (x_d C_M_numberOf 4 rfl) ?_
  refine x_ldc2 (n := 9) (x_d C_M_numberOf 5 rfl) lc_M_46 ⟨by omega, by omega⟩ ?_
  refine x_invokestatic (st := []) (av := [xJ (b - i), xJ (1), xJ (9)]) (x_d C_M_numberOf 6 rfl) k_M_48 m_M_in s_M_in rfl (Nat.le_of_ble_eq_true rfl) (by omega) rfl (c_M_in Z (d - 1) (hF (x_up q 1346 j) (x_up r 1344 (some 44)) A ++ dy) (b - i) 1 9) ?_
  rintro v_ _ ⟨hv_, rfl⟩
  obtain ⟨z_, rfl, hz_⟩ : ∃ z : Int, v_ = some (xI z) ∧ ((z = 1 ∧ 1 ≤ b - i ∧ b - i ≤ 9) ∨ (z = 0 ∧ ¬ (1 ≤ b - i ∧ b - i ≤ 9))) := ⟨_, hv_, by by_cases c_ : (1 ≤ b - i ∧ b - i ≤ 9); exact Or.inl ⟨x_bo_t c_, c_⟩; exact Or.inr ⟨x_bo_f c_, c_⟩⟩
  refine x_if_ne (tgt := 16) (x_d C_M_numberOf 7 rfl) rfl (fun c1 => ?_) (fun c1 => ?_)
  · refine x_iconst (x_d C_M_numberOf 10 rfl) ⟨by omega, by omega⟩ ?_
    refine x_istore_n (l1 := [(3, xI (0)), (0, xC 42), (1, xI (i)), (2, xI (b))]) (x_d C_M_numberOf 11 rfl) (by decide) rfl ?_
    refine x_iload_n (x_d C_M_numberOf 12 rfl) rfl ?_
    refine x_istore (l1 := [(4, xI (i)), (3, xI (0)), (0, xC 42), (1, xI (i)), (2, xI (b))]) (x_d C_M_numberOf 13 rfl) (by decide) rfl ?_
    refine x_locs [2, 3, 4, 1, 0] rfl ?_
    exact w_M_numberOf_21 Z d q r A dy hd X f j i b hf hn hX (by omega) _ i 0 rfl (by omega) (by rw [Int.sub_self]; rfl) (by rw [Int.sub_self]; rfl)
  · refine x_iconst (x_d C_M_numberOf 8 rfl) ⟨by omega, by omega⟩ ?_
    refine x_ireturn (x_d C_M_numberOf 9 rfl) ?_
    exact ⟨congrArg (fun z => some (xI z)) (by rw [if_neg (by omega)]), rfl⟩
theorem s_nof {X : Nat → Int} {T p : Int} (h0 : 0 ≤ p) : s_num X T p = if (1 ≤ s_sc s_reg X T p - p ∧ s_sc s_reg X T p - p ≤ 9) ∧ s_alld X (s_sc s_reg X T p - p).toNat p.toNat = true then s_dv X (s_sc s_reg X T p - p).toNat p.toNat else -1 := by
  unfold s_num
  by_cases c : (1 ≤ s_sc s_reg X T p - p ∧ s_sc s_reg X T p - p ≤ 9) ∧ s_alld X (s_sc s_reg X T p - p).toNat p.toNat = true
  · rw [if_pos c, if_pos ⟨h0, by omega, by omega, c.2⟩]
  · rw [if_neg c, if_neg (fun z => c ⟨by omega, z.2.2.2⟩)]
theorem c_M_takeNumber (Z : xZ) (d : Nat) (q : Nat → Int) (r : Nat → Option Nat) (A : Nat → Nat → Int) (dy : xH) (hd : 3 ≤ d) (X : Nat → Int) (f j : Int) (hf : 0 ≤ f) (hn : 0 ≤ q 1345 ∧ q 1345 ≤ 4000) (hX : ∀ k : Nat, (k : Int) < q 1345 → A 44 k = X (f.toNat + k)) (hj : 0 ≤ j ∧ j ≤ q 1345) : xMet Z d Y_M_takeNumber [xC 42] (hF (x_up q 1346 j) (x_up r 1344 (some 44)) A ++ dy) (fun v h2 => ∃ j2 : Int, v = some (xI (s_num X (f + q 1345) (f + j))) ∧ h2 = hF (x_up q 1346 j2) (x_up r 1344 (some 44)) A ++ dy ∧ ((0 ≤ s_num X (f + q 1345) (f + j) ∧ j2 = s_wd X (f + q 1345) (f + j) - f) ∨ (s_num X (f + q 1345) (f + j) < 0 ∧ j2 = j))) := by
  refine xMet_of (by decide) (Nat.le_of_ble_eq_true rfl) (fun v h2 hq => by obtain ⟨_, e, _⟩ := hq; rw [e]; trivial) ?_
  have hsg := s_sc_ge s_reg X (f + q 1345) (f + j)
  have hsl := s_sc_le s_reg X (n := (f + q 1345)) (t := f + j) (by omega)
  have hni := s_num_in X (f + q 1345) (f + j)
  refine x_aload_n (x_d C_M_takeNumber 0 rfl) rfl ?_
  refine x_aload_n (x_d C_M_takeNumber 1 rfl) rfl ?_
  refine x_getfield (v := xI (j)) (x_d C_M_takeNumber 2 rfl) f_M_7 rfl rfl ?_
  refine x_invokevirtual (st := []) (av := [xI (j)]) (x_d C_M_takeNumber 3 rfl) k_M_38 m_M_wordEnd v_M_wordEnd cl_M rfl rfl (Nat.le_of_ble_eq_true rfl) (by omega) rfl (c_M_wordEnd Z (d - 1) q r A dy (by omega) X f j j hf hn hX (by omega)) ?_
  rintro v_ _ ⟨hv_, rfl⟩
  obtain rfl : v_ = some (xI (s_sc s_reg X (f + q 1345) (f + j) - f)) := hv_
  refine x_istore_n (l1 := [(1, xI (s_sc s_reg X (f + q 1345) (f + j) - f)), (0, xC 42)]) (x_d C_M_takeNumber 4 rfl) (by decide) rfl ?_
  refine x_aload_n (x_d C_M_takeNumber 5 rfl) rfl ?_
  refine x_aload_n (x_d C_M_takeNumber 6 rfl) rfl ?_
  refine x_getfield (v := xI (j)) (x_d C_M_takeNumber 7 rfl) f_M_7 rfl rfl ?_
  refine x_iload_n (x_d C_M_takeNumber 8 rfl) rfl ?_
  refine x_invokevirtual (st := []) (av := [xI (j), xI (s_sc s_reg X (f + q 1345) (f + j) - f)]) (x_d C_M_takeNumber 9 rfl) k_M_55 m_M_numberOf v_M_numberOf cl_M rfl rfl (Nat.le_of_ble_eq_true rfl) (by omega) rfl (c_M_numberOf Z (d - 1) q r A dy (by omega) X f j j (s_sc s_reg X (f + q 1345) (f + j) - f) hf hn hX (by omega)) ?_
  rintro v_ _ ⟨hv_, rfl⟩
  obtain ⟨w, hw⟩ : ∃ z, z = s_num X (f + q 1345) (f + j) := ⟨_, rfl⟩
  obtain rfl : v_ = some (xI w) := by rw [hw, s_nof (by omega)]; rw [show s_sc s_reg X (f + q 1345) (f + j) - (f + j) = s_sc s_reg X (f + q 1345) (f + j) - f - j by omega]; exact hv_
  refine x_istore_n (l1 := [(2, xI (w)), (1, xI (s_sc s_reg X (f + q 1345) (f + j) - f)), (0, xC 42)]) (x_d C_M_takeNumber 10 rfl) (by decide) rfl ?_
  refine x_iload_n (x_d C_M_takeNumber 11 rfl) rfl ?_
  refine x_if_lt (tgt := 28) (x_d C_M_takeNumber 12 rfl) rfl (fun c1 => ?_) (fun c1 => ?_)
  · refine x_iload_n (x_d C_M_takeNumber 16 rfl) rfl ?_
    refine x_ireturn (x_d C_M_takeNumber 17 rfl) ?_
    exact ⟨j, by rw [hw], rfl, Or.inr ⟨by omega, rfl⟩⟩
  · refine x_aload_n (x_d C_M_takeNumber 13 rfl) rfl ?_
    refine x_iload_n (x_d C_M_takeNumber 14 rfl) rfl ?_
    refine x_putfield (h1 := hF (x_up q 1346 (s_sc s_reg X (f + q 1345) (f + j) - f)) (x_up r 1344 (some 44)) A ++ dy) (x_d C_M_takeNumber 15 rfl) p_M_7 rfl rfl rfl trivial rfl ?_
    refine x_iload_n (x_d C_M_takeNumber 16 rfl) rfl ?_
    refine x_ireturn (x_d C_M_takeNumber 17 rfl) ?_
    refine ⟨_, by rw [hw], rfl, Or.inl ⟨by omega, ?_⟩⟩
    unfold s_wd
    rw [if_pos]
    rcases hni with e | e
    · omega
    · unfold s_wd at e; split at e <;> omega
