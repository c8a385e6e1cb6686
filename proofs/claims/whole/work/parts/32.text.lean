/-! the text -/
/-- the table of the regular bytes -/
def s_okR (A : Nat → Nat → Int) : Prop := ∀ c : Int, -128 ≤ c → c ≤ 127 → A 3 (c % 256).toNat = x_bo (s_reg c)
theorem hF_b2 {q : Nat → Int} {r : Nat → Option Nat} {A : Nat → Nat → Int} {dy : xH} (h : x_okH (hF q r A ++ dy)) (j : Nat) : -128 ≤ A 2 j ∧ A 2 j ≤ 127 := h _ (List.mem_of_getElem? (i := 2) rfl) j
theorem x_bo_0 {b : Bool} : x_bo b = 0 ↔ b = false := by cases b <;> decide
theorem x_bo_1 {b : Bool} : ¬ x_bo b = 0 ↔ b = true := by cases b <;> decide
theorem s_okR_at {A : Nat → Nat → Int} (h : s_okR A) {c : Int} (h1 : -128 ≤ c ∧ c ≤ 127) : (A 3 (c % 256).toNat = 0 ∧ s_reg c = false) ∨ (A 3 (c % 256).toNat = 1 ∧ s_reg c = true) := by
  rw [h c h1.1 h1.2]
  cases s_reg c
  · exact Or.inl ⟨rfl, rfl⟩
  · exact Or.inr ⟨rfl, rfl⟩
theorem s_white_t {c : Int} (h : c = 32 ∨ c = 10 ∨ c = 13) : s_white c = true := by
  unfold s_white
  simp only [Bool.or_eq_true, decide_eq_true_eq]
  omega
theorem s_white_f {c : Int} (h : ¬ (c = 32 ∨ c = 10 ∨ c = 13)) : s_white c = false := by
  unfold s_white
  simp only [Bool.or_eq_false_iff, decide_eq_false_iff_not]
  omega
theorem s_dig_t {c : Int} (h : 48 ≤ c ∧ c ≤ 57) : s_dig c = true := by
  unfold s_dig
  simp only [Bool.and_eq_true, decide_eq_true_eq]
  omega
theorem s_dig_f {c : Int} (h : ¬ (48 ≤ c ∧ c ≤ 57)) : s_dig c = false := by
  unfold s_dig
  simp only [Bool.and_eq_false_iff, decide_eq_false_iff_not]
  omega
theorem c_T_tapeSize (Z : xZ) (d : Nat) (q : Nat → Int) (r : Nat → Option Nat) (A : Nat → Nat → Int) (dy : xH) (hT : 0 ≤ q 34 ∧ q 34 ≤ q 35 ∧ q 35 ≤ 10248) : xMet Z d Y_T_tapeSize [xC 1] (hF q r A ++ dy) (fun v h2 => v = some (xI (q 35 - q 34)) ∧ h2 = hF q r A ++ dy) := by
  refine xMet_of (by decide) (Nat.le_of_ble_eq_true rfl) (fun v h2 hq => by rw [hq.1]; trivial) ?_
  refine x_aload_n (x_d C_T_tapeSize 0 rfl) rfl ?_
  refine x_getfield (v := xI (q 35)) (x_d C_T_tapeSize 1 rfl) f_T_41 rfl rfl ?_
  refine x_aload_n (x_d C_T_tapeSize 2 rfl) rfl ?_
  refine x_getfield (v := xI (q 34)) (x_d C_T_tapeSize 3 rfl) f_T_37 rfl rfl ?_
  refine x_isub (x_d C_T_tapeSize 4 rfl) ⟨by omega, by omega⟩ ?_
  refine x_ireturn (x_d C_T_tapeSize 5 rfl) ?_
  exact ⟨rfl, rfl⟩
theorem c_T_hasRoom (Z : xZ) (d : Nat) (q : Nat → Int) (r : Nat → Option Nat) (A : Nat → Nat → Int) (dy : xH) (n : Int) (hT : 0 ≤ q 34 ∧ q 34 ≤ q 35 ∧ q 35 ≤ 10248) : xMet Z d Y_T_hasRoom [xC 1, xI n] (hF q r A ++ dy) (fun v h2 => v = some (xI (x_bo (decide (q 35 + n ≤ 10248)))) ∧ h2 = hF q r A ++ dy) := by
  refine xMet_of (by decide) (Nat.le_of_ble_eq_true rfl) (fun v h2 hq => by rw [hq.1]; exact x_fitZ _) ?_
  refine x_aload_n (x_d C_T_hasRoom 0 rfl) rfl ?_
  refine x_getfield (v := xC 2) (x_d C_T_hasRoom 1 rfl) f_T_9 rfl rfl ?_
  refine x_arraylength (x_d C_T_hasRoom 2 rfl) rfl (by decide) (by omega) ?_
  refine x_aload_n (x_d C_T_hasRoom 3 rfl) rfl ?_
  refine x_getfield (v := xI (q 35)) (x_d C_T_hasRoom 4 rfl) f_T_41 rfl rfl ?_
  refine x_isub (x_d C_T_hasRoom 5 rfl) ⟨by omega, by omega⟩ ?_
  refine x_iload_n (x_d C_T_hasRoom 6 rfl) rfl ?_
  refine x_icmp_lt (tgt := 18) (x_d C_T_hasRoom 7 rfl) rfl (fun c1 => ?_) (fun c1 => ?_)
  · refine x_iconst (x_d C_T_hasRoom 10 rfl) ⟨by omega, by omega⟩ ?_
    refine x_ireturn (x_d C_T_hasRoom 11 rfl) ?_
    exact ⟨congrArg (fun z => some (xI z)) (x_bo_f (by omega)).symm, rfl⟩
  · refine x_iconst (x_d C_T_hasRoom 8 rfl) ⟨by omega, by omega⟩ ?_
    refine x_goto (tgt := 19) (x_d C_T_hasRoom 9 rfl) rfl ?_
    refine x_ireturn (x_d C_T_hasRoom 11 rfl) ?_
    exact ⟨congrArg (fun z => some (xI z)) (x_bo_t (by omega)).symm, rfl⟩
theorem c_T_cutTape (Z : xZ) (d : Nat) (q : Nat → Int) (r : Nat → Option Nat) (A : Nat → Nat → Int) (dy : xH) (n : Int) (hT : 0 ≤ q 34 ∧ q 34 ≤ q 35 ∧ q 35 ≤ 10248) (hn : 0 ≤ n ∧ n ≤ 10248) : xMet Z d Y_T_cutTape [xC 1, xI n] (hF q r A ++ dy) (fun v h2 => v = none ∧ h2 = hF (x_up q 35 (q 34 + n)) r A ++ dy) := by
  refine xMet_of (by decide) (Nat.le_of_ble_eq_true rfl) (fun v h2 hq => by rw [hq.1]; trivial) ?_
  refine x_aload_n (x_d C_T_cutTape 0 rfl) rfl ?_
  refine x_aload_n (x_d C_T_cutTape 1 rfl) rfl ?_
  refine x_getfield (v := xI (q 34)) (x_d C_T_cutTape 2 rfl) f_T_37 rfl rfl ?_
  refine x_iload_n (x_d C_T_cutTape 3 rfl) rfl ?_
  refine x_iadd (x_d C_T_cutTape 4 rfl) ⟨by omega, by omega⟩ ?_
  refine x_putfield (h1 := hF (x_up q 35 (q 34 + n)) r A ++ dy) (x_d C_T_cutTape 5 rfl) p_T_41 rfl rfl rfl trivial rfl ?_
  refine x_return (x_d C_T_cutTape 6 rfl) ?_
  exact ⟨rfl, rfl⟩
theorem c_T_dropTape (Z : xZ) (d : Nat) (q : Nat → Int) (r : Nat → Option Nat) (A : Nat → Nat → Int) (dy : xH) : xMet Z d Y_T_dropTape [xC 1] (hF q r A ++ dy) (fun v h2 => v = none ∧ h2 = hF (x_up q 35 (q 34)) r A ++ dy) := by
  refine xMet_of (by decide) (Nat.le_of_ble_eq_true rfl) (fun v h2 hq => by rw [hq.1]; trivial) ?_
  refine x_aload_n (x_d C_T_dropTape 0 rfl) rfl ?_
  refine x_aload_n (x_d C_T_dropTape 1 rfl) rfl ?_
  refine x_getfield (v := xI (q 34)) (x_d C_T_dropTape 2 rfl) f_T_37 rfl rfl ?_
  refine x_putfield (h1 := hF (x_up q 35 (q 34)) r A ++ dy) (x_d C_T_dropTape 3 rfl) p_T_41 rfl rfl rfl trivial rfl ?_
  refine x_return (x_d C_T_dropTape 4 rfl) ?_
  exact ⟨rfl, rfl⟩
theorem c_T_keepTape (Z : xZ) (d : Nat) (q : Nat → Int) (r : Nat → Option Nat) (A : Nat → Nat → Int) (dy : xH) : xMet Z d Y_T_keepTape [xC 1] (hF q r A ++ dy) (fun v h2 => v = none ∧ h2 = hF (x_up q 34 (q 35)) r A ++ dy) := by
  refine xMet_of (by decide) (Nat.le_of_ble_eq_true rfl) (fun v h2 hq => by rw [hq.1]; trivial) ?_
  refine x_aload_n (x_d C_T_keepTape 0 rfl) rfl ?_
  refine x_aload_n (x_d C_T_keepTape 1 rfl) rfl ?_
  refine x_getfield (v := xI (q 35)) (x_d C_T_keepTape 2 rfl) f_T_41 rfl rfl ?_
  refine x_putfield (h1 := hF (x_up q 34 (q 35)) r A ++ dy) (x_d C_T_keepTape 3 rfl) p_T_37 rfl rfl rfl trivial rfl ?_
  refine x_return (x_d C_T_keepTape 4 rfl) ?_
  exact ⟨rfl, rfl⟩
theorem c_T_byteAt (Z : xZ) (d : Nat) (q : Nat → Int) (r : Nat → Option Nat) (A : Nat → Nat → Int) (dy : xH) (i : Int) (hT : 0 ≤ q 34 ∧ q 34 ≤ q 35 ∧ q 35 ≤ 10248) : xMet Z d Y_T_byteAt [xC 1, xI i] (hF q r A ++ dy) (fun v h2 => v = some (xI (s_byte (A 2) (q 35) i)) ∧ h2 = hF q r A ++ dy) := by
  refine xMet_of (by decide) (Nat.le_of_ble_eq_true rfl) (fun v h2 hq => by rw [hq.1]; trivial) ?_
  refine x_iload_n (x_d C_T_byteAt 0 rfl) rfl ?_
  refine x_if_lt (tgt := 25) (x_d C_T_byteAt 1 rfl) rfl (fun c1 => ?_) (fun c1 => ?_)
  · refine x_iconst (x_d C_T_byteAt 13 rfl) ⟨by omega, by omega⟩ ?_
    refine x_ireturn (x_d C_T_byteAt 14 rfl) ?_
    exact ⟨congrArg (fun z => some (xI z)) (by unfold s_byte; split <;> omega), rfl⟩
  · refine x_iload_n (x_d C_T_byteAt 2 rfl) rfl ?_
    refine x_aload_n (x_d C_T_byteAt 3 rfl) rfl ?_
    refine x_getfield (v := xI (q 35)) (x_d C_T_byteAt 4 rfl) f_T_41 rfl rfl ?_
    refine x_icmp_ge (tgt := 25) (x_d C_T_byteAt 5 rfl) rfl (fun c2 => ?_) (fun c2 => ?_)
    · refine x_iconst (x_d C_T_byteAt 13 rfl) ⟨by omega, by omega⟩ ?_
      refine x_ireturn (x_d C_T_byteAt 14 rfl) ?_
      exact ⟨congrArg (fun z => some (xI z)) (by unfold s_byte; split <;> omega), rfl⟩
    · refine x_aload_n (x_d C_T_byteAt 6 rfl) rfl ?_
      refine x_getfield (v := xC 2) (x_d C_T_byteAt 7 rfl) f_T_9 rfl rfl ?_
      refine x_iload_n (x_d C_T_byteAt 8 rfl) rfl ?_
      refine x_baload (f := A 2) (x_d C_T_byteAt 9 rfl) rfl (by omega) (by omega) ?_
      refine x_sipush (x_d C_T_byteAt 10 rfl) (by omega) ?_
      refine x_iand255 (x_d C_T_byteAt 11 rfl) ?_
      refine x_goto (tgt := 26) (x_d C_T_byteAt 12 rfl) rfl ?_
      refine x_ireturn (x_d C_T_byteAt 14 rfl) ?_
      exact ⟨congrArg (fun z => some (xI z)) (by unfold s_byte; split <;> omega), rfl⟩
theorem c_T_afterByte (Z : xZ) (d : Nat) (q : Nat → Int) (r : Nat → Option Nat) (A : Nat → Nat → Int) (dy : xH) (hd : 1 ≤ d) (i c : Int) (hT : 0 ≤ q 34 ∧ q 34 ≤ q 35 ∧ q 35 ≤ 10248) (hc : 0 ≤ c) : xMet Z d Y_T_afterByte [xC 1, xI i, xI c] (hF q r A ++ dy) (fun v h2 => v = some (xI (s_abyte (A 2) (q 35) i c)) ∧ h2 = hF q r A ++ dy) := by
  refine xMet_of (by decide) (Nat.le_of_ble_eq_true rfl) (fun v h2 hq => by rw [hq.1]; trivial) ?_
  have hb := s_byte_in (A 2) (q 35) i
  refine x_aload_n (x_d C_T_afterByte 0 rfl) rfl ?_
  refine x_iload_n (x_d C_T_afterByte 1 rfl) rfl ?_
  refine x_invokevirtual (st := []) (av := [xI (i)]) (x_d C_T_afterByte 2 rfl) k_T_44 m_T_byteAt v_T_byteAt cl_T rfl rfl (Nat.le_of_ble_eq_true rfl) (by omega) rfl (c_T_byteAt Z (d - 1) q r A dy i hT) ?_
  rintro _ _ ⟨rfl, rfl⟩
  refine x_iload_n (x_d C_T_afterByte 3 rfl) rfl ?_
  refine x_icmp_ne (tgt := 15) (x_d C_T_afterByte 4 rfl) rfl (fun c1 => ?_) (fun c1 => ?_)
  · refine x_iconst (x_d C_T_afterByte 9 rfl) ⟨by omega, by omega⟩ ?_
    refine x_ireturn (x_d C_T_afterByte 10 rfl) ?_
    exact ⟨congrArg (fun z => some (xI z)) (by unfold s_abyte; split <;> omega), rfl⟩
  · refine x_iload_n (x_d C_T_afterByte 5 rfl) rfl ?_
    refine x_iconst (x_d C_T_afterByte 6 rfl) ⟨by omega, by omega⟩ ?_
    refine x_iadd (x_d C_T_afterByte 7 rfl) ⟨by omega, by omega⟩ ?_
    refine x_goto (tgt := 16) (x_d C_T_afterByte 8 rfl) rfl ?_
    refine x_ireturn (x_d C_T_afterByte 10 rfl) ?_
    exact ⟨congrArg (fun z => some (xI z)) (by unfold s_abyte; split <;> omega), rfl⟩
theorem w_T_afterWhite_2 (Z : xZ) (d : Nat) (q : Nat → Int) (r : Nat → Option Nat) (A : Nat → Nat → Int) (dy : xH) (i : Int) (hT : 0 ≤ q 34 ∧ q 34 ≤ q 35 ∧ q 35 ≤ 10248) : ∀ (k : Nat) (t : Int), (q 35 - t).toNat = k → xW Z d Y_T_afterWhite 2 [(0, xC 1), (1, xI i), (2, xI t)] [] (hF q r A ++ dy) (fun v h2 => v = some (xI (s_sc s_white (A 2) (q 35) t)) ∧ h2 = hF q r A ++ dy) := by
  intro k
  induction k using Nat.strongRecOn with
  | ind k ih =>
  intro t hk
  refine x_iload_n (x_d C_T_afterWhite 2 rfl) rfl ?_
  refine x_if_lt (tgt := 53) (x_d C_T_afterWhite 3 rfl) rfl (fun c1 => ?_) (fun c1 => ?_)
  · refine x_iload_n (x_d C_T_afterWhite 28 rfl) rfl ?_
    refine x_ireturn (x_d C_T_afterWhite 29 rfl) ?_
    exact ⟨congrArg (fun z => some (xI z)) (s_sc_stop (by first | exact Or.inl (by omega) | exact Or.inr (Or.inl (by omega)) | exact Or.inr (Or.inr (s_white_f (by omega))))).symm, rfl⟩
  · refine x_iload_n (x_d C_T_afterWhite 4 rfl) rfl ?_
    refine x_aload_n (x_d C_T_afterWhite 5 rfl) rfl ?_
    refine x_getfield (v := xI (q 35)) (x_d C_T_afterWhite 6 rfl) f_T_41 rfl rfl ?_
    refine x_icmp_ge (tgt := 53) (x_d C_T_afterWhite 7 rfl) rfl (fun c2 => ?_) (fun c2 => ?_)
    · refine x_iload_n (x_d C_T_afterWhite 28 rfl) rfl ?_
      refine x_ireturn (x_d C_T_afterWhite 29 rfl) ?_
      exact ⟨congrArg (fun z => some (xI z)) (s_sc_stop (by first | exact Or.inl (by omega) | exact Or.inr (Or.inl (by omega)) | exact Or.inr (Or.inr (s_white_f (by omega))))).symm, rfl⟩
    · refine x_aload_n (x_d C_T_afterWhite 8 rfl) rfl ?_
      refine x_getfield (v := xC 2) (x_d C_T_afterWhite 9 rfl) f_T_9 rfl rfl ?_
      refine x_iload_n (x_d C_T_afterWhite 10 rfl) rfl ?_
      refine x_baload (f := A 2) (x_d C_T_afterWhite 11 rfl) rfl (by omega) (by omega) ?_
      refine x_bipush (x_d C_T_afterWhite 12 rfl) (by omega) ?_
      refine x_icmp_eq (tgt := 47) (x_d C_T_afterWhite 13 rfl) rfl (fun c3 => ?_) (fun c3 => ?_)
      · refine x_iinc (l1 := [(2, xI (t + 1)), (0, xC 1), (1, xI (i))]) (x_d C_T_afterWhite 26 rfl) rfl ⟨by omega, by omega⟩ (by decide) rfl ?_
        refine x_goto (tgt := 2) (x_d C_T_afterWhite 27 rfl) rfl ?_
        refine x_locs [1, 2, 0] rfl ?_
        rw [s_sc_step (by omega) (by omega) (s_white_t (by omega))]
        exact ih _ (by omega) _ rfl
      · refine x_aload_n (x_d C_T_afterWhite 14 rfl) rfl ?_
        refine x_getfield (v := xC 2) (x_d C_T_afterWhite 15 rfl) f_T_9 rfl rfl ?_
        refine x_iload_n (x_d C_T_afterWhite 16 rfl) rfl ?_
        refine x_baload (f := A 2) (x_d C_T_afterWhite 17 rfl) rfl (by omega) (by omega) ?_
        refine x_bipush (x_d C_T_afterWhite 18 rfl) (by omega) ?_
        refine x_icmp_eq (tgt := 47) (x_d C_T_afterWhite 19 rfl) rfl (fun c4 => ?_) (fun c4 => ?_)
        · refine x_iinc (l1 := [(2, xI (t + 1)), (0, xC 1), (1, xI (i))]) (x_d C_T_afterWhite 26 rfl) rfl ⟨by omega, by omega⟩ (by decide) rfl ?_
          refine x_goto (tgt := 2) (x_d C_T_afterWhite 27 rfl) rfl ?_
          refine x_locs [1, 2, 0] rfl ?_
          rw [s_sc_step (by omega) (by omega) (s_white_t (by omega))]
          exact ih _ (by omega) _ rfl
        · refine x_aload_n (x_d C_T_afterWhite 20 rfl) rfl ?_
          refine x_getfield (v := xC 2) (x_d C_T_afterWhite 21 rfl) f_T_9 rfl rfl ?_
          refine x_iload_n (x_d C_T_afterWhite 22 rfl) rfl ?_
          refine x_baload (f := A 2) (x_d C_T_afterWhite 23 rfl) rfl (by omega) (by omega) ?_
          refine x_bipush (x_d C_T_afterWhite 24 rfl) (by omega) ?_
          refine x_icmp_ne (tgt := 53) (x_d C_T_afterWhite 25 rfl) rfl (fun c5 => ?_) (fun c5 => ?_)
          · refine x_iload_n (x_d C_T_afterWhite 28 rfl) rfl ?_
            refine x_ireturn (x_d C_T_afterWhite 29 rfl) ?_
            exact ⟨congrArg (fun z => some (xI z)) (s_sc_stop (by first | exact Or.inl (by omega) | exact Or.inr (Or.inl (by omega)) | exact Or.inr (Or.inr (s_white_f (by omega))))).symm, rfl⟩
          · refine x_iinc (l1 := [(2, xI (t + 1)), (0, xC 1), (1, xI (i))]) (x_d C_T_afterWhite 26 rfl) rfl ⟨by omega, by omega⟩ (by decide) rfl ?_
            refine x_goto (tgt := 2) (x_d C_T_afterWhite 27 rfl) rfl ?_
            refine x_locs [1, 2, 0] rfl ?_
            rw [s_sc_step (by omega) (by omega) (s_white_t (by omega))]
            exact ih _ (by omega) _ rfl
theorem c_T_afterWhite (Z : xZ) (d : Nat) (q : Nat → Int) (r : Nat → Option Nat) (A : Nat → Nat → Int) (dy : xH) (i : Int) (hT : 0 ≤ q 34 ∧ q 34 ≤ q 35 ∧ q 35 ≤ 10248) : xMet Z d Y_T_afterWhite [xC 1, xI i] (hF q r A ++ dy) (fun v h2 => v = some (xI (s_sc s_white (A 2) (q 35) i)) ∧ h2 = hF q r A ++ dy) := by
  refine xMet_of (by decide) (Nat.le_of_ble_eq_true rfl) (fun v h2 hq => by rw [hq.1]; trivial) ?_
  refine x_iload_n (x_d C_T_afterWhite 0 rfl) rfl ?_
  refine x_istore_n (l1 := [(2, xI (i)), (0, xC 1), (1, xI (i))]) (x_d C_T_afterWhite 1 rfl) (by decide) rfl ?_
  refine x_locs [1, 2, 0] rfl ?_
  exact w_T_afterWhite_2 Z d q r A dy i hT _ _ rfl
theorem w_T_afterWord_2 (Z : xZ) (d : Nat) (q : Nat → Int) (r : Nat → Option Nat) (A : Nat → Nat → Int) (dy : xH) (i : Int) (hT : 0 ≤ q 34 ∧ q 34 ≤ q 35 ∧ q 35 ≤ 10248) (hR : s_okR A) : ∀ (k : Nat) (t : Int), (q 35 - t).toNat = k → i ≤ t → s_sc s_reg (A 2) (q 35) i = s_sc s_reg (A 2) (q 35) t → xW Z d Y_T_afterWord 2 [(0, xC 1), (1, xI i), (2, xI t)] [] (hF q r A ++ dy) (fun v h2 => v = some (xI (s_wd (A 2) (q 35) i)) ∧ h2 = hF q r A ++ dy) := by
  intro k
  induction k using Nat.strongRecOn with
  | ind k ih =>
  intro t hk hit hs1
  refine xW_ok (fun _ _ hok => ?_)
  have hb := hF_b2 hok t.toNat
  have hg := s_okR_at hR hb
  refine x_iload_n (x_d C_T_afterWord 2 rfl) rfl ?_
  refine x_if_lt (tgt := 38) (x_d C_T_afterWord 3 rfl) rfl (fun c1 => ?_) (fun c1 => ?_)
  · refine x_iload_n (x_d C_T_afterWord 20 rfl) rfl ?_
    refine x_iload_n (x_d C_T_afterWord 21 rfl) rfl ?_
    refine x_icmp_le (tgt := 47) (x_d C_T_afterWord 22 rfl) rfl (fun c2 => ?_) (fun c2 => ?_)
    · refine x_iconst (x_d C_T_afterWord 25 rfl) ⟨by omega, by omega⟩ ?_
      refine x_ireturn (x_d C_T_afterWord 26 rfl) ?_
      have e : s_sc s_reg (A 2) (q 35) t = t := s_sc_stop (by first | exact Or.inl (by omega) | exact Or.inr (Or.inl (by omega)) | exact Or.inr (Or.inr (by rcases hg with ⟨g1, g2⟩ | ⟨g1, g2⟩ <;> first | exact g2 | omega)))
      exact ⟨congrArg (fun z => some (xI z)) (by unfold s_wd; rw [hs1, e]; split <;> omega), rfl⟩
    · refine x_iload_n (x_d C_T_afterWord 23 rfl) rfl ?_
      refine x_goto (tgt := 48) (x_d C_T_afterWord 24 rfl) rfl ?_
      refine x_ireturn (x_d C_T_afterWord 26 rfl) ?_
      have e : s_sc s_reg (A 2) (q 35) t = t := s_sc_stop (by first | exact Or.inl (by omega) | exact Or.inr (Or.inl (by omega)) | exact Or.inr (Or.inr (by rcases hg with ⟨g1, g2⟩ | ⟨g1, g2⟩ <;> first | exact g2 | omega)))
      exact ⟨congrArg (fun z => some (xI z)) (by unfold s_wd; rw [hs1, e]; split <;> omega), rfl⟩
  · refine x_iload_n (x_d C_T_afterWord 4 rfl) rfl ?_
    refine x_aload_n (x_d C_T_afterWord 5 rfl) rfl ?_
    refine x_getfield (v := xI (q 35)) (x_d C_T_afterWord 6 rfl) f_T_41 rfl rfl ?_
    refine x_icmp_ge (tgt := 38) (x_d C_T_afterWord 7 rfl) rfl (fun c3 => ?_) (fun c3 => ?_)
    · refine x_iload_n (x_d C_T_afterWord 20 rfl) rfl ?_
      refine x_iload_n (x_d C_T_afterWord 21 rfl) rfl ?_
      refine x_icmp_le (tgt := 47) (x_d C_T_afterWord 22 rfl) rfl (fun c4 => ?_) (fun c4 => ?_)
      · refine x_iconst (x_d C_T_afterWord 25 rfl) ⟨by omega, by omega⟩ ?_
        refine x_ireturn (x_d C_T_afterWord 26 rfl) ?_
        have e : s_sc s_reg (A 2) (q 35) t = t := s_sc_stop (by first | exact Or.inl (by omega) | exact Or.inr (Or.inl (by omega)) | exact Or.inr (Or.inr (by rcases hg with ⟨g1, g2⟩ | ⟨g1, g2⟩ <;> first | exact g2 | omega)))
        exact ⟨congrArg (fun z => some (xI z)) (by unfold s_wd; rw [hs1, e]; split <;> omega), rfl⟩
      · refine x_iload_n (x_d C_T_afterWord 23 rfl) rfl ?_
        refine x_goto (tgt := 48) (x_d C_T_afterWord 24 rfl) rfl ?_
        refine x_ireturn (x_d C_T_afterWord 26 rfl) ?_
        have e : s_sc s_reg (A 2) (q 35) t = t := s_sc_stop (by first | exact Or.inl (by omega) | exact Or.inr (Or.inl (by omega)) | exact Or.inr (Or.inr (by rcases hg with ⟨g1, g2⟩ | ⟨g1, g2⟩ <;> first | exact g2 | omega)))
        exact ⟨congrArg (fun z => some (xI z)) (by unfold s_wd; rw [hs1, e]; split <;> omega), rfl⟩
    · refine x_aload_n (x_d C_T_afterWord 8 rfl) rfl ?_
      refine x_getfield (v := xC 3) (x_d C_T_afterWord 9 rfl) f_T_15 rfl rfl ?_
      refine x_aload_n (x_d C_T_afterWord 10 rfl) rfl ?_
      refine x_getfield (v := xC 2) (x_d C_T_afterWord 11 rfl) f_T_9 rfl rfl ?_
      refine x_iload_n (x_d C_T_afterWord 12 rfl) rfl ?_
      refine x_baload (f := A 2) (x_d C_T_afterWord 13 rfl) rfl (by omega) (by omega) ?_
      refine x_sipush (x_d C_T_afterWord 14 rfl) (by omega) ?_
      refine x_iand255 (x_d C_T_afterWord 15 rfl) ?_
      refine x_zaload (f := A 3) (x_d C_T_afterWord 16 rfl) rfl (by omega) (by omega) ?_
      refine x_if_eq (tgt := 38) (x_d C_T_afterWord 17 rfl) rfl (fun c5 => ?_) (fun c5 => ?_)
      · refine x_iload_n (x_d C_T_afterWord 20 rfl) rfl ?_
        refine x_iload_n (x_d C_T_afterWord 21 rfl) rfl ?_
        refine x_icmp_le (tgt := 47) (x_d C_T_afterWord 22 rfl) rfl (fun c6 => ?_) (fun c6 => ?_)
        · refine x_iconst (x_d C_T_afterWord 25 rfl) ⟨by omega, by omega⟩ ?_
          refine x_ireturn (x_d C_T_afterWord 26 rfl) ?_
          have e : s_sc s_reg (A 2) (q 35) t = t := s_sc_stop (by first | exact Or.inl (by omega) | exact Or.inr (Or.inl (by omega)) | exact Or.inr (Or.inr (by rcases hg with ⟨g1, g2⟩ | ⟨g1, g2⟩ <;> first | exact g2 | omega)))
          exact ⟨congrArg (fun z => some (xI z)) (by unfold s_wd; rw [hs1, e]; split <;> omega), rfl⟩
        · refine x_iload_n (x_d C_T_afterWord 23 rfl) rfl ?_
          refine x_goto (tgt := 48) (x_d C_T_afterWord 24 rfl) rfl ?_
          refine x_ireturn (x_d C_T_afterWord 26 rfl) ?_
          have e : s_sc s_reg (A 2) (q 35) t = t := s_sc_stop (by first | exact Or.inl (by omega) | exact Or.inr (Or.inl (by omega)) | exact Or.inr (Or.inr (by rcases hg with ⟨g1, g2⟩ | ⟨g1, g2⟩ <;> first | exact g2 | omega)))
          exact ⟨congrArg (fun z => some (xI z)) (by unfold s_wd; rw [hs1, e]; split <;> omega), rfl⟩
      · refine x_iinc (l1 := [(2, xI (t + 1)), (0, xC 1), (1, xI (i))]) (x_d C_T_afterWord 18 rfl) rfl ⟨by omega, by omega⟩ (by decide) rfl ?_
        refine x_goto (tgt := 2) (x_d C_T_afterWord 19 rfl) rfl ?_
        refine x_locs [1, 2, 0] rfl ?_
        refine ih _ (by omega) _ rfl (by omega) ?_
        rw [hs1, s_sc_step (by omega) (by omega) (by rcases hg with ⟨g1, g2⟩ | ⟨g1, g2⟩ <;> first | exact g2 | omega)]
theorem c_T_afterWord (Z : xZ) (d : Nat) (q : Nat → Int) (r : Nat → Option Nat) (A : Nat → Nat → Int) (dy : xH) (i : Int) (hT : 0 ≤ q 34 ∧ q 34 ≤ q 35 ∧ q 35 ≤ 10248) (hR : s_okR A) : xMet Z d Y_T_afterWord [xC 1, xI i] (hF q r A ++ dy) (fun v h2 => v = some (xI (s_wd (A 2) (q 35) i)) ∧ h2 = hF q r A ++ dy) := by
  refine xMet_of (by decide) (Nat.le_of_ble_eq_true rfl) (fun v h2 hq => by rw [hq.1]; trivial) ?_
  refine x_iload_n (x_d C_T_afterWord 0 rfl) rfl ?_
  refine x_istore_n (l1 := [(2, xI (i)), (0, xC 1), (1, xI (i))]) (x_d C_T_afterWord 1 rfl) (by decide) rfl ?_
  refine x_locs [1, 2, 0] rfl ?_
  exact w_T_afterWord_2 Z d q r A dy i hT hR _ _ rfl (Int.le_refl _) rfl
theorem s_match_drop (b : Nat → Int) {cs : List Int} {k : Nat} (hk : k < cs.length) (i : Nat) : s_match b (cs.drop k) i = (decide (b i = cs.getD k 0) && s_match b (cs.drop (k + 1)) (i + 1)) := by
  have e : cs.drop k = cs.getD k 0 :: cs.drop (k + 1) := by
    rw [List.getD_eq_getElem?_getD, List.getElem?_eq_getElem hk, List.drop_eq_getElem_cons hk]
    rfl
  rw [e]
  rfl
theorem w_T_afterText_24 (Z : xZ) (d : Nat) (q : Nat → Int) (r : Nat → Option Nat) (A : Nat → Nat → Int) (dy : xH) (hd : 4 ≤ d) {i : Nat} {s : String × Nat × String × List Int} (hs : x_strs[i]? = some s) (p : Int) (hT : 0 ≤ q 34 ∧ q 34 ≤ q 35 ∧ q 35 ≤ 10248) (hp : 0 ≤ p ∧ p + s.2.2.2.length ≤ q 35) : ∀ (k : Nat) (t : Int), (s.2.2.2.length - t).toNat = k → (0 ≤ t ∧ t ≤ s.2.2.2.length) → s_match (A 2) s.2.2.2 p.toNat = s_match (A 2) (s.2.2.2.drop t.toNat) (p.toNat + t.toNat) → xW Z d Y_T_afterText 24 [(0, xC 1), (1, xI p), (2, xS (2 * i + 1)), (3, xI s.2.2.2.length), (4, xI t)] [] (hF q r A ++ dy) (fun v h2 => v = some (xI (s_txt (A 2) (q 35) p s.2.2.2)) ∧ h2 = hF q r A ++ dy) := by
  intro k
  induction k using Nat.strongRecOn with
  | ind k ih =>
  intro t hk ht hm
  refine x_iload (x_d C_T_afterText 15 rfl) rfl ?_
  refine x_iload_n (x_d C_T_afterText 16 rfl) rfl ?_
  refine x_icmp_ge (tgt := 56) (x_d C_T_afterText 17 rfl) rfl (fun c1 => ?_) (fun c1 => ?_)
  · refine x_iload_n (x_d C_T_afterText 32 rfl) rfl ?_
    refine x_iload_n (x_d C_T_afterText 33 rfl) rfl ?_
    refine x_iadd (x_d C_T_afterText 34 rfl) ⟨by omega, by omega⟩ ?_
    refine x_ireturn (x_d C_T_afterText 35 rfl) ?_
    refine ⟨congrArg (fun z => some (xI z)) ?_, rfl⟩
    unfold s_txt
    rw [if_pos]
    refine ⟨by omega, by omega, ?_⟩
    rw [hm, List.drop_eq_nil_of_le (by omega)]
    rfl
  · refine x_aload_n (x_d C_T_afterText 18 rfl) rfl ?_
    refine x_getfield (v := xC 2) (x_d C_T_afterText 19 rfl) f_T_9 rfl rfl ?_
    refine x_iload_n (x_d C_T_afterText 20 rfl) rfl ?_
    refine x_iload (x_d C_T_afterText 21 rfl) rfl ?_
    refine x_iadd (x_d C_T_afterText 22 rfl) ⟨by omega, by omega⟩ ?_
    refine x_baload (f := A 2) (x_d C_T_afterText 23 rfl) rfl (by omega) (by omega) ?_
    refine x_aload_n (x_d C_T_afterText 24 rfl) rfl ?_
    refine x_iload (x_d C_T_afterText 25 rfl) rfl ?_
    refine x_invokevirtualS (st := [xI (A 2 (p + t).toNat)]) (av := [xI (t)]) (x_d C_T_afterText 26 rfl) k_T_33 m_S_charAt v_S_charAt rfl hs rfl (Nat.le_of_ble_eq_true rfl) (by omega) rfl (c_S_charAt Z (d - 1) (hF q r A ++ dy) (by omega) hs t (by omega)) ?_
    rintro _ _ ⟨rfl, rfl⟩
    refine x_icmp_eq (tgt := 50) (x_d C_T_afterText 27 rfl) rfl (fun c2 => ?_) (fun c2 => ?_)
    · refine x_iinc (l1 := [(4, xI (t + 1)), (0, xC 1), (1, xI (p)), (2, xS (2 * i + 1)), (3, xI (s.2.2.2.length))]) (x_d C_T_afterText 30 rfl) rfl ⟨by omega, by omega⟩ (by decide) rfl ?_
      refine x_goto (tgt := 24) (x_d C_T_afterText 31 rfl) rfl ?_
      refine x_locs [1, 2, 3, 4, 0] rfl ?_
      refine ih _ (by omega) _ rfl (by omega) ?_
      rw [hm, s_match_drop (A 2) (k := t.toNat) (by omega), decide_eq_true (show A 2 (p.toNat + t.toNat) = _ by rw [show p.toNat + t.toNat = (p + t).toNat by omega]; assumption), Bool.true_and, show (t + 1).toNat = t.toNat + 1 by omega, Nat.add_assoc]
    · refine x_iconst (x_d C_T_afterText 28 rfl) ⟨by omega, by omega⟩ ?_
      refine x_ireturn (x_d C_T_afterText 29 rfl) ?_
      refine ⟨congrArg (fun z => some (xI z)) ?_, rfl⟩
      unfold s_txt
      rw [if_neg]
      intro z
      obtain ⟨z1, z2, z3⟩ := z
      rw [hm, s_match_drop (A 2) (k := t.toNat) (by omega), decide_eq_false (show ¬ A 2 (p.toNat + t.toNat) = _ by rw [show p.toNat + t.toNat = (p + t).toNat by omega]; assumption)] at z3
      cases z3
theorem c_T_afterText (Z : xZ) (d : Nat) (q : Nat → Int) (r : Nat → Option Nat) (A : Nat → Nat → Int) (dy : xH) (hd : 4 ≤ d) {i : Nat} {s : String × Nat × String × List Int} (hs : x_strs[i]? = some s) (p : Int) (hT : 0 ≤ q 34 ∧ q 34 ≤ q 35 ∧ q 35 ≤ 10248) : xMet Z d Y_T_afterText [xC 1, xI p, xS (2 * i + 1)] (hF q r A ++ dy) (fun v h2 => v = some (xI (s_txt (A 2) (q 35) p s.2.2.2)) ∧ h2 = hF q r A ++ dy) := by
  refine xMet_of (by decide) (Nat.le_of_ble_eq_true rfl) (fun v h2 hq => by rw [hq.1]; trivial) ?_
  have hl := x_strs_len hs
  refine xW_ok (fun hol _ _ => ?_)
  have hp : x_i32 p := x_okL_get (i := 1) hol rfl
  obtain ⟨hp1, hp2⟩ := hp
  refine x_aload_n (x_d C_T_afterText 0 rfl) rfl ?_
  refine x_invokevirtualS (st := []) (av := []) (x_d C_T_afterText 1 rfl) k_T_29 m_S_length v_S_length rfl hs rfl (Nat.le_of_ble_eq_true rfl) (by omega) rfl (c_S_length Z (d - 1) (hF q r A ++ dy) (by omega) hs) ?_
  rintro _ _ ⟨rfl, rfl⟩
  refine x_istore_n (l1 := [(3, xI (s.2.2.2.length)), (0, xC 1), (1, xI (p)), (2, xS (2 * i + 1))]) (x_d C_T_afterText 2 rfl) (by decide) rfl ?_
  refine x_iload_n (x_d C_T_afterText 3 rfl) rfl ?_
  refine x_if_lt (tgt := 19) (x_d C_T_afterText 4 rfl) rfl (fun c1 => ?_) (fun c1 => ?_)
  · refine x_iconst (x_d C_T_afterText 11 rfl) ⟨by omega, by omega⟩ ?_
    refine x_ireturn (x_d C_T_afterText 12 rfl) ?_
    exact ⟨congrArg (fun z => some (xI z)) (by unfold s_txt; rw [if_neg]; intro z; omega), rfl⟩
  · refine x_iload_n (x_d C_T_afterText 5 rfl) rfl ?_
    refine x_aload_n (x_d C_T_afterText 6 rfl) rfl ?_
    refine x_getfield (v := xI (q 35)) (x_d C_T_afterText 7 rfl) f_T_41 rfl rfl ?_
    refine x_iload_n (x_d C_T_afterText 8 rfl) rfl ?_
    refine x_isub (x_d C_T_afterText 9 rfl) ⟨by omega, by omega⟩ ?_
    refine x_icmp_le (tgt := 21) (x_d C_T_afterText 10 rfl) rfl (fun c2 => ?_) (fun c2 => ?_)
    · refine x_iconst (x_d C_T_afterText 13 rfl) ⟨by omega, by omega⟩ ?_
      refine x_istore (l1 := [(4, xI (0)), (3, xI (s.2.2.2.length)), (0, xC 1), (1, xI (p)), (2, xS (2 * i + 1))]) (x_d C_T_afterText 14 rfl) (by decide) rfl ?_
      refine x_locs [2, 3, 4, 1, 0] rfl ?_
      exact w_T_afterText_24 Z d q r A dy hd hs p hT (by omega) _ _ rfl (by omega) (by simp)
    · refine x_iconst (x_d C_T_afterText 11 rfl) ⟨by omega, by omega⟩ ?_
      refine x_ireturn (x_d C_T_afterText 12 rfl) ?_
      exact ⟨congrArg (fun z => some (xI z)) (by unfold s_txt; rw [if_neg]; intro z; omega), rfl⟩
theorem s_txt_in (b : Nat → Int) (n p : Int) (cs : List Int) : s_txt b n p cs = -1 ∨ (0 ≤ p ∧ s_txt b n p cs = p + cs.length ∧ p + cs.length ≤ n) := by
  unfold s_txt
  split
  · next h => exact Or.inr ⟨h.1, rfl, h.2.1⟩
  · exact Or.inl rfl
theorem c_T_afterThe (Z : xZ) (d : Nat) (q : Nat → Int) (r : Nat → Option Nat) (A : Nat → Nat → Int) (dy : xH) (hd : 5 ≤ d) {i : Nat} {s : String × Nat × String × List Int} (hs : x_strs[i]? = some s) (p : Int) (hT : 0 ≤ q 34 ∧ q 34 ≤ q 35 ∧ q 35 ≤ 10248) (hR : s_okR A) : xMet Z d Y_T_afterThe [xC 1, xI p, xS (2 * i + 1)] (hF q r A ++ dy) (fun v h2 => v = some (xI (s_the (A 2) (q 35) p s.2.2.2)) ∧ h2 = hF q r A ++ dy) := by
  refine xMet_of (by decide) (Nat.le_of_ble_eq_true rfl) (fun v h2 hq => by rw [hq.1]; trivial) ?_
  have hl := x_strs_len hs
  have hx := s_txt_in (A 2) (q 35) p s.2.2.2
  refine xW_ok (fun _ _ hok => ?_)
  have hb := hF_b2 hok (s_txt (A 2) (q 35) p s.2.2.2).toNat
  have hg := s_okR_at hR hb
  refine x_aload_n (x_d C_T_afterThe 0 rfl) rfl ?_
  refine x_iload_n (x_d C_T_afterThe 1 rfl) rfl ?_
  refine x_aload_n (x_d C_T_afterThe 2 rfl) rfl ?_
  refine x_invokevirtual (st := []) (av := [xI (p), xS (2 * i + 1)]) (x_d C_T_afterThe 3 rfl) k_T_47 m_T_afterText v_T_afterText cl_T rfl rfl (Nat.le_of_ble_eq_true rfl) (by omega) rfl (c_T_afterText Z (d - 1) q r A dy (by omega) hs p hT) ?_
  rintro _ _ ⟨rfl, rfl⟩
  refine x_istore_n (l1 := [(3, xI (s_txt (A 2) (q 35) p s.2.2.2)), (0, xC 1), (1, xI (p)), (2, xS (2 * i + 1))]) (x_d C_T_afterThe 4 rfl) (by decide) rfl ?_
  refine x_iload_n (x_d C_T_afterThe 5 rfl) rfl ?_
  refine x_if_lt (tgt := 41) (x_d C_T_afterThe 6 rfl) rfl (fun c1 => ?_) (fun c1 => ?_)
  · refine x_iload_n (x_d C_T_afterThe 23 rfl) rfl ?_
    refine x_ireturn (x_d C_T_afterThe 24 rfl) ?_
    refine ⟨congrArg (fun z => some (xI z)) ?_, rfl⟩
    unfold s_the
    rcases hg with ⟨g1, g2⟩ | ⟨g1, g2⟩
    · rw [g2, if_neg (fun z => by cases z.2.2)] <;> omega
    · simp only [g2, and_true]
      split <;> omega
  · refine x_iload_n (x_d C_T_afterThe 7 rfl) rfl ?_
    refine x_aload_n (x_d C_T_afterThe 8 rfl) rfl ?_
    refine x_getfield (v := xI (q 35)) (x_d C_T_afterThe 9 rfl) f_T_41 rfl rfl ?_
    refine x_icmp_ge (tgt := 41) (x_d C_T_afterThe 10 rfl) rfl (fun c2 => ?_) (fun c2 => ?_)
    · refine x_iload_n (x_d C_T_afterThe 23 rfl) rfl ?_
      refine x_ireturn (x_d C_T_afterThe 24 rfl) ?_
      refine ⟨congrArg (fun z => some (xI z)) ?_, rfl⟩
      unfold s_the
      rcases hg with ⟨g1, g2⟩ | ⟨g1, g2⟩
      · rw [g2, if_neg (fun z => by cases z.2.2)] <;> omega
      · simp only [g2, and_true]
        split <;> omega
    · refine x_aload_n (x_d C_T_afterThe 11 rfl) rfl ?_
      refine x_getfield (v := xC 3) (x_d C_T_afterThe 12 rfl) f_T_15 rfl rfl ?_
      refine x_aload_n (x_d C_T_afterThe 13 rfl) rfl ?_
      refine x_getfield (v := xC 2) (x_d C_T_afterThe 14 rfl) f_T_9 rfl rfl ?_
      refine x_iload_n (x_d C_T_afterThe 15 rfl) rfl ?_
      refine x_baload (f := A 2) (x_d C_T_afterThe 16 rfl) rfl (by omega) (by omega) ?_
      refine x_sipush (x_d C_T_afterThe 17 rfl) (by omega) ?_
      refine x_iand255 (x_d C_T_afterThe 18 rfl) ?_
      refine x_zaload (f := A 3) (x_d C_T_afterThe 19 rfl) rfl (by omega) (by omega) ?_
      refine x_if_eq (tgt := 41) (x_d C_T_afterThe 20 rfl) rfl (fun c3 => ?_) (fun c3 => ?_)
      · refine x_iload_n (x_d C_T_afterThe 23 rfl) rfl ?_
        refine x_ireturn (x_d C_T_afterThe 24 rfl) ?_
        refine ⟨congrArg (fun z => some (xI z)) ?_, rfl⟩
        unfold s_the
        rcases hg with ⟨g1, g2⟩ | ⟨g1, g2⟩
        · rw [g2, if_neg (fun z => by cases z.2.2)] <;> omega
        · simp only [g2, and_true]
          split <;> omega
      · refine x_iconst (x_d C_T_afterThe 21 rfl) ⟨by omega, by omega⟩ ?_
        refine x_goto (tgt := 42) (x_d C_T_afterThe 22 rfl) rfl ?_
        refine x_ireturn (x_d C_T_afterThe 24 rfl) ?_
        refine ⟨congrArg (fun z => some (xI z)) ?_, rfl⟩
        unfold s_the
        rcases hg with ⟨g1, g2⟩ | ⟨g1, g2⟩
        · rw [g2, if_neg (fun z => by cases z.2.2)] <;> omega
        · simp only [g2, and_true]
          split <;> omega
theorem s_wd_in (b : Nat → Int) (n t : Int) : s_wd b n t = -1 ∨ (t < s_wd b n t ∧ (t ≤ n → s_wd b n t ≤ n) ∧ (0 ≤ t → t < n) ∧ 0 ≤ t) := by
  unfold s_wd
  split
  · next h =>
    right
    refine ⟨h, fun h2 => s_sc_le _ _ h2, fun h0 => ?_, ?_⟩
    · rcases Int.lt_or_le t n with h3 | h3
      · exact h3
      · rw [s_sc_stop (Or.inr (Or.inl h3))] at h
        omega
    · rcases Int.lt_or_le t 0 with h3 | h3
      · rw [s_sc_stop (Or.inl h3)] at h
        omega
      · exact h3
  · exact Or.inl rfl
theorem c_T_afterName (Z : xZ) (d : Nat) (q : Nat → Int) (r : Nat → Option Nat) (A : Nat → Nat → Int) (dy : xH) (hd : 1 ≤ d) (p : Int) (hT : 0 ≤ q 34 ∧ q 34 ≤ q 35 ∧ q 35 ≤ 10248) (hR : s_okR A) (hp : -1 ≤ p ∧ p ≤ 20000) : xMet Z d Y_T_afterName [xC 1, xI p] (hF q r A ++ dy) (fun v h2 => v = some (xI (s_name (A 2) (q 35) p)) ∧ h2 = hF q r A ++ dy) := by
  refine xMet_of (by decide) (Nat.le_of_ble_eq_true rfl) (fun v h2 hq => by rw [hq.1]; trivial) ?_
  have hb := s_byte_in (A 2) (q 35) p
  have hw := s_wd_in (A 2) (q 35) (p + 1)
  refine x_aload_n (x_d C_T_afterName 0 rfl) rfl ?_
  refine x_iload_n (x_d C_T_afterName 1 rfl) rfl ?_
  refine x_invokevirtual (st := []) (av := [xI (p)]) (x_d C_T_afterName 2 rfl) k_T_44 m_T_byteAt v_T_byteAt cl_T rfl rfl (Nat.le_of_ble_eq_true rfl) (by omega) rfl (c_T_byteAt Z (d - 1) q r A dy p hT) ?_
  rintro _ _ ⟨rfl, rfl⟩
  refine x_bipush (x_d C_T_afterName 3 rfl) (by omega) ?_
  refine x_icmp_ne (tgt := 20) (x_d C_T_afterName 4 rfl) rfl (fun c1 => ?_) (fun c1 => ?_)
  · refine x_iconst (x_d C_T_afterName 11 rfl) ⟨by omega, by omega⟩ ?_
    refine x_istore_n (l1 := [(2, xI (-1)), (0, xC 1), (1, xI (p))]) (x_d C_T_afterName 12 rfl) (by decide) rfl ?_
    refine x_iload_n (x_d C_T_afterName 13 rfl) rfl ?_
    refine x_iload_n (x_d C_T_afterName 14 rfl) rfl ?_
    refine x_isub (x_d C_T_afterName 15 rfl) ⟨by omega, by omega⟩ ?_
    refine x_iconst (x_d C_T_afterName 16 rfl) ⟨by omega, by omega⟩ ?_
    refine x_isub (x_d C_T_afterName 17 rfl) ⟨by omega, by omega⟩ ?_
    refine x_bipush (x_d C_T_afterName 18 rfl) (by omega) ?_
    refine x_icmp_gt (tgt := 36) (x_d C_T_afterName 19 rfl) rfl (fun c2 => ?_) (fun c2 => ?_)
    · refine x_iconst (x_d C_T_afterName 22 rfl) ⟨by omega, by omega⟩ ?_
      refine x_ireturn (x_d C_T_afterName 23 rfl) ?_
      exact ⟨congrArg (fun z => some (xI z)) (by unfold s_name; split <;> omega), rfl⟩
    · refine x_iload_n (x_d C_T_afterName 20 rfl) rfl ?_
      refine x_goto (tgt := 37) (x_d C_T_afterName 21 rfl) rfl ?_
      refine x_ireturn (x_d C_T_afterName 23 rfl) ?_
      exact ⟨congrArg (fun z => some (xI z)) (by unfold s_name; split <;> omega), rfl⟩
  · refine x_aload_n (x_d C_T_afterName 5 rfl) rfl ?_
    refine x_iload_n (x_d C_T_afterName 6 rfl) rfl ?_
    refine x_iconst (x_d C_T_afterName 7 rfl) ⟨by omega, by omega⟩ ?_
    refine x_iadd (x_d C_T_afterName 8 rfl) ⟨by omega, by omega⟩ ?_
    refine x_invokevirtual (st := []) (av := [xI (p + 1)]) (x_d C_T_afterName 9 rfl) k_T_51 m_T_afterWord v_T_afterWord cl_T rfl rfl (Nat.le_of_ble_eq_true rfl) (by omega) rfl (c_T_afterWord Z (d - 1) q r A dy (p + 1) hT hR) ?_
    rintro _ _ ⟨rfl, rfl⟩
    refine x_goto (tgt := 21) (x_d C_T_afterName 10 rfl) rfl ?_
    refine x_istore_n (l1 := [(2, xI (s_wd (A 2) (q 35) (p + 1))), (0, xC 1), (1, xI (p))]) (x_d C_T_afterName 12 rfl) (by decide) rfl ?_
    refine x_iload_n (x_d C_T_afterName 13 rfl) rfl ?_
    refine x_iload_n (x_d C_T_afterName 14 rfl) rfl ?_
    refine x_isub (x_d C_T_afterName 15 rfl) ⟨by omega, by omega⟩ ?_
    refine x_iconst (x_d C_T_afterName 16 rfl) ⟨by omega, by omega⟩ ?_
    refine x_isub (x_d C_T_afterName 17 rfl) ⟨by omega, by omega⟩ ?_
    refine x_bipush (x_d C_T_afterName 18 rfl) (by omega) ?_
    refine x_icmp_gt (tgt := 36) (x_d C_T_afterName 19 rfl) rfl (fun c3 => ?_) (fun c3 => ?_)
    · refine x_iconst (x_d C_T_afterName 22 rfl) ⟨by omega, by omega⟩ ?_
      refine x_ireturn (x_d C_T_afterName 23 rfl) ?_
      exact ⟨congrArg (fun z => some (xI z)) (by unfold s_name; split <;> omega), rfl⟩
    · refine x_iload_n (x_d C_T_afterName 20 rfl) rfl ?_
      refine x_goto (tgt := 37) (x_d C_T_afterName 21 rfl) rfl ?_
      refine x_ireturn (x_d C_T_afterName 23 rfl) ?_
      exact ⟨congrArg (fun z => some (xI z)) (by unfold s_name; split <;> omega), rfl⟩
theorem s_pow9 {j : Nat} (h : j ≤ 9) : (10 : Int) ^ j ≤ 1000000000 := by
  match j, h with
  | 0, _ => decide
  | 1, _ => decide
  | 2, _ => decide
  | 3, _ => decide
  | 4, _ => decide
  | 5, _ => decide
  | 6, _ => decide
  | 7, _ => decide
  | 8, _ => decide
  | 9, _ => decide
theorem s_pow8 {j : Nat} (h : j ≤ 8) : (10 : Int) ^ j ≤ 100000000 := by
  match j, h with
  | 0, _ => decide
  | 1, _ => decide
  | 2, _ => decide
  | 3, _ => decide
  | 4, _ => decide
  | 5, _ => decide
  | 6, _ => decide
  | 7, _ => decide
  | 8, _ => decide
theorem w_T_number_4 (Z : xZ) (d : Nat) (q : Nat → Int) (r : Nat → Option Nat) (A : Nat → Nat → Int) (dy : xH) (i : Int) (hT : 0 ≤ q 34 ∧ q 34 ≤ q 35 ∧ q 35 ≤ 10248) (hR : s_okR A) : ∀ (k : Nat) (t v : Int), (q 35 - t).toNat = k → 0 ≤ i → i ≤ t → t ≤ i + 9 → (t ≤ q 35 ∨ t = i) → v = s_dv (A 2) (t - i).toNat i.toNat → s_alld (A 2) (t - i).toNat i.toNat = true → xW Z d Y_T_number 4 [(0, xC 1), (1, xI i), (2, xI t), (3, xI v)] [] (hF q r A ++ dy) (fun v h2 => v = some (xI (s_num (A 2) (q 35) i)) ∧ h2 = hF q r A ++ dy) := by
  intro k
  induction k using Nat.strongRecOn with
  | ind k ih =>
  intro t v hk h0 hit h9 htn hv had
  refine xW_ok (fun hol _ hok => ?_)
  have hb := hF_b2 hok t.toNat
  have hg := s_okR_at hR hb
  have hin := s_dv_in (A 2) (t - i).toNat i.toNat had
  have hpw := s_pow9 (j := (t - i).toNat) (by omega)
  have hp8 : t < i + 9 → (10 : Int) ^ (t - i).toNat ≤ 100000000 := fun h => s_pow8 (by omega)
  refine x_iload_n (x_d C_T_number 4 rfl) rfl ?_
  refine x_if_lt (tgt := 67) (x_d C_T_number 5 rfl) rfl (fun c1 => ?_) (fun c1 => ?_)
  · refine x_iload_n (x_d C_T_number 40 rfl) rfl ?_
    refine x_if_lt (tgt := 101) (x_d C_T_number 41 rfl) rfl (fun c2 => ?_) (fun c2 => ?_)
    · refine x_iconst (x_d C_T_number 58 rfl) ⟨by omega, by omega⟩ ?_
      refine x_istore (l1 := [(4, xI (0)), (0, xC 1), (1, xI (i)), (2, xI (t)), (3, xI (v))]) (x_d C_T_number 59 rfl) (by decide) rfl ?_
      refine x_iload_n (x_d C_T_number 60 rfl) rfl ?_
      refine x_iload_n (x_d C_T_number 61 rfl) rfl ?_
      refine x_icmp_le (tgt := 118) (x_d C_T_number 62 rfl) rfl (fun c3 => ?_) (fun c3 => ?_)
      · refine x_iconst (x_d C_T_number 67 rfl) ⟨by omega, by omega⟩ ?_
        refine x_ireturn (x_d C_T_number 68 rfl) ?_
        refine ⟨congrArg (fun z => some (xI z)) ?_, rfl⟩
        rw [s_num_end h0 hit (by omega) h9 had (by first | exact Or.inl (by omega) | exact Or.inr (Or.inl (by omega)) | exact Or.inr (Or.inr (s_dig_f (by omega))))]
        rcases hg with ⟨g1, g2⟩ | ⟨g1, g2⟩
        · simp only [g2, Bool.false_eq_true, and_false, not_false_eq_true, and_true]
          split <;> omega
        · simp only [g2, and_true]
          split <;> omega
      · refine x_iload (x_d C_T_number 63 rfl) rfl ?_
        refine x_if_ne (tgt := 118) (x_d C_T_number 64 rfl) rfl (fun q => absurd q (by omega)) (fun _ => ?_)
        refine x_iload_n (x_d C_T_number 65 rfl) rfl ?_
        refine x_goto (tgt := 119) (x_d C_T_number 66 rfl) rfl ?_
        refine x_ireturn (x_d C_T_number 68 rfl) ?_
        refine ⟨congrArg (fun z => some (xI z)) ?_, rfl⟩
        rw [s_num_end h0 hit (by omega) h9 had (by first | exact Or.inl (by omega) | exact Or.inr (Or.inl (by omega)) | exact Or.inr (Or.inr (s_dig_f (by omega))))]
        rcases hg with ⟨g1, g2⟩ | ⟨g1, g2⟩
        · simp only [g2, Bool.false_eq_true, and_false, not_false_eq_true, and_true]
          split <;> omega
        · simp only [g2, and_true]
          split <;> omega
    · refine x_iload_n (x_d C_T_number 42 rfl) rfl ?_
      refine x_aload_n (x_d C_T_number 43 rfl) rfl ?_
      refine x_getfield (v := xI (q 35)) (x_d C_T_number 44 rfl) f_T_41 rfl rfl ?_
      refine x_icmp_ge (tgt := 101) (x_d C_T_number 45 rfl) rfl (fun c5 => ?_) (fun c5 => ?_)
      · refine x_iconst (x_d C_T_number 58 rfl) ⟨by omega, by omega⟩ ?_
        refine x_istore (l1 := [(4, xI (0)), (0, xC 1), (1, xI (i)), (2, xI (t)), (3, xI (v))]) (x_d C_T_number 59 rfl) (by decide) rfl ?_
        refine x_iload_n (x_d C_T_number 60 rfl) rfl ?_
        refine x_iload_n (x_d C_T_number 61 rfl) rfl ?_
        refine x_icmp_le (tgt := 118) (x_d C_T_number 62 rfl) rfl (fun c6 => ?_) (fun c6 => ?_)
        · refine x_iconst (x_d C_T_number 67 rfl) ⟨by omega, by omega⟩ ?_
          refine x_ireturn (x_d C_T_number 68 rfl) ?_
          refine ⟨congrArg (fun z => some (xI z)) ?_, rfl⟩
          rw [s_num_end h0 hit (by omega) h9 had (by first | exact Or.inl (by omega) | exact Or.inr (Or.inl (by omega)) | exact Or.inr (Or.inr (s_dig_f (by omega))))]
          rcases hg with ⟨g1, g2⟩ | ⟨g1, g2⟩
          · simp only [g2, Bool.false_eq_true, and_false, not_false_eq_true, and_true]
            split <;> omega
          · simp only [g2, and_true]
            split <;> omega
        · refine x_iload (x_d C_T_number 63 rfl) rfl ?_
          refine x_if_ne (tgt := 118) (x_d C_T_number 64 rfl) rfl (fun q => absurd q (by omega)) (fun _ => ?_)
          refine x_iload_n (x_d C_T_number 65 rfl) rfl ?_
          refine x_goto (tgt := 119) (x_d C_T_number 66 rfl) rfl ?_
          refine x_ireturn (x_d C_T_number 68 rfl) ?_
          refine ⟨congrArg (fun z => some (xI z)) ?_, rfl⟩
          rw [s_num_end h0 hit (by omega) h9 had (by first | exact Or.inl (by omega) | exact Or.inr (Or.inl (by omega)) | exact Or.inr (Or.inr (s_dig_f (by omega))))]
          rcases hg with ⟨g1, g2⟩ | ⟨g1, g2⟩
          · simp only [g2, Bool.false_eq_true, and_false, not_false_eq_true, and_true]
            split <;> omega
          · simp only [g2, and_true]
            split <;> omega
      · refine x_aload_n (x_d C_T_number 46 rfl) rfl ?_
        refine x_getfield (v := xC 3) (x_d C_T_number 47 rfl) f_T_15 rfl rfl ?_
        refine x_aload_n (x_d C_T_number 48 rfl) rfl ?_
        refine x_getfield (v := xC 2) (x_d C_T_number 49 rfl) f_T_9 rfl rfl ?_
        refine x_iload_n (x_d C_T_number 50 rfl) rfl ?_
        refine x_baload (f := A 2) (x_d C_T_number 51 rfl) rfl (by omega) (by omega) ?_
        refine x_sipush (x_d C_T_number 52 rfl) (by omega) ?_
        refine x_iand255 (x_d C_T_number 53 rfl) ?_
        refine x_zaload (f := A 3) (x_d C_T_number 54 rfl) rfl (by omega) (by omega) ?_
        refine x_if_eq (tgt := 101) (x_d C_T_number 55 rfl) rfl (fun c8 => ?_) (fun c8 => ?_)
        · refine x_iconst (x_d C_T_number 58 rfl) ⟨by omega, by omega⟩ ?_
          refine x_istore (l1 := [(4, xI (0)), (0, xC 1), (1, xI (i)), (2, xI (t)), (3, xI (v))]) (x_d C_T_number 59 rfl) (by decide) rfl ?_
          refine x_iload_n (x_d C_T_number 60 rfl) rfl ?_
          refine x_iload_n (x_d C_T_number 61 rfl) rfl ?_
          refine x_icmp_le (tgt := 118) (x_d C_T_number 62 rfl) rfl (fun c9 => ?_) (fun c9 => ?_)
          · refine x_iconst (x_d C_T_number 67 rfl) ⟨by omega, by omega⟩ ?_
            refine x_ireturn (x_d C_T_number 68 rfl) ?_
            refine ⟨congrArg (fun z => some (xI z)) ?_, rfl⟩
            rw [s_num_end h0 hit (by omega) h9 had (by first | exact Or.inl (by omega) | exact Or.inr (Or.inl (by omega)) | exact Or.inr (Or.inr (s_dig_f (by omega))))]
            rcases hg with ⟨g1, g2⟩ | ⟨g1, g2⟩
            · simp only [g2, Bool.false_eq_true, and_false, not_false_eq_true, and_true]
              split <;> omega
            · simp only [g2, and_true]
              split <;> omega
          · refine x_iload (x_d C_T_number 63 rfl) rfl ?_
            refine x_if_ne (tgt := 118) (x_d C_T_number 64 rfl) rfl (fun q => absurd q (by omega)) (fun _ => ?_)
            refine x_iload_n (x_d C_T_number 65 rfl) rfl ?_
            refine x_goto (tgt := 119) (x_d C_T_number 66 rfl) rfl ?_
            refine x_ireturn (x_d C_T_number 68 rfl) ?_
            refine ⟨congrArg (fun z => some (xI z)) ?_, rfl⟩
            rw [s_num_end h0 hit (by omega) h9 had (by first | exact Or.inl (by omega) | exact Or.inr (Or.inl (by omega)) | exact Or.inr (Or.inr (s_dig_f (by omega))))]
            rcases hg with ⟨g1, g2⟩ | ⟨g1, g2⟩
            · simp only [g2, Bool.false_eq_true, and_false, not_false_eq_true, and_true]
              split <;> omega
            · simp only [g2, and_true]
              split <;> omega
        · refine x_iconst (x_d C_T_number 56 rfl) ⟨by omega, by omega⟩ ?_
          refine x_goto (tgt := 102) (x_d C_T_number 57 rfl) rfl ?_
          refine x_istore (l1 := [(4, xI (1)), (0, xC 1), (1, xI (i)), (2, xI (t)), (3, xI (v))]) (x_d C_T_number 59 rfl) (by decide) rfl ?_
          refine x_iload_n (x_d C_T_number 60 rfl) rfl ?_
          refine x_iload_n (x_d C_T_number 61 rfl) rfl ?_
          refine x_icmp_le (tgt := 118) (x_d C_T_number 62 rfl) rfl (fun c11 => ?_) (fun c11 => ?_)
          · refine x_iconst (x_d C_T_number 67 rfl) ⟨by omega, by omega⟩ ?_
            refine x_ireturn (x_d C_T_number 68 rfl) ?_
            refine ⟨congrArg (fun z => some (xI z)) ?_, rfl⟩
            rw [s_num_end h0 hit (by omega) h9 had (by first | exact Or.inl (by omega) | exact Or.inr (Or.inl (by omega)) | exact Or.inr (Or.inr (s_dig_f (by omega))))]
            rcases hg with ⟨g1, g2⟩ | ⟨g1, g2⟩
            · simp only [g2, Bool.false_eq_true, and_false, not_false_eq_true, and_true]
              split <;> omega
            · simp only [g2, and_true]
              split <;> omega
          · refine x_iload (x_d C_T_number 63 rfl) rfl ?_
            refine x_if_ne (tgt := 118) (x_d C_T_number 64 rfl) rfl (fun _ => ?_) (fun q => absurd q (by omega))
            refine x_iconst (x_d C_T_number 67 rfl) ⟨by omega, by omega⟩ ?_
            refine x_ireturn (x_d C_T_number 68 rfl) ?_
            refine ⟨congrArg (fun z => some (xI z)) ?_, rfl⟩
            rw [s_num_end h0 hit (by omega) h9 had (by first | exact Or.inl (by omega) | exact Or.inr (Or.inl (by omega)) | exact Or.inr (Or.inr (s_dig_f (by omega))))]
            rcases hg with ⟨g1, g2⟩ | ⟨g1, g2⟩
            · simp only [g2, Bool.false_eq_true, and_false, not_false_eq_true, and_true]
              split <;> omega
            · simp only [g2, and_true]
              split <;> omega
  · refine x_iload_n (x_d C_T_number 6 rfl) rfl ?_
    refine x_aload_n (x_d C_T_number 7 rfl) rfl ?_
    refine x_getfield (v := xI (q 35)) (x_d C_T_number 8 rfl) f_T_41 rfl rfl ?_
    refine x_icmp_ge (tgt := 67) (x_d C_T_number 9 rfl) rfl (fun c13 => ?_) (fun c13 => ?_)
    · refine x_iload_n (x_d C_T_number 40 rfl) rfl ?_
      refine x_if_lt (tgt := 101) (x_d C_T_number 41 rfl) rfl (fun c14 => ?_) (fun c14 => ?_)
      · refine x_iconst (x_d C_T_number 58 rfl) ⟨by omega, by omega⟩ ?_
        refine x_istore (l1 := [(4, xI (0)), (0, xC 1), (1, xI (i)), (2, xI (t)), (3, xI (v))]) (x_d C_T_number 59 rfl) (by decide) rfl ?_
        refine x_iload_n (x_d C_T_number 60 rfl) rfl ?_
        refine x_iload_n (x_d C_T_number 61 rfl) rfl ?_
        refine x_icmp_le (tgt := 118) (x_d C_T_number 62 rfl) rfl (fun c15 => ?_) (fun c15 => ?_)
        · refine x_iconst (x_d C_T_number 67 rfl) ⟨by omega, by omega⟩ ?_
          refine x_ireturn (x_d C_T_number 68 rfl) ?_
          refine ⟨congrArg (fun z => some (xI z)) ?_, rfl⟩
          rw [s_num_end h0 hit (by omega) h9 had (by first | exact Or.inl (by omega) | exact Or.inr (Or.inl (by omega)) | exact Or.inr (Or.inr (s_dig_f (by omega))))]
          rcases hg with ⟨g1, g2⟩ | ⟨g1, g2⟩
          · simp only [g2, Bool.false_eq_true, and_false, not_false_eq_true, and_true]
            split <;> omega
          · simp only [g2, and_true]
            split <;> omega
        · refine x_iload (x_d C_T_number 63 rfl) rfl ?_
          refine x_if_ne (tgt := 118) (x_d C_T_number 64 rfl) rfl (fun q => absurd q (by omega)) (fun _ => ?_)
          refine x_iload_n (x_d C_T_number 65 rfl) rfl ?_
          refine x_goto (tgt := 119) (x_d C_T_number 66 rfl) rfl ?_
          refine x_ireturn (x_d C_T_number 68 rfl) ?_
          refine ⟨congrArg (fun z => some (xI z)) ?_, rfl⟩
          rw [s_num_end h0 hit (by omega) h9 had (by first | exact Or.inl (by omega) | exact Or.inr (Or.inl (by omega)) | exact Or.inr (Or.inr (s_dig_f (by omega))))]
          rcases hg with ⟨g1, g2⟩ | ⟨g1, g2⟩
          · simp only [g2, Bool.false_eq_true, and_false, not_false_eq_true, and_true]
            split <;> omega
          · simp only [g2, and_true]
            split <;> omega
      · refine x_iload_n (x_d C_T_number 42 rfl) rfl ?_
        refine x_aload_n (x_d C_T_number 43 rfl) rfl ?_
        refine x_getfield (v := xI (q 35)) (x_d C_T_number 44 rfl) f_T_41 rfl rfl ?_
        refine x_icmp_ge (tgt := 101) (x_d C_T_number 45 rfl) rfl (fun c17 => ?_) (fun c17 => ?_)
        · refine x_iconst (x_d C_T_number 58 rfl) ⟨by omega, by omega⟩ ?_
          refine x_istore (l1 := [(4, xI (0)), (0, xC 1), (1, xI (i)), (2, xI (t)), (3, xI (v))]) (x_d C_T_number 59 rfl) (by decide) rfl ?_
          refine x_iload_n (x_d C_T_number 60 rfl) rfl ?_
          refine x_iload_n (x_d C_T_number 61 rfl) rfl ?_
          refine x_icmp_le (tgt := 118) (x_d C_T_number 62 rfl) rfl (fun c18 => ?_) (fun c18 => ?_)
          · refine x_iconst (x_d C_T_number 67 rfl) ⟨by omega, by omega⟩ ?_
            refine x_ireturn (x_d C_T_number 68 rfl) ?_
            refine ⟨congrArg (fun z => some (xI z)) ?_, rfl⟩
            rw [s_num_end h0 hit (by omega) h9 had (by first | exact Or.inl (by omega) | exact Or.inr (Or.inl (by omega)) | exact Or.inr (Or.inr (s_dig_f (by omega))))]
            rcases hg with ⟨g1, g2⟩ | ⟨g1, g2⟩
            · simp only [g2, Bool.false_eq_true, and_false, not_false_eq_true, and_true]
              split <;> omega
            · simp only [g2, and_true]
              split <;> omega
          · refine x_iload (x_d C_T_number 63 rfl) rfl ?_
            refine x_if_ne (tgt := 118) (x_d C_T_number 64 rfl) rfl (fun q => absurd q (by omega)) (fun _ => ?_)
            refine x_iload_n (x_d C_T_number 65 rfl) rfl ?_
            refine x_goto (tgt := 119) (x_d C_T_number 66 rfl) rfl ?_
            refine x_ireturn (x_d C_T_number 68 rfl) ?_
            refine ⟨congrArg (fun z => some (xI z)) ?_, rfl⟩
            rw [s_num_end h0 hit (by omega) h9 had (by first | exact Or.inl (by omega) | exact Or.inr (Or.inl (by omega)) | exact Or.inr (Or.inr (s_dig_f (by omega))))]
            rcases hg with ⟨g1, g2⟩ | ⟨g1, g2⟩
            · simp only [g2, Bool.false_eq_true, and_false, not_false_eq_true, and_true]
              split <;> omega
            · simp only [g2, and_true]
              split <;> omega
        · refine x_aload_n (x_d C_T_number 46 rfl) rfl ?_
          refine x_getfield (v := xC 3) (x_d C_T_number 47 rfl) f_T_15 rfl rfl ?_
          refine x_aload_n (x_d C_T_number 48 rfl) rfl ?_
          refine x_getfield (v := xC 2) (x_d C_T_number 49 rfl) f_T_9 rfl rfl ?_
          refine x_iload_n (x_d C_T_number 50 rfl) rfl ?_
          refine x_baload (f := A 2) (x_d C_T_number 51 rfl) rfl (by omega) (by omega) ?_
          refine x_sipush (x_d C_T_number 52 rfl) (by omega) ?_
          refine x_iand255 (x_d C_T_number 53 rfl) ?_
          refine x_zaload (f := A 3) (x_d C_T_number 54 rfl) rfl (by omega) (by omega) ?_
          refine x_if_eq (tgt := 101) (x_d C_T_number 55 rfl) rfl (fun c20 => ?_) (fun c20 => ?_)
          · refine x_iconst (x_d C_T_number 58 rfl) ⟨by omega, by omega⟩ ?_
            refine x_istore (l1 := [(4, xI (0)), (0, xC 1), (1, xI (i)), (2, xI (t)), (3, xI (v))]) (x_d C_T_number 59 rfl) (by decide) rfl ?_
            refine x_iload_n (x_d C_T_number 60 rfl) rfl ?_
            refine x_iload_n (x_d C_T_number 61 rfl) rfl ?_
            refine x_icmp_le (tgt := 118) (x_d C_T_number 62 rfl) rfl (fun c21 => ?_) (fun c21 => ?_)
            · refine x_iconst (x_d C_T_number 67 rfl) ⟨by omega, by omega⟩ ?_
              refine x_ireturn (x_d C_T_number 68 rfl) ?_
              refine ⟨congrArg (fun z => some (xI z)) ?_, rfl⟩
              rw [s_num_end h0 hit (by omega) h9 had (by first | exact Or.inl (by omega) | exact Or.inr (Or.inl (by omega)) | exact Or.inr (Or.inr (s_dig_f (by omega))))]
              rcases hg with ⟨g1, g2⟩ | ⟨g1, g2⟩
              · simp only [g2, Bool.false_eq_true, and_false, not_false_eq_true, and_true]
                split <;> omega
              · simp only [g2, and_true]
                split <;> omega
            · refine x_iload (x_d C_T_number 63 rfl) rfl ?_
              refine x_if_ne (tgt := 118) (x_d C_T_number 64 rfl) rfl (fun q => absurd q (by omega)) (fun _ => ?_)
              refine x_iload_n (x_d C_T_number 65 rfl) rfl ?_
              refine x_goto (tgt := 119) (x_d C_T_number 66 rfl) rfl ?_
              refine x_ireturn (x_d C_T_number 68 rfl) ?_
              refine ⟨congrArg (fun z => some (xI z)) ?_, rfl⟩
              rw [s_num_end h0 hit (by omega) h9 had (by first | exact Or.inl (by omega) | exact Or.inr (Or.inl (by omega)) | exact Or.inr (Or.inr (s_dig_f (by omega))))]
              rcases hg with ⟨g1, g2⟩ | ⟨g1, g2⟩
              · simp only [g2, Bool.false_eq_true, and_false, not_false_eq_true, and_true]
                split <;> omega
              · simp only [g2, and_true]
                split <;> omega
          · refine x_iconst (x_d C_T_number 56 rfl) ⟨by omega, by omega⟩ ?_
            refine x_goto (tgt := 102) (x_d C_T_number 57 rfl) rfl ?_
            refine x_istore (l1 := [(4, xI (1)), (0, xC 1), (1, xI (i)), (2, xI (t)), (3, xI (v))]) (x_d C_T_number 59 rfl) (by decide) rfl ?_
            refine x_iload_n (x_d C_T_number 60 rfl) rfl ?_
            refine x_iload_n (x_d C_T_number 61 rfl) rfl ?_
            refine x_icmp_le (tgt := 118) (x_d C_T_number 62 rfl) rfl (fun c23 => ?_) (fun c23 => ?_)
            · refine x_iconst (x_d C_T_number 67 rfl) ⟨by omega, by omega⟩ ?_
              refine x_ireturn (x_d C_T_number 68 rfl) ?_
              refine ⟨congrArg (fun z => some (xI z)) ?_, rfl⟩
              rw [s_num_end h0 hit (by omega) h9 had (by first | exact Or.inl (by omega) | exact Or.inr (Or.inl (by omega)) | exact Or.inr (Or.inr (s_dig_f (by omega))))]
              rcases hg with ⟨g1, g2⟩ | ⟨g1, g2⟩
              · simp only [g2, Bool.false_eq_true, and_false, not_false_eq_true, and_true]
                split <;> omega
              · simp only [g2, and_true]
                split <;> omega
            · refine x_iload (x_d C_T_number 63 rfl) rfl ?_
              refine x_if_ne (tgt := 118) (x_d C_T_number 64 rfl) rfl (fun _ => ?_) (fun q => absurd q (by omega))
              refine x_iconst (x_d C_T_number 67 rfl) ⟨by omega, by omega⟩ ?_
              refine x_ireturn (x_d C_T_number 68 rfl) ?_
              refine ⟨congrArg (fun z => some (xI z)) ?_, rfl⟩
              rw [s_num_end h0 hit (by omega) h9 had (by first | exact Or.inl (by omega) | exact Or.inr (Or.inl (by omega)) | exact Or.inr (Or.inr (s_dig_f (by omega))))]
              rcases hg with ⟨g1, g2⟩ | ⟨g1, g2⟩
              · simp only [g2, Bool.false_eq_true, and_false, not_false_eq_true, and_true]
                split <;> omega
              · simp only [g2, and_true]
                split <;> omega
    · refine x_iload_n (x_d C_T_number 10 rfl) rfl ?_
      refine x_iload_n (x_d C_T_number 11 rfl) rfl ?_
      refine x_isub (x_d C_T_number 12 rfl) ⟨by omega, by omega⟩ ?_
      refine x_bipush (x_d C_T_number 13 rfl) (by omega) ?_
      refine x_icmp_ge (tgt := 67) (x_d C_T_number 14 rfl) rfl (fun c25 => ?_) (fun c25 => ?_)
      · refine x_iload_n (x_d C_T_number 40 rfl) rfl ?_
        refine x_if_lt (tgt := 101) (x_d C_T_number 41 rfl) rfl (fun c26 => ?_) (fun c26 => ?_)
        · refine x_iconst (x_d C_T_number 58 rfl) ⟨by omega, by omega⟩ ?_
          refine x_istore (l1 := [(4, xI (0)), (0, xC 1), (1, xI (i)), (2, xI (t)), (3, xI (v))]) (x_d C_T_number 59 rfl) (by decide) rfl ?_
          refine x_iload_n (x_d C_T_number 60 rfl) rfl ?_
          refine x_iload_n (x_d C_T_number 61 rfl) rfl ?_
          refine x_icmp_le (tgt := 118) (x_d C_T_number 62 rfl) rfl (fun c27 => ?_) (fun c27 => ?_)
          · refine x_iconst (x_d C_T_number 67 rfl) ⟨by omega, by omega⟩ ?_
            refine x_ireturn (x_d C_T_number 68 rfl) ?_
            refine ⟨congrArg (fun z => some (xI z)) ?_, rfl⟩
            rw [s_num_end h0 hit (by omega) h9 had (by first | exact Or.inl (by omega) | exact Or.inr (Or.inl (by omega)) | exact Or.inr (Or.inr (s_dig_f (by omega))))]
            rcases hg with ⟨g1, g2⟩ | ⟨g1, g2⟩
            · simp only [g2, Bool.false_eq_true, and_false, not_false_eq_true, and_true]
              split <;> omega
            · simp only [g2, and_true]
              split <;> omega
          · refine x_iload (x_d C_T_number 63 rfl) rfl ?_
            refine x_if_ne (tgt := 118) (x_d C_T_number 64 rfl) rfl (fun q => absurd q (by omega)) (fun _ => ?_)
            refine x_iload_n (x_d C_T_number 65 rfl) rfl ?_
            refine x_goto (tgt := 119) (x_d C_T_number 66 rfl) rfl ?_
            refine x_ireturn (x_d C_T_number 68 rfl) ?_
            refine ⟨congrArg (fun z => some (xI z)) ?_, rfl⟩
            rw [s_num_end h0 hit (by omega) h9 had (by first | exact Or.inl (by omega) | exact Or.inr (Or.inl (by omega)) | exact Or.inr (Or.inr (s_dig_f (by omega))))]
            rcases hg with ⟨g1, g2⟩ | ⟨g1, g2⟩
            · simp only [g2, Bool.false_eq_true, and_false, not_false_eq_true, and_true]
              split <;> omega
            · simp only [g2, and_true]
              split <;> omega
        · refine x_iload_n (x_d C_T_number 42 rfl) rfl ?_
          refine x_aload_n (x_d C_T_number 43 rfl) rfl ?_
          refine x_getfield (v := xI (q 35)) (x_d C_T_number 44 rfl) f_T_41 rfl rfl ?_
          refine x_icmp_ge (tgt := 101) (x_d C_T_number 45 rfl) rfl (fun c29 => ?_) (fun c29 => ?_)
          · refine x_iconst (x_d C_T_number 58 rfl) ⟨by omega, by omega⟩ ?_
            refine x_istore (l1 := [(4, xI (0)), (0, xC 1), (1, xI (i)), (2, xI (t)), (3, xI (v))]) (x_d C_T_number 59 rfl) (by decide) rfl ?_
            refine x_iload_n (x_d C_T_number 60 rfl) rfl ?_
            refine x_iload_n (x_d C_T_number 61 rfl) rfl ?_
            refine x_icmp_le (tgt := 118) (x_d C_T_number 62 rfl) rfl (fun c30 => ?_) (fun c30 => ?_)
            · refine x_iconst (x_d C_T_number 67 rfl) ⟨by omega, by omega⟩ ?_
              refine x_ireturn (x_d C_T_number 68 rfl) ?_
              refine ⟨congrArg (fun z => some (xI z)) ?_, rfl⟩
              rw [s_num_end h0 hit (by omega) h9 had (by first | exact Or.inl (by omega) | exact Or.inr (Or.inl (by omega)) | exact Or.inr (Or.inr (s_dig_f (by omega))))]
              rcases hg with ⟨g1, g2⟩ | ⟨g1, g2⟩
              · simp only [g2, Bool.false_eq_true, and_false, not_false_eq_true, and_true]
                split <;> omega
              · simp only [g2, and_true]
                split <;> omega
            · refine x_iload (x_d C_T_number 63 rfl) rfl ?_
              refine x_if_ne (tgt := 118) (x_d C_T_number 64 rfl) rfl (fun q => absurd q (by omega)) (fun _ => ?_)
              refine x_iload_n (x_d C_T_number 65 rfl) rfl ?_
              refine x_goto (tgt := 119) (x_d C_T_number 66 rfl) rfl ?_
              refine x_ireturn (x_d C_T_number 68 rfl) ?_
              refine ⟨congrArg (fun z => some (xI z)) ?_, rfl⟩
              rw [s_num_end h0 hit (by omega) h9 had (by first | exact Or.inl (by omega) | exact Or.inr (Or.inl (by omega)) | exact Or.inr (Or.inr (s_dig_f (by omega))))]
              rcases hg with ⟨g1, g2⟩ | ⟨g1, g2⟩
              · simp only [g2, Bool.false_eq_true, and_false, not_false_eq_true, and_true]
                split <;> omega
              · simp only [g2, and_true]
                split <;> omega
          · refine x_aload_n (x_d C_T_number 46 rfl) rfl ?_
            refine x_getfield (v := xC 3) (x_d C_T_number 47 rfl) f_T_15 rfl rfl ?_
            refine x_aload_n (x_d C_T_number 48 rfl) rfl ?_
            refine x_getfield (v := xC 2) (x_d C_T_number 49 rfl) f_T_9 rfl rfl ?_
            refine x_iload_n (x_d C_T_number 50 rfl) rfl ?_
            refine x_baload (f := A 2) (x_d C_T_number 51 rfl) rfl (by omega) (by omega) ?_
            refine x_sipush (x_d C_T_number 52 rfl) (by omega) ?_
            refine x_iand255 (x_d C_T_number 53 rfl) ?_
            refine x_zaload (f := A 3) (x_d C_T_number 54 rfl) rfl (by omega) (by omega) ?_
            refine x_if_eq (tgt := 101) (x_d C_T_number 55 rfl) rfl (fun c32 => ?_) (fun c32 => ?_)
            · refine x_iconst (x_d C_T_number 58 rfl) ⟨by omega, by omega⟩ ?_
              refine x_istore (l1 := [(4, xI (0)), (0, xC 1), (1, xI (i)), (2, xI (t)), (3, xI (v))]) (x_d C_T_number 59 rfl) (by decide) rfl ?_
              refine x_iload_n (x_d C_T_number 60 rfl) rfl ?_
              refine x_iload_n (x_d C_T_number 61 rfl) rfl ?_
              refine x_icmp_le (tgt := 118) (x_d C_T_number 62 rfl) rfl (fun c33 => ?_) (fun c33 => ?_)
              · refine x_iconst (x_d C_T_number 67 rfl) ⟨by omega, by omega⟩ ?_
                refine x_ireturn (x_d C_T_number 68 rfl) ?_
                refine ⟨congrArg (fun z => some (xI z)) ?_, rfl⟩
                rw [s_num_end h0 hit (by omega) h9 had (by first | exact Or.inl (by omega) | exact Or.inr (Or.inl (by omega)) | exact Or.inr (Or.inr (s_dig_f (by omega))))]
                rcases hg with ⟨g1, g2⟩ | ⟨g1, g2⟩
                · simp only [g2, Bool.false_eq_true, and_false, not_false_eq_true, and_true]
                  split <;> omega
                · simp only [g2, and_true]
                  split <;> omega
              · refine x_iload (x_d C_T_number 63 rfl) rfl ?_
                refine x_if_ne (tgt := 118) (x_d C_T_number 64 rfl) rfl (fun q => absurd q (by omega)) (fun _ => ?_)
                refine x_iload_n (x_d C_T_number 65 rfl) rfl ?_
                refine x_goto (tgt := 119) (x_d C_T_number 66 rfl) rfl ?_
                refine x_ireturn (x_d C_T_number 68 rfl) ?_
                refine ⟨congrArg (fun z => some (xI z)) ?_, rfl⟩
                rw [s_num_end h0 hit (by omega) h9 had (by first | exact Or.inl (by omega) | exact Or.inr (Or.inl (by omega)) | exact Or.inr (Or.inr (s_dig_f (by omega))))]
                rcases hg with ⟨g1, g2⟩ | ⟨g1, g2⟩
                · simp only [g2, Bool.false_eq_true, and_false, not_false_eq_true, and_true]
                  split <;> omega
                · simp only [g2, and_true]
                  split <;> omega
            · refine x_iconst (x_d C_T_number 56 rfl) ⟨by omega, by omega⟩ ?_
              refine x_goto (tgt := 102) (x_d C_T_number 57 rfl) rfl ?_
              refine x_istore (l1 := [(4, xI (1)), (0, xC 1), (1, xI (i)), (2, xI (t)), (3, xI (v))]) (x_d C_T_number 59 rfl) (by decide) rfl ?_
              refine x_iload_n (x_d C_T_number 60 rfl) rfl ?_
              refine x_iload_n (x_d C_T_number 61 rfl) rfl ?_
              refine x_icmp_le (tgt := 118) (x_d C_T_number 62 rfl) rfl (fun c35 => ?_) (fun c35 => ?_)
              · refine x_iconst (x_d C_T_number 67 rfl) ⟨by omega, by omega⟩ ?_
                refine x_ireturn (x_d C_T_number 68 rfl) ?_
                refine ⟨congrArg (fun z => some (xI z)) ?_, rfl⟩
                rw [s_num_end h0 hit (by omega) h9 had (by first | exact Or.inl (by omega) | exact Or.inr (Or.inl (by omega)) | exact Or.inr (Or.inr (s_dig_f (by omega))))]
                rcases hg with ⟨g1, g2⟩ | ⟨g1, g2⟩
                · simp only [g2, Bool.false_eq_true, and_false, not_false_eq_true, and_true]
                  split <;> omega
                · simp only [g2, and_true]
                  split <;> omega
              · refine x_iload (x_d C_T_number 63 rfl) rfl ?_
                refine x_if_ne (tgt := 118) (x_d C_T_number 64 rfl) rfl (fun _ => ?_) (fun q => absurd q (by omega))
                refine x_iconst (x_d C_T_number 67 rfl) ⟨by omega, by omega⟩ ?_
                refine x_ireturn (x_d C_T_number 68 rfl) ?_
                refine ⟨congrArg (fun z => some (xI z)) ?_, rfl⟩
                rw [s_num_end h0 hit (by omega) h9 had (by first | exact Or.inl (by omega) | exact Or.inr (Or.inl (by omega)) | exact Or.inr (Or.inr (s_dig_f (by omega))))]
                rcases hg with ⟨g1, g2⟩ | ⟨g1, g2⟩
                · simp only [g2, Bool.false_eq_true, and_false, not_false_eq_true, and_true]
                  split <;> omega
                · simp only [g2, and_true]
                  split <;> omega
      · refine x_aload_n (x_d C_T_number 15 rfl) rfl ?_
        refine x_getfield (v := xC 2) (x_d C_T_number 16 rfl) f_T_9 rfl rfl ?_
        refine x_iload_n (x_d C_T_number 17 rfl) rfl ?_
        refine x_baload (f := A 2) (x_d C_T_number 18 rfl) rfl (by omega) (by omega) ?_
        refine x_bipush (x_d C_T_number 19 rfl) (by omega) ?_
        refine x_icmp_lt (tgt := 67) (x_d C_T_number 20 rfl) rfl (fun c37 => ?_) (fun c37 => ?_)
        · refine x_iload_n (x_d C_T_number 40 rfl) rfl ?_
          refine x_if_lt (tgt := 101) (x_d C_T_number 41 rfl) rfl (fun c38 => ?_) (fun c38 => ?_)
          · refine x_iconst (x_d C_T_number 58 rfl) ⟨by omega, by omega⟩ ?_
            refine x_istore (l1 := [(4, xI (0)), (0, xC 1), (1, xI (i)), (2, xI (t)), (3, xI (v))]) (x_d C_T_number 59 rfl) (by decide) rfl ?_
            refine x_iload_n (x_d C_T_number 60 rfl) rfl ?_
            refine x_iload_n (x_d C_T_number 61 rfl) rfl ?_
            refine x_icmp_le (tgt := 118) (x_d C_T_number 62 rfl) rfl (fun c39 => ?_) (fun c39 => ?_)
            · refine x_iconst (x_d C_T_number 67 rfl) ⟨by omega, by omega⟩ ?_
              refine x_ireturn (x_d C_T_number 68 rfl) ?_
              refine ⟨congrArg (fun z => some (xI z)) ?_, rfl⟩
              rw [s_num_end h0 hit (by omega) h9 had (by first | exact Or.inl (by omega) | exact Or.inr (Or.inl (by omega)) | exact Or.inr (Or.inr (s_dig_f (by omega))))]
              rcases hg with ⟨g1, g2⟩ | ⟨g1, g2⟩
              · simp only [g2, Bool.false_eq_true, and_false, not_false_eq_true, and_true]
                split <;> omega
              · simp only [g2, and_true]
                split <;> omega
            · refine x_iload (x_d C_T_number 63 rfl) rfl ?_
              refine x_if_ne (tgt := 118) (x_d C_T_number 64 rfl) rfl (fun q => absurd q (by omega)) (fun _ => ?_)
              refine x_iload_n (x_d C_T_number 65 rfl) rfl ?_
              refine x_goto (tgt := 119) (x_d C_T_number 66 rfl) rfl ?_
              refine x_ireturn (x_d C_T_number 68 rfl) ?_
              refine ⟨congrArg (fun z => some (xI z)) ?_, rfl⟩
              rw [s_num_end h0 hit (by omega) h9 had (by first | exact Or.inl (by omega) | exact Or.inr (Or.inl (by omega)) | exact Or.inr (Or.inr (s_dig_f (by omega))))]
              rcases hg with ⟨g1, g2⟩ | ⟨g1, g2⟩
              · simp only [g2, Bool.false_eq_true, and_false, not_false_eq_true, and_true]
                split <;> omega
              · simp only [g2, and_true]
                split <;> omega
          · refine x_iload_n (x_d C_T_number 42 rfl) rfl ?_
            refine x_aload_n (x_d C_T_number 43 rfl) rfl ?_
            refine x_getfield (v := xI (q 35)) (x_d C_T_number 44 rfl) f_T_41 rfl rfl ?_
            refine x_icmp_ge (tgt := 101) (x_d C_T_number 45 rfl) rfl (fun c41 => ?_) (fun c41 => ?_)
            · refine x_iconst (x_d C_T_number 58 rfl) ⟨by omega, by omega⟩ ?_
              refine x_istore (l1 := [(4, xI (0)), (0, xC 1), (1, xI (i)), (2, xI (t)), (3, xI (v))]) (x_d C_T_number 59 rfl) (by decide) rfl ?_
              refine x_iload_n (x_d C_T_number 60 rfl) rfl ?_
              refine x_iload_n (x_d C_T_number 61 rfl) rfl ?_
              refine x_icmp_le (tgt := 118) (x_d C_T_number 62 rfl) rfl (fun c42 => ?_) (fun c42 => ?_)
              · refine x_iconst (x_d C_T_number 67 rfl) ⟨by omega, by omega⟩ ?_
                refine x_ireturn (x_d C_T_number 68 rfl) ?_
                refine ⟨congrArg (fun z => some (xI z)) ?_, rfl⟩
                rw [s_num_end h0 hit (by omega) h9 had (by first | exact Or.inl (by omega) | exact Or.inr (Or.inl (by omega)) | exact Or.inr (Or.inr (s_dig_f (by omega))))]
                rcases hg with ⟨g1, g2⟩ | ⟨g1, g2⟩
                · simp only [g2, Bool.false_eq_true, and_false, not_false_eq_true, and_true]
                  split <;> omega
                · simp only [g2, and_true]
                  split <;> omega
              · refine x_iload (x_d C_T_number 63 rfl) rfl ?_
                refine x_if_ne (tgt := 118) (x_d C_T_number 64 rfl) rfl (fun q => absurd q (by omega)) (fun _ => ?_)
                refine x_iload_n (x_d C_T_number 65 rfl) rfl ?_
                refine x_goto (tgt := 119) (x_d C_T_number 66 rfl) rfl ?_
                refine x_ireturn (x_d C_T_number 68 rfl) ?_
                refine ⟨congrArg (fun z => some (xI z)) ?_, rfl⟩
                rw [s_num_end h0 hit (by omega) h9 had (by first | exact Or.inl (by omega) | exact Or.inr (Or.inl (by omega)) | exact Or.inr (Or.inr (s_dig_f (by omega))))]
                rcases hg with ⟨g1, g2⟩ | ⟨g1, g2⟩
                · simp only [g2, Bool.false_eq_true, and_false, not_false_eq_true, and_true]
                  split <;> omega
                · simp only [g2, and_true]
                  split <;> omega
            · refine x_aload_n (x_d C_T_number 46 rfl) rfl ?_
              refine x_getfield (v := xC 3) (x_d C_T_number 47 rfl) f_T_15 rfl rfl ?_
              refine x_aload_n (x_d C_T_number 48 rfl) rfl ?_
              refine x_getfield (v := xC 2) (x_d C_T_number 49 rfl) f_T_9 rfl rfl ?_
              refine x_iload_n (x_d C_T_number 50 rfl) rfl ?_
              refine x_baload (f := A 2) (x_d C_T_number 51 rfl) rfl (by omega) (by omega) ?_
              refine x_sipush (x_d C_T_number 52 rfl) (by omega) ?_
              refine x_iand255 (x_d C_T_number 53 rfl) ?_
              refine x_zaload (f := A 3) (x_d C_T_number 54 rfl) rfl (by omega) (by omega) ?_
              refine x_if_eq (tgt := 101) (x_d C_T_number 55 rfl) rfl (fun c44 => ?_) (fun c44 => ?_)
              · refine x_iconst (x_d C_T_number 58 rfl) ⟨by omega, by omega⟩ ?_
                refine x_istore (l1 := [(4, xI (0)), (0, xC 1), (1, xI (i)), (2, xI (t)), (3, xI (v))]) (x_d C_T_number 59 rfl) (by decide) rfl ?_
                refine x_iload_n (x_d C_T_number 60 rfl) rfl ?_
                refine x_iload_n (x_d C_T_number 61 rfl) rfl ?_
                refine x_icmp_le (tgt := 118) (x_d C_T_number 62 rfl) rfl (fun c45 => ?_) (fun c45 => ?_)
                · refine x_iconst (x_d C_T_number 67 rfl) ⟨by omega, by omega⟩ ?_
                  refine x_ireturn (x_d C_T_number 68 rfl) ?_
                  refine ⟨congrArg (fun z => some (xI z)) ?_, rfl⟩
                  rw [s_num_end h0 hit (by omega) h9 had (by first | exact Or.inl (by omega) | exact Or.inr (Or.inl (by omega)) | exact Or.inr (Or.inr (s_dig_f (by omega))))]
                  rcases hg with ⟨g1, g2⟩ | ⟨g1, g2⟩
                  · simp only [g2, Bool.false_eq_true, and_false, not_false_eq_true, and_true]
                    split <;> omega
                  · simp only [g2, and_true]
                    split <;> omega
                · refine x_iload (x_d C_T_number 63 rfl) rfl ?_
                  refine x_if_ne (tgt := 118) (x_d C_T_number 64 rfl) rfl (fun q => absurd q (by omega)) (fun _ => ?_)
                  refine x_iload_n (x_d C_T_number 65 rfl) rfl ?_
                  refine x_goto (tgt := 119) (x_d C_T_number 66 rfl) rfl ?_
                  refine x_ireturn (x_d C_T_number 68 rfl) ?_
                  refine ⟨congrArg (fun z => some (xI z)) ?_, rfl⟩
                  rw [s_num_end h0 hit (by omega) h9 had (by first | exact Or.inl (by omega) | exact Or.inr (Or.inl (by omega)) | exact Or.inr (Or.inr (s_dig_f (by omega))))]
                  rcases hg with ⟨g1, g2⟩ | ⟨g1, g2⟩
                  · simp only [g2, Bool.false_eq_true, and_false, not_false_eq_true, and_true]
                    split <;> omega
                  · simp only [g2, and_true]
                    split <;> omega
              · refine x_iconst (x_d C_T_number 56 rfl) ⟨by omega, by omega⟩ ?_
                refine x_goto (tgt := 102) (x_d C_T_number 57 rfl) rfl ?_
                refine x_istore (l1 := [(4, xI (1)), (0, xC 1), (1, xI (i)), (2, xI (t)), (3, xI (v))]) (x_d C_T_number 59 rfl) (by decide) rfl ?_
                refine x_iload_n (x_d C_T_number 60 rfl) rfl ?_
                refine x_iload_n (x_d C_T_number 61 rfl) rfl ?_
                refine x_icmp_le (tgt := 118) (x_d C_T_number 62 rfl) rfl (fun c47 => ?_) (fun c47 => ?_)
                · refine x_iconst (x_d C_T_number 67 rfl) ⟨by omega, by omega⟩ ?_
                  refine x_ireturn (x_d C_T_number 68 rfl) ?_
                  refine ⟨congrArg (fun z => some (xI z)) ?_, rfl⟩
                  rw [s_num_end h0 hit (by omega) h9 had (by first | exact Or.inl (by omega) | exact Or.inr (Or.inl (by omega)) | exact Or.inr (Or.inr (s_dig_f (by omega))))]
                  rcases hg with ⟨g1, g2⟩ | ⟨g1, g2⟩
                  · simp only [g2, Bool.false_eq_true, and_false, not_false_eq_true, and_true]
                    split <;> omega
                  · simp only [g2, and_true]
                    split <;> omega
                · refine x_iload (x_d C_T_number 63 rfl) rfl ?_
                  refine x_if_ne (tgt := 118) (x_d C_T_number 64 rfl) rfl (fun _ => ?_) (fun q => absurd q (by omega))
                  refine x_iconst (x_d C_T_number 67 rfl) ⟨by omega, by omega⟩ ?_
                  refine x_ireturn (x_d C_T_number 68 rfl) ?_
                  refine ⟨congrArg (fun z => some (xI z)) ?_, rfl⟩
                  rw [s_num_end h0 hit (by omega) h9 had (by first | exact Or.inl (by omega) | exact Or.inr (Or.inl (by omega)) | exact Or.inr (Or.inr (s_dig_f (by omega))))]
                  rcases hg with ⟨g1, g2⟩ | ⟨g1, g2⟩
                  · simp only [g2, Bool.false_eq_true, and_false, not_false_eq_true, and_true]
                    split <;> omega
                  · simp only [g2, and_true]
                    split <;> omega
        · refine x_aload_n (x_d C_T_number 21 rfl) rfl ?_
          refine x_getfield (v := xC 2) (x_d C_T_number 22 rfl) f_T_9 rfl rfl ?_
          refine x_iload_n (x_d C_T_number 23 rfl) rfl ?_
          refine x_baload (f := A 2) (x_d C_T_number 24 rfl) rfl (by omega) (by omega) ?_
          refine x_bipush (x_d C_T_number 25 rfl) (by omega) ?_
          refine x_icmp_gt (tgt := 67) (x_d C_T_number 26 rfl) rfl (fun c49 => ?_) (fun c49 => ?_)
          · refine x_iload_n (x_d C_T_number 40 rfl) rfl ?_
            refine x_if_lt (tgt := 101) (x_d C_T_number 41 rfl) rfl (fun c50 => ?_) (fun c50 => ?_)
            · refine x_iconst (x_d C_T_number 58 rfl) ⟨by omega, by omega⟩ ?_
              refine x_istore (l1 := [(4, xI (0)), (0, xC 1), (1, xI (i)), (2, xI (t)), (3, xI (v))]) (x_d C_T_number 59 rfl) (by decide) rfl ?_
              refine x_iload_n (x_d C_T_number 60 rfl) rfl ?_
              refine x_iload_n (x_d C_T_number 61 rfl) rfl ?_
              refine x_icmp_le (tgt := 118) (x_d C_T_number 62 rfl) rfl (fun c51 => ?_) (fun c51 => ?_)
              · refine x_iconst (x_d C_T_number 67 rfl) ⟨by omega, by omega⟩ ?_
                refine x_ireturn (x_d C_T_number 68 rfl) ?_
                refine ⟨congrArg (fun z => some (xI z)) ?_, rfl⟩
                rw [s_num_end h0 hit (by omega) h9 had (by first | exact Or.inl (by omega) | exact Or.inr (Or.inl (by omega)) | exact Or.inr (Or.inr (s_dig_f (by omega))))]
                rcases hg with ⟨g1, g2⟩ | ⟨g1, g2⟩
                · simp only [g2, Bool.false_eq_true, and_false, not_false_eq_true, and_true]
                  split <;> omega
                · simp only [g2, and_true]
                  split <;> omega
              · refine x_iload (x_d C_T_number 63 rfl) rfl ?_
                refine x_if_ne (tgt := 118) (x_d C_T_number 64 rfl) rfl (fun q => absurd q (by omega)) (fun _ => ?_)
                refine x_iload_n (x_d C_T_number 65 rfl) rfl ?_
                refine x_goto (tgt := 119) (x_d C_T_number 66 rfl) rfl ?_
                refine x_ireturn (x_d C_T_number 68 rfl) ?_
                refine ⟨congrArg (fun z => some (xI z)) ?_, rfl⟩
                rw [s_num_end h0 hit (by omega) h9 had (by first | exact Or.inl (by omega) | exact Or.inr (Or.inl (by omega)) | exact Or.inr (Or.inr (s_dig_f (by omega))))]
                rcases hg with ⟨g1, g2⟩ | ⟨g1, g2⟩
                · simp only [g2, Bool.false_eq_true, and_false, not_false_eq_true, and_true]
                  split <;> omega
                · simp only [g2, and_true]
                  split <;> omega
            · refine x_iload_n (x_d C_T_number 42 rfl) rfl ?_
              refine x_aload_n (x_d C_T_number 43 rfl) rfl ?_
              refine x_getfield (v := xI (q 35)) (x_d C_T_number 44 rfl) f_T_41 rfl rfl ?_
              refine x_icmp_ge (tgt := 101) (x_d C_T_number 45 rfl) rfl (fun c53 => ?_) (fun c53 => ?_)
              · refine x_iconst (x_d C_T_number 58 rfl) ⟨by omega, by omega⟩ ?_
                refine x_istore (l1 := [(4, xI (0)), (0, xC 1), (1, xI (i)), (2, xI (t)), (3, xI (v))]) (x_d C_T_number 59 rfl) (by decide) rfl ?_
                refine x_iload_n (x_d C_T_number 60 rfl) rfl ?_
                refine x_iload_n (x_d C_T_number 61 rfl) rfl ?_
                refine x_icmp_le (tgt := 118) (x_d C_T_number 62 rfl) rfl (fun c54 => ?_) (fun c54 => ?_)
                · refine x_iconst (x_d C_T_number 67 rfl) ⟨by omega, by omega⟩ ?_
                  refine x_ireturn (x_d C_T_number 68 rfl) ?_
                  refine ⟨congrArg (fun z => some (xI z)) ?_, rfl⟩
                  rw [s_num_end h0 hit (by omega) h9 had (by first | exact Or.inl (by omega) | exact Or.inr (Or.inl (by omega)) | exact Or.inr (Or.inr (s_dig_f (by omega))))]
                  rcases hg with ⟨g1, g2⟩ | ⟨g1, g2⟩
                  · simp only [g2, Bool.false_eq_true, and_false, not_false_eq_true, and_true]
                    split <;> omega
                  · simp only [g2, and_true]
                    split <;> omega
                · refine x_iload (x_d C_T_number 63 rfl) rfl ?_
                  refine x_if_ne (tgt := 118) (x_d C_T_number 64 rfl) rfl (fun q => absurd q (by omega)) (fun _ => ?_)
                  refine x_iload_n (x_d C_T_number 65 rfl) rfl ?_
                  refine x_goto (tgt := 119) (x_d C_T_number 66 rfl) rfl ?_
                  refine x_ireturn (x_d C_T_number 68 rfl) ?_
                  refine ⟨congrArg (fun z => some (xI z)) ?_, rfl⟩
                  rw [s_num_end h0 hit (by omega) h9 had (by first | exact Or.inl (by omega) | exact Or.inr (Or.inl (by omega)) | exact Or.inr (Or.inr (s_dig_f (by omega))))]
                  rcases hg with ⟨g1, g2⟩ | ⟨g1, g2⟩
                  · simp only [g2, Bool.false_eq_true, and_false, not_false_eq_true, and_true]
                    split <;> omega
                  · simp only [g2, and_true]
                    split <;> omega
              · refine x_aload_n (x_d C_T_number 46 rfl) rfl ?_
                refine x_getfield (v := xC 3) (x_d C_T_number 47 rfl) f_T_15 rfl rfl ?_
                refine x_aload_n (x_d C_T_number 48 rfl) rfl ?_
                refine x_getfield (v := xC 2) (x_d C_T_number 49 rfl) f_T_9 rfl rfl ?_
                refine x_iload_n (x_d C_T_number 50 rfl) rfl ?_
                refine x_baload (f := A 2) (x_d C_T_number 51 rfl) rfl (by omega) (by omega) ?_
                refine x_sipush (x_d C_T_number 52 rfl) (by omega) ?_
                refine x_iand255 (x_d C_T_number 53 rfl) ?_
                refine x_zaload (f := A 3) (x_d C_T_number 54 rfl) rfl (by omega) (by omega) ?_
                refine x_if_eq (tgt := 101) (x_d C_T_number 55 rfl) rfl (fun c56 => ?_) (fun c56 => ?_)
                · refine x_iconst (x_d C_T_number 58 rfl) ⟨by omega, by omega⟩ ?_
                  refine x_istore (l1 := [(4, xI (0)), (0, xC 1), (1, xI (i)), (2, xI (t)), (3, xI (v))]) (x_d C_T_number 59 rfl) (by decide) rfl ?_
                  refine x_iload_n (x_d C_T_number 60 rfl) rfl ?_
                  refine x_iload_n (x_d C_T_number 61 rfl) rfl ?_
                  refine x_icmp_le (tgt := 118) (x_d C_T_number 62 rfl) rfl (fun c57 => ?_) (fun c57 => ?_)
                  · refine x_iconst (x_d C_T_number 67 rfl) ⟨by omega, by omega⟩ ?_
                    refine x_ireturn (x_d C_T_number 68 rfl) ?_
                    refine ⟨congrArg (fun z => some (xI z)) ?_, rfl⟩
                    rw [s_num_end h0 hit (by omega) h9 had (by first | exact Or.inl (by omega) | exact Or.inr (Or.inl (by omega)) | exact Or.inr (Or.inr (s_dig_f (by omega))))]
                    rcases hg with ⟨g1, g2⟩ | ⟨g1, g2⟩
                    · simp only [g2, Bool.false_eq_true, and_false, not_false_eq_true, and_true]
                      split <;> omega
                    · simp only [g2, and_true]
                      split <;> omega
                  · refine x_iload (x_d C_T_number 63 rfl) rfl ?_
                    refine x_if_ne (tgt := 118) (x_d C_T_number 64 rfl) rfl (fun q => absurd q (by omega)) (fun _ => ?_)
                    refine x_iload_n (x_d C_T_number 65 rfl) rfl ?_
                    refine x_goto (tgt := 119) (x_d C_T_number 66 rfl) rfl ?_
                    refine x_ireturn (x_d C_T_number 68 rfl) ?_
                    refine ⟨congrArg (fun z => some (xI z)) ?_, rfl⟩
                    rw [s_num_end h0 hit (by omega) h9 had (by first | exact Or.inl (by omega) | exact Or.inr (Or.inl (by omega)) | exact Or.inr (Or.inr (s_dig_f (by omega))))]
                    rcases hg with ⟨g1, g2⟩ | ⟨g1, g2⟩
                    · simp only [g2, Bool.false_eq_true, and_false, not_false_eq_true, and_true]
                      split <;> omega
                    · simp only [g2, and_true]
                      split <;> omega
                · refine x_iconst (x_d C_T_number 56 rfl) ⟨by omega, by omega⟩ ?_
                  refine x_goto (tgt := 102) (x_d C_T_number 57 rfl) rfl ?_
                  refine x_istore (l1 := [(4, xI (1)), (0, xC 1), (1, xI (i)), (2, xI (t)), (3, xI (v))]) (x_d C_T_number 59 rfl) (by decide) rfl ?_
                  refine x_iload_n (x_d C_T_number 60 rfl) rfl ?_
                  refine x_iload_n (x_d C_T_number 61 rfl) rfl ?_
                  refine x_icmp_le (tgt := 118) (x_d C_T_number 62 rfl) rfl (fun c59 => ?_) (fun c59 => ?_)
                  · refine x_iconst (x_d C_T_number 67 rfl) ⟨by omega, by omega⟩ ?_
                    refine x_ireturn (x_d C_T_number 68 rfl) ?_
                    refine ⟨congrArg (fun z => some (xI z)) ?_, rfl⟩
                    rw [s_num_end h0 hit (by omega) h9 had (by first | exact Or.inl (by omega) | exact Or.inr (Or.inl (by omega)) | exact Or.inr (Or.inr (s_dig_f (by omega))))]
                    rcases hg with ⟨g1, g2⟩ | ⟨g1, g2⟩
                    · simp only [g2, Bool.false_eq_true, and_false, not_false_eq_true, and_true]
                      split <;> omega
                    · simp only [g2, and_true]
                      split <;> omega
                  · refine x_iload (x_d C_T_number 63 rfl) rfl ?_
                    refine x_if_ne (tgt := 118) (x_d C_T_number 64 rfl) rfl (fun _ => ?_) (fun q => absurd q (by omega))
                    refine x_iconst (x_d C_T_number 67 rfl) ⟨by omega, by omega⟩ ?_
                    refine x_ireturn (x_d C_T_number 68 rfl) ?_
                    refine ⟨congrArg (fun z => some (xI z)) ?_, rfl⟩
                    rw [s_num_end h0 hit (by omega) h9 had (by first | exact Or.inl (by omega) | exact Or.inr (Or.inl (by omega)) | exact Or.inr (Or.inr (s_dig_f (by omega))))]
                    rcases hg with ⟨g1, g2⟩ | ⟨g1, g2⟩
                    · simp only [g2, Bool.false_eq_true, and_false, not_false_eq_true, and_true]
                      split <;> omega
                    · simp only [g2, and_true]
                      split <;> omega
          · refine x_bipush (x_d C_T_number 27 rfl) (by omega) ?_
            refine x_iload_n (x_d C_T_number 28 rfl) rfl ?_
            refine x_imul (x_d C_T_number 29 rfl) ⟨by omega, by omega⟩ ?_
            refine x_aload_n (x_d C_T_number 30 rfl) rfl ?_
            refine x_getfield (v := xC 2) (x_d C_T_number 31 rfl) f_T_9 rfl rfl ?_
            refine x_iload_n (x_d C_T_number 32 rfl) rfl ?_
            refine x_baload (f := A 2) (x_d C_T_number 33 rfl) rfl (by omega) (by omega) ?_
            refine x_iadd (x_d C_T_number 34 rfl) ⟨by omega, by omega⟩ ?_
            refine x_bipush (x_d C_T_number 35 rfl) (by omega) ?_
            refine x_isub (x_d C_T_number 36 rfl) ⟨by omega, by omega⟩ ?_
            refine x_istore_n (l1 := [(3, xI (((10 * v) + (A 2 (t).toNat)) - 48)), (0, xC 1), (1, xI (i)), (2, xI (t))]) (x_d C_T_number 37 rfl) (by decide) rfl ?_
            refine x_iinc (l1 := [(2, xI (t + 1)), (3, xI (((10 * v) + (A 2 (t).toNat)) - 48)), (0, xC 1), (1, xI (i))]) (x_d C_T_number 38 rfl) rfl ⟨by omega, by omega⟩ (by decide) rfl ?_
            refine x_goto (tgt := 4) (x_d C_T_number 39 rfl) rfl ?_
            refine x_locs [2, 3, 0, 1] rfl ?_
            refine ih _ (by omega) _ _ rfl h0 (by omega) (by omega) (by omega) ?_ ?_
            · rw [show (t + 1 - i).toNat = (t - i).toNat + 1 by omega]
              show _ = 10 * s_dv (A 2) (t - i).toNat i.toNat + A 2 (i.toNat + (t - i).toNat) - 48
              rw [← hv, show i.toNat + (t - i).toNat = t.toNat by omega]
            · rw [show (t + 1 - i).toNat = (t - i).toNat + 1 by omega]
              show (s_alld (A 2) (t - i).toNat i.toNat && s_dig (A 2 (i.toNat + (t - i).toNat))) = true
              rw [had, show i.toNat + (t - i).toNat = t.toNat by omega, s_dig_t (by omega)]
              rfl
theorem c_T_number (Z : xZ) (d : Nat) (q : Nat → Int) (r : Nat → Option Nat) (A : Nat → Nat → Int) (dy : xH) (i : Int) (hT : 0 ≤ q 34 ∧ q 34 ≤ q 35 ∧ q 35 ≤ 10248) (hR : s_okR A) (hi : 0 ≤ i) : xMet Z d Y_T_number [xC 1, xI i] (hF q r A ++ dy) (fun v h2 => v = some (xI (s_num (A 2) (q 35) i)) ∧ h2 = hF q r A ++ dy) := by
  refine xMet_of (by decide) (Nat.le_of_ble_eq_true rfl) (fun v h2 hq => by rw [hq.1]; trivial) ?_
  refine x_iload_n (x_d C_T_number 0 rfl) rfl ?_
  refine x_istore_n (l1 := [(2, xI (i)), (0, xC 1), (1, xI (i))]) (x_d C_T_number 1 rfl) (by decide) rfl ?_
  refine x_iconst (x_d C_T_number 2 rfl) ⟨by omega, by omega⟩ ?_
  refine x_istore_n (l1 := [(3, xI (0)), (2, xI (i)), (0, xC 1), (1, xI (i))]) (x_d C_T_number 3 rfl) (by decide) rfl ?_
  refine x_locs [2, 3, 1, 0] rfl ?_
  refine w_T_number_4 Z d q r A dy i hT hR _ _ _ rfl hi (Int.le_refl _) (by omega) (Or.inr rfl) ?_ ?_
  · rw [Int.sub_self]; rfl
  · rw [Int.sub_self]; rfl
