/-! the opener: a table -/
/-- more sections, as long as a digit follows -/
def s_secl (b : Nat → Int) (n f t sz : Int) : Nat → Int → ost → Option (ost × Int)
  | 0, i, x => some (x, i)
  | m + 1, i, x => if s_dgs b n i 1 < 0 then some (x, i) else (s_sect b n f t sz i x).bind (fun y => s_secl b n f t sz m y.2 y.1)
def s_tl (b : Nat → Int) (n f t sz : Int) (m : Nat) (i : Int) (x : ost) : Option (ost × Int) := (s_secl b n f t sz m i x).bind (fun z => if s_the b n z.2 [116, 114, 97, 105, 108, 101, 114] < 0 then none else some (z.1, s_the b n z.2 [116, 114, 97, 105, 108, 101, 114]))
def s_hi (x : ost) (h : Int) : ost := (x.1, x.2.1, x.2.2.1, x.2.2.2.1, h)
def s_tab (b : Nat → Int) (n f t sz nx : Int) (pls : List Int) (x : ost) : Option (ost × Int) := if nx ∈ pls ∨ nx < 0 ∨ n - f ≤ nx then none else (s_sect b n f t sz (s_abyte b n (s_the b n (f + nx) [120, 114, 101, 102]) 10) (s_hi x (-1))).bind (fun y => s_tl b n f t sz 4000 y.2 y.1)
def s_tw (pc : Nat → Int) (nx : Int) : Nat → Bool
  | 0 => false
  | k + 1 => s_tw pc nx k || decide (pc k = nx)
theorem s_tw_iff (pc : Nat → Int) (nx : Int) : ∀ k, s_tw pc nx k = true ↔ ∃ j, j < k ∧ pc j = nx
  | 0 => ⟨fun h => (by cases h), fun ⟨j, h, _⟩ => absurd h (Nat.not_lt_zero _)⟩
  | k + 1 => by
    show (s_tw pc nx k || decide (pc k = nx)) = true ↔ _
    rw [Bool.or_eq_true, s_tw_iff pc nx k, decide_eq_true_eq]
    constructor
    · rintro (⟨j, h1, h2⟩ | h)
      · exact ⟨j, by omega, h2⟩
      · exact ⟨k, by omega, h⟩
    · rintro ⟨j, h1, h2⟩
      by_cases e : j = k
      · rw [e] at h2; exact Or.inr h2
      · exact Or.inl ⟨j, by omega, h2⟩
theorem s_tw_mem {pc : Nat → Int} {nx : Int} {pls : List Int} (h : ∀ k, k < pls.length → pc k = pls.getD k 0) : s_tw pc nx pls.length = true ↔ nx ∈ pls := by
  rw [s_tw_iff]
  constructor
  · rintro ⟨j, h1, h2⟩
    rw [h j h1, List.getD_eq_getElem?_getD, List.getElem?_eq_getElem h1] at h2
    have h2 : pls[j] = nx := h2
    rw [← h2]
    exact List.getElem_mem h1
  · intro hm
    obtain ⟨j, hj, e⟩ := List.getElem_of_mem hm
    refine ⟨j, hj, ?_⟩
    rw [h j hj, List.getD_eq_getElem?_getD, List.getElem?_eq_getElem hj]
    exact e
theorem s_entrs_in {b : Nat → Int} {n f t sz : Int} : ∀ {m : Nat} {i k : Int} {x y : ost} {j : Int}, s_entrs b n f t sz m i k x = some (y, j) → (0 ≤ i ∧ i ≤ n) → 0 ≤ j ∧ j ≤ n ∧ i ≤ j
  | 0, i, k, x, y, j, h, h0 => by
    have := congrArg Prod.snd (Option.some.inj h)
    have : i = j := this
    omega
  | m + 1, i, k, x, y, j, h, h0 => by
    obtain ⟨z, h1, h2⟩ := Option.bind_eq_some_iff.mp h
    have := e_in h1
    have := s_entrs_in h2 (by omega)
    omega
theorem s_sect_in {b : Nat → Int} {n f t sz i j : Int} {x y : ost} (h : s_sect b n f t sz i x = some (y, j)) : 0 ≤ j ∧ j ≤ n ∧ 0 ≤ i ∧ i + 4 ≤ j := by
  unfold s_sect at h
  split at h
  · cases h
  · next hc =>
    have h1 := s_num_in b n i
    have h2 := s_num_in b n (s_abyte b n (s_wd b n i) 32)
    have h3 := s_abyte_in b n (s_wd b n (s_abyte b n (s_wd b n i) 32)) 10
    have h4 := s_abyte_in b n (s_wd b n i) 32
    have h5 := s_byte_in b n (s_wd b n (s_abyte b n (s_wd b n i) 32))
    have := s_entrs_in h (by omega)
    omega
theorem s_tl_neg {b : Nat → Int} {n f t sz : Int} {m : Nat} {x : ost} : s_tl b n f t sz m (-1) x = none := by
  have e : s_secl b n f t sz m (-1) x = some (x, -1) := by
    cases m with
    | zero => rfl
    | succ m =>
      unfold s_secl
      have hd : s_dgs b n (-1) 1 = -1 := by unfold s_dgs; rw [if_neg (by omega)]
      rw [hd, if_pos (by omega)]
  unfold s_tl
  rw [e]
  have := s_the_in b n (-1) [116, 114, 97, 105, 108, 101, 114]
  rw [Option.bind_some, if_pos (by show s_the b n (-1) _ < 0; omega)]
theorem w_O_readTable_121 (Z : xZ) (d : Nat) (q : Nat → Int) (r : Nat → Option Nat) (A : Nat → Nat → Int) (dy : xH) (hd : 7 ≤ d) (t tw : Int) (pc : Nat → Int) (hT : 0 ≤ q 34 ∧ q 34 ≤ q 35 ∧ q 35 ≤ 10248) (hR : s_okR A) (hz : 0 ≤ q 1029 ∧ q 1029 ≤ 300) (ht : 0 ≤ t ∧ t ≤ 5) : ∀ (m : Nat) (x : ost) (aw i k : Int), (0 ≤ k ∧ k + m = 4000) → (i = -1 ∨ (0 ≤ i ∧ i ≤ q 35)) → xW Z d Y_O_readTable 121 [(0, xC 11), (1, xI t), (2, xI tw), (3, xI i), (4, xI k)] [] (hF (x_up (x_up q 362 x.2.2.2.2) 363 aw) (x_up r 359 (some 32)) (x_up (x_up (x_up (x_up (x_up A 13 x.1) 14 x.2.1) 34 x.2.2.1) 35 x.2.2.2.1) 12 pc) ++ dy) (fun v0 h2 => ∃ x2 aw2 pc2, h2 = hF (x_up (x_up q 362 x2.2.2.2.2) 363 aw2) (x_up r 359 (some 32)) (x_up (x_up (x_up (x_up (x_up A 13 x2.1) 14 x2.2.1) 34 x2.2.2.1) 35 x2.2.2.2.1) 12 pc2) ++ dy ∧ ((v0 = some (xI 1) ∧ s_tl (A 2) (q 35) (q 34) t (q 1029) m i x = some (x2, aw2) ∧ pc2 = pc) ∨ (v0 = some (xI 0) ∧ s_tl (A 2) (q 35) (q 34) t (q 1029) m i x = none))) := by
  have hl0 : ∀ z : Int, (x_lc z 0 < 0 ∧ z < 0) ∨ (0 ≤ x_lc z 0 ∧ 0 ≤ z) := fun z => by unfold x_lc; (repeat' split) <;> omega
  intro m
  induction m with
  | zero =>
    intro x aw i k hk hi
    have hth := s_the_in (A 2) (q 35) i [116, 114, 97, 105, 108, 101, 114]
    refine x_iload (x_d C_O_readTable 66 rfl) rfl ?_
    refine x_sipush (x_d C_O_readTable 67 rfl) (by omega) ?_
    refine x_icmp_ge (tgt := 156) (x_d C_O_readTable 68 rfl) rfl (fun _ => ?_) (fun q => absurd q (by omega))
    refine x_aload_n (x_d C_O_readTable 84 rfl) rfl ?_
    refine x_aload_n (x_d C_O_readTable 85 rfl) rfl ?_
    refine x_getfield (v := xC 1) (x_d C_O_readTable 86 rfl) f_O_24 rfl rfl ?_
    refine x_iload_n (x_d C_O_readTable 87 rfl) rfl ?_
    refine x_ldcS (i := 8) (x_d C_O_readTable 88 rfl) rfl ?_
    refine x_invokevirtual (st := [xC 11]) (av := [xI (i), xS (17)]) (x_d C_O_readTable 89 rfl) k_O_111 m_T_afterThe v_T_afterThe cl_T rfl rfl (Nat.le_of_ble_eq_true rfl) (by omega) rfl (c_T_afterThe Z (d - 1) (x_up (x_up q 362 x.2.2.2.2) 363 aw) (x_up r 359 (some 32)) (x_up (x_up (x_up (x_up (x_up A 13 x.1) 14 x.2.1) 34 x.2.2.1) 35 x.2.2.2.1) 12 pc) dy (by omega) (i := 8) rfl i hT hR) ?_
    rintro v_ _ ⟨hv_, rfl⟩
    obtain rfl : v_ = some (xI (s_the (A 2) (q 35) i [116, 114, 97, 105, 108, 101, 114])) := hv_
    refine x_putfield (h1 := hF (x_up (x_up q 362 x.2.2.2.2) 363 (s_the (A 2) (q 35) i [116, 114, 97, 105, 108, 101, 114])) (x_up r 359 (some 32)) (x_up (x_up (x_up (x_up (x_up A 13 x.1) 14 x.2.1) 34 x.2.2.1) 35 x.2.2.2.1) 12 pc) ++ dy) (x_d C_O_readTable 90 rfl) p_O_119 rfl rfl rfl trivial rfl ?_
    refine x_aload_n (x_d C_O_readTable 91 rfl) rfl ?_
    refine x_getfield (v := xI (s_the (A 2) (q 35) i [116, 114, 97, 105, 108, 101, 114])) (x_d C_O_readTable 92 rfl) f_O_119 rfl rfl ?_
    refine x_if_lt (tgt := 181) (x_d C_O_readTable 93 rfl) rfl (fun c2 => ?_) (fun c2 => ?_)
    · refine x_iconst (x_d C_O_readTable 96 rfl) ⟨by omega, by omega⟩ ?_
      refine x_ireturn (x_d C_O_readTable 97 rfl) ?_
      have e1 : s_secl (A 2) (q 35) (q 34) t (q 1029) 0 i x = some (x, i) := by
        rfl
      have e2 : s_tl (A 2) (q 35) (q 34) t (q 1029) 0 i x = if s_the (A 2) (q 35) i [116, 114, 97, 105, 108, 101, 114] < 0 then none else some (x, s_the (A 2) (q 35) i [116, 114, 97, 105, 108, 101, 114]) := by unfold s_tl; rw [e1]; rfl
      rw [e2]
      rw [if_pos (by omega)]
      exact ⟨x, _, pc, rfl, Or.inr ⟨rfl, rfl⟩⟩
    · refine x_iconst (x_d C_O_readTable 94 rfl) ⟨by omega, by omega⟩ ?_
      refine x_goto (tgt := 182) (x_d C_O_readTable 95 rfl) rfl ?_
      refine x_ireturn (x_d C_O_readTable 97 rfl) ?_
      have e1 : s_secl (A 2) (q 35) (q 34) t (q 1029) 0 i x = some (x, i) := by
        rfl
      have e2 : s_tl (A 2) (q 35) (q 34) t (q 1029) 0 i x = if s_the (A 2) (q 35) i [116, 114, 97, 105, 108, 101, 114] < 0 then none else some (x, s_the (A 2) (q 35) i [116, 114, 97, 105, 108, 101, 114]) := by unfold s_tl; rw [e1]; rfl
      rw [e2]
      rw [if_neg (by omega)]
      exact ⟨x, _, pc, rfl, Or.inl ⟨rfl, rfl, rfl⟩⟩
  | succ m ih =>
    intro x aw i k hk hi
    have hth := s_the_in (A 2) (q 35) i [116, 114, 97, 105, 108, 101, 114]
    have hl1 := hl0 (s_dgs (A 2) (q 35) i 1)
    refine x_iload (x_d C_O_readTable 66 rfl) rfl ?_
    refine x_sipush (x_d C_O_readTable 67 rfl) (by omega) ?_
    refine x_icmp_ge (tgt := 156) (x_d C_O_readTable 68 rfl) rfl (fun q => absurd q (by omega)) (fun _ => ?_)
    refine x_aload_n (x_d C_O_readTable 69 rfl) rfl ?_
    refine x_getfield (v := xC 1) (x_d C_O_readTable 70 rfl) f_O_24 rfl rfl ?_
    refine x_iload_n (x_d C_O_readTable 71 rfl) rfl ?_
    refine x_iconst (x_d C_O_readTable 72 rfl) ⟨by omega, by omega⟩ ?_
    refine x_invokevirtual (st := []) (av := [xI (i), xI (1)]) (x_d C_O_readTable 73 rfl) k_O_61 m_T_digits v_T_digits cl_T rfl rfl (Nat.le_of_ble_eq_true rfl) (by omega) rfl (c_T_digits Z (d - 1) (x_up (x_up q 362 x.2.2.2.2) 363 aw) (x_up r 359 (some 32)) (x_up (x_up (x_up (x_up (x_up A 13 x.1) 14 x.2.1) 34 x.2.2.1) 35 x.2.2.2.1) 12 pc) dy (by omega) i 1 hT (by omega) (by omega)) ?_
    rintro v_ _ ⟨hv_, rfl⟩
    obtain rfl : v_ = some (xJ (s_dgs (A 2) (q 35) i 1)) := hv_
    refine x_lconst0 (x_d C_O_readTable 74 rfl) ?_
    refine x_lcmp (x_d C_O_readTable 75 rfl) ?_
    refine x_if_lt (tgt := 156) (x_d C_O_readTable 76 rfl) rfl (fun c2 => ?_) (fun c2 => ?_)
    · refine x_aload_n (x_d C_O_readTable 84 rfl) rfl ?_
      refine x_aload_n (x_d C_O_readTable 85 rfl) rfl ?_
      refine x_getfield (v := xC 1) (x_d C_O_readTable 86 rfl) f_O_24 rfl rfl ?_
      refine x_iload_n (x_d C_O_readTable 87 rfl) rfl ?_
      refine x_ldcS (i := 8) (x_d C_O_readTable 88 rfl) rfl ?_
      refine x_invokevirtual (st := [xC 11]) (av := [xI (i), xS (17)]) (x_d C_O_readTable 89 rfl) k_O_111 m_T_afterThe v_T_afterThe cl_T rfl rfl (Nat.le_of_ble_eq_true rfl) (by omega) rfl (c_T_afterThe Z (d - 1) (x_up (x_up q 362 x.2.2.2.2) 363 aw) (x_up r 359 (some 32)) (x_up (x_up (x_up (x_up (x_up A 13 x.1) 14 x.2.1) 34 x.2.2.1) 35 x.2.2.2.1) 12 pc) dy (by omega) (i := 8) rfl i hT hR) ?_
      rintro v_ _ ⟨hv_, rfl⟩
      obtain rfl : v_ = some (xI (s_the (A 2) (q 35) i [116, 114, 97, 105, 108, 101, 114])) := hv_
      refine x_putfield (h1 := hF (x_up (x_up q 362 x.2.2.2.2) 363 (s_the (A 2) (q 35) i [116, 114, 97, 105, 108, 101, 114])) (x_up r 359 (some 32)) (x_up (x_up (x_up (x_up (x_up A 13 x.1) 14 x.2.1) 34 x.2.2.1) 35 x.2.2.2.1) 12 pc) ++ dy) (x_d C_O_readTable 90 rfl) p_O_119 rfl rfl rfl trivial rfl ?_
      refine x_aload_n (x_d C_O_readTable 91 rfl) rfl ?_
      refine x_getfield (v := xI (s_the (A 2) (q 35) i [116, 114, 97, 105, 108, 101, 114])) (x_d C_O_readTable 92 rfl) f_O_119 rfl rfl ?_
      refine x_if_lt (tgt := 181) (x_d C_O_readTable 93 rfl) rfl (fun c3 => ?_) (fun c3 => ?_)
      · refine x_iconst (x_d C_O_readTable 96 rfl) ⟨by omega, by omega⟩ ?_
        refine x_ireturn (x_d C_O_readTable 97 rfl) ?_
        have e1 : s_secl (A 2) (q 35) (q 34) t (q 1029) (m + 1) i x = some (x, i) := by
          unfold s_secl
          rw [if_pos (by omega)]
        have e2 : s_tl (A 2) (q 35) (q 34) t (q 1029) (m + 1) i x = if s_the (A 2) (q 35) i [116, 114, 97, 105, 108, 101, 114] < 0 then none else some (x, s_the (A 2) (q 35) i [116, 114, 97, 105, 108, 101, 114]) := by unfold s_tl; rw [e1]; rfl
        rw [e2]
        rw [if_pos (by omega)]
        exact ⟨x, _, pc, rfl, Or.inr ⟨rfl, rfl⟩⟩
      · refine x_iconst (x_d C_O_readTable 94 rfl) ⟨by omega, by omega⟩ ?_
        refine x_goto (tgt := 182) (x_d C_O_readTable 95 rfl) rfl ?_
        refine x_ireturn (x_d C_O_readTable 97 rfl) ?_
        have e1 : s_secl (A 2) (q 35) (q 34) t (q 1029) (m + 1) i x = some (x, i) := by
          unfold s_secl
          rw [if_pos (by omega)]
        have e2 : s_tl (A 2) (q 35) (q 34) t (q 1029) (m + 1) i x = if s_the (A 2) (q 35) i [116, 114, 97, 105, 108, 101, 114] < 0 then none else some (x, s_the (A 2) (q 35) i [116, 114, 97, 105, 108, 101, 114]) := by unfold s_tl; rw [e1]; rfl
        rw [e2]
        rw [if_neg (by omega)]
        exact ⟨x, _, pc, rfl, Or.inl ⟨rfl, rfl, rfl⟩⟩
    · refine x_aload_n (x_d C_O_readTable 77 rfl) rfl ?_
      refine x_iload_n (x_d C_O_readTable 78 rfl) rfl ?_
      refine x_iload_n (x_d C_O_readTable 79 rfl) rfl ?_
      refine x_invokevirtual (st := []) (av := [xI (i), xI (t)]) (x_d C_O_readTable 80 rfl) k_O_114 m_O_readSection v_O_readSection cl_O rfl rfl (Nat.le_of_ble_eq_true rfl) (by omega) rfl (c_O_readSection Z (d - 1) (x_up q 363 aw) r (x_up A 12 pc) dy (by omega) x i t hT hR hz (by omega)) ?_
      rintro v_ h_ ⟨y, rfl, hr_⟩
      obtain ⟨j, rfl, hjy⟩ : ∃ j : Int, v_ = some (xI j) ∧ ((0 ≤ j ∧ j ≤ q 35 ∧ s_sect (A 2) (q 35) (q 34) t (q 1029) i x = some (y, j)) ∨ (j = -1 ∧ s_sect (A 2) (q 35) (q 34) t (q 1029) i x = none)) := by
        rcases hr_ with ⟨j, h1, h2⟩ | ⟨h1, h2⟩
        · exact ⟨j, h1, Or.inl ⟨(s_sect_in h2).1, (s_sect_in h2).2.1, h2⟩⟩
        · exact ⟨-1, h1, Or.inr ⟨rfl, h2⟩⟩
      clear hr_
      refine x_istore_n (l1 := [(3, xI (j)), (0, xC 11), (1, xI (t)), (2, xI (tw)), (4, xI (k))]) (x_d C_O_readTable 81 rfl) (by decide) rfl ?_
      refine x_iinc (l1 := [(4, xI (k + 1)), (3, xI (j)), (0, xC 11), (1, xI (t)), (2, xI (tw))]) (x_d C_O_readTable 82 rfl) rfl ⟨by omega, by omega⟩ (by decide) rfl ?_
      refine x_goto (tgt := 121) (x_d C_O_readTable 83 rfl) rfl ?_
      refine x_locs [2, 3, 4, 1, 0] rfl ?_
      have e1 : s_tl (A 2) (q 35) (q 34) t (q 1029) (m + 1) i x = (s_sect (A 2) (q 35) (q 34) t (q 1029) i x).bind (fun y => s_tl (A 2) (q 35) (q 34) t (q 1029) m y.2 y.1) := by
        unfold s_tl
        conv => lhs; unfold s_secl
        rw [if_neg (by omega)]
        cases s_sect (A 2) (q 35) (q 34) t (q 1029) i x <;> rfl
      refine xW_post ?_ (ih y aw j (k + 1) (by omega) (by omega))
      rcases hjy with ⟨j1, j2, j3⟩ | ⟨j1, j3⟩
      · rw [e1, j3]
        exact fun _ _ h => h
      · rw [e1, j3, j1, s_tl_neg]
        exact fun _ _ h => h
theorem w_O_readTable_4 (Z : xZ) (d : Nat) (q : Nat → Int) (r : Nat → Option Nat) (A : Nat → Nat → Int) (dy : xH) (t : Int) (pc : Nat → Int) (x : ost) (aw : Int) (ht : 0 ≤ t ∧ t ≤ 5) (Q : Option xV → xH → Prop) (kk : xW Z d Y_O_readTable 38 [(0, xC 11), (1, xI t), (2, xI (x_bo (s_tw pc (q 360) t.toNat))), (3, xI t)] [] (hF (x_up (x_up q 362 x.2.2.2.2) 363 aw) (x_up r 359 (some 32)) (x_up (x_up (x_up (x_up (x_up A 13 x.1) 14 x.2.1) 34 x.2.2.1) 35 x.2.2.2.1) 12 pc) ++ dy) Q) : ∀ (m : Nat) (k : Int), (0 ≤ k ∧ k + m = t) → xW Z d Y_O_readTable 4 [(0, xC 11), (1, xI t), (2, xI (x_bo (s_tw pc (q 360) k.toNat))), (3, xI k)] [] (hF (x_up (x_up q 362 x.2.2.2.2) 363 aw) (x_up r 359 (some 32)) (x_up (x_up (x_up (x_up (x_up A 13 x.1) 14 x.2.1) 34 x.2.2.1) 35 x.2.2.2.1) 12 pc) ++ dy) Q := by
  intro m
  induction m with
  | zero =>
    intro k hk
    obtain rfl : k = t := by omega
    refine x_iload_n (x_d C_O_readTable 4 rfl) rfl ?_
    refine x_iload_n (x_d C_O_readTable 5 rfl) rfl ?_
    refine x_icmp_ge (tgt := 38) (x_d C_O_readTable 6 rfl) rfl (fun _ => ?_) (fun q => absurd q (by omega))
    exact kk
  | succ m ih =>
    intro k hk
    have hbb : (x_bo (s_tw pc (q 360) k.toNat) = 1 ∧ s_tw pc (q 360) k.toNat = true) ∨ (x_bo (s_tw pc (q 360) k.toNat) = 0 ∧ s_tw pc (q 360) k.toNat = false) := by cases s_tw pc (q 360) k.toNat; exact Or.inr ⟨rfl, rfl⟩; exact Or.inl ⟨rfl, rfl⟩
    have hs : s_tw pc (q 360) (k + 1).toNat = (s_tw pc (q 360) k.toNat || decide (pc k.toNat = q 360)) := by rw [show (k + 1).toNat = k.toNat + 1 by omega]; rfl
    refine x_iload_n (x_d C_O_readTable 4 rfl) rfl ?_
    refine x_iload_n (x_d C_O_readTable 5 rfl) rfl ?_
    refine x_icmp_ge (tgt := 38) (x_d C_O_readTable 6 rfl) rfl (fun q => absurd q (by omega)) (fun _ => ?_)
    refine x_iload_n (x_d C_O_readTable 7 rfl) rfl ?_
    refine x_if_ne (tgt := 26) (x_d C_O_readTable 8 rfl) rfl (fun c2 => ?_) (fun c2 => ?_)
    · refine x_iconst (x_d C_O_readTable 16 rfl) ⟨by omega, by omega⟩ ?_
      refine x_goto (tgt := 31) (x_d C_O_readTable 17 rfl) rfl ?_
      refine x_istore_n (l1 := [(2, xI (1)), (0, xC 11), (1, xI (t)), (3, xI (k))]) (x_d C_O_readTable 19 rfl) (by decide) rfl ?_
      refine x_iinc (l1 := [(3, xI (k + 1)), (2, xI (1)), (0, xC 11), (1, xI (t))]) (x_d C_O_readTable 20 rfl) rfl ⟨by omega, by omega⟩ (by decide) rfl ?_
      refine x_goto (tgt := 4) (x_d C_O_readTable 21 rfl) rfl ?_
      refine x_locs [2, 3, 1, 0] rfl ?_
      have e1 : x_bo (s_tw pc (q 360) (k + 1).toNat) = 1 := by
        rw [hs]
        rcases hbb with ⟨z1, z2⟩ | ⟨z1, z2⟩
        · first | omega | (rw [z2]; rfl)
        · first | omega | (rw [z2, Bool.false_or, decide_eq_true (by omega)]; rfl) | (rw [z2, Bool.false_or, decide_eq_false (by omega)]; rfl)
      have := ih (k + 1) (by omega)
      rw [e1] at this
      exact this
    · refine x_aload_n (x_d C_O_readTable 9 rfl) rfl ?_
      refine x_getfield (v := xC 12) (x_d C_O_readTable 10 rfl) f_O_9 rfl rfl ?_
      refine x_iload_n (x_d C_O_readTable 11 rfl) rfl ?_
      refine x_iaload (f := pc) (x_d C_O_readTable 12 rfl) rfl (by omega) (by omega) ?_
      refine x_aload_n (x_d C_O_readTable 13 rfl) rfl ?_
      refine x_getfield (v := xI (q 360)) (x_d C_O_readTable 14 rfl) f_O_69 rfl rfl ?_
      refine x_icmp_ne (tgt := 30) (x_d C_O_readTable 15 rfl) rfl (fun c3 => ?_) (fun c3 => ?_)
      · refine x_iconst (x_d C_O_readTable 18 rfl) ⟨by omega, by omega⟩ ?_
        refine x_istore_n (l1 := [(2, xI (0)), (0, xC 11), (1, xI (t)), (3, xI (k))]) (x_d C_O_readTable 19 rfl) (by decide) rfl ?_
        refine x_iinc (l1 := [(3, xI (k + 1)), (2, xI (0)), (0, xC 11), (1, xI (t))]) (x_d C_O_readTable 20 rfl) rfl ⟨by omega, by omega⟩ (by decide) rfl ?_
        refine x_goto (tgt := 4) (x_d C_O_readTable 21 rfl) rfl ?_
        refine x_locs [2, 3, 1, 0] rfl ?_
        have e1 : x_bo (s_tw pc (q 360) (k + 1).toNat) = 0 := by
          rw [hs]
          rcases hbb with ⟨z1, z2⟩ | ⟨z1, z2⟩
          · first | omega | (rw [z2]; rfl)
          · first | omega | (rw [z2, Bool.false_or, decide_eq_true (by omega)]; rfl) | (rw [z2, Bool.false_or, decide_eq_false (by omega)]; rfl)
        have := ih (k + 1) (by omega)
        rw [e1] at this
        exact this
      · refine x_iconst (x_d C_O_readTable 16 rfl) ⟨by omega, by omega⟩ ?_
        refine x_goto (tgt := 31) (x_d C_O_readTable 17 rfl) rfl ?_
        refine x_istore_n (l1 := [(2, xI (1)), (0, xC 11), (1, xI (t)), (3, xI (k))]) (x_d C_O_readTable 19 rfl) (by decide) rfl ?_
        refine x_iinc (l1 := [(3, xI (k + 1)), (2, xI (1)), (0, xC 11), (1, xI (t))]) (x_d C_O_readTable 20 rfl) rfl ⟨by omega, by omega⟩ (by decide) rfl ?_
        refine x_goto (tgt := 4) (x_d C_O_readTable 21 rfl) rfl ?_
        refine x_locs [2, 3, 1, 0] rfl ?_
        have e1 : x_bo (s_tw pc (q 360) (k + 1).toNat) = 1 := by
          rw [hs]
          rcases hbb with ⟨z1, z2⟩ | ⟨z1, z2⟩
          · first | omega | (rw [z2]; rfl)
          · first | omega | (rw [z2, Bool.false_or, decide_eq_true (by omega)]; rfl) | (rw [z2, Bool.false_or, decide_eq_false (by omega)]; rfl)
        have := ih (k + 1) (by omega)
        rw [e1] at this
        exact this
theorem c_O_readTable (Z : xZ) (d : Nat) (q : Nat → Int) (r : Nat → Option Nat) (A : Nat → Nat → Int) (dy : xH) (hd : 7 ≤ d) (x : ost) (aw t : Int) (pc : Nat → Int) (pls : List Int) (hT : 0 ≤ q 34 ∧ q 34 ≤ q 35 ∧ q 35 ≤ 10248) (hR : s_okR A) (hz : 0 ≤ q 1029 ∧ q 1029 ≤ 300) (ht : 0 ≤ t ∧ t ≤ 5) (hpl : (pls.length : Int) = t ∧ ∀ k, k < pls.length → pc k = pls.getD k 0) : xMet Z d Y_O_readTable [xC 11, xI t] (hF (x_up (x_up q 362 x.2.2.2.2) 363 aw) (x_up r 359 (some 32)) (x_up (x_up (x_up (x_up (x_up A 13 x.1) 14 x.2.1) 34 x.2.2.1) 35 x.2.2.2.1) 12 pc) ++ dy) (fun v0 h2 => ∃ x2 aw2 pc2, h2 = hF (x_up (x_up q 362 x2.2.2.2.2) 363 aw2) (x_up r 359 (some 32)) (x_up (x_up (x_up (x_up (x_up A 13 x2.1) 14 x2.2.1) 34 x2.2.2.1) 35 x2.2.2.2.1) 12 pc2) ++ dy ∧ ((v0 = some (xI 1) ∧ s_tab (A 2) (q 35) (q 34) t (q 1029) (q 360) pls x = some (x2, aw2) ∧ pc2 = x_up pc t.toNat (q 360)) ∨ (v0 = some (xI 0) ∧ s_tab (A 2) (q 35) (q 34) t (q 1029) (q 360) pls x = none))) := by
  refine xMet_of (by decide) (Nat.le_of_ble_eq_true rfl) (fun v0 h2 hq => by obtain ⟨_, _, _, _, ⟨e, _⟩ | ⟨e, _⟩⟩ := hq <;> rw [e]; exact Or.inr rfl; exact Or.inl rfl) ?_
  have hmem := s_tw_mem (nx := q 360) hpl.2
  rw [show pls.length = t.toNat by omega] at hmem
  have hbw : (x_bo (s_tw pc (q 360) t.toNat) = 1 ∧ q 360 ∈ pls) ∨ (x_bo (s_tw pc (q 360) t.toNat) = 0 ∧ ¬ q 360 ∈ pls) := by
    cases e : s_tw pc (q 360) t.toNat with
    | true => exact Or.inl ⟨rfl, hmem.mp e⟩
    | false => exact Or.inr ⟨rfl, fun z => by rw [hmem.mpr z] at e; cases e⟩
  refine x_iconst (x_d C_O_readTable 0 rfl) ⟨by omega, by omega⟩ ?_
  refine x_istore_n (l1 := [(2, xI (0)), (0, xC 11), (1, xI (t))]) (x_d C_O_readTable 1 rfl) (by decide) rfl ?_
  refine x_iconst (x_d C_O_readTable 2 rfl) ⟨by omega, by omega⟩ ?_
  refine x_istore_n (l1 := [(3, xI (0)), (2, xI (0)), (0, xC 11), (1, xI (t))]) (x_d C_O_readTable 3 rfl) (by decide) rfl ?_
  refine x_locs [2, 3, 1, 0] rfl ?_
  refine w_O_readTable_4 Z d q r A dy t pc x aw ht _ ?_ t.toNat 0 (by omega)
  refine x_iload_n (x_d C_O_readTable 22 rfl) rfl ?_
  refine x_if_ne (tgt := 63) (x_d C_O_readTable 23 rfl) rfl (fun c101 => ?_) (fun c101 => ?_)
  · refine x_iconst (x_d C_O_readTable 33 rfl) ⟨by omega, by omega⟩ ?_
    refine x_ireturn (x_d C_O_readTable 34 rfl) ?_
    refine ⟨x, aw, pc, rfl, Or.inr ⟨rfl, ?_⟩⟩
    unfold s_tab
    rw [if_pos]
    rcases hbw with ⟨h1, h2⟩ | ⟨h1, h2⟩
    · exact Or.inl h2
    · first | exact Or.inr (Or.inl (by omega)) | exact Or.inr (Or.inr (by omega)) | omega
  · refine x_aload_n (x_d C_O_readTable 24 rfl) rfl ?_
    refine x_getfield (v := xI (q 360)) (x_d C_O_readTable 25 rfl) f_O_69 rfl rfl ?_
    refine x_if_lt (tgt := 63) (x_d C_O_readTable 26 rfl) rfl (fun c102 => ?_) (fun c102 => ?_)
    · refine x_iconst (x_d C_O_readTable 33 rfl) ⟨by omega, by omega⟩ ?_
      refine x_ireturn (x_d C_O_readTable 34 rfl) ?_
      refine ⟨x, aw, pc, rfl, Or.inr ⟨rfl, ?_⟩⟩
      unfold s_tab
      rw [if_pos]
      rcases hbw with ⟨h1, h2⟩ | ⟨h1, h2⟩
      · exact Or.inl h2
      · first | exact Or.inr (Or.inl (by omega)) | exact Or.inr (Or.inr (by omega)) | omega
    · refine x_aload_n (x_d C_O_readTable 27 rfl) rfl ?_
      refine x_getfield (v := xI (q 360)) (x_d C_O_readTable 28 rfl) f_O_69 rfl rfl ?_
      refine x_aload_n (x_d C_O_readTable 29 rfl) rfl ?_
      refine x_getfield (v := xC 1) (x_d C_O_readTable 30 rfl) f_O_24 rfl rfl ?_
      refine x_invokevirtual (st := [xI (q 360)]) (av := []) (x_d C_O_readTable 31 rfl) k_O_103 m_T_tapeSize v_T_tapeSize cl_T rfl rfl (Nat.le_of_ble_eq_true rfl) (by omega) rfl (c_T_tapeSize Z (d - 1) (x_up (x_up q 362 x.2.2.2.2) 363 aw) (x_up r 359 (some 32)) (x_up (x_up (x_up (x_up (x_up A 13 x.1) 14 x.2.1) 34 x.2.2.1) 35 x.2.2.2.1) 12 pc) dy hT) ?_
      rintro v_ _ ⟨hv_, rfl⟩
      obtain rfl : v_ = some (xI (q 35 - q 34)) := hv_
      refine x_icmp_lt (tgt := 65) (x_d C_O_readTable 32 rfl) rfl (fun c103 => ?_) (fun c103 => ?_)
      · refine x_aload_n (x_d C_O_readTable 35 rfl) rfl ?_
        refine x_getfield (v := xC 12) (x_d C_O_readTable 36 rfl) f_O_9 rfl rfl ?_
        refine x_iload_n (x_d C_O_readTable 37 rfl) rfl ?_
        refine x_aload_n (x_d C_O_readTable 38 rfl) rfl ?_
        refine x_getfield (v := xI (q 360)) (x_d C_O_readTable 39 rfl) f_O_69 rfl rfl ?_
        refine x_iastore (h1 := hF (x_up (x_up q 362 x.2.2.2.2) 363 aw) (x_up r 359 (some 32)) (x_up (x_up (x_up (x_up (x_up A 13 x.1) 14 x.2.1) 34 x.2.2.1) 35 x.2.2.2.1) 12 (x_up pc (t).toNat (q 360))) ++ dy) (x_d C_O_readTable 40 rfl) rfl (by omega) (by omega) rfl ?_
        refine x_aload_n (x_d C_O_readTable 41 rfl) rfl ?_
        refine x_iconst (x_d C_O_readTable 42 rfl) ⟨by omega, by omega⟩ ?_
        refine x_putfield (h1 := hF (x_up (x_up q 363 aw) 362 (-1)) (x_up r 359 (some 32)) (x_up (x_up (x_up (x_up (x_up A 13 x.1) 14 x.2.1) 34 x.2.2.1) 35 x.2.2.2.1) 12 (x_up pc (t).toNat (q 360))) ++ dy) (x_d C_O_readTable 43 rfl) p_O_106 rfl rfl rfl trivial rfl ?_
        refine x_aload_n (x_d C_O_readTable 44 rfl) rfl ?_
        refine x_getfield (v := xC 1) (x_d C_O_readTable 45 rfl) f_O_24 rfl rfl ?_
        refine x_aload_n (x_d C_O_readTable 46 rfl) rfl ?_
        refine x_getfield (v := xC 1) (x_d C_O_readTable 47 rfl) f_O_24 rfl rfl ?_
        refine x_aload_n (x_d C_O_readTable 48 rfl) rfl ?_
        refine x_getfield (v := xC 1) (x_d C_O_readTable 49 rfl) f_O_24 rfl rfl ?_
        refine x_getfield (v := xI (q 34)) (x_d C_O_readTable 50 rfl) f_O_40 rfl rfl ?_
        refine x_aload_n (x_d C_O_readTable 51 rfl) rfl ?_
        refine x_getfield (v := xI (q 360)) (x_d C_O_readTable 52 rfl) f_O_69 rfl rfl ?_
        refine x_iadd (x_d C_O_readTable 53 rfl) ⟨by omega, by omega⟩ ?_
        refine x_ldcS (i := 5) (x_d C_O_readTable 54 rfl) rfl ?_
        refine x_invokevirtual (st := [xC 1]) (av := [xI (q 34 + (q 360)), xS (11)]) (x_d C_O_readTable 55 rfl) k_O_111 m_T_afterThe v_T_afterThe cl_T rfl rfl (Nat.le_of_ble_eq_true rfl) (by omega) rfl (c_T_afterThe Z (d - 1) (x_up (x_up q 363 aw) 362 (-1)) (x_up r 359 (some 32)) (x_up (x_up (x_up (x_up (x_up A 13 x.1) 14 x.2.1) 34 x.2.2.1) 35 x.2.2.2.1) 12 (x_up pc (t).toNat (q 360))) dy (by omega) (i := 5) rfl (q 34 + (q 360)) hT hR) ?_
        rintro v_ _ ⟨hv_, rfl⟩
        obtain rfl : v_ = some (xI (s_the (A 2) (q 35) (q 34 + (q 360)) [120, 114, 101, 102])) := hv_
        refine x_bipush (x_d C_O_readTable 56 rfl) (by omega) ?_
        refine x_invokevirtual (st := []) (av := [xI (s_the (A 2) (q 35) (q 34 + (q 360)) [120, 114, 101, 102]), xI (10)]) (x_d C_O_readTable 57 rfl) k_O_94 m_T_afterByte v_T_afterByte cl_T rfl rfl (Nat.le_of_ble_eq_true rfl) (by omega) rfl (c_T_afterByte Z (d - 1) (x_up (x_up q 363 aw) 362 (-1)) (x_up r 359 (some 32)) (x_up (x_up (x_up (x_up (x_up A 13 x.1) 14 x.2.1) 34 x.2.2.1) 35 x.2.2.2.1) 12 (x_up pc (t).toNat (q 360))) dy (by omega) (s_the (A 2) (q 35) (q 34 + (q 360)) [120, 114, 101, 102]) 10 hT (by omega)) ?_
        rintro v_ _ ⟨hv_, rfl⟩
        obtain rfl : v_ = some (xI (s_abyte (A 2) (q 35) (s_the (A 2) (q 35) (q 34 + (q 360)) [120, 114, 101, 102]) 10)) := hv_
        refine x_istore_n (l1 := [(3, xI (s_abyte (A 2) (q 35) (s_the (A 2) (q 35) (q 34 + (q 360)) [120, 114, 101, 102]) 10)), (0, xC 11), (1, xI (t)), (2, xI (x_bo (s_tw pc (q 360) t.toNat)))]) (x_d C_O_readTable 58 rfl) (by decide) rfl ?_
        refine x_aload_n (x_d C_O_readTable 59 rfl) rfl ?_
        refine x_iload_n (x_d C_O_readTable 60 rfl) rfl ?_
        refine x_iload_n (x_d C_O_readTable 61 rfl) rfl ?_
        refine x_invokevirtual (st := []) (av := [xI (s_abyte (A 2) (q 35) (s_the (A 2) (q 35) (q 34 + (q 360)) [120, 114, 101, 102]) 10), xI (t)]) (x_d C_O_readTable 62 rfl) k_O_114 m_O_readSection v_O_readSection cl_O rfl rfl (Nat.le_of_ble_eq_true rfl) (by omega) rfl (c_O_readSection Z (d - 1) (x_up q 363 aw) r (x_up A 12 (x_up pc (t).toNat (q 360))) dy (by omega) (s_hi x (-1)) (s_abyte (A 2) (q 35) (s_the (A 2) (q 35) (q 34 + (q 360)) [120, 114, 101, 102]) 10) t hT hR hz (by omega)) ?_
        rintro v_ h_ ⟨y, rfl, hr_⟩
        obtain ⟨j, rfl, hjy⟩ : ∃ j : Int, v_ = some (xI j) ∧ ((0 ≤ j ∧ j ≤ q 35 ∧ s_sect (A 2) (q 35) (q 34) t (q 1029) (s_abyte (A 2) (q 35) (s_the (A 2) (q 35) (q 34 + (q 360)) [120, 114, 101, 102]) 10) (s_hi x (-1)) = some (y, j)) ∨ (j = -1 ∧ s_sect (A 2) (q 35) (q 34) t (q 1029) (s_abyte (A 2) (q 35) (s_the (A 2) (q 35) (q 34 + (q 360)) [120, 114, 101, 102]) 10) (s_hi x (-1)) = none)) := by
          rcases hr_ with ⟨j, h1, h2⟩ | ⟨h1, h2⟩
          · exact ⟨j, h1, Or.inl ⟨(s_sect_in h2).1, (s_sect_in h2).2.1, h2⟩⟩
          · exact ⟨-1, h1, Or.inr ⟨rfl, h2⟩⟩
        clear hr_
        refine x_istore_n (l1 := [(3, xI (j)), (0, xC 11), (1, xI (t)), (2, xI (x_bo (s_tw pc (q 360) t.toNat)))]) (x_d C_O_readTable 63 rfl) (by decide) rfl ?_
        refine x_iconst (x_d C_O_readTable 64 rfl) ⟨by omega, by omega⟩ ?_
        refine x_istore (l1 := [(4, xI (0)), (3, xI (j)), (0, xC 11), (1, xI (t)), (2, xI (x_bo (s_tw pc (q 360) t.toNat)))]) (x_d C_O_readTable 65 rfl) (by decide) rfl ?_
        refine x_locs [2, 3, 4, 1, 0] rfl ?_
        have e0 : s_tab (A 2) (q 35) (q 34) t (q 1029) (q 360) pls x = (s_sect (A 2) (q 35) (q 34) t (q 1029) (s_abyte (A 2) (q 35) (s_the (A 2) (q 35) (q 34 + q 360) [120, 114, 101, 102]) 10) (s_hi x (-1))).bind (fun y => s_tl (A 2) (q 35) (q 34) t (q 1029) 4000 y.2 y.1) := by
          unfold s_tab
          rw [if_neg]
          rintro (z | z | z)
          · rcases hbw with ⟨h1, h2⟩ | ⟨h1, h2⟩
            · omega
            · exact h2 z
          · omega
          · omega
        refine xW_post ?_ (w_O_readTable_121 Z d q r A dy hd t (x_bo (s_tw pc (q 360) t.toNat)) (x_up pc t.toNat (q 360)) hT hR hz ht 4000 y aw j 0 (by omega) (by omega))
        rcases hjy with ⟨j1, j2, j3⟩ | ⟨j1, j3⟩
        · rw [e0, j3]
          exact fun _ _ h => h
        · rw [e0, j3, j1, s_tl_neg]
          exact fun _ _ h => h
      · refine x_iconst (x_d C_O_readTable 33 rfl) ⟨by omega, by omega⟩ ?_
        refine x_ireturn (x_d C_O_readTable 34 rfl) ?_
        refine ⟨x, aw, pc, rfl, Or.inr ⟨rfl, ?_⟩⟩
        unfold s_tab
        rw [if_pos]
        rcases hbw with ⟨h1, h2⟩ | ⟨h1, h2⟩
        · exact Or.inl h2
        · first | exact Or.inr (Or.inl (by omega)) | exact Or.inr (Or.inr (by omega)) | omega
