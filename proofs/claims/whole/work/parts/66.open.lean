/-! the opener: whether the objects stand -/
def s_ln (ob : Int → Option (List tk × Int)) (us : Nat → Int) : Nat → Int := fun k => if us k = 0 then 0 else ((s_tks ob k).length : Int)
/-- there is no fault 5 -/
def s_obj5 (b : Nat → Int) (n : Int) (ob : Int → Option (List tk × Int)) (gn us : Nat → Int) (sz : Int) : Prop := (∀ k : Nat, (k : Int) < sz → ¬ us k = 0 → ∃ y, ob k = some y) ∧ s_sm (s_ln ob us) sz.toNat ≤ 900 ∧ ∀ k : Nat, (k : Int) < sz → ¬ us k = 0 → 0 ≤ s_stm ob k → s_sok b n (s_len b n ob gn us sz (s_tks ob k)) (s_stm ob k)
/-- an object's parts, at the end -/
def s_fin (b : Nat → Int) (n : Int) (ob : Int → Option (List tk × Int)) (gn us : Nat → Int) (sz : Int) (k : Int) : List tk := if 0 ≤ s_stm ob k then (9, s_abyte b n (s_stm ob k) 10, s_len b n ob gn us sz (s_tks ob k), lsp (s_tks ob k) 0, lnm (s_tks ob k) 0) :: (s_tks ob k).tail else s_tks ob k
theorem s_fin_len {b : Nat → Int} {n : Int} {ob : Int → Option (List tk × Int)} {gn us : Nat → Int} {sz k : Int} (h : 1 ≤ (s_tks ob k).length) : (s_fin b n ob gn us sz k).length = (s_tks ob k).length := by
  unfold s_fin
  split
  · rw [List.length_cons, List.length_tail]; omega
  · rfl
theorem s_sm_mono {f : Nat → Int} (hf : ∀ k, 0 ≤ f k) : ∀ {n k : Nat}, k ≤ n → s_sm f k ≤ s_sm f n
  | 0, k, h => by rw [show k = 0 by omega]; exact Int.le_refl _
  | n + 1, k, h => by
    by_cases e : k = n + 1
    · rw [e]; exact Int.le_refl _
    · have h1 := s_sm_mono hf (n := n) (k := k) (by omega)
      have h2 := hf n
      show s_sm f k ≤ s_sm f n + f n
      omega
theorem s_ln_0 (ob : Int → Option (List tk × Int)) (us : Nat → Int) (k : Nat) : 0 ≤ s_ln ob us k := by
  unfold s_ln
  split <;> omega
theorem s_ob1_in {b : Nat → Int} (hB : ∀ j, -128 ≤ b j ∧ b j ≤ 127) {n f pl gn k : Int} {y : List tk × Int} (h : s_ob1 b n f pl gn k = some y) : 1 ≤ y.1.length ∧ s_bh (lsp y.1) 0 = y.1.length ∧ (0 ≤ y.2 → y.2 ≤ n ∧ lkd y.1 0 = 7) := by
  unfold s_ob1 at h
  obtain ⟨z, h1, h2⟩ := Option.bind_eq_some_iff.mp h
  have h3 := s_bh_0 hB h1
  by_cases c7 : lkd z.1 0 = 7
  · simp only [if_pos c7] at h2
    split at h2
    · cases h2
    · have h2 := Option.some.inj h2
      rw [← h2]
      have := s_the_in b n (s_sc s_white b n z.2) [115, 116, 114, 101, 97, 109]
      exact ⟨h3.2, h3.1, fun h0 => ⟨by show s_the b n (s_sc s_white b n z.2) _ ≤ n; omega, c7⟩⟩
  · simp only [if_neg c7] at h2
    split at h2
    · cases h2
    · have h2 := Option.some.inj h2
      rw [← h2]
      exact ⟨h3.2, h3.1, fun h0 => absurd h0 (by show ¬ (0 : Int) ≤ -1; omega)⟩
theorem s_tks_of {ob : Int → Option (List tk × Int)} {k : Int} {y : List tk × Int} (h : ob k = some y) : s_tks ob k = y.1 ∧ s_stm ob k = y.2 := by
  unfold s_tks s_stm
  rw [h]
  exact ⟨rfl, rfl⟩
theorem s_tok_9u (P : Nat → Nat → Int) (a : Nat) (x y z : Int) (j : Nat) : s_tok (x_up (x_up (x_up P 5 (x_up (P 5) a x)) 6 (x_up (P 6) a y)) 7 (x_up (P 7) a z)) j = if j = a then (x, y, z, P 8 j, P 9 j) else s_tok P j := by
  show (x_up (P 5) a x j, x_up (P 6) a y j, x_up (P 7) a z j, P 8 j, P 9 j) = _
  by_cases e : j = a
  · rw [if_pos e, e, x_up_s, x_up_s, x_up_s]
  · rw [if_neg e, x_up_n _ _ e, x_up_n _ _ e, x_up_n _ _ e]; rfl
theorem w_O_objectsStand_66 (Z : xZ) (d : Nat) (q : Nat → Int) (r : Nat → Option Nat) (A : Nat → Nat → Int) (dy : xH) (hd : 40 ≤ d) (t0 : Int) (P0 : Nat → Nat → Int) (ob : Int → Option (List tk × Int)) (hob : ob = (fun k : Int => s_ob1 (A 2) (q 35) (q 34) (A 14 k.toNat) (A 34 k.toNat) k)) (hT : 0 ≤ q 34 ∧ q 34 ≤ q 35 ∧ q 35 ≤ 10248) (hR : s_okR A) (hB : ∀ j, -128 ≤ A 2 j ∧ A 2 j ≤ 127) (hz : 0 ≤ q 1029 ∧ q 1029 ≤ 300) (hplc : ∀ k : Nat, (k : Int) < q 1029 → ¬ A 35 k = 0 → 0 ≤ A 14 k ∧ A 14 k ≤ 10248) (ht0 : 0 ≤ t0 ∧ t0 + 900 + (q 35 - q 34) < 12900) (hall : ∀ k : Nat, (k : Int) < q 1029 → ¬ A 35 k = 0 → ∃ y, ob k = some y) (hsum : s_sm (s_ln ob (A 35)) (q 1029).toNat ≤ 900) (rt sm : Nat → Int) (hrt : ∀ j, 0 ≤ rt j ∧ rt j ≤ 12900) (hrk : ∀ k : Nat, (k : Int) < q 1029 → ¬ A 35 k = 0 → rt k = t0 + s_sm (s_ln ob (A 35)) k ∧ sm k = s_stm ob k) (t : Int) (ht : t = t0 + s_sm (s_ln ob (A 35)) (q 1029).toNat) : ∀ (m : Nat) (P : Nat → Nat → Int) (u : Int), (0 ≤ u ∧ u + m = q 1029) → s_keep t0.toNat P0 P → s_ok5 P → (∀ k : Nat, (k : Int) < q 1029 → ¬ A 35 k = 0 → s_at P (rt k).toNat (if (k : Int) < u then s_fin (A 2) (q 35) ob (A 34) (A 35) (q 1029) k else s_tks ob k)) → (∀ k : Nat, (k : Int) < u → ¬ A 35 k = 0 → 0 ≤ s_stm ob k → s_sok (A 2) (q 35) (s_len (A 2) (q 35) ob (A 34) (A 35) (q 1029) (s_tks ob k)) (s_stm ob k)) → xW Z d Y_O_objectsStand 66 [(0, xC 11), (1, xI t0), (2, xI u)] [] (hF (x_up q 133 t) (x_up r 359 (some 32)) (x_up (x_up (s_pt A P) 15 sm) 33 rt) ++ dy) (fun v0 h2 => ∃ t2 P2 sm2 rt2, h2 = hF (x_up q 133 t2) (x_up r 359 (some 32)) (x_up (x_up (s_pt A P2) 15 sm2) 33 rt2) ++ dy ∧ s_keep t0.toNat P0 P2 ∧ s_ok5 P2 ∧ t0 ≤ t2 ∧ t2 ≤ 12900 ∧ (∀ j, 0 ≤ rt2 j ∧ rt2 j ≤ 12900) ∧ ((v0 = some (xI 1) ∧ s_obj5 (A 2) (q 35) ob (A 34) (A 35) (q 1029) ∧ t2 = t0 + s_sm (s_ln ob (A 35)) (q 1029).toNat ∧ ∀ k : Nat, (k : Int) < q 1029 → ¬ A 35 k = 0 → rt2 k = t0 + s_sm (s_ln ob (A 35)) k ∧ s_at P2 (rt2 k).toNat (s_fin (A 2) (q 35) ob (A 34) (A 35) (q 1029) k)) ∨ (v0 = some (xI 0) ∧ ¬ s_obj5 (A 2) (q 35) ob (A 34) (A 35) (q 1029)))) := by
  have hmn : ∀ {a b : Nat}, a ≤ b → s_sm (s_ln ob (A 35)) a ≤ s_sm (s_ln ob (A 35)) b := fun h => s_sm_mono (s_ln_0 ob (A 35)) h
  have hm0 : ∀ a : Nat, 0 ≤ s_sm (s_ln ob (A 35)) a := fun a => hmn (Nat.zero_le a)
  have hsg1 : ∀ k : Nat, (k : Int) < q 1029 → ¬ A 35 k = 0 → 1 ≤ (s_tks ob k).length ∧ s_bh (lsp (s_tks ob k)) 0 = (s_tks ob k).length ∧ (0 ≤ s_stm ob k → s_stm ob k ≤ q 35 ∧ lkd (s_tks ob k) 0 = 7) ∧ rt k + (s_tks ob k).length = t0 + s_sm (s_ln ob (A 35)) (k + 1) := fun k h1 h2 => by
    obtain ⟨y, hy⟩ := hall k h1 h2
    have e := s_tks_of hy
    have hy2 := hy
    rw [hob] at hy2
    have g := s_ob1_in hB hy2
    rw [← e.1, ← e.2] at g
    refine ⟨g.1, g.2.1, g.2.2, ?_⟩
    have hl : s_sm (s_ln ob (A 35)) (k + 1) = s_sm (s_ln ob (A 35)) k + (s_tks ob k).length := by show s_sm (s_ln ob (A 35)) k + (s_ln ob (A 35)) k = _; unfold s_ln; rw [if_neg h2]
    have := (hrk k h1 h2).1
    omega
  intro m
  induction m with
  | zero =>
    intro P u hu hkp ho hat hsk
    obtain rfl : u = q 1029 := by omega
    refine x_iload_n (x_d C_O_objectsStand 34 rfl) rfl ?_
    refine x_aload_n (x_d C_O_objectsStand 35 rfl) rfl ?_
    refine x_getfield (v := xC 32) (x_d C_O_objectsStand 36 rfl) f_O_36 rfl rfl ?_
    refine x_getfield (v := xI (q 1029)) (x_d C_O_objectsStand 37 rfl) f_O_133 rfl rfl ?_
    refine x_icmp_ge (tgt := 114) (x_d C_O_objectsStand 38 rfl) rfl (fun _ => ?_) (fun q => absurd q (by omega))
    refine x_iconst (x_d C_O_objectsStand 58 rfl) ⟨by omega, by omega⟩ ?_
    refine x_ireturn (x_d C_O_objectsStand 59 rfl) ?_
    have hmx := hm0 (q 1029).toNat
    exact ⟨t, P, sm, rt, rfl, hkp, ho, by omega, by omega, hrt, Or.inl ⟨rfl, ⟨hall, hsum, hsk⟩, ht, fun k h1 h2 => ⟨(hrk k h1 h2).1, by have := hat k h1 h2; rw [if_pos h1] at this; exact this⟩⟩⟩
  | succ m ih =>
    intro P u hu hkp ho hat hsk
    have hmx := hm0 (q 1029).toNat
    refine xW_ok (fun _ _ hok => ?_)
    have hz35 := hF_z hok 35 300 rfl u.toNat
    have huk : ((u.toNat : Nat) : Int) = u := by omega
    have hru : ¬ A 35 u.toNat = 0 → rt u.toNat = t0 + s_sm (s_ln ob (A 35)) u.toNat ∧ sm u.toNat = s_stm ob u := fun h => by have := hrk u.toNat (by omega) h; rw [huk] at this; exact this
    have hsgu : ¬ A 35 u.toNat = 0 → 1 ≤ (s_tks ob u).length ∧ s_bh (lsp (s_tks ob u)) 0 = (s_tks ob u).length ∧ (0 ≤ s_stm ob u → s_stm ob u ≤ q 35 ∧ lkd (s_tks ob u) 0 = 7) ∧ rt u.toNat + (s_tks ob u).length = t0 + s_sm (s_ln ob (A 35)) (u.toNat + 1) := fun h => by have := hsg1 u.toNat (by omega) h; rw [huk] at this; exact this
    have hmu := hmn (a := u.toNat + 1) (b := (q 1029).toNat) (by omega)
    have hsmu : ¬ A 35 u.toNat = 0 → sm u.toNat = s_stm ob u := fun h => (hru h).2
    have hctx : ∀ k : Nat, (k : Int) < q 1029 → ¬ A 35 k = 0 → sg P (rt k) (s_tks ob k) ∧ rt k + (s_tks ob k).length ≤ 12900 := fun k h1 h2 => by
      have g := hsg1 k h1 h2
      have gm := hmn (a := k + 1) (b := (q 1029).toNat) (by omega)
      refine ⟨?_, by omega⟩
      have ha := hat k h1 h2
      split at ha
      · unfold s_fin at ha
        split at ha
        · next c0 =>
          have c7 := (g.2.2.1 c0).2
          rw [s_at_cons] at ha
          have e0 := ha.1
          have etl : ∀ j, j + 1 < (s_tks ob k).length → s_tok P ((rt k).toNat + 1 + j) = (s_tks ob k).getD (j + 1) tk0 := fun j hj => by
            have := ha.2 j (by rw [List.length_tail]; omega)
            rw [this]
            cases hts : s_tks ob k with
            | nil => rw [hts] at hj; cases hj
            | cons z l => rfl
          have e1 : ∀ j, 0 < j → j < (s_tks ob k).length → P 5 ((rt k).toNat + j) = lkd (s_tks ob k) j ∧ P 6 ((rt k).toNat + j) = lon (s_tks ob k) j ∧ P 7 ((rt k).toNat + j) = ltw (s_tks ob k) j ∧ P 8 ((rt k).toNat + j) = lsp (s_tks ob k) j ∧ P 9 ((rt k).toNat + j) = lnm (s_tks ob k) j := fun j h0 hj => by
            have := etl (j - 1) (by omega)
            rw [show (rt k).toNat + 1 + (j - 1) = (rt k).toNat + j by omega, show j - 1 + 1 = j by omega] at this
            exact ⟨congrArg (fun x : tk => x.1) this, congrArg (fun x : tk => x.2.1) this, congrArg (fun x : tk => x.2.2.1) this, congrArg (fun x : tk => x.2.2.2.1) this, congrArg (fun x : tk => x.2.2.2.2) this⟩
          refine ⟨(hrt k).1, g.2.1, g.1, fun j hj => ?_, fun j hj h0 => ⟨(e1 j h0 hj).1, (e1 j h0 hj).2.1, (e1 j h0 hj).2.2.1⟩, Or.inr ⟨congrArg (fun x : tk => x.1) e0, c7⟩⟩
          by_cases j0 : j = 0
          · subst j0; rw [Nat.add_zero]; exact ⟨congrArg (fun x : tk => x.2.2.2.1) e0, congrArg (fun x : tk => x.2.2.2.2) e0⟩
          · exact (e1 j (by omega) hj).2.2.2
        · exact sg_of (hrt k).1 g.2.1 g.1 ha
      · exact sg_of (hrt k).1 g.2.1 g.1 ha
    refine x_iload_n (x_d C_O_objectsStand 34 rfl) rfl ?_
    refine x_aload_n (x_d C_O_objectsStand 35 rfl) rfl ?_
    refine x_getfield (v := xC 32) (x_d C_O_objectsStand 36 rfl) f_O_36 rfl rfl ?_
    refine x_getfield (v := xI (q 1029)) (x_d C_O_objectsStand 37 rfl) f_O_133 rfl rfl ?_
    refine x_icmp_ge (tgt := 114) (x_d C_O_objectsStand 38 rfl) rfl (fun q => absurd q (by omega)) (fun _ => ?_)
    refine x_aload_n (x_d C_O_objectsStand 39 rfl) rfl ?_
    refine x_getfield (v := xC 32) (x_d C_O_objectsStand 40 rfl) f_O_36 rfl rfl ?_
    refine x_getfield (v := xC 35) (x_d C_O_objectsStand 41 rfl) f_O_145 rfl rfl ?_
    refine x_iload_n (x_d C_O_objectsStand 42 rfl) rfl ?_
    refine x_zaload (f := A 35) (x_d C_O_objectsStand 43 rfl) rfl (by omega) (by omega) ?_
    refine x_if_eq (tgt := 108) (x_d C_O_objectsStand 44 rfl) rfl (fun c2 => ?_) (fun c2 => ?_)
    · refine x_iinc (l1 := [(2, xI (u + 1)), (0, xC 11), (1, xI (t0))]) (x_d C_O_objectsStand 56 rfl) rfl ⟨by omega, by omega⟩ (by decide) rfl ?_
      refine x_goto (tgt := 66) (x_d C_O_objectsStand 57 rfl) rfl ?_
      refine x_locs [1, 2, 0] rfl ?_
      refine ih P (u + 1) (by omega) hkp ho (fun k h1 h2 => ?_) (fun k h1 h2 h3 => ?_)
      · have ha := hat k h1 h2
        by_cases c : (k : Int) < u
        · rw [if_pos c] at ha; rw [if_pos (by omega)]; exact ha
        · rw [if_neg c] at ha
          by_cases c2 : (k : Int) < u + 1
          · rw [if_pos c2]
            have ek : k = u.toNat := by omega
            subst ek
            rw [huk] at ha ⊢
            unfold s_fin
            rw [if_neg (by have := hsmu h2; omega)]
            exact ha
          · rw [if_neg c2]; exact ha
      · by_cases c : (k : Int) < u
        · exact hsk k c h2 h3
        · have ek : k = u.toNat := by omega
          subst ek
          rw [huk] at h3
          have := hsmu h2
          omega
    · refine x_aload_n (x_d C_O_objectsStand 45 rfl) rfl ?_
      refine x_getfield (v := xC 15) (x_d C_O_objectsStand 46 rfl) f_O_21 rfl rfl ?_
      refine x_iload_n (x_d C_O_objectsStand 47 rfl) rfl ?_
      refine x_iaload (f := sm) (x_d C_O_objectsStand 48 rfl) rfl (by omega) (by omega) ?_
      refine x_if_lt (tgt := 108) (x_d C_O_objectsStand 49 rfl) rfl (fun c3 => ?_) (fun c3 => ?_)
      · refine x_iinc (l1 := [(2, xI (u + 1)), (0, xC 11), (1, xI (t0))]) (x_d C_O_objectsStand 56 rfl) rfl ⟨by omega, by omega⟩ (by decide) rfl ?_
        refine x_goto (tgt := 66) (x_d C_O_objectsStand 57 rfl) rfl ?_
        refine x_locs [1, 2, 0] rfl ?_
        refine ih P (u + 1) (by omega) hkp ho (fun k h1 h2 => ?_) (fun k h1 h2 h3 => ?_)
        · have ha := hat k h1 h2
          by_cases c : (k : Int) < u
          · rw [if_pos c] at ha; rw [if_pos (by omega)]; exact ha
          · rw [if_neg c] at ha
            by_cases c2 : (k : Int) < u + 1
            · rw [if_pos c2]
              have ek : k = u.toNat := by omega
              subst ek
              rw [huk] at ha ⊢
              unfold s_fin
              rw [if_neg (by have := hsmu h2; omega)]
              exact ha
            · rw [if_neg c2]; exact ha
        · by_cases c : (k : Int) < u
          · exact hsk k c h2 h3
          · have ek : k = u.toNat := by omega
            subst ek
            rw [huk] at h3
            have := hsmu h2
            omega
      · refine x_aload_n (x_d C_O_objectsStand 50 rfl) rfl ?_
        refine x_iload_n (x_d C_O_objectsStand 51 rfl) rfl ?_
        refine x_invokevirtual (st := []) (av := [xI (u)]) (x_d C_O_objectsStand 52 rfl) k_O_186 m_O_readStream v_O_readStream cl_O rfl rfl (Nat.le_of_ble_eq_true rfl) (by omega) rfl (c_O_readStream Z (d - 1) q r A dy (by omega) t P sm rt ob u (s_tks ob u) hT hR hz ho hctx (by omega) (by have := hsgu (by omega); have := hsmu (by omega); omega) (by have := (hctx u.toNat (by omega) (by omega)).1; rw [huk] at this; exact this) (by have := (hctx u.toNat (by omega) (by omega)).2; rw [huk] at this; exact this)) ?_
        rintro v_ h_ hr_
        obtain ⟨z, P1, rfl, rfl, hzP⟩ : ∃ (z : Int) (P1 : Nat → Nat → Int), v_ = some (xI z) ∧ h_ = hF (x_up q 133 t) (x_up r 359 (some 32)) (x_up (x_up (s_pt A P1) 15 sm) 33 rt) ++ dy ∧ ((z = 1 ∧ s_sok (A 2) (q 35) (s_len (A 2) (q 35) ob (A 34) (A 35) (q 1029) (s_tks ob u)) (sm u.toNat) ∧ P1 = (x_up (x_up (x_up P 5 (x_up (P 5) (rt u.toNat).toNat 9)) 6 (x_up (P 6) (rt u.toNat).toNat (s_abyte (A 2) (q 35) (sm u.toNat) 10))) 7 (x_up (P 7) (rt u.toNat).toNat (s_len (A 2) (q 35) ob (A 34) (A 35) (q 1029) (s_tks ob u))))) ∨ (z = 0 ∧ ¬ s_sok (A 2) (q 35) (s_len (A 2) (q 35) ob (A 34) (A 35) (q 1029) (s_tks ob u)) (sm u.toNat) ∧ P1 = P)) := by
          rcases hr_ with ⟨h1, h2, h3⟩ | ⟨h1, h2, h3⟩
          · exact ⟨1, _, h1, h3, Or.inl ⟨rfl, h2, rfl⟩⟩
          · exact ⟨0, P, h1, h3, Or.inr ⟨rfl, h2, rfl⟩⟩
        clear hr_
        refine x_if_ne (tgt := 108) (x_d C_O_objectsStand 53 rfl) rfl (fun c4 => ?_) (fun c4 => ?_)
        · refine x_iinc (l1 := [(2, xI (u + 1)), (0, xC 11), (1, xI (t0))]) (x_d C_O_objectsStand 56 rfl) rfl ⟨by omega, by omega⟩ (by decide) rfl ?_
          refine x_goto (tgt := 66) (x_d C_O_objectsStand 57 rfl) rfl ?_
          refine x_locs [1, 2, 0] rfl ?_
          obtain ⟨hs0, hP1⟩ : s_sok (A 2) (q 35) (s_len (A 2) (q 35) ob (A 34) (A 35) (q 1029) (s_tks ob u)) (sm u.toNat) ∧ P1 = _ := by rcases hzP with ⟨_, a, b⟩ | ⟨a, _⟩; exact ⟨a, b⟩; omega
          have hus : ¬ A 35 u.toNat = 0 := by omega
          have hruu := hru hus
          have hgu := hsgu hus
          rw [hruu.2] at hs0 hP1
          have htk : ∀ j, s_tok P1 j = if j = (rt u.toNat).toNat then (9, s_abyte (A 2) (q 35) (s_stm ob u) 10, s_len (A 2) (q 35) ob (A 34) (A 35) (q 1029) (s_tks ob u), P 8 j, P 9 j) else s_tok P j := fun j => by rw [hP1]; exact s_tok_9u P _ _ _ _ j
          have hrn := (hrt u.toNat).1
          refine ih P1 (u + 1) (by omega) (fun j hj => by rw [htk, if_neg (by have := hm0 u.toNat; omega)]; exact hkp j hj) (by rw [hP1]; exact ⟨ho.1, ho.2⟩) (fun k h1 h2 => ?_) (fun k h1 h2 h3 => ?_)
          · have ha := hat k h1 h2
            have gk := hsg1 k h1 h2
            have rk := (hrk k h1 h2).1
            have rk0 := (hrt k).1
            by_cases c : k = u.toNat
            · subst c
              rw [if_neg (by omega), huk] at ha
              rw [if_pos (by omega), huk]
              unfold s_fin
              rw [if_pos (by have := hsmu hus; omega)]
              rw [s_at_cons]
              refine ⟨?_, fun j hj => ?_⟩
              · rw [htk, if_pos rfl]
                have g0 := s_at_get ha (j := 0) (by omega)
                rw [Nat.add_zero] at g0
                rw [g0.2.2.2.1, g0.2.2.2.2]
              · rw [htk, if_neg (by omega)]
                rw [List.length_tail] at hj
                have g1 := ha (j + 1) (by omega)
                rw [show (rt u.toNat).toNat + 1 + j = (rt u.toNat).toNat + (j + 1) by omega, g1]
                cases hts : s_tks ob u with
                | nil => rw [hts] at hj; exact absurd hj (by simp)
                | cons z l => rfl
            · have hdis : (rt k).toNat + (s_tks ob k).length ≤ (rt u.toNat).toNat ∨ (rt u.toNat).toNat < (rt k).toNat := by
                by_cases c2 : k < u.toNat
                · have := hmn (a := k + 1) (b := u.toNat) (by omega); left; omega
                · have := hmn (a := u.toNat + 1) (b := k) (by omega); right; omega
              have hlen : (if (k : Int) < u then s_fin (A 2) (q 35) ob (A 34) (A 35) (q 1029) k else s_tks ob k).length = (s_tks ob k).length := by split; exact s_fin_len gk.1; rfl
              have e1 : (if (k : Int) < u + 1 then s_fin (A 2) (q 35) ob (A 34) (A 35) (q 1029) k else s_tks ob k) = (if (k : Int) < u then s_fin (A 2) (q 35) ob (A 34) (A 35) (q 1029) k else s_tks ob k) := by by_cases c3 : (k : Int) < u; rw [if_pos c3, if_pos (by omega)]; rw [if_neg c3, if_neg (by omega)]
              rw [e1]
              intro j hj
              rw [htk, if_neg (by rw [hlen] at hj; omega)]
              exact ha j hj
          · by_cases c : (k : Int) < u
            · exact hsk k c h2 h3
            · have ek : k = u.toNat := by omega
              subst ek
              rw [huk] at h3 ⊢
              exact hs0
        · refine x_iconst (x_d C_O_objectsStand 54 rfl) ⟨by omega, by omega⟩ ?_
          refine x_ireturn (x_d C_O_objectsStand 55 rfl) ?_
          have hns : ¬ s_sok (A 2) (q 35) (s_len (A 2) (q 35) ob (A 34) (A 35) (q 1029) (s_tks ob u)) (sm u.toNat) ∧ P1 = P := by rcases hzP with ⟨a, _⟩ | ⟨_, a, b⟩; omega; exact ⟨a, b⟩
          have hus : ¬ A 35 u.toNat = 0 := by omega
          have hge : 0 ≤ sm u.toNat := by omega
          have hse := hsmu hus
          refine ⟨t, P1, sm, rt, rfl, by rw [hns.2]; exact hkp, by rw [hns.2]; exact ho, by omega, by omega, hrt, Or.inr ⟨rfl, fun z => hns.1 ?_⟩⟩
          have := z.2.2 u.toNat (by omega) hus (by rw [huk]; omega)
          rw [huk] at this
          rw [hse]
          exact this
theorem w_O_objectsStand_10 (Z : xZ) (d : Nat) (q : Nat → Int) (r : Nat → Option Nat) (A : Nat → Nat → Int) (dy : xH) (hd : 40 ≤ d) (t0 : Int) (P0 : Nat → Nat → Int) (ob : Int → Option (List tk × Int)) (hob : ob = (fun k : Int => s_ob1 (A 2) (q 35) (q 34) (A 14 k.toNat) (A 34 k.toNat) k)) (hT : 0 ≤ q 34 ∧ q 34 ≤ q 35 ∧ q 35 ≤ 10248) (hR : s_okR A) (hB : ∀ j, -128 ≤ A 2 j ∧ A 2 j ≤ 127) (hz : 0 ≤ q 1029 ∧ q 1029 ≤ 300) (hplc : ∀ k : Nat, (k : Int) < q 1029 → ¬ A 35 k = 0 → 0 ≤ A 14 k ∧ A 14 k ≤ 10248) (ht0 : 0 ≤ t0 ∧ t0 + 900 + (q 35 - q 34) < 12900) : ∀ (m : Nat) (t : Int) (P : Nat → Nat → Int) (sm rt : Nat → Int) (u : Int), (0 ≤ u ∧ u + m = q 1029) → s_keep t0.toNat P0 P → s_ok5 P → (∀ j, 0 ≤ rt j ∧ rt j ≤ 12900) → (t = t0 + s_sm (s_ln ob (A 35)) u.toNat ∧ s_sm (s_ln ob (A 35)) u.toNat ≤ 900) → (∀ k : Nat, (k : Int) < u → ¬ A 35 k = 0 → (∃ y, ob k = some y) ∧ rt k = t0 + s_sm (s_ln ob (A 35)) k ∧ sm k = s_stm ob k ∧ s_at P (rt k).toNat (s_tks ob k)) → xW Z d Y_O_objectsStand 10 [(0, xC 11), (1, xI t0), (2, xI u)] [] (hF (x_up q 133 t) (x_up r 359 (some 32)) (x_up (x_up (s_pt A P) 15 sm) 33 rt) ++ dy) (fun v0 h2 => ∃ t2 P2 sm2 rt2, h2 = hF (x_up q 133 t2) (x_up r 359 (some 32)) (x_up (x_up (s_pt A P2) 15 sm2) 33 rt2) ++ dy ∧ s_keep t0.toNat P0 P2 ∧ s_ok5 P2 ∧ t0 ≤ t2 ∧ t2 ≤ 12900 ∧ (∀ j, 0 ≤ rt2 j ∧ rt2 j ≤ 12900) ∧ ((v0 = some (xI 1) ∧ s_obj5 (A 2) (q 35) ob (A 34) (A 35) (q 1029) ∧ t2 = t0 + s_sm (s_ln ob (A 35)) (q 1029).toNat ∧ ∀ k : Nat, (k : Int) < q 1029 → ¬ A 35 k = 0 → rt2 k = t0 + s_sm (s_ln ob (A 35)) k ∧ s_at P2 (rt2 k).toNat (s_fin (A 2) (q 35) ob (A 34) (A 35) (q 1029) k)) ∨ (v0 = some (xI 0) ∧ ¬ s_obj5 (A 2) (q 35) ob (A 34) (A 35) (q 1029)))) := by
  have hmn : ∀ {a b : Nat}, a ≤ b → s_sm (s_ln ob (A 35)) a ≤ s_sm (s_ln ob (A 35)) b := fun h => s_sm_mono (s_ln_0 ob (A 35)) h
  have hm0 : ∀ a : Nat, 0 ≤ s_sm (s_ln ob (A 35)) a := fun a => hmn (Nat.zero_le a)
  intro m
  induction m with
  | zero =>
    intro t P sm rt u hu hkp ho hrt ht hin
    obtain rfl : u = q 1029 := by omega
    refine x_iload_n (x_d C_O_objectsStand 6 rfl) rfl ?_
    refine x_aload_n (x_d C_O_objectsStand 7 rfl) rfl ?_
    refine x_getfield (v := xC 32) (x_d C_O_objectsStand 8 rfl) f_O_36 rfl rfl ?_
    refine x_getfield (v := xI (q 1029)) (x_d C_O_objectsStand 9 rfl) f_O_133 rfl rfl ?_
    refine x_icmp_ge (tgt := 64) (x_d C_O_objectsStand 10 rfl) rfl (fun _ => ?_) (fun q => absurd q (by omega))
    refine x_iconst (x_d C_O_objectsStand 32 rfl) ⟨by omega, by omega⟩ ?_
    refine x_istore_n (l1 := [(2, xI (0)), (0, xC 11), (1, xI (t0))]) (x_d C_O_objectsStand 33 rfl) (by decide) rfl ?_
    refine x_locs [1, 2, 0] rfl ?_
    exact w_O_objectsStand_66 Z d q r A dy hd t0 P0 ob hob hT hR hB hz hplc ht0 (fun k h1 h2 => (hin k h1 h2).1) ht.2 rt sm hrt (fun k h1 h2 => ⟨(hin k h1 h2).2.1, (hin k h1 h2).2.2.1⟩) t ht.1 (q 1029).toNat P 0 (by omega) hkp ho (fun k h1 h2 => by rw [if_neg (by omega)]; exact (hin k h1 h2).2.2.2) (fun k h => absurd h (by omega))
  | succ m ih =>
    intro t P sm rt u hu hkp ho hrt ht hin
    have hmx := hm0 u.toNat
    refine xW_ok (fun _ _ hok => ?_)
    have hz35 := hF_z hok 35 300 rfl u.toNat
    have huk : ((u.toNat : Nat) : Int) = u := by omega
    have hls : s_sm (s_ln ob (A 35)) (u + 1).toNat = s_sm (s_ln ob (A 35)) u.toNat + (s_ln ob (A 35)) u.toNat := s_sm_s _ (by omega)
    refine x_iload_n (x_d C_O_objectsStand 6 rfl) rfl ?_
    refine x_aload_n (x_d C_O_objectsStand 7 rfl) rfl ?_
    refine x_getfield (v := xC 32) (x_d C_O_objectsStand 8 rfl) f_O_36 rfl rfl ?_
    refine x_getfield (v := xI (q 1029)) (x_d C_O_objectsStand 9 rfl) f_O_133 rfl rfl ?_
    refine x_icmp_ge (tgt := 64) (x_d C_O_objectsStand 10 rfl) rfl (fun q => absurd q (by omega)) (fun _ => ?_)
    refine x_aload_n (x_d C_O_objectsStand 11 rfl) rfl ?_
    refine x_getfield (v := xC 32) (x_d C_O_objectsStand 12 rfl) f_O_36 rfl rfl ?_
    refine x_getfield (v := xC 35) (x_d C_O_objectsStand 13 rfl) f_O_145 rfl rfl ?_
    refine x_iload_n (x_d C_O_objectsStand 14 rfl) rfl ?_
    refine x_zaload (f := A 35) (x_d C_O_objectsStand 15 rfl) rfl (by omega) (by omega) ?_
    refine x_if_eq (tgt := 58) (x_d C_O_objectsStand 16 rfl) rfl (fun c2 => ?_) (fun c2 => ?_)
    · refine x_iinc (l1 := [(2, xI (u + 1)), (0, xC 11), (1, xI (t0))]) (x_d C_O_objectsStand 30 rfl) rfl ⟨by omega, by omega⟩ (by decide) rfl ?_
      refine x_goto (tgt := 10) (x_d C_O_objectsStand 31 rfl) rfl ?_
      refine x_locs [1, 2, 0] rfl ?_
      have hlu : (s_ln ob (A 35)) u.toNat = 0 := by unfold s_ln; rw [if_pos (by omega)]
      refine ih t P sm rt (u + 1) (by omega) hkp ho hrt (by omega) (fun k h1 h2 => hin k (by by_cases e : k = u.toNat; subst e; omega; omega) h2)
    · refine x_aload_n (x_d C_O_objectsStand 17 rfl) rfl ?_
      refine x_iload_n (x_d C_O_objectsStand 18 rfl) rfl ?_
      refine x_invokevirtual (st := []) (av := [xI (u)]) (x_d C_O_objectsStand 19 rfl) k_O_183 m_O_readObject v_O_readObject cl_O rfl rfl (Nat.le_of_ble_eq_true rfl) (by omega) rfl (c_O_readObject Z (d - 1) q r A dy (by omega) u t P sm rt hT hR hB ho (by omega) (show 0 ≤ A 14 u.toNat ∧ A 14 u.toNat ≤ 10248 from hplc u.toNat (by omega) (by omega)) (show 0 ≤ t ∧ t + (q 35 - q 34) < 12900 by omega)) ?_
      rintro v_ h_ ⟨t1, P1, sm1, rt1, rfl, k1, k2, k3, k4, krt, hr_⟩
      obtain ⟨z, rfl, hzo⟩ : ∃ z : Int, v_ = some (xI z) ∧ ((z = 1 ∧ ∃ y, ob u = some y ∧ t1 = t + y.1.length ∧ s_at P1 t.toNat y.1 ∧ s_bh (lsp y.1) 0 = y.1.length ∧ 1 ≤ y.1.length ∧ sm1 = x_up sm u.toNat y.2 ∧ rt1 = x_up rt u.toNat t) ∨ (z = 0 ∧ ob u = none)) := by
        rw [hob]
        rcases hr_ with ⟨h1, h2⟩ | ⟨h1, h2⟩
        · exact ⟨1, h1, Or.inl ⟨rfl, h2⟩⟩
        · exact ⟨0, h1, Or.inr ⟨rfl, h2⟩⟩
      clear hr_
      have hrt1 : ∀ j, 0 ≤ rt1 j ∧ rt1 j ≤ 12900 := fun j => by rcases krt j with e | e <;> rw [e]; exact hrt j; omega
      refine x_if_eq (tgt := 56) (x_d C_O_objectsStand 20 rfl) rfl (fun c3 => ?_) (fun c3 => ?_)
      · refine x_iconst (x_d C_O_objectsStand 28 rfl) ⟨by omega, by omega⟩ ?_
        refine x_ireturn (x_d C_O_objectsStand 29 rfl) ?_
        refine ⟨t1, P1, sm1, rt1, rfl, s_keep_tr hkp k1 (by omega), k2, by omega, by omega, hrt1, Or.inr ⟨rfl, fun z => ?_⟩⟩
        have hno : ob u = none := by rcases hzo with ⟨a, _⟩ | ⟨_, a⟩; omega; exact a
        obtain ⟨y, hy⟩ := z.1 u.toNat (by omega) (by omega)
        rw [huk, hno] at hy
        cases hy
      · obtain ⟨y, hy, ht1, hat, hb0, hl1, hsm1, hrt2⟩ : ∃ y, ob u = some y ∧ t1 = t + y.1.length ∧ s_at P1 t.toNat y.1 ∧ s_bh (lsp y.1) 0 = y.1.length ∧ 1 ≤ y.1.length ∧ sm1 = x_up sm u.toNat y.2 ∧ rt1 = x_up rt u.toNat t := by rcases hzo with ⟨_, a⟩ | ⟨a, _⟩; exact a; omega
        clear hzo
        have het := s_tks_of hy
        have hlu : (s_ln ob (A 35)) u.toNat = y.1.length := by unfold s_ln; rw [if_neg (by omega), huk, het.1]
        refine x_aload_n (x_d C_O_objectsStand 21 rfl) rfl ?_
        refine x_getfield (v := xC 4) (x_d C_O_objectsStand 22 rfl) f_O_28 rfl rfl ?_
        refine x_getfield (v := xI (t1)) (x_d C_O_objectsStand 23 rfl) f_O_152 rfl rfl ?_
        refine x_iload_n (x_d C_O_objectsStand 24 rfl) rfl ?_
        refine x_isub (x_d C_O_objectsStand 25 rfl) ⟨by omega, by omega⟩ ?_
        refine x_sipush (x_d C_O_objectsStand 26 rfl) (by omega) ?_
        refine x_icmp_le (tgt := 58) (x_d C_O_objectsStand 27 rfl) rfl (fun c4 => ?_) (fun c4 => ?_)
        · refine x_iinc (l1 := [(2, xI (u + 1)), (0, xC 11), (1, xI (t0))]) (x_d C_O_objectsStand 30 rfl) rfl ⟨by omega, by omega⟩ (by decide) rfl ?_
          refine x_goto (tgt := 10) (x_d C_O_objectsStand 31 rfl) rfl ?_
          refine x_locs [1, 2, 0] rfl ?_
          refine ih t1 P1 sm1 rt1 (u + 1) (by omega) (s_keep_tr hkp k1 (by omega)) k2 hrt1 (by omega) (fun k h1 h2 => ?_)
          by_cases e : k = u.toNat
          · subst e
            rw [huk, hsm1, hrt2, x_up_s, x_up_s, het.1, het.2]
            exact ⟨⟨y, hy⟩, ht.1, rfl, hat⟩
          · obtain ⟨g1, g2, g3, g4⟩ := hin k (by omega) h2
            rw [hsm1, hrt2, x_up_n _ _ e, x_up_n _ _ e]
            have gl : (s_ln ob (A 35)) k = (s_tks ob k).length := by unfold s_ln; rw [if_neg h2]
            have gm := hmn (a := k + 1) (b := u.toNat) (by omega)
            have gs : s_sm (s_ln ob (A 35)) (k + 1) = s_sm (s_ln ob (A 35)) k + (s_ln ob (A 35)) k := rfl
            have gr := hrt k
            exact ⟨g1, g2, g3, s_at_keep g4 k1 (by omega)⟩
        · refine x_iconst (x_d C_O_objectsStand 28 rfl) ⟨by omega, by omega⟩ ?_
          refine x_ireturn (x_d C_O_objectsStand 29 rfl) ?_
          refine ⟨t1, P1, sm1, rt1, rfl, s_keep_tr hkp k1 (by omega), k2, by omega, by omega, hrt1, Or.inr ⟨rfl, fun z => ?_⟩⟩
          have := z.2.1
          have gm := hmn (a := (u + 1).toNat) (b := (q 1029).toNat) (by omega)
          omega
theorem c_O_objectsStand (Z : xZ) (d : Nat) (q : Nat → Int) (r : Nat → Option Nat) (A : Nat → Nat → Int) (dy : xH) (hd : 40 ≤ d) (t0 : Int) (P0 : Nat → Nat → Int) (ob : Int → Option (List tk × Int)) (hob : ob = (fun k : Int => s_ob1 (A 2) (q 35) (q 34) (A 14 k.toNat) (A 34 k.toNat) k)) (hT : 0 ≤ q 34 ∧ q 34 ≤ q 35 ∧ q 35 ≤ 10248) (hR : s_okR A) (hB : ∀ j, -128 ≤ A 2 j ∧ A 2 j ≤ 127) (hz : 0 ≤ q 1029 ∧ q 1029 ≤ 300) (hplc : ∀ k : Nat, (k : Int) < q 1029 → ¬ A 35 k = 0 → 0 ≤ A 14 k ∧ A 14 k ≤ 10248) (ht0 : 0 ≤ t0 ∧ t0 + 900 + (q 35 - q 34) < 12900) (sm rt : Nat → Int) (ho : s_ok5 P0) (hrt : ∀ j, 0 ≤ rt j ∧ rt j ≤ 12900) : xMet Z d Y_O_objectsStand [xC 11] (hF (x_up q 133 t0) (x_up r 359 (some 32)) (x_up (x_up (s_pt A P0) 15 sm) 33 rt) ++ dy) (fun v0 h2 => ∃ t2 P2 sm2 rt2, h2 = hF (x_up q 133 t2) (x_up r 359 (some 32)) (x_up (x_up (s_pt A P2) 15 sm2) 33 rt2) ++ dy ∧ s_keep t0.toNat P0 P2 ∧ s_ok5 P2 ∧ t0 ≤ t2 ∧ t2 ≤ 12900 ∧ (∀ j, 0 ≤ rt2 j ∧ rt2 j ≤ 12900) ∧ ((v0 = some (xI 1) ∧ s_obj5 (A 2) (q 35) ob (A 34) (A 35) (q 1029) ∧ t2 = t0 + s_sm (s_ln ob (A 35)) (q 1029).toNat ∧ ∀ k : Nat, (k : Int) < q 1029 → ¬ A 35 k = 0 → rt2 k = t0 + s_sm (s_ln ob (A 35)) k ∧ s_at P2 (rt2 k).toNat (s_fin (A 2) (q 35) ob (A 34) (A 35) (q 1029) k)) ∨ (v0 = some (xI 0) ∧ ¬ s_obj5 (A 2) (q 35) ob (A 34) (A 35) (q 1029)))) := by
  refine xMet_of (by decide) (Nat.le_of_ble_eq_true rfl) (fun v0 h2 hq => by obtain ⟨_, _, _, _, _, _, _, _, _, _, ⟨e, _⟩ | ⟨e, _⟩⟩ := hq <;> rw [e]; exact Or.inr rfl; exact Or.inl rfl) ?_
  refine x_aload_n (x_d C_O_objectsStand 0 rfl) rfl ?_
  refine x_getfield (v := xC 4) (x_d C_O_objectsStand 1 rfl) f_O_28 rfl rfl ?_
  refine x_getfield (v := xI (t0)) (x_d C_O_objectsStand 2 rfl) f_O_152 rfl rfl ?_
  refine x_istore_n (l1 := [(1, xI (t0)), (0, xC 11)]) (x_d C_O_objectsStand 3 rfl) (by decide) rfl ?_
  refine x_iconst (x_d C_O_objectsStand 4 rfl) ⟨by omega, by omega⟩ ?_
  refine x_istore_n (l1 := [(2, xI (0)), (1, xI (t0)), (0, xC 11)]) (x_d C_O_objectsStand 5 rfl) (by decide) rfl ?_
  refine x_locs [2, 1, 0] rfl ?_
  exact w_O_objectsStand_10 Z d q r A dy hd t0 P0 ob hob hT hR hB hz hplc ht0 (q 1029).toNat t0 P0 sm rt 0 (by omega) (fun _ _ => rfl) ho hrt ⟨by show t0 = t0 + 0; omega, by show (0 : Int) ≤ 900; omega⟩ (fun k h => absurd h (by omega))
