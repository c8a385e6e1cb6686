/-! the opener: streams -/
def s_tks (ob : Int → Option (List tk × Int)) (k : Int) : List tk := ((ob k).map Prod.fst).getD []
def s_stm (ob : Int → Option (List tk × Int)) (k : Int) : Int := ((ob k).map Prod.snd).getD (-1)
def s_lnj (b : Nat → Int) (n : Int) (ts : List tk) : Int := s_nam (lsp ts) (lnm ts) b n 0 [76, 101, 110, 103, 116, 104]
/-- the Length of a dict -/
def s_len (b : Nat → Int) (n : Int) (ob : Int → Option (List tk × Int)) (gn us : Nat → Int) (sz : Int) (ts : List tk) : Int := if s_lnj b n ts < 0 then -1 else if s_ldt (lkd ts) (lon ts) (ltw ts) gn us sz (s_lnj b n ts) < 0 then (if lkd ts (s_lnj b n ts).toNat = 3 then lon ts (s_lnj b n ts).toNat else -1) else (if lkd (s_tks ob (s_ldt (lkd ts) (lon ts) (ltw ts) gn us sz (s_lnj b n ts))) 0 = 3 then lon (s_tks ob (s_ldt (lkd ts) (lon ts) (ltw ts) gn us sz (s_lnj b n ts))) 0 else -1)
/-- a stream's data stand: its length L, the place st behind the word stream -/
def s_sok (b : Nat → Int) (n L st : Int) : Prop := 0 ≤ s_abyte b n st 10 ∧ 0 ≤ L ∧ L ≤ n - s_abyte b n st 10 ∧ 0 ≤ s_the b n (s_sc s_white b n (s_the b n (s_abyte b n (s_abyte b n st 10 + L) 10) [101, 110, 100, 115, 116, 114, 101, 97, 109])) [101, 110, 100, 111, 98, 106]
/-- the parts ts stand from o on; the first may be a stream's already -/
def sg (P : Nat → Nat → Int) (o : Int) (ts : List tk) : Prop := 0 ≤ o ∧ s_bh (lsp ts) 0 = ts.length ∧ 1 ≤ ts.length ∧ (∀ j : Nat, j < ts.length → P 8 (o.toNat + j) = lsp ts j ∧ P 9 (o.toNat + j) = lnm ts j) ∧ (∀ j : Nat, j < ts.length → 0 < j → P 5 (o.toNat + j) = lkd ts j ∧ P 6 (o.toNat + j) = lon ts j ∧ P 7 (o.toNat + j) = ltw ts j) ∧ ((P 5 o.toNat = lkd ts 0 ∧ P 6 o.toNat = lon ts 0 ∧ P 7 o.toNat = ltw ts 0) ∨ (P 5 o.toNat = 9 ∧ lkd ts 0 = 7))
theorem sg_of {P : Nat → Nat → Int} {o : Int} {ts : List tk} (h0 : 0 ≤ o) (hb : s_bh (lsp ts) 0 = ts.length) (hl : 1 ≤ ts.length) (h : s_at P o.toNat ts) : sg P o ts := by
  refine ⟨h0, hb, hl, fun j hj => ⟨(s_at_get h hj).2.2.2.1, (s_at_get h hj).2.2.2.2⟩, fun j hj _ => ⟨(s_at_get h hj).1, (s_at_get h hj).2.1, (s_at_get h hj).2.2.1⟩, Or.inl ?_⟩
  have := s_at_get h (j := 0) hl
  rw [Nat.add_zero] at this
  exact ⟨this.1, this.2.1, this.2.2.1⟩
theorem sg_keep {P P2 : Nat → Nat → Int} {o : Int} {ts : List tk} (h : sg P o ts) (hk : ∀ j : Nat, o.toNat ≤ j → j < o.toNat + ts.length → s_tok P2 j = s_tok P j) : sg P2 o ts := by
  obtain ⟨h1, h2, h3, h4, h5, h6⟩ := h
  have e : ∀ j, j < ts.length → P2 5 (o.toNat + j) = P 5 (o.toNat + j) ∧ P2 6 (o.toNat + j) = P 6 (o.toNat + j) ∧ P2 7 (o.toNat + j) = P 7 (o.toNat + j) ∧ P2 8 (o.toNat + j) = P 8 (o.toNat + j) ∧ P2 9 (o.toNat + j) = P 9 (o.toNat + j) := fun j hj => by
    have := hk (o.toNat + j) (by omega) (by omega)
    exact ⟨congrArg (fun x : tk => x.1) this, congrArg (fun x : tk => x.2.1) this, congrArg (fun x : tk => x.2.2.1) this, congrArg (fun x : tk => x.2.2.2.1) this, congrArg (fun x : tk => x.2.2.2.2) this⟩
  have e0 := e 0 (by omega)
  rw [Nat.add_zero] at e0
  refine ⟨h1, h2, h3, fun j hj => ?_, fun j hj h0 => ?_, ?_⟩
  · rw [(e j hj).2.2.2.1, (e j hj).2.2.2.2]; exact h4 j hj
  · rw [(e j hj).1, (e j hj).2.1, (e j hj).2.2.1]; exact h5 j hj h0
  · rw [e0.1, e0.2.1, e0.2.2.1]; exact h6
theorem sg_bh {P : Nat → Nat → Int} {o : Int} {ts : List tk} (h : sg P o ts) : s_bh (P 8) o = o + ts.length := by
  obtain ⟨h1, h2, h3, h4, -⟩ := h
  have e := (h4 0 (by omega)).1
  rw [Nat.add_zero] at e
  unfold s_bh at h2 ⊢
  rw [e]
  have h2 : 0 + max 1 (lsp ts 0) = ts.length := h2
  omega
theorem sg_nam {P : Nat → Nat → Int} {o : Int} {ts : List tk} (h : sg P o ts) (b : Nat → Int) (n : Int) (cs : List Int) : s_nam (P 8) (P 9) b n o cs = if s_nam (lsp ts) (lnm ts) b n 0 cs < 0 then -1 else o + s_nam (lsp ts) (lnm ts) b n 0 cs := s_nam_sh h.1 (fun j hj => by rw [h.2.1] at hj; exact h.2.2.2.1 j (by omega))
theorem c_O_lengthOf (Z : xZ) (d : Nat) (q : Nat → Int) (r : Nat → Option Nat) (A : Nat → Nat → Int) (dy : xH) (hd : 7 ≤ d) (t : Int) (P : Nat → Nat → Int) (sm rt : Nat → Int) (ob : Int → Option (List tk × Int)) (p : Int) (ts : List tk) (hT : 0 ≤ q 34 ∧ q 34 ≤ q 35 ∧ q 35 ≤ 10248) (hR : s_okR A) (hz : 0 ≤ q 1029 ∧ q 1029 ≤ 300) (ho : s_ok5 P) (hctx : ∀ k : Nat, (k : Int) < q 1029 → ¬ A 35 k = 0 → sg P (rt k) (s_tks ob k) ∧ rt k + (s_tks ob k).length ≤ 12900) (hsg : sg P p ts) (hpl : p + ts.length ≤ 12900) : xMet Z d Y_O_lengthOf [xC 11, xI p] (hF (x_up q 133 t) (x_up r 359 (some 32)) (x_up (x_up (s_pt A P) 15 sm) 33 rt) ++ dy) (fun v h2 => v = some (xI (s_len (A 2) (q 35) ob (A 34) (A 35) (q 1029) ts)) ∧ h2 = hF (x_up q 133 t) (x_up r 359 (some 32)) (x_up (x_up (s_pt A P) 15 sm) 33 rt) ++ dy) := by
  refine xMet_of (by decide) (Nat.le_of_ble_eq_true rfl) (fun v h2 hq => by rw [hq.1]; trivial) ?_
  have hb := sg_bh hsg
  have hna := sg_nam hsg (A 2) (q 35) [76, 101, 110, 103, 116, 104]
  have hni := s_nam_in (lsp ts) (lnm ts) (A 2) (q 35) [76, 101, 110, 103, 116, 104]
  obtain ⟨s1, s2, s3, s4, s5, s6⟩ := hsg
  rw [s2] at hni
  obtain ⟨j, hj⟩ : ∃ j, j = s_lnj (A 2) (q 35) ts := ⟨_, rfl⟩
  have hj0 : s_nam (lsp ts) (lnm ts) (A 2) (q 35) 0 [76, 101, 110, 103, 116, 104] = j := hj.symm
  rw [hj0] at hna hni
  refine x_aload_n (x_d C_O_lengthOf 0 rfl) rfl ?_
  refine x_getfield (v := xC 4) (x_d C_O_lengthOf 1 rfl) f_O_28 rfl rfl ?_
  refine x_iload_n (x_d C_O_lengthOf 2 rfl) rfl ?_
  refine x_ldcS (i := 19) (x_d C_O_lengthOf 3 rfl) rfl ?_
  refine x_invokevirtual (st := []) (av := [xI (p), xS (39)]) (x_d C_O_lengthOf 4 rfl) k_O_167 m_P_named v_P_named cl_P rfl rfl (Nat.le_of_ble_eq_true rfl) (by omega) rfl (c_P_named Z (d - 1) (x_up q 133 t) (x_up r 359 (some 32)) (x_up (x_up (x_up (x_up (x_up (x_up (x_up A 5 (P 5)) 6 (P 6)) 7 (P 7)) 8 (P 8)) 9 (P 9)) 15 sm) 33 rt) dy (by omega) (i := 19) rfl p hT hR ho.1 (show 0 ≤ p ∧ p < 12900 ∧ s_bh (P 8) p ≤ 12900 by omega)) ?_
  rintro v_ _ ⟨hv_, rfl⟩
  obtain ⟨lp, hlp⟩ : ∃ z, z = s_nam (P 8) (P 9) (A 2) (q 35) p [76, 101, 110, 103, 116, 104] := ⟨_, rfl⟩
  obtain rfl : v_ = some (xI lp) := by rw [hlp]; exact hv_
  rw [← hlp] at hna
  have hlj : (lp = -1 ∧ j = -1) ∨ (lp = p + j ∧ 0 < j ∧ j < ts.length ∧ P 5 lp.toNat = lkd ts j.toNat ∧ P 6 lp.toNat = lon ts j.toNat ∧ P 7 lp.toNat = ltw ts j.toNat) := by
    rcases hni with e | e
    · left; rw [if_pos (by omega)] at hna; exact ⟨hna, e⟩
    · right; rw [if_neg (by omega)] at hna; have g := s5 j.toNat (by omega) (by omega); rw [show p.toNat + j.toNat = lp.toNat by omega] at g; exact ⟨hna, e.1, e.2, g⟩
  refine x_istore_n (l1 := [(2, xI (lp)), (0, xC 11), (1, xI (p))]) (x_d C_O_lengthOf 5 rfl) (by decide) rfl ?_
  refine x_aload_n (x_d C_O_lengthOf 6 rfl) rfl ?_
  refine x_getfield (v := xC 32) (x_d C_O_lengthOf 7 rfl) f_O_36 rfl rfl ?_
  refine x_iload_n (x_d C_O_lengthOf 8 rfl) rfl ?_
  refine x_invokevirtual (st := []) (av := [xI (lp)]) (x_d C_O_lengthOf 9 rfl) k_O_213 m_B_leadsTo v_B_leadsTo cl_B rfl rfl (Nat.le_of_ble_eq_true rfl) (by omega) rfl (c_B_leadsTo_32 Z (d - 1) (x_up q 133 t) (x_up r 359 (some 32)) (x_up (x_up (x_up (x_up (x_up (x_up (x_up A 5 (P 5)) 6 (P 6)) 7 (P 7)) 8 (P 8)) 9 (P 9)) 15 sm) 33 rt) dy (by omega) lp (show 0 ≤ q 1029 ∧ q 1029 ≤ 300 from hz) (by omega)) ?_
  rintro v_ _ ⟨hv_, rfl⟩
  obtain ⟨n2, hn2⟩ : ∃ z, z = s_ldt (P 5) (P 6) (P 7) (A 34) (A 35) (q 1029) lp := ⟨_, rfl⟩
  obtain rfl : v_ = some (xI n2) := by rw [hn2]; exact hv_
  have hn3 := s_ldt_in (P 5) (P 6) (P 7) (A 34) (A 35) (q 1029) lp
  rw [← hn2] at hn3
  have hn4 : (lp = -1 → n2 = -1) ∧ (0 ≤ lp → n2 = s_ldt (lkd ts) (lon ts) (ltw ts) (A 34) (A 35) (q 1029) j) := by
    refine ⟨fun h => ?_, fun h => ?_⟩
    · rw [hn2]; unfold s_ldt; rw [if_pos (Or.inl (by omega))]
    · rcases hlj with e | ⟨e1, e2, e3, e4, e5, e6⟩
      · omega
      · rw [hn2]; unfold s_ldt; rw [e4, e5, e6]
        by_cases c8 : lkd ts j.toNat = 8
        · rw [if_neg (show ¬ (lp < 0 ∨ ¬ lkd ts j.toNat = 8) by omega), if_neg (show ¬ (j < 0 ∨ ¬ lkd ts j.toNat = 8) by omega)]
        · rw [if_pos (Or.inr c8), if_pos (Or.inr c8)]
  have hn5 : 0 ≤ n2 → sg P (rt n2.toNat) (s_tks ob n2) ∧ rt n2.toNat + (s_tks ob n2).length ≤ 12900 := fun h => by have := hctx n2.toNat (by omega) (by rcases hn3 with e | e; omega; exact e.2.2); rw [show ((n2.toNat : Nat) : Int) = n2 by omega] at this; exact this
  have hn6 : 0 ≤ n2 → 0 ≤ rt n2.toNat ∧ rt n2.toNat < 12900 ∧ (P 5 (rt n2.toNat).toNat = 3 → lkd (s_tks ob n2) 0 = 3 ∧ P 6 (rt n2.toNat).toNat = lon (s_tks ob n2) 0) ∧ (¬ P 5 (rt n2.toNat).toNat = 3 → ¬ lkd (s_tks ob n2) 0 = 3) := fun h => by
    obtain ⟨⟨g1, g2, g3, g4, g5, g6⟩, g7⟩ := hn5 h
    refine ⟨g1, by omega, fun e => ?_, fun e => ?_⟩
    · rcases g6 with g6 | g6
      · rw [← g6.1, ← g6.2.1]; exact ⟨e, rfl⟩
      · omega
    · rcases g6 with g6 | g6
      · rw [← g6.1]; exact e
      · omega
  refine x_istore_n (l1 := [(3, xI (n2)), (2, xI (lp)), (0, xC 11), (1, xI (p))]) (x_d C_O_lengthOf 10 rfl) (by decide) rfl ?_
  refine x_iload_n (x_d C_O_lengthOf 11 rfl) rfl ?_
  refine x_if_lt (tgt := 34) (x_d C_O_lengthOf 12 rfl) rfl (fun c1 => ?_) (fun c1 => ?_)
  · refine x_iload_n (x_d C_O_lengthOf 19 rfl) rfl ?_
    refine x_if_lt (tgt := 63) (x_d C_O_lengthOf 20 rfl) rfl (fun c2 => ?_) (fun c2 => ?_)
    · refine x_iconst (x_d C_O_lengthOf 34 rfl) ⟨by omega, by omega⟩ ?_
      refine x_ireturn (x_d C_O_lengthOf 35 rfl) ?_
      refine ⟨congrArg (fun z => some (xI z)) ?_, rfl⟩
      unfold s_len
      rw [← hj]
      rcases hlj with ⟨e1, e2⟩ | ⟨e1, e2, e3, e4, e5, e6⟩
      · have := hn4.1 e1
        first | omega | (rw [if_pos (by omega)])
      · have hn7 := hn4.2 (by omega)
        rw [if_neg (by omega), ← hn7]
        first
        | (rw [if_pos (show n2 < 0 by omega), if_pos (by omega)]; omega)
        | (rw [if_pos (show n2 < 0 by omega), if_neg (by omega)]; done)
        | (have g := hn6 (by omega); rw [if_neg (show ¬ n2 < 0 by omega), if_pos (g.2.2.1 (by omega)).1]; exact (g.2.2.1 (by omega)).2)
        | (have g := hn6 (by omega); rw [if_neg (show ¬ n2 < 0 by omega), if_neg (g.2.2.2 (by omega))]; done)
        | omega
    · refine x_aload_n (x_d C_O_lengthOf 21 rfl) rfl ?_
      refine x_getfield (v := xC 4) (x_d C_O_lengthOf 22 rfl) f_O_28 rfl rfl ?_
      refine x_getfield (v := xC 5) (x_d C_O_lengthOf 23 rfl) f_O_162 rfl rfl ?_
      refine x_iload_n (x_d C_O_lengthOf 24 rfl) rfl ?_
      refine x_iaload (f := P 5) (x_d C_O_lengthOf 25 rfl) rfl (by omega) (by omega) ?_
      refine x_iconst (x_d C_O_lengthOf 26 rfl) ⟨by omega, by omega⟩ ?_
      refine x_icmp_ne (tgt := 63) (x_d C_O_lengthOf 27 rfl) rfl (fun c3 => ?_) (fun c3 => ?_)
      · refine x_iconst (x_d C_O_lengthOf 34 rfl) ⟨by omega, by omega⟩ ?_
        refine x_ireturn (x_d C_O_lengthOf 35 rfl) ?_
        refine ⟨congrArg (fun z => some (xI z)) ?_, rfl⟩
        unfold s_len
        rw [← hj]
        rcases hlj with ⟨e1, e2⟩ | ⟨e1, e2, e3, e4, e5, e6⟩
        · have := hn4.1 e1
          first | omega | (rw [if_pos (by omega)])
        · have hn7 := hn4.2 (by omega)
          rw [if_neg (by omega), ← hn7]
          first
          | (rw [if_pos (show n2 < 0 by omega), if_pos (by omega)]; omega)
          | (rw [if_pos (show n2 < 0 by omega), if_neg (by omega)]; done)
          | (have g := hn6 (by omega); rw [if_neg (show ¬ n2 < 0 by omega), if_pos (g.2.2.1 (by omega)).1]; exact (g.2.2.1 (by omega)).2)
          | (have g := hn6 (by omega); rw [if_neg (show ¬ n2 < 0 by omega), if_neg (g.2.2.2 (by omega))]; done)
          | omega
      · refine x_aload_n (x_d C_O_lengthOf 28 rfl) rfl ?_
        refine x_getfield (v := xC 4) (x_d C_O_lengthOf 29 rfl) f_O_28 rfl rfl ?_
        refine x_getfield (v := xC 6) (x_d C_O_lengthOf 30 rfl) f_O_172 rfl rfl ?_
        refine x_iload_n (x_d C_O_lengthOf 31 rfl) rfl ?_
        refine x_iaload (f := P 6) (x_d C_O_lengthOf 32 rfl) rfl (by omega) (by omega) ?_
        refine x_goto (tgt := 64) (x_d C_O_lengthOf 33 rfl) rfl ?_
        refine x_ireturn (x_d C_O_lengthOf 35 rfl) ?_
        refine ⟨congrArg (fun z => some (xI z)) ?_, rfl⟩
        unfold s_len
        rw [← hj]
        rcases hlj with ⟨e1, e2⟩ | ⟨e1, e2, e3, e4, e5, e6⟩
        · have := hn4.1 e1
          first | omega | (rw [if_pos (by omega)])
        · have hn7 := hn4.2 (by omega)
          rw [if_neg (by omega), ← hn7]
          first
          | (rw [if_pos (show n2 < 0 by omega), if_pos (by omega)]; omega)
          | (rw [if_pos (show n2 < 0 by omega), if_neg (by omega)]; done)
          | (have g := hn6 (by omega); rw [if_neg (show ¬ n2 < 0 by omega), if_pos (g.2.2.1 (by omega)).1]; exact (g.2.2.1 (by omega)).2)
          | (have g := hn6 (by omega); rw [if_neg (show ¬ n2 < 0 by omega), if_neg (g.2.2.2 (by omega))]; done)
          | omega
  · refine x_aload_n (x_d C_O_lengthOf 13 rfl) rfl ?_
    refine x_getfield (v := xC 32) (x_d C_O_lengthOf 14 rfl) f_O_36 rfl rfl ?_
    refine x_getfield (v := xC 33) (x_d C_O_lengthOf 15 rfl) f_O_195 rfl rfl ?_
    refine x_iload_n (x_d C_O_lengthOf 16 rfl) rfl ?_
    refine x_iaload (f := rt) (x_d C_O_lengthOf 17 rfl) rfl (by omega) (by omega) ?_
    refine x_istore_n (l1 := [(2, xI (rt (n2).toNat)), (3, xI (n2)), (0, xC 11), (1, xI (p))]) (x_d C_O_lengthOf 18 rfl) (by decide) rfl ?_
    refine x_iload_n (x_d C_O_lengthOf 19 rfl) rfl ?_
    refine x_if_lt (tgt := 63) (x_d C_O_lengthOf 20 rfl) rfl (fun c4 => ?_) (fun c4 => ?_)
    · refine x_iconst (x_d C_O_lengthOf 34 rfl) ⟨by omega, by omega⟩ ?_
      refine x_ireturn (x_d C_O_lengthOf 35 rfl) ?_
      refine ⟨congrArg (fun z => some (xI z)) ?_, rfl⟩
      unfold s_len
      rw [← hj]
      rcases hlj with ⟨e1, e2⟩ | ⟨e1, e2, e3, e4, e5, e6⟩
      · have := hn4.1 e1
        first | omega | (rw [if_pos (by omega)])
      · have hn7 := hn4.2 (by omega)
        rw [if_neg (by omega), ← hn7]
        first
        | (rw [if_pos (show n2 < 0 by omega), if_pos (by omega)]; omega)
        | (rw [if_pos (show n2 < 0 by omega), if_neg (by omega)]; done)
        | (have g := hn6 (by omega); rw [if_neg (show ¬ n2 < 0 by omega), if_pos (g.2.2.1 (by omega)).1]; exact (g.2.2.1 (by omega)).2)
        | (have g := hn6 (by omega); rw [if_neg (show ¬ n2 < 0 by omega), if_neg (g.2.2.2 (by omega))]; done)
        | omega
    · refine x_aload_n (x_d C_O_lengthOf 21 rfl) rfl ?_
      refine x_getfield (v := xC 4) (x_d C_O_lengthOf 22 rfl) f_O_28 rfl rfl ?_
      refine x_getfield (v := xC 5) (x_d C_O_lengthOf 23 rfl) f_O_162 rfl rfl ?_
      refine x_iload_n (x_d C_O_lengthOf 24 rfl) rfl ?_
      refine x_iaload (f := P 5) (x_d C_O_lengthOf 25 rfl) rfl (by omega) (by omega) ?_
      refine x_iconst (x_d C_O_lengthOf 26 rfl) ⟨by omega, by omega⟩ ?_
      refine x_icmp_ne (tgt := 63) (x_d C_O_lengthOf 27 rfl) rfl (fun c5 => ?_) (fun c5 => ?_)
      · refine x_iconst (x_d C_O_lengthOf 34 rfl) ⟨by omega, by omega⟩ ?_
        refine x_ireturn (x_d C_O_lengthOf 35 rfl) ?_
        refine ⟨congrArg (fun z => some (xI z)) ?_, rfl⟩
        unfold s_len
        rw [← hj]
        rcases hlj with ⟨e1, e2⟩ | ⟨e1, e2, e3, e4, e5, e6⟩
        · have := hn4.1 e1
          first | omega | (rw [if_pos (by omega)])
        · have hn7 := hn4.2 (by omega)
          rw [if_neg (by omega), ← hn7]
          first
          | (rw [if_pos (show n2 < 0 by omega), if_pos (by omega)]; omega)
          | (rw [if_pos (show n2 < 0 by omega), if_neg (by omega)]; done)
          | (have g := hn6 (by omega); rw [if_neg (show ¬ n2 < 0 by omega), if_pos (g.2.2.1 (by omega)).1]; exact (g.2.2.1 (by omega)).2)
          | (have g := hn6 (by omega); rw [if_neg (show ¬ n2 < 0 by omega), if_neg (g.2.2.2 (by omega))]; done)
          | omega
      · refine x_aload_n (x_d C_O_lengthOf 28 rfl) rfl ?_
        refine x_getfield (v := xC 4) (x_d C_O_lengthOf 29 rfl) f_O_28 rfl rfl ?_
        refine x_getfield (v := xC 6) (x_d C_O_lengthOf 30 rfl) f_O_172 rfl rfl ?_
        refine x_iload_n (x_d C_O_lengthOf 31 rfl) rfl ?_
        refine x_iaload (f := P 6) (x_d C_O_lengthOf 32 rfl) rfl (by omega) (by omega) ?_
        refine x_goto (tgt := 64) (x_d C_O_lengthOf 33 rfl) rfl ?_
        refine x_ireturn (x_d C_O_lengthOf 35 rfl) ?_
        refine ⟨congrArg (fun z => some (xI z)) ?_, rfl⟩
        unfold s_len
        rw [← hj]
        rcases hlj with ⟨e1, e2⟩ | ⟨e1, e2, e3, e4, e5, e6⟩
        · have := hn4.1 e1
          first | omega | (rw [if_pos (by omega)])
        · have hn7 := hn4.2 (by omega)
          rw [if_neg (by omega), ← hn7]
          first
          | (rw [if_pos (show n2 < 0 by omega), if_pos (by omega)]; omega)
          | (rw [if_pos (show n2 < 0 by omega), if_neg (by omega)]; done)
          | (have g := hn6 (by omega); rw [if_neg (show ¬ n2 < 0 by omega), if_pos (g.2.2.1 (by omega)).1]; exact (g.2.2.1 (by omega)).2)
          | (have g := hn6 (by omega); rw [if_neg (show ¬ n2 < 0 by omega), if_neg (g.2.2.2 (by omega))]; done)
          | omega
theorem c_O_readStream (Z : xZ) (d : Nat) (q : Nat → Int) (r : Nat → Option Nat) (A : Nat → Nat → Int) (dy : xH) (hd : 8 ≤ d) (t : Int) (P : Nat → Nat → Int) (sm rt : Nat → Int) (ob : Int → Option (List tk × Int)) (k : Int) (ts : List tk) (hT : 0 ≤ q 34 ∧ q 34 ≤ q 35 ∧ q 35 ≤ 10248) (hR : s_okR A) (hz : 0 ≤ q 1029 ∧ q 1029 ≤ 300) (ho : s_ok5 P) (hctx : ∀ k : Nat, (k : Int) < q 1029 → ¬ A 35 k = 0 → sg P (rt k) (s_tks ob k) ∧ rt k + (s_tks ob k).length ≤ 12900) (hk : 0 ≤ k ∧ k < 300) (hst : 0 ≤ sm k.toNat ∧ sm k.toNat ≤ 10248) (hsg : sg P (rt k.toNat) ts) (hpl : rt k.toNat + ts.length ≤ 12900) : xMet Z d Y_O_readStream [xC 11, xI k] (hF (x_up q 133 t) (x_up r 359 (some 32)) (x_up (x_up (s_pt A P) 15 sm) 33 rt) ++ dy) (fun v h2 => (v = some (xI 1) ∧ s_sok (A 2) (q 35) (s_len (A 2) (q 35) ob (A 34) (A 35) (q 1029) ts) (sm k.toNat) ∧ h2 = hF (x_up q 133 t) (x_up r 359 (some 32)) (x_up (x_up (s_pt A (x_up (x_up (x_up P 5 (x_up (P 5) (rt k.toNat).toNat 9)) 6 (x_up (P 6) (rt k.toNat).toNat (s_abyte (A 2) (q 35) (sm k.toNat) 10))) 7 (x_up (P 7) (rt k.toNat).toNat (s_len (A 2) (q 35) ob (A 34) (A 35) (q 1029) ts)))) 15 sm) 33 rt) ++ dy) ∨ (v = some (xI 0) ∧ ¬ s_sok (A 2) (q 35) (s_len (A 2) (q 35) ob (A 34) (A 35) (q 1029) ts) (sm k.toNat) ∧ h2 = hF (x_up q 133 t) (x_up r 359 (some 32)) (x_up (x_up (s_pt A P) 15 sm) 33 rt) ++ dy)) := by
  refine xMet_of (by decide) (Nat.le_of_ble_eq_true rfl) (fun v h2 hq => by rcases hq with ⟨e, _⟩ | ⟨e, _⟩ <;> rw [e]; exact Or.inr rfl; exact Or.inl rfl) ?_
  have hr0 := hsg.1
  have hr1 := hsg.2.2.1
  have hab := s_abyte_in (A 2) (q 35) (sm k.toNat) 10
  have hby := s_byte_in (A 2) (q 35) (sm k.toNat)
  refine x_aload_n (x_d C_O_readStream 0 rfl) rfl ?_
  refine x_getfield (v := xC 32) (x_d C_O_readStream 1 rfl) f_O_36 rfl rfl ?_
  refine x_getfield (v := xC 33) (x_d C_O_readStream 2 rfl) f_O_195 rfl rfl ?_
  refine x_iload_n (x_d C_O_readStream 3 rfl) rfl ?_
  refine x_iaload (f := rt) (x_d C_O_readStream 4 rfl) rfl (by omega) (by omega) ?_
  refine x_istore_n (l1 := [(2, xI (rt (k).toNat)), (0, xC 11), (1, xI (k))]) (x_d C_O_readStream 5 rfl) (by decide) rfl ?_
  refine x_aload_n (x_d C_O_readStream 6 rfl) rfl ?_
  refine x_getfield (v := xC 1) (x_d C_O_readStream 7 rfl) f_O_24 rfl rfl ?_
  refine x_aload_n (x_d C_O_readStream 8 rfl) rfl ?_
  refine x_getfield (v := xC 15) (x_d C_O_readStream 9 rfl) f_O_21 rfl rfl ?_
  refine x_iload_n (x_d C_O_readStream 10 rfl) rfl ?_
  refine x_iaload (f := sm) (x_d C_O_readStream 11 rfl) rfl (by omega) (by omega) ?_
  refine x_bipush (x_d C_O_readStream 12 rfl) (by omega) ?_
  refine x_invokevirtual (st := []) (av := [xI (sm (k).toNat), xI (10)]) (x_d C_O_readStream 13 rfl) k_O_94 m_T_afterByte v_T_afterByte cl_T rfl rfl (Nat.le_of_ble_eq_true rfl) (by omega) rfl (c_T_afterByte Z (d - 1) (x_up q 133 t) (x_up r 359 (some 32)) (x_up (x_up (x_up (x_up (x_up (x_up (x_up A 5 (P 5)) 6 (P 6)) 7 (P 7)) 8 (P 8)) 9 (P 9)) 15 sm) 33 rt) dy (by omega) (sm (k).toNat) 10 hT (by omega)) ?_
  rintro v_ _ ⟨hv_, rfl⟩
  obtain rfl : v_ = some (xI (s_abyte (A 2) (q 35) (sm (k).toNat) 10)) := hv_
  refine x_istore_n (l1 := [(3, xI (s_abyte (A 2) (q 35) (sm (k).toNat) 10)), (2, xI (rt (k).toNat)), (0, xC 11), (1, xI (k))]) (x_d C_O_readStream 14 rfl) (by decide) rfl ?_
  refine x_aload_n (x_d C_O_readStream 15 rfl) rfl ?_
  refine x_iload_n (x_d C_O_readStream 16 rfl) rfl ?_
  refine x_invokevirtual (st := []) (av := [xI (rt (k).toNat)]) (x_d C_O_readStream 17 rfl) k_O_203 m_O_lengthOf v_O_lengthOf cl_O rfl rfl (Nat.le_of_ble_eq_true rfl) (by omega) rfl (c_O_lengthOf Z (d - 1) q r A dy (by omega) t P sm rt ob (rt k.toNat) ts hT hR hz ho hctx hsg hpl) ?_
  rintro v_ _ ⟨hv_, rfl⟩
  obtain ⟨L, hL⟩ : ∃ z, z = s_len (A 2) (q 35) ob (A 34) (A 35) (q 1029) ts := ⟨_, rfl⟩
  obtain rfl : v_ = some (xI L) := by rw [hL]; exact hv_
  refine x_istore (l1 := [(4, xI (L)), (3, xI (s_abyte (A 2) (q 35) (sm (k).toNat) 10)), (2, xI (rt (k).toNat)), (0, xC 11), (1, xI (k))]) (x_d C_O_readStream 18 rfl) (by decide) rfl ?_
  refine x_iload_n (x_d C_O_readStream 19 rfl) rfl ?_
  refine x_if_lt (tgt := 56) (x_d C_O_readStream 20 rfl) rfl (fun c1 => ?_) (fun c1 => ?_)
  · refine x_iconst (x_d C_O_readStream 30 rfl) ⟨by omega, by omega⟩ ?_
    refine x_ireturn (x_d C_O_readStream 31 rfl) ?_
    refine Or.inr ⟨rfl, fun z => ?_, rfl⟩
    unfold s_sok at z
    rw [← hL] at z
    omega
  · refine x_iload (x_d C_O_readStream 21 rfl) rfl ?_
    refine x_if_lt (tgt := 56) (x_d C_O_readStream 22 rfl) rfl (fun c2 => ?_) (fun c2 => ?_)
    · refine x_iconst (x_d C_O_readStream 30 rfl) ⟨by omega, by omega⟩ ?_
      refine x_ireturn (x_d C_O_readStream 31 rfl) ?_
      refine Or.inr ⟨rfl, fun z => ?_, rfl⟩
      unfold s_sok at z
      rw [← hL] at z
      omega
    · refine x_iload (x_d C_O_readStream 23 rfl) rfl ?_
      refine x_aload_n (x_d C_O_readStream 24 rfl) rfl ?_
      refine x_getfield (v := xC 1) (x_d C_O_readStream 25 rfl) f_O_24 rfl rfl ?_
      refine x_getfield (v := xI (q 35)) (x_d C_O_readStream 26 rfl) f_O_46 rfl rfl ?_
      refine x_iload_n (x_d C_O_readStream 27 rfl) rfl ?_
      refine x_isub (x_d C_O_readStream 28 rfl) ⟨by omega, by omega⟩ ?_
      refine x_icmp_le (tgt := 58) (x_d C_O_readStream 29 rfl) rfl (fun c3 => ?_) (fun c3 => ?_)
      · refine x_aload_n (x_d C_O_readStream 32 rfl) rfl ?_
        refine x_getfield (v := xC 1) (x_d C_O_readStream 33 rfl) f_O_24 rfl rfl ?_
        refine x_aload_n (x_d C_O_readStream 34 rfl) rfl ?_
        refine x_getfield (v := xC 1) (x_d C_O_readStream 35 rfl) f_O_24 rfl rfl ?_
        refine x_iload_n (x_d C_O_readStream 36 rfl) rfl ?_
        refine x_iload (x_d C_O_readStream 37 rfl) rfl ?_
        refine x_iadd (x_d C_O_readStream 38 rfl) ⟨by omega, by omega⟩ ?_
        refine x_bipush (x_d C_O_readStream 39 rfl) (by omega) ?_
        refine x_invokevirtual (st := [xC 1]) (av := [xI ((s_abyte (A 2) (q 35) (sm (k).toNat) 10) + L), xI (10)]) (x_d C_O_readStream 40 rfl) k_O_94 m_T_afterByte v_T_afterByte cl_T rfl rfl (Nat.le_of_ble_eq_true rfl) (by omega) rfl (c_T_afterByte Z (d - 1) (x_up q 133 t) (x_up r 359 (some 32)) (x_up (x_up (x_up (x_up (x_up (x_up (x_up A 5 (P 5)) 6 (P 6)) 7 (P 7)) 8 (P 8)) 9 (P 9)) 15 sm) 33 rt) dy (by omega) ((s_abyte (A 2) (q 35) (sm (k).toNat) 10) + L) 10 hT (by omega)) ?_
        rintro v_ _ ⟨hv_, rfl⟩
        obtain rfl : v_ = some (xI (s_abyte (A 2) (q 35) ((s_abyte (A 2) (q 35) (sm (k).toNat) 10) + L) 10)) := hv_
        refine x_ldcS (i := 20) (x_d C_O_readStream 41 rfl) rfl ?_
        refine x_invokevirtual (st := []) (av := [xI (s_abyte (A 2) (q 35) ((s_abyte (A 2) (q 35) (sm (k).toNat) 10) + L) 10), xS (41)]) (x_d C_O_readStream 42 rfl) k_O_111 m_T_afterThe v_T_afterThe cl_T rfl rfl (Nat.le_of_ble_eq_true rfl) (by omega) rfl (c_T_afterThe Z (d - 1) (x_up q 133 t) (x_up r 359 (some 32)) (x_up (x_up (x_up (x_up (x_up (x_up (x_up A 5 (P 5)) 6 (P 6)) 7 (P 7)) 8 (P 8)) 9 (P 9)) 15 sm) 33 rt) dy (by omega) (i := 20) rfl (s_abyte (A 2) (q 35) ((s_abyte (A 2) (q 35) (sm (k).toNat) 10) + L) 10) hT hR) ?_
        rintro v_ _ ⟨hv_, rfl⟩
        obtain rfl : v_ = some (xI (s_the (A 2) (q 35) (s_abyte (A 2) (q 35) ((s_abyte (A 2) (q 35) (sm (k).toNat) 10) + L) 10) [101, 110, 100, 115, 116, 114, 101, 97, 109])) := hv_
        refine x_istore (l1 := [(5, xI (s_the (A 2) (q 35) (s_abyte (A 2) (q 35) ((s_abyte (A 2) (q 35) (sm (k).toNat) 10) + L) 10) [101, 110, 100, 115, 116, 114, 101, 97, 109])), (4, xI (L)), (3, xI (s_abyte (A 2) (q 35) (sm (k).toNat) 10)), (2, xI (rt (k).toNat)), (0, xC 11), (1, xI (k))]) (x_d C_O_readStream 43 rfl) (by decide) rfl ?_
        refine x_aload_n (x_d C_O_readStream 44 rfl) rfl ?_
        refine x_getfield (v := xC 1) (x_d C_O_readStream 45 rfl) f_O_24 rfl rfl ?_
        refine x_aload_n (x_d C_O_readStream 46 rfl) rfl ?_
        refine x_getfield (v := xC 1) (x_d C_O_readStream 47 rfl) f_O_24 rfl rfl ?_
        refine x_iload (x_d C_O_readStream 48 rfl) rfl ?_
        refine x_invokevirtual (st := [xC 1]) (av := [xI (s_the (A 2) (q 35) (s_abyte (A 2) (q 35) ((s_abyte (A 2) (q 35) (sm (k).toNat) 10) + L) 10) [101, 110, 100, 115, 116, 114, 101, 97, 109])]) (x_d C_O_readStream 49 rfl) k_O_192 m_T_afterWhite v_T_afterWhite cl_T rfl rfl (Nat.le_of_ble_eq_true rfl) (by omega) rfl (c_T_afterWhite Z (d - 1) (x_up q 133 t) (x_up r 359 (some 32)) (x_up (x_up (x_up (x_up (x_up (x_up (x_up A 5 (P 5)) 6 (P 6)) 7 (P 7)) 8 (P 8)) 9 (P 9)) 15 sm) 33 rt) dy (s_the (A 2) (q 35) (s_abyte (A 2) (q 35) ((s_abyte (A 2) (q 35) (sm (k).toNat) 10) + L) 10) [101, 110, 100, 115, 116, 114, 101, 97, 109]) hT) ?_
        rintro v_ _ ⟨hv_, rfl⟩
        obtain rfl : v_ = some (xI (s_sc s_white (A 2) (q 35) (s_the (A 2) (q 35) (s_abyte (A 2) (q 35) ((s_abyte (A 2) (q 35) (sm (k).toNat) 10) + L) 10) [101, 110, 100, 115, 116, 114, 101, 97, 109]))) := hv_
        refine x_ldcS (i := 18) (x_d C_O_readStream 50 rfl) rfl ?_
        refine x_invokevirtual (st := []) (av := [xI (s_sc s_white (A 2) (q 35) (s_the (A 2) (q 35) (s_abyte (A 2) (q 35) ((s_abyte (A 2) (q 35) (sm (k).toNat) 10) + L) 10) [101, 110, 100, 115, 116, 114, 101, 97, 109])), xS (37)]) (x_d C_O_readStream 51 rfl) k_O_111 m_T_afterThe v_T_afterThe cl_T rfl rfl (Nat.le_of_ble_eq_true rfl) (by omega) rfl (c_T_afterThe Z (d - 1) (x_up q 133 t) (x_up r 359 (some 32)) (x_up (x_up (x_up (x_up (x_up (x_up (x_up A 5 (P 5)) 6 (P 6)) 7 (P 7)) 8 (P 8)) 9 (P 9)) 15 sm) 33 rt) dy (by omega) (i := 18) rfl (s_sc s_white (A 2) (q 35) (s_the (A 2) (q 35) (s_abyte (A 2) (q 35) ((s_abyte (A 2) (q 35) (sm (k).toNat) 10) + L) 10) [101, 110, 100, 115, 116, 114, 101, 97, 109])) hT hR) ?_
        rintro v_ _ ⟨hv_, rfl⟩
        obtain rfl : v_ = some (xI (s_the (A 2) (q 35) (s_sc s_white (A 2) (q 35) (s_the (A 2) (q 35) (s_abyte (A 2) (q 35) ((s_abyte (A 2) (q 35) (sm (k).toNat) 10) + L) 10) [101, 110, 100, 115, 116, 114, 101, 97, 109])) [101, 110, 100, 111, 98, 106])) := hv_
        refine x_if_ge (tgt := 105) (x_d C_O_readStream 52 rfl) rfl (fun c4 => ?_) (fun c4 => ?_)
        · refine x_aload_n (x_d C_O_readStream 55 rfl) rfl ?_
          refine x_getfield (v := xC 4) (x_d C_O_readStream 56 rfl) f_O_28 rfl rfl ?_
          refine x_getfield (v := xC 5) (x_d C_O_readStream 57 rfl) f_O_162 rfl rfl ?_
          refine x_iload_n (x_d C_O_readStream 58 rfl) rfl ?_
          refine x_bipush (x_d C_O_readStream 59 rfl) (by omega) ?_
          refine x_iastore (h1 := hF (x_up q 133 t) (x_up r 359 (some 32)) (x_up (x_up (x_up (x_up (x_up (x_up (x_up A 5 (x_up (P 5) (rt (k).toNat).toNat 9)) 6 (P 6)) 7 (P 7)) 8 (P 8)) 9 (P 9)) 15 sm) 33 rt) ++ dy) (x_d C_O_readStream 60 rfl) rfl (by omega) (by omega) rfl ?_
          refine x_aload_n (x_d C_O_readStream 61 rfl) rfl ?_
          refine x_getfield (v := xC 4) (x_d C_O_readStream 62 rfl) f_O_28 rfl rfl ?_
          refine x_getfield (v := xC 6) (x_d C_O_readStream 63 rfl) f_O_172 rfl rfl ?_
          refine x_iload_n (x_d C_O_readStream 64 rfl) rfl ?_
          refine x_iload_n (x_d C_O_readStream 65 rfl) rfl ?_
          refine x_iastore (h1 := hF (x_up q 133 t) (x_up r 359 (some 32)) (x_up (x_up (x_up (x_up (x_up (x_up (x_up A 5 (x_up (P 5) (rt (k).toNat).toNat 9)) 6 (x_up (P 6) (rt (k).toNat).toNat (s_abyte (A 2) (q 35) (sm (k).toNat) 10))) 7 (P 7)) 8 (P 8)) 9 (P 9)) 15 sm) 33 rt) ++ dy) (x_d C_O_readStream 66 rfl) rfl (by omega) (by omega) rfl ?_
          refine x_aload_n (x_d C_O_readStream 67 rfl) rfl ?_
          refine x_getfield (v := xC 4) (x_d C_O_readStream 68 rfl) f_O_28 rfl rfl ?_
          refine x_getfield (v := xC 7) (x_d C_O_readStream 69 rfl) f_O_208 rfl rfl ?_
          refine x_iload_n (x_d C_O_readStream 70 rfl) rfl ?_
          refine x_iload (x_d C_O_readStream 71 rfl) rfl ?_
          refine x_iastore (h1 := hF (x_up q 133 t) (x_up r 359 (some 32)) (x_up (x_up (x_up (x_up (x_up (x_up (x_up A 5 (x_up (P 5) (rt (k).toNat).toNat 9)) 6 (x_up (P 6) (rt (k).toNat).toNat (s_abyte (A 2) (q 35) (sm (k).toNat) 10))) 7 (x_up (P 7) (rt (k).toNat).toNat L)) 8 (P 8)) 9 (P 9)) 15 sm) 33 rt) ++ dy) (x_d C_O_readStream 72 rfl) rfl (by omega) (by omega) rfl ?_
          refine x_iconst (x_d C_O_readStream 73 rfl) ⟨by omega, by omega⟩ ?_
          refine x_ireturn (x_d C_O_readStream 74 rfl) ?_
          refine Or.inl ⟨rfl, ?_, by rw [← hL]; rfl⟩
          unfold s_sok
          rw [← hL]
          exact ⟨by omega, by omega, by omega, by omega⟩
        · refine x_iconst (x_d C_O_readStream 53 rfl) ⟨by omega, by omega⟩ ?_
          refine x_ireturn (x_d C_O_readStream 54 rfl) ?_
          refine Or.inr ⟨rfl, fun z => ?_, rfl⟩
          unfold s_sok at z
          rw [← hL] at z
          omega
      · refine x_iconst (x_d C_O_readStream 30 rfl) ⟨by omega, by omega⟩ ?_
        refine x_ireturn (x_d C_O_readStream 31 rfl) ?_
        refine Or.inr ⟨rfl, fun z => ?_, rfl⟩
        unfold s_sok at z
        rw [← hL] at z
        omega
