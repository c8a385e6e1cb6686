/-! the writer: values -/
theorem pb_fix {lm s ov : Int} {f : Nat → Int} {bs cs : List Int} (h : pb lm s ov f bs) (e : bs = cs) : pb lm s ov f cs := e ▸ h
/-- a name, with what stands before and behind it -/
def s_wn (nm b : Nat → Int) (n : Int) (x : Int) (o : Int) : List Int := (if o = 0 then [47] else [32, 47]) ++ (s_sl b (nm x.toNat).toNat (s_wd b n (nm x.toNat) - nm x.toNat).toNat ++ [32])
def s_wr (one two : Nat → Int) (p : Int) : List Int := s_int (one p.toNat) ++ ([32] ++ (s_int (two p.toNat) ++ [32, 82]))
def s_wd8 (one two b : Nat → Int) (p : Int) : List Int := [10, 115, 116, 114, 101, 97, 109, 10] ++ (s_sl b (one p.toNat).toNat (two p.toNat).toNat ++ [10, 101, 110, 100, 115, 116, 114, 101, 97, 109])
/-- the values that lie in one, with their names -/
def s_its (W : Int → List Int) (nm b : Nat → Int) (n p1 : Int) : List Int → List Int
  | [] => []
  | x :: L => ((if 0 ≤ nm x.toNat then s_wn nm b n x (if p1 < x then 1 else 0) else if p1 < x then [32] else []) ++ W x) ++ s_its W nm b n p1 L
def s_lf (kd one two b : Nat → Int) (n p : Int) : List Int := if kd p.toNat = 0 then [110, 117, 108, 108] else if kd p.toNat = 1 then [116, 114, 117, 101] else if kd p.toNat = 2 then [102, 97, 108, 115, 101] else if kd p.toNat = 3 then s_int (one p.toNat) else if kd p.toNat = 4 then [47] ++ s_sl b (one p.toNat).toNat (two p.toNat).toNat else if kd p.toNat = 5 then [60] ++ ((s_sb b n (decide (s_byte b n (one p.toNat) = 60)) (two p.toNat).toNat (one p.toNat + 1)).flatMap s_h2 ++ [62]) else s_wr one two p
def s_bxw (kd one two b : Nat → Int) (n p : Int) (I : List Int) : List Int := if kd p.toNat = 9 then ([60, 60] ++ (I ++ [62, 62])) ++ s_wd8 one two b p else if kd p.toNat = 7 then [60, 60] ++ (I ++ [62, 62]) else if 0 ≤ kd p.toNat ∧ kd p.toNat ≤ 8 ∧ ¬ kd p.toNat = 6 then s_lf kd one two b n p else [91] ++ (I ++ [93])
/-- the bytes of a value -/
def s_wv (kd one two sp nm b : Nat → Int) (n : Int) : Nat → Int → List Int
  | 0, p => s_bxw kd one two b n p []
  | D + 1, p => s_bxw kd one two b n p (s_its (s_wv kd one two sp nm b n D) nm b n (p + 1) (s_in sp p))
/-- what is asked of a value that is written -/
def wl (kd one two sp : Nat → Int) (p : Int) : Prop := 0 ≤ p ∧ p < 12900 ∧ s_bh sp p ≤ 12900 ∧ (kd p.toNat = 3 → -2147483648 < one p.toNat) ∧ (kd p.toNat = 4 ∨ kd p.toNat = 9 → 0 ≤ one p.toNat ∧ 0 ≤ two p.toNat ∧ one p.toNat + two p.toNat ≤ 10248) ∧ (kd p.toNat = 5 → 0 ≤ one p.toNat ∧ one p.toNat ≤ 10248 ∧ 0 ≤ two p.toNat ∧ two p.toNat ≤ 100) ∧ (kd p.toNat = 8 → 0 ≤ one p.toNat ∧ 0 ≤ two p.toNat)
def wnm (nm b : Nat → Int) (n x : Int) : Prop := nm x.toNat = -1 ∨ (0 ≤ nm x.toNat ∧ nm x.toNat ≤ 10248 ∧ 0 ≤ s_wd b n (nm x.toNat))
def wv (kd one two sp nm b : Nat → Int) (n : Int) : Nat → Int → Prop
  | 0, p => wl kd one two sp p ∧ s_in sp p = []
  | D + 1, p => wl kd one two sp p ∧ ∀ x, x ∈ s_in sp p → wv kd one two sp nm b n D x ∧ wnm nm b n x
theorem wv_wl {kd one two sp nm b : Nat → Int} {n : Int} {D : Nat} {p : Int} (h : wv kd one two sp nm b n D p) : wl kd one two sp p := by
  cases D with
  | zero => exact h.1
  | succ D => exact h.1
theorem c_Wr_writeName (Z : xZ) (d : Nat) (q : Nat → Int) (r : Nat → Option Nat) (A : Nat → Nat → Int) (dy : xH) (s ov : Int) (f : Nat → Int) (bs : List Int) (hd : 7 ≤ d) (p y : Int) (hl : 0 ≤ q 1283 ∧ q 1283 ≤ 6000) (hp : pb (q 1283) s ov f bs) (hT : 0 ≤ q 34 ∧ q 34 ≤ q 35 ∧ q 35 ≤ 10248) (hR : s_okR A) (hp9 : 0 ≤ p ∧ p < 12900) (hnm : 0 ≤ A 9 p.toNat ∧ A 9 p.toNat ≤ 10248 ∧ 0 ≤ s_wd (A 2) (q 35) (A 9 p.toNat)) : xMet Z d Y_Wr_writeName [xC 16, xI p, xI y] (hF (x_up (x_up q 1281 s) 1282 ov) (x_up (x_up r 515 (some 26)) 516 (some 40)) (x_up A 41 f) ++ dy) (fun v0 h2 => v0 = none ∧ ∃ s2 ov2 f2, h2 = hF (x_up (x_up q 1281 s2) 1282 ov2) (x_up (x_up r 515 (some 26)) 516 (some 40)) (x_up A 41 f2) ++ dy ∧ pb (q 1283) s2 ov2 f2 (bs ++ s_wn (A 9) (A 2) (q 35) p y)) := by
  refine xMet_of (by decide) (Nat.le_of_ble_eq_true rfl) (fun v0 h2 hq => by rw [hq.1]; trivial) ?_
  have hp0 := hp.1
  have hp1 := hp.2.1
  have hwd := s_wd_in (A 2) (q 35) (A 9 p.toNat)
  have hwl : A 9 p.toNat ≤ q 35 → s_wd (A 2) (q 35) (A 9 p.toNat) ≤ q 35 := fun h => by rcases hwd with e | e; omega; exact e.2.1 h
  refine x_aload_n (x_d C_Wr_writeName 0 rfl) rfl ?_
  refine x_getfield (v := xC 40) (x_d C_Wr_writeName 1 rfl) f_Wr_27 rfl rfl ?_
  refine x_iload_n (x_d C_Wr_writeName 2 rfl) rfl ?_
  refine x_if_eq (tgt := 13) (x_d C_Wr_writeName 3 rfl) rfl (fun c1 => ?_) (fun c1 => ?_)
  · refine x_ldcS (i := 34) (x_d C_Wr_writeName 6 rfl) rfl ?_
    refine x_invokevirtual (st := []) (av := [xS (69)]) (x_d C_Wr_writeName 7 rfl) k_Wr_73 m_Pa_addText v_Pa_addText cl_Pa rfl rfl (Nat.le_of_ble_eq_true rfl) (by omega) rfl (c_Pb_addText_40 Z (d - 1) q (x_up (x_up r 515 (some 26)) 516 (some 40)) A dy s ov f (bs) (by omega) (i := 34) rfl hl hp) ?_
    rintro _ _ ⟨rfl, s2, ov2, f2, rfl, hp2⟩
    have hp2 : pb (q 1283) s2 ov2 f2 (bs ++ [47]) := hp2
    have hp02 := hp2.1
    have hp12 := hp2.2.1
    refine x_aload_n (x_d C_Wr_writeName 8 rfl) rfl ?_
    refine x_getfield (v := xC 4) (x_d C_Wr_writeName 9 rfl) f_Wr_19 rfl rfl ?_
    refine x_getfield (v := xC 9) (x_d C_Wr_writeName 10 rfl) f_Wr_182 rfl rfl ?_
    refine x_iload_n (x_d C_Wr_writeName 11 rfl) rfl ?_
    refine x_iaload (f := A 9) (x_d C_Wr_writeName 12 rfl) rfl (by omega) (by omega) ?_
    refine x_istore_n (l1 := [(3, xI (A 9 (p).toNat)), (0, xC 16), (1, xI (p)), (2, xI (y))]) (x_d C_Wr_writeName 13 rfl) (by decide) rfl ?_
    refine x_aload_n (x_d C_Wr_writeName 14 rfl) rfl ?_
    refine x_getfield (v := xC 40) (x_d C_Wr_writeName 15 rfl) f_Wr_27 rfl rfl ?_
    refine x_aload_n (x_d C_Wr_writeName 16 rfl) rfl ?_
    refine x_getfield (v := xC 1) (x_d C_Wr_writeName 17 rfl) f_Wr_15 rfl rfl ?_
    refine x_getfield (v := xC 2) (x_d C_Wr_writeName 18 rfl) f_Wr_31 rfl rfl ?_
    refine x_iload_n (x_d C_Wr_writeName 19 rfl) rfl ?_
    refine x_aload_n (x_d C_Wr_writeName 20 rfl) rfl ?_
    refine x_getfield (v := xC 1) (x_d C_Wr_writeName 21 rfl) f_Wr_15 rfl rfl ?_
    refine x_iload_n (x_d C_Wr_writeName 22 rfl) rfl ?_
    refine x_invokevirtual (st := [xI (A 9 (p).toNat), xC 2, xC 40]) (av := [xI (A 9 (p).toNat)]) (x_d C_Wr_writeName 23 rfl) k_Wr_189 m_T_afterWord v_T_afterWord cl_T rfl rfl (Nat.le_of_ble_eq_true rfl) (by omega) rfl (c_T_afterWord Z (d - 1) (x_up (x_up q 1281 s2) 1282 ov2) (x_up (x_up r 515 (some 26)) 516 (some 40)) (x_up A 41 f2) dy (A 9 (p).toNat) hT hR) ?_
    rintro v_ _ ⟨hv_, rfl⟩
    obtain rfl : v_ = some (xI (s_wd (A 2) (q 35) (A 9 (p).toNat))) := hv_
    refine x_iload_n (x_d C_Wr_writeName 24 rfl) rfl ?_
    refine x_isub (x_d C_Wr_writeName 25 rfl) ⟨by omega, by omega⟩ ?_
    refine x_invokevirtual (st := []) (av := [xC 2, xI (A 9 (p).toNat), xI ((s_wd (A 2) (q 35) (A 9 (p).toNat)) - (A 9 (p).toNat))]) (x_d C_Wr_writeName 26 rfl) k_Wr_46 m_Pa_addRow v_Pa_addRow cl_Pa rfl rfl (Nat.le_of_ble_eq_true rfl) (by omega) rfl (c_Pb_addRow_40_2 Z (d - 1) q (x_up (x_up r 515 (some 26)) 516 (some 40)) A dy s2 ov2 f2 (bs ++ [47]) (by omega) (A 9 (p).toNat) ((s_wd (A 2) (q 35) (A 9 (p).toNat)) - (A 9 (p).toNat)) hl hp2 (by omega)) ?_
    rintro _ _ ⟨rfl, s3, ov3, f3, rfl, hp3⟩
    have hp03 := hp3.1
    have hp13 := hp3.2.1
    refine x_aload_n (x_d C_Wr_writeName 27 rfl) rfl ?_
    refine x_getfield (v := xC 40) (x_d C_Wr_writeName 28 rfl) f_Wr_27 rfl rfl ?_
    refine x_bipush (x_d C_Wr_writeName 29 rfl) (by omega) ?_
    refine x_invokevirtual (st := []) (av := [xI (32)]) (x_d C_Wr_writeName 30 rfl) k_Wr_92 m_Pa_add v_Pa_add cl_Pa rfl rfl (Nat.le_of_ble_eq_true rfl) (by omega) rfl (c_Pb_add_40 Z (d - 1) q (x_up (x_up r 515 (some 26)) 516 (some 40)) A dy s3 ov3 f3 (bs ++ [47] ++ (s_sl (A 2) (A 9 (p).toNat).toNat ((s_wd (A 2) (q 35) (A 9 (p).toNat)) - (A 9 (p).toNat)).toNat)) 32 hl hp3) ?_
    rintro _ _ ⟨rfl, s4, ov4, f4, rfl, hp4⟩
    have hp04 := hp4.1
    have hp14 := hp4.2.1
    refine x_return (x_d C_Wr_writeName 31 rfl) ?_
    exact ⟨rfl, _, _, _, rfl, pb_fix hp4 (by unfold s_wn; rw [if_pos (by omega)]; simp only [List.append_assoc]; rfl)⟩
  · refine x_ldcS (i := 33) (x_d C_Wr_writeName 4 rfl) rfl ?_
    refine x_goto (tgt := 15) (x_d C_Wr_writeName 5 rfl) rfl ?_
    refine x_invokevirtual (st := []) (av := [xS (67)]) (x_d C_Wr_writeName 7 rfl) k_Wr_73 m_Pa_addText v_Pa_addText cl_Pa rfl rfl (Nat.le_of_ble_eq_true rfl) (by omega) rfl (c_Pb_addText_40 Z (d - 1) q (x_up (x_up r 515 (some 26)) 516 (some 40)) A dy s ov f (bs) (by omega) (i := 33) rfl hl hp) ?_
    rintro _ _ ⟨rfl, s5, ov5, f5, rfl, hp5⟩
    have hp5 : pb (q 1283) s5 ov5 f5 (bs ++ [32, 47]) := hp5
    have hp05 := hp5.1
    have hp15 := hp5.2.1
    refine x_aload_n (x_d C_Wr_writeName 8 rfl) rfl ?_
    refine x_getfield (v := xC 4) (x_d C_Wr_writeName 9 rfl) f_Wr_19 rfl rfl ?_
    refine x_getfield (v := xC 9) (x_d C_Wr_writeName 10 rfl) f_Wr_182 rfl rfl ?_
    refine x_iload_n (x_d C_Wr_writeName 11 rfl) rfl ?_
    refine x_iaload (f := A 9) (x_d C_Wr_writeName 12 rfl) rfl (by omega) (by omega) ?_
    refine x_istore_n (l1 := [(3, xI (A 9 (p).toNat)), (0, xC 16), (1, xI (p)), (2, xI (y))]) (x_d C_Wr_writeName 13 rfl) (by decide) rfl ?_
    refine x_aload_n (x_d C_Wr_writeName 14 rfl) rfl ?_
    refine x_getfield (v := xC 40) (x_d C_Wr_writeName 15 rfl) f_Wr_27 rfl rfl ?_
    refine x_aload_n (x_d C_Wr_writeName 16 rfl) rfl ?_
    refine x_getfield (v := xC 1) (x_d C_Wr_writeName 17 rfl) f_Wr_15 rfl rfl ?_
    refine x_getfield (v := xC 2) (x_d C_Wr_writeName 18 rfl) f_Wr_31 rfl rfl ?_
    refine x_iload_n (x_d C_Wr_writeName 19 rfl) rfl ?_
    refine x_aload_n (x_d C_Wr_writeName 20 rfl) rfl ?_
    refine x_getfield (v := xC 1) (x_d C_Wr_writeName 21 rfl) f_Wr_15 rfl rfl ?_
    refine x_iload_n (x_d C_Wr_writeName 22 rfl) rfl ?_
    refine x_invokevirtual (st := [xI (A 9 (p).toNat), xC 2, xC 40]) (av := [xI (A 9 (p).toNat)]) (x_d C_Wr_writeName 23 rfl) k_Wr_189 m_T_afterWord v_T_afterWord cl_T rfl rfl (Nat.le_of_ble_eq_true rfl) (by omega) rfl (c_T_afterWord Z (d - 1) (x_up (x_up q 1281 s5) 1282 ov5) (x_up (x_up r 515 (some 26)) 516 (some 40)) (x_up A 41 f5) dy (A 9 (p).toNat) hT hR) ?_
    rintro v_ _ ⟨hv_, rfl⟩
    obtain rfl : v_ = some (xI (s_wd (A 2) (q 35) (A 9 (p).toNat))) := hv_
    refine x_iload_n (x_d C_Wr_writeName 24 rfl) rfl ?_
    refine x_isub (x_d C_Wr_writeName 25 rfl) ⟨by omega, by omega⟩ ?_
    refine x_invokevirtual (st := []) (av := [xC 2, xI (A 9 (p).toNat), xI ((s_wd (A 2) (q 35) (A 9 (p).toNat)) - (A 9 (p).toNat))]) (x_d C_Wr_writeName 26 rfl) k_Wr_46 m_Pa_addRow v_Pa_addRow cl_Pa rfl rfl (Nat.le_of_ble_eq_true rfl) (by omega) rfl (c_Pb_addRow_40_2 Z (d - 1) q (x_up (x_up r 515 (some 26)) 516 (some 40)) A dy s5 ov5 f5 (bs ++ [32, 47]) (by omega) (A 9 (p).toNat) ((s_wd (A 2) (q 35) (A 9 (p).toNat)) - (A 9 (p).toNat)) hl hp5 (by omega)) ?_
    rintro _ _ ⟨rfl, s6, ov6, f6, rfl, hp6⟩
    have hp06 := hp6.1
    have hp16 := hp6.2.1
    refine x_aload_n (x_d C_Wr_writeName 27 rfl) rfl ?_
    refine x_getfield (v := xC 40) (x_d C_Wr_writeName 28 rfl) f_Wr_27 rfl rfl ?_
    refine x_bipush (x_d C_Wr_writeName 29 rfl) (by omega) ?_
    refine x_invokevirtual (st := []) (av := [xI (32)]) (x_d C_Wr_writeName 30 rfl) k_Wr_92 m_Pa_add v_Pa_add cl_Pa rfl rfl (Nat.le_of_ble_eq_true rfl) (by omega) rfl (c_Pb_add_40 Z (d - 1) q (x_up (x_up r 515 (some 26)) 516 (some 40)) A dy s6 ov6 f6 (bs ++ [32, 47] ++ (s_sl (A 2) (A 9 (p).toNat).toNat ((s_wd (A 2) (q 35) (A 9 (p).toNat)) - (A 9 (p).toNat)).toNat)) 32 hl hp6) ?_
    rintro _ _ ⟨rfl, s7, ov7, f7, rfl, hp7⟩
    have hp07 := hp7.1
    have hp17 := hp7.2.1
    refine x_return (x_d C_Wr_writeName 31 rfl) ?_
    exact ⟨rfl, _, _, _, rfl, pb_fix hp7 (by unfold s_wn; rw [if_neg (by omega)]; simp only [List.append_assoc]; rfl)⟩
theorem c_Wr_writeRef (Z : xZ) (d : Nat) (q : Nat → Int) (r : Nat → Option Nat) (A : Nat → Nat → Int) (dy : xH) (s ov : Int) (f : Nat → Int) (bs : List Int) (hd : 7 ≤ d) (p : Int) (hl : 0 ≤ q 1283 ∧ q 1283 ≤ 6000) (hp : pb (q 1283) s ov f bs) (hw : wl (A 5) (A 6) (A 7) (A 8) p) (hk : A 5 p.toNat = 8) : xMet Z d Y_Wr_writeRef [xC 16, xI p] (hF (x_up (x_up q 1281 s) 1282 ov) (x_up (x_up r 515 (some 26)) 516 (some 40)) (x_up A 41 f) ++ dy) (fun v0 h2 => v0 = none ∧ ∃ s2 ov2 f2, h2 = hF (x_up (x_up q 1281 s2) 1282 ov2) (x_up (x_up r 515 (some 26)) 516 (some 40)) (x_up A 41 f2) ++ dy ∧ pb (q 1283) s2 ov2 f2 (bs ++ s_wr (A 6) (A 7) p)) := by
  refine xMet_of (by decide) (Nat.le_of_ble_eq_true rfl) (fun v0 h2 hq => by rw [hq.1]; trivial) ?_
  have hp0 := hp.1
  have hp1 := hp.2.1
  obtain ⟨w1, w2, w3, w4, w5, w6, w7⟩ := hw
  have hk8 := w7 hk
  refine xW_ok (fun _ _ hok => ?_)
  have hi6 : x_i32 (A 6 p.toNat) := hok _ (List.mem_of_getElem? (i := 6) rfl) p.toNat
  obtain ⟨ia6, ib6⟩ := hi6
  have hi7 : x_i32 (A 7 p.toNat) := hok _ (List.mem_of_getElem? (i := 7) rfl) p.toNat
  obtain ⟨ia7, ib7⟩ := hi7
  refine x_aload_n (x_d C_Wr_writeRef 0 rfl) rfl ?_
  refine x_getfield (v := xC 40) (x_d C_Wr_writeRef 1 rfl) f_Wr_27 rfl rfl ?_
  refine x_aload_n (x_d C_Wr_writeRef 2 rfl) rfl ?_
  refine x_getfield (v := xC 4) (x_d C_Wr_writeRef 3 rfl) f_Wr_19 rfl rfl ?_
  refine x_getfield (v := xC 6) (x_d C_Wr_writeRef 4 rfl) f_Wr_158 rfl rfl ?_
  refine x_iload_n (x_d C_Wr_writeRef 5 rfl) rfl ?_
  refine x_iaload (f := A 6) (x_d C_Wr_writeRef 6 rfl) rfl (by omega) (by omega) ?_
  refine x_invokevirtual (st := []) (av := [xI (A 6 (p).toNat)]) (x_d C_Wr_writeRef 7 rfl) k_Wr_87 m_Pa_addInt v_Pa_addInt cl_Pa rfl rfl (Nat.le_of_ble_eq_true rfl) (by omega) rfl (c_Pb_addInt_40 Z (d - 1) q (x_up (x_up r 515 (some 26)) 516 (some 40)) A dy s ov f bs (by omega) (A 6 (p).toNat) hl hp (by omega)) ?_
  rintro _ _ ⟨rfl, s1, ov1, f1, rfl, hp1⟩
  have hp01 := hp1.1
  have hp11 := hp1.2.1
  refine x_aload_n (x_d C_Wr_writeRef 8 rfl) rfl ?_
  refine x_getfield (v := xC 40) (x_d C_Wr_writeRef 9 rfl) f_Wr_27 rfl rfl ?_
  refine x_bipush (x_d C_Wr_writeRef 10 rfl) (by omega) ?_
  refine x_invokevirtual (st := []) (av := [xI (32)]) (x_d C_Wr_writeRef 11 rfl) k_Wr_92 m_Pa_add v_Pa_add cl_Pa rfl rfl (Nat.le_of_ble_eq_true rfl) (by omega) rfl (c_Pb_add_40 Z (d - 1) q (x_up (x_up r 515 (some 26)) 516 (some 40)) A dy s1 ov1 f1 (bs ++ (s_int (A 6 (p).toNat))) 32 hl hp1) ?_
  rintro _ _ ⟨rfl, s2, ov2, f2, rfl, hp2⟩
  have hp02 := hp2.1
  have hp12 := hp2.2.1
  refine x_aload_n (x_d C_Wr_writeRef 12 rfl) rfl ?_
  refine x_getfield (v := xC 40) (x_d C_Wr_writeRef 13 rfl) f_Wr_27 rfl rfl ?_
  refine x_aload_n (x_d C_Wr_writeRef 14 rfl) rfl ?_
  refine x_getfield (v := xC 4) (x_d C_Wr_writeRef 15 rfl) f_Wr_19 rfl rfl ?_
  refine x_getfield (v := xC 7) (x_d C_Wr_writeRef 16 rfl) f_Wr_161 rfl rfl ?_
  refine x_iload_n (x_d C_Wr_writeRef 17 rfl) rfl ?_
  refine x_iaload (f := A 7) (x_d C_Wr_writeRef 18 rfl) rfl (by omega) (by omega) ?_
  refine x_invokevirtual (st := []) (av := [xI (A 7 (p).toNat)]) (x_d C_Wr_writeRef 19 rfl) k_Wr_87 m_Pa_addInt v_Pa_addInt cl_Pa rfl rfl (Nat.le_of_ble_eq_true rfl) (by omega) rfl (c_Pb_addInt_40 Z (d - 1) q (x_up (x_up r 515 (some 26)) 516 (some 40)) A dy s2 ov2 f2 (bs ++ (s_int (A 6 (p).toNat)) ++ ([x_by 32])) (by omega) (A 7 (p).toNat) hl hp2 (by omega)) ?_
  rintro _ _ ⟨rfl, s3, ov3, f3, rfl, hp3⟩
  have hp03 := hp3.1
  have hp13 := hp3.2.1
  refine x_aload_n (x_d C_Wr_writeRef 20 rfl) rfl ?_
  refine x_getfield (v := xC 40) (x_d C_Wr_writeRef 21 rfl) f_Wr_27 rfl rfl ?_
  refine x_ldcS (i := 30) (x_d C_Wr_writeRef 22 rfl) rfl ?_
  refine x_invokevirtual (st := []) (av := [xS (61)]) (x_d C_Wr_writeRef 23 rfl) k_Wr_73 m_Pa_addText v_Pa_addText cl_Pa rfl rfl (Nat.le_of_ble_eq_true rfl) (by omega) rfl (c_Pb_addText_40 Z (d - 1) q (x_up (x_up r 515 (some 26)) 516 (some 40)) A dy s3 ov3 f3 (bs ++ (s_int (A 6 (p).toNat)) ++ ([x_by 32]) ++ (s_int (A 7 (p).toNat))) (by omega) (i := 30) rfl hl hp3) ?_
  rintro _ _ ⟨rfl, s4, ov4, f4, rfl, hp4⟩
  have hp4 : pb (q 1283) s4 ov4 f4 (bs ++ (s_int (A 6 (p).toNat)) ++ ([x_by 32]) ++ (s_int (A 7 (p).toNat)) ++ [32, 82]) := hp4
  have hp04 := hp4.1
  have hp14 := hp4.2.1
  refine x_return (x_d C_Wr_writeRef 24 rfl) ?_
  exact ⟨rfl, _, _, _, rfl, pb_fix hp4 (by unfold s_wr; simp only [List.append_assoc]; rfl)⟩
theorem c_Wr_writeData (Z : xZ) (d : Nat) (q : Nat → Int) (r : Nat → Option Nat) (A : Nat → Nat → Int) (dy : xH) (s ov : Int) (f : Nat → Int) (bs : List Int) (hd : 7 ≤ d) (p : Int) (hl : 0 ≤ q 1283 ∧ q 1283 ≤ 6000) (hp : pb (q 1283) s ov f bs) (hw : wl (A 5) (A 6) (A 7) (A 8) p) (hk : A 5 p.toNat = 9) : xMet Z d Y_Wr_writeData [xC 16, xI p] (hF (x_up (x_up q 1281 s) 1282 ov) (x_up (x_up r 515 (some 26)) 516 (some 40)) (x_up A 41 f) ++ dy) (fun v0 h2 => v0 = none ∧ ∃ s2 ov2 f2, h2 = hF (x_up (x_up q 1281 s2) 1282 ov2) (x_up (x_up r 515 (some 26)) 516 (some 40)) (x_up A 41 f2) ++ dy ∧ pb (q 1283) s2 ov2 f2 (bs ++ s_wd8 (A 6) (A 7) (A 2) p)) := by
  refine xMet_of (by decide) (Nat.le_of_ble_eq_true rfl) (fun v0 h2 hq => by rw [hq.1]; trivial) ?_
  have hp0 := hp.1
  have hp1 := hp.2.1
  obtain ⟨w1, w2, w3, w4, w5, w6, w7⟩ := hw
  have hk9 := w5 (Or.inr hk)
  refine x_aload_n (x_d C_Wr_writeData 0 rfl) rfl ?_
  refine x_getfield (v := xC 40) (x_d C_Wr_writeData 1 rfl) f_Wr_27 rfl rfl ?_
  refine x_ldcS (i := 35) (x_d C_Wr_writeData 2 rfl) rfl ?_
  refine x_invokevirtual (st := []) (av := [xS (71)]) (x_d C_Wr_writeData 3 rfl) k_Wr_73 m_Pa_addText v_Pa_addText cl_Pa rfl rfl (Nat.le_of_ble_eq_true rfl) (by omega) rfl (c_Pb_addText_40 Z (d - 1) q (x_up (x_up r 515 (some 26)) 516 (some 40)) A dy s ov f (bs) (by omega) (i := 35) rfl hl hp) ?_
  rintro _ _ ⟨rfl, s1, ov1, f1, rfl, hp1⟩
  have hp1 : pb (q 1283) s1 ov1 f1 (bs ++ [10, 115, 116, 114, 101, 97, 109, 10]) := hp1
  have hp01 := hp1.1
  have hp11 := hp1.2.1
  refine x_aload_n (x_d C_Wr_writeData 4 rfl) rfl ?_
  refine x_getfield (v := xC 40) (x_d C_Wr_writeData 5 rfl) f_Wr_27 rfl rfl ?_
  refine x_aload_n (x_d C_Wr_writeData 6 rfl) rfl ?_
  refine x_getfield (v := xC 1) (x_d C_Wr_writeData 7 rfl) f_Wr_15 rfl rfl ?_
  refine x_getfield (v := xC 2) (x_d C_Wr_writeData 8 rfl) f_Wr_31 rfl rfl ?_
  refine x_aload_n (x_d C_Wr_writeData 9 rfl) rfl ?_
  refine x_getfield (v := xC 4) (x_d C_Wr_writeData 10 rfl) f_Wr_19 rfl rfl ?_
  refine x_getfield (v := xC 6) (x_d C_Wr_writeData 11 rfl) f_Wr_158 rfl rfl ?_
  refine x_iload_n (x_d C_Wr_writeData 12 rfl) rfl ?_
  refine x_iaload (f := A 6) (x_d C_Wr_writeData 13 rfl) rfl (by omega) (by omega) ?_
  refine x_aload_n (x_d C_Wr_writeData 14 rfl) rfl ?_
  refine x_getfield (v := xC 4) (x_d C_Wr_writeData 15 rfl) f_Wr_19 rfl rfl ?_
  refine x_getfield (v := xC 7) (x_d C_Wr_writeData 16 rfl) f_Wr_161 rfl rfl ?_
  refine x_iload_n (x_d C_Wr_writeData 17 rfl) rfl ?_
  refine x_iaload (f := A 7) (x_d C_Wr_writeData 18 rfl) rfl (by omega) (by omega) ?_
  refine x_invokevirtual (st := []) (av := [xC 2, xI (A 6 (p).toNat), xI (A 7 (p).toNat)]) (x_d C_Wr_writeData 19 rfl) k_Wr_46 m_Pa_addRow v_Pa_addRow cl_Pa rfl rfl (Nat.le_of_ble_eq_true rfl) (by omega) rfl (c_Pb_addRow_40_2 Z (d - 1) q (x_up (x_up r 515 (some 26)) 516 (some 40)) A dy s1 ov1 f1 (bs ++ [10, 115, 116, 114, 101, 97, 109, 10]) (by omega) (A 6 (p).toNat) (A 7 (p).toNat) hl hp1 (by omega)) ?_
  rintro _ _ ⟨rfl, s2, ov2, f2, rfl, hp2⟩
  have hp02 := hp2.1
  have hp12 := hp2.2.1
  refine x_aload_n (x_d C_Wr_writeData 20 rfl) rfl ?_
  refine x_getfield (v := xC 40) (x_d C_Wr_writeData 21 rfl) f_Wr_27 rfl rfl ?_
  refine x_ldcS (i := 36) (x_d C_Wr_writeData 22 rfl) rfl ?_
  refine x_invokevirtual (st := []) (av := [xS (73)]) (x_d C_Wr_writeData 23 rfl) k_Wr_73 m_Pa_addText v_Pa_addText cl_Pa rfl rfl (Nat.le_of_ble_eq_true rfl) (by omega) rfl (c_Pb_addText_40 Z (d - 1) q (x_up (x_up r 515 (some 26)) 516 (some 40)) A dy s2 ov2 f2 (bs ++ [10, 115, 116, 114, 101, 97, 109, 10] ++ (s_sl (A 2) (A 6 (p).toNat).toNat (A 7 (p).toNat).toNat)) (by omega) (i := 36) rfl hl hp2) ?_
  rintro _ _ ⟨rfl, s3, ov3, f3, rfl, hp3⟩
  have hp3 : pb (q 1283) s3 ov3 f3 (bs ++ [10, 115, 116, 114, 101, 97, 109, 10] ++ (s_sl (A 2) (A 6 (p).toNat).toNat (A 7 (p).toNat).toNat) ++ [10, 101, 110, 100, 115, 116, 114, 101, 97, 109]) := hp3
  have hp03 := hp3.1
  have hp13 := hp3.2.1
  refine x_return (x_d C_Wr_writeData 24 rfl) ?_
  exact ⟨rfl, _, _, _, rfl, pb_fix hp3 (by unfold s_wd8; simp only [List.append_assoc])⟩
/-- what is asked of writing a value at the depth that leaves D -/
def WD (Z : xZ) (q : Nat → Int) (r : Nat → Option Nat) (A : Nat → Nat → Int) (dy : xH) (D : Nat) : Prop := ∀ (d : Nat) (s ov : Int) (f : Nat → Int) (bs : List Int) (p e : Int), 2 * D + 10 ≤ d → e = 9 - (D : Int) → wv (A 5) (A 6) (A 7) (A 8) (A 9) (A 2) (q 35) D p → pb (q 1283) s ov f bs → xMet Z d Y_Wr_writeValue [xC 16, xI p, xI e] (hF (x_up (x_up q 1281 s) 1282 ov) (x_up (x_up r 515 (some 26)) 516 (some 40)) (x_up A 41 f) ++ dy) (fun v0 h2 => v0 = none ∧ ∃ s2 ov2 f2, h2 = hF (x_up (x_up q 1281 s2) 1282 ov2) (x_up (x_up r 515 (some 26)) 516 (some 40)) (x_up A 41 f2) ++ dy ∧ pb (q 1283) s2 ov2 f2 (bs ++ s_wv (A 5) (A 6) (A 7) (A 8) (A 9) (A 2) (q 35) D p))
theorem w_Wr_writeItems_13 (Z : xZ) (d : Nat) (q : Nat → Int) (r : Nat → Option Nat) (A : Nat → Nat → Int) (dy : xH) (D : Nat) (hD : D ≤ 8) (hd : 2 * D + 11 ≤ d) (p e : Int) {i j : Nat} {sc sc2 : String × Nat × String × List Int} (hs : x_strs[i]? = some sc) (hs2 : x_strs[j]? = some sc2) (hl : 0 ≤ q 1283 ∧ q 1283 ≤ 6000) (hT : 0 ≤ q 34 ∧ q 34 ≤ q 35 ∧ q 35 ≤ 10248) (hR : s_okR A) (hsp : ∀ j, 0 ≤ A 8 j ∧ A 8 j ≤ 12900) (he : e = 8 - (D : Int)) (hrec : WD Z q r A dy D) (hpp : 0 ≤ p ∧ p < 12900 ∧ s_bh (A 8) p ≤ 12900) : ∀ (k : Nat) (s ov : Int) (f : Nat → Int) (bs : List Int) (t : Int), (s_bh (A 8) p - t).toNat = k → p < t → (∀ x, x ∈ s_K (A 8) (s_bh (A 8) p) t → wv (A 5) (A 6) (A 7) (A 8) (A 9) (A 2) (q 35) D x ∧ wnm (A 9) (A 2) (q 35) x) → pb (q 1283) s ov f bs → xW Z d Y_Wr_writeItems 13 [(0, xC 16), (1, xI p), (2, xI e), (3, xS (2 * i + 1)), (4, xS (2 * j + 1)), (5, xI t)] [] (hF (x_up (x_up q 1281 s) 1282 ov) (x_up (x_up r 515 (some 26)) 516 (some 40)) (x_up A 41 f) ++ dy) (fun v0 h2 => v0 = none ∧ ∃ s2 ov2 f2, h2 = hF (x_up (x_up q 1281 s2) 1282 ov2) (x_up (x_up r 515 (some 26)) 516 (some 40)) (x_up A 41 f2) ++ dy ∧ pb (q 1283) s2 ov2 f2 (bs ++ (s_its (s_wv (A 5) (A 6) (A 7) (A 8) (A 9) (A 2) (q 35) D) (A 9) (A 2) (q 35) (p + 1) (s_K (A 8) (s_bh (A 8) p) t) ++ sc2.2.2.2.map x_by))) := by
  intro k
  induction k using Nat.strongRecOn with
  | ind k ih =>
  intro s ov f bs t hk ht hmem hp
  have hp0 := hp.1
  have hp1 := hp.2.1
  have hgt := s_bh_gt (A 8) t
  have hs8 := hsp t.toNat
  have hb8 : s_bh (A 8) t ≤ t + 12900 := by unfold s_bh; omega
  have hx : t < s_bh (A 8) p → wv (A 5) (A 6) (A 7) (A 8) (A 9) (A 2) (q 35) D t ∧ wnm (A 9) (A 2) (q 35) t := fun h => hmem t (by rw [s_K_step h]; exact List.mem_cons_self)
  have hnm9 : t < s_bh (A 8) p → A 9 t.toNat = -1 ∨ (0 ≤ A 9 t.toNat ∧ A 9 t.toNat ≤ 10248 ∧ 0 ≤ s_wd (A 2) (q 35) (A 9 t.toNat)) := fun h => (hx h).2
  refine x_iload_n (x_d C_Wr_writeItems 8 rfl) rfl ?_
  refine x_bipush (x_d C_Wr_writeItems 9 rfl) (by omega) ?_
  refine x_icmp_gt (tgt := 107) (x_d C_Wr_writeItems 10 rfl) rfl (fun q => absurd q (by omega)) (fun _ => ?_)
  refine x_iload (x_d C_Wr_writeItems 11 rfl) rfl ?_
  refine x_aload_n (x_d C_Wr_writeItems 12 rfl) rfl ?_
  refine x_getfield (v := xC 4) (x_d C_Wr_writeItems 13 rfl) f_Wr_19 rfl rfl ?_
  refine x_iload_n (x_d C_Wr_writeItems 14 rfl) rfl ?_
  refine x_invokevirtual (st := [xI (t)]) (av := [xI (p)]) (x_d C_Wr_writeItems 15 rfl) k_Wr_134 m_P_behind v_P_behind cl_P rfl rfl (Nat.le_of_ble_eq_true rfl) (by omega) rfl (c_P_behind Z (d - 1) (x_up (x_up q 1281 s) 1282 ov) (x_up (x_up r 515 (some 26)) 516 (some 40)) (x_up A 41 f) dy (by omega) p ⟨by omega, by omega, hsp⟩) ?_
  rintro v_ _ ⟨hv_, rfl⟩
  obtain rfl : v_ = some (xI (s_bh (A 8) p)) := hv_
  refine x_icmp_ge (tgt := 107) (x_d C_Wr_writeItems 16 rfl) rfl (fun c2 => ?_) (fun c2 => ?_)
  · refine x_aload_n (x_d C_Wr_writeItems 56 rfl) rfl ?_
    refine x_getfield (v := xC 40) (x_d C_Wr_writeItems 57 rfl) f_Wr_27 rfl rfl ?_
    refine x_aload (x_d C_Wr_writeItems 58 rfl) rfl ?_
    refine x_invokevirtual (st := []) (av := [xS (2 * j + 1)]) (x_d C_Wr_writeItems 59 rfl) k_Wr_73 m_Pa_addText v_Pa_addText cl_Pa rfl rfl (Nat.le_of_ble_eq_true rfl) (by omega) rfl (c_Pb_addText_40 Z (d - 1) q (x_up (x_up r 515 (some 26)) 516 (some 40)) A dy s ov f (bs) (by omega) hs2 hl hp) ?_
    rintro _ _ ⟨rfl, s3, ov3, f3, rfl, hp3⟩
    have hp3 : pb (q 1283) s3 ov3 f3 (bs ++ (sc2.2.2.2.map x_by)) := hp3
    have hp03 := hp3.1
    have hp13 := hp3.2.1
    refine x_return (x_d C_Wr_writeItems 60 rfl) ?_
    rw [s_K_stop (by omega)]
    exact ⟨rfl, _, _, _, rfl, pb_fix hp3 rfl⟩
  · refine x_aload_n (x_d C_Wr_writeItems 17 rfl) rfl ?_
    refine x_getfield (v := xC 4) (x_d C_Wr_writeItems 18 rfl) f_Wr_19 rfl rfl ?_
    refine x_getfield (v := xC 9) (x_d C_Wr_writeItems 19 rfl) f_Wr_182 rfl rfl ?_
    refine x_iload (x_d C_Wr_writeItems 20 rfl) rfl ?_
    refine x_iaload (f := A 9) (x_d C_Wr_writeItems 21 rfl) rfl (by omega) (by omega) ?_
    refine x_if_lt (tgt := 67) (x_d C_Wr_writeItems 22 rfl) rfl (fun c4 => ?_) (fun c4 => ?_)
    · refine x_iload (x_d C_Wr_writeItems 35 rfl) rfl ?_
      refine x_iload_n (x_d C_Wr_writeItems 36 rfl) rfl ?_
      refine x_iconst (x_d C_Wr_writeItems 37 rfl) ⟨by omega, by omega⟩ ?_
      refine x_iadd (x_d C_Wr_writeItems 38 rfl) ⟨by omega, by omega⟩ ?_
      refine x_icmp_le (tgt := 84) (x_d C_Wr_writeItems 39 rfl) rfl (fun c5 => ?_) (fun c5 => ?_)
      · refine x_aload_n (x_d C_Wr_writeItems 44 rfl) rfl ?_
        refine x_iload (x_d C_Wr_writeItems 45 rfl) rfl ?_
        refine x_iload_n (x_d C_Wr_writeItems 46 rfl) rfl ?_
        refine x_iconst (x_d C_Wr_writeItems 47 rfl) ⟨by omega, by omega⟩ ?_
        refine x_iadd (x_d C_Wr_writeItems 48 rfl) ⟨by omega, by omega⟩ ?_
        refine x_invokevirtual (st := []) (av := [xI (t), xI (e + 1)]) (x_d C_Wr_writeItems 49 rfl) k_Wr_103 m_Wr_writeValue v_Wr_writeValue cl_Wr rfl rfl (Nat.le_of_ble_eq_true rfl) (by omega) rfl (hrec (d - 1) s ov f (bs) t (e + 1) (by omega) (by omega) (hx (by omega)).1 hp) ?_
        rintro _ _ ⟨rfl, s6, ov6, f6, rfl, hp6⟩
        have hp06 := hp6.1
        have hp16 := hp6.2.1
        refine x_aload_n (x_d C_Wr_writeItems 50 rfl) rfl ?_
        refine x_getfield (v := xC 4) (x_d C_Wr_writeItems 51 rfl) f_Wr_19 rfl rfl ?_
        refine x_iload (x_d C_Wr_writeItems 52 rfl) rfl ?_
        refine x_invokevirtual (st := []) (av := [xI (t)]) (x_d C_Wr_writeItems 53 rfl) k_Wr_134 m_P_behind v_P_behind cl_P rfl rfl (Nat.le_of_ble_eq_true rfl) (by omega) rfl (c_P_behind Z (d - 1) (x_up (x_up q 1281 s6) 1282 ov6) (x_up (x_up r 515 (some 26)) 516 (some 40)) (x_up A 41 f6) dy (by omega) t ⟨by omega, by omega, hsp⟩) ?_
        rintro v_ _ ⟨hv_, rfl⟩
        obtain rfl : v_ = some (xI (s_bh (A 8) t)) := hv_
        refine x_istore (l1 := [(5, xI (s_bh (A 8) t)), (0, xC 16), (1, xI (p)), (2, xI (e)), (3, xS (2 * i + 1)), (4, xS (2 * j + 1))]) (x_d C_Wr_writeItems 54 rfl) (by decide) rfl ?_
        refine x_goto (tgt := 13) (x_d C_Wr_writeItems 55 rfl) rfl ?_
        refine x_locs [1, 2, 3, 4, 5, 0] rfl ?_
        refine xW_post ?_ (ih (s_bh (A 8) p - s_bh (A 8) t).toNat (by omega) s6 ov6 f6 _ (s_bh (A 8) t) rfl (by omega) (fun x hx2 => hmem x (by rw [s_K_step (t := t) (by omega)]; exact List.mem_cons_of_mem _ hx2)) hp6)
        rintro v0 h2 ⟨g1, s9, ov9, f9, g2, g3⟩
        refine ⟨g1, s9, ov9, f9, g2, ?_⟩
        rw [s_K_step (t := t) (by omega)]
        refine pb_fix g3 ?_
        show _ = bs ++ ((((if 0 ≤ A 9 t.toNat then s_wn (A 9) (A 2) (q 35) t (if p + 1 < t then 1 else 0) else if p + 1 < t then [32] else []) ++ s_wv (A 5) (A 6) (A 7) (A 8) (A 9) (A 2) (q 35) D t) ++ s_its (s_wv (A 5) (A 6) (A 7) (A 8) (A 9) (A 2) (q 35) D) (A 9) (A 2) (q 35) (p + 1) (s_K (A 8) (s_bh (A 8) p) (s_bh (A 8) t))) ++ sc2.2.2.2.map x_by)
        first
        | (rw [if_pos (show 0 ≤ A 9 t.toNat by omega), if_pos (show p + 1 < t by omega)]; simp only [List.append_assoc]; done)
        | (rw [if_pos (show 0 ≤ A 9 t.toNat by omega), if_neg (show ¬ p + 1 < t by omega)]; simp only [List.append_assoc]; done)
        | (rw [if_neg (show ¬ 0 ≤ A 9 t.toNat by omega), if_pos (show p + 1 < t by omega)]; simp only [List.append_assoc]; rfl)
        | (rw [if_neg (show ¬ 0 ≤ A 9 t.toNat by omega), if_neg (show ¬ p + 1 < t by omega)]; simp only [List.append_assoc, List.nil_append]; done)
      · refine x_aload_n (x_d C_Wr_writeItems 40 rfl) rfl ?_
        refine x_getfield (v := xC 40) (x_d C_Wr_writeItems 41 rfl) f_Wr_27 rfl rfl ?_
        refine x_bipush (x_d C_Wr_writeItems 42 rfl) (by omega) ?_
        refine x_invokevirtual (st := []) (av := [xI (32)]) (x_d C_Wr_writeItems 43 rfl) k_Wr_92 m_Pa_add v_Pa_add cl_Pa rfl rfl (Nat.le_of_ble_eq_true rfl) (by omega) rfl (c_Pb_add_40 Z (d - 1) q (x_up (x_up r 515 (some 26)) 516 (some 40)) A dy s ov f bs 32 hl hp) ?_
        rintro _ _ ⟨rfl, s7, ov7, f7, rfl, hp7⟩
        have hp07 := hp7.1
        have hp17 := hp7.2.1
        refine x_aload_n (x_d C_Wr_writeItems 44 rfl) rfl ?_
        refine x_iload (x_d C_Wr_writeItems 45 rfl) rfl ?_
        refine x_iload_n (x_d C_Wr_writeItems 46 rfl) rfl ?_
        refine x_iconst (x_d C_Wr_writeItems 47 rfl) ⟨by omega, by omega⟩ ?_
        refine x_iadd (x_d C_Wr_writeItems 48 rfl) ⟨by omega, by omega⟩ ?_
        refine x_invokevirtual (st := []) (av := [xI (t), xI (e + 1)]) (x_d C_Wr_writeItems 49 rfl) k_Wr_103 m_Wr_writeValue v_Wr_writeValue cl_Wr rfl rfl (Nat.le_of_ble_eq_true rfl) (by omega) rfl (hrec (d - 1) s7 ov7 f7 (bs ++ ([x_by 32])) t (e + 1) (by omega) (by omega) (hx (by omega)).1 hp7) ?_
        rintro _ _ ⟨rfl, s8, ov8, f8, rfl, hp8⟩
        have hp08 := hp8.1
        have hp18 := hp8.2.1
        refine x_aload_n (x_d C_Wr_writeItems 50 rfl) rfl ?_
        refine x_getfield (v := xC 4) (x_d C_Wr_writeItems 51 rfl) f_Wr_19 rfl rfl ?_
        refine x_iload (x_d C_Wr_writeItems 52 rfl) rfl ?_
        refine x_invokevirtual (st := []) (av := [xI (t)]) (x_d C_Wr_writeItems 53 rfl) k_Wr_134 m_P_behind v_P_behind cl_P rfl rfl (Nat.le_of_ble_eq_true rfl) (by omega) rfl (c_P_behind Z (d - 1) (x_up (x_up q 1281 s8) 1282 ov8) (x_up (x_up r 515 (some 26)) 516 (some 40)) (x_up A 41 f8) dy (by omega) t ⟨by omega, by omega, hsp⟩) ?_
        rintro v_ _ ⟨hv_, rfl⟩
        obtain rfl : v_ = some (xI (s_bh (A 8) t)) := hv_
        refine x_istore (l1 := [(5, xI (s_bh (A 8) t)), (0, xC 16), (1, xI (p)), (2, xI (e)), (3, xS (2 * i + 1)), (4, xS (2 * j + 1))]) (x_d C_Wr_writeItems 54 rfl) (by decide) rfl ?_
        refine x_goto (tgt := 13) (x_d C_Wr_writeItems 55 rfl) rfl ?_
        refine x_locs [1, 2, 3, 4, 5, 0] rfl ?_
        refine xW_post ?_ (ih (s_bh (A 8) p - s_bh (A 8) t).toNat (by omega) s8 ov8 f8 _ (s_bh (A 8) t) rfl (by omega) (fun x hx2 => hmem x (by rw [s_K_step (t := t) (by omega)]; exact List.mem_cons_of_mem _ hx2)) hp8)
        rintro v0 h2 ⟨g1, s9, ov9, f9, g2, g3⟩
        refine ⟨g1, s9, ov9, f9, g2, ?_⟩
        rw [s_K_step (t := t) (by omega)]
        refine pb_fix g3 ?_
        show _ = bs ++ ((((if 0 ≤ A 9 t.toNat then s_wn (A 9) (A 2) (q 35) t (if p + 1 < t then 1 else 0) else if p + 1 < t then [32] else []) ++ s_wv (A 5) (A 6) (A 7) (A 8) (A 9) (A 2) (q 35) D t) ++ s_its (s_wv (A 5) (A 6) (A 7) (A 8) (A 9) (A 2) (q 35) D) (A 9) (A 2) (q 35) (p + 1) (s_K (A 8) (s_bh (A 8) p) (s_bh (A 8) t))) ++ sc2.2.2.2.map x_by)
        first
        | (rw [if_pos (show 0 ≤ A 9 t.toNat by omega), if_pos (show p + 1 < t by omega)]; simp only [List.append_assoc]; done)
        | (rw [if_pos (show 0 ≤ A 9 t.toNat by omega), if_neg (show ¬ p + 1 < t by omega)]; simp only [List.append_assoc]; done)
        | (rw [if_neg (show ¬ 0 ≤ A 9 t.toNat by omega), if_pos (show p + 1 < t by omega)]; simp only [List.append_assoc]; rfl)
        | (rw [if_neg (show ¬ 0 ≤ A 9 t.toNat by omega), if_neg (show ¬ p + 1 < t by omega)]; simp only [List.append_assoc, List.nil_append]; done)
    · refine x_aload_n (x_d C_Wr_writeItems 23 rfl) rfl ?_
      refine x_iload (x_d C_Wr_writeItems 24 rfl) rfl ?_
      refine x_iload (x_d C_Wr_writeItems 25 rfl) rfl ?_
      refine x_iload_n (x_d C_Wr_writeItems 26 rfl) rfl ?_
      refine x_iconst (x_d C_Wr_writeItems 27 rfl) ⟨by omega, by omega⟩ ?_
      refine x_iadd (x_d C_Wr_writeItems 28 rfl) ⟨by omega, by omega⟩ ?_
      refine x_icmp_le (tgt := 60) (x_d C_Wr_writeItems 29 rfl) rfl (fun c9 => ?_) (fun c9 => ?_)
      · refine x_iconst (x_d C_Wr_writeItems 32 rfl) ⟨by omega, by omega⟩ ?_
        refine x_invokevirtual (st := []) (av := [xI (t), xI (0)]) (x_d C_Wr_writeItems 33 rfl) k_Wr_138 m_Wr_writeName v_Wr_writeName cl_Wr rfl rfl (Nat.le_of_ble_eq_true rfl) (by omega) rfl (c_Wr_writeName Z (d - 1) q r A dy s ov f (bs) (by omega) t 0 hl hp hT hR (by omega) (by omega)) ?_
        rintro _ _ ⟨rfl, s10, ov10, f10, rfl, hp10⟩
        have hp010 := hp10.1
        have hp110 := hp10.2.1
        refine x_goto (tgt := 84) (x_d C_Wr_writeItems 34 rfl) rfl ?_
        refine x_aload_n (x_d C_Wr_writeItems 44 rfl) rfl ?_
        refine x_iload (x_d C_Wr_writeItems 45 rfl) rfl ?_
        refine x_iload_n (x_d C_Wr_writeItems 46 rfl) rfl ?_
        refine x_iconst (x_d C_Wr_writeItems 47 rfl) ⟨by omega, by omega⟩ ?_
        refine x_iadd (x_d C_Wr_writeItems 48 rfl) ⟨by omega, by omega⟩ ?_
        refine x_invokevirtual (st := []) (av := [xI (t), xI (e + 1)]) (x_d C_Wr_writeItems 49 rfl) k_Wr_103 m_Wr_writeValue v_Wr_writeValue cl_Wr rfl rfl (Nat.le_of_ble_eq_true rfl) (by omega) rfl (hrec (d - 1) s10 ov10 f10 (bs ++ (s_wn (A 9) (A 2) (q 35) t 0)) t (e + 1) (by omega) (by omega) (hx (by omega)).1 hp10) ?_
        rintro _ _ ⟨rfl, s11, ov11, f11, rfl, hp11⟩
        have hp011 := hp11.1
        have hp111 := hp11.2.1
        refine x_aload_n (x_d C_Wr_writeItems 50 rfl) rfl ?_
        refine x_getfield (v := xC 4) (x_d C_Wr_writeItems 51 rfl) f_Wr_19 rfl rfl ?_
        refine x_iload (x_d C_Wr_writeItems 52 rfl) rfl ?_
        refine x_invokevirtual (st := []) (av := [xI (t)]) (x_d C_Wr_writeItems 53 rfl) k_Wr_134 m_P_behind v_P_behind cl_P rfl rfl (Nat.le_of_ble_eq_true rfl) (by omega) rfl (c_P_behind Z (d - 1) (x_up (x_up q 1281 s11) 1282 ov11) (x_up (x_up r 515 (some 26)) 516 (some 40)) (x_up A 41 f11) dy (by omega) t ⟨by omega, by omega, hsp⟩) ?_
        rintro v_ _ ⟨hv_, rfl⟩
        obtain rfl : v_ = some (xI (s_bh (A 8) t)) := hv_
        refine x_istore (l1 := [(5, xI (s_bh (A 8) t)), (0, xC 16), (1, xI (p)), (2, xI (e)), (3, xS (2 * i + 1)), (4, xS (2 * j + 1))]) (x_d C_Wr_writeItems 54 rfl) (by decide) rfl ?_
        refine x_goto (tgt := 13) (x_d C_Wr_writeItems 55 rfl) rfl ?_
        refine x_locs [1, 2, 3, 4, 5, 0] rfl ?_
        refine xW_post ?_ (ih (s_bh (A 8) p - s_bh (A 8) t).toNat (by omega) s11 ov11 f11 _ (s_bh (A 8) t) rfl (by omega) (fun x hx2 => hmem x (by rw [s_K_step (t := t) (by omega)]; exact List.mem_cons_of_mem _ hx2)) hp11)
        rintro v0 h2 ⟨g1, s9, ov9, f9, g2, g3⟩
        refine ⟨g1, s9, ov9, f9, g2, ?_⟩
        rw [s_K_step (t := t) (by omega)]
        refine pb_fix g3 ?_
        show _ = bs ++ ((((if 0 ≤ A 9 t.toNat then s_wn (A 9) (A 2) (q 35) t (if p + 1 < t then 1 else 0) else if p + 1 < t then [32] else []) ++ s_wv (A 5) (A 6) (A 7) (A 8) (A 9) (A 2) (q 35) D t) ++ s_its (s_wv (A 5) (A 6) (A 7) (A 8) (A 9) (A 2) (q 35) D) (A 9) (A 2) (q 35) (p + 1) (s_K (A 8) (s_bh (A 8) p) (s_bh (A 8) t))) ++ sc2.2.2.2.map x_by)
        first
        | (rw [if_pos (show 0 ≤ A 9 t.toNat by omega), if_pos (show p + 1 < t by omega)]; simp only [List.append_assoc]; done)
        | (rw [if_pos (show 0 ≤ A 9 t.toNat by omega), if_neg (show ¬ p + 1 < t by omega)]; simp only [List.append_assoc]; done)
        | (rw [if_neg (show ¬ 0 ≤ A 9 t.toNat by omega), if_pos (show p + 1 < t by omega)]; simp only [List.append_assoc]; rfl)
        | (rw [if_neg (show ¬ 0 ≤ A 9 t.toNat by omega), if_neg (show ¬ p + 1 < t by omega)]; simp only [List.append_assoc, List.nil_append]; done)
      · refine x_iconst (x_d C_Wr_writeItems 30 rfl) ⟨by omega, by omega⟩ ?_
        refine x_goto (tgt := 61) (x_d C_Wr_writeItems 31 rfl) rfl ?_
        refine x_invokevirtual (st := []) (av := [xI (t), xI (1)]) (x_d C_Wr_writeItems 33 rfl) k_Wr_138 m_Wr_writeName v_Wr_writeName cl_Wr rfl rfl (Nat.le_of_ble_eq_true rfl) (by omega) rfl (c_Wr_writeName Z (d - 1) q r A dy s ov f (bs) (by omega) t 1 hl hp hT hR (by omega) (by omega)) ?_
        rintro _ _ ⟨rfl, s12, ov12, f12, rfl, hp12⟩
        have hp012 := hp12.1
        have hp112 := hp12.2.1
        refine x_goto (tgt := 84) (x_d C_Wr_writeItems 34 rfl) rfl ?_
        refine x_aload_n (x_d C_Wr_writeItems 44 rfl) rfl ?_
        refine x_iload (x_d C_Wr_writeItems 45 rfl) rfl ?_
        refine x_iload_n (x_d C_Wr_writeItems 46 rfl) rfl ?_
        refine x_iconst (x_d C_Wr_writeItems 47 rfl) ⟨by omega, by omega⟩ ?_
        refine x_iadd (x_d C_Wr_writeItems 48 rfl) ⟨by omega, by omega⟩ ?_
        refine x_invokevirtual (st := []) (av := [xI (t), xI (e + 1)]) (x_d C_Wr_writeItems 49 rfl) k_Wr_103 m_Wr_writeValue v_Wr_writeValue cl_Wr rfl rfl (Nat.le_of_ble_eq_true rfl) (by omega) rfl (hrec (d - 1) s12 ov12 f12 (bs ++ (s_wn (A 9) (A 2) (q 35) t 1)) t (e + 1) (by omega) (by omega) (hx (by omega)).1 hp12) ?_
        rintro _ _ ⟨rfl, s13, ov13, f13, rfl, hp13⟩
        have hp013 := hp13.1
        have hp113 := hp13.2.1
        refine x_aload_n (x_d C_Wr_writeItems 50 rfl) rfl ?_
        refine x_getfield (v := xC 4) (x_d C_Wr_writeItems 51 rfl) f_Wr_19 rfl rfl ?_
        refine x_iload (x_d C_Wr_writeItems 52 rfl) rfl ?_
        refine x_invokevirtual (st := []) (av := [xI (t)]) (x_d C_Wr_writeItems 53 rfl) k_Wr_134 m_P_behind v_P_behind cl_P rfl rfl (Nat.le_of_ble_eq_true rfl) (by omega) rfl (c_P_behind Z (d - 1) (x_up (x_up q 1281 s13) 1282 ov13) (x_up (x_up r 515 (some 26)) 516 (some 40)) (x_up A 41 f13) dy (by omega) t ⟨by omega, by omega, hsp⟩) ?_
        rintro v_ _ ⟨hv_, rfl⟩
        obtain rfl : v_ = some (xI (s_bh (A 8) t)) := hv_
        refine x_istore (l1 := [(5, xI (s_bh (A 8) t)), (0, xC 16), (1, xI (p)), (2, xI (e)), (3, xS (2 * i + 1)), (4, xS (2 * j + 1))]) (x_d C_Wr_writeItems 54 rfl) (by decide) rfl ?_
        refine x_goto (tgt := 13) (x_d C_Wr_writeItems 55 rfl) rfl ?_
        refine x_locs [1, 2, 3, 4, 5, 0] rfl ?_
        refine xW_post ?_ (ih (s_bh (A 8) p - s_bh (A 8) t).toNat (by omega) s13 ov13 f13 _ (s_bh (A 8) t) rfl (by omega) (fun x hx2 => hmem x (by rw [s_K_step (t := t) (by omega)]; exact List.mem_cons_of_mem _ hx2)) hp13)
        rintro v0 h2 ⟨g1, s9, ov9, f9, g2, g3⟩
        refine ⟨g1, s9, ov9, f9, g2, ?_⟩
        rw [s_K_step (t := t) (by omega)]
        refine pb_fix g3 ?_
        show _ = bs ++ ((((if 0 ≤ A 9 t.toNat then s_wn (A 9) (A 2) (q 35) t (if p + 1 < t then 1 else 0) else if p + 1 < t then [32] else []) ++ s_wv (A 5) (A 6) (A 7) (A 8) (A 9) (A 2) (q 35) D t) ++ s_its (s_wv (A 5) (A 6) (A 7) (A 8) (A 9) (A 2) (q 35) D) (A 9) (A 2) (q 35) (p + 1) (s_K (A 8) (s_bh (A 8) p) (s_bh (A 8) t))) ++ sc2.2.2.2.map x_by)
        first
        | (rw [if_pos (show 0 ≤ A 9 t.toNat by omega), if_pos (show p + 1 < t by omega)]; simp only [List.append_assoc]; done)
        | (rw [if_pos (show 0 ≤ A 9 t.toNat by omega), if_neg (show ¬ p + 1 < t by omega)]; simp only [List.append_assoc]; done)
        | (rw [if_neg (show ¬ 0 ≤ A 9 t.toNat by omega), if_pos (show p + 1 < t by omega)]; simp only [List.append_assoc]; rfl)
        | (rw [if_neg (show ¬ 0 ≤ A 9 t.toNat by omega), if_neg (show ¬ p + 1 < t by omega)]; simp only [List.append_assoc, List.nil_append]; done)
theorem c_Wr_writeItems (Z : xZ) (d : Nat) (q : Nat → Int) (r : Nat → Option Nat) (A : Nat → Nat → Int) (dy : xH) (s ov : Int) (f : Nat → Int) (bs : List Int) (D : Nat) (hD : D ≤ 8) (hd : 2 * D + 11 ≤ d) (p e : Int) {i j : Nat} {sc sc2 : String × Nat × String × List Int} (hs : x_strs[i]? = some sc) (hs2 : x_strs[j]? = some sc2) (hl : 0 ≤ q 1283 ∧ q 1283 ≤ 6000) (hp : pb (q 1283) s ov f bs) (hT : 0 ≤ q 34 ∧ q 34 ≤ q 35 ∧ q 35 ≤ 10248) (hR : s_okR A) (hsp : ∀ j, 0 ≤ A 8 j ∧ A 8 j ≤ 12900) (he : e = 8 - (D : Int)) (hrec : WD Z q r A dy D) (hpp : 0 ≤ p ∧ p < 12900 ∧ s_bh (A 8) p ≤ 12900) (hmem : ∀ x, x ∈ s_in (A 8) p → wv (A 5) (A 6) (A 7) (A 8) (A 9) (A 2) (q 35) D x ∧ wnm (A 9) (A 2) (q 35) x) : xMet Z d Y_Wr_writeItems [xC 16, xI p, xI e, xS (2 * i + 1), xS (2 * j + 1)] (hF (x_up (x_up q 1281 s) 1282 ov) (x_up (x_up r 515 (some 26)) 516 (some 40)) (x_up A 41 f) ++ dy) (fun v0 h2 => v0 = none ∧ ∃ s2 ov2 f2, h2 = hF (x_up (x_up q 1281 s2) 1282 ov2) (x_up (x_up r 515 (some 26)) 516 (some 40)) (x_up A 41 f2) ++ dy ∧ pb (q 1283) s2 ov2 f2 (bs ++ (sc.2.2.2.map x_by ++ (s_its (s_wv (A 5) (A 6) (A 7) (A 8) (A 9) (A 2) (q 35) D) (A 9) (A 2) (q 35) (p + 1) (s_in (A 8) p) ++ sc2.2.2.2.map x_by)))) := by
  refine xMet_of (by decide) (Nat.le_of_ble_eq_true rfl) (fun v0 h2 hq => by rw [hq.1]; trivial) ?_
  have hp0 := hp.1
  have hp1 := hp.2.1
  refine x_aload_n (x_d C_Wr_writeItems 0 rfl) rfl ?_
  refine x_getfield (v := xC 40) (x_d C_Wr_writeItems 1 rfl) f_Wr_27 rfl rfl ?_
  refine x_aload_n (x_d C_Wr_writeItems 2 rfl) rfl ?_
  refine x_invokevirtual (st := []) (av := [xS (2 * i + 1)]) (x_d C_Wr_writeItems 3 rfl) k_Wr_73 m_Pa_addText v_Pa_addText cl_Pa rfl rfl (Nat.le_of_ble_eq_true rfl) (by omega) rfl (c_Pb_addText_40 Z (d - 1) q (x_up (x_up r 515 (some 26)) 516 (some 40)) A dy s ov f (bs) (by omega) hs hl hp) ?_
  rintro _ _ ⟨rfl, s1, ov1, f1, rfl, hp1⟩
  have hp1 : pb (q 1283) s1 ov1 f1 (bs ++ (sc.2.2.2.map x_by)) := hp1
  have hp01 := hp1.1
  have hp11 := hp1.2.1
  refine x_iload_n (x_d C_Wr_writeItems 4 rfl) rfl ?_
  refine x_iconst (x_d C_Wr_writeItems 5 rfl) ⟨by omega, by omega⟩ ?_
  refine x_iadd (x_d C_Wr_writeItems 6 rfl) ⟨by omega, by omega⟩ ?_
  refine x_istore (l1 := [(5, xI (p + 1)), (0, xC 16), (1, xI (p)), (2, xI (e)), (3, xS (2 * i + 1)), (4, xS (2 * j + 1))]) (x_d C_Wr_writeItems 7 rfl) (by decide) rfl ?_
  refine x_locs [1, 2, 3, 4, 5, 0] rfl ?_
  refine xW_post ?_ (w_Wr_writeItems_13 Z d q r A dy D hD (by omega) p e hs hs2 hl hT hR hsp he hrec hpp _ s1 ov1 f1 _ (p + 1) rfl (by omega) hmem hp1)
  rintro v0 h2 ⟨g1, s9, ov9, f9, g2, g3⟩
  exact ⟨g1, s9, ov9, f9, g2, pb_fix g3 (by simp only [List.append_assoc]; rfl)⟩
theorem c_Wr_writeItems9 (Z : xZ) (d : Nat) (q : Nat → Int) (r : Nat → Option Nat) (A : Nat → Nat → Int) (dy : xH) (s ov : Int) (f : Nat → Int) (bs : List Int) (hd : 8 ≤ d) (p : Int) {i j : Nat} {sc sc2 : String × Nat × String × List Int} (hs : x_strs[i]? = some sc) (hs2 : x_strs[j]? = some sc2) (hl : 0 ≤ q 1283 ∧ q 1283 ≤ 6000) (hp : pb (q 1283) s ov f bs) (hpp : 0 ≤ p ∧ p < 12900) : xMet Z d Y_Wr_writeItems [xC 16, xI p, xI 9, xS (2 * i + 1), xS (2 * j + 1)] (hF (x_up (x_up q 1281 s) 1282 ov) (x_up (x_up r 515 (some 26)) 516 (some 40)) (x_up A 41 f) ++ dy) (fun v0 h2 => v0 = none ∧ ∃ s2 ov2 f2, h2 = hF (x_up (x_up q 1281 s2) 1282 ov2) (x_up (x_up r 515 (some 26)) 516 (some 40)) (x_up A 41 f2) ++ dy ∧ pb (q 1283) s2 ov2 f2 (bs ++ (sc.2.2.2.map x_by ++ sc2.2.2.2.map x_by))) := by
  refine xMet_of (by decide) (Nat.le_of_ble_eq_true rfl) (fun v0 h2 hq => by rw [hq.1]; trivial) ?_
  have hp0 := hp.1
  have hp1 := hp.2.1
  refine x_aload_n (x_d C_Wr_writeItems 0 rfl) rfl ?_
  refine x_getfield (v := xC 40) (x_d C_Wr_writeItems 1 rfl) f_Wr_27 rfl rfl ?_
  refine x_aload_n (x_d C_Wr_writeItems 2 rfl) rfl ?_
  refine x_invokevirtual (st := []) (av := [xS (2 * i + 1)]) (x_d C_Wr_writeItems 3 rfl) k_Wr_73 m_Pa_addText v_Pa_addText cl_Pa rfl rfl (Nat.le_of_ble_eq_true rfl) (by omega) rfl (c_Pb_addText_40 Z (d - 1) q (x_up (x_up r 515 (some 26)) 516 (some 40)) A dy s ov f (bs) (by omega) hs hl hp) ?_
  rintro _ _ ⟨rfl, s1, ov1, f1, rfl, hp1⟩
  have hp1 : pb (q 1283) s1 ov1 f1 (bs ++ (sc.2.2.2.map x_by)) := hp1
  have hp01 := hp1.1
  have hp11 := hp1.2.1
  refine x_iload_n (x_d C_Wr_writeItems 4 rfl) rfl ?_
  refine x_iconst (x_d C_Wr_writeItems 5 rfl) ⟨by omega, by omega⟩ ?_
  refine x_iadd (x_d C_Wr_writeItems 6 rfl) ⟨by omega, by omega⟩ ?_
  refine x_istore (l1 := [(5, xI (p + 1)), (0, xC 16), (1, xI (p)), (2, xI (9)), (3, xS (2 * i + 1)), (4, xS (2 * j + 1))]) (x_d C_Wr_writeItems 7 rfl) (by decide) rfl ?_
  refine x_iload_n (x_d C_Wr_writeItems 8 rfl) rfl ?_
  refine x_bipush (x_d C_Wr_writeItems 9 rfl) (by omega) ?_
  refine x_icmp_gt (tgt := 107) (x_d C_Wr_writeItems 10 rfl) rfl (fun _ => ?_) (fun q => absurd q (by omega))
  refine x_aload_n (x_d C_Wr_writeItems 56 rfl) rfl ?_
  refine x_getfield (v := xC 40) (x_d C_Wr_writeItems 57 rfl) f_Wr_27 rfl rfl ?_
  refine x_aload (x_d C_Wr_writeItems 58 rfl) rfl ?_
  refine x_invokevirtual (st := []) (av := [xS (2 * j + 1)]) (x_d C_Wr_writeItems 59 rfl) k_Wr_73 m_Pa_addText v_Pa_addText cl_Pa rfl rfl (Nat.le_of_ble_eq_true rfl) (by omega) rfl (c_Pb_addText_40 Z (d - 1) q (x_up (x_up r 515 (some 26)) 516 (some 40)) A dy s1 ov1 f1 (bs ++ (sc.2.2.2.map x_by)) (by omega) hs2 hl hp1) ?_
  rintro _ _ ⟨rfl, s3, ov3, f3, rfl, hp3⟩
  have hp3 : pb (q 1283) s3 ov3 f3 (bs ++ (sc.2.2.2.map x_by) ++ (sc2.2.2.2.map x_by)) := hp3
  have hp03 := hp3.1
  have hp13 := hp3.2.1
  refine x_return (x_d C_Wr_writeItems 60 rfl) ?_
  exact ⟨rfl, _, _, _, rfl, pb_as hp3⟩
theorem c_Wr_writeValue_0 (Z : xZ) (q : Nat → Int) (r : Nat → Option Nat) (A : Nat → Nat → Int) (dy : xH) (hl : 0 ≤ q 1283 ∧ q 1283 ≤ 6000) (hT : 0 ≤ q 34 ∧ q 34 ≤ q 35 ∧ q 35 ≤ 10248) (hR : s_okR A) (hsp : ∀ j, 0 ≤ A 8 j ∧ A 8 j ≤ 12900) : WD Z q r A dy (0) := by
  intro d s ov f bs p e hd he hwv hp
  obtain rfl : e = 9 := by omega
  have hw := wv_wl hwv
  have hw0 := hw
  obtain ⟨w1, w2, w3, w4, w5, w6, w7⟩ := hw0
  have hp0 := hp.1
  have hp1 := hp.2.1
  refine xMet_of (by decide) (Nat.le_of_ble_eq_true rfl) (fun v0 h2 hq => by rw [hq.1]; trivial) ?_
  refine xW_ok (fun _ _ hok => ?_)
  have hi6 : x_i32 (A 6 p.toNat) := hok _ (List.mem_of_getElem? (i := 6) rfl) p.toNat
  obtain ⟨ia6, ib6⟩ := hi6
  have hi7 : x_i32 (A 7 p.toNat) := hok _ (List.mem_of_getElem? (i := 7) rfl) p.toNat
  obtain ⟨ia7, ib7⟩ := hi7
  refine x_aload_n (x_d C_Wr_writeValue 0 rfl) rfl ?_
  refine x_getfield (v := xC 4) (x_d C_Wr_writeValue 1 rfl) f_Wr_19 rfl rfl ?_
  refine x_getfield (v := xC 5) (x_d C_Wr_writeValue 2 rfl) f_Wr_149 rfl rfl ?_
  refine x_iload_n (x_d C_Wr_writeValue 3 rfl) rfl ?_
  refine x_iaload (f := A 5) (x_d C_Wr_writeValue 4 rfl) rfl (by omega) (by omega) ?_
  rcases (show A 5 (p).toNat < 0 ∨ 9 < A 5 (p).toNat ∨ A 5 (p).toNat = 0 ∨ A 5 (p).toNat = 1 ∨ A 5 (p).toNat = 2 ∨ A 5 (p).toNat = 3 ∨ A 5 (p).toNat = 4 ∨ A 5 (p).toNat = 5 ∨ A 5 (p).toNat = 6 ∨ A 5 (p).toNat = 7 ∨ A 5 (p).toNat = 8 ∨ A 5 (p).toNat = 9 by omega) with c1 | c1 | c1 | c1 | c1 | c1 | c1 | c1 | c1 | c1 | c1 | c1
  · refine x_tableOut (tgt := 253) (x_d C_Wr_writeValue 5 rfl) (Or.inl c1) rfl ?_
    refine x_aload_n (x_d C_Wr_writeValue 97 rfl) rfl ?_
    refine x_iload_n (x_d C_Wr_writeValue 98 rfl) rfl ?_
    refine x_iload_n (x_d C_Wr_writeValue 99 rfl) rfl ?_
    refine x_ldcS (i := 37) (x_d C_Wr_writeValue 100 rfl) rfl ?_
    refine x_ldcS (i := 38) (x_d C_Wr_writeValue 101 rfl) rfl ?_
    refine x_invokevirtual (st := []) (av := [xI (p), xI (9), xS (75), xS (77)]) (x_d C_Wr_writeValue 102 rfl) k_Wr_171 m_Wr_writeItems v_Wr_writeItems cl_Wr rfl rfl (Nat.le_of_ble_eq_true rfl) (by omega) rfl (c_Wr_writeItems9 Z (d - 1) q r A dy s ov f (bs) (by omega) p (i := 37) (j := 38) rfl rfl hl hp (by omega)) ?_
    rintro _ _ ⟨rfl, s2, ov2, f2, rfl, hp2⟩
    have hp2 : pb (q 1283) s2 ov2 f2 (bs ++ ([91] ++ [93])) := hp2
    refine x_return (x_d C_Wr_writeValue 103 rfl) ?_
    refine ⟨rfl, _, _, _, rfl, pb_fix hp2 ?_⟩
    unfold s_wv s_bxw
    first
    | (rw [if_pos (show A 5 p.toNat = 9 by omega)]; simp only [List.append_assoc]; try rfl)
    | (rw [if_neg (show ¬ A 5 p.toNat = 9 by omega), if_pos (show A 5 p.toNat = 7 by omega)]; try rfl)
    | (rw [if_neg (show ¬ A 5 p.toNat = 9 by omega), if_neg (show ¬ A 5 p.toNat = 7 by omega), if_neg (show ¬ (0 ≤ A 5 p.toNat ∧ A 5 p.toNat ≤ 8 ∧ ¬ A 5 p.toNat = 6) by omega)]; try rfl)
    | (rw [if_neg (show ¬ A 5 p.toNat = 9 by omega), if_neg (show ¬ A 5 p.toNat = 7 by omega), if_pos (show (0 ≤ A 5 p.toNat ∧ A 5 p.toNat ≤ 8 ∧ ¬ A 5 p.toNat = 6) by omega)]
       unfold s_lf
       first
       | (rw [if_pos (show A 5 p.toNat = 0 by omega)]; try rfl)
       | (rw [if_neg (show ¬ A 5 p.toNat = 0 by omega), if_pos (show A 5 p.toNat = 1 by omega)]; try rfl)
       | (rw [if_neg (show ¬ A 5 p.toNat = 0 by omega), if_neg (show ¬ A 5 p.toNat = 1 by omega), if_pos (show A 5 p.toNat = 2 by omega)]; try rfl)
       | (rw [if_neg (show ¬ A 5 p.toNat = 0 by omega), if_neg (show ¬ A 5 p.toNat = 1 by omega), if_neg (show ¬ A 5 p.toNat = 2 by omega), if_pos (show A 5 p.toNat = 3 by omega)]; try rfl)
       | (rw [if_neg (show ¬ A 5 p.toNat = 0 by omega), if_neg (show ¬ A 5 p.toNat = 1 by omega), if_neg (show ¬ A 5 p.toNat = 2 by omega), if_neg (show ¬ A 5 p.toNat = 3 by omega), if_pos (show A 5 p.toNat = 4 by omega)]; simp only [List.append_assoc]; try rfl)
       | (rw [if_neg (show ¬ A 5 p.toNat = 0 by omega), if_neg (show ¬ A 5 p.toNat = 1 by omega), if_neg (show ¬ A 5 p.toNat = 2 by omega), if_neg (show ¬ A 5 p.toNat = 3 by omega), if_neg (show ¬ A 5 p.toNat = 4 by omega), if_pos (show A 5 p.toNat = 5 by omega)]; simp only [List.append_assoc]; try rfl)
       | (rw [if_neg (show ¬ A 5 p.toNat = 0 by omega), if_neg (show ¬ A 5 p.toNat = 1 by omega), if_neg (show ¬ A 5 p.toNat = 2 by omega), if_neg (show ¬ A 5 p.toNat = 3 by omega), if_neg (show ¬ A 5 p.toNat = 4 by omega), if_neg (show ¬ A 5 p.toNat = 5 by omega)]; try rfl))
  · refine x_tableOut (tgt := 253) (x_d C_Wr_writeValue 5 rfl) (Or.inr c1) rfl ?_
    refine x_aload_n (x_d C_Wr_writeValue 97 rfl) rfl ?_
    refine x_iload_n (x_d C_Wr_writeValue 98 rfl) rfl ?_
    refine x_iload_n (x_d C_Wr_writeValue 99 rfl) rfl ?_
    refine x_ldcS (i := 37) (x_d C_Wr_writeValue 100 rfl) rfl ?_
    refine x_ldcS (i := 38) (x_d C_Wr_writeValue 101 rfl) rfl ?_
    refine x_invokevirtual (st := []) (av := [xI (p), xI (9), xS (75), xS (77)]) (x_d C_Wr_writeValue 102 rfl) k_Wr_171 m_Wr_writeItems v_Wr_writeItems cl_Wr rfl rfl (Nat.le_of_ble_eq_true rfl) (by omega) rfl (c_Wr_writeItems9 Z (d - 1) q r A dy s ov f (bs) (by omega) p (i := 37) (j := 38) rfl rfl hl hp (by omega)) ?_
    rintro _ _ ⟨rfl, s3, ov3, f3, rfl, hp3⟩
    have hp3 : pb (q 1283) s3 ov3 f3 (bs ++ ([91] ++ [93])) := hp3
    refine x_return (x_d C_Wr_writeValue 103 rfl) ?_
    refine ⟨rfl, _, _, _, rfl, pb_fix hp3 ?_⟩
    unfold s_wv s_bxw
    first
    | (rw [if_pos (show A 5 p.toNat = 9 by omega)]; simp only [List.append_assoc]; try rfl)
    | (rw [if_neg (show ¬ A 5 p.toNat = 9 by omega), if_pos (show A 5 p.toNat = 7 by omega)]; try rfl)
    | (rw [if_neg (show ¬ A 5 p.toNat = 9 by omega), if_neg (show ¬ A 5 p.toNat = 7 by omega), if_neg (show ¬ (0 ≤ A 5 p.toNat ∧ A 5 p.toNat ≤ 8 ∧ ¬ A 5 p.toNat = 6) by omega)]; try rfl)
    | (rw [if_neg (show ¬ A 5 p.toNat = 9 by omega), if_neg (show ¬ A 5 p.toNat = 7 by omega), if_pos (show (0 ≤ A 5 p.toNat ∧ A 5 p.toNat ≤ 8 ∧ ¬ A 5 p.toNat = 6) by omega)]
       unfold s_lf
       first
       | (rw [if_pos (show A 5 p.toNat = 0 by omega)]; try rfl)
       | (rw [if_neg (show ¬ A 5 p.toNat = 0 by omega), if_pos (show A 5 p.toNat = 1 by omega)]; try rfl)
       | (rw [if_neg (show ¬ A 5 p.toNat = 0 by omega), if_neg (show ¬ A 5 p.toNat = 1 by omega), if_pos (show A 5 p.toNat = 2 by omega)]; try rfl)
       | (rw [if_neg (show ¬ A 5 p.toNat = 0 by omega), if_neg (show ¬ A 5 p.toNat = 1 by omega), if_neg (show ¬ A 5 p.toNat = 2 by omega), if_pos (show A 5 p.toNat = 3 by omega)]; try rfl)
       | (rw [if_neg (show ¬ A 5 p.toNat = 0 by omega), if_neg (show ¬ A 5 p.toNat = 1 by omega), if_neg (show ¬ A 5 p.toNat = 2 by omega), if_neg (show ¬ A 5 p.toNat = 3 by omega), if_pos (show A 5 p.toNat = 4 by omega)]; simp only [List.append_assoc]; try rfl)
       | (rw [if_neg (show ¬ A 5 p.toNat = 0 by omega), if_neg (show ¬ A 5 p.toNat = 1 by omega), if_neg (show ¬ A 5 p.toNat = 2 by omega), if_neg (show ¬ A 5 p.toNat = 3 by omega), if_neg (show ¬ A 5 p.toNat = 4 by omega), if_pos (show A 5 p.toNat = 5 by omega)]; simp only [List.append_assoc]; try rfl)
       | (rw [if_neg (show ¬ A 5 p.toNat = 0 by omega), if_neg (show ¬ A 5 p.toNat = 1 by omega), if_neg (show ¬ A 5 p.toNat = 2 by omega), if_neg (show ¬ A 5 p.toNat = 3 by omega), if_neg (show ¬ A 5 p.toNat = 4 by omega), if_neg (show ¬ A 5 p.toNat = 5 by omega)]; try rfl))
  · refine x_tableIn (tgt := 64) (off := 55) (x_d C_Wr_writeValue 5 rfl) (by omega) (by omega) (by rw [c1]; rfl) rfl ?_
    refine x_aload_n (x_d C_Wr_writeValue 6 rfl) rfl ?_
    refine x_getfield (v := xC 40) (x_d C_Wr_writeValue 7 rfl) f_Wr_27 rfl rfl ?_
    refine x_ldcS (i := 27) (x_d C_Wr_writeValue 8 rfl) rfl ?_
    refine x_invokevirtual (st := []) (av := [xS (55)]) (x_d C_Wr_writeValue 9 rfl) k_Wr_73 m_Pa_addText v_Pa_addText cl_Pa rfl rfl (Nat.le_of_ble_eq_true rfl) (by omega) rfl (c_Pb_addText_40 Z (d - 1) q (x_up (x_up r 515 (some 26)) 516 (some 40)) A dy s ov f (bs) (by omega) (i := 27) rfl hl hp) ?_
    rintro _ _ ⟨rfl, s4, ov4, f4, rfl, hp4⟩
    have hp4 : pb (q 1283) s4 ov4 f4 (bs ++ [110, 117, 108, 108]) := hp4
    have hp04 := hp4.1
    have hp14 := hp4.2.1
    refine x_goto (tgt := 263) (x_d C_Wr_writeValue 10 rfl) rfl ?_
    refine x_return (x_d C_Wr_writeValue 103 rfl) ?_
    refine ⟨rfl, _, _, _, rfl, pb_fix hp4 ?_⟩
    unfold s_wv s_bxw
    first
    | (rw [if_pos (show A 5 p.toNat = 9 by omega)]; simp only [List.append_assoc]; try rfl)
    | (rw [if_neg (show ¬ A 5 p.toNat = 9 by omega), if_pos (show A 5 p.toNat = 7 by omega)]; try rfl)
    | (rw [if_neg (show ¬ A 5 p.toNat = 9 by omega), if_neg (show ¬ A 5 p.toNat = 7 by omega), if_neg (show ¬ (0 ≤ A 5 p.toNat ∧ A 5 p.toNat ≤ 8 ∧ ¬ A 5 p.toNat = 6) by omega)]; try rfl)
    | (rw [if_neg (show ¬ A 5 p.toNat = 9 by omega), if_neg (show ¬ A 5 p.toNat = 7 by omega), if_pos (show (0 ≤ A 5 p.toNat ∧ A 5 p.toNat ≤ 8 ∧ ¬ A 5 p.toNat = 6) by omega)]
       unfold s_lf
       first
       | (rw [if_pos (show A 5 p.toNat = 0 by omega)]; try rfl)
       | (rw [if_neg (show ¬ A 5 p.toNat = 0 by omega), if_pos (show A 5 p.toNat = 1 by omega)]; try rfl)
       | (rw [if_neg (show ¬ A 5 p.toNat = 0 by omega), if_neg (show ¬ A 5 p.toNat = 1 by omega), if_pos (show A 5 p.toNat = 2 by omega)]; try rfl)
       | (rw [if_neg (show ¬ A 5 p.toNat = 0 by omega), if_neg (show ¬ A 5 p.toNat = 1 by omega), if_neg (show ¬ A 5 p.toNat = 2 by omega), if_pos (show A 5 p.toNat = 3 by omega)]; try rfl)
       | (rw [if_neg (show ¬ A 5 p.toNat = 0 by omega), if_neg (show ¬ A 5 p.toNat = 1 by omega), if_neg (show ¬ A 5 p.toNat = 2 by omega), if_neg (show ¬ A 5 p.toNat = 3 by omega), if_pos (show A 5 p.toNat = 4 by omega)]; simp only [List.append_assoc]; try rfl)
       | (rw [if_neg (show ¬ A 5 p.toNat = 0 by omega), if_neg (show ¬ A 5 p.toNat = 1 by omega), if_neg (show ¬ A 5 p.toNat = 2 by omega), if_neg (show ¬ A 5 p.toNat = 3 by omega), if_neg (show ¬ A 5 p.toNat = 4 by omega), if_pos (show A 5 p.toNat = 5 by omega)]; simp only [List.append_assoc]; try rfl)
       | (rw [if_neg (show ¬ A 5 p.toNat = 0 by omega), if_neg (show ¬ A 5 p.toNat = 1 by omega), if_neg (show ¬ A 5 p.toNat = 2 by omega), if_neg (show ¬ A 5 p.toNat = 3 by omega), if_neg (show ¬ A 5 p.toNat = 4 by omega), if_neg (show ¬ A 5 p.toNat = 5 by omega)]; try rfl))
  · refine x_tableIn (tgt := 76) (off := 67) (x_d C_Wr_writeValue 5 rfl) (by omega) (by omega) (by rw [c1]; rfl) rfl ?_
    refine x_aload_n (x_d C_Wr_writeValue 11 rfl) rfl ?_
    refine x_getfield (v := xC 40) (x_d C_Wr_writeValue 12 rfl) f_Wr_27 rfl rfl ?_
    refine x_ldcS (i := 28) (x_d C_Wr_writeValue 13 rfl) rfl ?_
    refine x_invokevirtual (st := []) (av := [xS (57)]) (x_d C_Wr_writeValue 14 rfl) k_Wr_73 m_Pa_addText v_Pa_addText cl_Pa rfl rfl (Nat.le_of_ble_eq_true rfl) (by omega) rfl (c_Pb_addText_40 Z (d - 1) q (x_up (x_up r 515 (some 26)) 516 (some 40)) A dy s ov f (bs) (by omega) (i := 28) rfl hl hp) ?_
    rintro _ _ ⟨rfl, s5, ov5, f5, rfl, hp5⟩
    have hp5 : pb (q 1283) s5 ov5 f5 (bs ++ [116, 114, 117, 101]) := hp5
    have hp05 := hp5.1
    have hp15 := hp5.2.1
    refine x_goto (tgt := 263) (x_d C_Wr_writeValue 15 rfl) rfl ?_
    refine x_return (x_d C_Wr_writeValue 103 rfl) ?_
    refine ⟨rfl, _, _, _, rfl, pb_fix hp5 ?_⟩
    unfold s_wv s_bxw
    first
    | (rw [if_pos (show A 5 p.toNat = 9 by omega)]; simp only [List.append_assoc]; try rfl)
    | (rw [if_neg (show ¬ A 5 p.toNat = 9 by omega), if_pos (show A 5 p.toNat = 7 by omega)]; try rfl)
    | (rw [if_neg (show ¬ A 5 p.toNat = 9 by omega), if_neg (show ¬ A 5 p.toNat = 7 by omega), if_neg (show ¬ (0 ≤ A 5 p.toNat ∧ A 5 p.toNat ≤ 8 ∧ ¬ A 5 p.toNat = 6) by omega)]; try rfl)
    | (rw [if_neg (show ¬ A 5 p.toNat = 9 by omega), if_neg (show ¬ A 5 p.toNat = 7 by omega), if_pos (show (0 ≤ A 5 p.toNat ∧ A 5 p.toNat ≤ 8 ∧ ¬ A 5 p.toNat = 6) by omega)]
       unfold s_lf
       first
       | (rw [if_pos (show A 5 p.toNat = 0 by omega)]; try rfl)
       | (rw [if_neg (show ¬ A 5 p.toNat = 0 by omega), if_pos (show A 5 p.toNat = 1 by omega)]; try rfl)
       | (rw [if_neg (show ¬ A 5 p.toNat = 0 by omega), if_neg (show ¬ A 5 p.toNat = 1 by omega), if_pos (show A 5 p.toNat = 2 by omega)]; try rfl)
       | (rw [if_neg (show ¬ A 5 p.toNat = 0 by omega), if_neg (show ¬ A 5 p.toNat = 1 by omega), if_neg (show ¬ A 5 p.toNat = 2 by omega), if_pos (show A 5 p.toNat = 3 by omega)]; try rfl)
       | (rw [if_neg (show ¬ A 5 p.toNat = 0 by omega), if_neg (show ¬ A 5 p.toNat = 1 by omega), if_neg (show ¬ A 5 p.toNat = 2 by omega), if_neg (show ¬ A 5 p.toNat = 3 by omega), if_pos (show A 5 p.toNat = 4 by omega)]; simp only [List.append_assoc]; try rfl)
       | (rw [if_neg (show ¬ A 5 p.toNat = 0 by omega), if_neg (show ¬ A 5 p.toNat = 1 by omega), if_neg (show ¬ A 5 p.toNat = 2 by omega), if_neg (show ¬ A 5 p.toNat = 3 by omega), if_neg (show ¬ A 5 p.toNat = 4 by omega), if_pos (show A 5 p.toNat = 5 by omega)]; simp only [List.append_assoc]; try rfl)
       | (rw [if_neg (show ¬ A 5 p.toNat = 0 by omega), if_neg (show ¬ A 5 p.toNat = 1 by omega), if_neg (show ¬ A 5 p.toNat = 2 by omega), if_neg (show ¬ A 5 p.toNat = 3 by omega), if_neg (show ¬ A 5 p.toNat = 4 by omega), if_neg (show ¬ A 5 p.toNat = 5 by omega)]; try rfl))
  · refine x_tableIn (tgt := 88) (off := 79) (x_d C_Wr_writeValue 5 rfl) (by omega) (by omega) (by rw [c1]; rfl) rfl ?_
    refine x_aload_n (x_d C_Wr_writeValue 16 rfl) rfl ?_
    refine x_getfield (v := xC 40) (x_d C_Wr_writeValue 17 rfl) f_Wr_27 rfl rfl ?_
    refine x_ldcS (i := 29) (x_d C_Wr_writeValue 18 rfl) rfl ?_
    refine x_invokevirtual (st := []) (av := [xS (59)]) (x_d C_Wr_writeValue 19 rfl) k_Wr_73 m_Pa_addText v_Pa_addText cl_Pa rfl rfl (Nat.le_of_ble_eq_true rfl) (by omega) rfl (c_Pb_addText_40 Z (d - 1) q (x_up (x_up r 515 (some 26)) 516 (some 40)) A dy s ov f (bs) (by omega) (i := 29) rfl hl hp) ?_
    rintro _ _ ⟨rfl, s6, ov6, f6, rfl, hp6⟩
    have hp6 : pb (q 1283) s6 ov6 f6 (bs ++ [102, 97, 108, 115, 101]) := hp6
    have hp06 := hp6.1
    have hp16 := hp6.2.1
    refine x_goto (tgt := 263) (x_d C_Wr_writeValue 20 rfl) rfl ?_
    refine x_return (x_d C_Wr_writeValue 103 rfl) ?_
    refine ⟨rfl, _, _, _, rfl, pb_fix hp6 ?_⟩
    unfold s_wv s_bxw
    first
    | (rw [if_pos (show A 5 p.toNat = 9 by omega)]; simp only [List.append_assoc]; try rfl)
    | (rw [if_neg (show ¬ A 5 p.toNat = 9 by omega), if_pos (show A 5 p.toNat = 7 by omega)]; try rfl)
    | (rw [if_neg (show ¬ A 5 p.toNat = 9 by omega), if_neg (show ¬ A 5 p.toNat = 7 by omega), if_neg (show ¬ (0 ≤ A 5 p.toNat ∧ A 5 p.toNat ≤ 8 ∧ ¬ A 5 p.toNat = 6) by omega)]; try rfl)
    | (rw [if_neg (show ¬ A 5 p.toNat = 9 by omega), if_neg (show ¬ A 5 p.toNat = 7 by omega), if_pos (show (0 ≤ A 5 p.toNat ∧ A 5 p.toNat ≤ 8 ∧ ¬ A 5 p.toNat = 6) by omega)]
       unfold s_lf
       first
       | (rw [if_pos (show A 5 p.toNat = 0 by omega)]; try rfl)
       | (rw [if_neg (show ¬ A 5 p.toNat = 0 by omega), if_pos (show A 5 p.toNat = 1 by omega)]; try rfl)
       | (rw [if_neg (show ¬ A 5 p.toNat = 0 by omega), if_neg (show ¬ A 5 p.toNat = 1 by omega), if_pos (show A 5 p.toNat = 2 by omega)]; try rfl)
       | (rw [if_neg (show ¬ A 5 p.toNat = 0 by omega), if_neg (show ¬ A 5 p.toNat = 1 by omega), if_neg (show ¬ A 5 p.toNat = 2 by omega), if_pos (show A 5 p.toNat = 3 by omega)]; try rfl)
       | (rw [if_neg (show ¬ A 5 p.toNat = 0 by omega), if_neg (show ¬ A 5 p.toNat = 1 by omega), if_neg (show ¬ A 5 p.toNat = 2 by omega), if_neg (show ¬ A 5 p.toNat = 3 by omega), if_pos (show A 5 p.toNat = 4 by omega)]; simp only [List.append_assoc]; try rfl)
       | (rw [if_neg (show ¬ A 5 p.toNat = 0 by omega), if_neg (show ¬ A 5 p.toNat = 1 by omega), if_neg (show ¬ A 5 p.toNat = 2 by omega), if_neg (show ¬ A 5 p.toNat = 3 by omega), if_neg (show ¬ A 5 p.toNat = 4 by omega), if_pos (show A 5 p.toNat = 5 by omega)]; simp only [List.append_assoc]; try rfl)
       | (rw [if_neg (show ¬ A 5 p.toNat = 0 by omega), if_neg (show ¬ A 5 p.toNat = 1 by omega), if_neg (show ¬ A 5 p.toNat = 2 by omega), if_neg (show ¬ A 5 p.toNat = 3 by omega), if_neg (show ¬ A 5 p.toNat = 4 by omega), if_neg (show ¬ A 5 p.toNat = 5 by omega)]; try rfl))
  · refine x_tableIn (tgt := 100) (off := 91) (x_d C_Wr_writeValue 5 rfl) (by omega) (by omega) (by rw [c1]; rfl) rfl ?_
    refine x_aload_n (x_d C_Wr_writeValue 21 rfl) rfl ?_
    refine x_getfield (v := xC 40) (x_d C_Wr_writeValue 22 rfl) f_Wr_27 rfl rfl ?_
    refine x_aload_n (x_d C_Wr_writeValue 23 rfl) rfl ?_
    refine x_getfield (v := xC 4) (x_d C_Wr_writeValue 24 rfl) f_Wr_19 rfl rfl ?_
    refine x_getfield (v := xC 6) (x_d C_Wr_writeValue 25 rfl) f_Wr_158 rfl rfl ?_
    refine x_iload_n (x_d C_Wr_writeValue 26 rfl) rfl ?_
    refine x_iaload (f := A 6) (x_d C_Wr_writeValue 27 rfl) rfl (by omega) (by omega) ?_
    refine x_invokevirtual (st := []) (av := [xI (A 6 (p).toNat)]) (x_d C_Wr_writeValue 28 rfl) k_Wr_87 m_Pa_addInt v_Pa_addInt cl_Pa rfl rfl (Nat.le_of_ble_eq_true rfl) (by omega) rfl (c_Pb_addInt_40 Z (d - 1) q (x_up (x_up r 515 (some 26)) 516 (some 40)) A dy s ov f bs (by omega) (A 6 (p).toNat) hl hp (by omega)) ?_
    rintro _ _ ⟨rfl, s7, ov7, f7, rfl, hp7⟩
    have hp07 := hp7.1
    have hp17 := hp7.2.1
    refine x_goto (tgt := 263) (x_d C_Wr_writeValue 29 rfl) rfl ?_
    refine x_return (x_d C_Wr_writeValue 103 rfl) ?_
    refine ⟨rfl, _, _, _, rfl, pb_fix hp7 ?_⟩
    unfold s_wv s_bxw
    first
    | (rw [if_pos (show A 5 p.toNat = 9 by omega)]; simp only [List.append_assoc]; try rfl)
    | (rw [if_neg (show ¬ A 5 p.toNat = 9 by omega), if_pos (show A 5 p.toNat = 7 by omega)]; try rfl)
    | (rw [if_neg (show ¬ A 5 p.toNat = 9 by omega), if_neg (show ¬ A 5 p.toNat = 7 by omega), if_neg (show ¬ (0 ≤ A 5 p.toNat ∧ A 5 p.toNat ≤ 8 ∧ ¬ A 5 p.toNat = 6) by omega)]; try rfl)
    | (rw [if_neg (show ¬ A 5 p.toNat = 9 by omega), if_neg (show ¬ A 5 p.toNat = 7 by omega), if_pos (show (0 ≤ A 5 p.toNat ∧ A 5 p.toNat ≤ 8 ∧ ¬ A 5 p.toNat = 6) by omega)]
       unfold s_lf
       first
       | (rw [if_pos (show A 5 p.toNat = 0 by omega)]; try rfl)
       | (rw [if_neg (show ¬ A 5 p.toNat = 0 by omega), if_pos (show A 5 p.toNat = 1 by omega)]; try rfl)
       | (rw [if_neg (show ¬ A 5 p.toNat = 0 by omega), if_neg (show ¬ A 5 p.toNat = 1 by omega), if_pos (show A 5 p.toNat = 2 by omega)]; try rfl)
       | (rw [if_neg (show ¬ A 5 p.toNat = 0 by omega), if_neg (show ¬ A 5 p.toNat = 1 by omega), if_neg (show ¬ A 5 p.toNat = 2 by omega), if_pos (show A 5 p.toNat = 3 by omega)]; try rfl)
       | (rw [if_neg (show ¬ A 5 p.toNat = 0 by omega), if_neg (show ¬ A 5 p.toNat = 1 by omega), if_neg (show ¬ A 5 p.toNat = 2 by omega), if_neg (show ¬ A 5 p.toNat = 3 by omega), if_pos (show A 5 p.toNat = 4 by omega)]; simp only [List.append_assoc]; try rfl)
       | (rw [if_neg (show ¬ A 5 p.toNat = 0 by omega), if_neg (show ¬ A 5 p.toNat = 1 by omega), if_neg (show ¬ A 5 p.toNat = 2 by omega), if_neg (show ¬ A 5 p.toNat = 3 by omega), if_neg (show ¬ A 5 p.toNat = 4 by omega), if_pos (show A 5 p.toNat = 5 by omega)]; simp only [List.append_assoc]; try rfl)
       | (rw [if_neg (show ¬ A 5 p.toNat = 0 by omega), if_neg (show ¬ A 5 p.toNat = 1 by omega), if_neg (show ¬ A 5 p.toNat = 2 by omega), if_neg (show ¬ A 5 p.toNat = 3 by omega), if_neg (show ¬ A 5 p.toNat = 4 by omega), if_neg (show ¬ A 5 p.toNat = 5 by omega)]; try rfl))
  · refine x_tableIn (tgt := 119) (off := 110) (x_d C_Wr_writeValue 5 rfl) (by omega) (by omega) (by rw [c1]; rfl) rfl ?_
    refine x_aload_n (x_d C_Wr_writeValue 30 rfl) rfl ?_
    refine x_getfield (v := xC 40) (x_d C_Wr_writeValue 31 rfl) f_Wr_27 rfl rfl ?_
    refine x_bipush (x_d C_Wr_writeValue 32 rfl) (by omega) ?_
    refine x_invokevirtual (st := []) (av := [xI (47)]) (x_d C_Wr_writeValue 33 rfl) k_Wr_92 m_Pa_add v_Pa_add cl_Pa rfl rfl (Nat.le_of_ble_eq_true rfl) (by omega) rfl (c_Pb_add_40 Z (d - 1) q (x_up (x_up r 515 (some 26)) 516 (some 40)) A dy s ov f bs 47 hl hp) ?_
    rintro _ _ ⟨rfl, s8, ov8, f8, rfl, hp8⟩
    have hp08 := hp8.1
    have hp18 := hp8.2.1
    refine x_aload_n (x_d C_Wr_writeValue 34 rfl) rfl ?_
    refine x_getfield (v := xC 40) (x_d C_Wr_writeValue 35 rfl) f_Wr_27 rfl rfl ?_
    refine x_aload_n (x_d C_Wr_writeValue 36 rfl) rfl ?_
    refine x_getfield (v := xC 1) (x_d C_Wr_writeValue 37 rfl) f_Wr_15 rfl rfl ?_
    refine x_getfield (v := xC 2) (x_d C_Wr_writeValue 38 rfl) f_Wr_31 rfl rfl ?_
    refine x_aload_n (x_d C_Wr_writeValue 39 rfl) rfl ?_
    refine x_getfield (v := xC 4) (x_d C_Wr_writeValue 40 rfl) f_Wr_19 rfl rfl ?_
    refine x_getfield (v := xC 6) (x_d C_Wr_writeValue 41 rfl) f_Wr_158 rfl rfl ?_
    refine x_iload_n (x_d C_Wr_writeValue 42 rfl) rfl ?_
    refine x_iaload (f := A 6) (x_d C_Wr_writeValue 43 rfl) rfl (by omega) (by omega) ?_
    refine x_aload_n (x_d C_Wr_writeValue 44 rfl) rfl ?_
    refine x_getfield (v := xC 4) (x_d C_Wr_writeValue 45 rfl) f_Wr_19 rfl rfl ?_
    refine x_getfield (v := xC 7) (x_d C_Wr_writeValue 46 rfl) f_Wr_161 rfl rfl ?_
    refine x_iload_n (x_d C_Wr_writeValue 47 rfl) rfl ?_
    refine x_iaload (f := A 7) (x_d C_Wr_writeValue 48 rfl) rfl (by omega) (by omega) ?_
    refine x_invokevirtual (st := []) (av := [xC 2, xI (A 6 (p).toNat), xI (A 7 (p).toNat)]) (x_d C_Wr_writeValue 49 rfl) k_Wr_46 m_Pa_addRow v_Pa_addRow cl_Pa rfl rfl (Nat.le_of_ble_eq_true rfl) (by omega) rfl (c_Pb_addRow_40_2 Z (d - 1) q (x_up (x_up r 515 (some 26)) 516 (some 40)) A dy s8 ov8 f8 (bs ++ ([x_by 47])) (by omega) (A 6 (p).toNat) (A 7 (p).toNat) hl hp8 (by omega)) ?_
    rintro _ _ ⟨rfl, s9, ov9, f9, rfl, hp9⟩
    have hp09 := hp9.1
    have hp19 := hp9.2.1
    refine x_goto (tgt := 263) (x_d C_Wr_writeValue 50 rfl) rfl ?_
    refine x_return (x_d C_Wr_writeValue 103 rfl) ?_
    refine ⟨rfl, _, _, _, rfl, pb_fix hp9 ?_⟩
    unfold s_wv s_bxw
    first
    | (rw [if_pos (show A 5 p.toNat = 9 by omega)]; simp only [List.append_assoc]; try rfl)
    | (rw [if_neg (show ¬ A 5 p.toNat = 9 by omega), if_pos (show A 5 p.toNat = 7 by omega)]; try rfl)
    | (rw [if_neg (show ¬ A 5 p.toNat = 9 by omega), if_neg (show ¬ A 5 p.toNat = 7 by omega), if_neg (show ¬ (0 ≤ A 5 p.toNat ∧ A 5 p.toNat ≤ 8 ∧ ¬ A 5 p.toNat = 6) by omega)]; try rfl)
    | (rw [if_neg (show ¬ A 5 p.toNat = 9 by omega), if_neg (show ¬ A 5 p.toNat = 7 by omega), if_pos (show (0 ≤ A 5 p.toNat ∧ A 5 p.toNat ≤ 8 ∧ ¬ A 5 p.toNat = 6) by omega)]
       unfold s_lf
       first
       | (rw [if_pos (show A 5 p.toNat = 0 by omega)]; try rfl)
       | (rw [if_neg (show ¬ A 5 p.toNat = 0 by omega), if_pos (show A 5 p.toNat = 1 by omega)]; try rfl)
       | (rw [if_neg (show ¬ A 5 p.toNat = 0 by omega), if_neg (show ¬ A 5 p.toNat = 1 by omega), if_pos (show A 5 p.toNat = 2 by omega)]; try rfl)
       | (rw [if_neg (show ¬ A 5 p.toNat = 0 by omega), if_neg (show ¬ A 5 p.toNat = 1 by omega), if_neg (show ¬ A 5 p.toNat = 2 by omega), if_pos (show A 5 p.toNat = 3 by omega)]; try rfl)
       | (rw [if_neg (show ¬ A 5 p.toNat = 0 by omega), if_neg (show ¬ A 5 p.toNat = 1 by omega), if_neg (show ¬ A 5 p.toNat = 2 by omega), if_neg (show ¬ A 5 p.toNat = 3 by omega), if_pos (show A 5 p.toNat = 4 by omega)]; simp only [List.append_assoc]; try rfl)
       | (rw [if_neg (show ¬ A 5 p.toNat = 0 by omega), if_neg (show ¬ A 5 p.toNat = 1 by omega), if_neg (show ¬ A 5 p.toNat = 2 by omega), if_neg (show ¬ A 5 p.toNat = 3 by omega), if_neg (show ¬ A 5 p.toNat = 4 by omega), if_pos (show A 5 p.toNat = 5 by omega)]; simp only [List.append_assoc]; try rfl)
       | (rw [if_neg (show ¬ A 5 p.toNat = 0 by omega), if_neg (show ¬ A 5 p.toNat = 1 by omega), if_neg (show ¬ A 5 p.toNat = 2 by omega), if_neg (show ¬ A 5 p.toNat = 3 by omega), if_neg (show ¬ A 5 p.toNat = 4 by omega), if_neg (show ¬ A 5 p.toNat = 5 by omega)]; try rfl))
  · refine x_tableIn (tgt := 163) (off := 154) (x_d C_Wr_writeValue 5 rfl) (by omega) (by omega) (by rw [c1]; rfl) rfl ?_
    refine x_aload_n (x_d C_Wr_writeValue 51 rfl) rfl ?_
    refine x_getfield (v := xC 40) (x_d C_Wr_writeValue 52 rfl) f_Wr_27 rfl rfl ?_
    refine x_bipush (x_d C_Wr_writeValue 53 rfl) (by omega) ?_
    refine x_invokevirtual (st := []) (av := [xI (60)]) (x_d C_Wr_writeValue 54 rfl) k_Wr_92 m_Pa_add v_Pa_add cl_Pa rfl rfl (Nat.le_of_ble_eq_true rfl) (by omega) rfl (c_Pb_add_40 Z (d - 1) q (x_up (x_up r 515 (some 26)) 516 (some 40)) A dy s ov f bs 60 hl hp) ?_
    rintro _ _ ⟨rfl, s10, ov10, f10, rfl, hp10⟩
    have hp010 := hp10.1
    have hp110 := hp10.2.1
    refine x_aload_n (x_d C_Wr_writeValue 55 rfl) rfl ?_
    refine x_getfield (v := xC 40) (x_d C_Wr_writeValue 56 rfl) f_Wr_27 rfl rfl ?_
    refine x_aload_n (x_d C_Wr_writeValue 57 rfl) rfl ?_
    refine x_getfield (v := xC 1) (x_d C_Wr_writeValue 58 rfl) f_Wr_15 rfl rfl ?_
    refine x_aload_n (x_d C_Wr_writeValue 59 rfl) rfl ?_
    refine x_getfield (v := xC 4) (x_d C_Wr_writeValue 60 rfl) f_Wr_19 rfl rfl ?_
    refine x_getfield (v := xC 6) (x_d C_Wr_writeValue 61 rfl) f_Wr_158 rfl rfl ?_
    refine x_iload_n (x_d C_Wr_writeValue 62 rfl) rfl ?_
    refine x_iaload (f := A 6) (x_d C_Wr_writeValue 63 rfl) rfl (by omega) (by omega) ?_
    refine x_aload_n (x_d C_Wr_writeValue 64 rfl) rfl ?_
    refine x_getfield (v := xC 4) (x_d C_Wr_writeValue 65 rfl) f_Wr_19 rfl rfl ?_
    refine x_getfield (v := xC 7) (x_d C_Wr_writeValue 66 rfl) f_Wr_161 rfl rfl ?_
    refine x_iload_n (x_d C_Wr_writeValue 67 rfl) rfl ?_
    refine x_iaload (f := A 7) (x_d C_Wr_writeValue 68 rfl) rfl (by omega) (by omega) ?_
    refine x_iconst (x_d C_Wr_writeValue 69 rfl) ⟨by omega, by omega⟩ ?_
    refine x_invokevirtual (st := []) (av := [xC 1, xI (A 6 (p).toNat), xI (A 7 (p).toNat), xI (1)]) (x_d C_Wr_writeValue 70 rfl) k_Wr_164 m_Pa_addString v_Pa_addString cl_Pa rfl rfl (Nat.le_of_ble_eq_true rfl) (by omega) rfl (c_Pb_addString_40 Z (d - 1) q (x_up (x_up r 515 (some 26)) 516 (some 40)) A dy s10 ov10 f10 (bs ++ ([x_by 60])) (by omega) (A 6 (p).toNat) (A 7 (p).toNat) hl hp10 hT (by omega) (by omega)) ?_
    rintro _ _ ⟨rfl, s11, ov11, f11, rfl, hp11⟩
    have hp011 := hp11.1
    have hp111 := hp11.2.1
    refine x_aload_n (x_d C_Wr_writeValue 71 rfl) rfl ?_
    refine x_getfield (v := xC 40) (x_d C_Wr_writeValue 72 rfl) f_Wr_27 rfl rfl ?_
    refine x_bipush (x_d C_Wr_writeValue 73 rfl) (by omega) ?_
    refine x_invokevirtual (st := []) (av := [xI (62)]) (x_d C_Wr_writeValue 74 rfl) k_Wr_92 m_Pa_add v_Pa_add cl_Pa rfl rfl (Nat.le_of_ble_eq_true rfl) (by omega) rfl (c_Pb_add_40 Z (d - 1) q (x_up (x_up r 515 (some 26)) 516 (some 40)) A dy s11 ov11 f11 (bs ++ ([x_by 60]) ++ ((s_sb (A 2) (q 35) (decide (s_byte (A 2) (q 35) (A 6 (p).toNat) = 60)) (A 7 (p).toNat).toNat ((A 6 (p).toNat) + 1)).flatMap s_h2)) 62 hl hp11) ?_
    rintro _ _ ⟨rfl, s12, ov12, f12, rfl, hp12⟩
    have hp012 := hp12.1
    have hp112 := hp12.2.1
    refine x_goto (tgt := 263) (x_d C_Wr_writeValue 75 rfl) rfl ?_
    refine x_return (x_d C_Wr_writeValue 103 rfl) ?_
    refine ⟨rfl, _, _, _, rfl, pb_fix hp12 ?_⟩
    unfold s_wv s_bxw
    first
    | (rw [if_pos (show A 5 p.toNat = 9 by omega)]; simp only [List.append_assoc]; try rfl)
    | (rw [if_neg (show ¬ A 5 p.toNat = 9 by omega), if_pos (show A 5 p.toNat = 7 by omega)]; try rfl)
    | (rw [if_neg (show ¬ A 5 p.toNat = 9 by omega), if_neg (show ¬ A 5 p.toNat = 7 by omega), if_neg (show ¬ (0 ≤ A 5 p.toNat ∧ A 5 p.toNat ≤ 8 ∧ ¬ A 5 p.toNat = 6) by omega)]; try rfl)
    | (rw [if_neg (show ¬ A 5 p.toNat = 9 by omega), if_neg (show ¬ A 5 p.toNat = 7 by omega), if_pos (show (0 ≤ A 5 p.toNat ∧ A 5 p.toNat ≤ 8 ∧ ¬ A 5 p.toNat = 6) by omega)]
       unfold s_lf
       first
       | (rw [if_pos (show A 5 p.toNat = 0 by omega)]; try rfl)
       | (rw [if_neg (show ¬ A 5 p.toNat = 0 by omega), if_pos (show A 5 p.toNat = 1 by omega)]; try rfl)
       | (rw [if_neg (show ¬ A 5 p.toNat = 0 by omega), if_neg (show ¬ A 5 p.toNat = 1 by omega), if_pos (show A 5 p.toNat = 2 by omega)]; try rfl)
       | (rw [if_neg (show ¬ A 5 p.toNat = 0 by omega), if_neg (show ¬ A 5 p.toNat = 1 by omega), if_neg (show ¬ A 5 p.toNat = 2 by omega), if_pos (show A 5 p.toNat = 3 by omega)]; try rfl)
       | (rw [if_neg (show ¬ A 5 p.toNat = 0 by omega), if_neg (show ¬ A 5 p.toNat = 1 by omega), if_neg (show ¬ A 5 p.toNat = 2 by omega), if_neg (show ¬ A 5 p.toNat = 3 by omega), if_pos (show A 5 p.toNat = 4 by omega)]; simp only [List.append_assoc]; try rfl)
       | (rw [if_neg (show ¬ A 5 p.toNat = 0 by omega), if_neg (show ¬ A 5 p.toNat = 1 by omega), if_neg (show ¬ A 5 p.toNat = 2 by omega), if_neg (show ¬ A 5 p.toNat = 3 by omega), if_neg (show ¬ A 5 p.toNat = 4 by omega), if_pos (show A 5 p.toNat = 5 by omega)]; simp only [List.append_assoc]; try rfl)
       | (rw [if_neg (show ¬ A 5 p.toNat = 0 by omega), if_neg (show ¬ A 5 p.toNat = 1 by omega), if_neg (show ¬ A 5 p.toNat = 2 by omega), if_neg (show ¬ A 5 p.toNat = 3 by omega), if_neg (show ¬ A 5 p.toNat = 4 by omega), if_neg (show ¬ A 5 p.toNat = 5 by omega)]; try rfl))
  · refine x_tableIn (tgt := 253) (off := 244) (x_d C_Wr_writeValue 5 rfl) (by omega) (by omega) (by rw [c1]; rfl) rfl ?_
    refine x_aload_n (x_d C_Wr_writeValue 97 rfl) rfl ?_
    refine x_iload_n (x_d C_Wr_writeValue 98 rfl) rfl ?_
    refine x_iload_n (x_d C_Wr_writeValue 99 rfl) rfl ?_
    refine x_ldcS (i := 37) (x_d C_Wr_writeValue 100 rfl) rfl ?_
    refine x_ldcS (i := 38) (x_d C_Wr_writeValue 101 rfl) rfl ?_
    refine x_invokevirtual (st := []) (av := [xI (p), xI (9), xS (75), xS (77)]) (x_d C_Wr_writeValue 102 rfl) k_Wr_171 m_Wr_writeItems v_Wr_writeItems cl_Wr rfl rfl (Nat.le_of_ble_eq_true rfl) (by omega) rfl (c_Wr_writeItems9 Z (d - 1) q r A dy s ov f (bs) (by omega) p (i := 37) (j := 38) rfl rfl hl hp (by omega)) ?_
    rintro _ _ ⟨rfl, s13, ov13, f13, rfl, hp13⟩
    have hp13 : pb (q 1283) s13 ov13 f13 (bs ++ ([91] ++ [93])) := hp13
    refine x_return (x_d C_Wr_writeValue 103 rfl) ?_
    refine ⟨rfl, _, _, _, rfl, pb_fix hp13 ?_⟩
    unfold s_wv s_bxw
    first
    | (rw [if_pos (show A 5 p.toNat = 9 by omega)]; simp only [List.append_assoc]; try rfl)
    | (rw [if_neg (show ¬ A 5 p.toNat = 9 by omega), if_pos (show A 5 p.toNat = 7 by omega)]; try rfl)
    | (rw [if_neg (show ¬ A 5 p.toNat = 9 by omega), if_neg (show ¬ A 5 p.toNat = 7 by omega), if_neg (show ¬ (0 ≤ A 5 p.toNat ∧ A 5 p.toNat ≤ 8 ∧ ¬ A 5 p.toNat = 6) by omega)]; try rfl)
    | (rw [if_neg (show ¬ A 5 p.toNat = 9 by omega), if_neg (show ¬ A 5 p.toNat = 7 by omega), if_pos (show (0 ≤ A 5 p.toNat ∧ A 5 p.toNat ≤ 8 ∧ ¬ A 5 p.toNat = 6) by omega)]
       unfold s_lf
       first
       | (rw [if_pos (show A 5 p.toNat = 0 by omega)]; try rfl)
       | (rw [if_neg (show ¬ A 5 p.toNat = 0 by omega), if_pos (show A 5 p.toNat = 1 by omega)]; try rfl)
       | (rw [if_neg (show ¬ A 5 p.toNat = 0 by omega), if_neg (show ¬ A 5 p.toNat = 1 by omega), if_pos (show A 5 p.toNat = 2 by omega)]; try rfl)
       | (rw [if_neg (show ¬ A 5 p.toNat = 0 by omega), if_neg (show ¬ A 5 p.toNat = 1 by omega), if_neg (show ¬ A 5 p.toNat = 2 by omega), if_pos (show A 5 p.toNat = 3 by omega)]; try rfl)
       | (rw [if_neg (show ¬ A 5 p.toNat = 0 by omega), if_neg (show ¬ A 5 p.toNat = 1 by omega), if_neg (show ¬ A 5 p.toNat = 2 by omega), if_neg (show ¬ A 5 p.toNat = 3 by omega), if_pos (show A 5 p.toNat = 4 by omega)]; simp only [List.append_assoc]; try rfl)
       | (rw [if_neg (show ¬ A 5 p.toNat = 0 by omega), if_neg (show ¬ A 5 p.toNat = 1 by omega), if_neg (show ¬ A 5 p.toNat = 2 by omega), if_neg (show ¬ A 5 p.toNat = 3 by omega), if_neg (show ¬ A 5 p.toNat = 4 by omega), if_pos (show A 5 p.toNat = 5 by omega)]; simp only [List.append_assoc]; try rfl)
       | (rw [if_neg (show ¬ A 5 p.toNat = 0 by omega), if_neg (show ¬ A 5 p.toNat = 1 by omega), if_neg (show ¬ A 5 p.toNat = 2 by omega), if_neg (show ¬ A 5 p.toNat = 3 by omega), if_neg (show ¬ A 5 p.toNat = 4 by omega), if_neg (show ¬ A 5 p.toNat = 5 by omega)]; try rfl))
  · refine x_tableIn (tgt := 240) (off := 231) (x_d C_Wr_writeValue 5 rfl) (by omega) (by omega) (by rw [c1]; rfl) rfl ?_
    refine x_aload_n (x_d C_Wr_writeValue 90 rfl) rfl ?_
    refine x_iload_n (x_d C_Wr_writeValue 91 rfl) rfl ?_
    refine x_iload_n (x_d C_Wr_writeValue 92 rfl) rfl ?_
    refine x_ldcS (i := 31) (x_d C_Wr_writeValue 93 rfl) rfl ?_
    refine x_ldcS (i := 32) (x_d C_Wr_writeValue 94 rfl) rfl ?_
    refine x_invokevirtual (st := []) (av := [xI (p), xI (9), xS (63), xS (65)]) (x_d C_Wr_writeValue 95 rfl) k_Wr_171 m_Wr_writeItems v_Wr_writeItems cl_Wr rfl rfl (Nat.le_of_ble_eq_true rfl) (by omega) rfl (c_Wr_writeItems9 Z (d - 1) q r A dy s ov f (bs) (by omega) p (i := 31) (j := 32) rfl rfl hl hp (by omega)) ?_
    rintro _ _ ⟨rfl, s14, ov14, f14, rfl, hp14⟩
    have hp14 : pb (q 1283) s14 ov14 f14 (bs ++ ([60, 60] ++ [62, 62])) := hp14
    refine x_goto (tgt := 263) (x_d C_Wr_writeValue 96 rfl) rfl ?_
    refine x_return (x_d C_Wr_writeValue 103 rfl) ?_
    refine ⟨rfl, _, _, _, rfl, pb_fix hp14 ?_⟩
    unfold s_wv s_bxw
    first
    | (rw [if_pos (show A 5 p.toNat = 9 by omega)]; simp only [List.append_assoc]; try rfl)
    | (rw [if_neg (show ¬ A 5 p.toNat = 9 by omega), if_pos (show A 5 p.toNat = 7 by omega)]; try rfl)
    | (rw [if_neg (show ¬ A 5 p.toNat = 9 by omega), if_neg (show ¬ A 5 p.toNat = 7 by omega), if_neg (show ¬ (0 ≤ A 5 p.toNat ∧ A 5 p.toNat ≤ 8 ∧ ¬ A 5 p.toNat = 6) by omega)]; try rfl)
    | (rw [if_neg (show ¬ A 5 p.toNat = 9 by omega), if_neg (show ¬ A 5 p.toNat = 7 by omega), if_pos (show (0 ≤ A 5 p.toNat ∧ A 5 p.toNat ≤ 8 ∧ ¬ A 5 p.toNat = 6) by omega)]
       unfold s_lf
       first
       | (rw [if_pos (show A 5 p.toNat = 0 by omega)]; try rfl)
       | (rw [if_neg (show ¬ A 5 p.toNat = 0 by omega), if_pos (show A 5 p.toNat = 1 by omega)]; try rfl)
       | (rw [if_neg (show ¬ A 5 p.toNat = 0 by omega), if_neg (show ¬ A 5 p.toNat = 1 by omega), if_pos (show A 5 p.toNat = 2 by omega)]; try rfl)
       | (rw [if_neg (show ¬ A 5 p.toNat = 0 by omega), if_neg (show ¬ A 5 p.toNat = 1 by omega), if_neg (show ¬ A 5 p.toNat = 2 by omega), if_pos (show A 5 p.toNat = 3 by omega)]; try rfl)
       | (rw [if_neg (show ¬ A 5 p.toNat = 0 by omega), if_neg (show ¬ A 5 p.toNat = 1 by omega), if_neg (show ¬ A 5 p.toNat = 2 by omega), if_neg (show ¬ A 5 p.toNat = 3 by omega), if_pos (show A 5 p.toNat = 4 by omega)]; simp only [List.append_assoc]; try rfl)
       | (rw [if_neg (show ¬ A 5 p.toNat = 0 by omega), if_neg (show ¬ A 5 p.toNat = 1 by omega), if_neg (show ¬ A 5 p.toNat = 2 by omega), if_neg (show ¬ A 5 p.toNat = 3 by omega), if_neg (show ¬ A 5 p.toNat = 4 by omega), if_pos (show A 5 p.toNat = 5 by omega)]; simp only [List.append_assoc]; try rfl)
       | (rw [if_neg (show ¬ A 5 p.toNat = 0 by omega), if_neg (show ¬ A 5 p.toNat = 1 by omega), if_neg (show ¬ A 5 p.toNat = 2 by omega), if_neg (show ¬ A 5 p.toNat = 3 by omega), if_neg (show ¬ A 5 p.toNat = 4 by omega), if_neg (show ¬ A 5 p.toNat = 5 by omega)]; try rfl))
  · refine x_tableIn (tgt := 214) (off := 205) (x_d C_Wr_writeValue 5 rfl) (by omega) (by omega) (by rw [c1]; rfl) rfl ?_
    refine x_aload_n (x_d C_Wr_writeValue 76 rfl) rfl ?_
    refine x_iload_n (x_d C_Wr_writeValue 77 rfl) rfl ?_
    refine x_invokevirtual (st := []) (av := [xI (p)]) (x_d C_Wr_writeValue 78 rfl) k_Wr_168 m_Wr_writeRef v_Wr_writeRef cl_Wr rfl rfl (Nat.le_of_ble_eq_true rfl) (by omega) rfl (c_Wr_writeRef Z (d - 1) q r A dy s ov f (bs) (by omega) p hl hp hw (by omega)) ?_
    rintro _ _ ⟨rfl, s15, ov15, f15, rfl, hp15⟩
    have hp015 := hp15.1
    have hp115 := hp15.2.1
    refine x_goto (tgt := 263) (x_d C_Wr_writeValue 79 rfl) rfl ?_
    refine x_return (x_d C_Wr_writeValue 103 rfl) ?_
    refine ⟨rfl, _, _, _, rfl, pb_fix hp15 ?_⟩
    unfold s_wv s_bxw
    first
    | (rw [if_pos (show A 5 p.toNat = 9 by omega)]; simp only [List.append_assoc]; try rfl)
    | (rw [if_neg (show ¬ A 5 p.toNat = 9 by omega), if_pos (show A 5 p.toNat = 7 by omega)]; try rfl)
    | (rw [if_neg (show ¬ A 5 p.toNat = 9 by omega), if_neg (show ¬ A 5 p.toNat = 7 by omega), if_neg (show ¬ (0 ≤ A 5 p.toNat ∧ A 5 p.toNat ≤ 8 ∧ ¬ A 5 p.toNat = 6) by omega)]; try rfl)
    | (rw [if_neg (show ¬ A 5 p.toNat = 9 by omega), if_neg (show ¬ A 5 p.toNat = 7 by omega), if_pos (show (0 ≤ A 5 p.toNat ∧ A 5 p.toNat ≤ 8 ∧ ¬ A 5 p.toNat = 6) by omega)]
       unfold s_lf
       first
       | (rw [if_pos (show A 5 p.toNat = 0 by omega)]; try rfl)
       | (rw [if_neg (show ¬ A 5 p.toNat = 0 by omega), if_pos (show A 5 p.toNat = 1 by omega)]; try rfl)
       | (rw [if_neg (show ¬ A 5 p.toNat = 0 by omega), if_neg (show ¬ A 5 p.toNat = 1 by omega), if_pos (show A 5 p.toNat = 2 by omega)]; try rfl)
       | (rw [if_neg (show ¬ A 5 p.toNat = 0 by omega), if_neg (show ¬ A 5 p.toNat = 1 by omega), if_neg (show ¬ A 5 p.toNat = 2 by omega), if_pos (show A 5 p.toNat = 3 by omega)]; try rfl)
       | (rw [if_neg (show ¬ A 5 p.toNat = 0 by omega), if_neg (show ¬ A 5 p.toNat = 1 by omega), if_neg (show ¬ A 5 p.toNat = 2 by omega), if_neg (show ¬ A 5 p.toNat = 3 by omega), if_pos (show A 5 p.toNat = 4 by omega)]; simp only [List.append_assoc]; try rfl)
       | (rw [if_neg (show ¬ A 5 p.toNat = 0 by omega), if_neg (show ¬ A 5 p.toNat = 1 by omega), if_neg (show ¬ A 5 p.toNat = 2 by omega), if_neg (show ¬ A 5 p.toNat = 3 by omega), if_neg (show ¬ A 5 p.toNat = 4 by omega), if_pos (show A 5 p.toNat = 5 by omega)]; simp only [List.append_assoc]; try rfl)
       | (rw [if_neg (show ¬ A 5 p.toNat = 0 by omega), if_neg (show ¬ A 5 p.toNat = 1 by omega), if_neg (show ¬ A 5 p.toNat = 2 by omega), if_neg (show ¬ A 5 p.toNat = 3 by omega), if_neg (show ¬ A 5 p.toNat = 4 by omega), if_neg (show ¬ A 5 p.toNat = 5 by omega)]; try rfl))
  · refine x_tableIn (tgt := 222) (off := 213) (x_d C_Wr_writeValue 5 rfl) (by omega) (by omega) (by rw [c1]; rfl) rfl ?_
    refine x_aload_n (x_d C_Wr_writeValue 80 rfl) rfl ?_
    refine x_iload_n (x_d C_Wr_writeValue 81 rfl) rfl ?_
    refine x_iload_n (x_d C_Wr_writeValue 82 rfl) rfl ?_
    refine x_ldcS (i := 31) (x_d C_Wr_writeValue 83 rfl) rfl ?_
    refine x_ldcS (i := 32) (x_d C_Wr_writeValue 84 rfl) rfl ?_
    refine x_invokevirtual (st := []) (av := [xI (p), xI (9), xS (63), xS (65)]) (x_d C_Wr_writeValue 85 rfl) k_Wr_171 m_Wr_writeItems v_Wr_writeItems cl_Wr rfl rfl (Nat.le_of_ble_eq_true rfl) (by omega) rfl (c_Wr_writeItems9 Z (d - 1) q r A dy s ov f (bs) (by omega) p (i := 31) (j := 32) rfl rfl hl hp (by omega)) ?_
    rintro _ _ ⟨rfl, s16, ov16, f16, rfl, hp16⟩
    have hp16 : pb (q 1283) s16 ov16 f16 (bs ++ ([60, 60] ++ [62, 62])) := hp16
    refine x_aload_n (x_d C_Wr_writeValue 86 rfl) rfl ?_
    refine x_iload_n (x_d C_Wr_writeValue 87 rfl) rfl ?_
    refine x_invokevirtual (st := []) (av := [xI (p)]) (x_d C_Wr_writeValue 88 rfl) k_Wr_175 m_Wr_writeData v_Wr_writeData cl_Wr rfl rfl (Nat.le_of_ble_eq_true rfl) (by omega) rfl (c_Wr_writeData Z (d - 1) q r A dy s16 ov16 f16 (bs ++ ([60, 60] ++ [62, 62])) (by omega) p hl hp16 hw (by omega)) ?_
    rintro _ _ ⟨rfl, s17, ov17, f17, rfl, hp17⟩
    have hp017 := hp17.1
    have hp117 := hp17.2.1
    refine x_goto (tgt := 263) (x_d C_Wr_writeValue 89 rfl) rfl ?_
    refine x_return (x_d C_Wr_writeValue 103 rfl) ?_
    refine ⟨rfl, _, _, _, rfl, pb_fix hp17 ?_⟩
    unfold s_wv s_bxw
    first
    | (rw [if_pos (show A 5 p.toNat = 9 by omega)]; simp only [List.append_assoc]; try rfl)
    | (rw [if_neg (show ¬ A 5 p.toNat = 9 by omega), if_pos (show A 5 p.toNat = 7 by omega)]; try rfl)
    | (rw [if_neg (show ¬ A 5 p.toNat = 9 by omega), if_neg (show ¬ A 5 p.toNat = 7 by omega), if_neg (show ¬ (0 ≤ A 5 p.toNat ∧ A 5 p.toNat ≤ 8 ∧ ¬ A 5 p.toNat = 6) by omega)]; try rfl)
    | (rw [if_neg (show ¬ A 5 p.toNat = 9 by omega), if_neg (show ¬ A 5 p.toNat = 7 by omega), if_pos (show (0 ≤ A 5 p.toNat ∧ A 5 p.toNat ≤ 8 ∧ ¬ A 5 p.toNat = 6) by omega)]
       unfold s_lf
       first
       | (rw [if_pos (show A 5 p.toNat = 0 by omega)]; try rfl)
       | (rw [if_neg (show ¬ A 5 p.toNat = 0 by omega), if_pos (show A 5 p.toNat = 1 by omega)]; try rfl)
       | (rw [if_neg (show ¬ A 5 p.toNat = 0 by omega), if_neg (show ¬ A 5 p.toNat = 1 by omega), if_pos (show A 5 p.toNat = 2 by omega)]; try rfl)
       | (rw [if_neg (show ¬ A 5 p.toNat = 0 by omega), if_neg (show ¬ A 5 p.toNat = 1 by omega), if_neg (show ¬ A 5 p.toNat = 2 by omega), if_pos (show A 5 p.toNat = 3 by omega)]; try rfl)
       | (rw [if_neg (show ¬ A 5 p.toNat = 0 by omega), if_neg (show ¬ A 5 p.toNat = 1 by omega), if_neg (show ¬ A 5 p.toNat = 2 by omega), if_neg (show ¬ A 5 p.toNat = 3 by omega), if_pos (show A 5 p.toNat = 4 by omega)]; simp only [List.append_assoc]; try rfl)
       | (rw [if_neg (show ¬ A 5 p.toNat = 0 by omega), if_neg (show ¬ A 5 p.toNat = 1 by omega), if_neg (show ¬ A 5 p.toNat = 2 by omega), if_neg (show ¬ A 5 p.toNat = 3 by omega), if_neg (show ¬ A 5 p.toNat = 4 by omega), if_pos (show A 5 p.toNat = 5 by omega)]; simp only [List.append_assoc]; try rfl)
       | (rw [if_neg (show ¬ A 5 p.toNat = 0 by omega), if_neg (show ¬ A 5 p.toNat = 1 by omega), if_neg (show ¬ A 5 p.toNat = 2 by omega), if_neg (show ¬ A 5 p.toNat = 3 by omega), if_neg (show ¬ A 5 p.toNat = 4 by omega), if_neg (show ¬ A 5 p.toNat = 5 by omega)]; try rfl))
theorem c_Wr_writeValue_s (Z : xZ) (q : Nat → Int) (r : Nat → Option Nat) (A : Nat → Nat → Int) (dy : xH) (hl : 0 ≤ q 1283 ∧ q 1283 ≤ 6000) (hT : 0 ≤ q 34 ∧ q 34 ≤ q 35 ∧ q 35 ≤ 10248) (hR : s_okR A) (hsp : ∀ j, 0 ≤ A 8 j ∧ A 8 j ≤ 12900) (D : Nat) (hD : D + 1 ≤ 8) (hrec : WD Z q r A dy D) : WD Z q r A dy (D + 1) := by
  intro d s ov f bs p e hd he hwv hp
  have hw := wv_wl hwv
  have hw0 := hw
  obtain ⟨w1, w2, w3, w4, w5, w6, w7⟩ := hw0
  have hp0 := hp.1
  have hp1 := hp.2.1
  refine xMet_of (by decide) (Nat.le_of_ble_eq_true rfl) (fun v0 h2 hq => by rw [hq.1]; trivial) ?_
  refine xW_ok (fun _ _ hok => ?_)
  have hi6 : x_i32 (A 6 p.toNat) := hok _ (List.mem_of_getElem? (i := 6) rfl) p.toNat
  obtain ⟨ia6, ib6⟩ := hi6
  have hi7 : x_i32 (A 7 p.toNat) := hok _ (List.mem_of_getElem? (i := 7) rfl) p.toNat
  obtain ⟨ia7, ib7⟩ := hi7
  refine x_aload_n (x_d C_Wr_writeValue 0 rfl) rfl ?_
  refine x_getfield (v := xC 4) (x_d C_Wr_writeValue 1 rfl) f_Wr_19 rfl rfl ?_
  refine x_getfield (v := xC 5) (x_d C_Wr_writeValue 2 rfl) f_Wr_149 rfl rfl ?_
  refine x_iload_n (x_d C_Wr_writeValue 3 rfl) rfl ?_
  refine x_iaload (f := A 5) (x_d C_Wr_writeValue 4 rfl) rfl (by omega) (by omega) ?_
  rcases (show A 5 (p).toNat < 0 ∨ 9 < A 5 (p).toNat ∨ A 5 (p).toNat = 0 ∨ A 5 (p).toNat = 1 ∨ A 5 (p).toNat = 2 ∨ A 5 (p).toNat = 3 ∨ A 5 (p).toNat = 4 ∨ A 5 (p).toNat = 5 ∨ A 5 (p).toNat = 6 ∨ A 5 (p).toNat = 7 ∨ A 5 (p).toNat = 8 ∨ A 5 (p).toNat = 9 by omega) with c1 | c1 | c1 | c1 | c1 | c1 | c1 | c1 | c1 | c1 | c1 | c1
  · refine x_tableOut (tgt := 253) (x_d C_Wr_writeValue 5 rfl) (Or.inl c1) rfl ?_
    refine x_aload_n (x_d C_Wr_writeValue 97 rfl) rfl ?_
    refine x_iload_n (x_d C_Wr_writeValue 98 rfl) rfl ?_
    refine x_iload_n (x_d C_Wr_writeValue 99 rfl) rfl ?_
    refine x_ldcS (i := 37) (x_d C_Wr_writeValue 100 rfl) rfl ?_
    refine x_ldcS (i := 38) (x_d C_Wr_writeValue 101 rfl) rfl ?_
    refine x_invokevirtual (st := []) (av := [xI (p), xI (e), xS (75), xS (77)]) (x_d C_Wr_writeValue 102 rfl) k_Wr_171 m_Wr_writeItems v_Wr_writeItems cl_Wr rfl rfl (Nat.le_of_ble_eq_true rfl) (by omega) rfl (c_Wr_writeItems Z (d - 1) q r A dy s ov f (bs) D (by omega) (by omega) p e (i := 37) (j := 38) rfl rfl hl hp hT hR hsp (by omega) hrec (by omega) hwv.2) ?_
    rintro _ _ ⟨rfl, s2, ov2, f2, rfl, hp2⟩
    have hp2 : pb (q 1283) s2 ov2 f2 (bs ++ ([91] ++ (s_its (s_wv (A 5) (A 6) (A 7) (A 8) (A 9) (A 2) (q 35) D) (A 9) (A 2) (q 35) (p + 1) (s_in (A 8) p) ++ [93]))) := hp2
    refine x_return (x_d C_Wr_writeValue 103 rfl) ?_
    refine ⟨rfl, _, _, _, rfl, pb_fix hp2 ?_⟩
    unfold s_wv s_bxw
    first
    | (rw [if_pos (show A 5 p.toNat = 9 by omega)]; simp only [List.append_assoc]; try rfl)
    | (rw [if_neg (show ¬ A 5 p.toNat = 9 by omega), if_pos (show A 5 p.toNat = 7 by omega)]; try rfl)
    | (rw [if_neg (show ¬ A 5 p.toNat = 9 by omega), if_neg (show ¬ A 5 p.toNat = 7 by omega), if_neg (show ¬ (0 ≤ A 5 p.toNat ∧ A 5 p.toNat ≤ 8 ∧ ¬ A 5 p.toNat = 6) by omega)]; try rfl)
    | (rw [if_neg (show ¬ A 5 p.toNat = 9 by omega), if_neg (show ¬ A 5 p.toNat = 7 by omega), if_pos (show (0 ≤ A 5 p.toNat ∧ A 5 p.toNat ≤ 8 ∧ ¬ A 5 p.toNat = 6) by omega)]
       unfold s_lf
       first
       | (rw [if_pos (show A 5 p.toNat = 0 by omega)]; try rfl)
       | (rw [if_neg (show ¬ A 5 p.toNat = 0 by omega), if_pos (show A 5 p.toNat = 1 by omega)]; try rfl)
       | (rw [if_neg (show ¬ A 5 p.toNat = 0 by omega), if_neg (show ¬ A 5 p.toNat = 1 by omega), if_pos (show A 5 p.toNat = 2 by omega)]; try rfl)
       | (rw [if_neg (show ¬ A 5 p.toNat = 0 by omega), if_neg (show ¬ A 5 p.toNat = 1 by omega), if_neg (show ¬ A 5 p.toNat = 2 by omega), if_pos (show A 5 p.toNat = 3 by omega)]; try rfl)
       | (rw [if_neg (show ¬ A 5 p.toNat = 0 by omega), if_neg (show ¬ A 5 p.toNat = 1 by omega), if_neg (show ¬ A 5 p.toNat = 2 by omega), if_neg (show ¬ A 5 p.toNat = 3 by omega), if_pos (show A 5 p.toNat = 4 by omega)]; simp only [List.append_assoc]; try rfl)
       | (rw [if_neg (show ¬ A 5 p.toNat = 0 by omega), if_neg (show ¬ A 5 p.toNat = 1 by omega), if_neg (show ¬ A 5 p.toNat = 2 by omega), if_neg (show ¬ A 5 p.toNat = 3 by omega), if_neg (show ¬ A 5 p.toNat = 4 by omega), if_pos (show A 5 p.toNat = 5 by omega)]; simp only [List.append_assoc]; try rfl)
       | (rw [if_neg (show ¬ A 5 p.toNat = 0 by omega), if_neg (show ¬ A 5 p.toNat = 1 by omega), if_neg (show ¬ A 5 p.toNat = 2 by omega), if_neg (show ¬ A 5 p.toNat = 3 by omega), if_neg (show ¬ A 5 p.toNat = 4 by omega), if_neg (show ¬ A 5 p.toNat = 5 by omega)]; try rfl))
  · refine x_tableOut (tgt := 253) (x_d C_Wr_writeValue 5 rfl) (Or.inr c1) rfl ?_
    refine x_aload_n (x_d C_Wr_writeValue 97 rfl) rfl ?_
    refine x_iload_n (x_d C_Wr_writeValue 98 rfl) rfl ?_
    refine x_iload_n (x_d C_Wr_writeValue 99 rfl) rfl ?_
    refine x_ldcS (i := 37) (x_d C_Wr_writeValue 100 rfl) rfl ?_
    refine x_ldcS (i := 38) (x_d C_Wr_writeValue 101 rfl) rfl ?_
    refine x_invokevirtual (st := []) (av := [xI (p), xI (e), xS (75), xS (77)]) (x_d C_Wr_writeValue 102 rfl) k_Wr_171 m_Wr_writeItems v_Wr_writeItems cl_Wr rfl rfl (Nat.le_of_ble_eq_true rfl) (by omega) rfl (c_Wr_writeItems Z (d - 1) q r A dy s ov f (bs) D (by omega) (by omega) p e (i := 37) (j := 38) rfl rfl hl hp hT hR hsp (by omega) hrec (by omega) hwv.2) ?_
    rintro _ _ ⟨rfl, s3, ov3, f3, rfl, hp3⟩
    have hp3 : pb (q 1283) s3 ov3 f3 (bs ++ ([91] ++ (s_its (s_wv (A 5) (A 6) (A 7) (A 8) (A 9) (A 2) (q 35) D) (A 9) (A 2) (q 35) (p + 1) (s_in (A 8) p) ++ [93]))) := hp3
    refine x_return (x_d C_Wr_writeValue 103 rfl) ?_
    refine ⟨rfl, _, _, _, rfl, pb_fix hp3 ?_⟩
    unfold s_wv s_bxw
    first
    | (rw [if_pos (show A 5 p.toNat = 9 by omega)]; simp only [List.append_assoc]; try rfl)
    | (rw [if_neg (show ¬ A 5 p.toNat = 9 by omega), if_pos (show A 5 p.toNat = 7 by omega)]; try rfl)
    | (rw [if_neg (show ¬ A 5 p.toNat = 9 by omega), if_neg (show ¬ A 5 p.toNat = 7 by omega), if_neg (show ¬ (0 ≤ A 5 p.toNat ∧ A 5 p.toNat ≤ 8 ∧ ¬ A 5 p.toNat = 6) by omega)]; try rfl)
    | (rw [if_neg (show ¬ A 5 p.toNat = 9 by omega), if_neg (show ¬ A 5 p.toNat = 7 by omega), if_pos (show (0 ≤ A 5 p.toNat ∧ A 5 p.toNat ≤ 8 ∧ ¬ A 5 p.toNat = 6) by omega)]
       unfold s_lf
       first
       | (rw [if_pos (show A 5 p.toNat = 0 by omega)]; try rfl)
       | (rw [if_neg (show ¬ A 5 p.toNat = 0 by omega), if_pos (show A 5 p.toNat = 1 by omega)]; try rfl)
       | (rw [if_neg (show ¬ A 5 p.toNat = 0 by omega), if_neg (show ¬ A 5 p.toNat = 1 by omega), if_pos (show A 5 p.toNat = 2 by omega)]; try rfl)
       | (rw [if_neg (show ¬ A 5 p.toNat = 0 by omega), if_neg (show ¬ A 5 p.toNat = 1 by omega), if_neg (show ¬ A 5 p.toNat = 2 by omega), if_pos (show A 5 p.toNat = 3 by omega)]; try rfl)
       | (rw [if_neg (show ¬ A 5 p.toNat = 0 by omega), if_neg (show ¬ A 5 p.toNat = 1 by omega), if_neg (show ¬ A 5 p.toNat = 2 by omega), if_neg (show ¬ A 5 p.toNat = 3 by omega), if_pos (show A 5 p.toNat = 4 by omega)]; simp only [List.append_assoc]; try rfl)
       | (rw [if_neg (show ¬ A 5 p.toNat = 0 by omega), if_neg (show ¬ A 5 p.toNat = 1 by omega), if_neg (show ¬ A 5 p.toNat = 2 by omega), if_neg (show ¬ A 5 p.toNat = 3 by omega), if_neg (show ¬ A 5 p.toNat = 4 by omega), if_pos (show A 5 p.toNat = 5 by omega)]; simp only [List.append_assoc]; try rfl)
       | (rw [if_neg (show ¬ A 5 p.toNat = 0 by omega), if_neg (show ¬ A 5 p.toNat = 1 by omega), if_neg (show ¬ A 5 p.toNat = 2 by omega), if_neg (show ¬ A 5 p.toNat = 3 by omega), if_neg (show ¬ A 5 p.toNat = 4 by omega), if_neg (show ¬ A 5 p.toNat = 5 by omega)]; try rfl))
  · refine x_tableIn (tgt := 64) (off := 55) (x_d C_Wr_writeValue 5 rfl) (by omega) (by omega) (by rw [c1]; rfl) rfl ?_
    refine x_aload_n (x_d C_Wr_writeValue 6 rfl) rfl ?_
    refine x_getfield (v := xC 40) (x_d C_Wr_writeValue 7 rfl) f_Wr_27 rfl rfl ?_
    refine x_ldcS (i := 27) (x_d C_Wr_writeValue 8 rfl) rfl ?_
    refine x_invokevirtual (st := []) (av := [xS (55)]) (x_d C_Wr_writeValue 9 rfl) k_Wr_73 m_Pa_addText v_Pa_addText cl_Pa rfl rfl (Nat.le_of_ble_eq_true rfl) (by omega) rfl (c_Pb_addText_40 Z (d - 1) q (x_up (x_up r 515 (some 26)) 516 (some 40)) A dy s ov f (bs) (by omega) (i := 27) rfl hl hp) ?_
    rintro _ _ ⟨rfl, s4, ov4, f4, rfl, hp4⟩
    have hp4 : pb (q 1283) s4 ov4 f4 (bs ++ [110, 117, 108, 108]) := hp4
    have hp04 := hp4.1
    have hp14 := hp4.2.1
    refine x_goto (tgt := 263) (x_d C_Wr_writeValue 10 rfl) rfl ?_
    refine x_return (x_d C_Wr_writeValue 103 rfl) ?_
    refine ⟨rfl, _, _, _, rfl, pb_fix hp4 ?_⟩
    unfold s_wv s_bxw
    first
    | (rw [if_pos (show A 5 p.toNat = 9 by omega)]; simp only [List.append_assoc]; try rfl)
    | (rw [if_neg (show ¬ A 5 p.toNat = 9 by omega), if_pos (show A 5 p.toNat = 7 by omega)]; try rfl)
    | (rw [if_neg (show ¬ A 5 p.toNat = 9 by omega), if_neg (show ¬ A 5 p.toNat = 7 by omega), if_neg (show ¬ (0 ≤ A 5 p.toNat ∧ A 5 p.toNat ≤ 8 ∧ ¬ A 5 p.toNat = 6) by omega)]; try rfl)
    | (rw [if_neg (show ¬ A 5 p.toNat = 9 by omega), if_neg (show ¬ A 5 p.toNat = 7 by omega), if_pos (show (0 ≤ A 5 p.toNat ∧ A 5 p.toNat ≤ 8 ∧ ¬ A 5 p.toNat = 6) by omega)]
       unfold s_lf
       first
       | (rw [if_pos (show A 5 p.toNat = 0 by omega)]; try rfl)
       | (rw [if_neg (show ¬ A 5 p.toNat = 0 by omega), if_pos (show A 5 p.toNat = 1 by omega)]; try rfl)
       | (rw [if_neg (show ¬ A 5 p.toNat = 0 by omega), if_neg (show ¬ A 5 p.toNat = 1 by omega), if_pos (show A 5 p.toNat = 2 by omega)]; try rfl)
       | (rw [if_neg (show ¬ A 5 p.toNat = 0 by omega), if_neg (show ¬ A 5 p.toNat = 1 by omega), if_neg (show ¬ A 5 p.toNat = 2 by omega), if_pos (show A 5 p.toNat = 3 by omega)]; try rfl)
       | (rw [if_neg (show ¬ A 5 p.toNat = 0 by omega), if_neg (show ¬ A 5 p.toNat = 1 by omega), if_neg (show ¬ A 5 p.toNat = 2 by omega), if_neg (show ¬ A 5 p.toNat = 3 by omega), if_pos (show A 5 p.toNat = 4 by omega)]; simp only [List.append_assoc]; try rfl)
       | (rw [if_neg (show ¬ A 5 p.toNat = 0 by omega), if_neg (show ¬ A 5 p.toNat = 1 by omega), if_neg (show ¬ A 5 p.toNat = 2 by omega), if_neg (show ¬ A 5 p.toNat = 3 by omega), if_neg (show ¬ A 5 p.toNat = 4 by omega), if_pos (show A 5 p.toNat = 5 by omega)]; simp only [List.append_assoc]; try rfl)
       | (rw [if_neg (show ¬ A 5 p.toNat = 0 by omega), if_neg (show ¬ A 5 p.toNat = 1 by omega), if_neg (show ¬ A 5 p.toNat = 2 by omega), if_neg (show ¬ A 5 p.toNat = 3 by omega), if_neg (show ¬ A 5 p.toNat = 4 by omega), if_neg (show ¬ A 5 p.toNat = 5 by omega)]; try rfl))
  · refine x_tableIn (tgt := 76) (off := 67) (x_d C_Wr_writeValue 5 rfl) (by omega) (by omega) (by rw [c1]; rfl) rfl ?_
    refine x_aload_n (x_d C_Wr_writeValue 11 rfl) rfl ?_
    refine x_getfield (v := xC 40) (x_d C_Wr_writeValue 12 rfl) f_Wr_27 rfl rfl ?_
    refine x_ldcS (i := 28) (x_d C_Wr_writeValue 13 rfl) rfl ?_
    refine x_invokevirtual (st := []) (av := [xS (57)]) (x_d C_Wr_writeValue 14 rfl) k_Wr_73 m_Pa_addText v_Pa_addText cl_Pa rfl rfl (Nat.le_of_ble_eq_true rfl) (by omega) rfl (c_Pb_addText_40 Z (d - 1) q (x_up (x_up r 515 (some 26)) 516 (some 40)) A dy s ov f (bs) (by omega) (i := 28) rfl hl hp) ?_
    rintro _ _ ⟨rfl, s5, ov5, f5, rfl, hp5⟩
    have hp5 : pb (q 1283) s5 ov5 f5 (bs ++ [116, 114, 117, 101]) := hp5
    have hp05 := hp5.1
    have hp15 := hp5.2.1
    refine x_goto (tgt := 263) (x_d C_Wr_writeValue 15 rfl) rfl ?_
    refine x_return (x_d C_Wr_writeValue 103 rfl) ?_
    refine ⟨rfl, _, _, _, rfl, pb_fix hp5 ?_⟩
    unfold s_wv s_bxw
    first
    | (rw [if_pos (show A 5 p.toNat = 9 by omega)]; simp only [List.append_assoc]; try rfl)
    | (rw [if_neg (show ¬ A 5 p.toNat = 9 by omega), if_pos (show A 5 p.toNat = 7 by omega)]; try rfl)
    | (rw [if_neg (show ¬ A 5 p.toNat = 9 by omega), if_neg (show ¬ A 5 p.toNat = 7 by omega), if_neg (show ¬ (0 ≤ A 5 p.toNat ∧ A 5 p.toNat ≤ 8 ∧ ¬ A 5 p.toNat = 6) by omega)]; try rfl)
    | (rw [if_neg (show ¬ A 5 p.toNat = 9 by omega), if_neg (show ¬ A 5 p.toNat = 7 by omega), if_pos (show (0 ≤ A 5 p.toNat ∧ A 5 p.toNat ≤ 8 ∧ ¬ A 5 p.toNat = 6) by omega)]
       unfold s_lf
       first
       | (rw [if_pos (show A 5 p.toNat = 0 by omega)]; try rfl)
       | (rw [if_neg (show ¬ A 5 p.toNat = 0 by omega), if_pos (show A 5 p.toNat = 1 by omega)]; try rfl)
       | (rw [if_neg (show ¬ A 5 p.toNat = 0 by omega), if_neg (show ¬ A 5 p.toNat = 1 by omega), if_pos (show A 5 p.toNat = 2 by omega)]; try rfl)
       | (rw [if_neg (show ¬ A 5 p.toNat = 0 by omega), if_neg (show ¬ A 5 p.toNat = 1 by omega), if_neg (show ¬ A 5 p.toNat = 2 by omega), if_pos (show A 5 p.toNat = 3 by omega)]; try rfl)
       | (rw [if_neg (show ¬ A 5 p.toNat = 0 by omega), if_neg (show ¬ A 5 p.toNat = 1 by omega), if_neg (show ¬ A 5 p.toNat = 2 by omega), if_neg (show ¬ A 5 p.toNat = 3 by omega), if_pos (show A 5 p.toNat = 4 by omega)]; simp only [List.append_assoc]; try rfl)
       | (rw [if_neg (show ¬ A 5 p.toNat = 0 by omega), if_neg (show ¬ A 5 p.toNat = 1 by omega), if_neg (show ¬ A 5 p.toNat = 2 by omega), if_neg (show ¬ A 5 p.toNat = 3 by omega), if_neg (show ¬ A 5 p.toNat = 4 by omega), if_pos (show A 5 p.toNat = 5 by omega)]; simp only [List.append_assoc]; try rfl)
       | (rw [if_neg (show ¬ A 5 p.toNat = 0 by omega), if_neg (show ¬ A 5 p.toNat = 1 by omega), if_neg (show ¬ A 5 p.toNat = 2 by omega), if_neg (show ¬ A 5 p.toNat = 3 by omega), if_neg (show ¬ A 5 p.toNat = 4 by omega), if_neg (show ¬ A 5 p.toNat = 5 by omega)]; try rfl))
  · refine x_tableIn (tgt := 88) (off := 79) (x_d C_Wr_writeValue 5 rfl) (by omega) (by omega) (by rw [c1]; rfl) rfl ?_
    refine x_aload_n (x_d C_Wr_writeValue 16 rfl) rfl ?_
    refine x_getfield (v := xC 40) (x_d C_Wr_writeValue 17 rfl) f_Wr_27 rfl rfl ?_
    refine x_ldcS (i := 29) (x_d C_Wr_writeValue 18 rfl) rfl ?_
    refine x_invokevirtual (st := []) (av := [xS (59)]) (x_d C_Wr_writeValue 19 rfl) k_Wr_73 m_Pa_addText v_Pa_addText cl_Pa rfl rfl (Nat.le_of_ble_eq_true rfl) (by omega) rfl (c_Pb_addText_40 Z (d - 1) q (x_up (x_up r 515 (some 26)) 516 (some 40)) A dy s ov f (bs) (by omega) (i := 29) rfl hl hp) ?_
    rintro _ _ ⟨rfl, s6, ov6, f6, rfl, hp6⟩
    have hp6 : pb (q 1283) s6 ov6 f6 (bs ++ [102, 97, 108, 115, 101]) := hp6
    have hp06 := hp6.1
    have hp16 := hp6.2.1
    refine x_goto (tgt := 263) (x_d C_Wr_writeValue 20 rfl) rfl ?_
    refine x_return (x_d C_Wr_writeValue 103 rfl) ?_
    refine ⟨rfl, _, _, _, rfl, pb_fix hp6 ?_⟩
    unfold s_wv s_bxw
    first
    | (rw [if_pos (show A 5 p.toNat = 9 by omega)]; simp only [List.append_assoc]; try rfl)
    | (rw [if_neg (show ¬ A 5 p.toNat = 9 by omega), if_pos (show A 5 p.toNat = 7 by omega)]; try rfl)
    | (rw [if_neg (show ¬ A 5 p.toNat = 9 by omega), if_neg (show ¬ A 5 p.toNat = 7 by omega), if_neg (show ¬ (0 ≤ A 5 p.toNat ∧ A 5 p.toNat ≤ 8 ∧ ¬ A 5 p.toNat = 6) by omega)]; try rfl)
    | (rw [if_neg (show ¬ A 5 p.toNat = 9 by omega), if_neg (show ¬ A 5 p.toNat = 7 by omega), if_pos (show (0 ≤ A 5 p.toNat ∧ A 5 p.toNat ≤ 8 ∧ ¬ A 5 p.toNat = 6) by omega)]
       unfold s_lf
       first
       | (rw [if_pos (show A 5 p.toNat = 0 by omega)]; try rfl)
       | (rw [if_neg (show ¬ A 5 p.toNat = 0 by omega), if_pos (show A 5 p.toNat = 1 by omega)]; try rfl)
       | (rw [if_neg (show ¬ A 5 p.toNat = 0 by omega), if_neg (show ¬ A 5 p.toNat = 1 by omega), if_pos (show A 5 p.toNat = 2 by omega)]; try rfl)
       | (rw [if_neg (show ¬ A 5 p.toNat = 0 by omega), if_neg (show ¬ A 5 p.toNat = 1 by omega), if_neg (show ¬ A 5 p.toNat = 2 by omega), if_pos (show A 5 p.toNat = 3 by omega)]; try rfl)
       | (rw [if_neg (show ¬ A 5 p.toNat = 0 by omega), if_neg (show ¬ A 5 p.toNat = 1 by omega), if_neg (show ¬ A 5 p.toNat = 2 by omega), if_neg (show ¬ A 5 p.toNat = 3 by omega), if_pos (show A 5 p.toNat = 4 by omega)]; simp only [List.append_assoc]; try rfl)
       | (rw [if_neg (show ¬ A 5 p.toNat = 0 by omega), if_neg (show ¬ A 5 p.toNat = 1 by omega), if_neg (show ¬ A 5 p.toNat = 2 by omega), if_neg (show ¬ A 5 p.toNat = 3 by omega), if_neg (show ¬ A 5 p.toNat = 4 by omega), if_pos (show A 5 p.toNat = 5 by omega)]; simp only [List.append_assoc]; try rfl)
       | (rw [if_neg (show ¬ A 5 p.toNat = 0 by omega), if_neg (show ¬ A 5 p.toNat = 1 by omega), if_neg (show ¬ A 5 p.toNat = 2 by omega), if_neg (show ¬ A 5 p.toNat = 3 by omega), if_neg (show ¬ A 5 p.toNat = 4 by omega), if_neg (show ¬ A 5 p.toNat = 5 by omega)]; try rfl))
  · refine x_tableIn (tgt := 100) (off := 91) (x_d C_Wr_writeValue 5 rfl) (by omega) (by omega) (by rw [c1]; rfl) rfl ?_
    refine x_aload_n (x_d C_Wr_writeValue 21 rfl) rfl ?_
    refine x_getfield (v := xC 40) (x_d C_Wr_writeValue 22 rfl) f_Wr_27 rfl rfl ?_
    refine x_aload_n (x_d C_Wr_writeValue 23 rfl) rfl ?_
    refine x_getfield (v := xC 4) (x_d C_Wr_writeValue 24 rfl) f_Wr_19 rfl rfl ?_
    refine x_getfield (v := xC 6) (x_d C_Wr_writeValue 25 rfl) f_Wr_158 rfl rfl ?_
    refine x_iload_n (x_d C_Wr_writeValue 26 rfl) rfl ?_
    refine x_iaload (f := A 6) (x_d C_Wr_writeValue 27 rfl) rfl (by omega) (by omega) ?_
    refine x_invokevirtual (st := []) (av := [xI (A 6 (p).toNat)]) (x_d C_Wr_writeValue 28 rfl) k_Wr_87 m_Pa_addInt v_Pa_addInt cl_Pa rfl rfl (Nat.le_of_ble_eq_true rfl) (by omega) rfl (c_Pb_addInt_40 Z (d - 1) q (x_up (x_up r 515 (some 26)) 516 (some 40)) A dy s ov f bs (by omega) (A 6 (p).toNat) hl hp (by omega)) ?_
    rintro _ _ ⟨rfl, s7, ov7, f7, rfl, hp7⟩
    have hp07 := hp7.1
    have hp17 := hp7.2.1
    refine x_goto (tgt := 263) (x_d C_Wr_writeValue 29 rfl) rfl ?_
    refine x_return (x_d C_Wr_writeValue 103 rfl) ?_
    refine ⟨rfl, _, _, _, rfl, pb_fix hp7 ?_⟩
    unfold s_wv s_bxw
    first
    | (rw [if_pos (show A 5 p.toNat = 9 by omega)]; simp only [List.append_assoc]; try rfl)
    | (rw [if_neg (show ¬ A 5 p.toNat = 9 by omega), if_pos (show A 5 p.toNat = 7 by omega)]; try rfl)
    | (rw [if_neg (show ¬ A 5 p.toNat = 9 by omega), if_neg (show ¬ A 5 p.toNat = 7 by omega), if_neg (show ¬ (0 ≤ A 5 p.toNat ∧ A 5 p.toNat ≤ 8 ∧ ¬ A 5 p.toNat = 6) by omega)]; try rfl)
    | (rw [if_neg (show ¬ A 5 p.toNat = 9 by omega), if_neg (show ¬ A 5 p.toNat = 7 by omega), if_pos (show (0 ≤ A 5 p.toNat ∧ A 5 p.toNat ≤ 8 ∧ ¬ A 5 p.toNat = 6) by omega)]
       unfold s_lf
       first
       | (rw [if_pos (show A 5 p.toNat = 0 by omega)]; try rfl)
       | (rw [if_neg (show ¬ A 5 p.toNat = 0 by omega), if_pos (show A 5 p.toNat = 1 by omega)]; try rfl)
       | (rw [if_neg (show ¬ A 5 p.toNat = 0 by omega), if_neg (show ¬ A 5 p.toNat = 1 by omega), if_pos (show A 5 p.toNat = 2 by omega)]; try rfl)
       | (rw [if_neg (show ¬ A 5 p.toNat = 0 by omega), if_neg (show ¬ A 5 p.toNat = 1 by omega), if_neg (show ¬ A 5 p.toNat = 2 by omega), if_pos (show A 5 p.toNat = 3 by omega)]; try rfl)
       | (rw [if_neg (show ¬ A 5 p.toNat = 0 by omega), if_neg (show ¬ A 5 p.toNat = 1 by omega), if_neg (show ¬ A 5 p.toNat = 2 by omega), if_neg (show ¬ A 5 p.toNat = 3 by omega), if_pos (show A 5 p.toNat = 4 by omega)]; simp only [List.append_assoc]; try rfl)
       | (rw [if_neg (show ¬ A 5 p.toNat = 0 by omega), if_neg (show ¬ A 5 p.toNat = 1 by omega), if_neg (show ¬ A 5 p.toNat = 2 by omega), if_neg (show ¬ A 5 p.toNat = 3 by omega), if_neg (show ¬ A 5 p.toNat = 4 by omega), if_pos (show A 5 p.toNat = 5 by omega)]; simp only [List.append_assoc]; try rfl)
       | (rw [if_neg (show ¬ A 5 p.toNat = 0 by omega), if_neg (show ¬ A 5 p.toNat = 1 by omega), if_neg (show ¬ A 5 p.toNat = 2 by omega), if_neg (show ¬ A 5 p.toNat = 3 by omega), if_neg (show ¬ A 5 p.toNat = 4 by omega), if_neg (show ¬ A 5 p.toNat = 5 by omega)]; try rfl))
  · refine x_tableIn (tgt := 119) (off := 110) (x_d C_Wr_writeValue 5 rfl) (by omega) (by omega) (by rw [c1]; rfl) rfl ?_
    refine x_aload_n (x_d C_Wr_writeValue 30 rfl) rfl ?_
    refine x_getfield (v := xC 40) (x_d C_Wr_writeValue 31 rfl) f_Wr_27 rfl rfl ?_
    refine x_bipush (x_d C_Wr_writeValue 32 rfl) (by omega) ?_
    refine x_invokevirtual (st := []) (av := [xI (47)]) (x_d C_Wr_writeValue 33 rfl) k_Wr_92 m_Pa_add v_Pa_add cl_Pa rfl rfl (Nat.le_of_ble_eq_true rfl) (by omega) rfl (c_Pb_add_40 Z (d - 1) q (x_up (x_up r 515 (some 26)) 516 (some 40)) A dy s ov f bs 47 hl hp) ?_
    rintro _ _ ⟨rfl, s8, ov8, f8, rfl, hp8⟩
    have hp08 := hp8.1
    have hp18 := hp8.2.1
    refine x_aload_n (x_d C_Wr_writeValue 34 rfl) rfl ?_
    refine x_getfield (v := xC 40) (x_d C_Wr_writeValue 35 rfl) f_Wr_27 rfl rfl ?_
    refine x_aload_n (x_d C_Wr_writeValue 36 rfl) rfl ?_
    refine x_getfield (v := xC 1) (x_d C_Wr_writeValue 37 rfl) f_Wr_15 rfl rfl ?_
    refine x_getfield (v := xC 2) (x_d C_Wr_writeValue 38 rfl) f_Wr_31 rfl rfl ?_
    refine x_aload_n (x_d C_Wr_writeValue 39 rfl) rfl ?_
    refine x_getfield (v := xC 4) (x_d C_Wr_writeValue 40 rfl) f_Wr_19 rfl rfl ?_
    refine x_getfield (v := xC 6) (x_d C_Wr_writeValue 41 rfl) f_Wr_158 rfl rfl ?_
    refine x_iload_n (x_d C_Wr_writeValue 42 rfl) rfl ?_
    refine x_iaload (f := A 6) (x_d C_Wr_writeValue 43 rfl) rfl (by omega) (by omega) ?_
    refine x_aload_n (x_d C_Wr_writeValue 44 rfl) rfl ?_
    refine x_getfield (v := xC 4) (x_d C_Wr_writeValue 45 rfl) f_Wr_19 rfl rfl ?_
    refine x_getfield (v := xC 7) (x_d C_Wr_writeValue 46 rfl) f_Wr_161 rfl rfl ?_
    refine x_iload_n (x_d C_Wr_writeValue 47 rfl) rfl ?_
    refine x_iaload (f := A 7) (x_d C_Wr_writeValue 48 rfl) rfl (by omega) (by omega) ?_
    refine x_invokevirtual (st := []) (av := [xC 2, xI (A 6 (p).toNat), xI (A 7 (p).toNat)]) (x_d C_Wr_writeValue 49 rfl) k_Wr_46 m_Pa_addRow v_Pa_addRow cl_Pa rfl rfl (Nat.le_of_ble_eq_true rfl) (by omega) rfl (c_Pb_addRow_40_2 Z (d - 1) q (x_up (x_up r 515 (some 26)) 516 (some 40)) A dy s8 ov8 f8 (bs ++ ([x_by 47])) (by omega) (A 6 (p).toNat) (A 7 (p).toNat) hl hp8 (by omega)) ?_
    rintro _ _ ⟨rfl, s9, ov9, f9, rfl, hp9⟩
    have hp09 := hp9.1
    have hp19 := hp9.2.1
    refine x_goto (tgt := 263) (x_d C_Wr_writeValue 50 rfl) rfl ?_
    refine x_return (x_d C_Wr_writeValue 103 rfl) ?_
    refine ⟨rfl, _, _, _, rfl, pb_fix hp9 ?_⟩
    unfold s_wv s_bxw
    first
    | (rw [if_pos (show A 5 p.toNat = 9 by omega)]; simp only [List.append_assoc]; try rfl)
    | (rw [if_neg (show ¬ A 5 p.toNat = 9 by omega), if_pos (show A 5 p.toNat = 7 by omega)]; try rfl)
    | (rw [if_neg (show ¬ A 5 p.toNat = 9 by omega), if_neg (show ¬ A 5 p.toNat = 7 by omega), if_neg (show ¬ (0 ≤ A 5 p.toNat ∧ A 5 p.toNat ≤ 8 ∧ ¬ A 5 p.toNat = 6) by omega)]; try rfl)
    | (rw [if_neg (show ¬ A 5 p.toNat = 9 by omega), if_neg (show ¬ A 5 p.toNat = 7 by omega), if_pos (show (0 ≤ A 5 p.toNat ∧ A 5 p.toNat ≤ 8 ∧ ¬ A 5 p.toNat = 6) by omega)]
       unfold s_lf
       first
       | (rw [if_pos (show A 5 p.toNat = 0 by omega)]; try rfl)
       | (rw [if_neg (show ¬ A 5 p.toNat = 0 by omega), if_pos (show A 5 p.toNat = 1 by omega)]; try rfl)
       | (rw [if_neg (show ¬ A 5 p.toNat = 0 by omega), if_neg (show ¬ A 5 p.toNat = 1 by omega), if_pos (show A 5 p.toNat = 2 by omega)]; try rfl)
       | (rw [if_neg (show ¬ A 5 p.toNat = 0 by omega), if_neg (show ¬ A 5 p.toNat = 1 by omega), if_neg (show ¬ A 5 p.toNat = 2 by omega), if_pos (show A 5 p.toNat = 3 by omega)]; try rfl)
       | (rw [if_neg (show ¬ A 5 p.toNat = 0 by omega), if_neg (show ¬ A 5 p.toNat = 1 by omega), if_neg (show ¬ A 5 p.toNat = 2 by omega), if_neg (show ¬ A 5 p.toNat = 3 by omega), if_pos (show A 5 p.toNat = 4 by omega)]; simp only [List.append_assoc]; try rfl)
       | (rw [if_neg (show ¬ A 5 p.toNat = 0 by omega), if_neg (show ¬ A 5 p.toNat = 1 by omega), if_neg (show ¬ A 5 p.toNat = 2 by omega), if_neg (show ¬ A 5 p.toNat = 3 by omega), if_neg (show ¬ A 5 p.toNat = 4 by omega), if_pos (show A 5 p.toNat = 5 by omega)]; simp only [List.append_assoc]; try rfl)
       | (rw [if_neg (show ¬ A 5 p.toNat = 0 by omega), if_neg (show ¬ A 5 p.toNat = 1 by omega), if_neg (show ¬ A 5 p.toNat = 2 by omega), if_neg (show ¬ A 5 p.toNat = 3 by omega), if_neg (show ¬ A 5 p.toNat = 4 by omega), if_neg (show ¬ A 5 p.toNat = 5 by omega)]; try rfl))
  · refine x_tableIn (tgt := 163) (off := 154) (x_d C_Wr_writeValue 5 rfl) (by omega) (by omega) (by rw [c1]; rfl) rfl ?_
    refine x_aload_n (x_d C_Wr_writeValue 51 rfl) rfl ?_
    refine x_getfield (v := xC 40) (x_d C_Wr_writeValue 52 rfl) f_Wr_27 rfl rfl ?_
    refine x_bipush (x_d C_Wr_writeValue 53 rfl) (by omega) ?_
    refine x_invokevirtual (st := []) (av := [xI (60)]) (x_d C_Wr_writeValue 54 rfl) k_Wr_92 m_Pa_add v_Pa_add cl_Pa rfl rfl (Nat.le_of_ble_eq_true rfl) (by omega) rfl (c_Pb_add_40 Z (d - 1) q (x_up (x_up r 515 (some 26)) 516 (some 40)) A dy s ov f bs 60 hl hp) ?_
    rintro _ _ ⟨rfl, s10, ov10, f10, rfl, hp10⟩
    have hp010 := hp10.1
    have hp110 := hp10.2.1
    refine x_aload_n (x_d C_Wr_writeValue 55 rfl) rfl ?_
    refine x_getfield (v := xC 40) (x_d C_Wr_writeValue 56 rfl) f_Wr_27 rfl rfl ?_
    refine x_aload_n (x_d C_Wr_writeValue 57 rfl) rfl ?_
    refine x_getfield (v := xC 1) (x_d C_Wr_writeValue 58 rfl) f_Wr_15 rfl rfl ?_
    refine x_aload_n (x_d C_Wr_writeValue 59 rfl) rfl ?_
    refine x_getfield (v := xC 4) (x_d C_Wr_writeValue 60 rfl) f_Wr_19 rfl rfl ?_
    refine x_getfield (v := xC 6) (x_d C_Wr_writeValue 61 rfl) f_Wr_158 rfl rfl ?_
    refine x_iload_n (x_d C_Wr_writeValue 62 rfl) rfl ?_
    refine x_iaload (f := A 6) (x_d C_Wr_writeValue 63 rfl) rfl (by omega) (by omega) ?_
    refine x_aload_n (x_d C_Wr_writeValue 64 rfl) rfl ?_
    refine x_getfield (v := xC 4) (x_d C_Wr_writeValue 65 rfl) f_Wr_19 rfl rfl ?_
    refine x_getfield (v := xC 7) (x_d C_Wr_writeValue 66 rfl) f_Wr_161 rfl rfl ?_
    refine x_iload_n (x_d C_Wr_writeValue 67 rfl) rfl ?_
    refine x_iaload (f := A 7) (x_d C_Wr_writeValue 68 rfl) rfl (by omega) (by omega) ?_
    refine x_iconst (x_d C_Wr_writeValue 69 rfl) ⟨by omega, by omega⟩ ?_
    refine x_invokevirtual (st := []) (av := [xC 1, xI (A 6 (p).toNat), xI (A 7 (p).toNat), xI (1)]) (x_d C_Wr_writeValue 70 rfl) k_Wr_164 m_Pa_addString v_Pa_addString cl_Pa rfl rfl (Nat.le_of_ble_eq_true rfl) (by omega) rfl (c_Pb_addString_40 Z (d - 1) q (x_up (x_up r 515 (some 26)) 516 (some 40)) A dy s10 ov10 f10 (bs ++ ([x_by 60])) (by omega) (A 6 (p).toNat) (A 7 (p).toNat) hl hp10 hT (by omega) (by omega)) ?_
    rintro _ _ ⟨rfl, s11, ov11, f11, rfl, hp11⟩
    have hp011 := hp11.1
    have hp111 := hp11.2.1
    refine x_aload_n (x_d C_Wr_writeValue 71 rfl) rfl ?_
    refine x_getfield (v := xC 40) (x_d C_Wr_writeValue 72 rfl) f_Wr_27 rfl rfl ?_
    refine x_bipush (x_d C_Wr_writeValue 73 rfl) (by omega) ?_
    refine x_invokevirtual (st := []) (av := [xI (62)]) (x_d C_Wr_writeValue 74 rfl) k_Wr_92 m_Pa_add v_Pa_add cl_Pa rfl rfl (Nat.le_of_ble_eq_true rfl) (by omega) rfl (c_Pb_add_40 Z (d - 1) q (x_up (x_up r 515 (some 26)) 516 (some 40)) A dy s11 ov11 f11 (bs ++ ([x_by 60]) ++ ((s_sb (A 2) (q 35) (decide (s_byte (A 2) (q 35) (A 6 (p).toNat) = 60)) (A 7 (p).toNat).toNat ((A 6 (p).toNat) + 1)).flatMap s_h2)) 62 hl hp11) ?_
    rintro _ _ ⟨rfl, s12, ov12, f12, rfl, hp12⟩
    have hp012 := hp12.1
    have hp112 := hp12.2.1
    refine x_goto (tgt := 263) (x_d C_Wr_writeValue 75 rfl) rfl ?_
    refine x_return (x_d C_Wr_writeValue 103 rfl) ?_
    refine ⟨rfl, _, _, _, rfl, pb_fix hp12 ?_⟩
    unfold s_wv s_bxw
    first
    | (rw [if_pos (show A 5 p.toNat = 9 by omega)]; simp only [List.append_assoc]; try rfl)
    | (rw [if_neg (show ¬ A 5 p.toNat = 9 by omega), if_pos (show A 5 p.toNat = 7 by omega)]; try rfl)
    | (rw [if_neg (show ¬ A 5 p.toNat = 9 by omega), if_neg (show ¬ A 5 p.toNat = 7 by omega), if_neg (show ¬ (0 ≤ A 5 p.toNat ∧ A 5 p.toNat ≤ 8 ∧ ¬ A 5 p.toNat = 6) by omega)]; try rfl)
    | (rw [if_neg (show ¬ A 5 p.toNat = 9 by omega), if_neg (show ¬ A 5 p.toNat = 7 by omega), if_pos (show (0 ≤ A 5 p.toNat ∧ A 5 p.toNat ≤ 8 ∧ ¬ A 5 p.toNat = 6) by omega)]
       unfold s_lf
       first
       | (rw [if_pos (show A 5 p.toNat = 0 by omega)]; try rfl)
       | (rw [if_neg (show ¬ A 5 p.toNat = 0 by omega), if_pos (show A 5 p.toNat = 1 by omega)]; try rfl)
       | (rw [if_neg (show ¬ A 5 p.toNat = 0 by omega), if_neg (show ¬ A 5 p.toNat = 1 by omega), if_pos (show A 5 p.toNat = 2 by omega)]; try rfl)
       | (rw [if_neg (show ¬ A 5 p.toNat = 0 by omega), if_neg (show ¬ A 5 p.toNat = 1 by omega), if_neg (show ¬ A 5 p.toNat = 2 by omega), if_pos (show A 5 p.toNat = 3 by omega)]; try rfl)
       | (rw [if_neg (show ¬ A 5 p.toNat = 0 by omega), if_neg (show ¬ A 5 p.toNat = 1 by omega), if_neg (show ¬ A 5 p.toNat = 2 by omega), if_neg (show ¬ A 5 p.toNat = 3 by omega), if_pos (show A 5 p.toNat = 4 by omega)]; simp only [List.append_assoc]; try rfl)
       | (rw [if_neg (show ¬ A 5 p.toNat = 0 by omega), if_neg (show ¬ A 5 p.toNat = 1 by omega), if_neg (show ¬ A 5 p.toNat = 2 by omega), if_neg (show ¬ A 5 p.toNat = 3 by omega), if_neg (show ¬ A 5 p.toNat = 4 by omega), if_pos (show A 5 p.toNat = 5 by omega)]; simp only [List.append_assoc]; try rfl)
       | (rw [if_neg (show ¬ A 5 p.toNat = 0 by omega), if_neg (show ¬ A 5 p.toNat = 1 by omega), if_neg (show ¬ A 5 p.toNat = 2 by omega), if_neg (show ¬ A 5 p.toNat = 3 by omega), if_neg (show ¬ A 5 p.toNat = 4 by omega), if_neg (show ¬ A 5 p.toNat = 5 by omega)]; try rfl))
  · refine x_tableIn (tgt := 253) (off := 244) (x_d C_Wr_writeValue 5 rfl) (by omega) (by omega) (by rw [c1]; rfl) rfl ?_
    refine x_aload_n (x_d C_Wr_writeValue 97 rfl) rfl ?_
    refine x_iload_n (x_d C_Wr_writeValue 98 rfl) rfl ?_
    refine x_iload_n (x_d C_Wr_writeValue 99 rfl) rfl ?_
    refine x_ldcS (i := 37) (x_d C_Wr_writeValue 100 rfl) rfl ?_
    refine x_ldcS (i := 38) (x_d C_Wr_writeValue 101 rfl) rfl ?_
    refine x_invokevirtual (st := []) (av := [xI (p), xI (e), xS (75), xS (77)]) (x_d C_Wr_writeValue 102 rfl) k_Wr_171 m_Wr_writeItems v_Wr_writeItems cl_Wr rfl rfl (Nat.le_of_ble_eq_true rfl) (by omega) rfl (c_Wr_writeItems Z (d - 1) q r A dy s ov f (bs) D (by omega) (by omega) p e (i := 37) (j := 38) rfl rfl hl hp hT hR hsp (by omega) hrec (by omega) hwv.2) ?_
    rintro _ _ ⟨rfl, s13, ov13, f13, rfl, hp13⟩
    have hp13 : pb (q 1283) s13 ov13 f13 (bs ++ ([91] ++ (s_its (s_wv (A 5) (A 6) (A 7) (A 8) (A 9) (A 2) (q 35) D) (A 9) (A 2) (q 35) (p + 1) (s_in (A 8) p) ++ [93]))) := hp13
    refine x_return (x_d C_Wr_writeValue 103 rfl) ?_
    refine ⟨rfl, _, _, _, rfl, pb_fix hp13 ?_⟩
    unfold s_wv s_bxw
    first
    | (rw [if_pos (show A 5 p.toNat = 9 by omega)]; simp only [List.append_assoc]; try rfl)
    | (rw [if_neg (show ¬ A 5 p.toNat = 9 by omega), if_pos (show A 5 p.toNat = 7 by omega)]; try rfl)
    | (rw [if_neg (show ¬ A 5 p.toNat = 9 by omega), if_neg (show ¬ A 5 p.toNat = 7 by omega), if_neg (show ¬ (0 ≤ A 5 p.toNat ∧ A 5 p.toNat ≤ 8 ∧ ¬ A 5 p.toNat = 6) by omega)]; try rfl)
    | (rw [if_neg (show ¬ A 5 p.toNat = 9 by omega), if_neg (show ¬ A 5 p.toNat = 7 by omega), if_pos (show (0 ≤ A 5 p.toNat ∧ A 5 p.toNat ≤ 8 ∧ ¬ A 5 p.toNat = 6) by omega)]
       unfold s_lf
       first
       | (rw [if_pos (show A 5 p.toNat = 0 by omega)]; try rfl)
       | (rw [if_neg (show ¬ A 5 p.toNat = 0 by omega), if_pos (show A 5 p.toNat = 1 by omega)]; try rfl)
       | (rw [if_neg (show ¬ A 5 p.toNat = 0 by omega), if_neg (show ¬ A 5 p.toNat = 1 by omega), if_pos (show A 5 p.toNat = 2 by omega)]; try rfl)
       | (rw [if_neg (show ¬ A 5 p.toNat = 0 by omega), if_neg (show ¬ A 5 p.toNat = 1 by omega), if_neg (show ¬ A 5 p.toNat = 2 by omega), if_pos (show A 5 p.toNat = 3 by omega)]; try rfl)
       | (rw [if_neg (show ¬ A 5 p.toNat = 0 by omega), if_neg (show ¬ A 5 p.toNat = 1 by omega), if_neg (show ¬ A 5 p.toNat = 2 by omega), if_neg (show ¬ A 5 p.toNat = 3 by omega), if_pos (show A 5 p.toNat = 4 by omega)]; simp only [List.append_assoc]; try rfl)
       | (rw [if_neg (show ¬ A 5 p.toNat = 0 by omega), if_neg (show ¬ A 5 p.toNat = 1 by omega), if_neg (show ¬ A 5 p.toNat = 2 by omega), if_neg (show ¬ A 5 p.toNat = 3 by omega), if_neg (show ¬ A 5 p.toNat = 4 by omega), if_pos (show A 5 p.toNat = 5 by omega)]; simp only [List.append_assoc]; try rfl)
       | (rw [if_neg (show ¬ A 5 p.toNat = 0 by omega), if_neg (show ¬ A 5 p.toNat = 1 by omega), if_neg (show ¬ A 5 p.toNat = 2 by omega), if_neg (show ¬ A 5 p.toNat = 3 by omega), if_neg (show ¬ A 5 p.toNat = 4 by omega), if_neg (show ¬ A 5 p.toNat = 5 by omega)]; try rfl))
  · refine x_tableIn (tgt := 240) (off := 231) (x_d C_Wr_writeValue 5 rfl) (by omega) (by omega) (by rw [c1]; rfl) rfl ?_
    refine x_aload_n (x_d C_Wr_writeValue 90 rfl) rfl ?_
    refine x_iload_n (x_d C_Wr_writeValue 91 rfl) rfl ?_
    refine x_iload_n (x_d C_Wr_writeValue 92 rfl) rfl ?_
    refine x_ldcS (i := 31) (x_d C_Wr_writeValue 93 rfl) rfl ?_
    refine x_ldcS (i := 32) (x_d C_Wr_writeValue 94 rfl) rfl ?_
    refine x_invokevirtual (st := []) (av := [xI (p), xI (e), xS (63), xS (65)]) (x_d C_Wr_writeValue 95 rfl) k_Wr_171 m_Wr_writeItems v_Wr_writeItems cl_Wr rfl rfl (Nat.le_of_ble_eq_true rfl) (by omega) rfl (c_Wr_writeItems Z (d - 1) q r A dy s ov f (bs) D (by omega) (by omega) p e (i := 31) (j := 32) rfl rfl hl hp hT hR hsp (by omega) hrec (by omega) hwv.2) ?_
    rintro _ _ ⟨rfl, s14, ov14, f14, rfl, hp14⟩
    have hp14 : pb (q 1283) s14 ov14 f14 (bs ++ ([60, 60] ++ (s_its (s_wv (A 5) (A 6) (A 7) (A 8) (A 9) (A 2) (q 35) D) (A 9) (A 2) (q 35) (p + 1) (s_in (A 8) p) ++ [62, 62]))) := hp14
    refine x_goto (tgt := 263) (x_d C_Wr_writeValue 96 rfl) rfl ?_
    refine x_return (x_d C_Wr_writeValue 103 rfl) ?_
    refine ⟨rfl, _, _, _, rfl, pb_fix hp14 ?_⟩
    unfold s_wv s_bxw
    first
    | (rw [if_pos (show A 5 p.toNat = 9 by omega)]; simp only [List.append_assoc]; try rfl)
    | (rw [if_neg (show ¬ A 5 p.toNat = 9 by omega), if_pos (show A 5 p.toNat = 7 by omega)]; try rfl)
    | (rw [if_neg (show ¬ A 5 p.toNat = 9 by omega), if_neg (show ¬ A 5 p.toNat = 7 by omega), if_neg (show ¬ (0 ≤ A 5 p.toNat ∧ A 5 p.toNat ≤ 8 ∧ ¬ A 5 p.toNat = 6) by omega)]; try rfl)
    | (rw [if_neg (show ¬ A 5 p.toNat = 9 by omega), if_neg (show ¬ A 5 p.toNat = 7 by omega), if_pos (show (0 ≤ A 5 p.toNat ∧ A 5 p.toNat ≤ 8 ∧ ¬ A 5 p.toNat = 6) by omega)]
       unfold s_lf
       first
       | (rw [if_pos (show A 5 p.toNat = 0 by omega)]; try rfl)
       | (rw [if_neg (show ¬ A 5 p.toNat = 0 by omega), if_pos (show A 5 p.toNat = 1 by omega)]; try rfl)
       | (rw [if_neg (show ¬ A 5 p.toNat = 0 by omega), if_neg (show ¬ A 5 p.toNat = 1 by omega), if_pos (show A 5 p.toNat = 2 by omega)]; try rfl)
       | (rw [if_neg (show ¬ A 5 p.toNat = 0 by omega), if_neg (show ¬ A 5 p.toNat = 1 by omega), if_neg (show ¬ A 5 p.toNat = 2 by omega), if_pos (show A 5 p.toNat = 3 by omega)]; try rfl)
       | (rw [if_neg (show ¬ A 5 p.toNat = 0 by omega), if_neg (show ¬ A 5 p.toNat = 1 by omega), if_neg (show ¬ A 5 p.toNat = 2 by omega), if_neg (show ¬ A 5 p.toNat = 3 by omega), if_pos (show A 5 p.toNat = 4 by omega)]; simp only [List.append_assoc]; try rfl)
       | (rw [if_neg (show ¬ A 5 p.toNat = 0 by omega), if_neg (show ¬ A 5 p.toNat = 1 by omega), if_neg (show ¬ A 5 p.toNat = 2 by omega), if_neg (show ¬ A 5 p.toNat = 3 by omega), if_neg (show ¬ A 5 p.toNat = 4 by omega), if_pos (show A 5 p.toNat = 5 by omega)]; simp only [List.append_assoc]; try rfl)
       | (rw [if_neg (show ¬ A 5 p.toNat = 0 by omega), if_neg (show ¬ A 5 p.toNat = 1 by omega), if_neg (show ¬ A 5 p.toNat = 2 by omega), if_neg (show ¬ A 5 p.toNat = 3 by omega), if_neg (show ¬ A 5 p.toNat = 4 by omega), if_neg (show ¬ A 5 p.toNat = 5 by omega)]; try rfl))
  · refine x_tableIn (tgt := 214) (off := 205) (x_d C_Wr_writeValue 5 rfl) (by omega) (by omega) (by rw [c1]; rfl) rfl ?_
    refine x_aload_n (x_d C_Wr_writeValue 76 rfl) rfl ?_
    refine x_iload_n (x_d C_Wr_writeValue 77 rfl) rfl ?_
    refine x_invokevirtual (st := []) (av := [xI (p)]) (x_d C_Wr_writeValue 78 rfl) k_Wr_168 m_Wr_writeRef v_Wr_writeRef cl_Wr rfl rfl (Nat.le_of_ble_eq_true rfl) (by omega) rfl (c_Wr_writeRef Z (d - 1) q r A dy s ov f (bs) (by omega) p hl hp hw (by omega)) ?_
    rintro _ _ ⟨rfl, s15, ov15, f15, rfl, hp15⟩
    have hp015 := hp15.1
    have hp115 := hp15.2.1
    refine x_goto (tgt := 263) (x_d C_Wr_writeValue 79 rfl) rfl ?_
    refine x_return (x_d C_Wr_writeValue 103 rfl) ?_
    refine ⟨rfl, _, _, _, rfl, pb_fix hp15 ?_⟩
    unfold s_wv s_bxw
    first
    | (rw [if_pos (show A 5 p.toNat = 9 by omega)]; simp only [List.append_assoc]; try rfl)
    | (rw [if_neg (show ¬ A 5 p.toNat = 9 by omega), if_pos (show A 5 p.toNat = 7 by omega)]; try rfl)
    | (rw [if_neg (show ¬ A 5 p.toNat = 9 by omega), if_neg (show ¬ A 5 p.toNat = 7 by omega), if_neg (show ¬ (0 ≤ A 5 p.toNat ∧ A 5 p.toNat ≤ 8 ∧ ¬ A 5 p.toNat = 6) by omega)]; try rfl)
    | (rw [if_neg (show ¬ A 5 p.toNat = 9 by omega), if_neg (show ¬ A 5 p.toNat = 7 by omega), if_pos (show (0 ≤ A 5 p.toNat ∧ A 5 p.toNat ≤ 8 ∧ ¬ A 5 p.toNat = 6) by omega)]
       unfold s_lf
       first
       | (rw [if_pos (show A 5 p.toNat = 0 by omega)]; try rfl)
       | (rw [if_neg (show ¬ A 5 p.toNat = 0 by omega), if_pos (show A 5 p.toNat = 1 by omega)]; try rfl)
       | (rw [if_neg (show ¬ A 5 p.toNat = 0 by omega), if_neg (show ¬ A 5 p.toNat = 1 by omega), if_pos (show A 5 p.toNat = 2 by omega)]; try rfl)
       | (rw [if_neg (show ¬ A 5 p.toNat = 0 by omega), if_neg (show ¬ A 5 p.toNat = 1 by omega), if_neg (show ¬ A 5 p.toNat = 2 by omega), if_pos (show A 5 p.toNat = 3 by omega)]; try rfl)
       | (rw [if_neg (show ¬ A 5 p.toNat = 0 by omega), if_neg (show ¬ A 5 p.toNat = 1 by omega), if_neg (show ¬ A 5 p.toNat = 2 by omega), if_neg (show ¬ A 5 p.toNat = 3 by omega), if_pos (show A 5 p.toNat = 4 by omega)]; simp only [List.append_assoc]; try rfl)
       | (rw [if_neg (show ¬ A 5 p.toNat = 0 by omega), if_neg (show ¬ A 5 p.toNat = 1 by omega), if_neg (show ¬ A 5 p.toNat = 2 by omega), if_neg (show ¬ A 5 p.toNat = 3 by omega), if_neg (show ¬ A 5 p.toNat = 4 by omega), if_pos (show A 5 p.toNat = 5 by omega)]; simp only [List.append_assoc]; try rfl)
       | (rw [if_neg (show ¬ A 5 p.toNat = 0 by omega), if_neg (show ¬ A 5 p.toNat = 1 by omega), if_neg (show ¬ A 5 p.toNat = 2 by omega), if_neg (show ¬ A 5 p.toNat = 3 by omega), if_neg (show ¬ A 5 p.toNat = 4 by omega), if_neg (show ¬ A 5 p.toNat = 5 by omega)]; try rfl))
  · refine x_tableIn (tgt := 222) (off := 213) (x_d C_Wr_writeValue 5 rfl) (by omega) (by omega) (by rw [c1]; rfl) rfl ?_
    refine x_aload_n (x_d C_Wr_writeValue 80 rfl) rfl ?_
    refine x_iload_n (x_d C_Wr_writeValue 81 rfl) rfl ?_
    refine x_iload_n (x_d C_Wr_writeValue 82 rfl) rfl ?_
    refine x_ldcS (i := 31) (x_d C_Wr_writeValue 83 rfl) rfl ?_
    refine x_ldcS (i := 32) (x_d C_Wr_writeValue 84 rfl) rfl ?_
    refine x_invokevirtual (st := []) (av := [xI (p), xI (e), xS (63), xS (65)]) (x_d C_Wr_writeValue 85 rfl) k_Wr_171 m_Wr_writeItems v_Wr_writeItems cl_Wr rfl rfl (Nat.le_of_ble_eq_true rfl) (by omega) rfl (c_Wr_writeItems Z (d - 1) q r A dy s ov f (bs) D (by omega) (by omega) p e (i := 31) (j := 32) rfl rfl hl hp hT hR hsp (by omega) hrec (by omega) hwv.2) ?_
    rintro _ _ ⟨rfl, s16, ov16, f16, rfl, hp16⟩
    have hp16 : pb (q 1283) s16 ov16 f16 (bs ++ ([60, 60] ++ (s_its (s_wv (A 5) (A 6) (A 7) (A 8) (A 9) (A 2) (q 35) D) (A 9) (A 2) (q 35) (p + 1) (s_in (A 8) p) ++ [62, 62]))) := hp16
    refine x_aload_n (x_d C_Wr_writeValue 86 rfl) rfl ?_
    refine x_iload_n (x_d C_Wr_writeValue 87 rfl) rfl ?_
    refine x_invokevirtual (st := []) (av := [xI (p)]) (x_d C_Wr_writeValue 88 rfl) k_Wr_175 m_Wr_writeData v_Wr_writeData cl_Wr rfl rfl (Nat.le_of_ble_eq_true rfl) (by omega) rfl (c_Wr_writeData Z (d - 1) q r A dy s16 ov16 f16 (bs ++ ([60, 60] ++ (s_its (s_wv (A 5) (A 6) (A 7) (A 8) (A 9) (A 2) (q 35) D) (A 9) (A 2) (q 35) (p + 1) (s_in (A 8) p) ++ [62, 62]))) (by omega) p hl hp16 hw (by omega)) ?_
    rintro _ _ ⟨rfl, s17, ov17, f17, rfl, hp17⟩
    have hp017 := hp17.1
    have hp117 := hp17.2.1
    refine x_goto (tgt := 263) (x_d C_Wr_writeValue 89 rfl) rfl ?_
    refine x_return (x_d C_Wr_writeValue 103 rfl) ?_
    refine ⟨rfl, _, _, _, rfl, pb_fix hp17 ?_⟩
    unfold s_wv s_bxw
    first
    | (rw [if_pos (show A 5 p.toNat = 9 by omega)]; simp only [List.append_assoc]; try rfl)
    | (rw [if_neg (show ¬ A 5 p.toNat = 9 by omega), if_pos (show A 5 p.toNat = 7 by omega)]; try rfl)
    | (rw [if_neg (show ¬ A 5 p.toNat = 9 by omega), if_neg (show ¬ A 5 p.toNat = 7 by omega), if_neg (show ¬ (0 ≤ A 5 p.toNat ∧ A 5 p.toNat ≤ 8 ∧ ¬ A 5 p.toNat = 6) by omega)]; try rfl)
    | (rw [if_neg (show ¬ A 5 p.toNat = 9 by omega), if_neg (show ¬ A 5 p.toNat = 7 by omega), if_pos (show (0 ≤ A 5 p.toNat ∧ A 5 p.toNat ≤ 8 ∧ ¬ A 5 p.toNat = 6) by omega)]
       unfold s_lf
       first
       | (rw [if_pos (show A 5 p.toNat = 0 by omega)]; try rfl)
       | (rw [if_neg (show ¬ A 5 p.toNat = 0 by omega), if_pos (show A 5 p.toNat = 1 by omega)]; try rfl)
       | (rw [if_neg (show ¬ A 5 p.toNat = 0 by omega), if_neg (show ¬ A 5 p.toNat = 1 by omega), if_pos (show A 5 p.toNat = 2 by omega)]; try rfl)
       | (rw [if_neg (show ¬ A 5 p.toNat = 0 by omega), if_neg (show ¬ A 5 p.toNat = 1 by omega), if_neg (show ¬ A 5 p.toNat = 2 by omega), if_pos (show A 5 p.toNat = 3 by omega)]; try rfl)
       | (rw [if_neg (show ¬ A 5 p.toNat = 0 by omega), if_neg (show ¬ A 5 p.toNat = 1 by omega), if_neg (show ¬ A 5 p.toNat = 2 by omega), if_neg (show ¬ A 5 p.toNat = 3 by omega), if_pos (show A 5 p.toNat = 4 by omega)]; simp only [List.append_assoc]; try rfl)
       | (rw [if_neg (show ¬ A 5 p.toNat = 0 by omega), if_neg (show ¬ A 5 p.toNat = 1 by omega), if_neg (show ¬ A 5 p.toNat = 2 by omega), if_neg (show ¬ A 5 p.toNat = 3 by omega), if_neg (show ¬ A 5 p.toNat = 4 by omega), if_pos (show A 5 p.toNat = 5 by omega)]; simp only [List.append_assoc]; try rfl)
       | (rw [if_neg (show ¬ A 5 p.toNat = 0 by omega), if_neg (show ¬ A 5 p.toNat = 1 by omega), if_neg (show ¬ A 5 p.toNat = 2 by omega), if_neg (show ¬ A 5 p.toNat = 3 by omega), if_neg (show ¬ A 5 p.toNat = 4 by omega), if_neg (show ¬ A 5 p.toNat = 5 by omega)]; try rfl))
theorem c_Wr_writeValue (Z : xZ) (q : Nat → Int) (r : Nat → Option Nat) (A : Nat → Nat → Int) (dy : xH) (hl : 0 ≤ q 1283 ∧ q 1283 ≤ 6000) (hT : 0 ≤ q 34 ∧ q 34 ≤ q 35 ∧ q 35 ≤ 10248) (hR : s_okR A) (hsp : ∀ j, 0 ≤ A 8 j ∧ A 8 j ≤ 12900) : ∀ D : Nat, D ≤ 8 → WD Z q r A dy D
  | 0, _ => c_Wr_writeValue_0 Z q r A dy hl hT hR hsp
  | D + 1, h => c_Wr_writeValue_s Z q r A dy hl hT hR hsp D h (c_Wr_writeValue Z q r A dy hl hT hR hsp D (by omega))
