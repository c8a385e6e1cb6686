/-! the String constants' cells, and two statics -/
theorem x_strs_all : x_strs.all (fun q => decide (q.2.2.2.length < 100) && q.2.2.2.all (fun b => decide (0 ≤ b) && decide (b ≤ 127))) = true := by decide +kernel
theorem x_strs_len {i : Nat} {q : String × Nat × String × List Int} (h : x_strs[i]? = some q) : q.2.2.2.length < 100 := by
  have := List.all_eq_true.mp x_strs_all q (List.mem_of_getElem? h)
  simp only [Bool.and_eq_true, decide_eq_true_eq] at this
  exact this.1
theorem x_strs_byte {i : Nat} {q : String × Nat × String × List Int} (h : x_strs[i]? = some q) (j : Nat) : 0 ≤ q.2.2.2.getD j 0 ∧ q.2.2.2.getD j 0 ≤ 127 := by
  have := List.all_eq_true.mp x_strs_all q (List.mem_of_getElem? h)
  simp only [Bool.and_eq_true] at this
  rw [List.getD_eq_getElem?_getD]
  cases hj : q.2.2.2[j]? with
  | none => exact ⟨by decide, by decide⟩
  | some b =>
    have h2 := List.all_eq_true.mp this.2 b (List.mem_of_getElem? hj)
    simp only [Bool.and_eq_true, decide_eq_true_eq] at h2
    exact h2
section XOld
variable {Z : xZ} {d : Nat} {Y : xY} {pc : Nat} {l : xL} {st : List xV} {h h1 : xH} {Q : Option xV → xH → Prop} {i index : Nat} {q : String × Nat × String × List Int}
theorem x_getvalue (hd : decode Y.2.1 pc = .ok (.getfield index, 3)) (hf : Cond.fieldLink Y.1.cls index "java/lang/String" "value" "[B" ∈ x_tbl) (hs : x_strs[i]? = some q) (kk : xW Z d Y (pc + 3) l (xS (2 * i + 2) :: st) h Q) : xW Z d Y pc l (xS (2 * i + 1) :: st) h Q := by
  refine xW_any (h1 := h) (Nat.le_refl _) (Nat.le_refl _) (fun a b c => ⟨a, x_okS_cons (v := xS (2 * i + 2)) trivial (x_okS_tl b), c⟩) (fun {p e R s m args below meth c H locs cells slots Q ls ad} o1 o2 fx hp hS hc1 hs1 hl kk => ?_) kk
  rw [Nat.sub_self, Nat.sub_self] at kk
  have kk := kk ad H locs ls (fun _ _ => rfl) hp hS hl
  obtain ⟨cf, k, fi, f, cell, g1, g2, g3, g4, g5, g6⟩ := (fx.2.2.2.2.2.1.2.2.2.1 i q hs).2.2.2.1
  exact W.getf fx.1 fx.2.1 fx.2.2.2.1 (fx.2.2.2.2.1 _ hf) g1 g2 (by rw [hp.2.2.2.2 _ (Nat.not_le.mp g6)]; exact g3) g4 g5 rfl rfl hd kk
theorem x_getcoder (hd : decode Y.2.1 pc = .ok (.getfield index, 3)) (hf : Cond.fieldLink Y.1.cls index "java/lang/String" "coder" "B" ∈ x_tbl) (hs : x_strs[i]? = some q) (kk : xW Z d Y (pc + 3) l (xI 0 :: st) h Q) : xW Z d Y pc l (xS (2 * i + 1) :: st) h Q := by
  refine xW_any (h1 := h) (Nat.le_refl _) (Nat.le_refl _) (fun a b c => ⟨a, x_okS_I x_i32_0 (x_okS_tl b), c⟩) (fun {p e R s m args below meth c H locs cells slots Q ls ad} o1 o2 fx hp hS hc1 hs1 hl kk => ?_) kk
  rw [Nat.sub_self, Nat.sub_self] at kk
  have kk := kk ad H locs ls (fun _ _ => rfl) hp hS hl
  obtain ⟨cf, k, fi, f, cell, g1, g2, g3, g4, g5, g6⟩ := (fx.2.2.2.2.2.1.2.2.2.1 i q hs).2.2.1
  refine W.getf fx.1 fx.2.1 fx.2.2.2.1 (fx.2.2.2.2.1 _ hf) g1 g2 (by rw [hp.2.2.2.2 _ (Nat.not_le.mp g6)]; exact g3) g4 g5 rfl rfl hd ?_
  rw [x_st_cons, show x_v ad Z.2.2.2.1 (xI 0) = .int 0 from congrArg Value.int x_ofInt_0] at kk
  exact kk
theorem x_alenS (hd : decode Y.2.1 pc = .ok (.arraylength, 1)) (hs : x_strs[i]? = some q) (kk : xW Z d Y (pc + 1) l (xI q.2.2.2.length :: st) h Q) : xW Z d Y pc l (xS (2 * i + 2) :: st) h Q := by
  have hlen := x_strs_len hs
  refine xW_any (h1 := h) (Nat.le_refl _) (Nat.le_refl _) (fun a b c => ⟨a, x_okS_I ⟨by omega, by omega⟩ (x_okS_tl b), c⟩) (fun {p e R s m args below meth c H locs cells slots Q ls ad} o1 o2 fx hp hS hc1 hs1 hl kk => ?_) kk
  rw [Nat.sub_self, Nat.sub_self] at kk
  have kk := kk ad H locs ls (fun _ _ => rfl) hp hS hl
  obtain ⟨cell, g1, g2, g3, g4, g5, g6, g7⟩ := (fx.2.2.2.2.2.1.2.2.2.1 i q hs).2.2.2.2
  refine W.alen (n := Int32.ofInt q.2.2.2.length) fx.1 fx.2.1 (by rw [hp.2.2.2.2 _ (Nat.not_le.mp g7)]; exact g1) g2 (by rw [g5]; exact Int32.ofInt_eq_ofNat.symm) rfl rfl hd kk
theorem x_baldS {j : Int} (hd : decode Y.2.1 pc = .ok (.baload, 1)) (hs : x_strs[i]? = some q) (h0 : 0 ≤ j) (hj : j < q.2.2.2.length) (kk : xW Z d Y (pc + 1) l (xI (q.2.2.2.getD j.toNat 0) :: st) h Q) : xW Z d Y pc l (xI j :: xS (2 * i + 2) :: st) h Q := by
  have hb := x_strs_byte hs j.toNat
  refine xW_any (h1 := h) (Nat.le_refl _) (Nat.le_refl _) (fun a b c => ⟨a, x_okS_I ⟨by omega, by omega⟩ (x_okS_tl (x_okS_tl b)), c⟩) (fun {p e R s m args below meth c H locs cells slots Q ls ad} o1 o2 fx hp hS hc1 hs1 hl kk => ?_) kk
  rw [Nat.sub_self, Nat.sub_self] at kk
  have kk := kk ad H locs ls (fun _ _ => rfl) hp hS hl
  obtain ⟨cell, g1, g2, g3, g4, g5, g6, g7⟩ := (fx.2.2.2.2.2.1.2.2.2.1 i q hs).2.2.2.2
  have hi := x_okS_hd o2
  refine W.bald fx.1 fx.2.1 (by rw [hp.2.2.2.2 _ (Nat.not_le.mp g7)]; exact g1) g2 g3 (fun z => ?_) (v := .int (Int32.ofInt (q.2.2.2.getD j.toNat 0))) (by rw [x_clamp h0 hi]; exact g6 _ (by omega)) rfl rfl hd kk
  rw [x_clamp h0 hi] at z
  rcases z with z | z
  · rw [← x_ofInt_0, x_i32_lt hi x_i32_0] at z
    omega
  · omega
theorem x_getcompact (hd : decode Y.2.1 pc = .ok (.getstatic index, 3)) (hf : Cond.fieldLink Y.1.cls index "java/lang/String" "COMPACT_STRINGS" "Z" ∈ x_tbl) (kk : xW Z d Y (pc + 3) l (xI 1 :: st) h Q) : xW Z d Y pc l st h Q := by
  refine xW_any (h1 := h) (Nat.le_refl _) (Nat.le_refl _) (fun a b c => ⟨a, x_okS_I ⟨by omega, by omega⟩ b, c⟩) (fun {p e R s m args below meth c H locs cells slots Q ls ad} o1 o2 fx hp hS hc1 hs1 hl kk => ?_) kk
  rw [Nat.sub_self, Nat.sub_self] at kk
  have kk := kk ad H locs ls (fun _ _ => rfl) hp hS hl
  obtain ⟨cf, kf, fi, f, a, cell, g1, g2, g3, g4, g5, g6, g7, g8⟩ := fx.2.2.2.2.2.1.2.2.2.2.1
  refine W.gets fx.1 fx.2.1 fx.2.2.2.1 (fx.2.2.2.2.1 _ hf) g1 g2 g3 g4 (by rw [hp.2.2.2.2 _ (Nat.not_le.mp g8)]; exact g5) (fun e => by rw [e] at g6; cases g6) g7 rfl hd ?_
  rw [x_st_cons, show x_v ad Z.2.2.2.1 (xI 1) = .int 1 from congrArg Value.int (by decide +kernel)] at kk
  exact kk
/-- the formatter: nobody asks what it is -/
def x_fm (Z : xZ) : Option Nat ⊕ Nat := if Z.2.2.2.1 998 = 0 then .inl none else .inr 999
theorem x_fm_ok (Z : xZ) (n : Nat) : x_ok n (.inr (.inr (x_fm Z))) := by
  unfold x_fm
  split <;> trivial
theorem x_fm_v (Z : xZ) (ad : Nat → Nat) : x_v ad Z.2.2.2.1 (.inr (.inr (x_fm Z))) = if Z.2.2.2.1 998 = 0 then .null else .ref (Z.2.2.2.1 999) := by
  unfold x_fm
  split <;> rfl
theorem x_getfmt (hd : decode Y.2.1 pc = .ok (.getstatic index, 3)) (hf : Cond.fieldLink Y.1.cls index "jdk/internal/util/Preconditions" "SIOOBE_FORMATTER" "Ljava/util/function/BiFunction;" ∈ x_tbl) (kk : xW Z d Y (pc + 3) l (.inr (.inr (x_fm Z)) :: st) h Q) : xW Z d Y pc l st h Q := by
  refine xW_any (h1 := h) (Nat.le_refl _) (Nat.le_refl _) (fun a b c => ⟨a, x_okS_cons (x_fm_ok Z _) b, c⟩) (fun {p e R s m args below meth c H locs cells slots Q ls ad} o1 o2 fx hp hS hc1 hs1 hl kk => ?_) kk
  rw [Nat.sub_self, Nat.sub_self] at kk
  have kk := kk ad H locs ls (fun _ _ => rfl) hp hS hl
  obtain ⟨cf, kf, fi, f, a, cell, g1, g2, g3, g4, g5, g6, g7, g8⟩ := fx.2.2.2.2.2.1.2.2.2.2.2.1
  refine W.gets fx.1 fx.2.1 fx.2.2.2.1 (fx.2.2.2.2.1 _ hf) g1 g2 g3 g4 (by rw [hp.2.2.2.2 _ (Nat.not_le.mp g8)]; exact g5) (fun e => by rw [e] at g6; cases g6) g7 rfl hd ?_
  rw [x_st_cons, x_fm_v] at kk
  exact kk
/-- the script -/
theorem x_slen (hd : decode Y.2.1 pc = .ok (.arraylength, 1)) (hL : Z.2.2.2.2.2.2.1 ≤ 4000) (kk : xW Z d Y (pc + 1) l (xI Z.2.2.2.2.2.2.1 :: st) h Q) : xW Z d Y pc l (xS 0 :: st) h Q := by
  refine xW_any (h1 := h) (Nat.le_refl _) (Nat.le_refl _) (fun a b c => ⟨a, x_okS_I ⟨by omega, by omega⟩ (x_okS_tl b), c⟩) (fun {p e R s m args below meth c H locs cells slots Q ls ad} o1 o2 fx hp hS hc1 hs1 hl kk => ?_) kk
  rw [Nat.sub_self, Nat.sub_self] at kk
  have kk := kk ad H locs ls (fun _ _ => rfl) hp hS hl
  obtain ⟨scr, g1, g2, g3, g4, g5⟩ := fx.2.2.2.2.2.1.2.2.2.2.2.2.1
  exact W.alen (n := Int32.ofInt Z.2.2.2.2.2.2.1) fx.1 fx.2.1 (by rw [hp.2.2.2.2 _ fx.2.2.2.2.2.1.2.2.2.2.2.2.2.1]; exact g1) g2 (by rw [g4]; exact Int32.ofInt_eq_ofNat.symm) rfl rfl hd kk
theorem x_sld {j : Int} (hd : decode Y.2.1 pc = .ok (.iaload, 1)) (h0 : 0 ≤ j) (hj : j < Z.2.2.2.2.2.2.1) (hx : x_i32 (Z.2.2.2.2.2.2.2 j.toNat)) (kk : xW Z d Y (pc + 1) l (xI (Z.2.2.2.2.2.2.2 j.toNat) :: st) h Q) : xW Z d Y pc l (xI j :: xS 0 :: st) h Q := by
  refine xW_any (h1 := h) (Nat.le_refl _) (Nat.le_refl _) (fun a b c => ⟨a, x_okS_I hx (x_okS_tl (x_okS_tl b)), c⟩) (fun {p e R s m args below meth c H locs cells slots Q ls ad} o1 o2 fx hp hS hc1 hs1 hl kk => ?_) kk
  rw [Nat.sub_self, Nat.sub_self] at kk
  have kk := kk ad H locs ls (fun _ _ => rfl) hp hS hl
  obtain ⟨scr, g1, g2, g3, g4, g5⟩ := fx.2.2.2.2.2.1.2.2.2.2.2.2.1
  have hi := x_okS_hd o2
  refine W.iald fx.1 fx.2.1 (by rw [hp.2.2.2.2 _ fx.2.2.2.2.2.1.2.2.2.2.2.2.2.1]; exact g1) g2 g3 (fun z => ?_) (v := .int (Int32.ofInt (Z.2.2.2.2.2.2.2 j.toNat))) (by rw [x_clamp h0 hi]; exact g5 _ (by omega)) rfl rfl hd kk
  rw [x_clamp h0 hi, g4] at z
  rcases z with z | z
  · rw [← x_ofInt_0, x_i32_lt hi x_i32_0] at z
    omega
  · omega
end XOld
section XVS
variable {Z : xZ} {d dc : Nat} {Y Yc : xY} {pc n index : Nat} {l : xL} {st stk av : List xV} {h : xH} {Q P : Option xV → xH → Prop}
/-- a method of a String constant -/
theorem x_invokevirtualS {i : Nat} {q : String × Nat × String × List Int} (hd : decode Y.2.1 pc = .ok (.invokevirtual index, 3)) (hl : x_ml Y.1.cls index Yc.1) (hm : x_mi Yc n) (hv : Cond.instanceMethod Yc.1 ∈ x_tbl ∧ Cond.selects Yc.1.cls Yc.1 Yc.1 ∈ x_tbl) (hcs : Yc.1.cls = "java/lang/String") (hs : x_strs[i]? = some q) (hn : av.length = n) (hr : (st.map x_cat).sum ≤ 8) (hdd : dc + 1 ≤ d) (hst : av.reverse ++ xS (2 * i + 1) :: st = stk) (hM : xMet Z dc Yc (xS (2 * i + 1) :: av) h P) (kk : ∀ r h1, P r h1 → xW Z d Y (pc + 3) l (r.toList ++ st) h1 Q) : xW Z d Y pc l stk h Q := by
  subst hst
  intro o1 o2 o3
  have oa : x_okS h.length (xS (2 * i + 1) :: av) := x_okS_cons (x_okS_hd (x_okS_app o2).2) (fun v hv => (x_okS_app o2).1 v (List.mem_reverse.mpr hv))
  obtain ⟨r, h1, hP, m1, m2, m3, m4, hM⟩ := hM oa o3
  refine xW_any (h1 := h1) m1 m2 (fun a b c => ⟨x_okL_mono a m1, fun v hv => ?_, m3⟩) (fun {p e R s m args below meth c H locs cells slots Q ls ad} o1 o2 fx hp hS hc1 hs1 hl1 kk => ?_) (kk r h1 hP) o1 o2 o3
  · rcases List.mem_append.mp hv with q | q
    · exact m4 v (Option.mem_toList.mp q)
    · exact x_ok_mono (x_okS_tl (x_okS_app b).2 v q) m1
  · obtain ⟨pw, pf, pl⟩ := x_callB_step (h := h) (h1 := h1) hm fx hdd
    have rcv : ∃ cellB : Cell, H[Z.2.2.2.1 (2 * i + 1)]? = some cellB ∧ cellB.vm.isStatics = false ∧ s.vm.findClass Yc.1.cls = some cellB.cls := by
      obtain ⟨cell, g1, g2, g3, g4⟩ := (fx.2.2.2.2.2.1.2.2.2.1 i q hs).2.1
      exact ⟨cell, by rw [hp.2.2.2.2 _ (Nat.not_le.mp g4)]; exact g1, g2, by rw [hcs]; exact g3⟩
    have pre : PreV s H Yc.1.cls (Z.2.2.2.1 (2 * i + 1)) (x_Pc Z ad (xS (2 * i + 1) :: av) h) (x_st ad Z.2.2.2.1 av) := ⟨x_Pc_blind Z ad (xS (2 * i + 1) :: av) h, rcv, fun U hU hW => ⟨rfl, x_G_moved hW fx.2.2.2.2.2.1, by rw [hU]; exact hp⟩⟩
    have hlen : (x_st ad Z.2.2.2.1 av).length = n := by unfold x_st; rw [List.length_map]; exact hn
    have hroom : 2 * (F0 m pc ls (x_st ad Z.2.2.2.1 (av.reverse ++ xS (2 * i + 1) :: st))).monitorRoom + ((x_st ad Z.2.2.2.1 st).map fun v => v.category).sum ≤ 8 := lv_room (by rw [x_st_cat]; exact hr)
    have hstk : (F0 m pc ls (x_st ad Z.2.2.2.1 (av.reverse ++ xS (2 * i + 1) :: st))).stack = (x_st ad Z.2.2.2.1 av).reverse ++ .ref (Z.2.2.2.1 (2 * i + 1)) :: x_st ad Z.2.2.2.1 st := by
      show x_st ad Z.2.2.2.1 (av.reverse ++ xS (2 * i + 1) :: st) = _
      rw [x_st_app, x_st_rev]
      rfl
    have go : va_Run p Z.1 e R s m args below meth c H locs cells slots (h1.length - h.length) (x_S h1 - x_S h) (F0 m pc ls (x_st ad Z.2.2.2.1 (av.reverse ++ xS (2 * i + 1) :: st))) (x_st ad Z.2.2.2.1 st) (x_Qc Z ad h r h1 (x_st ad Z.2.2.2.1 (xS (2 * i + 1) :: av)).toArray) (x_A Z) := by
      rcases hl with hl | ⟨host, hl⟩
      · exact va_runV ⟨fx.1, fx.2.1, fx.2.2.1, fx.2.2.2.1, fx.2.2.2.2.1⟩ (hM ad) ⟨⟨rfl, rfl, pf, pl, pw, List.mem_cons_self, fx.2.2.2.2.1 _ hm.1, fx.2.2.2.2.1 _ hm.2.1, ⟨hm.2.2.1.1, hm.2.2.1.2.1⟩, fun sig hsig => by have := hm.2.2.1.2.2; rw [hsig] at this; exact (Option.some.inj this).symm, fx.2.2.2.2.1 _ hl⟩, fx.2.2.2.2.1 _ hv.1, fx.2.2.2.2.1 _ hv.2⟩ pre rfl hlen hl1.1 hstk hroom hd ⟨hc1, hs1⟩
      · exact va_runVN ⟨fx.1, fx.2.1, fx.2.2.1, fx.2.2.2.1, fx.2.2.2.2.1⟩ (hM ad) ⟨⟨⟨rfl, rfl, pf, pl, pw, List.mem_cons_self⟩, fx.2.2.2.2.1 _ hm.1, fx.2.2.2.2.1 _ hm.2.1, ⟨hm.2.2.1.1, hm.2.2.1.2.1⟩, fun sig hsig => by have := hm.2.2.1.2.2; rw [hsig] at this; exact (Option.some.inj this).symm, va_Nw.use rfl (fx.2.2.2.2.2.1.2.2.1 _ hl)⟩, fx.2.2.2.2.1 _ hv.1, fx.2.2.2.2.1 _ hv.2⟩ pre rfl hlen hl1.1 hstk hroom hd ⟨hc1, hs1⟩
    refine x_va_call go hS (fun ad2 H2 locs2 hag hp2 hS2 => ?_)
    rw [← x_st_eq hag (x_okS_tl (x_okS_app o2).2), x_st_opt]
    exact kk ad2 H2 locs2 ls hag hp2 hS2 (by rw [x_ls_eq hag o1]; exact hl1)
end XVS
