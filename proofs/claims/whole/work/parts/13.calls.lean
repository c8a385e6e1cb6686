/-! contracts of the pure machine, and calls -/
def x_rm (d mc ms : Nat) : Room := { frames := d, cells := mc, slots := ms, locals := 64 * d }
def x_ws (Y : xY) : List Cond := Cond.code Y.1 Y.2.1 Y.2.2.1 Y.2.2.2 :: x_tbl
def x_Pc (Z : xZ) (ad : Nat → Nat) (av : List xV) (h : xH) : Array Value → State → Prop := va_Pc (x_st ad Z.2.2.2.1 av) (fun U => x_G Z U ∧ x_hp Z ad h U.heap)
def x_Qc (Z : xZ) (ad : Nat → Nat) (h : xH) (r : Option xV) (h2 : xH) : Array Value → State → Outcome → State → Prop := fun _ st o t => (∃ ad2 : Nat → Nat, (∀ i, i < h.length → ad2 i = ad i) ∧ o = .returned (r.map (x_v ad2 Z.2.2.2.1)) ∧ x_hp Z ad2 h2 t.heap) ∧ va_F (x_A Z) st t
/-- the method Y, called with av on the heap h, answers r and leaves the heap h2 -/
def xM (Z : xZ) (d : Nat) (Y : xY) (av : List xV) (h : xH) (r : Option xV) (h2 : xH) : Prop :=
  h.length ≤ h2.length ∧ x_S h ≤ x_S h2 ∧ x_okH h2 ∧ x_okR h2.length r ∧ ∀ ad : Nat → Nat, Met Z.1 Y.1 (x_ws Y) (x_rm d (h2.length - h.length) (x_S h2 - x_S h)) (x_Pc Z ad av h) (x_Qc Z ad h r h2) (h2.length - h.length) (x_S h2 - x_S h) (x_A Z)
def xMet (Z : xZ) (d : Nat) (Y : xY) (av : List xV) (h : xH) (Q : Option xV → xH → Prop) : Prop := x_okS h.length av → x_okH h → ∃ r h2, Q r h2 ∧ xM Z d Y av h r h2
theorem xMet_post {Z : xZ} {d : Nat} {Y : xY} {av : List xV} {h : xH} {Q Q1 : Option xV → xH → Prop} (hq : ∀ r h2, Q1 r h2 → Q r h2) (k : xMet Z d Y av h Q1) : xMet Z d Y av h Q := by
  intro a b
  obtain ⟨r, h2, a, b⟩ := k a b
  exact ⟨r, h2, hq r h2 a, b⟩
/-- the locals at a method's begin -/
def x_args : Nat → List xV → xL
  | _, [] => []
  | i, v :: vs => (i, v) :: x_args (if x_cat v = 2 then i + 2 else i + 1) vs
theorem x_args_ls (ad sa : Nat → Nat) : ∀ (av : List xV) (i : Nat), x_ls ad sa (x_args i av) = lv_args i (x_st ad sa av)
  | [], _ => rfl
  | v :: vs, i => by
    show (i, x_v ad sa v) :: x_ls ad sa (x_args _ vs) = (i, x_v ad sa v) :: lv_args _ (x_st ad sa vs)
    rw [x_args_ls ad sa vs, x_v_cat]
theorem x_args_ok {n : Nat} : ∀ (av : List xV) (i : Nat), x_okS n av → x_okL n (x_args i av)
  | [], _, _ => fun q hq => by cases hq
  | v :: vs, i, h => fun q hq => by
    rcases List.mem_cons.mp hq with rfl | hq
    · exact x_okS_hd h
    · exact x_args_ok vs _ (x_okS_tl h) q hq
def x_rok (ret : Option FieldType) (r : Option xV) : Prop := match ret, r with
  | none, none => True
  | some ty, some v => x_fit ty v
  | _, _ => False
theorem x_slots_len (ad sa : Nat → Nat) (av : List xV) : (lg_sl (x_st ad sa av)).length = (av.map x_cat).sum := by
  induction av with
  | nil => rfl
  | cons v av ih =>
    rw [x_st_cons, List.map_cons, List.sum_cons, ← ih, ← x_v_cat ad sa v]
    generalize x_v ad sa v = w
    cases w <;> simp [lg_sl, Value.category] <;> omega
/-- a contract out of a walk of the body -/
theorem xMet_of {Z : xZ} {d : Nat} {Y : xY} {av : List xV} {h : xH} {Q : Option xV → xH → Prop} (hy : plainName Y.1.cls = true) (hn : (av.map x_cat).sum ≤ Y.2.2.1) (hr : ∀ r h2, Q r h2 → x_rok Y.2.2.2 r) (k : xW Z d Y 0 (x_args 0 av) [] h Q) : xMet Z d Y av h Q := by
  intro o1 o2
  obtain ⟨r, h2, hq, k1, k2, k3, k4, k⟩ := k (x_args_ok av 0 o1) x_okS_nil o2
  refine ⟨r, h2, hq, k1, k2, k3, k4, fun ad => ?_⟩
  refine Met.ofW (cc := Y.2.1) (maxL := Y.2.2.1) (ret := Y.2.2.2) hy rfl ?_
  intro p e s m args below meth c s₁ B hml hv
  obtain ⟨rfl, hG, hp⟩ := hv
  have hx := B.exec
  have hts : ∀ w ∈ x_ws Y, w.before (x_st ad Z.2.2.2.1 av).toArray s = true := atoms_spec (ws := x_ws Y) B.pre
  have hown : s.vm.findClass Y.1.cls = some m.cls := findClass_of_methodNamed B.named
  have hlocks := B.notSynchronized
  have hin : meth.name = Y.1.name := (name_of_methodNamed B.named B.method).1
  have hl := lv_entry (x_st ad Z.2.2.2.1 av) (n := Y.2.2.1) (by rw [x_slots_len]; exact hn)
  rw [← x_args_ls] at hl
  rw [lg_entry_eq]
  generalize (lg_sl (x_st ad Z.2.2.2.1 av) ++ List.replicate (Y.2.2.1 - (lg_sl (x_st ad Z.2.2.2.1 av)).length) Slot.unset).toArray = ls at hl ⊢
  have fx : x_fx Z d Y p (headSpec (x_ws Y) (x_rm d (h2.length - h.length) (x_S h2 - x_S h))).room s m (x_st ad Z.2.2.2.1 av).toArray meth c :=
    ⟨hx, B.bytes, hml, hown, fun w hw => hts w (List.mem_cons_of_mem _ hw), hG, Nat.le_refl _, Nat.le_refl _, fun q => hin.trans q, hp.2.2.2.1⟩
  refine k p e _ s m _ below meth c s.heap [] 0 0 _ ad ls fx hp va_S.rf (by rw [Nat.zero_add]; exact Nat.le_refl _) (by rw [Nat.zero_add]; exact Nat.le_refl _) hl (fun ad2 H2 locs2 pc2 ls2 hag hp2 hS2 hret => ?_)
  rw [Nat.zero_add, Nat.zero_add]
  have hR := B.returns
  have hrk := hr r h2 hq
  have key : ∀ t : State, t.heap = H2 → s.WarmedH t.vm → x_Qc Z ad h r h2 (x_st ad Z.2.2.2.1 av).toArray s (.returned (r.map (x_v ad2 Z.2.2.2.1))) t := fun t ht _ => ⟨⟨ad2, hag, rfl, by rw [ht]; exact hp2⟩, hS2.F ht⟩
  cases r with
  | none =>
    cases hq2 : Y.2.2.2 with
    | some ty => rw [hq2] at hrk; exact hrk.elim
    | none =>
      rw [hq2] at hR
      exact W.vret hx B.bytes hR key hS2.2.2 hret hlocks
  | some v =>
    cases hq2 : Y.2.2.2 with
    | none => rw [hq2] at hrk; exact hrk.elim
    | some ty =>
      rw [hq2] at hR hrk
      have hfit : x_fit ty v := hrk
      obtain x | x | j := v
      · exact W.zret hx B.bytes hR (x_fit_ok hfit ad2 Z.2.2.2.1).1 key hS2.2.2 hret hlocks
      · have ht : ty = .long := by cases ty <;> first | rfl | exact hfit.elim
        subst ht
        exact W.lret hx B.bytes hR key hS2.2.2 hret hlocks
      · have ht : (∃ n, ty = .object n) ∨ ∃ t, ty = .array t := by
          obtain (_ | i) | i := j <;> cases ty <;> first | exact Or.inl ⟨_, rfl⟩ | exact Or.inr ⟨_, rfl⟩ | exact hfit.elim
        refine W.aret hx B.bytes hR ht ?_ key hS2.2.2 hret hlocks
        obtain (_ | i) | i := j
        · exact Or.inl rfl
        · exact Or.inr ⟨_, rfl⟩
        · exact Or.inr ⟨_, rfl⟩
/-- a method's link, from class own, entry idx -/
def x_ml (own : String) (idx : Nat) (y : MethodName) : Prop := Cond.methodLink own idx y ∈ x_tbl ∨ ∃ host, (own, idx, y, host) ∈ x_nM
/-- what the tables say of a method -/
def x_mi (Y : xY) (n : Nat) : Prop := Cond.code Y.1 Y.2.1 Y.2.2.1 Y.2.2.2 ∈ x_tbl ∧ Cond.initialized Y.1.cls ∈ x_tbl ∧ (Y.1.cls ≠ "java/lang/invoke/MethodHandle" ∧ Y.1.cls ≠ "java/lang/invoke/VarHandle" ∧ (parseMethodDescriptor Y.1.desc).map (fun d => d.parameters.length) = some n) ∧ Y.2.2.1 + 19 ≤ 64
theorem x_goodws {Y : xY} (h : Cond.code Y.1 Y.2.1 Y.2.2.1 Y.2.2.2 ∈ x_tbl) : GoodIn x_tbl (x_ws Y) := by
  intro w hw
  rcases List.mem_cons.mp hw with rfl | hw
  · exact ⟨h, x_good _ h⟩
  · exact ⟨hw, x_good _ hw⟩
theorem x_Pc_blind (Z : xZ) (ad : Nat → Nat) (av : List xV) (h : xH) : FrameBlind (x_Pc Z ad av h) := by
  intro a U g mk q
  obtain ⟨q1, q2, q3⟩ := q
  exact ⟨q1, x_G_same (u := U) (U := U.calling g mk a) rfl q2, q3⟩
section XC
variable {p : Program} {e : Env} {R : Room} {s : State} {m : MethodId} {args : Array Value} {below : List Frame} {meth : Method} {c : Code} {H : Heap} {locs : List Loc} {cells slots : Nat} {Q : State → Prop} {pc mc ms : Nat} {ls : Array Slot} {st0 rest : List Value} {Z : xZ} {ad : Nat → Nat} {h h2 : xH} {r : Option xV} {a : Array Value}
theorem x_va_call (hr : va_Run p Z.1 e R s m args below meth c H locs cells slots mc ms (F0 m pc ls st0) rest (x_Qc Z ad h r h2 a) (x_A Z)) (hS : va_S (x_A Z) s.heap H locs)
    (kk : ∀ (ad2 : Nat → Nat) (H1 : Heap) (locs1 : List Loc), (∀ i, i < h.length → ad2 i = ad i) → x_hp Z ad2 h2 H1 → va_S (x_A Z) s.heap H1 locs1 → W p Z.1 e R s m args below meth c H1 locs1 (cells + mc) (slots + ms) Q (F0 m (pc + 3) ls ((r.map (x_v ad2 Z.2.2.2.1)).toList ++ rest))) : W p Z.1 e R s m args below meth c H locs cells slots Q (F0 m pc ls st0) := by
  intro T hT X
  obtain ⟨v, st₀, t, T', L, h0, X', hL, e1, e2, ⟨⟨ad2, hag, hv, hp2⟩, hz, hk⟩, st⟩ := hr T hT X
  have hv : v = r.map (x_v ad2 Z.2.2.2.1) := by injection hv
  subst hv
  rw [h0] at hz hk
  obtain ⟨t2, a1, b1⟩ := kk ad2 T'.heap (locs ++ L) hag (by rw [e1]; exact hp2)
    ⟨Nat.le_trans hS.1 (by rw [e1]; exact hz), fun q h1 h2 => by rw [e1, hk q (Nat.lt_of_lt_of_le h1 hS.1) h2]; exact hS.2.1 q h1 h2, fun q hq => by
      rcases List.mem_append.mp hq with h | h
      · exact hS.2.2 q h
      · exact hL q h⟩ T' rfl X'
  exact ⟨t2, st t2 a1, b1⟩
end XC
theorem x_st_opt (ad sa : Nat → Nat) (r : Option xV) (st : List xV) : (r.map (x_v ad sa)).toList ++ x_st ad sa st = x_st ad sa (r.toList ++ st) := by cases r <;> rfl
section XD
variable {Z : xZ} {d dc : Nat} {Y Yc : xY} {pc n index : Nat} {l : xL} {st stk av : List xV} {h : xH} {Q P : Option xV → xH → Prop}
theorem x_callB_step {h1 : xH} (hm : x_mi Yc n) {R : Room} {s : State} {args : Array Value} {m : MethodId} {p : Program} {meth : Method} {c : Code} (fx : x_fx Z d Y p R s m args meth c) (hdd : dc + 1 ≤ d) :
    (∀ w ∈ x_ws Yc, ∀ (a' : Array Value) (U : State), s.WarmedH U.vm → w.before a' U = true) ∧ (x_rm dc (h1.length - h.length) (x_S h1 - x_S h)).frames + 1 ≤ R.frames ∧ 8 + (Yc.2.2.1 + 11) + (x_rm dc (h1.length - h.length) (x_S h1 - x_S h)).locals ≤ R.locals := by
  refine ⟨pay_in fx.2.2.2.2.1 (x_goodws hm.1), Nat.le_trans hdd fx.2.2.2.2.2.2.1, ?_⟩
  have h1 := fx.2.2.2.2.2.2.2.1
  have h2 := hm.2.2.2
  show 8 + (Yc.2.2.1 + 11) + 64 * dc ≤ R.locals
  omega
theorem x_invokestatic (hd : decode Y.2.1 pc = .ok (.invokestatic index, 3)) (hl : x_ml Y.1.cls index Yc.1) (hm : x_mi Yc n) (hv : Cond.static Yc.1 ∈ x_tbl) (hn : av.length = n) (hr : (st.map x_cat).sum ≤ 8) (hdd : dc + 1 ≤ d) (hst : av.reverse ++ st = stk) (hM : xMet Z dc Yc av h P) (kk : ∀ r h1, P r h1 → xW Z d Y (pc + 3) l (r.toList ++ st) h1 Q) : xW Z d Y pc l stk h Q := by
  subst hst
  intro o1 o2 o3
  have oa : x_okS h.length av := fun v hv => (x_okS_app o2).1 v (List.mem_reverse.mpr hv)
  obtain ⟨r, h1, hP, m1, m2, m3, m4, hM⟩ := hM oa o3
  refine xW_any (h1 := h1) m1 m2 (fun a b c => ⟨x_okL_mono a m1, fun v hv => ?_, m3⟩) (fun {p e R s m args below meth c H locs cells slots Q ls ad} o1 o2 fx hp hS hc1 hs hl1 kk => ?_) (kk r h1 hP) o1 o2 o3
  · rcases List.mem_append.mp hv with q | q
    · exact m4 v (Option.mem_toList.mp q)
    · exact x_ok_mono ((x_okS_app b).2 v q) m1
  · obtain ⟨pw, pf, pl⟩ := x_callB_step (h := h) (h1 := h1) hm fx hdd
    have pre : PreS s H (x_Pc Z ad av h) (x_st ad Z.2.2.2.1 av) := ⟨x_Pc_blind Z ad av h, fun U hU hW => ⟨rfl, x_G_moved hW fx.2.2.2.2.2.1, by rw [hU]; exact hp⟩⟩
    have hlen : (x_st ad Z.2.2.2.1 av).length = n := by unfold x_st; rw [List.length_map]; exact hn
    have hroom : 2 * (F0 m pc ls (x_st ad Z.2.2.2.1 (av.reverse ++ st))).monitorRoom + ((x_st ad Z.2.2.2.1 st).map fun v => v.category).sum ≤ 8 := lv_room (by rw [x_st_cat]; exact hr)
    have hstk : (F0 m pc ls (x_st ad Z.2.2.2.1 (av.reverse ++ st))).stack = (x_st ad Z.2.2.2.1 av).reverse ++ x_st ad Z.2.2.2.1 st := by
      show x_st ad Z.2.2.2.1 (av.reverse ++ st) = _
      rw [x_st_app, x_st_rev]
    have go : va_Run p Z.1 e R s m args below meth c H locs cells slots (h1.length - h.length) (x_S h1 - x_S h) (F0 m pc ls (x_st ad Z.2.2.2.1 (av.reverse ++ st))) (x_st ad Z.2.2.2.1 st) (x_Qc Z ad h r h1 (x_st ad Z.2.2.2.1 av).toArray) (x_A Z) := by
      rcases hl with hl | ⟨host, hl⟩
      · exact va_runS ⟨fx.1, fx.2.1, fx.2.2.1, fx.2.2.2.1, fx.2.2.2.2.1⟩ (hM ad) ⟨⟨rfl, rfl, pf, pl, pw, List.mem_cons_self, fx.2.2.2.2.1 _ hm.1, fx.2.2.2.2.1 _ hm.2.1, ⟨hm.2.2.1.1, hm.2.2.1.2.1⟩, fun sig hsig => by have := hm.2.2.1.2.2; rw [hsig] at this; exact (Option.some.inj this).symm, fx.2.2.2.2.1 _ hl⟩, fx.2.2.2.2.1 _ hv⟩ pre rfl hlen hl1.1 hstk hroom hd ⟨hc1, hs⟩
      · exact va_runSN ⟨fx.1, fx.2.1, fx.2.2.1, fx.2.2.2.1, fx.2.2.2.2.1⟩ (hM ad) ⟨⟨⟨rfl, rfl, pf, pl, pw, List.mem_cons_self⟩, fx.2.2.2.2.1 _ hm.1, fx.2.2.2.2.1 _ hm.2.1, ⟨hm.2.2.1.1, hm.2.2.1.2.1⟩, fun sig hsig => by have := hm.2.2.1.2.2; rw [hsig] at this; exact (Option.some.inj this).symm, va_Nw.use rfl (fx.2.2.2.2.2.1.2.2.1 _ hl)⟩, fx.2.2.2.2.1 _ hv, trivial⟩ pre rfl hlen hl1.1 hstk hroom hd ⟨hc1, hs⟩
    refine x_va_call go hS (fun ad2 H2 locs2 hag hp2 hS2 => ?_)
    rw [← x_st_eq hag (x_okS_app o2).2, x_st_opt]
    exact kk ad2 H2 locs2 ls hag hp2 hS2 (by rw [x_ls_eq hag o1]; exact hl1)
theorem x_invokevirtual {ci a : Nat} {fs : List xV} (hd : decode Y.2.1 pc = .ok (.invokevirtual index, 3)) (hl : x_ml Y.1.cls index Yc.1) (hm : x_mi Yc n) (hv : Cond.instanceMethod Yc.1 ∈ x_tbl ∧ Cond.selects Yc.1.cls Yc.1 Yc.1 ∈ x_tbl) (hci : ∃ T N, x_cl[ci]? = some (Yc.1.cls, T, N)) (hc : h[a]? = some (xB ci fs)) (hn : av.length = n) (hr : (st.map x_cat).sum ≤ 8) (hdd : dc + 1 ≤ d) (hst : av.reverse ++ xC a :: st = stk) (hM : xMet Z dc Yc (xC a :: av) h P) (kk : ∀ r h1, P r h1 → xW Z d Y (pc + 3) l (r.toList ++ st) h1 Q) : xW Z d Y pc l stk h Q := by
  subst hst
  intro o1 o2 o3
  have oa : x_okS h.length (xC a :: av) := x_okS_cons (x_okS_hd (x_okS_app o2).2) (fun v hv => (x_okS_app o2).1 v (List.mem_reverse.mpr hv))
  obtain ⟨r, h1, hP, m1, m2, m3, m4, hM⟩ := hM oa o3
  refine xW_any (h1 := h1) m1 m2 (fun a b c => ⟨x_okL_mono a m1, fun v hv => ?_, m3⟩) (fun {p e R s m args below meth c H locs cells slots Q ls ad} o1 o2 fx hp hS hc1 hs hl1 kk => ?_) (kk r h1 hP) o1 o2 o3
  · rcases List.mem_append.mp hv with q | q
    · exact m4 v (Option.mem_toList.mp q)
    · exact x_ok_mono (x_okS_tl (x_okS_app b).2 v q) m1
  · obtain ⟨pw, pf, pl⟩ := x_callB_step (h := h) (h1 := h1) hm fx hdd
    obtain ⟨T, N, hcl⟩ := hci
    have pre : PreV s H Yc.1.cls (ad a) (x_Pc Z ad (xC a :: av) h) (x_st ad Z.2.2.2.1 av) := ⟨x_Pc_blind Z ad (xC a :: av) h, va_recv fx.2.2.2.2.2.1.1 hp.2.1 hcl (x_w_at hc), fun U hU hW => ⟨rfl, x_G_moved hW fx.2.2.2.2.2.1, by rw [hU]; exact hp⟩⟩
    have hlen : (x_st ad Z.2.2.2.1 av).length = n := by unfold x_st; rw [List.length_map]; exact hn
    have hroom : 2 * (F0 m pc ls (x_st ad Z.2.2.2.1 (av.reverse ++ xC a :: st))).monitorRoom + ((x_st ad Z.2.2.2.1 st).map fun v => v.category).sum ≤ 8 := lv_room (by rw [x_st_cat]; exact hr)
    have hstk : (F0 m pc ls (x_st ad Z.2.2.2.1 (av.reverse ++ xC a :: st))).stack = (x_st ad Z.2.2.2.1 av).reverse ++ .ref (ad a) :: x_st ad Z.2.2.2.1 st := by
      show x_st ad Z.2.2.2.1 (av.reverse ++ xC a :: st) = _
      rw [x_st_app, x_st_rev]
      rfl
    have go : va_Run p Z.1 e R s m args below meth c H locs cells slots (h1.length - h.length) (x_S h1 - x_S h) (F0 m pc ls (x_st ad Z.2.2.2.1 (av.reverse ++ xC a :: st))) (x_st ad Z.2.2.2.1 st) (x_Qc Z ad h r h1 (x_st ad Z.2.2.2.1 (xC a :: av)).toArray) (x_A Z) := by
      rcases hl with hl | ⟨host, hl⟩
      · exact va_runV ⟨fx.1, fx.2.1, fx.2.2.1, fx.2.2.2.1, fx.2.2.2.2.1⟩ (hM ad) ⟨⟨rfl, rfl, pf, pl, pw, List.mem_cons_self, fx.2.2.2.2.1 _ hm.1, fx.2.2.2.2.1 _ hm.2.1, ⟨hm.2.2.1.1, hm.2.2.1.2.1⟩, fun sig hsig => by have := hm.2.2.1.2.2; rw [hsig] at this; exact (Option.some.inj this).symm, fx.2.2.2.2.1 _ hl⟩, fx.2.2.2.2.1 _ hv.1, fx.2.2.2.2.1 _ hv.2⟩ pre rfl hlen hl1.1 hstk hroom hd ⟨hc1, hs⟩
      · exact va_runVN ⟨fx.1, fx.2.1, fx.2.2.1, fx.2.2.2.1, fx.2.2.2.2.1⟩ (hM ad) ⟨⟨⟨rfl, rfl, pf, pl, pw, List.mem_cons_self⟩, fx.2.2.2.2.1 _ hm.1, fx.2.2.2.2.1 _ hm.2.1, ⟨hm.2.2.1.1, hm.2.2.1.2.1⟩, fun sig hsig => by have := hm.2.2.1.2.2; rw [hsig] at this; exact (Option.some.inj this).symm, va_Nw.use rfl (fx.2.2.2.2.2.1.2.2.1 _ hl)⟩, fx.2.2.2.2.1 _ hv.1, fx.2.2.2.2.1 _ hv.2⟩ pre rfl hlen hl1.1 hstk hroom hd ⟨hc1, hs⟩
    refine x_va_call go hS (fun ad2 H2 locs2 hag hp2 hS2 => ?_)
    rw [← x_st_eq hag (x_okS_tl (x_okS_app o2).2), x_st_opt]
    exact kk ad2 H2 locs2 ls hag hp2 hS2 (by rw [x_ls_eq hag o1]; exact hl1)
theorem x_invokespecial {a : Nat} (hd : decode Y.2.1 pc = .ok (.invokespecial index, 3)) (hl : x_ml Y.1.cls index Yc.1) (hm : x_mi Yc n) (hret : Yc.2.2.2 = none) (hv : Yc.1.name = "<init>" ∧ Cond.instanceMethod Yc.1 ∈ x_tbl) (hn : av.length = n) (hr : (st.map x_cat).sum ≤ 8) (hdd : dc + 1 ≤ d) (hst : av.reverse ++ xC a :: st = stk) (hM : xMet Z dc Yc (xC a :: av) h P) (kk : ∀ r h1, P r h1 → xW Z d Y (pc + 3) l (r.toList ++ st) h1 Q) : xW Z d Y pc l stk h Q := by
  subst hst
  obtain ⟨y, bb, mx, rt⟩ := Yc
  have hret : rt = none := hret
  subst hret
  intro o1 o2 o3
  have oa : x_okS h.length (xC a :: av) := x_okS_cons (x_okS_hd (x_okS_app o2).2) (fun v hv => (x_okS_app o2).1 v (List.mem_reverse.mpr hv))
  obtain ⟨r, h1, hP, m1, m2, m3, m4, hM⟩ := hM oa o3
  refine xW_any (h1 := h1) m1 m2 (fun a b c => ⟨x_okL_mono a m1, fun v hv => ?_, m3⟩) (fun {p e R s m args below meth c H locs cells slots Q ls ad} o1 o2 fx hp hS hc1 hs hl1 kk => ?_) (kk r h1 hP) o1 o2 o3
  · rcases List.mem_append.mp hv with q | q
    · exact m4 v (Option.mem_toList.mp q)
    · exact x_ok_mono (x_okS_tl (x_okS_app b).2 v q) m1
  · obtain ⟨pw, pf, pl⟩ := x_callB_step (h := h) (h1 := h1) hm fx hdd
    have pre : PreS s H (x_Pc Z ad (xC a :: av) h) (.ref (ad a) :: x_st ad Z.2.2.2.1 av) := ⟨x_Pc_blind Z ad (xC a :: av) h, fun U hU hW => ⟨rfl, x_G_moved hW fx.2.2.2.2.2.1, by rw [hU]; exact hp⟩⟩
    have hlen : (x_st ad Z.2.2.2.1 av).length = n := by unfold x_st; rw [List.length_map]; exact hn
    have hroom : 2 * (F0 m pc ls (x_st ad Z.2.2.2.1 (av.reverse ++ xC a :: st))).monitorRoom + ((x_st ad Z.2.2.2.1 st).map fun v => v.category).sum ≤ 8 := lv_room (by rw [x_st_cat]; exact hr)
    have hstk : (F0 m pc ls (x_st ad Z.2.2.2.1 (av.reverse ++ xC a :: st))).stack = (x_st ad Z.2.2.2.1 av).reverse ++ .ref (ad a) :: x_st ad Z.2.2.2.1 st := by
      show x_st ad Z.2.2.2.1 (av.reverse ++ xC a :: st) = _
      rw [x_st_app, x_st_rev]
      rfl
    have go : va_Run p Z.1 e R s m args below meth c H locs cells slots (h1.length - h.length) (x_S h1 - x_S h) (F0 m pc ls (x_st ad Z.2.2.2.1 (av.reverse ++ xC a :: st))) (x_st ad Z.2.2.2.1 st) (x_Qc Z ad h r h1 (x_st ad Z.2.2.2.1 (xC a :: av)).toArray) (x_A Z) := by
      rcases hl with hl | ⟨host, hl⟩
      · exact va_runI ⟨fx.1, fx.2.1, fx.2.2.1, fx.2.2.2.1, fx.2.2.2.2.1⟩ (hM ad) ⟨⟨rfl, rfl, pf, pl, pw, List.mem_cons_self, fx.2.2.2.2.1 _ hm.1, fx.2.2.2.2.1 _ hm.2.1, ⟨hm.2.2.1.1, hm.2.2.1.2.1⟩, fun sig hsig => by have := hm.2.2.1.2.2; rw [hsig] at this; exact (Option.some.inj this).symm, fx.2.2.2.2.1 _ hl⟩, hv.1, fx.2.2.2.2.1 _ hv.2⟩ pre rfl hlen hl1.1 hstk hroom hd ⟨hc1, hs⟩
      · exact va_runIN ⟨fx.1, fx.2.1, fx.2.2.1, fx.2.2.2.1, fx.2.2.2.2.1⟩ (hM ad) ⟨⟨⟨rfl, rfl, pf, pl, pw, List.mem_cons_self⟩, fx.2.2.2.2.1 _ hm.1, fx.2.2.2.2.1 _ hm.2.1, ⟨hm.2.2.1.1, hm.2.2.1.2.1⟩, fun sig hsig => by have := hm.2.2.1.2.2; rw [hsig] at this; exact (Option.some.inj this).symm, va_Nw.use rfl (fx.2.2.2.2.2.1.2.2.1 _ hl)⟩, hv.1, fx.2.2.2.2.1 _ hv.2⟩ pre rfl hlen hl1.1 hstk hroom hd ⟨hc1, hs⟩
    refine x_va_call go hS (fun ad2 H2 locs2 hag hp2 hS2 => ?_)
    rw [← x_st_eq hag (x_okS_tl (x_okS_app o2).2), x_st_opt]
    exact kk ad2 H2 locs2 ls hag hp2 hS2 (by rw [x_ls_eq hag o1]; exact hl1)
/-- Object.<init> -/
theorem x_objInit {a : Nat} (hd : decode Y.2.1 pc = .ok (.invokespecial index, 3)) (hl : Cond.methodLink Y.1.cls index Lib.objectInit ∈ x_tbl) (ho : Cond.instanceMethod Lib.objectInit ∈ x_tbl ∧ Cond.code Lib.objectInit ⟨#[0xb1]⟩ 1 none ∈ x_tbl) (hr : (st.map x_cat).sum ≤ 8) (hdd : 1 ≤ d) (kk : xW Z d Y (pc + 3) l st h Q) : xW Z d Y pc l (xC a :: st) h Q := by
  refine xW_any (h1 := h) (Nat.le_refl _) (Nat.le_refl _) (fun a b c => ⟨a, x_okS_tl b, c⟩) (fun {p e R s m args below meth c H locs cells slots Q ls ad} o1 o2 fx hp hS hc1 hs hl1 kk => ?_) kk
  rw [Nat.sub_self, Nat.sub_self] at kk
  have kk := kk ad H locs ls (fun _ _ => rfl) hp hS hl1
  have h1 := fx.2.2.2.2.2.2.1
  have h2 := fx.2.2.2.2.2.2.2.1
  refine W.objInit fx.1 fx.2.1 fx.2.2.2.1 (fx.2.2.2.2.1 _ hl) (fx.2.2.2.2.1 _ ho.1) (fx.2.2.2.2.1 _ ho.2) rfl (hl1.1.trans fx.2.2.1.symm) rfl hd (by omega) ?_ kk
  have h3 : 2 * (F0 m pc ls (x_st ad Z.2.2.2.1 (xC a :: st))).monitorRoom + ((x_st ad Z.2.2.2.1 st).map fun v => v.category).sum ≤ 8 := lv_room (by rw [x_st_cat]; exact hr)
  exact Nat.le_trans (Nat.add_le_add_right h3 12) (by omega)
end XD
