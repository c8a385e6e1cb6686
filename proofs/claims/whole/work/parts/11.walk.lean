/-! THE WALK of the pure machine: from a place of a method to its return, with the heap. Z: the launch, the classes' numbers and slots, the array classes, the old addresses, the base (cells below it are old), the heap as it was below the base. Y: a method's name, code, number of locals, type of answer. -/
/-- the heap h stands at the addresses ad -/
def x_hp (Z : xZ) (ad : Nat → Nat) (h : xH) (H : Heap) : Prop :=
  x_okH h ∧ va_P Z.2.1 x_cl (x_w ad Z.2.2.2.1 Z.2.2.1 h) H ∧ va_D (x_A Z) (x_w ad Z.2.2.2.1 Z.2.2.1 h) ∧ Z.2.2.2.2.1 ≤ H.size ∧ ∀ q : Nat, q < Z.2.2.2.2.1 → H[q]? = Z.2.2.2.2.2.1[q]?
/-- what stays as it is in a walk -/
def x_fx (Z : xZ) (d : Nat) (Y : xY) (p : Program) (R : Room) (s : State) (m : MethodId) (args : Array Value) (meth : Method) (c : Code) : Prop :=
  p.tables.exec = Jvm.exec ∧ c.code = Y.2.1 ∧ c.maxLocals = Y.2.2.1 ∧ s.vm.findClass Y.1.cls = some m.cls ∧ (∀ w ∈ x_tbl, w.before args s = true) ∧ x_G Z s ∧ d ≤ R.frames ∧ 64 * d ≤ R.locals ∧ (Y.1.name = "<init>" → meth.name = "<init>") ∧ Z.2.2.2.2.1 ≤ s.heap.size
/-- the instruction of a return with this answer -/
def x_isret (cc : ByteArray) (pc : Nat) (r : Option xV) : Prop := match r with
  | none => decode cc pc = .ok (.return_, 1)
  | some (.inl _) => decode cc pc = .ok (.ireturn, 1)
  | some (.inr (.inl _)) => decode cc pc = .ok (.lreturn, 1)
  | some (.inr (.inr _)) => decode cc pc = .ok (.areturn, 1)
def x_okR (n : Nat) (r : Option xV) : Prop := ∀ v, r = some v → x_ok n v
/-- from here it comes to its return, with the answer r and the heap h2 -/
def xR (Z : xZ) (d : Nat) (Y : xY) (pc : Nat) (l : xL) (st : List xV) (h : xH) (r : Option xV) (h2 : xH) : Prop :=
  h.length ≤ h2.length ∧ x_S h ≤ x_S h2 ∧ x_okH h2 ∧ x_okR h2.length r ∧
  ∀ (p : Program) (e : Env) (R : Room) (s : State) (m : MethodId) (args : Array Value) (below : List Frame) (meth : Method) (c : Code) (H : Heap) (locs : List Loc) (cells slots : Nat) (Q : State → Prop) (ad : Nat → Nat) (ls : Array Slot),
    x_fx Z d Y p R s m args meth c → x_hp Z ad h H → va_S (x_A Z) s.heap H locs → cells + (h2.length - h.length) ≤ R.cells → slots + (x_S h2 - x_S h) ≤ R.slots →
    lv_has ls Y.2.2.1 (x_ls ad Z.2.2.2.1 l) →
    (∀ (ad2 : Nat → Nat) (H2 : Heap) (locs2 : List Loc) (pc2 : Nat) (ls2 : Array Slot), (∀ i, i < h.length → ad2 i = ad i) → x_hp Z ad2 h2 H2 → va_S (x_A Z) s.heap H2 locs2 → x_isret Y.2.1 pc2 r →
      W p Z.1 e R s m args below meth c H2 locs2 (cells + (h2.length - h.length)) (slots + (x_S h2 - x_S h)) Q (F0 m pc2 ls2 (x_st ad2 Z.2.2.2.1 r.toList))) →
    W p Z.1 e R s m args below meth c H locs cells slots Q (F0 m pc ls (x_st ad Z.2.2.2.1 st))
def xW (Z : xZ) (d : Nat) (Y : xY) (pc : Nat) (l : xL) (st : List xV) (h : xH) (Q : Option xV → xH → Prop) : Prop := x_okL h.length l → x_okS h.length st → x_okH h → ∃ r h2, Q r h2 ∧ xR Z d Y pc l st h r h2
section XG
variable {Z : xZ} {d : Nat} {Y : xY} {pc pc1 : Nat} {l l1 : xL} {st st1 : List xV} {h h1 : xH} {Q : Option xV → xH → Prop}
/-- a step, of any kind -/
theorem xW_any (hlen : h.length ≤ h1.length) (hsum : x_S h ≤ x_S h1) (hok : x_okL h.length l → x_okS h.length st → x_okH h → x_okL h1.length l1 ∧ x_okS h1.length st1 ∧ x_okH h1)
    (step : ∀ {p : Program} {e : Env} {R : Room} {s : State} {m : MethodId} {args : Array Value} {below : List Frame} {meth : Method} {c : Code} {H : Heap} {locs : List Loc} {cells slots : Nat} {Q : State → Prop} {ls : Array Slot} {ad : Nat → Nat}, x_okL h.length l → x_okS h.length st → x_fx Z d Y p R s m args meth c → x_hp Z ad h H → va_S (x_A Z) s.heap H locs → cells + (h1.length - h.length) ≤ R.cells → slots + (x_S h1 - x_S h) ≤ R.slots → lv_has ls Y.2.2.1 (x_ls ad Z.2.2.2.1 l) →
      (∀ (ad1 : Nat → Nat) (H1 : Heap) (locs1 : List Loc) (ls1 : Array Slot), (∀ i, i < h.length → ad1 i = ad i) → x_hp Z ad1 h1 H1 → va_S (x_A Z) s.heap H1 locs1 → lv_has ls1 Y.2.2.1 (x_ls ad1 Z.2.2.2.1 l1) → W p Z.1 e R s m args below meth c H1 locs1 (cells + (h1.length - h.length)) (slots + (x_S h1 - x_S h)) Q (F0 m pc1 ls1 (x_st ad1 Z.2.2.2.1 st1))) →
      W p Z.1 e R s m args below meth c H locs cells slots Q (F0 m pc ls (x_st ad Z.2.2.2.1 st)))
    (k : xW Z d Y pc1 l1 st1 h1 Q) : xW Z d Y pc l st h Q := by
  intro o1 o2 o3
  obtain ⟨p1, p2, p3⟩ := hok o1 o2 o3
  obtain ⟨r, h2, hq, k1, k2, k3, k4, k⟩ := k p1 p2 p3
  refine ⟨r, h2, hq, Nat.le_trans hlen k1, Nat.le_trans hsum k2, k3, k4, fun p e R s m args below meth c H locs cells slots Q ad ls fx hp hS hc hs hl hk => ?_⟩
  refine step o1 o2 fx hp hS (by omega) (by omega) hl (fun ad1 H1 locs1 ls1 hag hp1 hS1 hl1 => ?_)
  refine k p e R s m args below meth c H1 locs1 _ _ Q ad1 ls1 fx hp1 hS1 (by omega) (by omega) hl1 (fun ad2 H2 locs2 pc2 ls2 hag2 hp2 hS2 hr => ?_)
  have e1 : cells + (h1.length - h.length) + (h2.length - h1.length) = cells + (h2.length - h.length) := by omega
  have e2 : slots + (x_S h1 - x_S h) + (x_S h2 - x_S h1) = slots + (x_S h2 - x_S h) := by omega
  rw [e1, e2]
  exact hk ad2 H2 locs2 pc2 ls2 (fun i hi => (hag2 i (Nat.lt_of_lt_of_le hi hlen)).trans (hag i hi)) hp2 hS2 hr
/-- one step that leaves the heap as it is -/
theorem xW_sto (hok : x_okL h.length l → x_okS h.length st → x_okL h.length l1 ∧ x_okS h.length st1)
    (step : ∀ {p : Program} {l0 : Launch} {e : Env} {R : Room} {s : State} {m : MethodId} {args : Array Value} {below : List Frame} {meth : Method} {c : Code} {H : Heap} {locs : List Loc} {cells slots : Nat} {Q : State → Prop} {ls : Array Slot} {ad sa : Nat → Nat}, p.tables.exec = Jvm.exec → c.code = Y.2.1 → s.vm.findClass Y.1.cls = some m.cls → (∀ w ∈ x_tbl, w.before args s = true) → x_okS h.length st → lv_has ls Y.2.2.1 (x_ls ad sa l) →
      (∀ ls1 : Array Slot, lv_has ls1 Y.2.2.1 (x_ls ad sa l1) → W p l0 e R s m args below meth c H locs cells slots Q (F0 m pc1 ls1 (x_st ad sa st1))) → W p l0 e R s m args below meth c H locs cells slots Q (F0 m pc ls (x_st ad sa st)))
    (k : xW Z d Y pc1 l1 st1 h Q) : xW Z d Y pc l st h Q := by
  refine xW_any (h1 := h) (Nat.le_refl _) (Nat.le_refl _) (fun a b c => ⟨(hok a b).1, (hok a b).2, c⟩) (fun {p e R s m args below meth c H locs cells slots Q ls ad} o1 o2 fx hp hS hc hs hl kk => ?_) k
  rw [Nat.sub_self, Nat.sub_self] at kk
  exact step fx.1 fx.2.1 fx.2.2.2.1 fx.2.2.2.2.1 o2 hl (fun ls1 hl1 => kk ad H locs ls1 (fun _ _ => rfl) hp hS hl1)
theorem xW_one (hok : x_okL h.length l → x_okS h.length st → x_okS h.length st1)
    (step : ∀ {p : Program} {l0 : Launch} {e : Env} {R : Room} {s : State} {m : MethodId} {args : Array Value} {below : List Frame} {meth : Method} {c : Code} {H : Heap} {locs : List Loc} {cells slots : Nat} {Q : State → Prop} {ls : Array Slot} {ad sa : Nat → Nat}, p.tables.exec = Jvm.exec → c.code = Y.2.1 → s.vm.findClass Y.1.cls = some m.cls → (∀ w ∈ x_tbl, w.before args s = true) → x_okS h.length st → lv_has ls Y.2.2.1 (x_ls ad sa l) →
      W p l0 e R s m args below meth c H locs cells slots Q (F0 m pc1 ls (x_st ad sa st1)) → W p l0 e R s m args below meth c H locs cells slots Q (F0 m pc ls (x_st ad sa st)))
    (k : xW Z d Y pc1 l st1 h Q) : xW Z d Y pc l st h Q :=
  xW_sto (fun a b => ⟨a, hok a b⟩) (fun hx hb ho hts hs hl kk => step hx hb ho hts hs hl (kk _ hl)) k
/-- what holds of the locals, the stack and the heap of every walk may be used -/
theorem xW_ok (k : x_okL h.length l → x_okS h.length st → x_okH h → xW Z d Y pc l st h Q) : xW Z d Y pc l st h Q := fun a b c => k a b c a b c
theorem xW_post {Q1 : Option xV → xH → Prop} (hq : ∀ r h2, Q1 r h2 → Q r h2) (k : xW Z d Y pc l st h Q1) : xW Z d Y pc l st h Q := by
  intro a b c
  obtain ⟨r, h2, a, b⟩ := k a b c
  exact ⟨r, h2, hq r h2 a, b⟩
/-- returns -/
theorem x_ret {r : Option xV} (hst : st = r.toList) (hr : x_isret Y.2.1 pc r) (hq : Q r h) : xW Z d Y pc l st h Q := by
  intro o1 o2 o3
  refine ⟨r, h, hq, Nat.le_refl _, Nat.le_refl _, o3, fun v hv => o2 v (by rw [hst, hv]; exact List.mem_cons_self), fun p e R s m args below meth c H locs cells slots Q ad ls fx hp hS hc hs hl hk => ?_⟩
  have := hk ad H locs pc ls (fun _ _ => rfl) hp hS hr
  rw [Nat.sub_self, Nat.sub_self] at this
  rw [hst]
  exact this
theorem x_ireturn {x : Int} (hd : decode Y.2.1 pc = .ok (.ireturn, 1)) (hq : Q (some (xI x)) h) : xW Z d Y pc l [xI x] h Q := x_ret (r := some (xI x)) rfl hd hq
theorem x_lreturn {x : Int} (hd : decode Y.2.1 pc = .ok (.lreturn, 1)) (hq : Q (some (xJ x)) h) : xW Z d Y pc l [xJ x] h Q := x_ret (r := some (xJ x)) rfl hd hq
theorem x_areturn {v : Option Nat ⊕ Nat} (hd : decode Y.2.1 pc = .ok (.areturn, 1)) (hq : Q (some (.inr (.inr v))) h) : xW Z d Y pc l [.inr (.inr v)] h Q := x_ret (r := some (.inr (.inr v))) rfl hd hq
theorem x_return (hd : decode Y.2.1 pc = .ok (.return_, 1)) (hq : Q none h) : xW Z d Y pc l [] h Q := x_ret (r := none) rfl hd hq
end XG
section XP
variable {Z : xZ} {d : Nat} {Y : xY} {pc : Nat} {l l1 : xL} {st : List xV} {h : xH} {Q : Option xV → xH → Prop}
theorem x_iconst {n : Int} (hd : decode Y.2.1 pc = .ok (.iconst n, 1)) (hn : x_i32 n) (k : xW Z d Y (pc + 1) l (xI n :: st) h Q) : xW Z d Y pc l st h Q :=
  xW_one (fun _ hs => x_okS_I hn hs) (fun hx hb _ _ _ _ k => lv_iconst hx hb hd rfl k) k
theorem x_bipush {n : Int} (hd : decode Y.2.1 pc = .ok (.bipush n, 2)) (hn : -128 ≤ n ∧ n ≤ 127) (k : xW Z d Y (pc + 2) l (xI n :: st) h Q) : xW Z d Y pc l st h Q :=
  xW_one (fun _ hs => x_okS_I (show x_i32 n from ⟨by omega, by omega⟩) hs) (fun hx hb _ _ _ _ k => lv_bipush hx hb hd (Int8.toInt32_ofInt hn.1 hn.2) k) k
theorem x_sipush {n : Int} (hd : decode Y.2.1 pc = .ok (.sipush n, 3)) (hn : -32768 ≤ n ∧ n ≤ 32767) (k : xW Z d Y (pc + 3) l (xI n :: st) h Q) : xW Z d Y pc l st h Q :=
  xW_one (fun _ hs => x_okS_I (show x_i32 n from ⟨by omega, by omega⟩) hs) (fun hx hb _ _ _ _ k => lv_sipush hx hb hd (Int16.toInt32_ofInt hn.1 hn.2) k) k
theorem x_ldc {n : Int} {index : Nat} (hd : decode Y.2.1 pc = .ok (.ldc index, 2)) (hw : Cond.constant Y.1.cls index (Int32.ofInt n) ∈ x_tbl) (hn : x_i32 n) (k : xW Z d Y (pc + 2) l (xI n :: st) h Q) : xW Z d Y pc l st h Q :=
  xW_one (fun _ hs => x_okS_I hn hs) (fun hx hb ho hts _ _ k => lv_ldc hx hb ho (hts _ hw) hd k) k
theorem x_ldc2 {n : Int} {index : Nat} (hd : decode Y.2.1 pc = .ok (.ldc2_w index, 3)) (hw : Cond.constantLong Y.1.cls index (Int64.ofInt n) ∈ x_tbl) (hn : x_i64 n) (k : xW Z d Y (pc + 3) l (xJ n :: st) h Q) : xW Z d Y pc l st h Q :=
  xW_one (fun _ hs => x_okS_J hn hs) (fun hx hb ho hts _ _ k => lv_ldc2 hx hb ho (hts _ hw) hd k) k
theorem x_lconst0 (hd : decode Y.2.1 pc = .ok (.lconst 0, 1)) (k : xW Z d Y (pc + 1) l (xJ 0 :: st) h Q) : xW Z d Y pc l st h Q :=
  xW_one (fun _ hs => x_okS_J (show x_i64 0 from ⟨by omega, by omega⟩) hs) (fun hx hb _ _ _ _ k => lv_lconst hx hb hd (by decide +kernel) k) k
theorem x_lconst1 (hd : decode Y.2.1 pc = .ok (.lconst 1, 1)) (k : xW Z d Y (pc + 1) l (xJ 1 :: st) h Q) : xW Z d Y pc l st h Q :=
  xW_one (fun _ hs => x_okS_J (show x_i64 1 from ⟨by omega, by omega⟩) hs) (fun hx hb _ _ _ _ k => lv_lconst hx hb hd (by decide +kernel) k) k
theorem x_null (hd : decode Y.2.1 pc = .ok (.aconst_null, 1)) (k : xW Z d Y (pc + 1) l (xN :: st) h Q) : xW Z d Y pc l st h Q :=
  xW_one (fun _ hs => x_okS_cons (v := xN) trivial hs) (fun hx hb _ _ _ _ k => lv_null hx hb hd k) k
theorem x_iload_n {k : Fin 4} {x : Int} (hd : decode Y.2.1 pc = .ok (.iload_n k, 1)) (hg : x_get l k = some (xI x)) (kk : xW Z d Y (pc + 1) l (xI x :: st) h Q) : xW Z d Y pc l st h Q :=
  xW_one (fun ho hs => x_okS_cons (x_okL_get ho hg) hs) (fun hx hb _ _ _ hl kk => lv_iload_n hx hb hd rfl (x_get_at hl hg) kk) kk
theorem x_iload {i : Nat} {x : Int} (hd : decode Y.2.1 pc = .ok (.iload i, 2)) (hg : x_get l i = some (xI x)) (kk : xW Z d Y (pc + 2) l (xI x :: st) h Q) : xW Z d Y pc l st h Q :=
  xW_one (fun ho hs => x_okS_cons (x_okL_get ho hg) hs) (fun hx hb _ _ _ hl kk => lv_iload hx hb hd (x_get_at hl hg) kk) kk
theorem x_lload_n {k : Fin 4} {x : Int} (hd : decode Y.2.1 pc = .ok (.lload_n k, 1)) (hg : x_get l k = some (xJ x)) (kk : xW Z d Y (pc + 1) l (xJ x :: st) h Q) : xW Z d Y pc l st h Q :=
  xW_one (fun ho hs => x_okS_cons (x_okL_get ho hg) hs) (fun hx hb _ _ _ hl kk => lv_lload_n hx hb hd rfl (x_get_at hl hg) kk) kk
theorem x_lload {i : Nat} {x : Int} (hd : decode Y.2.1 pc = .ok (.lload i, 2)) (hg : x_get l i = some (xJ x)) (kk : xW Z d Y (pc + 2) l (xJ x :: st) h Q) : xW Z d Y pc l st h Q :=
  xW_one (fun ho hs => x_okS_cons (x_okL_get ho hg) hs) (fun hx hb _ _ _ hl kk => lv_lload hx hb hd (x_get_at hl hg) kk) kk
theorem x_aload_n {k : Fin 4} {r : Option Nat ⊕ Nat} (hd : decode Y.2.1 pc = .ok (.aload_n k, 1)) (hg : x_get l k = some (.inr (.inr r))) (kk : xW Z d Y (pc + 1) l (.inr (.inr r) :: st) h Q) : xW Z d Y pc l st h Q :=
  xW_one (fun ho hs => x_okS_cons (x_okL_get ho hg) hs) (fun hx hb _ _ _ hl kk => by
    obtain (_ | i) | j := r
    · exact lv_aload_nN hx hb hd rfl (x_get_at hl hg) kk
    · exact lv_aload_n hx hb hd rfl (x_get_at hl hg) kk
    · exact lv_aload_n hx hb hd rfl (x_get_at hl hg) kk) kk
theorem x_aload {i : Nat} {r : Option Nat ⊕ Nat} (hd : decode Y.2.1 pc = .ok (.aload i, 2)) (hg : x_get l i = some (.inr (.inr r))) (kk : xW Z d Y (pc + 2) l (.inr (.inr r) :: st) h Q) : xW Z d Y pc l st h Q :=
  xW_one (fun ho hs => x_okS_cons (x_okL_get ho hg) hs) (fun hx hb _ _ _ hl kk => by
    obtain (_ | i) | j := r
    · exact lv_aloadN hx hb hd (x_get_at hl hg) kk
    · exact lv_aload hx hb hd (x_get_at hl hg) kk
    · exact lv_aload hx hb hd (x_get_at hl hg) kk) kk
theorem x_istore_n {k : Fin 4} {x : Int} (hd : decode Y.2.1 pc = .ok (.istore_n k, 1)) (hi : (k : Nat) < Y.2.2.1) (hl1 : x_put1 l k (xI x) = l1) (kk : xW Z d Y (pc + 1) l1 st h Q) : xW Z d Y pc l (xI x :: st) h Q := by
  subst hl1
  exact xW_sto (fun ho hs => ⟨x_okL_put1 _ ho (x_okS_hd hs), x_okS_tl hs⟩) (fun hx hb _ _ _ hl kk => lv_istore_n hx hb hd rfl hl hi (x_put1_ls _ _ l k (xI x)) kk) kk
theorem x_istore {i : Nat} {x : Int} (hd : decode Y.2.1 pc = .ok (.istore i, 2)) (hi : i < Y.2.2.1) (hl1 : x_put1 l i (xI x) = l1) (kk : xW Z d Y (pc + 2) l1 st h Q) : xW Z d Y pc l (xI x :: st) h Q := by
  subst hl1
  exact xW_sto (fun ho hs => ⟨x_okL_put1 _ ho (x_okS_hd hs), x_okS_tl hs⟩) (fun hx hb _ _ _ hl kk => lv_istore hx hb hd hl hi (x_put1_ls _ _ l i (xI x)) kk) kk
theorem x_lstore_n {k : Fin 4} {x : Int} (hd : decode Y.2.1 pc = .ok (.lstore_n k, 1)) (hi : (k : Nat) + 1 < Y.2.2.1) (hl1 : x_put2 l k (xJ x) = l1) (kk : xW Z d Y (pc + 1) l1 st h Q) : xW Z d Y pc l (xJ x :: st) h Q := by
  subst hl1
  exact xW_sto (fun ho hs => ⟨x_okL_put2 _ ho (x_okS_hd hs), x_okS_tl hs⟩) (fun hx hb _ _ _ hl kk => lv_lstore_n hx hb hd rfl hl hi (x_put2_ls _ _ l k (xJ x)) kk) kk
theorem x_lstore {i : Nat} {x : Int} (hd : decode Y.2.1 pc = .ok (.lstore i, 2)) (hi : i + 1 < Y.2.2.1) (hl1 : x_put2 l i (xJ x) = l1) (kk : xW Z d Y (pc + 2) l1 st h Q) : xW Z d Y pc l (xJ x :: st) h Q := by
  subst hl1
  exact xW_sto (fun ho hs => ⟨x_okL_put2 _ ho (x_okS_hd hs), x_okS_tl hs⟩) (fun hx hb _ _ _ hl kk => lv_lstore hx hb hd hl hi (x_put2_ls _ _ l i (xJ x)) kk) kk
theorem x_astore_n {k : Fin 4} {r : Option Nat ⊕ Nat} (hd : decode Y.2.1 pc = .ok (.astore_n k, 1)) (hi : (k : Nat) < Y.2.2.1) (hl1 : x_put1 l k (.inr (.inr r)) = l1) (kk : xW Z d Y (pc + 1) l1 st h Q) : xW Z d Y pc l (.inr (.inr r) :: st) h Q := by
  subst hl1
  refine xW_sto (fun ho hs => ⟨x_okL_put1 _ ho (x_okS_hd hs), x_okS_tl hs⟩) (fun hx hb _ _ _ hl kk => ?_) kk
  obtain (_ | i) | j := r
  · exact lv_astore_nN hx hb hd rfl hl hi (x_put1_ls _ _ l k xN) kk
  · exact lv_astore_n hx hb hd rfl hl hi (x_put1_ls _ _ l k (xC i)) kk
  · exact lv_astore_n hx hb hd rfl hl hi (x_put1_ls _ _ l k (xS j)) kk
theorem x_astore {i : Nat} {r : Option Nat ⊕ Nat} (hd : decode Y.2.1 pc = .ok (.astore i, 2)) (hi : i < Y.2.2.1) (hl1 : x_put1 l i (.inr (.inr r)) = l1) (kk : xW Z d Y (pc + 2) l1 st h Q) : xW Z d Y pc l (.inr (.inr r) :: st) h Q := by
  subst hl1
  refine xW_sto (fun ho hs => ⟨x_okL_put1 _ ho (x_okS_hd hs), x_okS_tl hs⟩) (fun hx hb _ _ _ hl kk => ?_) kk
  obtain (_ | j) | j := r
  · exact lv_astoreN hx hb hd hl hi (x_put1_ls _ _ l i xN) kk
  · exact lv_astore hx hb hd hl hi (x_put1_ls _ _ l i (xC j)) kk
  · exact lv_astore hx hb hd hl hi (x_put1_ls _ _ l i (xS j)) kk
theorem x_iinc {i : Nat} {x n : Int} (hd : decode Y.2.1 pc = .ok (.iinc i n, 3)) (hg : x_get l i = some (xI x)) (hr : x_i32 (x + n)) (hi : i < Y.2.2.1) (hl1 : x_put1 l i (xI (x + n)) = l1) (kk : xW Z d Y (pc + 3) l1 st h Q) : xW Z d Y pc l st h Q := by
  subst hl1
  refine xW_sto (fun ho hs => ⟨x_okL_put1 (v := xI (x + n)) _ ho hr, hs⟩) (fun {p l0 e R s m args below meth c H locs cells slots Q ls ad sa} hx hb _ _ _ hl kk => ?_) kk
  obtain ⟨j, hj⟩ := List.mem_iff_getElem?.mp (List.mem_map.mpr ⟨(i, xI x), x_get_mem hg, rfl⟩ : (i, x_v ad sa (xI x)) ∈ x_ls ad sa l)
  exact lv_iinc hx hb hd hl hj (Int32.ofInt_add x n).symm hi (x_put1_ls ad sa l i (xI (x + n))) kk
theorem x_iadd {x y : Int} (hd : decode Y.2.1 pc = .ok (.iadd, 1)) (hr : x_i32 (x + y)) (k : xW Z d Y (pc + 1) l (xI (x + y) :: st) h Q) : xW Z d Y pc l (xI y :: xI x :: st) h Q :=
  xW_one (fun _ hs => x_okS_I hr (x_okS_tl (x_okS_tl hs))) (fun {p l0 e R s m args below meth c H locs cells slots Q ls ad sa} hx hb _ _ _ _ k => lv_iadd hx hb hd (by rw [← Int32.ofInt_add]; exact k)) k
theorem x_isub {x y : Int} (hd : decode Y.2.1 pc = .ok (.isub, 1)) (hr : x_i32 (x - y)) (k : xW Z d Y (pc + 1) l (xI (x - y) :: st) h Q) : xW Z d Y pc l (xI y :: xI x :: st) h Q :=
  xW_one (fun _ hs => x_okS_I hr (x_okS_tl (x_okS_tl hs))) (fun {p l0 e R s m args below meth c H locs cells slots Q ls ad sa} hx hb _ _ _ _ k => lv_isub hx hb hd (by rw [← Int32.ofInt_sub]; exact k)) k
theorem x_imul {x y : Int} (hd : decode Y.2.1 pc = .ok (.imul, 1)) (hr : x_i32 (x * y)) (k : xW Z d Y (pc + 1) l (xI (x * y) :: st) h Q) : xW Z d Y pc l (xI y :: xI x :: st) h Q :=
  xW_one (fun _ hs => x_okS_I hr (x_okS_tl (x_okS_tl hs))) (fun {p l0 e R s m args below meth c H locs cells slots Q ls ad sa} hx hb _ _ _ _ k => lv_imul hx hb hd (by rw [← Int32.ofInt_mul]; exact k)) k
theorem x_ladd {x y : Int} (hd : decode Y.2.1 pc = .ok (.ladd, 1)) (hr : x_i64 (x + y)) (k : xW Z d Y (pc + 1) l (xJ (x + y) :: st) h Q) : xW Z d Y pc l (xJ y :: xJ x :: st) h Q :=
  xW_one (fun _ hs => x_okS_J hr (x_okS_tl (x_okS_tl hs))) (fun {p l0 e R s m args below meth c H locs cells slots Q ls ad sa} hx hb _ _ _ _ k => lv_ladd hx hb hd (by rw [← Int64.ofInt_add]; exact k)) k
theorem x_lsub {x y : Int} (hd : decode Y.2.1 pc = .ok (.lsub, 1)) (hr : x_i64 (x - y)) (k : xW Z d Y (pc + 1) l (xJ (x - y) :: st) h Q) : xW Z d Y pc l (xJ y :: xJ x :: st) h Q :=
  xW_one (fun _ hs => x_okS_J hr (x_okS_tl (x_okS_tl hs))) (fun {p l0 e R s m args below meth c H locs cells slots Q ls ad sa} hx hb _ _ _ _ k => lv_lsub hx hb hd (by rw [← Int64.ofInt_sub]; exact k)) k
theorem x_lmul {x y : Int} (hd : decode Y.2.1 pc = .ok (.lmul, 1)) (hr : x_i64 (x * y)) (k : xW Z d Y (pc + 1) l (xJ (x * y) :: st) h Q) : xW Z d Y pc l (xJ y :: xJ x :: st) h Q :=
  xW_one (fun _ hs => x_okS_J hr (x_okS_tl (x_okS_tl hs))) (fun {p l0 e R s m args below meth c H locs cells slots Q ls ad sa} hx hb _ _ _ _ k => lv_lmul hx hb hd (by rw [← Int64.ofInt_mul]; exact k)) k
theorem x_ineg {x : Int} (hd : decode Y.2.1 pc = .ok (.ineg, 1)) (hr : x_i32 (-x)) (k : xW Z d Y (pc + 1) l (xI (-x) :: st) h Q) : xW Z d Y pc l (xI x :: st) h Q :=
  xW_one (fun _ hs => x_okS_I hr (x_okS_tl hs)) (fun hx hb _ _ _ _ k => lv_ineg hx hb hd (by rw [← Int32.ofInt_neg]; exact k)) k
theorem x_d32 {x y : Int} (hx : x_i32 x) (hy : x_i32 y) (h0 : 0 < y) : Int32.ofInt x / Int32.ofInt y = Int32.ofInt (x.tdiv y) :=
  (Int32.ofInt_tdiv hx.1 (by have := hx.2; show x ≤ 2147483647; omega) hy.1 (by have := hy.2; show y ≤ 2147483647; omega)).symm
theorem x_t32 {x y : Int} (hx : x_i32 x) (h0 : 0 < y) : x_i32 (x.tdiv y) := by
  have h1 : (x.tdiv y).natAbs ≤ x.natAbs := Int.natAbs_tdiv_le_natAbs x y
  obtain ⟨a, b⟩ := hx
  by_cases hn : 0 ≤ x
  · have := Int.tdiv_nonneg hn (Int.le_of_lt h0)
    exact ⟨by omega, by omega⟩
  · exact ⟨by omega, by
      have : x.tdiv y ≤ 0 := by
        have h2 : (-x).tdiv y ≥ 0 := Int.tdiv_nonneg (by omega) (Int.le_of_lt h0)
        rw [Int.neg_tdiv] at h2
        omega
      omega⟩
/-- division of what isn't negative by a positive number -/
theorem x_idiv {x y : Int} (hd : decode Y.2.1 pc = .ok (.idiv, 1)) (h0 : 0 < y) (hp : 0 ≤ x) (k : xW Z d Y (pc + 1) l (xI (x / y) :: st) h Q) : xW Z d Y pc l (xI y :: xI x :: st) h Q :=
  xW_one (fun _ hs => x_okS_I (by have := x_t32 (x_okS_hd (x_okS_tl hs)) h0; rw [Int.tdiv_eq_ediv_of_nonneg hp] at this; exact this) (x_okS_tl (x_okS_tl hs))) (fun hx hb _ _ hs _ k => lv_idiv hx hb hd (fun q => by
      have := (x_i32_eq (x_okS_hd hs) x_i32_0).mp (q.trans x_ofInt_0.symm)
      omega) (by
      rw [x_d32 (x_okS_hd (x_okS_tl hs)) (x_okS_hd hs) h0, Int.tdiv_eq_ediv_of_nonneg hp]
      exact k)) k
theorem x_irem {x y : Int} (hd : decode Y.2.1 pc = .ok (.irem, 1)) (h0 : 0 < y) (hp : 0 ≤ x) (k : xW Z d Y (pc + 1) l (xI (x % y) :: st) h Q) : xW Z d Y pc l (xI y :: xI x :: st) h Q := by
  have e : x - x / y * y = x % y := by rw [Int.emod_def, Int.mul_comm]
  exact xW_one (fun _ hs => x_okS_I (by
      have h1 := Int.emod_nonneg x (b := y) (by omega)
      have h2 := Int.emod_lt_of_pos x h0
      obtain ⟨a, b⟩ := x_okS_hd hs
      exact ⟨by omega, by omega⟩) (x_okS_tl (x_okS_tl hs))) (fun hx hb _ _ hs _ k => lv_irem hx hb hd (fun q => by
      have := (x_i32_eq (x_okS_hd hs) x_i32_0).mp (q.trans x_ofInt_0.symm)
      omega) (by
      rw [x_d32 (x_okS_hd (x_okS_tl hs)) (x_okS_hd hs) h0, Int.tdiv_eq_ediv_of_nonneg hp, ← Int32.ofInt_mul, ← Int32.ofInt_sub, e]
      exact k)) k
theorem x_i2l {x : Int} (hd : decode Y.2.1 pc = .ok (.i2l, 1)) (k : xW Z d Y (pc + 1) l (xJ x :: st) h Q) : xW Z d Y pc l (xI x :: st) h Q :=
  xW_one (fun _ hs => x_okS_J (show x_i64 x by obtain ⟨a, b⟩ := x_okS_hd hs; exact ⟨by omega, by omega⟩) (x_okS_tl hs)) (fun hx hb _ _ hs _ k => lv_i2l hx hb hd (Int32.toInt64_ofInt (x_okS_hd hs).1 (by have := (x_okS_hd hs).2; show x ≤ 2147483647; omega)) k) k
theorem x_l2i {x : Int} (hd : decode Y.2.1 pc = .ok (.l2i, 1)) (hr : x_i32 x) (k : xW Z d Y (pc + 1) l (xI x :: st) h Q) : xW Z d Y pc l (xJ x :: st) h Q :=
  xW_one (fun _ hs => x_okS_I hr (x_okS_tl hs)) (fun hx hb _ _ _ _ k => lv_l2i hx hb hd Int64.toInt32_ofInt k) k
/-- to a byte -/
def x_by (x : Int) : Int := x.bmod 256
theorem x_by_in (x : Int) : -128 ≤ x_by x ∧ x_by x ≤ 127 := by
  have h1 := Int.le_bmod (x := x) (m := 256) (by omega)
  have h2 := Int.bmod_lt (x := x) (m := 256) (by omega)
  unfold x_by
  omega
theorem x_by_32 (x : Int) : (Int32.ofInt x).toInt8.toInt32 = Int32.ofInt (x_by x) := by
  rw [Int32.toInt8_ofInt]
  refine Int32.toInt_inj.mp ?_
  rw [x_i32_toInt (show x_i32 (x_by x) from ⟨by have := (x_by_in x).1; omega, by have := (x_by_in x).2; omega⟩)]
  simp [x_by]
theorem x_by_id {x : Int} (h : -128 ≤ x ∧ x ≤ 127) : x_by x = x := Int.bmod_eq_of_le (by omega) (by omega)
theorem x_i2b {x : Int} (hd : decode Y.2.1 pc = .ok (.i2b, 1)) (k : xW Z d Y (pc + 1) l (xI (x_by x) :: st) h Q) : xW Z d Y pc l (xI x :: st) h Q :=
  xW_one (fun _ hs => x_okS_I (show x_i32 (x_by x) from ⟨by have := (x_by_in x).1; omega, by have := (x_by_in x).2; omega⟩) (x_okS_tl hs)) (fun hx hb _ _ _ _ k => lv_i2b hx hb hd (x_by_32 x) k) k
theorem x_dup {v : xV} (hd : decode Y.2.1 pc = .ok (.dup, 1)) (hv : x_cat v = 1) (k : xW Z d Y (pc + 1) l (v :: v :: st) h Q) : xW Z d Y pc l (v :: st) h Q :=
  xW_one (fun _ hs => x_okS_cons (x_okS_hd hs) hs) (fun hx hb _ _ _ _ k => lv_dup hx hb hd (by rw [x_v_cat]; exact hv) k) k
theorem x_pop {v : xV} (hd : decode Y.2.1 pc = .ok (.pop, 1)) (hv : x_cat v = 1) (k : xW Z d Y (pc + 1) l st h Q) : xW Z d Y pc l (v :: st) h Q :=
  xW_one (fun _ hs => x_okS_tl hs) (fun hx hb _ _ _ _ k => lv_pop hx hb hd (by rw [x_v_cat]; exact hv) k) k
theorem x_dup_x1 {v w : xV} (hd : decode Y.2.1 pc = .ok (.dup_x1, 1)) (hv : x_cat v = 1) (hw : x_cat w = 1) (k : xW Z d Y (pc + 1) l (v :: w :: v :: st) h Q) : xW Z d Y pc l (v :: w :: st) h Q :=
  xW_one (fun _ hs => x_okS_cons (x_okS_hd hs) (x_okS_cons (x_okS_hd (x_okS_tl hs)) (x_okS_cons (x_okS_hd hs) (x_okS_tl (x_okS_tl hs))))) (fun hx hb _ _ _ _ k => lv_dup_x1 hx hb hd (by rw [x_v_cat]; exact hv) (by rw [x_v_cat]; exact hw) k) k
theorem x_dup_x2 {v w u : xV} (hd : decode Y.2.1 pc = .ok (.dup_x2, 1)) (hv : x_cat v = 1) (hw : x_cat w = 1) (hu : x_cat u = 1) (k : xW Z d Y (pc + 1) l (v :: w :: u :: v :: st) h Q) : xW Z d Y pc l (v :: w :: u :: st) h Q :=
  xW_one (fun _ hs => x_okS_cons (x_okS_hd hs) (x_okS_cons (x_okS_hd (x_okS_tl hs)) (x_okS_cons (x_okS_hd (x_okS_tl (x_okS_tl hs))) (x_okS_cons (x_okS_hd hs) (x_okS_tl (x_okS_tl (x_okS_tl hs))))))) (fun hx hb _ _ _ _ k => lv_dup_x2 hx hb hd (by rw [x_v_cat]; exact hv) (by rw [x_v_cat]; exact hw) (by rw [x_v_cat]; exact hu) k) k
theorem x_dup2 {v w : xV} (hd : decode Y.2.1 pc = .ok (.dup2, 1)) (hv : x_cat v = 1) (hw : x_cat w = 1) (k : xW Z d Y (pc + 1) l (v :: w :: v :: w :: st) h Q) : xW Z d Y pc l (v :: w :: st) h Q :=
  xW_one (fun _ hs => x_okS_cons (x_okS_hd hs) (x_okS_cons (x_okS_hd (x_okS_tl hs)) hs)) (fun hx hb _ _ _ _ k => lv_dup2_11 hx hb hd (by rw [x_v_cat]; exact hv) (by rw [x_v_cat]; exact hw) k) k
theorem x_goto {off : Int} {tgt : Nat} (hd : decode Y.2.1 pc = .ok (.goto off, 3)) (ht : (pc : Int) + off = (tgt : Int)) (k : xW Z d Y tgt l st h Q) : xW Z d Y pc l st h Q :=
  xW_one (fun _ hs => hs) (fun hx hb _ _ _ _ k => lv_goto hx hb hd ht k) k
theorem x_if_eq {x : Int} {off : Int} {tgt : Nat} (hd : decode Y.2.1 pc = .ok (.ifCond .eq off, 3)) (ht : (pc : Int) + off = (tgt : Int)) (kt : x = 0 → xW Z d Y tgt l st h Q) (kf : ¬ x = 0 → xW Z d Y (pc + 3) l st h Q) : xW Z d Y pc l (xI x :: st) h Q := by
  by_cases hc : x = 0
  · exact xW_one (fun _ hs => x_okS_tl hs) (fun hx hb _ _ hs _ k => lv_if_eq hx hb hd ht (fun _ => k) (fun q => absurd (by rw [← x_ofInt_0]; exact (x_i32_eq (x_okS_hd hs) x_i32_0).mpr hc) q)) (kt hc)
  · exact xW_one (fun _ hs => x_okS_tl hs) (fun hx hb _ _ hs _ k => lv_if_eq hx hb hd ht (fun q => absurd ((x_i32_eq (x_okS_hd hs) x_i32_0).mp (by rw [x_ofInt_0]; exact q)) hc) (fun _ => k)) (kf hc)
theorem x_if_ne {x : Int} {off : Int} {tgt : Nat} (hd : decode Y.2.1 pc = .ok (.ifCond .ne off, 3)) (ht : (pc : Int) + off = (tgt : Int)) (kt : ¬ x = 0 → xW Z d Y tgt l st h Q) (kf : x = 0 → xW Z d Y (pc + 3) l st h Q) : xW Z d Y pc l (xI x :: st) h Q := by
  by_cases hc : x = 0
  · exact xW_one (fun _ hs => x_okS_tl hs) (fun hx hb _ _ hs _ k => lv_if_ne hx hb hd ht (fun q => absurd (by rw [hc]; exact x_ofInt_0) q) (fun _ => k)) (kf hc)
  · exact xW_one (fun _ hs => x_okS_tl hs) (fun hx hb _ _ hs _ k => lv_if_ne hx hb hd ht (fun _ => k) (fun q => absurd ((x_i32_eq (x_okS_hd hs) x_i32_0).mp (q.trans x_ofInt_0.symm)) hc)) (kt hc)
theorem x_if_lt {x : Int} {off : Int} {tgt : Nat} (hd : decode Y.2.1 pc = .ok (.ifCond .lt off, 3)) (ht : (pc : Int) + off = (tgt : Int)) (kt : x < 0 → xW Z d Y tgt l st h Q) (kf : ¬ x < 0 → xW Z d Y (pc + 3) l st h Q) : xW Z d Y pc l (xI x :: st) h Q := by
  by_cases hc : x < 0
  · exact xW_one (fun _ hs => x_okS_tl hs) (fun hx hb _ _ hs _ k => lv_if_lt hx hb hd ht (fun _ => k) (fun q => absurd (by rw [← x_ofInt_0]; exact (x_i32_lt (x_okS_hd hs) x_i32_0).mpr hc) q)) (kt hc)
  · exact xW_one (fun _ hs => x_okS_tl hs) (fun hx hb _ _ hs _ k => lv_if_lt hx hb hd ht (fun q => absurd ((x_i32_lt (x_okS_hd hs) x_i32_0).mp (by rw [x_ofInt_0]; exact q)) hc) (fun _ => k)) (kf hc)
theorem x_if_ge {x : Int} {off : Int} {tgt : Nat} (hd : decode Y.2.1 pc = .ok (.ifCond .ge off, 3)) (ht : (pc : Int) + off = (tgt : Int)) (kt : 0 ≤ x → xW Z d Y tgt l st h Q) (kf : ¬ 0 ≤ x → xW Z d Y (pc + 3) l st h Q) : xW Z d Y pc l (xI x :: st) h Q := by
  by_cases hc : 0 ≤ x
  · exact xW_one (fun _ hs => x_okS_tl hs) (fun hx hb _ _ hs _ k => lv_if_ge hx hb hd ht (fun _ => k) (fun q => absurd (by rw [← x_ofInt_0]; exact (x_i32_le x_i32_0 (x_okS_hd hs)).mpr hc) q)) (kt hc)
  · exact xW_one (fun _ hs => x_okS_tl hs) (fun hx hb _ _ hs _ k => lv_if_ge hx hb hd ht (fun q => absurd ((x_i32_le x_i32_0 (x_okS_hd hs)).mp (by rw [x_ofInt_0]; exact q)) hc) (fun _ => k)) (kf hc)
theorem x_if_gt {x : Int} {off : Int} {tgt : Nat} (hd : decode Y.2.1 pc = .ok (.ifCond .gt off, 3)) (ht : (pc : Int) + off = (tgt : Int)) (kt : 0 < x → xW Z d Y tgt l st h Q) (kf : ¬ 0 < x → xW Z d Y (pc + 3) l st h Q) : xW Z d Y pc l (xI x :: st) h Q := by
  by_cases hc : 0 < x
  · exact xW_one (fun _ hs => x_okS_tl hs) (fun hx hb _ _ hs _ k => lv_if_gt hx hb hd ht (fun _ => k) (fun q => absurd (by rw [← x_ofInt_0]; exact (x_i32_lt x_i32_0 (x_okS_hd hs)).mpr hc) q)) (kt hc)
  · exact xW_one (fun _ hs => x_okS_tl hs) (fun hx hb _ _ hs _ k => lv_if_gt hx hb hd ht (fun q => absurd ((x_i32_lt x_i32_0 (x_okS_hd hs)).mp (by rw [x_ofInt_0]; exact q)) hc) (fun _ => k)) (kf hc)
theorem x_if_le {x : Int} {off : Int} {tgt : Nat} (hd : decode Y.2.1 pc = .ok (.ifCond .le off, 3)) (ht : (pc : Int) + off = (tgt : Int)) (kt : x ≤ 0 → xW Z d Y tgt l st h Q) (kf : ¬ x ≤ 0 → xW Z d Y (pc + 3) l st h Q) : xW Z d Y pc l (xI x :: st) h Q := by
  by_cases hc : x ≤ 0
  · exact xW_one (fun _ hs => x_okS_tl hs) (fun hx hb _ _ hs _ k => lv_if_le hx hb hd ht (fun _ => k) (fun q => absurd (by rw [← x_ofInt_0]; exact (x_i32_le (x_okS_hd hs) x_i32_0).mpr hc) q)) (kt hc)
  · exact xW_one (fun _ hs => x_okS_tl hs) (fun hx hb _ _ hs _ k => lv_if_le hx hb hd ht (fun q => absurd ((x_i32_le (x_okS_hd hs) x_i32_0).mp (by rw [x_ofInt_0]; exact q)) hc) (fun _ => k)) (kf hc)
theorem x_icmp_eq {x y : Int} {off : Int} {tgt : Nat} (hd : decode Y.2.1 pc = .ok (.if_icmp .eq off, 3)) (ht : (pc : Int) + off = (tgt : Int)) (kt : x = y → xW Z d Y tgt l st h Q) (kf : ¬ x = y → xW Z d Y (pc + 3) l st h Q) : xW Z d Y pc l (xI y :: xI x :: st) h Q := by
  by_cases hc : x = y
  · exact xW_one (fun _ hs => x_okS_tl (x_okS_tl hs)) (fun hx hb _ _ hs _ k => lv_icmp_eq hx hb hd ht (fun _ => k) (fun q => absurd ((x_i32_eq (x_okS_hd (x_okS_tl hs)) (x_okS_hd hs)).mpr hc) q)) (kt hc)
  · exact xW_one (fun _ hs => x_okS_tl (x_okS_tl hs)) (fun hx hb _ _ hs _ k => lv_icmp_eq hx hb hd ht (fun q => absurd ((x_i32_eq (x_okS_hd (x_okS_tl hs)) (x_okS_hd hs)).mp q) hc) (fun _ => k)) (kf hc)
theorem x_icmp_ne {x y : Int} {off : Int} {tgt : Nat} (hd : decode Y.2.1 pc = .ok (.if_icmp .ne off, 3)) (ht : (pc : Int) + off = (tgt : Int)) (kt : ¬ x = y → xW Z d Y tgt l st h Q) (kf : x = y → xW Z d Y (pc + 3) l st h Q) : xW Z d Y pc l (xI y :: xI x :: st) h Q := by
  by_cases hc : x = y
  · exact xW_one (fun _ hs => x_okS_tl (x_okS_tl hs)) (fun hx hb _ _ hs _ k => lv_icmp_ne hx hb hd ht (fun q => absurd (by rw [hc]) q) (fun _ => k)) (kf hc)
  · exact xW_one (fun _ hs => x_okS_tl (x_okS_tl hs)) (fun hx hb _ _ hs _ k => lv_icmp_ne hx hb hd ht (fun _ => k) (fun q => absurd ((x_i32_eq (x_okS_hd (x_okS_tl hs)) (x_okS_hd hs)).mp q) hc)) (kt hc)
theorem x_icmp_lt {x y : Int} {off : Int} {tgt : Nat} (hd : decode Y.2.1 pc = .ok (.if_icmp .lt off, 3)) (ht : (pc : Int) + off = (tgt : Int)) (kt : x < y → xW Z d Y tgt l st h Q) (kf : ¬ x < y → xW Z d Y (pc + 3) l st h Q) : xW Z d Y pc l (xI y :: xI x :: st) h Q := by
  by_cases hc : x < y
  · exact xW_one (fun _ hs => x_okS_tl (x_okS_tl hs)) (fun hx hb _ _ hs _ k => lv_icmp_lt hx hb hd ht (fun _ => k) (fun q => absurd ((x_i32_lt (x_okS_hd (x_okS_tl hs)) (x_okS_hd hs)).mpr hc) q)) (kt hc)
  · exact xW_one (fun _ hs => x_okS_tl (x_okS_tl hs)) (fun hx hb _ _ hs _ k => lv_icmp_lt hx hb hd ht (fun q => absurd ((x_i32_lt (x_okS_hd (x_okS_tl hs)) (x_okS_hd hs)).mp q) hc) (fun _ => k)) (kf hc)
theorem x_icmp_ge {x y : Int} {off : Int} {tgt : Nat} (hd : decode Y.2.1 pc = .ok (.if_icmp .ge off, 3)) (ht : (pc : Int) + off = (tgt : Int)) (kt : y ≤ x → xW Z d Y tgt l st h Q) (kf : ¬ y ≤ x → xW Z d Y (pc + 3) l st h Q) : xW Z d Y pc l (xI y :: xI x :: st) h Q := by
  by_cases hc : y ≤ x
  · exact xW_one (fun _ hs => x_okS_tl (x_okS_tl hs)) (fun hx hb _ _ hs _ k => lv_icmp_ge hx hb hd ht (fun _ => k) (fun q => absurd ((x_i32_le (x_okS_hd hs) (x_okS_hd (x_okS_tl hs))).mpr hc) q)) (kt hc)
  · exact xW_one (fun _ hs => x_okS_tl (x_okS_tl hs)) (fun hx hb _ _ hs _ k => lv_icmp_ge hx hb hd ht (fun q => absurd ((x_i32_le (x_okS_hd hs) (x_okS_hd (x_okS_tl hs))).mp q) hc) (fun _ => k)) (kf hc)
theorem x_icmp_gt {x y : Int} {off : Int} {tgt : Nat} (hd : decode Y.2.1 pc = .ok (.if_icmp .gt off, 3)) (ht : (pc : Int) + off = (tgt : Int)) (kt : y < x → xW Z d Y tgt l st h Q) (kf : ¬ y < x → xW Z d Y (pc + 3) l st h Q) : xW Z d Y pc l (xI y :: xI x :: st) h Q := by
  by_cases hc : y < x
  · exact xW_one (fun _ hs => x_okS_tl (x_okS_tl hs)) (fun hx hb _ _ hs _ k => lv_icmp_gt hx hb hd ht (fun _ => k) (fun q => absurd ((x_i32_lt (x_okS_hd hs) (x_okS_hd (x_okS_tl hs))).mpr hc) q)) (kt hc)
  · exact xW_one (fun _ hs => x_okS_tl (x_okS_tl hs)) (fun hx hb _ _ hs _ k => lv_icmp_gt hx hb hd ht (fun q => absurd ((x_i32_lt (x_okS_hd hs) (x_okS_hd (x_okS_tl hs))).mp q) hc) (fun _ => k)) (kf hc)
theorem x_icmp_le {x y : Int} {off : Int} {tgt : Nat} (hd : decode Y.2.1 pc = .ok (.if_icmp .le off, 3)) (ht : (pc : Int) + off = (tgt : Int)) (kt : x ≤ y → xW Z d Y tgt l st h Q) (kf : ¬ x ≤ y → xW Z d Y (pc + 3) l st h Q) : xW Z d Y pc l (xI y :: xI x :: st) h Q := by
  by_cases hc : x ≤ y
  · exact xW_one (fun _ hs => x_okS_tl (x_okS_tl hs)) (fun hx hb _ _ hs _ k => lv_icmp_le hx hb hd ht (fun _ => k) (fun q => absurd ((x_i32_le (x_okS_hd (x_okS_tl hs)) (x_okS_hd hs)).mpr hc) q)) (kt hc)
  · exact xW_one (fun _ hs => x_okS_tl (x_okS_tl hs)) (fun hx hb _ _ hs _ k => lv_icmp_le hx hb hd ht (fun q => absurd ((x_i32_le (x_okS_hd (x_okS_tl hs)) (x_okS_hd hs)).mp q) hc) (fun _ => k)) (kf hc)
theorem x_ifnull {r : Option Nat} {off : Int} {tgt : Nat} (hd : decode Y.2.1 pc = .ok (.ifnull off, 3)) (ht : (pc : Int) + off = (tgt : Int)) (kt : r = none → xW Z d Y tgt l st h Q) (kf : ∀ i, r = some i → xW Z d Y (pc + 3) l st h Q) : xW Z d Y pc l (xO r :: st) h Q := by
  cases r with
  | none => exact xW_one (fun _ hs => x_okS_tl hs) (fun hx hb _ _ hs _ k => lv_ifnullN hx hb hd ht k) (kt rfl)
  | some i => exact xW_one (fun _ hs => x_okS_tl hs) (fun hx hb _ _ hs _ k => lv_ifnull hx hb hd k) (kf i rfl)
theorem x_ifnonnull {r : Option Nat} {off : Int} {tgt : Nat} (hd : decode Y.2.1 pc = .ok (.ifnonnull off, 3)) (ht : (pc : Int) + off = (tgt : Int)) (kt : ∀ i, r = some i → xW Z d Y tgt l st h Q) (kf : r = none → xW Z d Y (pc + 3) l st h Q) : xW Z d Y pc l (xO r :: st) h Q := by
  cases r with
  | none => exact xW_one (fun _ hs => x_okS_tl hs) (fun hx hb _ _ hs _ k => lv_ifnonnullN hx hb hd k) (kf rfl)
  | some i => exact xW_one (fun _ hs => x_okS_tl hs) (fun hx hb _ _ hs _ k => lv_ifnonnull hx hb hd ht k) (kt i rfl)
/-- switches -/
theorem x_tableOut {dflt lo hi : Int} {offs : Array Int} {len : Nat} {x : Int} {tgt : Nat} (hd : decode Y.2.1 pc = .ok (.tableswitch dflt lo hi offs, len)) (hx : x < lo ∨ hi < x) (ht : (pc : Int) + dflt = (tgt : Int)) (k : xW Z d Y tgt l st h Q) : xW Z d Y pc l (xI x :: st) h Q :=
  xW_one (fun _ hs => x_okS_tl hs) (fun hx1 hb _ _ hs _ k => lv_tableOut hx1 hb hd (by rw [x_i32_toInt (x_okS_hd hs)]; exact hx) ht k) k
theorem x_tableIn {dflt lo hi : Int} {offs : Array Int} {len : Nat} {x : Int} {off : Int} {tgt : Nat} (hd : decode Y.2.1 pc = .ok (.tableswitch dflt lo hi offs, len)) (h1 : ¬ x < lo) (h2 : ¬ hi < x) (ho : offs[(x - lo).toNat]? = some off) (ht : (pc : Int) + off = (tgt : Int)) (k : xW Z d Y tgt l st h Q) : xW Z d Y pc l (xI x :: st) h Q :=
  xW_one (fun _ hs => x_okS_tl hs) (fun hx1 hb _ _ hs _ k => lv_tableIn hx1 hb hd (by rw [x_i32_toInt (x_okS_hd hs)]; exact h1) (by rw [x_i32_toInt (x_okS_hd hs)]; exact h2) (by rw [x_i32_toInt (x_okS_hd hs)]; exact ho) ht k) k
theorem x_lookup {dflt : Int} {ps : Array (Int × Int)} {len : Nat} {x : Int} {off : Int} {tgt : Nat} (hd : decode Y.2.1 pc = .ok (.lookupswitch dflt ps, len)) (hp : (ps.toList.zip (ps.toList.drop 1)).all (fun (a, next) => a.1 < next.1) = true) (ho : Op.lookupswitch.offset ps.toList dflt x = off) (ht : (pc : Int) + off = (tgt : Int)) (k : xW Z d Y tgt l st h Q) : xW Z d Y pc l (xI x :: st) h Q :=
  xW_one (fun _ hs => x_okS_tl hs) (fun hx1 hb _ _ hs _ k => lv_lookup hx1 hb hd hp (by rw [x_i32_toInt (x_okS_hd hs)]; exact ho) ht k) k
/-- lcmp -/
def x_lc (x y : Int) : Int := if y < x then 1 else if x = y then 0 else -1
theorem x_lc_in (x y : Int) : x_i32 (x_lc x y) := by
  unfold x_lc
  split
  · exact ⟨by omega, by omega⟩
  · split
    · exact ⟨by omega, by omega⟩
    · exact ⟨by omega, by omega⟩
theorem x_lcmp {x y : Int} (hd : decode Y.2.1 pc = .ok (.lcmp, 1)) (k : xW Z d Y (pc + 1) l (xI (x_lc x y) :: st) h Q) : xW Z d Y pc l (xJ y :: xJ x :: st) h Q := by
  refine xW_one (fun _ hs => x_okS_I (x_lc_in x y) (x_okS_tl (x_okS_tl hs))) (fun hx hb _ _ hs _ k => W.lcmp hx hb hd ?_) k
  have e : lg_cmp (Int64.ofInt x) (Int64.ofInt y) = Int32.ofInt (x_lc x y) := by
    have hx := x_okS_hd (x_okS_tl hs)
    have hy := x_okS_hd hs
    unfold x_lc lg_cmp
    by_cases h1 : y < x
    · rw [if_pos h1, if_pos ((x_i64_lt hy hx).mpr h1)]
      decide +kernel
    · rw [if_neg h1, if_neg (fun q => h1 ((x_i64_lt hy hx).mp q))]
      by_cases h2 : x = y
      · rw [if_pos h2, if_pos ((x_i64_eq hx hy).mpr h2)]
        decide +kernel
      · rw [if_neg h2, if_neg (fun q => h2 ((x_i64_eq hx hy).mp q))]
        decide +kernel
  rw [e]
  exact k
end XP
