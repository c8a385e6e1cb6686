/-! fields, arrays, new cells -/
/-- a field's link: of class own, entry idx, it is field k of class ci -/
def x_fl (own : String) (idx ci k : Nat) : Prop := ∃ (C : String) (T : u_T) (N : Nat), x_cl[ci]? = some (C, T, N) ∧ k < N ∧ (∀ w ∈ u_ws C T N, w ∈ x_tbl) ∧ (T k).1 = C ∧ (Cond.fieldLink own idx C (T k).2.1 (T k).2.2.1 ∈ x_tbl ∨ ∃ host, (own, idx, C, (T k).2.1, (T k).2.2.1, host) ∈ x_nF)
/-- the same for writing: its type, and whether it is final -/
def x_fp (own : String) (idx ci k : Nat) (ty : FieldType) (fin : Bool) : Prop := ∃ (C : String) (T : u_T) (N : Nat) (ty0 : Nat → FieldType), x_cl[ci]? = some (C, T, N) ∧ k < N ∧ (∀ w ∈ u_ws C T N, w ∈ x_tbl) ∧ (T k).1 = C ∧ (∀ k, k < N → parseFieldDescriptor (T k).2.2.1 = some (ty0 k)) ∧ (∀ a, a < N → ∀ b, b < N → a ≠ b → (T a).2.1 ≠ (T b).2.1) ∧ (T k).2.2.2 = fin ∧ parseFieldDescriptor (T k).2.2.1 = some ty ∧ (fin = true → C = own) ∧
  (Cond.fieldLink own idx C (T k).2.1 (T k).2.2.1 ∈ x_tbl ∨ (fin = false ∧ ∃ host, (own, idx, C, (T k).2.1, (T k).2.2.1, host) ∈ x_nF))
/-- a value that a field of this type holds as it is -/
def x_fit : FieldType → xV → Prop
  | .int, .inl _ => True
  | .boolean, .inl x => x = 0 ∨ x = 1
  | .byte, .inl x => -128 ≤ x ∧ x ≤ 127
  | .char, .inl x => 0 ≤ x ∧ x ≤ 65535
  | .long, .inr (.inl _) => True
  | .object _, .inr (.inr _) => True
  | .array _, .inr (.inr _) => True
  | _, _ => False
theorem x_narC {x : Int} (h : 0 ≤ x ∧ x ≤ 65535) : (Int32.ofInt x).toUInt32.toUInt16.toUInt32.toInt32 = Int32.ofInt x := by
  refine Int32.toBitVec_inj.mp (BitVec.eq_of_toNat_eq ?_)
  show ((BitVec.ofInt 32 x).setWidth 16 |>.setWidth 32).toNat = (BitVec.ofInt 32 x).toNat
  rw [BitVec.toNat_setWidth, BitVec.toNat_setWidth, BitVec.toNat_ofInt]
  omega
theorem x_narB (x : Int32) : narrow .byte (.int x) = .int (x.toInt8.toInt32) := by
  have := vp_nar_byte x
  unfold vp_nar at this
  exact congrArg Value.int this
theorem x_fit_ok {ty : FieldType} {v : xV} (h : x_fit ty v) (ad sa : Nat → Nat) : narrow ty (x_v ad sa v) = x_v ad sa v ∧ fits ty (x_v ad sa v) = true := by
  obtain x | x | (_ | i) | j := v <;> cases ty <;> first | exact h.elim | skip
  · have hb : x_i32 x := ⟨by have := h.1; omega, by have := h.2; omega⟩
    refine ⟨?_, ?_⟩
    · show narrow .byte (.int (Int32.ofInt x)) = .int (Int32.ofInt x)
      rw [x_narB, x_by_32, x_by_id h]
    · show (decide (-128 ≤ Int32.ofInt x) && decide (Int32.ofInt x ≤ 127)) = true
      rw [Bool.and_eq_true, decide_eq_true_eq, decide_eq_true_eq]
      exact ⟨(x_i32_le (x := -128) ⟨by omega, by omega⟩ hb).mpr h.1, (x_i32_le (y := 127) hb ⟨by omega, by omega⟩).mpr h.2⟩
  · have hb : x_i32 x := ⟨by have := h.1; omega, by have := h.2; omega⟩
    refine ⟨?_, ?_⟩
    · have := vp_nar_char (Int32.ofInt x)
      unfold vp_nar at this
      rw [x_narC h] at this
      exact congrArg Value.int this
    · show (decide (0 ≤ Int32.ofInt x) && decide (Int32.ofInt x ≤ 65535)) = true
      rw [Bool.and_eq_true, decide_eq_true_eq, decide_eq_true_eq]
      exact ⟨(x_i32_le (x := 0) x_i32_0 hb).mpr h.1, (x_i32_le (y := 65535) hb ⟨by omega, by omega⟩).mpr h.2⟩
  · exact ⟨rfl, rfl⟩
  · rcases h with h | h
    · subst h
      exact ⟨show narrow .boolean (.int (Int32.ofInt 0)) = .int (Int32.ofInt 0) by decide +kernel, show fits .boolean (.int (Int32.ofInt 0)) = true by decide +kernel⟩
    · subst h
      exact ⟨show narrow .boolean (.int (Int32.ofInt 1)) = .int (Int32.ofInt 1) by decide +kernel, show fits .boolean (.int (Int32.ofInt 1)) = true by decide +kernel⟩
  all_goals exact ⟨rfl, rfl⟩
theorem x_hp_mk {Z : xZ} {ad ad1 : Nat → Nat} {h h1 : xH} {H H1 : Heap} {locs locs1 : List Loc} {s : State} (hb : Z.2.2.2.2.1 ≤ s.heap.size) (hp : x_hp Z ad h H) (hS : va_S (x_A Z) s.heap H locs) (hS1 : va_S (x_A Z) s.heap H1 locs1) (ho : x_okH h1) (hP : va_P Z.2.1 x_cl (x_w ad1 Z.2.2.2.1 Z.2.2.1 h1) H1) (hD : va_D (x_A Z) (x_w ad1 Z.2.2.2.1 Z.2.2.1 h1)) : x_hp Z ad1 h1 H1 :=
  ⟨ho, hP, hD, Nat.le_trans hb hS1.1, fun q hq => by
    rw [hS1.2.1 q (Nat.lt_of_lt_of_le hq hb) (Nat.not_le.mpr hq), ← hS.2.1 q (Nat.lt_of_lt_of_le hq hb) (Nat.not_le.mpr hq)]
    exact hp.2.2.2.2 q hq⟩
theorem x_vpin {i : Int} {n : Nat} (h0 : 0 ≤ i) (h1 : i < n) (hi : x_i32 i) : vp_in (Int32.ofInt i) n := vp_in_iff.mpr (by rw [x_i32_toInt hi]; exact ⟨h0, h1⟩)
theorem x_clamp {i : Int} (h0 : 0 ≤ i) (hi : x_i32 i) : (Int32.ofInt i).toNatClampNeg = i.toNat := by
  show (Int32.ofInt i).toInt.toNat = i.toNat
  rw [x_i32_toInt hi]
def x_up {α : Type} (f : Nat → α) (k : Nat) (x : α) : Nat → α := fun j => if j = k then x else f j
theorem x_up_s {α : Type} (f : Nat → α) (k : Nat) (x : α) : x_up f k x k = x := if_pos rfl
theorem x_up_n {α : Type} (f : Nat → α) {k j : Nat} (x : α) (h : j ≠ k) : x_up f k x j = f j := if_neg h
section XF
variable {Z : xZ} {d : Nat} {Y : xY} {pc : Nat} {l : xL} {st : List xV} {h h1 : xH} {Q : Option xV → xH → Prop}
theorem x_getfield {index ci k a : Nat} {fs : List xV} {v : xV} (hd : decode Y.2.1 pc = .ok (.getfield index, 3)) (hf : x_fl Y.1.cls index ci k) (hc : h[a]? = some (xB ci fs)) (hv : fs[k]? = some v) (kk : xW Z d Y (pc + 3) l (v :: st) h Q) : xW Z d Y pc l (xC a :: st) h Q := by
  refine xW_any (h1 := h) (Nat.le_refl _) (Nat.le_refl _) (fun a b c => ⟨a, x_okS_cons ((c _ (List.mem_of_getElem? hc)) v (List.mem_of_getElem? hv)) (x_okS_tl b), c⟩) (fun {p e R s m args below meth c H locs cells slots Q ls ad} o1 o2 fx hp hS hc1 hs hl kk => ?_) kk
  rw [Nat.sub_self, Nat.sub_self] at kk
  have kk := kk ad H locs ls (fun _ _ => rfl) hp hS hl
  obtain ⟨C, T, N, h1, h2, h3, h4, h5⟩ := hf
  have hv2 : (x_st ad Z.2.2.2.1 fs)[k]? = some (x_v ad Z.2.2.2.1 v) := by unfold x_st; rw [List.getElem?_map, hv]; rfl
  rcases h5 with h5 | ⟨host, h5⟩
  · exact va_get fx.1 fx.2.1 fx.2.2.2.2.1 h3 fx.2.2.2.1 fx.2.2.2.2.2.1.1 hp.2.1 a (x_w_at hc) h1 k h2 (fx.2.2.2.2.1 _ h5) (fun x hx => by rw [h4] at hx; exact hx) hv2 hd kk
  · exact va_getN fx.1 fx.2.1 fx.2.2.2.2.1 h3 fx.2.2.2.1 fx.2.2.2.2.2.1.1 hp.2.1 a (x_w_at hc) h1 k h2 (va_Nw.use rfl (fx.2.2.2.2.2.1.2.1 _ h5)) (fun x hx => by rw [h4] at hx; exact hx) hv2 hd kk
theorem x_putfield {index ci k a : Nat} {ty : FieldType} {fs fs1 : List xV} {v w : xV} (hd : decode Y.2.1 pc = .ok (.putfield index, 3)) (hf : x_fp Y.1.cls index ci k ty false) (hc : h[a]? = some (xB ci fs)) (hv : fs[k]? = some w) (hfs : fs.set k v = fs1) (ht : x_fit ty v) (hh : h.set a (xB ci fs1) = h1) (kk : xW Z d Y (pc + 3) l st h1 Q) : xW Z d Y pc l (v :: xC a :: st) h Q := by
  subst hfs
  subst hh
  have hsum : x_S (h.set a (xB ci (fs.set k v))) = x_S h := x_S_set hc (by show (fs.set k v).length = fs.length; rw [List.length_set])
  refine xW_any (h1 := h.set a (xB ci (fs.set k v))) (by rw [List.length_set]; exact Nat.le_refl _) (by rw [hsum]; exact Nat.le_refl _) (fun a b c => ?_) (fun {p e R s m args below meth c H locs cells slots Q ls ad} o1 o2 fx hp hS hc1 hs hl kk => ?_) kk
  · rw [List.length_set]
    refine ⟨a, x_okS_tl (x_okS_tl b), x_okH_set c (fun u hu => ?_)⟩
    rcases List.mem_or_eq_of_mem_set hu with h1 | h1
    · exact c _ (List.mem_of_getElem? hc) u h1
    · rw [h1]; exact x_okS_hd b
  · have oh : x_okH (h.set a (xB ci (fs.set k v))) := x_okH_set hp.1 (fun u hu => by
      rcases List.mem_or_eq_of_mem_set hu with h1 | h1
      · exact hp.1 _ (List.mem_of_getElem? hc) u h1
      · rw [h1]; exact x_okS_hd o2)
    rw [List.length_set, Nat.sub_self, hsum, Nat.sub_self] at kk
    obtain ⟨C, T, N, ty0, h1, h2, h3, h4, h5, h6, h7, h8, -, h9⟩ := hf
    have hlt : k < (x_st ad Z.2.2.2.1 fs).length := by unfold x_st; rw [List.length_map]; exact (List.getElem?_eq_some_iff.mp hv).1
    have es : (x_w ad Z.2.2.2.1 Z.2.2.1 h).set a (ad a, .inr (ci, (x_st ad Z.2.2.2.1 fs).set k (x_v ad Z.2.2.2.1 v))) = x_w ad Z.2.2.2.1 Z.2.2.1 (h.set a (xB ci (fs.set k v))) := by
      rw [x_w_set]
      show _ = List.set _ a (ad a, Sum.inr (ci, x_st ad Z.2.2.2.1 (fs.set k v)))
      unfold x_st
      rw [List.map_set]
    rcases h9 with h9 | ⟨-, host, h9⟩
    · refine va_put fx.1 fx.2.1 fx.2.2.2.2.1 h3 ty0 h5 h6 fx.2.2.2.1 fx.2.2.2.2.2.1.1 hp.2.1 hp.2.2.1 hS a (x_w_at hc) h1 k h2 (fx.2.2.2.2.1 _ h9) (fun x hx => by rw [h4] at hx; exact hx) h7 h8 (x_fit_ok ht ad Z.2.2.2.1).1 (x_fit_ok ht ad Z.2.2.2.1).2 hlt hd (fun H1 locs1 hP1 hD1 hS1 => ?_)
      rw [es] at hP1 hD1
      exact kk ad H1 locs1 ls (fun _ _ => rfl) (x_hp_mk fx.2.2.2.2.2.2.2.2.2 hp hS hS1 oh hP1 hD1) hS1 hl
    · refine va_putN fx.1 fx.2.1 fx.2.2.2.2.1 h3 ty0 h5 h6 fx.2.2.2.1 fx.2.2.2.2.2.1.1 hp.2.1 hp.2.2.1 hS a (x_w_at hc) h1 k h2 (va_Nw.use rfl (fx.2.2.2.2.2.1.2.1 _ h9)) (fun x hx => by rw [h4] at hx; exact hx) h7 h8 (x_fit_ok ht ad Z.2.2.2.1).1 (x_fit_ok ht ad Z.2.2.2.1).2 hlt hd (fun H1 locs1 hP1 hD1 hS1 => ?_)
      rw [es] at hP1 hD1
      exact kk ad H1 locs1 ls (fun _ _ => rfl) (x_hp_mk fx.2.2.2.2.2.2.2.2.2 hp hS hS1 oh hP1 hD1) hS1 hl
/-- a final field, in its constructor -/
theorem x_putfinal {index ci k a : Nat} {ty : FieldType} {fs fs1 : List xV} {v w : xV} (hd : decode Y.2.1 pc = .ok (.putfield index, 3)) (hi : Y.1.name = "<init>") (hf : x_fp Y.1.cls index ci k ty true) (hc : h[a]? = some (xB ci fs)) (hv : fs[k]? = some w) (hfs : fs.set k v = fs1) (ht : x_fit ty v) (hh : h.set a (xB ci fs1) = h1) (kk : xW Z d Y (pc + 3) l st h1 Q) : xW Z d Y pc l (v :: xC a :: st) h Q := by
  subst hfs
  subst hh
  have hsum : x_S (h.set a (xB ci (fs.set k v))) = x_S h := x_S_set hc (by show (fs.set k v).length = fs.length; rw [List.length_set])
  refine xW_any (h1 := h.set a (xB ci (fs.set k v))) (by rw [List.length_set]; exact Nat.le_refl _) (by rw [hsum]; exact Nat.le_refl _) (fun a b c => ?_) (fun {p e R s m args below meth c H locs cells slots Q ls ad} o1 o2 fx hp hS hc1 hs hl kk => ?_) kk
  · rw [List.length_set]
    refine ⟨a, x_okS_tl (x_okS_tl b), x_okH_set c (fun u hu => ?_)⟩
    rcases List.mem_or_eq_of_mem_set hu with h1 | h1
    · exact c _ (List.mem_of_getElem? hc) u h1
    · rw [h1]; exact x_okS_hd b
  · have oh : x_okH (h.set a (xB ci (fs.set k v))) := x_okH_set hp.1 (fun u hu => by
      rcases List.mem_or_eq_of_mem_set hu with h1 | h1
      · exact hp.1 _ (List.mem_of_getElem? hc) u h1
      · rw [h1]; exact x_okS_hd o2)
    rw [List.length_set, Nat.sub_self, hsum, Nat.sub_self] at kk
    obtain ⟨C, T, N, ty0, h1, h2, h3, h4, h5, h6, h7, h8, h10, h9⟩ := hf
    have hlt : k < (x_st ad Z.2.2.2.1 fs).length := by unfold x_st; rw [List.length_map]; exact (List.getElem?_eq_some_iff.mp hv).1
    have es : (x_w ad Z.2.2.2.1 Z.2.2.1 h).set a (ad a, .inr (ci, (x_st ad Z.2.2.2.1 fs).set k (x_v ad Z.2.2.2.1 v))) = x_w ad Z.2.2.2.1 Z.2.2.1 (h.set a (xB ci (fs.set k v))) := by
      rw [x_w_set]
      show _ = List.set _ a (ad a, Sum.inr (ci, x_st ad Z.2.2.2.1 (fs.set k v)))
      unfold x_st
      rw [List.map_set]
    rcases h9 with h9 | ⟨h9, -⟩
    · refine va_putF fx.1 fx.2.1 fx.2.2.2.2.1 h3 ty0 h5 h6 fx.2.2.2.1 fx.2.2.2.2.2.1.1 hp.2.1 hp.2.2.1 hS a (x_w_at hc) h1 k h2 (fx.2.2.2.2.1 _ h9) (fun x hx => by rw [h4] at hx; exact hx) h7 (fx.2.2.2.2.2.2.2.2.1 hi) (h4.trans (h10 rfl)) h8 (x_fit_ok ht ad Z.2.2.2.1).1 (x_fit_ok ht ad Z.2.2.2.1).2 hlt hd (fun H1 locs1 hP1 hD1 hS1 => ?_)
      rw [es] at hP1 hD1
      exact kk ad H1 locs1 ls (fun _ _ => rfl) (x_hp_mk fx.2.2.2.2.2.2.2.2.2 hp hS hS1 oh hP1 hD1) hS1 hl
    · cases h9
theorem x_arraylength {a t n : Nat} {f : Nat → Int} (hd : decode Y.2.1 pc = .ok (.arraylength, 1)) (hc : h[a]? = some (xA t n f)) (ht : t < 4) (hn : (n : Int) < 2147483648) (kk : xW Z d Y (pc + 1) l (xI n :: st) h Q) : xW Z d Y pc l (xC a :: st) h Q := by
  refine xW_any (h1 := h) (Nat.le_refl _) (Nat.le_refl _) (fun a b c => ⟨a, x_okS_I (show x_i32 n from ⟨by omega, hn⟩) (x_okS_tl b), c⟩) (fun {p e R s m args below meth c H locs cells slots Q ls ad} o1 o2 fx hp hS hc1 hs hl kk => ?_) kk
  rw [Nat.sub_self, Nat.sub_self] at kk
  have kk := kk ad H locs ls (fun _ _ => rfl) hp hS hl
  obtain ⟨ty, hty⟩ : ∃ ty, (x_tys Z.2.2.1)[t]? = some (Z.2.2.1 t, ty) := by
    match t, ht with
    | 0, _ => exact ⟨_, rfl⟩
    | 1, _ => exact ⟨_, rfl⟩
    | 2, _ => exact ⟨_, rfl⟩
    | 3, _ => exact ⟨_, rfl⟩
  exact va_alen fx.1 fx.2.1 fx.2.2.2.2.2.1.1 hp.2.1 a t (x_w_at hc) hty (show Int32.ofNat n = Int32.ofInt n from Int32.ofInt_eq_ofNat.symm) hd kk
theorem x_arraylengthQ {a t n : Nat} {f : Nat → Option Nat} (hd : decode Y.2.1 pc = .ok (.arraylength, 1)) (hc : h[a]? = some (xQ t n f)) (ht : t = 4 ∨ t = 5) (hn : (n : Int) < 2147483648) (kk : xW Z d Y (pc + 1) l (xI n :: st) h Q) : xW Z d Y pc l (xC a :: st) h Q := by
  refine xW_any (h1 := h) (Nat.le_refl _) (Nat.le_refl _) (fun a b c => ⟨a, x_okS_I (show x_i32 n from ⟨by omega, hn⟩) (x_okS_tl b), c⟩) (fun {p e R s m args below meth c H locs cells slots Q ls ad} o1 o2 fx hp hS hc1 hs hl kk => ?_) kk
  rw [Nat.sub_self, Nat.sub_self] at kk
  have kk := kk ad H locs ls (fun _ _ => rfl) hp hS hl
  obtain ⟨ty, hty⟩ : ∃ ty, (x_tys Z.2.2.1)[t]? = some (Z.2.2.1 t, ty) := by
    rcases ht with rfl | rfl
    · exact ⟨_, rfl⟩
    · exact ⟨_, rfl⟩
  exact va_alen fx.1 fx.2.1 fx.2.2.2.2.2.1.1 hp.2.1 a t (x_w_at hc) hty (show Int32.ofNat n = Int32.ofInt n from Int32.ofInt_eq_ofNat.symm) hd kk
theorem x_iaload {a n : Nat} {f : Nat → Int} {i : Int} (hd : decode Y.2.1 pc = .ok (.iaload, 1)) (hc : h[a]? = some (xA 0 n f)) (h0 : 0 ≤ i) (h1 : i < n) (kk : xW Z d Y (pc + 1) l (xI (f i.toNat) :: st) h Q) : xW Z d Y pc l (xI i :: xC a :: st) h Q := by
  refine xW_any (h1 := h) (Nat.le_refl _) (Nat.le_refl _) (fun a b c => ⟨a, x_okS_I (show x_i32 (f i.toNat) from c _ (List.mem_of_getElem? hc) i.toNat) (x_okS_tl (x_okS_tl b)), c⟩) (fun {p e R s m args below meth c H locs cells slots Q ls ad} o1 o2 fx hp hS hc1 hs hl kk => ?_) kk
  rw [Nat.sub_self, Nat.sub_self] at kk
  have kk := kk ad H locs ls (fun _ _ => rfl) hp hS hl
  refine va_iald fx.1 fx.2.1 fx.2.2.2.2.2.1.1 hp.2.1 a 0 (x_w_at hc) rfl (x_vpin h0 h1 (x_okS_hd o2)) hd ?_
  rw [x_clamp h0 (x_okS_hd o2)]
  exact kk
theorem x_baload {a n : Nat} {f : Nat → Int} {i : Int} (hd : decode Y.2.1 pc = .ok (.baload, 1)) (hc : h[a]? = some (xA 1 n f)) (h0 : 0 ≤ i) (h1 : i < n) (kk : xW Z d Y (pc + 1) l (xI (f i.toNat) :: st) h Q) : xW Z d Y pc l (xI i :: xC a :: st) h Q := by
  refine xW_any (h1 := h) (Nat.le_refl _) (Nat.le_refl _) (fun a b c => ⟨a, x_okS_I (show x_i32 (f i.toNat) from by have q : -128 ≤ f i.toNat ∧ f i.toNat ≤ 127 := c _ (List.mem_of_getElem? hc) i.toNat; exact ⟨by omega, by omega⟩) (x_okS_tl (x_okS_tl b)), c⟩) (fun {p e R s m args below meth c H locs cells slots Q ls ad} o1 o2 fx hp hS hc1 hs hl kk => ?_) kk
  rw [Nat.sub_self, Nat.sub_self] at kk
  have kk := kk ad H locs ls (fun _ _ => rfl) hp hS hl
  refine va_bald fx.1 fx.2.1 fx.2.2.2.2.2.1.1 hp.2.1 a 1 (x_w_at hc) rfl (x_vpin h0 h1 (x_okS_hd o2)) hd ?_
  rw [x_clamp h0 (x_okS_hd o2)]
  exact kk
theorem x_zaload {a n : Nat} {f : Nat → Int} {i : Int} (hd : decode Y.2.1 pc = .ok (.baload, 1)) (hc : h[a]? = some (xA 2 n f)) (h0 : 0 ≤ i) (h1 : i < n) (kk : xW Z d Y (pc + 1) l (xI (f i.toNat) :: st) h Q) : xW Z d Y pc l (xI i :: xC a :: st) h Q := by
  refine xW_any (h1 := h) (Nat.le_refl _) (Nat.le_refl _) (fun a b c => ⟨a, x_okS_I (show x_i32 (f i.toNat) from by have q : f i.toNat = 0 ∨ f i.toNat = 1 := c _ (List.mem_of_getElem? hc) i.toNat; exact ⟨by omega, by omega⟩) (x_okS_tl (x_okS_tl b)), c⟩) (fun {p e R s m args below meth c H locs cells slots Q ls ad} o1 o2 fx hp hS hc1 hs hl kk => ?_) kk
  rw [Nat.sub_self, Nat.sub_self] at kk
  have kk := kk ad H locs ls (fun _ _ => rfl) hp hS hl
  refine va_zald fx.1 fx.2.1 fx.2.2.2.2.2.1.1 hp.2.1 a 2 (x_w_at hc) rfl (x_vpin h0 h1 (x_okS_hd o2)) hd ?_
  rw [x_clamp h0 (x_okS_hd o2)]
  exact kk
theorem x_laload {a n : Nat} {f : Nat → Int} {i : Int} (hd : decode Y.2.1 pc = .ok (.laload, 1)) (hc : h[a]? = some (xA 3 n f)) (h0 : 0 ≤ i) (h1 : i < n) (kk : xW Z d Y (pc + 1) l (xJ (f i.toNat) :: st) h Q) : xW Z d Y pc l (xI i :: xC a :: st) h Q := by
  refine xW_any (h1 := h) (Nat.le_refl _) (Nat.le_refl _) (fun a b c => ⟨a, x_okS_J (show x_i64 (f i.toNat) from c _ (List.mem_of_getElem? hc) i.toNat) (x_okS_tl (x_okS_tl b)), c⟩) (fun {p e R s m args below meth c H locs cells slots Q ls ad} o1 o2 fx hp hS hc1 hs hl kk => ?_) kk
  rw [Nat.sub_self, Nat.sub_self] at kk
  have kk := kk ad H locs ls (fun _ _ => rfl) hp hS hl
  refine va_lald fx.1 fx.2.1 fx.2.2.2.2.2.1.1 hp.2.1 a 3 (x_w_at hc) rfl (x_vpin h0 h1 (x_okS_hd o2)) hd ?_
  rw [x_clamp h0 (x_okS_hd o2)]
  exact kk
theorem x_aaload {a n : Nat} {f : Nat → Option Nat} {i : Int} (hd : decode Y.2.1 pc = .ok (.aaload, 1)) (hc : h[a]? = some (xQ 4 n f)) (h0 : 0 ≤ i) (h1 : i < n) (kk : xW Z d Y (pc + 1) l (xO (f i.toNat) :: st) h Q) : xW Z d Y pc l (xI i :: xC a :: st) h Q := by
  refine xW_any (h1 := h) (Nat.le_refl _) (Nat.le_refl _) (fun a b c => ⟨a, x_okS_cons (by
      cases hf : f i.toNat with
      | none => trivial
      | some j => exact c _ (List.mem_of_getElem? hc) i.toNat j hf) (x_okS_tl (x_okS_tl b)), c⟩) (fun {p e R s m args below meth c H locs cells slots Q ls ad} o1 o2 fx hp hS hc1 hs hl kk => ?_) kk
  rw [Nat.sub_self, Nat.sub_self] at kk
  have kk := kk ad H locs ls (fun _ _ => rfl) hp hS hl
  refine va_aldq fx.1 fx.2.1 fx.2.2.2.2.2.1.1 hp.2.1 a 4 (x_w_at hc) rfl (x_vpin h0 h1 (x_okS_hd o2)) hd ?_
  rw [x_clamp h0 (x_okS_hd o2)]
  rw [x_st_cons, x_v_rf] at kk
  exact kk
theorem x_iastore {a n : Nat} {f : Nat → Int} {i x : Int} (hd : decode Y.2.1 pc = .ok (.iastore, 1)) (hc : h[a]? = some (xA 0 n f)) (h0 : 0 ≤ i) (h9 : i < n) (hh : h.set a (xA 0 n (x_up f i.toNat x)) = h1) (kk : xW Z d Y (pc + 1) l st h1 Q) : xW Z d Y pc l (xI x :: xI i :: xC a :: st) h Q := by
  subst hh
  have hsum : x_S (h.set a (xA 0 n (x_up f i.toNat x))) = x_S h := x_S_set hc rfl
  have oc : x_okS h.length (xI x :: xI i :: xC a :: st) → x_okH h → x_okC h.length (xA 0 n (x_up f i.toNat x)) := fun b c j => by
    show x_i32 (x_up f i.toNat x j)
    unfold x_up
    split
    · exact x_okS_hd b
    · exact c _ (List.mem_of_getElem? hc) j
  refine xW_any (h1 := h.set a (xA 0 n (x_up f i.toNat x))) (by rw [List.length_set]; exact Nat.le_refl _) (by rw [hsum]; exact Nat.le_refl _) (fun a b c => ?_) (fun {p e R s m args below meth c H locs cells slots Q ls ad} o1 o2 fx hp hS hc1 hs hl kk => ?_) kk
  · rw [List.length_set]
    exact ⟨a, x_okS_tl (x_okS_tl (x_okS_tl b)), x_okH_set c (oc b c)⟩
  · rw [List.length_set, Nat.sub_self, hsum, Nat.sub_self] at kk
    have es : (x_w ad Z.2.2.2.1 Z.2.2.1 h).set a (ad a, .inl (Z.2.2.1 0, n, .inl (upd (fun j => Int32.ofInt (f j)) (Int32.ofInt i).toNatClampNeg (Int32.ofInt x)))) = x_w ad Z.2.2.2.1 Z.2.2.1 (h.set a (xA 0 n (x_up f i.toNat x))) := by
      rw [x_w_set, x_clamp h0 (x_okS_hd (x_okS_tl o2))]
      have e2 : (upd (fun j => Int32.ofInt (f j)) i.toNat (Int32.ofInt x)) = fun j => Int32.ofInt (x_up f i.toNat x j) := by
        funext j
        unfold upd x_up
        by_cases hj : j = i.toNat
        · rw [if_pos hj, if_pos hj]
        · rw [if_neg hj, if_neg hj]
      rw [e2]
      rfl
    refine va_iast fx.1 fx.2.1 fx.2.2.2.2.2.1.1 hp.2.1 hp.2.2.1 hS a 0 (x_w_at hc) rfl (x_vpin h0 h9 (x_okS_hd (x_okS_tl o2))) hd (fun H1 locs1 hP1 hD1 hS1 => ?_)
    have hP1 : va_P Z.2.1 x_cl ((x_w ad Z.2.2.2.1 Z.2.2.1 h).set a (ad a, .inl (Z.2.2.1 0, n, .inl (upd (fun j => Int32.ofInt (f j)) (Int32.ofInt i).toNatClampNeg (Int32.ofInt x))))) H1 := hP1
    have hD1 : va_D (x_A Z) ((x_w ad Z.2.2.2.1 Z.2.2.1 h).set a (ad a, .inl (Z.2.2.1 0, n, .inl (upd (fun j => Int32.ofInt (f j)) (Int32.ofInt i).toNatClampNeg (Int32.ofInt x))))) := hD1
    rw [es] at hP1 hD1
    exact kk ad H1 locs1 ls (fun _ _ => rfl) (x_hp_mk fx.2.2.2.2.2.2.2.2.2 hp hS hS1 (x_okH_set hp.1 (oc o2 hp.1)) hP1 hD1) hS1 hl
theorem x_bastore {a n : Nat} {f : Nat → Int} {i x : Int} (hd : decode Y.2.1 pc = .ok (.bastore, 1)) (hc : h[a]? = some (xA 1 n f)) (h0 : 0 ≤ i) (h9 : i < n) (hx : -128 ≤ x ∧ x ≤ 127) (hh : h.set a (xA 1 n (x_up f i.toNat x)) = h1) (kk : xW Z d Y (pc + 1) l st h1 Q) : xW Z d Y pc l (xI x :: xI i :: xC a :: st) h Q := by
  subst hh
  have hsum : x_S (h.set a (xA 1 n (x_up f i.toNat x))) = x_S h := x_S_set hc rfl
  have oc : x_okS h.length (xI x :: xI i :: xC a :: st) → x_okH h → x_okC h.length (xA 1 n (x_up f i.toNat x)) := fun b c j => by
    show -128 ≤ x_up f i.toNat x j ∧ x_up f i.toNat x j ≤ 127
    unfold x_up
    split
    · exact hx
    · exact c _ (List.mem_of_getElem? hc) j
  refine xW_any (h1 := h.set a (xA 1 n (x_up f i.toNat x))) (by rw [List.length_set]; exact Nat.le_refl _) (by rw [hsum]; exact Nat.le_refl _) (fun a b c => ?_) (fun {p e R s m args below meth c H locs cells slots Q ls ad} o1 o2 fx hp hS hc1 hs hl kk => ?_) kk
  · rw [List.length_set]
    exact ⟨a, x_okS_tl (x_okS_tl (x_okS_tl b)), x_okH_set c (oc b c)⟩
  · rw [List.length_set, Nat.sub_self, hsum, Nat.sub_self] at kk
    have es : (x_w ad Z.2.2.2.1 Z.2.2.1 h).set a (ad a, .inl (Z.2.2.1 1, n, .inl (upd (fun j => Int32.ofInt (f j)) (Int32.ofInt i).toNatClampNeg (vp_nar .byte (Int32.ofInt x))))) = x_w ad Z.2.2.2.1 Z.2.2.1 (h.set a (xA 1 n (x_up f i.toNat x))) := by
      rw [x_w_set, x_clamp h0 (x_okS_hd (x_okS_tl o2))]
      rw [show vp_nar .byte (Int32.ofInt x) = Int32.ofInt x by rw [vp_nar_byte, x_by_32, x_by_id hx]]
      have e2 : (upd (fun j => Int32.ofInt (f j)) i.toNat (Int32.ofInt x)) = fun j => Int32.ofInt (x_up f i.toNat x j) := by
        funext j
        unfold upd x_up
        by_cases hj : j = i.toNat
        · rw [if_pos hj, if_pos hj]
        · rw [if_neg hj, if_neg hj]
      rw [e2]
      rfl
    refine va_bast fx.1 fx.2.1 fx.2.2.2.2.2.1.1 hp.2.1 hp.2.2.1 hS a 1 (x_w_at hc) rfl (x_vpin h0 h9 (x_okS_hd (x_okS_tl o2))) hd (fun H1 locs1 hP1 hD1 hS1 => ?_)
    have hP1 : va_P Z.2.1 x_cl ((x_w ad Z.2.2.2.1 Z.2.2.1 h).set a (ad a, .inl (Z.2.2.1 1, n, .inl (upd (fun j => Int32.ofInt (f j)) (Int32.ofInt i).toNatClampNeg (vp_nar .byte (Int32.ofInt x)))))) H1 := hP1
    have hD1 : va_D (x_A Z) ((x_w ad Z.2.2.2.1 Z.2.2.1 h).set a (ad a, .inl (Z.2.2.1 1, n, .inl (upd (fun j => Int32.ofInt (f j)) (Int32.ofInt i).toNatClampNeg (vp_nar .byte (Int32.ofInt x)))))) := hD1
    rw [es] at hP1 hD1
    exact kk ad H1 locs1 ls (fun _ _ => rfl) (x_hp_mk fx.2.2.2.2.2.2.2.2.2 hp hS hS1 (x_okH_set hp.1 (oc o2 hp.1)) hP1 hD1) hS1 hl
theorem x_zastore {a n : Nat} {f : Nat → Int} {i x : Int} (hd : decode Y.2.1 pc = .ok (.bastore, 1)) (hc : h[a]? = some (xA 2 n f)) (h0 : 0 ≤ i) (h9 : i < n) (hx : x = 0 ∨ x = 1) (hh : h.set a (xA 2 n (x_up f i.toNat x)) = h1) (kk : xW Z d Y (pc + 1) l st h1 Q) : xW Z d Y pc l (xI x :: xI i :: xC a :: st) h Q := by
  subst hh
  have hsum : x_S (h.set a (xA 2 n (x_up f i.toNat x))) = x_S h := x_S_set hc rfl
  have oc : x_okS h.length (xI x :: xI i :: xC a :: st) → x_okH h → x_okC h.length (xA 2 n (x_up f i.toNat x)) := fun b c j => by
    show x_up f i.toNat x j = 0 ∨ x_up f i.toNat x j = 1
    unfold x_up
    split
    · exact hx
    · exact c _ (List.mem_of_getElem? hc) j
  refine xW_any (h1 := h.set a (xA 2 n (x_up f i.toNat x))) (by rw [List.length_set]; exact Nat.le_refl _) (by rw [hsum]; exact Nat.le_refl _) (fun a b c => ?_) (fun {p e R s m args below meth c H locs cells slots Q ls ad} o1 o2 fx hp hS hc1 hs hl kk => ?_) kk
  · rw [List.length_set]
    exact ⟨a, x_okS_tl (x_okS_tl (x_okS_tl b)), x_okH_set c (oc b c)⟩
  · rw [List.length_set, Nat.sub_self, hsum, Nat.sub_self] at kk
    have es : (x_w ad Z.2.2.2.1 Z.2.2.1 h).set a (ad a, .inl (Z.2.2.1 2, n, .inl (upd (fun j => Int32.ofInt (f j)) (Int32.ofInt i).toNatClampNeg (vp_nar .boolean (Int32.ofInt x))))) = x_w ad Z.2.2.2.1 Z.2.2.1 (h.set a (xA 2 n (x_up f i.toNat x))) := by
      rw [x_w_set, x_clamp h0 (x_okS_hd (x_okS_tl o2))]
      rw [show vp_nar .boolean (Int32.ofInt x) = Int32.ofInt x by rcases hx with rfl | rfl <;> decide +kernel]
      have e2 : (upd (fun j => Int32.ofInt (f j)) i.toNat (Int32.ofInt x)) = fun j => Int32.ofInt (x_up f i.toNat x j) := by
        funext j
        unfold upd x_up
        by_cases hj : j = i.toNat
        · rw [if_pos hj, if_pos hj]
        · rw [if_neg hj, if_neg hj]
      rw [e2]
      rfl
    refine va_zast fx.1 fx.2.1 fx.2.2.2.2.2.1.1 hp.2.1 hp.2.2.1 hS a 2 (x_w_at hc) rfl (x_vpin h0 h9 (x_okS_hd (x_okS_tl o2))) hd (fun H1 locs1 hP1 hD1 hS1 => ?_)
    have hP1 : va_P Z.2.1 x_cl ((x_w ad Z.2.2.2.1 Z.2.2.1 h).set a (ad a, .inl (Z.2.2.1 2, n, .inl (upd (fun j => Int32.ofInt (f j)) (Int32.ofInt i).toNatClampNeg (vp_nar .boolean (Int32.ofInt x)))))) H1 := hP1
    have hD1 : va_D (x_A Z) ((x_w ad Z.2.2.2.1 Z.2.2.1 h).set a (ad a, .inl (Z.2.2.1 2, n, .inl (upd (fun j => Int32.ofInt (f j)) (Int32.ofInt i).toNatClampNeg (vp_nar .boolean (Int32.ofInt x)))))) := hD1
    rw [es] at hP1 hD1
    exact kk ad H1 locs1 ls (fun _ _ => rfl) (x_hp_mk fx.2.2.2.2.2.2.2.2.2 hp hS hS1 (x_okH_set hp.1 (oc o2 hp.1)) hP1 hD1) hS1 hl
theorem x_lastore {a n : Nat} {f : Nat → Int} {i x : Int} (hd : decode Y.2.1 pc = .ok (.lastore, 1)) (hc : h[a]? = some (xA 3 n f)) (h0 : 0 ≤ i) (h9 : i < n) (hh : h.set a (xA 3 n (x_up f i.toNat x)) = h1) (kk : xW Z d Y (pc + 1) l st h1 Q) : xW Z d Y pc l (xJ x :: xI i :: xC a :: st) h Q := by
  subst hh
  have hsum : x_S (h.set a (xA 3 n (x_up f i.toNat x))) = x_S h := x_S_set hc rfl
  have oc : x_okS h.length (xJ x :: xI i :: xC a :: st) → x_okH h → x_okC h.length (xA 3 n (x_up f i.toNat x)) := fun b c j => by
    show x_i64 (x_up f i.toNat x j)
    unfold x_up
    split
    · exact x_okS_hd b
    · exact c _ (List.mem_of_getElem? hc) j
  refine xW_any (h1 := h.set a (xA 3 n (x_up f i.toNat x))) (by rw [List.length_set]; exact Nat.le_refl _) (by rw [hsum]; exact Nat.le_refl _) (fun a b c => ?_) (fun {p e R s m args below meth c H locs cells slots Q ls ad} o1 o2 fx hp hS hc1 hs hl kk => ?_) kk
  · rw [List.length_set]
    exact ⟨a, x_okS_tl (x_okS_tl (x_okS_tl b)), x_okH_set c (oc b c)⟩
  · rw [List.length_set, Nat.sub_self, hsum, Nat.sub_self] at kk
    have es : (x_w ad Z.2.2.2.1 Z.2.2.1 h).set a (ad a, .inl (Z.2.2.1 3, n, .inr (.inl (vp_updL (fun j => Int64.ofInt (f j)) (Int32.ofInt i).toNatClampNeg (Int64.ofInt x))))) = x_w ad Z.2.2.2.1 Z.2.2.1 (h.set a (xA 3 n (x_up f i.toNat x))) := by
      rw [x_w_set, x_clamp h0 (x_okS_hd (x_okS_tl o2))]
      have e2 : (vp_updL (fun j => Int64.ofInt (f j)) i.toNat (Int64.ofInt x)) = fun j => Int64.ofInt (x_up f i.toNat x j) := by
        funext j
        unfold vp_updL x_up
        by_cases hj : j = i.toNat
        · rw [if_pos hj, if_pos hj]
        · rw [if_neg hj, if_neg hj]
      rw [e2]
      rfl
    refine va_last fx.1 fx.2.1 fx.2.2.2.2.2.1.1 hp.2.1 hp.2.2.1 hS a 3 (x_w_at hc) rfl (x_vpin h0 h9 (x_okS_hd (x_okS_tl o2))) hd (fun H1 locs1 hP1 hD1 hS1 => ?_)
    have hP1 : va_P Z.2.1 x_cl ((x_w ad Z.2.2.2.1 Z.2.2.1 h).set a (ad a, .inl (Z.2.2.1 3, n, .inr (.inl (vp_updL (fun j => Int64.ofInt (f j)) (Int32.ofInt i).toNatClampNeg (Int64.ofInt x)))))) H1 := hP1
    have hD1 : va_D (x_A Z) ((x_w ad Z.2.2.2.1 Z.2.2.1 h).set a (ad a, .inl (Z.2.2.1 3, n, .inr (.inl (vp_updL (fun j => Int64.ofInt (f j)) (Int32.ofInt i).toNatClampNeg (Int64.ofInt x)))))) := hD1
    rw [es] at hP1 hD1
    exact kk ad H1 locs1 ls (fun _ _ => rfl) (x_hp_mk fx.2.2.2.2.2.2.2.2.2 hp hS hS1 (x_okH_set hp.1 (oc o2 hp.1)) hP1 hD1) hS1 hl
end XF
