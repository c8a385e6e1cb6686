/-! A PURE MACHINE. Its numbers are integers within their bounds; its cells have numbers; a reference is none, or the number of a cell, or the number of something old (0: the script; 2 i + 1: the string constant i, 2 i + 2: its bytes). -/
abbrev xV : Type := Int ⊕ Int ⊕ Option Nat ⊕ Nat
abbrev xI (x : Int) : xV := .inl x
abbrev xJ (x : Int) : xV := .inr (.inl x)
abbrev xO (r : Option Nat) : xV := .inr (.inr (.inl r))
abbrev xN : xV := .inr (.inr (.inl none))
abbrev xC (i : Nat) : xV := .inr (.inr (.inl (some i)))
abbrev xS (k : Nat) : xV := .inr (.inr (.inr k))
/-- cells: an array of numbers (its kind, length, contents), an array of references, an object (its class's number, its fields) -/
abbrev xE : Type := (Nat × Nat × (Nat → Int)) ⊕ (Nat × Nat × (Nat → Option Nat)) ⊕ (Nat × List xV)
abbrev xA (t n : Nat) (f : Nat → Int) : xE := .inl (t, n, f)
abbrev xQ (t n : Nat) (f : Nat → Option Nat) : xE := .inr (.inl (t, n, f))
abbrev xB (ci : Nat) (fs : List xV) : xE := .inr (.inr (ci, fs))
abbrev xH : Type := List xE
abbrev xL : Type := List (Nat × xV)
def x_i32 (x : Int) : Prop := -2147483648 ≤ x ∧ x < 2147483648
def x_i64 (x : Int) : Prop := -9223372036854775808 ≤ x ∧ x < 9223372036854775808
theorem x_i32_toInt {x : Int} (h : x_i32 x) : (Int32.ofInt x).toInt = x := Int32.toInt_ofInt_of_le (by have := h.1; omega) (by have := h.2; omega)
theorem x_i64_toInt {x : Int} (h : x_i64 x) : (Int64.ofInt x).toInt = x := Int64.toInt_ofInt_of_le (by have := h.1; omega) (by have := h.2; omega)
theorem x_i32_of (x : Int32) : x_i32 x.toInt := ⟨by have := x.le_toInt; omega, by have := x.toInt_lt; omega⟩
theorem x_i32_eq {x y : Int} (hx : x_i32 x) (hy : x_i32 y) : Int32.ofInt x = Int32.ofInt y ↔ x = y := by
  rw [← Int32.toInt_inj, x_i32_toInt hx, x_i32_toInt hy]
theorem x_i32_lt {x y : Int} (hx : x_i32 x) (hy : x_i32 y) : Int32.ofInt x < Int32.ofInt y ↔ x < y := by
  rw [Int32.lt_iff_toInt_lt, x_i32_toInt hx, x_i32_toInt hy]
theorem x_i32_le {x y : Int} (hx : x_i32 x) (hy : x_i32 y) : Int32.ofInt x ≤ Int32.ofInt y ↔ x ≤ y := by
  rw [Int32.le_iff_toInt_le, x_i32_toInt hx, x_i32_toInt hy]
theorem x_i32_0 : x_i32 0 := ⟨by omega, by omega⟩
theorem x_ofInt_0 : Int32.ofInt 0 = 0 := by decide +kernel
theorem x_i64_eq {x y : Int} (hx : x_i64 x) (hy : x_i64 y) : Int64.ofInt x = Int64.ofInt y ↔ x = y := by
  rw [← Int64.toInt_inj, x_i64_toInt hx, x_i64_toInt hy]
theorem x_i64_lt {x y : Int} (hx : x_i64 x) (hy : x_i64 y) : Int64.ofInt x < Int64.ofInt y ↔ x < y := by
  rw [Int64.lt_iff_toInt_lt, x_i64_toInt hx, x_i64_toInt hy]
/-- a value as the machine has it: ad: addresses of cells, sa: of old things -/
def x_v (ad sa : Nat → Nat) : xV → Value
  | .inl x => .int (Int32.ofInt x)
  | .inr (.inl x) => .long (Int64.ofInt x)
  | .inr (.inr (.inl none)) => .null
  | .inr (.inr (.inl (some i))) => .ref (ad i)
  | .inr (.inr (.inr k)) => .ref (sa k)
def x_cat : xV → Nat
  | .inr (.inl _) => 2
  | _ => 1
theorem x_v_cat (ad sa : Nat → Nat) (v : xV) : (x_v ad sa v).category = x_cat v := by
  obtain x | x | (_ | i) | k := v <;> rfl
theorem x_v_rf (ad sa : Nat → Nat) (r : Option Nat) : x_v ad sa (xO r) = va_rf (r.map ad) := by cases r <;> rfl
def x_ls (ad sa : Nat → Nat) (l : xL) : List (Nat × Value) := l.map (fun q => (q.1, x_v ad sa q.2))
def x_st (ad sa : Nat → Nat) (st : List xV) : List Value := st.map (x_v ad sa)
theorem x_st_cons (ad sa : Nat → Nat) (v : xV) (st : List xV) : x_st ad sa (v :: st) = x_v ad sa v :: x_st ad sa st := rfl
theorem x_st_app (ad sa : Nat → Nat) (a b : List xV) : x_st ad sa (a ++ b) = x_st ad sa a ++ x_st ad sa b := List.map_append
theorem x_st_rev (ad sa : Nat → Nat) (a : List xV) : x_st ad sa a.reverse = (x_st ad sa a).reverse := List.map_reverse
theorem x_st_cat (ad sa : Nat → Nat) (a : List xV) : ((x_st ad sa a).map fun v => v.category) = a.map x_cat := by
  unfold x_st
  rw [List.map_map]
  exact List.map_congr_left fun v _ => x_v_cat ad sa v
/-- a local -/
def x_get : xL → Nat → Option xV
  | [], _ => none
  | (j, v) :: l, i => if j = i then some v else x_get l i
theorem x_get_mem {l : xL} {i : Nat} {v : xV} (h : x_get l i = some v) : (i, v) ∈ l := by
  induction l with
  | nil => cases h
  | cons a l ih =>
    obtain ⟨j, w⟩ := a
    unfold x_get at h
    by_cases e : j = i
    · rw [if_pos e] at h
      cases h
      subst e
      exact List.mem_cons_self
    · rw [if_neg e] at h
      exact List.mem_cons_of_mem _ (ih h)
theorem x_get_at {ad sa : Nat → Nat} {ls : Array Slot} {nL : Nat} {l : xL} {i : Nat} {v : xV} (hl : lv_has ls nL (x_ls ad sa l)) (h : x_get l i = some v) : ls[i]? = some (.val (x_v ad sa v)) :=
  hl.2.2 (i, x_v ad sa v) (List.mem_map.mpr ⟨(i, v), x_get_mem h, rfl⟩)
/-- storing a local of one slot, of two -/
def x_put1 (l : xL) (i : Nat) (v : xV) : xL := (i, v) :: l.filter (fun q => !(q.1 == i) && !(q.1 + 1 == i && x_cat q.2 == 2))
def x_put2 (l : xL) (i : Nat) (v : xV) : xL := (i, v) :: l.filter (fun q => !(q.1 == i) && (!(q.1 == i + 1) && !(q.1 + 1 == i && x_cat q.2 == 2)))
theorem x_put1_ls (ad sa : Nat → Nat) (l : xL) (i : Nat) (v : xV) : (i, x_v ad sa v) :: (x_ls ad sa l).filter (fun q => !(q.1 == i) && !(q.1 + 1 == i && q.2.category == 2)) = x_ls ad sa (x_put1 l i v) := by
  unfold x_put1 x_ls
  rw [List.map_cons, List.filter_map]
  congr 2
  refine List.filter_congr fun q _ => ?_
  simp [Function.comp, x_v_cat]
theorem x_put2_ls (ad sa : Nat → Nat) (l : xL) (i : Nat) (v : xV) : (i, x_v ad sa v) :: (x_ls ad sa l).filter (fun q => !(q.1 == i) && (!(q.1 == i + 1) && !(q.1 + 1 == i && q.2.category == 2))) = x_ls ad sa (x_put2 l i v) := by
  unfold x_put2 x_ls
  rw [List.map_cons, List.filter_map]
  congr 2
  refine List.filter_congr fun q _ => ?_
  simp [Function.comp, x_v_cat]
/-- numbers within their bounds, references of cells below n -/
def x_ok (n : Nat) : xV → Prop
  | .inl x => x_i32 x
  | .inr (.inl x) => x_i64 x
  | .inr (.inr (.inl (some i))) => i < n
  | _ => True
def x_okS (n : Nat) (st : List xV) : Prop := ∀ v ∈ st, x_ok n v
def x_okL (n : Nat) (l : xL) : Prop := ∀ q ∈ l, x_ok n q.2
theorem x_ok_mono {n k : Nat} {v : xV} (h : x_ok n v) (hk : n ≤ k) : x_ok k v := by
  obtain x | x | (_ | i) | j := v
  · exact h
  · exact h
  · trivial
  · exact Nat.lt_of_lt_of_le h hk
  · trivial
theorem x_okS_mono {n k : Nat} {st : List xV} (h : x_okS n st) (hk : n ≤ k) : x_okS k st := fun v hv => x_ok_mono (h v hv) hk
theorem x_okL_mono {n k : Nat} {l : xL} (h : x_okL n l) (hk : n ≤ k) : x_okL k l := fun q hq => x_ok_mono (h q hq) hk
theorem x_okS_hd {n : Nat} {v : xV} {st : List xV} (h : x_okS n (v :: st)) : x_ok n v := h v List.mem_cons_self
theorem x_okS_tl {n : Nat} {v : xV} {st : List xV} (h : x_okS n (v :: st)) : x_okS n st := fun w hw => h w (List.mem_cons_of_mem _ hw)
theorem x_okS_cons {n : Nat} {v : xV} {st : List xV} (hv : x_ok n v) (h : x_okS n st) : x_okS n (v :: st) := by
  intro w hw
  rcases List.mem_cons.mp hw with rfl | hw
  · exact hv
  · exact h w hw
theorem x_okS_I {n : Nat} {x : Int} {st : List xV} (hx : x_i32 x) (h : x_okS n st) : x_okS n (xI x :: st) := x_okS_cons (v := xI x) hx h
theorem x_okS_J {n : Nat} {x : Int} {st : List xV} (hx : x_i64 x) (h : x_okS n st) : x_okS n (xJ x :: st) := x_okS_cons (v := xJ x) hx h
theorem x_okS_nil {n : Nat} : x_okS n [] := fun v hv => by cases hv
theorem x_okS_app {n : Nat} {a b : List xV} (h : x_okS n (a ++ b)) : x_okS n a ∧ x_okS n b := ⟨fun v hv => h v (List.mem_append_left _ hv), fun v hv => h v (List.mem_append_right _ hv)⟩
theorem x_v_eq {ad ad' sa : Nat → Nat} {n : Nat} (h : ∀ i, i < n → ad' i = ad i) {v : xV} (hv : x_ok n v) : x_v ad' sa v = x_v ad sa v := by
  obtain x | x | (_ | i) | j := v
  · rfl
  · rfl
  · rfl
  · exact congrArg Value.ref (h i hv)
  · rfl
theorem x_st_eq {ad ad' sa : Nat → Nat} {n : Nat} (h : ∀ i, i < n → ad' i = ad i) {st : List xV} (hv : x_okS n st) : x_st ad' sa st = x_st ad sa st :=
  List.map_congr_left fun v hm => x_v_eq h (hv v hm)
theorem x_ls_eq {ad ad' sa : Nat → Nat} {n : Nat} (h : ∀ i, i < n → ad' i = ad i) {l : xL} (hv : x_okL n l) : x_ls ad' sa l = x_ls ad sa l :=
  List.map_congr_left fun q hm => by rw [x_v_eq h (hv q hm)]
theorem x_okL_get {n : Nat} {l : xL} {i : Nat} {v : xV} (h : x_okL n l) (hg : x_get l i = some v) : x_ok n v := h (i, v) (x_get_mem hg)
theorem x_okL_put1 {n : Nat} {l : xL} (i : Nat) {v : xV} (h : x_okL n l) (hv : x_ok n v) : x_okL n (x_put1 l i v) := by
  intro q hq
  rcases List.mem_cons.mp hq with rfl | hq
  · exact hv
  · exact h q (List.mem_filter.mp hq).1
theorem x_okL_put2 {n : Nat} {l : xL} (i : Nat) {v : xV} (h : x_okL n l) (hv : x_ok n v) : x_okL n (x_put2 l i v) := by
  intro q hq
  rcases List.mem_cons.mp hq with rfl | hq
  · exact hv
  · exact h q (List.mem_filter.mp hq).1
/-- cells: kind 3 is long -/
def x_af (t : Nat) (f : Nat → Int) : (Nat → Int32) ⊕ (Nat → Int64) ⊕ (Nat → UInt32) ⊕ (Nat → UInt64) ⊕ (Nat → Option Nat) := if t = 3 then .inr (.inl (fun j => Int64.ofInt (f j))) else .inl (fun j => Int32.ofInt (f j))
def x_c (ad sa : Nat → Nat) (dA : Nat → ClassId) : xE → va_E
  | .inl (t, n, f) => .inl (dA t, n, x_af t f)
  | .inr (.inl (t, n, f)) => .inl (dA t, n, .inr (.inr (.inr (.inr (fun j => (f j).map ad)))))
  | .inr (.inr (ci, fs)) => .inr (ci, x_st ad sa fs)
/-- what an array of a kind may hold: kind 1 is byte, 2 boolean, 3 long -/
def x_ink (t : Nat) (x : Int) : Prop := if t = 3 then x_i64 x else if t = 1 then (-128 ≤ x ∧ x ≤ 127) else if t = 2 then (x = 0 ∨ x = 1) else x_i32 x
def x_okC (n : Nat) : xE → Prop
  | .inl (t, _, f) => ∀ j, x_ink t (f j)
  | .inr (.inl (_, _, f)) => ∀ j i, f j = some i → i < n
  | .inr (.inr (_, fs)) => x_okS n fs
def x_okH (h : xH) : Prop := ∀ c ∈ h, x_okC h.length c
def x_sz : xE → Nat
  | .inl (_, n, _) => n
  | .inr (.inl (_, n, _)) => n
  | .inr (.inr (_, fs)) => fs.length
def x_S (h : xH) : Nat := (h.map x_sz).sum
/-- the world of a heap -/
def x_w (ad sa : Nat → Nat) (dA : Nat → ClassId) (h : xH) : va_W := h.mapIdx (fun i c => (ad i, x_c ad sa dA c))
theorem x_w_get (ad sa : Nat → Nat) (dA : Nat → ClassId) (h : xH) (i : Nat) : (x_w ad sa dA h)[i]? = (h[i]?).map (fun c => (ad i, x_c ad sa dA c)) := by
  unfold x_w
  rw [List.getElem?_mapIdx]
theorem x_w_at {ad sa : Nat → Nat} {dA : Nat → ClassId} {h : xH} {i : Nat} {c : xE} (hc : h[i]? = some c) : (x_w ad sa dA h)[i]? = some (ad i, x_c ad sa dA c) := by
  rw [x_w_get, hc]; rfl
theorem x_w_len (ad sa : Nat → Nat) (dA : Nat → ClassId) (h : xH) : (x_w ad sa dA h).length = h.length := by
  unfold x_w
  rw [List.length_mapIdx]
theorem x_w_set (ad sa : Nat → Nat) (dA : Nat → ClassId) (h : xH) (i : Nat) (c : xE) : x_w ad sa dA (h.set i c) = (x_w ad sa dA h).set i (ad i, x_c ad sa dA c) := by
  refine List.ext_getElem? fun j => ?_
  rw [x_w_get, List.getElem?_set, List.getElem?_set, x_w_len, x_w_get]
  by_cases e : i = j
  · subst e
    rw [if_pos rfl, if_pos rfl]
    by_cases hl : i < h.length
    · rw [if_pos hl, if_pos hl]; rfl
    · rw [if_neg hl, if_neg hl]; rfl
  · rw [if_neg e, if_neg e]
theorem x_c_eq {ad ad' sa : Nat → Nat} {dA : Nat → ClassId} {n : Nat} (h : ∀ i, i < n → ad' i = ad i) {c : xE} (hv : x_okC n c) : x_c ad' sa dA c = x_c ad sa dA c := by
  obtain ⟨t, k, f⟩ | ⟨t, k, f⟩ | ⟨ci, fs⟩ := c
  · rfl
  · have e : (fun j => (f j).map ad') = (fun j => (f j).map ad) := by
      funext j
      cases hj : f j with
      | none => rfl
      | some i => exact congrArg some (h i (hv j i hj))
    show Sum.inl (dA t, k, _) = Sum.inl (dA t, k, _)
    rw [e]
  · show Sum.inr (ci, x_st ad' sa fs) = Sum.inr (ci, x_st ad sa fs)
    rw [x_st_eq h hv]
/-- a new cell: the world grows by it, whatever its address -/
theorem x_w_push {ad ad' sa : Nat → Nat} {dA : Nat → ClassId} {h : xH} {c : xE} (hag : ∀ i, i < h.length → ad' i = ad i) (hok : x_okH h) : x_w ad' sa dA (h ++ [c]) = x_w ad sa dA h ++ [(ad' h.length, x_c ad' sa dA c)] := by
  refine List.ext_getElem? fun j => ?_
  rw [x_w_get]
  by_cases hj : j < h.length
  · rw [List.getElem?_append_left hj, List.getElem?_append_left (by rw [x_w_len]; exact hj), x_w_get]
    obtain ⟨d, hd⟩ : ∃ d, h[j]? = some d := ⟨h[j], List.getElem?_eq_getElem hj⟩
    rw [hd]
    show some (ad' j, x_c ad' sa dA d) = some (ad j, x_c ad sa dA d)
    rw [hag j hj, x_c_eq hag (hok d (List.mem_of_getElem? hd))]
  · rw [List.getElem?_append_right (Nat.le_of_not_lt hj), List.getElem?_append_right (by rw [x_w_len]; exact Nat.le_of_not_lt hj), x_w_len]
    by_cases e : j = h.length
    · subst e
      simp
    · obtain ⟨k, hk⟩ : ∃ k, j - h.length = k + 1 := ⟨j - h.length - 1, by omega⟩
      rw [hk]
      rfl
theorem x_okC_mono {n k : Nat} {c : xE} (h : x_okC n c) (hk : n ≤ k) : x_okC k c := by
  obtain ⟨t, m, f⟩ | ⟨t, m, f⟩ | ⟨ci, fs⟩ := c
  · exact h
  · exact fun j i e => Nat.lt_of_lt_of_le (h j i e) hk
  · exact x_okS_mono h hk
theorem x_okH_push {h : xH} {c : xE} (hok : x_okH h) (hc : x_okC (h.length + 1) c) : x_okH (h ++ [c]) := by
  intro d hd
  rw [List.length_append]
  rcases List.mem_append.mp hd with h1 | h1
  · exact x_okC_mono (hok d h1) (Nat.le_add_right _ _)
  · rw [List.mem_singleton.mp h1]
    exact hc
theorem x_okH_set {h : xH} {i : Nat} {c : xE} (hok : x_okH h) (hc : x_okC h.length c) : x_okH (h.set i c) := by
  intro d hd
  rw [List.length_set]
  rcases List.mem_or_eq_of_mem_set hd with h1 | h1
  · exact hok d h1
  · rw [h1]; exact hc
theorem x_S_push (h : xH) (c : xE) : x_S (h ++ [c]) = x_S h + x_sz c := by
  unfold x_S
  rw [List.map_append, List.sum_append]
  simp
theorem x_S_set {h : xH} {i : Nat} {c d : xE} (hd : h[i]? = some d) (hs : x_sz c = x_sz d) : x_S (h.set i c) = x_S h := by
  unfold x_S
  rw [List.map_set, hs]
  congr 1
  refine List.ext_getElem? fun j => ?_
  rw [List.getElem?_set]
  by_cases e : i = j
  · subst e
    rw [if_pos rfl, List.length_map, if_pos (List.getElem?_eq_some_iff.mp hd).1, List.getElem?_map, hd]
    rfl
  · rw [if_neg e]
