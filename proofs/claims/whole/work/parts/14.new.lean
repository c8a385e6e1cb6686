/-! new cells, and arrays of references -/
def x_df : FieldType → xV
  | .long => xJ 0
  | .object _ => xN
  | .array _ => xN
  | _ => xI 0
def x_dfok : FieldType → Bool
  | .float => false
  | .double => false
  | _ => true
theorem x_df_ok {ty : FieldType} (h : x_dfok ty = true) (ad sa : Nat → Nat) : defaultValue ty = x_v ad sa (x_df ty) := by
  cases ty <;> first | rfl | (exact absurd h (by decide)) | (show Value.int 0 = Value.int (Int32.ofInt 0); rw [x_ofInt_0]) | (show Value.long 0 = Value.long (Int64.ofInt 0); congr 1)
theorem x_df_in (ty : FieldType) (n : Nat) : x_ok n (x_df ty) := by
  cases ty <;> first | exact x_i32_0 | trivial | exact (⟨by omega, by omega⟩ : x_i64 0)
/-- new: class own, entry idx makes an object of class ci with these fields -/
def x_cn (own : String) (idx ci : Nat) (fs : List xV) : Prop := ∃ (C : String) (T : u_T) (N : Nat) (ty : Nat → FieldType), x_cl[ci]? = some (C, T, N) ∧ (∀ w ∈ u_ws C T N, w ∈ x_tbl) ∧ (∀ k, k < N → parseFieldDescriptor (T k).2.2.1 = some (ty k)) ∧ Cond.classLink own idx C ∈ x_tbl ∧ Cond.instantiable C N ∈ x_tbl ∧ Cond.initialized C ∈ x_tbl ∧ (List.range N).all (fun k => x_dfok (ty k)) = true ∧ (List.range N).map (fun k => x_df (ty k)) = fs
theorem x_hA {Z : xZ} {s : State} (hb : Z.2.2.2.2.1 ≤ s.heap.size) : ∀ q, s.heap.size ≤ q → x_A Z q := fun _ h => Nat.le_trans hb h
/-- the addresses with one more -/
def x_ad (ad : Nat → Nat) (n q : Nat) : Nat → Nat := fun j => if j = n then q else ad j
theorem x_ad_lt {ad : Nat → Nat} {n q i : Nat} (h : i < n) : x_ad ad n q i = ad i := if_neg (Nat.ne_of_lt h)
theorem x_ad_n {ad : Nat → Nat} {n q : Nat} : x_ad ad n q n = q := if_pos rfl
section XNew
variable {Z : xZ} {d : Nat} {Y : xY} {pc : Nat} {l : xL} {st : List xV} {h : xH} {Q : Option xV → xH → Prop}
theorem x_new {index ci : Nat} {fs : List xV} (hd : decode Y.2.1 pc = .ok (.new index, 3)) (hf : x_cn Y.1.cls index ci fs) (kk : xW Z d Y (pc + 3) l (xC h.length :: st) (h ++ [xB ci fs]) Q) : xW Z d Y pc l st h Q := by
  obtain ⟨C, T, N, ty, h1, h2, h3, h4, h5, h6, h7, h8⟩ := hf
  have hNl : fs.length = N := by rw [← h8, List.length_map, List.length_range]
  have hoc : ∀ n, x_okC n (xB ci fs) := fun n v hv => by
    rw [← h8] at hv
    obtain ⟨k, -, rfl⟩ := List.mem_map.mp hv
    exact x_df_in _ n
  have hsum : x_S (h ++ [xB ci fs]) = x_S h + N := by rw [x_S_push]; show x_S h + fs.length = _; rw [hNl]
  have hlen : (h ++ [xB ci fs]).length = h.length + 1 := by rw [List.length_append]; rfl
  refine xW_any (h1 := h ++ [xB ci fs]) (by rw [hlen]; omega) (by rw [hsum]; omega) (fun a b c => ?_) (fun {p e R s m args below meth c H locs cells slots Q ls ad} o1 o2 fx hp hS hc1 hs hl kk => ?_) kk
  · rw [hlen]
    exact ⟨x_okL_mono a (by omega), x_okS_cons (v := xC h.length) (show h.length < h.length + 1 by omega) (x_okS_mono b (by omega)), x_okH_push c (hoc _)⟩
  · rw [hlen] at hc1 kk
    rw [hsum] at hs kk
    have e1 : h.length + 1 - h.length = 1 := by omega
    have e2 : x_S h + N - x_S h = N := by omega
    rw [e1] at hc1 kk
    rw [e2] at hs kk
    have hfs : ∀ j, j < N → defaultValue (ty j) = vp_V (x_st ad Z.2.2.2.1 fs) j := by
      intro j hj
      have hok : x_dfok (ty j) = true := List.all_eq_true.mp h7 j (List.mem_range.mpr hj)
      have hg : (x_st ad Z.2.2.2.1 fs)[j]? = some (x_v ad Z.2.2.2.1 (x_df (ty j))) := by
        unfold x_st
        rw [← h8, List.map_map, List.getElem?_map, List.getElem?_range hj]
        rfl
      unfold vp_V
      rw [List.getD_eq_getElem?_getD, hg, x_df_ok hok ad Z.2.2.2.1]
      rfl
    refine va_new (ci := ci) (fs := x_st ad Z.2.2.2.1 fs) fx.1 fx.2.1 fx.2.2.2.2.1 h2 ty h3 fx.2.2.2.1 (fx.2.2.2.2.1 _ h4) (fx.2.2.2.2.1 _ h5) (fx.2.2.2.2.1 _ h6) fx.2.2.2.2.2.1.1 hp.2.1 hp.2.2.1 hS (x_hA fx.2.2.2.2.2.2.2.2.2) h1 hfs hc1 hs hd (fun q H1 hP1 hD1 hS1 => ?_)
    have hag : ∀ i, i < h.length → x_ad ad h.length q i = ad i := fun i hi => x_ad_lt hi
    have es : x_w (x_ad ad h.length q) Z.2.2.2.1 Z.2.2.1 (h ++ [xB ci fs]) = x_w ad Z.2.2.2.1 Z.2.2.1 h ++ [(q, .inr (ci, x_st ad Z.2.2.2.1 fs))] := by
      rw [x_w_push hag hp.1, x_ad_n, x_c_eq hag (hoc h.length)]
      rfl
    rw [← es] at hP1 hD1
    have k2 := kk (x_ad ad h.length q) H1 locs ls hag (x_hp_mk fx.2.2.2.2.2.2.2.2.2 hp hS hS1 (x_okH_push hp.1 (hoc _)) hP1 hD1) hS1 (by rw [x_ls_eq hag o1]; exact hl)
    rw [x_st_cons, x_st_eq hag o2] at k2
    have e3 : x_v (x_ad ad h.length q) Z.2.2.2.1 (xC h.length) = .ref q := congrArg Value.ref x_ad_n
    rw [e3] at k2
    exact k2
/-- the kinds of arrays of numbers -/
def x_at (t : Nat) (a : ArrayType) : Prop := (x_tys (fun _ => 0))[t]?.map (fun q => q.2) = some (newarray.typeOf a) ∧ t < 4 ∧ Cond.arrayClass (newarray.typeOf a) ∈ x_tbl
theorem x_newarray {at1 : ArrayType} {t : Nat} {n : Int} (hd : decode Y.2.1 pc = .ok (.newarray at1, 2)) (ht : x_at t at1) (h0 : 0 ≤ n) (hn : n ≤ 60000000) (kk : xW Z d Y (pc + 2) l (xC h.length :: st) (h ++ [xA t n.toNat (fun _ => 0)]) Q) : xW Z d Y pc l (xI n :: st) h Q := by
  obtain ⟨ht, ht4, hac⟩ := ht
  have hoc : ∀ m, x_okC m (xA t n.toNat (fun _ => 0)) := fun m j => by
    show x_ink t 0
    unfold x_ink
    split
    · exact ⟨by omega, by omega⟩
    · split
      · omega
      · split
        · exact Or.inl rfl
        · exact x_i32_0
  have hsum : x_S (h ++ [xA t n.toNat (fun _ => 0)]) = x_S h + n.toNat := by rw [x_S_push]; rfl
  have hlen : (h ++ [xA t n.toNat (fun _ => 0)]).length = h.length + 1 := by rw [List.length_append]; rfl
  refine xW_any (h1 := h ++ [xA t n.toNat (fun _ => 0)]) (by rw [hlen]; omega) (by rw [hsum]; omega) (fun a b c => ?_) (fun {p e R s m args below meth c H locs cells slots Q ls ad} o1 o2 fx hp hS hc1 hs hl kk => ?_) kk
  · rw [hlen]
    exact ⟨x_okL_mono a (by omega), x_okS_cons (v := xC h.length) (show h.length < h.length + 1 by omega) (x_okS_mono (x_okS_tl b) (by omega)), x_okH_push c (hoc _)⟩
  · rw [hlen] at hc1 kk
    rw [hsum] at hs kk
    have e1 : h.length + 1 - h.length = 1 := by omega
    have e2 : x_S h + n.toNat - x_S h = n.toNat := by omega
    rw [e1] at hc1 kk
    rw [e2] at hs kk
    have hi := x_okS_hd o2
    have hin : ∀ ty, newarray.typeOf at1 = ty → (t = 0 ∧ ty = .int) ∨ (t = 1 ∧ ty = .byte) ∨ (t = 2 ∧ ty = .boolean) ∨ (t = 3 ∧ ty = .long) := by
      intro ty hty
      rw [hty] at ht
      match t, ht4, ht with
      | 0, _, ht => exact Or.inl ⟨rfl, (Option.some.inj ht).symm⟩
      | 1, _, ht => exact Or.inr (Or.inl ⟨rfl, (Option.some.inj ht).symm⟩)
      | 2, _, ht => exact Or.inr (Or.inr (Or.inl ⟨rfl, (Option.some.inj ht).symm⟩))
      | 3, _, ht => exact Or.inr (Or.inr (Or.inr ⟨rfl, (Option.some.inj ht).symm⟩))
    obtain ⟨ty, hty⟩ : ∃ ty, newarray.typeOf at1 = ty := ⟨_, rfl⟩
    have hin := hin ty hty
    have hneg : ¬ Int32.ofInt n < 0 := fun q => by
      rw [← x_ofInt_0, x_i32_lt hi x_i32_0] at q
      omega
    have ha : ∀ cA : ClassId, vp_cell cA (n.toNat, x_af t (fun _ => 0)) = arrV cA n.toNat (fun _ => defaultValue ty) := by
      intro cA
      rcases hin with ⟨rfl, rfl⟩ | ⟨rfl, rfl⟩ | ⟨rfl, rfl⟩ | ⟨rfl, rfl⟩
      · show vp_cell cA (n.toNat, .inl (fun _ => Int32.ofInt 0)) = _
        rw [x_ofInt_0]; rfl
      · show vp_cell cA (n.toNat, .inl (fun _ => Int32.ofInt 0)) = _
        rw [x_ofInt_0]; rfl
      · show vp_cell cA (n.toNat, .inl (fun _ => Int32.ofInt 0)) = _
        rw [x_ofInt_0]; rfl
      · rfl
    have hby : n.toNat * componentBytes ty ≤ 536870912 := by
      have : componentBytes ty ≤ 8 := by rcases hin with ⟨-, rfl⟩ | ⟨-, rfl⟩ | ⟨-, rfl⟩ | ⟨-, rfl⟩ <;> decide
      have h5 : n.toNat * componentBytes ty ≤ n.toNat * 8 := Nat.mul_le_mul_left _ this
      omega
    refine va_newa fx.1 fx.2.1 (fx.2.2.2.2.1 _ hac) hty fx.2.2.2.2.2.1.1 hp.2.1 hp.2.2.1 hS (x_hA fx.2.2.2.2.2.2.2.2.2) ha hneg (x_clamp h0 hi) hby hc1 hs hd (fun q cA H1 hK1 hP1 hD1 hS1 => ?_)
    have hA : cA = Z.2.2.1 t := by
      have f1 : va_RA s cA ty := (hK1.2 (x_tys Z.2.2.1).length (cA, ty) (by rw [List.getElem?_append_right (Nat.le_refl _), Nat.sub_self]; rfl)).2
      have f2 : va_RA s (Z.2.2.1 t) ty := (fx.2.2.2.2.2.1.1.2 t (Z.2.2.1 t, ty) (by rcases hin with ⟨rfl, rfl⟩ | ⟨rfl, rfl⟩ | ⟨rfl, rfl⟩ | ⟨rfl, rfl⟩ <;> rfl)).2
      rcases hin with ⟨-, rfl⟩ | ⟨-, rfl⟩ | ⟨-, rfl⟩ | ⟨-, rfl⟩ <;> exact Option.some.inj (f1.symm.trans f2)
    subst hA
    have hag : ∀ i, i < h.length → x_ad ad h.length q i = ad i := fun i hi => x_ad_lt hi
    have es : x_w (x_ad ad h.length q) Z.2.2.2.1 Z.2.2.1 (h ++ [xA t n.toNat (fun _ => 0)]) = x_w ad Z.2.2.2.1 Z.2.2.1 h ++ [(q, .inl (Z.2.2.1 t, n.toNat, x_af t (fun _ => 0)))] := by
      rw [x_w_push hag hp.1, x_ad_n, x_c_eq hag (hoc h.length)]
      rfl
    rw [← es] at hP1 hD1
    have k2 := kk (x_ad ad h.length q) H1 locs ls hag (x_hp_mk fx.2.2.2.2.2.2.2.2.2 hp hS hS1 (x_okH_push hp.1 (hoc _)) hP1 hD1) hS1 (by rw [x_ls_eq hag o1]; exact hl)
    rw [x_st_cons, x_st_eq hag (x_okS_tl o2)] at k2
    have e3 : x_v (x_ad ad h.length q) Z.2.2.2.1 (xC h.length) = .ref q := congrArg Value.ref x_ad_n
    rw [e3] at k2
    exact k2
end XNew
