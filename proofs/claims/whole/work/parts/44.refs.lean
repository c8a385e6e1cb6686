/-! arrays of references: loads, stores, new ones; clone; references compared -/
theorem x_byc {Z : xZ} {s : State} (hG : x_G Z s) : ∃ kA : Class, s.vm.classes[Z.2.2.1 5]? = some kA ∧ kA.kind = .array (Z.2.2.1 1) (.array .byte) := by
  obtain ⟨comp, c, k, h1, h2, h3, h4, h5⟩ := arrayOverA_spec hG.2.2.2.2.2.2.2.2.2.1
  have f1 : s.vm.findClass ("[" ++ (FieldType.array .byte).toString) = some (Z.2.2.1 5) := (hG.1.2 5 (Z.2.2.1 5, .array .byte) rfl).2
  have f2 : s.vm.findClass ("[" ++ FieldType.byte.toString) = some (Z.2.2.1 1) := (hG.1.2 1 (Z.2.2.1 1, .byte) rfl).2
  have e : (FieldType.array .byte).toString = "[" ++ FieldType.byte.toString := by decide +kernel
  have hc : c = Z.2.2.1 5 := Option.some.inj (h5.symm.trans f1)
  rw [e] at h1
  have hp : comp = Z.2.2.1 1 := Option.some.inj (h1.symm.trans f2)
  subst hc hp
  exact ⟨k, h3, h4⟩
section XQ
variable {Z : xZ} {d : Nat} {Y : xY} {pc : Nat} {l : xL} {st : List xV} {h h1 : xH} {Q : Option xV → xH → Prop}
theorem x_aaload5 {a n : Nat} {f : Nat → Option Nat} {i : Int} (hd : decode Y.2.1 pc = .ok (.aaload, 1)) (hc : h[a]? = some (xQ 5 n f)) (h0 : 0 ≤ i) (h1 : i < n) (kk : xW Z d Y (pc + 1) l (xO (f i.toNat) :: st) h Q) : xW Z d Y pc l (xI i :: xC a :: st) h Q := by
  refine xW_any (h1 := h) (Nat.le_refl _) (Nat.le_refl _) (fun a b c => ⟨a, x_okS_cons (by
      cases hf : f i.toNat with
      | none => trivial
      | some j => exact c _ (List.mem_of_getElem? hc) i.toNat j hf) (x_okS_tl (x_okS_tl b)), c⟩) (fun {p e R s m args below meth c H locs cells slots Q ls ad} o1 o2 fx hp hS hc1 hs hl kk => ?_) kk
  rw [Nat.sub_self, Nat.sub_self] at kk
  have kk := kk ad H locs ls (fun _ _ => rfl) hp hS hl
  rw [x_st_cons, x_v_rf] at kk
  have hin := x_vpin h0 h1 (x_okS_hd o2)
  have hlt : (Int32.ofInt i).toNatClampNeg < n := Nat.not_le.mp fun q => hin (Or.inr q)
  have hcell := hp.2.1 a _ (x_w_at hc)
  refine W.aald (v := va_rf ((f i.toNat).map ad)) (ty := .array .byte) fx.1 fx.2.1 (a := ad a) (cell := arrV (Z.2.2.1 5) n (fun j => va_rf ((f j).map ad))) hcell ((fx.2.2.2.2.2.1.1.2 5 (Z.2.2.1 5, .array .byte) rfl).1 n (fun j => va_rf ((f j).map ad))) rfl (fun q => by cases q) (by rw [arrV_size]; exact hin) (by rw [arrV_read _ _ hlt, x_clamp h0 (x_okS_hd o2)]) rfl rfl hd kk

theorem x_aastore4 {a n v : Nat} {f : Nat → Option Nat} {i : Int} {fs : List xV} (hd : decode Y.2.1 pc = .ok (.aastore, 1)) (hc : h[a]? = some (xQ 4 n f)) (hv : h[v]? = some (xB 12 fs)) (h0 : 0 ≤ i) (h9 : i < n) (hh : h.set a (xQ 4 n (x_up f i.toNat (some v))) = h1) (kk : xW Z d Y (pc + 1) l st h1 Q) : xW Z d Y pc l (xC v :: xI i :: xC a :: st) h Q := by
  subst hh
  have hsum : x_S (h.set a (xQ 4 n (x_up f i.toNat (some v)))) = x_S h := x_S_set hc rfl
  have oc : x_okS h.length (xC v :: xI i :: xC a :: st) → x_okH h → x_okC h.length (xQ 4 n (x_up f i.toNat (some v))) := fun b c j k e => by
    have e : x_up f i.toNat (some v) j = some k := e
    unfold x_up at e
    split at e
    · have := Option.some.inj e; subst this; exact x_okS_hd b
    · exact c _ (List.mem_of_getElem? hc) j k e
  refine xW_any (h1 := h.set a (xQ 4 n (x_up f i.toNat (some v)))) (by rw [List.length_set]; exact Nat.le_refl _) (by rw [hsum]; exact Nat.le_refl _) (fun a b c => ?_) (fun {p e R s m args below meth c H locs cells slots Q ls ad} o1 o2 fx hp hS hc1 hs hl kk => ?_) kk
  · rw [List.length_set]
    exact ⟨a, x_okS_tl (x_okS_tl (x_okS_tl b)), x_okH_set c (oc b c)⟩
  · rw [List.length_set, Nat.sub_self, hsum, Nat.sub_self] at kk
    have es : (x_w ad Z.2.2.2.1 Z.2.2.1 h).set a (ad a, .inl (Z.2.2.1 4, n, .inr (.inr (.inr (.inr (va_up (fun j => (f j).map ad) (Int32.ofInt i).toNatClampNeg (Option.map ad (some v)))))))) = x_w ad Z.2.2.2.1 Z.2.2.1 (h.set a (xQ 4 n (x_up f i.toNat (some v)))) := by
      rw [x_w_set, x_clamp h0 (x_okS_hd (x_okS_tl o2))]
      have e2 : (va_up (fun j => (f j).map ad) i.toNat (Option.map ad (some v))) = fun j => (x_up f i.toNat (some v) j).map ad := by
        funext j
        unfold va_up x_up
        by_cases hj : j = i.toNat
        · rw [if_pos hj, if_pos hj]
        · rw [if_neg hj, if_neg hj]
      rw [e2]
      rfl
    refine va_astq (r := ("PaperFileModel$Part", xF_MQ, 7)) fx.1 fx.2.1 fx.2.2.2.2.2.1.1 hp.2.1 hp.2.2.1 hS a 4 v 12 (x_w_at hc) rfl (x_w_at hv) rfl (x_vpin h0 h9 (x_okS_hd (x_okS_tl o2))) hd (fun H1 locs1 hP1 hD1 hS1 => ?_)
    have hP1 : va_P Z.2.1 x_cl ((x_w ad Z.2.2.2.1 Z.2.2.1 h).set a (ad a, .inl (Z.2.2.1 4, n, .inr (.inr (.inr (.inr (va_up (fun j => (f j).map ad) (Int32.ofInt i).toNatClampNeg (Option.map ad (some v))))))))) H1 := hP1
    have hD1 : va_D (x_A Z) ((x_w ad Z.2.2.2.1 Z.2.2.1 h).set a (ad a, .inl (Z.2.2.1 4, n, .inr (.inr (.inr (.inr (va_up (fun j => (f j).map ad) (Int32.ofInt i).toNatClampNeg (Option.map ad (some v))))))))) := hD1
    rw [es] at hP1 hD1
    exact kk ad H1 locs1 ls (fun _ _ => rfl) (x_hp_mk fx.2.2.2.2.2.2.2.2.2 hp hS hS1 (x_okH_set hp.1 (oc o2 hp.1)) hP1 hD1) hS1 hl
theorem x_aastore4N {a n : Nat} {f : Nat → Option Nat} {i : Int} (hd : decode Y.2.1 pc = .ok (.aastore, 1)) (hc : h[a]? = some (xQ 4 n f)) (h0 : 0 ≤ i) (h9 : i < n) (hh : h.set a (xQ 4 n (x_up f i.toNat none)) = h1) (kk : xW Z d Y (pc + 1) l st h1 Q) : xW Z d Y pc l (xN :: xI i :: xC a :: st) h Q := by
  subst hh
  have hsum : x_S (h.set a (xQ 4 n (x_up f i.toNat none))) = x_S h := x_S_set hc rfl
  have oc : x_okS h.length (xN :: xI i :: xC a :: st) → x_okH h → x_okC h.length (xQ 4 n (x_up f i.toNat none)) := fun b c j k e => by
    have e : x_up f i.toNat none j = some k := e
    unfold x_up at e
    split at e
    · cases e
    · exact c _ (List.mem_of_getElem? hc) j k e
  refine xW_any (h1 := h.set a (xQ 4 n (x_up f i.toNat none))) (by rw [List.length_set]; exact Nat.le_refl _) (by rw [hsum]; exact Nat.le_refl _) (fun a b c => ?_) (fun {p e R s m args below meth c H locs cells slots Q ls ad} o1 o2 fx hp hS hc1 hs hl kk => ?_) kk
  · rw [List.length_set]
    exact ⟨a, x_okS_tl (x_okS_tl (x_okS_tl b)), x_okH_set c (oc b c)⟩
  · rw [List.length_set, Nat.sub_self, hsum, Nat.sub_self] at kk
    have es : (x_w ad Z.2.2.2.1 Z.2.2.1 h).set a (ad a, .inl (Z.2.2.1 4, n, .inr (.inr (.inr (.inr (va_up (fun j => (f j).map ad) (Int32.ofInt i).toNatClampNeg (Option.map ad none))))))) = x_w ad Z.2.2.2.1 Z.2.2.1 (h.set a (xQ 4 n (x_up f i.toNat none))) := by
      rw [x_w_set, x_clamp h0 (x_okS_hd (x_okS_tl o2))]
      have e2 : (va_up (fun j => (f j).map ad) i.toNat (Option.map ad none)) = fun j => (x_up f i.toNat none j).map ad := by
        funext j
        unfold va_up x_up
        by_cases hj : j = i.toNat
        · rw [if_pos hj, if_pos hj]
        · rw [if_neg hj, if_neg hj]
      rw [e2]
      rfl
    refine va_astqN fx.1 fx.2.1 fx.2.2.2.2.2.1.1 hp.2.1 hp.2.2.1 hS a 4 (x_w_at hc) rfl (x_vpin h0 h9 (x_okS_hd (x_okS_tl o2))) hd (fun H1 locs1 hP1 hD1 hS1 => ?_)
    have hP1 : va_P Z.2.1 x_cl ((x_w ad Z.2.2.2.1 Z.2.2.1 h).set a (ad a, .inl (Z.2.2.1 4, n, .inr (.inr (.inr (.inr (va_up (fun j => (f j).map ad) (Int32.ofInt i).toNatClampNeg (Option.map ad none)))))))) H1 := hP1
    have hD1 : va_D (x_A Z) ((x_w ad Z.2.2.2.1 Z.2.2.1 h).set a (ad a, .inl (Z.2.2.1 4, n, .inr (.inr (.inr (.inr (va_up (fun j => (f j).map ad) (Int32.ofInt i).toNatClampNeg (Option.map ad none)))))))) := hD1
    rw [es] at hP1 hD1
    exact kk ad H1 locs1 ls (fun _ _ => rfl) (x_hp_mk fx.2.2.2.2.2.2.2.2.2 hp hS hS1 (x_okH_set hp.1 (oc o2 hp.1)) hP1 hD1) hS1 hl
theorem x_aastore5 {a n v : Nat} {f : Nat → Option Nat} {i : Int} {nv : Nat} {fv : Nat → Int} (hd : decode Y.2.1 pc = .ok (.aastore, 1)) (hc : h[a]? = some (xQ 5 n f)) (hv : h[v]? = some (xA 1 nv fv)) (h0 : 0 ≤ i) (h9 : i < n) (hh : h.set a (xQ 5 n (x_up f i.toNat (some v))) = h1) (kk : xW Z d Y (pc + 1) l st h1 Q) : xW Z d Y pc l (xC v :: xI i :: xC a :: st) h Q := by
  subst hh
  have hsum : x_S (h.set a (xQ 5 n (x_up f i.toNat (some v)))) = x_S h := x_S_set hc rfl
  have oc : x_okS h.length (xC v :: xI i :: xC a :: st) → x_okH h → x_okC h.length (xQ 5 n (x_up f i.toNat (some v))) := fun b c j k e => by
    have e : x_up f i.toNat (some v) j = some k := e
    unfold x_up at e
    split at e
    · have := Option.some.inj e; subst this; exact x_okS_hd b
    · exact c _ (List.mem_of_getElem? hc) j k e
  refine xW_any (h1 := h.set a (xQ 5 n (x_up f i.toNat (some v)))) (by rw [List.length_set]; exact Nat.le_refl _) (by rw [hsum]; exact Nat.le_refl _) (fun a b c => ?_) (fun {p e R s m args below meth c H locs cells slots Q ls ad} o1 o2 fx hp hS hc1 hs hl kk => ?_) kk
  · rw [List.length_set]
    exact ⟨a, x_okS_tl (x_okS_tl (x_okS_tl b)), x_okH_set c (oc b c)⟩
  · rw [List.length_set, Nat.sub_self, hsum, Nat.sub_self] at kk
    have es : (x_w ad Z.2.2.2.1 Z.2.2.1 h).set a (ad a, .inl (Z.2.2.1 5, n, .inr (.inr (.inr (.inr (va_up (fun j => (f j).map ad) (Int32.ofInt i).toNatClampNeg (Option.map ad (some v)))))))) = x_w ad Z.2.2.2.1 Z.2.2.1 (h.set a (xQ 5 n (x_up f i.toNat (some v)))) := by
      rw [x_w_set, x_clamp h0 (x_okS_hd (x_okS_tl o2))]
      have e2 : (va_up (fun j => (f j).map ad) i.toNat (Option.map ad (some v))) = fun j => (x_up f i.toNat (some v) j).map ad := by
        funext j
        unfold va_up x_up
        by_cases hj : j = i.toNat
        · rw [if_pos hj, if_pos hj]
        · rw [if_neg hj, if_neg hj]
      rw [e2]
      rfl
    obtain ⟨kA, k1, k2⟩ := x_byc fx.2.2.2.2.2.1
    have hin := x_vpin h0 h9 (x_okS_hd (x_okS_tl o2))
    have hlt : (Int32.ofInt i).toNatClampNeg < n := Nat.not_le.mp fun q => hin (Or.inr q)
    have h0' : ¬ Int32.ofInt i < 0 := fun q => hin (Or.inl q)
    obtain ⟨-, kB, hkB, -⟩ := (fx.2.2.2.2.2.1.1.2 1 (Z.2.2.1 1, .byte) rfl).1 0 (fun _ => .null)
    have hcell : H[ad a]? = some (arrV (Z.2.2.1 5) n (fun j => va_rf ((f j).map ad))) := hp.2.1 a _ (x_w_at hc)
    have hvcell : H[ad v]? = some (arrV (Z.2.2.1 1) nv (fun j => .int (Int32.ofInt (fv j)))) := hp.2.1 v _ (x_w_at hv)
    refine W.aast (t := .array .byte) fx.1 fx.2.1 hcell (fun q h => by cases h) (fun h => by cases h) k1 k2 rfl hkB ⟨h0', by rw [arrV_size]; exact hlt⟩ hvcell (fun q h => by cases h) hkB (va_asg _ _) rfl rfl hd fun H1 e z oq => ?_
    have hset : H1[ad a]? = some (vp_cell (Z.2.2.1 5) (n, .inr (.inr (.inr (.inr (va_up (fun j => (f j).map ad) (Int32.ofInt i).toNatClampNeg (some (ad v)))))))) := by
      rw [e, vp_cell_q, arrV_store]
      congr 2
      funext q
      by_cases hq : q = (Int32.ofInt i).toNatClampNeg
      · subst hq
        simp [updV, va_up, va_rf]
      · simp [updV, va_up, hq]
    have hP1 := hp.2.1.set hp.2.2.1 (x_w_at (ad := ad) (sa := Z.2.2.2.1) (dA := Z.2.2.1) hc) (e := .inl (Z.2.2.1 5, n, .inr (.inr (.inr (.inr (va_up (fun j => (f j).map ad) (Int32.ofInt i).toNatClampNeg (some (ad v)))))))) hset oq
    have hD1 := hp.2.2.1.set (e := .inl (Z.2.2.1 5, n, .inr (.inr (.inr (.inr (va_up (fun j => (f j).map ad) (Int32.ofInt i).toNatClampNeg (some (ad v)))))))) (x_w_at (ad := ad) (sa := Z.2.2.2.1) (dA := Z.2.2.1) hc)
    have hS1 := hS.put (k := (Int32.ofInt i).toNatClampNeg) z oq (hp.2.2.1.2 a _ (x_w_at hc))
    generalize (locs ++ [(⟨ad a, (Int32.ofInt i).toNatClampNeg⟩ : Loc)]) = locs1 at hS1 ⊢
    have hP1 : va_P Z.2.1 x_cl ((x_w ad Z.2.2.2.1 Z.2.2.1 h).set a (ad a, .inl (Z.2.2.1 5, n, .inr (.inr (.inr (.inr (va_up (fun j => (f j).map ad) (Int32.ofInt i).toNatClampNeg (Option.map ad (some v))))))))) H1 := hP1
    have hD1 : va_D (x_A Z) ((x_w ad Z.2.2.2.1 Z.2.2.1 h).set a (ad a, .inl (Z.2.2.1 5, n, .inr (.inr (.inr (.inr (va_up (fun j => (f j).map ad) (Int32.ofInt i).toNatClampNeg (Option.map ad (some v))))))))) := hD1
    rw [es] at hP1 hD1
    exact kk ad H1 locs1 ls (fun _ _ => rfl) (x_hp_mk fx.2.2.2.2.2.2.2.2.2 hp hS hS1 (x_okH_set hp.1 (oc o2 hp.1)) hP1 hD1) hS1 hl
theorem x_anewarray4 {index k : Nat} {n : Int} (hd : decode Y.2.1 pc = .ok (.anewarray index, 3)) (hlk : Cond.classLink Y.1.cls index "PaperFileModel$Part" ∈ x_tbl) (h0 : 0 ≤ n) (hn : n ≤ 60000000) (hk : h.length = k) (hh : h ++ [xQ 4 n.toNat (fun _ => none)] = h1) (kk : xW Z d Y (pc + 3) l (xC k :: st) h1 Q) : xW Z d Y pc l (xI n :: st) h Q := by
  subst hk
  subst hh
  have hoc : ∀ m, x_okC m (xQ 4 n.toNat (fun _ => none)) := fun m j i e => by cases e
  have hsum : x_S (h ++ [xQ 4 n.toNat (fun _ => none)]) = x_S h + n.toNat := by rw [x_S_push]; rfl
  have hlen : (h ++ [xQ 4 n.toNat (fun _ => none)]).length = h.length + 1 := by rw [List.length_append]; rfl
  refine xW_any (h1 := h ++ [xQ 4 n.toNat (fun _ => none)]) (by rw [hlen]; omega) (by rw [hsum]; omega) (fun a b c => ?_) (fun {p e R s m args below meth c H locs cells slots Q ls ad} o1 o2 fx hp hS hc1 hs hl kk => ?_) kk
  · rw [hlen]
    exact ⟨x_okL_mono a (by omega), x_okS_cons (v := xC h.length) (show h.length < h.length + 1 by omega) (x_okS_mono (x_okS_tl b) (by omega)), x_okH_push c (hoc _)⟩
  · rw [hlen] at hc1 kk
    rw [hsum] at hs kk
    have e1 : h.length + 1 - h.length = 1 := by omega
    have e2 : x_S h + n.toNat - x_S h = n.toNat := by omega
    rw [e1] at hc1 kk
    rw [e2] at hs kk
    have hi := x_okS_hd o2
    have hneg : ¬ Int32.ofInt n < 0 := fun q => by
      rw [← x_ofInt_0, x_i32_lt hi x_i32_0] at q
      omega
    have hcl := x_clamp h0 hi
    have fin : ∀ (q : Nat) (H1 : Heap), va_P Z.2.1 x_cl (x_w ad Z.2.2.2.1 Z.2.2.1 h ++ [(q, .inl (Z.2.2.1 4, n.toNat, .inr (.inr (.inr (.inr (fun _ => none))))))]) H1 → va_D (x_A Z) (x_w ad Z.2.2.2.1 Z.2.2.1 h ++ [(q, .inl (Z.2.2.1 4, n.toNat, .inr (.inr (.inr (.inr (fun _ => none))))))]) → va_S (x_A Z) s.heap H1 locs → W p Z.1 e R s m args below meth c H1 locs (cells + 1) (slots + n.toNat) Q (F0 m (pc + 3) ls (.ref q :: x_st ad Z.2.2.2.1 st)) := fun q H1 hP1 hD1 hS1 => by
      have hag : ∀ i, i < h.length → x_ad ad h.length q i = ad i := fun i hi => x_ad_lt hi
      have es : x_w (x_ad ad h.length q) Z.2.2.2.1 Z.2.2.1 (h ++ [xQ 4 n.toNat (fun _ => none)]) = x_w ad Z.2.2.2.1 Z.2.2.1 h ++ [(q, .inl (Z.2.2.1 4, n.toNat, .inr (.inr (.inr (.inr (fun _ => none))))))] := by
        rw [x_w_push hag hp.1, x_ad_n, x_c_eq hag (hoc h.length)]
        rfl
      rw [← es] at hP1 hD1
      have k2 := kk (x_ad ad h.length q) H1 locs ls hag (x_hp_mk fx.2.2.2.2.2.2.2.2.2 hp hS hS1 (x_okH_push hp.1 (hoc _)) hP1 hD1) hS1 (by rw [x_ls_eq hag o1]; exact hl)
      rw [x_st_cons, x_st_eq hag (x_okS_tl o2)] at k2
      have e3 : x_v (x_ad ad h.length q) Z.2.2.2.1 (xC h.length) = .ref q := congrArg Value.ref x_ad_n
      rw [e3] at k2
      exact k2
    refine va_newq fx.1 fx.2.1 fx.2.2.2.1 (fx.2.2.2.2.1 _ hlk) fx.2.2.2.2.2.1.2.2.2.2.2.2.2.2.1 fx.2.2.2.2.2.1.1 hp.2.1 hp.2.2.1 hS (x_hA fx.2.2.2.2.2.2.2.2.2) hneg hcl (by omega) hc1 hs hd (fun q cA H1 hK1 hP1 hD1 hS1 => ?_)
    have hA : cA = Z.2.2.1 4 := by
      obtain ⟨_, _, -, -, -, f1⟩ := (hK1.2 (x_tys Z.2.2.1).length (cA, .object "PaperFileModel$Part") (by rw [List.getElem?_append_right (Nat.le_refl _), Nat.sub_self]; rfl)).2
      obtain ⟨_, _, -, -, -, f2⟩ := (fx.2.2.2.2.2.1.1.2 4 (Z.2.2.1 4, .object "PaperFileModel$Part") rfl).2
      exact Option.some.inj (f1.symm.trans f2)
    subst hA
    exact fin q H1 hP1 hD1 hS1
theorem x_anewarray5 {index k : Nat} {n : Int} (hd : decode Y.2.1 pc = .ok (.anewarray index, 3)) (hlk : Cond.classLink Y.1.cls index "[B" ∈ x_tbl) (h0 : 0 ≤ n) (hn : n ≤ 60000000) (hk : h.length = k) (hh : h ++ [xQ 5 n.toNat (fun _ => none)] = h1) (kk : xW Z d Y (pc + 3) l (xC k :: st) h1 Q) : xW Z d Y pc l (xI n :: st) h Q := by
  subst hk
  subst hh
  have hoc : ∀ m, x_okC m (xQ 5 n.toNat (fun _ => none)) := fun m j i e => by cases e
  have hsum : x_S (h ++ [xQ 5 n.toNat (fun _ => none)]) = x_S h + n.toNat := by rw [x_S_push]; rfl
  have hlen : (h ++ [xQ 5 n.toNat (fun _ => none)]).length = h.length + 1 := by rw [List.length_append]; rfl
  refine xW_any (h1 := h ++ [xQ 5 n.toNat (fun _ => none)]) (by rw [hlen]; omega) (by rw [hsum]; omega) (fun a b c => ?_) (fun {p e R s m args below meth c H locs cells slots Q ls ad} o1 o2 fx hp hS hc1 hs hl kk => ?_) kk
  · rw [hlen]
    exact ⟨x_okL_mono a (by omega), x_okS_cons (v := xC h.length) (show h.length < h.length + 1 by omega) (x_okS_mono (x_okS_tl b) (by omega)), x_okH_push c (hoc _)⟩
  · rw [hlen] at hc1 kk
    rw [hsum] at hs kk
    have e1 : h.length + 1 - h.length = 1 := by omega
    have e2 : x_S h + n.toNat - x_S h = n.toNat := by omega
    rw [e1] at hc1 kk
    rw [e2] at hs kk
    have hi := x_okS_hd o2
    have hneg : ¬ Int32.ofInt n < 0 := fun q => by
      rw [← x_ofInt_0, x_i32_lt hi x_i32_0] at q
      omega
    have hcl := x_clamp h0 hi
    have fin : ∀ (q : Nat) (H1 : Heap), va_P Z.2.1 x_cl (x_w ad Z.2.2.2.1 Z.2.2.1 h ++ [(q, .inl (Z.2.2.1 5, n.toNat, .inr (.inr (.inr (.inr (fun _ => none))))))]) H1 → va_D (x_A Z) (x_w ad Z.2.2.2.1 Z.2.2.1 h ++ [(q, .inl (Z.2.2.1 5, n.toNat, .inr (.inr (.inr (.inr (fun _ => none))))))]) → va_S (x_A Z) s.heap H1 locs → W p Z.1 e R s m args below meth c H1 locs (cells + 1) (slots + n.toNat) Q (F0 m (pc + 3) ls (.ref q :: x_st ad Z.2.2.2.1 st)) := fun q H1 hP1 hD1 hS1 => by
      have hag : ∀ i, i < h.length → x_ad ad h.length q i = ad i := fun i hi => x_ad_lt hi
      have es : x_w (x_ad ad h.length q) Z.2.2.2.1 Z.2.2.1 (h ++ [xQ 5 n.toNat (fun _ => none)]) = x_w ad Z.2.2.2.1 Z.2.2.1 h ++ [(q, .inl (Z.2.2.1 5, n.toNat, .inr (.inr (.inr (.inr (fun _ => none))))))] := by
        rw [x_w_push hag hp.1, x_ad_n, x_c_eq hag (hoc h.length)]
        rfl
      rw [← es] at hP1 hD1
      have k2 := kk (x_ad ad h.length q) H1 locs ls hag (x_hp_mk fx.2.2.2.2.2.2.2.2.2 hp hS hS1 (x_okH_push hp.1 (hoc _)) hP1 hD1) hS1 (by rw [x_ls_eq hag o1]; exact hl)
      rw [x_st_cons, x_st_eq hag (x_okS_tl o2)] at k2
      have e3 : x_v (x_ad ad h.length q) Z.2.2.2.1 (xC h.length) = .ref q := congrArg Value.ref x_ad_n
      rw [e3] at k2
      exact k2
    have hlk2 : Cond.classLink Y.1.cls index (FieldType.array .byte).toString ∈ x_tbl := by rw [show (FieldType.array .byte).toString = "[B" by decide +kernel]; exact hlk
    refine W.anewA (t := .byte) fx.1 fx.2.1 fx.2.2.2.1 (fx.2.2.2.2.1 _ hlk2) fx.2.2.2.2.2.1.2.2.2.2.2.2.2.2.2.1 rfl hd rfl hneg (by rw [hcl]; omega) hc1 (by rw [hcl]; exact hs) fun cA kA comp f1 f2 f3 f4 => ?_
    have hA : cA = Z.2.2.1 5 := Option.some.inj (f1.symm.trans (fx.2.2.2.2.2.1.1.2 5 (Z.2.2.1 5, .array .byte) rfl).2)
    subst hA
    rw [hcl]
    generalize hH1 : H.push ({ cls := Z.2.2.1 5, slots := Array.replicate n.toNat .null, vm := .none } : Cell) = H1
    have z1 : H1.size = H.size + 1 := by rw [← hH1, Array.size_push]
    have e1 : H1[H.size]? = some (arrV (Z.2.2.1 5) n.toNat (fun _ => .null)) := by rw [← hH1, Array.getElem?_push_size, ← arrV_new]
    have o3 : ∀ q : Nat, q < H.size → H1[q]? = H[q]? := fun q hq => by rw [← hH1, Array.getElem?_push, if_neg (Nat.ne_of_lt hq)]
    have hk : ∀ (k : Nat) (x : Nat × va_E), (x_w ad Z.2.2.2.1 Z.2.2.1 h)[k]? = some x → H1[x.1]? = H[x.1]? := fun k x hx => o3 x.1 ((hp.2.1 k x hx).lt)
    refine fin H.size H1 ((hp.2.1.kept hk).app (fun k x hx => ?_)) (hp.2.2.1.push hp.2.1 rfl (x_hA fx.2.2.2.2.2.2.2.2.2 _ hS.1)) ⟨Nat.le_trans hS.1 (by omega), fun x h1 h2 => (o3 x (Nat.lt_of_lt_of_le h1 hS.1)).trans (hS.2.1 x h1 h2), hS.2.2⟩
    have hz : k < 1 := (List.getElem?_eq_some_iff.mp hx).1
    rw [show k = 0 by omega] at hx
    cases hx
    exact e1
theorem x_acmp_inj {Z : xZ} {ad : Nat → Nat} {h : xH} {H : Heap} (hp : x_hp Z ad h H) {x y : Option Nat} (hx : x_ok h.length (xO x)) (hy : x_ok h.length (xO y)) : x.map ad = y.map ad ↔ x = y := by
  constructor
  · intro e
    cases x with
    | none => cases y with
      | none => rfl
      | some j => cases e
    | some i => cases y with
      | none => cases e
      | some j =>
        have hi : i < h.length := hx
        have hj : j < h.length := hy
        have := hp.2.2.1.1 i j _ _ (x_w_at (List.getElem?_eq_getElem hi)) (x_w_at (List.getElem?_eq_getElem hj)) (Option.some.inj e)
        rw [this]
  · intro e; rw [e]

theorem x_acmp_eq {x y : Option Nat} {off : Int} {tgt : Nat} (hd : decode Y.2.1 pc = .ok (.if_acmp .eq off, 3)) (ht : (pc : Int) + off = (tgt : Int)) (kt : x = y → xW Z d Y tgt l st h Q) (kf : ¬ x = y → xW Z d Y (pc + 3) l st h Q) : xW Z d Y pc l (xO y :: xO x :: st) h Q := by
  by_cases hxy : x = y
  · refine xW_any (h1 := h) (Nat.le_refl _) (Nat.le_refl _) (fun a b c => ⟨a, x_okS_tl (x_okS_tl b), c⟩) (fun {p e R s m args below meth c H locs cells slots Q ls ad} o1 o2 fx hp hS hc1 hs hl kk => ?_) (kt hxy)
    rw [Nat.sub_self, Nat.sub_self] at kk
    have kk := kk ad H locs ls (fun _ _ => rfl) hp hS hl
    rw [x_st_cons, x_st_cons, x_v_rf, x_v_rf]
    have hi := x_acmp_inj hp (x_okS_hd (x_okS_tl o2)) (x_okS_hd o2)
    exact lv_acmp_eq fx.1 fx.2.1 hd ht (fun _ => kk) (fun q => absurd hxy (fun z => q (hi.mpr z)))
  · refine xW_any (h1 := h) (Nat.le_refl _) (Nat.le_refl _) (fun a b c => ⟨a, x_okS_tl (x_okS_tl b), c⟩) (fun {p e R s m args below meth c H locs cells slots Q ls ad} o1 o2 fx hp hS hc1 hs hl kk => ?_) (kf (hxy))
    rw [Nat.sub_self, Nat.sub_self] at kk
    have kk := kk ad H locs ls (fun _ _ => rfl) hp hS hl
    rw [x_st_cons, x_st_cons, x_v_rf, x_v_rf]
    have hi := x_acmp_inj hp (x_okS_hd (x_okS_tl o2)) (x_okS_hd o2)
    exact lv_acmp_eq fx.1 fx.2.1 hd ht (fun q => absurd (hi.mp q) hxy) (fun _ => kk)
theorem x_acmp_ne {x y : Option Nat} {off : Int} {tgt : Nat} (hd : decode Y.2.1 pc = .ok (.if_acmp .ne off, 3)) (ht : (pc : Int) + off = (tgt : Int)) (kt : ¬ x = y → xW Z d Y tgt l st h Q) (kf : x = y → xW Z d Y (pc + 3) l st h Q) : xW Z d Y pc l (xO y :: xO x :: st) h Q := by
  by_cases hxy : ¬ x = y
  · refine xW_any (h1 := h) (Nat.le_refl _) (Nat.le_refl _) (fun a b c => ⟨a, x_okS_tl (x_okS_tl b), c⟩) (fun {p e R s m args below meth c H locs cells slots Q ls ad} o1 o2 fx hp hS hc1 hs hl kk => ?_) (kt hxy)
    rw [Nat.sub_self, Nat.sub_self] at kk
    have kk := kk ad H locs ls (fun _ _ => rfl) hp hS hl
    rw [x_st_cons, x_st_cons, x_v_rf, x_v_rf]
    have hi := x_acmp_inj hp (x_okS_hd (x_okS_tl o2)) (x_okS_hd o2)
    exact lv_acmp_ne fx.1 fx.2.1 hd ht (fun _ => kk) (fun q => absurd hxy (fun z => z (hi.mp q)))
  · refine xW_any (h1 := h) (Nat.le_refl _) (Nat.le_refl _) (fun a b c => ⟨a, x_okS_tl (x_okS_tl b), c⟩) (fun {p e R s m args below meth c H locs cells slots Q ls ad} o1 o2 fx hp hS hc1 hs hl kk => ?_) (kf (Classical.not_not.mp hxy))
    rw [Nat.sub_self, Nat.sub_self] at kk
    have kk := kk ad H locs ls (fun _ _ => rfl) hp hS hl
    rw [x_st_cons, x_st_cons, x_v_rf, x_v_rf]
    have hi := x_acmp_inj hp (x_okS_hd (x_okS_tl o2)) (x_okS_hd o2)
    exact lv_acmp_ne fx.1 fx.2.1 hd ht (fun q => absurd (fun z => q (hi.mpr z)) hxy) (fun _ => kk)
set_option maxRecDepth 40000 in
theorem cl_w : Cond.methodLink "java/util/Arrays" 310 ⟨"[B", "clone", "()Ljava/lang/Object;"⟩ ∈ x_tbl ∧ Cond.sameMethod "[B" "java/lang/Object" "clone" "()Ljava/lang/Object;" ∈ x_tbl ∧ Cond.native ⟨"java/lang/Object", "clone", "()Ljava/lang/Object;"⟩ ∈ x_tbl ∧ Cond.instanceMethod ⟨"java/lang/Object", "clone", "()Ljava/lang/Object;"⟩ ∈ x_tbl ∧ Cond.selects "[B" ⟨"[B", "clone", "()Ljava/lang/Object;"⟩ ⟨"java/lang/Object", "clone", "()Ljava/lang/Object;"⟩ ∈ x_tbl ∧ Cond.classLink "java/util/Arrays" 311 "[B" ∈ x_tbl := ⟨x_in6 159 (by decide +kernel) rfl, x_in6 160 (by decide +kernel) rfl, x_in6 161 (by decide +kernel) rfl, x_in6 162 (by decide +kernel) rfl, x_in6 163 (by decide +kernel) rfl, x_in6 165 (by decide +kernel) rfl⟩
/-- clone of a byte array, from java.util.Arrays -/
theorem x_clone {a n k : Nat} {f : Nat → Int} (hY : Y.1.cls = "java/util/Arrays") (hd : decode Y.2.1 pc = .ok (.invokevirtual 310, 3)) (hc : h[a]? = some (xA 1 n f)) (hr : (st.map x_cat).sum ≤ 8) (hdd : 1 ≤ d) (hk : h.length = k) (hh : h ++ [xA 1 n f] = h1) (kk : xW Z d Y (pc + 3) l (xC k :: st) h1 Q) : xW Z d Y pc l (xC a :: st) h Q := by
  subst hk
  subst hh
  have hsum : x_S (h ++ [xA 1 n f]) = x_S h + n := by rw [x_S_push]; rfl
  have hlen : (h ++ [xA 1 n f]).length = h.length + 1 := by rw [List.length_append]; rfl
  refine xW_any (h1 := h ++ [xA 1 n f]) (by rw [hlen]; omega) (by rw [hsum]; omega) (fun a b c => ?_) (fun {p e R s m args below meth c H locs cells slots Q ls ad} o1 o2 fx hp hS hc1 hs hl kk => ?_) kk
  · rw [hlen]
    exact ⟨x_okL_mono a (by omega), x_okS_cons (v := xC h.length) (show h.length < h.length + 1 by omega) (x_okS_mono (x_okS_tl b) (by omega)), x_okH_push c (c _ (List.mem_of_getElem? hc))⟩
  · rw [hlen] at hc1 kk
    rw [hsum] at hs kk
    have e1 : h.length + 1 - h.length = 1 := by omega
    have e2 : x_S h + n - x_S h = n := by omega
    rw [e1] at hc1 kk
    rw [e2] at hs kk
    have ht := fx.2.2.2.2.1
    obtain ⟨w1, w2, w3, w4, w5, w6⟩ := cl_w
    have hcv : x_okC h.length (xA 1 n f) := hp.1 _ (List.mem_of_getElem? hc)
    have hrm : ((x_st ad Z.2.2.2.1 st).map fun v => v.category).sum ≤ 8 := by rw [x_st_cat]; exact hr
    have hfr := fx.2.2.2.2.2.2.1
    have hlo := fx.2.2.2.2.2.2.2.1
    refine va_clone fx.1 fx.2.1 (fx.2.2.1.trans hl.1.symm) (own := "java/util/Arrays") (ad := "[B") (by rw [← hY]; exact fx.2.2.2.1) (ht _ w1) (ht _ w2) (ht _ w3) (ht _ w4) (ht _ w5) fx.2.2.2.2.2.1.2.2.2.2.2.2.2.2.2.2 fx.2.2.2.2.2.1.1 hp.2.1 hp.2.2.1 hS (x_hA fx.2.2.2.2.2.2.2.2.2) a 1 (ty := .byte) (x_w_at hc) rfl (va_nm_byte (fx.2.2.2.2.2.1.1.2 1 (Z.2.2.1 1, .byte) rfl).2) ?_ (by omega) (show ((x_st ad Z.2.2.2.1 st).map fun v => v.category).sum + 14 ≤ R.locals by omega) hc1 hs hd (fun q H1 hK1 hP1 hD1 hS1 => ?_)
    · refine va_fit (F := fun j => .int (Int32.ofInt (f j))) (fun i hi => ?_)
      have h5 : -128 ≤ f i ∧ f i ≤ 127 := hcv i
      exact (x_fit_ok (ty := .byte) (v := xI (f i)) h5 ad Z.2.2.2.1).2
    · have hag : ∀ i, i < h.length → x_ad ad h.length q i = ad i := fun i hi => x_ad_lt hi
      have es : x_w (x_ad ad h.length q) Z.2.2.2.1 Z.2.2.1 (h ++ [xA 1 n f]) = x_w ad Z.2.2.2.1 Z.2.2.1 h ++ [(q, .inl (Z.2.2.1 1, n, x_af 1 f))] := by
        rw [x_w_push hag hp.1, x_ad_n, x_c_eq hag hcv]
        rfl
      have hP1 : va_P Z.2.1 x_cl (x_w ad Z.2.2.2.1 Z.2.2.1 h ++ [(q, .inl (Z.2.2.1 1, n, x_af 1 f))]) H1 := hP1
      have hD1 : va_D (x_A Z) (x_w ad Z.2.2.2.1 Z.2.2.1 h ++ [(q, .inl (Z.2.2.1 1, n, x_af 1 f))]) := hD1
      rw [← es] at hP1 hD1
      have k2 := kk (x_ad ad h.length q) H1 locs ls hag (x_hp_mk fx.2.2.2.2.2.2.2.2.2 hp hS hS1 (x_okH_push hp.1 (x_okC_mono hcv (by omega))) hP1 hD1) hS1 (by rw [x_ls_eq hag o1]; exact hl)
      rw [x_st_cons, x_st_eq hag (x_okS_tl o2)] at k2
      have e3 : x_v (x_ad ad h.length q) Z.2.2.2.1 (xC h.length) = .ref q := congrArg Value.ref x_ad_n
      rw [e3] at k2
      exact k2
theorem x_castB {a n : Nat} {f : Nat → Int} (hY : Y.1.cls = "java/util/Arrays") (hd : decode Y.2.1 pc = .ok (.checkcast 311, 3)) (hc : h[a]? = some (xA 1 n f)) (kk : xW Z d Y (pc + 3) l (xC a :: st) h Q) : xW Z d Y pc l (xC a :: st) h Q := by
  refine xW_any (h1 := h) (Nat.le_refl _) (Nat.le_refl _) (fun a b c => ⟨a, b, c⟩) (fun {p e R s m args below meth c H locs cells slots Q ls ad} o1 o2 fx hp hS hc1 hs hl kk => ?_) kk
  rw [Nat.sub_self, Nat.sub_self] at kk
  have kk := kk ad H locs ls (fun _ _ => rfl) hp hS hl
  obtain ⟨w1, w2, w3, w4, w5, w6⟩ := cl_w
  exact va_castA (own := "java/util/Arrays") fx.1 fx.2.1 (by rw [← hY]; exact fx.2.2.2.1) (fx.2.2.2.2.1 _ w6) hp.2.1 a (x_w_at hc) (va_nm_byte (fx.2.2.2.2.2.1.1.2 1 (Z.2.2.1 1, .byte) rfl).2) hd kk
end XQ
set_option maxRecDepth 40000 in
theorem qn_MP_22 : Cond.classLink "PaperFileModel$Paper" 22 "PaperFileModel$Part" ∈ x_tbl := x_in5 232 (by decide +kernel) rfl
set_option maxRecDepth 40000 in
theorem qn_M_82 : Cond.classLink "PaperFileModel" 82 "PaperFileModel$Part" ∈ x_tbl := x_in6 102 (by decide +kernel) rfl
set_option maxRecDepth 40000 in
theorem qn_M_155 : Cond.classLink "PaperFileModel" 155 "[B" ∈ x_tbl := x_in6 135 (by decide +kernel) rfl
set_option maxRecDepth 40000 in
theorem qn_Ar_311 : Cond.classLink "java/util/Arrays" 311 "[B" ∈ x_tbl := x_in6 165 (by decide +kernel) rfl
