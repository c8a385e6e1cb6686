/-! strings, copies, and what was left -/
section XM
variable {Z : xZ} {d : Nat} {Y : xY} {pc : Nat} {l : xL} {st : List xV} {h h1 : xH} {Q : Option xV → xH → Prop}
theorem x_ldcS {i index : Nat} {tx : String} {bs : List Int} (hd : decode Y.2.1 pc = .ok (.ldc index, 2)) (hs : x_strs[i]? = some (Y.1.cls, index, tx, bs)) (kk : xW Z d Y (pc + 2) l (xS (2 * i + 1) :: st) h Q) : xW Z d Y pc l st h Q := by
  refine xW_any (h1 := h) (Nat.le_refl _) (Nat.le_refl _) (fun a b c => ⟨a, x_okS_cons (v := xS (2 * i + 1)) trivial b, c⟩) (fun {p e R s m args below meth c H locs cells slots Q ls ad} o1 o2 fx hp hS hc1 hs1 hl kk => ?_) kk
  rw [Nat.sub_self, Nat.sub_self] at kk
  exact va_ldcS fx.1 fx.2.1 fx.2.2.2.1 (fx.2.2.2.2.2.1.2.2.2.1 i _ hs).1 hd (kk ad H locs ls (fun _ _ => rfl) hp hS hl)
theorem x_ldcSw {i index : Nat} {tx : String} {bs : List Int} (hd : decode Y.2.1 pc = .ok (.ldc_w index, 3)) (hs : x_strs[i]? = some (Y.1.cls, index, tx, bs)) (kk : xW Z d Y (pc + 3) l (xS (2 * i + 1) :: st) h Q) : xW Z d Y pc l st h Q := by
  refine xW_any (h1 := h) (Nat.le_refl _) (Nat.le_refl _) (fun a b c => ⟨a, x_okS_cons (v := xS (2 * i + 1)) trivial b, c⟩) (fun {p e R s m args below meth c H locs cells slots Q ls ad} o1 o2 fx hp hS hc1 hs1 hl kk => ?_) kk
  rw [Nat.sub_self, Nat.sub_self] at kk
  have kk := kk ad H locs ls (fun _ _ => rfl) hp hS hl
  have hZ := (fx.2.2.2.2.2.1.2.2.2.1 i _ hs).1
  have hb := fx.2.1
  have hx := fx.1
  intro T hT X
  obtain ⟨t, a1, b1⟩ := kk T hT X
  refine ⟨t, ?_, b1⟩
  obtain ⟨k, cf, j, a', hk, hcf, hcp, -, hr, hev'⟩ := Cond.stringRef_spec fx.2.2.2.1 hZ.1
  cases hZ.2.symm.trans hev'
  obtain ⟨k', hk', he⟩ := X.warmed.alike.2.2 _ _ hk
  have hr' : k'.resolved[index]? = some (some (.string (Z.2.2.2.1 (2 * i + 1)))) := by
    rcases X.warmed.entry hk hk' index with h | ⟨h, -⟩
    · rw [h]; exact hr
    · rw [hr] at h; cases h
  have hd2 : decode c.code pc = .ok (.ldc_w index, 3) := by rw [hb]; exact hd
  jvm_step X.here [hx, hd2, ldc_w.wp_string (e := e) (s := T) (f := F0 m pc ls (x_st ad Z.2.2.2.1 st)) X.here.top hk' (by rw [he]; exact hcf) hcp hr']
  exact a1
theorem x_i2c {x : Int} (hd : decode Y.2.1 pc = .ok (.i2c, 1)) (hx : 0 ≤ x ∧ x ≤ 65535) (k : xW Z d Y (pc + 1) l (xI x :: st) h Q) : xW Z d Y pc l (xI x :: st) h Q := by
  refine xW_one (fun _ hs => hs) (fun hx1 hb _ _ _ _ k => lv_i2c hx1 hb hd ?_ k) k
  refine Int32.toBitVec_inj.mp (BitVec.eq_of_toNat_eq ?_)
  show (BitVec.ofInt 32 x % 65536#32).toNat = (BitVec.ofInt 32 x).toNat
  rw [BitVec.toNat_umod, BitVec.toNat_ofInt]
  show _ % 65536 = _
  omega
theorem x_ifnullC {i : Nat} {off : Int} {tgt : Nat} (hd : decode Y.2.1 pc = .ok (.ifnull off, 3)) (_ht : (pc : Int) + off = (tgt : Int)) (kf : xW Z d Y (pc + 3) l st h Q) : xW Z d Y pc l (xC i :: st) h Q := xW_one (fun _ hs => x_okS_tl hs) (fun hx hb _ _ hs _ k => lv_ifnull hx hb hd k) kf
theorem x_ifnullN {off : Int} {tgt : Nat} (hd : decode Y.2.1 pc = .ok (.ifnull off, 3)) (ht : (pc : Int) + off = (tgt : Int)) (kt : xW Z d Y tgt l st h Q) : xW Z d Y pc l (xN :: st) h Q := xW_one (fun _ hs => x_okS_tl hs) (fun hx hb _ _ hs _ k => lv_ifnullN hx hb hd ht k) kt
theorem x_ifnonnullC {i : Nat} {off : Int} {tgt : Nat} (hd : decode Y.2.1 pc = .ok (.ifnonnull off, 3)) (ht : (pc : Int) + off = (tgt : Int)) (kt : xW Z d Y tgt l st h Q) : xW Z d Y pc l (xC i :: st) h Q := xW_one (fun _ hs => x_okS_tl hs) (fun hx hb _ _ hs _ k => lv_ifnonnull hx hb hd ht k) kt
theorem x_ifnonnullN {off : Int} {tgt : Nat} (hd : decode Y.2.1 pc = .ok (.ifnonnull off, 3)) (_ht : (pc : Int) + off = (tgt : Int)) (kf : xW Z d Y (pc + 3) l st h Q) : xW Z d Y pc l (xN :: st) h Q := xW_one (fun _ hs => x_okS_tl hs) (fun hx hb _ _ hs _ k => lv_ifnonnullN hx hb hd k) kf
/-- System.arraycopy of numbers -/
theorem x_arraycopy {index a b t n0 n1 : Nat} {f g : Nat → Int} {sp dp n : Int} (hd : decode Y.2.1 pc = .ok (.invokestatic index, 3)) (hl : Cond.methodLink Y.1.cls index arraycopyName ∈ x_tbl) (hw : Cond.native arraycopyName ∈ x_tbl ∧ Cond.static arraycopyName ∈ x_tbl ∧ Cond.initialized "java/lang/System" ∈ x_tbl) (ht : t = 0 ∨ t = 1) (hc0 : h[a]? = some (xA t n0 f)) (hc1 : h[b]? = some (xA t n1 g)) (h1' : 0 ≤ sp) (h2' : 0 ≤ dp) (h3' : 0 ≤ n) (h4 : sp + n ≤ n0) (h5 : dp + n ≤ n1) (hr : (st.map x_cat).sum ≤ 8) (hdd : 1 ≤ d)
    (hh : h.set b (xA t n1 (va_cpy f g sp.toNat dp.toNat n.toNat)) = h1) (kk : xW Z d Y (pc + 3) l st h1 Q) : xW Z d Y pc l (xI n :: xI dp :: xC b :: xI sp :: xC a :: st) h Q := by
  subst hh
  have hsum : x_S (h.set b (xA t n1 (va_cpy f g sp.toNat dp.toNat n.toNat))) = x_S h := x_S_set hc1 rfl
  have oc : x_okH h → x_okC h.length (xA t n1 (va_cpy f g sp.toNat dp.toNat n.toNat)) := fun c j => by
    show x_ink t (va_cpy f g sp.toNat dp.toNat n.toNat j)
    unfold va_cpy
    split
    · exact c _ (List.mem_of_getElem? hc0) _
    · exact c _ (List.mem_of_getElem? hc1) _
  refine xW_any (h1 := h.set b (xA t n1 (va_cpy f g sp.toNat dp.toNat n.toNat))) (by rw [List.length_set]; exact Nat.le_refl _) (by rw [hsum]; exact Nat.le_refl _) (fun a b c => ?_) (fun {p e R s m args below meth c H locs cells slots Q ls ad} o1 o2 fx hp hS hc9 hs hl1 kk => ?_) kk
  · rw [List.length_set]
    exact ⟨a, x_okS_tl (x_okS_tl (x_okS_tl (x_okS_tl (x_okS_tl b)))), x_okH_set c (oc c)⟩
  · rw [List.length_set, Nat.sub_self, hsum, Nat.sub_self] at kk
    have in1 : x_i32 n := x_okS_hd o2
    have in2 : x_i32 dp := x_okS_hd (x_okS_tl o2)
    have in3 : x_i32 sp := x_okS_hd (x_okS_tl (x_okS_tl (x_okS_tl o2)))
    have neg : ∀ {z : Int}, 0 ≤ z → x_i32 z → ¬ Int32.ofInt z < 0 := fun {z} hz hi q => by
      rw [← x_ofInt_0, x_i32_lt hi x_i32_0] at q
      omega
    have e0 : x_af t f = .inl (fun j => Int32.ofInt (f j)) := by rcases ht with rfl | rfl <;> rfl
    have e1 : x_af t g = .inl (fun j => Int32.ofInt (g j)) := by rcases ht with rfl | rfl <;> rfl
    have e2 : x_af t (va_cpy f g sp.toNat dp.toNat n.toNat) = .inl (va_cpy (fun j => Int32.ofInt (f j)) (fun j => Int32.ofInt (g j)) (Int32.ofInt sp).toNatClampNeg (Int32.ofInt dp).toNatClampNeg (Int32.ofInt n).toNatClampNeg) := by
      rw [x_clamp h1' in3, x_clamp h2' in2, x_clamp h3' in1]
      have : x_af t (va_cpy f g sp.toNat dp.toNat n.toNat) = .inl (fun j => Int32.ofInt (va_cpy f g sp.toNat dp.toNat n.toNat j)) := by rcases ht with rfl | rfl <;> rfl
      rw [this]
      congr 1
      funext j
      unfold va_cpy
      split <;> rfl
    obtain ⟨ty, hty, hrk, hfit⟩ : ∃ ty, (x_tys Z.2.2.1)[t]? = some (Z.2.2.1 t, ty) ∧ refKind ty = false ∧ ∀ x, x_ink t x → fits ty (.int (Int32.ofInt x)) = true := by
      rcases ht with rfl | rfl
      · exact ⟨.int, rfl, rfl, fun x _ => rfl⟩
      · exact ⟨.byte, rfl, rfl, fun x hx => (x_fit_ok (ty := .byte) (v := xI x) hx (fun _ => 0) (fun _ => 0)).2⟩
    have hf := fx.2.2.2.2.2.2.1
    have hlo := fx.2.2.2.2.2.2.2.1
    have w0 := x_w_at (ad := ad) (sa := Z.2.2.2.1) (dA := Z.2.2.1) hc0
    have w1 := x_w_at (ad := ad) (sa := Z.2.2.2.1) (dA := Z.2.2.1) hc1
    have w0 : (x_w ad Z.2.2.2.1 Z.2.2.1 h)[a]? = some (ad a, .inl (Z.2.2.1 t, n0, .inl (fun j => Int32.ofInt (f j)))) := by rw [← e0]; exact w0
    have w1 : (x_w ad Z.2.2.2.1 Z.2.2.1 h)[b]? = some (ad b, .inl (Z.2.2.1 t, n1, .inl (fun j => Int32.ofInt (g j)))) := by rw [← e1]; exact w1
    have hcat : ((x_st ad Z.2.2.2.1 st).map fun v => v.category).sum ≤ 8 := by rw [x_st_cat]; exact hr
    refine va_copyi fx.1 fx.2.1 (fx.2.2.1.trans hl1.1.symm) fx.2.2.2.1 (fx.2.2.2.2.1 _ hl) (fx.2.2.2.2.1 _ hw.1) (fx.2.2.2.2.1 _ hw.2.1) (fx.2.2.2.2.1 _ hw.2.2) fx.2.2.2.2.2.1.1 hp.2.1 hp.2.2.1 hS a b t t w0 w1 hty hty hrk (neg h1' in3) (neg h2' in2) (neg h3' in1) (by rw [x_clamp h1' in3, x_clamp h3' in1]; omega) (by rw [x_clamp h2' in2, x_clamp h3' in1]; omega) (fun i _ => hfit _ (hp.1 _ (List.mem_of_getElem? hc0) _)) (by omega) (Nat.le_trans (Nat.add_le_add_right hcat _) (Nat.le_trans (show 8 + (nativeFrameWords "java/lang/System" "arraycopy" 5 + 11) ≤ 64 by decide +kernel) (by omega))) hd (fun H1 locs1 hP1 hD1 hS1 => ?_)
    have es : (x_w ad Z.2.2.2.1 Z.2.2.1 h).set b (ad b, .inl (Z.2.2.1 t, n1, .inl (va_cpy (fun j => Int32.ofInt (f j)) (fun j => Int32.ofInt (g j)) (Int32.ofInt sp).toNatClampNeg (Int32.ofInt dp).toNatClampNeg (Int32.ofInt n).toNatClampNeg))) = x_w ad Z.2.2.2.1 Z.2.2.1 (h.set b (xA t n1 (va_cpy f g sp.toNat dp.toNat n.toNat))) := by
      rw [x_w_set, ← e2]
      rfl
    have hP1 : va_P Z.2.1 x_cl ((x_w ad Z.2.2.2.1 Z.2.2.1 h).set b (ad b, .inl (Z.2.2.1 t, n1, .inl (va_cpy (fun j => Int32.ofInt (f j)) (fun j => Int32.ofInt (g j)) (Int32.ofInt sp).toNatClampNeg (Int32.ofInt dp).toNatClampNeg (Int32.ofInt n).toNatClampNeg)))) H1 := hP1
    have hD1 : va_D (x_A Z) ((x_w ad Z.2.2.2.1 Z.2.2.1 h).set b (ad b, .inl (Z.2.2.1 t, n1, .inl (va_cpy (fun j => Int32.ofInt (f j)) (fun j => Int32.ofInt (g j)) (Int32.ofInt sp).toNatClampNeg (Int32.ofInt dp).toNatClampNeg (Int32.ofInt n).toNatClampNeg)))) := hD1
    rw [es] at hP1 hD1
    exact kk ad H1 locs1 ls (fun _ _ => rfl) (x_hp_mk fx.2.2.2.2.2.2.2.2.2 hp hS hS1 (x_okH_set hp.1 (oc hp.1)) hP1 hD1) hS1 hl1
end XM
