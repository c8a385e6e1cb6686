/-! the reference: decode -/
/-- what decode leaves of the reference: S what comes out -/
def dcq (q : Nat → Int) (r : Nat → Option Nat) (A : Nat → Nat → Int) (dy : xH) (S : Option (List Int)) : Option xV → xH → Prop := fun v h2 => ∃ mn f46 f47, (S = none ∧ v = some (xI (-4)) ∧ h2 = hF (x_up q 1357 mn) r (x_up (x_up A 46 f46) 47 f47) ++ dy) ∨ (∃ b2 f45, S = some b2 ∧ b2.length ≤ 3000 ∧ v = some (xI (b2.length : Int)) ∧ h2 = hF (x_up (x_up q 1357 mn) 1353 (b2.length : Int)) r (x_up (x_up (x_up A 46 f46) 47 f47) 45 f45) ++ dy ∧ rowb f45 b2)
theorem dcq_rok {q : Nat → Int} {r : Nat → Option Nat} {A : Nat → Nat → Int} {dy : xH} {S : Option (List Int)} {v : Option xV} {h2 : xH} (h : dcq q r A dy S v h2) : x_rok (some .int) v := by
  obtain ⟨_, _, _, ⟨_, e, _⟩ | ⟨_, _, _, _, e, _⟩⟩ := h <;> rw [e] <;> trivial
/-- the end: no more than 3000 bytes -/
def s_3k (x : Option (List Int)) : Option (List Int) := x.bind (fun x => if (x.length : Int) ≤ 3000 then some x else none)
theorem s_3k_no {F : Int → (Nat → Int) → Nat → Option (List Int)} {p : Int} {ps b : List Int} (h : ∀ b2, F p (fun j => b.getD j 0) b.length = some b2 → 3000 < b2.length) : s_3k (s_fold F (p :: ps) b) = none := by
  show s_3k ((F p (fun k => b.getD k 0) b.length).bind _) = none
  cases hF : F p (fun k => b.getD k 0) b.length with
  | none => rfl
  | some b2 =>
    have := h b2 hF
    rw [Option.bind_some, if_neg (by omega)]
    rfl
theorem s_fold_c {F : Int → (Nat → Int) → Nat → Option (List Int)} {p : Int} {ps b b2 : List Int} (h : F p (fun j => b.getD j 0) b.length = some b2) (hl : b2.length ≤ 3000) : s_fold F (p :: ps) b = s_fold F ps b2 := by
  show (F p (fun k => b.getD k 0) b.length).bind _ = _
  rw [h, Option.bind_some, if_pos (by omega)]
theorem w_M_decode_245 (Z : xZ) (d : Nat) (q : Nat → Int) (r : Nat → Option Nat) (A : Nat → Nat → Int) (dy : xH) (hd : 1 ≤ d) (b : List Int) (hb : b.length ≤ 4000) (mn : Int) (f46 f47 : Nat → Int) (hrb : rowb f46 b) : xW Z d Y_M_decode 245 [(0, xC 42), (1, xI (b.length : Int))] [] (hF (x_up q 1357 mn) r (x_up (x_up A 46 f46) 47 f47) ++ dy) (dcq q r A dy (s_3k (some b))) := by
  have hs : s_3k (some b) = if (b.length : Int) ≤ 3000 then some b else none := rfl
  refine x_iload_n (x_d C_M_decode 119 rfl) rfl ?_
  refine x_sipush (x_d C_M_decode 120 rfl) (by omega) ?_
  refine x_icmp_le (tgt := 255) (x_d C_M_decode 121 rfl) rfl (fun c1 => ?_) (fun c1 => ?_)
  · refine x_aload_n (x_d C_M_decode 124 rfl) rfl ?_
    refine x_getfield (v := xC 46) (x_d C_M_decode 125 rfl) f_M_173 rfl rfl ?_
    refine x_iconst (x_d C_M_decode 126 rfl) ⟨by omega, by omega⟩ ?_
    refine x_aload_n (x_d C_M_decode 127 rfl) rfl ?_
    refine x_getfield (v := xC 45) (x_d C_M_decode 128 rfl) f_M_170 rfl rfl ?_
    refine x_iconst (x_d C_M_decode 129 rfl) ⟨by omega, by omega⟩ ?_
    refine x_iload_n (x_d C_M_decode 130 rfl) rfl ?_
    refine x_arraycopy (st := []) (h1 := hF (x_up q 1357 mn) r (x_up (x_up (x_up A 46 f46) 47 f47) 45 (va_cpy f46 (A 45) (0 : Int).toNat (0 : Int).toNat ((b.length : Int) : Int).toNat)) ++ dy) (x_d C_M_decode 131 rfl) ac_M_323 ac_w (Or.inr rfl) rfl rfl (by omega) (by omega) (by omega) (by omega) (by omega) (Nat.le_of_ble_eq_true rfl) (by omega) rfl ?_
    refine x_aload_n (x_d C_M_decode 132 rfl) rfl ?_
    refine x_iload_n (x_d C_M_decode 133 rfl) rfl ?_
    refine x_putfield (h1 := hF (x_up (x_up q 1357 mn) 1353 ((b.length : Int))) r (x_up (x_up (x_up A 46 f46) 47 f47) 45 (va_cpy f46 (A 45) (0 : Int).toNat (0 : Int).toNat ((b.length : Int) : Int).toNat)) ++ dy) (x_d C_M_decode 134 rfl) p_M_329 rfl rfl rfl trivial rfl ?_
    refine x_iload_n (x_d C_M_decode 135 rfl) rfl ?_
    refine x_ireturn (x_d C_M_decode 136 rfl) ?_
    refine ⟨mn, f46, f47, Or.inr ⟨b, _, by rw [hs, if_pos (by omega)], by omega, rfl, rfl, fun j hj => ?_⟩⟩
    unfold va_cpy
    rw [if_pos (by omega), show (0 : Int).toNat + (j - (0 : Int).toNat) = j by omega]
    exact hrb j hj
  · refine x_bipush (x_d C_M_decode 122 rfl) (by omega) ?_
    refine x_ireturn (x_d C_M_decode 123 rfl) ?_
    exact ⟨mn, f46, f47, Or.inl ⟨by rw [hs, if_neg (by omega)], rfl, rfl⟩⟩
theorem w_M_decode_118a (Z : xZ) (d : Nat) (q : Nat → Int) (r : Nat → Option Nat) (A : Nat → Nat → Int) (dy : xH) (hd : 5 ≤ d) (X : Nat → Int) (E : Int) (g : Nat → Option xE) (P : Nat → Nat → Int) (hgk : gok g dy) (D : Nat) (n2 : Int) (hE : E ≤ n2) (cf ci cap : Nat) (pf x y m : Int) (bt nm : Option Nat) (fi : Nat → Option Nat) (L : List Int) (hcf : g cf = some (xB 12 [xI (P 5 pf.toNat), xI x, xI y, xI m, xO bt, xC ci, xO nm])) (hkf : P 5 pf.toNat = 6) (hci : g ci = some (xQ 4 cap fi)) (hl : L.length ≤ cap ∧ cap ≤ 300 ∧ L.length ≤ 60) (hit : ∀ k, k < L.length → ∃ c, fi k = some c ∧ Tr X E g P (D + 1) (L.getD k 0) c) : ∀ (u : Nat) (k : Int) (b : List Int) (mn : Int) (f46 f47 : Nat → Int), (0 ≤ k ∧ k + u = L.length) → b.length ≤ 4000 → rowb f46 b → xW Z d Y_M_decode 118 [(0, xC 42), (1, xI (b.length : Int)), (2, xC cf), (3, xI (L.length : Int)), (4, xI k)] [] (hF (x_up q 1357 mn) r (x_up (x_up A 46 f46) 47 f47) ++ dy) (dcq q r A dy (s_3k (s_fold (s_flt (P 5) (P 6) (P 7) X n2) (L.drop k.toNat) b))) := by
  intro u
  induction u with
  | zero =>
    intro k b mn f46 f47 hk hb hrb
    have hdr : L.drop k.toNat = [] := List.drop_eq_nil_of_le (by omega)
    rw [hdr]
    refine x_iload (x_d C_M_decode 59 rfl) rfl ?_
    refine x_iload_n (x_d C_M_decode 60 rfl) rfl ?_
    refine x_icmp_ge (tgt := 245) (x_d C_M_decode 61 rfl) rfl (fun _ => ?_) (fun q => absurd q (by omega))
    refine x_locs [0, 1] rfl ?_
    exact w_M_decode_245 Z d q r A dy (by omega) b hb mn f46 f47 hrb
  | succ u ih =>
    intro k b mn f46 f47 hk hb hrb
    have hkl : k.toNat < L.length := by omega
    have hdr : L.drop k.toNat = L.getD k.toNat 0 :: L.drop (k.toNat + 1) := by
      rw [List.getD_eq_getElem?_getD, List.getElem?_eq_getElem hkl, List.drop_eq_getElem_cons hkl]
      rfl
    obtain ⟨c5, hc5, ht5⟩ := hit k.toNat hkl
    rw [hdr]
    refine x_iload (x_d C_M_decode 59 rfl) rfl ?_
    refine x_iload_n (x_d C_M_decode 60 rfl) rfl ?_
    refine x_icmp_ge (tgt := 245) (x_d C_M_decode 61 rfl) rfl (fun q => absurd q (by omega)) (fun _ => ?_)
    refine x_aload_n (x_d C_M_decode 62 rfl) rfl ?_
    refine x_getfield (v := xI (P 5 pf.toNat)) (x_d C_M_decode 63 rfl) f_M_261 (ct_get (hgk _ _ hcf) _ _ _) rfl ?_
    refine x_iconst (x_d C_M_decode 64 rfl) ⟨by omega, by omega⟩ ?_
    refine x_icmp_ne (tgt := 136) (x_d C_M_decode 65 rfl) rfl (fun _ => ?_) (fun q => absurd q (by omega))
    refine x_aload_n (x_d C_M_decode 68 rfl) rfl ?_
    refine x_getfield (v := xC ci) (x_d C_M_decode 69 rfl) f_M_141 (ct_get (hgk _ _ hcf) _ _ _) rfl ?_
    refine x_iload (x_d C_M_decode 70 rfl) rfl ?_
    refine x_aaload (x_d C_M_decode 71 rfl) (ct_get (hgk _ _ hci) _ _ _) (by omega) (by omega) ?_
    rw [hc5]
    refine x_astore (l1 := [(5, xC c5), (0, xC 42), (1, xI ((b.length : Int))), (2, xC cf), (3, xI ((L.length : Int))), (4, xI (k))]) (x_d C_M_decode 72 rfl) (by decide) rfl ?_
    refine x_locs [1, 2, 3, 4, 5, 0] rfl ?_
    refine w_M_decode_145 Z d q r A dy hd X E g P hgk D n2 hE (L.getD k.toNat 0) c5 cf k (L.length : Int) (by omega) ht5 b hb mn f46 f47 hrb _ (fun hno mn9 f9 => ⟨mn9, f46, f9, Or.inl ⟨s_3k_no hno, rfl, rfl⟩⟩) (fun b2 h1 h2 mn9 f9 g9 h3 => ?_)
    rw [s_fold_c h1 h2]
    have := ih (k + 1) b2 mn9 f9 g9 (by omega) (by omega) h3
    rw [show (k + 1).toNat = k.toNat + 1 by omega] at this
    exact this
theorem c_M_decode (Z : xZ) (d : Nat) (q : Nat → Int) (r r0 : Nat → Option Nat) (A : Nat → Nat → Int) (dy : xH) (hd : 6 ≤ d) (X : Nat → Int) (E : Int) (g : Nat → Option xE) (P : Nat → Nat → Int) (hgk : gok g dy) (D : Nat) (hD : D ≤ 8) (p : Int) (c : Nat) (ht : Tr X E g P (D + 1) p c) (fo : Option Nat) (hr : r = (x_up (x_up r0 1350 fo) 1351 (some c))) (n2 : Int) (hE : E ≤ n2) : xMet Z d Y_M_decode [xC 42] (hF q r A ++ dy) (fun v h2 => (¬ P 5 p.toNat = 9 ∧ v = some (xI (-2)) ∧ h2 = hF q r A ++ dy) ∨ (P 5 p.toNat = 9 ∧ (dcq q r A dy (s_dec (P 5) (P 6) (P 7) (P 8) (P 9) X n2 p)) v h2)) := by
  refine xMet_of (by decide) (Nat.le_of_ble_eq_true rfl) (fun v h2 hq => by rcases hq with ⟨_, e, _⟩ | ⟨_, hq⟩; rw [e]; trivial; exact dcq_rok hq) ?_
  have ht2 := ht
  obtain ⟨h0, x, y, m, bt, it, nm, hc, hL, hm, h60, hch, L, k1, k2, k3, k4, k5, k6, k7, k8⟩ := Tr_o ht2
  have hLe : s_in (P 8) p = L := by unfold s_in; exact s_ch_K k1
  rw [hLe] at hm h60
  have hps : r 1351 = some c := by rw [hr]; exact x_up_s _ _ _
  have hrr : r = x_up r 1351 (some c) := by rw [← hps]; exact (x_up_same r 1351).symm
  refine x_heq (h1 := hF q (x_up r 1351 (some c)) A ++ dy) (by rw [← hrr]) ?_
  by_cases k9 : P 5 p.toNat = 9
  · obtain ⟨e6, e7, e8, e9, cb, fb, rfl, hb, hfb⟩ := hL.2.2.2.1 (Or.inr k9)
    refine x_aload_n (x_d C_M_decode 0 rfl) rfl ?_
    refine x_getfield (v := xC c) (x_d C_M_decode 1 rfl) f_M_211 rfl rfl ?_
    refine x_ifnullC (tgt := 19) (x_d C_M_decode 2 rfl) rfl ?_
    refine x_aload_n (x_d C_M_decode 3 rfl) rfl ?_
    refine x_getfield (v := xC c) (x_d C_M_decode 4 rfl) f_M_211 rfl rfl ?_
    refine x_getfield (v := xI (P 5 p.toNat)) (x_d C_M_decode 5 rfl) f_M_261 (ct_get (hgk _ _ hc) _ _ _) rfl ?_
    refine x_bipush (x_d C_M_decode 6 rfl) (by omega) ?_
    refine x_icmp_eq (tgt := 22) (x_d C_M_decode 7 rfl) rfl (fun _ => ?_) (fun q => absurd q (by omega))
    refine x_aload_n (x_d C_M_decode 10 rfl) rfl ?_
    refine x_getfield (v := xC c) (x_d C_M_decode 11 rfl) f_M_211 rfl rfl ?_
    refine x_getfield (v := xC cb) (x_d C_M_decode 12 rfl) f_M_119 (ct_get (hgk _ _ hc) _ _ _) rfl ?_
    refine x_iconst (x_d C_M_decode 13 rfl) ⟨by omega, by omega⟩ ?_
    refine x_aload_n (x_d C_M_decode 14 rfl) rfl ?_
    refine x_getfield (v := xC 46) (x_d C_M_decode 15 rfl) f_M_173 rfl rfl ?_
    refine x_iconst (x_d C_M_decode 16 rfl) ⟨by omega, by omega⟩ ?_
    refine x_aload_n (x_d C_M_decode 17 rfl) rfl ?_
    refine x_getfield (v := xC c) (x_d C_M_decode 18 rfl) f_M_211 rfl rfl ?_
    refine x_getfield (v := xC cb) (x_d C_M_decode 19 rfl) f_M_119 (ct_get (hgk _ _ hc) _ _ _) rfl ?_
    refine x_arraylength (x_d C_M_decode 20 rfl) (ct_get (hgk _ _ hb) _ _ _) (by decide) (by omega) ?_
    refine x_arraycopy (st := []) (h1 := hF q (x_up r 1351 (some c)) (x_up A 46 (va_cpy fb (A 46) (0 : Int).toNat (0 : Int).toNat (((P 7 p.toNat).toNat : Nat) : Int).toNat)) ++ dy) (x_d C_M_decode 21 rfl) ac_M_323 ac_w (Or.inr rfl) (ct_get (hgk _ _ hb) _ _ _) rfl (by omega) (by omega) (by omega) (by omega) (by omega) (Nat.le_of_ble_eq_true rfl) (by omega) rfl ?_
    refine x_aload_n (x_d C_M_decode 22 rfl) rfl ?_
    refine x_getfield (v := xC c) (x_d C_M_decode 23 rfl) f_M_211 rfl rfl ?_
    refine x_getfield (v := xC cb) (x_d C_M_decode 24 rfl) f_M_119 (ct_get (hgk _ _ hc) _ _ _) rfl ?_
    refine x_arraylength (x_d C_M_decode 25 rfl) (ct_get (hgk _ _ hb) _ _ _) (by decide) (by omega) ?_
    refine x_istore_n (l1 := [(1, xI ((((P 7 p.toNat).toNat : Nat) : Int))), (0, xC 42)]) (x_d C_M_decode 26 rfl) (by decide) rfl ?_
    refine x_aload_n (x_d C_M_decode 27 rfl) rfl ?_
    refine x_getfield (v := xC c) (x_d C_M_decode 28 rfl) f_M_211 rfl rfl ?_
    refine x_ldcSw (i := 71) (x_d C_M_decode 29 rfl) rfl ?_
    obtain ⟨b0, hb0⟩ : ∃ z, z = s_sl X (P 6 p.toNat).toNat (P 7 p.toNat).toNat := ⟨_, rfl⟩
    have hbl : b0.length = (P 7 p.toNat).toNat := by rw [hb0, s_sl_len]
    have hrb : rowb (va_cpy fb (A 46) (0 : Int).toNat (0 : Int).toNat (((P 7 p.toNat).toNat : Nat) : Int).toNat) b0 := fun j hj => by
      unfold va_cpy
      rw [if_pos (by omega), show (0 : Int).toNat + (j - (0 : Int).toNat) = j by omega, hb0, s_sl_get X _ _ j (by omega)]
      exact hfb j (by omega)
    have hsd : s_dec (P 5) (P 6) (P 7) (P 8) (P 9) X n2 p = s_3k (s_fold (s_flt (P 5) (P 6) (P 7) X n2) (s_fls (P 5) (P 6) (P 7) (P 8) (P 9) X n2 p) b0) := by rw [hb0]; rfl
    obtain ⟨fl, hfl⟩ : ∃ z, z = s_first (fun t => decide (0 ≤ s_the X n2 (P 9 t.toNat) [70, 105, 108, 116, 101, 114])) (s_in (P 8) p) := ⟨_, rfl⟩
    have hfs : s_fls (P 5) (P 6) (P 7) (P 8) (P 9) X n2 p = if fl < 0 then [] else if P 5 fl.toNat = 6 then s_in (P 8) fl else [fl] := by rw [hfl]; rfl
    generalize va_cpy fb (A 46) (0 : Int).toNat (0 : Int).toNat (((P 7 p.toNat).toNat : Nat) : Int).toNat = f46 at hrb ⊢
    refine x_invokevirtual (st := []) (av := [xS (2 * 71 + 1)]) (x_d C_M_decode 30 rfl) k_M_256 m_MQ_get2 v_MQ_get2 cl_MQ (ct_get (hgk _ _ hc) _ _ _) rfl (Nat.le_of_ble_eq_true rfl) (by omega) rfl (t_get2 Z (d - 1) (hF q (x_up r 1351 (some c)) (x_up A 46 f46) ++ dy) X E g P D p c (gh_of hgk _ _ _) ht (by omega) (si := 71) rfl (by decide) (by decide) n2 hE) ?_
    rintro v_ h_ ⟨hh_, xo, hv_, hg2⟩
    rw [hh_]
    clear hh_
    obtain rfl := hv_
    have hg2 : (fl = -1 ∧ xo = none) ∨ (0 ≤ fl ∧ fl ∈ s_in (P 8) p ∧ ∃ c2, xo = some c2 ∧ Tr X E g P D fl c2) := by rw [hfl]; exact hg2
    refine xW_post (fun v h2 hq => Or.inr ⟨k9, hq⟩) ?_
    rw [hsd, hfs]
    refine x_heq (h1 := hF (x_up q 1357 (q 1357)) r (x_up (x_up A 46 f46) 47 (A 47)) ++ dy) (by rw [x_up_same q 1357, ← hrr, show x_up (x_up A 46 f46) 47 (A 47) = x_up A 46 f46 from x_up_same (x_up A 46 f46) 47]) ?_
    generalize q 1357 = mn
    generalize A 47 = f47
    rw [show (((P 7 p.toNat).toNat : Nat) : Int) = (b0.length : Int) by omega]
    have hb4 : b0.length ≤ 4000 := by omega
    rcases hg2 with ⟨hfn, rfl⟩ | ⟨hf0, hfm, c2, rfl, ht2⟩
    · rw [if_pos (by omega)]
      refine x_astore_n (l1 := [(2, xN), (1, xI ((b0.length : Int))), (0, xC 42)]) (x_d C_M_decode 31 rfl) (by decide) rfl ?_
      refine x_aload_n (x_d C_M_decode 32 rfl) rfl ?_
      refine x_ifnullN (tgt := 90) (x_d C_M_decode 33 rfl) rfl ?_
      refine x_aload_n (x_d C_M_decode 44 rfl) rfl ?_
      refine x_ifnonnullN (tgt := 98) (x_d C_M_decode 45 rfl) rfl ?_
      refine x_iconst (x_d C_M_decode 46 rfl) ⟨by omega, by omega⟩ ?_
      refine x_goto (tgt := 114) (x_d C_M_decode 47 rfl) rfl ?_
      refine x_istore_n (l1 := [(3, xI (0)), (2, xN), (1, xI ((b0.length : Int))), (0, xC 42)]) (x_d C_M_decode 56 rfl) (by decide) rfl ?_
      refine x_iconst (x_d C_M_decode 57 rfl) ⟨by omega, by omega⟩ ?_
      refine x_istore (l1 := [(4, xI (0)), (3, xI (0)), (2, xN), (1, xI ((b0.length : Int))), (0, xC 42)]) (x_d C_M_decode 58 rfl) (by decide) rfl ?_
      refine x_iload (x_d C_M_decode 59 rfl) rfl ?_
      refine x_iload_n (x_d C_M_decode 60 rfl) rfl ?_
      refine x_icmp_ge (tgt := 245) (x_d C_M_decode 61 rfl) rfl (fun _ => ?_) (fun q => absurd q (by omega))
      refine x_locs [4, 3] rfl ?_
      exact w_M_decode_245 Z d q r A dy (by omega) b0 hb4 mn f46 f47 hrb
    · rw [if_neg (by omega)]
      cases D with
      | zero => exact ht2.elim
      | succ D =>
        have ht3 := ht2
        obtain ⟨h02, x2, y2, m2, bt2, it2, nm2, hcf, hL2, hm2, h602, hch2, L2, l1, l2, l3, l4, -⟩ := Tr_o ht3
        have hL2e : s_in (P 8) fl = L2 := by unfold s_in; exact s_ch_K l1
        by_cases k4 : P 5 fl.toNat = 4
        · rw [if_neg (by omega)]
          refine x_astore_n (l1 := [(2, xC c2), (1, xI ((b0.length : Int))), (0, xC 42)]) (x_d C_M_decode 31 rfl) (by decide) rfl ?_
          refine x_aload_n (x_d C_M_decode 32 rfl) rfl ?_
          refine x_ifnullC (tgt := 90) (x_d C_M_decode 33 rfl) rfl ?_
          refine x_aload_n (x_d C_M_decode 34 rfl) rfl ?_
          refine x_getfield (v := xI (P 5 fl.toNat)) (x_d C_M_decode 35 rfl) f_M_261 (ct_get (hgk _ _ hcf) _ _ _) rfl ?_
          refine x_iconst (x_d C_M_decode 36 rfl) ⟨by omega, by omega⟩ ?_
          refine x_icmp_eq (tgt := 90) (x_d C_M_decode 37 rfl) rfl (fun _ => ?_) (fun q => absurd q (by omega))
          refine x_aload_n (x_d C_M_decode 44 rfl) rfl ?_
          refine x_ifnonnullC (tgt := 98) (x_d C_M_decode 45 rfl) rfl ?_
          refine x_aload_n (x_d C_M_decode 48 rfl) rfl ?_
          refine x_getfield (v := xI (P 5 fl.toNat)) (x_d C_M_decode 49 rfl) f_M_261 (ct_get (hgk _ _ hcf) _ _ _) rfl ?_
          refine x_iconst (x_d C_M_decode 50 rfl) ⟨by omega, by omega⟩ ?_
          refine x_icmp_ne (tgt := 110) (x_d C_M_decode 51 rfl) rfl (fun q => absurd q (by omega)) (fun _ => ?_)
          refine x_iconst (x_d C_M_decode 52 rfl) ⟨by omega, by omega⟩ ?_
          refine x_goto (tgt := 114) (x_d C_M_decode 53 rfl) rfl ?_
          refine x_istore_n (l1 := [(3, xI (1)), (2, xC c2), (1, xI ((b0.length : Int))), (0, xC 42)]) (x_d C_M_decode 56 rfl) (by decide) rfl ?_
          refine x_iconst (x_d C_M_decode 57 rfl) ⟨by omega, by omega⟩ ?_
          refine x_istore (l1 := [(4, xI (0)), (3, xI (1)), (2, xC c2), (1, xI ((b0.length : Int))), (0, xC 42)]) (x_d C_M_decode 58 rfl) (by decide) rfl ?_
          refine x_iload (x_d C_M_decode 59 rfl) rfl ?_
          refine x_iload_n (x_d C_M_decode 60 rfl) rfl ?_
          refine x_icmp_ge (tgt := 245) (x_d C_M_decode 61 rfl) rfl (fun q => absurd q (by omega)) (fun _ => ?_)
          refine x_aload_n (x_d C_M_decode 62 rfl) rfl ?_
          refine x_getfield (v := xI (P 5 fl.toNat)) (x_d C_M_decode 63 rfl) f_M_261 (ct_get (hgk _ _ hcf) _ _ _) rfl ?_
          refine x_iconst (x_d C_M_decode 64 rfl) ⟨by omega, by omega⟩ ?_
          refine x_icmp_ne (tgt := 136) (x_d C_M_decode 65 rfl) rfl (fun q => absurd q (by omega)) (fun _ => ?_)
          refine x_aload_n (x_d C_M_decode 66 rfl) rfl ?_
          refine x_goto (tgt := 143) (x_d C_M_decode 67 rfl) rfl ?_
          refine x_astore (l1 := [(5, xC c2), (4, xI (0)), (3, xI (1)), (2, xC c2), (1, xI ((b0.length : Int))), (0, xC 42)]) (x_d C_M_decode 72 rfl) (by decide) rfl ?_
          refine x_locs [5, 4, 3, 2, 1, 0] rfl ?_
          refine w_M_decode_145 Z d q r A dy (by omega) X E g P hgk D n2 hE fl c2 c2 0 1 (by omega) ht2 b0 hb4 mn f46 f47 hrb _ (fun hno mn9 f9 => ⟨mn9, f46, f9, Or.inl ⟨s_3k_no hno, rfl, rfl⟩⟩) (fun b2 h1 h2 mn9 f9 g9 h3 => ?_)
          rw [s_fold_c h1 h2]
          refine x_iload (x_d C_M_decode 59 rfl) rfl ?_
          refine x_iload_n (x_d C_M_decode 60 rfl) rfl ?_
          refine x_icmp_ge (tgt := 245) (x_d C_M_decode 61 rfl) rfl (fun _ => ?_) (fun q => absurd q (by omega))
          refine x_locs [0, 1] rfl ?_
          exact w_M_decode_245 Z d q r A dy (by omega) b2 (by omega) mn9 f9 g9 h3
        · by_cases k6 : P 5 fl.toNat = 6
          · obtain ⟨ci, cap, fi, rfl, e2, e3, e4, e5⟩ := l4 (Or.inl k6)
            rw [if_pos k6, hL2e]
            cases D with
            | zero =>
              have hl0 : L2 = [] := by
                cases L2 with
                | nil => rfl
                | cons z l =>
                  obtain ⟨_, _, hz⟩ := e5 0 (by simp)
                  exact hz.elim
              subst hl0
              refine x_astore_n (l1 := [(2, xC c2), (1, xI ((b0.length : Int))), (0, xC 42)]) (x_d C_M_decode 31 rfl) (by decide) rfl ?_
              refine x_aload_n (x_d C_M_decode 32 rfl) rfl ?_
              refine x_ifnullC (tgt := 90) (x_d C_M_decode 33 rfl) rfl ?_
              refine x_aload_n (x_d C_M_decode 34 rfl) rfl ?_
              refine x_getfield (v := xI (P 5 fl.toNat)) (x_d C_M_decode 35 rfl) f_M_261 (ct_get (hgk _ _ hcf) _ _ _) rfl ?_
              refine x_iconst (x_d C_M_decode 36 rfl) ⟨by omega, by omega⟩ ?_
              refine x_icmp_eq (tgt := 90) (x_d C_M_decode 37 rfl) rfl (fun q => absurd q (by omega)) (fun _ => ?_)
              refine x_aload_n (x_d C_M_decode 38 rfl) rfl ?_
              refine x_getfield (v := xI (P 5 fl.toNat)) (x_d C_M_decode 39 rfl) f_M_261 (ct_get (hgk _ _ hcf) _ _ _) rfl ?_
              refine x_bipush (x_d C_M_decode 40 rfl) (by omega) ?_
              refine x_icmp_eq (tgt := 90) (x_d C_M_decode 41 rfl) rfl (fun _ => ?_) (fun q => absurd q (by omega))
              refine x_aload_n (x_d C_M_decode 44 rfl) rfl ?_
              refine x_ifnonnullC (tgt := 98) (x_d C_M_decode 45 rfl) rfl ?_
              refine x_aload_n (x_d C_M_decode 48 rfl) rfl ?_
              refine x_getfield (v := xI (P 5 fl.toNat)) (x_d C_M_decode 49 rfl) f_M_261 (ct_get (hgk _ _ hcf) _ _ _) rfl ?_
              refine x_iconst (x_d C_M_decode 50 rfl) ⟨by omega, by omega⟩ ?_
              refine x_icmp_ne (tgt := 110) (x_d C_M_decode 51 rfl) rfl (fun _ => ?_) (fun q => absurd q (by omega))
              refine x_aload_n (x_d C_M_decode 54 rfl) rfl ?_
              refine x_getfield (v := xI (m2)) (x_d C_M_decode 55 rfl) f_M_145 (ct_get (hgk _ _ hcf) _ _ _) rfl ?_
              refine x_istore_n (l1 := [(3, xI (m2)), (2, xC c2), (1, xI ((b0.length : Int))), (0, xC 42)]) (x_d C_M_decode 56 rfl) (by decide) rfl ?_
              refine x_iconst (x_d C_M_decode 57 rfl) ⟨by omega, by omega⟩ ?_
              refine x_istore (l1 := [(4, xI (0)), (3, xI (m2)), (2, xC c2), (1, xI ((b0.length : Int))), (0, xC 42)]) (x_d C_M_decode 58 rfl) (by decide) rfl ?_
              refine x_locs [4, 3, 2, 1, 0] rfl ?_
              rw [show m2 = (0 : Int) from l2]
              refine x_iload (x_d C_M_decode 59 rfl) rfl ?_
              refine x_iload_n (x_d C_M_decode 60 rfl) rfl ?_
              refine x_icmp_ge (tgt := 245) (x_d C_M_decode 61 rfl) rfl (fun _ => ?_) (fun q => absurd q (by omega))
              refine x_locs [0, 1] rfl ?_
              exact w_M_decode_245 Z d q r A dy (by omega) b0 hb4 mn f46 f47 hrb
            | succ D =>
              refine x_astore_n (l1 := [(2, xC c2), (1, xI ((b0.length : Int))), (0, xC 42)]) (x_d C_M_decode 31 rfl) (by decide) rfl ?_
              refine x_aload_n (x_d C_M_decode 32 rfl) rfl ?_
              refine x_ifnullC (tgt := 90) (x_d C_M_decode 33 rfl) rfl ?_
              refine x_aload_n (x_d C_M_decode 34 rfl) rfl ?_
              refine x_getfield (v := xI (P 5 fl.toNat)) (x_d C_M_decode 35 rfl) f_M_261 (ct_get (hgk _ _ hcf) _ _ _) rfl ?_
              refine x_iconst (x_d C_M_decode 36 rfl) ⟨by omega, by omega⟩ ?_
              refine x_icmp_eq (tgt := 90) (x_d C_M_decode 37 rfl) rfl (fun q => absurd q (by omega)) (fun _ => ?_)
              refine x_aload_n (x_d C_M_decode 38 rfl) rfl ?_
              refine x_getfield (v := xI (P 5 fl.toNat)) (x_d C_M_decode 39 rfl) f_M_261 (ct_get (hgk _ _ hcf) _ _ _) rfl ?_
              refine x_bipush (x_d C_M_decode 40 rfl) (by omega) ?_
              refine x_icmp_eq (tgt := 90) (x_d C_M_decode 41 rfl) rfl (fun _ => ?_) (fun q => absurd q (by omega))
              refine x_aload_n (x_d C_M_decode 44 rfl) rfl ?_
              refine x_ifnonnullC (tgt := 98) (x_d C_M_decode 45 rfl) rfl ?_
              refine x_aload_n (x_d C_M_decode 48 rfl) rfl ?_
              refine x_getfield (v := xI (P 5 fl.toNat)) (x_d C_M_decode 49 rfl) f_M_261 (ct_get (hgk _ _ hcf) _ _ _) rfl ?_
              refine x_iconst (x_d C_M_decode 50 rfl) ⟨by omega, by omega⟩ ?_
              refine x_icmp_ne (tgt := 110) (x_d C_M_decode 51 rfl) rfl (fun _ => ?_) (fun q => absurd q (by omega))
              refine x_aload_n (x_d C_M_decode 54 rfl) rfl ?_
              refine x_getfield (v := xI (m2)) (x_d C_M_decode 55 rfl) f_M_145 (ct_get (hgk _ _ hcf) _ _ _) rfl ?_
              refine x_istore_n (l1 := [(3, xI (m2)), (2, xC c2), (1, xI ((b0.length : Int))), (0, xC 42)]) (x_d C_M_decode 56 rfl) (by decide) rfl ?_
              refine x_iconst (x_d C_M_decode 57 rfl) ⟨by omega, by omega⟩ ?_
              refine x_istore (l1 := [(4, xI (0)), (3, xI (m2)), (2, xC c2), (1, xI ((b0.length : Int))), (0, xC 42)]) (x_d C_M_decode 58 rfl) (by decide) rfl ?_
              refine x_locs [4, 3, 2, 1, 0] rfl ?_
              rw [show m2 = (L2.length : Int) from l2]
              exact w_M_decode_118a Z d q r A dy (by omega) X E g P hgk D n2 hE c2 ci cap fl x2 y2 m2 bt2 nm2 fi L2 hcf k6 e2 ⟨e3, e4, l3⟩ e5 L2.length 0 b0 mn f46 f47 (by omega) hb4 hrb
          · rw [if_neg k6]
            refine x_astore_n (l1 := [(2, xC c2), (1, xI ((b0.length : Int))), (0, xC 42)]) (x_d C_M_decode 31 rfl) (by decide) rfl ?_
            refine x_aload_n (x_d C_M_decode 32 rfl) rfl ?_
            refine x_ifnullC (tgt := 90) (x_d C_M_decode 33 rfl) rfl ?_
            refine x_aload_n (x_d C_M_decode 34 rfl) rfl ?_
            refine x_getfield (v := xI (P 5 fl.toNat)) (x_d C_M_decode 35 rfl) f_M_261 (ct_get (hgk _ _ hcf) _ _ _) rfl ?_
            refine x_iconst (x_d C_M_decode 36 rfl) ⟨by omega, by omega⟩ ?_
            refine x_icmp_eq (tgt := 90) (x_d C_M_decode 37 rfl) rfl (fun q => absurd q (by omega)) (fun _ => ?_)
            refine x_aload_n (x_d C_M_decode 38 rfl) rfl ?_
            refine x_getfield (v := xI (P 5 fl.toNat)) (x_d C_M_decode 39 rfl) f_M_261 (ct_get (hgk _ _ hcf) _ _ _) rfl ?_
            refine x_bipush (x_d C_M_decode 40 rfl) (by omega) ?_
            refine x_icmp_eq (tgt := 90) (x_d C_M_decode 41 rfl) rfl (fun q => absurd q (by omega)) (fun _ => ?_)
            refine x_bipush (x_d C_M_decode 42 rfl) (by omega) ?_
            refine x_ireturn (x_d C_M_decode 43 rfl) ?_
            refine ⟨mn, f46, f47, Or.inl ⟨s_3k_no (fun b2 hb2 => ?_), rfl, rfl⟩⟩
            exfalso
            have hN : ∀ cs, s_isN (P 5) (P 6) (P 7) X n2 fl cs = false := fun cs => by unfold s_isN; exact decide_eq_false (fun z => k4 z.2.1)
            unfold s_flt at hb2
            rw [hN, hN, hN] at hb2
            cases hb2
  · refine x_aload_n (x_d C_M_decode 0 rfl) rfl ?_
    refine x_getfield (v := xC c) (x_d C_M_decode 1 rfl) f_M_211 rfl rfl ?_
    refine x_ifnullC (tgt := 19) (x_d C_M_decode 2 rfl) rfl ?_
    refine x_aload_n (x_d C_M_decode 3 rfl) rfl ?_
    refine x_getfield (v := xC c) (x_d C_M_decode 4 rfl) f_M_211 rfl rfl ?_
    refine x_getfield (v := xI (P 5 p.toNat)) (x_d C_M_decode 5 rfl) f_M_261 (ct_get (hgk _ _ hc) _ _ _) rfl ?_
    refine x_bipush (x_d C_M_decode 6 rfl) (by omega) ?_
    refine x_icmp_eq (tgt := 22) (x_d C_M_decode 7 rfl) rfl (fun q => absurd q (by omega)) (fun _ => ?_)
    refine x_bipush (x_d C_M_decode 8 rfl) (by omega) ?_
    refine x_ireturn (x_d C_M_decode 9 rfl) ?_
    exact Or.inl ⟨k9, rfl, by rw [← hrr]⟩
theorem c_M_decodeN (Z : xZ) (d : Nat) (q : Nat → Int) (r : Nat → Option Nat) (A : Nat → Nat → Int) (dy : xH) (fo : Option Nat) : xMet Z d Y_M_decode [xC 42] (hF q (x_up (x_up r 1350 fo) 1351 none) A ++ dy) (fun v h2 => v = some (xI (-2)) ∧ h2 = hF q (x_up (x_up r 1350 fo) 1351 none) A ++ dy) := by
  refine xMet_of (by decide) (Nat.le_of_ble_eq_true rfl) (fun v h2 hq => by rw [hq.1]; trivial) ?_
  refine x_aload_n (x_d C_M_decode 0 rfl) rfl ?_
  refine x_getfield (v := xN) (x_d C_M_decode 1 rfl) f_M_211 rfl rfl ?_
  refine x_ifnullN (tgt := 19) (x_d C_M_decode 2 rfl) rfl ?_
  refine x_bipush (x_d C_M_decode 8 rfl) (by omega) ?_
  refine x_ireturn (x_d C_M_decode 9 rfl) ?_
  exact ⟨rfl, rfl⟩
