/-! the law: its calls -/
theorem lc_feed {Z : xZ} {d dc : Nat} {i : Int} {H : xH} {P : xH → Prop} {Q : Option xV → xH → Prop} {fs : List xV} (hd : dc + 1 ≤ d) (hi : 0 ≤ i ∧ i + 6 ≤ Z.2.2.2.2.2.2.1) (hL : Z.2.2.2.2.2.2.1 ≤ 3072) (hs : ∀ j, x_i32 (Z.2.2.2.2.2.2.2 j)) (h0 : H[0]? = some (xB 0 fs)) (hb : Bth Z dc Y_PF_feed Y_M_feed [xI (Z.2.2.2.2.2.2.2 (i + 1).toNat), xI (Z.2.2.2.2.2.2.2 (i + 2).toNat), xI (Z.2.2.2.2.2.2.2 (i + 3).toNat), xI (Z.2.2.2.2.2.2.2 (i + 4).toNat), xI (Z.2.2.2.2.2.2.2 (i + 5).toNat)] H P) (kk : ∀ h2, P h2 → xW Z d Y_law 568 [(0, xS 0), (1, xC 0), (2, xC 42), (3, xI i)] [] h2 Q) : xW Z d Y_law 128 [(0, xS 0), (1, xC 0), (2, xC 42), (3, xI i)] [] H Q := by
  refine x_aload_n (x_d C_law 22 rfl) rfl ?_
  refine x_aload_n (x_d C_law 23 rfl) rfl ?_
  refine x_iload_n (x := i) (x_d C_law 24 rfl) rfl ?_
  refine x_iconst (x_d C_law 25 rfl) ⟨by decide, by decide⟩ ?_
  refine x_iadd (x_d C_law 26 rfl) ⟨by omega, by omega⟩ ?_
  refine x_sld (x_d C_law 27 rfl) (by omega) (by omega) (hs _) ?_
  refine x_aload_n (x_d C_law 28 rfl) rfl ?_
  refine x_iload_n (x := i) (x_d C_law 29 rfl) rfl ?_
  refine x_iconst (x_d C_law 30 rfl) ⟨by decide, by decide⟩ ?_
  refine x_iadd (x_d C_law 31 rfl) ⟨by omega, by omega⟩ ?_
  refine x_sld (x_d C_law 32 rfl) (by omega) (by omega) (hs _) ?_
  refine x_aload_n (x_d C_law 33 rfl) rfl ?_
  refine x_iload_n (x := i) (x_d C_law 34 rfl) rfl ?_
  refine x_iconst (x_d C_law 35 rfl) ⟨by decide, by decide⟩ ?_
  refine x_iadd (x_d C_law 36 rfl) ⟨by omega, by omega⟩ ?_
  refine x_sld (x_d C_law 37 rfl) (by omega) (by omega) (hs _) ?_
  refine x_aload_n (x_d C_law 38 rfl) rfl ?_
  refine x_iload_n (x := i) (x_d C_law 39 rfl) rfl ?_
  refine x_iconst (x_d C_law 40 rfl) ⟨by decide, by decide⟩ ?_
  refine x_iadd (x_d C_law 41 rfl) ⟨by omega, by omega⟩ ?_
  refine x_sld (x_d C_law 42 rfl) (by omega) (by omega) (hs _) ?_
  refine x_aload_n (x_d C_law 43 rfl) rfl ?_
  refine x_iload_n (x := i) (x_d C_law 44 rfl) rfl ?_
  refine x_iconst (x_d C_law 45 rfl) ⟨by decide, by decide⟩ ?_
  refine x_iadd (x_d C_law 46 rfl) ⟨by omega, by omega⟩ ?_
  refine x_sld (x_d C_law 47 rfl) (by omega) (by omega) (hs _) ?_
  refine x_invokevirtual (Yc := Y_PF_feed) (st := []) (av := [xI (Z.2.2.2.2.2.2.2 (i + 1).toNat), xI (Z.2.2.2.2.2.2.2 (i + 2).toNat), xI (Z.2.2.2.2.2.2.2 (i + 3).toNat), xI (Z.2.2.2.2.2.2.2 (i + 4).toNat), xI (Z.2.2.2.2.2.2.2 (i + 5).toNat)]) (x_d C_law 48 rfl) k_Law_13 m_PF_feed v_PF_feed cl_PF h0 rfl (Nat.le_of_ble_eq_true rfl) hd rfl hb ?_
  rintro v_ h1 ⟨z, rfl, ⟨fs1, h42⟩, hm⟩
  refine x_aload_n (x_d C_law 49 rfl) rfl ?_
  refine x_aload_n (x_d C_law 50 rfl) rfl ?_
  refine x_iload_n (x := i) (x_d C_law 51 rfl) rfl ?_
  refine x_iconst (x_d C_law 52 rfl) ⟨by decide, by decide⟩ ?_
  refine x_iadd (x_d C_law 53 rfl) ⟨by omega, by omega⟩ ?_
  refine x_sld (x_d C_law 54 rfl) (by omega) (by omega) (hs _) ?_
  refine x_aload_n (x_d C_law 55 rfl) rfl ?_
  refine x_iload_n (x := i) (x_d C_law 56 rfl) rfl ?_
  refine x_iconst (x_d C_law 57 rfl) ⟨by decide, by decide⟩ ?_
  refine x_iadd (x_d C_law 58 rfl) ⟨by omega, by omega⟩ ?_
  refine x_sld (x_d C_law 59 rfl) (by omega) (by omega) (hs _) ?_
  refine x_aload_n (x_d C_law 60 rfl) rfl ?_
  refine x_iload_n (x := i) (x_d C_law 61 rfl) rfl ?_
  refine x_iconst (x_d C_law 62 rfl) ⟨by decide, by decide⟩ ?_
  refine x_iadd (x_d C_law 63 rfl) ⟨by omega, by omega⟩ ?_
  refine x_sld (x_d C_law 64 rfl) (by omega) (by omega) (hs _) ?_
  refine x_aload_n (x_d C_law 65 rfl) rfl ?_
  refine x_iload_n (x := i) (x_d C_law 66 rfl) rfl ?_
  refine x_iconst (x_d C_law 67 rfl) ⟨by decide, by decide⟩ ?_
  refine x_iadd (x_d C_law 68 rfl) ⟨by omega, by omega⟩ ?_
  refine x_sld (x_d C_law 69 rfl) (by omega) (by omega) (hs _) ?_
  refine x_aload_n (x_d C_law 70 rfl) rfl ?_
  refine x_iload_n (x := i) (x_d C_law 71 rfl) rfl ?_
  refine x_iconst (x_d C_law 72 rfl) ⟨by decide, by decide⟩ ?_
  refine x_iadd (x_d C_law 73 rfl) ⟨by omega, by omega⟩ ?_
  refine x_sld (x_d C_law 74 rfl) (by omega) (by omega) (hs _) ?_
  refine x_invokevirtual (Yc := Y_M_feed) (st := [xI z]) (av := [xI (Z.2.2.2.2.2.2.2 (i + 1).toNat), xI (Z.2.2.2.2.2.2.2 (i + 2).toNat), xI (Z.2.2.2.2.2.2.2 (i + 3).toNat), xI (Z.2.2.2.2.2.2.2 (i + 4).toNat), xI (Z.2.2.2.2.2.2.2 (i + 5).toNat)]) (x_d C_law 75 rfl) k_Law_17 m_M_feed v_M_feed cl_M h42 rfl (Nat.le_of_ble_eq_true rfl) hd rfl hm ?_
  rintro v_ h2 ⟨rfl, hP⟩
  refine x_icmp_eq (tgt := 568) (x_d C_law 76 rfl) rfl (fun _ => kk h2 hP) (fun c => absurd rfl c)
theorem lc_end {Z : xZ} {d dc : Nat} {i : Int} {H : xH} {P : xH → Prop} {Q : Option xV → xH → Prop} {fs : List xV} (hd : dc + 1 ≤ d) (hi : 0 ≤ i ∧ i + 6 ≤ Z.2.2.2.2.2.2.1) (hL : Z.2.2.2.2.2.2.1 ≤ 3072) (hs : ∀ j, x_i32 (Z.2.2.2.2.2.2.2 j)) (h0 : H[0]? = some (xB 0 fs)) (hb : Bth Z dc Y_PF_end Y_M_end [xI (Z.2.2.2.2.2.2.2 (i + 1).toNat)] H P) (kk : ∀ h2, P h2 → xW Z d Y_law 568 [(0, xS 0), (1, xC 0), (2, xC 42), (3, xI i)] [] h2 Q) : xW Z d Y_law 191 [(0, xS 0), (1, xC 0), (2, xC 42), (3, xI i)] [] H Q := by
  refine x_aload_n (x_d C_law 79 rfl) rfl ?_
  refine x_aload_n (x_d C_law 80 rfl) rfl ?_
  refine x_iload_n (x := i) (x_d C_law 81 rfl) rfl ?_
  refine x_iconst (x_d C_law 82 rfl) ⟨by decide, by decide⟩ ?_
  refine x_iadd (x_d C_law 83 rfl) ⟨by omega, by omega⟩ ?_
  refine x_sld (x_d C_law 84 rfl) (by omega) (by omega) (hs _) ?_
  refine x_invokevirtual (Yc := Y_PF_end) (st := []) (av := [xI (Z.2.2.2.2.2.2.2 (i + 1).toNat)]) (x_d C_law 85 rfl) k_Law_18 m_PF_end v_PF_end cl_PF h0 rfl (Nat.le_of_ble_eq_true rfl) hd rfl hb ?_
  rintro v_ h1 ⟨z, rfl, ⟨fs1, h42⟩, hm⟩
  refine x_aload_n (x_d C_law 86 rfl) rfl ?_
  refine x_aload_n (x_d C_law 87 rfl) rfl ?_
  refine x_iload_n (x := i) (x_d C_law 88 rfl) rfl ?_
  refine x_iconst (x_d C_law 89 rfl) ⟨by decide, by decide⟩ ?_
  refine x_iadd (x_d C_law 90 rfl) ⟨by omega, by omega⟩ ?_
  refine x_sld (x_d C_law 91 rfl) (by omega) (by omega) (hs _) ?_
  refine x_invokevirtual (Yc := Y_M_end) (st := [xI z]) (av := [xI (Z.2.2.2.2.2.2.2 (i + 1).toNat)]) (x_d C_law 92 rfl) k_Law_22 m_M_end v_M_end cl_M h42 rfl (Nat.le_of_ble_eq_true rfl) hd rfl hm ?_
  rintro v_ h2 ⟨rfl, hP⟩
  refine x_icmp_eq (tgt := 568) (x_d C_law 93 rfl) rfl (fun _ => kk h2 hP) (fun c => absurd rfl c)
theorem lc_open {Z : xZ} {d dc : Nat} {i : Int} {H : xH} {P : xH → Prop} {Q : Option xV → xH → Prop} {fs : List xV} (hd : dc + 1 ≤ d) (hi : 0 ≤ i ∧ i + 6 ≤ Z.2.2.2.2.2.2.1) (hL : Z.2.2.2.2.2.2.1 ≤ 3072) (hs : ∀ j, x_i32 (Z.2.2.2.2.2.2.2 j)) (h0 : H[0]? = some (xB 0 fs)) (hb : Bth Z dc Y_PF_open Y_M_open [] H P) (kk : ∀ h2, P h2 → xW Z d Y_law 568 [(0, xS 0), (1, xC 0), (2, xC 42), (3, xI i)] [] h2 Q) : xW Z d Y_law 214 [(0, xS 0), (1, xC 0), (2, xC 42), (3, xI i)] [] H Q := by
  refine x_aload_n (x_d C_law 96 rfl) rfl ?_
  refine x_invokevirtual (Yc := Y_PF_open) (st := []) (av := []) (x_d C_law 97 rfl) k_Law_23 m_PF_open v_PF_open cl_PF h0 rfl (Nat.le_of_ble_eq_true rfl) hd rfl hb ?_
  rintro v_ h1 ⟨z, rfl, ⟨fs1, h42⟩, hm⟩
  refine x_aload_n (x_d C_law 98 rfl) rfl ?_
  refine x_invokevirtual (Yc := Y_M_open) (st := [xI z]) (av := []) (x_d C_law 99 rfl) k_Law_27 m_M_open v_M_open cl_M h42 rfl (Nat.le_of_ble_eq_true rfl) hd rfl hm ?_
  rintro v_ h2 ⟨rfl, hP⟩
  refine x_icmp_eq (tgt := 568) (x_d C_law 100 rfl) rfl (fun _ => kk h2 hP) (fun c => absurd rfl c)
theorem lc_go {Z : xZ} {d dc : Nat} {i : Int} {H : xH} {P : xH → Prop} {Q : Option xV → xH → Prop} {fs : List xV} (hd : dc + 1 ≤ d) (hi : 0 ≤ i ∧ i + 6 ≤ Z.2.2.2.2.2.2.1) (hL : Z.2.2.2.2.2.2.1 ≤ 3072) (hs : ∀ j, x_i32 (Z.2.2.2.2.2.2.2 j)) (h0 : H[0]? = some (xB 0 fs)) (hb : Bth Z dc Y_PF_go Y_M_go [xI (Z.2.2.2.2.2.2.2 (i + 1).toNat)] H P) (kk : ∀ h2, P h2 → xW Z d Y_law 568 [(0, xS 0), (1, xC 0), (2, xC 42), (3, xI i)] [] h2 Q) : xW Z d Y_law 227 [(0, xS 0), (1, xC 0), (2, xC 42), (3, xI i)] [] H Q := by
  refine x_aload_n (x_d C_law 103 rfl) rfl ?_
  refine x_aload_n (x_d C_law 104 rfl) rfl ?_
  refine x_iload_n (x := i) (x_d C_law 105 rfl) rfl ?_
  refine x_iconst (x_d C_law 106 rfl) ⟨by decide, by decide⟩ ?_
  refine x_iadd (x_d C_law 107 rfl) ⟨by omega, by omega⟩ ?_
  refine x_sld (x_d C_law 108 rfl) (by omega) (by omega) (hs _) ?_
  refine x_invokevirtual (Yc := Y_PF_go) (st := []) (av := [xI (Z.2.2.2.2.2.2.2 (i + 1).toNat)]) (x_d C_law 109 rfl) k_Law_28 m_PF_go v_PF_go cl_PF h0 rfl (Nat.le_of_ble_eq_true rfl) hd rfl hb ?_
  rintro v_ h1 ⟨z, rfl, ⟨fs1, h42⟩, hm⟩
  refine x_aload_n (x_d C_law 110 rfl) rfl ?_
  refine x_aload_n (x_d C_law 111 rfl) rfl ?_
  refine x_iload_n (x := i) (x_d C_law 112 rfl) rfl ?_
  refine x_iconst (x_d C_law 113 rfl) ⟨by decide, by decide⟩ ?_
  refine x_iadd (x_d C_law 114 rfl) ⟨by omega, by omega⟩ ?_
  refine x_sld (x_d C_law 115 rfl) (by omega) (by omega) (hs _) ?_
  refine x_invokevirtual (Yc := Y_M_go) (st := [xI z]) (av := [xI (Z.2.2.2.2.2.2.2 (i + 1).toNat)]) (x_d C_law 116 rfl) k_Law_31 m_M_go v_M_go cl_M h42 rfl (Nat.le_of_ble_eq_true rfl) hd rfl hm ?_
  rintro v_ h2 ⟨rfl, hP⟩
  refine x_icmp_eq (tgt := 568) (x_d C_law 117 rfl) rfl (fun _ => kk h2 hP) (fun c => absurd rfl c)
theorem lc_trailer {Z : xZ} {d dc : Nat} {i : Int} {H : xH} {P : xH → Prop} {Q : Option xV → xH → Prop} {fs : List xV} (hd : dc + 1 ≤ d) (hi : 0 ≤ i ∧ i + 6 ≤ Z.2.2.2.2.2.2.1) (hL : Z.2.2.2.2.2.2.1 ≤ 3072) (hs : ∀ j, x_i32 (Z.2.2.2.2.2.2.2 j)) (h0 : H[0]? = some (xB 0 fs)) (hb : Bth Z dc Y_PF_trailer Y_M_trailer [] H P) (kk : ∀ h2, P h2 → xW Z d Y_law 568 [(0, xS 0), (1, xC 0), (2, xC 42), (3, xI i)] [] h2 Q) : xW Z d Y_law 250 [(0, xS 0), (1, xC 0), (2, xC 42), (3, xI i)] [] H Q := by
  refine x_aload_n (x_d C_law 120 rfl) rfl ?_
  refine x_invokevirtual (Yc := Y_PF_trailer) (st := []) (av := []) (x_d C_law 121 rfl) k_Law_32 m_PF_trailer v_PF_trailer cl_PF h0 rfl (Nat.le_of_ble_eq_true rfl) hd rfl hb ?_
  rintro v_ h1 ⟨z, rfl, ⟨fs1, h42⟩, hm⟩
  refine x_aload_n (x_d C_law 122 rfl) rfl ?_
  refine x_invokevirtual (Yc := Y_M_trailer) (st := [xI z]) (av := []) (x_d C_law 123 rfl) k_Law_35 m_M_trailer v_M_trailer cl_M h42 rfl (Nat.le_of_ble_eq_true rfl) hd rfl hm ?_
  rintro v_ h2 ⟨rfl, hP⟩
  refine x_icmp_eq (tgt := 568) (x_d C_law 124 rfl) rfl (fun _ => kk h2 hP) (fun c => absurd rfl c)
theorem lc_item {Z : xZ} {d dc : Nat} {i : Int} {H : xH} {P : xH → Prop} {Q : Option xV → xH → Prop} {fs : List xV} (hd : dc + 1 ≤ d) (hi : 0 ≤ i ∧ i + 6 ≤ Z.2.2.2.2.2.2.1) (hL : Z.2.2.2.2.2.2.1 ≤ 3072) (hs : ∀ j, x_i32 (Z.2.2.2.2.2.2.2 j)) (h0 : H[0]? = some (xB 0 fs)) (hb : Bth Z dc Y_PF_item Y_M_item [xI (Z.2.2.2.2.2.2.2 (i + 1).toNat)] H P) (kk : ∀ h2, P h2 → xW Z d Y_law 568 [(0, xS 0), (1, xC 0), (2, xC 42), (3, xI i)] [] h2 Q) : xW Z d Y_law 263 [(0, xS 0), (1, xC 0), (2, xC 42), (3, xI i)] [] H Q := by
  refine x_aload_n (x_d C_law 127 rfl) rfl ?_
  refine x_aload_n (x_d C_law 128 rfl) rfl ?_
  refine x_iload_n (x := i) (x_d C_law 129 rfl) rfl ?_
  refine x_iconst (x_d C_law 130 rfl) ⟨by decide, by decide⟩ ?_
  refine x_iadd (x_d C_law 131 rfl) ⟨by omega, by omega⟩ ?_
  refine x_sld (x_d C_law 132 rfl) (by omega) (by omega) (hs _) ?_
  refine x_invokevirtual (Yc := Y_PF_item) (st := []) (av := [xI (Z.2.2.2.2.2.2.2 (i + 1).toNat)]) (x_d C_law 133 rfl) k_Law_36 m_PF_item v_PF_item cl_PF h0 rfl (Nat.le_of_ble_eq_true rfl) hd rfl hb ?_
  rintro v_ h1 ⟨z, rfl, ⟨fs1, h42⟩, hm⟩
  refine x_aload_n (x_d C_law 134 rfl) rfl ?_
  refine x_aload_n (x_d C_law 135 rfl) rfl ?_
  refine x_iload_n (x := i) (x_d C_law 136 rfl) rfl ?_
  refine x_iconst (x_d C_law 137 rfl) ⟨by decide, by decide⟩ ?_
  refine x_iadd (x_d C_law 138 rfl) ⟨by omega, by omega⟩ ?_
  refine x_sld (x_d C_law 139 rfl) (by omega) (by omega) (hs _) ?_
  refine x_invokevirtual (Yc := Y_M_item) (st := [xI z]) (av := [xI (Z.2.2.2.2.2.2.2 (i + 1).toNat)]) (x_d C_law 140 rfl) k_Law_39 m_M_item v_M_item cl_M h42 rfl (Nat.le_of_ble_eq_true rfl) hd rfl hm ?_
  rintro v_ h2 ⟨rfl, hP⟩
  refine x_icmp_eq (tgt := 568) (x_d C_law 141 rfl) rfl (fun _ => kk h2 hP) (fun c => absurd rfl c)
theorem lc_find {Z : xZ} {d dc : Nat} {i : Int} {H : xH} {P : xH → Prop} {Q : Option xV → xH → Prop} {fs : List xV} (hd : dc + 1 ≤ d) (hi : 0 ≤ i ∧ i + 6 ≤ Z.2.2.2.2.2.2.1) (hL : Z.2.2.2.2.2.2.1 ≤ 3072) (hs : ∀ j, x_i32 (Z.2.2.2.2.2.2.2 j)) (h0 : H[0]? = some (xB 0 fs)) (hb : Bth Z dc Y_PF_find Y_M_find [] H P) (kk : ∀ h2, P h2 → xW Z d Y_law 568 [(0, xS 0), (1, xC 0), (2, xC 42), (3, xI i)] [] h2 Q) : xW Z d Y_law 286 [(0, xS 0), (1, xC 0), (2, xC 42), (3, xI i)] [] H Q := by
  refine x_aload_n (x_d C_law 144 rfl) rfl ?_
  refine x_invokevirtual (Yc := Y_PF_find) (st := []) (av := []) (x_d C_law 145 rfl) k_Law_40 m_PF_find v_PF_find cl_PF h0 rfl (Nat.le_of_ble_eq_true rfl) hd rfl hb ?_
  rintro v_ h1 ⟨z, rfl, ⟨fs1, h42⟩, hm⟩
  refine x_aload_n (x_d C_law 146 rfl) rfl ?_
  refine x_invokevirtual (Yc := Y_M_find) (st := [xI z]) (av := []) (x_d C_law 147 rfl) k_Law_43 m_M_find v_M_find cl_M h42 rfl (Nat.le_of_ble_eq_true rfl) hd rfl hm ?_
  rintro v_ h2 ⟨rfl, hP⟩
  refine x_icmp_eq (tgt := 568) (x_d C_law 148 rfl) rfl (fun _ => kk h2 hP) (fun c => absurd rfl c)
theorem lc_follow {Z : xZ} {d dc : Nat} {i : Int} {H : xH} {P : xH → Prop} {Q : Option xV → xH → Prop} {fs : List xV} (hd : dc + 1 ≤ d) (hi : 0 ≤ i ∧ i + 6 ≤ Z.2.2.2.2.2.2.1) (hL : Z.2.2.2.2.2.2.1 ≤ 3072) (hs : ∀ j, x_i32 (Z.2.2.2.2.2.2.2 j)) (h0 : H[0]? = some (xB 0 fs)) (hb : Bth Z dc Y_PF_follow Y_M_follow [] H P) (kk : ∀ h2, P h2 → xW Z d Y_law 568 [(0, xS 0), (1, xC 0), (2, xC 42), (3, xI i)] [] h2 Q) : xW Z d Y_law 299 [(0, xS 0), (1, xC 0), (2, xC 42), (3, xI i)] [] H Q := by
  refine x_aload_n (x_d C_law 151 rfl) rfl ?_
  refine x_invokevirtual (Yc := Y_PF_follow) (st := []) (av := []) (x_d C_law 152 rfl) k_Law_44 m_PF_follow v_PF_follow cl_PF h0 rfl (Nat.le_of_ble_eq_true rfl) hd rfl hb ?_
  rintro v_ h1 ⟨z, rfl, ⟨fs1, h42⟩, hm⟩
  refine x_aload_n (x_d C_law 153 rfl) rfl ?_
  refine x_invokevirtual (Yc := Y_M_follow) (st := [xI z]) (av := []) (x_d C_law 154 rfl) k_Law_47 m_M_follow v_M_follow cl_M h42 rfl (Nat.le_of_ble_eq_true rfl) hd rfl hm ?_
  rintro v_ h2 ⟨rfl, hP⟩
  refine x_icmp_eq (tgt := 568) (x_d C_law 155 rfl) rfl (fun _ => kk h2 hP) (fun c => absurd rfl c)
theorem lc_look {Z : xZ} {d dc : Nat} {i : Int} {H : xH} {P : xH → Prop} {Q : Option xV → xH → Prop} {fs : List xV} (hd : dc + 1 ≤ d) (hi : 0 ≤ i ∧ i + 6 ≤ Z.2.2.2.2.2.2.1) (hL : Z.2.2.2.2.2.2.1 ≤ 3072) (hs : ∀ j, x_i32 (Z.2.2.2.2.2.2.2 j)) (h0 : H[0]? = some (xB 0 fs)) (hb : Bth Z dc Y_PF_look Y_M_look [xI (Z.2.2.2.2.2.2.2 (i + 1).toNat)] H P) (kk : ∀ h2, P h2 → xW Z d Y_law 568 [(0, xS 0), (1, xC 0), (2, xC 42), (3, xI i)] [] h2 Q) : xW Z d Y_law 312 [(0, xS 0), (1, xC 0), (2, xC 42), (3, xI i)] [] H Q := by
  refine x_aload_n (x_d C_law 158 rfl) rfl ?_
  refine x_aload_n (x_d C_law 159 rfl) rfl ?_
  refine x_iload_n (x := i) (x_d C_law 160 rfl) rfl ?_
  refine x_iconst (x_d C_law 161 rfl) ⟨by decide, by decide⟩ ?_
  refine x_iadd (x_d C_law 162 rfl) ⟨by omega, by omega⟩ ?_
  refine x_sld (x_d C_law 163 rfl) (by omega) (by omega) (hs _) ?_
  refine x_invokevirtual (Yc := Y_PF_look) (st := []) (av := [xI (Z.2.2.2.2.2.2.2 (i + 1).toNat)]) (x_d C_law 164 rfl) k_Law_48 m_PF_look v_PF_look cl_PF h0 rfl (Nat.le_of_ble_eq_true rfl) hd rfl hb ?_
  rintro v_ h1 ⟨z, rfl, ⟨fs1, h42⟩, hm⟩
  refine x_aload_n (x_d C_law 165 rfl) rfl ?_
  refine x_aload_n (x_d C_law 166 rfl) rfl ?_
  refine x_iload_n (x := i) (x_d C_law 167 rfl) rfl ?_
  refine x_iconst (x_d C_law 168 rfl) ⟨by decide, by decide⟩ ?_
  refine x_iadd (x_d C_law 169 rfl) ⟨by omega, by omega⟩ ?_
  refine x_sld (x_d C_law 170 rfl) (by omega) (by omega) (hs _) ?_
  refine x_invokevirtual (Yc := Y_M_look) (st := [xI z]) (av := [xI (Z.2.2.2.2.2.2.2 (i + 1).toNat)]) (x_d C_law 171 rfl) k_Law_51 m_M_look v_M_look cl_M h42 rfl (Nat.le_of_ble_eq_true rfl) hd rfl hm ?_
  rintro v_ h2 ⟨rfl, hP⟩
  refine x_icmp_eq (tgt := 568) (x_d C_law 172 rfl) rfl (fun _ => kk h2 hP) (fun c => absurd rfl c)
theorem lc_bytes {Z : xZ} {d dc : Nat} {i : Int} {H : xH} {P : xH → Prop} {Q : Option xV → xH → Prop} {fs : List xV} (hd : dc + 1 ≤ d) (hi : 0 ≤ i ∧ i + 6 ≤ Z.2.2.2.2.2.2.1) (hL : Z.2.2.2.2.2.2.1 ≤ 3072) (hs : ∀ j, x_i32 (Z.2.2.2.2.2.2.2 j)) (h0 : H[0]? = some (xB 0 fs)) (hb : Bth Z dc Y_PF_bytes Y_M_bytes [xI (Z.2.2.2.2.2.2.2 (i + 1).toNat)] H P) (kk : ∀ h2, P h2 → xW Z d Y_law 568 [(0, xS 0), (1, xC 0), (2, xC 42), (3, xI i)] [] h2 Q) : xW Z d Y_law 335 [(0, xS 0), (1, xC 0), (2, xC 42), (3, xI i)] [] H Q := by
  refine x_aload_n (x_d C_law 175 rfl) rfl ?_
  refine x_aload_n (x_d C_law 176 rfl) rfl ?_
  refine x_iload_n (x := i) (x_d C_law 177 rfl) rfl ?_
  refine x_iconst (x_d C_law 178 rfl) ⟨by decide, by decide⟩ ?_
  refine x_iadd (x_d C_law 179 rfl) ⟨by omega, by omega⟩ ?_
  refine x_sld (x_d C_law 180 rfl) (by omega) (by omega) (hs _) ?_
  refine x_invokevirtual (Yc := Y_PF_bytes) (st := []) (av := [xI (Z.2.2.2.2.2.2.2 (i + 1).toNat)]) (x_d C_law 181 rfl) k_Law_52 m_PF_bytes v_PF_bytes cl_PF h0 rfl (Nat.le_of_ble_eq_true rfl) hd rfl hb ?_
  rintro v_ h1 ⟨z, rfl, ⟨fs1, h42⟩, hm⟩
  refine x_aload_n (x_d C_law 182 rfl) rfl ?_
  refine x_aload_n (x_d C_law 183 rfl) rfl ?_
  refine x_iload_n (x := i) (x_d C_law 184 rfl) rfl ?_
  refine x_iconst (x_d C_law 185 rfl) ⟨by decide, by decide⟩ ?_
  refine x_iadd (x_d C_law 186 rfl) ⟨by omega, by omega⟩ ?_
  refine x_sld (x_d C_law 187 rfl) (by omega) (by omega) (hs _) ?_
  refine x_invokevirtual (Yc := Y_M_bytes) (st := [xI z]) (av := [xI (Z.2.2.2.2.2.2.2 (i + 1).toNat)]) (x_d C_law 188 rfl) k_Law_55 m_M_bytes v_M_bytes cl_M h42 rfl (Nat.le_of_ble_eq_true rfl) hd rfl hm ?_
  rintro v_ h2 ⟨rfl, hP⟩
  refine x_icmp_eq (tgt := 568) (x_d C_law 189 rfl) rfl (fun _ => kk h2 hP) (fun c => absurd rfl c)
theorem lc_decode {Z : xZ} {d dc : Nat} {i : Int} {H : xH} {P : xH → Prop} {Q : Option xV → xH → Prop} {fs : List xV} (hd : dc + 1 ≤ d) (hi : 0 ≤ i ∧ i + 6 ≤ Z.2.2.2.2.2.2.1) (hL : Z.2.2.2.2.2.2.1 ≤ 3072) (hs : ∀ j, x_i32 (Z.2.2.2.2.2.2.2 j)) (h0 : H[0]? = some (xB 0 fs)) (hb : Bth Z dc Y_PF_decode Y_M_decode [] H P) (kk : ∀ h2, P h2 → xW Z d Y_law 568 [(0, xS 0), (1, xC 0), (2, xC 42), (3, xI i)] [] h2 Q) : xW Z d Y_law 358 [(0, xS 0), (1, xC 0), (2, xC 42), (3, xI i)] [] H Q := by
  refine x_aload_n (x_d C_law 192 rfl) rfl ?_
  refine x_invokevirtual (Yc := Y_PF_decode) (st := []) (av := []) (x_d C_law 193 rfl) k_Law_56 m_PF_decode v_PF_decode cl_PF h0 rfl (Nat.le_of_ble_eq_true rfl) hd rfl hb ?_
  rintro v_ h1 ⟨z, rfl, ⟨fs1, h42⟩, hm⟩
  refine x_aload_n (x_d C_law 194 rfl) rfl ?_
  refine x_invokevirtual (Yc := Y_M_decode) (st := [xI z]) (av := []) (x_d C_law 195 rfl) k_Law_59 m_M_decode v_M_decode cl_M h42 rfl (Nat.le_of_ble_eq_true rfl) hd rfl hm ?_
  rintro v_ h2 ⟨rfl, hP⟩
  refine x_icmp_eq (tgt := 568) (x_d C_law 196 rfl) rfl (fun _ => kk h2 hP) (fun c => absurd rfl c)
theorem lc_octet {Z : xZ} {d dc : Nat} {i : Int} {H : xH} {P : xH → Prop} {Q : Option xV → xH → Prop} {fs : List xV} (hd : dc + 1 ≤ d) (hi : 0 ≤ i ∧ i + 6 ≤ Z.2.2.2.2.2.2.1) (hL : Z.2.2.2.2.2.2.1 ≤ 3072) (hs : ∀ j, x_i32 (Z.2.2.2.2.2.2.2 j)) (h0 : H[0]? = some (xB 0 fs)) (hb : Bth Z dc Y_PF_octet Y_M_octet [xI (Z.2.2.2.2.2.2.2 (i + 1).toNat)] H P) (kk : ∀ h2, P h2 → xW Z d Y_law 568 [(0, xS 0), (1, xC 0), (2, xC 42), (3, xI i)] [] h2 Q) : xW Z d Y_law 371 [(0, xS 0), (1, xC 0), (2, xC 42), (3, xI i)] [] H Q := by
  refine x_aload_n (x_d C_law 199 rfl) rfl ?_
  refine x_aload_n (x_d C_law 200 rfl) rfl ?_
  refine x_iload_n (x := i) (x_d C_law 201 rfl) rfl ?_
  refine x_iconst (x_d C_law 202 rfl) ⟨by decide, by decide⟩ ?_
  refine x_iadd (x_d C_law 203 rfl) ⟨by omega, by omega⟩ ?_
  refine x_sld (x_d C_law 204 rfl) (by omega) (by omega) (hs _) ?_
  refine x_invokevirtual (Yc := Y_PF_octet) (st := []) (av := [xI (Z.2.2.2.2.2.2.2 (i + 1).toNat)]) (x_d C_law 205 rfl) k_Law_60 m_PF_octet v_PF_octet cl_PF h0 rfl (Nat.le_of_ble_eq_true rfl) hd rfl hb ?_
  rintro v_ h1 ⟨z, rfl, ⟨fs1, h42⟩, hm⟩
  refine x_aload_n (x_d C_law 206 rfl) rfl ?_
  refine x_aload_n (x_d C_law 207 rfl) rfl ?_
  refine x_iload_n (x := i) (x_d C_law 208 rfl) rfl ?_
  refine x_iconst (x_d C_law 209 rfl) ⟨by decide, by decide⟩ ?_
  refine x_iadd (x_d C_law 210 rfl) ⟨by omega, by omega⟩ ?_
  refine x_sld (x_d C_law 211 rfl) (by omega) (by omega) (hs _) ?_
  refine x_invokevirtual (Yc := Y_M_octet) (st := [xI z]) (av := [xI (Z.2.2.2.2.2.2.2 (i + 1).toNat)]) (x_d C_law 212 rfl) k_Law_63 m_M_octet v_M_octet cl_M h42 rfl (Nat.le_of_ble_eq_true rfl) hd rfl hm ?_
  rintro v_ h2 ⟨rfl, hP⟩
  refine x_icmp_eq (tgt := 568) (x_d C_law 213 rfl) rfl (fun _ => kk h2 hP) (fun c => absurd rfl c)
theorem lc_put {Z : xZ} {d dc : Nat} {i : Int} {H : xH} {P : xH → Prop} {Q : Option xV → xH → Prop} {fs : List xV} (hd : dc + 1 ≤ d) (hi : 0 ≤ i ∧ i + 6 ≤ Z.2.2.2.2.2.2.1) (hL : Z.2.2.2.2.2.2.1 ≤ 3072) (hs : ∀ j, x_i32 (Z.2.2.2.2.2.2.2 j)) (h0 : H[0]? = some (xB 0 fs)) (hb : Bth Z dc Y_PF_put Y_M_put [xI (Z.2.2.2.2.2.2.2 (i + 1).toNat)] H P) (kk : ∀ h2, P h2 → xW Z d Y_law 568 [(0, xS 0), (1, xC 0), (2, xC 42), (3, xI i)] [] h2 Q) : xW Z d Y_law 394 [(0, xS 0), (1, xC 0), (2, xC 42), (3, xI i)] [] H Q := by
  refine x_aload_n (x_d C_law 216 rfl) rfl ?_
  refine x_aload_n (x_d C_law 217 rfl) rfl ?_
  refine x_iload_n (x := i) (x_d C_law 218 rfl) rfl ?_
  refine x_iconst (x_d C_law 219 rfl) ⟨by decide, by decide⟩ ?_
  refine x_iadd (x_d C_law 220 rfl) ⟨by omega, by omega⟩ ?_
  refine x_sld (x_d C_law 221 rfl) (by omega) (by omega) (hs _) ?_
  refine x_invokevirtual (Yc := Y_PF_put) (st := []) (av := [xI (Z.2.2.2.2.2.2.2 (i + 1).toNat)]) (x_d C_law 222 rfl) k_Law_64 m_PF_put v_PF_put cl_PF h0 rfl (Nat.le_of_ble_eq_true rfl) hd rfl hb ?_
  rintro v_ h1 ⟨z, rfl, ⟨fs1, h42⟩, hm⟩
  refine x_aload_n (x_d C_law 223 rfl) rfl ?_
  refine x_aload_n (x_d C_law 224 rfl) rfl ?_
  refine x_iload_n (x := i) (x_d C_law 225 rfl) rfl ?_
  refine x_iconst (x_d C_law 226 rfl) ⟨by decide, by decide⟩ ?_
  refine x_iadd (x_d C_law 227 rfl) ⟨by omega, by omega⟩ ?_
  refine x_sld (x_d C_law 228 rfl) (by omega) (by omega) (hs _) ?_
  refine x_invokevirtual (Yc := Y_M_put) (st := [xI z]) (av := [xI (Z.2.2.2.2.2.2.2 (i + 1).toNat)]) (x_d C_law 229 rfl) k_Law_67 m_M_put v_M_put cl_M h42 rfl (Nat.le_of_ble_eq_true rfl) hd rfl hm ?_
  rintro v_ h2 ⟨rfl, hP⟩
  refine x_icmp_eq (tgt := 568) (x_d C_law 230 rfl) rfl (fun _ => kk h2 hP) (fun c => absurd rfl c)
theorem lc_pour {Z : xZ} {d dc : Nat} {i : Int} {H : xH} {P : xH → Prop} {Q : Option xV → xH → Prop} {fs : List xV} (hd : dc + 1 ≤ d) (hi : 0 ≤ i ∧ i + 6 ≤ Z.2.2.2.2.2.2.1) (hL : Z.2.2.2.2.2.2.1 ≤ 3072) (hs : ∀ j, x_i32 (Z.2.2.2.2.2.2.2 j)) (h0 : H[0]? = some (xB 0 fs)) (hb : Bth Z dc Y_PF_pour Y_M_pour [xI (Z.2.2.2.2.2.2.2 (i + 1).toNat)] H P) (kk : ∀ h2, P h2 → xW Z d Y_law 568 [(0, xS 0), (1, xC 0), (2, xC 42), (3, xI i)] [] h2 Q) : xW Z d Y_law 417 [(0, xS 0), (1, xC 0), (2, xC 42), (3, xI i)] [] H Q := by
  refine x_aload_n (x_d C_law 233 rfl) rfl ?_
  refine x_aload_n (x_d C_law 234 rfl) rfl ?_
  refine x_iload_n (x := i) (x_d C_law 235 rfl) rfl ?_
  refine x_iconst (x_d C_law 236 rfl) ⟨by decide, by decide⟩ ?_
  refine x_iadd (x_d C_law 237 rfl) ⟨by omega, by omega⟩ ?_
  refine x_sld (x_d C_law 238 rfl) (by omega) (by omega) (hs _) ?_
  refine x_invokevirtual (Yc := Y_PF_pour) (st := []) (av := [xI (Z.2.2.2.2.2.2.2 (i + 1).toNat)]) (x_d C_law 239 rfl) k_Law_68 m_PF_pour v_PF_pour cl_PF h0 rfl (Nat.le_of_ble_eq_true rfl) hd rfl hb ?_
  rintro v_ h1 ⟨z, rfl, ⟨fs1, h42⟩, hm⟩
  refine x_aload_n (x_d C_law 240 rfl) rfl ?_
  refine x_aload_n (x_d C_law 241 rfl) rfl ?_
  refine x_iload_n (x := i) (x_d C_law 242 rfl) rfl ?_
  refine x_iconst (x_d C_law 243 rfl) ⟨by decide, by decide⟩ ?_
  refine x_iadd (x_d C_law 244 rfl) ⟨by omega, by omega⟩ ?_
  refine x_sld (x_d C_law 245 rfl) (by omega) (by omega) (hs _) ?_
  refine x_invokevirtual (Yc := Y_M_pour) (st := [xI z]) (av := [xI (Z.2.2.2.2.2.2.2 (i + 1).toNat)]) (x_d C_law 246 rfl) k_Law_71 m_M_pour v_M_pour cl_M h42 rfl (Nat.le_of_ble_eq_true rfl) hd rfl hm ?_
  rintro v_ h2 ⟨rfl, hP⟩
  refine x_icmp_eq (tgt := 568) (x_d C_law 247 rfl) rfl (fun _ => kk h2 hP) (fun c => absurd rfl c)
theorem lc_free {Z : xZ} {d dc : Nat} {i : Int} {H : xH} {P : xH → Prop} {Q : Option xV → xH → Prop} {fs : List xV} (hd : dc + 1 ≤ d) (hi : 0 ≤ i ∧ i + 6 ≤ Z.2.2.2.2.2.2.1) (hL : Z.2.2.2.2.2.2.1 ≤ 3072) (hs : ∀ j, x_i32 (Z.2.2.2.2.2.2.2 j)) (h0 : H[0]? = some (xB 0 fs)) (hb : Bth Z dc Y_PF_free Y_M_free [xI (Z.2.2.2.2.2.2.2 (i + 1).toNat)] H P) (kk : ∀ h2, P h2 → xW Z d Y_law 568 [(0, xS 0), (1, xC 0), (2, xC 42), (3, xI i)] [] h2 Q) : xW Z d Y_law 440 [(0, xS 0), (1, xC 0), (2, xC 42), (3, xI i)] [] H Q := by
  refine x_aload_n (x_d C_law 250 rfl) rfl ?_
  refine x_aload_n (x_d C_law 251 rfl) rfl ?_
  refine x_iload_n (x := i) (x_d C_law 252 rfl) rfl ?_
  refine x_iconst (x_d C_law 253 rfl) ⟨by decide, by decide⟩ ?_
  refine x_iadd (x_d C_law 254 rfl) ⟨by omega, by omega⟩ ?_
  refine x_sld (x_d C_law 255 rfl) (by omega) (by omega) (hs _) ?_
  refine x_invokevirtual (Yc := Y_PF_free) (st := []) (av := [xI (Z.2.2.2.2.2.2.2 (i + 1).toNat)]) (x_d C_law 256 rfl) k_Law_72 m_PF_free v_PF_free cl_PF h0 rfl (Nat.le_of_ble_eq_true rfl) hd rfl hb ?_
  rintro v_ h1 ⟨z, rfl, ⟨fs1, h42⟩, hm⟩
  refine x_aload_n (x_d C_law 257 rfl) rfl ?_
  refine x_aload_n (x_d C_law 258 rfl) rfl ?_
  refine x_iload_n (x := i) (x_d C_law 259 rfl) rfl ?_
  refine x_iconst (x_d C_law 260 rfl) ⟨by decide, by decide⟩ ?_
  refine x_iadd (x_d C_law 261 rfl) ⟨by omega, by omega⟩ ?_
  refine x_sld (x_d C_law 262 rfl) (by omega) (by omega) (hs _) ?_
  refine x_invokevirtual (Yc := Y_M_free) (st := [xI z]) (av := [xI (Z.2.2.2.2.2.2.2 (i + 1).toNat)]) (x_d C_law 263 rfl) k_Law_75 m_M_free v_M_free cl_M h42 rfl (Nat.le_of_ble_eq_true rfl) hd rfl hm ?_
  rintro v_ h2 ⟨rfl, hP⟩
  refine x_icmp_eq (tgt := 568) (x_d C_law 264 rfl) rfl (fun _ => kk h2 hP) (fun c => absurd rfl c)
theorem lc_save {Z : xZ} {d dc : Nat} {i : Int} {H : xH} {P : xH → Prop} {Q : Option xV → xH → Prop} {fs : List xV} (hd : dc + 1 ≤ d) (hi : 0 ≤ i ∧ i + 6 ≤ Z.2.2.2.2.2.2.1) (hL : Z.2.2.2.2.2.2.1 ≤ 3072) (hs : ∀ j, x_i32 (Z.2.2.2.2.2.2.2 j)) (h0 : H[0]? = some (xB 0 fs)) (hb : Bth Z dc Y_PF_save Y_M_save [] H P) (kk : ∀ h2, P h2 → xW Z d Y_law 568 [(0, xS 0), (1, xC 0), (2, xC 42), (3, xI i)] [] h2 Q) : xW Z d Y_law 463 [(0, xS 0), (1, xC 0), (2, xC 42), (3, xI i)] [] H Q := by
  refine x_aload_n (x_d C_law 267 rfl) rfl ?_
  refine x_invokevirtual (Yc := Y_PF_save) (st := []) (av := []) (x_d C_law 268 rfl) k_Law_76 m_PF_save v_PF_save cl_PF h0 rfl (Nat.le_of_ble_eq_true rfl) hd rfl hb ?_
  rintro v_ h1 ⟨z, rfl, ⟨fs1, h42⟩, hm⟩
  refine x_aload_n (x_d C_law 269 rfl) rfl ?_
  refine x_invokevirtual (Yc := Y_M_save) (st := [xI z]) (av := []) (x_d C_law 270 rfl) k_Law_79 m_M_save v_M_save cl_M h42 rfl (Nat.le_of_ble_eq_true rfl) hd rfl hm ?_
  rintro v_ h2 ⟨rfl, hP⟩
  refine x_icmp_eq (tgt := 568) (x_d C_law 271 rfl) rfl (fun _ => kk h2 hP) (fun c => absurd rfl c)
theorem lc_pages {Z : xZ} {d dc : Nat} {i : Int} {H : xH} {P : xH → Prop} {Q : Option xV → xH → Prop} {fs : List xV} (hd : dc + 1 ≤ d) (hi : 0 ≤ i ∧ i + 6 ≤ Z.2.2.2.2.2.2.1) (hL : Z.2.2.2.2.2.2.1 ≤ 3072) (hs : ∀ j, x_i32 (Z.2.2.2.2.2.2.2 j)) (h0 : H[0]? = some (xB 0 fs)) (hb : Bth Z dc Y_PF_pages Y_M_pages [] H P) (kk : ∀ h2, P h2 → xW Z d Y_law 568 [(0, xS 0), (1, xC 0), (2, xC 42), (3, xI i)] [] h2 Q) : xW Z d Y_law 476 [(0, xS 0), (1, xC 0), (2, xC 42), (3, xI i)] [] H Q := by
  refine x_aload_n (x_d C_law 274 rfl) rfl ?_
  refine x_invokevirtual (Yc := Y_PF_pages) (st := []) (av := []) (x_d C_law 275 rfl) k_Law_80 m_PF_pages v_PF_pages cl_PF h0 rfl (Nat.le_of_ble_eq_true rfl) hd rfl hb ?_
  rintro v_ h1 ⟨z, rfl, ⟨fs1, h42⟩, hm⟩
  refine x_aload_n (x_d C_law 276 rfl) rfl ?_
  refine x_invokevirtual (Yc := Y_M_pages) (st := [xI z]) (av := []) (x_d C_law 277 rfl) k_Law_83 m_M_pages v_M_pages cl_M h42 rfl (Nat.le_of_ble_eq_true rfl) hd rfl hm ?_
  rintro v_ h2 ⟨rfl, hP⟩
  refine x_icmp_eq (tgt := 568) (x_d C_law 278 rfl) rfl (fun _ => kk h2 hP) (fun c => absurd rfl c)
theorem lc_page {Z : xZ} {d dc : Nat} {i : Int} {H : xH} {P : xH → Prop} {Q : Option xV → xH → Prop} {fs : List xV} (hd : dc + 1 ≤ d) (hi : 0 ≤ i ∧ i + 6 ≤ Z.2.2.2.2.2.2.1) (hL : Z.2.2.2.2.2.2.1 ≤ 3072) (hs : ∀ j, x_i32 (Z.2.2.2.2.2.2.2 j)) (h0 : H[0]? = some (xB 0 fs)) (hb : Bth Z dc Y_PF_page Y_M_page [xI (Z.2.2.2.2.2.2.2 (i + 1).toNat)] H P) (kk : ∀ h2, P h2 → xW Z d Y_law 568 [(0, xS 0), (1, xC 0), (2, xC 42), (3, xI i)] [] h2 Q) : xW Z d Y_law 489 [(0, xS 0), (1, xC 0), (2, xC 42), (3, xI i)] [] H Q := by
  refine x_aload_n (x_d C_law 281 rfl) rfl ?_
  refine x_aload_n (x_d C_law 282 rfl) rfl ?_
  refine x_iload_n (x := i) (x_d C_law 283 rfl) rfl ?_
  refine x_iconst (x_d C_law 284 rfl) ⟨by decide, by decide⟩ ?_
  refine x_iadd (x_d C_law 285 rfl) ⟨by omega, by omega⟩ ?_
  refine x_sld (x_d C_law 286 rfl) (by omega) (by omega) (hs _) ?_
  refine x_invokevirtual (Yc := Y_PF_page) (st := []) (av := [xI (Z.2.2.2.2.2.2.2 (i + 1).toNat)]) (x_d C_law 287 rfl) k_Law_84 m_PF_page v_PF_page cl_PF h0 rfl (Nat.le_of_ble_eq_true rfl) hd rfl hb ?_
  rintro v_ h1 ⟨z, rfl, ⟨fs1, h42⟩, hm⟩
  refine x_aload_n (x_d C_law 288 rfl) rfl ?_
  refine x_aload_n (x_d C_law 289 rfl) rfl ?_
  refine x_iload_n (x := i) (x_d C_law 290 rfl) rfl ?_
  refine x_iconst (x_d C_law 291 rfl) ⟨by decide, by decide⟩ ?_
  refine x_iadd (x_d C_law 292 rfl) ⟨by omega, by omega⟩ ?_
  refine x_sld (x_d C_law 293 rfl) (by omega) (by omega) (hs _) ?_
  refine x_invokevirtual (Yc := Y_M_page) (st := [xI z]) (av := [xI (Z.2.2.2.2.2.2.2 (i + 1).toNat)]) (x_d C_law 294 rfl) k_Law_87 m_M_page v_M_page cl_M h42 rfl (Nat.le_of_ble_eq_true rfl) hd rfl hm ?_
  rintro v_ h2 ⟨rfl, hP⟩
  refine x_icmp_eq (tgt := 568) (x_d C_law 295 rfl) rfl (fun _ => kk h2 hP) (fun c => absurd rfl c)
theorem lc_count {Z : xZ} {d dc : Nat} {i : Int} {H : xH} {P : xH → Prop} {Q : Option xV → xH → Prop} {fs : List xV} (hd : dc + 1 ≤ d) (hi : 0 ≤ i ∧ i + 6 ≤ Z.2.2.2.2.2.2.1) (hL : Z.2.2.2.2.2.2.1 ≤ 3072) (hs : ∀ j, x_i32 (Z.2.2.2.2.2.2.2 j)) (h0 : H[0]? = some (xB 0 fs)) (hb : Bth Z dc Y_PF_count Y_M_count [xI (Z.2.2.2.2.2.2.2 (i + 1).toNat)] H P) (kk : ∀ h2, P h2 → xW Z d Y_law 568 [(0, xS 0), (1, xC 0), (2, xC 42), (3, xI i)] [] h2 Q) : xW Z d Y_law 512 [(0, xS 0), (1, xC 0), (2, xC 42), (3, xI i)] [] H Q := by
  refine x_aload_n (x_d C_law 298 rfl) rfl ?_
  refine x_aload_n (x_d C_law 299 rfl) rfl ?_
  refine x_iload_n (x := i) (x_d C_law 300 rfl) rfl ?_
  refine x_iconst (x_d C_law 301 rfl) ⟨by decide, by decide⟩ ?_
  refine x_iadd (x_d C_law 302 rfl) ⟨by omega, by omega⟩ ?_
  refine x_sld (x_d C_law 303 rfl) (by omega) (by omega) (hs _) ?_
  refine x_invokevirtual (Yc := Y_PF_count) (st := []) (av := [xI (Z.2.2.2.2.2.2.2 (i + 1).toNat)]) (x_d C_law 304 rfl) k_Law_88 m_PF_count v_PF_count cl_PF h0 rfl (Nat.le_of_ble_eq_true rfl) hd rfl hb ?_
  rintro v_ h1 ⟨z, rfl, ⟨fs1, h42⟩, hm⟩
  refine x_aload_n (x_d C_law 305 rfl) rfl ?_
  refine x_aload_n (x_d C_law 306 rfl) rfl ?_
  refine x_iload_n (x := i) (x_d C_law 307 rfl) rfl ?_
  refine x_iconst (x_d C_law 308 rfl) ⟨by decide, by decide⟩ ?_
  refine x_iadd (x_d C_law 309 rfl) ⟨by omega, by omega⟩ ?_
  refine x_sld (x_d C_law 310 rfl) (by omega) (by omega) (hs _) ?_
  refine x_invokevirtual (Yc := Y_M_count) (st := [xI z]) (av := [xI (Z.2.2.2.2.2.2.2 (i + 1).toNat)]) (x_d C_law 311 rfl) k_Law_91 m_M_count v_M_count cl_M h42 rfl (Nat.le_of_ble_eq_true rfl) hd rfl hm ?_
  rintro v_ h2 ⟨rfl, hP⟩
  refine x_icmp_eq (tgt := 568) (x_d C_law 312 rfl) rfl (fun _ => kk h2 hP) (fun c => absurd rfl c)
theorem lc_state {Z : xZ} {d dc : Nat} {i : Int} {H : xH} {P : xH → Prop} {Q : Option xV → xH → Prop} {fs : List xV} (hd : dc + 1 ≤ d) (hi : 0 ≤ i ∧ i + 6 ≤ Z.2.2.2.2.2.2.1) (hL : Z.2.2.2.2.2.2.1 ≤ 3072) (hs : ∀ j, x_i32 (Z.2.2.2.2.2.2.2 j)) (h0 : H[0]? = some (xB 0 fs)) (hb : Bth Z dc Y_PF_state Y_M_state [xI (Z.2.2.2.2.2.2.2 (i + 1).toNat), xI (Z.2.2.2.2.2.2.2 (i + 2).toNat)] H P) (kk : ∀ h2, P h2 → xW Z d Y_law 568 [(0, xS 0), (1, xC 0), (2, xC 42), (3, xI i)] [] h2 Q) : xW Z d Y_law 535 [(0, xS 0), (1, xC 0), (2, xC 42), (3, xI i)] [] H Q := by
  refine x_aload_n (x_d C_law 315 rfl) rfl ?_
  refine x_aload_n (x_d C_law 316 rfl) rfl ?_
  refine x_iload_n (x := i) (x_d C_law 317 rfl) rfl ?_
  refine x_iconst (x_d C_law 318 rfl) ⟨by decide, by decide⟩ ?_
  refine x_iadd (x_d C_law 319 rfl) ⟨by omega, by omega⟩ ?_
  refine x_sld (x_d C_law 320 rfl) (by omega) (by omega) (hs _) ?_
  refine x_aload_n (x_d C_law 321 rfl) rfl ?_
  refine x_iload_n (x := i) (x_d C_law 322 rfl) rfl ?_
  refine x_iconst (x_d C_law 323 rfl) ⟨by decide, by decide⟩ ?_
  refine x_iadd (x_d C_law 324 rfl) ⟨by omega, by omega⟩ ?_
  refine x_sld (x_d C_law 325 rfl) (by omega) (by omega) (hs _) ?_
  refine x_invokevirtual (Yc := Y_PF_state) (st := []) (av := [xI (Z.2.2.2.2.2.2.2 (i + 1).toNat), xI (Z.2.2.2.2.2.2.2 (i + 2).toNat)]) (x_d C_law 326 rfl) k_Law_92 m_PF_state v_PF_state cl_PF h0 rfl (Nat.le_of_ble_eq_true rfl) hd rfl hb ?_
  rintro v_ h1 ⟨z, rfl, ⟨fs1, h42⟩, hm⟩
  refine x_aload_n (x_d C_law 327 rfl) rfl ?_
  refine x_aload_n (x_d C_law 328 rfl) rfl ?_
  refine x_iload_n (x := i) (x_d C_law 329 rfl) rfl ?_
  refine x_iconst (x_d C_law 330 rfl) ⟨by decide, by decide⟩ ?_
  refine x_iadd (x_d C_law 331 rfl) ⟨by omega, by omega⟩ ?_
  refine x_sld (x_d C_law 332 rfl) (by omega) (by omega) (hs _) ?_
  refine x_aload_n (x_d C_law 333 rfl) rfl ?_
  refine x_iload_n (x := i) (x_d C_law 334 rfl) rfl ?_
  refine x_iconst (x_d C_law 335 rfl) ⟨by decide, by decide⟩ ?_
  refine x_iadd (x_d C_law 336 rfl) ⟨by omega, by omega⟩ ?_
  refine x_sld (x_d C_law 337 rfl) (by omega) (by omega) (hs _) ?_
  refine x_invokevirtual (Yc := Y_M_state) (st := [xI z]) (av := [xI (Z.2.2.2.2.2.2.2 (i + 1).toNat), xI (Z.2.2.2.2.2.2.2 (i + 2).toNat)]) (x_d C_law 338 rfl) k_Law_96 m_M_state v_M_state cl_M h42 rfl (Nat.le_of_ble_eq_true rfl) hd rfl hm ?_
  rintro v_ h2 ⟨rfl, hP⟩
  refine x_icmp_eq (tgt := 568) (x_d C_law 339 rfl) rfl (fun _ => kk h2 hP) (fun c => absurd rfl c)
