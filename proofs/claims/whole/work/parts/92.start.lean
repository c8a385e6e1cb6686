set_option maxRecDepth 40000 in
theorem x_str_start {args : Array Value} {s : State} {A : Nat → Prop} (hA : ∀ a : Nat, a < s.heap.size → ¬ A a) (hts : ∀ w ∈ lw_tbl, w.before args s = true) (hgv : (Cond.and given_1 narrow_1).before args s = true) : ∀ (i : Nat) (q : String × Nat × String × List Int), x_strs[i]? = some q → ∃ z : Nat × Nat, x_strP s A q z := by
  intro i q hq
  match i, hq with
  | 0, hq => cases hq; exact x_ss_0 hA hts hgv
  | 1, hq => cases hq; exact x_ss_1 hA hts hgv
  | 2, hq => cases hq; exact x_ss_2 hA hts hgv
  | 3, hq => cases hq; exact x_ss_3 hA hts hgv
  | 4, hq => cases hq; exact x_ss_4 hA hts hgv
  | 5, hq => cases hq; exact x_ss_5 hA hts hgv
  | 6, hq => cases hq; exact x_ss_6 hA hts hgv
  | 7, hq => cases hq; exact x_ss_7 hA hts hgv
  | 8, hq => cases hq; exact x_ss_8 hA hts hgv
  | 9, hq => cases hq; exact x_ss_9 hA hts hgv
  | 10, hq => cases hq; exact x_ss_10 hA hts hgv
  | 11, hq => cases hq; exact x_ss_11 hA hts hgv
  | 12, hq => cases hq; exact x_ss_12 hA hts hgv
  | 13, hq => cases hq; exact x_ss_13 hA hts hgv
  | 14, hq => cases hq; exact x_ss_14 hA hts hgv
  | 15, hq => cases hq; exact x_ss_15 hA hts hgv
  | 16, hq => cases hq; exact x_ss_16 hA hts hgv
  | 17, hq => cases hq; exact x_ss_17 hA hts hgv
  | 18, hq => cases hq; exact x_ss_18 hA hts hgv
  | 19, hq => cases hq; exact x_ss_19 hA hts hgv
  | 20, hq => cases hq; exact x_ss_20 hA hts hgv
  | 21, hq => cases hq; exact x_ss_21 hA hts hgv
  | 22, hq => cases hq; exact x_ss_22 hA hts hgv
  | 23, hq => cases hq; exact x_ss_23 hA hts hgv
  | 24, hq => cases hq; exact x_ss_24 hA hts hgv
  | 25, hq => cases hq; exact x_ss_25 hA hts hgv
  | 26, hq => cases hq; exact x_ss_26 hA hts hgv
  | 27, hq => cases hq; exact x_ss_27 hA hts hgv
  | 28, hq => cases hq; exact x_ss_28 hA hts hgv
  | 29, hq => cases hq; exact x_ss_29 hA hts hgv
  | 30, hq => cases hq; exact x_ss_30 hA hts hgv
  | 31, hq => cases hq; exact x_ss_31 hA hts hgv
  | 32, hq => cases hq; exact x_ss_32 hA hts hgv
  | 33, hq => cases hq; exact x_ss_33 hA hts hgv
  | 34, hq => cases hq; exact x_ss_34 hA hts hgv
  | 35, hq => cases hq; exact x_ss_35 hA hts hgv
  | 36, hq => cases hq; exact x_ss_36 hA hts hgv
  | 37, hq => cases hq; exact x_ss_37 hA hts hgv
  | 38, hq => cases hq; exact x_ss_38 hA hts hgv
  | 39, hq => cases hq; exact x_ss_39 hA hts hgv
  | 40, hq => cases hq; exact x_ss_40 hA hts hgv
  | 41, hq => cases hq; exact x_ss_41 hA hts hgv
  | 42, hq => cases hq; exact x_ss_42 hA hts hgv
  | 43, hq => cases hq; exact x_ss_43 hA hts hgv
  | 44, hq => cases hq; exact x_ss_44 hA hts hgv
  | 45, hq => cases hq; exact x_ss_45 hA hts hgv
  | 46, hq => cases hq; exact x_ss_46 hA hts hgv
  | 47, hq => cases hq; exact x_ss_47 hA hts hgv
  | 48, hq => cases hq; exact x_ss_48 hA hts hgv
  | 49, hq => cases hq; exact x_ss_49 hA hts hgv
  | 50, hq => cases hq; exact x_ss_50 hA hts hgv
  | 51, hq => cases hq; exact x_ss_51 hA hts hgv
  | 52, hq => cases hq; exact x_ss_52 hA hts hgv
  | 53, hq => cases hq; exact x_ss_53 hA hts hgv
  | 54, hq => cases hq; exact x_ss_54 hA hts hgv
  | 55, hq => cases hq; exact x_ss_55 hA hts hgv
  | 56, hq => cases hq; exact x_ss_56 hA hts hgv
  | 57, hq => cases hq; exact x_ss_57 hA hts hgv
  | 58, hq => cases hq; exact x_ss_58 hA hts hgv
  | 59, hq => cases hq; exact x_ss_59 hA hts hgv
  | 60, hq => cases hq; exact x_ss_60 hA hts hgv
  | 61, hq => cases hq; exact x_ss_61 hA hts hgv
  | 62, hq => cases hq; exact x_ss_62 hA hts hgv
  | 63, hq => cases hq; exact x_ss_63 hA hts hgv
  | 64, hq => cases hq; exact x_ss_64 hA hts hgv
  | 65, hq => cases hq; exact x_ss_65 hA hts hgv
  | 66, hq => cases hq; exact x_ss_66 hA hts hgv
  | 67, hq => cases hq; exact x_ss_67 hA hts hgv
  | 68, hq => cases hq; exact x_ss_68 hA hts hgv
  | 69, hq => cases hq; exact x_ss_69 hA hts hgv
  | 70, hq => cases hq; exact x_ss_70 hA hts hgv
  | 71, hq => cases hq; exact x_ss_71 hA hts hgv
  | 72, hq => cases hq; exact x_ss_72 hA hts hgv
  | 73, hq => cases hq; exact x_ss_73 hA hts hgv
  | 74, hq => cases hq; exact x_ss_74 hA hts hgv
  | 75, hq => cases hq; exact x_ss_75 hA hts hgv
  | 76, hq => cases hq; exact x_ss_76 hA hts hgv
  | 77, hq => cases hq; exact x_ss_77 hA hts hgv
  | 78, hq => cases hq; exact x_ss_78 hA hts hgv
  | 79, hq => cases hq; exact x_ss_79 hA hts hgv
  | 80, hq => cases hq; exact x_ss_80 hA hts hgv
  | 81, hq => cases hq; exact x_ss_81 hA hts hgv
  | 82, hq => cases hq; exact x_ss_82 hA hts hgv
  | 83, hq => cases hq; exact x_ss_83 hA hts hgv
  | 84, hq => cases hq; exact x_ss_84 hA hts hgv
  | 85, hq => cases hq; exact x_ss_85 hA hts hgv
  | 86, hq => cases hq; exact x_ss_86 hA hts hgv
  | k + 87, hq => cases hq
theorem x_nM_start {args : Array Value} {s : State} (hts : ∀ w ∈ lw_tbl, w.before args s = true) : ∀ q ∈ x_nM, va_Nw (.methodLinkNest q.1 q.2.1 q.2.2.1 q.2.2.2) s := by
  intro q hq
  simp only [x_nM, List.mem_cons, List.not_mem_nil, or_false] at hq
  rcases hq with rfl | rfl | rfl | rfl | rfl | rfl
  · exact va_Nw.of rfl (hts _ (x_t3 108 (by decide +kernel)))
  · exact va_Nw.of rfl (hts _ (x_t3 182 (by decide +kernel)))
  · exact va_Nw.of rfl (hts _ (x_t4 156 (by decide +kernel)))
  · exact va_Nw.of rfl (hts _ (x_t4 193 (by decide +kernel)))
  · exact va_Nw.of rfl (hts _ (x_t5 228 (by decide +kernel)))
  · exact va_Nw.of rfl (hts _ (x_t6 170 (by decide +kernel)))
theorem x_arr_start {args : Array Value} {s : State} {ty : FieldType} (h : (Cond.arrayClass ty).before args s = true) (hp : ∀ C, ty ≠ .object C) : ∃ cA : ClassId, ArrOfT s cA ty ∧ va_RA s cA ty := by
  obtain ⟨c, k, comp, h1, h2, h3⟩ := Cond.arrayClass_spec h
  refine ⟨c, fun n z => ⟨fun q hq => (by cases hq), k, h2, comp, h3⟩, ?_⟩
  cases ty with
  | object C => exact absurd rfl (hp C)
  | _ => exact h1
theorem x_arrO_start {args : Array Value} {s : State} {C : String} (h : (Cond.arrayOver (.object C)).before args s = true) : ∃ cA : ClassId, ArrOfT s cA (.object C) ∧ va_RA s cA (.object C) := by
  obtain ⟨comp, c, k, h1, h2, h3, h4, h5⟩ := Cond.arrayOver_spec h
  exact ⟨c, fun n z => ⟨fun q hq => (by cases hq), k, h3, comp, h4⟩, k, comp, h3, h4, h1, h5⟩
theorem x_arrA_start {args : Array Value} {s : State} {t : FieldType} (h : (Cond.arrayOver (.array t)).before args s = true) : ∃ cA : ClassId, ArrOfT s cA (.array t) ∧ va_RA s cA (.array t) := by
  obtain ⟨comp, c, k, h1, h2, h3, h4, h5⟩ := arrayOverA_spec h
  exact ⟨c, fun n z => ⟨fun q hq => (by cases hq), k, h3, comp, h4⟩, h5⟩
/-- the classes' numbers and slots, for any list of classes that the tables know -/
theorem x_cls_start {s : State} (cl : List vw_C) (h : ∀ q ∈ cl, ∃ (cC : ClassId) (iS : Nat → Nat), u_Kn s q.1 q.2.1 q.2.2 cC iS) : ∃ (dC : Nat → ClassId) (dI : Nat → Nat → Nat), ∀ (k : Nat) (q : vw_C), cl[k]? = some q → u_Kn s q.1 q.2.1 q.2.2 (dC k) (dI k) := by
  have h0 : ∀ k : Nat, ∃ z : ClassId × (Nat → Nat), ∀ q, cl[k]? = some q → u_Kn s q.1 q.2.1 q.2.2 z.1 z.2 := by
    intro k
    cases hk : cl[k]? with
    | none => exact ⟨(0, fun _ => 0), fun q hq => by cases hq⟩
    | some q =>
      obtain ⟨cC, iS, hz⟩ := h q (List.mem_of_getElem? hk)
      exact ⟨(cC, iS), fun q2 hq => by cases hq; exact hz⟩
  obtain ⟨f, hf⟩ := Classical.axiomOfChoice h0
  exact ⟨fun k => (f k).1, fun k => (f k).2, fun k q hq => hf k q hq⟩
/-- THE FIXED SIDE at the law's entry -/
theorem x_start {p : Program} {s : State} {m : MethodId} {meth : Method} {c : Code} {b L : Nat} {xs : Nat → Int32} (l : Launch) (C0 : lw_At p s m meth c b L xs) :
    ∃ Z : xZ, Z.1 = l ∧ Z.2.2.2.1 0 = b ∧ Z.2.2.2.2.1 = s.heap.size ∧ Z.2.2.2.2.2.1 = s.heap ∧ Z.2.2.2.2.2.2.1 = L ∧ (∀ j, Z.2.2.2.2.2.2.2 j = (xs j).toInt) ∧ x_G Z s := by
  obtain ⟨hx, hb, hr, hml, hown, hts, hX, hbl, hlocks, hgv⟩ := C0
  have hA : ∀ a : Nat, a < s.heap.size → ¬ (fun q : Nat => s.heap.size ≤ q) a := fun a ha hz => Nat.not_le.mpr ha hz
  obtain ⟨dC, dI, hKc⟩ := x_cls_start (s := s) x_cl (by
    intro q hq
    have hx : ∀ w ∈ x_tbl, w.before #[Value.ref b] s = true := fun w hw => hts w (List.mem_filter.mp hw).1
    simp only [x_cl, List.mem_cons, List.not_mem_nil, or_false] at hq
    rcases hq with rfl | rfl | rfl | rfl | rfl | rfl | rfl | rfl | rfl | rfl | rfl | rfl | rfl
    · exact u_known (n := 12) hx xi_PF (hx _ (x_in1 23 (by decide +kernel) rfl))
    · exact u_known (n := 4) hx xi_T (hx _ (x_in1 31 (by decide +kernel) rfl))
    · exact u_known (n := 7) hx xi_P (hx _ (x_in1 168 (by decide +kernel) rfl))
    · exact u_known (n := 2) hx xi_R (hx _ (x_in1 220 (by decide +kernel) rfl))
    · exact u_known (n := 12) hx xi_O (hx _ (x_in1 233 (by decide +kernel) rfl))
    · exact u_known (n := 5) hx xi_Wr (hx _ (x_in2 36 (by decide +kernel) rfl))
    · exact u_known (n := 7) hx xi_D (hx _ (x_in2 58 (by decide +kernel) rfl))
    · exact u_known (n := 4) hx xi_Pa (hx _ (x_in2 64 (by decide +kernel) rfl))
    · exact u_known (n := 5) hx xi_PW (hx _ (x_in2 115 (by decide +kernel) rfl))
    · exact u_known (n := 12) hx xi_B (hx _ (x_in2 139 (by decide +kernel) rfl))
    · exact u_known (n := 21) hx xi_M (hx _ (x_in5 142 (by decide +kernel) rfl))
    · exact u_known (n := 10) hx xi_MP (hx _ (x_in5 227 (by decide +kernel) rfl))
    · exact u_known (n := 7) hx xi_MQ (hx _ (x_in6 103 (by decide +kernel) rfl)))
  obtain ⟨d0, a0⟩ := x_arr_start (ty := .int) (hts _ (x_t1 218 (by decide +kernel))) (fun C h => by cases h)
  obtain ⟨d1, a1⟩ := x_arr_start (ty := .byte) (hts _ (x_t1 165 (by decide +kernel))) (fun C h => by cases h)
  obtain ⟨d2, a2⟩ := x_arr_start (ty := .boolean) (hts _ (x_t1 166 (by decide +kernel))) (fun C h => by cases h)
  obtain ⟨d3, a3⟩ := x_arr_start (ty := .long) (hts _ (x_t6 30 (by decide +kernel))) (fun C h => by cases h)
  obtain ⟨d4, a4⟩ := x_arrO_start (C := "PaperFileModel$Part") (hts _ (x_t5 233 (by decide +kernel)))
  obtain ⟨d5, a5⟩ := x_arrA_start (t := .byte) (hts _ (x_t6 136 (by decide +kernel)))
  have h0 : ∀ i : Nat, ∃ z : Nat × Nat, ∀ q, x_strs[i]? = some q → x_strP s (fun q : Nat => s.heap.size ≤ q) q z := by
    intro i
    cases hi : x_strs[i]? with
    | none => exact ⟨(0, 0), fun q hq => by cases hq⟩
    | some q =>
      obtain ⟨z, hz⟩ := x_str_start hA hts hgv i q hi
      exact ⟨z, fun q2 hq => by cases hq; exact hz⟩
  obtain ⟨f, hfz⟩ := Classical.axiomOfChoice h0
  have hcs := va_Zof (hts _ (x_t1 50 (by decide +kernel))) (hts _ (x_t1 3 (by decide +kernel))) (va_eqi (x_R (x_R (x_L (x_L (x_L (x_L (x_L (x_L (x_L (x_L (x_R hgv)))))))))))) hA
  obtain ⟨g, t, hfm⟩ : ∃ g t : Nat, va_Z "jdk/internal/util/Preconditions" "SIOOBE_FORMATTER" "Ljava/util/function/BiFunction;" (if g = 0 then .null else .ref t) (fun q : Nat => s.heap.size ≤ q) s s.heap := by
    rcases va_Zqof (hts _ (x_t1 93 (by decide +kernel))) (hts _ (x_t1 7 (by decide +kernel))) (x_L (x_R (x_L (x_L (x_L (x_L (x_L (x_L (x_L (x_R hgv)))))))))) hA with h | ⟨t, h⟩
    · exact ⟨0, 0, h⟩
    · exact ⟨1, t, h⟩
  refine ⟨(l, (dC, dI), fun k => match k with | 0 => d0 | 1 => d1 | 2 => d2 | 3 => d3 | 4 => d4 | _ => d5, fun n => if n = 0 then b else if n = 998 then g else if n = 999 then t else if n % 2 = 1 then (f (n / 2)).1 else (f (n / 2 - 1)).2, s.heap.size, s.heap, L, fun j => (xs j).toInt), rfl, rfl, rfl, rfl, rfl, fun _ => rfl, ?_⟩
  refine ⟨⟨hKc, ?_⟩, fun q hq => (by cases hq), fun q hq => x_nM_start hts q hq, ?_, hcs, hfm, ?_, hbl, va_AO.of (hts _ (x_t5 233 (by decide +kernel))), ?_⟩
  · intro k q hk
    match k, hk with
    | 0, hk => cases hk; exact a0
    | 1, hk => cases hk; exact a1
    | 2, hk => cases hk; exact a2
    | 3, hk => cases hk; exact a3
    | 4, hk => cases hk; exact a4
    | 5, hk => cases hk; exact a5
    | k + 6, hk => cases hk
  · intro i q hq
    have hi : i < 87 := by
      have := (List.getElem?_eq_some_iff.mp hq).1
      exact Nat.lt_of_lt_of_le this (by decide +kernel)
    have e1 : (fun n => if n = 0 then b else if n = 998 then g else if n = 999 then t else if n % 2 = 1 then (f (n / 2)).1 else (f (n / 2 - 1)).2) (2 * i + 1) = (f i).1 := by
      show (if 2 * i + 1 = 0 then b else if 2 * i + 1 = 998 then g else if 2 * i + 1 = 999 then t else if (2 * i + 1) % 2 = 1 then (f ((2 * i + 1) / 2)).1 else (f ((2 * i + 1) / 2 - 1)).2) = (f i).1
      rw [if_neg (by omega), if_neg (by omega), if_neg (by omega), if_pos (by omega), show (2 * i + 1) / 2 = i by omega]
    have e2 : (fun n => if n = 0 then b else if n = 998 then g else if n = 999 then t else if n % 2 = 1 then (f (n / 2)).1 else (f (n / 2 - 1)).2) (2 * i + 2) = (f i).2 := by
      show (if 2 * i + 2 = 0 then b else if 2 * i + 2 = 998 then g else if 2 * i + 2 = 999 then t else if (2 * i + 2) % 2 = 1 then (f ((2 * i + 2) / 2)).1 else (f ((2 * i + 2) / 2 - 1)).2) = (f i).2
      rw [if_neg (by omega), if_neg (by omega), if_neg (by omega), if_neg (by omega), show (2 * i + 2) / 2 - 1 = i by omega]
    have hz := hfz i q hq
    unfold x_str
    dsimp only at e1 e2 ⊢
    rw [e1, e2]
    exact hz
  · have e : (fun j => Int32.ofInt (xs j).toInt) = xs := by
      funext j
      exact Int32.ofInt_toInt (xs j)
    show va_X b L (fun j => Int32.ofInt (xs j).toInt) s s.heap
    rw [e]
    exact hX
  · exact ⟨(show (Cond.arrayOver (.array .byte)).before #[Value.ref b] s = true from (hts _ (x_t6 136 (by decide +kernel)))), va_Nw.of rfl (hts _ (x_t6 164 (by decide +kernel)))⟩
