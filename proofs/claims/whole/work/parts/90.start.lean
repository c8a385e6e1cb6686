/-! the start: what the Statement gives of the first state -/
theorem x_L {a b : Cond} {args : Array Value} {s : State} (h : (Cond.and a b).before args s = true) : a.before args s = true := by
  rw [Cond.before_and, Bool.and_eq_true] at h
  exact h.1
theorem x_R {a b : Cond} {args : Array Value} {s : State} (h : (Cond.and a b).before args s = true) : b.before args s = true := by
  rw [Cond.before_and, Bool.and_eq_true] at h
  exact h.2
/-- the elements of an array, from place k on -/
def x_allE (args : Array Value) (s : State) (t : Term) : List Int32 → Nat → Prop
  | [], _ => True
  | b :: bs, k => (Cond.eq (.elem t (.int (Int32.ofNat k))) (.int b)).before args s = true ∧ x_allE args s t bs (k + 1)
theorem x_allE_at {args : Array Value} {s : State} {t : Term} : ∀ (bs : List Int32) (k j : Nat), x_allE args s t bs k → j < bs.length → (Cond.eq (.elem t (.int (Int32.ofNat (k + j)))) (.int (bs.getD j 0))).before args s = true
  | [], _, j, _, hj => absurd hj (Nat.not_lt_zero j)
  | b :: bs, k, 0, h, _ => h.1
  | b :: bs, k, j + 1, h, hj => by
    have := x_allE_at bs (k + 1) j h.2 (Nat.lt_of_succ_lt_succ hj)
    rw [show k + 1 + j = k + (j + 1) by omega] at this
    exact this
/-- what is wanted of a String constant -/
def x_strP (s : State) (A : Nat → Prop) (q : String × Nat × String × List Int) (z : Nat × Nat) : Prop := vk_R q.1 q.2.1 q.2.2.1 z.1 s ∧ va_O "java/lang/String" z.1 A s s.heap ∧ va_OF "java/lang/String" "coder" "B" (.int 0) z.1 A s s.heap ∧ va_OF "java/lang/String" "value" "[B" (.ref z.2) z.1 A s s.heap ∧ va_T .byte z.2 q.2.2.2.length (fun j => .int (Int32.ofInt (q.2.2.2.getD j 0))) A s s.heap
theorem x_str_of {args : Array Value} {s : State} {A : Nat → Prop} (hA : ∀ a : Nat, a < s.heap.size → ¬ A a) {own tx : String} {idx : Nat} {bs : List Int} (cs : List Int32) (n : Nat) (hcs : bs.map Int32.ofInt = cs) (hn : cs.length = n) (hn2 : n < 100)
    (hsr : (Cond.stringRef own idx tx).before args s = true) (hex : (Cond.exactly (.string own idx) "java/lang/String").before args s = true) (hco : (Cond.eq (.field (.string own idx) "java/lang/String" "coder" "B") (.int 0)).before args s = true) (har : (Cond.arrayOf (.field (.string own idx) "java/lang/String" "value" "[B") .byte).before args s = true)
    (hle : (Cond.eq (.length (.field (.string own idx) "java/lang/String" "value" "[B")) (.int (Int32.ofNat n))).before args s = true) (hel : x_allE args s (.field (.string own idx) "java/lang/String" "value" "[B") cs 0) : ∃ z : Nat × Nat, x_strP s A (own, idx, tx, bs) z := by
  have hlen : bs.length = n := by rw [← hn, ← hcs, List.length_map]
  obtain ⟨a, c, cA, kA, q1, q2, q3, q4, q5, q6, -⟩ := Cond.exactly_spec (args := args) (first := s) (o := none) (s := s) (idx := []) (t := .string own idx) (cls := "java/lang/String") hex
  obtain ⟨t, ht, hT⟩ := va_Tof (f := fun j => .int (Int32.ofInt (bs.getD j 0))) (A := A) (N := n) (by omega) har (va_eqt hle) (fun j hj => by
    have h1 := x_allE_at cs 0 j hel (by omega)
    rw [Nat.zero_add] at h1
    have h2 : cs.getD j 0 = Int32.ofInt (bs.getD j 0) := by
      rw [← hcs, List.getD_eq_getElem?_getD, List.getD_eq_getElem?_getD, List.getElem?_map]
      have hj2 : j < bs.length := by omega
      rw [List.getElem?_eq_getElem hj2]
      rfl
    rw [h2] at h1
    exact va_eqt h1) hA
  rw [← hlen] at hT
  exact ⟨(a, t), vk_R.of hsr q1, ⟨cA, q3, q5, by rw [q6]; exact q2, hA a (Array.getElem?_eq_some_iff.mp q3).1⟩, vk_OFof q1 (va_eqt hco) hA, vk_OFof q1 ht hA, hT⟩
theorem x_t1 {w : Cond} (i : Nat) (h : tables_1_1[i]? = some w) : w ∈ lw_tbl := List.mem_append_right _ (List.mem_append_left _ (List.mem_of_getElem? h))
theorem x_t2 {w : Cond} (i : Nat) (h : tables_1_2[i]? = some w) : w ∈ lw_tbl := List.mem_append_right _ (List.mem_append_right _ (List.mem_append_left _ (List.mem_of_getElem? h)))
theorem x_t3 {w : Cond} (i : Nat) (h : tables_1_3[i]? = some w) : w ∈ lw_tbl := List.mem_append_right _ (List.mem_append_right _ (List.mem_append_right _ (List.mem_append_left _ (List.mem_of_getElem? h))))
theorem x_t4 {w : Cond} (i : Nat) (h : tables_1_4[i]? = some w) : w ∈ lw_tbl := List.mem_append_right _ (List.mem_append_right _ (List.mem_append_right _ (List.mem_append_right _ (List.mem_append_left _ (List.mem_of_getElem? h)))))
theorem x_t5 {w : Cond} (i : Nat) (h : tables_1_5[i]? = some w) : w ∈ lw_tbl := List.mem_append_right _ (List.mem_append_right _ (List.mem_append_right _ (List.mem_append_right _ (List.mem_append_right _ (List.mem_append_left _ (List.mem_of_getElem? h))))))
theorem x_t6 {w : Cond} (i : Nat) (h : tables_1_6[i]? = some w) : w ∈ lw_tbl := List.mem_append_right _ (List.mem_append_right _ (List.mem_append_right _ (List.mem_append_right _ (List.mem_append_right _ (List.mem_append_right _ (List.mem_append_left _ (List.mem_of_getElem? h)))))))
theorem x_t7 {w : Cond} (i : Nat) (h : tables_1_7[i]? = some w) : w ∈ lw_tbl := List.mem_append_right _ (List.mem_append_right _ (List.mem_append_right _ (List.mem_append_right _ (List.mem_append_right _ (List.mem_append_right _ (List.mem_append_right _ (List.mem_of_getElem? h)))))))
