/-! the law's contract out of a walk of the pure machine -/
theorem whole_of (hlaw : ∀ Z : xZ, Z.2.2.2.2.2.2.1 ≤ 3072 → (∀ j, x_i32 (Z.2.2.2.2.2.2.2 j)) → xW Z 1000 Y_law 0 [(0, xS 0)] [] [] (fun r h2 => r = some (xI 1) ∧ h2.length ≤ 600000 ∧ x_S h2 ≤ 7302250))
    {p : Program} {e : Env} {s : State} {m : MethodId} {below : List Frame} {meth : Method} {c : Code} (l : Launch) {b L : Nat} {xs : Nat → Int32} (hL : L ≤ 3072) (C0 : lw_At p s m meth c b L xs) : W p l e room_1 s m #[Value.ref b] below meth c s.heap [] 0 0 (lw_Z below #[Value.ref b] s) (entryFrame m ([Value.ref b] : List Value).toArray 4) := by
  obtain ⟨Z, z1, z2, z3, z4, z5, z6, hG⟩ := x_start l C0
  obtain ⟨hx, hb, hr, hml, hown, hts, hX, hbl, hlocks, hgv⟩ := C0
  subst z1
  obtain ⟨r, h2, ⟨hr1, hq1, hq2⟩, k1, k2, k3, k4, k⟩ := hlaw Z (by rw [z5]; exact hL) (fun j => by rw [z6]; exact x_i32_of _) (fun q hq => by rw [List.mem_singleton.mp hq]; trivial) x_okS_nil (fun q hq => by cases hq)
  subst hr1
  have hl := lv_entry ([.ref b]) (n := 4) (Nat.le_of_ble_eq_true rfl)
  rw [lg_entry_eq]
  generalize (lg_sl ([.ref b]) ++ List.replicate (4 - (lg_sl ([.ref b])).length) Slot.unset).toArray = ls at hl ⊢
  have hl : lv_has ls 4 [(0, .ref b)] := hl
  have hA0 : x_A Z = fun q : Nat => s.heap.size ≤ q := by unfold x_A; rw [z3]
  have fx : x_fx Z 1000 Y_law p room_1 s m #[Value.ref b] meth c :=
    ⟨hx, hb, hml, hown, fun w hw => hts w (List.mem_filter.mp hw).1, hG, by decide, by decide, fun h => absurd h (by decide), by rw [z3]; exact Nat.le_refl _⟩
  have hp : x_hp Z (fun _ => 0) [] s.heap := ⟨fun q hq => (by cases hq), fun k q hq => (by simp [x_w] at hq), ⟨fun i j p q hi => (by simp [x_w] at hi), fun k q hq => (by simp [x_w] at hq)⟩, (by rw [z3]; exact Nat.le_refl _), fun q hq => by rw [z4]⟩
  refine k p e room_1 s m #[Value.ref b] below meth c s.heap [] 0 0 _ (fun _ => 0) ls fx hp va_S.rf (by show 0 + (h2.length - 0) ≤ 600000; omega) (by show 0 + (x_S h2 - 0) ≤ 7302250; omega) (by
    show lv_has ls 4 [(0, .ref (Z.2.2.2.1 0))]
    rw [z2]
    exact hl) (fun ad2 H2 locs2 pc2 ls2 hag hp2 hS2 hret => ?_)
  refine va_forget (fun q hq => by have := hS2.2.2 q hq; rw [hA0] at this; exact this) ?_
  refine W.widen (k := 600000) (n := 7302250) (by show 0 + (h2.length - 0) ≤ 600000; omega) (by show 0 + (x_S h2 - 0) ≤ 7302250; omega) ?_
  have e1 : x_st ad2 Z.2.2.2.1 (some (xI 1)).toList = [.int 1] := by
    show [Value.int (Int32.ofInt 1)] = [.int 1]
    rw [show Int32.ofInt 1 = 1 by decide +kernel]
  rw [e1]
  exact lw_ret hx hb hr hlocks hret
