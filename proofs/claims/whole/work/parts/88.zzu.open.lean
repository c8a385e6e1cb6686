/-! open: parts that are read, in their places -/
theorem cut_down {P : Nat → Nat → Int} {t0 T p : Int} {ts : List tk} (h : s_at P p.toNat ts) (h0 : 0 ≤ t0 ∧ t0 ≤ p ∧ p + ts.length ≤ T) : s_at (s_cut P 0 t0 T) (p - t0).toNat ts := fun i hi => by
  rw [s_cut_tok P (Int.le_refl 0) h0.1 (by omega), if_pos (by omega), show (p - t0).toNat + i + t0.toNat = p.toNat + i by omega]
  exact h i hi
theorem at_Tr {X : Nat → Int} {E : Int} {g : Nat → Option xE} {C : Nat → Nat → Int} {p : Int} {ts : List tk} {c : Nat} (hp : 0 ≤ p) (hat : s_at C p.toNat ts) (hs0 : lsp ts 0 = ts.length) (h1 : 1 ≤ ts.length) (hT : Tr X E g (lP ts) 9 0 c) : Tr X E g C 9 p c := by
  have := Tr_sh (P2 := C) (u := p) 9 0 c hT (by omega) (fun a' a5 a9 j j1 j2 _ => by
    have e : s_bh (lP ts 8) 0 = ts.length := by
      unfold s_bh
      show 0 + max 1 (lsp ts 0) = _
      rw [hs0]; omega
    rw [e] at j2
    have hgj := s_at_get hat (j := j.toNat) (by omega)
    rw [show (j + p).toNat = p.toNat + j.toNat by omega]
    rcases (show a' = 5 ∨ a' = 6 ∨ a' = 7 ∨ a' = 8 ∨ a' = 9 by omega) with rfl | rfl | rfl | rfl | rfl
    · exact hgj.1
    · exact hgj.2.1
    · exact hgj.2.2.1
    · exact hgj.2.2.2.1
    · exact hgj.2.2.2.2)
  rw [Int.zero_add] at this
  exact this
theorem at_nam {X : Nat → Int} {C : Nat → Nat → Int} {p n : Int} {ts : List tk} {cs : List Int} (hp : 0 ≤ p) (hat : s_at C p.toNat ts) (hs0 : lsp ts 0 = ts.length) (h1 : 1 ≤ ts.length) (h : 0 ≤ s_nam (lsp ts) (lnm ts) X n 0 cs) : 0 ≤ s_nam (C 8) (C 9) X n p cs := by
  have e : s_bh (lsp ts) 0 = ts.length := by
    unfold s_bh
    show 0 + max 1 (lsp ts 0) = _
    rw [hs0]; omega
  have e2 := s_nam_sh (sp := C 8) (nm := C 9) (sp2 := lsp ts) (nm2 := lnm ts) (b := X) (n := n) (p := p) (cs := cs) hp (fun j hj => by
    rw [e] at hj
    have hgj := s_at_get hat (j := j) (by omega)
    exact ⟨hgj.2.2.2.1, hgj.2.2.2.2⟩)
  rw [e2, if_neg (by omega)]
  omega
theorem at_8 {C : Nat → Nat → Int} {p : Int} {ts : List tk} (hat : s_at C p.toNat ts) (hs0 : lsp ts 0 = ts.length) (h1 : 1 ≤ ts.length) : C 8 p.toNat = ts.length ∧ C 5 p.toNat = lkd ts 0 := by
  have h := s_at_get hat (j := 0) (by omega)
  rw [Nat.add_zero] at h
  exact ⟨by rw [h.2.2.2.1, hs0], h.1⟩
/-- objects one behind the other, behind the trailer -/
theorem op_LY {C : Nat → Nat → Int} {U R ln : Nat → Int} {sz lt : Int} (hz : 0 ≤ sz) (hlt : 1 ≤ lt) (ht : C 8 0 = lt) (hln : ∀ k, 0 ≤ ln k) (h : ∀ k : Nat, (k : Int) < sz → ¬ U k = 0 → R k = lt + s_sm ln k ∧ C 8 (R k).toNat = ln k ∧ 1 ≤ ln k) : LY (lt + s_sm ln sz.toNat) sz U R (C 8) 0 := by
  have hm : ∀ {a b : Nat}, a ≤ b → s_sm ln a ≤ s_sm ln b := fun h9 => s_sm_mono hln h9
  have h0 : ∀ a : Nat, 0 ≤ s_sm ln a := fun a => by have := hm (Nat.zero_le a); exact this
  have hs : ∀ a : Nat, s_sm ln (a + 1) = s_sm ln a + ln a := fun _ => rfl
  refine ⟨fun k k1 k2 => ?_, ⟨Int.le_refl 0, ?_, ?_⟩, fun j k j1 k1 j2 k2 jk => ?_, fun k k1 k2 => ?_⟩
  · obtain ⟨e1, e2, e3⟩ := h k k1 k2
    have b1 := h0 k
    have b2 := hm (show k + 1 ≤ sz.toNat by omega)
    rw [hs] at b2
    rw [e2]
    omega
  · show 1 ≤ C 8 0
    omega
  · show 0 + C 8 0 ≤ _
    have := h0 sz.toNat
    omega
  · obtain ⟨e1, e2, e3⟩ := h j j1 j2
    obtain ⟨e4, e5, e6⟩ := h k k1 k2
    rw [e2, e5]
    rcases Nat.lt_or_gt_of_ne jk with z | z
    · have b2 := hm (show j + 1 ≤ k by omega)
      rw [hs] at b2
      omega
    · have b2 := hm (show k + 1 ≤ j by omega)
      rw [hs] at b2
      omega
  · obtain ⟨e1, e2, e3⟩ := h k k1 k2
    right
    show 0 + C 8 0 ≤ R k
    have := h0 k
    omega
