/-! parts are cut out: all else moves -/
/-- where a place is when m from f on are gone -/
def sf (f m p : Int) : Int := if f < p then p - m else p
def LY (T sz : Int) (U R sp : Nat → Int) (tr : Int) : Prop := (∀ k : Nat, (k : Int) < sz → ¬ U k = 0 → 0 ≤ R k ∧ 1 ≤ sp (R k).toNat ∧ R k + sp (R k).toNat ≤ T) ∧ (0 ≤ tr ∧ 1 ≤ sp tr.toNat ∧ tr + sp tr.toNat ≤ T) ∧ (∀ j k : Nat, (j : Int) < sz → (k : Int) < sz → ¬ U j = 0 → ¬ U k = 0 → ¬ j = k → R j + sp (R j).toNat ≤ R k ∨ R k + sp (R k).toNat ≤ R j) ∧ (∀ k : Nat, (k : Int) < sz → ¬ U k = 0 → R k + sp (R k).toNat ≤ tr ∨ tr + sp tr.toNat ≤ R k)
theorem cut_at {A : Nat → Nat → Int} {f m T p s : Int} (hf : 0 ≤ f ∧ 0 < m ∧ f + m ≤ T) (hp : 0 ≤ p ∧ p + s ≤ T) (hd : p + s ≤ f ∨ f + m ≤ p) {j : Int} (hj : p ≤ j ∧ j < p + s) : s_tok (s_cut A f m T) (j + (sf f m p - p)).toNat = s_tok A j.toNat := by
  rw [s_cut_tok A hf.1 (by omega) hf.2.2]
  unfold sf
  rcases hd with h | h
  · rw [if_neg (show ¬ f < p by omega), show j + (p - p) = j by omega, if_neg (by omega)]
  · rw [if_pos (show f < p by omega), show j + (p - m - p) = j - m by omega, if_pos (by omega)]
    congr 1
    omega
theorem s_tok_a {P P2 : Nat → Nat → Int} {j k : Nat} (h : s_tok P2 j = s_tok P k) (a : Nat) (h5 : 5 ≤ a) (h9 : a ≤ 9) : P2 a j = P a k := by
  unfold s_tok at h
  simp only [Prod.mk.injEq] at h
  obtain ⟨h1, h2, h3, h4, h6⟩ := h
  rcases (show a = 5 ∨ a = 6 ∨ a = 7 ∨ a = 8 ∨ a = 9 by omega) with rfl | rfl | rfl | rfl | rfl
  · exact h1
  · exact h2
  · exact h3
  · exact h4
  · exact h6
theorem cut_Tr {X : Nat → Int} {E : Int} {g : Nat → Option xE} {A P2 : Nat → Nat → Int} {f m T p : Int} {c D : Nat} (hP2 : ∀ a, 5 ≤ a → a ≤ 9 → P2 a = s_cut A f m T a) (hf : 0 ≤ f ∧ 0 < m ∧ f + m ≤ T) (hp : 0 ≤ p ∧ 1 ≤ A 8 p.toNat ∧ p + A 8 p.toNat ≤ T) (hd : p + A 8 p.toNat ≤ f ∨ f + m ≤ p) (h : Tr X E g A D p c) : Tr X E g P2 D (sf f m p) c := by
  have hb : s_bh (A 8) p = p + A 8 p.toNat := by unfold s_bh; omega
  have h0 : 0 ≤ p + (sf f m p - p) := by unfold sf; split <;> omega
  have := Tr_sh (P2 := P2) (u := sf f m p - p) D p c h h0 (fun a a5 a9 j j1 j2 _ => by
    rw [hb] at j2
    rw [hP2 a a5 a9]
    exact s_tok_a (cut_at hf ⟨hp.1, hp.2.2⟩ hd ⟨j1, j2⟩) a a5 a9)
  rw [show p + (sf f m p - p) = sf f m p by omega] at this
  exact this
theorem cut_8 {A : Nat → Nat → Int} {f m T p : Int} (hf : 0 ≤ f ∧ 0 < m ∧ f + m ≤ T) (hp : 0 ≤ p ∧ 1 ≤ A 8 p.toNat ∧ p + A 8 p.toNat ≤ T) (hd : p + A 8 p.toNat ≤ f ∨ f + m ≤ p) (a : Nat) (h5 : 5 ≤ a) (h9 : a ≤ 9) : s_cut A f m T a (sf f m p).toNat = A a p.toNat := by
  have h1 := cut_at (A := A) hf ⟨hp.1, hp.2.2⟩ hd (j := p) ⟨by omega, by omega⟩
  rw [show p + (sf f m p - p) = sf f m p by omega] at h1
  exact s_tok_a h1 a h5 h9
theorem LY_cut {A : Nat → Nat → Int} {T sz : Int} {U R : Nat → Int} {tr f m : Int} (h : LY T sz U R (A 8) tr) (hf : 0 ≤ f ∧ 0 < m ∧ f + m ≤ T) (hd : ∀ k : Nat, (k : Int) < sz → ¬ U k = 0 → R k + A 8 (R k).toNat ≤ f ∨ f + m ≤ R k) (ht : tr + A 8 tr.toNat ≤ f ∨ f + m ≤ tr) : (∀ k : Nat, (k : Int) < sz → ¬ U k = 0 → s_gap R U sz f m k = sf f m (R k) ∧ s_cut A f m T 8 (s_gap R U sz f m k).toNat = A 8 (R k).toNat) ∧ tr - (if f < tr then m else 0) = sf f m tr ∧ s_cut A f m T 8 (sf f m tr).toNat = A 8 tr.toNat ∧ LY (T - m) sz U (s_gap R U sz f m) (s_cut A f m T 8) (sf f m tr) := by
  obtain ⟨h1, h2, h3, h4⟩ := h
  have k1 : ∀ k : Nat, (k : Int) < sz → ¬ U k = 0 → s_gap R U sz f m k = sf f m (R k) ∧ s_cut A f m T 8 (s_gap R U sz f m k).toNat = A 8 (R k).toNat := fun k a1 a2 => by
    have e : s_gap R U sz f m k = sf f m (R k) := by
      unfold s_gap sf
      by_cases c : f < R k
      · rw [if_pos ⟨a1, a2, c⟩, if_pos c]
      · rw [if_neg (fun z => c z.2.2), if_neg c]
    refine ⟨e, ?_⟩
    rw [e]
    exact cut_8 hf (h1 k a1 a2) (hd k a1 a2) 8 (by omega) (by omega)
  have k2 := cut_8 hf h2 ht 8 (by omega) (by omega)
  refine ⟨k1, by unfold sf; split <;> omega, k2, fun k a1 a2 => ?_, ?_, fun j k a1 a2 a3 a4 a5 => ?_, fun k a1 a2 => ?_⟩
  · obtain ⟨e1, e2⟩ := k1 k a1 a2
    have b1 := h1 k a1 a2
    have b2 := hd k a1 a2
    rw [e2, e1]
    unfold sf
    split <;> omega
  · rw [k2]
    unfold sf
    split <;> omega
  · obtain ⟨e1, e2⟩ := k1 j a1 a3
    obtain ⟨e3, e4⟩ := k1 k a2 a4
    have b1 := h1 j a1 a3
    have b2 := hd j a1 a3
    have b3 := h1 k a2 a4
    have b4 := hd k a2 a4
    have b5 := h3 j k a1 a2 a3 a4 a5
    rw [e2, e4, e1, e3]
    unfold sf
    split <;> split <;> omega
  · obtain ⟨e1, e2⟩ := k1 k a1 a2
    have b1 := h1 k a1 a2
    have b2 := hd k a1 a2
    have b3 := h4 k a1 a2
    rw [e2, k2, e1]
    unfold sf
    split <;> split <;> omega
theorem iL_LY {q : Nat → Int} {A : Nat → Nat → Int} : iL q A ↔ (LY (q 133) (q 837) (A 29) (A 27) (A 8) (q 840) ∧ A 8 (q 840).toNat ≤ 3545 ∧ q 133 = A 8 (q 840).toNat + s_sm (s_pbf (A 29) (A 27) (A 8) (-1)) (q 837).toNat ∧ s_sm (s_pbf (A 29) (A 27) (A 8) (-1)) (q 837).toNat ≤ 900) :=
  ⟨fun ⟨h1, h2, h3, h4, h5, h6⟩ => ⟨⟨h1, ⟨h2.1, h2.2.1, h2.2.2.1⟩, h3, h4⟩, h2.2.2.2, h5, h6⟩, fun ⟨⟨h1, h2, h3, h4⟩, h5, h6, h7⟩ => ⟨h1, ⟨h2.1, h2.2.1, h2.2.2, h5⟩, h3, h4, h6, h7⟩⟩
theorem sum_but {U R sp : Nat → Int} {n sz : Int} (hn : 0 ≤ n ∧ n < sz) (hu : ¬ U n.toNat = 0) : s_sm (s_pbf U R sp n) sz.toNat = s_sm (s_pbf U R sp (-1)) sz.toNat - sp (R n.toNat).toNat := by
  have e1 : s_sm (s_pbf U R sp n) sz.toNat = s_sm (x_up (s_pbf U R sp (-1)) n.toNat 0) sz.toNat := s_sm_cong _ (fun k hk => by
    by_cases e : k = n.toNat
    · rw [e, x_up_s]
      unfold s_pbf
      rw [if_neg (fun z => z.2 (by omega))]
    · rw [x_up_n _ _ e]
      unfold s_pbf
      by_cases c : ¬ U k = 0
      · rw [if_pos ⟨c, by omega⟩, if_pos ⟨c, by omega⟩]
      · rw [if_neg (fun z => c z.1), if_neg (fun z => c z.1)])
  rw [e1, s_sm_up (by omega)]
  have e2 : s_pbf U R sp (-1) n.toNat = sp (R n.toNat).toNat := by
    unfold s_pbf
    rw [if_pos ⟨hu, by omega⟩]
  rw [e2]
  omega
