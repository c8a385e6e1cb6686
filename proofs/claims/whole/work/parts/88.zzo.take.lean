/-! a value is taken: what holds then -/
theorem Dj_gl {X : Nat → Int} {E : Int} {g g2 : Nat → Option xE} {P : Nat → Nat → Int} {D : Nat} {p : Int} {c : Nat} (ht : Tr X E g P (D + 1) p c) (hk : P 5 p.toNat = 7) (hd : Dj g c) (hg : gle g g2) : Dj g2 c := by
  intro x y m bt ci nm cap fi h1 h2
  obtain ⟨_, x', y', m', bt', it', nm', hc, hL, hm, h60, hch, hK⟩ := Tr_o ht
  rw [hk] at hc
  obtain ⟨ci', cn', cap', cap2', fi', fn', nb', nl', nf', e1, e2, b3, b4, -⟩ := tK_names hK (Or.inl hk)
  subst e1
  subst e2
  have h3 := hg _ _ hc
  rw [h1] at h3
  have h4 := Option.some.inj h3
  have h5 : ([xI 7, xI x, xI y, xI m, xO bt, xC ci, xO nm] : List xV) = [xI 7, xI x', xI y', xI m', xO bt', xC ci', xC cn'] := by
    have := Sum.inr.inj (Sum.inr.inj h4)
    exact (Prod.mk.inj this).2
  simp only [List.cons.injEq, and_true] at h5
  obtain ⟨_, _, _, i4, _, i6, _⟩ := h5
  have i4 : m = m' := Sum.inl.inj i4
  have i6 : ci = ci' := Option.some.inj (Sum.inl.inj (Sum.inr.inj (Sum.inr.inj i6)))
  subst i4
  subst i6
  have h6 := hg _ _ b3
  rw [h2] at h6
  have h7 := Option.some.inj h6
  have h8 := Prod.mk.inj (Sum.inl.inj (Sum.inr.inj h7))
  have h9 := Prod.mk.inj h8.2
  have e9 : fi = fi' := h9.2
  subst e9
  exact hd x' y' m bt' ci (some cn') cap' fi hc b3
theorem Inv_tk {n : Nat} {q : Nat → Int} {r : Nat → Option Nat} {A C : Nat → Nat → Int} {dy dy2 : xH} {g g2 : Nat → Option xE} {a w T2 tr2 : Int} {R2 : Nat → Int} {cp cb ct c : Nat} {fis fge fpl : Nat → Int} {fva : Nat → Option Nat} {fch fb : Nat → Int} (h : Inv n q r A dy g) (hf : iF q r A dy g cp cb ct fis fge fpl fva fch fb) (ha : 0 ≤ a ∧ a ≤ q 837 ∧ a < 300) (kC : s_ok5 C) (kR : ∀ j, 0 ≤ R2 j ∧ R2 j ≤ 12900) (kL : LY T2 (max (q 837) (a + 1)) (x_up (A 29) a.toNat 1) R2 (C 8) tr2) (kt : C 8 tr2.toNat ≤ 3545) (kT : T2 = C 8 tr2.toNat + s_sm (s_pbf (x_up (A 29) a.toNat 1) R2 (C 8) (-1)) (max (q 837) (a + 1)).toNat) (k9 : s_sm (s_pbf (x_up (A 29) a.toNat 1) R2 (C 8) (-1)) (max (q 837) (a + 1)).toNat ≤ 900) (kTr : ∀ k : Nat, (k : Int) < max (q 837) (a + 1) → ¬ x_up (A 29) a.toNat 1 k = 0 → (∃ c2, x_up fva a.toNat (some c) k = some c2 ∧ Tr (A 2) (q 35) g2 C 9 (R2 k) c2) ∧ (¬ x_up (A 31) a.toNat w k = 0 ↔ ¬ x_up (A 30) a.toNat 1 k = 0 ∧ C 5 (R2 k).toNat = 9)) (ktr : Tr (A 2) (q 35) g2 C 9 tr2 ct) (k7 : C 5 tr2.toNat = 7) (kn : ∀ n2, q 35 ≤ n2 → 0 ≤ s_nam (C 8) (C 9) (A 2) n2 tr2 [83, 105, 122, 101]) (hg : gle g g2) (hg2 : gok g2 dy2) (hnp : gnp g2 cp) (hdj : Dj g2 ct) (hp2 : PB dy2 cp (some cb) (q 838) (q 839) (some ct) (max (q 837) (a + 1)) (x_up fis a.toNat 2) fge fpl (x_up fva a.toNat (some c)) (x_up fch a.toNat 1)) : Inv n (x_up (x_up (x_up (x_up (x_up (x_up q 133 T2) 837 (max (q 837) (a + 1))) 840 tr2) 34 (q 35)) 11 (-1)) 1349 0) (x_up r 1351 none) (x_up (x_up (x_up (x_up (s_pt A C) 29 (x_up (A 29) a.toNat 1)) 30 (x_up (A 30) a.toNat 1)) 31 (x_up (A 31) a.toNat w)) 27 R2) dy2 g2 := by
  obtain ⟨t, rr, oo, bb, gk, -, -⟩ := h
  obtain ⟨f1, f2, f3, f4, f5, f6, f7, f8, f9, f10, f11⟩ := hf
  refine ⟨⟨⟨?_, Int.le_refl _, t.1.2.2⟩, ⟨?_, ?_⟩, fun k hk => ?_, t.2.2.2⟩, rr, oo, ⟨kC, bb.2.1, bb.2.2.1, bb.2.2.2.1, kR, bb.2.2.2.2.2⟩, hg2, Or.inl ⟨rfl, rfl⟩, Or.inr ⟨iL_LY.mpr ⟨kL, kt, kT, k9⟩, cp, cb, ct, _, _, _, _, _, fb, f1, hp2, hnp, ⟨hg _ _ f4.1, f4.2⟩, ⟨f5.1, f5.2.1, ?_, f5.2.2.2⟩, ⟨?_, ?_⟩, f7, fun k hk => ?_, ?_, kTr, ktr, k7, hdj, kn⟩⟩
  · show 8 ≤ q 35
    have := t.1
    omega
  · show q 35 - q 35 = 0
    omega
  · show (0 : Int) ≤ 4000
    omega
  · have hk : (k : Int) < 0 := hk
    omega
  · show q 842 ≤ q 35
    have := t.1
    omega
  · show 1 ≤ max (q 837) (a + 1)
    omega
  · show max (q 837) (a + 1) ≤ 300
    omega
  · obtain ⟨a1, a2, a3, a4, a5⟩ := f8 k hk
    show (x_up fis a.toNat 2 k = 2 ↔ ¬ x_up (A 29) a.toNat 1 k = 0) ∧ fge k = A 28 k ∧ x_up fch a.toNat 1 k = x_up (A 30) a.toNat 1 k ∧ (0 ≤ A 28 k ∧ A 28 k ≤ 99999) ∧ (max (q 837) (a + 1) ≤ k → x_up (A 29) a.toNat 1 k = 0 ∧ x_up (A 30) a.toNat 1 k = 0)
    by_cases e : k = a.toNat
    · subst e
      rw [x_up_s, x_up_s, x_up_s, x_up_s]
      exact ⟨⟨fun _ => by omega, fun _ => rfl⟩, a2, rfl, a4, fun z => by omega⟩
    · rw [x_up_n _ _ e, x_up_n _ _ e, x_up_n _ _ e, x_up_n _ _ e]
      exact ⟨a1, a2, a3, a4, fun z => a5 (by omega)⟩
  · rw [x_up_n _ _ (by omega)]; exact f9
