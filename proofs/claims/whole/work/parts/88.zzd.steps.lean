/-! steps: from part to part -/
/-- the next state, and what it cost -/
def Nx (n : Nat) (dy : xH) (K : Nat → Nat → Nat) (T : Int) (h : xH) : Prop := ∃ (b o : Bool) (q : Nat → Int) (r : Nat → Option Nat) (A : Nat → Nat → Int) (dy2 : xH) (g : Nat → Option xE), h = hF (vq b o q) (vr b o r) (vA b o A) ++ dy2 ∧ Inv n q r A dy2 g ∧ q 1349 ≤ T ∧ ∀ u w, mu u w dy2 ≤ mu u w dy + K u w
theorem Nx_i {n : Nat} {dy : xH} {K : Nat → Nat → Nat} {T : Int} {b o : Bool} {q : Nat → Int} {r : Nat → Option Nat} {A : Nat → Nat → Int} {g : Nat → Option xE} (h : Inv n q r A dy g) (hT : q 1349 ≤ T := by exact Int.le_refl _) : Nx n dy K T (hF (vq b o q) (vr b o r) (vA b o A) ++ dy) := ⟨b, o, q, r, A, dy, g, rfl, h, hT, fun u w => Nat.le_add_right _ _⟩
theorem Inv_s {n : Nat} {q : Nat → Int} {r : Nat → Option Nat} {A : Nat → Nat → Int} {dy : xH} {g : Nat → Option xE} (h : Inv n q r A dy g) : Inv (n + 1) q r A dy g := by
  obtain ⟨⟨t1, t2⟩, h2⟩ := h
  exact ⟨⟨⟨t1.1, t1.2.1, by have := t1.2.2; omega⟩, t2⟩, h2⟩
theorem Inv_pt {n : Nat} {q : Nat → Int} {r : Nat → Option Nat} {A : Nat → Nat → Int} {dy : xH} {g : Nat → Option xE} {p : Int} {c : Nat} (h : Inv n q r A dy g) (hf : 1 ≤ q 837) (hp : 0 ≤ p ∧ p < 12900 ∧ s_bh (A 8) p ≤ 12900 ∧ s_bh (A 8) p ≤ q 133) (ht : Tr (A 2) (q 34) g A 9 p c) : Inv n (x_up q 11 p) (x_up r 1351 (some c)) A dy g := by
  obtain ⟨t, rr, oo, bb, gk, pt, f⟩ := h
  refine ⟨t, rr, oo, bb, gk, Or.inr ⟨hp, c, rfl, ht⟩, ?_⟩
  rcases f with f | ⟨l, cp, cb, ct, fis, fge, fpl, fva, fch, fb, f⟩
  · have := f.2.1
    omega
  · exact Or.inr ⟨l, cp, cb, ct, fis, fge, fpl, fva, fch, fb, f⟩
theorem Inv_RC {n : Nat} {q : Nat → Int} {r : Nat → Option Nat} {A : Nat → Nat → Int} {dy : xH} {g : Nat → Option xE} (h : Inv n q r A dy g) : x_up (x_up (x_up (x_up r 7 (some 26)) 8 (some 32)) 9 (some 38)) 10 (some 40) = r := RC_eq h.2.1.1.1 h.2.1.1.2.1 h.2.1.1.2.2.1 h.2.1.1.2.2.2
theorem vr_at {b o : Bool} {r : Nat → Option Nat} {k : Nat} {v : Option Nat} (hk : 1344 ≤ k) (h : r k = v) (hv : ∀ c, v = some c → 42 ≤ c) : vr b o r k = v := by
  show (r (sh b o k)).map (swc b o) = v
  rw [sh_hi b o hk, h]
  cases v with
  | none => rfl
  | some c => show some (swc b o c) = some c; rw [swc_hi b o (hv c rfl)]
theorem Tr_52 {X : Nat → Int} {E : Int} {g : Nat → Option xE} {P : Nat → Nat → Int} {D : Nat} {p : Int} {c : Nat} {dy : xH} (hg : gok g dy) (h : Tr X E g P D p c) : 52 ≤ c := by
  obtain ⟨_, fs, hc⟩ := Tr_c h
  exact (hg _ _ hc).1
/-- how a move ends -/
theorem nav_fin {Z : xZ} {d : Nat} {n : Nat} {b o : Bool} {q : Nat → Int} {r : Nat → Option Nat} {A : Nat → Nat → Int} {dy : xH} {g : Nat → Option xE} {Yc Ym : xY} {av : List xV} (hav : av.map (rnV (swc b o)) = av) (q1 : Nat → Int) (hI : Inv n (x_up q1 1349 (q1 35 - q1 34)) r A dy g) {T : Int} (hT : q1 35 - q1 34 ≤ T) (hf : 1 ≤ q1 837) (hq : ∀ k, 1344 ≤ k → q1 k = q k) {p2 : Int} (hp2 : 0 ≤ p2 → p2 < 12900 ∧ s_bh (A 8) p2 ≤ 12900 ∧ s_bh (A 8) p2 ≤ q1 133) (hc : xMet Z d Yc (xC 0 :: av) (hF q r A ++ vd b o dy) (fun v h2 => (p2 < 0 ∧ v = some (xI (-2)) ∧ h2 = hF q1 r A ++ vd b o dy) ∨ (0 ≤ p2 ∧ v = some (xI (A 5 p2.toNat)) ∧ h2 = hF (x_up q1 11 p2) r A ++ vd b o dy))) {fo po : Option Nat} (hfo : r 1350 = fo) (hpo : r 1351 = po) (hfc : ∀ c, fo = some c → 42 ≤ c) (hpc : ∀ c, po = some c → 42 ≤ c) {E : Int} (hE : E = q1 34) (hm : ∀ q2 : Nat → Int, (∀ k, 1344 ≤ k → q2 k = q k) → xMet Z d Ym (xC 42 :: av) (hF (vq b o q2) (x_up (x_up (vr b o r) 1350 fo) 1351 po) (vA b o A) ++ dy) (nvq (x_up (vq b o q2) 1349 (q1 35 - q1 34)) (vr b o r) (vA b o A) dy fo po (A 2) E g A p2)) : Bth Z d Yc Ym av (hF (vq b o q) (vr b o r) (vA b o A) ++ dy) (Nx n dy (fun _ _ => 0) T) := by
  have hg := hI.2.2.2.2.1
  have er : x_up (x_up (vr b o r) 1350 fo) 1351 po = vr b o r := x_up2 _ _ _ (vr_at (by omega) hfo hfc) (vr_at (by omega) hpo hpc)
  rw [er] at hm
  refine bth_view b o hav hc (fun v h2 hh => ?_)
  rcases hh with ⟨hn, rfl, rfl⟩ | ⟨hn, rfl, rfl⟩
  · refine ⟨-2, q1, r, A, rfl, rfl, ?_⟩
    refine xMet_post ?_ (hm q1 hq)
    rintro v h2 (⟨_, rfl, rfl⟩ | ⟨h0, _⟩)
    · refine ⟨rfl, ?_⟩
      rw [er, vq_up b o _ (by omega)]
      exact Nx_i hI hT
    · omega
  · refine ⟨A 5 p2.toNat, x_up q1 11 p2, r, A, rfl, rfl, ?_⟩
    refine xMet_post ?_ (hm (x_up q1 11 p2) (fun k hk => by rw [x_up_n _ _ (by omega)]; exact hq k hk))
    rintro v h2 (⟨h0, _⟩ | ⟨h0, c2, ht, rfl, rfl⟩)
    · omega
    · refine ⟨rfl, ?_⟩
      subst hE
      have hc2 := Tr_52 hg ht
      have e2 : x_up (x_up (vr b o r) 1350 fo) 1351 (some c2) = vr b o (x_up r 1351 (some c2)) := by
        rw [← vr_up b o r (by omega) (some c2) (fun c hc => by cases hc; omega)]
        congr 1
        rw [← vr_at (b := b) (o := o) (k := 1350) (by omega) hfo hfc, x_up_same]
      rw [e2, vq_up b o _ (by omega), x_up_c q1 (by decide : (11 : Nat) ≠ 1349)]
      exact Nx_i (Inv_pt hI hf ⟨hn, hp2 hn⟩ ht) hT
