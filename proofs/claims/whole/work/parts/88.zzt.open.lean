/-! steps: open, before -/
/-- what a trailer that is read says -/
def PT (b : Nat → Int) (n : Int) (ts : List tk) : Prop := lkd ts 0 = 7 ∧ 0 ≤ s_nam (lsp ts) (lnm ts) b n 0 [83, 105, 122, 101] ∧ lsp ts 0 = ts.length
theorem trd_PT {b : Nat → Int} (hB : ∀ j, -128 ≤ b j ∧ b j ≤ 127) {n w hi : Int} {z : List tk × Int × Option Int} (h : s_trd b n w hi = some z) : PT b n z.1 := by
  unfold s_trd at h
  obtain ⟨v, hv, h9⟩ := Option.bind_eq_some_iff.mp h
  have h0 := val_sp0 hB (ts := v.1) (j := v.2) hv
  split at h9
  · cases h9
  · next c7 =>
    split at h9
    · cases h9
    · next c8 =>
      split at h9
      · cases h9
      · cases h9
        show lkd v.1 0 = 7 ∧ 0 ≤ s_nam (lsp v.1) (lnm v.1) b n 0 [83, 105, 122, 101] ∧ lsp v.1 0 = v.1.length
        exact ⟨by omega, by omega, h0⟩
theorem tabs_PT {b : Nat → Int} (hB : ∀ j, -128 ≤ b j ∧ b j ≤ 127) {n f : Int} : ∀ {m : Nat} {k nx : Int} {pls : List Int} {x : ost} {sz : Int} {ts : List tk}, (k = 0 ∨ PT b n ts) → 0 ≤ k → (s_tabs b n f m k nx pls x sz ts).1 = 0 → PT b n (s_tabs b n f m k nx pls x sz ts).2.2.2.2
  | 0, k, nx, pls, x, sz, ts, h, _, h0 => absurd (show (3 : Int) = 0 from h0) (by decide)
  | m + 1, k, nx, pls, x, sz, ts, h, hk, h0 => by
    cases h1 : s_tab b n f k sz nx pls x with
    | none => rw [s_tabs_3 h1] at h0; exact absurd (show (3 : Int) = 0 from h0) (by decide)
    | some y =>
      cases h3 : s_trd b n y.2 y.1.2.2.2.2 with
      | none => rw [s_tabs_4 h1 h3] at h0; exact absurd (show (4 : Int) = 0 from h0) (by decide)
      | some z =>
        have h8 : PT b n (if k = 0 then z.1 else ts) := by
          by_cases k0 : k = 0
          · rw [if_pos k0]; exact trd_PT hB h3
          · rw [if_neg k0]
            rcases h with h | h
            · exact absurd h k0
            · exact h
        cases h4 : z.2.2 with
        | none => rw [s_tabs_0 h1 h3 h4]; exact h8
        | some p =>
          rw [s_tabs_s h1 h3 h4] at h0 ⊢
          exact tabs_PT hB (Or.inr h8) (by omega) h0
theorem ot_PT {b : Nat → Int} (hB : ∀ j, -128 ≤ b j ∧ b j ≤ 127) {n f : Int} {x : ost} (h : (s_ot b n f x).1 = 0) : PT b n (s_ot b n f x).2.2.2.2 := by
  unfold s_ot at h ⊢
  split at h
  · exact absurd (show (1 : Int) = 0 from h) (by decide)
  · next c1 =>
    rw [if_neg c1]
    split at h
    · exact absurd (show (2 : Int) = 0 from h) (by decide)
    · next c2 =>
      rw [if_neg c2]
      exact tabs_PT hB (Or.inl rfl) (Int.le_refl 0) h
/-- the six cells of a file beside what stays -/
def gfx (g : Nat → Option xE) (cp : Nat) (e0 e1 e2 e3 e4 e5 : xE) : Nat → Option xE := fun c => if c = cp then some e0 else if c = cp + 1 then some e1 else if c = cp + 2 then some e2 else if c = cp + 3 then some e3 else if c = cp + 4 then some e4 else if c = cp + 5 then some e5 else g c
theorem gfx_ok {g : Nat → Option xE} {dy : xH} {cp : Nat} {e0 e1 e2 e3 e4 e5 : xE} (h : gok g dy) (h0 : ct dy cp e0) (h1 : ct dy (cp + 1) e1) (h2 : ct dy (cp + 2) e2) (h3 : ct dy (cp + 3) e3) (h4 : ct dy (cp + 4) e4) (h5 : ct dy (cp + 5) e5) : gok (gfx g cp e0 e1 e2 e3 e4 e5) dy := fun c e z => by
  unfold gfx at z
  split at z
  · next c9 => cases z; rw [c9]; exact h0
  · split at z
    · next c9 => cases z; rw [c9]; exact h1
    · split at z
      · next c9 => cases z; rw [c9]; exact h2
      · split at z
        · next c9 => cases z; rw [c9]; exact h3
        · split at z
          · next c9 => cases z; rw [c9]; exact h4
          · split at z
            · next c9 => cases z; rw [c9]; exact h5
            · exact h c e z
theorem gfx_bk {g : Nat → Option xE} {dy : xH} {cp : Nat} {e0 e1 e2 e3 e4 e5 : xE} (hn : gnp g cp) (h : gok (gfx g cp e0 e1 e2 e3 e4 e5) dy) : gok g dy ∧ ct dy cp e0 ∧ ct dy (cp + 1) e1 ∧ ct dy (cp + 2) e2 ∧ ct dy (cp + 3) e3 ∧ ct dy (cp + 4) e4 ∧ ct dy (cp + 5) e5 := by
  refine ⟨fun c e z => h c e ?_, h _ _ ?_, h _ _ ?_, h _ _ ?_, h _ _ ?_, h _ _ ?_, h _ _ ?_⟩
  · unfold gfx
    obtain ⟨n0, n1, n2, n3, n4, n5⟩ := hn
    rw [if_neg (fun w => by rw [w, n0] at z; cases z), if_neg (fun w => by rw [w, n1] at z; cases z), if_neg (fun w => by rw [w, n2] at z; cases z), if_neg (fun w => by rw [w, n3] at z; cases z), if_neg (fun w => by rw [w, n4] at z; cases z), if_neg (fun w => by rw [w, n5] at z; cases z)]
    exact z
  · unfold gfx; rw [if_pos rfl]
  · unfold gfx; rw [if_neg (by omega), if_pos rfl]
  · unfold gfx; rw [if_neg (by omega), if_neg (by omega), if_pos rfl]
  · unfold gfx; rw [if_neg (by omega), if_neg (by omega), if_neg (by omega), if_pos rfl]
  · unfold gfx; rw [if_neg (by omega), if_neg (by omega), if_neg (by omega), if_neg (by omega), if_pos rfl]
  · unfold gfx; rw [if_neg (by omega), if_neg (by omega), if_neg (by omega), if_neg (by omega), if_neg (by omega), if_pos rfl]
theorem gfx_le {g : Nat → Option xE} {cp : Nat} {e0 e1 e2 e3 e4 e5 : xE} (hn : gnp g cp) : gle g (gfx g cp e0 e1 e2 e3 e4 e5) := fun c e z => by
  unfold gfx
  obtain ⟨n0, n1, n2, n3, n4, n5⟩ := hn
  rw [if_neg (fun w => by rw [w, n0] at z; cases z), if_neg (fun w => by rw [w, n1] at z; cases z), if_neg (fun w => by rw [w, n2] at z; cases z), if_neg (fun w => by rw [w, n3] at z; cases z), if_neg (fun w => by rw [w, n4] at z; cases z), if_neg (fun w => by rw [w, n5] at z; cases z)]
  exact z
/-- what the opener leaves when it fails -/
theorem Inv_of {n : Nat} {q : Nat → Int} {r : Nat → Option Nat} {A P2 : Nat → Nat → Int} {dy : xH} {g : Nat → Option xE} {x9 : ost} {nx mo hi aw sz tb lt tr N ol j : Int} {pc sm rt tk : Nat → Int} (h : Inv n q r A dy g) (hk : s_keep (q 133).toNat A P2) (ho : s_ok5 P2) (hrt : ∀ j, 0 ≤ rt j ∧ rt j ≤ 12900) (hj : 0 ≤ j ∧ j ≤ 4000) : Inv n (x_up (x_up (x_up (x_up (x_up (oQ q (q 133) nx mo hi aw sz tb lt tr) 35 (q 34)) 1349 0) 1345 N) 1354 ol) 1346 j) (x_up (x_up (x_up (x_up (x_up (x_up r 7 (some 26)) 8 (some 32)) 9 (some 38)) 10 (some 40)) 359 (some 32)) 1344 (some 44)) (x_up (oA A P2 x9 pc sm rt) 43 tk) dy g := by
  have h2 := Inv_keep (Inv_drop h) hk ho h.2.2.2.2.1 (fun _ _ _ _ _ _ _ _ _ _ _ z _ => z)
  obtain ⟨t, rr, oo, bb, gk, pt, f⟩ := h2
  obtain ⟨S, T, c, hd, s1, s2, s3⟩ := rr.2
  exact ⟨t, ⟨⟨rfl, rfl, rfl, rfl⟩, S, T, c, hd, s1, s2, s3⟩, oo, ⟨bb.1, hj, bb.2.2.1, bb.2.2.2.1, bb.2.2.2.2.1, hrt⟩, gk, pt, f⟩
