/-! the reference: values at every depth -/
theorem OD_0 (Z : xZ) (q : Nat → Int) (r : Nat → Option Nat) (A : Nat → Nat → Int) (X : Nat → Int) (f : Int) (hf : 0 ≤ f) (hn : 0 ≤ q 1345 ∧ q 1345 ≤ 4000) (hX : ∀ k : Nat, (k : Int) < q 1345 → A 44 k = X (f.toNat + k)) (hB : ∀ k, -128 ≤ X k ∧ X k ≤ 127) : OD Z q r A X f 0 := by
  intro d dy g j tk e hd hg he hj
  obtain rfl : e = 8 := by omega
  refine c_M_object_of Z d q r A dy (by omega) X f j tk 8 (by omega) g 0 hg hf hn hX hj hB (fun j tz h1 h2 => ?_) (fun j tz h1 h2 h3 => ?_) (fun i h1 h2 => ⟨?_, ?_⟩)
  · have e1 : s_val X (f + q 1345) 0 (f + j) = none := by unfold s_val; rw [if_pos h2]
    rw [e1]
    exact c_M_array8 Z (d - 1) q r A dy X f j tz g _ _ (by omega)
  · have e1 : s_val X (f + q 1345) 0 (f + j) = none := by unfold s_val; rw [if_neg (by omega), if_pos ⟨h2, h3⟩]
    rw [e1]
    exact c_M_dict8 Z (d - 1) q r A dy X f j tz g _ _ (by omega)
  · unfold s_val; rw [if_neg h1, if_neg h2]
  · intro u w; unfold k_val; rw [if_neg h1, if_neg h2]
theorem OD_S (Z : xZ) (q : Nat → Int) (r : Nat → Option Nat) (A : Nat → Nat → Int) (X : Nat → Int) (f : Int) (hf : 0 ≤ f) (hn : 0 ≤ q 1345 ∧ q 1345 ≤ 4000) (hX : ∀ k : Nat, (k : Int) < q 1345 → A 44 k = X (f.toNat + k)) (hB : ∀ k, -128 ≤ X k ∧ X k ≤ 127) (D : Nat) (hD : D ≤ 8) (hr : OD Z q r A X f D) : OD Z q r A X f (D + 1) := by
  intro d dy g j tk e hd hg he hj
  refine c_M_object_of Z d q r A dy (by omega) X f j tk e (by omega) g (D + 1) hg hf hn hX hj hB (fun j tz h1 h2 => ?_) (fun j tz h1 h2 h3 => ?_) (fun i h1 h2 => ⟨?_, ?_⟩)
  · have e1 : s_val X (f + q 1345) (D + 1) (f + j) = s_bx 6 [] (s_items (s_val X (f + q 1345) D) X (f + q 1345) 60 (s_sc s_white X (f + q 1345) (f + j + 1))) := by
      conv => lhs; unfold s_val
      rw [if_pos h2]; rfl
    have e2 : (fun u w => k_val u w X (f + q 1345) (D + 1) (f + j)) = fun u w => (u + 7 * w) + (u + 4 * w) + k_its (s_val X (f + q 1345) D) (k_val u w X (f + q 1345) D) u w X (f + q 1345) 60 0 (s_sc s_white X (f + q 1345) (f + j + 1)) := by
      funext u w
      conv => lhs; unfold k_val
      rw [if_pos h2]
    rw [e1, e2]
    exact c_M_array Z (d - 1) q r A dy D hD (by omega) X f j tz g hg hf hn hX (by omega) hB hr e (by omega) (by omega)
  · have e1 : s_val X (f + q 1345) (D + 1) (f + j) = s_bx 7 [] (s_ents (s_val X (f + q 1345) D) X (f + q 1345) 30 (s_sc s_white X (f + q 1345) (f + j + 2)) []) := by
      conv => lhs; unfold s_val
      rw [if_neg (by omega), if_pos ⟨h2, h3⟩]; rfl
    have e2 : (fun u w => k_val u w X (f + q 1345) (D + 1) (f + j)) = fun u w => (u + 7 * w) + 2 * (u + 4 * w) + k_ens (s_val X (f + q 1345) D) (k_val u w X (f + q 1345) D) u w X (f + q 1345) 30 0 (s_sc s_white X (f + q 1345) (f + j + 2)) [] := by
      funext u w
      conv => lhs; unfold k_val
      rw [if_neg (by omega), if_pos ⟨h2, h3⟩]
    rw [e1, e2]
    exact c_M_dict Z (d - 1) q r A dy D hD (by omega) X f j tz g hg hf hn hX (by omega) hB hr e (by omega) (by omega)
  · conv => lhs; unfold s_val
    rw [if_neg h1, if_neg h2]
  · intro u w
    conv => lhs; unfold k_val
    rw [if_neg h1, if_neg h2]
theorem OD_all (Z : xZ) (q : Nat → Int) (r : Nat → Option Nat) (A : Nat → Nat → Int) (X : Nat → Int) (f : Int) (hf : 0 ≤ f) (hn : 0 ≤ q 1345 ∧ q 1345 ≤ 4000) (hX : ∀ k : Nat, (k : Int) < q 1345 → A 44 k = X (f.toNat + k)) (hB : ∀ k, -128 ≤ X k ∧ X k ≤ 127) : ∀ D : Nat, D ≤ 8 → OD Z q r A X f D
  | 0, _ => OD_0 Z q r A X f hf hn hX hB
  | D + 1, h => OD_S Z q r A X f hf hn hX hB D (by omega) (OD_all Z q r A X f hf hn hX hB D (by omega))
