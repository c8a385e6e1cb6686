/-! what holds between two calls -/
/-- the text and the tape -/
def iT (n : Nat) (q : Nat → Int) (A : Nat → Nat → Int) : Prop := (8 ≤ q 34 ∧ q 34 ≤ q 35 ∧ q 35 ≤ 8 + 20 * n) ∧ (q 35 - q 34 = q 1349 ∧ q 1349 ≤ 4000) ∧ (∀ k : Nat, (k : Int) < q 1349 → A 44 k = A 2 ((q 34).toNat + k)) ∧ (∀ k, k < 6 → A 2 k = [76, 101, 110, 103, 116, 104].getD k 0) ∧ s_reg (A 2 6) = false ∧ s_okR A
/-- the references of the class -/
def iR (r : Nat → Option Nat) : Prop := (r 7 = some 26 ∧ r 8 = some 32 ∧ r 9 = some 38 ∧ r 10 = some 40) ∧ ∃ S S2 c, dcf S S2 c ∧ r 578 = some S ∧ r 579 = some S2 ∧ r 580 = some c
/-- out -/
def iO (q : Nat → Int) (A : Nat → Nat → Int) : Prop := q 1217 = q 1353 ∧ (0 ≤ q 1353 ∧ q 1353 ≤ 6000) ∧ ∀ k : Nat, (k : Int) < q 1353 → A 39 k = A 45 k
/-- bounds -/
def iB (q : Nat → Int) (A : Nat → Nat → Int) : Prop := s_ok5 A ∧ (0 ≤ q 1346 ∧ q 1346 ≤ 4000) ∧ (∀ k, 0 ≤ A 17 k ∧ A 17 k ≤ 6000) ∧ (∀ k, 0 ≤ A 49 k ∧ A 49 k ≤ 6000) ∧ (∀ j, 0 ≤ A 27 j ∧ A 27 j ≤ 12900) ∧ ∀ j, 0 ≤ A 33 j ∧ A 33 j ≤ 12900
/-- the point -/
def iP (q : Nat → Int) (r : Nat → Option Nat) (A : Nat → Nat → Int) (g : Nat → Option xE) : Prop := (q 11 = -1 ∧ r 1351 = none) ∨ ((0 ≤ q 11 ∧ q 11 < 12900 ∧ s_bh (A 8) (q 11) ≤ 12900 ∧ s_bh (A 8) (q 11) ≤ q 133) ∧ ∃ c, r 1351 = some c ∧ Tr (A 2) (q 34) g A 9 (q 11) c)
/-- where the parts lie -/
def iL (q : Nat → Int) (A : Nat → Nat → Int) : Prop := (∀ k : Nat, (k : Int) < q 837 → ¬ A 29 k = 0 → 0 ≤ A 27 k ∧ 1 ≤ A 8 (A 27 k).toNat ∧ A 27 k + A 8 (A 27 k).toNat ≤ q 133) ∧ (0 ≤ q 840 ∧ 1 ≤ A 8 (q 840).toNat ∧ q 840 + A 8 (q 840).toNat ≤ q 133 ∧ A 8 (q 840).toNat ≤ 3545) ∧ (∀ j k : Nat, (j : Int) < q 837 → (k : Int) < q 837 → ¬ A 29 j = 0 → ¬ A 29 k = 0 → ¬ j = k → A 27 j + A 8 (A 27 j).toNat ≤ A 27 k ∨ A 27 k + A 8 (A 27 k).toNat ≤ A 27 j) ∧ (∀ k : Nat, (k : Int) < q 837 → ¬ A 29 k = 0 → A 27 k + A 8 (A 27 k).toNat ≤ q 840 ∨ q 840 + A 8 (q 840).toNat ≤ A 27 k) ∧ q 133 = A 8 (q 840).toNat + s_sm (s_pbf (A 29) (A 27) (A 8) (-1)) (q 837).toNat ∧ s_sm (s_pbf (A 29) (A 27) (A 8) (-1)) (q 837).toNat ≤ 900
/-- no file -/
def iN (q : Nat → Int) (r : Nat → Option Nat) : Prop := r 1350 = none ∧ q 837 = 0 ∧ q 838 = 0 ∧ (q 841 = q 842 ∧ 0 ≤ q 841 ∧ q 841 ≤ 10248) ∧ q 133 = 0 ∧ (0 ≤ q 840 ∧ q 840 < 12900) ∧ q 11 = -1
/-- a file -/
def iF (q : Nat → Int) (r : Nat → Option Nat) (A : Nat → Nat → Int) (dy : xH) (g : Nat → Option xE) (cp cb ct : Nat) (fis fge fpl : Nat → Int) (fva : Nat → Option Nat) (fch fb : Nat → Int) : Prop := r 1350 = some cp ∧ PB dy cp (some cb) (q 838) (q 839) (some ct) (q 837) fis fge fpl fva fch ∧ gnp g cp ∧ (g cb = some (xA 1 (q 842 - q 841).toNat fb) ∧ ∀ k : Nat, (k : Int) < q 842 - q 841 → fb k = A 2 ((q 841).toNat + k)) ∧ (0 ≤ q 841 ∧ q 841 ≤ q 842 ∧ q 842 ≤ q 34 ∧ q 842 - q 841 ≤ 4000) ∧ (1 ≤ q 837 ∧ q 837 ≤ 300) ∧ (0 ≤ q 839 ∧ q 839 ≤ 2147483647) ∧ (∀ k : Nat, k < 300 → (fis k = 2 ↔ ¬ A 29 k = 0) ∧ fge k = A 28 k ∧ fch k = A 30 k ∧ (0 ≤ A 28 k ∧ A 28 k ≤ 99999) ∧ (q 837 ≤ k → A 29 k = 0 ∧ A 30 k = 0)) ∧ fch 300 = 0 ∧ (∀ k : Nat, (k : Int) < q 837 → ¬ A 29 k = 0 → (∃ c2, fva k = some c2 ∧ Tr (A 2) (q 34) g A 9 (A 27 k) c2) ∧ (¬ A 31 k = 0 ↔ ¬ A 30 k = 0 ∧ A 5 (A 27 k).toNat = 9)) ∧ (Tr (A 2) (q 34) g A 9 (q 840) ct ∧ A 5 (q 840).toNat = 7 ∧ Dj g ct ∧ ∀ n2, q 34 ≤ n2 → 0 ≤ s_nam (A 8) (A 9) (A 2) n2 (q 840) [83, 105, 122, 101])
/-- what holds between two calls -/
def Inv (n : Nat) (q : Nat → Int) (r : Nat → Option Nat) (A : Nat → Nat → Int) (dy : xH) (g : Nat → Option xE) : Prop := iT n q A ∧ iR r ∧ iO q A ∧ iB q A ∧ gok g dy ∧ iP q r A g ∧ (iN q r ∨ (iL q A ∧ ∃ cp cb ct fis fge fpl fva fch fb, iF q r A dy g cp cb ct fis fge fpl fva fch fb))
/-- a heap between two calls -/
def St (n : Nat) (h : xH) : Prop := ∃ (b o : Bool) (q : Nat → Int) (r : Nat → Option Nat) (A : Nat → Nat → Int) (dy : xH) (g : Nat → Option xE), h = hF (vq b o q) (vr b o r) (vA b o A) ++ dy ∧ Inv n q r A dy g
/-- both called, one behind the other: they answer alike -/
def Bth (Z : xZ) (d : Nat) (Yc Ym : xY) (av : List xV) (h : xH) (P : xH → Prop) : Prop := xMet Z d Yc (xC 0 :: av) h (fun v h1 => ∃ z, v = some (xI z) ∧ (∃ fs, h1[42]? = some (xB 10 fs)) ∧ xMet Z d Ym (xC 42 :: av) h1 (fun v2 h2 => v2 = some (xI z) ∧ P h2))
theorem bth_view (b o : Bool) {Z : xZ} {d : Nat} {Yc Ym : xY} {av : List xV} {q : Nat → Int} {r : Nat → Option Nat} {A : Nat → Nat → Int} {dy : xH} {Q : Option xV → xH → Prop} {P : xH → Prop} (hav : av.map (rnV (swc b o)) = av) (k : xMet Z d Yc (xC 0 :: av) (hF q r A ++ vd b o dy) Q) (hQ : ∀ v h2, Q v h2 → ∃ z q2 r2 A2, v = some (xI z) ∧ h2 = hF q2 r2 A2 ++ vd b o dy ∧ xMet Z d Ym (xC 42 :: av) (hF (vq b o q2) (vr b o r2) (vA b o A2) ++ dy) (fun v2 h2 => v2 = some (xI z) ∧ P h2)) : Bth Z d Yc Ym av (hF (vq b o q) (vr b o r) (vA b o A) ++ dy) P := by
  have h1 := xMet_view b o (fun v h2 hq => by obtain ⟨z, q2, r2, A2, _, e, _⟩ := hQ v h2 hq; exact ⟨q2, r2, A2, e⟩) k
  have e1 : (xC 0 :: av).map (rnV (swc b o)) = xC 0 :: av := by
    rw [List.map_cons, hav]
    rfl
  rw [e1] at h1
  refine xMet_post ?_ h1
  rintro v h2 ⟨v1, h3, hq, rfl, rfl⟩
  obtain ⟨z, q2, r2, A2, rfl, rfl, k2⟩ := hQ v1 h3 hq
  rw [hF_bk]
  exact ⟨z, rfl, ⟨_, rfl⟩, k2⟩
theorem x_up2 {α : Type} (f : Nat → α) {a b : Nat} (x y : α) (ha : f a = x) (hb : f b = y) : x_up (x_up f a x) b y = f := by
  rw [← ha, x_up_same, ← hb, x_up_same]
