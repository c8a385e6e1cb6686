/-! trees -/
def gle (g g2 : Nat → Option xE) : Prop := ∀ c e, g c = some e → g2 c = some e
def gok (g : Nat → Option xE) (dy : xH) : Prop := ∀ c e, g c = some e → ct dy c e
theorem gle_rf (g : Nat → Option xE) : gle g g := fun _ _ h => h
theorem gle_tr {g g2 g3 : Nat → Option xE} (h : gle g g2) (h2 : gle g2 g3) : gle g g3 := fun c e z => h2 c e (h c e z)
theorem gok_app {g : Nat → Option xE} {dy : xH} (h : gok g dy) (l : xH) : gok g (dy ++ l) := fun c e z => ct_app (h c e z) l
def lP (ts : List tk) : Nat → Nat → Int := fun c => if c = 5 then lkd ts else if c = 6 then lon ts else if c = 7 then ltw ts else if c = 8 then lsp ts else lnm ts
/-- a string: the place where it begins, how many bytes it means -/
def sgs (X : Nat → Int) (E i k : Int) : Prop := 0 ≤ i ∧ 0 ≤ k ∧ k ≤ 100 ∧ ∃ e, (s_byte X E i = 60 ∧ s_prs X E 101 (i + 1) 0 = some (k, e)) ∨ (s_byte X E i = 40 ∧ s_str X E 101 (i + 1) 0 = some (k, e))
def tL (X : Nat → Int) (E : Int) (g : Nat → Option xE) (P : Nat → Nat → Int) (p : Nat) (x y : Int) (bt : Option Nat) : Prop :=
  (0 ≤ P 5 p ∧ P 5 p ≤ 9) ∧ (P 5 p = 3 → x = P 6 p ∧ -999999999 ≤ P 6 p ∧ P 6 p ≤ 999999999) ∧ (P 5 p = 8 → x = P 6 p ∧ y = P 7 p ∧ 0 ≤ P 6 p ∧ P 6 p < 300 ∧ 0 ≤ P 7 p ∧ P 7 p ≤ 65535) ∧
  (P 5 p = 4 ∨ P 5 p = 9 → 0 ≤ P 6 p ∧ 0 ≤ P 7 p ∧ P 7 p ≤ 4000 ∧ P 6 p + P 7 p ≤ E ∧ ∃ cb f, bt = some cb ∧ g cb = some (xA 1 (P 7 p).toNat f) ∧ ∀ k : Nat, (k : Int) < P 7 p → f k = X ((P 6 p).toNat + k)) ∧
  (P 5 p = 5 → sgs X E (P 6 p) (P 7 p) ∧ ∃ cb f, bt = some cb ∧ g cb = some (xA 1 (P 7 p).toNat f) ∧ ∀ k : Nat, (k : Int) < P 7 p → f k = x_by ((s_sb X E (decide (s_byte X E (P 6 p) = 60)) (P 7 p).toNat (P 6 p + 1)).getD k 0)) ∧
  (¬ (P 5 p = 4 ∨ P 5 p = 5 ∨ P 5 p = 9) → bt = none)
def nmw (X : Nat → Int) (E u : Int) (len : Nat) (fb : Nat → Int) : Prop := 0 ≤ u ∧ 1 ≤ len ∧ len ≤ 20 ∧ u + len < E ∧ (∀ k : Nat, k < len → fb k = X (u.toNat + k) ∧ s_reg (X (u.toNat + k)) = true) ∧ s_reg (X (u.toNat + len)) = false
def tK (X : Nat → Int) (E : Int) (g : Nat → Option xE) (P : Nat → Nat → Int) (T : Int → Nat → Prop) (p : Int) (m : Int) (it nm : Option Nat) : Prop := ∃ L, s_ch (P 8) (p + 1) L (s_bh (P 8) p) ∧ m = L.length ∧ L.length ≤ 60 ∧
  (P 5 p.toNat = 6 ∨ P 5 p.toNat = 7 ∨ P 5 p.toNat = 9 → ∃ ci cap fi, it = some ci ∧ g ci = some (xQ 4 cap fi) ∧ L.length ≤ cap ∧ cap ≤ 300 ∧ ∀ k, k < L.length → ∃ c, fi k = some c ∧ T (L.getD k 0) c) ∧
  (P 5 p.toNat = 7 ∨ P 5 p.toNat = 9 → ∃ cn cap fn, nm = some cn ∧ g cn = some (xQ 5 cap fn) ∧ L.length ≤ cap ∧ cap ≤ 300 ∧ ∀ k, k < L.length → ∃ cb len fb, fn k = some cb ∧ g cb = some (xA 1 len fb) ∧ nmw X E (P 9 (L.getD k 0).toNat) len fb) ∧
  (P 5 p.toNat = 6 → ∀ x, x ∈ L → P 9 x.toNat = -1) ∧ (¬ (P 5 p.toNat = 7 ∨ P 5 p.toNat = 9) → nm = none) ∧ (¬ (P 5 p.toNat = 6 ∨ P 5 p.toNat = 7 ∨ P 5 p.toNat = 9) → L = [] ∧ it = none)
/-- the tree at cell c is that of part p -/
def Tr (X : Nat → Int) (E : Int) (g : Nat → Option xE) (P : Nat → Nat → Int) : Nat → Int → Nat → Prop
  | 0, _, _ => False
  | D + 1, p, c => 0 ≤ p ∧ ∃ (x y m : Int) (bt it nm : Option Nat), g c = some (xB 12 [xI (P 5 p.toNat), xI x, xI y, xI m, xO bt, xO it, xO nm]) ∧ tL X E g P p.toNat x y bt ∧ tK X E g P (Tr X E g P D) p m it nm
theorem tL_g {X : Nat → Int} {E : Int} {g g2 : Nat → Option xE} {P : Nat → Nat → Int} {p : Nat} {x y : Int} {bt : Option Nat} (hg : gle g g2) (h : tL X E g P p x y bt) : tL X E g2 P p x y bt := by
  obtain ⟨h1, h2, h3, h4, h5, h6⟩ := h
  refine ⟨h1, h2, h3, fun z => ?_, fun z => ?_, h6⟩
  · obtain ⟨a1, a2, a3, a4, cb, f, a5, a6, a7⟩ := h4 z
    exact ⟨a1, a2, a3, a4, cb, f, a5, hg _ _ a6, a7⟩
  · obtain ⟨a1, cb, f, a5, a6, a7⟩ := h5 z
    exact ⟨a1, cb, f, a5, hg _ _ a6, a7⟩
theorem tK_g {X : Nat → Int} {E : Int} {g g2 : Nat → Option xE} {P : Nat → Nat → Int} {T T2 : Int → Nat → Prop} {p m : Int} {it nm : Option Nat} (hg : gle g g2) (hT : ∀ p c, T p c → T2 p c) (h : tK X E g P T p m it nm) : tK X E g2 P T2 p m it nm := by
  obtain ⟨L, h1, h2, h3, h4, h5, h6, h7, h8⟩ := h
  refine ⟨L, h1, h2, h3, fun z => ?_, fun z => ?_, h6, h7, h8⟩
  · obtain ⟨ci, cap, fi, a1, a2, a3, a4, a5⟩ := h4 z
    exact ⟨ci, cap, fi, a1, hg _ _ a2, a3, a4, fun k hk => by obtain ⟨c, b1, b2⟩ := a5 k hk; exact ⟨c, b1, hT _ _ b2⟩⟩
  · obtain ⟨cn, cap, fn, a1, a2, a3, a4, a5⟩ := h5 z
    exact ⟨cn, cap, fn, a1, hg _ _ a2, a3, a4, fun k hk => by obtain ⟨cb, len, fb, b1, b2, b3⟩ := a5 k hk; exact ⟨cb, len, fb, b1, hg _ _ b2, b3⟩⟩
theorem Tr_g {X : Nat → Int} {E : Int} {g g2 : Nat → Option xE} {P : Nat → Nat → Int} (hg : gle g g2) : ∀ (D : Nat) (p : Int) (c : Nat), Tr X E g P D p c → Tr X E g2 P D p c
  | 0, _, _, h => h
  | D + 1, p, c, h => by
    obtain ⟨h0, x, y, m, bt, it, nm, h1, h2, h3⟩ := h
    exact ⟨h0, x, y, m, bt, it, nm, hg _ _ h1, tL_g hg h2, tK_g hg (fun p c => Tr_g hg D p c) h3⟩
theorem Tr_D {X : Nat → Int} {E : Int} {g : Nat → Option xE} {P : Nat → Nat → Int} : ∀ (D : Nat) (p : Int) (c : Nat), Tr X E g P D p c → Tr X E g P (D + 1) p c
  | 0, _, _, h => h.elim
  | D + 1, p, c, h => by
    obtain ⟨h0, x, y, m, bt, it, nm, h1, h2, h3⟩ := h
    exact ⟨h0, x, y, m, bt, it, nm, h1, h2, tK_g (gle_rf g) (fun p c => Tr_D D p c) h3⟩
theorem Tr_le {X : Nat → Int} {E : Int} {g : Nat → Option xE} {P : Nat → Nat → Int} {D D2 : Nat} {p : Int} {c : Nat} (h : Tr X E g P D p c) (hd : D ≤ D2) : Tr X E g P D2 p c := by
  induction D2 with
  | zero => rw [show D = 0 by omega] at h; exact h
  | succ k ih =>
    by_cases e : D = k + 1
    · rw [← e]; exact h
    · exact Tr_D k p c (ih (by omega))
/-! the text grows -/
def xle (X X2 : Nat → Int) (E E2 : Int) : Prop := E ≤ E2 ∧ ∀ k : Nat, (k : Int) < E → X2 k = X k
theorem s_byte_x {X X2 : Nat → Int} {E E2 i : Int} (h : xle X X2 E E2) (hb : ¬ s_byte X E i = -1) : s_byte X2 E2 i = s_byte X E i := by
  have := s_byte_in X E i
  unfold s_byte
  have h1 : 0 ≤ i ∧ i < E := by omega
  have := h.1
  rw [if_pos h1, if_pos (by omega), h.2 i.toNat (by omega)]
theorem s_oct_x {X X2 : Nat → Int} {E E2 i : Int} (h : xle X X2 E E2) (hb : 0 ≤ s_oct X E i) : s_oct X2 E2 i = s_oct X E i := by
  have h0 := s_byte_in X E (i + 0)
  have h1 := s_byte_in X E (i + 1)
  have h2 := s_byte_in X E (i + 2)
  have hc : (48 ≤ s_byte X E (i + 0) ∧ s_byte X E (i + 0) ≤ 55) ∧ (48 ≤ s_byte X E (i + 1) ∧ s_byte X E (i + 1) ≤ 55) ∧ (48 ≤ s_byte X E (i + 2) ∧ s_byte X E (i + 2) ≤ 55) := by
    unfold s_oct at hb
    split at hb
    · next hh => exact ⟨hh.1, hh.2.1, hh.2.2.1⟩
    · omega
  unfold s_oct
  rw [s_byte_x h (i := i + 0) (by omega), s_byte_x h (i := i + 1) (by omega), s_byte_x h (i := i + 2) (by omega)]
theorem s_ss_x {X X2 : Nat → Int} {E E2 i : Int} (h : xle X X2 E E2) (hb : ¬ s_ss X E i = 0) : s_ss X2 E2 i = s_ss X E i ∧ s_sg X2 E2 i (s_ss X E i) = s_sg X E i (s_ss X E i) := by
  have h0 := s_byte_in X E i
  have hc0 : ¬ s_byte X E i = -1 := by
    intro z
    unfold s_ss at hb
    rw [if_neg (by omega), if_pos (by omega)] at hb
    exact hb rfl
  have e0 := s_byte_x h hc0
  by_cases c : s_byte X E i = 92
  · have h1 := s_byte_in X E (i + 1)
    by_cases c1 : s_byte X E (i + 1) = 40 ∨ s_byte X E (i + 1) = 41 ∨ s_byte X E (i + 1) = 92
    · have e1 := s_byte_x h (i := i + 1) (by omega)
      have v : s_ss X E i = 2 := by unfold s_ss; rw [if_pos c, if_pos c1]
      refine ⟨?_, ?_⟩
      · rw [v]; unfold s_ss; rw [e0, e1, if_pos c, if_pos c1]
      · rw [v]; unfold s_sg; rw [if_neg (by omega), if_neg (by omega), show i + 2 - 1 = i + 1 by omega, e1]
    · have c2 : 0 ≤ s_oct X E (i + 1) := by
        unfold s_ss at hb
        rw [if_pos c, if_neg c1] at hb
        split at hb
        · exact absurd rfl hb
        · omega
      have e2 := s_oct_x h c2
      have hn1 : ¬ s_byte X E (i + 1) = -1 := by
        intro z
        unfold s_oct at c2
        rw [Int.add_zero, z] at c2
        rw [if_neg (by omega)] at c2
        omega
      have e1 := s_byte_x h hn1
      have v : s_ss X E i = 4 := by unfold s_ss; rw [if_pos c, if_neg c1, if_neg (by omega)]
      refine ⟨?_, ?_⟩
      · rw [v]; unfold s_ss; rw [e0, e1, if_pos c, if_neg c1, e2, if_neg (by omega)]
      · rw [v]; unfold s_sg; rw [if_pos rfl, if_pos rfl, e2]
  · have v : s_ss X E i = 1 := by
      unfold s_ss at hb ⊢
      rw [if_neg c] at hb ⊢
      split at hb
      · exact absurd rfl hb
      · next h2 => rw [if_neg h2]
    refine ⟨?_, ?_⟩
    · rw [v]
      unfold s_ss at v ⊢
      rw [e0]
      rw [if_neg c] at v ⊢
      exact v
    · rw [v]; unfold s_sg; rw [if_neg (by omega), if_neg (by omega), show i + 1 - 1 = i by omega, e0]
theorem s_pair_x {X X2 : Nat → Int} {E E2 i : Int} (h : xle X X2 E E2) (hb : ¬ s_pair X E i < 0) : s_pair X2 E2 i = s_pair X E i := by
  have := s_pair_in X E i
  have h0 := s_byte_in X E i
  have h1 := s_byte_in X E (i + 1)
  unfold s_pair
  rw [s_byte_x h (i := i) (by omega), s_byte_x h (i := i + 1) (by omega)]
theorem s_str_ge (b : Nat → Int) (n : Int) : ∀ (f : Nat) (i k : Int) (x : Int × Int), s_str b n f i k = some x → k ≤ x.1
  | 0, _, _, _, h => by cases h
  | f + 1, i, k, x, h => by
    rw [s_str_s] at h
    split at h
    · have := Option.some.inj h; rw [← this]; exact Int.le_refl k
    · split at h
      · cases h
      · have := s_str_ge b n f _ _ x h; omega
theorem s_prs_ge (b : Nat → Int) (n : Int) : ∀ (f : Nat) (i k : Int) (x : Int × Int), s_prs b n f i k = some x → k ≤ x.1
  | 0, _, _, _, h => by cases h
  | f + 1, i, k, x, h => by
    rw [s_prs_s] at h
    split at h
    · have := Option.some.inj h; rw [← this]; exact Int.le_refl k
    · split at h
      · cases h
      · have := s_prs_ge b n f _ _ x h; omega
theorem s_str_x {X X2 : Nat → Int} {E E2 : Int} (h : xle X X2 E E2) : ∀ (m : Nat) (i k : Int) (y : Int × Int), s_str X E m i k = some y → s_str X2 E2 m i k = some y ∧ s_sb X2 E2 false (y.1 - k).toNat i = s_sb X E false (y.1 - k).toNat i
  | 0, _, _, _, e => by cases e
  | m + 1, i, k, y, e => by
    rw [s_str_s] at e ⊢
    have hb := s_byte_in X E i
    by_cases c : s_byte X E i = 41
    · rw [if_pos c] at e
      have e := Option.some.inj e
      rw [s_byte_x h (by omega), if_pos c, ← e]
      refine ⟨rfl, ?_⟩
      show s_sb X2 E2 false (k - k).toNat i = s_sb X E false (k - k).toNat i
      rw [Int.sub_self]
      rfl
    · rw [if_neg c] at e
      by_cases c2 : s_ss X E i = 0
      · rw [if_pos c2] at e; cases e
      · rw [if_neg c2] at e
        have hx := s_ss_x h c2
        have hc0 : ¬ s_byte X E i = -1 := by
          intro z
          apply c2
          unfold s_ss
          rw [if_neg (by omega), if_pos (by omega)]
        rw [s_byte_x h hc0, if_neg c, hx.1, if_neg c2]
        have ih := s_str_x h m _ _ y e
        have hk := s_str_ge _ _ _ _ _ y e
        refine ⟨ih.1, ?_⟩
        rw [show (y.1 - k).toNat = (y.1 - (k + 1)).toNat + 1 by omega]
        show (if false = true then _ else s_sg X2 E2 i (s_ss X2 E2 i)) :: s_sb X2 E2 false _ (i + (if false = true then 2 else s_ss X2 E2 i)) = (if false = true then _ else s_sg X E i (s_ss X E i)) :: s_sb X E false _ (i + (if false = true then 2 else s_ss X E i))
        rw [if_neg (by decide), if_neg (by decide), if_neg (by decide), if_neg (by decide), hx.1, hx.2, ih.2]
theorem s_prs_x {X X2 : Nat → Int} {E E2 : Int} (h : xle X X2 E E2) : ∀ (m : Nat) (i k : Int) (y : Int × Int), s_prs X E m i k = some y → s_prs X2 E2 m i k = some y ∧ s_sb X2 E2 true (y.1 - k).toNat i = s_sb X E true (y.1 - k).toNat i
  | 0, _, _, _, e => by cases e
  | m + 1, i, k, y, e => by
    rw [s_prs_s] at e ⊢
    have hb := s_byte_in X E i
    by_cases c : s_byte X E i = 62
    · rw [if_pos c] at e
      have e := Option.some.inj e
      rw [s_byte_x h (by omega), if_pos c, ← e]
      refine ⟨rfl, ?_⟩
      show s_sb X2 E2 true (k - k).toNat i = s_sb X E true (k - k).toNat i
      rw [Int.sub_self]
      rfl
    · rw [if_neg c] at e
      by_cases c2 : s_pair X E i < 0
      · rw [if_pos c2] at e; cases e
      · rw [if_neg c2] at e
        have hx := s_pair_x h c2
        have hp := s_pair_in X E i
        have hc0 : ¬ s_byte X E i = -1 := by omega
        rw [s_byte_x h hc0, if_neg c, hx, if_neg c2]
        have ih := s_prs_x h m _ _ y e
        have hk := s_prs_ge _ _ _ _ _ y e
        refine ⟨ih.1, ?_⟩
        rw [show (y.1 - k).toNat = (y.1 - (k + 1)).toNat + 1 by omega]
        show (if true = true then s_pair X2 E2 i else _) :: s_sb X2 E2 true _ (i + (if true = true then 2 else _)) = (if true = true then s_pair X E i else _) :: s_sb X E true _ (i + (if true = true then 2 else _))
        rw [if_pos rfl, if_pos rfl, if_pos rfl, if_pos rfl, hx, ih.2]

theorem sgs_x {X X2 : Nat → Int} {E E2 i k : Int} (h : xle X X2 E E2) (hs : sgs X E i k) : sgs X2 E2 i k ∧ s_sb X2 E2 (decide (s_byte X2 E2 i = 60)) k.toNat (i + 1) = s_sb X E (decide (s_byte X E i = 60)) k.toNat (i + 1) := by
  obtain ⟨h1, h2, h3, e, h4⟩ := hs
  have hb := s_byte_in X E i
  have e0 := s_byte_x h (i := i) (by omega)
  rcases h4 with ⟨h4, h5⟩ | ⟨h4, h5⟩
  · have := s_prs_x h _ _ _ _ h5
    rw [Int.sub_zero] at this
    refine ⟨⟨h1, h2, h3, e, Or.inl ⟨by rw [e0]; exact h4, this.1⟩⟩, ?_⟩
    rw [e0, decide_eq_true h4]
    exact this.2
  · have := s_str_x h _ _ _ _ h5
    rw [Int.sub_zero] at this
    refine ⟨⟨h1, h2, h3, e, Or.inr ⟨by rw [e0]; exact h4, this.1⟩⟩, ?_⟩
    rw [e0, decide_eq_false (show ¬ s_byte X E i = 60 by omega)]
    exact this.2
theorem Tr_x {X X2 : Nat → Int} {E E2 : Int} {g : Nat → Option xE} {P : Nat → Nat → Int} (h : xle X X2 E E2) : ∀ (D : Nat) (p : Int) (c : Nat), Tr X E g P D p c → Tr X2 E2 g P D p c
  | 0, _, _, z => z
  | D + 1, p, c, z => by
    have hE := h.1
    obtain ⟨h0, x, y, m, bt, it, nm, h1, ⟨a1, a2, a3, a4, a5, a6⟩, L, b1, b2, b3, b4, b5, b6, b7, b8⟩ := z
    refine ⟨h0, x, y, m, bt, it, nm, h1, ⟨a1, a2, a3, fun z => ?_, fun z => ?_, a6⟩, L, b1, b2, b3, fun z => ?_, fun z => ?_, b6, b7, b8⟩
    · obtain ⟨c1, c2, c3, c4, cb, f, c5, c6, c7⟩ := a4 z
      exact ⟨c1, c2, c3, by omega, cb, f, c5, c6, fun k hk => by rw [c7 k hk, h.2 _ (by omega)]⟩
    · obtain ⟨c1, cb, f, c5, c6, c7⟩ := a5 z
      have := sgs_x h c1
      exact ⟨this.1, cb, f, c5, c6, fun k hk => by rw [c7 k hk, this.2]⟩
    · obtain ⟨ci, cap, fi, c1, c2, c3, c4, c5⟩ := b4 z
      exact ⟨ci, cap, fi, c1, c2, c3, c4, fun k hk => by obtain ⟨cc, d1, d2⟩ := c5 k hk; exact ⟨cc, d1, Tr_x h D _ _ d2⟩⟩
    · obtain ⟨cn, cap, fn, c1, c2, c3, c4, c5⟩ := b5 z
      refine ⟨cn, cap, fn, c1, c2, c3, c4, fun k hk => ?_⟩
      obtain ⟨cb, len, fb, d1, d2, e1, e2, e3, e4, e5, e6⟩ := c5 k hk
      exact ⟨cb, len, fb, d1, d2, e1, e2, e3, by omega, fun j hj => by rw [h.2 _ (by omega)]; exact e5 j hj, by rw [h.2 _ (by omega)]; exact e6⟩
/-! the parts move -/
theorem s_ch_sh {sp sp2 : Nat → Int} {u : Int} : ∀ {L : List Int} {a e : Int}, s_ch sp a L e → 0 ≤ a + u → (∀ j : Int, a ≤ j → j < e → sp2 (j + u).toNat = sp j.toNat) → s_ch sp2 (a + u) (L.map (fun x => x + u)) (e + u)
  | [], a, e, h, _, _ => by have h : a = e := h; show a + u = e + u; rw [h]
  | x :: L, a, e, h, h0, hs => by
    have h1 := s_ch_le h.2.2
    have h2 := s_bh_gt sp a
    have e1 : s_bh sp2 (a + u) = s_bh sp a + u := by
      unfold s_bh
      rw [hs a (Int.le_refl a) (by omega)]
      omega
    refine ⟨by show x + u = a + u; rw [h.1], h0, ?_⟩
    rw [e1]
    exact s_ch_sh h.2.2 (by omega) (fun j j1 j2 => hs j (by omega) j2)
theorem s_ch_bh {sp : Nat → Int} : ∀ {L : List Int} {a e : Int}, s_ch sp a L e → ∀ x, x ∈ L → s_bh sp x ≤ e
  | [], _, _, _, x, hx => by cases hx
  | y :: L, a, e, h, x, hx => by
    rcases List.mem_cons.mp hx with rfl | hx
    · rw [h.1]; exact s_ch_le h.2.2
    · exact s_ch_bh h.2.2 x hx
theorem s_getD_mem {L : List Int} {k : Nat} (h : k < L.length) : L.getD k 0 ∈ L := by
  rw [List.getD_eq_getElem?_getD, List.getElem?_eq_getElem h]
  exact List.getElem_mem h
theorem s_getD_map {L : List Int} {k : Nat} (h : k < L.length) (f : Int → Int) : (L.map f).getD k 0 = f (L.getD k 0) := by
  rw [List.getD_eq_getElem?_getD, List.getElem?_map, List.getD_eq_getElem?_getD, List.getElem?_eq_getElem h]
  rfl
theorem Tr_sh {X : Nat → Int} {E : Int} {g : Nat → Option xE} {P P2 : Nat → Nat → Int} {u : Int} : ∀ (D : Nat) (p : Int) (c : Nat), Tr X E g P D p c → 0 ≤ p + u → (∀ a : Nat, 5 ≤ a → a ≤ 9 → ∀ j : Int, p ≤ j → j < s_bh (P 8) p → (a = 9 → p < j) → P2 a (j + u).toNat = P a j.toNat) → Tr X E g P2 D (p + u) c
  | 0, _, _, z, _, _ => z
  | D + 1, p, c, z, hpu, hs => by
    obtain ⟨h0, x, y, m, bt, it, nm, h1, hL, L, b1, b2, b3, b4, b5, b6, b7, b8⟩ := z
    have hgt := s_bh_gt (P 8) p
    have k5 : P2 5 (p + u).toNat = P 5 p.toNat := hs 5 (by omega) (by omega) p (by omega) hgt (by omega)
    have k6 : P2 6 (p + u).toNat = P 6 p.toNat := hs 6 (by omega) (by omega) p (by omega) hgt (by omega)
    have k7 : P2 7 (p + u).toNat = P 7 p.toNat := hs 7 (by omega) (by omega) p (by omega) hgt (by omega)
    have k8 : P2 8 (p + u).toNat = P 8 p.toNat := hs 8 (by omega) (by omega) p (by omega) hgt (by omega)
    have ebh : s_bh (P2 8) (p + u) = s_bh (P 8) p + u := by unfold s_bh; rw [k8]; omega
    have hmem : ∀ k, k < L.length → p < L.getD k 0 ∧ L.getD k 0 < s_bh (P 8) p ∧ s_bh (P 8) (L.getD k 0) ≤ s_bh (P 8) p := fun k hk => by
      have m1 := s_getD_mem hk
      have m2 := s_ch_lt b1 _ m1
      exact ⟨by omega, m2.2, s_ch_bh b1 _ m1⟩
    refine ⟨hpu, x, y, m, bt, it, nm, by rw [k5]; exact h1, ?_, L.map (fun x => x + u), ?_, by rw [List.length_map]; exact b2, by rw [List.length_map]; exact b3, ?_, ?_, ?_, ?_, ?_⟩
    · unfold tL
      rw [k5, k6, k7]
      exact hL
    · rw [ebh, show p + u + 1 = p + 1 + u by omega]
      exact s_ch_sh b1 (by omega) (fun j j1 j2 => hs 8 (by omega) (by omega) j (by omega) j2 (by omega))
    · rw [k5, List.length_map]
      intro z
      obtain ⟨ci, cap, fi, c1, c2, c3, c4, c5⟩ := b4 z
      refine ⟨ci, cap, fi, c1, c2, c3, c4, fun k hk => ?_⟩
      obtain ⟨cc, d1, d2⟩ := c5 k hk
      have hm := hmem k hk
      refine ⟨cc, d1, ?_⟩
      rw [s_getD_map hk]
      exact Tr_sh D _ _ d2 (by omega) (fun a a1 a2 j j1 j2 j3 => hs a a1 a2 j (by omega) (by omega) (by omega))
    · rw [k5, List.length_map]
      intro z
      obtain ⟨cn, cap, fn, c1, c2, c3, c4, c5⟩ := b5 z
      refine ⟨cn, cap, fn, c1, c2, c3, c4, fun k hk => ?_⟩
      obtain ⟨cb, len, fb, d1, d2, d3⟩ := c5 k hk
      have hm := hmem k hk
      refine ⟨cb, len, fb, d1, d2, ?_⟩
      rw [s_getD_map hk, hs 9 (by omega) (by omega) _ (by omega) hm.2.1 (by omega)]
      exact d3
    · rw [k5]
      intro z x hx
      obtain ⟨y, hy, rfl⟩ := List.mem_map.mp hx
      have m2 := s_ch_lt b1 _ hy
      rw [hs 9 (by omega) (by omega) y (by omega) m2.2 (by omega)]
      exact b6 z y hy
    · rw [k5]; exact b7
    · rw [k5]
      intro z
      rw [(b8 z).1]
      exact ⟨rfl, (b8 z).2⟩
/-- what the writer asks of a value -/
theorem nmw_wd {X : Nat → Int} {E u n : Int} {len : Nat} {fb : Nat → Int} (h : nmw X E u len fb) (hn : E ≤ n) : s_wd X n u = u + len := by
  obtain ⟨h1, h2, h3, h4, h5, h6⟩ := h
  have key : ∀ k : Nat, k ≤ len → s_sc s_reg X n u = s_sc s_reg X n (u + k) := by
    intro k
    induction k with
    | zero => intro _; simp
    | succ k ih =>
      intro hk
      rw [ih (by omega), s_sc_step (t := u + k) (by omega) (by omega) (by rw [show (u + k).toNat = u.toNat + k by omega]; exact (h5 k (by omega)).2)]
      congr 1
      omega
  have e := key len (Nat.le_refl _)
  have e2 : s_sc s_reg X n (u + len) = u + len := s_sc_stop (Or.inr (Or.inr (by rw [show (u + len).toNat = u.toNat + len by omega]; exact h6)))
  unfold s_wd
  rw [e, e2, if_pos (by omega)]
theorem Tr_wv {X : Nat → Int} {E n : Int} {g : Nat → Option xE} {P : Nat → Nat → Int} (hn : E ≤ n ∧ n ≤ 10248) : ∀ (D : Nat) (p : Int) (c : Nat), Tr X E g P (D + 1) p c → s_bh (P 8) p ≤ 12900 → wv (P 5) (P 6) (P 7) (P 8) (P 9) X n D p := by
  intro D
  induction D with
  | zero =>
    intro p c h hb
    obtain ⟨h0, x, y, m, bt, it, nm, h1, ⟨a1, a2, a3, a4, a5, a6⟩, L, b1, b2, b3, b4, b5, b6, b7, b8⟩ := h
    have hgt := s_bh_gt (P 8) p
    refine ⟨⟨h0, by omega, hb, fun z => by have := a2 z; omega, fun z => by have := a4 z; omega, fun z => ?_, fun z => by have := a3 z; omega⟩, ?_⟩
    · obtain ⟨c1, c2, c3, e, c4⟩ := (a5 z).1
      have hbi := s_byte_in X E (P 6 p.toNat)
      omega
    · have e : s_in (P 8) p = L := s_ch_K b1
      rw [e]
      cases L with
      | nil => rfl
      | cons z l =>
        by_cases c : P 5 p.toNat = 6 ∨ P 5 p.toNat = 7 ∨ P 5 p.toNat = 9
        · obtain ⟨ci, cap, fi, c1, c2, c3, c4, c5⟩ := b4 c
          obtain ⟨cc, d1, d2⟩ := c5 0 (by simp)
          exact d2.elim
        · exact absurd (b8 c).1 (by simp)
  | succ D ih =>
    intro p c h hb
    obtain ⟨h0, x, y, m, bt, it, nm, h1, ⟨a1, a2, a3, a4, a5, a6⟩, L, b1, b2, b3, b4, b5, b6, b7, b8⟩ := h
    have hgt := s_bh_gt (P 8) p
    refine ⟨⟨h0, by omega, hb, fun z => by have := a2 z; omega, fun z => by have := a4 z; omega, fun z => ?_, fun z => by have := a3 z; omega⟩, fun q hq => ?_⟩
    · obtain ⟨c1, c2, c3, e, c4⟩ := (a5 z).1
      have hbi := s_byte_in X E (P 6 p.toNat)
      omega
    · have e : s_in (P 8) p = L := s_ch_K b1
      rw [e] at hq
      by_cases c : P 5 p.toNat = 6 ∨ P 5 p.toNat = 7 ∨ P 5 p.toNat = 9
      · obtain ⟨k, hk, ek⟩ := List.getElem_of_mem hq
        have ek2 : L.getD k 0 = q := by rw [List.getD_eq_getElem?_getD, List.getElem?_eq_getElem hk]; exact ek
        obtain ⟨ci, cap, fi, c1, c2, c3, c4, c5⟩ := b4 c
        obtain ⟨cc, d1, d2⟩ := c5 k hk
        rw [ek2] at d2
        refine ⟨ih q cc d2 (by have := s_ch_bh b1 q hq; omega), ?_⟩
        by_cases c6 : P 5 p.toNat = 6
        · exact Or.inl (b6 c6 q hq)
        · obtain ⟨cn, cap, fn, e1, e2, e3, e4, e5⟩ := b5 (by omega)
          obtain ⟨cb, len, fb, g1, g2, g3⟩ := e5 k hk
          rw [ek2] at g3
          have hwd := nmw_wd g3 hn.1
          have := g3.1
          have := g3.2.2.2.1
          exact Or.inr ⟨g3.1, by omega, by rw [hwd]; omega⟩
      · rw [(b8 c).1] at hq; cases hq
