/-! the reference: a file and its entries -/
/-- a file's own cells -/
def PB (dy : xH) (cp : Nat) (bt : Option Nat) (tb lt : Int) (tr : Option Nat) (sz : Int) (fis fge fpl : Nat → Int) (fva : Nat → Option Nat) (fch : Nat → Int) : Prop := ct dy cp (xB 11 [xO bt, xI tb, xI lt, xO tr, xC (cp + 1), xC (cp + 2), xC (cp + 3), xC (cp + 4), xC (cp + 5), xI sz]) ∧ ct dy (cp + 1) (xA 0 301 fis) ∧ ct dy (cp + 2) (xA 0 301 fge) ∧ ct dy (cp + 3) (xA 3 301 fpl) ∧ ct dy (cp + 4) (xQ 4 301 fva) ∧ ct dy (cp + 5) (xA 2 301 fch)
/-- they are not of those that stay -/
def gnp (g : Nat → Option xE) (cp : Nat) : Prop := g cp = none ∧ g (cp + 1) = none ∧ g (cp + 2) = none ∧ g (cp + 3) = none ∧ g (cp + 4) = none ∧ g (cp + 5) = none
theorem gok_set {g : Nat → Option xE} {dy : xH} {c : Nat} (h : gok g dy) (hc : g c = none) (h2 : 52 ≤ c) (e : xE) : gok g (dy.set (c - 52) e) := fun k e2 z => ct_setn (h k e2 z) (fun ek => by rw [ek, hc] at z; cases z) h2
theorem mu_ct {dy : xH} {c : Nat} {e : xE} (u w : Nat) (h : ct dy c e) (e2 : xE) (hs : x_sz e2 = x_sz e) : mu u w (dy.set (c - 52) e2) = mu u w dy := mu_set u w h.2 hs
/-- one of them is changed -/
def PS (g : Nat → Option xE) (dy dy2 : xH) : Prop := gok g dy2 ∧ (∀ u w, mu u w dy2 = mu u w dy) ∧ dy2.length = dy.length
theorem PS_set {g : Nat → Option xE} {dy : xH} {c : Nat} {e : xE} (hg : gok g dy) (hc : g c = none) (h : ct dy c e) (e2 : xE) (hs : x_sz e2 = x_sz e) : PS g dy (dy.set (c - 52) e2) := ⟨gok_set hg hc h.1 e2, fun u w => mu_ct u w h e2 hs, List.length_set⟩
theorem PS_tr {g : Nat → Option xE} {a b c : xH} (h1 : PS g a b) (h2 : PS g b c) : PS g a c := ⟨h2.1, fun u w => (h2.2.1 u w).trans (h1.2.1 u w), h2.2.2.trans h1.2.2⟩
theorem PB_app {dy : xH} {cp : Nat} {bt : Option Nat} {tb lt : Int} {tr : Option Nat} {sz : Int} {fis fge fpl : Nat → Int} {fva : Nat → Option Nat} {fch : Nat → Int} (h : PB dy cp bt tb lt tr sz fis fge fpl fva fch) (l : xH) : PB (dy ++ l) cp bt tb lt tr sz fis fge fpl fva fch := ⟨ct_app h.1 l, ct_app h.2.1 l, ct_app h.2.2.1 l, ct_app h.2.2.2.1 l, ct_app h.2.2.2.2.1 l, ct_app h.2.2.2.2.2 l⟩
theorem PB_fis {g : Nat → Option xE} {dy : xH} {cp : Nat} {bt : Option Nat} {tb lt : Int} {tr : Option Nat} {sz : Int} {fis fge fpl : Nat → Int} {fva : Nat → Option Nat} {fch : Nat → Int} (h : PB dy cp bt tb lt tr sz fis fge fpl fva fch) (n : gnp g cp) (hg : gok g dy) (f2 : Nat → Int) : PB (dy.set (cp + 1 - 52) (xA 0 301 f2)) cp bt tb lt tr sz f2 fge fpl fva fch ∧ PS g dy (dy.set (cp + 1 - 52) (xA 0 301 f2)) := ⟨⟨ct_setn h.1 (by omega) (by have := h.1.1; omega), ct_set h.2.1 _, ct_setn h.2.2.1 (by omega) (by have := h.1.1; omega), ct_setn h.2.2.2.1 (by omega) (by have := h.1.1; omega), ct_setn h.2.2.2.2.1 (by omega) (by have := h.1.1; omega), ct_setn h.2.2.2.2.2 (by omega) (by have := h.1.1; omega)⟩, PS_set hg n.2.1 h.2.1 _ rfl⟩
theorem PB_fge {g : Nat → Option xE} {dy : xH} {cp : Nat} {bt : Option Nat} {tb lt : Int} {tr : Option Nat} {sz : Int} {fis fge fpl : Nat → Int} {fva : Nat → Option Nat} {fch : Nat → Int} (h : PB dy cp bt tb lt tr sz fis fge fpl fva fch) (n : gnp g cp) (hg : gok g dy) (f2 : Nat → Int) : PB (dy.set (cp + 2 - 52) (xA 0 301 f2)) cp bt tb lt tr sz fis f2 fpl fva fch ∧ PS g dy (dy.set (cp + 2 - 52) (xA 0 301 f2)) := ⟨⟨ct_setn h.1 (by omega) (by have := h.1.1; omega), ct_setn h.2.1 (by omega) (by have := h.1.1; omega), ct_set h.2.2.1 _, ct_setn h.2.2.2.1 (by omega) (by have := h.1.1; omega), ct_setn h.2.2.2.2.1 (by omega) (by have := h.1.1; omega), ct_setn h.2.2.2.2.2 (by omega) (by have := h.1.1; omega)⟩, PS_set hg n.2.2.1 h.2.2.1 _ rfl⟩
theorem PB_fpl {g : Nat → Option xE} {dy : xH} {cp : Nat} {bt : Option Nat} {tb lt : Int} {tr : Option Nat} {sz : Int} {fis fge fpl : Nat → Int} {fva : Nat → Option Nat} {fch : Nat → Int} (h : PB dy cp bt tb lt tr sz fis fge fpl fva fch) (n : gnp g cp) (hg : gok g dy) (f2 : Nat → Int) : PB (dy.set (cp + 3 - 52) (xA 3 301 f2)) cp bt tb lt tr sz fis fge f2 fva fch ∧ PS g dy (dy.set (cp + 3 - 52) (xA 3 301 f2)) := ⟨⟨ct_setn h.1 (by omega) (by have := h.1.1; omega), ct_setn h.2.1 (by omega) (by have := h.1.1; omega), ct_setn h.2.2.1 (by omega) (by have := h.1.1; omega), ct_set h.2.2.2.1 _, ct_setn h.2.2.2.2.1 (by omega) (by have := h.1.1; omega), ct_setn h.2.2.2.2.2 (by omega) (by have := h.1.1; omega)⟩, PS_set hg n.2.2.2.1 h.2.2.2.1 _ rfl⟩
theorem PB_fva {g : Nat → Option xE} {dy : xH} {cp : Nat} {bt : Option Nat} {tb lt : Int} {tr : Option Nat} {sz : Int} {fis fge fpl : Nat → Int} {fva : Nat → Option Nat} {fch : Nat → Int} (h : PB dy cp bt tb lt tr sz fis fge fpl fva fch) (n : gnp g cp) (hg : gok g dy) (f2 : Nat → Option Nat) : PB (dy.set (cp + 4 - 52) (xQ 4 301 f2)) cp bt tb lt tr sz fis fge fpl f2 fch ∧ PS g dy (dy.set (cp + 4 - 52) (xQ 4 301 f2)) := ⟨⟨ct_setn h.1 (by omega) (by have := h.1.1; omega), ct_setn h.2.1 (by omega) (by have := h.1.1; omega), ct_setn h.2.2.1 (by omega) (by have := h.1.1; omega), ct_setn h.2.2.2.1 (by omega) (by have := h.1.1; omega), ct_set h.2.2.2.2.1 _, ct_setn h.2.2.2.2.2 (by omega) (by have := h.1.1; omega)⟩, PS_set hg n.2.2.2.2.1 h.2.2.2.2.1 _ rfl⟩
theorem PB_fch {g : Nat → Option xE} {dy : xH} {cp : Nat} {bt : Option Nat} {tb lt : Int} {tr : Option Nat} {sz : Int} {fis fge fpl : Nat → Int} {fva : Nat → Option Nat} {fch : Nat → Int} (h : PB dy cp bt tb lt tr sz fis fge fpl fva fch) (n : gnp g cp) (hg : gok g dy) (f2 : Nat → Int) : PB (dy.set (cp + 5 - 52) (xA 2 301 f2)) cp bt tb lt tr sz fis fge fpl fva f2 ∧ PS g dy (dy.set (cp + 5 - 52) (xA 2 301 f2)) := ⟨⟨ct_setn h.1 (by omega) (by have := h.1.1; omega), ct_setn h.2.1 (by omega) (by have := h.1.1; omega), ct_setn h.2.2.1 (by omega) (by have := h.1.1; omega), ct_setn h.2.2.2.1 (by omega) (by have := h.1.1; omega), ct_setn h.2.2.2.2.1 (by omega) (by have := h.1.1; omega), ct_set h.2.2.2.2.2 _⟩, PS_set hg n.2.2.2.2.2 h.2.2.2.2.2 _ rfl⟩
theorem PB_ob {g : Nat → Option xE} {dy : xH} {cp : Nat} {bt : Option Nat} {tb lt : Int} {tr : Option Nat} {sz : Int} {fis fge fpl : Nat → Int} {fva : Nat → Option Nat} {fch : Nat → Int} (h : PB dy cp bt tb lt tr sz fis fge fpl fva fch) (n : gnp g cp) (hg : gok g dy) (bt2 : Option Nat) (tb2 lt2 : Int) (tr2 : Option Nat) (sz2 : Int) : PB (dy.set (cp - 52) (xB 11 [xO bt2, xI tb2, xI lt2, xO tr2, xC (cp + 1), xC (cp + 2), xC (cp + 3), xC (cp + 4), xC (cp + 5), xI sz2])) cp bt2 tb2 lt2 tr2 sz2 fis fge fpl fva fch ∧ PS g dy (dy.set (cp - 52) (xB 11 [xO bt2, xI tb2, xI lt2, xO tr2, xC (cp + 1), xC (cp + 2), xC (cp + 3), xC (cp + 4), xC (cp + 5), xI sz2])) := ⟨⟨ct_set h.1 _, ct_setn h.2.1 (by omega) (by have := h.1.1; omega), ct_setn h.2.2.1 (by omega) (by have := h.1.1; omega), ct_setn h.2.2.2.1 (by omega) (by have := h.1.1; omega), ct_setn h.2.2.2.2.1 (by omega) (by have := h.1.1; omega), ct_setn h.2.2.2.2.2 (by omega) (by have := h.1.1; omega)⟩, PS_set hg n.1 h.1 _ rfl⟩
/-- the byte at place j of an entry -/
def eg (j : Nat) (c : Int) : Bool := if j < 10 ∨ (10 < j ∧ j < 16) then s_dig c else if j = 10 ∨ j = 16 ∨ j = 18 then decide (c = 32) else if j = 17 then (decide (c = 110) || decide (c = 102)) else decide (c = 10)
theorem s_alld_iff (b : Nat → Int) : ∀ (m i : Nat), s_alld b m i = true ↔ ∀ k, k < m → s_dig (b (i + k)) = true
  | 0, _ => ⟨fun _ k h => absurd h (Nat.not_lt_zero _), fun _ => rfl⟩
  | m + 1, i => by
    show (s_alld b m i && s_dig (b (i + m))) = true ↔ _
    rw [Bool.and_eq_true, s_alld_iff b m i]
    constructor
    · rintro ⟨h1, h2⟩ k hk
      by_cases e : k = m
      · rw [e]; exact h2
      · exact h1 k (by omega)
    · exact fun h => ⟨fun k hk => h k (by omega), h m (by omega)⟩
theorem s_dgs_iff {b : Nat → Int} {n i : Int} {m : Nat} (h0 : 0 ≤ i) (h1 : i + m ≤ n) : 0 ≤ s_dgs b n i m ↔ ∀ k, k < m → s_dig (b (i.toNat + k)) = true := by
  unfold s_dgs
  rw [← s_alld_iff, Int.toNat_natCast]
  constructor
  · intro h
    split at h
    · next z => exact z.2.2
    · omega
  · intro h
    rw [if_pos ⟨h0, h1, h⟩]
    exact (s_dv_in b m i.toNat h).1
theorem e_eg {b : Nat → Int} (hB : ∀ j, -128 ≤ b j ∧ b j ≤ 127) {n i : Int} (h0 : 0 ≤ i) (h1 : i + 20 ≤ n) : e_bad b n i = false ↔ ∀ j, j < 20 → eg j (b (i.toNat + j)) = true := by
  rw [e_bad_f]
  unfold e_ok
  have d10 := s_dgs_iff (b := b) (n := n) (i := i) (m := 10) h0 (by omega)
  have d5 := s_dgs_iff (b := b) (n := n) (i := i + 11) (m := 5) (by omega) (by omega)
  have hb := s_byte_in b n (i + 10)
  have B10 := hB (i + 10).toNat
  rw [show ((10 : Nat) : Int) = 10 from rfl] at d10
  rw [show ((5 : Nat) : Int) = 5 from rfl] at d5
  rw [d10, d5, s_txt_iff, s_txt_iff]
  have e1 : (i + 10).toNat = i.toNat + 10 := by omega
  have e2 : (i + 11).toNat = i.toNat + 11 := by omega
  have e3 : (i + 16).toNat = i.toNat + 16 := by omega
  rw [e1] at hb B10
  rw [e2, e3]
  constructor
  · rintro ⟨a1, a2, a3, a4⟩ j hj
    unfold eg
    split
    · next c =>
      rcases c with c | c
      · exact a1 j c
      · have := a3 (j - 11) (by omega)
        rw [show i.toNat + 11 + (j - 11) = i.toNat + j by omega] at this
        exact this
    · next c =>
      by_cases c10 : j = 10
      · rw [if_pos (Or.inl c10), c10]
        exact decide_eq_true (by omega)
      · rcases a4 with ⟨-, -, a4⟩ | ⟨-, -, a4⟩
        · have z0 := a4 0 (by decide)
          have z1 := a4 1 (by decide)
          have z2 := a4 2 (by decide)
          have z3 := a4 3 (by decide)
          have z0 : b (i.toNat + 16 + 0) = 32 := z0
          have z1 : b (i.toNat + 16 + 1) = 110 := z1
          have z2 : b (i.toNat + 16 + 2) = 32 := z2
          have z3 : b (i.toNat + 16 + 3) = 10 := z3
          rcases (show j = 16 ∨ j = 17 ∨ j = 18 ∨ j = 19 by omega) with e | e | e | e
          · rw [e, if_pos (by omega)]; exact decide_eq_true z0
          · rw [e, if_neg (by omega), if_pos rfl, decide_eq_true (show b (i.toNat + 17) = 110 from z1)]; rfl
          · rw [e, if_pos (by omega)]; exact decide_eq_true z2
          · rw [e, if_neg (by omega), if_neg (by omega)]; exact decide_eq_true z3
        · have z0 := a4 0 (by decide)
          have z1 := a4 1 (by decide)
          have z2 := a4 2 (by decide)
          have z3 := a4 3 (by decide)
          have z0 : b (i.toNat + 16 + 0) = 32 := z0
          have z1 : b (i.toNat + 16 + 1) = 102 := z1
          have z2 : b (i.toNat + 16 + 2) = 32 := z2
          have z3 : b (i.toNat + 16 + 3) = 10 := z3
          rcases (show j = 16 ∨ j = 17 ∨ j = 18 ∨ j = 19 by omega) with e | e | e | e
          · rw [e, if_pos (by omega)]; exact decide_eq_true z0
          · rw [e, if_neg (by omega), if_pos rfl, decide_eq_true (show b (i.toNat + 17) = 102 from z1), Bool.or_true]
          · rw [e, if_pos (by omega)]; exact decide_eq_true z2
          · rw [e, if_neg (by omega), if_neg (by omega)]; exact decide_eq_true z3
  · intro h
    have h10 : b (i.toNat + 10) = 32 := of_decide_eq_true (h 10 (by omega))
    have h16 : b (i.toNat + 16) = 32 := of_decide_eq_true (h 16 (by omega))
    have h18 : b (i.toNat + 18) = 32 := of_decide_eq_true (h 18 (by omega))
    have h19 : b (i.toNat + 19) = 10 := of_decide_eq_true (h 19 (by omega))
    have h17 : (decide (b (i.toNat + 17) = 110) || decide (b (i.toNat + 17) = 102)) = true := h 17 (by omega)
    rw [Bool.or_eq_true, decide_eq_true_eq, decide_eq_true_eq] at h17
    have four : ∀ c : Int, b (i.toNat + 17) = c → ∀ k, k < ([32, c, 32, 10] : List Int).length → b (i.toNat + 16 + k) = ([32, c, 32, 10] : List Int).getD k 0 := fun c hc k hk => by
      have hk : k < 4 := hk
      rcases (show k = 0 ∨ k = 1 ∨ k = 2 ∨ k = 3 by omega) with e | e | e | e <;> rw [e]
      · exact h16
      · exact hc
      · exact h18
      · exact h19
    refine ⟨fun k hk => ?_, by omega, fun k hk => ?_, ?_⟩
    · have := h k (by omega)
      unfold eg at this
      rw [if_pos (Or.inl hk)] at this
      exact this
    · have := h (11 + k) (by omega)
      unfold eg at this
      rw [if_pos (Or.inr (by omega)), ← Nat.add_assoc] at this
      exact this
    · rcases h17 with c | c
      · exact Or.inl ⟨by omega, by show i + 16 + 4 ≤ n; omega, four _ c⟩
      · exact Or.inr ⟨by omega, by show i + 16 + 4 ≤ n; omega, four _ c⟩
theorem e_n {b : Nat → Int} (hB : ∀ j, -128 ≤ b j ∧ b j ≤ 127) {n i : Int} (h0 : 0 ≤ i) (h1 : i + 20 ≤ n) (he : e_bad b n i = false) : 0 ≤ s_txt b n (i + 16) [32, 110, 32, 10] ↔ b (i.toNat + 17) = 110 := by
  have h := (e_eg hB h0 h1).mp he
  have h16 : b (i.toNat + 16) = 32 := of_decide_eq_true (h 16 (by omega))
  have h18 : b (i.toNat + 18) = 32 := of_decide_eq_true (h 18 (by omega))
  have h19 : b (i.toNat + 19) = 10 := of_decide_eq_true (h 19 (by omega))
  rw [s_txt_iff, show (i + 16).toNat = i.toNat + 16 by omega]
  constructor
  · rintro ⟨-, -, z⟩
    exact z 1 (by decide)
  · intro hc
    refine ⟨by omega, by show i + 16 + 4 ≤ n; omega, fun k hk => ?_⟩
    have hk : k < 4 := hk
    rcases (show k = 0 ∨ k = 1 ∨ k = 2 ∨ k = 3 by omega) with e | e | e | e <;> rw [e]
    · exact h16
    · exact hc
    · exact h18
    · exact h19
