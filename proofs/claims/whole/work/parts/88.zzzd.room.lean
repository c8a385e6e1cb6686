/-! room: entries of tables in the text, weights of bytes -/
/-- an entry of a table begins at x -/
def ewB (b : Nat → Int) (f N : Int) (x : Nat) : Bool := decide (f < (x : Int) ∧ (x : Int) + 20 ≤ N ∧ b (x - 1) = 10 ∧ s_alld b 10 x = true ∧ b (x + 10) = 32 ∧ s_alld b 5 (x + 11) = true ∧ b (x + 16) = 32 ∧ (b (x + 17) = 110 ∨ b (x + 17) = 102) ∧ b (x + 18) = 32 ∧ b (x + 19) = 10)
theorem ewB_iff {b : Nat → Int} {f N : Int} {x : Nat} : ewB b f N x = true ↔ (f < (x : Int) ∧ (x : Int) + 20 ≤ N ∧ b (x - 1) = 10 ∧ s_alld b 10 x = true ∧ b (x + 10) = 32 ∧ s_alld b 5 (x + 11) = true ∧ b (x + 16) = 32 ∧ (b (x + 17) = 110 ∨ b (x + 17) = 102) ∧ b (x + 18) = 32 ∧ b (x + 19) = 10) := by
  unfold ewB
  exact decide_eq_true_iff
theorem s_dig_in {c : Int} (h : s_dig c = true) : 48 ≤ c ∧ c ≤ 57 := by
  unfold s_dig at h
  simp only [Bool.and_eq_true, decide_eq_true_eq] at h
  exact h
/-- the bytes of an entry -/
theorem ew_char {b : Nat → Int} {f N : Int} {x k : Nat} (h : ewB b f N x = true) (hk : k < 20) : ((48 ≤ b (x + k) ∧ b (x + k) ≤ 57) ∨ b (x + k) = 32 ∨ b (x + k) = 110 ∨ b (x + k) = 102 ∨ b (x + k) = 10) ∧ (b (x + k) = 10 → k = 19) ∧ (k < 10 → 48 ≤ b (x + k) ∧ b (x + k) ≤ 57) := by
  obtain ⟨h1, h2, h3, h4, h5, h6, h7, h8, h9, h10⟩ := ewB_iff.mp h
  by_cases c1 : k < 10
  · have := s_dig_in (s_alld_all b 10 x h4 k c1)
    exact ⟨Or.inl this, by omega, fun _ => this⟩
  by_cases c2 : k = 10
  · subst c2; exact ⟨Or.inr (Or.inl h5), by omega, by omega⟩
  by_cases c3 : k < 16
  · have := s_dig_in (s_alld_all b 5 (x + 11) h6 (k - 11) (by omega))
    rw [show x + 11 + (k - 11) = x + k by omega] at this
    exact ⟨Or.inl this, by omega, by omega⟩
  by_cases c4 : k = 16
  · subst c4; exact ⟨Or.inr (Or.inl h7), by omega, by omega⟩
  by_cases c5 : k = 17
  · subst c5; exact ⟨by omega, by omega, by omega⟩
  by_cases c6 : k = 18
  · subst c6; exact ⟨Or.inr (Or.inl h9), by omega, by omega⟩
  · have : k = 19 := by omega
    subst this; exact ⟨Or.inr (Or.inr (Or.inr (Or.inr h10))), by omega, by omega⟩
/-- a place lies in an entry -/
def wB (b : Nat → Int) (f N : Int) (p : Nat) : Bool := (List.range 20).any (fun k => decide (k ≤ p) && ewB b f N (p - k))
theorem wB_iff {b : Nat → Int} {f N : Int} {p : Nat} : wB b f N p = true ↔ ∃ x, x ≤ p ∧ p < x + 20 ∧ ewB b f N x = true := by
  unfold wB
  rw [List.any_eq_true]
  constructor
  · rintro ⟨k, hk, h⟩
    rw [List.mem_range] at hk
    simp only [Bool.and_eq_true, decide_eq_true_eq] at h
    exact ⟨p - k, by omega, by omega, h.2⟩
  · rintro ⟨x, h1, h2, h3⟩
    refine ⟨p - x, List.mem_range.mpr (by omega), ?_⟩
    simp only [Bool.and_eq_true, decide_eq_true_eq]
    exact ⟨by omega, by rw [show p - (p - x) = x by omega]; exact h3⟩
theorem wB_f {b : Nat → Int} {f N : Int} {p : Nat} (h : ∀ x, x ≤ p → p < x + 20 → ewB b f N x = true → False) : wB b f N p = false := by
  cases e : wB b f N p with
  | false => rfl
  | true =>
    obtain ⟨x, h1, h2, h3⟩ := wB_iff.mp e
    exact absurd trivial (fun _ => h x h1 h2 h3)
/-- no entry has such a byte -/
theorem wB_ch {b : Nat → Int} {f N : Int} {p : Nat} (h : ¬ ((48 ≤ b p ∧ b p ≤ 57) ∨ b p = 32 ∨ b p = 110 ∨ b p = 102 ∨ b p = 10)) : wB b f N p = false := wB_f (fun x h1 h2 h3 => by
  have := (ew_char (k := p - x) h3 (by omega)).1
  rw [show x + (p - x) = p by omega] at this
  exact h this)
/-- the weight of the bytes before p -/
def wS (b : Nat → Int) (f N : Int) (A w : Nat) (p : Int) : Int := s_sm (fun q => if wB b f N q = true then (w : Int) else (A : Int)) p.toNat
theorem wS_s {b : Nat → Int} {f N : Int} {A w : Nat} {p : Int} (h : 0 ≤ p) : wS b f N A w (p + 1) = wS b f N A w p + (if wB b f N p.toNat = true then (w : Int) else (A : Int)) := by
  unfold wS
  rw [s_sm_s _ h]
theorem wS_lo {b : Nat → Int} {f N : Int} {A w : Nat} (hw : w ≤ A) {i : Int} (h0 : 0 ≤ i) : ∀ (L : Nat), wS b f N A w i + (L * w : Nat) ≤ wS b f N A w (i + L)
  | 0 => by
    rw [Nat.zero_mul, Int.natCast_zero, Int.add_zero, Int.add_zero]
    exact Int.le_refl _
  | L + 1 => by
    have ih := wS_lo hw h0 (f := f) (N := N) (b := b) L
    have e := wS_s (b := b) (f := f) (N := N) (A := A) (w := w) (p := i + L) (by omega)
    rw [show i + ((L + 1 : Nat) : Int) = i + L + 1 by omega, e, Nat.add_mul, Nat.one_mul]
    split <;> omega
theorem wS_mono {b : Nat → Int} {f N : Int} {A w : Nat} (hw : w ≤ A) {i j : Int} (h0 : 0 ≤ i) (h : i ≤ j) : wS b f N A w i ≤ wS b f N A w j := by
  have := wS_lo (b := b) (f := f) (N := N) hw h0 (j - i).toNat
  rw [show i + ((j - i).toNat : Int) = j by omega] at this
  omega
theorem wS_lo2 {b : Nat → Int} {f N : Int} {A w : Nat} (hw : w ≤ A) {i j : Int} {L : Nat} (h0 : 0 ≤ i) (h : i + L ≤ j) : wS b f N A w i + (L * w : Nat) ≤ wS b f N A w j := by
  have h1 := wS_lo (b := b) (f := f) (N := N) hw h0 L
  have h2 := wS_mono (b := b) (f := f) (N := N) hw (i := i + L) (j := j) (by omega) h
  omega
/-- outside of entries -/
theorem wS_out {b : Nat → Int} {f N : Int} {A w : Nat} {i : Int} (h0 : 0 ≤ i) : ∀ (L : Nat), (∀ p : Int, i ≤ p → p < i + L → wB b f N p.toNat = false) → wS b f N A w (i + L) = wS b f N A w i + (L * A : Nat)
  | 0, _ => by rw [Nat.zero_mul, Int.natCast_zero, Int.add_zero, Int.add_zero]
  | L + 1, h => by
    have ih := wS_out h0 (A := A) (w := w) L (fun p h1 h2 => h p h1 (by omega))
    have e := wS_s (b := b) (f := f) (N := N) (A := A) (w := w) (p := i + L) (by omega)
    rw [if_neg (by rw [h (i + L) (by omega) (by omega)]; decide)] at e
    rw [show i + ((L + 1 : Nat) : Int) = i + L + 1 by omega, e, ih, Nat.add_mul, Nat.one_mul]
    omega
theorem wS_1 {b : Nat → Int} {f N : Int} {A w : Nat} {p : Int} (h : 0 ≤ p) (hp : wB b f N p.toNat = false) : wS b f N A w (p + 1) = wS b f N A w p + A := by
  rw [wS_s h, if_neg (by rw [hp]; decide)]
/-- not strictly inside of an entry -/
def wC (b : Nat → Int) (f N : Int) (i : Int) : Prop := ∀ x : Nat, ewB b f N x = true → i ≤ (x : Int) ∨ (x : Int) + 20 ≤ i
theorem wC_pre {b : Nat → Int} {f N e : Int} (h0 : 0 ≤ e) (h : wB b f N e.toNat = false) : wC b f N (e + 1) := fun x hx => by
  by_cases c : e + 1 ≤ (x : Int)
  · exact Or.inl c
  · by_cases d : (x : Int) + 20 ≤ e + 1
    · exact Or.inr d
    · exfalso
      have : wB b f N e.toNat = true := wB_iff.mpr ⟨x, by omega, by omega, hx⟩
      rw [h] at this
      cases this
theorem wC_nl {b : Nat → Int} {f N e : Int} (h0 : 0 ≤ e) (h : b e.toNat = 10) : wC b f N (e + 1) := fun x hx => by
  by_cases c : e + 1 ≤ (x : Int)
  · exact Or.inl c
  · by_cases d : (x : Int) + 20 ≤ e + 1
    · exact Or.inr d
    · exfalso
      have := (ew_char (k := e.toNat - x) hx (by omega)).2.1
      rw [show x + (e.toNat - x) = e.toNat by omega] at this
      have := this h
      omega
/-- a token that no entry begins in -/
theorem tok_out {b : Nat → Int} {f N i e : Int} (hc : wC b f N i) (h0 : 0 ≤ i) (h : ∀ x : Nat, i ≤ (x : Int) → (x : Int) < e → ewB b f N x = true → False) : ∀ p : Int, i ≤ p → p < e → wB b f N p.toNat = false := fun p h1 h2 => wB_f (fun x a1 a2 a3 => by
  rcases hc x a3 with c | c
  · exact h x c (by omega) a3
  · omega)
theorem tok_run {b : Nat → Int} {f N i e : Int} (hc : wC b f N i) (h0 : 0 ≤ i) (h : ∀ p : Int, i ≤ p → p < e → ¬ b p.toNat = 10) (hi : ewB b f N i.toNat = true → False) : ∀ p : Int, i ≤ p → p < e → wB b f N p.toNat = false := tok_out hc h0 (fun x h1 h2 h3 => by
  by_cases c : (x : Int) = i
  · rw [show x = i.toNat by omega] at h3
    exact hi h3
  · have := (ewB_iff.mp h3).2.2.1
    refine h ((x : Int) - 1) (by omega) (by omega) ?_
    rw [show ((x : Int) - 1).toNat = x - 1 by omega]
    exact this)
/-- what a token gives -/
theorem tok_w {b : Nat → Int} {f N i e : Int} {A w : Nat} (h0 : 0 ≤ i) (hie : i < e) (h : ∀ p : Int, i ≤ p → p < e → wB b f N p.toNat = false) : wC b f N e ∧ wS b f N A w e = wS b f N A w i + ((e - i).toNat * A : Nat) := by
  refine ⟨?_, ?_⟩
  · have := wC_pre (b := b) (f := f) (N := N) (e := e - 1) (by omega) (h (e - 1) (by omega) (by omega))
    rw [show e - 1 + 1 = e by omega] at this
    exact this
  · have := wS_out (A := A) (w := w) h0 (e - i).toNat (fun p h1 h2 => h p h1 (by omega))
    rw [show i + ((e - i).toNat : Int) = e by omega] at this
    exact this
/-- white bytes -/
theorem white_w {b : Nat → Int} {f N n e : Int} {A w : Nat} (hw : w ≤ A) (h0 : 0 ≤ e) (hc : wC b f N e) : wC b f N (s_sc s_white b n e) ∧ wS b f N A w e ≤ wS b f N A w (s_sc s_white b n e) ∧ (¬ s_sc s_white b n e = e → wS b f N A w e + A ≤ wS b f N A w (s_sc s_white b n e)) := by
  have hg := s_sc_ge s_white b n e
  have hall : ∀ p : Int, e ≤ p → p < s_sc s_white b n e → s_white (b p.toNat) = true := fun p h1 h2 => s_sc_all s_white b n _ e p rfl h0 h1 h2
  have hdig : ∀ x : Nat, e ≤ (x : Int) → (x : Int) < s_sc s_white b n e → ewB b f N x = true → False := fun x h1 h2 h3 => by
    have h4 := hall x h1 h2
    rw [show ((x : Int)).toNat = x by omega] at h4
    have h5 := (ew_char (k := 0) h3 (by omega)).2.2 (by omega)
    rw [Nat.add_zero] at h5
    unfold s_white at h4
    simp only [Bool.or_eq_true, decide_eq_true_eq] at h4
    omega
  refine ⟨fun x hx => ?_, wS_mono hw h0 hg, fun c => ?_⟩
  · rcases hc x hx with z | z
    · by_cases d : s_sc s_white b n e ≤ (x : Int)
      · exact Or.inl d
      · exact absurd trivial (fun _ => hdig x z (by omega) hx)
    · exact Or.inr (by omega)
  · have h1 : wB b f N e.toNat = false := tok_out hc h0 hdig e (Int.le_refl e) (by omega)
    have h2 := wS_1 (A := A) (w := w) h0 h1
    have h3 := wS_mono (b := b) (f := f) (N := N) hw (i := e + 1) (j := s_sc s_white b n e) (by omega) (by omega)
    omega
