/-! texts: scanning, words, numbers -/
def s_white (c : Int) : Bool := decide (c = 32) || decide (c = 10) || decide (c = 13)
def s_delim (c : Int) : Bool := decide (c = 40) || decide (c = 41) || decide (c = 60) || decide (c = 62) || decide (c = 91) || decide (c = 93) || decide (c = 47)
def s_reg (c : Int) : Bool := decide (33 ≤ c) && decide (c ≤ 126) && !s_delim c
def s_dig (c : Int) : Bool := decide (48 ≤ c) && decide (c ≤ 57)
def s_skip (p : Int → Bool) (b : Nat → Int) : Nat → Nat → Nat
  | 0, i => i
  | k + 1, i => if p (b i) = true then s_skip p b k (i + 1) else i
theorem s_skip_ge (p : Int → Bool) (b : Nat → Int) : ∀ (k i : Nat), i ≤ s_skip p b k i
  | 0, i => Nat.le_refl i
  | k + 1, i => by
    unfold s_skip
    split
    · exact Nat.le_trans (Nat.le_succ i) (s_skip_ge p b k (i + 1))
    · exact Nat.le_refl i
theorem s_skip_le (p : Int → Bool) (b : Nat → Int) : ∀ (k i : Nat), s_skip p b k i ≤ i + k
  | 0, i => Nat.le_refl i
  | k + 1, i => by
    unfold s_skip
    split
    · have := s_skip_le p b k (i + 1)
      omega
    · omega
/-- from t on, behind all bytes of a kind -/
def s_sc (p : Int → Bool) (b : Nat → Int) (n t : Int) : Int := if t < 0 then t else (s_skip p b (n - t).toNat t.toNat : Int)
theorem s_sc_stop {p : Int → Bool} {b : Nat → Int} {n t : Int} (h : t < 0 ∨ n ≤ t ∨ p (b t.toNat) = false) : s_sc p b n t = t := by
  unfold s_sc
  split
  · rfl
  · next h0 =>
    cases hk : (n - t).toNat with
    | zero =>
      show ((t.toNat : Nat) : Int) = t
      omega
    | succ k =>
      unfold s_skip
      rw [if_neg (fun z => by
        rcases h with h | h | h
        · omega
        · omega
        · rw [h] at z; cases z)]
      omega
theorem s_sc_step {p : Int → Bool} {b : Nat → Int} {n t : Int} (h0 : 0 ≤ t) (h1 : t < n) (hp : p (b t.toNat) = true) : s_sc p b n t = s_sc p b n (t + 1) := by
  unfold s_sc
  rw [if_neg (by omega), if_neg (by omega)]
  obtain ⟨k, hk⟩ : ∃ k, (n - t).toNat = k + 1 := ⟨(n - t).toNat - 1, by omega⟩
  rw [hk, show (n - (t + 1)).toNat = k by omega, show (t + 1).toNat = t.toNat + 1 by omega]
  conv => lhs; unfold s_skip
  rw [if_pos hp]
theorem s_sc_ge (p : Int → Bool) (b : Nat → Int) (n t : Int) : t ≤ s_sc p b n t := by
  unfold s_sc
  split
  · exact Int.le_refl t
  · have := s_skip_ge p b (n - t).toNat t.toNat
    omega
theorem s_sc_le (p : Int → Bool) (b : Nat → Int) {n t : Int} (h : t ≤ n) : s_sc p b n t ≤ n := by
  unfold s_sc
  split
  · exact h
  · have := s_skip_le p b (n - t).toNat t.toNat
    omega
/-- all bytes on the way are of the kind -/
theorem s_sc_all (p : Int → Bool) (b : Nat → Int) (n : Int) : ∀ (k : Nat) (t j : Int), (n - t).toNat = k → 0 ≤ t → t ≤ j → j < s_sc p b n t → p (b j.toNat) = true := by
  intro k
  induction k with
  | zero =>
    intro t j hk h0 h1 h2
    rw [s_sc_stop (Or.inr (Or.inl (by omega)))] at h2
    omega
  | succ k ih =>
    intro t j hk h0 h1 h2
    cases hp : p (b t.toNat) with
    | false =>
      rw [s_sc_stop (Or.inr (Or.inr hp))] at h2
      omega
    | true =>
      rw [s_sc_step h0 (by omega) hp] at h2
      by_cases e : j = t
      · rw [e]; exact hp
      · exact ih (t + 1) j (by omega) (by omega) (by omega) h2
/-- and the byte behind them isn't -/
theorem s_sc_end (p : Int → Bool) (b : Nat → Int) (n : Int) : ∀ (k : Nat) (t : Int), (n - t).toNat = k → 0 ≤ t → s_sc p b n t < n → p (b (s_sc p b n t).toNat) = false := by
  intro k
  induction k with
  | zero =>
    intro t hk h0 h2
    rw [s_sc_stop (Or.inr (Or.inl (by omega)))] at h2
    omega
  | succ k ih =>
    intro t hk h0 h2
    cases hp : p (b t.toNat) with
    | false =>
      rw [s_sc_stop (Or.inr (Or.inr hp))]
      exact hp
    | true =>
      rw [s_sc_step h0 (by omega) hp] at h2 ⊢
      exact ih (t + 1) (by omega) (by omega) h2
/-- behind the word at t, -1 if there is none -/
def s_wd (b : Nat → Int) (n t : Int) : Int := if t < s_sc s_reg b n t then s_sc s_reg b n t else -1
/-- the bytes cs stand at i -/
def s_match (b : Nat → Int) : List Int → Nat → Bool
  | [], _ => true
  | c :: cs, i => decide (b i = c) && s_match b cs (i + 1)
def s_txt (b : Nat → Int) (n i : Int) (cs : List Int) : Int := if 0 ≤ i ∧ i + cs.length ≤ n ∧ s_match b cs i.toNat = true then i + cs.length else -1
/-- the word cs, whole -/
def s_the (b : Nat → Int) (n i : Int) (cs : List Int) : Int := if 0 ≤ s_txt b n i cs ∧ s_txt b n i cs < n ∧ s_reg (b (s_txt b n i cs).toNat) = true then -1 else s_txt b n i cs
def s_byte (b : Nat → Int) (n i : Int) : Int := if 0 ≤ i ∧ i < n then b i.toNat % 256 else -1
theorem s_byte_in (b : Nat → Int) (n i : Int) : (s_byte b n i = -1 ∧ ¬ (0 ≤ i ∧ i < n)) ∨ (0 ≤ s_byte b n i ∧ s_byte b n i < 256 ∧ 0 ≤ i ∧ i < n ∧ s_byte b n i = b i.toNat % 256) := by
  unfold s_byte
  split
  · right; omega
  · left; exact ⟨rfl, by assumption⟩
def s_abyte (b : Nat → Int) (n i c : Int) : Int := if s_byte b n i = c then i + 1 else -1
def s_name (b : Nat → Int) (n i : Int) : Int := if s_byte b n i = 47 ∧ s_wd b n (i + 1) - i - 1 ≤ 20 then s_wd b n (i + 1) else -1
/-- the value of j digits from i on -/
def s_dv (b : Nat → Int) : Nat → Nat → Int
  | 0, _ => 0
  | j + 1, i => 10 * s_dv b j i + b (i + j) - 48
def s_alld (b : Nat → Int) : Nat → Nat → Bool
  | 0, _ => true
  | j + 1, i => s_alld b j i && s_dig (b (i + j))
theorem s_dv_in (b : Nat → Int) : ∀ (j i : Nat), s_alld b j i = true → 0 ≤ s_dv b j i ∧ s_dv b j i < 10 ^ j
  | 0, _, _ => ⟨Int.le_refl 0, by show (0 : Int) < 10 ^ 0; decide⟩
  | j + 1, i, h => by
    unfold s_alld at h
    rw [Bool.and_eq_true] at h
    have h1 := s_dv_in b j i h.1
    have h2 := h.2
    unfold s_dig at h2
    rw [Bool.and_eq_true, decide_eq_true_eq, decide_eq_true_eq] at h2
    unfold s_dv
    rw [show (10 : Int) ^ (j + 1) = 10 * 10 ^ j by rw [Int.pow_succ, Int.mul_comm]]
    omega
/-- the word at i as a number of at most nine digits, -1 if it is none -/
def s_num (b : Nat → Int) (n i : Int) : Int := if 0 ≤ i ∧ i < s_sc s_reg b n i ∧ s_sc s_reg b n i ≤ i + 9 ∧ s_alld b (s_sc s_reg b n i - i).toNat i.toNat = true then s_dv b (s_sc s_reg b n i - i).toNat i.toNat else -1
theorem s_dig_reg {c : Int} (h : s_dig c = true) : s_reg c = true := by
  unfold s_dig at h
  rw [Bool.and_eq_true, decide_eq_true_eq, decide_eq_true_eq] at h
  unfold s_reg s_delim
  simp only [Bool.and_eq_true, Bool.not_eq_true', Bool.or_eq_false_iff, decide_eq_true_eq, decide_eq_false_iff_not]
  omega
theorem s_alld_at (b : Nat → Int) : ∀ (j i k : Nat), s_alld b j i = true → k < j → s_dig (b (i + k)) = true
  | 0, _, _, _, h => absurd h (Nat.not_lt_zero _)
  | j + 1, i, k, h, hk => by
    unfold s_alld at h
    rw [Bool.and_eq_true] at h
    by_cases e : k = j
    · rw [e]; exact h.2
    · exact s_alld_at b j i k h.1 (by omega)
/-- where digits stand from i to t, the word at i is the word at t -/
theorem s_sc_digits (b : Nat → Int) (n i : Int) (h0 : 0 ≤ i) : ∀ (j : Nat), s_alld b j i.toNat = true → i + j ≤ n → s_sc s_reg b n i = s_sc s_reg b n (i + j) := by
  intro j
  induction j with
  | zero => intro _ _; rw [show i + ((0 : Nat) : Int) = i by omega]
  | succ j ih =>
    intro h hn
    unfold s_alld at h
    rw [Bool.and_eq_true] at h
    rw [ih h.1 (by omega), s_sc_step (by omega) (by omega) (by rw [show (i + (j : Int)).toNat = i.toNat + j by omega]; exact s_dig_reg h.2), show i + ((j + 1 : Nat) : Int) = i + j + 1 by omega]
/-- the number, once the digits are read up to t -/
theorem s_num_end {b : Nat → Int} {n i t : Int} (h0 : 0 ≤ i) (hit : i ≤ t) (htn : t ≤ n ∨ t = i) (h9 : t ≤ i + 9) (hd : s_alld b (t - i).toNat i.toNat = true) (hs : n ≤ t ∨ i + 9 ≤ t ∨ s_dig (b t.toNat) = false) :
    s_num b n i = if i < t ∧ ¬ (t < n ∧ s_reg (b t.toNat) = true) then s_dv b (t - i).toNat i.toNat else -1 := by
  have hsc : s_sc s_reg b n i = s_sc s_reg b n t := by
    rcases htn with h | h
    · have := s_sc_digits b n i h0 (t - i).toNat hd (by omega)
      rw [show i + ((t - i).toNat : Int) = t by omega] at this
      exact this
    · rw [h]
  unfold s_num
  rw [hsc]
  by_cases hr : t < n ∧ s_reg (b t.toNat) = true
  · rw [if_neg (fun z : i < t ∧ ¬ (t < n ∧ s_reg (b t.toNat) = true) => z.2 hr), if_neg]
    intro z
    obtain ⟨z1, z2, z3, z4⟩ := z
    have hlt : t < s_sc s_reg b n t := by
      rw [s_sc_step (by omega) hr.1 hr.2]
      have := s_sc_ge s_reg b n (t + 1)
      omega
    rcases hs with hs | hs | hs
    · omega
    · omega
    · have h5 := s_alld_at b _ _ (t - i).toNat z4 (by omega)
      rw [show i.toNat + (t - i).toNat = t.toNat by omega] at h5
      rw [h5] at hs
      cases hs
  · have hst : s_sc s_reg b n t = t := by
      refine s_sc_stop ?_
      by_cases hn : t < n
      · cases hq : s_reg (b t.toNat) with
        | false => exact Or.inr (Or.inr rfl)
        | true => exact absurd ⟨hn, hq⟩ hr
      · exact Or.inr (Or.inl (by omega))
    rw [hst]
    by_cases hlt : i < t
    · rw [if_pos ⟨h0, hlt, h9, hd⟩, if_pos ⟨hlt, hr⟩]
    · rw [if_neg (fun z => hlt z.2.1), if_neg (fun z => hlt z.1)]
