/-! the reader: what it reads -/
/-- a part: kind, one, two, span, name -/
abbrev tk := Int × Int × Int × Int × Int
def s_one (k a b : Int) : tk := (k, a, b, 1, -1)
def s_nm (p : Int) : List tk → List tk
  | [] => []
  | x :: l => (x.1, x.2.1, x.2.2.1, x.2.2.2.1, p) :: l
/-- a string in ( ): fuel, place, bytes so far; how many bytes, and the place behind -/
def s_str (b : Nat → Int) (n : Int) : Nat → Int → Int → Option (Int × Int)
  | 0, _, _ => none
  | f + 1, i, k => if s_byte b n i = 41 then some (k, i + 1) else if s_ss b n i = 0 then none else s_str b n f (i + s_ss b n i) (k + 1)
def s_prs (b : Nat → Int) (n : Int) : Nat → Int → Int → Option (Int × Int)
  | 0, _, _ => none
  | f + 1, i, k => if s_byte b n i = 62 then some (k, i + 1) else if s_pair b n i < 0 then none else s_prs b n f (i + 2) (k + 1)
def s_ref (b : Nat → Int) (n num i : Int) : Int := if 300 ≤ num ∨ s_num b n (s_sc s_white b n i) < 0 ∨ 65536 ≤ s_num b n (s_sc s_white b n i) then -1 else s_the b n (s_sc s_white b n (s_wd b n (s_sc s_white b n i))) [82]
def s_con (b : Nat → Int) (n i : Int) : Option (List tk × Int) := if 0 ≤ s_the b n i [110, 117, 108, 108] then some ([s_one 0 0 0], s_the b n i [110, 117, 108, 108]) else if 0 ≤ s_the b n i [116, 114, 117, 101] then some ([s_one 1 0 0], s_the b n i [116, 114, 117, 101]) else if 0 ≤ s_the b n i [102, 97, 108, 115, 101] then some ([s_one 2 0 0], s_the b n i [102, 97, 108, 115, 101]) else none
def s_nat (b : Nat → Int) (n i : Int) : Int := s_num b n (if s_byte b n i = 45 then i + 1 else i)
def s_word (b : Nat → Int) (n i : Int) : Option (List tk × Int) := if s_nat b n i < 0 then s_con b n i else if ¬ s_byte b n i = 45 ∧ 0 ≤ s_ref b n (s_nat b n i) (s_wd b n i) then some ([s_one 8 (s_nat b n i) (s_num b n (s_sc s_white b n (s_wd b n i)))], s_ref b n (s_nat b n i) (s_wd b n i)) else some ([s_one 3 (if s_byte b n i = 45 then -(s_nat b n i) else s_nat b n i) 0], s_wd b n i)
def s_leaf (b : Nat → Int) (n i : Int) : Option (List tk × Int) := if s_byte b n i = 40 then (s_str b n 101 (i + 1) 0).map (fun x => ([s_one 5 i x.1], x.2)) else if s_byte b n i = 60 then (s_prs b n 101 (i + 1) 0).map (fun x => ([s_one 5 i x.1], x.2)) else if s_byte b n i = 47 then (if s_name b n i < 0 then none else some ([s_one 4 (i + 1) (s_name b n i - i - 1)], s_name b n i)) else s_word b n i
def s_items (f : Int → Option (List tk × Int)) (b : Nat → Int) (n : Int) : Nat → Int → Option (List tk × Int)
  | 0, i => if s_byte b n i = 93 then some ([], i + 1) else none
  | m + 1, i => if s_byte b n i = 93 then some ([], i + 1) else (f i).bind (fun x => (s_items f b n m (s_sc s_white b n x.2)).map (fun y => (x.1 ++ y.1, y.2)))
def s_ents (f : Int → Option (List tk × Int)) (b : Nat → Int) (n : Int) : Nat → Int → List Int → Option (List tk × Int)
  | 0, i, _ => if s_byte b n i = 62 then (if 0 ≤ s_txt b n i [62, 62] then some ([], s_txt b n i [62, 62]) else none) else none
  | m + 1, i, ns => if s_byte b n i = 62 then (if 0 ≤ s_txt b n i [62, 62] then some ([], s_txt b n i [62, 62]) else none) else if ns.any (fun u => s_same b n u (i + 1)) = true then none else if s_name b n i < 0 then none else (f (s_sc s_white b n (s_name b n i))).bind (fun x => (s_ents f b n m (s_sc s_white b n x.2) (ns ++ [i + 1])).map (fun y => (s_nm (i + 1) x.1 ++ y.1, y.2)))
/-- the value at i; D: how many values may still lie in one another -/
def s_val (b : Nat → Int) (n : Int) : Nat → Int → Option (List tk × Int)
  | 0, i => if s_byte b n i = 91 then none else if s_byte b n i = 60 ∧ s_byte b n (i + 1) = 60 then none else s_leaf b n i
  | D + 1, i => if s_byte b n i = 91 then (s_items (s_val b n D) b n 60 (s_sc s_white b n (i + 1))).map (fun x => ((6, 0, 0, x.1.length + 1, -1) :: x.1, x.2)) else if s_byte b n i = 60 ∧ s_byte b n (i + 1) = 60 then (s_ents (s_val b n D) b n 30 (s_sc s_white b n (i + 2)) []).map (fun x => ((7, 0, 0, x.1.length + 1, -1) :: x.1, x.2)) else s_leaf b n i
def s_ps (x : Option (List tk × Int)) : Int := match x with
  | none => -1
  | some y => y.2
/-- what every value that is read keeps: it stands in the text, has no more parts than bytes, and its first part spans it -/
def s_vok (n i : Int) (x : Option (List tk × Int)) : Prop := ∀ ts j, x = some (ts, j) → 0 ≤ i ∧ i < j ∧ j ≤ n ∧ (1 ≤ ts.length ∧ (ts.length : Int) ≤ j - i) ∧ (∀ y, ts.head? = some y → y.2.2.2.1 = ts.length ∧ y.2.2.2.2 = -1) ∧ ∀ y, y ∈ ts → 1 ≤ y.2.2.2.1 ∧ y.2.2.2.1 ≤ ts.length ∧ -1 ≤ y.2.2.2.2 ∧ y.2.2.2.2 ≤ n
theorem s_vok_none {n i : Int} : s_vok n i none := fun _ _ h => by cases h
theorem s_vok_one {n i k a b j : Int} (h0 : 0 ≤ i) (h1 : i < j) (h2 : j ≤ n) : s_vok n i (some ([s_one k a b], j)) := by
  intro ts j2 h
  have h := Option.some.inj h
  have e1 : [s_one k a b] = ts := congrArg Prod.fst h
  have e2 : j = j2 := congrArg Prod.snd h
  subst e1 e2
  refine ⟨h0, h1, h2, ⟨Nat.le_refl 1, by simp only [List.length_cons, List.length_nil]; omega⟩, fun y hy => ?_, fun y hy => ?_⟩
  · have := Option.some.inj hy
    rw [← this]
    exact ⟨rfl, rfl⟩
  · rcases List.mem_cons.mp hy with rfl | hy
    · exact ⟨Int.le_refl 1, Int.le_refl 1, Int.le_refl (-1), by show (-1 : Int) ≤ n; omega⟩
    · cases hy
theorem s_the_in (b : Nat → Int) (n p : Int) (cs : List Int) : s_the b n p cs = -1 ∨ (0 ≤ p ∧ s_the b n p cs = p + cs.length ∧ p + cs.length ≤ n) := by
  unfold s_the
  split
  · exact Or.inl rfl
  · exact s_txt_in b n p cs
theorem s_num_in (b : Nat → Int) (n i : Int) : s_num b n i = -1 ∨ (0 ≤ s_num b n i ∧ s_num b n i < 1000000000 ∧ 0 ≤ i ∧ i < s_wd b n i ∧ s_wd b n i ≤ i + 9 ∧ i < n) := by
  unfold s_num
  split
  · next h =>
    obtain ⟨h1, h2, h3, h4⟩ := h
    have h5 := s_dv_in b _ _ h4
    have h6 := s_pow9 (j := (s_sc s_reg b n i - i).toNat) (by omega)
    have h7 : s_wd b n i = s_sc s_reg b n i := by unfold s_wd; rw [if_pos h2]
    rw [h7]
    refine Or.inr ⟨by omega, by omega, h1, h2, h3, ?_⟩
    rcases Int.lt_or_le i n with h8 | h8
    · exact h8
    · rw [s_sc_stop (Or.inr (Or.inl h8))] at h2
      omega
  · exact Or.inl rfl
theorem s_sc_0 (p : Int → Bool) (b : Nat → Int) {n t : Int} (h : t < 0) : s_sc p b n t = t := s_sc_stop (Or.inl h)
theorem s_ss_in (b : Nat → Int) (n p : Int) : s_ss b n p = 0 ∨ (1 ≤ s_ss b n p ∧ s_ss b n p ≤ 4 ∧ 0 ≤ p ∧ p + s_ss b n p ≤ n) := by
  have h0 := s_byte_in b n p
  have h1 := s_byte_in b n (p + 1)
  have h4 := s_byte_in b n (p + 1 + 2)
  unfold s_ss
  split
  · split
    · exact Or.inr (by omega)
    · split
      · exact Or.inl rfl
      · next h5 =>
        refine Or.inr ⟨by omega, by omega, by omega, ?_⟩
        unfold s_oct at h5
        split at h5
        · omega
        · omega
  · split
    · exact Or.inl rfl
    · exact Or.inr (by omega)
theorem s_str_in (b : Nat → Int) (n : Int) : ∀ (f : Nat) (i k : Int) (x : Int × Int), 0 ≤ i → s_str b n f i k = some x → i < x.2 ∧ x.2 ≤ n ∧ k ≤ x.1 ∧ x.1 < k + f
  | 0, _, _, _, _, h => by cases h
  | f + 1, i, k, x, h0, h => by
    unfold s_str at h
    have hb := s_byte_in b n i
    have hs := s_ss_in b n i
    split at h
    · have := Option.some.inj h
      subst this
      exact ⟨by show i < i + 1; omega, by show i + 1 ≤ n; omega, Int.le_refl k, by show k < k + ((f + 1 : Nat) : Int); omega⟩
    · split at h
      · cases h
      · have := s_str_in b n f _ _ x (by omega) h
        omega
theorem s_pair_in (b : Nat → Int) (n p : Int) : s_pair b n p = -1 ∨ (0 ≤ s_pair b n p ∧ s_pair b n p ≤ 255 ∧ 0 ≤ p ∧ p + 2 ≤ n) := by
  have h0 := s_byte_in b n p
  have h1 := s_byte_in b n (p + 1)
  have h2 := s_hex_in (s_byte b n p)
  have h3 := s_hex_in (s_byte b n (p + 1))
  unfold s_pair
  split
  · exact Or.inl rfl
  · next h =>
    have e1 : s_byte b n p = -1 → s_hex (s_byte b n p) = -1 := fun e => by rw [e]; decide
    have e2 : s_byte b n (p + 1) = -1 → s_hex (s_byte b n (p + 1)) = -1 := fun e => by rw [e]; decide
    refine Or.inr ⟨by omega, by omega, ?_, ?_⟩
    · rcases h0 with h0 | h0
      · exact absurd (e1 h0.1) (by omega)
      · omega
    · rcases h1 with h1 | h1
      · exact absurd (e2 h1.1) (by omega)
      · omega
theorem s_prs_in (b : Nat → Int) (n : Int) : ∀ (f : Nat) (i k : Int) (x : Int × Int), 0 ≤ i → s_prs b n f i k = some x → i < x.2 ∧ x.2 ≤ n ∧ k ≤ x.1 ∧ x.1 < k + f
  | 0, _, _, _, _, h => by cases h
  | f + 1, i, k, x, h0, h => by
    unfold s_prs at h
    have hb := s_byte_in b n i
    split at h
    · have := Option.some.inj h
      subst this
      exact ⟨by show i < i + 1; omega, by show i + 1 ≤ n; omega, Int.le_refl k, by show k < k + ((f + 1 : Nat) : Int); omega⟩
    · split at h
      · cases h
      · have := s_prs_in b n f _ _ x (by omega) h
        omega
theorem s_vok_map {n i : Int} {k : Int} {x : Option (Int × Int)} (h0 : 0 ≤ i) (h : ∀ y, x = some y → i < y.2 ∧ y.2 ≤ n) : s_vok n i (x.map (fun y => ([s_one k i y.1], y.2))) := by
  cases x with
  | none => exact s_vok_none
  | some y => exact s_vok_one h0 (h y rfl).1 (h y rfl).2
theorem s_con_ok (b : Nat → Int) (n i : Int) : s_vok n i (s_con b n i) := by
  have h1 := s_the_in b n i [110, 117, 108, 108]
  have h2 := s_the_in b n i [116, 114, 117, 101]
  have h3 := s_the_in b n i [102, 97, 108, 115, 101]
  simp only [List.length_cons, List.length_nil] at h1 h2 h3
  unfold s_con
  split
  · exact s_vok_one (by omega) (by omega) (by omega)
  · split
    · exact s_vok_one (by omega) (by omega) (by omega)
    · split
      · exact s_vok_one (by omega) (by omega) (by omega)
      · exact s_vok_none
theorem s_ref_in (b : Nat → Int) (n num i : Int) (h : 0 ≤ s_ref b n num i) (h0 : 0 ≤ i) : i < s_ref b n num i ∧ s_ref b n num i ≤ n ∧ num < 300 ∧ 0 ≤ s_num b n (s_sc s_white b n i) ∧ s_num b n (s_sc s_white b n i) < 65536 := by
  have hn := s_num_in b n (s_sc s_white b n i)
  have hw := s_sc_ge s_white b n i
  have hw2 := s_sc_ge s_white b n (s_wd b n (s_sc s_white b n i))
  unfold s_ref at h ⊢
  split at h
  · omega
  · next hc =>
    rw [if_neg hc]
    have ht := s_the_in b n (s_sc s_white b n (s_wd b n (s_sc s_white b n i))) [82]
    simp only [List.length_cons, List.length_nil] at ht
    omega
theorem s_word_ok (b : Nat → Int) (hB : ∀ j, -128 ≤ b j ∧ b j ≤ 127) (n i : Int) : s_vok n i (s_word b n i) := by
  have hn := s_num_in b n (if s_byte b n i = 45 then i + 1 else i)
  have hb := s_byte_in b n i
  have hw := s_wd_in b n i
  unfold s_word
  split
  · exact s_con_ok b n i
  · next h =>
    unfold s_nat at h
    have hi : 0 ≤ i ∧ i < s_wd b n i ∧ s_wd b n i ≤ n := by
      by_cases e : s_byte b n i = 45
      · rw [if_pos e] at hn h
        have hwd : s_wd b n i ≠ -1 := by
          have hj := hB i.toNat
          unfold s_wd
          rw [s_sc_step (p := s_reg) (by omega) (by omega) (by rw [show b i.toNat = 45 by omega]; decide)]
          have := s_sc_ge s_reg b n (i + 1)
          rw [if_pos (by omega)]
          omega
        omega
      · rw [if_neg e] at hn h
        omega
    split
    · next h2 =>
      have := s_ref_in b n _ _ h2.2 (by omega)
      exact s_vok_one (by omega) (by omega) (by omega)
    · exact s_vok_one (by omega) (by omega) (by omega)
theorem s_name_in (b : Nat → Int) (n i : Int) : s_name b n i = -1 ∨ (0 ≤ i ∧ i + 1 < s_name b n i ∧ s_name b n i ≤ n ∧ s_name b n i ≤ i + 21 ∧ s_byte b n i = 47 ∧ s_name b n i = s_wd b n (i + 1)) := by
  have hb := s_byte_in b n i
  have hw := s_wd_in b n (i + 1)
  unfold s_name
  split <;> omega
theorem s_leaf_ok (b : Nat → Int) (hB : ∀ j, -128 ≤ b j ∧ b j ≤ 127) (n i : Int) : s_vok n i (s_leaf b n i) := by
  have hb := s_byte_in b n i
  have hm := s_name_in b n i
  unfold s_leaf
  split
  · exact s_vok_map (by omega) (fun y hy => by have := s_str_in b n 101 (i + 1) 0 y (by omega) hy; omega)
  · split
    · exact s_vok_map (by omega) (fun y hy => by have := s_prs_in b n 101 (i + 1) 0 y (by omega) hy; omega)
    · split
      · split
        · exact s_vok_none
        · exact s_vok_one (by omega) (by omega) (by omega)
      · exact s_word_ok b hB n i
/-- what a row of values keeps -/
def s_rok (n i : Int) (x : Option (List tk × Int)) : Prop := ∀ ts j, x = some (ts, j) → 0 ≤ i ∧ i < j ∧ j ≤ n ∧ (ts.length : Int) ≤ j - i - 1 ∧ ∀ y, y ∈ ts → 1 ≤ y.2.2.2.1 ∧ y.2.2.2.1 ≤ ts.length ∧ -1 ≤ y.2.2.2.2 ∧ y.2.2.2.2 ≤ n
theorem s_items_ok (f : Int → Option (List tk × Int)) (b : Nat → Int) (n : Int) (hf : ∀ i, s_vok n i (f i)) : ∀ (m : Nat) (i : Int), s_rok n i (s_items f b n m i) := by
  intro m
  induction m with
  | zero =>
    intro i ts j h
    have hb := s_byte_in b n i
    unfold s_items at h
    split at h
    · have h := Option.some.inj h
      have e1 : [] = ts := congrArg Prod.fst h
      have e2 : i + 1 = j := congrArg Prod.snd h
      subst e1 e2
      exact ⟨by omega, by omega, by omega, by simp only [List.length_nil]; omega, fun y hy => by cases hy⟩
    · cases h
  | succ m ih =>
    intro i ts j h
    have hb := s_byte_in b n i
    unfold s_items at h
    split at h
    · have h := Option.some.inj h
      have e1 : [] = ts := congrArg Prod.fst h
      have e2 : i + 1 = j := congrArg Prod.snd h
      subst e1 e2
      exact ⟨by omega, by omega, by omega, by simp only [List.length_nil]; omega, fun y hy => by cases hy⟩
    · obtain ⟨x, hx, h⟩ := Option.bind_eq_some_iff.mp h
      obtain ⟨y, hy, h⟩ := Option.map_eq_some_iff.mp h
      have e1 : x.1 ++ y.1 = ts := congrArg Prod.fst h
      have e2 : y.2 = j := congrArg Prod.snd h
      obtain ⟨a1, a2, a3, a4, a5, a6⟩ := hf i x.1 x.2 hx
      obtain ⟨b1, b2, b3, b4, b5⟩ := ih _ y.1 y.2 hy
      have hw := s_sc_ge s_white b n x.2
      subst e1 e2
      rw [List.length_append]
      refine ⟨a1, by omega, b3, by omega, fun z hz => ?_⟩
      rcases List.mem_append.mp hz with hz | hz
      · have := a6 z hz
        omega
      · have := b5 z hz
        omega
theorem s_nm_len (p : Int) (l : List tk) : (s_nm p l).length = l.length := by cases l <;> rfl
theorem s_ents_ok (f : Int → Option (List tk × Int)) (b : Nat → Int) (n : Int) (hf : ∀ i, s_vok n i (f i)) : ∀ (m : Nat) (i : Int) (ns : List Int), s_rok n i (s_ents f b n m i ns) := by
  intro m
  induction m with
  | zero =>
    intro i ns ts j h
    have hb := s_byte_in b n i
    have ht := s_txt_in b n i [62, 62]
    simp only [List.length_cons, List.length_nil] at ht
    unfold s_ents at h
    split at h
    · split at h
      · have h := Option.some.inj h
        have e1 : [] = ts := congrArg Prod.fst h
        have e2 : s_txt b n i [62, 62] = j := congrArg Prod.snd h
        subst e1 e2
        exact ⟨by omega, by omega, by omega, by simp only [List.length_nil]; omega, fun y hy => by cases hy⟩
      · cases h
    · cases h
  | succ m ih =>
    intro i ns ts j h
    have hb := s_byte_in b n i
    have ht := s_txt_in b n i [62, 62]
    simp only [List.length_cons, List.length_nil] at ht
    have hm := s_name_in b n i
    unfold s_ents at h
    split at h
    · split at h
      · have h := Option.some.inj h
        have e1 : [] = ts := congrArg Prod.fst h
        have e2 : s_txt b n i [62, 62] = j := congrArg Prod.snd h
        subst e1 e2
        exact ⟨by omega, by omega, by omega, by simp only [List.length_nil]; omega, fun y hy => by cases hy⟩
      · cases h
    · split at h
      · cases h
      · split at h
        · cases h
        · obtain ⟨x, hx, h⟩ := Option.bind_eq_some_iff.mp h
          obtain ⟨y, hy, h⟩ := Option.map_eq_some_iff.mp h
          have e1 : s_nm (i + 1) x.1 ++ y.1 = ts := congrArg Prod.fst h
          have e2 : y.2 = j := congrArg Prod.snd h
          obtain ⟨a1, a2, a3, a4, a5, a6⟩ := hf _ x.1 x.2 hx
          obtain ⟨b1, b2, b3, b4, b5⟩ := ih _ _ y.1 y.2 hy
          have hw := s_sc_ge s_white b n x.2
          have hw2 := s_sc_ge s_white b n (s_name b n i)
          subst e1 e2
          rw [List.length_append, s_nm_len]
          refine ⟨by omega, by omega, b3, by omega, fun z hz => ?_⟩
          rcases List.mem_append.mp hz with hz | hz
          · cases hx1 : x.1 with
            | nil => rw [hx1] at hz; cases hz
            | cons u l =>
              rw [hx1] at hz a6 a4 a5
              rcases List.mem_cons.mp hz with rfl | hz
              · have := a6 u List.mem_cons_self
                simp only [List.length_cons] at this ⊢
                omega
              · have := a6 z (List.mem_cons_of_mem _ hz)
                omega
          · have := b5 z hz
            omega
theorem s_box_ok {n i i2 k : Int} {x : Option (List tk × Int)} (h0 : 0 ≤ i) (h1 : i < i2) (h : s_rok n i2 x) : s_vok n i (x.map (fun y => ((k, 0, 0, (y.1.length : Int) + 1, -1) :: y.1, y.2))) := by
  intro ts j hx
  obtain ⟨y, hy, hx⟩ := Option.map_eq_some_iff.mp hx
  have e1 : (k, 0, 0, (y.1.length : Int) + 1, -1) :: y.1 = ts := congrArg Prod.fst hx
  have e2 : y.2 = j := congrArg Prod.snd hx
  obtain ⟨b1, b2, b3, b4, b5⟩ := h y.1 y.2 hy
  subst e1 e2
  simp only [List.length_cons]
  refine ⟨h0, by omega, b3, by omega, fun z hz => ?_, fun z hz => ?_⟩
  · have := Option.some.inj hz
    subst this
    exact ⟨by show (y.1.length : Int) + 1 = ((y.1.length + 1 : Nat) : Int); omega, rfl⟩
  · rcases List.mem_cons.mp hz with rfl | hz
    · show 1 ≤ (y.1.length : Int) + 1 ∧ (y.1.length : Int) + 1 ≤ ((y.1.length + 1 : Nat) : Int) ∧ (-1 : Int) ≤ -1 ∧ (-1 : Int) ≤ n
      omega
    · have := b5 z hz
      omega
theorem s_val_ok (b : Nat → Int) (hB : ∀ j, -128 ≤ b j ∧ b j ≤ 127) (n : Int) : ∀ (D : Nat) (i : Int), s_vok n i (s_val b n D i) := by
  intro D
  induction D with
  | zero =>
    intro i
    unfold s_val
    split
    · exact s_vok_none
    · split
      · exact s_vok_none
      · exact s_leaf_ok b hB n i
  | succ D ih =>
    intro i
    have hb := s_byte_in b n i
    have hw1 := s_sc_ge s_white b n (i + 1)
    have hw2 := s_sc_ge s_white b n (i + 2)
    unfold s_val
    split
    · exact s_box_ok (by omega) (by omega) (s_items_ok _ b n ih 60 _)
    · split
      · exact s_box_ok (by omega) (by omega) (s_ents_ok _ b n ih 30 _ _)
      · exact s_leaf_ok b hB n i
theorem c_T_numberN (Z : xZ) (d : Nat) (q : Nat → Int) (r : Nat → Option Nat) (A : Nat → Nat → Int) (dy : xH) (i : Int) (hT : 0 ≤ q 34 ∧ q 34 ≤ q 35 ∧ q 35 ≤ 10248) (hR : s_okR A) (hi : i < 0) : xMet Z d Y_T_number [xC 1, xI i] (hF q r A ++ dy) (fun v h2 => v = some (xI (s_num (A 2) (q 35) i)) ∧ h2 = hF q r A ++ dy) := by
  refine xMet_of (by decide) (Nat.le_of_ble_eq_true rfl) (fun v h2 hq => by rw [hq.1]; trivial) ?_
  refine x_iload_n (x_d C_T_number 0 rfl) rfl ?_
  refine x_istore_n (l1 := [(2, xI (i)), (0, xC 1), (1, xI (i))]) (x_d C_T_number 1 rfl) (by decide) rfl ?_
  refine x_iconst (x_d C_T_number 2 rfl) ⟨by omega, by omega⟩ ?_
  refine x_istore_n (l1 := [(3, xI (0)), (2, xI (i)), (0, xC 1), (1, xI (i))]) (x_d C_T_number 3 rfl) (by decide) rfl ?_
  refine x_iload_n (x_d C_T_number 4 rfl) rfl ?_
  refine x_if_lt (tgt := 67) (x_d C_T_number 5 rfl) rfl (fun _ => ?_) (fun q => absurd q (by omega))
  refine x_iload_n (x_d C_T_number 40 rfl) rfl ?_
  refine x_if_lt (tgt := 101) (x_d C_T_number 41 rfl) rfl (fun _ => ?_) (fun q => absurd q (by omega))
  refine x_iconst (x_d C_T_number 58 rfl) ⟨by omega, by omega⟩ ?_
  refine x_istore (l1 := [(4, xI (0)), (3, xI (0)), (2, xI (i)), (0, xC 1), (1, xI (i))]) (x_d C_T_number 59 rfl) (by decide) rfl ?_
  refine x_iload_n (x_d C_T_number 60 rfl) rfl ?_
  refine x_iload_n (x_d C_T_number 61 rfl) rfl ?_
  refine x_icmp_le (tgt := 118) (x_d C_T_number 62 rfl) rfl (fun c3 => ?_) (fun c3 => ?_)
  · refine x_iconst (x_d C_T_number 67 rfl) ⟨by omega, by omega⟩ ?_
    refine x_ireturn (x_d C_T_number 68 rfl) ?_
    exact ⟨congrArg (fun z => some (xI z)) (by unfold s_num; split <;> omega), rfl⟩
  · refine x_iload (x_d C_T_number 63 rfl) rfl ?_
    refine x_if_ne (tgt := 118) (x_d C_T_number 64 rfl) rfl (fun q => absurd q (by omega)) (fun _ => ?_)
    refine x_iload_n (x_d C_T_number 65 rfl) rfl ?_
    refine x_goto (tgt := 119) (x_d C_T_number 66 rfl) rfl ?_
    refine x_ireturn (x_d C_T_number 68 rfl) ?_
    exact ⟨congrArg (fun z => some (xI z)) (by unfold s_num; split <;> omega), rfl⟩
theorem c_T_numberA (Z : xZ) (d : Nat) (q : Nat → Int) (r : Nat → Option Nat) (A : Nat → Nat → Int) (dy : xH) (i : Int) (hT : 0 ≤ q 34 ∧ q 34 ≤ q 35 ∧ q 35 ≤ 10248)  (hR : s_okR A)  : xMet Z d Y_T_number [xC 1, xI i] (hF q r A ++ dy) (fun v h2 => v = some (xI (s_num (A 2) (q 35) i)) ∧ h2 = hF q r A ++ dy) := by
  rcases Int.lt_or_le i 0 with h | h
  · exact c_T_numberN Z d q r A dy i hT hR h
  · exact c_T_number Z d q r A dy i hT hR h
