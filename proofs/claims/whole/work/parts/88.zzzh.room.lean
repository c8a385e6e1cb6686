/-! room: tables, how many entries -/
/-- the last x before i stands at a -/
def NX (b : Nat → Int) (a i : Int) : Prop := 0 ≤ a ∧ a < i ∧ b a.toNat = 120 ∧ ∀ q : Int, a < q → q < i → ¬ b q.toNat = 120
theorem NX_ext {b : Nat → Int} {a i j : Int} (h : NX b a i) (hij : i ≤ j) (hq : ∀ q : Int, i ≤ q → q < j → ¬ b q.toNat = 120) : NX b a j := ⟨h.1, by have := h.2.1; omega, h.2.2.1, fun q q1 q2 => by
  by_cases c : q < i
  · exact h.2.2.2 q q1 c
  · exact hq q (by omega) q2⟩
theorem NX_uq {b : Nat → Int} {a c i : Int} (h : NX b a i) (h2 : NX b c i) : a = c := by
  by_cases e : a = c
  · exact e
  · exfalso
    by_cases l : a < c
    · exact h.2.2.2 c l h2.2.1 h2.2.2.1
    · exact h2.2.2.2 a (by omega) h.2.1 h.2.2.1
/-- each used number has an entry of its own -/
def TJ (b : Nat → Int) (f n : Int) (pls : List Int) (a i : Int) (x : ost) : Prop := ∃ pos : Nat → Nat, (∀ k, k < 300 → ¬ x.2.2.2.1 k = 0 → 0 ≤ x.2.1 k ∧ ewB b f n (pos k) = true ∧ ((∃ pl, pl ∈ pls ∧ NX b (f + pl) (pos k)) ∨ (NX b a (pos k) ∧ (pos k : Int) < i))) ∧ ∀ j k, j < 300 → k < 300 → ¬ x.2.2.2.1 j = 0 → ¬ x.2.2.2.1 k = 0 → pos j = pos k → j = k
theorem TJ_mono {b : Nat → Int} {f n : Int} {pls : List Int} {a i j : Int} {x : ost} (h : TJ b f n pls a i x) (hij : i ≤ j) : TJ b f n pls a j x := by
  obtain ⟨pos, h1, h2⟩ := h
  refine ⟨pos, fun k k1 k2 => ?_, h2⟩
  obtain ⟨a1, a2, a3⟩ := h1 k k1 k2
  refine ⟨a1, a2, ?_⟩
  rcases a3 with z | ⟨z1, z2⟩
  · exact Or.inl z
  · exact Or.inr ⟨z1, by omega⟩
theorem eok_ew {b : Nat → Int} (hB : ∀ j, -128 ≤ b j ∧ b j ≤ 127) {f n i : Int} (he : e_ok b n i) (hf : 0 ≤ f) (hfi : f < i) (h10 : b (i - 1).toNat = 10) : ewB b f n i.toNat = true := by
  obtain ⟨h1, h2, h3, h4⟩ := he
  have d1 : s_alld b 10 i.toNat = true := by
    unfold s_dgs at h1
    split at h1
    · next z => exact z.2.2
    · omega
  have d2 : s_alld b 5 (i + 11).toNat = true := by
    unfold s_dgs at h3
    split at h3
    · next z => exact z.2.2
    · omega
  have d3 := s_reg_at hB h2 (by omega)
  have key : ∀ c : Int, 0 ≤ s_txt b n (i + 16) [32, c, 32, 10] → i + 20 ≤ n ∧ b (i.toNat + 16) = 32 ∧ b (i.toNat + 17) = c ∧ b (i.toNat + 18) = 32 ∧ b (i.toNat + 19) = 10 := fun c hc => by
    obtain ⟨t1, t2, t3⟩ := s_txt_iff.mp hc
    have s0 := t3 0 (by simp)
    have s1 := t3 1 (by simp)
    have s2 := t3 2 (by simp)
    have s3 := t3 3 (by simp)
    simp only [List.length_cons, List.length_nil] at t2
    rw [show (i + 16).toNat + 0 = i.toNat + 16 by omega] at s0
    rw [show (i + 16).toNat + 1 = i.toNat + 17 by omega] at s1
    rw [show (i + 16).toNat + 2 = i.toNat + 18 by omega] at s2
    rw [show (i + 16).toNat + 3 = i.toNat + 19 by omega] at s3
    exact ⟨by omega, s0, s1, s2, s3⟩
  rw [show (i - 1).toNat = i.toNat - 1 by omega] at h10
  rw [show (i + 11).toNat = i.toNat + 11 by omega] at d2
  rw [show (i + 10).toNat = i.toNat + 10 by omega] at d3
  rcases h4 with h4 | h4
  · obtain ⟨k1, k2, k3, k4, k5⟩ := key _ h4
    exact ewB_iff.mpr ⟨by omega, by omega, h10, d1, d3.1, d2, k2, Or.inl k3, k4, k5⟩
  · obtain ⟨k1, k2, k3, k4, k5⟩ := key _ h4
    exact ewB_iff.mpr ⟨by omega, by omega, h10, d1, d3.1, d2, k2, Or.inr k3, k4, k5⟩
theorem TJ_e {b : Nat → Int} (hB : ∀ j, -128 ≤ b j ∧ b j ≤ 127) {f n : Int} {pls : List Int} {a i k t sz : Int} {x : ost} (hf : 0 ≤ f) (hfn : f ≤ n) (ha : ∀ pl, pl ∈ pls → ¬ f + pl = a) (hnx : NX b a i) (h10 : b (i - 1).toNat = 10) (hfi : f < i) (he : e_ok b n i) (hk : 0 ≤ k ∧ k < 300) (h : TJ b f n pls a i x) : TJ b f n pls a (i + 20) (e_st b n f t sz i k x) ∧ NX b a (i + 20) ∧ b (i + 20 - 1).toNat = 10 := by
  have hew := eok_ew hB he hf hfi h10
  have hch : ∀ q : Int, i ≤ q → q < i + 20 → ¬ b q.toNat = 120 := fun q q1 q2 => by
    have := (ew_char (k := (q - i).toNat) hew (by omega)).1
    rw [show i.toNat + (q - i).toNat = q.toNat by omega] at this
    omega
  refine ⟨?_, NX_ext hnx (by omega) hch, ?_⟩
  · unfold e_st
    split
    · obtain ⟨pos, h1, h2⟩ := h
      have hne : ∀ j, j < 300 → ¬ x.2.2.2.1 j = 0 → ¬ pos j = i.toNat := fun j j1 j2 e => by
        obtain ⟨_, _, a3⟩ := h1 j j1 j2
        rw [e, show ((i.toNat : Nat) : Int) = i by omega] at a3
        rcases a3 with ⟨pl, p1, p2⟩ | ⟨_, z⟩
        · exact ha pl p1 (NX_uq p2 hnx)
        · omega
      refine ⟨x_up pos k.toNat i.toNat, fun j j1 j2 => ?_, fun j l j1 l1 j2 l2 e => ?_⟩
      · by_cases c : j = k.toNat
        · subst c
          rw [x_up_s]
          refine ⟨?_, hew, Or.inr ⟨by rw [show ((i.toNat : Nat) : Int) = i by omega]; exact hnx, by omega⟩⟩
          show 0 ≤ x_up x.2.1 k.toNat (min (s_dgs b n i 10) (n - f)) k.toNat
          rw [x_up_s]
          have := he.1
          omega
        · have j2 : ¬ x_up x.2.2.2.1 k.toNat _ j = 0 := j2
          rw [x_up_n _ _ c] at j2
          obtain ⟨a1, a2, a3⟩ := h1 j j1 j2
          rw [x_up_n _ _ c]
          refine ⟨?_, a2, ?_⟩
          · show 0 ≤ x_up x.2.1 k.toNat _ j
            rw [x_up_n _ _ c]
            exact a1
          · rcases a3 with z | ⟨z1, z2⟩
            · exact Or.inl z
            · exact Or.inr ⟨z1, by omega⟩
      · have j2 : ¬ x_up x.2.2.2.1 k.toNat _ j = 0 := j2
        have l2 : ¬ x_up x.2.2.2.1 k.toNat _ l = 0 := l2
        by_cases c : j = k.toNat
        · by_cases c2 : l = k.toNat
          · omega
          · rw [c, x_up_s, x_up_n _ _ c2] at e
            rw [x_up_n _ _ c2] at l2
            exact absurd e.symm (hne l l1 l2)
        · rw [x_up_n _ _ c] at j2 e
          by_cases c2 : l = k.toNat
          · rw [c2, x_up_s] at e
            exact absurd e (hne j j1 j2)
          · rw [x_up_n _ _ c2] at l2 e
            exact h2 j l j1 l1 j2 l2 e
    · exact TJ_mono (i := i) h (by omega)
  · rw [show (i + 20 - 1).toNat = i.toNat + 19 by omega]
    exact (ewB_iff.mp hew).2.2.2.2.2.2.2.2.2
theorem TJ_es {b : Nat → Int} (hB : ∀ j, -128 ≤ b j ∧ b j ≤ 127) {f n : Int} {pls : List Int} {a t sz : Int} (hf : 0 ≤ f) (hfn : f ≤ n) (ha : ∀ pl, pl ∈ pls → ¬ f + pl = a) : ∀ (m : Nat) (i k : Int) (x y : ost) (j : Int), NX b a i → b (i - 1).toNat = 10 → f < i → 0 ≤ k ∧ (0 < m → k + m ≤ 300) → TJ b f n pls a i x → s_entrs b n f t sz m i k x = some (y, j) → TJ b f n pls a j y ∧ NX b a j ∧ b (j - 1).toNat = 10 ∧ f < j
  | 0, i, k, x, y, j, hnx, h10, hfi, hk, h, he => by
    cases he
    exact ⟨h, hnx, h10, hfi⟩
  | m + 1, i, k, x, y, j, hnx, h10, hfi, hk, h, he => by
    have he : (s_entry b n f t sz i k x).bind (s_entrs b n f t sz m (i + 20) (k + 1)) = some (y, j) := he
    obtain ⟨x2, e1, e2⟩ := Option.bind_eq_some_iff.mp he
    unfold s_entry at e1
    split at e1
    · cases e1
    · next c =>
      cases e1
      have hok : e_ok b n i := e_bad_f.mp (by
        cases z : e_bad b n i with
        | false => rfl
        | true => exact absurd (Or.inl z) c)
      have hkm := hk.2 (by omega)
      obtain ⟨t1, t2, t3⟩ := TJ_e (t := t) (sz := sz) hB hf hfn ha hnx h10 hfi hok (show 0 ≤ k ∧ k < 300 by omega) h
      exact TJ_es hB hf hfn ha m (i + 20) (k + 1) _ y j t2 t3 (by omega) ⟨by omega, fun _ => by omega⟩ t1 e2
theorem num_dg {b : Nat → Int} {n p : Int} (h : 0 ≤ s_num b n p) : 0 ≤ p ∧ p < s_wd b n p ∧ ∀ q : Int, p ≤ q → q < s_wd b n p → 48 ≤ b q.toNat ∧ b q.toNat ≤ 57 := by
  have hn := s_num_in b n p
  refine ⟨by omega, by omega, fun q q1 q2 => ?_⟩
  unfold s_num at h
  split at h
  · next z =>
    have hw : s_wd b n p = s_sc s_reg b n p := by unfold s_wd; rw [if_pos z.2.1]
    have := s_dig_in (s_alld_all b _ _ z.2.2.2 (q - p).toNat (by omega))
    rw [show p.toNat + (q - p).toNat = q.toNat by omega] at this
    exact this
  · omega
theorem TJ_sc {b : Nat → Int} (hB : ∀ j, -128 ≤ b j ∧ b j ≤ 127) {f n : Int} {pls : List Int} {a t sz : Int} (hf : 0 ≤ f) (hfn : f ≤ n) (ha : ∀ pl, pl ∈ pls → ¬ f + pl = a) {i j : Int} {x y : ost} (hnx : NX b a i) (hfi : f < i) (h : TJ b f n pls a i x) (hs : s_sect b n f t sz i x = some (y, j)) : TJ b f n pls a j y ∧ NX b a j ∧ b (j - 1).toNat = 10 ∧ f < j := by
  unfold s_sect at hs
  split at hs
  · cases hs
  · next c =>
    obtain ⟨d1, d2, d3⟩ := num_dg (show 0 ≤ s_num b n i by omega)
    obtain ⟨d4, d5, d6⟩ := num_dg (show 0 ≤ s_num b n (s_abyte b n (s_wd b n i) 32) by omega)
    have a1 := s_abyte_in b n (s_wd b n i) 32
    have a2 := s_abyte_in b n (s_wd b n (s_abyte b n (s_wd b n i) 32)) 10
    have b1 := s_reg_at hB (n := n) (i := s_wd b n i) (c := 32) (by omega) (by omega)
    have b2 := s_reg_at hB (n := n) (i := s_wd b n (s_abyte b n (s_wd b n i) 32)) (c := 10) (by omega) (by omega)
    refine TJ_es hB hf hfn ha _ _ _ x y j (NX_ext hnx (by omega) (fun q q1 q2 => ?_)) ?_ (by omega) ⟨by omega, fun _ => by omega⟩ (TJ_mono h (by omega)) hs
    · by_cases c1 : q < s_wd b n i
      · have := d3 q (by omega) c1; omega
      · by_cases c2 : q = s_wd b n i
        · rw [c2, b1.1]; omega
        · by_cases c3 : q < s_wd b n (s_abyte b n (s_wd b n i) 32)
          · have := d6 q (by omega) c3; omega
          · rw [show q = s_wd b n (s_abyte b n (s_wd b n i) 32) by omega, b2.1]; omega
    · rw [show s_abyte b n (s_wd b n (s_abyte b n (s_wd b n i) 32)) 10 - 1 = s_wd b n (s_abyte b n (s_wd b n i) 32) by omega]
      exact b2.1
theorem TJ_sl {b : Nat → Int} (hB : ∀ j, -128 ≤ b j ∧ b j ≤ 127) {f n : Int} {pls : List Int} {a t sz : Int} (hf : 0 ≤ f) (hfn : f ≤ n) (ha : ∀ pl, pl ∈ pls → ¬ f + pl = a) : ∀ (m : Nat) (i : Int) (x : ost) (z : ost × Int), NX b a i → f < i → TJ b f n pls a i x → s_secl b n f t sz m i x = some z → TJ b f n pls a z.2 z.1 ∧ f < z.2
  | 0, i, x, z, hnx, hfi, h, hs => by
    cases hs
    exact ⟨h, hfi⟩
  | m + 1, i, x, z, hnx, hfi, h, hs => by
    have hs : (if s_dgs b n i 1 < 0 then some (x, i) else (s_sect b n f t sz i x).bind (fun y => s_secl b n f t sz m y.2 y.1)) = some z := hs
    split at hs
    · cases hs
      exact ⟨h, hfi⟩
    · obtain ⟨y, e1, e2⟩ := Option.bind_eq_some_iff.mp hs
      obtain ⟨t1, t2, t3, t4⟩ := TJ_sc hB hf hfn ha (y := y.1) (j := y.2) hnx hfi h e1
      exact TJ_sl hB hf hfn ha m y.2 y.1 z t2 t4 t1 e2
def TI (b : Nat → Int) (f n : Int) (pls : List Int) (x : ost) : Prop := ∃ pos : Nat → Nat, (∀ k, k < 300 → ¬ x.2.2.2.1 k = 0 → 0 ≤ x.2.1 k ∧ ewB b f n (pos k) = true ∧ ∃ pl, pl ∈ pls ∧ NX b (f + pl) (pos k)) ∧ ∀ j k, j < 300 → k < 300 → ¬ x.2.2.2.1 j = 0 → ¬ x.2.2.2.1 k = 0 → pos j = pos k → j = k
theorem TI_tab {b : Nat → Int} (hB : ∀ j, -128 ≤ b j ∧ b j ≤ 127) {f n : Int} {pls : List Int} {t sz nx : Int} (hf : 0 ≤ f) (hfn : f ≤ n) {x : ost} {y : ost × Int} (h : TI b f n pls x) (hs : s_tab b n f t sz nx pls x = some y) : TI b f n (pls ++ [nx]) y.1 ∧ f ≤ y.2 := by
  unfold s_tab at hs
  split at hs
  · cases hs
  · next c =>
    obtain ⟨z, e1, e2⟩ := Option.bind_eq_some_iff.mp hs
    have hp : 0 ≤ s_abyte b n (s_the b n (f + nx) [120, 114, 101, 102]) 10 := (s_sect_in (y := z.1) (j := z.2) e1).2.2.1
    have a1 := s_abyte_in b n (s_the b n (f + nx) [120, 114, 101, 102]) 10
    have b1 := s_reg_at hB (n := n) (i := s_the b n (f + nx) [120, 114, 101, 102]) (c := 10) (by omega) (by omega)
    obtain ⟨g1, g2, g3, g4⟩ := the_get b1.2.1
    simp only [List.length_cons, List.length_nil] at g1
    have x0 := g4 0 (by decide)
    have x1 := g4 1 (by decide)
    have x2 := g4 2 (by decide)
    have x3 := g4 3 (by decide)
    have hnx : NX b (f + nx) (s_abyte b n (s_the b n (f + nx) [120, 114, 101, 102]) 10) := by
      refine ⟨g2, by omega, x0, fun q q1 q2 => ?_⟩
      rcases (show q = f + nx + 1 ∨ q = f + nx + 2 ∨ q = f + nx + 3 ∨ q = s_the b n (f + nx) [120, 114, 101, 102] by omega) with e | e | e | e
      · rw [e, show (f + nx + 1).toNat = (f + nx).toNat + 1 by omega, x1]; decide
      · rw [e, show (f + nx + 2).toNat = (f + nx).toNat + 2 by omega, x2]; decide
      · rw [e, show (f + nx + 3).toNat = (f + nx).toNat + 3 by omega, x3]; decide
      · rw [e, b1.1]; decide
    have ha : ∀ pl, pl ∈ pls → ¬ f + pl = f + nx := fun pl p1 p2 => c (Or.inl (by rw [show nx = pl by omega]; exact p1))
    obtain ⟨pos, h1, h2⟩ := h
    have hJ : TJ b f n pls (f + nx) (s_abyte b n (s_the b n (f + nx) [120, 114, 101, 102]) 10) (s_hi x (-1)) := ⟨pos, fun k k1 k2 => by
      obtain ⟨p1, p2, p3⟩ := h1 k k1 k2
      exact ⟨p1, p2, Or.inl p3⟩, h2⟩
    obtain ⟨t1, t2, t3, t4⟩ := TJ_sc hB hf hfn ha (y := z.1) (j := z.2) hnx (by omega) hJ e1
    unfold s_tl at e2
    obtain ⟨v, e3, e4⟩ := Option.bind_eq_some_iff.mp e2
    obtain ⟨t5, t6⟩ := TJ_sl hB hf hfn ha 4000 z.2 z.1 v t2 t4 t1 e3
    split at e4
    · cases e4
    · next c2 =>
      cases e4
      have hth := s_the_in b n v.2 [116, 114, 97, 105, 108, 101, 114]
      simp only [List.length_cons, List.length_nil] at hth
      refine ⟨?_, by show f ≤ s_the b n v.2 [116, 114, 97, 105, 108, 101, 114]; omega⟩
      obtain ⟨pos2, h3, h4⟩ := t5
      refine ⟨pos2, fun k k1 k2 => ?_, h4⟩
      obtain ⟨p1, p2, p3⟩ := h3 k k1 k2
      refine ⟨p1, p2, ?_⟩
      rcases p3 with ⟨pl, z1, z2⟩ | ⟨z1, _⟩
      · exact ⟨pl, List.mem_append_left _ z1, z2⟩
      · exact ⟨nx, List.mem_append_right _ (List.mem_singleton.mpr rfl), z1⟩
theorem ew_dj {b : Nat → Int} {f n : Int} {x y : Nat} (hx : ewB b f n x = true) (hy : ewB b f n y = true) (h : x < y) : x + 20 ≤ y := by
  by_cases c : x + 20 ≤ y
  · exact c
  · exfalso
    have := (ew_char (k := y - 1 - x) hx (by omega)).2.1
    rw [show x + (y - 1 - x) = y - 1 by omega] at this
    have := this (ewB_iff.mp hy).2.2.1
    omega
theorem cU_le {u1 u2 : Nat → Int} : ∀ (m s : Nat), (∀ j, s ≤ j → ¬ u1 j = 0 → ¬ u2 j = 0) → cU u1 m s ≤ cU u2 m s
  | 0, s, _ => Nat.le_refl _
  | m + 1, s, h => by
    have ih := cU_le m (s + 1) (fun j h1 h2 => h j (by omega) h2)
    have h0 := h s (Nat.le_refl s)
    show (if u1 s = 0 then 0 else 1) + cU u1 m (s + 1) ≤ (if u2 s = 0 then 0 else 1) + cU u2 m (s + 1)
    by_cases c : u1 s = 0
    · rw [if_pos c]; omega
    · rw [if_neg c, if_neg (h0 c)]; omega
theorem cU_leb {u1 u2 : Nat → Int} : ∀ (m s : Nat), (∀ j, s ≤ j → j < s + m → ¬ u1 j = 0 → ¬ u2 j = 0) → cU u1 m s ≤ cU u2 m s
  | 0, s, _ => Nat.le_refl _
  | m + 1, s, h => by
    have ih := cU_leb m (s + 1) (fun j h1 h2 h3 => h j (by omega) (by omega) h3)
    have h0 := h s (Nat.le_refl s) (by omega)
    show (if u1 s = 0 then 0 else 1) + cU u1 m (s + 1) ≤ (if u2 s = 0 then 0 else 1) + cU u2 m (s + 1)
    by_cases c : u1 s = 0
    · rw [if_pos c]; omega
    · rw [if_neg c, if_neg (h0 c)]; omega
theorem cU_le1 {u1 u2 : Nat → Int} {k : Nat} : ∀ (m s : Nat), (∀ j, j < s + m → ¬ u1 j = 0 → ¬ u2 j = 0 ∨ j = k) → cU u1 m s ≤ cU u2 m s + 1
  | 0, s, _ => Nat.zero_le _
  | m + 1, s, h => by
    show (if u1 s = 0 then 0 else 1) + cU u1 m (s + 1) ≤ (if u2 s = 0 then 0 else 1) + cU u2 m (s + 1) + 1
    by_cases e : s = k
    · have ih : cU u1 m (s + 1) ≤ cU u2 m (s + 1) := cU_leb m (s + 1) (fun j h1 h2 h3 => by
        rcases h j (by omega) h3 with z | z
        · exact z
        · omega)
      split <;> split <;> omega
    · have ih := cU_le1 m (s + 1) (fun j h1 h2 => h j (by omega) h2)
      by_cases c : u1 s = 0
      · rw [if_pos c]; omega
      · rcases h s (by omega) c with z | z
        · rw [if_neg c, if_neg z]; omega
        · exact absurd z e
/-- entries that are told take their bytes -/
theorem cnt_w {b : Nat → Int} {f n : Int} {us : Nat → Int} {pos : Nat → Nat} {m : Nat} (h1 : ∀ k, k < m → ¬ us k = 0 → ewB b f n (pos k) = true) (h2 : ∀ j k, j < m → k < m → ¬ us j = 0 → ¬ us k = 0 → pos j = pos k → j = k) : ∀ (M : Nat), 20 * (cU (fun k => if us k = 0 then 0 else if pos k + 20 ≤ M then 1 else 0) m 0 : Int) ≤ wS b f n 0 1 M := by
  intro M
  induction M using Nat.strongRecOn with
  | ind M ih =>
    by_cases c : ∃ k, k < m ∧ ¬ us k = 0 ∧ pos k + 20 = M
    · obtain ⟨k, k1, k2, k3⟩ := c
      have i1 := ih (M - 20) (by omega)
      have hw : wS b f n 0 1 ((M : Nat) : Int) = wS b f n 0 1 ((M - 20 : Nat) : Int) + 20 := by
        have : ∀ L : Nat, L ≤ 20 → wS b f n 0 1 (((M - 20 : Nat) : Int) + L) = wS b f n 0 1 ((M - 20 : Nat) : Int) + L := fun L => by
          induction L with
          | zero => intro _; rw [Int.natCast_zero, Int.add_zero, Int.add_zero]
          | succ L ihL =>
            intro hL
            have e := wS_s (b := b) (f := f) (N := n) (A := 0) (w := 1) (p := ((M - 20 : Nat) : Int) + L) (by omega)
            rw [if_pos (wB_iff.mpr ⟨pos k, by omega, by omega, h1 k k1 k2⟩), ihL (by omega)] at e
            rw [show ((M - 20 : Nat) : Int) + ((L + 1 : Nat) : Int) = ((M - 20 : Nat) : Int) + L + 1 by omega, e]
            omega
        have := this 20 (by omega)
        rw [show ((M - 20 : Nat) : Int) + ((20 : Nat) : Int) = (M : Int) by omega] at this
        exact this
      have hc := cU_le1 (u1 := fun k => if us k = 0 then 0 else if pos k + 20 ≤ M then 1 else 0) (u2 := fun k => if us k = 0 then 0 else if pos k + 20 ≤ M - 20 then 1 else 0) (k := k) m 0 (fun j j1 j2 => by
        by_cases d1 : us j = 0
        · exact absurd (if_pos d1) j2
        · rw [if_neg d1] at j2 ⊢
          by_cases d2 : pos j + 20 ≤ M - 20
          · left; rw [if_pos d2]; decide
          · right
            by_cases d3 : pos j + 20 ≤ M
            · refine h2 j k (by omega) k1 d1 k2 ?_
              by_cases d4 : pos j < pos k
              · have := ew_dj (h1 j (by omega) d1) (h1 k k1 k2) d4
                omega
              · omega
            · exact absurd (if_neg d3) j2)
      omega
    · cases M with
      | zero =>
        have hc := cU_leb (u1 := fun k => if us k = 0 then 0 else if pos k + 20 ≤ 0 then 1 else 0) (u2 := fun _ => 0) m 0 (fun j j0 j1 j2 => by
          exfalso
          apply j2
          split
          · rfl
          · rw [if_neg (by omega)])
        have h0 : ∀ (m s : Nat), cU (fun _ => (0 : Int)) m s = 0 := fun m => by
          induction m with
          | zero => intro s; rfl
          | succ m ihm => intro s; show (if (0 : Int) = 0 then 0 else 1) + cU (fun _ => (0 : Int)) m (s + 1) = 0; rw [ihm, if_pos rfl]
        rw [h0] at hc
        have : wS b f n 0 1 ((0 : Nat) : Int) = 0 := rfl
        omega
      | succ M =>
        have i1 := ih M (by omega)
        have hc := cU_leb (u1 := fun k => if us k = 0 then 0 else if pos k + 20 ≤ M + 1 then 1 else 0) (u2 := fun k => if us k = 0 then 0 else if pos k + 20 ≤ M then 1 else 0) m 0 (fun j j0 j1 j2 => by
          by_cases d1 : us j = 0
          · exact absurd (if_pos d1) j2
          · rw [if_neg d1] at j2 ⊢
            by_cases d3 : pos j + 20 ≤ M + 1
            · have : ¬ pos j + 20 = M + 1 := fun e => c ⟨j, by omega, d1, e⟩
              rw [if_pos (by omega)]
              decide
            · exact absurd (if_neg d3) j2)
        have e := wS_s (b := b) (f := f) (N := n) (A := 0) (w := 1) (p := (M : Int)) (by omega)
        rw [show (M : Int) + 1 = ((M + 1 : Nat) : Int) by omega] at e
        have : (0 : Int) ≤ (if wB b f n (M : Int).toNat = true then ((1 : Nat) : Int) else ((0 : Nat) : Int)) := by split <;> omega
        omega
theorem wS_lin {b : Nat → Int} {f n : Int} {A w : Nat} (hw : w ≤ A) : ∀ (p : Nat), wS b f n A w p + ((A - w : Nat) : Int) * wS b f n 0 1 p = A * p
  | 0 => by
    show (0 : Int) + _ * 0 = A * 0
    rw [Int.mul_zero, Int.mul_zero, Int.add_zero]
  | p + 1 => by
    have ih := wS_lin hw (b := b) (f := f) (n := n) p
    have e1 := wS_s (b := b) (f := f) (N := n) (A := A) (w := w) (p := (p : Int)) (by omega)
    have e2 := wS_s (b := b) (f := f) (N := n) (A := 0) (w := 1) (p := (p : Int)) (by omega)
    rw [show ((p + 1 : Nat) : Int) = (p : Int) + 1 by omega, e1, e2, Int.mul_add, Int.mul_add, Int.mul_one]
    by_cases c : wB b f n (p : Int).toNat = true
    · rw [if_pos c, if_pos c]
      have : ((A - w : Nat) : Int) * ((1 : Nat) : Int) = (A : Int) - w := by rw [Int.natCast_one, Int.mul_one]; omega
      omega
    · rw [if_neg c, if_neg c]
      have : ((A - w : Nat) : Int) * ((0 : Nat) : Int) = 0 := by rw [Int.natCast_zero, Int.mul_zero]
      omega
theorem wS_f0 {b : Nat → Int} {f n : Int} : ∀ (p : Nat), (p : Int) ≤ f → wS b f n 0 1 p = 0
  | 0, _ => rfl
  | p + 1, h => by
    have ih := wS_f0 (b := b) (f := f) (n := n) p (by omega)
    have e2 := wS_s (b := b) (f := f) (N := n) (A := 0) (w := 1) (p := (p : Int)) (by omega)
    rw [if_neg (by
      rw [show wB b f n (p : Int).toNat = false from wB_f (fun x x1 x2 x3 => by have := (ewB_iff.mp x3).1; omega)]
      decide)] at e2
    rw [show ((p + 1 : Nat) : Int) = (p : Int) + 1 by omega, e2, ih]
    rfl
theorem TI_w {b : Nat → Int} {f n : Int} {A w : Nat} (hw : w ≤ A) (hf : 0 ≤ f) (hfn : f ≤ n) {pls : List Int} {x : ost} (h : TI b f n pls x) {m : Nat} (hm : m ≤ 300) : wT b f n A w + ((A - w : Nat) : Int) * (20 * (cU x.2.2.2.1 m 0 : Int)) ≤ A * (n - f) := by
  obtain ⟨pos, h1, h2⟩ := h
  have hc := cnt_w (b := b) (f := f) (n := n) (us := x.2.2.2.1) (pos := pos) (m := m) (fun k k1 k2 => (h1 k (by omega) k2).2.1) (fun j k j1 k1 => h2 j k (by omega) (by omega)) n.toNat
  have hc2 := cU_leb (u1 := x.2.2.2.1) (u2 := fun k => if x.2.2.2.1 k = 0 then 0 else if pos k + 20 ≤ n.toNat then 1 else 0) m 0 (fun j _ j1 j2 => by
    rw [if_neg j2, if_pos (by have := (ewB_iff.mp (h1 j (by omega) j2).2.1).2.1; omega)]
    decide)
  have l1 := wS_lin (b := b) (f := f) (n := n) hw n.toNat
  have l2 := wS_lin (b := b) (f := f) (n := n) hw f.toNat
  have l3 := wS_f0 (b := b) (n := n) (f := f) f.toNat (by omega)
  rw [l3, Int.mul_zero, Int.add_zero] at l2
  rw [show ((n.toNat : Nat) : Int) = n by omega] at l1 hc
  rw [show ((f.toNat : Nat) : Int) = f by omega] at l2
  have hmu : ((A - w : Nat) : Int) * (20 * (cU x.2.2.2.1 m 0 : Int)) ≤ ((A - w : Nat) : Int) * wS b f n 0 1 n := Int.mul_le_mul_of_nonneg_left (by omega) (by omega)
  unfold wT
  rw [Int.mul_sub]
  omega
