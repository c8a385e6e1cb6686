/-! the reference: what it knows of the entries -/
/-- what the reference knows of the entries, against the spec -/
def RX (t sz N : Int) (x : ost) (fis fge fpl ft : Nat → Int) : Prop := ∀ k : Nat, k < 300 → (fis k = 0 ∨ fis k = 1 ∨ fis k = 2) ∧ (fis k = 0 ↔ x.1 k = 0) ∧ (ft k = 0 ∨ ft k = 1) ∧ (¬ ft k = 0 ↔ x.1 k = t + 1) ∧ (0 ≤ x.1 k ∧ x.1 k ≤ t + 1) ∧ (¬ fis k = 0 → (t = 0 ∨ (k : Int) < sz) → x.2.2.2.1 k = (if fis k = 2 then 1 else 0) ∧ x.2.2.1 k = fge k ∧ x.2.1 k = min (fpl k) N ∧ 0 ≤ fpl k ∧ 0 ≤ fge k ∧ fge k ≤ 99999) ∧ (fis k = 0 → x.2.2.2.1 k = 0 ∧ x.2.2.1 k = 0 ∧ fge k = 0) ∧ (¬ t = 0 → sz ≤ k → x.2.2.2.1 k = 0 ∧ x.2.2.1 k = 0) ∧ (x.1 k = t + 1 → (k : Int) ≤ x.2.2.2.2)
theorem RX_entry {t sz N : Int} {x : ost} {fis fge fpl ft fis2 fge2 fpl2 : Nat → Int} {b : Nat → Int} {n f i : Int} {k : Int} (h : RX t sz N x fis fge fpl ft) (ht : 0 ≤ t) (hN : N = n - f) (hk : 0 ≤ k ∧ k < 300) (he : e_bad b n i = false) (hd : (fis k.toNat = 0 ∧ fis2 = x_up fis k.toNat (if 0 ≤ s_txt b n (i + 16) [32, 110, 32, 10] then 2 else 1) ∧ fpl2 = x_up fpl k.toNat (s_dgs b n i 10) ∧ fge2 = x_up fge k.toNat (s_dgs b n (i + 11) 5)) ∨ (¬ fis k.toNat = 0 ∧ fis2 = fis ∧ fpl2 = fpl ∧ fge2 = fge)) : RX t sz N (e_st b n f t sz i k x) fis2 fge2 fpl2 (x_up ft k.toNat 1) := by
  have hok := e_bad_f.mp he
  have hg := s_dgs_in b n (i + 11) 5 (by omega)
  have hg5 : (10 : Int) ^ (5 : Int).toNat = 100000 := rfl
  intro m hm
  obtain ⟨a1, a2, a3, a4, a5, a6, a7, a8, a9⟩ := h m hm
  have hx1 : (e_st b n f t sz i k x).1 = x_up x.1 k.toNat (t + 1) := by unfold e_st; split <;> rfl
  have hhi : (e_st b n f t sz i k x).2.2.2.2 = max x.2.2.2.2 k := by unfold e_st; split <;> rfl
  rw [hx1, hhi]
  by_cases e : m = k.toNat
  · rw [e, x_up_s, x_up_s]
    rw [e] at a1 a2 a3 a4 a5 a6 a7 a8 a9
    rcases hd with ⟨d1, d2, d3, d4⟩ | ⟨d1, d2, d3, d4⟩
    · have hx0 : x.1 k.toNat = 0 := a2.mp d1
      rw [d2, d3, d4, x_up_s, x_up_s, x_up_s]
      have hfis : (if 0 ≤ s_txt b n (i + 16) [32, 110, 32, 10] then (2 : Int) else 1) = 1 ∨ (if 0 ≤ s_txt b n (i + 16) [32, 110, 32, 10] then (2 : Int) else 1) = 2 := by split; exact Or.inr rfl; exact Or.inl rfl
      refine ⟨Or.inr hfis, ⟨fun z => absurd z (by omega), fun z => absurd z (by omega)⟩, Or.inr rfl, ⟨fun _ => rfl, fun _ => by omega⟩, by omega, fun _ hc => ?_, fun z => absurd z (by omega), fun h0 hs => ?_, fun _ => by omega⟩
      · have hc : x.1 k.toNat = 0 ∧ (t = 0 ∨ k < sz) := ⟨hx0, by omega⟩
        have hes : e_st b n f t sz i k x = (x_up x.1 k.toNat (t + 1), x_up x.2.1 k.toNat (min (s_dgs b n i 10) (n - f)), x_up x.2.2.1 k.toNat (s_dgs b n (i + 11) 5), x_up x.2.2.2.1 k.toNat (if 0 ≤ s_txt b n (i + 16) [32, 110, 32, 10] then 1 else 0), max x.2.2.2.2 k) := by unfold e_st; rw [if_pos hc]
        rw [hes]
        show x_up x.2.2.2.1 k.toNat _ k.toNat = _ ∧ x_up x.2.2.1 k.toNat _ k.toNat = _ ∧ x_up x.2.1 k.toNat _ k.toNat = _ ∧ _
        rw [x_up_s, x_up_s, x_up_s]
        refine ⟨?_, rfl, by rw [hN], hok.1, hok.2.2.1, by omega⟩
        by_cases c : 0 ≤ s_txt b n (i + 16) [32, 110, 32, 10]
        · rw [if_pos c, if_pos c, if_pos rfl]
        · rw [if_neg c, if_neg c, if_neg (by omega)]
      · have hc : ¬ (x.1 k.toNat = 0 ∧ (t = 0 ∨ k < sz)) := by omega
        have hes : e_st b n f t sz i k x = (x_up x.1 k.toNat (t + 1), x.2.1, x.2.2.1, x.2.2.2.1, max x.2.2.2.2 k) := by unfold e_st; rw [if_neg hc]
        rw [hes]
        have := a7 d1
        exact ⟨this.1, this.2.1⟩
    · have hx0 : ¬ x.1 k.toNat = 0 := fun z => d1 (a2.mpr z)
      have hc : ¬ (x.1 k.toNat = 0 ∧ (t = 0 ∨ k < sz)) := fun z => hx0 z.1
      have hes : e_st b n f t sz i k x = (x_up x.1 k.toNat (t + 1), x.2.1, x.2.2.1, x.2.2.2.1, max x.2.2.2.2 k) := by unfold e_st; rw [if_neg hc]
      rw [hes, d2, d3, d4]
      exact ⟨a1, ⟨fun z => absurd z d1, fun z => absurd z (by omega)⟩, Or.inr rfl, ⟨fun _ => rfl, fun _ => by omega⟩, by omega, a6, fun z => absurd z d1, a8, fun _ => by omega⟩
  · rw [x_up_n _ _ e, x_up_n _ _ e]
    have hsame : (e_st b n f t sz i k x).2.1 m = x.2.1 m ∧ (e_st b n f t sz i k x).2.2.1 m = x.2.2.1 m ∧ (e_st b n f t sz i k x).2.2.2.1 m = x.2.2.2.1 m := by
      unfold e_st
      split
      · exact ⟨x_up_n _ _ e, x_up_n _ _ e, x_up_n _ _ e⟩
      · exact ⟨rfl, rfl, rfl⟩
    have hf : fis2 m = fis m ∧ fge2 m = fge m ∧ fpl2 m = fpl m := by
      rcases hd with ⟨d1, d2, d3, d4⟩ | ⟨d1, d2, d3, d4⟩
      · rw [d2, d3, d4]; exact ⟨x_up_n _ _ e, x_up_n _ _ e, x_up_n _ _ e⟩
      · rw [d2, d3, d4]; exact ⟨rfl, rfl, rfl⟩
    rw [hsame.1, hsame.2.1, hsame.2.2, hf.1, hf.2.1, hf.2.2]
    exact ⟨a1, a2, a3, a4, a5, a6, a7, a8, fun z => by have := a9 z; omega⟩
theorem s_entrs_room {b : Nat → Int} {n f t sz : Int} : ∀ {m : Nat} {i k : Int} {x : ost} {y : ost × Int}, s_entrs b n f t sz m i k x = some y → 0 < m → i + 20 * m ≤ n
  | 0, _, _, _, _, _, h0 => absurd h0 (by omega)
  | m + 1, i, k, x, y, h, _ => by
    obtain ⟨z, h1, h2⟩ := Option.bind_eq_some_iff.mp h
    have := e_in h1
    by_cases c : 0 < m
    · have := s_entrs_room h2 c
      omega
    · omega
