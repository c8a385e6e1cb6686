/-! the reference: what trees answer -/
/-- the cells of g stand in h -/
def gh (g : Nat → Option xE) (h : xH) : Prop := ∀ c e, g c = some e → h[c]? = some e
theorem gh_of {g : Nat → Option xE} {dy : xH} (hg : gok g dy) (q : Nat → Int) (r : Nat → Option Nat) (A : Nat → Nat → Int) : gh g (hF q r A ++ dy) := fun c e z => ct_get (hg c e z) q r A
theorem s_match_iff (b : Nat → Int) : ∀ (cs : List Int) (i : Nat), s_match b cs i = true ↔ ∀ k, k < cs.length → b (i + k) = cs.getD k 0
  | [], i => ⟨fun _ k h => absurd h (Nat.not_lt_zero _), fun _ => rfl⟩
  | c :: cs, i => by
    show (decide (b i = c) && s_match b cs (i + 1)) = true ↔ _
    rw [Bool.and_eq_true, decide_eq_true_eq, s_match_iff b cs (i + 1)]
    constructor
    · rintro ⟨h1, h2⟩ k hk
      cases k with
      | zero => exact h1
      | succ k => have := h2 k (by rw [List.length_cons] at hk; omega); rw [show i + 1 + k = i + (k + 1) by omega] at this; exact this
    · intro h
      refine ⟨h 0 (by rw [List.length_cons]; omega), fun k hk => ?_⟩
      have := h (k + 1) (by rw [List.length_cons]; omega)
      rw [show i + 1 + k = i + (k + 1) by omega]
      exact this
theorem s_txt_iff {b : Nat → Int} {n i : Int} {cs : List Int} : 0 ≤ s_txt b n i cs ↔ (0 ≤ i ∧ i + cs.length ≤ n ∧ ∀ k, k < cs.length → b (i.toNat + k) = cs.getD k 0) := by
  unfold s_txt
  constructor
  · intro h
    split at h
    · next z => exact ⟨z.1, z.2.1, (s_match_iff b cs _).mp z.2.2⟩
    · omega
  · rintro ⟨h1, h2, h3⟩
    rw [if_pos ⟨h1, h2, (s_match_iff b cs _).mpr h3⟩]
    omega
theorem nmw_the {X : Nat → Int} {E u n : Int} {len : Nat} {fb : Nat → Int} {cs : List Int} (h : nmw X E u len fb) (hn : E ≤ n) (hr : ∀ c, c ∈ cs → s_reg c = true) : (decide ((len : Int) = cs.length) && s_eqf fb (fun i => cs.getD i 0) 0 cs.length) = decide (0 ≤ s_the X n u cs) := by
  have hw := nmw_wd h hn
  obtain ⟨h1, h2, h3, h4, h5, h6⟩ := h
  have hsc : s_sc s_reg X n u = u + len := by
    unfold s_wd at hw
    split at hw
    · exact hw
    · omega
  have hiff := s_the_word (b := X) (n := n) (p := u) (cs := cs) h1 hr
  rw [hsc, show u + (len : Int) - u = len by omega, s_txt_iff] at hiff
  rw [Bool.eq_iff_iff, Bool.and_eq_true, decide_eq_true_eq, decide_eq_true_eq, s_eqf_iff, ← hiff]
  constructor
  · rintro ⟨e, z⟩
    exact ⟨e, h1, by omega, fun k hk => by rw [← (h5 k (by omega)).1]; have := z k hk; rw [Nat.zero_add] at this; exact this⟩
  · rintro ⟨e, -, -, z⟩
    exact ⟨e, fun k hk => by rw [(h5 k (by omega)).1, Nat.zero_add]; exact z k hk⟩
theorem nmw_tiw {X : Nat → Int} {E u f m : Int} {len : Nat} {fb ft : Nat → Int} (h : nmw X E u len fb) (hE : E ≤ f + m) (hf : 0 ≤ f) (hm : 0 ≤ m) (ht : ∀ k : Nat, (k : Int) < m → ft k = X (f.toNat + k)) : (decide ((len : Int) = m) && s_eqf fb ft (0 : Int).toNat m.toNat) = s_tiw X f (f + m) u := by
  unfold s_tiw
  by_cases c : s_wd X (f + m) f = f + m
  · by_cases c0 : m = 0
    · rw [decide_eq_false (show ¬ (0 < f + m - f ∧ s_wd X (f + m) f = f + m) by omega), Bool.false_and]
      obtain ⟨h1, h2, -⟩ := h
      rw [decide_eq_false (by omega), Bool.false_and]
    · rw [decide_eq_true (show 0 < f + m - f ∧ s_wd X (f + m) f = f + m from ⟨by omega, c⟩), Bool.true_and]
      have h9 : nmw X (f + m) u len fb := by
        obtain ⟨h1, h2, h3, h4, h5, h6⟩ := h
        exact ⟨h1, h2, h3, by omega, h5, h6⟩
      exact nmw_same h9 hf hm c ht
  · rw [decide_eq_false (show ¬ (0 < f + m - f ∧ s_wd X (f + m) f = f + m) from fun z => c z.2), Bool.false_and]
    obtain ⟨h1, h2, h3, h4, h5, h6⟩ := h
    cases e : (decide ((len : Int) = m) && s_eqf fb ft (0 : Int).toNat m.toNat) with
    | false => rfl
    | true =>
      exfalso
      rw [Bool.and_eq_true, decide_eq_true_eq, s_eqf_iff] at e
      obtain ⟨e1, e2⟩ := e
      apply c
      have hall : ∀ k : Nat, (k : Int) < m → s_reg (X (f.toNat + k)) = true := fun k hk => by
        have z1 := e2 k (by omega)
        rw [show (0 : Int).toNat + k = k by omega] at z1
        rw [← ht k hk, ← z1, (h5 k (by omega)).1]
        exact (h5 k (by omega)).2
      have key : ∀ (k : Nat) (t : Int), f ≤ t → t + k = f + m → s_sc s_reg X (f + m) t = f + m := by
        intro k
        induction k with
        | zero => intro t h8 h9; rw [s_sc_stop (Or.inr (Or.inl (by omega)))]; omega
        | succ k ih =>
          intro t h8 h9
          have := hall (t - f).toNat (by omega)
          rw [show f.toNat + (t - f).toNat = t.toNat by omega] at this
          rw [s_sc_step (by omega) (by omega) this]
          exact ih (t + 1) (by omega) (by omega)
      have hs := key m.toNat f (by omega) (by omega)
      unfold s_wd
      rw [hs, if_pos (by omega)]
/-- the first of a list, by its place -/
theorem s_first_idx {M : Nat → Bool} {F : Int → Bool} : ∀ (L : List Int) (k : Nat), (∀ j, j < L.length → M (k + j) = F (L.getD j 0)) → (s_idx M L.length k = none ∧ s_first F L = -1) ∨ ∃ i, s_idx M L.length k = some (k + i) ∧ i < L.length ∧ s_first F L = L.getD i 0
  | [], k, _ => Or.inl ⟨rfl, rfl⟩
  | x :: L, k, h => by
    have h0 := h 0 (by rw [List.length_cons]; omega)
    rw [Nat.add_zero] at h0
    have h0 : M k = F x := h0
    show ((if M k = true then some k else s_idx M L.length (k + 1)) = none ∧ (if F x = true then x else s_first F L) = -1) ∨ ∃ i, (if M k = true then some k else s_idx M L.length (k + 1)) = some (k + i) ∧ i < (x :: L).length ∧ (if F x = true then x else s_first F L) = (x :: L).getD i 0
    by_cases c : F x = true
    · right
      refine ⟨0, by rw [h0, if_pos c]; rfl, by rw [List.length_cons]; omega, by rw [if_pos c]; rfl⟩
    · rw [h0, if_neg c, if_neg c]
      rcases s_first_idx (M := M) (F := F) L (k + 1) (fun j hj => by have := h (j + 1) (by rw [List.length_cons]; omega); rw [show k + 1 + j = k + (j + 1) by omega]; exact this) with z | ⟨i, z1, z2, z3⟩
      · exact Or.inl z
      · right
        refine ⟨i + 1, by rw [z1]; congr 1; omega, by rw [List.length_cons]; omega, z3⟩
theorem s_first_none {F : Int → Bool} : ∀ (L : List Int), (∀ x, x ∈ L → F x = false) → s_first F L = -1
  | [], _ => rfl
  | x :: L, h => by
    show (if F x = true then x else s_first F L) = -1
    rw [h x List.mem_cons_self, if_neg (by decide)]
    exact s_first_none L (fun y hy => h y (List.mem_cons_of_mem _ hy))
/-- what a tree is, opened -/
theorem Tr_o {X : Nat → Int} {E : Int} {g : Nat → Option xE} {P : Nat → Nat → Int} {D : Nat} {p : Int} {c : Nat} (h : Tr X E g P (D + 1) p c) : 0 ≤ p ∧ ∃ (x y m : Int) (bt it nm : Option Nat), g c = some (xB 12 [xI (P 5 p.toNat), xI x, xI y, xI m, xO bt, xO it, xO nm]) ∧ tL X E g P p.toNat x y bt ∧ m = (s_in (P 8) p).length ∧ (s_in (P 8) p).length ≤ 60 ∧ s_ch (P 8) (p + 1) (s_in (P 8) p) (s_bh (P 8) p) ∧ tK X E g P (Tr X E g P D) p m it nm := by
  obtain ⟨h0, x, y, m, bt, it, nm, h1, h2, h3⟩ := h
  have h4 := h3
  obtain ⟨L, a1, a2, a3, -⟩ := h4
  have e : s_in (P 8) p = L := s_ch_K a1
  exact ⟨h0, x, y, m, bt, it, nm, h1, h2, by rw [e]; exact a2, by rw [e]; exact a3, by rw [e]; exact a1, h3⟩
/-- names of a tree: as functions -/
theorem tK_names {X : Nat → Int} {E : Int} {g : Nat → Option xE} {P : Nat → Nat → Int} {T : Int → Nat → Prop} {p m : Int} {it nm : Option Nat} (h : tK X E g P T p m it nm) (hk : P 5 p.toNat = 7 ∨ P 5 p.toNat = 9) : ∃ (ci cn cap cap2 : Nat) (fi fn : Nat → Option Nat) (nb nl : Nat → Nat) (nf : Nat → Nat → Int), it = some ci ∧ nm = some cn ∧ g ci = some (xQ 4 cap fi) ∧ g cn = some (xQ 5 cap2 fn) ∧ m = (s_in (P 8) p).length ∧ (s_in (P 8) p).length ≤ cap ∧ (s_in (P 8) p).length ≤ cap2 ∧ cap ≤ 300 ∧ cap2 ≤ 300 ∧ (∀ k, k < (s_in (P 8) p).length → ∃ c, fi k = some c ∧ T ((s_in (P 8) p).getD k 0) c) ∧ (∀ k, k < (s_in (P 8) p).length → fn k = some (nb k) ∧ g (nb k) = some (xA 1 (nl k) (nf k)) ∧ nmw X E (P 9 ((s_in (P 8) p).getD k 0).toNat) (nl k) (nf k)) := by
  obtain ⟨L, a1, a2, a3, a4, a5, -⟩ := h
  have e : s_in (P 8) p = L := s_ch_K a1
  rw [e]
  obtain ⟨ci, cap, fi, b1, b2, b3, b4, b5⟩ := a4 (by clear a4 a5; omega)
  obtain ⟨cn, cap2, fn, c1, c2, c3, c4, c5⟩ := a5 hk
  have hc : ∀ k : Nat, ∃ y : Nat × Nat × (Nat → Int), k < L.length → fn k = some y.1 ∧ g y.1 = some (xA 1 y.2.1 y.2.2) ∧ nmw X E (P 9 (L.getD k 0).toNat) y.2.1 y.2.2 := fun k => by
    by_cases hk : k < L.length
    · obtain ⟨cb, len, fb, z2, z3, z4⟩ := c5 k hk
      exact ⟨(cb, len, fb), fun _ => ⟨z2, z3, z4⟩⟩
    · exact ⟨(0, 0, fun _ => 0), fun z => absurd z hk⟩
  obtain ⟨F, hF1⟩ := Classical.axiomOfChoice hc
  exact ⟨ci, cn, cap, cap2, fi, fn, fun k => (F k).1, fun k => (F k).2.1, fun k => (F k).2.2, b1, c1, b2, c2, a2, b3, c3, b4, c4, b5, hF1⟩
theorem tK_none {X : Nat → Int} {E : Int} {g : Nat → Option xE} {P : Nat → Nat → Int} {T : Int → Nat → Prop} {p m : Int} {it nm : Option Nat} (h : tK X E g P T p m it nm) (hk : ¬ (P 5 p.toNat = 7 ∨ P 5 p.toNat = 9)) : nm = none ∧ ∀ x, x ∈ s_in (P 8) p → P 9 x.toNat = -1 := by
  obtain ⟨L, a1, a2, a3, a4, a5, a6, a7, a8⟩ := h
  have e : s_in (P 8) p = L := s_ch_K a1
  rw [e]
  refine ⟨a7 hk, ?_⟩
  by_cases c : P 5 p.toNat = 6
  · exact a6 c
  · rw [(a8 (by clear a4 a5 a6 a7 a8; omega)).1]
    intro x hx
    cases hx
theorem t_get2 (Z : xZ) (d : Nat) (h : xH) (X : Nat → Int) (E : Int) (g : Nat → Option xE) (P : Nat → Nat → Int) (D : Nat) (p : Int) (c : Nat) (hg : gh g h) (ht : Tr X E g P (D + 1) p c) (hd : 4 ≤ d) {si : Nat} {sc : String × Nat × String × List Int} (hs : x_strs[si]? = some sc) (hr : ∀ c, c ∈ sc.2.2.2 → s_reg c = true) (hsl : (sc.2.2.2.length : Int) ≤ 1000) (n : Int) (hn : E ≤ n) : xMet Z d Y_MQ_get2 [xC c, xS (2 * si + 1)] h (fun v h2 => h2 = h ∧ ∃ x, v = some (xO x) ∧ ((s_first (fun t => decide (0 ≤ s_the X n (P 9 t.toNat) sc.2.2.2)) (s_in (P 8) p) = -1 ∧ x = none) ∨ (0 ≤ s_first (fun t => decide (0 ≤ s_the X n (P 9 t.toNat) sc.2.2.2)) (s_in (P 8) p) ∧ s_first (fun t => decide (0 ≤ s_the X n (P 9 t.toNat) sc.2.2.2)) (s_in (P 8) p) ∈ s_in (P 8) p ∧ ∃ c2, x = some c2 ∧ Tr X E g P D (s_first (fun t => decide (0 ≤ s_the X n (P 9 t.toNat) sc.2.2.2)) (s_in (P 8) p)) c2))) := by
  obtain ⟨h0, x, y, m, bt, it, nm, h1, h2, h3, h4, h5, h6⟩ := Tr_o ht
  by_cases hk : P 5 p.toNat = 7 ∨ P 5 p.toNat = 9
  · obtain ⟨ci, cn, cap, cap2, fi, fn, nb, nl, nf, rfl, rfl, b3, b4, b5, b6, b7, b8, b9, b10, b11⟩ := tK_names h6 hk
    refine xMet_post ?_ (c_MQ_get2 Z d h hd c ci cn cap cap2 _ x y m bt fi fn nb nl nf (hg _ _ h1) (hg _ _ b3) (hg _ _ b4) (by omega) (fun k hk2 => ⟨(b11 k (by omega)).1, hg _ _ (b11 k (by omega)).2.1, by have := (b11 k (by omega)).2.2.2.2.1; omega⟩) hs hsl)
    rintro v h2 ⟨rfl, rfl⟩
    refine ⟨rfl, _, rfl, ?_⟩
    rw [show m.toNat = (s_in (P 8) p).length by omega]
    rcases s_first_idx (M := (fun k => decide ((nl k : Int) = (sc.2.2.2.length : Int)) && s_eqf (nf k) (fun i => sc.2.2.2.getD i 0) 0 sc.2.2.2.length)) (F := (fun t => decide (0 ≤ s_the X n (P 9 t.toNat) sc.2.2.2))) (s_in (P 8) p) 0 (fun k hk2 => by rw [Nat.zero_add]; exact nmw_the (b11 k hk2).2.2 hn hr) with ⟨z1, z2⟩ | ⟨i, z1, z2, z3⟩
    · rw [z1]
      exact Or.inl ⟨z2, rfl⟩
    · rw [Nat.zero_add] at z1
      rw [z1, z3]
      obtain ⟨c2, c3, c4⟩ := b10 i z2
      have hm := s_getD_mem z2
      exact Or.inr ⟨(by have := s_ch_lt h5 _ hm; omega), hm, c2, c3, c4⟩
  · obtain ⟨rfl, hall⟩ := tK_none h6 hk
    refine xMet_post ?_ (c_MQ_get2N Z d h c _ x y m bt it si (hg _ _ h1))
    rintro v h2 ⟨rfl, rfl⟩
    refine ⟨rfl, none, rfl, Or.inl ⟨s_first_none _ (fun z hz => ?_), rfl⟩⟩
    rw [hall z hz]
    exact decide_eq_false (fun z2 => by have := s_the_in X n (-1) sc.2.2.2; omega)
theorem t_get1 (Z : xZ) (d : Nat) (h : xH) (X : Nat → Int) (E : Int) (g : Nat → Option xE) (P : Nat → Nat → Int) (D : Nat) (p : Int) (c : Nat) (hg : gh g h) (ht : Tr X E g P (D + 1) p c) (hd : 1 ≤ d) (bb nbb : Nat) (fb : Nat → Int) (f n : Int) (hbb : h[bb]? = some (xA 1 nbb fb)) (hn : 0 ≤ n ∧ n ≤ nbb ∧ (nbb : Int) ≤ 100000) (hf : 0 ≤ f) (hE : E ≤ f + n) (hX : ∀ k : Nat, (k : Int) < n → fb k = X (f.toNat + k)) : xMet Z d Y_MQ_get1 [xC c, xC bb, xI 0, xI n] h (fun v h2 => h2 = h ∧ ∃ x, v = some (xO x) ∧ ((s_first (fun t => s_tiw X f (f + n) (P 9 t.toNat)) (s_in (P 8) p) = -1 ∧ x = none) ∨ (0 ≤ s_first (fun t => s_tiw X f (f + n) (P 9 t.toNat)) (s_in (P 8) p) ∧ s_first (fun t => s_tiw X f (f + n) (P 9 t.toNat)) (s_in (P 8) p) ∈ s_in (P 8) p ∧ ∃ c2, x = some c2 ∧ Tr X E g P D (s_first (fun t => s_tiw X f (f + n) (P 9 t.toNat)) (s_in (P 8) p)) c2))) := by
  obtain ⟨h0, x, y, m, bt, it, nm, h1, h2, h3, h4, h5, h6⟩ := Tr_o ht
  by_cases hk : P 5 p.toNat = 7 ∨ P 5 p.toNat = 9
  · obtain ⟨ci, cn, cap, cap2, fi, fn, nb, nl, nf, rfl, rfl, b3, b4, b5, b6, b7, b8, b9, b10, b11⟩ := tK_names h6 hk
    refine xMet_post ?_ (c_MQ_get1 Z d h hd c ci cn cap cap2 _ x y m bt fi fn nb nl nf (hg _ _ h1) (hg _ _ b3) (hg _ _ b4) (by omega) (fun k hk2 => ⟨(b11 k (by omega)).1, hg _ _ (b11 k (by omega)).2.1, by have := (b11 k (by omega)).2.2.2.2.1; omega⟩) bb nbb fb 0 n hbb (by omega))
    rintro v h2 ⟨rfl, rfl⟩
    refine ⟨rfl, _, rfl, ?_⟩
    rw [show m.toNat = (s_in (P 8) p).length by omega]
    rcases s_first_idx (M := (fun k => decide ((nl k : Int) = n) && s_eqf (nf k) fb (0 : Int).toNat n.toNat)) (F := (fun t => s_tiw X f (f + n) (P 9 t.toNat))) (s_in (P 8) p) 0 (fun k hk2 => by rw [Nat.zero_add]; exact nmw_tiw (b11 k hk2).2.2 hE hf hn.1 hX) with ⟨z1, z2⟩ | ⟨i, z1, z2, z3⟩
    · rw [z1]
      exact Or.inl ⟨z2, rfl⟩
    · rw [Nat.zero_add] at z1
      rw [z1, z3]
      obtain ⟨c2, c3, c4⟩ := b10 i z2
      have hm := s_getD_mem z2
      exact Or.inr ⟨(by have := s_ch_lt h5 _ hm; omega), hm, c2, c3, c4⟩
  · obtain ⟨rfl, hall⟩ := tK_none h6 hk
    refine xMet_post ?_ (c_MQ_get1N Z d h c _ x y m bt it bb 0 n (hg _ _ h1))
    rintro v h2 ⟨rfl, rfl⟩
    refine ⟨rfl, none, rfl, Or.inl ⟨s_first_none _ (fun z hz => ?_), rfl⟩⟩
    rw [hall z hz]
    unfold s_tiw s_same
    rw [decide_eq_false (show ¬ (0 ≤ (-1 : Int) ∧ _) from fun z2 => by have := z2.1; omega), Bool.false_and, Bool.and_false]
theorem t_isName (Z : xZ) (d : Nat) (h : xH) (X : Nat → Int) (E : Int) (g : Nat → Option xE) (P : Nat → Nat → Int) (D : Nat) (p : Int) (c : Nat) (hg : gh g h) (ht : Tr X E g P (D + 1) p c) (hd : 4 ≤ d) {si : Nat} {sc : String × Nat × String × List Int} (hs : x_strs[si]? = some sc) (hsl : (sc.2.2.2.length : Int) ≤ 1000) (n : Int) (hn : E ≤ n) : xMet Z d Y_MQ_isName [xC c, xS (2 * si + 1)] h (fun v h2 => v = some (xI (x_bo (decide (P 5 p.toNat = 4 ∧ P 7 p.toNat = sc.2.2.2.length ∧ 0 ≤ s_txt X n (P 6 p.toNat) sc.2.2.2)))) ∧ h2 = h) := by
  obtain ⟨h0, x, y, m, bt, it, nm, h1, h2, h3, h4, h5, h6⟩ := Tr_o ht
  by_cases hk : P 5 p.toNat = 4
  · obtain ⟨c1, c2, c3, c4, cb, fb, rfl, c6, c7⟩ := h2.2.2.2.1 (Or.inl hk)
    rw [hk] at h1
    refine xMet_post ?_ (c_MQ_isName Z d h hd c cb _ x y m it nm fb (hg _ _ h1) (hg _ _ c6) (by omega) hs hsl)
    rintro v h2 ⟨rfl, rfl⟩
    refine ⟨?_, rfl⟩
    congr 4
    rw [Bool.eq_iff_iff, Bool.and_eq_true, decide_eq_true_eq, decide_eq_true_eq, s_eqf_iff, s_txt_iff]
    constructor
    · rintro ⟨z1, z2⟩
      refine ⟨hk, by omega, c1, by omega, fun k hk2 => ?_⟩
      have := z2 k hk2
      rw [Nat.zero_add] at this
      rw [← c7 k (by omega)]
      exact this
    · rintro ⟨-, z1, z2, z3, z4⟩
      refine ⟨by omega, fun k hk2 => ?_⟩
      rw [Nat.zero_add, c7 k (by omega)]
      exact z4 k hk2
  · refine xMet_post ?_ (c_MQ_isNameN Z d h c _ x y m bt it nm si (hg _ _ h1) hk)
    rintro v h2 ⟨rfl, rfl⟩
    refine ⟨?_, rfl⟩
    rw [decide_eq_false (fun z => hk z.1)]
    rfl
theorem w_MQ_parts_4 (Z : xZ) (d : Nat) (h : xH) (hd : 1 ≤ d) (P : Nat → Nat → Int) (p e : Int) (c ci cap : Nat) (kk x y m : Int) (bt nm : Option Nat) (fi : Nat → Option Nat) (hc : h[c]? = some (xB 12 [xI kk, xI x, xI y, xI m, xO bt, xC ci, xO nm])) (hi : h[ci]? = some (xQ 4 cap fi)) (hm : 0 ≤ m ∧ m ≤ cap ∧ m ≤ 1000) (hp : 0 ≤ p ∧ e ≤ 12900) : ∀ (L : List Int) (a k : Int), s_ch (P 8) a L e → k + L.length = m → (0 ≤ k ∧ p ≤ a) → (∀ i, i < L.length → ∃ c2, fi (k.toNat + i) = some c2 ∧ xMet Z (d - 1) Y_MQ_parts [xC c2] h (fun v h2 => v = some (xI (s_bh (P 8) (L.getD i 0) - L.getD i 0)) ∧ h2 = h) ∧ ∃ fs, h[c2]? = some (xB 12 fs)) → xW Z d Y_MQ_parts 4 [(0, xC c), (1, xI (a - p)), (2, xI k)] [] h (fun v h2 => v = some (xI (e - p)) ∧ h2 = h) := by
  intro L
  induction L with
  | nil =>
    intro a k h1 h2 h3 h4
    have h1 : a = e := h1
    have h2 : k + 0 = m := h2
    refine x_iload_n (x_d C_MQ_parts 4 rfl) rfl ?_
    refine x_aload_n (x_d C_MQ_parts 5 rfl) rfl ?_
    refine x_getfield (v := xI (m)) (x_d C_MQ_parts 6 rfl) f_MQ_15 hc rfl ?_
    refine x_icmp_ge (tgt := 30) (x_d C_MQ_parts 7 rfl) rfl (fun _ => ?_) (fun q => absurd q (by omega))
    refine x_iload_n (x_d C_MQ_parts 18 rfl) rfl ?_
    refine x_ireturn (x_d C_MQ_parts 19 rfl) ?_
    exact ⟨by rw [h1], rfl⟩
  | cons z L ih =>
    intro a k h1 h2 h3 h4
    obtain ⟨rfl, h5, h6⟩ := h1
    rw [List.length_cons] at h2
    obtain ⟨c2, g1, g2, fs, g3⟩ := h4 0 (by rw [List.length_cons]; omega)
    rw [Nat.add_zero] at g1
    have hle := s_ch_le h6
    have hgt := s_bh_gt (P 8) z
    refine x_iload_n (x_d C_MQ_parts 4 rfl) rfl ?_
    refine x_aload_n (x_d C_MQ_parts 5 rfl) rfl ?_
    refine x_getfield (v := xI (m)) (x_d C_MQ_parts 6 rfl) f_MQ_15 hc rfl ?_
    refine x_icmp_ge (tgt := 30) (x_d C_MQ_parts 7 rfl) rfl (fun q => absurd q (by omega)) (fun _ => ?_)
    refine x_iload_n (x_d C_MQ_parts 8 rfl) rfl ?_
    refine x_aload_n (x_d C_MQ_parts 9 rfl) rfl ?_
    refine x_getfield (v := xC ci) (x_d C_MQ_parts 10 rfl) f_MQ_18 hc rfl ?_
    refine x_iload_n (x_d C_MQ_parts 11 rfl) rfl ?_
    refine x_aaload (x_d C_MQ_parts 12 rfl) hi (by omega) (by omega) ?_
    rw [g1]
    refine x_invokevirtual (st := [xI (z - p)]) (av := []) (x_d C_MQ_parts 13 rfl) k_MQ_22 m_MQ_parts v_MQ_parts cl_MQ g3 rfl (Nat.le_of_ble_eq_true rfl) (by omega) rfl g2 ?_
    rintro v_ h_ ⟨hv_, hh_⟩
    rw [hh_]
    clear hh_
    obtain rfl : v_ = some (xI (s_bh (P 8) z - z)) := hv_
    refine x_iadd (x_d C_MQ_parts 14 rfl) ⟨by omega, by omega⟩ ?_
    refine x_istore_n (l1 := [(1, xI ((z - p) + (s_bh (P 8) z - z))), (0, xC c), (2, xI (k))]) (x_d C_MQ_parts 15 rfl) (by decide) rfl ?_
    refine x_iinc (l1 := [(2, xI (k + 1)), (1, xI ((z - p) + (s_bh (P 8) z - z))), (0, xC c)]) (x_d C_MQ_parts 16 rfl) rfl ⟨by omega, by omega⟩ (by decide) rfl ?_
    refine x_goto (tgt := 4) (x_d C_MQ_parts 17 rfl) rfl ?_
    refine x_locs [2, 1, 0] rfl ?_
    have := ih (s_bh (P 8) z) (k + 1) h6 (by omega) (by omega) (fun i hi2 => by have := h4 (i + 1) (by rw [List.length_cons]; omega); rw [show (k + 1).toNat + i = k.toNat + (i + 1) by omega]; exact this)
    rw [show z - p + (s_bh (P 8) z - z) = s_bh (P 8) z - p by omega]
    exact this
theorem t_parts (Z : xZ) (h : xH) (X : Nat → Int) (E : Int) (g : Nat → Option xE) (P : Nat → Nat → Int) (hg : gh g h) : ∀ (D d : Nat) (p : Int) (c : Nat), D ≤ d → Tr X E g P D p c → s_bh (P 8) p ≤ 12900 → xMet Z d Y_MQ_parts [xC c] h (fun v h2 => v = some (xI (s_bh (P 8) p - p)) ∧ h2 = h)
  | 0, _, _, _, _, ht, _ => ht.elim
  | D + 1, d, p, c, hd, ht, hb => by
    obtain ⟨h0, x, y, m, bt, it, nm, h1, h2, h3, h4, h5, h6⟩ := Tr_o ht
    obtain ⟨L, a1, a2, a3, a4, a5, a6, a7, a8⟩ := h6
    have eL : s_in (P 8) p = L := s_ch_K a1
    have hgt := s_bh_gt (P 8) p
    refine xMet_of (by decide) (Nat.le_of_ble_eq_true rfl) (fun v h2 hq => by rw [hq.1]; trivial) ?_
    by_cases c6 : P 5 p.toNat = 6 ∨ P 5 p.toNat = 7 ∨ P 5 p.toNat = 9
    · obtain ⟨ci, cap, fi, rfl, b2, b3, b4, b5⟩ := a4 c6
      clear a4 a5 a6 a7 a8
      refine x_iconst (x_d C_MQ_parts 0 rfl) ⟨by omega, by omega⟩ ?_
      refine x_istore_n (l1 := [(1, xI (1)), (0, xC c)]) (x_d C_MQ_parts 1 rfl) (by decide) rfl ?_
      refine x_iconst (x_d C_MQ_parts 2 rfl) ⟨by omega, by omega⟩ ?_
      refine x_istore_n (l1 := [(2, xI (0)), (1, xI (1)), (0, xC c)]) (x_d C_MQ_parts 3 rfl) (by decide) rfl ?_
      refine x_locs [2, 1, 0] rfl ?_
      have := w_MQ_parts_4 Z d h (by omega) P p (s_bh (P 8) p) c ci cap _ x y m bt nm fi (hg _ _ h1) (hg _ _ b2) (by omega) (by omega) L (p + 1) 0 a1 (by omega) (by omega) (fun i hi => ?_)
      · rw [show p + 1 - p = 1 by omega] at this
        exact this
      · obtain ⟨c2, d1, d2⟩ := b5 i hi
        have hm := s_getD_mem hi
        have hlt := s_ch_lt a1 _ hm
        have hbx := s_ch_bh a1 _ hm
        refine ⟨c2, by rw [show (0 : Int).toNat + i = i by omega]; exact d1, t_parts Z h X E g P hg D (d - 1) _ c2 (by omega) d2 (by omega), ?_⟩
        cases D with
        | zero => exact d2.elim
        | succ D =>
          obtain ⟨-, x2, y2, m2, bt2, it2, nm2, e1, -⟩ := d2
          exact ⟨_, hg _ _ e1⟩
    · obtain ⟨rfl, rfl⟩ := a8 c6
      have a1 : p + 1 = s_bh (P 8) p := a1
      have a2 : m = 0 := a2
      clear a4 a5 a6 a7 a8
      refine x_iconst (x_d C_MQ_parts 0 rfl) ⟨by omega, by omega⟩ ?_
      refine x_istore_n (l1 := [(1, xI (1)), (0, xC c)]) (x_d C_MQ_parts 1 rfl) (by decide) rfl ?_
      refine x_iconst (x_d C_MQ_parts 2 rfl) ⟨by omega, by omega⟩ ?_
      refine x_istore_n (l1 := [(2, xI (0)), (1, xI (1)), (0, xC c)]) (x_d C_MQ_parts 3 rfl) (by decide) rfl ?_
      refine x_iload_n (x_d C_MQ_parts 4 rfl) rfl ?_
      refine x_aload_n (x_d C_MQ_parts 5 rfl) rfl ?_
      refine x_getfield (v := xI (m)) (x_d C_MQ_parts 6 rfl) f_MQ_15 (hg _ _ h1) rfl ?_
      refine x_icmp_ge (tgt := 30) (x_d C_MQ_parts 7 rfl) rfl (fun _ => ?_) (fun q => absurd q (by omega))
      refine x_iload_n (x_d C_MQ_parts 18 rfl) rfl ?_
      refine x_ireturn (x_d C_MQ_parts 19 rfl) ?_
      exact ⟨by rw [← a1, show p + 1 - p = 1 by omega], rfl⟩
