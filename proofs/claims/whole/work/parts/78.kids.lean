/-! what reading costs; the values that lie in one -/
theorem s_ch_ge {sp sp2 : Nat → Int} : ∀ {L : List Int} {a e : Int}, s_ch sp a L e → (∀ j : Int, a ≤ j → sp2 (j + 0).toNat = sp j.toNat) → s_ch sp2 a L e
  | [], _, _, h, _ => h
  | x :: L, a, e, h, hs => by
    have h2 := s_bh_gt sp a
    have e1 : s_bh sp2 a = s_bh sp a := by
      have := hs a (Int.le_refl a)
      rw [Int.add_zero] at this
      unfold s_bh
      rw [this]
    refine ⟨h.1, h.2.1, ?_⟩
    rw [e1]
    exact s_ch_ge h.2.2 (fun j hj => hs j (by omega))
/-! what reading costs, with u a cell and w an element -/
def k_tok (u w : Nat) (t : tk) : Nat := if t.1 = 4 ∨ t.1 = 5 then u + 7 * w + (u + t.2.2.1.toNat * w) else u + 7 * w
def k_opt (u w : Nat) (x : Option (List tk × Int)) : Nat := (x.map (fun y => k_tok u w (y.1.getD 0 tk0))).getD 0
def k_gr (u w c k : Nat) : Nat := if k = 4 ∨ k = 8 ∨ k = 16 ∨ k = 32 then c * (u + 2 * k * w) else 0
def k_its (F : Int → Option (List tk × Int)) (K : Int → Nat) (u w : Nat) (b : Nat → Int) (n : Int) : Nat → Nat → Int → Nat
  | 0, _, _ => 0
  | m + 1, k, i => if s_byte b n i = 93 then 0 else K i + ((F i).map (fun x => k_gr u w 1 k + k_its F K u w b n m (k + 1) (s_sc s_white b n x.2))).getD 0
def k_nm (u w : Nat) (b : Nat → Int) (n i : Int) : Nat := u + 7 * w + (u + (s_name b n i - i - 1).toNat * w)
def k_ens (F : Int → Option (List tk × Int)) (K : Int → Nat) (u w : Nat) (b : Nat → Int) (n : Int) : Nat → Nat → Int → List Int → Nat
  | 0, _, i, _ => if s_name b n i < 0 then 0 else k_nm u w b n i
  | m + 1, k, i, ns => if s_byte b n i = 62 then 0 else if s_name b n i < 0 then 0 else k_nm u w b n i + (if ns.any (fun z => s_same b n z (i + 1)) = true then 0 else K (s_sc s_white b n (s_name b n i)) + ((F (s_sc s_white b n (s_name b n i))).map (fun x => k_gr u w 2 k + k_ens F K u w b n m (k + 1) (s_sc s_white b n x.2) (ns ++ [i + 1]))).getD 0)
def k_val (u w : Nat) (b : Nat → Int) (n : Int) : Nat → Int → Nat
  | 0, i => if s_byte b n i = 91 then 0 else if s_byte b n i = 60 ∧ s_byte b n (i + 1) = 60 then 0 else k_opt u w (s_leaf b n i)
  | D + 1, i => if s_byte b n i = 91 then (u + 7 * w) + (u + 4 * w) + k_its (s_val b n D) (k_val u w b n D) u w b n 60 0 (s_sc s_white b n (i + 1)) else if s_byte b n i = 60 ∧ s_byte b n (i + 1) = 60 then (u + 7 * w) + 2 * (u + 4 * w) + k_ens (s_val b n D) (k_val u w b n D) u w b n 30 0 (s_sc s_white b n (i + 2)) [] else k_opt u w (s_leaf b n i)
/-! the values that lie in one -/
def tka (a : Nat) (t : tk) : Int := if a = 5 then t.1 else if a = 6 then t.2.1 else if a = 7 then t.2.2.1 else if a = 8 then t.2.2.2.1 else t.2.2.2.2
theorem lP_tka (ts : List tk) (a j : Nat) : lP ts a j = tka a (ts.getD j tk0) := by
  unfold lP tka lkd lon ltw lsp lnm
  (repeat' split) <;> rfl
theorem tk_getD_app (a b : List tk) (k : Nat) : (a ++ b).getD k tk0 = if k < a.length then a.getD k tk0 else b.getD (k - a.length) tk0 := by
  split
  · next h => rw [List.getD_eq_getElem?_getD, List.getElem?_append_left h, List.getD_eq_getElem?_getD]
  · next h => rw [List.getD_eq_getElem?_getD, List.getElem?_append_right (by omega), List.getD_eq_getElem?_getD]
theorem s_nm_get (p : Int) (ts : List tk) (j : Nat) : 0 < j → (s_nm p ts).getD j tk0 = ts.getD j tk0 := by
  intro h
  cases ts with
  | nil => rfl
  | cons x l =>
    cases j with
    | zero => omega
    | succ j => rfl
theorem s_nm_tka (p : Int) (ts : List tk) (h : 1 ≤ ts.length) (a : Nat) (ha : a ≠ 9 ∧ 5 ≤ a ∧ a ≤ 9) : tka a ((s_nm p ts).getD 0 tk0) = tka a (ts.getD 0 tk0) := by
  cases ts with
  | nil => simp at h
  | cons x l =>
    show tka a (x.1, x.2.1, x.2.2.1, x.2.2.2.1, p) = tka a x
    unfold tka
    (repeat' split) <;> first | rfl | omega
def KL (X : Nat → Int) (E : Int) (g : Nat → Option xE) (h : tk) (acc : List tk) (D : Nat) (L : List Int) (fi : Nat → Option Nat) : Prop := s_ch (lsp (h :: acc)) 1 L (1 + acc.length) ∧ ∀ k, k < L.length → ∃ c, fi k = some c ∧ Tr X E g (lP (h :: acc)) D (L.getD k 0) c
theorem KL_g {X : Nat → Int} {E : Int} {g g2 : Nat → Option xE} {h : tk} {acc : List tk} {D : Nat} {L : List Int} {fi : Nat → Option Nat} (hg : gle g g2) (hk : KL X E g h acc D L fi) : KL X E g2 h acc D L fi :=
  ⟨hk.1, fun k z => by obtain ⟨c, c1, c2⟩ := hk.2 k z; exact ⟨c, c1, Tr_g hg _ _ _ c2⟩⟩
theorem KL_fi {X : Nat → Int} {E : Int} {g : Nat → Option xE} {h : tk} {acc : List tk} {D : Nat} {L : List Int} {fi fi2 : Nat → Option Nat} (hk : KL X E g h acc D L fi) (hf : ∀ k, k < L.length → fi2 k = fi k) : KL X E g h acc D L fi2 :=
  ⟨hk.1, fun k z => by rw [hf k z]; exact hk.2 k z⟩
theorem KL_nil (X : Nat → Int) (E : Int) (g : Nat → Option xE) (h : tk) (D : Nat) (fi : Nat → Option Nat) : KL X E g h [] D [] fi := ⟨rfl, fun k z => absurd z (Nat.not_lt_zero _)⟩
theorem KL_head {X : Nat → Int} {E : Int} {g : Nat → Option xE} {h h2 : tk} {acc : List tk} {D : Nat} {L : List Int} {fi : Nat → Option Nat} (hk : KL X E g h acc D L fi) : KL X E g h2 acc D L fi := by
  have hsame : ∀ (a : Nat) (j : Int), 1 ≤ j → lP (h2 :: acc) a (j + 0).toNat = lP (h :: acc) a j.toNat := fun a j hj => by
    rw [lP_tka, lP_tka, Int.add_zero]
    obtain ⟨m, hm⟩ : ∃ m, j.toNat = m + 1 := ⟨j.toNat - 1, by omega⟩
    rw [hm]
    rfl
  refine ⟨s_ch_ge hk.1 (fun j hj => hsame 8 j hj), fun k z => ?_⟩
  obtain ⟨c, c1, c2⟩ := hk.2 k z
  have hm := s_ch_lt hk.1 _ (s_getD_mem z)
  refine ⟨c, c1, ?_⟩
  have := Tr_sh (u := 0) (P2 := lP (h2 :: acc)) D _ c c2 (by omega) (fun a _ _ j j1 _ _ => hsame a j (by omega))
  rw [Int.add_zero] at this
  exact this
theorem KL_snoc {X : Nat → Int} {E : Int} {g : Nat → Option xE} {h : tk} {acc ts ts2 : List tk} {D : Nat} {L : List Int} {fi : Nat → Option Nat} {c : Nat} (hk : KL X E g h acc D L fi) (ht : Tr X E g (lP ts) D 0 c) (hb : s_bh (lsp ts) 0 = ts.length) (h1 : 1 ≤ ts.length) (hl : ts2.length = ts.length) (hs : ∀ a j, 5 ≤ a → a ≤ 9 → (a = 9 → 0 < j) → tka a (ts2.getD j tk0) = tka a (ts.getD j tk0)) : KL X E g h (acc ++ ts2) D (L ++ [1 + (acc.length : Int)]) (x_up fi L.length (some c)) := by
  have hold : ∀ (a : Nat) (j : Int), 0 ≤ j → j < 1 + acc.length → lP (h :: (acc ++ ts2)) a (j + 0).toNat = lP (h :: acc) a j.toNat := fun a j h0 hj => by
    rw [lP_tka, lP_tka, Int.add_zero, show h :: (acc ++ ts2) = (h :: acc) ++ ts2 from rfl, tk_getD_app, if_pos (by rw [List.length_cons]; omega)]
  have hnew : ∀ (a : Nat) (j : Int), 5 ≤ a → a ≤ 9 → 0 ≤ j → (a = 9 → 0 < j) → lP (h :: (acc ++ ts2)) a (j + (1 + acc.length)).toNat = lP ts a j.toNat := fun a j a1 a2 h0 h9 => by
    rw [lP_tka, lP_tka, show h :: (acc ++ ts2) = (h :: acc) ++ ts2 from rfl, tk_getD_app, if_neg (by rw [List.length_cons]; omega), List.length_cons, show (j + (1 + (acc.length : Int))).toNat - (acc.length + 1) = j.toNat by omega]
    exact hs a j.toNat a1 a2 (fun e => by have := h9 e; omega)
  have hch : s_ch (lsp (h :: (acc ++ ts2))) 1 L (1 + acc.length) := s_ch_keep hk.1 (fun j hj => by have := hold 8 j (by omega) hj; rw [Int.add_zero] at this; exact this)
  have hbn : s_bh (lsp (h :: (acc ++ ts2))) (1 + acc.length) = 1 + ((acc ++ ts2).length : Int) := by
    have e := hnew 8 0 (by omega) (by omega) (by omega) (by omega)
    rw [Int.zero_add] at e
    unfold s_bh at hb ⊢
    have e : lsp (h :: (acc ++ ts2)) (1 + (acc.length : Int)).toNat = lsp ts (0 : Int).toNat := e
    rw [e, List.length_append, hl]
    omega
  refine ⟨by have := s_ch_snoc hch (by omega); rw [hbn] at this; exact this, fun k z => ?_⟩
  rw [List.length_append] at z
  have z : k < L.length + 1 := z
  by_cases e : k = L.length
  · refine ⟨c, by rw [e]; exact x_up_s _ _ _, ?_⟩
    rw [s_getD_app, if_neg (by omega), e, Nat.sub_self]
    show Tr X E g (lP (h :: (acc ++ ts2))) D (1 + acc.length) c
    have := Tr_sh (u := 1 + acc.length) (P2 := lP (h :: (acc ++ ts2))) D 0 c ht (by omega) (fun a a1 a2 j j1 _ j3 => hnew a j a1 a2 j1 (fun z => by have := j3 z; omega))
    rw [Int.zero_add] at this
    exact this
  · obtain ⟨c2, c3, c4⟩ := hk.2 k (by omega)
    refine ⟨c2, by rw [x_up_n _ _ e]; exact c3, ?_⟩
    rw [s_getD_app, if_pos (by omega)]
    have hm := s_ch_lt hk.1 _ (s_getD_mem (show k < L.length by omega))
    have hb2 := s_ch_bh hk.1 _ (s_getD_mem (show k < L.length by omega))
    have hb2 : s_bh (lP (h :: acc) 8) (L.getD k 0) ≤ 1 + acc.length := hb2
    have := Tr_sh (u := 0) (P2 := lP (h :: (acc ++ ts2))) D _ c2 c4 (by omega) (fun a _ _ j j1 j2 _ => hold a j (by omega) (by omega))
    rw [Int.add_zero] at this
    exact this
/-- a box -/
theorem Tr_box {X : Nat → Int} {E : Int} {g : Nat → Option xE} {k : Int} {acc : List tk} {D : Nat} {L : List Int} {fi : Nat → Option Nat} {c ci cap : Nat} {nm : Option Nat} (hk : KL X E g (k, 0, 0, (acc.length : Int) + 1, -1) acc D L fi) (hL : L.length ≤ 60) (hg : g c = some (xB 12 [xI k, xI 0, xI 0, xI (L.length : Int), xN, xC ci, xO nm])) (hi : g ci = some (xQ 4 cap fi)) (hc : L.length ≤ cap ∧ cap ≤ 300) (hkk : k = 6 ∨ k = 7)
    (hnm : (k = 6 → nm = none ∧ ∀ x, x ∈ L → lnm ((k, 0, 0, (acc.length : Int) + 1, -1) :: acc) x.toNat = -1) ∧ (k = 7 → ∃ cn cap2 fn, nm = some cn ∧ g cn = some (xQ 5 cap2 fn) ∧ L.length ≤ cap2 ∧ cap2 ≤ 300 ∧ ∀ j, j < L.length → ∃ cb len fb, fn j = some cb ∧ g cb = some (xA 1 len fb) ∧ nmw X E (lnm ((k, 0, 0, (acc.length : Int) + 1, -1) :: acc) (L.getD j 0).toNat) len fb)) : Tr X E g (lP ((k, 0, 0, (acc.length : Int) + 1, -1) :: acc)) (D + 1) 0 c := by
  have e5 : lP ((k, 0, 0, (acc.length : Int) + 1, -1) :: acc) 5 (0 : Int).toNat = k := rfl
  have ebh : s_bh (lP ((k, 0, 0, (acc.length : Int) + 1, -1) :: acc) 8) 0 = 1 + acc.length := by
    unfold s_bh
    show (0 : Int) + max 1 ((acc.length : Int) + 1) = _
    omega
  refine ⟨Int.le_refl 0, 0, 0, L.length, none, some ci, nm, hg, ?_, L, ?_, rfl, hL, ?_, ?_, ?_, ?_, ?_⟩
  · unfold tL
    rw [e5]
    clear hnm
    exact ⟨by omega, by omega, by omega, by omega, by omega, fun _ => rfl⟩
  · rw [ebh]; exact hk.1
  · intro _
    exact ⟨ci, cap, fi, rfl, hi, hc.1, hc.2, hk.2⟩
  · rw [e5]
    intro z
    exact hnm.2 (by clear hnm; omega)
  · rw [e5]
    intro z
    exact (hnm.1 z).2
  · rw [e5]
    intro z
    exact (hnm.1 (by clear hnm; omega)).1
  · rw [e5]
    intro z
    exact absurd hkk (by clear hnm; omega)
