/-! the reference: arrays that are being read -/
theorem g_setd {dy ny : xH} {c : Nat} (h : 52 + dy.length ≤ c) (q : Nat → Int) (r : Nat → Option Nat) (A : Nat → Nat → Int) (e : xE) : (hF q r A ++ (dy ++ ny)).set c e = hF q r A ++ (dy ++ ny.set (c - (52 + dy.length)) e) := by
  rw [g_set (by omega), List.set_append_right _ _ (by omega), show c - 52 - dy.length = c - (52 + dy.length) by omega]
theorem ct_setd {dy ny : xH} {c : Nat} {e : xE} (h : ct (dy ++ ny) c e) (hc : 52 + dy.length ≤ c) (e2 : xE) : ct (dy ++ ny.set (c - (52 + dy.length)) e2) c e2 := by
  have := ct_set h e2
  rw [List.set_append_right _ _ (by omega), show c - 52 - dy.length = c - (52 + dy.length) by omega] at this
  exact this
theorem ct_setdn {dy ny : xH} {c c2 : Nat} {e e2 : xE} (h : ct (dy ++ ny) c e) (hc : c ≠ c2) (h2 : 52 + dy.length ≤ c2) : ct (dy ++ ny.set (c2 - (52 + dy.length)) e2) c e := by
  have := ct_setn (e2 := e2) h hc (by omega)
  rw [List.set_append_right _ _ (by omega), show c2 - 52 - dy.length = c2 - (52 + dy.length) by omega] at this
  exact this
theorem gok_setd {g : Nat → Option xE} {dy ny : xH} {c : Nat} {e2 : xE} (h : gok g (dy ++ ny)) (hc : g c = none) (h2 : 52 + dy.length ≤ c) : gok g (dy ++ ny.set (c - (52 + dy.length)) e2) := fun k e z => ct_setdn (h k e z) (fun ek => by rw [ek, hc] at z; cases z) h2
theorem mu_setd (u w : Nat) {dy ny : xH} {c : Nat} {e e2 : xE} (h : ct (dy ++ ny) c e) (hc : 52 + dy.length ≤ c) (hs : x_sz e2 = x_sz e) : mu u w (ny.set (c - (52 + dy.length)) e2) = mu u w ny := by
  refine mu_set u w (e := e) ?_ hs
  have := h.2
  rw [List.getElem?_append_right (by omega), show c - 52 - dy.length = c - (52 + dy.length) by omega] at this
  exact this
/-- an array that is being read -/
def AS (X : Nat → Int) (E : Int) (dy : xH) (g : Nat → Option xE) (p D : Nat) (ny : xH) (ci cap : Nat) (fi : Nat → Option Nat) (gk : Nat → Option xE) (L : List Int) (acc : List tk) : Prop :=
  ct (dy ++ ny) p (xB 12 [xI 6, xI 0, xI 0, xI (L.length : Int), xN, xC ci, xN]) ∧ ct (dy ++ ny) ci (xQ 4 cap fi) ∧ (52 + dy.length ≤ p ∧ 52 + dy.length ≤ ci ∧ p ≠ ci) ∧ gok gk (dy ++ ny) ∧ gle g gk ∧ gnw g gk (52 + dy.length) ∧ gk p = none ∧ gk ci = none ∧ KL X E gk (6, 0, 0, 1, -1) acc D L fi ∧ (∀ x, x ∈ L → lnm ((6, 0, 0, 1, -1) :: acc) x.toNat = -1) ∧ (cap = 4 ∨ cap = 8 ∨ cap = 16 ∨ cap = 32 ∨ cap = 64) ∧ L.length ≤ cap ∧ L.length ≤ 60
theorem AS_obj {X : Nat → Int} {E : Int} {dy : xH} {g : Nat → Option xE} {p D : Nat} {ny ny2 : xH} {ci cap : Nat} {fi : Nat → Option Nat} {gk g2 : Nat → Option xE} {L : List Int} {acc : List tk} (h : AS X E dy g p D ny ci cap fi gk L acc) (h1 : gle gk g2) (h2 : gok g2 (dy ++ ny ++ ny2)) (h3 : gnw gk g2 (52 + (dy ++ ny).length)) : AS X E dy g p D (ny ++ ny2) ci cap fi g2 L acc := by
  obtain ⟨a1, a2, a3, a4, a5, a6, a7, a8, a9, a10, a11, a12, a13⟩ := h
  have e : dy ++ (ny ++ ny2) = dy ++ ny ++ ny2 := (List.append_assoc _ _ _).symm
  refine ⟨by rw [e]; exact ct_app a1 _, by rw [e]; exact ct_app a2 _, a3, by rw [e]; exact h2, gle_tr a5 h1, fun k hk z => h3 k (by rw [List.length_append]; omega) (a6 k hk z), h3 p (ct_lt a1) a7, h3 ci (ct_lt a2) a8, KL_g h1 a9, a10, a11, a12, a13⟩
theorem AS_parts {X : Nat → Int} {E : Int} {dy : xH} {g : Nat → Option xE} {p D : Nat} {ny : xH} {ci cap : Nat} {fi : Nat → Option Nat} {gk : Nat → Option xE} {L : List Int} {acc : List tk} (h : AS X E dy g p D ny ci cap fi gk L acc) (q : Nat → Int) (r : Nat → Option Nat) (A : Nat → Nat → Int) : ∀ k, k < L.length → ∃ c fs, fi k = some c ∧ (hF q r A ++ (dy ++ ny))[c]? = some (xB 12 fs) := by
  intro k hk
  obtain ⟨-, -, -, a4, -, -, -, -, a9, -⟩ := h
  obtain ⟨c, c1, c2⟩ := a9.2 k hk
  cases D with
  | zero => exact c2.elim
  | succ D =>
    obtain ⟨-, x, y, m, bt, it, nm, d1, -⟩ := c2
    exact ⟨c, _, c1, ct_get (a4 _ _ d1) q r A⟩
theorem AS_grow {X : Nat → Int} {E : Int} {dy : xH} {g : Nat → Option xE} {p D : Nat} {ny : xH} {ci cap : Nat} {fi : Nat → Option Nat} {gk : Nat → Option xE} {L : List Int} {acc : List tk} (h : AS X E dy g p D ny ci cap fi gk L acc) (hk : L.length = cap) (hl : L.length < 60) : AS X E dy g p D ((ny ++ [xQ 4 (2 * cap) (s_cpq fi cap)]).set (p - (52 + dy.length)) (xB 12 [xI 6, xI 0, xI 0, xI (L.length : Int), xN, xC (52 + dy.length + ny.length), xN])) (52 + dy.length + ny.length) (2 * cap) (s_cpq fi cap) gk L acc := by
  obtain ⟨a1, a2, a3, a4, a5, a6, a7, a8, a9, a10, a11, a12, a13⟩ := h
  have e : dy ++ (ny ++ [xQ 4 (2 * cap) (s_cpq fi cap)]) = dy ++ ny ++ [xQ 4 (2 * cap) (s_cpq fi cap)] := (List.append_assoc _ _ _).symm
  have hp : ct (dy ++ (ny ++ [xQ 4 (2 * cap) (s_cpq fi cap)])) p (xB 12 [xI 6, xI 0, xI 0, xI (L.length : Int), xN, xC ci, xN]) := by rw [e]; exact ct_app a1 _
  have hlt := ct_lt a1
  rw [List.length_append] at hlt
  have hn : ct (dy ++ (ny ++ [xQ 4 (2 * cap) (s_cpq fi cap)])) (52 + dy.length + ny.length) (xQ 4 (2 * cap) (s_cpq fi cap)) := by
    have := ct_new (dy ++ ny) [xQ 4 (2 * cap) (s_cpq fi cap)] 0 rfl
    rw [List.length_append, Nat.add_zero, ← Nat.add_assoc] at this
    rw [e]
    exact this
  have hnew : gk (52 + dy.length + ny.length) = none := by
    cases hz : gk (52 + dy.length + ny.length) with
    | none => rfl
    | some z => have := ct_lt (a4 _ _ hz); rw [List.length_append] at this; omega
  refine ⟨ct_setd hp a3.1 _, ct_setdn hn (by omega) a3.1, ⟨a3.1, by omega, by omega⟩, gok_setd (by rw [e]; exact gok_app a4 _) a7 a3.1, a5, a6, a7, hnew, KL_fi a9 (fun k hk2 => by unfold s_cpq; rw [if_pos (by omega)]), a10, by omega, by omega, a13⟩
theorem AS_store {X : Nat → Int} {E : Int} {dy : xH} {g : Nat → Option xE} {p D : Nat} {ny : xH} {ci cap : Nat} {fi : Nat → Option Nat} {gk : Nat → Option xE} {L : List Int} {acc ts : List tk} {c : Nat} (h : AS X E dy g p D ny ci cap fi gk L acc) (hk : L.length < cap) (hl : L.length < 60) (ht : Tr X E gk (lP ts) D 0 c) (hb : s_bh (lsp ts) 0 = ts.length) (h1 : 1 ≤ ts.length) (h9 : lnm ts 0 = -1) : AS X E dy g p D ((ny.set (ci - (52 + dy.length)) (xQ 4 cap (x_up fi L.length (some c)))).set (p - (52 + dy.length)) (xB 12 [xI 6, xI 0, xI 0, xI ((L ++ [1 + (acc.length : Int)]).length : Int), xN, xC ci, xN])) ci cap (x_up fi L.length (some c)) gk (L ++ [1 + (acc.length : Int)]) (acc ++ ts) := by
  obtain ⟨a1, a2, a3, a4, a5, a6, a7, a8, a9, a10, a11, a12, a13⟩ := h
  have b1 := ct_setdn (e2 := xQ 4 cap (x_up fi L.length (some c))) a1 a3.2.2 a3.2.1
  have b2 := ct_setd a2 a3.2.1 (xQ 4 cap (x_up fi L.length (some c)))
  refine ⟨ct_setd b1 a3.1 _, ct_setdn b2 (Ne.symm a3.2.2) a3.1, a3, gok_setd (gok_setd a4 a8 a3.2.1) a7 a3.1, a5, a6, a7, a8, KL_snoc a9 ht hb h1 rfl (fun a j _ _ _ => rfl), fun x hx => ?_, a11, by rw [List.length_append]; show L.length + 1 ≤ cap; omega, by rw [List.length_append]; show L.length + 1 ≤ 60; omega⟩
  have hold : ∀ j : Nat, j < 1 + acc.length → lnm ((6, 0, 0, 1, -1) :: (acc ++ ts)) j = lnm ((6, 0, 0, 1, -1) :: acc) j := fun j hj => by
    unfold lnm
    rw [show ((6, 0, 0, 1, -1) :: (acc ++ ts) : List tk) = ((6, 0, 0, 1, -1) :: acc) ++ ts from rfl, tk_getD_app, if_pos (by rw [List.length_cons]; omega)]
  rcases List.mem_append.mp hx with hx | hx
  · have := s_ch_lt a9.1 x hx
    rw [hold x.toNat (by omega)]
    exact a10 x hx
  · rw [List.mem_singleton.mp hx]
    unfold lnm at h9 ⊢
    rw [show ((6, 0, 0, 1, -1) :: (acc ++ ts) : List tk) = ((6, 0, 0, 1, -1) :: acc) ++ ts from rfl, tk_getD_app, if_neg (by rw [List.length_cons]; omega), List.length_cons, show (1 + (acc.length : Int)).toNat - (acc.length + 1) = 0 by omega]
    exact h9
/-- an array is whole -/
theorem AS_done {q : Nat → Int} {r : Nat → Option Nat} {A : Nat → Nat → Int} {X : Nat → Int} {f : Int} {K : Nat → Nat → Nat} {dy : xH} {g : Nat → Option xE} {p D : Nat} {ny : xH} {ci cap : Nat} {fi : Nat → Option Nat} {gk : Nat → Option xE} {L : List Int} {acc : List tk} {j e : Int} {tk2 : Nat → Int} (h : AS X (f + q 1345) dy g p D ny ci cap fi gk L acc) (hj : 0 ≤ j ∧ j ≤ q 1345) (hK : ∀ u w, mu u w ny ≤ K u w) (he : j = e - f) : orq q r A dy X f g K (D + 1) (s_bx 6 acc (some ([], e))) (some (xC p)) (hF (x_up q 1346 j) (x_up r 1344 (some 44)) (x_up A 43 tk2) ++ (dy ++ ny)) := by
  obtain ⟨a1, a2, a3, a4, a5, a6, a7, a8, a9, a10, a11, a12, a13⟩ := h
  have hg1 : gle gk (x_up (x_up gk p (some (xB 12 [xI 6, xI 0, xI 0, xI (L.length : Int), xN, xC ci, xN]))) ci (some (xQ 4 cap fi))) := fun k e2 z => by
    rw [x_up_n _ _ (fun ek => by rw [ek, a8] at z; cases z), x_up_n _ _ (fun ek => by rw [ek, a7] at z; cases z)]
    exact z
  refine ⟨j, tk2, ny, rfl, hj, hK, Or.inr ⟨(6, 0, 0, ((acc ++ []).length : Int) + 1, -1) :: (acc ++ []), e, p, x_up (x_up gk p (some (xB 12 [xI 6, xI 0, xI 0, xI (L.length : Int), xN, xC ci, xN]))) ci (some (xQ 4 cap fi)), rfl, rfl, he, gle_tr a5 hg1, gok_new (gok_new a4 a1) a2, gnw_up (gnw_up a6 a3.1 _) a3.2.1 _, ?_, ?_, Dj_k (k := 6) (by rw [x_up_n _ _ a3.2.2, x_up_s]) (by omega)⟩⟩
  rotate_left
  · cases hz : g p with
    | none => rfl
    | some z => have := a5 _ _ hz; rw [a7] at this; cases this
  rw [List.append_nil]
  refine Tr_box (KL_head (KL_g hg1 a9)) a13 (by rw [x_up_n _ _ a3.2.2, x_up_s]) (x_up_s _ _ _) ⟨a12, by omega⟩ (Or.inl rfl) ⟨fun _ => ⟨rfl, fun x hx => ?_⟩, fun z => absurd z (by omega)⟩
  have := s_ch_lt a9.1 x hx
  have h1 := a10 x hx
  unfold lnm at h1 ⊢
  obtain ⟨m, hm⟩ : ∃ m, x.toNat = m + 1 := ⟨x.toNat - 1, by omega⟩
  rw [hm] at h1 ⊢
  exact h1
/-- what is asked of reading a value at the depth that leaves D -/
def OD (Z : xZ) (q : Nat → Int) (r : Nat → Option Nat) (A : Nat → Nat → Int) (X : Nat → Int) (f : Int) (D : Nat) : Prop := ∀ (d : Nat) (dy : xH) (g : Nat → Option xE) (j : Int) (tk : Nat → Int) (e : Int), 3 * D + 12 ≤ d → gok g dy → e = 8 - (D : Int) → (0 ≤ j ∧ j ≤ q 1345) → xMet Z d Y_M_object [xC 42, xI e] (hF (x_up q 1346 j) (x_up r 1344 (some 44)) (x_up A 43 tk) ++ dy) (orq q r A dy X f g (fun u w => k_val u w X (f + q 1345) D (s_sc s_white X (f + q 1345) (f + j))) (D + 1) (s_val X (f + q 1345) D (s_sc s_white X (f + q 1345) (f + j))))
