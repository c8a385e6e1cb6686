/-! the reference: dictionaries that are being read -/
theorem s_eqr_iff (b : Nat → Int) : ∀ (k i j : Nat), s_eqr b k i j = true ↔ ∀ x, x < k → b (i + x) = b (j + x)
  | 0, _, _ => ⟨fun _ x h => absurd h (Nat.not_lt_zero _), fun _ => rfl⟩
  | k + 1, i, j => by
    show (decide (b i = b j) && s_eqr b k (i + 1) (j + 1)) = true ↔ _
    rw [Bool.and_eq_true, decide_eq_true_eq, s_eqr_iff b k]
    constructor
    · rintro ⟨h1, h2⟩ x hx
      cases x with
      | zero => exact h1
      | succ x => have := h2 x (by omega); rw [show i + 1 + x = i + (x + 1) by omega, show j + 1 + x = j + (x + 1) by omega] at this; exact this
    · intro h
      refine ⟨h 0 (by omega), fun x hx => ?_⟩
      have := h (x + 1) (by omega)
      rw [show i + 1 + x = i + (x + 1) by omega, show j + 1 + x = j + (x + 1) by omega]
      exact this
theorem nmw_same {X : Nat → Int} {E u v n : Int} {len : Nat} {fu fb : Nat → Int} (h : nmw X E u len fu) (hv : 0 ≤ v) (hn : 0 ≤ n) (hw : s_wd X E v = v + n) (hb : ∀ k : Nat, (k : Int) < n → fb k = X (v.toNat + k)) : (decide ((len : Int) = n) && s_eqf fu fb (0 : Int).toNat n.toNat) = s_same X E u v := by
  have hwu := nmw_wd h (Int.le_refl E)
  obtain ⟨h1, h2, h3, h4, h5, h6⟩ := h
  unfold s_same
  rw [hwu, hw, show u + (len : Int) - u = len by omega, show v + n - v = n by omega]
  by_cases e : (len : Int) = n
  · rw [decide_eq_true e, decide_eq_true (show 0 ≤ u ∧ 0 ≤ v ∧ (0 : Int) ≤ len ∧ (len : Int) = n from ⟨h1, hv, by omega, e⟩), Bool.true_and, Bool.true_and]
    rw [Bool.eq_iff_iff, s_eqf_iff, s_eqr_iff]
    constructor
    · intro z x hx
      have := z x (by omega)
      rw [(h5 x (by omega)).1, show (0 : Int).toNat + x = x by omega, hb x (by omega)] at this
      exact this
    · intro z x hx
      rw [(h5 x (by omega)).1, show (0 : Int).toNat + x = x by omega, hb x (by omega)]
      exact z x (by omega)
  · rw [decide_eq_false e, decide_eq_false (show ¬ (0 ≤ u ∧ 0 ≤ v ∧ (0 : Int) ≤ len ∧ (len : Int) = n) from fun z => e z.2.2.2), Bool.false_and, Bool.false_and]
/-- a dictionary that is being read -/
def DS (X : Nat → Int) (E : Int) (dy : xH) (g : Nat → Option xE) (p D : Nat) (ny : xH) (ci cn cap cap2 : Nat) (fi fn : Nat → Option Nat) (gk : Nat → Option xE) (L : List Int) (acc : List tk) (ns : List Int) : Prop :=
  ct (dy ++ ny) p (xB 12 [xI 7, xI 0, xI 0, xI (L.length : Int), xN, xC ci, xC cn]) ∧ ct (dy ++ ny) ci (xQ 4 cap fi) ∧ ct (dy ++ ny) cn (xQ 5 cap2 fn) ∧ (52 + dy.length ≤ p ∧ 52 + dy.length ≤ ci ∧ 52 + dy.length ≤ cn ∧ p ≠ ci ∧ p ≠ cn ∧ ci ≠ cn) ∧ gok gk (dy ++ ny) ∧ gle g gk ∧ gnw g gk (52 + dy.length) ∧ (gk p = none ∧ gk ci = none ∧ gk cn = none) ∧ KL X E gk (7, 0, 0, 1, -1) acc D L fi ∧ ns.length = L.length ∧ (∀ k, k < L.length → ns.getD k 0 = lnm ((7, 0, 0, 1, -1) :: acc) (L.getD k 0).toNat ∧ ∃ cb len fb, fn k = some cb ∧ gk cb = some (xA 1 len fb) ∧ nmw X E (ns.getD k 0) len fb) ∧ (L.length ≤ cap ∧ L.length ≤ cap2 ∧ cap ≤ 64 ∧ cap2 ≤ 64 ∧ L.length ≤ 30 ∧ ∀ i k, i < L.length → k < L.length → fi i = fi k → i = k)
theorem DS_obj {X : Nat → Int} {E : Int} {dy : xH} {g : Nat → Option xE} {p D : Nat} {ny ny2 : xH} {ci cn cap cap2 : Nat} {fi fn : Nat → Option Nat} {gk g2 : Nat → Option xE} {L : List Int} {acc : List tk} {ns : List Int} (h : DS X E dy g p D ny ci cn cap cap2 fi fn gk L acc ns) (h1 : gle gk g2) (h2 : gok g2 (dy ++ (ny ++ ny2))) (h3 : gnw gk g2 (52 + (dy ++ ny).length)) : DS X E dy g p D (ny ++ ny2) ci cn cap cap2 fi fn g2 L acc ns := by
  obtain ⟨a1, a2, a3, b3, a4, a5, a6, a7, a9, a10, a11, a12⟩ := h
  have e : dy ++ (ny ++ ny2) = dy ++ ny ++ ny2 := (List.append_assoc _ _ _).symm
  refine ⟨by rw [e]; exact ct_app a1 _, by rw [e]; exact ct_app a2 _, by rw [e]; exact ct_app a3 _, b3, h2, gle_tr a5 h1, fun k hk z => h3 k (by rw [List.length_append]; omega) (a6 k hk z), ⟨h3 p (ct_lt a1) a7.1, h3 ci (ct_lt a2) a7.2.1, h3 cn (ct_lt a3) a7.2.2⟩, KL_g h1 a9, a10, fun k hk => ?_, a12⟩
  obtain ⟨z1, cb, len, fb, z2, z3, z4⟩ := a11 k hk
  exact ⟨z1, cb, len, fb, z2, h1 _ _ z3, z4⟩
theorem DS_parts {X : Nat → Int} {E : Int} {dy : xH} {g : Nat → Option xE} {p D : Nat} {ny : xH} {ci cn cap cap2 : Nat} {fi fn : Nat → Option Nat} {gk : Nat → Option xE} {L : List Int} {acc : List tk} {ns : List Int} (h : DS X E dy g p D ny ci cn cap cap2 fi fn gk L acc ns) (q : Nat → Int) (r : Nat → Option Nat) (A : Nat → Nat → Int) : ∀ k, k < L.length → ∃ c fs, fi k = some c ∧ (hF q r A ++ (dy ++ ny))[c]? = some (xB 12 fs) := by
  intro k hk
  obtain ⟨-, -, -, -, a4, -, -, -, a9, -⟩ := h
  obtain ⟨c, c1, c2⟩ := a9.2 k hk
  cases D with
  | zero => exact c2.elim
  | succ D =>
    obtain ⟨-, x, y, m, bt, it, nm, d1, -⟩ := c2
    exact ⟨c, _, c1, ct_get (a4 _ _ d1) q r A⟩
theorem g_hnew {gk : Nat → Option xE} {dy ny : xH} (h : gok gk (dy ++ ny)) : gk (52 + dy.length + ny.length) = none := by
  cases hz : gk (52 + dy.length + ny.length) with
  | none => rfl
  | some z => have := ct_lt (h _ _ hz); rw [List.length_append] at this; omega
theorem ct_last (dy ny : xH) (e : xE) : ct (dy ++ (ny ++ [e])) (52 + dy.length + ny.length) e := by
  have := ct_new (dy ++ ny) [e] 0 rfl
  rw [List.length_append, Nat.add_zero, ← Nat.add_assoc] at this
  rw [← List.append_assoc]
  exact this
/-- a longer row of values -/
theorem DS_gi {X : Nat → Int} {E : Int} {dy : xH} {g : Nat → Option xE} {p D : Nat} {ny : xH} {ci cn cap cap2 : Nat} {fi fn : Nat → Option Nat} {gk : Nat → Option xE} {L : List Int} {acc : List tk} {ns : List Int} (h : DS X E dy g p D ny ci cn cap cap2 fi fn gk L acc ns) (hk : L.length = cap) (hl : cap ≤ 32) : DS X E dy g p D ((ny ++ [xQ 4 (2 * cap) (s_cpq fi cap)]).set (p - (52 + dy.length)) (xB 12 [xI 7, xI 0, xI 0, xI (L.length : Int), xN, xC (52 + dy.length + ny.length), xC cn])) (52 + dy.length + ny.length) cn (2 * cap) cap2 (s_cpq fi cap) fn gk L acc ns := by
  obtain ⟨a1, a2, a3, b3, a4, a5, a6, a7, a9, a10, a11, a12⟩ := h
  have e : dy ++ (ny ++ [xQ 4 (2 * cap) (s_cpq fi cap)]) = dy ++ ny ++ [xQ 4 (2 * cap) (s_cpq fi cap)] := (List.append_assoc _ _ _).symm
  have hp : ct (dy ++ (ny ++ [xQ 4 (2 * cap) (s_cpq fi cap)])) p (xB 12 [xI 7, xI 0, xI 0, xI (L.length : Int), xN, xC ci, xC cn]) := by rw [e]; exact ct_app a1 _
  have hc3 : ct (dy ++ (ny ++ [xQ 4 (2 * cap) (s_cpq fi cap)])) cn (xQ 5 cap2 fn) := by rw [e]; exact ct_app a3 _
  have hlt := ct_lt a1
  have hlt3 := ct_lt a3
  rw [List.length_append] at hlt hlt3
  refine ⟨ct_setd hp b3.1 _, ct_setdn (ct_last dy ny _) (by omega) b3.1, ct_setdn hc3 (Ne.symm b3.2.2.2.2.1) b3.1, ⟨b3.1, by omega, b3.2.2.1, by omega, b3.2.2.2.2.1, by omega⟩, gok_setd (by rw [e]; exact gok_app a4 _) a7.1 b3.1, a5, a6, ⟨a7.1, g_hnew a4, a7.2.2⟩, KL_fi a9 (fun k hk2 => by unfold s_cpq; rw [if_pos (by omega)]), a10, a11, by omega, a12.2.1, by omega, a12.2.2.2.1, a12.2.2.2.2.1, fun i k hi hk2 ee => a12.2.2.2.2.2 i k hi hk2 (by unfold s_cpq at ee; rw [if_pos (by omega), if_pos (by omega)] at ee; exact ee)⟩
/-- a longer row of names -/
theorem DS_gn {X : Nat → Int} {E : Int} {dy : xH} {g : Nat → Option xE} {p D : Nat} {ny : xH} {ci cn cap cap2 : Nat} {fi fn : Nat → Option Nat} {gk : Nat → Option xE} {L : List Int} {acc : List tk} {ns : List Int} (h : DS X E dy g p D ny ci cn cap cap2 fi fn gk L acc ns) (hk : L.length = cap2) (hl : cap2 ≤ 32) : DS X E dy g p D ((ny ++ [xQ 5 (2 * cap2) (s_cpq fn cap2)]).set (p - (52 + dy.length)) (xB 12 [xI 7, xI 0, xI 0, xI (L.length : Int), xN, xC ci, xC (52 + dy.length + ny.length)])) ci (52 + dy.length + ny.length) cap (2 * cap2) fi (s_cpq fn cap2) gk L acc ns := by
  obtain ⟨a1, a2, a3, b3, a4, a5, a6, a7, a9, a10, a11, a12⟩ := h
  have e : dy ++ (ny ++ [xQ 5 (2 * cap2) (s_cpq fn cap2)]) = dy ++ ny ++ [xQ 5 (2 * cap2) (s_cpq fn cap2)] := (List.append_assoc _ _ _).symm
  have hp : ct (dy ++ (ny ++ [xQ 5 (2 * cap2) (s_cpq fn cap2)])) p (xB 12 [xI 7, xI 0, xI 0, xI (L.length : Int), xN, xC ci, xC cn]) := by rw [e]; exact ct_app a1 _
  have hc2 : ct (dy ++ (ny ++ [xQ 5 (2 * cap2) (s_cpq fn cap2)])) ci (xQ 4 cap fi) := by rw [e]; exact ct_app a2 _
  have hlt := ct_lt a1
  have hlt2 := ct_lt a2
  rw [List.length_append] at hlt hlt2
  refine ⟨ct_setd hp b3.1 _, ct_setdn hc2 (Ne.symm b3.2.2.2.1) b3.1, ct_setdn (ct_last dy ny _) (by omega) b3.1, ⟨b3.1, b3.2.1, by omega, b3.2.2.2.1, by omega, by omega⟩, gok_setd (by rw [e]; exact gok_app a4 _) a7.1 b3.1, a5, a6, ⟨a7.1, a7.2.1, g_hnew a4⟩, a9, a10, fun k hk2 => ?_, a12.1, by omega, a12.2.2.1, by omega, a12.2.2.2.2⟩
  obtain ⟨z1, cb, len, fb, z2, z3, z4⟩ := a11 k hk2
  exact ⟨z1, cb, len, fb, by unfold s_cpq; rw [if_pos (by omega)]; exact z2, z3, z4⟩
theorem s_nm_len2 (p : Int) (ts : List tk) : (s_nm p ts).length = ts.length := by cases ts <;> rfl
theorem DS_store {X : Nat → Int} {E : Int} {dy : xH} {g : Nat → Option xE} {p D : Nat} {ny : xH} {ci cn cap cap2 : Nat} {fi fn : Nat → Option Nat} {gk : Nat → Option xE} {L : List Int} {acc ts : List tk} {ns : List Int} {c cb len : Nat} {fb : Nat → Int} {nu : Int} (h : DS X E dy g p D ny ci cn cap cap2 fi fn gk L acc ns) (hk : L.length < cap ∧ L.length < cap2) (hl : L.length < 30) (ht : Tr X E gk (lP ts) D 0 c) (hb : s_bh (lsp ts) 0 = ts.length) (h1 : 1 ≤ ts.length) (hcb : gk cb = some (xA 1 len fb)) (hnu : nmw X E nu len fb) (hnc : ∀ k, k < L.length → fi k ≠ some c) : DS X E dy g p D (((ny.set (cn - (52 + dy.length)) (xQ 5 cap2 (x_up fn L.length (some cb)))).set (ci - (52 + dy.length)) (xQ 4 cap (x_up fi L.length (some c)))).set (p - (52 + dy.length)) (xB 12 [xI 7, xI 0, xI 0, xI ((L ++ [1 + (acc.length : Int)]).length : Int), xN, xC ci, xC cn])) ci cn cap cap2 (x_up fi L.length (some c)) (x_up fn L.length (some cb)) gk (L ++ [1 + (acc.length : Int)]) (acc ++ s_nm nu ts) (ns ++ [nu]) := by
  obtain ⟨a1, a2, a3, b3, a4, a5, a6, a7, a9, a10, a11, a12⟩ := h
  have c1 := ct_setdn (e2 := xQ 5 cap2 (x_up fn L.length (some cb))) a1 b3.2.2.2.2.1 b3.2.2.1
  have c2 := ct_setdn (e2 := xQ 5 cap2 (x_up fn L.length (some cb))) a2 b3.2.2.2.2.2 b3.2.2.1
  have c3 := ct_setd a3 b3.2.2.1 (xQ 5 cap2 (x_up fn L.length (some cb)))
  have d1 := ct_setdn (e2 := xQ 4 cap (x_up fi L.length (some c))) c1 b3.2.2.2.1 b3.2.1
  have d2 := ct_setd c2 b3.2.1 (xQ 4 cap (x_up fi L.length (some c)))
  have d3 := ct_setdn (e2 := xQ 4 cap (x_up fi L.length (some c))) c3 (Ne.symm b3.2.2.2.2.2) b3.2.1
  have hLL : (L ++ [1 + (acc.length : Int)]).length = L.length + 1 := by rw [List.length_append]; rfl
  refine ⟨ct_setd d1 b3.1 _, ct_setdn d2 (Ne.symm b3.2.2.2.1) b3.1, ct_setdn d3 (Ne.symm b3.2.2.2.2.1) b3.1, b3, gok_setd (gok_setd (gok_setd a4 a7.2.2 b3.2.2.1) a7.2.1 b3.2.1) a7.1 b3.1, a5, a6, a7, KL_snoc a9 ht hb h1 (s_nm_len2 nu ts) (fun a j j1 j2 j3 => ?_), by rw [List.length_append, hLL, a10]; rfl, fun k hk2 => ?_, by rw [hLL]; omega, by rw [hLL]; omega, by omega, by omega, by rw [hLL]; omega, fun i k hi hk2 ee => ?_⟩
  · by_cases e : j = 0
    · rw [e]; exact s_nm_tka nu ts h1 a ⟨fun z => by have := j3 z; omega, j1, j2⟩
    · rw [s_nm_get nu ts j (by omega)]
  · rw [hLL] at hk2
    have hold : ∀ j : Nat, j < 1 + acc.length → lnm ((7, 0, 0, 1, -1) :: (acc ++ s_nm nu ts)) j = lnm ((7, 0, 0, 1, -1) :: acc) j := fun j hj => by
      unfold lnm
      rw [show ((7, 0, 0, 1, -1) :: (acc ++ s_nm nu ts) : List tk) = ((7, 0, 0, 1, -1) :: acc) ++ s_nm nu ts from rfl, tk_getD_app, if_pos (by rw [List.length_cons]; omega)]
    by_cases e : k = L.length
    · rw [e, s_getD_app, if_neg (by omega), a10, Nat.sub_self, s_getD_app, if_neg (by omega), Nat.sub_self, x_up_s]
      refine ⟨?_, cb, len, fb, rfl, hcb, hnu⟩
      show nu = lnm ((7, 0, 0, 1, -1) :: (acc ++ s_nm nu ts)) (1 + (acc.length : Int)).toNat
      unfold lnm
      rw [show ((7, 0, 0, 1, -1) :: (acc ++ s_nm nu ts) : List tk) = ((7, 0, 0, 1, -1) :: acc) ++ s_nm nu ts from rfl, tk_getD_app, if_neg (by rw [List.length_cons]; omega), List.length_cons, show (1 + (acc.length : Int)).toNat - (acc.length + 1) = 0 by omega]
      cases ts with
      | nil => simp at h1
      | cons x l => rfl
    · obtain ⟨z1, cb2, len2, fb2, z2, z3, z4⟩ := a11 k (by omega)
      have hm := s_ch_lt a9.1 _ (s_getD_mem (show k < L.length by omega))
      rw [s_getD_app, if_pos (by omega), s_getD_app, if_pos (by omega), x_up_n _ _ e]
      refine ⟨?_, cb2, len2, fb2, z2, z3, z4⟩
      rw [hold _ (by omega)]
      exact z1
  · rw [hLL] at hi hk2
    by_cases ei : i = L.length
    · by_cases ek : k = L.length
      · omega
      · rw [ei, x_up_s, x_up_n _ _ ek] at ee
        exact absurd ee.symm (hnc k (by omega))
    · by_cases ek : k = L.length
      · rw [ek, x_up_s, x_up_n _ _ ei] at ee
        exact absurd ee (hnc i (by omega))
      · rw [x_up_n _ _ ei, x_up_n _ _ ek] at ee
        exact a12.2.2.2.2.2 i k (by omega) (by omega) ee
/-- a dictionary is whole -/
theorem DS_done {q : Nat → Int} {r : Nat → Option Nat} {A : Nat → Nat → Int} {X : Nat → Int} {f : Int} {K : Nat → Nat → Nat} {dy : xH} {g : Nat → Option xE} {p D : Nat} {ny : xH} {ci cn cap cap2 : Nat} {fi fn : Nat → Option Nat} {gk : Nat → Option xE} {L : List Int} {acc : List tk} {ns : List Int} {j e : Int} {tk2 : Nat → Int} (h : DS X (f + q 1345) dy g p D ny ci cn cap cap2 fi fn gk L acc ns) (hj : 0 ≤ j ∧ j ≤ q 1345) (hK : ∀ u w, mu u w ny ≤ K u w) (he : j = e - f) : orq q r A dy X f g K (D + 1) (s_bx 7 acc (some ([], e))) (some (xC p)) (hF (x_up q 1346 j) (x_up r 1344 (some 44)) (x_up A 43 tk2) ++ (dy ++ ny)) := by
  obtain ⟨a1, a2, a3, b3, a4, a5, a6, a7, a9, a10, a11, a12⟩ := h
  have hg1 : gle gk (x_up (x_up (x_up gk p (some (xB 12 [xI 7, xI 0, xI 0, xI (L.length : Int), xN, xC ci, xC cn]))) ci (some (xQ 4 cap fi))) cn (some (xQ 5 cap2 fn))) := fun k e2 z => by
    rw [x_up_n _ _ (fun ek => by rw [ek, a7.2.2] at z; cases z), x_up_n _ _ (fun ek => by rw [ek, a7.2.1] at z; cases z), x_up_n _ _ (fun ek => by rw [ek, a7.1] at z; cases z)]
    exact z
  refine ⟨j, tk2, ny, rfl, hj, hK, Or.inr ⟨(7, 0, 0, ((acc ++ []).length : Int) + 1, -1) :: (acc ++ []), e, p, _, rfl, rfl, he, gle_tr a5 hg1, gok_new (gok_new (gok_new a4 a1) a2) a3, gnw_up (gnw_up (gnw_up a6 b3.1 _) b3.2.1 _) b3.2.2.1 _, ?_, ?_, ?_⟩⟩
  rotate_left
  · cases hz : g p with
    | none => rfl
    | some z => have := a5 _ _ hz; rw [a7.1] at this; cases this
  · intro x y m bt ci2 nm cap9 fi9 h1 h2 i k hi hk ee
    rw [x_up_n _ _ b3.2.2.2.2.1, x_up_n _ _ b3.2.2.2.1, x_up_s] at h1
    have h1 := congrArg Prod.snd (Sum.inr.inj (Sum.inr.inj (Option.some.inj h1)))
    simp only [List.cons.injEq, Sum.inl.injEq, Sum.inr.injEq, Option.some.injEq] at h1
    obtain ⟨-, -, -, hm, -, hc, -⟩ := h1
    rw [← hc, x_up_n _ _ b3.2.2.2.2.2, x_up_s] at h2
    have h2 := Sum.inl.inj (Sum.inr.inj (Option.some.inj h2))
    have h3 : fi = fi9 := congrArg (fun z => z.2.2) h2
    rw [← h3] at ee
    exact a12.2.2.2.2.2 i k (by omega) (by omega) ee
  rw [List.append_nil]
  refine Tr_box (nm := some cn) (KL_head (KL_g hg1 a9)) (by omega) (by rw [x_up_n _ _ b3.2.2.2.2.1, x_up_n _ _ b3.2.2.2.1, x_up_s]) (by rw [x_up_n _ _ b3.2.2.2.2.2, x_up_s]) ⟨a12.1, by omega⟩ (Or.inr rfl) ⟨fun z => absurd z (by omega), fun _ => ⟨cn, cap2, fn, rfl, x_up_s _ _ _, a12.2.1, by omega, fun k hk => ?_⟩⟩
  obtain ⟨z1, cb, len, fb, z2, z3, z4⟩ := a11 k hk
  refine ⟨cb, len, fb, z2, hg1 _ _ z3, ?_⟩
  have hm := s_ch_lt a9.1 _ (s_getD_mem hk)
  rw [z1] at z4
  unfold lnm at z4 ⊢
  obtain ⟨m, hm⟩ : ∃ m, (L.getD k 0).toNat = m + 1 := ⟨(L.getD k 0).toNat - 1, by omega⟩
  rw [hm] at z4 ⊢
  exact z4
/-- the names that are there already -/
theorem DS_dup {M : Nat → Bool} {ns : List Int} {S : Int → Bool} (hM : ∀ k, k < ns.length → M k = S (ns.getD k 0)) : (s_idx M ns.length 0 = none ∧ ns.any S = false) ∨ ∃ i, s_idx M ns.length 0 = some i ∧ i < ns.length ∧ ns.any S = true := by
  cases h : s_idx M ns.length 0 with
  | none =>
    left
    refine ⟨rfl, ?_⟩
    rw [List.any_eq_false]
    intro x hx
    obtain ⟨k, hk, e⟩ := List.getElem_of_mem hx
    have := s_idx_none h k (Nat.zero_le _) (by omega)
    rw [hM k hk] at this
    rw [List.getD_eq_getElem?_getD, List.getElem?_eq_getElem hk] at this
    rw [← e]
    intro z
    have this : S ns[k] = false := this
    rw [this] at z
    cases z
  | some i =>
    right
    obtain ⟨h1, h2, h3, h4⟩ := s_idx_some h
    refine ⟨i, rfl, by omega, ?_⟩
    rw [List.any_eq_true]
    refine ⟨ns.getD i 0, s_getD_mem (by omega), ?_⟩
    rw [← hM i (by omega)]
    exact h3
