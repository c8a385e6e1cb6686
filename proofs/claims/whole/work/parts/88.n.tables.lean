/-! the reference: tables -/
theorem x_up_c {α : Type} (f : Nat → α) {a b : Nat} (h : a ≠ b) (x y : α) : x_up (x_up f a x) b y = x_up (x_up f b y) a x := by
  funext k
  by_cases e : k = a
  · rw [e, x_up_n _ _ h, x_up_s, x_up_s]
  · rw [x_up_n _ _ e]
    by_cases e2 : k = b
    · rw [e2, x_up_s, x_up_s]
    · rw [x_up_n _ _ e2, x_up_n _ _ e2, x_up_n _ _ e]
theorem x_up_2 {α : Type} (f : Nat → α) (a : Nat) (x y : α) : x_up (x_up f a x) a y = x_up f a y := by
  funext k
  by_cases e : k = a
  · rw [e, x_up_s, x_up_s]
  · rw [x_up_n _ _ e, x_up_n _ _ e, x_up_n _ _ e]
/-- a cell left out -/
def grm (g : Nat → Option xE) (c : Nat) : Nat → Option xE := fun k => if k = c then none else g k
theorem grm_n {g : Nat → Option xE} {c k : Nat} (h : k ≠ c) : grm g c k = g k := if_neg h
theorem gok_rm {g : Nat → Option xE} {c : Nat} {dy : xH} (h : gok g dy) : gok (grm g c) dy := fun k e z => by
  unfold grm at z
  split at z
  · cases z
  · exact h k e z
theorem grm_some {g : Nat → Option xE} {c k : Nat} {e e2 : xE} (hc : g c = some e) (hk : g k = some e2) (hne : e ≠ e2) : grm g c k = some e2 := by
  rw [grm_n]
  · exact hk
  · intro z
    rw [z, hc] at hk
    exact hne (Option.some.inj hk)
theorem Tr_rm {X : Nat → Int} {E : Int} {g : Nat → Option xE} {P : Nat → Nat → Int} {ca n : Nat} {fp : Nat → Int} (hc : g ca = some (xA 0 n fp)) : ∀ (D : Nat) (p : Int) (c : Nat), Tr X E g P D p c → Tr X E (grm g ca) P D p c
  | 0, _, _, z => z
  | D + 1, p, c, z => by
    obtain ⟨h0, x, y, m, bt, it, nm, h1, ⟨a1, a2, a3, a4, a5, a6⟩, L, b1, b2, b3, b4, b5, b6, b7, b8⟩ := z
    have nA : ∀ {n2 : Nat} {f2 : Nat → Int}, (xA 0 n fp : xE) ≠ xA 1 n2 f2 := fun h => by
      have h := Sum.inl.inj h
      have := congrArg Prod.fst h
      have this : (0 : Nat) = 1 := this
      omega
    have nQ : ∀ {t2 n2 : Nat} {f2 : Nat → Option Nat}, (xA 0 n fp : xE) ≠ xQ t2 n2 f2 := fun h => by cases h
    have nB : ∀ {t2 : Nat} {f2 : List xV}, (xA 0 n fp : xE) ≠ xB t2 f2 := fun h => by cases h
    refine ⟨h0, x, y, m, bt, it, nm, grm_some hc h1 nB, ⟨a1, a2, a3, fun z => ?_, fun z => ?_, a6⟩, L, b1, b2, b3, fun z => ?_, fun z => ?_, b6, b7, b8⟩
    · obtain ⟨c1, c2, c3, c4, cb, f, c5, c6, c7⟩ := a4 z
      exact ⟨c1, c2, c3, c4, cb, f, c5, grm_some hc c6 nA, c7⟩
    · obtain ⟨c1, cb, f, c5, c6, c7⟩ := a5 z
      exact ⟨c1, cb, f, c5, grm_some hc c6 nA, c7⟩
    · obtain ⟨ci, cap, fi, c1, c2, c3, c4, c5⟩ := b4 z
      exact ⟨ci, cap, fi, c1, grm_some hc c2 nQ, c3, c4, fun k hk => by obtain ⟨cc, d1, d2⟩ := c5 k hk; exact ⟨cc, d1, Tr_rm hc D _ _ d2⟩⟩
    · obtain ⟨cn, cap, fn, c1, c2, c3, c4, c5⟩ := b5 z
      refine ⟨cn, cap, fn, c1, grm_some hc c2 nQ, c3, c4, fun k hk => ?_⟩
      obtain ⟨cb, len, fb, d1, d2, d3⟩ := c5 k hk
      exact ⟨cb, len, fb, d1, grm_some hc d2 nA, d3⟩
theorem Dj_le {g g2 : Nat → Option xE} {c : Nat} (h : gle g2 g) (hd : Dj g c) : Dj g2 c := fun x y m bt ci nm cap fi h1 h2 => hd x y m bt ci nm cap fi (h _ _ h1) (h _ _ h2)
theorem grm_le (g : Nat → Option xE) (ca : Nat) : gle (grm g ca) g := fun k e z => by
  unfold grm at z
  split at z
  · cases z
  · exact z
theorem Dj_g {X : Nat → Int} {E : Int} {g g2 : Nat → Option xE} {P : Nat → Nat → Int} {D : Nat} {p : Int} {c : Nat} (hg : gle g g2) (ht : Tr X E g P (D + 1) p c) (hd : Dj g c) : Dj g2 c := fun x y m bt ci nm cap fi h1 h2 => by
  obtain ⟨-, x2, y2, m2, bt2, it2, nm2, a1, -, L, b1, b2, b3, b4, -⟩ := ht
  have h3 := h1.symm.trans (hg _ _ a1)
  have h3 := congrArg Prod.snd (Sum.inr.inj (Sum.inr.inj (Option.some.inj h3)))
  simp only [List.cons.injEq, Sum.inl.injEq, Sum.inr.injEq] at h3
  obtain ⟨hk, hx, hy, hm, hbt, hit, hnm, -⟩ := h3
  obtain ⟨ci3, cap3, fi3, c1, c2, -⟩ := b4 (Or.inr (Or.inl hk.symm))
  rw [← hk, ← hx, ← hy, ← hm, ← hbt, ← hit, ← hnm] at a1
  rw [c1] at hit
  have hci := Option.some.inj hit
  rw [← hci] at c2
  have h4 := Sum.inl.inj (Sum.inr.inj (Option.some.inj (h2.symm.trans (hg _ _ c2))))
  have h5 : fi = fi3 := congrArg (fun z => z.2.2) h4
  exact hd x y m bt ci nm cap3 fi a1 (by rw [c2, h5])
/-- from a table to the next one -/
theorem RX_next {t sz sz2 N : Int} {x : ost} {fis fge fpl ft : Nat → Int} (ht : 0 ≤ t) (h : RX t sz N x fis fge fpl ft) (hs : (t = 0 ∧ x.2.2.2.2 < sz2) ∨ (¬ t = 0 ∧ sz2 = sz)) : RX (t + 1) sz2 N (s_hi x (-1)) fis fge fpl (fun _ => 0) := fun k hk => by
  obtain ⟨h1, h2, h3, h4, h5, h6, h7, h8, h9⟩ := h k hk
  refine ⟨h1, h2, Or.inl rfl, ⟨fun z => absurd rfl z, fun z => ?_⟩, ?_, fun z1 z2 => ?_, h7, fun z1 z2 => ?_, fun z => ?_⟩
  · have z : x.1 k = t + 1 + 1 := z
    omega
  · show 0 ≤ x.1 k ∧ x.1 k ≤ t + 1 + 1
    omega
  · exact h6 z1 (by omega)
  · show x.2.2.2.1 k = 0 ∧ x.2.2.1 k = 0
    rcases hs with ⟨e1, e2⟩ | ⟨e1, e2⟩
    · have hx : ¬ x.1 k = t + 1 := fun z => by have := h9 z; omega
      have h0 : fis k = 0 := h2.mpr (by omega)
      exact ⟨(h7 h0).1, (h7 h0).2.1⟩
    · exact h8 e1 (by omega)
  · have z : x.1 k = t + 1 + 1 := z
    omega
/-- the entries at the end -/
def EX (sz : Int) (fis fge gn us : Nat → Int) : Prop := (∀ k : Nat, k < 300 → (fis k = 0 ∨ fis k = 1 ∨ fis k = 2) ∧ us k = (if fis k = 2 then 1 else 0) ∧ gn k = fge k ∧ (0 ≤ fge k ∧ fge k ≤ 99999) ∧ (sz ≤ k → fis k = 0 ∧ fge k = 0)) ∧ fis 300 = 0 ∧ fge 300 = 0
theorem RX_OX {t sz N : Int} {x : ost} {fis fge fpl ft : Nat → Int} (hz : sz ≤ 300) (h : RX (t + 1) sz N x fis fge fpl ft) : OX sz N fis fge fpl x.2.1 x.2.2.1 x.2.2.2.1 := fun k hk => by
  obtain ⟨h1, h2, h3, h4, h5, h6, h7, h8, h9⟩ := h k (by omega)
  by_cases c : fis k = 0
  · have := h7 c
    exact ⟨⟨fun z => by omega, fun z => absurd this.1 z⟩, fun z => by omega⟩
  · have := h6 c (Or.inr hk)
    refine ⟨⟨fun z => by rw [this.1, if_pos z]; omega, fun z => ?_⟩, fun z => ⟨this.2.1, this.2.2.1, this.2.2.2.1, this.2.2.2.2.1⟩⟩
    rw [this.1] at z
    split at z
    · next e => exact e
    · exact absurd rfl z
theorem RX_EX {t sz N : Int} {x : ost} {fis fge fpl ft fis2 fge2 : Nat → Int} (ht : 0 ≤ t) (h : RX (t + 1) sz N x fis fge fpl ft) (a1 : ∀ i : Nat, (i : Int) < sz → fis2 i = fis i) (a2 : ∀ i : Nat, sz ≤ i → i ≤ 300 → fis2 i = 0) (a4 : ∀ i : Nat, i ≤ 300 → fge2 i = if fis2 i = 0 then 0 else fge i) (hz : sz ≤ 300) : EX sz fis2 fge2 x.2.2.1 x.2.2.2.1 := by
  refine ⟨fun k hk => ?_, a2 300 (by omega) (by omega), by rw [a4 300 (by omega), if_pos (a2 300 (by omega) (by omega))]⟩
  obtain ⟨h1, h2, h3, h4, h5, h6, h7, h8, h9⟩ := h k hk
  have a4k := a4 k (by omega)
  by_cases c : (k : Int) < sz
  · have e := a1 k c
    rw [e] at a4k ⊢
    by_cases c0 : fis k = 0
    · have := h7 c0
      rw [if_pos c0] at a4k
      exact ⟨h1, by rw [if_neg (by omega)]; exact this.1, by omega, by omega, fun z => by omega⟩
    · have := h6 c0 (Or.inr c)
      rw [if_neg c0] at a4k
      exact ⟨h1, this.1, by omega, by omega, fun z => by omega⟩
  · have e := a2 k (by omega) (by omega)
    have := h8 (by omega) (by omega)
    rw [e, if_pos rfl] at a4k
    rw [e]
    exact ⟨Or.inl rfl, by rw [if_neg (by omega)]; exact this.1, by omega, by omega, fun _ => ⟨rfl, a4k⟩⟩
/-- what tables cost, and the objects behind them -/
def k_tabs (u w : Nat) (b : Nat → Int) (n f : Int) : Nat → Int → Int → List Int → ost → Int → Nat
  | 0, _, _, _, _, _ => 0
  | m + 1, k, nx, pls, x, sz => if nx ∈ pls ∨ nx < 0 ∨ n - f ≤ nx then 0 else k_tr u w b n (s_tab b n f k sz nx pls x) + ((s_tab b n f k sz nx pls x).bind (fun y => (s_trd b n y.2 y.1.2.2.2.2).map (fun z => match z.2.2 with
    | none => k_obs u w b n f y.1.2.1 y.1.2.2.1 y.1.2.2.2.1 (if k = 0 then z.2.1 else sz) (if k = 0 then z.2.1 else sz).toNat 0
    | some p => k_tabs u w b n f m (k + 1) p (pls ++ [nx]) y.1 (if k = 0 then z.2.1 else sz)))).getD 0
/-- what reading a file leaves -/
def rqp (q : Nat → Int) (r : Nat → Option Nat) (A : Nat → Nat → Int) (X : Nat → Int) (f : Int) (g : Nat → Option xE) (cp : Nat) (bt : Option Nat) (lt : Int) (fva : Nat → Option Nat) (fch : Nat → Int) (n0 : Nat) (M : Nat → Nat → Nat) (S : otr) : Option xV → xH → Prop := fun v h2 => ∃ j2 ol2 tk2 dyn2, h2 = hF (x_up (x_up q 1354 ol2) 1346 j2) (x_up r 1344 (some 44)) (x_up A 43 tk2) ++ dyn2 ∧ (0 ≤ j2 ∧ j2 ≤ 4000) ∧ (∀ u w, mu u w dyn2 ≤ M u w) ∧ ((¬ S.1 = 0 ∧ (1 ≤ S.1 ∧ S.1 ≤ 4) ∧ v = some (xI S.1) ∧ gok g dyn2) ∨ (S.1 = 0 ∧ ((v = some (xI 5) ∧ ¬ (s_rvs X (f + q 1345) f S.2.1.2.1 S.2.1.2.2.1 S.2.1.2.2.2.1 S.2.2.1 ∧ s_sm (s_lrr X (f + q 1345) f S.2.1.2.1 S.2.1.2.2.1 S.2.1.2.2.2.1 S.2.2.1) S.2.2.1.toNat ≤ 900) ∧ gok g dyn2) ∨ (v = some (xI 0) ∧ (s_rvs X (f + q 1345) f S.2.1.2.1 S.2.1.2.2.1 S.2.1.2.2.2.1 S.2.2.1 ∧ s_sm (s_lrr X (f + q 1345) f S.2.1.2.1 S.2.1.2.2.1 S.2.1.2.2.2.1 S.2.2.1) S.2.2.1.toNat ≤ 900) ∧ ∃ g2 c fis fge fpl fva2, gle g g2 ∧ gok g2 dyn2 ∧ gnw g g2 n0 ∧ PB dyn2 cp bt S.2.2.2.1 lt (some c) S.2.2.1 fis fge fpl fva2 fch ∧ Tr X (f + q 1345) g2 (lP S.2.2.2.2) 9 0 c ∧ Dj g2 c ∧ (1 ≤ S.2.2.1 ∧ S.2.2.1 ≤ 300) ∧ EX S.2.2.1 fis fge S.2.1.2.2.1 S.2.1.2.2.2.1 ∧ (∀ k : Nat, (S.2.1.2.2.2.1 k = 0 ∨ S.2.2.1 ≤ k) → fva2 k = fva k) ∧ ∀ k : Nat, (k : Int) < S.2.2.1 → ¬ S.2.1.2.2.2.1 k = 0 → ∃ ts c2, s_rv X (f + q 1345) f S.2.1.2.1 S.2.1.2.2.1 S.2.1.2.2.2.1 S.2.2.1 k = some ts ∧ fva2 k = some c2 ∧ Tr X (f + q 1345) g2 (lP ts) 9 0 c2))))
theorem w_M_read_216 (Z : xZ) (d : Nat) (q : Nat → Int) (r : Nat → Option Nat) (A : Nat → Nat → Int) (j ol : Int) (tz : Nat → Int) (dyn : xH) (cp ca : Nat) (bt : Option Nat) (tb lt : Int) (tr : Option Nat) (sz : Int) (fis fge fpl : Nat → Int) (fva : Nat → Option Nat) (fch fp : Nat → Int) (l2 l3 nx : Int) (hp : PB dyn cp bt tb lt tr sz fis fge fpl fva fch) (hca : ct dyn ca (xA 0 6 fp)) (htb : 0 ≤ tb ∧ tb ≤ 6) (Q : Option xV → xH → Prop) (k3 : ∀ i : Nat, (i : Int) < tb → fp i = nx → Q (some (xI 3)) (hF (x_up (x_up q 1354 ol) 1346 j) (x_up r 1344 (some 44)) (x_up A 43 tz) ++ dyn)) (kk : (∀ i : Nat, (i : Int) < tb → ¬ fp i = nx) → xW Z d Y_M_read 243 [(0, xC 42), (1, xC cp), (2, xI l2), (3, xI l3), (4, xC ca), (5, xI nx)] [] (hF (x_up (x_up q 1354 ol) 1346 j) (x_up r 1344 (some 44)) (x_up A 43 tz) ++ dyn) Q) : ∀ (m : Nat) (t : Int), (t + m = tb ∧ 0 ≤ t) → (∀ i : Nat, (i : Int) < t → ¬ fp i = nx) → xW Z d Y_M_read 216 [(0, xC 42), (1, xC cp), (2, xI l2), (3, xI l3), (4, xC ca), (5, xI nx), (6, xI t)] [] (hF (x_up (x_up q 1354 ol) 1346 j) (x_up r 1344 (some 44)) (x_up A 43 tz) ++ dyn) Q := by
  intro m
  induction m with
  | zero =>
    intro t ht hno
    refine x_iload (x_d C_M_read 113 rfl) rfl ?_
    refine x_aload_n (x_d C_M_read 114 rfl) rfl ?_
    refine x_getfield (v := xI (tb)) (x_d C_M_read 115 rfl) f_M_224 (ct_get hp.1 _ _ _) rfl ?_
    refine x_icmp_ge (tgt := 243) (x_d C_M_read 116 rfl) rfl (fun _ => ?_) (fun q => absurd q (by omega))
    refine x_locs [0, 1, 2, 3, 4, 5] rfl ?_
    exact kk (fun i hi => hno i (by omega))
  | succ m ih =>
    intro t ht hno
    refine x_iload (x_d C_M_read 113 rfl) rfl ?_
    refine x_aload_n (x_d C_M_read 114 rfl) rfl ?_
    refine x_getfield (v := xI (tb)) (x_d C_M_read 115 rfl) f_M_224 (ct_get hp.1 _ _ _) rfl ?_
    refine x_icmp_ge (tgt := 243) (x_d C_M_read 116 rfl) rfl (fun q => absurd q (by omega)) (fun _ => ?_)
    refine x_aload (x_d C_M_read 117 rfl) rfl ?_
    refine x_iload (x_d C_M_read 118 rfl) rfl ?_
    refine x_iaload (f := fp) (x_d C_M_read 119 rfl) (ct_get hca _ _ _) (by omega) (by omega) ?_
    refine x_iload (x_d C_M_read 120 rfl) rfl ?_
    refine x_icmp_ne (tgt := 237) (x_d C_M_read 121 rfl) rfl (fun c2 => ?_) (fun c2 => ?_)
    · refine x_iinc (l1 := [(6, xI (t + 1)), (0, xC 42), (1, xC cp), (2, xI (l2)), (3, xI (l3)), (4, xC ca), (5, xI (nx))]) (x_d C_M_read 124 rfl) rfl ⟨by omega, by omega⟩ (by decide) rfl ?_
      refine x_goto (tgt := 216) (x_d C_M_read 125 rfl) rfl ?_
      refine x_locs [1, 2, 3, 4, 5, 6, 0] rfl ?_
      exact ih (t + 1) (by omega) (fun i hi => by by_cases e : i = t.toNat; rw [e]; omega; exact hno i (by omega))
    · refine x_iconst (x_d C_M_read 122 rfl) ⟨by omega, by omega⟩ ?_
      refine x_ireturn (x_d C_M_read 123 rfl) ?_
      exact k3 t.toNat (by omega) (by omega)
