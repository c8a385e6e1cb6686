/-! cells behind the fixed ones -/
theorem hF_len (q : Nat → Int) (r : Nat → Option Nat) (A : Nat → Nat → Int) : (hF q r A).length = 52 := rfl
/-- cell c of the cells behind the fixed ones -/
def ct (dy : xH) (c : Nat) (e : xE) : Prop := 52 ≤ c ∧ dy[c - 52]? = some e
theorem ct_get {dy : xH} {c : Nat} {e : xE} (h : ct dy c e) (q : Nat → Int) (r : Nat → Option Nat) (A : Nat → Nat → Int) : (hF q r A ++ dy)[c]? = some e := by
  rw [List.getElem?_append_right (by rw [hF_len]; exact h.1), hF_len]
  exact h.2
theorem ct_app {dy : xH} {c : Nat} {e : xE} (h : ct dy c e) (l : xH) : ct (dy ++ l) c e := ⟨h.1, by
  have h2 := h.2
  rw [List.getElem?_append_left (List.getElem?_eq_some_iff.mp h2).1]
  exact h2⟩
theorem ct_lt {dy : xH} {c : Nat} {e : xE} (h : ct dy c e) : c < 52 + dy.length := by
  have := (List.getElem?_eq_some_iff.mp h.2).1
  have := h.1
  omega
theorem ct_new (dy : xH) (l : xH) (k : Nat) {e : xE} (h : l[k]? = some e) : ct (dy ++ l) (52 + dy.length + k) e := ⟨by omega, by
  rw [show 52 + dy.length + k - 52 = dy.length + k by omega, List.getElem?_append_right (by omega), show dy.length + k - dy.length = k by omega]
  exact h⟩
theorem ct_new0 (dy : xH) (l : xH) {e : xE} (h : l[0]? = some e) : ct (dy ++ l) (52 + dy.length) e := ct_new dy l 0 h
theorem g_set {dy : xH} {c : Nat} (h : 52 ≤ c) (q : Nat → Int) (r : Nat → Option Nat) (A : Nat → Nat → Int) (e : xE) : (hF q r A ++ dy).set c e = hF q r A ++ dy.set (c - 52) e := by
  rw [List.set_append_right _ _ (by rw [hF_len]; exact h), hF_len]
theorem ct_set {dy : xH} {c : Nat} {e : xE} (h : ct dy c e) (e2 : xE) : ct (dy.set (c - 52) e2) c e2 := ⟨h.1, by
  rw [List.getElem?_set, if_pos rfl, if_pos (List.getElem?_eq_some_iff.mp h.2).1]⟩
theorem ct_setn {dy : xH} {c c2 : Nat} {e e2 : xE} (h : ct dy c e) (hc : c ≠ c2) (h2 : 52 ≤ c2) : ct (dy.set (c2 - 52) e2) c e := ⟨h.1, by
  have := h.1
  rw [List.getElem?_set, if_neg (by omega)]
  exact h.2⟩
theorem g_len (q : Nat → Int) (r : Nat → Option Nat) (A : Nat → Nat → Int) (dy l : xH) {n : Nat} (h : l.length = n) : (hF q r A ++ (dy ++ l)).length = 52 + dy.length + n := by
  rw [List.length_append, List.length_append, hF_len, h]
  omega
theorem g_len0 (q : Nat → Int) (r : Nat → Option Nat) (A : Nat → Nat → Int) (dy : xH) : (hF q r A ++ dy).length = 52 + dy.length := by
  rw [List.length_append, hF_len]
theorem g_push (q : Nat → Int) (r : Nat → Option Nat) (A : Nat → Nat → Int) (dy l : xH) (e : xE) : hF q r A ++ (dy ++ l) ++ [e] = hF q r A ++ (dy ++ (l ++ [e])) := by
  rw [List.append_assoc, List.append_assoc]
theorem g_push0 (q : Nat → Int) (r : Nat → Option Nat) (A : Nat → Nat → Int) (dy : xH) (e : xE) : hF q r A ++ dy ++ [e] = hF q r A ++ (dy ++ [e]) := by
  rw [List.append_assoc]
theorem g_setl (q : Nat → Int) (r : Nat → Option Nat) (A : Nat → Nat → Int) (dy l : xH) (k : Nat) (e : xE) : (hF q r A ++ (dy ++ l)).set (52 + dy.length + k) e = hF q r A ++ (dy ++ l.set k e) := by
  rw [g_set (by omega), show 52 + dy.length + k - 52 = dy.length + k by omega, List.set_append_right _ _ (by omega), show dy.length + k - dy.length = k by omega]
theorem g_setl0 (q : Nat → Int) (r : Nat → Option Nat) (A : Nat → Nat → Int) (dy l : xH) (e : xE) : (hF q r A ++ (dy ++ l)).set (52 + dy.length) e = hF q r A ++ (dy ++ l.set 0 e) := g_setl q r A dy l 0 e
theorem g_left {h : xH} {a : Nat} {e : xE} (ha : h[a]? = some e) (l : xH) : (h ++ l)[a]? = some e := by
  rw [List.getElem?_append_left (List.getElem?_eq_some_iff.mp ha).1]
  exact ha
theorem g_right (h : xH) (e : xE) : (h ++ [e])[h.length]? = some e := by
  rw [List.getElem?_append_right (Nat.le_refl _), Nat.sub_self]
  rfl
theorem g_setr (h : xH) (e e2 : xE) : (h ++ [e]).set h.length e2 = h ++ [e2] := by
  rw [List.set_append_right _ _ (Nat.le_refl _), Nat.sub_self]
  rfl
/-- what a heap costs: u a cell, v an element -/
def mu (u v : Nat) (h : xH) : Nat := u * h.length + v * x_S h
theorem mu_nil (u v : Nat) : mu u v [] = 0 := rfl
theorem x_S_app (a b : xH) : x_S (a ++ b) = x_S a + x_S b := by
  unfold x_S
  rw [List.map_append, List.sum_append]
theorem mu_app (u v : Nat) (a b : xH) : mu u v (a ++ b) = mu u v a + mu u v b := by
  unfold mu
  rw [List.length_append, x_S_app, Nat.mul_add, Nat.mul_add]
  omega
theorem mu_cons (u v : Nat) (e : xE) (l : xH) : mu u v (e :: l) = u + v * x_sz e + mu u v l := by
  rw [show e :: l = [e] ++ l from rfl, mu_app]
  show u * 1 + v * x_S [e] + _ = _
  have : x_S [e] = x_sz e := by unfold x_S; simp
  rw [this, Nat.mul_one]
theorem mu_set (u v : Nat) {h : xH} {k : Nat} {c e : xE} (hc : h[k]? = some e) (hs : x_sz c = x_sz e) : mu u v (h.set k c) = mu u v h := by
  unfold mu
  rw [List.length_set, x_S_set hc hs]
theorem c_MQ_init (Z : xZ) (d : Nat) (h : xH) (hd : 1 ≤ d) (a : Nat) (k : Int) {k0 : Int} {fs : List xV} (ha : h[a]? = some (xB 12 (xI k0 :: fs))) : xMet Z d Y_MQ_init [xC a, xI k] h (fun v h2 => v = none ∧ h2 = h.set a (xB 12 (xI k :: fs))) := by
  refine xMet_of (by decide) (Nat.le_of_ble_eq_true rfl) (fun v h2 hq => by rw [hq.1]; trivial) ?_
  refine x_aload_n (x_d C_MQ_init 0 rfl) rfl ?_
  refine x_objInit (x_d C_MQ_init 1 rfl) o_MQ_3 ob_1 (Nat.le_of_ble_eq_true rfl) (by omega) ?_
  refine x_aload_n (x_d C_MQ_init 2 rfl) rfl ?_
  refine x_iload_n (x_d C_MQ_init 3 rfl) rfl ?_
  refine x_putfinal (h1 := h.set a (xB 12 (xI k :: fs))) (x_d C_MQ_init 4 rfl) rfl p_MQ_9 ha rfl rfl trivial rfl ?_
  refine x_return (x_d C_MQ_init 5 rfl) ?_
  exact ⟨rfl, rfl⟩
theorem c_Ar_copyOf (Z : xZ) (d : Nat) (h : xH) (hd : 2 ≤ d) (a n0 : Nat) (f : Nat → Int) (n : Int) (ha : h[a]? = some (xA 1 n0 f)) (hn : 0 ≤ n ∧ n ≤ n0 ∧ (n0 : Int) ≤ 20000) : xMet Z d Y_Ar_copyOf [xC a, xI n] h (fun v h2 => ∃ g, v = some (xC h.length) ∧ h2 = h ++ [xA 1 n.toNat g] ∧ ∀ k : Nat, (k : Int) < n → g k = f k) := by
  refine xMet_of (by decide) (Nat.le_of_ble_eq_true rfl) (fun v h2 hq => by obtain ⟨_, e, _⟩ := hq; rw [e]; trivial) ?_
  refine x_iload_n (x_d C_Ar_copyOf 0 rfl) rfl ?_
  refine x_aload_n (x_d C_Ar_copyOf 1 rfl) rfl ?_
  refine x_arraylength (x_d C_Ar_copyOf 2 rfl) ha (by decide) (by omega) ?_
  refine x_icmp_ne (tgt := 14) (x_d C_Ar_copyOf 3 rfl) rfl (fun c1 => ?_) (fun c1 => ?_)
  · refine x_iload_n (x_d C_Ar_copyOf 8 rfl) rfl ?_
    refine x_newarrayL (k := h.length) (h1 := h ++ [xA 1 n.toNat (fun _ => 0)]) (x_d C_Ar_copyOf 9 rfl) at_byte (by omega) (by omega) rfl rfl ?_
    refine x_astore_n (l1 := [(2, xC h.length), (0, xC a), (1, xI n)]) (x_d C_Ar_copyOf 10 rfl) (by decide) rfl ?_
    refine x_aload_n (x_d C_Ar_copyOf 11 rfl) rfl ?_
    refine x_iconst (x_d C_Ar_copyOf 12 rfl) ⟨by omega, by omega⟩ ?_
    refine x_aload_n (x_d C_Ar_copyOf 13 rfl) rfl ?_
    refine x_iconst (x_d C_Ar_copyOf 14 rfl) ⟨by omega, by omega⟩ ?_
    refine x_aload_n (x_d C_Ar_copyOf 15 rfl) rfl ?_
    refine x_arraylength (x_d C_Ar_copyOf 16 rfl) (g_left ha _) (by decide) (by omega) ?_
    refine x_iload_n (x_d C_Ar_copyOf 17 rfl) rfl ?_
    refine x_mmin (st := [xI 0, xC h.length, xI 0, xC a]) (x_d C_Ar_copyOf 18 rfl) kM_Ar_304 mmin_w (Nat.le_of_ble_eq_true rfl) (by omega) ?_
    refine x_arraycopy (st := []) (h1 := h ++ [xA 1 n.toNat (va_cpy f (fun _ => 0) (0 : Int).toNat (0 : Int).toNat (min (n0 : Int) n).toNat)]) (x_d C_Ar_copyOf 19 rfl) ac_Ar_150 ac_w (Or.inr rfl) (g_left ha _) (g_right _ _) (by omega) (by omega) (by omega) (by omega) (by omega) (Nat.le_of_ble_eq_true rfl) (by omega) (g_setr _ _ _) ?_
    refine x_aload_n (x_d C_Ar_copyOf 20 rfl) rfl ?_
    refine x_areturn (x_d C_Ar_copyOf 21 rfl) ?_
    refine ⟨_, rfl, rfl, fun k hk => ?_⟩
    unfold va_cpy
    rw [if_pos (by omega)]
    congr 1
    omega
  · obtain rfl : n = n0 := by omega
    refine x_aload_n (x_d C_Ar_copyOf 4 rfl) rfl ?_
    refine x_clone (k := h.length) (h1 := h ++ [xA 1 n0 f]) rfl (x_d C_Ar_copyOf 5 rfl) ha (Nat.le_of_ble_eq_true rfl) (by omega) rfl rfl ?_
    refine x_castB rfl (x_d C_Ar_copyOf 6 rfl) (g_right _ _) ?_
    refine x_areturn (x_d C_Ar_copyOf 7 rfl) ?_
    exact ⟨f, rfl, rfl, fun _ _ => rfl⟩
theorem c_Ar_checkLength (Z : xZ) (d : Nat) (h : xH) (a b : Int) (hab : a ≤ b) : xMet Z d Y_Ar_checkLength [xI a, xI b] h (fun v h2 => v = none ∧ h2 = h) := by
  refine xMet_of (by decide) (Nat.le_of_ble_eq_true rfl) (fun v h2 hq => by rw [hq.1]; trivial) ?_
  refine x_iload_n (x_d C_Ar_checkLength 0 rfl) rfl ?_
  refine x_iload_n (x_d C_Ar_checkLength 1 rfl) rfl ?_
  refine x_icmp_ge (tgt := 37) (x_d C_Ar_checkLength 2 rfl) rfl (fun _ => ?_) (fun q => absurd q (by omega))
  refine x_return (x_d C_Ar_checkLength 17 rfl) ?_
  exact ⟨rfl, rfl⟩
theorem c_Ar_copyOfRangeByte (Z : xZ) (d : Nat) (h : xH) (hd : 2 ≤ d) (a n0 : Nat) (f : Nat → Int) (i b : Int) (ha : h[a]? = some (xA 1 n0 f)) (hn : 0 ≤ i ∧ i ≤ b ∧ b ≤ n0 ∧ (n0 : Int) ≤ 20000) : xMet Z d Y_Ar_copyOfRangeByte [xC a, xI i, xI b] h (fun v h2 => ∃ g, v = some (xC h.length) ∧ h2 = h ++ [xA 1 (b - i).toNat g] ∧ ∀ k : Nat, (k : Int) < b - i → g k = f (i.toNat + k)) := by
  refine xMet_of (by decide) (Nat.le_of_ble_eq_true rfl) (fun v h2 hq => by obtain ⟨_, e, _⟩ := hq; rw [e]; trivial) ?_
  refine x_iload_n (x_d C_Ar_copyOfRangeByte 0 rfl) rfl ?_
  refine x_iload_n (x_d C_Ar_copyOfRangeByte 1 rfl) rfl ?_
  refine x_invokestatic (st := []) (av := [xI i, xI b]) (x_d C_Ar_copyOfRangeByte 2 rfl) k_Ar_343 m_Ar_checkLength s_Ar_checkLength rfl (Nat.le_of_ble_eq_true rfl) (by omega) rfl (c_Ar_checkLength Z (d - 1) h i b (by omega)) ?_
  rintro _ h9 ⟨rfl, hh9⟩
  rw [hh9]
  refine x_iload_n (x_d C_Ar_copyOfRangeByte 3 rfl) rfl ?_
  refine x_iload_n (x_d C_Ar_copyOfRangeByte 4 rfl) rfl ?_
  refine x_isub (x_d C_Ar_copyOfRangeByte 5 rfl) ⟨by omega, by omega⟩ ?_
  refine x_istore_n (l1 := [(3, xI (b - i)), (0, xC a), (1, xI i), (2, xI b)]) (x_d C_Ar_copyOfRangeByte 6 rfl) (by decide) rfl ?_
  refine x_iload_n (x_d C_Ar_copyOfRangeByte 7 rfl) rfl ?_
  refine x_newarrayL (k := h.length) (h1 := h ++ [xA 1 (b - i).toNat (fun _ => 0)]) (x_d C_Ar_copyOfRangeByte 8 rfl) at_byte (by omega) (by omega) rfl rfl ?_
  refine x_astore (l1 := [(4, xC h.length), (3, xI (b - i)), (0, xC a), (1, xI i), (2, xI b)]) (x_d C_Ar_copyOfRangeByte 9 rfl) (by decide) rfl ?_
  refine x_aload_n (x_d C_Ar_copyOfRangeByte 10 rfl) rfl ?_
  refine x_iload_n (x_d C_Ar_copyOfRangeByte 11 rfl) rfl ?_
  refine x_aload (x_d C_Ar_copyOfRangeByte 12 rfl) rfl ?_
  refine x_iconst (x_d C_Ar_copyOfRangeByte 13 rfl) ⟨by omega, by omega⟩ ?_
  refine x_aload_n (x_d C_Ar_copyOfRangeByte 14 rfl) rfl ?_
  refine x_arraylength (x_d C_Ar_copyOfRangeByte 15 rfl) (g_left ha _) (by decide) (by omega) ?_
  refine x_iload_n (x_d C_Ar_copyOfRangeByte 16 rfl) rfl ?_
  refine x_isub (x_d C_Ar_copyOfRangeByte 17 rfl) ⟨by omega, by omega⟩ ?_
  refine x_iload_n (x_d C_Ar_copyOfRangeByte 18 rfl) rfl ?_
  refine x_mmin (st := [xI 0, xC h.length, xI i, xC a]) (x_d C_Ar_copyOfRangeByte 19 rfl) kM_Ar_304 mmin_w (Nat.le_of_ble_eq_true rfl) (by omega) ?_
  refine x_arraycopy (st := []) (h1 := h ++ [xA 1 (b - i).toNat (va_cpy f (fun _ => 0) (i : Int).toNat (0 : Int).toNat (min ((n0 : Int) - i) (b - i)).toNat)]) (x_d C_Ar_copyOfRangeByte 20 rfl) ac_Ar_150 ac_w (Or.inr rfl) (g_left ha _) (g_right _ _) (by omega) (by omega) (by omega) (by omega) (by omega) (Nat.le_of_ble_eq_true rfl) (by omega) (g_setr _ _ _) ?_
  refine x_aload (x_d C_Ar_copyOfRangeByte 21 rfl) rfl ?_
  refine x_areturn (x_d C_Ar_copyOfRangeByte 22 rfl) ?_
  refine ⟨_, rfl, rfl, fun k hk => ?_⟩
  unfold va_cpy
  rw [if_pos (by omega)]
  congr 1
theorem c_Ar_copyOfRange (Z : xZ) (d : Nat) (h : xH) (hd : 3 ≤ d) (a n0 : Nat) (f : Nat → Int) (i b : Int) (ha : h[a]? = some (xA 1 n0 f)) (hn : 0 < i ∧ i ≤ b ∧ b ≤ n0 ∧ (n0 : Int) ≤ 20000) : xMet Z d Y_Ar_copyOfRange [xC a, xI i, xI b] h (fun v h2 => ∃ g, v = some (xC h.length) ∧ h2 = h ++ [xA 1 (b - i).toNat g] ∧ ∀ k : Nat, (k : Int) < b - i → g k = f (i.toNat + k)) := by
  refine xMet_of (by decide) (Nat.le_of_ble_eq_true rfl) (fun v h2 hq => by obtain ⟨_, e, _⟩ := hq; rw [e]; trivial) ?_
  refine x_iload_n (x_d C_Ar_copyOfRange 0 rfl) rfl ?_
  refine x_if_ne (tgt := 10) (x_d C_Ar_copyOfRange 1 rfl) rfl (fun _ => ?_) (fun q => absurd q (by omega))
  refine x_aload_n (x_d C_Ar_copyOfRange 6 rfl) rfl ?_
  refine x_iload_n (x_d C_Ar_copyOfRange 7 rfl) rfl ?_
  refine x_iload_n (x_d C_Ar_copyOfRange 8 rfl) rfl ?_
  refine x_invokestatic (st := []) (av := [xC a, xI i, xI b]) (x_d C_Ar_copyOfRange 9 rfl) k_Ar_339 m_Ar_copyOfRangeByte s_Ar_copyOfRangeByte rfl (Nat.le_of_ble_eq_true rfl) (by omega) rfl (c_Ar_copyOfRangeByte Z (d - 1) h (by omega) a n0 f i b ha (by omega)) ?_
  rintro _ _ ⟨g, rfl, rfl, hg⟩
  refine x_areturn (x_d C_Ar_copyOfRange 10 rfl) ?_
  exact ⟨g, rfl, rfl, hg⟩
