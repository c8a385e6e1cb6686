/-! cells by other numbers -/
/-- cells by other numbers -/
def rnV (s : Nat → Nat) (v : xV) : xV := match v with
  | .inr (.inr (.inl x)) => xO (x.map s)
  | v => v
def rnE (s : Nat → Nat) (c : xE) : xE := match c with
  | .inl x => .inl x
  | .inr (.inl (t, n, f)) => xQ t n (fun j => (f j).map s)
  | .inr (.inr (ci, fs)) => xB ci (fs.map (rnV s))
def rnH (s : Nat → Nat) (h : xH) : xH := (List.range 52).map (fun j => rnE s (h.getD (s j) (xB 0 []))) ++ (h.drop 52).map (rnE s)
/-- what such a renaming keeps -/
def rnOk (s : Nat → Nat) : Prop := (∀ i, s (s i) = i) ∧ (∀ i, i < 52 → s i < 52) ∧ ∀ i, 52 ≤ i → s i = i
theorem rnV_rn {s : Nat → Nat} (hs : rnOk s) (v : xV) : rnV s (rnV s v) = v := by
  obtain x | x | (_ | i) | j := v
  · rfl
  · rfl
  · rfl
  · show xC (s (s i)) = xC i
    rw [hs.1]
  · rfl
theorem rnE_rn {s : Nat → Nat} (hs : rnOk s) (c : xE) : rnE s (rnE s c) = c := by
  obtain x | ⟨t, n, f⟩ | ⟨ci, fs⟩ := c
  · rfl
  · show xQ t n (fun j => ((f j).map s).map s) = xQ t n f
    congr 1
    funext j
    cases f j with
    | none => rfl
    | some i => show some (s (s i)) = some i; rw [hs.1]
  · show xB ci ((fs.map (rnV s)).map (rnV s)) = xB ci fs
    rw [List.map_map, show (rnV s ∘ rnV s) = id from funext (fun v => rnV_rn hs v), List.map_id]
theorem rnE_sz (s : Nat → Nat) (c : xE) : x_sz (rnE s c) = x_sz c := by
  obtain x | ⟨t, n, f⟩ | ⟨ci, fs⟩ := c
  · rfl
  · rfl
  · show (fs.map (rnV s)).length = fs.length
    rw [List.length_map]
theorem rnH_len {s : Nat → Nat} {h : xH} (hl : 52 ≤ h.length) : (rnH s h).length = h.length := by
  unfold rnH
  rw [List.length_append, List.length_map, List.length_map, List.length_range, List.length_drop]
  omega
theorem rnH_get {s : Nat → Nat} (hs : rnOk s) {h : xH} (hl : 52 ≤ h.length) (i : Nat) : (rnH s h)[i]? = (h[s i]?).map (rnE s) := by
  unfold rnH
  by_cases hi : i < 52
  · rw [List.getElem?_append_left (by rw [List.length_map, List.length_range]; exact hi), List.getElem?_map, List.getElem?_range hi]
    have := hs.2.1 i hi
    rw [List.getElem?_eq_getElem (show s i < h.length by omega)]
    show some (rnE s (h.getD (s i) (xB 0 []))) = some (rnE s h[s i])
    rw [List.getD_eq_getElem?_getD, List.getElem?_eq_getElem (show s i < h.length by omega)]
    rfl
  · rw [List.getElem?_append_right (by rw [List.length_map, List.length_range]; omega), List.length_map, List.length_range, List.getElem?_map, List.getElem?_drop, hs.2.2 i (by omega), show 52 + (i - 52) = i by omega]
theorem rnH_rn {s : Nat → Nat} (hs : rnOk s) {h : xH} (hl : 52 ≤ h.length) : rnH s (rnH s h) = h := by
  apply List.ext_getElem?
  intro i
  rw [rnH_get hs (by rw [rnH_len hl]; exact hl), rnH_get hs hl, hs.1, Option.map_map, show (rnE s ∘ rnE s) = id from funext (fun c => rnE_rn hs c), Option.map_id]
  rfl
theorem x_v_rn (s ad sa : Nat → Nat) (v : xV) : x_v ad sa (rnV s v) = x_v (fun i => ad (s i)) sa v := by
  obtain x | x | (_ | i) | j := v <;> rfl
theorem x_st_rn (s ad sa : Nat → Nat) (l : List xV) : x_st ad sa (l.map (rnV s)) = x_st (fun i => ad (s i)) sa l := by
  unfold x_st
  rw [List.map_map]
  congr 1
  funext v
  exact x_v_rn s ad sa v
theorem x_c_rn (s ad sa : Nat → Nat) (dA : Nat → ClassId) (c : xE) : x_c ad sa dA (rnE s c) = x_c (fun i => ad (s i)) sa dA c := by
  obtain ⟨t, n, f⟩ | ⟨t, n, f⟩ | ⟨ci, fs⟩ := c
  · rfl
  · show (Sum.inl (dA t, n, .inr (.inr (.inr (.inr (fun j => ((f j).map s).map ad))))) : va_E) = .inl (dA t, n, .inr (.inr (.inr (.inr (fun j => (f j).map (fun i => ad (s i)))))))
    have e : (fun j => ((f j).map s).map ad) = (fun j => (f j).map (fun i => ad (s i))) := funext (fun j => by rw [Option.map_map]; rfl)
    rw [e]
  · show (Sum.inr (ci, x_st ad sa (fs.map (rnV s))) : va_E) = .inr (ci, x_st (fun i => ad (s i)) sa fs)
    rw [x_st_rn]
theorem x_w_rn {s : Nat → Nat} (hs : rnOk s) (ad sa : Nat → Nat) (dA : Nat → ClassId) {h : xH} (hl : 52 ≤ h.length) (i : Nat) : (x_w ad sa dA (rnH s h))[i]? = (x_w (fun i => ad (s i)) sa dA h)[s i]? := by
  rw [x_w_get, x_w_get, rnH_get hs hl, Option.map_map, hs.1]
  congr 1
  funext c
  show (ad i, x_c ad sa dA (rnE s c)) = (ad i, x_c (fun i => ad (s i)) sa dA c)
  rw [x_c_rn]
theorem x_ok_rn {s : Nat → Nat} (hs : rnOk s) {n : Nat} (hn : 52 ≤ n) (v : xV) (h : x_ok n v) : x_ok n (rnV s v) := by
  obtain x | x | (_ | i) | j := v
  · exact h
  · exact h
  · trivial
  · show s i < n
    have h : i < n := h
    by_cases hi : i < 52
    · have := hs.2.1 i hi; omega
    · rw [hs.2.2 i (by omega)]; exact h
  · trivial
theorem x_okC_rn {s : Nat → Nat} (hs : rnOk s) {n : Nat} (hn : 52 ≤ n) (c : xE) (h : x_okC n c) : x_okC n (rnE s c) := by
  obtain ⟨t, k, f⟩ | ⟨t, k, f⟩ | ⟨ci, fs⟩ := c
  · exact h
  · intro j i hj
    have hj : (f j).map s = some i := hj
    cases hf : f j with
    | none => rw [hf] at hj; cases hj
    | some a =>
      rw [hf] at hj
      have e : s a = i := Option.some.inj hj
      have h1 := h j a hf
      have := x_ok_rn hs hn (xC a) h1
      have : s a < n := this
      omega
  · intro v hv
    obtain ⟨a, ha, rfl⟩ := List.mem_map.mp hv
    exact x_ok_rn hs hn a (h a ha)
theorem x_okH_rn {s : Nat → Nat} (hs : rnOk s) {h : xH} (hl : 52 ≤ h.length) (hk : x_okH h) : x_okH (rnH s h) := by
  intro c hc
  obtain ⟨i, hi, rfl⟩ := List.getElem_of_mem hc
  have h1 := rnH_get hs hl i
  rw [List.getElem?_eq_getElem hi] at h1
  cases h2 : h[s i]? with
  | none => rw [h2] at h1; cases h1
  | some a =>
    rw [h2] at h1
    have h3 := Option.some.inj h1
    rw [rnH_len hl, h3]
    exact x_okC_rn hs hl a (hk a (List.mem_of_getElem? h2))
theorem x_hp_rn {s : Nat → Nat} (hs : rnOk s) {Z : xZ} {ad : Nat → Nat} {h : xH} {H : Heap} (hl : 52 ≤ h.length) (hh : x_hp Z (fun i => ad (s i)) h H) : x_hp Z ad (rnH s h) H := by
  obtain ⟨h1, h2, h3, h4, h5⟩ := hh
  refine ⟨x_okH_rn hs hl h1, fun k q hq => ?_, ⟨fun i j p q hi hj e => ?_, fun k q hq => ?_⟩, h4, h5⟩
  · rw [x_w_rn hs _ _ _ hl] at hq
    exact h2 _ q hq
  · rw [x_w_rn hs _ _ _ hl] at hi hj
    have := h3.1 _ _ p q hi hj e
    have e2 := congrArg s this
    rw [hs.1, hs.1] at e2
    exact e2
  · rw [x_w_rn hs _ _ _ hl] at hq
    exact h3.2 _ q hq
theorem x_hp_rn2 {s : Nat → Nat} (hs : rnOk s) {Z : xZ} {ad : Nat → Nat} {h : xH} {H : Heap} (hl : 52 ≤ h.length) (hh : x_hp Z ad (rnH s h) H) : x_hp Z (fun i => ad (s i)) h H := by
  have h1 : x_hp Z (fun i => (fun j => ad (s j)) (s i)) (rnH s h) H := by
    have e : (fun i => (fun j => ad (s j)) (s i)) = ad := funext (fun i => by show ad (s (s i)) = ad i; rw [hs.1])
    rw [e]
    exact hh
  have h2 := x_hp_rn hs (ad := fun j => ad (s j)) (by rw [rnH_len hl]; exact hl) h1
  rw [rnH_rn hs hl] at h2
  exact h2
theorem xM_rn {s : Nat → Nat} (hs : rnOk s) {Z : xZ} {d : Nat} {Y : xY} {av : List xV} {h h2 : xH} {r : Option xV} (hl : 52 ≤ h.length) (hS : x_S (rnH s h) = x_S h) (hS2 : x_S (rnH s h2) = x_S h2) (k : xM Z d Y av h r h2) : xM Z d Y (av.map (rnV s)) (rnH s h) (r.map (rnV s)) (rnH s h2) := by
  obtain ⟨k1, k2, k3, k4, k5⟩ := k
  have hl2 : 52 ≤ h2.length := Nat.le_trans hl k1
  refine ⟨by rw [rnH_len hl, rnH_len hl2]; exact k1, by rw [hS, hS2]; exact k2, x_okH_rn hs hl2 k3, ?_, fun ad => ?_⟩
  · intro v hv
    cases r with
    | none => cases hv
    | some a =>
      have e : rnV s a = v := Option.some.inj hv
      rw [← e, rnH_len hl2]
      exact x_ok_rn hs hl2 a (k4 a rfl)
  · have k6 := k5 (fun i => ad (s i))
    have e1 : x_Pc Z ad (av.map (rnV s)) (rnH s h) = x_Pc Z (fun i => ad (s i)) av h := by
      have e0 : (fun U : State => x_G Z U ∧ x_hp Z ad (rnH s h) U.heap) = (fun U : State => x_G Z U ∧ x_hp Z (fun i => ad (s i)) h U.heap) := funext (fun U => propext ⟨fun z => ⟨z.1, x_hp_rn2 hs hl z.2⟩, fun z => ⟨z.1, x_hp_rn hs hl z.2⟩⟩)
      unfold x_Pc
      rw [x_st_rn, e0]
    have e2 : x_Qc Z ad (rnH s h) (r.map (rnV s)) (rnH s h2) = x_Qc Z (fun i => ad (s i)) h r h2 := by
      unfold x_Qc
      funext a st0 o t
      refine propext ⟨fun z => ⟨?_, z.2⟩, fun z => ⟨?_, z.2⟩⟩
      · obtain ⟨ad2, a1, a2, a3⟩ := z.1
        refine ⟨fun i => ad2 (s i), fun i hi => a1 (s i) ?_, ?_, x_hp_rn2 hs hl2 a3⟩
        · rw [rnH_len hl]
          by_cases h5 : i < 52
          · have := hs.2.1 i h5; omega
          · rw [hs.2.2 i (by omega)]; exact hi
        · have ef : (x_v ad2 Z.2.2.2.1 ∘ rnV s) = x_v (fun i => ad2 (s i)) Z.2.2.2.1 := funext (fun v => x_v_rn s ad2 _ v)
          rw [a2, Option.map_map, ef]
      · obtain ⟨ad2, a1, a2, a3⟩ := z.1
        have e9 : (fun i => (fun j => ad2 (s j)) (s i)) = ad2 := funext (fun i => by show ad2 (s (s i)) = ad2 i; rw [hs.1])
        refine ⟨fun i => ad2 (s i), fun i hi => ?_, ?_, x_hp_rn hs hl2 (by rw [e9]; exact a3)⟩
        · rw [rnH_len hl] at hi
          have := a1 (s i) (by
            by_cases h5 : i < 52
            · have := hs.2.1 i h5; omega
            · rw [hs.2.2 i (by omega)]; exact hi)
          show ad2 (s i) = ad i
          rw [this]
          show ad (s (s i)) = ad i
          rw [hs.1]
        · have ef : (x_v (fun j => ad2 (s j)) Z.2.2.2.1 ∘ rnV s) = x_v ad2 Z.2.2.2.1 := funext (fun v => by
            show x_v (fun j => ad2 (s j)) _ (rnV s v) = x_v ad2 _ v
            rw [x_v_rn, e9])
          rw [a2, Option.map_map, ef]
    rw [e1, e2, rnH_len hl, rnH_len hl2, hS, hS2]
    exact k6
theorem xMet_rn {s : Nat → Nat} (hs : rnOk s) {Z : xZ} {d : Nat} {Y : xY} {av : List xV} {h : xH} {Q : Option xV → xH → Prop} (hl : 52 ≤ h.length) (hS : x_S (rnH s h) = x_S h) (hQ : ∀ r h2, Q r h2 → x_S (rnH s h2) = x_S h2) (k : xMet Z d Y av h Q) : xMet Z d Y (av.map (rnV s)) (rnH s h) (fun r2 h4 => ∃ r h2, Q r h2 ∧ r2 = r.map (rnV s) ∧ h4 = rnH s h2) := by
  intro a b
  have a2 : x_okS h.length av := fun v hv => by
    have := a (rnV s v) (List.mem_map.mpr ⟨v, hv, rfl⟩)
    rw [rnH_len hl] at this
    have := x_ok_rn hs hl _ this
    rw [rnV_rn hs] at this
    exact this
  have b2 : x_okH h := by
    have := x_okH_rn hs (by rw [rnH_len hl]; exact hl) b
    rw [rnH_rn hs hl] at this
    exact this
  obtain ⟨r, h2, k1, k2⟩ := k a2 b2
  exact ⟨_, _, ⟨r, h2, k1, rfl, rfl⟩, xM_rn hs hl hS (hQ r h2 k1) k2⟩
