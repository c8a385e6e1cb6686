/-! fewer locals, in another order -/
theorem x_pick_ls (ad sa : Nat → Nat) (l : xL) (ks : List Nat) : lv_pick (x_ls ad sa l) ks = x_ls ad sa (ks.filterMap (fun k => l[k]?)) := by
  unfold lv_pick x_ls
  rw [List.map_filterMap]
  congr 1
  funext k
  rw [List.getElem?_map]
theorem x_locs {Z : xZ} {d : Nat} {Y : xY} {pc : Nat} {l l1 : xL} {st : List xV} {h : xH} {Q : Option xV → xH → Prop} (ks : List Nat) (hl1 : ks.filterMap (fun k => l[k]?) = l1) (kk : xW Z d Y pc l1 st h Q) : xW Z d Y pc l st h Q := by
  subst hl1
  refine xW_sto (fun ho hs => ⟨fun q hq => ?_, hs⟩) (fun hx hb _ _ _ hl kk => kk _ (lv_sub hl ks (x_pick_ls _ _ l ks))) kk
  obtain ⟨k, -, hk⟩ := List.mem_filterMap.mp hq
  exact ho q (List.mem_of_getElem? hk)
theorem x_heq {Z : xZ} {d : Nat} {Y : xY} {pc : Nat} {l : xL} {st : List xV} {h h1 : xH} {Q : Option xV → xH → Prop} (e : h = h1) (kk : xW Z d Y pc l st h1 Q) : xW Z d Y pc l st h Q := e ▸ kk
