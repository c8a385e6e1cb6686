/-! new cells of heaps that are written out -/
section XNL
variable {Z : xZ} {d : Nat} {Y : xY} {pc : Nat} {l : xL} {st : List xV} {h h1 : xH} {Q : Option xV → xH → Prop}
theorem x_newL {index ci k : Nat} {fs : List xV} (hd : decode Y.2.1 pc = .ok (.new index, 3)) (hf : x_cn Y.1.cls index ci fs) (hk : h.length = k) (hh : h ++ [xB ci fs] = h1) (kk : xW Z d Y (pc + 3) l (xC k :: st) h1 Q) : xW Z d Y pc l st h Q := by
  subst hk
  subst hh
  exact x_new hd hf kk
theorem x_newarrayL {at1 : ArrayType} {t k : Nat} {n : Int} (hd : decode Y.2.1 pc = .ok (.newarray at1, 2)) (ht : x_at t at1) (h0 : 0 ≤ n) (hn : n ≤ 60000000) (hk : h.length = k) (hh : h ++ [xA t n.toNat (fun _ => 0)] = h1) (kk : xW Z d Y (pc + 2) l (xC k :: st) h1 Q) : xW Z d Y pc l (xI n :: st) h Q := by
  subst hk
  subst hh
  exact x_newarray hd ht h0 hn kk
end XNL
