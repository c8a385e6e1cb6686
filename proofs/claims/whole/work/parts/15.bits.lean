/-! masks and shifts -/
theorem x_u32 (x : Int) : ((Int32.ofInt x).toBitVec.toNat : Int) = x % 4294967296 := by
  show ((BitVec.ofInt 32 x).toNat : Int) = _
  rw [BitVec.toNat_ofInt]
  omega
theorem x_and255 (x : Int) : Int32.ofInt x &&& Int32.ofInt 255 = Int32.ofInt (x % 256) := by
  rw [pk_and (Int32.ofInt x) (m := Int32.ofInt 255) 8 (by decide +kernel)]
  have e := x_u32 x
  show Int32.ofNat _ = _
  rw [← Int32.ofInt_eq_ofNat]
  congr 1
  omega
theorem x_and15 (x : Int) : Int32.ofInt x &&& Int32.ofInt 15 = Int32.ofInt (x % 16) := by
  rw [pk_and (Int32.ofInt x) (m := Int32.ofInt 15) 4 (by decide +kernel)]
  have e := x_u32 x
  show Int32.ofNat _ = _
  rw [← Int32.ofInt_eq_ofNat]
  congr 1
  omega
theorem x_and31 (x : Int) : Int32.ofInt x &&& Int32.ofInt 31 = Int32.ofInt (x % 32) := by
  rw [pk_and (Int32.ofInt x) (m := Int32.ofInt 31) 5 (by decide +kernel)]
  have e := x_u32 x
  show Int32.ofNat _ = _
  rw [← Int32.ofInt_eq_ofNat]
  congr 1
  omega
theorem x_sk : ∀ k : Nat, k < 32 → ((Int32.ofInt k &&& 31).toBitVec.smod 32).toNat = k := by decide +kernel
theorem x_div_in {x : Int} (hx : x_i32 x) (k : Nat) : x_i32 (x / 2 ^ k) := by
  obtain ⟨a, b⟩ := hx
  have hp : (0 : Int) < 2 ^ k := Int.pow_pos (by omega)
  by_cases h : 0 ≤ x
  · have h1 := Int.ediv_nonneg h (Int.le_of_lt hp)
    have h2 := Int.ediv_le_self (2 ^ k) h
    exact ⟨by omega, by omega⟩
  · have h1 : x / 2 ^ k < 0 := Int.ediv_neg_of_neg_of_pos (by omega) hp
    have h2 : x ≤ x / 2 ^ k := by
      refine Int.le_ediv_of_mul_le hp ?_
      have h3 : 0 ≤ (-x) * (2 ^ k - 1) := Int.mul_nonneg (by omega) (by omega)
      have h4 : (-x) * (2 ^ k - 1) = x - x * 2 ^ k := by rw [Int.mul_sub, Int.neg_mul, Int.mul_one]; omega
      omega
    exact ⟨by omega, by omega⟩
theorem x_shr32 {x : Int} (hx : x_i32 x) {k : Nat} (hk : k < 32) : Int32.ofInt x >>> (Int32.ofInt k &&& 31) = Int32.ofInt (x / 2 ^ k) := by
  refine Int32.toInt_inj.mp ?_
  rw [pk_shr _ _ k (x_sk k hk), x_i32_toInt hx, x_i32_toInt (x_div_in hx k), Int.shiftRight_eq_div_pow]
  rfl
theorem x_sk64 : ∀ k : Nat, k < 32 → (((Int32.ofInt k).toInt64 &&& 63).toBitVec.smod 64).toNat = k := by decide +kernel
theorem x_shr64 {x : Int} (h0 : 0 ≤ x) (h1 : x < 4611686018427387904) {k : Nat} (hk : k < 32) : Int64.ofInt x >>> ((Int32.ofInt k).toInt64 &&& 63) = Int64.ofInt (x / 2 ^ k) := by
  have hx : x_i64 x := ⟨by omega, by omega⟩
  have h2 := Int.ediv_nonneg h0 (Int.le_of_lt (Int.pow_pos (n := 2) (m := k) (by omega)))
  have h3 := Int.ediv_le_self (2 ^ k) h0
  refine Int64.toInt_inj.mp ?_
  rw [x_i64_toInt (x := x / 2 ^ k) ⟨by omega, by omega⟩]
  show (BitVec.sshiftRight' _ _).toInt = _
  rw [BitVec.toInt_sshiftRight', x_sk64 k hk]
  show (Int64.ofInt x).toInt >>> k = _
  rw [x_i64_toInt hx, Int.shiftRight_eq_div_pow]
  rfl
section XBit
variable {Z : xZ} {d : Nat} {Y : xY} {pc : Nat} {l : xL} {st : List xV} {h : xH} {Q : Option xV → xH → Prop}
theorem x_iand255 {x : Int} (hd : decode Y.2.1 pc = .ok (.iand, 1)) (k : xW Z d Y (pc + 1) l (xI (x % 256) :: st) h Q) : xW Z d Y pc l (xI 255 :: xI x :: st) h Q :=
  xW_one (fun _ hs => x_okS_I (show x_i32 (x % 256) from ⟨by omega, by omega⟩) (x_okS_tl (x_okS_tl hs))) (fun hx hb _ _ _ _ k => lv_iand hx hb hd (by rw [x_and255]; exact k)) k
theorem x_iand15 {x : Int} (hd : decode Y.2.1 pc = .ok (.iand, 1)) (k : xW Z d Y (pc + 1) l (xI (x % 16) :: st) h Q) : xW Z d Y pc l (xI 15 :: xI x :: st) h Q :=
  xW_one (fun _ hs => x_okS_I (show x_i32 (x % 16) from ⟨by omega, by omega⟩) (x_okS_tl (x_okS_tl hs))) (fun hx hb _ _ _ _ k => lv_iand hx hb hd (by rw [x_and15]; exact k)) k
theorem x_iand31 {x : Int} (hd : decode Y.2.1 pc = .ok (.iand, 1)) (k : xW Z d Y (pc + 1) l (xI (x % 32) :: st) h Q) : xW Z d Y pc l (xI 31 :: xI x :: st) h Q :=
  xW_one (fun _ hs => x_okS_I (show x_i32 (x % 32) from ⟨by omega, by omega⟩) (x_okS_tl (x_okS_tl hs))) (fun hx hb _ _ _ _ k => lv_iand hx hb hd (by rw [x_and31]; exact k)) k
theorem x_ishr {x y : Int} {k : Nat} (hd : decode Y.2.1 pc = .ok (.ishr, 1)) (hy : y = k) (hk : k < 32) (kk : xW Z d Y (pc + 1) l (xI (x / 2 ^ k) :: st) h Q) : xW Z d Y pc l (xI y :: xI x :: st) h Q := by
  subst hy
  exact xW_one (fun _ hs => x_okS_I (x_div_in (x_okS_hd (x_okS_tl hs)) k) (x_okS_tl (x_okS_tl hs))) (fun hx hb _ _ hs _ kk => lv_ishr hx hb hd (by rw [x_shr32 (x_okS_hd (x_okS_tl hs)) hk]; exact kk)) kk
theorem x_lshr {x y : Int} {k : Nat} (hd : decode Y.2.1 pc = .ok (.lshr, 1)) (h0 : 0 ≤ x) (h1 : x < 4611686018427387904) (hy : y = k) (hk : k < 32) (kk : xW Z d Y (pc + 1) l (xJ (x / 2 ^ k) :: st) h Q) : xW Z d Y pc l (xI y :: xJ x :: st) h Q := by
  subst hy
  refine xW_one (fun _ hs => x_okS_J (show x_i64 (x / 2 ^ k) from ?_) (x_okS_tl (x_okS_tl hs))) (fun hx hb _ _ hs _ kk => lv_lshr hx hb hd (x_shr64 h0 h1 hk) kk) kk
  have h2 := Int.ediv_nonneg h0 (Int.le_of_lt (Int.pow_pos (n := 2) (m := k) (by omega)))
  have h3 := Int.ediv_le_self (2 ^ k) h0
  exact ⟨by omega, by omega⟩
/-- division of longs -/
theorem x_ldiv {x y : Int} (hd : decode Y.2.1 pc = .ok (.ldiv, 1)) (h0 : 0 < y) (hp : 0 ≤ x) (k : xW Z d Y (pc + 1) l (xJ (x / y) :: st) h Q) : xW Z d Y pc l (xJ y :: xJ x :: st) h Q := by
  refine xW_one (fun _ hs => x_okS_J (show x_i64 (x / y) from ?_) (x_okS_tl (x_okS_tl hs))) (fun hx hb _ _ hs _ k => lv_ldiv hx hb hd (fun q => ?_) ?_) k
  · have h2 := Int.ediv_nonneg hp (Int.le_of_lt h0)
    have h3 := Int.ediv_le_self y hp
    obtain ⟨a, b⟩ := x_okS_hd (x_okS_tl hs)
    exact ⟨by omega, by omega⟩
  · have := (x_i64_eq (x_okS_hd hs) ⟨by omega, by omega⟩).mp (q.trans (show (0 : Int64) = Int64.ofInt 0 by decide +kernel))
    omega
  · have hx := x_okS_hd (x_okS_tl hs)
    have hy := x_okS_hd hs
    rw [← Int64.ofInt_tdiv hx.1 (by have := hx.2; show x ≤ 9223372036854775807; omega) hy.1 (by have := hy.2; show y ≤ 9223372036854775807; omega), Int.tdiv_eq_ediv_of_nonneg hp]
    exact k
theorem x_lrem {x y : Int} (hd : decode Y.2.1 pc = .ok (.lrem, 1)) (h0 : 0 < y) (hp : 0 ≤ x) (k : xW Z d Y (pc + 1) l (xJ (x % y) :: st) h Q) : xW Z d Y pc l (xJ y :: xJ x :: st) h Q := by
  have e : x - x / y * y = x % y := by rw [Int.emod_def, Int.mul_comm]
  refine xW_one (fun _ hs => x_okS_J (show x_i64 (x % y) from ?_) (x_okS_tl (x_okS_tl hs))) (fun hx hb _ _ hs _ k => lv_lrem hx hb hd (fun q => ?_) ?_) k
  · have h2 := Int.emod_nonneg x (b := y) (by omega)
    have h3 := Int.emod_lt_of_pos x h0
    obtain ⟨a, b⟩ := x_okS_hd hs
    exact ⟨by omega, by omega⟩
  · have := (x_i64_eq (x_okS_hd hs) ⟨by omega, by omega⟩).mp (q.trans (show (0 : Int64) = Int64.ofInt 0 by decide +kernel))
    omega
  · have hx := x_okS_hd (x_okS_tl hs)
    have hy := x_okS_hd hs
    rw [← Int64.ofInt_tdiv hx.1 (by have := hx.2; show x ≤ 9223372036854775807; omega) hy.1 (by have := hy.2; show y ≤ 9223372036854775807; omega), Int.tdiv_eq_ediv_of_nonneg hp, ← Int64.ofInt_mul, ← Int64.ofInt_sub, e]
    exact k
end XBit
