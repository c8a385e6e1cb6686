/-! the two books and the two outs by other numbers -/
/-- the books change their numbers if b, the outs if o -/
def swc (b o : Bool) (c : Nat) : Nat := if 26 ≤ c ∧ c < 32 ∧ b = true then c + 6 else if 32 ≤ c ∧ c < 38 ∧ b = true then c - 6 else if 38 ≤ c ∧ c < 40 ∧ o = true then c + 2 else if 40 ≤ c ∧ c < 42 ∧ o = true then c - 2 else c
def sh (b o : Bool) (k : Nat) : Nat := if 832 ≤ k ∧ k < 1024 ∧ b = true then k + 192 else if 1024 ≤ k ∧ k < 1216 ∧ b = true then k - 192 else if 1216 ≤ k ∧ k < 1280 ∧ o = true then k + 64 else if 1280 ≤ k ∧ k < 1344 ∧ o = true then k - 64 else k
theorem swc_ok (b o : Bool) : rnOk (swc b o) := by
  refine ⟨fun i => ?_, fun i hi => ?_, fun i hi => ?_⟩
  · cases b <;> cases o <;> unfold swc <;> simp only [Bool.false_eq_true, and_false, if_false, and_true] <;> (repeat' split) <;> omega
  · cases b <;> cases o <;> unfold swc <;> simp only [Bool.false_eq_true, and_false, if_false, and_true] <;> (repeat' split) <;> omega
  · cases b <;> cases o <;> unfold swc <;> simp only [Bool.false_eq_true, and_false, if_false, and_true] <;> (repeat' split) <;> omega
theorem sh_sh (b o : Bool) (k : Nat) : sh b o (sh b o k) = k := by
  cases b <;> cases o <;> unfold sh <;> simp only [Bool.false_eq_true, and_false, if_false, and_true] <;> (repeat' split) <;> omega
def vq (b o : Bool) (q : Nat → Int) : Nat → Int := fun k => q (sh b o k)
def vr (b o : Bool) (r : Nat → Option Nat) : Nat → Option Nat := fun k => (r (sh b o k)).map (swc b o)
def vA (b o : Bool) (A : Nat → Nat → Int) : Nat → Nat → Int := fun c => A (swc b o c)
theorem vq_vq (b o : Bool) (q : Nat → Int) : vq b o (vq b o q) = q := funext (fun k => by show q (sh b o (sh b o k)) = q k; rw [sh_sh])
theorem vr_vr (b o : Bool) (r : Nat → Option Nat) : vr b o (vr b o r) = r := funext (fun k => by
  show ((r (sh b o (sh b o k))).map (swc b o)).map (swc b o) = r k
  rw [sh_sh, Option.map_map]
  cases r k with
  | none => rfl
  | some a => show some (swc b o (swc b o a)) = some a; rw [(swc_ok b o).1])
theorem vA_vA (b o : Bool) (A : Nat → Nat → Int) : vA b o (vA b o A) = A := funext (fun c => by show A (swc b o (swc b o c)) = A c; rw [(swc_ok b o).1])
def vd (b o : Bool) (dy : xH) : xH := dy.map (rnE (swc b o))
theorem vd_vd (b o : Bool) (dy : xH) : vd b o (vd b o dy) = dy := by
  unfold vd
  rw [List.map_map, show (rnE (swc b o) ∘ rnE (swc b o)) = id from funext (fun c => rnE_rn (swc_ok b o) c), List.map_id]
theorem hF_rn (b o : Bool) (q : Nat → Int) (r : Nat → Option Nat) (A : Nat → Nat → Int) (dy : xH) : rnH (swc b o) (hF q r A ++ dy) = hF (vq b o q) (vr b o r) (vA b o A) ++ vd b o dy := by
  cases b <;> cases o <;> rfl
theorem x_S_hF (q q2 : Nat → Int) (r r2 : Nat → Option Nat) (A A2 : Nat → Nat → Int) (dy dy2 : xH) (h : x_S dy = x_S dy2) : x_S (hF q r A ++ dy) = x_S (hF q2 r2 A2 ++ dy2) := by
  rw [x_S_app, x_S_app, h]
  rfl
theorem x_S_vd (b o : Bool) (dy : xH) : x_S (vd b o dy) = x_S dy := by
  unfold x_S vd
  rw [List.map_map]
  congr 2
  funext c
  exact rnE_sz _ c
/-- a method of the class, on cells by other numbers -/
theorem xMet_view (b o : Bool) {Z : xZ} {d : Nat} {Y : xY} {av : List xV} {q : Nat → Int} {r : Nat → Option Nat} {A : Nat → Nat → Int} {dy : xH} {Q : Option xV → xH → Prop} (hQ : ∀ v h2, Q v h2 → ∃ q2 r2 A2, h2 = hF q2 r2 A2 ++ vd b o dy) (k : xMet Z d Y av (hF q r A ++ vd b o dy) Q) : xMet Z d Y (av.map (rnV (swc b o))) (hF (vq b o q) (vr b o r) (vA b o A) ++ dy) (fun v h2 => ∃ v1 h3, Q v1 h3 ∧ v = v1.map (rnV (swc b o)) ∧ h2 = rnH (swc b o) h3) := by
  have hl : 52 ≤ (hF q r A ++ vd b o dy).length := by rw [List.length_append, hF_len]; omega
  have h1 := xMet_rn (swc_ok b o) hl (by rw [hF_rn]; exact x_S_hF _ _ _ _ _ _ _ _ (x_S_vd b o _)) (fun v h2 hq => by
    obtain ⟨q2, r2, A2, rfl⟩ := hQ v h2 hq
    rw [hF_rn]
    exact x_S_hF _ _ _ _ _ _ _ _ (x_S_vd b o _)) k
  rw [hF_rn, vd_vd] at h1
  exact h1
theorem hF_bk (b o : Bool) (q : Nat → Int) (r : Nat → Option Nat) (A : Nat → Nat → Int) (dy : xH) : rnH (swc b o) (hF q r A ++ vd b o dy) = hF (vq b o q) (vr b o r) (vA b o A) ++ dy := by rw [hF_rn, vd_vd]
theorem sh_hi (b o : Bool) {k : Nat} (h : 1344 ≤ k) : sh b o k = k := by
  unfold sh
  rw [if_neg (by omega), if_neg (by omega), if_neg (by omega), if_neg (by omega)]
theorem swc_hi (b o : Bool) {k : Nat} (h : 42 ≤ k) : swc b o k = k := by
  unfold swc
  rw [if_neg (by omega), if_neg (by omega), if_neg (by omega), if_neg (by omega)]
theorem vq_up (b o : Bool) (q : Nat → Int) {k : Nat} (h : 1344 ≤ k) (v : Int) : x_up (vq b o q) k v = vq b o (x_up q k v) := by
  funext j
  show (if j = k then v else q (sh b o j)) = (if sh b o j = k then v else q (sh b o j))
  by_cases e : j = k
  · rw [if_pos e, e, sh_hi b o h, if_pos rfl]
  · rw [if_neg e, if_neg (fun z => e (by have := congrArg (sh b o) z; rw [sh_sh, sh_hi b o h] at this; exact this))]
theorem vr_up (b o : Bool) (r : Nat → Option Nat) {k : Nat} (h : 1344 ≤ k) (v : Option Nat) (hv : ∀ c, v = some c → 42 ≤ c) : x_up (vr b o r) k v = vr b o (x_up r k v) := by
  funext j
  show (if j = k then v else (r (sh b o j)).map (swc b o)) = (if sh b o j = k then v else r (sh b o j)).map (swc b o)
  by_cases e : j = k
  · rw [if_pos e, e, sh_hi b o h, if_pos rfl]
    cases v with
    | none => rfl
    | some c => show some c = some (swc b o c); rw [swc_hi b o (hv c rfl)]
  · rw [if_neg e, if_neg (fun z => e (by have := congrArg (sh b o) z; rw [sh_sh, sh_hi b o h] at this; exact this))]
theorem vA_up (b o : Bool) (A : Nat → Nat → Int) {k : Nat} (h : 42 ≤ k) (f : Nat → Int) : x_up (vA b o A) k f = vA b o (x_up A k f) := by
  funext j
  show (if j = k then f else A (swc b o j)) = (if swc b o j = k then f else A (swc b o j))
  by_cases e : j = k
  · rw [if_pos e, e, swc_hi b o h, if_pos rfl]
  · rw [if_neg e, if_neg (fun z => e (by have := congrArg (swc b o) z; rw [(swc_ok b o).1, swc_hi b o h] at this; exact this))]
theorem vq_hi (b o : Bool) (q : Nat → Int) {k : Nat} (h : 1344 ≤ k) : vq b o q k = q k := by show q (sh b o k) = q k; rw [sh_hi b o h]
theorem vA_hi (b o : Bool) (A : Nat → Nat → Int) {k : Nat} (h : 42 ≤ k) : vA b o A k = A k := by show A (swc b o k) = A k; rw [swc_hi b o h]
theorem RC_eq {r : Nat → Option Nat} (h7 : r 7 = some 26) (h8 : r 8 = some 32) (h9 : r 9 = some 38) (h10 : r 10 = some 40) : x_up (x_up (x_up (x_up r 7 (some 26)) 8 (some 32)) 9 (some 38)) 10 (some 40) = r := by
  rw [← h7, x_up_same, ← h8, x_up_same, ← h9, x_up_same, ← h10, x_up_same]
