/-! the law: its loop -/
/-- both states, and what the reference has used -/
def SB (B : Nat → Int → xH → Prop) (n : Nat) (h : xH) : Prop := ∃ (b o : Bool) (q : Nat → Int) (r : Nat → Option Nat) (A : Nat → Nat → Int) (dy : xH) (g : Nat → Option xE), h = hF (vq b o q) (vr b o r) (vA b o A) ++ dy ∧ Inv n q r A dy g ∧ B n (q 1349) dy
theorem Nx_SB {B : Nat → Int → xH → Prop} {n : Nat} {dy : xH} {K : Nat → Nat → Nat} {T : Int} {h : xH} (hN : Nx n dy K T h) (hk : ∀ t dy2, 0 ≤ t → t ≤ T → (∀ u w, mu u w dy2 ≤ mu u w dy + K u w) → B n t dy2) : SB B n h := by
  obtain ⟨b, o, q, r, A, dy2, g, e, hI, hT, hm⟩ := hN
  have t1 := hI.1.1
  have t2 := hI.1.2.1
  exact ⟨b, o, q, r, A, dy2, g, e, hI, hk _ _ (by omega) hT hm⟩
/-- what is asked of a bound of the room -/
def BR (B : Nat → Int → xH → Prop) : Prop := (∀ n t dy t2 dy2, n < 512 → B n t dy → 0 ≤ t2 → t2 ≤ t → (∀ u w, mu u w dy2 ≤ mu u w dy + (6 * u + 160 * w)) → B (n + 1) t2 dy2) ∧ (∀ n t dy t2 dy2, n < 512 → 0 ≤ t → t ≤ 4000 → B n t dy → 0 ≤ t2 → t2 ≤ t + 20 → (∀ u w, mu u w dy2 ≤ mu u w dy + (u + 5 * w)) → B (n + 1) t2 dy2) ∧ (∀ n t dy dy2, n < 512 → 0 ≤ t → t ≤ 4000 → B n t dy → (∀ u w, mu u w dy2 ≤ mu u w dy + (6 * u + (22 + t.toNat) * w)) → B (n + 1) 0 dy2) ∧ (∀ n t dy dy2 (b : Nat → Int) (N f : Int), n < 512 → 0 ≤ f → 0 ≤ t → t ≤ 4000 → N = f + t → (∀ j, -128 ≤ b j ∧ b j ≤ 127) → B n t dy → (∀ u w, mu u w dy2 ≤ mu u w dy + k_val u w b N 8 (s_sc s_white b N f)) → B (n + 1) 0 dy2) ∧ (∀ n t dy dy2 (b : Nat → Int) (N f : Int) (x : ost), n < 512 → 0 ≤ f → 0 ≤ t → t ≤ 4000 → N = f + t → (∀ j, -128 ≤ b j ∧ b j ≤ 127) → (∀ k, k < 300 → x.1 k = 0 ∧ x.2.2.1 k = 0 ∧ x.2.2.2.1 k = 0) → B n t dy → (∀ u w, mu u w dy2 ≤ mu u w dy + (6 * u + 1515 * w + (u + 6 * w) + k_tabs u w b N f 6 0 (s_last b N f) [] x 0 + (u + t.toNat * w))) → B (n + 1) 0 dy2)
theorem law_loop {B : Nat → Int → xH → Prop} (hR : BR B) (Z : xZ) (hL : Z.2.2.2.2.2.2.1 ≤ 3072) (hs : ∀ j, x_i32 (Z.2.2.2.2.2.2.2 j)) : ∀ (m n : Nat) (H : xH), n + m = 513 → 6 * n ≤ Z.2.2.2.2.2.2.1 → SB B n H → xW Z 1000 Y_law 18 [(0, xS 0), (1, xC 0), (2, xC 42), (3, xI (6 * (n : Int)))] [] H (fun v h2 => v = some (xI 1) ∧ ∃ n2, n2 ≤ 512 ∧ SB B n2 h2)
  | 0, n, H, h1, h2, _ => by omega
  | m + 1, n, H, h1, h2, hSB => by
    have hSB0 := hSB
    obtain ⟨b, o, q, r, A, dy, g, rfl, hI, hB⟩ := hSB
    refine xW_ok (fun _ _ hok => ?_)
    obtain ⟨_, _, hA⟩ := ok_A hok
    have t1 := hI.1.1
    have t2 := hI.1.2.1
    have ht : 0 ≤ q 1349 ∧ q 1349 ≤ 4000 := by omega
    have hx0 : ∀ k, k < 300 → (s_x0 A (q 362)).1 k = 0 ∧ (s_x0 A (q 362)).2.2.1 k = 0 ∧ (s_x0 A (q 362)).2.2.2.1 k = 0 := fun k hk => by
      unfold s_x0
      dsimp only
      rw [s_zr_lt (by omega), s_zr_lt (by omega), s_zr_lt (by omega)]
      exact ⟨rfl, rfl, rfl⟩
    refine x_iload_n (x := 6 * (n : Int)) (x_d C_law 10 rfl) rfl ?_
    refine x_aload_n (x_d C_law 11 rfl) rfl ?_
    refine x_slen (x_d C_law 12 rfl) (by omega) ?_
    refine x_bipush (x_d C_law 13 rfl) ⟨by decide, by decide⟩ ?_
    refine x_isub (x_d C_law 14 rfl) ⟨by omega, by omega⟩ ?_
    refine x_icmp_gt (tgt := 574) (x_d C_law 15 rfl) rfl (fun c => ?_) (fun c => ?_)
    · refine x_iconst (x_d C_law 344 rfl) ⟨by decide, by decide⟩ ?_
      exact x_ireturn (x_d C_law 345 rfl) ⟨rfl, n, by omega, hSB0⟩
    have hn512 : n < 512 := by omega
    refine x_aload_n (x_d C_law 16 rfl) rfl ?_
    refine x_iload_n (x := 6 * (n : Int)) (x_d C_law 17 rfl) rfl ?_
    refine x_sld (x_d C_law 18 rfl) (by omega) (by omega) (hs _) ?_
    refine x_bipush (x_d C_law 19 rfl) ⟨by decide, by decide⟩ ?_
    refine x_iand31 (x_d C_law 20 rfl) ?_
    have kend : ∀ h2, SB B (n + 1) h2 → xW Z 1000 Y_law 568 [(0, xS 0), (1, xC 0), (2, xC 42), (3, xI (6 * (n : Int)))] [] h2 (fun v h2 => v = some (xI 1) ∧ ∃ n2, n2 ≤ 512 ∧ SB B n2 h2) := fun h2 hS => by
      refine x_iinc (l1 := [(3, xI (6 * (n : Int) + 6)), (0, xS 0), (1, xC 0), (2, xC 42)]) (x_d C_law 342 rfl) rfl ⟨by omega, by omega⟩ (by decide) rfl ?_
      refine x_goto (tgt := 18) (x_d C_law 343 rfl) rfl ?_
      refine x_locs [1, 2, 3, 0] rfl ?_
      have := law_loop hR Z hL hs m (n + 1) h2 (by omega) (by omega) hS
      rw [show 6 * ((n + 1 : Nat) : Int) = 6 * (n : Int) + 6 by omega] at this
      exact this
    have hi : 0 ≤ 6 * (n : Int) ∧ 6 * (n : Int) + 6 ≤ Z.2.2.2.2.2.2.1 := by omega
    have hv : 0 ≤ Z.2.2.2.2.2.2.2 (6 * (n : Int)).toNat % 32 ∧ Z.2.2.2.2.2.2.2 (6 * (n : Int)).toNat % 32 < 32 := by omega
    generalize Z.2.2.2.2.2.2.2 (6 * (n : Int)).toNat % 32 = v at hv ⊢
    by_cases c20 : 19 < v
    · refine x_tableOut (tgt := 568) (x_d C_law 21 rfl) (Or.inr c20) rfl ?_
      refine kend _ ⟨b, o, q, r, A, dy, g, rfl, Inv_s hI, ?_⟩
      exact hR.1 n _ _ _ _ hn512 hB ht.1 (Int.le_refl _) (fun u w => Nat.le_add_right _ _)
    rcases (show v = 0 ∨ v = 1 ∨ v = 2 ∨ v = 3 ∨ v = 4 ∨ v = 5 ∨ v = 6 ∨ v = 7 ∨ v = 8 ∨ v = 9 ∨ v = 10 ∨ v = 11 ∨ v = 12 ∨ v = 13 ∨ v = 14 ∨ v = 15 ∨ v = 16 ∨ v = 17 ∨ v = 18 ∨ v = 19 by omega) with rfl | rfl | rfl | rfl | rfl | rfl | rfl | rfl | rfl | rfl | rfl | rfl | rfl | rfl | rfl | rfl | rfl | rfl | rfl | rfl
    · refine x_tableIn (tgt := 128) (x_d C_law 21 rfl) (by decide) (by decide) rfl rfl ?_
      exact lc_feed (dc := 999) (by omega) hi hL hs rfl (st_feed (by omega) hn512 hI _ _ _ _ _) (fun h2 hP => kend h2 (Nx_SB hP (fun t2 dy2 p0 p1 hm => hR.2.1 n _ _ _ _ hn512 ht.1 ht.2 hB p0 p1 hm)))
    · refine x_tableIn (tgt := 191) (x_d C_law 21 rfl) (by decide) (by decide) rfl rfl ?_
      exact lc_end (dc := 999) (by omega) hi hL hs rfl (st_end (by omega) hn512 hI _) (fun h2 hP => kend h2 (Nx_SB hP (fun t2 dy2 p0 p1 hm => hR.1 n _ _ _ _ hn512 hB p0 p1 (fun u w => Nat.le_trans (hm u w) (Nat.add_le_add_left (Nat.zero_le _) _)))))
    · refine x_tableIn (tgt := 214) (x_d C_law 21 rfl) (by decide) (by decide) rfl rfl ?_
      exact lc_open (dc := 999) (by omega) hi hL hs rfl (st_open (by omega) hn512 hI ) (fun h2 hP => kend h2 (Nx_SB hP (fun t2 dy2 p0 p1 hm => by rw [Int.le_antisymm p1 p0]; exact hR.2.2.2.2 n _ _ _ (A 2) (q 35) (q 34) _ hn512 (by omega) ht.1 ht.2 (by omega) hA hx0 hB hm)))
    · refine x_tableIn (tgt := 227) (x_d C_law 21 rfl) (by decide) (by decide) rfl rfl ?_
      exact lc_go (dc := 999) (by omega) hi hL hs rfl (st_go (by omega) hn512 hI _) (fun h2 hP => kend h2 (Nx_SB hP (fun t2 dy2 p0 p1 hm => hR.1 n _ _ _ _ hn512 hB p0 p1 (fun u w => Nat.le_trans (hm u w) (Nat.add_le_add_left (Nat.zero_le _) _)))))
    · refine x_tableIn (tgt := 250) (x_d C_law 21 rfl) (by decide) (by decide) rfl rfl ?_
      exact lc_trailer (dc := 999) (by omega) hi hL hs rfl (st_trailer (by omega) hn512 hI ) (fun h2 hP => kend h2 (Nx_SB hP (fun t2 dy2 p0 p1 hm => hR.1 n _ _ _ _ hn512 hB p0 p1 (fun u w => Nat.le_trans (hm u w) (Nat.add_le_add_left (Nat.zero_le _) _)))))
    · refine x_tableIn (tgt := 263) (x_d C_law 21 rfl) (by decide) (by decide) rfl rfl ?_
      exact lc_item (dc := 999) (by omega) hi hL hs rfl (st_item (by omega) hn512 hI _) (fun h2 hP => kend h2 (Nx_SB hP (fun t2 dy2 p0 p1 hm => hR.1 n _ _ _ _ hn512 hB p0 p1 (fun u w => Nat.le_trans (hm u w) (Nat.add_le_add_left (Nat.zero_le _) _)))))
    · refine x_tableIn (tgt := 286) (x_d C_law 21 rfl) (by decide) (by decide) rfl rfl ?_
      exact lc_find (dc := 999) (by omega) hi hL hs rfl (st_find (by omega) hn512 hI ) (fun h2 hP => kend h2 (Nx_SB hP (fun t2 dy2 p0 p1 hm => hR.1 n _ _ _ _ hn512 hB p0 p1 (fun u w => Nat.le_trans (hm u w) (Nat.add_le_add_left (Nat.zero_le _) _)))))
    · refine x_tableIn (tgt := 299) (x_d C_law 21 rfl) (by decide) (by decide) rfl rfl ?_
      exact lc_follow (dc := 999) (by omega) hi hL hs rfl (st_follow (by omega) hn512 hI ) (fun h2 hP => kend h2 (Nx_SB hP (fun t2 dy2 p0 p1 hm => hR.1 n _ _ _ _ hn512 hB p0 p1 (fun u w => Nat.le_trans (hm u w) (Nat.add_le_add_left (Nat.zero_le _) _)))))
    · refine x_tableIn (tgt := 312) (x_d C_law 21 rfl) (by decide) (by decide) rfl rfl ?_
      exact lc_look (dc := 999) (by omega) hi hL hs rfl (st_look (by omega) hn512 hI _) (fun h2 hP => kend h2 (Nx_SB hP (fun t2 dy2 p0 p1 hm => hR.1 n _ _ _ _ hn512 hB p0 p1 (fun u w => Nat.le_trans (hm u w) (Nat.add_le_add_left (Nat.zero_le _) _)))))
    · refine x_tableIn (tgt := 335) (x_d C_law 21 rfl) (by decide) (by decide) rfl rfl ?_
      exact lc_bytes (dc := 999) (by omega) hi hL hs rfl (st_bytes (by omega) hn512 hI _) (fun h2 hP => kend h2 (Nx_SB hP (fun t2 dy2 p0 p1 hm => hR.1 n _ _ _ _ hn512 hB p0 p1 (fun u w => Nat.le_trans (hm u w) (Nat.add_le_add_left (Nat.zero_le _) _)))))
    · refine x_tableIn (tgt := 358) (x_d C_law 21 rfl) (by decide) (by decide) rfl rfl ?_
      exact lc_decode (dc := 999) (by omega) hi hL hs rfl (st_decode (by omega) hn512 hI ) (fun h2 hP => kend h2 (Nx_SB hP (fun t2 dy2 p0 p1 hm => hR.1 n _ _ _ _ hn512 hB p0 p1 (fun u w => Nat.le_trans (hm u w) (Nat.add_le_add_left (Nat.zero_le _) _)))))
    · refine x_tableIn (tgt := 371) (x_d C_law 21 rfl) (by decide) (by decide) rfl rfl ?_
      exact lc_octet (dc := 999) (by omega) hi hL hs rfl (st_octet (by omega) hn512 hI _) (fun h2 hP => kend h2 (Nx_SB hP (fun t2 dy2 p0 p1 hm => hR.1 n _ _ _ _ hn512 hB p0 p1 (fun u w => Nat.le_trans (hm u w) (Nat.add_le_add_left (Nat.zero_le _) _)))))
    · refine x_tableIn (tgt := 394) (x_d C_law 21 rfl) (by decide) (by decide) rfl rfl ?_
      exact lc_put (dc := 999) (by omega) hi hL hs rfl (st_put (by omega) hn512 hI _) (fun h2 hP => kend h2 (Nx_SB hP (fun t2 dy2 p0 p1 hm => by rw [Int.le_antisymm p1 p0]; exact hR.2.2.2.1 n _ _ _ (A 2) (q 35) (q 34) hn512 (by omega) ht.1 ht.2 (by omega) hA hB hm)))
    · refine x_tableIn (tgt := 417) (x_d C_law 21 rfl) (by decide) (by decide) rfl rfl ?_
      exact lc_pour (dc := 999) (by omega) hi hL hs rfl (st_pour (by omega) hn512 hI _) (fun h2 hP => kend h2 (Nx_SB hP (fun t2 dy2 p0 p1 hm => by rw [Int.le_antisymm p1 p0]; exact hR.2.2.1 n _ _ _ hn512 ht.1 ht.2 hB hm)))
    · refine x_tableIn (tgt := 440) (x_d C_law 21 rfl) (by decide) (by decide) rfl rfl ?_
      exact lc_free (dc := 999) (by omega) hi hL hs rfl (st_free (by omega) hn512 hI _) (fun h2 hP => kend h2 (Nx_SB hP (fun t2 dy2 p0 p1 hm => hR.1 n _ _ _ _ hn512 hB p0 p1 (fun u w => Nat.le_trans (hm u w) (Nat.add_le_add_left (Nat.zero_le _) _)))))
    · refine x_tableIn (tgt := 463) (x_d C_law 21 rfl) (by decide) (by decide) rfl rfl ?_
      exact lc_save (dc := 999) (by omega) hi hL hs rfl (st_save (by omega) hn512 hI ) (fun h2 hP => kend h2 (Nx_SB hP (fun t2 dy2 p0 p1 hm => hR.1 n _ _ _ _ hn512 hB p0 p1 hm)))
    · refine x_tableIn (tgt := 476) (x_d C_law 21 rfl) (by decide) (by decide) rfl rfl ?_
      exact lc_pages (dc := 999) (by omega) hi hL hs rfl (st_pages (by omega) hn512 hI ) (fun h2 hP => kend h2 (Nx_SB hP (fun t2 dy2 p0 p1 hm => hR.1 n _ _ _ _ hn512 hB p0 p1 (fun u w => Nat.le_trans (hm u w) (Nat.add_le_add_left (Nat.zero_le _) _)))))
    · refine x_tableIn (tgt := 489) (x_d C_law 21 rfl) (by decide) (by decide) rfl rfl ?_
      exact lc_page (dc := 999) (by omega) hi hL hs rfl (st_page (by omega) hn512 hI _) (fun h2 hP => kend h2 (Nx_SB hP (fun t2 dy2 p0 p1 hm => hR.1 n _ _ _ _ hn512 hB p0 p1 (fun u w => Nat.le_trans (hm u w) (Nat.add_le_add_left (Nat.zero_le _) _)))))
    · refine x_tableIn (tgt := 512) (x_d C_law 21 rfl) (by decide) (by decide) rfl rfl ?_
      exact lc_count (dc := 999) (by omega) hi hL hs rfl (st_count (by omega) hn512 hI _) (fun h2 hP => kend h2 (Nx_SB hP (fun t2 dy2 p0 p1 hm => hR.1 n _ _ _ _ hn512 hB p0 p1 (fun u w => Nat.le_trans (hm u w) (Nat.add_le_add_left (Nat.zero_le _) _)))))
    · refine x_tableIn (tgt := 535) (x_d C_law 21 rfl) (by decide) (by decide) rfl rfl ?_
      exact lc_state (dc := 999) (by omega) hi hL hs rfl (st_state (by omega) hn512 hI _ _) (fun h2 hP => kend h2 (Nx_SB hP (fun t2 dy2 p0 p1 hm => hR.1 n _ _ _ _ hn512 hB p0 p1 (fun u w => Nat.le_trans (hm u w) (Nat.add_le_add_left (Nat.zero_le _) _)))))
