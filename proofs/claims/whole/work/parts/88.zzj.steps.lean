/-! steps: save -/
theorem sh_o (b o : Bool) (k : Nat) : sh false true (sh b (!o) k) = sh b o k := by
  cases b <;> cases o <;> simp only [Bool.not_false, Bool.not_true] <;> unfold sh <;> simp only [Bool.false_eq_true, and_false, if_false, and_true] <;> (repeat' split) <;> omega
theorem swc_o (b o : Bool) (k : Nat) : swc false true (swc b (!o) k) = swc b o k := by
  cases b <;> cases o <;> simp only [Bool.not_false, Bool.not_true] <;> unfold swc <;> simp only [Bool.false_eq_true, and_false, if_false, and_true] <;> (repeat' split) <;> omega
theorem swc_o2 (b o : Bool) (k : Nat) : swc b (!o) (swc false true k) = swc b o k := by
  cases b <;> cases o <;> simp only [Bool.not_false, Bool.not_true] <;> unfold swc <;> simp only [Bool.false_eq_true, and_false, if_false, and_true] <;> (repeat' split) <;> omega
theorem sh_b (b o : Bool) (k : Nat) : sh true false (sh (!b) o k) = sh b o k := by
  cases b <;> cases o <;> simp only [Bool.not_false, Bool.not_true] <;> unfold sh <;> simp only [Bool.false_eq_true, and_false, if_false, and_true] <;> (repeat' split) <;> omega
theorem swc_b (b o : Bool) (k : Nat) : swc true false (swc (!b) o k) = swc b o k := by
  cases b <;> cases o <;> simp only [Bool.not_false, Bool.not_true] <;> unfold swc <;> simp only [Bool.false_eq_true, and_false, if_false, and_true] <;> (repeat' split) <;> omega
theorem swc_b2 (b o : Bool) (k : Nat) : swc (!b) o (swc true false k) = swc b o k := by
  cases b <;> cases o <;> simp only [Bool.not_false, Bool.not_true] <;> unfold swc <;> simp only [Bool.false_eq_true, and_false, if_false, and_true] <;> (repeat' split) <;> omega
theorem hF_so (b o : Bool) (q : Nat → Int) (r : Nat → Option Nat) (A : Nat → Nat → Int) : hF (vq b o q) (vr b o r) (vA b o A) = hF (vq b (!o) (vq false true q)) (vr b (!o) (vr false true r)) (vA b (!o) (vA false true A)) := by
  have e1 : vq b (!o) (vq false true q) = vq b o q := funext (fun k => by show q (sh false true (sh b (!o) k)) = q (sh b o k); rw [sh_o])
  have e2 : vr b (!o) (vr false true r) = vr b o r := funext (fun k => by
    show ((r (sh false true (sh b (!o) k))).map (swc false true)).map (swc b (!o)) = (r (sh b o k)).map (swc b o)
    rw [sh_o, Option.map_map]
    congr 1
    funext c
    exact swc_o2 b o c)
  have e3 : vA b (!o) (vA false true A) = vA b o A := funext (fun c => by show A (swc false true (swc b (!o) c)) = A (swc b o c); rw [swc_o])
  rw [e1, e2, e3]
theorem hF_sb (b o : Bool) (q : Nat → Int) (r : Nat → Option Nat) (A : Nat → Nat → Int) : hF (vq b o q) (vr b o r) (vA b o A) = hF (vq (!b) o (vq true false q)) (vr (!b) o (vr true false r)) (vA (!b) o (vA true false A)) := by
  have e1 : vq (!b) o (vq true false q) = vq b o q := funext (fun k => by show q (sh true false (sh (!b) o k)) = q (sh b o k); rw [sh_b])
  have e2 : vr (!b) o (vr true false r) = vr b o r := funext (fun k => by
    show ((r (sh true false (sh (!b) o k))).map (swc true false)).map (swc (!b) o) = (r (sh b o k)).map (swc b o)
    rw [sh_b, Option.map_map]
    congr 1
    funext c
    exact swc_b2 b o c)
  have e3 : vA (!b) o (vA true false A) = vA b o A := funext (fun c => by show A (swc true false (swc (!b) o c)) = A (swc b o c); rw [swc_b])
  rw [e1, e2, e3]
theorem dcf_sw {S S2 c : Nat} (b o : Bool) (h : dcf S S2 c) : swc b o S = S ∧ swc b o S2 = S2 ∧ swc b o c = c := by
  rcases h with ⟨rfl, rfl, rfl | rfl⟩ | ⟨rfl, rfl, rfl | rfl⟩ <;> exact ⟨rfl, rfl, rfl⟩
theorem Inv_sv {n : Nat} {q : Nat → Int} {r : Nat → Option Nat} {A : Nat → Nat → Int} {dy ny : xH} {g : Nat → Option xE} {s2 ov2 s3 ov3 : Int} {pl2 f2 pl3 f3 : Nat → Int} (h : Inv n q r A dy g) (h2 : ∀ k, 0 ≤ pl2 k ∧ pl2 k ≤ 6000) (h3 : ∀ k, 0 ≤ pl3 k ∧ pl3 k ≤ 6000) : Inv n (x_up (x_up (x_up (x_up (x_up q 1283 6000) 1281 s2) 1282 ov2) 1359 s3) 1360 ov3) (x_up (x_up (x_up (x_up (x_up (x_up r 515 (some 26)) 516 (some 40)) 7 (some 26)) 8 (some 32)) 9 (some 38)) 10 (some 40)) (x_up (x_up (x_up (x_up A 17 pl2) 41 f2) 49 pl3) 48 f3) (dy ++ ny) g := by
  obtain ⟨t, rr, oo, bb, gk, pt, f⟩ := h
  obtain ⟨S, T, c, hd, s1, s2', s3'⟩ := rr.2
  refine ⟨t, ⟨⟨rfl, rfl, rfl, rfl⟩, S, T, c, hd, s1, s2', s3'⟩, oo, ⟨bb.1, bb.2.1, h2, h3, bb.2.2.2.2⟩, gok_app gk _, pt, ?_⟩
  rcases f with f | ⟨l, cp, cb, ct, fis, fge, fpl, fva, fch, fb, g1, g2, g3⟩
  · exact Or.inl f
  · exact Or.inr ⟨l, cp, cb, ct, fis, fge, fpl, fva, fch, fb, g1, PB_app g2 _, g3⟩
theorem Inv_sv2 {n : Nat} {q : Nat → Int} {r : Nat → Option Nat} {A : Nat → Nat → Int} {dy ny : xH} {g : Nat → Option xE} {m ov2 s3 ov3 : Int} {pl2 f2 pl3 f3 fo : Nat → Int} (h : Inv n q r A dy g) (h2 : ∀ k, 0 ≤ pl2 k ∧ pl2 k ≤ 6000) (h3 : ∀ k, 0 ≤ pl3 k ∧ pl3 k ≤ 6000) (hm : 0 ≤ m ∧ m ≤ 6000) (hf : ∀ k : Nat, (k : Int) < m → f2 k = fo k) : Inv n (vq false true (x_up (x_up (x_up (x_up (x_up (x_up q 1283 6000) 1281 m) 1282 ov2) 1359 s3) 1360 ov3) 1353 m)) (vr false true (x_up (x_up (x_up (x_up (x_up (x_up r 515 (some 26)) 516 (some 40)) 7 (some 26)) 8 (some 32)) 9 (some 40)) 10 (some 38))) (vA false true (x_up (x_up (x_up (x_up (x_up A 17 pl2) 41 f2) 49 pl3) 48 f3) 45 fo)) (dy ++ ny) g := by
  obtain ⟨t, rr, oo, bb, gk, pt, f⟩ := h
  obtain ⟨S, T, c, hd, s1, s2', s3'⟩ := rr.2
  obtain ⟨d1, d2, d3⟩ := dcf_sw false true hd
  have e1 : ∀ k v, (r k).map (swc false true) = v ↔ (r k).map (swc false true) = v := fun _ _ => Iff.rfl
  refine ⟨t, ⟨⟨rfl, rfl, rfl, rfl⟩, S, T, c, hd, ?_, ?_, ?_⟩, ⟨rfl, hm, hf⟩, ⟨bb.1, bb.2.1, h2, h3, bb.2.2.2.2⟩, gok_app gk _, ?_, ?_⟩
  · show (r 578).map (swc false true) = some S
    rw [s1]; show some (swc false true S) = some S; rw [d1]
  · show (r 579).map (swc false true) = some T
    rw [s2']; show some (swc false true T) = some T; rw [d2]
  · show (r 580).map (swc false true) = some c
    rw [s3']; show some (swc false true c) = some c; rw [d3]
  · rcases pt with ⟨p1, p2⟩ | ⟨p1, c, p2, p3⟩
    · refine Or.inl ⟨p1, ?_⟩
      show (r 1351).map (swc false true) = none
      rw [p2]; rfl
    · refine Or.inr ⟨p1, c, ?_, p3⟩
      show (r 1351).map (swc false true) = some c
      rw [p2]
      show some (swc false true c) = some c
      rw [swc_hi false true (by have := Tr_52 gk p3; omega)]
  · rcases f with f | ⟨l, cp, cb, ct, fis, fge, fpl, fva, fch, fb, g1, g2, g3⟩
    · refine Or.inl ⟨?_, f.2⟩
      show (r 1350).map (swc false true) = none
      rw [f.1]; rfl
    · refine Or.inr ⟨l, cp, cb, ct, fis, fge, fpl, fva, fch, fb, ?_, PB_app g2 _, g3⟩
      show (r 1350).map (swc false true) = some cp
      rw [g1]
      show some (swc false true cp) = some cp
      rw [swc_hi false true (by have := g2.1.1; omega)]
theorem st_save {Z : xZ} {d : Nat} {n : Nat} {b o : Bool} {q : Nat → Int} {r : Nat → Option Nat} {A : Nat → Nat → Int} {dy : xH} {g : Nat → Option xE} (hd : 60 ≤ d) (hn : n < 512) (hI : Inv n q r A dy g) : Bth Z d Y_PF_save Y_M_save [] (hF (vq b o q) (vr b o r) (vA b o A) ++ dy) (Nx (n + 1) dy (fun u w => 6 * u + 160 * w) (q 1349)) := by
  refine bth_ok (fun hok => ?_)
  obtain ⟨h29, h30, hB⟩ := ok_A hok
  have hRC := Inv_RC hI
  have hI1 := Inv_s hI
  have hI0 := hI
  obtain ⟨t, rr, oo, bb, gk, pt, f⟩ := hI
  have et : x_up q 1349 (q 35 - q 34) = q := x_up_id t.2.1.1.symm
  rcases f with f | ⟨l, cp, cb, ct, fis, fge, fpl, fva, fch, fb, f⟩
  · have hr1 := iP_no pt f.2.2.2.2.2.2
    have er := vr_no (b := b) (o := o) f.1 hr1
    have hc := c_PF_save Z d q r A (vd b o dy) (by omega) (by have := t.1; omega) (by have := f.2.1; omega) t.2.2.2.2.2 bb.1.1 bb.2.2.1 (fun z => absurd z (by have := f.2.1; omega)) _ rfl
    rw [hRC] at hc
    have hm := c_M_saveN Z d (vq b o q) (vr b o r) (vA b o A) dy (by omega) none
    rw [er] at hm
    refine bth_eq (z := -2) rfl (xMet_post ?_ hc) (xMet_post ?_ hm)
    · rintro v h2 (⟨_, rfl, rfl⟩ | ⟨h0, _⟩)
      · exact ⟨rfl, rfl⟩
      · have := f.2.1; omega
    · rintro v h2 ⟨rfl, rfl⟩
      exact ⟨rfl, Nx_i hI1⟩
  · obtain ⟨f1, f2', f3, f4, f5, f6, f7, f8, f9, f10, f11⟩ := f
    obtain ⟨l1, l2, l3⟩ := iL_f l
    have hcp : 52 ≤ cp := f2'.1.1
    have hT : 0 ≤ q 34 ∧ q 34 ≤ q 35 ∧ q 35 ≤ 10248 := by have := t.1; omega
    have hus : ∀ k : Nat, (k : Int) < q 837 → (fis k = 2 ↔ ¬ A 29 k = 0) ∧ A 28 k = fge k := fun k hk => ⟨(f8 k (by omega)).1, (f8 k (by omega)).2.1.symm⟩
    have hva : ∀ k : Nat, (k : Int) < q 837 → ¬ A 29 k = 0 → ∃ c2, fva k = some c2 ∧ Tr (A 2) (q 34) g A 9 (A 27 k) c2 := fun k k1 k2 => (f10 k k1 k2).1
    have hfc : ∀ c, some cp = some c → 42 ≤ c := fun c hc => by cases hc; omega
    have hwv : ∀ k : Nat, (k : Int) < q 837 → ¬ A 29 k = 0 → wv (A 5) (A 6) (A 7) (A 8) (A 9) (A 2) (q 35) 8 (A 27 k) := fun k k1 k2 => by
      obtain ⟨c2, _, e2⟩ := hva k k1 k2
      exact Tr_wv ⟨by omega, by omega⟩ 8 _ c2 e2 (l2 k k1 k2).2.2.1
    have htw : wv (A 5) (A 6) (A 7) (A 8) (A 9) (A 2) (q 35) 8 (q 840) := Tr_wv ⟨by omega, by omega⟩ 8 _ ct f11.1 l3.2.2
    have hpc : ∀ c, r 1351 = some c → 42 ≤ c := fun c hc => by
      rcases pt with ⟨_, z⟩ | ⟨_, c2, z, zt⟩
      · rw [z] at hc; cases hc
      · rw [z] at hc; cases hc; have := Tr_52 gk zt; omega
    obtain ⟨L, hL⟩ : ∃ L, L = s_file (s_wv (A 5) (A 6) (A 7) (A 8) (A 9) (A 2) (q 35) 8) (s_wv (A 5) (A 6) (A 7) (A 8) (A 9) (A 2) (q 35) 7) (A 27) (A 28) (A 29) (A 30) (A 8) (A 9) (A 2) (q 35) (q 840) (q 837) (q 839) (s_sl (A 2) (q 841).toNat (q 842 - q 841).toNat) := ⟨_, rfl⟩
    have hin : ∀ x, x ∈ s_in (A 8) (q 840) → wv (A 5) (A 6) (A 7) (A 8) (A 9) (A 2) (q 35) 7 x ∧ 0 ≤ A 9 x.toNat ∧ wnm (A 9) (A 2) (q 35) x := fun x hx => by
      have h1 := htw.2 x hx
      refine ⟨h1.1, ?_, h1.2⟩
      obtain ⟨_, _, _, _, _, _, _, _, _, _, _, _, hK⟩ := Tr_o f11.1
      obtain ⟨ci, cn, cap, cap2, fi, fn, nb, nl, nf, b1, b2, b3, b4, b5, b6, b7, b8, b9, b10, b11⟩ := tK_names hK (Or.inl f11.2.1)
      obtain ⟨j, hj, e⟩ := List.getElem_of_mem hx
      have e2 : (s_in (A 8) (q 840)).getD j 0 = x := by rw [List.getD_eq_getElem?_getD, List.getElem?_eq_getElem hj]; exact e
      have g1 := (b11 j hj).2.2.1
      rw [e2] at g1
      exact g1
    have hc := c_PF_save Z d q r A (vd b o dy) (by omega) hT (by omega) t.2.2.2.2.2 bb.1.1 bb.2.2.1 (fun _ => ⟨l3, f7, hin, fun k hk => (f8 k hk).2.2.2.1, hwv, ⟨f5.1, f5.2.1, by omega⟩⟩) L hL
    rw [hRC] at hc
    have hug : ∀ k : Nat, (k : Int) < q 837 → (fis k = 2 ↔ ¬ A 29 k = 0) ∧ A 28 k = fge k ∧ fch k = A 30 k ∧ (0 ≤ A 28 k ∧ A 28 k ≤ 99999) := fun k hk => by
      obtain ⟨a1, a2, a3, a4, a5⟩ := f8 k (by omega)
      exact ⟨a1, a2.symm, a3, a4⟩
    have hfb : ∀ k, fch k = 0 ∨ fch k = 1 := fun k => hok (xA 2 301 fch) (List.mem_of_getElem? (ct_get f2'.2.2.2.2.2 _ _ _)) k
    have hcz : s_sm fch 301 = s_sm (A 30) (q 837).toNat := s_sm_ch (by omega) (fun k hk => ⟨(f8 k hk).2.2.1, fun z => ((f8 k hk).2.2.2.2 z).2⟩) f9
    have hL2 : L = s_file (s_wv (A 5) (A 6) (A 7) (A 8) (A 9) (A 2) (q 35) 8) (s_wv (A 5) (A 6) (A 7) (A 8) (A 9) (A 2) (q 35) 7) (A 27) (A 28) (A 29) (A 30) (A 8) (A 9) (A 2) (q 35) (q 840) (q 837) (q 839) (s_sl fb 0 (q 842 - q 841).toNat) := by
      have eb : s_sl fb 0 (q 842 - q 841).toNat = s_sl (A 2) (q 841).toNat (q 842 - q 841).toNat := s_sl_eq _ _ _ (fun j hj => by rw [Nat.zero_add]; exact f4.2 j (by omega))
      rw [eb]
      exact hL
    refine bth_view b o rfl hc (fun v h2 hh => ?_)
    rcases hh with ⟨h0, _⟩ | ⟨_, s2, ov2, f2, pl2, hpl2, ⟨hl, rfl, rfl⟩ | ⟨hl, rfl, rfl, hf2, rfl⟩⟩
    · omega
    · refine ⟨-3, _, _, _, rfl, rfl, ?_⟩
      have hm := c_M_save Z d (vq b o (x_up (x_up (x_up q 1283 6000) 1281 s2) 1282 ov2)) (vr b o (x_up (x_up (x_up (x_up (x_up (x_up r 515 (some 26)) 516 (some 40)) 7 (some 26)) 8 (some 32)) 9 (some 38)) 10 (some 40))) (vA b o (x_up (x_up A 17 pl2) 41 f2)) dy (by omega) (r 1351) (A 2) (q 34) g A gk cp cb (q 842 - q 841).toNat (q 838) (q 839) ct (q 837) fis fge fpl fva fch fb f2' (by omega) f4.1 (by omega) f7 (q 840) f11.1 f11.2.1 f11.2.2.1 (q 35) (by omega) (f11.2.2.2 (q 35) (by omega)) (A 29) (A 28) (A 30) hug (A 27) hva L hL2 hcz hfb bb.2.2.2.1
      rw [vr_pt (b := b) (o := o) (r := (x_up (x_up (x_up (x_up (x_up (x_up r 515 (some 26)) 516 (some 40)) 7 (some 26)) 8 (some 32)) 9 (some 38)) 10 (some 40))) (po := r 1351) f1 rfl hfc hpc] at hm
      refine xMet_post ?_ hm
      rintro v h2 ⟨s3, ov3, f3, pl3, ny, hmu, hpl3, ⟨_, rfl, rfl⟩ | ⟨h0, _⟩⟩
      · refine ⟨rfl, ?_⟩
        rw [vq_up b o _ (by omega), vq_up b o _ (by omega), vA_up b o _ (by omega), vA_up b o _ (by omega)]
        exact ⟨b, o, _, _, _, _, g, rfl, Inv_sv hI1 hpl2 hpl3, Int.le_refl _, fun u w => by show mu u w (dy ++ ny) ≤ mu u w dy + (6 * u + 160 * w); rw [mu_app]; have := hmu u w; omega⟩
      · omega
    · refine ⟨(L.length : Int), _, _, _, rfl, rfl, ?_⟩
      have hm := c_M_save Z d (vq b o (x_up (x_up (x_up q 1283 6000) 1281 (L.length : Int)) 1282 ov2)) (vr b o (x_up (x_up (x_up (x_up (x_up (x_up r 515 (some 26)) 516 (some 40)) 7 (some 26)) 8 (some 32)) 9 (some 40)) 10 (some 38))) (vA b o (x_up (x_up A 17 pl2) 41 f2)) dy (by omega) (r 1351) (A 2) (q 34) g A gk cp cb (q 842 - q 841).toNat (q 838) (q 839) ct (q 837) fis fge fpl fva fch fb f2' (by omega) f4.1 (by omega) f7 (q 840) f11.1 f11.2.1 f11.2.2.1 (q 35) (by omega) (f11.2.2.2 (q 35) (by omega)) (A 29) (A 28) (A 30) hug (A 27) hva L hL2 hcz hfb bb.2.2.2.1
      rw [vr_pt (b := b) (o := o) (r := (x_up (x_up (x_up (x_up (x_up (x_up r 515 (some 26)) 516 (some 40)) 7 (some 26)) 8 (some 32)) 9 (some 40)) 10 (some 38))) (po := r 1351) f1 rfl hfc hpc] at hm
      refine xMet_post ?_ hm
      rintro v h2 ⟨s3, ov3, f3, pl3, ny, hmu, hpl3, ⟨h0, _⟩ | ⟨_, rfl, fo, rfl, hfo⟩⟩
      · omega
      · refine ⟨rfl, ?_⟩
        rw [vq_up b o _ (by omega), vq_up b o _ (by omega), vq_up b o _ (by omega), vA_up b o _ (by omega), vA_up b o _ (by omega), vA_up b o _ (by omega), hF_so]
        exact ⟨b, !o, _, _, _, _, g, rfl, Inv_sv2 hI1 hpl2 hpl3 (by omega) (fun k hk => by rw [hf2 k (by omega), hfo k (by omega)]), Int.le_refl _, fun u w => by show mu u w (dy ++ ny) ≤ mu u w dy + (6 * u + 160 * w); rw [mu_app]; have := hmu u w; omega⟩
