theorem Fx.nw {S S' : Nat → Prop} {σ σ' : HP} (h : Fx S σ σ') (q : ∀ a, a / 64 < hN σ → ¬ S a) : Fx S' σ σ' := ⟨h.1, h.2.1, fun a x _ => h.2.2 a x (q a x)⟩
theorem s_keepWork {d : Nat} {pw : PW} {im : IMS} {D : DN} {σ : HP} (A : PaA σ pw im) (hd : DA σ 14 D) (hw : pw.1 < 16) (hn : 88 ≤ hN σ) : ∃ σ', callF (d + 3) m_Past_keepWork [.ref 2502, .ref 897] σ = some (.inl none, σ') ∧ PaA σ' (pw.1 + 1, fun i => if i = pw.1 then D else pw.2 i) im ∧ Fx (fun a => a = 2502 ∨ a = 2597) σ σ' ∧ hN σ' = hN σ + 5 ∧ hS σ' = hS σ + 85 := by
  obtain ⟨n, hN0⟩ : ∃ n, hN σ = n := ⟨_, rfl⟩
  obtain ⟨σ2, e2, R2, n2, z2, F2, -⟩ := s_newDays (d := d + 1) (n := n) (σ := hA σ 1 8) (by rw [hN_hA, hN0])
  have F2' : Fx (fun a => n ≤ a / 64) σ σ2 := (Fx.ha Fx.rf).tr (F2.mono (fun a z => by omega))
  have d2 : DA σ2 14 D := hd.fx F2' (by omega) (fun a x y => by omega)
  obtain ⟨σ3, e3, d3, F3⟩ := s_takeFrom (d := d) (s := n) d2 R2 (by omega)
  have F3' : Fx (fun a => a = 2502 ∨ a = 2597) σ σ3 := (F2'.tr (F3.mono (fun a z => z.1)).x).nw (fun a x => by omega)
  have A3 : PaA σ3 pw im := A.fx (S := fun _ => False) ((F2'.tr (F3.mono (fun a z => z.1)).x).nw (fun a x => by omega)) hn (fun z => z) (fun z => z) (fun z => z) (fun _ _ z => z)
  have n3 : hN σ3 = n + 5 := F3.N.trans n2
  have z3 : hS σ3 = hS σ + 85 := by rw [F3.Z, z2, hS_hA]
  obtain ⟨h1, h2, h3, h4, h5, h6, h7, h8⟩ := A3
  have F4 : Fx (fun a => a = 2502 ∨ a = 2597) σ3 (wI (wR σ3 2597 pw.1 (some (1 + 64 * n))) 2502 1 (ii (pw.1 + 1))) := Fx.wi (Fx.wr Fx.rf (Or.inr rfl)) (Or.inl rfl)
  refine ⟨wI (wR σ3 2597 pw.1 (some (1 + 64 * n))) 2502 1 (ii (pw.1 + 1)), ?_, ⟨?_, ?_, gI_at, ?_, by show pw.1 + 1 ≤ 16; omega, h6, ⟨fun i hi => ?_, fun i hi => ?_⟩, fun i hi => ?_⟩, F3'.tr F4, n3.trans (by omega), z3⟩
  · have f3 := F3.R
    have g1 : gR σ2 2502 0 = some 2597 := (F3.R _ _).symm.trans h1
    have v1 := A.2.2.1
    have v0 := A.1
    have st : stOK 2597 (some (1 + 64 * n)) := Or.inl ⟨rfl, by omega⟩
    have o1 := hN0
    simp (disch := first | omega | exact b2_01 _ | exact ii0_01 | exact ii1_01 | (simp (disch := omega) only [v0, ak37, not_false_eq_true, Nat.reduceEqDiff, f3, g1, dr_some, Option.isSome_some, gR_wI, Nat.add_mul_mod_self_left, Nat.reduceMod, ak20, ak21, ak22, ak23, ak24, ak25, ak26, ak27, ak28, ak29, ak30, ak31, ak32, ak33, ak34, ak35, ak36, an20, an21, an22, an23, an24, an25, an26, an27, an28, an29, an30, an31, an32, an33, an34, an35, an36, an37, an38, ne_eq, inR_ii, decide_eq_true_eq, lit_ii, of_ii, ii_eq, ii_lt, ii_le]; first | done | omega)) only [v0, ak37, not_false_eq_true, Nat.reduceEqDiff, f3, g1, e_Past_keepWork, b_Past_keepWork_0, b_Past_keepWork_7, b_Past_keepWork_19, b_Past_keepWork_26, v1, o1, e2, e3, dr_some, Option.isSome_some, gR_wI, Nat.add_mul_mod_self_left, Nat.reduceMod, ak20, ak21, ak22, ak23, ak24, ak25, ak26, ak27, ak28, ak29, ak30, ak31, ak32, ak33, ak34, ak35, ak36, an20, an21, an22, an23, an24, an25, an26, an27, an28, an29, an30, an31, an32, an33, an34, an35, an36, an37, an38, ↓reduceIte, bk_int, bk_void, bk_long, bkN_int, bkN_void, bkN_long, Nat.reduceAdd, Nat.reduceMul, Nat.reduceSub, Nat.reduceLT, Nat.reduceLeDiff, if_true, if_false, not_true_eq_false, not_false_eq_true, Bool.true_eq_false, Bool.false_eq_true, b2_eq0, Nat.add_zero, Nat.zero_add, Nat.not_lt_zero, Nat.zero_le, ite_true, ite_false, decide_true, decide_false, lit_ii, of_ii, le_T, le_F, lt_T, lt_F, eq_T, eq_F, ii_add, ii_mul, ii_nat, ii_le, ii_lt, ii_eq, inR_ii, ii_add0]
    rw [b_Past_keepWork_32 (by decide) (by rw [h1]; rfl) (by rw [h1]; exact st) (by rw [h1, h3, inR_ii (by omega)]; exact decide_eq_true hw), b_Past_keepWork_52]
    rw [h1, h3, gI_wR, h3, dr_some, ii_nat (by omega), lit_ii, ii_add]
  · rw [gR_wI, gR_ne (by decide), h1]
  · rw [gR_wI, gR_ne (by decide), h2]
  · rw [gI_nj (by decide), gI_wR, h4]
  · by_cases q : i = pw.1
    · refine ⟨n, ?_, by omega, ?_, ?_⟩
      · rw [gR_wI, q, gR_at]
      · show n + 4 < hN σ3
        omega
      · simp only [q, if_true]
        exact d3.fx F4 (by omega) (fun a x y => by omega)
    · have hi' : i < pw.1 + 1 := hi
      obtain ⟨s, q1, q2, q3, q4⟩ := h7.1 i (by omega)
      refine ⟨s, ?_, q2, q3, ?_⟩
      · rw [gR_wI, gR_nj q, q1]
      · simp only [q, if_false]
        exact q4.fx F4 q3 (fun a x y => by omega)
  · by_cases q : i = pw.1
    · exact Or.inr ⟨n, by rw [gR_wI, q, gR_at]⟩
    · rw [gR_wI, gR_nj q]
      exact h7.2 i hi
  · obtain ⟨g, g1, g2⟩ := h8 i hi
    exact ⟨g, by rw [gR_wI, gR_ne (by decide), g1], g2.fx F4 (fun a x => by omega)⟩
theorem s_keepImage3 {d a : Nat} {pw : PW} {im : IMS} {σ : HP} (A : PaA σ pw im) (h3 : im.1 = 3) : callF (d + 1) m_Past_keepImage [.ref 2502, .ref a] σ = some (.inl (some (.int (-ii 1))), σ) := by
  obtain ⟨v0, v2, v1, v3, -⟩ := A
  rw [h3] at v3
  simp (disch := first | omega | exact b2_01 _ | exact ii0_01 | exact ii1_01 | (simp (disch := omega) only [v2, ak38, not_false_eq_true, Nat.reduceEqDiff, dr_some, Option.isSome_some, gR_wI, Nat.add_mul_mod_self_left, Nat.reduceMod, ak20, ak21, ak22, ak23, ak24, ak25, ak26, ak27, ak28, ak29, ak30, ak31, ak32, ak33, ak34, ak35, ak36, an20, an21, an22, an23, an24, an25, an26, an27, an28, an29, an30, an31, an32, an33, an34, an35, an36, an37, an38, ne_eq, inR_ii, decide_eq_true_eq, lit_ii, of_ii, ii_eq, ii_lt, ii_le]; first | done | omega)) only [v2, ak38, not_false_eq_true, Nat.reduceEqDiff, e_Past_keepImage, b_Past_keepImage_0, b_Past_keepImage_7, b_Past_keepImage_19, v3, dr_some, Option.isSome_some, gR_wI, Nat.add_mul_mod_self_left, Nat.reduceMod, ak20, ak21, ak22, ak23, ak24, ak25, ak26, ak27, ak28, ak29, ak30, ak31, ak32, ak33, ak34, ak35, ak36, an20, an21, an22, an23, an24, an25, an26, an27, an28, an29, an30, an31, an32, an33, an34, an35, an36, an37, an38, ↓reduceIte, bk_int, bk_void, bk_long, bkN_int, bkN_void, bkN_long, Nat.reduceAdd, Nat.reduceMul, Nat.reduceSub, Nat.reduceLT, Nat.reduceLeDiff, if_true, if_false, not_true_eq_false, not_false_eq_true, Bool.true_eq_false, Bool.false_eq_true, b2_eq0, Nat.add_zero, Nat.zero_add, Nat.not_lt_zero, Nat.zero_le, ite_true, ite_false, decide_true, decide_false, lit_ii, of_ii, le_T, le_F, lt_T, lt_F, eq_T, eq_F, ii_add, ii_mul, ii_nat, ii_le, ii_lt, ii_eq, inR_ii, ii_add0]
theorem s_keepImage {d : Nat} {pw : PW} {im : IMS} {D : DN} {σ : HP} (A : PaA σ pw im) (hd : DA σ 14 D) (hw : im.1 < 3) (hn : 88 ≤ hN σ) : ∃ σ', callF (d + 4) m_Past_keepImage [.ref 2502, .ref 897] σ = some (.inl (some (.int (ii (im.1 + 1)))), σ') ∧ PaA σ' pw (im.1 + 1, fun i => if i = im.1 then (D, pw.1, pw.2) else im.2 i) ∧ Fx (fun a => a = 2502 ∨ a = 2662) σ σ' ∧ hN σ' = hN σ + 7 ∧ hS σ' = hS σ + 104 := by
  obtain ⟨n, hN0⟩ : ∃ n, hN σ = n := ⟨_, rfl⟩
  obtain ⟨σ2, e2, R2, n2, z2, F2, -⟩ := s_newDays (d := d + 1) (n := n + 1) (σ := hA (hA σ 3 3) 1 8) (by rw [hN_hA, hN_hA, hN0])
  have F2' : Fx (fun a => n ≤ a / 64) σ σ2 := (Fx.ha (Fx.ha Fx.rf)).tr (F2.mono (fun a z => by omega))
  -- the image's own fields
  have F3 : Fx (fun a => n ≤ a / 64) σ (wI (wR (hA (wR σ2 (3 + 64 * n) 0 (some (1 + 64 * (n + 1)))) 37 16) (3 + 64 * n) 1 (some (37 + 64 * (n + 6)))) (3 + 64 * n) 2 (ii pw.1)) := Fx.wi (Fx.wr (Fx.ha (Fx.wr F2' (by omega))) (by omega)) (by omega)
  obtain ⟨σ3, h3⟩ : ∃ σ3, σ3 = wI (wR (hA (wR σ2 (3 + 64 * n) 0 (some (1 + 64 * (n + 1)))) 37 16) (3 + 64 * n) 1 (some (37 + 64 * (n + 6)))) (3 + 64 * n) 2 (ii pw.1) := ⟨_, rfl⟩
  rw [← h3] at F3
  have n3 : hN σ3 = n + 7 := by rw [h3, hN_wI, hN_wR, hN_hA, hN_wR, n2]
  have z3 : hS σ3 = hS σ + 104 := by
    rw [h3]
    show hS σ2 + 16 = _
    rw [z2, hS_hA, hS_hA]
  have i0 : gR σ3 (3 + 64 * n) 0 = some (1 + 64 * (n + 1)) := by rw [h3, gR_wI, gR_nj (by decide), gR_hAn (by rw [hN_wR, n2]; omega), gR_at]
  have i1 : gR σ3 (3 + 64 * n) 1 = some (37 + 64 * (n + 6)) := by rw [h3, gR_wI, gR_at]
  have i2 : gI σ3 (3 + 64 * n) 2 = ii pw.1 := by rw [h3, gI_at]
  have R3 : DR σ3 (n + 1) := by
    obtain ⟨r4, r5, r6, r7⟩ := R2
    rw [h3]
    refine ⟨?_, ?_, ?_, ?_⟩ <;> rw [gR_wI, gR_ne (by omega), gR_hAn (by rw [hN_wR, n2]; omega), gR_ne (by omega)] <;> assumption
  have d3 : DA σ3 14 D := hd.fx F3 (by omega) (fun a x y => by omega)
  have A3 : PaA σ3 pw im := A.fx (S := fun _ => False) (F3.nw (fun a x => by omega)) hn (fun z => z) (fun z => z) (fun z => z) (fun _ _ z => z)
  obtain ⟨σ4, e4, d4, F4⟩ := s_takeFrom (d := d + 1) (s := n + 1) d3 R3 (by omega)
  have A4 : PaA σ4 pw im := A.fx (S := fun _ => False) ((F3.tr (F4.mono (fun a z => by omega)).x).nw (fun a x => by omega)) hn (fun z => z) (fun z => z) (fun z => z) (fun _ _ z => z)
  obtain ⟨σ5, e5, F5, v5⟩ := s_copyKept (d := d + 2) (a := 2597) (b := 37 + 64 * (n + 6)) (by decide) (by omega) (by omega) A4.2.2.2.2.2.2.1.2
  have F05 : Fx (fun a => n ≤ a / 64) σ σ5 := (F3.tr (F4.mono (fun a z => by omega)).x).tr (F5.x.mono (fun a z => by omega))
  have A5 : PaA σ5 pw im := A.fx (S := fun _ => False) (F05.nw (fun a x => by omega)) hn (fun z => z) (fun z => z) (fun z => z) (fun _ _ z => z)
  have n5 : hN σ5 = n + 7 := F5.N.trans (F4.N.trans n3)
  have z5 : hS σ5 = hS σ + 104 := F5.Z.trans (F4.Z.trans z3)
  have K5 : KA σ5 (37 + 64 * (n + 6)) pw.1 pw.2 := A4.2.2.2.2.2.2.1.cp A.2.2.2.2.1 F5 (by omega) (by omega) v5
  have D5 : DA σ5 (n + 1) D := d4.fr F5 (by omega)
  have j0 : gR σ5 (3 + 64 * n) 0 = some (1 + 64 * (n + 1)) := (F5.2.2.2 _ _ (by omega)).trans ((F4.R _ _).trans i0)
  have j1 : gR σ5 (3 + 64 * n) 1 = some (37 + 64 * (n + 6)) := (F5.2.2.2 _ _ (by omega)).trans ((F4.R _ _).trans i1)
  have j2 : gI σ5 (3 + 64 * n) 2 = ii pw.1 := (F5.I _ _).trans ((F4.I (by omega)).trans i2)
  have F6 : Fx (fun a => a = 2502 ∨ a = 2662) σ5 (wI (wR σ5 2662 im.1 (some (3 + 64 * n))) 2502 3 (ii (im.1 + 1))) := Fx.wi (Fx.wr Fx.rf (Or.inr rfl)) (Or.inl rfl)
  obtain ⟨h1, h2, h3', h4, h5, h6, h7, h8⟩ := A5
  refine ⟨wI (wR σ5 2662 im.1 (some (3 + 64 * n))) 2502 3 (ii (im.1 + 1)), ?_, ⟨?_, ?_, ?_, gI_at, h5, by show im.1 + 1 ≤ 3; omega, h7.fx F6 (by omega) (by omega) (fun a x => by omega), fun i hi => ?_⟩, (F05.nw (fun a x => by omega)).tr F6, n5.trans (by omega), z5⟩
  · have w1 : gI (hA σ 3 3) 2502 1 = ii pw.1 := by rw [gI_hAn (by omega)]; exact A.2.2.1
    have e6 : callF (d + 3) m_Image_init [.ref (3 + 64 * n), .int (ii pw.1)] (hA σ 3 3) = some (.inl none, σ3) := by
      have o1 : hN (hA σ 3 3) = n + 1 := by rw [hN_hA, hN0]
      have o2 : hN (wR σ2 (3 + 64 * n) 0 (some (1 + 64 * (n + 1)))) = n + 6 := n2
      have o3 : hN σ2 = n + 6 := n2
      rw [h3]
      simp (disch := first | omega | exact b2_01 _ | exact ii0_01 | exact ii1_01 | (simp (disch := omega) only [o1, o2, o3, dr_some, Option.isSome_some, gR_wI, Nat.add_mul_mod_self_left, Nat.reduceMod, ak20, ak21, ak22, ak23, ak24, ak25, ak26, ak27, ak28, ak29, ak30, ak31, ak32, ak33, ak34, ak35, ak36, an20, an21, an22, an23, an24, an25, an26, an27, an28, an29, an30, an31, an32, an33, an34, an35, an36, an37, an38, ne_eq, inR_ii, decide_eq_true_eq, lit_ii, of_ii, ii_eq, ii_lt, ii_le]; first | done | omega)) only [o1, o2, o3, e_Image_init, b_Image_init_0, b_Image_init_12, e2, hN_wR, dr_some, Option.isSome_some, gR_wI, Nat.add_mul_mod_self_left, Nat.reduceMod, ak20, ak21, ak22, ak23, ak24, ak25, ak26, ak27, ak28, ak29, ak30, ak31, ak32, ak33, ak34, ak35, ak36, an20, an21, an22, an23, an24, an25, an26, an27, an28, an29, an30, an31, an32, an33, an34, an35, an36, an37, an38, ↓reduceIte, bk_int, bk_void, bk_long, bkN_int, bkN_void, bkN_long, Nat.reduceAdd, Nat.reduceMul, Nat.reduceSub, Nat.reduceLT, Nat.reduceLeDiff, if_true, if_false, not_true_eq_false, not_false_eq_true, Bool.true_eq_false, Bool.false_eq_true, b2_eq0, Nat.add_zero, Nat.zero_add, Nat.not_lt_zero, Nat.zero_le, ite_true, ite_false, decide_true, decide_false, lit_ii, of_ii, le_T, le_F, lt_T, lt_F, eq_T, eq_F, ii_add, ii_mul, ii_nat, ii_le, ii_lt, ii_eq, inR_ii, ii_add0]
    have b2' : gR σ5 2502 2 = some 2662 := h2
    have c0 : gR σ4 2502 0 = some 2597 := A4.1
    have c1 : gR σ4 (3 + 64 * n) 1 = some (37 + 64 * (n + 6)) := (F4.R _ _).trans i1
    have v2 := A.2.1
    have v3 := A.2.2.2.1
    have st : stOK 2662 (some (3 + 64 * n)) := Or.inr ⟨rfl, by omega⟩
    have o0 := hN0
    simp (disch := first | omega | exact b2_01 _ | exact ii0_01 | exact ii1_01 | (simp (disch := omega) only [v2, ak38, not_false_eq_true, Nat.reduceEqDiff, c0, c1, i0, dr_some, Option.isSome_some, gR_wI, Nat.add_mul_mod_self_left, Nat.reduceMod, ak20, ak21, ak22, ak23, ak24, ak25, ak26, ak27, ak28, ak29, ak30, ak31, ak32, ak33, ak34, ak35, ak36, an20, an21, an22, an23, an24, an25, an26, an27, an28, an29, an30, an31, an32, an33, an34, an35, an36, an37, an38, ne_eq, inR_ii, decide_eq_true_eq, lit_ii, of_ii, ii_eq, ii_lt, ii_le]; first | done | omega)) only [v2, ak38, not_false_eq_true, Nat.reduceEqDiff, c0, c1, i0, e_Past_keepImage, b_Past_keepImage_0, b_Past_keepImage_7, b_Past_keepImage_21, b_Past_keepImage_32, b_Past_keepImage_41, v3, o0, w1, e6, e4, e5, dr_some, Option.isSome_some, gR_wI, Nat.add_mul_mod_self_left, Nat.reduceMod, ak20, ak21, ak22, ak23, ak24, ak25, ak26, ak27, ak28, ak29, ak30, ak31, ak32, ak33, ak34, ak35, ak36, an20, an21, an22, an23, an24, an25, an26, an27, an28, an29, an30, an31, an32, an33, an34, an35, an36, an37, an38, ↓reduceIte, bk_int, bk_void, bk_long, bkN_int, bkN_void, bkN_long, Nat.reduceAdd, Nat.reduceMul, Nat.reduceSub, Nat.reduceLT, Nat.reduceLeDiff, if_true, if_false, not_true_eq_false, not_false_eq_true, Bool.true_eq_false, Bool.false_eq_true, b2_eq0, Nat.add_zero, Nat.zero_add, Nat.not_lt_zero, Nat.zero_le, ite_true, ite_false, decide_true, decide_false, lit_ii, of_ii, le_T, le_F, lt_T, lt_F, eq_T, eq_F, ii_add, ii_mul, ii_nat, ii_le, ii_lt, ii_eq, inR_ii, ii_add0]
    rw [b_Past_keepImage_52 (by decide) (by rw [h2]; rfl) (by rw [h2]; exact st) (by rw [h2, h4, inR_ii (by omega)]; exact decide_eq_true hw)]
    rw [h2, h4, gI_wR, h4, dr_some, ii_nat (by omega), lit_ii, ii_add, gI_at]
  · rw [gR_wI, gR_ne (by decide), h1]
  · rw [gR_wI, gR_ne (by decide), h2]
  · rw [gI_nj (by decide), gI_wR, h3']
  · have hi' : i < im.1 + 1 := hi
    by_cases q : i = im.1
    · refine ⟨n, by rw [gR_wI, q, gR_at], ?_⟩
      simp only [q, if_true]
      have : IMA σ5 n (D, pw.1, pw.2) := ⟨j0, j1, j2, by omega, by omega, D5, K5⟩
      exact this.fx F6 (fun a x => by omega)
    · obtain ⟨g, g1, g2⟩ := h8 i (by omega)
      refine ⟨g, by rw [gR_wI, gR_nj q, g1], ?_⟩
      simp only [q, if_false]
      exact g2.fx F6 (fun a x => by omega)
theorem s_restore0 {d a : Nat} {pw : PW} {im : IMS} {σ : HP} (A : PaA σ pw im) (h3 : im.1 = 0) : callF (d + 1) m_Past_restoreImage [.ref 2502, .ref a] σ = some (.inl (some (.int (-ii 1))), σ) := by
  obtain ⟨v0, v2, v1, v3, -⟩ := A
  rw [h3] at v3
  simp (disch := first | omega | exact b2_01 _ | exact ii0_01 | exact ii1_01 | (simp (disch := omega) only [v2, dr_some, Option.isSome_some, gR_wI, Nat.add_mul_mod_self_left, Nat.reduceMod, ak20, ak21, ak22, ak23, ak24, ak25, ak26, ak27, ak28, ak29, ak30, ak31, ak32, ak33, ak34, ak35, ak36, an20, an21, an22, an23, an24, an25, an26, an27, an28, an29, an30, an31, an32, an33, an34, an35, an36, an37, an38, ne_eq, inR_ii, decide_eq_true_eq, lit_ii, of_ii, ii_eq, ii_lt, ii_le]; first | done | omega)) only [v2, e_Past_restoreImage, b_Past_restoreImage_0, b_Past_restoreImage_19, v3, dr_some, Option.isSome_some, gR_wI, Nat.add_mul_mod_self_left, Nat.reduceMod, ak20, ak21, ak22, ak23, ak24, ak25, ak26, ak27, ak28, ak29, ak30, ak31, ak32, ak33, ak34, ak35, ak36, an20, an21, an22, an23, an24, an25, an26, an27, an28, an29, an30, an31, an32, an33, an34, an35, an36, an37, an38, ↓reduceIte, bk_int, bk_void, bk_long, bkN_int, bkN_void, bkN_long, Nat.reduceAdd, Nat.reduceMul, Nat.reduceSub, Nat.reduceLT, Nat.reduceLeDiff, if_true, if_false, not_true_eq_false, not_false_eq_true, Bool.true_eq_false, Bool.false_eq_true, b2_eq0, Nat.add_zero, Nat.zero_add, Nat.not_lt_zero, Nat.zero_le, ite_true, ite_false, decide_true, decide_false, lit_ii, of_ii, le_T, le_F, lt_T, lt_F, eq_T, eq_F, ii_add, ii_mul, ii_nat, ii_le, ii_lt, ii_eq, inR_ii, ii_add0]
theorem s_restoreImage {d : Nat} {pw : PW} {im : IMS} {σ : HP} (A : PaA σ pw im) (R : DR σ 14) (h0 : 0 < im.1) (hn : 88 ≤ hN σ) (hI : (im.2 (im.1 - 1)).2.1 ≤ 16) : ∃ σ', callF (d + 3) m_Past_restoreImage [.ref 2502, .ref 897] σ = some (.inl (some (.int (ii (im.1 - 1)))), σ') ∧ PaA σ' ((im.2 (im.1 - 1)).2.1, (im.2 (im.1 - 1)).2.2) (im.1 - 1, im.2) ∧ DA σ' 14 (im.2 (im.1 - 1)).1 ∧ Fx (fun a => a = 2502 ∨ a = 2597 ∨ (14 ≤ a / 64 ∧ a / 64 ≤ 18)) σ σ' ∧ hN σ' = hN σ ∧ hS σ' = hS σ := by
  have hi3 := A.2.2.2.2.2.1
  obtain ⟨g, g1, G⟩ := A.2.2.2.2.2.2.2 (im.1 - 1) (by omega)
  have F1 : Fx (fun a => a = 2502 ∨ a = 2597 ∨ (14 ≤ a / 64 ∧ a / 64 ≤ 18)) σ (wI σ 2502 3 (ii (im.1 - 1))) := Fx.wi Fx.rf (Or.inl rfl)
  have G1 := G.fx F1 (fun a x => by omega)
  have R1 : DR (wI σ 2502 3 (ii (im.1 - 1))) 14 := R
  obtain ⟨σ2, e2, d2, F2⟩ := s_takeFrom (d := d) (s := 14) G1.2.2.2.2.2.1 R1 (by have := G.2.2.2.1; omega)
  have F2' : Fx (fun a => a = 2502 ∨ a = 2597 ∨ (14 ≤ a / 64 ∧ a / 64 ≤ 18)) σ σ2 := F1.tr (F2.mono (fun a z => Or.inr (Or.inr z))).x
  have G2 := G.fx F2' (fun a x => by omega)
  have gb := G.2.2.2.1
  obtain ⟨σ3, e3, F3, v3⟩ := s_copyKept (d := d + 1) (a := 37 + 64 * (g + 6)) (b := 2597) (by omega) (by decide) (by omega) G2.2.2.2.2.2.2.2
  have F3' : Fx (fun a => a = 2502 ∨ a = 2597 ∨ (14 ≤ a / 64 ∧ a / 64 ≤ 18)) σ σ3 := F2'.tr (F3.x.mono (fun a z => Or.inr (Or.inl z)))
  have G3 := G.fx F3' (fun a x => by omega)
  have K3 : KA σ3 2597 (im.2 (im.1 - 1)).2.1 (im.2 (im.1 - 1)).2.2 := G2.2.2.2.2.2.2.cp hI F3 (by omega) (by omega) v3
  have F4 : Fx (fun a => a = 2502) σ3 (wI σ3 2502 1 (ii (im.2 (im.1 - 1)).2.1)) := Fx.wi Fx.rf rfl
  have n3 : hN σ3 = hN σ := F3.N.trans (F2.N.trans rfl)
  obtain ⟨h1, h2, h3, h4, h5, h6, h7, h8⟩ := A
  have w3 : gI σ3 2502 3 = ii (im.1 - 1) := by rw [F3.I, F2.I (by omega), gI_at]
  have r0 : gR σ3 2502 0 = some 2597 := (F3.2.2.2 _ _ (by decide)).trans ((F2.R _ _).trans h1)
  have r2 : gR σ3 2502 2 = some 2662 := (F3.2.2.2 _ _ (by decide)).trans ((F2.R _ _).trans h2)
  refine ⟨wI σ3 2502 1 (ii (im.2 (im.1 - 1)).2.1), ?_, ⟨r0, r2, gI_at, ?_, hI, by show im.1 - 1 ≤ 3; omega, K3.fx F4 (by omega) (by decide) (fun a x => by omega), fun i hi => ?_⟩, ?_, F3'.tr (F4.mono (fun a z => Or.inl z)), n3, F3.Z.trans (F2.Z.trans rfl)⟩
  · have a1 : gI σ3 (3 + 64 * g) 2 = ii (im.2 (im.1 - 1)).2.1 := G3.2.2.1
    have a2 : gR σ (3 + 64 * g) 0 = some (1 + 64 * (g + 1)) := G.1
    have a3 : gR σ2 (3 + 64 * g) 1 = some (37 + 64 * (g + 6)) := G2.2.1
    have f2 : gR σ2 2502 0 = some 2597 := (F2.R _ _).trans h1
    simp (disch := first | omega | exact b2_01 _ | exact ii0_01 | exact ii1_01 | (simp (disch := omega) only [h2, ak38, h4, ii_sub, gI_at, true_or, or_true, Nat.reduceEqDiff, or_false, eq_self, not_false_eq_true, a2, a3, f2, r0, gI_nj, w3, dr_some, Option.isSome_some, gR_wI, Nat.add_mul_mod_self_left, Nat.reduceMod, ak20, ak21, ak22, ak23, ak24, ak25, ak26, ak27, ak28, ak29, ak30, ak31, ak32, ak33, ak34, ak35, ak36, an20, an21, an22, an23, an24, an25, an26, an27, an28, an29, an30, an31, an32, an33, an34, an35, an36, an37, an38, ne_eq, inR_ii, decide_eq_true_eq, lit_ii, of_ii, ii_eq, ii_lt, ii_le]; first | done | omega)) only [h2, ak38, h4, ii_sub, gI_at, true_or, or_true, Nat.reduceEqDiff, or_false, eq_self, not_false_eq_true, a2, a3, f2, r0, gI_nj, w3, e_Past_restoreImage, b_Past_restoreImage_0, b_Past_restoreImage_7, b_Past_restoreImage_21, b_Past_restoreImage_45, b_Past_restoreImage_53, b_Past_restoreImage_64, b_Past_restoreImage_72, g1, rv_some, reduceCtorEq, e2, e3, a1, dr_some, Option.isSome_some, gR_wI, Nat.add_mul_mod_self_left, Nat.reduceMod, ak20, ak21, ak22, ak23, ak24, ak25, ak26, ak27, ak28, ak29, ak30, ak31, ak32, ak33, ak34, ak35, ak36, an20, an21, an22, an23, an24, an25, an26, an27, an28, an29, an30, an31, an32, an33, an34, an35, an36, an37, an38, ↓reduceIte, bk_int, bk_void, bk_long, bkN_int, bkN_void, bkN_long, Nat.reduceAdd, Nat.reduceMul, Nat.reduceSub, Nat.reduceLT, Nat.reduceLeDiff, if_true, if_false, not_true_eq_false, not_false_eq_true, Bool.true_eq_false, Bool.false_eq_true, b2_eq0, Nat.add_zero, Nat.zero_add, Nat.not_lt_zero, Nat.zero_le, ite_true, ite_false, decide_true, decide_false, lit_ii, of_ii, le_T, le_F, lt_T, lt_F, eq_T, eq_F, ii_add, ii_mul, ii_nat, ii_le, ii_lt, ii_eq, inR_ii, ii_add0]
  · rw [gI_nj (by decide), w3]
  · have hi' : i < im.1 - 1 := hi
    obtain ⟨g', q1, q2⟩ := h8 i (by omega)
    exact ⟨g', (F3'.R (by omega) (by omega)).trans q1, (q2.fx F3' (fun a x => by omega)).fx F4 (fun a x => by omega)⟩
  · exact (d2.fr F3 (by decide)).fx F4 (by omega) (fun a x y => by omega)
