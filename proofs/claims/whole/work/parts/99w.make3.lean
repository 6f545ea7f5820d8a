/-! what the reference's constructor makes -/
theorem mstg {s s' : HP} {N kind n k r : Nat} (h : hN s = N) (h63 : 63 ≤ N) (hr : r = kind + 64 * N) (hk : kind < 64) (e : s' = wR (hA s kind n) 3980 k (some r)) : hN s' = N + 1 ∧ hS s' = hS s + n ∧ (∀ j, gR s' 3980 j = if j = k then some r else gR s 3980 j) ∧ (∀ j, gI s' r j = ii 0) ∧ (∀ j, gI s' 3980 j = gI s 3980 j) ∧ Fx (fun a => a = 3980) s s' := by
  subst e
  refine ⟨by rw [hN_wR, hN_hA, h], by rw [hS_wR, hS_hA], fun j => ?_, fun j => ?_, fun j => ?_, Fx.wr (Fx.ha Fx.rf) rfl⟩
  · rw [gR_wR, gR_hAn (by rw [h]; omega)]
    simp only [true_and]
  · rw [gI_wR]
    exact gI_hAz (by rw [h]; exact hr)
  · rw [gI_wR]
    exact gI_hAn (by rw [h]; omega)
theorem H0_w : wH H0 := ⟨⟨by decide, by decide, by decide, by decide, by decide⟩, fun m hm => absurd hm (Nat.not_lt_zero _), fun m hm => absurd hm (Nat.not_lt_zero _)⟩
theorem D0_w : wD H0 (fun _ => 0) := ⟨fun m hm => ⟨by show 0 < 6; omega, by show 0 ≤ 1; omega, fun _ => rfl, by show 0 ≤ 900; omega⟩, fun j hj => by show 0 ≤ 9; omega, by show 0 < 6; omega⟩
theorem begN_0 : begN H0 = fun _ => 0 := by
  funext i
  unfold begN begD
  by_cases z : i < 7
  · rw [if_pos z]
    exact if_neg (show ¬ i < hm H0 from Nat.not_lt_zero i)
  · rw [if_neg z]
theorem P0_w {P : Nat → DN} {I : Nat → IM} : wP H0 (0, P) (0, I) := ⟨fun i hi => absurd hi (Nat.not_lt_zero _), fun i hi => absurd hi (Nat.not_lt_zero _)⟩
theorem s_moInit {d : Nat} {σ : HP} (h : hN σ = 62) (P : Nat → DN) (I : Nat → IM) : ∃ σ', callF (d + 4) m_Mo_init [.ref 3980] (hA σ 12 51) = some (.inl none, σ') ∧ MW σ' H0 usL (fun _ => 0) (0, fun _ => 0) (-ii 1, 0, 0, 0) (0, fun _ => none) (0, P) (0, I) ∧ hN σ' = 87 ∧ hS σ' ≤ hS σ + 20000 ∧ Fx (fun _ => False) σ σ' := by
  obtain ⟨s0, h0⟩ : ∃ s0, s0 = hA σ 12 51 := ⟨_, rfl⟩
  have n0 : hN s0 = 63 := by rw [h0, hN_hA, h]
  have z0 : hS s0 = hS σ + 51 := by rw [h0, hS_hA]
  have y0 : ∀ j, gI s0 3980 j = ii 0 := fun j => by rw [h0]; exact gI_hAz (by rw [h])
  obtain ⟨s1, h1⟩ : ∃ s1, s1 = wR (hA s0 20 2) 3980 1 (some 4052) := ⟨_, rfl⟩
  obtain ⟨n1, z1, p1, w1, v1, F1⟩ := mstg (s := s0) (N := 63) n0 (by omega) (by omega) (by omega) h1
  obtain ⟨sx, hx⟩ : ∃ sx, sx = wI s1 3980 8 (-1) := ⟨_, rfl⟩
  have nx : hN sx = 64 := by rw [hx]; exact n1
  have zx : hS sx = hS s1 := by rw [hx]; rfl
  have px : ∀ j, gR sx 3980 j = gR s1 3980 j := fun j => by rw [hx]; rfl
  have vx : ∀ j, gI sx 3980 j = if j = 8 then -ii 1 else gI s1 3980 j := fun j => by rw [hx, gI_wI]; simp only [true_and]; rfl
  have Fx0 : Fx (fun a => a = 3980) s1 sx := by rw [hx]; exact Fx.wi Fx.rf rfl
  obtain ⟨s2, h2⟩ : ∃ s2, s2 = wR (hA sx 30 600) 3980 9 (some 4126) := ⟨_, rfl⟩
  obtain ⟨n2, z2, p2, w2, v2, F2⟩ := mstg (s := sx) (N := 64) nx (by omega) (by omega) (by omega) h2
  obtain ⟨s3, h3⟩ : ∃ s3, s3 = wR (hA s2 25 21) 3980 10 (some 4185) := ⟨_, rfl⟩
  obtain ⟨n3, z3, p3, w3, v3, F3⟩ := mstg (s := s2) (N := 65) n2 (by omega) (by omega) (by omega) h3
  obtain ⟨s4, h4⟩ : ∃ s4, s4 = wR (hA s3 24 16) 3980 11 (some 4248) := ⟨_, rfl⟩
  obtain ⟨n4, z4, p4, w4, v4, F4⟩ := mstg (s := s3) (N := 66) n3 (by omega) (by omega) (by omega) h4
  obtain ⟨s5, h5⟩ : ∃ s5, s5 = wR (hA s4 25 21) 3980 12 (some 4313) := ⟨_, rfl⟩
  obtain ⟨n5, z5, p5, w5, v5, F5⟩ := mstg (s := s4) (N := 67) n4 (by omega) (by omega) (by omega) h5
  obtain ⟨s6, h6⟩ : ∃ s6, s6 = wR (hA s5 24 16) 3980 13 (some 4376) := ⟨_, rfl⟩
  obtain ⟨n6, z6, p6, w6, v6, F6⟩ := mstg (s := s5) (N := 68) n5 (by omega) (by omega) (by omega) h6
  obtain ⟨s7, h7⟩ : ∃ s7, s7 = wR (hA s6 29 150) 3980 22 (some 4445) := ⟨_, rfl⟩
  obtain ⟨n7, z7, p7, w7, v7, F7⟩ := mstg (s := s6) (N := 69) n6 (by omega) (by omega) (by omega) h7
  obtain ⟨s8, h8⟩ : ∃ s8, s8 = wR (hA s7 29 150) 3980 23 (some 4509) := ⟨_, rfl⟩
  obtain ⟨n8, z8, p8, w8, v8, F8⟩ := mstg (s := s7) (N := 70) n7 (by omega) (by omega) (by omega) h8
  obtain ⟨s9, h9⟩ : ∃ s9, s9 = wR (hA s8 29 150) 3980 24 (some 4573) := ⟨_, rfl⟩
  obtain ⟨n9, z9, p9, w9, v9, F9⟩ := mstg (s := s8) (N := 71) n8 (by omega) (by omega) (by omega) h9
  obtain ⟨s10, h10⟩ : ∃ s10, s10 = wR (hA s9 29 150) 3980 25 (some 4637) := ⟨_, rfl⟩
  obtain ⟨n10, z10, p10, w10, v10, F10⟩ := mstg (s := s9) (N := 72) n9 (by omega) (by omega) (by omega) h10
  obtain ⟨s11, h11⟩ : ∃ s11, s11 = wR (hA s10 29 150) 3980 26 (some 4701) := ⟨_, rfl⟩
  obtain ⟨n11, z11, p11, w11, v11, F11⟩ := mstg (s := s10) (N := 73) n10 (by omega) (by omega) (by omega) h11
  obtain ⟨s12, h12⟩ : ∃ s12, s12 = wR (hA s11 23 9) 3980 29 (some 4759) := ⟨_, rfl⟩
  obtain ⟨n12, z12, p12, w12, v12, F12⟩ := mstg (s := s11) (N := 74) n11 (by omega) (by omega) (by omega) h12
  obtain ⟨s13, h13⟩ : ∃ s13, s13 = wR (hA s12 29 150) 3980 30 (some 4829) := ⟨_, rfl⟩
  obtain ⟨n13, z13, p13, w13, v13, F13⟩ := mstg (s := s12) (N := 75) n12 (by omega) (by omega) (by omega) h13
  obtain ⟨s14, h14⟩ : ∃ s14, s14 = wR (hA s13 29 150) 3980 31 (some 4893) := ⟨_, rfl⟩
  obtain ⟨n14, z14, p14, w14, v14, F14⟩ := mstg (s := s13) (N := 76) n13 (by omega) (by omega) (by omega) h14
  obtain ⟨s15, h15⟩ : ∃ s15, s15 = wR (hA s14 27 87) 3980 38 (some 4955) := ⟨_, rfl⟩
  obtain ⟨n15, z15, p15, w15, v15, F15⟩ := mstg (s := s14) (N := 77) n14 (by omega) (by omega) (by omega) h15
  obtain ⟨s16, h16⟩ : ∃ s16, s16 = wR (hA s15 27 87) 3980 39 (some 5019) := ⟨_, rfl⟩
  obtain ⟨n16, z16, p16, w16, v16, F16⟩ := mstg (s := s15) (N := 78) n15 (by omega) (by omega) (by omega) h16
  obtain ⟨s17, h17⟩ : ∃ s17, s17 = wR (hA s16 32 1392) 3980 40 (some 5088) := ⟨_, rfl⟩
  obtain ⟨n17, z17, p17, w17, v17, F17⟩ := mstg (s := s16) (N := 79) n16 (by omega) (by omega) (by omega) h17
  obtain ⟨s18, h18⟩ : ∃ s18, s18 = wR (hA s17 21 7) 3980 41 (some 5141) := ⟨_, rfl⟩
  obtain ⟨n18, z18, p18, w18, v18, F18⟩ := mstg (s := s17) (N := 80) n17 (by omega) (by omega) (by omega) h18
  obtain ⟨s19, h19⟩ : ∃ s19, s19 = wR (hA s18 21 7) 3980 42 (some 5205) := ⟨_, rfl⟩
  obtain ⟨n19, z19, p19, w19, v19, F19⟩ := mstg (s := s18) (N := 81) n18 (by omega) (by omega) (by omega) h19
  obtain ⟨s20, h20⟩ : ∃ s20, s20 = wR (hA s19 22 8) 3980 44 (some 5270) := ⟨_, rfl⟩
  obtain ⟨n20, z20, p20, w20, v20, F20⟩ := mstg (s := s19) (N := 82) n19 (by omega) (by omega) (by omega) h20
  obtain ⟨s21, h21⟩ : ∃ s21, s21 = wR (hA s20 28 128) 3980 45 (some 5340) := ⟨_, rfl⟩
  obtain ⟨n21, z21, p21, w21, v21, F21⟩ := mstg (s := s20) (N := 83) n20 (by omega) (by omega) (by omega) h21
  obtain ⟨s22, h22⟩ : ∃ s22, s22 = wR (hA s21 31 1000) 3980 46 (some 5407) := ⟨_, rfl⟩
  obtain ⟨n22, z22, p22, w22, v22, F22⟩ := mstg (s := s21) (N := 84) n21 (by omega) (by omega) (by omega) h22
  obtain ⟨s23, h23⟩ : ∃ s23, s23 = wR (hA s22 35 13) 3980 47 (some 5475) := ⟨_, rfl⟩
  obtain ⟨n23, z23, p23, w23, v23, F23⟩ := mstg (s := s22) (N := 85) n22 (by omega) (by omega) (by omega) h23
  obtain ⟨s24, h24⟩ : ∃ s24, s24 = wR (hA s23 33 4440) 3980 49 (some 5537) := ⟨_, rfl⟩
  obtain ⟨n24, z24, p24, w24, v24, F24⟩ := mstg (s := s23) (N := 86) n23 (by omega) (by omega) (by omega) h24
  have E24 : Fx (fun a => a = 3980) s24 s24 := Fx.rf
  have E23 := F24.tr E24
  have E22 := F23.tr E23
  have E21 := F22.tr E22
  have E20 := F21.tr E21
  have E19 := F20.tr E20
  have E18 := F19.tr E19
  have E17 := F18.tr E18
  have E16 := F17.tr E17
  have E15 := F16.tr E16
  have E14 := F15.tr E15
  have E13 := F14.tr E14
  have E12 := F13.tr E13
  have E11 := F12.tr E12
  have E10 := F11.tr E11
  have E9 := F10.tr E10
  have E8 := F9.tr E9
  have E7 := F8.tr E8
  have E6 := F7.tr E7
  have E5 := F6.tr E6
  have E4 := F5.tr E5
  have E3 := F4.tr E4
  have E2 := F3.tr E3
  have E1 := Fx0.tr (F2.tr E2)
  have E0 := F1.tr E1
  have f1 : gR s24 3980 1 = some 4052 := by rw [p24 1, if_neg (by decide), p23 1, if_neg (by decide), p22 1, if_neg (by decide), p21 1, if_neg (by decide), p20 1, if_neg (by decide), p19 1, if_neg (by decide), p18 1, if_neg (by decide), p17 1, if_neg (by decide), p16 1, if_neg (by decide), p15 1, if_neg (by decide), p14 1, if_neg (by decide), p13 1, if_neg (by decide), p12 1, if_neg (by decide), p11 1, if_neg (by decide), p10 1, if_neg (by decide), p9 1, if_neg (by decide), p8 1, if_neg (by decide), p7 1, if_neg (by decide), p6 1, if_neg (by decide), p5 1, if_neg (by decide), p4 1, if_neg (by decide), p3 1, if_neg (by decide), p2 1, if_neg (by decide), px 1, p1 1, if_pos rfl]
  have f9 : gR s24 3980 9 = some 4126 := by rw [p24 9, if_neg (by decide), p23 9, if_neg (by decide), p22 9, if_neg (by decide), p21 9, if_neg (by decide), p20 9, if_neg (by decide), p19 9, if_neg (by decide), p18 9, if_neg (by decide), p17 9, if_neg (by decide), p16 9, if_neg (by decide), p15 9, if_neg (by decide), p14 9, if_neg (by decide), p13 9, if_neg (by decide), p12 9, if_neg (by decide), p11 9, if_neg (by decide), p10 9, if_neg (by decide), p9 9, if_neg (by decide), p8 9, if_neg (by decide), p7 9, if_neg (by decide), p6 9, if_neg (by decide), p5 9, if_neg (by decide), p4 9, if_neg (by decide), p3 9, if_neg (by decide), p2 9, if_pos rfl]
  have f10 : gR s24 3980 10 = some 4185 := by rw [p24 10, if_neg (by decide), p23 10, if_neg (by decide), p22 10, if_neg (by decide), p21 10, if_neg (by decide), p20 10, if_neg (by decide), p19 10, if_neg (by decide), p18 10, if_neg (by decide), p17 10, if_neg (by decide), p16 10, if_neg (by decide), p15 10, if_neg (by decide), p14 10, if_neg (by decide), p13 10, if_neg (by decide), p12 10, if_neg (by decide), p11 10, if_neg (by decide), p10 10, if_neg (by decide), p9 10, if_neg (by decide), p8 10, if_neg (by decide), p7 10, if_neg (by decide), p6 10, if_neg (by decide), p5 10, if_neg (by decide), p4 10, if_neg (by decide), p3 10, if_pos rfl]
  have f11 : gR s24 3980 11 = some 4248 := by rw [p24 11, if_neg (by decide), p23 11, if_neg (by decide), p22 11, if_neg (by decide), p21 11, if_neg (by decide), p20 11, if_neg (by decide), p19 11, if_neg (by decide), p18 11, if_neg (by decide), p17 11, if_neg (by decide), p16 11, if_neg (by decide), p15 11, if_neg (by decide), p14 11, if_neg (by decide), p13 11, if_neg (by decide), p12 11, if_neg (by decide), p11 11, if_neg (by decide), p10 11, if_neg (by decide), p9 11, if_neg (by decide), p8 11, if_neg (by decide), p7 11, if_neg (by decide), p6 11, if_neg (by decide), p5 11, if_neg (by decide), p4 11, if_pos rfl]
  have f12 : gR s24 3980 12 = some 4313 := by rw [p24 12, if_neg (by decide), p23 12, if_neg (by decide), p22 12, if_neg (by decide), p21 12, if_neg (by decide), p20 12, if_neg (by decide), p19 12, if_neg (by decide), p18 12, if_neg (by decide), p17 12, if_neg (by decide), p16 12, if_neg (by decide), p15 12, if_neg (by decide), p14 12, if_neg (by decide), p13 12, if_neg (by decide), p12 12, if_neg (by decide), p11 12, if_neg (by decide), p10 12, if_neg (by decide), p9 12, if_neg (by decide), p8 12, if_neg (by decide), p7 12, if_neg (by decide), p6 12, if_neg (by decide), p5 12, if_pos rfl]
  have f13 : gR s24 3980 13 = some 4376 := by rw [p24 13, if_neg (by decide), p23 13, if_neg (by decide), p22 13, if_neg (by decide), p21 13, if_neg (by decide), p20 13, if_neg (by decide), p19 13, if_neg (by decide), p18 13, if_neg (by decide), p17 13, if_neg (by decide), p16 13, if_neg (by decide), p15 13, if_neg (by decide), p14 13, if_neg (by decide), p13 13, if_neg (by decide), p12 13, if_neg (by decide), p11 13, if_neg (by decide), p10 13, if_neg (by decide), p9 13, if_neg (by decide), p8 13, if_neg (by decide), p7 13, if_neg (by decide), p6 13, if_pos rfl]
  have f22 : gR s24 3980 22 = some 4445 := by rw [p24 22, if_neg (by decide), p23 22, if_neg (by decide), p22 22, if_neg (by decide), p21 22, if_neg (by decide), p20 22, if_neg (by decide), p19 22, if_neg (by decide), p18 22, if_neg (by decide), p17 22, if_neg (by decide), p16 22, if_neg (by decide), p15 22, if_neg (by decide), p14 22, if_neg (by decide), p13 22, if_neg (by decide), p12 22, if_neg (by decide), p11 22, if_neg (by decide), p10 22, if_neg (by decide), p9 22, if_neg (by decide), p8 22, if_neg (by decide), p7 22, if_pos rfl]
  have f23 : gR s24 3980 23 = some 4509 := by rw [p24 23, if_neg (by decide), p23 23, if_neg (by decide), p22 23, if_neg (by decide), p21 23, if_neg (by decide), p20 23, if_neg (by decide), p19 23, if_neg (by decide), p18 23, if_neg (by decide), p17 23, if_neg (by decide), p16 23, if_neg (by decide), p15 23, if_neg (by decide), p14 23, if_neg (by decide), p13 23, if_neg (by decide), p12 23, if_neg (by decide), p11 23, if_neg (by decide), p10 23, if_neg (by decide), p9 23, if_neg (by decide), p8 23, if_pos rfl]
  have f24 : gR s24 3980 24 = some 4573 := by rw [p24 24, if_neg (by decide), p23 24, if_neg (by decide), p22 24, if_neg (by decide), p21 24, if_neg (by decide), p20 24, if_neg (by decide), p19 24, if_neg (by decide), p18 24, if_neg (by decide), p17 24, if_neg (by decide), p16 24, if_neg (by decide), p15 24, if_neg (by decide), p14 24, if_neg (by decide), p13 24, if_neg (by decide), p12 24, if_neg (by decide), p11 24, if_neg (by decide), p10 24, if_neg (by decide), p9 24, if_pos rfl]
  have f25 : gR s24 3980 25 = some 4637 := by rw [p24 25, if_neg (by decide), p23 25, if_neg (by decide), p22 25, if_neg (by decide), p21 25, if_neg (by decide), p20 25, if_neg (by decide), p19 25, if_neg (by decide), p18 25, if_neg (by decide), p17 25, if_neg (by decide), p16 25, if_neg (by decide), p15 25, if_neg (by decide), p14 25, if_neg (by decide), p13 25, if_neg (by decide), p12 25, if_neg (by decide), p11 25, if_neg (by decide), p10 25, if_pos rfl]
  have f26 : gR s24 3980 26 = some 4701 := by rw [p24 26, if_neg (by decide), p23 26, if_neg (by decide), p22 26, if_neg (by decide), p21 26, if_neg (by decide), p20 26, if_neg (by decide), p19 26, if_neg (by decide), p18 26, if_neg (by decide), p17 26, if_neg (by decide), p16 26, if_neg (by decide), p15 26, if_neg (by decide), p14 26, if_neg (by decide), p13 26, if_neg (by decide), p12 26, if_neg (by decide), p11 26, if_pos rfl]
  have f29 : gR s24 3980 29 = some 4759 := by rw [p24 29, if_neg (by decide), p23 29, if_neg (by decide), p22 29, if_neg (by decide), p21 29, if_neg (by decide), p20 29, if_neg (by decide), p19 29, if_neg (by decide), p18 29, if_neg (by decide), p17 29, if_neg (by decide), p16 29, if_neg (by decide), p15 29, if_neg (by decide), p14 29, if_neg (by decide), p13 29, if_neg (by decide), p12 29, if_pos rfl]
  have f30 : gR s24 3980 30 = some 4829 := by rw [p24 30, if_neg (by decide), p23 30, if_neg (by decide), p22 30, if_neg (by decide), p21 30, if_neg (by decide), p20 30, if_neg (by decide), p19 30, if_neg (by decide), p18 30, if_neg (by decide), p17 30, if_neg (by decide), p16 30, if_neg (by decide), p15 30, if_neg (by decide), p14 30, if_neg (by decide), p13 30, if_pos rfl]
  have f31 : gR s24 3980 31 = some 4893 := by rw [p24 31, if_neg (by decide), p23 31, if_neg (by decide), p22 31, if_neg (by decide), p21 31, if_neg (by decide), p20 31, if_neg (by decide), p19 31, if_neg (by decide), p18 31, if_neg (by decide), p17 31, if_neg (by decide), p16 31, if_neg (by decide), p15 31, if_neg (by decide), p14 31, if_pos rfl]
  have f38 : gR s24 3980 38 = some 4955 := by rw [p24 38, if_neg (by decide), p23 38, if_neg (by decide), p22 38, if_neg (by decide), p21 38, if_neg (by decide), p20 38, if_neg (by decide), p19 38, if_neg (by decide), p18 38, if_neg (by decide), p17 38, if_neg (by decide), p16 38, if_neg (by decide), p15 38, if_pos rfl]
  have f39 : gR s24 3980 39 = some 5019 := by rw [p24 39, if_neg (by decide), p23 39, if_neg (by decide), p22 39, if_neg (by decide), p21 39, if_neg (by decide), p20 39, if_neg (by decide), p19 39, if_neg (by decide), p18 39, if_neg (by decide), p17 39, if_neg (by decide), p16 39, if_pos rfl]
  have f40 : gR s24 3980 40 = some 5088 := by rw [p24 40, if_neg (by decide), p23 40, if_neg (by decide), p22 40, if_neg (by decide), p21 40, if_neg (by decide), p20 40, if_neg (by decide), p19 40, if_neg (by decide), p18 40, if_neg (by decide), p17 40, if_pos rfl]
  have f41 : gR s24 3980 41 = some 5141 := by rw [p24 41, if_neg (by decide), p23 41, if_neg (by decide), p22 41, if_neg (by decide), p21 41, if_neg (by decide), p20 41, if_neg (by decide), p19 41, if_neg (by decide), p18 41, if_pos rfl]
  have f42 : gR s24 3980 42 = some 5205 := by rw [p24 42, if_neg (by decide), p23 42, if_neg (by decide), p22 42, if_neg (by decide), p21 42, if_neg (by decide), p20 42, if_neg (by decide), p19 42, if_pos rfl]
  have f44 : gR s24 3980 44 = some 5270 := by rw [p24 44, if_neg (by decide), p23 44, if_neg (by decide), p22 44, if_neg (by decide), p21 44, if_neg (by decide), p20 44, if_pos rfl]
  have f45 : gR s24 3980 45 = some 5340 := by rw [p24 45, if_neg (by decide), p23 45, if_neg (by decide), p22 45, if_neg (by decide), p21 45, if_pos rfl]
  have f46 : gR s24 3980 46 = some 5407 := by rw [p24 46, if_neg (by decide), p23 46, if_neg (by decide), p22 46, if_pos rfl]
  have f47 : gR s24 3980 47 = some 5475 := by rw [p24 47, if_neg (by decide), p23 47, if_pos rfl]
  have f49 : gR s24 3980 49 = some 5537 := by rw [p24 49, if_pos rfl]
  have mr : MRf s24 := ⟨f1, f9, f10, f11, f12, f13, f22, f23, f24, f25, f26, f29, f30, f31, f38, f39, f40, f41, f42, f44, f45, f46, f47, f49⟩
  have g8 : gI s24 3980 8 = -ii 1 := by rw [v24, v23, v22, v21, v20, v19, v18, v17, v16, v15, v14, v13, v12, v11, v10, v9, v8, v7, v6, v5, v4, v3, v2, vx, if_pos rfl]
  have g2 : gI s24 3980 2 = ii 0 := by rw [v24, v23, v22, v21, v20, v19, v18, v17, v16, v15, v14, v13, v12, v11, v10, v9, v8, v7, v6, v5, v4, v3, v2, vx, if_neg (by decide), v1, y0]
  have mc : MRf (clH s24) := mr.fm clH_fm2
  obtain ⟨σ', e9, F9, y1, y28, y43, y33, y50, y34, yb, yd⟩ := r_sets (d := d + 1) mc (clH_nh (σ := s24)) (by decide) (by decide)
  have n9 : hN σ' = 87 := by show σ'.1.1 = 87; rw [F9.1]; exact n24
  have z9 : hS σ' = hS s24 := by show σ'.1.2.1 = _; rw [F9.1]; rfl
  have zz : hS s24 ≤ hS σ + 20000 := by omega
  have L9 : hL σ' = hL s24 := by show σ'.1.2.2.1 = _; rw [F9.1]; rfl
  refine ⟨σ', ?_, ⟨mc.fm F9, y1, Or.inl ⟨y28, rfl⟩, by rw [begN_0] at yd; exact yd, ⟨H0_w, usL_w, D0_w, Nat.zero_le _, P0_w⟩, ⟨(F9.I (by unfold MsF; omega)).trans ((clH_fm2.I (by omega)).trans g2), Nat.zero_le _, fun i hi => ⟨(F9.I (by unfold MsF; omega)).trans ((clH_fm2.I (by omega)).trans ((E2.I (by omega) (by omega)).trans (w2 i))), by show 0 < 256; omega⟩⟩, ⟨(F9.I (by unfold MsF; omega)).trans ((clH_fm2.I (by omega)).trans g8), y34, (F9.I (by unfold MsF; omega)).trans ((clH_fm2.I (by omega)).trans ((E1.I (by omega) (by omega)).trans (w1 0))), (F9.I (by unfold MsF; omega)).trans ((clH_fm2.I (by omega)).trans ((E1.I (by omega) (by omega)).trans (w1 1)))⟩, ⟨y43, fun m hm => (yb m hm), fun m v hv => (by cases hv)⟩, ⟨y33, Nat.zero_le _, fun i hi => absurd hi (Nat.not_lt_zero _)⟩, ⟨y50, Nat.zero_le _, fun i hi => absurd hi (Nat.not_lt_zero _)⟩⟩, n9, by omega, ?_⟩
  · rw [← h0, e_Mo_init, b_Mo_init_0 (by omega)]
    simp only [n0, Nat.reduceAdd, Nat.reduceMul]
    rw [← h1, ← hx, ← h2, ← h3, ← h4, ← h5, ← h6, ← h7, ← h8, ← h9, ← h10, ← h11, ← h12, ← h13, ← h14, ← h15, ← h16, ← h17, ← h18, ← h19, ← h20, ← h21, ← h22, ← h23, ← h24, r_clears, bk_void, b_Mo_init_216 (by omega), e9, bk_void, b_Mo_init_220]
  · have G : Fx (fun a => a = 3980) σ s24 := (by rw [h0]; exact Fx.ha Fx.rf : Fx (fun a => a = 3980) σ s0).tr E0
    refine ⟨L9.trans G.1, by omega, fun a x _ j => ?_⟩
    have na : a ≠ 3980 := by omega
    refine ⟨(F9.I (by unfold MsF; omega)).trans ((clH_fm2.I (by omega)).trans (G.I x na)), ?_, (F9.R _ _).trans ((clH_fm2.R _ _).trans (G.R x na))⟩
    have j9 : gJ σ' a j = gJ s24 a j := by
      unfold gJ
      rw [F9.2.1]
      rfl
    exact j9.trans (G.J x na)
