theorem PaA.f0 {S : Nat → Prop} {σ σ' : HP} {P : Nat → DN} {I : Nat → IM} (A : PaA σ (0, P) (0, I)) (F : Fx S σ σ') (hn : 42 ≤ hN σ) (q0 : ¬ S 2502) (q1 : ¬ S 2597) : PaA σ' (0, P) (0, I) := by
  obtain ⟨p0, p1, p2, p3, p4, p5, ⟨-, k2⟩, -⟩ := A
  refine ⟨(F.R (by omega) q0).trans p0, (F.R (by omega) q0).trans p1, (F.I (by omega) q0).trans p2, (F.I (by omega) q0).trans p3, p4, p5, ⟨fun i hi => absurd hi (Nat.not_lt_zero _), fun i hi => ?_⟩, fun i hi => absurd hi (Nat.not_lt_zero _)⟩
  rw [F.R (by omega) q1]
  exact k2 i hi
def CPn (σ : HP) (P : Nat → DN) (I : Nat → IM) : Prop := CFx σ ∧ (gR σ 11 7 = some 3076 ∧ gR σ 11 8 = some 3328 ∧ gR σ 11 9 = some 3648) ∧ (gI σ 11 10 = ii 0 ∧ gI σ 11 11 = -ii 1 ∧ gI σ 11 12 = ii 0 ∧ gI σ 11 13 = ii 0 ∧ gI σ 11 14 = ii 0) ∧ (gR σ 197 0 = some 258 ∧ gR σ 197 1 = some 644 ∧ gR σ 197 2 = some 897) ∧ HA σ 4 H0 ∧ DA σ 14 (fun _ => 0) ∧ LwA σ 10 usL ∧ BA σ 52 (0, fun _ => none) ∧ PaA σ (0, P) (0, I) ∧ (∀ i, gI σ 164 i = ii 0) ∧ gI σ 2844 0 = ii 0
theorem s_plInit {d : Nat} {σ : HP} (h : hN σ = 1) (P : Nat → DN) (I : Nat → IM) : ∃ σ', callF (d + 6) m_PL_init [.ref 11] σ = some (.inl none, σ') ∧ CPn σ' P I ∧ hN σ' = 62 ∧ hS σ' ≤ hS σ + 4000 ∧ Fx (fun a => a = 11) σ σ' := by
  obtain ⟨s1, h1⟩ : ∃ s1, s1 = wI (wI (wI (wI (wI (wR (hA (hA σ 7 6) 36 600) 71 0 (some 164)) 71 1 0) 71 2 0) 71 3 0) 71 4 (-1)) 71 5 0 := ⟨_, rfl⟩
  have F1 : Fx (fun a => a = 71) σ s1 := by
    rw [h1]
    exact Fx.wi (Fx.wi (Fx.wi (Fx.wi (Fx.wi (Fx.wr (Fx.ha (Fx.ha Fx.rf)) rfl) rfl) rfl) rfl) rfl) rfl
  have n1 : hN s1 = 3 := by rw [h1]; show hN σ + 1 + 1 = 3; omega
  have z1 : hS s1 = hS σ + 6 + 600 := by rw [h1]; rfl
  have G1 : Fx (fun a => a = 11) σ s1 := F1.nq (fun a x z => by omega)
  have q1 : gR s1 71 0 = some 164 := by rw [h1]; simp only [gR_wI]; exact gR_at
  have y1 : ∀ i, gI s1 164 i = ii 0 := fun i => by
    rw [h1, gI_ne (by decide), gI_ne (by decide), gI_ne (by decide), gI_ne (by decide), gI_ne (by decide), gI_wR]
    exact gI_hAz (by rw [hN_hA, h])
  obtain ⟨s2, e2, ⟨a0, a1, a2⟩, ha2, lr2, lw2, dr2, da2, n2, z2, F2⟩ := s_liftInit (d := d + 1) (N := 3) (σ := hA (wR s1 11 0 (some 71)) 5 3) (by rw [hN_hA, hN_wR, n1])
  have e2' : callF (d + 5) m_Lift_init [.ref 197] (hA (wR s1 11 0 (some 71)) 5 3) = some (.inl none, s2) := e2
  have n2' : hN s2 = 19 := n2
  obtain ⟨G2, p2⟩ := stg F2 (by rw [n1]) (by omega)
  obtain ⟨s3, e3, ⟨b0, b1, b2⟩, ha3, lr3, lw3, dr3, da3, n3, z3, F3⟩ := s_liftInit (d := d + 1) (N := 19) (σ := hA (wR s2 11 1 (some 197)) 5 3) (by rw [hN_hA, hN_wR, n2'])
  have e3' : callF (d + 5) m_Lift_init [.ref 1221] (hA (wR s2 11 1 (some 197)) 5 3) = some (.inl none, s3) := e3
  have n3' : hN s3 = 35 := n3
  obtain ⟨G3, p3⟩ := stg F3 (by rw [n2']) (by omega)
  obtain ⟨s4, e4, wk4, n4, z4, F4⟩ := s_workInit (d := d + 4) (σ := hA (wR s3 11 2 (some 1221)) 10 7) (by rw [hN_hA, hN_wR, n3'])
  obtain ⟨G4, p4⟩ := stg F4 (by rw [n3']) (by omega)
  obtain ⟨s5, e5, pa5, n5, z5, F5⟩ := s_pastInit (d := d + 4) (σ := hA (wR s4 11 3 (some 2250)) 6 4) (by rw [hN_hA, hN_wR, n4]) P I
  obtain ⟨G5, p5⟩ := stg F5 (by rw [n4]) (by omega)
  obtain ⟨s6, e6, sa6, m6, n6, z6, F6⟩ := s_scalesInit (d := d + 4) (σ := hA (wR s5 11 4 (some 2502)) 8 4) (by rw [hN_hA, hN_wR, n5])
  obtain ⟨G6, p6⟩ := stg F6 (by rw [n5]) (by omega)
  obtain ⟨s7, h7⟩ : ∃ s7, s7 = wI (hA (wR s6 11 5 (some 2696)) 9 1) 3017 0 0 := ⟨_, rfl⟩
  have F7 : Fx (fun a => a = 3017) (hA (wR s6 11 5 (some 2696)) 9 1) s7 := by
    rw [h7]
    exact Fx.wi Fx.rf rfl
  have n7 : hN s7 = 48 := by rw [h7]; show hN s6 + 1 = 48; omega
  have z7 : hS s7 = hS s6 + 1 := by rw [h7]; rfl
  obtain ⟨G7, p7⟩ := stg F7 (by rw [n6]) (by omega)
  obtain ⟨s8, e8, lr8, lw8, n8, z8, F8⟩ := s_lawInit (d := d + 2) (N := 48) (σ := hA (wR s7 11 6 (some 3017)) 4 4) (by rw [hN_hA, hN_wR, n7])
  have e8' : callF (d + 5) m_Law_init [.ref 3076] (hA (wR s7 11 6 (some 3017)) 4 4) = some (.inl none, s8) := e8
  have n8' : hN s8 = 52 := n8
  obtain ⟨G8, p8⟩ := stg F8 (by rw [n7]) (by omega)
  obtain ⟨s9, e9, br9, ba9, n9, z9, F9⟩ := s_bookInit (d := d + 4) (N := 52) (σ := hA (wR s8 11 7 (some 3076)) 0 7) (by rw [hN_hA, hN_wR, n8'])
  have e9' : callF (d + 5) m_Book_init [.ref 3328] (hA (wR s8 11 7 (some 3076)) 0 7) = some (.inl none, s9) := e9
  have n9' : hN s9 = 57 := n9
  obtain ⟨G9, p9⟩ := stg F9 (by rw [n8']) (by omega)
  obtain ⟨s10, e10, br10, ba10, n10, z10, F10⟩ := s_bookInit (d := d + 4) (N := 57) (σ := hA (wR s9 11 8 (some 3328)) 0 7) (by rw [hN_hA, hN_wR, n9'])
  have e10' : callF (d + 5) m_Book_init [.ref 3648] (hA (wR s9 11 8 (some 3328)) 0 7) = some (.inl none, s10) := e10
  have n10' : hN s10 = 62 := n10
  obtain ⟨G10, p10⟩ := stg F10 (by rw [n9']) (by omega)
  obtain ⟨s11, h11⟩ : ∃ s11, s11 = wI (wI (wI (wI (wI (wR s10 11 9 (some 3648)) 11 10 0) 11 11 (-1)) 11 12 0) 11 13 0) 11 14 0 := ⟨_, rfl⟩
  have E10 : Fx (fun a => a = 11) s10 s11 := by
    rw [h11]
    exact Fx.wi (Fx.wi (Fx.wi (Fx.wi (Fx.wi (Fx.wr Fx.rf rfl) rfl) rfl) rfl) rfl) rfl
  have n11 : hN s11 = 62 := by rw [h11]; exact n10'
  have z11 : hS s11 = hS s10 := by rw [h11]; rfl
  have p11 : ∀ j, gR s11 11 j = if j = 9 then some 3648 else gR s10 11 j := fun j => by
    rw [h11]
    show gR (wR s10 11 9 (some 3648)) 11 j = _
    rw [gR_wR]
    simp only [true_and]
  have E9 := G10.tr E10
  have E8 := G9.tr E9
  have E7 := G8.tr E8
  have E6 := G7.tr E7
  have E5 := G6.tr E6
  have E4 := G5.tr E5
  have E3 := G4.tr E4
  have E2 := G3.tr E3
  have E1 := G2.tr E2
  have hz4 : hS s4 = hS s3 + 7 + 450 := by rw [z4, hS_hA, hS_wR]
  have hz5 : hS s5 = hS s4 + 4 + 19 := by rw [z5, hS_hA, hS_wR]
  have hz6 : hS s6 = hS s5 + 4 + 277 := by rw [z6, hS_hA, hS_wR]
  have hz2 : hS s2 = hS s1 + 3 + 444 := by rw [z2, hS_hA, hS_wR]
  have hz3 : hS s3 = hS s2 + 3 + 444 := by rw [z3, hS_hA, hS_wR]
  have hz8 : hS s8 = hS s7 + 4 + 309 := by rw [z8, hS_hA, hS_wR]
  have hz9 : hS s9 = hS s8 + 7 + 175 := by rw [z9, hS_hA, hS_wR]
  have hz10 : hS s10 = hS s9 + 7 + 175 := by rw [z10, hS_hA, hS_wR]
  have f0 : gR s11 71 0 = some 164 := (E1.R (by omega) (by omega)).trans q1
  have f1 : gR s11 11 0 = some 71 := by rw [p11 0, if_neg (by decide), p10 0, if_neg (by decide), p9 0, if_neg (by decide), p8 0, if_neg (by decide), p7 0, if_neg (by decide), p6 0, if_neg (by decide), p5 0, if_neg (by decide), p4 0, if_neg (by decide), p3 0, if_neg (by decide), p2 0, if_pos rfl]
  have f2 : gR s11 11 1 = some 197 := by rw [p11 1, if_neg (by decide), p10 1, if_neg (by decide), p9 1, if_neg (by decide), p8 1, if_neg (by decide), p7 1, if_neg (by decide), p6 1, if_neg (by decide), p5 1, if_neg (by decide), p4 1, if_neg (by decide), p3 1, if_pos rfl]
  have f3 : gR s11 11 2 = some 1221 := by rw [p11 2, if_neg (by decide), p10 2, if_neg (by decide), p9 2, if_neg (by decide), p8 2, if_neg (by decide), p7 2, if_neg (by decide), p6 2, if_neg (by decide), p5 2, if_neg (by decide), p4 2, if_pos rfl]
  have f4 : gR s11 11 3 = some 2250 := by rw [p11 3, if_neg (by decide), p10 3, if_neg (by decide), p9 3, if_neg (by decide), p8 3, if_neg (by decide), p7 3, if_neg (by decide), p6 3, if_neg (by decide), p5 3, if_pos rfl]
  have f5 : gR s11 11 4 = some 2502 := by rw [p11 4, if_neg (by decide), p10 4, if_neg (by decide), p9 4, if_neg (by decide), p8 4, if_neg (by decide), p7 4, if_neg (by decide), p6 4, if_pos rfl]
  have f6 : gR s11 11 5 = some 2696 := by rw [p11 5, if_neg (by decide), p10 5, if_neg (by decide), p9 5, if_neg (by decide), p8 5, if_neg (by decide), p7 5, if_pos rfl]
  have f7 : gR s11 11 6 = some 3017 := by rw [p11 6, if_neg (by decide), p10 6, if_neg (by decide), p9 6, if_neg (by decide), p8 6, if_pos rfl]
  refine ⟨s11, ?_, ⟨?_, ?_, ?_, ?_, ?_, ?_, ?_, ?_, ?_, ?_, ?_⟩, n11, by omega, G1.tr E1⟩
  · have hx : 36 + 64 * hN (hA σ 7 6) = 164 := by rw [hN_hA, h]
    rw [e_PL_init, b_PL_init_0 (by omega)]
    simp only [h, Nat.reduceMul, Nat.reduceAdd]
    rw [e_Reader_init, b_Reader_init_0 (by omega), hx, ← h1, bkN_void, b_PL_init_12 (by omega)]
    simp only [n1, Nat.reduceMul, Nat.reduceAdd]
    rw [e2', bkN_void, b_PL_init_23 (by omega)]
    simp only [n2', Nat.reduceMul, Nat.reduceAdd]
    rw [e3', bkN_void, b_PL_init_34 (by omega)]
    simp only [n3', Nat.reduceMul, Nat.reduceAdd]
    rw [e4, bkN_void, b_PL_init_45 (by omega)]
    simp only [n4, Nat.reduceMul, Nat.reduceAdd]
    rw [e5, bkN_void, b_PL_init_56 (by omega)]
    simp only [n5, Nat.reduceMul, Nat.reduceAdd]
    rw [e6, bkN_void, b_PL_init_67 (by omega)]
    simp only [n6, Nat.reduceMul, Nat.reduceAdd]
    rw [e_Week_init, b_Week_init_0 (by omega), ← h7, bkN_void, b_PL_init_78 (by omega)]
    simp only [n7, Nat.reduceMul, Nat.reduceAdd]
    rw [e8', bkN_void, b_PL_init_89 (by omega)]
    simp only [n8', Nat.reduceMul, Nat.reduceAdd]
    rw [e9', bkN_void, b_PL_init_100 (by omega)]
    simp only [n9', Nat.reduceMul, Nat.reduceAdd]
    rw [e10', bkN_void, b_PL_init_111 (by omega) (by omega), ← h11]
  · refine ⟨⟨?_, ?_, ?_, ?_, ?_, ?_, ?_, ?_⟩, ?_, ⟨?_, ?_, ?_, ?_⟩, ⟨?_, ?_, ?_⟩, ⟨?_, ?_, ?_, ?_⟩, ⟨?_, ?_, ?_⟩, ⟨?_, ?_, ?_⟩, ⟨?_, ?_, ?_, ?_⟩, ⟨?_, ?_, ?_, ?_⟩⟩
    all_goals first
      | exact f0
      | exact f1
      | exact f2
      | exact f3
      | exact f4
      | exact f5
      | exact f6
      | exact f7
      | exact (E3.R (by omega) (by omega)).trans b2
      | exact (E3.R (by omega) (by omega)).trans dr3.1
      | exact (E3.R (by omega) (by omega)).trans dr3.2.1
      | exact (E3.R (by omega) (by omega)).trans dr3.2.2.1
      | exact (E3.R (by omega) (by omega)).trans dr3.2.2.2
      | exact (E4.R (by omega) (by omega)).trans wk4.1
      | exact (E4.R (by omega) (by omega)).trans wk4.2.1
      | exact (E4.R (by omega) (by omega)).trans wk4.2.2
      | exact (E6.R (by omega) (by omega)).trans sa6.1
      | exact (E6.R (by omega) (by omega)).trans sa6.2.1
      | exact (E6.R (by omega) (by omega)).trans sa6.2.2.1
      | exact (E6.R (by omega) (by omega)).trans sa6.2.2.2
      | exact (E2.R (by omega) (by omega)).trans lr2.1
      | exact (E2.R (by omega) (by omega)).trans lr2.2.1
      | exact (E2.R (by omega) (by omega)).trans lr2.2.2
      | exact (E8.R (by omega) (by omega)).trans lr8.1
      | exact (E8.R (by omega) (by omega)).trans lr8.2.1
      | exact (E8.R (by omega) (by omega)).trans lr8.2.2
      | exact (E9.R (by omega) (by omega)).trans br9.1
      | exact (E9.R (by omega) (by omega)).trans br9.2.1
      | exact (E9.R (by omega) (by omega)).trans br9.2.2.1
      | exact (E9.R (by omega) (by omega)).trans br9.2.2.2
      | exact (E10.R (by omega) (by omega)).trans br10.1
      | exact (E10.R (by omega) (by omega)).trans br10.2.1
      | exact (E10.R (by omega) (by omega)).trans br10.2.2.1
      | exact (E10.R (by omega) (by omega)).trans br10.2.2.2
  · refine ⟨?_, ?_, ?_⟩
    · rw [p11, if_neg (by decide), p10, if_neg (by decide), p9, if_pos rfl]
    · rw [p11, if_neg (by decide), p10, if_pos rfl]
    · rw [p11, if_pos rfl]
  · rw [h11]
    refine ⟨?_, ?_, ?_, ?_, ?_⟩
    · rw [gI_nj (by decide), gI_nj (by decide), gI_nj (by decide), gI_nj (by decide)]; exact gI_at
    · rw [gI_nj (by decide), gI_nj (by decide), gI_nj (by decide)]; exact gI_at
    · rw [gI_nj (by decide), gI_nj (by decide)]; exact gI_at
    · rw [gI_nj (by decide)]; exact gI_at
    · exact gI_at
  · exact ⟨(E2.R (by omega) (by omega)).trans a0, (E2.R (by omega) (by omega)).trans a1, (E2.R (by omega) (by omega)).trans a2⟩
  · exact HA.fx ha2 E2 (by omega) (fun a x y z => by omega)
  · exact DA.fx da2 E2 (by omega) (fun a x y z => by omega)
  · exact LwA.fx lw2 E2 (by omega) (fun a x y z => by omega)
  · exact BA.fx ba9 E9 (by omega) (by omega) (by omega)
  · exact pa5.f0 E5 (by omega) (by omega) (by omega)
  · exact fun i => (E1.I (by omega) (by omega)).trans (y1 i)
  · exact (E6.I (by omega) (by omega)).trans m6
