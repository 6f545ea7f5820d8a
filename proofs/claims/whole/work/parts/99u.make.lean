/-! what the constructors make -/
theorem s_lawInit {d N : Nat} {σ : HP} (h : hN σ = N + 1) : ∃ σ', callF (d + 3) m_Law_init [.ref (4 + 64 * N)] σ = some (.inl none, σ') ∧ LR σ' N ∧ LwA σ' N usL ∧ hN σ' = N + 4 ∧ hS σ' = hS σ + 309 ∧ Fx (fun a => a = 4 + 64 * N) σ σ' := by
  obtain ⟨σ3, h3⟩ : ∃ σ3, σ3 = wI (wR (hA (wR (hA (wR (hA σ 29 150) (4 + 64 * N) 0 (some (29 + 64 * hN σ))) 29 150) (4 + 64 * N) 1 (some (29 + 64 * (hN σ + 1)))) 23 9) (4 + 64 * N) 2 (some (23 + 64 * (hN σ + 2)))) (4 + 64 * N) 3 0 := ⟨_, rfl⟩
  have r0 : gR σ3 (4 + 64 * N) 0 = some (29 + 64 * (N + 1)) := by rw [h3]; simp (disch := first | omega | (simp only [hN_hA, hN_wR, hN_wI, h]; omega)) only [gR_hAn, gR_ne, gR_nj, gR_at, gR_wI, hN_hA, hN_wR, hN_wI, Nat.reduceAdd, Nat.reduceMul, h]
  have r1 : gR σ3 (4 + 64 * N) 1 = some (29 + 64 * (N + 2)) := by rw [h3]; simp (disch := first | omega | (simp only [hN_hA, hN_wR, hN_wI, h]; omega)) only [gR_hAn, gR_ne, gR_nj, gR_at, gR_wI, hN_hA, hN_wR, hN_wI, Nat.reduceAdd, Nat.reduceMul, h]
  have r2 : gR σ3 (4 + 64 * N) 2 = some (23 + 64 * (N + 3)) := by rw [h3]; simp (disch := first | omega | (simp only [hN_hA, hN_wR, hN_wI, h]; omega)) only [gR_hAn, gR_ne, gR_nj, gR_at, gR_wI, hN_hA, hN_wR, hN_wI, Nat.reduceAdd, Nat.reduceMul, h]
  have hn3 : hN σ3 = N + 4 := by rw [h3]; show hN σ + 1 + 1 + 1 = _; omega
  have hz3 : hS σ3 = hS σ + 309 := by rw [h3]; show hS σ + 150 + 150 + 9 = _; omega
  have F0 : Fx (fun a => a = 4 + 64 * N ∨ a = 29 + 64 * (N + 1)) σ σ3 := by
    rw [h3]
    exact Fx.wi (Fx.wr (Fx.ha (Fx.wr (Fx.ha (Fx.wr (Fx.ha Fx.rf) (Or.inl rfl))) (Or.inl rfl))) (Or.inl rfl)) (Or.inl rfl)
  obtain ⟨σ', e, C, F⟩ := s_setUsual (d := d) r0
  refine ⟨σ', ?_, ⟨(F.R _ _).trans r0, (F.R _ _).trans r1, (F.R _ _).trans r2⟩, ⟨(F.R _ _).trans r0, (F.R _ _).trans r1, (F.R _ _).trans r2, C.2.1, C.2.2⟩, by rw [F.N]; exact hn3, by rw [F.Z]; exact hz3, (F0.tr F.x).nq (fun a x z => by omega)⟩
  rw [e_Law_init, b_Law_init_0 (by omega), ← h3, e, bk_void, b_Law_init_39]
theorem s_liftInit {d N : Nat} {σ : HP} (h : hN σ = N + 1) : ∃ σ', callF (d + 4) m_Lift_init [.ref (5 + 64 * N)] σ = some (.inl none, σ') ∧ (gR σ' (5 + 64 * N) 0 = some (2 + 64 * (N + 1)) ∧ gR σ' (5 + 64 * N) 1 = some (4 + 64 * (N + 7)) ∧ gR σ' (5 + 64 * N) 2 = some (1 + 64 * (N + 11))) ∧ HA σ' (N + 1) H0 ∧ LR σ' (N + 7) ∧ LwA σ' (N + 7) usL ∧ DR σ' (N + 11) ∧ DA σ' (N + 11) (fun _ => 0) ∧ hN σ' = N + 16 ∧ hS σ' = hS σ + 444 ∧ Fx (fun a => a = 5 + 64 * N) σ σ' := by
  obtain ⟨σ1, e1, A1, n1, z1, F1⟩ := s_houseInit (d := d + 2) (N := N + 1) (σ := σ) h
  have n1' : hN σ1 = N + 7 := n1
  obtain ⟨σ2, e2, R2, L2, n2, z2, F2⟩ := s_lawInit (d := d) (N := N + 7) (σ := hA (wR σ1 (5 + 64 * N) 0 (some (2 + 64 * (N + 1)))) 4 4) (by rw [hN_hA, hN_wR, n1'])
  have n2' : hN σ2 = N + 11 := n2
  obtain ⟨σ3, e3, R3, n3, z3, F3, D3⟩ := s_newDays (d := d + 2) (n := N + 11) (σ := hA (wR σ2 (5 + 64 * N) 1 (some (4 + 64 * (N + 7)))) 1 8) (by rw [hN_hA, hN_wR, n2'])
  have F12 : Fx (fun a => a = 5 + 64 * N ∨ N + 7 ≤ a / 64) σ1 σ2 := (Fx.ha (Fx.wr Fx.rf (Or.inl rfl)) : Fx (fun a => a = 5 + 64 * N ∨ N + 7 ≤ a / 64) σ1 (hA (wR σ1 (5 + 64 * N) 0 (some (2 + 64 * (N + 1)))) 4 4)).tr (F2.mono (fun a z => by omega))
  have F23 : Fx (fun a => a = 5 + 64 * N ∨ N + 11 ≤ a / 64) σ2 σ3 := (Fx.ha (Fx.wr Fx.rf (Or.inl rfl)) : Fx (fun a => a = 5 + 64 * N ∨ N + 11 ≤ a / 64) σ2 (hA (wR σ2 (5 + 64 * N) 1 (some (4 + 64 * (N + 7)))) 1 8)).tr (F3.mono (fun a z => by omega))
  have F34 : Fx (fun a => a = 5 + 64 * N) σ3 (wR σ3 (5 + 64 * N) 2 (some (1 + 64 * (N + 11)))) := Fx.wr Fx.rf rfl
  have F24 : Fx (fun a => a = 5 + 64 * N ∨ N + 11 ≤ a / 64) σ2 (wR σ3 (5 + 64 * N) 2 (some (1 + 64 * (N + 11)))) := F23.tr (F34.mono (fun a z => Or.inl z))
  have F14 : Fx (fun a => a = 5 + 64 * N ∨ N + 7 ≤ a / 64) σ1 (wR σ3 (5 + 64 * N) 2 (some (1 + 64 * (N + 11)))) := F12.tr (F24.mono (fun a z => by omega))
  have n2h : hN (hA (wR σ2 (5 + 64 * N) 1 (some (4 + 64 * (N + 7)))) 1 8) = N + 12 := by rw [hN_hA, hN_wR, n2']
  have n1h : hN (hA (wR σ1 (5 + 64 * N) 0 (some (2 + 64 * (N + 1)))) 4 4) = N + 8 := by rw [hN_hA, hN_wR, n1']
  refine ⟨wR σ3 (5 + 64 * N) 2 (some (1 + 64 * (N + 11))), ?_, ⟨?_, ?_, gR_at⟩, A1.fx F14 (by omega) (fun a x y z => by omega), ⟨(F24.R (by omega) (by omega)).trans R2.1, (F24.R (by omega) (by omega)).trans R2.2.1, (F24.R (by omega) (by omega)).trans R2.2.2⟩, L2.fx F24 (by omega) (fun a x y z => by omega), ⟨(gR_ne (by omega)).trans R3.1, (gR_ne (by omega)).trans R3.2.1, (gR_ne (by omega)).trans R3.2.2.1, (gR_ne (by omega)).trans R3.2.2.2⟩, D3.fx F34 (by omega) (fun a x y z => by omega), n3, ?_, ?_⟩
  · rw [e_Lift_init, b_Lift_init_0 (by omega), h, e1, bkN_void, b_Lift_init_12 (by omega), n1', e2, bkN_void, b_Lift_init_23 (by omega), n2', e3, bkN_void, b_Lift_init_34 (by omega)]
  · rw [gR_nj (by omega), F3.R (by omega) (by omega)]
    simp (disch := first | omega | (simp only [hN_hA, hN_wR, hN_wI, n2']; omega)) only [gR_hAn, gR_ne, gR_nj, gR_at, gR_wI, hN_hA, hN_wR, hN_wI, Nat.reduceAdd, Nat.reduceMul, n2']
    rw [F2.R (by omega) (by omega)]
    simp (disch := first | omega | (simp only [hN_hA, hN_wR, hN_wI, n1']; omega)) only [gR_hAn, gR_ne, gR_nj, gR_at, gR_wI, hN_hA, hN_wR, hN_wI, Nat.reduceAdd, Nat.reduceMul, n1']
  · rw [gR_nj (by omega), F3.R (by omega) (by omega)]
    simp (disch := first | omega | (simp only [hN_hA, hN_wR, hN_wI, n2']; omega)) only [gR_hAn, gR_ne, gR_nj, gR_at, gR_wI, hN_hA, hN_wR, hN_wI, Nat.reduceAdd, Nat.reduceMul, n2']
  · show hS σ3 = _
    rw [z3, hS_hA, hS_wR, z2, hS_hA, hS_wR, z1]
  · exact ((F1.mono (fun a z => Or.inr z) : Fx (fun a => a = 5 + 64 * N ∨ N + 1 ≤ a / 64) σ σ1).tr (F14.mono (fun a z => by omega))).nq (fun a x z => by omega)
theorem s_workInit {d : Nat} {σ : HP} (h : hN σ = 36) : ∃ σ', callF (d + 1) m_Work_init [.ref 2250] σ = some (.inl none, σ') ∧ WKr σ' ∧ hN σ' = 39 ∧ hS σ' = hS σ + 450 ∧ Fx (fun a => a = 2250) σ σ' := by
  rw [e_Work_init, b_Work_init_0 (by omega)]
  simp only [h, Nat.reduceMul, Nat.reduceAdd]
  refine ⟨_, rfl, ⟨?_, ?_, ?_⟩, ?_, ?_, ?_⟩
  · simp (disch := first | omega | (simp only [hN_hA, hN_wR, hN_wI, h]; omega)) only [gR_hAn, gR_ne, gR_nj, gR_at, gR_wI, hN_hA, hN_wR, hN_wI, Nat.reduceAdd, Nat.reduceMul, h]
  · simp (disch := first | omega | (simp only [hN_hA, hN_wR, hN_wI, h]; omega)) only [gR_hAn, gR_ne, gR_nj, gR_at, gR_wI, hN_hA, hN_wR, hN_wI, Nat.reduceAdd, Nat.reduceMul, h]
  · simp (disch := first | omega | (simp only [hN_hA, hN_wR, hN_wI, h]; omega)) only [gR_hAn, gR_ne, gR_nj, gR_at, gR_wI, hN_hA, hN_wR, hN_wI, Nat.reduceAdd, Nat.reduceMul, h]
  · show hN σ + 1 + 1 + 1 = _
    omega
  · show hS σ + 150 + 150 + 150 = _
    omega
  · exact Fx.wi (Fx.wi (Fx.wi (Fx.wi (Fx.wr (Fx.ha (Fx.wr (Fx.ha (Fx.wr (Fx.ha Fx.rf) rfl)) rfl)) rfl) rfl) rfl) rfl) rfl
theorem s_pastInit {d : Nat} {σ : HP} (h : hN σ = 40) (P : Nat → DN) (I : Nat → IM) : ∃ σ', callF (d + 1) m_Past_init [.ref 2502] σ = some (.inl none, σ') ∧ PaA σ' (0, P) (0, I) ∧ hN σ' = 42 ∧ hS σ' = hS σ + 19 ∧ Fx (fun a => a = 2502) σ σ' := by
  rw [e_Past_init, b_Past_init_0 (by omega)]
  simp only [h, Nat.reduceMul, Nat.reduceAdd]
  refine ⟨_, rfl, ⟨?_, ?_, ?_, ?_, Nat.zero_le _, Nat.zero_le _, ⟨fun i hi => absurd hi (Nat.not_lt_zero _), fun i hi => Or.inl ?_⟩, fun i hi => absurd hi (Nat.not_lt_zero _)⟩, ?_, ?_, ?_⟩
  · simp (disch := first | omega | (simp only [hN_hA, hN_wR, hN_wI, h]; omega)) only [gR_hAn, gR_ne, gR_nj, gR_at, gR_wI, hN_hA, hN_wR, hN_wI, Nat.reduceAdd, Nat.reduceMul, h]
  · simp (disch := first | omega | (simp only [hN_hA, hN_wR, hN_wI, h]; omega)) only [gR_hAn, gR_ne, gR_nj, gR_at, gR_wI, hN_hA, hN_wR, hN_wI, Nat.reduceAdd, Nat.reduceMul, h]
  · simp (disch := first | omega | (simp only [hN_hA, hN_wR, hN_wI, h]; omega)) only [gI_hAn, gI_hAz, gI_wR, gI_ne, gI_nj, gI_at, hN_hA, hN_wR, hN_wI, Nat.reduceAdd, Nat.reduceMul, h]
    rfl
  · simp (disch := first | omega | (simp only [hN_hA, hN_wR, hN_wI, h]; omega)) only [gI_hAn, gI_hAz, gI_wR, gI_ne, gI_nj, gI_at, hN_hA, hN_wR, hN_wI, Nat.reduceAdd, Nat.reduceMul, h]
    rfl
  · simp (disch := first | omega | (simp only [hN_hA, hN_wR, hN_wI, h]; omega)) only [gR_hAn, gR_ne, gR_nj, gR_at, gR_wI, hN_hA, hN_wR, hN_wI, Nat.reduceAdd, Nat.reduceMul, h]
    rw [gR_hA, if_pos (by rw [h])]
  · show hN σ + 1 + 1 = _
    omega
  · show hS σ + 16 + 3 = _
    omega
  · exact Fx.wi (Fx.wr (Fx.ha (Fx.wi (Fx.wr (Fx.ha Fx.rf) rfl) rfl)) rfl) rfl
theorem s_scalesInit {d : Nat} {σ : HP} (h : hN σ = 43) : ∃ σ', callF (d + 1) m_Scales_init [.ref 2696] σ = some (.inl none, σ') ∧ SA σ' 42 ∧ gI σ' 2844 0 = ii 0 ∧ hN σ' = 47 ∧ hS σ' = hS σ + 277 ∧ Fx (fun a => a = 2696) σ σ' := by
  rw [e_Scales_init, b_Scales_init_0 (by omega)]
  simp only [h, Nat.reduceMul, Nat.reduceAdd]
  refine ⟨_, rfl, ⟨?_, ?_, ?_, ?_⟩, ?_, ?_, ?_, ?_⟩
  · simp (disch := first | omega | (simp only [hN_hA, hN_wR, hN_wI, h]; omega)) only [gR_hAn, gR_ne, gR_nj, gR_at, gR_wI, hN_hA, hN_wR, hN_wI, Nat.reduceAdd, Nat.reduceMul, h]
  · simp (disch := first | omega | (simp only [hN_hA, hN_wR, hN_wI, h]; omega)) only [gR_hAn, gR_ne, gR_nj, gR_at, gR_wI, hN_hA, hN_wR, hN_wI, Nat.reduceAdd, Nat.reduceMul, h]
  · simp (disch := first | omega | (simp only [hN_hA, hN_wR, hN_wI, h]; omega)) only [gR_hAn, gR_ne, gR_nj, gR_at, gR_wI, hN_hA, hN_wR, hN_wI, Nat.reduceAdd, Nat.reduceMul, h]
  · simp (disch := first | omega | (simp only [hN_hA, hN_wR, hN_wI, h]; omega)) only [gR_hAn, gR_ne, gR_nj, gR_at, gR_wI, hN_hA, hN_wR, hN_wI, Nat.reduceAdd, Nat.reduceMul, h]
  · simp (disch := first | omega | (simp only [hN_hA, hN_wR, hN_wI, h]; omega)) only [gI_hAn, gI_hAz, gI_wR, gI_ne, gI_nj, gI_at, hN_hA, hN_wR, hN_wI, Nat.reduceAdd, Nat.reduceMul, h]
    exact gI_hAz (by show 2844 = 28 + 64 * (hN σ + 1); omega)
  · show hN σ + 1 + 1 + 1 + 1 = _
    omega
  · show hS σ + 128 + 128 + 8 + 13 = _
    omega
  · exact Fx.wr (Fx.ha (Fx.wr (Fx.ha (Fx.wr (Fx.ha (Fx.wr (Fx.ha Fx.rf) rfl)) rfl)) rfl)) rfl
theorem s_bookInit {d N : Nat} {σ : HP} (h : hN σ = N + 1) : ∃ σ', callF (d + 1) m_Book_init [.ref (64 * N)] σ = some (.inl none, σ') ∧ BR σ' N ∧ BA σ' N (0, fun _ => none) ∧ hN σ' = N + 5 ∧ hS σ' = hS σ + 175 ∧ Fx (fun a => a = 64 * N) σ σ' := by
  rw [e_Book_init, b_Book_init_0 (by omega)]
  simp only [h]
  have r : ∀ τ, τ = wI (wR (hA (wR (hA (wR (hA (wI (wI (wR (hA σ 21 7) (64 * N) 0 (some (21 + 64 * (N + 1)))) (64 * N) 1 0) (64 * N) 2 0) 26 56) (64 * N) 3 (some (26 + 64 * (N + 1 + 1)))) 26 56) (64 * N) 4 (some (26 + 64 * (N + 1 + 2)))) 26 56) (64 * N) 5 (some (26 + 64 * (N + 1 + 3)))) (64 * N) 6 0 → BR τ N ∧ gI τ (64 * N) 1 = ii 0 ∧ gI τ (64 * N) 2 = ii 0 := by
    intro τ hτ
    rw [hτ]
    refine ⟨⟨?_, ?_, ?_, ?_⟩, ?_, ?_⟩
    · simp (disch := first | omega | (simp only [hN_hA, hN_wR, hN_wI, h]; omega)) only [gR_hAn, gR_ne, gR_nj, gR_at, gR_wI, hN_hA, hN_wR, hN_wI, Nat.reduceAdd, Nat.reduceMul, h]
    · simp (disch := first | omega | (simp only [hN_hA, hN_wR, hN_wI, h]; omega)) only [gR_hAn, gR_ne, gR_nj, gR_at, gR_wI, hN_hA, hN_wR, hN_wI, Nat.reduceAdd, Nat.reduceMul, h]
    · simp (disch := first | omega | (simp only [hN_hA, hN_wR, hN_wI, h]; omega)) only [gR_hAn, gR_ne, gR_nj, gR_at, gR_wI, hN_hA, hN_wR, hN_wI, Nat.reduceAdd, Nat.reduceMul, h]
    · simp (disch := first | omega | (simp only [hN_hA, hN_wR, hN_wI, h]; omega)) only [gR_hAn, gR_ne, gR_nj, gR_at, gR_wI, hN_hA, hN_wR, hN_wI, Nat.reduceAdd, Nat.reduceMul, h]
    · simp (disch := first | omega | (simp only [hN_hA, hN_wR, hN_wI, h]; omega)) only [gI_hAn, gI_hAz, gI_wR, gI_ne, gI_nj, gI_at, hN_hA, hN_wR, hN_wI, Nat.reduceAdd, Nat.reduceMul, h]
      rfl
    · simp (disch := first | omega | (simp only [hN_hA, hN_wR, hN_wI, h]; omega)) only [gI_hAn, gI_hAz, gI_wR, gI_ne, gI_nj, gI_at, hN_hA, hN_wR, hN_wI, Nat.reduceAdd, Nat.reduceMul, h]
      rfl
  obtain ⟨R, g1, g2⟩ := r _ rfl
  refine ⟨_, rfl, R, ⟨R.1, R.2.1, R.2.2.1, R.2.2.2, g1, g2, fun m hm v hv => (by cases hv), fun m v hv => (by cases hv)⟩, ?_, ?_, ?_⟩
  · show hN σ + 1 + 1 + 1 + 1 = _
    omega
  · show hS σ + 7 + 56 + 56 + 56 = _
    omega
  · exact Fx.wi (Fx.wr (Fx.ha (Fx.wr (Fx.ha (Fx.wr (Fx.ha (Fx.wi (Fx.wi (Fx.wr (Fx.ha Fx.rf) rfl) rfl) rfl)) rfl)) rfl)) rfl) rfl
/-- one more part of the class: made, and written down -/
theorem stg {s s' : HP} {k r kind n obj : Nat} (F : Fx (fun a => a = obj) (hA (wR s 11 k (some r)) kind n) s') (ho : obj / 64 = hN s) (h1 : 1 ≤ hN s) : Fx (fun a => a = 11) s s' ∧ ∀ j, gR s' 11 j = if j = k then some r else gR s 11 j := by
  have F0 : Fx (fun a => a = 11 ∨ a = obj) s (hA (wR s 11 k (some r)) kind n) := Fx.ha (Fx.wr Fx.rf (Or.inl rfl))
  refine ⟨(F0.tr (F.mono (fun a z => Or.inr z))).nq (fun a x z => by
    rcases z with z | z
    · exact z
    · rw [z] at x
      omega), fun j => ?_⟩
  have h2 : hN (wR s 11 k (some r)) = hN s := rfl
  rw [F.R (by rw [hN_hA, h2]; omega) (by omega), gR_hAn (by rw [h2]; omega), gR_wR]
  simp only [true_and]
