/-! the law's whole run -/
theorem lw_start {L : Nat} {xs : Nat → Int32} : ∃ σ, runF (callF 2047) 2047 m_LL_lawz (0, ent 8 [.ref 18], [], heap0 L xs) = runF (callF 2047) 2047 m_LL_lawz (23, [some (.ref 18), some (.ref 11), some (.ref 3980), some (.ref 5602), some (.int (ii 0)), none, none, none], [], σ) ∧ WJ σ ∧ hL σ = L ∧ hN σ = 88 ∧ hS σ ≤ 30000 := by
  have n0 : hN (heap0 L xs) = 0 := rfl
  have z0 : hS (heap0 L xs) = 0 := rfl
  obtain ⟨s1, e1, C, n1, z1, F1⟩ := s_plInit (d := 2041) (σ := hA (heap0 L xs) 11 15) (by rw [hN_hA, n0]) (fun _ _ => 0) (fun _ => (fun _ => 0, 0, fun _ _ => 0))
  have e1' : callF 2047 m_PL_init [.ref 11] (hA (heap0 L xs) 11 15) = some (.inl none, s1) := e1
  obtain ⟨s2, e2, M, n2, z2, F2⟩ := s_moInit (d := 2043) (σ := s1) n1 (fun _ _ => 0) (fun _ => (fun _ => 0, 0, fun _ _ => 0))
  have e2' : callF 2047 m_Mo_init [.ref 3980] (hA s1 12 51) = some (.inl none, s2) := e2
  have F : Fx (fun _ => False) s1 (hA s2 34 1) := F2.ha
  have M' := M.eq2 (σ' := hA s2 34 1) (fun a j h1 h2 => gI_hAn (by rw [n2]; omega)) (fun j => gR_hAn (by rw [n2]; omega))
  have hn : hN (hA s2 34 1) = 88 := by rw [hN_hA, n2]
  have hz1 : hS (hA (heap0 L xs) 11 15) = 15 := by rw [hS_hA, z0]
  refine ⟨hA s2 34 1, ?_, ⟨H0, usL, fun _ => 0, (0, fun _ => 0), (-ii 1, 0, 0, 0), (0, fun _ => none), (0, fun _ _ => 0), (0, fun _ => (fun _ => 0, 0, fun _ _ => 0)), ⟨4, 10, 48, 52, 57, ?_⟩, M'⟩, ?_, hn, by rw [hS_hA]; omega⟩
  · show runF (callF 2047) 2047 m_LL_lawz (0, [some (.ref 18), none, none, none, none, none, none, none], [], heap0 L xs) = _
    rw [b_LL_lawz_0]
    simp only [n0, Nat.reduceMul, Nat.reduceAdd]
    rw [e1', bkN_void, b_LL_lawz_7]
    simp only [n1, Nat.reduceMul, Nat.reduceAdd]
    rw [e2', bkN_void, b_LL_lawz_15]
    simp only [n2, Nat.reduceMul, Nat.reduceAdd]
    rfl
  · obtain ⟨cf, ⟨r8, r9, r10⟩, ⟨i1, i2, i3, i4, i5⟩, ⟨a0, a1, a2⟩, ha, da, lw, ba, pa, ta, m0⟩ := C
    refine ⟨cf.of (fun a j z => F.R (by unfold kc at z; omega) (fun z => z)), ⟨Or.inl rfl, by omega, by omega, Or.inl ⟨rfl, rfl⟩, Or.inl ⟨rfl, rfl⟩⟩, ⟨(F.R (by omega) (fun z => z)).trans r8, (F.R (by omega) (fun z => z)).trans r9, (F.R (by omega) (fun z => z)).trans r10⟩, ⟨(F.I (by omega) (fun z => z)).trans i1, (F.I (by omega) (fun z => z)).trans i2, (F.I (by omega) (fun z => z)).trans i3, (F.I (by omega) (fun z => z)).trans i4, (F.I (by omega) (fun z => z)).trans i5⟩, ⟨(F.R (by omega) (fun z => z)).trans a0, (F.R (by omega) (fun z => z)).trans a1, (F.R (by omega) (fun z => z)).trans a2, ha.fx F (by omega) (fun a x y z => z), da.fx F (by omega) (fun a x y z => z), lw.fx F (by omega) (fun a x y z => z), H0_w, D0_w, usL_w, by omega, by omega, by omega⟩, ba.fx F (by omega) (fun z => z) (fun z => z), pa.f0 F (by omega) (fun z => z) (fun z => z), fun i hi => ?_, (F.I (by omega) (fun z => z)).trans m0, Nat.zero_le _, Nat.zero_le _, P0_w⟩
    rw [F.I (by omega) (fun z => z), ta i]
    exact ⟨by show ii 0 &&& ii 255 = ii 0; decide, by show 0 < 256; omega⟩
  · show hL s2 = L
    rw [F2.1, F1.1]
    rfl
theorem lw_main : Main := by
  intro L xs hL6
  obtain ⟨σ, e, W, eL, n, z⟩ := lw_start (L := L) (xs := xs)
  obtain ⟨σ', e', h1, h2⟩ := lw_loop (e := 1976) (N := 600128) (Z := 7301098) hL6 65 0 0 σ none none none rfl (by omega) (by omega) W eL (by omega) (by omega)
  exact ⟨σ', e.trans e', h1, h2⟩
theorem i_vc : Claimed_1_1 ∧ Claimed_1_2 := i_vc_open lw_main
