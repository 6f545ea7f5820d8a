theorem begN_w {H : HH} (hw : wH H) : wD H (begN H) := by
  have h5 := hw.1
  refine ⟨fun m hm' => ⟨?_, ?_, fun _ => ?_, ?_⟩, fun j hj => ?_, ?_⟩
  · unfold begN begD
    rw [if_pos hm']
    by_cases z : m < hm H
    · rw [if_pos z]
      exact (hw.2.1 m z).1
    · rw [if_neg z]
      omega
  · unfold begN; rw [if_neg (by omega)]; omega
  · unfold begN; rw [if_neg (by omega)]
  · unfold begN; rw [if_neg (by omega)]; omega
  · unfold begN; rw [if_neg (by omega)]; omega
  · unfold begN; rw [if_neg (by omega)]; omega
/-- into another house -/
theorem s_moveInto {d h l N : Nat} {H H' : HH} {w : LW} {D : DN} {σ : HP} (L : CL σ 3 h l 14 H w D) (A : HA σ N H') (hw : wH H') (hN' : 88 ≤ N) (hl : l = 10 ∨ l = 48) : ∃ σ', callF (d + 3) m_Lift_moveInto [.ref 197, .ref (2 + 64 * N)] σ = some (.inl none, σ') ∧ CL σ' 3 N l 14 H' usL (begN H') ∧ hN σ' = hN σ ∧ hS σ' = hS σ ∧ Fx (fun a => a = 197 ∨ a = 4 + 64 * l ∨ a = 29 + 64 * (l + 1) ∨ (14 ≤ a / 64 ∧ a / 64 ≤ 18)) σ σ' ∧ ∀ a j, a ≠ 197 → gR σ' a j = gR σ a j := by
  obtain ⟨p0, p1, p2, a1, a2, a3, b1, b2, b3, b4, b5, b6⟩ := L
  have F0 : Fx (fun a => a = 197) σ (wR σ 197 0 (some (2 + 64 * N))) := Fx.wr Fx.rf rfl
  have g1 : gR (wR σ 197 0 (some (2 + 64 * N))) 197 1 = some (4 + 64 * l) := by rw [gR_nj (by decide)]; exact p1
  have g2 : gR (wR σ 197 0 (some (2 + 64 * N))) 197 2 = some 897 := by rw [gR_nj (by decide)]; exact p2
  have g0 : gR (wR σ 197 0 (some (2 + 64 * N))) 197 0 = some (2 + 64 * N) := gR_at
  have gl : ∀ j, gR (wR σ 197 0 (some (2 + 64 * N))) (4 + 64 * l) j = gR σ (4 + 64 * l) j := fun j => gR_ne (by omega)
  obtain ⟨σ1, e1, C1, F1⟩ := s_setUsual (d := d) (l := l) ((gl 0).trans a3.1)
  have A1 : HA σ1 N H' := by
    have A0 : HA (wR σ 197 0 (some (2 + 64 * N))) N H' := by
      obtain ⟨c0, c1, c2, c3, q4, q5, q6, q7, q8, r⟩ := A
      exact ⟨c0, c1, c2, c3, (gR_ne (by omega)).trans q4, (gR_ne (by omega)).trans q5, (gR_ne (by omega)).trans q6, (gR_ne (by omega)).trans q7, (gR_ne (by omega)).trans q8, r⟩
    exact A0.fs F1 (fun a x y z => by omega)
  have R1 : DR σ1 14 := by
    obtain ⟨r4, r5, r6, r7⟩ := a2.dr
    exact ⟨(F1.R _ _).trans ((gR_ne (by omega)).trans r4), (F1.R _ _).trans ((gR_ne (by omega)).trans r5), (F1.R _ _).trans ((gR_ne (by omega)).trans r6), (F1.R _ _).trans ((gR_ne (by omega)).trans r7)⟩
  obtain ⟨σ2, e2, D2, F2⟩ := s_beginIn (d := d) A1 R1 (by omega)
  have k2 : ∀ a, a = 4 + 64 * l ∨ a = 29 + 64 * (l + 1) → ¬ (14 ≤ a / 64 ∧ a / 64 ≤ 14 + 4) := fun a z => by omega
  refine ⟨σ2, ?_, ⟨(F2.R _ _).trans ((F1.R _ _).trans g0), (F2.R _ _).trans ((F1.R _ _).trans g1), (F2.R _ _).trans ((F1.R _ _).trans g2), A1.fs F2 (fun a x y z => by omega), D2, ⟨(F2.R _ _).trans C1.1, (F2.R _ _).trans ((F1.R _ _).trans ((gl 1).trans a3.2.1)), (F2.R _ _).trans ((F1.R _ _).trans ((gl 2).trans a3.2.2.1)), (F2.I (k2 _ (Or.inl rfl))).trans C1.2.1, fun k hk => (F2.I (k2 _ (Or.inr rfl))).trans (C1.2.2 k hk)⟩, hw, begN_w hw, usL_w, by omega, by omega, by omega⟩, F2.N.trans F1.N, F2.Z.trans F1.Z, (F0.mono (fun a z => Or.inl z)).tr ((F1.x.mono (fun a z => Or.inr (z.elim Or.inl (fun q => Or.inr (Or.inl q))))).tr (F2.x.mono (fun a z => Or.inr (Or.inr (Or.inr z))))), fun a j z => (F2.R _ _).trans ((F1.R _ _).trans (gR_ne z))⟩
  have g2' : gR σ1 197 2 = some 897 := (F1.R _ _).trans g2
  simp (disch := first | omega | exact b2_01 _ | exact ii0_01 | exact ii1_01 | (simp (disch := omega) only [g1, g2', p1, dr_some, Option.isSome_some, gR_wI, Nat.add_mul_mod_self_left, Nat.reduceMod, ak20, ak21, ak22, ak23, ak24, ak25, ak26, ak27, ak28, ak29, ak30, ak31, ak32, ak33, ak34, ak35, ak36, an20, an21, an22, an23, an24, an25, an26, an27, an28, an29, an30, an31, an32, an33, an34, an35, an36, an37, an38, ne_eq, inR_ii, decide_eq_true_eq, lit_ii, of_ii, ii_eq, ii_lt, ii_le]; first | done | omega)) only [g1, g2', p1, e_Lift_moveInto, b_Lift_moveInto_0, b_Lift_moveInto_12, b_Lift_moveInto_20, e1, e2, dr_some, Option.isSome_some, gR_wI, Nat.add_mul_mod_self_left, Nat.reduceMod, ak20, ak21, ak22, ak23, ak24, ak25, ak26, ak27, ak28, ak29, ak30, ak31, ak32, ak33, ak34, ak35, ak36, an20, an21, an22, an23, an24, an25, an26, an27, an28, an29, an30, an31, an32, an33, an34, an35, an36, an37, an38, ↓reduceIte, bk_int, bk_void, bk_long, bkN_int, bkN_void, bkN_long, Nat.reduceAdd, Nat.reduceMul, Nat.reduceSub, Nat.reduceLT, Nat.reduceLeDiff, if_true, if_false, not_true_eq_false, not_false_eq_true, Bool.true_eq_false, Bool.false_eq_true, b2_eq0, Nat.add_zero, Nat.zero_add, Nat.not_lt_zero, Nat.zero_le, ite_true, ite_false, decide_true, decide_false, lit_ii, of_ii, le_T, le_F, lt_T, lt_F, eq_T, eq_F, ii_add, ii_mul, ii_nat, ii_le, ii_lt, ii_eq, inR_ii, ii_add0]
