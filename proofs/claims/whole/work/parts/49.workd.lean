theorem cl_step {T : Nat → Nat} {n h o r e : Nat} {H : HH} {L : WkT → PR WkT} (hor : o + r = 6) (hL : r = 0 ∨ (SCn T n h H m_Work_readSteps (o + 1) e L ∧ (∀ s : WkT, s.1 ≤ n → wfw n 0 s (L s)) ∧ ∀ s : WkT, s.1 ≤ n → wpf s (L s))) (he : 20 ≤ e) (hn : n ≤ 150) : SCn T n h H m_Work_readStep o (e + 2) (wkSt T n H L r) := by
  intro σ s u R C hI hk
  have hp := R.2.2.2.2.2.2.1
  obtain ⟨d, rfl⟩ : ∃ d, e = d + 20 := ⟨e - 20, by omega⟩
  obtain ⟨σ1, e1, R1, F1⟩ := s_readWord (d := d + 14) R (i := 3) (by omega)
  simp only [Nat.reduceMul, Nat.reduceAdd] at e1
  have C1 := C.fs F1 (by unfold S1; omega) (by unfold S1; omega) (by unfold S1; omega) (by unfold S1; omega)
  have hI1 := hI.fs (S1_SK F1).1 SK_h
  obtain ⟨⟨r0, r1, r2⟩, h3, hc1⟩ := C1
  have F2 : Fk σ (wI (wI σ1 2250 3 (ii (s.2.1 + 1))) 2333 s.2.1 (oi (wdX 3 T n s.1))) := ((S1_SK F1).w (by unfold SK2; omega)).w (by unfold SK2; omega)
  have R2 := (R1.w (a := 2250) (j := 3) (v := ii (s.2.1 + 1)) (by omega) (by omega)).w (a := 2333) (j := s.2.1) (v := oi (wdX 3 T n s.1)) (by omega) (by omega)
  have hI2 := hI.fs F2.1 SK_h
  have e2 : callF (d + 20 + 2) m_Work_readStep [.ref 2250, .ref 71, .ref (2 + 64 * h), .int (ii o)] σ = runF (callF (d + 21)) (d + 21) m_Work_readStep (35, [some (.ref 2250), some (.ref 71), some (.ref (2 + 64 * h)), some (.int (ii o)), some (.int (oi (wdX 3 T n s.1))), some (.int (ii s.2.1))], [], wI (wI σ1 2250 3 (ii (s.2.1 + 1))) 2333 s.2.1 (oi (wdX 3 T n s.1))) := by
    simp (disch := first | omega | exact b2_01 _ | exact ii0_01 | exact ii1_01 | (simp (disch := omega) only [r0, r1, r2, dr_some, Option.isSome_some, gR_wI, Nat.add_mul_mod_self_left, Nat.reduceMod, ak20, ak21, ak22, ak23, ak24, ak25, ak26, ak27, ak28, ak29, ak30, ak31, ak32, ak33, ak34, ak35, ak36, an20, an21, an22, an23, an24, an25, an26, an27, an28, an29, an30, an31, an32, an33, an34, an35, an36, an37, an38, ne_eq, inR_ii, decide_eq_true_eq, lit_ii, of_ii, ii_eq, ii_lt, ii_le]; first | done | omega)) only [r0, r1, r2, e_Work_readStep, b_Work_readStep_0, b_Work_readStep_6, b_Work_readStep_84, b_Work_readStep_101, b_Work_readStep_104, b_Work_readStep_107, b_Work_readStep_124, b_Work_readStep_127, b_Work_readStep_144, b_Work_readStep_147, b_Work_readStep_150, b_Work_readStep_167, b_Work_readStep_170, b_Work_readStep_187, b_Work_readStep_190, b_Work_readStep_193, b_Work_readStep_202, b_Work_readStep_205, e1, h3, p_2333, dr_some, Option.isSome_some, gR_wI, Nat.add_mul_mod_self_left, Nat.reduceMod, ak20, ak21, ak22, ak23, ak24, ak25, ak26, ak27, ak28, ak29, ak30, ak31, ak32, ak33, ak34, ak35, ak36, an20, an21, an22, an23, an24, an25, an26, an27, an28, an29, an30, an31, an32, an33, an34, an35, an36, an37, an38, ↓reduceIte, bk_int, bk_void, bk_long, bkN_int, bkN_void, bkN_long, Nat.reduceAdd, Nat.reduceMul, Nat.reduceSub, Nat.reduceLT, Nat.reduceLeDiff, if_true, if_false, not_true_eq_false, not_false_eq_true, Bool.true_eq_false, Bool.false_eq_true, b2_eq0, Nat.add_zero, Nat.zero_add, Nat.not_lt_zero, Nat.zero_le, ite_true, ite_false, decide_true, decide_false, lit_ii, of_ii, le_T, le_F, lt_T, lt_F, eq_T, eq_F, ii_add, ii_mul, ii_nat, ii_le, ii_lt, ii_eq, inR_ii, ii_add0]
  rw [e2]
  have s0 : gI (wI (wI σ1 2250 3 (ii (s.2.1 + 1))) 2333 s.2.1 (oi (wdX 3 T n s.1))) 2250 3 = ii (s.2.1 + 1) := by rw [gI_ne (by omega), gI_at]
  have s1 : gI (wI (wI σ1 2250 3 (ii (s.2.1 + 1))) 2333 s.2.1 (oi (wdX 3 T n s.1))) 2333 s.2.1 = oi (wdX 3 T n s.1) := gI_at
  have s2 : ∀ i, i < s.2.1 → wkR (wI (wI σ1 2250 3 (ii (s.2.1 + 1))) 2333 s.2.1 (oi (wdX 3 T n s.1))) i (s.2.2 i) := by
    intro i hi
    obtain ⟨x, y, z⟩ := hc1 i hi
    exact ⟨by rw [gI_nj (by omega), gI_ne (by omega)]; exact x, fun b c => by rw [gI_ne (by omega), gI_ne (by omega)]; exact y b c, fun b => by rw [gI_ne (by omega), gI_ne (by omega)]; exact z b⟩
  have hR2 : WKr (wI (wI σ1 2250 3 (ii (s.2.1 + 1))) 2333 s.2.1 (oi (wdX 3 T n s.1))) := ⟨r0, r1, r2⟩
  have hk50 : s.2.1 < 150 := by omega
  unfold wkSt
  cases hw : wdX 3 T n s.1 with
  | none =>
    have wf : wdF 3 T n s.1 = some (1, sk T n s.1) := by
      unfold wdF
      unfold wdX at hw
      rw [hw]
    rw [wf] at R2
    rw [hw] at R2 F2
    refine ⟨_, ?_, ⟨_, _, R2⟩, F2⟩
    simp (disch := first | omega | exact b2_01 _ | exact ii0_01 | exact ii1_01 | (simp (disch := omega) only [lit_ii, dr_some, Option.isSome_some, gR_wI, Nat.add_mul_mod_self_left, Nat.reduceMod, ak20, ak21, ak22, ak23, ak24, ak25, ak26, ak27, ak28, ak29, ak30, ak31, ak32, ak33, ak34, ak35, ak36, an20, an21, an22, an23, an24, an25, an26, an27, an28, an29, an30, an31, an32, an33, an34, an35, an36, an37, an38, ne_eq, inR_ii, decide_eq_true_eq, lit_ii, of_ii, ii_eq, ii_lt, ii_le]; first | done | omega)) only [lit_ii, b_Work_readStep_35, b_Work_readStep_205, oi_none, ng_eq, dr_some, Option.isSome_some, gR_wI, Nat.add_mul_mod_self_left, Nat.reduceMod, ak20, ak21, ak22, ak23, ak24, ak25, ak26, ak27, ak28, ak29, ak30, ak31, ak32, ak33, ak34, ak35, ak36, an20, an21, an22, an23, an24, an25, an26, an27, an28, an29, an30, an31, an32, an33, an34, an35, an36, an37, an38, ↓reduceIte, bk_int, bk_void, bk_long, bkN_int, bkN_void, bkN_long, Nat.reduceAdd, Nat.reduceMul, Nat.reduceSub, Nat.reduceLT, Nat.reduceLeDiff, if_true, if_false, not_true_eq_false, not_false_eq_true, Bool.true_eq_false, Bool.false_eq_true, b2_eq0, Nat.add_zero, Nat.zero_add, Nat.not_lt_zero, Nat.zero_le, ite_true, ite_false, decide_true, decide_false, lit_ii, of_ii, le_T, le_F, lt_T, lt_F, eq_T, eq_F, ii_add, ii_mul, ii_nat, ii_le, ii_lt, ii_eq, inR_ii, ii_add0]
  | some x =>
    have wf : wdF 3 T n s.1 = none := by
      unfold wdF
      unfold wdX at hw
      rw [hw]
    have g1 := wd3_fwd hw
    have g2 := wdP_le (T := T) hp
    have g3 := sk_ge (T := T) hp
    rw [wf] at R2
    rw [hw] at R2 F2 hI2 s0 s1 s2 hR2
    have R2' : RS (wI (wI σ1 2250 3 (ii (s.2.1 + 1))) 2333 s.2.1 (oi (some x))) T n (wdP T n s.1) none (sk T n s.1) := R2
    generalize wI (wI σ1 2250 3 (ii (s.2.1 + 1))) 2333 s.2.1 (oi (some x)) = σ2 at *
    obtain ⟨q0, q1, q2⟩ := hR2
    obtain ⟨i0, i1, i2, i3, i4, i5⟩ := hI2
    -- one number
    have one : ∀ y, y = x → (y = 0 ∨ y = 1 ∨ y = 3) → ∃ σ', runF (callF (d + 21)) (d + 21) m_Work_readStep (84, [some (.ref 2250), some (.ref 71), some (.ref (2 + 64 * h)), some (.int (ii o)), some (.int (oi (some y))), some (.int (ii s.2.1))], [], σ2) = some (.inl none, σ') ∧ WQ σ' T n (wk1 T n y (hm H) (wdP T n s.1, s.2.1, s.2.2)) ∧ Fk σ σ' := by
      intro y hy h013
      obtain ⟨σ3, e3, R3, F3⟩ := s_readNumber (d := d + 18) R2' (a := 0) (hi := hm H) (by omega) (by omega)
      have R4 := R3.w (a := 2397) (j := s.2.1) (v := ii (min 100000 (nmV T n (wdP T n s.1)))) (by omega) (by omega)
      have F4 : Fk σ (wI σ3 2397 s.2.1 (ii (min 100000 (nmV T n (wdP T n s.1))))) := (F2.tr (S1_SK F3)).w (by unfold SK2; omega)
      refine ⟨_, ?_, ?_, F4⟩
      · simp (disch := first | omega | exact b2_01 _ | exact ii0_01 | exact ii1_01 | (simp (disch := omega) only [q0, q1, q2, dr_some, Option.isSome_some, gR_wI, Nat.add_mul_mod_self_left, Nat.reduceMod, ak20, ak21, ak22, ak23, ak24, ak25, ak26, ak27, ak28, ak29, ak30, ak31, ak32, ak33, ak34, ak35, ak36, an20, an21, an22, an23, an24, an25, an26, an27, an28, an29, an30, an31, an32, an33, an34, an35, an36, an37, an38, ne_eq, inR_ii, decide_eq_true_eq, lit_ii, of_ii, ii_eq, ii_lt, ii_le]; first | done | omega)) only [q0, q1, q2, b_Work_readStep_84, b_Work_readStep_101, b_Work_readStep_104, b_Work_readStep_205, i1, pr_sub, e3, p_2397, dr_some, Option.isSome_some, gR_wI, Nat.add_mul_mod_self_left, Nat.reduceMod, ak20, ak21, ak22, ak23, ak24, ak25, ak26, ak27, ak28, ak29, ak30, ak31, ak32, ak33, ak34, ak35, ak36, an20, an21, an22, an23, an24, an25, an26, an27, an28, an29, an30, an31, an32, an33, an34, an35, an36, an37, an38, ↓reduceIte, bk_int, bk_void, bk_long, bkN_int, bkN_void, bkN_long, Nat.reduceAdd, Nat.reduceMul, Nat.reduceSub, Nat.reduceLT, Nat.reduceLeDiff, if_true, if_false, not_true_eq_false, not_false_eq_true, Bool.true_eq_false, Bool.false_eq_true, b2_eq0, Nat.add_zero, Nat.zero_add, Nat.not_lt_zero, Nat.zero_le, ite_true, ite_false, decide_true, decide_false, lit_ii, of_ii, le_T, le_F, lt_T, lt_F, eq_T, eq_F, ii_add, ii_mul, ii_nat, ii_le, ii_lt, ii_eq, inR_ii, ii_add0]
      · unfold wk1
        simp only
        cases hv : numW T n 0 (hm H) (wdP T n s.1) with
        | inr F =>
          rw [(numW_f g2.2 hv).2] at R4
          exact ⟨_, _, R4⟩
        | inl z =>
          obtain ⟨p1, v⟩ := z
          obtain ⟨a1, a2, a3, a4, a5, a6, a7⟩ := numW_fwd g2.2 hv
          rw [a7, ← a5] at R4
          have mn : min 100000 (nmV T n (wdP T n s.1)) = v := by omega
          rw [mn] at R4 ⊢
          refine ⟨⟨_, R4⟩, ⟨(F3.R _ _).trans q0, (F3.R _ _).trans q1, (F3.R _ _).trans q2⟩, ?_, fun i hi => ?_⟩
          · show gI (wI σ3 2397 s.2.1 (ii v)) 2250 3 = ii (s.2.1 + 1)
            rw [gI_ne (by omega), F3.I (by unfold S1; omega), s0]
          · have hi' : i < s.2.1 + 1 := hi
            show wkR (wI σ3 2397 s.2.1 (ii v)) i (upS s.2.2 s.2.1 (y, v, 0) i)
            by_cases q : i = s.2.1
            · rw [q, upS_at]
              refine ⟨?_, fun _ _ => gI_at, fun z => by simp only at z; omega⟩
              rw [gI_ne (by omega), F3.I (by unfold S1; omega), s1, hy]
              rfl
            · rw [upS_ne q]
              obtain ⟨x', y', z'⟩ := s2 i (by omega)
              exact ⟨by rw [gI_ne (by omega), F3.I (by unfold S1; omega)]; exact x', fun b c => by rw [gI_nj q, F3.I (by unfold S1; omega)]; exact y' b c, fun b => by rw [gI_ne (by omega), F3.I (by unfold S1; omega)]; exact z' b⟩
    -- two numbers: the second below hj, which stands in the house at place j
    have two : ∀ y hj pc, y = x → (y = 2 ∨ y = 5) → hj ≤ 12 → (pc = 107 ∧ hj = hc H ∨ pc = 150 ∧ hj = hf H) → ∃ σ', runF (callF (d + 21)) (d + 21) m_Work_readStep (pc, [some (.ref 2250), some (.ref 71), some (.ref (2 + 64 * h)), some (.int (ii o)), some (.int (oi (some y))), some (.int (ii s.2.1))], [], σ2) = some (.inl none, σ') ∧ WQ σ' T n (wk2 T n y (hm H) hj (wdP T n s.1, s.2.1, s.2.2)) ∧ Fk σ σ' := by
      intro y hj pc hy h25 hj12 hpc
      obtain ⟨σ3, e3, R3, F3⟩ := s_readNumber (d := d + 18) R2' (a := 0) (hi := hm H) (by omega) (by omega)
      have R4 := R3.w (a := 2397) (j := s.2.1) (v := ii (min 100000 (nmV T n (wdP T n s.1)))) (by omega) (by omega)
      have F4 : Fk σ (wI σ3 2397 s.2.1 (ii (min 100000 (nmV T n (wdP T n s.1))))) := (F2.tr (S1_SK F3)).w (by unfold SK2; omega)
      have F24 : Fk σ2 (wI σ3 2397 s.2.1 (ii (min 100000 (nmV T n (wdP T n s.1))))) := (S1_SK F3).w (by unfold SK2; omega)
      obtain ⟨σ5, e5, R5, F5⟩ := s_readNumber (d := d + 18) R4 (a := 0) (hi := hj) (by omega) (by omega)
      have R6 := R5.w (a := 2461) (j := s.2.1) (v := ii (min 100000 (nmV T n (nmP T n (wdP T n s.1))))) (by omega) (by omega)
      have F6 : Fk σ (wI σ5 2461 s.2.1 (ii (min 100000 (nmV T n (nmP T n (wdP T n s.1)))))) := (F4.tr (S1_SK F5)).w (by unfold SK2; omega)
      have j0 : gI (wI σ3 2397 s.2.1 (ii (min 100000 (nmV T n (wdP T n s.1))))) (2 + 64 * h) 0 = ii (hf H) := (F24.I SK_h).trans i0
      have j2 : gI (wI σ3 2397 s.2.1 (ii (min 100000 (nmV T n (wdP T n s.1))))) (2 + 64 * h) 2 = ii (hc H) := (F24.I SK_h).trans i2
      have f3 := F3.R
      refine ⟨_, ?_, ?_, F6⟩
      · rcases hpc with ⟨z1, z2⟩ | ⟨z1, z2⟩
        · rw [z1]
          rw [z2] at e5
          simp (disch := first | omega | exact b2_01 _ | exact ii0_01 | exact ii1_01 | (simp (disch := omega) only [q0, q1, q2, f3, dr_some, Option.isSome_some, gR_wI, Nat.add_mul_mod_self_left, Nat.reduceMod, ak20, ak21, ak22, ak23, ak24, ak25, ak26, ak27, ak28, ak29, ak30, ak31, ak32, ak33, ak34, ak35, ak36, an20, an21, an22, an23, an24, an25, an26, an27, an28, an29, an30, an31, an32, an33, an34, an35, an36, an37, an38, ne_eq, inR_ii, decide_eq_true_eq, lit_ii, of_ii, ii_eq, ii_lt, ii_le]; first | done | omega)) only [q0, q1, q2, f3, b_Work_readStep_107, b_Work_readStep_124, b_Work_readStep_127, b_Work_readStep_144, b_Work_readStep_147, b_Work_readStep_205, i1, pr_sub, e3, p_2397, j2, e5, p_2461, dr_some, Option.isSome_some, gR_wI, Nat.add_mul_mod_self_left, Nat.reduceMod, ak20, ak21, ak22, ak23, ak24, ak25, ak26, ak27, ak28, ak29, ak30, ak31, ak32, ak33, ak34, ak35, ak36, an20, an21, an22, an23, an24, an25, an26, an27, an28, an29, an30, an31, an32, an33, an34, an35, an36, an37, an38, ↓reduceIte, bk_int, bk_void, bk_long, bkN_int, bkN_void, bkN_long, Nat.reduceAdd, Nat.reduceMul, Nat.reduceSub, Nat.reduceLT, Nat.reduceLeDiff, if_true, if_false, not_true_eq_false, not_false_eq_true, Bool.true_eq_false, Bool.false_eq_true, b2_eq0, Nat.add_zero, Nat.zero_add, Nat.not_lt_zero, Nat.zero_le, ite_true, ite_false, decide_true, decide_false, lit_ii, of_ii, le_T, le_F, lt_T, lt_F, eq_T, eq_F, ii_add, ii_mul, ii_nat, ii_le, ii_lt, ii_eq, inR_ii, ii_add0]
        · rw [z1]
          rw [z2] at e5
          simp (disch := first | omega | exact b2_01 _ | exact ii0_01 | exact ii1_01 | (simp (disch := omega) only [q0, q1, q2, f3, dr_some, Option.isSome_some, gR_wI, Nat.add_mul_mod_self_left, Nat.reduceMod, ak20, ak21, ak22, ak23, ak24, ak25, ak26, ak27, ak28, ak29, ak30, ak31, ak32, ak33, ak34, ak35, ak36, an20, an21, an22, an23, an24, an25, an26, an27, an28, an29, an30, an31, an32, an33, an34, an35, an36, an37, an38, ne_eq, inR_ii, decide_eq_true_eq, lit_ii, of_ii, ii_eq, ii_lt, ii_le]; first | done | omega)) only [q0, q1, q2, f3, b_Work_readStep_150, b_Work_readStep_167, b_Work_readStep_170, b_Work_readStep_187, b_Work_readStep_190, b_Work_readStep_205, i1, pr_sub, e3, p_2397, j0, e5, p_2461, dr_some, Option.isSome_some, gR_wI, Nat.add_mul_mod_self_left, Nat.reduceMod, ak20, ak21, ak22, ak23, ak24, ak25, ak26, ak27, ak28, ak29, ak30, ak31, ak32, ak33, ak34, ak35, ak36, an20, an21, an22, an23, an24, an25, an26, an27, an28, an29, an30, an31, an32, an33, an34, an35, an36, an37, an38, ↓reduceIte, bk_int, bk_void, bk_long, bkN_int, bkN_void, bkN_long, Nat.reduceAdd, Nat.reduceMul, Nat.reduceSub, Nat.reduceLT, Nat.reduceLeDiff, if_true, if_false, not_true_eq_false, not_false_eq_true, Bool.true_eq_false, Bool.false_eq_true, b2_eq0, Nat.add_zero, Nat.zero_add, Nat.not_lt_zero, Nat.zero_le, ite_true, ite_false, decide_true, decide_false, lit_ii, of_ii, le_T, le_F, lt_T, lt_F, eq_T, eq_F, ii_add, ii_mul, ii_nat, ii_le, ii_lt, ii_eq, inR_ii, ii_add0]
      · unfold wk2
        simp only
        cases hv : numW T n 0 (hm H) (wdP T n s.1) with
        | inr F =>
          rw [(numW_f g2.2 hv).2] at R6
          exact ⟨_, _, R6⟩
        | inl z =>
          obtain ⟨p1, v⟩ := z
          obtain ⟨a1, a2, a3, a4, a5, a6, a7⟩ := numW_fwd g2.2 hv
          rw [a7, ← a5] at R6
          have mn : min 100000 (nmV T n (wdP T n s.1)) = v := by omega
          rw [mn] at F5
          rw [← a5]
          simp only
          cases hv' : numW T n 0 hj p1 with
          | inr F =>
            rw [(numW_f a2 hv').2] at R6
            exact ⟨_, _, R6⟩
          | inl z' =>
            obtain ⟨p2, v'⟩ := z'
            obtain ⟨b1, b2, b3, b4, b5, b6, b7⟩ := numW_fwd a2 hv'
            rw [b7, ← b5] at R6
            have mn' : min 100000 (nmV T n p1) = v' := by omega
            rw [mn'] at R6 ⊢
            refine ⟨⟨_, R6⟩, ⟨(F5.R _ _).trans ((F3.R _ _).trans q0), (F5.R _ _).trans ((F3.R _ _).trans q1), (F5.R _ _).trans ((F3.R _ _).trans q2)⟩, ?_, fun i hi => ?_⟩
            · show gI (wI σ5 2461 s.2.1 (ii v')) 2250 3 = ii (s.2.1 + 1)
              rw [gI_ne (by omega), F5.I (by unfold S1; omega), gI_ne (by omega), F3.I (by unfold S1; omega), s0]
            · have hi' : i < s.2.1 + 1 := hi
              show wkR (wI σ5 2461 s.2.1 (ii v')) i (upS s.2.2 s.2.1 (y, v, v') i)
              by_cases q : i = s.2.1
              · rw [q, upS_at]
                refine ⟨?_, fun _ _ => ?_, fun _ => gI_at⟩
                · rw [gI_ne (by omega), F5.I (by unfold S1; omega), gI_ne (by omega), F3.I (by unfold S1; omega), s1, hy]
                  rfl
                · rw [gI_ne (by omega), F5.I (by unfold S1; omega), gI_at]
              · rw [upS_ne q]
                obtain ⟨x', y', z'⟩ := s2 i (by omega)
                exact ⟨by rw [gI_ne (by omega), F5.I (by unfold S1; omega), gI_ne (by omega), F3.I (by unfold S1; omega)]; exact x', fun b c => by rw [gI_ne (by omega), F5.I (by unfold S1; omega), gI_nj q, F3.I (by unfold S1; omega)]; exact y' b c, fun b => by rw [gI_nj q, F5.I (by unfold S1; omega), gI_ne (by omega), F3.I (by unfold S1; omega)]; exact z' b⟩
    -- nothing behind the word
    have non : ∀ y, y = x → (y = 4 ∨ y = 6) → WQ σ2 T n (.inl (wdP T n s.1, s.2.1 + 1, upS s.2.2 s.2.1 (y, 0, 0))) := by
      intro y hy h46
      refine ⟨⟨_, R2'⟩, ⟨q0, q1, q2⟩, s0, fun i hi => ?_⟩
      have hi' : i < s.2.1 + 1 := hi
      show wkR σ2 i (upS s.2.2 s.2.1 (y, 0, 0) i)
      by_cases q : i = s.2.1
      · rw [q, upS_at]
        refine ⟨by rw [s1, hy]; rfl, fun a b => by simp only at a b; omega, fun z => by simp only at z; omega⟩
      · rw [upS_ne q]
        exact s2 i (by omega)
    simp only
    have hx8 : x = 0 ∨ x = 1 ∨ x = 2 ∨ x = 3 ∨ x = 4 ∨ x = 5 ∨ x = 6 ∨ x = 7 := by omega
    rcases hx8 with hx | hx | hx | hx | hx | hx | hx | hx
    · obtain ⟨σ', w1, w2, w3⟩ := one 0 hx.symm (by omega)
      subst hx
      refine ⟨σ', ?_, w2, w3⟩
      rw [← w1, b_Work_readStep_35, if_pos (by decide)]
    · obtain ⟨σ', w1, w2, w3⟩ := one 1 hx.symm (by omega)
      subst hx
      refine ⟨σ', ?_, w2, w3⟩
      rw [← w1, b_Work_readStep_35, if_neg (by decide), if_pos (by decide)]
    · obtain ⟨σ', w1, w2, w3⟩ := two 2 (hc H) 107 hx.symm (by omega) (by omega) (Or.inl ⟨rfl, rfl⟩)
      subst hx
      refine ⟨σ', ?_, w2, w3⟩
      rw [← w1, b_Work_readStep_35, if_neg (by decide), if_neg (by decide), if_pos (by decide)]
    · obtain ⟨σ', w1, w2, w3⟩ := one 3 hx.symm (by omega)
      subst hx
      refine ⟨σ', ?_, w2, w3⟩
      rw [← w1, b_Work_readStep_35, if_neg (by decide), if_neg (by decide), if_neg (by decide), if_pos (by decide)]
    · have w2 := non 4 hx.symm (by omega)
      subst hx
      refine ⟨σ2, ?_, w2, F2⟩
      rw [b_Work_readStep_35, if_neg (by decide), if_neg (by decide), if_neg (by decide), if_neg (by decide), if_pos (by decide), b_Work_readStep_205]
    · obtain ⟨σ', w1, w2, w3⟩ := two 5 (hf H) 150 hx.symm (by omega) (by omega) (Or.inr ⟨rfl, rfl⟩)
      subst hx
      refine ⟨σ', ?_, w2, w3⟩
      rw [← w1, b_Work_readStep_35, if_neg (by decide), if_neg (by decide), if_neg (by decide), if_neg (by decide), if_neg (by decide), if_pos (by decide)]
    · have w2 := non 6 hx.symm (by omega)
      subst hx
      refine ⟨σ2, ?_, w2, F2⟩
      rw [b_Work_readStep_35, if_neg (by decide), if_neg (by decide), if_neg (by decide), if_neg (by decide), if_neg (by decide), if_neg (by decide), if_pos (by decide), b_Work_readStep_205]
    · subst hx
      rw [if_pos rfl]
      have st : runF (callF (d + 21)) (d + 21) m_Work_readStep (35, [some (.ref 2250), some (.ref 71), some (.ref (2 + 64 * h)), some (.int (ii o)), some (.int (oi (some 7))), some (.int (ii s.2.1))], [], σ2) = runF (callF (d + 21)) (d + 21) m_Work_readStep (193, [some (.ref 2250), some (.ref 71), some (.ref (2 + 64 * h)), some (.int (ii o)), some (.int (oi (some 7))), some (.int (ii s.2.1))], [], σ2) := by
        rw [b_Work_readStep_35, if_neg (by decide), if_neg (by decide), if_neg (by decide), if_neg (by decide), if_neg (by decide), if_neg (by decide), if_neg (by decide), if_pos (by decide)]
      rw [st]
      by_cases hr : r = 0
      · rw [if_pos hr]
        have ho : o = 6 := by omega
        subst ho
        have u5 := R2'.2.2.2.2.2.1
        have u6 := R2'.2.2.2.2.2.2.2.2.1
        obtain ⟨σ3, e3, R3, F3⟩ := s_blame (d := d + 19) R2' (k := 3) (q := sk T n s.1) (by omega) u6
        have e4 : callF (d + 21) m_Work_readAgain [.ref 2250, .ref 71, .ref (2 + 64 * h), .int (ii 6), .int (ii s.2.1)] σ2 = some (.inl none, σ3) := by
          simp (disch := first | omega | exact b2_01 _ | exact ii0_01 | exact ii1_01 | (simp (disch := omega) only [u5, dr_some, Option.isSome_some, gR_wI, Nat.add_mul_mod_self_left, Nat.reduceMod, ak20, ak21, ak22, ak23, ak24, ak25, ak26, ak27, ak28, ak29, ak30, ak31, ak32, ak33, ak34, ak35, ak36, an20, an21, an22, an23, an24, an25, an26, an27, an28, an29, an30, an31, an32, an33, an34, an35, an36, an37, an38, ne_eq, inR_ii, decide_eq_true_eq, lit_ii, of_ii, ii_eq, ii_lt, ii_le]; first | done | omega)) only [u5, e_Work_readAgain, b_Work_readAgain_0, b_Work_readAgain_6, b_Work_readAgain_15, b_Work_readAgain_16, b_Work_readAgain_29, b_Work_readAgain_32, b_Work_readAgain_38, b_Work_readAgain_47, b_Work_readAgain_53, b_Work_readAgain_66, e3, dr_some, Option.isSome_some, gR_wI, Nat.add_mul_mod_self_left, Nat.reduceMod, ak20, ak21, ak22, ak23, ak24, ak25, ak26, ak27, ak28, ak29, ak30, ak31, ak32, ak33, ak34, ak35, ak36, an20, an21, an22, an23, an24, an25, an26, an27, an28, an29, an30, an31, an32, an33, an34, an35, an36, an37, an38, ↓reduceIte, bk_int, bk_void, bk_long, bkN_int, bkN_void, bkN_long, Nat.reduceAdd, Nat.reduceMul, Nat.reduceSub, Nat.reduceLT, Nat.reduceLeDiff, if_true, if_false, not_true_eq_false, not_false_eq_true, Bool.true_eq_false, Bool.false_eq_true, b2_eq0, Nat.add_zero, Nat.zero_add, Nat.not_lt_zero, Nat.zero_le, ite_true, ite_false, decide_true, decide_false, lit_ii, of_ii, le_T, le_F, lt_T, lt_F, eq_T, eq_F, ii_add, ii_mul, ii_nat, ii_le, ii_lt, ii_eq, inR_ii, ii_add0]
        refine ⟨σ3, ?_, ⟨_, _, R3⟩, F2.tr (S1_SK F3)⟩
        simp (disch := first | omega | exact b2_01 _ | exact ii0_01 | exact ii1_01 | (simp (disch := omega) only [lit_ii, dr_some, Option.isSome_some, gR_wI, Nat.add_mul_mod_self_left, Nat.reduceMod, ak20, ak21, ak22, ak23, ak24, ak25, ak26, ak27, ak28, ak29, ak30, ak31, ak32, ak33, ak34, ak35, ak36, an20, an21, an22, an23, an24, an25, an26, an27, an28, an29, an30, an31, an32, an33, an34, an35, an36, an37, an38, ne_eq, inR_ii, decide_eq_true_eq, lit_ii, of_ii, ii_eq, ii_lt, ii_le]; first | done | omega)) only [lit_ii, b_Work_readStep_193, b_Work_readStep_202, b_Work_readStep_205, e4, dr_some, Option.isSome_some, gR_wI, Nat.add_mul_mod_self_left, Nat.reduceMod, ak20, ak21, ak22, ak23, ak24, ak25, ak26, ak27, ak28, ak29, ak30, ak31, ak32, ak33, ak34, ak35, ak36, an20, an21, an22, an23, an24, an25, an26, an27, an28, an29, an30, an31, an32, an33, an34, an35, an36, an37, an38, ↓reduceIte, bk_int, bk_void, bk_long, bkN_int, bkN_void, bkN_long, Nat.reduceAdd, Nat.reduceMul, Nat.reduceSub, Nat.reduceLT, Nat.reduceLeDiff, if_true, if_false, not_true_eq_false, not_false_eq_true, Bool.true_eq_false, Bool.false_eq_true, b2_eq0, Nat.add_zero, Nat.zero_add, Nat.not_lt_zero, Nat.zero_le, ite_true, ite_false, decide_true, decide_false, lit_ii, of_ii, le_T, le_F, lt_T, lt_F, eq_T, eq_F, ii_add, ii_mul, ii_nat, ii_le, ii_lt, ii_eq, inR_ii, ii_add0]
      · rw [if_neg hr]
        obtain ⟨hL1, hL2, hL3⟩ := hL.resolve_left hr
        obtain ⟨σ3, e3, Q3, F3⟩ := cl_again hL1 hL2 hL3 he (by omega) hn R2' s2 ⟨q0, q1, q2⟩ s0 (by rw [s1]; rfl) ⟨i0, i1, i2, i3, i4, i5⟩ (by omega)
        refine ⟨σ3, ?_, Q3, F2.tr F3⟩
        simp (disch := first | omega | exact b2_01 _ | exact ii0_01 | exact ii1_01 | (simp (disch := omega) only [lit_ii, dr_some, Option.isSome_some, gR_wI, Nat.add_mul_mod_self_left, Nat.reduceMod, ak20, ak21, ak22, ak23, ak24, ak25, ak26, ak27, ak28, ak29, ak30, ak31, ak32, ak33, ak34, ak35, ak36, an20, an21, an22, an23, an24, an25, an26, an27, an28, an29, an30, an31, an32, an33, an34, an35, an36, an37, an38, ne_eq, inR_ii, decide_eq_true_eq, lit_ii, of_ii, ii_eq, ii_lt, ii_le]; first | done | omega)) only [lit_ii, b_Work_readStep_193, b_Work_readStep_202, b_Work_readStep_205, e3, dr_some, Option.isSome_some, gR_wI, Nat.add_mul_mod_self_left, Nat.reduceMod, ak20, ak21, ak22, ak23, ak24, ak25, ak26, ak27, ak28, ak29, ak30, ak31, ak32, ak33, ak34, ak35, ak36, an20, an21, an22, an23, an24, an25, an26, an27, an28, an29, an30, an31, an32, an33, an34, an35, an36, an37, an38, ↓reduceIte, bk_int, bk_void, bk_long, bkN_int, bkN_void, bkN_long, Nat.reduceAdd, Nat.reduceMul, Nat.reduceSub, Nat.reduceLT, Nat.reduceLeDiff, if_true, if_false, not_true_eq_false, not_false_eq_true, Bool.true_eq_false, Bool.false_eq_true, b2_eq0, Nat.add_zero, Nat.zero_add, Nat.not_lt_zero, Nat.zero_le, ite_true, ite_false, decide_true, decide_false, lit_ii, of_ii, le_T, le_F, lt_T, lt_F, eq_T, eq_F, ii_add, ii_mul, ii_nat, ii_le, ii_lt, ii_eq, inR_ii, ii_add0]
theorem cl_steps {T : Nat → Nat} {n h o e : Nat} {H : HH} {St : WkT → PR WkT} {top : Bool} (hS : SCn T n h H m_Work_readStep o e St) (hF : ∀ s : WkT, s.1 ≤ n → wfw n 1 s (St s)) (ho : (top = true ∧ o = 0) ∨ (top = false ∧ 1 ≤ o ∧ o ≤ 6)) (he : 20 ≤ e) (hn : n ≤ 150) : SCn T n h H m_Work_readSteps o (e + 1) (wkL T n St top (n + 1)) := by
  intro σ s u R C hI hk
  obtain ⟨d, rfl⟩ : ∃ d, e = d + 20 := ⟨e - 20, by omega⟩
  have hp := R.2.2.2.2.2.2.1
  have e2 : callF (d + 20 + 1) m_Work_readSteps [.ref 2250, .ref 71, .ref (2 + 64 * h), .int (ii o)] σ = runF (callF (d + 20)) (d + 20) m_Work_readSteps (15, [some (.ref 2250), some (.ref 71), some (.ref (2 + 64 * h)), some (.int (ii o)), some (.int (if top then -ii 1 else ii 93)), some (.int (ii 0))], [], σ) := by
    rcases ho with ⟨h1, h2⟩ | ⟨h1, h2, h3⟩
    · subst h1; subst h2
      simp (disch := first | omega | exact b2_01 _ | exact ii0_01 | exact ii1_01 | (simp (disch := omega) only [lit_ii, dr_some, Option.isSome_some, gR_wI, Nat.add_mul_mod_self_left, Nat.reduceMod, ak20, ak21, ak22, ak23, ak24, ak25, ak26, ak27, ak28, ak29, ak30, ak31, ak32, ak33, ak34, ak35, ak36, an20, an21, an22, an23, an24, an25, an26, an27, an28, an29, an30, an31, an32, an33, an34, an35, an36, an37, an38, ne_eq, inR_ii, decide_eq_true_eq, lit_ii, of_ii, ii_eq, ii_lt, ii_le]; first | done | omega)) only [lit_ii, e_Work_readSteps, b_Work_readSteps_0, b_Work_readSteps_4, b_Work_readSteps_8, b_Work_readSteps_10, b_Work_readSteps_23, b_Work_readSteps_27, b_Work_readSteps_30, b_Work_readSteps_34, b_Work_readSteps_39, b_Work_readSteps_40, b_Work_readSteps_47, b_Work_readSteps_53, b_Work_readSteps_59, dr_some, Option.isSome_some, gR_wI, Nat.add_mul_mod_self_left, Nat.reduceMod, ak20, ak21, ak22, ak23, ak24, ak25, ak26, ak27, ak28, ak29, ak30, ak31, ak32, ak33, ak34, ak35, ak36, an20, an21, an22, an23, an24, an25, an26, an27, an28, an29, an30, an31, an32, an33, an34, an35, an36, an37, an38, ↓reduceIte, bk_int, bk_void, bk_long, bkN_int, bkN_void, bkN_long, Nat.reduceAdd, Nat.reduceMul, Nat.reduceSub, Nat.reduceLT, Nat.reduceLeDiff, if_true, if_false, not_true_eq_false, not_false_eq_true, Bool.true_eq_false, Bool.false_eq_true, b2_eq0, Nat.add_zero, Nat.zero_add, Nat.not_lt_zero, Nat.zero_le, ite_true, ite_false, decide_true, decide_false, lit_ii, of_ii, le_T, le_F, lt_T, lt_F, eq_T, eq_F, ii_add, ii_mul, ii_nat, ii_le, ii_lt, ii_eq, inR_ii, ii_add0]
    · subst h1
      simp (disch := first | omega | exact b2_01 _ | exact ii0_01 | exact ii1_01 | (simp (disch := omega) only [lit_ii, dr_some, Option.isSome_some, gR_wI, Nat.add_mul_mod_self_left, Nat.reduceMod, ak20, ak21, ak22, ak23, ak24, ak25, ak26, ak27, ak28, ak29, ak30, ak31, ak32, ak33, ak34, ak35, ak36, an20, an21, an22, an23, an24, an25, an26, an27, an28, an29, an30, an31, an32, an33, an34, an35, an36, an37, an38, ne_eq, inR_ii, decide_eq_true_eq, lit_ii, of_ii, ii_eq, ii_lt, ii_le]; first | done | omega)) only [lit_ii, e_Work_readSteps, b_Work_readSteps_0, b_Work_readSteps_4, b_Work_readSteps_8, b_Work_readSteps_10, b_Work_readSteps_23, b_Work_readSteps_27, b_Work_readSteps_30, b_Work_readSteps_34, b_Work_readSteps_39, b_Work_readSteps_40, b_Work_readSteps_47, b_Work_readSteps_53, b_Work_readSteps_59, dr_some, Option.isSome_some, gR_wI, Nat.add_mul_mod_self_left, Nat.reduceMod, ak20, ak21, ak22, ak23, ak24, ak25, ak26, ak27, ak28, ak29, ak30, ak31, ak32, ak33, ak34, ak35, ak36, an20, an21, an22, an23, an24, an25, an26, an27, an28, an29, an30, an31, an32, an33, an34, an35, an36, an37, an38, ↓reduceIte, bk_int, bk_void, bk_long, bkN_int, bkN_void, bkN_long, Nat.reduceAdd, Nat.reduceMul, Nat.reduceSub, Nat.reduceLT, Nat.reduceLeDiff, if_true, if_false, not_true_eq_false, not_false_eq_true, Bool.true_eq_false, Bool.false_eq_true, b2_eq0, Nat.add_zero, Nat.zero_add, Nat.not_lt_zero, Nat.zero_le, ite_true, ite_false, decide_true, decide_false, lit_ii, of_ii, le_T, le_F, lt_T, lt_F, eq_T, eq_F, ii_add, ii_mul, ii_nat, ii_le, ii_lt, ii_eq, inR_ii, ii_add0]
  rw [e2]
  refine loop_w (Q := fun r => ∃ σ', r = some (.inl none, σ') ∧ WQ σ' T n (wkL T n St top (n + 1) s) ∧ Fk σ σ') (fun f c => ∃ σ' i s' u', c = (15, [some (.ref 2250), some (.ref 71), some (.ref (2 + 64 * h)), some (.int (ii o)), some (.int (if top then -ii 1 else ii 93)), some (.int (ii i))], [], σ') ∧ RS σ' T n s'.1 none u' ∧ WC σ' s'.2.1 s'.2.2 ∧ 3 * s'.2.1 ≤ s'.1 ∧ 3 * i ≤ s'.1 ∧ n - s'.1 < f ∧ wkL T n St top f s' = wkL T n St top (n + 1) s ∧ Fk σ σ') ?_ (n + 1) _ ⟨σ, 0, s, u, rfl, R, C, hk, by omega, by omega, rfl, Fk.rf⟩
  rintro f c ⟨σ', i, s', u', rfl, R', C', k1, k2, k3, hq, F'⟩
  rw [← hq]
  cases f with
  | zero => omega
  | succ f =>
    have hp' := R'.2.2.2.2.2.2.1
    have g0 := fun d => s_failed (d := d) R'
    obtain ⟨σ2, e3, R2, F2⟩ := s_peek (d := d + 18) R'
    have q1 := sk_le (T := T) hp'
    have q2 := sk_ge (T := T) hp'
    have C2 := C'.fs F2 (by unfold S1; omega) (by unfold S1; omega) (by unfold S1; omega) (by unfold S1; omega)
    have F02 := F'.tr (S1_SK F2)
    unfold bt at e3
    rw [wkL]
    have ei : i < 150 := by omega
    cases hend : wkE T n top (sk T n s'.1) with
    | true =>
      left
      rw [if_pos rfl]
      refine ⟨σ2, ?_, ⟨⟨u', R2⟩, C2⟩, F02⟩
      unfold wkE at hend
      cases top with
      | true =>
        rw [if_pos rfl] at hend
        have := of_decide_eq_true hend
        rw [if_neg (by omega)] at e3
        simp (disch := first | omega | exact b2_01 _ | exact ii0_01 | exact ii1_01 | (simp (disch := omega) only [lit_ii, dr_some, Option.isSome_some, gR_wI, Nat.add_mul_mod_self_left, Nat.reduceMod, ak20, ak21, ak22, ak23, ak24, ak25, ak26, ak27, ak28, ak29, ak30, ak31, ak32, ak33, ak34, ak35, ak36, an20, an21, an22, an23, an24, an25, an26, an27, an28, an29, an30, an31, an32, an33, an34, an35, an36, an37, an38, ne_eq, inR_ii, decide_eq_true_eq, lit_ii, of_ii, ii_eq, ii_lt, ii_le]; first | done | omega)) only [lit_ii, b_Work_readSteps_15, b_Work_readSteps_23, b_Work_readSteps_27, b_Work_readSteps_30, b_Work_readSteps_34, b_Work_readSteps_39, g0, e3, Option.isSome_none, ng_ng_eq, dr_some, Option.isSome_some, gR_wI, Nat.add_mul_mod_self_left, Nat.reduceMod, ak20, ak21, ak22, ak23, ak24, ak25, ak26, ak27, ak28, ak29, ak30, ak31, ak32, ak33, ak34, ak35, ak36, an20, an21, an22, an23, an24, an25, an26, an27, an28, an29, an30, an31, an32, an33, an34, an35, an36, an37, an38, ↓reduceIte, bk_int, bk_void, bk_long, bkN_int, bkN_void, bkN_long, Nat.reduceAdd, Nat.reduceMul, Nat.reduceSub, Nat.reduceLT, Nat.reduceLeDiff, if_true, if_false, not_true_eq_false, not_false_eq_true, Bool.true_eq_false, Bool.false_eq_true, b2_eq0, Nat.add_zero, Nat.zero_add, Nat.not_lt_zero, Nat.zero_le, ite_true, ite_false, decide_true, decide_false, lit_ii, of_ii, le_T, le_F, lt_T, lt_F, eq_T, eq_F, ii_add, ii_mul, ii_nat, ii_le, ii_lt, ii_eq, inR_ii, ii_add0]
      | false =>
        rw [if_neg (by decide)] at hend
        have := of_decide_eq_true hend
        rw [if_pos this.1, this.2] at e3
        simp (disch := first | omega | exact b2_01 _ | exact ii0_01 | exact ii1_01 | (simp (disch := omega) only [lit_ii, dr_some, Option.isSome_some, gR_wI, Nat.add_mul_mod_self_left, Nat.reduceMod, ak20, ak21, ak22, ak23, ak24, ak25, ak26, ak27, ak28, ak29, ak30, ak31, ak32, ak33, ak34, ak35, ak36, an20, an21, an22, an23, an24, an25, an26, an27, an28, an29, an30, an31, an32, an33, an34, an35, an36, an37, an38, ne_eq, inR_ii, decide_eq_true_eq, lit_ii, of_ii, ii_eq, ii_lt, ii_le]; first | done | omega)) only [lit_ii, b_Work_readSteps_15, b_Work_readSteps_23, b_Work_readSteps_27, b_Work_readSteps_30, b_Work_readSteps_34, b_Work_readSteps_39, g0, e3, Option.isSome_none, dr_some, Option.isSome_some, gR_wI, Nat.add_mul_mod_self_left, Nat.reduceMod, ak20, ak21, ak22, ak23, ak24, ak25, ak26, ak27, ak28, ak29, ak30, ak31, ak32, ak33, ak34, ak35, ak36, an20, an21, an22, an23, an24, an25, an26, an27, an28, an29, an30, an31, an32, an33, an34, an35, an36, an37, an38, ↓reduceIte, bk_int, bk_void, bk_long, bkN_int, bkN_void, bkN_long, Nat.reduceAdd, Nat.reduceMul, Nat.reduceSub, Nat.reduceLT, Nat.reduceLeDiff, if_true, if_false, not_true_eq_false, not_false_eq_true, Bool.true_eq_false, Bool.false_eq_true, b2_eq0, Nat.add_zero, Nat.zero_add, Nat.not_lt_zero, Nat.zero_le, ite_true, ite_false, decide_true, decide_false, lit_ii, of_ii, le_T, le_F, lt_T, lt_F, eq_T, eq_F, ii_add, ii_mul, ii_nat, ii_le, ii_lt, ii_eq, inR_ii, ii_add0]
    | false =>
      rw [if_neg (c := false = true) (by decide)]
      have hI2 := hI.fs F02.1 SK_h
      obtain ⟨σ3, e4, Q3, F3⟩ := hS σ2 (sk T n s'.1, s'.2.1, s'.2.2) u' R2 C2 hI2 (by show 3 * s'.2.1 ≤ sk T n s'.1; omega)
      have F03 := F02.tr F3
      have fw := hF (sk T n s'.1, s'.2.1, s'.2.2) q1
      have st : runF (callF (d + 20)) (d + 20) m_Work_readSteps (15, [some (.ref 2250), some (.ref 71), some (.ref (2 + 64 * h)), some (.int (ii o)), some (.int (if top then -ii 1 else ii 93)), some (.int (ii i))], [], σ') = runF (callF (d + 20)) (d + 20) m_Work_readSteps (47, [some (.ref 2250), some (.ref 71), some (.ref (2 + 64 * h)), some (.int (ii o)), some (.int (if top then -ii 1 else ii 93)), some (.int (ii i))], [], σ3) := by
        have ne : ¬ (if sk T n s'.1 < n then ii (T (sk T n s'.1)) else -ii 1) = (if top then -ii 1 else ii 93) := by
          unfold wkE at hend
          cases top with
          | true =>
            rw [if_pos rfl] at hend
            have := of_decide_eq_false hend
            rw [if_pos (by omega), if_pos rfl]
            have ht := (R2.2.2.2.2.2.2.2.2.2.1 (sk T n s'.1) (by omega)).2
            intro z
            rw [eq_ng (by omega)] at z
            exact z
          | false =>
            rw [if_neg (by decide)] at hend
            have := of_decide_eq_false hend
            rw [if_neg (show ¬ (false = true) by decide)]
            by_cases z1 : sk T n s'.1 < n
            · rw [if_pos z1]
              have ht := (R2.2.2.2.2.2.2.2.2.2.1 (sk T n s'.1) (by omega)).2
              intro z
              exact this ⟨z1, (ii_eq (by omega) (by omega)).mp z⟩
            · rw [if_neg z1]
              decide
        generalize (if sk T n s'.1 < n then ii (T (sk T n s'.1)) else -ii 1) = b at *
        generalize (if top then -ii 1 else ii 93) = en at *
        conv => lhs; simp (disch := first | omega | exact b2_01 _ | exact ii0_01 | exact ii1_01 | (simp (disch := omega) only [lit_ii, dr_some, Option.isSome_some, gR_wI, Nat.add_mul_mod_self_left, Nat.reduceMod, ak20, ak21, ak22, ak23, ak24, ak25, ak26, ak27, ak28, ak29, ak30, ak31, ak32, ak33, ak34, ak35, ak36, an20, an21, an22, an23, an24, an25, an26, an27, an28, an29, an30, an31, an32, an33, an34, an35, an36, an37, an38, ne_eq, inR_ii, decide_eq_true_eq, lit_ii, of_ii, ii_eq, ii_lt, ii_le]; first | done | omega)) only [lit_ii, b_Work_readSteps_15, dr_some, Option.isSome_some, gR_wI, Nat.add_mul_mod_self_left, Nat.reduceMod, ak20, ak21, ak22, ak23, ak24, ak25, ak26, ak27, ak28, ak29, ak30, ak31, ak32, ak33, ak34, ak35, ak36, an20, an21, an22, an23, an24, an25, an26, an27, an28, an29, an30, an31, an32, an33, an34, an35, an36, an37, an38, ↓reduceIte, bk_int, bk_void, bk_long, bkN_int, bkN_void, bkN_long, Nat.reduceAdd, Nat.reduceMul, Nat.reduceSub, Nat.reduceLT, Nat.reduceLeDiff, if_true, if_false, not_true_eq_false, not_false_eq_true, Bool.true_eq_false, Bool.false_eq_true, b2_eq0, Nat.add_zero, Nat.zero_add, Nat.not_lt_zero, Nat.zero_le, ite_true, ite_false, decide_true, decide_false, lit_ii, of_ii, le_T, le_F, lt_T, lt_F, eq_T, eq_F, ii_add, ii_mul, ii_nat, ii_le, ii_lt, ii_eq, inR_ii, ii_add0]
        simp (disch := first | omega | exact b2_01 _ | exact ii0_01 | exact ii1_01 | (simp (disch := omega) only [lit_ii, dr_some, Option.isSome_some, gR_wI, Nat.add_mul_mod_self_left, Nat.reduceMod, ak20, ak21, ak22, ak23, ak24, ak25, ak26, ak27, ak28, ak29, ak30, ak31, ak32, ak33, ak34, ak35, ak36, an20, an21, an22, an23, an24, an25, an26, an27, an28, an29, an30, an31, an32, an33, an34, an35, an36, an37, an38, ne_eq, inR_ii, decide_eq_true_eq, lit_ii, of_ii, ii_eq, ii_lt, ii_le]; first | done | omega)) only [lit_ii, b_Work_readSteps_23, b_Work_readSteps_27, b_Work_readSteps_30, b_Work_readSteps_34, b_Work_readSteps_40, g0, e3, ne, e4, Option.isSome_none, dr_some, Option.isSome_some, gR_wI, Nat.add_mul_mod_self_left, Nat.reduceMod, ak20, ak21, ak22, ak23, ak24, ak25, ak26, ak27, ak28, ak29, ak30, ak31, ak32, ak33, ak34, ak35, ak36, an20, an21, an22, an23, an24, an25, an26, an27, an28, an29, an30, an31, an32, an33, an34, an35, an36, an37, an38, ↓reduceIte, bk_int, bk_void, bk_long, bkN_int, bkN_void, bkN_long, Nat.reduceAdd, Nat.reduceMul, Nat.reduceSub, Nat.reduceLT, Nat.reduceLeDiff, if_true, if_false, not_true_eq_false, not_false_eq_true, Bool.true_eq_false, Bool.false_eq_true, b2_eq0, Nat.add_zero, Nat.zero_add, Nat.not_lt_zero, Nat.zero_le, ite_true, ite_false, decide_true, decide_false, lit_ii, of_ii, le_T, le_F, lt_T, lt_F, eq_T, eq_F, ii_add, ii_mul, ii_nat, ii_le, ii_lt, ii_eq, inR_ii, ii_add0]
      rw [st]
      have back : ∀ σ4 p4 u4 F, RS σ4 T n p4 (some F) u4 → runF (callF (d + 20)) (d + 20) m_Work_readSteps (53, [some (.ref 2250), some (.ref 71), some (.ref (2 + 64 * h)), some (.int (ii o)), some (.int (if top then -ii 1 else ii 93)), some (.int (ii i))], [], σ4) = some (.inl none, σ4) := by
        intro σ4 p4 u4 F R4
        have g4 := fun d => s_failed (d := d) R4
        by_cases z : i + 1 = 150
        · simp (disch := first | omega | exact b2_01 _ | exact ii0_01 | exact ii1_01 | (simp (disch := omega) only [lit_ii, dr_some, Option.isSome_some, gR_wI, Nat.add_mul_mod_self_left, Nat.reduceMod, ak20, ak21, ak22, ak23, ak24, ak25, ak26, ak27, ak28, ak29, ak30, ak31, ak32, ak33, ak34, ak35, ak36, an20, an21, an22, an23, an24, an25, an26, an27, an28, an29, an30, an31, an32, an33, an34, an35, an36, an37, an38, ne_eq, inR_ii, decide_eq_true_eq, lit_ii, of_ii, ii_eq, ii_lt, ii_le]; first | done | omega)) only [lit_ii, b_Work_readSteps_53, b_Work_readSteps_15, b_Work_readSteps_59, z, dr_some, Option.isSome_some, gR_wI, Nat.add_mul_mod_self_left, Nat.reduceMod, ak20, ak21, ak22, ak23, ak24, ak25, ak26, ak27, ak28, ak29, ak30, ak31, ak32, ak33, ak34, ak35, ak36, an20, an21, an22, an23, an24, an25, an26, an27, an28, an29, an30, an31, an32, an33, an34, an35, an36, an37, an38, ↓reduceIte, bk_int, bk_void, bk_long, bkN_int, bkN_void, bkN_long, Nat.reduceAdd, Nat.reduceMul, Nat.reduceSub, Nat.reduceLT, Nat.reduceLeDiff, if_true, if_false, not_true_eq_false, not_false_eq_true, Bool.true_eq_false, Bool.false_eq_true, b2_eq0, Nat.add_zero, Nat.zero_add, Nat.not_lt_zero, Nat.zero_le, ite_true, ite_false, decide_true, decide_false, lit_ii, of_ii, le_T, le_F, lt_T, lt_F, eq_T, eq_F, ii_add, ii_mul, ii_nat, ii_le, ii_lt, ii_eq, inR_ii, ii_add0]
        · simp (disch := first | omega | exact b2_01 _ | exact ii0_01 | exact ii1_01 | (simp (disch := omega) only [lit_ii, dr_some, Option.isSome_some, gR_wI, Nat.add_mul_mod_self_left, Nat.reduceMod, ak20, ak21, ak22, ak23, ak24, ak25, ak26, ak27, ak28, ak29, ak30, ak31, ak32, ak33, ak34, ak35, ak36, an20, an21, an22, an23, an24, an25, an26, an27, an28, an29, an30, an31, an32, an33, an34, an35, an36, an37, an38, ne_eq, inR_ii, decide_eq_true_eq, lit_ii, of_ii, ii_eq, ii_lt, ii_le]; first | done | omega)) only [lit_ii, b_Work_readSteps_53, b_Work_readSteps_15, b_Work_readSteps_23, b_Work_readSteps_27, b_Work_readSteps_39, g4, Option.isSome_some, dr_some, Option.isSome_some, gR_wI, Nat.add_mul_mod_self_left, Nat.reduceMod, ak20, ak21, ak22, ak23, ak24, ak25, ak26, ak27, ak28, ak29, ak30, ak31, ak32, ak33, ak34, ak35, ak36, an20, an21, an22, an23, an24, an25, an26, an27, an28, an29, an30, an31, an32, an33, an34, an35, an36, an37, an38, ↓reduceIte, bk_int, bk_void, bk_long, bkN_int, bkN_void, bkN_long, Nat.reduceAdd, Nat.reduceMul, Nat.reduceSub, Nat.reduceLT, Nat.reduceLeDiff, if_true, if_false, not_true_eq_false, not_false_eq_true, Bool.true_eq_false, Bool.false_eq_true, b2_eq0, Nat.add_zero, Nat.zero_add, Nat.not_lt_zero, Nat.zero_le, ite_true, ite_false, decide_true, decide_false, lit_ii, of_ii, le_T, le_F, lt_T, lt_F, eq_T, eq_F, ii_add, ii_mul, ii_nat, ii_le, ii_lt, ii_eq, inR_ii, ii_add0]
      cases hv : St (sk T n s'.1, s'.2.1, s'.2.2) with
      | inr F =>
        left
        rw [hv] at Q3
        obtain ⟨p3, u3, R3⟩ := Q3
        obtain ⟨σ4, e5, R4, F4⟩ := s_needSign (d := d + 16) R3 (c := 59) (by omega)
        have b4 := back σ4 _ _ F R4
        refine ⟨σ4, ?_, ⟨_, _, R4⟩, F03.tr (S1_SK F4)⟩
        simp (disch := first | omega | exact b2_01 _ | exact ii0_01 | exact ii1_01 | (simp (disch := omega) only [lit_ii, dr_some, Option.isSome_some, gR_wI, Nat.add_mul_mod_self_left, Nat.reduceMod, ak20, ak21, ak22, ak23, ak24, ak25, ak26, ak27, ak28, ak29, ak30, ak31, ak32, ak33, ak34, ak35, ak36, an20, an21, an22, an23, an24, an25, an26, an27, an28, an29, an30, an31, an32, an33, an34, an35, an36, an37, an38, ne_eq, inR_ii, decide_eq_true_eq, lit_ii, of_ii, ii_eq, ii_lt, ii_le]; first | done | omega)) only [lit_ii, b_Work_readSteps_47, e5, b4, dr_some, Option.isSome_some, gR_wI, Nat.add_mul_mod_self_left, Nat.reduceMod, ak20, ak21, ak22, ak23, ak24, ak25, ak26, ak27, ak28, ak29, ak30, ak31, ak32, ak33, ak34, ak35, ak36, an20, an21, an22, an23, an24, an25, an26, an27, an28, an29, an30, an31, an32, an33, an34, an35, an36, an37, an38, ↓reduceIte, bk_int, bk_void, bk_long, bkN_int, bkN_void, bkN_long, Nat.reduceAdd, Nat.reduceMul, Nat.reduceSub, Nat.reduceLT, Nat.reduceLeDiff, if_true, if_false, not_true_eq_false, not_false_eq_true, Bool.true_eq_false, Bool.false_eq_true, b2_eq0, Nat.add_zero, Nat.zero_add, Nat.not_lt_zero, Nat.zero_le, ite_true, ite_false, decide_true, decide_false, lit_ii, of_ii, le_T, le_F, lt_T, lt_F, eq_T, eq_F, ii_add, ii_mul, ii_nat, ii_le, ii_lt, ii_eq, inR_ii, ii_add0]
      | inl s3 =>
        rw [hv] at Q3 fw
        obtain ⟨⟨u3, R3⟩, C3⟩ := Q3
        obtain ⟨a1, a2, a3, a4⟩ := fw
        simp only at a1 a3 a4
        obtain ⟨σ4, e5, Q4, F4⟩ := s_sgnw (d := d + 16) (c := 59) R3 C3 (by omega)
        simp only
        cases hw : sgnW T n 59 s3 with
        | inr F =>
          left
          rw [hw] at Q4
          obtain ⟨p4, u4, R4⟩ := Q4
          have b4 := back σ4 _ _ F R4
          refine ⟨σ4, ?_, ⟨_, _, R4⟩, F03.tr (S1_SK F4)⟩
          simp (disch := first | omega | exact b2_01 _ | exact ii0_01 | exact ii1_01 | (simp (disch := omega) only [lit_ii, dr_some, Option.isSome_some, gR_wI, Nat.add_mul_mod_self_left, Nat.reduceMod, ak20, ak21, ak22, ak23, ak24, ak25, ak26, ak27, ak28, ak29, ak30, ak31, ak32, ak33, ak34, ak35, ak36, an20, an21, an22, an23, an24, an25, an26, an27, an28, an29, an30, an31, an32, an33, an34, an35, an36, an37, an38, ne_eq, inR_ii, decide_eq_true_eq, lit_ii, of_ii, ii_eq, ii_lt, ii_le]; first | done | omega)) only [lit_ii, b_Work_readSteps_47, e5, b4, dr_some, Option.isSome_some, gR_wI, Nat.add_mul_mod_self_left, Nat.reduceMod, ak20, ak21, ak22, ak23, ak24, ak25, ak26, ak27, ak28, ak29, ak30, ak31, ak32, ak33, ak34, ak35, ak36, an20, an21, an22, an23, an24, an25, an26, an27, an28, an29, an30, an31, an32, an33, an34, an35, an36, an37, an38, ↓reduceIte, bk_int, bk_void, bk_long, bkN_int, bkN_void, bkN_long, Nat.reduceAdd, Nat.reduceMul, Nat.reduceSub, Nat.reduceLT, Nat.reduceLeDiff, if_true, if_false, not_true_eq_false, not_false_eq_true, Bool.true_eq_false, Bool.false_eq_true, b2_eq0, Nat.add_zero, Nat.zero_add, Nat.not_lt_zero, Nat.zero_le, ite_true, ite_false, decide_true, decide_false, lit_ii, of_ii, le_T, le_F, lt_T, lt_F, eq_T, eq_F, ii_add, ii_mul, ii_nat, ii_le, ii_lt, ii_eq, inR_ii, ii_add0]
        | inl s4 =>
          right
          rw [hw] at Q4
          obtain ⟨⟨u4, R4⟩, C4⟩ := Q4
          obtain ⟨b1, b2, b3⟩ := sgnW_fwd a2 hw
          have b4 : s4.2.1 = s3.2.1 := congrArg Prod.fst b3
          refine ⟨f, _, by omega, ?_, σ4, i + 1, s4, u4, rfl, R4, C4, by omega, by omega, by omega, rfl, F03.tr (S1_SK F4)⟩
          simp (disch := first | omega | exact b2_01 _ | exact ii0_01 | exact ii1_01 | (simp (disch := omega) only [lit_ii, dr_some, Option.isSome_some, gR_wI, Nat.add_mul_mod_self_left, Nat.reduceMod, ak20, ak21, ak22, ak23, ak24, ak25, ak26, ak27, ak28, ak29, ak30, ak31, ak32, ak33, ak34, ak35, ak36, an20, an21, an22, an23, an24, an25, an26, an27, an28, an29, an30, an31, an32, an33, an34, an35, an36, an37, an38, ne_eq, inR_ii, decide_eq_true_eq, lit_ii, of_ii, ii_eq, ii_lt, ii_le]; first | done | omega)) only [lit_ii, b_Work_readSteps_47, b_Work_readSteps_53, e5, dr_some, Option.isSome_some, gR_wI, Nat.add_mul_mod_self_left, Nat.reduceMod, ak20, ak21, ak22, ak23, ak24, ak25, ak26, ak27, ak28, ak29, ak30, ak31, ak32, ak33, ak34, ak35, ak36, an20, an21, an22, an23, an24, an25, an26, an27, an28, an29, an30, an31, an32, an33, an34, an35, an36, an37, an38, ↓reduceIte, bk_int, bk_void, bk_long, bkN_int, bkN_void, bkN_long, Nat.reduceAdd, Nat.reduceMul, Nat.reduceSub, Nat.reduceLT, Nat.reduceLeDiff, if_true, if_false, not_true_eq_false, not_false_eq_true, Bool.true_eq_false, Bool.false_eq_true, b2_eq0, Nat.add_zero, Nat.zero_add, Nat.not_lt_zero, Nat.zero_le, ite_true, ite_false, decide_true, decide_false, lit_ii, of_ii, le_T, le_F, lt_T, lt_F, eq_T, eq_F, ii_add, ii_mul, ii_nat, ii_le, ii_lt, ii_eq, inR_ii, ii_add0]
theorem cl_stepn {T : Nat → Nat} {n h : Nat} {H : HH} (hn : n ≤ 150) : ∀ r, r ≤ 6 → ∀ e, 22 + 3 * r ≤ e → SCn T n h H m_Work_readStep (6 - r) e (wkSn T n H r) := by
  intro r
  induction r with
  | zero =>
    intro _ e he
    obtain ⟨e', rfl⟩ : ∃ e', e = e' + 2 := ⟨e - 2, by omega⟩
    exact cl_step (by omega) (Or.inl rfl) (by omega) hn
  | succ r ih =>
    intro hr e he
    obtain ⟨e', rfl⟩ : ∃ e', e = e' + 3 := ⟨e - 3, by omega⟩
    have h1 := ih (by omega) e' (by omega)
    have h2 := cl_steps (top := false) h1 (wkSn_fwd r) (Or.inr ⟨rfl, by omega, by omega⟩) (by omega) hn
    rw [show 6 - r = 6 - (r + 1) + 1 by omega] at h2
    exact cl_step (by omega) (Or.inr ⟨h2, wkL_fwd (wkSn_fwd r) (n + 1), wkL_pfx (wkSn_fwd r) (wkSn_pfx r) (n + 1)⟩) (by omega) hn
theorem s_workWhole {d n h u : Nat} {T : Nat → Nat} {H : HH} {σ : HP} (hn : n ≤ 150) (R : RS σ T n 0 none u) (hR : WKr σ) (hI : HI σ h H) : ∃ σ', callF (d + 60) m_Work_wipe [.ref 2250] σ = some (.inl none, wI (wI (wI (wI σ 2250 3 (ii 0)) 2250 4 (ii 0)) 2250 5 (ii 0)) 2250 6 (ii 0)) ∧ callF (d + 60) m_Work_readSteps [.ref 2250, .ref 71, .ref (2 + 64 * h), .int (ii 0)] (wI (wI (wI (wI σ 2250 3 (ii 0)) 2250 4 (ii 0)) 2250 5 (ii 0)) 2250 6 (ii 0)) = some (.inl none, σ') ∧ WQ σ' T n (wkAll T n H) ∧ Fs SK2 σ σ' ∧ gI σ' 2250 4 = ii 0 ∧ gI σ' 2250 5 = ii 0 ∧ gI σ' 2250 6 = ii 0 := by
  have F0 : Fs SK2 σ (wI (wI (wI (wI σ 2250 3 (ii 0)) 2250 4 (ii 0)) 2250 5 (ii 0)) 2250 6 (ii 0)) := Fs.w (Fs.w (Fs.w (Fs.w Fs.rf (by unfold SK2; omega)) (by unfold SK2; omega)) (by unfold SK2; omega)) (by unfold SK2; omega)
  have R0 := (((R.w (a := 2250) (j := 3) (v := ii 0) (by omega) (by omega)).w (a := 2250) (j := 4) (v := ii 0) (by omega) (by omega)).w (a := 2250) (j := 5) (v := ii 0) (by omega) (by omega)).w (a := 2250) (j := 6) (v := ii 0) (by omega) (by omega)
  have C0 : WC (wI (wI (wI (wI σ 2250 3 (ii 0)) 2250 4 (ii 0)) 2250 5 (ii 0)) 2250 6 (ii 0)) 0 (fun _ => (0, 0, 0)) := ⟨hR, by rw [gI_nj (by decide), gI_nj (by decide), gI_nj (by decide), gI_at], fun i hi => absurd hi (Nat.not_lt_zero _)⟩
  have z4 : gI (wI (wI (wI (wI σ 2250 3 (ii 0)) 2250 4 (ii 0)) 2250 5 (ii 0)) 2250 6 (ii 0)) 2250 4 = ii 0 := by rw [gI_nj (by decide), gI_nj (by decide), gI_at]
  have z5 : gI (wI (wI (wI (wI σ 2250 3 (ii 0)) 2250 4 (ii 0)) 2250 5 (ii 0)) 2250 6 (ii 0)) 2250 5 = ii 0 := by rw [gI_nj (by decide), gI_at]
  have z6 : gI (wI (wI (wI (wI σ 2250 3 (ii 0)) 2250 4 (ii 0)) 2250 5 (ii 0)) 2250 6 (ii 0)) 2250 6 = ii 0 := gI_at
  have h1 := cl_stepn (T := T) (h := h) (H := H) hn 6 (Nat.le_refl _) (d + 59) (by omega)
  have h2 := cl_steps (top := true) h1 (wkSn_fwd 6) (Or.inl ⟨rfl, rfl⟩) (by omega) hn
  obtain ⟨σ1, e1, Q1, F1⟩ := h2 _ (0, 0, fun _ => (0, 0, 0)) u R0 C0 (hI.fs F0 SK_h) (Nat.le_refl _)
  simp only [Nat.sub_self] at e1
  refine ⟨σ1, ?_, e1, Q1, F0.tr F1.1, (F1.2 4 (by decide)).trans z4, (F1.2 5 (by decide)).trans z5, (F1.2 6 (by decide)).trans z6⟩
  simp (disch := first | omega | exact b2_01 _ | exact ii0_01 | exact ii1_01 | (simp (disch := omega) only [lit_ii, dr_some, Option.isSome_some, gR_wI, Nat.add_mul_mod_self_left, Nat.reduceMod, ak20, ak21, ak22, ak23, ak24, ak25, ak26, ak27, ak28, ak29, ak30, ak31, ak32, ak33, ak34, ak35, ak36, an20, an21, an22, an23, an24, an25, an26, an27, an28, an29, an30, an31, an32, an33, an34, an35, an36, an37, an38, ne_eq, inR_ii, decide_eq_true_eq, lit_ii, of_ii, ii_eq, ii_lt, ii_le]; first | done | omega)) only [lit_ii, e_Work_wipe, b_Work_wipe_0, dr_some, Option.isSome_some, gR_wI, Nat.add_mul_mod_self_left, Nat.reduceMod, ak20, ak21, ak22, ak23, ak24, ak25, ak26, ak27, ak28, ak29, ak30, ak31, ak32, ak33, ak34, ak35, ak36, an20, an21, an22, an23, an24, an25, an26, an27, an28, an29, an30, an31, an32, an33, an34, an35, an36, an37, an38, ↓reduceIte, bk_int, bk_void, bk_long, bkN_int, bkN_void, bkN_long, Nat.reduceAdd, Nat.reduceMul, Nat.reduceSub, Nat.reduceLT, Nat.reduceLeDiff, if_true, if_false, not_true_eq_false, not_false_eq_true, Bool.true_eq_false, Bool.false_eq_true, b2_eq0, Nat.add_zero, Nat.zero_add, Nat.not_lt_zero, Nat.zero_le, ite_true, ite_false, decide_true, decide_false, lit_ii, of_ii, le_T, le_F, lt_T, lt_F, eq_T, eq_F, ii_add, ii_mul, ii_nat, ii_le, ii_lt, ii_eq, inR_ii, ii_add0]
