theorem s_readClauses {d n h u : Nat} {T : Nat → Nat} {σ : HP} (R : RS σ T n 0 none u) (A : HA σ h H0) (hh : 2 < h) : ∃ σ', callF (d + 9) m_House_readClauses [.ref (2 + 64 * h), .ref 71] σ = some (.inl none, σ') ∧ (match hsAll T n with
    | .inl s => (∃ u, RS σ' T n s.1 none u) ∧ HA σ' h s.2
    | .inr F => ∃ p u, RS σ' T n p (some F) u) ∧ Fs (SHs h) σ σ' := by
  have hn := R.2.2.2.2.2.2.2.1
  rw [e_House_readClauses, b_House_readClauses_0]
  refine loop_w (Q := fun r => ∃ σ', r = some (.inl none, σ') ∧ (match hsAll T n with
    | .inl s => (∃ u, RS σ' T n s.1 none u) ∧ HA σ' h s.2
    | .inr F => ∃ p u, RS σ' T n p (some F) u) ∧ Fs (SHs h) σ σ') (fun f c => ∃ σ' k s' l3 u', c = (2, [some (.ref (2 + 64 * h)), some (.ref 71), some (.int (ii k)), l3], [], σ') ∧ RS σ' T n s'.1 none u' ∧ HA σ' h s'.2 ∧ wH s'.2 ∧ k ≤ 60 ∧ n - s'.1 < f ∧ hsL T n f k s' = hsAll T n ∧ Fs (SHs h) σ σ') ?_ (n + 1) _ ⟨σ, 0, (0, H0), none, u, rfl, R, A, wH0, by omega, by omega, rfl, Fs.rf⟩
  rintro f c ⟨σ', k, s', l3, u', rfl, R', A', hw, k1, k3, hq, F'⟩
  rw [← hq]
  cases f with
  | zero => omega
  | succ f =>
    have hp' := R'.2.2.2.2.2.2.1
    have g0 := fun d => s_failed (d := d) R'
    obtain ⟨σ2, e2, R2, F2⟩ := s_peek (d := d + 6) R'
    have q1 := sk_le (T := T) hp'
    have q2 := sk_ge (T := T) hp'
    have qq := sk_sk (T := T) hp'
    have A2 := A'.fs F2 (fun a x y z => by unfold S1 at z; omega)
    have F02 := F'.tr (S1_SH (h := h) F2)
    unfold bt at e2
    rw [hsL]
    by_cases z1 : sk T n s'.1 < n
    · rw [if_pos z1] at e2 ⊢
      have ht := (R2.2.2.2.2.2.2.2.2.2.1 (sk T n s'.1) (by omega)).2
      obtain ⟨σ3, e3, R3, F3⟩ := s_readWord (d := d + 1) R2 (i := 1) (by omega)
      simp only [Nat.reduceMul, Nat.reduceAdd] at e3
      rw [qq] at R3
      have A3 := A2.fs F3 (fun a x y z => by unfold S1 at z; omega)
      have F03 := F02.tr (S1_SH (h := h) F3)
      have a5 := R3.2.2.2.2.2.1
      have st : runF (callF (d + 8)) (d + 8) m_House_readClauses (2, [some (.ref (2 + 64 * h)), some (.ref 71), some (.int (ii k)), l3], [], σ') = runF (callF (d + 8)) (d + 8) m_House_readClauses (30, [some (.ref (2 + 64 * h)), some (.ref 71), some (.int (ii k)), l3], [.int (oi (wdX 1 T n (sk T n s'.1)))], σ3) := by
        conv => lhs; simp (disch := first | omega | exact b2_01 _ | exact ii0_01 | exact ii1_01 | (simp (disch := omega) only [lit_ii, dr_some, Option.isSome_some, gR_wI, Nat.add_mul_mod_self_left, Nat.reduceMod, ak20, ak21, ak22, ak23, ak24, ak25, ak26, ak27, ak28, ak29, ak30, ak31, ak32, ak33, ak34, ak35, ak36, an20, an21, an22, an23, an24, an25, an26, an27, an28, an29, an30, an31, an32, an33, an34, an35, an36, an37, an38, ne_eq, inR_ii, decide_eq_true_eq, lit_ii, of_ii, ii_eq, ii_lt, ii_le]; first | done | omega)) only [lit_ii, b_House_readClauses_2, dr_some, Option.isSome_some, gR_wI, Nat.add_mul_mod_self_left, Nat.reduceMod, ak20, ak21, ak22, ak23, ak24, ak25, ak26, ak27, ak28, ak29, ak30, ak31, ak32, ak33, ak34, ak35, ak36, an20, an21, an22, an23, an24, an25, an26, an27, an28, an29, an30, an31, an32, an33, an34, an35, an36, an37, an38, ↓reduceIte, bk_int, bk_void, bk_long, bkN_int, bkN_void, bkN_long, Nat.reduceAdd, Nat.reduceMul, Nat.reduceSub, Nat.reduceLT, Nat.reduceLeDiff, if_true, if_false, not_true_eq_false, not_false_eq_true, Bool.true_eq_false, Bool.false_eq_true, b2_eq0, Nat.add_zero, Nat.zero_add, Nat.not_lt_zero, Nat.zero_le, ite_true, ite_false, decide_true, decide_false, lit_ii, of_ii, le_T, le_F, lt_T, lt_F, eq_T, eq_F, ii_add, ii_mul, ii_nat, ii_le, ii_lt, ii_eq, inR_ii, ii_add0]
        simp (disch := first | omega | exact b2_01 _ | exact ii0_01 | exact ii1_01 | (simp (disch := omega) only [lit_ii, dr_some, Option.isSome_some, gR_wI, Nat.add_mul_mod_self_left, Nat.reduceMod, ak20, ak21, ak22, ak23, ak24, ak25, ak26, ak27, ak28, ak29, ak30, ak31, ak32, ak33, ak34, ak35, ak36, an20, an21, an22, an23, an24, an25, an26, an27, an28, an29, an30, an31, an32, an33, an34, an35, an36, an37, an38, ne_eq, inR_ii, decide_eq_true_eq, lit_ii, of_ii, ii_eq, ii_lt, ii_le]; first | done | omega)) only [lit_ii, b_House_readClauses_8, b_House_readClauses_12, b_House_readClauses_15, b_House_readClauses_19, b_House_readClauses_24, g0, e2, eq_ng, e3, Option.isSome_none, dr_some, Option.isSome_some, gR_wI, Nat.add_mul_mod_self_left, Nat.reduceMod, ak20, ak21, ak22, ak23, ak24, ak25, ak26, ak27, ak28, ak29, ak30, ak31, ak32, ak33, ak34, ak35, ak36, an20, an21, an22, an23, an24, an25, an26, an27, an28, an29, an30, an31, an32, an33, an34, an35, an36, an37, an38, ↓reduceIte, bk_int, bk_void, bk_long, bkN_int, bkN_void, bkN_long, Nat.reduceAdd, Nat.reduceMul, Nat.reduceSub, Nat.reduceLT, Nat.reduceLeDiff, if_true, if_false, not_true_eq_false, not_false_eq_true, Bool.true_eq_false, Bool.false_eq_true, b2_eq0, Nat.add_zero, Nat.zero_add, Nat.not_lt_zero, Nat.zero_le, ite_true, ite_false, decide_true, decide_false, lit_ii, of_ii, le_T, le_F, lt_T, lt_F, eq_T, eq_F, ii_add, ii_mul, ii_nat, ii_le, ii_lt, ii_eq, inR_ii, ii_add0]
      rw [st]
      have back : ∀ x σ4 p4 u4 F, RS σ4 T n p4 (some F) u4 → runF (callF (d + 8)) (d + 8) m_House_readClauses (58, [some (.ref (2 + 64 * h)), some (.ref 71), some (.int (ii k)), some (.int x)], [], σ4) = some (.inl none, σ4) := by
        intro x σ4 p4 u4 F R4
        have g4 := fun d => s_failed (d := d) R4
        by_cases z : k = 60
        · simp (disch := first | omega | exact b2_01 _ | exact ii0_01 | exact ii1_01 | (simp (disch := omega) only [lit_ii, dr_some, Option.isSome_some, gR_wI, Nat.add_mul_mod_self_left, Nat.reduceMod, ak20, ak21, ak22, ak23, ak24, ak25, ak26, ak27, ak28, ak29, ak30, ak31, ak32, ak33, ak34, ak35, ak36, an20, an21, an22, an23, an24, an25, an26, an27, an28, an29, an30, an31, an32, an33, an34, an35, an36, an37, an38, ne_eq, inR_ii, decide_eq_true_eq, lit_ii, of_ii, ii_eq, ii_lt, ii_le]; first | done | omega)) only [lit_ii, b_House_readClauses_58, b_House_readClauses_2, b_House_readClauses_64, z, dr_some, Option.isSome_some, gR_wI, Nat.add_mul_mod_self_left, Nat.reduceMod, ak20, ak21, ak22, ak23, ak24, ak25, ak26, ak27, ak28, ak29, ak30, ak31, ak32, ak33, ak34, ak35, ak36, an20, an21, an22, an23, an24, an25, an26, an27, an28, an29, an30, an31, an32, an33, an34, an35, an36, an37, an38, ↓reduceIte, bk_int, bk_void, bk_long, bkN_int, bkN_void, bkN_long, Nat.reduceAdd, Nat.reduceMul, Nat.reduceSub, Nat.reduceLT, Nat.reduceLeDiff, if_true, if_false, not_true_eq_false, not_false_eq_true, Bool.true_eq_false, Bool.false_eq_true, b2_eq0, Nat.add_zero, Nat.zero_add, Nat.not_lt_zero, Nat.zero_le, ite_true, ite_false, decide_true, decide_false, lit_ii, of_ii, le_T, le_F, lt_T, lt_F, eq_T, eq_F, ii_add, ii_mul, ii_nat, ii_le, ii_lt, ii_eq, inR_ii, ii_add0]
        · simp (disch := first | omega | exact b2_01 _ | exact ii0_01 | exact ii1_01 | (simp (disch := omega) only [lit_ii, dr_some, Option.isSome_some, gR_wI, Nat.add_mul_mod_self_left, Nat.reduceMod, ak20, ak21, ak22, ak23, ak24, ak25, ak26, ak27, ak28, ak29, ak30, ak31, ak32, ak33, ak34, ak35, ak36, an20, an21, an22, an23, an24, an25, an26, an27, an28, an29, an30, an31, an32, an33, an34, an35, an36, an37, an38, ne_eq, inR_ii, decide_eq_true_eq, lit_ii, of_ii, ii_eq, ii_lt, ii_le]; first | done | omega)) only [lit_ii, b_House_readClauses_58, b_House_readClauses_2, b_House_readClauses_8, b_House_readClauses_12, b_House_readClauses_23, g4, Option.isSome_some, dr_some, Option.isSome_some, gR_wI, Nat.add_mul_mod_self_left, Nat.reduceMod, ak20, ak21, ak22, ak23, ak24, ak25, ak26, ak27, ak28, ak29, ak30, ak31, ak32, ak33, ak34, ak35, ak36, an20, an21, an22, an23, an24, an25, an26, an27, an28, an29, an30, an31, an32, an33, an34, an35, an36, an37, an38, ↓reduceIte, bk_int, bk_void, bk_long, bkN_int, bkN_void, bkN_long, Nat.reduceAdd, Nat.reduceMul, Nat.reduceSub, Nat.reduceLT, Nat.reduceLeDiff, if_true, if_false, not_true_eq_false, not_false_eq_true, Bool.true_eq_false, Bool.false_eq_true, b2_eq0, Nat.add_zero, Nat.zero_add, Nat.not_lt_zero, Nat.zero_le, ite_true, ite_false, decide_true, decide_false, lit_ii, of_ii, le_T, le_F, lt_T, lt_F, eq_T, eq_F, ii_add, ii_mul, ii_nat, ii_le, ii_lt, ii_eq, inR_ii, ii_add0]
      have wE : wdX 1 T n (sk T n s'.1) = wIx 1 T (sk T n s'.1) (ltE T n (sk T n s'.1)) := by
        unfold wdX
        rw [qq]
      unfold hsC
      simp only
      cases hx : wdX 1 T n (sk T n s'.1) with
      | none =>
        left
        have wf : wdF 1 T n (sk T n s'.1) = some (1, sk T n s'.1) := by
          unfold wdF
          rw [qq, ← wE, hx]
        rw [wf] at R3
        simp only
        have cl : ∀ d σ, callF (d + 1) m_House_readClause [.ref (2 + 64 * h), .ref 71, .int (-ii 1)] σ = some (.inl none, σ) := fun d σ => by
          simp (disch := first | omega | exact b2_01 _ | exact ii0_01 | exact ii1_01 | (simp (disch := omega) only [lit_ii, dr_some, Option.isSome_some, gR_wI, Nat.add_mul_mod_self_left, Nat.reduceMod, ak20, ak21, ak22, ak23, ak24, ak25, ak26, ak27, ak28, ak29, ak30, ak31, ak32, ak33, ak34, ak35, ak36, an20, an21, an22, an23, an24, an25, an26, an27, an28, an29, an30, an31, an32, an33, an34, an35, an36, an37, an38, ne_eq, inR_ii, decide_eq_true_eq, lit_ii, of_ii, ii_eq, ii_lt, ii_le]; first | done | omega)) only [lit_ii, e_House_readClause, b_House_readClause_0, b_House_readClause_32, b_House_readClause_37, b_House_readClause_40, b_House_readClause_45, b_House_readClause_48, b_House_readClause_53, b_House_readClause_56, b_House_readClause_65, b_House_readClause_71, ng_eq, dr_some, Option.isSome_some, gR_wI, Nat.add_mul_mod_self_left, Nat.reduceMod, ak20, ak21, ak22, ak23, ak24, ak25, ak26, ak27, ak28, ak29, ak30, ak31, ak32, ak33, ak34, ak35, ak36, an20, an21, an22, an23, an24, an25, an26, an27, an28, an29, an30, an31, an32, an33, an34, an35, an36, an37, an38, ↓reduceIte, bk_int, bk_void, bk_long, bkN_int, bkN_void, bkN_long, Nat.reduceAdd, Nat.reduceMul, Nat.reduceSub, Nat.reduceLT, Nat.reduceLeDiff, if_true, if_false, not_true_eq_false, not_false_eq_true, Bool.true_eq_false, Bool.false_eq_true, b2_eq0, Nat.add_zero, Nat.zero_add, Nat.not_lt_zero, Nat.zero_le, ite_true, ite_false, decide_true, decide_false, lit_ii, of_ii, le_T, le_F, lt_T, lt_F, eq_T, eq_F, ii_add, ii_mul, ii_nat, ii_le, ii_lt, ii_eq, inR_ii, ii_add0]
        by_cases z : k = 60
        · obtain ⟨σ4, e4, R4, F4⟩ := s_blame (d := d + 7) R3 (k := 3) (q := sk T n s'.1) (by omega) (by omega)
          obtain ⟨σ5, e5, R5, F5⟩ := s_needSign (d := d + 4) R4 (c := 59) (by omega)
          have b5 := back (-ii 1) σ5 _ _ _ R5
          refine ⟨σ5, ?_, ⟨_, _, by rw [qq]; exact R5⟩, (F03.tr (S1_SH F4)).tr (S1_SH F5)⟩
          simp (disch := first | omega | exact b2_01 _ | exact ii0_01 | exact ii1_01 | (simp (disch := omega) only [lit_ii, dr_some, Option.isSome_some, gR_wI, Nat.add_mul_mod_self_left, Nat.reduceMod, ak20, ak21, ak22, ak23, ak24, ak25, ak26, ak27, ak28, ak29, ak30, ak31, ak32, ak33, ak34, ak35, ak36, an20, an21, an22, an23, an24, an25, an26, an27, an28, an29, an30, an31, an32, an33, an34, an35, an36, an37, an38, ne_eq, inR_ii, decide_eq_true_eq, lit_ii, of_ii, ii_eq, ii_lt, ii_le]; first | done | omega)) only [lit_ii, b_House_readClauses_30, b_House_readClauses_37, b_House_readClauses_46, b_House_readClauses_52, z, oi_none, a5, e4, cl, e5, dr_some, Option.isSome_some, gR_wI, Nat.add_mul_mod_self_left, Nat.reduceMod, ak20, ak21, ak22, ak23, ak24, ak25, ak26, ak27, ak28, ak29, ak30, ak31, ak32, ak33, ak34, ak35, ak36, an20, an21, an22, an23, an24, an25, an26, an27, an28, an29, an30, an31, an32, an33, an34, an35, an36, an37, an38, ↓reduceIte, bk_int, bk_void, bk_long, bkN_int, bkN_void, bkN_long, Nat.reduceAdd, Nat.reduceMul, Nat.reduceSub, Nat.reduceLT, Nat.reduceLeDiff, if_true, if_false, not_true_eq_false, not_false_eq_true, Bool.true_eq_false, Bool.false_eq_true, b2_eq0, Nat.add_zero, Nat.zero_add, Nat.not_lt_zero, Nat.zero_le, ite_true, ite_false, decide_true, decide_false, lit_ii, of_ii, le_T, le_F, lt_T, lt_F, eq_T, eq_F, ii_add, ii_mul, ii_nat, ii_le, ii_lt, ii_eq, inR_ii, ii_add0]
          rw [z] at b5
          exact b5
        · obtain ⟨σ5, e5, R5, F5⟩ := s_needSign (d := d + 4) R3 (c := 59) (by omega)
          have b5 := back (-ii 1) σ5 _ _ _ R5
          refine ⟨σ5, ?_, ⟨_, _, by rw [qq]; exact R5⟩, F03.tr (S1_SH F5)⟩
          simp (disch := first | omega | exact b2_01 _ | exact ii0_01 | exact ii1_01 | (simp (disch := omega) only [lit_ii, dr_some, Option.isSome_some, gR_wI, Nat.add_mul_mod_self_left, Nat.reduceMod, ak20, ak21, ak22, ak23, ak24, ak25, ak26, ak27, ak28, ak29, ak30, ak31, ak32, ak33, ak34, ak35, ak36, an20, an21, an22, an23, an24, an25, an26, an27, an28, an29, an30, an31, an32, an33, an34, an35, an36, an37, an38, ne_eq, inR_ii, decide_eq_true_eq, lit_ii, of_ii, ii_eq, ii_lt, ii_le]; first | done | omega)) only [lit_ii, b_House_readClauses_30, b_House_readClauses_37, b_House_readClauses_46, b_House_readClauses_52, z, oi_none, a5, cl, e5, b5, dr_some, Option.isSome_some, gR_wI, Nat.add_mul_mod_self_left, Nat.reduceMod, ak20, ak21, ak22, ak23, ak24, ak25, ak26, ak27, ak28, ak29, ak30, ak31, ak32, ak33, ak34, ak35, ak36, an20, an21, an22, an23, an24, an25, an26, an27, an28, an29, an30, an31, an32, an33, an34, an35, an36, an37, an38, ↓reduceIte, bk_int, bk_void, bk_long, bkN_int, bkN_void, bkN_long, Nat.reduceAdd, Nat.reduceMul, Nat.reduceSub, Nat.reduceLT, Nat.reduceLeDiff, if_true, if_false, not_true_eq_false, not_false_eq_true, Bool.true_eq_false, Bool.false_eq_true, b2_eq0, Nat.add_zero, Nat.zero_add, Nat.not_lt_zero, Nat.zero_le, ite_true, ite_false, decide_true, decide_false, lit_ii, of_ii, le_T, le_F, lt_T, lt_F, eq_T, eq_F, ii_add, ii_mul, ii_nat, ii_le, ii_lt, ii_eq, inR_ii, ii_add0]
      | some x =>
        have wf : wdF 1 T n (sk T n s'.1) = none := by
          unfold wdF
          rw [qq, ← wE, hx]
        rw [wf] at R3
        have R3' : RS σ3 T n (wdP T n (sk T n s'.1)) none (sk T n s'.1) := R3
        have g1 := wd1_fwd hx
        have g2 := wdP_le (T := T) q1
        simp only
        obtain ⟨⟨w1, w2, w3, w4, w5⟩, -, -⟩ := id hw
        by_cases z : k = 60
        · left
          rw [if_pos z]
          obtain ⟨σ4, e4, R4, F4⟩ := s_blame (d := d + 7) R3' (k := 3) (q := sk T n s'.1) (by omega) (by omega)
          have A4 := A3.fs F4 (fun a x y z => by unfold S1 at z; omega)
          obtain ⟨σ5, e5, Q5, F5⟩ := c_clause (d := d + 3) R4 A4 hh w1 w2 w4 g1.1
          have R5 : ∃ p5, RS σ5 T n p5 (some (3, sk T n s'.1)) (sk T n s'.1) := by
            cases hb : hsB T n (sk T n s'.1) x (wdP T n (sk T n s'.1), s'.2) with
            | inl s5 => rw [hb] at Q5; exact ⟨_, Q5.1⟩
            | inr F => rw [hb] at Q5; obtain ⟨p5, R5⟩ := Q5; exact ⟨p5, R5⟩
          obtain ⟨p5, R5⟩ := R5
          obtain ⟨σ6, e6, R6, F6⟩ := s_needSign (d := d + 4) R5 (c := 59) (by omega)
          have b6 := back (ii x) σ6 _ _ _ R6
          refine ⟨σ6, ?_, ⟨_, _, by rw [qq]; exact R6⟩, ((F03.tr (S1_SH F4)).tr F5).tr (S1_SH F6)⟩
          simp (disch := first | omega | exact b2_01 _ | exact ii0_01 | exact ii1_01 | (simp (disch := omega) only [lit_ii, dr_some, Option.isSome_some, gR_wI, Nat.add_mul_mod_self_left, Nat.reduceMod, ak20, ak21, ak22, ak23, ak24, ak25, ak26, ak27, ak28, ak29, ak30, ak31, ak32, ak33, ak34, ak35, ak36, an20, an21, an22, an23, an24, an25, an26, an27, an28, an29, an30, an31, an32, an33, an34, an35, an36, an37, an38, ne_eq, inR_ii, decide_eq_true_eq, lit_ii, of_ii, ii_eq, ii_lt, ii_le]; first | done | omega)) only [lit_ii, b_House_readClauses_30, b_House_readClauses_37, b_House_readClauses_46, b_House_readClauses_52, z, oi_some, a5, e4, e5, e6, dr_some, Option.isSome_some, gR_wI, Nat.add_mul_mod_self_left, Nat.reduceMod, ak20, ak21, ak22, ak23, ak24, ak25, ak26, ak27, ak28, ak29, ak30, ak31, ak32, ak33, ak34, ak35, ak36, an20, an21, an22, an23, an24, an25, an26, an27, an28, an29, an30, an31, an32, an33, an34, an35, an36, an37, an38, ↓reduceIte, bk_int, bk_void, bk_long, bkN_int, bkN_void, bkN_long, Nat.reduceAdd, Nat.reduceMul, Nat.reduceSub, Nat.reduceLT, Nat.reduceLeDiff, if_true, if_false, not_true_eq_false, not_false_eq_true, Bool.true_eq_false, Bool.false_eq_true, b2_eq0, Nat.add_zero, Nat.zero_add, Nat.not_lt_zero, Nat.zero_le, ite_true, ite_false, decide_true, decide_false, lit_ii, of_ii, le_T, le_F, lt_T, lt_F, eq_T, eq_F, ii_add, ii_mul, ii_nat, ii_le, ii_lt, ii_eq, inR_ii, ii_add0]
          rw [z] at b6
          exact b6
        · rw [if_neg z]
          obtain ⟨σ5, e5, Q5, F5⟩ := c_clause (d := d + 3) R3' A3 hh w1 w2 w4 g1.1
          have F05 := F03.tr F5
          have fw := hsB_fwd (T := T) (q := sk T n s'.1) (x := x) (s := (wdP T n (sk T n s'.1), s'.2)) g2.2 q1 hw
          rw [qq]
          cases hb : hsB T n (sk T n s'.1) x (wdP T n (sk T n s'.1), s'.2) with
          | inr F =>
            left
            rw [hb] at Q5
            obtain ⟨p5, R5⟩ := Q5
            obtain ⟨σ6, e6, R6, F6⟩ := s_needSign (d := d + 4) R5 (c := 59) (by omega)
            have b6 := back (ii x) σ6 _ _ _ R6
            refine ⟨σ6, ?_, ⟨_, _, R6⟩, F05.tr (S1_SH F6)⟩
            simp (disch := first | omega | exact b2_01 _ | exact ii0_01 | exact ii1_01 | (simp (disch := omega) only [lit_ii, dr_some, Option.isSome_some, gR_wI, Nat.add_mul_mod_self_left, Nat.reduceMod, ak20, ak21, ak22, ak23, ak24, ak25, ak26, ak27, ak28, ak29, ak30, ak31, ak32, ak33, ak34, ak35, ak36, an20, an21, an22, an23, an24, an25, an26, an27, an28, an29, an30, an31, an32, an33, an34, an35, an36, an37, an38, ne_eq, inR_ii, decide_eq_true_eq, lit_ii, of_ii, ii_eq, ii_lt, ii_le]; first | done | omega)) only [lit_ii, b_House_readClauses_30, b_House_readClauses_37, b_House_readClauses_46, b_House_readClauses_52, z, oi_some, a5, e5, e6, b6, dr_some, Option.isSome_some, gR_wI, Nat.add_mul_mod_self_left, Nat.reduceMod, ak20, ak21, ak22, ak23, ak24, ak25, ak26, ak27, ak28, ak29, ak30, ak31, ak32, ak33, ak34, ak35, ak36, an20, an21, an22, an23, an24, an25, an26, an27, an28, an29, an30, an31, an32, an33, an34, an35, an36, an37, an38, ↓reduceIte, bk_int, bk_void, bk_long, bkN_int, bkN_void, bkN_long, Nat.reduceAdd, Nat.reduceMul, Nat.reduceSub, Nat.reduceLT, Nat.reduceLeDiff, if_true, if_false, not_true_eq_false, not_false_eq_true, Bool.true_eq_false, Bool.false_eq_true, b2_eq0, Nat.add_zero, Nat.zero_add, Nat.not_lt_zero, Nat.zero_le, ite_true, ite_false, decide_true, decide_false, lit_ii, of_ii, le_T, le_F, lt_T, lt_F, eq_T, eq_F, ii_add, ii_mul, ii_nat, ii_le, ii_lt, ii_eq, inR_ii, ii_add0]
          | inl s5 =>
            rw [hb] at Q5 fw
            obtain ⟨R5, A5⟩ := Q5
            have A5 := A5 rfl
            obtain ⟨y1, y2, y3⟩ := fw
            simp only at y1
            obtain ⟨σ6, e6, R6, F6⟩ := s_needSign (d := d + 4) R5 (c := 59) (by omega)
            have A6 := A5.fs F6 (fun a x y z => by unfold S1 at z; omega)
            simp only
            unfold sgnH
            cases hs : sgB T n s5.1 59 with
            | false =>
              left
              rw [if_neg (by decide)]
              have e3' : blm none (sgF T n s5.1 59) = some (1, sk T n s5.1) := by unfold sgF; rw [hs]; rfl
              rw [e3'] at R6
              have b6 := back (ii x) σ6 _ _ _ R6
              refine ⟨σ6, ?_, ⟨_, _, R6⟩, F05.tr (S1_SH F6)⟩
              simp (disch := first | omega | exact b2_01 _ | exact ii0_01 | exact ii1_01 | (simp (disch := omega) only [lit_ii, dr_some, Option.isSome_some, gR_wI, Nat.add_mul_mod_self_left, Nat.reduceMod, ak20, ak21, ak22, ak23, ak24, ak25, ak26, ak27, ak28, ak29, ak30, ak31, ak32, ak33, ak34, ak35, ak36, an20, an21, an22, an23, an24, an25, an26, an27, an28, an29, an30, an31, an32, an33, an34, an35, an36, an37, an38, ne_eq, inR_ii, decide_eq_true_eq, lit_ii, of_ii, ii_eq, ii_lt, ii_le]; first | done | omega)) only [lit_ii, b_House_readClauses_30, b_House_readClauses_37, b_House_readClauses_46, b_House_readClauses_52, z, oi_some, a5, e5, e6, b6, dr_some, Option.isSome_some, gR_wI, Nat.add_mul_mod_self_left, Nat.reduceMod, ak20, ak21, ak22, ak23, ak24, ak25, ak26, ak27, ak28, ak29, ak30, ak31, ak32, ak33, ak34, ak35, ak36, an20, an21, an22, an23, an24, an25, an26, an27, an28, an29, an30, an31, an32, an33, an34, an35, an36, an37, an38, ↓reduceIte, bk_int, bk_void, bk_long, bkN_int, bkN_void, bkN_long, Nat.reduceAdd, Nat.reduceMul, Nat.reduceSub, Nat.reduceLT, Nat.reduceLeDiff, if_true, if_false, not_true_eq_false, not_false_eq_true, Bool.true_eq_false, Bool.false_eq_true, b2_eq0, Nat.add_zero, Nat.zero_add, Nat.not_lt_zero, Nat.zero_le, ite_true, ite_false, decide_true, decide_false, lit_ii, of_ii, le_T, le_F, lt_T, lt_F, eq_T, eq_F, ii_add, ii_mul, ii_nat, ii_le, ii_lt, ii_eq, inR_ii, ii_add0]
            | true =>
              right
              rw [if_pos rfl]
              have e3' : blm none (sgF T n s5.1 59) = none := by unfold sgF; rw [hs]; rfl
              have e4' : sgP T n s5.1 59 = sk T n s5.1 + 1 := by unfold sgP; rw [hs]; rfl
              rw [e3', e4'] at R6
              have v1 := sk_ge (T := T) y2
              refine ⟨f, _, by omega, ?_, σ6, k + 1, (sk T n s5.1 + 1, s5.2), some (.int (ii x)), _, rfl, R6, A6, y3, by omega, by show n - (sk T n s5.1 + 1) < f; omega, rfl, F05.tr (S1_SH F6)⟩
              simp (disch := first | omega | exact b2_01 _ | exact ii0_01 | exact ii1_01 | (simp (disch := omega) only [lit_ii, dr_some, Option.isSome_some, gR_wI, Nat.add_mul_mod_self_left, Nat.reduceMod, ak20, ak21, ak22, ak23, ak24, ak25, ak26, ak27, ak28, ak29, ak30, ak31, ak32, ak33, ak34, ak35, ak36, an20, an21, an22, an23, an24, an25, an26, an27, an28, an29, an30, an31, an32, an33, an34, an35, an36, an37, an38, ne_eq, inR_ii, decide_eq_true_eq, lit_ii, of_ii, ii_eq, ii_lt, ii_le]; first | done | omega)) only [lit_ii, b_House_readClauses_30, b_House_readClauses_37, b_House_readClauses_46, b_House_readClauses_52, b_House_readClauses_58, z, oi_some, a5, e5, e6, dr_some, Option.isSome_some, gR_wI, Nat.add_mul_mod_self_left, Nat.reduceMod, ak20, ak21, ak22, ak23, ak24, ak25, ak26, ak27, ak28, ak29, ak30, ak31, ak32, ak33, ak34, ak35, ak36, an20, an21, an22, an23, an24, an25, an26, an27, an28, an29, an30, an31, an32, an33, an34, an35, an36, an37, an38, ↓reduceIte, bk_int, bk_void, bk_long, bkN_int, bkN_void, bkN_long, Nat.reduceAdd, Nat.reduceMul, Nat.reduceSub, Nat.reduceLT, Nat.reduceLeDiff, if_true, if_false, not_true_eq_false, not_false_eq_true, Bool.true_eq_false, Bool.false_eq_true, b2_eq0, Nat.add_zero, Nat.zero_add, Nat.not_lt_zero, Nat.zero_le, ite_true, ite_false, decide_true, decide_false, lit_ii, of_ii, le_T, le_F, lt_T, lt_F, eq_T, eq_F, ii_add, ii_mul, ii_nat, ii_le, ii_lt, ii_eq, inR_ii, ii_add0]
    · rw [if_neg z1] at e2 ⊢
      left
      refine ⟨σ2, ?_, ⟨⟨u', R2⟩, A2⟩, F02⟩
      simp (disch := first | omega | exact b2_01 _ | exact ii0_01 | exact ii1_01 | (simp (disch := omega) only [lit_ii, dr_some, Option.isSome_some, gR_wI, Nat.add_mul_mod_self_left, Nat.reduceMod, ak20, ak21, ak22, ak23, ak24, ak25, ak26, ak27, ak28, ak29, ak30, ak31, ak32, ak33, ak34, ak35, ak36, an20, an21, an22, an23, an24, an25, an26, an27, an28, an29, an30, an31, an32, an33, an34, an35, an36, an37, an38, ne_eq, inR_ii, decide_eq_true_eq, lit_ii, of_ii, ii_eq, ii_lt, ii_le]; first | done | omega)) only [lit_ii, b_House_readClauses_2, b_House_readClauses_8, b_House_readClauses_12, b_House_readClauses_15, b_House_readClauses_19, b_House_readClauses_23, g0, e2, ng_ng_eq, Option.isSome_none, dr_some, Option.isSome_some, gR_wI, Nat.add_mul_mod_self_left, Nat.reduceMod, ak20, ak21, ak22, ak23, ak24, ak25, ak26, ak27, ak28, ak29, ak30, ak31, ak32, ak33, ak34, ak35, ak36, an20, an21, an22, an23, an24, an25, an26, an27, an28, an29, an30, an31, an32, an33, an34, an35, an36, an37, an38, ↓reduceIte, bk_int, bk_void, bk_long, bkN_int, bkN_void, bkN_long, Nat.reduceAdd, Nat.reduceMul, Nat.reduceSub, Nat.reduceLT, Nat.reduceLeDiff, if_true, if_false, not_true_eq_false, not_false_eq_true, Bool.true_eq_false, Bool.false_eq_true, b2_eq0, Nat.add_zero, Nat.zero_add, Nat.not_lt_zero, Nat.zero_le, ite_true, ite_false, decide_true, decide_false, lit_ii, of_ii, le_T, le_F, lt_T, lt_F, eq_T, eq_F, ii_add, ii_mul, ii_nat, ii_le, ii_lt, ii_eq, inR_ii, ii_add0]
/-! what a BOOK's text says -/
abbrev BkT : Type := Nat × BK
def addL (B : BK) (m v : Nat) : BK := (B.1 + 1, fun i => if i = m then some v else B.2 i)
def sgnB (T : Nat → Nat) (n c : Nat) (s : BkT) : PR BkT := if sgB T n s.1 c then .inl (sk T n s.1 + 1, s.2) else .inr (1, sk T n s.1)
def bkC (T : Nat → Nat) (n men : Nat) (s : BkT) : PR BkT := match numW T n 0 men s.1 with
  | .inl (p, m) => if (s.2.2 m).isSome then .inr (2, sk T n s.1) else (match numW T n 0 1000 p with
    | .inl (p', v) => sgnB T n 59 (p', addL s.2 m v)
    | .inr F => .inr F)
  | .inr F => .inr F
def bkL (T : Nat → Nat) (n men : Nat) : Nat → BkT → PR BkT
  | 0, s => .inl s
  | f + 1, s => if sk T n s.1 < n then (match bkC T n men (sk T n s.1, s.2) with
    | .inl s' => bkL T n men f s'
    | .inr F => .inr F) else .inl (sk T n s.1, s.2)
def B0 : BK := (0, fun _ => none)
def bkAll (T : Nat → Nat) (n men : Nat) : PR BkT := bkL T n men (n + 1) (0, B0)
theorem bkS_add {B : BK} {m v : Nat} (hm : m < 7) : bkS B ||| 2 ^ m = bkS (addL B m v) := by
  have h := or_bit (bkS B) (bkS_lt B) m hm
  refine bits_ext h.1 (bkS_lt _) (fun k q => ?_)
  rw [h.2 k q, bkS_bit q, bkS_bit q]
  unfold addL
  by_cases e : k = m
  · simp [e]
  · simp [e]
def SB (b a : Nat) : Prop := a = 71 ∨ a = 64 * b ∨ a = 21 + 64 * (b + 1)
theorem S1_SB {b : Nat} {σ σ' : HP} (F : Fs S1 σ σ') : Fs (SB b) σ σ' := F.mono (fun a z => Or.inl z)
theorem BA.s1 {σ σ' : HP} {b : Nat} {B : BK} (A : BA σ b B) (F : Fs S1 σ σ') : BA σ' b B := by
  obtain ⟨a0, a3, a4, a5, a1, a2, av, aw⟩ := A
  exact ⟨(F.R _ _).trans a0, (F.R _ _).trans a3, (F.R _ _).trans a4, (F.R _ _).trans a5, (F.I (by unfold S1; omega)).trans a1, (F.I (by unfold S1; omega)).trans a2, fun m hm v hv => (F.I (by unfold S1; omega)).trans (av m hm v hv), aw⟩
theorem BA.add {σ : HP} {b m v : Nat} {B : BK} (A : BA σ b B) (hm : m < 7) (hv : v ≤ 999) : BA (wI (wI (wI σ (21 + 64 * (b + 1)) m (ii v)) (64 * b) 2 (ii (bkS (addL B m v)))) (64 * b) 1 (ii (B.1 + 1))) b (addL B m v) := by
  obtain ⟨a0, a3, a4, a5, a1, a2, av, aw⟩ := A
  refine ⟨a0, a3, a4, a5, gI_at, ?_, fun k hk x hx => ?_, fun k x hx => ?_⟩
  · rw [gI_nj (by decide), gI_at]
  · rw [gI_ne (by omega), gI_ne (by omega), gI_row]
    unfold addL at hx
    simp only at hx
    by_cases q : k = m
    · rw [if_pos q] at hx ⊢
      cases hx
      rfl
    · rw [if_neg q] at hx ⊢
      exact av k hk x hx
  · unfold addL at hx
    simp only at hx
    by_cases q : k = m
    · rw [if_pos q] at hx
      cases hx
      exact hv
    · rw [if_neg q] at hx
      exact aw k x hx
theorem s_readLines {d n b men u : Nat} {T : Nat → Nat} {σ : HP} (R : RS σ T n 0 none u) (hn : n ≤ 60) (A : BR σ b) (hmen : men ≤ 7) : ∃ σ', callF (d + 9) m_Book_readLines [.ref (64 * b), .ref 71, .int (ii men)] σ = some (.inl none, σ') ∧ (match bkAll T n men with
    | .inl s => (∃ u, RS σ' T n s.1 none u) ∧ BA σ' b s.2
    | .inr F => (∃ p u, RS σ' T n p (some F) u) ∧ ∃ B', BA σ' b B') ∧ Fs (SB b) σ σ' := by
  obtain ⟨σ1, e1, A1, F1⟩ := s_wipe (d := d + 7) A
  have R1 := R.fs F1 (by omega) (by omega)
  have F1' : Fs (SB b) σ σ1 := F1.mono (fun a z => Or.inr (Or.inl z))
  have e0 : callF (d + 9) m_Book_readLines [.ref (64 * b), .ref 71, .int (ii men)] σ = runF (callF (d + 8)) (d + 8) m_Book_readLines (6, [some (.ref (64 * b)), some (.ref 71), some (.int (ii men)), some (.int (ii 0)), none, none, none], [], σ1) := by
    simp (disch := first | omega | exact b2_01 _ | exact ii0_01 | exact ii1_01 | (simp (disch := omega) only [lit_ii, dr_some, Option.isSome_some, gR_wI, Nat.add_mul_mod_self_left, Nat.reduceMod, ak20, ak21, ak22, ak23, ak24, ak25, ak26, ak27, ak28, ak29, ak30, ak31, ak32, ak33, ak34, ak35, ak36, an20, an21, an22, an23, an24, an25, an26, an27, an28, an29, an30, an31, an32, an33, an34, an35, an36, an37, an38, ne_eq, inR_ii, decide_eq_true_eq, lit_ii, of_ii, ii_eq, ii_lt, ii_le]; first | done | omega)) only [lit_ii, e_Book_readLines, b_Book_readLines_0, b_Book_readLines_4, b_Book_readLines_12, b_Book_readLines_16, b_Book_readLines_19, b_Book_readLines_23, b_Book_readLines_27, b_Book_readLines_28, b_Book_readLines_42, b_Book_readLines_48, b_Book_readLines_51, b_Book_readLines_57, b_Book_readLines_60, b_Book_readLines_67, b_Book_readLines_75, b_Book_readLines_83, b_Book_readLines_87, b_Book_readLines_90, b_Book_readLines_101, b_Book_readLines_124, b_Book_readLines_130, e1, dr_some, Option.isSome_some, gR_wI, Nat.add_mul_mod_self_left, Nat.reduceMod, ak20, ak21, ak22, ak23, ak24, ak25, ak26, ak27, ak28, ak29, ak30, ak31, ak32, ak33, ak34, ak35, ak36, an20, an21, an22, an23, an24, an25, an26, an27, an28, an29, an30, an31, an32, an33, an34, an35, an36, an37, an38, ↓reduceIte, bk_int, bk_void, bk_long, bkN_int, bkN_void, bkN_long, Nat.reduceAdd, Nat.reduceMul, Nat.reduceSub, Nat.reduceLT, Nat.reduceLeDiff, if_true, if_false, not_true_eq_false, not_false_eq_true, Bool.true_eq_false, Bool.false_eq_true, b2_eq0, Nat.add_zero, Nat.zero_add, Nat.not_lt_zero, Nat.zero_le, ite_true, ite_false, decide_true, decide_false, lit_ii, of_ii, le_T, le_F, lt_T, lt_F, eq_T, eq_F, ii_add, ii_mul, ii_nat, ii_le, ii_lt, ii_eq, inR_ii, ii_add0]
  rw [e0]
  refine loop_w (Q := fun r => ∃ σ', r = some (.inl none, σ') ∧ (match bkAll T n men with
    | .inl s => (∃ u, RS σ' T n s.1 none u) ∧ BA σ' b s.2
    | .inr F => (∃ p u, RS σ' T n p (some F) u) ∧ ∃ B', BA σ' b B') ∧ Fs (SB b) σ σ') (fun f c => ∃ σ' i s' l4 l5 l6 u', c = (6, [some (.ref (64 * b)), some (.ref 71), some (.int (ii men)), some (.int (ii i)), l4, l5, l6], [], σ') ∧ RS σ' T n s'.1 none u' ∧ BA σ' b s'.2 ∧ 3 * i ≤ s'.1 ∧ n - s'.1 < f ∧ bkL T n men f s' = bkAll T n men ∧ Fs (SB b) σ σ') ?_ (n + 1) _ ⟨σ1, 0, (0, B0), none, none, none, u, rfl, R1, A1, by omega, by omega, rfl, F1'⟩
  rintro f c ⟨σ', i, s', l4, l5, l6, u', rfl, R', A', k1, k3, hq, F'⟩
  rw [← hq]
  cases f with
  | zero => omega
  | succ f =>
    have hp' := R'.2.2.2.2.2.2.1
    have g0 := fun d => s_failed (d := d) R'
    obtain ⟨σ2, e2, R2, F2⟩ := s_peek (d := d + 6) R'
    have q1 := sk_le (T := T) hp'
    have q2 := sk_ge (T := T) hp'
    have qq := sk_sk (T := T) hp'
    have A2 := A'.s1 F2
    have F02 := F'.tr (S1_SB (b := b) F2)
    unfold bt at e2
    rw [bkL]
    by_cases z1 : sk T n s'.1 < n
    · rw [if_pos z1] at e2 ⊢
      have i60 : i < 60 := by omega
      have ht := (R2.2.2.2.2.2.2.2.2.2.1 (sk T n s'.1) (by omega)).2
      have a2 := R2.2.2.1
      have st0 : runF (callF (d + 8)) (d + 8) m_Book_readLines (6, [some (.ref (64 * b)), some (.ref 71), some (.int (ii men)), some (.int (ii i)), l4, l5, l6], [], σ') = runF (callF (d + 8)) (d + 8) m_Book_readLines (28, [some (.ref (64 * b)), some (.ref 71), some (.int (ii men)), some (.int (ii i)), l4, l5, l6], [], σ2) := by
        conv => lhs; simp (disch := first | omega | exact b2_01 _ | exact ii0_01 | exact ii1_01 | (simp (disch := omega) only [lit_ii, dr_some, Option.isSome_some, gR_wI, Nat.add_mul_mod_self_left, Nat.reduceMod, ak20, ak21, ak22, ak23, ak24, ak25, ak26, ak27, ak28, ak29, ak30, ak31, ak32, ak33, ak34, ak35, ak36, an20, an21, an22, an23, an24, an25, an26, an27, an28, an29, an30, an31, an32, an33, an34, an35, an36, an37, an38, ne_eq, inR_ii, decide_eq_true_eq, lit_ii, of_ii, ii_eq, ii_lt, ii_le]; first | done | omega)) only [lit_ii, b_Book_readLines_6, dr_some, Option.isSome_some, gR_wI, Nat.add_mul_mod_self_left, Nat.reduceMod, ak20, ak21, ak22, ak23, ak24, ak25, ak26, ak27, ak28, ak29, ak30, ak31, ak32, ak33, ak34, ak35, ak36, an20, an21, an22, an23, an24, an25, an26, an27, an28, an29, an30, an31, an32, an33, an34, an35, an36, an37, an38, ↓reduceIte, bk_int, bk_void, bk_long, bkN_int, bkN_void, bkN_long, Nat.reduceAdd, Nat.reduceMul, Nat.reduceSub, Nat.reduceLT, Nat.reduceLeDiff, if_true, if_false, not_true_eq_false, not_false_eq_true, Bool.true_eq_false, Bool.false_eq_true, b2_eq0, Nat.add_zero, Nat.zero_add, Nat.not_lt_zero, Nat.zero_le, ite_true, ite_false, decide_true, decide_false, lit_ii, of_ii, le_T, le_F, lt_T, lt_F, eq_T, eq_F, ii_add, ii_mul, ii_nat, ii_le, ii_lt, ii_eq, inR_ii, ii_add0]
        simp (disch := first | omega | exact b2_01 _ | exact ii0_01 | exact ii1_01 | (simp (disch := omega) only [lit_ii, dr_some, Option.isSome_some, gR_wI, Nat.add_mul_mod_self_left, Nat.reduceMod, ak20, ak21, ak22, ak23, ak24, ak25, ak26, ak27, ak28, ak29, ak30, ak31, ak32, ak33, ak34, ak35, ak36, an20, an21, an22, an23, an24, an25, an26, an27, an28, an29, an30, an31, an32, an33, an34, an35, an36, an37, an38, ne_eq, inR_ii, decide_eq_true_eq, lit_ii, of_ii, ii_eq, ii_lt, ii_le]; first | done | omega)) only [lit_ii, b_Book_readLines_12, b_Book_readLines_16, b_Book_readLines_19, b_Book_readLines_23, g0, e2, eq_ng, Option.isSome_none, dr_some, Option.isSome_some, gR_wI, Nat.add_mul_mod_self_left, Nat.reduceMod, ak20, ak21, ak22, ak23, ak24, ak25, ak26, ak27, ak28, ak29, ak30, ak31, ak32, ak33, ak34, ak35, ak36, an20, an21, an22, an23, an24, an25, an26, an27, an28, an29, an30, an31, an32, an33, an34, an35, an36, an37, an38, ↓reduceIte, bk_int, bk_void, bk_long, bkN_int, bkN_void, bkN_long, Nat.reduceAdd, Nat.reduceMul, Nat.reduceSub, Nat.reduceLT, Nat.reduceLeDiff, if_true, if_false, not_true_eq_false, not_false_eq_true, Bool.true_eq_false, Bool.false_eq_true, b2_eq0, Nat.add_zero, Nat.zero_add, Nat.not_lt_zero, Nat.zero_le, ite_true, ite_false, decide_true, decide_false, lit_ii, of_ii, le_T, le_F, lt_T, lt_F, eq_T, eq_F, ii_add, ii_mul, ii_nat, ii_le, ii_lt, ii_eq, inR_ii, ii_add0]
      rw [st0]
      generalize hq0 : sk T n s'.1 = q at *
      obtain ⟨σ3, v, e3, R3, F3, V3⟩ := s_rdN (d := d + 5) R2 (a := 0) (hi := men) (by omega) (by omega)
      have A3 := A2.s1 F3
      have F03 := F02.tr (S1_SB (b := b) F3)
      have g3 := fun d => s_failed (d := d) R3
      have back : ∀ x y z σ4 p4 u4 F, RS σ4 T n p4 (some F) u4 → runF (callF (d + 8)) (d + 8) m_Book_readLines (83, [some (.ref (64 * b)), some (.ref 71), some (.int (ii men)), some (.int (ii i)), x, y, z], [], σ4) = some (.inl none, σ4) := by
        intro x y z σ4 p4 u4 F R4
        have g4 := fun d => s_failed (d := d) R4
        by_cases w : i + 1 = 60
        · simp (disch := first | omega | exact b2_01 _ | exact ii0_01 | exact ii1_01 | (simp (disch := omega) only [lit_ii, dr_some, Option.isSome_some, gR_wI, Nat.add_mul_mod_self_left, Nat.reduceMod, ak20, ak21, ak22, ak23, ak24, ak25, ak26, ak27, ak28, ak29, ak30, ak31, ak32, ak33, ak34, ak35, ak36, an20, an21, an22, an23, an24, an25, an26, an27, an28, an29, an30, an31, an32, an33, an34, an35, an36, an37, an38, ne_eq, inR_ii, decide_eq_true_eq, lit_ii, of_ii, ii_eq, ii_lt, ii_le]; first | done | omega)) only [lit_ii, b_Book_readLines_83, b_Book_readLines_87, b_Book_readLines_124, b_Book_readLines_6, b_Book_readLines_130, g4, Option.isSome_some, w, dr_some, Option.isSome_some, gR_wI, Nat.add_mul_mod_self_left, Nat.reduceMod, ak20, ak21, ak22, ak23, ak24, ak25, ak26, ak27, ak28, ak29, ak30, ak31, ak32, ak33, ak34, ak35, ak36, an20, an21, an22, an23, an24, an25, an26, an27, an28, an29, an30, an31, an32, an33, an34, an35, an36, an37, an38, ↓reduceIte, bk_int, bk_void, bk_long, bkN_int, bkN_void, bkN_long, Nat.reduceAdd, Nat.reduceMul, Nat.reduceSub, Nat.reduceLT, Nat.reduceLeDiff, if_true, if_false, not_true_eq_false, not_false_eq_true, Bool.true_eq_false, Bool.false_eq_true, b2_eq0, Nat.add_zero, Nat.zero_add, Nat.not_lt_zero, Nat.zero_le, ite_true, ite_false, decide_true, decide_false, lit_ii, of_ii, le_T, le_F, lt_T, lt_F, eq_T, eq_F, ii_add, ii_mul, ii_nat, ii_le, ii_lt, ii_eq, inR_ii, ii_add0]
        · simp (disch := first | omega | exact b2_01 _ | exact ii0_01 | exact ii1_01 | (simp (disch := omega) only [lit_ii, dr_some, Option.isSome_some, gR_wI, Nat.add_mul_mod_self_left, Nat.reduceMod, ak20, ak21, ak22, ak23, ak24, ak25, ak26, ak27, ak28, ak29, ak30, ak31, ak32, ak33, ak34, ak35, ak36, an20, an21, an22, an23, an24, an25, an26, an27, an28, an29, an30, an31, an32, an33, an34, an35, an36, an37, an38, ne_eq, inR_ii, decide_eq_true_eq, lit_ii, of_ii, ii_eq, ii_lt, ii_le]; first | done | omega)) only [lit_ii, b_Book_readLines_83, b_Book_readLines_87, b_Book_readLines_124, b_Book_readLines_6, b_Book_readLines_12, b_Book_readLines_16, b_Book_readLines_27, g4, Option.isSome_some, dr_some, Option.isSome_some, gR_wI, Nat.add_mul_mod_self_left, Nat.reduceMod, ak20, ak21, ak22, ak23, ak24, ak25, ak26, ak27, ak28, ak29, ak30, ak31, ak32, ak33, ak34, ak35, ak36, an20, an21, an22, an23, an24, an25, an26, an27, an28, an29, an30, an31, an32, an33, an34, an35, an36, an37, an38, ↓reduceIte, bk_int, bk_void, bk_long, bkN_int, bkN_void, bkN_long, Nat.reduceAdd, Nat.reduceMul, Nat.reduceSub, Nat.reduceLT, Nat.reduceLeDiff, if_true, if_false, not_true_eq_false, not_false_eq_true, Bool.true_eq_false, Bool.false_eq_true, b2_eq0, Nat.add_zero, Nat.zero_add, Nat.not_lt_zero, Nat.zero_le, ite_true, ite_false, decide_true, decide_false, lit_ii, of_ii, le_T, le_F, lt_T, lt_F, eq_T, eq_F, ii_add, ii_mul, ii_nat, ii_le, ii_lt, ii_eq, inR_ii, ii_add0]
      -- what is read behind the man's number
      have rest : ∀ f3 σ4 p4, RS σ4 T n p4 f3 u' → BA σ4 b s'.2 → Fs (SB b) σ σ4 → ∃ σ6 v2, runF (callF (d + 8)) (d + 8) m_Book_readLines (67, [some (.ref (64 * b)), some (.ref 71), some (.int (ii men)), some (.int (ii i)), some (.int (ii q)), some (.int (ii v)), l6], [], σ4) = runF (callF (d + 8)) (d + 8) m_Book_readLines (83, [some (.ref (64 * b)), some (.ref 71), some (.int (ii men)), some (.int (ii i)), some (.int (ii q)), some (.int (ii v)), some (.int (ii v2))], [], σ6) ∧ RS σ6 T n (sgP T n (nmP T n p4) 59) (blm (blm f3 (nmF T n p4 0 1000)) (sgF T n (nmP T n p4) 59)) u' ∧ BA σ6 b s'.2 ∧ Fs (SB b) σ σ6 ∧ (nmF T n p4 0 1000 = none → v2 = nmV T n p4) := by
        intro f3 σ4 p4 R4 A4 F4
        obtain ⟨σ5, v2, e5, R5, F5, V5⟩ := s_rdN (d := d + 5) R4 (a := 0) (hi := 1000) (by omega) (by omega)
        have pr : prI32 1000 = ii 999 := rfl
        rw [pr] at e5
        obtain ⟨σ6, e6, R6, F6⟩ := s_needSign (d := d + 4) R5 (c := 59) (by omega)
        refine ⟨σ6, v2, ?_, R6, (A4.s1 F5).s1 F6, (F4.tr (S1_SB F5)).tr (S1_SB F6), V5⟩
        simp (disch := first | omega | exact b2_01 _ | exact ii0_01 | exact ii1_01 | (simp (disch := omega) only [lit_ii, dr_some, Option.isSome_some, gR_wI, Nat.add_mul_mod_self_left, Nat.reduceMod, ak20, ak21, ak22, ak23, ak24, ak25, ak26, ak27, ak28, ak29, ak30, ak31, ak32, ak33, ak34, ak35, ak36, an20, an21, an22, an23, an24, an25, an26, an27, an28, an29, an30, an31, an32, an33, an34, an35, an36, an37, an38, ne_eq, inR_ii, decide_eq_true_eq, lit_ii, of_ii, ii_eq, ii_lt, ii_le]; first | done | omega)) only [lit_ii, b_Book_readLines_67, b_Book_readLines_75, e5, e6, dr_some, Option.isSome_some, gR_wI, Nat.add_mul_mod_self_left, Nat.reduceMod, ak20, ak21, ak22, ak23, ak24, ak25, ak26, ak27, ak28, ak29, ak30, ak31, ak32, ak33, ak34, ak35, ak36, an20, an21, an22, an23, an24, an25, an26, an27, an28, an29, an30, an31, an32, an33, an34, an35, an36, an37, an38, ↓reduceIte, bk_int, bk_void, bk_long, bkN_int, bkN_void, bkN_long, Nat.reduceAdd, Nat.reduceMul, Nat.reduceSub, Nat.reduceLT, Nat.reduceLeDiff, if_true, if_false, not_true_eq_false, not_false_eq_true, Bool.true_eq_false, Bool.false_eq_true, b2_eq0, Nat.add_zero, Nat.zero_add, Nat.not_lt_zero, Nat.zero_le, ite_true, ite_false, decide_true, decide_false, lit_ii, of_ii, le_T, le_F, lt_T, lt_F, eq_T, eq_F, ii_add, ii_mul, ii_nat, ii_le, ii_lt, ii_eq, inR_ii, ii_add0]
      unfold bkC
      simp only
      cases hv : numW T n 0 men q with
      | inr F =>
        left
        have hf := (numW_f q1 hv).2
        rw [hf] at R3 g3
        obtain ⟨σ6, v2, e6, R6, A6, F6, -⟩ := rest _ σ3 _ R3 A3 F03
        have R6' : RS σ6 T n (sgP T n (nmP T n (nmP T n q)) 59) (some F) u' := R6
        have b6 := back (some (.int (ii q))) (some (.int (ii v))) (some (.int (ii v2))) σ6 _ _ _ R6'
        refine ⟨σ6, ?_, ⟨⟨_, _, R6'⟩, _, A6⟩, F6⟩
        have fs : (blm none (some F)).isSome = true := rfl
        simp (disch := first | omega | exact b2_01 _ | exact ii0_01 | exact ii1_01 | (simp (disch := omega) only [lit_ii, dr_some, Option.isSome_some, gR_wI, Nat.add_mul_mod_self_left, Nat.reduceMod, ak20, ak21, ak22, ak23, ak24, ak25, ak26, ak27, ak28, ak29, ak30, ak31, ak32, ak33, ak34, ak35, ak36, an20, an21, an22, an23, an24, an25, an26, an27, an28, an29, an30, an31, an32, an33, an34, an35, an36, an37, an38, ne_eq, inR_ii, decide_eq_true_eq, lit_ii, of_ii, ii_eq, ii_lt, ii_le]; first | done | omega)) only [lit_ii, b_Book_readLines_28, b_Book_readLines_42, b_Book_readLines_48, a2, pr_sub, e3, g3, fs, e6, b6, dr_some, Option.isSome_some, gR_wI, Nat.add_mul_mod_self_left, Nat.reduceMod, ak20, ak21, ak22, ak23, ak24, ak25, ak26, ak27, ak28, ak29, ak30, ak31, ak32, ak33, ak34, ak35, ak36, an20, an21, an22, an23, an24, an25, an26, an27, an28, an29, an30, an31, an32, an33, an34, an35, an36, an37, an38, ↓reduceIte, bk_int, bk_void, bk_long, bkN_int, bkN_void, bkN_long, Nat.reduceAdd, Nat.reduceMul, Nat.reduceSub, Nat.reduceLT, Nat.reduceLeDiff, if_true, if_false, not_true_eq_false, not_false_eq_true, Bool.true_eq_false, Bool.false_eq_true, b2_eq0, Nat.add_zero, Nat.zero_add, Nat.not_lt_zero, Nat.zero_le, ite_true, ite_false, decide_true, decide_false, lit_ii, of_ii, le_T, le_F, lt_T, lt_F, eq_T, eq_F, ii_add, ii_mul, ii_nat, ii_le, ii_lt, ii_eq, inR_ii, ii_add0]
      | inl z =>
        obtain ⟨p1, m⟩ := z
        obtain ⟨a1, a2', a3, a4, a5, a6, a7⟩ := numW_fwd q1 hv
        have V3' := V3 a7
        rw [← a6] at V3'
        subst V3'
        rw [a7, ← a5] at R3
        have R3' : RS σ3 T n p1 none u' := R3
        have g3' := fun d => s_failed (d := d) R3'
        have hl := fun d => s_hasLine (d := d) A3 (m := v) (by omega)
        simp only
        cases hsm : (s'.2.2 v).isSome with
        | true =>
          left
          rw [if_pos rfl]
          rw [hsm] at hl
          obtain ⟨σ4, e4, R4, F4⟩ := s_blame (d := d + 7) R3' (k := 2) (q := q) (by omega) (by omega)
          obtain ⟨σ6, v2, e6, R6, A6, F6, -⟩ := rest _ σ4 _ R4 (A3.s1 F4) (F03.tr (S1_SB F4))
          have R6' : RS σ6 T n (sgP T n (nmP T n p1) 59) (some (2, q)) u' := R6
          have b6 := back (some (.int (ii q))) (some (.int (ii v))) (some (.int (ii v2))) σ6 _ _ _ R6'
          refine ⟨σ6, ?_, ⟨⟨_, _, by rw [qq]; exact R6'⟩, _, A6⟩, F6⟩
          simp (disch := first | omega | exact b2_01 _ | exact ii0_01 | exact ii1_01 | (simp (disch := omega) only [lit_ii, dr_some, Option.isSome_some, gR_wI, Nat.add_mul_mod_self_left, Nat.reduceMod, ak20, ak21, ak22, ak23, ak24, ak25, ak26, ak27, ak28, ak29, ak30, ak31, ak32, ak33, ak34, ak35, ak36, an20, an21, an22, an23, an24, an25, an26, an27, an28, an29, an30, an31, an32, an33, an34, an35, an36, an37, an38, ne_eq, inR_ii, decide_eq_true_eq, lit_ii, of_ii, ii_eq, ii_lt, ii_le]; first | done | omega)) only [lit_ii, b_Book_readLines_28, b_Book_readLines_42, b_Book_readLines_48, b_Book_readLines_51, b_Book_readLines_57, b_Book_readLines_60, a2, pr_sub, e3, g3', Option.isSome_none, hl, e4, e6, b6, dr_some, Option.isSome_some, gR_wI, Nat.add_mul_mod_self_left, Nat.reduceMod, ak20, ak21, ak22, ak23, ak24, ak25, ak26, ak27, ak28, ak29, ak30, ak31, ak32, ak33, ak34, ak35, ak36, an20, an21, an22, an23, an24, an25, an26, an27, an28, an29, an30, an31, an32, an33, an34, an35, an36, an37, an38, ↓reduceIte, bk_int, bk_void, bk_long, bkN_int, bkN_void, bkN_long, Nat.reduceAdd, Nat.reduceMul, Nat.reduceSub, Nat.reduceLT, Nat.reduceLeDiff, if_true, if_false, not_true_eq_false, not_false_eq_true, Bool.true_eq_false, Bool.false_eq_true, b2_eq0, Nat.add_zero, Nat.zero_add, Nat.not_lt_zero, Nat.zero_le, ite_true, ite_false, decide_true, decide_false, lit_ii, of_ii, le_T, le_F, lt_T, lt_F, eq_T, eq_F, ii_add, ii_mul, ii_nat, ii_le, ii_lt, ii_eq, inR_ii, ii_add0]
        | false =>
          rw [if_neg (by decide)]
          rw [hsm] at hl
          obtain ⟨σ6, v2, e6, R6, A6, F6, V6⟩ := rest _ σ3 _ R3' A3 F03
          have st : runF (callF (d + 8)) (d + 8) m_Book_readLines (28, [some (.ref (64 * b)), some (.ref 71), some (.int (ii men)), some (.int (ii i)), l4, l5, l6], [], σ2) = runF (callF (d + 8)) (d + 8) m_Book_readLines (83, [some (.ref (64 * b)), some (.ref 71), some (.int (ii men)), some (.int (ii i)), some (.int (ii q)), some (.int (ii v)), some (.int (ii v2))], [], σ6) := by
            simp (disch := first | omega | exact b2_01 _ | exact ii0_01 | exact ii1_01 | (simp (disch := omega) only [lit_ii, dr_some, Option.isSome_some, gR_wI, Nat.add_mul_mod_self_left, Nat.reduceMod, ak20, ak21, ak22, ak23, ak24, ak25, ak26, ak27, ak28, ak29, ak30, ak31, ak32, ak33, ak34, ak35, ak36, an20, an21, an22, an23, an24, an25, an26, an27, an28, an29, an30, an31, an32, an33, an34, an35, an36, an37, an38, ne_eq, inR_ii, decide_eq_true_eq, lit_ii, of_ii, ii_eq, ii_lt, ii_le]; first | done | omega)) only [lit_ii, b_Book_readLines_28, b_Book_readLines_42, b_Book_readLines_48, b_Book_readLines_51, b_Book_readLines_57, a2, pr_sub, e3, g3', Option.isSome_none, hl, e6, dr_some, Option.isSome_some, gR_wI, Nat.add_mul_mod_self_left, Nat.reduceMod, ak20, ak21, ak22, ak23, ak24, ak25, ak26, ak27, ak28, ak29, ak30, ak31, ak32, ak33, ak34, ak35, ak36, an20, an21, an22, an23, an24, an25, an26, an27, an28, an29, an30, an31, an32, an33, an34, an35, an36, an37, an38, ↓reduceIte, bk_int, bk_void, bk_long, bkN_int, bkN_void, bkN_long, Nat.reduceAdd, Nat.reduceMul, Nat.reduceSub, Nat.reduceLT, Nat.reduceLeDiff, if_true, if_false, not_true_eq_false, not_false_eq_true, Bool.true_eq_false, Bool.false_eq_true, b2_eq0, Nat.add_zero, Nat.zero_add, Nat.not_lt_zero, Nat.zero_le, ite_true, ite_false, decide_true, decide_false, lit_ii, of_ii, le_T, le_F, lt_T, lt_F, eq_T, eq_F, ii_add, ii_mul, ii_nat, ii_le, ii_lt, ii_eq, inR_ii, ii_add0]
          rw [st]
          cases hv2 : numW T n 0 1000 p1 with
          | inr F =>
            left
            have hf := (numW_f a2' hv2).2
            rw [hf] at R6
            have R6' : RS σ6 T n (sgP T n (nmP T n p1) 59) (some F) u' := R6
            have b6 := back (some (.int (ii q))) (some (.int (ii v))) (some (.int (ii v2))) σ6 _ _ _ R6'
            exact ⟨σ6, b6, ⟨⟨_, _, R6'⟩, _, A6⟩, F6⟩
          | inl z2 =>
            obtain ⟨p2, y2⟩ := z2
            obtain ⟨b1, b2', b3, b4, b5, b6', b7⟩ := numW_fwd a2' hv2
            have V6' := V6 b7
            rw [← b6'] at V6'
            subst V6'
            rw [b7, ← b5] at R6
            simp only
            unfold sgnB
            simp only
            cases hs : sgB T n p2 59 with
            | false =>
              left
              rw [if_neg (by decide)]
              have e3' : sgF T n p2 59 = some (1, sk T n p2) := by unfold sgF; rw [hs]; rfl
              rw [e3'] at R6
              have R6' : RS σ6 T n (sgP T n p2 59) (some (1, sk T n p2)) u' := R6
              have b6 := back (some (.int (ii q))) (some (.int (ii v))) (some (.int (ii v2))) σ6 _ _ _ R6'
              exact ⟨σ6, b6, ⟨⟨_, _, R6'⟩, _, A6⟩, F6⟩
            | true =>
              right
              rw [if_pos rfl]
              have e3' : sgF T n p2 59 = none := by unfold sgF; rw [hs]; rfl
              have e4' : sgP T n p2 59 = sk T n p2 + 1 := by unfold sgP; rw [hs]; rfl
              rw [e3', e4'] at R6
              have R6' : RS σ6 T n (sk T n p2 + 1) none u' := R6
              have g6 := fun d => s_failed (d := d) R6'
              have y1 := sk_ge (T := T) b2'
              have A7 := A6.add (m := v) (v := v2) (by omega) (by omega)
              have R7 := ((R6'.w (a := 21 + 64 * (b + 1)) (j := v) (v := ii v2) (by omega) (by omega)).w (a := 64 * b) (j := 2) (v := ii (bkS (addL s'.2 v v2))) (by omega) (by omega)).w (a := 64 * b) (j := 1) (v := ii (s'.2.1 + 1)) (by omega) (by omega)
              have so := bkS_add (B := s'.2) (m := v) (v := v2) (by omega)
              have c0 := A6.1
              have c1 := A6.2.2.2.2.1
              have c2 := A6.2.2.2.2.2.1
              refine ⟨f, _, by omega, ?_, _, i + 1, (sk T n p2 + 1, addL s'.2 v v2), some (.int (ii q)), some (.int (ii v)), some (.int (ii v2)), u', rfl, R7, A7, by show 3 * (i + 1) ≤ sk T n p2 + 1; omega, by show n - (sk T n p2 + 1) < f; omega, rfl, Fs.w (Fs.w (Fs.w F6 (Or.inr (Or.inr rfl))) (Or.inr (Or.inl rfl))) (Or.inr (Or.inl rfl))⟩
              simp (disch := first | omega | exact b2_01 _ | exact ii0_01 | exact ii1_01 | (simp (disch := omega) only [c0, dr_some, Option.isSome_some, gR_wI, Nat.add_mul_mod_self_left, Nat.reduceMod, ak20, ak21, ak22, ak23, ak24, ak25, ak26, ak27, ak28, ak29, ak30, ak31, ak32, ak33, ak34, ak35, ak36, an20, an21, an22, an23, an24, an25, an26, an27, an28, an29, an30, an31, an32, an33, an34, an35, an36, an37, an38, ne_eq, inR_ii, decide_eq_true_eq, lit_ii, of_ii, ii_eq, ii_lt, ii_le]; first | done | omega)) only [c0, b_Book_readLines_83, b_Book_readLines_87, b_Book_readLines_90, b_Book_readLines_101, b_Book_readLines_124, g6, Option.isSome_none, s_put, gI_ne, gI_nj, c1, c2, shl1, ii_or, so, dr_some, Option.isSome_some, gR_wI, Nat.add_mul_mod_self_left, Nat.reduceMod, ak20, ak21, ak22, ak23, ak24, ak25, ak26, ak27, ak28, ak29, ak30, ak31, ak32, ak33, ak34, ak35, ak36, an20, an21, an22, an23, an24, an25, an26, an27, an28, an29, an30, an31, an32, an33, an34, an35, an36, an37, an38, ↓reduceIte, bk_int, bk_void, bk_long, bkN_int, bkN_void, bkN_long, Nat.reduceAdd, Nat.reduceMul, Nat.reduceSub, Nat.reduceLT, Nat.reduceLeDiff, if_true, if_false, not_true_eq_false, not_false_eq_true, Bool.true_eq_false, Bool.false_eq_true, b2_eq0, Nat.add_zero, Nat.zero_add, Nat.not_lt_zero, Nat.zero_le, ite_true, ite_false, decide_true, decide_false, lit_ii, of_ii, le_T, le_F, lt_T, lt_F, eq_T, eq_F, ii_add, ii_mul, ii_nat, ii_le, ii_lt, ii_eq, inR_ii, ii_add0]
    · rw [if_neg z1] at e2 ⊢
      left
      refine ⟨σ2, ?_, ⟨⟨u', R2⟩, A2⟩, F02⟩
      have w : i < 60 := by omega
      simp (disch := first | omega | exact b2_01 _ | exact ii0_01 | exact ii1_01 | (simp (disch := omega) only [lit_ii, dr_some, Option.isSome_some, gR_wI, Nat.add_mul_mod_self_left, Nat.reduceMod, ak20, ak21, ak22, ak23, ak24, ak25, ak26, ak27, ak28, ak29, ak30, ak31, ak32, ak33, ak34, ak35, ak36, an20, an21, an22, an23, an24, an25, an26, an27, an28, an29, an30, an31, an32, an33, an34, an35, an36, an37, an38, ne_eq, inR_ii, decide_eq_true_eq, lit_ii, of_ii, ii_eq, ii_lt, ii_le]; first | done | omega)) only [lit_ii, b_Book_readLines_6, b_Book_readLines_12, b_Book_readLines_16, b_Book_readLines_19, b_Book_readLines_23, b_Book_readLines_27, g0, e2, ng_ng_eq, Option.isSome_none, dr_some, Option.isSome_some, gR_wI, Nat.add_mul_mod_self_left, Nat.reduceMod, ak20, ak21, ak22, ak23, ak24, ak25, ak26, ak27, ak28, ak29, ak30, ak31, ak32, ak33, ak34, ak35, ak36, an20, an21, an22, an23, an24, an25, an26, an27, an28, an29, an30, an31, an32, an33, an34, an35, an36, an37, an38, ↓reduceIte, bk_int, bk_void, bk_long, bkN_int, bkN_void, bkN_long, Nat.reduceAdd, Nat.reduceMul, Nat.reduceSub, Nat.reduceLT, Nat.reduceLeDiff, if_true, if_false, not_true_eq_false, not_false_eq_true, Bool.true_eq_false, Bool.false_eq_true, b2_eq0, Nat.add_zero, Nat.zero_add, Nat.not_lt_zero, Nat.zero_le, ite_true, ite_false, decide_true, decide_false, lit_ii, of_ii, le_T, le_F, lt_T, lt_F, eq_T, eq_F, ii_add, ii_mul, ii_nat, ii_le, ii_lt, ii_eq, inR_ii, ii_add0]
