theorem w_fin {d o : Nat} {τ : HP} {T : Nat → Nat} {n : Nat} {r : PR WkT} {l1 l2 l3 : Option Value} (Q : WQm τ T n o r) : ∃ σ', runF (callF (d + 2)) (d + 2) m_Mo_readStep (210, [some (.ref 3980), l1, l2, l3], [], τ) = some (.inl none, σ') ∧ WQm σ' T n o (bndW r (sgnW T n 59)) ∧ Fm MwF τ σ' := by
  obtain ⟨σ', e, Q', F'⟩ := w_sign (d := d) (c := 59) Q (by omega) (by omega)
  refine ⟨σ', ?_, Q', F'⟩
  simp (disch := first | omega | exact b2_01 _ | exact ii0_01 | exact ii1_01 | (simp (disch := omega) only [e, dr_some, Option.isSome_some, gR_wI, Nat.add_mul_mod_self_left, Nat.reduceMod, ak20, ak21, ak22, ak23, ak24, ak25, ak26, ak27, ak28, ak29, ak30, ak31, ak32, ak33, ak34, ak35, ak36, an20, an21, an22, an23, an24, an25, an26, an27, an28, an29, an30, an31, an32, an33, an34, an35, an36, an37, an38, ne_eq, inR_ii, decide_eq_true_eq, lit_ii, of_ii, ii_eq, ii_lt, ii_le]; first | done | omega)) only [e, b_Mo_readStep_210, b_Mo_readStep_216, dr_some, Option.isSome_some, gR_wI, Nat.add_mul_mod_self_left, Nat.reduceMod, ak20, ak21, ak22, ak23, ak24, ak25, ak26, ak27, ak28, ak29, ak30, ak31, ak32, ak33, ak34, ak35, ak36, an20, an21, an22, an23, an24, an25, an26, an27, an28, an29, an30, an31, an32, an33, an34, an35, an36, an37, an38, ↓reduceIte, bk_int, bk_void, bk_long, bkN_int, bkN_void, bkN_long, Nat.reduceAdd, Nat.reduceMul, Nat.reduceSub, Nat.reduceLT, Nat.reduceLeDiff, if_true, if_false, not_true_eq_false, not_false_eq_true, Bool.true_eq_false, Bool.false_eq_true, b2_eq0, Nat.add_zero, Nat.zero_add, Nat.not_lt_zero, Nat.zero_le, ite_true, ite_false, decide_true, decide_false, lit_ii, of_ii, le_T, le_F, lt_T, lt_F, eq_T, eq_F, ii_add, ii_mul, ii_nat, ii_le, ii_lt, ii_eq, inR_ii, ii_add0]
theorem pr30 : ii 30 = prI32 31 := (pr_s 30).symm
theorem w_step {T : Nat → Nat} {n o b r : Nat} {H : HH} {St : WkT → PR WkT} {L : WkT → PR WkT} (hr : o + r = 6) (hw : wH H) (hL : r = 0 ∨ (SCm T n H (o + 1) b St ∧ L = wkL T n St false (n + 1) ∧ (∀ s : WkT, s.1 ≤ n → wfw n 1 s (St s)) ∧ ∀ s : WkT, s.1 ≤ n → wpf s (St s))) (hb : 11 ≤ b) (hn : n ≤ 150) : SCm T n H o (b + 1) (wkSt T n H L r) := by
  intro e he σ s A hsk N hs ho hH
  obtain ⟨e, rfl⟩ : ∃ k, e = k + 12 := ⟨e - 12, by omega⟩
  have hh := hw.1
  have hp := A.p
  obtain ⟨σ1, e1, A1, F1⟩ := r_word (d := e + 9) A
  rw [hsk] at A1
  have N1 := N.rd (Mat_rd F1)
  have o1 : gI σ1 3980 7 = ii o := (F1.I (by unfold Mat; omega)).trans ho
  have so := fun d => r_stepOf (d := d) A1
  have H1 := hH.wf (Mat_wF F1)
  suffices key : ∃ τ l1 l2 l3, callF (e + 12) m_Mo_readStep [.ref 3980] σ = runF (callF (e + 11)) (e + 11) m_Mo_readStep (210, [some (.ref 3980), l1, l2, l3], [], τ) ∧ WQm τ T n o (wkSt T n H L r s) ∧ Fm MwF σ τ by
    obtain ⟨τ, l1, l2, l3, e9, Q9, F9⟩ := key
    obtain ⟨σ', e', Q', F'⟩ := w_fin (d := e + 9) (l1 := l1) (l2 := l2) (l3 := l3) Q9
    exact ⟨σ', e9.trans e', Q', F9.tr F'⟩
  have elt : ltE T n s.1 = wdP T n s.1 := by
    unfold wdP
    rw [hsk]
  unfold wkSt
  cases hx : wdX 3 T n s.1 with
  | none =>
    rw [hx] at so
    have R2 := A1.bad (q := s.1) (k := 1) (by omega) (by omega)
    have e4 := A1.2.2.2.1
    refine ⟨_, some (.int (-ii 1)), none, none, ?_, by show RB _ (1, sk T n s.1); rw [hsk]; exact R2, ((Mat_wF F1).w (by unfold MwF; omega)).w (by unfold MwF; omega)⟩
    simp (disch := first | omega | exact b2_01 _ | exact ii0_01 | exact ii1_01 | (simp (disch := omega) only [e1, so, e4, dr_some, Option.isSome_some, gR_wI, Nat.add_mul_mod_self_left, Nat.reduceMod, ak20, ak21, ak22, ak23, ak24, ak25, ak26, ak27, ak28, ak29, ak30, ak31, ak32, ak33, ak34, ak35, ak36, an20, an21, an22, an23, an24, an25, an26, an27, an28, an29, an30, an31, an32, an33, an34, an35, an36, an37, an38, ne_eq, inR_ii, decide_eq_true_eq, lit_ii, of_ii, ii_eq, ii_lt, ii_le]; first | done | omega)) only [e1, so, e4, e_Mo_readStep, b_Mo_readStep_0, b_Mo_readStep_4, b_Mo_readStep_7, b_Mo_readStep_13, b_Mo_readStep_22, r_wrong A1, oi_none, ng_ng_eq, dr_some, Option.isSome_some, gR_wI, Nat.add_mul_mod_self_left, Nat.reduceMod, ak20, ak21, ak22, ak23, ak24, ak25, ak26, ak27, ak28, ak29, ak30, ak31, ak32, ak33, ak34, ak35, ak36, an20, an21, an22, an23, an24, an25, an26, an27, an28, an29, an30, an31, an32, an33, an34, an35, an36, an37, an38, ↓reduceIte, bk_int, bk_void, bk_long, bkN_int, bkN_void, bkN_long, Nat.reduceAdd, Nat.reduceMul, Nat.reduceSub, Nat.reduceLT, Nat.reduceLeDiff, if_true, if_false, not_true_eq_false, not_false_eq_true, Bool.true_eq_false, Bool.false_eq_true, b2_eq0, Nat.add_zero, Nat.zero_add, Nat.not_lt_zero, Nat.zero_le, ite_true, ite_false, decide_true, decide_false, lit_ii, of_ii, le_T, le_F, lt_T, lt_F, eq_T, eq_F, ii_add, ii_mul, ii_nat, ii_le, ii_lt, ii_eq, inR_ii, ii_add0]
  | some x =>
    rw [hx] at so
    have g1 := wd3_fwd hx
    have g2 := wdP_le (T := T) hp.1
    rw [hsk] at g1
    have lenx := wk3l hx
    rw [hsk, elt] at lenx
    simp only
    by_cases x7 : x = 7
    · rw [if_pos x7]
      subst x7
      have wp5 : wdP T n s.1 = s.1 + 5 := by
        have : slen (19 + 7) = 5 := by decide +kernel
        omega
      have ea : callF (e + 12) m_Mo_readStep [.ref 3980] σ = runF (callF (e + 11)) (e + 11) m_Mo_readStep (31, [some (.ref 3980), some (.int (ii 7)), none, none], [], σ1) := by
        simp (disch := first | omega | exact b2_01 _ | exact ii0_01 | exact ii1_01 | (simp (disch := omega) only [e1, so, dr_some, Option.isSome_some, gR_wI, Nat.add_mul_mod_self_left, Nat.reduceMod, ak20, ak21, ak22, ak23, ak24, ak25, ak26, ak27, ak28, ak29, ak30, ak31, ak32, ak33, ak34, ak35, ak36, an20, an21, an22, an23, an24, an25, an26, an27, an28, an29, an30, an31, an32, an33, an34, an35, an36, an37, an38, ne_eq, inR_ii, decide_eq_true_eq, lit_ii, of_ii, ii_eq, ii_lt, ii_le]; first | done | omega)) only [e1, so, e_Mo_readStep, b_Mo_readStep_0, b_Mo_readStep_4, b_Mo_readStep_7, b_Mo_readStep_25, oi_some, eq_ng, dr_some, Option.isSome_some, gR_wI, Nat.add_mul_mod_self_left, Nat.reduceMod, ak20, ak21, ak22, ak23, ak24, ak25, ak26, ak27, ak28, ak29, ak30, ak31, ak32, ak33, ak34, ak35, ak36, an20, an21, an22, an23, an24, an25, an26, an27, an28, an29, an30, an31, an32, an33, an34, an35, an36, an37, an38, ↓reduceIte, bk_int, bk_void, bk_long, bkN_int, bkN_void, bkN_long, Nat.reduceAdd, Nat.reduceMul, Nat.reduceSub, Nat.reduceLT, Nat.reduceLeDiff, if_true, if_false, not_true_eq_false, not_false_eq_true, Bool.true_eq_false, Bool.false_eq_true, b2_eq0, Nat.add_zero, Nat.zero_add, Nat.not_lt_zero, Nat.zero_le, ite_true, ite_false, decide_true, decide_false, lit_ii, of_ii, le_T, le_F, lt_T, lt_F, eq_T, eq_F, ii_add, ii_mul, ii_nat, ii_le, ii_lt, ii_eq, inR_ii, ii_add0]
      rw [ea]
      -- a fault anywhere: the rest passes over
      have rest : ∀ {G : Nat × Nat} {τ : HP} {l2 l3 : Option Value}, RB τ G → ∃ τ' l1 l2' l3', runF (callF (e + 11)) (e + 11) m_Mo_readStep (63, [some (.ref 3980), some (.int (ii 7)), l2, l3], [], τ) = runF (callF (e + 11)) (e + 11) m_Mo_readStep (210, [some (.ref 3980), l1, l2', l3'], [], τ') ∧ RB τ' G ∧ Fm MwF τ τ' := by
        intro G τ l2 l3 R
        have R' := R.o (v := gI τ 3980 7 - ii 1)
        refine ⟨wI τ 3980 7 (gI τ 3980 7 - ii 1), some (.int (ii 7)), l2, l3, ?_, R', Fm.rf.w (by unfold MwF; omega)⟩
        conv => lhs; simp (disch := first | omega | exact b2_01 _ | exact ii0_01 | exact ii1_01 | (simp (disch := omega) only [Nat.le_refl, dr_some, Option.isSome_some, gR_wI, Nat.add_mul_mod_self_left, Nat.reduceMod, ak20, ak21, ak22, ak23, ak24, ak25, ak26, ak27, ak28, ak29, ak30, ak31, ak32, ak33, ak34, ak35, ak36, an20, an21, an22, an23, an24, an25, an26, an27, an28, an29, an30, an31, an32, an33, an34, an35, an36, an37, an38, ne_eq, inR_ii, decide_eq_true_eq, lit_ii, of_ii, ii_eq, ii_lt, ii_le]; first | done | omega)) only [Nat.le_refl, b_Mo_readStep_63, b_Mo_readStep_67, b_Mo_readStep_86, b_Mo_readStep_92, b_Mo_readStep_106, b_Mo_readStep_121, r_fineF R, r_signB R, r_fineF R', dr_some, Option.isSome_some, gR_wI, Nat.add_mul_mod_self_left, Nat.reduceMod, ak20, ak21, ak22, ak23, ak24, ak25, ak26, ak27, ak28, ak29, ak30, ak31, ak32, ak33, ak34, ak35, ak36, an20, an21, an22, an23, an24, an25, an26, an27, an28, an29, an30, an31, an32, an33, an34, an35, an36, an37, an38, ↓reduceIte, bk_int, bk_void, bk_long, bkN_int, bkN_void, bkN_long, Nat.reduceAdd, Nat.reduceMul, Nat.reduceSub, Nat.reduceLT, Nat.reduceLeDiff, if_true, if_false, not_true_eq_false, not_false_eq_true, Bool.true_eq_false, Bool.false_eq_true, b2_eq0, Nat.add_zero, Nat.zero_add, Nat.not_lt_zero, Nat.zero_le, ite_true, ite_false, decide_true, decide_false, lit_ii, of_ii, le_T, le_F, lt_T, lt_F, eq_T, eq_F, ii_add, ii_mul, ii_nat, ii_le, ii_lt, ii_eq, inR_ii, ii_add0]
      by_cases r0 : r = 0
      · rw [if_pos r0]
        have o6 : o = 6 := by omega
        rw [o6] at o1
        obtain ⟨σ2, e2, R2, F2⟩ := r_opensF' (d := e + 9) (x := ii 5) A1 o1
        obtain ⟨τ', l1, l2', l3', e3, R3, F3⟩ := rest (l2 := some (.int (ii 0))) (l3 := some (.int (gI σ2 3980 32))) R2
        refine ⟨τ', l1, l2', l3', ?_, by show RB _ (3, sk T n s.1); rw [hsk]; exact R3, ((Mat_wF F1).tr (F2.mono (fun a j z => by unfold MwF; omega))).tr F3⟩
        · rw [← e3]
          conv => lhs; simp (disch := first | omega | exact b2_01 _ | exact ii0_01 | exact ii1_01 | (simp (disch := omega) only [e2, dr_some, Option.isSome_some, gR_wI, Nat.add_mul_mod_self_left, Nat.reduceMod, ak20, ak21, ak22, ak23, ak24, ak25, ak26, ak27, ak28, ak29, ak30, ak31, ak32, ak33, ak34, ak35, ak36, an20, an21, an22, an23, an24, an25, an26, an27, an28, an29, an30, an31, an32, an33, an34, an35, an36, an37, an38, ne_eq, inR_ii, decide_eq_true_eq, lit_ii, of_ii, ii_eq, ii_lt, ii_le]; first | done | omega)) only [e2, b_Mo_readStep_31, b_Mo_readStep_36, b_Mo_readStep_43, b_Mo_readStep_50, r_numB R2, r_signB R2, r_tellB R2, dr_some, Option.isSome_some, gR_wI, Nat.add_mul_mod_self_left, Nat.reduceMod, ak20, ak21, ak22, ak23, ak24, ak25, ak26, ak27, ak28, ak29, ak30, ak31, ak32, ak33, ak34, ak35, ak36, an20, an21, an22, an23, an24, an25, an26, an27, an28, an29, an30, an31, an32, an33, an34, an35, an36, an37, an38, ↓reduceIte, bk_int, bk_void, bk_long, bkN_int, bkN_void, bkN_long, Nat.reduceAdd, Nat.reduceMul, Nat.reduceSub, Nat.reduceLT, Nat.reduceLeDiff, if_true, if_false, not_true_eq_false, not_false_eq_true, Bool.true_eq_false, Bool.false_eq_true, b2_eq0, Nat.add_zero, Nat.zero_add, Nat.not_lt_zero, Nat.zero_le, ite_true, ite_false, decide_true, decide_false, lit_ii, of_ii, le_T, le_F, lt_T, lt_F, eq_T, eq_F, ii_add, ii_mul, ii_nat, ii_le, ii_lt, ii_eq, inR_ii, ii_add0]
      · rw [if_neg r0]
        obtain ⟨hS, rfl, hSf, hSp⟩ := hL.resolve_left r0
        have e2 := r_opens (d := e + 9) (b := 5) A1 o1 (by omega)
        have A2 : RD (wI (wI σ1 3980 4 (ii (s.1 + 5))) 3980 7 (ii (o + 1))) T n (wdP T n s.1) := by
          rw [wp5]
          exact (A1.at (by omega)).o
        have N2 : NS (wI (wI σ1 3980 4 (ii (s.1 + 5))) 3980 7 (ii (o + 1))) s.2.1 s.2.2 := (N1.rd (Fm.rf.w (by unfold Mrd; omega))).o
        have F2 : Fm MwF σ (wI (wI σ1 3980 4 (ii (s.1 + 5))) 3980 7 (ii (o + 1))) := ((Mat_wF F1).w (by unfold MwF; omega)).w (by unfold MwF; omega)
        have o2 : gI (wI (wI σ1 3980 4 (ii (s.1 + 5))) 3980 7 (ii (o + 1))) 3980 7 = ii (o + 1) := gI_at
        generalize wI (wI σ1 3980 4 (ii (s.1 + 5))) 3980 7 (ii (o + 1)) = σ2 at *
        obtain ⟨σ3, v3, e3, N3, F3⟩ := r_num (d := e + 9) (lo := 0) (hi := 31) (y := ii 30) A2 pr30 (by omega) (by omega)
        have F23 := F2.tr (Mrd_wF F3)
        unfold wkA
        simp only
        cases hn3 : numW T n 0 31 (wdP T n s.1) with
        | inr G =>
          rw [hn3] at N3
          obtain ⟨R3, rfl⟩ := N3
          obtain ⟨τ', l1, l2', l3', e4, R4, F4⟩ := rest (l2 := some (.int (ii 0))) (l3 := some (.int (gI σ3 3980 32))) R3
          refine ⟨τ', l1, l2', l3', ?_, R4, F23.tr F4⟩
          rw [← e4]
          conv => lhs; simp (disch := first | omega | exact b2_01 _ | exact ii0_01 | exact ii1_01 | (simp (disch := omega) only [e2, e3, dr_some, Option.isSome_some, gR_wI, Nat.add_mul_mod_self_left, Nat.reduceMod, ak20, ak21, ak22, ak23, ak24, ak25, ak26, ak27, ak28, ak29, ak30, ak31, ak32, ak33, ak34, ak35, ak36, an20, an21, an22, an23, an24, an25, an26, an27, an28, an29, an30, an31, an32, an33, an34, an35, an36, an37, an38, ne_eq, inR_ii, decide_eq_true_eq, lit_ii, of_ii, ii_eq, ii_lt, ii_le]; first | done | omega)) only [e2, e3, b_Mo_readStep_31, b_Mo_readStep_36, b_Mo_readStep_43, b_Mo_readStep_50, r_signB R3, r_tellB R3, dr_some, Option.isSome_some, gR_wI, Nat.add_mul_mod_self_left, Nat.reduceMod, ak20, ak21, ak22, ak23, ak24, ak25, ak26, ak27, ak28, ak29, ak30, ak31, ak32, ak33, ak34, ak35, ak36, an20, an21, an22, an23, an24, an25, an26, an27, an28, an29, an30, an31, an32, an33, an34, an35, an36, an37, an38, ↓reduceIte, bk_int, bk_void, bk_long, bkN_int, bkN_void, bkN_long, Nat.reduceAdd, Nat.reduceMul, Nat.reduceSub, Nat.reduceLT, Nat.reduceLeDiff, if_true, if_false, not_true_eq_false, not_false_eq_true, Bool.true_eq_false, Bool.false_eq_true, b2_eq0, Nat.add_zero, Nat.zero_add, Nat.not_lt_zero, Nat.zero_le, ite_true, ite_false, decide_true, decide_false, lit_ii, of_ii, le_T, le_F, lt_T, lt_F, eq_T, eq_F, ii_add, ii_mul, ii_nat, ii_le, ii_lt, ii_eq, inR_ii, ii_add0]
        | inl z3 =>
          obtain ⟨p3, v⟩ := z3
          rw [hn3] at N3
          obtain ⟨A3, rfl⟩ := N3
          obtain ⟨q1, q2, q3, q4, -⟩ := numW_fwd g2.2 hn3
          have N3' := N2.rd F3
          have o3 : gI σ3 3980 7 = ii (o + 1) := (F3.I (by unfold Mrd; omega)).trans o2
          simp only
          have hsk3 := sk_ge (T := T) A3.p.1
          unfold sgnW
          cases hs3 : sgB T n p3 91 with
          | false =>
            obtain ⟨σ4, e4, R4, F4⟩ := r_signF (d := e + 9) A3 (c := 91) (by omega) (by omega) hs3
            obtain ⟨τ', l1, l2', l3', e5, R5, F5⟩ := rest (l2 := some (.int (ii v))) (l3 := some (.int (gI σ4 3980 32))) R4
            refine ⟨τ', l1, l2', l3', ?_, by rw [if_neg (by decide)]; exact R5, (F23.tr (Mrd_wF F4)).tr F5⟩
            rw [← e5]
            conv => lhs; simp (disch := first | omega | exact b2_01 _ | exact ii0_01 | exact ii1_01 | (simp (disch := omega) only [e2, e3, e4, dr_some, Option.isSome_some, gR_wI, Nat.add_mul_mod_self_left, Nat.reduceMod, ak20, ak21, ak22, ak23, ak24, ak25, ak26, ak27, ak28, ak29, ak30, ak31, ak32, ak33, ak34, ak35, ak36, an20, an21, an22, an23, an24, an25, an26, an27, an28, an29, an30, an31, an32, an33, an34, an35, an36, an37, an38, ne_eq, inR_ii, decide_eq_true_eq, lit_ii, of_ii, ii_eq, ii_lt, ii_le]; first | done | omega)) only [e2, e3, e4, b_Mo_readStep_31, b_Mo_readStep_36, b_Mo_readStep_43, b_Mo_readStep_50, r_tellB R4, dr_some, Option.isSome_some, gR_wI, Nat.add_mul_mod_self_left, Nat.reduceMod, ak20, ak21, ak22, ak23, ak24, ak25, ak26, ak27, ak28, ak29, ak30, ak31, ak32, ak33, ak34, ak35, ak36, an20, an21, an22, an23, an24, an25, an26, an27, an28, an29, an30, an31, an32, an33, an34, an35, an36, an37, an38, ↓reduceIte, bk_int, bk_void, bk_long, bkN_int, bkN_void, bkN_long, Nat.reduceAdd, Nat.reduceMul, Nat.reduceSub, Nat.reduceLT, Nat.reduceLeDiff, if_true, if_false, not_true_eq_false, not_false_eq_true, Bool.true_eq_false, Bool.false_eq_true, b2_eq0, Nat.add_zero, Nat.zero_add, Nat.not_lt_zero, Nat.zero_le, ite_true, ite_false, decide_true, decide_false, lit_ii, of_ii, le_T, le_F, lt_T, lt_F, eq_T, eq_F, ii_add, ii_mul, ii_nat, ii_le, ii_lt, ii_eq, inR_ii, ii_add0]
          | true =>
            obtain ⟨σ4, e4, A4, F4⟩ := r_signT (d := e + 9) A3 (c := 91) (by omega) (by omega) hs3
            have N4 := N3'.rd (Mat_rd F4)
            have F24 := F23.tr (Mat_wF F4)
            have hb3 := of_decide_eq_true hs3
            obtain ⟨σ5, e5, A5, N5, o5, F5⟩ := r_tell (d := e + 9) (x := 7) (a := v) (b := 0) (b' := ii 0) A4 N4 (by omega) rfl
            have F25 := F24.tr F5
            have o5' : gI σ5 3980 7 = ii (o + 1) := o5.trans ((F4.I (by unfold Mat; omega)).trans o3)
            have c32 := N4.1
            rw [if_pos rfl]
            simp only
            obtain ⟨σ6, e6, Q6, F6⟩ := w_inner hS hSf (d := e + 11) (by omega) (by omega) (l1 := some (.int (ii 7))) (l2 := some (.int (ii v))) (l3 := some (.int (ii (3 * s.2.1)))) (n + 1) (sk T n p3 + 1, s.2.1 + 1, upS s.2.2 s.2.1 (7, v, 0)) σ5 A5 N5 (by show 3 * (s.2.1 + 1) ≤ sk T n p3 + 1; omega) o5' (hH.wf F25) (by show n - (sk T n p3 + 1) < n + 1; omega)
            have F26 := F25.tr F6
            have pf := wkL_pfx (T := T) (top := false) hSf hSp (n + 1) (sk T n p3 + 1, s.2.1 + 1, upS s.2.2 s.2.1 (7, v, 0)) (by show sk T n p3 + 1 ≤ n; omega)
            have fwL := wkL_fwd (T := T) (top := false) hSf (n + 1) (sk T n p3 + 1, s.2.1 + 1, upS s.2.2 s.2.1 (7, v, 0)) (by show sk T n p3 + 1 ≤ n; omega)
            have eb : runF (callF (e + 11)) (e + 11) m_Mo_readStep (31, [some (.ref 3980), some (.int (ii 7)), none, none], [], σ1) = runF (callF (e + 11)) (e + 11) m_Mo_readStep (86, [some (.ref 3980), some (.int (ii 7)), some (.int (ii v)), some (.int (ii (3 * s.2.1)))], [], σ6) := by
              rw [← e6]
              conv => lhs; simp (disch := first | omega | exact b2_01 _ | exact ii0_01 | exact ii1_01 | (simp (disch := omega) only [e2, e3, e4, e5, c32, dr_some, Option.isSome_some, gR_wI, Nat.add_mul_mod_self_left, Nat.reduceMod, ak20, ak21, ak22, ak23, ak24, ak25, ak26, ak27, ak28, ak29, ak30, ak31, ak32, ak33, ak34, ak35, ak36, an20, an21, an22, an23, an24, an25, an26, an27, an28, an29, an30, an31, an32, an33, an34, an35, an36, an37, an38, ne_eq, inR_ii, decide_eq_true_eq, lit_ii, of_ii, ii_eq, ii_lt, ii_le]; first | done | omega)) only [e2, e3, e4, e5, c32, b_Mo_readStep_31, b_Mo_readStep_36, b_Mo_readStep_43, b_Mo_readStep_50, dr_some, Option.isSome_some, gR_wI, Nat.add_mul_mod_self_left, Nat.reduceMod, ak20, ak21, ak22, ak23, ak24, ak25, ak26, ak27, ak28, ak29, ak30, ak31, ak32, ak33, ak34, ak35, ak36, an20, an21, an22, an23, an24, an25, an26, an27, an28, an29, an30, an31, an32, an33, an34, an35, an36, an37, an38, ↓reduceIte, bk_int, bk_void, bk_long, bkN_int, bkN_void, bkN_long, Nat.reduceAdd, Nat.reduceMul, Nat.reduceSub, Nat.reduceLT, Nat.reduceLeDiff, if_true, if_false, not_true_eq_false, not_false_eq_true, Bool.true_eq_false, Bool.false_eq_true, b2_eq0, Nat.add_zero, Nat.zero_add, Nat.not_lt_zero, Nat.zero_le, ite_true, ite_false, decide_true, decide_false, lit_ii, of_ii, le_T, le_F, lt_T, lt_F, eq_T, eq_F, ii_add, ii_mul, ii_nat, ii_le, ii_lt, ii_eq, inR_ii, ii_add0]
            rw [eb]
            unfold wkA2
            cases hL6 : wkL T n St false (n + 1) (sk T n p3 + 1, s.2.1 + 1, upS s.2.2 s.2.1 (7, v, 0)) with
            | inr G =>
              rw [hL6] at Q6
              have R6 : RB σ6 G := Q6
              have R7 := R6.o (v := gI σ6 3980 7 - ii 1)
              refine ⟨wI σ6 3980 7 (gI σ6 3980 7 - ii 1), some (.int (ii 7)), some (.int (ii v)), some (.int (ii (3 * s.2.1))), ?_, R7, F26.w (by unfold MwF; omega)⟩
              conv => lhs; simp (disch := first | omega | exact b2_01 _ | exact ii0_01 | exact ii1_01 | (simp (disch := omega) only [Nat.le_refl, dr_some, Option.isSome_some, gR_wI, Nat.add_mul_mod_self_left, Nat.reduceMod, ak20, ak21, ak22, ak23, ak24, ak25, ak26, ak27, ak28, ak29, ak30, ak31, ak32, ak33, ak34, ak35, ak36, an20, an21, an22, an23, an24, an25, an26, an27, an28, an29, an30, an31, an32, an33, an34, an35, an36, an37, an38, ne_eq, inR_ii, decide_eq_true_eq, lit_ii, of_ii, ii_eq, ii_lt, ii_le]; first | done | omega)) only [Nat.le_refl, b_Mo_readStep_86, b_Mo_readStep_92, b_Mo_readStep_106, b_Mo_readStep_121, r_signB R6, r_fineF R7, dr_some, Option.isSome_some, gR_wI, Nat.add_mul_mod_self_left, Nat.reduceMod, ak20, ak21, ak22, ak23, ak24, ak25, ak26, ak27, ak28, ak29, ak30, ak31, ak32, ak33, ak34, ak35, ak36, an20, an21, an22, an23, an24, an25, an26, an27, an28, an29, an30, an31, an32, an33, an34, an35, an36, an37, an38, ↓reduceIte, bk_int, bk_void, bk_long, bkN_int, bkN_void, bkN_long, Nat.reduceAdd, Nat.reduceMul, Nat.reduceSub, Nat.reduceLT, Nat.reduceLeDiff, if_true, if_false, not_true_eq_false, not_false_eq_true, Bool.true_eq_false, Bool.false_eq_true, b2_eq0, Nat.add_zero, Nat.zero_add, Nat.not_lt_zero, Nat.zero_le, ite_true, ite_false, decide_true, decide_false, lit_ii, of_ii, le_T, le_F, lt_T, lt_F, eq_T, eq_F, ii_add, ii_mul, ii_nat, ii_le, ii_lt, ii_eq, inR_ii, ii_add0]
            | inl s6 =>
              rw [hL6] at Q6 pf fwL
              obtain ⟨A6, N6, o6⟩ := Q6
              obtain ⟨f1, f2, f3, f4⟩ := fwL
              simp only at f1 f3 f4
              have pk : s6.2.2 s.2.1 = (7, v, 0) := by
                have := pf s.2.1 (by show s.2.1 < s.2.1 + 1; omega)
                rw [this]
                exact upS_at
              show ∃ τ l1 l2 l3, _ ∧ WQm τ T n o (wkA3 T n s.2.1 v s6) ∧ _
              unfold wkA3 sgnW
              have hsk6 := sk_ge (T := T) A6.p.1
              have es : ii (o + 1) - ii 1 = ii o := by
                rw [ii_sub (by omega)]
                rfl
              cases hs6 : sgB T n s6.1 93 with
              | false =>
                obtain ⟨σ7, e7, R7, F7⟩ := r_signF (d := e + 9) A6 (c := 93) (by omega) (by omega) hs6
                have R8 := R7.o (v := gI σ7 3980 7 - ii 1)
                refine ⟨wI σ7 3980 7 (gI σ7 3980 7 - ii 1), some (.int (ii 7)), some (.int (ii v)), some (.int (ii (3 * s.2.1))), ?_, by rw [if_neg (by decide)]; exact R8, (F26.tr (Mrd_wF F7)).w (by unfold MwF; omega)⟩
                conv => lhs; simp (disch := first | omega | exact b2_01 _ | exact ii0_01 | exact ii1_01 | (simp (disch := omega) only [e7, dr_some, Option.isSome_some, gR_wI, Nat.add_mul_mod_self_left, Nat.reduceMod, ak20, ak21, ak22, ak23, ak24, ak25, ak26, ak27, ak28, ak29, ak30, ak31, ak32, ak33, ak34, ak35, ak36, an20, an21, an22, an23, an24, an25, an26, an27, an28, an29, an30, an31, an32, an33, an34, an35, an36, an37, an38, ne_eq, inR_ii, decide_eq_true_eq, lit_ii, of_ii, ii_eq, ii_lt, ii_le]; first | done | omega)) only [e7, b_Mo_readStep_86, b_Mo_readStep_92, b_Mo_readStep_106, b_Mo_readStep_121, r_fineF R8, dr_some, Option.isSome_some, gR_wI, Nat.add_mul_mod_self_left, Nat.reduceMod, ak20, ak21, ak22, ak23, ak24, ak25, ak26, ak27, ak28, ak29, ak30, ak31, ak32, ak33, ak34, ak35, ak36, an20, an21, an22, an23, an24, an25, an26, an27, an28, an29, an30, an31, an32, an33, an34, an35, an36, an37, an38, ↓reduceIte, bk_int, bk_void, bk_long, bkN_int, bkN_void, bkN_long, Nat.reduceAdd, Nat.reduceMul, Nat.reduceSub, Nat.reduceLT, Nat.reduceLeDiff, if_true, if_false, not_true_eq_false, not_false_eq_true, Bool.true_eq_false, Bool.false_eq_true, b2_eq0, Nat.add_zero, Nat.zero_add, Nat.not_lt_zero, Nat.zero_le, ite_true, ite_false, decide_true, decide_false, lit_ii, of_ii, le_T, le_F, lt_T, lt_F, eq_T, eq_F, ii_add, ii_mul, ii_nat, ii_le, ii_lt, ii_eq, inR_ii, ii_add0]
              | true =>
                obtain ⟨σ7, e7, A7, F7⟩ := r_signT (d := e + 9) A6 (c := 93) (by omega) (by omega) hs6
                have hb6 := of_decide_eq_true hs6
                have A8 := A7.o (v := ii o)
                have N8 := (N6.rd (Mat_rd F7)).o (v := ii o)
                have o7 : gI σ7 3980 7 = ii (o + 1) := (F7.I (by unfold Mat; omega)).trans o6
                have c8 := N8.1
                have a8 := A8.1
                have F8 : Fm (fun a j => a = 4829) (wI σ7 3980 7 (ii o)) (wI (wI σ7 3980 7 (ii o)) 4829 (3 * s.2.1 + 2) (ii (3 * s6.2.1))) := Fm.rf.w rfl
                rw [if_pos rfl]
                refine ⟨_, some (.int (ii 7)), some (.int (ii v)), some (.int (ii (3 * s.2.1))), ?_, ⟨A8.fm F8 (fun j => by omega) (fun j z => by omega), ⟨(F8.I (by omega)).trans c8, fun i hi => ?_⟩, (F8.I (by omega)).trans gI_at⟩, ((F26.tr (Mat_wF F7)).w (by unfold MwF; omega)).w (by unfold MwF; omega)⟩
                · obtain ⟨z1, z9, z10, z11, z12, z13, z22, z23, z24, z25, z26, z29, z30, z31, z38, z39, z40, z41, z42, z44, z45, z46, z47, z49⟩ := id a8
                  conv => lhs; simp (disch := first | omega | exact ak27 | exact ak29 | exact ak20 | exact ak21 | exact ak22 | exact ak23 | exact ak24 | exact ak25 | exact ak28 | exact ak30 | exact ak31 | exact ak32 | exact ak33 | exact b2_01 _ | exact ii0_01 | exact ii1_01 | (simp (disch := omega) only [z1, z9, z10, z11, z12, z13, z22, z23, z24, z25, z26, z29, z30, z31, z38, z39, z40, z41, z42, z44, z45, z46, z47, z49, e7, o7, c8, es, dr_some, Option.isSome_some, gR_wI, Nat.add_mul_mod_self_left, Nat.reduceMod, ak20, ak21, ak22, ak23, ak24, ak25, ak26, ak27, ak28, ak29, ak30, ak31, ak32, ak33, ak34, ak35, ak36, an20, an21, an22, an23, an24, an25, an26, an27, an28, an29, an30, an31, an32, an33, an34, an35, an36, an37, an38, ne_eq, inR_ii, decide_eq_true_eq, lit_ii, of_ii, ii_eq, ii_lt, ii_le, ii_add, ii_mul, ii_sub, ii_pred, ii_nat]; first | done | omega)) only [z1, z9, z10, z11, z12, z13, z22, z23, z24, z25, z26, z29, z30, z31, z38, z39, z40, z41, z42, z44, z45, z46, z47, z49, e7, o7, c8, es, b_Mo_readStep_86, b_Mo_readStep_92, b_Mo_readStep_106, b_Mo_readStep_109, b_Mo_readStep_121, r_fineT A8, Nat.succ_ne_zero, dr_some, Option.isSome_some, gR_wI, Nat.add_mul_mod_self_left, Nat.reduceMod, ak20, ak21, ak22, ak23, ak24, ak25, ak26, ak27, ak28, ak29, ak30, ak31, ak32, ak33, ak34, ak35, ak36, an20, an21, an22, an23, an24, an25, an26, an27, an28, an29, an30, an31, an32, an33, an34, an35, an36, an37, an38, ↓reduceIte, bk_int, bk_void, bk_long, bkN_int, bkN_void, bkN_long, Nat.reduceAdd, Nat.reduceMul, Nat.reduceSub, Nat.reduceLT, Nat.reduceLeDiff, if_true, if_false, not_true_eq_false, not_false_eq_true, Bool.true_eq_false, Bool.false_eq_true, b2_eq0, Nat.add_zero, Nat.zero_add, Nat.not_lt_zero, Nat.zero_le, ite_true, ite_false, decide_true, decide_false, lit_ii, of_ii, le_T, le_F, lt_T, lt_F, eq_T, eq_F, ii_add, ii_mul, ii_nat, ii_le, ii_lt, ii_eq, inR_ii, ii_add0]
                · have hi' : i < s6.2.1 := hi
                  dsimp only
                  obtain ⟨w1, w2, w3⟩ := N8.2 i hi'
                  by_cases zi : i = s.2.1
                  · subst zi
                    simp only [upS_at, ↓reduceIte]
                    rw [pk] at w1 w2
                    refine ⟨?_, ?_, gI_at⟩
                    · rw [gI_nj (by omega)]; exact w1
                    · rw [gI_nj (by omega)]; exact w2
                  · simp only [upS_ne zi]
                    refine ⟨?_, ?_, ?_⟩
                    · rw [gI_nj (by omega)]; exact w1
                    · rw [gI_nj (by omega)]; exact w2
                    · rw [gI_nj (by omega)]; exact w3
    · rw [if_neg x7]
      obtain ⟨σ2, e2, A2, F2⟩ := r_pass (d := e + 9) A1
      rw [elt] at A2
      have N2 := N1.rd (Mat_rd F2)
      have F12 := (Mat_wF F1).tr (Mat_wF F2)
      have o2 : gI σ2 3980 7 = ii o := (F2.I (by unfold Mat; omega)).trans o1
      have H2 := hH.wf F12
      obtain ⟨m18, m19, m20⟩ := H2
      have ea : callF (e + 12) m_Mo_readStep [.ref 3980] σ = runF (callF (e + 11)) (e + 11) m_Mo_readStep (128, [some (.ref 3980), some (.int (ii x)), none, none], [], σ2) := by
        simp (disch := first | omega | exact b2_01 _ | exact ii0_01 | exact ii1_01 | (simp (disch := omega) only [e1, e2, so, dr_some, Option.isSome_some, gR_wI, Nat.add_mul_mod_self_left, Nat.reduceMod, ak20, ak21, ak22, ak23, ak24, ak25, ak26, ak27, ak28, ak29, ak30, ak31, ak32, ak33, ak34, ak35, ak36, an20, an21, an22, an23, an24, an25, an26, an27, an28, an29, an30, an31, an32, an33, an34, an35, an36, an37, an38, ne_eq, inR_ii, decide_eq_true_eq, lit_ii, of_ii, ii_eq, ii_lt, ii_le]; first | done | omega)) only [e1, e2, so, e_Mo_readStep, b_Mo_readStep_0, b_Mo_readStep_4, b_Mo_readStep_7, b_Mo_readStep_25, b_Mo_readStep_124, oi_some, eq_ng, x7, dr_some, Option.isSome_some, gR_wI, Nat.add_mul_mod_self_left, Nat.reduceMod, ak20, ak21, ak22, ak23, ak24, ak25, ak26, ak27, ak28, ak29, ak30, ak31, ak32, ak33, ak34, ak35, ak36, an20, an21, an22, an23, an24, an25, an26, an27, an28, an29, an30, an31, an32, an33, an34, an35, an36, an37, an38, ↓reduceIte, bk_int, bk_void, bk_long, bkN_int, bkN_void, bkN_long, Nat.reduceAdd, Nat.reduceMul, Nat.reduceSub, Nat.reduceLT, Nat.reduceLeDiff, if_true, if_false, not_true_eq_false, not_false_eq_true, Bool.true_eq_false, Bool.false_eq_true, b2_eq0, Nat.add_zero, Nat.zero_add, Nat.not_lt_zero, Nat.zero_le, ite_true, ite_false, decide_true, decide_false, lit_ii, of_ii, le_T, le_F, lt_T, lt_F, eq_T, eq_F, ii_add, ii_mul, ii_nat, ii_le, ii_lt, ii_eq, inR_ii, ii_add0]
      rw [ea]
      by_cases x46 : x = 4 ∨ x = 6
      · rw [if_pos x46]
        obtain ⟨σ3, e3, A3, N3, o3, F3⟩ := r_tell (d := e + 9) (x := x) (a := 0) (b := 0) (b' := ii 0) A2 N2 (by omega) (by rw [if_neg x7])
        refine ⟨σ3, some (.int (ii x)), some (.int (ii 1)), some (.int (ii 0)), ?_, ⟨A3, N3, o3.trans o2⟩, F12.tr F3⟩
        rcases x46 with rfl | rfl
        · conv => lhs; simp (disch := first | omega | exact b2_01 _ | exact ii0_01 | exact ii1_01 | (simp (disch := omega) only [e3, dr_some, Option.isSome_some, gR_wI, Nat.add_mul_mod_self_left, Nat.reduceMod, ak20, ak21, ak22, ak23, ak24, ak25, ak26, ak27, ak28, ak29, ak30, ak31, ak32, ak33, ak34, ak35, ak36, an20, an21, an22, an23, an24, an25, an26, an27, an28, an29, an30, an31, an32, an33, an34, an35, an36, an37, an38, ne_eq, inR_ii, decide_eq_true_eq, lit_ii, of_ii, ii_eq, ii_lt, ii_le]; first | done | omega)) only [e3, b_Mo_readStep_128, b_Mo_readStep_133, b_Mo_readStep_139, b_Mo_readStep_144, b_Mo_readStep_149, b_Mo_readStep_164, b_Mo_readStep_187, b_Mo_readStep_206, b_Mo_readStep_207, Nat.succ_ne_zero, Nat.reduceEqDiff, dr_some, Option.isSome_some, gR_wI, Nat.add_mul_mod_self_left, Nat.reduceMod, ak20, ak21, ak22, ak23, ak24, ak25, ak26, ak27, ak28, ak29, ak30, ak31, ak32, ak33, ak34, ak35, ak36, an20, an21, an22, an23, an24, an25, an26, an27, an28, an29, an30, an31, an32, an33, an34, an35, an36, an37, an38, ↓reduceIte, bk_int, bk_void, bk_long, bkN_int, bkN_void, bkN_long, Nat.reduceAdd, Nat.reduceMul, Nat.reduceSub, Nat.reduceLT, Nat.reduceLeDiff, if_true, if_false, not_true_eq_false, not_false_eq_true, Bool.true_eq_false, Bool.false_eq_true, b2_eq0, Nat.add_zero, Nat.zero_add, Nat.not_lt_zero, Nat.zero_le, ite_true, ite_false, decide_true, decide_false, lit_ii, of_ii, le_T, le_F, lt_T, lt_F, eq_T, eq_F, ii_add, ii_mul, ii_nat, ii_le, ii_lt, ii_eq, inR_ii, ii_add0]
        · conv => lhs; simp (disch := first | omega | exact b2_01 _ | exact ii0_01 | exact ii1_01 | (simp (disch := omega) only [e3, dr_some, Option.isSome_some, gR_wI, Nat.add_mul_mod_self_left, Nat.reduceMod, ak20, ak21, ak22, ak23, ak24, ak25, ak26, ak27, ak28, ak29, ak30, ak31, ak32, ak33, ak34, ak35, ak36, an20, an21, an22, an23, an24, an25, an26, an27, an28, an29, an30, an31, an32, an33, an34, an35, an36, an37, an38, ne_eq, inR_ii, decide_eq_true_eq, lit_ii, of_ii, ii_eq, ii_lt, ii_le]; first | done | omega)) only [e3, b_Mo_readStep_128, b_Mo_readStep_133, b_Mo_readStep_139, b_Mo_readStep_144, b_Mo_readStep_149, b_Mo_readStep_164, b_Mo_readStep_187, b_Mo_readStep_206, b_Mo_readStep_207, Nat.succ_ne_zero, Nat.reduceEqDiff, dr_some, Option.isSome_some, gR_wI, Nat.add_mul_mod_self_left, Nat.reduceMod, ak20, ak21, ak22, ak23, ak24, ak25, ak26, ak27, ak28, ak29, ak30, ak31, ak32, ak33, ak34, ak35, ak36, an20, an21, an22, an23, an24, an25, an26, an27, an28, an29, an30, an31, an32, an33, an34, an35, an36, an37, an38, ↓reduceIte, bk_int, bk_void, bk_long, bkN_int, bkN_void, bkN_long, Nat.reduceAdd, Nat.reduceMul, Nat.reduceSub, Nat.reduceLT, Nat.reduceLeDiff, if_true, if_false, not_true_eq_false, not_false_eq_true, Bool.true_eq_false, Bool.false_eq_true, b2_eq0, Nat.add_zero, Nat.zero_add, Nat.not_lt_zero, Nat.zero_le, ite_true, ite_false, decide_true, decide_false, lit_ii, of_ii, le_T, le_F, lt_T, lt_F, eq_T, eq_F, ii_add, ii_mul, ii_nat, ii_le, ii_lt, ii_eq, inR_ii, ii_add0]
      · rw [if_neg x46]
        have x4 : ¬ x = 4 := fun h => x46 (Or.inl h)
        have x6 : ¬ x = 6 := fun h => x46 (Or.inr h)
        have e18 : ii (hm H) - ii 1 = prI32 (hm H) := ii_pr (by omega)
        have e19 : ii (hc H) - ii 1 = prI32 (hc H) := ii_pr (by omega)
        have e20 : ii (hf H) - ii 1 = prI32 (hf H) := ii_pr (by omega)
        obtain ⟨σ3, v3, e3, N3, F3⟩ := r_num (d := e + 9) (lo := 0) (hi := hm H) A2 rfl (by omega) (by omega)
        have F13 := F12.tr (Mrd_wF F3)
        have N3' := N2.rd F3
        have o3 : gI σ3 3980 7 = ii o := (F3.I (by unfold Mrd; omega)).trans o2
        have m19' : gI σ3 3980 19 = ii (hc H) := (F3.I (by unfold Mrd; omega)).trans m19
        have m20' : gI σ3 3980 20 = ii (hf H) := (F3.I (by unfold Mrd; omega)).trans m20
        have eb : runF (callF (e + 11)) (e + 11) m_Mo_readStep (128, [some (.ref 3980), some (.int (ii x)), none, none], [], σ2) = runF (callF (e + 11)) (e + 11) m_Mo_readStep (164, [some (.ref 3980), some (.int (ii x)), some (.int (ii 0)), none], [.int v3], σ3) := by
          conv => lhs; simp (disch := first | omega | exact b2_01 _ | exact ii0_01 | exact ii1_01 | (simp (disch := omega) only [e3, m18, e18, dr_some, Option.isSome_some, gR_wI, Nat.add_mul_mod_self_left, Nat.reduceMod, ak20, ak21, ak22, ak23, ak24, ak25, ak26, ak27, ak28, ak29, ak30, ak31, ak32, ak33, ak34, ak35, ak36, an20, an21, an22, an23, an24, an25, an26, an27, an28, an29, an30, an31, an32, an33, an34, an35, an36, an37, an38, ne_eq, inR_ii, decide_eq_true_eq, lit_ii, of_ii, ii_eq, ii_lt, ii_le]; first | done | omega)) only [e3, m18, e18, b_Mo_readStep_128, b_Mo_readStep_133, b_Mo_readStep_143, b_Mo_readStep_144, b_Mo_readStep_153, x4, x6, dr_some, Option.isSome_some, gR_wI, Nat.add_mul_mod_self_left, Nat.reduceMod, ak20, ak21, ak22, ak23, ak24, ak25, ak26, ak27, ak28, ak29, ak30, ak31, ak32, ak33, ak34, ak35, ak36, an20, an21, an22, an23, an24, an25, an26, an27, an28, an29, an30, an31, an32, an33, an34, an35, an36, an37, an38, ↓reduceIte, bk_int, bk_void, bk_long, bkN_int, bkN_void, bkN_long, Nat.reduceAdd, Nat.reduceMul, Nat.reduceSub, Nat.reduceLT, Nat.reduceLeDiff, if_true, if_false, not_true_eq_false, not_false_eq_true, Bool.true_eq_false, Bool.false_eq_true, b2_eq0, Nat.add_zero, Nat.zero_add, Nat.not_lt_zero, Nat.zero_le, ite_true, ite_false, decide_true, decide_false, lit_ii, of_ii, le_T, le_F, lt_T, lt_F, eq_T, eq_F, ii_add, ii_mul, ii_nat, ii_le, ii_lt, ii_eq, inR_ii, ii_add0]
        rw [eb]
        have two : ∀ (y : Nat) (hi : Nat) (gg : Nat), (y = 2 ∧ hi = hc H ∨ y = 5 ∧ hi = hf H) → x = y → ∃ τ l1 l2 l3, runF (callF (e + 11)) (e + 11) m_Mo_readStep (164, [some (.ref 3980), some (.int (ii x)), some (.int (ii 0)), none], [.int v3], σ3) = runF (callF (e + 11)) (e + 11) m_Mo_readStep (210, [some (.ref 3980), l1, l2, l3], [], τ) ∧ WQm τ T n o (wk2 T n y (hm H) hi (wdP T n s.1, s.2.1, s.2.2)) ∧ Fm MwF σ τ := by
          rintro y hi gg hy rfl
          have hi9 : hi ≤ 9999 := by omega
          unfold wk2
          simp only
          cases hn3 : numW T n 0 (hm H) (wdP T n s.1) with
          | inr G =>
            rw [hn3] at N3
            obtain ⟨R3, rfl⟩ := N3
            refine ⟨σ3, some (.int (ii x)), some (.int (ii 0)), some (.int (ii 0)), ?_, R3, F13⟩
            rcases hy with ⟨rfl, rfl⟩ | ⟨rfl, rfl⟩
            · conv => lhs; simp (disch := first | omega | exact b2_01 _ | exact ii0_01 | exact ii1_01 | (simp (disch := omega) only [m19', e19, dr_some, Option.isSome_some, gR_wI, Nat.add_mul_mod_self_left, Nat.reduceMod, ak20, ak21, ak22, ak23, ak24, ak25, ak26, ak27, ak28, ak29, ak30, ak31, ak32, ak33, ak34, ak35, ak36, an20, an21, an22, an23, an24, an25, an26, an27, an28, an29, an30, an31, an32, an33, an34, an35, an36, an37, an38, ne_eq, inR_ii, decide_eq_true_eq, lit_ii, of_ii, ii_eq, ii_lt, ii_le]; first | done | omega)) only [m19', e19, b_Mo_readStep_164, b_Mo_readStep_173, b_Mo_readStep_184, b_Mo_readStep_207, r_numB R3, r_tellB R3, dr_some, Option.isSome_some, gR_wI, Nat.add_mul_mod_self_left, Nat.reduceMod, ak20, ak21, ak22, ak23, ak24, ak25, ak26, ak27, ak28, ak29, ak30, ak31, ak32, ak33, ak34, ak35, ak36, an20, an21, an22, an23, an24, an25, an26, an27, an28, an29, an30, an31, an32, an33, an34, an35, an36, an37, an38, ↓reduceIte, bk_int, bk_void, bk_long, bkN_int, bkN_void, bkN_long, Nat.reduceAdd, Nat.reduceMul, Nat.reduceSub, Nat.reduceLT, Nat.reduceLeDiff, if_true, if_false, not_true_eq_false, not_false_eq_true, Bool.true_eq_false, Bool.false_eq_true, b2_eq0, Nat.add_zero, Nat.zero_add, Nat.not_lt_zero, Nat.zero_le, ite_true, ite_false, decide_true, decide_false, lit_ii, of_ii, le_T, le_F, lt_T, lt_F, eq_T, eq_F, ii_add, ii_mul, ii_nat, ii_le, ii_lt, ii_eq, inR_ii, ii_add0]
            · conv => lhs; simp (disch := first | omega | exact b2_01 _ | exact ii0_01 | exact ii1_01 | (simp (disch := omega) only [m20', e20, dr_some, Option.isSome_some, gR_wI, Nat.add_mul_mod_self_left, Nat.reduceMod, ak20, ak21, ak22, ak23, ak24, ak25, ak26, ak27, ak28, ak29, ak30, ak31, ak32, ak33, ak34, ak35, ak36, an20, an21, an22, an23, an24, an25, an26, an27, an28, an29, an30, an31, an32, an33, an34, an35, an36, an37, an38, ne_eq, inR_ii, decide_eq_true_eq, lit_ii, of_ii, ii_eq, ii_lt, ii_le]; first | done | omega)) only [m20', e20, b_Mo_readStep_164, b_Mo_readStep_187, b_Mo_readStep_192, b_Mo_readStep_203, b_Mo_readStep_207, r_numB R3, r_tellB R3, Nat.reduceEqDiff, dr_some, Option.isSome_some, gR_wI, Nat.add_mul_mod_self_left, Nat.reduceMod, ak20, ak21, ak22, ak23, ak24, ak25, ak26, ak27, ak28, ak29, ak30, ak31, ak32, ak33, ak34, ak35, ak36, an20, an21, an22, an23, an24, an25, an26, an27, an28, an29, an30, an31, an32, an33, an34, an35, an36, an37, an38, ↓reduceIte, bk_int, bk_void, bk_long, bkN_int, bkN_void, bkN_long, Nat.reduceAdd, Nat.reduceMul, Nat.reduceSub, Nat.reduceLT, Nat.reduceLeDiff, if_true, if_false, not_true_eq_false, not_false_eq_true, Bool.true_eq_false, Bool.false_eq_true, b2_eq0, Nat.add_zero, Nat.zero_add, Nat.not_lt_zero, Nat.zero_le, ite_true, ite_false, decide_true, decide_false, lit_ii, of_ii, le_T, le_F, lt_T, lt_F, eq_T, eq_F, ii_add, ii_mul, ii_nat, ii_le, ii_lt, ii_eq, inR_ii, ii_add0]
          | inl z3 =>
            obtain ⟨p3, v⟩ := z3
            rw [hn3] at N3
            obtain ⟨A3, rfl⟩ := N3
            obtain ⟨q1, q2, q3, q4, -⟩ := numW_fwd g2.2 hn3
            obtain ⟨σ4, v4, e4, N4, F4⟩ := r_num (d := e + 9) (lo := 0) (hi := hi) A3 rfl (by omega) hi9
            have N4' := N3'.rd F4
            have F14 := F13.tr (Mrd_wF F4)
            simp only
            cases hn4 : numW T n 0 hi p3 with
            | inr G =>
              rw [hn4] at N4
              obtain ⟨R4, rfl⟩ := N4
              refine ⟨σ4, some (.int (ii x)), some (.int (ii 0)), some (.int (ii v)), ?_, R4, F14⟩
              rcases hy with ⟨rfl, rfl⟩ | ⟨rfl, rfl⟩
              · conv => lhs; simp (disch := first | omega | exact b2_01 _ | exact ii0_01 | exact ii1_01 | (simp (disch := omega) only [e4, m19', e19, dr_some, Option.isSome_some, gR_wI, Nat.add_mul_mod_self_left, Nat.reduceMod, ak20, ak21, ak22, ak23, ak24, ak25, ak26, ak27, ak28, ak29, ak30, ak31, ak32, ak33, ak34, ak35, ak36, an20, an21, an22, an23, an24, an25, an26, an27, an28, an29, an30, an31, an32, an33, an34, an35, an36, an37, an38, ne_eq, inR_ii, decide_eq_true_eq, lit_ii, of_ii, ii_eq, ii_lt, ii_le]; first | done | omega)) only [e4, m19', e19, b_Mo_readStep_164, b_Mo_readStep_173, b_Mo_readStep_184, b_Mo_readStep_207, r_tellB R4, dr_some, Option.isSome_some, gR_wI, Nat.add_mul_mod_self_left, Nat.reduceMod, ak20, ak21, ak22, ak23, ak24, ak25, ak26, ak27, ak28, ak29, ak30, ak31, ak32, ak33, ak34, ak35, ak36, an20, an21, an22, an23, an24, an25, an26, an27, an28, an29, an30, an31, an32, an33, an34, an35, an36, an37, an38, ↓reduceIte, bk_int, bk_void, bk_long, bkN_int, bkN_void, bkN_long, Nat.reduceAdd, Nat.reduceMul, Nat.reduceSub, Nat.reduceLT, Nat.reduceLeDiff, if_true, if_false, not_true_eq_false, not_false_eq_true, Bool.true_eq_false, Bool.false_eq_true, b2_eq0, Nat.add_zero, Nat.zero_add, Nat.not_lt_zero, Nat.zero_le, ite_true, ite_false, decide_true, decide_false, lit_ii, of_ii, le_T, le_F, lt_T, lt_F, eq_T, eq_F, ii_add, ii_mul, ii_nat, ii_le, ii_lt, ii_eq, inR_ii, ii_add0]
              · conv => lhs; simp (disch := first | omega | exact b2_01 _ | exact ii0_01 | exact ii1_01 | (simp (disch := omega) only [e4, m20', e20, dr_some, Option.isSome_some, gR_wI, Nat.add_mul_mod_self_left, Nat.reduceMod, ak20, ak21, ak22, ak23, ak24, ak25, ak26, ak27, ak28, ak29, ak30, ak31, ak32, ak33, ak34, ak35, ak36, an20, an21, an22, an23, an24, an25, an26, an27, an28, an29, an30, an31, an32, an33, an34, an35, an36, an37, an38, ne_eq, inR_ii, decide_eq_true_eq, lit_ii, of_ii, ii_eq, ii_lt, ii_le]; first | done | omega)) only [e4, m20', e20, b_Mo_readStep_164, b_Mo_readStep_187, b_Mo_readStep_192, b_Mo_readStep_203, b_Mo_readStep_207, r_tellB R4, Nat.reduceEqDiff, dr_some, Option.isSome_some, gR_wI, Nat.add_mul_mod_self_left, Nat.reduceMod, ak20, ak21, ak22, ak23, ak24, ak25, ak26, ak27, ak28, ak29, ak30, ak31, ak32, ak33, ak34, ak35, ak36, an20, an21, an22, an23, an24, an25, an26, an27, an28, an29, an30, an31, an32, an33, an34, an35, an36, an37, an38, ↓reduceIte, bk_int, bk_void, bk_long, bkN_int, bkN_void, bkN_long, Nat.reduceAdd, Nat.reduceMul, Nat.reduceSub, Nat.reduceLT, Nat.reduceLeDiff, if_true, if_false, not_true_eq_false, not_false_eq_true, Bool.true_eq_false, Bool.false_eq_true, b2_eq0, Nat.add_zero, Nat.zero_add, Nat.not_lt_zero, Nat.zero_le, ite_true, ite_false, decide_true, decide_false, lit_ii, of_ii, le_T, le_F, lt_T, lt_F, eq_T, eq_F, ii_add, ii_mul, ii_nat, ii_le, ii_lt, ii_eq, inR_ii, ii_add0]
            | inl z4 =>
              obtain ⟨p4, v'⟩ := z4
              rw [hn4] at N4
              obtain ⟨A4, rfl⟩ := N4
              obtain ⟨σ5, e5, A5, N5, o5, F5⟩ := r_tell (d := e + 9) (x := x) (a := v) (b := v') (b' := ii v') A4 N4' (by omega) (by rw [if_neg x7])
              refine ⟨σ5, some (.int (ii x)), some (.int (ii 0)), some (.int (ii v)), ?_, ⟨A5, N5, o5.trans ((F4.I (by unfold Mrd; omega)).trans o3)⟩, F14.tr F5⟩
              rcases hy with ⟨rfl, rfl⟩ | ⟨rfl, rfl⟩
              · conv => lhs; simp (disch := first | omega | exact b2_01 _ | exact ii0_01 | exact ii1_01 | (simp (disch := omega) only [e4, e5, m19', e19, dr_some, Option.isSome_some, gR_wI, Nat.add_mul_mod_self_left, Nat.reduceMod, ak20, ak21, ak22, ak23, ak24, ak25, ak26, ak27, ak28, ak29, ak30, ak31, ak32, ak33, ak34, ak35, ak36, an20, an21, an22, an23, an24, an25, an26, an27, an28, an29, an30, an31, an32, an33, an34, an35, an36, an37, an38, ne_eq, inR_ii, decide_eq_true_eq, lit_ii, of_ii, ii_eq, ii_lt, ii_le]; first | done | omega)) only [e4, e5, m19', e19, b_Mo_readStep_164, b_Mo_readStep_173, b_Mo_readStep_184, b_Mo_readStep_207, dr_some, Option.isSome_some, gR_wI, Nat.add_mul_mod_self_left, Nat.reduceMod, ak20, ak21, ak22, ak23, ak24, ak25, ak26, ak27, ak28, ak29, ak30, ak31, ak32, ak33, ak34, ak35, ak36, an20, an21, an22, an23, an24, an25, an26, an27, an28, an29, an30, an31, an32, an33, an34, an35, an36, an37, an38, ↓reduceIte, bk_int, bk_void, bk_long, bkN_int, bkN_void, bkN_long, Nat.reduceAdd, Nat.reduceMul, Nat.reduceSub, Nat.reduceLT, Nat.reduceLeDiff, if_true, if_false, not_true_eq_false, not_false_eq_true, Bool.true_eq_false, Bool.false_eq_true, b2_eq0, Nat.add_zero, Nat.zero_add, Nat.not_lt_zero, Nat.zero_le, ite_true, ite_false, decide_true, decide_false, lit_ii, of_ii, le_T, le_F, lt_T, lt_F, eq_T, eq_F, ii_add, ii_mul, ii_nat, ii_le, ii_lt, ii_eq, inR_ii, ii_add0]
              · conv => lhs; simp (disch := first | omega | exact b2_01 _ | exact ii0_01 | exact ii1_01 | (simp (disch := omega) only [e4, e5, m20', e20, dr_some, Option.isSome_some, gR_wI, Nat.add_mul_mod_self_left, Nat.reduceMod, ak20, ak21, ak22, ak23, ak24, ak25, ak26, ak27, ak28, ak29, ak30, ak31, ak32, ak33, ak34, ak35, ak36, an20, an21, an22, an23, an24, an25, an26, an27, an28, an29, an30, an31, an32, an33, an34, an35, an36, an37, an38, ne_eq, inR_ii, decide_eq_true_eq, lit_ii, of_ii, ii_eq, ii_lt, ii_le]; first | done | omega)) only [e4, e5, m20', e20, b_Mo_readStep_164, b_Mo_readStep_187, b_Mo_readStep_192, b_Mo_readStep_203, b_Mo_readStep_207, Nat.reduceEqDiff, dr_some, Option.isSome_some, gR_wI, Nat.add_mul_mod_self_left, Nat.reduceMod, ak20, ak21, ak22, ak23, ak24, ak25, ak26, ak27, ak28, ak29, ak30, ak31, ak32, ak33, ak34, ak35, ak36, an20, an21, an22, an23, an24, an25, an26, an27, an28, an29, an30, an31, an32, an33, an34, an35, an36, an37, an38, ↓reduceIte, bk_int, bk_void, bk_long, bkN_int, bkN_void, bkN_long, Nat.reduceAdd, Nat.reduceMul, Nat.reduceSub, Nat.reduceLT, Nat.reduceLeDiff, if_true, if_false, not_true_eq_false, not_false_eq_true, Bool.true_eq_false, Bool.false_eq_true, b2_eq0, Nat.add_zero, Nat.zero_add, Nat.not_lt_zero, Nat.zero_le, ite_true, ite_false, decide_true, decide_false, lit_ii, of_ii, le_T, le_F, lt_T, lt_F, eq_T, eq_F, ii_add, ii_mul, ii_nat, ii_le, ii_lt, ii_eq, inR_ii, ii_add0]
        by_cases x2 : x = 2
        · rw [if_pos x2]
          exact two 2 (hc H) 0 (Or.inl ⟨rfl, rfl⟩) x2
        · rw [if_neg x2]
          by_cases x5 : x = 5
          · rw [if_pos x5]
            exact two 5 (hf H) 0 (Or.inr ⟨rfl, rfl⟩) x5
          · rw [if_neg x5]
            unfold wk1
            simp only
            cases hn3 : numW T n 0 (hm H) (wdP T n s.1) with
            | inr G =>
              rw [hn3] at N3
              obtain ⟨R3, rfl⟩ := N3
              refine ⟨σ3, some (.int (ii x)), some (.int (ii 0)), some (.int (ii 0)), ?_, R3, F13⟩
              conv => lhs; simp (disch := first | omega | exact b2_01 _ | exact ii0_01 | exact ii1_01 | (simp (disch := omega) only [Nat.le_refl, dr_some, Option.isSome_some, gR_wI, Nat.add_mul_mod_self_left, Nat.reduceMod, ak20, ak21, ak22, ak23, ak24, ak25, ak26, ak27, ak28, ak29, ak30, ak31, ak32, ak33, ak34, ak35, ak36, an20, an21, an22, an23, an24, an25, an26, an27, an28, an29, an30, an31, an32, an33, an34, an35, an36, an37, an38, ne_eq, inR_ii, decide_eq_true_eq, lit_ii, of_ii, ii_eq, ii_lt, ii_le]; first | done | omega)) only [Nat.le_refl, b_Mo_readStep_164, b_Mo_readStep_187, b_Mo_readStep_206, b_Mo_readStep_207, r_tellB R3, x2, x5, dr_some, Option.isSome_some, gR_wI, Nat.add_mul_mod_self_left, Nat.reduceMod, ak20, ak21, ak22, ak23, ak24, ak25, ak26, ak27, ak28, ak29, ak30, ak31, ak32, ak33, ak34, ak35, ak36, an20, an21, an22, an23, an24, an25, an26, an27, an28, an29, an30, an31, an32, an33, an34, an35, an36, an37, an38, ↓reduceIte, bk_int, bk_void, bk_long, bkN_int, bkN_void, bkN_long, Nat.reduceAdd, Nat.reduceMul, Nat.reduceSub, Nat.reduceLT, Nat.reduceLeDiff, if_true, if_false, not_true_eq_false, not_false_eq_true, Bool.true_eq_false, Bool.false_eq_true, b2_eq0, Nat.add_zero, Nat.zero_add, Nat.not_lt_zero, Nat.zero_le, ite_true, ite_false, decide_true, decide_false, lit_ii, of_ii, le_T, le_F, lt_T, lt_F, eq_T, eq_F, ii_add, ii_mul, ii_nat, ii_le, ii_lt, ii_eq, inR_ii, ii_add0]
            | inl z3 =>
              obtain ⟨p3, v⟩ := z3
              rw [hn3] at N3
              obtain ⟨A3, rfl⟩ := N3
              obtain ⟨q1, q2, q3, q4, -⟩ := numW_fwd g2.2 hn3
              obtain ⟨σ5, e5, A5, N5, o5, F5⟩ := r_tell (d := e + 9) (x := x) (a := v) (b := 0) (b' := ii 0) A3 N3' (by omega) (by rw [if_neg x7])
              refine ⟨σ5, some (.int (ii x)), some (.int (ii 0)), some (.int (ii v)), ?_, ⟨A5, N5, o5.trans o3⟩, F13.tr F5⟩
              conv => lhs; simp (disch := first | omega | exact b2_01 _ | exact ii0_01 | exact ii1_01 | (simp (disch := omega) only [e5, dr_some, Option.isSome_some, gR_wI, Nat.add_mul_mod_self_left, Nat.reduceMod, ak20, ak21, ak22, ak23, ak24, ak25, ak26, ak27, ak28, ak29, ak30, ak31, ak32, ak33, ak34, ak35, ak36, an20, an21, an22, an23, an24, an25, an26, an27, an28, an29, an30, an31, an32, an33, an34, an35, an36, an37, an38, ne_eq, inR_ii, decide_eq_true_eq, lit_ii, of_ii, ii_eq, ii_lt, ii_le]; first | done | omega)) only [e5, b_Mo_readStep_164, b_Mo_readStep_187, b_Mo_readStep_206, b_Mo_readStep_207, x2, x5, dr_some, Option.isSome_some, gR_wI, Nat.add_mul_mod_self_left, Nat.reduceMod, ak20, ak21, ak22, ak23, ak24, ak25, ak26, ak27, ak28, ak29, ak30, ak31, ak32, ak33, ak34, ak35, ak36, an20, an21, an22, an23, an24, an25, an26, an27, an28, an29, an30, an31, an32, an33, an34, an35, an36, an37, an38, ↓reduceIte, bk_int, bk_void, bk_long, bkN_int, bkN_void, bkN_long, Nat.reduceAdd, Nat.reduceMul, Nat.reduceSub, Nat.reduceLT, Nat.reduceLeDiff, if_true, if_false, not_true_eq_false, not_false_eq_true, Bool.true_eq_false, Bool.false_eq_true, b2_eq0, Nat.add_zero, Nat.zero_add, Nat.not_lt_zero, Nat.zero_le, ite_true, ite_false, decide_true, decide_false, lit_ii, of_ii, le_T, le_F, lt_T, lt_F, eq_T, eq_F, ii_add, ii_mul, ii_nat, ii_le, ii_lt, ii_eq, inR_ii, ii_add0]
theorem w_steps {T : Nat → Nat} {n : Nat} {H : HH} (hw : wH H) (hn : n ≤ 150) : ∀ r, r ≤ 6 → SCm T n H (6 - r) (12 + r) (wkSn T n H r) := by
  intro r
  induction r with
  | zero => intro _; exact w_step (o := 6) (b := 11) (St := wkSn T n H 0) rfl hw (Or.inl rfl) (by omega) hn
  | succ r ih =>
    intro hr
    have h1 := ih (by omega)
    rw [show 6 - r = 6 - (r + 1) + 1 by omega] at h1
    exact w_step (o := 6 - (r + 1)) (b := 12 + r) (r := r + 1) (by omega) hw (Or.inr ⟨h1, rfl, wkSn_fwd r, wkSn_pfx r⟩) (by omega) hn
