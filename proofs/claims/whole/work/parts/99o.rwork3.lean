/-! THE REFERENCE: work -/
theorem MwF_sc {σ σ' : HP} (F : Fm MwF σ σ') : Fm Msc σ σ' := F.mono (fun a j z => by unfold MwF at z; unfold Msc; omega)
theorem MgX_sc {σ σ' : HP} (F : Fm MgX σ σ') : Fm Msc σ σ' := F.mono (fun a j z => by unfold MgX Mg at z; unfold Msc; omega)
theorem w_top {T : Nat → Nat} {n b : Nat} {H : HH} {St : WkT → PR WkT} (hS : SCm T n H 0 b St) (hf : ∀ s : WkT, s.1 ≤ n → wfw n 1 s (St s)) {d : Nat} (hd : b ≤ d) (hd4 : 4 ≤ d) {l1 l2 l3 : Option Value} : ∀ f (s : WkT) σ, RD σ T n s.1 → NS σ s.2.1 s.2.2 → 3 * s.2.1 ≤ s.1 → gI σ 3980 7 = ii 0 → MH3 σ H → n - s.1 < f → ∃ σ', runF (callF d) d m_Mo_work (68, [some (.ref 3980), l1, l2, l3], [], σ) = runF (callF d) d m_Mo_work (89, [some (.ref 3980), l1, l2, l3], [], σ') ∧ WQm σ' T n 0 (wkL T n St true f s) ∧ Fm MwF σ σ' := by
  obtain ⟨d, rfl⟩ : ∃ e, d = e + 4 := ⟨d - 4, by omega⟩
  intro f
  induction f with
  | zero => intro s σ A _ _ _ _ h; omega
  | succ f ih =>
    intro s σ A C hs ho hH hf9
    have hp := A.p
    have hsk := sk_ge (T := T) hp.1
    have hskl := sk_le (T := T) hp.1
    have ek : sk T n (sk T n s.1) = sk T n s.1 := rn_rn hp.1
    obtain ⟨σ1, e1, A1, F1⟩ := r_isMore (d := d + 2) A
    have C1 := C.rd (Mat_rd F1)
    have o1 : gI σ1 3980 7 = ii 0 := (F1.I (by unfold Mat; omega)).trans ho
    unfold wkL
    by_cases z : wkE T n true (sk T n s.1) = true
    · rw [if_pos z]
      have z' := of_decide_eq_true (show decide (n ≤ sk T n s.1) = true from z)
      rw [decide_eq_false (by omega : ¬ sk T n s.1 < n)] at e1
      refine ⟨σ1, ?_, ⟨A1, C1, o1⟩, Mat_wF F1⟩
      conv => lhs; simp (disch := first | omega | exact b2_01 _ | exact ii0_01 | exact ii1_01 | (simp (disch := omega) only [e1, dr_some, Option.isSome_some, gR_wI, Nat.add_mul_mod_self_left, Nat.reduceMod, ak20, ak21, ak22, ak23, ak24, ak25, ak26, ak27, ak28, ak29, ak30, ak31, ak32, ak33, ak34, ak35, ak36, an20, an21, an22, an23, an24, an25, an26, an27, an28, an29, an30, an31, an32, an33, an34, an35, an36, an37, an38, ne_eq, inR_ii, decide_eq_true_eq, lit_ii, of_ii, ii_eq, ii_lt, ii_le]; first | done | omega)) only [e1, b_Mo_work_68, b_Mo_work_72, b_Mo_work_75, b_Mo_work_79, r_fineT A, b2_ii, Bool.toNat_false, Nat.succ_ne_zero, dr_some, Option.isSome_some, gR_wI, Nat.add_mul_mod_self_left, Nat.reduceMod, ak20, ak21, ak22, ak23, ak24, ak25, ak26, ak27, ak28, ak29, ak30, ak31, ak32, ak33, ak34, ak35, ak36, an20, an21, an22, an23, an24, an25, an26, an27, an28, an29, an30, an31, an32, an33, an34, an35, an36, an37, an38, ↓reduceIte, bk_int, bk_void, bk_long, bkN_int, bkN_void, bkN_long, Nat.reduceAdd, Nat.reduceMul, Nat.reduceSub, Nat.reduceLT, Nat.reduceLeDiff, if_true, if_false, not_true_eq_false, not_false_eq_true, Bool.true_eq_false, Bool.false_eq_true, b2_eq0, Nat.add_zero, Nat.zero_add, Nat.not_lt_zero, Nat.zero_le, ite_true, ite_false, decide_true, decide_false, lit_ii, of_ii, le_T, le_F, lt_T, lt_F, eq_T, eq_F, ii_add, ii_mul, ii_nat, ii_le, ii_lt, ii_eq, inR_ii, ii_add0]
    · rw [if_neg z]
      have z' : sk T n s.1 < n := by
        have : ¬ n ≤ sk T n s.1 := fun h => z (decide_eq_true h)
        omega
      rw [decide_eq_true z'] at e1
      obtain ⟨σ2, e2, Q2, F2⟩ := hS (d + 4) hd σ1 (sk T n s.1, s.2.1, s.2.2) A1 ek C1 (by show 3 * s.2.1 ≤ sk T n s.1; omega) o1 (hH.wf (Mat_wF F1))
      have F12 := (Mat_wF F1).tr F2
      have fw := hf (sk T n s.1, s.2.1, s.2.2) hskl
      cases hst : St (sk T n s.1, s.2.1, s.2.2) with
      | inr G =>
        rw [hst] at Q2
        have R2 : RB σ2 G := Q2
        refine ⟨σ2, ?_, R2, F12⟩
        conv => lhs; simp (disch := first | omega | exact b2_01 _ | exact ii0_01 | exact ii1_01 | (simp (disch := omega) only [e1, e2, dr_some, Option.isSome_some, gR_wI, Nat.add_mul_mod_self_left, Nat.reduceMod, ak20, ak21, ak22, ak23, ak24, ak25, ak26, ak27, ak28, ak29, ak30, ak31, ak32, ak33, ak34, ak35, ak36, an20, an21, an22, an23, an24, an25, an26, an27, an28, an29, an30, an31, an32, an33, an34, an35, an36, an37, an38, ne_eq, inR_ii, decide_eq_true_eq, lit_ii, of_ii, ii_eq, ii_lt, ii_le]; first | done | omega)) only [e1, e2, b_Mo_work_68, b_Mo_work_72, b_Mo_work_75, b_Mo_work_79, b_Mo_work_82, b_Mo_work_86, r_fineT A, r_fineF R2, b2_ii, Bool.toNat_true, Nat.succ_ne_zero, dr_some, Option.isSome_some, gR_wI, Nat.add_mul_mod_self_left, Nat.reduceMod, ak20, ak21, ak22, ak23, ak24, ak25, ak26, ak27, ak28, ak29, ak30, ak31, ak32, ak33, ak34, ak35, ak36, an20, an21, an22, an23, an24, an25, an26, an27, an28, an29, an30, an31, an32, an33, an34, an35, an36, an37, an38, ↓reduceIte, bk_int, bk_void, bk_long, bkN_int, bkN_void, bkN_long, Nat.reduceAdd, Nat.reduceMul, Nat.reduceSub, Nat.reduceLT, Nat.reduceLeDiff, if_true, if_false, not_true_eq_false, not_false_eq_true, Bool.true_eq_false, Bool.false_eq_true, b2_eq0, Nat.add_zero, Nat.zero_add, Nat.not_lt_zero, Nat.zero_le, ite_true, ite_false, decide_true, decide_false, lit_ii, of_ii, le_T, le_F, lt_T, lt_F, eq_T, eq_F, ii_add, ii_mul, ii_nat, ii_le, ii_lt, ii_eq, inR_ii, ii_add0]
      | inl s' =>
        rw [hst] at Q2 fw
        obtain ⟨g1, g2, g3, g4⟩ := fw
        simp only at g1 g3 g4
        have Q2' : WQm σ2 T n 0 (sgnW T n 59 s') := Q2
        simp only
        cases hsg : sgnW T n 59 s' with
        | inr G =>
          rw [hsg] at Q2'
          have R2 : RB σ2 G := Q2'
          refine ⟨σ2, ?_, R2, F12⟩
          conv => lhs; simp (disch := first | omega | exact b2_01 _ | exact ii0_01 | exact ii1_01 | (simp (disch := omega) only [e1, e2, dr_some, Option.isSome_some, gR_wI, Nat.add_mul_mod_self_left, Nat.reduceMod, ak20, ak21, ak22, ak23, ak24, ak25, ak26, ak27, ak28, ak29, ak30, ak31, ak32, ak33, ak34, ak35, ak36, an20, an21, an22, an23, an24, an25, an26, an27, an28, an29, an30, an31, an32, an33, an34, an35, an36, an37, an38, ne_eq, inR_ii, decide_eq_true_eq, lit_ii, of_ii, ii_eq, ii_lt, ii_le]; first | done | omega)) only [e1, e2, b_Mo_work_68, b_Mo_work_72, b_Mo_work_75, b_Mo_work_79, b_Mo_work_82, b_Mo_work_86, r_fineT A, r_fineF R2, b2_ii, Bool.toNat_true, Nat.succ_ne_zero, dr_some, Option.isSome_some, gR_wI, Nat.add_mul_mod_self_left, Nat.reduceMod, ak20, ak21, ak22, ak23, ak24, ak25, ak26, ak27, ak28, ak29, ak30, ak31, ak32, ak33, ak34, ak35, ak36, an20, an21, an22, an23, an24, an25, an26, an27, an28, an29, an30, an31, an32, an33, an34, an35, an36, an37, an38, ↓reduceIte, bk_int, bk_void, bk_long, bkN_int, bkN_void, bkN_long, Nat.reduceAdd, Nat.reduceMul, Nat.reduceSub, Nat.reduceLT, Nat.reduceLeDiff, if_true, if_false, not_true_eq_false, not_false_eq_true, Bool.true_eq_false, Bool.false_eq_true, b2_eq0, Nat.add_zero, Nat.zero_add, Nat.not_lt_zero, Nat.zero_le, ite_true, ite_false, decide_true, decide_false, lit_ii, of_ii, le_T, le_F, lt_T, lt_F, eq_T, eq_F, ii_add, ii_mul, ii_nat, ii_le, ii_lt, ii_eq, inR_ii, ii_add0]
        | inl s2 =>
          rw [hsg] at Q2'
          obtain ⟨A2, C2, o2⟩ := Q2'
          obtain ⟨j1, j2, j3⟩ := sgnW_fwd g2 hsg
          have j4 : s2.2.1 = s'.2.1 := congrArg Prod.fst j3
          obtain ⟨σ9, e9, Q9, F9⟩ := ih s2 σ2 A2 C2 (by omega) o2 (hH.wf F12) (by omega)
          refine ⟨σ9, ?_, Q9, F12.tr F9⟩
          rw [← e9]
          conv => lhs; simp (disch := first | omega | exact b2_01 _ | exact ii0_01 | exact ii1_01 | (simp (disch := omega) only [e1, e2, dr_some, Option.isSome_some, gR_wI, Nat.add_mul_mod_self_left, Nat.reduceMod, ak20, ak21, ak22, ak23, ak24, ak25, ak26, ak27, ak28, ak29, ak30, ak31, ak32, ak33, ak34, ak35, ak36, an20, an21, an22, an23, an24, an25, an26, an27, an28, an29, an30, an31, an32, an33, an34, an35, an36, an37, an38, ne_eq, inR_ii, decide_eq_true_eq, lit_ii, of_ii, ii_eq, ii_lt, ii_le]; first | done | omega)) only [e1, e2, b_Mo_work_68, r_fineT A, dr_some, Option.isSome_some, gR_wI, Nat.add_mul_mod_self_left, Nat.reduceMod, ak20, ak21, ak22, ak23, ak24, ak25, ak26, ak27, ak28, ak29, ak30, ak31, ak32, ak33, ak34, ak35, ak36, an20, an21, an22, an23, an24, an25, an26, an27, an28, an29, an30, an31, an32, an33, an34, an35, an36, an37, an38, ↓reduceIte, bk_int, bk_void, bk_long, bkN_int, bkN_void, bkN_long, Nat.reduceAdd, Nat.reduceMul, Nat.reduceSub, Nat.reduceLT, Nat.reduceLeDiff, if_true, if_false, not_true_eq_false, not_false_eq_true, Bool.true_eq_false, Bool.false_eq_true, b2_eq0, Nat.add_zero, Nat.zero_add, Nat.not_lt_zero, Nat.zero_le, ite_true, ite_false, decide_true, decide_false, lit_ii, of_ii, le_T, le_F, lt_T, lt_F, eq_T, eq_F, ii_add, ii_mul, ii_nat, ii_le, ii_lt, ii_eq, inR_ii, ii_add0]
          simp (disch := first | omega | exact b2_01 _ | exact ii0_01 | exact ii1_01 | (simp (disch := omega) only [e1, e2, dr_some, Option.isSome_some, gR_wI, Nat.add_mul_mod_self_left, Nat.reduceMod, ak20, ak21, ak22, ak23, ak24, ak25, ak26, ak27, ak28, ak29, ak30, ak31, ak32, ak33, ak34, ak35, ak36, an20, an21, an22, an23, an24, an25, an26, an27, an28, an29, an30, an31, an32, an33, an34, an35, an36, an37, an38, ne_eq, inR_ii, decide_eq_true_eq, lit_ii, of_ii, ii_eq, ii_lt, ii_le]; first | done | omega)) only [e1, e2, b_Mo_work_72, b_Mo_work_75, b_Mo_work_79, b_Mo_work_82, b_Mo_work_86, r_fineT A, b2_ii, Bool.toNat_true, Nat.succ_ne_zero, dr_some, Option.isSome_some, gR_wI, Nat.add_mul_mod_self_left, Nat.reduceMod, ak20, ak21, ak22, ak23, ak24, ak25, ak26, ak27, ak28, ak29, ak30, ak31, ak32, ak33, ak34, ak35, ak36, an20, an21, an22, an23, an24, an25, an26, an27, an28, an29, an30, an31, an32, an33, an34, an35, an36, an37, an38, ↓reduceIte, bk_int, bk_void, bk_long, bkN_int, bkN_void, bkN_long, Nat.reduceAdd, Nat.reduceMul, Nat.reduceSub, Nat.reduceLT, Nat.reduceLeDiff, if_true, if_false, not_true_eq_false, not_false_eq_true, Bool.true_eq_false, Bool.false_eq_true, b2_eq0, Nat.add_zero, Nat.zero_add, Nat.not_lt_zero, Nat.zero_le, ite_true, ite_false, decide_true, decide_false, lit_ii, of_ii, le_T, le_F, lt_T, lt_F, eq_T, eq_F, ii_add, ii_mul, ii_nat, ii_le, ii_lt, ii_eq, inR_ii, ii_add0]
theorem r_keepL {d p : Nat} (hp : p < 16) {l1 l2 : Option Value} : ∀ m i σ, i + m = 87 → MRf σ → gI σ 3980 33 = ii p → ∃ σ', runF (callF d) d m_Mo_work (123, [some (.ref 3980), l1, l2, some (.int (ii i))], [], σ) = runF (callF d) d m_Mo_work (155, [some (.ref 3980), l1, l2, some (.int (ii 87))], [], σ') ∧ Fm (fun a j => a = 5088 ∧ 87 * p + i ≤ j) σ σ' ∧ ∀ k, i ≤ k → k < 87 → gI σ' 5088 (87 * p + k) = gI σ 4955 k := by
  intro m
  induction m with
  | zero =>
    intro i σ hi a hg
    have ei : i = 87 := by omega
    subst ei
    refine ⟨σ, ?_, Fm.rf, fun k h1 h2 => by omega⟩
    conv => lhs; simp (disch := first | omega | exact b2_01 _ | exact ii0_01 | exact ii1_01 | (simp (disch := omega) only [Nat.le_refl, dr_some, Option.isSome_some, gR_wI, Nat.add_mul_mod_self_left, Nat.reduceMod, ak20, ak21, ak22, ak23, ak24, ak25, ak26, ak27, ak28, ak29, ak30, ak31, ak32, ak33, ak34, ak35, ak36, an20, an21, an22, an23, an24, an25, an26, an27, an28, an29, an30, an31, an32, an33, an34, an35, an36, an37, an38, ne_eq, inR_ii, decide_eq_true_eq, lit_ii, of_ii, ii_eq, ii_lt, ii_le]; first | done | omega)) only [Nat.le_refl, b_Mo_work_123, dr_some, Option.isSome_some, gR_wI, Nat.add_mul_mod_self_left, Nat.reduceMod, ak20, ak21, ak22, ak23, ak24, ak25, ak26, ak27, ak28, ak29, ak30, ak31, ak32, ak33, ak34, ak35, ak36, an20, an21, an22, an23, an24, an25, an26, an27, an28, an29, an30, an31, an32, an33, an34, an35, an36, an37, an38, ↓reduceIte, bk_int, bk_void, bk_long, bkN_int, bkN_void, bkN_long, Nat.reduceAdd, Nat.reduceMul, Nat.reduceSub, Nat.reduceLT, Nat.reduceLeDiff, if_true, if_false, not_true_eq_false, not_false_eq_true, Bool.true_eq_false, Bool.false_eq_true, b2_eq0, Nat.add_zero, Nat.zero_add, Nat.not_lt_zero, Nat.zero_le, ite_true, ite_false, decide_true, decide_false, lit_ii, of_ii, le_T, le_F, lt_T, lt_F, eq_T, eq_F, ii_add, ii_mul, ii_nat, ii_le, ii_lt, ii_eq, inR_ii, ii_add0]
  | succ m ih =>
    intro i σ hi a hg
    have a1 : MRf (wI σ 5088 (87 * p + i) (gI σ 4955 i)) := a
    have g1 : gI (wI σ 5088 (87 * p + i) (gI σ 4955 i)) 3980 33 = ii p := (gI_ne (by omega)).trans hg
    obtain ⟨σ', e', F', k'⟩ := ih (i + 1) _ (by omega) a1 g1
    have ni : ¬ 87 ≤ i := by omega
    refine ⟨σ', ?_, (Fm.w Fm.rf ⟨rfl, Nat.le_refl _⟩ : Fm (fun a j => a = 5088 ∧ 87 * p + i ≤ j) σ (wI σ 5088 (87 * p + i) (gI σ 4955 i))).tr (F'.mono (fun a j z => by omega)), fun k h1 h2 => ?_⟩
    · rw [← e']
      obtain ⟨z1, z9, z10, z11, z12, z13, z22, z23, z24, z25, z26, z29, z30, z31, z38, z39, z40, z41, z42, z44, z45, z46, z47, z49⟩ := id a
      conv => lhs; simp (disch := first | omega | exact ak27 | exact ak29 | exact ak20 | exact ak21 | exact ak22 | exact ak23 | exact ak24 | exact ak25 | exact ak28 | exact ak30 | exact ak31 | exact ak32 | exact ak33 | exact b2_01 _ | exact ii0_01 | exact ii1_01 | (simp (disch := omega) only [z1, z9, z10, z11, z12, z13, z22, z23, z24, z25, z26, z29, z30, z31, z38, z39, z40, z41, z42, z44, z45, z46, z47, z49, hg, dr_some, Option.isSome_some, gR_wI, Nat.add_mul_mod_self_left, Nat.reduceMod, ak20, ak21, ak22, ak23, ak24, ak25, ak26, ak27, ak28, ak29, ak30, ak31, ak32, ak33, ak34, ak35, ak36, an20, an21, an22, an23, an24, an25, an26, an27, an28, an29, an30, an31, an32, an33, an34, an35, an36, an37, an38, ne_eq, inR_ii, decide_eq_true_eq, lit_ii, of_ii, ii_eq, ii_lt, ii_le, ii_add, ii_mul, ii_sub, ii_pred, ii_nat]; first | done | omega)) only [z1, z9, z10, z11, z12, z13, z22, z23, z24, z25, z26, z29, z30, z31, z38, z39, z40, z41, z42, z44, z45, z46, z47, z49, hg, b_Mo_work_123, ni, dr_some, Option.isSome_some, gR_wI, Nat.add_mul_mod_self_left, Nat.reduceMod, ak20, ak21, ak22, ak23, ak24, ak25, ak26, ak27, ak28, ak29, ak30, ak31, ak32, ak33, ak34, ak35, ak36, an20, an21, an22, an23, an24, an25, an26, an27, an28, an29, an30, an31, an32, an33, an34, an35, an36, an37, an38, ↓reduceIte, bk_int, bk_void, bk_long, bkN_int, bkN_void, bkN_long, Nat.reduceAdd, Nat.reduceMul, Nat.reduceSub, Nat.reduceLT, Nat.reduceLeDiff, if_true, if_false, not_true_eq_false, not_false_eq_true, Bool.true_eq_false, Bool.false_eq_true, b2_eq0, Nat.add_zero, Nat.zero_add, Nat.not_lt_zero, Nat.zero_le, ite_true, ite_false, decide_true, decide_false, lit_ii, of_ii, le_T, le_F, lt_T, lt_F, eq_T, eq_F, ii_add, ii_mul, ii_nat, ii_le, ii_lt, ii_eq, inR_ii, ii_add0]
      simp (disch := first | omega | exact ak27 | exact ak29 | exact ak20 | exact ak21 | exact ak22 | exact ak23 | exact ak24 | exact ak25 | exact ak28 | exact ak30 | exact ak31 | exact ak32 | exact ak33 | exact b2_01 _ | exact ii0_01 | exact ii1_01 | (simp (disch := omega) only [z1, z9, z10, z11, z12, z13, z22, z23, z24, z25, z26, z29, z30, z31, z38, z39, z40, z41, z42, z44, z45, z46, z47, z49, hg, dr_some, Option.isSome_some, gR_wI, Nat.add_mul_mod_self_left, Nat.reduceMod, ak20, ak21, ak22, ak23, ak24, ak25, ak26, ak27, ak28, ak29, ak30, ak31, ak32, ak33, ak34, ak35, ak36, an20, an21, an22, an23, an24, an25, an26, an27, an28, an29, an30, an31, an32, an33, an34, an35, an36, an37, an38, ne_eq, inR_ii, decide_eq_true_eq, lit_ii, of_ii, ii_eq, ii_lt, ii_le, ii_add, ii_mul, ii_sub, ii_pred, ii_nat]; first | done | omega)) only [z1, z9, z10, z11, z12, z13, z22, z23, z24, z25, z26, z29, z30, z31, z38, z39, z40, z41, z42, z44, z45, z46, z47, z49, hg, b_Mo_work_129, dr_some, Option.isSome_some, gR_wI, Nat.add_mul_mod_self_left, Nat.reduceMod, ak20, ak21, ak22, ak23, ak24, ak25, ak26, ak27, ak28, ak29, ak30, ak31, ak32, ak33, ak34, ak35, ak36, an20, an21, an22, an23, an24, an25, an26, an27, an28, an29, an30, an31, an32, an33, an34, an35, an36, an37, an38, ↓reduceIte, bk_int, bk_void, bk_long, bkN_int, bkN_void, bkN_long, Nat.reduceAdd, Nat.reduceMul, Nat.reduceSub, Nat.reduceLT, Nat.reduceLeDiff, if_true, if_false, not_true_eq_false, not_false_eq_true, Bool.true_eq_false, Bool.false_eq_true, b2_eq0, Nat.add_zero, Nat.zero_add, Nat.not_lt_zero, Nat.zero_le, ite_true, ite_false, decide_true, decide_false, lit_ii, of_ii, le_T, le_F, lt_T, lt_F, eq_T, eq_F, ii_add, ii_mul, ii_nat, ii_le, ii_lt, ii_eq, inR_ii, ii_add0]
    · by_cases z : k = i
      · subst z
        rw [F'.I (by omega)]
        exact gI_at
      · rw [k' k (by omega) h2]
        exact gI_ne (by omega)
theorem q_work {d : Nat} {σ : HP} {H : HH} {w : LW} {D : DN} {tp : TPE} {ct : CNT} {B : BK} {pw : PW} {im : IMS} (A : MW σ H w D tp ct B pw im) (x : Int32) : if inrg 0 (min 150 tp.1) x then (if pw.1 = 16 then MQi σ (callF (d + 70) m_Mo_work [.ref 3980, .int x] σ) (-ii 20) 0 (fun τ => MW τ H w D (0, tp.2) (-ii 1, ct.2) B pw im) else (match wkAll tp.2 x.toNatClampNeg H with
    | .inl s => MQi σ (callF (d + 70) m_Mo_work [.ref 3980, .int x] σ) (ii (wkX H w D s).2.2.1) 0 (fun τ => MW τ H w (wkX H w D s).1 (0, tp.2) (-ii 1, (wkX H w D s).2.2.2, ct.2.2) B (pw.1 + 1, fun i => if i = pw.1 then D else pw.2 i) im)
    | .inr G => MQi σ (callF (d + 70) m_Mo_work [.ref 3980, .int x] σ) (fk (some G) - ii 10) 0 (fun τ => MW τ H w D (0, tp.2) (fp (some G), ct.2) B pw im))) else MQi σ (callF (d + 70) m_Mo_work [.ref 3980, .int x] σ) (ii 0) 1 (fun τ => MW τ H w D tp (ct.1, ct.2.1, ct.2.2.1, ct.2.2.2 + 1) B pw im) := by
  have W0 := A.sc (t0_fm (v := ii 0)); have h0 := t0_at (σ := σ) (v := ii 0); have hh := A.2.2.2.2.1.1.1
  have t6 := A.2.2.2.2.2.1.2.1
  have g2 := W0.2.2.2.2.2.1.1
  cases hb : inrg 0 (min 150 tp.1) x with
  | false =>
    rw [if_neg (by decide)]
    have rr : ∀ d, callF (d + 1) m_Mo_may [.ref 3980, .int (ii 0), .int (ii 1), .int (ii 1)] (wI σ 3980 0 (ii 0)) = some (.inl (some (.int (ii 0))), rfM (wI σ 3980 0 (ii 0)) 1 1 (ct.2.2.2 + 1)) := fun d => r_arg (d := d) W0 h0 (c := 1) (by omega) false
    refine A.bad (c := 1) (σ' := wI σ 3980 0 (ii 0)) t0_fm ?_
    rcases inrg_Fm hb (by omega) with z | ⟨k, hk, rfl, z⟩
    · simp (disch := first | omega | exact b2_01 _ | exact ii0_01 | exact ii1_01 | (simp (disch := omega) only [rr, dr_some, Option.isSome_some, gR_wI, Nat.add_mul_mod_self_left, Nat.reduceMod, ak20, ak21, ak22, ak23, ak24, ak25, ak26, ak27, ak28, ak29, ak30, ak31, ak32, ak33, ak34, ak35, ak36, an20, an21, an22, an23, an24, an25, an26, an27, an28, an29, an30, an31, an32, an33, an34, an35, an36, an37, an38, ne_eq, inR_ii, decide_eq_true_eq, lit_ii, of_ii, ii_eq, ii_lt, ii_le]; first | done | omega)) only [rr, e_Mo_work, b_Mo_work_0, b_Mo_work_10, b_Mo_work_18, b_Mo_work_25, b_Mo_work_29, b_Mo_work_30, b_Mo_work_35, b_Mo_work_38, b_Mo_work_40, b_Mo_work_45, b_Mo_work_54, b_Mo_work_59, b_Mo_work_63, b_Mo_work_72, b_Mo_work_75, b_Mo_work_79, b_Mo_work_82, b_Mo_work_86, b_Mo_work_89, b_Mo_work_94, b_Mo_work_103, b_Mo_work_105, b_Mo_work_121, b_Mo_work_123, b_Mo_work_129, b_Mo_work_155, b_Mo_work_169, b_Mo_work_193, b_Mo_work_207, z, dr_some, Option.isSome_some, gR_wI, Nat.add_mul_mod_self_left, Nat.reduceMod, ak20, ak21, ak22, ak23, ak24, ak25, ak26, ak27, ak28, ak29, ak30, ak31, ak32, ak33, ak34, ak35, ak36, an20, an21, an22, an23, an24, an25, an26, an27, an28, an29, an30, an31, an32, an33, an34, an35, an36, an37, an38, ↓reduceIte, bk_int, bk_void, bk_long, bkN_int, bkN_void, bkN_long, Nat.reduceAdd, Nat.reduceMul, Nat.reduceSub, Nat.reduceLT, Nat.reduceLeDiff, if_true, if_false, not_true_eq_false, not_false_eq_true, Bool.true_eq_false, Bool.false_eq_true, b2_eq0, Nat.add_zero, Nat.zero_add, Nat.not_lt_zero, Nat.zero_le, ite_true, ite_false, decide_true, decide_false, lit_ii, of_ii, le_T, le_F, lt_T, lt_F, eq_T, eq_F, ii_add, ii_mul, ii_nat, ii_le, ii_lt, ii_eq, inR_ii, ii_add0]
    · by_cases y : tp.1 < k
      · simp (disch := first | omega | exact b2_01 _ | exact ii0_01 | exact ii1_01 | (simp (disch := omega) only [rr, g2, dr_some, Option.isSome_some, gR_wI, Nat.add_mul_mod_self_left, Nat.reduceMod, ak20, ak21, ak22, ak23, ak24, ak25, ak26, ak27, ak28, ak29, ak30, ak31, ak32, ak33, ak34, ak35, ak36, an20, an21, an22, an23, an24, an25, an26, an27, an28, an29, an30, an31, an32, an33, an34, an35, an36, an37, an38, ne_eq, inR_ii, decide_eq_true_eq, lit_ii, of_ii, ii_eq, ii_lt, ii_le]; first | done | omega)) only [rr, g2, e_Mo_work, b_Mo_work_0, b_Mo_work_10, b_Mo_work_18, b_Mo_work_25, b_Mo_work_29, b_Mo_work_30, b_Mo_work_35, b_Mo_work_38, b_Mo_work_40, b_Mo_work_45, b_Mo_work_54, b_Mo_work_59, b_Mo_work_63, b_Mo_work_72, b_Mo_work_75, b_Mo_work_79, b_Mo_work_82, b_Mo_work_86, b_Mo_work_89, b_Mo_work_94, b_Mo_work_103, b_Mo_work_105, b_Mo_work_121, b_Mo_work_123, b_Mo_work_129, b_Mo_work_155, b_Mo_work_169, b_Mo_work_193, b_Mo_work_207, y, dr_some, Option.isSome_some, gR_wI, Nat.add_mul_mod_self_left, Nat.reduceMod, ak20, ak21, ak22, ak23, ak24, ak25, ak26, ak27, ak28, ak29, ak30, ak31, ak32, ak33, ak34, ak35, ak36, an20, an21, an22, an23, an24, an25, an26, an27, an28, an29, an30, an31, an32, an33, an34, an35, an36, an37, an38, ↓reduceIte, bk_int, bk_void, bk_long, bkN_int, bkN_void, bkN_long, Nat.reduceAdd, Nat.reduceMul, Nat.reduceSub, Nat.reduceLT, Nat.reduceLeDiff, if_true, if_false, not_true_eq_false, not_false_eq_true, Bool.true_eq_false, Bool.false_eq_true, b2_eq0, Nat.add_zero, Nat.zero_add, Nat.not_lt_zero, Nat.zero_le, ite_true, ite_false, decide_true, decide_false, lit_ii, of_ii, le_T, le_F, lt_T, lt_F, eq_T, eq_F, ii_add, ii_mul, ii_nat, ii_le, ii_lt, ii_eq, inR_ii, ii_add0]
      · have y' : 150 < k := by omega
        simp (disch := first | omega | exact b2_01 _ | exact ii0_01 | exact ii1_01 | (simp (disch := omega) only [rr, g2, dr_some, Option.isSome_some, gR_wI, Nat.add_mul_mod_self_left, Nat.reduceMod, ak20, ak21, ak22, ak23, ak24, ak25, ak26, ak27, ak28, ak29, ak30, ak31, ak32, ak33, ak34, ak35, ak36, an20, an21, an22, an23, an24, an25, an26, an27, an28, an29, an30, an31, an32, an33, an34, an35, an36, an37, an38, ne_eq, inR_ii, decide_eq_true_eq, lit_ii, of_ii, ii_eq, ii_lt, ii_le]; first | done | omega)) only [rr, g2, e_Mo_work, b_Mo_work_0, b_Mo_work_10, b_Mo_work_18, b_Mo_work_25, b_Mo_work_29, b_Mo_work_30, b_Mo_work_35, b_Mo_work_38, b_Mo_work_40, b_Mo_work_45, b_Mo_work_54, b_Mo_work_59, b_Mo_work_63, b_Mo_work_72, b_Mo_work_75, b_Mo_work_79, b_Mo_work_82, b_Mo_work_86, b_Mo_work_89, b_Mo_work_94, b_Mo_work_103, b_Mo_work_105, b_Mo_work_121, b_Mo_work_123, b_Mo_work_129, b_Mo_work_155, b_Mo_work_169, b_Mo_work_193, b_Mo_work_207, y, y', dr_some, Option.isSome_some, gR_wI, Nat.add_mul_mod_self_left, Nat.reduceMod, ak20, ak21, ak22, ak23, ak24, ak25, ak26, ak27, ak28, ak29, ak30, ak31, ak32, ak33, ak34, ak35, ak36, an20, an21, an22, an23, an24, an25, an26, an27, an28, an29, an30, an31, an32, an33, an34, an35, an36, an37, an38, ↓reduceIte, bk_int, bk_void, bk_long, bkN_int, bkN_void, bkN_long, Nat.reduceAdd, Nat.reduceMul, Nat.reduceSub, Nat.reduceLT, Nat.reduceLeDiff, if_true, if_false, not_true_eq_false, not_false_eq_true, Bool.true_eq_false, Bool.false_eq_true, b2_eq0, Nat.add_zero, Nat.zero_add, Nat.not_lt_zero, Nat.zero_le, ite_true, ite_false, decide_true, decide_false, lit_ii, of_ii, le_T, le_F, lt_T, lt_F, eq_T, eq_F, ii_add, ii_mul, ii_nat, ii_le, ii_lt, ii_eq, inR_ii, ii_add0]
  | true =>
    rw [if_pos rfl]
    obtain ⟨n, -, hn, rfl⟩ := inrg_T hb (by omega) (by omega)
    rw [ii_nat (by omega)]
    have rr : ∀ d, callF (d + 1) m_Mo_may [.ref 3980, .int (ii 1), .int (ii 1), .int (ii 1)] (wI σ 3980 0 (ii 0)) = some (.inl (some (.int (ii 1))), wI σ 3980 0 (ii 0)) := fun d => r_arg (d := d) W0 h0 (c := 1) (by omega) true
    have n1 : ¬ tp.1 < n := by omega
    have n2 : ¬ 150 < n := by omega
    have n150 : n ≤ 150 := by omega
    have W1 := W0.beg (n := n)
    have R1 := RD.beg W0 (n := n) (by omega)
    have V1 := (bgH_v (σ := wI σ 3980 0 (ii 0)) (n := n)).2.2.2.2.2
    have hF0 : Fm (fun a j => a = 3980 ∧ (j = 0 ∨ (2 ≤ j ∧ j ≤ 8))) σ (bgH (wI σ 3980 0 (ii 0)) n) := (Fm.w Fm.rf (by omega) : Fm (fun a j => a = 3980 ∧ (j = 0 ∨ (2 ≤ j ∧ j ≤ 8))) σ (wI σ 3980 0 (ii 0))).tr (bgH_fm.mono (fun a j z => by omega))
    have h0b : gI (bgH (wI σ 3980 0 (ii 0)) n) 3980 0 = ii 0 := (bgH_fm.I (by omega)).trans h0
    have p33 := W1.2.2.2.2.2.2.2.2.1.1
    have p16 := W1.2.2.2.2.2.2.2.2.1.2.1
    have ea : callF (d + 70) m_Mo_work [.ref 3980, .int (ii n)] σ = runF (callF (d + 69)) (d + 69) m_Mo_work (45, [some (.ref 3980), some (.int (ii n)), none, none], [], bgH (wI σ 3980 0 (ii 0)) n) := by
      simp (disch := first | omega | exact b2_01 _ | exact ii0_01 | exact ii1_01 | (simp (disch := omega) only [rr, g2, dr_some, Option.isSome_some, gR_wI, Nat.add_mul_mod_self_left, Nat.reduceMod, ak20, ak21, ak22, ak23, ak24, ak25, ak26, ak27, ak28, ak29, ak30, ak31, ak32, ak33, ak34, ak35, ak36, an20, an21, an22, an23, an24, an25, an26, an27, an28, an29, an30, an31, an32, an33, an34, an35, an36, an37, an38, ne_eq, inR_ii, decide_eq_true_eq, lit_ii, of_ii, ii_eq, ii_lt, ii_le]; first | done | omega)) only [rr, g2, e_Mo_work, b_Mo_work_0, b_Mo_work_10, b_Mo_work_18, b_Mo_work_25, b_Mo_work_30, b_Mo_work_35, b_Mo_work_40, n1, n2, r_begins, Nat.succ_ne_zero, dr_some, Option.isSome_some, gR_wI, Nat.add_mul_mod_self_left, Nat.reduceMod, ak20, ak21, ak22, ak23, ak24, ak25, ak26, ak27, ak28, ak29, ak30, ak31, ak32, ak33, ak34, ak35, ak36, an20, an21, an22, an23, an24, an25, an26, an27, an28, an29, an30, an31, an32, an33, an34, an35, an36, an37, an38, ↓reduceIte, bk_int, bk_void, bk_long, bkN_int, bkN_void, bkN_long, Nat.reduceAdd, Nat.reduceMul, Nat.reduceSub, Nat.reduceLT, Nat.reduceLeDiff, if_true, if_false, not_true_eq_false, not_false_eq_true, Bool.true_eq_false, Bool.false_eq_true, b2_eq0, Nat.add_zero, Nat.zero_add, Nat.not_lt_zero, Nat.zero_le, ite_true, ite_false, decide_true, decide_false, lit_ii, of_ii, le_T, le_F, lt_T, lt_F, eq_T, eq_F, ii_add, ii_mul, ii_nat, ii_le, ii_lt, ii_eq, inR_ii, ii_add0]
    rw [ea]
    generalize bgH (wI σ 3980 0 (ii 0)) n = σ1 at *
    have OK1 : OKm σ σ1 := OKm.fs (hF0.fs (S' := Mdl) (fun a j z => by unfold Mdl; omega)) (fun a z => z)
    have w8ok : ∀ (τ : HP) (v : Int32), OKm τ (wI τ 3980 8 v) := fun τ v => OKm.fs (S := Mdl) (Fs.w Fs.rf (by unfold Mdl; omega)) (fun a z => z)
    by_cases z16 : pw.1 = 16
    · rw [if_pos z16]
      have W2 := W1.w8 (v := -ii 1)
      refine ⟨wI σ1 3980 8 (-ii 1), ?_, OK1.tr (w8ok _ _), (gI_nj (by omega)).trans h0b, W2⟩
      simp (disch := first | omega | exact b2_01 _ | exact ii0_01 | exact ii1_01 | (simp (disch := omega) only [p33, dr_some, Option.isSome_some, gR_wI, Nat.add_mul_mod_self_left, Nat.reduceMod, ak20, ak21, ak22, ak23, ak24, ak25, ak26, ak27, ak28, ak29, ak30, ak31, ak32, ak33, ak34, ak35, ak36, an20, an21, an22, an23, an24, an25, an26, an27, an28, an29, an30, an31, an32, an33, an34, an35, an36, an37, an38, ne_eq, inR_ii, decide_eq_true_eq, lit_ii, of_ii, ii_eq, ii_lt, ii_le]; first | done | omega)) only [p33, b_Mo_work_45, b_Mo_work_54, b_Mo_work_59, r_resT R1, z16, dr_some, Option.isSome_some, gR_wI, Nat.add_mul_mod_self_left, Nat.reduceMod, ak20, ak21, ak22, ak23, ak24, ak25, ak26, ak27, ak28, ak29, ak30, ak31, ak32, ak33, ak34, ak35, ak36, an20, an21, an22, an23, an24, an25, an26, an27, an28, an29, an30, an31, an32, an33, an34, an35, an36, an37, an38, ↓reduceIte, bk_int, bk_void, bk_long, bkN_int, bkN_void, bkN_long, Nat.reduceAdd, Nat.reduceMul, Nat.reduceSub, Nat.reduceLT, Nat.reduceLeDiff, if_true, if_false, not_true_eq_false, not_false_eq_true, Bool.true_eq_false, Bool.false_eq_true, b2_eq0, Nat.add_zero, Nat.zero_add, Nat.not_lt_zero, Nat.zero_le, ite_true, ite_false, decide_true, decide_false, lit_ii, of_ii, le_T, le_F, lt_T, lt_F, eq_T, eq_F, ii_add, ii_mul, ii_nat, ii_le, ii_lt, ii_eq, inR_ii, ii_add0]
    · rw [if_neg z16]
      have F32 : Fm MwF σ1 (wI σ1 3980 32 (ii 0)) := Fm.rf.w (by unfold MwF; omega)
      have hS := w_steps (T := tp.2) (H := H) W1.2.2.2.2.1.1 n150 6 (Nat.le_refl _)
      obtain ⟨σ2, e2, Q2, F2⟩ := w_top hS (wkSn_fwd 6) (d := d + 69) (by omega) (by omega) (l1 := some (.int (ii n))) (l2 := none) (l3 := none) (n + 1) (0, 0, fun _ => (0, 0, 0)) (wI σ1 3980 32 (ii 0)) (R1.fm (S := fun a j => a = 3980 ∧ j = 32) (Fm.w Fm.rf ⟨rfl, rfl⟩) (fun j => by omega) (fun j z => by omega)) ⟨gI_at, fun i hi => absurd hi (Nat.not_lt_zero _)⟩ (Nat.le_refl _) ((gI_nj (by omega)).trans V1) (MH3.wf ⟨W1.2.1.1, W1.2.1.2.1, W1.2.1.2.2.1⟩ F32) (by show n - 0 < n + 1; omega)
      have eb : runF (callF (d + 69)) (d + 69) m_Mo_work (45, [some (.ref 3980), some (.int (ii n)), none, none], [], σ1) = runF (callF (d + 69)) (d + 69) m_Mo_work (89, [some (.ref 3980), some (.int (ii n)), none, none], [], σ2) := by
        rw [← e2]
        simp (disch := first | omega | exact b2_01 _ | exact ii0_01 | exact ii1_01 | (simp (disch := omega) only [p33, dr_some, Option.isSome_some, gR_wI, Nat.add_mul_mod_self_left, Nat.reduceMod, ak20, ak21, ak22, ak23, ak24, ak25, ak26, ak27, ak28, ak29, ak30, ak31, ak32, ak33, ak34, ak35, ak36, an20, an21, an22, an23, an24, an25, an26, an27, an28, an29, an30, an31, an32, an33, an34, an35, an36, an37, an38, ne_eq, inR_ii, decide_eq_true_eq, lit_ii, of_ii, ii_eq, ii_lt, ii_le]; first | done | omega)) only [p33, b_Mo_work_45, b_Mo_work_63, z16, dr_some, Option.isSome_some, gR_wI, Nat.add_mul_mod_self_left, Nat.reduceMod, ak20, ak21, ak22, ak23, ak24, ak25, ak26, ak27, ak28, ak29, ak30, ak31, ak32, ak33, ak34, ak35, ak36, an20, an21, an22, an23, an24, an25, an26, an27, an28, an29, an30, an31, an32, an33, an34, an35, an36, an37, an38, ↓reduceIte, bk_int, bk_void, bk_long, bkN_int, bkN_void, bkN_long, Nat.reduceAdd, Nat.reduceMul, Nat.reduceSub, Nat.reduceLT, Nat.reduceLeDiff, if_true, if_false, not_true_eq_false, not_false_eq_true, Bool.true_eq_false, Bool.false_eq_true, b2_eq0, Nat.add_zero, Nat.zero_add, Nat.not_lt_zero, Nat.zero_le, ite_true, ite_false, decide_true, decide_false, lit_ii, of_ii, le_T, le_F, lt_T, lt_F, eq_T, eq_F, ii_add, ii_mul, ii_nat, ii_le, ii_lt, ii_eq, inR_ii, ii_add0]
      rw [eb]
      have FF : Fm Msc σ1 σ2 := (MwF_sc F32).tr (MwF_sc F2)
      have W2 := W1.sc FF
      have h02 : gI σ2 3980 0 = ii 0 := (F2.I (by unfold MwF; omega)).trans ((gI_nj (by omega)).trans h0b)
      have OK2 : OKm σ σ2 := OK1.tr FF.okm
      have wkW := wkAll_w (T := tp.2) (H := H) n150
      have wkN := wkAll_n (T := tp.2) (n := n) (H := H)
      have Q2' : WQm σ2 tp.2 n 0 (wkAll tp.2 n H) := Q2
      cases hr : wkAll tp.2 n H with
      | inr G =>
        rw [hr] at Q2'
        have R2 : RB σ2 G := Q2'
        have R4 : RB (wI σ2 3980 8 (ii G.2)) G := R2.fm (S := fun a j => a = 3980 ∧ j = 8) (Fm.w Fm.rf ⟨rfl, rfl⟩) (fun j z => by omega)
        have e5 := R4.2.1
        have g6 := R4.2.2.2.1
        refine ⟨wI σ2 3980 8 (ii G.2), ?_, OK2.tr (w8ok _ _), (gI_nj (by omega)).trans h02, W2.w8⟩
        show _ = some (Sum.inl (some (Value.int (ii G.1 - ii 10))), _)
        simp (disch := first | omega | exact b2_01 _ | exact ii0_01 | exact ii1_01 | (simp (disch := omega) only [e5, dr_some, Option.isSome_some, gR_wI, Nat.add_mul_mod_self_left, Nat.reduceMod, ak20, ak21, ak22, ak23, ak24, ak25, ak26, ak27, ak28, ak29, ak30, ak31, ak32, ak33, ak34, ak35, ak36, an20, an21, an22, an23, an24, an25, an26, an27, an28, an29, an30, an31, an32, an33, an34, an35, an36, an37, an38, ne_eq, inR_ii, decide_eq_true_eq, lit_ii, of_ii, ii_eq, ii_lt, ii_le]; first | done | omega)) only [e5, b_Mo_work_89, b_Mo_work_94, b_Mo_work_103, r_resF R2, eq_ng, dr_some, Option.isSome_some, gR_wI, Nat.add_mul_mod_self_left, Nat.reduceMod, ak20, ak21, ak22, ak23, ak24, ak25, ak26, ak27, ak28, ak29, ak30, ak31, ak32, ak33, ak34, ak35, ak36, an20, an21, an22, an23, an24, an25, an26, an27, an28, an29, an30, an31, an32, an33, an34, an35, an36, an37, an38, ↓reduceIte, bk_int, bk_void, bk_long, bkN_int, bkN_void, bkN_long, Nat.reduceAdd, Nat.reduceMul, Nat.reduceSub, Nat.reduceLT, Nat.reduceLeDiff, if_true, if_false, not_true_eq_false, not_false_eq_true, Bool.true_eq_false, Bool.false_eq_true, b2_eq0, Nat.add_zero, Nat.zero_add, Nat.not_lt_zero, Nat.zero_le, ite_true, ite_false, decide_true, decide_false, lit_ii, of_ii, le_T, le_F, lt_T, lt_F, eq_T, eq_F, ii_add, ii_mul, ii_nat, ii_le, ii_lt, ii_eq, inR_ii, ii_add0]
      | inl s =>
        rw [hr] at Q2'
        obtain ⟨A2, C2, o2⟩ := Q2'
        obtain ⟨w1, w2⟩ := wkW s hr
        obtain ⟨w3, w4⟩ := wkN s hr
        have k150 : 3 * s.2.1 ≤ 150 := by omega
        have A3 : RD (wI σ2 3980 8 (-ii 1)) tp.2 n s.1 := A2.fm (S := fun a j => a = 3980 ∧ j = 8) (Fm.w Fm.rf ⟨rfl, rfl⟩) (fun j => by omega) (fun j z => by omega)
        have e5 := A3.2.2.2.2.1
        have W3 := W2.w8 (v := -ii 1)
        have C3 : NS (wI σ2 3980 8 (-ii 1)) s.2.1 s.2.2 := C2.fm (S := fun a j => a = 3980 ∧ j = 8) (Fm.w Fm.rf ⟨rfl, rfl⟩) (by omega) (fun j => by omega)
        have OK3 : OKm σ (wI σ2 3980 8 (-ii 1)) := OK2.tr (w8ok _ _)
        have h03 : gI (wI σ2 3980 8 (-ii 1)) 3980 0 = ii 0 := (gI_nj (by omega)).trans h02
        have ec : runF (callF (d + 69)) (d + 69) m_Mo_work (89, [some (.ref 3980), some (.int (ii n)), none, none], [], σ2) = runF (callF (d + 69)) (d + 69) m_Mo_work (105, [some (.ref 3980), some (.int (ii n)), some (.int (ii 0)), none], [], wI σ2 3980 8 (-ii 1)) := by
          simp (disch := first | omega | exact b2_01 _ | exact ii0_01 | exact ii1_01 | (simp (disch := omega) only [e5, dr_some, Option.isSome_some, gR_wI, Nat.add_mul_mod_self_left, Nat.reduceMod, ak20, ak21, ak22, ak23, ak24, ak25, ak26, ak27, ak28, ak29, ak30, ak31, ak32, ak33, ak34, ak35, ak36, an20, an21, an22, an23, an24, an25, an26, an27, an28, an29, an30, an31, an32, an33, an34, an35, an36, an37, an38, ne_eq, inR_ii, decide_eq_true_eq, lit_ii, of_ii, ii_eq, ii_lt, ii_le]; first | done | omega)) only [e5, b_Mo_work_89, b_Mo_work_94, r_resT A2, ng_ng_eq, dr_some, Option.isSome_some, gR_wI, Nat.add_mul_mod_self_left, Nat.reduceMod, ak20, ak21, ak22, ak23, ak24, ak25, ak26, ak27, ak28, ak29, ak30, ak31, ak32, ak33, ak34, ak35, ak36, an20, an21, an22, an23, an24, an25, an26, an27, an28, an29, an30, an31, an32, an33, an34, an35, an36, an37, an38, ↓reduceIte, bk_int, bk_void, bk_long, bkN_int, bkN_void, bkN_long, Nat.reduceAdd, Nat.reduceMul, Nat.reduceSub, Nat.reduceLT, Nat.reduceLeDiff, if_true, if_false, not_true_eq_false, not_false_eq_true, Bool.true_eq_false, Bool.false_eq_true, b2_eq0, Nat.add_zero, Nat.zero_add, Nat.not_lt_zero, Nat.zero_le, ite_true, ite_false, decide_true, decide_false, lit_ii, of_ii, le_T, le_F, lt_T, lt_F, eq_T, eq_F, ii_add, ii_mul, ii_nat, ii_le, ii_lt, ii_eq, inR_ii, ii_add0]
        rw [ec]
        generalize wI σ2 3980 8 (-ii 1) = σ3 at *
        obtain ⟨c1, c2⟩ := C3
        obtain ⟨σ4, e4, F4, y4, -⟩ := r_copies (d := d + 68) (a := 4829) (b := 4893) (n := 3 * s.2.1) (σ := σ3) rfl rfl (by show 3 * s.2.1 ≤ 150; omega) (by show 3 * s.2.1 ≤ 150; omega) (by decide)
        have F34 : Fm Msc σ3 σ4 := F4.fm (fun a j z => by unfold Msc; omega)
        have W4 := W3.sc F34
        obtain ⟨σ5, e6, F5, y5⟩ := r_keepL (d := d + 69) (p := pw.1) (by omega) (l1 := some (.int (ii n))) (l2 := some (.int (ii 0))) 87 0 σ4 rfl W4.1 W4.2.2.2.2.2.2.2.2.1.1
        have F46 : Fm (fun a j => (a = 5088 ∧ 87 * pw.1 ≤ j) ∨ (a = 3980 ∧ j = 33)) σ4 (wI σ5 3980 33 (ii (pw.1 + 1))) := (F5.mono (fun a j z => by omega)).w (Or.inr ⟨rfl, rfl⟩)
        have W6 : MW (wI σ5 3980 33 (ii (pw.1 + 1))) H w D (0, tp.2) (-ii 1, ct.2) B (pw.1 + 1, fun i => if i = pw.1 then D else pw.2 i) im := by
          obtain ⟨a, b, ca, e, ⟨f1, f2, f3, f4, f5⟩, g, mc, i, j, l⟩ := W4
          refine ⟨a.fm F46, b.fm F46 (fun j z => by omega) (fun j => by omega) (fun j => by omega), ca.fm F46 (by omega) (fun j => by omega) (fun j => by omega), e.fm F46 (fun j => by omega), ⟨f1, f2, f3, f4, fun i hi => ?_, f5.2⟩, g.fm F46 (by omega) (fun j => by omega), mc.fm F46 (by omega) (by omega) (fun j => by omega), i.fm F46 (by omega) (fun j => by omega), ⟨gI_at, by show pw.1 + 1 ≤ 16; omega, fun i hi k hk => ?_⟩, l.fm F46 (by omega) (fun j => by omega)⟩
          · show dOK H (if i = pw.1 then D else pw.2 i)
            by_cases y : i = pw.1
            · rw [if_pos y]; exact ⟨f3, f4⟩
            · rw [if_neg y]; exact f5.1 i (by have : i < pw.1 + 1 := hi; omega)
          · have hi' : i < pw.1 + 1 := hi
            show _ = ii ((if i = pw.1 then D else pw.2 i) k)
            by_cases y : i = pw.1
            · rw [if_pos y, y, gI_ne (by omega), y5 k (Nat.zero_le _) hk]
              exact e k hk
            · rw [if_neg y, F46.I (by omega)]
              exact j.2.2 i (by omega) k hk
        obtain ⟨σ7, e7, S7, W7, F7⟩ := r_take (d := d + 67) W6
        have F47 : Fm (fun a j => (a = 5088 ∧ 87 * pw.1 ≤ j) ∨ (a = 3980 ∧ j = 33) ∨ a = 5019) σ4 σ7 := (F46.mono (fun a j z => by omega)).tr (F7.fm (fun a j z => Or.inr (Or.inr z)))
        have S8 := ((S7.w3 (j := 35) (v := ii 0) (by omega)).w3 (j := 36) (v := ii 0) (by omega)).w3 (j := 37) (v := ii 0) (by omega)
        have F78 : Fm MgX σ7 (wI (wI (wI σ7 3980 35 (ii 0)) 3980 36 (ii 0)) 3980 37 (ii 0)) := ((Fm.rf.x3 (by omega)).x3 (by omega)).x3 (by omega)
        have N7 : NT σ7 s.2.1 s.2.2 := fun i hi => by
          obtain ⟨u, v, z⟩ := c2 i hi
          refine ⟨?_, ?_, ?_⟩
          · rw [F47.I (by omega), y4 _ (by omega)]; exact u
          · rw [F47.I (by omega), y4 _ (by omega)]; exact v
          · rw [F47.I (by omega), y4 _ (by omega)]; exact z
        have X8 : MwX (wI (wI (wI σ7 3980 35 (ii 0)) 3980 36 (ii 0)) 3980 37 (ii 0)) (D, 0, 0, 0) := ⟨(gI_nj (by omega)).trans ((gI_nj (by omega)).trans gI_at), (gI_nj (by omega)).trans gI_at, gI_at⟩
        have k8 : gI (wI (wI (wI σ7 3980 35 (ii 0)) 3980 36 (ii 0)) 3980 37 (ii 0)) 3980 32 = ii (3 * s.2.1) := (F78.I (by unfold MgX Mg; omega)).trans ((F47.I (by omega)).trans ((F4.I (by omega)).trans c1))
        obtain ⟨σ9, e9, S9, N9, X9, hd9, hb9, F9⟩ := gx_all k150 w2 6 (d + 69) (by omega) _ (D, 0, 0, 0) 0 s.2.1 S8 (N7.fm F78) X8 W7.2.2.2.2.1.2.2.2.1 (by show 0 ≤ 200; omega) (Nat.zero_le _) (Nat.le_refl _) w3
        rw [Nat.mul_zero] at e9
        have W9 := W7.sc ((MgX_sc F78).tr (MgX_sc F9))
        obtain ⟨σ10, e10, F10, y10, -⟩ := r_copies (d := d + 68) (a := 5019) (b := 4955) (n := 87) (σ := σ9) rfl rfl (by decide) (by decide) (by decide)
        have x36 : gI (wI σ10 3980 34 (ii (wkX H w D s).2.2.2)) 3980 36 = ii (wkX H w D s).2.2.1 := (gI_nj (by omega)).trans ((F10.I (by omega)).trans X9.2.1)
        have x37 : gI σ10 3980 37 = ii (wkX H w D s).2.2.2 := (F10.I (by omega)).trans X9.2.2
        have F911 : Fm (fun a j => a = 4955 ∨ (a = 3980 ∧ j = 34)) σ9 (wI σ10 3980 34 (ii (wkX H w D s).2.2.2)) := (F10.fm (fun a j z => Or.inl z)).w (Or.inr ⟨rfl, rfl⟩)
        have F39 : Fm (fun a j => a = 4893 ∨ a = 5088 ∨ (a = 3980 ∧ (j = 33 ∨ j = 35 ∨ j = 36 ∨ j = 37)) ∨ Mg a) σ3 σ9 := (((F4.fm (fun a j z => by omega)).tr (F47.mono (fun a j z => by unfold Mg; omega))).tr (F78.mono (fun a j z => by unfold MgX Mg at z; unfold Mg; omega))).tr (F9.mono (fun a j z => by unfold MgX Mg at z; unfold Mg; omega))
        refine ⟨wI σ10 3980 34 (ii (wkX H w D s).2.2.2), ?_, (OK3.tr (OKm.fs (F39.fs (S' := Mdl) (fun a j z => by unfold Mg at z; unfold Mdl; omega)) (fun a z => z))).tr (OKm.fs (F911.fs (S' := Mdl) (fun a j z => by unfold Mdl; omega)) (fun a z => z)), (F911.I (by omega)).trans ((F39.I (by unfold Mg; omega)).trans h03), ?_⟩
        · have a3 := W3.1
          have z40 : gR σ4 3980 40 = some 5088 := W4.1.2.2.2.2.2.2.2.2.2.2.2.2.2.2.2.2.1
          have a9 := W9.1
          have z38' : gR σ9 3980 38 = some 4955 := a9.2.2.2.2.2.2.2.2.2.2.2.2.2.2.1
          have z39' : gR σ9 3980 39 = some 5019 := a9.2.2.2.2.2.2.2.2.2.2.2.2.2.2.2.1
          have p33' : gI σ5 3980 33 = ii pw.1 := (F5.I (by omega)).trans W4.2.2.2.2.2.2.2.2.1.1
          obtain ⟨z1, z9, z10, z11, z12, z13, z22, z23, z24, z25, z26, z29, z30, z31, z38, z39, z40, z41, z42, z44, z45, z46, z47, z49⟩ := id a3
          have ed : runF (callF (d + 69)) (d + 69) m_Mo_work (105, [some (.ref 3980), some (.int (ii n)), some (.int (ii 0)), none], [], σ3) = runF (callF (d + 69)) (d + 69) m_Mo_work (123, [some (.ref 3980), some (.int (ii n)), some (.int (ii 0)), some (.int (ii 0))], [], σ4) := by
            simp (disch := first | omega | exact ak27 | exact ak29 | exact ak20 | exact ak21 | exact ak22 | exact ak23 | exact ak24 | exact ak25 | exact ak28 | exact ak30 | exact ak31 | exact ak32 | exact ak33 | exact b2_01 _ | exact ii0_01 | exact ii1_01 | (simp (disch := omega) only [z1, z9, z10, z11, z12, z13, z22, z23, z24, z25, z26, z29, z30, z31, z38, z39, z40, z41, z42, z44, z45, z46, z47, z49, c1, e4, dr_some, Option.isSome_some, gR_wI, Nat.add_mul_mod_self_left, Nat.reduceMod, ak20, ak21, ak22, ak23, ak24, ak25, ak26, ak27, ak28, ak29, ak30, ak31, ak32, ak33, ak34, ak35, ak36, an20, an21, an22, an23, an24, an25, an26, an27, an28, an29, an30, an31, an32, an33, an34, an35, an36, an37, an38, ne_eq, inR_ii, decide_eq_true_eq, lit_ii, of_ii, ii_eq, ii_lt, ii_le, ii_add, ii_mul, ii_sub, ii_pred, ii_nat]; first | done | omega)) only [z1, z9, z10, z11, z12, z13, z22, z23, z24, z25, z26, z29, z30, z31, z38, z39, z40, z41, z42, z44, z45, z46, z47, z49, c1, e4, b_Mo_work_105, b_Mo_work_121, dr_some, Option.isSome_some, gR_wI, Nat.add_mul_mod_self_left, Nat.reduceMod, ak20, ak21, ak22, ak23, ak24, ak25, ak26, ak27, ak28, ak29, ak30, ak31, ak32, ak33, ak34, ak35, ak36, an20, an21, an22, an23, an24, an25, an26, an27, an28, an29, an30, an31, an32, an33, an34, an35, an36, an37, an38, ↓reduceIte, bk_int, bk_void, bk_long, bkN_int, bkN_void, bkN_long, Nat.reduceAdd, Nat.reduceMul, Nat.reduceSub, Nat.reduceLT, Nat.reduceLeDiff, if_true, if_false, not_true_eq_false, not_false_eq_true, Bool.true_eq_false, Bool.false_eq_true, b2_eq0, Nat.add_zero, Nat.zero_add, Nat.not_lt_zero, Nat.zero_le, ite_true, ite_false, decide_true, decide_false, lit_ii, of_ii, le_T, le_F, lt_T, lt_F, eq_T, eq_F, ii_add, ii_mul, ii_nat, ii_le, ii_lt, ii_eq, inR_ii, ii_add0]
          rw [ed, e6]
          show _ = some (Sum.inl (some (Value.int (ii (wkX H w D s).2.2.1))), _)
          simp (disch := first | omega | exact b2_01 _ | exact ii0_01 | exact ii1_01 | (simp (disch := omega) only [p33', e7, k8, e9, e10, z38', z39', x37, x36, dr_some, Option.isSome_some, gR_wI, Nat.add_mul_mod_self_left, Nat.reduceMod, ak20, ak21, ak22, ak23, ak24, ak25, ak26, ak27, ak28, ak29, ak30, ak31, ak32, ak33, ak34, ak35, ak36, an20, an21, an22, an23, an24, an25, an26, an27, an28, an29, an30, an31, an32, an33, an34, an35, an36, an37, an38, ne_eq, inR_ii, decide_eq_true_eq, lit_ii, of_ii, ii_eq, ii_lt, ii_le]; first | done | omega)) only [p33', e7, k8, e9, e10, z38', z39', x37, x36, b_Mo_work_155, b_Mo_work_169, b_Mo_work_193, b_Mo_work_207, dr_some, Option.isSome_some, gR_wI, Nat.add_mul_mod_self_left, Nat.reduceMod, ak20, ak21, ak22, ak23, ak24, ak25, ak26, ak27, ak28, ak29, ak30, ak31, ak32, ak33, ak34, ak35, ak36, an20, an21, an22, an23, an24, an25, an26, an27, an28, an29, an30, an31, an32, an33, an34, an35, an36, an37, an38, ↓reduceIte, bk_int, bk_void, bk_long, bkN_int, bkN_void, bkN_long, Nat.reduceAdd, Nat.reduceMul, Nat.reduceSub, Nat.reduceLT, Nat.reduceLeDiff, if_true, if_false, not_true_eq_false, not_false_eq_true, Bool.true_eq_false, Bool.false_eq_true, b2_eq0, Nat.add_zero, Nat.zero_add, Nat.not_lt_zero, Nat.zero_le, ite_true, ite_false, decide_true, decide_false, lit_ii, of_ii, le_T, le_F, lt_T, lt_F, eq_T, eq_F, ii_add, ii_mul, ii_nat, ii_le, ii_lt, ii_eq, inR_ii, ii_add0]
        · obtain ⟨a, b, ca, e, ⟨f1, f2, f3, f4, f5⟩, g, ⟨m1, m2, m3, m4⟩, i, j, l⟩ := W9
          exact ⟨a.fm F911, b.fm F911 (fun j z => by omega) (fun j => by omega) (fun j => by omega), ca.fm F911 (by omega) (fun j => by omega) (fun j => by omega), fun k hk => (gI_ne (by omega)).trans ((y10 k hk).trans (S9.2.2.2.1 k hk)), ⟨f1, f2, S9.2.2.2.2.2.2, hd9, f5⟩, g.fm F911 (by omega) (fun j => by omega), ⟨(F911.I (by omega)).trans m1, gI_at, (F911.I (by omega)).trans m3, (F911.I (by omega)).trans m4⟩, i.fm F911 (by omega) (fun j => by omega), j.fm F911 (by omega) (fun j => by omega), l.fm F911 (by omega) (fun j => by omega)⟩
