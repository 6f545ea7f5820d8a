theorem MlF_sc {σ σ' : HP} (F : Fm MlF σ σ') : Fm Msc σ σ' := F.mono (fun a j z => by unfold MlF at z; unfold Msc; omega)
theorem q_law {d : Nat} {σ : HP} {H : HH} {w : LW} {D : DN} {tp : TPE} {ct : CNT} {B : BK} {pw : PW} {im : IMS} (A : MW σ H w D tp ct B pw im) (x : Int32) : if inrg 0 (min 150 tp.1) x then MQi σ (callF (d + 70) m_Mo_law [.ref 3980, .int x] σ) (if (flO (lwAll tp.2 x.toNatClampNeg)).isSome then fk (flO (lwAll tp.2 x.toNatClampNeg)) - ii 10 else ii 1) 0 (fun τ => MW τ H (lawW w (lwAll tp.2 x.toNatClampNeg)) D (0, tp.2) (fp (flO (lwAll tp.2 x.toNatClampNeg)), ct.2) B pw im) else MQi σ (callF (d + 70) m_Mo_law [.ref 3980, .int x] σ) (ii 0) 1 (fun τ => MW τ H w D tp (ct.1, ct.2.1, ct.2.2.1, ct.2.2.2 + 1) B pw im) := by
  have W0 := A.sc (t0_fm (v := ii 0)); have h0 := t0_at (σ := σ) (v := ii 0); have hh := A.2.2.2.2.1.1.1
  have t6 := A.2.2.2.2.2.1.2.1
  have g2 := W0.2.2.2.2.2.1.1
  cases hb : inrg 0 (min 150 tp.1) x with
  | false =>
    rw [if_neg (by decide)]
    have rr : ∀ d, callF (d + 1) m_Mo_may [.ref 3980, .int (ii 0), .int (ii 1), .int (ii 1)] (wI σ 3980 0 (ii 0)) = some (.inl (some (.int (ii 0))), rfM (wI σ 3980 0 (ii 0)) 1 1 (ct.2.2.2 + 1)) := fun d => r_arg (d := d) W0 h0 (c := 1) (by omega) false
    refine A.bad (c := 1) (σ' := wI σ 3980 0 (ii 0)) t0_fm ?_
    rcases inrg_Fm hb (by omega) with z | ⟨k, hk, rfl, z⟩
    · simp (disch := first | omega | exact b2_01 _ | exact ii0_01 | exact ii1_01 | (simp (disch := omega) only [rr, dr_some, Option.isSome_some, gR_wI, Nat.add_mul_mod_self_left, Nat.reduceMod, ak20, ak21, ak22, ak23, ak24, ak25, ak26, ak27, ak28, ak29, ak30, ak31, ak32, ak33, ak34, ak35, ak36, an20, an21, an22, an23, an24, an25, an26, an27, an28, an29, an30, an31, an32, an33, an34, an35, an36, an37, an38, ne_eq, inR_ii, decide_eq_true_eq, lit_ii, of_ii, ii_eq, ii_lt, ii_le]; first | done | omega)) only [rr, e_Mo_law, b_Mo_law_0, b_Mo_law_10, b_Mo_law_18, b_Mo_law_25, b_Mo_law_29, b_Mo_law_30, b_Mo_law_35, b_Mo_law_38, b_Mo_law_40, b_Mo_law_45, b_Mo_law_54, b_Mo_law_58, b_Mo_law_61, b_Mo_law_65, b_Mo_law_68, b_Mo_law_77, b_Mo_law_82, b_Mo_law_91, b_Mo_law_93, b_Mo_law_117, b_Mo_law_133, z, dr_some, Option.isSome_some, gR_wI, Nat.add_mul_mod_self_left, Nat.reduceMod, ak20, ak21, ak22, ak23, ak24, ak25, ak26, ak27, ak28, ak29, ak30, ak31, ak32, ak33, ak34, ak35, ak36, an20, an21, an22, an23, an24, an25, an26, an27, an28, an29, an30, an31, an32, an33, an34, an35, an36, an37, an38, ↓reduceIte, bk_int, bk_void, bk_long, bkN_int, bkN_void, bkN_long, Nat.reduceAdd, Nat.reduceMul, Nat.reduceSub, Nat.reduceLT, Nat.reduceLeDiff, if_true, if_false, not_true_eq_false, not_false_eq_true, Bool.true_eq_false, Bool.false_eq_true, b2_eq0, Nat.add_zero, Nat.zero_add, Nat.not_lt_zero, Nat.zero_le, ite_true, ite_false, decide_true, decide_false, lit_ii, of_ii, le_T, le_F, lt_T, lt_F, eq_T, eq_F, ii_add, ii_mul, ii_nat, ii_le, ii_lt, ii_eq, inR_ii, ii_add0]
    · by_cases y : tp.1 < k
      · simp (disch := first | omega | exact b2_01 _ | exact ii0_01 | exact ii1_01 | (simp (disch := omega) only [rr, g2, dr_some, Option.isSome_some, gR_wI, Nat.add_mul_mod_self_left, Nat.reduceMod, ak20, ak21, ak22, ak23, ak24, ak25, ak26, ak27, ak28, ak29, ak30, ak31, ak32, ak33, ak34, ak35, ak36, an20, an21, an22, an23, an24, an25, an26, an27, an28, an29, an30, an31, an32, an33, an34, an35, an36, an37, an38, ne_eq, inR_ii, decide_eq_true_eq, lit_ii, of_ii, ii_eq, ii_lt, ii_le]; first | done | omega)) only [rr, g2, e_Mo_law, b_Mo_law_0, b_Mo_law_10, b_Mo_law_18, b_Mo_law_25, b_Mo_law_29, b_Mo_law_30, b_Mo_law_35, b_Mo_law_38, b_Mo_law_40, b_Mo_law_45, b_Mo_law_54, b_Mo_law_58, b_Mo_law_61, b_Mo_law_65, b_Mo_law_68, b_Mo_law_77, b_Mo_law_82, b_Mo_law_91, b_Mo_law_93, b_Mo_law_117, b_Mo_law_133, y, dr_some, Option.isSome_some, gR_wI, Nat.add_mul_mod_self_left, Nat.reduceMod, ak20, ak21, ak22, ak23, ak24, ak25, ak26, ak27, ak28, ak29, ak30, ak31, ak32, ak33, ak34, ak35, ak36, an20, an21, an22, an23, an24, an25, an26, an27, an28, an29, an30, an31, an32, an33, an34, an35, an36, an37, an38, ↓reduceIte, bk_int, bk_void, bk_long, bkN_int, bkN_void, bkN_long, Nat.reduceAdd, Nat.reduceMul, Nat.reduceSub, Nat.reduceLT, Nat.reduceLeDiff, if_true, if_false, not_true_eq_false, not_false_eq_true, Bool.true_eq_false, Bool.false_eq_true, b2_eq0, Nat.add_zero, Nat.zero_add, Nat.not_lt_zero, Nat.zero_le, ite_true, ite_false, decide_true, decide_false, lit_ii, of_ii, le_T, le_F, lt_T, lt_F, eq_T, eq_F, ii_add, ii_mul, ii_nat, ii_le, ii_lt, ii_eq, inR_ii, ii_add0]
      · have y' : 150 < k := by omega
        simp (disch := first | omega | exact b2_01 _ | exact ii0_01 | exact ii1_01 | (simp (disch := omega) only [rr, g2, dr_some, Option.isSome_some, gR_wI, Nat.add_mul_mod_self_left, Nat.reduceMod, ak20, ak21, ak22, ak23, ak24, ak25, ak26, ak27, ak28, ak29, ak30, ak31, ak32, ak33, ak34, ak35, ak36, an20, an21, an22, an23, an24, an25, an26, an27, an28, an29, an30, an31, an32, an33, an34, an35, an36, an37, an38, ne_eq, inR_ii, decide_eq_true_eq, lit_ii, of_ii, ii_eq, ii_lt, ii_le]; first | done | omega)) only [rr, g2, e_Mo_law, b_Mo_law_0, b_Mo_law_10, b_Mo_law_18, b_Mo_law_25, b_Mo_law_29, b_Mo_law_30, b_Mo_law_35, b_Mo_law_38, b_Mo_law_40, b_Mo_law_45, b_Mo_law_54, b_Mo_law_58, b_Mo_law_61, b_Mo_law_65, b_Mo_law_68, b_Mo_law_77, b_Mo_law_82, b_Mo_law_91, b_Mo_law_93, b_Mo_law_117, b_Mo_law_133, y, y', dr_some, Option.isSome_some, gR_wI, Nat.add_mul_mod_self_left, Nat.reduceMod, ak20, ak21, ak22, ak23, ak24, ak25, ak26, ak27, ak28, ak29, ak30, ak31, ak32, ak33, ak34, ak35, ak36, an20, an21, an22, an23, an24, an25, an26, an27, an28, an29, an30, an31, an32, an33, an34, an35, an36, an37, an38, ↓reduceIte, bk_int, bk_void, bk_long, bkN_int, bkN_void, bkN_long, Nat.reduceAdd, Nat.reduceMul, Nat.reduceSub, Nat.reduceLT, Nat.reduceLeDiff, if_true, if_false, not_true_eq_false, not_false_eq_true, Bool.true_eq_false, Bool.false_eq_true, b2_eq0, Nat.add_zero, Nat.zero_add, Nat.not_lt_zero, Nat.zero_le, ite_true, ite_false, decide_true, decide_false, lit_ii, of_ii, le_T, le_F, lt_T, lt_F, eq_T, eq_F, ii_add, ii_mul, ii_nat, ii_le, ii_lt, ii_eq, inR_ii, ii_add0]
  | true =>
    rw [if_pos rfl]
    obtain ⟨n, -, hn, rfl⟩ := inrg_T hb (by omega) (by omega)
    rw [ii_nat (by omega)]
    have rr : ∀ d, callF (d + 1) m_Mo_may [.ref 3980, .int (ii 1), .int (ii 1), .int (ii 1)] (wI σ 3980 0 (ii 0)) = some (.inl (some (.int (ii 1))), wI σ 3980 0 (ii 0)) := fun d => r_arg (d := d) W0 h0 (c := 1) (by omega) true
    have n1 : ¬ tp.1 < n := by omega
    have n2 : ¬ 150 < n := by omega
    have n150 : n ≤ 150 := by omega
    have W1 := W0.beg (n := n)
    have R1 := RD.beg W0 (n := n) (by omega)
    have V1 := (bgH_v (σ := wI σ 3980 0 (ii 0)) (n := n)).2.2.2.2.2
    have hF0 : Fm (fun a j => a = 3980 ∧ (j = 0 ∨ (2 ≤ j ∧ j ≤ 8))) σ (bgH (wI σ 3980 0 (ii 0)) n) := (Fm.w Fm.rf (by omega) : Fm (fun a j => a = 3980 ∧ (j = 0 ∨ (2 ≤ j ∧ j ≤ 8))) σ (wI σ 3980 0 (ii 0))).tr (bgH_fm.mono (fun a j z => by omega))
    have h0b : gI (bgH (wI σ 3980 0 (ii 0)) n) 3980 0 = ii 0 := (bgH_fm.I (by omega)).trans h0
    have ea : ∀ X, callF (d + 69) m_Mo_readSum [.ref 3980] (wI (bgH (wI σ 3980 0 (ii 0)) n) 3980 27 (ii 0)) = some (.inl none, X) → callF (d + 70) m_Mo_law [.ref 3980, .int (ii n)] σ = runF (callF (d + 69)) (d + 69) m_Mo_law (54, [some (.ref 3980), some (.int (ii n)), none], [], X) := by
      intro X hX
      simp (disch := first | omega | exact b2_01 _ | exact ii0_01 | exact ii1_01 | (simp (disch := omega) only [rr, g2, hX, dr_some, Option.isSome_some, gR_wI, Nat.add_mul_mod_self_left, Nat.reduceMod, ak20, ak21, ak22, ak23, ak24, ak25, ak26, ak27, ak28, ak29, ak30, ak31, ak32, ak33, ak34, ak35, ak36, an20, an21, an22, an23, an24, an25, an26, an27, an28, an29, an30, an31, an32, an33, an34, an35, an36, an37, an38, ne_eq, inR_ii, decide_eq_true_eq, lit_ii, of_ii, ii_eq, ii_lt, ii_le]; first | done | omega)) only [rr, g2, hX, e_Mo_law, b_Mo_law_0, b_Mo_law_10, b_Mo_law_18, b_Mo_law_25, b_Mo_law_30, b_Mo_law_35, b_Mo_law_40, b_Mo_law_45, n1, n2, r_begins, Nat.succ_ne_zero, dr_some, Option.isSome_some, gR_wI, Nat.add_mul_mod_self_left, Nat.reduceMod, ak20, ak21, ak22, ak23, ak24, ak25, ak26, ak27, ak28, ak29, ak30, ak31, ak32, ak33, ak34, ak35, ak36, an20, an21, an22, an23, an24, an25, an26, an27, an28, an29, an30, an31, an32, an33, an34, an35, an36, an37, an38, ↓reduceIte, bk_int, bk_void, bk_long, bkN_int, bkN_void, bkN_long, Nat.reduceAdd, Nat.reduceMul, Nat.reduceSub, Nat.reduceLT, Nat.reduceLeDiff, if_true, if_false, not_true_eq_false, not_false_eq_true, Bool.true_eq_false, Bool.false_eq_true, b2_eq0, Nat.add_zero, Nat.zero_add, Nat.not_lt_zero, Nat.zero_le, ite_true, ite_false, decide_true, decide_false, lit_ii, of_ii, le_T, le_F, lt_T, lt_F, eq_T, eq_F, ii_add, ii_mul, ii_nat, ii_le, ii_lt, ii_eq, inR_ii, ii_add0]
    generalize bgH (wI σ 3980 0 (ii 0)) n = σ1 at *
    have F27 : Fm MlF σ1 (wI σ1 3980 27 (ii 0)) := Fm.rf.w (by unfold MlF; omega)
    have hU := lm_sum (l_units (T := tp.2) n150 6 (by omega)) (lwUn_fwd 6) n150 (by omega)
    obtain ⟨σ2, e2, Q2, F2⟩ := hU (d + 69) (by omega) (wI σ1 3980 27 (ii 0)) (0, 0, fun _ => 0) (R1.fm (S := fun a j => a = 3980 ∧ j = 27) (Fm.w Fm.rf ⟨rfl, rfl⟩) (fun j => by omega) (fun j z => by omega)) ⟨gI_at, fun i hi => absurd hi (Nat.not_lt_zero _)⟩ (Nat.le_refl _) ((gI_nj (by omega)).trans V1)
    rw [ea σ2 e2]
    have FF : Fm Msc σ1 σ2 := (MlF_sc F27).tr (MlF_sc F2)
    have W2 := W1.sc FF
    have h02 : gI σ2 3980 0 = ii 0 := (F2.I (by unfold MlF; omega)).trans ((gI_nj (by omega)).trans h0b)
    have OK2 : OKm σ σ2 := (OKm.fs (hF0.fs (S' := Mdl) (fun a j z => by unfold Mdl; omega)) (fun a z => z)).tr FF.okm
    have lwW := fun s => lwAll_w (T := tp.2) (s := s) n150
    have w8ok : ∀ (τ : HP) (v : Int32), OKm τ (wI τ 3980 8 v) := fun τ v => OKm.fs (S := Mdl) (Fs.w Fs.rf (by unfold Mdl; omega)) (fun a z => z)
    unfold lwAll at lwW ⊢
    cases hr : lwSum tp.2 n (lwUn tp.2 n 6) (0, 0, fun _ => 0) with
    | inr G =>
      rw [hr] at Q2
      have R2 : RB σ2 G := Q2
      have R4 : RB (wI σ2 3980 8 (ii G.2)) G := R2.fm (S := fun a j => a = 3980 ∧ j = 8) (Fm.w Fm.rf ⟨rfl, rfl⟩) (fun j z => by omega)
      have e5 := R4.2.1
      have g6 := R4.2.2.2.1
      refine ⟨wI σ2 3980 8 (ii G.2), ?_, OK2.tr (w8ok _ _), (gI_nj (by omega)).trans h02, W2.w8⟩
      show _ = some (Sum.inl (some (Value.int (ii G.1 - ii 10))), _)
      simp (disch := first | omega | exact b2_01 _ | exact ii0_01 | exact ii1_01 | (simp (disch := omega) only [e5, dr_some, Option.isSome_some, gR_wI, Nat.add_mul_mod_self_left, Nat.reduceMod, ak20, ak21, ak22, ak23, ak24, ak25, ak26, ak27, ak28, ak29, ak30, ak31, ak32, ak33, ak34, ak35, ak36, an20, an21, an22, an23, an24, an25, an26, an27, an28, an29, an30, an31, an32, an33, an34, an35, an36, an37, an38, ne_eq, inR_ii, decide_eq_true_eq, lit_ii, of_ii, ii_eq, ii_lt, ii_le]; first | done | omega)) only [e5, b_Mo_law_54, b_Mo_law_58, b_Mo_law_77, b_Mo_law_82, b_Mo_law_91, r_fineF R2, r_resF R2, eq_ng, dr_some, Option.isSome_some, gR_wI, Nat.add_mul_mod_self_left, Nat.reduceMod, ak20, ak21, ak22, ak23, ak24, ak25, ak26, ak27, ak28, ak29, ak30, ak31, ak32, ak33, ak34, ak35, ak36, an20, an21, an22, an23, an24, an25, an26, an27, an28, an29, an30, an31, an32, an33, an34, an35, an36, an37, an38, ↓reduceIte, bk_int, bk_void, bk_long, bkN_int, bkN_void, bkN_long, Nat.reduceAdd, Nat.reduceMul, Nat.reduceSub, Nat.reduceLT, Nat.reduceLeDiff, if_true, if_false, not_true_eq_false, not_false_eq_true, Bool.true_eq_false, Bool.false_eq_true, b2_eq0, Nat.add_zero, Nat.zero_add, Nat.not_lt_zero, Nat.zero_le, ite_true, ite_false, decide_true, decide_false, lit_ii, of_ii, le_T, le_F, lt_T, lt_F, eq_T, eq_F, ii_add, ii_mul, ii_nat, ii_le, ii_lt, ii_eq, inR_ii, ii_add0]
    | inl s =>
      rw [hr] at Q2 lwW
      obtain ⟨A2, C2, o2⟩ := Q2
      obtain ⟨σ3, e3, A3, F3⟩ := r_isMore (d := d + 67) A2
      have C3 := C2.rd (Mat_rd F3)
      have W3 := W2.sc (F3.mono (fun a j z => by unfold Mat at z; unfold Msc; omega))
      have h03 : gI σ3 3980 0 = ii 0 := (F3.I (by unfold Mat; omega)).trans h02
      have OK3 : OKm σ σ3 := OK2.tr (F3.mono (S' := Msc) (fun a j z => by unfold Mat at z; unfold Msc; omega)).okm
      simp only at lwW ⊢
      by_cases z : sk tp.2 n s.1 < n
      · rw [if_pos z]
        rw [decide_eq_true z] at e3
        have R4 := A3.bad (q := sk tp.2 n s.1) (k := 1) (by omega) (by omega)
        have F4 : Fm Msc σ3 (wI (wI σ3 3980 5 (ii (sk tp.2 n s.1))) 3980 6 (ii 1)) := (Fm.rf.w (by unfold Msc; omega)).w (by unfold Msc; omega)
        have W4 := W3.sc F4
        have e4 := A3.2.2.2.1
        have R5 : RB (wI (wI (wI σ3 3980 5 (ii (sk tp.2 n s.1))) 3980 6 (ii 1)) 3980 8 (ii (sk tp.2 n s.1))) (1, sk tp.2 n s.1) := R4.fm (S := fun a j => a = 3980 ∧ j = 8) (Fm.w Fm.rf ⟨rfl, rfl⟩) (fun j z => by omega)
        have e5 : gI (wI (wI (wI σ3 3980 5 (ii (sk tp.2 n s.1))) 3980 6 (ii 1)) 3980 8 (ii (sk tp.2 n s.1))) 3980 5 = ii (sk tp.2 n s.1) := R5.2.1
        have rf := fun d v => r_resF (d := d) (v := v) R4
        refine ⟨_, ?_, (OK3.tr F4.okm).tr (w8ok _ (ii (sk tp.2 n s.1))), (gI_nj (by omega)).trans ((gI_nj (by omega)).trans ((gI_nj (by omega)).trans h03)), W4.w8⟩
        show _ = some (Sum.inl (some (Value.int (ii 1 - ii 10))), _)
        simp (disch := first | omega | exact b2_01 _ | exact ii0_01 | exact ii1_01 | (simp (disch := omega) only [e3, e4, e5, rf, dr_some, Option.isSome_some, gR_wI, Nat.add_mul_mod_self_left, Nat.reduceMod, ak20, ak21, ak22, ak23, ak24, ak25, ak26, ak27, ak28, ak29, ak30, ak31, ak32, ak33, ak34, ak35, ak36, an20, an21, an22, an23, an24, an25, an26, an27, an28, an29, an30, an31, an32, an33, an34, an35, an36, an37, an38, ne_eq, inR_ii, decide_eq_true_eq, lit_ii, of_ii, ii_eq, ii_lt, ii_le]; first | done | omega)) only [e3, e4, e5, rf, b_Mo_law_54, b_Mo_law_58, b_Mo_law_61, b_Mo_law_65, b_Mo_law_68, b_Mo_law_77, b_Mo_law_82, b_Mo_law_91, r_fineT A2, r_wrong A3, eq_ng, Nat.succ_ne_zero, dr_some, Option.isSome_some, gR_wI, Nat.add_mul_mod_self_left, Nat.reduceMod, ak20, ak21, ak22, ak23, ak24, ak25, ak26, ak27, ak28, ak29, ak30, ak31, ak32, ak33, ak34, ak35, ak36, an20, an21, an22, an23, an24, an25, an26, an27, an28, an29, an30, an31, an32, an33, an34, an35, an36, an37, an38, ↓reduceIte, bk_int, bk_void, bk_long, bkN_int, bkN_void, bkN_long, Nat.reduceAdd, Nat.reduceMul, Nat.reduceSub, Nat.reduceLT, Nat.reduceLeDiff, if_true, if_false, not_true_eq_false, not_false_eq_true, Bool.true_eq_false, Bool.false_eq_true, b2_eq0, Nat.add_zero, Nat.zero_add, Nat.not_lt_zero, Nat.zero_le, ite_true, ite_false, decide_true, decide_false, lit_ii, of_ii, le_T, le_F, lt_T, lt_F, eq_T, eq_F, ii_add, ii_mul, ii_nat, ii_le, ii_lt, ii_eq, inR_ii, ii_add0]
      · rw [if_neg z] at lwW ⊢
        rw [decide_eq_false z] at e3
        have wl : wL s.2 := lwW (sk tp.2 n s.1, s.2.1, s.2.2) rfl
        have k150 := wl.1
        have A4 : RD (wI σ3 3980 8 (-ii 1)) tp.2 n (sk tp.2 n s.1) := A3.fm (S := fun a j => a = 3980 ∧ j = 8) (Fm.w Fm.rf ⟨rfl, rfl⟩) (fun j => by omega) (fun j z => by omega)
        have e5 := A4.2.2.2.2.1
        have W4 := W3.w8 (v := -ii 1)
        have C4 : LCm (wI σ3 3980 8 (-ii 1)) s.2.1 s.2.2 := C3.fm (S := fun a j => a = 3980 ∧ j = 8) (Fm.w Fm.rf ⟨rfl, rfl⟩) (by omega) (fun j => by omega) (fun j => by omega)
        obtain ⟨c1, c2⟩ := C4
        have c1' : gI (wI (wI σ3 3980 8 (-ii 1)) 3980 28 (ii s.2.1)) 3980 27 = ii s.2.1 := (gI_nj (by omega)).trans c1
        obtain ⟨σ5, e6, F6, y1, -⟩ := r_copies (d := d + 68) (a := 4445) (b := 4573) (n := s.2.1) (σ := wI (wI σ3 3980 8 (-ii 1)) 3980 28 (ii s.2.1)) rfl rfl (by show s.2.1 ≤ 150; omega) (by show s.2.1 ≤ 150; omega) (by decide)
        have c5 : gI σ5 3980 27 = ii s.2.1 := (F6.I (by omega)).trans c1'
        obtain ⟨σ6, e7, F7, y2, -⟩ := r_copies (d := d + 68) (a := 4509) (b := 4637) (n := s.2.1) (σ := σ5) rfl rfl (by show s.2.1 ≤ 150; omega) (by show s.2.1 ≤ 150; omega) (by decide)
        have F8 : Fm (fun a j => (a = 3980 ∧ j = 28) ∨ a = 4573 ∨ a = 4637) (wI σ3 3980 8 (-ii 1)) σ6 := ((Fm.w Fm.rf (by omega) : Fm (fun a j => (a = 3980 ∧ j = 28) ∨ a = 4573 ∨ a = 4637) (wI σ3 3980 8 (-ii 1)) (wI (wI σ3 3980 8 (-ii 1)) 3980 28 (ii s.2.1))).tr (F6.fm (fun a j z => Or.inr (Or.inl z)))).tr (F7.fm (fun a j z => Or.inr (Or.inr z)))
        obtain ⟨a, b, ca, e, ⟨f1, f2, f3⟩, g, mc, i, j, l⟩ := W4
        refine ⟨σ6, ?_, (OK3.tr (w8ok _ _)).tr (OKm.fs (F8.fs (S' := Mdl) (fun a j z => by unfold Mdl; omega)) (fun a z => z)), (F8.I (by omega)).trans ((gI_nj (by omega)).trans h03), a.fm F8, b.fm F8 (fun j z => by omega) (fun j => by omega) (fun j => by omega), Or.inr ⟨?_, fun k hk => ⟨?_, ?_⟩⟩, e.fm F8 (fun j => by omega), ⟨f1, wl, f3⟩, g.fm F8 (by omega) (fun j => by omega), mc.fm F8 (by omega) (by omega) (fun j => by omega), i.fm F8 (by omega) (fun j => by omega), j.fm F8 (by omega) (fun j => by omega), l.fm F8 (by omega) (fun j => by omega)⟩
        · show _ = some (Sum.inl (some (Value.int (ii 1))), _)
          have a4 := a
          have a5 := (a.of (σ' := σ5) (fun j => (F6.R _ _)))
          have y23 : gR σ5 3980 23 = some 4509 := a5.2.2.2.2.2.2.2.1
          have y25 : gR σ5 3980 25 = some 4637 := a5.2.2.2.2.2.2.2.2.2.1
          obtain ⟨z1, z9, z10, z11, z12, z13, z22, z23, z24, z25, z26, z29, z30, z31, z38, z39, z40, z41, z42, z44, z45, z46, z47, z49⟩ := id a4
          simp (disch := first | omega | exact ak27 | exact ak29 | exact ak20 | exact ak21 | exact ak22 | exact ak23 | exact ak24 | exact ak25 | exact ak28 | exact ak30 | exact ak31 | exact ak32 | exact ak33 | exact b2_01 _ | exact ii0_01 | exact ii1_01 | (simp (disch := omega) only [z1, z9, z10, z11, z12, z13, z22, z23, z24, z25, z26, z29, z30, z31, z38, z39, z40, z41, z42, z44, z45, z46, z47, z49, e3, e5, e6, e7, c1, c1', c5, y23, y25, dr_some, Option.isSome_some, gR_wI, Nat.add_mul_mod_self_left, Nat.reduceMod, ak20, ak21, ak22, ak23, ak24, ak25, ak26, ak27, ak28, ak29, ak30, ak31, ak32, ak33, ak34, ak35, ak36, an20, an21, an22, an23, an24, an25, an26, an27, an28, an29, an30, an31, an32, an33, an34, an35, an36, an37, an38, ne_eq, inR_ii, decide_eq_true_eq, lit_ii, of_ii, ii_eq, ii_lt, ii_le, ii_add, ii_mul, ii_sub, ii_pred, ii_nat]; first | done | omega)) only [z1, z9, z10, z11, z12, z13, z22, z23, z24, z25, z26, z29, z30, z31, z38, z39, z40, z41, z42, z44, z45, z46, z47, z49, e3, e5, e6, e7, c1, c1', c5, y23, y25, b_Mo_law_54, b_Mo_law_58, b_Mo_law_61, b_Mo_law_65, b_Mo_law_77, b_Mo_law_82, b_Mo_law_93, b_Mo_law_117, b_Mo_law_133, r_fineT A2, r_resT A3, ng_ng_eq, Nat.succ_ne_zero, dr_some, Option.isSome_some, gR_wI, Nat.add_mul_mod_self_left, Nat.reduceMod, ak20, ak21, ak22, ak23, ak24, ak25, ak26, ak27, ak28, ak29, ak30, ak31, ak32, ak33, ak34, ak35, ak36, an20, an21, an22, an23, an24, an25, an26, an27, an28, an29, an30, an31, an32, an33, an34, an35, an36, an37, an38, ↓reduceIte, bk_int, bk_void, bk_long, bkN_int, bkN_void, bkN_long, Nat.reduceAdd, Nat.reduceMul, Nat.reduceSub, Nat.reduceLT, Nat.reduceLeDiff, if_true, if_false, not_true_eq_false, not_false_eq_true, Bool.true_eq_false, Bool.false_eq_true, b2_eq0, Nat.add_zero, Nat.zero_add, Nat.not_lt_zero, Nat.zero_le, ite_true, ite_false, decide_true, decide_false, lit_ii, of_ii, le_T, le_F, lt_T, lt_F, eq_T, eq_F, ii_add, ii_mul, ii_nat, ii_le, ii_lt, ii_eq, inR_ii, ii_add0]
        · exact (F7.I (by omega)).trans ((F6.I (by omega)).trans gI_at)
        · have hk' : k < s.2.1 := hk
          rw [F7.I (by omega), y1 k hk', gI_ne (by omega)]
          exact (c2 k hk').1
        · have hk' : k < s.2.1 := hk
          rw [y2 k hk', F6.I (by omega), gI_ne (by omega)]
          exact (c2 k hk').2
