theorem HA.man {σ σ1 σ3 σ5 : HP} {h a b c : Nat} {H : HH} (A : HA σ h H) (F1 : Fs S1 σ σ1) (F3 : Fs S1 (wI σ1 (21 + 64 * (h + 1)) (hm H) (ii a)) σ3) (F5 : Fs S1 (wI σ3 (21 + 64 * (h + 2)) (hm H) (ii b)) σ5) (hh : 2 < h) : HA (wI (wI σ5 (21 + 64 * (h + 3)) (hm H) (ii c)) (2 + 64 * h) 1 (ii (hm H + 1))) h (addM H a b c) := by
  obtain ⟨hF, hM, hC, hPi, hr4, hr5, hr6, hr7, hr8, hv4, hv5, hv6, hv7, hv8⟩ := A
  have f1 := F1.R
  have f3 := F3.R
  have f5 := F5.R
  have g5 : ∀ a j, a ≠ 71 → gI σ5 a j = gI (wI σ3 (21 + 64 * (h + 2)) (hm H) (ii b)) a j := fun a j z => F5.I z
  have g3 : ∀ x j, x ≠ 71 → gI σ3 x j = gI (wI σ1 (21 + 64 * (h + 1)) (hm H) (ii a)) x j := fun a j z => F3.I z
  have g1 : ∀ a j, a ≠ 71 → gI σ1 a j = gI σ a j := fun a j z => F1.I z
  refine ⟨?_, gI_at, ?_, ?_, (f5 _ _).trans ((f3 _ _).trans ((f1 _ _).trans hr4)), (f5 _ _).trans ((f3 _ _).trans ((f1 _ _).trans hr5)), (f5 _ _).trans ((f3 _ _).trans ((f1 _ _).trans hr6)), (f5 _ _).trans ((f3 _ _).trans ((f1 _ _).trans hr7)), (f5 _ _).trans ((f3 _ _).trans ((f1 _ _).trans hr8)), fun m k => ?_, fun m k => ?_, fun m k => ?_, fun m k => ?_, fun m k => ?_⟩
  · rw [gI_nj (by decide), gI_ne (by omega), g5 _ _ (by omega), gI_ne (by omega), g3 _ _ (by omega), gI_ne (by omega), g1 _ _ (by omega)]; exact hF
  · rw [gI_nj (by decide), gI_ne (by omega), g5 _ _ (by omega), gI_ne (by omega), g3 _ _ (by omega), gI_ne (by omega), g1 _ _ (by omega)]; exact hC
  · rw [gI_nj (by decide), gI_ne (by omega), g5 _ _ (by omega), gI_ne (by omega), g3 _ _ (by omega), gI_ne (by omega), g1 _ _ (by omega)]; exact hPi
  · rw [gI_ne (by omega), gI_ne (by omega), g5 _ _ (by omega), gI_ne (by omega), g3 _ _ (by omega)]
    show _ = ii (if m < hm H + 1 then up1 (up1 (up1 H.2.1 (3 * hm H) a) (3 * hm H + 1) b) (3 * hm H + 2) c (3 * m) else 0)
    by_cases z : m = hm H
    · rw [z, gI_at, if_pos (by omega), up1_ne (by omega), up1_ne (by omega), up1_at]
    · rw [gI_nj z, g1 _ _ (by omega), hv4 m k]
      by_cases z2 : m < hm H
      · rw [if_pos z2, if_pos (by omega), up1_ne (by omega), up1_ne (by omega), up1_ne (by omega)]
        rfl
      · rw [if_neg z2, if_neg (by omega)]
  · have k' : m < hm H + 1 := k
    rw [gI_ne (by omega), gI_ne (by omega), g5 _ _ (by omega)]
    show _ = ii (up1 (up1 (up1 H.2.1 (3 * hm H) a) (3 * hm H + 1) b) (3 * hm H + 2) c (3 * m + 1))
    by_cases z : m = hm H
    · rw [z, gI_at, up1_ne (by omega), up1_at]
    · rw [gI_nj z, g3 _ _ (by omega), gI_ne (by omega), g1 _ _ (by omega), up1_ne (by omega), up1_ne (by omega), up1_ne (by omega)]
      exact hv5 m (by omega)
  · have k' : m < hm H + 1 := k
    rw [gI_ne (by omega)]
    show _ = ii (up1 (up1 (up1 H.2.1 (3 * hm H) a) (3 * hm H + 1) b) (3 * hm H + 2) c (3 * m + 2))
    by_cases z : m = hm H
    · rw [z, gI_at, up1_at]
    · rw [gI_nj z, g5 _ _ (by omega), gI_ne (by omega), g3 _ _ (by omega), gI_ne (by omega), g1 _ _ (by omega), up1_ne (by omega), up1_ne (by omega), up1_ne (by omega)]
      exact hv6 m (by omega)
  · rw [gI_ne (by omega), gI_ne (by omega), g5 _ _ (by omega), gI_ne (by omega), g3 _ _ (by omega), gI_ne (by omega), g1 _ _ (by omega)]; exact hv7 m k
  · rw [gI_ne (by omega), gI_ne (by omega), g5 _ _ (by omega), gI_ne (by omega), g3 _ _ (by omega), gI_ne (by omega), g1 _ _ (by omega)]; exact hv8 m k
theorem c_man {d n h p u : Nat} {T : Nat → Nat} {f : FA} {H : HH} {σ : HP} (R : RS σ T n p f u) (A : HA σ h H) (hh : 2 < h) (hm7 : hm H ≤ 7) (hf12 : hf H ≤ 12) : ∃ σ', callF (d + 4) m_House_readMan [.ref (2 + 64 * h), .ref 71] σ = some (.inl none, σ') ∧ HQ σ' T n h f u (hsM T n u (p, H)) ∧ Fs (SHs h) σ σ' := by
  have hp := R.2.2.2.2.2.2.1
  have u5 := R.2.2.2.2.2.1
  have u6 := R.2.2.2.2.2.2.2.2.1
  have hM := A.2.1
  have hFl := A.1
  unfold hsM
  by_cases q : hm H < 7
  · rw [if_pos q]
    obtain ⟨σ1, v, e1, R1, F1, V1⟩ := s_rdN (d := d) R (a := 0) (hi := hf H) (by omega) (by omega)
    have R2 := R1.w (a := 21 + 64 * (h + 1)) (j := hm H) (v := ii v) (by omega) (by omega)
    obtain ⟨σ3, v', e3, R3, F3, V3⟩ := s_rdN (d := d) R2 (a := 1) (hi := 61) (by omega) (by omega)
    have pr2 : prI32 61 = ii 60 := rfl
    rw [pr2] at e3
    have R4 := R3.w (a := 21 + 64 * (h + 2)) (j := hm H) (v := ii v') (by omega) (by omega)
    obtain ⟨σ5, v2, e5, R5, F5, V5⟩ := s_rdN (d := d) R4 (a := 0) (hi := 10) (by omega) (by omega)
    have pr3 : prI32 10 = ii 9 := rfl
    rw [pr3] at e5
    have R6 := (R5.w (a := 21 + 64 * (h + 3)) (j := hm H) (v := ii v2) (by omega) (by omega)).w (a := 2 + 64 * h) (j := 1) (v := ii (hm H + 1)) (by omega) (by omega)
    have A6 := A.man (c := v2) F1 F3 F5 hh
    have f1 := F1.R
    have f3 := F3.R
    have f5 := F5.R
    have w1 : gI σ1 (2 + 64 * h) 1 = ii (hm H) := (F1.I (by unfold S1; omega)).trans hM
    have w3 : gI σ3 (2 + 64 * h) 1 = ii (hm H) := by rw [F3.I (by unfold S1; omega), gI_ne (by omega), w1]
    have w5 : gI σ5 (2 + 64 * h) 1 = ii (hm H) := by rw [F5.I (by unfold S1; omega), gI_ne (by omega), w3]
    have F06 : Fs (SHs h) σ (wI (wI σ5 (21 + 64 * (h + 3)) (hm H) (ii v2)) (2 + 64 * h) 1 (ii (hm H + 1))) := Fs.w (Fs.w (Fs.tr (Fs.w (a := 21 + 64 * (h + 2)) (Fs.tr (Fs.w (a := 21 + 64 * (h + 1)) (S1_SH F1) (Or.inr (by omega))) (S1_SH F3)) (Or.inr (by omega))) (S1_SH F5)) (Or.inr (by omega))) (Or.inr (by omega))
    have hr4 := A.2.2.2.2.1
    have hr5 := A.2.2.2.2.2.1
    have hr6 := A.2.2.2.2.2.2.1
    refine ⟨wI (wI σ5 (21 + 64 * (h + 3)) (hm H) (ii v2)) (2 + 64 * h) 1 (ii (hm H + 1)), ?_, ?_, F06⟩
    · simp (disch := first | omega | exact b2_01 _ | exact ii0_01 | exact ii1_01 | (simp (disch := omega) only [f1, f3, f5, hr4, hr5, hr6, dr_some, Option.isSome_some, gR_wI, Nat.add_mul_mod_self_left, Nat.reduceMod, ak20, ak21, ak22, ak23, ak24, ak25, ak26, ak27, ak28, ak29, ak30, ak31, ak32, ak33, ak34, ak35, ak36, an20, an21, an22, an23, an24, an25, an26, an27, an28, an29, an30, an31, an32, an33, an34, an35, an36, an37, an38, ne_eq, inR_ii, decide_eq_true_eq, lit_ii, of_ii, ii_eq, ii_lt, ii_le]; first | done | omega)) only [f1, f3, f5, hr4, hr5, hr6, e_House_readMan, b_House_readMan_0, b_House_readMan_9, b_House_readMan_18, b_House_readMan_19, b_House_readMan_38, b_House_readMan_41, b_House_readMan_56, b_House_readMan_59, b_House_readMan_74, b_House_readMan_77, hM, hFl, pr_sub, e1, s_put, w1, e3, w3, e5, w5, gI_ne, dr_some, Option.isSome_some, gR_wI, Nat.add_mul_mod_self_left, Nat.reduceMod, ak20, ak21, ak22, ak23, ak24, ak25, ak26, ak27, ak28, ak29, ak30, ak31, ak32, ak33, ak34, ak35, ak36, an20, an21, an22, an23, an24, an25, an26, an27, an28, an29, an30, an31, an32, an33, an34, an35, an36, an37, an38, ↓reduceIte, bk_int, bk_void, bk_long, bkN_int, bkN_void, bkN_long, Nat.reduceAdd, Nat.reduceMul, Nat.reduceSub, Nat.reduceLT, Nat.reduceLeDiff, if_true, if_false, not_true_eq_false, not_false_eq_true, Bool.true_eq_false, Bool.false_eq_true, b2_eq0, Nat.add_zero, Nat.zero_add, Nat.not_lt_zero, Nat.zero_le, ite_true, ite_false, decide_true, decide_false, lit_ii, of_ii, le_T, le_F, lt_T, lt_F, eq_T, eq_F, ii_add, ii_mul, ii_nat, ii_le, ii_lt, ii_eq, inR_ii, ii_add0]
    · cases hv : numW T n 0 (hf H) p with
      | inr F =>
        rw [(numW_f hp hv).2, blm_blm, blm_blm] at R6
        exact ⟨_, R6⟩
      | inl z =>
        obtain ⟨p1, v1⟩ := z
        obtain ⟨a1, a2, a3, a4, a5, a6, a7⟩ := numW_fwd hp hv
        have V1' := V1 a7
        rw [a7, blm_none, ← a5] at R6
        rw [← a5] at V3 V5
        simp only
        cases hv' : numW T n 1 61 p1 with
        | inr F =>
          rw [(numW_f a2 hv').2, blm_blm] at R6
          exact ⟨_, R6⟩
        | inl z' =>
          obtain ⟨p2, y2⟩ := z'
          obtain ⟨b1, b2, b3, b4, b5, b6, b7⟩ := numW_fwd a2 hv'
          rw [b7, blm_none, ← b5] at R6
          rw [← b5] at V5
          simp only
          cases hv2 : numW T n 0 10 p2 with
          | inr F =>
            rw [(numW_f b2 hv2).2] at R6
            exact ⟨_, R6⟩
          | inl z2 =>
            obtain ⟨p3, y3⟩ := z2
            obtain ⟨c1, c2, c3, c4, c5, c6, c7⟩ := numW_fwd b2 hv2
            rw [c7, blm_none, ← c5] at R6
            rw [← a6] at V1'
            have V3' := V3 b7
            rw [← b6] at V3'
            have V5' := V5 c7
            rw [← c6] at V5'
            subst V1'
            subst V3'
            subst V5'
            exact ⟨R6, fun _ => A6⟩
  · rw [if_neg q]
    obtain ⟨σ1, e1, R1, F1⟩ := s_blame (d := d + 2) R (k := 3) (q := u) (by omega) u6
    refine ⟨σ1, ?_, ⟨_, R1⟩, S1_SH F1⟩
    simp (disch := first | omega | exact b2_01 _ | exact ii0_01 | exact ii1_01 | (simp (disch := omega) only [lit_ii, dr_some, Option.isSome_some, gR_wI, Nat.add_mul_mod_self_left, Nat.reduceMod, ak20, ak21, ak22, ak23, ak24, ak25, ak26, ak27, ak28, ak29, ak30, ak31, ak32, ak33, ak34, ak35, ak36, an20, an21, an22, an23, an24, an25, an26, an27, an28, an29, an30, an31, an32, an33, an34, an35, an36, an37, an38, ne_eq, inR_ii, decide_eq_true_eq, lit_ii, of_ii, ii_eq, ii_lt, ii_le]; first | done | omega)) only [lit_ii, e_House_readMan, b_House_readMan_0, b_House_readMan_9, b_House_readMan_18, b_House_readMan_19, b_House_readMan_38, b_House_readMan_41, b_House_readMan_56, b_House_readMan_59, b_House_readMan_74, b_House_readMan_77, hM, q, u5, e1, dr_some, Option.isSome_some, gR_wI, Nat.add_mul_mod_self_left, Nat.reduceMod, ak20, ak21, ak22, ak23, ak24, ak25, ak26, ak27, ak28, ak29, ak30, ak31, ak32, ak33, ak34, ak35, ak36, an20, an21, an22, an23, an24, an25, an26, an27, an28, an29, an30, an31, an32, an33, an34, an35, an36, an37, an38, ↓reduceIte, bk_int, bk_void, bk_long, bkN_int, bkN_void, bkN_long, Nat.reduceAdd, Nat.reduceMul, Nat.reduceSub, Nat.reduceLT, Nat.reduceLeDiff, if_true, if_false, not_true_eq_false, not_false_eq_true, Bool.true_eq_false, Bool.false_eq_true, b2_eq0, Nat.add_zero, Nat.zero_add, Nat.not_lt_zero, Nat.zero_le, ite_true, ite_false, decide_true, decide_false, lit_ii, of_ii, le_T, le_F, lt_T, lt_F, eq_T, eq_F, ii_add, ii_mul, ii_nat, ii_le, ii_lt, ii_eq, inR_ii, ii_add0]
theorem c_clause {d n h p u x : Nat} {T : Nat → Nat} {f : FA} {H : HH} {σ : HP} (R : RS σ T n p f u) (A : HA σ h H) (hh : 2 < h) (hm7 : hm H ≤ 7) (hc8 : hc H ≤ 8) (hf12 : hf H ≤ 12) (hx : x < 4) : ∃ σ', callF (d + 5) m_House_readClause [.ref (2 + 64 * h), .ref 71, .int (ii x)] σ = some (.inl none, σ') ∧ HQ σ' T n h f u (hsB T n u x (p, H)) ∧ Fs (SHs h) σ σ' := by
  unfold hsB
  have h4 : x = 0 ∨ x = 1 ∨ x = 2 ∨ x = 3 := by omega
  rcases h4 with rfl | rfl | rfl | rfl
  · obtain ⟨σ1, e1, Q1, F1⟩ := c_floors (d := d) R A hh hm7
    refine ⟨σ1, ?_, Q1, F1⟩
    simp (disch := first | omega | exact b2_01 _ | exact ii0_01 | exact ii1_01 | (simp (disch := omega) only [lit_ii, dr_some, Option.isSome_some, gR_wI, Nat.add_mul_mod_self_left, Nat.reduceMod, ak20, ak21, ak22, ak23, ak24, ak25, ak26, ak27, ak28, ak29, ak30, ak31, ak32, ak33, ak34, ak35, ak36, an20, an21, an22, an23, an24, an25, an26, an27, an28, an29, an30, an31, an32, an33, an34, an35, an36, an37, an38, ne_eq, inR_ii, decide_eq_true_eq, lit_ii, of_ii, ii_eq, ii_lt, ii_le]; first | done | omega)) only [lit_ii, e_House_readClause, b_House_readClause_0, b_House_readClause_32, b_House_readClause_37, b_House_readClause_40, b_House_readClause_45, b_House_readClause_48, b_House_readClause_53, b_House_readClause_56, b_House_readClause_65, b_House_readClause_71, e1, dr_some, Option.isSome_some, gR_wI, Nat.add_mul_mod_self_left, Nat.reduceMod, ak20, ak21, ak22, ak23, ak24, ak25, ak26, ak27, ak28, ak29, ak30, ak31, ak32, ak33, ak34, ak35, ak36, an20, an21, an22, an23, an24, an25, an26, an27, an28, an29, an30, an31, an32, an33, an34, an35, an36, an37, an38, ↓reduceIte, bk_int, bk_void, bk_long, bkN_int, bkN_void, bkN_long, Nat.reduceAdd, Nat.reduceMul, Nat.reduceSub, Nat.reduceLT, Nat.reduceLeDiff, if_true, if_false, not_true_eq_false, not_false_eq_true, Bool.true_eq_false, Bool.false_eq_true, b2_eq0, Nat.add_zero, Nat.zero_add, Nat.not_lt_zero, Nat.zero_le, ite_true, ite_false, decide_true, decide_false, lit_ii, of_ii, le_T, le_F, lt_T, lt_F, eq_T, eq_F, ii_add, ii_mul, ii_nat, ii_le, ii_lt, ii_eq, inR_ii, ii_add0]
  · obtain ⟨σ1, e1, Q1, F1⟩ := c_man (d := d) R A hh hm7 hf12
    refine ⟨σ1, ?_, Q1, F1⟩
    simp (disch := first | omega | exact b2_01 _ | exact ii0_01 | exact ii1_01 | (simp (disch := omega) only [lit_ii, dr_some, Option.isSome_some, gR_wI, Nat.add_mul_mod_self_left, Nat.reduceMod, ak20, ak21, ak22, ak23, ak24, ak25, ak26, ak27, ak28, ak29, ak30, ak31, ak32, ak33, ak34, ak35, ak36, an20, an21, an22, an23, an24, an25, an26, an27, an28, an29, an30, an31, an32, an33, an34, an35, an36, an37, an38, ne_eq, inR_ii, decide_eq_true_eq, lit_ii, of_ii, ii_eq, ii_lt, ii_le]; first | done | omega)) only [lit_ii, e_House_readClause, b_House_readClause_0, b_House_readClause_32, b_House_readClause_37, b_House_readClause_40, b_House_readClause_45, b_House_readClause_48, b_House_readClause_53, b_House_readClause_56, b_House_readClause_65, b_House_readClause_71, e1, dr_some, Option.isSome_some, gR_wI, Nat.add_mul_mod_self_left, Nat.reduceMod, ak20, ak21, ak22, ak23, ak24, ak25, ak26, ak27, ak28, ak29, ak30, ak31, ak32, ak33, ak34, ak35, ak36, an20, an21, an22, an23, an24, an25, an26, an27, an28, an29, an30, an31, an32, an33, an34, an35, an36, an37, an38, ↓reduceIte, bk_int, bk_void, bk_long, bkN_int, bkN_void, bkN_long, Nat.reduceAdd, Nat.reduceMul, Nat.reduceSub, Nat.reduceLT, Nat.reduceLeDiff, if_true, if_false, not_true_eq_false, not_false_eq_true, Bool.true_eq_false, Bool.false_eq_true, b2_eq0, Nat.add_zero, Nat.zero_add, Nat.not_lt_zero, Nat.zero_le, ite_true, ite_false, decide_true, decide_false, lit_ii, of_ii, le_T, le_F, lt_T, lt_F, eq_T, eq_F, ii_add, ii_mul, ii_nat, ii_le, ii_lt, ii_eq, inR_ii, ii_add0]
  · obtain ⟨σ1, e1, Q1, F1⟩ := c_card (d := d) R A hh hc8
    refine ⟨σ1, ?_, Q1, F1⟩
    simp (disch := first | omega | exact b2_01 _ | exact ii0_01 | exact ii1_01 | (simp (disch := omega) only [lit_ii, dr_some, Option.isSome_some, gR_wI, Nat.add_mul_mod_self_left, Nat.reduceMod, ak20, ak21, ak22, ak23, ak24, ak25, ak26, ak27, ak28, ak29, ak30, ak31, ak32, ak33, ak34, ak35, ak36, an20, an21, an22, an23, an24, an25, an26, an27, an28, an29, an30, an31, an32, an33, an34, an35, an36, an37, an38, ne_eq, inR_ii, decide_eq_true_eq, lit_ii, of_ii, ii_eq, ii_lt, ii_le]; first | done | omega)) only [lit_ii, e_House_readClause, b_House_readClause_0, b_House_readClause_32, b_House_readClause_37, b_House_readClause_40, b_House_readClause_45, b_House_readClause_48, b_House_readClause_53, b_House_readClause_56, b_House_readClause_65, b_House_readClause_71, e1, dr_some, Option.isSome_some, gR_wI, Nat.add_mul_mod_self_left, Nat.reduceMod, ak20, ak21, ak22, ak23, ak24, ak25, ak26, ak27, ak28, ak29, ak30, ak31, ak32, ak33, ak34, ak35, ak36, an20, an21, an22, an23, an24, an25, an26, an27, an28, an29, an30, an31, an32, an33, an34, an35, an36, an37, an38, ↓reduceIte, bk_int, bk_void, bk_long, bkN_int, bkN_void, bkN_long, Nat.reduceAdd, Nat.reduceMul, Nat.reduceSub, Nat.reduceLT, Nat.reduceLeDiff, if_true, if_false, not_true_eq_false, not_false_eq_true, Bool.true_eq_false, Bool.false_eq_true, b2_eq0, Nat.add_zero, Nat.zero_add, Nat.not_lt_zero, Nat.zero_le, ite_true, ite_false, decide_true, decide_false, lit_ii, of_ii, le_T, le_F, lt_T, lt_F, eq_T, eq_F, ii_add, ii_mul, ii_nat, ii_le, ii_lt, ii_eq, inR_ii, ii_add0]
  · obtain ⟨σ1, e1, Q1, F1⟩ := c_piano (d := d + 1) R A hh
    exact ⟨σ1, e1, Q1, F1⟩
/-! how far it gets, and what it keeps -/
def okH (H : HH) : Prop := wH H
def hfw (n : Nat) (s : HsT) (r : PR HsT) : Prop := match r with
  | .inl s' => s.1 < s'.1 ∧ s'.1 ≤ n ∧ wH s'.2
  | .inr F => 1 ≤ F.1 ∧ F.1 ≤ 3 ∧ F.2 ≤ n
theorem hsB_fwd {T : Nat → Nat} {n q x : Nat} {s : HsT} (hs : s.1 ≤ n) (hq : q ≤ n) (hw : wH s.2) : hfw n s (hsB T n q x s) := by
  obtain ⟨⟨w1, w2, w3, w4, w5⟩, wm, wc⟩ := hw
  unfold hsB
  split
  · unfold hsF
    split
    · rename_i h0
      cases hv : numW T n 2 13 s.1 with
      | inr F => exact (numW_f hs hv).1
      | inl z =>
        obtain ⟨p, v⟩ := z
        obtain ⟨a1, a2, a3, a4, -⟩ := numW_fwd hs hv
        refine ⟨a1, a2, ⟨w1, w2, a3, by show v ≤ 12; omega, w5⟩, fun m hm' => ?_, wc⟩
        have : m < hm s.2 := hm'
        omega
    · exact ⟨by show 1 ≤ 3; omega, Nat.le_refl _, hq⟩
  · split
    · unfold hsM
      split
      · rename_i h7
        cases hv : numW T n 0 (hf s.2) s.1 with
        | inr F => exact (numW_f hs hv).1
        | inl z =>
          obtain ⟨p, a⟩ := z
          obtain ⟨a1, a2, a3, a4, -⟩ := numW_fwd hs hv
          simp only
          cases hv' : numW T n 1 61 p with
          | inr F => exact (numW_f a2 hv').1
          | inl z' =>
            obtain ⟨p', b⟩ := z'
            obtain ⟨b1, b2, b3, b4, -⟩ := numW_fwd a2 hv'
            simp only
            cases hv2 : numW T n 0 10 p' with
            | inr F => exact (numW_f b2 hv2).1
            | inl z2 =>
              obtain ⟨p2, c⟩ := z2
              obtain ⟨c1, c2, c3, c4, -⟩ := numW_fwd b2 hv2
              refine ⟨by show s.1 < p2; omega, c2, ⟨by show hm s.2 + 1 ≤ 7; omega, w2, w3, w4, w5⟩, fun m hm' => ?_, wc⟩
              have hm2 : m < hm s.2 + 1 := hm'
              show up1 (up1 (up1 s.2.2.1 (3 * hm s.2) a) (3 * hm s.2 + 1) b) (3 * hm s.2 + 2) c (3 * m) < hf s.2 ∧ 1 ≤ up1 (up1 (up1 s.2.2.1 (3 * hm s.2) a) (3 * hm s.2 + 1) b) (3 * hm s.2 + 2) c (3 * m + 1) ∧ up1 (up1 (up1 s.2.2.1 (3 * hm s.2) a) (3 * hm s.2 + 1) b) (3 * hm s.2 + 2) c (3 * m + 1) ≤ 60 ∧ up1 (up1 (up1 s.2.2.1 (3 * hm s.2) a) (3 * hm s.2 + 1) b) (3 * hm s.2 + 2) c (3 * m + 2) ≤ 9
              by_cases z : m = hm s.2
              · rw [z, up1_ne (by omega), up1_ne (by omega), up1_at, up1_ne (by omega), up1_at, up1_at]
                omega
              · rw [up1_ne (by omega), up1_ne (by omega), up1_ne (by omega), up1_ne (by omega), up1_ne (by omega), up1_ne (by omega), up1_ne (by omega), up1_ne (by omega), up1_ne (by omega)]
                exact wm m (by omega)
      · exact ⟨by show 1 ≤ 3; omega, Nat.le_refl _, hq⟩
    · split
      · unfold hsK
        split
        · rename_i h8
          cases hv : numW T n 1 21 s.1 with
          | inr F => exact (numW_f hs hv).1
          | inl z =>
            obtain ⟨p, a⟩ := z
            obtain ⟨a1, a2, a3, a4, -⟩ := numW_fwd hs hv
            simp only
            cases hv' : numW T n 0 10 p with
            | inr F => exact (numW_f a2 hv').1
            | inl z' =>
              obtain ⟨p', b⟩ := z'
              obtain ⟨b1, b2, b3, b4, -⟩ := numW_fwd a2 hv'
              refine ⟨by show s.1 < p'; omega, b2, ⟨w1, by show hc s.2 + 1 ≤ 8; omega, w3, w4, w5⟩, wm, fun c hc' => ?_⟩
              have hc2 : c < hc s.2 + 1 := hc'
              show 1 ≤ up1 (up1 s.2.2.2 (2 * hc s.2) a) (2 * hc s.2 + 1) b (2 * c) ∧ up1 (up1 s.2.2.2 (2 * hc s.2) a) (2 * hc s.2 + 1) b (2 * c) ≤ 20 ∧ up1 (up1 s.2.2.2 (2 * hc s.2) a) (2 * hc s.2 + 1) b (2 * c + 1) ≤ 9
              by_cases z : c = hc s.2
              · rw [z, up1_ne (by omega), up1_at, up1_at]
                omega
              · rw [up1_ne (by omega), up1_ne (by omega), up1_ne (by omega), up1_ne (by omega)]
                exact wc c (by omega)
        · exact ⟨by show 1 ≤ 3; omega, Nat.le_refl _, hq⟩
      · unfold hsP
        cases hv : numW T n 0 301 s.1 with
        | inr F => exact (numW_f hs hv).1
        | inl z =>
          obtain ⟨p, v⟩ := z
          obtain ⟨a1, a2, a3, a4, -⟩ := numW_fwd hs hv
          exact ⟨a1, a2, ⟨w1, w2, w3, w4, by show v ≤ 300; omega⟩, wm, wc⟩
theorem sgnH_k {T : Nat → Nat} {n c : Nat} {s s' : HsT} (hs : s.1 ≤ n) (h : sgnH T n c s = .inl s') : s'.2 = s.2 ∧ s.1 < s'.1 ∧ s'.1 ≤ n := by
  have h1 := sk_le (T := T) hs
  have h2 := sk_ge (T := T) hs
  unfold sgnH at h
  split at h
  · rename_i z
    have := of_decide_eq_true z
    cases h
    exact ⟨rfl, by show s.1 < sk T n s.1 + 1; omega, by show sk T n s.1 + 1 ≤ n; omega⟩
  · cases h
theorem hsC_fwd {T : Nat → Nat} {n k : Nat} {s : HsT} (hs : s.1 ≤ n) (hw : wH s.2) : hfw n s (hsC T n k s) := by
  have h1 := sk_le (T := T) hs
  have h2 := sk_ge (T := T) hs
  unfold hsC
  cases hx : wdX 1 T n s.1 with
  | none => exact ⟨Nat.le_refl _, by show 1 ≤ 3; omega, h1⟩
  | some x =>
    have g1 := wd1_fwd hx
    have g2 := wdP_le (T := T) hs
    simp only
    split
    · exact ⟨by show 1 ≤ 3; omega, Nat.le_refl _, h1⟩
    · have h3 := hsB_fwd (T := T) (q := sk T n s.1) (x := x) (s := (wdP T n s.1, s.2)) g2.2 h1 hw
      cases hb : hsB T n (sk T n s.1) x (wdP T n s.1, s.2) with
      | inr F => rw [hb] at h3; exact h3
      | inl s1 =>
        rw [hb] at h3
        obtain ⟨a1, a2, a3⟩ := h3
        simp only at a1 ⊢
        cases hc : sgnH T n 59 s1 with
        | inr F =>
          unfold sgnH at hc
          split at hc
          · cases hc
          · cases hc; exact ⟨Nat.le_refl _, by show 1 ≤ 3; omega, sk_le a2⟩
        | inl s2 =>
          obtain ⟨b1, b2, b3⟩ := sgnH_k a2 hc
          exact ⟨by omega, b3, by rw [b1]; exact a3⟩
theorem wH0 : wH H0 := ⟨⟨by decide, by decide, by decide, by decide, by decide⟩, fun m h => absurd h (Nat.not_lt_zero _), fun c h => absurd h (Nat.not_lt_zero _)⟩
theorem hsL_fwd {T : Nat → Nat} {n : Nat} : ∀ f k (s : HsT), s.1 ≤ n → wH s.2 → (match hsL T n f k s with
    | .inl s' => s'.1 ≤ n ∧ wH s'.2
    | .inr F => 1 ≤ F.1 ∧ F.1 ≤ 3 ∧ F.2 ≤ n) := by
  intro f
  induction f with
  | zero => intro k s hs hw; exact ⟨hs, hw⟩
  | succ f ih =>
    intro k s hs hw
    have h1 := sk_le (T := T) hs
    unfold hsL
    by_cases z : sk T n s.1 < n
    · rw [if_pos z]
      have h2 := hsC_fwd (T := T) (k := k) (s := (sk T n s.1, s.2)) h1 hw
      cases hc : hsC T n k (sk T n s.1, s.2) with
      | inr F => rw [hc] at h2; exact h2
      | inl s1 =>
        rw [hc] at h2
        obtain ⟨a1, a2, a3⟩ := h2
        exact ih (k + 1) s1 a2 a3
    · rw [if_neg z]
      exact ⟨h1, hw⟩
