/-! steps done -/
def doB (H : HH) (w : LW) (D : DN) (e : Nat × Nat × Nat) : Bool := if e.1 = 0 then entB D e.2.1 else if e.1 = 1 then decide (¬ D (7 + e.2.1) = 0) else if e.1 = 2 then decide (D (28 + (e.2.1 * 8 + e.2.2)) < 9) else if e.1 = 3 then decide (¬ D (14 + e.2.1) = 0) else if e.1 = 4 then decide (¬ Bof D = 0) else if e.1 = 5 then decide (D (7 + e.2.1) = 0 ∧ ¬ D e.2.1 = e.2.2) else decide (D 86 < 400)
def doD (H : HH) (w : LW) (D : DN) (e : Nat × Nat × Nat) : DN := if e.1 = 0 then entN D e.2.1 else if e.1 = 1 then leaN D e.2.1 else if e.1 = 2 then sayN H w D e.2.1 e.2.2 else if e.1 = 3 then insN H D e.2.1 else if e.1 = 4 then goN H D else if e.1 = 5 then cliN D e.2.1 e.2.2 else if D 86 < 400 then nigN H D else D
abbrev XT : Type := DN × Nat × Nat × Nat
def one1 (H : HH) (w : LW) (x : XT) (e : Nat × Nat × Nat) : XT := (doD H w x.1 e, x.2.1, x.2.2.1 + (doB H w x.1 e).toNat, x.2.2.2 + (!doB H w x.1 e).toNat)
def beg (x : XT) : XT := (x.1, x.2.1 + 1, x.2.2)
def exL (H : HH) (w : LW) (ks : Nat → Nat × Nat × Nat) (Ag : Nat → XT → XT) (to : Nat) : Nat → Nat → XT → XT
  | 0, _, x => x
  | f + 1, k, x => if k < to ∧ x.2.1 < 200 then (if (ks k).1 = 7 then exL H w ks Ag to f (ks k).2.2 (Ag k (beg x)) else exL H w ks Ag to f (k + 1) (one1 H w (beg x) (ks k))) else x
def rpt (g : XT → XT) : Nat → XT → XT
  | 0, x => x
  | n + 1, x => if (rpt g n x).2.1 < 200 then g (rpt g n x) else rpt g n x
def exuN (H : HH) (w : LW) (ks : Nat → Nat × Nat × Nat) : Nat → Nat → Nat → XT → XT
  | 0, a, b => exL H w ks (fun _ x => x) b (b - a) a
  | r + 1, a, b => exL H w ks (fun k x => rpt (exuN H w ks r (k + 1) (ks k).2.2) (ks k).2.1 x) b (b - a) a
/-- steps that a house can do -/
def okS1 (H : HH) (k i : Nat) (e : Nat × Nat × Nat) : Prop := e.1 ≤ 7 ∧ (e.1 = 7 → i < e.2.2 ∧ e.2.2 ≤ k ∧ e.2.1 ≤ 30) ∧ (e.1 = 0 ∨ e.1 = 1 ∨ e.1 = 2 ∨ e.1 = 3 ∨ e.1 = 5 → e.2.1 < hm H) ∧ (e.1 = 2 → e.2.2 < hc H) ∧ (e.1 = 5 → e.2.2 < hf H)
def day_ok (D : DN) : Prop := D 86 ≤ 400
theorem sayN_86 {H : HH} {w : LW} {D : DN} {m c : Nat} (hm : m < 7) (hc : c < 8) : sayN H w D m c 86 = D 86 := by
  unfold sayN bump
  split
  · rw [up1_ne (by omega), up1_ne (by omega), up1_ne (by omega)]
  · rfl
theorem rdTo_86 (D : DN) (n : Nat) (h : n ≤ 7) : rdTo D n 86 = D 86 := rdTo_ne (by omega)
theorem outTo_86 (D : DN) : ∀ n, n ≤ 7 → outTo D n 86 = D 86 := by
  intro n
  induction n with
  | zero => intro _; rfl
  | succ n ih =>
    intro hn
    unfold outTo leaN
    split
    · exact ih (by omega)
    · rw [up1_ne (by omega), up1_ne (by omega), ih (by omega)]
theorem nigN_86 {H : HH} {D : DN} (hw : hm H ≤ 7) : nigN H D 86 = D 86 + 1 := by
  unfold nigN
  rw [if_neg (by omega), bump, up1_at, outTo_86 _ _ hw]
  unfold hlvF
  rw [if_neg (by omega)]
theorem doD_86 {H : HH} {w : LW} {D : DN} {e : Nat × Nat × Nat} {k i : Nat} (hw : wH H) (he : okS1 H k i e) (h7 : e.1 ≠ 7) (hd : day_ok D) : day_ok (doD H w D e) := by
  obtain ⟨h1, -, h3, h4, h5⟩ := he
  have hh := hw.1
  unfold day_ok at *
  unfold doD
  split
  · unfold entN
    split
    · rw [up1_ne (by omega)]; exact hd
    · exact hd
  · split
    · unfold leaN
      split
      · exact hd
      · rw [up1_ne (by omega), up1_ne (by omega)]; exact hd
    · split
      · rw [sayN_86 (by omega) (by omega)]; exact hd
      · split
        · unfold insN
          split
          · exact hd
          · split
            · rw [up1_ne (by omega)]; exact hd
            · rw [up1_ne (by omega), up1_ne (by omega)]; exact hd
        · split
          · unfold goN
            split
            · exact hd
            · rw [rdTo_86 _ _ (by omega), up1_ne (by omega)]; exact hd
          · split
            · unfold cliN
              split
              · split
                · exact hd
                · rw [up1_ne (by omega)]; exact hd
              · exact hd
            · split
              · rw [nigN_86 (by omega)]; omega
              · exact hd
theorem s_nightFalls {d t h l s : Nat} {H : HH} {w : LW} {D : Nat → Nat} {σ : HP} (L : CL σ t h l s H w D) (hd : D 86 ≤ 400) : ∃ σ', callF (d + 5) m_Lift_nightFalls [.ref (5 + 64 * t)] σ = some (.inl (some (.int (b2 (decide (D 86 < 400))))), σ') ∧ CL σ' t h l s H w (if D 86 < 400 then nigN H D else D) ∧ Fs (Sd l s) σ σ' := by
  by_cases q : D 86 < 400
  · obtain ⟨σ1, e1, L1, F1⟩ := s_sleep (d := d) L
    rw [if_pos q]
    refine ⟨σ1, ?_, L1, F1⟩
    obtain ⟨qP, qL, qD, ⟨hF, hM, hC, hPi, hr4, hr5, hr6, hr7, hr8, hv4, hv5, hv6, hv7, hv8⟩, ⟨dv0, dv1, dv2, dv3, dr4, dr5, dr6, dr7, dw4, dw5, dw6, dw7⟩, ⟨lr0, lr1, lr2, lv3, lw0⟩, ⟨⟨hw1, hw2, hw3, hw4, hw5⟩, hwm, hwc⟩, ⟨wd1, wd2, wd3⟩, wl, hap1, hap2, hap3⟩ := L
    simp (disch := first | omega | exact b2_01 _ | exact ii0_01 | exact ii1_01 | (simp (disch := omega) only [qP, qL, qD, hF, hM, hC, hPi, hr4, hr5, hr6, hr7, hr8, dv0, dv1, dv2, dv3, dr4, dr5, dr6, dr7, lr0, lr1, lr2, lv3, dr_some, Option.isSome_some, gR_wI, Nat.add_mul_mod_self_left, Nat.reduceMod, ak20, ak21, ak22, ak23, ak24, ak25, ak26, ak27, ak28, ak29, ak30, ak31, ak32, ak33, ak34, ak35, ak36, an20, an21, an22, an23, an24, an25, an26, an27, an28, an29, an30, an31, an32, an33, an34, an35, an36, an37, an38, ne_eq, inR_ii, decide_eq_true_eq, lit_ii, of_ii, ii_eq, ii_lt, ii_le]; first | done | omega)) only [e_Lift_nightFalls, b_Lift_nightFalls_0, b_Lift_nightFalls_13, b_Lift_nightFalls_15, b_Lift_nightFalls_19, q, e1, qP, qL, qD, hF, hM, hC, hPi, hr4, hr5, hr6, hr7, hr8, dv0, dv1, dv2, dv3, dr4, dr5, dr6, dr7, lr0, lr1, lr2, lv3, dr_some, Option.isSome_some, gR_wI, Nat.add_mul_mod_self_left, Nat.reduceMod, ak20, ak21, ak22, ak23, ak24, ak25, ak26, ak27, ak28, ak29, ak30, ak31, ak32, ak33, ak34, ak35, ak36, an20, an21, an22, an23, an24, an25, an26, an27, an28, an29, an30, an31, an32, an33, an34, an35, an36, an37, an38, ↓reduceIte, bk_int, bk_void, bk_long, bkN_int, bkN_void, bkN_long, Nat.reduceAdd, Nat.reduceMul, Nat.reduceSub, Nat.reduceLT, Nat.reduceLeDiff, if_true, if_false, not_true_eq_false, not_false_eq_true, Bool.true_eq_false, Bool.false_eq_true, b2_eq0, Nat.add_zero, Nat.zero_add, Nat.not_lt_zero, Nat.zero_le, ite_true, ite_false, decide_true, decide_false, lit_ii, of_ii, le_T, le_F, lt_T, lt_F, eq_T, eq_F, ii_add, ii_mul, ii_nat, ii_le, ii_lt, ii_eq, inR_ii, ii_add0]
    rfl
  · rw [if_neg q]
    refine ⟨σ, ?_, L, Fs.rf⟩
    obtain ⟨qP, qL, qD, ⟨hF, hM, hC, hPi, hr4, hr5, hr6, hr7, hr8, hv4, hv5, hv6, hv7, hv8⟩, ⟨dv0, dv1, dv2, dv3, dr4, dr5, dr6, dr7, dw4, dw5, dw6, dw7⟩, ⟨lr0, lr1, lr2, lv3, lw0⟩, ⟨⟨hw1, hw2, hw3, hw4, hw5⟩, hwm, hwc⟩, ⟨wd1, wd2, wd3⟩, wl, hap1, hap2, hap3⟩ := L
    simp (disch := first | omega | exact b2_01 _ | exact ii0_01 | exact ii1_01 | (simp (disch := omega) only [qP, qL, qD, hF, hM, hC, hPi, hr4, hr5, hr6, hr7, hr8, dv0, dv1, dv2, dv3, dr4, dr5, dr6, dr7, lr0, lr1, lr2, lv3, dr_some, Option.isSome_some, gR_wI, Nat.add_mul_mod_self_left, Nat.reduceMod, ak20, ak21, ak22, ak23, ak24, ak25, ak26, ak27, ak28, ak29, ak30, ak31, ak32, ak33, ak34, ak35, ak36, an20, an21, an22, an23, an24, an25, an26, an27, an28, an29, an30, an31, an32, an33, an34, an35, an36, an37, an38, ne_eq, inR_ii, decide_eq_true_eq, lit_ii, of_ii, ii_eq, ii_lt, ii_le]; first | done | omega)) only [e_Lift_nightFalls, b_Lift_nightFalls_0, b_Lift_nightFalls_13, b_Lift_nightFalls_15, b_Lift_nightFalls_19, q, qP, qL, qD, hF, hM, hC, hPi, hr4, hr5, hr6, hr7, hr8, dv0, dv1, dv2, dv3, dr4, dr5, dr6, dr7, lr0, lr1, lr2, lv3, dr_some, Option.isSome_some, gR_wI, Nat.add_mul_mod_self_left, Nat.reduceMod, ak20, ak21, ak22, ak23, ak24, ak25, ak26, ak27, ak28, ak29, ak30, ak31, ak32, ak33, ak34, ak35, ak36, an20, an21, an22, an23, an24, an25, an26, an27, an28, an29, an30, an31, an32, an33, an34, an35, an36, an37, an38, ↓reduceIte, bk_int, bk_void, bk_long, bkN_int, bkN_void, bkN_long, Nat.reduceAdd, Nat.reduceMul, Nat.reduceSub, Nat.reduceLT, Nat.reduceLeDiff, if_true, if_false, not_true_eq_false, not_false_eq_true, Bool.true_eq_false, Bool.false_eq_true, b2_eq0, Nat.add_zero, Nat.zero_add, Nat.not_lt_zero, Nat.zero_le, ite_true, ite_false, decide_true, decide_false, lit_ii, of_ii, le_T, le_F, lt_T, lt_F, eq_T, eq_F, ii_add, ii_mul, ii_nat, ii_le, ii_lt, ii_eq, inR_ii, ii_add0]
    rfl
theorem s_doStep {k i d t h l s : Nat} {H : HH} {w : LW} {D : Nat → Nat} {σ : HP} (L : CL σ t h l s H w D) (e : Nat × Nat × Nat) (he : okS1 H k i e) (h7 : e.1 ≠ 7) (hd : D 86 ≤ 400) (x y : Int32) (hx : e.1 ≠ 4 → e.1 ≠ 6 → x = ii e.2.1) (hy : e.1 = 2 ∨ e.1 = 5 → y = ii e.2.2) : ∃ σ', callF (d + 6) m_Work_doStep [.ref (5 + 64 * t), .int (ii e.1), .int x, .int y] σ = some (.inl (some (.int (b2 (doB H w D e)))), σ') ∧ CL σ' t h l s H w (doD H w D e) ∧ Fs (Sd l s) σ σ' := by
  obtain ⟨h1, -, h3, h4, h5⟩ := he
  have hh := L.wh.1
  obtain ⟨e1, e2, e3⟩ := e
  simp only at h1 h3 h4 h5 h7 hx hy
  unfold doB doD
  simp only
  have h8 : e1 = 0 ∨ e1 = 1 ∨ e1 = 2 ∨ e1 = 3 ∨ e1 = 4 ∨ e1 = 5 ∨ e1 = 6 := by omega
  rcases h8 with rfl | rfl | rfl | rfl | rfl | rfl | rfl
  · rw [hx (by omega) (by omega)]
    obtain ⟨σ1, q1, L1, F1⟩ := s_letIn (d := d + 1) L (m := e2) (by omega)
    refine ⟨σ1, ?_, L1, F1⟩
    simp (disch := first | omega | exact b2_01 _ | exact ii0_01 | exact ii1_01 | (simp (disch := omega) only [lit_ii, dr_some, Option.isSome_some, gR_wI, Nat.add_mul_mod_self_left, Nat.reduceMod, ak20, ak21, ak22, ak23, ak24, ak25, ak26, ak27, ak28, ak29, ak30, ak31, ak32, ak33, ak34, ak35, ak36, an20, an21, an22, an23, an24, an25, an26, an27, an28, an29, an30, an31, an32, an33, an34, an35, an36, an37, an38, ne_eq, inR_ii, decide_eq_true_eq, lit_ii, of_ii, ii_eq, ii_lt, ii_le]; first | done | omega)) only [lit_ii, e_Work_doStep, b_Work_doStep_0, b_Work_doStep_40, b_Work_doStep_45, b_Work_doStep_46, b_Work_doStep_51, b_Work_doStep_52, b_Work_doStep_58, b_Work_doStep_59, b_Work_doStep_64, b_Work_doStep_65, b_Work_doStep_69, b_Work_doStep_70, b_Work_doStep_76, b_Work_doStep_77, b_Work_doStep_81, q1, dr_some, Option.isSome_some, gR_wI, Nat.add_mul_mod_self_left, Nat.reduceMod, ak20, ak21, ak22, ak23, ak24, ak25, ak26, ak27, ak28, ak29, ak30, ak31, ak32, ak33, ak34, ak35, ak36, an20, an21, an22, an23, an24, an25, an26, an27, an28, an29, an30, an31, an32, an33, an34, an35, an36, an37, an38, ↓reduceIte, bk_int, bk_void, bk_long, bkN_int, bkN_void, bkN_long, Nat.reduceAdd, Nat.reduceMul, Nat.reduceSub, Nat.reduceLT, Nat.reduceLeDiff, if_true, if_false, not_true_eq_false, not_false_eq_true, Bool.true_eq_false, Bool.false_eq_true, b2_eq0, Nat.add_zero, Nat.zero_add, Nat.not_lt_zero, Nat.zero_le, ite_true, ite_false, decide_true, decide_false, lit_ii, of_ii, le_T, le_F, lt_T, lt_F, eq_T, eq_F, ii_add, ii_mul, ii_nat, ii_le, ii_lt, ii_eq, inR_ii, ii_add0]
  · rw [hx (by omega) (by omega)]
    obtain ⟨σ1, q1, L1, F1⟩ := s_letOut (d := d + 2) L (m := e2) (by omega)
    refine ⟨σ1, ?_, L1, F1⟩
    simp (disch := first | omega | exact b2_01 _ | exact ii0_01 | exact ii1_01 | (simp (disch := omega) only [lit_ii, dr_some, Option.isSome_some, gR_wI, Nat.add_mul_mod_self_left, Nat.reduceMod, ak20, ak21, ak22, ak23, ak24, ak25, ak26, ak27, ak28, ak29, ak30, ak31, ak32, ak33, ak34, ak35, ak36, an20, an21, an22, an23, an24, an25, an26, an27, an28, an29, an30, an31, an32, an33, an34, an35, an36, an37, an38, ne_eq, inR_ii, decide_eq_true_eq, lit_ii, of_ii, ii_eq, ii_lt, ii_le]; first | done | omega)) only [lit_ii, e_Work_doStep, b_Work_doStep_0, b_Work_doStep_40, b_Work_doStep_45, b_Work_doStep_46, b_Work_doStep_51, b_Work_doStep_52, b_Work_doStep_58, b_Work_doStep_59, b_Work_doStep_64, b_Work_doStep_65, b_Work_doStep_69, b_Work_doStep_70, b_Work_doStep_76, b_Work_doStep_77, b_Work_doStep_81, q1, dr_some, Option.isSome_some, gR_wI, Nat.add_mul_mod_self_left, Nat.reduceMod, ak20, ak21, ak22, ak23, ak24, ak25, ak26, ak27, ak28, ak29, ak30, ak31, ak32, ak33, ak34, ak35, ak36, an20, an21, an22, an23, an24, an25, an26, an27, an28, an29, an30, an31, an32, an33, an34, an35, an36, an37, an38, ↓reduceIte, bk_int, bk_void, bk_long, bkN_int, bkN_void, bkN_long, Nat.reduceAdd, Nat.reduceMul, Nat.reduceSub, Nat.reduceLT, Nat.reduceLeDiff, if_true, if_false, not_true_eq_false, not_false_eq_true, Bool.true_eq_false, Bool.false_eq_true, b2_eq0, Nat.add_zero, Nat.zero_add, Nat.not_lt_zero, Nat.zero_le, ite_true, ite_false, decide_true, decide_false, lit_ii, of_ii, le_T, le_F, lt_T, lt_F, eq_T, eq_F, ii_add, ii_mul, ii_nat, ii_le, ii_lt, ii_eq, inR_ii, ii_add0]
  · rw [hx (by omega) (by omega), hy (by omega)]
    obtain ⟨σ1, q1, L1, F1⟩ := s_sayTo (d := d) L (m := e2) (c := e3) (by omega) (by omega)
    refine ⟨σ1, ?_, L1, F1⟩
    simp (disch := first | omega | exact b2_01 _ | exact ii0_01 | exact ii1_01 | (simp (disch := omega) only [lit_ii, dr_some, Option.isSome_some, gR_wI, Nat.add_mul_mod_self_left, Nat.reduceMod, ak20, ak21, ak22, ak23, ak24, ak25, ak26, ak27, ak28, ak29, ak30, ak31, ak32, ak33, ak34, ak35, ak36, an20, an21, an22, an23, an24, an25, an26, an27, an28, an29, an30, an31, an32, an33, an34, an35, an36, an37, an38, ne_eq, inR_ii, decide_eq_true_eq, lit_ii, of_ii, ii_eq, ii_lt, ii_le]; first | done | omega)) only [lit_ii, e_Work_doStep, b_Work_doStep_0, b_Work_doStep_40, b_Work_doStep_45, b_Work_doStep_46, b_Work_doStep_51, b_Work_doStep_52, b_Work_doStep_58, b_Work_doStep_59, b_Work_doStep_64, b_Work_doStep_65, b_Work_doStep_69, b_Work_doStep_70, b_Work_doStep_76, b_Work_doStep_77, b_Work_doStep_81, q1, dr_some, Option.isSome_some, gR_wI, Nat.add_mul_mod_self_left, Nat.reduceMod, ak20, ak21, ak22, ak23, ak24, ak25, ak26, ak27, ak28, ak29, ak30, ak31, ak32, ak33, ak34, ak35, ak36, an20, an21, an22, an23, an24, an25, an26, an27, an28, an29, an30, an31, an32, an33, an34, an35, an36, an37, an38, ↓reduceIte, bk_int, bk_void, bk_long, bkN_int, bkN_void, bkN_long, Nat.reduceAdd, Nat.reduceMul, Nat.reduceSub, Nat.reduceLT, Nat.reduceLeDiff, if_true, if_false, not_true_eq_false, not_false_eq_true, Bool.true_eq_false, Bool.false_eq_true, b2_eq0, Nat.add_zero, Nat.zero_add, Nat.not_lt_zero, Nat.zero_le, ite_true, ite_false, decide_true, decide_false, lit_ii, of_ii, le_T, le_F, lt_T, lt_F, eq_T, eq_F, ii_add, ii_mul, ii_nat, ii_le, ii_lt, ii_eq, inR_ii, ii_add0]
  · rw [hx (by omega) (by omega)]
    obtain ⟨σ1, q1, L1, F1⟩ := s_insultOne (d := d + 2) L (m := e2) (by omega)
    refine ⟨σ1, ?_, L1, F1⟩
    simp (disch := first | omega | exact b2_01 _ | exact ii0_01 | exact ii1_01 | (simp (disch := omega) only [lit_ii, dr_some, Option.isSome_some, gR_wI, Nat.add_mul_mod_self_left, Nat.reduceMod, ak20, ak21, ak22, ak23, ak24, ak25, ak26, ak27, ak28, ak29, ak30, ak31, ak32, ak33, ak34, ak35, ak36, an20, an21, an22, an23, an24, an25, an26, an27, an28, an29, an30, an31, an32, an33, an34, an35, an36, an37, an38, ne_eq, inR_ii, decide_eq_true_eq, lit_ii, of_ii, ii_eq, ii_lt, ii_le]; first | done | omega)) only [lit_ii, e_Work_doStep, b_Work_doStep_0, b_Work_doStep_40, b_Work_doStep_45, b_Work_doStep_46, b_Work_doStep_51, b_Work_doStep_52, b_Work_doStep_58, b_Work_doStep_59, b_Work_doStep_64, b_Work_doStep_65, b_Work_doStep_69, b_Work_doStep_70, b_Work_doStep_76, b_Work_doStep_77, b_Work_doStep_81, q1, dr_some, Option.isSome_some, gR_wI, Nat.add_mul_mod_self_left, Nat.reduceMod, ak20, ak21, ak22, ak23, ak24, ak25, ak26, ak27, ak28, ak29, ak30, ak31, ak32, ak33, ak34, ak35, ak36, an20, an21, an22, an23, an24, an25, an26, an27, an28, an29, an30, an31, an32, an33, an34, an35, an36, an37, an38, ↓reduceIte, bk_int, bk_void, bk_long, bkN_int, bkN_void, bkN_long, Nat.reduceAdd, Nat.reduceMul, Nat.reduceSub, Nat.reduceLT, Nat.reduceLeDiff, if_true, if_false, not_true_eq_false, not_false_eq_true, Bool.true_eq_false, Bool.false_eq_true, b2_eq0, Nat.add_zero, Nat.zero_add, Nat.not_lt_zero, Nat.zero_le, ite_true, ite_false, decide_true, decide_false, lit_ii, of_ii, le_T, le_F, lt_T, lt_F, eq_T, eq_F, ii_add, ii_mul, ii_nat, ii_le, ii_lt, ii_eq, inR_ii, ii_add0]
  · obtain ⟨σ1, q1, L1, F1⟩ := s_goOnce (d := d) L
    refine ⟨σ1, ?_, L1, F1⟩
    simp (disch := first | omega | exact b2_01 _ | exact ii0_01 | exact ii1_01 | (simp (disch := omega) only [lit_ii, dr_some, Option.isSome_some, gR_wI, Nat.add_mul_mod_self_left, Nat.reduceMod, ak20, ak21, ak22, ak23, ak24, ak25, ak26, ak27, ak28, ak29, ak30, ak31, ak32, ak33, ak34, ak35, ak36, an20, an21, an22, an23, an24, an25, an26, an27, an28, an29, an30, an31, an32, an33, an34, an35, an36, an37, an38, ne_eq, inR_ii, decide_eq_true_eq, lit_ii, of_ii, ii_eq, ii_lt, ii_le]; first | done | omega)) only [lit_ii, e_Work_doStep, b_Work_doStep_0, b_Work_doStep_40, b_Work_doStep_45, b_Work_doStep_46, b_Work_doStep_51, b_Work_doStep_52, b_Work_doStep_58, b_Work_doStep_59, b_Work_doStep_64, b_Work_doStep_65, b_Work_doStep_69, b_Work_doStep_70, b_Work_doStep_76, b_Work_doStep_77, b_Work_doStep_81, q1, dr_some, Option.isSome_some, gR_wI, Nat.add_mul_mod_self_left, Nat.reduceMod, ak20, ak21, ak22, ak23, ak24, ak25, ak26, ak27, ak28, ak29, ak30, ak31, ak32, ak33, ak34, ak35, ak36, an20, an21, an22, an23, an24, an25, an26, an27, an28, an29, an30, an31, an32, an33, an34, an35, an36, an37, an38, ↓reduceIte, bk_int, bk_void, bk_long, bkN_int, bkN_void, bkN_long, Nat.reduceAdd, Nat.reduceMul, Nat.reduceSub, Nat.reduceLT, Nat.reduceLeDiff, if_true, if_false, not_true_eq_false, not_false_eq_true, Bool.true_eq_false, Bool.false_eq_true, b2_eq0, Nat.add_zero, Nat.zero_add, Nat.not_lt_zero, Nat.zero_le, ite_true, ite_false, decide_true, decide_false, lit_ii, of_ii, le_T, le_F, lt_T, lt_F, eq_T, eq_F, ii_add, ii_mul, ii_nat, ii_le, ii_lt, ii_eq, inR_ii, ii_add0]
  · rw [hx (by omega) (by omega), hy (by omega)]
    obtain ⟨σ1, q1, L1, F1⟩ := s_walkTo (d := d + 2) L (m := e2) (f := e3) (by omega) (by omega)
    refine ⟨σ1, ?_, L1, F1⟩
    simp (disch := first | omega | exact b2_01 _ | exact ii0_01 | exact ii1_01 | (simp (disch := omega) only [lit_ii, dr_some, Option.isSome_some, gR_wI, Nat.add_mul_mod_self_left, Nat.reduceMod, ak20, ak21, ak22, ak23, ak24, ak25, ak26, ak27, ak28, ak29, ak30, ak31, ak32, ak33, ak34, ak35, ak36, an20, an21, an22, an23, an24, an25, an26, an27, an28, an29, an30, an31, an32, an33, an34, an35, an36, an37, an38, ne_eq, inR_ii, decide_eq_true_eq, lit_ii, of_ii, ii_eq, ii_lt, ii_le]; first | done | omega)) only [lit_ii, e_Work_doStep, b_Work_doStep_0, b_Work_doStep_40, b_Work_doStep_45, b_Work_doStep_46, b_Work_doStep_51, b_Work_doStep_52, b_Work_doStep_58, b_Work_doStep_59, b_Work_doStep_64, b_Work_doStep_65, b_Work_doStep_69, b_Work_doStep_70, b_Work_doStep_76, b_Work_doStep_77, b_Work_doStep_81, q1, dr_some, Option.isSome_some, gR_wI, Nat.add_mul_mod_self_left, Nat.reduceMod, ak20, ak21, ak22, ak23, ak24, ak25, ak26, ak27, ak28, ak29, ak30, ak31, ak32, ak33, ak34, ak35, ak36, an20, an21, an22, an23, an24, an25, an26, an27, an28, an29, an30, an31, an32, an33, an34, an35, an36, an37, an38, ↓reduceIte, bk_int, bk_void, bk_long, bkN_int, bkN_void, bkN_long, Nat.reduceAdd, Nat.reduceMul, Nat.reduceSub, Nat.reduceLT, Nat.reduceLeDiff, if_true, if_false, not_true_eq_false, not_false_eq_true, Bool.true_eq_false, Bool.false_eq_true, b2_eq0, Nat.add_zero, Nat.zero_add, Nat.not_lt_zero, Nat.zero_le, ite_true, ite_false, decide_true, decide_false, lit_ii, of_ii, le_T, le_F, lt_T, lt_F, eq_T, eq_F, ii_add, ii_mul, ii_nat, ii_le, ii_lt, ii_eq, inR_ii, ii_add0]
  · obtain ⟨σ1, q1, L1, F1⟩ := s_nightFalls (d := d) L hd
    refine ⟨σ1, ?_, L1, F1⟩
    simp (disch := first | omega | exact b2_01 _ | exact ii0_01 | exact ii1_01 | (simp (disch := omega) only [lit_ii, dr_some, Option.isSome_some, gR_wI, Nat.add_mul_mod_self_left, Nat.reduceMod, ak20, ak21, ak22, ak23, ak24, ak25, ak26, ak27, ak28, ak29, ak30, ak31, ak32, ak33, ak34, ak35, ak36, an20, an21, an22, an23, an24, an25, an26, an27, an28, an29, an30, an31, an32, an33, an34, an35, an36, an37, an38, ne_eq, inR_ii, decide_eq_true_eq, lit_ii, of_ii, ii_eq, ii_lt, ii_le]; first | done | omega)) only [lit_ii, e_Work_doStep, b_Work_doStep_0, b_Work_doStep_40, b_Work_doStep_45, b_Work_doStep_46, b_Work_doStep_51, b_Work_doStep_52, b_Work_doStep_58, b_Work_doStep_59, b_Work_doStep_64, b_Work_doStep_65, b_Work_doStep_69, b_Work_doStep_70, b_Work_doStep_76, b_Work_doStep_77, b_Work_doStep_81, q1, dr_some, Option.isSome_some, gR_wI, Nat.add_mul_mod_self_left, Nat.reduceMod, ak20, ak21, ak22, ak23, ak24, ak25, ak26, ak27, ak28, ak29, ak30, ak31, ak32, ak33, ak34, ak35, ak36, an20, an21, an22, an23, an24, an25, an26, an27, an28, an29, an30, an31, an32, an33, an34, an35, an36, an37, an38, ↓reduceIte, bk_int, bk_void, bk_long, bkN_int, bkN_void, bkN_long, Nat.reduceAdd, Nat.reduceMul, Nat.reduceSub, Nat.reduceLT, Nat.reduceLeDiff, if_true, if_false, not_true_eq_false, not_false_eq_true, Bool.true_eq_false, Bool.false_eq_true, b2_eq0, Nat.add_zero, Nat.zero_add, Nat.not_lt_zero, Nat.zero_le, ite_true, ite_false, decide_true, decide_false, lit_ii, of_ii, le_T, le_F, lt_T, lt_F, eq_T, eq_F, ii_add, ii_mul, ii_nat, ii_le, ii_lt, ii_eq, inR_ii, ii_add0]
def WX (σ : HP) (x : XT) : Prop := gI σ 2250 4 = ii x.2.1 ∧ gI σ 2250 5 = ii x.2.2.1 ∧ gI σ 2250 6 = ii x.2.2.2
def Sx (l s a : Nat) : Prop := Sd l s a ∨ a = 2250
def apW (h l s : Nat) : Prop := (l + 3 < 35 ∨ 38 < l) ∧ (s + 4 < 35 ∨ 38 < s) ∧ (h + 5 < 35 ∨ 38 < h)
theorem CL.w2 {σ : HP} {t h l s j : Nat} {v : Int32} {H : HH} {w : LW} {D : DN} (A : CL σ t h l s H w D) (ha : apW h l s) : CL (wI σ 2250 j v) t h l s H w D := by
  unfold apW at ha
  exact A.fs (S := fun a => a = 2250) (Fs.w Fs.rf rfl) (fun a x y z => by omega) (fun a x y z => by omega) (fun a x y z => by omega)
theorem WC.sx {σ σ' : HP} {l s k : Nat} {ks : Nat → Nat × Nat × Nat} {h : Nat} (A : WC σ k ks) (F : Fs (Sd l s) σ σ') (ha : apW h l s) : WC σ' k ks := by
  unfold apW at ha
  exact A.fs F (fun z => by unfold Sd at z; omega) (fun z => by unfold Sd at z; omega) (fun z => by unfold Sd at z; omega) (fun z => by unfold Sd at z; omega)
theorem WX.sx {σ σ' : HP} {l s h : Nat} {x : XT} (A : WX σ x) (F : Fs (Sd l s) σ σ') (ha : apW h l s) : gI σ' 2250 4 = ii x.2.1 ∧ gI σ' 2250 5 = ii x.2.2.1 ∧ gI σ' 2250 6 = ii x.2.2.2 := by
  unfold apW at ha
  exact ⟨(F.I (fun z => by unfold Sd at z; omega)).trans A.1, (F.I (fun z => by unfold Sd at z; omega)).trans A.2.1, (F.I (fun z => by unfold Sd at z; omega)).trans A.2.2⟩
theorem WC.wf {σ : HP} {k j : Nat} {v : Int32} {ks : Nat → Nat × Nat × Nat} (A : WC σ k ks) (hj : j ≠ 3) : WC (wI σ 2250 j v) k ks := by
  obtain ⟨⟨a0, a1, a2⟩, b, c⟩ := A
  refine ⟨⟨a0, a1, a2⟩, by rw [gI_nj (by omega)]; exact b, fun i hi => ?_⟩
  obtain ⟨x, y, z⟩ := c i hi
  exact ⟨by rw [gI_ne (by omega)]; exact x, fun p q => by rw [gI_ne (by omega)]; exact y p q, fun p => by rw [gI_ne (by omega)]; exact z p⟩
def EXc (t h l s : Nat) (H : HH) (w : LW) (k : Nat) (ks : Nat → Nat × Nat × Nat) (o e : Nat) (X : Nat → Nat → XT → XT) : Prop := ∀ (σ : HP) (x : XT) (a b : Nat), CL σ t h l s H w x.1 → WC σ k ks → WX σ x → day_ok x.1 → x.2.1 ≤ 200 → a ≤ k → b ≤ k → ∃ σ', callF e m_Work_doSteps [.ref 2250, .ref (5 + 64 * t), .int (ii a), .int (ii b), .int (ii o)] σ = some (.inl none, σ') ∧ CL σ' t h l s H w (X a b x).1 ∧ WC σ' k ks ∧ WX σ' (X a b x) ∧ day_ok (X a b x).1 ∧ (X a b x).2.1 ≤ 200 ∧ Fs (Sx l s) σ σ'
