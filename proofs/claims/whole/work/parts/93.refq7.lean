/-! THE REFERENCE: spans of weeks -/
theorem rdTo_rode {D : Nat → Nat} {m : Nat} : ∀ n, D (21 + m) ≤ rdTo D n (21 + m) ∧ rdTo D n (21 + m) ≤ D (21 + m) + 1 := by
  intro n
  by_cases z : n ≤ m
  · rw [rdTo_ne (by omega)]
    omega
  · induction n with
    | zero => omega
    | succ n ih =>
      unfold rdTo bump
      by_cases y : n = m
      · subst y
        rw [up1_at, rdTo_ne (by omega)]
        have := Bool.toNat_le (decide (¬ D (7 + n) = 0))
        omega
      · rw [up1_ne (by omega)]
        exact ih (by omega)
theorem onceN_rode {H : HH} {w : LW} {q m : Nat} {z : DS} (hw : wH H) (hm7 : m < 7) : z.1 (21 + m) ≤ (onceN H w q z).1 (21 + m) ∧ (onceN H w q z).1 (21 + m) ≤ z.1 (21 + m) + 1 := by
  have hh := hw.1
  unfold onceN
  split
  · omega
  · rename_i hz
    simp only
    have m1 : drw (nxt z.2) % hm H < hm H := Nat.mod_lt _ (by omega)
    have m2 : drw (nxt (nxt z.2)) % hc H < hc H := Nat.mod_lt _ (by omega)
    generalize drw (nxt z.2) % hm H = i at *
    generalize drw (nxt (nxt z.2)) % hc H = c at *
    have e1 : sayN H w z.1 i c (21 + m) = z.1 (21 + m) := by
      unfold sayN bump
      split
      · rw [up1_ne (by omega), up1_ne (by omega), up1_ne (by omega)]
      · rfl
    have e2 : (if entB (sayN H w z.1 i c) i = true then entN (sayN H w z.1 i c) i else leaN (sayN H w z.1 i c) i) (21 + m) = z.1 (21 + m) := by
      rw [← e1]
      split
      · unfold entN
        split <;> first | rfl | rw [up1_ne (by omega)]
      · unfold leaN
        split <;> first | rfl | rw [up1_ne (by omega), up1_ne (by omega)]
    generalize (if entB (sayN H w z.1 i c) i = true then entN (sayN H w z.1 i c) i else leaN (sayN H w z.1 i c) i) = D2 at *
    have e3 : z.1 (21 + m) ≤ goN H D2 (21 + m) ∧ goN H D2 (21 + m) ≤ z.1 (21 + m) + 1 := by
      unfold goN
      split
      · omega
      · have := rdTo_rode (D := up1 D2 84 (goesTo H (D2 84) (hvs H D2 (Bof D2)))) (m := m) (hm H)
        rw [up1_ne (by omega)] at this
        omega
    have e4 : ∀ D3 : Nat → Nat, insN H D3 i (21 + m) = D3 (21 + m) := by
      intro D3
      unfold insN
      split
      · rfl
      · split
        · rw [up1_ne (by omega)]
        · rw [up1_ne (by omega), up1_ne (by omega)]
    split
    · rw [e4]
      exact e3
    · exact e3
theorem it_once_rode {H : HH} {w : LW} {q m : Nat} {z : DS} (hw : wH H) (hm7 : m < 7) : ∀ n, z.1 (21 + m) ≤ (it (onceN H w q) n z).1 (21 + m) ∧ (it (onceN H w q) n z).1 (21 + m) ≤ z.1 (21 + m) + n := by
  intro n
  induction n with
  | zero => exact ⟨Nat.le_refl _, Nat.le_refl _⟩
  | succ n ih =>
    have h := onceN_rode (w := w) (q := q) (z := it (onceN H w q) n z) hw hm7
    show z.1 (21 + m) ≤ (onceN H w q (it (onceN H w q) n z)).1 (21 + m) ∧ (onceN H w q (it (onceN H w q) n z)).1 (21 + m) ≤ _
    omega
theorem week_rode {H : HH} {w : LW} {q m : Nat} {z : DS} (hw : wH H) (hm7 : m < 7) : ∀ n, z.1 (21 + m) ≤ (weekN H w q n z).1 (21 + m) ∧ (weekN H w q n z).1 (21 + m) ≤ z.1 (21 + m) + 4 * n := by
  intro n
  induction n with
  | zero => exact ⟨Nat.le_refl _, Nat.le_refl _⟩
  | succ n ih =>
    have h := it_once_rode (w := w) (q := q) (z := weekN H w q n z) hw hm7 4
    have e : (weekN H w q (n + 1) z).1 (21 + m) = (it (onceN H w q) 4 (weekN H w q n z)).1 (21 + m) := by
      show nigN H (it (onceN H w q) 4 (weekN H w q n z)).1 (21 + m) = _
      unfold nigN bump
      rw [if_neg (by omega), up1_ne (by omega), outTo_ne _ _ (by omega) hw.1.1]
      unfold hlvF
      have := hw.1.1
      rw [if_neg (by omega)]
    rw [e]
    omega
theorem sum_gap {f g : Nat → Nat} {b : Nat} : ∀ n, (∀ k, k < n → g k ≤ f k ∧ f k ≤ g k + b) → sumTo g n ≤ sumTo f n ∧ sumTo f n ≤ sumTo g n + n * b := by
  intro n
  induction n with
  | zero => intro _; exact ⟨Nat.le_refl _, by unfold sumTo; omega⟩
  | succ n ih =>
    intro h
    have a := ih (fun k hk => h k (by omega))
    have c := h n (by omega)
    unfold sumTo
    rw [Nat.succ_mul]
    omega
theorem spR_ii {H : HH} {w : LW} {D : DN} {x : Int32} {q n : Nat} (hw : wH H) (hn : n ≤ 48) (i : Nat) : ∃ t, t ≤ 1344 ∧ spR H w D x q n i = ii t := by
  have h7 := hw.1.1
  have h := sum_gap (f := fun m => (weekN H w q n (D, x + ii i)).1 (21 + m)) (g := fun m => D (21 + m)) (b := 4 * n) (hm H) (fun k hk => week_rode (z := (D, x + ii i)) hw (by omega) n)
  have h2 : hm H * (4 * n) ≤ 7 * 192 := Nat.mul_le_mul h7 (by omega)
  refine ⟨_, ?_, ii_sub h.1⟩
  omega
theorem spL_ii {H : HH} {w : LW} {D : DN} {x : Int32} {q n : Nat} (hw : wH H) (hn : n ≤ 48) : ∀ i, ∃ t, t ≤ 1344 ∧ spL H w D x q n i = ii t := by
  intro i
  induction i with
  | zero => exact ⟨0, by omega, rfl⟩
  | succ i ih =>
    obtain ⟨t, ht, e⟩ := ih
    obtain ⟨u, hu, e2⟩ := spR_ii (w := w) (D := D) (x := x) (q := q) hw hn i
    unfold spL
    split
    · exact ⟨u, hu, e2⟩
    · rw [e, e2, p_min_ii (by omega) (by omega)]
      exact ⟨_, by omega, rfl⟩
theorem spM_ii {H : HH} {w : LW} {D : DN} {x : Int32} {q n : Nat} (hw : wH H) (hn : n ≤ 48) : ∀ i, ∃ t, t ≤ 1344 ∧ spM H w D x q n i = ii t := by
  intro i
  induction i with
  | zero => exact ⟨0, by omega, rfl⟩
  | succ i ih =>
    obtain ⟨t, ht, e⟩ := ih
    obtain ⟨u, hu, e2⟩ := spR_ii (w := w) (D := D) (x := x) (q := q) hw hn i
    unfold spM
    rw [e, e2, p_max_ii (by omega) (by omega)]
    exact ⟨_, by omega, rfl⟩
/-- the fewest so far, less 1 before the first -/
def spF (H : HH) (w : LW) (D : DN) (x : Int32) (q n i : Nat) : Int32 := if i = 0 then -ii 1 else spL H w D x q n i
theorem q_span {d : Nat} {σ : HP} {H : HH} {w : LW} {D : DN} {tp : TPE} {ct : CNT} {B : BK} {pw : PW} {im : IMS} (A : MW σ H w D tp ct B pw im) (x y z v u e : Int32) : if inrg 1 10 y && (inrg 0 16 z && (inrg 1 48 v && (inrg 0 2 u && inb e (hm H)))) then MQi σ (callF (d + 70) m_Mo_span [.ref 3980, .int x, .int y, .int z, .int v, .int u, .int e] σ) (spV H w D x y.toNatClampNeg z.toNatClampNeg v.toNatClampNeg u.toNatClampNeg e.toNatClampNeg) 0 (fun τ => MW τ H w D tp ct B pw im) else MQi σ (callF (d + 70) m_Mo_span [.ref 3980, .int x, .int y, .int z, .int v, .int u, .int e] σ) (ii 0) 1 (fun τ => MW τ H w D tp (ct.1, ct.2.1, ct.2.2.1, ct.2.2.2 + 1) B pw im) := by
  have W0 := A.sc (t0_fm (v := ii 0)); have h0 := t0_at (σ := σ) (v := ii 0); have hh := A.2.2.2.2.1.1.1
  have hwH := A.2.2.2.2.1.1
  have w0 := fun d => r_wr (d := d) (a := 1) (b := 10) (x := y) (σ := wI σ 3980 0 (ii 0))
  have w1 := fun d => r_isWeek (d := d) (x := z) (y := v) (σ := wI σ 3980 0 (ii 0))
  have w2 := fun d => r_wr (d := d) (a := 0) (b := 2) (x := u) (σ := wI σ 3980 0 (ii 0))
  have w3 := fun d => r_wb (d := d) (n := hm H) (x := e) (σ := wI σ 3980 0 (ii 0))
  have p3 := ii_pr (n := hm H) (by omega)
  have g3 := W0.2.1.1
  have rrF : ∀ d, callF (d + 1) m_Mo_may [.ref 3980, .int (ii 0), .int (ii 1), .int (ii 1)] (wI σ 3980 0 (ii 0)) = some (.inl (some (.int (ii 0))), rfM (wI σ 3980 0 (ii 0)) 1 1 (ct.2.2.2 + 1)) := fun d => r_arg (d := d) W0 h0 (c := 1) (by omega) false
  have rrT : ∀ d, callF (d + 1) m_Mo_may [.ref 3980, .int (ii 1), .int (ii 1), .int (ii 1)] (wI σ 3980 0 (ii 0)) = some (.inl (some (.int (ii 1))), wI σ 3980 0 (ii 0)) := fun d => r_arg (d := d) W0 h0 (c := 1) (by omega) true
  rw [← Bool.and_assoc (inrg 0 16 z)]
  cases hb0 : inrg 1 10 y with
  | false =>
    rw [hb0] at w0
    rw [if_neg (by simp)]
    refine A.bad (c := 1) (σ' := wI σ 3980 0 (ii 0)) t0_fm ?_
    simp (disch := first | omega | exact b2_01 _ | exact ii0_01 | exact ii1_01 | (simp (disch := omega) only [w0, dr_some, Option.isSome_some, gR_wI, Nat.add_mul_mod_self_left, Nat.reduceMod, ak20, ak21, ak22, ak23, ak24, ak25, ak26, ak27, ak28, ak29, ak30, ak31, ak32, ak33, ak34, ak35, ak36, an20, an21, an22, an23, an24, an25, an26, an27, an28, an29, an30, an31, an32, an33, an34, an35, an36, an37, an38, ne_eq, inR_ii, decide_eq_true_eq, lit_ii, of_ii, ii_eq, ii_lt, ii_le]; first | done | omega)) only [w0, e_Mo_span, b_Mo_span_0, b_Mo_span_13, b_Mo_span_16, b_Mo_span_22, b_Mo_span_25, b_Mo_span_32, b_Mo_span_35, b_Mo_span_47, b_Mo_span_50, b_Mo_span_54, b_Mo_span_55, b_Mo_span_60, b_Mo_span_63, b_Mo_span_65, b_Mo_span_77, b_Mo_span_83, b_Mo_span_94, b_Mo_span_98, b_Mo_span_106, b_Mo_span_113, b_Mo_span_118, b_Mo_span_120, b_Mo_span_129, b_Mo_span_134, b_Mo_span_136, b_Mo_span_146, b_Mo_span_149, b_Mo_span_153, b_Mo_span_154, b_Mo_span_163, b_Mo_span_168, b_Mo_span_173, b_Mo_span_179, b_Mo_span_184, b_Mo_span_186, rrF, dr_some, Option.isSome_some, gR_wI, Nat.add_mul_mod_self_left, Nat.reduceMod, ak20, ak21, ak22, ak23, ak24, ak25, ak26, ak27, ak28, ak29, ak30, ak31, ak32, ak33, ak34, ak35, ak36, an20, an21, an22, an23, an24, an25, an26, an27, an28, an29, an30, an31, an32, an33, an34, an35, an36, an37, an38, ↓reduceIte, bk_int, bk_void, bk_long, bkN_int, bkN_void, bkN_long, Nat.reduceAdd, Nat.reduceMul, Nat.reduceSub, Nat.reduceLT, Nat.reduceLeDiff, if_true, if_false, not_true_eq_false, not_false_eq_true, Bool.true_eq_false, Bool.false_eq_true, b2_eq0, Nat.add_zero, Nat.zero_add, Nat.not_lt_zero, Nat.zero_le, ite_true, ite_false, decide_true, decide_false, lit_ii, of_ii, le_T, le_F, lt_T, lt_F, eq_T, eq_F, ii_add, ii_mul, ii_nat, ii_le, ii_lt, ii_eq, inR_ii, ii_add0]
  | true =>
  rw [hb0] at w0
  cases hb1 : inrg 0 16 z && inrg 1 48 v with
  | false =>
    rw [hb1] at w1
    rw [if_neg (by simp)]
    refine A.bad (c := 1) (σ' := wI σ 3980 0 (ii 0)) t0_fm ?_
    simp (disch := first | omega | exact b2_01 _ | exact ii0_01 | exact ii1_01 | (simp (disch := omega) only [w0, w1, dr_some, Option.isSome_some, gR_wI, Nat.add_mul_mod_self_left, Nat.reduceMod, ak20, ak21, ak22, ak23, ak24, ak25, ak26, ak27, ak28, ak29, ak30, ak31, ak32, ak33, ak34, ak35, ak36, an20, an21, an22, an23, an24, an25, an26, an27, an28, an29, an30, an31, an32, an33, an34, an35, an36, an37, an38, ne_eq, inR_ii, decide_eq_true_eq, lit_ii, of_ii, ii_eq, ii_lt, ii_le]; first | done | omega)) only [w0, w1, e_Mo_span, b_Mo_span_0, b_Mo_span_13, b_Mo_span_16, b_Mo_span_22, b_Mo_span_25, b_Mo_span_32, b_Mo_span_35, b_Mo_span_47, b_Mo_span_50, b_Mo_span_54, b_Mo_span_55, b_Mo_span_60, b_Mo_span_63, b_Mo_span_65, b_Mo_span_77, b_Mo_span_83, b_Mo_span_94, b_Mo_span_98, b_Mo_span_106, b_Mo_span_113, b_Mo_span_118, b_Mo_span_120, b_Mo_span_129, b_Mo_span_134, b_Mo_span_136, b_Mo_span_146, b_Mo_span_149, b_Mo_span_153, b_Mo_span_154, b_Mo_span_163, b_Mo_span_168, b_Mo_span_173, b_Mo_span_179, b_Mo_span_184, b_Mo_span_186, rrF, dr_some, Option.isSome_some, gR_wI, Nat.add_mul_mod_self_left, Nat.reduceMod, ak20, ak21, ak22, ak23, ak24, ak25, ak26, ak27, ak28, ak29, ak30, ak31, ak32, ak33, ak34, ak35, ak36, an20, an21, an22, an23, an24, an25, an26, an27, an28, an29, an30, an31, an32, an33, an34, an35, an36, an37, an38, ↓reduceIte, bk_int, bk_void, bk_long, bkN_int, bkN_void, bkN_long, Nat.reduceAdd, Nat.reduceMul, Nat.reduceSub, Nat.reduceLT, Nat.reduceLeDiff, if_true, if_false, not_true_eq_false, not_false_eq_true, Bool.true_eq_false, Bool.false_eq_true, b2_eq0, Nat.add_zero, Nat.zero_add, Nat.not_lt_zero, Nat.zero_le, ite_true, ite_false, decide_true, decide_false, lit_ii, of_ii, le_T, le_F, lt_T, lt_F, eq_T, eq_F, ii_add, ii_mul, ii_nat, ii_le, ii_lt, ii_eq, inR_ii, ii_add0]
  | true =>
  rw [hb1] at w1
  cases hb2 : inrg 0 2 u with
  | false =>
    rw [hb2] at w2
    rw [if_neg (by simp)]
    refine A.bad (c := 1) (σ' := wI σ 3980 0 (ii 0)) t0_fm ?_
    simp (disch := first | omega | exact b2_01 _ | exact ii0_01 | exact ii1_01 | (simp (disch := omega) only [w0, w1, w2, dr_some, Option.isSome_some, gR_wI, Nat.add_mul_mod_self_left, Nat.reduceMod, ak20, ak21, ak22, ak23, ak24, ak25, ak26, ak27, ak28, ak29, ak30, ak31, ak32, ak33, ak34, ak35, ak36, an20, an21, an22, an23, an24, an25, an26, an27, an28, an29, an30, an31, an32, an33, an34, an35, an36, an37, an38, ne_eq, inR_ii, decide_eq_true_eq, lit_ii, of_ii, ii_eq, ii_lt, ii_le]; first | done | omega)) only [w0, w1, w2, e_Mo_span, b_Mo_span_0, b_Mo_span_13, b_Mo_span_16, b_Mo_span_22, b_Mo_span_25, b_Mo_span_32, b_Mo_span_35, b_Mo_span_47, b_Mo_span_50, b_Mo_span_54, b_Mo_span_55, b_Mo_span_60, b_Mo_span_63, b_Mo_span_65, b_Mo_span_77, b_Mo_span_83, b_Mo_span_94, b_Mo_span_98, b_Mo_span_106, b_Mo_span_113, b_Mo_span_118, b_Mo_span_120, b_Mo_span_129, b_Mo_span_134, b_Mo_span_136, b_Mo_span_146, b_Mo_span_149, b_Mo_span_153, b_Mo_span_154, b_Mo_span_163, b_Mo_span_168, b_Mo_span_173, b_Mo_span_179, b_Mo_span_184, b_Mo_span_186, rrF, dr_some, Option.isSome_some, gR_wI, Nat.add_mul_mod_self_left, Nat.reduceMod, ak20, ak21, ak22, ak23, ak24, ak25, ak26, ak27, ak28, ak29, ak30, ak31, ak32, ak33, ak34, ak35, ak36, an20, an21, an22, an23, an24, an25, an26, an27, an28, an29, an30, an31, an32, an33, an34, an35, an36, an37, an38, ↓reduceIte, bk_int, bk_void, bk_long, bkN_int, bkN_void, bkN_long, Nat.reduceAdd, Nat.reduceMul, Nat.reduceSub, Nat.reduceLT, Nat.reduceLeDiff, if_true, if_false, not_true_eq_false, not_false_eq_true, Bool.true_eq_false, Bool.false_eq_true, b2_eq0, Nat.add_zero, Nat.zero_add, Nat.not_lt_zero, Nat.zero_le, ite_true, ite_false, decide_true, decide_false, lit_ii, of_ii, le_T, le_F, lt_T, lt_F, eq_T, eq_F, ii_add, ii_mul, ii_nat, ii_le, ii_lt, ii_eq, inR_ii, ii_add0]
  | true =>
  rw [hb2] at w2
  cases hb3 : inb e (hm H) with
  | false =>
    rw [hb3] at w3
    rw [if_neg (by simp)]
    refine A.bad (c := 1) (σ' := wI σ 3980 0 (ii 0)) t0_fm ?_
    simp (disch := first | omega | exact b2_01 _ | exact ii0_01 | exact ii1_01 | (simp (disch := omega) only [w0, w1, w2, w3, g3, dr_some, Option.isSome_some, gR_wI, Nat.add_mul_mod_self_left, Nat.reduceMod, ak20, ak21, ak22, ak23, ak24, ak25, ak26, ak27, ak28, ak29, ak30, ak31, ak32, ak33, ak34, ak35, ak36, an20, an21, an22, an23, an24, an25, an26, an27, an28, an29, an30, an31, an32, an33, an34, an35, an36, an37, an38, ne_eq, inR_ii, decide_eq_true_eq, lit_ii, of_ii, ii_eq, ii_lt, ii_le]; first | done | omega)) only [w0, w1, w2, w3, g3, e_Mo_span, b_Mo_span_0, b_Mo_span_13, b_Mo_span_16, b_Mo_span_22, b_Mo_span_25, b_Mo_span_32, b_Mo_span_35, b_Mo_span_47, b_Mo_span_50, b_Mo_span_54, b_Mo_span_55, b_Mo_span_60, b_Mo_span_63, b_Mo_span_65, b_Mo_span_77, b_Mo_span_83, b_Mo_span_94, b_Mo_span_98, b_Mo_span_106, b_Mo_span_113, b_Mo_span_118, b_Mo_span_120, b_Mo_span_129, b_Mo_span_134, b_Mo_span_136, b_Mo_span_146, b_Mo_span_149, b_Mo_span_153, b_Mo_span_154, b_Mo_span_163, b_Mo_span_168, b_Mo_span_173, b_Mo_span_179, b_Mo_span_184, b_Mo_span_186, p3, rrF, dr_some, Option.isSome_some, gR_wI, Nat.add_mul_mod_self_left, Nat.reduceMod, ak20, ak21, ak22, ak23, ak24, ak25, ak26, ak27, ak28, ak29, ak30, ak31, ak32, ak33, ak34, ak35, ak36, an20, an21, an22, an23, an24, an25, an26, an27, an28, an29, an30, an31, an32, an33, an34, an35, an36, an37, an38, ↓reduceIte, bk_int, bk_void, bk_long, bkN_int, bkN_void, bkN_long, Nat.reduceAdd, Nat.reduceMul, Nat.reduceSub, Nat.reduceLT, Nat.reduceLeDiff, if_true, if_false, not_true_eq_false, not_false_eq_true, Bool.true_eq_false, Bool.false_eq_true, b2_eq0, Nat.add_zero, Nat.zero_add, Nat.not_lt_zero, Nat.zero_le, ite_true, ite_false, decide_true, decide_false, lit_ii, of_ii, le_T, le_F, lt_T, lt_F, eq_T, eq_F, ii_add, ii_mul, ii_nat, ii_le, ii_lt, ii_eq, inR_ii, ii_add0]
  | true =>
  rw [hb3] at w3
  rw [if_pos (by simp)]
  rw [Bool.and_eq_true] at hb1
  obtain ⟨N, hN1, hN, rfl⟩ := inrg_T hb0 (by omega) (by omega)
  obtain ⟨q, -, hq, rfl⟩ := inrg_T hb1.1 (by omega) (by omega)
  obtain ⟨n, -, hn, rfl⟩ := inrg_T hb1.2 (by omega) (by omega)
  obtain ⟨k, -, hk, rfl⟩ := inrg_T hb2 (by omega) (by omega)
  obtain ⟨m, hm', rfl⟩ := inb_T hb3 (by omega)
  rw [ii_nat (by omega), ii_nat (by omega), ii_nat (by omega), ii_nat (by omega), ii_nat (by omega)]
  have key : ∃ σ', callF (d + 70) m_Mo_span [.ref 3980, .int x, .int (ii N), .int (ii q), .int (ii n), .int (ii k), .int (ii m)] σ = some (.inl (some (.int (spV H w D x N q n k m))), σ') ∧ Fm Mwk (wI σ 3980 0 (ii 0)) σ' := by
    have ea : callF (d + 70) m_Mo_span [.ref 3980, .int x, .int (ii N), .int (ii q), .int (ii n), .int (ii k), .int (ii m)] σ = runF (callF (d + 69)) (d + 69) m_Mo_span (77, [some (.ref 3980), some (.int x), some (.int (ii N)), some (.int (ii q)), some (.int (ii n)), some (.int (ii k)), some (.int (ii m)), some (.int (-ii 1)), some (.int (ii 0)), some (.int (ii 0)), some (.int (ii 0)), none], [], wI σ 3980 0 (ii 0)) := by
      simp (disch := first | omega | exact b2_01 _ | exact ii0_01 | exact ii1_01 | (simp (disch := omega) only [w0, w1, w2, w3, g3, dr_some, Option.isSome_some, gR_wI, Nat.add_mul_mod_self_left, Nat.reduceMod, ak20, ak21, ak22, ak23, ak24, ak25, ak26, ak27, ak28, ak29, ak30, ak31, ak32, ak33, ak34, ak35, ak36, an20, an21, an22, an23, an24, an25, an26, an27, an28, an29, an30, an31, an32, an33, an34, an35, an36, an37, an38, ne_eq, inR_ii, decide_eq_true_eq, lit_ii, of_ii, ii_eq, ii_lt, ii_le]; first | done | omega)) only [w0, w1, w2, w3, g3, e_Mo_span, b_Mo_span_0, b_Mo_span_13, b_Mo_span_16, b_Mo_span_22, b_Mo_span_25, b_Mo_span_32, b_Mo_span_35, b_Mo_span_47, b_Mo_span_50, b_Mo_span_54, b_Mo_span_55, b_Mo_span_60, b_Mo_span_63, b_Mo_span_65, b_Mo_span_83, b_Mo_span_94, b_Mo_span_98, b_Mo_span_106, b_Mo_span_113, b_Mo_span_118, b_Mo_span_120, b_Mo_span_129, b_Mo_span_134, b_Mo_span_136, b_Mo_span_146, b_Mo_span_149, b_Mo_span_153, b_Mo_span_154, b_Mo_span_163, b_Mo_span_168, b_Mo_span_173, b_Mo_span_179, b_Mo_span_184, b_Mo_span_186, p3, rrT, dr_some, Option.isSome_some, gR_wI, Nat.add_mul_mod_self_left, Nat.reduceMod, ak20, ak21, ak22, ak23, ak24, ak25, ak26, ak27, ak28, ak29, ak30, ak31, ak32, ak33, ak34, ak35, ak36, an20, an21, an22, an23, an24, an25, an26, an27, an28, an29, an30, an31, an32, an33, an34, an35, an36, an37, an38, ↓reduceIte, bk_int, bk_void, bk_long, bkN_int, bkN_void, bkN_long, Nat.reduceAdd, Nat.reduceMul, Nat.reduceSub, Nat.reduceLT, Nat.reduceLeDiff, if_true, if_false, not_true_eq_false, not_false_eq_true, Bool.true_eq_false, Bool.false_eq_true, b2_eq0, Nat.add_zero, Nat.zero_add, Nat.not_lt_zero, Nat.zero_le, ite_true, ite_false, decide_true, decide_false, lit_ii, of_ii, le_T, le_F, lt_T, lt_F, eq_T, eq_F, ii_add, ii_mul, ii_nat, ii_le, ii_lt, ii_eq, inR_ii, ii_add0]
    rw [ea]
    refine loop_g (N := N) (Q := fun o => ∃ σ', o = some (.inl (some (.int (spV H w D x N q n k m))), σ') ∧ Fm Mwk (wI σ 3980 0 (ii 0)) σ') (fun i c => ∃ σ' l11, c = (77, [some (.ref 3980), some (.int x), some (.int (ii N)), some (.int (ii q)), some (.int (ii n)), some (.int (ii k)), some (.int (ii m)), some (.int (spF H w D x q n i)), some (.int (spM H w D x q n i)), some (.int (ii (spC H w D x q n m i))), some (.int (ii i)), l11], [], σ') ∧ Fm Mwk (wI σ 3980 0 (ii 0)) σ') ?_ ?_ 0 _ (Nat.zero_le _) ⟨_, none, rfl, Fm.rf⟩
    · rintro i c hi ⟨σ', l11, rfl, F'⟩
      have hi' : ¬ N ≤ i := by omega
      have W' := W0.sc (Mwk_sc F')
      obtain ⟨σ2, e2, S2, F2⟩ := r_weekGoes (d := d + 60) W' (x + ii i) hq hn
      have h4 : MD σ2 4955 D := W'.2.2.2.1.fm F2 (fun j => by unfold Mwk; omega)
      have n1 := fun d => r_rodeMore (d := d) S2 h4
      have n2 := fun d => r_floorOf (d := d) S2 (m := m) (by omega)
      have n3 : floorOf (weekN H w q n (D, x + ii i)).1 m < 12 := by
        have := S2.wd.1 m (by omega)
        have := S2.wd.2.2
        unfold floorOf
        split <;> omega
      have e9 : ii (sumTo (fun m => (weekN H w q n (D, x + ii i)).1 (21 + m)) (hm H)) - ii (sumTo (fun m => D (21 + m)) (hm H)) = spR H w D x q n i := rfl
      rw [e9] at n1
      obtain ⟨t, ht, et⟩ := spR_ii (w := w) (D := D) (x := x) (q := q) hwH hn i
      obtain ⟨s, hs, es⟩ := spM_ii (w := w) (D := D) (x := x) (q := q) hwH hn i
      obtain ⟨r, hr, er⟩ := spL_ii (w := w) (D := D) (x := x) (q := q) hwH hn i
      refine ⟨_, ?_, σ2, some (.int (ii t)), rfl, F'.tr F2⟩
      have f1 : spF H w D x q n (i + 1) = if i = 0 then ii t else if r ≤ t then ii r else ii t := by
        unfold spF
        rw [if_neg (by omega), spL, et]
        split
        · rfl
        · rw [er, p_min_ii (by omega) (by omega)]
          split
          · rw [Nat.min_eq_left (by omega)]
          · rw [Nat.min_eq_right (by omega)]
      have f2 : spM H w D x q n (i + 1) = if t ≤ s then ii s else ii t := by
        rw [spM, et, es, p_max_ii (by omega) (by omega)]
        split
        · rw [Nat.max_eq_left (by omega)]
        · rw [Nat.max_eq_right (by omega)]
      have f3 : spC H w D x q n m (i + 1) = if floorOf (weekN H w q n (D, x + ii i)).1 m ≤ 0 then spC H w D x q n m i else spC H w D x q n m i + 1 := by
        rw [spC]
        by_cases y : 0 < floorOf (weekN H w q n (D, x + ii i)).1 m
        · rw [if_pos y, if_neg (by omega)]
        · rw [if_neg y, if_pos (by omega)]
      rw [f1, f2, f3]
      generalize floorOf (weekN H w q n (D, x + ii i)).1 m = fl at *
      rw [et] at n1
      rw [es]
      conv => lhs; simp (disch := first | omega | exact b2_01 _ | exact ii0_01 | exact ii1_01 | (simp (disch := omega) only [hi', dr_some, Option.isSome_some, gR_wI, Nat.add_mul_mod_self_left, Nat.reduceMod, ak20, ak21, ak22, ak23, ak24, ak25, ak26, ak27, ak28, ak29, ak30, ak31, ak32, ak33, ak34, ak35, ak36, an20, an21, an22, an23, an24, an25, an26, an27, an28, an29, an30, an31, an32, an33, an34, an35, an36, an37, an38, ne_eq, inR_ii, decide_eq_true_eq, lit_ii, of_ii, ii_eq, ii_lt, ii_le]; first | done | omega)) only [hi', b_Mo_span_77, dr_some, Option.isSome_some, gR_wI, Nat.add_mul_mod_self_left, Nat.reduceMod, ak20, ak21, ak22, ak23, ak24, ak25, ak26, ak27, ak28, ak29, ak30, ak31, ak32, ak33, ak34, ak35, ak36, an20, an21, an22, an23, an24, an25, an26, an27, an28, an29, an30, an31, an32, an33, an34, an35, an36, an37, an38, ↓reduceIte, bk_int, bk_void, bk_long, bkN_int, bkN_void, bkN_long, Nat.reduceAdd, Nat.reduceMul, Nat.reduceSub, Nat.reduceLT, Nat.reduceLeDiff, if_true, if_false, not_true_eq_false, not_false_eq_true, Bool.true_eq_false, Bool.false_eq_true, b2_eq0, Nat.add_zero, Nat.zero_add, Nat.not_lt_zero, Nat.zero_le, ite_true, ite_false, decide_true, decide_false, lit_ii, of_ii, le_T, le_F, lt_T, lt_F, eq_T, eq_F, ii_add, ii_mul, ii_nat, ii_le, ii_lt, ii_eq, inR_ii, ii_add0]
      by_cases y0 : i = 0
      · subst y0
        have e0 : spF H w D x q n 0 = -ii 1 := rfl
        rw [e0]
        rw [ii_add0] at e2
        by_cases y1 : t ≤ s
        · by_cases y2 : fl ≤ 0
          · simp (disch := first | omega | exact b2_01 _ | exact ii0_01 | exact ii1_01 | (simp (disch := omega) only [e2, n1, n2, dr_some, Option.isSome_some, gR_wI, Nat.add_mul_mod_self_left, Nat.reduceMod, ak20, ak21, ak22, ak23, ak24, ak25, ak26, ak27, ak28, ak29, ak30, ak31, ak32, ak33, ak34, ak35, ak36, an20, an21, an22, an23, an24, an25, an26, an27, an28, an29, an30, an31, an32, an33, an34, an35, an36, an37, an38, ne_eq, inR_ii, decide_eq_true_eq, lit_ii, of_ii, ii_eq, ii_lt, ii_le]; first | done | omega)) only [e2, n1, n2, e_Mo_span, b_Mo_span_0, b_Mo_span_13, b_Mo_span_16, b_Mo_span_22, b_Mo_span_25, b_Mo_span_32, b_Mo_span_35, b_Mo_span_47, b_Mo_span_50, b_Mo_span_54, b_Mo_span_55, b_Mo_span_60, b_Mo_span_63, b_Mo_span_65, b_Mo_span_83, b_Mo_span_94, b_Mo_span_98, b_Mo_span_106, b_Mo_span_113, b_Mo_span_118, b_Mo_span_120, b_Mo_span_129, b_Mo_span_134, b_Mo_span_136, b_Mo_span_146, b_Mo_span_149, b_Mo_span_153, b_Mo_span_154, b_Mo_span_163, b_Mo_span_168, b_Mo_span_173, b_Mo_span_179, b_Mo_span_184, b_Mo_span_186, ng_ng_eq, y1, eq_true y2, dr_some, Option.isSome_some, gR_wI, Nat.add_mul_mod_self_left, Nat.reduceMod, ak20, ak21, ak22, ak23, ak24, ak25, ak26, ak27, ak28, ak29, ak30, ak31, ak32, ak33, ak34, ak35, ak36, an20, an21, an22, an23, an24, an25, an26, an27, an28, an29, an30, an31, an32, an33, an34, an35, an36, an37, an38, ↓reduceIte, bk_int, bk_void, bk_long, bkN_int, bkN_void, bkN_long, Nat.reduceAdd, Nat.reduceMul, Nat.reduceSub, Nat.reduceLT, Nat.reduceLeDiff, if_true, if_false, not_true_eq_false, not_false_eq_true, Bool.true_eq_false, Bool.false_eq_true, b2_eq0, Nat.add_zero, Nat.zero_add, Nat.not_lt_zero, Nat.zero_le, ite_true, ite_false, decide_true, decide_false, lit_ii, of_ii, le_T, le_F, lt_T, lt_F, eq_T, eq_F, ii_add, ii_mul, ii_nat, ii_le, ii_lt, ii_eq, inR_ii, ii_add0]
          · simp (disch := first | omega | exact b2_01 _ | exact ii0_01 | exact ii1_01 | (simp (disch := omega) only [e2, n1, n2, dr_some, Option.isSome_some, gR_wI, Nat.add_mul_mod_self_left, Nat.reduceMod, ak20, ak21, ak22, ak23, ak24, ak25, ak26, ak27, ak28, ak29, ak30, ak31, ak32, ak33, ak34, ak35, ak36, an20, an21, an22, an23, an24, an25, an26, an27, an28, an29, an30, an31, an32, an33, an34, an35, an36, an37, an38, ne_eq, inR_ii, decide_eq_true_eq, lit_ii, of_ii, ii_eq, ii_lt, ii_le]; first | done | omega)) only [e2, n1, n2, e_Mo_span, b_Mo_span_0, b_Mo_span_13, b_Mo_span_16, b_Mo_span_22, b_Mo_span_25, b_Mo_span_32, b_Mo_span_35, b_Mo_span_47, b_Mo_span_50, b_Mo_span_54, b_Mo_span_55, b_Mo_span_60, b_Mo_span_63, b_Mo_span_65, b_Mo_span_83, b_Mo_span_94, b_Mo_span_98, b_Mo_span_106, b_Mo_span_113, b_Mo_span_118, b_Mo_span_120, b_Mo_span_129, b_Mo_span_134, b_Mo_span_136, b_Mo_span_146, b_Mo_span_149, b_Mo_span_153, b_Mo_span_154, b_Mo_span_163, b_Mo_span_168, b_Mo_span_173, b_Mo_span_179, b_Mo_span_184, b_Mo_span_186, ng_ng_eq, y1, y2, dr_some, Option.isSome_some, gR_wI, Nat.add_mul_mod_self_left, Nat.reduceMod, ak20, ak21, ak22, ak23, ak24, ak25, ak26, ak27, ak28, ak29, ak30, ak31, ak32, ak33, ak34, ak35, ak36, an20, an21, an22, an23, an24, an25, an26, an27, an28, an29, an30, an31, an32, an33, an34, an35, an36, an37, an38, ↓reduceIte, bk_int, bk_void, bk_long, bkN_int, bkN_void, bkN_long, Nat.reduceAdd, Nat.reduceMul, Nat.reduceSub, Nat.reduceLT, Nat.reduceLeDiff, if_true, if_false, not_true_eq_false, not_false_eq_true, Bool.true_eq_false, Bool.false_eq_true, b2_eq0, Nat.add_zero, Nat.zero_add, Nat.not_lt_zero, Nat.zero_le, ite_true, ite_false, decide_true, decide_false, lit_ii, of_ii, le_T, le_F, lt_T, lt_F, eq_T, eq_F, ii_add, ii_mul, ii_nat, ii_le, ii_lt, ii_eq, inR_ii, ii_add0]
        · by_cases y2 : fl ≤ 0
          · simp (disch := first | omega | exact b2_01 _ | exact ii0_01 | exact ii1_01 | (simp (disch := omega) only [e2, n1, n2, dr_some, Option.isSome_some, gR_wI, Nat.add_mul_mod_self_left, Nat.reduceMod, ak20, ak21, ak22, ak23, ak24, ak25, ak26, ak27, ak28, ak29, ak30, ak31, ak32, ak33, ak34, ak35, ak36, an20, an21, an22, an23, an24, an25, an26, an27, an28, an29, an30, an31, an32, an33, an34, an35, an36, an37, an38, ne_eq, inR_ii, decide_eq_true_eq, lit_ii, of_ii, ii_eq, ii_lt, ii_le]; first | done | omega)) only [e2, n1, n2, e_Mo_span, b_Mo_span_0, b_Mo_span_13, b_Mo_span_16, b_Mo_span_22, b_Mo_span_25, b_Mo_span_32, b_Mo_span_35, b_Mo_span_47, b_Mo_span_50, b_Mo_span_54, b_Mo_span_55, b_Mo_span_60, b_Mo_span_63, b_Mo_span_65, b_Mo_span_83, b_Mo_span_94, b_Mo_span_98, b_Mo_span_106, b_Mo_span_113, b_Mo_span_118, b_Mo_span_120, b_Mo_span_129, b_Mo_span_134, b_Mo_span_136, b_Mo_span_146, b_Mo_span_149, b_Mo_span_153, b_Mo_span_154, b_Mo_span_163, b_Mo_span_168, b_Mo_span_173, b_Mo_span_179, b_Mo_span_184, b_Mo_span_186, ng_ng_eq, y1, eq_true y2, dr_some, Option.isSome_some, gR_wI, Nat.add_mul_mod_self_left, Nat.reduceMod, ak20, ak21, ak22, ak23, ak24, ak25, ak26, ak27, ak28, ak29, ak30, ak31, ak32, ak33, ak34, ak35, ak36, an20, an21, an22, an23, an24, an25, an26, an27, an28, an29, an30, an31, an32, an33, an34, an35, an36, an37, an38, ↓reduceIte, bk_int, bk_void, bk_long, bkN_int, bkN_void, bkN_long, Nat.reduceAdd, Nat.reduceMul, Nat.reduceSub, Nat.reduceLT, Nat.reduceLeDiff, if_true, if_false, not_true_eq_false, not_false_eq_true, Bool.true_eq_false, Bool.false_eq_true, b2_eq0, Nat.add_zero, Nat.zero_add, Nat.not_lt_zero, Nat.zero_le, ite_true, ite_false, decide_true, decide_false, lit_ii, of_ii, le_T, le_F, lt_T, lt_F, eq_T, eq_F, ii_add, ii_mul, ii_nat, ii_le, ii_lt, ii_eq, inR_ii, ii_add0]
          · simp (disch := first | omega | exact b2_01 _ | exact ii0_01 | exact ii1_01 | (simp (disch := omega) only [e2, n1, n2, dr_some, Option.isSome_some, gR_wI, Nat.add_mul_mod_self_left, Nat.reduceMod, ak20, ak21, ak22, ak23, ak24, ak25, ak26, ak27, ak28, ak29, ak30, ak31, ak32, ak33, ak34, ak35, ak36, an20, an21, an22, an23, an24, an25, an26, an27, an28, an29, an30, an31, an32, an33, an34, an35, an36, an37, an38, ne_eq, inR_ii, decide_eq_true_eq, lit_ii, of_ii, ii_eq, ii_lt, ii_le]; first | done | omega)) only [e2, n1, n2, e_Mo_span, b_Mo_span_0, b_Mo_span_13, b_Mo_span_16, b_Mo_span_22, b_Mo_span_25, b_Mo_span_32, b_Mo_span_35, b_Mo_span_47, b_Mo_span_50, b_Mo_span_54, b_Mo_span_55, b_Mo_span_60, b_Mo_span_63, b_Mo_span_65, b_Mo_span_83, b_Mo_span_94, b_Mo_span_98, b_Mo_span_106, b_Mo_span_113, b_Mo_span_118, b_Mo_span_120, b_Mo_span_129, b_Mo_span_134, b_Mo_span_136, b_Mo_span_146, b_Mo_span_149, b_Mo_span_153, b_Mo_span_154, b_Mo_span_163, b_Mo_span_168, b_Mo_span_173, b_Mo_span_179, b_Mo_span_184, b_Mo_span_186, ng_ng_eq, y1, y2, dr_some, Option.isSome_some, gR_wI, Nat.add_mul_mod_self_left, Nat.reduceMod, ak20, ak21, ak22, ak23, ak24, ak25, ak26, ak27, ak28, ak29, ak30, ak31, ak32, ak33, ak34, ak35, ak36, an20, an21, an22, an23, an24, an25, an26, an27, an28, an29, an30, an31, an32, an33, an34, an35, an36, an37, an38, ↓reduceIte, bk_int, bk_void, bk_long, bkN_int, bkN_void, bkN_long, Nat.reduceAdd, Nat.reduceMul, Nat.reduceSub, Nat.reduceLT, Nat.reduceLeDiff, if_true, if_false, not_true_eq_false, not_false_eq_true, Bool.true_eq_false, Bool.false_eq_true, b2_eq0, Nat.add_zero, Nat.zero_add, Nat.not_lt_zero, Nat.zero_le, ite_true, ite_false, decide_true, decide_false, lit_ii, of_ii, le_T, le_F, lt_T, lt_F, eq_T, eq_F, ii_add, ii_mul, ii_nat, ii_le, ii_lt, ii_eq, inR_ii, ii_add0]
      · have e0 : spF H w D x q n i = ii r := by
          unfold spF
          rw [if_neg y0, er]
        rw [e0]
        by_cases y3 : r ≤ t
        · by_cases y1 : t ≤ s
          · by_cases y2 : fl ≤ 0
            · simp (disch := first | omega | exact b2_01 _ | exact ii0_01 | exact ii1_01 | (simp (disch := omega) only [e2, n1, n2, dr_some, Option.isSome_some, gR_wI, Nat.add_mul_mod_self_left, Nat.reduceMod, ak20, ak21, ak22, ak23, ak24, ak25, ak26, ak27, ak28, ak29, ak30, ak31, ak32, ak33, ak34, ak35, ak36, an20, an21, an22, an23, an24, an25, an26, an27, an28, an29, an30, an31, an32, an33, an34, an35, an36, an37, an38, ne_eq, inR_ii, decide_eq_true_eq, lit_ii, of_ii, ii_eq, ii_lt, ii_le]; first | done | omega)) only [e2, n1, n2, e_Mo_span, b_Mo_span_0, b_Mo_span_13, b_Mo_span_16, b_Mo_span_22, b_Mo_span_25, b_Mo_span_32, b_Mo_span_35, b_Mo_span_47, b_Mo_span_50, b_Mo_span_54, b_Mo_span_55, b_Mo_span_60, b_Mo_span_63, b_Mo_span_65, b_Mo_span_83, b_Mo_span_94, b_Mo_span_98, b_Mo_span_106, b_Mo_span_113, b_Mo_span_118, b_Mo_span_120, b_Mo_span_129, b_Mo_span_134, b_Mo_span_136, b_Mo_span_146, b_Mo_span_149, b_Mo_span_153, b_Mo_span_154, b_Mo_span_163, b_Mo_span_168, b_Mo_span_173, b_Mo_span_179, b_Mo_span_184, b_Mo_span_186, eq_ng, y0, y3, y1, eq_true y2, dr_some, Option.isSome_some, gR_wI, Nat.add_mul_mod_self_left, Nat.reduceMod, ak20, ak21, ak22, ak23, ak24, ak25, ak26, ak27, ak28, ak29, ak30, ak31, ak32, ak33, ak34, ak35, ak36, an20, an21, an22, an23, an24, an25, an26, an27, an28, an29, an30, an31, an32, an33, an34, an35, an36, an37, an38, ↓reduceIte, bk_int, bk_void, bk_long, bkN_int, bkN_void, bkN_long, Nat.reduceAdd, Nat.reduceMul, Nat.reduceSub, Nat.reduceLT, Nat.reduceLeDiff, if_true, if_false, not_true_eq_false, not_false_eq_true, Bool.true_eq_false, Bool.false_eq_true, b2_eq0, Nat.add_zero, Nat.zero_add, Nat.not_lt_zero, Nat.zero_le, ite_true, ite_false, decide_true, decide_false, lit_ii, of_ii, le_T, le_F, lt_T, lt_F, eq_T, eq_F, ii_add, ii_mul, ii_nat, ii_le, ii_lt, ii_eq, inR_ii, ii_add0]
            · simp (disch := first | omega | exact b2_01 _ | exact ii0_01 | exact ii1_01 | (simp (disch := omega) only [e2, n1, n2, dr_some, Option.isSome_some, gR_wI, Nat.add_mul_mod_self_left, Nat.reduceMod, ak20, ak21, ak22, ak23, ak24, ak25, ak26, ak27, ak28, ak29, ak30, ak31, ak32, ak33, ak34, ak35, ak36, an20, an21, an22, an23, an24, an25, an26, an27, an28, an29, an30, an31, an32, an33, an34, an35, an36, an37, an38, ne_eq, inR_ii, decide_eq_true_eq, lit_ii, of_ii, ii_eq, ii_lt, ii_le]; first | done | omega)) only [e2, n1, n2, e_Mo_span, b_Mo_span_0, b_Mo_span_13, b_Mo_span_16, b_Mo_span_22, b_Mo_span_25, b_Mo_span_32, b_Mo_span_35, b_Mo_span_47, b_Mo_span_50, b_Mo_span_54, b_Mo_span_55, b_Mo_span_60, b_Mo_span_63, b_Mo_span_65, b_Mo_span_83, b_Mo_span_94, b_Mo_span_98, b_Mo_span_106, b_Mo_span_113, b_Mo_span_118, b_Mo_span_120, b_Mo_span_129, b_Mo_span_134, b_Mo_span_136, b_Mo_span_146, b_Mo_span_149, b_Mo_span_153, b_Mo_span_154, b_Mo_span_163, b_Mo_span_168, b_Mo_span_173, b_Mo_span_179, b_Mo_span_184, b_Mo_span_186, eq_ng, y0, y3, y1, y2, dr_some, Option.isSome_some, gR_wI, Nat.add_mul_mod_self_left, Nat.reduceMod, ak20, ak21, ak22, ak23, ak24, ak25, ak26, ak27, ak28, ak29, ak30, ak31, ak32, ak33, ak34, ak35, ak36, an20, an21, an22, an23, an24, an25, an26, an27, an28, an29, an30, an31, an32, an33, an34, an35, an36, an37, an38, ↓reduceIte, bk_int, bk_void, bk_long, bkN_int, bkN_void, bkN_long, Nat.reduceAdd, Nat.reduceMul, Nat.reduceSub, Nat.reduceLT, Nat.reduceLeDiff, if_true, if_false, not_true_eq_false, not_false_eq_true, Bool.true_eq_false, Bool.false_eq_true, b2_eq0, Nat.add_zero, Nat.zero_add, Nat.not_lt_zero, Nat.zero_le, ite_true, ite_false, decide_true, decide_false, lit_ii, of_ii, le_T, le_F, lt_T, lt_F, eq_T, eq_F, ii_add, ii_mul, ii_nat, ii_le, ii_lt, ii_eq, inR_ii, ii_add0]
          · by_cases y2 : fl ≤ 0
            · simp (disch := first | omega | exact b2_01 _ | exact ii0_01 | exact ii1_01 | (simp (disch := omega) only [e2, n1, n2, dr_some, Option.isSome_some, gR_wI, Nat.add_mul_mod_self_left, Nat.reduceMod, ak20, ak21, ak22, ak23, ak24, ak25, ak26, ak27, ak28, ak29, ak30, ak31, ak32, ak33, ak34, ak35, ak36, an20, an21, an22, an23, an24, an25, an26, an27, an28, an29, an30, an31, an32, an33, an34, an35, an36, an37, an38, ne_eq, inR_ii, decide_eq_true_eq, lit_ii, of_ii, ii_eq, ii_lt, ii_le]; first | done | omega)) only [e2, n1, n2, e_Mo_span, b_Mo_span_0, b_Mo_span_13, b_Mo_span_16, b_Mo_span_22, b_Mo_span_25, b_Mo_span_32, b_Mo_span_35, b_Mo_span_47, b_Mo_span_50, b_Mo_span_54, b_Mo_span_55, b_Mo_span_60, b_Mo_span_63, b_Mo_span_65, b_Mo_span_83, b_Mo_span_94, b_Mo_span_98, b_Mo_span_106, b_Mo_span_113, b_Mo_span_118, b_Mo_span_120, b_Mo_span_129, b_Mo_span_134, b_Mo_span_136, b_Mo_span_146, b_Mo_span_149, b_Mo_span_153, b_Mo_span_154, b_Mo_span_163, b_Mo_span_168, b_Mo_span_173, b_Mo_span_179, b_Mo_span_184, b_Mo_span_186, eq_ng, y0, y3, y1, eq_true y2, dr_some, Option.isSome_some, gR_wI, Nat.add_mul_mod_self_left, Nat.reduceMod, ak20, ak21, ak22, ak23, ak24, ak25, ak26, ak27, ak28, ak29, ak30, ak31, ak32, ak33, ak34, ak35, ak36, an20, an21, an22, an23, an24, an25, an26, an27, an28, an29, an30, an31, an32, an33, an34, an35, an36, an37, an38, ↓reduceIte, bk_int, bk_void, bk_long, bkN_int, bkN_void, bkN_long, Nat.reduceAdd, Nat.reduceMul, Nat.reduceSub, Nat.reduceLT, Nat.reduceLeDiff, if_true, if_false, not_true_eq_false, not_false_eq_true, Bool.true_eq_false, Bool.false_eq_true, b2_eq0, Nat.add_zero, Nat.zero_add, Nat.not_lt_zero, Nat.zero_le, ite_true, ite_false, decide_true, decide_false, lit_ii, of_ii, le_T, le_F, lt_T, lt_F, eq_T, eq_F, ii_add, ii_mul, ii_nat, ii_le, ii_lt, ii_eq, inR_ii, ii_add0]
            · simp (disch := first | omega | exact b2_01 _ | exact ii0_01 | exact ii1_01 | (simp (disch := omega) only [e2, n1, n2, dr_some, Option.isSome_some, gR_wI, Nat.add_mul_mod_self_left, Nat.reduceMod, ak20, ak21, ak22, ak23, ak24, ak25, ak26, ak27, ak28, ak29, ak30, ak31, ak32, ak33, ak34, ak35, ak36, an20, an21, an22, an23, an24, an25, an26, an27, an28, an29, an30, an31, an32, an33, an34, an35, an36, an37, an38, ne_eq, inR_ii, decide_eq_true_eq, lit_ii, of_ii, ii_eq, ii_lt, ii_le]; first | done | omega)) only [e2, n1, n2, e_Mo_span, b_Mo_span_0, b_Mo_span_13, b_Mo_span_16, b_Mo_span_22, b_Mo_span_25, b_Mo_span_32, b_Mo_span_35, b_Mo_span_47, b_Mo_span_50, b_Mo_span_54, b_Mo_span_55, b_Mo_span_60, b_Mo_span_63, b_Mo_span_65, b_Mo_span_83, b_Mo_span_94, b_Mo_span_98, b_Mo_span_106, b_Mo_span_113, b_Mo_span_118, b_Mo_span_120, b_Mo_span_129, b_Mo_span_134, b_Mo_span_136, b_Mo_span_146, b_Mo_span_149, b_Mo_span_153, b_Mo_span_154, b_Mo_span_163, b_Mo_span_168, b_Mo_span_173, b_Mo_span_179, b_Mo_span_184, b_Mo_span_186, eq_ng, y0, y3, y1, y2, dr_some, Option.isSome_some, gR_wI, Nat.add_mul_mod_self_left, Nat.reduceMod, ak20, ak21, ak22, ak23, ak24, ak25, ak26, ak27, ak28, ak29, ak30, ak31, ak32, ak33, ak34, ak35, ak36, an20, an21, an22, an23, an24, an25, an26, an27, an28, an29, an30, an31, an32, an33, an34, an35, an36, an37, an38, ↓reduceIte, bk_int, bk_void, bk_long, bkN_int, bkN_void, bkN_long, Nat.reduceAdd, Nat.reduceMul, Nat.reduceSub, Nat.reduceLT, Nat.reduceLeDiff, if_true, if_false, not_true_eq_false, not_false_eq_true, Bool.true_eq_false, Bool.false_eq_true, b2_eq0, Nat.add_zero, Nat.zero_add, Nat.not_lt_zero, Nat.zero_le, ite_true, ite_false, decide_true, decide_false, lit_ii, of_ii, le_T, le_F, lt_T, lt_F, eq_T, eq_F, ii_add, ii_mul, ii_nat, ii_le, ii_lt, ii_eq, inR_ii, ii_add0]
        · by_cases y1 : t ≤ s
          · by_cases y2 : fl ≤ 0
            · simp (disch := first | omega | exact b2_01 _ | exact ii0_01 | exact ii1_01 | (simp (disch := omega) only [e2, n1, n2, dr_some, Option.isSome_some, gR_wI, Nat.add_mul_mod_self_left, Nat.reduceMod, ak20, ak21, ak22, ak23, ak24, ak25, ak26, ak27, ak28, ak29, ak30, ak31, ak32, ak33, ak34, ak35, ak36, an20, an21, an22, an23, an24, an25, an26, an27, an28, an29, an30, an31, an32, an33, an34, an35, an36, an37, an38, ne_eq, inR_ii, decide_eq_true_eq, lit_ii, of_ii, ii_eq, ii_lt, ii_le]; first | done | omega)) only [e2, n1, n2, e_Mo_span, b_Mo_span_0, b_Mo_span_13, b_Mo_span_16, b_Mo_span_22, b_Mo_span_25, b_Mo_span_32, b_Mo_span_35, b_Mo_span_47, b_Mo_span_50, b_Mo_span_54, b_Mo_span_55, b_Mo_span_60, b_Mo_span_63, b_Mo_span_65, b_Mo_span_83, b_Mo_span_94, b_Mo_span_98, b_Mo_span_106, b_Mo_span_113, b_Mo_span_118, b_Mo_span_120, b_Mo_span_129, b_Mo_span_134, b_Mo_span_136, b_Mo_span_146, b_Mo_span_149, b_Mo_span_153, b_Mo_span_154, b_Mo_span_163, b_Mo_span_168, b_Mo_span_173, b_Mo_span_179, b_Mo_span_184, b_Mo_span_186, eq_ng, y0, y3, y1, eq_true y2, dr_some, Option.isSome_some, gR_wI, Nat.add_mul_mod_self_left, Nat.reduceMod, ak20, ak21, ak22, ak23, ak24, ak25, ak26, ak27, ak28, ak29, ak30, ak31, ak32, ak33, ak34, ak35, ak36, an20, an21, an22, an23, an24, an25, an26, an27, an28, an29, an30, an31, an32, an33, an34, an35, an36, an37, an38, ↓reduceIte, bk_int, bk_void, bk_long, bkN_int, bkN_void, bkN_long, Nat.reduceAdd, Nat.reduceMul, Nat.reduceSub, Nat.reduceLT, Nat.reduceLeDiff, if_true, if_false, not_true_eq_false, not_false_eq_true, Bool.true_eq_false, Bool.false_eq_true, b2_eq0, Nat.add_zero, Nat.zero_add, Nat.not_lt_zero, Nat.zero_le, ite_true, ite_false, decide_true, decide_false, lit_ii, of_ii, le_T, le_F, lt_T, lt_F, eq_T, eq_F, ii_add, ii_mul, ii_nat, ii_le, ii_lt, ii_eq, inR_ii, ii_add0]
            · simp (disch := first | omega | exact b2_01 _ | exact ii0_01 | exact ii1_01 | (simp (disch := omega) only [e2, n1, n2, dr_some, Option.isSome_some, gR_wI, Nat.add_mul_mod_self_left, Nat.reduceMod, ak20, ak21, ak22, ak23, ak24, ak25, ak26, ak27, ak28, ak29, ak30, ak31, ak32, ak33, ak34, ak35, ak36, an20, an21, an22, an23, an24, an25, an26, an27, an28, an29, an30, an31, an32, an33, an34, an35, an36, an37, an38, ne_eq, inR_ii, decide_eq_true_eq, lit_ii, of_ii, ii_eq, ii_lt, ii_le]; first | done | omega)) only [e2, n1, n2, e_Mo_span, b_Mo_span_0, b_Mo_span_13, b_Mo_span_16, b_Mo_span_22, b_Mo_span_25, b_Mo_span_32, b_Mo_span_35, b_Mo_span_47, b_Mo_span_50, b_Mo_span_54, b_Mo_span_55, b_Mo_span_60, b_Mo_span_63, b_Mo_span_65, b_Mo_span_83, b_Mo_span_94, b_Mo_span_98, b_Mo_span_106, b_Mo_span_113, b_Mo_span_118, b_Mo_span_120, b_Mo_span_129, b_Mo_span_134, b_Mo_span_136, b_Mo_span_146, b_Mo_span_149, b_Mo_span_153, b_Mo_span_154, b_Mo_span_163, b_Mo_span_168, b_Mo_span_173, b_Mo_span_179, b_Mo_span_184, b_Mo_span_186, eq_ng, y0, y3, y1, y2, dr_some, Option.isSome_some, gR_wI, Nat.add_mul_mod_self_left, Nat.reduceMod, ak20, ak21, ak22, ak23, ak24, ak25, ak26, ak27, ak28, ak29, ak30, ak31, ak32, ak33, ak34, ak35, ak36, an20, an21, an22, an23, an24, an25, an26, an27, an28, an29, an30, an31, an32, an33, an34, an35, an36, an37, an38, ↓reduceIte, bk_int, bk_void, bk_long, bkN_int, bkN_void, bkN_long, Nat.reduceAdd, Nat.reduceMul, Nat.reduceSub, Nat.reduceLT, Nat.reduceLeDiff, if_true, if_false, not_true_eq_false, not_false_eq_true, Bool.true_eq_false, Bool.false_eq_true, b2_eq0, Nat.add_zero, Nat.zero_add, Nat.not_lt_zero, Nat.zero_le, ite_true, ite_false, decide_true, decide_false, lit_ii, of_ii, le_T, le_F, lt_T, lt_F, eq_T, eq_F, ii_add, ii_mul, ii_nat, ii_le, ii_lt, ii_eq, inR_ii, ii_add0]
          · by_cases y2 : fl ≤ 0
            · simp (disch := first | omega | exact b2_01 _ | exact ii0_01 | exact ii1_01 | (simp (disch := omega) only [e2, n1, n2, dr_some, Option.isSome_some, gR_wI, Nat.add_mul_mod_self_left, Nat.reduceMod, ak20, ak21, ak22, ak23, ak24, ak25, ak26, ak27, ak28, ak29, ak30, ak31, ak32, ak33, ak34, ak35, ak36, an20, an21, an22, an23, an24, an25, an26, an27, an28, an29, an30, an31, an32, an33, an34, an35, an36, an37, an38, ne_eq, inR_ii, decide_eq_true_eq, lit_ii, of_ii, ii_eq, ii_lt, ii_le]; first | done | omega)) only [e2, n1, n2, e_Mo_span, b_Mo_span_0, b_Mo_span_13, b_Mo_span_16, b_Mo_span_22, b_Mo_span_25, b_Mo_span_32, b_Mo_span_35, b_Mo_span_47, b_Mo_span_50, b_Mo_span_54, b_Mo_span_55, b_Mo_span_60, b_Mo_span_63, b_Mo_span_65, b_Mo_span_83, b_Mo_span_94, b_Mo_span_98, b_Mo_span_106, b_Mo_span_113, b_Mo_span_118, b_Mo_span_120, b_Mo_span_129, b_Mo_span_134, b_Mo_span_136, b_Mo_span_146, b_Mo_span_149, b_Mo_span_153, b_Mo_span_154, b_Mo_span_163, b_Mo_span_168, b_Mo_span_173, b_Mo_span_179, b_Mo_span_184, b_Mo_span_186, eq_ng, y0, y3, y1, eq_true y2, dr_some, Option.isSome_some, gR_wI, Nat.add_mul_mod_self_left, Nat.reduceMod, ak20, ak21, ak22, ak23, ak24, ak25, ak26, ak27, ak28, ak29, ak30, ak31, ak32, ak33, ak34, ak35, ak36, an20, an21, an22, an23, an24, an25, an26, an27, an28, an29, an30, an31, an32, an33, an34, an35, an36, an37, an38, ↓reduceIte, bk_int, bk_void, bk_long, bkN_int, bkN_void, bkN_long, Nat.reduceAdd, Nat.reduceMul, Nat.reduceSub, Nat.reduceLT, Nat.reduceLeDiff, if_true, if_false, not_true_eq_false, not_false_eq_true, Bool.true_eq_false, Bool.false_eq_true, b2_eq0, Nat.add_zero, Nat.zero_add, Nat.not_lt_zero, Nat.zero_le, ite_true, ite_false, decide_true, decide_false, lit_ii, of_ii, le_T, le_F, lt_T, lt_F, eq_T, eq_F, ii_add, ii_mul, ii_nat, ii_le, ii_lt, ii_eq, inR_ii, ii_add0]
            · simp (disch := first | omega | exact b2_01 _ | exact ii0_01 | exact ii1_01 | (simp (disch := omega) only [e2, n1, n2, dr_some, Option.isSome_some, gR_wI, Nat.add_mul_mod_self_left, Nat.reduceMod, ak20, ak21, ak22, ak23, ak24, ak25, ak26, ak27, ak28, ak29, ak30, ak31, ak32, ak33, ak34, ak35, ak36, an20, an21, an22, an23, an24, an25, an26, an27, an28, an29, an30, an31, an32, an33, an34, an35, an36, an37, an38, ne_eq, inR_ii, decide_eq_true_eq, lit_ii, of_ii, ii_eq, ii_lt, ii_le]; first | done | omega)) only [e2, n1, n2, e_Mo_span, b_Mo_span_0, b_Mo_span_13, b_Mo_span_16, b_Mo_span_22, b_Mo_span_25, b_Mo_span_32, b_Mo_span_35, b_Mo_span_47, b_Mo_span_50, b_Mo_span_54, b_Mo_span_55, b_Mo_span_60, b_Mo_span_63, b_Mo_span_65, b_Mo_span_83, b_Mo_span_94, b_Mo_span_98, b_Mo_span_106, b_Mo_span_113, b_Mo_span_118, b_Mo_span_120, b_Mo_span_129, b_Mo_span_134, b_Mo_span_136, b_Mo_span_146, b_Mo_span_149, b_Mo_span_153, b_Mo_span_154, b_Mo_span_163, b_Mo_span_168, b_Mo_span_173, b_Mo_span_179, b_Mo_span_184, b_Mo_span_186, eq_ng, y0, y3, y1, y2, dr_some, Option.isSome_some, gR_wI, Nat.add_mul_mod_self_left, Nat.reduceMod, ak20, ak21, ak22, ak23, ak24, ak25, ak26, ak27, ak28, ak29, ak30, ak31, ak32, ak33, ak34, ak35, ak36, an20, an21, an22, an23, an24, an25, an26, an27, an28, an29, an30, an31, an32, an33, an34, an35, an36, an37, an38, ↓reduceIte, bk_int, bk_void, bk_long, bkN_int, bkN_void, bkN_long, Nat.reduceAdd, Nat.reduceMul, Nat.reduceSub, Nat.reduceLT, Nat.reduceLeDiff, if_true, if_false, not_true_eq_false, not_false_eq_true, Bool.true_eq_false, Bool.false_eq_true, b2_eq0, Nat.add_zero, Nat.zero_add, Nat.not_lt_zero, Nat.zero_le, ite_true, ite_false, decide_true, decide_false, lit_ii, of_ii, le_T, le_F, lt_T, lt_F, eq_T, eq_F, ii_add, ii_mul, ii_nat, ii_le, ii_lt, ii_eq, inR_ii, ii_add0]
    · rintro c ⟨σ', l11, rfl, F'⟩
      refine ⟨σ', ?_, F'⟩
      have e0 : spF H w D x q n N = spL H w D x q n N := by
        unfold spF
        rw [if_neg (by omega)]
      unfold spV
      have h3 : k = 0 ∨ k = 1 ∨ k = 2 := by omega
      rcases h3 with rfl | rfl | rfl
      · simp (disch := first | omega | exact b2_01 _ | exact ii0_01 | exact ii1_01 | (simp (disch := omega) only [Nat.le_refl, dr_some, Option.isSome_some, gR_wI, Nat.add_mul_mod_self_left, Nat.reduceMod, ak20, ak21, ak22, ak23, ak24, ak25, ak26, ak27, ak28, ak29, ak30, ak31, ak32, ak33, ak34, ak35, ak36, an20, an21, an22, an23, an24, an25, an26, an27, an28, an29, an30, an31, an32, an33, an34, an35, an36, an37, an38, ne_eq, inR_ii, decide_eq_true_eq, lit_ii, of_ii, ii_eq, ii_lt, ii_le]; first | done | omega)) only [Nat.le_refl, e_Mo_span, b_Mo_span_0, b_Mo_span_13, b_Mo_span_16, b_Mo_span_22, b_Mo_span_25, b_Mo_span_32, b_Mo_span_35, b_Mo_span_47, b_Mo_span_50, b_Mo_span_54, b_Mo_span_55, b_Mo_span_60, b_Mo_span_63, b_Mo_span_65, b_Mo_span_77, b_Mo_span_83, b_Mo_span_94, b_Mo_span_98, b_Mo_span_106, b_Mo_span_113, b_Mo_span_118, b_Mo_span_120, b_Mo_span_129, b_Mo_span_134, b_Mo_span_136, b_Mo_span_146, b_Mo_span_149, b_Mo_span_153, b_Mo_span_154, b_Mo_span_163, b_Mo_span_168, b_Mo_span_173, b_Mo_span_179, b_Mo_span_184, b_Mo_span_186, e0, dr_some, Option.isSome_some, gR_wI, Nat.add_mul_mod_self_left, Nat.reduceMod, ak20, ak21, ak22, ak23, ak24, ak25, ak26, ak27, ak28, ak29, ak30, ak31, ak32, ak33, ak34, ak35, ak36, an20, an21, an22, an23, an24, an25, an26, an27, an28, an29, an30, an31, an32, an33, an34, an35, an36, an37, an38, ↓reduceIte, bk_int, bk_void, bk_long, bkN_int, bkN_void, bkN_long, Nat.reduceAdd, Nat.reduceMul, Nat.reduceSub, Nat.reduceLT, Nat.reduceLeDiff, if_true, if_false, not_true_eq_false, not_false_eq_true, Bool.true_eq_false, Bool.false_eq_true, b2_eq0, Nat.add_zero, Nat.zero_add, Nat.not_lt_zero, Nat.zero_le, ite_true, ite_false, decide_true, decide_false, lit_ii, of_ii, le_T, le_F, lt_T, lt_F, eq_T, eq_F, ii_add, ii_mul, ii_nat, ii_le, ii_lt, ii_eq, inR_ii, ii_add0]
      · simp (disch := first | omega | exact b2_01 _ | exact ii0_01 | exact ii1_01 | (simp (disch := omega) only [Nat.le_refl, dr_some, Option.isSome_some, gR_wI, Nat.add_mul_mod_self_left, Nat.reduceMod, ak20, ak21, ak22, ak23, ak24, ak25, ak26, ak27, ak28, ak29, ak30, ak31, ak32, ak33, ak34, ak35, ak36, an20, an21, an22, an23, an24, an25, an26, an27, an28, an29, an30, an31, an32, an33, an34, an35, an36, an37, an38, ne_eq, inR_ii, decide_eq_true_eq, lit_ii, of_ii, ii_eq, ii_lt, ii_le]; first | done | omega)) only [Nat.le_refl, e_Mo_span, b_Mo_span_0, b_Mo_span_13, b_Mo_span_16, b_Mo_span_22, b_Mo_span_25, b_Mo_span_32, b_Mo_span_35, b_Mo_span_47, b_Mo_span_50, b_Mo_span_54, b_Mo_span_55, b_Mo_span_60, b_Mo_span_63, b_Mo_span_65, b_Mo_span_77, b_Mo_span_83, b_Mo_span_94, b_Mo_span_98, b_Mo_span_106, b_Mo_span_113, b_Mo_span_118, b_Mo_span_120, b_Mo_span_129, b_Mo_span_134, b_Mo_span_136, b_Mo_span_146, b_Mo_span_149, b_Mo_span_153, b_Mo_span_154, b_Mo_span_163, b_Mo_span_168, b_Mo_span_173, b_Mo_span_179, b_Mo_span_184, b_Mo_span_186, Nat.succ_ne_zero, Nat.reduceEqDiff, dr_some, Option.isSome_some, gR_wI, Nat.add_mul_mod_self_left, Nat.reduceMod, ak20, ak21, ak22, ak23, ak24, ak25, ak26, ak27, ak28, ak29, ak30, ak31, ak32, ak33, ak34, ak35, ak36, an20, an21, an22, an23, an24, an25, an26, an27, an28, an29, an30, an31, an32, an33, an34, an35, an36, an37, an38, ↓reduceIte, bk_int, bk_void, bk_long, bkN_int, bkN_void, bkN_long, Nat.reduceAdd, Nat.reduceMul, Nat.reduceSub, Nat.reduceLT, Nat.reduceLeDiff, if_true, if_false, not_true_eq_false, not_false_eq_true, Bool.true_eq_false, Bool.false_eq_true, b2_eq0, Nat.add_zero, Nat.zero_add, Nat.not_lt_zero, Nat.zero_le, ite_true, ite_false, decide_true, decide_false, lit_ii, of_ii, le_T, le_F, lt_T, lt_F, eq_T, eq_F, ii_add, ii_mul, ii_nat, ii_le, ii_lt, ii_eq, inR_ii, ii_add0]
      · simp (disch := first | omega | exact b2_01 _ | exact ii0_01 | exact ii1_01 | (simp (disch := omega) only [Nat.le_refl, dr_some, Option.isSome_some, gR_wI, Nat.add_mul_mod_self_left, Nat.reduceMod, ak20, ak21, ak22, ak23, ak24, ak25, ak26, ak27, ak28, ak29, ak30, ak31, ak32, ak33, ak34, ak35, ak36, an20, an21, an22, an23, an24, an25, an26, an27, an28, an29, an30, an31, an32, an33, an34, an35, an36, an37, an38, ne_eq, inR_ii, decide_eq_true_eq, lit_ii, of_ii, ii_eq, ii_lt, ii_le]; first | done | omega)) only [Nat.le_refl, e_Mo_span, b_Mo_span_0, b_Mo_span_13, b_Mo_span_16, b_Mo_span_22, b_Mo_span_25, b_Mo_span_32, b_Mo_span_35, b_Mo_span_47, b_Mo_span_50, b_Mo_span_54, b_Mo_span_55, b_Mo_span_60, b_Mo_span_63, b_Mo_span_65, b_Mo_span_77, b_Mo_span_83, b_Mo_span_94, b_Mo_span_98, b_Mo_span_106, b_Mo_span_113, b_Mo_span_118, b_Mo_span_120, b_Mo_span_129, b_Mo_span_134, b_Mo_span_136, b_Mo_span_146, b_Mo_span_149, b_Mo_span_153, b_Mo_span_154, b_Mo_span_163, b_Mo_span_168, b_Mo_span_173, b_Mo_span_179, b_Mo_span_184, b_Mo_span_186, Nat.reduceEqDiff, dr_some, Option.isSome_some, gR_wI, Nat.add_mul_mod_self_left, Nat.reduceMod, ak20, ak21, ak22, ak23, ak24, ak25, ak26, ak27, ak28, ak29, ak30, ak31, ak32, ak33, ak34, ak35, ak36, an20, an21, an22, an23, an24, an25, an26, an27, an28, an29, an30, an31, an32, an33, an34, an35, an36, an37, an38, ↓reduceIte, bk_int, bk_void, bk_long, bkN_int, bkN_void, bkN_long, Nat.reduceAdd, Nat.reduceMul, Nat.reduceSub, Nat.reduceLT, Nat.reduceLeDiff, if_true, if_false, not_true_eq_false, not_false_eq_true, Bool.true_eq_false, Bool.false_eq_true, b2_eq0, Nat.add_zero, Nat.zero_add, Nat.not_lt_zero, Nat.zero_le, ite_true, ite_false, decide_true, decide_false, lit_ii, of_ii, le_T, le_F, lt_T, lt_F, eq_T, eq_F, ii_add, ii_mul, ii_nat, ii_le, ii_lt, ii_eq, inR_ii, ii_add0]
  obtain ⟨σ', e1, F1⟩ := key
  exact A.rd (t0_fm.tr (Mwk_sc F1)) ((F1.I (by unfold Mwk; omega)).trans h0) e1
