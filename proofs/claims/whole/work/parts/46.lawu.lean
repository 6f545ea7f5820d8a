theorem s_sgn {d c l n u : Nat} {T : Nat → Nat} {s : LwT} {σ : HP} (R : RS σ T n s.1 none u) (C : LC σ l s.2.1 s.2.2) (hc : c < 256) : ∃ σ', callF (d + 4) m_Reader_needSign [.ref 71, .int (ii c)] σ = some (.inl none, σ') ∧ LQ σ' T n l (sgnR T n c s) ∧ Fs S1 σ σ' := by
  obtain ⟨σ', e1, R1, F1⟩ := s_needSign (d := d) R hc
  refine ⟨σ', e1, ?_, F1⟩
  have C1 := C.fs F1 (by unfold S1; omega) (by unfold S1; omega)
  unfold sgnR
  cases hb : sgB T n s.1 c with
  | true =>
    rw [if_pos rfl]
    have e2 : sgP T n s.1 c = sk T n s.1 + 1 := by unfold sgP; rw [hb]; rfl
    have e3 : blm none (sgF T n s.1 c) = none := by unfold sgF; rw [hb]; rfl
    rw [e2, e3] at R1
    exact ⟨⟨u, R1⟩, C1⟩
  | false =>
    rw [if_neg (by decide)]
    have e3 : blm none (sgF T n s.1 c) = some (1, sk T n s.1) := by unfold sgF; rw [hb]; rfl
    rw [e3] at R1
    exact ⟨_, _, R1⟩
theorem cl_brk0 {T : Nat → Nat} {n l q k u e : Nat} {c : Nat → Nat} {σ : HP} (he : 20 ≤ e) (R : RS σ T n q none u) : ∃ σ', callF (e + 1) m_Law_readBracket [.ref (4 + 64 * l), .ref 71, .int (ii 6)] σ = some (.inl none, σ') ∧ LQ σ' T n l (.inr (3, q)) ∧ Fs (SL l) σ σ' := by
  obtain ⟨d, rfl⟩ : ∃ d, e = d + 20 := ⟨e - 20, by omega⟩
  have hp := R.2.2.2.2.2.2.1
  have hn := R.2.2.2.2.2.2.2.1
  obtain ⟨σ1, e1, R1, F1⟩ := s_blame (d := d + 19) R (k := 3) (q := q) (by omega) (by omega)
  refine ⟨σ1, ?_, ⟨q, u, R1⟩, S1_SL F1⟩
  have a2 := R.2.2.1
  simp (disch := first | omega | exact b2_01 _ | exact ii0_01 | exact ii1_01 | (simp (disch := omega) only [a2, dr_some, Option.isSome_some, gR_wI, Nat.add_mul_mod_self_left, Nat.reduceMod, ak20, ak21, ak22, ak23, ak24, ak25, ak26, ak27, ak28, ak29, ak30, ak31, ak32, ak33, ak34, ak35, ak36, an20, an21, an22, an23, an24, an25, an26, an27, an28, an29, an30, an31, an32, an33, an34, an35, an36, an37, an38, ne_eq, inR_ii, decide_eq_true_eq, lit_ii, of_ii, ii_eq, ii_lt, ii_le]; first | done | omega)) only [a2, e_Law_readBracket, b_Law_readBracket_0, b_Law_readBracket_6, b_Law_readBracket_15, b_Law_readBracket_16, b_Law_readBracket_22, b_Law_readBracket_30, b_Law_readBracket_36, e1, dr_some, Option.isSome_some, gR_wI, Nat.add_mul_mod_self_left, Nat.reduceMod, ak20, ak21, ak22, ak23, ak24, ak25, ak26, ak27, ak28, ak29, ak30, ak31, ak32, ak33, ak34, ak35, ak36, an20, an21, an22, an23, an24, an25, an26, an27, an28, an29, an30, an31, an32, an33, an34, an35, an36, an37, an38, ↓reduceIte, bk_int, bk_void, bk_long, bkN_int, bkN_void, bkN_long, Nat.reduceAdd, Nat.reduceMul, Nat.reduceSub, Nat.reduceLT, Nat.reduceLeDiff, if_true, if_false, not_true_eq_false, not_false_eq_true, Bool.true_eq_false, Bool.false_eq_true, b2_eq0, Nat.add_zero, Nat.zero_add, Nat.not_lt_zero, Nat.zero_le, ite_true, ite_false, decide_true, decide_false, lit_ii, of_ii, le_T, le_F, lt_T, lt_F, eq_T, eq_F, ii_add, ii_mul, ii_nat, ii_le, ii_lt, ii_eq, inR_ii, ii_add0]
theorem cl_brk {T : Nat → Nat} {n l o q k u e : Nat} {c : Nat → Nat} {S : LwT → PR LwT} {σ : HP} (hS : UC T n l m_Law_readSum (o + 1) e S) (he : 20 ≤ e) (ho : o < 6) (R : RS σ T n q none u) (C : LC σ l k c) (hk : k ≤ q) (hq : q < n) (ht : T q = 40) (hqq : sk T n q = q) : ∃ σ', callF (e + 1) m_Law_readBracket [.ref (4 + 64 * l), .ref 71, .int (ii o)] σ = some (.inl none, σ') ∧ LQ σ' T n l (lwBr T n S (q + 1, k, c)) ∧ Fs (SL l) σ σ' := by
  obtain ⟨d, rfl⟩ : ∃ d, e = d + 20 := ⟨e - 20, by omega⟩
  have sb : sgB T n q 40 = true := decide_eq_true (by rw [hqq]; exact ⟨hq, ht⟩)
  obtain ⟨σ1, e1, R1, F1⟩ := s_passSign (d := d + 17) R (c := 40) (by omega) sb
  have sp : sgP T n q 40 = q + 1 := by unfold sgP; rw [sb, hqq]; rfl
  rw [sp] at R1
  have C1 := C.fs F1 (by unfold S1; omega) (by unfold S1; omega)
  obtain ⟨σ2, e2, Q2, F2⟩ := hS σ1 (q + 1, k, c) u R1 C1 (by show k ≤ q + 1; omega)
  have F02 := (S1_SL (l := l) F1).tr F2
  unfold lwBr
  cases hv : S (q + 1, k, c) with
  | inr F =>
    rw [hv] at Q2
    obtain ⟨p2, u2, R2⟩ := Q2
    obtain ⟨σ3, e3, R3, F3⟩ := s_needSign (d := d + 16) R2 (c := 41) (by omega)
    refine ⟨σ3, ?_, ⟨_, _, R3⟩, F02.tr (S1_SL F3)⟩
    simp (disch := first | omega | exact b2_01 _ | exact ii0_01 | exact ii1_01 | (simp (disch := omega) only [lit_ii, dr_some, Option.isSome_some, gR_wI, Nat.add_mul_mod_self_left, Nat.reduceMod, ak20, ak21, ak22, ak23, ak24, ak25, ak26, ak27, ak28, ak29, ak30, ak31, ak32, ak33, ak34, ak35, ak36, an20, an21, an22, an23, an24, an25, an26, an27, an28, an29, an30, an31, an32, an33, an34, an35, an36, an37, an38, ne_eq, inR_ii, decide_eq_true_eq, lit_ii, of_ii, ii_eq, ii_lt, ii_le]; first | done | omega)) only [lit_ii, e_Law_readBracket, b_Law_readBracket_0, b_Law_readBracket_6, b_Law_readBracket_15, b_Law_readBracket_16, b_Law_readBracket_22, b_Law_readBracket_30, b_Law_readBracket_36, e1, e2, e3, dr_some, Option.isSome_some, gR_wI, Nat.add_mul_mod_self_left, Nat.reduceMod, ak20, ak21, ak22, ak23, ak24, ak25, ak26, ak27, ak28, ak29, ak30, ak31, ak32, ak33, ak34, ak35, ak36, an20, an21, an22, an23, an24, an25, an26, an27, an28, an29, an30, an31, an32, an33, an34, an35, an36, an37, an38, ↓reduceIte, bk_int, bk_void, bk_long, bkN_int, bkN_void, bkN_long, Nat.reduceAdd, Nat.reduceMul, Nat.reduceSub, Nat.reduceLT, Nat.reduceLeDiff, if_true, if_false, not_true_eq_false, not_false_eq_true, Bool.true_eq_false, Bool.false_eq_true, b2_eq0, Nat.add_zero, Nat.zero_add, Nat.not_lt_zero, Nat.zero_le, ite_true, ite_false, decide_true, decide_false, lit_ii, of_ii, le_T, le_F, lt_T, lt_F, eq_T, eq_F, ii_add, ii_mul, ii_nat, ii_le, ii_lt, ii_eq, inR_ii, ii_add0]
  | inl s2 =>
    rw [hv] at Q2
    obtain ⟨⟨u2, R2⟩, C2⟩ := Q2
    obtain ⟨σ3, e3, Q3, F3⟩ := s_sgn (d := d + 16) (c := 41) R2 C2 (by omega)
    refine ⟨σ3, ?_, Q3, F02.tr (S1_SL F3)⟩
    simp (disch := first | omega | exact b2_01 _ | exact ii0_01 | exact ii1_01 | (simp (disch := omega) only [lit_ii, dr_some, Option.isSome_some, gR_wI, Nat.add_mul_mod_self_left, Nat.reduceMod, ak20, ak21, ak22, ak23, ak24, ak25, ak26, ak27, ak28, ak29, ak30, ak31, ak32, ak33, ak34, ak35, ak36, an20, an21, an22, an23, an24, an25, an26, an27, an28, an29, an30, an31, an32, an33, an34, an35, an36, an37, an38, ne_eq, inR_ii, decide_eq_true_eq, lit_ii, of_ii, ii_eq, ii_lt, ii_le]; first | done | omega)) only [lit_ii, e_Law_readBracket, b_Law_readBracket_0, b_Law_readBracket_6, b_Law_readBracket_15, b_Law_readBracket_16, b_Law_readBracket_22, b_Law_readBracket_30, b_Law_readBracket_36, e1, e2, e3, dr_some, Option.isSome_some, gR_wI, Nat.add_mul_mod_self_left, Nat.reduceMod, ak20, ak21, ak22, ak23, ak24, ak25, ak26, ak27, ak28, ak29, ak30, ak31, ak32, ak33, ak34, ak35, ak36, an20, an21, an22, an23, an24, an25, an26, an27, an28, an29, an30, an31, an32, an33, an34, an35, an36, an37, an38, ↓reduceIte, bk_int, bk_void, bk_long, bkN_int, bkN_void, bkN_long, Nat.reduceAdd, Nat.reduceMul, Nat.reduceSub, Nat.reduceLT, Nat.reduceLeDiff, if_true, if_false, not_true_eq_false, not_false_eq_true, Bool.true_eq_false, Bool.false_eq_true, b2_eq0, Nat.add_zero, Nat.zero_add, Nat.not_lt_zero, Nat.zero_le, ite_true, ite_false, decide_true, decide_false, lit_ii, of_ii, le_T, le_F, lt_T, lt_F, eq_T, eq_F, ii_add, ii_mul, ii_nat, ii_le, ii_lt, ii_eq, inR_ii, ii_add0]
theorem cl_cho0 {T : Nat → Nat} {n l p q j e : Nat} {σ : HP} (he : 20 ≤ e) (R : RS σ T n p none q) : ∃ σ', callF (e + 1) m_Law_readChoice [.ref (4 + 64 * l), .ref 71, .int (ii 6), .int (ii j)] σ = some (.inl none, σ') ∧ LQ σ' T n l (.inr (3, q)) ∧ Fs (SL l) σ σ' := by
  obtain ⟨d, rfl⟩ : ∃ d, e = d + 20 := ⟨e - 20, by omega⟩
  have hu := R.2.2.2.2.2.2.2.2.1
  obtain ⟨σ1, e1, R1, F1⟩ := s_blame (d := d + 19) R (k := 3) (q := q) (by omega) hu
  refine ⟨σ1, ?_, ⟨p, q, R1⟩, S1_SL F1⟩
  have a5 := R.2.2.2.2.2.1
  simp (disch := first | omega | exact b2_01 _ | exact ii0_01 | exact ii1_01 | (simp (disch := omega) only [a5, dr_some, Option.isSome_some, gR_wI, Nat.add_mul_mod_self_left, Nat.reduceMod, ak20, ak21, ak22, ak23, ak24, ak25, ak26, ak27, ak28, ak29, ak30, ak31, ak32, ak33, ak34, ak35, ak36, an20, an21, an22, an23, an24, an25, an26, an27, an28, an29, an30, an31, an32, an33, an34, an35, an36, an37, an38, ne_eq, inR_ii, decide_eq_true_eq, lit_ii, of_ii, ii_eq, ii_lt, ii_le]; first | done | omega)) only [a5, e_Law_readChoice, b_Law_readChoice_0, b_Law_readChoice_6, b_Law_readChoice_15, b_Law_readChoice_16, b_Law_readChoice_22, b_Law_readChoice_26, b_Law_readChoice_29, b_Law_readChoice_30, b_Law_readChoice_38, b_Law_readChoice_44, b_Law_readChoice_48, b_Law_readChoice_51, b_Law_readChoice_52, b_Law_readChoice_60, b_Law_readChoice_66, b_Law_readChoice_75, e1, dr_some, Option.isSome_some, gR_wI, Nat.add_mul_mod_self_left, Nat.reduceMod, ak20, ak21, ak22, ak23, ak24, ak25, ak26, ak27, ak28, ak29, ak30, ak31, ak32, ak33, ak34, ak35, ak36, an20, an21, an22, an23, an24, an25, an26, an27, an28, an29, an30, an31, an32, an33, an34, an35, an36, an37, an38, ↓reduceIte, bk_int, bk_void, bk_long, bkN_int, bkN_void, bkN_long, Nat.reduceAdd, Nat.reduceMul, Nat.reduceSub, Nat.reduceLT, Nat.reduceLeDiff, if_true, if_false, not_true_eq_false, not_false_eq_true, Bool.true_eq_false, Bool.false_eq_true, b2_eq0, Nat.add_zero, Nat.zero_add, Nat.not_lt_zero, Nat.zero_le, ite_true, ite_false, decide_true, decide_false, lit_ii, of_ii, le_T, le_F, lt_T, lt_F, eq_T, eq_F, ii_add, ii_mul, ii_nat, ii_le, ii_lt, ii_eq, inR_ii, ii_add0]
theorem cl_cho {T : Nat → Nat} {n l o u j e : Nat} {S : LwT → PR LwT} {s : LwT} {σ : HP} (hS : UC T n l m_Law_readSum (o + 1) e S) (hF : ∀ s : LwT, s.1 ≤ n → fwd n s (S s)) (he : 20 ≤ e) (ho : o < 6) (hn : n ≤ 150) (R : RS σ T n s.1 none u) (C : LC σ l s.2.1 s.2.2) (hk : s.2.1 ≤ s.1) : ∃ σ', callF (e + 1) m_Law_readChoice [.ref (4 + 64 * l), .ref 71, .int (ii o), .int (ii j)] σ = some (.inl none, σ') ∧ LQ σ' T n l (lwTw T n (2000 + j) S s) ∧ Fs (SL l) σ σ' := by
  obtain ⟨d, rfl⟩ : ∃ d, e = d + 20 := ⟨e - 20, by omega⟩
  obtain ⟨σ1, e1, Q1, F1⟩ := s_sgn (d := d + 16) (c := 91) R C (by omega)
  have f1 := sgnR_fwd (T := T) (c := 91) s R.2.2.2.2.2.2.1
  cases h1 : sgnR T n 91 s with
  | inr F =>
    rw [h1] at Q1
    obtain ⟨p1, u1, R1⟩ := Q1
    have g1 := fun d => s_failed (d := d) R1
    rw [show lwTw T n (2000 + j) S s = .inr F from by simp only [lwTw, lwTw1, lwTw2, h1]]
    refine ⟨σ1, ?_, ⟨p1, u1, R1⟩, S1_SL F1⟩
    simp (disch := first | omega | exact b2_01 _ | exact ii0_01 | exact ii1_01 | (simp (disch := omega) only [lit_ii, dr_some, Option.isSome_some, gR_wI, Nat.add_mul_mod_self_left, Nat.reduceMod, ak20, ak21, ak22, ak23, ak24, ak25, ak26, ak27, ak28, ak29, ak30, ak31, ak32, ak33, ak34, ak35, ak36, an20, an21, an22, an23, an24, an25, an26, an27, an28, an29, an30, an31, an32, an33, an34, an35, an36, an37, an38, ne_eq, inR_ii, decide_eq_true_eq, lit_ii, of_ii, ii_eq, ii_lt, ii_le]; first | done | omega)) only [lit_ii, e_Law_readChoice, b_Law_readChoice_0, b_Law_readChoice_6, b_Law_readChoice_15, b_Law_readChoice_16, b_Law_readChoice_22, b_Law_readChoice_26, b_Law_readChoice_29, b_Law_readChoice_30, b_Law_readChoice_38, b_Law_readChoice_44, b_Law_readChoice_48, b_Law_readChoice_51, b_Law_readChoice_52, b_Law_readChoice_60, b_Law_readChoice_66, b_Law_readChoice_75, e1, g1, Option.isSome_some, dr_some, Option.isSome_some, gR_wI, Nat.add_mul_mod_self_left, Nat.reduceMod, ak20, ak21, ak22, ak23, ak24, ak25, ak26, ak27, ak28, ak29, ak30, ak31, ak32, ak33, ak34, ak35, ak36, an20, an21, an22, an23, an24, an25, an26, an27, an28, an29, an30, an31, an32, an33, an34, an35, an36, an37, an38, ↓reduceIte, bk_int, bk_void, bk_long, bkN_int, bkN_void, bkN_long, Nat.reduceAdd, Nat.reduceMul, Nat.reduceSub, Nat.reduceLT, Nat.reduceLeDiff, if_true, if_false, not_true_eq_false, not_false_eq_true, Bool.true_eq_false, Bool.false_eq_true, b2_eq0, Nat.add_zero, Nat.zero_add, Nat.not_lt_zero, Nat.zero_le, ite_true, ite_false, decide_true, decide_false, lit_ii, of_ii, le_T, le_F, lt_T, lt_F, eq_T, eq_F, ii_add, ii_mul, ii_nat, ii_le, ii_lt, ii_eq, inR_ii, ii_add0]
  | inl s1 =>
    rw [h1] at Q1 f1
    obtain ⟨⟨u1, R1⟩, C1⟩ := Q1
    obtain ⟨a1, a2, a3⟩ := f1
    have x1 := congrArg Prod.fst (sgnR_k h1).1
    have g1 := fun d => s_failed (d := d) R1
    obtain ⟨σ2, e2, Q2, F2⟩ := hS σ1 s1 u1 R1 C1 (by omega)
    have F02 := (S1_SL (l := l) F1).tr F2
    have f2 := hF s1 a2
    cases h2 : S s1 with
    | inr F =>
      rw [h2] at Q2
      obtain ⟨p2, u2, R2⟩ := Q2
      obtain ⟨σ3, e3, R3, F3⟩ := s_needSign (d := d + 16) R2 (c := 44) (by omega)
      have g3 := fun d => s_failed (d := d) R3
      rw [show lwTw T n (2000 + j) S s = .inr F from by simp only [lwTw, lwTw1, lwTw2, h1, h2]]
      refine ⟨σ3, ?_, ⟨_, _, R3⟩, F02.tr (S1_SL F3)⟩
      have bs : (blm (some F) (sgF T n p2 44)).isSome = true := rfl
      simp (disch := first | omega | exact b2_01 _ | exact ii0_01 | exact ii1_01 | (simp (disch := omega) only [lit_ii, dr_some, Option.isSome_some, gR_wI, Nat.add_mul_mod_self_left, Nat.reduceMod, ak20, ak21, ak22, ak23, ak24, ak25, ak26, ak27, ak28, ak29, ak30, ak31, ak32, ak33, ak34, ak35, ak36, an20, an21, an22, an23, an24, an25, an26, an27, an28, an29, an30, an31, an32, an33, an34, an35, an36, an37, an38, ne_eq, inR_ii, decide_eq_true_eq, lit_ii, of_ii, ii_eq, ii_lt, ii_le]; first | done | omega)) only [lit_ii, e_Law_readChoice, b_Law_readChoice_0, b_Law_readChoice_6, b_Law_readChoice_15, b_Law_readChoice_16, b_Law_readChoice_22, b_Law_readChoice_26, b_Law_readChoice_29, b_Law_readChoice_30, b_Law_readChoice_38, b_Law_readChoice_44, b_Law_readChoice_48, b_Law_readChoice_51, b_Law_readChoice_52, b_Law_readChoice_60, b_Law_readChoice_66, b_Law_readChoice_75, e1, g1, e2, e3, g3, Option.isSome_none, bs, dr_some, Option.isSome_some, gR_wI, Nat.add_mul_mod_self_left, Nat.reduceMod, ak20, ak21, ak22, ak23, ak24, ak25, ak26, ak27, ak28, ak29, ak30, ak31, ak32, ak33, ak34, ak35, ak36, an20, an21, an22, an23, an24, an25, an26, an27, an28, an29, an30, an31, an32, an33, an34, an35, an36, an37, an38, ↓reduceIte, bk_int, bk_void, bk_long, bkN_int, bkN_void, bkN_long, Nat.reduceAdd, Nat.reduceMul, Nat.reduceSub, Nat.reduceLT, Nat.reduceLeDiff, if_true, if_false, not_true_eq_false, not_false_eq_true, Bool.true_eq_false, Bool.false_eq_true, b2_eq0, Nat.add_zero, Nat.zero_add, Nat.not_lt_zero, Nat.zero_le, ite_true, ite_false, decide_true, decide_false, lit_ii, of_ii, le_T, le_F, lt_T, lt_F, eq_T, eq_F, ii_add, ii_mul, ii_nat, ii_le, ii_lt, ii_eq, inR_ii, ii_add0]
    | inl s2 =>
      rw [h2] at Q2 f2
      obtain ⟨⟨u2, R2⟩, C2⟩ := Q2
      obtain ⟨b1, b2, b3⟩ := f2
      obtain ⟨σ3, e3, Q3, F3⟩ := s_sgn (d := d + 16) (c := 44) R2 C2 (by omega)
      have F03 := F02.tr (S1_SL (l := l) F3)
      have f3 := sgnR_fwd (T := T) (c := 44) s2 b2
      cases h3 : sgnR T n 44 s2 with
      | inr F =>
        rw [h3] at Q3
        obtain ⟨p3, u3, R3⟩ := Q3
        have g3 := fun d => s_failed (d := d) R3
        rw [show lwTw T n (2000 + j) S s = .inr F from by simp only [lwTw, lwTw1, lwTw2, h1, h2, h3]]
        refine ⟨σ3, ?_, ⟨_, _, R3⟩, F03⟩
        simp (disch := first | omega | exact b2_01 _ | exact ii0_01 | exact ii1_01 | (simp (disch := omega) only [lit_ii, dr_some, Option.isSome_some, gR_wI, Nat.add_mul_mod_self_left, Nat.reduceMod, ak20, ak21, ak22, ak23, ak24, ak25, ak26, ak27, ak28, ak29, ak30, ak31, ak32, ak33, ak34, ak35, ak36, an20, an21, an22, an23, an24, an25, an26, an27, an28, an29, an30, an31, an32, an33, an34, an35, an36, an37, an38, ne_eq, inR_ii, decide_eq_true_eq, lit_ii, of_ii, ii_eq, ii_lt, ii_le]; first | done | omega)) only [lit_ii, e_Law_readChoice, b_Law_readChoice_0, b_Law_readChoice_6, b_Law_readChoice_15, b_Law_readChoice_16, b_Law_readChoice_22, b_Law_readChoice_26, b_Law_readChoice_29, b_Law_readChoice_30, b_Law_readChoice_38, b_Law_readChoice_44, b_Law_readChoice_48, b_Law_readChoice_51, b_Law_readChoice_52, b_Law_readChoice_60, b_Law_readChoice_66, b_Law_readChoice_75, e1, g1, e2, e3, g3, Option.isSome_none, Option.isSome_some, dr_some, Option.isSome_some, gR_wI, Nat.add_mul_mod_self_left, Nat.reduceMod, ak20, ak21, ak22, ak23, ak24, ak25, ak26, ak27, ak28, ak29, ak30, ak31, ak32, ak33, ak34, ak35, ak36, an20, an21, an22, an23, an24, an25, an26, an27, an28, an29, an30, an31, an32, an33, an34, an35, an36, an37, an38, ↓reduceIte, bk_int, bk_void, bk_long, bkN_int, bkN_void, bkN_long, Nat.reduceAdd, Nat.reduceMul, Nat.reduceSub, Nat.reduceLT, Nat.reduceLeDiff, if_true, if_false, not_true_eq_false, not_false_eq_true, Bool.true_eq_false, Bool.false_eq_true, b2_eq0, Nat.add_zero, Nat.zero_add, Nat.not_lt_zero, Nat.zero_le, ite_true, ite_false, decide_true, decide_false, lit_ii, of_ii, le_T, le_F, lt_T, lt_F, eq_T, eq_F, ii_add, ii_mul, ii_nat, ii_le, ii_lt, ii_eq, inR_ii, ii_add0]
      | inl s3 =>
        rw [h3] at Q3 f3
        obtain ⟨⟨u3, R3⟩, C3⟩ := Q3
        obtain ⟨c1, c2, c3⟩ := f3
        have x3 := congrArg Prod.fst (sgnR_k h3).1
        have g3 := fun d => s_failed (d := d) R3
        obtain ⟨σ4, e4, Q4, F4⟩ := hS σ3 s3 u3 R3 C3 (by omega)
        have F04 := F03.tr F4
        have f4 := hF s3 c2
        cases h4 : S s3 with
        | inr F =>
          rw [h4] at Q4
          obtain ⟨p4, u4, R4⟩ := Q4
          obtain ⟨σ5, e5, R5, F5⟩ := s_needSign (d := d + 16) R4 (c := 93) (by omega)
          have r0 : gR σ5 (4 + 64 * l) 0 = some (29 + 64 * (l + 1)) := (F5.R _ _).trans ((F4.R _ _).trans C3.1)
          obtain ⟨σ6, e6, F6⟩ := s_putCodex (d := d + 19) (x := ii (2000 + j)) r0
          rw [show lwTw T n (2000 + j) S s = .inr F from by simp only [lwTw, lwTw1, lwTw2, h1, h2, h3, h4]]
          refine ⟨σ6, ?_, ⟨_, _, R5.fs F6 (by omega) (by omega)⟩, (F04.tr (S1_SL F5)).tr (F6.mono (fun a z => Or.inr z))⟩
          simp (disch := first | omega | exact b2_01 _ | exact ii0_01 | exact ii1_01 | (simp (disch := omega) only [lit_ii, dr_some, Option.isSome_some, gR_wI, Nat.add_mul_mod_self_left, Nat.reduceMod, ak20, ak21, ak22, ak23, ak24, ak25, ak26, ak27, ak28, ak29, ak30, ak31, ak32, ak33, ak34, ak35, ak36, an20, an21, an22, an23, an24, an25, an26, an27, an28, an29, an30, an31, an32, an33, an34, an35, an36, an37, an38, ne_eq, inR_ii, decide_eq_true_eq, lit_ii, of_ii, ii_eq, ii_lt, ii_le]; first | done | omega)) only [lit_ii, e_Law_readChoice, b_Law_readChoice_0, b_Law_readChoice_6, b_Law_readChoice_15, b_Law_readChoice_16, b_Law_readChoice_22, b_Law_readChoice_26, b_Law_readChoice_29, b_Law_readChoice_30, b_Law_readChoice_38, b_Law_readChoice_44, b_Law_readChoice_48, b_Law_readChoice_51, b_Law_readChoice_52, b_Law_readChoice_60, b_Law_readChoice_66, b_Law_readChoice_75, e1, g1, e2, e3, g3, e4, e5, e6, Option.isSome_none, Option.isSome_some, dr_some, Option.isSome_some, gR_wI, Nat.add_mul_mod_self_left, Nat.reduceMod, ak20, ak21, ak22, ak23, ak24, ak25, ak26, ak27, ak28, ak29, ak30, ak31, ak32, ak33, ak34, ak35, ak36, an20, an21, an22, an23, an24, an25, an26, an27, an28, an29, an30, an31, an32, an33, an34, an35, an36, an37, an38, ↓reduceIte, bk_int, bk_void, bk_long, bkN_int, bkN_void, bkN_long, Nat.reduceAdd, Nat.reduceMul, Nat.reduceSub, Nat.reduceLT, Nat.reduceLeDiff, if_true, if_false, not_true_eq_false, not_false_eq_true, Bool.true_eq_false, Bool.false_eq_true, b2_eq0, Nat.add_zero, Nat.zero_add, Nat.not_lt_zero, Nat.zero_le, ite_true, ite_false, decide_true, decide_false, lit_ii, of_ii, le_T, le_F, lt_T, lt_F, eq_T, eq_F, ii_add, ii_mul, ii_nat, ii_le, ii_lt, ii_eq, inR_ii, ii_add0]
        | inl s4 =>
          rw [h4] at Q4 f4
          obtain ⟨⟨u4, R4⟩, C4⟩ := Q4
          obtain ⟨d1, d2, d3⟩ := f4
          obtain ⟨σ5, e5, Q5, F5⟩ := s_sgn (d := d + 16) (c := 93) R4 C4 (by omega)
          have F05 := F04.tr (S1_SL (l := l) F5)
          have f5 := sgnR_fwd (T := T) (c := 93) s4 d2
          cases h5 : sgnR T n 93 s4 with
          | inr F =>
            rw [h5] at Q5
            obtain ⟨p5, u5, R5⟩ := Q5
            have r0 : gR σ5 (4 + 64 * l) 0 = some (29 + 64 * (l + 1)) := (F5.R _ _).trans ((F4.R _ _).trans C3.1)
            obtain ⟨σ6, e6, F6⟩ := s_putCodex (d := d + 19) (x := ii (2000 + j)) r0
            rw [show lwTw T n (2000 + j) S s = .inr F from by simp only [lwTw, lwTw1, lwTw2, h1, h2, h3, h4, h5]]
            refine ⟨σ6, ?_, ⟨_, _, R5.fs F6 (by omega) (by omega)⟩, F05.tr (F6.mono (fun a z => Or.inr z))⟩
            simp (disch := first | omega | exact b2_01 _ | exact ii0_01 | exact ii1_01 | (simp (disch := omega) only [lit_ii, dr_some, Option.isSome_some, gR_wI, Nat.add_mul_mod_self_left, Nat.reduceMod, ak20, ak21, ak22, ak23, ak24, ak25, ak26, ak27, ak28, ak29, ak30, ak31, ak32, ak33, ak34, ak35, ak36, an20, an21, an22, an23, an24, an25, an26, an27, an28, an29, an30, an31, an32, an33, an34, an35, an36, an37, an38, ne_eq, inR_ii, decide_eq_true_eq, lit_ii, of_ii, ii_eq, ii_lt, ii_le]; first | done | omega)) only [lit_ii, e_Law_readChoice, b_Law_readChoice_0, b_Law_readChoice_6, b_Law_readChoice_15, b_Law_readChoice_16, b_Law_readChoice_22, b_Law_readChoice_26, b_Law_readChoice_29, b_Law_readChoice_30, b_Law_readChoice_38, b_Law_readChoice_44, b_Law_readChoice_48, b_Law_readChoice_51, b_Law_readChoice_52, b_Law_readChoice_60, b_Law_readChoice_66, b_Law_readChoice_75, e1, g1, e2, e3, g3, e4, e5, e6, Option.isSome_none, Option.isSome_some, dr_some, Option.isSome_some, gR_wI, Nat.add_mul_mod_self_left, Nat.reduceMod, ak20, ak21, ak22, ak23, ak24, ak25, ak26, ak27, ak28, ak29, ak30, ak31, ak32, ak33, ak34, ak35, ak36, an20, an21, an22, an23, an24, an25, an26, an27, an28, an29, an30, an31, an32, an33, an34, an35, an36, an37, an38, ↓reduceIte, bk_int, bk_void, bk_long, bkN_int, bkN_void, bkN_long, Nat.reduceAdd, Nat.reduceMul, Nat.reduceSub, Nat.reduceLT, Nat.reduceLeDiff, if_true, if_false, not_true_eq_false, not_false_eq_true, Bool.true_eq_false, Bool.false_eq_true, b2_eq0, Nat.add_zero, Nat.zero_add, Nat.not_lt_zero, Nat.zero_le, ite_true, ite_false, decide_true, decide_false, lit_ii, of_ii, le_T, le_F, lt_T, lt_F, eq_T, eq_F, ii_add, ii_mul, ii_nat, ii_le, ii_lt, ii_eq, inR_ii, ii_add0]
          | inl s5 =>
            rw [h5] at Q5 f5
            obtain ⟨⟨u5, R5⟩, C5⟩ := Q5
            obtain ⟨i1, i2, i3⟩ := f5
            obtain ⟨σ6, e6, C6, F6⟩ := s_putCode (d := d + 19) (v := 2000 + j) C5 (by omega)
            rw [show lwTw T n (2000 + j) S s = .inl (emt s5 (2000 + j)) from by simp only [lwTw, lwTw1, lwTw2, h1, h2, h3, h4, h5]]
            refine ⟨σ6, ?_, ⟨⟨u5, R5.fs F6 (by omega) (by omega)⟩, C6⟩, F05.tr (F6.mono (fun a z => Or.inr z))⟩
            simp (disch := first | omega | exact b2_01 _ | exact ii0_01 | exact ii1_01 | (simp (disch := omega) only [lit_ii, dr_some, Option.isSome_some, gR_wI, Nat.add_mul_mod_self_left, Nat.reduceMod, ak20, ak21, ak22, ak23, ak24, ak25, ak26, ak27, ak28, ak29, ak30, ak31, ak32, ak33, ak34, ak35, ak36, an20, an21, an22, an23, an24, an25, an26, an27, an28, an29, an30, an31, an32, an33, an34, an35, an36, an37, an38, ne_eq, inR_ii, decide_eq_true_eq, lit_ii, of_ii, ii_eq, ii_lt, ii_le]; first | done | omega)) only [lit_ii, e_Law_readChoice, b_Law_readChoice_0, b_Law_readChoice_6, b_Law_readChoice_15, b_Law_readChoice_16, b_Law_readChoice_22, b_Law_readChoice_26, b_Law_readChoice_29, b_Law_readChoice_30, b_Law_readChoice_38, b_Law_readChoice_44, b_Law_readChoice_48, b_Law_readChoice_51, b_Law_readChoice_52, b_Law_readChoice_60, b_Law_readChoice_66, b_Law_readChoice_75, e1, g1, e2, e3, g3, e4, e5, e6, Option.isSome_none, Option.isSome_some, dr_some, Option.isSome_some, gR_wI, Nat.add_mul_mod_self_left, Nat.reduceMod, ak20, ak21, ak22, ak23, ak24, ak25, ak26, ak27, ak28, ak29, ak30, ak31, ak32, ak33, ak34, ak35, ak36, an20, an21, an22, an23, an24, an25, an26, an27, an28, an29, an30, an31, an32, an33, an34, an35, an36, an37, an38, ↓reduceIte, bk_int, bk_void, bk_long, bkN_int, bkN_void, bkN_long, Nat.reduceAdd, Nat.reduceMul, Nat.reduceSub, Nat.reduceLT, Nat.reduceLeDiff, if_true, if_false, not_true_eq_false, not_false_eq_true, Bool.true_eq_false, Bool.false_eq_true, b2_eq0, Nat.add_zero, Nat.zero_add, Nat.not_lt_zero, Nat.zero_le, ite_true, ite_false, decide_true, decide_false, lit_ii, of_ii, le_T, le_F, lt_T, lt_F, eq_T, eq_F, ii_add, ii_mul, ii_nat, ii_le, ii_lt, ii_eq, inR_ii, ii_add0]
theorem cl_unit {T : Nat → Nat} {n l o r e : Nat} {S : LwT → PR LwT} (hor : o + r = 6) (hS : r = 0 ∨ (UC T n l m_Law_readSum (o + 1) e S ∧ ∀ s : LwT, s.1 ≤ n → fwd n s (S s))) (he : 20 ≤ e) (hn : n ≤ 150) : UC T n l m_Law_readUnit o (e + 2) (lwU T n S r) := by
  intro σ s u R C hk
  have hp := R.2.2.2.2.2.2.1
  have q1 := sk_le (T := T) hp
  have q2 := sk_ge (T := T) hp
  have qq := sk_sk (T := T) hp
  obtain ⟨d, rfl⟩ : ∃ d, e = d + 20 := ⟨e - 20, by omega⟩
  obtain ⟨σ1, e1, R1, F1⟩ := s_peek (d := d + 19) R
  have C1 := C.fs F1 (by unfold S1; omega) (by unfold S1; omega)
  unfold bt at e1
  unfold lwU
  by_cases z1 : sk T n s.1 < n ∧ T (sk T n s.1) = 40
  · rw [if_pos z1]
    rw [if_pos z1.1, z1.2] at e1
    by_cases hr : r = 0
    · rw [if_pos hr]
      have ho : o = 6 := by omega
      subst ho
      obtain ⟨σ2, e2, Q2, F2⟩ := cl_brk0 (l := l) (k := 0) (c := fun _ => 0) he R1
      refine ⟨σ2, ?_, Q2, (S1_SL F1).tr F2⟩
      simp (disch := first | omega | exact b2_01 _ | exact ii0_01 | exact ii1_01 | (simp (disch := omega) only [lit_ii, dr_some, Option.isSome_some, gR_wI, Nat.add_mul_mod_self_left, Nat.reduceMod, ak20, ak21, ak22, ak23, ak24, ak25, ak26, ak27, ak28, ak29, ak30, ak31, ak32, ak33, ak34, ak35, ak36, an20, an21, an22, an23, an24, an25, an26, an27, an28, an29, an30, an31, an32, an33, an34, an35, an36, an37, an38, ne_eq, inR_ii, decide_eq_true_eq, lit_ii, of_ii, ii_eq, ii_lt, ii_le]; first | done | omega)) only [lit_ii, e_Law_readUnit, b_Law_readUnit_0, b_Law_readUnit_4, b_Law_readUnit_11, b_Law_readUnit_17, b_Law_readUnit_20, b_Law_readUnit_24, b_Law_readUnit_27, b_Law_readUnit_36, b_Law_readUnit_39, b_Law_readUnit_42, b_Law_readUnit_48, b_Law_readUnit_57, b_Law_readUnit_67, b_Law_readUnit_71, b_Law_readUnit_72, b_Law_readUnit_75, b_Law_readUnit_78, b_Law_readUnit_84, b_Law_readUnit_94, e1, e2, dr_some, Option.isSome_some, gR_wI, Nat.add_mul_mod_self_left, Nat.reduceMod, ak20, ak21, ak22, ak23, ak24, ak25, ak26, ak27, ak28, ak29, ak30, ak31, ak32, ak33, ak34, ak35, ak36, an20, an21, an22, an23, an24, an25, an26, an27, an28, an29, an30, an31, an32, an33, an34, an35, an36, an37, an38, ↓reduceIte, bk_int, bk_void, bk_long, bkN_int, bkN_void, bkN_long, Nat.reduceAdd, Nat.reduceMul, Nat.reduceSub, Nat.reduceLT, Nat.reduceLeDiff, if_true, if_false, not_true_eq_false, not_false_eq_true, Bool.true_eq_false, Bool.false_eq_true, b2_eq0, Nat.add_zero, Nat.zero_add, Nat.not_lt_zero, Nat.zero_le, ite_true, ite_false, decide_true, decide_false, lit_ii, of_ii, le_T, le_F, lt_T, lt_F, eq_T, eq_F, ii_add, ii_mul, ii_nat, ii_le, ii_lt, ii_eq, inR_ii, ii_add0]
    · rw [if_neg hr]
      obtain ⟨hS1, hS2⟩ := hS.resolve_left hr
      obtain ⟨σ2, e2, Q2, F2⟩ := cl_brk hS1 he (by omega) R1 C1 (by omega) z1.1 z1.2 qq
      refine ⟨σ2, ?_, Q2, (S1_SL F1).tr F2⟩
      simp (disch := first | omega | exact b2_01 _ | exact ii0_01 | exact ii1_01 | (simp (disch := omega) only [lit_ii, dr_some, Option.isSome_some, gR_wI, Nat.add_mul_mod_self_left, Nat.reduceMod, ak20, ak21, ak22, ak23, ak24, ak25, ak26, ak27, ak28, ak29, ak30, ak31, ak32, ak33, ak34, ak35, ak36, an20, an21, an22, an23, an24, an25, an26, an27, an28, an29, an30, an31, an32, an33, an34, an35, an36, an37, an38, ne_eq, inR_ii, decide_eq_true_eq, lit_ii, of_ii, ii_eq, ii_lt, ii_le]; first | done | omega)) only [lit_ii, e_Law_readUnit, b_Law_readUnit_0, b_Law_readUnit_4, b_Law_readUnit_11, b_Law_readUnit_17, b_Law_readUnit_20, b_Law_readUnit_24, b_Law_readUnit_27, b_Law_readUnit_36, b_Law_readUnit_39, b_Law_readUnit_42, b_Law_readUnit_48, b_Law_readUnit_57, b_Law_readUnit_67, b_Law_readUnit_71, b_Law_readUnit_72, b_Law_readUnit_75, b_Law_readUnit_78, b_Law_readUnit_84, b_Law_readUnit_94, e1, e2, dr_some, Option.isSome_some, gR_wI, Nat.add_mul_mod_self_left, Nat.reduceMod, ak20, ak21, ak22, ak23, ak24, ak25, ak26, ak27, ak28, ak29, ak30, ak31, ak32, ak33, ak34, ak35, ak36, an20, an21, an22, an23, an24, an25, an26, an27, an28, an29, an30, an31, an32, an33, an34, an35, an36, an37, an38, ↓reduceIte, bk_int, bk_void, bk_long, bkN_int, bkN_void, bkN_long, Nat.reduceAdd, Nat.reduceMul, Nat.reduceSub, Nat.reduceLT, Nat.reduceLeDiff, if_true, if_false, not_true_eq_false, not_false_eq_true, Bool.true_eq_false, Bool.false_eq_true, b2_eq0, Nat.add_zero, Nat.zero_add, Nat.not_lt_zero, Nat.zero_le, ite_true, ite_false, decide_true, decide_false, lit_ii, of_ii, le_T, le_F, lt_T, lt_F, eq_T, eq_F, ii_add, ii_mul, ii_nat, ii_le, ii_lt, ii_eq, inR_ii, ii_add0]
  · rw [if_neg z1]
    by_cases z2 : sk T n s.1 < n ∧ isD T (sk T n s.1) = true
    · rw [if_pos z2]
      have zd := of_decide_eq_true z2.2
      have zn : ¬ T (sk T n s.1) = 40 := fun z => z1 ⟨z2.1, z⟩
      rw [if_pos z2.1] at e1
      have g1 := fun d σ => s_isDigit (d := d) (t := T (sk T n s.1)) (σ := σ) (by omega)
      obtain ⟨σ2, e2, R2, F2⟩ := s_readNumber (d := d + 18) R1 (a := 0) (hi := 1000) (by omega) (by omega)
      have pr : prI32 1000 = ii 999 := rfl
      rw [pr] at e2
      have en : nmF T n (sk T n s.1) 0 1000 = nmF T n s.1 0 1000 ∧ nmP T n (sk T n s.1) = nmP T n s.1 ∧ nmV T n (sk T n s.1) = nmV T n s.1 := by
        unfold nmF nmP nmV
        rw [qq]
        exact ⟨rfl, rfl, rfl⟩
      rw [en.1, en.2.1] at R2
      rw [en.2.2] at e2
      have C2 := C1.fs F2 (by unfold S1; omega) (by unfold S1; omega)
      have F02 := (S1_SL (l := l) F1).tr (S1_SL (l := l) F2)
      have tt : (48 ≤ T (sk T n s.1) ∧ T (sk T n s.1) ≤ 57) = True := eq_true zd
      have tb : T (sk T n s.1) < 256 := by omega
      cases hf : nmF T n s.1 0 1000 with
      | none =>
        rw [hf] at R2
        have fw := lwU_fwd (T := T) (S := S) (r := 0) (Or.inl rfl) s hp
        unfold lwU at fw
        rw [if_neg z1, if_pos z2, hf] at fw
        obtain ⟨y1, y2, y3⟩ := fw
        have y1' : s.1 < nmP T n s.1 := y1
        have hv : nmV T n s.1 < 1000 := by
          unfold nmF at hf
          split at hf
          · cases hf
          · split at hf
            · rename_i hh; exact hh.2
            · cases hf
        obtain ⟨σ3, e3, C3, F3⟩ := s_putCode (d := d + 20) (v := nmV T n s.1) C2 (by have : nmP T n s.1 ≤ n := y2; omega)
        have mn : min 100000 (nmV T n s.1) = nmV T n s.1 := by omega
        rw [mn] at e2
        refine ⟨σ3, ?_, ⟨⟨u, R2.fs F3 (by omega) (by omega)⟩, C3⟩, F02.tr (F3.mono (fun a z => Or.inr z))⟩
        simp (disch := first | omega | exact b2_01 _ | exact ii0_01 | exact ii1_01 | (simp (disch := omega) only [lit_ii, dr_some, Option.isSome_some, gR_wI, Nat.add_mul_mod_self_left, Nat.reduceMod, ak20, ak21, ak22, ak23, ak24, ak25, ak26, ak27, ak28, ak29, ak30, ak31, ak32, ak33, ak34, ak35, ak36, an20, an21, an22, an23, an24, an25, an26, an27, an28, an29, an30, an31, an32, an33, an34, an35, an36, an37, an38, ne_eq, inR_ii, decide_eq_true_eq, lit_ii, of_ii, ii_eq, ii_lt, ii_le]; first | done | omega)) only [lit_ii, e_Law_readUnit, b_Law_readUnit_0, b_Law_readUnit_4, b_Law_readUnit_11, b_Law_readUnit_17, b_Law_readUnit_20, b_Law_readUnit_24, b_Law_readUnit_27, b_Law_readUnit_36, b_Law_readUnit_39, b_Law_readUnit_42, b_Law_readUnit_48, b_Law_readUnit_57, b_Law_readUnit_67, b_Law_readUnit_71, b_Law_readUnit_72, b_Law_readUnit_75, b_Law_readUnit_78, b_Law_readUnit_84, b_Law_readUnit_94, e1, zn, g1, tt, and_self, e2, e3, dr_some, Option.isSome_some, gR_wI, Nat.add_mul_mod_self_left, Nat.reduceMod, ak20, ak21, ak22, ak23, ak24, ak25, ak26, ak27, ak28, ak29, ak30, ak31, ak32, ak33, ak34, ak35, ak36, an20, an21, an22, an23, an24, an25, an26, an27, an28, an29, an30, an31, an32, an33, an34, an35, an36, an37, an38, ↓reduceIte, bk_int, bk_void, bk_long, bkN_int, bkN_void, bkN_long, Nat.reduceAdd, Nat.reduceMul, Nat.reduceSub, Nat.reduceLT, Nat.reduceLeDiff, if_true, if_false, not_true_eq_false, not_false_eq_true, Bool.true_eq_false, Bool.false_eq_true, b2_eq0, Nat.add_zero, Nat.zero_add, Nat.not_lt_zero, Nat.zero_le, ite_true, ite_false, decide_true, decide_false, lit_ii, of_ii, le_T, le_F, lt_T, lt_F, eq_T, eq_F, ii_add, ii_mul, ii_nat, ii_le, ii_lt, ii_eq, inR_ii, ii_add0]
      | some F =>
        rw [hf] at R2
        obtain ⟨σ3, e3, F3⟩ := s_putCodex (d := d + 20) (x := ii (min 100000 (nmV T n s.1))) C2.1
        refine ⟨σ3, ?_, ⟨_, _, R2.fs F3 (by omega) (by omega)⟩, F02.tr (F3.mono (fun a z => Or.inr z))⟩
        simp (disch := first | omega | exact b2_01 _ | exact ii0_01 | exact ii1_01 | (simp (disch := omega) only [lit_ii, dr_some, Option.isSome_some, gR_wI, Nat.add_mul_mod_self_left, Nat.reduceMod, ak20, ak21, ak22, ak23, ak24, ak25, ak26, ak27, ak28, ak29, ak30, ak31, ak32, ak33, ak34, ak35, ak36, an20, an21, an22, an23, an24, an25, an26, an27, an28, an29, an30, an31, an32, an33, an34, an35, an36, an37, an38, ne_eq, inR_ii, decide_eq_true_eq, lit_ii, of_ii, ii_eq, ii_lt, ii_le]; first | done | omega)) only [lit_ii, e_Law_readUnit, b_Law_readUnit_0, b_Law_readUnit_4, b_Law_readUnit_11, b_Law_readUnit_17, b_Law_readUnit_20, b_Law_readUnit_24, b_Law_readUnit_27, b_Law_readUnit_36, b_Law_readUnit_39, b_Law_readUnit_42, b_Law_readUnit_48, b_Law_readUnit_57, b_Law_readUnit_67, b_Law_readUnit_71, b_Law_readUnit_72, b_Law_readUnit_75, b_Law_readUnit_78, b_Law_readUnit_84, b_Law_readUnit_94, e1, zn, g1, tt, and_self, e2, e3, dr_some, Option.isSome_some, gR_wI, Nat.add_mul_mod_self_left, Nat.reduceMod, ak20, ak21, ak22, ak23, ak24, ak25, ak26, ak27, ak28, ak29, ak30, ak31, ak32, ak33, ak34, ak35, ak36, an20, an21, an22, an23, an24, an25, an26, an27, an28, an29, an30, an31, an32, an33, an34, an35, an36, an37, an38, ↓reduceIte, bk_int, bk_void, bk_long, bkN_int, bkN_void, bkN_long, Nat.reduceAdd, Nat.reduceMul, Nat.reduceSub, Nat.reduceLT, Nat.reduceLeDiff, if_true, if_false, not_true_eq_false, not_false_eq_true, Bool.true_eq_false, Bool.false_eq_true, b2_eq0, Nat.add_zero, Nat.zero_add, Nat.not_lt_zero, Nat.zero_le, ite_true, ite_false, decide_true, decide_false, lit_ii, of_ii, le_T, le_F, lt_T, lt_F, eq_T, eq_F, ii_add, ii_mul, ii_nat, ii_le, ii_lt, ii_eq, inR_ii, ii_add0]
    · rw [if_neg z2]
      obtain ⟨σ2, e2, R2, F2⟩ := s_readWord (d := d + 14) R1 (i := 2) (by omega)
      have en : wdX 2 T n (sk T n s.1) = wdX 2 T n s.1 ∧ wdP T n (sk T n s.1) = wdP T n s.1 ∧ wdF 2 T n (sk T n s.1) = wdF 2 T n s.1 := by
        unfold wdX wdP wdF
        rw [qq]
        exact ⟨rfl, rfl, rfl⟩
      rw [en.2.1, en.2.2, qq] at R2
      rw [en.1] at e2
      simp only [Nat.reduceMul, Nat.reduceAdd] at e2
      have C2 := C1.fs F2 (by unfold S1; omega) (by unfold S1; omega)
      have F02 := (S1_SL (l := l) F1).tr (S1_SL (l := l) F2)
      obtain ⟨l3, st⟩ : ∃ l3, callF (d + 20 + 2) m_Law_readUnit [.ref (4 + 64 * l), .ref 71, .int (ii o)] σ = runF (callF (d + 21)) (d + 21) m_Law_readUnit (48, [some (.ref (4 + 64 * l)), some (.ref 71), some (.int (ii o)), l3, none], [.int (oi (wdX 2 T n s.1))], σ2) := by
        by_cases z3 : sk T n s.1 < n
        · rw [if_pos z3] at e1
          have ht := (R1.2.2.2.2.2.2.2.2.2.1 (sk T n s.1) (by omega)).2
          have zn : ¬ T (sk T n s.1) = 40 := fun z => z1 ⟨z3, z⟩
          have zd : (48 ≤ T (sk T n s.1) ∧ T (sk T n s.1) ≤ 57) = False := eq_false (fun z => z2 ⟨z3, decide_eq_true z⟩)
          have g1 := fun d σ => s_isDigit (d := d) (t := T (sk T n s.1)) (σ := σ) ht
          simp only [zd] at g1
          exact ⟨some (.int (ii (T (sk T n s.1)))), by simp (disch := first | omega | exact b2_01 _ | exact ii0_01 | exact ii1_01 | (simp (disch := omega) only [lit_ii, dr_some, Option.isSome_some, gR_wI, Nat.add_mul_mod_self_left, Nat.reduceMod, ak20, ak21, ak22, ak23, ak24, ak25, ak26, ak27, ak28, ak29, ak30, ak31, ak32, ak33, ak34, ak35, ak36, an20, an21, an22, an23, an24, an25, an26, an27, an28, an29, an30, an31, an32, an33, an34, an35, an36, an37, an38, ne_eq, inR_ii, decide_eq_true_eq, lit_ii, of_ii, ii_eq, ii_lt, ii_le]; first | done | omega)) only [lit_ii, e_Law_readUnit, b_Law_readUnit_0, b_Law_readUnit_4, b_Law_readUnit_11, b_Law_readUnit_17, b_Law_readUnit_20, b_Law_readUnit_24, b_Law_readUnit_27, b_Law_readUnit_36, b_Law_readUnit_39, b_Law_readUnit_42, b_Law_readUnit_57, b_Law_readUnit_67, b_Law_readUnit_71, b_Law_readUnit_72, b_Law_readUnit_75, b_Law_readUnit_78, b_Law_readUnit_84, b_Law_readUnit_94, e1, zn, g1, e2, dr_some, Option.isSome_some, gR_wI, Nat.add_mul_mod_self_left, Nat.reduceMod, ak20, ak21, ak22, ak23, ak24, ak25, ak26, ak27, ak28, ak29, ak30, ak31, ak32, ak33, ak34, ak35, ak36, an20, an21, an22, an23, an24, an25, an26, an27, an28, an29, an30, an31, an32, an33, an34, an35, an36, an37, an38, ↓reduceIte, bk_int, bk_void, bk_long, bkN_int, bkN_void, bkN_long, Nat.reduceAdd, Nat.reduceMul, Nat.reduceSub, Nat.reduceLT, Nat.reduceLeDiff, if_true, if_false, not_true_eq_false, not_false_eq_true, Bool.true_eq_false, Bool.false_eq_true, b2_eq0, Nat.add_zero, Nat.zero_add, Nat.not_lt_zero, Nat.zero_le, ite_true, ite_false, decide_true, decide_false, lit_ii, of_ii, le_T, le_F, lt_T, lt_F, eq_T, eq_F, ii_add, ii_mul, ii_nat, ii_le, ii_lt, ii_eq, inR_ii, ii_add0]⟩
        · rw [if_neg z3] at e1
          have g1 : ∀ d σ, callF (d + 1) m_Reader_isDigit [.int (-ii 1)] σ = some (.inl (some (.int (b2 false))), σ) := fun d σ => by
            simp (disch := first | omega | exact b2_01 _ | exact ii0_01 | exact ii1_01 | (simp (disch := omega) only [lit_ii, dr_some, Option.isSome_some, gR_wI, Nat.add_mul_mod_self_left, Nat.reduceMod, ak20, ak21, ak22, ak23, ak24, ak25, ak26, ak27, ak28, ak29, ak30, ak31, ak32, ak33, ak34, ak35, ak36, an20, an21, an22, an23, an24, an25, an26, an27, an28, an29, an30, an31, an32, an33, an34, an35, an36, an37, an38, ne_eq, inR_ii, decide_eq_true_eq, lit_ii, of_ii, ii_eq, ii_lt, ii_le]; first | done | omega)) only [lit_ii, e_Reader_isDigit, b_Reader_isDigit_0, b_Reader_isDigit_6, b_Reader_isDigit_12, b_Reader_isDigit_16, b_Reader_isDigit_17, lt_ng, ng_lt, dr_some, Option.isSome_some, gR_wI, Nat.add_mul_mod_self_left, Nat.reduceMod, ak20, ak21, ak22, ak23, ak24, ak25, ak26, ak27, ak28, ak29, ak30, ak31, ak32, ak33, ak34, ak35, ak36, an20, an21, an22, an23, an24, an25, an26, an27, an28, an29, an30, an31, an32, an33, an34, an35, an36, an37, an38, ↓reduceIte, bk_int, bk_void, bk_long, bkN_int, bkN_void, bkN_long, Nat.reduceAdd, Nat.reduceMul, Nat.reduceSub, Nat.reduceLT, Nat.reduceLeDiff, if_true, if_false, not_true_eq_false, not_false_eq_true, Bool.true_eq_false, Bool.false_eq_true, b2_eq0, Nat.add_zero, Nat.zero_add, Nat.not_lt_zero, Nat.zero_le, ite_true, ite_false, decide_true, decide_false, lit_ii, of_ii, le_T, le_F, lt_T, lt_F, eq_T, eq_F, ii_add, ii_mul, ii_nat, ii_le, ii_lt, ii_eq, inR_ii, ii_add0]
            rfl
          exact ⟨some (.int (-ii 1)), by simp (disch := first | omega | exact b2_01 _ | exact ii0_01 | exact ii1_01 | (simp (disch := omega) only [lit_ii, dr_some, Option.isSome_some, gR_wI, Nat.add_mul_mod_self_left, Nat.reduceMod, ak20, ak21, ak22, ak23, ak24, ak25, ak26, ak27, ak28, ak29, ak30, ak31, ak32, ak33, ak34, ak35, ak36, an20, an21, an22, an23, an24, an25, an26, an27, an28, an29, an30, an31, an32, an33, an34, an35, an36, an37, an38, ne_eq, inR_ii, decide_eq_true_eq, lit_ii, of_ii, ii_eq, ii_lt, ii_le]; first | done | omega)) only [lit_ii, e_Law_readUnit, b_Law_readUnit_0, b_Law_readUnit_4, b_Law_readUnit_11, b_Law_readUnit_17, b_Law_readUnit_20, b_Law_readUnit_24, b_Law_readUnit_27, b_Law_readUnit_36, b_Law_readUnit_39, b_Law_readUnit_42, b_Law_readUnit_57, b_Law_readUnit_67, b_Law_readUnit_71, b_Law_readUnit_72, b_Law_readUnit_75, b_Law_readUnit_78, b_Law_readUnit_84, b_Law_readUnit_94, e1, ng_eq, g1, e2, dr_some, Option.isSome_some, gR_wI, Nat.add_mul_mod_self_left, Nat.reduceMod, ak20, ak21, ak22, ak23, ak24, ak25, ak26, ak27, ak28, ak29, ak30, ak31, ak32, ak33, ak34, ak35, ak36, an20, an21, an22, an23, an24, an25, an26, an27, an28, an29, an30, an31, an32, an33, an34, an35, an36, an37, an38, ↓reduceIte, bk_int, bk_void, bk_long, bkN_int, bkN_void, bkN_long, Nat.reduceAdd, Nat.reduceMul, Nat.reduceSub, Nat.reduceLT, Nat.reduceLeDiff, if_true, if_false, not_true_eq_false, not_false_eq_true, Bool.true_eq_false, Bool.false_eq_true, b2_eq0, Nat.add_zero, Nat.zero_add, Nat.not_lt_zero, Nat.zero_le, ite_true, ite_false, decide_true, decide_false, lit_ii, of_ii, le_T, le_F, lt_T, lt_F, eq_T, eq_F, ii_add, ii_mul, ii_nat, ii_le, ii_lt, ii_eq, inR_ii, ii_add0]⟩
      rw [st]
      cases hw : wdX 2 T n s.1 with
      | none =>
        have wf : wdF 2 T n s.1 = some (1, sk T n s.1) := by
          unfold wdF
          unfold wdX at hw
          rw [hw]
        rw [wf] at R2
        refine ⟨σ2, ?_, ⟨_, _, R2⟩, F02⟩
        have n9 : (-ii 1 < ii 9) = True := lt_ng (by omega)
        simp (disch := first | omega | exact b2_01 _ | exact ii0_01 | exact ii1_01 | (simp (disch := omega) only [lit_ii, dr_some, Option.isSome_some, gR_wI, Nat.add_mul_mod_self_left, Nat.reduceMod, ak20, ak21, ak22, ak23, ak24, ak25, ak26, ak27, ak28, ak29, ak30, ak31, ak32, ak33, ak34, ak35, ak36, an20, an21, an22, an23, an24, an25, an26, an27, an28, an29, an30, an31, an32, an33, an34, an35, an36, an37, an38, ne_eq, inR_ii, decide_eq_true_eq, lit_ii, of_ii, ii_eq, ii_lt, ii_le]; first | done | omega)) only [lit_ii, b_Law_readUnit_48, b_Law_readUnit_78, b_Law_readUnit_94, oi_none, n9, ng_ng_eq, dr_some, Option.isSome_some, gR_wI, Nat.add_mul_mod_self_left, Nat.reduceMod, ak20, ak21, ak22, ak23, ak24, ak25, ak26, ak27, ak28, ak29, ak30, ak31, ak32, ak33, ak34, ak35, ak36, an20, an21, an22, an23, an24, an25, an26, an27, an28, an29, an30, an31, an32, an33, an34, an35, an36, an37, an38, ↓reduceIte, bk_int, bk_void, bk_long, bkN_int, bkN_void, bkN_long, Nat.reduceAdd, Nat.reduceMul, Nat.reduceSub, Nat.reduceLT, Nat.reduceLeDiff, if_true, if_false, not_true_eq_false, not_false_eq_true, Bool.true_eq_false, Bool.false_eq_true, b2_eq0, Nat.add_zero, Nat.zero_add, Nat.not_lt_zero, Nat.zero_le, ite_true, ite_false, decide_true, decide_false, lit_ii, of_ii, le_T, le_F, lt_T, lt_F, eq_T, eq_F, ii_add, ii_mul, ii_nat, ii_le, ii_lt, ii_eq, inR_ii, ii_add0]
      | some x =>
        have wf : wdF 2 T n s.1 = none := by
          unfold wdF
          unfold wdX at hw
          rw [hw]
        rw [wf] at R2
        have g1 := wd2_fwd hw
        have g2 := wdP_le (T := T) hp
        simp only
        by_cases x9 : x < 9
        · rw [if_pos x9]
          obtain ⟨σ3, e3, C3, F3⟩ := s_putCode (d := d + 20) (v := 1000 + x) C2 (by omega)
          refine ⟨σ3, ?_, ⟨⟨_, R2.fs F3 (by omega) (by omega)⟩, C3⟩, F02.tr (F3.mono (fun a z => Or.inr z))⟩
          simp (disch := first | omega | exact b2_01 _ | exact ii0_01 | exact ii1_01 | (simp (disch := omega) only [lit_ii, dr_some, Option.isSome_some, gR_wI, Nat.add_mul_mod_self_left, Nat.reduceMod, ak20, ak21, ak22, ak23, ak24, ak25, ak26, ak27, ak28, ak29, ak30, ak31, ak32, ak33, ak34, ak35, ak36, an20, an21, an22, an23, an24, an25, an26, an27, an28, an29, an30, an31, an32, an33, an34, an35, an36, an37, an38, ne_eq, inR_ii, decide_eq_true_eq, lit_ii, of_ii, ii_eq, ii_lt, ii_le]; first | done | omega)) only [lit_ii, b_Law_readUnit_48, b_Law_readUnit_78, b_Law_readUnit_84, b_Law_readUnit_94, oi_some, eq_ng, e3, dr_some, Option.isSome_some, gR_wI, Nat.add_mul_mod_self_left, Nat.reduceMod, ak20, ak21, ak22, ak23, ak24, ak25, ak26, ak27, ak28, ak29, ak30, ak31, ak32, ak33, ak34, ak35, ak36, an20, an21, an22, an23, an24, an25, an26, an27, an28, an29, an30, an31, an32, an33, an34, an35, an36, an37, an38, ↓reduceIte, bk_int, bk_void, bk_long, bkN_int, bkN_void, bkN_long, Nat.reduceAdd, Nat.reduceMul, Nat.reduceSub, Nat.reduceLT, Nat.reduceLeDiff, if_true, if_false, not_true_eq_false, not_false_eq_true, Bool.true_eq_false, Bool.false_eq_true, b2_eq0, Nat.add_zero, Nat.zero_add, Nat.not_lt_zero, Nat.zero_le, ite_true, ite_false, decide_true, decide_false, lit_ii, of_ii, le_T, le_F, lt_T, lt_F, eq_T, eq_F, ii_add, ii_mul, ii_nat, ii_le, ii_lt, ii_eq, inR_ii, ii_add0]
        · rw [if_neg x9]
          by_cases hr : r = 0
          · rw [if_pos hr]
            have ho : o = 6 := by omega
            subst ho
            by_cases x10 : x = 9
            · obtain ⟨σ3, e3, Q3, F3⟩ := cl_cho0 (l := l) (j := 1) he R2
              refine ⟨σ3, ?_, Q3, F02.tr F3⟩
              simp (disch := first | omega | exact b2_01 _ | exact ii0_01 | exact ii1_01 | (simp (disch := omega) only [lit_ii, dr_some, Option.isSome_some, gR_wI, Nat.add_mul_mod_self_left, Nat.reduceMod, ak20, ak21, ak22, ak23, ak24, ak25, ak26, ak27, ak28, ak29, ak30, ak31, ak32, ak33, ak34, ak35, ak36, an20, an21, an22, an23, an24, an25, an26, an27, an28, an29, an30, an31, an32, an33, an34, an35, an36, an37, an38, ne_eq, inR_ii, decide_eq_true_eq, lit_ii, of_ii, ii_eq, ii_lt, ii_le]; first | done | omega)) only [lit_ii, b_Law_readUnit_48, b_Law_readUnit_57, b_Law_readUnit_67, b_Law_readUnit_71, b_Law_readUnit_72, b_Law_readUnit_75, b_Law_readUnit_94, oi_some, x10, e3, dr_some, Option.isSome_some, gR_wI, Nat.add_mul_mod_self_left, Nat.reduceMod, ak20, ak21, ak22, ak23, ak24, ak25, ak26, ak27, ak28, ak29, ak30, ak31, ak32, ak33, ak34, ak35, ak36, an20, an21, an22, an23, an24, an25, an26, an27, an28, an29, an30, an31, an32, an33, an34, an35, an36, an37, an38, ↓reduceIte, bk_int, bk_void, bk_long, bkN_int, bkN_void, bkN_long, Nat.reduceAdd, Nat.reduceMul, Nat.reduceSub, Nat.reduceLT, Nat.reduceLeDiff, if_true, if_false, not_true_eq_false, not_false_eq_true, Bool.true_eq_false, Bool.false_eq_true, b2_eq0, Nat.add_zero, Nat.zero_add, Nat.not_lt_zero, Nat.zero_le, ite_true, ite_false, decide_true, decide_false, lit_ii, of_ii, le_T, le_F, lt_T, lt_F, eq_T, eq_F, ii_add, ii_mul, ii_nat, ii_le, ii_lt, ii_eq, inR_ii, ii_add0]
            · obtain ⟨σ3, e3, Q3, F3⟩ := cl_cho0 (l := l) (j := 2) he R2
              refine ⟨σ3, ?_, Q3, F02.tr F3⟩
              simp (disch := first | omega | exact b2_01 _ | exact ii0_01 | exact ii1_01 | (simp (disch := omega) only [lit_ii, dr_some, Option.isSome_some, gR_wI, Nat.add_mul_mod_self_left, Nat.reduceMod, ak20, ak21, ak22, ak23, ak24, ak25, ak26, ak27, ak28, ak29, ak30, ak31, ak32, ak33, ak34, ak35, ak36, an20, an21, an22, an23, an24, an25, an26, an27, an28, an29, an30, an31, an32, an33, an34, an35, an36, an37, an38, ne_eq, inR_ii, decide_eq_true_eq, lit_ii, of_ii, ii_eq, ii_lt, ii_le]; first | done | omega)) only [lit_ii, b_Law_readUnit_48, b_Law_readUnit_57, b_Law_readUnit_67, b_Law_readUnit_71, b_Law_readUnit_72, b_Law_readUnit_75, b_Law_readUnit_94, oi_some, x10, e3, dr_some, Option.isSome_some, gR_wI, Nat.add_mul_mod_self_left, Nat.reduceMod, ak20, ak21, ak22, ak23, ak24, ak25, ak26, ak27, ak28, ak29, ak30, ak31, ak32, ak33, ak34, ak35, ak36, an20, an21, an22, an23, an24, an25, an26, an27, an28, an29, an30, an31, an32, an33, an34, an35, an36, an37, an38, ↓reduceIte, bk_int, bk_void, bk_long, bkN_int, bkN_void, bkN_long, Nat.reduceAdd, Nat.reduceMul, Nat.reduceSub, Nat.reduceLT, Nat.reduceLeDiff, if_true, if_false, not_true_eq_false, not_false_eq_true, Bool.true_eq_false, Bool.false_eq_true, b2_eq0, Nat.add_zero, Nat.zero_add, Nat.not_lt_zero, Nat.zero_le, ite_true, ite_false, decide_true, decide_false, lit_ii, of_ii, le_T, le_F, lt_T, lt_F, eq_T, eq_F, ii_add, ii_mul, ii_nat, ii_le, ii_lt, ii_eq, inR_ii, ii_add0]
          · rw [if_neg hr]
            obtain ⟨hS1, hS2⟩ := hS.resolve_left hr
            by_cases x10 : x = 9
            · rw [if_pos x10]
              obtain ⟨σ3, e3, Q3, F3⟩ := cl_cho (s := (wdP T n s.1, s.2.1, s.2.2)) (j := 1) hS1 hS2 he (by omega) hn R2 C2 (by show s.2.1 ≤ wdP T n s.1; omega)
              refine ⟨σ3, ?_, Q3, F02.tr F3⟩
              simp (disch := first | omega | exact b2_01 _ | exact ii0_01 | exact ii1_01 | (simp (disch := omega) only [lit_ii, dr_some, Option.isSome_some, gR_wI, Nat.add_mul_mod_self_left, Nat.reduceMod, ak20, ak21, ak22, ak23, ak24, ak25, ak26, ak27, ak28, ak29, ak30, ak31, ak32, ak33, ak34, ak35, ak36, an20, an21, an22, an23, an24, an25, an26, an27, an28, an29, an30, an31, an32, an33, an34, an35, an36, an37, an38, ne_eq, inR_ii, decide_eq_true_eq, lit_ii, of_ii, ii_eq, ii_lt, ii_le]; first | done | omega)) only [lit_ii, b_Law_readUnit_48, b_Law_readUnit_57, b_Law_readUnit_67, b_Law_readUnit_71, b_Law_readUnit_72, b_Law_readUnit_75, b_Law_readUnit_94, oi_some, x10, e3, dr_some, Option.isSome_some, gR_wI, Nat.add_mul_mod_self_left, Nat.reduceMod, ak20, ak21, ak22, ak23, ak24, ak25, ak26, ak27, ak28, ak29, ak30, ak31, ak32, ak33, ak34, ak35, ak36, an20, an21, an22, an23, an24, an25, an26, an27, an28, an29, an30, an31, an32, an33, an34, an35, an36, an37, an38, ↓reduceIte, bk_int, bk_void, bk_long, bkN_int, bkN_void, bkN_long, Nat.reduceAdd, Nat.reduceMul, Nat.reduceSub, Nat.reduceLT, Nat.reduceLeDiff, if_true, if_false, not_true_eq_false, not_false_eq_true, Bool.true_eq_false, Bool.false_eq_true, b2_eq0, Nat.add_zero, Nat.zero_add, Nat.not_lt_zero, Nat.zero_le, ite_true, ite_false, decide_true, decide_false, lit_ii, of_ii, le_T, le_F, lt_T, lt_F, eq_T, eq_F, ii_add, ii_mul, ii_nat, ii_le, ii_lt, ii_eq, inR_ii, ii_add0]
            · rw [if_neg x10]
              obtain ⟨σ3, e3, Q3, F3⟩ := cl_cho (s := (wdP T n s.1, s.2.1, s.2.2)) (j := 2) hS1 hS2 he (by omega) hn R2 C2 (by show s.2.1 ≤ wdP T n s.1; omega)
              refine ⟨σ3, ?_, Q3, F02.tr F3⟩
              simp (disch := first | omega | exact b2_01 _ | exact ii0_01 | exact ii1_01 | (simp (disch := omega) only [lit_ii, dr_some, Option.isSome_some, gR_wI, Nat.add_mul_mod_self_left, Nat.reduceMod, ak20, ak21, ak22, ak23, ak24, ak25, ak26, ak27, ak28, ak29, ak30, ak31, ak32, ak33, ak34, ak35, ak36, an20, an21, an22, an23, an24, an25, an26, an27, an28, an29, an30, an31, an32, an33, an34, an35, an36, an37, an38, ne_eq, inR_ii, decide_eq_true_eq, lit_ii, of_ii, ii_eq, ii_lt, ii_le]; first | done | omega)) only [lit_ii, b_Law_readUnit_48, b_Law_readUnit_57, b_Law_readUnit_67, b_Law_readUnit_71, b_Law_readUnit_72, b_Law_readUnit_75, b_Law_readUnit_94, oi_some, x10, e3, dr_some, Option.isSome_some, gR_wI, Nat.add_mul_mod_self_left, Nat.reduceMod, ak20, ak21, ak22, ak23, ak24, ak25, ak26, ak27, ak28, ak29, ak30, ak31, ak32, ak33, ak34, ak35, ak36, an20, an21, an22, an23, an24, an25, an26, an27, an28, an29, an30, an31, an32, an33, an34, an35, an36, an37, an38, ↓reduceIte, bk_int, bk_void, bk_long, bkN_int, bkN_void, bkN_long, Nat.reduceAdd, Nat.reduceMul, Nat.reduceSub, Nat.reduceLT, Nat.reduceLeDiff, if_true, if_false, not_true_eq_false, not_false_eq_true, Bool.true_eq_false, Bool.false_eq_true, b2_eq0, Nat.add_zero, Nat.zero_add, Nat.not_lt_zero, Nat.zero_le, ite_true, ite_false, decide_true, decide_false, lit_ii, of_ii, le_T, le_F, lt_T, lt_F, eq_T, eq_F, ii_add, ii_mul, ii_nat, ii_le, ii_lt, ii_eq, inR_ii, ii_add0]
/-- all levels -/
theorem cl_units {T : Nat → Nat} {n l : Nat} (hn : n ≤ 150) : ∀ r, r ≤ 6 → ∀ e, 22 + 4 * r ≤ e → UC T n l m_Law_readUnit (6 - r) e (lwUn T n r) := by
  intro r
  induction r with
  | zero =>
    intro _ e he
    obtain ⟨e', rfl⟩ : ∃ e', e = e' + 2 := ⟨e - 2, by omega⟩
    exact cl_unit (by omega) (Or.inl rfl) (by omega) hn
  | succ r ih =>
    intro hr e he
    obtain ⟨e', rfl⟩ : ∃ e', e = e' + 4 := ⟨e - 4, by omega⟩
    have h1 := ih (by omega) e' (by omega)
    have h2 := cl_prd h1 (by omega) (lwUn_fwd r) hn
    have h3 := cl_sum h2 (by omega) (lwPrd_fwd (lwUn_fwd r)) hn
    rw [show 6 - r = 6 - (r + 1) + 1 by omega] at h3
    exact cl_unit (by omega) (Or.inr ⟨h3, lwSum_fwd (lwUn_fwd r)⟩) (by omega) hn
def lwAll (T : Nat → Nat) (n : Nat) : PR LwT := match lwSum T n (lwUn T n 6) (0, 0, fun _ => 0) with
  | .inl s => if sk T n s.1 < n then .inr (1, sk T n s.1) else .inl (sk T n s.1, s.2.1, s.2.2)
  | .inr F => .inr F
theorem s_lawWhole {d n l u : Nat} {T : Nat → Nat} {σ : HP} (hn : n ≤ 150) (R : RS σ T n 0 none u) (r0 : gR σ (4 + 64 * l) 0 = some (29 + 64 * (l + 1))) : ∃ σ1 σ', callF (d + 60) m_Law_wipe [.ref (4 + 64 * l)] σ = some (.inl none, wI σ (4 + 64 * l) 3 (ii 0)) ∧ callF (d + 60) m_Law_readSum [.ref (4 + 64 * l), .ref 71, .int (ii 0)] (wI σ (4 + 64 * l) 3 (ii 0)) = some (.inl none, σ1) ∧ callF (d + 60) m_Reader_needEnd [.ref 71] σ1 = some (.inl none, σ') ∧ LQ σ' T n l (lwAll T n) ∧ Fs (SL l) σ σ' ∧ Fs (SL l) σ σ1 := by
  have F0 : Fs (SL l) σ (wI σ (4 + 64 * l) 3 (ii 0)) := Fs.w Fs.rf (Or.inr (Or.inl rfl))
  have R0 : RS (wI σ (4 + 64 * l) 3 (ii 0)) T n 0 none u := R.fs (S := fun a => a = 4 + 64 * l) (Fs.w Fs.rf rfl) (by omega) (by omega)
  have C0 : LC (wI σ (4 + 64 * l) 3 (ii 0)) l 0 (fun _ => 0) := ⟨r0, gI_at, fun i hi => absurd hi (Nat.not_lt_zero _)⟩
  have h1 := cl_units (T := T) (l := l) hn 6 (Nat.le_refl _) (d + 58) (by omega)
  have h2 := cl_prd h1 (by omega) (lwUn_fwd 6) hn
  have h3 := cl_sum h2 (by omega) (lwPrd_fwd (lwUn_fwd 6)) hn
  obtain ⟨σ1, e1, Q1, F1⟩ := h3 _ (0, 0, fun _ => 0) u R0 C0 (Nat.le_refl _)
  simp only [Nat.sub_self] at e1
  have e0 : callF (d + 60) m_Law_wipe [.ref (4 + 64 * l)] σ = some (.inl none, wI σ (4 + 64 * l) 3 (ii 0)) := by
    simp (disch := first | omega | exact b2_01 _ | exact ii0_01 | exact ii1_01 | (simp (disch := omega) only [lit_ii, dr_some, Option.isSome_some, gR_wI, Nat.add_mul_mod_self_left, Nat.reduceMod, ak20, ak21, ak22, ak23, ak24, ak25, ak26, ak27, ak28, ak29, ak30, ak31, ak32, ak33, ak34, ak35, ak36, an20, an21, an22, an23, an24, an25, an26, an27, an28, an29, an30, an31, an32, an33, an34, an35, an36, an37, an38, ne_eq, inR_ii, decide_eq_true_eq, lit_ii, of_ii, ii_eq, ii_lt, ii_le]; first | done | omega)) only [lit_ii, e_Law_wipe, b_Law_wipe_0, dr_some, Option.isSome_some, gR_wI, Nat.add_mul_mod_self_left, Nat.reduceMod, ak20, ak21, ak22, ak23, ak24, ak25, ak26, ak27, ak28, ak29, ak30, ak31, ak32, ak33, ak34, ak35, ak36, an20, an21, an22, an23, an24, an25, an26, an27, an28, an29, an30, an31, an32, an33, an34, an35, an36, an37, an38, ↓reduceIte, bk_int, bk_void, bk_long, bkN_int, bkN_void, bkN_long, Nat.reduceAdd, Nat.reduceMul, Nat.reduceSub, Nat.reduceLT, Nat.reduceLeDiff, if_true, if_false, not_true_eq_false, not_false_eq_true, Bool.true_eq_false, Bool.false_eq_true, b2_eq0, Nat.add_zero, Nat.zero_add, Nat.not_lt_zero, Nat.zero_le, ite_true, ite_false, decide_true, decide_false, lit_ii, of_ii, le_T, le_F, lt_T, lt_F, eq_T, eq_F, ii_add, ii_mul, ii_nat, ii_le, ii_lt, ii_eq, inR_ii, ii_add0]
  unfold lwAll
  cases hs : lwSum T n (lwUn T n 6) (0, 0, fun _ => 0) with
  | inr F =>
    rw [hs] at Q1
    obtain ⟨p1, u1, R1⟩ := Q1
    obtain ⟨σ2, e2, R2, F2⟩ := s_needEnd (d := d + 57) R1
    exact ⟨σ1, σ2, e0, e1, e2, ⟨_, _, R2⟩, (F0.tr F1).tr (S1_SL F2), F0.tr F1⟩
  | inl s =>
    rw [hs] at Q1
    obtain ⟨⟨u1, R1⟩, C1⟩ := Q1
    obtain ⟨σ2, e2, R2, F2⟩ := s_needEnd (d := d + 57) R1
    have C2 := C1.fs F2 (by unfold S1; omega) (by unfold S1; omega)
    unfold enF at R2
    refine ⟨σ1, σ2, e0, e1, e2, ?_, (F0.tr F1).tr (S1_SL F2), F0.tr F1⟩
    simp only
    by_cases z : sk T n s.1 < n
    · rw [if_pos z] at R2 ⊢
      exact ⟨_, _, R2⟩
    · rw [if_neg z] at R2 ⊢
      exact ⟨⟨u1, R2⟩, C2⟩
