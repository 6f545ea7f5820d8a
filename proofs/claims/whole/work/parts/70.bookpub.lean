def bkW (B : BK) (r : PR BkT) : BK := match r with
  | .inl s => s.2
  | .inr _ => B
theorem CX.bqr {σ : HP} {h l l2 b bq : Nat} {H : HH} {w : LW} {D : DN} {tp : TPE} {ct : CNT} {B : BK} {pw : PW} {im : IMS} (A : CX σ h l l2 b bq H w D tp ct B pw im) : BR σ bq := by
  obtain ⟨⟨-, -, -, -, -, -, -, y9, y10⟩, ⟨-, -, -, -, n5⟩, -⟩ := A
  rcases n5 with ⟨-, rfl⟩ | ⟨-, rfl⟩
  · exact y10
  · exact y9
theorem CX.swapB {σ : HP} {h l l2 b bq : Nat} {H : HH} {w : LW} {D : DN} {tp : TPE} {ct : CNT} {B B' : BK} {pw : PW} {im : IMS} (A : CX σ h l l2 b bq H w D tp ct B pw im) (hB : BA σ bq B') : CX (wR (wR σ 11 8 (some (64 * bq))) 11 9 (some (64 * b))) h l l2 bq b H w D tp ct B' pw im := by
  obtain ⟨cf, cn, ⟨r8, r9, r10⟩, ci, cl, ba, pa, ta, m0, t1, t2, t3⟩ := A
  obtain ⟨n1, n2, n3, n4, n5⟩ := cn
  have F : Fx (fun a => a = 11) σ (wR (wR σ 11 8 (some (64 * bq))) 11 9 (some (64 * b))) := Fx.wr (Fx.wr Fx.rf rfl) rfl
  refine ⟨cf.of (fun a j k => ?_), ⟨n1, n2, n3, n4, by omega⟩, ⟨?_, ?_, gR_at⟩, ci, cl.fx F (by omega) n2 (by omega) (by omega) (by omega) (fun a x y z => by omega) (fun a x y z => by omega) (fun a x y z => by omega), hB.fx F (by omega) (fun z => by omega) (fun z => by omega), pa.fx F n3 (by omega) (by omega) (by omega) (fun x y z => by omega), ta, m0, t1, t2, t3⟩
  · unfold kc at k
    by_cases z : a = 11
    · rw [gR_nj (by omega), gR_nj (by omega)]
    · rw [gR_ne z, gR_ne z]
  · rw [gR_nj (by decide), gR_nj (by decide)]; exact r8
  · rw [gR_nj (by decide)]; exact gR_at
theorem z_book {d : Nat} {σ : HP} {h l l2 b bq : Nat} {H : HH} {w : LW} {D : DN} {tp : TPE} {ct : CNT} {B : BK} {pw : PW} {im : IMS} (A : CX σ h l l2 b bq H w D tp ct B pw im) (x : Int32) : if inrg 0 (min 60 tp.1) x then PQ σ (callF (d + 70) m_PL_book [.ref 11, .int x] σ) (if (flO (bkAll tp.2 x.toNatClampNeg (hm H))).isSome then fk (flO (bkAll tp.2 x.toNatClampNeg (hm H))) - ii 10 else ii (bkW B (bkAll tp.2 x.toNatClampNeg (hm H))).1) (fun τ => CW τ H w D (0, tp.2) (fp (flO (bkAll tp.2 x.toNatClampNeg (hm H))), ct.2) (bkW B (bkAll tp.2 x.toNatClampNeg (hm H))) pw im) else callF (d + 70) m_PL_book [.ref 11, .int x] σ = some (.inr 1, rfA σ (ct.2.2.2 + 1)) := by
  have o := s_openText (d := d + 46) A x (lim := 60) (by omega)
  cases hb : inrg 0 (min 60 tp.1) x with
  | false =>
    rw [hb, if_neg (by decide)] at o
    rw [if_neg (by decide)]
    simp (disch := first | omega | exact b2_01 _ | exact ii0_01 | exact ii1_01 | (simp (disch := omega) only [o, dr_some, Option.isSome_some, gR_wI, Nat.add_mul_mod_self_left, Nat.reduceMod, ak20, ak21, ak22, ak23, ak24, ak25, ak26, ak27, ak28, ak29, ak30, ak31, ak32, ak33, ak34, ak35, ak36, an20, an21, an22, an23, an24, an25, an26, an27, an28, an29, an30, an31, an32, an33, an34, an35, an36, an37, an38, ne_eq, inR_ii, decide_eq_true_eq, lit_ii, of_ii, ii_eq, ii_lt, ii_le]; first | done | omega)) only [o, e_PL_book, b_PL_book_0, o, bk_thr (m := m_PL_book) rfl, dr_some, Option.isSome_some, gR_wI, Nat.add_mul_mod_self_left, Nat.reduceMod, ak20, ak21, ak22, ak23, ak24, ak25, ak26, ak27, ak28, ak29, ak30, ak31, ak32, ak33, ak34, ak35, ak36, an20, an21, an22, an23, an24, an25, an26, an27, an28, an29, an30, an31, an32, an33, an34, an35, an36, an37, an38, ↓reduceIte, bk_int, bk_void, bk_long, bkN_int, bkN_void, bkN_long, Nat.reduceAdd, Nat.reduceMul, Nat.reduceSub, Nat.reduceLT, Nat.reduceLeDiff, if_true, if_false, not_true_eq_false, not_false_eq_true, Bool.true_eq_false, Bool.false_eq_true, b2_eq0, Nat.add_zero, Nat.zero_add, Nat.not_lt_zero, Nat.zero_le, ite_true, ite_false, decide_true, decide_false, lit_ii, of_ii, le_T, le_F, lt_T, lt_F, eq_T, eq_F, ii_add, ii_mul, ii_nat, ii_le, ii_lt, ii_eq, inR_ii, ii_add0]
  | true =>
    rw [hb, if_pos rfl] at o
    rw [if_pos rfl]
    obtain ⟨n, -, hn, rfl⟩ := inrg_T hb (by omega) (by omega)
    rw [ii_nat (by omega)] at o ⊢
    obtain ⟨σ1, e1, A1, R1, F1⟩ := o
    have h7 := A.2.2.2.2.1.wh.1
    obtain ⟨σ2, e2, Q2, F2⟩ := s_readLines (d := d + 60) (b := bq) (n := n) (men := hm H) R1 (by omega) A1.bqr (by omega)
    have n4 := A.2.1.2.2.2.1
    have n5 := A.2.1.2.2.2.2
    have n3 := A1.2.1.2.2.1
    have A2 : CX σ2 h l l2 b bq H w D (0, tp.2) ct B pw im := A1.sc F2.x (fun a z => by unfold SB at z; omega) (fun a j _ => F2.R a j) (A1.2.2.2.2.2.1.fx F2.x (by omega) (fun z => by unfold SB at z; omega) (fun z => by unfold SB at z; omega)) ((F2.I (fun z => by unfold SB at z; omega)).trans A1.2.2.2.2.2.2.2.2.1)
    have O2 : Fs Cls σ σ2 := (F1.mono (fun a z => by unfold Cls; omega)).tr (F2.mono (fun a z => by unfold SB at z; unfold Cls; omega))
    have ea : callF (d + 70) m_PL_book [.ref 11, .int (ii n)] σ = runF (callF (d + 69)) (d + 69) m_PL_book (28, [some (.ref 11), some (.int (ii n)), none], [], σ2) := by
      have A := A1
      obtain ⟨⟨⟨x0, x1, x2, x3, x4, x5, x6, x7⟩, y1, y2, y3, y4, y7, y8, y9, y10⟩, cn, ⟨r8, r9, r10⟩, ⟨i1, i2, i3, i4, i5⟩, cl, ba, pa, ta, m0, t1, t2, t3⟩ := id A; obtain ⟨⟨c0, c1, c2⟩, ⟨v0, v1, v2, v3⟩, ⟨g4, g5, g6, g7⟩, dw4, dw5, dw6, dw7⟩ := nn cl; obtain ⟨q0, q1, q2, q3, q4, q5, q6, q7, q8, hv4, hv5, hv6, hv7, hv8⟩ := id cl.2.2.2.1; have hh := cl.wh.1
      simp (disch := first | omega | exact b2_01 _ | exact ii0_01 | exact ii1_01 | (simp (disch := omega) only [x0, x1, x2, x3, x4, x5, x6, x7, r8, r9, r10, c0, c1, c2, g4, g5, g6, g7, q4, q5, q6, q7, q8, dr_some, Option.isSome_some, gR_wI, Nat.add_mul_mod_self_left, Nat.reduceMod, ak20, ak21, ak22, ak23, ak24, ak25, ak26, ak27, ak28, ak29, ak30, ak31, ak32, ak33, ak34, ak35, ak36, an20, an21, an22, an23, an24, an25, an26, an27, an28, an29, an30, an31, an32, an33, an34, an35, an36, an37, an38, ne_eq, inR_ii, decide_eq_true_eq, lit_ii, of_ii, ii_eq, ii_lt, ii_le]; first | done | omega)) only [x0, x1, x2, x3, x4, x5, x6, x7, r8, r9, r10, c0, c1, c2, g4, g5, g6, g7, q4, q5, q6, q7, q8, e_PL_book, b_PL_book_0, b_PL_book_7, e1, e2, q0, q1, q2, q3, v0, v1, v2, v3, i1, i2, i3, i4, i5, dr_some, Option.isSome_some, gR_wI, Nat.add_mul_mod_self_left, Nat.reduceMod, ak20, ak21, ak22, ak23, ak24, ak25, ak26, ak27, ak28, ak29, ak30, ak31, ak32, ak33, ak34, ak35, ak36, an20, an21, an22, an23, an24, an25, an26, an27, an28, an29, an30, an31, an32, an33, an34, an35, an36, an37, an38, ↓reduceIte, bk_int, bk_void, bk_long, bkN_int, bkN_void, bkN_long, Nat.reduceAdd, Nat.reduceMul, Nat.reduceSub, Nat.reduceLT, Nat.reduceLeDiff, if_true, if_false, not_true_eq_false, not_false_eq_true, Bool.true_eq_false, Bool.false_eq_true, b2_eq0, Nat.add_zero, Nat.zero_add, Nat.not_lt_zero, Nat.zero_le, ite_true, ite_false, decide_true, decide_false, lit_ii, of_ii, le_T, le_F, lt_T, lt_F, eq_T, eq_F, ii_add, ii_mul, ii_nat, ii_le, ii_lt, ii_eq, inR_ii, ii_add0]
    rw [ea]
    have x1 := A2.1.1.2.1
    have x9 := A2.2.2.1.2.1
    have x10 := A2.2.2.1.2.2
    have v1 := A2.2.2.2.2.2.1.2.2.2.2.1
    cases hr : bkAll tp.2 n (hm H) with
    | inr G =>
      rw [hr] at Q2
      obtain ⟨⟨p, u, R⟩, -⟩ := Q2
      have f1 := fun d => s_failed (d := d) R
      have cl := fun d v => s_closeText (d := d) A2 R v
      refine ⟨wI σ2 11 11 (fp (some G)), ?_, OKc.fs (Fs.w O2 (Or.inl rfl)) (fun a z => z), h, l, l2, b, bq, A2.w11 (Or.inl ⟨rfl, rfl⟩)⟩
      simp (disch := first | omega | exact b2_01 _ | exact ii0_01 | exact ii1_01 | (simp (disch := omega) only [x1, x9, x10, dr_some, Option.isSome_some, gR_wI, Nat.add_mul_mod_self_left, Nat.reduceMod, ak20, ak21, ak22, ak23, ak24, ak25, ak26, ak27, ak28, ak29, ak30, ak31, ak32, ak33, ak34, ak35, ak36, an20, an21, an22, an23, an24, an25, an26, an27, an28, an29, an30, an31, an32, an33, an34, an35, an36, an37, an38, ne_eq, inR_ii, decide_eq_true_eq, lit_ii, of_ii, ii_eq, ii_lt, ii_le]; first | done | omega)) only [x1, x9, x10, b_PL_book_28, b_PL_book_35, b_PL_book_56, b_PL_book_67, f1, cl, Option.isSome_some, flO, dr_some, Option.isSome_some, gR_wI, Nat.add_mul_mod_self_left, Nat.reduceMod, ak20, ak21, ak22, ak23, ak24, ak25, ak26, ak27, ak28, ak29, ak30, ak31, ak32, ak33, ak34, ak35, ak36, an20, an21, an22, an23, an24, an25, an26, an27, an28, an29, an30, an31, an32, an33, an34, an35, an36, an37, an38, ↓reduceIte, bk_int, bk_void, bk_long, bkN_int, bkN_void, bkN_long, Nat.reduceAdd, Nat.reduceMul, Nat.reduceSub, Nat.reduceLT, Nat.reduceLeDiff, if_true, if_false, not_true_eq_false, not_false_eq_true, Bool.true_eq_false, Bool.false_eq_true, b2_eq0, Nat.add_zero, Nat.zero_add, Nat.not_lt_zero, Nat.zero_le, ite_true, ite_false, decide_true, decide_false, lit_ii, of_ii, le_T, le_F, lt_T, lt_F, eq_T, eq_F, ii_add, ii_mul, ii_nat, ii_le, ii_lt, ii_eq, inR_ii, ii_add0]
    | inl s =>
      rw [hr] at Q2
      obtain ⟨⟨u, R⟩, C⟩ := Q2
      have f1 := fun d => s_failed (d := d) R
      have A3 := A2.swapB C
      have R3 : RS (wR (wR σ2 11 8 (some (64 * bq))) 11 9 (some (64 * b))) tp.2 n s.1 none u := R
      have cl := fun d v => s_closeText (d := d) A3 R3 v
      have x9' := A3.2.2.1.2.1
      have v1' : gI (wR (wR σ2 11 8 (some (64 * bq))) 11 9 (some (64 * b))) (64 * bq) 1 = ii s.2.1 := A3.2.2.2.2.2.1.2.2.2.2.1
      refine ⟨wI (wR (wR σ2 11 8 (some (64 * bq))) 11 9 (some (64 * b))) 11 11 (fp none), ?_, ⟨Fx.wi (Fx.wr (Fx.wr O2.x (Or.inl rfl)) (Or.inl rfl)) (Or.inl rfl), by show hN σ2 ≤ _; rw [O2.N]; omega, by show hS σ2 ≤ _; rw [O2.Z]; omega⟩, h, l, l2, bq, b, A3.w11 (Or.inl ⟨rfl, rfl⟩)⟩
      simp (disch := first | omega | exact b2_01 _ | exact ii0_01 | exact ii1_01 | (simp (disch := omega) only [x1, x9, x10, x9', v1', dr_some, Option.isSome_some, gR_wI, Nat.add_mul_mod_self_left, Nat.reduceMod, ak20, ak21, ak22, ak23, ak24, ak25, ak26, ak27, ak28, ak29, ak30, ak31, ak32, ak33, ak34, ak35, ak36, an20, an21, an22, an23, an24, an25, an26, an27, an28, an29, an30, an31, an32, an33, an34, an35, an36, an37, an38, ne_eq, inR_ii, decide_eq_true_eq, lit_ii, of_ii, ii_eq, ii_lt, ii_le]; first | done | omega)) only [x1, x9, x10, x9', v1', b_PL_book_28, b_PL_book_35, b_PL_book_38, b_PL_book_56, b_PL_book_67, f1, cl, Option.isSome_none, flO, bkW, dr_some, Option.isSome_some, gR_wI, Nat.add_mul_mod_self_left, Nat.reduceMod, ak20, ak21, ak22, ak23, ak24, ak25, ak26, ak27, ak28, ak29, ak30, ak31, ak32, ak33, ak34, ak35, ak36, an20, an21, an22, an23, an24, an25, an26, an27, an28, an29, an30, an31, an32, an33, an34, an35, an36, an37, an38, ↓reduceIte, bk_int, bk_void, bk_long, bkN_int, bkN_void, bkN_long, Nat.reduceAdd, Nat.reduceMul, Nat.reduceSub, Nat.reduceLT, Nat.reduceLeDiff, if_true, if_false, not_true_eq_false, not_false_eq_true, Bool.true_eq_false, Bool.false_eq_true, b2_eq0, Nat.add_zero, Nat.zero_add, Nat.not_lt_zero, Nat.zero_le, ite_true, ite_false, decide_true, decide_false, lit_ii, of_ii, le_T, le_F, lt_T, lt_F, eq_T, eq_F, ii_add, ii_mul, ii_nat, ii_le, ii_lt, ii_eq, inR_ii, ii_add0]
