def flO {α : Type} (r : PR α) : FA := match r with
  | .inl _ => none
  | .inr F => some F
def lawW (w : LW) (r : PR LwT) : LW := match r with
  | .inl s => s.2
  | .inr _ => w
theorem CX.r0 {σ : HP} {h l l2 b bq : Nat} {H : HH} {w : LW} {D : DN} {tp : TPE} {ct : CNT} {B : BK} {pw : PW} {im : IMS} (A : CX σ h l l2 b bq H w D tp ct B pw im) : LR σ l2 := by
  obtain ⟨⟨-, -, -, -, -, y7, y8, -⟩, ⟨-, -, -, n4, -⟩, -⟩ := A
  rcases n4 with ⟨-, rfl⟩ | ⟨-, rfl⟩
  · exact y8
  · exact y7
/-- another law takes the place -/
theorem CX.swap {σ : HP} {h l l2 b bq : Nat} {H : HH} {w w' : LW} {D : DN} {tp : TPE} {ct : CNT} {B : BK} {pw : PW} {im : IMS} (A : CX σ h l l2 b bq H w D tp ct B pw im) (hL : LwA σ l2 w') (hw : wL w') : CX (wR (wR σ 197 1 (some (4 + 64 * l2))) 11 7 (some (4 + 64 * l))) h l2 l b bq H w' D tp ct B pw im := by
  obtain ⟨cf, cn, ⟨r8, r9, r10⟩, ci, cl, ba, pa, ta, m0, t1, t2, t3⟩ := A
  obtain ⟨n1, n2, n3, n4, n5⟩ := cn
  obtain ⟨p0, p1, p2, a1, a2, a3, b1, b2, b3, b4, b5, b6⟩ := cl
  have F : Fx (fun a => a = 197 ∨ a = 11) σ (wR (wR σ 197 1 (some (4 + 64 * l2))) 11 7 (some (4 + 64 * l))) := Fx.wr (Fx.wr Fx.rf (Or.inl rfl)) (Or.inr rfl)
  refine ⟨cf.of (fun a j k => ?_), ⟨n1, n2, n3, by omega, n5⟩, ⟨gR_at, ?_, ?_⟩, ci, ⟨?_, ?_, ?_, a1.fx F n2 (fun a x y z => by omega), a2.fx F (by omega) (fun a x y z => by omega), hL.fx F (by omega) (fun a x y z => by omega), b1, b2, hw, b4, by omega, by omega⟩, ?_, pa.fx F n3 (by omega) (by omega) (by omega) (fun x y z => by omega), ta, m0, t1, t2, t3⟩
  · unfold kc at k
    by_cases z : a = 11
    · rw [gR_nj (by omega), gR_ne (by omega)]
    · rw [gR_ne z, gR_ne (by omega)]
  · rw [gR_nj (by decide), gR_ne (by decide)]; exact r9
  · rw [gR_nj (by decide), gR_ne (by decide)]; exact r10
  · rw [gR_ne (by decide), gR_nj (by decide)]; exact p0
  · rw [gR_ne (by decide)]; exact gR_at
  · rw [gR_ne (by decide), gR_nj (by decide)]; exact p2
  · exact ba.fx F (by omega) (fun z => by omega) (fun z => by omega)
theorem z_law {d : Nat} {σ : HP} {h l l2 b bq : Nat} {H : HH} {w : LW} {D : DN} {tp : TPE} {ct : CNT} {B : BK} {pw : PW} {im : IMS} (A : CX σ h l l2 b bq H w D tp ct B pw im) (x : Int32) (hW : ∀ s, lwAll tp.2 x.toNatClampNeg = .inl s → wL s.2) : if inrg 0 (min 150 tp.1) x then PQ σ (callF (d + 70) m_PL_law [.ref 11, .int x] σ) (if (flO (lwAll tp.2 x.toNatClampNeg)).isSome then fk (flO (lwAll tp.2 x.toNatClampNeg)) - ii 10 else ii 1) (fun τ => CW τ H (lawW w (lwAll tp.2 x.toNatClampNeg)) D (0, tp.2) (fp (flO (lwAll tp.2 x.toNatClampNeg)), ct.2) B pw im) else callF (d + 70) m_PL_law [.ref 11, .int x] σ = some (.inr 1, rfA σ (ct.2.2.2 + 1)) := by
  have o := s_openText (d := d + 46) A x (lim := 150) (by omega)
  cases hb : inrg 0 (min 150 tp.1) x with
  | false =>
    rw [hb, if_neg (by decide)] at o
    rw [if_neg (by decide)]
    simp (disch := first | omega | exact b2_01 _ | exact ii0_01 | exact ii1_01 | (simp (disch := omega) only [o, dr_some, Option.isSome_some, gR_wI, Nat.add_mul_mod_self_left, Nat.reduceMod, ak20, ak21, ak22, ak23, ak24, ak25, ak26, ak27, ak28, ak29, ak30, ak31, ak32, ak33, ak34, ak35, ak36, an20, an21, an22, an23, an24, an25, an26, an27, an28, an29, an30, an31, an32, an33, an34, an35, an36, an37, an38, ne_eq, inR_ii, decide_eq_true_eq, lit_ii, of_ii, ii_eq, ii_lt, ii_le]; first | done | omega)) only [o, e_PL_law, b_PL_law_0, o, bk_thr (m := m_PL_law) rfl, dr_some, Option.isSome_some, gR_wI, Nat.add_mul_mod_self_left, Nat.reduceMod, ak20, ak21, ak22, ak23, ak24, ak25, ak26, ak27, ak28, ak29, ak30, ak31, ak32, ak33, ak34, ak35, ak36, an20, an21, an22, an23, an24, an25, an26, an27, an28, an29, an30, an31, an32, an33, an34, an35, an36, an37, an38, ↓reduceIte, bk_int, bk_void, bk_long, bkN_int, bkN_void, bkN_long, Nat.reduceAdd, Nat.reduceMul, Nat.reduceSub, Nat.reduceLT, Nat.reduceLeDiff, if_true, if_false, not_true_eq_false, not_false_eq_true, Bool.true_eq_false, Bool.false_eq_true, b2_eq0, Nat.add_zero, Nat.zero_add, Nat.not_lt_zero, Nat.zero_le, ite_true, ite_false, decide_true, decide_false, lit_ii, of_ii, le_T, le_F, lt_T, lt_F, eq_T, eq_F, ii_add, ii_mul, ii_nat, ii_le, ii_lt, ii_eq, inR_ii, ii_add0]
  | true =>
    rw [hb, if_pos rfl] at o
    rw [if_pos rfl]
    obtain ⟨n, -, hn, rfl⟩ := inrg_T hb (by omega) (by omega)
    rw [ii_nat (by omega)] at o hW ⊢
    obtain ⟨σ1, e1, A1, R1, F1⟩ := o
    obtain ⟨lr0, lr1, lr2⟩ := A1.r0
    obtain ⟨σ1b, σ2, e20, e21, e22, Q2, F2, F2b⟩ := s_lawWhole (d := d + 9) (l := l2) (n := n) (by omega) R1 lr0
    have n4 := A.2.1.2.2.2.1
    have n5 := A.2.1.2.2.2.2
    have n3 := A1.2.1.2.2.1
    have A2 : CX σ2 h l l2 b bq H w D (0, tp.2) ct B pw im := A1.sc F2.x (fun a z => by unfold SL at z; omega) (fun a j _ => F2.R a j) (A1.2.2.2.2.2.1.fx F2.x (by omega) (fun z => by unfold SL at z; omega) (fun z => by unfold SL at z; omega)) ((F2.I (fun z => by unfold SL at z; omega)).trans A1.2.2.2.2.2.2.2.2.1)
    have O2 : Fs Cls σ σ2 := (F1.mono (fun a z => by unfold Cls; omega)).tr (F2.mono (fun a z => by unfold SL at z; unfold Cls; omega))
    have ea : callF (d + 70) m_PL_law [.ref 11, .int (ii n)] σ = runF (callF (d + 69)) (d + 69) m_PL_law (34, [some (.ref 11), some (.int (ii n)), none], [], σ2) := by
      have x1 := A1.1.1.2.1
      have x8 := A1.2.2.1.1
      have x1b := (F2b.R 11 0).trans x1
      simp (disch := first | omega | exact b2_01 _ | exact ii0_01 | exact ii1_01 | (simp (disch := omega) only [x1, x8, x1b, dr_some, Option.isSome_some, gR_wI, Nat.add_mul_mod_self_left, Nat.reduceMod, ak20, ak21, ak22, ak23, ak24, ak25, ak26, ak27, ak28, ak29, ak30, ak31, ak32, ak33, ak34, ak35, ak36, an20, an21, an22, an23, an24, an25, an26, an27, an28, an29, an30, an31, an32, an33, an34, an35, an36, an37, an38, ne_eq, inR_ii, decide_eq_true_eq, lit_ii, of_ii, ii_eq, ii_lt, ii_le]; first | done | omega)) only [x1, x8, x1b, e_PL_law, b_PL_law_0, b_PL_law_8, b_PL_law_15, b_PL_law_27, e1, e20, e21, e22, dr_some, Option.isSome_some, gR_wI, Nat.add_mul_mod_self_left, Nat.reduceMod, ak20, ak21, ak22, ak23, ak24, ak25, ak26, ak27, ak28, ak29, ak30, ak31, ak32, ak33, ak34, ak35, ak36, an20, an21, an22, an23, an24, an25, an26, an27, an28, an29, an30, an31, an32, an33, an34, an35, an36, an37, an38, ↓reduceIte, bk_int, bk_void, bk_long, bkN_int, bkN_void, bkN_long, Nat.reduceAdd, Nat.reduceMul, Nat.reduceSub, Nat.reduceLT, Nat.reduceLeDiff, if_true, if_false, not_true_eq_false, not_false_eq_true, Bool.true_eq_false, Bool.false_eq_true, b2_eq0, Nat.add_zero, Nat.zero_add, Nat.not_lt_zero, Nat.zero_le, ite_true, ite_false, decide_true, decide_false, lit_ii, of_ii, le_T, le_F, lt_T, lt_F, eq_T, eq_F, ii_add, ii_mul, ii_nat, ii_le, ii_lt, ii_eq, inR_ii, ii_add0]
    rw [ea]
    have x1 := A2.1.1.2.1
    have x2 := A2.1.1.2.2.1
    have x8 := A2.2.2.1.1
    have c1 : gR σ2 197 1 = some (4 + 64 * l) := A2.2.2.2.2.1.2.1
    cases hr : lwAll tp.2 n with
    | inr G =>
      rw [hr] at Q2
      obtain ⟨p, u, R⟩ := Q2
      have f1 := fun d => s_failed (d := d) R
      have cl := fun d => s_closeText (d := d) A2 R (ii 1)
      refine ⟨wI σ2 11 11 (fp (some G)), ?_, OKc.fs (Fs.w O2 (Or.inl rfl)) (fun a z => z), h, l, l2, b, bq, A2.w11 (Or.inl ⟨rfl, rfl⟩)⟩
      simp (disch := first | omega | exact b2_01 _ | exact ii0_01 | exact ii1_01 | (simp (disch := omega) only [x1, x2, x8, dr_some, Option.isSome_some, gR_wI, Nat.add_mul_mod_self_left, Nat.reduceMod, ak20, ak21, ak22, ak23, ak24, ak25, ak26, ak27, ak28, ak29, ak30, ak31, ak32, ak33, ak34, ak35, ak36, an20, an21, an22, an23, an24, an25, an26, an27, an28, an29, an30, an31, an32, an33, an34, an35, an36, an37, an38, ne_eq, inR_ii, decide_eq_true_eq, lit_ii, of_ii, ii_eq, ii_lt, ii_le]; first | done | omega)) only [x1, x2, x8, b_PL_law_34, b_PL_law_41, b_PL_law_68, b_PL_law_73, f1, cl, Option.isSome_some, flO, dr_some, Option.isSome_some, gR_wI, Nat.add_mul_mod_self_left, Nat.reduceMod, ak20, ak21, ak22, ak23, ak24, ak25, ak26, ak27, ak28, ak29, ak30, ak31, ak32, ak33, ak34, ak35, ak36, an20, an21, an22, an23, an24, an25, an26, an27, an28, an29, an30, an31, an32, an33, an34, an35, an36, an37, an38, ↓reduceIte, bk_int, bk_void, bk_long, bkN_int, bkN_void, bkN_long, Nat.reduceAdd, Nat.reduceMul, Nat.reduceSub, Nat.reduceLT, Nat.reduceLeDiff, if_true, if_false, not_true_eq_false, not_false_eq_true, Bool.true_eq_false, Bool.false_eq_true, b2_eq0, Nat.add_zero, Nat.zero_add, Nat.not_lt_zero, Nat.zero_le, ite_true, ite_false, decide_true, decide_false, lit_ii, of_ii, le_T, le_F, lt_T, lt_F, eq_T, eq_F, ii_add, ii_mul, ii_nat, ii_le, ii_lt, ii_eq, inR_ii, ii_add0]
    | inl s =>
      rw [hr] at Q2
      obtain ⟨⟨u, R⟩, C0, C1, C2⟩ := Q2
      have f1 := fun d => s_failed (d := d) R
      have A3 := A2.swap (w' := s.2) ⟨(F2.R _ _).trans lr0, (F2.R _ _).trans lr1, (F2.R _ _).trans lr2, C1, C2⟩ (hW s hr)
      have R3 : RS (wR (wR σ2 197 1 (some (4 + 64 * l2))) 11 7 (some (4 + 64 * l))) tp.2 n s.1 none u := R
      have cl := fun d => s_closeText (d := d) A3 R3 (ii 1)
      refine ⟨wI (wR (wR σ2 197 1 (some (4 + 64 * l2))) 11 7 (some (4 + 64 * l))) 11 11 (fp none), ?_, ⟨Fx.wi (Fx.wr (Fx.wr O2.x (Or.inr (by decide))) (Or.inl rfl)) (Or.inl rfl), by show hN σ2 ≤ _; rw [O2.N]; omega, by show hS σ2 ≤ _; rw [O2.Z]; omega⟩, h, l2, l, b, bq, A3.w11 (Or.inl ⟨rfl, rfl⟩)⟩
      simp (disch := first | omega | exact b2_01 _ | exact ii0_01 | exact ii1_01 | (simp (disch := omega) only [x1, x2, x8, c1, dr_some, Option.isSome_some, gR_wI, Nat.add_mul_mod_self_left, Nat.reduceMod, ak20, ak21, ak22, ak23, ak24, ak25, ak26, ak27, ak28, ak29, ak30, ak31, ak32, ak33, ak34, ak35, ak36, an20, an21, an22, an23, an24, an25, an26, an27, an28, an29, an30, an31, an32, an33, an34, an35, an36, an37, an38, ne_eq, inR_ii, decide_eq_true_eq, lit_ii, of_ii, ii_eq, ii_lt, ii_le]; first | done | omega)) only [x1, x2, x8, c1, b_PL_law_34, b_PL_law_41, b_PL_law_44, b_PL_law_68, b_PL_law_73, f1, cl, Option.isSome_none, flO, dr_some, Option.isSome_some, gR_wI, Nat.add_mul_mod_self_left, Nat.reduceMod, ak20, ak21, ak22, ak23, ak24, ak25, ak26, ak27, ak28, ak29, ak30, ak31, ak32, ak33, ak34, ak35, ak36, an20, an21, an22, an23, an24, an25, an26, an27, an28, an29, an30, an31, an32, an33, an34, an35, an36, an37, an38, ↓reduceIte, bk_int, bk_void, bk_long, bkN_int, bkN_void, bkN_long, Nat.reduceAdd, Nat.reduceMul, Nat.reduceSub, Nat.reduceLT, Nat.reduceLeDiff, if_true, if_false, not_true_eq_false, not_false_eq_true, Bool.true_eq_false, Bool.false_eq_true, b2_eq0, Nat.add_zero, Nat.zero_add, Nat.not_lt_zero, Nat.zero_le, ite_true, ite_false, decide_true, decide_false, lit_ii, of_ii, le_T, le_F, lt_T, lt_F, eq_T, eq_F, ii_add, ii_mul, ii_nat, ii_le, ii_lt, ii_eq, inR_ii, ii_add0]
