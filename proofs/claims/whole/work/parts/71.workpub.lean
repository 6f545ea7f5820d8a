theorem CX.dx {σ σ' : HP} {h l l2 b bq : Nat} {H : HH} {w : LW} {D D' : DN} {tp : TPE} {ct : CNT} {B : BK} {pw : PW} {im : IMS} (A : CX σ h l l2 b bq H w D tp ct B pw im) (F : Fs (Sx l 14) σ σ') (L : CL σ' 3 h l 14 H w D') (hd : D' 86 ≤ 400) : CX σ' h l l2 b bq H w D' tp ct B pw im := by
  obtain ⟨cf, cn, ⟨r8, r9, r10⟩, ⟨i1, i2, i3, i4, i5⟩, cl, ba, pa, ta, m0, t1, t2, t3⟩ := A
  obtain ⟨n1, n2, n3, n4, n5⟩ := cn
  have q : ∀ a, Sx l 14 a → (a / 64 = l + 2 ∨ a / 64 = l + 3 ∨ (14 ≤ a / 64 ∧ a / 64 ≤ 18) ∨ a = 2250) := fun a z => by unfold Sx Sd at z; omega
  have s11 : ¬ Sx l 14 11 := fun z => by have := q _ z; omega
  exact ⟨cf.of (fun a j _ => F.R a j), ⟨n1, by rw [F.N]; exact n2, by rw [F.N]; exact n3, n4, n5⟩, ⟨(F.R _ _).trans r8, (F.R _ _).trans r9, (F.R _ _).trans r10⟩, ⟨(F.I s11).trans i1, (F.I s11).trans i2, (F.I s11).trans i3, (F.I s11).trans i4, (F.I s11).trans i5⟩, L, ba.fx F.x (by omega) (fun z => by have := q _ z; omega) (fun z => by have := q _ z; omega), pa.fx F.x n3 (fun z => by have := q _ z; omega) (fun z => by have := q _ z; omega) (fun z => by have := q _ z; omega) (fun x y z => by have := q _ z; omega), ta.fs F (fun z => by have := q _ z; omega), (F.I (fun z => by have := q _ z; omega)).trans m0, t1, hd, t3⟩
theorem WC.fx {S : Nat → Prop} {σ σ' : HP} {k : Nat} {ks : Nat → Nat × Nat × Nat} (A : WC σ k ks) (F : Fx S σ σ') (hn : 88 ≤ hN σ) (h1 : ¬ S 2250) (h2 : ¬ S 2333) (h3 : ¬ S 2397) (h4 : ¬ S 2461) : WC σ' k ks := by
  obtain ⟨⟨a0, a1, a2⟩, b, c⟩ := A
  refine ⟨⟨(F.R (by omega) h1).trans a0, (F.R (by omega) h1).trans a1, (F.R (by omega) h1).trans a2⟩, (F.I (by omega) h1).trans b, fun i hi => ?_⟩
  obtain ⟨c0, c1, c2⟩ := c i hi
  exact ⟨(F.I (by omega) h2).trans c0, fun x y => (F.I (by omega) h3).trans (c1 x y), fun x => (F.I (by omega) h4).trans (c2 x)⟩
theorem RS.fx {S : Nat → Prop} {σ σ' : HP} {T : Nat → Nat} {n p u : Nat} {f : FA} (A : RS σ T n p f u) (F : Fx S σ σ') (hn : 88 ≤ hN σ) (h : ¬ S 164) (h' : ¬ S 71) : RS σ' T n p f u := by
  obtain ⟨a0, a1, a2, a3, a4, a5, b1, b2, b3, b4, b5⟩ := A
  refine ⟨(F.R (by omega) h').trans a0, (F.I (by omega) h').trans a1, (F.I (by omega) h').trans a2, (F.I (by omega) h').trans a3, (F.I (by omega) h').trans a4, (F.I (by omega) h').trans a5, b1, b2, b3, fun i hi => ?_, b5⟩
  rw [F.I (by omega) h]
  exact b4 i hi
def wkX (H : HH) (w : LW) (D : DN) (s : WkT) : XT := exuN H w s.2.2 6 0 s.2.1 (D, 0, 0, 0)
theorem z_work {d : Nat} {σ : HP} {h l l2 b bq : Nat} {H : HH} {w : LW} {D : DN} {tp : TPE} {ct : CNT} {B : BK} {pw : PW} {im : IMS} (A : CX σ h l l2 b bq H w D tp ct B pw im) (x : Int32) (hW : ∀ s, wkAll tp.2 x.toNatClampNeg H = .inl s → s.2.1 ≤ 150 ∧ ∀ i, i < s.2.1 → okS1 H s.2.1 i (s.2.2 i)) : if inrg 0 (min 150 tp.1) x then (if pw.1 = 16 then PQ σ (callF (d + 70) m_PL_work [.ref 11, .int x] σ) (-ii 20) (fun τ => CW τ H w D (0, tp.2) (-ii 1, ct.2) B pw im) else (match wkAll tp.2 x.toNatClampNeg H with
    | .inl s => PQ σ (callF (d + 70) m_PL_work [.ref 11, .int x] σ) (ii (wkX H w D s).2.2.1) (fun τ => CW τ H w (wkX H w D s).1 (0, tp.2) (-ii 1, (wkX H w D s).2.2.2, ct.2.2) B (pw.1 + 1, fun i => if i = pw.1 then D else pw.2 i) im)
    | .inr G => PQ σ (callF (d + 70) m_PL_work [.ref 11, .int x] σ) (fk (some G) - ii 10) (fun τ => CW τ H w D (0, tp.2) (fp (some G), ct.2) B pw im))) else callF (d + 70) m_PL_work [.ref 11, .int x] σ = some (.inr 1, rfA σ (ct.2.2.2 + 1)) := by
  have o := s_openText (d := d + 46) A x (lim := 150) (by omega)
  cases hb : inrg 0 (min 150 tp.1) x with
  | false =>
    rw [hb, if_neg (by decide)] at o
    rw [if_neg (by decide)]
    simp (disch := first | omega | exact b2_01 _ | exact ii0_01 | exact ii1_01 | (simp (disch := omega) only [o, dr_some, Option.isSome_some, gR_wI, Nat.add_mul_mod_self_left, Nat.reduceMod, ak20, ak21, ak22, ak23, ak24, ak25, ak26, ak27, ak28, ak29, ak30, ak31, ak32, ak33, ak34, ak35, ak36, an20, an21, an22, an23, an24, an25, an26, an27, an28, an29, an30, an31, an32, an33, an34, an35, an36, an37, an38, ne_eq, inR_ii, decide_eq_true_eq, lit_ii, of_ii, ii_eq, ii_lt, ii_le]; first | done | omega)) only [o, e_PL_work, b_PL_work_0, o, bk_thr (m := m_PL_work) rfl, dr_some, Option.isSome_some, gR_wI, Nat.add_mul_mod_self_left, Nat.reduceMod, ak20, ak21, ak22, ak23, ak24, ak25, ak26, ak27, ak28, ak29, ak30, ak31, ak32, ak33, ak34, ak35, ak36, an20, an21, an22, an23, an24, an25, an26, an27, an28, an29, an30, an31, an32, an33, an34, an35, an36, an37, an38, ↓reduceIte, bk_int, bk_void, bk_long, bkN_int, bkN_void, bkN_long, Nat.reduceAdd, Nat.reduceMul, Nat.reduceSub, Nat.reduceLT, Nat.reduceLeDiff, if_true, if_false, not_true_eq_false, not_false_eq_true, Bool.true_eq_false, Bool.false_eq_true, b2_eq0, Nat.add_zero, Nat.zero_add, Nat.not_lt_zero, Nat.zero_le, ite_true, ite_false, decide_true, decide_false, lit_ii, of_ii, le_T, le_F, lt_T, lt_F, eq_T, eq_F, ii_add, ii_mul, ii_nat, ii_le, ii_lt, ii_eq, inR_ii, ii_add0]
  | true =>
    rw [hb, if_pos rfl] at o
    rw [if_pos rfl]
    obtain ⟨n, -, hn, rfl⟩ := inrg_T hb (by omega) (by omega)
    rw [ii_nat (by omega)] at o hW ⊢
    obtain ⟨σ1, e1, A1, R1, F1⟩ := o
    have n4 := A.2.1.2.2.2.1
    have n5 := A.2.1.2.2.2.2
    have n1 := A.2.1.1
    have n3 := A1.2.1.2.2.1
    have pa1 := A1.2.2.2.2.2.2.1
    have k4 := pa1.2.2.2.2.1
    have O1 : Fs Cls σ σ1 := F1.mono (fun a z => by unfold Cls; omega)
    have fu := fun d => s_isFull (d := d) pa1.2.2.1 k4
    by_cases z : pw.1 = 16
    · rw [if_pos z]
      refine ⟨wI σ1 11 11 (-ii 1), ?_, OKc.fs (Fs.w O1 (Or.inl rfl)) (fun a z => z), h, l, l2, b, bq, A1.w11 (Or.inl ⟨rfl, rfl⟩)⟩
      have x5 := A1.1.1.2.2.2.2.2.1
      simp (disch := first | omega | exact b2_01 _ | exact ii0_01 | exact ii1_01 | (simp (disch := omega) only [x5, dr_some, Option.isSome_some, gR_wI, Nat.add_mul_mod_self_left, Nat.reduceMod, ak20, ak21, ak22, ak23, ak24, ak25, ak26, ak27, ak28, ak29, ak30, ak31, ak32, ak33, ak34, ak35, ak36, an20, an21, an22, an23, an24, an25, an26, an27, an28, an29, an30, an31, an32, an33, an34, an35, an36, an37, an38, ne_eq, inR_ii, decide_eq_true_eq, lit_ii, of_ii, ii_eq, ii_lt, ii_le]; first | done | omega)) only [x5, e_PL_work, b_PL_work_0, b_PL_work_8, b_PL_work_15, b_PL_work_18, e1, fu, z, dr_some, Option.isSome_some, gR_wI, Nat.add_mul_mod_self_left, Nat.reduceMod, ak20, ak21, ak22, ak23, ak24, ak25, ak26, ak27, ak28, ak29, ak30, ak31, ak32, ak33, ak34, ak35, ak36, an20, an21, an22, an23, an24, an25, an26, an27, an28, an29, an30, an31, an32, an33, an34, an35, an36, an37, an38, ↓reduceIte, bk_int, bk_void, bk_long, bkN_int, bkN_void, bkN_long, Nat.reduceAdd, Nat.reduceMul, Nat.reduceSub, Nat.reduceLT, Nat.reduceLeDiff, if_true, if_false, not_true_eq_false, not_false_eq_true, Bool.true_eq_false, Bool.false_eq_true, b2_eq0, Nat.add_zero, Nat.zero_add, Nat.not_lt_zero, Nat.zero_le, ite_true, ite_false, decide_true, decide_false, lit_ii, of_ii, le_T, le_F, lt_T, lt_F, eq_T, eq_F, ii_add, ii_mul, ii_nat, ii_le, ii_lt, ii_eq, inR_ii, ii_add0]
    · rw [if_neg z]
      have hh := A.2.2.2.2.1.wh.1
      have ha1 := A1.2.2.2.2.1.2.2.2.1
      obtain ⟨σ2, e20, e2, Q2, F2, z4, z5, z6⟩ := s_workWhole (d := d + 9) (n := n) (h := h) (H := H) (by omega) R1 A1.1.2.2.2.1 ⟨ha1.1, ha1.2.1, ha1.2.2.1, by omega, by omega, by omega⟩
      have A2 : CX σ2 h l l2 b bq H w D (0, tp.2) ct B pw im := A1.sc F2.x (fun a z => by unfold SK2 at z; omega) (fun a j _ => F2.R a j) (A1.2.2.2.2.2.1.fx F2.x (by omega) (fun z => by unfold SK2 at z; omega) (fun z => by unfold SK2 at z; omega)) ((F2.I (fun z => by unfold SK2 at z; omega)).trans A1.2.2.2.2.2.2.2.2.1)
      have O2 : Fs Cls σ σ2 := O1.tr (F2.mono (fun a z => by unfold SK2 at z; unfold Cls; omega))
      have ea : callF (d + 70) m_PL_work [.ref 11, .int (ii n)] σ = runF (callF (d + 69)) (d + 69) m_PL_work (52, [some (.ref 11), some (.int (ii n))], [], σ2) := by
        have A := A1
        obtain ⟨⟨⟨x0, x1, x2, x3, x4, x5, x6, x7⟩, y1, y2, y3, y4, y7, y8, y9, y10⟩, cn, ⟨r8, r9, r10⟩, ⟨i1, i2, i3, i4, i5⟩, cl, ba, pa, ta, m0, t1, t2, t3⟩ := id A; obtain ⟨⟨c0, c1, c2⟩, ⟨v0, v1, v2, v3⟩, ⟨g4, g5, g6, g7⟩, dw4, dw5, dw6, dw7⟩ := nn cl; obtain ⟨q0, q1, q2, q3, q4, q5, q6, q7, q8, hv4, hv5, hv6, hv7, hv8⟩ := id cl.2.2.2.1; have hh := cl.wh.1
        simp (disch := first | omega | exact b2_01 _ | exact ii0_01 | exact ii1_01 | (simp (disch := omega) only [x0, x1, x2, x3, x4, x5, x6, x7, r8, r9, r10, c0, c1, c2, g4, g5, g6, g7, q4, q5, q6, q7, q8, dr_some, Option.isSome_some, gR_wI, Nat.add_mul_mod_self_left, Nat.reduceMod, ak20, ak21, ak22, ak23, ak24, ak25, ak26, ak27, ak28, ak29, ak30, ak31, ak32, ak33, ak34, ak35, ak36, an20, an21, an22, an23, an24, an25, an26, an27, an28, an29, an30, an31, an32, an33, an34, an35, an36, an37, an38, ne_eq, inR_ii, decide_eq_true_eq, lit_ii, of_ii, ii_eq, ii_lt, ii_le]; first | done | omega)) only [x0, x1, x2, x3, x4, x5, x6, x7, r8, r9, r10, c0, c1, c2, g4, g5, g6, g7, q4, q5, q6, q7, q8, e_PL_work, b_PL_work_0, b_PL_work_8, b_PL_work_15, b_PL_work_26, b_PL_work_33, e1, e20, e2, fu, z, q0, q1, q2, q3, v0, v1, v2, v3, i1, i2, i3, i4, i5, dr_some, Option.isSome_some, gR_wI, Nat.add_mul_mod_self_left, Nat.reduceMod, ak20, ak21, ak22, ak23, ak24, ak25, ak26, ak27, ak28, ak29, ak30, ak31, ak32, ak33, ak34, ak35, ak36, an20, an21, an22, an23, an24, an25, an26, an27, an28, an29, an30, an31, an32, an33, an34, an35, an36, an37, an38, ↓reduceIte, bk_int, bk_void, bk_long, bkN_int, bkN_void, bkN_long, Nat.reduceAdd, Nat.reduceMul, Nat.reduceSub, Nat.reduceLT, Nat.reduceLeDiff, if_true, if_false, not_true_eq_false, not_false_eq_true, Bool.true_eq_false, Bool.false_eq_true, b2_eq0, Nat.add_zero, Nat.zero_add, Nat.not_lt_zero, Nat.zero_le, ite_true, ite_false, decide_true, decide_false, lit_ii, of_ii, le_T, le_F, lt_T, lt_F, eq_T, eq_F, ii_add, ii_mul, ii_nat, ii_le, ii_lt, ii_eq, inR_ii, ii_add0]
      rw [ea]
      have x1 := A2.1.1.2.1
      have x4 := A2.1.1.2.2.2.2.1
      cases hr : wkAll tp.2 n H with
      | inr G =>
        rw [hr] at Q2
        obtain ⟨p, u, R⟩ := Q2
        have f1 := fun d => s_failed (d := d) R
        have cl := fun d v => s_closeText (d := d) A2 R v
        refine ⟨wI σ2 11 11 (fp (some G)), ?_, OKc.fs (Fs.w O2 (Or.inl rfl)) (fun a z => z), h, l, l2, b, bq, A2.w11 (Or.inl ⟨rfl, rfl⟩)⟩
        simp (disch := first | omega | exact b2_01 _ | exact ii0_01 | exact ii1_01 | (simp (disch := omega) only [x1, x4, dr_some, Option.isSome_some, gR_wI, Nat.add_mul_mod_self_left, Nat.reduceMod, ak20, ak21, ak22, ak23, ak24, ak25, ak26, ak27, ak28, ak29, ak30, ak31, ak32, ak33, ak34, ak35, ak36, an20, an21, an22, an23, an24, an25, an26, an27, an28, an29, an30, an31, an32, an33, an34, an35, an36, an37, an38, ne_eq, inR_ii, decide_eq_true_eq, lit_ii, of_ii, ii_eq, ii_lt, ii_le]; first | done | omega)) only [x1, x4, b_PL_work_52, b_PL_work_59, b_PL_work_107, b_PL_work_118, f1, cl, Option.isSome_some, dr_some, Option.isSome_some, gR_wI, Nat.add_mul_mod_self_left, Nat.reduceMod, ak20, ak21, ak22, ak23, ak24, ak25, ak26, ak27, ak28, ak29, ak30, ak31, ak32, ak33, ak34, ak35, ak36, an20, an21, an22, an23, an24, an25, an26, an27, an28, an29, an30, an31, an32, an33, an34, an35, an36, an37, an38, ↓reduceIte, bk_int, bk_void, bk_long, bkN_int, bkN_void, bkN_long, Nat.reduceAdd, Nat.reduceMul, Nat.reduceSub, Nat.reduceLT, Nat.reduceLeDiff, if_true, if_false, not_true_eq_false, not_false_eq_true, Bool.true_eq_false, Bool.false_eq_true, b2_eq0, Nat.add_zero, Nat.zero_add, Nat.not_lt_zero, Nat.zero_le, ite_true, ite_false, decide_true, decide_false, lit_ii, of_ii, le_T, le_F, lt_T, lt_F, eq_T, eq_F, ii_add, ii_mul, ii_nat, ii_le, ii_lt, ii_eq, inR_ii, ii_add0]
      | inl s =>
        rw [hr] at Q2
        obtain ⟨⟨u, R⟩, C⟩ := Q2
        obtain ⟨w1, w2⟩ := hW s hr
        have f1 := fun d => s_failed (d := d) R
        have pa2 := A2.2.2.2.2.2.2.1
        have wp := A2.2.2.2.2.2.2.2.2.2.2.2
        have dd := A2.2.2.2.2.2.2.2.2.2.2.1
        have n3' := A2.2.1.2.2.1
        obtain ⟨σ3, e3, P3, F3, eN, eS⟩ := s_keepWork (d := d + 66) pa2 A2.2.2.2.2.1.da (by omega) A2.2.1.2.2.1
        have q : ∀ a, (a = 2502 ∨ a = 2597) → a = 2502 ∨ a = 2597 ∨ a = 2662 ∨ (14 ≤ a / 64 ∧ a / 64 ≤ 18) := fun a z => by omega
        have A3 := A2.pst F3 q (A2.2.2.2.2.1.da.fx F3 (by omega) (fun a x y z => by omega)) ⟨A2.2.2.2.2.1.wd, dd⟩ P3 ⟨fun i hi => by
          show dOK H (if i = pw.1 then D else pw.2 i)
          by_cases y : i = pw.1
          · rw [if_pos y]; exact ⟨A2.2.2.2.2.1.wd, dd⟩
          · rw [if_neg y]; exact wp.1 i (by have : i < pw.1 + 1 := hi; omega), wp.2⟩
        have C3 := C.fx F3 n3' (by omega) (by omega) (by omega) (by omega)
        have R3 := R.fx F3 n3' (by omega) (by omega)
        obtain ⟨σ4, e4, L4, -, X4, d4, F4⟩ := s_doAll (d := d + 9) A3.2.2.2.2.1 C3 ⟨(F3.I (by omega) (by omega)).trans z4, (F3.I (by omega) (by omega)).trans z5, (F3.I (by omega) (by omega)).trans z6⟩ dd w1 w2 (by unfold apW; omega)
        have A4 := A3.dx F4 L4 d4
        have R4 := R3.fs F4 (fun z => by unfold Sx Sd at z; omega) (fun z => by unfold Sx Sd at z; omega)
        have A5 : CX (wI σ4 11 12 (ii (wkX H w D s).2.2.2)) h l l2 b bq H w (wkX H w D s).1 (0, tp.2) (ct.1, (wkX H w D s).2.2.2, ct.2.2) B (pw.1 + 1, fun i => if i = pw.1 then D else pw.2 i) im := A4.w11 (Or.inr (Or.inl ⟨rfl, _, rfl, rfl⟩))
        have F5 : Fs (fun a => a = 11) σ4 (wI σ4 11 12 (ii (wkX H w D s).2.2.2)) := Fs.w Fs.rf rfl
        have R5 := R4.fs F5 (by omega) (by omega)
        have cl := fun d v => s_closeText (d := d) A5 R5 v
        have y5 : gI (wI σ4 11 12 (ii (wkX H w D s).2.2.2)) 2250 5 = ii (wkX H w D s).2.2.1 := (F5.I (by omega)).trans X4.2.1
        have y6 : gI σ4 2250 6 = ii (wkX H w D s).2.2.2 := X4.2.2
        have hN4 : hN σ4 = hN σ3 := F4.N
        have hS4 : hS σ4 = hS σ3 := F4.Z
        have hN2 : hN σ2 = hN σ := O2.N
        have hS2 : hS σ2 = hS σ := O2.Z
        refine ⟨wI (wI σ4 11 12 (ii (wkX H w D s).2.2.2)) 11 11 (fp none), ?_, ⟨Fx.wi (Fx.wi ((O2.x.tr (CX.cls F3 q)).tr (F4.x.mono (fun a z => by unfold Sx Sd at z; unfold Cls; omega))) (Or.inl rfl)) (Or.inl rfl), by show hN σ4 ≤ _; omega, by show hS σ4 ≤ _; omega⟩, h, l, l2, b, bq, A5.w11 (Or.inl ⟨rfl, rfl⟩)⟩
        have x2 := A2.1.1.2.2.1
        have x5 := A2.1.1.2.2.2.2.2.1
        have c2 : gR σ2 197 2 = some 897 := A2.2.2.2.2.1.2.2.1
        have x1' := A3.1.1.2.1
        have c33 : gI σ3 2250 3 = ii s.2.1 := C3.2.1
        have x2' := A3.1.1.2.2.1
        have x4' := A3.1.1.2.2.2.2.1
        have x4'' := A4.1.1.2.2.2.2.1
        have x4t : gR (wI σ4 11 12 (ii (wkX H w D s).2.2.2)) 11 3 = some 2250 := A5.1.1.2.2.2.2.1
        simp (disch := first | omega | exact b2_01 _ | exact ii0_01 | exact ii1_01 | (simp (disch := omega) only [x1, x2, x4, x5, c2, x1', x2', x4', x4'', x4t, y5, y6, dr_some, Option.isSome_some, gR_wI, Nat.add_mul_mod_self_left, Nat.reduceMod, ak20, ak21, ak22, ak23, ak24, ak25, ak26, ak27, ak28, ak29, ak30, ak31, ak32, ak33, ak34, ak35, ak36, an20, an21, an22, an23, an24, an25, an26, an27, an28, an29, an30, an31, an32, an33, an34, an35, an36, an37, an38, ne_eq, inR_ii, decide_eq_true_eq, lit_ii, of_ii, ii_eq, ii_lt, ii_le]; first | done | omega)) only [x1, x2, x4, x5, c2, x1', x2', x4', x4'', x4t, y5, y6, b_PL_work_52, b_PL_work_59, b_PL_work_62, b_PL_work_76, b_PL_work_96, b_PL_work_107, b_PL_work_118, f1, e3, e4, c33, cl, Option.isSome_none, dr_some, Option.isSome_some, gR_wI, Nat.add_mul_mod_self_left, Nat.reduceMod, ak20, ak21, ak22, ak23, ak24, ak25, ak26, ak27, ak28, ak29, ak30, ak31, ak32, ak33, ak34, ak35, ak36, an20, an21, an22, an23, an24, an25, an26, an27, an28, an29, an30, an31, an32, an33, an34, an35, an36, an37, an38, ↓reduceIte, bk_int, bk_void, bk_long, bkN_int, bkN_void, bkN_long, Nat.reduceAdd, Nat.reduceMul, Nat.reduceSub, Nat.reduceLT, Nat.reduceLeDiff, if_true, if_false, not_true_eq_false, not_false_eq_true, Bool.true_eq_false, Bool.false_eq_true, b2_eq0, Nat.add_zero, Nat.zero_add, Nat.not_lt_zero, Nat.zero_le, ite_true, ite_false, decide_true, decide_false, lit_ii, of_ii, le_T, le_F, lt_T, lt_F, eq_T, eq_F, ii_add, ii_mul, ii_nat, ii_le, ii_lt, ii_eq, inR_ii, ii_add0]
