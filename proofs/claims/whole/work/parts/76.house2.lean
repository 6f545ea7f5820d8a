theorem CX.mv {σ σ' : HP} {h l l2 b bq N : Nat} {H H' : HH} {w w' : LW} {D D' : DN} {tp : TPE} {ct : CNT} {B B' : BK} {pw : PW} {im : IMS} {S : Nat → Prop} (A : CX σ h l l2 b bq H w D tp ct B pw im) (F : Fx S σ σ') (q : ∀ a, S a → a = 197 ∨ a = 4 + 64 * l ∨ a = 29 + 64 * (l + 1) ∨ (14 ≤ a / 64 ∧ a / 64 ≤ 18) ∨ a = 64 * b ∨ a = 2502) (rk : ∀ a j, a / 64 < 88 → a ≠ 197 → gR σ' a j = gR σ a j) (L : CL σ' 3 N l 14 H' w' D') (hB : BA σ' b B') (j1 : gI σ' 2502 1 = ii 0) (j3 : gI σ' 2502 3 = ii 0) (h1 : 88 ≤ N) (h2 : N + 5 < hN σ') (d86 : D' 86 ≤ 400) : CX σ' N l l2 b bq H' w' D' tp ct B' (0, pw.2) (0, im.2) := by
  obtain ⟨cf, cn, ⟨r8, r9, r10⟩, ⟨i1, i2, i3, i4, i5⟩, cl, ba, pa, ta, m0, t1, t2, t3⟩ := A
  obtain ⟨n1, n2, n3, n4, n5⟩ := cn
  have s11 : ¬ S 11 := fun z => by have := q _ z; omega
  obtain ⟨k0, k1, k2, k3, k4, k5, k6, k7⟩ := pa
  refine ⟨cf.of (fun a j k => rk a j (by unfold kc at k; omega) (by unfold kc at k; omega)), ⟨Or.inr h1, h2, by omega, n4, n5⟩, ⟨(rk _ _ (by omega) (by omega)).trans r8, (rk _ _ (by omega) (by omega)).trans r9, (rk _ _ (by omega) (by omega)).trans r10⟩, ⟨(F.I (by omega) s11).trans i1, (F.I (by omega) s11).trans i2, (F.I (by omega) s11).trans i3, (F.I (by omega) s11).trans i4, (F.I (by omega) s11).trans i5⟩, L, hB, ⟨(rk _ _ (by omega) (by omega)).trans k0, (rk _ _ (by omega) (by omega)).trans k1, j1, j3, Nat.zero_le _, Nat.zero_le _, ⟨fun i hi => absurd hi (Nat.not_lt_zero _), fun i hi => by rw [rk _ _ (by omega) (by omega)]; exact k6.2 i hi⟩, fun i hi => absurd hi (Nat.not_lt_zero _)⟩, fun i hi => ?_, (F.I (by omega) (fun z => by have := q _ z; omega)).trans m0, t1, d86, fun i hi => absurd hi (Nat.not_lt_zero _), fun i hi => absurd hi (Nat.not_lt_zero _)⟩
  rw [F.I (by omega) (fun z => by have := q _ z; omega)]
  exact ta i hi
theorem z_house {d : Nat} {σ : HP} {h l l2 b bq : Nat} {H : HH} {w : LW} {D : DN} {tp : TPE} {ct : CNT} {B : BK} {pw : PW} {im : IMS} (A : CX σ h l l2 b bq H w D tp ct B pw im) (x : Int32) : if inrg 0 (min 600 tp.1) x then (match hsAll tp.2 x.toNatClampNeg with
    | .inl s => PQ σ (callF (d + 70) m_PL_house [.ref 11, .int x] σ) (ii (hm s.2)) (fun τ => CW τ s.2 usL (begN s.2) (0, tp.2) (-ii 1, 0, ct.2.2) (0, fun _ => none) (0, pw.2) (0, im.2))
    | .inr G => PQ σ (callF (d + 70) m_PL_house [.ref 11, .int x] σ) (fk (some G) - ii 10) (fun τ => CW τ H w D (0, tp.2) (fp (some G), ct.2) B pw im)) else callF (d + 70) m_PL_house [.ref 11, .int x] σ = some (.inr 1, rfA σ (ct.2.2.2 + 1)) := by
  have o := z_house0 (d := d) A x
  cases hb : inrg 0 (min 600 tp.1) x with
  | false =>
    rw [hb, if_neg (by decide)] at o
    rw [if_neg (by decide)]
    exact o
  | true =>
    rw [hb, if_pos rfl] at o
    rw [if_pos rfl]
    obtain ⟨σ2, N, ea, hN1, hN2, A2, Q2, F2, zN, zS⟩ := o
    have x1 := A2.1.1.2.1
    have x2 := A2.1.1.2.2.1
    have n3 := A2.2.1.2.2.1
    have n4 := A2.2.1.2.2.2.1
    have n5 := A2.2.1.2.2.2.2
    rw [ea]
    cases hr : hsAll tp.2 x.toNatClampNeg with
    | inr G =>
      rw [hr] at Q2
      obtain ⟨p, u, R⟩ := Q2
      have f1 := fun d => s_failed (d := d) R
      have cl := fun d v => s_closeText (d := d) A2 R v
      refine ⟨wI σ2 11 11 (fp (some G)), ?_, ⟨Fx.wi F2 (Or.inl rfl), by show hN σ2 ≤ _; omega, by show hS σ2 ≤ _; omega⟩, h, l, l2, b, bq, A2.w11 (Or.inl ⟨rfl, rfl⟩)⟩
      simp (disch := first | omega | exact b2_01 _ | exact ii0_01 | exact ii1_01 | (simp (disch := omega) only [x1, dr_some, Option.isSome_some, gR_wI, Nat.add_mul_mod_self_left, Nat.reduceMod, ak20, ak21, ak22, ak23, ak24, ak25, ak26, ak27, ak28, ak29, ak30, ak31, ak32, ak33, ak34, ak35, ak36, an20, an21, an22, an23, an24, an25, an26, an27, an28, an29, an30, an31, an32, an33, an34, an35, an36, an37, an38, ne_eq, inR_ii, decide_eq_true_eq, lit_ii, of_ii, ii_eq, ii_lt, ii_le]; first | done | omega)) only [x1, b_PL_house_24, b_PL_house_31, b_PL_house_61, b_PL_house_69, f1, cl, Option.isSome_some, dr_some, Option.isSome_some, gR_wI, Nat.add_mul_mod_self_left, Nat.reduceMod, ak20, ak21, ak22, ak23, ak24, ak25, ak26, ak27, ak28, ak29, ak30, ak31, ak32, ak33, ak34, ak35, ak36, an20, an21, an22, an23, an24, an25, an26, an27, an28, an29, an30, an31, an32, an33, an34, an35, an36, an37, an38, ↓reduceIte, bk_int, bk_void, bk_long, bkN_int, bkN_void, bkN_long, Nat.reduceAdd, Nat.reduceMul, Nat.reduceSub, Nat.reduceLT, Nat.reduceLeDiff, if_true, if_false, not_true_eq_false, not_false_eq_true, Bool.true_eq_false, Bool.false_eq_true, b2_eq0, Nat.add_zero, Nat.zero_add, Nat.not_lt_zero, Nat.zero_le, ite_true, ite_false, decide_true, decide_false, lit_ii, of_ii, le_T, le_F, lt_T, lt_F, eq_T, eq_F, ii_add, ii_mul, ii_nat, ii_le, ii_lt, ii_eq, inR_ii, ii_add0]
    | inl s =>
      rw [hr] at Q2
      obtain ⟨⟨u, R⟩, H2⟩ := Q2
      have f1 := fun d => s_failed (d := d) R
      have hw : wH s.2 := by
        have := hsL_fwd (T := tp.2) (n := x.toNatClampNeg) (x.toNatClampNeg + 1) 0 (0, H0) (Nat.zero_le _) wH0
        rw [show hsL tp.2 x.toNatClampNeg (x.toNatClampNeg + 1) 0 (0, H0) = .inl s from hr] at this
        exact this.2
      obtain ⟨σ3, e3, L3, k3, z3, F3, rk3⟩ := s_moveInto (d := d + 66) A2.2.2.2.2.1 H2 hw hN1 (by omega)
      have b2' := A2.2.2.2.2.2.1.br
      have b3 : BR σ3 b := ⟨(rk3 _ _ (by omega)).trans b2'.1, (rk3 _ _ (by omega)).trans b2'.2.1, (rk3 _ _ (by omega)).trans b2'.2.2.1, (rk3 _ _ (by omega)).trans b2'.2.2.2⟩
      obtain ⟨σ4, e4, B4, F4⟩ := s_wipe (d := d + 68) b3
      have F5 : Fs (fun a => a = 2502) σ4 (wI (wI σ4 2502 1 (ii 0)) 2502 3 (ii 0)) := Fs.w (Fs.w Fs.rf rfl) rfl
      have q : ∀ a, (a = 197 ∨ a = 4 + 64 * l ∨ a = 29 + 64 * (l + 1) ∨ (14 ≤ a / 64 ∧ a / 64 ≤ 18) ∨ a = 64 * b ∨ a = 2502) → a = 197 ∨ a = 4 + 64 * l ∨ a = 29 + 64 * (l + 1) ∨ (14 ≤ a / 64 ∧ a / 64 ≤ 18) ∨ a = 64 * b ∨ a = 2502 := fun a z => z
      have F : Fx (fun a => a = 197 ∨ a = 4 + 64 * l ∨ a = 29 + 64 * (l + 1) ∨ (14 ≤ a / 64 ∧ a / 64 ≤ 18) ∨ a = 64 * b ∨ a = 2502) σ2 (wI (wI σ4 2502 1 (ii 0)) 2502 3 (ii 0)) := (F3.mono (fun a z => by omega)).tr ((F4.x.mono (fun a z => by omega)).tr (F5.x.mono (fun a z => by omega)))
      have L4 := L3.fs F4 (fun a x y z => by omega) (fun a x y z => by omega) (fun a x y z => by omega)
      have L5 := L4.fs F5 (fun a x y z => by omega) (fun a x y z => by omega) (fun a x y z => by omega)
      have k4 : hN σ4 = hN σ3 := F4.N
      have z4 : hS σ4 = hS σ3 := F4.Z
      have A5 := A2.mv F q (fun a j x y => (F5.R _ _).trans ((F4.R _ _).trans (rk3 a j y))) L5 (B4.fx F5.x (by omega) (fun z => by omega) (fun z => by omega)) (by rw [gI_nj (by decide), gI_at]) gI_at hN1 (by show N + 5 < hN σ4; omega) (by unfold begN; rw [if_neg (by decide)]; omega)
      have R5 := R.fx F n3 (fun z => by omega) (fun z => by omega)
      have A6 := A5.w11 (ct' := (ct.1, 0, ct.2.2)) (j := 12) (v := ii 0) (Or.inr (Or.inl ⟨rfl, 0, rfl, rfl⟩))
      have F6 : Fs (fun a => a = 11) (wI (wI σ4 2502 1 (ii 0)) 2502 3 (ii 0)) (wI (wI (wI σ4 2502 1 (ii 0)) 2502 3 (ii 0)) 11 12 (ii 0)) := Fs.w Fs.rf rfl
      have R6 := R5.fs F6 (by omega) (by omega)
      have cl := fun d v => s_closeText (d := d) A6 R6 v
      have y1 : gI (wI (wI (wI σ4 2502 1 (ii 0)) 2502 3 (ii 0)) 11 12 (ii 0)) (2 + 64 * N) 1 = ii (hm s.2) := A6.2.2.2.2.1.2.2.2.1.2.1
      have x9 := A2.2.2.1.2.1
      have x9' : gR σ3 11 8 = some (64 * b) := (rk3 _ _ (by omega)).trans x9
      have x5' : gR σ4 11 4 = some 2502 := (F4.R _ _).trans ((rk3 _ _ (by omega)).trans A2.1.1.2.2.2.2.2.1)
      refine ⟨wI (wI (wI (wI σ4 2502 1 (ii 0)) 2502 3 (ii 0)) 11 12 (ii 0)) 11 11 (fp none), ?_, ⟨Fx.wi (Fx.wi (F2.tr (F.mono (fun a z => by unfold Cls; omega))) (Or.inl rfl)) (Or.inl rfl), by show hN σ4 ≤ _; omega, by show hS σ4 ≤ _; omega⟩, N, l, l2, b, bq, A6.w11 (Or.inl ⟨rfl, rfl⟩)⟩
      simp (disch := first | omega | exact b2_01 _ | exact ii0_01 | exact ii1_01 | (simp (disch := omega) only [x1, x2, x9', x5', y1, dr_some, Option.isSome_some, gR_wI, Nat.add_mul_mod_self_left, Nat.reduceMod, ak20, ak21, ak22, ak23, ak24, ak25, ak26, ak27, ak28, ak29, ak30, ak31, ak32, ak33, ak34, ak35, ak36, an20, an21, an22, an23, an24, an25, an26, an27, an28, an29, an30, an31, an32, an33, an34, an35, an36, an37, an38, ne_eq, inR_ii, decide_eq_true_eq, lit_ii, of_ii, ii_eq, ii_lt, ii_le]; first | done | omega)) only [x1, x2, x9', x5', y1, b_PL_house_24, b_PL_house_31, b_PL_house_34, b_PL_house_42, b_PL_house_49, b_PL_house_56, b_PL_house_61, b_PL_house_69, e_Past_forgetAll, b_Past_forgetAll_0, f1, e3, e4, cl, Option.isSome_none, dr_some, Option.isSome_some, gR_wI, Nat.add_mul_mod_self_left, Nat.reduceMod, ak20, ak21, ak22, ak23, ak24, ak25, ak26, ak27, ak28, ak29, ak30, ak31, ak32, ak33, ak34, ak35, ak36, an20, an21, an22, an23, an24, an25, an26, an27, an28, an29, an30, an31, an32, an33, an34, an35, an36, an37, an38, ↓reduceIte, bk_int, bk_void, bk_long, bkN_int, bkN_void, bkN_long, Nat.reduceAdd, Nat.reduceMul, Nat.reduceSub, Nat.reduceLT, Nat.reduceLeDiff, if_true, if_false, not_true_eq_false, not_false_eq_true, Bool.true_eq_false, Bool.false_eq_true, b2_eq0, Nat.add_zero, Nat.zero_add, Nat.not_lt_zero, Nat.zero_le, ite_true, ite_false, decide_true, decide_false, lit_ii, of_ii, le_T, le_F, lt_T, lt_F, eq_T, eq_F, ii_add, ii_mul, ii_nat, ii_le, ii_lt, ii_eq, inR_ii, ii_add0]
