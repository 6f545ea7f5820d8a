theorem jj_int {a : Nat} (h : a < 9223372036854775808) : (jj a).toInt = a := Int64.toInt_ofNat_of_lt h
theorem jj_div {a b : Nat} (ha : a < 9223372036854775808) (hb : b < 9223372036854775808) : jj a / jj b = jj (a / b) := (Int64.ofNat_div ha hb).symm
theorem jj_sub {a b : Nat} (h : b ≤ a) : jj a - jj b = jj (a - b) := (Int64.ofNat_sub a b h).symm
theorem jj_rem {a b : Nat} (ha : a < 9223372036854775808) (hb : b < 9223372036854775808) : p_remL (jj a) (jj b) = jj (a % b) := by
  unfold p_remL
  rw [jj_div ha hb, jj_mul, jj_sub (Nat.div_mul_le_self a b)]
  congr 1
  have := Nat.div_add_mod' a b
  omega
theorem jj_cmp0 {a : Nat} (h : a < 9223372036854775808) : (lg_cmp (jj a) (jj 0) = ii 0) = (a = 0) := by
  apply propext
  unfold lg_cmp
  constructor
  · intro e
    by_cases z : jj a > jj 0
    · rw [if_pos z] at e
      exact absurd e (by decide)
    · rw [if_neg z] at e
      by_cases z2 : jj a = jj 0
      · have := congrArg Int64.toInt z2
        rw [jj_int h, jj_int (by omega)] at this
        omega
      · rw [if_neg z2] at e
        exact absurd e (by decide)
  · rintro rfl
    decide
theorem shlL1 : ∀ n, n ≤ 12 → p_shlL (jj 1) (ii (4 * n)) = jj (2 ^ (4 * n)) := by
  intro n hn
  have : ∀ k : Fin 13, p_shlL (jj 1) (ii (4 * k.val)) = jj (2 ^ (4 * k.val)) := by decide +kernel
  exact this ⟨n, by omega⟩
theorem wy_sum (q c : Nat) (W : Nat → Nat) : ∀ k, sumTo (fun j => if j = 0 then c else W (j - 1) * q) (k + 1) = c + sumTo W k * q := by
  intro k
  induction k with
  | zero => show 0 + (if (0 : Nat) = 0 then c else _) = c + 0 * q; rw [if_pos rfl]; omega
  | succ k ih =>
    show sumTo (fun j => if j = 0 then c else W (j - 1) * q) (k + 1) + (if k + 1 = 0 then c else W (k + 1 - 1) * q) = c + (sumTo W k + W k) * q
    rw [ih, if_neg (by omega), Nat.add_mul]
    show c + sumTo W k * q + W k * q = _
    omega
theorem wy_step {k q : Nat} {W : Nat → Nat} (hk : 1 ≤ k) (hq : q ≤ 16) : sumTo (wyN k q W) k ≤ sumTo W k * 16 := by
  obtain ⟨k, rfl⟩ : ∃ j, k = j + 1 := ⟨k - 1, by omega⟩
  have e : sumTo (wyN (k + 1) q W) (k + 1) = sumTo (fun j => if j = 0 then sumTo W (k + 1) * (16 - q) else W (j - 1) * q) (k + 1) := sumTo_congr (fun j hj => by
    unfold wyN
    by_cases z : j = 0
    · rw [if_pos z, if_pos z]
    · rw [if_neg z, if_neg z, if_pos hj])
  rw [e, wy_sum]
  have h1 : sumTo W k * q ≤ sumTo W (k + 1) * q := Nat.mul_le_mul_right q (Nat.le_add_right _ _)
  have h2 : sumTo W (k + 1) * 16 = sumTo W (k + 1) * (16 - q) + sumTo W (k + 1) * q := by rw [← Nat.mul_add]; congr 1; omega
  omega
theorem wy_le {k q : Nat} (hk : 1 ≤ k) (hq : q ≤ 16) : ∀ n, sumTo (it (wyN k q) n wy0) k ≤ 16 ^ n := by
  intro n
  induction n with
  | zero =>
    show sumTo wy0 k ≤ 1
    have : ∀ j, sumTo wy0 j ≤ 1 ∧ (j = 0 → sumTo wy0 j = 0) ∧ (0 < j → sumTo wy0 j = 1) := by
      intro j
      induction j with
      | zero => exact ⟨Nat.zero_le _, fun _ => rfl, fun h => absurd h (Nat.lt_irrefl _)⟩
      | succ j ih =>
        have e : sumTo wy0 (j + 1) = sumTo wy0 j + wy0 j := rfl
        by_cases z : j = 0
        · have := ih.2.1 z
          have w0 : wy0 j = 1 := by unfold wy0; rw [if_pos z]
          omega
        · have := ih.2.2 (by omega)
          have w0 : wy0 j = 0 := by unfold wy0; rw [if_neg z]
          omega
    exact (this k).1
  | succ n ih =>
    have := wy_step (W := it (wyN k q) n wy0) hk hq
    rw [Nat.pow_succ]
    exact Nat.le_trans this (Nat.mul_le_mul_right 16 ih)
def hlv2 : Nat → Nat → Nat → Nat × Nat
  | 0, a, b => (a, b)
  | f + 1, a, b => if a % 2 = 0 then (if b % 2 = 0 then hlv2 f (a / 2) (b / 2) else (a, b)) else (a, b)
def skV (n k q g : Nat) : Nat := if g = 0 then (hlv2 48 (sumTo (it (wyN k q) n wy0) k) (2 ^ (4 * n))).1 else (hlv2 48 (sumTo (it (wyN k q) n wy0) k) (2 ^ (4 * n))).2
def PQL (σ : HP) (r : Option Res) (v : Int64) (X : HP → Prop) : Prop := ∃ σ', r = some (.inl (some (.long v)), σ') ∧ OKc σ σ' ∧ X σ'
theorem z_streak {d : Nat} {σ : HP} {h l l2 b bq : Nat} {H : HH} {w : LW} {D : DN} {tp : TPE} {ct : CNT} {B : BK} {pw : PW} {im : IMS} (A : CX σ h l l2 b bq H w D tp ct B pw im) (x y z v : Int32) : if inrg 0 12 x && (inrg 1 12 y && (inrg 0 16 z && inrg 0 1 v)) then PQL σ (callF (d + 70) m_PL_streak [.ref 11, .int x, .int y, .int z, .int v] σ) (jj (skV x.toNatClampNeg y.toNatClampNeg z.toNatClampNeg v.toNatClampNeg)) (fun τ => CX τ h l l2 b bq H w D tp ct B pw im) else callF (d + 70) m_PL_streak [.ref 11, .int x, .int y, .int z, .int v] σ = some (.inr 1, rfA σ (ct.2.2.2 + 1)) := by
  have nf := fun d => s_needArgF (d := d) A.2.2.2.1.2.2.2.2
  have hw0 := fun d => s_wr (d := d) (a := 0) (b := 12) (x := x) (σ := σ)
  have hw1 := fun d => s_wr (d := d) (a := 1) (b := 12) (x := y) (σ := σ)
  have hw2 := fun d => s_wr (d := d) (a := 0) (b := 16) (x := z) (σ := σ)
  have hw3 := fun d => s_wr (d := d) (a := 0) (b := 1) (x := v) (σ := σ)
  have A0 := A
  cases hb0 : inrg 0 12 x with
  | false =>
    obtain ⟨⟨⟨x0, x1, x2, x3, x4, x5, x6, x7⟩, y1, y2, y3, y4, y7, y8, y9, y10⟩, cn, ⟨r8, r9, r10⟩, ⟨i1, i2, i3, i4, i5⟩, cl, ba, pa, ta, m0, t1, t2, t3⟩ := id A; obtain ⟨⟨c0, c1, c2⟩, ⟨v0, v1, v2, v3⟩, ⟨g4, g5, g6, g7⟩, dw4, dw5, dw6, dw7⟩ := nn cl; obtain ⟨q0, q1, q2, q3, q4, q5, q6, q7, q8, hv4, hv5, hv6, hv7, hv8⟩ := id cl.2.2.2.1; have hh := cl.wh.1
    rw [hb0] at hw0
    rw [Bool.false_and, if_neg (by decide)]
    simp (disch := first | omega | exact b2_01 _ | exact ii0_01 | exact ii1_01 | (simp (disch := omega) only [x0, x1, x2, x3, x4, x5, x6, x7, r8, r9, r10, c0, c1, c2, g4, g5, g6, g7, q4, q5, q6, q7, q8, dr_some, Option.isSome_some, gR_wI, Nat.add_mul_mod_self_left, Nat.reduceMod, ak20, ak21, ak22, ak23, ak24, ak25, ak26, ak27, ak28, ak29, ak30, ak31, ak32, ak33, ak34, ak35, ak36, an20, an21, an22, an23, an24, an25, an26, an27, an28, an29, an30, an31, an32, an33, an34, an35, an36, an37, an38, ne_eq, inR_ii, decide_eq_true_eq, lit_ii, of_ii, ii_eq, ii_lt, ii_le]; first | done | omega)) only [x0, x1, x2, x3, x4, x5, x6, x7, r8, r9, r10, c0, c1, c2, g4, g5, g6, g7, q4, q5, q6, q7, q8, e_PL_streak, b_PL_streak_0, b_PL_streak_8, hw0, nf, bk_thr (m := m_PL_streak) rfl, q0, q1, q2, q3, v0, v1, v2, v3, i1, i2, i3, i4, i5, dr_some, Option.isSome_some, gR_wI, Nat.add_mul_mod_self_left, Nat.reduceMod, ak20, ak21, ak22, ak23, ak24, ak25, ak26, ak27, ak28, ak29, ak30, ak31, ak32, ak33, ak34, ak35, ak36, an20, an21, an22, an23, an24, an25, an26, an27, an28, an29, an30, an31, an32, an33, an34, an35, an36, an37, an38, ↓reduceIte, bk_int, bk_void, bk_long, bkN_int, bkN_void, bkN_long, Nat.reduceAdd, Nat.reduceMul, Nat.reduceSub, Nat.reduceLT, Nat.reduceLeDiff, if_true, if_false, not_true_eq_false, not_false_eq_true, Bool.true_eq_false, Bool.false_eq_true, b2_eq0, Nat.add_zero, Nat.zero_add, Nat.not_lt_zero, Nat.zero_le, ite_true, ite_false, decide_true, decide_false, lit_ii, of_ii, le_T, le_F, lt_T, lt_F, eq_T, eq_F, ii_add, ii_mul, ii_nat, ii_le, ii_lt, ii_eq, inR_ii, ii_add0]
  | true =>
    rw [hb0] at hw0
    rw [Bool.true_and]
    cases hb1 : inrg 1 12 y with
    | false =>
      obtain ⟨⟨⟨x0, x1, x2, x3, x4, x5, x6, x7⟩, y1, y2, y3, y4, y7, y8, y9, y10⟩, cn, ⟨r8, r9, r10⟩, ⟨i1, i2, i3, i4, i5⟩, cl, ba, pa, ta, m0, t1, t2, t3⟩ := id A; obtain ⟨⟨c0, c1, c2⟩, ⟨v0, v1, v2, v3⟩, ⟨g4, g5, g6, g7⟩, dw4, dw5, dw6, dw7⟩ := nn cl; obtain ⟨q0, q1, q2, q3, q4, q5, q6, q7, q8, hv4, hv5, hv6, hv7, hv8⟩ := id cl.2.2.2.1; have hh := cl.wh.1
      rw [hb1] at hw1
      rw [Bool.false_and, if_neg (by decide)]
      simp (disch := first | omega | exact b2_01 _ | exact ii0_01 | exact ii1_01 | (simp (disch := omega) only [x0, x1, x2, x3, x4, x5, x6, x7, r8, r9, r10, c0, c1, c2, g4, g5, g6, g7, q4, q5, q6, q7, q8, dr_some, Option.isSome_some, gR_wI, Nat.add_mul_mod_self_left, Nat.reduceMod, ak20, ak21, ak22, ak23, ak24, ak25, ak26, ak27, ak28, ak29, ak30, ak31, ak32, ak33, ak34, ak35, ak36, an20, an21, an22, an23, an24, an25, an26, an27, an28, an29, an30, an31, an32, an33, an34, an35, an36, an37, an38, ne_eq, inR_ii, decide_eq_true_eq, lit_ii, of_ii, ii_eq, ii_lt, ii_le]; first | done | omega)) only [x0, x1, x2, x3, x4, x5, x6, x7, r8, r9, r10, c0, c1, c2, g4, g5, g6, g7, q4, q5, q6, q7, q8, e_PL_streak, b_PL_streak_0, b_PL_streak_8, b_PL_streak_11, b_PL_streak_19, hw0, hw1, s_needArgT, nf, bk_thr (m := m_PL_streak) rfl, q0, q1, q2, q3, v0, v1, v2, v3, i1, i2, i3, i4, i5, dr_some, Option.isSome_some, gR_wI, Nat.add_mul_mod_self_left, Nat.reduceMod, ak20, ak21, ak22, ak23, ak24, ak25, ak26, ak27, ak28, ak29, ak30, ak31, ak32, ak33, ak34, ak35, ak36, an20, an21, an22, an23, an24, an25, an26, an27, an28, an29, an30, an31, an32, an33, an34, an35, an36, an37, an38, ↓reduceIte, bk_int, bk_void, bk_long, bkN_int, bkN_void, bkN_long, Nat.reduceAdd, Nat.reduceMul, Nat.reduceSub, Nat.reduceLT, Nat.reduceLeDiff, if_true, if_false, not_true_eq_false, not_false_eq_true, Bool.true_eq_false, Bool.false_eq_true, b2_eq0, Nat.add_zero, Nat.zero_add, Nat.not_lt_zero, Nat.zero_le, ite_true, ite_false, decide_true, decide_false, lit_ii, of_ii, le_T, le_F, lt_T, lt_F, eq_T, eq_F, ii_add, ii_mul, ii_nat, ii_le, ii_lt, ii_eq, inR_ii, ii_add0]
    | true =>
      rw [hb1] at hw1
      rw [Bool.true_and]
      cases hb2 : inrg 0 16 z with
      | false =>
        obtain ⟨⟨⟨x0, x1, x2, x3, x4, x5, x6, x7⟩, y1, y2, y3, y4, y7, y8, y9, y10⟩, cn, ⟨r8, r9, r10⟩, ⟨i1, i2, i3, i4, i5⟩, cl, ba, pa, ta, m0, t1, t2, t3⟩ := id A; obtain ⟨⟨c0, c1, c2⟩, ⟨v0, v1, v2, v3⟩, ⟨g4, g5, g6, g7⟩, dw4, dw5, dw6, dw7⟩ := nn cl; obtain ⟨q0, q1, q2, q3, q4, q5, q6, q7, q8, hv4, hv5, hv6, hv7, hv8⟩ := id cl.2.2.2.1; have hh := cl.wh.1
        rw [hb2] at hw2
        rw [Bool.false_and, if_neg (by decide)]
        simp (disch := first | omega | exact b2_01 _ | exact ii0_01 | exact ii1_01 | (simp (disch := omega) only [x0, x1, x2, x3, x4, x5, x6, x7, r8, r9, r10, c0, c1, c2, g4, g5, g6, g7, q4, q5, q6, q7, q8, dr_some, Option.isSome_some, gR_wI, Nat.add_mul_mod_self_left, Nat.reduceMod, ak20, ak21, ak22, ak23, ak24, ak25, ak26, ak27, ak28, ak29, ak30, ak31, ak32, ak33, ak34, ak35, ak36, an20, an21, an22, an23, an24, an25, an26, an27, an28, an29, an30, an31, an32, an33, an34, an35, an36, an37, an38, ne_eq, inR_ii, decide_eq_true_eq, lit_ii, of_ii, ii_eq, ii_lt, ii_le]; first | done | omega)) only [x0, x1, x2, x3, x4, x5, x6, x7, r8, r9, r10, c0, c1, c2, g4, g5, g6, g7, q4, q5, q6, q7, q8, e_PL_streak, b_PL_streak_0, b_PL_streak_8, b_PL_streak_11, b_PL_streak_19, b_PL_streak_22, b_PL_streak_30, hw0, hw1, hw2, s_needArgT, nf, bk_thr (m := m_PL_streak) rfl, q0, q1, q2, q3, v0, v1, v2, v3, i1, i2, i3, i4, i5, dr_some, Option.isSome_some, gR_wI, Nat.add_mul_mod_self_left, Nat.reduceMod, ak20, ak21, ak22, ak23, ak24, ak25, ak26, ak27, ak28, ak29, ak30, ak31, ak32, ak33, ak34, ak35, ak36, an20, an21, an22, an23, an24, an25, an26, an27, an28, an29, an30, an31, an32, an33, an34, an35, an36, an37, an38, ↓reduceIte, bk_int, bk_void, bk_long, bkN_int, bkN_void, bkN_long, Nat.reduceAdd, Nat.reduceMul, Nat.reduceSub, Nat.reduceLT, Nat.reduceLeDiff, if_true, if_false, not_true_eq_false, not_false_eq_true, Bool.true_eq_false, Bool.false_eq_true, b2_eq0, Nat.add_zero, Nat.zero_add, Nat.not_lt_zero, Nat.zero_le, ite_true, ite_false, decide_true, decide_false, lit_ii, of_ii, le_T, le_F, lt_T, lt_F, eq_T, eq_F, ii_add, ii_mul, ii_nat, ii_le, ii_lt, ii_eq, inR_ii, ii_add0]
      | true =>
        rw [hb2] at hw2
        rw [Bool.true_and]
        cases hb3 : inrg 0 1 v with
        | false =>
          obtain ⟨⟨⟨x0, x1, x2, x3, x4, x5, x6, x7⟩, y1, y2, y3, y4, y7, y8, y9, y10⟩, cn, ⟨r8, r9, r10⟩, ⟨i1, i2, i3, i4, i5⟩, cl, ba, pa, ta, m0, t1, t2, t3⟩ := id A; obtain ⟨⟨c0, c1, c2⟩, ⟨v0, v1, v2, v3⟩, ⟨g4, g5, g6, g7⟩, dw4, dw5, dw6, dw7⟩ := nn cl; obtain ⟨q0, q1, q2, q3, q4, q5, q6, q7, q8, hv4, hv5, hv6, hv7, hv8⟩ := id cl.2.2.2.1; have hh := cl.wh.1
          rw [hb3] at hw3
          rw [if_neg (by decide)]
          simp (disch := first | omega | exact b2_01 _ | exact ii0_01 | exact ii1_01 | (simp (disch := omega) only [x0, x1, x2, x3, x4, x5, x6, x7, r8, r9, r10, c0, c1, c2, g4, g5, g6, g7, q4, q5, q6, q7, q8, dr_some, Option.isSome_some, gR_wI, Nat.add_mul_mod_self_left, Nat.reduceMod, ak20, ak21, ak22, ak23, ak24, ak25, ak26, ak27, ak28, ak29, ak30, ak31, ak32, ak33, ak34, ak35, ak36, an20, an21, an22, an23, an24, an25, an26, an27, an28, an29, an30, an31, an32, an33, an34, an35, an36, an37, an38, ne_eq, inR_ii, decide_eq_true_eq, lit_ii, of_ii, ii_eq, ii_lt, ii_le]; first | done | omega)) only [x0, x1, x2, x3, x4, x5, x6, x7, r8, r9, r10, c0, c1, c2, g4, g5, g6, g7, q4, q5, q6, q7, q8, e_PL_streak, b_PL_streak_0, b_PL_streak_8, b_PL_streak_11, b_PL_streak_19, b_PL_streak_22, b_PL_streak_30, b_PL_streak_33, b_PL_streak_41, hw0, hw1, hw2, hw3, s_needArgT, nf, bk_thr (m := m_PL_streak) rfl, q0, q1, q2, q3, v0, v1, v2, v3, i1, i2, i3, i4, i5, dr_some, Option.isSome_some, gR_wI, Nat.add_mul_mod_self_left, Nat.reduceMod, ak20, ak21, ak22, ak23, ak24, ak25, ak26, ak27, ak28, ak29, ak30, ak31, ak32, ak33, ak34, ak35, ak36, an20, an21, an22, an23, an24, an25, an26, an27, an28, an29, an30, an31, an32, an33, an34, an35, an36, an37, an38, ↓reduceIte, bk_int, bk_void, bk_long, bkN_int, bkN_void, bkN_long, Nat.reduceAdd, Nat.reduceMul, Nat.reduceSub, Nat.reduceLT, Nat.reduceLeDiff, if_true, if_false, not_true_eq_false, not_false_eq_true, Bool.true_eq_false, Bool.false_eq_true, b2_eq0, Nat.add_zero, Nat.zero_add, Nat.not_lt_zero, Nat.zero_le, ite_true, ite_false, decide_true, decide_false, lit_ii, of_ii, le_T, le_F, lt_T, lt_F, eq_T, eq_F, ii_add, ii_mul, ii_nat, ii_le, ii_lt, ii_eq, inR_ii, ii_add0]
        | true =>
          rw [hb3] at hw3
          obtain ⟨n, g0, k0, rfl⟩ := inrg_T hb0 (by omega) (by omega)
          obtain ⟨k, g1, k1, rfl⟩ := inrg_T hb1 (by omega) (by omega)
          obtain ⟨q, g2, k2, rfl⟩ := inrg_T hb2 (by omega) (by omega)
          obtain ⟨g, g3, k3, rfl⟩ := inrg_T hb3 (by omega) (by omega)
          rw [if_pos rfl, ii_nat (by omega), ii_nat (by omega), ii_nat (by omega), ii_nat (by omega)]
          obtain ⟨τ, e, F⟩ := s_waysWithoutRun (d := d + 67) (u := 42) (n := n) (k := k) (q := q) A.1.2.2.2.2.1 k0 g1 k1 k2
          have A1 : CX τ h l l2 b bq H w D tp ct B pw im := by
            obtain ⟨cf, cn, -, -, cl, ba, pa, ta, m0, -⟩ := A
            obtain ⟨n1, n2, n3, n4, n5⟩ := cn
            exact A0.sc F.x (fun a z => by omega) (fun a j _ => F.R a j) (ba.fx F.x (by omega) (fun z => by omega) (fun z => by omega)) ((F.I _ _).trans m0)
          refine ⟨τ, ?_, ⟨F.x.mono (fun a z => by unfold Cls; omega), by rw [F.N]; omega, by rw [F.Z]; omega⟩, A1⟩
          have hle := wy_le (k := k) (q := q) g1 k2 n
          have hp : (16 : Nat) ^ n ≤ 16 ^ 12 := Nat.pow_le_pow_right (by decide) k0
          have hp2 : 2 ^ (4 * n) ≤ 2 ^ 48 := Nat.pow_le_pow_right (by decide) (by omega)
          have sh := shlL1 n k0
          unfold skV
          generalize sumTo (it (wyN k q) n wy0) k = a at *
          have e0 : callF (d + 70) m_PL_streak [.ref 11, .int (ii n), .int (ii k), .int (ii q), .int (ii g)] σ = runF (callF (d + 69)) (d + 69) m_PL_streak (66, [some (.ref 11), some (.int (ii n)), some (.int (ii k)), some (.int (ii q)), some (.int (ii g)), some (.long (jj a)), none, some (.long (jj (2 ^ (4 * n)))), none, some (.int (ii 0))], [], τ) := by
            obtain ⟨⟨⟨x0, x1, x2, x3, x4, x5, x6, x7⟩, y1, y2, y3, y4, y7, y8, y9, y10⟩, cn, ⟨r8, r9, r10⟩, ⟨i1, i2, i3, i4, i5⟩, cl, ba, pa, ta, m0, t1, t2, t3⟩ := id A; obtain ⟨⟨c0, c1, c2⟩, ⟨v0, v1, v2, v3⟩, ⟨g4, g5, g6, g7⟩, dw4, dw5, dw6, dw7⟩ := nn cl; obtain ⟨q0, q1, q2, q3, q4, q5, q6, q7, q8, hv4, hv5, hv6, hv7, hv8⟩ := id cl.2.2.2.1; have hh := cl.wh.1
            simp (disch := first | omega | exact b2_01 _ | exact ii0_01 | exact ii1_01 | (simp (disch := omega) only [x0, x1, x2, x3, x4, x5, x6, x7, r8, r9, r10, c0, c1, c2, g4, g5, g6, g7, q4, q5, q6, q7, q8, dr_some, Option.isSome_some, gR_wI, Nat.add_mul_mod_self_left, Nat.reduceMod, ak20, ak21, ak22, ak23, ak24, ak25, ak26, ak27, ak28, ak29, ak30, ak31, ak32, ak33, ak34, ak35, ak36, an20, an21, an22, an23, an24, an25, an26, an27, an28, an29, an30, an31, an32, an33, an34, an35, an36, an37, an38, ne_eq, inR_ii, decide_eq_true_eq, lit_ii, of_ii, ii_eq, ii_lt, ii_le]; first | done | omega)) only [x0, x1, x2, x3, x4, x5, x6, x7, r8, r9, r10, c0, c1, c2, g4, g5, g6, g7, q4, q5, q6, q7, q8, e_PL_streak, b_PL_streak_0, b_PL_streak_8, b_PL_streak_11, b_PL_streak_19, b_PL_streak_22, b_PL_streak_30, b_PL_streak_33, b_PL_streak_41, b_PL_streak_44, b_PL_streak_54, hw0, hw1, hw2, hw3, s_needArgT, e, lit_jj, sh, q0, q1, q2, q3, v0, v1, v2, v3, i1, i2, i3, i4, i5, dr_some, Option.isSome_some, gR_wI, Nat.add_mul_mod_self_left, Nat.reduceMod, ak20, ak21, ak22, ak23, ak24, ak25, ak26, ak27, ak28, ak29, ak30, ak31, ak32, ak33, ak34, ak35, ak36, an20, an21, an22, an23, an24, an25, an26, an27, an28, an29, an30, an31, an32, an33, an34, an35, an36, an37, an38, ↓reduceIte, bk_int, bk_void, bk_long, bkN_int, bkN_void, bkN_long, Nat.reduceAdd, Nat.reduceMul, Nat.reduceSub, Nat.reduceLT, Nat.reduceLeDiff, if_true, if_false, not_true_eq_false, not_false_eq_true, Bool.true_eq_false, Bool.false_eq_true, b2_eq0, Nat.add_zero, Nat.zero_add, Nat.not_lt_zero, Nat.zero_le, ite_true, ite_false, decide_true, decide_false, lit_ii, of_ii, le_T, le_F, lt_T, lt_F, eq_T, eq_F, ii_add, ii_mul, ii_nat, ii_le, ii_lt, ii_eq, inR_ii, ii_add0]
          rw [e0]
          have key : ∀ f i a b, i + f = 48 → a < 2 ^ 49 → b < 2 ^ 49 → runF (callF (d + 69)) (d + 69) m_PL_streak (66, [some (.ref 11), some (.int (ii n)), some (.int (ii k)), some (.int (ii q)), some (.int (ii g)), some (.long (jj a)), none, some (.long (jj b)), none, some (.int (ii i))], [], τ) = some (.inl (some (.long (jj (if g = 0 then (hlv2 f a b).1 else (hlv2 f a b).2)))), τ) := by
            have fin : ∀ i a b, runF (callF (d + 69)) (d + 69) m_PL_streak (117, [some (.ref 11), some (.int (ii n)), some (.int (ii k)), some (.int (ii q)), some (.int (ii g)), some (.long (jj a)), none, some (.long (jj b)), none, some (.int (ii i))], [], τ) = some (.inl (some (.long (jj (if g = 0 then a else b)))), τ) := by
              intro i a b
              by_cases z : g = 0
              · simp (disch := first | omega | exact b2_01 _ | exact ii0_01 | exact ii1_01 | (simp (disch := omega) only [z, dr_some, Option.isSome_some, gR_wI, Nat.add_mul_mod_self_left, Nat.reduceMod, ak20, ak21, ak22, ak23, ak24, ak25, ak26, ak27, ak28, ak29, ak30, ak31, ak32, ak33, ak34, ak35, ak36, an20, an21, an22, an23, an24, an25, an26, an27, an28, an29, an30, an31, an32, an33, an34, an35, an36, an37, an38, ne_eq, inR_ii, decide_eq_true_eq, lit_ii, of_ii, ii_eq, ii_lt, ii_le]; first | done | omega)) only [z, b_PL_streak_117, b_PL_streak_122, b_PL_streak_129, dr_some, Option.isSome_some, gR_wI, Nat.add_mul_mod_self_left, Nat.reduceMod, ak20, ak21, ak22, ak23, ak24, ak25, ak26, ak27, ak28, ak29, ak30, ak31, ak32, ak33, ak34, ak35, ak36, an20, an21, an22, an23, an24, an25, an26, an27, an28, an29, an30, an31, an32, an33, an34, an35, an36, an37, an38, ↓reduceIte, bk_int, bk_void, bk_long, bkN_int, bkN_void, bkN_long, Nat.reduceAdd, Nat.reduceMul, Nat.reduceSub, Nat.reduceLT, Nat.reduceLeDiff, if_true, if_false, not_true_eq_false, not_false_eq_true, Bool.true_eq_false, Bool.false_eq_true, b2_eq0, Nat.add_zero, Nat.zero_add, Nat.not_lt_zero, Nat.zero_le, ite_true, ite_false, decide_true, decide_false, lit_ii, of_ii, le_T, le_F, lt_T, lt_F, eq_T, eq_F, ii_add, ii_mul, ii_nat, ii_le, ii_lt, ii_eq, inR_ii, ii_add0]
              · simp (disch := first | omega | exact b2_01 _ | exact ii0_01 | exact ii1_01 | (simp (disch := omega) only [z, dr_some, Option.isSome_some, gR_wI, Nat.add_mul_mod_self_left, Nat.reduceMod, ak20, ak21, ak22, ak23, ak24, ak25, ak26, ak27, ak28, ak29, ak30, ak31, ak32, ak33, ak34, ak35, ak36, an20, an21, an22, an23, an24, an25, an26, an27, an28, an29, an30, an31, an32, an33, an34, an35, an36, an37, an38, ne_eq, inR_ii, decide_eq_true_eq, lit_ii, of_ii, ii_eq, ii_lt, ii_le]; first | done | omega)) only [z, b_PL_streak_117, b_PL_streak_127, b_PL_streak_129, dr_some, Option.isSome_some, gR_wI, Nat.add_mul_mod_self_left, Nat.reduceMod, ak20, ak21, ak22, ak23, ak24, ak25, ak26, ak27, ak28, ak29, ak30, ak31, ak32, ak33, ak34, ak35, ak36, an20, an21, an22, an23, an24, an25, an26, an27, an28, an29, an30, an31, an32, an33, an34, an35, an36, an37, an38, ↓reduceIte, bk_int, bk_void, bk_long, bkN_int, bkN_void, bkN_long, Nat.reduceAdd, Nat.reduceMul, Nat.reduceSub, Nat.reduceLT, Nat.reduceLeDiff, if_true, if_false, not_true_eq_false, not_false_eq_true, Bool.true_eq_false, Bool.false_eq_true, b2_eq0, Nat.add_zero, Nat.zero_add, Nat.not_lt_zero, Nat.zero_le, ite_true, ite_false, decide_true, decide_false, lit_ii, of_ii, le_T, le_F, lt_T, lt_F, eq_T, eq_F, ii_add, ii_mul, ii_nat, ii_le, ii_lt, ii_eq, inR_ii, ii_add0]
            intro f
            induction f with
            | zero =>
              intro i a b hi ha hb
              rw [b_PL_streak_66, if_pos (by rw [lit_ii]; exact (ii_le (by omega) (by omega)).mpr (by omega))]
              exact fin _ _ _
            | succ f ih =>
              intro i a b hi ha hb
              rw [b_PL_streak_66, if_neg (by rw [lit_ii]; exact fun z => by have := (ii_le (by omega) (by omega)).mp z; omega), b_PL_streak_73, lit_jj, lit_jj, jj_rem (by omega) (by omega), show (0 : Int32) = ii 0 from rfl]
              have c1 := jj_cmp0 (a := a % 2) (by omega)
              have c2 := jj_cmp0 (a := b % 2) (by omega)
              unfold hlv2
              by_cases z1 : a % 2 = 0
              · rw [if_neg (not_not_intro (c1.mpr z1)), b_PL_streak_84, lit_jj, lit_jj, jj_rem (by omega) (by omega), show (0 : Int32) = ii 0 from rfl, if_pos z1]
                by_cases z2 : b % 2 = 0
                · rw [if_neg (not_not_intro (c2.mpr z2)), b_PL_streak_95, lit_jj, jj_div (by omega) (by omega), jj_div (by omega) (by omega), if_pos z2, show ii i + 1 = ii (i + 1) from ii_add i 1]
                  exact ih (i + 1) (a / 2) (b / 2) (by omega) (by omega) (by omega)
                · rw [if_pos (fun e => z2 (c2.mp e)), if_neg z2]
                  exact fin _ _ _
              · rw [if_pos (fun e => z1 (c1.mp e)), if_neg z1]
                exact fin _ _ _
          exact key 48 0 a (2 ^ (4 * n)) rfl (by omega) (by omega)
