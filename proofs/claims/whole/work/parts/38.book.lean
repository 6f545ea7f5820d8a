/-! THE CLASS: books -/
abbrev BK : Type := Nat × (Nat → Option Nat)
def bkS (b : BK) : Nat := setTo (fun m => (b.2 m).isSome) 7
def BA (σ : HP) (b : Nat) (B : BK) : Prop := gR σ (64 * b) 0 = some (21 + 64 * (b + 1)) ∧ gR σ (64 * b) 3 = some (26 + 64 * (b + 2)) ∧ gR σ (64 * b) 4 = some (26 + 64 * (b + 3)) ∧ gR σ (64 * b) 5 = some (26 + 64 * (b + 4)) ∧ gI σ (64 * b) 1 = ii B.1 ∧ gI σ (64 * b) 2 = ii (bkS B) ∧ (∀ m, m < 7 → ∀ v, B.2 m = some v → gI σ (21 + 64 * (b + 1)) m = ii v) ∧ ∀ m v, B.2 m = some v → v ≤ 999
theorem bkS_lt (B : BK) : bkS B < 128 := setTo_lt _ 7
theorem bkS_bit {B : BK} {m : Nat} (h : m < 7) : (bkS B).testBit m = (B.2 m).isSome := by
  unfold bkS
  rw [setTo_bit, decide_eq_true h, Bool.true_and]
theorem s_hasLine {d b m : Nat} {B : BK} {σ : HP} (A : BA σ b B) (hm : m < 7) : callF (d + 2) m_Book_hasLine [.ref (64 * b), .int (ii m)] σ = some (.inl (some (.int (b2 (B.2 m).isSome))), σ) := by
  obtain ⟨a0, a3, a4, a5, a1, a2, av, aw⟩ := A
  have h1 := bkS_lt B
  rw [← bkS_bit hm]
  simp (disch := first | omega | exact b2_01 _ | exact ii0_01 | exact ii1_01 | (simp (disch := omega) only [a1, a2, dr_some, Option.isSome_some, gR_wI, Nat.add_mul_mod_self_left, Nat.reduceMod, ak20, ak21, ak22, ak23, ak24, ak25, ak26, ak27, ak28, ak29, ak30, ak31, ak32, ak33, ak34, ak35, ak36, an20, an21, an22, an23, an24, an25, an26, an27, an28, an29, an30, an31, an32, an33, an34, an35, an36, an37, an38, ne_eq, inR_ii, decide_eq_true_eq, lit_ii, of_ii, ii_eq, ii_lt, ii_le]; first | done | omega)) only [a1, a2, e_Book_hasLine, b_Book_hasLine_0, b_Book_hasLine_8, s_isIn, dr_some, Option.isSome_some, gR_wI, Nat.add_mul_mod_self_left, Nat.reduceMod, ak20, ak21, ak22, ak23, ak24, ak25, ak26, ak27, ak28, ak29, ak30, ak31, ak32, ak33, ak34, ak35, ak36, an20, an21, an22, an23, an24, an25, an26, an27, an28, an29, an30, an31, an32, an33, an34, an35, an36, an37, an38, ↓reduceIte, bk_int, bk_void, bk_long, bkN_int, bkN_void, bkN_long, Nat.reduceAdd, Nat.reduceMul, Nat.reduceSub, Nat.reduceLT, Nat.reduceLeDiff, if_true, if_false, not_true_eq_false, not_false_eq_true, Bool.true_eq_false, Bool.false_eq_true, b2_eq0, Nat.add_zero, Nat.zero_add, Nat.not_lt_zero, Nat.zero_le, ite_true, ite_false, decide_true, decide_false, lit_ii, of_ii, le_T, le_F, lt_T, lt_F, eq_T, eq_F, ii_add, ii_mul, ii_nat, ii_le, ii_lt, ii_eq, inR_ii, ii_add0]
def alT (f : Nat → Bool) : Nat → Bool
  | 0 => true
  | n + 1 => alT f n && f n
theorem alT_iff (f : Nat → Bool) : ∀ n, alT f n = true ↔ ∀ k, k < n → f k = true := by
  intro n
  induction n with
  | zero => simp [alT]
  | succ n ih =>
    rw [alT, Bool.and_eq_true, ih]
    constructor
    · rintro ⟨h1, h2⟩ k hk
      by_cases q : k = n
      · rw [q]; exact h2
      · exact h1 k (by omega)
    · intro h
      exact ⟨fun k hk => h k (by omega), h n (by omega)⟩
/-- the lines of the others are right -/
def othF (H : HH) (D : Nat → Nat) (B : BK) (m o : Nat) : Bool := decide (o = m) || (match B.2 o with
  | none => true
  | some v => decide (v = heavy H D o))
def othB (H : HH) (D : Nat → Nat) (B : BK) (m : Nat) : Bool := alT (othF H D B m) (hm H)
theorem s_areOthersRight {b m d t h l s : Nat} {H : HH} {w : LW} {D : Nat → Nat} {σ : HP} (L : CL σ t h l s H w D) (B : BK) (A : BA σ b B) (hk : m < hm H) : callF (d + 3) m_Book_areOthersRight [.ref (64 * b), .ref (5 + 64 * t), .int (ii m)] σ = some (.inl (some (.int (b2 (othB H D B m)))), σ) := by
  have h7 := L.wh.1
  rw [e_Book_areOthersRight, b_Book_areOthersRight_0]
  refine loop_w (Q := fun o => o = some (.inl (some (.int (b2 (othB H D B m)))), σ)) (fun r c => ∃ k, k + r = hm H ∧ c = (2, [some (.ref (64 * b)), some (.ref (5 + 64 * t)), some (.int (ii m)), some (.int (ii k))], [], σ) ∧ alT (othF H D B m) k = true) ?_ (hm H) _ ⟨0, by omega, rfl, rfl⟩
  rintro r c ⟨k, hkr, rfl, hal⟩
  have A0 := A
  obtain ⟨a0, a3, a4, a5, a1, a2, av, aw⟩ := A
  by_cases q : k = hm H
  · left
    have e : othB H D B m = true := by unfold othB; rw [← q]; exact hal
    rw [e]
    subst q
    obtain ⟨qP, qL, qD, ⟨hF, hM, hC, hPi, hr4, hr5, hr6, hr7, hr8, hv4, hv5, hv6, hv7, hv8⟩, ⟨dv0, dv1, dv2, dv3, dr4, dr5, dr6, dr7, dw4, dw5, dw6, dw7⟩, ⟨lr0, lr1, lr2, lv3, lw0⟩, ⟨⟨hw1, hw2, hw3, hw4, hw5⟩, hwm, hwc⟩, ⟨wd1, wd2, wd3⟩, wl, hap1, hap2, hap3⟩ := L
    simp (disch := first | omega | exact b2_01 _ | exact ii0_01 | exact ii1_01 | (simp (disch := omega) only [qP, qL, qD, hF, hM, hC, hPi, hr4, hr5, hr6, hr7, hr8, dv0, dv1, dv2, dv3, dr4, dr5, dr6, dr7, lr0, lr1, lr2, lv3, dr_some, Option.isSome_some, gR_wI, Nat.add_mul_mod_self_left, Nat.reduceMod, ak20, ak21, ak22, ak23, ak24, ak25, ak26, ak27, ak28, ak29, ak30, ak31, ak32, ak33, ak34, ak35, ak36, an20, an21, an22, an23, an24, an25, an26, an27, an28, an29, an30, an31, an32, an33, an34, an35, an36, an37, an38, ne_eq, inR_ii, decide_eq_true_eq, lit_ii, of_ii, ii_eq, ii_lt, ii_le]; first | done | omega)) only [e_Book_areOthersRight, b_Book_areOthersRight_0, b_Book_areOthersRight_2, b_Book_areOthersRight_13, b_Book_areOthersRight_18, b_Book_areOthersRight_23, b_Book_areOthersRight_26, b_Book_areOthersRight_34, b_Book_areOthersRight_39, b_Book_areOthersRight_42, b_Book_areOthersRight_44, b_Book_areOthersRight_50, qP, qL, qD, hF, hM, hC, hPi, hr4, hr5, hr6, hr7, hr8, dv0, dv1, dv2, dv3, dr4, dr5, dr6, dr7, lr0, lr1, lr2, lv3, dr_some, Option.isSome_some, gR_wI, Nat.add_mul_mod_self_left, Nat.reduceMod, ak20, ak21, ak22, ak23, ak24, ak25, ak26, ak27, ak28, ak29, ak30, ak31, ak32, ak33, ak34, ak35, ak36, an20, an21, an22, an23, an24, an25, an26, an27, an28, an29, an30, an31, an32, an33, an34, an35, an36, an37, an38, ↓reduceIte, bk_int, bk_void, bk_long, bkN_int, bkN_void, bkN_long, Nat.reduceAdd, Nat.reduceMul, Nat.reduceSub, Nat.reduceLT, Nat.reduceLeDiff, if_true, if_false, not_true_eq_false, not_false_eq_true, Bool.true_eq_false, Bool.false_eq_true, b2_eq0, Nat.add_zero, Nat.zero_add, Nat.not_lt_zero, Nat.zero_le, ite_true, ite_false, decide_true, decide_false, lit_ii, of_ii, le_T, le_F, lt_T, lt_F, eq_T, eq_F, ii_add, ii_mul, ii_nat, ii_le, ii_lt, ii_eq, inR_ii, ii_add0]
    rfl
  · have hk' : k < hm H := by omega
    have h1 := fun d => s_hasLine (d := d) A0 (m := k) (by omega)
    have h2 := fun d => s_heavyOf (d := d) L hk'
    have h3 := heavy_le L.wh L.wd hk'
    by_cases q1 : k = m
    · right
      refine ⟨r - 1, _, by omega, ?_, k + 1, by omega, rfl, by rw [alT, hal]; unfold othF; rw [decide_eq_true q1]; rfl⟩
      obtain ⟨qP, qL, qD, ⟨hF, hM, hC, hPi, hr4, hr5, hr6, hr7, hr8, hv4, hv5, hv6, hv7, hv8⟩, ⟨dv0, dv1, dv2, dv3, dr4, dr5, dr6, dr7, dw4, dw5, dw6, dw7⟩, ⟨lr0, lr1, lr2, lv3, lw0⟩, ⟨⟨hw1, hw2, hw3, hw4, hw5⟩, hwm, hwc⟩, ⟨wd1, wd2, wd3⟩, wl, hap1, hap2, hap3⟩ := L
      conv => lhs; simp (disch := first | omega | exact b2_01 _ | exact ii0_01 | exact ii1_01 | (simp (disch := omega) only [qP, qL, qD, hF, hM, hC, hPi, hr4, hr5, hr6, hr7, hr8, dv0, dv1, dv2, dv3, dr4, dr5, dr6, dr7, lr0, lr1, lr2, lv3, dr_some, Option.isSome_some, gR_wI, Nat.add_mul_mod_self_left, Nat.reduceMod, ak20, ak21, ak22, ak23, ak24, ak25, ak26, ak27, ak28, ak29, ak30, ak31, ak32, ak33, ak34, ak35, ak36, an20, an21, an22, an23, an24, an25, an26, an27, an28, an29, an30, an31, an32, an33, an34, an35, an36, an37, an38, ne_eq, inR_ii, decide_eq_true_eq, lit_ii, of_ii, ii_eq, ii_lt, ii_le]; first | done | omega)) only [b_Book_areOthersRight_2, qP, qL, qD, hF, hM, hC, hPi, hr4, hr5, hr6, hr7, hr8, dv0, dv1, dv2, dv3, dr4, dr5, dr6, dr7, lr0, lr1, lr2, lv3, dr_some, Option.isSome_some, gR_wI, Nat.add_mul_mod_self_left, Nat.reduceMod, ak20, ak21, ak22, ak23, ak24, ak25, ak26, ak27, ak28, ak29, ak30, ak31, ak32, ak33, ak34, ak35, ak36, an20, an21, an22, an23, an24, an25, an26, an27, an28, an29, an30, an31, an32, an33, an34, an35, an36, an37, an38, ↓reduceIte, bk_int, bk_void, bk_long, bkN_int, bkN_void, bkN_long, Nat.reduceAdd, Nat.reduceMul, Nat.reduceSub, Nat.reduceLT, Nat.reduceLeDiff, if_true, if_false, not_true_eq_false, not_false_eq_true, Bool.true_eq_false, Bool.false_eq_true, b2_eq0, Nat.add_zero, Nat.zero_add, Nat.not_lt_zero, Nat.zero_le, ite_true, ite_false, decide_true, decide_false, lit_ii, of_ii, le_T, le_F, lt_T, lt_F, eq_T, eq_F, ii_add, ii_mul, ii_nat, ii_le, ii_lt, ii_eq, inR_ii, ii_add0]
      simp (disch := first | omega | exact b2_01 _ | exact ii0_01 | exact ii1_01 | (simp (disch := omega) only [qP, qL, qD, hF, hM, hC, hPi, hr4, hr5, hr6, hr7, hr8, dv0, dv1, dv2, dv3, dr4, dr5, dr6, dr7, lr0, lr1, lr2, lv3, dr_some, Option.isSome_some, gR_wI, Nat.add_mul_mod_self_left, Nat.reduceMod, ak20, ak21, ak22, ak23, ak24, ak25, ak26, ak27, ak28, ak29, ak30, ak31, ak32, ak33, ak34, ak35, ak36, an20, an21, an22, an23, an24, an25, an26, an27, an28, an29, an30, an31, an32, an33, an34, an35, an36, an37, an38, ne_eq, inR_ii, decide_eq_true_eq, lit_ii, of_ii, ii_eq, ii_lt, ii_le]; first | done | omega)) only [e_Book_areOthersRight, b_Book_areOthersRight_0, b_Book_areOthersRight_13, b_Book_areOthersRight_18, b_Book_areOthersRight_23, b_Book_areOthersRight_26, b_Book_areOthersRight_34, b_Book_areOthersRight_39, b_Book_areOthersRight_42, b_Book_areOthersRight_44, b_Book_areOthersRight_50, q1, qP, qL, qD, hF, hM, hC, hPi, hr4, hr5, hr6, hr7, hr8, dv0, dv1, dv2, dv3, dr4, dr5, dr6, dr7, lr0, lr1, lr2, lv3, dr_some, Option.isSome_some, gR_wI, Nat.add_mul_mod_self_left, Nat.reduceMod, ak20, ak21, ak22, ak23, ak24, ak25, ak26, ak27, ak28, ak29, ak30, ak31, ak32, ak33, ak34, ak35, ak36, an20, an21, an22, an23, an24, an25, an26, an27, an28, an29, an30, an31, an32, an33, an34, an35, an36, an37, an38, ↓reduceIte, bk_int, bk_void, bk_long, bkN_int, bkN_void, bkN_long, Nat.reduceAdd, Nat.reduceMul, Nat.reduceSub, Nat.reduceLT, Nat.reduceLeDiff, if_true, if_false, not_true_eq_false, not_false_eq_true, Bool.true_eq_false, Bool.false_eq_true, b2_eq0, Nat.add_zero, Nat.zero_add, Nat.not_lt_zero, Nat.zero_le, ite_true, ite_false, decide_true, decide_false, lit_ii, of_ii, le_T, le_F, lt_T, lt_F, eq_T, eq_F, ii_add, ii_mul, ii_nat, ii_le, ii_lt, ii_eq, inR_ii, ii_add0]
    · cases hb : B.2 k with
      | none =>
        right
        rw [hb] at h1
        refine ⟨r - 1, _, by omega, ?_, k + 1, by omega, rfl, by rw [alT, hal]; unfold othF; rw [hb, Bool.or_true]; rfl⟩
        obtain ⟨qP, qL, qD, ⟨hF, hM, hC, hPi, hr4, hr5, hr6, hr7, hr8, hv4, hv5, hv6, hv7, hv8⟩, ⟨dv0, dv1, dv2, dv3, dr4, dr5, dr6, dr7, dw4, dw5, dw6, dw7⟩, ⟨lr0, lr1, lr2, lv3, lw0⟩, ⟨⟨hw1, hw2, hw3, hw4, hw5⟩, hwm, hwc⟩, ⟨wd1, wd2, wd3⟩, wl, hap1, hap2, hap3⟩ := L
        conv => lhs; simp (disch := first | omega | exact b2_01 _ | exact ii0_01 | exact ii1_01 | (simp (disch := omega) only [qP, qL, qD, hF, hM, hC, hPi, hr4, hr5, hr6, hr7, hr8, dv0, dv1, dv2, dv3, dr4, dr5, dr6, dr7, lr0, lr1, lr2, lv3, dr_some, Option.isSome_some, gR_wI, Nat.add_mul_mod_self_left, Nat.reduceMod, ak20, ak21, ak22, ak23, ak24, ak25, ak26, ak27, ak28, ak29, ak30, ak31, ak32, ak33, ak34, ak35, ak36, an20, an21, an22, an23, an24, an25, an26, an27, an28, an29, an30, an31, an32, an33, an34, an35, an36, an37, an38, ne_eq, inR_ii, decide_eq_true_eq, lit_ii, of_ii, ii_eq, ii_lt, ii_le]; first | done | omega)) only [b_Book_areOthersRight_2, qP, qL, qD, hF, hM, hC, hPi, hr4, hr5, hr6, hr7, hr8, dv0, dv1, dv2, dv3, dr4, dr5, dr6, dr7, lr0, lr1, lr2, lv3, dr_some, Option.isSome_some, gR_wI, Nat.add_mul_mod_self_left, Nat.reduceMod, ak20, ak21, ak22, ak23, ak24, ak25, ak26, ak27, ak28, ak29, ak30, ak31, ak32, ak33, ak34, ak35, ak36, an20, an21, an22, an23, an24, an25, an26, an27, an28, an29, an30, an31, an32, an33, an34, an35, an36, an37, an38, ↓reduceIte, bk_int, bk_void, bk_long, bkN_int, bkN_void, bkN_long, Nat.reduceAdd, Nat.reduceMul, Nat.reduceSub, Nat.reduceLT, Nat.reduceLeDiff, if_true, if_false, not_true_eq_false, not_false_eq_true, Bool.true_eq_false, Bool.false_eq_true, b2_eq0, Nat.add_zero, Nat.zero_add, Nat.not_lt_zero, Nat.zero_le, ite_true, ite_false, decide_true, decide_false, lit_ii, of_ii, le_T, le_F, lt_T, lt_F, eq_T, eq_F, ii_add, ii_mul, ii_nat, ii_le, ii_lt, ii_eq, inR_ii, ii_add0]
        simp (disch := first | omega | exact b2_01 _ | exact ii0_01 | exact ii1_01 | (simp (disch := omega) only [qP, qL, qD, hF, hM, hC, hPi, hr4, hr5, hr6, hr7, hr8, dv0, dv1, dv2, dv3, dr4, dr5, dr6, dr7, lr0, lr1, lr2, lv3, dr_some, Option.isSome_some, gR_wI, Nat.add_mul_mod_self_left, Nat.reduceMod, ak20, ak21, ak22, ak23, ak24, ak25, ak26, ak27, ak28, ak29, ak30, ak31, ak32, ak33, ak34, ak35, ak36, an20, an21, an22, an23, an24, an25, an26, an27, an28, an29, an30, an31, an32, an33, an34, an35, an36, an37, an38, ne_eq, inR_ii, decide_eq_true_eq, lit_ii, of_ii, ii_eq, ii_lt, ii_le]; first | done | omega)) only [e_Book_areOthersRight, b_Book_areOthersRight_0, b_Book_areOthersRight_13, b_Book_areOthersRight_18, b_Book_areOthersRight_23, b_Book_areOthersRight_26, b_Book_areOthersRight_34, b_Book_areOthersRight_39, b_Book_areOthersRight_42, b_Book_areOthersRight_44, b_Book_areOthersRight_50, q1, h1, Option.isSome_none, qP, qL, qD, hF, hM, hC, hPi, hr4, hr5, hr6, hr7, hr8, dv0, dv1, dv2, dv3, dr4, dr5, dr6, dr7, lr0, lr1, lr2, lv3, dr_some, Option.isSome_some, gR_wI, Nat.add_mul_mod_self_left, Nat.reduceMod, ak20, ak21, ak22, ak23, ak24, ak25, ak26, ak27, ak28, ak29, ak30, ak31, ak32, ak33, ak34, ak35, ak36, an20, an21, an22, an23, an24, an25, an26, an27, an28, an29, an30, an31, an32, an33, an34, an35, an36, an37, an38, ↓reduceIte, bk_int, bk_void, bk_long, bkN_int, bkN_void, bkN_long, Nat.reduceAdd, Nat.reduceMul, Nat.reduceSub, Nat.reduceLT, Nat.reduceLeDiff, if_true, if_false, not_true_eq_false, not_false_eq_true, Bool.true_eq_false, Bool.false_eq_true, b2_eq0, Nat.add_zero, Nat.zero_add, Nat.not_lt_zero, Nat.zero_le, ite_true, ite_false, decide_true, decide_false, lit_ii, of_ii, le_T, le_F, lt_T, lt_F, eq_T, eq_F, ii_add, ii_mul, ii_nat, ii_le, ii_lt, ii_eq, inR_ii, ii_add0]
      | some v =>
        have hv := av k (by omega) v hb
        have hv9 := aw k v hb
        rw [hb] at h1
        by_cases q2 : v = heavy H D k
        · right
          refine ⟨r - 1, _, by omega, ?_, k + 1, by omega, rfl, by rw [alT, hal]; unfold othF; rw [hb]; simp only [q2, decide_true, Bool.or_true]; rfl⟩
          obtain ⟨qP, qL, qD, ⟨hF, hM, hC, hPi, hr4, hr5, hr6, hr7, hr8, hv4, hv5, hv6, hv7, hv8⟩, ⟨dv0, dv1, dv2, dv3, dr4, dr5, dr6, dr7, dw4, dw5, dw6, dw7⟩, ⟨lr0, lr1, lr2, lv3, lw0⟩, ⟨⟨hw1, hw2, hw3, hw4, hw5⟩, hwm, hwc⟩, ⟨wd1, wd2, wd3⟩, wl, hap1, hap2, hap3⟩ := L
          conv => lhs; simp (disch := first | omega | exact b2_01 _ | exact ii0_01 | exact ii1_01 | (simp (disch := omega) only [qP, qL, qD, hF, hM, hC, hPi, hr4, hr5, hr6, hr7, hr8, dv0, dv1, dv2, dv3, dr4, dr5, dr6, dr7, lr0, lr1, lr2, lv3, dr_some, Option.isSome_some, gR_wI, Nat.add_mul_mod_self_left, Nat.reduceMod, ak20, ak21, ak22, ak23, ak24, ak25, ak26, ak27, ak28, ak29, ak30, ak31, ak32, ak33, ak34, ak35, ak36, an20, an21, an22, an23, an24, an25, an26, an27, an28, an29, an30, an31, an32, an33, an34, an35, an36, an37, an38, ne_eq, inR_ii, decide_eq_true_eq, lit_ii, of_ii, ii_eq, ii_lt, ii_le]; first | done | omega)) only [b_Book_areOthersRight_2, qP, qL, qD, hF, hM, hC, hPi, hr4, hr5, hr6, hr7, hr8, dv0, dv1, dv2, dv3, dr4, dr5, dr6, dr7, lr0, lr1, lr2, lv3, dr_some, Option.isSome_some, gR_wI, Nat.add_mul_mod_self_left, Nat.reduceMod, ak20, ak21, ak22, ak23, ak24, ak25, ak26, ak27, ak28, ak29, ak30, ak31, ak32, ak33, ak34, ak35, ak36, an20, an21, an22, an23, an24, an25, an26, an27, an28, an29, an30, an31, an32, an33, an34, an35, an36, an37, an38, ↓reduceIte, bk_int, bk_void, bk_long, bkN_int, bkN_void, bkN_long, Nat.reduceAdd, Nat.reduceMul, Nat.reduceSub, Nat.reduceLT, Nat.reduceLeDiff, if_true, if_false, not_true_eq_false, not_false_eq_true, Bool.true_eq_false, Bool.false_eq_true, b2_eq0, Nat.add_zero, Nat.zero_add, Nat.not_lt_zero, Nat.zero_le, ite_true, ite_false, decide_true, decide_false, lit_ii, of_ii, le_T, le_F, lt_T, lt_F, eq_T, eq_F, ii_add, ii_mul, ii_nat, ii_le, ii_lt, ii_eq, inR_ii, ii_add0]
          simp (disch := first | omega | exact b2_01 _ | exact ii0_01 | exact ii1_01 | (simp (disch := omega) only [a0, qP, qL, qD, hF, hM, hC, hPi, hr4, hr5, hr6, hr7, hr8, dv0, dv1, dv2, dv3, dr4, dr5, dr6, dr7, lr0, lr1, lr2, lv3, dr_some, Option.isSome_some, gR_wI, Nat.add_mul_mod_self_left, Nat.reduceMod, ak20, ak21, ak22, ak23, ak24, ak25, ak26, ak27, ak28, ak29, ak30, ak31, ak32, ak33, ak34, ak35, ak36, an20, an21, an22, an23, an24, an25, an26, an27, an28, an29, an30, an31, an32, an33, an34, an35, an36, an37, an38, ne_eq, inR_ii, decide_eq_true_eq, lit_ii, of_ii, ii_eq, ii_lt, ii_le]; first | done | omega)) only [a0, e_Book_areOthersRight, b_Book_areOthersRight_0, b_Book_areOthersRight_13, b_Book_areOthersRight_18, b_Book_areOthersRight_23, b_Book_areOthersRight_26, b_Book_areOthersRight_34, b_Book_areOthersRight_39, b_Book_areOthersRight_42, b_Book_areOthersRight_44, b_Book_areOthersRight_50, q1, h1, Option.isSome_some, s_at, hv, h2, q2, qP, qL, qD, hF, hM, hC, hPi, hr4, hr5, hr6, hr7, hr8, dv0, dv1, dv2, dv3, dr4, dr5, dr6, dr7, lr0, lr1, lr2, lv3, dr_some, Option.isSome_some, gR_wI, Nat.add_mul_mod_self_left, Nat.reduceMod, ak20, ak21, ak22, ak23, ak24, ak25, ak26, ak27, ak28, ak29, ak30, ak31, ak32, ak33, ak34, ak35, ak36, an20, an21, an22, an23, an24, an25, an26, an27, an28, an29, an30, an31, an32, an33, an34, an35, an36, an37, an38, ↓reduceIte, bk_int, bk_void, bk_long, bkN_int, bkN_void, bkN_long, Nat.reduceAdd, Nat.reduceMul, Nat.reduceSub, Nat.reduceLT, Nat.reduceLeDiff, if_true, if_false, not_true_eq_false, not_false_eq_true, Bool.true_eq_false, Bool.false_eq_true, b2_eq0, Nat.add_zero, Nat.zero_add, Nat.not_lt_zero, Nat.zero_le, ite_true, ite_false, decide_true, decide_false, lit_ii, of_ii, le_T, le_F, lt_T, lt_F, eq_T, eq_F, ii_add, ii_mul, ii_nat, ii_le, ii_lt, ii_eq, inR_ii, ii_add0]
        · left
          have e : othB H D B m = false := by
            cases hx : othB H D B m with
            | false => rfl
            | true =>
              have := (alT_iff _ _).mp hx k hk'
              unfold othF at this
              rw [hb] at this
              simp only [q1, q2, decide_false, Bool.or_self] at this
              cases this
          rw [e]
          obtain ⟨qP, qL, qD, ⟨hF, hM, hC, hPi, hr4, hr5, hr6, hr7, hr8, hv4, hv5, hv6, hv7, hv8⟩, ⟨dv0, dv1, dv2, dv3, dr4, dr5, dr6, dr7, dw4, dw5, dw6, dw7⟩, ⟨lr0, lr1, lr2, lv3, lw0⟩, ⟨⟨hw1, hw2, hw3, hw4, hw5⟩, hwm, hwc⟩, ⟨wd1, wd2, wd3⟩, wl, hap1, hap2, hap3⟩ := L
          conv => lhs; simp (disch := first | omega | exact b2_01 _ | exact ii0_01 | exact ii1_01 | (simp (disch := omega) only [qP, qL, qD, hF, hM, hC, hPi, hr4, hr5, hr6, hr7, hr8, dv0, dv1, dv2, dv3, dr4, dr5, dr6, dr7, lr0, lr1, lr2, lv3, dr_some, Option.isSome_some, gR_wI, Nat.add_mul_mod_self_left, Nat.reduceMod, ak20, ak21, ak22, ak23, ak24, ak25, ak26, ak27, ak28, ak29, ak30, ak31, ak32, ak33, ak34, ak35, ak36, an20, an21, an22, an23, an24, an25, an26, an27, an28, an29, an30, an31, an32, an33, an34, an35, an36, an37, an38, ne_eq, inR_ii, decide_eq_true_eq, lit_ii, of_ii, ii_eq, ii_lt, ii_le]; first | done | omega)) only [b_Book_areOthersRight_2, qP, qL, qD, hF, hM, hC, hPi, hr4, hr5, hr6, hr7, hr8, dv0, dv1, dv2, dv3, dr4, dr5, dr6, dr7, lr0, lr1, lr2, lv3, dr_some, Option.isSome_some, gR_wI, Nat.add_mul_mod_self_left, Nat.reduceMod, ak20, ak21, ak22, ak23, ak24, ak25, ak26, ak27, ak28, ak29, ak30, ak31, ak32, ak33, ak34, ak35, ak36, an20, an21, an22, an23, an24, an25, an26, an27, an28, an29, an30, an31, an32, an33, an34, an35, an36, an37, an38, ↓reduceIte, bk_int, bk_void, bk_long, bkN_int, bkN_void, bkN_long, Nat.reduceAdd, Nat.reduceMul, Nat.reduceSub, Nat.reduceLT, Nat.reduceLeDiff, if_true, if_false, not_true_eq_false, not_false_eq_true, Bool.true_eq_false, Bool.false_eq_true, b2_eq0, Nat.add_zero, Nat.zero_add, Nat.not_lt_zero, Nat.zero_le, ite_true, ite_false, decide_true, decide_false, lit_ii, of_ii, le_T, le_F, lt_T, lt_F, eq_T, eq_F, ii_add, ii_mul, ii_nat, ii_le, ii_lt, ii_eq, inR_ii, ii_add0]
          simp (disch := first | omega | exact b2_01 _ | exact ii0_01 | exact ii1_01 | (simp (disch := omega) only [a0, qP, qL, qD, hF, hM, hC, hPi, hr4, hr5, hr6, hr7, hr8, dv0, dv1, dv2, dv3, dr4, dr5, dr6, dr7, lr0, lr1, lr2, lv3, dr_some, Option.isSome_some, gR_wI, Nat.add_mul_mod_self_left, Nat.reduceMod, ak20, ak21, ak22, ak23, ak24, ak25, ak26, ak27, ak28, ak29, ak30, ak31, ak32, ak33, ak34, ak35, ak36, an20, an21, an22, an23, an24, an25, an26, an27, an28, an29, an30, an31, an32, an33, an34, an35, an36, an37, an38, ne_eq, inR_ii, decide_eq_true_eq, lit_ii, of_ii, ii_eq, ii_lt, ii_le]; first | done | omega)) only [a0, e_Book_areOthersRight, b_Book_areOthersRight_0, b_Book_areOthersRight_13, b_Book_areOthersRight_18, b_Book_areOthersRight_23, b_Book_areOthersRight_26, b_Book_areOthersRight_34, b_Book_areOthersRight_39, b_Book_areOthersRight_42, b_Book_areOthersRight_44, b_Book_areOthersRight_50, q1, h1, Option.isSome_some, s_at, hv, h2, q2, qP, qL, qD, hF, hM, hC, hPi, hr4, hr5, hr6, hr7, hr8, dv0, dv1, dv2, dv3, dr4, dr5, dr6, dr7, lr0, lr1, lr2, lv3, dr_some, Option.isSome_some, gR_wI, Nat.add_mul_mod_self_left, Nat.reduceMod, ak20, ak21, ak22, ak23, ak24, ak25, ak26, ak27, ak28, ak29, ak30, ak31, ak32, ak33, ak34, ak35, ak36, an20, an21, an22, an23, an24, an25, an26, an27, an28, an29, an30, an31, an32, an33, an34, an35, an36, an37, an38, ↓reduceIte, bk_int, bk_void, bk_long, bkN_int, bkN_void, bkN_long, Nat.reduceAdd, Nat.reduceMul, Nat.reduceSub, Nat.reduceLT, Nat.reduceLeDiff, if_true, if_false, not_true_eq_false, not_false_eq_true, Bool.true_eq_false, Bool.false_eq_true, b2_eq0, Nat.add_zero, Nat.zero_add, Nat.not_lt_zero, Nat.zero_le, ite_true, ite_false, decide_true, decide_false, lit_ii, of_ii, le_T, le_F, lt_T, lt_F, eq_T, eq_F, ii_add, ii_mul, ii_nat, ii_le, ii_lt, ii_eq, inR_ii, ii_add0]
          rfl
/-! the pairs that make all lines right -/
abbrev PS : Type := Nat × (Nat → Nat × Nat)
def psA (P : PS) (m c : Nat) : PS := (P.1 + 1, fun i => if i = P.1 then (m, c) else P.2 i)
def fitB (H : HH) (w : LW) (D : Nat → Nat) (B : BK) (m c : Nat) : Bool := match B.2 m with
  | none => true
  | some v => decide (v = hvSaid H w D m c)
def prI (H : HH) (w : LW) (D : Nat → Nat) (B : BK) (m : Nat) (P : PS) : Nat → PS
  | 0 => P
  | n + 1 => if fitB H w D B m n then psA (prI H w D B m P n) m n else prI H w D B m P n
def prO (H : HH) (w : LW) (D : Nat → Nat) (B : BK) : Nat → PS
  | 0 => (0, fun _ => (0, 0))
  | n + 1 => if othB H D B n then prI H w D B n (prO H w D B n) (hc H) else prO H w D B n
theorem prI_le {H : HH} {w : LW} {D : Nat → Nat} {B : BK} {m : Nat} {P : PS} : ∀ n, (prI H w D B m P n).1 ≤ P.1 + n := by
  intro n
  induction n with
  | zero => exact Nat.le_refl _
  | succ n ih =>
    unfold prI
    split
    · show (prI H w D B m P n).1 + 1 ≤ _
      omega
    · omega
theorem prO_le {H : HH} {w : LW} {D : Nat → Nat} {B : BK} (hc8 : hc H ≤ 8) : ∀ n, (prO H w D B n).1 ≤ 8 * n := by
  intro n
  induction n with
  | zero => exact Nat.le_refl _
  | succ n ih =>
    unfold prO
    split
    · have := prI_le (H := H) (w := w) (D := D) (B := B) (m := n) (P := prO H w D B n) (hc H)
      omega
    · omega
def PA (σ : HP) (b : Nat) (H : HH) (w : LW) (D : Nat → Nat) (P : PS) : Prop := gI σ (64 * b) 6 = ii P.1 ∧ ∀ i, i < P.1 → gI σ (26 + 64 * (b + 2)) i = ii (P.2 i).1 ∧ gI σ (26 + 64 * (b + 3)) i = ii (P.2 i).2 ∧ gI σ (26 + 64 * (b + 4)) i = ii (hvSaid H w D (P.2 i).1 (P.2 i).2)
/-- what finding pairs uses up -/
def Sp (l b a : Nat) : Prop := a = 29 + 64 * (l + 2) ∨ a = 23 + 64 * (l + 3) ∨ a = 64 * b ∨ (b + 2 ≤ a / 64 ∧ a / 64 ≤ b + 4)
theorem BA.keep {σ : HP} {b i : Nat} {B : BK} {x y z n : Int32} (A : BA σ b B) : BA (wI (wI (wI (wI σ (26 + 64 * (b + 2)) i x) (26 + 64 * (b + 3)) i y) (26 + 64 * (b + 4)) i z) (64 * b) 6 n) b B := by
  obtain ⟨a0, a3, a4, a5, a1, a2, av, aw⟩ := A
  refine ⟨a0, a3, a4, a5, ?_, ?_, fun m hm v hv => ?_, aw⟩
  · rw [gI_nj (by decide), gI_ne (by omega), gI_ne (by omega), gI_ne (by omega), a1]
  · rw [gI_nj (by decide), gI_ne (by omega), gI_ne (by omega), gI_ne (by omega), a2]
  · rw [gI_ne (by omega), gI_ne (by omega), gI_ne (by omega), gI_ne (by omega), av m hm v hv]
theorem s_keepPair {d b m c : Nat} {H : HH} {w : LW} {D : Nat → Nat} {B : BK} {P : PS} {σ : HP} (A : BA σ b B) (Q : PA σ b H w D P) (hP : P.1 < 56) : ∃ σ', callF (d + 2) m_Book_keepPair [.ref (64 * b), .int (ii m), .int (ii c), .int (ii (hvSaid H w D m c))] σ = some (.inl none, σ') ∧ BA σ' b B ∧ PA σ' b H w D (psA P m c) ∧ Fs (fun a => a = 64 * b ∨ (b + 2 ≤ a / 64 ∧ a / 64 ≤ b + 4)) σ σ' := by
  refine ⟨wI (wI (wI (wI σ (26 + 64 * (b + 2)) P.1 (ii m)) (26 + 64 * (b + 3)) P.1 (ii c)) (26 + 64 * (b + 4)) P.1 (ii (hvSaid H w D m c))) (64 * b) 6 (ii (P.1 + 1)), ?_, A.keep, ?_, ?_⟩
  · obtain ⟨a0, a3, a4, a5, a1, a2, av, aw⟩ := A
    obtain ⟨p1, p2⟩ := Q
    simp (disch := first | omega | exact b2_01 _ | exact ii0_01 | exact ii1_01 | (simp (disch := omega) only [a0, a3, a4, a5, dr_some, Option.isSome_some, gR_wI, Nat.add_mul_mod_self_left, Nat.reduceMod, ak20, ak21, ak22, ak23, ak24, ak25, ak26, ak27, ak28, ak29, ak30, ak31, ak32, ak33, ak34, ak35, ak36, an20, an21, an22, an23, an24, an25, an26, an27, an28, an29, an30, an31, an32, an33, an34, an35, an36, an37, an38, ne_eq, inR_ii, decide_eq_true_eq, lit_ii, of_ii, ii_eq, ii_lt, ii_le]; first | done | omega)) only [a0, a3, a4, a5, e_Book_keepPair, b_Book_keepPair_0, b_Book_keepPair_12, b_Book_keepPair_24, b_Book_keepPair_36, p1, s_put, gI_ne, dr_some, Option.isSome_some, gR_wI, Nat.add_mul_mod_self_left, Nat.reduceMod, ak20, ak21, ak22, ak23, ak24, ak25, ak26, ak27, ak28, ak29, ak30, ak31, ak32, ak33, ak34, ak35, ak36, an20, an21, an22, an23, an24, an25, an26, an27, an28, an29, an30, an31, an32, an33, an34, an35, an36, an37, an38, ↓reduceIte, bk_int, bk_void, bk_long, bkN_int, bkN_void, bkN_long, Nat.reduceAdd, Nat.reduceMul, Nat.reduceSub, Nat.reduceLT, Nat.reduceLeDiff, if_true, if_false, not_true_eq_false, not_false_eq_true, Bool.true_eq_false, Bool.false_eq_true, b2_eq0, Nat.add_zero, Nat.zero_add, Nat.not_lt_zero, Nat.zero_le, ite_true, ite_false, decide_true, decide_false, lit_ii, of_ii, le_T, le_F, lt_T, lt_F, eq_T, eq_F, ii_add, ii_mul, ii_nat, ii_le, ii_lt, ii_eq, inR_ii, ii_add0]
  · obtain ⟨p1, p2⟩ := Q
    refine ⟨gI_at, fun i hi => ?_⟩
    have hi' : i < P.1 + 1 := hi
    by_cases q : i = P.1
    · subst q
      simp only [psA, if_true]
      refine ⟨?_, ?_, ?_⟩
      · rw [gI_ne (by omega), gI_ne (by omega), gI_ne (by omega), gI_at]
      · rw [gI_ne (by omega), gI_ne (by omega), gI_at]
      · rw [gI_ne (by omega), gI_at]
    · obtain ⟨x1, x2, x3⟩ := p2 i (by omega)
      simp only [psA, q, if_false]
      refine ⟨?_, ?_, ?_⟩
      · rw [gI_ne (by omega), gI_ne (by omega), gI_ne (by omega), gI_nj q, x1]
      · rw [gI_ne (by omega), gI_ne (by omega), gI_nj q, gI_ne (by omega), x2]
      · rw [gI_ne (by omega), gI_nj q, gI_ne (by omega), gI_ne (by omega), x3]
  · exact Fs.w (Fs.w (Fs.w (Fs.w Fs.rf (by omega)) (by omega)) (by omega)) (by omega)
def apB (h l s b : Nat) : Prop := (b + 4 < h ∨ h + 5 < b) ∧ (b + 4 < s ∨ s + 4 < b) ∧ (b + 4 < l ∨ l + 3 < b)
theorem CL.sp {σ σ' : HP} {t h l s b : Nat} {H : HH} {w : LW} {D : Nat → Nat} (A : CL σ t h l s H w D) (F : Fs (Sp l b) σ σ') (hb : apB h l s b) : CL σ' t h l s H w D := by
  have A' := A
  obtain ⟨qP, qL, qD, a1, a2, a3, b1, b2, b3, c1, c2, c3⟩ := A'
  unfold apB at hb
  exact A.fs F (fun a x y z => by unfold Sp at z; omega) (fun a x y z => by unfold Sp at z; omega) (fun a x y z => by unfold Sp at z; omega)
theorem BA.sl {σ σ' : HP} {h l s b : Nat} {B : BK} (A : BA σ b B) (F : Fs (Sl l) σ σ') (hb : apB h l s b) : BA σ' b B := by
  obtain ⟨a0, a3, a4, a5, a1, a2, av, aw⟩ := A
  unfold apB at hb
  have i : ∀ a j, b ≤ a / 64 → a / 64 ≤ b + 4 → gI σ' a j = gI σ a j := fun a j x y => F.I (fun z => by unfold Sl at z; omega)
  exact ⟨(F.R _ _).trans a0, (F.R _ _).trans a3, (F.R _ _).trans a4, (F.R _ _).trans a5, (i _ _ (by omega) (by omega)).trans a1, (i _ _ (by omega) (by omega)).trans a2, fun m hm v hv => (i _ _ (by omega) (by omega)).trans (av m hm v hv), aw⟩
theorem PA.sl {σ σ' : HP} {h l s b : Nat} {H : HH} {w : LW} {D : Nat → Nat} {P : PS} (A : PA σ b H w D P) (F : Fs (Sl l) σ σ') (hb : apB h l s b) : PA σ' b H w D P := by
  obtain ⟨p1, p2⟩ := A
  unfold apB at hb
  have i : ∀ a j, b ≤ a / 64 → a / 64 ≤ b + 4 → gI σ' a j = gI σ a j := fun a j x y => F.I (fun z => by unfold Sl at z; omega)
  exact ⟨(i _ _ (by omega) (by omega)).trans p1, fun k hk => ⟨(i _ _ (by omega) (by omega)).trans (p2 k hk).1, (i _ _ (by omega) (by omega)).trans (p2 k hk).2.1, (i _ _ (by omega) (by omega)).trans (p2 k hk).2.2⟩⟩
theorem hvSaid_le {H : HH} {w : LW} {D : Nat → Nat} (hw : wH H) {m c : Nat} (hk : m < hm H) : hvSaid H w D m c ≤ 960 := by
  have a1 := hw.2.1 m hk
  unfold hvSaid
  omega
