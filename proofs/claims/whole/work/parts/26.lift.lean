/-! THE CLASS, small methods -/
theorem ak20 : aty 20 = 1 := rfl
theorem ak21 : aty 21 = 1 := rfl
theorem ak22 : aty 22 = 1 := rfl
theorem ak23 : aty 23 = 1 := rfl
theorem ak24 : aty 24 = 1 := rfl
theorem ak25 : aty 25 = 1 := rfl
theorem ak26 : aty 26 = 1 := rfl
theorem ak27 : aty 27 = 1 := rfl
theorem ak28 : aty 28 = 1 := rfl
theorem ak29 : aty 29 = 1 := rfl
theorem ak30 : aty 30 = 1 := rfl
theorem ak31 : aty 31 = 1 := rfl
theorem ak32 : aty 32 = 1 := rfl
theorem ak33 : aty 33 = 1 := rfl
theorem ak34 : aty 34 = 2 := rfl
theorem ak35 : aty 35 = 2 := rfl
theorem ak36 : aty 36 = 3 := rfl
theorem ak37 : aty 37 = 4 := rfl
theorem ak38 : aty 38 = 5 := rfl
theorem an20 : alen 20 = 2 := rfl
theorem an21 : alen 21 = 7 := rfl
theorem an22 : alen 22 = 8 := rfl
theorem an23 : alen 23 = 9 := rfl
theorem an24 : alen 24 = 16 := rfl
theorem an25 : alen 25 = 21 := rfl
theorem an26 : alen 26 = 56 := rfl
theorem an27 : alen 27 = 87 := rfl
theorem an28 : alen 28 = 128 := rfl
theorem an29 : alen 29 = 150 := rfl
theorem an30 : alen 30 = 600 := rfl
theorem an31 : alen 31 = 1000 := rfl
theorem an32 : alen 32 = 1392 := rfl
theorem an33 : alen 33 = 4440 := rfl
theorem an34 : alen 34 = 1 := rfl
theorem an35 : alen 35 = 13 := rfl
theorem an36 : alen 36 = 600 := rfl
theorem an37 : alen 37 = 16 := rfl
theorem an38 : alen 38 = 3 := rfl
theorem alen_lt {a k : Nat} (h : k < alen (a % 64)) : alen (a % 64) ≤ 4440 := alen_le _ (Nat.mod_lt _ (by decide))
theorem s_isIn {d B m : Nat} {σ : HP} (hB : B < 256) (hm : m < 8) : callF (d + 1) m_PL_isIn [.int (ii B), .int (ii m)] σ = some (.inl (some (.int (b2 (B.testBit m)))), σ) := by
  rw [e_PL_isIn, b_PL_isIn_0, lit_ii 1, bit_at B hB m hm]
  cases B.testBit m
  · rw [if_pos (show b2 false = 0 from rfl), b_PL_isIn_12, b_PL_isIn_13 (Or.inl rfl)]; rfl
  · rw [if_neg (show ¬ b2 true = 0 from by decide), b_PL_isIn_8, b_PL_isIn_13 (Or.inr rfl)]; rfl
theorem s_at {d a k : Nat} {σ : HP} (ha : aty (a % 64) = 1) (hk : k < alen (a % 64)) : callF (d + 1) m_PL_at [.ref a, .int (ii k)] σ = some (.inl (some (.int (gI σ a k))), σ) := by
  have h9 := alen_lt hk
  have h0 : ¬ ii k < 0 := ii_nn (by omega)
  have h1 : ¬ Int32.ofNat (alen (a % 64)) ≤ ii k := by
    show ¬ ii (alen (a % 64)) ≤ ii k
    rw [ii_le (by omega) (by omega)]
    omega
  rw [e_PL_at, b_PL_at_0, if_neg h0, b_PL_at_4 (by omega), if_neg h1, b_PL_at_10 ha (by rw [inR_ii (by omega)]; exact decide_eq_true hk), b_PL_at_17, ii_nat (by omega)]
theorem s_put {d a k : Nat} {v : Int32} {σ : HP} (ha : aty (a % 64) = 1) (hk : k < alen (a % 64)) : callF (d + 1) m_PL_put [.ref a, .int (ii k), .int v] σ = some (.inl none, wI σ a k v) := by
  have h9 := alen_lt hk
  have h0 : ¬ ii k < 0 := ii_nn (by omega)
  have h1 : ¬ Int32.ofNat (alen (a % 64)) ≤ ii k := by
    show ¬ ii (alen (a % 64)) ≤ ii k
    rw [ii_le (by omega) (by omega)]
    omega
  rw [e_PL_put, b_PL_put_0, if_neg h0, b_PL_put_4 (by omega), if_neg h1, b_PL_put_10 ha (by rw [inR_ii (by omega)]; exact decide_eq_true hk), b_PL_put_14, ii_nat (by omega)]
/-- a place that no row has: nothing is put -/
theorem s_putx {d a : Nat} {x v : Int32} {σ : HP} (ha : aty (a % 64) = 1) : ∃ σ', callF (d + 1) m_PL_put [.ref a, .int x, .int v] σ = some (.inl none, σ') ∧ Fs (fun b => b = a) σ σ' := by
  rw [e_PL_put, b_PL_put_0]
  by_cases h0 : x < 0
  · rw [if_pos h0, b_PL_put_14]
    exact ⟨_, rfl, Fs.rf⟩
  · rw [if_neg h0, b_PL_put_4 (by omega)]
    by_cases h1 : Int32.ofNat (alen (a % 64)) ≤ x
    · rw [if_pos h1, b_PL_put_14]
      exact ⟨_, rfl, Fs.rf⟩
    · have h9 : alen (a % 64) ≤ 4440 := alen_le _ (Nat.mod_lt _ (by decide))
      rw [if_neg h1, b_PL_put_10 ha ?_, b_PL_put_14]
      · exact ⟨_, rfl, Fs.rf.w rfl⟩
      · unfold inR
        refine decide_eq_true ?_
        rintro (q | q)
        · exact h0 q
        · apply h1
          rw [Int32.le_iff_toInt_le]
          have e1 : (Int32.ofNat (alen (a % 64))).toInt = alen (a % 64) := ii_int (by omega)
          rw [e1]
          have e2 := Int32.cast_toNatClampNeg x (Int32.not_lt.mp h0)
          omega
theorem s_within {d : Nat} {x a b : Int32} {σ : HP} : callF (d + 1) m_PL_isWithin [.int x, .int a, .int b] σ = some (.inl (some (.int (b2 (decide (a ≤ x ∧ x ≤ b))))), σ) := by
  rw [e_PL_isWithin, b_PL_isWithin_0]
  by_cases h1 : x < a
  · rw [if_pos h1, b_PL_isWithin_14, b_PL_isWithin_15 (Or.inl rfl), decide_eq_false (fun q => Int32.not_le.mpr h1 q.1)]; rfl
  · rw [if_neg h1, b_PL_isWithin_5]
    by_cases h2 : b < x
    · rw [if_pos h2, b_PL_isWithin_14, b_PL_isWithin_15 (Or.inl rfl), decide_eq_false (fun q => Int32.not_le.mpr h2 q.2)]; rfl
    · rw [if_neg h2, b_PL_isWithin_10, b_PL_isWithin_15 (Or.inr rfl), decide_eq_true ⟨Int32.not_lt.mp h1, Int32.not_lt.mp h2⟩]; rfl
/-! a house: men, cards, floors, the piano; men's and cards' rows as the reference has them -/
abbrev HH : Type := (Nat × Nat × Nat × Nat) × (Nat → Nat) × (Nat → Nat)
def hm (H : HH) : Nat := H.1.1
def hc (H : HH) : Nat := H.1.2.1
def hf (H : HH) : Nat := H.1.2.2.1
def hp (H : HH) : Nat := H.1.2.2.2
def mr (H : HH) (k : Nat) : Nat := H.2.1 k
def cr (H : HH) (k : Nat) : Nat := H.2.2 k
def wH (H : HH) : Prop := (hm H ≤ 7 ∧ hc H ≤ 8 ∧ 2 ≤ hf H ∧ hf H ≤ 12 ∧ hp H ≤ 300) ∧ (∀ m, m < hm H → mr H (3 * m) < hf H ∧ 1 ≤ mr H (3 * m + 1) ∧ mr H (3 * m + 1) ≤ 60 ∧ mr H (3 * m + 2) ≤ 9) ∧ (∀ c, c < hc H → 1 ≤ cr H (2 * c) ∧ cr H (2 * c) ≤ 20 ∧ cr H (2 * c + 1) ≤ 9)
/-- who is inside, as bits -/
def bN (x : Nat) (n : Nat) : Nat := if x = 0 then 0 else n
def Bof (D : Nat → Nat) : Nat := bN (D 7) 1 + bN (D 8) 2 + bN (D 9) 4 + bN (D 10) 8 + bN (D 11) 16 + bN (D 12) 32 + bN (D 13) 64
theorem Bof_lt (D : Nat → Nat) : Bof D < 128 := by
  unfold Bof bN
  repeat' split
  all_goals omega
theorem Bof_bit (D : Nat → Nat) {m : Nat} (h : m < 7) : (Bof D).testBit m = decide (¬ D (7 + m) = 0) := by
  have all : ∀ b0 b1 b2 b3 b4 b5 b6 : Bool, ∀ m, m < 7 → ((if b0 then 0 else 1) + (if b1 then 0 else 2) + (if b2 then 0 else 4) + (if b3 then 0 else 8) + (if b4 then 0 else 16) + (if b5 then 0 else 32) + (if b6 then 0 else 64) : Nat).testBit m = !([b0, b1, b2, b3, b4, b5, b6].getD m true) := by decide +kernel
  have := all (decide (D 7 = 0)) (decide (D 8 = 0)) (decide (D 9 = 0)) (decide (D 10 = 0)) (decide (D 11 = 0)) (decide (D 12 = 0)) (decide (D 13 = 0)) m h
  simp only [decide_eq_true_eq] at this
  unfold Bof bN
  rw [this]
  match m, h with
  | 0, _ => simp
  | 1, _ => simp
  | 2, _ => simp
  | 3, _ => simp
  | 4, _ => simp
  | 5, _ => simp
  | 6, _ => simp
theorem bits_ext {A B : Nat} (hA : A < 128) (hB : B < 128) (h : ∀ m, m < 7 → A.testBit m = B.testBit m) : A = B := by
  apply Nat.eq_of_testBit_eq
  intro i
  by_cases q : i < 7
  · exact h i q
  · have e : 2 ^ 7 ≤ 2 ^ i := Nat.pow_le_pow_right (by decide) (by omega)
    rw [Nat.testBit_lt_two_pow (by omega), Nat.testBit_lt_two_pow (by omega)]
theorem Bof_eq {A : Nat} {D : Nat → Nat} (hA : A < 128) (h : ∀ m, m < 7 → A.testBit m = decide (¬ D (7 + m) = 0)) : A = Bof D :=
  bits_ext hA (Bof_lt D) (fun m q => (h m q).trans (Bof_bit D q).symm)
theorem Bof_congr {D D' : Nat → Nat} (h : ∀ m, m < 7 → D (7 + m) = D' (7 + m)) : Bof D = Bof D' :=
  Bof_eq (Bof_lt D) (fun m q => by rw [Bof_bit D q, h m q])
def HA (σ : HP) (h : Nat) (H : HH) : Prop := gI σ (2 + 64 * h) 0 = ii (hf H) ∧ gI σ (2 + 64 * h) 1 = ii (hm H) ∧ gI σ (2 + 64 * h) 2 = ii (hc H) ∧ gI σ (2 + 64 * h) 3 = ii (hp H) ∧
  gR σ (2 + 64 * h) 4 = some (21 + 64 * (h + 1)) ∧ gR σ (2 + 64 * h) 5 = some (21 + 64 * (h + 2)) ∧ gR σ (2 + 64 * h) 6 = some (21 + 64 * (h + 3)) ∧ gR σ (2 + 64 * h) 7 = some (22 + 64 * (h + 4)) ∧ gR σ (2 + 64 * h) 8 = some (22 + 64 * (h + 5)) ∧
  (∀ m, m < 7 → gI σ (21 + 64 * (h + 1)) m = ii (if m < hm H then mr H (3 * m) else 0)) ∧ (∀ m, m < hm H → gI σ (21 + 64 * (h + 2)) m = ii (mr H (3 * m + 1))) ∧ (∀ m, m < hm H → gI σ (21 + 64 * (h + 3)) m = ii (mr H (3 * m + 2))) ∧
  (∀ c, c < hc H → gI σ (22 + 64 * (h + 4)) c = ii (cr H (2 * c))) ∧ (∀ c, c < hc H → gI σ (22 + 64 * (h + 5)) c = ii (cr H (2 * c + 1)))
def DA (σ : HP) (s : Nat) (D : Nat → Nat) : Prop := gI σ (1 + 64 * s) 0 = ii (D 86) ∧ gI σ (1 + 64 * s) 1 = ii (D 84) ∧ gI σ (1 + 64 * s) 2 = ii (Bof D) ∧ gI σ (1 + 64 * s) 3 = ii (D 85) ∧
  gR σ (1 + 64 * s) 4 = some (21 + 64 * (s + 1)) ∧ gR σ (1 + 64 * s) 5 = some (21 + 64 * (s + 2)) ∧ gR σ (1 + 64 * s) 6 = some (21 + 64 * (s + 3)) ∧ gR σ (1 + 64 * s) 7 = some (26 + 64 * (s + 4)) ∧
  (∀ m, m < 7 → gI σ (21 + 64 * (s + 1)) m = ii (D m)) ∧ (∀ m, m < 7 → gI σ (21 + 64 * (s + 2)) m = ii (D (14 + m))) ∧ (∀ m, m < 7 → gI σ (21 + 64 * (s + 3)) m = ii (D (21 + m))) ∧ (∀ j, j < 56 → gI σ (26 + 64 * (s + 4)) j = ii (D (28 + j)))
def wD (H : HH) (D : Nat → Nat) : Prop := (∀ m, m < 7 → D m < hf H ∧ D (7 + m) ≤ 1 ∧ (hm H ≤ m → D (7 + m) = 0) ∧ D (14 + m) ≤ 900) ∧ (∀ j, j < 56 → D (28 + j) ≤ 9) ∧ D 84 < hf H
/-! a law: how many codes, the codes -/
abbrev LW : Type := Nat × (Nat → Nat)
def isV (c : Nat) : Bool := decide (c < 2000)
/-- how high the stack is behind k codes -/
def hgt (c : Nat → Nat) : Nat → Nat
  | 0 => 0
  | k + 1 => if c k < 2000 then hgt c k + 1 else hgt c k - 1
def okC (c : Nat) : Prop := c < 1009 ∨ c = 2043 ∨ c = 2045 ∨ c = 2042 ∨ c = 2047 ∨ c = 2037 ∨ c = 2001 ∨ c = 2002
def wL (w : LW) : Prop := w.1 ≤ 150 ∧ hgt w.2 w.1 = 1 ∧ ∀ k, k < w.1 → okC (w.2 k) ∧ (2000 ≤ w.2 k → 2 ≤ hgt w.2 k)
def LwA (σ : HP) (l : Nat) (w : LW) : Prop := gR σ (4 + 64 * l) 0 = some (29 + 64 * (l + 1)) ∧ gR σ (4 + 64 * l) 1 = some (29 + 64 * (l + 2)) ∧ gR σ (4 + 64 * l) 2 = some (23 + 64 * (l + 3)) ∧ gI σ (4 + 64 * l) 3 = ii w.1 ∧
  (∀ k, k < w.1 → gI σ (29 + 64 * (l + 1)) k = ii (w.2 k))
/-- a lift: its house, its law, its days -/
def CL (σ : HP) (t h l s : Nat) (H : HH) (w : LW) (D : Nat → Nat) : Prop := gR σ (5 + 64 * t) 0 = some (2 + 64 * h) ∧ gR σ (5 + 64 * t) 1 = some (4 + 64 * l) ∧ gR σ (5 + 64 * t) 2 = some (1 + 64 * s) ∧ HA σ h H ∧ DA σ s D ∧ LwA σ l w ∧ wH H ∧ wD H D ∧ wL w ∧
  (h + 5 < s ∨ s + 4 < h) ∧ (h + 5 < l ∨ l + 3 < h) ∧ (l + 3 < s ∨ s + 4 < l)
theorem s_isInside {m d t h l s : Nat} {H : HH} {w : LW} {D : Nat → Nat} {σ : HP} (L : CL σ t h l s H w D) (hk : m < 7) : callF (d + 2) m_Lift_isInside [.ref (5 + 64 * t), .int (ii m)] σ = some (.inl (some (.int (b2 (decide (¬ D (7 + m) = 0))))), σ) := by
  obtain ⟨qP, qL, qD, ⟨hF, hM, hC, hPi, hr4, hr5, hr6, hr7, hr8, hv4, hv5, hv6, hv7, hv8⟩, ⟨dv0, dv1, dv2, dv3, dr4, dr5, dr6, dr7, dw4, dw5, dw6, dw7⟩, ⟨lr0, lr1, lr2, lv3, lw0⟩, ⟨⟨hw1, hw2, hw3, hw4, hw5⟩, hwm, hwc⟩, ⟨wd1, wd2, wd3⟩, wl, hap1, hap2, hap3⟩ := L
  have := Bof_lt D
  rw [← Bof_bit D hk]
  simp (disch := first | omega | exact b2_01 _ | exact ii0_01 | exact ii1_01 | (simp (disch := omega) only [qP, qL, qD, hF, hM, hC, hPi, hr4, hr5, hr6, hr7, hr8, dv0, dv1, dv2, dv3, dr4, dr5, dr6, dr7, lr0, lr1, lr2, lv3, dr_some, Option.isSome_some, gR_wI, Nat.add_mul_mod_self_left, Nat.reduceMod, ak20, ak21, ak22, ak23, ak24, ak25, ak26, ak27, ak28, ak29, ak30, ak31, ak32, ak33, ak34, ak35, ak36, an20, an21, an22, an23, an24, an25, an26, an27, an28, an29, an30, an31, an32, an33, an34, an35, an36, an37, an38, ne_eq, inR_ii, decide_eq_true_eq, lit_ii, of_ii, ii_eq, ii_lt, ii_le]; first | done | omega)) only [e_Lift_isInside, b_Lift_isInside_0, b_Lift_isInside_11, s_isIn, qP, qL, qD, hF, hM, hC, hPi, hr4, hr5, hr6, hr7, hr8, dv0, dv1, dv2, dv3, dr4, dr5, dr6, dr7, lr0, lr1, lr2, lv3, dr_some, Option.isSome_some, gR_wI, Nat.add_mul_mod_self_left, Nat.reduceMod, ak20, ak21, ak22, ak23, ak24, ak25, ak26, ak27, ak28, ak29, ak30, ak31, ak32, ak33, ak34, ak35, ak36, an20, an21, an22, an23, an24, an25, an26, an27, an28, an29, an30, an31, an32, an33, an34, an35, an36, an37, an38, ↓reduceIte, bk_int, bk_void, bk_long, bkN_int, bkN_void, bkN_long, Nat.reduceAdd, Nat.reduceMul, Nat.reduceSub, Nat.reduceLT, Nat.reduceLeDiff, if_true, if_false, not_true_eq_false, not_false_eq_true, Bool.true_eq_false, Bool.false_eq_true, b2_eq0, Nat.add_zero, Nat.zero_add, Nat.not_lt_zero, Nat.zero_le, ite_true, ite_false, decide_true, decide_false, lit_ii, of_ii, le_T, le_F, lt_T, lt_F, eq_T, eq_F, ii_add, ii_mul, ii_nat, ii_le, ii_lt, ii_eq, inR_ii, ii_add0]
def heavy (H : HH) (D : Nat → Nat) (m : Nat) : Nat := mr H (3 * m + 1) + D (14 + m)
theorem s_heavyOf {m d t h l s : Nat} {H : HH} {w : LW} {D : Nat → Nat} {σ : HP} (L : CL σ t h l s H w D) (hk : m < hm H) : callF (d + 2) m_Lift_heavyOf [.ref (5 + 64 * t), .int (ii m)] σ = some (.inl (some (.int (ii (heavy H D m)))), σ) := by
  obtain ⟨qP, qL, qD, ⟨hF, hM, hC, hPi, hr4, hr5, hr6, hr7, hr8, hv4, hv5, hv6, hv7, hv8⟩, ⟨dv0, dv1, dv2, dv3, dr4, dr5, dr6, dr7, dw4, dw5, dw6, dw7⟩, ⟨lr0, lr1, lr2, lv3, lw0⟩, ⟨⟨hw1, hw2, hw3, hw4, hw5⟩, hwm, hwc⟩, ⟨wd1, wd2, wd3⟩, wl, hap1, hap2, hap3⟩ := L
  simp (disch := first | omega | exact b2_01 _ | exact ii0_01 | exact ii1_01 | (simp (disch := omega) only [qP, qL, qD, hF, hM, hC, hPi, hr4, hr5, hr6, hr7, hr8, dv0, dv1, dv2, dv3, dr4, dr5, dr6, dr7, lr0, lr1, lr2, lv3, dr_some, Option.isSome_some, gR_wI, Nat.add_mul_mod_self_left, Nat.reduceMod, ak20, ak21, ak22, ak23, ak24, ak25, ak26, ak27, ak28, ak29, ak30, ak31, ak32, ak33, ak34, ak35, ak36, an20, an21, an22, an23, an24, an25, an26, an27, an28, an29, an30, an31, an32, an33, an34, an35, an36, an37, an38, ne_eq, inR_ii, decide_eq_true_eq, lit_ii, of_ii, ii_eq, ii_lt, ii_le]; first | done | omega)) only [e_Lift_heavyOf, b_Lift_heavyOf_0, b_Lift_heavyOf_11, b_Lift_heavyOf_22, s_at, hv5 m hk, dw5 m, heavy, qP, qL, qD, hF, hM, hC, hPi, hr4, hr5, hr6, hr7, hr8, dv0, dv1, dv2, dv3, dr4, dr5, dr6, dr7, lr0, lr1, lr2, lv3, dr_some, Option.isSome_some, gR_wI, Nat.add_mul_mod_self_left, Nat.reduceMod, ak20, ak21, ak22, ak23, ak24, ak25, ak26, ak27, ak28, ak29, ak30, ak31, ak32, ak33, ak34, ak35, ak36, an20, an21, an22, an23, an24, an25, an26, an27, an28, an29, an30, an31, an32, an33, an34, an35, an36, an37, an38, ↓reduceIte, bk_int, bk_void, bk_long, bkN_int, bkN_void, bkN_long, Nat.reduceAdd, Nat.reduceMul, Nat.reduceSub, Nat.reduceLT, Nat.reduceLeDiff, if_true, if_false, not_true_eq_false, not_false_eq_true, Bool.true_eq_false, Bool.false_eq_true, b2_eq0, Nat.add_zero, Nat.zero_add, Nat.not_lt_zero, Nat.zero_le, ite_true, ite_false, decide_true, decide_false, lit_ii, of_ii, le_T, le_F, lt_T, lt_F, eq_T, eq_F, ii_add, ii_mul, ii_nat, ii_le, ii_lt, ii_eq, inR_ii, ii_add0]
/-- where a man is -/
def floorOf (D : Nat → Nat) (m : Nat) : Nat := if D (7 + m) = 0 then D m else D 84
theorem s_placeOf {m d t h l s : Nat} {H : HH} {w : LW} {D : Nat → Nat} {σ : HP} (L : CL σ t h l s H w D) (hk : m < 7) : callF (d + 3) m_Lift_placeOf [.ref (5 + 64 * t), .int (ii m)] σ = some (.inl (some (.int (ii (floorOf D m)))), σ) := by
  have h1 := s_isInside (d := d) L hk
  obtain ⟨qP, qL, qD, ⟨hF, hM, hC, hPi, hr4, hr5, hr6, hr7, hr8, hv4, hv5, hv6, hv7, hv8⟩, ⟨dv0, dv1, dv2, dv3, dr4, dr5, dr6, dr7, dw4, dw5, dw6, dw7⟩, ⟨lr0, lr1, lr2, lv3, lw0⟩, ⟨⟨hw1, hw2, hw3, hw4, hw5⟩, hwm, hwc⟩, ⟨wd1, wd2, wd3⟩, wl, hap1, hap2, hap3⟩ := L
  unfold floorOf
  by_cases hb : D (7 + m) = 0
  · simp only [hb, not_true_eq_false, decide_false] at h1
    simp (disch := first | omega | exact b2_01 _ | exact ii0_01 | exact ii1_01 | (simp (disch := omega) only [qP, qL, qD, hF, hM, hC, hPi, hr4, hr5, hr6, hr7, hr8, dv0, dv1, dv2, dv3, dr4, dr5, dr6, dr7, lr0, lr1, lr2, lv3, dr_some, Option.isSome_some, gR_wI, Nat.add_mul_mod_self_left, Nat.reduceMod, ak20, ak21, ak22, ak23, ak24, ak25, ak26, ak27, ak28, ak29, ak30, ak31, ak32, ak33, ak34, ak35, ak36, an20, an21, an22, an23, an24, an25, an26, an27, an28, an29, an30, an31, an32, an33, an34, an35, an36, an37, an38, ne_eq, inR_ii, decide_eq_true_eq, lit_ii, of_ii, ii_eq, ii_lt, ii_le]; first | done | omega)) only [e_Lift_placeOf, b_Lift_placeOf_0, b_Lift_placeOf_5, b_Lift_placeOf_8, b_Lift_placeOf_18, b_Lift_placeOf_29, s_at, h1, dw4 m hk, hb, qP, qL, qD, hF, hM, hC, hPi, hr4, hr5, hr6, hr7, hr8, dv0, dv1, dv2, dv3, dr4, dr5, dr6, dr7, lr0, lr1, lr2, lv3, dr_some, Option.isSome_some, gR_wI, Nat.add_mul_mod_self_left, Nat.reduceMod, ak20, ak21, ak22, ak23, ak24, ak25, ak26, ak27, ak28, ak29, ak30, ak31, ak32, ak33, ak34, ak35, ak36, an20, an21, an22, an23, an24, an25, an26, an27, an28, an29, an30, an31, an32, an33, an34, an35, an36, an37, an38, ↓reduceIte, bk_int, bk_void, bk_long, bkN_int, bkN_void, bkN_long, Nat.reduceAdd, Nat.reduceMul, Nat.reduceSub, Nat.reduceLT, Nat.reduceLeDiff, if_true, if_false, not_true_eq_false, not_false_eq_true, Bool.true_eq_false, Bool.false_eq_true, b2_eq0, Nat.add_zero, Nat.zero_add, Nat.not_lt_zero, Nat.zero_le, ite_true, ite_false, decide_true, decide_false, lit_ii, of_ii, le_T, le_F, lt_T, lt_F, eq_T, eq_F, ii_add, ii_mul, ii_nat, ii_le, ii_lt, ii_eq, inR_ii, ii_add0]
  · simp only [hb, not_false_eq_true, decide_true] at h1
    simp (disch := first | omega | exact b2_01 _ | exact ii0_01 | exact ii1_01 | (simp (disch := omega) only [qP, qL, qD, hF, hM, hC, hPi, hr4, hr5, hr6, hr7, hr8, dv0, dv1, dv2, dv3, dr4, dr5, dr6, dr7, lr0, lr1, lr2, lv3, dr_some, Option.isSome_some, gR_wI, Nat.add_mul_mod_self_left, Nat.reduceMod, ak20, ak21, ak22, ak23, ak24, ak25, ak26, ak27, ak28, ak29, ak30, ak31, ak32, ak33, ak34, ak35, ak36, an20, an21, an22, an23, an24, an25, an26, an27, an28, an29, an30, an31, an32, an33, an34, an35, an36, an37, an38, ne_eq, inR_ii, decide_eq_true_eq, lit_ii, of_ii, ii_eq, ii_lt, ii_le]; first | done | omega)) only [e_Lift_placeOf, b_Lift_placeOf_0, b_Lift_placeOf_5, b_Lift_placeOf_8, b_Lift_placeOf_18, b_Lift_placeOf_29, s_at, h1, dw4 m hk, hb, qP, qL, qD, hF, hM, hC, hPi, hr4, hr5, hr6, hr7, hr8, dv0, dv1, dv2, dv3, dr4, dr5, dr6, dr7, lr0, lr1, lr2, lv3, dr_some, Option.isSome_some, gR_wI, Nat.add_mul_mod_self_left, Nat.reduceMod, ak20, ak21, ak22, ak23, ak24, ak25, ak26, ak27, ak28, ak29, ak30, ak31, ak32, ak33, ak34, ak35, ak36, an20, an21, an22, an23, an24, an25, an26, an27, an28, an29, an30, an31, an32, an33, an34, an35, an36, an37, an38, ↓reduceIte, bk_int, bk_void, bk_long, bkN_int, bkN_void, bkN_long, Nat.reduceAdd, Nat.reduceMul, Nat.reduceSub, Nat.reduceLT, Nat.reduceLeDiff, if_true, if_false, not_true_eq_false, not_false_eq_true, Bool.true_eq_false, Bool.false_eq_true, b2_eq0, Nat.add_zero, Nat.zero_add, Nat.not_lt_zero, Nat.zero_le, ite_true, ite_false, decide_true, decide_false, lit_ii, of_ii, le_T, le_F, lt_T, lt_F, eq_T, eq_F, ii_add, ii_mul, ii_nat, ii_le, ii_lt, ii_eq, inR_ii, ii_add0]
/-- how heavy the men of a set are together -/
def hvf (H : HH) (D : Nat → Nat) (B m : Nat) : Nat := if B.testBit m then heavy H D m else 0
def hvs (H : HH) (D : Nat → Nat) (B : Nat) : Nat := sumTo (hvf H D B) (hm H)
theorem s_heavyOfSet {B d t h l s : Nat} {H : HH} {w : LW} {D : Nat → Nat} {σ : HP} (L : CL σ t h l s H w D) (hB : B < 256) : callF (d + 3) m_Lift_heavyOfSet [.ref (5 + 64 * t), .int (ii B)] σ = some (.inl (some (.int (ii (hvs H D B)))), σ) := by
  have L0 := L
  obtain ⟨qP, qL, qD, ⟨hF, hM, hC, hPi, hr4, hr5, hr6, hr7, hr8, hv4, hv5, hv6, hv7, hv8⟩, ⟨dv0, dv1, dv2, dv3, dr4, dr5, dr6, dr7, dw4, dw5, dw6, dw7⟩, ⟨lr0, lr1, lr2, lv3, lw0⟩, ⟨⟨hw1, hw2, hw3, hw4, hw5⟩, hwm, hwc⟩, ⟨wd1, wd2, wd3⟩, wl, hap1, hap2, hap3⟩ := L
  rw [e_Lift_heavyOfSet, b_Lift_heavyOfSet_0]
  refine loop_up (N := hm H) (fun k => (4, [some (.ref (5 + 64 * t)), some (.int (ii B)), some (.int (ii (sumTo (hvf H D B) k))), some (.int (ii k))], [], σ)) (fun k hk => ?_) ?_ 0 (Nat.zero_le _)
  · have hk' : ¬ hm H ≤ k := by omega
    conv => lhs; simp (disch := first | omega | exact b2_01 _ | exact ii0_01 | exact ii1_01 | (simp (disch := omega) only [qP, qL, qD, hF, hM, hC, hPi, hr4, hr5, hr6, hr7, hr8, dv0, dv1, dv2, dv3, dr4, dr5, dr6, dr7, lr0, lr1, lr2, lv3, dr_some, Option.isSome_some, gR_wI, Nat.add_mul_mod_self_left, Nat.reduceMod, ak20, ak21, ak22, ak23, ak24, ak25, ak26, ak27, ak28, ak29, ak30, ak31, ak32, ak33, ak34, ak35, ak36, an20, an21, an22, an23, an24, an25, an26, an27, an28, an29, an30, an31, an32, an33, an34, an35, an36, an37, an38, ne_eq, inR_ii, decide_eq_true_eq, lit_ii, of_ii, ii_eq, ii_lt, ii_le]; first | done | omega)) only [b_Lift_heavyOfSet_4, hk', qP, qL, qD, hF, hM, hC, hPi, hr4, hr5, hr6, hr7, hr8, dv0, dv1, dv2, dv3, dr4, dr5, dr6, dr7, lr0, lr1, lr2, lv3, dr_some, Option.isSome_some, gR_wI, Nat.add_mul_mod_self_left, Nat.reduceMod, ak20, ak21, ak22, ak23, ak24, ak25, ak26, ak27, ak28, ak29, ak30, ak31, ak32, ak33, ak34, ak35, ak36, an20, an21, an22, an23, an24, an25, an26, an27, an28, an29, an30, an31, an32, an33, an34, an35, an36, an37, an38, ↓reduceIte, bk_int, bk_void, bk_long, bkN_int, bkN_void, bkN_long, Nat.reduceAdd, Nat.reduceMul, Nat.reduceSub, Nat.reduceLT, Nat.reduceLeDiff, if_true, if_false, not_true_eq_false, not_false_eq_true, Bool.true_eq_false, Bool.false_eq_true, b2_eq0, Nat.add_zero, Nat.zero_add, Nat.not_lt_zero, Nat.zero_le, ite_true, ite_false, decide_true, decide_false, lit_ii, of_ii, le_T, le_F, lt_T, lt_F, eq_T, eq_F, ii_add, ii_mul, ii_nat, ii_le, ii_lt, ii_eq, inR_ii, ii_add0]
    cases hb : B.testBit k
    · simp (disch := first | omega | exact b2_01 _ | exact ii0_01 | exact ii1_01 | (simp (disch := omega) only [qP, qL, qD, hF, hM, hC, hPi, hr4, hr5, hr6, hr7, hr8, dv0, dv1, dv2, dv3, dr4, dr5, dr6, dr7, lr0, lr1, lr2, lv3, dr_some, Option.isSome_some, gR_wI, Nat.add_mul_mod_self_left, Nat.reduceMod, ak20, ak21, ak22, ak23, ak24, ak25, ak26, ak27, ak28, ak29, ak30, ak31, ak32, ak33, ak34, ak35, ak36, an20, an21, an22, an23, an24, an25, an26, an27, an28, an29, an30, an31, an32, an33, an34, an35, an36, an37, an38, ne_eq, inR_ii, decide_eq_true_eq, lit_ii, of_ii, ii_eq, ii_lt, ii_le]; first | done | omega)) only [e_Lift_heavyOfSet, b_Lift_heavyOfSet_0, b_Lift_heavyOfSet_15, b_Lift_heavyOfSet_20, b_Lift_heavyOfSet_23, b_Lift_heavyOfSet_29, b_Lift_heavyOfSet_31, b_Lift_heavyOfSet_37, s_isIn, hb, sumTo, hvf, qP, qL, qD, hF, hM, hC, hPi, hr4, hr5, hr6, hr7, hr8, dv0, dv1, dv2, dv3, dr4, dr5, dr6, dr7, lr0, lr1, lr2, lv3, dr_some, Option.isSome_some, gR_wI, Nat.add_mul_mod_self_left, Nat.reduceMod, ak20, ak21, ak22, ak23, ak24, ak25, ak26, ak27, ak28, ak29, ak30, ak31, ak32, ak33, ak34, ak35, ak36, an20, an21, an22, an23, an24, an25, an26, an27, an28, an29, an30, an31, an32, an33, an34, an35, an36, an37, an38, ↓reduceIte, bk_int, bk_void, bk_long, bkN_int, bkN_void, bkN_long, Nat.reduceAdd, Nat.reduceMul, Nat.reduceSub, Nat.reduceLT, Nat.reduceLeDiff, if_true, if_false, not_true_eq_false, not_false_eq_true, Bool.true_eq_false, Bool.false_eq_true, b2_eq0, Nat.add_zero, Nat.zero_add, Nat.not_lt_zero, Nat.zero_le, ite_true, ite_false, decide_true, decide_false, lit_ii, of_ii, le_T, le_F, lt_T, lt_F, eq_T, eq_F, ii_add, ii_mul, ii_nat, ii_le, ii_lt, ii_eq, inR_ii, ii_add0]
    · simp (disch := first | omega | exact b2_01 _ | exact ii0_01 | exact ii1_01 | (simp (disch := omega) only [qP, qL, qD, hF, hM, hC, hPi, hr4, hr5, hr6, hr7, hr8, dv0, dv1, dv2, dv3, dr4, dr5, dr6, dr7, lr0, lr1, lr2, lv3, dr_some, Option.isSome_some, gR_wI, Nat.add_mul_mod_self_left, Nat.reduceMod, ak20, ak21, ak22, ak23, ak24, ak25, ak26, ak27, ak28, ak29, ak30, ak31, ak32, ak33, ak34, ak35, ak36, an20, an21, an22, an23, an24, an25, an26, an27, an28, an29, an30, an31, an32, an33, an34, an35, an36, an37, an38, ne_eq, inR_ii, decide_eq_true_eq, lit_ii, of_ii, ii_eq, ii_lt, ii_le]; first | done | omega)) only [e_Lift_heavyOfSet, b_Lift_heavyOfSet_0, b_Lift_heavyOfSet_15, b_Lift_heavyOfSet_20, b_Lift_heavyOfSet_23, b_Lift_heavyOfSet_29, b_Lift_heavyOfSet_31, b_Lift_heavyOfSet_37, s_isIn, hb, s_heavyOf L0 hk, sumTo, hvf, qP, qL, qD, hF, hM, hC, hPi, hr4, hr5, hr6, hr7, hr8, dv0, dv1, dv2, dv3, dr4, dr5, dr6, dr7, lr0, lr1, lr2, lv3, dr_some, Option.isSome_some, gR_wI, Nat.add_mul_mod_self_left, Nat.reduceMod, ak20, ak21, ak22, ak23, ak24, ak25, ak26, ak27, ak28, ak29, ak30, ak31, ak32, ak33, ak34, ak35, ak36, an20, an21, an22, an23, an24, an25, an26, an27, an28, an29, an30, an31, an32, an33, an34, an35, an36, an37, an38, ↓reduceIte, bk_int, bk_void, bk_long, bkN_int, bkN_void, bkN_long, Nat.reduceAdd, Nat.reduceMul, Nat.reduceSub, Nat.reduceLT, Nat.reduceLeDiff, if_true, if_false, not_true_eq_false, not_false_eq_true, Bool.true_eq_false, Bool.false_eq_true, b2_eq0, Nat.add_zero, Nat.zero_add, Nat.not_lt_zero, Nat.zero_le, ite_true, ite_false, decide_true, decide_false, lit_ii, of_ii, le_T, le_F, lt_T, lt_F, eq_T, eq_F, ii_add, ii_mul, ii_nat, ii_le, ii_lt, ii_eq, inR_ii, ii_add0]
  · simp (disch := first | omega | exact b2_01 _ | exact ii0_01 | exact ii1_01 | (simp (disch := omega) only [qP, qL, qD, hF, hM, hC, hPi, hr4, hr5, hr6, hr7, hr8, dv0, dv1, dv2, dv3, dr4, dr5, dr6, dr7, lr0, lr1, lr2, lv3, dr_some, Option.isSome_some, gR_wI, Nat.add_mul_mod_self_left, Nat.reduceMod, ak20, ak21, ak22, ak23, ak24, ak25, ak26, ak27, ak28, ak29, ak30, ak31, ak32, ak33, ak34, ak35, ak36, an20, an21, an22, an23, an24, an25, an26, an27, an28, an29, an30, an31, an32, an33, an34, an35, an36, an37, an38, ne_eq, inR_ii, decide_eq_true_eq, lit_ii, of_ii, ii_eq, ii_lt, ii_le]; first | done | omega)) only [e_Lift_heavyOfSet, b_Lift_heavyOfSet_0, b_Lift_heavyOfSet_4, b_Lift_heavyOfSet_15, b_Lift_heavyOfSet_20, b_Lift_heavyOfSet_23, b_Lift_heavyOfSet_29, b_Lift_heavyOfSet_31, b_Lift_heavyOfSet_37, hvs, Nat.le_refl, qP, qL, qD, hF, hM, hC, hPi, hr4, hr5, hr6, hr7, hr8, dv0, dv1, dv2, dv3, dr4, dr5, dr6, dr7, lr0, lr1, lr2, lv3, dr_some, Option.isSome_some, gR_wI, Nat.add_mul_mod_self_left, Nat.reduceMod, ak20, ak21, ak22, ak23, ak24, ak25, ak26, ak27, ak28, ak29, ak30, ak31, ak32, ak33, ak34, ak35, ak36, an20, an21, an22, an23, an24, an25, an26, an27, an28, an29, an30, an31, an32, an33, an34, an35, an36, an37, an38, ↓reduceIte, bk_int, bk_void, bk_long, bkN_int, bkN_void, bkN_long, Nat.reduceAdd, Nat.reduceMul, Nat.reduceSub, Nat.reduceLT, Nat.reduceLeDiff, if_true, if_false, not_true_eq_false, not_false_eq_true, Bool.true_eq_false, Bool.false_eq_true, b2_eq0, Nat.add_zero, Nat.zero_add, Nat.not_lt_zero, Nat.zero_le, ite_true, ite_false, decide_true, decide_false, lit_ii, of_ii, le_T, le_F, lt_T, lt_F, eq_T, eq_F, ii_add, ii_mul, ii_nat, ii_le, ii_lt, ii_eq, inR_ii, ii_add0]
