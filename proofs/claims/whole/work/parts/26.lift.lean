/-! THE CLASS, small methods -/
theorem ak20 : aty 20 = 1 := rfl
theorem ak21 : aty 21 = 1 := rfl
theorem ak22 : aty 22 = 1 := rfl
theorem ak23 : aty 23 = 1 := rfl
theorem ak24 : aty 24 = 1 := rfl
theorem ak25 : aty 25 = 1 := rfl
theorem ak26 : aty 26 = 1 := rfl
theorem ak27 : aty 27 = 1 := rfl
theorem ak28 : aty 28 = 1 := rfl
theorem ak29 : aty 29 = 1 := rfl
theorem ak30 : aty 30 = 1 := rfl
theorem ak31 : aty 31 = 1 := rfl
theorem ak32 : aty 32 = 1 := rfl
theorem ak33 : aty 33 = 1 := rfl
theorem ak34 : aty 34 = 2 := rfl
theorem ak35 : aty 35 = 2 := rfl
theorem ak36 : aty 36 = 3 := rfl
theorem ak37 : aty 37 = 4 := rfl
theorem ak38 : aty 38 = 5 := rfl
theorem an20 : alen 20 = 2 := rfl
theorem an21 : alen 21 = 7 := rfl
theorem an22 : alen 22 = 8 := rfl
theorem an23 : alen 23 = 9 := rfl
theorem an24 : alen 24 = 16 := rfl
theorem an25 : alen 25 = 21 := rfl
theorem an26 : alen 26 = 56 := rfl
theorem an27 : alen 27 = 87 := rfl
theorem an28 : alen 28 = 128 := rfl
theorem an29 : alen 29 = 150 := rfl
theorem an30 : alen 30 = 600 := rfl
theorem an31 : alen 31 = 1000 := rfl
theorem an32 : alen 32 = 1392 := rfl
theorem an33 : alen 33 = 4440 := rfl
theorem an34 : alen 34 = 1 := rfl
theorem an35 : alen 35 = 13 := rfl
theorem an36 : alen 36 = 600 := rfl
theorem an37 : alen 37 = 16 := rfl
theorem an38 : alen 38 = 3 := rfl
theorem b2_01 (b : Bool) : b2 b = 0 ∨ b2 b = 1 := by cases b <;> decide
theorem b2_eq0 (b : Bool) : b2 b = 0 ↔ b = false := by cases b <;> decide
theorem alen_lt {a k : Nat} (h : k < alen (a % 64)) : alen (a % 64) ≤ 4440 := alen_le _ (Nat.mod_lt _ (by decide))
theorem s_isIn {d B m : Nat} {σ : HP} (hB : B < 256) (hm : m < 8) : callF (d + 1) m_PL_isIn [.int (ii B), .int (ii m)] σ = some (.inl (some (.int (b2 (B.testBit m)))), σ) := by
  rw [e_PL_isIn, b_PL_isIn_0, bit_at B hB m hm]
  cases B.testBit m
  · rw [if_pos (show b2 false = 0 from rfl), b_PL_isIn_12, b_PL_isIn_13 (Or.inl rfl)]; rfl
  · rw [if_neg (show ¬ b2 true = 0 from by decide), b_PL_isIn_8, b_PL_isIn_13 (Or.inr rfl)]; rfl
theorem s_at {d a k : Nat} {σ : HP} (ha : aty (a % 64) = 1) (hk : k < alen (a % 64)) : callF (d + 1) m_PL_at [.ref a, .int (ii k)] σ = some (.inl (some (.int (gI σ a k))), σ) := by
  have h9 := alen_lt hk
  have h0 : ¬ ii k < 0 := ii_nn (by omega)
  have h1 : ¬ Int32.ofNat (alen (a % 64)) ≤ ii k := by
    show ¬ ii (alen (a % 64)) ≤ ii k
    rw [ii_le (by omega) (by omega)]
    omega
  rw [e_PL_at, b_PL_at_0, if_neg h0, b_PL_at_4 (by omega), if_neg h1, b_PL_at_10 ha (by rw [inR_ii (by omega)]; exact decide_eq_true hk), b_PL_at_17, ii_nat (by omega)]
theorem s_put {d a k : Nat} {v : Int32} {σ : HP} (ha : aty (a % 64) = 1) (hk : k < alen (a % 64)) : callF (d + 1) m_PL_put [.ref a, .int (ii k), .int v] σ = some (.inl none, wI σ a k v) := by
  have h9 := alen_lt hk
  have h0 : ¬ ii k < 0 := ii_nn (by omega)
  have h1 : ¬ Int32.ofNat (alen (a % 64)) ≤ ii k := by
    show ¬ ii (alen (a % 64)) ≤ ii k
    rw [ii_le (by omega) (by omega)]
    omega
  rw [e_PL_put, b_PL_put_0, if_neg h0, b_PL_put_4 (by omega), if_neg h1, b_PL_put_10 ha (by rw [inR_ii (by omega)]; exact decide_eq_true hk), b_PL_put_14, ii_nat (by omega)]
theorem s_within {d : Nat} {x a b : Int32} {σ : HP} : callF (d + 1) m_PL_isWithin [.int x, .int a, .int b] σ = some (.inl (some (.int (b2 (decide (a ≤ x ∧ x ≤ b))))), σ) := by
  rw [e_PL_isWithin, b_PL_isWithin_0]
  by_cases h1 : x < a
  · rw [if_pos h1, b_PL_isWithin_14, b_PL_isWithin_15 (Or.inl rfl), decide_eq_false (fun q => Int32.not_le.mpr h1 q.1)]; rfl
  · rw [if_neg h1, b_PL_isWithin_5]
    by_cases h2 : b < x
    · rw [if_pos h2, b_PL_isWithin_14, b_PL_isWithin_15 (Or.inl rfl), decide_eq_false (fun q => Int32.not_le.mpr h2 q.2)]; rfl
    · rw [if_neg h2, b_PL_isWithin_10, b_PL_isWithin_15 (Or.inr rfl), decide_eq_true ⟨Int32.not_lt.mp h1, Int32.not_lt.mp h2⟩]; rfl
/-! a house: men, cards, floors, the piano; men's and cards' rows as the reference has them -/
abbrev HH : Type := (Nat × Nat × Nat × Int32) × (Nat → Int32) × (Nat → Int32)
def hm (H : HH) : Nat := H.1.1
def hc (H : HH) : Nat := H.1.2.1
def hf (H : HH) : Nat := H.1.2.2.1
def hp (H : HH) : Int32 := H.1.2.2.2
def mr (H : HH) (k : Nat) : Int32 := H.2.1 k
def cr (H : HH) (k : Nat) : Int32 := H.2.2 k
def wH (H : HH) : Prop := hm H ≤ 7 ∧ hc H ≤ 8 ∧ 2 ≤ hf H ∧ hf H ≤ 12
/-- who is inside, as bits -/
def bN (x : Int32) (n : Nat) : Nat := if x = 0 then 0 else n
def Bof (D : Nat → Int32) : Nat := bN (D 7) 1 + bN (D 8) 2 + bN (D 9) 4 + bN (D 10) 8 + bN (D 11) 16 + bN (D 12) 32 + bN (D 13) 64
theorem Bof_lt (D : Nat → Int32) : Bof D < 128 := by
  unfold Bof bN
  repeat' split
  all_goals omega
theorem Bof_bit (D : Nat → Int32) {m : Nat} (h : m < 7) : (Bof D).testBit m = decide (¬ D (7 + m) = 0) := by
  have key : ∀ b : Bool, ∀ n : Nat, (if b = true then 0 else n) = (if b then 0 else n) := fun _ _ => rfl
  have all : ∀ b0 b1 b2 b3 b4 b5 b6 : Bool, ∀ m, m < 7 → ((if b0 then 0 else 1) + (if b1 then 0 else 2) + (if b2 then 0 else 4) + (if b3 then 0 else 8) + (if b4 then 0 else 16) + (if b5 then 0 else 32) + (if b6 then 0 else 64) : Nat).testBit m = !([b0, b1, b2, b3, b4, b5, b6].getD m true) := by decide +kernel
  have := all (decide (D 7 = 0)) (decide (D 8 = 0)) (decide (D 9 = 0)) (decide (D 10 = 0)) (decide (D 11 = 0)) (decide (D 12 = 0)) (decide (D 13 = 0)) m h
  simp only [decide_eq_true_eq] at this
  unfold Bof bN
  rw [this]
  match m, h with
  | 0, _ => simp
  | 1, _ => simp
  | 2, _ => simp
  | 3, _ => simp
  | 4, _ => simp
  | 5, _ => simp
  | 6, _ => simp
def HA (σ : HP) (h : Nat) (H : HH) : Prop := gI σ (2 + 64 * h) 0 = ii (hf H) ∧ gI σ (2 + 64 * h) 1 = ii (hm H) ∧ gI σ (2 + 64 * h) 2 = ii (hc H) ∧ gI σ (2 + 64 * h) 3 = hp H ∧
  gR σ (2 + 64 * h) 4 = some (21 + 64 * (h + 1)) ∧ gR σ (2 + 64 * h) 5 = some (21 + 64 * (h + 2)) ∧ gR σ (2 + 64 * h) 6 = some (21 + 64 * (h + 3)) ∧ gR σ (2 + 64 * h) 7 = some (22 + 64 * (h + 4)) ∧ gR σ (2 + 64 * h) 8 = some (22 + 64 * (h + 5)) ∧
  (∀ m, m < hm H → gI σ (21 + 64 * (h + 1)) m = mr H (3 * m)) ∧ (∀ m, m < hm H → gI σ (21 + 64 * (h + 2)) m = mr H (3 * m + 1)) ∧ (∀ m, m < hm H → gI σ (21 + 64 * (h + 3)) m = mr H (3 * m + 2)) ∧
  (∀ c, c < hc H → gI σ (22 + 64 * (h + 4)) c = cr H (2 * c)) ∧ (∀ c, c < hc H → gI σ (22 + 64 * (h + 5)) c = cr H (2 * c + 1))
def DA (σ : HP) (s n : Nat) (D : Nat → Int32) : Prop := gI σ (1 + 64 * s) 0 = D 86 ∧ gI σ (1 + 64 * s) 1 = D 84 ∧ gI σ (1 + 64 * s) 2 = ii (Bof D) ∧ gI σ (1 + 64 * s) 3 = D 85 ∧
  gR σ (1 + 64 * s) 4 = some (21 + 64 * (s + 1)) ∧ gR σ (1 + 64 * s) 5 = some (21 + 64 * (s + 2)) ∧ gR σ (1 + 64 * s) 6 = some (21 + 64 * (s + 3)) ∧ gR σ (1 + 64 * s) 7 = some (26 + 64 * (s + 4)) ∧
  (∀ m, m < n → gI σ (21 + 64 * (s + 1)) m = D m) ∧ (∀ m, m < n → gI σ (21 + 64 * (s + 2)) m = D (14 + m)) ∧ (∀ m, m < n → gI σ (21 + 64 * (s + 3)) m = D (21 + m)) ∧ (∀ j, j < 8 * n → gI σ (26 + 64 * (s + 4)) j = D (28 + j))
/-- a lift: its house, its law's place, its days -/
def LA (σ : HP) (t h l s : Nat) (H : HH) (D : Nat → Int32) : Prop := gR σ (5 + 64 * t) 0 = some (2 + 64 * h) ∧ gR σ (5 + 64 * t) 1 = some (4 + 64 * l) ∧ gR σ (5 + 64 * t) 2 = some (1 + 64 * s) ∧ HA σ h H ∧ DA σ s (hm H) D ∧ wH H ∧ (h + 5 < s ∨ s + 4 < h)
theorem s_isInside {m d t h l s : Nat} {H : HH} {D : Nat → Int32} {σ : HP} (L : LA σ t h l s H D) (hk : m < hm H) : callF (d + 2) m_Lift_isInside [.ref (5 + 64 * t), .int (ii m)] σ = some (.inl (some (.int (b2 (decide (¬ D (7 + m) = 0))))), σ) := by
  obtain ⟨qP, qL, qD, ⟨hF, hM, hC, hPi, hr4, hr5, hr6, hr7, hr8, hv4, hv5, hv6, hv7, hv8⟩, ⟨dv0, dv1, dv2, dv3, dr4, dr5, dr6, dr7, dw4, dw5, dw6, dw7⟩, ⟨hw1, hw2, hw3, hw4⟩, hap⟩ := L
  have := Bof_lt D
  rw [← Bof_bit D (by omega : m < 7)]
  simp (disch := first | omega | (simp only [qP, qL, qD, hF, hM, hC, hPi, hr4, hr5, hr6, hr7, hr8, dv0, dv1, dv2, dv3, dr4, dr5, dr6, dr7, dr_some, Option.isSome_some, gR_wI, Nat.add_mul_mod_self_left, Nat.reduceMod, ak20, ak21, ak22, ak23, ak24, ak25, ak26, ak27, ak28, ak29, ak30, ak31, ak32, ak33, ak34, ak35, ak36, an20, an21, an22, an23, an24, an25, an26, an27, an28, an29, an30, an31, an32, an33, an34, an35, an36, an37, an38, ii_add, ii_mul, ii_addl, ii_ladd, ii_mull, ii_lmul, ii_nat, lit_nat, ii_le, ii_lt, ii_eq, ii_lel, ii_lle, ii_ltl, ii_llt, ii_eql, ii_leq, inR_ii, inR_lit, decide_true, decide_eq_true_eq, b2_01, ne_eq]; first | done | omega)) only [e_Lift_isInside, b_Lift_isInside_0, b_Lift_isInside_11, s_isIn, qP, qL, qD, hF, hM, hC, hPi, hr4, hr5, hr6, hr7, hr8, dv0, dv1, dv2, dv3, dr4, dr5, dr6, dr7, dr_some, Option.isSome_some, gR_wI, Nat.add_mul_mod_self_left, Nat.reduceMod, ak20, ak21, ak22, ak23, ak24, ak25, ak26, ak27, ak28, ak29, ak30, ak31, ak32, ak33, ak34, ak35, ak36, an20, an21, an22, an23, an24, an25, an26, an27, an28, an29, an30, an31, an32, an33, an34, an35, an36, an37, an38, bk_int, bk_void, bk_long, bkN_int, bkN_void, bkN_long, Nat.reduceAdd, if_true, if_false, not_true_eq_false, not_false_eq_true, Bool.true_eq_false, Bool.false_eq_true, b2_eq0]
def heavy (H : HH) (D : Nat → Int32) (m : Nat) : Int32 := mr H (3 * m + 1) + D (14 + m)
theorem s_heavyOf {m d t h l s : Nat} {H : HH} {D : Nat → Int32} {σ : HP} (L : LA σ t h l s H D) (hk : m < hm H) : callF (d + 2) m_Lift_heavyOf [.ref (5 + 64 * t), .int (ii m)] σ = some (.inl (some (.int (heavy H D m))), σ) := by
  obtain ⟨qP, qL, qD, ⟨hF, hM, hC, hPi, hr4, hr5, hr6, hr7, hr8, hv4, hv5, hv6, hv7, hv8⟩, ⟨dv0, dv1, dv2, dv3, dr4, dr5, dr6, dr7, dw4, dw5, dw6, dw7⟩, ⟨hw1, hw2, hw3, hw4⟩, hap⟩ := L
  simp (disch := first | omega | (simp only [qP, qL, qD, hF, hM, hC, hPi, hr4, hr5, hr6, hr7, hr8, dv0, dv1, dv2, dv3, dr4, dr5, dr6, dr7, dr_some, Option.isSome_some, gR_wI, Nat.add_mul_mod_self_left, Nat.reduceMod, ak20, ak21, ak22, ak23, ak24, ak25, ak26, ak27, ak28, ak29, ak30, ak31, ak32, ak33, ak34, ak35, ak36, an20, an21, an22, an23, an24, an25, an26, an27, an28, an29, an30, an31, an32, an33, an34, an35, an36, an37, an38, ii_add, ii_mul, ii_addl, ii_ladd, ii_mull, ii_lmul, ii_nat, lit_nat, ii_le, ii_lt, ii_eq, ii_lel, ii_lle, ii_ltl, ii_llt, ii_eql, ii_leq, inR_ii, inR_lit, decide_true, decide_eq_true_eq, b2_01, ne_eq]; first | done | omega)) only [e_Lift_heavyOf, b_Lift_heavyOf_0, b_Lift_heavyOf_11, b_Lift_heavyOf_22, s_at, hv5 m hk, dw5 m hk, heavy, qP, qL, qD, hF, hM, hC, hPi, hr4, hr5, hr6, hr7, hr8, dv0, dv1, dv2, dv3, dr4, dr5, dr6, dr7, dr_some, Option.isSome_some, gR_wI, Nat.add_mul_mod_self_left, Nat.reduceMod, ak20, ak21, ak22, ak23, ak24, ak25, ak26, ak27, ak28, ak29, ak30, ak31, ak32, ak33, ak34, ak35, ak36, an20, an21, an22, an23, an24, an25, an26, an27, an28, an29, an30, an31, an32, an33, an34, an35, an36, an37, an38, bk_int, bk_void, bk_long, bkN_int, bkN_void, bkN_long, Nat.reduceAdd, if_true, if_false, not_true_eq_false, not_false_eq_true, Bool.true_eq_false, Bool.false_eq_true, b2_eq0]
/-- where a man is -/
def floorOf (D : Nat → Int32) (m : Nat) : Int32 := if D (7 + m) = 0 then D m else D 84
theorem s_placeOf {m d t h l s : Nat} {H : HH} {D : Nat → Int32} {σ : HP} (L : LA σ t h l s H D) (hk : m < hm H) : callF (d + 3) m_Lift_placeOf [.ref (5 + 64 * t), .int (ii m)] σ = some (.inl (some (.int (floorOf D m))), σ) := by
  have h1 := s_isInside (d := d) L hk
  obtain ⟨qP, qL, qD, ⟨hF, hM, hC, hPi, hr4, hr5, hr6, hr7, hr8, hv4, hv5, hv6, hv7, hv8⟩, ⟨dv0, dv1, dv2, dv3, dr4, dr5, dr6, dr7, dw4, dw5, dw6, dw7⟩, ⟨hw1, hw2, hw3, hw4⟩, hap⟩ := L
  unfold floorOf
  by_cases hb : D (7 + m) = 0
  · simp only [hb, not_true_eq_false, decide_false] at h1
    simp (disch := first | omega | (simp only [qP, qL, qD, hF, hM, hC, hPi, hr4, hr5, hr6, hr7, hr8, dv0, dv1, dv2, dv3, dr4, dr5, dr6, dr7, dr_some, Option.isSome_some, gR_wI, Nat.add_mul_mod_self_left, Nat.reduceMod, ak20, ak21, ak22, ak23, ak24, ak25, ak26, ak27, ak28, ak29, ak30, ak31, ak32, ak33, ak34, ak35, ak36, an20, an21, an22, an23, an24, an25, an26, an27, an28, an29, an30, an31, an32, an33, an34, an35, an36, an37, an38, ii_add, ii_mul, ii_addl, ii_ladd, ii_mull, ii_lmul, ii_nat, lit_nat, ii_le, ii_lt, ii_eq, ii_lel, ii_lle, ii_ltl, ii_llt, ii_eql, ii_leq, inR_ii, inR_lit, decide_true, decide_eq_true_eq, b2_01, ne_eq]; first | done | omega)) only [e_Lift_placeOf, b_Lift_placeOf_0, b_Lift_placeOf_5, b_Lift_placeOf_8, b_Lift_placeOf_18, b_Lift_placeOf_29, s_at, h1, dw4 m hk, hb, qP, qL, qD, hF, hM, hC, hPi, hr4, hr5, hr6, hr7, hr8, dv0, dv1, dv2, dv3, dr4, dr5, dr6, dr7, dr_some, Option.isSome_some, gR_wI, Nat.add_mul_mod_self_left, Nat.reduceMod, ak20, ak21, ak22, ak23, ak24, ak25, ak26, ak27, ak28, ak29, ak30, ak31, ak32, ak33, ak34, ak35, ak36, an20, an21, an22, an23, an24, an25, an26, an27, an28, an29, an30, an31, an32, an33, an34, an35, an36, an37, an38, bk_int, bk_void, bk_long, bkN_int, bkN_void, bkN_long, Nat.reduceAdd, if_true, if_false, not_true_eq_false, not_false_eq_true, Bool.true_eq_false, Bool.false_eq_true, b2_eq0]
  · simp only [hb, not_false_eq_true, decide_true] at h1
    simp (disch := first | omega | (simp only [qP, qL, qD, hF, hM, hC, hPi, hr4, hr5, hr6, hr7, hr8, dv0, dv1, dv2, dv3, dr4, dr5, dr6, dr7, dr_some, Option.isSome_some, gR_wI, Nat.add_mul_mod_self_left, Nat.reduceMod, ak20, ak21, ak22, ak23, ak24, ak25, ak26, ak27, ak28, ak29, ak30, ak31, ak32, ak33, ak34, ak35, ak36, an20, an21, an22, an23, an24, an25, an26, an27, an28, an29, an30, an31, an32, an33, an34, an35, an36, an37, an38, ii_add, ii_mul, ii_addl, ii_ladd, ii_mull, ii_lmul, ii_nat, lit_nat, ii_le, ii_lt, ii_eq, ii_lel, ii_lle, ii_ltl, ii_llt, ii_eql, ii_leq, inR_ii, inR_lit, decide_true, decide_eq_true_eq, b2_01, ne_eq]; first | done | omega)) only [e_Lift_placeOf, b_Lift_placeOf_0, b_Lift_placeOf_5, b_Lift_placeOf_8, b_Lift_placeOf_18, b_Lift_placeOf_29, s_at, h1, dw4 m hk, hb, qP, qL, qD, hF, hM, hC, hPi, hr4, hr5, hr6, hr7, hr8, dv0, dv1, dv2, dv3, dr4, dr5, dr6, dr7, dr_some, Option.isSome_some, gR_wI, Nat.add_mul_mod_self_left, Nat.reduceMod, ak20, ak21, ak22, ak23, ak24, ak25, ak26, ak27, ak28, ak29, ak30, ak31, ak32, ak33, ak34, ak35, ak36, an20, an21, an22, an23, an24, an25, an26, an27, an28, an29, an30, an31, an32, an33, an34, an35, an36, an37, an38, bk_int, bk_void, bk_long, bkN_int, bkN_void, bkN_long, Nat.reduceAdd, if_true, if_false, not_true_eq_false, not_false_eq_true, Bool.true_eq_false, Bool.false_eq_true, b2_eq0]
/-- how heavy the men of a set are together -/
def hvs (H : HH) (D : Nat → Int32) (B : Nat) : Int32 := sumTo (fun m => if B.testBit m then heavy H D m else 0) (hm H)
theorem s_heavyOfSet {B d t h l s : Nat} {H : HH} {D : Nat → Int32} {σ : HP} (L : LA σ t h l s H D) (hB : B < 256) : callF (d + 3) m_Lift_heavyOfSet [.ref (5 + 64 * t), .int (ii B)] σ = some (.inl (some (.int (hvs H D B))), σ) := by
  have L0 := L
  obtain ⟨qP, qL, qD, ⟨hF, hM, hC, hPi, hr4, hr5, hr6, hr7, hr8, hv4, hv5, hv6, hv7, hv8⟩, ⟨dv0, dv1, dv2, dv3, dr4, dr5, dr6, dr7, dw4, dw5, dw6, dw7⟩, ⟨hw1, hw2, hw3, hw4⟩, hap⟩ := L
  rw [e_Lift_heavyOfSet, b_Lift_heavyOfSet_0]
  refine loop_up (N := hm H) (fun k => (4, [some (.ref (5 + 64 * t)), some (.int (ii B)), some (.int (sumTo (fun m => if B.testBit m then heavy H D m else 0) k)), some (.int (ii k))], [], σ)) (fun k hk => ?_) ?_ 0 (Nat.zero_le _)
  · have hk' : ¬ hm H ≤ k := by omega
    conv => lhs; simp (disch := first | omega | (simp only [qP, qL, qD, hF, hM, hC, hPi, hr4, hr5, hr6, hr7, hr8, dv0, dv1, dv2, dv3, dr4, dr5, dr6, dr7, dr_some, Option.isSome_some, gR_wI, Nat.add_mul_mod_self_left, Nat.reduceMod, ak20, ak21, ak22, ak23, ak24, ak25, ak26, ak27, ak28, ak29, ak30, ak31, ak32, ak33, ak34, ak35, ak36, an20, an21, an22, an23, an24, an25, an26, an27, an28, an29, an30, an31, an32, an33, an34, an35, an36, an37, an38, ii_add, ii_mul, ii_addl, ii_ladd, ii_mull, ii_lmul, ii_nat, lit_nat, ii_le, ii_lt, ii_eq, ii_lel, ii_lle, ii_ltl, ii_llt, ii_eql, ii_leq, inR_ii, inR_lit, decide_true, decide_eq_true_eq, b2_01, ne_eq]; first | done | omega)) only [b_Lift_heavyOfSet_4, ii_le, hk', qP, qL, qD, hF, hM, hC, hPi, hr4, hr5, hr6, hr7, hr8, dv0, dv1, dv2, dv3, dr4, dr5, dr6, dr7, dr_some, Option.isSome_some, gR_wI, Nat.add_mul_mod_self_left, Nat.reduceMod, ak20, ak21, ak22, ak23, ak24, ak25, ak26, ak27, ak28, ak29, ak30, ak31, ak32, ak33, ak34, ak35, ak36, an20, an21, an22, an23, an24, an25, an26, an27, an28, an29, an30, an31, an32, an33, an34, an35, an36, an37, an38, bk_int, bk_void, bk_long, bkN_int, bkN_void, bkN_long, Nat.reduceAdd, if_true, if_false, not_true_eq_false, not_false_eq_true, Bool.true_eq_false, Bool.false_eq_true, b2_eq0]
    cases hb : B.testBit k
    · simp (disch := first | omega | (simp only [qP, qL, qD, hF, hM, hC, hPi, hr4, hr5, hr6, hr7, hr8, dv0, dv1, dv2, dv3, dr4, dr5, dr6, dr7, dr_some, Option.isSome_some, gR_wI, Nat.add_mul_mod_self_left, Nat.reduceMod, ak20, ak21, ak22, ak23, ak24, ak25, ak26, ak27, ak28, ak29, ak30, ak31, ak32, ak33, ak34, ak35, ak36, an20, an21, an22, an23, an24, an25, an26, an27, an28, an29, an30, an31, an32, an33, an34, an35, an36, an37, an38, ii_add, ii_mul, ii_addl, ii_ladd, ii_mull, ii_lmul, ii_nat, lit_nat, ii_le, ii_lt, ii_eq, ii_lel, ii_lle, ii_ltl, ii_llt, ii_eql, ii_leq, inR_ii, inR_lit, decide_true, decide_eq_true_eq, b2_01, ne_eq]; first | done | omega)) only [e_Lift_heavyOfSet, b_Lift_heavyOfSet_0, b_Lift_heavyOfSet_15, b_Lift_heavyOfSet_20, b_Lift_heavyOfSet_23, b_Lift_heavyOfSet_29, b_Lift_heavyOfSet_31, b_Lift_heavyOfSet_37, s_isIn, hb, sumTo, ii_addl, Int32.add_zero, qP, qL, qD, hF, hM, hC, hPi, hr4, hr5, hr6, hr7, hr8, dv0, dv1, dv2, dv3, dr4, dr5, dr6, dr7, dr_some, Option.isSome_some, gR_wI, Nat.add_mul_mod_self_left, Nat.reduceMod, ak20, ak21, ak22, ak23, ak24, ak25, ak26, ak27, ak28, ak29, ak30, ak31, ak32, ak33, ak34, ak35, ak36, an20, an21, an22, an23, an24, an25, an26, an27, an28, an29, an30, an31, an32, an33, an34, an35, an36, an37, an38, bk_int, bk_void, bk_long, bkN_int, bkN_void, bkN_long, Nat.reduceAdd, if_true, if_false, not_true_eq_false, not_false_eq_true, Bool.true_eq_false, Bool.false_eq_true, b2_eq0]
    · simp (disch := first | omega | (simp only [qP, qL, qD, hF, hM, hC, hPi, hr4, hr5, hr6, hr7, hr8, dv0, dv1, dv2, dv3, dr4, dr5, dr6, dr7, dr_some, Option.isSome_some, gR_wI, Nat.add_mul_mod_self_left, Nat.reduceMod, ak20, ak21, ak22, ak23, ak24, ak25, ak26, ak27, ak28, ak29, ak30, ak31, ak32, ak33, ak34, ak35, ak36, an20, an21, an22, an23, an24, an25, an26, an27, an28, an29, an30, an31, an32, an33, an34, an35, an36, an37, an38, ii_add, ii_mul, ii_addl, ii_ladd, ii_mull, ii_lmul, ii_nat, lit_nat, ii_le, ii_lt, ii_eq, ii_lel, ii_lle, ii_ltl, ii_llt, ii_eql, ii_leq, inR_ii, inR_lit, decide_true, decide_eq_true_eq, b2_01, ne_eq]; first | done | omega)) only [e_Lift_heavyOfSet, b_Lift_heavyOfSet_0, b_Lift_heavyOfSet_15, b_Lift_heavyOfSet_20, b_Lift_heavyOfSet_23, b_Lift_heavyOfSet_29, b_Lift_heavyOfSet_31, b_Lift_heavyOfSet_37, s_isIn, hb, s_heavyOf L0 hk, sumTo, ii_addl, qP, qL, qD, hF, hM, hC, hPi, hr4, hr5, hr6, hr7, hr8, dv0, dv1, dv2, dv3, dr4, dr5, dr6, dr7, dr_some, Option.isSome_some, gR_wI, Nat.add_mul_mod_self_left, Nat.reduceMod, ak20, ak21, ak22, ak23, ak24, ak25, ak26, ak27, ak28, ak29, ak30, ak31, ak32, ak33, ak34, ak35, ak36, an20, an21, an22, an23, an24, an25, an26, an27, an28, an29, an30, an31, an32, an33, an34, an35, an36, an37, an38, bk_int, bk_void, bk_long, bkN_int, bkN_void, bkN_long, Nat.reduceAdd, if_true, if_false, not_true_eq_false, not_false_eq_true, Bool.true_eq_false, Bool.false_eq_true, b2_eq0]
  · simp (disch := first | omega | (simp only [qP, qL, qD, hF, hM, hC, hPi, hr4, hr5, hr6, hr7, hr8, dv0, dv1, dv2, dv3, dr4, dr5, dr6, dr7, dr_some, Option.isSome_some, gR_wI, Nat.add_mul_mod_self_left, Nat.reduceMod, ak20, ak21, ak22, ak23, ak24, ak25, ak26, ak27, ak28, ak29, ak30, ak31, ak32, ak33, ak34, ak35, ak36, an20, an21, an22, an23, an24, an25, an26, an27, an28, an29, an30, an31, an32, an33, an34, an35, an36, an37, an38, ii_add, ii_mul, ii_addl, ii_ladd, ii_mull, ii_lmul, ii_nat, lit_nat, ii_le, ii_lt, ii_eq, ii_lel, ii_lle, ii_ltl, ii_llt, ii_eql, ii_leq, inR_ii, inR_lit, decide_true, decide_eq_true_eq, b2_01, ne_eq]; first | done | omega)) only [e_Lift_heavyOfSet, b_Lift_heavyOfSet_0, b_Lift_heavyOfSet_4, b_Lift_heavyOfSet_15, b_Lift_heavyOfSet_20, b_Lift_heavyOfSet_23, b_Lift_heavyOfSet_29, b_Lift_heavyOfSet_31, b_Lift_heavyOfSet_37, hvs, Nat.le_refl, qP, qL, qD, hF, hM, hC, hPi, hr4, hr5, hr6, hr7, hr8, dv0, dv1, dv2, dv3, dr4, dr5, dr6, dr7, dr_some, Option.isSome_some, gR_wI, Nat.add_mul_mod_self_left, Nat.reduceMod, ak20, ak21, ak22, ak23, ak24, ak25, ak26, ak27, ak28, ak29, ak30, ak31, ak32, ak33, ak34, ak35, ak36, an20, an21, an22, an23, an24, an25, an26, an27, an28, an29, an30, an31, an32, an33, an34, an35, an36, an37, an38, bk_int, bk_void, bk_long, bkN_int, bkN_void, bkN_long, Nat.reduceAdd, if_true, if_false, not_true_eq_false, not_false_eq_true, Bool.true_eq_false, Bool.false_eq_true, b2_eq0]
