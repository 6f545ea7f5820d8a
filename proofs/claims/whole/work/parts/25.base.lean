/-! THE PURE SIDE, basics: ints that are naturals, rows, frames, loops -/
def ii (n : Nat) : Int32 := Int32.ofNat n
def b2 (b : Bool) : Int32 := ii b.toNat
theorem b2_t : b2 true = 1 := rfl
theorem b2_f : b2 false = 0 := rfl
theorem lit_ii (n : Nat) : (no_index (OfNat.ofNat n) : Int32) = ii (OfNat.ofNat n) := rfl
theorem of_ii (n : Nat) : Int32.ofNat n = ii n := rfl
theorem le_T {a b : Nat} (h : a ≤ b) : (a ≤ b) = True := eq_true h
theorem le_F {a b : Nat} (h : b < a) : (a ≤ b) = False := eq_false (by omega)
theorem lt_T {a b : Nat} (h : a < b) : (a < b) = True := eq_true h
theorem lt_F {a b : Nat} (h : b ≤ a) : (a < b) = False := eq_false (by omega)
theorem eq_T {a b : Nat} (h : a = b) : (a = b) = True := eq_true h
theorem eq_F {a b : Nat} (h : a ≠ b) : (a = b) = False := eq_false h
theorem ii_add (a b : Nat) : ii a + ii b = ii (a + b) := (Int32.ofNat_add a b).symm
theorem ii_mul (a b : Nat) : ii a * ii b = ii (a * b) := (Int32.ofNat_mul a b).symm
theorem ii_addl (a n : Nat) : ii a + (no_index (OfNat.ofNat n) : Int32) = ii (a + OfNat.ofNat n) := ii_add a n
theorem ii_ladd (a n : Nat) : (no_index (OfNat.ofNat n) : Int32) + ii a = ii (OfNat.ofNat n + a) := ii_add n a
theorem ii_mull (a n : Nat) : ii a * (no_index (OfNat.ofNat n) : Int32) = ii (a * OfNat.ofNat n) := ii_mul a n
theorem ii_lmul (a n : Nat) : (no_index (OfNat.ofNat n) : Int32) * ii a = ii (OfNat.ofNat n * a) := ii_mul n a
theorem ii_sub {a b : Nat} (h : b ≤ a) : ii a - ii b = ii (a - b) := (Int32.ofNat_sub a b h).symm
theorem ii_subl {a n : Nat} (h : (OfNat.ofNat n : Nat) ≤ a) : ii a - (no_index (OfNat.ofNat n) : Int32) = ii (a - OfNat.ofNat n) := ii_sub h
theorem ii_nat {a : Nat} (h : a < 2147483648) : (ii a).toNatClampNeg = a := Int32.toNatClampNeg_ofNat_of_lt h
theorem ii_int {a : Nat} (h : a < 2147483648) : (ii a).toInt = a := Int32.toInt_ofNat_of_lt h
theorem ii_le {a b : Nat} (ha : a < 2147483648) (hb : b < 2147483648) : ii a ≤ ii b ↔ a ≤ b := by
  rw [Int32.le_iff_toInt_le, ii_int ha, ii_int hb]
  omega
theorem ii_lt {a b : Nat} (ha : a < 2147483648) (hb : b < 2147483648) : ii a < ii b ↔ a < b := by
  rw [Int32.lt_iff_toInt_lt, ii_int ha, ii_int hb]
  omega
theorem ii_eq {a b : Nat} (ha : a < 2147483648) (hb : b < 2147483648) : ii a = ii b ↔ a = b := by
  constructor
  · intro h
    have := congrArg Int32.toInt h
    rw [ii_int ha, ii_int hb] at this
    omega
  · intro h; rw [h]
theorem ii_lel {a n : Nat} (ha : a < 2147483648) (hn : (OfNat.ofNat n : Nat) < 2147483648) : ii a ≤ (no_index (OfNat.ofNat n) : Int32) ↔ a ≤ OfNat.ofNat n := ii_le ha hn
theorem ii_lle {a n : Nat} (ha : a < 2147483648) (hn : (OfNat.ofNat n : Nat) < 2147483648) : (no_index (OfNat.ofNat n) : Int32) ≤ ii a ↔ OfNat.ofNat n ≤ a := ii_le hn ha
theorem ii_ltl {a n : Nat} (ha : a < 2147483648) (hn : (OfNat.ofNat n : Nat) < 2147483648) : ii a < (no_index (OfNat.ofNat n) : Int32) ↔ a < OfNat.ofNat n := ii_lt ha hn
theorem ii_llt {a n : Nat} (ha : a < 2147483648) (hn : (OfNat.ofNat n : Nat) < 2147483648) : (no_index (OfNat.ofNat n) : Int32) < ii a ↔ OfNat.ofNat n < a := ii_lt hn ha
theorem ii_eql {a n : Nat} (ha : a < 2147483648) (hn : (OfNat.ofNat n : Nat) < 2147483648) : ii a = (no_index (OfNat.ofNat n) : Int32) ↔ a = OfNat.ofNat n := ii_eq ha hn
theorem ii_leq {a n : Nat} (ha : a < 2147483648) (hn : (OfNat.ofNat n : Nat) < 2147483648) : (no_index (OfNat.ofNat n) : Int32) = ii a ↔ OfNat.ofNat n = a := ii_eq hn ha
theorem ii_nn {a : Nat} (h : a < 2147483648) : ¬ ii a < 0 := by
  rw [Int32.lt_iff_toInt_lt, ii_int h]
  exact Int.not_lt.mpr (Int.natCast_nonneg a)
theorem ii_ne {a : Nat} (h : a < 2147483648) : ¬ ii a = -1 := by
  intro e
  have := congrArg Int32.toInt e
  rw [ii_int h] at this
  rw [show (-1 : Int32).toInt = -1 from rfl] at this
  omega
theorem lit_nat {n : Nat} (h : (OfNat.ofNat n : Nat) < 2147483648) : (no_index (OfNat.ofNat n) : Int32).toNatClampNeg = OfNat.ofNat n := ii_nat h
theorem inR_ii {a n : Nat} (h : a < 2147483648) : inR (ii a) n = decide (a < n) := by
  unfold inR
  rw [ii_nat h]
  have := ii_nn h
  by_cases q : a < n
  · simp only [this, false_or, q, decide_true]
    exact decide_eq_true (by omega)
  · simp only [this, false_or, q, decide_false]
    exact decide_eq_false (by omega)
theorem inR_lit {a n : Nat} (h : (OfNat.ofNat a : Nat) < 2147483648) : inR (no_index (OfNat.ofNat a) : Int32) n = decide (OfNat.ofNat a < n) := inR_ii h
/-- an int between 0 and n less 1 is a natural below n -/
theorem ii_of {x : Int32} {n : Nat} (hn : n < 2147483648) (h0 : 0 ≤ x) (h1 : x ≤ ii n - 1) : ∃ k, k < n ∧ x = ii k := by
  have e0 : 0 ≤ x.toInt := by
    have := Int32.le_iff_toInt_le.mp h0
    exact this
  have e1 := Int32.le_iff_toInt_le.mp h1
  have e2 : (ii n - 1).toInt = (n : Int) - 1 := by
    rw [Int32.toInt_sub, ii_int hn, show (1 : Int32).toInt = 1 from rfl]
    apply Int.bmod_eq_of_le <;> omega
  rw [e2] at e1
  refine ⟨x.toNatClampNeg, ?_, ?_⟩
  · have := Int32.cast_toNatClampNeg x h0
    omega
  · exact (Int32.ofNat_toNatClampNeg x h0).symm
theorem ii_of' {x : Int32} {n : Nat} (hn : n < 2147483648) (h0 : 0 ≤ x) (h1 : x ≤ ii n) : ∃ k, k ≤ n ∧ x = ii k := by
  have e0 : 0 ≤ x.toInt := Int32.le_iff_toInt_le.mp h0
  have e1 := Int32.le_iff_toInt_le.mp h1
  rw [ii_int hn] at e1
  refine ⟨x.toNatClampNeg, ?_, ?_⟩
  · have := Int32.cast_toNatClampNeg x h0
    omega
  · exact (Int32.ofNat_toNatClampNeg x h0).symm
theorem b2_eq0 (b : Bool) : b2 b = ii 0 ↔ b = false := by cases b <;> decide
theorem b2_01 (b : Bool) : b2 b = 0 ∨ b2 b = 1 := by cases b <;> decide
theorem b2_01i (b : Bool) : b2 b = ii 0 ∨ b2 b = ii 1 := by cases b <;> decide
theorem ii0_01 : ii 0 = 0 ∨ ii 0 = 1 := Or.inl rfl
theorem ii1_01 : ii 1 = 0 ∨ ii 1 = 1 := Or.inr rfl
theorem ii_pred {a : Nat} (h : 1 ≤ a) : ii a + -ii 1 = ii (a - 1) := by
  obtain ⟨k, rfl⟩ : ∃ k, a = k + 1 := ⟨a - 1, by omega⟩
  rw [← ii_add, Int32.add_assoc, Int32.add_right_neg, Int32.add_zero]
  rfl
theorem ii_div {a b : Nat} (ha : a < 2147483648) (hb : b < 2147483648) : ii a / ii b = ii (a / b) := (Int32.ofNat_div ha hb).symm
theorem ii_rem {a b : Nat} (ha : a < 2147483648) (hb : b < 2147483648) : p_rem (ii a) (ii b) = ii (a % b) := by
  unfold p_rem
  rw [ii_div ha hb, ii_mul, ii_sub (Nat.div_mul_le_self a b)]
  congr 1
  have := Nat.div_add_mod a b
  have h2 : b * (a / b) = a / b * b := Nat.mul_comm _ _
  omega
theorem p_min_ii {a b : Nat} (ha : a < 2147483648) (hb : b < 2147483648) : p_min (ii a) (ii b) = ii (min a b) := by
  unfold p_min
  by_cases h : b < a
  · rw [if_pos ((ii_lt hb ha).mpr h), Nat.min_eq_right (by omega)]
  · rw [if_neg (fun q => h ((ii_lt hb ha).mp q)), Nat.min_eq_left (by omega)]
theorem p_max_ii {a b : Nat} (ha : a < 2147483648) (hb : b < 2147483648) : p_max (ii a) (ii b) = ii (max a b) := by
  unfold p_max
  by_cases h : a < b
  · rw [if_pos ((ii_lt ha hb).mpr h), Nat.max_eq_right (by omega)]
  · rw [if_neg (fun q => h ((ii_lt ha hb).mp q)), Nat.max_eq_left (by omega)]
theorem ii_dint {a b : Nat} (ha : a < 2147483648) (hb : b < 2147483648) : (ii a - ii b).toInt = (a : Int) - b := by
  rw [Int32.toInt_sub, ii_int ha, ii_int hb]
  apply Int.bmod_eq_of_le <;> omega
theorem ii_deq {a b : Nat} (ha : a < 2147483648) (hb : b < 2147483648) : ii a - ii b = ii 0 ↔ a = b := by
  constructor
  · intro h
    have := congrArg Int32.toInt h
    rw [ii_dint ha hb, ii_int (by omega)] at this
    omega
  · intro h; rw [h, Int32.sub_self]; rfl
theorem ii_dle {a b : Nat} (ha : a < 2147483648) (hb : b < 2147483648) : ii a - ii b ≤ ii 0 ↔ a ≤ b := by
  rw [Int32.le_iff_toInt_le, ii_dint ha hb, ii_int (by omega)]
  omega
theorem ii_dlt {a b : Nat} (ha : a < 2147483648) (hb : b < 2147483648) : ii a - ii b < ii 0 ↔ a < b := by
  rw [Int32.lt_iff_toInt_lt, ii_dint ha hb, ii_int (by omega)]
  omega
theorem ii_dgt {a b : Nat} (ha : a < 2147483648) (hb : b < 2147483648) : ii 0 < ii a - ii b ↔ b < a := by
  rw [Int32.lt_iff_toInt_lt, ii_dint ha hb, ii_int (by omega)]
  omega
theorem ii_ndif (a b : Nat) : -(ii a - ii b) = ii b - ii a := Int32.neg_sub
theorem p_abs_d {a b : Nat} (ha : a < 2147483648) (hb : b < 2147483648) : p_abs (ii a - ii b) = ii (a - b + (b - a)) := by
  unfold p_abs
  by_cases h : b ≤ a
  · rw [if_pos (by rw [Int32.le_iff_toInt_le, ii_dint ha hb]; exact (by omega : (0 : Int) ≤ a - b)), ii_sub h]
    congr 1
    omega
  · rw [if_neg (by rw [Int32.le_iff_toInt_le, ii_dint ha hb]; exact (by omega : ¬ (0 : Int) ≤ a - b)), Int32.zero_sub, Int32.neg_sub, ii_sub (by omega)]
    congr 1
    omega
theorem shl1 : ∀ m, m < 31 → p_shl (ii 1) (ii m) = ii (2 ^ m) := by decide +kernel
theorem ii_or (a b : Nat) : ii a ||| ii b = ii (a ||| b) := by
  apply Int32.toBitVec_inj.mp
  apply BitVec.eq_of_toNat_eq
  simp [ii, Nat.or_mod_two_pow]
theorem ii_and (a b : Nat) : ii a &&& ii b = ii (a &&& b) := by
  apply Int32.toBitVec_inj.mp
  apply BitVec.eq_of_toNat_eq
  simp [ii, Nat.and_mod_two_pow]
theorem ii_or0 (x : Int32) : x ||| ii 0 = x := Int32.or_zero
theorem ii_add0 (x : Int32) : x + ii 0 = x := Int32.add_zero x
theorem clr_at : ∀ B, B < 128 → ∀ m, m < 7 → ii B &&& (ii (2 ^ m) ^^^ -ii 1) = ii (if B.testBit m then B - 2 ^ m else B) := by decide +kernel
/-! reading what was written -/
theorem gI_wI {σ : HP} {a b j k : Nat} {v : Int32} : gI (wI σ a j v) b k = if b = a ∧ k = j then v else gI σ b k := rfl
theorem gI_ne {σ : HP} {a b j k : Nat} {v : Int32} (h : b ≠ a) : gI (wI σ a j v) b k = gI σ b k := by
  rw [gI_wI, if_neg (fun q => h q.1)]
theorem gI_row {σ : HP} {a j k : Nat} {v : Int32} : gI (wI σ a j v) a k = if k = j then v else gI σ a k := by
  rw [gI_wI]
  by_cases h : k = j <;> simp [h]
theorem gI_nj {σ : HP} {a b j k : Nat} {v : Int32} (h : k ≠ j) : gI (wI σ a j v) b k = gI σ b k := by
  rw [gI_wI, if_neg (fun q => h q.2)]
theorem gI_at {σ : HP} {a j : Nat} {v : Int32} : gI (wI σ a j v) a j = v := by
  rw [gI_wI, if_pos ⟨rfl, rfl⟩]
theorem gR_wI {σ : HP} {a b j k : Nat} {v : Int32} : gR (wI σ a j v) b k = gR σ b k := rfl
theorem gJ_wI {σ : HP} {a b j k : Nat} {v : Int32} : gJ (wI σ a j v) b k = gJ σ b k := rfl
theorem gI_wR {σ : HP} {a b j k : Nat} {v : Option Nat} : gI (wR σ a j v) b k = gI σ b k := rfl
theorem gJ_wR {σ : HP} {a b j k : Nat} {v : Option Nat} : gJ (wR σ a j v) b k = gJ σ b k := rfl
theorem gI_wJ {σ : HP} {a b j k : Nat} {v : Int64} : gI (wJ σ a j v) b k = gI σ b k := rfl
theorem gR_wJ {σ : HP} {a b j k : Nat} {v : Int64} : gR (wJ σ a j v) b k = gR σ b k := rfl
theorem gR_wR {σ : HP} {a b j k : Nat} {v : Option Nat} : gR (wR σ a j v) b k = if b = a ∧ k = j then v else gR σ b k := rfl
theorem gR_ne {σ : HP} {a b j k : Nat} {v : Option Nat} (h : b ≠ a) : gR (wR σ a j v) b k = gR σ b k := by
  rw [gR_wR, if_neg (fun q => h q.1)]
theorem gR_nj {σ : HP} {a b j k : Nat} {v : Option Nat} (h : k ≠ j) : gR (wR σ a j v) b k = gR σ b k := by
  rw [gR_wR, if_neg (fun q => h q.2)]
theorem gR_at {σ : HP} {a j : Nat} {v : Option Nat} : gR (wR σ a j v) a j = v := by
  rw [gR_wR, if_pos ⟨rfl, rfl⟩]
theorem gJ_wJ {σ : HP} {a b j k : Nat} {v : Int64} : gJ (wJ σ a j v) b k = if b = a ∧ k = j then v else gJ σ b k := rfl
theorem gI_cI {σ : HP} {a p b q n x y : Nat} : gI (cI σ a p b q n) x y = if x = b ∧ q ≤ y ∧ y < q + n then gI σ a (p + (y - q)) else gI σ x y := rfl
theorem gR_cI {σ : HP} {a p b q n x y : Nat} : gR (cI σ a p b q n) x y = gR σ x y := rfl
theorem gJ_cI {σ : HP} {a p b q n x y : Nat} : gJ (cI σ a p b q n) x y = gJ σ x y := rfl
theorem gI_hA {σ : HP} {k n x y : Nat} : gI (hA σ k n) x y = if x = k + 64 * hN σ then 0 else gI σ x y := rfl
theorem gR_hA {σ : HP} {k n x y : Nat} : gR (hA σ k n) x y = if x = k + 64 * hN σ then none else gR σ x y := rfl
theorem gJ_hA {σ : HP} {k n x y : Nat} : gJ (hA σ k n) x y = if x = k + 64 * hN σ then 0 else gJ σ x y := rfl
theorem gI_hAn {σ : HP} {k n x y : Nat} (h : x ≠ k + 64 * hN σ) : gI (hA σ k n) x y = gI σ x y := by rw [gI_hA, if_neg h]
theorem gR_hAn {σ : HP} {k n x y : Nat} (h : x ≠ k + 64 * hN σ) : gR (hA σ k n) x y = gR σ x y := by rw [gR_hA, if_neg h]
theorem gJ_hAn {σ : HP} {k n x y : Nat} (h : x ≠ k + 64 * hN σ) : gJ (hA σ k n) x y = gJ σ x y := by rw [gJ_hA, if_neg h]
theorem gI_hAs {σ : HP} {k n y : Nat} : gI (hA σ k n) (k + 64 * hN σ) y = 0 := by rw [gI_hA, if_pos rfl]
theorem hN_wI {σ : HP} {a j : Nat} {v : Int32} : hN (wI σ a j v) = hN σ := rfl
theorem hN_wR {σ : HP} {a j : Nat} {v : Option Nat} : hN (wR σ a j v) = hN σ := rfl
theorem hN_wJ {σ : HP} {a j : Nat} {v : Int64} : hN (wJ σ a j v) = hN σ := rfl
theorem hN_cI {σ : HP} {a p b q n : Nat} : hN (cI σ a p b q n) = hN σ := rfl
theorem hN_hA {σ : HP} {k n : Nat} : hN (hA σ k n) = hN σ + 1 := rfl
theorem hS_wI {σ : HP} {a j : Nat} {v : Int32} : hS (wI σ a j v) = hS σ := rfl
theorem hS_wR {σ : HP} {a j : Nat} {v : Option Nat} : hS (wR σ a j v) = hS σ := rfl
theorem hS_hA {σ : HP} {k n : Nat} : hS (hA σ k n) = hS σ + n := rfl
/-! frames: only rows that S names have changed, ints alone -/
def Fs (S : Nat → Prop) (σ σ' : HP) : Prop := σ'.1 = σ.1 ∧ σ'.2.2 = σ.2.2 ∧ ∀ a j, ¬ S a → gI σ' a j = gI σ a j
theorem Fs.rf {S : Nat → Prop} {σ : HP} : Fs S σ σ := ⟨rfl, rfl, fun _ _ _ => rfl⟩
theorem Fs.tr {S : Nat → Prop} {σ σ' σ'' : HP} (h : Fs S σ σ') (h' : Fs S σ' σ'') : Fs S σ σ'' :=
  ⟨h'.1.trans h.1, h'.2.1.trans h.2.1, fun a j q => (h'.2.2 a j q).trans (h.2.2 a j q)⟩
theorem Fs.mono {S S' : Nat → Prop} {σ σ' : HP} (h : Fs S σ σ') (hp : ∀ a, S a → S' a) : Fs S' σ σ' :=
  ⟨h.1, h.2.1, fun a j q => h.2.2 a j (fun z => q (hp a z))⟩
theorem Fs.w {S : Nat → Prop} {σ σ' : HP} {a j : Nat} {v : Int32} (h : Fs S σ σ') (hp : S a) : Fs S σ (wI σ' a j v) :=
  ⟨h.1, h.2.1, fun b k q => by
    rw [gI_wI, if_neg ?_]
    · exact h.2.2 b k q
    · rintro ⟨rfl, rfl⟩
      exact q hp⟩
theorem Fs.c {S : Nat → Prop} {σ σ' : HP} {a p b q n : Nat} (h : Fs S σ σ') (hp : S b) : Fs S σ (cI σ' a p b q n) :=
  ⟨h.1, h.2.1, fun x k e => by
    rw [gI_cI, if_neg ?_]
    · exact h.2.2 x k e
    · rintro ⟨rfl, -⟩
      exact e hp⟩
theorem Fs.I {S : Nat → Prop} {σ σ' : HP} (h : Fs S σ σ') {a j : Nat} (q : ¬ S a) : gI σ' a j = gI σ a j := h.2.2 a j q
theorem Fs.R {S : Nat → Prop} {σ σ' : HP} (h : Fs S σ σ') (a j : Nat) : gR σ' a j = gR σ a j := by
  unfold gR
  rw [h.2.1]
theorem Fs.J {S : Nat → Prop} {σ σ' : HP} (h : Fs S σ σ') (a j : Nat) : gJ σ' a j = gJ σ a j := by
  unfold gJ
  rw [h.2.1]
theorem Fs.N {S : Nat → Prop} {σ σ' : HP} (h : Fs S σ σ') : hN σ' = hN σ := by
  unfold hN
  rw [h.1]
theorem Fs.Z {S : Nat → Prop} {σ σ' : HP} (h : Fs S σ σ') : hS σ' = hS σ := by
  unfold hS
  rw [h.1]
theorem Fs.L {S : Nat → Prop} {σ σ' : HP} (h : Fs S σ σ') : hL σ' = hL σ := by
  unfold hL
  rw [h.1]
/-! loops -/
theorem loop_up {C : CF} {d : Nat} {m : MM} {N : Nat} {R : Option Res} (mk : Nat → Cfg) (hs : ∀ k, k < N → runF C d m (mk k) = runF C d m (mk (k + 1))) (he : runF C d m (mk N) = R) (k : Nat) (hk : k ≤ N) : runF C d m (mk k) = R := by
  obtain ⟨n, hn⟩ : ∃ n, n + k = N := ⟨N - k, by omega⟩
  induction n generalizing k with
  | zero =>
    have : k = N := by omega
    rw [this]
    exact he
  | succ n ih => exact (hs k (by omega)).trans (ih (k + 1) (by omega) (by omega))
theorem loop_in {C : CF} {d : Nat} {m : MM} {N : Nat} {Q : Option Res → Prop} (mk : Nat → HP → Cfg) (I : Nat → HP → Prop) (hs : ∀ k σ, k < N → I k σ → ∃ σ', runF C d m (mk k σ) = runF C d m (mk (k + 1) σ') ∧ I (k + 1) σ') (he : ∀ σ, I N σ → Q (runF C d m (mk N σ))) (k : Nat) (σ : HP) (hk : k ≤ N) (hi : I k σ) : Q (runF C d m (mk k σ)) := by
  obtain ⟨n, hn⟩ : ∃ n, n + k = N := ⟨N - k, by omega⟩
  induction n generalizing k σ with
  | zero =>
    have : k = N := by omega
    rw [this] at hi ⊢
    exact he σ hi
  | succ n ih =>
    obtain ⟨σ', h1, h2⟩ := hs k σ (by omega) hi
    rw [h1]
    exact ih (k + 1) σ' (by omega) h2 (by omega)
def sumTo (f : Nat → Nat) : Nat → Nat
  | 0 => 0
  | n + 1 => sumTo f n + f n
def orTo (f : Nat → Int32) : Nat → Int32
  | 0 => ii 0
  | n + 1 => orTo f n ||| f n
theorem sumTo_congr {f g : Nat → Nat} {n : Nat} (h : ∀ k, k < n → f k = g k) : sumTo f n = sumTo g n := by
  induction n with
  | zero => rfl
  | succ n ih => rw [sumTo, sumTo, ih (fun k hk => h k (by omega)), h n (by omega)]
theorem sumTo_le {f : Nat → Nat} {n b : Nat} (h : ∀ k, k < n → f k ≤ b) : sumTo f n ≤ n * b := by
  induction n with
  | zero => exact Nat.zero_le _
  | succ n ih =>
    rw [sumTo, Nat.succ_mul]
    exact Nat.add_le_add (ih (fun k hk => h k (by omega))) (h n (by omega))
theorem orTo_congr {f g : Nat → Int32} {n : Nat} (h : ∀ k, k < n → f k = g k) : orTo f n = orTo g n := by
  induction n with
  | zero => rfl
  | succ n ih => rw [orTo, orTo, ih (fun k hk => h k (by omega)), h n (by omega)]
/-- a row with one place changed -/
def up1 (D : Nat → Nat) (k : Nat) (v : Nat) : Nat → Nat := fun j => if j = k then v else D j
theorem up1_at {D : Nat → Nat} {k : Nat} {v : Nat} : up1 D k v k = v := by unfold up1; rw [if_pos rfl]
theorem up1_ne {D : Nat → Nat} {k j : Nat} {v : Nat} (h : j ≠ k) : up1 D k v j = D j := by unfold up1; rw [if_neg h]
/-! sets as naturals -/
theorem bit_at : ∀ B, B < 256 → ∀ m, m < 8 → p_shr (ii B) (ii m) &&& ii 1 = b2 (B.testBit m) := by decide +kernel
theorem loop_g {C : CF} {d : Nat} {m : MM} {N : Nat} {Q : Option Res → Prop} (I : Nat → Cfg → Prop) (hs : ∀ k c, k < N → I k c → ∃ c', runF C d m c = runF C d m c' ∧ I (k + 1) c') (he : ∀ c, I N c → Q (runF C d m c)) (k : Nat) (c : Cfg) (hk : k ≤ N) (hi : I k c) : Q (runF C d m c) := by
  obtain ⟨n, hn⟩ : ∃ n, n + k = N := ⟨N - k, by omega⟩
  induction n generalizing k c with
  | zero =>
    have : k = N := by omega
    rw [this] at hi
    exact he c hi
  | succ n ih =>
    obtain ⟨c', h1, h2⟩ := hs k c (by omega) hi
    rw [h1]
    exact ih (k + 1) c' (by omega) h2 (by omega)
