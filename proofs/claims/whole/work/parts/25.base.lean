/-! THE PURE SIDE, basics: ints that are naturals, rows, frames, loops -/
def ii (n : Nat) : Int32 := Int32.ofNat n
def b2 (b : Bool) : Int32 := if b then 1 else 0
theorem b2_t : b2 true = 1 := rfl
theorem b2_f : b2 false = 0 := rfl
theorem lit_ii (n : Nat) : (no_index (OfNat.ofNat n) : Int32) = ii (OfNat.ofNat n) := rfl
theorem ii_add (a b : Nat) : ii a + ii b = ii (a + b) := (Int32.ofNat_add a b).symm
theorem ii_mul (a b : Nat) : ii a * ii b = ii (a * b) := (Int32.ofNat_mul a b).symm
theorem ii_addl (a n : Nat) : ii a + (no_index (OfNat.ofNat n) : Int32) = ii (a + OfNat.ofNat n) := ii_add a n
theorem ii_ladd (a n : Nat) : (no_index (OfNat.ofNat n) : Int32) + ii a = ii (OfNat.ofNat n + a) := ii_add n a
theorem ii_mull (a n : Nat) : ii a * (no_index (OfNat.ofNat n) : Int32) = ii (a * OfNat.ofNat n) := ii_mul a n
theorem ii_lmul (a n : Nat) : (no_index (OfNat.ofNat n) : Int32) * ii a = ii (OfNat.ofNat n * a) := ii_mul n a
theorem ii_sub {a b : Nat} (h : b ≤ a) : ii a - ii b = ii (a - b) := (Int32.ofNat_sub a b h).symm
theorem ii_subl {a n : Nat} (h : (OfNat.ofNat n : Nat) ≤ a) : ii a - (no_index (OfNat.ofNat n) : Int32) = ii (a - OfNat.ofNat n) := ii_sub h
theorem ii_nat {a : Nat} (h : a < 2147483648) : (ii a).toNatClampNeg = a := Int32.toNatClampNeg_ofNat_of_lt h
theorem ii_int {a : Nat} (h : a < 2147483648) : (ii a).toInt = a := Int32.toInt_ofNat_of_lt h
theorem ii_le {a b : Nat} (ha : a < 2147483648) (hb : b < 2147483648) : ii a ≤ ii b ↔ a ≤ b := by
  rw [Int32.le_iff_toInt_le, ii_int ha, ii_int hb]
  omega
theorem ii_lt {a b : Nat} (ha : a < 2147483648) (hb : b < 2147483648) : ii a < ii b ↔ a < b := by
  rw [Int32.lt_iff_toInt_lt, ii_int ha, ii_int hb]
  omega
theorem ii_eq {a b : Nat} (ha : a < 2147483648) (hb : b < 2147483648) : ii a = ii b ↔ a = b := by
  constructor
  · intro h
    have := congrArg Int32.toInt h
    rw [ii_int ha, ii_int hb] at this
    omega
  · intro h; rw [h]
theorem ii_lel {a n : Nat} (ha : a < 2147483648) (hn : (OfNat.ofNat n : Nat) < 2147483648) : ii a ≤ (no_index (OfNat.ofNat n) : Int32) ↔ a ≤ OfNat.ofNat n := ii_le ha hn
theorem ii_lle {a n : Nat} (ha : a < 2147483648) (hn : (OfNat.ofNat n : Nat) < 2147483648) : (no_index (OfNat.ofNat n) : Int32) ≤ ii a ↔ OfNat.ofNat n ≤ a := ii_le hn ha
theorem ii_ltl {a n : Nat} (ha : a < 2147483648) (hn : (OfNat.ofNat n : Nat) < 2147483648) : ii a < (no_index (OfNat.ofNat n) : Int32) ↔ a < OfNat.ofNat n := ii_lt ha hn
theorem ii_llt {a n : Nat} (ha : a < 2147483648) (hn : (OfNat.ofNat n : Nat) < 2147483648) : (no_index (OfNat.ofNat n) : Int32) < ii a ↔ OfNat.ofNat n < a := ii_lt hn ha
theorem ii_eql {a n : Nat} (ha : a < 2147483648) (hn : (OfNat.ofNat n : Nat) < 2147483648) : ii a = (no_index (OfNat.ofNat n) : Int32) ↔ a = OfNat.ofNat n := ii_eq ha hn
theorem ii_leq {a n : Nat} (ha : a < 2147483648) (hn : (OfNat.ofNat n : Nat) < 2147483648) : (no_index (OfNat.ofNat n) : Int32) = ii a ↔ OfNat.ofNat n = a := ii_eq hn ha
theorem ii_nn {a : Nat} (h : a < 2147483648) : ¬ ii a < 0 := by
  rw [Int32.lt_iff_toInt_lt, ii_int h]
  exact Int.not_lt.mpr (Int.natCast_nonneg a)
theorem ii_ne {a : Nat} (h : a < 2147483648) : ¬ ii a = -1 := by
  intro e
  have := congrArg Int32.toInt e
  rw [ii_int h] at this
  rw [show (-1 : Int32).toInt = -1 from rfl] at this
  omega
theorem lit_nat {n : Nat} (h : (OfNat.ofNat n : Nat) < 2147483648) : (no_index (OfNat.ofNat n) : Int32).toNatClampNeg = OfNat.ofNat n := ii_nat h
theorem inR_ii {a n : Nat} (h : a < 2147483648) : inR (ii a) n = decide (a < n) := by
  unfold inR
  rw [ii_nat h]
  have := ii_nn h
  by_cases q : a < n
  · simp only [this, false_or, q, decide_true]
    exact decide_eq_true (by omega)
  · simp only [this, false_or, q, decide_false]
    exact decide_eq_false (by omega)
theorem inR_lit {a n : Nat} (h : (OfNat.ofNat a : Nat) < 2147483648) : inR (no_index (OfNat.ofNat a) : Int32) n = decide (OfNat.ofNat a < n) := inR_ii h
/-- an int between 0 and n less 1 is a natural below n -/
theorem ii_of {x : Int32} {n : Nat} (hn : n < 2147483648) (h0 : 0 ≤ x) (h1 : x ≤ ii n - 1) : ∃ k, k < n ∧ x = ii k := by
  have e0 : 0 ≤ x.toInt := by
    have := Int32.le_iff_toInt_le.mp h0
    exact this
  have e1 := Int32.le_iff_toInt_le.mp h1
  have e2 : (ii n - 1).toInt = (n : Int) - 1 := by
    rw [Int32.toInt_sub, ii_int hn, show (1 : Int32).toInt = 1 from rfl]
    apply Int.bmod_eq_of_le <;> omega
  rw [e2] at e1
  refine ⟨x.toNatClampNeg, ?_, ?_⟩
  · have := Int32.cast_toNatClampNeg x h0
    omega
  · exact (Int32.ofNat_toNatClampNeg x h0).symm
theorem ii_of' {x : Int32} {n : Nat} (hn : n < 2147483648) (h0 : 0 ≤ x) (h1 : x ≤ ii n) : ∃ k, k ≤ n ∧ x = ii k := by
  have e0 : 0 ≤ x.toInt := Int32.le_iff_toInt_le.mp h0
  have e1 := Int32.le_iff_toInt_le.mp h1
  rw [ii_int hn] at e1
  refine ⟨x.toNatClampNeg, ?_, ?_⟩
  · have := Int32.cast_toNatClampNeg x h0
    omega
  · exact (Int32.ofNat_toNatClampNeg x h0).symm
/-! reading what was written -/
theorem gI_wI {σ : HP} {a b j k : Nat} {v : Int32} : gI (wI σ a j v) b k = if b = a ∧ k = j then v else gI σ b k := rfl
theorem gI_ne {σ : HP} {a b j k : Nat} {v : Int32} (h : b ≠ a) : gI (wI σ a j v) b k = gI σ b k := by
  rw [gI_wI, if_neg (fun q => h q.1)]
theorem gI_row {σ : HP} {a j k : Nat} {v : Int32} : gI (wI σ a j v) a k = if k = j then v else gI σ a k := by
  rw [gI_wI]
  by_cases h : k = j <;> simp [h]
theorem gI_nj {σ : HP} {a b j k : Nat} {v : Int32} (h : k ≠ j) : gI (wI σ a j v) b k = gI σ b k := by
  rw [gI_wI, if_neg (fun q => h q.2)]
theorem gI_at {σ : HP} {a j : Nat} {v : Int32} : gI (wI σ a j v) a j = v := by
  rw [gI_wI, if_pos ⟨rfl, rfl⟩]
theorem gR_wI {σ : HP} {a b j k : Nat} {v : Int32} : gR (wI σ a j v) b k = gR σ b k := rfl
theorem gJ_wI {σ : HP} {a b j k : Nat} {v : Int32} : gJ (wI σ a j v) b k = gJ σ b k := rfl
theorem gI_wR {σ : HP} {a b j k : Nat} {v : Option Nat} : gI (wR σ a j v) b k = gI σ b k := rfl
theorem gJ_wR {σ : HP} {a b j k : Nat} {v : Option Nat} : gJ (wR σ a j v) b k = gJ σ b k := rfl
theorem gI_wJ {σ : HP} {a b j k : Nat} {v : Int64} : gI (wJ σ a j v) b k = gI σ b k := rfl
theorem gR_wJ {σ : HP} {a b j k : Nat} {v : Int64} : gR (wJ σ a j v) b k = gR σ b k := rfl
theorem gR_wR {σ : HP} {a b j k : Nat} {v : Option Nat} : gR (wR σ a j v) b k = if b = a ∧ k = j then v else gR σ b k := rfl
theorem gR_ne {σ : HP} {a b j k : Nat} {v : Option Nat} (h : b ≠ a) : gR (wR σ a j v) b k = gR σ b k := by
  rw [gR_wR, if_neg (fun q => h q.1)]
theorem gR_nj {σ : HP} {a b j k : Nat} {v : Option Nat} (h : k ≠ j) : gR (wR σ a j v) b k = gR σ b k := by
  rw [gR_wR, if_neg (fun q => h q.2)]
theorem gR_at {σ : HP} {a j : Nat} {v : Option Nat} : gR (wR σ a j v) a j = v := by
  rw [gR_wR, if_pos ⟨rfl, rfl⟩]
theorem gJ_wJ {σ : HP} {a b j k : Nat} {v : Int64} : gJ (wJ σ a j v) b k = if b = a ∧ k = j then v else gJ σ b k := rfl
theorem gI_cI {σ : HP} {a p b q n x y : Nat} : gI (cI σ a p b q n) x y = if x = b ∧ q ≤ y ∧ y < q + n then gI σ a (p + (y - q)) else gI σ x y := rfl
theorem gR_cI {σ : HP} {a p b q n x y : Nat} : gR (cI σ a p b q n) x y = gR σ x y := rfl
theorem gJ_cI {σ : HP} {a p b q n x y : Nat} : gJ (cI σ a p b q n) x y = gJ σ x y := rfl
theorem gI_hA {σ : HP} {k n x y : Nat} : gI (hA σ k n) x y = if x = k + 64 * hN σ then 0 else gI σ x y := rfl
theorem gR_hA {σ : HP} {k n x y : Nat} : gR (hA σ k n) x y = if x = k + 64 * hN σ then none else gR σ x y := rfl
theorem gJ_hA {σ : HP} {k n x y : Nat} : gJ (hA σ k n) x y = if x = k + 64 * hN σ then 0 else gJ σ x y := rfl
theorem gI_hAn {σ : HP} {k n x y : Nat} (h : x ≠ k + 64 * hN σ) : gI (hA σ k n) x y = gI σ x y := by rw [gI_hA, if_neg h]
theorem gR_hAn {σ : HP} {k n x y : Nat} (h : x ≠ k + 64 * hN σ) : gR (hA σ k n) x y = gR σ x y := by rw [gR_hA, if_neg h]
theorem gJ_hAn {σ : HP} {k n x y : Nat} (h : x ≠ k + 64 * hN σ) : gJ (hA σ k n) x y = gJ σ x y := by rw [gJ_hA, if_neg h]
theorem gI_hAs {σ : HP} {k n y : Nat} : gI (hA σ k n) (k + 64 * hN σ) y = 0 := by rw [gI_hA, if_pos rfl]
theorem hN_wI {σ : HP} {a j : Nat} {v : Int32} : hN (wI σ a j v) = hN σ := rfl
theorem hN_wR {σ : HP} {a j : Nat} {v : Option Nat} : hN (wR σ a j v) = hN σ := rfl
theorem hN_wJ {σ : HP} {a j : Nat} {v : Int64} : hN (wJ σ a j v) = hN σ := rfl
theorem hN_cI {σ : HP} {a p b q n : Nat} : hN (cI σ a p b q n) = hN σ := rfl
theorem hN_hA {σ : HP} {k n : Nat} : hN (hA σ k n) = hN σ + 1 := rfl
theorem hS_wI {σ : HP} {a j : Nat} {v : Int32} : hS (wI σ a j v) = hS σ := rfl
theorem hS_wR {σ : HP} {a j : Nat} {v : Option Nat} : hS (wR σ a j v) = hS σ := rfl
theorem hS_hA {σ : HP} {k n : Nat} : hS (hA σ k n) = hS σ + n := rfl
/-! frames: only places that P names have changed -/
def Fr (P : Nat → Nat → Bool) (σ σ' : HP) : Prop := σ'.1 = σ.1 ∧ σ'.2.2 = σ.2.2 ∧ ∀ a j, P a j = false → gI σ' a j = gI σ a j
theorem Fr.rf {P : Nat → Nat → Bool} {σ : HP} : Fr P σ σ := ⟨rfl, rfl, fun _ _ _ => rfl⟩
theorem Fr.tr {P : Nat → Nat → Bool} {σ σ' σ'' : HP} (h : Fr P σ σ') (h' : Fr P σ' σ'') : Fr P σ σ'' :=
  ⟨h'.1.trans h.1, h'.2.1.trans h.2.1, fun a j q => (h'.2.2 a j q).trans (h.2.2 a j q)⟩
theorem Fr.mono {P P' : Nat → Nat → Bool} {σ σ' : HP} (h : Fr P σ σ') (hp : ∀ a j, P' a j = false → P a j = false) : Fr P' σ σ' :=
  ⟨h.1, h.2.1, fun a j q => h.2.2 a j (hp a j q)⟩
theorem Fr.w {P : Nat → Nat → Bool} {σ σ' : HP} {a j : Nat} {v : Int32} (h : Fr P σ σ') (hp : P a j = true) : Fr P σ (wI σ' a j v) :=
  ⟨h.1, h.2.1, fun b k q => by
    rw [gI_wI, if_neg ?_]
    · exact h.2.2 b k q
    · rintro ⟨rfl, rfl⟩
      rw [hp] at q
      cases q⟩
theorem Fr.c {P : Nat → Nat → Bool} {σ σ' : HP} {a p b q n : Nat} (h : Fr P σ σ') (hp : ∀ j, P b j = true) : Fr P σ (cI σ' a p b q n) :=
  ⟨h.1, h.2.1, fun x k e => by
    rw [gI_cI, if_neg ?_]
    · exact h.2.2 x k e
    · rintro ⟨rfl, -⟩
      rw [hp] at e
      cases e⟩
theorem Fr.I {P : Nat → Nat → Bool} {σ σ' : HP} (h : Fr P σ σ') {a j : Nat} (q : P a j = false) : gI σ' a j = gI σ a j := h.2.2 a j q
theorem Fr.R {P : Nat → Nat → Bool} {σ σ' : HP} (h : Fr P σ σ') (a j : Nat) : gR σ' a j = gR σ a j := by
  unfold gR
  rw [h.2.1]
theorem Fr.J {P : Nat → Nat → Bool} {σ σ' : HP} (h : Fr P σ σ') (a j : Nat) : gJ σ' a j = gJ σ a j := by
  unfold gJ
  rw [h.2.1]
theorem Fr.N {P : Nat → Nat → Bool} {σ σ' : HP} (h : Fr P σ σ') : hN σ' = hN σ := by
  unfold hN
  rw [h.1]
theorem Fr.S {P : Nat → Nat → Bool} {σ σ' : HP} (h : Fr P σ σ') : hS σ' = hS σ := by
  unfold hS
  rw [h.1]
theorem Fr.L {P : Nat → Nat → Bool} {σ σ' : HP} (h : Fr P σ σ') : hL σ' = hL σ := by
  unfold hL
  rw [h.1]
/-! loops -/
theorem loop_up {C : CF} {d : Nat} {m : MM} {N : Nat} {R : Option Res} (mk : Nat → Cfg) (hs : ∀ k, k < N → runF C d m (mk k) = runF C d m (mk (k + 1))) (he : runF C d m (mk N) = R) (k : Nat) (hk : k ≤ N) : runF C d m (mk k) = R := by
  obtain ⟨n, hn⟩ : ∃ n, n + k = N := ⟨N - k, by omega⟩
  induction n generalizing k with
  | zero =>
    have : k = N := by omega
    rw [this]
    exact he
  | succ n ih => exact (hs k (by omega)).trans (ih (k + 1) (by omega) (by omega))
theorem loop_in {C : CF} {d : Nat} {m : MM} {N : Nat} {Q : Option Res → Prop} (mk : Nat → HP → Cfg) (I : Nat → HP → Prop) (hs : ∀ k σ, k < N → I k σ → ∃ σ', runF C d m (mk k σ) = runF C d m (mk (k + 1) σ') ∧ I (k + 1) σ') (he : ∀ σ, I N σ → Q (runF C d m (mk N σ))) (k : Nat) (σ : HP) (hk : k ≤ N) (hi : I k σ) : Q (runF C d m (mk k σ)) := by
  obtain ⟨n, hn⟩ : ∃ n, n + k = N := ⟨N - k, by omega⟩
  induction n generalizing k σ with
  | zero =>
    have : k = N := by omega
    rw [this] at hi ⊢
    exact he σ hi
  | succ n ih =>
    obtain ⟨σ', h1, h2⟩ := hs k σ (by omega) hi
    rw [h1]
    exact ih (k + 1) σ' (by omega) h2 (by omega)
def sumTo (f : Nat → Int32) : Nat → Int32
  | 0 => 0
  | n + 1 => sumTo f n + f n
def orTo (f : Nat → Int32) : Nat → Int32
  | 0 => 0
  | n + 1 => orTo f n ||| f n
theorem sumTo_congr {f g : Nat → Int32} {n : Nat} (h : ∀ k, k < n → f k = g k) : sumTo f n = sumTo g n := by
  induction n with
  | zero => rfl
  | succ n ih => rw [sumTo, sumTo, ih (fun k hk => h k (by omega)), h n (by omega)]
theorem orTo_congr {f g : Nat → Int32} {n : Nat} (h : ∀ k, k < n → f k = g k) : orTo f n = orTo g n := by
  induction n with
  | zero => rfl
  | succ n ih => rw [orTo, orTo, ih (fun k hk => h k (by omega)), h n (by omega)]
/-- a row with one place changed -/
def up1 (D : Nat → Int32) (k : Nat) (v : Int32) : Nat → Int32 := fun j => if j = k then v else D j
theorem up1_at {D : Nat → Int32} {k : Nat} {v : Int32} : up1 D k v k = v := by unfold up1; rw [if_pos rfl]
theorem up1_ne {D : Nat → Int32} {k j : Nat} {v : Int32} (h : j ≠ k) : up1 D k v j = D j := by unfold up1; rw [if_neg h]
/-! sets as naturals -/
theorem bit_at : ∀ B, B < 256 → ∀ m, m < 8 → p_shr (ii B) (ii m) &&& 1 = b2 (B.testBit m) := by decide +kernel
