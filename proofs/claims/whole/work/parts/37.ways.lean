/-! longs that are naturals -/
def jj (n : Nat) : Int64 := Int64.ofNat n
theorem lit_jj (n : Nat) : (no_index (OfNat.ofNat n) : Int64) = jj (OfNat.ofNat n) := rfl
theorem jj_add (a b : Nat) : jj a + jj b = jj (a + b) := (Int64.ofNat_add a b).symm
theorem jj_mul (a b : Nat) : jj a * jj b = jj (a * b) := (Int64.ofNat_mul a b).symm
theorem jj_of {a : Nat} (h : a < 2147483648) : Int32.toInt64 (ii a) = jj a := Int32.toInt64_ofNat' (by rw [Int32.toInt_maxValue]; omega)
theorem gJ_at {σ : HP} {a j : Nat} {v : Int64} : gJ (wJ σ a j v) a j = v := by rw [gJ_wJ, if_pos ⟨rfl, rfl⟩]
theorem gJ_row {σ : HP} {a j k : Nat} {v : Int64} : gJ (wJ σ a j v) a k = if k = j then v else gJ σ a k := by
  rw [gJ_wJ]
  by_cases h : k = j <;> simp [h]
def Fj (S : Nat → Prop) (σ σ' : HP) : Prop := σ'.1 = σ.1 ∧ σ'.2.1 = σ.2.1 ∧ σ'.2.2.2 = σ.2.2.2 ∧ ∀ a j, ¬ S a → gJ σ' a j = gJ σ a j
theorem Fj.rf {S : Nat → Prop} {σ : HP} : Fj S σ σ := ⟨rfl, rfl, rfl, fun _ _ _ => rfl⟩
theorem Fj.tr {S : Nat → Prop} {σ σ' σ'' : HP} (h : Fj S σ σ') (h' : Fj S σ' σ'') : Fj S σ σ'' :=
  ⟨h'.1.trans h.1, h'.2.1.trans h.2.1, h'.2.2.1.trans h.2.2.1, fun a j q => (h'.2.2.2 a j q).trans (h.2.2.2 a j q)⟩
theorem Fj.w {S : Nat → Prop} {σ σ' : HP} {a j : Nat} {v : Int64} (h : Fj S σ σ') (hp : S a) : Fj S σ (wJ σ' a j v) :=
  ⟨h.1, h.2.1, h.2.2.1, fun b k q => by
    rw [gJ_wJ, if_neg ?_]
    · exact h.2.2.2 b k q
    · rintro ⟨rfl, rfl⟩
      exact q hp⟩
theorem Fj.I {S : Nat → Prop} {σ σ' : HP} (h : Fj S σ σ') (a j : Nat) : gI σ' a j = gI σ a j := by
  unfold gI
  rw [h.2.1]
theorem Fj.R {S : Nat → Prop} {σ σ' : HP} (h : Fj S σ σ') (a j : Nat) : gR σ' a j = gR σ a j := by
  unfold gR
  rw [h.2.2.1]
theorem Fj.N {S : Nat → Prop} {σ σ' : HP} (h : Fj S σ σ') : hN σ' = hN σ := by
  unfold hN
  rw [h.1]
theorem Fj.Z {S : Nat → Prop} {σ σ' : HP} (h : Fj S σ σ') : hS σ' = hS σ := by
  unfold hS
  rw [h.1]
theorem Fj.x {S : Nat → Prop} {σ σ' : HP} (h : Fj S σ σ') : Fx S σ σ' :=
  ⟨by unfold hL; rw [h.1], Nat.le_of_eq h.N.symm, fun a _ z j => ⟨h.I a j, h.2.2.2 a j z, h.R a j⟩⟩
theorem s_waysAt {d u k : Nat} {σ : HP} (A : SA σ u) (hk : k < 13) : callF (d + 1) m_Scales_waysAt [.ref (8 + 64 * u), .int (ii k)] σ = some (.inl (some (.long (gJ σ (35 + 64 * (u + 4)) k))), σ) := by
  obtain ⟨a0, a1, a2, a3⟩ := A
  simp (disch := first | omega | exact b2_01 _ | exact ii0_01 | exact ii1_01 | (simp (disch := omega) only [a3, dr_some, Option.isSome_some, gR_wI, Nat.add_mul_mod_self_left, Nat.reduceMod, ak20, ak21, ak22, ak23, ak24, ak25, ak26, ak27, ak28, ak29, ak30, ak31, ak32, ak33, ak34, ak35, ak36, an20, an21, an22, an23, an24, an25, an26, an27, an28, an29, an30, an31, an32, an33, an34, an35, an36, an37, an38, ne_eq, inR_ii, decide_eq_true_eq, lit_ii, of_ii, ii_eq, ii_lt, ii_le]; first | done | omega)) only [a3, e_Scales_waysAt, b_Scales_waysAt_0, b_Scales_waysAt_4, b_Scales_waysAt_13, b_Scales_waysAt_22, b_Scales_waysAt_23, dr_some, Option.isSome_some, gR_wI, Nat.add_mul_mod_self_left, Nat.reduceMod, ak20, ak21, ak22, ak23, ak24, ak25, ak26, ak27, ak28, ak29, ak30, ak31, ak32, ak33, ak34, ak35, ak36, an20, an21, an22, an23, an24, an25, an26, an27, an28, an29, an30, an31, an32, an33, an34, an35, an36, an37, an38, ↓reduceIte, bk_int, bk_void, bk_long, bkN_int, bkN_void, bkN_long, Nat.reduceAdd, Nat.reduceMul, Nat.reduceSub, Nat.reduceLT, Nat.reduceLeDiff, if_true, if_false, not_true_eq_false, not_false_eq_true, Bool.true_eq_false, Bool.false_eq_true, b2_eq0, Nat.add_zero, Nat.zero_add, Nat.not_lt_zero, Nat.zero_le, ite_true, ite_false, decide_true, decide_false, lit_ii, of_ii, le_T, le_F, lt_T, lt_F, eq_T, eq_F, ii_add, ii_mul, ii_nat, ii_le, ii_lt, ii_eq, inR_ii, ii_add0]
theorem s_setWays {d u k : Nat} {v : Int64} {σ : HP} (A : SA σ u) (hk : k < 13) : callF (d + 1) m_Scales_setWays [.ref (8 + 64 * u), .int (ii k), .long v] σ = some (.inl none, wJ σ (35 + 64 * (u + 4)) k v) := by
  obtain ⟨a0, a1, a2, a3⟩ := A
  simp (disch := first | omega | exact b2_01 _ | exact ii0_01 | exact ii1_01 | (simp (disch := omega) only [a3, dr_some, Option.isSome_some, gR_wI, Nat.add_mul_mod_self_left, Nat.reduceMod, ak20, ak21, ak22, ak23, ak24, ak25, ak26, ak27, ak28, ak29, ak30, ak31, ak32, ak33, ak34, ak35, ak36, an20, an21, an22, an23, an24, an25, an26, an27, an28, an29, an30, an31, an32, an33, an34, an35, an36, an37, an38, ne_eq, inR_ii, decide_eq_true_eq, lit_ii, of_ii, ii_eq, ii_lt, ii_le]; first | done | omega)) only [a3, e_Scales_setWays, b_Scales_setWays_0, b_Scales_setWays_4, b_Scales_setWays_13, b_Scales_setWays_20, dr_some, Option.isSome_some, gR_wI, Nat.add_mul_mod_self_left, Nat.reduceMod, ak20, ak21, ak22, ak23, ak24, ak25, ak26, ak27, ak28, ak29, ak30, ak31, ak32, ak33, ak34, ak35, ak36, an20, an21, an22, an23, an24, an25, an26, an27, an28, an29, an30, an31, an32, an33, an34, an35, an36, an37, an38, ↓reduceIte, bk_int, bk_void, bk_long, bkN_int, bkN_void, bkN_long, Nat.reduceAdd, Nat.reduceMul, Nat.reduceSub, Nat.reduceLT, Nat.reduceLeDiff, if_true, if_false, not_true_eq_false, not_false_eq_true, Bool.true_eq_false, Bool.false_eq_true, b2_eq0, Nat.add_zero, Nat.zero_add, Nat.not_lt_zero, Nat.zero_le, ite_true, ite_false, decide_true, decide_false, lit_ii, of_ii, le_T, le_F, lt_T, lt_F, eq_T, eq_F, ii_add, ii_mul, ii_nat, ii_le, ii_lt, ii_eq, inR_ii, ii_add0]
theorem s_fill2 {d a : Nat} {v : Int64} {σ : HP} (ha : a % 64 = 35) : ∃ σ', callF (d + 1) m_Arrays_fill2 [.ref a, .long v] σ = some (.inl none, σ') ∧ Fj (fun b => b = a) σ σ' ∧ ∀ i, i < 13 → gJ σ' a i = v := by
  have e9 : alen (a % 64) = 13 := by rw [ha]; rfl
  rw [e_Arrays_fill2, b_Arrays_fill2_0 (by rw [ha]; decide), e9]
  refine loop_g (N := 13) (Q := fun o => ∃ σ', o = some (.inl none, σ') ∧ Fj (fun b => b = a) σ σ' ∧ ∀ i, i < 13 → gJ σ' a i = v) (fun k c => ∃ σ', c = (6, [some (.ref a), some (.long v), none, some (.int (ii k)), some (.int (ii 13))], [], σ') ∧ Fj (fun b => b = a) σ σ' ∧ ∀ i, i < k → gJ σ' a i = v) ?_ ?_ 0 _ (Nat.zero_le _) ⟨σ, rfl, Fj.rf, fun i hi => absurd hi (Nat.not_lt_zero _)⟩
  · rintro k c hk ⟨σ', rfl, F, hv⟩
    refine ⟨_, ?_, wJ σ' a k v, rfl, F.w rfl, fun i hi => ?_⟩
    · rw [b_Arrays_fill2_6, if_neg (by rw [ii_le (by omega) (by omega)]; omega), b_Arrays_fill2_12 (by rw [ha]; rfl) (by rw [e9, inR_ii (by omega)]; exact decide_eq_true hk), lit_ii, ii_add, ii_nat (by omega)]
    · rw [gJ_row]
      by_cases q : i = k
      · rw [if_pos q]
      · rw [if_neg q]
        exact hv i (by omega)
  · rintro c ⟨σ', rfl, F, hv⟩
    refine ⟨σ', ?_, F, hv⟩
    rw [b_Arrays_fill2_6, if_pos ((ii_le (by omega) (by omega)).mpr (Nat.le_refl _)), b_Arrays_fill2_22]
theorem SA.fj {S : Nat → Prop} {σ σ' : HP} {u : Nat} (A : SA σ u) (F : Fj S σ σ') : SA σ' u := ⟨(F.R _ _).trans A.1, (F.R _ _).trans A.2.1, (F.R _ _).trans A.2.2.1, (F.R _ _).trans A.2.2.2⟩
/-- ways that end in j kind words, after one word more -/
def wyN (k q : Nat) (W : Nat → Nat) (j : Nat) : Nat := if j = 0 then sumTo W k * (16 - q) else if j < k then W (j - 1) * q else W j
def wy0 (j : Nat) : Nat := if j = 0 then 1 else 0
def sumR (W : Nat → Nat) (r k : Nat) : Nat := sumTo (fun j => if r ≤ j then W j else 0) k
theorem sumR_0 (W : Nat → Nat) (k : Nat) : sumR W 0 k = sumTo W k := sumTo_congr (fun j _ => if_pos (Nat.zero_le _))
theorem sumR_k (W : Nat → Nat) (k : Nat) : sumR W k k = 0 := by
  unfold sumR
  have : ∀ n, n ≤ k → sumTo (fun j => if k ≤ j then W j else 0) n = 0 := by
    intro n
    induction n with
    | zero => intro _; rfl
    | succ n ih =>
      intro hn
      rw [sumTo, ih (by omega), if_neg (by omega)]
  exact this k (Nat.le_refl _)
theorem sumR_s (W : Nat → Nat) (r : Nat) : ∀ k, r < k → sumR W r k = sumR W (r + 1) k + W r := by
  intro k
  induction k with
  | zero => intro h; omega
  | succ k ih =>
    intro h
    unfold sumR at ih ⊢
    rw [sumTo, sumTo]
    by_cases q : r < k
    · rw [ih q, if_pos (by omega), if_pos (by omega)]
      omega
    · have e : r = k := by omega
      subst e
      rw [if_pos (Nat.le_refl _), if_neg (by omega)]
      have : ∀ n, n ≤ r → sumTo (fun j => if r ≤ j then W j else 0) n = sumTo (fun j => if r + 1 ≤ j then W j else 0) n := fun n hn => sumTo_congr (fun j hj => by rw [if_neg (by omega), if_neg (by omega)])
      rw [this r (Nat.le_refl _)]
      omega
def prI32 (r : Nat) : Int32 := if r = 0 then -ii 1 else ii (r - 1)
theorem pr_0 : prI32 0 = -ii 1 := rfl
theorem pr_s (r : Nat) : prI32 (r + 1) = ii r := by
  unfold prI32
  rw [if_neg (by omega), Nat.add_sub_cancel]
theorem pr_dec (r : Nat) : ii r + -ii 1 = prI32 r := by
  unfold prI32
  split
  · rename_i h; rw [h]; rfl
  · rw [ii_pred (by omega)]
theorem s_waysWithoutRun {d u n k q : Nat} {σ : HP} (A : SA σ u) (hn : n ≤ 12) (hk0 : 1 ≤ k) (hk : k ≤ 12) (hq : q ≤ 16) : ∃ σ', callF (d + 2) m_Scales_waysWithoutRun [.ref (8 + 64 * u), .int (ii n), .int (ii k), .int (ii q)] σ = some (.inl (some (.long (jj (sumTo (it (wyN k q) n wy0) k)))), σ') ∧ Fj (fun a => a = 35 + 64 * (u + 4)) σ σ' := by
  obtain ⟨σ1, e1, F1, v1⟩ := s_fill2 (d := d) (a := 35 + 64 * (u + 4)) (v := jj 0) (σ := σ) (by omega)
  have A1 := A.fj F1
  have w1 := fun d => s_setWays (d := d) (k := 0) (v := jj 1) A1 (by omega)
  have F2 : Fj (fun a => a = 35 + 64 * (u + 4)) σ (wJ σ1 (35 + 64 * (u + 4)) 0 (jj 1)) := F1.w rfl
  have e0 : callF (d + 2) m_Scales_waysWithoutRun [.ref (8 + 64 * u), .int (ii n), .int (ii k), .int (ii q)] σ = runF (callF (d + 1)) (d + 1) m_Scales_waysWithoutRun (17, [some (.ref (8 + 64 * u)), some (.int (ii n)), some (.int (ii k)), some (.int (ii q)), some (.int (ii 0)), none, none, none], [], wJ σ1 (35 + 64 * (u + 4)) 0 (jj 1)) := by
    obtain ⟨a0, a1, a2, a3⟩ := A
    simp (disch := first | omega | exact b2_01 _ | exact ii0_01 | exact ii1_01 | (simp (disch := omega) only [a3, dr_some, Option.isSome_some, gR_wI, Nat.add_mul_mod_self_left, Nat.reduceMod, ak20, ak21, ak22, ak23, ak24, ak25, ak26, ak27, ak28, ak29, ak30, ak31, ak32, ak33, ak34, ak35, ak36, an20, an21, an22, an23, an24, an25, an26, an27, an28, an29, an30, an31, an32, an33, an34, an35, an36, an37, an38, ne_eq, inR_ii, decide_eq_true_eq, lit_ii, of_ii, ii_eq, ii_lt, ii_le]; first | done | omega)) only [a3, e_Scales_waysWithoutRun, b_Scales_waysWithoutRun_0, b_Scales_waysWithoutRun_8, b_Scales_waysWithoutRun_14, b_Scales_waysWithoutRun_23, b_Scales_waysWithoutRun_31, b_Scales_waysWithoutRun_36, b_Scales_waysWithoutRun_44, b_Scales_waysWithoutRun_55, b_Scales_waysWithoutRun_59, b_Scales_waysWithoutRun_67, b_Scales_waysWithoutRun_70, b_Scales_waysWithoutRun_73, b_Scales_waysWithoutRun_79, b_Scales_waysWithoutRun_92, b_Scales_waysWithoutRun_98, b_Scales_waysWithoutRun_104, b_Scales_waysWithoutRun_110, b_Scales_waysWithoutRun_118, b_Scales_waysWithoutRun_127, lit_jj, e1, w1, dr_some, Option.isSome_some, gR_wI, Nat.add_mul_mod_self_left, Nat.reduceMod, ak20, ak21, ak22, ak23, ak24, ak25, ak26, ak27, ak28, ak29, ak30, ak31, ak32, ak33, ak34, ak35, ak36, an20, an21, an22, an23, an24, an25, an26, an27, an28, an29, an30, an31, an32, an33, an34, an35, an36, an37, an38, ↓reduceIte, bk_int, bk_void, bk_long, bkN_int, bkN_void, bkN_long, Nat.reduceAdd, Nat.reduceMul, Nat.reduceSub, Nat.reduceLT, Nat.reduceLeDiff, if_true, if_false, not_true_eq_false, not_false_eq_true, Bool.true_eq_false, Bool.false_eq_true, b2_eq0, Nat.add_zero, Nat.zero_add, Nat.not_lt_zero, Nat.zero_le, ite_true, ite_false, decide_true, decide_false, lit_ii, of_ii, le_T, le_F, lt_T, lt_F, eq_T, eq_F, ii_add, ii_mul, ii_nat, ii_le, ii_lt, ii_eq, inR_ii, ii_add0]
  rw [e0]
  have v2 : ∀ j, j < 13 → gJ (wJ σ1 (35 + 64 * (u + 4)) 0 (jj 1)) (35 + 64 * (u + 4)) j = jj (wy0 j) := by
    intro j hj
    rw [gJ_row]
    unfold wy0
    by_cases q : j = 0
    · rw [if_pos q, if_pos q]
    · rw [if_neg q, if_neg q, v1 j hj]
  refine loop_g (N := n) (Q := fun o => ∃ σ', o = some (.inl (some (.long (jj (sumTo (it (wyN k q) n wy0) k)))), σ') ∧ Fj (fun a => a = 35 + 64 * (u + 4)) σ σ') (fun i c => ∃ σ' l5 l6 l7, c = (17, [some (.ref (8 + 64 * u)), some (.int (ii n)), some (.int (ii k)), some (.int (ii q)), some (.int (ii i)), l5, l6, l7], [], σ') ∧ Fj (fun a => a = 35 + 64 * (u + 4)) σ σ' ∧ ∀ j, j < 13 → gJ σ' (35 + 64 * (u + 4)) j = jj (it (wyN k q) i wy0 j)) ?_ ?_ 0 _ (Nat.zero_le _) ⟨_, none, none, none, rfl, F2, v2⟩
  · rintro i c hi ⟨σ', l5, l6, l7, rfl, F, hv⟩
    rw [show it (wyN k q) (i + 1) wy0 = wyN k q (it (wyN k q) i wy0) from rfl]
    generalize it (wyN k q) i wy0 = W at *
    obtain ⟨σ3, e3, F3, v3⟩ : ∃ σ3, runF (callF (d + 1)) (d + 1) m_Scales_waysWithoutRun (31, [some (.ref (8 + 64 * u)), some (.int (ii n)), some (.int (ii k)), some (.int (ii q)), some (.int (ii i)), some (.long (jj 0)), none, some (.int (prI32 k))], [], σ') = runF (callF (d + 1)) (d + 1) m_Scales_waysWithoutRun (79, [some (.ref (8 + 64 * u)), some (.int (ii n)), some (.int (ii k)), some (.int (ii q)), some (.int (ii i)), some (.long (jj (sumTo W k))), none, some (.int (-ii 1))], [], σ3) ∧ Fj (fun a => a = 35 + 64 * (u + 4)) σ σ3 ∧ ∀ j, j < 13 → gJ σ3 (35 + 64 * (u + 4)) j = jj (if j < k then (if j = 0 then 0 else W (j - 1) * q) else W j) := by
      refine loop_w (Q := fun o => ∃ σ3, o = runF (callF (d + 1)) (d + 1) m_Scales_waysWithoutRun (79, [some (.ref (8 + 64 * u)), some (.int (ii n)), some (.int (ii k)), some (.int (ii q)), some (.int (ii i)), some (.long (jj (sumTo W k))), none, some (.int (-ii 1))], [], σ3) ∧ Fj (fun a => a = 35 + 64 * (u + 4)) σ σ3 ∧ ∀ j, j < 13 → gJ σ3 (35 + 64 * (u + 4)) j = jj (if j < k then (if j = 0 then 0 else W (j - 1) * q) else W j)) (fun r c => ∃ σ3, c = (31, [some (.ref (8 + 64 * u)), some (.int (ii n)), some (.int (ii k)), some (.int (ii q)), some (.int (ii i)), some (.long (jj (sumR W r k))), none, some (.int (prI32 r))], [], σ3) ∧ r ≤ k ∧ Fj (fun a => a = 35 + 64 * (u + 4)) σ σ3 ∧ ∀ j, j < 13 → gJ σ3 (35 + 64 * (u + 4)) j = jj (if r ≤ j ∧ j < k then (if j = 0 then 0 else W (j - 1) * q) else W j)) ?_ k _ ⟨σ', by rw [sumR_k], Nat.le_refl _, F, fun j hj => by rw [if_neg (by omega)]; exact hv j hj⟩
      rintro r c ⟨σ3, rfl, hr, F3, v3⟩
      cases r with
      | zero =>
        left
        refine ⟨σ3, ?_, F3, fun j hj => ?_⟩
        · rw [b_Scales_waysWithoutRun_31, if_pos (by decide), sumR_0]
          rfl
        · rw [v3 j hj]
          by_cases z : j < k
          · rw [if_pos ⟨Nat.zero_le _, z⟩, if_pos z]
          · rw [if_neg (fun y => z y.2), if_neg z]
      | succ r =>
        right
        have A3 := A.fj F3
        have y1 := fun d => s_waysAt (d := d) (k := r) A3 (by omega)
        have y2 := v3 r (by omega)
        rw [if_neg (by omega)] at y2
        simp only [y2] at y1
        have y5 := fun d v => s_setWays (d := d) (k := r) (v := v) A3 (by omega)
        refine ⟨r, _, by omega, ?_, wJ σ3 (35 + 64 * (u + 4)) r (jj (if r = 0 then 0 else W (r - 1) * q)), rfl, by omega, F3.w rfl, fun j hj => ?_⟩
        · rw [sumR_s W r k (by omega)]
          by_cases z : r = 0
          · subst z
            obtain ⟨a0, a1, a2, a3⟩ := A3
            conv => lhs; simp (disch := first | omega | exact b2_01 _ | exact ii0_01 | exact ii1_01 | (simp (disch := omega) only [a3, dr_some, Option.isSome_some, gR_wI, Nat.add_mul_mod_self_left, Nat.reduceMod, ak20, ak21, ak22, ak23, ak24, ak25, ak26, ak27, ak28, ak29, ak30, ak31, ak32, ak33, ak34, ak35, ak36, an20, an21, an22, an23, an24, an25, an26, an27, an28, an29, an30, an31, an32, an33, an34, an35, an36, an37, an38, ne_eq, inR_ii, decide_eq_true_eq, lit_ii, of_ii, ii_eq, ii_lt, ii_le]; first | done | omega)) only [a3, b_Scales_waysWithoutRun_31, pr_s, dr_some, Option.isSome_some, gR_wI, Nat.add_mul_mod_self_left, Nat.reduceMod, ak20, ak21, ak22, ak23, ak24, ak25, ak26, ak27, ak28, ak29, ak30, ak31, ak32, ak33, ak34, ak35, ak36, an20, an21, an22, an23, an24, an25, an26, an27, an28, an29, an30, an31, an32, an33, an34, an35, an36, an37, an38, ↓reduceIte, bk_int, bk_void, bk_long, bkN_int, bkN_void, bkN_long, Nat.reduceAdd, Nat.reduceMul, Nat.reduceSub, Nat.reduceLT, Nat.reduceLeDiff, if_true, if_false, not_true_eq_false, not_false_eq_true, Bool.true_eq_false, Bool.false_eq_true, b2_eq0, Nat.add_zero, Nat.zero_add, Nat.not_lt_zero, Nat.zero_le, ite_true, ite_false, decide_true, decide_false, lit_ii, of_ii, le_T, le_F, lt_T, lt_F, eq_T, eq_F, ii_add, ii_mul, ii_nat, ii_le, ii_lt, ii_eq, inR_ii, ii_add0]
            simp (disch := first | omega | exact b2_01 _ | exact ii0_01 | exact ii1_01 | (simp (disch := omega) only [a3, dr_some, Option.isSome_some, gR_wI, Nat.add_mul_mod_self_left, Nat.reduceMod, ak20, ak21, ak22, ak23, ak24, ak25, ak26, ak27, ak28, ak29, ak30, ak31, ak32, ak33, ak34, ak35, ak36, an20, an21, an22, an23, an24, an25, an26, an27, an28, an29, an30, an31, an32, an33, an34, an35, an36, an37, an38, ne_eq, inR_ii, decide_eq_true_eq, lit_ii, of_ii, ii_eq, ii_lt, ii_le]; first | done | omega)) only [a3, e_Scales_waysWithoutRun, b_Scales_waysWithoutRun_0, b_Scales_waysWithoutRun_8, b_Scales_waysWithoutRun_14, b_Scales_waysWithoutRun_17, b_Scales_waysWithoutRun_23, b_Scales_waysWithoutRun_36, b_Scales_waysWithoutRun_44, b_Scales_waysWithoutRun_55, b_Scales_waysWithoutRun_59, b_Scales_waysWithoutRun_67, b_Scales_waysWithoutRun_70, b_Scales_waysWithoutRun_73, b_Scales_waysWithoutRun_79, b_Scales_waysWithoutRun_92, b_Scales_waysWithoutRun_98, b_Scales_waysWithoutRun_104, b_Scales_waysWithoutRun_110, b_Scales_waysWithoutRun_118, b_Scales_waysWithoutRun_127, y1, lit_jj, jj_add, y5, pr_dec, dr_some, Option.isSome_some, gR_wI, Nat.add_mul_mod_self_left, Nat.reduceMod, ak20, ak21, ak22, ak23, ak24, ak25, ak26, ak27, ak28, ak29, ak30, ak31, ak32, ak33, ak34, ak35, ak36, an20, an21, an22, an23, an24, an25, an26, an27, an28, an29, an30, an31, an32, an33, an34, an35, an36, an37, an38, ↓reduceIte, bk_int, bk_void, bk_long, bkN_int, bkN_void, bkN_long, Nat.reduceAdd, Nat.reduceMul, Nat.reduceSub, Nat.reduceLT, Nat.reduceLeDiff, if_true, if_false, not_true_eq_false, not_false_eq_true, Bool.true_eq_false, Bool.false_eq_true, b2_eq0, Nat.add_zero, Nat.zero_add, Nat.not_lt_zero, Nat.zero_le, ite_true, ite_false, decide_true, decide_false, lit_ii, of_ii, le_T, le_F, lt_T, lt_F, eq_T, eq_F, ii_add, ii_mul, ii_nat, ii_le, ii_lt, ii_eq, inR_ii, ii_add0]
          · have y3 := fun d => s_waysAt (d := d) (k := r - 1) A3 (by omega)
            have y4 := v3 (r - 1) (by omega)
            rw [if_neg (by omega)] at y4
            simp only [y4] at y3
            obtain ⟨a0, a1, a2, a3⟩ := A3
            conv => lhs; simp (disch := first | omega | exact b2_01 _ | exact ii0_01 | exact ii1_01 | (simp (disch := omega) only [a3, dr_some, Option.isSome_some, gR_wI, Nat.add_mul_mod_self_left, Nat.reduceMod, ak20, ak21, ak22, ak23, ak24, ak25, ak26, ak27, ak28, ak29, ak30, ak31, ak32, ak33, ak34, ak35, ak36, an20, an21, an22, an23, an24, an25, an26, an27, an28, an29, an30, an31, an32, an33, an34, an35, an36, an37, an38, ne_eq, inR_ii, decide_eq_true_eq, lit_ii, of_ii, ii_eq, ii_lt, ii_le]; first | done | omega)) only [a3, b_Scales_waysWithoutRun_31, pr_s, dr_some, Option.isSome_some, gR_wI, Nat.add_mul_mod_self_left, Nat.reduceMod, ak20, ak21, ak22, ak23, ak24, ak25, ak26, ak27, ak28, ak29, ak30, ak31, ak32, ak33, ak34, ak35, ak36, an20, an21, an22, an23, an24, an25, an26, an27, an28, an29, an30, an31, an32, an33, an34, an35, an36, an37, an38, ↓reduceIte, bk_int, bk_void, bk_long, bkN_int, bkN_void, bkN_long, Nat.reduceAdd, Nat.reduceMul, Nat.reduceSub, Nat.reduceLT, Nat.reduceLeDiff, if_true, if_false, not_true_eq_false, not_false_eq_true, Bool.true_eq_false, Bool.false_eq_true, b2_eq0, Nat.add_zero, Nat.zero_add, Nat.not_lt_zero, Nat.zero_le, ite_true, ite_false, decide_true, decide_false, lit_ii, of_ii, le_T, le_F, lt_T, lt_F, eq_T, eq_F, ii_add, ii_mul, ii_nat, ii_le, ii_lt, ii_eq, inR_ii, ii_add0]
            simp (disch := first | omega | exact b2_01 _ | exact ii0_01 | exact ii1_01 | (simp (disch := omega) only [a3, dr_some, Option.isSome_some, gR_wI, Nat.add_mul_mod_self_left, Nat.reduceMod, ak20, ak21, ak22, ak23, ak24, ak25, ak26, ak27, ak28, ak29, ak30, ak31, ak32, ak33, ak34, ak35, ak36, an20, an21, an22, an23, an24, an25, an26, an27, an28, an29, an30, an31, an32, an33, an34, an35, an36, an37, an38, ne_eq, inR_ii, decide_eq_true_eq, lit_ii, of_ii, ii_eq, ii_lt, ii_le]; first | done | omega)) only [a3, e_Scales_waysWithoutRun, b_Scales_waysWithoutRun_0, b_Scales_waysWithoutRun_8, b_Scales_waysWithoutRun_14, b_Scales_waysWithoutRun_17, b_Scales_waysWithoutRun_23, b_Scales_waysWithoutRun_36, b_Scales_waysWithoutRun_44, b_Scales_waysWithoutRun_55, b_Scales_waysWithoutRun_59, b_Scales_waysWithoutRun_67, b_Scales_waysWithoutRun_70, b_Scales_waysWithoutRun_73, b_Scales_waysWithoutRun_79, b_Scales_waysWithoutRun_92, b_Scales_waysWithoutRun_98, b_Scales_waysWithoutRun_104, b_Scales_waysWithoutRun_110, b_Scales_waysWithoutRun_118, b_Scales_waysWithoutRun_127, y1, y3, lit_jj, jj_add, jj_mul, jj_of, y5, pr_dec, z, ii_sub, dr_some, Option.isSome_some, gR_wI, Nat.add_mul_mod_self_left, Nat.reduceMod, ak20, ak21, ak22, ak23, ak24, ak25, ak26, ak27, ak28, ak29, ak30, ak31, ak32, ak33, ak34, ak35, ak36, an20, an21, an22, an23, an24, an25, an26, an27, an28, an29, an30, an31, an32, an33, an34, an35, an36, an37, an38, ↓reduceIte, bk_int, bk_void, bk_long, bkN_int, bkN_void, bkN_long, Nat.reduceAdd, Nat.reduceMul, Nat.reduceSub, Nat.reduceLT, Nat.reduceLeDiff, if_true, if_false, not_true_eq_false, not_false_eq_true, Bool.true_eq_false, Bool.false_eq_true, b2_eq0, Nat.add_zero, Nat.zero_add, Nat.not_lt_zero, Nat.zero_le, ite_true, ite_false, decide_true, decide_false, lit_ii, of_ii, le_T, le_F, lt_T, lt_F, eq_T, eq_F, ii_add, ii_mul, ii_nat, ii_le, ii_lt, ii_eq, inR_ii, ii_add0]
        · rw [gJ_row]
          by_cases z : j = r
          · rw [if_pos z, z, if_pos (c := r ≤ r ∧ r < k) ⟨Nat.le_refl _, by omega⟩]
          · rw [if_neg z, v3 j hj]
            by_cases z2 : r + 1 ≤ j ∧ j < k
            · rw [if_pos z2, if_pos (c := r ≤ j ∧ j < k) (by omega)]
            · rw [if_neg z2, if_neg (c := r ≤ j ∧ j < k) (by omega)]
    have A3 := A.fj F3
    have y5 := fun d v => s_setWays (d := d) (k := 0) (v := v) A3 (by omega)
    refine ⟨_, ?_, wJ σ3 (35 + 64 * (u + 4)) 0 (jj (sumTo W k * (16 - q))), some (.long (jj (sumTo W k))), none, some (.int (-ii 1)), rfl, F3.w rfl, fun j hj => ?_⟩
    · have pk : ii (k - 1) = prI32 k := by unfold prI32; rw [if_neg (by omega)]
      obtain ⟨a0, a1, a2, a3⟩ := A3
      conv => lhs; simp (disch := first | omega | exact b2_01 _ | exact ii0_01 | exact ii1_01 | (simp (disch := omega) only [a3, dr_some, Option.isSome_some, gR_wI, Nat.add_mul_mod_self_left, Nat.reduceMod, ak20, ak21, ak22, ak23, ak24, ak25, ak26, ak27, ak28, ak29, ak30, ak31, ak32, ak33, ak34, ak35, ak36, an20, an21, an22, an23, an24, an25, an26, an27, an28, an29, an30, an31, an32, an33, an34, an35, an36, an37, an38, ne_eq, inR_ii, decide_eq_true_eq, lit_ii, of_ii, ii_eq, ii_lt, ii_le]; first | done | omega)) only [a3, b_Scales_waysWithoutRun_17, b_Scales_waysWithoutRun_23, lit_jj, ii_sub, pk, dr_some, Option.isSome_some, gR_wI, Nat.add_mul_mod_self_left, Nat.reduceMod, ak20, ak21, ak22, ak23, ak24, ak25, ak26, ak27, ak28, ak29, ak30, ak31, ak32, ak33, ak34, ak35, ak36, an20, an21, an22, an23, an24, an25, an26, an27, an28, an29, an30, an31, an32, an33, an34, an35, an36, an37, an38, ↓reduceIte, bk_int, bk_void, bk_long, bkN_int, bkN_void, bkN_long, Nat.reduceAdd, Nat.reduceMul, Nat.reduceSub, Nat.reduceLT, Nat.reduceLeDiff, if_true, if_false, not_true_eq_false, not_false_eq_true, Bool.true_eq_false, Bool.false_eq_true, b2_eq0, Nat.add_zero, Nat.zero_add, Nat.not_lt_zero, Nat.zero_le, ite_true, ite_false, decide_true, decide_false, lit_ii, of_ii, le_T, le_F, lt_T, lt_F, eq_T, eq_F, ii_add, ii_mul, ii_nat, ii_le, ii_lt, ii_eq, inR_ii, ii_add0]
      rw [e3]
      conv => lhs; simp (disch := first | omega | exact b2_01 _ | exact ii0_01 | exact ii1_01 | (simp (disch := omega) only [a3, dr_some, Option.isSome_some, gR_wI, Nat.add_mul_mod_self_left, Nat.reduceMod, ak20, ak21, ak22, ak23, ak24, ak25, ak26, ak27, ak28, ak29, ak30, ak31, ak32, ak33, ak34, ak35, ak36, an20, an21, an22, an23, an24, an25, an26, an27, an28, an29, an30, an31, an32, an33, an34, an35, an36, an37, an38, ne_eq, inR_ii, decide_eq_true_eq, lit_ii, of_ii, ii_eq, ii_lt, ii_le]; first | done | omega)) only [a3, b_Scales_waysWithoutRun_79, b_Scales_waysWithoutRun_92, ii_sub, jj_of, jj_mul, y5, dr_some, Option.isSome_some, gR_wI, Nat.add_mul_mod_self_left, Nat.reduceMod, ak20, ak21, ak22, ak23, ak24, ak25, ak26, ak27, ak28, ak29, ak30, ak31, ak32, ak33, ak34, ak35, ak36, an20, an21, an22, an23, an24, an25, an26, an27, an28, an29, an30, an31, an32, an33, an34, an35, an36, an37, an38, ↓reduceIte, bk_int, bk_void, bk_long, bkN_int, bkN_void, bkN_long, Nat.reduceAdd, Nat.reduceMul, Nat.reduceSub, Nat.reduceLT, Nat.reduceLeDiff, if_true, if_false, not_true_eq_false, not_false_eq_true, Bool.true_eq_false, Bool.false_eq_true, b2_eq0, Nat.add_zero, Nat.zero_add, Nat.not_lt_zero, Nat.zero_le, ite_true, ite_false, decide_true, decide_false, lit_ii, of_ii, le_T, le_F, lt_T, lt_F, eq_T, eq_F, ii_add, ii_mul, ii_nat, ii_le, ii_lt, ii_eq, inR_ii, ii_add0]
    · rw [gJ_row]
      unfold wyN
      by_cases z : j = 0
      · rw [if_pos z, if_pos z]
      · rw [if_neg z, if_neg z, v3 j hj]
        by_cases z2 : j < k
        · rw [if_pos z2, if_pos z2, if_neg z]
        · rw [if_neg z2, if_neg z2]
  · rintro c ⟨σ', l5, l6, l7, rfl, F, hv⟩
    have A' := A.fj F
    refine ⟨σ', ?_, F⟩
    generalize it (wyN k q) n wy0 = W at *
    have e5 : runF (callF (d + 1)) (d + 1) m_Scales_waysWithoutRun (17, [some (.ref (8 + 64 * u)), some (.int (ii n)), some (.int (ii k)), some (.int (ii q)), some (.int (ii n)), l5, l6, l7], [], σ') = runF (callF (d + 1)) (d + 1) m_Scales_waysWithoutRun (104, [some (.ref (8 + 64 * u)), some (.int (ii n)), some (.int (ii k)), some (.int (ii q)), some (.long (jj 0)), none, some (.int (ii 0)), l7], [], σ') := by
      rw [b_Scales_waysWithoutRun_17, if_pos ((ii_le (by omega) (by omega)).mpr (Nat.le_refl _)), b_Scales_waysWithoutRun_98]
      rfl
    rw [e5]
    refine loop_up (N := k) (fun j => (104, [some (.ref (8 + 64 * u)), some (.int (ii n)), some (.int (ii k)), some (.int (ii q)), some (.long (jj (sumTo W j))), none, some (.int (ii j)), l7], [], σ')) (fun j hj => ?_) ?_ 0 (Nat.zero_le _)
    · have y1 := fun d => s_waysAt (d := d) (k := j) A' (by omega)
      simp only [hv j (by omega)] at y1
      obtain ⟨a0, a1, a2, a3⟩ := A'
      conv => lhs; simp (disch := first | omega | exact b2_01 _ | exact ii0_01 | exact ii1_01 | (simp (disch := omega) only [a3, dr_some, Option.isSome_some, gR_wI, Nat.add_mul_mod_self_left, Nat.reduceMod, ak20, ak21, ak22, ak23, ak24, ak25, ak26, ak27, ak28, ak29, ak30, ak31, ak32, ak33, ak34, ak35, ak36, an20, an21, an22, an23, an24, an25, an26, an27, an28, an29, an30, an31, an32, an33, an34, an35, an36, an37, an38, ne_eq, inR_ii, decide_eq_true_eq, lit_ii, of_ii, ii_eq, ii_lt, ii_le]; first | done | omega)) only [a3, b_Scales_waysWithoutRun_104, dr_some, Option.isSome_some, gR_wI, Nat.add_mul_mod_self_left, Nat.reduceMod, ak20, ak21, ak22, ak23, ak24, ak25, ak26, ak27, ak28, ak29, ak30, ak31, ak32, ak33, ak34, ak35, ak36, an20, an21, an22, an23, an24, an25, an26, an27, an28, an29, an30, an31, an32, an33, an34, an35, an36, an37, an38, ↓reduceIte, bk_int, bk_void, bk_long, bkN_int, bkN_void, bkN_long, Nat.reduceAdd, Nat.reduceMul, Nat.reduceSub, Nat.reduceLT, Nat.reduceLeDiff, if_true, if_false, not_true_eq_false, not_false_eq_true, Bool.true_eq_false, Bool.false_eq_true, b2_eq0, Nat.add_zero, Nat.zero_add, Nat.not_lt_zero, Nat.zero_le, ite_true, ite_false, decide_true, decide_false, lit_ii, of_ii, le_T, le_F, lt_T, lt_F, eq_T, eq_F, ii_add, ii_mul, ii_nat, ii_le, ii_lt, ii_eq, inR_ii, ii_add0]
      simp (disch := first | omega | exact b2_01 _ | exact ii0_01 | exact ii1_01 | (simp (disch := omega) only [a3, dr_some, Option.isSome_some, gR_wI, Nat.add_mul_mod_self_left, Nat.reduceMod, ak20, ak21, ak22, ak23, ak24, ak25, ak26, ak27, ak28, ak29, ak30, ak31, ak32, ak33, ak34, ak35, ak36, an20, an21, an22, an23, an24, an25, an26, an27, an28, an29, an30, an31, an32, an33, an34, an35, an36, an37, an38, ne_eq, inR_ii, decide_eq_true_eq, lit_ii, of_ii, ii_eq, ii_lt, ii_le]; first | done | omega)) only [a3, e_Scales_waysWithoutRun, b_Scales_waysWithoutRun_0, b_Scales_waysWithoutRun_8, b_Scales_waysWithoutRun_14, b_Scales_waysWithoutRun_17, b_Scales_waysWithoutRun_23, b_Scales_waysWithoutRun_31, b_Scales_waysWithoutRun_36, b_Scales_waysWithoutRun_44, b_Scales_waysWithoutRun_55, b_Scales_waysWithoutRun_59, b_Scales_waysWithoutRun_67, b_Scales_waysWithoutRun_70, b_Scales_waysWithoutRun_73, b_Scales_waysWithoutRun_79, b_Scales_waysWithoutRun_92, b_Scales_waysWithoutRun_98, b_Scales_waysWithoutRun_110, b_Scales_waysWithoutRun_118, b_Scales_waysWithoutRun_127, y1, jj_add, sumTo, dr_some, Option.isSome_some, gR_wI, Nat.add_mul_mod_self_left, Nat.reduceMod, ak20, ak21, ak22, ak23, ak24, ak25, ak26, ak27, ak28, ak29, ak30, ak31, ak32, ak33, ak34, ak35, ak36, an20, an21, an22, an23, an24, an25, an26, an27, an28, an29, an30, an31, an32, an33, an34, an35, an36, an37, an38, ↓reduceIte, bk_int, bk_void, bk_long, bkN_int, bkN_void, bkN_long, Nat.reduceAdd, Nat.reduceMul, Nat.reduceSub, Nat.reduceLT, Nat.reduceLeDiff, if_true, if_false, not_true_eq_false, not_false_eq_true, Bool.true_eq_false, Bool.false_eq_true, b2_eq0, Nat.add_zero, Nat.zero_add, Nat.not_lt_zero, Nat.zero_le, ite_true, ite_false, decide_true, decide_false, lit_ii, of_ii, le_T, le_F, lt_T, lt_F, eq_T, eq_F, ii_add, ii_mul, ii_nat, ii_le, ii_lt, ii_eq, inR_ii, ii_add0]
    · obtain ⟨a0, a1, a2, a3⟩ := A'
      simp (disch := first | omega | exact b2_01 _ | exact ii0_01 | exact ii1_01 | (simp (disch := omega) only [a3, dr_some, Option.isSome_some, gR_wI, Nat.add_mul_mod_self_left, Nat.reduceMod, ak20, ak21, ak22, ak23, ak24, ak25, ak26, ak27, ak28, ak29, ak30, ak31, ak32, ak33, ak34, ak35, ak36, an20, an21, an22, an23, an24, an25, an26, an27, an28, an29, an30, an31, an32, an33, an34, an35, an36, an37, an38, ne_eq, inR_ii, decide_eq_true_eq, lit_ii, of_ii, ii_eq, ii_lt, ii_le]; first | done | omega)) only [a3, b_Scales_waysWithoutRun_104, b_Scales_waysWithoutRun_127, dr_some, Option.isSome_some, gR_wI, Nat.add_mul_mod_self_left, Nat.reduceMod, ak20, ak21, ak22, ak23, ak24, ak25, ak26, ak27, ak28, ak29, ak30, ak31, ak32, ak33, ak34, ak35, ak36, an20, an21, an22, an23, an24, an25, an26, an27, an28, an29, an30, an31, an32, an33, an34, an35, an36, an37, an38, ↓reduceIte, bk_int, bk_void, bk_long, bkN_int, bkN_void, bkN_long, Nat.reduceAdd, Nat.reduceMul, Nat.reduceSub, Nat.reduceLT, Nat.reduceLeDiff, if_true, if_false, not_true_eq_false, not_false_eq_true, Bool.true_eq_false, Bool.false_eq_true, b2_eq0, Nat.add_zero, Nat.zero_add, Nat.not_lt_zero, Nat.zero_le, ite_true, ite_false, decide_true, decide_false, lit_ii, of_ii, le_T, le_F, lt_T, lt_F, eq_T, eq_F, ii_add, ii_mul, ii_nat, ii_le, ii_lt, ii_eq, inR_ii, ii_add0]
