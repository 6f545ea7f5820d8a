/-! frames and what a lift is -/
theorem HA.fs {S : Nat → Prop} {σ σ' : HP} {h : Nat} {H : HH} (A : HA σ h H) (F : Fs S σ σ') (q : ∀ a, h ≤ a / 64 → a / 64 ≤ h + 5 → ¬ S a) : HA σ' h H := by
  obtain ⟨hF, hM, hC, hPi, hr4, hr5, hr6, hr7, hr8, hv4, hv5, hv6, hv7, hv8⟩ := A
  exact ⟨(F.I (q _ (by omega) (by omega))).trans hF, (F.I (q _ (by omega) (by omega))).trans hM, (F.I (q _ (by omega) (by omega))).trans hC, (F.I (q _ (by omega) (by omega))).trans hPi, (F.R _ _).trans hr4, (F.R _ _).trans hr5, (F.R _ _).trans hr6, (F.R _ _).trans hr7, (F.R _ _).trans hr8, fun m k => (F.I (q _ (by omega) (by omega))).trans (hv4 m k), fun m k => (F.I (q _ (by omega) (by omega))).trans (hv5 m k), fun m k => (F.I (q _ (by omega) (by omega))).trans (hv6 m k), fun m k => (F.I (q _ (by omega) (by omega))).trans (hv7 m k), fun m k => (F.I (q _ (by omega) (by omega))).trans (hv8 m k)⟩
theorem DA.fs {S : Nat → Prop} {σ σ' : HP} {s : Nat} {D : Nat → Nat} (A : DA σ s D) (F : Fs S σ σ') (q : ∀ a, s ≤ a / 64 → a / 64 ≤ s + 4 → ¬ S a) : DA σ' s D := by
  obtain ⟨dv0, dv1, dv2, dv3, dr4, dr5, dr6, dr7, dw4, dw5, dw6, dw7⟩ := A
  refine ⟨?_, ?_, ?_, ?_, ?_, ?_, ?_, ?_, fun m k => ?_, fun m k => ?_, fun m k => ?_, fun m k => ?_⟩ <;> first | (rw [F.R]; assumption) | (rw [F.I (q _ (by omega) (by omega))]; first | assumption | exact dw4 m k | exact dw5 m k | exact dw6 m k | exact dw7 m k)
theorem LwA.fs {S : Nat → Prop} {σ σ' : HP} {l : Nat} {w : LW} (A : LwA σ l w) (F : Fs S σ σ') (q : ∀ a, l ≤ a / 64 → a / 64 ≤ l + 1 → ¬ S a) : LwA σ' l w := by
  obtain ⟨lr0, lr1, lr2, lv3, lw0⟩ := A
  refine ⟨?_, ?_, ?_, ?_, fun k hk => ?_⟩ <;> first | (rw [F.R]; assumption) | (rw [F.I (q _ (by omega) (by omega))]; first | assumption | exact lw0 k hk)
theorem CL.fs {S : Nat → Prop} {σ σ' : HP} {t h l s : Nat} {H : HH} {w : LW} {D : Nat → Nat} (A : CL σ t h l s H w D) (F : Fs S σ σ') (q1 : ∀ a, h ≤ a / 64 → a / 64 ≤ h + 5 → ¬ S a) (q2 : ∀ a, s ≤ a / 64 → a / 64 ≤ s + 4 → ¬ S a) (q3 : ∀ a, l ≤ a / 64 → a / 64 ≤ l + 1 → ¬ S a) : CL σ' t h l s H w D := by
  obtain ⟨qP, qL, qD, a1, a2, a3, r⟩ := A
  exact ⟨(F.R _ _).trans qP, (F.R _ _).trans qL, (F.R _ _).trans qD, a1.fs F q1, a2.fs F q2, a3.fs F q3, r⟩
/-- what a law uses up: its stack, its facts -/
def Sl (l a : Nat) : Prop := a = 29 + 64 * (l + 2) ∨ a = 23 + 64 * (l + 3)
/-- and days -/
def Sd (l s a : Nat) : Prop := a = 29 + 64 * (l + 2) ∨ a = 23 + 64 * (l + 3) ∨ (s ≤ a / 64 ∧ a / 64 ≤ s + 4)
theorem CL.sl {σ σ' : HP} {t h l s : Nat} {H : HH} {w : LW} {D : Nat → Nat} (A : CL σ t h l s H w D) (F : Fs (Sl l) σ σ') : CL σ' t h l s H w D := by
  have A' := A
  obtain ⟨qP, qL, qD, a1, a2, a3, b1, b2, b3, c1, c2, c3⟩ := A'
  exact A.fs F (fun a x y z => by unfold Sl at z; omega) (fun a x y z => by unfold Sl at z; omega) (fun a x y z => by unfold Sl at z; omega)
/-- new days in an old lift -/
theorem CL.nd {σ σ' : HP} {t h l s : Nat} {H : HH} {w : LW} {D D' : Nat → Nat} (A : CL σ t h l s H w D) (F : Fs (Sd l s) σ σ') (hd : DA σ' s D') (hw : wD H D') : CL σ' t h l s H w D' := by
  obtain ⟨qP, qL, qD, a1, a2, a3, b1, b2, b3, c1, c2, c3⟩ := A
  exact ⟨(F.R _ _).trans qP, (F.R _ _).trans qL, (F.R _ _).trans qD, a1.fs F (fun a x y z => by unfold Sd at z; omega), hd, a3.fs F (fun a x y z => by unfold Sd at z; omega), b1, hw, b3, c1, c2, c3⟩
theorem Sl_Sd {l s : Nat} {σ σ' : HP} (F : Fs (Sl l) σ σ') : Fs (Sd l s) σ σ' := F.mono (fun a z => by unfold Sl at z; unfold Sd; omega)
/-! what a law says -/
def joinV (c : Nat) (a b : Int32) : Int32 := if c = 2043 then a + b else if c = 2045 then a - b else if c = 2042 then a * b else if c = 2047 then (if b = 0 then 0 else a / b) else if c = 2037 then (if b = 0 then 0 else p_rem a b) else if c = 2001 then p_min a b else p_max a b
def topJ (c : Nat) : List Int32 → List Int32
  | b :: a :: r => joinV c a b :: r
  | r => r
def evS (c : Nat → Nat) (F : Nat → Nat) : Nat → List Int32
  | 0 => []
  | k + 1 => if c k < 1000 then ii (c k) :: evS c F k else if c k < 2000 then ii (F (c k - 1000)) :: evS c F k else topJ (c k) (evS c F k)
def swl (w : LW) (F : Nat → Nat) : Nat := min 40 ((evS w.2 F w.1).headD 0).toNatClampNeg
theorem swl_le (w : LW) (F : Nat → Nat) : swl w F ≤ 40 := Nat.min_le_left _ _
theorem two_of {α : Type} {l : List α} (h : 2 ≤ l.length) : ∃ b a r, l = b :: a :: r := by
  match l, h with
  | b :: a :: r, _ => exact ⟨b, a, r, rfl⟩
  | [_], h => simp at h
  | [], h => simp at h
theorem evS_len {w : LW} (hw : wL w) (F : Nat → Nat) : ∀ k, k ≤ w.1 → (evS w.2 F k).length = hgt w.2 k := by
  intro k
  induction k with
  | zero => intro _; rfl
  | succ k ih =>
    intro hk
    have e := ih (by omega)
    have hk2 := hw.2.2 k (by omega)
    unfold evS hgt
    by_cases h1 : w.2 k < 1000
    · rw [if_pos h1, if_pos (by omega), List.length_cons, e]
    · rw [if_neg h1]
      by_cases h2 : w.2 k < 2000
      · rw [if_pos h2, if_pos h2, List.length_cons, e]
      · rw [if_neg h2, if_neg h2]
        have h3 := hk2.2 (by omega)
        obtain ⟨b, a, r, hr⟩ := two_of (l := evS w.2 F k) (by omega)
        rw [hr] at e ⊢
        simp only [List.length_cons, topJ] at e ⊢
        omega
theorem hgt_le (c : Nat → Nat) : ∀ k, hgt c k ≤ k := by
  intro k
  induction k with
  | zero => exact Nat.le_refl _
  | succ k ih =>
    unfold hgt
    split <;> omega
/-- the stack's row holds these, the last one first -/
def SK (σ : HP) (a : Nat) (st : List Int32) : Prop := ∀ i, i < st.length → gI σ a i = st.getD (st.length - 1 - i) 0
theorem SK.push {σ : HP} {a n : Nat} {st : List Int32} {v : Int32} (h : SK σ a st) (hn : st.length = n) : SK (wI σ a n v) a (v :: st) := by
  intro i hi
  rw [List.length_cons] at hi ⊢
  rw [gI_row]
  by_cases q : i = n
  · rw [if_pos q, q, ← hn, show st.length + 1 - 1 - st.length = 0 by omega]
    rfl
  · rw [if_neg q, h i (by omega), show st.length + 1 - 1 - i = (st.length - 1 - i) + 1 by omega, List.getD_cons_succ]
theorem SK.join {σ : HP} {a n : Nat} {x y v : Int32} {r : List Int32} (h : SK σ a (y :: x :: r)) (hn : r.length = n) : SK (wI σ a n v) a (v :: r) := by
  intro i hi
  rw [List.length_cons] at hi ⊢
  rw [gI_row]
  by_cases q : i = n
  · rw [if_pos q, q, ← hn, show r.length + 1 - 1 - r.length = 0 by omega]
    rfl
  · rw [if_neg q, h i (by simp only [List.length_cons]; omega)]
    simp only [List.length_cons]
    rw [show r.length + 1 + 1 - 1 - i = (r.length - 1 - i) + 1 + 1 by omega, show r.length + 1 - 1 - i = (r.length - 1 - i) + 1 by omega, List.getD_cons_succ, List.getD_cons_succ, List.getD_cons_succ]
theorem SK.x {σ : HP} {a : Nat} {x y : Int32} {r : List Int32} (h : SK σ a (y :: x :: r)) : gI σ a r.length = x := by
  rw [h r.length (by simp only [List.length_cons]; omega)]
  simp only [List.length_cons]
  rw [show r.length + 1 + 1 - 1 - r.length = 0 + 1 by omega, List.getD_cons_succ]
  rfl
theorem SK.y {σ : HP} {a : Nat} {x y : Int32} {r : List Int32} (h : SK σ a (y :: x :: r)) : gI σ a (r.length + 1) = y := by
  rw [h (r.length + 1) (by simp only [List.length_cons]; omega)]
  simp only [List.length_cons]
  rw [show r.length + 1 + 1 - 1 - (r.length + 1) = 0 by omega]
  rfl
theorem clampv (v : Int32) : p_max (ii 0) (p_min (ii 40) v) = ii (min 40 v.toNatClampNeg) := by
  by_cases h : v < ii 0
  · have e1 : p_min (ii 40) v = v := by
      unfold p_min
      rw [if_pos (Int32.lt_trans h (by decide))]
    have e2 : v.toNatClampNeg = 0 := by
      have h2 := Int32.lt_iff_toInt_lt.mp h
      have h3 : (ii 0).toInt = 0 := rfl
      unfold Int32.toNatClampNeg
      omega
    rw [e1, e2]
    unfold p_max
    rw [if_neg (fun q => Int32.lt_irrefl (Int32.lt_trans h q))]
    rfl
  · have h0 := Int32.not_lt.mp h
    obtain ⟨k, hk, rfl⟩ : ∃ k, k < 2147483648 ∧ v = ii k := ⟨v.toNatClampNeg, by
      have h2 := Int32.cast_toNatClampNeg v h0
      have h3 := Int32.toInt_lt v
      omega, (Int32.ofNat_toNatClampNeg v h0).symm⟩
    rw [p_min_ii (by omega) hk, p_max_ii (by omega) (by omega), ii_nat hk, Nat.zero_max]
theorem s_join {d c : Nat} {x y : Int32} {σ : HP} (hc : okC c) (hc2 : 2000 ≤ c) : callF (d + 1) m_Law_join [.int (ii (c - 2000)), .int x, .int y] σ = some (.inl (some (.int (joinV c x y))), σ) := by
  have h : c = 2043 ∨ c = 2045 ∨ c = 2042 ∨ c = 2047 ∨ c = 2037 ∨ c = 2001 ∨ c = 2002 := by
    unfold okC at hc
    omega
  rw [e_Law_join, b_Law_join_0]
  unfold joinV
  by_cases hy : y = 0
  · subst hy
    rcases h with rfl | rfl | rfl | rfl | rfl | rfl | rfl <;> simp (disch := first | omega | exact b2_01 _ | exact ii0_01 | exact ii1_01 | assumption) only [e_Law_join, b_Law_join_60, b_Law_join_64, b_Law_join_68, b_Law_join_72, b_Law_join_76, b_Law_join_80, b_Law_join_83, b_Law_join_84, b_Law_join_88, b_Law_join_92, b_Law_join_95, b_Law_join_96, b_Law_join_102, ↓reduceIte, bk_int, bk_void, bk_long, bkN_int, bkN_void, bkN_long, Nat.reduceAdd, Nat.reduceMul, Nat.reduceSub, Nat.reduceLT, Nat.reduceLeDiff, if_true, if_false, not_true_eq_false, not_false_eq_true, Bool.true_eq_false, Bool.false_eq_true, b2_eq0, Nat.add_zero, Nat.zero_add, Nat.not_lt_zero, Nat.zero_le, ite_true, ite_false, decide_true, decide_false, lit_ii, of_ii, le_T, le_F, lt_T, lt_F, eq_T, eq_F, ii_add, ii_mul, ii_nat, ii_le, ii_lt, ii_eq, inR_ii, ii_add0, Nat.reduceEqDiff] <;> rfl
  · have hy' : ¬ y = ii 0 := hy
    rcases h with rfl | rfl | rfl | rfl | rfl | rfl | rfl <;> simp (disch := first | omega | exact b2_01 _ | exact ii0_01 | exact ii1_01 | assumption) only [hy', e_Law_join, b_Law_join_60, b_Law_join_64, b_Law_join_68, b_Law_join_72, b_Law_join_76, b_Law_join_80, b_Law_join_83, b_Law_join_84, b_Law_join_88, b_Law_join_92, b_Law_join_95, b_Law_join_96, b_Law_join_102, ↓reduceIte, bk_int, bk_void, bk_long, bkN_int, bkN_void, bkN_long, Nat.reduceAdd, Nat.reduceMul, Nat.reduceSub, Nat.reduceLT, Nat.reduceLeDiff, if_true, if_false, not_true_eq_false, not_false_eq_true, Bool.true_eq_false, Bool.false_eq_true, b2_eq0, Nat.add_zero, Nat.zero_add, Nat.not_lt_zero, Nat.zero_le, ite_true, ite_false, decide_true, decide_false, lit_ii, of_ii, le_T, le_F, lt_T, lt_F, eq_T, eq_F, ii_add, ii_mul, ii_nat, ii_le, ii_lt, ii_eq, inR_ii, ii_add0, Nat.reduceEqDiff]
theorem s_swellByFacts {d l : Nat} {w : LW} {F : Nat → Nat} {σ : HP} (A : LwA σ l w) (hw : wL w) (hF : ∀ i, i < 9 → gI σ (23 + 64 * (l + 3)) i = ii (F i)) : ∃ σ', callF (d + 2) m_Law_swellByFacts [.ref (4 + 64 * l)] σ = some (.inl (some (.int (ii (swl w F)))), σ') ∧ Fs (fun a => a = 29 + 64 * (l + 2)) σ σ' := by
  obtain ⟨lr0, lr1, lr2, lv3, lw0⟩ := A
  rw [e_Law_swellByFacts, b_Law_swellByFacts_0]
  refine loop_g (N := w.1) (Q := fun o => ∃ σ', o = some (.inl (some (.int (ii (swl w F)))), σ') ∧ Fs (fun a => a = 29 + 64 * (l + 2)) σ σ') (fun k c => ∃ σ' l3, c = (4, [some (.ref (4 + 64 * l)), some (.int (ii (hgt w.2 k))), some (.int (ii k)), l3], [], σ') ∧ Fs (fun a => a = 29 + 64 * (l + 2)) σ σ' ∧ SK σ' (29 + 64 * (l + 2)) (evS w.2 F k)) ?_ ?_ 0 _ (Nat.zero_le _) ⟨σ, none, rfl, Fs.rf, fun i hi => by cases hi⟩
  · rintro k c hk ⟨σ', l3, rfl, Fr, hs⟩
    have hn := hw.1
    have hh := hgt_le w.2 k
    have hl := evS_len hw F k (by omega)
    have hok := hw.2.2 k hk
    have f1 := Fr.R
    have e0 : gI σ' (4 + 64 * l) 3 = ii w.1 := (Fr.I (by omega)).trans lv3
    have e1 : gI σ' (29 + 64 * (l + 1)) k = ii (w.2 k) := (Fr.I (by omega)).trans (lw0 k hk)
    have hcode : w.2 k < 3000 := by have := hok.1; unfold okC at this; omega
    have hk' : ¬ w.1 ≤ k := by omega
    by_cases h1 : w.2 k < 1000
    · have eh : hgt w.2 (k + 1) = hgt w.2 k + 1 := by rw [hgt, if_pos (by omega)]
      have ev : evS w.2 F (k + 1) = ii (w.2 k) :: evS w.2 F k := by rw [evS, if_pos h1]
      have n1 : ¬ 1000 ≤ w.2 k := by omega
      refine ⟨_, ?_, wI σ' (29 + 64 * (l + 2)) (hgt w.2 k) (ii (w.2 k)), some (.int (ii (w.2 k))), rfl, Fr.w rfl, ?_⟩
      · conv => lhs; simp (disch := first | omega | exact b2_01 _ | exact ii0_01 | exact ii1_01 | (simp (disch := omega) only [f1, lr0, lr1, lr2, e0, e1, dr_some, Option.isSome_some, gR_wI, Nat.add_mul_mod_self_left, Nat.reduceMod, ak20, ak21, ak22, ak23, ak24, ak25, ak26, ak27, ak28, ak29, ak30, ak31, ak32, ak33, ak34, ak35, ak36, an20, an21, an22, an23, an24, an25, an26, an27, an28, an29, an30, an31, an32, an33, an34, an35, an36, an37, an38, ne_eq, inR_ii, decide_eq_true_eq, lit_ii, of_ii, ii_eq, ii_lt, ii_le]; first | done | omega)) only [f1, lr0, lr1, lr2, e0, e1, b_Law_swellByFacts_4, hk', dr_some, Option.isSome_some, gR_wI, Nat.add_mul_mod_self_left, Nat.reduceMod, ak20, ak21, ak22, ak23, ak24, ak25, ak26, ak27, ak28, ak29, ak30, ak31, ak32, ak33, ak34, ak35, ak36, an20, an21, an22, an23, an24, an25, an26, an27, an28, an29, an30, an31, an32, an33, an34, an35, an36, an37, an38, ↓reduceIte, bk_int, bk_void, bk_long, bkN_int, bkN_void, bkN_long, Nat.reduceAdd, Nat.reduceMul, Nat.reduceSub, Nat.reduceLT, Nat.reduceLeDiff, if_true, if_false, not_true_eq_false, not_false_eq_true, Bool.true_eq_false, Bool.false_eq_true, b2_eq0, Nat.add_zero, Nat.zero_add, Nat.not_lt_zero, Nat.zero_le, ite_true, ite_false, decide_true, decide_false, lit_ii, of_ii, le_T, le_F, lt_T, lt_F, eq_T, eq_F, ii_add, ii_mul, ii_nat, ii_le, ii_lt, ii_eq, inR_ii, ii_add0]
        simp (disch := first | omega | exact b2_01 _ | exact ii0_01 | exact ii1_01 | (simp (disch := omega) only [f1, lr0, lr1, lr2, e0, e1, dr_some, Option.isSome_some, gR_wI, Nat.add_mul_mod_self_left, Nat.reduceMod, ak20, ak21, ak22, ak23, ak24, ak25, ak26, ak27, ak28, ak29, ak30, ak31, ak32, ak33, ak34, ak35, ak36, an20, an21, an22, an23, an24, an25, an26, an27, an28, an29, an30, an31, an32, an33, an34, an35, an36, an37, an38, ne_eq, inR_ii, decide_eq_true_eq, lit_ii, of_ii, ii_eq, ii_lt, ii_le]; first | done | omega)) only [f1, lr0, lr1, lr2, e0, e1, e_Law_swellByFacts, b_Law_swellByFacts_0, b_Law_swellByFacts_12, b_Law_swellByFacts_21, b_Law_swellByFacts_35, b_Law_swellByFacts_44, b_Law_swellByFacts_50, b_Law_swellByFacts_57, b_Law_swellByFacts_74, b_Law_swellByFacts_77, b_Law_swellByFacts_83, b_Law_swellByFacts_108, b_Law_swellByFacts_116, b_Law_swellByFacts_119, b_Law_swellByFacts_122, b_Law_swellByFacts_128, b_Law_swellByFacts_139, hk', n1, s_put, eh, dr_some, Option.isSome_some, gR_wI, Nat.add_mul_mod_self_left, Nat.reduceMod, ak20, ak21, ak22, ak23, ak24, ak25, ak26, ak27, ak28, ak29, ak30, ak31, ak32, ak33, ak34, ak35, ak36, an20, an21, an22, an23, an24, an25, an26, an27, an28, an29, an30, an31, an32, an33, an34, an35, an36, an37, an38, ↓reduceIte, bk_int, bk_void, bk_long, bkN_int, bkN_void, bkN_long, Nat.reduceAdd, Nat.reduceMul, Nat.reduceSub, Nat.reduceLT, Nat.reduceLeDiff, if_true, if_false, not_true_eq_false, not_false_eq_true, Bool.true_eq_false, Bool.false_eq_true, b2_eq0, Nat.add_zero, Nat.zero_add, Nat.not_lt_zero, Nat.zero_le, ite_true, ite_false, decide_true, decide_false, lit_ii, of_ii, le_T, le_F, lt_T, lt_F, eq_T, eq_F, ii_add, ii_mul, ii_nat, ii_le, ii_lt, ii_eq, inR_ii, ii_add0]
      · rw [ev]
        exact hs.push hl
    · by_cases h2 : w.2 k < 2000
      · have eh : hgt w.2 (k + 1) = hgt w.2 k + 1 := by rw [hgt, if_pos (by omega)]
        have ev : evS w.2 F (k + 1) = ii (F (w.2 k - 1000)) :: evS w.2 F k := by rw [evS, if_neg h1, if_pos h2]
        have n1 : 1000 ≤ w.2 k := by omega
        have n2 : ¬ 2000 ≤ w.2 k := by omega
        have n3 : w.2 k - 1000 < 9 := by have := hok.1; unfold okC at this; omega
        have e2 : gI σ' (23 + 64 * (l + 3)) (w.2 k - 1000) = ii (F (w.2 k - 1000)) := (Fr.I (by omega)).trans (hF _ n3)
        refine ⟨_, ?_, wI σ' (29 + 64 * (l + 2)) (hgt w.2 k) (ii (F (w.2 k - 1000))), some (.int (ii (w.2 k))), rfl, Fr.w rfl, ?_⟩
        · conv => lhs; simp (disch := first | omega | exact b2_01 _ | exact ii0_01 | exact ii1_01 | (simp (disch := omega) only [f1, lr0, lr1, lr2, e0, e1, dr_some, Option.isSome_some, gR_wI, Nat.add_mul_mod_self_left, Nat.reduceMod, ak20, ak21, ak22, ak23, ak24, ak25, ak26, ak27, ak28, ak29, ak30, ak31, ak32, ak33, ak34, ak35, ak36, an20, an21, an22, an23, an24, an25, an26, an27, an28, an29, an30, an31, an32, an33, an34, an35, an36, an37, an38, ne_eq, inR_ii, decide_eq_true_eq, lit_ii, of_ii, ii_eq, ii_lt, ii_le]; first | done | omega)) only [f1, lr0, lr1, lr2, e0, e1, b_Law_swellByFacts_4, hk', dr_some, Option.isSome_some, gR_wI, Nat.add_mul_mod_self_left, Nat.reduceMod, ak20, ak21, ak22, ak23, ak24, ak25, ak26, ak27, ak28, ak29, ak30, ak31, ak32, ak33, ak34, ak35, ak36, an20, an21, an22, an23, an24, an25, an26, an27, an28, an29, an30, an31, an32, an33, an34, an35, an36, an37, an38, ↓reduceIte, bk_int, bk_void, bk_long, bkN_int, bkN_void, bkN_long, Nat.reduceAdd, Nat.reduceMul, Nat.reduceSub, Nat.reduceLT, Nat.reduceLeDiff, if_true, if_false, not_true_eq_false, not_false_eq_true, Bool.true_eq_false, Bool.false_eq_true, b2_eq0, Nat.add_zero, Nat.zero_add, Nat.not_lt_zero, Nat.zero_le, ite_true, ite_false, decide_true, decide_false, lit_ii, of_ii, le_T, le_F, lt_T, lt_F, eq_T, eq_F, ii_add, ii_mul, ii_nat, ii_le, ii_lt, ii_eq, inR_ii, ii_add0]
          simp (disch := first | omega | exact b2_01 _ | exact ii0_01 | exact ii1_01 | (simp (disch := omega) only [f1, lr0, lr1, lr2, e0, e1, dr_some, Option.isSome_some, gR_wI, Nat.add_mul_mod_self_left, Nat.reduceMod, ak20, ak21, ak22, ak23, ak24, ak25, ak26, ak27, ak28, ak29, ak30, ak31, ak32, ak33, ak34, ak35, ak36, an20, an21, an22, an23, an24, an25, an26, an27, an28, an29, an30, an31, an32, an33, an34, an35, an36, an37, an38, ne_eq, inR_ii, decide_eq_true_eq, lit_ii, of_ii, ii_eq, ii_lt, ii_le]; first | done | omega)) only [f1, lr0, lr1, lr2, e0, e1, e_Law_swellByFacts, b_Law_swellByFacts_0, b_Law_swellByFacts_12, b_Law_swellByFacts_21, b_Law_swellByFacts_35, b_Law_swellByFacts_44, b_Law_swellByFacts_50, b_Law_swellByFacts_57, b_Law_swellByFacts_74, b_Law_swellByFacts_77, b_Law_swellByFacts_83, b_Law_swellByFacts_108, b_Law_swellByFacts_116, b_Law_swellByFacts_119, b_Law_swellByFacts_122, b_Law_swellByFacts_128, b_Law_swellByFacts_139, hk', n1, n2, s_put, s_at, ii_sub, e2, eh, dr_some, Option.isSome_some, gR_wI, Nat.add_mul_mod_self_left, Nat.reduceMod, ak20, ak21, ak22, ak23, ak24, ak25, ak26, ak27, ak28, ak29, ak30, ak31, ak32, ak33, ak34, ak35, ak36, an20, an21, an22, an23, an24, an25, an26, an27, an28, an29, an30, an31, an32, an33, an34, an35, an36, an37, an38, ↓reduceIte, bk_int, bk_void, bk_long, bkN_int, bkN_void, bkN_long, Nat.reduceAdd, Nat.reduceMul, Nat.reduceSub, Nat.reduceLT, Nat.reduceLeDiff, if_true, if_false, not_true_eq_false, not_false_eq_true, Bool.true_eq_false, Bool.false_eq_true, b2_eq0, Nat.add_zero, Nat.zero_add, Nat.not_lt_zero, Nat.zero_le, ite_true, ite_false, decide_true, decide_false, lit_ii, of_ii, le_T, le_F, lt_T, lt_F, eq_T, eq_F, ii_add, ii_mul, ii_nat, ii_le, ii_lt, ii_eq, inR_ii, ii_add0]
        · rw [ev]
          exact hs.push hl
      · have h3 := hok.2 (by omega)
        have n1 : 1000 ≤ w.2 k := by omega
        have n2 : 2000 ≤ w.2 k := by omega
        have eh : hgt w.2 (k + 1) = hgt w.2 k - 1 := by rw [hgt, if_neg h2]
        obtain ⟨b, a, r, hr⟩ := two_of (l := evS w.2 F k) (by omega)
        have ev : evS w.2 F (k + 1) = joinV (w.2 k) a b :: r := by rw [evS, if_neg h1, if_neg h2, hr]; rfl
        rw [hr] at hs hl
        simp only [List.length_cons] at hl
        have x1 := hs.x
        have x2 := hs.y
        rw [show r.length = hgt w.2 k - 1 - 1 by omega] at x1
        rw [show r.length + 1 = hgt w.2 k - 1 by omega] at x2
        refine ⟨_, ?_, wI σ' (29 + 64 * (l + 2)) (hgt w.2 k - 1 - 1) (joinV (w.2 k) a b), some (.int (ii (w.2 k))), rfl, Fr.w rfl, ?_⟩
        · conv => lhs; simp (disch := first | omega | exact b2_01 _ | exact ii0_01 | exact ii1_01 | (simp (disch := omega) only [f1, lr0, lr1, lr2, e0, e1, dr_some, Option.isSome_some, gR_wI, Nat.add_mul_mod_self_left, Nat.reduceMod, ak20, ak21, ak22, ak23, ak24, ak25, ak26, ak27, ak28, ak29, ak30, ak31, ak32, ak33, ak34, ak35, ak36, an20, an21, an22, an23, an24, an25, an26, an27, an28, an29, an30, an31, an32, an33, an34, an35, an36, an37, an38, ne_eq, inR_ii, decide_eq_true_eq, lit_ii, of_ii, ii_eq, ii_lt, ii_le]; first | done | omega)) only [f1, lr0, lr1, lr2, e0, e1, b_Law_swellByFacts_4, hk', dr_some, Option.isSome_some, gR_wI, Nat.add_mul_mod_self_left, Nat.reduceMod, ak20, ak21, ak22, ak23, ak24, ak25, ak26, ak27, ak28, ak29, ak30, ak31, ak32, ak33, ak34, ak35, ak36, an20, an21, an22, an23, an24, an25, an26, an27, an28, an29, an30, an31, an32, an33, an34, an35, an36, an37, an38, ↓reduceIte, bk_int, bk_void, bk_long, bkN_int, bkN_void, bkN_long, Nat.reduceAdd, Nat.reduceMul, Nat.reduceSub, Nat.reduceLT, Nat.reduceLeDiff, if_true, if_false, not_true_eq_false, not_false_eq_true, Bool.true_eq_false, Bool.false_eq_true, b2_eq0, Nat.add_zero, Nat.zero_add, Nat.not_lt_zero, Nat.zero_le, ite_true, ite_false, decide_true, decide_false, lit_ii, of_ii, le_T, le_F, lt_T, lt_F, eq_T, eq_F, ii_add, ii_mul, ii_nat, ii_le, ii_lt, ii_eq, inR_ii, ii_add0]
          simp (disch := first | omega | exact b2_01 _ | exact ii0_01 | exact ii1_01 | (simp (disch := omega) only [f1, lr0, lr1, lr2, e0, e1, dr_some, Option.isSome_some, gR_wI, Nat.add_mul_mod_self_left, Nat.reduceMod, ak20, ak21, ak22, ak23, ak24, ak25, ak26, ak27, ak28, ak29, ak30, ak31, ak32, ak33, ak34, ak35, ak36, an20, an21, an22, an23, an24, an25, an26, an27, an28, an29, an30, an31, an32, an33, an34, an35, an36, an37, an38, ne_eq, inR_ii, decide_eq_true_eq, lit_ii, of_ii, ii_eq, ii_lt, ii_le]; first | done | omega)) only [f1, lr0, lr1, lr2, e0, e1, e_Law_swellByFacts, b_Law_swellByFacts_0, b_Law_swellByFacts_12, b_Law_swellByFacts_21, b_Law_swellByFacts_35, b_Law_swellByFacts_44, b_Law_swellByFacts_50, b_Law_swellByFacts_57, b_Law_swellByFacts_74, b_Law_swellByFacts_77, b_Law_swellByFacts_83, b_Law_swellByFacts_108, b_Law_swellByFacts_116, b_Law_swellByFacts_119, b_Law_swellByFacts_122, b_Law_swellByFacts_128, b_Law_swellByFacts_139, hk', n1, n2, s_put, s_at, ii_sub, ii_pred, x1, x2, s_join hok.1 n2, eh, dr_some, Option.isSome_some, gR_wI, Nat.add_mul_mod_self_left, Nat.reduceMod, ak20, ak21, ak22, ak23, ak24, ak25, ak26, ak27, ak28, ak29, ak30, ak31, ak32, ak33, ak34, ak35, ak36, an20, an21, an22, an23, an24, an25, an26, an27, an28, an29, an30, an31, an32, an33, an34, an35, an36, an37, an38, ↓reduceIte, bk_int, bk_void, bk_long, bkN_int, bkN_void, bkN_long, Nat.reduceAdd, Nat.reduceMul, Nat.reduceSub, Nat.reduceLT, Nat.reduceLeDiff, if_true, if_false, not_true_eq_false, not_false_eq_true, Bool.true_eq_false, Bool.false_eq_true, b2_eq0, Nat.add_zero, Nat.zero_add, Nat.not_lt_zero, Nat.zero_le, ite_true, ite_false, decide_true, decide_false, lit_ii, of_ii, le_T, le_F, lt_T, lt_F, eq_T, eq_F, ii_add, ii_mul, ii_nat, ii_le, ii_lt, ii_eq, inR_ii, ii_add0]
        · rw [ev]
          exact hs.join (by omega)
  · rintro c ⟨σ', l3, rfl, Fr, hs⟩
    have hn := hw.1
    have hl := evS_len hw F w.1 (Nat.le_refl _)
    rw [hw.2.1] at hl
    have f1 := Fr.R
    have e0 : gI σ' (4 + 64 * l) 3 = ii w.1 := (Fr.I (by omega)).trans lv3
    have e1 := hs 0 (by omega)
    rw [hl] at e1
    refine ⟨σ', ?_, Fr⟩
    have e2 : (evS w.2 F w.1).getD (1 - 1 - 0) 0 = (evS w.2 F w.1).headD 0 := by
      cases evS w.2 F w.1 <;> rfl
    rw [e2] at e1
    simp (disch := first | omega | exact b2_01 _ | exact ii0_01 | exact ii1_01 | (simp (disch := omega) only [f1, lr0, lr1, lr2, e0, e1, dr_some, Option.isSome_some, gR_wI, Nat.add_mul_mod_self_left, Nat.reduceMod, ak20, ak21, ak22, ak23, ak24, ak25, ak26, ak27, ak28, ak29, ak30, ak31, ak32, ak33, ak34, ak35, ak36, an20, an21, an22, an23, an24, an25, an26, an27, an28, an29, an30, an31, an32, an33, an34, an35, an36, an37, an38, ne_eq, inR_ii, decide_eq_true_eq, lit_ii, of_ii, ii_eq, ii_lt, ii_le]; first | done | omega)) only [f1, lr0, lr1, lr2, e0, e1, e_Law_swellByFacts, b_Law_swellByFacts_0, b_Law_swellByFacts_4, b_Law_swellByFacts_12, b_Law_swellByFacts_21, b_Law_swellByFacts_35, b_Law_swellByFacts_44, b_Law_swellByFacts_50, b_Law_swellByFacts_57, b_Law_swellByFacts_74, b_Law_swellByFacts_77, b_Law_swellByFacts_83, b_Law_swellByFacts_108, b_Law_swellByFacts_116, b_Law_swellByFacts_119, b_Law_swellByFacts_122, b_Law_swellByFacts_128, b_Law_swellByFacts_139, s_at, Nat.le_refl, clampv, swl, dr_some, Option.isSome_some, gR_wI, Nat.add_mul_mod_self_left, Nat.reduceMod, ak20, ak21, ak22, ak23, ak24, ak25, ak26, ak27, ak28, ak29, ak30, ak31, ak32, ak33, ak34, ak35, ak36, an20, an21, an22, an23, an24, an25, an26, an27, an28, an29, an30, an31, an32, an33, an34, an35, an36, an37, an38, ↓reduceIte, bk_int, bk_void, bk_long, bkN_int, bkN_void, bkN_long, Nat.reduceAdd, Nat.reduceMul, Nat.reduceSub, Nat.reduceLT, Nat.reduceLeDiff, if_true, if_false, not_true_eq_false, not_false_eq_true, Bool.true_eq_false, Bool.false_eq_true, b2_eq0, Nat.add_zero, Nat.zero_add, Nat.not_lt_zero, Nat.zero_le, ite_true, ite_false, decide_true, decide_false, lit_ii, of_ii, le_T, le_F, lt_T, lt_F, eq_T, eq_F, ii_add, ii_mul, ii_nat, ii_le, ii_lt, ii_eq, inR_ii, ii_add0]
/-! what a word makes of one -/
def fct (H : HH) (D : Nat → Nat) (m c : Nat) (i : Nat) : Nat := if i = 0 then cr H (2 * c) else if i = 1 then cr H (2 * c + 1) else if i = 2 then mr H (3 * m + 2) else if i = 3 then mr H (3 * m + 1) else if i = 4 then D (14 + m) else if i = 5 then D (28 + (m * 8 + c)) else if i = 6 then D (21 + m) else if i = 7 then floorOf D m else m
def swell (H : HH) (w : LW) (D : Nat → Nat) (m c : Nat) : Nat := swl w (fct H D m c)
theorem swell_le (H : HH) (w : LW) (D : Nat → Nat) (m c : Nat) : swell H w D m c ≤ 40 := swl_le _ _
theorem s_timesHeard {m c d t h l s : Nat} {H : HH} {w : LW} {D : Nat → Nat} {σ : HP} (L : CL σ t h l s H w D) (hk : m < 7) (hc : c < 8) : callF (d + 2) m_Days_timesHeard [.ref (1 + 64 * s), .int (ii m), .int (ii c)] σ = some (.inl (some (.int (ii (D (28 + (m * 8 + c)))))), σ) := by
  obtain ⟨qP, qL, qD, ⟨hF, hM, hC, hPi, hr4, hr5, hr6, hr7, hr8, hv4, hv5, hv6, hv7, hv8⟩, ⟨dv0, dv1, dv2, dv3, dr4, dr5, dr6, dr7, dw4, dw5, dw6, dw7⟩, ⟨lr0, lr1, lr2, lv3, lw0⟩, ⟨⟨hw1, hw2, hw3, hw4, hw5⟩, hwm, hwc⟩, ⟨wd1, wd2, wd3⟩, wl, hap1, hap2, hap3⟩ := L
  simp (disch := first | omega | exact b2_01 _ | exact ii0_01 | exact ii1_01 | (simp (disch := omega) only [qP, qL, qD, hF, hM, hC, hPi, hr4, hr5, hr6, hr7, hr8, dv0, dv1, dv2, dv3, dr4, dr5, dr6, dr7, lr0, lr1, lr2, lv3, dr_some, Option.isSome_some, gR_wI, Nat.add_mul_mod_self_left, Nat.reduceMod, ak20, ak21, ak22, ak23, ak24, ak25, ak26, ak27, ak28, ak29, ak30, ak31, ak32, ak33, ak34, ak35, ak36, an20, an21, an22, an23, an24, an25, an26, an27, an28, an29, an30, an31, an32, an33, an34, an35, an36, an37, an38, ne_eq, inR_ii, decide_eq_true_eq, lit_ii, of_ii, ii_eq, ii_lt, ii_le]; first | done | omega)) only [e_Days_timesHeard, b_Days_timesHeard_0, b_Days_timesHeard_13, s_at, dw7 (m * 8 + c), qP, qL, qD, hF, hM, hC, hPi, hr4, hr5, hr6, hr7, hr8, dv0, dv1, dv2, dv3, dr4, dr5, dr6, dr7, lr0, lr1, lr2, lv3, dr_some, Option.isSome_some, gR_wI, Nat.add_mul_mod_self_left, Nat.reduceMod, ak20, ak21, ak22, ak23, ak24, ak25, ak26, ak27, ak28, ak29, ak30, ak31, ak32, ak33, ak34, ak35, ak36, an20, an21, an22, an23, an24, an25, an26, an27, an28, an29, an30, an31, an32, an33, an34, an35, an36, an37, an38, ↓reduceIte, bk_int, bk_void, bk_long, bkN_int, bkN_void, bkN_long, Nat.reduceAdd, Nat.reduceMul, Nat.reduceSub, Nat.reduceLT, Nat.reduceLeDiff, if_true, if_false, not_true_eq_false, not_false_eq_true, Bool.true_eq_false, Bool.false_eq_true, b2_eq0, Nat.add_zero, Nat.zero_add, Nat.not_lt_zero, Nat.zero_le, ite_true, ite_false, decide_true, decide_false, lit_ii, of_ii, le_T, le_F, lt_T, lt_F, eq_T, eq_F, ii_add, ii_mul, ii_nat, ii_le, ii_lt, ii_eq, inR_ii, ii_add0]
theorem s_tellWords {d l : Nat} {w : LW} {σ : HP} {x y z : Int32} (A : LwA σ l w) : callF (d + 2) m_Law_tellWords [.ref (4 + 64 * l), .int x, .int y, .int z] σ = some (.inl none, wI (wI (wI σ (23 + 64 * (l + 3)) 0 x) (23 + 64 * (l + 3)) 1 y) (23 + 64 * (l + 3)) 5 z) := by
  obtain ⟨lr0, lr1, lr2, lv3, lw0⟩ := A
  simp (disch := first | omega | exact b2_01 _ | exact ii0_01 | exact ii1_01 | (simp (disch := omega) only [lr0, lr1, lr2, dr_some, Option.isSome_some, gR_wI, Nat.add_mul_mod_self_left, Nat.reduceMod, ak20, ak21, ak22, ak23, ak24, ak25, ak26, ak27, ak28, ak29, ak30, ak31, ak32, ak33, ak34, ak35, ak36, an20, an21, an22, an23, an24, an25, an26, an27, an28, an29, an30, an31, an32, an33, an34, an35, an36, an37, an38, ne_eq, inR_ii, decide_eq_true_eq, lit_ii, of_ii, ii_eq, ii_lt, ii_le]; first | done | omega)) only [lr0, lr1, lr2, e_Law_tellWords, b_Law_tellWords_0, b_Law_tellWords_9, b_Law_tellWords_18, b_Law_tellWords_27, s_put, dr_some, Option.isSome_some, gR_wI, Nat.add_mul_mod_self_left, Nat.reduceMod, ak20, ak21, ak22, ak23, ak24, ak25, ak26, ak27, ak28, ak29, ak30, ak31, ak32, ak33, ak34, ak35, ak36, an20, an21, an22, an23, an24, an25, an26, an27, an28, an29, an30, an31, an32, an33, an34, an35, an36, an37, an38, ↓reduceIte, bk_int, bk_void, bk_long, bkN_int, bkN_void, bkN_long, Nat.reduceAdd, Nat.reduceMul, Nat.reduceSub, Nat.reduceLT, Nat.reduceLeDiff, if_true, if_false, not_true_eq_false, not_false_eq_true, Bool.true_eq_false, Bool.false_eq_true, b2_eq0, Nat.add_zero, Nat.zero_add, Nat.not_lt_zero, Nat.zero_le, ite_true, ite_false, decide_true, decide_false, lit_ii, of_ii, le_T, le_F, lt_T, lt_F, eq_T, eq_F, ii_add, ii_mul, ii_nat, ii_le, ii_lt, ii_eq, inR_ii, ii_add0]
theorem s_tellMan {d l : Nat} {w : LW} {σ : HP} {x y z : Int32} (A : LwA σ l w) : callF (d + 2) m_Law_tellMan [.ref (4 + 64 * l), .int x, .int y, .int z] σ = some (.inl none, wI (wI (wI σ (23 + 64 * (l + 3)) 2 x) (23 + 64 * (l + 3)) 3 y) (23 + 64 * (l + 3)) 4 z) := by
  obtain ⟨lr0, lr1, lr2, lv3, lw0⟩ := A
  simp (disch := first | omega | exact b2_01 _ | exact ii0_01 | exact ii1_01 | (simp (disch := omega) only [lr0, lr1, lr2, dr_some, Option.isSome_some, gR_wI, Nat.add_mul_mod_self_left, Nat.reduceMod, ak20, ak21, ak22, ak23, ak24, ak25, ak26, ak27, ak28, ak29, ak30, ak31, ak32, ak33, ak34, ak35, ak36, an20, an21, an22, an23, an24, an25, an26, an27, an28, an29, an30, an31, an32, an33, an34, an35, an36, an37, an38, ne_eq, inR_ii, decide_eq_true_eq, lit_ii, of_ii, ii_eq, ii_lt, ii_le]; first | done | omega)) only [lr0, lr1, lr2, e_Law_tellMan, b_Law_tellMan_0, b_Law_tellMan_9, b_Law_tellMan_18, b_Law_tellMan_27, s_put, dr_some, Option.isSome_some, gR_wI, Nat.add_mul_mod_self_left, Nat.reduceMod, ak20, ak21, ak22, ak23, ak24, ak25, ak26, ak27, ak28, ak29, ak30, ak31, ak32, ak33, ak34, ak35, ak36, an20, an21, an22, an23, an24, an25, an26, an27, an28, an29, an30, an31, an32, an33, an34, an35, an36, an37, an38, ↓reduceIte, bk_int, bk_void, bk_long, bkN_int, bkN_void, bkN_long, Nat.reduceAdd, Nat.reduceMul, Nat.reduceSub, Nat.reduceLT, Nat.reduceLeDiff, if_true, if_false, not_true_eq_false, not_false_eq_true, Bool.true_eq_false, Bool.false_eq_true, b2_eq0, Nat.add_zero, Nat.zero_add, Nat.not_lt_zero, Nat.zero_le, ite_true, ite_false, decide_true, decide_false, lit_ii, of_ii, le_T, le_F, lt_T, lt_F, eq_T, eq_F, ii_add, ii_mul, ii_nat, ii_le, ii_lt, ii_eq, inR_ii, ii_add0]
theorem s_tellWhere {d l : Nat} {w : LW} {σ : HP} {x y z : Int32} (A : LwA σ l w) : callF (d + 2) m_Law_tellWhere [.ref (4 + 64 * l), .int x, .int y, .int z] σ = some (.inl none, wI (wI (wI σ (23 + 64 * (l + 3)) 6 x) (23 + 64 * (l + 3)) 7 y) (23 + 64 * (l + 3)) 8 z) := by
  obtain ⟨lr0, lr1, lr2, lv3, lw0⟩ := A
  simp (disch := first | omega | exact b2_01 _ | exact ii0_01 | exact ii1_01 | (simp (disch := omega) only [lr0, lr1, lr2, dr_some, Option.isSome_some, gR_wI, Nat.add_mul_mod_self_left, Nat.reduceMod, ak20, ak21, ak22, ak23, ak24, ak25, ak26, ak27, ak28, ak29, ak30, ak31, ak32, ak33, ak34, ak35, ak36, an20, an21, an22, an23, an24, an25, an26, an27, an28, an29, an30, an31, an32, an33, an34, an35, an36, an37, an38, ne_eq, inR_ii, decide_eq_true_eq, lit_ii, of_ii, ii_eq, ii_lt, ii_le]; first | done | omega)) only [lr0, lr1, lr2, e_Law_tellWhere, b_Law_tellWhere_0, b_Law_tellWhere_10, b_Law_tellWhere_20, b_Law_tellWhere_30, s_put, dr_some, Option.isSome_some, gR_wI, Nat.add_mul_mod_self_left, Nat.reduceMod, ak20, ak21, ak22, ak23, ak24, ak25, ak26, ak27, ak28, ak29, ak30, ak31, ak32, ak33, ak34, ak35, ak36, an20, an21, an22, an23, an24, an25, an26, an27, an28, an29, an30, an31, an32, an33, an34, an35, an36, an37, an38, ↓reduceIte, bk_int, bk_void, bk_long, bkN_int, bkN_void, bkN_long, Nat.reduceAdd, Nat.reduceMul, Nat.reduceSub, Nat.reduceLT, Nat.reduceLeDiff, if_true, if_false, not_true_eq_false, not_false_eq_true, Bool.true_eq_false, Bool.false_eq_true, b2_eq0, Nat.add_zero, Nat.zero_add, Nat.not_lt_zero, Nat.zero_le, ite_true, ite_false, decide_true, decide_false, lit_ii, of_ii, le_T, le_F, lt_T, lt_F, eq_T, eq_F, ii_add, ii_mul, ii_nat, ii_le, ii_lt, ii_eq, inR_ii, ii_add0]
def nine (F : Nat → Nat) (σ : HP) (a : Nat) : HP := wI (wI (wI (wI (wI (wI (wI (wI (wI σ a 0 (ii (F 0))) a 1 (ii (F 1))) a 5 (ii (F 5))) a 2 (ii (F 2))) a 3 (ii (F 3))) a 4 (ii (F 4))) a 6 (ii (F 6))) a 7 (ii (F 7))) a 8 (ii (F 8))
theorem nine_fs {F : Nat → Nat} {σ : HP} {a : Nat} {S : Nat → Prop} (h : S a) : Fs S σ (nine F σ a) :=
  Fs.w (Fs.w (Fs.w (Fs.w (Fs.w (Fs.w (Fs.w (Fs.w (Fs.w Fs.rf h) h) h) h) h) h) h) h) h
theorem nine_at {F : Nat → Nat} {σ : HP} {a : Nat} : ∀ i, i < 9 → gI (nine F σ a) a i = ii (F i) := by
  intro i hi
  unfold nine
  simp only [gI_row]
  match i, hi with
  | 0, _ => simp
  | 1, _ => simp
  | 2, _ => simp
  | 3, _ => simp
  | 4, _ => simp
  | 5, _ => simp
  | 6, _ => simp
  | 7, _ => simp
  | 8, _ => simp
theorem s_swellOf {m c d t h l s : Nat} {H : HH} {w : LW} {D : Nat → Nat} {σ : HP} (L : CL σ t h l s H w D) (hk : m < hm H) (hc : c < hc H) : ∃ σ', callF (d + 4) m_Lift_swellOf [.ref (5 + 64 * t), .int (ii m), .int (ii c)] σ = some (.inl (some (.int (ii (swell H w D m c)))), σ') ∧ Fs (Sl l) σ σ' := by
  have F1 : Fs (Sl l) σ (nine (fct H D m c) σ (23 + 64 * (l + 3))) := nine_fs (Or.inr rfl)
  have L1 := L.sl F1
  have hm7 : m < 7 := by have := L.2.2.2.2.2.2.1.1.1; omega
  have hc8 : c < 8 := by have := L.2.2.2.2.2.2.1.1.2.1; omega
  obtain ⟨σ', e, F2⟩ := s_swellByFacts (d := d + 1) L1.2.2.2.2.2.1 L.2.2.2.2.2.2.2.2.1 nine_at
  refine ⟨σ', ?_, F1.tr (F2.mono fun a z => Or.inl z)⟩
  have L2 : ∀ x y z, CL (wI (wI (wI σ (23 + 64 * (l + 3)) 0 x) (23 + 64 * (l + 3)) 1 y) (23 + 64 * (l + 3)) 5 z) t h l s H w D := fun x y z => L.sl (Fs.w (Fs.w (Fs.w Fs.rf (Or.inr rfl)) (Or.inr rfl)) (Or.inr rfl))
  have L3 : ∀ x y z x' y' z', CL (wI (wI (wI (wI (wI (wI σ (23 + 64 * (l + 3)) 0 x) (23 + 64 * (l + 3)) 1 y) (23 + 64 * (l + 3)) 5 z) (23 + 64 * (l + 3)) 2 x') (23 + 64 * (l + 3)) 3 y') (23 + 64 * (l + 3)) 4 z') t h l s H w D := fun x y z x' y' z' => L.sl (Fs.w (Fs.w (Fs.w (Fs.w (Fs.w (Fs.w Fs.rf (Or.inr rfl)) (Or.inr rfl)) (Or.inr rfl)) (Or.inr rfl)) (Or.inr rfl)) (Or.inr rfl))
  have h1 := s_timesHeard (d := d + 1) L hm7 hc8
  have h2 := fun x y z => s_tellWords (d := d + 1) (x := x) (y := y) (z := z) L.2.2.2.2.2.1
  have h3 := fun x y z x' y' z' => s_tellMan (d := d + 1) (x := x') (y := y') (z := z') (L2 x y z).2.2.2.2.2.1
  have h4 := fun x y z x' y' z' x'' y'' z'' => s_tellWhere (d := d + 1) (x := x'') (y := y'') (z := z'') (L3 x y z x' y' z').2.2.2.2.2.1
  have h5 := fun x y z x' y' z' => s_placeOf (d := d) (L3 x y z x' y' z') hm7
  unfold nine at e
  simp only [fct, Nat.reduceEqDiff, if_true, if_false, reduceIte] at e
  obtain ⟨qP, qL, qD, ⟨hF, hM, hC, hPi, hr4, hr5, hr6, hr7, hr8, hv4, hv5, hv6, hv7, hv8⟩, ⟨dv0, dv1, dv2, dv3, dr4, dr5, dr6, dr7, dw4, dw5, dw6, dw7⟩, ⟨lr0, lr1, lr2, lv3, lw0⟩, ⟨⟨hw1, hw2, hw3, hw4, hw5⟩, hwm, hwc⟩, ⟨wd1, wd2, wd3⟩, wl, hap1, hap2, hap3⟩ := L
  have g1 : ∀ (a : Nat) (j j' : Nat) (v : Int32) (τ : HP), a ≠ 23 + 64 * (l + 3) → gI (wI τ (23 + 64 * (l + 3)) j' v) a j = gI τ a j := fun a j j' v τ hne => gI_ne hne
  simp (disch := first | omega | exact b2_01 _ | exact ii0_01 | exact ii1_01 | (simp (disch := omega) only [qP, qL, qD, hF, hM, hC, hPi, hr4, hr5, hr6, hr7, hr8, dv0, dv1, dv2, dv3, dr4, dr5, dr6, dr7, lr0, lr1, lr2, lv3, dr_some, Option.isSome_some, gR_wI, Nat.add_mul_mod_self_left, Nat.reduceMod, ak20, ak21, ak22, ak23, ak24, ak25, ak26, ak27, ak28, ak29, ak30, ak31, ak32, ak33, ak34, ak35, ak36, an20, an21, an22, an23, an24, an25, an26, an27, an28, an29, an30, an31, an32, an33, an34, an35, an36, an37, an38, ne_eq, inR_ii, decide_eq_true_eq, lit_ii, of_ii, ii_eq, ii_lt, ii_le]; first | done | omega)) only [e_Lift_swellOf, b_Lift_swellOf_0, b_Lift_swellOf_15, b_Lift_swellOf_26, b_Lift_swellOf_35, b_Lift_swellOf_38, b_Lift_swellOf_53, b_Lift_swellOf_64, b_Lift_swellOf_75, b_Lift_swellOf_78, b_Lift_swellOf_93, b_Lift_swellOf_98, b_Lift_swellOf_102, b_Lift_swellOf_109, s_at, hv7 c hc, hv8 c hc, hv6 m hk, hv5 m hk, dw5 m hm7, dw6 m hm7, h1, h2, h3, h4, h5, g1, swell, e, qP, qL, qD, hF, hM, hC, hPi, hr4, hr5, hr6, hr7, hr8, dv0, dv1, dv2, dv3, dr4, dr5, dr6, dr7, lr0, lr1, lr2, lv3, dr_some, Option.isSome_some, gR_wI, Nat.add_mul_mod_self_left, Nat.reduceMod, ak20, ak21, ak22, ak23, ak24, ak25, ak26, ak27, ak28, ak29, ak30, ak31, ak32, ak33, ak34, ak35, ak36, an20, an21, an22, an23, an24, an25, an26, an27, an28, an29, an30, an31, an32, an33, an34, an35, an36, an37, an38, ↓reduceIte, bk_int, bk_void, bk_long, bkN_int, bkN_void, bkN_long, Nat.reduceAdd, Nat.reduceMul, Nat.reduceSub, Nat.reduceLT, Nat.reduceLeDiff, if_true, if_false, not_true_eq_false, not_false_eq_true, Bool.true_eq_false, Bool.false_eq_true, b2_eq0, Nat.add_zero, Nat.zero_add, Nat.not_lt_zero, Nat.zero_le, ite_true, ite_false, decide_true, decide_false, lit_ii, of_ii, le_T, le_F, lt_T, lt_F, eq_T, eq_F, ii_add, ii_mul, ii_nat, ii_le, ii_lt, ii_eq, inR_ii, ii_add0]
