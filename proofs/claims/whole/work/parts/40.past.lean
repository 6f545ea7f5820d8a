/-! THE CLASS: what is kept -/
theorem Fx.N {S : Nat → Prop} {σ σ' : HP} (h : Fx S σ σ') : hN σ ≤ hN σ' := h.2.1
theorem hS_cI {σ : HP} {a p b q n : Nat} : hS (cI σ a p b q n) = hS σ := rfl
theorem s_newDays {d n : Nat} {σ : HP} (hn : hN σ = n + 1) : ∃ σ', callF (d + 1) m_Days_init [.ref (1 + 64 * n)] σ = some (.inl none, σ') ∧ DR σ' n ∧ hN σ' = n + 5 ∧ hS σ' = hS σ + 77 ∧ Fx (fun a => a = 1 + 64 * n) σ σ' ∧ DA σ' n (fun _ => 0) := by
  rw [e_Days_init, b_Days_init_0 (by omega)]
  simp only [hn]
  refine ⟨_, rfl, ?_, ?_, ?_, ?_, ?_⟩
  · refine ⟨?_, ?_, ?_, ?_⟩ <;> simp (disch := first | omega | (simp only [hN_hA, hN_wR, hN_wI, hn]; omega)) only [gR_hAn, gR_nj, gR_at, gR_wI, hN_hA, hN_wR, hN_wI, hn]
  · show hN σ + 1 + 1 + 1 + 1 = _
    omega
  · show hS σ + 7 + 7 + 7 + 56 = _
    omega
  · exact Fx.wr (Fx.ha (Fx.wr (Fx.ha (Fx.wr (Fx.ha (Fx.wr (Fx.ha (Fx.wi (Fx.wi (Fx.wi (Fx.wi Fx.rf rfl) rfl) rfl) rfl)) rfl)) rfl)) rfl)) rfl
  · have hB : Bof (fun _ => 0) = 0 := by decide
    refine ⟨?_, ?_, ?_, ?_, ?_, ?_, ?_, ?_, fun m hm => ?_, fun m hm => ?_, fun m hm => ?_, fun m hm => ?_⟩
    · simp (disch := first | omega | (simp only [hN_hA, hN_wR, hN_wI, hn]; omega)) only [gI_hAn, gI_wR, gI_nj, gI_at, hN_hA, hN_wR, hN_wI, hn]; rfl
    · simp (disch := first | omega | (simp only [hN_hA, hN_wR, hN_wI, hn]; omega)) only [gI_hAn, gI_wR, gI_nj, gI_at, hN_hA, hN_wR, hN_wI, hn]; rfl
    · simp (disch := first | omega | (simp only [hN_hA, hN_wR, hN_wI, hn]; omega)) only [gI_hAn, gI_wR, gI_nj, gI_at, hN_hA, hN_wR, hN_wI, hn]; rw [hB]; rfl
    · simp (disch := first | omega | (simp only [hN_hA, hN_wR, hN_wI, hn]; omega)) only [gI_hAn, gI_wR, gI_nj, gI_at, hN_hA, hN_wR, hN_wI, hn]; rfl
    · simp (disch := first | omega | (simp only [hN_hA, hN_wR, hN_wI, hn]; omega)) only [gR_hAn, gR_nj, gR_at, gR_wI, hN_hA, hN_wR, hN_wI, hn]
    · simp (disch := first | omega | (simp only [hN_hA, hN_wR, hN_wI, hn]; omega)) only [gR_hAn, gR_nj, gR_at, gR_wI, hN_hA, hN_wR, hN_wI, hn]
    · simp (disch := first | omega | (simp only [hN_hA, hN_wR, hN_wI, hn]; omega)) only [gR_hAn, gR_nj, gR_at, gR_wI, hN_hA, hN_wR, hN_wI, hn]
    · simp (disch := first | omega | (simp only [hN_hA, hN_wR, hN_wI, hn]; omega)) only [gR_hAn, gR_nj, gR_at, gR_wI, hN_hA, hN_wR, hN_wI, hn]
    · simp (disch := first | omega | (simp only [hN_hA, hN_wR, hN_wI, hn]; omega)) only [gI_hAn, gI_wR]
      rw [gI_hA, if_pos (by simp only [hN_hA, hN_wR, hN_wI, hn])]
      rfl
    · simp (disch := first | omega | (simp only [hN_hA, hN_wR, hN_wI, hn]; omega)) only [gI_hAn, gI_wR]
      rw [gI_hA, if_pos (by simp only [hN_hA, hN_wR, hN_wI, hn])]
      rfl
    · simp (disch := first | omega | (simp only [hN_hA, hN_wR, hN_wI, hn]; omega)) only [gI_hAn, gI_wR]
      rw [gI_hA, if_pos (by simp only [hN_hA, hN_wR, hN_wI, hn])]
      rfl
    · simp (disch := first | omega | (simp only [hN_hA, hN_wR, hN_wI, hn]; omega)) only [gI_hAn, gI_wR]
      rw [gI_hA, if_pos (by simp only [hN_hA, hN_wR, hN_wI, hn])]
      rfl
abbrev DN : Type := Nat → Nat
abbrev IM : Type := DN × Nat × (Nat → DN)
/-- a row of kept days: the first n are these -/
def KA (σ : HP) (a n : Nat) (P : Nat → DN) : Prop := (∀ i, i < n → ∃ s, gR σ a i = some (1 + 64 * s) ∧ 88 ≤ s ∧ s + 4 < hN σ ∧ DA σ s (P i)) ∧ ∀ i, i < 16 → gR σ a i = none ∨ ∃ s, gR σ a i = some (1 + 64 * s)
theorem KA.fx {S : Nat → Prop} {σ σ' : HP} {a n : Nat} {P : Nat → DN} (A : KA σ a n P) (F : Fx S σ σ') (ha : a / 64 < hN σ) (q : ¬ S a) (q2 : ∀ x, 88 ≤ x / 64 → ¬ S x) : KA σ' a n P := by
  refine ⟨fun i hi => ?_, fun i hi => ?_⟩
  · obtain ⟨s, h1, h2, h3, h4⟩ := A.1 i hi
    exact ⟨s, (F.R ha q).trans h1, h2, Nat.lt_of_lt_of_le h3 F.N, h4.fx F h3 (fun x y z => q2 x (by omega))⟩
  · rcases A.2 i hi with h | ⟨s, h⟩
    · exact Or.inl ((F.R ha q).trans h)
    · exact Or.inr ⟨s, (F.R ha q).trans h⟩
def IMA (σ : HP) (g : Nat) (I : IM) : Prop := gR σ (3 + 64 * g) 0 = some (1 + 64 * (g + 1)) ∧ gR σ (3 + 64 * g) 1 = some (37 + 64 * (g + 6)) ∧ gI σ (3 + 64 * g) 2 = ii I.2.1 ∧ 88 ≤ g ∧ g + 6 < hN σ ∧ DA σ (g + 1) I.1 ∧ KA σ (37 + 64 * (g + 6)) I.2.1 I.2.2
theorem IMA.fx {S : Nat → Prop} {σ σ' : HP} {g : Nat} {I : IM} (A : IMA σ g I) (F : Fx S σ σ') (q2 : ∀ x, 88 ≤ x / 64 → ¬ S x) : IMA σ' g I := by
  obtain ⟨h1, h2, h3, h4, h5, h6, h7⟩ := A
  exact ⟨(F.R (by omega) (q2 _ (by omega))).trans h1, (F.R (by omega) (q2 _ (by omega))).trans h2, (F.I (by omega) (q2 _ (by omega))).trans h3, h4, Nat.lt_of_lt_of_le h5 F.N, h6.fx F (by omega) (fun x y z => q2 x (by omega)), h7.fx F (by omega) (q2 _ (by omega)) q2⟩
abbrev PW : Type := Nat × (Nat → DN)
abbrev IMS : Type := Nat × (Nat → IM)
def PaA (σ : HP) (pw : PW) (im : IMS) : Prop := gR σ 2502 0 = some 2597 ∧ gR σ 2502 2 = some 2662 ∧ gI σ 2502 1 = ii pw.1 ∧ gI σ 2502 3 = ii im.1 ∧ pw.1 ≤ 16 ∧ im.1 ≤ 3 ∧ KA σ 2597 pw.1 pw.2 ∧ ∀ i, i < im.1 → ∃ g, gR σ 2662 i = some (3 + 64 * g) ∧ IMA σ g (im.2 i)
theorem PaA.fx {S : Nat → Prop} {σ σ' : HP} {pw : PW} {im : IMS} (A : PaA σ pw im) (F : Fx S σ σ') (hn : 88 ≤ hN σ) (q0 : ¬ S 2502) (q1 : ¬ S 2597) (q3 : ¬ S 2662) (q2 : ∀ x, 88 ≤ x / 64 → ¬ S x) : PaA σ' pw im := by
  obtain ⟨h1, h2, h3, h4, h5, h6, h7, h8⟩ := A
  refine ⟨(F.R (by omega) q0).trans h1, (F.R (by omega) q0).trans h2, (F.I (by omega) q0).trans h3, (F.I (by omega) q0).trans h4, h5, h6, h7.fx F (by omega) q1 q2, fun i hi => ?_⟩
  obtain ⟨g, g1, g2⟩ := h8 i hi
  exact ⟨g, (F.R (by omega) q3).trans g1, g2.fx F q2⟩
theorem s_isFull {d n : Nat} {σ : HP} (h : gI σ 2502 1 = ii n) (hn : n ≤ 16) : callF (d + 1) m_Past_isFull [.ref 2502] σ = some (.inl (some (.int (b2 (decide (n = 16))))), σ) := by
  by_cases q : n = 16
  · simp (disch := first | omega | exact b2_01 _ | exact ii0_01 | exact ii1_01 | (simp (disch := omega) only [h, dr_some, Option.isSome_some, gR_wI, Nat.add_mul_mod_self_left, Nat.reduceMod, ak20, ak21, ak22, ak23, ak24, ak25, ak26, ak27, ak28, ak29, ak30, ak31, ak32, ak33, ak34, ak35, ak36, an20, an21, an22, an23, an24, an25, an26, an27, an28, an29, an30, an31, an32, an33, an34, an35, an36, an37, an38, ne_eq, inR_ii, decide_eq_true_eq, lit_ii, of_ii, ii_eq, ii_lt, ii_le]; first | done | omega)) only [h, e_Past_isFull, b_Past_isFull_0, b_Past_isFull_9, b_Past_isFull_13, b_Past_isFull_14, q, dr_some, Option.isSome_some, gR_wI, Nat.add_mul_mod_self_left, Nat.reduceMod, ak20, ak21, ak22, ak23, ak24, ak25, ak26, ak27, ak28, ak29, ak30, ak31, ak32, ak33, ak34, ak35, ak36, an20, an21, an22, an23, an24, an25, an26, an27, an28, an29, an30, an31, an32, an33, an34, an35, an36, an37, an38, ↓reduceIte, bk_int, bk_void, bk_long, bkN_int, bkN_void, bkN_long, Nat.reduceAdd, Nat.reduceMul, Nat.reduceSub, Nat.reduceLT, Nat.reduceLeDiff, if_true, if_false, not_true_eq_false, not_false_eq_true, Bool.true_eq_false, Bool.false_eq_true, b2_eq0, Nat.add_zero, Nat.zero_add, Nat.not_lt_zero, Nat.zero_le, ite_true, ite_false, decide_true, decide_false, lit_ii, of_ii, le_T, le_F, lt_T, lt_F, eq_T, eq_F, ii_add, ii_mul, ii_nat, ii_le, ii_lt, ii_eq, inR_ii, ii_add0]
    rfl
  · simp (disch := first | omega | exact b2_01 _ | exact ii0_01 | exact ii1_01 | (simp (disch := omega) only [h, dr_some, Option.isSome_some, gR_wI, Nat.add_mul_mod_self_left, Nat.reduceMod, ak20, ak21, ak22, ak23, ak24, ak25, ak26, ak27, ak28, ak29, ak30, ak31, ak32, ak33, ak34, ak35, ak36, an20, an21, an22, an23, an24, an25, an26, an27, an28, an29, an30, an31, an32, an33, an34, an35, an36, an37, an38, ne_eq, inR_ii, decide_eq_true_eq, lit_ii, of_ii, ii_eq, ii_lt, ii_le]; first | done | omega)) only [h, e_Past_isFull, b_Past_isFull_0, b_Past_isFull_9, b_Past_isFull_13, b_Past_isFull_14, q, dr_some, Option.isSome_some, gR_wI, Nat.add_mul_mod_self_left, Nat.reduceMod, ak20, ak21, ak22, ak23, ak24, ak25, ak26, ak27, ak28, ak29, ak30, ak31, ak32, ak33, ak34, ak35, ak36, an20, an21, an22, an23, an24, an25, an26, an27, an28, an29, an30, an31, an32, an33, an34, an35, an36, an37, an38, ↓reduceIte, bk_int, bk_void, bk_long, bkN_int, bkN_void, bkN_long, Nat.reduceAdd, Nat.reduceMul, Nat.reduceSub, Nat.reduceLT, Nat.reduceLeDiff, if_true, if_false, not_true_eq_false, not_false_eq_true, Bool.true_eq_false, Bool.false_eq_true, b2_eq0, Nat.add_zero, Nat.zero_add, Nat.not_lt_zero, Nat.zero_le, ite_true, ite_false, decide_true, decide_false, lit_ii, of_ii, le_T, le_F, lt_T, lt_F, eq_T, eq_F, ii_add, ii_mul, ii_nat, ii_le, ii_lt, ii_eq, inR_ii, ii_add0]
    rfl
theorem s_undo0 {d a : Nat} {σ : HP} (h : gI σ 2502 1 = ii 0) : callF (d + 1) m_Past_undoWork [.ref 2502, .ref a] σ = some (.inl (some (.int (-ii 1))), σ) := by
  simp (disch := first | omega | exact b2_01 _ | exact ii0_01 | exact ii1_01 | (simp (disch := omega) only [h, dr_some, Option.isSome_some, gR_wI, Nat.add_mul_mod_self_left, Nat.reduceMod, ak20, ak21, ak22, ak23, ak24, ak25, ak26, ak27, ak28, ak29, ak30, ak31, ak32, ak33, ak34, ak35, ak36, an20, an21, an22, an23, an24, an25, an26, an27, an28, an29, an30, an31, an32, an33, an34, an35, an36, an37, an38, ne_eq, inR_ii, decide_eq_true_eq, lit_ii, of_ii, ii_eq, ii_lt, ii_le]; first | done | omega)) only [h, b_Past_undoWork_0, b_Past_undoWork_19, e_Past_undoWork, dr_some, Option.isSome_some, gR_wI, Nat.add_mul_mod_self_left, Nat.reduceMod, ak20, ak21, ak22, ak23, ak24, ak25, ak26, ak27, ak28, ak29, ak30, ak31, ak32, ak33, ak34, ak35, ak36, an20, an21, an22, an23, an24, an25, an26, an27, an28, an29, an30, an31, an32, an33, an34, an35, an36, an37, an38, ↓reduceIte, bk_int, bk_void, bk_long, bkN_int, bkN_void, bkN_long, Nat.reduceAdd, Nat.reduceMul, Nat.reduceSub, Nat.reduceLT, Nat.reduceLeDiff, if_true, if_false, not_true_eq_false, not_false_eq_true, Bool.true_eq_false, Bool.false_eq_true, b2_eq0, Nat.add_zero, Nat.zero_add, Nat.not_lt_zero, Nat.zero_le, ite_true, ite_false, decide_true, decide_false, lit_ii, of_ii, le_T, le_F, lt_T, lt_F, eq_T, eq_F, ii_add, ii_mul, ii_nat, ii_le, ii_lt, ii_eq, inR_ii, ii_add0]
theorem s_undo {d n k s : Nat} {D : DN} {σ : HP} (h1 : gI σ 2502 1 = ii n) (h0 : 0 < n) (hn : n ≤ 16) (h2 : gR σ 2502 0 = some 2597) (h3 : gR σ 2597 (n - 1) = some (1 + 64 * k)) (A : DA σ k D) (R : DR σ s) (hs : s + 4 < k ∨ k + 4 < s) (hk : 39 < k) (hs2 : s + 4 < 39) : ∃ σ', callF (d + 3) m_Past_undoWork [.ref 2502, .ref (1 + 64 * s)] σ = some (.inl (some (.int (ii (n - 1)))), σ') ∧ DA σ' s D ∧ gI σ' 2502 1 = ii (n - 1) ∧ gI σ' 2502 3 = gI σ 2502 3 ∧ Fs (fun a => a = 2502 ∨ (s ≤ a / 64 ∧ a / 64 ≤ s + 4)) σ σ' := by
  have F0 : Fs (fun a => a = 2502) σ (wI σ 2502 1 (ii (n - 1))) := Fs.w Fs.rf rfl
  have A0 : DA (wI σ 2502 1 (ii (n - 1))) k D := A.fs F0 (fun a x y z => by omega)
  have R0 : DR (wI σ 2502 1 (ii (n - 1))) s := R
  obtain ⟨σ', e1, A1, F1⟩ := s_takeFrom (d := d) A0 R0 hs
  have v1 : gI σ' 2502 1 = ii (n - 1) := by rw [F1.I (by omega), gI_at]
  have v3 : gI σ' 2502 3 = gI σ 2502 3 := by rw [F1.I (by omega), gI_nj (by decide)]
  refine ⟨σ', ?_, A1, v1, v3, (F0.mono (fun a z => Or.inl z)).tr (F1.mono (fun a z => Or.inr z))⟩
  have f1 := F1.R
  simp (disch := first | omega | exact b2_01 _ | exact ii0_01 | exact ii1_01 | (simp (disch := omega) only [h2, f1, ak37, ak38, h1, ii_sub, gI_at, true_or, or_true, Nat.reduceEqDiff, or_false, eq_self, not_false_eq_true, decide_true, dr_some, Option.isSome_some, gR_wI, Nat.add_mul_mod_self_left, Nat.reduceMod, ak20, ak21, ak22, ak23, ak24, ak25, ak26, ak27, ak28, ak29, ak30, ak31, ak32, ak33, ak34, ak35, ak36, an20, an21, an22, an23, an24, an25, an26, an27, an28, an29, an30, an31, an32, an33, an34, an35, an36, an37, an38, ne_eq, inR_ii, decide_eq_true_eq, lit_ii, of_ii, ii_eq, ii_lt, ii_le]; first | done | omega)) only [h2, f1, ak37, ak38, h1, ii_sub, gI_at, true_or, or_true, Nat.reduceEqDiff, or_false, eq_self, not_false_eq_true, decide_true, e_Past_undoWork, b_Past_undoWork_0, b_Past_undoWork_7, b_Past_undoWork_19, b_Past_undoWork_21, b_Past_undoWork_45, b_Past_undoWork_50, h3, rv_some, reduceCtorEq, e1, v1, dr_some, Option.isSome_some, gR_wI, Nat.add_mul_mod_self_left, Nat.reduceMod, ak20, ak21, ak22, ak23, ak24, ak25, ak26, ak27, ak28, ak29, ak30, ak31, ak32, ak33, ak34, ak35, ak36, an20, an21, an22, an23, an24, an25, an26, an27, an28, an29, an30, an31, an32, an33, an34, an35, an36, an37, an38, ↓reduceIte, bk_int, bk_void, bk_long, bkN_int, bkN_void, bkN_long, Nat.reduceAdd, Nat.reduceMul, Nat.reduceSub, Nat.reduceLT, Nat.reduceLeDiff, if_true, if_false, not_true_eq_false, not_false_eq_true, Bool.true_eq_false, Bool.false_eq_true, b2_eq0, Nat.add_zero, Nat.zero_add, Nat.not_lt_zero, Nat.zero_le, ite_true, ite_false, decide_true, decide_false, lit_ii, of_ii, le_T, le_F, lt_T, lt_F, eq_T, eq_F, ii_add, ii_mul, ii_nat, ii_le, ii_lt, ii_eq, inR_ii, ii_add0]
theorem s_forgetAll {d : Nat} {σ : HP} : callF (d + 1) m_Past_forgetAll [.ref 2502] σ = some (.inl none, wI (wI σ 2502 1 (ii 0)) 2502 3 (ii 0)) := by
  rw [e_Past_forgetAll, b_Past_forgetAll_0 (by decide)]
  rfl
/-- references changed in one row alone -/
def Fr (b : Nat) (σ σ' : HP) : Prop := σ'.1 = σ.1 ∧ σ'.2.1 = σ.2.1 ∧ σ'.2.2.1 = σ.2.2.1 ∧ ∀ a j, a ≠ b → gR σ' a j = gR σ a j
theorem Fr.rf {b : Nat} {σ : HP} : Fr b σ σ := ⟨rfl, rfl, rfl, fun _ _ _ => rfl⟩
theorem Fr.w {b j : Nat} {v : Option Nat} {σ σ' : HP} (h : Fr b σ σ') : Fr b σ (wR σ' b j v) :=
  ⟨h.1, h.2.1, h.2.2.1, fun a k q => (gR_ne q).trans (h.2.2.2 a k q)⟩
theorem Fr.I {b : Nat} {σ σ' : HP} (h : Fr b σ σ') (a j : Nat) : gI σ' a j = gI σ a j := by
  unfold gI
  rw [h.2.1]
theorem Fr.J {b : Nat} {σ σ' : HP} (h : Fr b σ σ') (a j : Nat) : gJ σ' a j = gJ σ a j := by
  unfold gJ
  rw [h.2.2.1]
theorem Fr.N {b : Nat} {σ σ' : HP} (h : Fr b σ σ') : hN σ' = hN σ := by
  unfold hN
  rw [h.1]
theorem Fr.Z {b : Nat} {σ σ' : HP} (h : Fr b σ σ') : hS σ' = hS σ := by
  unfold hS
  rw [h.1]
theorem Fr.x {b : Nat} {σ σ' : HP} (h : Fr b σ σ') : Fx (fun a => a = b) σ σ' :=
  ⟨by unfold hL; rw [h.1], Nat.le_of_eq h.N.symm, fun a _ z j => ⟨h.I a j, h.J a j, h.2.2.2 a j z⟩⟩
theorem s_copyKept {d a b : Nat} {σ : HP} (ha : a % 64 = 37) (hb : b % 64 = 37) (hab : a ≠ b) (ht : ∀ i, i < 16 → gR σ a i = none ∨ ∃ s, gR σ a i = some (1 + 64 * s)) : ∃ σ', callF (d + 1) m_Past_copyKept [.ref a, .ref b] σ = some (.inl none, σ') ∧ Fr b σ σ' ∧ ∀ i, i < 16 → gR σ' b i = gR σ a i := by
  rw [e_Past_copyKept, b_Past_copyKept_0]
  refine loop_g (N := 16) (Q := fun o => ∃ σ', o = some (.inl none, σ') ∧ Fr b σ σ' ∧ ∀ i, i < 16 → gR σ' b i = gR σ a i) (fun k c => ∃ σ', c = (2, [some (.ref a), some (.ref b), some (.int (ii k))], [], σ') ∧ Fr b σ σ' ∧ ∀ i, i < k → gR σ' b i = gR σ a i) ?_ ?_ 0 _ (Nat.zero_le _) ⟨σ, rfl, Fr.rf, fun i hi => absurd hi (Nat.not_lt_zero _)⟩
  · rintro k c hk ⟨σ', rfl, F, hv⟩
    refine ⟨_, ?_, wR σ' b k (gR σ a k), rfl, F.w, fun i hi => ?_⟩
    · have e1 : gR σ' a k = gR σ a k := F.2.2.2 a k hab
      have e2 : alen (a % 64) = 16 := by rw [ha]; rfl
      have e3 : alen (b % 64) = 16 := by rw [hb]; rfl
      have e5 : stOK b (gR σ' a (ii k).toNatClampNeg) := by
        rw [ii_nat (by omega), e1]
        rcases ht k hk with h | ⟨s, h⟩
        · rw [h]
          exact Or.inl (by rw [hb]; rfl)
        · rw [h]
          exact Or.inl ⟨by rw [hb]; rfl, by omega⟩
      rw [b_Past_copyKept_2 (by rw [ha]; decide), e2, if_neg (by rw [of_ii, ii_le (by omega) (by omega)]; omega), b_Past_copyKept_8 (by rw [hb]; decide), e3, if_neg (by rw [of_ii, ii_le (by omega) (by omega)]; omega), b_Past_copyKept_14 (by rw [ha]; decide) (by rw [e2, inR_ii (by omega)]; exact decide_eq_true hk) e5 (by rw [e3, inR_ii (by omega)]; exact decide_eq_true hk), lit_ii, ii_add, ii_nat (by omega), e1]
    · by_cases q : i = k
      · rw [q, gR_at]
      · rw [gR_nj q]
        exact hv i (by omega)
  · rintro c ⟨σ', rfl, F, hv⟩
    refine ⟨σ', ?_, F, hv⟩
    have e2 : alen (a % 64) = 16 := by rw [ha]; rfl
    rw [b_Past_copyKept_2 (by rw [ha]; decide), e2, if_pos (by rw [of_ii, ii_le (by omega) (by omega)]; omega), b_Past_copyKept_26]
theorem KA.fr {b : Nat} {σ σ' : HP} {a n : Nat} {P : Nat → DN} (A : KA σ a n P) (F : Fr b σ σ') (h1 : a ≠ b) (h2 : b % 64 = 37 ∨ b % 64 = 38) : KA σ' a n P := by
  refine ⟨fun i hi => ?_, fun i hi => ?_⟩
  · obtain ⟨s, q1, q2, q3, q4⟩ := A.1 i hi
    obtain ⟨dv0, dv1, dv2, dv3, dr4, dr5, dr6, dr7, dw4, dw5, dw6, dw7⟩ := q4
    refine ⟨s, (F.2.2.2 a i h1).trans q1, q2, by rw [F.N]; exact q3, (F.I _ _).trans dv0, (F.I _ _).trans dv1, (F.I _ _).trans dv2, (F.I _ _).trans dv3, (F.2.2.2 _ _ (by omega)).trans dr4, (F.2.2.2 _ _ (by omega)).trans dr5, (F.2.2.2 _ _ (by omega)).trans dr6, (F.2.2.2 _ _ (by omega)).trans dr7, fun m k => (F.I _ _).trans (dw4 m k), fun m k => (F.I _ _).trans (dw5 m k), fun m k => (F.I _ _).trans (dw6 m k), fun m k => (F.I _ _).trans (dw7 m k)⟩
  · rcases A.2 i hi with h | ⟨s, h⟩
    · exact Or.inl ((F.2.2.2 a i h1).trans h)
    · exact Or.inr ⟨s, (F.2.2.2 a i h1).trans h⟩
theorem DA.fr {b : Nat} {σ σ' : HP} {s : Nat} {D : DN} (A : DA σ s D) (F : Fr b σ σ') (h2 : b % 64 = 37 ∨ b % 64 = 38) : DA σ' s D := by
  obtain ⟨dv0, dv1, dv2, dv3, dr4, dr5, dr6, dr7, dw4, dw5, dw6, dw7⟩ := A
  exact ⟨(F.I _ _).trans dv0, (F.I _ _).trans dv1, (F.I _ _).trans dv2, (F.I _ _).trans dv3, (F.2.2.2 _ _ (by omega)).trans dr4, (F.2.2.2 _ _ (by omega)).trans dr5, (F.2.2.2 _ _ (by omega)).trans dr6, (F.2.2.2 _ _ (by omega)).trans dr7, fun m k => (F.I _ _).trans (dw4 m k), fun m k => (F.I _ _).trans (dw5 m k), fun m k => (F.I _ _).trans (dw6 m k), fun m k => (F.I _ _).trans (dw7 m k)⟩
theorem KA.cp {b : Nat} {σ σ' : HP} {a n : Nat} {P : Nat → DN} (A : KA σ a n P) (hn : n ≤ 16) (F : Fr b σ σ') (h1 : a ≠ b) (h2 : b % 64 = 37 ∨ b % 64 = 38) (he : ∀ i, i < 16 → gR σ' b i = gR σ a i) : KA σ' b n P := by
  have A' := A.fr F h1 h2
  refine ⟨fun i hi => ?_, fun i hi => ?_⟩
  · obtain ⟨s, q1, q2⟩ := A'.1 i hi
    exact ⟨s, (he i (by omega)).trans ((F.2.2.2 a i h1).symm.trans q1), q2⟩
  · rw [he i hi]
    exact A.2 i hi
theorem KA.mono {σ : HP} {a n m : Nat} {P : Nat → DN} (A : KA σ a n P) (h : m ≤ n) : KA σ a m P := ⟨fun i hi => A.1 i (by omega), A.2⟩
