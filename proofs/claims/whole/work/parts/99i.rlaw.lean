/-! THE REFERENCE: a law told -/
def LCm (σ : HP) (k : Nat) (c : Nat → Nat) : Prop := gI σ 3980 27 = ii k ∧ ∀ i, i < k → gI σ 4445 i = ii (kW (c i)) ∧ gI σ 4509 i = ii (kO (c i))
def MlF (a j : Nat) : Prop := (a = 3980 ∧ (j = 4 ∨ j = 5 ∨ j = 6 ∨ j = 7 ∨ j = 27)) ∨ a = 4445 ∨ a = 4509
theorem Mrd_lF {σ σ' : HP} (F : Fm Mrd σ σ') : Fm MlF σ σ' := F.mono (fun a j z => by unfold Mrd at z; unfold MlF; omega)
theorem Mat_lF {σ σ' : HP} (F : Fm Mat σ σ') : Fm MlF σ σ' := Mrd_lF (Mat_rd F)
theorem LCm.rd {σ σ' : HP} {k : Nat} {c : Nat → Nat} (A : LCm σ k c) (F : Fm Mrd σ σ') : LCm σ' k c :=
  ⟨(F.I (by unfold Mrd; omega)).trans A.1, fun i hi => ⟨(F.I (by unfold Mrd; omega)).trans (A.2 i hi).1, (F.I (by unfold Mrd; omega)).trans (A.2 i hi).2⟩⟩
theorem LCm.fm {S : Nat → Nat → Prop} {σ σ' : HP} {k : Nat} {c : Nat → Nat} (A : LCm σ k c) (F : Fm S σ σ') (h1 : ¬ S 3980 27) (h2 : ∀ j, ¬ S 4445 j) (h3 : ∀ j, ¬ S 4509 j) : LCm σ' k c :=
  ⟨(F.I h1).trans A.1, fun i hi => ⟨(F.I (h2 i)).trans (A.2 i hi).1, (F.I (h3 i)).trans (A.2 i hi).2⟩⟩
def LQm (σ : HP) (T : Nat → Nat) (n o : Nat) (r : PR LwT) : Prop := match r with
  | .inl s => RD σ T n s.1 ∧ LCm σ s.2.1 s.2.2 ∧ gI σ 3980 7 = ii o
  | .inr F => RB σ F
def UCm (T : Nat → Nat) (n : Nat) (m : MM) (o b : Nat) (U : LwT → PR LwT) : Prop := ∀ e, b ≤ e → ∀ (σ : HP) (s : LwT), RD σ T n s.1 → LCm σ s.2.1 s.2.2 → s.2.1 ≤ s.1 → gI σ 3980 7 = ii o → ∃ σ', callF e m [.ref 3980] σ = some (.inl none, σ') ∧ LQm σ' T n o (U s) ∧ Fm MlF σ σ'
theorem UCm.mono {T : Nat → Nat} {n o b b' : Nat} {m : MM} {U : LwT → PR LwT} (h : UCm T n m o b U) (hb : b ≤ b') : UCm T n m o b' U := fun e he => h e (by omega)
theorem r_emit {d k v : Nat} {σ : HP} {T : Nat → Nat} {n p : Nat} {c : Nat → Nat} {x y : Int32} (A : RD σ T n p) (C : LCm σ k c) (hk : k < 150) (hx : x = ii (kW v)) (hy : y = ii (kO v)) : ∃ σ', callF (d + 2) m_Mo_emit [.ref 3980, .int x, .int y] σ = some (.inl none, σ') ∧ RD σ' T n p ∧ LCm σ' (k + 1) (up1 c k v) ∧ gI σ' 3980 7 = gI σ 3980 7 ∧ Fm MlF σ σ' := by
  subst hx hy
  have F : Fm (fun a j => (a = 3980 ∧ j = 27) ∨ a = 4445 ∨ a = 4509) σ (wI (wI (wI σ 4445 k (ii (kW v))) 4509 k (ii (kO v))) 3980 27 (ii (k + 1))) := ((Fm.rf.w (by omega)).w (by omega)).w (by omega)
  obtain ⟨c1, c2⟩ := C
  refine ⟨_, ?_, A.fm F (fun j => by omega) (fun j z => by omega), ⟨gI_at, fun i hi => ?_⟩, (F.I (by omega)), F.mono (fun a j z => by unfold MlF; omega)⟩
  · have a := A.1
    have q1 : gI (wI σ 4445 k (ii (kW v))) 3980 27 = ii k := (gI_ne (by omega)).trans c1
    have q2 : gI (wI (wI σ 4445 k (ii (kW v))) 4509 k (ii (kO v))) 3980 27 = ii k := (gI_ne (by omega)).trans q1
    obtain ⟨z1, z9, z10, z11, z12, z13, z22, z23, z24, z25, z26, z29, z30, z31, z38, z39, z40, z41, z42, z44, z45, z46, z47, z49⟩ := id a
    simp (disch := first | omega | exact ak27 | exact ak29 | exact ak20 | exact ak21 | exact ak22 | exact ak23 | exact ak24 | exact ak25 | exact ak28 | exact ak30 | exact ak31 | exact ak32 | exact ak33 | exact b2_01 _ | exact ii0_01 | exact ii1_01 | (simp (disch := omega) only [z1, z9, z10, z11, z12, z13, z22, z23, z24, z25, z26, z29, z30, z31, z38, z39, z40, z41, z42, z44, z45, z46, z47, z49, c1, q1, q2, dr_some, Option.isSome_some, gR_wI, Nat.add_mul_mod_self_left, Nat.reduceMod, ak20, ak21, ak22, ak23, ak24, ak25, ak26, ak27, ak28, ak29, ak30, ak31, ak32, ak33, ak34, ak35, ak36, an20, an21, an22, an23, an24, an25, an26, an27, an28, an29, an30, an31, an32, an33, an34, an35, an36, an37, an38, ne_eq, inR_ii, decide_eq_true_eq, lit_ii, of_ii, ii_eq, ii_lt, ii_le, ii_add, ii_mul, ii_sub, ii_pred, ii_nat]; first | done | omega)) only [z1, z9, z10, z11, z12, z13, z22, z23, z24, z25, z26, z29, z30, z31, z38, z39, z40, z41, z42, z44, z45, z46, z47, z49, c1, q1, q2, e_Mo_emit, b_Mo_emit_0, b_Mo_emit_4, b_Mo_emit_7, b_Mo_emit_8, r_fineT A, Nat.succ_ne_zero, dr_some, Option.isSome_some, gR_wI, Nat.add_mul_mod_self_left, Nat.reduceMod, ak20, ak21, ak22, ak23, ak24, ak25, ak26, ak27, ak28, ak29, ak30, ak31, ak32, ak33, ak34, ak35, ak36, an20, an21, an22, an23, an24, an25, an26, an27, an28, an29, an30, an31, an32, an33, an34, an35, an36, an37, an38, ↓reduceIte, bk_int, bk_void, bk_long, bkN_int, bkN_void, bkN_long, Nat.reduceAdd, Nat.reduceMul, Nat.reduceSub, Nat.reduceLT, Nat.reduceLeDiff, if_true, if_false, not_true_eq_false, not_false_eq_true, Bool.true_eq_false, Bool.false_eq_true, b2_eq0, Nat.add_zero, Nat.zero_add, Nat.not_lt_zero, Nat.zero_le, ite_true, ite_false, decide_true, decide_false, lit_ii, of_ii, le_T, le_F, lt_T, lt_F, eq_T, eq_F, ii_add, ii_mul, ii_nat, ii_le, ii_lt, ii_eq, inR_ii, ii_add0]
  · by_cases z : i = k
    · subst z
      rw [up1_at]
      refine ⟨?_, ?_⟩
      · rw [gI_ne (by omega), gI_ne (by omega)]
        exact gI_at
      · rw [gI_ne (by omega)]
        exact gI_at
    · rw [up1_ne z]
      refine ⟨?_, ?_⟩
      · rw [gI_ne (by omega), gI_ne (by omega), gI_nj z]
        exact (c2 i (by omega)).1
      · rw [gI_ne (by omega), gI_nj z, gI_ne (by omega)]
        exact (c2 i (by omega)).2
theorem r_emitB {d : Nat} {x y : Int32} {σ : HP} {G : Nat × Nat} (R : RB σ G) : callF (d + 2) m_Mo_emit [.ref 3980, .int x, .int y] σ = some (.inl none, σ) := by
  simp (disch := first | omega | exact b2_01 _ | exact ii0_01 | exact ii1_01 | (simp (disch := omega) only [Nat.le_refl, dr_some, Option.isSome_some, gR_wI, Nat.add_mul_mod_self_left, Nat.reduceMod, ak20, ak21, ak22, ak23, ak24, ak25, ak26, ak27, ak28, ak29, ak30, ak31, ak32, ak33, ak34, ak35, ak36, an20, an21, an22, an23, an24, an25, an26, an27, an28, an29, an30, an31, an32, an33, an34, an35, an36, an37, an38, ne_eq, inR_ii, decide_eq_true_eq, lit_ii, of_ii, ii_eq, ii_lt, ii_le]; first | done | omega)) only [Nat.le_refl, e_Mo_emit, b_Mo_emit_0, b_Mo_emit_4, b_Mo_emit_7, b_Mo_emit_8, r_fineF R, dr_some, Option.isSome_some, gR_wI, Nat.add_mul_mod_self_left, Nat.reduceMod, ak20, ak21, ak22, ak23, ak24, ak25, ak26, ak27, ak28, ak29, ak30, ak31, ak32, ak33, ak34, ak35, ak36, an20, an21, an22, an23, an24, an25, an26, an27, an28, an29, an30, an31, an32, an33, an34, an35, an36, an37, an38, ↓reduceIte, bk_int, bk_void, bk_long, bkN_int, bkN_void, bkN_long, Nat.reduceAdd, Nat.reduceMul, Nat.reduceSub, Nat.reduceLT, Nat.reduceLeDiff, if_true, if_false, not_true_eq_false, not_false_eq_true, Bool.true_eq_false, Bool.false_eq_true, b2_eq0, Nat.add_zero, Nat.zero_add, Nat.not_lt_zero, Nat.zero_le, ite_true, ite_false, decide_true, decide_false, lit_ii, of_ii, le_T, le_F, lt_T, lt_F, eq_T, eq_F, ii_add, ii_mul, ii_nat, ii_le, ii_lt, ii_eq, inR_ii, ii_add0]
theorem r_unitB {d : Nat} {σ : HP} {G : Nat × Nat} (R : RB σ G) : callF (d + 2) m_Mo_readUnit [.ref 3980] σ = some (.inl none, σ) := by
  simp (disch := first | omega | exact b2_01 _ | exact ii0_01 | exact ii1_01 | (simp (disch := omega) only [Nat.le_refl, dr_some, Option.isSome_some, gR_wI, Nat.add_mul_mod_self_left, Nat.reduceMod, ak20, ak21, ak22, ak23, ak24, ak25, ak26, ak27, ak28, ak29, ak30, ak31, ak32, ak33, ak34, ak35, ak36, an20, an21, an22, an23, an24, an25, an26, an27, an28, an29, an30, an31, an32, an33, an34, an35, an36, an37, an38, ne_eq, inR_ii, decide_eq_true_eq, lit_ii, of_ii, ii_eq, ii_lt, ii_le]; first | done | omega)) only [Nat.le_refl, e_Mo_readUnit, b_Mo_readUnit_0, b_Mo_readUnit_4, b_Mo_readUnit_7, r_fineF R, dr_some, Option.isSome_some, gR_wI, Nat.add_mul_mod_self_left, Nat.reduceMod, ak20, ak21, ak22, ak23, ak24, ak25, ak26, ak27, ak28, ak29, ak30, ak31, ak32, ak33, ak34, ak35, ak36, an20, an21, an22, an23, an24, an25, an26, an27, an28, an29, an30, an31, an32, an33, an34, an35, an36, an37, an38, ↓reduceIte, bk_int, bk_void, bk_long, bkN_int, bkN_void, bkN_long, Nat.reduceAdd, Nat.reduceMul, Nat.reduceSub, Nat.reduceLT, Nat.reduceLeDiff, if_true, if_false, not_true_eq_false, not_false_eq_true, Bool.true_eq_false, Bool.false_eq_true, b2_eq0, Nat.add_zero, Nat.zero_add, Nat.not_lt_zero, Nat.zero_le, ite_true, ite_false, decide_true, decide_false, lit_ii, of_ii, le_T, le_F, lt_T, lt_F, eq_T, eq_F, ii_add, ii_mul, ii_nat, ii_le, ii_lt, ii_eq, inR_ii, ii_add0]
theorem r_prodB {d : Nat} {σ : HP} {G : Nat × Nat} (R : RB σ G) : callF (d + 3) m_Mo_readProduct [.ref 3980] σ = some (.inl none, σ) := by
  simp (disch := first | omega | exact b2_01 _ | exact ii0_01 | exact ii1_01 | (simp (disch := omega) only [Nat.le_refl, dr_some, Option.isSome_some, gR_wI, Nat.add_mul_mod_self_left, Nat.reduceMod, ak20, ak21, ak22, ak23, ak24, ak25, ak26, ak27, ak28, ak29, ak30, ak31, ak32, ak33, ak34, ak35, ak36, an20, an21, an22, an23, an24, an25, an26, an27, an28, an29, an30, an31, an32, an33, an34, an35, an36, an37, an38, ne_eq, inR_ii, decide_eq_true_eq, lit_ii, of_ii, ii_eq, ii_lt, ii_le]; first | done | omega)) only [Nat.le_refl, e_Mo_readProduct, b_Mo_readProduct_0, b_Mo_readProduct_4, b_Mo_readProduct_8, b_Mo_readProduct_90, r_fineF R, r_unitB R, dr_some, Option.isSome_some, gR_wI, Nat.add_mul_mod_self_left, Nat.reduceMod, ak20, ak21, ak22, ak23, ak24, ak25, ak26, ak27, ak28, ak29, ak30, ak31, ak32, ak33, ak34, ak35, ak36, an20, an21, an22, an23, an24, an25, an26, an27, an28, an29, an30, an31, an32, an33, an34, an35, an36, an37, an38, ↓reduceIte, bk_int, bk_void, bk_long, bkN_int, bkN_void, bkN_long, Nat.reduceAdd, Nat.reduceMul, Nat.reduceSub, Nat.reduceLT, Nat.reduceLeDiff, if_true, if_false, not_true_eq_false, not_false_eq_true, Bool.true_eq_false, Bool.false_eq_true, b2_eq0, Nat.add_zero, Nat.zero_add, Nat.not_lt_zero, Nat.zero_le, ite_true, ite_false, decide_true, decide_false, lit_ii, of_ii, le_T, le_F, lt_T, lt_F, eq_T, eq_F, ii_add, ii_mul, ii_nat, ii_le, ii_lt, ii_eq, inR_ii, ii_add0]
theorem r_sumB {d : Nat} {σ : HP} {G : Nat × Nat} (R : RB σ G) : callF (d + 4) m_Mo_readSum [.ref 3980] σ = some (.inl none, σ) := by
  simp (disch := first | omega | exact b2_01 _ | exact ii0_01 | exact ii1_01 | (simp (disch := omega) only [Nat.le_refl, dr_some, Option.isSome_some, gR_wI, Nat.add_mul_mod_self_left, Nat.reduceMod, ak20, ak21, ak22, ak23, ak24, ak25, ak26, ak27, ak28, ak29, ak30, ak31, ak32, ak33, ak34, ak35, ak36, an20, an21, an22, an23, an24, an25, an26, an27, an28, an29, an30, an31, an32, an33, an34, an35, an36, an37, an38, ne_eq, inR_ii, decide_eq_true_eq, lit_ii, of_ii, ii_eq, ii_lt, ii_le]; first | done | omega)) only [Nat.le_refl, e_Mo_readSum, b_Mo_readSum_0, b_Mo_readSum_4, b_Mo_readSum_8, b_Mo_readSum_67, r_fineF R, r_prodB R, dr_some, Option.isSome_some, gR_wI, Nat.add_mul_mod_self_left, Nat.reduceMod, ak20, ak21, ak22, ak23, ak24, ak25, ak26, ak27, ak28, ak29, ak30, ak31, ak32, ak33, ak34, ak35, ak36, an20, an21, an22, an23, an24, an25, an26, an27, an28, an29, an30, an31, an32, an33, an34, an35, an36, an37, an38, ↓reduceIte, bk_int, bk_void, bk_long, bkN_int, bkN_void, bkN_long, Nat.reduceAdd, Nat.reduceMul, Nat.reduceSub, Nat.reduceLT, Nat.reduceLeDiff, if_true, if_false, not_true_eq_false, not_false_eq_true, Bool.true_eq_false, Bool.false_eq_true, b2_eq0, Nat.add_zero, Nat.zero_add, Nat.not_lt_zero, Nat.zero_le, ite_true, ite_false, decide_true, decide_false, lit_ii, of_ii, le_T, le_F, lt_T, lt_F, eq_T, eq_F, ii_add, ii_mul, ii_nat, ii_le, ii_lt, ii_eq, inR_ii, ii_add0]
theorem RB.o {σ : HP} {G : Nat × Nat} {v : Int32} (R : RB σ G) : RB (wI σ 3980 7 v) G := R.fm (S := fun a j => a = 3980 ∧ j = 7) (Fm.w Fm.rf ⟨rfl, rfl⟩) (fun j z => by omega)
theorem RD.o {σ : HP} {T : Nat → Nat} {n p : Nat} {v : Int32} (A : RD σ T n p) : RD (wI σ 3980 7 v) T n p := A.fm (S := fun a j => a = 3980 ∧ j = 7) (Fm.w Fm.rf ⟨rfl, rfl⟩) (fun j => by omega) (fun j z => by omega)
theorem LCm.o {σ : HP} {k : Nat} {c : Nat → Nat} {v : Int32} (A : LCm σ k c) : LCm (wI σ 3980 7 v) k c := A.fm (S := fun a j => a = 3980 ∧ j = 7) (Fm.w Fm.rf ⟨rfl, rfl⟩) (by omega) (fun j => by omega) (fun j => by omega)
theorem hrV_in {T : Nat → Nat} {n p : Nat} (h : sk T n p < n) : hrV T n p = T (sk T n p) := by
  unfold hrV
  rw [if_pos h]
theorem hrV_out {T : Nat → Nat} {n p : Nat} (h : ¬ sk T n p < n) : hrV T n p = 0 := by
  unfold hrV
  rw [if_neg h]
/-- a chain of products -/
theorem l_prodL {T : Nat → Nat} {n o b : Nat} {U : LwT → PR LwT} (hU : UCm T n m_Mo_readUnit o b U) (hfw : ∀ s : LwT, s.1 ≤ n → fwd n s (U s)) (hn : n ≤ 150) {d : Nat} (hd : b ≤ d) (hd4 : 4 ≤ d) : ∀ f (s : LwT) σ l1, RD σ T n s.1 → LCm σ s.2.1 s.2.2 → s.2.1 ≤ s.1 → gI σ 3980 7 = ii o → n - s.1 < f → ∃ σ', runF (callF d) d m_Mo_readProduct (4, [some (.ref 3980), l1], [], σ) = some (.inl none, σ') ∧ LQm σ' T n o (lwC T n U isM f s) ∧ Fm MlF σ σ' := by
  obtain ⟨d, rfl⟩ : ∃ e, d = e + 4 := ⟨d - 4, by omega⟩
  intro f
  induction f with
  | zero => intro s σ l1 A _ _ _ h; omega
  | succ f ih =>
    intro s σ l1 A C hs ho hf9
    have hp := A.p
    have hsk := sk_ge (T := T) hp.1
    have ek : sk T n (sk T n s.1) = sk T n s.1 := rn_rn hp.1
    have hr2 : hrV T n (sk T n s.1) = hrV T n s.1 := by unfold hrV; rw [ek]
    obtain ⟨σ1, e1, A1, F1⟩ := r_here (d := d + 3) A
    obtain ⟨σ2, e2, A2, F2⟩ := r_here (d := d + 3) A1
    rw [ek] at A2
    obtain ⟨σ3, e3, A3, F3⟩ := r_here (d := d + 3) A2
    rw [ek] at A3
    rw [hr2] at e2 e3
    have hl := hr_lt A
    unfold lwC
    by_cases z : sk T n s.1 < n ∧ isM (T (sk T n s.1)) = true
    · rw [if_pos z]
      have zM := of_decide_eq_true z.2
      have hv := hrV_in z.1
      -- the sign is there: whichever, the reader stands at it
      have key : ∃ τ, runF (callF (d + 4)) (d + 4) m_Mo_readProduct (4, [some (.ref 3980), l1], [], σ) = runF (callF (d + 4)) (d + 4) m_Mo_readProduct (66, [some (.ref 3980), l1], [.int (ii (kW (2000 + T (sk T n s.1))))], τ) ∧ RD τ T n (sk T n s.1) ∧ Fm Mat σ τ := by
        rcases zM with y | y | y
        · have y' : hrV T n s.1 = 42 := by omega
          rw [y'] at e1 e2
          refine ⟨σ2, ?_, A2, F1.tr F2⟩
          rw [y]
          conv => lhs; simp (disch := first | omega | exact b2_01 _ | exact ii0_01 | exact ii1_01 | (simp (disch := omega) only [e1, e2, dr_some, Option.isSome_some, gR_wI, Nat.add_mul_mod_self_left, Nat.reduceMod, ak20, ak21, ak22, ak23, ak24, ak25, ak26, ak27, ak28, ak29, ak30, ak31, ak32, ak33, ak34, ak35, ak36, an20, an21, an22, an23, an24, an25, an26, an27, an28, an29, an30, an31, an32, an33, an34, an35, an36, an37, an38, ne_eq, inR_ii, decide_eq_true_eq, lit_ii, of_ii, ii_eq, ii_lt, ii_le]; first | done | omega)) only [e1, e2, b_Mo_readProduct_4, b_Mo_readProduct_8, b_Mo_readProduct_11, b_Mo_readProduct_15, b_Mo_readProduct_38, b_Mo_readProduct_42, b_Mo_readProduct_47, r_fineT A, Nat.succ_ne_zero, dr_some, Option.isSome_some, gR_wI, Nat.add_mul_mod_self_left, Nat.reduceMod, ak20, ak21, ak22, ak23, ak24, ak25, ak26, ak27, ak28, ak29, ak30, ak31, ak32, ak33, ak34, ak35, ak36, an20, an21, an22, an23, an24, an25, an26, an27, an28, an29, an30, an31, an32, an33, an34, an35, an36, an37, an38, ↓reduceIte, bk_int, bk_void, bk_long, bkN_int, bkN_void, bkN_long, Nat.reduceAdd, Nat.reduceMul, Nat.reduceSub, Nat.reduceLT, Nat.reduceLeDiff, if_true, if_false, not_true_eq_false, not_false_eq_true, Bool.true_eq_false, Bool.false_eq_true, b2_eq0, Nat.add_zero, Nat.zero_add, Nat.not_lt_zero, Nat.zero_le, ite_true, ite_false, decide_true, decide_false, lit_ii, of_ii, le_T, le_F, lt_T, lt_F, eq_T, eq_F, ii_add, ii_mul, ii_nat, ii_le, ii_lt, ii_eq, inR_ii, ii_add0]
          rfl
        · have y' : hrV T n s.1 = 47 := by omega
          rw [y'] at e1 e2 e3
          obtain ⟨σ4, e4, A4, F4⟩ := r_here (d := d + 3) A3
          rw [ek] at A4
          rw [hr2, y'] at e4
          refine ⟨σ4, ?_, A4, ((F1.tr F2).tr F3).tr F4⟩
          rw [y]
          conv => lhs; simp (disch := first | omega | exact b2_01 _ | exact ii0_01 | exact ii1_01 | (simp (disch := omega) only [e1, e2, e3, e4, dr_some, Option.isSome_some, gR_wI, Nat.add_mul_mod_self_left, Nat.reduceMod, ak20, ak21, ak22, ak23, ak24, ak25, ak26, ak27, ak28, ak29, ak30, ak31, ak32, ak33, ak34, ak35, ak36, an20, an21, an22, an23, an24, an25, an26, an27, an28, an29, an30, an31, an32, an33, an34, an35, an36, an37, an38, ne_eq, inR_ii, decide_eq_true_eq, lit_ii, of_ii, ii_eq, ii_lt, ii_le]; first | done | omega)) only [e1, e2, e3, e4, b_Mo_readProduct_4, b_Mo_readProduct_8, b_Mo_readProduct_11, b_Mo_readProduct_15, b_Mo_readProduct_20, b_Mo_readProduct_24, b_Mo_readProduct_38, b_Mo_readProduct_42, b_Mo_readProduct_51, b_Mo_readProduct_55, b_Mo_readProduct_60, r_fineT A, Nat.succ_ne_zero, Nat.reduceEqDiff, dr_some, Option.isSome_some, gR_wI, Nat.add_mul_mod_self_left, Nat.reduceMod, ak20, ak21, ak22, ak23, ak24, ak25, ak26, ak27, ak28, ak29, ak30, ak31, ak32, ak33, ak34, ak35, ak36, an20, an21, an22, an23, an24, an25, an26, an27, an28, an29, an30, an31, an32, an33, an34, an35, an36, an37, an38, ↓reduceIte, bk_int, bk_void, bk_long, bkN_int, bkN_void, bkN_long, Nat.reduceAdd, Nat.reduceMul, Nat.reduceSub, Nat.reduceLT, Nat.reduceLeDiff, if_true, if_false, not_true_eq_false, not_false_eq_true, Bool.true_eq_false, Bool.false_eq_true, b2_eq0, Nat.add_zero, Nat.zero_add, Nat.not_lt_zero, Nat.zero_le, ite_true, ite_false, decide_true, decide_false, lit_ii, of_ii, le_T, le_F, lt_T, lt_F, eq_T, eq_F, ii_add, ii_mul, ii_nat, ii_le, ii_lt, ii_eq, inR_ii, ii_add0]
          rfl
        · have y' : hrV T n s.1 = 37 := by omega
          rw [y'] at e1 e2 e3
          obtain ⟨σ4, e4, A4, F4⟩ := r_here (d := d + 3) A3
          rw [ek] at A4
          rw [hr2, y'] at e4
          obtain ⟨σ5, e5, A5, F5⟩ := r_here (d := d + 3) A4
          rw [ek] at A5
          rw [hr2, y'] at e5
          refine ⟨σ5, ?_, A5, (((F1.tr F2).tr F3).tr F4).tr F5⟩
          rw [y]
          conv => lhs; simp (disch := first | omega | exact b2_01 _ | exact ii0_01 | exact ii1_01 | (simp (disch := omega) only [e1, e2, e3, e4, e5, dr_some, Option.isSome_some, gR_wI, Nat.add_mul_mod_self_left, Nat.reduceMod, ak20, ak21, ak22, ak23, ak24, ak25, ak26, ak27, ak28, ak29, ak30, ak31, ak32, ak33, ak34, ak35, ak36, an20, an21, an22, an23, an24, an25, an26, an27, an28, an29, an30, an31, an32, an33, an34, an35, an36, an37, an38, ne_eq, inR_ii, decide_eq_true_eq, lit_ii, of_ii, ii_eq, ii_lt, ii_le]; first | done | omega)) only [e1, e2, e3, e4, e5, b_Mo_readProduct_4, b_Mo_readProduct_8, b_Mo_readProduct_11, b_Mo_readProduct_15, b_Mo_readProduct_20, b_Mo_readProduct_24, b_Mo_readProduct_29, b_Mo_readProduct_33, b_Mo_readProduct_38, b_Mo_readProduct_42, b_Mo_readProduct_51, b_Mo_readProduct_55, b_Mo_readProduct_64, r_fineT A, Nat.succ_ne_zero, Nat.reduceEqDiff, dr_some, Option.isSome_some, gR_wI, Nat.add_mul_mod_self_left, Nat.reduceMod, ak20, ak21, ak22, ak23, ak24, ak25, ak26, ak27, ak28, ak29, ak30, ak31, ak32, ak33, ak34, ak35, ak36, an20, an21, an22, an23, an24, an25, an26, an27, an28, an29, an30, an31, an32, an33, an34, an35, an36, an37, an38, ↓reduceIte, bk_int, bk_void, bk_long, bkN_int, bkN_void, bkN_long, Nat.reduceAdd, Nat.reduceMul, Nat.reduceSub, Nat.reduceLT, Nat.reduceLeDiff, if_true, if_false, not_true_eq_false, not_false_eq_true, Bool.true_eq_false, Bool.false_eq_true, b2_eq0, Nat.add_zero, Nat.zero_add, Nat.not_lt_zero, Nat.zero_le, ite_true, ite_false, decide_true, decide_false, lit_ii, of_ii, le_T, le_F, lt_T, lt_F, eq_T, eq_F, ii_add, ii_mul, ii_nat, ii_le, ii_lt, ii_eq, inR_ii, ii_add0]
          rfl
      obtain ⟨τ, eτ, Aτ, Fτ⟩ := key
      rw [eτ]
      have A6 := Aτ.at (q := sk T n s.1 + 1) (by omega)
      have C6 : LCm (wI τ 3980 4 (ii (sk T n s.1 + 1))) s.2.1 s.2.2 := C.rd ((Mat_rd Fτ).w (by unfold Mrd; omega))
      have F6 : Fm MlF σ (wI τ 3980 4 (ii (sk T n s.1 + 1))) := (Mat_lF Fτ).w (by unfold MlF; omega)
      have o6 : gI (wI τ 3980 4 (ii (sk T n s.1 + 1))) 3980 7 = ii o := (gI_nj (by omega)).trans ((Fτ.I (by unfold Mat; omega)).trans ho)
      have f6 := hfw (sk T n s.1 + 1, s.2.1, s.2.2) (by show sk T n s.1 + 1 ≤ n; omega)
      obtain ⟨σ7, e7, Q7, F7⟩ := hU (d + 4) (by omega) _ (sk T n s.1 + 1, s.2.1, s.2.2) A6 C6 (by show s.2.1 ≤ sk T n s.1 + 1; omega) o6
      have e4' := Aτ.2.2.2.1
      cases hu : U (sk T n s.1 + 1, s.2.1, s.2.2) with
      | inr G =>
        rw [hu] at Q7
        have R7 : RB σ7 G := Q7
        refine ⟨σ7, ?_, R7, F6.tr F7⟩
        simp (disch := first | omega | exact b2_01 _ | exact ii0_01 | exact ii1_01 | (simp (disch := omega) only [e4', e7, dr_some, Option.isSome_some, gR_wI, Nat.add_mul_mod_self_left, Nat.reduceMod, ak20, ak21, ak22, ak23, ak24, ak25, ak26, ak27, ak28, ak29, ak30, ak31, ak32, ak33, ak34, ak35, ak36, an20, an21, an22, an23, an24, an25, an26, an27, an28, an29, an30, an31, an32, an33, an34, an35, an36, an37, an38, ne_eq, inR_ii, decide_eq_true_eq, lit_ii, of_ii, ii_eq, ii_lt, ii_le]; first | done | omega)) only [e4', e7, b_Mo_readProduct_66, b_Mo_readProduct_81, b_Mo_readProduct_87, b_Mo_readProduct_4, b_Mo_readProduct_8, b_Mo_readProduct_90, r_emitB R7, r_fineF R7, dr_some, Option.isSome_some, gR_wI, Nat.add_mul_mod_self_left, Nat.reduceMod, ak20, ak21, ak22, ak23, ak24, ak25, ak26, ak27, ak28, ak29, ak30, ak31, ak32, ak33, ak34, ak35, ak36, an20, an21, an22, an23, an24, an25, an26, an27, an28, an29, an30, an31, an32, an33, an34, an35, an36, an37, an38, ↓reduceIte, bk_int, bk_void, bk_long, bkN_int, bkN_void, bkN_long, Nat.reduceAdd, Nat.reduceMul, Nat.reduceSub, Nat.reduceLT, Nat.reduceLeDiff, if_true, if_false, not_true_eq_false, not_false_eq_true, Bool.true_eq_false, Bool.false_eq_true, b2_eq0, Nat.add_zero, Nat.zero_add, Nat.not_lt_zero, Nat.zero_le, ite_true, ite_false, decide_true, decide_false, lit_ii, of_ii, le_T, le_F, lt_T, lt_F, eq_T, eq_F, ii_add, ii_mul, ii_nat, ii_le, ii_lt, ii_eq, inR_ii, ii_add0]
      | inl s' =>
        rw [hu] at Q7 f6
        obtain ⟨A7, C7, o7⟩ := Q7
        obtain ⟨g1, g2, g3⟩ := f6
        simp only at g1 g3
        obtain ⟨σ8, e8, A8, C8, o8, F8⟩ := r_emit (d := d + 2) (v := 2000 + T (sk T n s.1)) A7 C7 (by omega) rfl (show ii 0 = ii (kO (2000 + T (sk T n s.1))) from by unfold kO; rw [if_neg (by omega), if_neg (by omega)])
        obtain ⟨σ9, e9, Q9, F9⟩ := ih (emt s' (2000 + T (sk T n s.1))) σ8 (some (.int (ii (kW (2000 + T (sk T n s.1)))))) A8 C8 (by show s'.2.1 + 1 ≤ s'.1; omega) (o8.trans o7) (by show n - s'.1 < f; omega)
        refine ⟨σ9, ?_, Q9, ((F6.tr F7).tr F8).tr F9⟩
        rw [← e9]
        conv => lhs; simp (disch := first | omega | exact b2_01 _ | exact ii0_01 | exact ii1_01 | (simp (disch := omega) only [e4', e7, e8, dr_some, Option.isSome_some, gR_wI, Nat.add_mul_mod_self_left, Nat.reduceMod, ak20, ak21, ak22, ak23, ak24, ak25, ak26, ak27, ak28, ak29, ak30, ak31, ak32, ak33, ak34, ak35, ak36, an20, an21, an22, an23, an24, an25, an26, an27, an28, an29, an30, an31, an32, an33, an34, an35, an36, an37, an38, ne_eq, inR_ii, decide_eq_true_eq, lit_ii, of_ii, ii_eq, ii_lt, ii_le]; first | done | omega)) only [e4', e7, e8, b_Mo_readProduct_66, b_Mo_readProduct_81, b_Mo_readProduct_87, dr_some, Option.isSome_some, gR_wI, Nat.add_mul_mod_self_left, Nat.reduceMod, ak20, ak21, ak22, ak23, ak24, ak25, ak26, ak27, ak28, ak29, ak30, ak31, ak32, ak33, ak34, ak35, ak36, an20, an21, an22, an23, an24, an25, an26, an27, an28, an29, an30, an31, an32, an33, an34, an35, an36, an37, an38, ↓reduceIte, bk_int, bk_void, bk_long, bkN_int, bkN_void, bkN_long, Nat.reduceAdd, Nat.reduceMul, Nat.reduceSub, Nat.reduceLT, Nat.reduceLeDiff, if_true, if_false, not_true_eq_false, not_false_eq_true, Bool.true_eq_false, Bool.false_eq_true, b2_eq0, Nat.add_zero, Nat.zero_add, Nat.not_lt_zero, Nat.zero_le, ite_true, ite_false, decide_true, decide_false, lit_ii, of_ii, le_T, le_F, lt_T, lt_F, eq_T, eq_F, ii_add, ii_mul, ii_nat, ii_le, ii_lt, ii_eq, inR_ii, ii_add0]
    · rw [if_neg z]
      have hno : ¬ hrV T n s.1 = 42 ∧ ¬ hrV T n s.1 = 47 ∧ ¬ hrV T n s.1 = 37 := by
        by_cases y : sk T n s.1 < n
        · rw [hrV_in y]
          refine ⟨fun h => z ⟨y, decide_eq_true (Or.inl h)⟩, fun h => z ⟨y, decide_eq_true (Or.inr (Or.inl h))⟩, fun h => z ⟨y, decide_eq_true (Or.inr (Or.inr h))⟩⟩
        · rw [hrV_out y]
          omega
      have n1 := hno.1
      have n2 := hno.2.1
      have n3 := hno.2.2
      refine ⟨σ3, ?_, ⟨A3, C.rd (Mat_rd ((F1.tr F2).tr F3)), (((F1.tr F2).tr F3).I (by unfold Mat; omega)).trans ho⟩, Mat_lF ((F1.tr F2).tr F3)⟩
      simp (disch := first | omega | exact b2_01 _ | exact ii0_01 | exact ii1_01 | (simp (disch := omega) only [e1, e2, e3, dr_some, Option.isSome_some, gR_wI, Nat.add_mul_mod_self_left, Nat.reduceMod, ak20, ak21, ak22, ak23, ak24, ak25, ak26, ak27, ak28, ak29, ak30, ak31, ak32, ak33, ak34, ak35, ak36, an20, an21, an22, an23, an24, an25, an26, an27, an28, an29, an30, an31, an32, an33, an34, an35, an36, an37, an38, ne_eq, inR_ii, decide_eq_true_eq, lit_ii, of_ii, ii_eq, ii_lt, ii_le]; first | done | omega)) only [e1, e2, e3, b_Mo_readProduct_4, b_Mo_readProduct_8, b_Mo_readProduct_11, b_Mo_readProduct_15, b_Mo_readProduct_20, b_Mo_readProduct_24, b_Mo_readProduct_29, b_Mo_readProduct_33, b_Mo_readProduct_90, r_fineT A, n1, n2, n3, Nat.succ_ne_zero, dr_some, Option.isSome_some, gR_wI, Nat.add_mul_mod_self_left, Nat.reduceMod, ak20, ak21, ak22, ak23, ak24, ak25, ak26, ak27, ak28, ak29, ak30, ak31, ak32, ak33, ak34, ak35, ak36, an20, an21, an22, an23, an24, an25, an26, an27, an28, an29, an30, an31, an32, an33, an34, an35, an36, an37, an38, ↓reduceIte, bk_int, bk_void, bk_long, bkN_int, bkN_void, bkN_long, Nat.reduceAdd, Nat.reduceMul, Nat.reduceSub, Nat.reduceLT, Nat.reduceLeDiff, if_true, if_false, not_true_eq_false, not_false_eq_true, Bool.true_eq_false, Bool.false_eq_true, b2_eq0, Nat.add_zero, Nat.zero_add, Nat.not_lt_zero, Nat.zero_le, ite_true, ite_false, decide_true, decide_false, lit_ii, of_ii, le_T, le_F, lt_T, lt_F, eq_T, eq_F, ii_add, ii_mul, ii_nat, ii_le, ii_lt, ii_eq, inR_ii, ii_add0]
theorem lm_prod {T : Nat → Nat} {n o b : Nat} {U : LwT → PR LwT} (hU : UCm T n m_Mo_readUnit o b U) (hfw : ∀ s : LwT, s.1 ≤ n → fwd n s (U s)) (hn : n ≤ 150) (hb : 4 ≤ b) : UCm T n m_Mo_readProduct o (b + 1) (lwPrd T n U) := by
  intro e he σ s A C hs ho
  obtain ⟨e, rfl⟩ : ∃ k, e = k + 1 := ⟨e - 1, by omega⟩
  obtain ⟨σ1, e1, Q1, F1⟩ := hU e (by omega) σ s A C hs ho
  have f1 := hfw s A.p.1
  unfold lwPrd
  cases hu : U s with
  | inr G =>
    rw [hu] at Q1
    have R1 : RB σ1 G := Q1
    obtain ⟨e, rfl⟩ : ∃ k, e = k + 1 := ⟨e - 1, by omega⟩
    refine ⟨σ1, ?_, R1, F1⟩
    simp (disch := first | omega | exact b2_01 _ | exact ii0_01 | exact ii1_01 | (simp (disch := omega) only [e1, dr_some, Option.isSome_some, gR_wI, Nat.add_mul_mod_self_left, Nat.reduceMod, ak20, ak21, ak22, ak23, ak24, ak25, ak26, ak27, ak28, ak29, ak30, ak31, ak32, ak33, ak34, ak35, ak36, an20, an21, an22, an23, an24, an25, an26, an27, an28, an29, an30, an31, an32, an33, an34, an35, an36, an37, an38, ne_eq, inR_ii, decide_eq_true_eq, lit_ii, of_ii, ii_eq, ii_lt, ii_le]; first | done | omega)) only [e1, e_Mo_readProduct, b_Mo_readProduct_0, b_Mo_readProduct_4, b_Mo_readProduct_8, b_Mo_readProduct_90, r_fineF R1, dr_some, Option.isSome_some, gR_wI, Nat.add_mul_mod_self_left, Nat.reduceMod, ak20, ak21, ak22, ak23, ak24, ak25, ak26, ak27, ak28, ak29, ak30, ak31, ak32, ak33, ak34, ak35, ak36, an20, an21, an22, an23, an24, an25, an26, an27, an28, an29, an30, an31, an32, an33, an34, an35, an36, an37, an38, ↓reduceIte, bk_int, bk_void, bk_long, bkN_int, bkN_void, bkN_long, Nat.reduceAdd, Nat.reduceMul, Nat.reduceSub, Nat.reduceLT, Nat.reduceLeDiff, if_true, if_false, not_true_eq_false, not_false_eq_true, Bool.true_eq_false, Bool.false_eq_true, b2_eq0, Nat.add_zero, Nat.zero_add, Nat.not_lt_zero, Nat.zero_le, ite_true, ite_false, decide_true, decide_false, lit_ii, of_ii, le_T, le_F, lt_T, lt_F, eq_T, eq_F, ii_add, ii_mul, ii_nat, ii_le, ii_lt, ii_eq, inR_ii, ii_add0]
  | inl s' =>
    rw [hu] at Q1 f1
    obtain ⟨A1, C1, o1⟩ := Q1
    obtain ⟨g1, g2, g3⟩ := f1
    obtain ⟨σ2, e2, Q2, F2⟩ := l_prodL hU hfw hn (d := e) (by omega) (by omega) (n + 1) s' σ1 none A1 C1 (by omega) o1 (by omega)
    refine ⟨σ2, ?_, Q2, F1.tr F2⟩
    rw [← e2]
    simp (disch := first | omega | exact b2_01 _ | exact ii0_01 | exact ii1_01 | (simp (disch := omega) only [e1, dr_some, Option.isSome_some, gR_wI, Nat.add_mul_mod_self_left, Nat.reduceMod, ak20, ak21, ak22, ak23, ak24, ak25, ak26, ak27, ak28, ak29, ak30, ak31, ak32, ak33, ak34, ak35, ak36, an20, an21, an22, an23, an24, an25, an26, an27, an28, an29, an30, an31, an32, an33, an34, an35, an36, an37, an38, ne_eq, inR_ii, decide_eq_true_eq, lit_ii, of_ii, ii_eq, ii_lt, ii_le]; first | done | omega)) only [e1, e_Mo_readProduct, b_Mo_readProduct_0, dr_some, Option.isSome_some, gR_wI, Nat.add_mul_mod_self_left, Nat.reduceMod, ak20, ak21, ak22, ak23, ak24, ak25, ak26, ak27, ak28, ak29, ak30, ak31, ak32, ak33, ak34, ak35, ak36, an20, an21, an22, an23, an24, an25, an26, an27, an28, an29, an30, an31, an32, an33, an34, an35, an36, an37, an38, ↓reduceIte, bk_int, bk_void, bk_long, bkN_int, bkN_void, bkN_long, Nat.reduceAdd, Nat.reduceMul, Nat.reduceSub, Nat.reduceLT, Nat.reduceLeDiff, if_true, if_false, not_true_eq_false, not_false_eq_true, Bool.true_eq_false, Bool.false_eq_true, b2_eq0, Nat.add_zero, Nat.zero_add, Nat.not_lt_zero, Nat.zero_le, ite_true, ite_false, decide_true, decide_false, lit_ii, of_ii, le_T, le_F, lt_T, lt_F, eq_T, eq_F, ii_add, ii_mul, ii_nat, ii_le, ii_lt, ii_eq, inR_ii, ii_add0]
/-- a chain of sums -/
theorem l_sumL {T : Nat → Nat} {n o b : Nat} {U : LwT → PR LwT} (hU : UCm T n m_Mo_readProduct o b U) (hfw : ∀ s : LwT, s.1 ≤ n → fwd n s (U s)) (hn : n ≤ 150) {d : Nat} (hd : b ≤ d) (hd4 : 4 ≤ d) : ∀ f (s : LwT) σ l1, RD σ T n s.1 → LCm σ s.2.1 s.2.2 → s.2.1 ≤ s.1 → gI σ 3980 7 = ii o → n - s.1 < f → ∃ σ', runF (callF d) d m_Mo_readSum (4, [some (.ref 3980), l1], [], σ) = some (.inl none, σ') ∧ LQm σ' T n o (lwC T n U isP f s) ∧ Fm MlF σ σ' := by
  obtain ⟨d, rfl⟩ : ∃ e, d = e + 4 := ⟨d - 4, by omega⟩
  intro f
  induction f with
  | zero => intro s σ l1 A _ _ _ h; omega
  | succ f ih =>
    intro s σ l1 A C hs ho hf9
    have hp := A.p
    have hsk := sk_ge (T := T) hp.1
    have ek : sk T n (sk T n s.1) = sk T n s.1 := rn_rn hp.1
    have hr2 : hrV T n (sk T n s.1) = hrV T n s.1 := by unfold hrV; rw [ek]
    obtain ⟨σ1, e1, A1, F1⟩ := r_here (d := d + 3) A
    obtain ⟨σ2, e2, A2, F2⟩ := r_here (d := d + 3) A1
    rw [ek] at A2
    rw [hr2] at e2
    have hl := hr_lt A
    unfold lwC
    by_cases z : sk T n s.1 < n ∧ isP (T (sk T n s.1)) = true
    · rw [if_pos z]
      have zM := of_decide_eq_true z.2
      have hv := hrV_in z.1
      have key : ∃ τ, runF (callF (d + 4)) (d + 4) m_Mo_readSum (4, [some (.ref 3980), l1], [], σ) = runF (callF (d + 4)) (d + 4) m_Mo_readSum (43, [some (.ref 3980), l1], [.int (ii (kW (2000 + T (sk T n s.1))))], τ) ∧ RD τ T n (sk T n s.1) ∧ Fm Mat σ τ := by
        rcases zM with y | y
        · have y' : hrV T n s.1 = 43 := by omega
          rw [y'] at e1 e2
          refine ⟨σ2, ?_, A2, F1.tr F2⟩
          rw [y]
          conv => lhs; simp (disch := first | omega | exact b2_01 _ | exact ii0_01 | exact ii1_01 | (simp (disch := omega) only [e1, e2, dr_some, Option.isSome_some, gR_wI, Nat.add_mul_mod_self_left, Nat.reduceMod, ak20, ak21, ak22, ak23, ak24, ak25, ak26, ak27, ak28, ak29, ak30, ak31, ak32, ak33, ak34, ak35, ak36, an20, an21, an22, an23, an24, an25, an26, an27, an28, an29, an30, an31, an32, an33, an34, an35, an36, an37, an38, ne_eq, inR_ii, decide_eq_true_eq, lit_ii, of_ii, ii_eq, ii_lt, ii_le]; first | done | omega)) only [e1, e2, b_Mo_readSum_4, b_Mo_readSum_8, b_Mo_readSum_11, b_Mo_readSum_15, b_Mo_readSum_29, b_Mo_readSum_33, b_Mo_readSum_38, r_fineT A, Nat.succ_ne_zero, dr_some, Option.isSome_some, gR_wI, Nat.add_mul_mod_self_left, Nat.reduceMod, ak20, ak21, ak22, ak23, ak24, ak25, ak26, ak27, ak28, ak29, ak30, ak31, ak32, ak33, ak34, ak35, ak36, an20, an21, an22, an23, an24, an25, an26, an27, an28, an29, an30, an31, an32, an33, an34, an35, an36, an37, an38, ↓reduceIte, bk_int, bk_void, bk_long, bkN_int, bkN_void, bkN_long, Nat.reduceAdd, Nat.reduceMul, Nat.reduceSub, Nat.reduceLT, Nat.reduceLeDiff, if_true, if_false, not_true_eq_false, not_false_eq_true, Bool.true_eq_false, Bool.false_eq_true, b2_eq0, Nat.add_zero, Nat.zero_add, Nat.not_lt_zero, Nat.zero_le, ite_true, ite_false, decide_true, decide_false, lit_ii, of_ii, le_T, le_F, lt_T, lt_F, eq_T, eq_F, ii_add, ii_mul, ii_nat, ii_le, ii_lt, ii_eq, inR_ii, ii_add0]
          rfl
        · have y' : hrV T n s.1 = 45 := by omega
          rw [y'] at e1 e2
          obtain ⟨σ3, e3, A3, F3⟩ := r_here (d := d + 3) A2
          rw [ek] at A3
          rw [hr2, y'] at e3
          refine ⟨σ3, ?_, A3, (F1.tr F2).tr F3⟩
          rw [y]
          conv => lhs; simp (disch := first | omega | exact b2_01 _ | exact ii0_01 | exact ii1_01 | (simp (disch := omega) only [e1, e2, e3, dr_some, Option.isSome_some, gR_wI, Nat.add_mul_mod_self_left, Nat.reduceMod, ak20, ak21, ak22, ak23, ak24, ak25, ak26, ak27, ak28, ak29, ak30, ak31, ak32, ak33, ak34, ak35, ak36, an20, an21, an22, an23, an24, an25, an26, an27, an28, an29, an30, an31, an32, an33, an34, an35, an36, an37, an38, ne_eq, inR_ii, decide_eq_true_eq, lit_ii, of_ii, ii_eq, ii_lt, ii_le]; first | done | omega)) only [e1, e2, e3, b_Mo_readSum_4, b_Mo_readSum_8, b_Mo_readSum_11, b_Mo_readSum_15, b_Mo_readSum_20, b_Mo_readSum_24, b_Mo_readSum_29, b_Mo_readSum_33, b_Mo_readSum_42, r_fineT A, Nat.succ_ne_zero, Nat.reduceEqDiff, dr_some, Option.isSome_some, gR_wI, Nat.add_mul_mod_self_left, Nat.reduceMod, ak20, ak21, ak22, ak23, ak24, ak25, ak26, ak27, ak28, ak29, ak30, ak31, ak32, ak33, ak34, ak35, ak36, an20, an21, an22, an23, an24, an25, an26, an27, an28, an29, an30, an31, an32, an33, an34, an35, an36, an37, an38, ↓reduceIte, bk_int, bk_void, bk_long, bkN_int, bkN_void, bkN_long, Nat.reduceAdd, Nat.reduceMul, Nat.reduceSub, Nat.reduceLT, Nat.reduceLeDiff, if_true, if_false, not_true_eq_false, not_false_eq_true, Bool.true_eq_false, Bool.false_eq_true, b2_eq0, Nat.add_zero, Nat.zero_add, Nat.not_lt_zero, Nat.zero_le, ite_true, ite_false, decide_true, decide_false, lit_ii, of_ii, le_T, le_F, lt_T, lt_F, eq_T, eq_F, ii_add, ii_mul, ii_nat, ii_le, ii_lt, ii_eq, inR_ii, ii_add0]
          rfl
      obtain ⟨τ, eτ, Aτ, Fτ⟩ := key
      rw [eτ]
      have A6 := Aτ.at (q := sk T n s.1 + 1) (by omega)
      have C6 : LCm (wI τ 3980 4 (ii (sk T n s.1 + 1))) s.2.1 s.2.2 := C.rd ((Mat_rd Fτ).w (by unfold Mrd; omega))
      have F6 : Fm MlF σ (wI τ 3980 4 (ii (sk T n s.1 + 1))) := (Mat_lF Fτ).w (by unfold MlF; omega)
      have o6 : gI (wI τ 3980 4 (ii (sk T n s.1 + 1))) 3980 7 = ii o := (gI_nj (by omega)).trans ((Fτ.I (by unfold Mat; omega)).trans ho)
      have f6 := hfw (sk T n s.1 + 1, s.2.1, s.2.2) (by show sk T n s.1 + 1 ≤ n; omega)
      obtain ⟨σ7, e7, Q7, F7⟩ := hU (d + 4) (by omega) _ (sk T n s.1 + 1, s.2.1, s.2.2) A6 C6 (by show s.2.1 ≤ sk T n s.1 + 1; omega) o6
      have e4' := Aτ.2.2.2.1
      cases hu : U (sk T n s.1 + 1, s.2.1, s.2.2) with
      | inr G =>
        rw [hu] at Q7
        have R7 : RB σ7 G := Q7
        refine ⟨σ7, ?_, R7, F6.tr F7⟩
        simp (disch := first | omega | exact b2_01 _ | exact ii0_01 | exact ii1_01 | (simp (disch := omega) only [e4', e7, dr_some, Option.isSome_some, gR_wI, Nat.add_mul_mod_self_left, Nat.reduceMod, ak20, ak21, ak22, ak23, ak24, ak25, ak26, ak27, ak28, ak29, ak30, ak31, ak32, ak33, ak34, ak35, ak36, an20, an21, an22, an23, an24, an25, an26, an27, an28, an29, an30, an31, an32, an33, an34, an35, an36, an37, an38, ne_eq, inR_ii, decide_eq_true_eq, lit_ii, of_ii, ii_eq, ii_lt, ii_le]; first | done | omega)) only [e4', e7, b_Mo_readSum_43, b_Mo_readSum_58, b_Mo_readSum_64, b_Mo_readSum_4, b_Mo_readSum_8, b_Mo_readSum_67, r_emitB R7, r_fineF R7, dr_some, Option.isSome_some, gR_wI, Nat.add_mul_mod_self_left, Nat.reduceMod, ak20, ak21, ak22, ak23, ak24, ak25, ak26, ak27, ak28, ak29, ak30, ak31, ak32, ak33, ak34, ak35, ak36, an20, an21, an22, an23, an24, an25, an26, an27, an28, an29, an30, an31, an32, an33, an34, an35, an36, an37, an38, ↓reduceIte, bk_int, bk_void, bk_long, bkN_int, bkN_void, bkN_long, Nat.reduceAdd, Nat.reduceMul, Nat.reduceSub, Nat.reduceLT, Nat.reduceLeDiff, if_true, if_false, not_true_eq_false, not_false_eq_true, Bool.true_eq_false, Bool.false_eq_true, b2_eq0, Nat.add_zero, Nat.zero_add, Nat.not_lt_zero, Nat.zero_le, ite_true, ite_false, decide_true, decide_false, lit_ii, of_ii, le_T, le_F, lt_T, lt_F, eq_T, eq_F, ii_add, ii_mul, ii_nat, ii_le, ii_lt, ii_eq, inR_ii, ii_add0]
      | inl s' =>
        rw [hu] at Q7 f6
        obtain ⟨A7, C7, o7⟩ := Q7
        obtain ⟨g1, g2, g3⟩ := f6
        simp only at g1 g3
        obtain ⟨σ8, e8, A8, C8, o8, F8⟩ := r_emit (d := d + 2) (v := 2000 + T (sk T n s.1)) A7 C7 (by omega) rfl (show ii 0 = ii (kO (2000 + T (sk T n s.1))) from by unfold kO; rw [if_neg (by omega), if_neg (by omega)])
        obtain ⟨σ9, e9, Q9, F9⟩ := ih (emt s' (2000 + T (sk T n s.1))) σ8 (some (.int (ii (kW (2000 + T (sk T n s.1)))))) A8 C8 (by show s'.2.1 + 1 ≤ s'.1; omega) (o8.trans o7) (by show n - s'.1 < f; omega)
        refine ⟨σ9, ?_, Q9, ((F6.tr F7).tr F8).tr F9⟩
        rw [← e9]
        conv => lhs; simp (disch := first | omega | exact b2_01 _ | exact ii0_01 | exact ii1_01 | (simp (disch := omega) only [e4', e7, e8, dr_some, Option.isSome_some, gR_wI, Nat.add_mul_mod_self_left, Nat.reduceMod, ak20, ak21, ak22, ak23, ak24, ak25, ak26, ak27, ak28, ak29, ak30, ak31, ak32, ak33, ak34, ak35, ak36, an20, an21, an22, an23, an24, an25, an26, an27, an28, an29, an30, an31, an32, an33, an34, an35, an36, an37, an38, ne_eq, inR_ii, decide_eq_true_eq, lit_ii, of_ii, ii_eq, ii_lt, ii_le]; first | done | omega)) only [e4', e7, e8, b_Mo_readSum_43, b_Mo_readSum_58, b_Mo_readSum_64, dr_some, Option.isSome_some, gR_wI, Nat.add_mul_mod_self_left, Nat.reduceMod, ak20, ak21, ak22, ak23, ak24, ak25, ak26, ak27, ak28, ak29, ak30, ak31, ak32, ak33, ak34, ak35, ak36, an20, an21, an22, an23, an24, an25, an26, an27, an28, an29, an30, an31, an32, an33, an34, an35, an36, an37, an38, ↓reduceIte, bk_int, bk_void, bk_long, bkN_int, bkN_void, bkN_long, Nat.reduceAdd, Nat.reduceMul, Nat.reduceSub, Nat.reduceLT, Nat.reduceLeDiff, if_true, if_false, not_true_eq_false, not_false_eq_true, Bool.true_eq_false, Bool.false_eq_true, b2_eq0, Nat.add_zero, Nat.zero_add, Nat.not_lt_zero, Nat.zero_le, ite_true, ite_false, decide_true, decide_false, lit_ii, of_ii, le_T, le_F, lt_T, lt_F, eq_T, eq_F, ii_add, ii_mul, ii_nat, ii_le, ii_lt, ii_eq, inR_ii, ii_add0]
    · rw [if_neg z]
      have hno : ¬ hrV T n s.1 = 43 ∧ ¬ hrV T n s.1 = 45 := by
        by_cases y : sk T n s.1 < n
        · rw [hrV_in y]
          refine ⟨fun h => z ⟨y, decide_eq_true (Or.inl h)⟩, fun h => z ⟨y, decide_eq_true (Or.inr h)⟩⟩
        · rw [hrV_out y]
          omega
      have n1 := hno.1
      have n2 := hno.2
      refine ⟨σ2, ?_, ⟨A2, C.rd (Mat_rd (F1.tr F2)), ((F1.tr F2).I (by unfold Mat; omega)).trans ho⟩, Mat_lF (F1.tr F2)⟩
      simp (disch := first | omega | exact b2_01 _ | exact ii0_01 | exact ii1_01 | (simp (disch := omega) only [e1, e2, dr_some, Option.isSome_some, gR_wI, Nat.add_mul_mod_self_left, Nat.reduceMod, ak20, ak21, ak22, ak23, ak24, ak25, ak26, ak27, ak28, ak29, ak30, ak31, ak32, ak33, ak34, ak35, ak36, an20, an21, an22, an23, an24, an25, an26, an27, an28, an29, an30, an31, an32, an33, an34, an35, an36, an37, an38, ne_eq, inR_ii, decide_eq_true_eq, lit_ii, of_ii, ii_eq, ii_lt, ii_le]; first | done | omega)) only [e1, e2, b_Mo_readSum_4, b_Mo_readSum_8, b_Mo_readSum_11, b_Mo_readSum_15, b_Mo_readSum_20, b_Mo_readSum_24, b_Mo_readSum_67, r_fineT A, n1, n2, Nat.succ_ne_zero, dr_some, Option.isSome_some, gR_wI, Nat.add_mul_mod_self_left, Nat.reduceMod, ak20, ak21, ak22, ak23, ak24, ak25, ak26, ak27, ak28, ak29, ak30, ak31, ak32, ak33, ak34, ak35, ak36, an20, an21, an22, an23, an24, an25, an26, an27, an28, an29, an30, an31, an32, an33, an34, an35, an36, an37, an38, ↓reduceIte, bk_int, bk_void, bk_long, bkN_int, bkN_void, bkN_long, Nat.reduceAdd, Nat.reduceMul, Nat.reduceSub, Nat.reduceLT, Nat.reduceLeDiff, if_true, if_false, not_true_eq_false, not_false_eq_true, Bool.true_eq_false, Bool.false_eq_true, b2_eq0, Nat.add_zero, Nat.zero_add, Nat.not_lt_zero, Nat.zero_le, ite_true, ite_false, decide_true, decide_false, lit_ii, of_ii, le_T, le_F, lt_T, lt_F, eq_T, eq_F, ii_add, ii_mul, ii_nat, ii_le, ii_lt, ii_eq, inR_ii, ii_add0]
theorem lm_sum {T : Nat → Nat} {n o b : Nat} {U : LwT → PR LwT} (hU : UCm T n m_Mo_readUnit o b U) (hfw : ∀ s : LwT, s.1 ≤ n → fwd n s (U s)) (hn : n ≤ 150) (hb : 4 ≤ b) : UCm T n m_Mo_readSum o (b + 2) (lwSum T n U) := by
  have hP := lm_prod hU hfw hn hb
  have hPf : ∀ s : LwT, s.1 ≤ n → fwd n s (lwPrd T n U s) := lwPrd_fwd hfw
  intro e he σ s A C hs ho
  obtain ⟨e, rfl⟩ : ∃ k, e = k + 1 := ⟨e - 1, by omega⟩
  obtain ⟨σ1, e1, Q1, F1⟩ := hP e (by omega) σ s A C hs ho
  have f1 := hPf s A.p.1
  unfold lwSum
  cases hu : lwPrd T n U s with
  | inr G =>
    rw [hu] at Q1
    have R1 : RB σ1 G := Q1
    obtain ⟨e, rfl⟩ : ∃ k, e = k + 1 := ⟨e - 1, by omega⟩
    refine ⟨σ1, ?_, R1, F1⟩
    simp (disch := first | omega | exact b2_01 _ | exact ii0_01 | exact ii1_01 | (simp (disch := omega) only [e1, dr_some, Option.isSome_some, gR_wI, Nat.add_mul_mod_self_left, Nat.reduceMod, ak20, ak21, ak22, ak23, ak24, ak25, ak26, ak27, ak28, ak29, ak30, ak31, ak32, ak33, ak34, ak35, ak36, an20, an21, an22, an23, an24, an25, an26, an27, an28, an29, an30, an31, an32, an33, an34, an35, an36, an37, an38, ne_eq, inR_ii, decide_eq_true_eq, lit_ii, of_ii, ii_eq, ii_lt, ii_le]; first | done | omega)) only [e1, e_Mo_readSum, b_Mo_readSum_0, b_Mo_readSum_4, b_Mo_readSum_8, b_Mo_readSum_67, r_fineF R1, dr_some, Option.isSome_some, gR_wI, Nat.add_mul_mod_self_left, Nat.reduceMod, ak20, ak21, ak22, ak23, ak24, ak25, ak26, ak27, ak28, ak29, ak30, ak31, ak32, ak33, ak34, ak35, ak36, an20, an21, an22, an23, an24, an25, an26, an27, an28, an29, an30, an31, an32, an33, an34, an35, an36, an37, an38, ↓reduceIte, bk_int, bk_void, bk_long, bkN_int, bkN_void, bkN_long, Nat.reduceAdd, Nat.reduceMul, Nat.reduceSub, Nat.reduceLT, Nat.reduceLeDiff, if_true, if_false, not_true_eq_false, not_false_eq_true, Bool.true_eq_false, Bool.false_eq_true, b2_eq0, Nat.add_zero, Nat.zero_add, Nat.not_lt_zero, Nat.zero_le, ite_true, ite_false, decide_true, decide_false, lit_ii, of_ii, le_T, le_F, lt_T, lt_F, eq_T, eq_F, ii_add, ii_mul, ii_nat, ii_le, ii_lt, ii_eq, inR_ii, ii_add0]
  | inl s' =>
    rw [hu] at Q1 f1
    obtain ⟨A1, C1, o1⟩ := Q1
    obtain ⟨g1, g2, g3⟩ := f1
    obtain ⟨σ2, e2, Q2, F2⟩ := l_sumL hP hPf hn (d := e) (by omega) (by omega) (n + 1) s' σ1 none A1 C1 (by omega) o1 (by omega)
    refine ⟨σ2, ?_, Q2, F1.tr F2⟩
    rw [← e2]
    simp (disch := first | omega | exact b2_01 _ | exact ii0_01 | exact ii1_01 | (simp (disch := omega) only [e1, dr_some, Option.isSome_some, gR_wI, Nat.add_mul_mod_self_left, Nat.reduceMod, ak20, ak21, ak22, ak23, ak24, ak25, ak26, ak27, ak28, ak29, ak30, ak31, ak32, ak33, ak34, ak35, ak36, an20, an21, an22, an23, an24, an25, an26, an27, an28, an29, an30, an31, an32, an33, an34, an35, an36, an37, an38, ne_eq, inR_ii, decide_eq_true_eq, lit_ii, of_ii, ii_eq, ii_lt, ii_le]; first | done | omega)) only [e1, e_Mo_readSum, b_Mo_readSum_0, dr_some, Option.isSome_some, gR_wI, Nat.add_mul_mod_self_left, Nat.reduceMod, ak20, ak21, ak22, ak23, ak24, ak25, ak26, ak27, ak28, ak29, ak30, ak31, ak32, ak33, ak34, ak35, ak36, an20, an21, an22, an23, an24, an25, an26, an27, an28, an29, an30, an31, an32, an33, an34, an35, an36, an37, an38, ↓reduceIte, bk_int, bk_void, bk_long, bkN_int, bkN_void, bkN_long, Nat.reduceAdd, Nat.reduceMul, Nat.reduceSub, Nat.reduceLT, Nat.reduceLeDiff, if_true, if_false, not_true_eq_false, not_false_eq_true, Bool.true_eq_false, Bool.false_eq_true, b2_eq0, Nat.add_zero, Nat.zero_add, Nat.not_lt_zero, Nat.zero_le, ite_true, ite_false, decide_true, decide_false, lit_ii, of_ii, le_T, le_F, lt_T, lt_F, eq_T, eq_F, ii_add, ii_mul, ii_nat, ii_le, ii_lt, ii_eq, inR_ii, ii_add0]
