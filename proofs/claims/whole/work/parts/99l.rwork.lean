/-! THE REFERENCE: steps told -/
def NS (σ : HP) (k : Nat) (ks : Nat → Nat × Nat × Nat) : Prop := gI σ 3980 32 = ii (3 * k) ∧ ∀ i, i < k → gI σ 4829 (3 * i) = ii (ks i).1 ∧ gI σ 4829 (3 * i + 1) = ii (ks i).2.1 ∧ gI σ 4829 (3 * i + 2) = ii (if (ks i).1 = 7 then 3 * (ks i).2.2 else (ks i).2.2)
def MwF (a j : Nat) : Prop := (a = 3980 ∧ (j = 4 ∨ j = 5 ∨ j = 6 ∨ j = 7 ∨ j = 32)) ∨ a = 4829
theorem Mrd_wF {σ σ' : HP} (F : Fm Mrd σ σ') : Fm MwF σ σ' := F.mono (fun a j z => by unfold Mrd at z; unfold MwF; omega)
theorem Mat_wF {σ σ' : HP} (F : Fm Mat σ σ') : Fm MwF σ σ' := Mrd_wF (Mat_rd F)
theorem NS.fm {S : Nat → Nat → Prop} {σ σ' : HP} {k : Nat} {ks : Nat → Nat × Nat × Nat} (A : NS σ k ks) (F : Fm S σ σ') (h1 : ¬ S 3980 32) (h2 : ∀ j, ¬ S 4829 j) : NS σ' k ks :=
  ⟨(F.I h1).trans A.1, fun i hi => ⟨(F.I (h2 _)).trans (A.2 i hi).1, (F.I (h2 _)).trans (A.2 i hi).2.1, (F.I (h2 _)).trans (A.2 i hi).2.2⟩⟩
theorem NS.rd {σ σ' : HP} {k : Nat} {ks : Nat → Nat × Nat × Nat} (A : NS σ k ks) (F : Fm Mrd σ σ') : NS σ' k ks := A.fm F (by unfold Mrd; omega) (fun j => by unfold Mrd; omega)
theorem NS.o {σ : HP} {k : Nat} {ks : Nat → Nat × Nat × Nat} {v : Int32} (A : NS σ k ks) : NS (wI σ 3980 7 v) k ks := A.fm (S := fun a j => a = 3980 ∧ j = 7) (Fm.w Fm.rf ⟨rfl, rfl⟩) (by omega) (fun j => by omega)
def WQm (σ : HP) (T : Nat → Nat) (n o : Nat) (r : PR WkT) : Prop := match r with
  | .inl s => RD σ T n s.1 ∧ NS σ s.2.1 s.2.2 ∧ gI σ 3980 7 = ii o
  | .inr F => RB σ F
def bndW (r : PR WkT) (f : WkT → PR WkT) : PR WkT := match r with
  | .inl s => f s
  | .inr F => .inr F
def MH3 (σ : HP) (H : HH) : Prop := gI σ 3980 18 = ii (hm H) ∧ gI σ 3980 19 = ii (hc H) ∧ gI σ 3980 20 = ii (hf H)
theorem MH3.wf {σ σ' : HP} {H : HH} (A : MH3 σ H) (F : Fm MwF σ σ') : MH3 σ' H := ⟨(F.I (by unfold MwF; omega)).trans A.1, (F.I (by unfold MwF; omega)).trans A.2.1, (F.I (by unfold MwF; omega)).trans A.2.2⟩
def SCm (T : Nat → Nat) (n : Nat) (H : HH) (o b : Nat) (St : WkT → PR WkT) : Prop := ∀ e, b ≤ e → ∀ (σ : HP) (s : WkT), RD σ T n s.1 → sk T n s.1 = s.1 → NS σ s.2.1 s.2.2 → 3 * s.2.1 ≤ s.1 → gI σ 3980 7 = ii o → MH3 σ H → ∃ σ', callF e m_Mo_readStep [.ref 3980] σ = some (.inl none, σ') ∧ WQm σ' T n o (bndW (St s) (sgnW T n 59)) ∧ Fm MwF σ σ'
theorem SCm.mono {T : Nat → Nat} {n o b b' : Nat} {H : HH} {St : WkT → PR WkT} (h : SCm T n H o b St) (hb : b ≤ b') : SCm T n H o b' St := fun e he => h e (by omega)
theorem r_tell {d k x a b : Nat} {σ : HP} {T : Nat → Nat} {n p : Nat} {ks : Nat → Nat × Nat × Nat} {b' : Int32} (A : RD σ T n p) (N : NS σ k ks) (hk : 3 * k + 2 < 150) (hb : b' = ii (if x = 7 then 3 * b else b)) : ∃ σ', callF (d + 2) m_Mo_tellsStep [.ref 3980, .int (ii x), .int (ii a), .int b'] σ = some (.inl none, σ') ∧ RD σ' T n p ∧ NS σ' (k + 1) (upS ks k (x, a, b)) ∧ gI σ' 3980 7 = gI σ 3980 7 ∧ Fm MwF σ σ' := by
  subst hb
  obtain ⟨c1, c2⟩ := N
  have F : Fm (fun a j => (a = 3980 ∧ j = 32) ∨ a = 4829) σ (wI (wI (wI (wI σ 4829 (3 * k) (ii x)) 4829 (3 * k + 1) (ii a)) 4829 (3 * k + 2) (ii (if x = 7 then 3 * b else b))) 3980 32 (ii (3 * k + 3))) := (((Fm.rf.w (by omega)).w (by omega)).w (by omega)).w (by omega)
  refine ⟨_, ?_, A.fm F (fun j => by omega) (fun j z => by omega), ⟨gI_at, fun i hi => ?_⟩, F.I (by omega), F.mono (fun a j z => by unfold MwF; omega)⟩
  · have a0 := A.1
    have q1 : gI (wI σ 4829 (3 * k) (ii x)) 3980 32 = ii (3 * k) := (gI_ne (by omega)).trans c1
    have q2 : gI (wI (wI σ 4829 (3 * k) (ii x)) 4829 (3 * k + 1) (ii a)) 3980 32 = ii (3 * k) := (gI_ne (by omega)).trans q1
    have q3 : gI (wI (wI (wI σ 4829 (3 * k) (ii x)) 4829 (3 * k + 1) (ii a)) 4829 (3 * k + 2) (ii (if x = 7 then 3 * b else b))) 3980 32 = ii (3 * k) := (gI_ne (by omega)).trans q2
    generalize (if x = 7 then 3 * b else b) = b0 at *
    obtain ⟨z1, z9, z10, z11, z12, z13, z22, z23, z24, z25, z26, z29, z30, z31, z38, z39, z40, z41, z42, z44, z45, z46, z47, z49⟩ := id a0
    simp (disch := first | omega | exact ak27 | exact ak29 | exact ak20 | exact ak21 | exact ak22 | exact ak23 | exact ak24 | exact ak25 | exact ak28 | exact ak30 | exact ak31 | exact ak32 | exact ak33 | exact b2_01 _ | exact ii0_01 | exact ii1_01 | (simp (disch := omega) only [z1, z9, z10, z11, z12, z13, z22, z23, z24, z25, z26, z29, z30, z31, z38, z39, z40, z41, z42, z44, z45, z46, z47, z49, c1, q1, q2, q3, dr_some, Option.isSome_some, gR_wI, Nat.add_mul_mod_self_left, Nat.reduceMod, ak20, ak21, ak22, ak23, ak24, ak25, ak26, ak27, ak28, ak29, ak30, ak31, ak32, ak33, ak34, ak35, ak36, an20, an21, an22, an23, an24, an25, an26, an27, an28, an29, an30, an31, an32, an33, an34, an35, an36, an37, an38, ne_eq, inR_ii, decide_eq_true_eq, lit_ii, of_ii, ii_eq, ii_lt, ii_le, ii_add, ii_mul, ii_sub, ii_pred, ii_nat]; first | done | omega)) only [z1, z9, z10, z11, z12, z13, z22, z23, z24, z25, z26, z29, z30, z31, z38, z39, z40, z41, z42, z44, z45, z46, z47, z49, c1, q1, q2, q3, e_Mo_tellsStep, b_Mo_tellsStep_0, b_Mo_tellsStep_4, b_Mo_tellsStep_7, b_Mo_tellsStep_8, r_fineT A, Nat.succ_ne_zero, dr_some, Option.isSome_some, gR_wI, Nat.add_mul_mod_self_left, Nat.reduceMod, ak20, ak21, ak22, ak23, ak24, ak25, ak26, ak27, ak28, ak29, ak30, ak31, ak32, ak33, ak34, ak35, ak36, an20, an21, an22, an23, an24, an25, an26, an27, an28, an29, an30, an31, an32, an33, an34, an35, an36, an37, an38, ↓reduceIte, bk_int, bk_void, bk_long, bkN_int, bkN_void, bkN_long, Nat.reduceAdd, Nat.reduceMul, Nat.reduceSub, Nat.reduceLT, Nat.reduceLeDiff, if_true, if_false, not_true_eq_false, not_false_eq_true, Bool.true_eq_false, Bool.false_eq_true, b2_eq0, Nat.add_zero, Nat.zero_add, Nat.not_lt_zero, Nat.zero_le, ite_true, ite_false, decide_true, decide_false, lit_ii, of_ii, le_T, le_F, lt_T, lt_F, eq_T, eq_F, ii_add, ii_mul, ii_nat, ii_le, ii_lt, ii_eq, inR_ii, ii_add0]
  · by_cases z : i = k
    · subst z
      rw [upS_at]
      refine ⟨?_, ?_, ?_⟩
      · rw [gI_ne (by omega), gI_nj (by omega), gI_nj (by omega)]
        exact gI_at
      · rw [gI_ne (by omega), gI_nj (by omega)]
        exact gI_at
      · rw [gI_ne (by omega)]
        exact gI_at
    · rw [upS_ne z]
      obtain ⟨w1, w2, w3⟩ := c2 i (by omega)
      refine ⟨?_, ?_, ?_⟩
      · rw [gI_ne (by omega), gI_nj (by omega), gI_nj (by omega), gI_nj (by omega)]
        exact w1
      · rw [gI_ne (by omega), gI_nj (by omega), gI_nj (by omega), gI_nj (by omega)]
        exact w2
      · rw [gI_ne (by omega), gI_nj (by omega), gI_nj (by omega), gI_nj (by omega)]
        exact w3
theorem r_tellB {d : Nat} {x y z : Int32} {σ : HP} {G : Nat × Nat} (R : RB σ G) : callF (d + 2) m_Mo_tellsStep [.ref 3980, .int x, .int y, .int z] σ = some (.inl none, σ) := by
  simp (disch := first | omega | exact b2_01 _ | exact ii0_01 | exact ii1_01 | (simp (disch := omega) only [Nat.le_refl, dr_some, Option.isSome_some, gR_wI, Nat.add_mul_mod_self_left, Nat.reduceMod, ak20, ak21, ak22, ak23, ak24, ak25, ak26, ak27, ak28, ak29, ak30, ak31, ak32, ak33, ak34, ak35, ak36, an20, an21, an22, an23, an24, an25, an26, an27, an28, an29, an30, an31, an32, an33, an34, an35, an36, an37, an38, ne_eq, inR_ii, decide_eq_true_eq, lit_ii, of_ii, ii_eq, ii_lt, ii_le]; first | done | omega)) only [Nat.le_refl, e_Mo_tellsStep, b_Mo_tellsStep_0, b_Mo_tellsStep_4, b_Mo_tellsStep_7, b_Mo_tellsStep_8, r_fineF R, dr_some, Option.isSome_some, gR_wI, Nat.add_mul_mod_self_left, Nat.reduceMod, ak20, ak21, ak22, ak23, ak24, ak25, ak26, ak27, ak28, ak29, ak30, ak31, ak32, ak33, ak34, ak35, ak36, an20, an21, an22, an23, an24, an25, an26, an27, an28, an29, an30, an31, an32, an33, an34, an35, an36, an37, an38, ↓reduceIte, bk_int, bk_void, bk_long, bkN_int, bkN_void, bkN_long, Nat.reduceAdd, Nat.reduceMul, Nat.reduceSub, Nat.reduceLT, Nat.reduceLeDiff, if_true, if_false, not_true_eq_false, not_false_eq_true, Bool.true_eq_false, Bool.false_eq_true, b2_eq0, Nat.add_zero, Nat.zero_add, Nat.not_lt_zero, Nat.zero_le, ite_true, ite_false, decide_true, decide_false, lit_ii, of_ii, le_T, le_F, lt_T, lt_F, eq_T, eq_F, ii_add, ii_mul, ii_nat, ii_le, ii_lt, ii_eq, inR_ii, ii_add0]
theorem r_stepOf {d : Nat} {σ : HP} {T : Nat → Nat} {n p : Nat} (A : RD σ T n p) : callF (d + 6) m_Mo_stepOf [.int (ii (wdV T n p))] σ = some (.inl (some (.int (oi (wdX 3 T n p)))), σ) := by
  obtain ⟨ks, kn⟩ := wk3w A.p.1 A.lt
  have wl := wdV_lt A
  cases hx : wdX 3 T n p with
  | none =>
    have n0 := kn hx 0 (by omega)
    have n1 := kn hx 1 (by omega)
    have n2 := kn hx 2 (by omega)
    have n3 := kn hx 3 (by omega)
    have n4 := kn hx 4 (by omega)
    have n5 := kn hx 5 (by omega)
    have n6 := kn hx 6 (by omega)
    have n7 := kn hx 7 (by omega)
    simp only [Nat.reduceAdd, Nat.add_zero, pv_19, pv_20, pv_21, pv_22, pv_23, pv_24, pv_25, pv_26] at n0 n1 n2 n3 n4 n5 n6 n7
    simp (disch := first | omega | exact b2_01 _ | exact ii0_01 | exact ii1_01 | (simp (disch := omega) only [Nat.le_refl, dr_some, Option.isSome_some, gR_wI, Nat.add_mul_mod_self_left, Nat.reduceMod, ak20, ak21, ak22, ak23, ak24, ak25, ak26, ak27, ak28, ak29, ak30, ak31, ak32, ak33, ak34, ak35, ak36, an20, an21, an22, an23, an24, an25, an26, an27, an28, an29, an30, an31, an32, an33, an34, an35, an36, an37, an38, ne_eq, inR_ii, decide_eq_true_eq, lit_ii, of_ii, ii_eq, ii_lt, ii_le]; first | done | omega)) only [Nat.le_refl, e_Mo_stepOf, b_Mo_stepOf_0, b_Mo_stepOf_7, b_Mo_stepOf_10, b_Mo_stepOf_14, b_Mo_stepOf_21, b_Mo_stepOf_24, b_Mo_stepOf_28, b_Mo_stepOf_35, b_Mo_stepOf_38, b_Mo_stepOf_42, b_Mo_stepOf_49, b_Mo_stepOf_52, b_Mo_stepOf_56, b_Mo_stepOf_63, b_Mo_stepOf_66, b_Mo_stepOf_70, b_Mo_stepOf_77, b_Mo_stepOf_80, b_Mo_stepOf_84, b_Mo_stepOf_91, b_Mo_stepOf_94, b_Mo_stepOf_99, b_Mo_stepOf_106, b_Mo_stepOf_109, b_Mo_stepOf_114, b_Mo_stepOf_115, of_19, of_20, of_21, of_22, of_23, of_24, of_25, of_26, pv_19, pv_20, pv_21, pv_22, pv_23, pv_24, pv_25, pv_26, n0, n1, n2, n3, n4, n5, n6, n7, oi_none, dr_some, Option.isSome_some, gR_wI, Nat.add_mul_mod_self_left, Nat.reduceMod, ak20, ak21, ak22, ak23, ak24, ak25, ak26, ak27, ak28, ak29, ak30, ak31, ak32, ak33, ak34, ak35, ak36, an20, an21, an22, an23, an24, an25, an26, an27, an28, an29, an30, an31, an32, an33, an34, an35, an36, an37, an38, ↓reduceIte, bk_int, bk_void, bk_long, bkN_int, bkN_void, bkN_long, Nat.reduceAdd, Nat.reduceMul, Nat.reduceSub, Nat.reduceLT, Nat.reduceLeDiff, if_true, if_false, not_true_eq_false, not_false_eq_true, Bool.true_eq_false, Bool.false_eq_true, b2_eq0, Nat.add_zero, Nat.zero_add, Nat.not_lt_zero, Nat.zero_le, ite_true, ite_false, decide_true, decide_false, lit_ii, of_ii, le_T, le_F, lt_T, lt_F, eq_T, eq_F, ii_add, ii_mul, ii_nat, ii_le, ii_lt, ii_eq, inR_ii, ii_add0]
  | some x =>
    obtain ⟨x4, e⟩ := ks x hx
    rw [e]
    have h4 : x = 0 ∨ x = 1 ∨ x = 2 ∨ x = 3 ∨ x = 4 ∨ x = 5 ∨ x = 6 ∨ x = 7 := by omega
    rcases h4 with rfl | rfl | rfl | rfl | rfl | rfl | rfl | rfl <;> simp (disch := first | omega | exact b2_01 _ | exact ii0_01 | exact ii1_01 | (simp (disch := omega) only [Nat.le_refl, dr_some, Option.isSome_some, gR_wI, Nat.add_mul_mod_self_left, Nat.reduceMod, ak20, ak21, ak22, ak23, ak24, ak25, ak26, ak27, ak28, ak29, ak30, ak31, ak32, ak33, ak34, ak35, ak36, an20, an21, an22, an23, an24, an25, an26, an27, an28, an29, an30, an31, an32, an33, an34, an35, an36, an37, an38, ne_eq, inR_ii, decide_eq_true_eq, lit_ii, of_ii, ii_eq, ii_lt, ii_le]; first | done | omega)) only [Nat.le_refl, e_Mo_stepOf, b_Mo_stepOf_0, b_Mo_stepOf_7, b_Mo_stepOf_10, b_Mo_stepOf_14, b_Mo_stepOf_21, b_Mo_stepOf_24, b_Mo_stepOf_28, b_Mo_stepOf_35, b_Mo_stepOf_38, b_Mo_stepOf_42, b_Mo_stepOf_49, b_Mo_stepOf_52, b_Mo_stepOf_56, b_Mo_stepOf_63, b_Mo_stepOf_66, b_Mo_stepOf_70, b_Mo_stepOf_77, b_Mo_stepOf_80, b_Mo_stepOf_84, b_Mo_stepOf_91, b_Mo_stepOf_94, b_Mo_stepOf_99, b_Mo_stepOf_106, b_Mo_stepOf_109, b_Mo_stepOf_114, b_Mo_stepOf_115, of_19, of_20, of_21, of_22, of_23, of_24, of_25, of_26, pv_19, pv_20, pv_21, pv_22, pv_23, pv_24, pv_25, pv_26, Nat.reduceEqDiff, oi_some, dr_some, Option.isSome_some, gR_wI, Nat.add_mul_mod_self_left, Nat.reduceMod, ak20, ak21, ak22, ak23, ak24, ak25, ak26, ak27, ak28, ak29, ak30, ak31, ak32, ak33, ak34, ak35, ak36, an20, an21, an22, an23, an24, an25, an26, an27, an28, an29, an30, an31, an32, an33, an34, an35, an36, an37, an38, ↓reduceIte, bk_int, bk_void, bk_long, bkN_int, bkN_void, bkN_long, Nat.reduceAdd, Nat.reduceMul, Nat.reduceSub, Nat.reduceLT, Nat.reduceLeDiff, if_true, if_false, not_true_eq_false, not_false_eq_true, Bool.true_eq_false, Bool.false_eq_true, b2_eq0, Nat.add_zero, Nat.zero_add, Nat.not_lt_zero, Nat.zero_le, ite_true, ite_false, decide_true, decide_false, lit_ii, of_ii, le_T, le_F, lt_T, lt_F, eq_T, eq_F, ii_add, ii_mul, ii_nat, ii_le, ii_lt, ii_eq, inR_ii, ii_add0]
theorem wk3l {T : Nat → Nat} {n p x : Nat} (h : wdX 3 T n p = some x) : ltE T n (sk T n p) - sk T n p = slen (19 + x) := by
  have e : wdX 3 T n p = fmt (wlB 3 T (sk T n p) (ltE T n (sk T n p))) sgs3 0 := by
    unfold wdX wIx
    rw [scn3]
  rw [e] at h
  obtain ⟨j, h1, h2, h3⟩ := (fmt_spec (M := wlB 3 T (sk T n p) (ltE T n (sk T n p))) sgs3 0).1 x h
  have h1' : j < 8 := h1
  have : x = j := by omega
  subst this
  have h4 := wl_len h3
  have h5 := (tb3 x h1').1
  omega
theorem w_sign {d c o : Nat} {σ : HP} {T : Nat → Nat} {n : Nat} {r : PR WkT} (Q : WQm σ T n o r) (hc : c ≠ 0) (hc2 : c < 256) : ∃ σ', callF (d + 2) m_Mo_sign [.ref 3980, .int (ii c)] σ = some (.inl none, σ') ∧ WQm σ' T n o (bndW r (sgnW T n c)) ∧ Fm MwF σ σ' := by
  cases r with
  | inr G =>
    have R : RB σ G := Q
    exact ⟨σ, r_signB R, R, Fm.rf⟩
  | inl s =>
    obtain ⟨A, C, o1⟩ := Q
    show ∃ σ', _ ∧ WQm σ' T n o (sgnW T n c s) ∧ _
    unfold sgnW
    cases hs : sgB T n s.1 c with
    | true =>
      obtain ⟨σ', e, A', F'⟩ := r_signT (d := d) A hc hc2 hs
      rw [if_pos rfl]
      exact ⟨σ', e, ⟨A', C.rd (Mat_rd F'), (F'.I (by unfold Mat; omega)).trans o1⟩, Mat_wF F'⟩
    | false =>
      obtain ⟨σ', e, R', F'⟩ := r_signF (d := d) A hc hc2 hs
      rw [if_neg (by decide)]
      exact ⟨σ', e, R', Mrd_wF F'⟩
/-- steps in a bracket -/
theorem w_inner {T : Nat → Nat} {n o b : Nat} {H : HH} {St : WkT → PR WkT} (hS : SCm T n H o b St) (hf : ∀ s : WkT, s.1 ≤ n → wfw n 1 s (St s)) {d : Nat} (hd : b ≤ d) (hd4 : 4 ≤ d) {l1 l2 l3 : Option Value} : ∀ f (s : WkT) σ, RD σ T n s.1 → NS σ s.2.1 s.2.2 → 3 * s.2.1 ≤ s.1 → gI σ 3980 7 = ii o → MH3 σ H → n - s.1 < f → ∃ σ', runF (callF d) d m_Mo_readStep (63, [some (.ref 3980), l1, l2, l3], [], σ) = runF (callF d) d m_Mo_readStep (86, [some (.ref 3980), l1, l2, l3], [], σ') ∧ WQm σ' T n o (wkL T n St false f s) ∧ Fm MwF σ σ' := by
  obtain ⟨d, rfl⟩ : ∃ e, d = e + 4 := ⟨d - 4, by omega⟩
  intro f
  induction f with
  | zero => intro s σ A _ _ _ _ h; omega
  | succ f ih =>
    intro s σ A C hs ho hH hf9
    have hp := A.p
    have hsk := sk_ge (T := T) hp.1
    have hskl := sk_le (T := T) hp.1
    have ek : sk T n (sk T n s.1) = sk T n s.1 := rn_rn hp.1
    obtain ⟨σ1, e1, A1, F1⟩ := r_here (d := d + 3) A
    have hl := hr_lt A
    have C1 := C.rd (Mat_rd F1)
    have o1 : gI σ1 3980 7 = ii o := (F1.I (by unfold Mat; omega)).trans ho
    unfold wkL
    by_cases z : wkE T n false (sk T n s.1) = true
    · rw [if_pos z]
      have z' := of_decide_eq_true (show decide (sk T n s.1 < n ∧ T (sk T n s.1) = 93) = true from z)
      have hv : hrV T n s.1 = 93 := by rw [hrV_in z'.1]; exact z'.2
      rw [hv] at e1
      refine ⟨σ1, ?_, ⟨A1, C1, o1⟩, Mat_wF F1⟩
      conv => lhs; simp (disch := first | omega | exact b2_01 _ | exact ii0_01 | exact ii1_01 | (simp (disch := omega) only [e1, dr_some, Option.isSome_some, gR_wI, Nat.add_mul_mod_self_left, Nat.reduceMod, ak20, ak21, ak22, ak23, ak24, ak25, ak26, ak27, ak28, ak29, ak30, ak31, ak32, ak33, ak34, ak35, ak36, an20, an21, an22, an23, an24, an25, an26, an27, an28, an29, an30, an31, an32, an33, an34, an35, an36, an37, an38, ne_eq, inR_ii, decide_eq_true_eq, lit_ii, of_ii, ii_eq, ii_lt, ii_le]; first | done | omega)) only [e1, b_Mo_readStep_63, b_Mo_readStep_67, b_Mo_readStep_70, b_Mo_readStep_74, r_fineT A, Nat.succ_ne_zero, dr_some, Option.isSome_some, gR_wI, Nat.add_mul_mod_self_left, Nat.reduceMod, ak20, ak21, ak22, ak23, ak24, ak25, ak26, ak27, ak28, ak29, ak30, ak31, ak32, ak33, ak34, ak35, ak36, an20, an21, an22, an23, an24, an25, an26, an27, an28, an29, an30, an31, an32, an33, an34, an35, an36, an37, an38, ↓reduceIte, bk_int, bk_void, bk_long, bkN_int, bkN_void, bkN_long, Nat.reduceAdd, Nat.reduceMul, Nat.reduceSub, Nat.reduceLT, Nat.reduceLeDiff, if_true, if_false, not_true_eq_false, not_false_eq_true, Bool.true_eq_false, Bool.false_eq_true, b2_eq0, Nat.add_zero, Nat.zero_add, Nat.not_lt_zero, Nat.zero_le, ite_true, ite_false, decide_true, decide_false, lit_ii, of_ii, le_T, le_F, lt_T, lt_F, eq_T, eq_F, ii_add, ii_mul, ii_nat, ii_le, ii_lt, ii_eq, inR_ii, ii_add0]
    · rw [if_neg z]
      have n93 : ¬ hrV T n s.1 = 93 := by
        by_cases y : sk T n s.1 < n
        · rw [hrV_in y]
          exact fun h => z (decide_eq_true ⟨y, h⟩)
        · rw [hrV_out y]
          omega
      obtain ⟨σ2, e2, Q2, F2⟩ := hS (d + 4) hd σ1 (sk T n s.1, s.2.1, s.2.2) A1 ek C1 (by show 3 * s.2.1 ≤ sk T n s.1; omega) o1 (hH.wf (Mat_wF F1))
      have F12 := (Mat_wF F1).tr F2
      have fw := hf (sk T n s.1, s.2.1, s.2.2) hskl
      cases hst : St (sk T n s.1, s.2.1, s.2.2) with
      | inr G =>
        rw [hst] at Q2
        have R2 : RB σ2 G := Q2
        refine ⟨σ2, ?_, R2, F12⟩
        conv => lhs; simp (disch := first | omega | exact b2_01 _ | exact ii0_01 | exact ii1_01 | (simp (disch := omega) only [e1, e2, dr_some, Option.isSome_some, gR_wI, Nat.add_mul_mod_self_left, Nat.reduceMod, ak20, ak21, ak22, ak23, ak24, ak25, ak26, ak27, ak28, ak29, ak30, ak31, ak32, ak33, ak34, ak35, ak36, an20, an21, an22, an23, an24, an25, an26, an27, an28, an29, an30, an31, an32, an33, an34, an35, an36, an37, an38, ne_eq, inR_ii, decide_eq_true_eq, lit_ii, of_ii, ii_eq, ii_lt, ii_le]; first | done | omega)) only [e1, e2, b_Mo_readStep_63, b_Mo_readStep_67, b_Mo_readStep_70, b_Mo_readStep_74, b_Mo_readStep_79, b_Mo_readStep_83, r_fineT A, r_fineF R2, n93, Nat.succ_ne_zero, dr_some, Option.isSome_some, gR_wI, Nat.add_mul_mod_self_left, Nat.reduceMod, ak20, ak21, ak22, ak23, ak24, ak25, ak26, ak27, ak28, ak29, ak30, ak31, ak32, ak33, ak34, ak35, ak36, an20, an21, an22, an23, an24, an25, an26, an27, an28, an29, an30, an31, an32, an33, an34, an35, an36, an37, an38, ↓reduceIte, bk_int, bk_void, bk_long, bkN_int, bkN_void, bkN_long, Nat.reduceAdd, Nat.reduceMul, Nat.reduceSub, Nat.reduceLT, Nat.reduceLeDiff, if_true, if_false, not_true_eq_false, not_false_eq_true, Bool.true_eq_false, Bool.false_eq_true, b2_eq0, Nat.add_zero, Nat.zero_add, Nat.not_lt_zero, Nat.zero_le, ite_true, ite_false, decide_true, decide_false, lit_ii, of_ii, le_T, le_F, lt_T, lt_F, eq_T, eq_F, ii_add, ii_mul, ii_nat, ii_le, ii_lt, ii_eq, inR_ii, ii_add0]
      | inl s' =>
        rw [hst] at Q2 fw
        obtain ⟨g1, g2, g3, g4⟩ := fw
        simp only at g1 g3 g4
        have Q2' : WQm σ2 T n o (sgnW T n 59 s') := Q2
        simp only
        cases hsg : sgnW T n 59 s' with
        | inr G =>
          rw [hsg] at Q2'
          have R2 : RB σ2 G := Q2'
          refine ⟨σ2, ?_, R2, F12⟩
          conv => lhs; simp (disch := first | omega | exact b2_01 _ | exact ii0_01 | exact ii1_01 | (simp (disch := omega) only [e1, e2, dr_some, Option.isSome_some, gR_wI, Nat.add_mul_mod_self_left, Nat.reduceMod, ak20, ak21, ak22, ak23, ak24, ak25, ak26, ak27, ak28, ak29, ak30, ak31, ak32, ak33, ak34, ak35, ak36, an20, an21, an22, an23, an24, an25, an26, an27, an28, an29, an30, an31, an32, an33, an34, an35, an36, an37, an38, ne_eq, inR_ii, decide_eq_true_eq, lit_ii, of_ii, ii_eq, ii_lt, ii_le]; first | done | omega)) only [e1, e2, b_Mo_readStep_63, b_Mo_readStep_67, b_Mo_readStep_70, b_Mo_readStep_74, b_Mo_readStep_79, b_Mo_readStep_83, r_fineT A, r_fineF R2, n93, Nat.succ_ne_zero, dr_some, Option.isSome_some, gR_wI, Nat.add_mul_mod_self_left, Nat.reduceMod, ak20, ak21, ak22, ak23, ak24, ak25, ak26, ak27, ak28, ak29, ak30, ak31, ak32, ak33, ak34, ak35, ak36, an20, an21, an22, an23, an24, an25, an26, an27, an28, an29, an30, an31, an32, an33, an34, an35, an36, an37, an38, ↓reduceIte, bk_int, bk_void, bk_long, bkN_int, bkN_void, bkN_long, Nat.reduceAdd, Nat.reduceMul, Nat.reduceSub, Nat.reduceLT, Nat.reduceLeDiff, if_true, if_false, not_true_eq_false, not_false_eq_true, Bool.true_eq_false, Bool.false_eq_true, b2_eq0, Nat.add_zero, Nat.zero_add, Nat.not_lt_zero, Nat.zero_le, ite_true, ite_false, decide_true, decide_false, lit_ii, of_ii, le_T, le_F, lt_T, lt_F, eq_T, eq_F, ii_add, ii_mul, ii_nat, ii_le, ii_lt, ii_eq, inR_ii, ii_add0]
        | inl s2 =>
          rw [hsg] at Q2'
          obtain ⟨A2, C2, o2⟩ := Q2'
          obtain ⟨j1, j2, j3⟩ := sgnW_fwd g2 hsg
          have j4 : s2.2.1 = s'.2.1 := congrArg Prod.fst j3
          obtain ⟨σ9, e9, Q9, F9⟩ := ih s2 σ2 A2 C2 (by omega) o2 (hH.wf F12) (by omega)
          refine ⟨σ9, ?_, Q9, F12.tr F9⟩
          rw [← e9]
          conv => lhs; simp (disch := first | omega | exact b2_01 _ | exact ii0_01 | exact ii1_01 | (simp (disch := omega) only [e1, e2, dr_some, Option.isSome_some, gR_wI, Nat.add_mul_mod_self_left, Nat.reduceMod, ak20, ak21, ak22, ak23, ak24, ak25, ak26, ak27, ak28, ak29, ak30, ak31, ak32, ak33, ak34, ak35, ak36, an20, an21, an22, an23, an24, an25, an26, an27, an28, an29, an30, an31, an32, an33, an34, an35, an36, an37, an38, ne_eq, inR_ii, decide_eq_true_eq, lit_ii, of_ii, ii_eq, ii_lt, ii_le]; first | done | omega)) only [e1, e2, b_Mo_readStep_63, dr_some, Option.isSome_some, gR_wI, Nat.add_mul_mod_self_left, Nat.reduceMod, ak20, ak21, ak22, ak23, ak24, ak25, ak26, ak27, ak28, ak29, ak30, ak31, ak32, ak33, ak34, ak35, ak36, an20, an21, an22, an23, an24, an25, an26, an27, an28, an29, an30, an31, an32, an33, an34, an35, an36, an37, an38, ↓reduceIte, bk_int, bk_void, bk_long, bkN_int, bkN_void, bkN_long, Nat.reduceAdd, Nat.reduceMul, Nat.reduceSub, Nat.reduceLT, Nat.reduceLeDiff, if_true, if_false, not_true_eq_false, not_false_eq_true, Bool.true_eq_false, Bool.false_eq_true, b2_eq0, Nat.add_zero, Nat.zero_add, Nat.not_lt_zero, Nat.zero_le, ite_true, ite_false, decide_true, decide_false, lit_ii, of_ii, le_T, le_F, lt_T, lt_F, eq_T, eq_F, ii_add, ii_mul, ii_nat, ii_le, ii_lt, ii_eq, inR_ii, ii_add0]
          simp (disch := first | omega | exact b2_01 _ | exact ii0_01 | exact ii1_01 | (simp (disch := omega) only [e1, e2, dr_some, Option.isSome_some, gR_wI, Nat.add_mul_mod_self_left, Nat.reduceMod, ak20, ak21, ak22, ak23, ak24, ak25, ak26, ak27, ak28, ak29, ak30, ak31, ak32, ak33, ak34, ak35, ak36, an20, an21, an22, an23, an24, an25, an26, an27, an28, an29, an30, an31, an32, an33, an34, an35, an36, an37, an38, ne_eq, inR_ii, decide_eq_true_eq, lit_ii, of_ii, ii_eq, ii_lt, ii_le]; first | done | omega)) only [e1, e2, b_Mo_readStep_67, b_Mo_readStep_70, b_Mo_readStep_74, b_Mo_readStep_79, b_Mo_readStep_83, r_fineT A, n93, Nat.succ_ne_zero, dr_some, Option.isSome_some, gR_wI, Nat.add_mul_mod_self_left, Nat.reduceMod, ak20, ak21, ak22, ak23, ak24, ak25, ak26, ak27, ak28, ak29, ak30, ak31, ak32, ak33, ak34, ak35, ak36, an20, an21, an22, an23, an24, an25, an26, an27, an28, an29, an30, an31, an32, an33, an34, an35, an36, an37, an38, ↓reduceIte, bk_int, bk_void, bk_long, bkN_int, bkN_void, bkN_long, Nat.reduceAdd, Nat.reduceMul, Nat.reduceSub, Nat.reduceLT, Nat.reduceLeDiff, if_true, if_false, not_true_eq_false, not_false_eq_true, Bool.true_eq_false, Bool.false_eq_true, b2_eq0, Nat.add_zero, Nat.zero_add, Nat.not_lt_zero, Nat.zero_le, ite_true, ite_false, decide_true, decide_false, lit_ii, of_ii, le_T, le_F, lt_T, lt_F, eq_T, eq_F, ii_add, ii_mul, ii_nat, ii_le, ii_lt, ii_eq, inR_ii, ii_add0]
