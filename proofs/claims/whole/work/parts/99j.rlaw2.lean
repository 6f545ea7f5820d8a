theorem wk2l {T : Nat → Nat} {n p x : Nat} (h : wdX 2 T n p = some x) : ltE T n (sk T n p) - sk T n p = slen (sx2 x) := by
  have e : wdX 2 T n p = fmt (wlB 2 T (sk T n p) (ltE T n (sk T n p))) sgs2 0 := by
    unfold wdX wIx
    rw [scn2]
  rw [e] at h
  obtain ⟨j, h1, h2, h3⟩ := (fmt_spec (M := wlB 2 T (sk T n p) (ltE T n (sk T n p))) sgs2 0).1 x h
  have h1' : j < 11 := h1
  have : x = j := by omega
  subst this
  have h4 := wl_len h3
  have h5 := (tb2 x h1').1
  omega
theorem sk_eq {T : Nat → Nat} {n p : Nat} (hp : p ≤ n) : wdX 2 T n (sk T n p) = wdX 2 T n p ∧ wdX 3 T n (sk T n p) = wdX 3 T n p ∧ wdP T n (sk T n p) = wdP T n p ∧ (∀ lo hi, numW T n lo hi (sk T n p) = numW T n lo hi p) ∧ ltE T n (sk T n p) = wdP T n p := by
  have ek : sk T n (sk T n p) = sk T n p := rn_rn hp
  unfold wdX wdP numW nmF nmP nmV
  rw [ek]
  exact ⟨rfl, rfl, rfl, fun _ _ => rfl, rfl⟩
theorem r_factHere {d : Nat} {σ : HP} {T : Nat → Nat} {n p : Nat} (A : RD σ T n p) : ∃ σ', callF (d + 7) m_Mo_factHere [.ref 3980] σ = some (.inl (some (.int (match wdX 2 T n p with
    | none => -ii 1
    | some x => if x < 9 then ii x else -ii 1))), σ') ∧ RD σ' T n (sk T n p) ∧ Fm Mat σ σ' := by
  obtain ⟨σ1, e1, A1, F1⟩ := r_word (d := d + 4) A
  obtain ⟨ks, kn⟩ := wk2w A.p.1 A.lt
  have wl := wdV_lt A
  refine ⟨σ1, ?_, A1, F1⟩
  cases hx : wdX 2 T n p with
  | none =>
    have n0 := kn hx 0 (by omega)
    have n1 := kn hx 1 (by omega)
    have n2 := kn hx 2 (by omega)
    have n3 := kn hx 3 (by omega)
    have n4 := kn hx 4 (by omega)
    have n5 := kn hx 5 (by omega)
    have n6 := kn hx 6 (by omega)
    have n7 := kn hx 7 (by omega)
    have n8 := kn hx 8 (by omega)
    simp only [sx2, Nat.reduceLT, Nat.reduceAdd, Nat.reduceEqDiff, ↓reduceIte, Nat.add_zero, pv_11, pv_12, pv_13, pv_14, pv_15, pv_16, pv_17, pv_18, pv_6] at n0 n1 n2 n3 n4 n5 n6 n7 n8
    simp (disch := first | omega | exact b2_01 _ | exact ii0_01 | exact ii1_01 | (simp (disch := omega) only [e1, dr_some, Option.isSome_some, gR_wI, Nat.add_mul_mod_self_left, Nat.reduceMod, ak20, ak21, ak22, ak23, ak24, ak25, ak26, ak27, ak28, ak29, ak30, ak31, ak32, ak33, ak34, ak35, ak36, an20, an21, an22, an23, an24, an25, an26, an27, an28, an29, an30, an31, an32, an33, an34, an35, an36, an37, an38, ne_eq, inR_ii, decide_eq_true_eq, lit_ii, of_ii, ii_eq, ii_lt, ii_le]; first | done | omega)) only [e1, e_Mo_factHere, b_Mo_factHere_0, b_Mo_factHere_4, b_Mo_factHere_11, b_Mo_factHere_14, b_Mo_factHere_18, b_Mo_factHere_24, b_Mo_factHere_27, b_Mo_factHere_31, b_Mo_factHere_37, b_Mo_factHere_40, b_Mo_factHere_44, b_Mo_factHere_50, b_Mo_factHere_53, b_Mo_factHere_57, b_Mo_factHere_64, b_Mo_factHere_67, b_Mo_factHere_71, b_Mo_factHere_78, b_Mo_factHere_81, b_Mo_factHere_85, b_Mo_factHere_92, b_Mo_factHere_95, b_Mo_factHere_100, b_Mo_factHere_107, b_Mo_factHere_110, b_Mo_factHere_115, b_Mo_factHere_121, b_Mo_factHere_124, b_Mo_factHere_129, b_Mo_factHere_130, of_11, of_12, of_13, of_14, of_15, of_16, of_17, of_18, of_6, pv_11, pv_12, pv_13, pv_14, pv_15, pv_16, pv_17, pv_18, pv_6, n0, n1, n2, n3, n4, n5, n6, n7, n8, dr_some, Option.isSome_some, gR_wI, Nat.add_mul_mod_self_left, Nat.reduceMod, ak20, ak21, ak22, ak23, ak24, ak25, ak26, ak27, ak28, ak29, ak30, ak31, ak32, ak33, ak34, ak35, ak36, an20, an21, an22, an23, an24, an25, an26, an27, an28, an29, an30, an31, an32, an33, an34, an35, an36, an37, an38, ↓reduceIte, bk_int, bk_void, bk_long, bkN_int, bkN_void, bkN_long, Nat.reduceAdd, Nat.reduceMul, Nat.reduceSub, Nat.reduceLT, Nat.reduceLeDiff, if_true, if_false, not_true_eq_false, not_false_eq_true, Bool.true_eq_false, Bool.false_eq_true, b2_eq0, Nat.add_zero, Nat.zero_add, Nat.not_lt_zero, Nat.zero_le, ite_true, ite_false, decide_true, decide_false, lit_ii, of_ii, le_T, le_F, lt_T, lt_F, eq_T, eq_F, ii_add, ii_mul, ii_nat, ii_le, ii_lt, ii_eq, inR_ii, ii_add0]
  | some x =>
    obtain ⟨x4, e⟩ := ks x hx
    rw [e] at e1
    have h4 : x = 0 ∨ x = 1 ∨ x = 2 ∨ x = 3 ∨ x = 4 ∨ x = 5 ∨ x = 6 ∨ x = 7 ∨ x = 8 ∨ x = 9 ∨ x = 10 := by omega
    rcases h4 with rfl | rfl | rfl | rfl | rfl | rfl | rfl | rfl | rfl | rfl | rfl <;> (simp only [sx2, Nat.reduceLT, Nat.reduceAdd, Nat.reduceEqDiff, ↓reduceIte, Nat.add_zero] at e1; simp (disch := first | omega | exact b2_01 _ | exact ii0_01 | exact ii1_01 | (simp (disch := omega) only [e1, dr_some, Option.isSome_some, gR_wI, Nat.add_mul_mod_self_left, Nat.reduceMod, ak20, ak21, ak22, ak23, ak24, ak25, ak26, ak27, ak28, ak29, ak30, ak31, ak32, ak33, ak34, ak35, ak36, an20, an21, an22, an23, an24, an25, an26, an27, an28, an29, an30, an31, an32, an33, an34, an35, an36, an37, an38, ne_eq, inR_ii, decide_eq_true_eq, lit_ii, of_ii, ii_eq, ii_lt, ii_le]; first | done | omega)) only [e1, e_Mo_factHere, b_Mo_factHere_0, b_Mo_factHere_4, b_Mo_factHere_11, b_Mo_factHere_14, b_Mo_factHere_18, b_Mo_factHere_24, b_Mo_factHere_27, b_Mo_factHere_31, b_Mo_factHere_37, b_Mo_factHere_40, b_Mo_factHere_44, b_Mo_factHere_50, b_Mo_factHere_53, b_Mo_factHere_57, b_Mo_factHere_64, b_Mo_factHere_67, b_Mo_factHere_71, b_Mo_factHere_78, b_Mo_factHere_81, b_Mo_factHere_85, b_Mo_factHere_92, b_Mo_factHere_95, b_Mo_factHere_100, b_Mo_factHere_107, b_Mo_factHere_110, b_Mo_factHere_115, b_Mo_factHere_121, b_Mo_factHere_124, b_Mo_factHere_129, b_Mo_factHere_130, of_11, of_12, of_13, of_14, of_15, of_16, of_17, of_18, of_6, pv_11, pv_12, pv_13, pv_14, pv_15, pv_16, pv_17, pv_18, pv_6, pv_9, pv_10, Nat.reduceEqDiff, dr_some, Option.isSome_some, gR_wI, Nat.add_mul_mod_self_left, Nat.reduceMod, ak20, ak21, ak22, ak23, ak24, ak25, ak26, ak27, ak28, ak29, ak30, ak31, ak32, ak33, ak34, ak35, ak36, an20, an21, an22, an23, an24, an25, an26, an27, an28, an29, an30, an31, an32, an33, an34, an35, an36, an37, an38, ↓reduceIte, bk_int, bk_void, bk_long, bkN_int, bkN_void, bkN_long, Nat.reduceAdd, Nat.reduceMul, Nat.reduceSub, Nat.reduceLT, Nat.reduceLeDiff, if_true, if_false, not_true_eq_false, not_false_eq_true, Bool.true_eq_false, Bool.false_eq_true, b2_eq0, Nat.add_zero, Nat.zero_add, Nat.not_lt_zero, Nat.zero_le, ite_true, ite_false, decide_true, decide_false, lit_ii, of_ii, le_T, le_F, lt_T, lt_F, eq_T, eq_F, ii_add, ii_mul, ii_nat, ii_le, ii_lt, ii_eq, inR_ii, ii_add0])
theorem r_opens {d o q b : Nat} {σ : HP} {T : Nat → Nat} {n : Nat} (A : RD σ T n q) (ho : gI σ 3980 7 = ii o) (ho6 : o < 6) : callF (d + 2) m_Mo_opensOne [.ref 3980, .int (ii b)] σ = some (.inl none, wI (wI σ 3980 4 (ii (q + b))) 3980 7 (ii (o + 1))) := by
  have e4 := A.2.2.2.1
  have n6 : ¬ o = 6 := by omega
  have o2 : gI (wI σ 3980 4 (ii (q + b))) 3980 7 = ii o := (gI_nj (by omega)).trans ho
  simp (disch := first | omega | exact b2_01 _ | exact ii0_01 | exact ii1_01 | (simp (disch := omega) only [e4, ho, o2, dr_some, Option.isSome_some, gR_wI, Nat.add_mul_mod_self_left, Nat.reduceMod, ak20, ak21, ak22, ak23, ak24, ak25, ak26, ak27, ak28, ak29, ak30, ak31, ak32, ak33, ak34, ak35, ak36, an20, an21, an22, an23, an24, an25, an26, an27, an28, an29, an30, an31, an32, an33, an34, an35, an36, an37, an38, ne_eq, inR_ii, decide_eq_true_eq, lit_ii, of_ii, ii_eq, ii_lt, ii_le]; first | done | omega)) only [e4, ho, o2, e_Mo_opensOne, b_Mo_opensOne_0, b_Mo_opensOne_4, b_Mo_opensOne_7, b_Mo_opensOne_16, b_Mo_opensOne_25, b_Mo_opensOne_29, b_Mo_opensOne_32, b_Mo_opensOne_42, r_fineT A, n6, Nat.succ_ne_zero, dr_some, Option.isSome_some, gR_wI, Nat.add_mul_mod_self_left, Nat.reduceMod, ak20, ak21, ak22, ak23, ak24, ak25, ak26, ak27, ak28, ak29, ak30, ak31, ak32, ak33, ak34, ak35, ak36, an20, an21, an22, an23, an24, an25, an26, an27, an28, an29, an30, an31, an32, an33, an34, an35, an36, an37, an38, ↓reduceIte, bk_int, bk_void, bk_long, bkN_int, bkN_void, bkN_long, Nat.reduceAdd, Nat.reduceMul, Nat.reduceSub, Nat.reduceLT, Nat.reduceLeDiff, if_true, if_false, not_true_eq_false, not_false_eq_true, Bool.true_eq_false, Bool.false_eq_true, b2_eq0, Nat.add_zero, Nat.zero_add, Nat.not_lt_zero, Nat.zero_le, ite_true, ite_false, decide_true, decide_false, lit_ii, of_ii, le_T, le_F, lt_T, lt_F, eq_T, eq_F, ii_add, ii_mul, ii_nat, ii_le, ii_lt, ii_eq, inR_ii, ii_add0]
theorem r_opensF' {d q : Nat} {x : Int32} {σ : HP} {T : Nat → Nat} {n : Nat} (A : RD σ T n q) (ho : gI σ 3980 7 = ii 6) : ∃ σ', callF (d + 2) m_Mo_opensOne [.ref 3980, .int x] σ = some (.inl none, σ') ∧ RB σ' (3, q) ∧ Fm (fun a j => a = 3980 ∧ (j = 5 ∨ j = 6 ∨ j = 7)) σ σ' := by
  have e4 := A.2.2.2.1
  have hp := A.p
  have R := A.bad (q := q) (k := 3) (by omega) (by omega)
  have o2 : gI (wI (wI σ 3980 5 (ii q)) 3980 6 (ii 3)) 3980 7 = ii 6 := (gI_nj (by omega)).trans ((gI_nj (by omega)).trans ho)
  refine ⟨_, ?_, R.o (v := ii 7), ((Fm.rf.w (by omega)).w (by omega)).w (by omega)⟩
  simp (disch := first | omega | exact b2_01 _ | exact ii0_01 | exact ii1_01 | (simp (disch := omega) only [e4, ho, o2, dr_some, Option.isSome_some, gR_wI, Nat.add_mul_mod_self_left, Nat.reduceMod, ak20, ak21, ak22, ak23, ak24, ak25, ak26, ak27, ak28, ak29, ak30, ak31, ak32, ak33, ak34, ak35, ak36, an20, an21, an22, an23, an24, an25, an26, an27, an28, an29, an30, an31, an32, an33, an34, an35, an36, an37, an38, ne_eq, inR_ii, decide_eq_true_eq, lit_ii, of_ii, ii_eq, ii_lt, ii_le]; first | done | omega)) only [e4, ho, o2, e_Mo_opensOne, b_Mo_opensOne_0, b_Mo_opensOne_4, b_Mo_opensOne_7, b_Mo_opensOne_16, b_Mo_opensOne_25, b_Mo_opensOne_29, b_Mo_opensOne_32, b_Mo_opensOne_42, r_fineT A, r_fineF R, r_wrong A, Nat.succ_ne_zero, dr_some, Option.isSome_some, gR_wI, Nat.add_mul_mod_self_left, Nat.reduceMod, ak20, ak21, ak22, ak23, ak24, ak25, ak26, ak27, ak28, ak29, ak30, ak31, ak32, ak33, ak34, ak35, ak36, an20, an21, an22, an23, an24, an25, an26, an27, an28, an29, an30, an31, an32, an33, an34, an35, an36, an37, an38, ↓reduceIte, bk_int, bk_void, bk_long, bkN_int, bkN_void, bkN_long, Nat.reduceAdd, Nat.reduceMul, Nat.reduceSub, Nat.reduceLT, Nat.reduceLeDiff, if_true, if_false, not_true_eq_false, not_false_eq_true, Bool.true_eq_false, Bool.false_eq_true, b2_eq0, Nat.add_zero, Nat.zero_add, Nat.not_lt_zero, Nat.zero_le, ite_true, ite_false, decide_true, decide_false, lit_ii, of_ii, le_T, le_F, lt_T, lt_F, eq_T, eq_F, ii_add, ii_mul, ii_nat, ii_le, ii_lt, ii_eq, inR_ii, ii_add0]
theorem r_opensF {d q : Nat} {x : Int32} {σ : HP} {T : Nat → Nat} {n : Nat} (A : RD σ T n q) (ho : gI σ 3980 7 = ii 6) : ∃ σ', callF (d + 2) m_Mo_opensOne [.ref 3980, .int x] σ = some (.inl none, σ') ∧ RB σ' (3, q) ∧ Fm MlF σ σ' := by
  obtain ⟨σ', e, R, F⟩ := r_opensF' (d := d) (x := x) A ho
  exact ⟨σ', e, R, F.mono (fun a j z => by unfold MlF; omega)⟩
def bndL (r : PR LwT) (f : LwT → PR LwT) : PR LwT := match r with
  | .inl s => f s
  | .inr F => .inr F
theorem l_sign {d c o : Nat} {σ : HP} {T : Nat → Nat} {n : Nat} {r : PR LwT} (Q : LQm σ T n o r) (hc : c ≠ 0) (hc2 : c < 256) : ∃ σ', callF (d + 2) m_Mo_sign [.ref 3980, .int (ii c)] σ = some (.inl none, σ') ∧ LQm σ' T n o (bndL r (sgnR T n c)) ∧ Fm MlF σ σ' := by
  cases r with
  | inr G =>
    have R : RB σ G := Q
    exact ⟨σ, r_signB R, R, Fm.rf⟩
  | inl s =>
    obtain ⟨A, C, o1⟩ := Q
    show ∃ σ', _ ∧ LQm σ' T n o (sgnR T n c s) ∧ _
    unfold sgnR
    cases hs : sgB T n s.1 c with
    | true =>
      obtain ⟨σ', e, A', F'⟩ := r_signT (d := d) A hc hc2 hs
      rw [if_pos rfl]
      exact ⟨σ', e, ⟨A', C.rd (Mat_rd F'), (F'.I (by unfold Mat; omega)).trans o1⟩, Mat_lF F'⟩
    | false =>
      obtain ⟨σ', e, R', F'⟩ := r_signF (d := d) A hc hc2 hs
      rw [if_neg (by decide)]
      exact ⟨σ', e, R', Mrd_lF F'⟩
theorem l_sumQ {b e o : Nat} {σ : HP} {T : Nat → Nat} {n : Nat} {r : PR LwT} {S : LwT → PR LwT} (hS : UCm T n m_Mo_readSum o b S) (he : b ≤ e) (he4 : 4 ≤ e) (Q : LQm σ T n o r) (hr : ∀ s, r = .inl s → s.2.1 ≤ s.1) : ∃ σ', callF e m_Mo_readSum [.ref 3980] σ = some (.inl none, σ') ∧ LQm σ' T n o (bndL r S) ∧ Fm MlF σ σ' := by
  cases r with
  | inr G =>
    have R : RB σ G := Q
    obtain ⟨e, rfl⟩ : ∃ k, e = k + 4 := ⟨e - 4, by omega⟩
    exact ⟨σ, r_sumB R, R, Fm.rf⟩
  | inl s =>
    obtain ⟨A, C, o1⟩ := Q
    exact hS e (by omega) σ s A C (hr s rfl) o1
theorem lwTw_eq {T : Nat → Nat} {n j : Nat} {S : LwT → PR LwT} {s : LwT} : lwTw T n j S s = bndL (bndL (bndL (bndL (bndL (sgnR T n 91 s) S) (sgnR T n 44)) S) (sgnR T n 93)) (fun s => .inl (emt s j)) := by
  unfold lwTw
  cases h1 : sgnR T n 91 s with
  | inr G => rfl
  | inl s1 =>
    show lwTw1 T n j S s1 = bndL (bndL (bndL (bndL (S s1) (sgnR T n 44)) S) (sgnR T n 93)) (fun s => .inl (emt s j))
    unfold lwTw1
    cases h2 : S s1 with
    | inr G => rfl
    | inl s2 =>
      show (match sgnR T n 44 s2 with
        | .inl s2 => lwTw2 T n j S s2
        | .inr F => .inr F) = bndL (bndL (bndL (sgnR T n 44 s2) S) (sgnR T n 93)) (fun s => .inl (emt s j))
      cases h3 : sgnR T n 44 s2 with
      | inr G => rfl
      | inl s3 =>
        show lwTw2 T n j S s3 = bndL (bndL (S s3) (sgnR T n 93)) (fun s => .inl (emt s j))
        unfold lwTw2
        cases h4 : S s3 with
        | inr G => rfl
        | inl s4 =>
          show (match sgnR T n 93 s4 with
            | .inl s2 => .inl (emt s2 j)
            | .inr F => .inr F) = bndL (sgnR T n 93 s4) (fun s => .inl (emt s j))
          cases h5 : sgnR T n 93 s4 with
          | inr G => rfl
          | inl s5 => rfl
theorem sg_cnt {T : Nat → Nat} {n c : Nat} {s s' : LwT} (hs : s.1 ≤ n) (h : sgnR T n c s = .inl s') (hk : s.2.1 ≤ s.1) : s'.2.1 < s'.1 := by
  obtain ⟨a, b, -⟩ := sgnR_k h
  have := sk_ge (T := T) hs
  have e : s'.2.1 = s.2.1 := congrArg Prod.fst a
  omega
theorem LQm.p {σ : HP} {T : Nat → Nat} {n o : Nat} {r : PR LwT} (Q : LQm σ T n o r) : ∀ s, r = .inl s → s.1 ≤ n := by
  rintro s rfl
  exact (show RD σ T n s.1 ∧ _ from Q).1.p.1
theorem bnd_cnt {T : Nat → Nat} {n c : Nat} {r : PR LwT} (hp : ∀ s, r = .inl s → s.1 ≤ n) (hk : ∀ s, r = .inl s → s.2.1 ≤ s.1) : ∀ s, bndL r (sgnR T n c) = .inl s → s.2.1 < s.1 := by
  intro s h
  cases r with
  | inr G => cases h
  | inl s0 => exact sg_cnt (hp s0 rfl) h (hk s0 rfl)
theorem bnd_fwd {n : Nat} {S : LwT → PR LwT} (hf : ∀ s : LwT, s.1 ≤ n → fwd n s (S s)) {r : PR LwT} (hp : ∀ s, r = .inl s → s.1 ≤ n) (hk : ∀ s, r = .inl s → s.2.1 ≤ s.1) : ∀ s, bndL r S = .inl s → s.2.1 ≤ s.1 := by
  intro s h
  cases r with
  | inr G => cases h
  | inl s0 =>
    have h1 := hf s0 (hp s0 rfl)
    have h2 : S s0 = .inl s := h
    rw [h2] at h1
    obtain ⟨a, b, c⟩ := h1
    have := hk s0 rfl
    omega
/-- two, least or most -/
theorem l_two {T : Nat → Nat} {n o b e by' j q : Nat} {S : LwT → PR LwT} {σ : HP} {k : Nat} {c : Nat → Nat} (hS : UCm T n m_Mo_readSum (o + 1) b S) (hf : ∀ s : LwT, s.1 ≤ n → fwd n s (S s)) (hn : n ≤ 150) (he : b + 1 ≤ e) (he6 : 6 ≤ e) (A : RD σ T n q) (C : LCm σ k c) (ho : gI σ 3980 7 = ii o) (ho6 : o < 6) (hq : q + by' ≤ n) (hk : k ≤ q) (hj : j = 2001 ∨ j = 2002) : ∃ σ', callF e m_Mo_readTwo [.ref 3980, .int (ii by'), .int (ii (kW j))] σ = some (.inl none, σ') ∧ LQm σ' T n o (lwTw T n j S (q + by', k, c)) ∧ Fm MlF σ σ' := by
  obtain ⟨e, rfl⟩ : ∃ k, e = k + 6 := ⟨e - 6, by omega⟩
  have e1 := r_opens (d := e + 3) (b := by') A ho ho6
  have Q1 : LQm (wI (wI σ 3980 4 (ii (q + by'))) 3980 7 (ii (o + 1))) T n (o + 1) (.inl (q + by', k, c)) := ⟨(A.at hq).o, (C.rd (Fm.rf.w (by unfold Mrd; omega))).o, gI_at⟩
  have F1 : Fm MlF σ (wI (wI σ 3980 4 (ii (q + by'))) 3980 7 (ii (o + 1))) := (Fm.rf.w (by unfold MlF; omega)).w (by unfold MlF; omega)
  have k1 : ∀ s, (Sum.inl (q + by', k, c) : PR LwT) = .inl s → s.2.1 ≤ s.1 := fun s h => by
    cases h
    show k ≤ q + by'
    omega
  obtain ⟨σ2, e2, Q2, F2⟩ := l_sign (d := e + 3) (c := 91) Q1 (by omega) (by omega)
  have k2 := bnd_cnt (T := T) (c := 91) Q1.p k1
  obtain ⟨σ3, e3, Q3, F3⟩ := l_sumQ (e := e + 5) hS (by omega) (by omega) Q2 (fun s h => Nat.le_of_lt (k2 s h))
  have k3 := bnd_fwd hf Q2.p (fun s h => Nat.le_of_lt (k2 s h))
  obtain ⟨σ4, e4, Q4, F4⟩ := l_sign (d := e + 3) (c := 44) Q3 (by omega) (by omega)
  have k4 := bnd_cnt (T := T) (c := 44) Q3.p k3
  obtain ⟨σ5, e5, Q5, F5⟩ := l_sumQ (e := e + 5) hS (by omega) (by omega) Q4 (fun s h => Nat.le_of_lt (k4 s h))
  have k5 := bnd_fwd hf Q4.p (fun s h => Nat.le_of_lt (k4 s h))
  obtain ⟨σ6, e6, Q6, F6⟩ := l_sign (d := e + 3) (c := 93) Q5 (by omega) (by omega)
  have k6 := bnd_cnt (T := T) (c := 93) Q5.p k5
  have FF : Fm MlF σ σ6 := ((((F1.tr F2).tr F3).tr F4).tr F5).tr F6
  have el : lwTw T n j S (q + by', k, c) = bndL (bndL (bndL (bndL (bndL (bndL (.inl (q + by', k, c)) (sgnR T n 91)) S) (sgnR T n 44)) S) (sgnR T n 93)) (fun s => .inl (emt s j)) := lwTw_eq
  rw [el]
  generalize bndL (bndL (bndL (bndL (bndL (.inl (q + by', k, c)) (sgnR T n 91)) S) (sgnR T n 44)) S) (sgnR T n 93) = r at *
  cases r with
  | inr G =>
    have R6 : RB σ6 G := Q6
    refine ⟨wI σ6 3980 7 (gI σ6 3980 7 - ii 1), ?_, R6.o, FF.w (by unfold MlF; omega)⟩
    have R7 := R6.o (v := gI σ6 3980 7 - ii 1)
    simp (disch := first | omega | exact b2_01 _ | exact ii0_01 | exact ii1_01 | (simp (disch := omega) only [e1, e2, e3, e4, e5, e6, dr_some, Option.isSome_some, gR_wI, Nat.add_mul_mod_self_left, Nat.reduceMod, ak20, ak21, ak22, ak23, ak24, ak25, ak26, ak27, ak28, ak29, ak30, ak31, ak32, ak33, ak34, ak35, ak36, an20, an21, an22, an23, an24, an25, an26, an27, an28, an29, an30, an31, an32, an33, an34, an35, an36, an37, an38, ne_eq, inR_ii, decide_eq_true_eq, lit_ii, of_ii, ii_eq, ii_lt, ii_le]; first | done | omega)) only [e1, e2, e3, e4, e5, e6, e_Mo_readTwo, b_Mo_readTwo_0, b_Mo_readTwo_5, b_Mo_readTwo_11, b_Mo_readTwo_15, b_Mo_readTwo_21, b_Mo_readTwo_25, b_Mo_readTwo_31, b_Mo_readTwo_47, r_emitB R7, dr_some, Option.isSome_some, gR_wI, Nat.add_mul_mod_self_left, Nat.reduceMod, ak20, ak21, ak22, ak23, ak24, ak25, ak26, ak27, ak28, ak29, ak30, ak31, ak32, ak33, ak34, ak35, ak36, an20, an21, an22, an23, an24, an25, an26, an27, an28, an29, an30, an31, an32, an33, an34, an35, an36, an37, an38, ↓reduceIte, bk_int, bk_void, bk_long, bkN_int, bkN_void, bkN_long, Nat.reduceAdd, Nat.reduceMul, Nat.reduceSub, Nat.reduceLT, Nat.reduceLeDiff, if_true, if_false, not_true_eq_false, not_false_eq_true, Bool.true_eq_false, Bool.false_eq_true, b2_eq0, Nat.add_zero, Nat.zero_add, Nat.not_lt_zero, Nat.zero_le, ite_true, ite_false, decide_true, decide_false, lit_ii, of_ii, le_T, le_F, lt_T, lt_F, eq_T, eq_F, ii_add, ii_mul, ii_nat, ii_le, ii_lt, ii_eq, inR_ii, ii_add0]
  | inl s6 =>
    obtain ⟨A6, C6, o6⟩ := Q6
    have h6 := k6 s6 rfl
    have es : ii (o + 1) - ii 1 = ii o := by
      rw [ii_sub (by omega)]
      rfl
    have hp6 := A6.p
    obtain ⟨σ7, e7, A7, C7, o7, F7⟩ := r_emit (d := e + 3) (v := j) (x := ii (kW j)) (y := ii 0) (A6.o (v := ii o)) (C6.o (v := ii o)) (by omega) rfl (by rcases hj with rfl | rfl <;> rfl)
    refine ⟨σ7, ?_, ⟨A7, C7, o7.trans gI_at⟩, (FF.w (by unfold MlF; omega)).tr F7⟩
    simp (disch := first | omega | exact b2_01 _ | exact ii0_01 | exact ii1_01 | (simp (disch := omega) only [e1, e2, e3, e4, e5, e6, e7, o6, dr_some, Option.isSome_some, gR_wI, Nat.add_mul_mod_self_left, Nat.reduceMod, ak20, ak21, ak22, ak23, ak24, ak25, ak26, ak27, ak28, ak29, ak30, ak31, ak32, ak33, ak34, ak35, ak36, an20, an21, an22, an23, an24, an25, an26, an27, an28, an29, an30, an31, an32, an33, an34, an35, an36, an37, an38, ne_eq, inR_ii, decide_eq_true_eq, lit_ii, of_ii, ii_eq, ii_lt, ii_le]; first | done | omega)) only [e1, e2, e3, e4, e5, e6, e7, o6, e_Mo_readTwo, b_Mo_readTwo_0, b_Mo_readTwo_5, b_Mo_readTwo_11, b_Mo_readTwo_15, b_Mo_readTwo_21, b_Mo_readTwo_25, b_Mo_readTwo_31, b_Mo_readTwo_47, es, dr_some, Option.isSome_some, gR_wI, Nat.add_mul_mod_self_left, Nat.reduceMod, ak20, ak21, ak22, ak23, ak24, ak25, ak26, ak27, ak28, ak29, ak30, ak31, ak32, ak33, ak34, ak35, ak36, an20, an21, an22, an23, an24, an25, an26, an27, an28, an29, an30, an31, an32, an33, an34, an35, an36, an37, an38, ↓reduceIte, bk_int, bk_void, bk_long, bkN_int, bkN_void, bkN_long, Nat.reduceAdd, Nat.reduceMul, Nat.reduceSub, Nat.reduceLT, Nat.reduceLeDiff, if_true, if_false, not_true_eq_false, not_false_eq_true, Bool.true_eq_false, Bool.false_eq_true, b2_eq0, Nat.add_zero, Nat.zero_add, Nat.not_lt_zero, Nat.zero_le, ite_true, ite_false, decide_true, decide_false, lit_ii, of_ii, le_T, le_F, lt_T, lt_F, eq_T, eq_F, ii_add, ii_mul, ii_nat, ii_le, ii_lt, ii_eq, inR_ii, ii_add0]
theorem l_unit {T : Nat → Nat} {n o b r : Nat} {S : LwT → PR LwT} (hr : o + r = 6) (hS : r = 0 ∨ (UCm T n m_Mo_readSum (o + 1) b S ∧ ∀ s : LwT, s.1 ≤ n → fwd n s (S s))) (hb : 14 ≤ b) (hn : n ≤ 150) : UCm T n m_Mo_readUnit o (b + 2) (lwU T n S r) := by
  intro e he σ s A C hs ho
  obtain ⟨e, rfl⟩ : ∃ k, e = k + 16 := ⟨e - 16, by omega⟩
  have hp := A.p
  have hsk := sk_ge (T := T) hp.1
  have hskl := sk_le (T := T) hp.1
  have ek : sk T n (sk T n s.1) = sk T n s.1 := rn_rn hp.1
  obtain ⟨x2, x3, xp, xn, xl⟩ := sk_eq (T := T) hp.1
  have hr2 : hrV T n (sk T n s.1) = hrV T n s.1 := by unfold hrV; rw [ek]
  obtain ⟨σ1, e1, A1, F1⟩ := r_here (d := e + 14) A
  have C1 := C.rd (Mat_rd F1)
  have o1 : gI σ1 3980 7 = ii o := (F1.I (by unfold Mat; omega)).trans ho
  have hl := hr_lt A
  unfold lwU
  by_cases z : sk T n s.1 < n ∧ T (sk T n s.1) = 40
  · rw [if_pos z]
    have hv : hrV T n s.1 = 40 := by rw [hrV_in z.1]; exact z.2
    rw [hv] at e1
    by_cases r0 : r = 0
    · rw [if_pos r0]
      have o6 : o = 6 := by omega
      rw [o6] at o1
      obtain ⟨σ2, e2, R2, F2⟩ := r_opensF (d := e + 13) (x := ii 1) A1 o1
      refine ⟨wI σ2 3980 7 (gI σ2 3980 7 - ii 1), ?_, R2.o, ((Mat_lF F1).tr F2).w (by unfold MlF; omega)⟩
      simp (disch := first | omega | exact b2_01 _ | exact ii0_01 | exact ii1_01 | (simp (disch := omega) only [e1, e2, dr_some, Option.isSome_some, gR_wI, Nat.add_mul_mod_self_left, Nat.reduceMod, ak20, ak21, ak22, ak23, ak24, ak25, ak26, ak27, ak28, ak29, ak30, ak31, ak32, ak33, ak34, ak35, ak36, an20, an21, an22, an23, an24, an25, an26, an27, an28, an29, an30, an31, an32, an33, an34, an35, an36, an37, an38, ne_eq, inR_ii, decide_eq_true_eq, lit_ii, of_ii, ii_eq, ii_lt, ii_le]; first | done | omega)) only [e1, e2, e_Mo_readUnit, b_Mo_readUnit_0, b_Mo_readUnit_4, b_Mo_readUnit_8, b_Mo_readUnit_12, b_Mo_readUnit_17, b_Mo_readUnit_22, b_Mo_readUnit_26, b_Mo_readUnit_32, b_Mo_readUnit_154, r_fineT A, r_sumB R2, r_signB R2, Nat.succ_ne_zero, dr_some, Option.isSome_some, gR_wI, Nat.add_mul_mod_self_left, Nat.reduceMod, ak20, ak21, ak22, ak23, ak24, ak25, ak26, ak27, ak28, ak29, ak30, ak31, ak32, ak33, ak34, ak35, ak36, an20, an21, an22, an23, an24, an25, an26, an27, an28, an29, an30, an31, an32, an33, an34, an35, an36, an37, an38, ↓reduceIte, bk_int, bk_void, bk_long, bkN_int, bkN_void, bkN_long, Nat.reduceAdd, Nat.reduceMul, Nat.reduceSub, Nat.reduceLT, Nat.reduceLeDiff, if_true, if_false, not_true_eq_false, not_false_eq_true, Bool.true_eq_false, Bool.false_eq_true, b2_eq0, Nat.add_zero, Nat.zero_add, Nat.not_lt_zero, Nat.zero_le, ite_true, ite_false, decide_true, decide_false, lit_ii, of_ii, le_T, le_F, lt_T, lt_F, eq_T, eq_F, ii_add, ii_mul, ii_nat, ii_le, ii_lt, ii_eq, inR_ii, ii_add0]
    · rw [if_neg r0]
      obtain ⟨hS1, hSf⟩ := hS.resolve_left r0
      have e2 := r_opens (d := e + 13) (b := 1) A1 o1 (by omega)
      have Q2 : LQm (wI (wI σ1 3980 4 (ii (sk T n s.1 + 1))) 3980 7 (ii (o + 1))) T n (o + 1) (.inl (sk T n s.1 + 1, s.2.1, s.2.2)) := ⟨(A1.at (by omega)).o, (C1.rd (Fm.rf.w (by unfold Mrd; omega))).o, gI_at⟩
      have F2 : Fm MlF σ (wI (wI σ1 3980 4 (ii (sk T n s.1 + 1))) 3980 7 (ii (o + 1))) := ((Mat_lF F1).w (by unfold MlF; omega)).w (by unfold MlF; omega)
      obtain ⟨σ3, e3, Q3, F3⟩ := l_sumQ (e := e + 15) hS1 (by omega) (by omega) Q2 (fun s' h => by cases h; show s.2.1 ≤ sk T n s.1 + 1; omega)
      obtain ⟨σ4, e4, Q4, F4⟩ := l_sign (d := e + 13) (c := 41) Q3 (by omega) (by omega)
      have FF := (F2.tr F3).tr F4
      have el : lwBr T n S (sk T n s.1 + 1, s.2.1, s.2.2) = bndL (bndL (.inl (sk T n s.1 + 1, s.2.1, s.2.2)) S) (sgnR T n 41) := by
        show lwBr T n S (sk T n s.1 + 1, s.2.1, s.2.2) = bndL (S (sk T n s.1 + 1, s.2.1, s.2.2)) (sgnR T n 41)
        unfold lwBr
        cases S (sk T n s.1 + 1, s.2.1, s.2.2) <;> rfl
      rw [el]
      have ec : callF (e + 16) m_Mo_readUnit [.ref 3980] σ = some (.inl none, wI σ4 3980 7 (gI σ4 3980 7 - ii 1)) := by
        simp (disch := first | omega | exact b2_01 _ | exact ii0_01 | exact ii1_01 | (simp (disch := omega) only [e1, e2, e3, e4, dr_some, Option.isSome_some, gR_wI, Nat.add_mul_mod_self_left, Nat.reduceMod, ak20, ak21, ak22, ak23, ak24, ak25, ak26, ak27, ak28, ak29, ak30, ak31, ak32, ak33, ak34, ak35, ak36, an20, an21, an22, an23, an24, an25, an26, an27, an28, an29, an30, an31, an32, an33, an34, an35, an36, an37, an38, ne_eq, inR_ii, decide_eq_true_eq, lit_ii, of_ii, ii_eq, ii_lt, ii_le]; first | done | omega)) only [e1, e2, e3, e4, e_Mo_readUnit, b_Mo_readUnit_0, b_Mo_readUnit_4, b_Mo_readUnit_8, b_Mo_readUnit_12, b_Mo_readUnit_17, b_Mo_readUnit_22, b_Mo_readUnit_26, b_Mo_readUnit_32, b_Mo_readUnit_154, r_fineT A, Nat.succ_ne_zero, dr_some, Option.isSome_some, gR_wI, Nat.add_mul_mod_self_left, Nat.reduceMod, ak20, ak21, ak22, ak23, ak24, ak25, ak26, ak27, ak28, ak29, ak30, ak31, ak32, ak33, ak34, ak35, ak36, an20, an21, an22, an23, an24, an25, an26, an27, an28, an29, an30, an31, an32, an33, an34, an35, an36, an37, an38, ↓reduceIte, bk_int, bk_void, bk_long, bkN_int, bkN_void, bkN_long, Nat.reduceAdd, Nat.reduceMul, Nat.reduceSub, Nat.reduceLT, Nat.reduceLeDiff, if_true, if_false, not_true_eq_false, not_false_eq_true, Bool.true_eq_false, Bool.false_eq_true, b2_eq0, Nat.add_zero, Nat.zero_add, Nat.not_lt_zero, Nat.zero_le, ite_true, ite_false, decide_true, decide_false, lit_ii, of_ii, le_T, le_F, lt_T, lt_F, eq_T, eq_F, ii_add, ii_mul, ii_nat, ii_le, ii_lt, ii_eq, inR_ii, ii_add0]
      refine ⟨_, ec, ?_, FF.w (by unfold MlF; omega)⟩
      generalize bndL (bndL (.inl (sk T n s.1 + 1, s.2.1, s.2.2)) S) (sgnR T n 41) = r at *
      cases r with
      | inr G => exact (show RB σ4 G from Q4).o
      | inl s4 =>
        obtain ⟨A4, C4, o4⟩ := Q4
        refine ⟨A4.o, C4.o, gI_at.trans ?_⟩
        rw [o4, ii_sub (by omega)]
        rfl
  · rw [if_neg z]
    have n40 : ¬ hrV T n s.1 = 40 := by
      by_cases y : sk T n s.1 < n
      · rw [hrV_in y]
        exact fun h => z ⟨y, h⟩
      · rw [hrV_out y]
        omega
    obtain ⟨σ2, e2, A2, F2⟩ := r_here (d := e + 14) A1
    rw [ek] at A2
    rw [hr2] at e2
    have n0 := fun d => r_isDigit (d := d) (c := hrV T n s.1) (σ := σ2) hl
    have F12 := F1.tr F2
    have hdig : (48 ≤ hrV T n s.1 ∧ hrV T n s.1 ≤ 57) ↔ (sk T n s.1 < n ∧ isD T (sk T n s.1) = true) := by
      by_cases y : sk T n s.1 < n
      · rw [hrV_in y]
        unfold isD
        rw [decide_eq_true_iff]
        exact ⟨fun h => ⟨y, h⟩, fun h => h.2⟩
      · rw [hrV_out y]
        exact ⟨fun h => by omega, fun h => absurd h.1 y⟩
    by_cases y : sk T n s.1 < n ∧ isD T (sk T n s.1) = true
    · rw [if_pos y]
      rw [decide_eq_true (hdig.mpr y)] at n0
      obtain ⟨σ3, v3, e3, N3, F3⟩ := r_num (d := e + 13) (lo := 0) (hi := 1000) (y := ii 999) A2 (pr_s 999).symm (by omega) (by omega)
      rw [xn] at N3
      have e9 : numW T n 0 1000 s.1 = match nmF T n s.1 0 1000 with
        | none => .inl (nmP T n s.1, nmV T n s.1)
        | some F => .inr F := rfl
      have C3 := (C.rd (Mat_rd F12)).rd F3
      cases hn9 : nmF T n s.1 0 1000 with
      | some G =>
        rw [e9, hn9] at N3
        obtain ⟨R3, rfl⟩ := N3
        refine ⟨σ3, ?_, R3, (Mat_lF F12).tr (Mrd_lF F3)⟩
        simp (disch := first | omega | exact b2_01 _ | exact ii0_01 | exact ii1_01 | (simp (disch := omega) only [e1, e2, e3, dr_some, Option.isSome_some, gR_wI, Nat.add_mul_mod_self_left, Nat.reduceMod, ak20, ak21, ak22, ak23, ak24, ak25, ak26, ak27, ak28, ak29, ak30, ak31, ak32, ak33, ak34, ak35, ak36, an20, an21, an22, an23, an24, an25, an26, an27, an28, an29, an30, an31, an32, an33, an34, an35, an36, an37, an38, ne_eq, inR_ii, decide_eq_true_eq, lit_ii, of_ii, ii_eq, ii_lt, ii_le]; first | done | omega)) only [e1, e2, e3, e_Mo_readUnit, b_Mo_readUnit_0, b_Mo_readUnit_4, b_Mo_readUnit_8, b_Mo_readUnit_12, b_Mo_readUnit_45, b_Mo_readUnit_49, b_Mo_readUnit_52, b_Mo_readUnit_55, b_Mo_readUnit_65, b_Mo_readUnit_68, b_Mo_readUnit_154, r_fineT A, n0, n40, r_emitB R3, Nat.succ_ne_zero, dr_some, Option.isSome_some, gR_wI, Nat.add_mul_mod_self_left, Nat.reduceMod, ak20, ak21, ak22, ak23, ak24, ak25, ak26, ak27, ak28, ak29, ak30, ak31, ak32, ak33, ak34, ak35, ak36, an20, an21, an22, an23, an24, an25, an26, an27, an28, an29, an30, an31, an32, an33, an34, an35, an36, an37, an38, ↓reduceIte, bk_int, bk_void, bk_long, bkN_int, bkN_void, bkN_long, Nat.reduceAdd, Nat.reduceMul, Nat.reduceSub, Nat.reduceLT, Nat.reduceLeDiff, if_true, if_false, not_true_eq_false, not_false_eq_true, Bool.true_eq_false, Bool.false_eq_true, b2_eq0, Nat.add_zero, Nat.zero_add, Nat.not_lt_zero, Nat.zero_le, ite_true, ite_false, decide_true, decide_false, lit_ii, of_ii, le_T, le_F, lt_T, lt_F, eq_T, eq_F, ii_add, ii_mul, ii_nat, ii_le, ii_lt, ii_eq, inR_ii, ii_add0]
      | none =>
        have hnw : numW T n 0 1000 s.1 = .inl (nmP T n s.1, nmV T n s.1) := by rw [e9, hn9]
        obtain ⟨g1, g2, g3, g4, -⟩ := numW_fwd hp.1 hnw
        rw [hnw] at N3
        obtain ⟨A3, rfl⟩ := N3
        have kv := kW_v (c := nmV T n s.1) (by unfold okC; omega)
        obtain ⟨kv1, kv2⟩ := kv.2.1 g4
        obtain ⟨σ4, e4, A4, C4, o4, F4⟩ := r_emit (d := e + 13) (v := nmV T n s.1) (x := ii 0) (y := ii (nmV T n s.1)) A3 C3 (by omega) (by rw [kv1]) (by rw [kv2])
        refine ⟨σ4, ?_, ⟨A4, C4, o4.trans ((F3.I (by unfold Mrd; omega)).trans ((F12.I (by unfold Mat; omega)).trans ho))⟩, ((Mat_lF F12).tr (Mrd_lF F3)).tr F4⟩
        simp (disch := first | omega | exact b2_01 _ | exact ii0_01 | exact ii1_01 | (simp (disch := omega) only [e1, e2, e3, e4, dr_some, Option.isSome_some, gR_wI, Nat.add_mul_mod_self_left, Nat.reduceMod, ak20, ak21, ak22, ak23, ak24, ak25, ak26, ak27, ak28, ak29, ak30, ak31, ak32, ak33, ak34, ak35, ak36, an20, an21, an22, an23, an24, an25, an26, an27, an28, an29, an30, an31, an32, an33, an34, an35, an36, an37, an38, ne_eq, inR_ii, decide_eq_true_eq, lit_ii, of_ii, ii_eq, ii_lt, ii_le]; first | done | omega)) only [e1, e2, e3, e4, e_Mo_readUnit, b_Mo_readUnit_0, b_Mo_readUnit_4, b_Mo_readUnit_8, b_Mo_readUnit_12, b_Mo_readUnit_45, b_Mo_readUnit_49, b_Mo_readUnit_52, b_Mo_readUnit_55, b_Mo_readUnit_65, b_Mo_readUnit_68, b_Mo_readUnit_154, r_fineT A, n0, n40, Nat.succ_ne_zero, dr_some, Option.isSome_some, gR_wI, Nat.add_mul_mod_self_left, Nat.reduceMod, ak20, ak21, ak22, ak23, ak24, ak25, ak26, ak27, ak28, ak29, ak30, ak31, ak32, ak33, ak34, ak35, ak36, an20, an21, an22, an23, an24, an25, an26, an27, an28, an29, an30, an31, an32, an33, an34, an35, an36, an37, an38, ↓reduceIte, bk_int, bk_void, bk_long, bkN_int, bkN_void, bkN_long, Nat.reduceAdd, Nat.reduceMul, Nat.reduceSub, Nat.reduceLT, Nat.reduceLeDiff, if_true, if_false, not_true_eq_false, not_false_eq_true, Bool.true_eq_false, Bool.false_eq_true, b2_eq0, Nat.add_zero, Nat.zero_add, Nat.not_lt_zero, Nat.zero_le, ite_true, ite_false, decide_true, decide_false, lit_ii, of_ii, le_T, le_F, lt_T, lt_F, eq_T, eq_F, ii_add, ii_mul, ii_nat, ii_le, ii_lt, ii_eq, inR_ii, ii_add0]
    · rw [if_neg y]
      rw [decide_eq_false (fun h => y (hdig.mp h))] at n0
      obtain ⟨σ3, e3, A3, F3⟩ := r_word (d := e + 13) A2
      rw [ek] at A3
      obtain ⟨σ4, e4, A4, F4⟩ := r_word (d := e + 13) A3
      rw [ek] at A4
      have F13 := F12.tr F3
      have F14 := F13.tr F4
      obtain ⟨ks, kn⟩ := wk2w A2.p.1 A2.lt
      have wl := wdV_lt A2
      rw [x2] at ks kn
      cases hx : wdX 2 T n s.1 with
      | none =>
        obtain ⟨σ5, e5, A5, F5⟩ := r_factHere (d := e + 8) A4
        rw [x2, hx] at e5
        rw [ek] at A5
        have R5 := A5.bad (q := sk T n s.1) (k := 1) (by omega) (by omega)
        have n9 := kn hx 9 (by omega)
        have n10 := kn hx 10 (by omega)
        simp only [sx2, Nat.reduceLT, Nat.reduceEqDiff, ↓reduceIte, pv_9, pv_10] at n9 n10
        have e4' := A5.2.2.2.1
        refine ⟨_, ?_, R5, ((Mat_lF (F14.tr F5)).w (by unfold MlF; omega)).w (by unfold MlF; omega)⟩
        simp (disch := first | omega | exact b2_01 _ | exact ii0_01 | exact ii1_01 | (simp (disch := omega) only [e1, e2, e3, e4, e5, e4', dr_some, Option.isSome_some, gR_wI, Nat.add_mul_mod_self_left, Nat.reduceMod, ak20, ak21, ak22, ak23, ak24, ak25, ak26, ak27, ak28, ak29, ak30, ak31, ak32, ak33, ak34, ak35, ak36, an20, an21, an22, an23, an24, an25, an26, an27, an28, an29, an30, an31, an32, an33, an34, an35, an36, an37, an38, ne_eq, inR_ii, decide_eq_true_eq, lit_ii, of_ii, ii_eq, ii_lt, ii_le]; first | done | omega)) only [e1, e2, e3, e4, e5, e4', e_Mo_readUnit, b_Mo_readUnit_0, b_Mo_readUnit_4, b_Mo_readUnit_8, b_Mo_readUnit_12, b_Mo_readUnit_45, b_Mo_readUnit_49, b_Mo_readUnit_52, b_Mo_readUnit_71, b_Mo_readUnit_75, b_Mo_readUnit_81, b_Mo_readUnit_94, b_Mo_readUnit_98, b_Mo_readUnit_104, b_Mo_readUnit_117, b_Mo_readUnit_121, b_Mo_readUnit_127, b_Mo_readUnit_136, b_Mo_readUnit_140, b_Mo_readUnit_143, r_fineT A, r_wrong A5, r_fineF R5, n0, n40, of_9, of_10, pv_9, pv_10, n9, n10, ng_ng_eq, Nat.succ_ne_zero, dr_some, Option.isSome_some, gR_wI, Nat.add_mul_mod_self_left, Nat.reduceMod, ak20, ak21, ak22, ak23, ak24, ak25, ak26, ak27, ak28, ak29, ak30, ak31, ak32, ak33, ak34, ak35, ak36, an20, an21, an22, an23, an24, an25, an26, an27, an28, an29, an30, an31, an32, an33, an34, an35, an36, an37, an38, ↓reduceIte, bk_int, bk_void, bk_long, bkN_int, bkN_void, bkN_long, Nat.reduceAdd, Nat.reduceMul, Nat.reduceSub, Nat.reduceLT, Nat.reduceLeDiff, if_true, if_false, not_true_eq_false, not_false_eq_true, Bool.true_eq_false, Bool.false_eq_true, b2_eq0, Nat.add_zero, Nat.zero_add, Nat.not_lt_zero, Nat.zero_le, ite_true, ite_false, decide_true, decide_false, lit_ii, of_ii, le_T, le_F, lt_T, lt_F, eq_T, eq_F, ii_add, ii_mul, ii_nat, ii_le, ii_lt, ii_eq, inR_ii, ii_add0]
      | some x =>
        obtain ⟨x11, ew⟩ := ks x hx
        have hlen := wk2l hx
        have lt1 := rn_ge (P := isL T) hskl
        have lt2 := rn_le (P := isL T) hskl
        have elt : ltE T n (sk T n s.1) = rn (isL T) n (sk T n s.1) := rfl
        simp only
        by_cases x9 : x < 9
        · rw [if_pos x9]
          obtain ⟨σ5, e5, A5, F5⟩ := r_factHere (d := e + 8) A4
          rw [x2, hx] at e5
          simp only [if_pos x9] at e5
          rw [ek] at A5
          obtain ⟨σ6, e6, A6, F6⟩ := r_pass (d := e + 13) A5
          rw [xl] at A6
          have F16 := (F14.tr F5).tr F6
          have C6 := C.rd (Mat_rd F16)
          have kv := kW_v (c := 1000 + x) (by unfold okC; omega)
          obtain ⟨kv1, kv2⟩ := kv.2.2.1 (by omega) (by omega)
          have hx1 : ii 1 = ii (kW (1000 + x)) := by rw [kv1]
          have hx2 : ii x = ii (kO (1000 + x)) := by rw [kv2, show 1000 + x - 1000 = x by omega]
          have hwp : s.2.1 < 150 := by
            have : 1 ≤ slen (sx2 x) := by
              have : ∀ x, x < 11 → 1 ≤ slen (sx2 x) := by decide +kernel
              exact this x x11
            omega
          obtain ⟨σ7, e7, A7, C7, o7, F7⟩ := r_emit (d := e + 13) (v := 1000 + x) A6 C6 hwp hx1 hx2
          refine ⟨σ7, ?_, ⟨A7, C7, o7.trans ((F16.I (by unfold Mat; omega)).trans ho)⟩, (Mat_lF F16).tr F7⟩
          have ne1 : ¬ pkS (sx2 x) = pkS 9 ∧ ¬ pkS (sx2 x) = pkS 10 ∧ pkS (sx2 x) < 1073741824 ∧ pkS 9 < 1073741824 ∧ pkS 10 < 1073741824 := by
            have : ∀ x, x < 9 → ¬ pkS (sx2 x) = pkS 9 ∧ ¬ pkS (sx2 x) = pkS 10 ∧ pkS (sx2 x) < 1073741824 ∧ pkS 9 < 1073741824 ∧ pkS 10 < 1073741824 := by decide +kernel
            exact this x x9
          obtain ⟨ne1, ne2, ne3, ne4, ne5⟩ := ne1
          rw [ew] at e3 e4
          simp (disch := first | omega | exact b2_01 _ | exact ii0_01 | exact ii1_01 | (simp (disch := omega) only [e1, e2, e3, e4, e5, e6, e7, dr_some, Option.isSome_some, gR_wI, Nat.add_mul_mod_self_left, Nat.reduceMod, ak20, ak21, ak22, ak23, ak24, ak25, ak26, ak27, ak28, ak29, ak30, ak31, ak32, ak33, ak34, ak35, ak36, an20, an21, an22, an23, an24, an25, an26, an27, an28, an29, an30, an31, an32, an33, an34, an35, an36, an37, an38, ne_eq, inR_ii, decide_eq_true_eq, lit_ii, of_ii, ii_eq, ii_lt, ii_le]; first | done | omega)) only [e1, e2, e3, e4, e5, e6, e7, e_Mo_readUnit, b_Mo_readUnit_0, b_Mo_readUnit_4, b_Mo_readUnit_8, b_Mo_readUnit_12, b_Mo_readUnit_45, b_Mo_readUnit_49, b_Mo_readUnit_52, b_Mo_readUnit_71, b_Mo_readUnit_75, b_Mo_readUnit_81, b_Mo_readUnit_94, b_Mo_readUnit_98, b_Mo_readUnit_104, b_Mo_readUnit_117, b_Mo_readUnit_121, b_Mo_readUnit_136, b_Mo_readUnit_140, b_Mo_readUnit_144, b_Mo_readUnit_148, b_Mo_readUnit_154, r_fineT A, r_fineT A5, n0, n40, of_9, of_10, ne1, ne2, eq_ng, Nat.succ_ne_zero, dr_some, Option.isSome_some, gR_wI, Nat.add_mul_mod_self_left, Nat.reduceMod, ak20, ak21, ak22, ak23, ak24, ak25, ak26, ak27, ak28, ak29, ak30, ak31, ak32, ak33, ak34, ak35, ak36, an20, an21, an22, an23, an24, an25, an26, an27, an28, an29, an30, an31, an32, an33, an34, an35, an36, an37, an38, ↓reduceIte, bk_int, bk_void, bk_long, bkN_int, bkN_void, bkN_long, Nat.reduceAdd, Nat.reduceMul, Nat.reduceSub, Nat.reduceLT, Nat.reduceLeDiff, if_true, if_false, not_true_eq_false, not_false_eq_true, Bool.true_eq_false, Bool.false_eq_true, b2_eq0, Nat.add_zero, Nat.zero_add, Nat.not_lt_zero, Nat.zero_le, ite_true, ite_false, decide_true, decide_false, lit_ii, of_ii, le_T, le_F, lt_T, lt_F, eq_T, eq_F, ii_add, ii_mul, ii_nat, ii_le, ii_lt, ii_eq, inR_ii, ii_add0]
        · rw [if_neg x9]
          have hx2 : x = 9 ∨ x = 10 := by omega
          rcases hx2 with rfl | rfl
          · have hlen5 : ltE T n (sk T n s.1) - sk T n s.1 = 5 := hlen
            have ewp : wdP T n s.1 = sk T n s.1 + 5 := by rw [← xl]; omega
            have ew9 : wdV T n (sk T n s.1) = pkS 9 := ew
            rw [ew9] at e3
            have C3 := C.rd (Mat_rd F13)
            have o3 : gI σ3 3980 7 = ii o := (F13.I (by unfold Mat; omega)).trans ho
            have fin : ∀ (τ : HP) (R : PR LwT), callF (e + 15) m_Mo_readTwo [.ref 3980, .int (ii 5), .int (ii 6)] σ3 = some (.inl none, τ) → LQm τ T n o R → Fm MlF σ3 τ → ∃ σ', callF (e + 16) m_Mo_readUnit [.ref 3980] σ = some (.inl none, σ') ∧ LQm σ' T n o R ∧ Fm MlF σ σ' := by
              intro τ R eτ Qτ Fτ
              refine ⟨τ, ?_, Qτ, (Mat_lF F13).tr Fτ⟩
              simp (disch := first | omega | exact b2_01 _ | exact ii0_01 | exact ii1_01 | (simp (disch := omega) only [e1, e2, e3, eτ, dr_some, Option.isSome_some, gR_wI, Nat.add_mul_mod_self_left, Nat.reduceMod, ak20, ak21, ak22, ak23, ak24, ak25, ak26, ak27, ak28, ak29, ak30, ak31, ak32, ak33, ak34, ak35, ak36, an20, an21, an22, an23, an24, an25, an26, an27, an28, an29, an30, an31, an32, an33, an34, an35, an36, an37, an38, ne_eq, inR_ii, decide_eq_true_eq, lit_ii, of_ii, ii_eq, ii_lt, ii_le]; first | done | omega)) only [e1, e2, e3, eτ, e_Mo_readUnit, b_Mo_readUnit_0, b_Mo_readUnit_4, b_Mo_readUnit_8, b_Mo_readUnit_12, b_Mo_readUnit_45, b_Mo_readUnit_49, b_Mo_readUnit_52, b_Mo_readUnit_71, b_Mo_readUnit_75, b_Mo_readUnit_81, b_Mo_readUnit_84, b_Mo_readUnit_91, b_Mo_readUnit_154, r_fineT A, n0, n40, of_9, pv_9, Nat.succ_ne_zero, dr_some, Option.isSome_some, gR_wI, Nat.add_mul_mod_self_left, Nat.reduceMod, ak20, ak21, ak22, ak23, ak24, ak25, ak26, ak27, ak28, ak29, ak30, ak31, ak32, ak33, ak34, ak35, ak36, an20, an21, an22, an23, an24, an25, an26, an27, an28, an29, an30, an31, an32, an33, an34, an35, an36, an37, an38, ↓reduceIte, bk_int, bk_void, bk_long, bkN_int, bkN_void, bkN_long, Nat.reduceAdd, Nat.reduceMul, Nat.reduceSub, Nat.reduceLT, Nat.reduceLeDiff, if_true, if_false, not_true_eq_false, not_false_eq_true, Bool.true_eq_false, Bool.false_eq_true, b2_eq0, Nat.add_zero, Nat.zero_add, Nat.not_lt_zero, Nat.zero_le, ite_true, ite_false, decide_true, decide_false, lit_ii, of_ii, le_T, le_F, lt_T, lt_F, eq_T, eq_F, ii_add, ii_mul, ii_nat, ii_le, ii_lt, ii_eq, inR_ii, ii_add0]
            by_cases r0 : r = 0
            · rw [if_pos r0]
              have o6 : o = 6 := by omega
              rw [o6] at o3
              obtain ⟨τ, e5, R5, F5⟩ := r_opensF (d := e + 12) (x := ii 5) A3 o3
              have R6 := R5.o (v := gI τ 3980 7 - ii 1)
              refine fin (wI τ 3980 7 (gI τ 3980 7 - ii 1)) _ ?_ (show RB _ _ from R6) (F5.w (by unfold MlF; omega))
              simp (disch := first | omega | exact b2_01 _ | exact ii0_01 | exact ii1_01 | (simp (disch := omega) only [e5, dr_some, Option.isSome_some, gR_wI, Nat.add_mul_mod_self_left, Nat.reduceMod, ak20, ak21, ak22, ak23, ak24, ak25, ak26, ak27, ak28, ak29, ak30, ak31, ak32, ak33, ak34, ak35, ak36, an20, an21, an22, an23, an24, an25, an26, an27, an28, an29, an30, an31, an32, an33, an34, an35, an36, an37, an38, ne_eq, inR_ii, decide_eq_true_eq, lit_ii, of_ii, ii_eq, ii_lt, ii_le]; first | done | omega)) only [e5, e_Mo_readTwo, b_Mo_readTwo_0, b_Mo_readTwo_5, b_Mo_readTwo_11, b_Mo_readTwo_15, b_Mo_readTwo_21, b_Mo_readTwo_25, b_Mo_readTwo_31, b_Mo_readTwo_47, r_signB R5, r_sumB R5, r_emitB R6, dr_some, Option.isSome_some, gR_wI, Nat.add_mul_mod_self_left, Nat.reduceMod, ak20, ak21, ak22, ak23, ak24, ak25, ak26, ak27, ak28, ak29, ak30, ak31, ak32, ak33, ak34, ak35, ak36, an20, an21, an22, an23, an24, an25, an26, an27, an28, an29, an30, an31, an32, an33, an34, an35, an36, an37, an38, ↓reduceIte, bk_int, bk_void, bk_long, bkN_int, bkN_void, bkN_long, Nat.reduceAdd, Nat.reduceMul, Nat.reduceSub, Nat.reduceLT, Nat.reduceLeDiff, if_true, if_false, not_true_eq_false, not_false_eq_true, Bool.true_eq_false, Bool.false_eq_true, b2_eq0, Nat.add_zero, Nat.zero_add, Nat.not_lt_zero, Nat.zero_le, ite_true, ite_false, decide_true, decide_false, lit_ii, of_ii, le_T, le_F, lt_T, lt_F, eq_T, eq_F, ii_add, ii_mul, ii_nat, ii_le, ii_lt, ii_eq, inR_ii, ii_add0]
            · rw [if_neg r0, if_pos rfl, ewp]
              obtain ⟨hS1, hSf⟩ := hS.resolve_left r0
              obtain ⟨τ, e5, Q5, F5⟩ := l_two (e := e + 15) (by' := 5) (j := 2001) hS1 hSf hn (by omega) (by omega) A3 C3 o3 (by omega) (by omega) (by omega) (Or.inl rfl)
              exact fin τ _ e5 Q5 F5
          · have hlen5 : ltE T n (sk T n s.1) - sk T n s.1 = 4 := hlen
            have ewp : wdP T n s.1 = sk T n s.1 + 4 := by rw [← xl]; omega
            have ew9 : wdV T n (sk T n s.1) = pkS 10 := ew
            rw [ew9] at e3 e4
            have C4 := C.rd (Mat_rd F14)
            have o4 : gI σ4 3980 7 = ii o := (F14.I (by unfold Mat; omega)).trans ho
            have fin : ∀ (τ : HP) (R : PR LwT), callF (e + 15) m_Mo_readTwo [.ref 3980, .int (ii 4), .int (ii 7)] σ4 = some (.inl none, τ) → LQm τ T n o R → Fm MlF σ4 τ → ∃ σ', callF (e + 16) m_Mo_readUnit [.ref 3980] σ = some (.inl none, σ') ∧ LQm σ' T n o R ∧ Fm MlF σ σ' := by
              intro τ R eτ Qτ Fτ
              refine ⟨τ, ?_, Qτ, (Mat_lF F14).tr Fτ⟩
              simp (disch := first | omega | exact b2_01 _ | exact ii0_01 | exact ii1_01 | (simp (disch := omega) only [e1, e2, e3, e4, eτ, dr_some, Option.isSome_some, gR_wI, Nat.add_mul_mod_self_left, Nat.reduceMod, ak20, ak21, ak22, ak23, ak24, ak25, ak26, ak27, ak28, ak29, ak30, ak31, ak32, ak33, ak34, ak35, ak36, an20, an21, an22, an23, an24, an25, an26, an27, an28, an29, an30, an31, an32, an33, an34, an35, an36, an37, an38, ne_eq, inR_ii, decide_eq_true_eq, lit_ii, of_ii, ii_eq, ii_lt, ii_le]; first | done | omega)) only [e1, e2, e3, e4, eτ, e_Mo_readUnit, b_Mo_readUnit_0, b_Mo_readUnit_4, b_Mo_readUnit_8, b_Mo_readUnit_12, b_Mo_readUnit_45, b_Mo_readUnit_49, b_Mo_readUnit_52, b_Mo_readUnit_71, b_Mo_readUnit_75, b_Mo_readUnit_81, b_Mo_readUnit_94, b_Mo_readUnit_98, b_Mo_readUnit_104, b_Mo_readUnit_107, b_Mo_readUnit_114, b_Mo_readUnit_154, r_fineT A, n0, n40, of_9, of_10, pv_9, pv_10, Nat.succ_ne_zero, Nat.reduceEqDiff, dr_some, Option.isSome_some, gR_wI, Nat.add_mul_mod_self_left, Nat.reduceMod, ak20, ak21, ak22, ak23, ak24, ak25, ak26, ak27, ak28, ak29, ak30, ak31, ak32, ak33, ak34, ak35, ak36, an20, an21, an22, an23, an24, an25, an26, an27, an28, an29, an30, an31, an32, an33, an34, an35, an36, an37, an38, ↓reduceIte, bk_int, bk_void, bk_long, bkN_int, bkN_void, bkN_long, Nat.reduceAdd, Nat.reduceMul, Nat.reduceSub, Nat.reduceLT, Nat.reduceLeDiff, if_true, if_false, not_true_eq_false, not_false_eq_true, Bool.true_eq_false, Bool.false_eq_true, b2_eq0, Nat.add_zero, Nat.zero_add, Nat.not_lt_zero, Nat.zero_le, ite_true, ite_false, decide_true, decide_false, lit_ii, of_ii, le_T, le_F, lt_T, lt_F, eq_T, eq_F, ii_add, ii_mul, ii_nat, ii_le, ii_lt, ii_eq, inR_ii, ii_add0]
            by_cases r0 : r = 0
            · rw [if_pos r0]
              have o6 : o = 6 := by omega
              rw [o6] at o4
              obtain ⟨τ, e5, R5, F5⟩ := r_opensF (d := e + 12) (x := ii 4) A4 o4
              have R6 := R5.o (v := gI τ 3980 7 - ii 1)
              refine fin (wI τ 3980 7 (gI τ 3980 7 - ii 1)) _ ?_ (show RB _ _ from R6) (F5.w (by unfold MlF; omega))
              simp (disch := first | omega | exact b2_01 _ | exact ii0_01 | exact ii1_01 | (simp (disch := omega) only [e5, dr_some, Option.isSome_some, gR_wI, Nat.add_mul_mod_self_left, Nat.reduceMod, ak20, ak21, ak22, ak23, ak24, ak25, ak26, ak27, ak28, ak29, ak30, ak31, ak32, ak33, ak34, ak35, ak36, an20, an21, an22, an23, an24, an25, an26, an27, an28, an29, an30, an31, an32, an33, an34, an35, an36, an37, an38, ne_eq, inR_ii, decide_eq_true_eq, lit_ii, of_ii, ii_eq, ii_lt, ii_le]; first | done | omega)) only [e5, e_Mo_readTwo, b_Mo_readTwo_0, b_Mo_readTwo_5, b_Mo_readTwo_11, b_Mo_readTwo_15, b_Mo_readTwo_21, b_Mo_readTwo_25, b_Mo_readTwo_31, b_Mo_readTwo_47, r_signB R5, r_sumB R5, r_emitB R6, dr_some, Option.isSome_some, gR_wI, Nat.add_mul_mod_self_left, Nat.reduceMod, ak20, ak21, ak22, ak23, ak24, ak25, ak26, ak27, ak28, ak29, ak30, ak31, ak32, ak33, ak34, ak35, ak36, an20, an21, an22, an23, an24, an25, an26, an27, an28, an29, an30, an31, an32, an33, an34, an35, an36, an37, an38, ↓reduceIte, bk_int, bk_void, bk_long, bkN_int, bkN_void, bkN_long, Nat.reduceAdd, Nat.reduceMul, Nat.reduceSub, Nat.reduceLT, Nat.reduceLeDiff, if_true, if_false, not_true_eq_false, not_false_eq_true, Bool.true_eq_false, Bool.false_eq_true, b2_eq0, Nat.add_zero, Nat.zero_add, Nat.not_lt_zero, Nat.zero_le, ite_true, ite_false, decide_true, decide_false, lit_ii, of_ii, le_T, le_F, lt_T, lt_F, eq_T, eq_F, ii_add, ii_mul, ii_nat, ii_le, ii_lt, ii_eq, inR_ii, ii_add0]
            · rw [if_neg r0, if_neg (by decide), ewp]
              obtain ⟨hS1, hSf⟩ := hS.resolve_left r0
              obtain ⟨τ, e5, Q5, F5⟩ := l_two (e := e + 15) (by' := 4) (j := 2002) hS1 hSf hn (by omega) (by omega) A4 C4 o4 (by omega) (by omega) (by omega) (Or.inr rfl)
              exact fin τ _ e5 Q5 F5
theorem l_units {T : Nat → Nat} {n : Nat} (hn : n ≤ 150) : ∀ r, r ≤ 6 → UCm T n m_Mo_readUnit (6 - r) (16 + 4 * r) (lwUn T n r) := by
  intro r
  induction r with
  | zero => intro _; exact l_unit (o := 6) (b := 14) rfl (Or.inl rfl) (by omega) hn
  | succ r ih =>
    intro hr
    have h1 := lm_sum (ih (by omega)) (lwUn_fwd r) hn (by omega)
    rw [show 6 - r = 6 - (r + 1) + 1 by omega] at h1
    have h2 := l_unit (o := 6 - (r + 1)) (r := r + 1) (by omega) (Or.inr ⟨h1, lwSum_fwd (lwUn_fwd r)⟩) (by omega) hn
    exact h2.mono (by omega)
