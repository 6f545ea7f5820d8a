/-! THE REFERENCE: a text opened and closed -/
def bgH (σ : HP) (n : Nat) : HP := wI (wI (wI (wI (wI (wI σ 3980 2 (ii 0)) 3980 8 (-ii 1)) 3980 3 (ii n)) 3980 4 (ii 0)) 3980 5 (-ii 1)) 3980 7 (ii 0)
theorem r_begins {d n : Nat} {σ : HP} : callF (d + 1) m_Mo_begins [.ref 3980, .int (ii n)] σ = some (.inl none, bgH σ n) := by
  unfold bgH
  simp (disch := first | omega | exact b2_01 _ | exact ii0_01 | exact ii1_01 | (simp (disch := omega) only [Nat.le_refl, dr_some, Option.isSome_some, gR_wI, Nat.add_mul_mod_self_left, Nat.reduceMod, ak20, ak21, ak22, ak23, ak24, ak25, ak26, ak27, ak28, ak29, ak30, ak31, ak32, ak33, ak34, ak35, ak36, an20, an21, an22, an23, an24, an25, an26, an27, an28, an29, an30, an31, an32, an33, an34, an35, an36, an37, an38, ne_eq, inR_ii, decide_eq_true_eq, lit_ii, of_ii, ii_eq, ii_lt, ii_le]; first | done | omega)) only [Nat.le_refl, e_Mo_begins, b_Mo_begins_0, dr_some, Option.isSome_some, gR_wI, Nat.add_mul_mod_self_left, Nat.reduceMod, ak20, ak21, ak22, ak23, ak24, ak25, ak26, ak27, ak28, ak29, ak30, ak31, ak32, ak33, ak34, ak35, ak36, an20, an21, an22, an23, an24, an25, an26, an27, an28, an29, an30, an31, an32, an33, an34, an35, an36, an37, an38, ↓reduceIte, bk_int, bk_void, bk_long, bkN_int, bkN_void, bkN_long, Nat.reduceAdd, Nat.reduceMul, Nat.reduceSub, Nat.reduceLT, Nat.reduceLeDiff, if_true, if_false, not_true_eq_false, not_false_eq_true, Bool.true_eq_false, Bool.false_eq_true, b2_eq0, Nat.add_zero, Nat.zero_add, Nat.not_lt_zero, Nat.zero_le, ite_true, ite_false, decide_true, decide_false, lit_ii, of_ii, le_T, le_F, lt_T, lt_F, eq_T, eq_F, ii_add, ii_mul, ii_nat, ii_le, ii_lt, ii_eq, inR_ii, ii_add0]
theorem bgH_fm {σ : HP} {n : Nat} : Fm (fun a j => a = 3980 ∧ (j = 2 ∨ j = 8 ∨ j = 3 ∨ j = 4 ∨ j = 5 ∨ j = 7)) σ (bgH σ n) := Fm.w (Fm.w (Fm.w (Fm.w (Fm.w (Fm.w Fm.rf (by omega)) (by omega)) (by omega)) (by omega)) (by omega)) (by omega)
theorem bgH_v {σ : HP} {n : Nat} : gI (bgH σ n) 3980 2 = ii 0 ∧ gI (bgH σ n) 3980 8 = -ii 1 ∧ gI (bgH σ n) 3980 3 = ii n ∧ gI (bgH σ n) 3980 4 = ii 0 ∧ gI (bgH σ n) 3980 5 = -ii 1 ∧ gI (bgH σ n) 3980 7 = ii 0 := by
  unfold bgH
  refine ⟨?_, ?_, ?_, ?_, ?_, gI_at⟩
  · rw [gI_nj (by omega), gI_nj (by omega), gI_nj (by omega), gI_nj (by omega), gI_nj (by omega)]; exact gI_at
  · rw [gI_nj (by omega), gI_nj (by omega), gI_nj (by omega), gI_nj (by omega)]; exact gI_at
  · rw [gI_nj (by omega), gI_nj (by omega), gI_nj (by omega)]; exact gI_at
  · rw [gI_nj (by omega), gI_nj (by omega)]; exact gI_at
  · rw [gI_nj (by omega)]; exact gI_at
theorem MW.beg {σ : HP} {H : HH} {w : LW} {D : DN} {tp : TPE} {ct : CNT} {B : BK} {pw : PW} {im : IMS} (A : MW σ H w D tp ct B pw im) {n : Nat} : MW (bgH σ n) H w D (0, tp.2) (-ii 1, ct.2) B pw im := by
  obtain ⟨a, b, ca, e, f, ⟨g1, g2, g3⟩, ⟨m1, m2, m3, m4⟩, i, j, l⟩ := A
  have F := bgH_fm (σ := σ) (n := n)
  have V := bgH_v (σ := σ) (n := n)
  exact ⟨a.fm F, b.fm F (fun j z => by omega) (fun j => by omega) (fun j => by omega), ca.fm F (by omega) (fun j => by omega) (fun j => by omega), e.fm F (fun j => by omega), f, ⟨V.1, Nat.zero_le _, fun k hk => ⟨(F.I (by omega)).trans (g3 k hk).1, (g3 k hk).2⟩⟩, ⟨V.2.1, (F.I (by omega)).trans m2, (F.I (by omega)).trans m3, (F.I (by omega)).trans m4⟩, i.fm F (by omega) (fun j => by omega), j.fm F (by omega) (fun j => by omega), l.fm F (by omega) (fun j => by omega)⟩
theorem RD.beg {σ : HP} {H : HH} {w : LW} {D : DN} {tp : TPE} {ct : CNT} {B : BK} {pw : PW} {im : IMS} (A : MW σ H w D tp ct B pw im) {n : Nat} (hn : n ≤ 600) : RD (bgH σ n) tp.2 n 0 := by
  have V := bgH_v (σ := σ) (n := n)
  exact ⟨A.1.fm bgH_fm, fun k hk => ⟨((bgH_fm (σ := σ) (n := n)).I (by omega)).trans (A.2.2.2.2.2.1.2.2 k hk).1, (A.2.2.2.2.2.1.2.2 k hk).2⟩, V.2.2.1, V.2.2.2.1, V.2.2.2.2.1, Nat.zero_le _, hn⟩
theorem MW.w8 {σ : HP} {H : HH} {w : LW} {D : DN} {tp : TPE} {ct : CNT} {B : BK} {pw : PW} {im : IMS} (A : MW σ H w D tp ct B pw im) {v : Int32} : MW (wI σ 3980 8 v) H w D tp (v, ct.2) B pw im := by
  obtain ⟨a, b, ca, e, f, g, ⟨m1, m2, m3, m4⟩, i, j, l⟩ := A
  have F : Fm (fun a j => a = 3980 ∧ j = 8) σ (wI σ 3980 8 v) := Fm.w Fm.rf ⟨rfl, rfl⟩
  exact ⟨a.fm F, b.fm F (fun j z => by omega) (fun j => by omega) (fun j => by omega), ca.fm F (by omega) (fun j => by omega) (fun j => by omega), e.fm F (fun j => by omega), f, g.fm F (by omega) (fun j => by omega), ⟨gI_at, (F.I (by omega)).trans m2, (F.I (by omega)).trans m3, (F.I (by omega)).trans m4⟩, i.fm F (by omega) (fun j => by omega), j.fm F (by omega) (fun j => by omega), l.fm F (by omega) (fun j => by omega)⟩
theorem r_resT {d : Nat} {v : Int32} {σ : HP} {T : Nat → Nat} {n p : Nat} (A : RD σ T n p) : callF (d + 2) m_Mo_result [.ref 3980, .int v] σ = some (.inl (some (.int v)), wI σ 3980 8 (-ii 1)) := by
  have e := A.2.2.2.2.1
  have A' : RD (wI σ 3980 8 (-ii 1)) T n p := A.fm (S := fun a j => a = 3980 ∧ j = 8) (Fm.w Fm.rf ⟨rfl, rfl⟩) (fun j => by omega) (fun j z => by omega)
  simp (disch := first | omega | exact b2_01 _ | exact ii0_01 | exact ii1_01 | (simp (disch := omega) only [e, dr_some, Option.isSome_some, gR_wI, Nat.add_mul_mod_self_left, Nat.reduceMod, ak20, ak21, ak22, ak23, ak24, ak25, ak26, ak27, ak28, ak29, ak30, ak31, ak32, ak33, ak34, ak35, ak36, an20, an21, an22, an23, an24, an25, an26, an27, an28, an29, an30, an31, an32, an33, an34, an35, an36, an37, an38, ne_eq, inR_ii, decide_eq_true_eq, lit_ii, of_ii, ii_eq, ii_lt, ii_le]; first | done | omega)) only [e, e_Mo_result, b_Mo_result_0, b_Mo_result_12, b_Mo_result_15, b_Mo_result_19, b_Mo_result_26, r_fineT A', Nat.succ_ne_zero, dr_some, Option.isSome_some, gR_wI, Nat.add_mul_mod_self_left, Nat.reduceMod, ak20, ak21, ak22, ak23, ak24, ak25, ak26, ak27, ak28, ak29, ak30, ak31, ak32, ak33, ak34, ak35, ak36, an20, an21, an22, an23, an24, an25, an26, an27, an28, an29, an30, an31, an32, an33, an34, an35, an36, an37, an38, ↓reduceIte, bk_int, bk_void, bk_long, bkN_int, bkN_void, bkN_long, Nat.reduceAdd, Nat.reduceMul, Nat.reduceSub, Nat.reduceLT, Nat.reduceLeDiff, if_true, if_false, not_true_eq_false, not_false_eq_true, Bool.true_eq_false, Bool.false_eq_true, b2_eq0, Nat.add_zero, Nat.zero_add, Nat.not_lt_zero, Nat.zero_le, ite_true, ite_false, decide_true, decide_false, lit_ii, of_ii, le_T, le_F, lt_T, lt_F, eq_T, eq_F, ii_add, ii_mul, ii_nat, ii_le, ii_lt, ii_eq, inR_ii, ii_add0]
theorem r_resF {d : Nat} {v : Int32} {σ : HP} {G : Nat × Nat} (A : RB σ G) : callF (d + 2) m_Mo_result [.ref 3980, .int v] σ = some (.inl (some (.int (ii G.1 - ii 10))), wI σ 3980 8 (ii G.2)) := by
  have e := A.2.1
  have A' : RB (wI σ 3980 8 (ii G.2)) G := A.fm (S := fun a j => a = 3980 ∧ j = 8) (Fm.w Fm.rf ⟨rfl, rfl⟩) (fun j z => by omega)
  have e6 := A'.2.2.1
  simp (disch := first | omega | exact b2_01 _ | exact ii0_01 | exact ii1_01 | (simp (disch := omega) only [e, e6, dr_some, Option.isSome_some, gR_wI, Nat.add_mul_mod_self_left, Nat.reduceMod, ak20, ak21, ak22, ak23, ak24, ak25, ak26, ak27, ak28, ak29, ak30, ak31, ak32, ak33, ak34, ak35, ak36, an20, an21, an22, an23, an24, an25, an26, an27, an28, an29, an30, an31, an32, an33, an34, an35, an36, an37, an38, ne_eq, inR_ii, decide_eq_true_eq, lit_ii, of_ii, ii_eq, ii_lt, ii_le]; first | done | omega)) only [e, e6, e_Mo_result, b_Mo_result_0, b_Mo_result_12, b_Mo_result_15, b_Mo_result_19, b_Mo_result_26, r_fineF A', dr_some, Option.isSome_some, gR_wI, Nat.add_mul_mod_self_left, Nat.reduceMod, ak20, ak21, ak22, ak23, ak24, ak25, ak26, ak27, ak28, ak29, ak30, ak31, ak32, ak33, ak34, ak35, ak36, an20, an21, an22, an23, an24, an25, an26, an27, an28, an29, an30, an31, an32, an33, an34, an35, an36, an37, an38, ↓reduceIte, bk_int, bk_void, bk_long, bkN_int, bkN_void, bkN_long, Nat.reduceAdd, Nat.reduceMul, Nat.reduceSub, Nat.reduceLT, Nat.reduceLeDiff, if_true, if_false, not_true_eq_false, not_false_eq_true, Bool.true_eq_false, Bool.false_eq_true, b2_eq0, Nat.add_zero, Nat.zero_add, Nat.not_lt_zero, Nat.zero_le, ite_true, ite_false, decide_true, decide_false, lit_ii, of_ii, le_T, le_F, lt_T, lt_F, eq_T, eq_F, ii_add, ii_mul, ii_nat, ii_le, ii_lt, ii_eq, inR_ii, ii_add0]
theorem inrg_Fm {lim t : Nat} {x : Int32} (h : inrg 0 (min lim t) x = false) (hl : min lim t < 2147483648) : x < ii 0 ∨ ∃ k, k < 2147483648 ∧ x = ii k ∧ (t < k ∨ lim < k) := by
  by_cases z : x < ii 0
  · exact Or.inl z
  · right
    have h1 := Int32.not_lt.mp z
    have h2 := Int32.cast_toNatClampNeg x h1
    have h3 := Int32.toInt_lt x
    have hk : x.toNatClampNeg < 2147483648 := by omega
    have e : x = ii x.toNatClampNeg := (Int32.ofNat_toNatClampNeg x h1).symm
    refine ⟨x.toNatClampNeg, hk, e, ?_⟩
    have h4 := of_decide_eq_false h
    have h5 : ¬ x ≤ ii (min lim t) := fun y => h4 ⟨h1, y⟩
    rw [e, ii_le hk hl] at h5
    omega
/-! its book -/
def MbF (a j : Nat) : Prop := (a = 3980 ∧ (j = 4 ∨ j = 5 ∨ j = 6)) ∨ a = 5141
theorem Mrd_bF {σ σ' : HP} (F : Fm Mrd σ σ') : Fm MbF σ σ' := F.mono (fun a j z => Or.inl z)
def BQ (σ : HP) (T : Nat → Nat) (n : Nat) (r : PR BkT) (many : Int32) : Prop := match r with
  | .inl s => RD σ T n s.1 ∧ (∀ m, m < 7 → gI σ 5141 m = oi (s.2.2 m)) ∧ many = ii s.2.1
  | .inr F => RB σ F
theorem r_bookL {d n men : Nat} {T : Nat → Nat} {x : Int32} (hmen : men ≤ 7) : ∀ f (s : BkT) σ l3 l4 l5, RD σ T n s.1 → gI σ 3980 18 = ii men → (∀ m, m < 7 → gI σ 5141 m = oi (s.2.2 m)) → (∀ m v, s.2.2 m = some v → v ≤ 999) → n - s.1 < f → ∃ σ' many l3' l4' l5', runF (callF (d + 3)) (d + 3) m_Mo_book (67, [some (.ref 3980), some (.int x), some (.int (ii s.2.1)), l3, l4, l5], [], σ) = runF (callF (d + 3)) (d + 3) m_Mo_book (169, [some (.ref 3980), some (.int x), some (.int many), l3', l4', l5'], [], σ') ∧ BQ σ' T n (bkL T n men f s) many ∧ Fm MbF σ σ' ∧ ∀ s', bkL T n men f s = .inl s' → ∀ m v, s'.2.2 m = some v → v ≤ 999 := by
  intro f
  induction f with
  | zero => intro s σ l3 l4 l5 A _ _ _ h; omega
  | succ f ih =>
    intro s σ l3 l4 l5 A g18 hb hv hf
    obtain ⟨σ1, e1, A1, F1⟩ := r_isMore (d := d + 1) A
    have hp := A.p
    have hsk := sk_ge (T := T) hp.1
    unfold bkL
    by_cases z : sk T n s.1 < n
    · rw [decide_eq_true z] at e1
      rw [if_pos z]
      obtain ⟨σ2, e2, A2, F2⟩ := r_here (d := d + 2) A1
      have ek : sk T n (sk T n s.1) = sk T n s.1 := rn_rn hp.1
      rw [ek] at A2
      have F12 : Fm MbF σ σ2 := (Mrd_bF (Mat_rd F1)).tr (Mrd_bF (Mat_rd F2))
      have g18' : gI σ2 3980 18 = ii men := (F12.I (by unfold MbF; omega)).trans g18
      have e18 : ii men - ii 1 = prI32 men := ii_pr (by omega)
      obtain ⟨σ3, v3, e3, N3, F3⟩ := r_num (d := d + 1) (lo := 0) (hi := men) A2 rfl (by omega) (by omega)
      have F13 := F12.tr (Mrd_bF F3)
      have e4 := A2.2.2.2.1
      have ea : runF (callF (d + 3)) (d + 3) m_Mo_book (67, [some (.ref 3980), some (.int x), some (.int (ii s.2.1)), l3, l4, l5], [], σ) = runF (callF (d + 3)) (d + 3) m_Mo_book (102, [some (.ref 3980), some (.int x), some (.int (ii s.2.1)), some (.int (ii (sk T n s.1))), l4, l5], [.int v3], σ3) := by
        conv => lhs; simp (disch := first | omega | exact b2_01 _ | exact ii0_01 | exact ii1_01 | (simp (disch := omega) only [e1, e2, e3, g18', e18, e4, dr_some, Option.isSome_some, gR_wI, Nat.add_mul_mod_self_left, Nat.reduceMod, ak20, ak21, ak22, ak23, ak24, ak25, ak26, ak27, ak28, ak29, ak30, ak31, ak32, ak33, ak34, ak35, ak36, an20, an21, an22, an23, an24, an25, an26, an27, an28, an29, an30, an31, an32, an33, an34, an35, an36, an37, an38, ne_eq, inR_ii, decide_eq_true_eq, lit_ii, of_ii, ii_eq, ii_lt, ii_le]; first | done | omega)) only [e1, e2, e3, g18', e18, e4, b_Mo_book_67, b_Mo_book_71, b_Mo_book_74, b_Mo_book_78, b_Mo_book_81, b_Mo_book_85, r_fineT A, Nat.succ_ne_zero, dr_some, Option.isSome_some, gR_wI, Nat.add_mul_mod_self_left, Nat.reduceMod, ak20, ak21, ak22, ak23, ak24, ak25, ak26, ak27, ak28, ak29, ak30, ak31, ak32, ak33, ak34, ak35, ak36, an20, an21, an22, an23, an24, an25, an26, an27, an28, an29, an30, an31, an32, an33, an34, an35, an36, an37, an38, ↓reduceIte, bk_int, bk_void, bk_long, bkN_int, bkN_void, bkN_long, Nat.reduceAdd, Nat.reduceMul, Nat.reduceSub, Nat.reduceLT, Nat.reduceLeDiff, if_true, if_false, not_true_eq_false, not_false_eq_true, Bool.true_eq_false, Bool.false_eq_true, b2_eq0, Nat.add_zero, Nat.zero_add, Nat.not_lt_zero, Nat.zero_le, ite_true, ite_false, decide_true, decide_false, lit_ii, of_ii, le_T, le_F, lt_T, lt_F, eq_T, eq_F, ii_add, ii_mul, ii_nat, ii_le, ii_lt, ii_eq, inR_ii, ii_add0]
      rw [ea]
      unfold bkC
      have badx : ∀ {G : Nat × Nat} {τ : HP} {m4 : Int32}, RB τ G → runF (callF (d + 3)) (d + 3) m_Mo_book (128, [some (.ref 3980), some (.int x), some (.int (ii s.2.1)), some (.int (ii (sk T n s.1))), some (.int m4), l5], [], τ) = runF (callF (d + 3)) (d + 3) m_Mo_book (169, [some (.ref 3980), some (.int x), some (.int (ii s.2.1)), some (.int (ii (sk T n s.1))), some (.int m4), some (.int (ii 0))], [], τ) := by
        intro G τ m4 R
        conv => lhs; simp (disch := first | omega | exact b2_01 _ | exact ii0_01 | exact ii1_01 | (simp (disch := omega) only [Nat.le_refl, dr_some, Option.isSome_some, gR_wI, Nat.add_mul_mod_self_left, Nat.reduceMod, ak20, ak21, ak22, ak23, ak24, ak25, ak26, ak27, ak28, ak29, ak30, ak31, ak32, ak33, ak34, ak35, ak36, an20, an21, an22, an23, an24, an25, an26, an27, an28, an29, an30, an31, an32, an33, an34, an35, an36, an37, an38, ne_eq, inR_ii, decide_eq_true_eq, lit_ii, of_ii, ii_eq, ii_lt, ii_le]; first | done | omega)) only [Nat.le_refl, b_Mo_book_128, b_Mo_book_136, b_Mo_book_144, b_Mo_book_148, b_Mo_book_151, r_numB R, r_signB R, r_fineF R, dr_some, Option.isSome_some, gR_wI, Nat.add_mul_mod_self_left, Nat.reduceMod, ak20, ak21, ak22, ak23, ak24, ak25, ak26, ak27, ak28, ak29, ak30, ak31, ak32, ak33, ak34, ak35, ak36, an20, an21, an22, an23, an24, an25, an26, an27, an28, an29, an30, an31, an32, an33, an34, an35, an36, an37, an38, ↓reduceIte, bk_int, bk_void, bk_long, bkN_int, bkN_void, bkN_long, Nat.reduceAdd, Nat.reduceMul, Nat.reduceSub, Nat.reduceLT, Nat.reduceLeDiff, if_true, if_false, not_true_eq_false, not_false_eq_true, Bool.true_eq_false, Bool.false_eq_true, b2_eq0, Nat.add_zero, Nat.zero_add, Nat.not_lt_zero, Nat.zero_le, ite_true, ite_false, decide_true, decide_false, lit_ii, of_ii, le_T, le_F, lt_T, lt_F, eq_T, eq_F, ii_add, ii_mul, ii_nat, ii_le, ii_lt, ii_eq, inR_ii, ii_add0]
      cases hn : numW T n 0 men (sk T n s.1) with
      | inr G =>
        rw [hn] at N3
        obtain ⟨R3, rfl⟩ := N3
        refine ⟨σ3, ii s.2.1, some (.int (ii (sk T n s.1))), some (.int (ii 0)), some (.int (ii 0)), ?_, R3, F13, fun s' h => by cases h⟩
        rw [← badx R3]
        conv => lhs; simp (disch := first | omega | exact b2_01 _ | exact ii0_01 | exact ii1_01 | (simp (disch := omega) only [Nat.le_refl, dr_some, Option.isSome_some, gR_wI, Nat.add_mul_mod_self_left, Nat.reduceMod, ak20, ak21, ak22, ak23, ak24, ak25, ak26, ak27, ak28, ak29, ak30, ak31, ak32, ak33, ak34, ak35, ak36, an20, an21, an22, an23, an24, an25, an26, an27, an28, an29, an30, an31, an32, an33, an34, an35, an36, an37, an38, ne_eq, inR_ii, decide_eq_true_eq, lit_ii, of_ii, ii_eq, ii_lt, ii_le]; first | done | omega)) only [Nat.le_refl, b_Mo_book_102, b_Mo_book_108, r_fineF R3, dr_some, Option.isSome_some, gR_wI, Nat.add_mul_mod_self_left, Nat.reduceMod, ak20, ak21, ak22, ak23, ak24, ak25, ak26, ak27, ak28, ak29, ak30, ak31, ak32, ak33, ak34, ak35, ak36, an20, an21, an22, an23, an24, an25, an26, an27, an28, an29, an30, an31, an32, an33, an34, an35, an36, an37, an38, ↓reduceIte, bk_int, bk_void, bk_long, bkN_int, bkN_void, bkN_long, Nat.reduceAdd, Nat.reduceMul, Nat.reduceSub, Nat.reduceLT, Nat.reduceLeDiff, if_true, if_false, not_true_eq_false, not_false_eq_true, Bool.true_eq_false, Bool.false_eq_true, b2_eq0, Nat.add_zero, Nat.zero_add, Nat.not_lt_zero, Nat.zero_le, ite_true, ite_false, decide_true, decide_false, lit_ii, of_ii, le_T, le_F, lt_T, lt_F, eq_T, eq_F, ii_add, ii_mul, ii_nat, ii_le, ii_lt, ii_eq, inR_ii, ii_add0]
      | inl z3 =>
        obtain ⟨p, m⟩ := z3
        rw [hn] at N3
        obtain ⟨A3, rfl⟩ := N3
        obtain ⟨q1, q2, q3, q4, -⟩ := numW_fwd A2.p.1 hn
        have nb : gI σ3 5141 m = oi (s.2.2 m) := by
          rw [F3.I (by unfold Mrd; omega), F2.I (by unfold Mat; omega), F1.I (by unfold Mat; omega)]
          exact hb m (by omega)
        have a := A3.1
        obtain ⟨z1, z9, z10, z11, z12, z13, z22, z23, z24, z25, z26, z29, z30, z31, z38, z39, z40, z41, z42, z44, z45, z46, z47, z49⟩ := id a
        simp only
        cases hm' : s.2.2 m with
        | some v =>
          rw [hm'] at nb
          have v9 := hv m v hm'
          have R4 := A3.bad (q := sk T n s.1) (k := 2) (by have := A3.p; omega) (by omega)
          rw [if_pos (show (some v).isSome = true from rfl), ek]
          refine ⟨_, ii s.2.1, some (.int (ii (sk T n s.1))), some (.int (ii m)), some (.int (ii 0)), ?_, R4, (F13.w (by unfold MbF; omega)).w (by unfold MbF; omega), fun s' h => by cases h⟩
          rw [← badx R4]
          conv => lhs; simp (disch := first | omega | exact ak27 | exact ak29 | exact ak20 | exact ak21 | exact ak22 | exact ak23 | exact ak24 | exact ak25 | exact ak28 | exact ak30 | exact ak31 | exact ak32 | exact ak33 | exact b2_01 _ | exact ii0_01 | exact ii1_01 | (simp (disch := omega) only [z1, z9, z10, z11, z12, z13, z22, z23, z24, z25, z26, z29, z30, z31, z38, z39, z40, z41, z42, z44, z45, z46, z47, z49, nb, dr_some, Option.isSome_some, gR_wI, Nat.add_mul_mod_self_left, Nat.reduceMod, ak20, ak21, ak22, ak23, ak24, ak25, ak26, ak27, ak28, ak29, ak30, ak31, ak32, ak33, ak34, ak35, ak36, an20, an21, an22, an23, an24, an25, an26, an27, an28, an29, an30, an31, an32, an33, an34, an35, an36, an37, an38, ne_eq, inR_ii, decide_eq_true_eq, lit_ii, of_ii, ii_eq, ii_lt, ii_le, ii_add, ii_mul, ii_sub, ii_pred, ii_nat]; first | done | omega)) only [z1, z9, z10, z11, z12, z13, z22, z23, z24, z25, z26, z29, z30, z31, z38, z39, z40, z41, z42, z44, z45, z46, z47, z49, nb, b_Mo_book_102, b_Mo_book_108, b_Mo_book_111, b_Mo_book_122, r_fineT A3, r_wrong A3, oi_some, eq_ng, Nat.succ_ne_zero, dr_some, Option.isSome_some, gR_wI, Nat.add_mul_mod_self_left, Nat.reduceMod, ak20, ak21, ak22, ak23, ak24, ak25, ak26, ak27, ak28, ak29, ak30, ak31, ak32, ak33, ak34, ak35, ak36, an20, an21, an22, an23, an24, an25, an26, an27, an28, an29, an30, an31, an32, an33, an34, an35, an36, an37, an38, ↓reduceIte, bk_int, bk_void, bk_long, bkN_int, bkN_void, bkN_long, Nat.reduceAdd, Nat.reduceMul, Nat.reduceSub, Nat.reduceLT, Nat.reduceLeDiff, if_true, if_false, not_true_eq_false, not_false_eq_true, Bool.true_eq_false, Bool.false_eq_true, b2_eq0, Nat.add_zero, Nat.zero_add, Nat.not_lt_zero, Nat.zero_le, ite_true, ite_false, decide_true, decide_false, lit_ii, of_ii, le_T, le_F, lt_T, lt_F, eq_T, eq_F, ii_add, ii_mul, ii_nat, ii_le, ii_lt, ii_eq, inR_ii, ii_add0]
        | none =>
          rw [hm'] at nb
          rw [if_neg (by decide)]
          have eb : runF (callF (d + 3)) (d + 3) m_Mo_book (102, [some (.ref 3980), some (.int x), some (.int (ii s.2.1)), some (.int (ii (sk T n s.1))), l4, l5], [.int (ii m)], σ3) = runF (callF (d + 3)) (d + 3) m_Mo_book (128, [some (.ref 3980), some (.int x), some (.int (ii s.2.1)), some (.int (ii (sk T n s.1))), some (.int (ii m)), l5], [], σ3) := by
            conv => lhs; simp (disch := first | omega | exact ak27 | exact ak29 | exact ak20 | exact ak21 | exact ak22 | exact ak23 | exact ak24 | exact ak25 | exact ak28 | exact ak30 | exact ak31 | exact ak32 | exact ak33 | exact b2_01 _ | exact ii0_01 | exact ii1_01 | (simp (disch := omega) only [z1, z9, z10, z11, z12, z13, z22, z23, z24, z25, z26, z29, z30, z31, z38, z39, z40, z41, z42, z44, z45, z46, z47, z49, nb, dr_some, Option.isSome_some, gR_wI, Nat.add_mul_mod_self_left, Nat.reduceMod, ak20, ak21, ak22, ak23, ak24, ak25, ak26, ak27, ak28, ak29, ak30, ak31, ak32, ak33, ak34, ak35, ak36, an20, an21, an22, an23, an24, an25, an26, an27, an28, an29, an30, an31, an32, an33, an34, an35, an36, an37, an38, ne_eq, inR_ii, decide_eq_true_eq, lit_ii, of_ii, ii_eq, ii_lt, ii_le, ii_add, ii_mul, ii_sub, ii_pred, ii_nat]; first | done | omega)) only [z1, z9, z10, z11, z12, z13, z22, z23, z24, z25, z26, z29, z30, z31, z38, z39, z40, z41, z42, z44, z45, z46, z47, z49, nb, b_Mo_book_102, b_Mo_book_108, b_Mo_book_111, r_fineT A3, oi_none, ng_ng_eq, Nat.succ_ne_zero, dr_some, Option.isSome_some, gR_wI, Nat.add_mul_mod_self_left, Nat.reduceMod, ak20, ak21, ak22, ak23, ak24, ak25, ak26, ak27, ak28, ak29, ak30, ak31, ak32, ak33, ak34, ak35, ak36, an20, an21, an22, an23, an24, an25, an26, an27, an28, an29, an30, an31, an32, an33, an34, an35, an36, an37, an38, ↓reduceIte, bk_int, bk_void, bk_long, bkN_int, bkN_void, bkN_long, Nat.reduceAdd, Nat.reduceMul, Nat.reduceSub, Nat.reduceLT, Nat.reduceLeDiff, if_true, if_false, not_true_eq_false, not_false_eq_true, Bool.true_eq_false, Bool.false_eq_true, b2_eq0, Nat.add_zero, Nat.zero_add, Nat.not_lt_zero, Nat.zero_le, ite_true, ite_false, decide_true, decide_false, lit_ii, of_ii, le_T, le_F, lt_T, lt_F, eq_T, eq_F, ii_add, ii_mul, ii_nat, ii_le, ii_lt, ii_eq, inR_ii, ii_add0]
          rw [eb]
          obtain ⟨σ4, v4, e5, N4, F4⟩ := r_num (d := d + 1) (lo := 0) (hi := 1000) (y := ii 999) A3 (pr_s 999).symm (by omega) (by omega)
          have F14 := F13.tr (Mrd_bF F4)
          cases hn4 : numW T n 0 1000 p with
          | inr G =>
            rw [hn4] at N4
            obtain ⟨R4, rfl⟩ := N4
            refine ⟨σ4, ii s.2.1, some (.int (ii (sk T n s.1))), some (.int (ii m)), some (.int (ii 0)), ?_, R4, F14, fun s' h => by cases h⟩
            conv => lhs; simp (disch := first | omega | exact b2_01 _ | exact ii0_01 | exact ii1_01 | (simp (disch := omega) only [e5, dr_some, Option.isSome_some, gR_wI, Nat.add_mul_mod_self_left, Nat.reduceMod, ak20, ak21, ak22, ak23, ak24, ak25, ak26, ak27, ak28, ak29, ak30, ak31, ak32, ak33, ak34, ak35, ak36, an20, an21, an22, an23, an24, an25, an26, an27, an28, an29, an30, an31, an32, an33, an34, an35, an36, an37, an38, ne_eq, inR_ii, decide_eq_true_eq, lit_ii, of_ii, ii_eq, ii_lt, ii_le]; first | done | omega)) only [e5, b_Mo_book_128, b_Mo_book_136, b_Mo_book_144, b_Mo_book_148, b_Mo_book_151, r_signB R4, r_fineF R4, dr_some, Option.isSome_some, gR_wI, Nat.add_mul_mod_self_left, Nat.reduceMod, ak20, ak21, ak22, ak23, ak24, ak25, ak26, ak27, ak28, ak29, ak30, ak31, ak32, ak33, ak34, ak35, ak36, an20, an21, an22, an23, an24, an25, an26, an27, an28, an29, an30, an31, an32, an33, an34, an35, an36, an37, an38, ↓reduceIte, bk_int, bk_void, bk_long, bkN_int, bkN_void, bkN_long, Nat.reduceAdd, Nat.reduceMul, Nat.reduceSub, Nat.reduceLT, Nat.reduceLeDiff, if_true, if_false, not_true_eq_false, not_false_eq_true, Bool.true_eq_false, Bool.false_eq_true, b2_eq0, Nat.add_zero, Nat.zero_add, Nat.not_lt_zero, Nat.zero_le, ite_true, ite_false, decide_true, decide_false, lit_ii, of_ii, le_T, le_F, lt_T, lt_F, eq_T, eq_F, ii_add, ii_mul, ii_nat, ii_le, ii_lt, ii_eq, inR_ii, ii_add0]
          | inl z4 =>
            obtain ⟨p', v⟩ := z4
            rw [hn4] at N4
            obtain ⟨A4, rfl⟩ := N4
            obtain ⟨q1', q2', q3', q4', -⟩ := numW_fwd A3.p.1 hn4
            simp only
            unfold sgnB
            have hsk4 := sk_ge (T := T) A4.p.1
            cases hs : sgB T n p' 59 with
            | false =>
              obtain ⟨σ5, e6, R5, F5⟩ := r_signF (d := d + 1) A4 (c := 59) (by omega) (by omega) hs
              rw [if_neg (by decide)]
              refine ⟨σ5, ii s.2.1, some (.int (ii (sk T n s.1))), some (.int (ii m)), some (.int (ii v)), ?_, R5, F14.tr (Mrd_bF F5), fun s' h => by cases h⟩
              conv => lhs; simp (disch := first | omega | exact b2_01 _ | exact ii0_01 | exact ii1_01 | (simp (disch := omega) only [e5, e6, dr_some, Option.isSome_some, gR_wI, Nat.add_mul_mod_self_left, Nat.reduceMod, ak20, ak21, ak22, ak23, ak24, ak25, ak26, ak27, ak28, ak29, ak30, ak31, ak32, ak33, ak34, ak35, ak36, an20, an21, an22, an23, an24, an25, an26, an27, an28, an29, an30, an31, an32, an33, an34, an35, an36, an37, an38, ne_eq, inR_ii, decide_eq_true_eq, lit_ii, of_ii, ii_eq, ii_lt, ii_le]; first | done | omega)) only [e5, e6, b_Mo_book_128, b_Mo_book_136, b_Mo_book_144, b_Mo_book_148, b_Mo_book_151, r_fineF R5, dr_some, Option.isSome_some, gR_wI, Nat.add_mul_mod_self_left, Nat.reduceMod, ak20, ak21, ak22, ak23, ak24, ak25, ak26, ak27, ak28, ak29, ak30, ak31, ak32, ak33, ak34, ak35, ak36, an20, an21, an22, an23, an24, an25, an26, an27, an28, an29, an30, an31, an32, an33, an34, an35, an36, an37, an38, ↓reduceIte, bk_int, bk_void, bk_long, bkN_int, bkN_void, bkN_long, Nat.reduceAdd, Nat.reduceMul, Nat.reduceSub, Nat.reduceLT, Nat.reduceLeDiff, if_true, if_false, not_true_eq_false, not_false_eq_true, Bool.true_eq_false, Bool.false_eq_true, b2_eq0, Nat.add_zero, Nat.zero_add, Nat.not_lt_zero, Nat.zero_le, ite_true, ite_false, decide_true, decide_false, lit_ii, of_ii, le_T, le_F, lt_T, lt_F, eq_T, eq_F, ii_add, ii_mul, ii_nat, ii_le, ii_lt, ii_eq, inR_ii, ii_add0]
            | true =>
              obtain ⟨σ5, e6, A5, F5⟩ := r_signT (d := d + 1) A4 (c := 59) (by omega) (by omega) hs
              rw [if_pos rfl]
              have F15 := F14.tr (Mrd_bF (Mat_rd F5))
              have F16 : Fm MbF σ (wI σ5 5141 m (ii v)) := F15.w (by unfold MbF; omega)
              have A6 : RD (wI σ5 5141 m (ii v)) T n (sk T n p' + 1) := A5.fm (S := fun a j => a = 5141) (Fm.w Fm.rf rfl) (fun j => by omega) (fun j z => by omega)
              have hb6 : ∀ k, k < 7 → gI (wI σ5 5141 m (ii v)) 5141 k = oi ((addL s.2 m v).2 k) := by
                intro k hk
                rw [gI_row]
                show _ = oi (if k = m then some v else s.2.2 k)
                by_cases y : k = m
                · rw [if_pos y, if_pos y]
                  rfl
                · rw [if_neg y, if_neg y, F5.I (by unfold Mat; omega), F4.I (by unfold Mrd; omega), F3.I (by unfold Mrd; omega), F2.I (by unfold Mat; omega), F1.I (by unfold Mat; omega)]
                  exact hb k hk
              have hv6 : ∀ k u, (addL s.2 m v).2 k = some u → u ≤ 999 := by
                intro k u h
                have h' : (if k = m then some v else s.2.2 k) = some u := h
                split at h'
                · cases h'
                  omega
                · exact hv k u h'
              obtain ⟨σ9, many, l3', l4', l5', e9, Q9, F9, V9⟩ := ih (sk T n p' + 1, addL s.2 m v) (wI σ5 5141 m (ii v)) (some (.int (ii (sk T n s.1)))) (some (.int (ii m))) (some (.int (ii v))) A6 ((F16.I (by unfold MbF; omega)).trans g18) hb6 hv6 (by show n - (sk T n p' + 1) < f; omega)
              refine ⟨σ9, many, l3', l4', l5', ?_, Q9, F16.tr F9, V9⟩
              rw [← e9]
              have a5 := A5.1
              clear z1 z9 z10 z11 z12 z13 z22 z23 z24 z25 z26 z29 z30 z31 z38 z39 z40 z41 z42 z44 z45 z46 z47 z49
              obtain ⟨z1, z9, z10, z11, z12, z13, z22, z23, z24, z25, z26, z29, z30, z31, z38, z39, z40, z41, z42, z44, z45, z46, z47, z49⟩ := id a5
              have e1' : (addL s.2 m v).1 = s.2.1 + 1 := rfl
              simp only [e1']
              conv => lhs; simp (disch := first | omega | exact ak27 | exact ak29 | exact ak20 | exact ak21 | exact ak22 | exact ak23 | exact ak24 | exact ak25 | exact ak28 | exact ak30 | exact ak31 | exact ak32 | exact ak33 | exact b2_01 _ | exact ii0_01 | exact ii1_01 | (simp (disch := omega) only [z1, z9, z10, z11, z12, z13, z22, z23, z24, z25, z26, z29, z30, z31, z38, z39, z40, z41, z42, z44, z45, z46, z47, z49, e5, e6, dr_some, Option.isSome_some, gR_wI, Nat.add_mul_mod_self_left, Nat.reduceMod, ak20, ak21, ak22, ak23, ak24, ak25, ak26, ak27, ak28, ak29, ak30, ak31, ak32, ak33, ak34, ak35, ak36, an20, an21, an22, an23, an24, an25, an26, an27, an28, an29, an30, an31, an32, an33, an34, an35, an36, an37, an38, ne_eq, inR_ii, decide_eq_true_eq, lit_ii, of_ii, ii_eq, ii_lt, ii_le, ii_add, ii_mul, ii_sub, ii_pred, ii_nat]; first | done | omega)) only [z1, z9, z10, z11, z12, z13, z22, z23, z24, z25, z26, z29, z30, z31, z38, z39, z40, z41, z42, z44, z45, z46, z47, z49, e5, e6, b_Mo_book_128, b_Mo_book_136, b_Mo_book_144, b_Mo_book_148, b_Mo_book_154, r_fineT A5, Nat.succ_ne_zero, dr_some, Option.isSome_some, gR_wI, Nat.add_mul_mod_self_left, Nat.reduceMod, ak20, ak21, ak22, ak23, ak24, ak25, ak26, ak27, ak28, ak29, ak30, ak31, ak32, ak33, ak34, ak35, ak36, an20, an21, an22, an23, an24, an25, an26, an27, an28, an29, an30, an31, an32, an33, an34, an35, an36, an37, an38, ↓reduceIte, bk_int, bk_void, bk_long, bkN_int, bkN_void, bkN_long, Nat.reduceAdd, Nat.reduceMul, Nat.reduceSub, Nat.reduceLT, Nat.reduceLeDiff, if_true, if_false, not_true_eq_false, not_false_eq_true, Bool.true_eq_false, Bool.false_eq_true, b2_eq0, Nat.add_zero, Nat.zero_add, Nat.not_lt_zero, Nat.zero_le, ite_true, ite_false, decide_true, decide_false, lit_ii, of_ii, le_T, le_F, lt_T, lt_F, eq_T, eq_F, ii_add, ii_mul, ii_nat, ii_le, ii_lt, ii_eq, inR_ii, ii_add0]
    · rw [decide_eq_false z] at e1
      rw [if_neg z]
      refine ⟨σ1, ii s.2.1, l3, l4, l5, ?_, ⟨A1, fun m hm' => (F1.I (by unfold Mat; omega)).trans (hb m hm'), rfl⟩, Mrd_bF (Mat_rd F1), fun s' h => by cases h; exact hv⟩
      conv => lhs; simp (disch := first | omega | exact b2_01 _ | exact ii0_01 | exact ii1_01 | (simp (disch := omega) only [e1, dr_some, Option.isSome_some, gR_wI, Nat.add_mul_mod_self_left, Nat.reduceMod, ak20, ak21, ak22, ak23, ak24, ak25, ak26, ak27, ak28, ak29, ak30, ak31, ak32, ak33, ak34, ak35, ak36, an20, an21, an22, an23, an24, an25, an26, an27, an28, an29, an30, an31, an32, an33, an34, an35, an36, an37, an38, ne_eq, inR_ii, decide_eq_true_eq, lit_ii, of_ii, ii_eq, ii_lt, ii_le]; first | done | omega)) only [e1, b_Mo_book_67, b_Mo_book_71, b_Mo_book_74, b_Mo_book_78, r_fineT A, Nat.succ_ne_zero, dr_some, Option.isSome_some, gR_wI, Nat.add_mul_mod_self_left, Nat.reduceMod, ak20, ak21, ak22, ak23, ak24, ak25, ak26, ak27, ak28, ak29, ak30, ak31, ak32, ak33, ak34, ak35, ak36, an20, an21, an22, an23, an24, an25, an26, an27, an28, an29, an30, an31, an32, an33, an34, an35, an36, an37, an38, ↓reduceIte, bk_int, bk_void, bk_long, bkN_int, bkN_void, bkN_long, Nat.reduceAdd, Nat.reduceMul, Nat.reduceSub, Nat.reduceLT, Nat.reduceLeDiff, if_true, if_false, not_true_eq_false, not_false_eq_true, Bool.true_eq_false, Bool.false_eq_true, b2_eq0, Nat.add_zero, Nat.zero_add, Nat.not_lt_zero, Nat.zero_le, ite_true, ite_false, decide_true, decide_false, lit_ii, of_ii, le_T, le_F, lt_T, lt_F, eq_T, eq_F, ii_add, ii_mul, ii_nat, ii_le, ii_lt, ii_eq, inR_ii, ii_add0]
theorem MbF_sc {σ σ' : HP} (F : Fm MbF σ σ') : Fm Msc σ σ' := F.mono (fun a j z => by unfold MbF at z; unfold Msc; omega)
theorem q_book {d : Nat} {σ : HP} {H : HH} {w : LW} {D : DN} {tp : TPE} {ct : CNT} {B : BK} {pw : PW} {im : IMS} (A : MW σ H w D tp ct B pw im) (x : Int32) : if inrg 0 (min 60 tp.1) x then MQi σ (callF (d + 70) m_Mo_book [.ref 3980, .int x] σ) (if (flO (bkAll tp.2 x.toNatClampNeg (hm H))).isSome then fk (flO (bkAll tp.2 x.toNatClampNeg (hm H))) - ii 10 else ii (bkW B (bkAll tp.2 x.toNatClampNeg (hm H))).1) 0 (fun τ => MW τ H w D (0, tp.2) (fp (flO (bkAll tp.2 x.toNatClampNeg (hm H))), ct.2) (bkW B (bkAll tp.2 x.toNatClampNeg (hm H))) pw im) else MQi σ (callF (d + 70) m_Mo_book [.ref 3980, .int x] σ) (ii 0) 1 (fun τ => MW τ H w D tp (ct.1, ct.2.1, ct.2.2.1, ct.2.2.2 + 1) B pw im) := by
  have W0 := A.sc (t0_fm (v := ii 0)); have h0 := t0_at (σ := σ) (v := ii 0); have hh := A.2.2.2.2.1.1.1
  have t6 := A.2.2.2.2.2.1.2.1
  have g2 := W0.2.2.2.2.2.1.1
  cases hb : inrg 0 (min 60 tp.1) x with
  | false =>
    rw [if_neg (by decide)]
    have rr : ∀ d, callF (d + 1) m_Mo_may [.ref 3980, .int (ii 0), .int (ii 1), .int (ii 1)] (wI σ 3980 0 (ii 0)) = some (.inl (some (.int (ii 0))), rfM (wI σ 3980 0 (ii 0)) 1 1 (ct.2.2.2 + 1)) := fun d => r_arg (d := d) W0 h0 (c := 1) (by omega) false
    refine A.bad (c := 1) (σ' := wI σ 3980 0 (ii 0)) t0_fm ?_
    rcases inrg_Fm hb (by omega) with z | ⟨k, hk, rfl, z⟩
    · simp (disch := first | omega | exact b2_01 _ | exact ii0_01 | exact ii1_01 | (simp (disch := omega) only [rr, dr_some, Option.isSome_some, gR_wI, Nat.add_mul_mod_self_left, Nat.reduceMod, ak20, ak21, ak22, ak23, ak24, ak25, ak26, ak27, ak28, ak29, ak30, ak31, ak32, ak33, ak34, ak35, ak36, an20, an21, an22, an23, an24, an25, an26, an27, an28, an29, an30, an31, an32, an33, an34, an35, an36, an37, an38, ne_eq, inR_ii, decide_eq_true_eq, lit_ii, of_ii, ii_eq, ii_lt, ii_le]; first | done | omega)) only [rr, e_Mo_book, b_Mo_book_0, b_Mo_book_10, b_Mo_book_18, b_Mo_book_24, b_Mo_book_28, b_Mo_book_29, b_Mo_book_34, b_Mo_book_37, b_Mo_book_39, b_Mo_book_44, b_Mo_book_46, b_Mo_book_52, b_Mo_book_65, b_Mo_book_67, b_Mo_book_71, b_Mo_book_74, b_Mo_book_78, b_Mo_book_81, b_Mo_book_85, b_Mo_book_102, b_Mo_book_108, b_Mo_book_111, b_Mo_book_122, b_Mo_book_128, b_Mo_book_136, b_Mo_book_144, b_Mo_book_148, b_Mo_book_151, b_Mo_book_154, b_Mo_book_169, b_Mo_book_174, b_Mo_book_183, b_Mo_book_185, b_Mo_book_204, z, dr_some, Option.isSome_some, gR_wI, Nat.add_mul_mod_self_left, Nat.reduceMod, ak20, ak21, ak22, ak23, ak24, ak25, ak26, ak27, ak28, ak29, ak30, ak31, ak32, ak33, ak34, ak35, ak36, an20, an21, an22, an23, an24, an25, an26, an27, an28, an29, an30, an31, an32, an33, an34, an35, an36, an37, an38, ↓reduceIte, bk_int, bk_void, bk_long, bkN_int, bkN_void, bkN_long, Nat.reduceAdd, Nat.reduceMul, Nat.reduceSub, Nat.reduceLT, Nat.reduceLeDiff, if_true, if_false, not_true_eq_false, not_false_eq_true, Bool.true_eq_false, Bool.false_eq_true, b2_eq0, Nat.add_zero, Nat.zero_add, Nat.not_lt_zero, Nat.zero_le, ite_true, ite_false, decide_true, decide_false, lit_ii, of_ii, le_T, le_F, lt_T, lt_F, eq_T, eq_F, ii_add, ii_mul, ii_nat, ii_le, ii_lt, ii_eq, inR_ii, ii_add0]
    · have z0 : ¬ k < 0 := by omega
      by_cases y : tp.1 < k
      · simp (disch := first | omega | exact b2_01 _ | exact ii0_01 | exact ii1_01 | (simp (disch := omega) only [rr, g2, dr_some, Option.isSome_some, gR_wI, Nat.add_mul_mod_self_left, Nat.reduceMod, ak20, ak21, ak22, ak23, ak24, ak25, ak26, ak27, ak28, ak29, ak30, ak31, ak32, ak33, ak34, ak35, ak36, an20, an21, an22, an23, an24, an25, an26, an27, an28, an29, an30, an31, an32, an33, an34, an35, an36, an37, an38, ne_eq, inR_ii, decide_eq_true_eq, lit_ii, of_ii, ii_eq, ii_lt, ii_le]; first | done | omega)) only [rr, g2, e_Mo_book, b_Mo_book_0, b_Mo_book_10, b_Mo_book_18, b_Mo_book_24, b_Mo_book_28, b_Mo_book_29, b_Mo_book_34, b_Mo_book_37, b_Mo_book_39, b_Mo_book_44, b_Mo_book_46, b_Mo_book_52, b_Mo_book_65, b_Mo_book_67, b_Mo_book_71, b_Mo_book_74, b_Mo_book_78, b_Mo_book_81, b_Mo_book_85, b_Mo_book_102, b_Mo_book_108, b_Mo_book_111, b_Mo_book_122, b_Mo_book_128, b_Mo_book_136, b_Mo_book_144, b_Mo_book_148, b_Mo_book_151, b_Mo_book_154, b_Mo_book_169, b_Mo_book_174, b_Mo_book_183, b_Mo_book_185, b_Mo_book_204, y, dr_some, Option.isSome_some, gR_wI, Nat.add_mul_mod_self_left, Nat.reduceMod, ak20, ak21, ak22, ak23, ak24, ak25, ak26, ak27, ak28, ak29, ak30, ak31, ak32, ak33, ak34, ak35, ak36, an20, an21, an22, an23, an24, an25, an26, an27, an28, an29, an30, an31, an32, an33, an34, an35, an36, an37, an38, ↓reduceIte, bk_int, bk_void, bk_long, bkN_int, bkN_void, bkN_long, Nat.reduceAdd, Nat.reduceMul, Nat.reduceSub, Nat.reduceLT, Nat.reduceLeDiff, if_true, if_false, not_true_eq_false, not_false_eq_true, Bool.true_eq_false, Bool.false_eq_true, b2_eq0, Nat.add_zero, Nat.zero_add, Nat.not_lt_zero, Nat.zero_le, ite_true, ite_false, decide_true, decide_false, lit_ii, of_ii, le_T, le_F, lt_T, lt_F, eq_T, eq_F, ii_add, ii_mul, ii_nat, ii_le, ii_lt, ii_eq, inR_ii, ii_add0]
      · have y' : 60 < k := by omega
        simp (disch := first | omega | exact b2_01 _ | exact ii0_01 | exact ii1_01 | (simp (disch := omega) only [rr, g2, dr_some, Option.isSome_some, gR_wI, Nat.add_mul_mod_self_left, Nat.reduceMod, ak20, ak21, ak22, ak23, ak24, ak25, ak26, ak27, ak28, ak29, ak30, ak31, ak32, ak33, ak34, ak35, ak36, an20, an21, an22, an23, an24, an25, an26, an27, an28, an29, an30, an31, an32, an33, an34, an35, an36, an37, an38, ne_eq, inR_ii, decide_eq_true_eq, lit_ii, of_ii, ii_eq, ii_lt, ii_le]; first | done | omega)) only [rr, g2, e_Mo_book, b_Mo_book_0, b_Mo_book_10, b_Mo_book_18, b_Mo_book_24, b_Mo_book_28, b_Mo_book_29, b_Mo_book_34, b_Mo_book_37, b_Mo_book_39, b_Mo_book_44, b_Mo_book_46, b_Mo_book_52, b_Mo_book_65, b_Mo_book_67, b_Mo_book_71, b_Mo_book_74, b_Mo_book_78, b_Mo_book_81, b_Mo_book_85, b_Mo_book_102, b_Mo_book_108, b_Mo_book_111, b_Mo_book_122, b_Mo_book_128, b_Mo_book_136, b_Mo_book_144, b_Mo_book_148, b_Mo_book_151, b_Mo_book_154, b_Mo_book_169, b_Mo_book_174, b_Mo_book_183, b_Mo_book_185, b_Mo_book_204, y, y', dr_some, Option.isSome_some, gR_wI, Nat.add_mul_mod_self_left, Nat.reduceMod, ak20, ak21, ak22, ak23, ak24, ak25, ak26, ak27, ak28, ak29, ak30, ak31, ak32, ak33, ak34, ak35, ak36, an20, an21, an22, an23, an24, an25, an26, an27, an28, an29, an30, an31, an32, an33, an34, an35, an36, an37, an38, ↓reduceIte, bk_int, bk_void, bk_long, bkN_int, bkN_void, bkN_long, Nat.reduceAdd, Nat.reduceMul, Nat.reduceSub, Nat.reduceLT, Nat.reduceLeDiff, if_true, if_false, not_true_eq_false, not_false_eq_true, Bool.true_eq_false, Bool.false_eq_true, b2_eq0, Nat.add_zero, Nat.zero_add, Nat.not_lt_zero, Nat.zero_le, ite_true, ite_false, decide_true, decide_false, lit_ii, of_ii, le_T, le_F, lt_T, lt_F, eq_T, eq_F, ii_add, ii_mul, ii_nat, ii_le, ii_lt, ii_eq, inR_ii, ii_add0]
  | true =>
    rw [if_pos rfl]
    obtain ⟨n, -, hn, rfl⟩ := inrg_T hb (by omega) (by omega)
    rw [ii_nat (by omega)]
    have rr : ∀ d, callF (d + 1) m_Mo_may [.ref 3980, .int (ii 1), .int (ii 1), .int (ii 1)] (wI σ 3980 0 (ii 0)) = some (.inl (some (.int (ii 1))), wI σ 3980 0 (ii 0)) := fun d => r_arg (d := d) W0 h0 (c := 1) (by omega) true
    have n1 : ¬ tp.1 < n := by omega
    have n2 : ¬ 60 < n := by omega
    have W1 := W0.beg (n := n)
    have R1 := RD.beg W0 (n := n) (by omega)
    have ea : callF (d + 70) m_Mo_book [.ref 3980, .int (ii n)] σ = runF (callF (d + 69)) (d + 69) m_Mo_book (46, [some (.ref 3980), some (.int (ii n)), some (.int (ii 0)), none, none, none], [], bgH (wI σ 3980 0 (ii 0)) n) := by
      simp (disch := first | omega | exact b2_01 _ | exact ii0_01 | exact ii1_01 | (simp (disch := omega) only [rr, g2, dr_some, Option.isSome_some, gR_wI, Nat.add_mul_mod_self_left, Nat.reduceMod, ak20, ak21, ak22, ak23, ak24, ak25, ak26, ak27, ak28, ak29, ak30, ak31, ak32, ak33, ak34, ak35, ak36, an20, an21, an22, an23, an24, an25, an26, an27, an28, an29, an30, an31, an32, an33, an34, an35, an36, an37, an38, ne_eq, inR_ii, decide_eq_true_eq, lit_ii, of_ii, ii_eq, ii_lt, ii_le]; first | done | omega)) only [rr, g2, e_Mo_book, b_Mo_book_0, b_Mo_book_10, b_Mo_book_18, b_Mo_book_24, b_Mo_book_29, b_Mo_book_34, b_Mo_book_39, b_Mo_book_44, n1, n2, r_begins, Nat.succ_ne_zero, dr_some, Option.isSome_some, gR_wI, Nat.add_mul_mod_self_left, Nat.reduceMod, ak20, ak21, ak22, ak23, ak24, ak25, ak26, ak27, ak28, ak29, ak30, ak31, ak32, ak33, ak34, ak35, ak36, an20, an21, an22, an23, an24, an25, an26, an27, an28, an29, an30, an31, an32, an33, an34, an35, an36, an37, an38, ↓reduceIte, bk_int, bk_void, bk_long, bkN_int, bkN_void, bkN_long, Nat.reduceAdd, Nat.reduceMul, Nat.reduceSub, Nat.reduceLT, Nat.reduceLeDiff, if_true, if_false, not_true_eq_false, not_false_eq_true, Bool.true_eq_false, Bool.false_eq_true, b2_eq0, Nat.add_zero, Nat.zero_add, Nat.not_lt_zero, Nat.zero_le, ite_true, ite_false, decide_true, decide_false, lit_ii, of_ii, le_T, le_F, lt_T, lt_F, eq_T, eq_F, ii_add, ii_mul, ii_nat, ii_le, ii_lt, ii_eq, inR_ii, ii_add0]
    have hF0 : Fm (fun a j => a = 3980 ∧ (j = 0 ∨ (2 ≤ j ∧ j ≤ 8))) σ (bgH (wI σ 3980 0 (ii 0)) n) := (Fm.w Fm.rf (by omega) : Fm (fun a j => a = 3980 ∧ (j = 0 ∨ (2 ≤ j ∧ j ≤ 8))) σ (wI σ 3980 0 (ii 0))).tr (bgH_fm.mono (fun a j z => by omega))
    have h0b : gI (bgH (wI σ 3980 0 (ii 0)) n) 3980 0 = ii 0 := (bgH_fm.I (by omega)).trans h0
    rw [ea]
    clear ea
    generalize bgH (wI σ 3980 0 (ii 0)) n = σ1 at *
    obtain ⟨σ2, e2, F2, v2⟩ : ∃ σ2, runF (callF (d + 69)) (d + 69) m_Mo_book (46, [some (.ref 3980), some (.int (ii n)), some (.int (ii 0)), none, none, none], [], σ1) = runF (callF (d + 69)) (d + 69) m_Mo_book (67, [some (.ref 3980), some (.int (ii n)), some (.int (ii 0)), none, none, none], [], σ2) ∧ Fm MbF σ1 σ2 ∧ (∀ m, m < 7 → gI σ2 5141 m = -ii 1) ∧ ∀ j, gI σ2 3980 j = gI σ1 3980 j := by
      refine loop_g (N := 7) (Q := fun o => ∃ σ2, o = runF (callF (d + 69)) (d + 69) m_Mo_book (67, [some (.ref 3980), some (.int (ii n)), some (.int (ii 0)), none, none, none], [], σ2) ∧ Fm MbF σ1 σ2 ∧ (∀ m, m < 7 → gI σ2 5141 m = -ii 1) ∧ ∀ j, gI σ2 3980 j = gI σ1 3980 j) (fun k c => ∃ σ2, c = (46, [some (.ref 3980), some (.int (ii n)), some (.int (ii k)), none, none, none], [], σ2) ∧ Fm MbF σ1 σ2 ∧ (∀ m, m < k → gI σ2 5141 m = -ii 1) ∧ ∀ j, gI σ2 3980 j = gI σ1 3980 j) ?_ ?_ 0 _ (Nat.zero_le _) ⟨σ1, rfl, Fm.rf, fun m hm' => by omega, fun j => rfl⟩
      · rintro k c hk ⟨σ2, rfl, F2, v2, v3⟩
        have a := W1.1.fm F2
        obtain ⟨z1, z9, z10, z11, z12, z13, z22, z23, z24, z25, z26, z29, z30, z31, z38, z39, z40, z41, z42, z44, z45, z46, z47, z49⟩ := id a
        have hk' : ¬ 7 ≤ k := by omega
        refine ⟨_, ?_, wI σ2 5141 k (-ii 1), rfl, F2.w (Or.inr rfl), fun m hm' => ?_, fun j => (gI_ne (by omega)).trans (v3 j)⟩
        · conv => lhs; simp (disch := first | omega | exact ak27 | exact ak29 | exact ak20 | exact ak21 | exact ak22 | exact ak23 | exact ak24 | exact ak25 | exact ak28 | exact ak30 | exact ak31 | exact ak32 | exact ak33 | exact b2_01 _ | exact ii0_01 | exact ii1_01 | (simp (disch := omega) only [z1, z9, z10, z11, z12, z13, z22, z23, z24, z25, z26, z29, z30, z31, z38, z39, z40, z41, z42, z44, z45, z46, z47, z49, hk', dr_some, Option.isSome_some, gR_wI, Nat.add_mul_mod_self_left, Nat.reduceMod, ak20, ak21, ak22, ak23, ak24, ak25, ak26, ak27, ak28, ak29, ak30, ak31, ak32, ak33, ak34, ak35, ak36, an20, an21, an22, an23, an24, an25, an26, an27, an28, an29, an30, an31, an32, an33, an34, an35, an36, an37, an38, ne_eq, inR_ii, decide_eq_true_eq, lit_ii, of_ii, ii_eq, ii_lt, ii_le, ii_add, ii_mul, ii_sub, ii_pred, ii_nat]; first | done | omega)) only [z1, z9, z10, z11, z12, z13, z22, z23, z24, z25, z26, z29, z30, z31, z38, z39, z40, z41, z42, z44, z45, z46, z47, z49, hk', b_Mo_book_46, dr_some, Option.isSome_some, gR_wI, Nat.add_mul_mod_self_left, Nat.reduceMod, ak20, ak21, ak22, ak23, ak24, ak25, ak26, ak27, ak28, ak29, ak30, ak31, ak32, ak33, ak34, ak35, ak36, an20, an21, an22, an23, an24, an25, an26, an27, an28, an29, an30, an31, an32, an33, an34, an35, an36, an37, an38, ↓reduceIte, bk_int, bk_void, bk_long, bkN_int, bkN_void, bkN_long, Nat.reduceAdd, Nat.reduceMul, Nat.reduceSub, Nat.reduceLT, Nat.reduceLeDiff, if_true, if_false, not_true_eq_false, not_false_eq_true, Bool.true_eq_false, Bool.false_eq_true, b2_eq0, Nat.add_zero, Nat.zero_add, Nat.not_lt_zero, Nat.zero_le, ite_true, ite_false, decide_true, decide_false, lit_ii, of_ii, le_T, le_F, lt_T, lt_F, eq_T, eq_F, ii_add, ii_mul, ii_nat, ii_le, ii_lt, ii_eq, inR_ii, ii_add0]
          simp (disch := first | omega | exact ak27 | exact ak29 | exact ak20 | exact ak21 | exact ak22 | exact ak23 | exact ak24 | exact ak25 | exact ak28 | exact ak30 | exact ak31 | exact ak32 | exact ak33 | exact b2_01 _ | exact ii0_01 | exact ii1_01 | (simp (disch := omega) only [z1, z9, z10, z11, z12, z13, z22, z23, z24, z25, z26, z29, z30, z31, z38, z39, z40, z41, z42, z44, z45, z46, z47, z49, hk', dr_some, Option.isSome_some, gR_wI, Nat.add_mul_mod_self_left, Nat.reduceMod, ak20, ak21, ak22, ak23, ak24, ak25, ak26, ak27, ak28, ak29, ak30, ak31, ak32, ak33, ak34, ak35, ak36, an20, an21, an22, an23, an24, an25, an26, an27, an28, an29, an30, an31, an32, an33, an34, an35, an36, an37, an38, ne_eq, inR_ii, decide_eq_true_eq, lit_ii, of_ii, ii_eq, ii_lt, ii_le, ii_add, ii_mul, ii_sub, ii_pred, ii_nat]; first | done | omega)) only [z1, z9, z10, z11, z12, z13, z22, z23, z24, z25, z26, z29, z30, z31, z38, z39, z40, z41, z42, z44, z45, z46, z47, z49, hk', b_Mo_book_52, dr_some, Option.isSome_some, gR_wI, Nat.add_mul_mod_self_left, Nat.reduceMod, ak20, ak21, ak22, ak23, ak24, ak25, ak26, ak27, ak28, ak29, ak30, ak31, ak32, ak33, ak34, ak35, ak36, an20, an21, an22, an23, an24, an25, an26, an27, an28, an29, an30, an31, an32, an33, an34, an35, an36, an37, an38, ↓reduceIte, bk_int, bk_void, bk_long, bkN_int, bkN_void, bkN_long, Nat.reduceAdd, Nat.reduceMul, Nat.reduceSub, Nat.reduceLT, Nat.reduceLeDiff, if_true, if_false, not_true_eq_false, not_false_eq_true, Bool.true_eq_false, Bool.false_eq_true, b2_eq0, Nat.add_zero, Nat.zero_add, Nat.not_lt_zero, Nat.zero_le, ite_true, ite_false, decide_true, decide_false, lit_ii, of_ii, le_T, le_F, lt_T, lt_F, eq_T, eq_F, ii_add, ii_mul, ii_nat, ii_le, ii_lt, ii_eq, inR_ii, ii_add0]
        · rw [gI_row]
          by_cases y : m = k
          · rw [if_pos y]
          · rw [if_neg y]
            exact v2 m (by omega)
      · rintro c ⟨σ2, rfl, F2, v2, v3⟩
        refine ⟨σ2, ?_, F2, v2, v3⟩
        simp (disch := first | omega | exact b2_01 _ | exact ii0_01 | exact ii1_01 | (simp (disch := omega) only [Nat.le_refl, dr_some, Option.isSome_some, gR_wI, Nat.add_mul_mod_self_left, Nat.reduceMod, ak20, ak21, ak22, ak23, ak24, ak25, ak26, ak27, ak28, ak29, ak30, ak31, ak32, ak33, ak34, ak35, ak36, an20, an21, an22, an23, an24, an25, an26, an27, an28, an29, an30, an31, an32, an33, an34, an35, an36, an37, an38, ne_eq, inR_ii, decide_eq_true_eq, lit_ii, of_ii, ii_eq, ii_lt, ii_le]; first | done | omega)) only [Nat.le_refl, b_Mo_book_46, b_Mo_book_65, dr_some, Option.isSome_some, gR_wI, Nat.add_mul_mod_self_left, Nat.reduceMod, ak20, ak21, ak22, ak23, ak24, ak25, ak26, ak27, ak28, ak29, ak30, ak31, ak32, ak33, ak34, ak35, ak36, an20, an21, an22, an23, an24, an25, an26, an27, an28, an29, an30, an31, an32, an33, an34, an35, an36, an37, an38, ↓reduceIte, bk_int, bk_void, bk_long, bkN_int, bkN_void, bkN_long, Nat.reduceAdd, Nat.reduceMul, Nat.reduceSub, Nat.reduceLT, Nat.reduceLeDiff, if_true, if_false, not_true_eq_false, not_false_eq_true, Bool.true_eq_false, Bool.false_eq_true, b2_eq0, Nat.add_zero, Nat.zero_add, Nat.not_lt_zero, Nat.zero_le, ite_true, ite_false, decide_true, decide_false, lit_ii, of_ii, le_T, le_F, lt_T, lt_F, eq_T, eq_F, ii_add, ii_mul, ii_nat, ii_le, ii_lt, ii_eq, inR_ii, ii_add0]
    rw [e2]
    have W2 := W1.sc (MbF_sc F2)
    have R2 : RD σ2 tp.2 n 0 := R1.fm (S := fun a j => MbF a j ∧ a ≠ 3980) ⟨F2.1, F2.2.1, fun a j z => by
      by_cases y : a = 3980
      · rw [y]; exact v2.2 j
      · exact F2.I (fun q => z ⟨q, y⟩)⟩ (fun j => by unfold MbF; omega) (fun j _ z => z.2 rfl)
    obtain ⟨σ3, many, l3, l4, l5, e3, Q3, F3, V3⟩ := r_bookL (d := d + 66) (n := n) (T := tp.2) (x := ii n) hh.1 (n + 1) (0, B0) σ2 none none none R2 W2.2.1.1 (fun m hm' => v2.1 m hm') (fun m v h => by cases h) (by show n - 0 < n + 1; omega)
    have e3' : runF (callF (d + 69)) (d + 69) m_Mo_book (67, [some (.ref 3980), some (.int (ii n)), some (.int (ii 0)), none, none, none], [], σ2) = _ := e3
    rw [e3']
    have FF : Fm Msc σ1 σ3 := (MbF_sc F2).tr (MbF_sc F3)
    have W3 := W1.sc FF
    have h03 : gI σ3 3980 0 = ii 0 := (F3.I (by unfold MbF; omega)).trans ((v2.2 0).trans h0b)
    have OK3 : OKm σ σ3 := (OKm.fs (hF0.fs (S' := Mdl) (fun a j z => by unfold Mdl; omega)) (fun a z => z)).tr FF.okm
    have er : bkAll tp.2 n (hm H) = bkL tp.2 n (hm H) (n + 1) (0, B0) := rfl
    rw [er]
    cases hr : bkL tp.2 n (hm H) (n + 1) (0, B0) with
    | inr G =>
      rw [hr] at Q3
      have R3 : RB σ3 G := Q3
      have R4 : RB (wI σ3 3980 8 (ii G.2)) G := R3.fm (S := fun a j => a = 3980 ∧ j = 8) (Fm.w Fm.rf ⟨rfl, rfl⟩) (fun j z => by omega)
      have e5 := R4.2.1
      have g6 := R4.2.2.2.1
      refine ⟨wI σ3 3980 8 (ii G.2), ?_, OK3.tr (OKm.fs (S := Mdl) (Fs.w Fs.rf (by unfold Mdl; omega)) (fun a z => z)), (gI_nj (by omega)).trans h03, W3.w8⟩
      show _ = some (Sum.inl (some (Value.int (ii G.1 - ii 10))), _)
      simp (disch := first | omega | exact b2_01 _ | exact ii0_01 | exact ii1_01 | (simp (disch := omega) only [e5, dr_some, Option.isSome_some, gR_wI, Nat.add_mul_mod_self_left, Nat.reduceMod, ak20, ak21, ak22, ak23, ak24, ak25, ak26, ak27, ak28, ak29, ak30, ak31, ak32, ak33, ak34, ak35, ak36, an20, an21, an22, an23, an24, an25, an26, an27, an28, an29, an30, an31, an32, an33, an34, an35, an36, an37, an38, ne_eq, inR_ii, decide_eq_true_eq, lit_ii, of_ii, ii_eq, ii_lt, ii_le]; first | done | omega)) only [e5, b_Mo_book_169, b_Mo_book_174, b_Mo_book_183, r_resF R3, eq_ng, dr_some, Option.isSome_some, gR_wI, Nat.add_mul_mod_self_left, Nat.reduceMod, ak20, ak21, ak22, ak23, ak24, ak25, ak26, ak27, ak28, ak29, ak30, ak31, ak32, ak33, ak34, ak35, ak36, an20, an21, an22, an23, an24, an25, an26, an27, an28, an29, an30, an31, an32, an33, an34, an35, an36, an37, an38, ↓reduceIte, bk_int, bk_void, bk_long, bkN_int, bkN_void, bkN_long, Nat.reduceAdd, Nat.reduceMul, Nat.reduceSub, Nat.reduceLT, Nat.reduceLeDiff, if_true, if_false, not_true_eq_false, not_false_eq_true, Bool.true_eq_false, Bool.false_eq_true, b2_eq0, Nat.add_zero, Nat.zero_add, Nat.not_lt_zero, Nat.zero_le, ite_true, ite_false, decide_true, decide_false, lit_ii, of_ii, le_T, le_F, lt_T, lt_F, eq_T, eq_F, ii_add, ii_mul, ii_nat, ii_le, ii_lt, ii_eq, inR_ii, ii_add0]
    | inl s =>
      rw [hr] at Q3
      obtain ⟨R3, nb, rfl⟩ := Q3
      have R4 : RD (wI σ3 3980 8 (-ii 1)) tp.2 n s.1 := R3.fm (S := fun a j => a = 3980 ∧ j = 8) (Fm.w Fm.rf ⟨rfl, rfl⟩) (fun j => by omega) (fun j z => by omega)
      have e5 := R4.2.2.2.2.1
      have W4 := W3.w8 (v := -ii 1)
      obtain ⟨σ5, e6, F6, y1, -⟩ := r_copies (d := d + 68) (a := 5141) (b := 5205) (n := 7) (σ := wI (wI σ3 3980 8 (-ii 1)) 3980 43 (ii s.2.1)) rfl rfl (by decide) (by decide) (by decide)
      have F7 : Fm (fun a j => (a = 3980 ∧ j = 43) ∨ a = 5205) (wI σ3 3980 8 (-ii 1)) σ5 := (Fm.w Fm.rf (Or.inl ⟨rfl, rfl⟩) : Fm (fun a j => (a = 3980 ∧ j = 43) ∨ a = 5205) (wI σ3 3980 8 (-ii 1)) (wI (wI σ3 3980 8 (-ii 1)) 3980 43 (ii s.2.1))).tr (F6.fm (fun a j z => Or.inr z))
      obtain ⟨a, b, ca, e, f, g, mc, i, j, l⟩ := W4
      refine ⟨σ5, ?_, (OK3.tr (OKm.fs (S := Mdl) (Fs.w Fs.rf (by unfold Mdl; omega)) (fun a z => z))).tr (OKm.fs (F7.fs (S' := Mdl) (fun a j z => by unfold Mdl; omega)) (fun a z => z)), (F7.I (by omega)).trans ((gI_nj (by omega)).trans h03), a.fm F7, b.fm F7 (fun j z => by omega) (fun j => by omega) (fun j => by omega), ca.fm F7 (by omega) (fun j => by omega) (fun j => by omega), e.fm F7 (fun j => by omega), f, g.fm F7 (by omega) (fun j => by omega), mc.fm F7 (by omega) (by omega) (fun j => by omega), ⟨(F6.I (by omega)).trans gI_at, fun m hm' => ?_, V3 s hr⟩, j.fm F7 (by omega) (fun j => by omega), l.fm F7 (by omega) (fun j => by omega)⟩
      · show _ = some (Sum.inl (some (Value.int (ii s.2.1))), _)
        have a4 := a
        obtain ⟨z1, z9, z10, z11, z12, z13, z22, z23, z24, z25, z26, z29, z30, z31, z38, z39, z40, z41, z42, z44, z45, z46, z47, z49⟩ := id a4
        simp (disch := first | omega | exact ak27 | exact ak29 | exact ak20 | exact ak21 | exact ak22 | exact ak23 | exact ak24 | exact ak25 | exact ak28 | exact ak30 | exact ak31 | exact ak32 | exact ak33 | exact b2_01 _ | exact ii0_01 | exact ii1_01 | (simp (disch := omega) only [z1, z9, z10, z11, z12, z13, z22, z23, z24, z25, z26, z29, z30, z31, z38, z39, z40, z41, z42, z44, z45, z46, z47, z49, e5, e6, dr_some, Option.isSome_some, gR_wI, Nat.add_mul_mod_self_left, Nat.reduceMod, ak20, ak21, ak22, ak23, ak24, ak25, ak26, ak27, ak28, ak29, ak30, ak31, ak32, ak33, ak34, ak35, ak36, an20, an21, an22, an23, an24, an25, an26, an27, an28, an29, an30, an31, an32, an33, an34, an35, an36, an37, an38, ne_eq, inR_ii, decide_eq_true_eq, lit_ii, of_ii, ii_eq, ii_lt, ii_le, ii_add, ii_mul, ii_sub, ii_pred, ii_nat]; first | done | omega)) only [z1, z9, z10, z11, z12, z13, z22, z23, z24, z25, z26, z29, z30, z31, z38, z39, z40, z41, z42, z44, z45, z46, z47, z49, e5, e6, b_Mo_book_169, b_Mo_book_174, b_Mo_book_185, b_Mo_book_204, r_resT R3, ng_ng_eq, dr_some, Option.isSome_some, gR_wI, Nat.add_mul_mod_self_left, Nat.reduceMod, ak20, ak21, ak22, ak23, ak24, ak25, ak26, ak27, ak28, ak29, ak30, ak31, ak32, ak33, ak34, ak35, ak36, an20, an21, an22, an23, an24, an25, an26, an27, an28, an29, an30, an31, an32, an33, an34, an35, an36, an37, an38, ↓reduceIte, bk_int, bk_void, bk_long, bkN_int, bkN_void, bkN_long, Nat.reduceAdd, Nat.reduceMul, Nat.reduceSub, Nat.reduceLT, Nat.reduceLeDiff, if_true, if_false, not_true_eq_false, not_false_eq_true, Bool.true_eq_false, Bool.false_eq_true, b2_eq0, Nat.add_zero, Nat.zero_add, Nat.not_lt_zero, Nat.zero_le, ite_true, ite_false, decide_true, decide_false, lit_ii, of_ii, le_T, le_F, lt_T, lt_F, eq_T, eq_F, ii_add, ii_mul, ii_nat, ii_le, ii_lt, ii_eq, inR_ii, ii_add0]
      · rw [y1 m hm', gI_ne (by omega), gI_ne (by omega)]
        exact nb m hm'
