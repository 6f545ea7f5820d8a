/-! both sides, call by call -/
theorem j_house {d : Nat} {σ : HP} (u1 : Int32) (W : WJ σ) : JL σ (callF (d + 71) m_LL_house [.ref 11, .int u1, .ref 5602] σ) (fun τ => callF (d + 71) m_Mo_house [.ref 3980, .int u1] τ) := by
  obtain ⟨H, w, D, tp, ct, B, pw, im, W, M⟩ := W
  have hn := W.n
  obtain ⟨h, l, l2, b, bq, A⟩ := W
  have z := z_house (d := d) A u1
  have q := fun (τ : HP) (X : MW τ H w D tp ct B pw im) => q_house (d := d + 1) X u1
  cases h1 : (inrg 0 (min 600 tp.1) u1) with
  | true =>
    simp only [h1, ↓reduceIte] at z q
    cases hr : hsAll tp.2 u1.toNatClampNeg with
    | inl s =>
      rw [hr] at z q
      obtain ⟨σ1, z, O, X⟩ := z
      exact JL.v X O hn (ll_house_v z) (q _ (M.okc O hn).oj)
    | inr G =>
      rw [hr] at z q
      obtain ⟨σ1, z, O, X⟩ := z
      exact JL.v X O hn (ll_house_v z) (q _ (M.okc O hn).oj)
  | false =>
    simp only [h1, Bool.false_eq_true, ↓reduceIte] at z q
    exact JL.x ⟨h, l, l2, b, bq, A.rA⟩ OKc.rf63 hn (by omega) (by omega) (ll_house_A z) (q _ (M.okc OKc.rf63 hn))
theorem j_law {d : Nat} {σ : HP} (u1 : Int32) (W : WJ σ) : JL σ (callF (d + 71) m_LL_law [.ref 11, .int u1, .ref 5602] σ) (fun τ => callF (d + 71) m_Mo_law [.ref 3980, .int u1] τ) := by
  obtain ⟨H, w, D, tp, ct, B, pw, im, W, M⟩ := W
  have hn := W.n
  obtain ⟨h, l, l2, b, bq, A⟩ := W
  have hb : inrg 0 (min 150 tp.1) u1 = true → u1.toNatClampNeg ≤ 150 := fun hb => by
    obtain ⟨n, -, hn, rfl⟩ := inrg_T hb (by omega) (by omega)
    rw [ii_nat (by omega)]
    omega
  have g0 : (inrg 0 (min 150 tp.1) u1 = false → callF (d + 70) m_PL_law [.ref 11, .int u1] σ = some (.inr 1, rfA σ (ct.2.2.2 + 1))) := fun hf => by
    have o := s_openText (d := d + 46) A u1 (lim := 150) (by omega)
    rw [hf, if_neg (by decide)] at o
    simp (disch := first | omega | exact b2_01 _ | exact ii0_01 | exact ii1_01 | (simp (disch := omega) only [o, dr_some, Option.isSome_some, gR_wI, Nat.add_mul_mod_self_left, Nat.reduceMod, ak20, ak21, ak22, ak23, ak24, ak25, ak26, ak27, ak28, ak29, ak30, ak31, ak32, ak33, ak34, ak35, ak36, an20, an21, an22, an23, an24, an25, an26, an27, an28, an29, an30, an31, an32, an33, an34, an35, an36, an37, an38, ne_eq, inR_ii, decide_eq_true_eq, lit_ii, of_ii, ii_eq, ii_lt, ii_le]; first | done | omega)) only [o, e_PL_law, b_PL_law_0, o, bk_thr (m := m_PL_law) rfl, dr_some, Option.isSome_some, gR_wI, Nat.add_mul_mod_self_left, Nat.reduceMod, ak20, ak21, ak22, ak23, ak24, ak25, ak26, ak27, ak28, ak29, ak30, ak31, ak32, ak33, ak34, ak35, ak36, an20, an21, an22, an23, an24, an25, an26, an27, an28, an29, an30, an31, an32, an33, an34, an35, an36, an37, an38, ↓reduceIte, bk_int, bk_void, bk_long, bkN_int, bkN_void, bkN_long, Nat.reduceAdd, Nat.reduceMul, Nat.reduceSub, Nat.reduceLT, Nat.reduceLeDiff, if_true, if_false, not_true_eq_false, not_false_eq_true, Bool.true_eq_false, Bool.false_eq_true, b2_eq0, Nat.add_zero, Nat.zero_add, Nat.not_lt_zero, Nat.zero_le, ite_true, ite_false, decide_true, decide_false, lit_ii, of_ii, le_T, le_F, lt_T, lt_F, eq_T, eq_F, ii_add, ii_mul, ii_nat, ii_le, ii_lt, ii_eq, inR_ii, ii_add0]
  have q := fun (τ : HP) (X : MW τ H w D tp ct B pw im) => q_law (d := d + 1) X u1
  cases h1 : (inrg 0 (min 150 tp.1) u1) with
  | true =>
    have z := z_law (d := d) A u1 (fun s hs => lwAll_w (hb h1) hs)
    simp only [h1, ↓reduceIte] at z q
    obtain ⟨σ1, z, O, X⟩ := z
    exact JL.v X O hn (ll_law_v z) (q _ (M.okc O hn).oj)
  | false =>
    have z := g0 h1
    simp only [h1, Bool.false_eq_true, ↓reduceIte] at q
    exact JL.x ⟨h, l, l2, b, bq, A.rA⟩ OKc.rf63 hn (by omega) (by omega) (ll_law_A z) (q _ (M.okc OKc.rf63 hn))
theorem j_work {d : Nat} {σ : HP} (u1 : Int32) (W : WJ σ) : JL σ (callF (d + 71) m_LL_work [.ref 11, .int u1, .ref 5602] σ) (fun τ => callF (d + 71) m_Mo_work [.ref 3980, .int u1] τ) := by
  obtain ⟨H, w, D, tp, ct, B, pw, im, W, M⟩ := W
  have hn := W.n
  obtain ⟨h, l, l2, b, bq, A⟩ := W
  have hb : inrg 0 (min 150 tp.1) u1 = true → u1.toNatClampNeg ≤ 150 := fun hb => by
    obtain ⟨n, -, hn, rfl⟩ := inrg_T hb (by omega) (by omega)
    rw [ii_nat (by omega)]
    omega
  have g0 : (inrg 0 (min 150 tp.1) u1 = false → callF (d + 70) m_PL_work [.ref 11, .int u1] σ = some (.inr 1, rfA σ (ct.2.2.2 + 1))) := fun hf => by
    have o := s_openText (d := d + 46) A u1 (lim := 150) (by omega)
    rw [hf, if_neg (by decide)] at o
    simp (disch := first | omega | exact b2_01 _ | exact ii0_01 | exact ii1_01 | (simp (disch := omega) only [o, dr_some, Option.isSome_some, gR_wI, Nat.add_mul_mod_self_left, Nat.reduceMod, ak20, ak21, ak22, ak23, ak24, ak25, ak26, ak27, ak28, ak29, ak30, ak31, ak32, ak33, ak34, ak35, ak36, an20, an21, an22, an23, an24, an25, an26, an27, an28, an29, an30, an31, an32, an33, an34, an35, an36, an37, an38, ne_eq, inR_ii, decide_eq_true_eq, lit_ii, of_ii, ii_eq, ii_lt, ii_le]; first | done | omega)) only [o, e_PL_work, b_PL_work_0, o, bk_thr (m := m_PL_work) rfl, dr_some, Option.isSome_some, gR_wI, Nat.add_mul_mod_self_left, Nat.reduceMod, ak20, ak21, ak22, ak23, ak24, ak25, ak26, ak27, ak28, ak29, ak30, ak31, ak32, ak33, ak34, ak35, ak36, an20, an21, an22, an23, an24, an25, an26, an27, an28, an29, an30, an31, an32, an33, an34, an35, an36, an37, an38, ↓reduceIte, bk_int, bk_void, bk_long, bkN_int, bkN_void, bkN_long, Nat.reduceAdd, Nat.reduceMul, Nat.reduceSub, Nat.reduceLT, Nat.reduceLeDiff, if_true, if_false, not_true_eq_false, not_false_eq_true, Bool.true_eq_false, Bool.false_eq_true, b2_eq0, Nat.add_zero, Nat.zero_add, Nat.not_lt_zero, Nat.zero_le, ite_true, ite_false, decide_true, decide_false, lit_ii, of_ii, le_T, le_F, lt_T, lt_F, eq_T, eq_F, ii_add, ii_mul, ii_nat, ii_le, ii_lt, ii_eq, inR_ii, ii_add0]
  have q := fun (τ : HP) (X : MW τ H w D tp ct B pw im) => q_work (d := d + 1) X u1
  cases h1 : (inrg 0 (min 150 tp.1) u1) with
  | true =>
    have z := z_work (d := d) A u1 (wkAll_w (hb h1))
    simp only [h1, ↓reduceIte] at z q
    by_cases hp : pw.1 = 16
    · simp only [if_pos hp] at z q
      obtain ⟨σ1, z, O, X⟩ := z
      exact JL.v X O hn (ll_work_v z) (q _ (M.okc O hn).oj)
    · simp only [if_neg hp] at z q
      cases hr : wkAll tp.2 u1.toNatClampNeg H with
      | inl s =>
        rw [hr] at z q
        obtain ⟨σ1, z, O, X⟩ := z
        exact JL.v X O hn (ll_work_v z) (q _ (M.okc O hn).oj)
      | inr G =>
        rw [hr] at z q
        obtain ⟨σ1, z, O, X⟩ := z
        exact JL.v X O hn (ll_work_v z) (q _ (M.okc O hn).oj)
  | false =>
    have z := g0 h1
    simp only [h1, Bool.false_eq_true, ↓reduceIte] at q
    exact JL.x ⟨h, l, l2, b, bq, A.rA⟩ OKc.rf63 hn (by omega) (by omega) (ll_work_A z) (q _ (M.okc OKc.rf63 hn))
theorem j_book {d : Nat} {σ : HP} (u1 : Int32) (W : WJ σ) : JL σ (callF (d + 71) m_LL_book [.ref 11, .int u1, .ref 5602] σ) (fun τ => callF (d + 71) m_Mo_book [.ref 3980, .int u1] τ) := by
  obtain ⟨H, w, D, tp, ct, B, pw, im, W, M⟩ := W
  have hn := W.n
  obtain ⟨h, l, l2, b, bq, A⟩ := W
  have z := z_book (d := d) A u1
  have q := fun (τ : HP) (X : MW τ H w D tp ct B pw im) => q_book (d := d + 1) X u1
  cases h1 : (inrg 0 (min 60 tp.1) u1) with
  | true =>
    simp only [h1, ↓reduceIte] at z q
    obtain ⟨σ1, z, O, X⟩ := z
    exact JL.v X O hn (ll_book_v z) (q _ (M.okc O hn).oj)
  | false =>
    simp only [h1, Bool.false_eq_true, ↓reduceIte] at z q
    exact JL.x ⟨h, l, l2, b, bq, A.rA⟩ OKc.rf63 hn (by omega) (by omega) (ll_book_A z) (q _ (M.okc OKc.rf63 hn))
theorem j_told {d : Nat} {σ : HP} (u1 : Int32) (W : WJ σ) : JL σ (callF (d + 71) m_LL_told [.ref 11, .int u1, .ref 5602] σ) (fun τ => callF (d + 71) m_Mo_told [.ref 3980, .int u1] τ) := by
  obtain ⟨H, w, D, tp, ct, B, pw, im, W, M⟩ := W
  have hn := W.n
  obtain ⟨h, l, l2, b, bq, A⟩ := W
  have z := z_told (d := d) A u1
  have q := fun (τ : HP) (X : MW τ H w D tp ct B pw im) => q_told (d := d + 1) X u1
  cases h1 : (inrg 0 11 u1) with
  | true =>
    simp only [h1, ↓reduceIte] at z q
    exact JL.v ⟨h, l, l2, b, bq, A⟩ OKc.rf hn (ll_told_v z) (q _ M.oj)
  | false =>
    simp only [h1, Bool.false_eq_true, ↓reduceIte] at z q
    exact JL.x ⟨h, l, l2, b, bq, A.rA⟩ OKc.rf63 hn (by omega) (by omega) (ll_told_A z) (q _ (M.okc OKc.rf63 hn))
theorem j_man {d : Nat} {σ : HP} (u1 u2 : Int32) (W : WJ σ) : JL σ (callF (d + 71) m_LL_man [.ref 11, .int u1, .int u2, .ref 5602] σ) (fun τ => callF (d + 71) m_Mo_man [.ref 3980, .int u1, .int u2] τ) := by
  obtain ⟨H, w, D, tp, ct, B, pw, im, W, M⟩ := W
  have hn := W.n
  obtain ⟨h, l, l2, b, bq, A⟩ := W
  have z := z_man (d := d) A u1 u2
  have q := fun (τ : HP) (X : MW τ H w D tp ct B pw im) => q_man (d := d + 1) X u1 u2
  cases h1 : (inb u1 (hm H)) with
  | true =>
    simp only [h1, ↓reduceIte] at z q
    cases h2 : (inrg 0 7 u2) with
    | true =>
      simp only [h2, ↓reduceIte] at z q
      exact JL.v ⟨h, l, l2, b, bq, A⟩ OKc.rf hn (ll_man_v z) (q _ M.oj)
    | false =>
      simp only [h2, Bool.false_eq_true, ↓reduceIte] at z q
      exact JL.x ⟨h, l, l2, b, bq, A.rA⟩ OKc.rf63 hn (by omega) (by omega) (ll_man_A z) (q _ (M.okc OKc.rf63 hn))
  | false =>
    simp only [h1, Bool.false_eq_true, ↓reduceIte] at z q
    exact JL.x ⟨h, l, l2, b, bq, A.rN⟩ OKc.rf63 hn (by omega) (by omega) (ll_man_N z) (q _ (M.okc OKc.rf63 hn))
theorem j_card {d : Nat} {σ : HP} (u1 u2 : Int32) (W : WJ σ) : JL σ (callF (d + 71) m_LL_card [.ref 11, .int u1, .int u2, .ref 5602] σ) (fun τ => callF (d + 71) m_Mo_card [.ref 3980, .int u1, .int u2] τ) := by
  obtain ⟨H, w, D, tp, ct, B, pw, im, W, M⟩ := W
  have hn := W.n
  obtain ⟨h, l, l2, b, bq, A⟩ := W
  have z := z_card (d := d) A u1 u2
  have q := fun (τ : HP) (X : MW τ H w D tp ct B pw im) => q_card (d := d + 1) X u1 u2
  cases h1 : (inb u1 (hc H)) with
  | true =>
    simp only [h1, ↓reduceIte] at z q
    cases h2 : (inrg 0 2 u2) with
    | true =>
      simp only [h2, ↓reduceIte] at z q
      exact JL.v ⟨h, l, l2, b, bq, A⟩ OKc.rf hn (ll_card_v z) (q _ M.oj)
    | false =>
      simp only [h2, Bool.false_eq_true, ↓reduceIte] at z q
      exact JL.x ⟨h, l, l2, b, bq, A.rA⟩ OKc.rf63 hn (by omega) (by omega) (ll_card_A z) (q _ (M.okc OKc.rf63 hn))
  | false =>
    simp only [h1, Bool.false_eq_true, ↓reduceIte] at z q
    exact JL.x ⟨h, l, l2, b, bq, A.rN⟩ OKc.rf63 hn (by omega) (by omega) (ll_card_N z) (q _ (M.okc OKc.rf63 hn))
theorem j_heard {d : Nat} {σ : HP} (u1 u2 : Int32) (W : WJ σ) : JL σ (callF (d + 71) m_LL_heard [.ref 11, .int u1, .int u2, .ref 5602] σ) (fun τ => callF (d + 71) m_Mo_heard [.ref 3980, .int u1, .int u2] τ) := by
  obtain ⟨H, w, D, tp, ct, B, pw, im, W, M⟩ := W
  have hn := W.n
  obtain ⟨h, l, l2, b, bq, A⟩ := W
  have z := z_heard (d := d) A u1 u2
  have q := fun (τ : HP) (X : MW τ H w D tp ct B pw im) => q_heard (d := d + 1) X u1 u2
  cases h1 : (inb u1 (hm H)) with
  | true =>
    simp only [h1, ↓reduceIte] at z q
    cases h2 : (inb u2 (hc H)) with
    | true =>
      simp only [h2, ↓reduceIte] at z q
      exact JL.v ⟨h, l, l2, b, bq, A⟩ OKc.rf hn (ll_heard_v z) (q _ M.oj)
    | false =>
      simp only [h2, Bool.false_eq_true, ↓reduceIte] at z q
      exact JL.x ⟨h, l, l2, b, bq, A.rN⟩ OKc.rf63 hn (by omega) (by omega) (ll_heard_N z) (q _ (M.okc OKc.rf63 hn))
  | false =>
    simp only [h1, Bool.false_eq_true, ↓reduceIte] at z q
    exact JL.x ⟨h, l, l2, b, bq, A.rN⟩ OKc.rf63 hn (by omega) (by omega) (ll_heard_N z) (q _ (M.okc OKc.rf63 hn))
theorem j_swells {d : Nat} {σ : HP} (u1 u2 : Int32) (W : WJ σ) : JL σ (callF (d + 71) m_LL_swells [.ref 11, .int u1, .int u2, .ref 5602] σ) (fun τ => callF (d + 71) m_Mo_swells [.ref 3980, .int u1, .int u2] τ) := by
  obtain ⟨H, w, D, tp, ct, B, pw, im, W, M⟩ := W
  have hn := W.n
  obtain ⟨h, l, l2, b, bq, A⟩ := W
  have z := z_swells (d := d) A u1 u2
  have q := fun (τ : HP) (X : MW τ H w D tp ct B pw im) => q_swells (d := d + 1) X u1 u2
  cases h1 : (inb u1 (hm H) && inb u2 (hc H)) with
  | true =>
    simp only [h1, ↓reduceIte] at z q
    obtain ⟨σ1, z, F⟩ := z
    have O : OKc σ σ1 := ⟨F.cls (by have := A.2.1.2.2.2.1; omega), by rw [F.N]; omega, by rw [F.Z]; omega⟩
    exact JL.v ⟨h, l, l2, b, bq, A.sl F⟩ O hn (ll_swells_v z) (q _ (M.okc O hn).oj)
  | false =>
    simp only [h1, Bool.false_eq_true, ↓reduceIte] at z q
    exact JL.x ⟨h, l, l2, b, bq, A.rN⟩ OKc.rf63 hn (by omega) (by omega) (ll_swells_N z) (q _ (M.okc OKc.rf63 hn))
theorem j_would {d : Nat} {σ : HP} (u1 u2 u3 u4 u5 u6 u7 u8 u9 : Int32) (W : WJ σ) : JL σ (callF (d + 71) m_LL_would [.ref 11, .int u1, .int u2, .int u3, .int u4, .int u5, .int u6, .int u7, .int u8, .int u9, .ref 5602] σ) (fun τ => callF (d + 71) m_Mo_would [.ref 3980, .int u1, .int u2, .int u3, .int u4, .int u5, .int u6, .int u7, .int u8, .int u9] τ) := by
  obtain ⟨H, w, D, tp, ct, B, pw, im, W, M⟩ := W
  have hn := W.n
  obtain ⟨h, l, l2, b, bq, A⟩ := W
  have z := z_would (d := d) A u1 u2 u3 u4 u5 u6 u7 u8 u9
  have q := fun (τ : HP) (X : MW τ H w D tp ct B pw im) => q_would (d := d + 1) X u1 u2 u3 u4 u5 u6 u7 u8 u9
  have ew : (inrg 1 20 u1 && (inrg 0 9 u2 && (inrg 0 9 u3 && (inrg 1 60 u4 && (inrg 0 900 u5 && (inrg 0 9 u6 && (inrg 0 999 u7 && (inrg 0 11 u8 && inrg 0 6 u9)))))))) = wdOK u1 u2 u3 u4 u5 u6 u7 u8 u9 := rfl
  rw [ew] at q
  cases h1 : (wdOK u1 u2 u3 u4 u5 u6 u7 u8 u9) with
  | true =>
    simp only [h1, ↓reduceIte] at z q
    obtain ⟨σ1, z, F⟩ := z
    have O : OKc σ σ1 := ⟨F.cls (by have := A.2.1.2.2.2.1; omega), by rw [F.N]; omega, by rw [F.Z]; omega⟩
    exact JL.v ⟨h, l, l2, b, bq, A.sl F⟩ O hn (ll_would_v z) (q _ (M.okc O hn).oj)
  | false =>
    simp only [h1, Bool.false_eq_true, ↓reduceIte] at z q
    exact JL.x ⟨h, l, l2, b, bq, A.rA⟩ OKc.rf63 hn (by omega) (by omega) (ll_would_A z) (q _ (M.okc OKc.rf63 hn))
theorem j_ahead {d : Nat} {σ : HP} (u1 u2 : Int32) (W : WJ σ) : JL σ (callF (d + 71) m_LL_ahead [.ref 11, .int u1, .int u2, .ref 5602] σ) (fun τ => callF (d + 71) m_Mo_ahead [.ref 3980, .int u1, .int u2] τ) := by
  obtain ⟨H, w, D, tp, ct, B, pw, im, W, M⟩ := W
  have hn := W.n
  obtain ⟨h, l, l2, b, bq, A⟩ := W
  have z := z_ahead (d := d) A u1 u2
  have q := fun (τ : HP) (X : MW τ H w D tp ct B pw im) => q_ahead (d := d + 1) X u1 u2
  cases h1 : (inrg 0 99 u1 && inrg 0 2 u2) with
  | true =>
    simp only [h1, ↓reduceIte] at z q
    obtain ⟨σ1, z, O, X⟩ := z
    exact JL.v ⟨h, l, l2, b, bq, X⟩ O hn (ll_ahead_v z) (q _ (M.okc O hn).oj)
  | false =>
    simp only [h1, Bool.false_eq_true, ↓reduceIte] at z q
    exact JL.x ⟨h, l, l2, b, bq, A.rA⟩ OKc.rf63 hn (by omega) (by omega) (ll_ahead_A z) (q _ (M.okc OKc.rf63 hn))
theorem j_to {d : Nat} {σ : HP} (u1 : Int32) (W : WJ σ) : JL σ (callF (d + 71) m_LL_to [.ref 11, .int u1, .ref 5602] σ) (fun τ => callF (d + 71) m_Mo_to [.ref 3980, .int u1] τ) := by
  obtain ⟨H, w, D, tp, ct, B, pw, im, W, M⟩ := W
  have hn := W.n
  obtain ⟨h, l, l2, b, bq, A⟩ := W
  have z := z_to (d := d) A u1
  have q := fun (τ : HP) (X : MW τ H w D tp ct B pw im) => q_to (d := d + 1) X u1
  cases h1 : (inb u1 (hf H)) with
  | true =>
    simp only [h1, ↓reduceIte] at z q
    obtain ⟨σ1, z, O, X⟩ := z
    exact JL.v ⟨h, l, l2, b, bq, X⟩ O hn (ll_to_v z) (q _ (M.okc O hn).oj)
  | false =>
    simp only [h1, Bool.false_eq_true, ↓reduceIte] at z q
    exact JL.x ⟨h, l, l2, b, bq, A.rA⟩ OKc.rf63 hn (by omega) (by omega) (ll_to_A z) (q _ (M.okc OKc.rf63 hn))
theorem j_couple {d : Nat} {σ : HP} (u1 : Int32) (W : WJ σ) : JL σ (callF (d + 71) m_LL_couple [.ref 11, .int u1, .ref 5602] σ) (fun τ => callF (d + 71) m_Mo_couple [.ref 3980, .int u1] τ) := by
  obtain ⟨H, w, D, tp, ct, B, pw, im, W, M⟩ := W
  have hn := W.n
  obtain ⟨h, l, l2, b, bq, A⟩ := W
  have z := z_couple (d := d) A u1
  have q := fun (τ : HP) (X : MW τ H w D tp ct B pw im) => q_couple (d := d + 1) X u1
  cases h1 : (inrg 0 1 u1) with
  | true =>
    simp only [h1, ↓reduceIte] at z q
    exact JL.v ⟨h, l, l2, b, bq, A⟩ OKc.rf hn (ll_couple_v z) (q _ M.oj)
  | false =>
    simp only [h1, Bool.false_eq_true, ↓reduceIte] at z q
    exact JL.x ⟨h, l, l2, b, bq, A.rA⟩ OKc.rf63 hn (by omega) (by omega) (ll_couple_A z) (q _ (M.okc OKc.rf63 hn))
theorem j_meet {d : Nat} {σ : HP} (u1 : Int32) (W : WJ σ) : JL σ (callF (d + 71) m_LL_meet [.ref 11, .int u1, .ref 5602] σ) (fun τ => callF (d + 71) m_Mo_meet [.ref 3980, .int u1] τ) := by
  obtain ⟨H, w, D, tp, ct, B, pw, im, W, M⟩ := W
  have hn := W.n
  obtain ⟨h, l, l2, b, bq, A⟩ := W
  have z := z_meet (d := d) A u1
  have q := fun (τ : HP) (X : MW τ H w D tp ct B pw im) => q_meet (d := d + 1) X u1
  cases h1 : (inrg 0 1 u1) with
  | true =>
    simp only [h1, ↓reduceIte] at z q
    exact JL.v ⟨h, l, l2, b, bq, A⟩ OKc.rf hn (ll_meet_v z) (q _ M.oj)
  | false =>
    simp only [h1, Bool.false_eq_true, ↓reduceIte] at z q
    exact JL.x ⟨h, l, l2, b, bq, A.rA⟩ OKc.rf63 hn (by omega) (by omega) (ll_meet_A z) (q _ (M.okc OKc.rf63 hn))
theorem j_cheapest {d : Nat} {σ : HP} (u1 : Int32) (W : WJ σ) : JL σ (callF (d + 71) m_LL_cheapest [.ref 11, .int u1, .ref 5602] σ) (fun τ => callF (d + 71) m_Mo_cheapest [.ref 3980, .int u1] τ) := by
  obtain ⟨H, w, D, tp, ct, B, pw, im, W, M⟩ := W
  have hn := W.n
  obtain ⟨h, l, l2, b, bq, A⟩ := W
  have z := z_cheapest (d := d) A u1
  have q := fun (τ : HP) (X : MW τ H w D tp ct B pw im) => q_cheapest (d := d + 1) X u1
  cases h1 : (inb u1 (hm H)) with
  | true =>
    simp only [h1, ↓reduceIte] at z q
    obtain ⟨σ1, z, F⟩ := z
    have O : OKc σ σ1 := ⟨F.cls (by have := A.2.1.2.2.2.1; omega), by rw [F.N]; omega, by rw [F.Z]; omega⟩
    exact JL.v ⟨h, l, l2, b, bq, A.sl F⟩ O hn (ll_cheapest_v z) (q _ (M.okc O hn).oj)
  | false =>
    simp only [h1, Bool.false_eq_true, ↓reduceIte] at z q
    exact JL.x ⟨h, l, l2, b, bq, A.rN⟩ OKc.rf63 hn (by omega) (by omega) (ll_cheapest_N z) (q _ (M.okc OKc.rf63 hn))
theorem j_fits {d : Nat} {σ : HP} (u1 : Int32) (W : WJ σ) : JL σ (callF (d + 71) m_LL_fits [.ref 11, .int u1, .ref 5602] σ) (fun τ => callF (d + 71) m_Mo_fits [.ref 3980, .int u1] τ) := by
  obtain ⟨H, w, D, tp, ct, B, pw, im, W, M⟩ := W
  have hn := W.n
  obtain ⟨h, l, l2, b, bq, A⟩ := W
  have z := z_fits (d := d) A u1
  have q := fun (τ : HP) (X : MW τ H w D tp ct B pw im) => q_fits (d := d + 1) X u1
  cases h1 : (inrg 0 1 u1) with
  | true =>
    simp only [h1, ↓reduceIte] at z q
    obtain ⟨σ1, z, O, X⟩ := z
    exact JL.v ⟨h, l, l2, b, bq, X⟩ O hn (ll_fits_v z) (q _ (M.okc O hn).oj)
  | false =>
    simp only [h1, Bool.false_eq_true, ↓reduceIte] at z q
    exact JL.x ⟨h, l, l2, b, bq, A.rA⟩ OKc.rf63 hn (by omega) (by omega) (ll_fits_A z) (q _ (M.okc OKc.rf63 hn))
theorem j_look {d : Nat} {σ : HP} (u1 : Int32) (W : WJ σ) : JL σ (callF (d + 71) m_LL_look [.ref 11, .int u1, .ref 5602] σ) (fun τ => callF (d + 71) m_Mo_look [.ref 3980, .int u1] τ) := by
  obtain ⟨H, w, D, tp, ct, B, pw, im, W, M⟩ := W
  have hn := W.n
  obtain ⟨h, l, l2, b, bq, A⟩ := W
  have z := z_look (d := d) A u1
  have q := fun (τ : HP) (X : MW τ H w D tp ct B pw im) => q_look (d := d + 1) X u1
  cases h1 : (inrg 0 1 u1) with
  | true =>
    simp only [h1, ↓reduceIte] at z q
    obtain ⟨σ1, z, O, X⟩ := z
    exact JL.v ⟨h, l, l2, b, bq, X⟩ O hn (ll_look_v z) (q _ (M.okc O hn).oj)
  | false =>
    simp only [h1, Bool.false_eq_true, ↓reduceIte] at z q
    exact JL.x ⟨h, l, l2, b, bq, A.rA⟩ OKc.rf63 hn (by omega) (by omega) (ll_look_A z) (q _ (M.okc OKc.rf63 hn))
theorem j_streak {d : Nat} {σ : HP} (u1 u2 u3 u4 : Int32) (W : WJ σ) : JS σ (callF (d + 71) m_LL_streak [.ref 11, .int u1, .int u2, .int u3, .int u4, .ref 5602] σ) (fun τ => callF (d + 71) m_Mo_streak [.ref 3980, .int u1, .int u2, .int u3, .int u4] τ) := by
  obtain ⟨H, w, D, tp, ct, B, pw, im, W, M⟩ := W
  have hn := W.n
  obtain ⟨h, l, l2, b, bq, A⟩ := W
  have z := z_streak (d := d) A u1 u2 u3 u4
  have q := fun (τ : HP) (X : MW τ H w D tp ct B pw im) => q_streak (d := d + 1) X u1 u2 u3 u4
  cases h1 : (inrg 0 12 u1 && (inrg 1 12 u2 && (inrg 0 16 u3 && inrg 0 1 u4))) with
  | true =>
    simp only [h1, ↓reduceIte] at z q
    obtain ⟨σ1, z, O, X⟩ := z
    exact JS.v ⟨h, l, l2, b, bq, X⟩ O hn (ll_streak_v z) (q _ (M.okc O hn).oj)
  | false =>
    simp only [h1, Bool.false_eq_true, ↓reduceIte] at z q
    exact JS.x ⟨h, l, l2, b, bq, A.rA⟩ OKc.rf63 hn (by omega) (by omega) (ll_streak_A z) (q _ (M.okc OKc.rf63 hn))
theorem j_flatter {d : Nat} {σ : HP} (u1 u2 u3 : Int32) (W : WJ σ) : JL σ (callF (d + 71) m_LL_flatter [.ref 11, .int u1, .int u2, .int u3, .ref 5602] σ) (fun τ => callF (d + 71) m_Mo_flatter [.ref 3980, .int u1, .int u2, .int u3] τ) := by
  obtain ⟨H, w, D, tp, ct, B, pw, im, W, M⟩ := W
  have hn := W.n
  obtain ⟨h, l, l2, b, bq, A⟩ := W
  have z := z_flatter (d := d) A u1 u2 u3
  have q := fun (τ : HP) (X : MW τ H w D tp ct B pw im) => q_flatter (d := d + 1) X u1 u2 u3
  cases h1 : (inrg 0 99 u1 && (inrg 0 99 u2 && inrg 0 2 u3)) with
  | true =>
    simp only [h1, ↓reduceIte] at z q
    exact JL.v ⟨h, l, l2, b, bq, A⟩ OKc.rf hn (ll_flatter_v z) (q _ M.oj)
  | false =>
    simp only [h1, Bool.false_eq_true, ↓reduceIte] at z q
    exact JL.x ⟨h, l, l2, b, bq, A.rA⟩ OKc.rf63 hn (by omega) (by omega) (ll_flatter_A z) (q _ (M.okc OKc.rf63 hn))
theorem j_breath {d : Nat} {σ : HP} (u1 u2 u3 : Int32) (W : WJ σ) : JL σ (callF (d + 71) m_LL_breath [.ref 11, .int u1, .int u2, .int u3, .ref 5602] σ) (fun τ => callF (d + 71) m_Mo_breath [.ref 3980, .int u1, .int u2, .int u3] τ) := by
  obtain ⟨H, w, D, tp, ct, B, pw, im, W, M⟩ := W
  have hn := W.n
  obtain ⟨h, l, l2, b, bq, A⟩ := W
  have z := z_breath (d := d) A u1 u2 u3
  have q := fun (τ : HP) (X : MW τ H w D tp ct B pw im) => q_breath (d := d + 1) X u1 u2 u3
  cases h1 : (inb u1 (hm H)) with
  | true =>
    simp only [h1, ↓reduceIte] at z q
    cases h2 : (inb u2 (2 ^ hm H)) with
    | true =>
      simp only [h2, ↓reduceIte] at z q
      cases h3 : (inrg 0 9999 u3) with
      | true =>
        simp only [h3, ↓reduceIte] at z q
        exact JL.v ⟨h, l, l2, b, bq, A⟩ OKc.rf hn (ll_breath_v z) (q _ M.oj)
      | false =>
        simp only [h3, Bool.false_eq_true, ↓reduceIte] at z q
        exact JL.x ⟨h, l, l2, b, bq, A.rA⟩ OKc.rf63 hn (by omega) (by omega) (ll_breath_A z) (q _ (M.okc OKc.rf63 hn))
    | false =>
      simp only [h2, Bool.false_eq_true, ↓reduceIte] at z q
      exact JL.x ⟨h, l, l2, b, bq, A.rA⟩ OKc.rf63 hn (by omega) (by omega) (ll_breath_A z) (q _ (M.okc OKc.rf63 hn))
  | false =>
    simp only [h1, Bool.false_eq_true, ↓reduceIte] at z q
    exact JL.x ⟨h, l, l2, b, bq, A.rN⟩ OKc.rf63 hn (by omega) (by omega) (ll_breath_N z) (q _ (M.okc OKc.rf63 hn))
theorem j_heaviest {d : Nat} {σ : HP} (u1 : Int32) (W : WJ σ) : JL σ (callF (d + 71) m_LL_heaviest [.ref 11, .int u1, .ref 5602] σ) (fun τ => callF (d + 71) m_Mo_heaviest [.ref 3980, .int u1] τ) := by
  obtain ⟨H, w, D, tp, ct, B, pw, im, W, M⟩ := W
  have hn := W.n
  obtain ⟨h, l, l2, b, bq, A⟩ := W
  have z := z_heaviest (d := d) A u1
  have q := fun (τ : HP) (X : MW τ H w D tp ct B pw im) => q_heaviest (d := d + 1) X u1
  cases h1 : (inrg 0 1 u1) with
  | true =>
    simp only [h1, ↓reduceIte] at z q
    exact JL.v ⟨h, l, l2, b, bq, A⟩ OKc.rf hn (ll_heaviest_v z) (q _ M.oj)
  | false =>
    simp only [h1, Bool.false_eq_true, ↓reduceIte] at z q
    exact JL.x ⟨h, l, l2, b, bq, A.rA⟩ OKc.rf63 hn (by omega) (by omega) (ll_heaviest_A z) (q _ (M.okc OKc.rf63 hn))
theorem j_floor {d : Nat} {σ : HP} (u1 : Int32) (W : WJ σ) : JL σ (callF (d + 71) m_LL_floor [.ref 11, .int u1, .ref 5602] σ) (fun τ => callF (d + 71) m_Mo_floor [.ref 3980, .int u1] τ) := by
  obtain ⟨H, w, D, tp, ct, B, pw, im, W, M⟩ := W
  have hn := W.n
  obtain ⟨h, l, l2, b, bq, A⟩ := W
  have z := z_floor (d := d) A u1
  have q := fun (τ : HP) (X : MW τ H w D tp ct B pw im) => q_floor (d := d + 1) X u1
  cases h1 : (inb u1 (hf H)) with
  | true =>
    simp only [h1, ↓reduceIte] at z q
    exact JL.v ⟨h, l, l2, b, bq, A⟩ OKc.rf hn (ll_floor_v z) (q _ M.oj)
  | false =>
    simp only [h1, Bool.false_eq_true, ↓reduceIte] at z q
    exact JL.x ⟨h, l, l2, b, bq, A.rA⟩ OKc.rf63 hn (by omega) (by omega) (ll_floor_A z) (q _ (M.okc OKc.rf63 hn))
theorem j_sweetest {d : Nat} {σ : HP} (u1 u2 : Int32) (W : WJ σ) : JL σ (callF (d + 71) m_LL_sweetest [.ref 11, .int u1, .int u2, .ref 5602] σ) (fun τ => callF (d + 71) m_Mo_sweetest [.ref 3980, .int u1, .int u2] τ) := by
  obtain ⟨H, w, D, tp, ct, B, pw, im, W, M⟩ := W
  have hn := W.n
  obtain ⟨h, l, l2, b, bq, A⟩ := W
  have z := z_sweetest (d := d) A u1 u2
  have q := fun (τ : HP) (X : MW τ H w D tp ct B pw im) => q_sweetest (d := d + 1) X u1 u2
  cases h1 : (inb u1 (hm H)) with
  | true =>
    simp only [h1, ↓reduceIte] at z q
    cases h2 : (inrg 0 1 u2) with
    | true =>
      simp only [h2, ↓reduceIte] at z q
      obtain ⟨σ1, z, F⟩ := z
      have O : OKc σ σ1 := ⟨F.cls (by have := A.2.1.2.2.2.1; omega), by rw [F.N]; omega, by rw [F.Z]; omega⟩
      exact JL.v ⟨h, l, l2, b, bq, A.sl F⟩ O hn (ll_sweetest_v z) (q _ (M.okc O hn).oj)
    | false =>
      simp only [h2, Bool.false_eq_true, ↓reduceIte] at z q
      exact JL.x ⟨h, l, l2, b, bq, A.rA⟩ OKc.rf63 hn (by omega) (by omega) (ll_sweetest_A z) (q _ (M.okc OKc.rf63 hn))
  | false =>
    simp only [h1, Bool.false_eq_true, ↓reduceIte] at z q
    exact JL.x ⟨h, l, l2, b, bq, A.rN⟩ OKc.rf63 hn (by omega) (by omega) (ll_sweetest_N z) (q _ (M.okc OKc.rf63 hn))
theorem j_truest {d : Nat} {σ : HP} (u1 u2 : Int32) (W : WJ σ) : JL σ (callF (d + 71) m_LL_truest [.ref 11, .int u1, .int u2, .ref 5602] σ) (fun τ => callF (d + 71) m_Mo_truest [.ref 3980, .int u1, .int u2] τ) := by
  obtain ⟨H, w, D, tp, ct, B, pw, im, W, M⟩ := W
  have hn := W.n
  obtain ⟨h, l, l2, b, bq, A⟩ := W
  have z := z_truest (d := d) A u1 u2
  have q := fun (τ : HP) (X : MW τ H w D tp ct B pw im) => q_truest (d := d + 1) X u1 u2
  cases h1 : (inb u1 (hm H)) with
  | true =>
    simp only [h1, ↓reduceIte] at z q
    cases h2 : (inrg 0 1 u2) with
    | true =>
      simp only [h2, ↓reduceIte] at z q
      obtain ⟨σ1, z, F⟩ := z
      have O : OKc σ σ1 := ⟨F.cls (by have := A.2.1.2.2.2.1; omega), by rw [F.N]; omega, by rw [F.Z]; omega⟩
      exact JL.v ⟨h, l, l2, b, bq, A.sl F⟩ O hn (ll_truest_v z) (q _ (M.okc O hn).oj)
    | false =>
      simp only [h2, Bool.false_eq_true, ↓reduceIte] at z q
      exact JL.x ⟨h, l, l2, b, bq, A.rA⟩ OKc.rf63 hn (by omega) (by omega) (ll_truest_A z) (q _ (M.okc OKc.rf63 hn))
  | false =>
    simp only [h1, Bool.false_eq_true, ↓reduceIte] at z q
    exact JL.x ⟨h, l, l2, b, bq, A.rN⟩ OKc.rf63 hn (by omega) (by omega) (ll_truest_N z) (q _ (M.okc OKc.rf63 hn))
theorem j_proud {d : Nat} {σ : HP} (u1 : Int32) (W : WJ σ) : JL σ (callF (d + 71) m_LL_proud [.ref 11, .int u1, .ref 5602] σ) (fun τ => callF (d + 71) m_Mo_proud [.ref 3980, .int u1] τ) := by
  obtain ⟨H, w, D, tp, ct, B, pw, im, W, M⟩ := W
  have hn := W.n
  obtain ⟨h, l, l2, b, bq, A⟩ := W
  have z := z_proud (d := d) A u1
  have q := fun (τ : HP) (X : MW τ H w D tp ct B pw im) => q_proud (d := d + 1) X u1
  cases h1 : (inrg 0 1 u1) with
  | true =>
    simp only [h1, ↓reduceIte] at z q
    exact JL.v ⟨h, l, l2, b, bq, A⟩ OKc.rf hn (ll_proud_v z) (q _ M.oj)
  | false =>
    simp only [h1, Bool.false_eq_true, ↓reduceIte] at z q
    exact JL.x ⟨h, l, l2, b, bq, A.rA⟩ OKc.rf63 hn (by omega) (by omega) (ll_proud_A z) (q _ (M.okc OKc.rf63 hn))
theorem j_liked {d : Nat} {σ : HP} (u1 : Int32) (W : WJ σ) : JL σ (callF (d + 71) m_LL_liked [.ref 11, .int u1, .ref 5602] σ) (fun τ => callF (d + 71) m_Mo_liked [.ref 3980, .int u1] τ) := by
  obtain ⟨H, w, D, tp, ct, B, pw, im, W, M⟩ := W
  have hn := W.n
  obtain ⟨h, l, l2, b, bq, A⟩ := W
  have z := z_liked (d := d) A u1
  have q := fun (τ : HP) (X : MW τ H w D tp ct B pw im) => q_liked (d := d + 1) X u1
  cases h1 : (inb u1 (hc H)) with
  | true =>
    simp only [h1, ↓reduceIte] at z q
    obtain ⟨σ1, z, F⟩ := z
    have O : OKc σ σ1 := ⟨F.cls (by have := A.2.1.2.2.2.1; omega), by rw [F.N]; omega, by rw [F.Z]; omega⟩
    exact JL.v ⟨h, l, l2, b, bq, A.sl F⟩ O hn (ll_liked_v z) (q _ (M.okc O hn).oj)
  | false =>
    simp only [h1, Bool.false_eq_true, ↓reduceIte] at z q
    exact JL.x ⟨h, l, l2, b, bq, A.rN⟩ OKc.rf63 hn (by omega) (by omega) (ll_liked_N z) (q _ (M.okc OKc.rf63 hn))
theorem j_above {d : Nat} {σ : HP} (u1 : Int32) (W : WJ σ) : JL σ (callF (d + 71) m_LL_above [.ref 11, .int u1, .ref 5602] σ) (fun τ => callF (d + 71) m_Mo_above [.ref 3980, .int u1] τ) := by
  obtain ⟨H, w, D, tp, ct, B, pw, im, W, M⟩ := W
  have hn := W.n
  obtain ⟨h, l, l2, b, bq, A⟩ := W
  have z := z_above (d := d) A u1
  have q := fun (τ : HP) (X : MW τ H w D tp ct B pw im) => q_above (d := d + 1) X u1
  cases h1 : (inb u1 (hm H)) with
  | true =>
    simp only [h1, ↓reduceIte] at z q
    exact JL.v ⟨h, l, l2, b, bq, A⟩ OKc.rf hn (ll_above_v z) (q _ M.oj)
  | false =>
    simp only [h1, Bool.false_eq_true, ↓reduceIte] at z q
    exact JL.x ⟨h, l, l2, b, bq, A.rN⟩ OKc.rf63 hn (by omega) (by omega) (ll_above_N z) (q _ (M.okc OKc.rf63 hn))
theorem j_ride {d : Nat} {σ : HP} (u1 : Int32) (W : WJ σ) : JL σ (callF (d + 71) m_LL_ride [.ref 11, .int u1, .ref 5602] σ) (fun τ => callF (d + 71) m_Mo_ride [.ref 3980, .int u1] τ) := by
  obtain ⟨H, w, D, tp, ct, B, pw, im, W, M⟩ := W
  have hn := W.n
  obtain ⟨h, l, l2, b, bq, A⟩ := W
  have z := z_ride (d := d) A u1
  have q := fun (τ : HP) (X : MW τ H w D tp ct B pw im) => q_ride (d := d + 1) X u1
  cases h1 : (inb u1 (2 ^ hm H)) with
  | true =>
    simp only [h1, ↓reduceIte] at z q
    exact JL.v ⟨h, l, l2, b, bq, A⟩ OKc.rf hn (ll_ride_v z) (q _ M.oj)
  | false =>
    simp only [h1, Bool.false_eq_true, ↓reduceIte] at z q
    exact JL.x ⟨h, l, l2, b, bq, A.rA⟩ OKc.rf63 hn (by omega) (by omega) (ll_ride_A z) (q _ (M.okc OKc.rf63 hn))
theorem j_times {d : Nat} {σ : HP} (u1 u2 u3 : Int32) (W : WJ σ) : JL σ (callF (d + 71) m_LL_times [.ref 11, .int u1, .int u2, .int u3, .ref 5602] σ) (fun τ => callF (d + 71) m_Mo_times [.ref 3980, .int u1, .int u2, .int u3] τ) := by
  obtain ⟨H, w, D, tp, ct, B, pw, im, W, M⟩ := W
  have hn := W.n
  obtain ⟨h, l, l2, b, bq, A⟩ := W
  have z := z_times (d := d) A u1 u2 u3
  have q := fun (τ : HP) (X : MW τ H w D tp ct B pw im) => q_times (d := d + 1) X u1 u2 u3
  cases h1 : (inb u1 (hm H) && inb u2 (hc H)) with
  | true =>
    simp only [h1, ↓reduceIte] at z q
    cases h2 : (inrg 0 999 u3) with
    | true =>
      simp only [h2, ↓reduceIte] at z q
      obtain ⟨σ1, z, O, X⟩ := z
      exact JL.v ⟨h, l, l2, b, bq, X⟩ O hn (ll_times_v z) (q _ (M.okc O hn).oj)
    | false =>
      simp only [h2, Bool.false_eq_true, ↓reduceIte] at z q
      exact JL.x ⟨h, l, l2, b, bq, A.rA⟩ OKc.rf63 hn (by omega) (by omega) (ll_times_A z) (q _ (M.okc OKc.rf63 hn))
  | false =>
    simp only [h1, Bool.false_eq_true, ↓reduceIte] at z q
    exact JL.x ⟨h, l, l2, b, bq, A.rN⟩ OKc.rf63 hn (by omega) (by omega) (ll_times_N z) (q _ (M.okc OKc.rf63 hn))
theorem j_week {d : Nat} {σ : HP} (u1 u2 u3 u4 : Int32) (W : WJ σ) : JL σ (callF (d + 71) m_LL_week [.ref 11, .int u1, .int u2, .int u3, .int u4, .ref 5602] σ) (fun τ => callF (d + 71) m_Mo_week [.ref 3980, .int u1, .int u2, .int u3, .int u4] τ) := by
  obtain ⟨H, w, D, tp, ct, B, pw, im, W, M⟩ := W
  have hn := W.n
  obtain ⟨h, l, l2, b, bq, A⟩ := W
  have z := z_week (d := d) A u1 u2 u3 u4
  have q := fun (τ : HP) (X : MW τ H w D tp ct B pw im) => q_week (d := d + 1) X u1 u2 u3 u4
  cases h1 : (inrg 0 16 u2 && (inrg 1 48 u3 && inrg 0 3 u4)) with
  | true =>
    simp only [h1, ↓reduceIte] at z q
    obtain ⟨σ1, z, O, X⟩ := z
    exact JL.v ⟨h, l, l2, b, bq, X⟩ O hn (ll_week_v z) (q _ (M.okc O hn).oj)
  | false =>
    simp only [h1, Bool.false_eq_true, ↓reduceIte] at z q
    exact JL.x ⟨h, l, l2, b, bq, A.rA⟩ OKc.rf63 hn (by omega) (by omega) (ll_week_A z) (q _ (M.okc OKc.rf63 hn))
theorem j_span {d : Nat} {σ : HP} (u1 u2 u3 u4 u5 u6 : Int32) (W : WJ σ) : JL σ (callF (d + 71) m_LL_span [.ref 11, .int u1, .int u2, .int u3, .int u4, .int u5, .int u6, .ref 5602] σ) (fun τ => callF (d + 71) m_Mo_span [.ref 3980, .int u1, .int u2, .int u3, .int u4, .int u5, .int u6] τ) := by
  obtain ⟨H, w, D, tp, ct, B, pw, im, W, M⟩ := W
  have hn := W.n
  obtain ⟨h, l, l2, b, bq, A⟩ := W
  have z := z_span (d := d) A u1 u2 u3 u4 u5 u6
  have q := fun (τ : HP) (X : MW τ H w D tp ct B pw im) => q_span (d := d + 1) X u1 u2 u3 u4 u5 u6
  cases h1 : (inrg 1 10 u2 && (inrg 0 16 u3 && (inrg 1 48 u4 && (inrg 0 2 u5 && inb u6 (hm H))))) with
  | true =>
    simp only [h1, ↓reduceIte] at z q
    obtain ⟨σ1, z, O, X⟩ := z
    exact JL.v ⟨h, l, l2, b, bq, X⟩ O hn (ll_span_v z) (q _ (M.okc O hn).oj)
  | false =>
    simp only [h1, Bool.false_eq_true, ↓reduceIte] at z q
    exact JL.x ⟨h, l, l2, b, bq, A.rA⟩ OKc.rf63 hn (by omega) (by omega) (ll_span_A z) (q _ (M.okc OKc.rf63 hn))
theorem j_feed {d : Nat} {σ : HP} (u1 u2 u3 u4 u5 : Int32) (W : WJ σ) : JD σ (callF (d + 70) m_PL_feed [.ref 11, .int u1, .int u2, .int u3, .int u4, .int u5] σ) (fun τ => callF (d + 70) m_Mo_feed [.ref 3980, .int u1, .int u2, .int u3, .int u4, .int u5] τ) := by
  obtain ⟨H, w, D, tp, ct, B, pw, im, W, M⟩ := W
  have hn := W.n
  obtain ⟨h, l, l2, b, bq, A⟩ := W
  have z := z_feed (d := d) A u1 u2 u3 u4 u5
  have q := fun (τ : HP) (X : MW τ H w D tp ct B pw im) => q_feed (d := d) X u1 u2 u3 u4 u5
  by_cases hp : tp.1 + 20 ≤ 600
  · simp only [if_pos hp] at z q
    obtain ⟨σ1, z, O, X⟩ := z
    exact JD.v ⟨h, l, l2, b, bq, X⟩ O hn z (q _ (M.okc O hn))
  · simp only [if_neg hp] at z q
    exact JD.v ⟨h, l, l2, b, bq, A⟩ OKc.rf hn z (q _ M)
theorem j_fault {d : Nat} {σ : HP} (W : WJ σ) : JD σ (callF (d + 70) m_PL_fault [.ref 11] σ) (fun τ => callF (d + 70) m_Mo_fault [.ref 3980] τ) := by
  obtain ⟨H, w, D, tp, ct, B, pw, im, W, M⟩ := W
  have hn := W.n
  obtain ⟨h, l, l2, b, bq, A⟩ := W
  have z := z_fault (d := d) A 
  have q := fun (τ : HP) (X : MW τ H w D tp ct B pw im) => q_fault (d := d) X 
  exact JD.v ⟨h, l, l2, b, bq, A⟩ OKc.rf hn z (q _ M)
theorem j_undo {d : Nat} {σ : HP} (W : WJ σ) : JD σ (callF (d + 70) m_PL_undo [.ref 11] σ) (fun τ => callF (d + 70) m_Mo_undo [.ref 3980] τ) := by
  obtain ⟨H, w, D, tp, ct, B, pw, im, W, M⟩ := W
  have hn := W.n
  obtain ⟨h, l, l2, b, bq, A⟩ := W
  have z := z_undo (d := d) A 
  have q := fun (τ : HP) (X : MW τ H w D tp ct B pw im) => q_undo (d := d) X 
  by_cases hp : pw.1 = 0
  · simp only [if_pos hp] at z q
    exact JD.v ⟨h, l, l2, b, bq, A⟩ OKc.rf hn z (q _ M)
  · simp only [if_neg hp] at z q
    obtain ⟨σ1, z, O, X⟩ := z
    exact JD.v ⟨h, l, l2, b, bq, X⟩ O hn z (q _ (M.okc O hn))
theorem j_rides {d : Nat} {σ : HP} (W : WJ σ) : JD σ (callF (d + 70) m_PL_rides [.ref 11] σ) (fun τ => callF (d + 70) m_Mo_rides [.ref 3980] τ) := by
  obtain ⟨H, w, D, tp, ct, B, pw, im, W, M⟩ := W
  have hn := W.n
  obtain ⟨h, l, l2, b, bq, A⟩ := W
  have z := z_rides (d := d) A 
  have q := fun (τ : HP) (X : MW τ H w D tp ct B pw im) => q_rides (d := d) X 
  obtain ⟨σ1, z, O, X⟩ := z
  exact JD.v ⟨h, l, l2, b, bq, X⟩ O hn z (q _ (M.okc O hn))
theorem j_waiting {d : Nat} {σ : HP} (W : WJ σ) : JD σ (callF (d + 70) m_PL_waiting [.ref 11] σ) (fun τ => callF (d + 70) m_Mo_waiting [.ref 3980] τ) := by
  obtain ⟨H, w, D, tp, ct, B, pw, im, W, M⟩ := W
  have hn := W.n
  obtain ⟨h, l, l2, b, bq, A⟩ := W
  have z := z_waiting (d := d) A 
  have q := fun (τ : HP) (X : MW τ H w D tp ct B pw im) => q_waiting (d := d) X 
  exact JD.v ⟨h, l, l2, b, bq, A⟩ OKc.rf hn z (q _ M)
theorem j_lacks {d : Nat} {σ : HP} (W : WJ σ) : JD σ (callF (d + 70) m_PL_lacks [.ref 11] σ) (fun τ => callF (d + 70) m_Mo_lacks [.ref 3980] τ) := by
  obtain ⟨H, w, D, tp, ct, B, pw, im, W, M⟩ := W
  have hn := W.n
  obtain ⟨h, l, l2, b, bq, A⟩ := W
  have z := z_lacks (d := d) A 
  have q := fun (τ : HP) (X : MW τ H w D tp ct B pw im) => q_lacks (d := d) X 
  exact JD.v ⟨h, l, l2, b, bq, A⟩ OKc.rf hn z (q _ M)
theorem j_vacant {d : Nat} {σ : HP} (W : WJ σ) : JD σ (callF (d + 70) m_PL_vacant [.ref 11] σ) (fun τ => callF (d + 70) m_Mo_vacant [.ref 3980] τ) := by
  obtain ⟨H, w, D, tp, ct, B, pw, im, W, M⟩ := W
  have hn := W.n
  obtain ⟨h, l, l2, b, bq, A⟩ := W
  have z := z_vacant (d := d) A 
  have q := fun (τ : HP) (X : MW τ H w D tp ct B pw im) => q_vacant (d := d) X 
  exact JD.v ⟨h, l, l2, b, bq, A⟩ OKc.rf hn z (q _ M)
theorem j_image {d : Nat} {σ : HP} (W : WJ σ) : JD σ (callF (d + 70) m_PL_image [.ref 11] σ) (fun τ => callF (d + 70) m_Mo_image [.ref 3980] τ) := by
  obtain ⟨H, w, D, tp, ct, B, pw, im, W, M⟩ := W
  have hn := W.n
  obtain ⟨h, l, l2, b, bq, A⟩ := W
  have z := z_image (d := d) A 
  have q := fun (τ : HP) (X : MW τ H w D tp ct B pw im) => q_image (d := d) X 
  by_cases hp : im.1 = 3
  · simp only [if_pos hp] at z q
    exact JD.v ⟨h, l, l2, b, bq, A⟩ OKc.rf hn z (q _ M)
  · simp only [if_neg hp] at z q
    obtain ⟨σ1, z, O, X⟩ := z
    exact JD.v ⟨h, l, l2, b, bq, X⟩ O hn z (q _ (M.okc O hn))
theorem j_restore {d : Nat} {σ : HP} (W : WJ σ) : JD σ (callF (d + 70) m_PL_restore [.ref 11] σ) (fun τ => callF (d + 70) m_Mo_restore [.ref 3980] τ) := by
  obtain ⟨H, w, D, tp, ct, B, pw, im, W, M⟩ := W
  have hn := W.n
  obtain ⟨h, l, l2, b, bq, A⟩ := W
  have z := z_restore (d := d) A 
  have q := fun (τ : HP) (X : MW τ H w D tp ct B pw im) => q_restore (d := d) X 
  by_cases hp : im.1 = 0
  · simp only [if_pos hp] at z q
    exact JD.v ⟨h, l, l2, b, bq, A⟩ OKc.rf hn z (q _ M)
  · simp only [if_neg hp] at z q
    obtain ⟨σ1, z, O, X⟩ := z
    exact JD.v ⟨h, l, l2, b, bq, X⟩ O hn z (q _ (M.okc O hn))
theorem j_status {d : Nat} {σ : HP} (u1 : Int32) (W : WJ σ) : JD σ (callF (d + 70) m_PL_status [.ref 11, .int u1] σ) (fun τ => callF (d + 70) m_Mo_status [.ref 3980, .int u1] τ) := by
  obtain ⟨H, w, D, tp, ct, B, pw, im, W, M⟩ := W
  have hn := W.n
  obtain ⟨h, l, l2, b, bq, A⟩ := W
  have z := z_status (d := d) A u1
  have q := fun (τ : HP) (X : MW τ H w D tp ct B pw im) => q_status (d := d) X u1
  exact JD.v ⟨h, l, l2, b, bq, A⟩ OKc.rf hn z (q _ M)
theorem j_count {d : Nat} {σ : HP} (u1 : Int32) (W : WJ σ) : JD σ (callF (d + 70) m_PL_count [.ref 11, .int u1] σ) (fun τ => callF (d + 70) m_Mo_count [.ref 3980, .int u1] τ) := by
  obtain ⟨H, w, D, tp, ct, B, pw, im, W, M⟩ := W
  have hn := W.n
  obtain ⟨h, l, l2, b, bq, A⟩ := W
  have z := z_count (d := d) A u1
  have q := fun (τ : HP) (X : MW τ H w D tp ct B pw im) => q_count (d := d) X u1
  exact JD.v ⟨h, l, l2, b, bq, A⟩ OKc.rf hn z (q _ M)
