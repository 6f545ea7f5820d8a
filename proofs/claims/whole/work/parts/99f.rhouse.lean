/-! the words of the reference -/
theorem of_5 {d : Nat} {σ : HP} : callF (d + 5) m_Mo_of [.ref 336] σ = some (.inl (some (.int (ii (pkS 5)))), σ) := r_of (s := 5) (by omega) (by omega)
theorem pv_5 : pkS 5 = 214416979 := by decide +kernel
theorem of_6 {d : Nat} {σ : HP} : callF (d + 5) m_Mo_of [.ref 400] σ = some (.inl (some (.int (ii (pkS 6)))), σ) := r_of (s := 6) (by omega) (by omega)
theorem pv_6 : pkS 6 = 13358 := by decide +kernel
theorem of_7 {d : Nat} {σ : HP} : callF (d + 5) m_Mo_of [.ref 464] σ = some (.inl (some (.int (ii (pkS 7)))), σ) := r_of (s := 7) (by omega) (by omega)
theorem pv_7 : pkS 7 = 99908 := by decide +kernel
theorem of_8 {d : Nat} {σ : HP} : callF (d + 5) m_Mo_of [.ref 528] σ = some (.inl (some (.int (ii (pkS 8)))), σ) := r_of (s := 8) (by omega) (by omega)
theorem pv_8 : pkS 8 = 17073615 := by decide +kernel
theorem of_9 {d : Nat} {σ : HP} : callF (d + 5) m_Mo_of [.ref 592] σ = some (.inl (some (.int (ii (pkS 9)))), σ) := r_of (s := 9) (by omega) (by omega)
theorem pv_9 : pkS 9 = 12748404 := by decide +kernel
theorem of_10 {d : Nat} {σ : HP} : callF (d + 5) m_Mo_of [.ref 656] σ = some (.inl (some (.int (ii (pkS 10)))), σ) := r_of (s := 10) (by omega) (by omega)
theorem pv_10 : pkS 10 = 441972 := by decide +kernel
theorem of_11 {d : Nat} {σ : HP} : callF (d + 5) m_Mo_of [.ref 720] σ = some (.inl (some (.int (ii (pkS 11)))), σ) := r_of (s := 11) (by omega) (by omega)
theorem pv_11 : pkS 11 = 555787877 := by decide +kernel
theorem of_12 {d : Nat} {σ : HP} : callF (d + 5) m_Mo_of [.ref 784] σ = some (.inl (some (.int (ii (pkS 12)))), σ) := r_of (s := 12) (by omega) (by omega)
theorem pv_12 : pkS 12 = 674469 := by decide +kernel
theorem of_13 {d : Nat} {σ : HP} : callF (d + 5) m_Mo_of [.ref 848] σ = some (.inl (some (.int (ii (pkS 13)))), σ) := r_of (s := 13) (by omega) (by omega)
theorem pv_13 : pkS 13 = 739714713 := by decide +kernel
theorem of_14 {d : Nat} {σ : HP} : callF (d + 5) m_Mo_of [.ref 912] σ = some (.inl (some (.int (ii (pkS 14)))), σ) := r_of (s := 14) (by omega) (by omega)
theorem pv_14 : pkS 14 = 777297172 := by decide +kernel
theorem of_15 {d : Nat} {σ : HP} : callF (d + 5) m_Mo_of [.ref 976] σ = some (.inl (some (.int (ii (pkS 15)))), σ) := r_of (s := 15) (by omega) (by omega)
theorem pv_15 : pkS 15 = 17376389 := by decide +kernel
theorem of_16 {d : Nat} {σ : HP} : callF (d + 5) m_Mo_of [.ref 1040] σ = some (.inl (some (.int (ii (pkS 16)))), σ) := r_of (s := 16) (by omega) (by omega)
theorem pv_16 : pkS 16 = 8554052 := by decide +kernel
theorem of_17 {d : Nat} {σ : HP} : callF (d + 5) m_Mo_of [.ref 1104] σ = some (.inl (some (.int (ii (pkS 17)))), σ) := r_of (s := 17) (by omega) (by omega)
theorem pv_17 : pkS 17 = 19173555 := by decide +kernel
theorem of_18 {d : Nat} {σ : HP} : callF (d + 5) m_Mo_of [.ref 1168] σ = some (.inl (some (.int (ii (pkS 18)))), σ) := r_of (s := 18) (by omega) (by omega)
theorem pv_18 : pkS 18 = 6700530 := by decide +kernel
theorem of_19 {d : Nat} {σ : HP} : callF (d + 5) m_Mo_of [.ref 1232] σ = some (.inl (some (.int (ii (pkS 19)))), σ) := r_of (s := 19) (by omega) (by omega)
theorem pv_19 : pkS 19 = 5722290 := by decide +kernel
theorem of_20 {d : Nat} {σ : HP} : callF (d + 5) m_Mo_of [.ref 1296] σ = some (.inl (some (.int (ii (pkS 20)))), σ) := r_of (s := 20) (by omega) (by omega)
theorem pv_20 : pkS 20 = 12748485 := by decide +kernel
theorem of_21 {d : Nat} {σ : HP} : callF (d + 5) m_Mo_of [.ref 1360] σ = some (.inl (some (.int (ii (pkS 21)))), σ) := r_of (s := 21) (by omega) (by omega)
theorem pv_21 : pkS 21 = 19513 := by decide +kernel
theorem of_22 {d : Nat} {σ : HP} : callF (d + 5) m_Mo_of [.ref 1424] σ = some (.inl (some (.int (ii (pkS 22)))), σ) := r_of (s := 22) (by omega) (by omega)
theorem pv_22 : pkS 22 = 317314452 := by decide +kernel
theorem of_23 {d : Nat} {σ : HP} : callF (d + 5) m_Mo_of [.ref 1488] σ = some (.inl (some (.int (ii (pkS 23)))), σ) := r_of (s := 23) (by omega) (by omega)
theorem pv_23 : pkS 23 = 239 := by decide +kernel
theorem of_24 {d : Nat} {σ : HP} : callF (d + 5) m_Mo_of [.ref 1552] σ = some (.inl (some (.int (ii (pkS 24)))), σ) := r_of (s := 24) (by omega) (by omega)
theorem pv_24 : pkS 24 = 755083 := by decide +kernel
theorem of_25 {d : Nat} {σ : HP} : callF (d + 5) m_Mo_of [.ref 1616] σ = some (.inl (some (.int (ii (pkS 25)))), σ) := r_of (s := 25) (by omega) (by omega)
theorem pv_25 : pkS 25 = 14982420 := by decide +kernel
theorem of_26 {d : Nat} {σ : HP} : callF (d + 5) m_Mo_of [.ref 1680] σ = some (.inl (some (.int (ii (pkS 26)))), σ) := r_of (s := 26) (by omega) (by omega)
theorem pv_26 : pkS 26 = 1279278 := by decide +kernel
/-! THE REFERENCE: a house told -/
def NH (σ : HP) (H : HH) : Prop := gI σ 3980 14 = ii (hm H) ∧ gI σ 3980 15 = ii (hc H) ∧ gI σ 3980 16 = ii (hf H) ∧ gI σ 3980 17 = ii (hp H) ∧ (∀ k, k < 3 * hm H → gI σ 4185 k = ii (mr H k)) ∧ ∀ k, k < 2 * hc H → gI σ 4248 k = ii (cr H k)
def MhF (a j : Nat) : Prop := (a = 3980 ∧ (j = 4 ∨ j = 5 ∨ j = 6 ∨ (14 ≤ j ∧ j ≤ 17))) ∨ a = 4185 ∨ a = 4248
theorem Mrd_hF {σ σ' : HP} (F : Fm Mrd σ σ') : Fm MhF σ σ' := F.mono (fun a j z => by unfold Mrd at z; unfold MhF; omega)
theorem MhF_sc {σ σ' : HP} (F : Fm MhF σ σ') : Fm Msc σ σ' := F.mono (fun a j z => by unfold MhF at z; unfold Msc; omega)
theorem NH.fm {S : Nat → Nat → Prop} {σ σ' : HP} {H : HH} (A : NH σ H) (F : Fm S σ σ') (h1 : ∀ j, 14 ≤ j ∧ j ≤ 17 → ¬ S 3980 j) (h2 : ∀ j, ¬ S 4185 j) (h3 : ∀ j, ¬ S 4248 j) : NH σ' H := by
  obtain ⟨a1, a2, a3, a4, a5, a6⟩ := A
  exact ⟨(F.I (h1 _ (by omega))).trans a1, (F.I (h1 _ (by omega))).trans a2, (F.I (h1 _ (by omega))).trans a3, (F.I (h1 _ (by omega))).trans a4, fun k hk => (F.I (h2 _)).trans (a5 k hk), fun k hk => (F.I (h3 _)).trans (a6 k hk)⟩
theorem NH.rd {σ σ' : HP} {H : HH} (A : NH σ H) (F : Fm Mrd σ σ') : NH σ' H := A.fm F (fun j z => by unfold Mrd; omega) (fun j => by unfold Mrd; omega) (fun j => by unfold Mrd; omega)
def HQm (σ : HP) (T : Nat → Nat) (n : Nat) (r : PR HsT) : Prop := match r with
  | .inl s => RD σ T n s.1 ∧ NH σ s.2
  | .inr F => RB σ F
/-- well or not -/
def RX (σ : HP) (T : Nat → Nat) (n : Nat) (st : PR Nat) : Prop := match st with
  | .inl p => RD σ T n p
  | .inr F => RB σ F
def bnN (T : Nat → Nat) (n lo hi : Nat) (st : PR Nat) : PR (Nat × Nat) := match st with
  | .inl p => numW T n lo hi p
  | .inr F => .inr F
def fsN (r : PR (Nat × Nat)) : PR Nat := match r with
  | .inl z => .inl z.1
  | .inr F => .inr F
def vlN (r : PR (Nat × Nat)) : Int32 := match r with
  | .inl z => ii z.2
  | .inr _ => ii 0
theorem RX.fm {S : Nat → Nat → Prop} {σ σ' : HP} {T : Nat → Nat} {n : Nat} {st : PR Nat} (A : RX σ T n st) (F : Fm S σ σ') (h : ∀ j, ¬ S 4126 j) (h2 : ∀ j, 3 ≤ j ∧ j ≤ 6 → ¬ S 3980 j) : RX σ' T n st := by
  cases st with
  | inl p => exact RD.fm A F h (fun j z => h2 j (by omega))
  | inr G => exact RB.fm A F (fun j z => h2 j (by omega))
theorem RX.rf {σ : HP} {T : Nat → Nat} {n : Nat} {st : PR Nat} (A : RX σ T n st) : MRf σ := by
  cases st with
  | inl p => exact (show RD σ T n p from A).1
  | inr G => exact (show RB σ G from A).1
theorem r_numX {d lo hi : Nat} {σ : HP} {T : Nat → Nat} {n : Nat} {y : Int32} {st : PR Nat} (A : RX σ T n st) (hy : y = prI32 hi) (hlo : lo ≤ 9999) (hhi : hi ≤ 9999) : ∃ σ', callF (d + 2) m_Mo_readNumber [.ref 3980, .int (ii lo), .int y] σ = some (.inl (some (.int (vlN (bnN T n lo hi st)))), σ') ∧ RX σ' T n (fsN (bnN T n lo hi st)) ∧ Fm Mrd σ σ' := by
  cases st with
  | inl p =>
    obtain ⟨σ', v, e, N, F⟩ := r_num (d := d) (lo := lo) (hi := hi) (show RD σ T n p from A) hy hlo hhi
    refine ⟨σ', ?_, ?_, F⟩
    · rw [e]
      have : v = vlN (bnN T n lo hi (.inl p)) := by
        show v = vlN (numW T n lo hi p)
        cases hn : numW T n lo hi p with
        | inl z => rw [hn] at N; obtain ⟨a, b⟩ := z; exact N.2
        | inr G => rw [hn] at N; exact N.2
      rw [this]
    · show RX σ' T n (fsN (numW T n lo hi p))
      cases hn : numW T n lo hi p with
      | inl z => rw [hn] at N; obtain ⟨a, b⟩ := z; exact N.1
      | inr G => rw [hn] at N; exact N.1
  | inr G =>
    have B := r_numB (d := d) (x := ii lo) (y := y) (show RB σ G from A)
    exact ⟨σ, B, A, Fm.rf⟩
theorem pr12 : ii 12 = prI32 13 := (pr_s 12).symm
theorem pr60 : ii 60 = prI32 61 := (pr_s 60).symm
theorem pr9 : ii 9 = prI32 10 := (pr_s 9).symm
theorem pr20 : ii 20 = prI32 21 := (pr_s 20).symm
theorem pr300 : ii 300 = prI32 301 := (pr_s 300).symm
theorem h_F {d n q p : Nat} {T : Nat → Nat} {H : HH} {σ : HP} (A : RD σ T n p) (N : NH σ H) (h0 : hm H = 0) : ∃ σ', callF (d + 7) m_Mo_readRow [.ref 3980, .int (ii (pkS 5))] σ = some (.inl none, σ') ∧ HQm σ' T n (hsF T n q (p, H)) ∧ Fm MhF σ σ' := by
  obtain ⟨σ1, e1, N1, F1⟩ := r_numX (d := d + 4) (lo := 2) (hi := 13) (st := .inl p) (show RX σ T n (.inl p) from A) pr12 (by omega) (by omega)
  unfold hsF
  rw [if_pos h0]
  simp only
  refine ⟨wI σ1 3980 16 (vlN (bnN T n 2 13 (.inl p))), ?_, ?_, (Mrd_hF F1).w (by unfold MhF; omega)⟩
  · simp (disch := first | omega | exact b2_01 _ | exact ii0_01 | exact ii1_01 | (simp (disch := omega) only [e1, dr_some, Option.isSome_some, gR_wI, Nat.add_mul_mod_self_left, Nat.reduceMod, ak20, ak21, ak22, ak23, ak24, ak25, ak26, ak27, ak28, ak29, ak30, ak31, ak32, ak33, ak34, ak35, ak36, an20, an21, an22, an23, an24, an25, an26, an27, an28, an29, an30, an31, an32, an33, an34, an35, an36, an37, an38, ne_eq, inR_ii, decide_eq_true_eq, lit_ii, of_ii, ii_eq, ii_lt, ii_le]; first | done | omega)) only [e1, e_Mo_readRow, b_Mo_readRow_0, b_Mo_readRow_6, b_Mo_readRow_9, b_Mo_readRow_17, b_Mo_readRow_23, b_Mo_readRow_29, b_Mo_readRow_32, b_Mo_readRow_53, b_Mo_readRow_73, b_Mo_readRow_93, b_Mo_readRow_107, b_Mo_readRow_113, b_Mo_readRow_116, b_Mo_readRow_133, b_Mo_readRow_153, b_Mo_readRow_167, b_Mo_readRow_176, b_Mo_readRow_179, of_5, dr_some, Option.isSome_some, gR_wI, Nat.add_mul_mod_self_left, Nat.reduceMod, ak20, ak21, ak22, ak23, ak24, ak25, ak26, ak27, ak28, ak29, ak30, ak31, ak32, ak33, ak34, ak35, ak36, an20, an21, an22, an23, an24, an25, an26, an27, an28, an29, an30, an31, an32, an33, an34, an35, an36, an37, an38, ↓reduceIte, bk_int, bk_void, bk_long, bkN_int, bkN_void, bkN_long, Nat.reduceAdd, Nat.reduceMul, Nat.reduceSub, Nat.reduceLT, Nat.reduceLeDiff, if_true, if_false, not_true_eq_false, not_false_eq_true, Bool.true_eq_false, Bool.false_eq_true, b2_eq0, Nat.add_zero, Nat.zero_add, Nat.not_lt_zero, Nat.zero_le, ite_true, ite_false, decide_true, decide_false, lit_ii, of_ii, le_T, le_F, lt_T, lt_F, eq_T, eq_F, ii_add, ii_mul, ii_nat, ii_le, ii_lt, ii_eq, inR_ii, ii_add0]
  · have Fw : Fm (fun a j => a = 3980 ∧ j = 16) σ1 (wI σ1 3980 16 (vlN (bnN T n 2 13 (.inl p)))) := Fm.w Fm.rf ⟨rfl, rfl⟩
    have N2 := N1.fm Fw (fun j => by omega) (fun j z => by omega)
    have e : bnN T n 2 13 (.inl p) = numW T n 2 13 p := rfl
    rw [e] at N2 ⊢
    obtain ⟨b1, b2', b3, b4, b5, b6⟩ := N.rd F1
    cases hn : numW T n 2 13 p with
    | inr G =>
      rw [hn] at N2
      exact N2
    | inl z =>
      obtain ⟨p', v⟩ := z
      rw [hn] at N2
      exact ⟨N2, (gI_nj (by omega)).trans b1, (gI_nj (by omega)).trans b2', gI_at, (gI_nj (by omega)).trans b4, fun k hk => (gI_ne (by omega)).trans (b5 k hk), fun k hk => (gI_ne (by omega)).trans (b6 k hk)⟩
theorem h_P {d n p : Nat} {T : Nat → Nat} {H : HH} {σ : HP} (A : RD σ T n p) (N : NH σ H) : ∃ σ', callF (d + 7) m_Mo_readRow [.ref 3980, .int (ii (pkS 8))] σ = some (.inl none, σ') ∧ HQm σ' T n (hsP T n (p, H)) ∧ Fm MhF σ σ' := by
  obtain ⟨σ1, e1, N1, F1⟩ := r_numX (d := d + 4) (lo := 0) (hi := 301) (st := .inl p) (show RX σ T n (.inl p) from A) pr300 (by omega) (by omega)
  unfold hsP
  simp only
  refine ⟨wI σ1 3980 17 (vlN (bnN T n 0 301 (.inl p))), ?_, ?_, (Mrd_hF F1).w (by unfold MhF; omega)⟩
  · simp (disch := first | omega | exact b2_01 _ | exact ii0_01 | exact ii1_01 | (simp (disch := omega) only [e1, dr_some, Option.isSome_some, gR_wI, Nat.add_mul_mod_self_left, Nat.reduceMod, ak20, ak21, ak22, ak23, ak24, ak25, ak26, ak27, ak28, ak29, ak30, ak31, ak32, ak33, ak34, ak35, ak36, an20, an21, an22, an23, an24, an25, an26, an27, an28, an29, an30, an31, an32, an33, an34, an35, an36, an37, an38, ne_eq, inR_ii, decide_eq_true_eq, lit_ii, of_ii, ii_eq, ii_lt, ii_le]; first | done | omega)) only [e1, e_Mo_readRow, b_Mo_readRow_0, b_Mo_readRow_6, b_Mo_readRow_9, b_Mo_readRow_17, b_Mo_readRow_23, b_Mo_readRow_29, b_Mo_readRow_32, b_Mo_readRow_53, b_Mo_readRow_73, b_Mo_readRow_93, b_Mo_readRow_107, b_Mo_readRow_113, b_Mo_readRow_116, b_Mo_readRow_133, b_Mo_readRow_153, b_Mo_readRow_167, b_Mo_readRow_176, b_Mo_readRow_179, of_5, of_6, of_7, pv_5, pv_6, pv_7, pv_8, Nat.reduceEqDiff, dr_some, Option.isSome_some, gR_wI, Nat.add_mul_mod_self_left, Nat.reduceMod, ak20, ak21, ak22, ak23, ak24, ak25, ak26, ak27, ak28, ak29, ak30, ak31, ak32, ak33, ak34, ak35, ak36, an20, an21, an22, an23, an24, an25, an26, an27, an28, an29, an30, an31, an32, an33, an34, an35, an36, an37, an38, ↓reduceIte, bk_int, bk_void, bk_long, bkN_int, bkN_void, bkN_long, Nat.reduceAdd, Nat.reduceMul, Nat.reduceSub, Nat.reduceLT, Nat.reduceLeDiff, if_true, if_false, not_true_eq_false, not_false_eq_true, Bool.true_eq_false, Bool.false_eq_true, b2_eq0, Nat.add_zero, Nat.zero_add, Nat.not_lt_zero, Nat.zero_le, ite_true, ite_false, decide_true, decide_false, lit_ii, of_ii, le_T, le_F, lt_T, lt_F, eq_T, eq_F, ii_add, ii_mul, ii_nat, ii_le, ii_lt, ii_eq, inR_ii, ii_add0]
  · have Fw : Fm (fun a j => a = 3980 ∧ j = 17) σ1 (wI σ1 3980 17 (vlN (bnN T n 0 301 (.inl p)))) := Fm.w Fm.rf ⟨rfl, rfl⟩
    have N2 := N1.fm Fw (fun j => by omega) (fun j z => by omega)
    have e : bnN T n 0 301 (.inl p) = numW T n 0 301 p := rfl
    rw [e] at N2 ⊢
    obtain ⟨b1, b2', b3, b4, b5, b6⟩ := N.rd F1
    cases hn : numW T n 0 301 p with
    | inr G =>
      rw [hn] at N2
      exact N2
    | inl z =>
      obtain ⟨p', v⟩ := z
      rw [hn] at N2
      exact ⟨N2, (gI_nj (by omega)).trans b1, (gI_nj (by omega)).trans b2', (gI_nj (by omega)).trans b3, gI_at, fun k hk => (gI_ne (by omega)).trans (b5 k hk), fun k hk => (gI_ne (by omega)).trans (b6 k hk)⟩
theorem h_K {d n q p : Nat} {T : Nat → Nat} {H : HH} {σ : HP} (A : RD σ T n p) (N : NH σ H) (hc8 : hc H < 8) : ∃ σ', callF (d + 7) m_Mo_readRow [.ref 3980, .int (ii (pkS 7))] σ = some (.inl none, σ') ∧ HQm σ' T n (hsK T n q (p, H)) ∧ Fm MhF σ σ' := by
  obtain ⟨σ1, e1, N1, F1⟩ := r_numX (d := d + 4) (lo := 1) (hi := 21) (st := .inl p) (show RX σ T n (.inl p) from A) pr20 (by omega) (by omega)
  have Fw : Fm (fun a j => a = 4248) σ1 (wI σ1 4248 (2 * hc H) (vlN (bnN T n 1 21 (.inl p)))) := Fm.w Fm.rf rfl
  have N1' := N1.fm Fw (fun j => by omega) (fun j z => by omega)
  obtain ⟨σ2, e2, N2, F2⟩ := r_numX (d := d + 4) (lo := 0) (hi := 10) N1' pr9 (by omega) (by omega)
  have n15 := N.2.1
  have n15a : gI (wI σ1 4248 (2 * hc H) (vlN (bnN T n 1 21 (.inl p)))) 3980 15 = ii (hc H) := (gI_ne (by omega)).trans ((F1.I (by unfold Mrd; omega)).trans n15)
  have n15b : gI (wI σ2 4248 (2 * hc H + 1) (vlN (bnN T n 0 10 (fsN (bnN T n 1 21 (.inl p)))))) 3980 15 = ii (hc H) := (gI_ne (by omega)).trans ((F2.I (by unfold Mrd; omega)).trans n15a)
  have F3 : Fm MhF σ (wI (wI σ2 4248 (2 * hc H + 1) (vlN (bnN T n 0 10 (fsN (bnN T n 1 21 (.inl p)))))) 3980 15 (ii (hc H + 1))) := ((((Mrd_hF F1).w (by unfold MhF; omega)).tr (Mrd_hF F2)).w (by unfold MhF; omega)).w (by unfold MhF; omega)
  refine ⟨_, ?_, ?_, F3⟩
  · have y1 : gR σ 3980 11 = some 4248 := A.1.2.2.2.1
    have y2 : gR σ1 3980 11 = some 4248 := N1.rf.2.2.2.1
    have a0 := A.1
    obtain ⟨z1, z9, z10, z11, z12, z13, z22, z23, z24, z25, z26, z29, z30, z31, z38, z39, z40, z41, z42, z44, z45, z46, z47, z49⟩ := id a0
    simp (disch := first | omega | exact ak27 | exact ak29 | exact ak20 | exact ak21 | exact ak22 | exact ak23 | exact ak24 | exact ak25 | exact ak28 | exact ak30 | exact ak31 | exact ak32 | exact ak33 | exact b2_01 _ | exact ii0_01 | exact ii1_01 | (simp (disch := omega) only [z1, z9, z10, z11, z12, z13, z22, z23, z24, z25, z26, z29, z30, z31, z38, z39, z40, z41, z42, z44, z45, z46, z47, z49, e1, e2, n15, n15a, n15b, y1, y2, dr_some, Option.isSome_some, gR_wI, Nat.add_mul_mod_self_left, Nat.reduceMod, ak20, ak21, ak22, ak23, ak24, ak25, ak26, ak27, ak28, ak29, ak30, ak31, ak32, ak33, ak34, ak35, ak36, an20, an21, an22, an23, an24, an25, an26, an27, an28, an29, an30, an31, an32, an33, an34, an35, an36, an37, an38, ne_eq, inR_ii, decide_eq_true_eq, lit_ii, of_ii, ii_eq, ii_lt, ii_le, ii_add, ii_mul, ii_sub, ii_pred, ii_nat]; first | done | omega)) only [z1, z9, z10, z11, z12, z13, z22, z23, z24, z25, z26, z29, z30, z31, z38, z39, z40, z41, z42, z44, z45, z46, z47, z49, e1, e2, n15, n15a, n15b, y1, y2, e_Mo_readRow, b_Mo_readRow_0, b_Mo_readRow_6, b_Mo_readRow_9, b_Mo_readRow_17, b_Mo_readRow_23, b_Mo_readRow_29, b_Mo_readRow_32, b_Mo_readRow_53, b_Mo_readRow_73, b_Mo_readRow_93, b_Mo_readRow_107, b_Mo_readRow_113, b_Mo_readRow_116, b_Mo_readRow_133, b_Mo_readRow_153, b_Mo_readRow_167, b_Mo_readRow_176, b_Mo_readRow_179, of_5, of_6, of_7, pv_5, pv_6, pv_7, Nat.reduceEqDiff, dr_some, Option.isSome_some, gR_wI, Nat.add_mul_mod_self_left, Nat.reduceMod, ak20, ak21, ak22, ak23, ak24, ak25, ak26, ak27, ak28, ak29, ak30, ak31, ak32, ak33, ak34, ak35, ak36, an20, an21, an22, an23, an24, an25, an26, an27, an28, an29, an30, an31, an32, an33, an34, an35, an36, an37, an38, ↓reduceIte, bk_int, bk_void, bk_long, bkN_int, bkN_void, bkN_long, Nat.reduceAdd, Nat.reduceMul, Nat.reduceSub, Nat.reduceLT, Nat.reduceLeDiff, if_true, if_false, not_true_eq_false, not_false_eq_true, Bool.true_eq_false, Bool.false_eq_true, b2_eq0, Nat.add_zero, Nat.zero_add, Nat.not_lt_zero, Nat.zero_le, ite_true, ite_false, decide_true, decide_false, lit_ii, of_ii, le_T, le_F, lt_T, lt_F, eq_T, eq_F, ii_add, ii_mul, ii_nat, ii_le, ii_lt, ii_eq, inR_ii, ii_add0]
  · have Fw2 : Fm (fun a j => a = 4248 ∨ (a = 3980 ∧ j = 15)) σ2 (wI (wI σ2 4248 (2 * hc H + 1) (vlN (bnN T n 0 10 (fsN (bnN T n 1 21 (.inl p)))))) 3980 15 (ii (hc H + 1))) := (Fm.w (Fm.w Fm.rf (by omega)) (by omega))
    have N3 := N2.fm Fw2 (fun j => by omega) (fun j z => by omega)
    obtain ⟨b1, b2', b3, b4, b5, b6⟩ := N
    unfold hsK
    rw [if_pos hc8]
    simp only
    have e : bnN T n 1 21 (.inl p) = numW T n 1 21 p := rfl
    rw [e] at N3 F3 F2 ⊢
    cases hn : numW T n 1 21 p with
    | inr G =>
      rw [hn] at N3
      exact N3
    | inl z =>
      obtain ⟨p1, v1⟩ := z
      rw [hn] at N3 F3 F2
      have e' : bnN T n 0 10 (fsN (.inl (p1, v1))) = numW T n 0 10 p1 := rfl
      rw [e'] at N3 F3 ⊢
      simp only
      cases hn2 : numW T n 0 10 p1 with
      | inr G =>
        rw [hn2] at N3
        exact N3
      | inl z =>
        obtain ⟨p2, v2⟩ := z
        rw [hn2] at N3 F3
        refine ⟨N3, ?_, gI_at, ?_, ?_, fun k hk => ?_, fun k hk => ?_⟩
        · rw [gI_nj (by omega), gI_ne (by omega), F2.I (by unfold Mrd; omega), gI_ne (by omega), F1.I (by unfold Mrd; omega)]
          exact b1
        · rw [gI_nj (by omega), gI_ne (by omega), F2.I (by unfold Mrd; omega), gI_ne (by omega), F1.I (by unfold Mrd; omega)]
          exact b3
        · rw [gI_nj (by omega), gI_ne (by omega), F2.I (by unfold Mrd; omega), gI_ne (by omega), F1.I (by unfold Mrd; omega)]
          exact b4
        · rw [gI_ne (by omega), gI_ne (by omega), F2.I (by unfold Mrd; omega), gI_ne (by omega), F1.I (by unfold Mrd; omega)]
          exact b5 k hk
        · have hk' : k < 2 * (hc H + 1) := hk
          show _ = ii (up1 (up1 H.2.2 (2 * hc H) v1) (2 * hc H + 1) v2 k)
          rw [gI_ne (by omega), gI_row]
          by_cases z1 : k = 2 * hc H + 1
          · rw [if_pos z1, z1, up1_at]
            rfl
          · rw [if_neg z1, up1_ne z1, F2.I (by unfold Mrd; omega), gI_row]
            by_cases z2 : k = 2 * hc H
            · rw [if_pos z2, z2, up1_at]
              rfl
            · rw [if_neg z2, up1_ne z2, F1.I (by unfold Mrd; omega)]
              exact b6 k (by omega)
theorem h_M {d n q p : Nat} {T : Nat → Nat} {H : HH} {σ : HP} (A : RD σ T n p) (N : NH σ H) (hm7 : hm H < 7) (hf9 : hf H ≤ 9999) : ∃ σ', callF (d + 7) m_Mo_readRow [.ref 3980, .int (ii (pkS 6))] σ = some (.inl none, σ') ∧ HQm σ' T n (hsM T n q (p, H)) ∧ Fm MhF σ σ' := by
  obtain ⟨σ1, e1, N1, F1⟩ := r_numX (d := d + 4) (lo := 0) (hi := hf H) (st := .inl p) (show RX σ T n (.inl p) from A) rfl (by omega) hf9
  have Fw : Fm (fun a j => a = 4185) σ1 (wI σ1 4185 (3 * hm H) (vlN (bnN T n 0 (hf H) (.inl p)))) := Fm.w Fm.rf rfl
  have N1' := N1.fm Fw (fun j => by omega) (fun j z => by omega)
  obtain ⟨σ2, e2, N2, F2⟩ := r_numX (d := d + 4) (lo := 1) (hi := 61) N1' pr60 (by omega) (by omega)
  have Fw2 : Fm (fun a j => a = 4185) σ2 (wI σ2 4185 (3 * hm H + 1) (vlN (bnN T n 1 61 (fsN (bnN T n 0 (hf H) (.inl p)))))) := Fm.w Fm.rf rfl
  have N2' := N2.fm Fw2 (fun j => by omega) (fun j z => by omega)
  obtain ⟨σ3, e3, N3, F3⟩ := r_numX (d := d + 4) (lo := 0) (hi := 10) N2' pr9 (by omega) (by omega)
  have n14 := N.1
  have n16 := N.2.2.1
  have n14a : gI (wI σ1 4185 (3 * hm H) (vlN (bnN T n 0 (hf H) (.inl p)))) 3980 14 = ii (hm H) := (gI_ne (by omega)).trans ((F1.I (by unfold Mrd; omega)).trans n14)
  have n14b : gI (wI σ2 4185 (3 * hm H + 1) (vlN (bnN T n 1 61 (fsN (bnN T n 0 (hf H) (.inl p)))))) 3980 14 = ii (hm H) := (gI_ne (by omega)).trans ((F2.I (by unfold Mrd; omega)).trans n14a)
  have n14c : gI (wI σ3 4185 (3 * hm H + 2) (vlN (bnN T n 0 10 (fsN (bnN T n 1 61 (fsN (bnN T n 0 (hf H) (.inl p)))))))) 3980 14 = ii (hm H) := (gI_ne (by omega)).trans ((F3.I (by unfold Mrd; omega)).trans n14b)
  have e16 : ii (hf H) - ii 1 = prI32 (hf H) := ii_pr (by omega)
  have F4 : Fm MhF σ (wI (wI σ3 4185 (3 * hm H + 2) (vlN (bnN T n 0 10 (fsN (bnN T n 1 61 (fsN (bnN T n 0 (hf H) (.inl p)))))))) 3980 14 (ii (hm H + 1))) := ((((((Mrd_hF F1).w (by unfold MhF; omega)).tr (Mrd_hF F2)).w (by unfold MhF; omega)).tr (Mrd_hF F3)).w (by unfold MhF; omega)).w (by unfold MhF; omega)
  refine ⟨_, ?_, ?_, F4⟩
  · have y1 : gR σ 3980 10 = some 4185 := A.1.2.2.1
    have y2 : gR σ1 3980 10 = some 4185 := N1.rf.2.2.1
    have y3 : gR σ2 3980 10 = some 4185 := N2.rf.2.2.1
    have a0 := A.1
    obtain ⟨z1, z9, z10, z11, z12, z13, z22, z23, z24, z25, z26, z29, z30, z31, z38, z39, z40, z41, z42, z44, z45, z46, z47, z49⟩ := id a0
    simp (disch := first | omega | exact ak27 | exact ak29 | exact ak20 | exact ak21 | exact ak22 | exact ak23 | exact ak24 | exact ak25 | exact ak28 | exact ak30 | exact ak31 | exact ak32 | exact ak33 | exact b2_01 _ | exact ii0_01 | exact ii1_01 | (simp (disch := omega) only [z1, z9, z10, z11, z12, z13, z22, z23, z24, z25, z26, z29, z30, z31, z38, z39, z40, z41, z42, z44, z45, z46, z47, z49, e1, e2, e3, n14, n16, n14a, n14b, n14c, e16, y1, y2, y3, dr_some, Option.isSome_some, gR_wI, Nat.add_mul_mod_self_left, Nat.reduceMod, ak20, ak21, ak22, ak23, ak24, ak25, ak26, ak27, ak28, ak29, ak30, ak31, ak32, ak33, ak34, ak35, ak36, an20, an21, an22, an23, an24, an25, an26, an27, an28, an29, an30, an31, an32, an33, an34, an35, an36, an37, an38, ne_eq, inR_ii, decide_eq_true_eq, lit_ii, of_ii, ii_eq, ii_lt, ii_le, ii_add, ii_mul, ii_sub, ii_pred, ii_nat]; first | done | omega)) only [z1, z9, z10, z11, z12, z13, z22, z23, z24, z25, z26, z29, z30, z31, z38, z39, z40, z41, z42, z44, z45, z46, z47, z49, e1, e2, e3, n14, n16, n14a, n14b, n14c, e16, y1, y2, y3, e_Mo_readRow, b_Mo_readRow_0, b_Mo_readRow_6, b_Mo_readRow_9, b_Mo_readRow_17, b_Mo_readRow_23, b_Mo_readRow_29, b_Mo_readRow_32, b_Mo_readRow_53, b_Mo_readRow_73, b_Mo_readRow_93, b_Mo_readRow_107, b_Mo_readRow_113, b_Mo_readRow_116, b_Mo_readRow_133, b_Mo_readRow_153, b_Mo_readRow_167, b_Mo_readRow_176, b_Mo_readRow_179, of_5, of_6, pv_5, pv_6, Nat.reduceEqDiff, dr_some, Option.isSome_some, gR_wI, Nat.add_mul_mod_self_left, Nat.reduceMod, ak20, ak21, ak22, ak23, ak24, ak25, ak26, ak27, ak28, ak29, ak30, ak31, ak32, ak33, ak34, ak35, ak36, an20, an21, an22, an23, an24, an25, an26, an27, an28, an29, an30, an31, an32, an33, an34, an35, an36, an37, an38, ↓reduceIte, bk_int, bk_void, bk_long, bkN_int, bkN_void, bkN_long, Nat.reduceAdd, Nat.reduceMul, Nat.reduceSub, Nat.reduceLT, Nat.reduceLeDiff, if_true, if_false, not_true_eq_false, not_false_eq_true, Bool.true_eq_false, Bool.false_eq_true, b2_eq0, Nat.add_zero, Nat.zero_add, Nat.not_lt_zero, Nat.zero_le, ite_true, ite_false, decide_true, decide_false, lit_ii, of_ii, le_T, le_F, lt_T, lt_F, eq_T, eq_F, ii_add, ii_mul, ii_nat, ii_le, ii_lt, ii_eq, inR_ii, ii_add0]
  · have Fw3 : Fm (fun a j => a = 4185 ∨ (a = 3980 ∧ j = 14)) σ3 (wI (wI σ3 4185 (3 * hm H + 2) (vlN (bnN T n 0 10 (fsN (bnN T n 1 61 (fsN (bnN T n 0 (hf H) (.inl p)))))))) 3980 14 (ii (hm H + 1))) := (Fm.w (Fm.w Fm.rf (by omega)) (by omega))
    have N4 := N3.fm Fw3 (fun j => by omega) (fun j z => by omega)
    obtain ⟨b1, b2', b3, b4, b5, b6⟩ := N
    unfold hsM
    rw [if_pos hm7]
    simp only
    have e : bnN T n 0 (hf H) (.inl p) = numW T n 0 (hf H) p := rfl
    rw [e] at N4 F2 F3 ⊢
    cases hn : numW T n 0 (hf H) p with
    | inr G =>
      rw [hn] at N4
      exact N4
    | inl z =>
      obtain ⟨p1, v1⟩ := z
      rw [hn] at N4 F2 F3
      have e' : bnN T n 1 61 (fsN (.inl (p1, v1))) = numW T n 1 61 p1 := rfl
      rw [e'] at N4 F3 ⊢
      simp only
      cases hn2 : numW T n 1 61 p1 with
      | inr G =>
        rw [hn2] at N4
        exact N4
      | inl z =>
        obtain ⟨p2, v2⟩ := z
        rw [hn2] at N4 F3
        have e'' : bnN T n 0 10 (fsN (.inl (p2, v2))) = numW T n 0 10 p2 := rfl
        rw [e''] at N4 ⊢
        simp only
        cases hn3 : numW T n 0 10 p2 with
        | inr G =>
          rw [hn3] at N4
          exact N4
        | inl z =>
          obtain ⟨p3, v3⟩ := z
          rw [hn3] at N4
          refine ⟨N4, gI_at, ?_, ?_, ?_, fun k hk => ?_, fun k hk => ?_⟩
          · rw [gI_nj (by omega), gI_ne (by omega), F3.I (by unfold Mrd; omega), gI_ne (by omega), F2.I (by unfold Mrd; omega), gI_ne (by omega), F1.I (by unfold Mrd; omega)]
            exact b2'
          · rw [gI_nj (by omega), gI_ne (by omega), F3.I (by unfold Mrd; omega), gI_ne (by omega), F2.I (by unfold Mrd; omega), gI_ne (by omega), F1.I (by unfold Mrd; omega)]
            exact b3
          · rw [gI_nj (by omega), gI_ne (by omega), F3.I (by unfold Mrd; omega), gI_ne (by omega), F2.I (by unfold Mrd; omega), gI_ne (by omega), F1.I (by unfold Mrd; omega)]
            exact b4
          · have hk' : k < 3 * (hm H + 1) := hk
            show _ = ii (up1 (up1 (up1 H.2.1 (3 * hm H) v1) (3 * hm H + 1) v2) (3 * hm H + 2) v3 k)
            rw [gI_ne (by omega), gI_row]
            by_cases z1 : k = 3 * hm H + 2
            · rw [if_pos z1, z1, up1_at]
              rfl
            · rw [if_neg z1, up1_ne z1, F3.I (by unfold Mrd; omega), gI_row]
              by_cases z2 : k = 3 * hm H + 1
              · rw [if_pos z2, z2, up1_at]
                rfl
              · rw [if_neg z2, up1_ne z2, F2.I (by unfold Mrd; omega), gI_row]
                by_cases z3 : k = 3 * hm H
                · rw [if_pos z3, z3, up1_at]
                  rfl
                · rw [if_neg z3, up1_ne z3, F1.I (by unfold Mrd; omega)]
                  exact b5 k (by omega)
          · rw [gI_ne (by omega), gI_ne (by omega), F3.I (by unfold Mrd; omega), gI_ne (by omega), F2.I (by unfold Mrd; omega), gI_ne (by omega), F1.I (by unfold Mrd; omega)]
            exact b6 k hk
