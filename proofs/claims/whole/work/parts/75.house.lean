theorem Fx.nq {S S' : Nat → Prop} {σ σ' : HP} (h : Fx S σ σ') (q : ∀ a, a / 64 < hN σ → S a → S' a) : Fx S' σ σ' := ⟨h.1, h.2.1, fun a x z => h.2.2 a x (fun y => z (q a x y))⟩
def hsH (H : HH) (r : PR HsT) : HH := match r with
  | .inl s => s.2
  | .inr _ => H
/-- what is left of the old when another house is moved into -/
theorem z_house0 {d : Nat} {σ : HP} {h l l2 b bq : Nat} {H : HH} {w : LW} {D : DN} {tp : TPE} {ct : CNT} {B : BK} {pw : PW} {im : IMS} (A : CX σ h l l2 b bq H w D tp ct B pw im) (x : Int32) : if inrg 0 (min 600 tp.1) x then (∃ (σ2 : HP) (N : Nat), callF (d + 70) m_PL_house [.ref 11, .int x] σ = runF (callF (d + 69)) (d + 69) m_PL_house (24, [some (.ref 11), some (.int x), some (.ref (2 + 64 * N))], [], σ2) ∧ 88 ≤ N ∧ N = hN σ ∧ CX σ2 h l l2 b bq H w D (0, tp.2) ct B pw im ∧ (match hsAll tp.2 x.toNatClampNeg with
    | .inl s => (∃ u, RS σ2 tp.2 x.toNatClampNeg s.1 none u) ∧ HA σ2 N s.2
    | .inr F => ∃ p u, RS σ2 tp.2 x.toNatClampNeg p (some F) u) ∧ Fx Cls σ σ2 ∧ hN σ2 = hN σ + 6 ∧ hS σ2 = hS σ + 46) else callF (d + 70) m_PL_house [.ref 11, .int x] σ = some (.inr 1, rfA σ (ct.2.2.2 + 1)) := by
  have o := s_openText (d := d + 46) A x (lim := 600) (by omega)
  cases hb : inrg 0 (min 600 tp.1) x with
  | false =>
    rw [hb, if_neg (by decide)] at o
    rw [if_neg (by decide)]
    simp (disch := first | omega | exact b2_01 _ | exact ii0_01 | exact ii1_01 | (simp (disch := omega) only [o, dr_some, Option.isSome_some, gR_wI, Nat.add_mul_mod_self_left, Nat.reduceMod, ak20, ak21, ak22, ak23, ak24, ak25, ak26, ak27, ak28, ak29, ak30, ak31, ak32, ak33, ak34, ak35, ak36, an20, an21, an22, an23, an24, an25, an26, an27, an28, an29, an30, an31, an32, an33, an34, an35, an36, an37, an38, ne_eq, inR_ii, decide_eq_true_eq, lit_ii, of_ii, ii_eq, ii_lt, ii_le]; first | done | omega)) only [o, e_PL_house, b_PL_house_0, o, bk_thr (m := m_PL_house) rfl, dr_some, Option.isSome_some, gR_wI, Nat.add_mul_mod_self_left, Nat.reduceMod, ak20, ak21, ak22, ak23, ak24, ak25, ak26, ak27, ak28, ak29, ak30, ak31, ak32, ak33, ak34, ak35, ak36, an20, an21, an22, an23, an24, an25, an26, an27, an28, an29, an30, an31, an32, an33, an34, an35, an36, an37, an38, ↓reduceIte, bk_int, bk_void, bk_long, bkN_int, bkN_void, bkN_long, Nat.reduceAdd, Nat.reduceMul, Nat.reduceSub, Nat.reduceLT, Nat.reduceLeDiff, if_true, if_false, not_true_eq_false, not_false_eq_true, Bool.true_eq_false, Bool.false_eq_true, b2_eq0, Nat.add_zero, Nat.zero_add, Nat.not_lt_zero, Nat.zero_le, ite_true, ite_false, decide_true, decide_false, lit_ii, of_ii, le_T, le_F, lt_T, lt_F, eq_T, eq_F, ii_add, ii_mul, ii_nat, ii_le, ii_lt, ii_eq, inR_ii, ii_add0]
  | true =>
    rw [hb, if_pos rfl] at o
    rw [if_pos rfl]
    obtain ⟨n, -, hn, rfl⟩ := inrg_T hb (by omega) (by omega)
    rw [ii_nat (by omega)] at o ⊢
    obtain ⟨σ1, e1, A1, R1, F1⟩ := o
    have n3 := A1.2.1.2.2.1
    have n2 := A1.2.1.2.1
    have n4 := A1.2.1.2.2.2.1
    have n5 := A1.2.1.2.2.2.2
    have n1 := A1.2.1.1
    obtain ⟨N, hN0⟩ : ∃ N, hN σ1 = N := ⟨_, rfl⟩
    have hN1 : hN σ1 = hN σ := F1.N
    have hS1 : hS σ1 = hS σ := F1.Z
    obtain ⟨σ2, e2, H2, k2, z2, F2⟩ := s_houseInit (d := d + 68) hN0
    have F2' : Fx (fun a => a = 71) σ1 σ2 := F2.nw (fun a x => by omega)
    have R2 := R1.fx (F2.nw (S' := fun _ => False) (fun a x => by omega)) n3 (fun z => z) (fun z => z)
    obtain ⟨σ3, e3, Q3, F3⟩ := s_readClauses (d := d + 60) R2 H2 (by omega)
    have F3' : Fx (fun a => a = 71) σ1 σ3 := Fx.nq (S := fun a => N ≤ a / 64 ∨ a = 71) ((F2.mono (fun a z => Or.inl z)).tr (F3.x.mono (fun a z => by unfold SHs at z; omega))) (fun a x y => by omega)
    have A3 : CX σ3 h l l2 b bq H w D (0, tp.2) ct B pw im := A1.sc F3' (fun a z => by omega) (fun a j k => ?_) (A1.2.2.2.2.2.1.fx F3' (by omega) (fun z => by omega) (fun z => by omega)) ((F3'.I (by omega) (fun z => by omega)).trans A1.2.2.2.2.2.2.2.2.1)
    · refine ⟨σ3, N, ?_, by omega, by omega, A3, Q3, (F1.x.mono (fun a z => by unfold Cls; omega)).tr (F3'.mono (fun a z => by unfold Cls; omega)), ?_, ?_⟩
      · have x1 := A1.1.1.2.1
        have x1' : gR σ2 11 0 = some 71 := (F2.R (by omega) (fun z => by omega)).trans x1
        simp (disch := first | omega | exact b2_01 _ | exact ii0_01 | exact ii1_01 | (simp (disch := omega) only [x1, x1', hN0, dr_some, Option.isSome_some, gR_wI, Nat.add_mul_mod_self_left, Nat.reduceMod, ak20, ak21, ak22, ak23, ak24, ak25, ak26, ak27, ak28, ak29, ak30, ak31, ak32, ak33, ak34, ak35, ak36, an20, an21, an22, an23, an24, an25, an26, an27, an28, an29, an30, an31, an32, an33, an34, an35, an36, an37, an38, ne_eq, inR_ii, decide_eq_true_eq, lit_ii, of_ii, ii_eq, ii_lt, ii_le]; first | done | omega)) only [x1, x1', hN0, e_PL_house, b_PL_house_0, b_PL_house_8, b_PL_house_15, e1, e2, e3, dr_some, Option.isSome_some, gR_wI, Nat.add_mul_mod_self_left, Nat.reduceMod, ak20, ak21, ak22, ak23, ak24, ak25, ak26, ak27, ak28, ak29, ak30, ak31, ak32, ak33, ak34, ak35, ak36, an20, an21, an22, an23, an24, an25, an26, an27, an28, an29, an30, an31, an32, an33, an34, an35, an36, an37, an38, ↓reduceIte, bk_int, bk_void, bk_long, bkN_int, bkN_void, bkN_long, Nat.reduceAdd, Nat.reduceMul, Nat.reduceSub, Nat.reduceLT, Nat.reduceLeDiff, if_true, if_false, not_true_eq_false, not_false_eq_true, Bool.true_eq_false, Bool.false_eq_true, b2_eq0, Nat.add_zero, Nat.zero_add, Nat.not_lt_zero, Nat.zero_le, ite_true, ite_false, decide_true, decide_false, lit_ii, of_ii, le_T, le_F, lt_T, lt_F, eq_T, eq_F, ii_add, ii_mul, ii_nat, ii_le, ii_lt, ii_eq, inR_ii, ii_add0]
      · rw [F3.N]; omega
      · rw [F3.Z]; omega
    · by_cases z : a = 71
      · rw [F3.R, F2.R (by omega) (fun z => by omega)]
      · exact F3'.R (by unfold kc at k; omega) z
