def byV (y : Int32) : Nat := y.toBitVec.toNat % 256
theorem byV_lt (y : Int32) : byV y < 256 := Nat.mod_lt _ (by decide)
theorem and255 (y : Int32) : y &&& ii 255 = ii (byV y) := by
  apply Int32.toBitVec_inj.mp
  apply BitVec.eq_of_toNat_eq
  have e1 : (y &&& ii 255).toBitVec.toNat = y.toBitVec.toNat &&& 255 := by
    rw [Int32.toBitVec_and, BitVec.toNat_and]
    rfl
  have e2 : (ii (byV y)).toBitVec.toNat = byV y % 2 ^ 32 := by
    show (Int32.ofNat (byV y)).toBitVec.toNat = _
    rw [Int32.toBitVec_ofNat', BitVec.toNat_ofNat]
  have := byV_lt y
  rw [e1, e2, Nat.mod_eq_of_lt (by omega)]
  exact Nat.and_two_pow_sub_one_eq_mod _ 8
theorem byV_byte (y : Int32) : byV (p_byte y) = byV y := by
  show ((y.toBitVec.signExtend 8).signExtend 32).toNat % 2 ^ 8 = y.toBitVec.toNat % 2 ^ 8
  apply Nat.eq_of_testBit_eq
  intro i
  rw [Nat.testBit_mod_two_pow, Nat.testBit_mod_two_pow, BitVec.testBit_toNat, BitVec.testBit_toNat, BitVec.getLsbD_signExtend, BitVec.getLsbD_signExtend]
  by_cases z : i < 8
  · have z2 : i < 32 := by omega
    simp [z, z2]
  · simp [z]
def fT (tp : TPE) (y : Int32) : TPE := (tp.1 + 1, fun i => if i = tp.1 then byV y else tp.2 i)
theorem CX.put {σ : HP} {h l l2 b bq : Nat} {H : HH} {w : LW} {D : DN} {tp : TPE} {ct : CNT} {B : BK} {pw : PW} {im : IMS} {y : Int32} (A : CX σ h l l2 b bq H w D tp ct B pw im) (ht : tp.1 < 600) : CX (wI (wI σ 164 tp.1 (p_byte (p_byte y))) 11 10 (ii (tp.1 + 1))) h l l2 b bq H w D (fT tp y) ct B pw im := by
  obtain ⟨cf, cn, cr, ⟨i1, i2, i3, i4, i5⟩, cl, ba, pa, ta, m0, t1, t2, t3⟩ := A
  obtain ⟨n1, n2, n3, n4, n5⟩ := id cn
  have F : Fs (fun a => a = 11 ∨ a = 164) σ (wI (wI σ 164 tp.1 (p_byte (p_byte y))) 11 10 (ii (tp.1 + 1))) := Fs.w (Fs.w Fs.rf (Or.inr rfl)) (Or.inl rfl)
  refine ⟨cf.of (fun a k _ => rfl), cn, cr, ⟨gI_at, by rw [gI_nj (by decide), gI_ne (by decide)]; exact i2, by rw [gI_nj (by decide), gI_ne (by decide)]; exact i3, by rw [gI_nj (by decide), gI_ne (by decide)]; exact i4, by rw [gI_nj (by decide), gI_ne (by decide)]; exact i5⟩, cl.fs F (fun a x y z => by omega) (fun a x y z => by omega) (fun a x y z => by omega), ba.fx F.x (by omega) (by omega) (by omega), pa.fx F.x n3 (by omega) (by omega) (by omega) (fun x y z => by omega), fun i hi => ?_, (F.I (by omega)).trans m0, by show tp.1 + 1 ≤ 600; omega, t2, t3⟩
  rw [gI_ne (by decide), gI_row]
  show (if i = tp.1 then _ else _) &&& ii 255 = ii (if i = tp.1 then byV y else tp.2 i) ∧ (if i = tp.1 then byV y else tp.2 i) < 256
  by_cases z : i = tp.1
  · rw [if_pos z, if_pos z, and255, byV_byte, byV_byte]
    exact ⟨rfl, byV_lt y⟩
  · rw [if_neg z, if_neg z]
    exact ta i hi
def f4 (tp : TPE) (x : Int32) : TPE := fT (fT (fT (fT tp (p_shr x (ii 24))) (p_shr x (ii 16))) (p_shr x (ii 8))) (p_shr x (ii 0))
theorem s_put4 {d : Nat} {σ : HP} {h l l2 b bq : Nat} {H : HH} {w : LW} {D : DN} {tp : TPE} {ct : CNT} {B : BK} {pw : PW} {im : IMS} (A : CX σ h l l2 b bq H w D tp ct B pw im) (x : Int32) (ht : tp.1 + 4 ≤ 600) : ∃ σ', callF (d + 1) m_PL_putFourBytes [.ref 11, .int x] σ = some (.inl none, σ') ∧ CX σ' h l l2 b bq H w D (f4 tp x) ct B pw im ∧ Fs (fun a => a = 11 ∨ a = 164) σ σ' := by
  have key : ∀ (k : Nat) (tp : TPE) (τ : HP), tp.1 < 600 → CX τ h l l2 b bq H w D tp ct B pw im → runF (callF d) d m_PL_putFourBytes (15, [some (.ref 11), some (.int x), some (.ref 164), some (.int (ii k))], [], τ) = runF (callF d) d m_PL_putFourBytes (11, [some (.ref 11), some (.int x), some (.ref 164), some (.int (ii k + -8))], [], wI (wI τ 164 tp.1 (p_byte (p_byte (p_shr x (ii k))))) 11 10 (ii (tp.1 + 1))) := by
    intro k tp τ ht A
    obtain ⟨⟨⟨x0, x1, x2, x3, x4, x5, x6, x7⟩, y1, y2, y3, y4, y7, y8, y9, y10⟩, cn, ⟨r8, r9, r10⟩, ⟨i1, i2, i3, i4, i5⟩, cl, ba, pa, ta, m0, t1, t2, t3⟩ := id A; obtain ⟨⟨c0, c1, c2⟩, ⟨v0, v1, v2, v3⟩, ⟨g4, g5, g6, g7⟩, dw4, dw5, dw6, dw7⟩ := nn cl; obtain ⟨q0, q1, q2, q3, q4, q5, q6, q7, q8, hv4, hv5, hv6, hv7, hv8⟩ := id cl.2.2.2.1; have hh := cl.wh.1
    have g2 : ∀ v, gI (wI τ 164 tp.1 v) 11 10 = ii tp.1 := fun v => (gI_ne (by decide)).trans i1
    have e31 := b_PL_putFourBytes_31 (C := callF d) (d := d) (σ := τ) (a0 := 11) (x1 := x) (a2 := 164) (x3 := ii k) rfl rfl (by rw [i1, inR_ii (by omega)]; exact decide_eq_true (show tp.1 < 600 from ht))
    simp (disch := first | omega | exact b2_01 _ | exact ii0_01 | exact ii1_01 | (simp (disch := omega) only [x0, i1, dr_some, Option.isSome_some, gR_wI, Nat.add_mul_mod_self_left, Nat.reduceMod, ak20, ak21, ak22, ak23, ak24, ak25, ak26, ak27, ak28, ak29, ak30, ak31, ak32, ak33, ak34, ak35, ak36, an20, an21, an22, an23, an24, an25, an26, an27, an28, an29, an30, an31, an32, an33, an34, an35, an36, an37, an38, ne_eq, inR_ii, decide_eq_true_eq, lit_ii, of_ii, ii_eq, ii_lt, ii_le]; first | done | omega)) only [x0, i1, b_PL_putFourBytes_15, b_PL_putFourBytes_22, e31, b_PL_putFourBytes_51, g2, dr_some, Option.isSome_some, gR_wI, Nat.add_mul_mod_self_left, Nat.reduceMod, ak20, ak21, ak22, ak23, ak24, ak25, ak26, ak27, ak28, ak29, ak30, ak31, ak32, ak33, ak34, ak35, ak36, an20, an21, an22, an23, an24, an25, an26, an27, an28, an29, an30, an31, an32, an33, an34, an35, an36, an37, an38, ↓reduceIte, bk_int, bk_void, bk_long, bkN_int, bkN_void, bkN_long, Nat.reduceAdd, Nat.reduceMul, Nat.reduceSub, Nat.reduceLT, Nat.reduceLeDiff, if_true, if_false, not_true_eq_false, not_false_eq_true, Bool.true_eq_false, Bool.false_eq_true, b2_eq0, Nat.add_zero, Nat.zero_add, Nat.not_lt_zero, Nat.zero_le, ite_true, ite_false, decide_true, decide_false, lit_ii, of_ii, le_T, le_F, lt_T, lt_F, eq_T, eq_F, ii_add, ii_mul, ii_nat, ii_le, ii_lt, ii_eq, inR_ii, ii_add0]
  have A1 := A.put (y := p_shr x (ii 24)) (by omega)
  have A2 := A1.put (y := p_shr x (ii 16)) (by show tp.1 + 1 < 600; omega)
  have A3 := A2.put (y := p_shr x (ii 8)) (by show tp.1 + 1 + 1 < 600; omega)
  have A4 := A3.put (y := p_shr x (ii 0)) (by show tp.1 + 1 + 1 + 1 < 600; omega)
  refine ⟨_, ?_, A4, Fs.w (Fs.w (Fs.w (Fs.w (Fs.w (Fs.w (Fs.w (Fs.w Fs.rf (Or.inr rfl)) (Or.inl rfl)) (Or.inr rfl)) (Or.inl rfl)) (Or.inr rfl)) (Or.inl rfl)) (Or.inr rfl)) (Or.inl rfl)⟩
  have x0 : gR σ 71 0 = some 164 := A.1.1.1
  have x1 : gR σ 11 0 = some 71 := A.1.1.2.1
  have e0 : callF (d + 1) m_PL_putFourBytes [.ref 11, .int x] σ = runF (callF d) d m_PL_putFourBytes (11, [some (.ref 11), some (.int x), some (.ref 164), some (.int 24)], [], σ) := by
    rw [e_PL_putFourBytes, b_PL_putFourBytes_0 (by decide) (by rw [x1]; rfl) (by rw [x1]; decide) (by rw [x1]; exact congrArg Option.isSome x0), x1, dr_some, x0, dr_some]
  rw [e0, b_PL_putFourBytes_11, if_neg (by decide), show (24 : Int32) = ii 24 from rfl, key 24 tp σ (by omega) A, show ii 24 + -8 = ii 16 by decide, b_PL_putFourBytes_11, if_neg (by decide), key 16 _ _ (by show tp.1 + 1 < 600; omega) A1, show ii 16 + -8 = ii 8 by decide, b_PL_putFourBytes_11, if_neg (by decide), key 8 _ _ (by show tp.1 + 1 + 1 < 600; omega) A2, show ii 8 + -8 = ii 0 by decide, b_PL_putFourBytes_11, if_neg (by decide), key 0 _ _ (by show tp.1 + 1 + 1 + 1 < 600; omega) A3, b_PL_putFourBytes_11, if_pos (by decide), b_PL_putFourBytes_57]
def f20 (tp : TPE) (u1 u2 u3 u4 u5 : Int32) : TPE := f4 (f4 (f4 (f4 (f4 tp u1) u2) u3) u4) u5
theorem z_feed {d : Nat} {σ : HP} {h l l2 b bq : Nat} {H : HH} {w : LW} {D : DN} {tp : TPE} {ct : CNT} {B : BK} {pw : PW} {im : IMS} (A : CX σ h l l2 b bq H w D tp ct B pw im) (u1 u2 u3 u4 u5 : Int32) : if tp.1 + 20 ≤ 600 then PQ σ (callF (d + 70) m_PL_feed [.ref 11, .int u1, .int u2, .int u3, .int u4, .int u5] σ) (ii (tp.1 + 20)) (fun τ => CX τ h l l2 b bq H w D (f20 tp u1 u2 u3 u4 u5) ct B pw im) else callF (d + 70) m_PL_feed [.ref 11, .int u1, .int u2, .int u3, .int u4, .int u5] σ = some (.inl (some (.int (-ii 1))), σ) := by
  have ht := A.2.2.2.2.2.2.2.2.2.1
  by_cases z : tp.1 + 20 ≤ 600
  · rw [if_pos z]
    obtain ⟨σ1, e1, A1, F1⟩ := s_put4 (d := d + 68) A u1 (by omega)
    obtain ⟨σ2, e2, A2, F2⟩ := s_put4 (d := d + 68) A1 u2 (by show tp.1 + 1 + 1 + 1 + 1 + 4 ≤ 600; omega)
    obtain ⟨σ3, e3, A3, F3⟩ := s_put4 (d := d + 68) A2 u3 (by show tp.1 + 1 + 1 + 1 + 1 + 1 + 1 + 1 + 1 + 4 ≤ 600; omega)
    obtain ⟨σ4, e4, A4, F4⟩ := s_put4 (d := d + 68) A3 u4 (by show tp.1 + 1 + 1 + 1 + 1 + 1 + 1 + 1 + 1 + 1 + 1 + 1 + 1 + 4 ≤ 600; omega)
    obtain ⟨σ5, e5, A5, F5⟩ := s_put4 (d := d + 68) A4 u5 (by show tp.1 + 1 + 1 + 1 + 1 + 1 + 1 + 1 + 1 + 1 + 1 + 1 + 1 + 1 + 1 + 1 + 1 + 4 ≤ 600; omega)
    have F := (((F1.tr F2).tr F3).tr F4).tr F5
    refine ⟨σ5, ?_, OKc.fs F (fun a z => by unfold Cls; omega), A5⟩
    have i5 : gI σ5 11 10 = ii (tp.1 + 20) := A5.2.2.2.1.1
    have i0 := A.2.2.2.1.1
    simp (disch := first | omega | exact b2_01 _ | exact ii0_01 | exact ii1_01 | (simp (disch := omega) only [i0, i5, dr_some, Option.isSome_some, gR_wI, Nat.add_mul_mod_self_left, Nat.reduceMod, ak20, ak21, ak22, ak23, ak24, ak25, ak26, ak27, ak28, ak29, ak30, ak31, ak32, ak33, ak34, ak35, ak36, an20, an21, an22, an23, an24, an25, an26, an27, an28, an29, an30, an31, an32, an33, an34, an35, an36, an37, an38, ne_eq, inR_ii, decide_eq_true_eq, lit_ii, of_ii, ii_eq, ii_lt, ii_le]; first | done | omega)) only [i0, i5, e_PL_feed, b_PL_feed_0, b_PL_feed_13, b_PL_feed_15, b_PL_feed_20, b_PL_feed_25, b_PL_feed_30, b_PL_feed_36, b_PL_feed_42, e1, e2, e3, e4, e5, dr_some, Option.isSome_some, gR_wI, Nat.add_mul_mod_self_left, Nat.reduceMod, ak20, ak21, ak22, ak23, ak24, ak25, ak26, ak27, ak28, ak29, ak30, ak31, ak32, ak33, ak34, ak35, ak36, an20, an21, an22, an23, an24, an25, an26, an27, an28, an29, an30, an31, an32, an33, an34, an35, an36, an37, an38, ↓reduceIte, bk_int, bk_void, bk_long, bkN_int, bkN_void, bkN_long, Nat.reduceAdd, Nat.reduceMul, Nat.reduceSub, Nat.reduceLT, Nat.reduceLeDiff, if_true, if_false, not_true_eq_false, not_false_eq_true, Bool.true_eq_false, Bool.false_eq_true, b2_eq0, Nat.add_zero, Nat.zero_add, Nat.not_lt_zero, Nat.zero_le, ite_true, ite_false, decide_true, decide_false, lit_ii, of_ii, le_T, le_F, lt_T, lt_F, eq_T, eq_F, ii_add, ii_mul, ii_nat, ii_le, ii_lt, ii_eq, inR_ii, ii_add0]
  · rw [if_neg z]
    have i0 := A.2.2.2.1.1
    simp (disch := first | omega | exact b2_01 _ | exact ii0_01 | exact ii1_01 | (simp (disch := omega) only [i0, dr_some, Option.isSome_some, gR_wI, Nat.add_mul_mod_self_left, Nat.reduceMod, ak20, ak21, ak22, ak23, ak24, ak25, ak26, ak27, ak28, ak29, ak30, ak31, ak32, ak33, ak34, ak35, ak36, an20, an21, an22, an23, an24, an25, an26, an27, an28, an29, an30, an31, an32, an33, an34, an35, an36, an37, an38, ne_eq, inR_ii, decide_eq_true_eq, lit_ii, of_ii, ii_eq, ii_lt, ii_le]; first | done | omega)) only [i0, b_PL_feed_0, b_PL_feed_13, e_PL_feed, z, dr_some, Option.isSome_some, gR_wI, Nat.add_mul_mod_self_left, Nat.reduceMod, ak20, ak21, ak22, ak23, ak24, ak25, ak26, ak27, ak28, ak29, ak30, ak31, ak32, ak33, ak34, ak35, ak36, an20, an21, an22, an23, an24, an25, an26, an27, an28, an29, an30, an31, an32, an33, an34, an35, an36, an37, an38, ↓reduceIte, bk_int, bk_void, bk_long, bkN_int, bkN_void, bkN_long, Nat.reduceAdd, Nat.reduceMul, Nat.reduceSub, Nat.reduceLT, Nat.reduceLeDiff, if_true, if_false, not_true_eq_false, not_false_eq_true, Bool.true_eq_false, Bool.false_eq_true, b2_eq0, Nat.add_zero, Nat.zero_add, Nat.not_lt_zero, Nat.zero_le, ite_true, ite_false, decide_true, decide_false, lit_ii, of_ii, le_T, le_F, lt_T, lt_F, eq_T, eq_F, ii_add, ii_mul, ii_nat, ii_le, ii_lt, ii_eq, inR_ii, ii_add0]
