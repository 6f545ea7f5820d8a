/-! draws -/
def nxt (x : Int32) : Int32 := x * ii 1103515245 + ii 12345
def drwI (x : Int32) : Int32 := p_shr x (ii 16) &&& ii 32767
def drw (x : Int32) : Nat := (drwI x).toNatClampNeg
theorem and_small (x : Int32) : 0 ≤ (x &&& ii 32767) ∧ (x &&& ii 32767).toNatClampNeg ≤ 32767 := by
  have h : (x &&& ii 32767).toBitVec.toNat = x.toBitVec.toNat &&& 32767 := by
    rw [Int32.toBitVec_and, BitVec.toNat_and]
    rfl
  have h2 : x.toBitVec.toNat &&& 32767 ≤ 32767 := Nat.and_le_right
  have h3 : (x &&& ii 32767).toInt = ((x.toBitVec.toNat &&& 32767 : Nat) : Int) := by
    show (x &&& ii 32767).toBitVec.toInt = _
    rw [BitVec.toInt_eq_toNat_of_lt (by omega), h]
  constructor
  · rw [Int32.le_iff_toInt_le, h3]
    exact Int.natCast_nonneg _
  · unfold Int32.toNatClampNeg
    rw [h3]
    omega
theorem drw_le (x : Int32) : drw x ≤ 32767 := (and_small _).2
theorem drw_ii (x : Int32) : drwI x = ii (drw x) := (Int32.ofNat_toNatClampNeg _ (and_small _).1).symm
theorem ushr_shr (x : Int32) : p_ushr x (ii 16) &&& ii 32767 = drwI x := by
  apply Int32.toBitVec_inj.mp
  apply BitVec.eq_of_getLsbD_eq
  intro i hi
  unfold drwI p_shr p_ushr
  have e : ii 16 &&& 31 = ii 16 := by decide
  rw [e]
  rw [Int32.toBitVec_and, Int32.toBitVec_and, BitVec.getLsbD_and, BitVec.getLsbD_and]
  by_cases q : i < 15
  · congr 1
    have e1 : (x >>> ii 16).toBitVec = x.toBitVec.sshiftRight 16 := by
      rw [Int32.toBitVec_shiftRight]
      rfl
    have e2 : ((x.toUInt32 >>> ((ii 16).toUInt32 &&& Int32.toUInt32 31)).toInt32).toBitVec = x.toBitVec >>> 16 := by
      show (x.toUInt32 >>> ((ii 16).toUInt32 &&& Int32.toUInt32 31)).toBitVec = _
      rw [UInt32.toBitVec_shiftRight]
      rfl
    rw [e1, e2, BitVec.getLsbD_sshiftRight, BitVec.getLsbD_ushiftRight]
    simp [show ¬ 32 ≤ i by omega, show 16 + i < 32 by omega]
  · have : (ii 32767).toBitVec.getLsbD i = false := by
      have : ∀ i, i < 32 → 15 ≤ i → (ii 32767).toBitVec.getLsbD i = false := by decide +kernel
      exact this i hi (by omega)
    rw [this, Bool.and_false, Bool.and_false]
theorem s_draw {d u n : Nat} {x : Int32} {σ : HP} (hx : gI σ (9 + 64 * u) 0 = x) (h0 : 0 < n) (hn : n < 1000) : callF (d + 1) m_Week_draw [.ref (9 + 64 * u), .int (ii n)] σ = some (.inl (some (.int (ii (drw (nxt x) % n)))), wI σ (9 + 64 * u) 0 (nxt x)) := by
  have h2 := drw_le (nxt x)
  have e1 : x * ii 1103515245 + ii 12345 = nxt x := rfl
  simp (disch := first | omega | exact b2_01 _ | exact ii0_01 | exact ii1_01 | (simp (disch := omega) only [hx, dr_some, Option.isSome_some, gR_wI, Nat.add_mul_mod_self_left, Nat.reduceMod, ak20, ak21, ak22, ak23, ak24, ak25, ak26, ak27, ak28, ak29, ak30, ak31, ak32, ak33, ak34, ak35, ak36, an20, an21, an22, an23, an24, an25, an26, an27, an28, an29, an30, an31, an32, an33, an34, an35, an36, an37, an38, ne_eq, inR_ii, decide_eq_true_eq, lit_ii, of_ii, ii_eq, ii_lt, ii_le]; first | done | omega)) only [hx, e_Week_draw, b_Week_draw_0, b_Week_draw_31, b_Week_draw_37, b_Week_draw_38, gI_at, e1, ushr_shr, drw_ii, ii_rem, dr_some, Option.isSome_some, gR_wI, Nat.add_mul_mod_self_left, Nat.reduceMod, ak20, ak21, ak22, ak23, ak24, ak25, ak26, ak27, ak28, ak29, ak30, ak31, ak32, ak33, ak34, ak35, ak36, an20, an21, an22, an23, an24, an25, an26, an27, an28, an29, an30, an31, an32, an33, an34, an35, an36, an37, an38, ↓reduceIte, bk_int, bk_void, bk_long, bkN_int, bkN_void, bkN_long, Nat.reduceAdd, Nat.reduceMul, Nat.reduceSub, Nat.reduceLT, Nat.reduceLeDiff, if_true, if_false, not_true_eq_false, not_false_eq_true, Bool.true_eq_false, Bool.false_eq_true, b2_eq0, Nat.add_zero, Nat.zero_add, Nat.not_lt_zero, Nat.zero_le, ite_true, ite_false, decide_true, decide_false, lit_ii, of_ii, le_T, le_F, lt_T, lt_F, eq_T, eq_F, ii_add, ii_mul, ii_nat, ii_le, ii_lt, ii_eq, inR_ii, ii_add0]
abbrev DS : Type := (Nat → Nat) × Int32
def onceN (H : HH) (w : LW) (q : Nat) (z : DS) : DS := if hm H = 0 ∨ hc H = 0 then z else
  let m := drw (nxt z.2) % hm H
  let D1 := sayN H w z.1 m (drw (nxt (nxt z.2)) % hc H)
  let D2 := if entB D1 m then entN D1 m else leaN D1 m
  let D3 := goN H D2
  (if drw (nxt (nxt (nxt z.2))) % 16 < q then insN H D3 m else D3, nxt (nxt (nxt z.2)))
def it {α : Type} (f : α → α) : Nat → α → α
  | 0, z => z
  | n + 1, z => f (it f n z)
def dayN (H : HH) (w : LW) (q : Nat) (z : DS) : DS := ((nigN H (it (onceN H w q) 4 z).1), (it (onceN H w q) 4 z).2)
def weekN (H : HH) (w : LW) (q n : Nat) (z : DS) : DS := it (dayN H w q) n z
/-- what a week of the trial lift uses up -/
def Sw (l s u a : Nat) : Prop := Sd l s a ∨ a = 9 + 64 * u
theorem CL.sw {σ : HP} {t h l s u : Nat} {v : Int32} {H : HH} {w : LW} {D : Nat → Nat} (A : CL σ t h l s H w D) (hu : (u < h ∨ h + 5 < u) ∧ (u < s ∨ s + 4 < u) ∧ (u < l ∨ l + 3 < u)) : CL (wI σ (9 + 64 * u) 0 v) t h l s H w D :=
  A.fs (S := fun a => a = 9 + 64 * u) (Fs.w Fs.rf rfl) (fun a x y z => by omega) (fun a x y z => by omega) (fun a x y z => by omega)
def WkA (σ : HP) (u : Nat) (x : Int32) : Prop := gI σ (9 + 64 * u) 0 = x
theorem WkA.fs {σ σ' : HP} {u l s : Nat} {x : Int32} (A : WkA σ u x) (F : Fs (Sd l s) σ σ') (hu : (u < s ∨ s + 4 < u) ∧ (u < l ∨ l + 3 < u)) : WkA σ' u x :=
  (F.I (fun z => by unfold Sd at z; omega)).trans A
theorem WkA.nx {σ : HP} {u : Nat} {y : Int32} : WkA (wI σ (9 + 64 * u) 0 y) u y := gI_at
theorem s_doOnce {u q d t h l s : Nat} {H : HH} {w : LW} {D : Nat → Nat} {σ : HP} (L : CL σ t h l s H w D) (x : Int32) (W : WkA σ u x) (hq : q ≤ 16) (hu : (u < h ∨ h + 5 < u) ∧ (u < s ∨ s + 4 < u) ∧ (u < l ∨ l + 3 < u)) : ∃ σ', callF (d + 6) m_Week_doOnce [.ref (9 + 64 * u), .ref (5 + 64 * t), .int (ii q)] σ = some (.inl none, σ') ∧ CL σ' t h l s H w (onceN H w q (D, x)).1 ∧ WkA σ' u (onceN H w q (D, x)).2 ∧ Fs (Sw l s u) σ σ' := by
  have h7 := L.wh.1
  by_cases h0 : hm H = 0 ∨ hc H = 0
  · have e0 : onceN H w q (D, x) = (D, x) := by unfold onceN; rw [if_pos h0]
    rw [e0]
    refine ⟨σ, ?_, L, W, Fs.rf⟩
    obtain ⟨qP, qL, qD, ⟨hF, hM, hC, hPi, hr4, hr5, hr6, hr7, hr8, hv4, hv5, hv6, hv7, hv8⟩, ⟨dv0, dv1, dv2, dv3, dr4, dr5, dr6, dr7, dw4, dw5, dw6, dw7⟩, ⟨lr0, lr1, lr2, lv3, lw0⟩, ⟨⟨hw1, hw2, hw3, hw4, hw5⟩, hwm, hwc⟩, ⟨wd1, wd2, wd3⟩, wl, hap1, hap2, hap3⟩ := L
    by_cases h1 : hm H = 0
    · simp (disch := first | omega | exact b2_01 _ | exact ii0_01 | exact ii1_01 | (simp (disch := omega) only [qP, qL, qD, hF, hM, hC, hPi, hr4, hr5, hr6, hr7, hr8, dv0, dv1, dv2, dv3, dr4, dr5, dr6, dr7, lr0, lr1, lr2, lv3, dr_some, Option.isSome_some, gR_wI, Nat.add_mul_mod_self_left, Nat.reduceMod, ak20, ak21, ak22, ak23, ak24, ak25, ak26, ak27, ak28, ak29, ak30, ak31, ak32, ak33, ak34, ak35, ak36, an20, an21, an22, an23, an24, an25, an26, an27, an28, an29, an30, an31, an32, an33, an34, an35, an36, an37, an38, ne_eq, inR_ii, decide_eq_true_eq, lit_ii, of_ii, ii_eq, ii_lt, ii_le]; first | done | omega)) only [e_Week_doOnce, b_Week_doOnce_0, b_Week_doOnce_10, b_Week_doOnce_20, b_Week_doOnce_21, b_Week_doOnce_32, b_Week_doOnce_44, b_Week_doOnce_53, b_Week_doOnce_59, b_Week_doOnce_62, b_Week_doOnce_67, b_Week_doOnce_68, b_Week_doOnce_72, b_Week_doOnce_79, b_Week_doOnce_83, b_Week_doOnce_88, b_Week_doOnce_89, h1, qP, qL, qD, hF, hM, hC, hPi, hr4, hr5, hr6, hr7, hr8, dv0, dv1, dv2, dv3, dr4, dr5, dr6, dr7, lr0, lr1, lr2, lv3, dr_some, Option.isSome_some, gR_wI, Nat.add_mul_mod_self_left, Nat.reduceMod, ak20, ak21, ak22, ak23, ak24, ak25, ak26, ak27, ak28, ak29, ak30, ak31, ak32, ak33, ak34, ak35, ak36, an20, an21, an22, an23, an24, an25, an26, an27, an28, an29, an30, an31, an32, an33, an34, an35, an36, an37, an38, ↓reduceIte, bk_int, bk_void, bk_long, bkN_int, bkN_void, bkN_long, Nat.reduceAdd, Nat.reduceMul, Nat.reduceSub, Nat.reduceLT, Nat.reduceLeDiff, if_true, if_false, not_true_eq_false, not_false_eq_true, Bool.true_eq_false, Bool.false_eq_true, b2_eq0, Nat.add_zero, Nat.zero_add, Nat.not_lt_zero, Nat.zero_le, ite_true, ite_false, decide_true, decide_false, lit_ii, of_ii, le_T, le_F, lt_T, lt_F, eq_T, eq_F, ii_add, ii_mul, ii_nat, ii_le, ii_lt, ii_eq, inR_ii, ii_add0]
    · have h2 : hc H = 0 := by omega
      simp (disch := first | omega | exact b2_01 _ | exact ii0_01 | exact ii1_01 | (simp (disch := omega) only [qP, qL, qD, hF, hM, hC, hPi, hr4, hr5, hr6, hr7, hr8, dv0, dv1, dv2, dv3, dr4, dr5, dr6, dr7, lr0, lr1, lr2, lv3, dr_some, Option.isSome_some, gR_wI, Nat.add_mul_mod_self_left, Nat.reduceMod, ak20, ak21, ak22, ak23, ak24, ak25, ak26, ak27, ak28, ak29, ak30, ak31, ak32, ak33, ak34, ak35, ak36, an20, an21, an22, an23, an24, an25, an26, an27, an28, an29, an30, an31, an32, an33, an34, an35, an36, an37, an38, ne_eq, inR_ii, decide_eq_true_eq, lit_ii, of_ii, ii_eq, ii_lt, ii_le]; first | done | omega)) only [e_Week_doOnce, b_Week_doOnce_0, b_Week_doOnce_10, b_Week_doOnce_20, b_Week_doOnce_21, b_Week_doOnce_32, b_Week_doOnce_44, b_Week_doOnce_53, b_Week_doOnce_59, b_Week_doOnce_62, b_Week_doOnce_67, b_Week_doOnce_68, b_Week_doOnce_72, b_Week_doOnce_79, b_Week_doOnce_83, b_Week_doOnce_88, b_Week_doOnce_89, h1, h2, qP, qL, qD, hF, hM, hC, hPi, hr4, hr5, hr6, hr7, hr8, dv0, dv1, dv2, dv3, dr4, dr5, dr6, dr7, lr0, lr1, lr2, lv3, dr_some, Option.isSome_some, gR_wI, Nat.add_mul_mod_self_left, Nat.reduceMod, ak20, ak21, ak22, ak23, ak24, ak25, ak26, ak27, ak28, ak29, ak30, ak31, ak32, ak33, ak34, ak35, ak36, an20, an21, an22, an23, an24, an25, an26, an27, an28, an29, an30, an31, an32, an33, an34, an35, an36, an37, an38, ↓reduceIte, bk_int, bk_void, bk_long, bkN_int, bkN_void, bkN_long, Nat.reduceAdd, Nat.reduceMul, Nat.reduceSub, Nat.reduceLT, Nat.reduceLeDiff, if_true, if_false, not_true_eq_false, not_false_eq_true, Bool.true_eq_false, Bool.false_eq_true, b2_eq0, Nat.add_zero, Nat.zero_add, Nat.not_lt_zero, Nat.zero_le, ite_true, ite_false, decide_true, decide_false, lit_ii, of_ii, le_T, le_F, lt_T, lt_F, eq_T, eq_F, ii_add, ii_mul, ii_nat, ii_le, ii_lt, ii_eq, inR_ii, ii_add0]
  · have g1 : 0 < hm H := by omega
    have g2 : 0 < hc H := by omega
    have r1 := Nat.mod_lt (drw (nxt x)) g1
    have r2 := Nat.mod_lt (drw (nxt (nxt x))) g2
    have r3 := Nat.mod_lt (drw (nxt (nxt (nxt x)))) (show 16 > 0 by decide)
    have e0 : onceN H w q (D, x) = (if drw (nxt (nxt (nxt x))) % 16 < q then insN H (goN H (if entB (sayN H w D (drw (nxt x) % hm H) (drw (nxt (nxt x)) % hc H)) (drw (nxt x) % hm H) then entN (sayN H w D (drw (nxt x) % hm H) (drw (nxt (nxt x)) % hc H)) (drw (nxt x) % hm H) else leaN (sayN H w D (drw (nxt x) % hm H) (drw (nxt (nxt x)) % hc H)) (drw (nxt x) % hm H))) (drw (nxt x) % hm H) else goN H (if entB (sayN H w D (drw (nxt x) % hm H) (drw (nxt (nxt x)) % hc H)) (drw (nxt x) % hm H) then entN (sayN H w D (drw (nxt x) % hm H) (drw (nxt (nxt x)) % hc H)) (drw (nxt x) % hm H) else leaN (sayN H w D (drw (nxt x) % hm H) (drw (nxt (nxt x)) % hc H)) (drw (nxt x) % hm H)), nxt (nxt (nxt x))) := by
      unfold onceN
      rw [if_neg h0]
    rw [e0]
    have d1 := fun d => s_draw (d := d) (u := u) (n := hm H) W g1 (by omega)
    have W1 : WkA (wI σ (9 + 64 * u) 0 (nxt x)) u (nxt x) := WkA.nx
    have L1 := L.sw (u := u) (v := nxt x) hu
    have d2 := fun d => s_draw (d := d) (u := u) (n := hc H) W1 g2 (by omega)
    have W2 : WkA (wI (wI σ (9 + 64 * u) 0 (nxt x)) (9 + 64 * u) 0 (nxt (nxt x))) u (nxt (nxt x)) := WkA.nx
    have L2 := L1.sw (u := u) (v := nxt (nxt x)) hu
    have F2 : Fs (Sw l s u) σ (wI (wI σ (9 + 64 * u) 0 (nxt x)) (9 + 64 * u) 0 (nxt (nxt x))) := Fs.w (Fs.w Fs.rf (Or.inr rfl)) (Or.inr rfl)
    obtain ⟨σ3, e3, L3, F3⟩ := s_sayTo (d := d) L2 r1 r2
    have W3 := W2.fs F3 hu.2
    have F3' := F2.tr (F3.mono (S' := Sw l s u) (fun a z => Or.inl z))
    generalize drw (nxt x) % hm H = m at *
    generalize drw (nxt (nxt x)) % hc H = c at *
    generalize sayN H w D m c = D3 at *
    obtain ⟨σ4, e4, L4, F4⟩ : ∃ σ', runF (callF (d + 5)) (d + 5) m_Week_doOnce (53, [some (.ref (9 + 64 * u)), some (.ref (5 + 64 * t)), some (.int (ii q)), some (.int (ii m)), some (.int (ii c))], [.int (b2 (decide (D (28 + (m * 8 + c)) < 9)))], σ3) = runF (callF (d + 5)) (d + 5) m_Week_doOnce (68, [some (.ref (9 + 64 * u)), some (.ref (5 + 64 * t)), some (.int (ii q)), some (.int (ii m)), some (.int (ii c))], [], σ') ∧ CL σ' t h l s H w (if entB D3 m then entN D3 m else leaN D3 m) ∧ Fs (Sd l s) σ3 σ' := by
      obtain ⟨σ4, e4, L4, F4⟩ := s_letIn (d := d + 1) L3 r1
      cases hb : entB D3 m
      · have hD : entN D3 m = D3 := by unfold entN; rw [hb]; rfl
        rw [hD] at L4
        rw [hb] at e4
        obtain ⟨σ5, e5, L5, F5⟩ := s_letOut (d := d + 2) L4 (m := m) (by omega)
        refine ⟨σ5, ?_, L5, F4.tr F5⟩
        simp (disch := first | omega | exact b2_01 _ | exact ii0_01 | exact ii1_01 | (simp (disch := omega) only [lit_ii, dr_some, Option.isSome_some, gR_wI, Nat.add_mul_mod_self_left, Nat.reduceMod, ak20, ak21, ak22, ak23, ak24, ak25, ak26, ak27, ak28, ak29, ak30, ak31, ak32, ak33, ak34, ak35, ak36, an20, an21, an22, an23, an24, an25, an26, an27, an28, an29, an30, an31, an32, an33, an34, an35, an36, an37, an38, ne_eq, inR_ii, decide_eq_true_eq, lit_ii, of_ii, ii_eq, ii_lt, ii_le]; first | done | omega)) only [lit_ii, e_Week_doOnce, b_Week_doOnce_0, b_Week_doOnce_10, b_Week_doOnce_20, b_Week_doOnce_21, b_Week_doOnce_32, b_Week_doOnce_44, b_Week_doOnce_53, b_Week_doOnce_59, b_Week_doOnce_62, b_Week_doOnce_67, b_Week_doOnce_72, b_Week_doOnce_79, b_Week_doOnce_83, b_Week_doOnce_88, b_Week_doOnce_89, e4, e5, dr_some, Option.isSome_some, gR_wI, Nat.add_mul_mod_self_left, Nat.reduceMod, ak20, ak21, ak22, ak23, ak24, ak25, ak26, ak27, ak28, ak29, ak30, ak31, ak32, ak33, ak34, ak35, ak36, an20, an21, an22, an23, an24, an25, an26, an27, an28, an29, an30, an31, an32, an33, an34, an35, an36, an37, an38, ↓reduceIte, bk_int, bk_void, bk_long, bkN_int, bkN_void, bkN_long, Nat.reduceAdd, Nat.reduceMul, Nat.reduceSub, Nat.reduceLT, Nat.reduceLeDiff, if_true, if_false, not_true_eq_false, not_false_eq_true, Bool.true_eq_false, Bool.false_eq_true, b2_eq0, Nat.add_zero, Nat.zero_add, Nat.not_lt_zero, Nat.zero_le, ite_true, ite_false, decide_true, decide_false, lit_ii, of_ii, le_T, le_F, lt_T, lt_F, eq_T, eq_F, ii_add, ii_mul, ii_nat, ii_le, ii_lt, ii_eq, inR_ii, ii_add0]
      · refine ⟨σ4, ?_, L4, F4⟩
        rw [hb] at e4
        simp (disch := first | omega | exact b2_01 _ | exact ii0_01 | exact ii1_01 | (simp (disch := omega) only [lit_ii, dr_some, Option.isSome_some, gR_wI, Nat.add_mul_mod_self_left, Nat.reduceMod, ak20, ak21, ak22, ak23, ak24, ak25, ak26, ak27, ak28, ak29, ak30, ak31, ak32, ak33, ak34, ak35, ak36, an20, an21, an22, an23, an24, an25, an26, an27, an28, an29, an30, an31, an32, an33, an34, an35, an36, an37, an38, ne_eq, inR_ii, decide_eq_true_eq, lit_ii, of_ii, ii_eq, ii_lt, ii_le]; first | done | omega)) only [lit_ii, e_Week_doOnce, b_Week_doOnce_0, b_Week_doOnce_10, b_Week_doOnce_20, b_Week_doOnce_21, b_Week_doOnce_32, b_Week_doOnce_44, b_Week_doOnce_53, b_Week_doOnce_59, b_Week_doOnce_62, b_Week_doOnce_67, b_Week_doOnce_72, b_Week_doOnce_79, b_Week_doOnce_83, b_Week_doOnce_88, b_Week_doOnce_89, e4, dr_some, Option.isSome_some, gR_wI, Nat.add_mul_mod_self_left, Nat.reduceMod, ak20, ak21, ak22, ak23, ak24, ak25, ak26, ak27, ak28, ak29, ak30, ak31, ak32, ak33, ak34, ak35, ak36, an20, an21, an22, an23, an24, an25, an26, an27, an28, an29, an30, an31, an32, an33, an34, an35, an36, an37, an38, ↓reduceIte, bk_int, bk_void, bk_long, bkN_int, bkN_void, bkN_long, Nat.reduceAdd, Nat.reduceMul, Nat.reduceSub, Nat.reduceLT, Nat.reduceLeDiff, if_true, if_false, not_true_eq_false, not_false_eq_true, Bool.true_eq_false, Bool.false_eq_true, b2_eq0, Nat.add_zero, Nat.zero_add, Nat.not_lt_zero, Nat.zero_le, ite_true, ite_false, decide_true, decide_false, lit_ii, of_ii, le_T, le_F, lt_T, lt_F, eq_T, eq_F, ii_add, ii_mul, ii_nat, ii_le, ii_lt, ii_eq, inR_ii, ii_add0]
    have W4 := W3.fs F4 hu.2
    generalize (if entB D3 m then entN D3 m else leaN D3 m) = D4 at *
    obtain ⟨σ5, e5, L5, F5⟩ := s_goOnce (d := d) L4
    have W5 := W4.fs F5 hu.2
    have d6 := fun d => s_draw (d := d) (u := u) (n := 16) W5 (by omega) (by omega)
    have L6 := L5.sw (u := u) (v := nxt (nxt (nxt x))) hu
    have W6 : WkA (wI σ5 (9 + 64 * u) 0 (nxt (nxt (nxt x)))) u (nxt (nxt (nxt x))) := WkA.nx
    have F6 : Fs (Sw l s u) σ (wI σ5 (9 + 64 * u) 0 (nxt (nxt (nxt x)))) := Fs.w ((F3'.tr (F4.mono (fun a z => Or.inl z))).tr (F5.mono (fun a z => Or.inl z))) (Or.inr rfl)
    have f3 : ∀ a j, gR σ3 a j = gR σ a j := fun a j => F3'.R a j
    have f4 := F4.R
    have f5 := F5.R
    have m1 : gI (wI σ (9 + 64 * u) 0 (nxt x)) (2 + 64 * h) 2 = ii (hc H) := L1.2.2.2.1.2.2.1
    have ng1 : ¬ hm H = 0 := by omega
    have ng2 : ¬ hc H = 0 := by omega
    by_cases hin : drw (nxt (nxt (nxt x))) % 16 < q
    · rw [if_pos hin]
      obtain ⟨σ7, e7, L7, F7⟩ := s_insultOne (d := d + 2) L6 (m := m) (by omega)
      refine ⟨σ7, ?_, L7, W6.fs F7 hu.2, F6.tr (F7.mono (fun a z => Or.inl z))⟩
      generalize drw (nxt (nxt (nxt x))) % 16 = y at *
      obtain ⟨qP, qL, qD, ⟨hF, hM, hC, hPi, hr4, hr5, hr6, hr7, hr8, hv4, hv5, hv6, hv7, hv8⟩, ⟨dv0, dv1, dv2, dv3, dr4, dr5, dr6, dr7, dw4, dw5, dw6, dw7⟩, ⟨lr0, lr1, lr2, lv3, lw0⟩, ⟨⟨hw1, hw2, hw3, hw4, hw5⟩, hwm, hwc⟩, ⟨wd1, wd2, wd3⟩, wl, hap1, hap2, hap3⟩ := L
      simp (disch := first | omega | exact b2_01 _ | exact ii0_01 | exact ii1_01 | (simp (disch := omega) only [f5, f4, f3, qP, qL, qD, hF, hM, hC, hPi, hr4, hr5, hr6, hr7, hr8, dv0, dv1, dv2, dv3, dr4, dr5, dr6, dr7, lr0, lr1, lr2, lv3, dr_some, Option.isSome_some, gR_wI, Nat.add_mul_mod_self_left, Nat.reduceMod, ak20, ak21, ak22, ak23, ak24, ak25, ak26, ak27, ak28, ak29, ak30, ak31, ak32, ak33, ak34, ak35, ak36, an20, an21, an22, an23, an24, an25, an26, an27, an28, an29, an30, an31, an32, an33, an34, an35, an36, an37, an38, ne_eq, inR_ii, decide_eq_true_eq, lit_ii, of_ii, ii_eq, ii_lt, ii_le]; first | done | omega)) only [f5, f4, f3, e_Week_doOnce, b_Week_doOnce_0, b_Week_doOnce_10, b_Week_doOnce_20, b_Week_doOnce_21, b_Week_doOnce_32, b_Week_doOnce_44, b_Week_doOnce_59, b_Week_doOnce_62, b_Week_doOnce_67, b_Week_doOnce_68, b_Week_doOnce_72, b_Week_doOnce_79, b_Week_doOnce_83, b_Week_doOnce_88, b_Week_doOnce_89, ng1, ng2, d1, d2, m1, e3, e4, e5, d6, e7, qP, qL, qD, hF, hM, hC, hPi, hr4, hr5, hr6, hr7, hr8, dv0, dv1, dv2, dv3, dr4, dr5, dr6, dr7, lr0, lr1, lr2, lv3, dr_some, Option.isSome_some, gR_wI, Nat.add_mul_mod_self_left, Nat.reduceMod, ak20, ak21, ak22, ak23, ak24, ak25, ak26, ak27, ak28, ak29, ak30, ak31, ak32, ak33, ak34, ak35, ak36, an20, an21, an22, an23, an24, an25, an26, an27, an28, an29, an30, an31, an32, an33, an34, an35, an36, an37, an38, ↓reduceIte, bk_int, bk_void, bk_long, bkN_int, bkN_void, bkN_long, Nat.reduceAdd, Nat.reduceMul, Nat.reduceSub, Nat.reduceLT, Nat.reduceLeDiff, if_true, if_false, not_true_eq_false, not_false_eq_true, Bool.true_eq_false, Bool.false_eq_true, b2_eq0, Nat.add_zero, Nat.zero_add, Nat.not_lt_zero, Nat.zero_le, ite_true, ite_false, decide_true, decide_false, lit_ii, of_ii, le_T, le_F, lt_T, lt_F, eq_T, eq_F, ii_add, ii_mul, ii_nat, ii_le, ii_lt, ii_eq, inR_ii, ii_add0]
    · rw [if_neg hin]
      refine ⟨_, ?_, L6, W6, F6⟩
      generalize drw (nxt (nxt (nxt x))) % 16 = y at *
      obtain ⟨qP, qL, qD, ⟨hF, hM, hC, hPi, hr4, hr5, hr6, hr7, hr8, hv4, hv5, hv6, hv7, hv8⟩, ⟨dv0, dv1, dv2, dv3, dr4, dr5, dr6, dr7, dw4, dw5, dw6, dw7⟩, ⟨lr0, lr1, lr2, lv3, lw0⟩, ⟨⟨hw1, hw2, hw3, hw4, hw5⟩, hwm, hwc⟩, ⟨wd1, wd2, wd3⟩, wl, hap1, hap2, hap3⟩ := L
      simp (disch := first | omega | exact b2_01 _ | exact ii0_01 | exact ii1_01 | (simp (disch := omega) only [f5, f4, f3, qP, qL, qD, hF, hM, hC, hPi, hr4, hr5, hr6, hr7, hr8, dv0, dv1, dv2, dv3, dr4, dr5, dr6, dr7, lr0, lr1, lr2, lv3, dr_some, Option.isSome_some, gR_wI, Nat.add_mul_mod_self_left, Nat.reduceMod, ak20, ak21, ak22, ak23, ak24, ak25, ak26, ak27, ak28, ak29, ak30, ak31, ak32, ak33, ak34, ak35, ak36, an20, an21, an22, an23, an24, an25, an26, an27, an28, an29, an30, an31, an32, an33, an34, an35, an36, an37, an38, ne_eq, inR_ii, decide_eq_true_eq, lit_ii, of_ii, ii_eq, ii_lt, ii_le]; first | done | omega)) only [f5, f4, f3, e_Week_doOnce, b_Week_doOnce_0, b_Week_doOnce_10, b_Week_doOnce_20, b_Week_doOnce_21, b_Week_doOnce_32, b_Week_doOnce_44, b_Week_doOnce_59, b_Week_doOnce_62, b_Week_doOnce_67, b_Week_doOnce_68, b_Week_doOnce_72, b_Week_doOnce_79, b_Week_doOnce_83, b_Week_doOnce_88, b_Week_doOnce_89, ng1, ng2, d1, d2, m1, e3, e4, e5, d6, qP, qL, qD, hF, hM, hC, hPi, hr4, hr5, hr6, hr7, hr8, dv0, dv1, dv2, dv3, dr4, dr5, dr6, dr7, lr0, lr1, lr2, lv3, dr_some, Option.isSome_some, gR_wI, Nat.add_mul_mod_self_left, Nat.reduceMod, ak20, ak21, ak22, ak23, ak24, ak25, ak26, ak27, ak28, ak29, ak30, ak31, ak32, ak33, ak34, ak35, ak36, an20, an21, an22, an23, an24, an25, an26, an27, an28, an29, an30, an31, an32, an33, an34, an35, an36, an37, an38, ↓reduceIte, bk_int, bk_void, bk_long, bkN_int, bkN_void, bkN_long, Nat.reduceAdd, Nat.reduceMul, Nat.reduceSub, Nat.reduceLT, Nat.reduceLeDiff, if_true, if_false, not_true_eq_false, not_false_eq_true, Bool.true_eq_false, Bool.false_eq_true, b2_eq0, Nat.add_zero, Nat.zero_add, Nat.not_lt_zero, Nat.zero_le, ite_true, ite_false, decide_true, decide_false, lit_ii, of_ii, le_T, le_F, lt_T, lt_F, eq_T, eq_F, ii_add, ii_mul, ii_nat, ii_le, ii_lt, ii_eq, inR_ii, ii_add0]
theorem s_live {u q n d t h l s : Nat} {H : HH} {w : LW} {D : Nat → Nat} {σ : HP} (L : CL σ t h l s H w D) (x : Int32) (hq : q ≤ 16) (hn : n ≤ 48) (hu : (u < h ∨ h + 5 < u) ∧ (u < s ∨ s + 4 < u) ∧ (u < l ∨ l + 3 < u)) : ∃ σ', callF (d + 7) m_Week_live [.ref (9 + 64 * u), .ref (5 + 64 * t), .int x, .int (ii q), .int (ii n)] σ = some (.inl none, σ') ∧ CL σ' t h l s H w (weekN H w q n (D, x)).1 ∧ Fs (Sw l s u) σ σ' := by
  rw [e_Week_live, b_Week_live_0 (by omega)]
  refine loop_g (N := n) (Q := fun o => ∃ σ', o = some (.inl none, σ') ∧ CL σ' t h l s H w (weekN H w q n (D, x)).1 ∧ Fs (Sw l s u) σ σ') (fun k c => ∃ σ' l5, c = (8, [some (.ref (9 + 64 * u)), some (.ref (5 + 64 * t)), some (.int x), some (.int (ii q)), some (.int (ii n)), some (.int (ii k)), l5], [], σ') ∧ CL σ' t h l s H w (weekN H w q k (D, x)).1 ∧ WkA σ' u (weekN H w q k (D, x)).2 ∧ Fs (Sw l s u) σ σ') ?_ ?_ 0 _ (Nat.zero_le _) ⟨_, none, rfl, L.sw hu, WkA.nx, Fs.w Fs.rf (Or.inr rfl)⟩
  · rintro k c hk ⟨σ1, l5, rfl, L1, W1, F1⟩
    rw [show weekN H w q (k + 1) (D, x) = dayN H w q (weekN H w q k (D, x)) from rfl]
    generalize weekN H w q k (D, x) = z at *
    obtain ⟨D1, x1⟩ := z
    rw [b_Week_live_8, if_neg (by rw [ii_le (by omega) (by omega)]; omega), b_Week_live_15]
    obtain ⟨σ2, e2, L2, W2, F2⟩ : ∃ σ2, runF (callF (d + 6)) (d + 6) m_Week_live (18, [some (.ref (9 + 64 * u)), some (.ref (5 + 64 * t)), some (.int x), some (.int (ii q)), some (.int (ii n)), some (.int (ii k)), some (.int (ii 0))], [], σ1) = runF (callF (d + 6)) (d + 6) m_Week_live (36, [some (.ref (9 + 64 * u)), some (.ref (5 + 64 * t)), some (.int x), some (.int (ii q)), some (.int (ii n)), some (.int (ii k)), some (.int (ii 4))], [], σ2) ∧ CL σ2 t h l s H w (it (onceN H w q) 4 (D1, x1)).1 ∧ WkA σ2 u (it (onceN H w q) 4 (D1, x1)).2 ∧ Fs (Sw l s u) σ σ2 := by
      refine loop_g (N := 4) (Q := fun o => ∃ σ2, o = runF (callF (d + 6)) (d + 6) m_Week_live (36, [some (.ref (9 + 64 * u)), some (.ref (5 + 64 * t)), some (.int x), some (.int (ii q)), some (.int (ii n)), some (.int (ii k)), some (.int (ii 4))], [], σ2) ∧ CL σ2 t h l s H w (it (onceN H w q) 4 (D1, x1)).1 ∧ WkA σ2 u (it (onceN H w q) 4 (D1, x1)).2 ∧ Fs (Sw l s u) σ σ2) (fun i c => ∃ σ2, c = (18, [some (.ref (9 + 64 * u)), some (.ref (5 + 64 * t)), some (.int x), some (.int (ii q)), some (.int (ii n)), some (.int (ii k)), some (.int (ii i))], [], σ2) ∧ CL σ2 t h l s H w (it (onceN H w q) i (D1, x1)).1 ∧ WkA σ2 u (it (onceN H w q) i (D1, x1)).2 ∧ Fs (Sw l s u) σ σ2) ?_ ?_ 0 _ (Nat.zero_le _) ⟨σ1, rfl, L1, W1, F1⟩
      · rintro i c hi ⟨σ2, rfl, L2, W2, F2⟩
        obtain ⟨σ3, e3, L3, W3, F3⟩ := s_doOnce (d := d) L2 _ W2 hq hu
        refine ⟨_, ?_, σ3, rfl, L3, W3, F2.tr F3⟩
        conv => lhs; simp (disch := first | omega | exact b2_01 _ | exact ii0_01 | exact ii1_01 | (simp (disch := omega) only [lit_ii, dr_some, Option.isSome_some, gR_wI, Nat.add_mul_mod_self_left, Nat.reduceMod, ak20, ak21, ak22, ak23, ak24, ak25, ak26, ak27, ak28, ak29, ak30, ak31, ak32, ak33, ak34, ak35, ak36, an20, an21, an22, an23, an24, an25, an26, an27, an28, an29, an30, an31, an32, an33, an34, an35, an36, an37, an38, ne_eq, inR_ii, decide_eq_true_eq, lit_ii, of_ii, ii_eq, ii_lt, ii_le]; first | done | omega)) only [lit_ii, b_Week_live_18, dr_some, Option.isSome_some, gR_wI, Nat.add_mul_mod_self_left, Nat.reduceMod, ak20, ak21, ak22, ak23, ak24, ak25, ak26, ak27, ak28, ak29, ak30, ak31, ak32, ak33, ak34, ak35, ak36, an20, an21, an22, an23, an24, an25, an26, an27, an28, an29, an30, an31, an32, an33, an34, an35, an36, an37, an38, ↓reduceIte, bk_int, bk_void, bk_long, bkN_int, bkN_void, bkN_long, Nat.reduceAdd, Nat.reduceMul, Nat.reduceSub, Nat.reduceLT, Nat.reduceLeDiff, if_true, if_false, not_true_eq_false, not_false_eq_true, Bool.true_eq_false, Bool.false_eq_true, b2_eq0, Nat.add_zero, Nat.zero_add, Nat.not_lt_zero, Nat.zero_le, ite_true, ite_false, decide_true, decide_false, lit_ii, of_ii, le_T, le_F, lt_T, lt_F, eq_T, eq_F, ii_add, ii_mul, ii_nat, ii_le, ii_lt, ii_eq, inR_ii, ii_add0]
        simp (disch := first | omega | exact b2_01 _ | exact ii0_01 | exact ii1_01 | (simp (disch := omega) only [lit_ii, dr_some, Option.isSome_some, gR_wI, Nat.add_mul_mod_self_left, Nat.reduceMod, ak20, ak21, ak22, ak23, ak24, ak25, ak26, ak27, ak28, ak29, ak30, ak31, ak32, ak33, ak34, ak35, ak36, an20, an21, an22, an23, an24, an25, an26, an27, an28, an29, an30, an31, an32, an33, an34, an35, an36, an37, an38, ne_eq, inR_ii, decide_eq_true_eq, lit_ii, of_ii, ii_eq, ii_lt, ii_le]; first | done | omega)) only [lit_ii, e_Week_live, b_Week_live_0, b_Week_live_8, b_Week_live_15, b_Week_live_24, b_Week_live_30, b_Week_live_36, b_Week_live_40, b_Week_live_46, e3, dr_some, Option.isSome_some, gR_wI, Nat.add_mul_mod_self_left, Nat.reduceMod, ak20, ak21, ak22, ak23, ak24, ak25, ak26, ak27, ak28, ak29, ak30, ak31, ak32, ak33, ak34, ak35, ak36, an20, an21, an22, an23, an24, an25, an26, an27, an28, an29, an30, an31, an32, an33, an34, an35, an36, an37, an38, ↓reduceIte, bk_int, bk_void, bk_long, bkN_int, bkN_void, bkN_long, Nat.reduceAdd, Nat.reduceMul, Nat.reduceSub, Nat.reduceLT, Nat.reduceLeDiff, if_true, if_false, not_true_eq_false, not_false_eq_true, Bool.true_eq_false, Bool.false_eq_true, b2_eq0, Nat.add_zero, Nat.zero_add, Nat.not_lt_zero, Nat.zero_le, ite_true, ite_false, decide_true, decide_false, lit_ii, of_ii, le_T, le_F, lt_T, lt_F, eq_T, eq_F, ii_add, ii_mul, ii_nat, ii_le, ii_lt, ii_eq, inR_ii, ii_add0]
      · rintro c ⟨σ2, rfl, L2, W2, F2⟩
        refine ⟨σ2, ?_, L2, W2, F2⟩
        conv => lhs; rw [b_Week_live_18, if_pos (by decide)]
    obtain ⟨σ3, e3, L3, F3⟩ := s_sleep (d := d + 2) L2
    refine ⟨_, ?_, σ3, some (.int (ii 4)), rfl, L3, ?_, F2.tr (F3.mono (fun a z => Or.inl z))⟩
    · conv => lhs; simp (disch := first | omega | exact b2_01 _ | exact ii0_01 | exact ii1_01 | (simp (disch := omega) only [lit_ii 0, dr_some, Option.isSome_some, gR_wI, Nat.add_mul_mod_self_left, Nat.reduceMod, ak20, ak21, ak22, ak23, ak24, ak25, ak26, ak27, ak28, ak29, ak30, ak31, ak32, ak33, ak34, ak35, ak36, an20, an21, an22, an23, an24, an25, an26, an27, an28, an29, an30, an31, an32, an33, an34, an35, an36, an37, an38, ne_eq, inR_ii, decide_eq_true_eq, lit_ii, of_ii, ii_eq, ii_lt, ii_le]; first | done | omega)) only [lit_ii 0, e2, dr_some, Option.isSome_some, gR_wI, Nat.add_mul_mod_self_left, Nat.reduceMod, ak20, ak21, ak22, ak23, ak24, ak25, ak26, ak27, ak28, ak29, ak30, ak31, ak32, ak33, ak34, ak35, ak36, an20, an21, an22, an23, an24, an25, an26, an27, an28, an29, an30, an31, an32, an33, an34, an35, an36, an37, an38, ↓reduceIte, bk_int, bk_void, bk_long, bkN_int, bkN_void, bkN_long, Nat.reduceAdd, Nat.reduceMul, Nat.reduceSub, Nat.reduceLT, Nat.reduceLeDiff, if_true, if_false, not_true_eq_false, not_false_eq_true, Bool.true_eq_false, Bool.false_eq_true, b2_eq0, Nat.add_zero, Nat.zero_add, Nat.not_lt_zero, Nat.zero_le, ite_true, ite_false, decide_true, decide_false, lit_ii, of_ii, le_T, le_F, lt_T, lt_F, eq_T, eq_F, ii_add, ii_mul, ii_nat, ii_le, ii_lt, ii_eq, inR_ii, ii_add0]
      simp (disch := first | omega | exact b2_01 _ | exact ii0_01 | exact ii1_01 | (simp (disch := omega) only [lit_ii 0, dr_some, Option.isSome_some, gR_wI, Nat.add_mul_mod_self_left, Nat.reduceMod, ak20, ak21, ak22, ak23, ak24, ak25, ak26, ak27, ak28, ak29, ak30, ak31, ak32, ak33, ak34, ak35, ak36, an20, an21, an22, an23, an24, an25, an26, an27, an28, an29, an30, an31, an32, an33, an34, an35, an36, an37, an38, ne_eq, inR_ii, decide_eq_true_eq, lit_ii, of_ii, ii_eq, ii_lt, ii_le]; first | done | omega)) only [lit_ii 0, b_Week_live_36, b_Week_live_40, e3, dr_some, Option.isSome_some, gR_wI, Nat.add_mul_mod_self_left, Nat.reduceMod, ak20, ak21, ak22, ak23, ak24, ak25, ak26, ak27, ak28, ak29, ak30, ak31, ak32, ak33, ak34, ak35, ak36, an20, an21, an22, an23, an24, an25, an26, an27, an28, an29, an30, an31, an32, an33, an34, an35, an36, an37, an38, ↓reduceIte, bk_int, bk_void, bk_long, bkN_int, bkN_void, bkN_long, Nat.reduceAdd, Nat.reduceMul, Nat.reduceSub, Nat.reduceLT, Nat.reduceLeDiff, if_true, if_false, not_true_eq_false, not_false_eq_true, Bool.true_eq_false, Bool.false_eq_true, b2_eq0, Nat.add_zero, Nat.zero_add, Nat.not_lt_zero, Nat.zero_le, ite_true, ite_false, decide_true, decide_false, lit_ii, of_ii, le_T, le_F, lt_T, lt_F, eq_T, eq_F, ii_add, ii_mul, ii_nat, ii_le, ii_lt, ii_eq, inR_ii, ii_add0]
    · exact W2.fs F3 hu.2
  · rintro c ⟨σ1, l5, rfl, L1, W1, F1⟩
    refine ⟨σ1, ?_, L1, F1⟩
    rw [b_Week_live_8, if_pos ((ii_le (by omega) (by omega)).mpr (Nat.le_refl _)), b_Week_live_46]
