theorem loop_w {C : CF} {d : Nat} {m : MM} {Q : Option Res → Prop} (I : Nat → Cfg → Prop) (hs : ∀ k c, I k c → Q (runF C d m c) ∨ ∃ k' c', k' < k ∧ runF C d m c = runF C d m c' ∧ I k' c') : ∀ k c, I k c → Q (runF C d m c) := by
  intro k
  induction k using Nat.strongRecOn with
  | _ k ih =>
    intro c hi
    rcases hs k c hi with h | ⟨k', c', h1, h2, h3⟩
    · exact h
    · rw [h2]
      exact ih k' h1 c' h3
theorem ii_xor (a b : Nat) : ii a ^^^ ii b = ii (a ^^^ b) := by
  apply Int32.toBitVec_inj.mp
  apply BitVec.eq_of_toNat_eq
  simp [ii, Nat.xor_mod_two_pow]
theorem ng_big : -ii 1 = ii 4294967295 := by decide
theorem andn0 {a b : Nat} (ha : a < 2147483648) : a &&& (b ^^^ 4294967295) = 0 ↔ a &&& b = a := by
  constructor
  · intro h
    apply Nat.eq_of_testBit_eq
    intro i
    rw [Nat.testBit_and]
    have h1 := congrArg (fun z => z.testBit i) h
    simp only [Nat.testBit_and, Nat.testBit_xor, Nat.zero_testBit, show 4294967295 = 2 ^ 32 - 1 from rfl, Nat.testBit_two_pow_sub_one] at h1
    by_cases q : i < 32
    · cases h2 : a.testBit i
      · rfl
      · rw [h2] at h1
        simp only [q, decide_true, Bool.true_and, Bool.xor_true, Bool.not_eq_false'] at h1
        rw [h1]
        rfl
    · rw [bit_ge (B := a) (n := 31) ha (by omega)]
      rfl
  · intro h
    apply Nat.eq_of_testBit_eq
    intro i
    rw [Nat.testBit_and, Nat.testBit_xor, Nat.zero_testBit]
    have h1 := congrArg (fun z => z.testBit i) h
    simp only [Nat.testBit_and] at h1
    by_cases q : i < 32
    · rw [show 4294967295 = 2 ^ 32 - 1 from rfl, Nat.testBit_two_pow_sub_one]
      cases h2 : a.testBit i
      · rfl
      · rw [h2] at h1
        simp only [Bool.true_and] at h1
        rw [h1]
        simp [q]
    · rw [bit_ge (B := a) (n := 31) ha (by omega)]
      rfl
theorem mask0 {a b : Nat} (ha : a < 2147483648) : (ii a &&& (ii b ^^^ -ii 1) = ii 0) = (a &&& b = a) := by
  rw [ng_big, ii_xor, ii_and, ii_eq (Nat.lt_of_le_of_lt Nat.and_le_left ha) (by omega), andn0 ha]
def syS (H : HH) (w : LW) (D : Nat → Nat) : Nat := setTo (fun c => (msI H w D c (hm H)).isSome) (hc H)
def toO (H : HH) (w : LW) (D : Nat → Nat) (f n : Nat) (o : Option Nat) : Bool := decide (n &&& syS H w D = n) && ((match o with
  | none => true
  | some b => decide (popc n < popc b)) && decide (goesTo H (D 84) (hvs H D (Bof D) + sSum H w D n) = f))
def toK (H : HH) (w : LW) (D : Nat → Nat) (f : Nat) : Nat → Option Nat
  | 0 => none
  | n + 1 => if toO H w D f n (toK H w D f n) then some n else toK H w D f n
theorem toK_lt {H : HH} {w : LW} {D : Nat → Nat} {f : Nat} : ∀ n b, toK H w D f n = some b → b < n := by
  intro n
  induction n with
  | zero => intro b h; cases h
  | succ n ih =>
    intro b h
    unfold toK at h
    split at h
    · cases h; omega
    · have := ih b h
      omega
def Sv (l u a : Nat) : Prop := a = 29 + 64 * (l + 2) ∨ a = 23 + 64 * (l + 3) ∨ (u ≤ a / 64 ∧ a / 64 ≤ u + 4)
def apU (h l s u : Nat) : Prop := (u + 4 < h ∨ h + 5 < u) ∧ (u + 4 < s ∨ s + 4 < u) ∧ (u + 4 < l ∨ l + 3 < u)
theorem CL.sv {σ σ' : HP} {t h l s u : Nat} {H : HH} {w : LW} {D : Nat → Nat} (A : CL σ t h l s H w D) (F : Fs (Sv l u) σ σ') (hu : apU h l s u) : CL σ' t h l s H w D := by
  have A' := A
  obtain ⟨qP, qL, qD, a1, a2, a3, b1, b2, b3, c1, c2, c3⟩ := A'
  unfold apU at hu
  exact A.fs F (fun a x y z => by unfold Sv at z; omega) (fun a x y z => by unfold Sv at z; omega) (fun a x y z => by unfold Sv at z; omega)
theorem SA.fs {S : Nat → Prop} {σ σ' : HP} {u : Nat} (A : SA σ u) (F : Fs S σ σ') : SA σ' u := ⟨(F.R _ _).trans A.1, (F.R _ _).trans A.2.1, (F.R _ _).trans A.2.2.1, (F.R _ _).trans A.2.2.2⟩
theorem Sl_Sv {l u : Nat} {σ σ' : HP} (F : Fs (Sl l) σ σ') : Fs (Sv l u) σ σ' := F.mono (fun a z => by unfold Sl at z; unfold Sv; omega)
theorem popc_le (B : Nat) : popc B ≤ 8 := by
  have := sumTo_le (f := fun k => (B.testBit k).toNat) (n := 8) (b := 1) (fun k _ => Bool.toNat_le _)
  exact this
def Sv2 (l u a : Nat) : Prop := a = 29 + 64 * (l + 2) ∨ a = 23 + 64 * (l + 3) ∨ a = 22 + 64 * (u + 3)
theorem Sl_Sv2 {l u : Nat} {σ σ' : HP} (F : Fs (Sl l) σ σ') : Fs (Sv2 l u) σ σ' := F.mono (fun a z => by unfold Sl at z; unfold Sv2; omega)
theorem Sv2_Sv {l u : Nat} {σ σ' : HP} (F : Fs (Sv2 l u) σ σ') : Fs (Sv l u) σ σ' := F.mono (fun a z => by unfold Sv2 at z; unfold Sv; omega)
theorem s_fewestCardsTo {u f d t h l s : Nat} {H : HH} {w : LW} {D : Nat → Nat} {σ : HP} (L : CL σ t h l s H w D) (A : SA σ u) (hu : apU h l s u) (hf' : f < hf H) : ∃ σ', callF (d + 6) m_Scales_fewestCardsTo [.ref (8 + 64 * u), .ref (5 + 64 * t), .int (ii f)] σ = some (.inl (some (.int (if Bof D = 0 then -ii 1 else oi (toK H w D f (2 ^ hc H))))), σ') ∧ Fs (Sv2 l u) σ σ' := by
  have h7 := L.wh.1
  by_cases hb : Bof D = 0
  · rw [if_pos hb]
    refine ⟨σ, ?_, Fs.rf⟩
    obtain ⟨qP, qL, qD, ⟨hF, hM, hC, hPi, hr4, hr5, hr6, hr7, hr8, hv4, hv5, hv6, hv7, hv8⟩, ⟨dv0, dv1, dv2, dv3, dr4, dr5, dr6, dr7, dw4, dw5, dw6, dw7⟩, ⟨lr0, lr1, lr2, lv3, lw0⟩, ⟨⟨hw1, hw2, hw3, hw4, hw5⟩, hwm, hwc⟩, ⟨wd1, wd2, wd3⟩, wl, hap1, hap2, hap3⟩ := L
    simp (disch := first | omega | exact b2_01 _ | exact ii0_01 | exact ii1_01 | (simp (disch := omega) only [qP, qL, qD, hF, hM, hC, hPi, hr4, hr5, hr6, hr7, hr8, dv0, dv1, dv2, dv3, dr4, dr5, dr6, dr7, lr0, lr1, lr2, lv3, dr_some, Option.isSome_some, gR_wI, Nat.add_mul_mod_self_left, Nat.reduceMod, ak20, ak21, ak22, ak23, ak24, ak25, ak26, ak27, ak28, ak29, ak30, ak31, ak32, ak33, ak34, ak35, ak36, an20, an21, an22, an23, an24, an25, an26, an27, an28, an29, an30, an31, an32, an33, an34, an35, an36, an37, an38, ne_eq, inR_ii, decide_eq_true_eq, lit_ii, of_ii, ii_eq, ii_lt, ii_le]; first | done | omega)) only [e_Scales_fewestCardsTo, b_Scales_fewestCardsTo_0, b_Scales_fewestCardsTo_10, b_Scales_fewestCardsTo_12, b_Scales_fewestCardsTo_17, b_Scales_fewestCardsTo_29, b_Scales_fewestCardsTo_36, b_Scales_fewestCardsTo_49, b_Scales_fewestCardsTo_56, b_Scales_fewestCardsTo_60, b_Scales_fewestCardsTo_64, b_Scales_fewestCardsTo_72, b_Scales_fewestCardsTo_76, b_Scales_fewestCardsTo_84, b_Scales_fewestCardsTo_98, b_Scales_fewestCardsTo_107, b_Scales_fewestCardsTo_113, b_Scales_fewestCardsTo_118, b_Scales_fewestCardsTo_123, b_Scales_fewestCardsTo_126, b_Scales_fewestCardsTo_142, b_Scales_fewestCardsTo_146, b_Scales_fewestCardsTo_150, b_Scales_fewestCardsTo_154, b_Scales_fewestCardsTo_160, hb, qP, qL, qD, hF, hM, hC, hPi, hr4, hr5, hr6, hr7, hr8, dv0, dv1, dv2, dv3, dr4, dr5, dr6, dr7, lr0, lr1, lr2, lv3, dr_some, Option.isSome_some, gR_wI, Nat.add_mul_mod_self_left, Nat.reduceMod, ak20, ak21, ak22, ak23, ak24, ak25, ak26, ak27, ak28, ak29, ak30, ak31, ak32, ak33, ak34, ak35, ak36, an20, an21, an22, an23, an24, an25, an26, an27, an28, an29, an30, an31, an32, an33, an34, an35, an36, an37, an38, ↓reduceIte, bk_int, bk_void, bk_long, bkN_int, bkN_void, bkN_long, Nat.reduceAdd, Nat.reduceMul, Nat.reduceSub, Nat.reduceLT, Nat.reduceLeDiff, if_true, if_false, not_true_eq_false, not_false_eq_true, Bool.true_eq_false, Bool.false_eq_true, b2_eq0, Nat.add_zero, Nat.zero_add, Nat.not_lt_zero, Nat.zero_le, ite_true, ite_false, decide_true, decide_false, lit_ii, of_ii, le_T, le_F, lt_T, lt_F, eq_T, eq_F, ii_add, ii_mul, ii_nat, ii_le, ii_lt, ii_eq, inR_ii, ii_add0]
  · rw [if_neg hb]
    have e0 : callF (d + 6) m_Scales_fewestCardsTo [.ref (8 + 64 * u), .ref (5 + 64 * t), .int (ii f)] σ = runF (callF (d + 5)) (d + 5) m_Scales_fewestCardsTo (17, [some (.ref (8 + 64 * u)), some (.ref (5 + 64 * t)), some (.int (ii f)), some (.int (ii 0)), some (.int (ii 0)), none, none], [], σ) := by
      have hB := Bof_lt D
      obtain ⟨qP, qL, qD, ⟨hF, hM, hC, hPi, hr4, hr5, hr6, hr7, hr8, hv4, hv5, hv6, hv7, hv8⟩, ⟨dv0, dv1, dv2, dv3, dr4, dr5, dr6, dr7, dw4, dw5, dw6, dw7⟩, ⟨lr0, lr1, lr2, lv3, lw0⟩, ⟨⟨hw1, hw2, hw3, hw4, hw5⟩, hwm, hwc⟩, ⟨wd1, wd2, wd3⟩, wl, hap1, hap2, hap3⟩ := L
      simp (disch := first | omega | exact b2_01 _ | exact ii0_01 | exact ii1_01 | (simp (disch := omega) only [qP, qL, qD, hF, hM, hC, hPi, hr4, hr5, hr6, hr7, hr8, dv0, dv1, dv2, dv3, dr4, dr5, dr6, dr7, lr0, lr1, lr2, lv3, dr_some, Option.isSome_some, gR_wI, Nat.add_mul_mod_self_left, Nat.reduceMod, ak20, ak21, ak22, ak23, ak24, ak25, ak26, ak27, ak28, ak29, ak30, ak31, ak32, ak33, ak34, ak35, ak36, an20, an21, an22, an23, an24, an25, an26, an27, an28, an29, an30, an31, an32, an33, an34, an35, an36, an37, an38, ne_eq, inR_ii, decide_eq_true_eq, lit_ii, of_ii, ii_eq, ii_lt, ii_le]; first | done | omega)) only [e_Scales_fewestCardsTo, b_Scales_fewestCardsTo_0, b_Scales_fewestCardsTo_10, b_Scales_fewestCardsTo_12, b_Scales_fewestCardsTo_29, b_Scales_fewestCardsTo_36, b_Scales_fewestCardsTo_49, b_Scales_fewestCardsTo_56, b_Scales_fewestCardsTo_60, b_Scales_fewestCardsTo_64, b_Scales_fewestCardsTo_72, b_Scales_fewestCardsTo_76, b_Scales_fewestCardsTo_84, b_Scales_fewestCardsTo_98, b_Scales_fewestCardsTo_107, b_Scales_fewestCardsTo_113, b_Scales_fewestCardsTo_118, b_Scales_fewestCardsTo_123, b_Scales_fewestCardsTo_126, b_Scales_fewestCardsTo_142, b_Scales_fewestCardsTo_146, b_Scales_fewestCardsTo_150, b_Scales_fewestCardsTo_154, b_Scales_fewestCardsTo_160, hb, qP, qL, qD, hF, hM, hC, hPi, hr4, hr5, hr6, hr7, hr8, dv0, dv1, dv2, dv3, dr4, dr5, dr6, dr7, lr0, lr1, lr2, lv3, dr_some, Option.isSome_some, gR_wI, Nat.add_mul_mod_self_left, Nat.reduceMod, ak20, ak21, ak22, ak23, ak24, ak25, ak26, ak27, ak28, ak29, ak30, ak31, ak32, ak33, ak34, ak35, ak36, an20, an21, an22, an23, an24, an25, an26, an27, an28, an29, an30, an31, an32, an33, an34, an35, an36, an37, an38, ↓reduceIte, bk_int, bk_void, bk_long, bkN_int, bkN_void, bkN_long, Nat.reduceAdd, Nat.reduceMul, Nat.reduceSub, Nat.reduceLT, Nat.reduceLeDiff, if_true, if_false, not_true_eq_false, not_false_eq_true, Bool.true_eq_false, Bool.false_eq_true, b2_eq0, Nat.add_zero, Nat.zero_add, Nat.not_lt_zero, Nat.zero_le, ite_true, ite_false, decide_true, decide_false, lit_ii, of_ii, le_T, le_F, lt_T, lt_F, eq_T, eq_F, ii_add, ii_mul, ii_nat, ii_le, ii_lt, ii_eq, inR_ii, ii_add0]
    rw [e0]
    refine loop_g (N := hc H) (Q := fun o => ∃ σ', o = some (.inl (some (.int (oi (toK H w D f (2 ^ hc H))))), σ') ∧ Fs (Sv2 l u) σ σ') (fun k c => ∃ σ' l5, c = (17, [some (.ref (8 + 64 * u)), some (.ref (5 + 64 * t)), some (.int (ii f)), some (.int (ii (setTo (fun c => (msI H w D c (hm H)).isSome) k))), some (.int (ii k)), l5, none], [], σ') ∧ Fs (Sv2 l u) σ σ' ∧ ∀ c, c < k → gI σ' (22 + 64 * (u + 3)) c = oi (msI H w D c (hm H))) ?_ ?_ 0 _ (Nat.zero_le _) ⟨σ, none, rfl, Fs.rf, fun c hc => absurd hc (Nat.not_lt_zero _)⟩
    · rintro k c hk' ⟨σ', l5, rfl, F, hv⟩
      have L' := L.sv (Sv2_Sv F) hu
      obtain ⟨σ2, e2, F2⟩ := s_mostSwellInside (d := d) (u := u) L' hk'
      have A2 := (A.fs F).fs F2
      have hv2 : ∀ c, c < k + 1 → gI (wI σ2 (22 + 64 * (u + 3)) k (oi (msI H w D k (hm H)))) (22 + 64 * (u + 3)) c = oi (msI H w D c (hm H)) := by
        intro c hc
        rw [gI_row]
        by_cases q : c = k
        · rw [if_pos q, q]
        · rw [if_neg q, F2.I (fun z => by unfold Sl at z; unfold apU at hu; omega)]
          exact hv c (by omega)
      refine ⟨_, ?_, wI σ2 (22 + 64 * (u + 3)) k (oi (msI H w D k (hm H))), some (.int (oi (msI H w D k (hm H)))), rfl, (F.tr (Sl_Sv2 F2)).w (Or.inr (Or.inr rfl)), hv2⟩
      have hlt := msI_le (H := H) (w := w) (D := D) (c := k) (hm H)
      rw [show setTo (fun c => (msI H w D c (hm H)).isSome) (k + 1) = setTo (fun c => (msI H w D c (hm H)).isSome) k ||| (if (msI H w D k (hm H)).isSome then 2 ^ k else 0) from rfl]
      obtain ⟨a0, a1, a2, a3⟩ := A2
      generalize msI H w D k (hm H) = st at *
      cases st with
      | none =>
        obtain ⟨qP, qL, qD, ⟨hF, hM, hC, hPi, hr4, hr5, hr6, hr7, hr8, hv4, hv5, hv6, hv7, hv8⟩, ⟨dv0, dv1, dv2, dv3, dr4, dr5, dr6, dr7, dw4, dw5, dw6, dw7⟩, ⟨lr0, lr1, lr2, lv3, lw0⟩, ⟨⟨hw1, hw2, hw3, hw4, hw5⟩, hwm, hwc⟩, ⟨wd1, wd2, wd3⟩, wl, hap1, hap2, hap3⟩ := L'
        conv => lhs; simp (disch := first | omega | exact b2_01 _ | exact ii0_01 | exact ii1_01 | (simp (disch := omega) only [qP, qL, qD, hF, hM, hC, hPi, hr4, hr5, hr6, hr7, hr8, dv0, dv1, dv2, dv3, dr4, dr5, dr6, dr7, lr0, lr1, lr2, lv3, dr_some, Option.isSome_some, gR_wI, Nat.add_mul_mod_self_left, Nat.reduceMod, ak20, ak21, ak22, ak23, ak24, ak25, ak26, ak27, ak28, ak29, ak30, ak31, ak32, ak33, ak34, ak35, ak36, an20, an21, an22, an23, an24, an25, an26, an27, an28, an29, an30, an31, an32, an33, an34, an35, an36, an37, an38, ne_eq, inR_ii, decide_eq_true_eq, lit_ii, of_ii, ii_eq, ii_lt, ii_le]; first | done | omega)) only [b_Scales_fewestCardsTo_17, qP, qL, qD, hF, hM, hC, hPi, hr4, hr5, hr6, hr7, hr8, dv0, dv1, dv2, dv3, dr4, dr5, dr6, dr7, lr0, lr1, lr2, lv3, dr_some, Option.isSome_some, gR_wI, Nat.add_mul_mod_self_left, Nat.reduceMod, ak20, ak21, ak22, ak23, ak24, ak25, ak26, ak27, ak28, ak29, ak30, ak31, ak32, ak33, ak34, ak35, ak36, an20, an21, an22, an23, an24, an25, an26, an27, an28, an29, an30, an31, an32, an33, an34, an35, an36, an37, an38, ↓reduceIte, bk_int, bk_void, bk_long, bkN_int, bkN_void, bkN_long, Nat.reduceAdd, Nat.reduceMul, Nat.reduceSub, Nat.reduceLT, Nat.reduceLeDiff, if_true, if_false, not_true_eq_false, not_false_eq_true, Bool.true_eq_false, Bool.false_eq_true, b2_eq0, Nat.add_zero, Nat.zero_add, Nat.not_lt_zero, Nat.zero_le, ite_true, ite_false, decide_true, decide_false, lit_ii, of_ii, le_T, le_F, lt_T, lt_F, eq_T, eq_F, ii_add, ii_mul, ii_nat, ii_le, ii_lt, ii_eq, inR_ii, ii_add0]
        simp (disch := first | omega | exact b2_01 _ | exact ii0_01 | exact ii1_01 | (simp (disch := omega) only [a2, qP, qL, qD, hF, hM, hC, hPi, hr4, hr5, hr6, hr7, hr8, dv0, dv1, dv2, dv3, dr4, dr5, dr6, dr7, lr0, lr1, lr2, lv3, dr_some, Option.isSome_some, gR_wI, Nat.add_mul_mod_self_left, Nat.reduceMod, ak20, ak21, ak22, ak23, ak24, ak25, ak26, ak27, ak28, ak29, ak30, ak31, ak32, ak33, ak34, ak35, ak36, an20, an21, an22, an23, an24, an25, an26, an27, an28, an29, an30, an31, an32, an33, an34, an35, an36, an37, an38, ne_eq, inR_ii, decide_eq_true_eq, lit_ii, of_ii, ii_eq, ii_lt, ii_le]; first | done | omega)) only [a2, e_Scales_fewestCardsTo, b_Scales_fewestCardsTo_0, b_Scales_fewestCardsTo_10, b_Scales_fewestCardsTo_12, b_Scales_fewestCardsTo_29, b_Scales_fewestCardsTo_36, b_Scales_fewestCardsTo_49, b_Scales_fewestCardsTo_56, b_Scales_fewestCardsTo_60, b_Scales_fewestCardsTo_64, b_Scales_fewestCardsTo_72, b_Scales_fewestCardsTo_76, b_Scales_fewestCardsTo_84, b_Scales_fewestCardsTo_98, b_Scales_fewestCardsTo_107, b_Scales_fewestCardsTo_113, b_Scales_fewestCardsTo_118, b_Scales_fewestCardsTo_123, b_Scales_fewestCardsTo_126, b_Scales_fewestCardsTo_142, b_Scales_fewestCardsTo_146, b_Scales_fewestCardsTo_150, b_Scales_fewestCardsTo_154, b_Scales_fewestCardsTo_160, e2, s_put, oi_none, ng_ng_eq, Option.isSome_none, Nat.or_zero, ii_or0, qP, qL, qD, hF, hM, hC, hPi, hr4, hr5, hr6, hr7, hr8, dv0, dv1, dv2, dv3, dr4, dr5, dr6, dr7, lr0, lr1, lr2, lv3, dr_some, Option.isSome_some, gR_wI, Nat.add_mul_mod_self_left, Nat.reduceMod, ak20, ak21, ak22, ak23, ak24, ak25, ak26, ak27, ak28, ak29, ak30, ak31, ak32, ak33, ak34, ak35, ak36, an20, an21, an22, an23, an24, an25, an26, an27, an28, an29, an30, an31, an32, an33, an34, an35, an36, an37, an38, ↓reduceIte, bk_int, bk_void, bk_long, bkN_int, bkN_void, bkN_long, Nat.reduceAdd, Nat.reduceMul, Nat.reduceSub, Nat.reduceLT, Nat.reduceLeDiff, if_true, if_false, not_true_eq_false, not_false_eq_true, Bool.true_eq_false, Bool.false_eq_true, b2_eq0, Nat.add_zero, Nat.zero_add, Nat.not_lt_zero, Nat.zero_le, ite_true, ite_false, decide_true, decide_false, lit_ii, of_ii, le_T, le_F, lt_T, lt_F, eq_T, eq_F, ii_add, ii_mul, ii_nat, ii_le, ii_lt, ii_eq, inR_ii, ii_add0]
      | some v =>
        have b1 := hlt v rfl
        obtain ⟨qP, qL, qD, ⟨hF, hM, hC, hPi, hr4, hr5, hr6, hr7, hr8, hv4, hv5, hv6, hv7, hv8⟩, ⟨dv0, dv1, dv2, dv3, dr4, dr5, dr6, dr7, dw4, dw5, dw6, dw7⟩, ⟨lr0, lr1, lr2, lv3, lw0⟩, ⟨⟨hw1, hw2, hw3, hw4, hw5⟩, hwm, hwc⟩, ⟨wd1, wd2, wd3⟩, wl, hap1, hap2, hap3⟩ := L'
        conv => lhs; simp (disch := first | omega | exact b2_01 _ | exact ii0_01 | exact ii1_01 | (simp (disch := omega) only [qP, qL, qD, hF, hM, hC, hPi, hr4, hr5, hr6, hr7, hr8, dv0, dv1, dv2, dv3, dr4, dr5, dr6, dr7, lr0, lr1, lr2, lv3, dr_some, Option.isSome_some, gR_wI, Nat.add_mul_mod_self_left, Nat.reduceMod, ak20, ak21, ak22, ak23, ak24, ak25, ak26, ak27, ak28, ak29, ak30, ak31, ak32, ak33, ak34, ak35, ak36, an20, an21, an22, an23, an24, an25, an26, an27, an28, an29, an30, an31, an32, an33, an34, an35, an36, an37, an38, ne_eq, inR_ii, decide_eq_true_eq, lit_ii, of_ii, ii_eq, ii_lt, ii_le]; first | done | omega)) only [b_Scales_fewestCardsTo_17, qP, qL, qD, hF, hM, hC, hPi, hr4, hr5, hr6, hr7, hr8, dv0, dv1, dv2, dv3, dr4, dr5, dr6, dr7, lr0, lr1, lr2, lv3, dr_some, Option.isSome_some, gR_wI, Nat.add_mul_mod_self_left, Nat.reduceMod, ak20, ak21, ak22, ak23, ak24, ak25, ak26, ak27, ak28, ak29, ak30, ak31, ak32, ak33, ak34, ak35, ak36, an20, an21, an22, an23, an24, an25, an26, an27, an28, an29, an30, an31, an32, an33, an34, an35, an36, an37, an38, ↓reduceIte, bk_int, bk_void, bk_long, bkN_int, bkN_void, bkN_long, Nat.reduceAdd, Nat.reduceMul, Nat.reduceSub, Nat.reduceLT, Nat.reduceLeDiff, if_true, if_false, not_true_eq_false, not_false_eq_true, Bool.true_eq_false, Bool.false_eq_true, b2_eq0, Nat.add_zero, Nat.zero_add, Nat.not_lt_zero, Nat.zero_le, ite_true, ite_false, decide_true, decide_false, lit_ii, of_ii, le_T, le_F, lt_T, lt_F, eq_T, eq_F, ii_add, ii_mul, ii_nat, ii_le, ii_lt, ii_eq, inR_ii, ii_add0]
        simp (disch := first | omega | exact b2_01 _ | exact ii0_01 | exact ii1_01 | (simp (disch := omega) only [a2, qP, qL, qD, hF, hM, hC, hPi, hr4, hr5, hr6, hr7, hr8, dv0, dv1, dv2, dv3, dr4, dr5, dr6, dr7, lr0, lr1, lr2, lv3, dr_some, Option.isSome_some, gR_wI, Nat.add_mul_mod_self_left, Nat.reduceMod, ak20, ak21, ak22, ak23, ak24, ak25, ak26, ak27, ak28, ak29, ak30, ak31, ak32, ak33, ak34, ak35, ak36, an20, an21, an22, an23, an24, an25, an26, an27, an28, an29, an30, an31, an32, an33, an34, an35, an36, an37, an38, ne_eq, inR_ii, decide_eq_true_eq, lit_ii, of_ii, ii_eq, ii_lt, ii_le]; first | done | omega)) only [a2, e_Scales_fewestCardsTo, b_Scales_fewestCardsTo_0, b_Scales_fewestCardsTo_10, b_Scales_fewestCardsTo_12, b_Scales_fewestCardsTo_29, b_Scales_fewestCardsTo_36, b_Scales_fewestCardsTo_49, b_Scales_fewestCardsTo_56, b_Scales_fewestCardsTo_60, b_Scales_fewestCardsTo_64, b_Scales_fewestCardsTo_72, b_Scales_fewestCardsTo_76, b_Scales_fewestCardsTo_84, b_Scales_fewestCardsTo_98, b_Scales_fewestCardsTo_107, b_Scales_fewestCardsTo_113, b_Scales_fewestCardsTo_118, b_Scales_fewestCardsTo_123, b_Scales_fewestCardsTo_126, b_Scales_fewestCardsTo_142, b_Scales_fewestCardsTo_146, b_Scales_fewestCardsTo_150, b_Scales_fewestCardsTo_154, b_Scales_fewestCardsTo_160, e2, s_put, oi_some, eq_ng, Option.isSome_some, shl1, ii_or, qP, qL, qD, hF, hM, hC, hPi, hr4, hr5, hr6, hr7, hr8, dv0, dv1, dv2, dv3, dr4, dr5, dr6, dr7, lr0, lr1, lr2, lv3, dr_some, Option.isSome_some, gR_wI, Nat.add_mul_mod_self_left, Nat.reduceMod, ak20, ak21, ak22, ak23, ak24, ak25, ak26, ak27, ak28, ak29, ak30, ak31, ak32, ak33, ak34, ak35, ak36, an20, an21, an22, an23, an24, an25, an26, an27, an28, an29, an30, an31, an32, an33, an34, an35, an36, an37, an38, ↓reduceIte, bk_int, bk_void, bk_long, bkN_int, bkN_void, bkN_long, Nat.reduceAdd, Nat.reduceMul, Nat.reduceSub, Nat.reduceLT, Nat.reduceLeDiff, if_true, if_false, not_true_eq_false, not_false_eq_true, Bool.true_eq_false, Bool.false_eq_true, b2_eq0, Nat.add_zero, Nat.zero_add, Nat.not_lt_zero, Nat.zero_le, ite_true, ite_false, decide_true, decide_false, lit_ii, of_ii, le_T, le_F, lt_T, lt_F, eq_T, eq_F, ii_add, ii_mul, ii_nat, ii_le, ii_lt, ii_eq, inR_ii, ii_add0]
    · rintro c ⟨σ', l5, rfl, F, hv⟩
      refine ⟨σ', ?_, F⟩
      have L' := L.sv (Sv2_Sv F) hu
      have A' := A.fs F
      have h1 := fun d => s_loadNow (d := d) L'
      have e1 : runF (callF (d + 5)) (d + 5) m_Scales_fewestCardsTo (17, [some (.ref (8 + 64 * u)), some (.ref (5 + 64 * t)), some (.int (ii f)), some (.int (ii (setTo (fun c => (msI H w D c (hm H)).isSome) (hc H)))), some (.int (ii (hc H))), l5, none], [], σ') = runF (callF (d + 5)) (d + 5) m_Scales_fewestCardsTo (84, [some (.ref (8 + 64 * u)), some (.ref (5 + 64 * t)), some (.int (ii f)), some (.int (ii (syS H w D))), some (.int (ii (hvs H D (Bof D)))), some (.int (-ii 1)), some (.int (ii 0))], [], σ') := by
        obtain ⟨qP, qL, qD, ⟨hF, hM, hC, hPi, hr4, hr5, hr6, hr7, hr8, hv4, hv5, hv6, hv7, hv8⟩, ⟨dv0, dv1, dv2, dv3, dr4, dr5, dr6, dr7, dw4, dw5, dw6, dw7⟩, ⟨lr0, lr1, lr2, lv3, lw0⟩, ⟨⟨hw1, hw2, hw3, hw4, hw5⟩, hwm, hwc⟩, ⟨wd1, wd2, wd3⟩, wl, hap1, hap2, hap3⟩ := L'
        simp (disch := first | omega | exact b2_01 _ | exact ii0_01 | exact ii1_01 | (simp (disch := omega) only [qP, qL, qD, hF, hM, hC, hPi, hr4, hr5, hr6, hr7, hr8, dv0, dv1, dv2, dv3, dr4, dr5, dr6, dr7, lr0, lr1, lr2, lv3, dr_some, Option.isSome_some, gR_wI, Nat.add_mul_mod_self_left, Nat.reduceMod, ak20, ak21, ak22, ak23, ak24, ak25, ak26, ak27, ak28, ak29, ak30, ak31, ak32, ak33, ak34, ak35, ak36, an20, an21, an22, an23, an24, an25, an26, an27, an28, an29, an30, an31, an32, an33, an34, an35, an36, an37, an38, ne_eq, inR_ii, decide_eq_true_eq, lit_ii, of_ii, ii_eq, ii_lt, ii_le]; first | done | omega)) only [e_Scales_fewestCardsTo, b_Scales_fewestCardsTo_0, b_Scales_fewestCardsTo_10, b_Scales_fewestCardsTo_12, b_Scales_fewestCardsTo_17, b_Scales_fewestCardsTo_29, b_Scales_fewestCardsTo_36, b_Scales_fewestCardsTo_49, b_Scales_fewestCardsTo_56, b_Scales_fewestCardsTo_60, b_Scales_fewestCardsTo_64, b_Scales_fewestCardsTo_72, b_Scales_fewestCardsTo_76, b_Scales_fewestCardsTo_98, b_Scales_fewestCardsTo_107, b_Scales_fewestCardsTo_113, b_Scales_fewestCardsTo_118, b_Scales_fewestCardsTo_123, b_Scales_fewestCardsTo_126, b_Scales_fewestCardsTo_142, b_Scales_fewestCardsTo_146, b_Scales_fewestCardsTo_150, b_Scales_fewestCardsTo_154, b_Scales_fewestCardsTo_160, h1, syS, qP, qL, qD, hF, hM, hC, hPi, hr4, hr5, hr6, hr7, hr8, dv0, dv1, dv2, dv3, dr4, dr5, dr6, dr7, lr0, lr1, lr2, lv3, dr_some, Option.isSome_some, gR_wI, Nat.add_mul_mod_self_left, Nat.reduceMod, ak20, ak21, ak22, ak23, ak24, ak25, ak26, ak27, ak28, ak29, ak30, ak31, ak32, ak33, ak34, ak35, ak36, an20, an21, an22, an23, an24, an25, an26, an27, an28, an29, an30, an31, an32, an33, an34, an35, an36, an37, an38, ↓reduceIte, bk_int, bk_void, bk_long, bkN_int, bkN_void, bkN_long, Nat.reduceAdd, Nat.reduceMul, Nat.reduceSub, Nat.reduceLT, Nat.reduceLeDiff, if_true, if_false, not_true_eq_false, not_false_eq_true, Bool.true_eq_false, Bool.false_eq_true, b2_eq0, Nat.add_zero, Nat.zero_add, Nat.not_lt_zero, Nat.zero_le, ite_true, ite_false, decide_true, decide_false, lit_ii, of_ii, le_T, le_F, lt_T, lt_F, eq_T, eq_F, ii_add, ii_mul, ii_nat, ii_le, ii_lt, ii_eq, inR_ii, ii_add0]
      rw [e1]
      have hp2 : 2 ^ hc H ≤ 2 ^ 8 := Nat.pow_le_pow_right (by decide) (by omega)
      refine loop_up (N := 2 ^ hc H) (fun k => (84, [some (.ref (8 + 64 * u)), some (.ref (5 + 64 * t)), some (.int (ii f)), some (.int (ii (syS H w D))), some (.int (ii (hvs H D (Bof D)))), some (.int (oi (toK H w D f k))), some (.int (ii k))], [], σ')) (fun k hk' => ?_) ?_ 0 (Nat.zero_le _)
      · have hsl := sSum_le (w := w) (D := D) L.wh k
        have hvl := hvs_le L.wh L.wd (Bof D)
        have hlv := L.wd.2.2
        have hbk := toK_lt (H := H) (w := w) (D := D) (f := f) k
        have hk31 : k < 2147483648 := by omega
        have pk := popc_le k
        have g1 := fun d => s_goesFrom (d := d) L' hlv (ld := hvs H D (Bof D) + sSum H w D k) (by omega)
        have gl := goesTo_lt L.wh (ld := hvs H D (Bof D) + sSum H w D k) hlv
        have bc := s_bitCount k (by omega)
        have hss : k &&& syS H w D = k → ∀ d, callF (d + 2) m_Scales_swellOfSet [.ref (8 + 64 * u), .int (ii k)] σ' = some (.inl (some (.int (ii (sSum H w D k)))), σ') := by
          intro hsub d
          have := s_swellOfSet (d := d) (f := msV H w D) A' hk' (by omega) (fun c hc hb => by
            rw [hv c hc]
            have h2 := congrArg (fun z => z.testBit c) hsub
            simp only [Nat.testBit_and, hb, Bool.true_and] at h2
            unfold syS at h2
            rw [setTo_bit] at h2
            simp only [Bool.and_eq_true] at h2
            unfold msV
            cases hq : msI H w D c (hm H) with
            | none => rw [hq] at h2; simp at h2
            | some v => rfl)
          exact this
        rw [show toK H w D f (k + 1) = if toO H w D f k (toK H w D f k) then some k else toK H w D f k from rfl]
        generalize toK H w D f k = st at *
        by_cases q1 : k &&& syS H w D = k
        · have ss := hss q1
          cases st with
          | none =>
            by_cases q3 : goesTo H (D 84) (hvs H D (Bof D) + sSum H w D k) = f
            · rw [show toO H w D f k none = true from by unfold toO; simp only [q1, q3, decide_true]; rfl]
              obtain ⟨qP, qL, qD, ⟨hF, hM, hC, hPi, hr4, hr5, hr6, hr7, hr8, hv4, hv5, hv6, hv7, hv8⟩, ⟨dv0, dv1, dv2, dv3, dr4, dr5, dr6, dr7, dw4, dw5, dw6, dw7⟩, ⟨lr0, lr1, lr2, lv3, lw0⟩, ⟨⟨hw1, hw2, hw3, hw4, hw5⟩, hwm, hwc⟩, ⟨wd1, wd2, wd3⟩, wl, hap1, hap2, hap3⟩ := L'
              conv => lhs; simp (disch := first | omega | exact b2_01 _ | exact ii0_01 | exact ii1_01 | (simp (disch := omega) only [qP, qL, qD, hF, hM, hC, hPi, hr4, hr5, hr6, hr7, hr8, dv0, dv1, dv2, dv3, dr4, dr5, dr6, dr7, lr0, lr1, lr2, lv3, dr_some, Option.isSome_some, gR_wI, Nat.add_mul_mod_self_left, Nat.reduceMod, ak20, ak21, ak22, ak23, ak24, ak25, ak26, ak27, ak28, ak29, ak30, ak31, ak32, ak33, ak34, ak35, ak36, an20, an21, an22, an23, an24, an25, an26, an27, an28, an29, an30, an31, an32, an33, an34, an35, an36, an37, an38, ne_eq, inR_ii, decide_eq_true_eq, lit_ii, of_ii, ii_eq, ii_lt, ii_le]; first | done | omega)) only [b_Scales_fewestCardsTo_84, shl1, qP, qL, qD, hF, hM, hC, hPi, hr4, hr5, hr6, hr7, hr8, dv0, dv1, dv2, dv3, dr4, dr5, dr6, dr7, lr0, lr1, lr2, lv3, dr_some, Option.isSome_some, gR_wI, Nat.add_mul_mod_self_left, Nat.reduceMod, ak20, ak21, ak22, ak23, ak24, ak25, ak26, ak27, ak28, ak29, ak30, ak31, ak32, ak33, ak34, ak35, ak36, an20, an21, an22, an23, an24, an25, an26, an27, an28, an29, an30, an31, an32, an33, an34, an35, an36, an37, an38, ↓reduceIte, bk_int, bk_void, bk_long, bkN_int, bkN_void, bkN_long, Nat.reduceAdd, Nat.reduceMul, Nat.reduceSub, Nat.reduceLT, Nat.reduceLeDiff, if_true, if_false, not_true_eq_false, not_false_eq_true, Bool.true_eq_false, Bool.false_eq_true, b2_eq0, Nat.add_zero, Nat.zero_add, Nat.not_lt_zero, Nat.zero_le, ite_true, ite_false, decide_true, decide_false, lit_ii, of_ii, le_T, le_F, lt_T, lt_F, eq_T, eq_F, ii_add, ii_mul, ii_nat, ii_le, ii_lt, ii_eq, inR_ii, ii_add0]
              simp (disch := first | omega | exact b2_01 _ | exact ii0_01 | exact ii1_01 | (simp (disch := omega) only [qP, qL, qD, hF, hM, hC, hPi, hr4, hr5, hr6, hr7, hr8, dv0, dv1, dv2, dv3, dr4, dr5, dr6, dr7, lr0, lr1, lr2, lv3, dr_some, Option.isSome_some, gR_wI, Nat.add_mul_mod_self_left, Nat.reduceMod, ak20, ak21, ak22, ak23, ak24, ak25, ak26, ak27, ak28, ak29, ak30, ak31, ak32, ak33, ak34, ak35, ak36, an20, an21, an22, an23, an24, an25, an26, an27, an28, an29, an30, an31, an32, an33, an34, an35, an36, an37, an38, ne_eq, inR_ii, decide_eq_true_eq, lit_ii, of_ii, ii_eq, ii_lt, ii_le]; first | done | omega)) only [e_Scales_fewestCardsTo, b_Scales_fewestCardsTo_0, b_Scales_fewestCardsTo_10, b_Scales_fewestCardsTo_12, b_Scales_fewestCardsTo_17, b_Scales_fewestCardsTo_29, b_Scales_fewestCardsTo_36, b_Scales_fewestCardsTo_49, b_Scales_fewestCardsTo_56, b_Scales_fewestCardsTo_60, b_Scales_fewestCardsTo_64, b_Scales_fewestCardsTo_72, b_Scales_fewestCardsTo_76, b_Scales_fewestCardsTo_98, b_Scales_fewestCardsTo_107, b_Scales_fewestCardsTo_113, b_Scales_fewestCardsTo_118, b_Scales_fewestCardsTo_123, b_Scales_fewestCardsTo_126, b_Scales_fewestCardsTo_142, b_Scales_fewestCardsTo_146, b_Scales_fewestCardsTo_150, b_Scales_fewestCardsTo_154, b_Scales_fewestCardsTo_160, mask0 hk31, q1, oi_none, oi_some, ng_ng_eq, ss, g1, q3, qP, qL, qD, hF, hM, hC, hPi, hr4, hr5, hr6, hr7, hr8, dv0, dv1, dv2, dv3, dr4, dr5, dr6, dr7, lr0, lr1, lr2, lv3, dr_some, Option.isSome_some, gR_wI, Nat.add_mul_mod_self_left, Nat.reduceMod, ak20, ak21, ak22, ak23, ak24, ak25, ak26, ak27, ak28, ak29, ak30, ak31, ak32, ak33, ak34, ak35, ak36, an20, an21, an22, an23, an24, an25, an26, an27, an28, an29, an30, an31, an32, an33, an34, an35, an36, an37, an38, ↓reduceIte, bk_int, bk_void, bk_long, bkN_int, bkN_void, bkN_long, Nat.reduceAdd, Nat.reduceMul, Nat.reduceSub, Nat.reduceLT, Nat.reduceLeDiff, if_true, if_false, not_true_eq_false, not_false_eq_true, Bool.true_eq_false, Bool.false_eq_true, b2_eq0, Nat.add_zero, Nat.zero_add, Nat.not_lt_zero, Nat.zero_le, ite_true, ite_false, decide_true, decide_false, lit_ii, of_ii, le_T, le_F, lt_T, lt_F, eq_T, eq_F, ii_add, ii_mul, ii_nat, ii_le, ii_lt, ii_eq, inR_ii, ii_add0]
            · rw [show toO H w D f k none = false from by unfold toO; simp only [q1, q3, decide_true, decide_false]; rfl]
              obtain ⟨qP, qL, qD, ⟨hF, hM, hC, hPi, hr4, hr5, hr6, hr7, hr8, hv4, hv5, hv6, hv7, hv8⟩, ⟨dv0, dv1, dv2, dv3, dr4, dr5, dr6, dr7, dw4, dw5, dw6, dw7⟩, ⟨lr0, lr1, lr2, lv3, lw0⟩, ⟨⟨hw1, hw2, hw3, hw4, hw5⟩, hwm, hwc⟩, ⟨wd1, wd2, wd3⟩, wl, hap1, hap2, hap3⟩ := L'
              conv => lhs; simp (disch := first | omega | exact b2_01 _ | exact ii0_01 | exact ii1_01 | (simp (disch := omega) only [qP, qL, qD, hF, hM, hC, hPi, hr4, hr5, hr6, hr7, hr8, dv0, dv1, dv2, dv3, dr4, dr5, dr6, dr7, lr0, lr1, lr2, lv3, dr_some, Option.isSome_some, gR_wI, Nat.add_mul_mod_self_left, Nat.reduceMod, ak20, ak21, ak22, ak23, ak24, ak25, ak26, ak27, ak28, ak29, ak30, ak31, ak32, ak33, ak34, ak35, ak36, an20, an21, an22, an23, an24, an25, an26, an27, an28, an29, an30, an31, an32, an33, an34, an35, an36, an37, an38, ne_eq, inR_ii, decide_eq_true_eq, lit_ii, of_ii, ii_eq, ii_lt, ii_le]; first | done | omega)) only [b_Scales_fewestCardsTo_84, shl1, qP, qL, qD, hF, hM, hC, hPi, hr4, hr5, hr6, hr7, hr8, dv0, dv1, dv2, dv3, dr4, dr5, dr6, dr7, lr0, lr1, lr2, lv3, dr_some, Option.isSome_some, gR_wI, Nat.add_mul_mod_self_left, Nat.reduceMod, ak20, ak21, ak22, ak23, ak24, ak25, ak26, ak27, ak28, ak29, ak30, ak31, ak32, ak33, ak34, ak35, ak36, an20, an21, an22, an23, an24, an25, an26, an27, an28, an29, an30, an31, an32, an33, an34, an35, an36, an37, an38, ↓reduceIte, bk_int, bk_void, bk_long, bkN_int, bkN_void, bkN_long, Nat.reduceAdd, Nat.reduceMul, Nat.reduceSub, Nat.reduceLT, Nat.reduceLeDiff, if_true, if_false, not_true_eq_false, not_false_eq_true, Bool.true_eq_false, Bool.false_eq_true, b2_eq0, Nat.add_zero, Nat.zero_add, Nat.not_lt_zero, Nat.zero_le, ite_true, ite_false, decide_true, decide_false, lit_ii, of_ii, le_T, le_F, lt_T, lt_F, eq_T, eq_F, ii_add, ii_mul, ii_nat, ii_le, ii_lt, ii_eq, inR_ii, ii_add0]
              simp (disch := first | omega | exact b2_01 _ | exact ii0_01 | exact ii1_01 | (simp (disch := omega) only [qP, qL, qD, hF, hM, hC, hPi, hr4, hr5, hr6, hr7, hr8, dv0, dv1, dv2, dv3, dr4, dr5, dr6, dr7, lr0, lr1, lr2, lv3, dr_some, Option.isSome_some, gR_wI, Nat.add_mul_mod_self_left, Nat.reduceMod, ak20, ak21, ak22, ak23, ak24, ak25, ak26, ak27, ak28, ak29, ak30, ak31, ak32, ak33, ak34, ak35, ak36, an20, an21, an22, an23, an24, an25, an26, an27, an28, an29, an30, an31, an32, an33, an34, an35, an36, an37, an38, ne_eq, inR_ii, decide_eq_true_eq, lit_ii, of_ii, ii_eq, ii_lt, ii_le]; first | done | omega)) only [e_Scales_fewestCardsTo, b_Scales_fewestCardsTo_0, b_Scales_fewestCardsTo_10, b_Scales_fewestCardsTo_12, b_Scales_fewestCardsTo_17, b_Scales_fewestCardsTo_29, b_Scales_fewestCardsTo_36, b_Scales_fewestCardsTo_49, b_Scales_fewestCardsTo_56, b_Scales_fewestCardsTo_60, b_Scales_fewestCardsTo_64, b_Scales_fewestCardsTo_72, b_Scales_fewestCardsTo_76, b_Scales_fewestCardsTo_98, b_Scales_fewestCardsTo_107, b_Scales_fewestCardsTo_113, b_Scales_fewestCardsTo_118, b_Scales_fewestCardsTo_123, b_Scales_fewestCardsTo_126, b_Scales_fewestCardsTo_142, b_Scales_fewestCardsTo_146, b_Scales_fewestCardsTo_150, b_Scales_fewestCardsTo_154, b_Scales_fewestCardsTo_160, mask0 hk31, q1, oi_none, oi_some, ng_ng_eq, ss, g1, q3, qP, qL, qD, hF, hM, hC, hPi, hr4, hr5, hr6, hr7, hr8, dv0, dv1, dv2, dv3, dr4, dr5, dr6, dr7, lr0, lr1, lr2, lv3, dr_some, Option.isSome_some, gR_wI, Nat.add_mul_mod_self_left, Nat.reduceMod, ak20, ak21, ak22, ak23, ak24, ak25, ak26, ak27, ak28, ak29, ak30, ak31, ak32, ak33, ak34, ak35, ak36, an20, an21, an22, an23, an24, an25, an26, an27, an28, an29, an30, an31, an32, an33, an34, an35, an36, an37, an38, ↓reduceIte, bk_int, bk_void, bk_long, bkN_int, bkN_void, bkN_long, Nat.reduceAdd, Nat.reduceMul, Nat.reduceSub, Nat.reduceLT, Nat.reduceLeDiff, if_true, if_false, not_true_eq_false, not_false_eq_true, Bool.true_eq_false, Bool.false_eq_true, b2_eq0, Nat.add_zero, Nat.zero_add, Nat.not_lt_zero, Nat.zero_le, ite_true, ite_false, decide_true, decide_false, lit_ii, of_ii, le_T, le_F, lt_T, lt_F, eq_T, eq_F, ii_add, ii_mul, ii_nat, ii_le, ii_lt, ii_eq, inR_ii, ii_add0]
          | some b =>
            have b1 := hbk b rfl
            have pb := popc_le b
            have bb := s_bitCount b (by omega)
            by_cases q2 : popc k < popc b
            · by_cases q3 : goesTo H (D 84) (hvs H D (Bof D) + sSum H w D k) = f
              · rw [show toO H w D f k (some b) = true from by unfold toO; simp only [q1, q2, q3, decide_true]; rfl]
                obtain ⟨qP, qL, qD, ⟨hF, hM, hC, hPi, hr4, hr5, hr6, hr7, hr8, hv4, hv5, hv6, hv7, hv8⟩, ⟨dv0, dv1, dv2, dv3, dr4, dr5, dr6, dr7, dw4, dw5, dw6, dw7⟩, ⟨lr0, lr1, lr2, lv3, lw0⟩, ⟨⟨hw1, hw2, hw3, hw4, hw5⟩, hwm, hwc⟩, ⟨wd1, wd2, wd3⟩, wl, hap1, hap2, hap3⟩ := L'
                conv => lhs; simp (disch := first | omega | exact b2_01 _ | exact ii0_01 | exact ii1_01 | (simp (disch := omega) only [qP, qL, qD, hF, hM, hC, hPi, hr4, hr5, hr6, hr7, hr8, dv0, dv1, dv2, dv3, dr4, dr5, dr6, dr7, lr0, lr1, lr2, lv3, dr_some, Option.isSome_some, gR_wI, Nat.add_mul_mod_self_left, Nat.reduceMod, ak20, ak21, ak22, ak23, ak24, ak25, ak26, ak27, ak28, ak29, ak30, ak31, ak32, ak33, ak34, ak35, ak36, an20, an21, an22, an23, an24, an25, an26, an27, an28, an29, an30, an31, an32, an33, an34, an35, an36, an37, an38, ne_eq, inR_ii, decide_eq_true_eq, lit_ii, of_ii, ii_eq, ii_lt, ii_le]; first | done | omega)) only [b_Scales_fewestCardsTo_84, shl1, qP, qL, qD, hF, hM, hC, hPi, hr4, hr5, hr6, hr7, hr8, dv0, dv1, dv2, dv3, dr4, dr5, dr6, dr7, lr0, lr1, lr2, lv3, dr_some, Option.isSome_some, gR_wI, Nat.add_mul_mod_self_left, Nat.reduceMod, ak20, ak21, ak22, ak23, ak24, ak25, ak26, ak27, ak28, ak29, ak30, ak31, ak32, ak33, ak34, ak35, ak36, an20, an21, an22, an23, an24, an25, an26, an27, an28, an29, an30, an31, an32, an33, an34, an35, an36, an37, an38, ↓reduceIte, bk_int, bk_void, bk_long, bkN_int, bkN_void, bkN_long, Nat.reduceAdd, Nat.reduceMul, Nat.reduceSub, Nat.reduceLT, Nat.reduceLeDiff, if_true, if_false, not_true_eq_false, not_false_eq_true, Bool.true_eq_false, Bool.false_eq_true, b2_eq0, Nat.add_zero, Nat.zero_add, Nat.not_lt_zero, Nat.zero_le, ite_true, ite_false, decide_true, decide_false, lit_ii, of_ii, le_T, le_F, lt_T, lt_F, eq_T, eq_F, ii_add, ii_mul, ii_nat, ii_le, ii_lt, ii_eq, inR_ii, ii_add0]
                simp (disch := first | omega | exact b2_01 _ | exact ii0_01 | exact ii1_01 | (simp (disch := omega) only [qP, qL, qD, hF, hM, hC, hPi, hr4, hr5, hr6, hr7, hr8, dv0, dv1, dv2, dv3, dr4, dr5, dr6, dr7, lr0, lr1, lr2, lv3, dr_some, Option.isSome_some, gR_wI, Nat.add_mul_mod_self_left, Nat.reduceMod, ak20, ak21, ak22, ak23, ak24, ak25, ak26, ak27, ak28, ak29, ak30, ak31, ak32, ak33, ak34, ak35, ak36, an20, an21, an22, an23, an24, an25, an26, an27, an28, an29, an30, an31, an32, an33, an34, an35, an36, an37, an38, ne_eq, inR_ii, decide_eq_true_eq, lit_ii, of_ii, ii_eq, ii_lt, ii_le]; first | done | omega)) only [e_Scales_fewestCardsTo, b_Scales_fewestCardsTo_0, b_Scales_fewestCardsTo_10, b_Scales_fewestCardsTo_12, b_Scales_fewestCardsTo_17, b_Scales_fewestCardsTo_29, b_Scales_fewestCardsTo_36, b_Scales_fewestCardsTo_49, b_Scales_fewestCardsTo_56, b_Scales_fewestCardsTo_60, b_Scales_fewestCardsTo_64, b_Scales_fewestCardsTo_72, b_Scales_fewestCardsTo_76, b_Scales_fewestCardsTo_98, b_Scales_fewestCardsTo_107, b_Scales_fewestCardsTo_113, b_Scales_fewestCardsTo_118, b_Scales_fewestCardsTo_123, b_Scales_fewestCardsTo_126, b_Scales_fewestCardsTo_142, b_Scales_fewestCardsTo_146, b_Scales_fewestCardsTo_150, b_Scales_fewestCardsTo_154, b_Scales_fewestCardsTo_160, mask0 hk31, q1, oi_none, oi_some, eq_ng, bc, bb, ss, g1, q3, qP, qL, qD, hF, hM, hC, hPi, hr4, hr5, hr6, hr7, hr8, dv0, dv1, dv2, dv3, dr4, dr5, dr6, dr7, lr0, lr1, lr2, lv3, dr_some, Option.isSome_some, gR_wI, Nat.add_mul_mod_self_left, Nat.reduceMod, ak20, ak21, ak22, ak23, ak24, ak25, ak26, ak27, ak28, ak29, ak30, ak31, ak32, ak33, ak34, ak35, ak36, an20, an21, an22, an23, an24, an25, an26, an27, an28, an29, an30, an31, an32, an33, an34, an35, an36, an37, an38, ↓reduceIte, bk_int, bk_void, bk_long, bkN_int, bkN_void, bkN_long, Nat.reduceAdd, Nat.reduceMul, Nat.reduceSub, Nat.reduceLT, Nat.reduceLeDiff, if_true, if_false, not_true_eq_false, not_false_eq_true, Bool.true_eq_false, Bool.false_eq_true, b2_eq0, Nat.add_zero, Nat.zero_add, Nat.not_lt_zero, Nat.zero_le, ite_true, ite_false, decide_true, decide_false, lit_ii, of_ii, le_T, le_F, lt_T, lt_F, eq_T, eq_F, ii_add, ii_mul, ii_nat, ii_le, ii_lt, ii_eq, inR_ii, ii_add0]
              · rw [show toO H w D f k (some b) = false from by unfold toO; simp only [q1, q2, q3, decide_true, decide_false]; rfl]
                obtain ⟨qP, qL, qD, ⟨hF, hM, hC, hPi, hr4, hr5, hr6, hr7, hr8, hv4, hv5, hv6, hv7, hv8⟩, ⟨dv0, dv1, dv2, dv3, dr4, dr5, dr6, dr7, dw4, dw5, dw6, dw7⟩, ⟨lr0, lr1, lr2, lv3, lw0⟩, ⟨⟨hw1, hw2, hw3, hw4, hw5⟩, hwm, hwc⟩, ⟨wd1, wd2, wd3⟩, wl, hap1, hap2, hap3⟩ := L'
                conv => lhs; simp (disch := first | omega | exact b2_01 _ | exact ii0_01 | exact ii1_01 | (simp (disch := omega) only [qP, qL, qD, hF, hM, hC, hPi, hr4, hr5, hr6, hr7, hr8, dv0, dv1, dv2, dv3, dr4, dr5, dr6, dr7, lr0, lr1, lr2, lv3, dr_some, Option.isSome_some, gR_wI, Nat.add_mul_mod_self_left, Nat.reduceMod, ak20, ak21, ak22, ak23, ak24, ak25, ak26, ak27, ak28, ak29, ak30, ak31, ak32, ak33, ak34, ak35, ak36, an20, an21, an22, an23, an24, an25, an26, an27, an28, an29, an30, an31, an32, an33, an34, an35, an36, an37, an38, ne_eq, inR_ii, decide_eq_true_eq, lit_ii, of_ii, ii_eq, ii_lt, ii_le]; first | done | omega)) only [b_Scales_fewestCardsTo_84, shl1, qP, qL, qD, hF, hM, hC, hPi, hr4, hr5, hr6, hr7, hr8, dv0, dv1, dv2, dv3, dr4, dr5, dr6, dr7, lr0, lr1, lr2, lv3, dr_some, Option.isSome_some, gR_wI, Nat.add_mul_mod_self_left, Nat.reduceMod, ak20, ak21, ak22, ak23, ak24, ak25, ak26, ak27, ak28, ak29, ak30, ak31, ak32, ak33, ak34, ak35, ak36, an20, an21, an22, an23, an24, an25, an26, an27, an28, an29, an30, an31, an32, an33, an34, an35, an36, an37, an38, ↓reduceIte, bk_int, bk_void, bk_long, bkN_int, bkN_void, bkN_long, Nat.reduceAdd, Nat.reduceMul, Nat.reduceSub, Nat.reduceLT, Nat.reduceLeDiff, if_true, if_false, not_true_eq_false, not_false_eq_true, Bool.true_eq_false, Bool.false_eq_true, b2_eq0, Nat.add_zero, Nat.zero_add, Nat.not_lt_zero, Nat.zero_le, ite_true, ite_false, decide_true, decide_false, lit_ii, of_ii, le_T, le_F, lt_T, lt_F, eq_T, eq_F, ii_add, ii_mul, ii_nat, ii_le, ii_lt, ii_eq, inR_ii, ii_add0]
                simp (disch := first | omega | exact b2_01 _ | exact ii0_01 | exact ii1_01 | (simp (disch := omega) only [qP, qL, qD, hF, hM, hC, hPi, hr4, hr5, hr6, hr7, hr8, dv0, dv1, dv2, dv3, dr4, dr5, dr6, dr7, lr0, lr1, lr2, lv3, dr_some, Option.isSome_some, gR_wI, Nat.add_mul_mod_self_left, Nat.reduceMod, ak20, ak21, ak22, ak23, ak24, ak25, ak26, ak27, ak28, ak29, ak30, ak31, ak32, ak33, ak34, ak35, ak36, an20, an21, an22, an23, an24, an25, an26, an27, an28, an29, an30, an31, an32, an33, an34, an35, an36, an37, an38, ne_eq, inR_ii, decide_eq_true_eq, lit_ii, of_ii, ii_eq, ii_lt, ii_le]; first | done | omega)) only [e_Scales_fewestCardsTo, b_Scales_fewestCardsTo_0, b_Scales_fewestCardsTo_10, b_Scales_fewestCardsTo_12, b_Scales_fewestCardsTo_17, b_Scales_fewestCardsTo_29, b_Scales_fewestCardsTo_36, b_Scales_fewestCardsTo_49, b_Scales_fewestCardsTo_56, b_Scales_fewestCardsTo_60, b_Scales_fewestCardsTo_64, b_Scales_fewestCardsTo_72, b_Scales_fewestCardsTo_76, b_Scales_fewestCardsTo_98, b_Scales_fewestCardsTo_107, b_Scales_fewestCardsTo_113, b_Scales_fewestCardsTo_118, b_Scales_fewestCardsTo_123, b_Scales_fewestCardsTo_126, b_Scales_fewestCardsTo_142, b_Scales_fewestCardsTo_146, b_Scales_fewestCardsTo_150, b_Scales_fewestCardsTo_154, b_Scales_fewestCardsTo_160, mask0 hk31, q1, oi_none, oi_some, eq_ng, bc, bb, ss, g1, q3, qP, qL, qD, hF, hM, hC, hPi, hr4, hr5, hr6, hr7, hr8, dv0, dv1, dv2, dv3, dr4, dr5, dr6, dr7, lr0, lr1, lr2, lv3, dr_some, Option.isSome_some, gR_wI, Nat.add_mul_mod_self_left, Nat.reduceMod, ak20, ak21, ak22, ak23, ak24, ak25, ak26, ak27, ak28, ak29, ak30, ak31, ak32, ak33, ak34, ak35, ak36, an20, an21, an22, an23, an24, an25, an26, an27, an28, an29, an30, an31, an32, an33, an34, an35, an36, an37, an38, ↓reduceIte, bk_int, bk_void, bk_long, bkN_int, bkN_void, bkN_long, Nat.reduceAdd, Nat.reduceMul, Nat.reduceSub, Nat.reduceLT, Nat.reduceLeDiff, if_true, if_false, not_true_eq_false, not_false_eq_true, Bool.true_eq_false, Bool.false_eq_true, b2_eq0, Nat.add_zero, Nat.zero_add, Nat.not_lt_zero, Nat.zero_le, ite_true, ite_false, decide_true, decide_false, lit_ii, of_ii, le_T, le_F, lt_T, lt_F, eq_T, eq_F, ii_add, ii_mul, ii_nat, ii_le, ii_lt, ii_eq, inR_ii, ii_add0]
            · rw [show toO H w D f k (some b) = false from by unfold toO; simp only [q1, q2, decide_true, decide_false]; rfl]
              obtain ⟨qP, qL, qD, ⟨hF, hM, hC, hPi, hr4, hr5, hr6, hr7, hr8, hv4, hv5, hv6, hv7, hv8⟩, ⟨dv0, dv1, dv2, dv3, dr4, dr5, dr6, dr7, dw4, dw5, dw6, dw7⟩, ⟨lr0, lr1, lr2, lv3, lw0⟩, ⟨⟨hw1, hw2, hw3, hw4, hw5⟩, hwm, hwc⟩, ⟨wd1, wd2, wd3⟩, wl, hap1, hap2, hap3⟩ := L'
              conv => lhs; simp (disch := first | omega | exact b2_01 _ | exact ii0_01 | exact ii1_01 | (simp (disch := omega) only [qP, qL, qD, hF, hM, hC, hPi, hr4, hr5, hr6, hr7, hr8, dv0, dv1, dv2, dv3, dr4, dr5, dr6, dr7, lr0, lr1, lr2, lv3, dr_some, Option.isSome_some, gR_wI, Nat.add_mul_mod_self_left, Nat.reduceMod, ak20, ak21, ak22, ak23, ak24, ak25, ak26, ak27, ak28, ak29, ak30, ak31, ak32, ak33, ak34, ak35, ak36, an20, an21, an22, an23, an24, an25, an26, an27, an28, an29, an30, an31, an32, an33, an34, an35, an36, an37, an38, ne_eq, inR_ii, decide_eq_true_eq, lit_ii, of_ii, ii_eq, ii_lt, ii_le]; first | done | omega)) only [b_Scales_fewestCardsTo_84, shl1, qP, qL, qD, hF, hM, hC, hPi, hr4, hr5, hr6, hr7, hr8, dv0, dv1, dv2, dv3, dr4, dr5, dr6, dr7, lr0, lr1, lr2, lv3, dr_some, Option.isSome_some, gR_wI, Nat.add_mul_mod_self_left, Nat.reduceMod, ak20, ak21, ak22, ak23, ak24, ak25, ak26, ak27, ak28, ak29, ak30, ak31, ak32, ak33, ak34, ak35, ak36, an20, an21, an22, an23, an24, an25, an26, an27, an28, an29, an30, an31, an32, an33, an34, an35, an36, an37, an38, ↓reduceIte, bk_int, bk_void, bk_long, bkN_int, bkN_void, bkN_long, Nat.reduceAdd, Nat.reduceMul, Nat.reduceSub, Nat.reduceLT, Nat.reduceLeDiff, if_true, if_false, not_true_eq_false, not_false_eq_true, Bool.true_eq_false, Bool.false_eq_true, b2_eq0, Nat.add_zero, Nat.zero_add, Nat.not_lt_zero, Nat.zero_le, ite_true, ite_false, decide_true, decide_false, lit_ii, of_ii, le_T, le_F, lt_T, lt_F, eq_T, eq_F, ii_add, ii_mul, ii_nat, ii_le, ii_lt, ii_eq, inR_ii, ii_add0]
              simp (disch := first | omega | exact b2_01 _ | exact ii0_01 | exact ii1_01 | (simp (disch := omega) only [qP, qL, qD, hF, hM, hC, hPi, hr4, hr5, hr6, hr7, hr8, dv0, dv1, dv2, dv3, dr4, dr5, dr6, dr7, lr0, lr1, lr2, lv3, dr_some, Option.isSome_some, gR_wI, Nat.add_mul_mod_self_left, Nat.reduceMod, ak20, ak21, ak22, ak23, ak24, ak25, ak26, ak27, ak28, ak29, ak30, ak31, ak32, ak33, ak34, ak35, ak36, an20, an21, an22, an23, an24, an25, an26, an27, an28, an29, an30, an31, an32, an33, an34, an35, an36, an37, an38, ne_eq, inR_ii, decide_eq_true_eq, lit_ii, of_ii, ii_eq, ii_lt, ii_le]; first | done | omega)) only [e_Scales_fewestCardsTo, b_Scales_fewestCardsTo_0, b_Scales_fewestCardsTo_10, b_Scales_fewestCardsTo_12, b_Scales_fewestCardsTo_17, b_Scales_fewestCardsTo_29, b_Scales_fewestCardsTo_36, b_Scales_fewestCardsTo_49, b_Scales_fewestCardsTo_56, b_Scales_fewestCardsTo_60, b_Scales_fewestCardsTo_64, b_Scales_fewestCardsTo_72, b_Scales_fewestCardsTo_76, b_Scales_fewestCardsTo_98, b_Scales_fewestCardsTo_107, b_Scales_fewestCardsTo_113, b_Scales_fewestCardsTo_118, b_Scales_fewestCardsTo_123, b_Scales_fewestCardsTo_126, b_Scales_fewestCardsTo_142, b_Scales_fewestCardsTo_146, b_Scales_fewestCardsTo_150, b_Scales_fewestCardsTo_154, b_Scales_fewestCardsTo_160, mask0 hk31, q1, oi_none, oi_some, eq_ng, bc, bb, qP, qL, qD, hF, hM, hC, hPi, hr4, hr5, hr6, hr7, hr8, dv0, dv1, dv2, dv3, dr4, dr5, dr6, dr7, lr0, lr1, lr2, lv3, dr_some, Option.isSome_some, gR_wI, Nat.add_mul_mod_self_left, Nat.reduceMod, ak20, ak21, ak22, ak23, ak24, ak25, ak26, ak27, ak28, ak29, ak30, ak31, ak32, ak33, ak34, ak35, ak36, an20, an21, an22, an23, an24, an25, an26, an27, an28, an29, an30, an31, an32, an33, an34, an35, an36, an37, an38, ↓reduceIte, bk_int, bk_void, bk_long, bkN_int, bkN_void, bkN_long, Nat.reduceAdd, Nat.reduceMul, Nat.reduceSub, Nat.reduceLT, Nat.reduceLeDiff, if_true, if_false, not_true_eq_false, not_false_eq_true, Bool.true_eq_false, Bool.false_eq_true, b2_eq0, Nat.add_zero, Nat.zero_add, Nat.not_lt_zero, Nat.zero_le, ite_true, ite_false, decide_true, decide_false, lit_ii, of_ii, le_T, le_F, lt_T, lt_F, eq_T, eq_F, ii_add, ii_mul, ii_nat, ii_le, ii_lt, ii_eq, inR_ii, ii_add0]
        · rw [show toO H w D f k st = false from by unfold toO; simp only [q1, decide_false]; rfl]
          obtain ⟨qP, qL, qD, ⟨hF, hM, hC, hPi, hr4, hr5, hr6, hr7, hr8, hv4, hv5, hv6, hv7, hv8⟩, ⟨dv0, dv1, dv2, dv3, dr4, dr5, dr6, dr7, dw4, dw5, dw6, dw7⟩, ⟨lr0, lr1, lr2, lv3, lw0⟩, ⟨⟨hw1, hw2, hw3, hw4, hw5⟩, hwm, hwc⟩, ⟨wd1, wd2, wd3⟩, wl, hap1, hap2, hap3⟩ := L'
          conv => lhs; simp (disch := first | omega | exact b2_01 _ | exact ii0_01 | exact ii1_01 | (simp (disch := omega) only [qP, qL, qD, hF, hM, hC, hPi, hr4, hr5, hr6, hr7, hr8, dv0, dv1, dv2, dv3, dr4, dr5, dr6, dr7, lr0, lr1, lr2, lv3, dr_some, Option.isSome_some, gR_wI, Nat.add_mul_mod_self_left, Nat.reduceMod, ak20, ak21, ak22, ak23, ak24, ak25, ak26, ak27, ak28, ak29, ak30, ak31, ak32, ak33, ak34, ak35, ak36, an20, an21, an22, an23, an24, an25, an26, an27, an28, an29, an30, an31, an32, an33, an34, an35, an36, an37, an38, ne_eq, inR_ii, decide_eq_true_eq, lit_ii, of_ii, ii_eq, ii_lt, ii_le]; first | done | omega)) only [b_Scales_fewestCardsTo_84, shl1, qP, qL, qD, hF, hM, hC, hPi, hr4, hr5, hr6, hr7, hr8, dv0, dv1, dv2, dv3, dr4, dr5, dr6, dr7, lr0, lr1, lr2, lv3, dr_some, Option.isSome_some, gR_wI, Nat.add_mul_mod_self_left, Nat.reduceMod, ak20, ak21, ak22, ak23, ak24, ak25, ak26, ak27, ak28, ak29, ak30, ak31, ak32, ak33, ak34, ak35, ak36, an20, an21, an22, an23, an24, an25, an26, an27, an28, an29, an30, an31, an32, an33, an34, an35, an36, an37, an38, ↓reduceIte, bk_int, bk_void, bk_long, bkN_int, bkN_void, bkN_long, Nat.reduceAdd, Nat.reduceMul, Nat.reduceSub, Nat.reduceLT, Nat.reduceLeDiff, if_true, if_false, not_true_eq_false, not_false_eq_true, Bool.true_eq_false, Bool.false_eq_true, b2_eq0, Nat.add_zero, Nat.zero_add, Nat.not_lt_zero, Nat.zero_le, ite_true, ite_false, decide_true, decide_false, lit_ii, of_ii, le_T, le_F, lt_T, lt_F, eq_T, eq_F, ii_add, ii_mul, ii_nat, ii_le, ii_lt, ii_eq, inR_ii, ii_add0]
          simp (disch := first | omega | exact b2_01 _ | exact ii0_01 | exact ii1_01 | (simp (disch := omega) only [qP, qL, qD, hF, hM, hC, hPi, hr4, hr5, hr6, hr7, hr8, dv0, dv1, dv2, dv3, dr4, dr5, dr6, dr7, lr0, lr1, lr2, lv3, dr_some, Option.isSome_some, gR_wI, Nat.add_mul_mod_self_left, Nat.reduceMod, ak20, ak21, ak22, ak23, ak24, ak25, ak26, ak27, ak28, ak29, ak30, ak31, ak32, ak33, ak34, ak35, ak36, an20, an21, an22, an23, an24, an25, an26, an27, an28, an29, an30, an31, an32, an33, an34, an35, an36, an37, an38, ne_eq, inR_ii, decide_eq_true_eq, lit_ii, of_ii, ii_eq, ii_lt, ii_le]; first | done | omega)) only [e_Scales_fewestCardsTo, b_Scales_fewestCardsTo_0, b_Scales_fewestCardsTo_10, b_Scales_fewestCardsTo_12, b_Scales_fewestCardsTo_17, b_Scales_fewestCardsTo_29, b_Scales_fewestCardsTo_36, b_Scales_fewestCardsTo_49, b_Scales_fewestCardsTo_56, b_Scales_fewestCardsTo_60, b_Scales_fewestCardsTo_64, b_Scales_fewestCardsTo_72, b_Scales_fewestCardsTo_76, b_Scales_fewestCardsTo_98, b_Scales_fewestCardsTo_107, b_Scales_fewestCardsTo_113, b_Scales_fewestCardsTo_118, b_Scales_fewestCardsTo_123, b_Scales_fewestCardsTo_126, b_Scales_fewestCardsTo_142, b_Scales_fewestCardsTo_146, b_Scales_fewestCardsTo_150, b_Scales_fewestCardsTo_154, b_Scales_fewestCardsTo_160, mask0 hk31, q1, qP, qL, qD, hF, hM, hC, hPi, hr4, hr5, hr6, hr7, hr8, dv0, dv1, dv2, dv3, dr4, dr5, dr6, dr7, lr0, lr1, lr2, lv3, dr_some, Option.isSome_some, gR_wI, Nat.add_mul_mod_self_left, Nat.reduceMod, ak20, ak21, ak22, ak23, ak24, ak25, ak26, ak27, ak28, ak29, ak30, ak31, ak32, ak33, ak34, ak35, ak36, an20, an21, an22, an23, an24, an25, an26, an27, an28, an29, an30, an31, an32, an33, an34, an35, an36, an37, an38, ↓reduceIte, bk_int, bk_void, bk_long, bkN_int, bkN_void, bkN_long, Nat.reduceAdd, Nat.reduceMul, Nat.reduceSub, Nat.reduceLT, Nat.reduceLeDiff, if_true, if_false, not_true_eq_false, not_false_eq_true, Bool.true_eq_false, Bool.false_eq_true, b2_eq0, Nat.add_zero, Nat.zero_add, Nat.not_lt_zero, Nat.zero_le, ite_true, ite_false, decide_true, decide_false, lit_ii, of_ii, le_T, le_F, lt_T, lt_F, eq_T, eq_F, ii_add, ii_mul, ii_nat, ii_le, ii_lt, ii_eq, inR_ii, ii_add0]
      · obtain ⟨qP, qL, qD, ⟨hF, hM, hC, hPi, hr4, hr5, hr6, hr7, hr8, hv4, hv5, hv6, hv7, hv8⟩, ⟨dv0, dv1, dv2, dv3, dr4, dr5, dr6, dr7, dw4, dw5, dw6, dw7⟩, ⟨lr0, lr1, lr2, lv3, lw0⟩, ⟨⟨hw1, hw2, hw3, hw4, hw5⟩, hwm, hwc⟩, ⟨wd1, wd2, wd3⟩, wl, hap1, hap2, hap3⟩ := L'
        simp (disch := first | omega | exact b2_01 _ | exact ii0_01 | exact ii1_01 | (simp (disch := omega) only [qP, qL, qD, hF, hM, hC, hPi, hr4, hr5, hr6, hr7, hr8, dv0, dv1, dv2, dv3, dr4, dr5, dr6, dr7, lr0, lr1, lr2, lv3, dr_some, Option.isSome_some, gR_wI, Nat.add_mul_mod_self_left, Nat.reduceMod, ak20, ak21, ak22, ak23, ak24, ak25, ak26, ak27, ak28, ak29, ak30, ak31, ak32, ak33, ak34, ak35, ak36, an20, an21, an22, an23, an24, an25, an26, an27, an28, an29, an30, an31, an32, an33, an34, an35, an36, an37, an38, ne_eq, inR_ii, decide_eq_true_eq, lit_ii, of_ii, ii_eq, ii_lt, ii_le]; first | done | omega)) only [b_Scales_fewestCardsTo_84, b_Scales_fewestCardsTo_160, shl1, qP, qL, qD, hF, hM, hC, hPi, hr4, hr5, hr6, hr7, hr8, dv0, dv1, dv2, dv3, dr4, dr5, dr6, dr7, lr0, lr1, lr2, lv3, dr_some, Option.isSome_some, gR_wI, Nat.add_mul_mod_self_left, Nat.reduceMod, ak20, ak21, ak22, ak23, ak24, ak25, ak26, ak27, ak28, ak29, ak30, ak31, ak32, ak33, ak34, ak35, ak36, an20, an21, an22, an23, an24, an25, an26, an27, an28, an29, an30, an31, an32, an33, an34, an35, an36, an37, an38, ↓reduceIte, bk_int, bk_void, bk_long, bkN_int, bkN_void, bkN_long, Nat.reduceAdd, Nat.reduceMul, Nat.reduceSub, Nat.reduceLT, Nat.reduceLeDiff, if_true, if_false, not_true_eq_false, not_false_eq_true, Bool.true_eq_false, Bool.false_eq_true, b2_eq0, Nat.add_zero, Nat.zero_add, Nat.not_lt_zero, Nat.zero_le, ite_true, ite_false, decide_true, decide_false, lit_ii, of_ii, le_T, le_F, lt_T, lt_F, eq_T, eq_F, ii_add, ii_mul, ii_nat, ii_le, ii_lt, ii_eq, inR_ii, ii_add0]

/-! the most rides -/
def mxo (f : Nat → Nat) : Nat → Nat
  | 0 => 0
  | n + 1 => max (mxo f n) (f n)
theorem mxo_skip {f : Nat → Nat} {a b : Nat} (h : ∀ P, a ≤ P → P < b → f P = 0) (hab : a ≤ b) : mxo f b = mxo f a := by
  induction b with
  | zero => rw [show a = 0 by omega]
  | succ b ih =>
    by_cases q : a = b + 1
    · rw [q]
    · rw [mxo, h b (by omega) (by omega), Nat.max_zero]
      exact ih (fun P x y => h P x (by omega)) (by omega)
theorem mxo_le {f : Nat → Nat} {n c : Nat} (h : ∀ k, k < n → f k ≤ c) : mxo f n ≤ c := by
  induction n with
  | zero => exact Nat.zero_le _
  | succ n ih =>
    rw [mxo]
    have h1 := ih (fun k hk => h k (by omega))
    have h2 := h n (by omega)
    omega
theorem mxo_ge {f : Nat → Nat} {n k : Nat} (hk : k < n) : f k ≤ mxo f n := by
  induction n with
  | zero => omega
  | succ n ih =>
    rw [mxo]
    by_cases q : k = n
    · rw [q]; omega
    · have := ih (by omega)
      omega
theorem bit_split (n : Nat) : n = 2 * (n / 2) + n % 2 := by omega
theorem and_half (a b : Nat) : (a &&& b) / 2 = a / 2 &&& b / 2 := by
  apply Nat.eq_of_testBit_eq
  intro i
  rw [Nat.testBit_div_two, Nat.testBit_and, Nat.testBit_and, Nat.testBit_div_two, Nat.testBit_div_two]
theorem and_odd (a b : Nat) : (a &&& b) % 2 = if a % 2 = 1 ∧ b % 2 = 1 then 1 else 0 := by
  have h : (a &&& b).testBit 0 = (a.testBit 0 && b.testBit 0) := Nat.testBit_and a b 0
  simp only [Nat.testBit_zero] at h
  by_cases q : a % 2 = 1 ∧ b % 2 = 1
  · rw [if_pos q]
    simp only [q.1, q.2, decide_true, Bool.and_self, decide_eq_true_eq] at h
    exact h
  · rw [if_neg q]
    have : ¬ (a &&& b) % 2 = 1 := by
      intro e
      rw [e] at h
      simp only [decide_true, Bool.true_eq, Bool.and_eq_true, decide_eq_true_eq] at h
      exact q h
    omega
theorem sub_next : ∀ T P S : Nat, P &&& S = P → T &&& S = T → P < T → P ≤ (T - 1) &&& S := by
  intro T
  induction T using Nat.strongRecOn with
  | _ T ih =>
    intro P S hP hT h
    have p1 := congrArg (· / 2) hP
    have t1 := congrArg (· / 2) hT
    simp only [and_half] at p1 t1
    have p2 := congrArg (· % 2) hP
    have t2 := congrArg (· % 2) hT
    simp only [and_odd] at p2 t2
    have g1 := and_half (T - 1) S
    have g2 := and_odd (T - 1) S
    have b1 := bit_split P
    have b3 := bit_split ((T - 1) &&& S)
    by_cases q : T % 2 = 1
    · rw [show (T - 1) / 2 = T / 2 by omega, t1] at g1
      omega
    · have g3 := ih (T / 2) (by omega) (P / 2) (S / 2) p1 t1 (by omega)
      rw [show (T - 1) / 2 = T / 2 - 1 by omega] at g1
      rw [← g1] at g3
      have : P % 2 = 1 → S % 2 = 1 := by
        intro e
        split at p2 <;> omega
      by_cases q2 : S % 2 = 1
      · rw [if_pos ⟨by omega, q2⟩] at g2
        omega
      · have := mt this q2
        omega
def lowb (S : Nat) : Nat := S &&& (4294967296 - S)
theorem low_tab : ∀ S, S < 128 → ii S &&& -ii S = ii (lowb S) ∧ lowb S ≤ S ∧ (S ^^^ lowb S) ≤ S ∧ (0 < S → (S ^^^ lowb S) < S) := by decide +kernel
def fC (T hv : Nat → Nat) (pi S P : Nat) : Nat := if P &&& S = P ∧ ¬ P &&& lowb S = 0 ∧ popc P ≤ 4 ∧ pi < hv P then 1 + T (S ^^^ P) else 0
def cro (T hv : Nat → Nat) (pi S : Nat) : Nat := max (T (S ^^^ lowb S)) (mxo (fC T hv pi S) (S + 1))
theorem xor_half (a b : Nat) : (a ^^^ b) / 2 = a / 2 ^^^ b / 2 := by
  apply Nat.eq_of_testBit_eq
  intro i
  rw [Nat.testBit_div_two, Nat.testBit_xor, Nat.testBit_xor, Nat.testBit_div_two, Nat.testBit_div_two]
theorem xor_odd (a b : Nat) : (a ^^^ b) % 2 = (a % 2 + b % 2) % 2 := by
  have h : (a ^^^ b).testBit 0 = (a.testBit 0 ^^ b.testBit 0) := Nat.testBit_xor a b 0
  simp only [Nat.testBit_zero] at h
  have ha : a % 2 = 0 ∨ a % 2 = 1 := by omega
  have hb : b % 2 = 0 ∨ b % 2 = 1 := by omega
  have hc : (a ^^^ b) % 2 = 0 ∨ (a ^^^ b) % 2 = 1 := by omega
  rcases ha with ha | ha <;> rcases hb with hb | hb <;> rcases hc with hc | hc <;> rw [ha, hb, hc] at h <;> rw [ha, hb, hc] <;> first | rfl | (revert h; decide)
theorem xor_add : ∀ S P : Nat, P &&& S = P → (S ^^^ P) + P = S := by
  intro S
  induction S using Nat.strongRecOn with
  | _ S ih =>
    intro P hP
    by_cases q : S = 0
    · subst q
      rw [Nat.and_zero] at hP
      rw [← hP]
      rfl
    · have p1 := congrArg (· / 2) hP
      simp only [and_half] at p1
      have p2 := congrArg (· % 2) hP
      simp only [and_odd] at p2
      have g1 := xor_half S P
      have g2 := xor_odd S P
      have g3 := ih (S / 2) (by omega) (P / 2) p1
      rw [← g1] at g3
      split at p2 <;> omega
theorem xor_sub {S P : Nat} (h : P &&& S = P) : S ^^^ P = S - P ∧ P ≤ S := by
  have h1 : P ≤ S := by rw [← h]; exact Nat.and_le_right
  have := xor_add S P h
  omega
theorem s_mostRidesOf {d u S pi : Nat} {T hv : Nat → Nat} {σ : HP} (A : SA σ u) (hS : S < 128) (hpi : pi ≤ 300) (hh : ∀ P, P ≤ S → gI σ (28 + 64 * (u + 1)) P = ii (hv P)) (hhb : ∀ P, hv P ≤ 10000) (hT : ∀ P, P < S ∨ P = 0 → gI σ (28 + 64 * (u + 2)) P = ii (T P)) (hTb : ∀ P, T P ≤ 1000) : callF (d + 2) m_Scales_mostRidesOf [.ref (8 + 64 * u), .int (ii S), .int (ii pi)] σ = some (.inl (some (.int (ii (cro T hv pi S)))), σ) := by
  obtain ⟨a0, a1, a2, a3⟩ := A
  obtain ⟨l1, l2, l3, l4⟩ := low_tab S hS
  have e0 : callF (d + 2) m_Scales_mostRidesOf [.ref (8 + 64 * u), .int (ii S), .int (ii pi)] σ = runF (callF (d + 1)) (d + 1) m_Scales_mostRidesOf (20, [some (.ref (8 + 64 * u)), some (.int (ii S)), some (.int (ii pi)), some (.int (ii (lowb S))), some (.int (ii (T (S ^^^ lowb S)))), some (.int (ii S))], [], σ) := by
    have e1 := hT (S ^^^ lowb S) (by omega)
    simp (disch := first | omega | exact b2_01 _ | exact ii0_01 | exact ii1_01 | (simp (disch := omega) only [a0, a1, a2, a3, dr_some, Option.isSome_some, gR_wI, Nat.add_mul_mod_self_left, Nat.reduceMod, ak20, ak21, ak22, ak23, ak24, ak25, ak26, ak27, ak28, ak29, ak30, ak31, ak32, ak33, ak34, ak35, ak36, an20, an21, an22, an23, an24, an25, an26, an27, an28, an29, an30, an31, an32, an33, an34, an35, an36, an37, an38, ne_eq, inR_ii, decide_eq_true_eq, lit_ii, of_ii, ii_eq, ii_lt, ii_le]; first | done | omega)) only [a0, a1, a2, a3, e_Scales_mostRidesOf, b_Scales_mostRidesOf_0, b_Scales_mostRidesOf_15, b_Scales_mostRidesOf_25, b_Scales_mostRidesOf_32, b_Scales_mostRidesOf_37, b_Scales_mostRidesOf_41, b_Scales_mostRidesOf_50, b_Scales_mostRidesOf_54, b_Scales_mostRidesOf_68, b_Scales_mostRidesOf_74, b_Scales_mostRidesOf_85, l1, ii_xor, s_at, e1, dr_some, Option.isSome_some, gR_wI, Nat.add_mul_mod_self_left, Nat.reduceMod, ak20, ak21, ak22, ak23, ak24, ak25, ak26, ak27, ak28, ak29, ak30, ak31, ak32, ak33, ak34, ak35, ak36, an20, an21, an22, an23, an24, an25, an26, an27, an28, an29, an30, an31, an32, an33, an34, an35, an36, an37, an38, ↓reduceIte, bk_int, bk_void, bk_long, bkN_int, bkN_void, bkN_long, Nat.reduceAdd, Nat.reduceMul, Nat.reduceSub, Nat.reduceLT, Nat.reduceLeDiff, if_true, if_false, not_true_eq_false, not_false_eq_true, Bool.true_eq_false, Bool.false_eq_true, b2_eq0, Nat.add_zero, Nat.zero_add, Nat.not_lt_zero, Nat.zero_le, ite_true, ite_false, decide_true, decide_false, lit_ii, of_ii, le_T, le_F, lt_T, lt_F, eq_T, eq_F, ii_add, ii_mul, ii_nat, ii_le, ii_lt, ii_eq, inR_ii, ii_add0]
  rw [e0]
  have hf0 : ∀ P, fC T hv pi S P ≤ 1001 := fun P => by
    unfold fC
    have := hTb (S ^^^ P)
    split <;> omega
  have f00 : fC T hv pi S 0 = 0 := by
    unfold fC
    rw [if_neg]
    rintro ⟨-, q, -⟩
    exact q (Nat.zero_and _)
  refine loop_w (Q := fun o => o = some (.inl (some (.int (ii (cro T hv pi S)))), σ)) (fun k c => ∃ best, c = (20, [some (.ref (8 + 64 * u)), some (.int (ii S)), some (.int (ii pi)), some (.int (ii (lowb S))), some (.int (ii best)), some (.int (ii k))], [], σ) ∧ k &&& S = k ∧ max best (mxo (fC T hv pi S) (k + 1)) = cro T hv pi S ∧ best ≤ 1001) ?_ S _ ⟨_, rfl, Nat.and_self _, rfl, Nat.le_trans (hTb _) (by omega)⟩
  rintro k c ⟨best, rfl, hk, hm, hb⟩
  by_cases q : k = 0
  · left
    subst q
    rw [mxo, f00, mxo, Nat.max_zero, Nat.max_zero] at hm
    rw [← hm]
    simp (disch := first | omega | exact b2_01 _ | exact ii0_01 | exact ii1_01 | (simp (disch := omega) only [a0, a1, a2, a3, dr_some, Option.isSome_some, gR_wI, Nat.add_mul_mod_self_left, Nat.reduceMod, ak20, ak21, ak22, ak23, ak24, ak25, ak26, ak27, ak28, ak29, ak30, ak31, ak32, ak33, ak34, ak35, ak36, an20, an21, an22, an23, an24, an25, an26, an27, an28, an29, an30, an31, an32, an33, an34, an35, an36, an37, an38, ne_eq, inR_ii, decide_eq_true_eq, lit_ii, of_ii, ii_eq, ii_lt, ii_le]; first | done | omega)) only [a0, a1, a2, a3, b_Scales_mostRidesOf_20, b_Scales_mostRidesOf_85, dr_some, Option.isSome_some, gR_wI, Nat.add_mul_mod_self_left, Nat.reduceMod, ak20, ak21, ak22, ak23, ak24, ak25, ak26, ak27, ak28, ak29, ak30, ak31, ak32, ak33, ak34, ak35, ak36, an20, an21, an22, an23, an24, an25, an26, an27, an28, an29, an30, an31, an32, an33, an34, an35, an36, an37, an38, ↓reduceIte, bk_int, bk_void, bk_long, bkN_int, bkN_void, bkN_long, Nat.reduceAdd, Nat.reduceMul, Nat.reduceSub, Nat.reduceLT, Nat.reduceLeDiff, if_true, if_false, not_true_eq_false, not_false_eq_true, Bool.true_eq_false, Bool.false_eq_true, b2_eq0, Nat.add_zero, Nat.zero_add, Nat.not_lt_zero, Nat.zero_le, ite_true, ite_false, decide_true, decide_false, lit_ii, of_ii, le_T, le_F, lt_T, lt_F, eq_T, eq_F, ii_add, ii_mul, ii_nat, ii_le, ii_lt, ii_eq, inR_ii, ii_add0]
  · right
    have hks := xor_sub hk
    have hn : (k - 1) &&& S < k := Nat.lt_of_le_of_lt Nat.and_le_left (by omega)
    have hnx : ((k - 1) &&& S) &&& S = (k - 1) &&& S := by rw [Nat.and_assoc, Nat.and_self]
    have hsk : mxo (fC T hv pi S) k = mxo (fC T hv pi S) (((k - 1) &&& S) + 1) := mxo_skip (fun P x y => by
      unfold fC
      rw [if_neg]
      rintro ⟨z, -⟩
      have := sub_next k P S z hk y
      omega) (by omega)
    rw [mxo, hsk] at hm
    have bk := s_bitCount k (by omega)
    have pk := popc_le k
    have e1 := hh k (by omega)
    have e2 := hT (S ^^^ k) (by omega)
    have e3 := hhb k
    have e4 := hTb (S ^^^ k)
    have lk : k &&& lowb S < 128 := Nat.lt_of_le_of_lt Nat.and_le_left (by omega)
    have hx : S ^^^ k < 128 := by omega
    by_cases c1 : k &&& lowb S = 0
    · refine ⟨(k - 1) &&& S, _, hn, ?_, best, rfl, hnx, ?_, hb⟩
      · conv => lhs; simp (disch := first | omega | exact b2_01 _ | exact ii0_01 | exact ii1_01 | (simp (disch := omega) only [a0, a1, a2, a3, dr_some, Option.isSome_some, gR_wI, Nat.add_mul_mod_self_left, Nat.reduceMod, ak20, ak21, ak22, ak23, ak24, ak25, ak26, ak27, ak28, ak29, ak30, ak31, ak32, ak33, ak34, ak35, ak36, an20, an21, an22, an23, an24, an25, an26, an27, an28, an29, an30, an31, an32, an33, an34, an35, an36, an37, an38, ne_eq, inR_ii, decide_eq_true_eq, lit_ii, of_ii, ii_eq, ii_lt, ii_le]; first | done | omega)) only [a0, a1, a2, a3, b_Scales_mostRidesOf_20, dr_some, Option.isSome_some, gR_wI, Nat.add_mul_mod_self_left, Nat.reduceMod, ak20, ak21, ak22, ak23, ak24, ak25, ak26, ak27, ak28, ak29, ak30, ak31, ak32, ak33, ak34, ak35, ak36, an20, an21, an22, an23, an24, an25, an26, an27, an28, an29, an30, an31, an32, an33, an34, an35, an36, an37, an38, ↓reduceIte, bk_int, bk_void, bk_long, bkN_int, bkN_void, bkN_long, Nat.reduceAdd, Nat.reduceMul, Nat.reduceSub, Nat.reduceLT, Nat.reduceLeDiff, if_true, if_false, not_true_eq_false, not_false_eq_true, Bool.true_eq_false, Bool.false_eq_true, b2_eq0, Nat.add_zero, Nat.zero_add, Nat.not_lt_zero, Nat.zero_le, ite_true, ite_false, decide_true, decide_false, lit_ii, of_ii, le_T, le_F, lt_T, lt_F, eq_T, eq_F, ii_add, ii_mul, ii_nat, ii_le, ii_lt, ii_eq, inR_ii, ii_add0]
        simp (disch := first | omega | exact b2_01 _ | exact ii0_01 | exact ii1_01 | (simp (disch := omega) only [a0, a1, a2, a3, dr_some, Option.isSome_some, gR_wI, Nat.add_mul_mod_self_left, Nat.reduceMod, ak20, ak21, ak22, ak23, ak24, ak25, ak26, ak27, ak28, ak29, ak30, ak31, ak32, ak33, ak34, ak35, ak36, an20, an21, an22, an23, an24, an25, an26, an27, an28, an29, an30, an31, an32, an33, an34, an35, an36, an37, an38, ne_eq, inR_ii, decide_eq_true_eq, lit_ii, of_ii, ii_eq, ii_lt, ii_le]; first | done | omega)) only [a0, a1, a2, a3, e_Scales_mostRidesOf, b_Scales_mostRidesOf_0, b_Scales_mostRidesOf_15, b_Scales_mostRidesOf_25, b_Scales_mostRidesOf_32, b_Scales_mostRidesOf_37, b_Scales_mostRidesOf_41, b_Scales_mostRidesOf_50, b_Scales_mostRidesOf_54, b_Scales_mostRidesOf_68, b_Scales_mostRidesOf_74, b_Scales_mostRidesOf_85, ii_and, c1, ii_sub, dr_some, Option.isSome_some, gR_wI, Nat.add_mul_mod_self_left, Nat.reduceMod, ak20, ak21, ak22, ak23, ak24, ak25, ak26, ak27, ak28, ak29, ak30, ak31, ak32, ak33, ak34, ak35, ak36, an20, an21, an22, an23, an24, an25, an26, an27, an28, an29, an30, an31, an32, an33, an34, an35, an36, an37, an38, ↓reduceIte, bk_int, bk_void, bk_long, bkN_int, bkN_void, bkN_long, Nat.reduceAdd, Nat.reduceMul, Nat.reduceSub, Nat.reduceLT, Nat.reduceLeDiff, if_true, if_false, not_true_eq_false, not_false_eq_true, Bool.true_eq_false, Bool.false_eq_true, b2_eq0, Nat.add_zero, Nat.zero_add, Nat.not_lt_zero, Nat.zero_le, ite_true, ite_false, decide_true, decide_false, lit_ii, of_ii, le_T, le_F, lt_T, lt_F, eq_T, eq_F, ii_add, ii_mul, ii_nat, ii_le, ii_lt, ii_eq, inR_ii, ii_add0]
      · rw [← hm, show fC T hv pi S k = 0 from by unfold fC; rw [if_neg (fun z => z.2.1 c1)], Nat.max_zero]
    · by_cases c2 : popc k ≤ 4
      · by_cases c3 : pi < hv k
        · have fk : fC T hv pi S k = 1 + T (S ^^^ k) := by unfold fC; rw [if_pos ⟨hk, c1, c2, c3⟩]
          refine ⟨(k - 1) &&& S, _, hn, ?_, max best (1 + T (S ^^^ k)), rfl, hnx, ?_, by omega⟩
          · conv => lhs; simp (disch := first | omega | exact b2_01 _ | exact ii0_01 | exact ii1_01 | (simp (disch := omega) only [a0, a1, a2, a3, dr_some, Option.isSome_some, gR_wI, Nat.add_mul_mod_self_left, Nat.reduceMod, ak20, ak21, ak22, ak23, ak24, ak25, ak26, ak27, ak28, ak29, ak30, ak31, ak32, ak33, ak34, ak35, ak36, an20, an21, an22, an23, an24, an25, an26, an27, an28, an29, an30, an31, an32, an33, an34, an35, an36, an37, an38, ne_eq, inR_ii, decide_eq_true_eq, lit_ii, of_ii, ii_eq, ii_lt, ii_le]; first | done | omega)) only [a0, a1, a2, a3, b_Scales_mostRidesOf_20, dr_some, Option.isSome_some, gR_wI, Nat.add_mul_mod_self_left, Nat.reduceMod, ak20, ak21, ak22, ak23, ak24, ak25, ak26, ak27, ak28, ak29, ak30, ak31, ak32, ak33, ak34, ak35, ak36, an20, an21, an22, an23, an24, an25, an26, an27, an28, an29, an30, an31, an32, an33, an34, an35, an36, an37, an38, ↓reduceIte, bk_int, bk_void, bk_long, bkN_int, bkN_void, bkN_long, Nat.reduceAdd, Nat.reduceMul, Nat.reduceSub, Nat.reduceLT, Nat.reduceLeDiff, if_true, if_false, not_true_eq_false, not_false_eq_true, Bool.true_eq_false, Bool.false_eq_true, b2_eq0, Nat.add_zero, Nat.zero_add, Nat.not_lt_zero, Nat.zero_le, ite_true, ite_false, decide_true, decide_false, lit_ii, of_ii, le_T, le_F, lt_T, lt_F, eq_T, eq_F, ii_add, ii_mul, ii_nat, ii_le, ii_lt, ii_eq, inR_ii, ii_add0]
            simp (disch := first | omega | exact b2_01 _ | exact ii0_01 | exact ii1_01 | (simp (disch := omega) only [a0, a1, a2, a3, dr_some, Option.isSome_some, gR_wI, Nat.add_mul_mod_self_left, Nat.reduceMod, ak20, ak21, ak22, ak23, ak24, ak25, ak26, ak27, ak28, ak29, ak30, ak31, ak32, ak33, ak34, ak35, ak36, an20, an21, an22, an23, an24, an25, an26, an27, an28, an29, an30, an31, an32, an33, an34, an35, an36, an37, an38, ne_eq, inR_ii, decide_eq_true_eq, lit_ii, of_ii, ii_eq, ii_lt, ii_le]; first | done | omega)) only [a0, a1, a2, a3, e_Scales_mostRidesOf, b_Scales_mostRidesOf_0, b_Scales_mostRidesOf_15, b_Scales_mostRidesOf_25, b_Scales_mostRidesOf_32, b_Scales_mostRidesOf_37, b_Scales_mostRidesOf_41, b_Scales_mostRidesOf_50, b_Scales_mostRidesOf_54, b_Scales_mostRidesOf_68, b_Scales_mostRidesOf_74, b_Scales_mostRidesOf_85, ii_and, c1, ii_sub, bk, s_at, e1, e2, ii_xor, p_max_ii, dr_some, Option.isSome_some, gR_wI, Nat.add_mul_mod_self_left, Nat.reduceMod, ak20, ak21, ak22, ak23, ak24, ak25, ak26, ak27, ak28, ak29, ak30, ak31, ak32, ak33, ak34, ak35, ak36, an20, an21, an22, an23, an24, an25, an26, an27, an28, an29, an30, an31, an32, an33, an34, an35, an36, an37, an38, ↓reduceIte, bk_int, bk_void, bk_long, bkN_int, bkN_void, bkN_long, Nat.reduceAdd, Nat.reduceMul, Nat.reduceSub, Nat.reduceLT, Nat.reduceLeDiff, if_true, if_false, not_true_eq_false, not_false_eq_true, Bool.true_eq_false, Bool.false_eq_true, b2_eq0, Nat.add_zero, Nat.zero_add, Nat.not_lt_zero, Nat.zero_le, ite_true, ite_false, decide_true, decide_false, lit_ii, of_ii, le_T, le_F, lt_T, lt_F, eq_T, eq_F, ii_add, ii_mul, ii_nat, ii_le, ii_lt, ii_eq, inR_ii, ii_add0]
          · rw [← hm, fk]
            omega
        · refine ⟨(k - 1) &&& S, _, hn, ?_, best, rfl, hnx, ?_, hb⟩
          · conv => lhs; simp (disch := first | omega | exact b2_01 _ | exact ii0_01 | exact ii1_01 | (simp (disch := omega) only [a0, a1, a2, a3, dr_some, Option.isSome_some, gR_wI, Nat.add_mul_mod_self_left, Nat.reduceMod, ak20, ak21, ak22, ak23, ak24, ak25, ak26, ak27, ak28, ak29, ak30, ak31, ak32, ak33, ak34, ak35, ak36, an20, an21, an22, an23, an24, an25, an26, an27, an28, an29, an30, an31, an32, an33, an34, an35, an36, an37, an38, ne_eq, inR_ii, decide_eq_true_eq, lit_ii, of_ii, ii_eq, ii_lt, ii_le]; first | done | omega)) only [a0, a1, a2, a3, b_Scales_mostRidesOf_20, dr_some, Option.isSome_some, gR_wI, Nat.add_mul_mod_self_left, Nat.reduceMod, ak20, ak21, ak22, ak23, ak24, ak25, ak26, ak27, ak28, ak29, ak30, ak31, ak32, ak33, ak34, ak35, ak36, an20, an21, an22, an23, an24, an25, an26, an27, an28, an29, an30, an31, an32, an33, an34, an35, an36, an37, an38, ↓reduceIte, bk_int, bk_void, bk_long, bkN_int, bkN_void, bkN_long, Nat.reduceAdd, Nat.reduceMul, Nat.reduceSub, Nat.reduceLT, Nat.reduceLeDiff, if_true, if_false, not_true_eq_false, not_false_eq_true, Bool.true_eq_false, Bool.false_eq_true, b2_eq0, Nat.add_zero, Nat.zero_add, Nat.not_lt_zero, Nat.zero_le, ite_true, ite_false, decide_true, decide_false, lit_ii, of_ii, le_T, le_F, lt_T, lt_F, eq_T, eq_F, ii_add, ii_mul, ii_nat, ii_le, ii_lt, ii_eq, inR_ii, ii_add0]
            simp (disch := first | omega | exact b2_01 _ | exact ii0_01 | exact ii1_01 | (simp (disch := omega) only [a0, a1, a2, a3, dr_some, Option.isSome_some, gR_wI, Nat.add_mul_mod_self_left, Nat.reduceMod, ak20, ak21, ak22, ak23, ak24, ak25, ak26, ak27, ak28, ak29, ak30, ak31, ak32, ak33, ak34, ak35, ak36, an20, an21, an22, an23, an24, an25, an26, an27, an28, an29, an30, an31, an32, an33, an34, an35, an36, an37, an38, ne_eq, inR_ii, decide_eq_true_eq, lit_ii, of_ii, ii_eq, ii_lt, ii_le]; first | done | omega)) only [a0, a1, a2, a3, e_Scales_mostRidesOf, b_Scales_mostRidesOf_0, b_Scales_mostRidesOf_15, b_Scales_mostRidesOf_25, b_Scales_mostRidesOf_32, b_Scales_mostRidesOf_37, b_Scales_mostRidesOf_41, b_Scales_mostRidesOf_50, b_Scales_mostRidesOf_54, b_Scales_mostRidesOf_68, b_Scales_mostRidesOf_74, b_Scales_mostRidesOf_85, ii_and, c1, ii_sub, bk, s_at, e1, dr_some, Option.isSome_some, gR_wI, Nat.add_mul_mod_self_left, Nat.reduceMod, ak20, ak21, ak22, ak23, ak24, ak25, ak26, ak27, ak28, ak29, ak30, ak31, ak32, ak33, ak34, ak35, ak36, an20, an21, an22, an23, an24, an25, an26, an27, an28, an29, an30, an31, an32, an33, an34, an35, an36, an37, an38, ↓reduceIte, bk_int, bk_void, bk_long, bkN_int, bkN_void, bkN_long, Nat.reduceAdd, Nat.reduceMul, Nat.reduceSub, Nat.reduceLT, Nat.reduceLeDiff, if_true, if_false, not_true_eq_false, not_false_eq_true, Bool.true_eq_false, Bool.false_eq_true, b2_eq0, Nat.add_zero, Nat.zero_add, Nat.not_lt_zero, Nat.zero_le, ite_true, ite_false, decide_true, decide_false, lit_ii, of_ii, le_T, le_F, lt_T, lt_F, eq_T, eq_F, ii_add, ii_mul, ii_nat, ii_le, ii_lt, ii_eq, inR_ii, ii_add0]
          · rw [← hm, show fC T hv pi S k = 0 from by unfold fC; rw [if_neg (fun z => c3 z.2.2.2)], Nat.max_zero]
      · refine ⟨(k - 1) &&& S, _, hn, ?_, best, rfl, hnx, ?_, hb⟩
        · conv => lhs; simp (disch := first | omega | exact b2_01 _ | exact ii0_01 | exact ii1_01 | (simp (disch := omega) only [a0, a1, a2, a3, dr_some, Option.isSome_some, gR_wI, Nat.add_mul_mod_self_left, Nat.reduceMod, ak20, ak21, ak22, ak23, ak24, ak25, ak26, ak27, ak28, ak29, ak30, ak31, ak32, ak33, ak34, ak35, ak36, an20, an21, an22, an23, an24, an25, an26, an27, an28, an29, an30, an31, an32, an33, an34, an35, an36, an37, an38, ne_eq, inR_ii, decide_eq_true_eq, lit_ii, of_ii, ii_eq, ii_lt, ii_le]; first | done | omega)) only [a0, a1, a2, a3, b_Scales_mostRidesOf_20, dr_some, Option.isSome_some, gR_wI, Nat.add_mul_mod_self_left, Nat.reduceMod, ak20, ak21, ak22, ak23, ak24, ak25, ak26, ak27, ak28, ak29, ak30, ak31, ak32, ak33, ak34, ak35, ak36, an20, an21, an22, an23, an24, an25, an26, an27, an28, an29, an30, an31, an32, an33, an34, an35, an36, an37, an38, ↓reduceIte, bk_int, bk_void, bk_long, bkN_int, bkN_void, bkN_long, Nat.reduceAdd, Nat.reduceMul, Nat.reduceSub, Nat.reduceLT, Nat.reduceLeDiff, if_true, if_false, not_true_eq_false, not_false_eq_true, Bool.true_eq_false, Bool.false_eq_true, b2_eq0, Nat.add_zero, Nat.zero_add, Nat.not_lt_zero, Nat.zero_le, ite_true, ite_false, decide_true, decide_false, lit_ii, of_ii, le_T, le_F, lt_T, lt_F, eq_T, eq_F, ii_add, ii_mul, ii_nat, ii_le, ii_lt, ii_eq, inR_ii, ii_add0]
          simp (disch := first | omega | exact b2_01 _ | exact ii0_01 | exact ii1_01 | (simp (disch := omega) only [a0, a1, a2, a3, dr_some, Option.isSome_some, gR_wI, Nat.add_mul_mod_self_left, Nat.reduceMod, ak20, ak21, ak22, ak23, ak24, ak25, ak26, ak27, ak28, ak29, ak30, ak31, ak32, ak33, ak34, ak35, ak36, an20, an21, an22, an23, an24, an25, an26, an27, an28, an29, an30, an31, an32, an33, an34, an35, an36, an37, an38, ne_eq, inR_ii, decide_eq_true_eq, lit_ii, of_ii, ii_eq, ii_lt, ii_le]; first | done | omega)) only [a0, a1, a2, a3, e_Scales_mostRidesOf, b_Scales_mostRidesOf_0, b_Scales_mostRidesOf_15, b_Scales_mostRidesOf_25, b_Scales_mostRidesOf_32, b_Scales_mostRidesOf_37, b_Scales_mostRidesOf_41, b_Scales_mostRidesOf_50, b_Scales_mostRidesOf_54, b_Scales_mostRidesOf_68, b_Scales_mostRidesOf_74, b_Scales_mostRidesOf_85, ii_and, c1, ii_sub, bk, dr_some, Option.isSome_some, gR_wI, Nat.add_mul_mod_self_left, Nat.reduceMod, ak20, ak21, ak22, ak23, ak24, ak25, ak26, ak27, ak28, ak29, ak30, ak31, ak32, ak33, ak34, ak35, ak36, an20, an21, an22, an23, an24, an25, an26, an27, an28, an29, an30, an31, an32, an33, an34, an35, an36, an37, an38, ↓reduceIte, bk_int, bk_void, bk_long, bkN_int, bkN_void, bkN_long, Nat.reduceAdd, Nat.reduceMul, Nat.reduceSub, Nat.reduceLT, Nat.reduceLeDiff, if_true, if_false, not_true_eq_false, not_false_eq_true, Bool.true_eq_false, Bool.false_eq_true, b2_eq0, Nat.add_zero, Nat.zero_add, Nat.not_lt_zero, Nat.zero_le, ite_true, ite_false, decide_true, decide_false, lit_ii, of_ii, le_T, le_F, lt_T, lt_F, eq_T, eq_F, ii_add, ii_mul, ii_nat, ii_le, ii_lt, ii_eq, inR_ii, ii_add0]
        · rw [← hm, show fC T hv pi S k = 0 from by unfold fC; rw [if_neg (fun z => c2 z.2.2.1)], Nat.max_zero]
/-- the table of the class: for each set below n the most rides -/
def cT (hv : Nat → Nat) (pi : Nat) : Nat → (Nat → Nat)
  | 0 => fun _ => 0
  | n + 1 => up1 (cT hv pi n) n (cro (cT hv pi n) hv pi n)
theorem cT_le (hv : Nat → Nat) (pi : Nat) : ∀ n P, cT hv pi n P ≤ n := by
  intro n
  induction n with
  | zero => intro P; exact Nat.le_refl _
  | succ n ih =>
    intro P
    unfold cT up1
    split
    · unfold cro
      have h1 := ih (n ^^^ lowb n)
      have h2 : mxo (fC (cT hv pi n) hv pi n) (n + 1) ≤ n + 1 := mxo_le (fun k _ => by
        unfold fC
        have := ih (n ^^^ k)
        split <;> omega)
      omega
    · have := ih P
      omega
theorem cT_ge (hv : Nat → Nat) (pi : Nat) : ∀ n P, n ≤ P → cT hv pi n P = 0 := by
  intro n
  induction n with
  | zero => intro P _; rfl
  | succ n ih =>
    intro P h
    unfold cT
    rw [up1_ne (by omega), ih P (by omega)]
theorem cT_0 (hv : Nat → Nat) (pi : Nat) : ∀ n, cT hv pi n 0 = 0 := by
  intro n
  induction n with
  | zero => rfl
  | succ n ih =>
    unfold cT
    by_cases q : n = 0
    · subst q
      rw [up1_at]
      rfl
    · rw [up1_ne (by omega), ih]
theorem s_mostRides {u d t h l s : Nat} {H : HH} {w : LW} {D : Nat → Nat} {σ : HP} (L : CL σ t h l s H w D) (A : SA σ u) (hu : apU h l s u) (h0 : gI σ (28 + 64 * (u + 2)) 0 = ii 0) : ∃ σ', callF (d + 4) m_Scales_mostRides [.ref (8 + 64 * u), .ref (5 + 64 * t)] σ = some (.inl (some (.int (ii (cT (hvs H D) (hp H) (2 ^ hm H) (2 ^ hm H - 1))))), σ') ∧ Fs (Sv l u) σ σ' ∧ gI σ' (28 + 64 * (u + 2)) 0 = ii 0 := by
  have h7 := L.wh.1
  have hp2 : 2 ^ hm H ≤ 2 ^ 7 := Nat.pow_le_pow_right (by decide) (by omega)
  have hp1 : 0 < 2 ^ hm H := Nat.two_pow_pos _
  have e0 : callF (d + 4) m_Scales_mostRides [.ref (8 + 64 * u), .ref (5 + 64 * t)] σ = runF (callF (d + 3)) (d + 3) m_Scales_mostRides (12, [some (.ref (8 + 64 * u)), some (.ref (5 + 64 * t)), some (.int (ii (2 ^ hm H))), some (.int (ii 0))], [], σ) := by
    obtain ⟨qP, qL, qD, ⟨hF, hM, hC, hPi, hr4, hr5, hr6, hr7, hr8, hv4, hv5, hv6, hv7, hv8⟩, ⟨dv0, dv1, dv2, dv3, dr4, dr5, dr6, dr7, dw4, dw5, dw6, dw7⟩, ⟨lr0, lr1, lr2, lv3, lw0⟩, ⟨⟨hw1, hw2, hw3, hw4, hw5⟩, hwm, hwc⟩, ⟨wd1, wd2, wd3⟩, wl, hap1, hap2, hap3⟩ := L
    simp (disch := first | omega | exact b2_01 _ | exact ii0_01 | exact ii1_01 | (simp (disch := omega) only [qP, qL, qD, hF, hM, hC, hPi, hr4, hr5, hr6, hr7, hr8, dv0, dv1, dv2, dv3, dr4, dr5, dr6, dr7, lr0, lr1, lr2, lv3, dr_some, Option.isSome_some, gR_wI, Nat.add_mul_mod_self_left, Nat.reduceMod, ak20, ak21, ak22, ak23, ak24, ak25, ak26, ak27, ak28, ak29, ak30, ak31, ak32, ak33, ak34, ak35, ak36, an20, an21, an22, an23, an24, an25, an26, an27, an28, an29, an30, an31, an32, an33, an34, an35, an36, an37, an38, ne_eq, inR_ii, decide_eq_true_eq, lit_ii, of_ii, ii_eq, ii_lt, ii_le]; first | done | omega)) only [e_Scales_mostRides, b_Scales_mostRides_0, b_Scales_mostRides_17, b_Scales_mostRides_27, b_Scales_mostRides_30, b_Scales_mostRides_36, b_Scales_mostRides_38, b_Scales_mostRides_43, b_Scales_mostRides_60, b_Scales_mostRides_63, b_Scales_mostRides_69, b_Scales_mostRides_79, shl1, qP, qL, qD, hF, hM, hC, hPi, hr4, hr5, hr6, hr7, hr8, dv0, dv1, dv2, dv3, dr4, dr5, dr6, dr7, lr0, lr1, lr2, lv3, dr_some, Option.isSome_some, gR_wI, Nat.add_mul_mod_self_left, Nat.reduceMod, ak20, ak21, ak22, ak23, ak24, ak25, ak26, ak27, ak28, ak29, ak30, ak31, ak32, ak33, ak34, ak35, ak36, an20, an21, an22, an23, an24, an25, an26, an27, an28, an29, an30, an31, an32, an33, an34, an35, an36, an37, an38, ↓reduceIte, bk_int, bk_void, bk_long, bkN_int, bkN_void, bkN_long, Nat.reduceAdd, Nat.reduceMul, Nat.reduceSub, Nat.reduceLT, Nat.reduceLeDiff, if_true, if_false, not_true_eq_false, not_false_eq_true, Bool.true_eq_false, Bool.false_eq_true, b2_eq0, Nat.add_zero, Nat.zero_add, Nat.not_lt_zero, Nat.zero_le, ite_true, ite_false, decide_true, decide_false, lit_ii, of_ii, le_T, le_F, lt_T, lt_F, eq_T, eq_F, ii_add, ii_mul, ii_nat, ii_le, ii_lt, ii_eq, inR_ii, ii_add0]
  rw [e0]
  refine loop_g (N := 2 ^ hm H) (Q := fun o => ∃ σ', o = some (.inl (some (.int (ii (cT (hvs H D) (hp H) (2 ^ hm H) (2 ^ hm H - 1))))), σ') ∧ Fs (Sv l u) σ σ' ∧ gI σ' (28 + 64 * (u + 2)) 0 = ii 0) (fun k c => ∃ σ', c = (12, [some (.ref (8 + 64 * u)), some (.ref (5 + 64 * t)), some (.int (ii (2 ^ hm H))), some (.int (ii k))], [], σ') ∧ Fs (Sv l u) σ σ' ∧ gI σ' (28 + 64 * (u + 2)) 0 = ii 0 ∧ ∀ P, P < k → gI σ' (28 + 64 * (u + 1)) P = ii (hvs H D P)) ?_ ?_ 0 _ (Nat.zero_le _) ⟨σ, rfl, Fs.rf, h0, fun P hP => absurd hP (Nat.not_lt_zero _)⟩
  · rintro k c hk ⟨σ', rfl, F, z0, hv⟩
    have L' := L.sv F hu
    have h1 := fun d => s_heavyOfSet (d := d) L' (B := k) (by omega)
    obtain ⟨a0, a1, a2, a3⟩ := A.fs F
    refine ⟨_, ?_, wI σ' (28 + 64 * (u + 1)) k (ii (hvs H D k)), rfl, F.w (Or.inr (Or.inr (by omega))), by rw [gI_ne (by omega)]; exact z0, fun P hP => ?_⟩
    · obtain ⟨qP, qL, qD, ⟨hF, hM, hC, hPi, hr4, hr5, hr6, hr7, hr8, hv4, hv5, hv6, hv7, hv8⟩, ⟨dv0, dv1, dv2, dv3, dr4, dr5, dr6, dr7, dw4, dw5, dw6, dw7⟩, ⟨lr0, lr1, lr2, lv3, lw0⟩, ⟨⟨hw1, hw2, hw3, hw4, hw5⟩, hwm, hwc⟩, ⟨wd1, wd2, wd3⟩, wl, hap1, hap2, hap3⟩ := L'
      conv => lhs; simp (disch := first | omega | exact b2_01 _ | exact ii0_01 | exact ii1_01 | (simp (disch := omega) only [qP, qL, qD, hF, hM, hC, hPi, hr4, hr5, hr6, hr7, hr8, dv0, dv1, dv2, dv3, dr4, dr5, dr6, dr7, lr0, lr1, lr2, lv3, dr_some, Option.isSome_some, gR_wI, Nat.add_mul_mod_self_left, Nat.reduceMod, ak20, ak21, ak22, ak23, ak24, ak25, ak26, ak27, ak28, ak29, ak30, ak31, ak32, ak33, ak34, ak35, ak36, an20, an21, an22, an23, an24, an25, an26, an27, an28, an29, an30, an31, an32, an33, an34, an35, an36, an37, an38, ne_eq, inR_ii, decide_eq_true_eq, lit_ii, of_ii, ii_eq, ii_lt, ii_le]; first | done | omega)) only [b_Scales_mostRides_12, qP, qL, qD, hF, hM, hC, hPi, hr4, hr5, hr6, hr7, hr8, dv0, dv1, dv2, dv3, dr4, dr5, dr6, dr7, lr0, lr1, lr2, lv3, dr_some, Option.isSome_some, gR_wI, Nat.add_mul_mod_self_left, Nat.reduceMod, ak20, ak21, ak22, ak23, ak24, ak25, ak26, ak27, ak28, ak29, ak30, ak31, ak32, ak33, ak34, ak35, ak36, an20, an21, an22, an23, an24, an25, an26, an27, an28, an29, an30, an31, an32, an33, an34, an35, an36, an37, an38, ↓reduceIte, bk_int, bk_void, bk_long, bkN_int, bkN_void, bkN_long, Nat.reduceAdd, Nat.reduceMul, Nat.reduceSub, Nat.reduceLT, Nat.reduceLeDiff, if_true, if_false, not_true_eq_false, not_false_eq_true, Bool.true_eq_false, Bool.false_eq_true, b2_eq0, Nat.add_zero, Nat.zero_add, Nat.not_lt_zero, Nat.zero_le, ite_true, ite_false, decide_true, decide_false, lit_ii, of_ii, le_T, le_F, lt_T, lt_F, eq_T, eq_F, ii_add, ii_mul, ii_nat, ii_le, ii_lt, ii_eq, inR_ii, ii_add0]
      simp (disch := first | omega | exact b2_01 _ | exact ii0_01 | exact ii1_01 | (simp (disch := omega) only [a0, a1, qP, qL, qD, hF, hM, hC, hPi, hr4, hr5, hr6, hr7, hr8, dv0, dv1, dv2, dv3, dr4, dr5, dr6, dr7, lr0, lr1, lr2, lv3, dr_some, Option.isSome_some, gR_wI, Nat.add_mul_mod_self_left, Nat.reduceMod, ak20, ak21, ak22, ak23, ak24, ak25, ak26, ak27, ak28, ak29, ak30, ak31, ak32, ak33, ak34, ak35, ak36, an20, an21, an22, an23, an24, an25, an26, an27, an28, an29, an30, an31, an32, an33, an34, an35, an36, an37, an38, ne_eq, inR_ii, decide_eq_true_eq, lit_ii, of_ii, ii_eq, ii_lt, ii_le]; first | done | omega)) only [a0, a1, e_Scales_mostRides, b_Scales_mostRides_0, b_Scales_mostRides_17, b_Scales_mostRides_27, b_Scales_mostRides_30, b_Scales_mostRides_36, b_Scales_mostRides_38, b_Scales_mostRides_43, b_Scales_mostRides_60, b_Scales_mostRides_63, b_Scales_mostRides_69, b_Scales_mostRides_79, h1, s_put, qP, qL, qD, hF, hM, hC, hPi, hr4, hr5, hr6, hr7, hr8, dv0, dv1, dv2, dv3, dr4, dr5, dr6, dr7, lr0, lr1, lr2, lv3, dr_some, Option.isSome_some, gR_wI, Nat.add_mul_mod_self_left, Nat.reduceMod, ak20, ak21, ak22, ak23, ak24, ak25, ak26, ak27, ak28, ak29, ak30, ak31, ak32, ak33, ak34, ak35, ak36, an20, an21, an22, an23, an24, an25, an26, an27, an28, an29, an30, an31, an32, an33, an34, an35, an36, an37, an38, ↓reduceIte, bk_int, bk_void, bk_long, bkN_int, bkN_void, bkN_long, Nat.reduceAdd, Nat.reduceMul, Nat.reduceSub, Nat.reduceLT, Nat.reduceLeDiff, if_true, if_false, not_true_eq_false, not_false_eq_true, Bool.true_eq_false, Bool.false_eq_true, b2_eq0, Nat.add_zero, Nat.zero_add, Nat.not_lt_zero, Nat.zero_le, ite_true, ite_false, decide_true, decide_false, lit_ii, of_ii, le_T, le_F, lt_T, lt_F, eq_T, eq_F, ii_add, ii_mul, ii_nat, ii_le, ii_lt, ii_eq, inR_ii, ii_add0]
    · rw [gI_row]
      by_cases q : P = k
      · rw [if_pos q, q]
      · rw [if_neg q]
        exact hv P (by omega)
  · rintro c ⟨σ1, rfl, F1, z1, hv1⟩
    have L1 := L.sv F1 hu
    have e1 : runF (callF (d + 3)) (d + 3) m_Scales_mostRides (12, [some (.ref (8 + 64 * u)), some (.ref (5 + 64 * t)), some (.int (ii (2 ^ hm H))), some (.int (ii (2 ^ hm H)))], [], σ1) = runF (callF (d + 3)) (d + 3) m_Scales_mostRides (38, [some (.ref (8 + 64 * u)), some (.ref (5 + 64 * t)), some (.int (ii (2 ^ hm H))), some (.int (ii 0))], [], σ1) := by
      obtain ⟨qP, qL, qD, ⟨hF, hM, hC, hPi, hr4, hr5, hr6, hr7, hr8, hv4, hv5, hv6, hv7, hv8⟩, ⟨dv0, dv1, dv2, dv3, dr4, dr5, dr6, dr7, dw4, dw5, dw6, dw7⟩, ⟨lr0, lr1, lr2, lv3, lw0⟩, ⟨⟨hw1, hw2, hw3, hw4, hw5⟩, hwm, hwc⟩, ⟨wd1, wd2, wd3⟩, wl, hap1, hap2, hap3⟩ := L1
      simp (disch := first | omega | exact b2_01 _ | exact ii0_01 | exact ii1_01 | (simp (disch := omega) only [qP, qL, qD, hF, hM, hC, hPi, hr4, hr5, hr6, hr7, hr8, dv0, dv1, dv2, dv3, dr4, dr5, dr6, dr7, lr0, lr1, lr2, lv3, dr_some, Option.isSome_some, gR_wI, Nat.add_mul_mod_self_left, Nat.reduceMod, ak20, ak21, ak22, ak23, ak24, ak25, ak26, ak27, ak28, ak29, ak30, ak31, ak32, ak33, ak34, ak35, ak36, an20, an21, an22, an23, an24, an25, an26, an27, an28, an29, an30, an31, an32, an33, an34, an35, an36, an37, an38, ne_eq, inR_ii, decide_eq_true_eq, lit_ii, of_ii, ii_eq, ii_lt, ii_le]; first | done | omega)) only [b_Scales_mostRides_12, b_Scales_mostRides_36, qP, qL, qD, hF, hM, hC, hPi, hr4, hr5, hr6, hr7, hr8, dv0, dv1, dv2, dv3, dr4, dr5, dr6, dr7, lr0, lr1, lr2, lv3, dr_some, Option.isSome_some, gR_wI, Nat.add_mul_mod_self_left, Nat.reduceMod, ak20, ak21, ak22, ak23, ak24, ak25, ak26, ak27, ak28, ak29, ak30, ak31, ak32, ak33, ak34, ak35, ak36, an20, an21, an22, an23, an24, an25, an26, an27, an28, an29, an30, an31, an32, an33, an34, an35, an36, an37, an38, ↓reduceIte, bk_int, bk_void, bk_long, bkN_int, bkN_void, bkN_long, Nat.reduceAdd, Nat.reduceMul, Nat.reduceSub, Nat.reduceLT, Nat.reduceLeDiff, if_true, if_false, not_true_eq_false, not_false_eq_true, Bool.true_eq_false, Bool.false_eq_true, b2_eq0, Nat.add_zero, Nat.zero_add, Nat.not_lt_zero, Nat.zero_le, ite_true, ite_false, decide_true, decide_false, lit_ii, of_ii, le_T, le_F, lt_T, lt_F, eq_T, eq_F, ii_add, ii_mul, ii_nat, ii_le, ii_lt, ii_eq, inR_ii, ii_add0]
    rw [e1]
    refine loop_g (N := 2 ^ hm H) (Q := fun o => ∃ σ', o = some (.inl (some (.int (ii (cT (hvs H D) (hp H) (2 ^ hm H) (2 ^ hm H - 1))))), σ') ∧ Fs (Sv l u) σ σ' ∧ gI σ' (28 + 64 * (u + 2)) 0 = ii 0) (fun k c => ∃ σ', c = (38, [some (.ref (8 + 64 * u)), some (.ref (5 + 64 * t)), some (.int (ii (2 ^ hm H))), some (.int (ii k))], [], σ') ∧ Fs (Sv l u) σ σ' ∧ (∀ P, P < 2 ^ hm H → gI σ' (28 + 64 * (u + 1)) P = ii (hvs H D P)) ∧ ∀ P, P < k ∨ P = 0 → gI σ' (28 + 64 * (u + 2)) P = ii (cT (hvs H D) (hp H) k P)) ?_ ?_ 0 _ (Nat.zero_le _) ⟨σ1, rfl, F1, hv1, fun P hP => by rw [show P = 0 by omega]; exact z1⟩
    · rintro k c hk ⟨σ', rfl, F, hv, hT⟩
      have L' := L.sv F hu
      have A' := A.fs F
      have h1 := fun d => s_mostRidesOf (d := d) (pi := hp H) A' (S := k) (by omega) (by omega) (fun P hP => hv P (by omega)) (fun P => Nat.le_trans (hvs_le L.wh L.wd P) (by omega)) hT (fun P => Nat.le_trans (cT_le _ _ _ _) (by omega))
      obtain ⟨a0, a1, a2, a3⟩ := A'
      refine ⟨_, ?_, wI σ' (28 + 64 * (u + 2)) k (ii (cro (cT (hvs H D) (hp H) k) (hvs H D) (hp H) k)), rfl, F.w (Or.inr (Or.inr (by omega))), fun P hP => by rw [gI_ne (by omega)]; exact hv P hP, fun P hP => ?_⟩
      · obtain ⟨qP, qL, qD, ⟨hF, hM, hC, hPi, hr4, hr5, hr6, hr7, hr8, hv4, hv5, hv6, hv7, hv8⟩, ⟨dv0, dv1, dv2, dv3, dr4, dr5, dr6, dr7, dw4, dw5, dw6, dw7⟩, ⟨lr0, lr1, lr2, lv3, lw0⟩, ⟨⟨hw1, hw2, hw3, hw4, hw5⟩, hwm, hwc⟩, ⟨wd1, wd2, wd3⟩, wl, hap1, hap2, hap3⟩ := L'
        conv => lhs; simp (disch := first | omega | exact b2_01 _ | exact ii0_01 | exact ii1_01 | (simp (disch := omega) only [qP, qL, qD, hF, hM, hC, hPi, hr4, hr5, hr6, hr7, hr8, dv0, dv1, dv2, dv3, dr4, dr5, dr6, dr7, lr0, lr1, lr2, lv3, dr_some, Option.isSome_some, gR_wI, Nat.add_mul_mod_self_left, Nat.reduceMod, ak20, ak21, ak22, ak23, ak24, ak25, ak26, ak27, ak28, ak29, ak30, ak31, ak32, ak33, ak34, ak35, ak36, an20, an21, an22, an23, an24, an25, an26, an27, an28, an29, an30, an31, an32, an33, an34, an35, an36, an37, an38, ne_eq, inR_ii, decide_eq_true_eq, lit_ii, of_ii, ii_eq, ii_lt, ii_le]; first | done | omega)) only [b_Scales_mostRides_38, qP, qL, qD, hF, hM, hC, hPi, hr4, hr5, hr6, hr7, hr8, dv0, dv1, dv2, dv3, dr4, dr5, dr6, dr7, lr0, lr1, lr2, lv3, dr_some, Option.isSome_some, gR_wI, Nat.add_mul_mod_self_left, Nat.reduceMod, ak20, ak21, ak22, ak23, ak24, ak25, ak26, ak27, ak28, ak29, ak30, ak31, ak32, ak33, ak34, ak35, ak36, an20, an21, an22, an23, an24, an25, an26, an27, an28, an29, an30, an31, an32, an33, an34, an35, an36, an37, an38, ↓reduceIte, bk_int, bk_void, bk_long, bkN_int, bkN_void, bkN_long, Nat.reduceAdd, Nat.reduceMul, Nat.reduceSub, Nat.reduceLT, Nat.reduceLeDiff, if_true, if_false, not_true_eq_false, not_false_eq_true, Bool.true_eq_false, Bool.false_eq_true, b2_eq0, Nat.add_zero, Nat.zero_add, Nat.not_lt_zero, Nat.zero_le, ite_true, ite_false, decide_true, decide_false, lit_ii, of_ii, le_T, le_F, lt_T, lt_F, eq_T, eq_F, ii_add, ii_mul, ii_nat, ii_le, ii_lt, ii_eq, inR_ii, ii_add0]
        simp (disch := first | omega | exact b2_01 _ | exact ii0_01 | exact ii1_01 | (simp (disch := omega) only [a0, a1, qP, qL, qD, hF, hM, hC, hPi, hr4, hr5, hr6, hr7, hr8, dv0, dv1, dv2, dv3, dr4, dr5, dr6, dr7, lr0, lr1, lr2, lv3, dr_some, Option.isSome_some, gR_wI, Nat.add_mul_mod_self_left, Nat.reduceMod, ak20, ak21, ak22, ak23, ak24, ak25, ak26, ak27, ak28, ak29, ak30, ak31, ak32, ak33, ak34, ak35, ak36, an20, an21, an22, an23, an24, an25, an26, an27, an28, an29, an30, an31, an32, an33, an34, an35, an36, an37, an38, ne_eq, inR_ii, decide_eq_true_eq, lit_ii, of_ii, ii_eq, ii_lt, ii_le]; first | done | omega)) only [a0, a1, e_Scales_mostRides, b_Scales_mostRides_0, b_Scales_mostRides_12, b_Scales_mostRides_17, b_Scales_mostRides_27, b_Scales_mostRides_30, b_Scales_mostRides_36, b_Scales_mostRides_43, b_Scales_mostRides_60, b_Scales_mostRides_63, b_Scales_mostRides_69, b_Scales_mostRides_79, h1, s_put, qP, qL, qD, hF, hM, hC, hPi, hr4, hr5, hr6, hr7, hr8, dv0, dv1, dv2, dv3, dr4, dr5, dr6, dr7, lr0, lr1, lr2, lv3, dr_some, Option.isSome_some, gR_wI, Nat.add_mul_mod_self_left, Nat.reduceMod, ak20, ak21, ak22, ak23, ak24, ak25, ak26, ak27, ak28, ak29, ak30, ak31, ak32, ak33, ak34, ak35, ak36, an20, an21, an22, an23, an24, an25, an26, an27, an28, an29, an30, an31, an32, an33, an34, an35, an36, an37, an38, ↓reduceIte, bk_int, bk_void, bk_long, bkN_int, bkN_void, bkN_long, Nat.reduceAdd, Nat.reduceMul, Nat.reduceSub, Nat.reduceLT, Nat.reduceLeDiff, if_true, if_false, not_true_eq_false, not_false_eq_true, Bool.true_eq_false, Bool.false_eq_true, b2_eq0, Nat.add_zero, Nat.zero_add, Nat.not_lt_zero, Nat.zero_le, ite_true, ite_false, decide_true, decide_false, lit_ii, of_ii, le_T, le_F, lt_T, lt_F, eq_T, eq_F, ii_add, ii_mul, ii_nat, ii_le, ii_lt, ii_eq, inR_ii, ii_add0]
      · rw [gI_row, cT]
        by_cases q : P = k
        · rw [if_pos q, q, up1_at]
        · rw [if_neg q, up1_ne q]
          exact hT P (by omega)
    · rintro c ⟨σ', rfl, F, hv, hT⟩
      have L' := L.sv F hu
      obtain ⟨a0, a1, a2, a3⟩ := A.fs F
      have e2 := hT (2 ^ hm H - 1) (by omega)
      have e3 := hT 0 (by omega)
      rw [cT_0] at e3
      refine ⟨σ', ?_, F, e3⟩
      obtain ⟨qP, qL, qD, ⟨hF, hM, hC, hPi, hr4, hr5, hr6, hr7, hr8, hv4, hv5, hv6, hv7, hv8⟩, ⟨dv0, dv1, dv2, dv3, dr4, dr5, dr6, dr7, dw4, dw5, dw6, dw7⟩, ⟨lr0, lr1, lr2, lv3, lw0⟩, ⟨⟨hw1, hw2, hw3, hw4, hw5⟩, hwm, hwc⟩, ⟨wd1, wd2, wd3⟩, wl, hap1, hap2, hap3⟩ := L'
      simp (disch := first | omega | exact b2_01 _ | exact ii0_01 | exact ii1_01 | (simp (disch := omega) only [a0, a1, qP, qL, qD, hF, hM, hC, hPi, hr4, hr5, hr6, hr7, hr8, dv0, dv1, dv2, dv3, dr4, dr5, dr6, dr7, lr0, lr1, lr2, lv3, dr_some, Option.isSome_some, gR_wI, Nat.add_mul_mod_self_left, Nat.reduceMod, ak20, ak21, ak22, ak23, ak24, ak25, ak26, ak27, ak28, ak29, ak30, ak31, ak32, ak33, ak34, ak35, ak36, an20, an21, an22, an23, an24, an25, an26, an27, an28, an29, an30, an31, an32, an33, an34, an35, an36, an37, an38, ne_eq, inR_ii, decide_eq_true_eq, lit_ii, of_ii, ii_eq, ii_lt, ii_le]; first | done | omega)) only [a0, a1, b_Scales_mostRides_38, b_Scales_mostRides_69, b_Scales_mostRides_79, s_at, ii_sub, e2, qP, qL, qD, hF, hM, hC, hPi, hr4, hr5, hr6, hr7, hr8, dv0, dv1, dv2, dv3, dr4, dr5, dr6, dr7, lr0, lr1, lr2, lv3, dr_some, Option.isSome_some, gR_wI, Nat.add_mul_mod_self_left, Nat.reduceMod, ak20, ak21, ak22, ak23, ak24, ak25, ak26, ak27, ak28, ak29, ak30, ak31, ak32, ak33, ak34, ak35, ak36, an20, an21, an22, an23, an24, an25, an26, an27, an28, an29, an30, an31, an32, an33, an34, an35, an36, an37, an38, ↓reduceIte, bk_int, bk_void, bk_long, bkN_int, bkN_void, bkN_long, Nat.reduceAdd, Nat.reduceMul, Nat.reduceSub, Nat.reduceLT, Nat.reduceLeDiff, if_true, if_false, not_true_eq_false, not_false_eq_true, Bool.true_eq_false, Bool.false_eq_true, b2_eq0, Nat.add_zero, Nat.zero_add, Nat.not_lt_zero, Nat.zero_le, ite_true, ite_false, decide_true, decide_false, lit_ii, of_ii, le_T, le_F, lt_T, lt_F, eq_T, eq_F, ii_add, ii_mul, ii_nat, ii_le, ii_lt, ii_eq, inR_ii, ii_add0]
