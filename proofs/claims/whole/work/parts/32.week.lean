/-! days copied -/
theorem gI_cIn {σ : HP} {a p b q n x y : Nat} (h : x ≠ b) : gI (cI σ a p b q n) x y = gI σ x y := by rw [gI_cI, if_neg (fun z => h z.1)]
theorem gI_cIs {σ : HP} {a b n y : Nat} (h : y < n) : gI (cI σ a 0 b 0 n) b y = gI σ a y := by
  rw [gI_cI, if_pos ⟨rfl, Nat.zero_le _, by omega⟩, Nat.zero_add, Nat.sub_zero]
def DR (σ : HP) (s : Nat) : Prop := gR σ (1 + 64 * s) 4 = some (21 + 64 * (s + 1)) ∧ gR σ (1 + 64 * s) 5 = some (21 + 64 * (s + 2)) ∧ gR σ (1 + 64 * s) 6 = some (21 + 64 * (s + 3)) ∧ gR σ (1 + 64 * s) 7 = some (26 + 64 * (s + 4))
theorem DA.dr {σ : HP} {s : Nat} {D : Nat → Nat} (A : DA σ s D) : DR σ s := ⟨A.2.2.2.2.1, A.2.2.2.2.2.1, A.2.2.2.2.2.2.1, A.2.2.2.2.2.2.2.1⟩
theorem s_copy21 {d a b : Nat} {σ : HP} (h : a ≠ b) (ha : a % 64 = 21) (hb : b % 64 = 21) : callF (d + 1) m_PL_copyRow [.ref a, .ref b] σ = some (.inl none, cI σ a 0 b 0 7) := by
  have e : p_min (Int32.ofNat (alen (a % 64))) (Int32.ofNat (alen (b % 64))) = 7 := by rw [ha, hb]; decide
  rw [e_PL_copyRow, b_PL_copyRow_0 (by rw [ha]; decide) (by rw [hb]; decide) (by rw [e]; exact ⟨h, by rw [ha]; rfl, by rw [hb]; rfl, by decide, by decide, by decide, by rw [ha]; decide, by rw [hb]; decide⟩), e]
  rfl
theorem s_copy26 {d a b : Nat} {σ : HP} (h : a ≠ b) (ha : a % 64 = 26) (hb : b % 64 = 26) : callF (d + 1) m_PL_copyRow [.ref a, .ref b] σ = some (.inl none, cI σ a 0 b 0 56) := by
  have e : p_min (Int32.ofNat (alen (a % 64))) (Int32.ofNat (alen (b % 64))) = 56 := by rw [ha, hb]; decide
  rw [e_PL_copyRow, b_PL_copyRow_0 (by rw [ha]; decide) (by rw [hb]; decide) (by rw [e]; exact ⟨h, by rw [ha]; rfl, by rw [hb]; rfl, by decide, by decide, by decide, by rw [ha]; decide, by rw [hb]; decide⟩), e]
  rfl
theorem s_takeFrom {d s s2 : Nat} {D : Nat → Nat} {σ : HP} (A : DA σ s2 D) (R : DR σ s) (hs : s + 4 < s2 ∨ s2 + 4 < s) : ∃ σ', callF (d + 2) m_Days_takeFrom [.ref (1 + 64 * s), .ref (1 + 64 * s2)] σ = some (.inl none, σ') ∧ DA σ' s D ∧ Fs (fun a => s ≤ a / 64 ∧ a / 64 ≤ s + 4) σ σ' := by
  obtain ⟨dv0, dv1, dv2, dv3, dr4, dr5, dr6, dr7, dw4, dw5, dw6, dw7⟩ := A
  obtain ⟨r4, r5, r6, r7⟩ := R
  refine ⟨cI (cI (cI (cI (wI (wI (wI (wI σ (1 + 64 * s) 0 (ii (D 86))) (1 + 64 * s) 1 (ii (D 84))) (1 + 64 * s) 2 (ii (Bof D))) (1 + 64 * s) 3 (ii (D 85))) (21 + 64 * (s2 + 1)) 0 (21 + 64 * (s + 1)) 0 7) (21 + 64 * (s2 + 2)) 0 (21 + 64 * (s + 2)) 0 7) (21 + 64 * (s2 + 3)) 0 (21 + 64 * (s + 3)) 0 7) (26 + 64 * (s2 + 4)) 0 (26 + 64 * (s + 4)) 0 56, ?_, ?_, ?_⟩
  · simp (disch := first | omega | exact b2_01 _ | exact ii0_01 | exact ii1_01 | (simp (disch := omega) only [dr4, dr5, dr6, dr7, r4, r5, r6, r7, gR_cI, dr_some, Option.isSome_some, gR_wI, Nat.add_mul_mod_self_left, Nat.reduceMod, ak20, ak21, ak22, ak23, ak24, ak25, ak26, ak27, ak28, ak29, ak30, ak31, ak32, ak33, ak34, ak35, ak36, an20, an21, an22, an23, an24, an25, an26, an27, an28, an29, an30, an31, an32, an33, an34, an35, an36, an37, an38, ne_eq, inR_ii, decide_eq_true_eq, lit_ii, of_ii, ii_eq, ii_lt, ii_le]; first | done | omega)) only [dr4, dr5, dr6, dr7, r4, r5, r6, r7, gR_cI, e_Days_takeFrom, b_Days_takeFrom_0, b_Days_takeFrom_43, b_Days_takeFrom_54, b_Days_takeFrom_65, b_Days_takeFrom_76, s_copy21, s_copy26, gI_ne, dv0, dv1, dv2, dv3, dr_some, Option.isSome_some, gR_wI, Nat.add_mul_mod_self_left, Nat.reduceMod, ak20, ak21, ak22, ak23, ak24, ak25, ak26, ak27, ak28, ak29, ak30, ak31, ak32, ak33, ak34, ak35, ak36, an20, an21, an22, an23, an24, an25, an26, an27, an28, an29, an30, an31, an32, an33, an34, an35, an36, an37, an38, ↓reduceIte, bk_int, bk_void, bk_long, bkN_int, bkN_void, bkN_long, Nat.reduceAdd, Nat.reduceMul, Nat.reduceSub, Nat.reduceLT, Nat.reduceLeDiff, if_true, if_false, not_true_eq_false, not_false_eq_true, Bool.true_eq_false, Bool.false_eq_true, b2_eq0, Nat.add_zero, Nat.zero_add, Nat.not_lt_zero, Nat.zero_le, ite_true, ite_false, decide_true, decide_false, lit_ii, of_ii, le_T, le_F, lt_T, lt_F, eq_T, eq_F, ii_add, ii_mul, ii_nat, ii_le, ii_lt, ii_eq, inR_ii, ii_add0]
  · refine ⟨?_, ?_, ?_, ?_, r4, r5, r6, r7, fun m hm => ?_, fun m hm => ?_, fun m hm => ?_, fun j hj => ?_⟩
    · simp (disch := omega) only [gI_cIn, gI_nj, gI_at]
    · simp (disch := omega) only [gI_cIn, gI_nj, gI_at]
    · simp (disch := omega) only [gI_cIn, gI_nj, gI_at]
    · simp (disch := omega) only [gI_cIn, gI_nj, gI_at]
    · simp (disch := omega) only [gI_cIn, gI_cIs, gI_ne, dw4 m]
    · simp (disch := omega) only [gI_cIn, gI_cIs, gI_ne, dw5 m]
    · simp (disch := omega) only [gI_cIn, gI_cIs, gI_ne, dw6 m]
    · simp (disch := omega) only [gI_cIn, gI_cIs, gI_ne, dw7 j]
  · exact Fs.c (Fs.c (Fs.c (Fs.c (Fs.w (Fs.w (Fs.w (Fs.w Fs.rf (by omega)) (by omega)) (by omega)) (by omega)) (by omega)) (by omega)) (by omega)) (by omega)
/-! a general frame: what has no place in S, and was there before, stays -/
def Fx (S : Nat → Prop) (σ σ' : HP) : Prop := hL σ' = hL σ ∧ hN σ ≤ hN σ' ∧ ∀ a, a / 64 < hN σ → ¬ S a → ∀ j, gI σ' a j = gI σ a j ∧ gJ σ' a j = gJ σ a j ∧ gR σ' a j = gR σ a j
theorem Fx.rf {S : Nat → Prop} {σ : HP} : Fx S σ σ := ⟨rfl, Nat.le_refl _, fun _ _ _ _ => ⟨rfl, rfl, rfl⟩⟩
theorem Fx.tr {S : Nat → Prop} {σ σ' σ'' : HP} (h : Fx S σ σ') (h' : Fx S σ' σ'') : Fx S σ σ'' :=
  ⟨h'.1.trans h.1, Nat.le_trans h.2.1 h'.2.1, fun a q z j => by
    have a1 := h.2.2 a q z j
    have a2 := h'.2.2 a (Nat.lt_of_lt_of_le q h.2.1) z j
    exact ⟨a2.1.trans a1.1, a2.2.1.trans a1.2.1, a2.2.2.trans a1.2.2⟩⟩
theorem Fx.mono {S S' : Nat → Prop} {σ σ' : HP} (h : Fx S σ σ') (hp : ∀ a, S a → S' a) : Fx S' σ σ' :=
  ⟨h.1, h.2.1, fun a q z => h.2.2 a q (fun y => z (hp a y))⟩
theorem Fs.x {S : Nat → Prop} {σ σ' : HP} (h : Fs S σ σ') : Fx S σ σ' :=
  ⟨h.L, Nat.le_of_eq h.N.symm, fun a _ z j => ⟨h.I z, h.J a j, h.R a j⟩⟩
theorem Fx.I {S : Nat → Prop} {σ σ' : HP} (h : Fx S σ σ') {a j : Nat} (q : a / 64 < hN σ) (z : ¬ S a) : gI σ' a j = gI σ a j := (h.2.2 a q z j).1
theorem Fx.J {S : Nat → Prop} {σ σ' : HP} (h : Fx S σ σ') {a j : Nat} (q : a / 64 < hN σ) (z : ¬ S a) : gJ σ' a j = gJ σ a j := (h.2.2 a q z j).2.1
theorem Fx.R {S : Nat → Prop} {σ σ' : HP} (h : Fx S σ σ') {a j : Nat} (q : a / 64 < hN σ) (z : ¬ S a) : gR σ' a j = gR σ a j := (h.2.2 a q z j).2.2
theorem Fx.wr {S : Nat → Prop} {σ σ' : HP} {a j : Nat} {v : Option Nat} (h : Fx S σ σ') (hp : S a) : Fx S σ (wR σ' a j v) :=
  ⟨h.1, h.2.1, fun b q z k => by
    have a1 := h.2.2 b q z k
    refine ⟨a1.1, a1.2.1, ?_⟩
    rw [gR_wR, if_neg ?_]
    · exact a1.2.2
    · rintro ⟨rfl, -⟩
      exact z hp⟩
theorem Fx.wi {S : Nat → Prop} {σ σ' : HP} {a j : Nat} {v : Int32} (h : Fx S σ σ') (hp : S a) : Fx S σ (wI σ' a j v) :=
  h.tr (Fs.x (Fs.w Fs.rf hp))
theorem Fx.wj {S : Nat → Prop} {σ σ' : HP} {a j : Nat} {v : Int64} (h : Fx S σ σ') (hp : S a) : Fx S σ (wJ σ' a j v) :=
  ⟨h.1, h.2.1, fun b q z k => by
    have a1 := h.2.2 b q z k
    refine ⟨a1.1, ?_, a1.2.2⟩
    rw [gJ_wJ, if_neg ?_]
    · exact a1.2.1
    · rintro ⟨rfl, -⟩
      exact z hp⟩
theorem Fx.ha {S : Nat → Prop} {σ σ' : HP} {k n : Nat} (h : Fx S σ σ') : Fx S σ (hA σ' k n) :=
  ⟨h.1, Nat.le_succ_of_le h.2.1, fun b q z j => by
    have a1 := h.2.2 b q z j
    have a2 := h.2.1
    by_cases e : b = k + 64 * hN σ'
    · exact absurd q (by omega)
    · rw [gI_hAn e, gJ_hAn e, gR_hAn e]
      exact a1⟩
theorem HA.fx {S : Nat → Prop} {σ σ' : HP} {h : Nat} {H : HH} (A : HA σ h H) (F : Fx S σ σ') (hn : h + 5 < hN σ) (q : ∀ a, h ≤ a / 64 → a / 64 ≤ h + 5 → ¬ S a) : HA σ' h H := by
  obtain ⟨hF, hM, hC, hPi, hr4, hr5, hr6, hr7, hr8, hv4, hv5, hv6, hv7, hv8⟩ := A
  have i : ∀ a j, h ≤ a / 64 → a / 64 ≤ h + 5 → gI σ' a j = gI σ a j := fun a j x y => F.I (by omega) (q a x y)
  have r : ∀ a j, h ≤ a / 64 → a / 64 ≤ h + 5 → gR σ' a j = gR σ a j := fun a j x y => F.R (by omega) (q a x y)
  exact ⟨(i _ _ (by omega) (by omega)).trans hF, (i _ _ (by omega) (by omega)).trans hM, (i _ _ (by omega) (by omega)).trans hC, (i _ _ (by omega) (by omega)).trans hPi, (r _ _ (by omega) (by omega)).trans hr4, (r _ _ (by omega) (by omega)).trans hr5, (r _ _ (by omega) (by omega)).trans hr6, (r _ _ (by omega) (by omega)).trans hr7, (r _ _ (by omega) (by omega)).trans hr8, fun m k => (i _ _ (by omega) (by omega)).trans (hv4 m k), fun m k => (i _ _ (by omega) (by omega)).trans (hv5 m k), fun m k => (i _ _ (by omega) (by omega)).trans (hv6 m k), fun m k => (i _ _ (by omega) (by omega)).trans (hv7 m k), fun m k => (i _ _ (by omega) (by omega)).trans (hv8 m k)⟩
theorem DA.fx {S : Nat → Prop} {σ σ' : HP} {s : Nat} {D : Nat → Nat} (A : DA σ s D) (F : Fx S σ σ') (hn : s + 4 < hN σ) (q : ∀ a, s ≤ a / 64 → a / 64 ≤ s + 4 → ¬ S a) : DA σ' s D := by
  obtain ⟨dv0, dv1, dv2, dv3, dr4, dr5, dr6, dr7, dw4, dw5, dw6, dw7⟩ := A
  have i : ∀ a j, s ≤ a / 64 → a / 64 ≤ s + 4 → gI σ' a j = gI σ a j := fun a j x y => F.I (by omega) (q a x y)
  have r : ∀ a j, s ≤ a / 64 → a / 64 ≤ s + 4 → gR σ' a j = gR σ a j := fun a j x y => F.R (by omega) (q a x y)
  exact ⟨(i _ _ (by omega) (by omega)).trans dv0, (i _ _ (by omega) (by omega)).trans dv1, (i _ _ (by omega) (by omega)).trans dv2, (i _ _ (by omega) (by omega)).trans dv3, (r _ _ (by omega) (by omega)).trans dr4, (r _ _ (by omega) (by omega)).trans dr5, (r _ _ (by omega) (by omega)).trans dr6, (r _ _ (by omega) (by omega)).trans dr7, fun m k => (i _ _ (by omega) (by omega)).trans (dw4 m k), fun m k => (i _ _ (by omega) (by omega)).trans (dw5 m k), fun m k => (i _ _ (by omega) (by omega)).trans (dw6 m k), fun m k => (i _ _ (by omega) (by omega)).trans (dw7 m k)⟩
theorem LwA.fx {S : Nat → Prop} {σ σ' : HP} {l : Nat} {w : LW} (A : LwA σ l w) (F : Fx S σ σ') (hn : l + 1 < hN σ) (q : ∀ a, l ≤ a / 64 → a / 64 ≤ l + 1 → ¬ S a) : LwA σ' l w := by
  obtain ⟨lr0, lr1, lr2, lv3, lw0⟩ := A
  have i : ∀ a j, l ≤ a / 64 → a / 64 ≤ l + 1 → gI σ' a j = gI σ a j := fun a j x y => F.I (by omega) (q a x y)
  have r : ∀ a j, l ≤ a / 64 → a / 64 ≤ l + 1 → gR σ' a j = gR σ a j := fun a j x y => F.R (by omega) (q a x y)
  exact ⟨(r _ _ (by omega) (by omega)).trans lr0, (r _ _ (by omega) (by omega)).trans lr1, (r _ _ (by omega) (by omega)).trans lr2, (i _ _ (by omega) (by omega)).trans lv3, fun k hk => (i _ _ (by omega) (by omega)).trans (lw0 k hk)⟩
theorem CL.fx {S : Nat → Prop} {σ σ' : HP} {t h l s : Nat} {H : HH} {w : LW} {D : Nat → Nat} (A : CL σ t h l s H w D) (F : Fx S σ σ') (n0 : t < hN σ) (n1 : h + 5 < hN σ) (n2 : s + 4 < hN σ) (n3 : l + 1 < hN σ) (q0 : ¬ S (5 + 64 * t)) (q1 : ∀ a, h ≤ a / 64 → a / 64 ≤ h + 5 → ¬ S a) (q2 : ∀ a, s ≤ a / 64 → a / 64 ≤ s + 4 → ¬ S a) (q3 : ∀ a, l ≤ a / 64 → a / 64 ≤ l + 1 → ¬ S a) : CL σ' t h l s H w D := by
  obtain ⟨qP, qL, qD, a1, a2, a3, r⟩ := A
  exact ⟨(F.R (by omega) q0).trans qP, (F.R (by omega) q0).trans qL, (F.R (by omega) q0).trans qD, a1.fx F n1 q1, a2.fx F n2 q2, a3.fx F n3 q3, r⟩
theorem CL.wr {σ : HP} {t t2 h l s j : Nat} {v : Option Nat} {H : HH} {w : LW} {D : Nat → Nat} (A : CL σ t h l s H w D) (ht : t ≠ t2) : CL (wR σ (5 + 64 * t2) j v) t h l s H w D := by
  obtain ⟨qP, qL, qD, ⟨hF, hM, hC, hPi, hr4, hr5, hr6, hr7, hr8, hv⟩, ⟨dv0, dv1, dv2, dv3, dr4, dr5, dr6, dr7, dw⟩, ⟨lr0, lr1, lr2, lw⟩, r⟩ := A
  have e : ∀ a k, a ≠ 5 + 64 * t2 → gR (wR σ (5 + 64 * t2) j v) a k = gR σ a k := fun a k h => gR_ne h
  exact ⟨(e _ _ (by omega)).trans qP, (e _ _ (by omega)).trans qL, (e _ _ (by omega)).trans qD, ⟨hF, hM, hC, hPi, (e _ _ (by omega)).trans hr4, (e _ _ (by omega)).trans hr5, (e _ _ (by omega)).trans hr6, (e _ _ (by omega)).trans hr7, (e _ _ (by omega)).trans hr8, hv⟩, ⟨dv0, dv1, dv2, dv3, (e _ _ (by omega)).trans dr4, (e _ _ (by omega)).trans dr5, (e _ _ (by omega)).trans dr6, (e _ _ (by omega)).trans dr7, dw⟩, ⟨(e _ _ (by omega)).trans lr0, (e _ _ (by omega)).trans lr1, (e _ _ (by omega)).trans lr2, lw⟩, r⟩
theorem s_becomeLike {t2 s2 d t h l s : Nat} {H : HH} {w : LW} {D : Nat → Nat} {σ : HP} (L : CL σ t h l s H w D) (R2 : gR σ (5 + 64 * t2) 2 = some (1 + 64 * s2)) (R : DR σ s2) (ht : t ≠ t2) (a1 : s2 + 4 < s ∨ s + 4 < s2) (a2 : h + 5 < s2 ∨ s2 + 4 < h) (a3 : l + 3 < s2 ∨ s2 + 4 < l) : ∃ σ', callF (d + 3) m_Lift_becomeLike [.ref (5 + 64 * t2), .ref (5 + 64 * t)] σ = some (.inl none, σ') ∧ CL σ' t2 h l s2 H w D ∧ CL σ' t h l s H w D ∧ hS σ' = hS σ ∧ hN σ' = hN σ ∧ Fx (fun a => a = 5 + 64 * t2 ∨ (s2 ≤ a / 64 ∧ a / 64 ≤ s2 + 4)) σ σ' := by
  have L1 := (L.wr (t2 := t2) (j := 0) (v := some (2 + 64 * h)) ht).wr (t2 := t2) (j := 1) (v := some (4 + 64 * l)) ht
  have R1 : DR (wR (wR σ (5 + 64 * t2) 0 (some (2 + 64 * h))) (5 + 64 * t2) 1 (some (4 + 64 * l))) s2 := by
    obtain ⟨r4, r5, r6, r7⟩ := R
    refine ⟨?_, ?_, ?_, ?_⟩ <;> rw [gR_ne (by omega), gR_ne (by omega)] <;> assumption
  obtain ⟨σ', e1, A1, F1⟩ := s_takeFrom (d := d) L1.da R1 a1
  have F0 : Fx (fun a => a = 5 + 64 * t2 ∨ (s2 ≤ a / 64 ∧ a / 64 ≤ s2 + 4)) σ (wR (wR σ (5 + 64 * t2) 0 (some (2 + 64 * h))) (5 + 64 * t2) 1 (some (4 + 64 * l))) := Fx.wr (Fx.wr Fx.rf (Or.inl rfl)) (Or.inl rfl)
  have q1 : gR (wR (wR σ (5 + 64 * t2) 0 (some (2 + 64 * h))) (5 + 64 * t2) 1 (some (4 + 64 * l))) (5 + 64 * t2) 0 = some (2 + 64 * h) := by rw [gR_nj (by decide), gR_at]
  have q2 : gR (wR (wR σ (5 + 64 * t2) 0 (some (2 + 64 * h))) (5 + 64 * t2) 1 (some (4 + 64 * l))) (5 + 64 * t2) 1 = some (4 + 64 * l) := gR_at
  have q3 : gR (wR (wR σ (5 + 64 * t2) 0 (some (2 + 64 * h))) (5 + 64 * t2) 1 (some (4 + 64 * l))) (5 + 64 * t2) 2 = some (1 + 64 * s2) := by rw [gR_nj (by decide), gR_nj (by decide), R2]
  obtain ⟨p1, p2, p3, b1, b2, b3, c1, c2, c3, u1, u2, u3⟩ := L1
  refine ⟨σ', ?_, ⟨(F1.R _ _).trans q1, (F1.R _ _).trans q2, (F1.R _ _).trans q3, b1.fs F1 (fun a x y z => by omega), A1, b3.fs F1 (fun a x y z => by omega), c1, c2, c3, by omega, u2, by omega⟩, ⟨(F1.R _ _).trans p1, (F1.R _ _).trans p2, (F1.R _ _).trans p3, b1.fs F1 (fun a x y z => by omega), b2.fs F1 (fun a x y z => by omega), b3.fs F1 (fun a x y z => by omega), c1, c2, c3, u1, u2, u3⟩, F1.Z.trans rfl, F1.N.trans rfl, F0.tr (F1.mono (fun a z => Or.inr z)).x⟩
  have w1 : gR (wR σ (5 + 64 * t2) 0 (some (2 + 64 * h))) (5 + 64 * t) 1 = gR σ (5 + 64 * t) 1 := gR_ne (by omega)
  have w3 : gR (wR (wR σ (5 + 64 * t2) 0 (some (2 + 64 * h))) (5 + 64 * t2) 1 (some (4 + 64 * l))) (5 + 64 * t) 2 = gR σ (5 + 64 * t) 2 := by rw [gR_ne (by omega), gR_ne (by omega)]
  have n1 : ¬ (5 + 64 * t) = 5 + 64 * t2 := by omega
  obtain ⟨qP, qL, qD, ⟨hF, hM, hC, hPi, hr4, hr5, hr6, hr7, hr8, hv4, hv5, hv6, hv7, hv8⟩, ⟨dv0, dv1, dv2, dv3, dr4, dr5, dr6, dr7, dw4, dw5, dw6, dw7⟩, ⟨lr0, lr1, lr2, lv3, lw0⟩, ⟨⟨hw1, hw2, hw3, hw4, hw5⟩, hwm, hwc⟩, ⟨wd1, wd2, wd3⟩, wl, hap1, hap2, hap3⟩ := L
  simp (disch := first | omega | exact b2_01 _ | exact ii0_01 | exact ii1_01 | (simp (disch := omega) only [R2, w1, w3, q3, qP, qL, qD, hF, hM, hC, hPi, hr4, hr5, hr6, hr7, hr8, dv0, dv1, dv2, dv3, dr4, dr5, dr6, dr7, lr0, lr1, lr2, lv3, dr_some, Option.isSome_some, gR_wI, Nat.add_mul_mod_self_left, Nat.reduceMod, ak20, ak21, ak22, ak23, ak24, ak25, ak26, ak27, ak28, ak29, ak30, ak31, ak32, ak33, ak34, ak35, ak36, an20, an21, an22, an23, an24, an25, an26, an27, an28, an29, an30, an31, an32, an33, an34, an35, an36, an37, an38, ne_eq, inR_ii, decide_eq_true_eq, lit_ii, of_ii, ii_eq, ii_lt, ii_le]; first | done | omega)) only [R2, w1, w3, q3, e_Lift_becomeLike, b_Lift_becomeLike_0, b_Lift_becomeLike_27, e1, qP, qL, qD, hF, hM, hC, hPi, hr4, hr5, hr6, hr7, hr8, dv0, dv1, dv2, dv3, dr4, dr5, dr6, dr7, lr0, lr1, lr2, lv3, dr_some, Option.isSome_some, gR_wI, Nat.add_mul_mod_self_left, Nat.reduceMod, ak20, ak21, ak22, ak23, ak24, ak25, ak26, ak27, ak28, ak29, ak30, ak31, ak32, ak33, ak34, ak35, ak36, an20, an21, an22, an23, an24, an25, an26, an27, an28, an29, an30, an31, an32, an33, an34, an35, an36, an37, an38, ↓reduceIte, bk_int, bk_void, bk_long, bkN_int, bkN_void, bkN_long, Nat.reduceAdd, Nat.reduceMul, Nat.reduceSub, Nat.reduceLT, Nat.reduceLeDiff, if_true, if_false, not_true_eq_false, not_false_eq_true, Bool.true_eq_false, Bool.false_eq_true, b2_eq0, Nat.add_zero, Nat.zero_add, Nat.not_lt_zero, Nat.zero_le, ite_true, ite_false, decide_true, decide_false, lit_ii, of_ii, le_T, le_F, lt_T, lt_F, eq_T, eq_F, ii_add, ii_mul, ii_nat, ii_le, ii_lt, ii_eq, inR_ii, ii_add0]
