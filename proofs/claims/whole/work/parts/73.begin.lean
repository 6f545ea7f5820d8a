def begD (H : HH) (i : Nat) : Nat := if i < hm H then mr H (3 * i) else 0
def begN (H : HH) (i : Nat) : Nat := if i < 7 then begD H i else 0
theorem s_beginIn {d h s : Nat} {H : HH} {σ : HP} (A : HA σ h H) (R : DR σ s) (hs : h + 5 < s ∨ s + 4 < h) : ∃ σ', callF (d + 2) m_Days_beginIn [.ref (1 + 64 * s), .ref (2 + 64 * h)] σ = some (.inl none, σ') ∧ DA σ' s (begN H) ∧ Fs (fun a => s ≤ a / 64 ∧ a / 64 ≤ s + 4) σ σ' := by
  obtain ⟨r4, r5, r6, r7⟩ := R
  obtain ⟨a0, a1, a2, a3, q4, q5, q6, q7, q8, v4, v5, v6, v7, v8⟩ := A
  obtain ⟨τ, hτ⟩ : ∃ τ, τ = wI (wI (wI (wI σ (1 + 64 * s) 0 (ii 0)) (1 + 64 * s) 1 (ii 0)) (1 + 64 * s) 2 (ii 0)) (1 + 64 * s) 3 (ii 0) := ⟨_, rfl⟩
  have F0 : Fs (fun a => s ≤ a / 64 ∧ a / 64 ≤ s + 4) σ τ := by
    rw [hτ]
    exact Fs.w (Fs.w (Fs.w (Fs.w Fs.rf (by omega)) (by omega)) (by omega)) (by omega)
  have cp := fun d => s_copy21 (d := d) (σ := τ) (a := 21 + 64 * (h + 1)) (b := 21 + 64 * (s + 1)) (by omega) (by omega) (by omega)
  have F1 : Fs (fun a => a = 21 + 64 * (s + 1)) τ (cI τ (21 + 64 * (h + 1)) 0 (21 + 64 * (s + 1)) 0 7) := Fs.c Fs.rf rfl
  obtain ⟨σ2, e2, F2, w2⟩ := s_fill (d := d) (a := 21 + 64 * (s + 2)) (v := ii 0) (σ := cI τ (21 + 64 * (h + 1)) 0 (21 + 64 * (s + 1)) 0 7) (by rw [Nat.add_mul_mod_self_left]; rfl)
  obtain ⟨σ3, e3, F3, w3⟩ := s_fill (d := d) (a := 21 + 64 * (s + 3)) (v := ii 0) (σ := σ2) (by rw [Nat.add_mul_mod_self_left]; rfl)
  obtain ⟨σ4, e4, F4, w4⟩ := s_fill (d := d) (a := 26 + 64 * (s + 4)) (v := ii 0) (σ := σ3) (by rw [Nat.add_mul_mod_self_left]; rfl)
  have l21 : alen ((21 + 64 * (s + 2)) % 64) = 7 := by rw [Nat.add_mul_mod_self_left]; rfl
  have l21' : alen ((21 + 64 * (s + 3)) % 64) = 7 := by rw [Nat.add_mul_mod_self_left]; rfl
  have l26 : alen ((26 + 64 * (s + 4)) % 64) = 56 := by rw [Nat.add_mul_mod_self_left]; rfl
  rw [l21] at w2
  rw [l21'] at w3
  rw [l26] at w4
  have G : ∀ a j, a ≠ 21 + 64 * (s + 1) → a ≠ 21 + 64 * (s + 2) → a ≠ 21 + 64 * (s + 3) → a ≠ 26 + 64 * (s + 4) → gI σ4 a j = gI τ a j := fun a j h1 h2 h3 h4 => (F4.I h4).trans ((F3.I h3).trans ((F2.I h2).trans (F1.I h1)))
  have Rr : ∀ a j, gR σ4 a j = gR σ a j := fun a j => (F4.R a j).trans ((F3.R a j).trans ((F2.R a j).trans ((F1.R a j).trans (F0.R a j))))
  refine ⟨σ4, ?_, ⟨?_, ?_, ?_, ?_, (Rr _ _).trans r4, (Rr _ _).trans r5, (Rr _ _).trans r6, (Rr _ _).trans r7, fun m hm' => ?_, fun m hm' => ?_, fun m hm' => ?_, fun j hj => ?_⟩, F0.tr ((F1.mono (fun a z => by omega)).tr ((F2.mono (fun a z => by omega)).tr ((F3.mono (fun a z => by omega)).tr (F4.mono (fun a z => by omega)))))⟩
  · have t4 : gR τ (2 + 64 * h) 4 = some (21 + 64 * (h + 1)) := (F0.R _ _).trans q4
    have t5 : gR τ (1 + 64 * s) 4 = some (21 + 64 * (s + 1)) := (F0.R _ _).trans r4
    have u5 : gR (cI τ (21 + 64 * (h + 1)) 0 (21 + 64 * (s + 1)) 0 7) (1 + 64 * s) 5 = some (21 + 64 * (s + 2)) := (F1.R _ _).trans ((F0.R _ _).trans r5)
    have u6 : gR σ2 (1 + 64 * s) 6 = some (21 + 64 * (s + 3)) := (F2.R _ _).trans ((F1.R _ _).trans ((F0.R _ _).trans r6))
    have u7 : gR σ3 (1 + 64 * s) 7 = some (26 + 64 * (s + 4)) := (F3.R _ _).trans ((F2.R _ _).trans ((F1.R _ _).trans ((F0.R _ _).trans r7)))
    have hτ' := hτ.symm
    simp (disch := first | omega | exact b2_01 _ | exact ii0_01 | exact ii1_01 | (simp (disch := omega) only [hτ', t4, t5, u5, u6, u7, r4, q4, dr_some, Option.isSome_some, gR_wI, Nat.add_mul_mod_self_left, Nat.reduceMod, ak20, ak21, ak22, ak23, ak24, ak25, ak26, ak27, ak28, ak29, ak30, ak31, ak32, ak33, ak34, ak35, ak36, an20, an21, an22, an23, an24, an25, an26, an27, an28, an29, an30, an31, an32, an33, an34, an35, an36, an37, an38, ne_eq, inR_ii, decide_eq_true_eq, lit_ii, of_ii, ii_eq, ii_lt, ii_le]; first | done | omega)) only [hτ', t4, t5, u5, u6, u7, r4, q4, e_Days_beginIn, b_Days_beginIn_0, b_Days_beginIn_31, b_Days_beginIn_39, b_Days_beginIn_47, b_Days_beginIn_55, cp, e2, e3, e4, dr_some, Option.isSome_some, gR_wI, Nat.add_mul_mod_self_left, Nat.reduceMod, ak20, ak21, ak22, ak23, ak24, ak25, ak26, ak27, ak28, ak29, ak30, ak31, ak32, ak33, ak34, ak35, ak36, an20, an21, an22, an23, an24, an25, an26, an27, an28, an29, an30, an31, an32, an33, an34, an35, an36, an37, an38, ↓reduceIte, bk_int, bk_void, bk_long, bkN_int, bkN_void, bkN_long, Nat.reduceAdd, Nat.reduceMul, Nat.reduceSub, Nat.reduceLT, Nat.reduceLeDiff, if_true, if_false, not_true_eq_false, not_false_eq_true, Bool.true_eq_false, Bool.false_eq_true, b2_eq0, Nat.add_zero, Nat.zero_add, Nat.not_lt_zero, Nat.zero_le, ite_true, ite_false, decide_true, decide_false, lit_ii, of_ii, le_T, le_F, lt_T, lt_F, eq_T, eq_F, ii_add, ii_mul, ii_nat, ii_le, ii_lt, ii_eq, inR_ii, ii_add0]
  · rw [G _ _ (by omega) (by omega) (by omega) (by omega), hτ, gI_nj (by decide), gI_nj (by decide), gI_nj (by decide), gI_at]
    rfl
  · rw [G _ _ (by omega) (by omega) (by omega) (by omega), hτ, gI_nj (by decide), gI_nj (by decide), gI_at]
    rfl
  · rw [G _ _ (by omega) (by omega) (by omega) (by omega), hτ, gI_nj (by decide), gI_at]
    rfl
  · rw [G _ _ (by omega) (by omega) (by omega) (by omega), hτ, gI_at]
    rfl
  · rw [F4.I (by omega), F3.I (by omega), F2.I (by omega), gI_cIs hm', F0.I (by omega), v4 m hm']
    unfold begN begD
    rw [if_pos hm']
  · rw [F4.I (by omega), F3.I (by omega), w2 m hm']
    unfold begN
    rw [if_neg (by omega)]
  · rw [F4.I (by omega), w3 m hm']
    unfold begN
    rw [if_neg (by omega)]
  · rw [w4 j hj]
    unfold begN
    rw [if_neg (by omega)]
