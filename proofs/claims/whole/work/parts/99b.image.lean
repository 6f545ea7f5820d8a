/-! THE REFERENCE: images -/
theorem r_keepsT {d q b n : Nat} {σ : HP} (a : MRf σ) (hb : aty (b % 64) = 1) (hnb : n ≤ alen (b % 64)) (hb2 : b ≠ 5537) (hq : q + n ≤ 4440) : ∃ σ', callF (d + 1) m_Mo_keepsRow [.ref 3980, .int (ii q), .ref b, .int (ii n), .int (ii 1)] σ = some (.inl (some (.int (ii (q + n)))), σ') ∧ Fs (fun x => x = 5537) σ σ' ∧ (∀ k, k < n → gI σ' 5537 (q + k) = gI σ b k) ∧ ∀ j, j < q ∨ q + n ≤ j → gI σ' 5537 j = gI σ 5537 j := by
  rw [e_Mo_keepsRow, b_Mo_keepsRow_0, lit_ii 0]
  refine loop_g (N := n) (Q := fun o => ∃ σ', o = some (.inl (some (.int (ii (q + n)))), σ') ∧ Fs (fun x => x = 5537) σ σ' ∧ (∀ k, k < n → gI σ' 5537 (q + k) = gI σ b k) ∧ ∀ j, j < q ∨ q + n ≤ j → gI σ' 5537 j = gI σ 5537 j) (fun i c => ∃ σ', c = (3, [some (.ref 3980), some (.int (ii q)), some (.ref b), some (.int (ii n)), some (.int (ii 1)), some (.int (ii i))], [], σ') ∧ Fs (fun x => x = 5537) σ σ' ∧ (∀ k, k < i → gI σ' 5537 (q + k) = gI σ b k) ∧ ∀ j, j < q ∨ q + i ≤ j → gI σ' 5537 j = gI σ 5537 j) ?_ ?_ 0 _ (Nat.zero_le _) ⟨σ, rfl, Fs.rf, fun k hk => by omega, fun j _ => rfl⟩
  · rintro i c hi ⟨σ', rfl, F, q1, q2⟩
    have hk' : ¬ n ≤ i := by omega
    have ea : gI σ' b i = gI σ b i := F.I hb2
    have a' := a.fs F
    obtain ⟨z1, z9, z10, z11, z12, z13, z22, z23, z24, z25, z26, z29, z30, z31, z38, z39, z40, z41, z42, z44, z45, z46, z47, z49⟩ := id a'
    have r1 : inR (ii i) (alen (b % 64)) = true := by rw [inR_ii (by omega)]; exact decide_eq_true (by omega)
    have r3 : aty (dr (gR σ' 3980 49) % 64) = 1 := by rw [z49]; rfl
    have r2 : inR (ii q + ii i) (alen (dr (gR σ' 3980 49) % 64)) = true := by
      rw [z49, ii_add, inR_ii (by omega)]
      exact decide_eq_true (by show q + i < 4440; omega)
    refine ⟨_, ?_, wI σ' 5537 (q + i) (gI σ b i), rfl, F.w rfl, fun k hk => ?_, fun j hj => ?_⟩
    · rw [b_Mo_keepsRow_3, if_neg (by rw [ii_le (by omega) (by omega)]; exact hk'), b_Mo_keepsRow_9, if_neg (by decide), b_Mo_keepsRow_14 (by decide) (by rw [z49]; rfl) hb r1 r3 r2, b_Mo_keepsRow_43, ii_nat (by omega), ea, lit_ii 1, ii_add, ii_add, ii_nat (by omega), z49]
      rfl
    · rw [gI_row]
      by_cases z : k = i
      · rw [if_pos (by omega), z]
      · rw [if_neg (by omega)]
        exact q1 k (by omega)
    · rw [gI_row, if_neg (by omega)]
      exact q2 j (by omega)
  · rintro c ⟨σ', rfl, F, q1, q2⟩
    refine ⟨σ', ?_, F, q1, q2⟩
    rw [b_Mo_keepsRow_3, if_pos (by rw [ii_le (by omega) (by omega)]; exact Nat.le_refl _), b_Mo_keepsRow_49, ii_add]
theorem r_keepsF {d q b n : Nat} {σ : HP} (a : MRf σ) (hb : aty (b % 64) = 1) (hnb : n ≤ alen (b % 64)) (hb2 : b ≠ 5537) (hb3 : b ≠ 3980) (hq : q + n ≤ 4440) : ∃ σ', callF (d + 1) m_Mo_keepsRow [.ref 3980, .int (ii q), .ref b, .int (ii n), .int (ii 0)] σ = some (.inl (some (.int (ii (q + n)))), σ') ∧ Fs (fun x => x = b) σ σ' ∧ (∀ k, k < n → gI σ' b k = gI σ 5537 (q + k)) := by
  rw [e_Mo_keepsRow, b_Mo_keepsRow_0]
  refine loop_g (N := n) (Q := fun o => ∃ σ', o = some (.inl (some (.int (ii (q + n)))), σ') ∧ Fs (fun x => x = b) σ σ' ∧ (∀ k, k < n → gI σ' b k = gI σ 5537 (q + k))) (fun i c => ∃ σ', c = (3, [some (.ref 3980), some (.int (ii q)), some (.ref b), some (.int (ii n)), some (.int (ii 0)), some (.int (ii i))], [], σ') ∧ Fs (fun x => x = b) σ σ' ∧ (∀ k, k < i → gI σ' b k = gI σ 5537 (q + k))) ?_ ?_ 0 _ (Nat.zero_le _) ⟨σ, rfl, Fs.rf, fun k hk => by omega⟩
  · rintro i c hi ⟨σ', rfl, F, q1⟩
    have hk' : ¬ n ≤ i := by omega
    have ea : gI σ' 5537 (q + i) = gI σ 5537 (q + i) := F.I (fun z => hb2 z.symm)
    have a' := a.fs F
    obtain ⟨z1, z9, z10, z11, z12, z13, z22, z23, z24, z25, z26, z29, z30, z31, z38, z39, z40, z41, z42, z44, z45, z46, z47, z49⟩ := id a'
    have r1 : inR (ii i) (alen (b % 64)) = true := by rw [inR_ii (by omega)]; exact decide_eq_true (by omega)
    have r3 : aty (dr (gR σ' 3980 49) % 64) = 1 := by rw [z49]; rfl
    have r2 : inR (ii q + ii i) (alen (dr (gR σ' 3980 49) % 64)) = true := by
      rw [z49, ii_add, inR_ii (by omega)]
      exact decide_eq_true (by show q + i < 4440; omega)
    have e5 : dr (some 5537) = 5537 := rfl
    refine ⟨_, ?_, wI σ' b i (gI σ 5537 (q + i)), rfl, F.w rfl, fun k hk => ?_⟩
    · rw [b_Mo_keepsRow_3, if_neg (by rw [ii_le (by omega) (by omega)]; exact hk'), b_Mo_keepsRow_9, if_pos (by decide), b_Mo_keepsRow_30 (by decide) (by rw [z49]; rfl) r3 r2 hb r1, b_Mo_keepsRow_43, ii_nat (by omega), lit_ii 1, ii_add, ii_add, ii_nat (by omega), z49, e5, ea]
    · rw [gI_row]
      by_cases z : k = i
      · rw [if_pos z, z]
      · rw [if_neg z]
        exact q1 k (by omega)
  · rintro c ⟨σ', rfl, F, q1⟩
    refine ⟨σ', ?_, F, q1⟩
    rw [b_Mo_keepsRow_3, if_pos (by rw [ii_le (by omega) (by omega)]; exact Nat.le_refl _), b_Mo_keepsRow_49, ii_add]
theorem q_image {d : Nat} {σ : HP} {H : HH} {w : LW} {D : DN} {tp : TPE} {ct : CNT} {B : BK} {pw : PW} {im : IMS} (A : MW σ H w D tp ct B pw im) : if im.1 = 3 then MQi σ (callF (d + 70) m_Mo_image [.ref 3980] σ) (-ii 1) 0 (fun τ => MW τ H w D tp ct B pw im) else MQi σ (callF (d + 70) m_Mo_image [.ref 3980] σ) (ii (im.1 + 1)) 0 (fun τ => MW τ H w D tp ct B pw (im.1 + 1, fun i => if i = im.1 then (D, pw.1, pw.2) else im.2 i)) := by
  have W0 := A.sc (t0_fm (v := ii 0)); have h0 := t0_at (σ := σ) (v := ii 0); have hh := A.2.2.2.2.1.1.1
  obtain ⟨p1, p2, p3⟩ := W0.2.2.2.2.2.2.2.2.2
  by_cases z : im.1 = 3
  · rw [if_pos z]
    refine A.rd t0_fm h0 ?_
    simp (disch := first | omega | exact b2_01 _ | exact ii0_01 | exact ii1_01 | (simp (disch := omega) only [p1, dr_some, Option.isSome_some, gR_wI, Nat.add_mul_mod_self_left, Nat.reduceMod, ak20, ak21, ak22, ak23, ak24, ak25, ak26, ak27, ak28, ak29, ak30, ak31, ak32, ak33, ak34, ak35, ak36, an20, an21, an22, an23, an24, an25, an26, an27, an28, an29, an30, an31, an32, an33, an34, an35, an36, an37, an38, ne_eq, inR_ii, decide_eq_true_eq, lit_ii, of_ii, ii_eq, ii_lt, ii_le]; first | done | omega)) only [p1, e_Mo_image, b_Mo_image_0, b_Mo_image_13, b_Mo_image_15, b_Mo_image_24, z, dr_some, Option.isSome_some, gR_wI, Nat.add_mul_mod_self_left, Nat.reduceMod, ak20, ak21, ak22, ak23, ak24, ak25, ak26, ak27, ak28, ak29, ak30, ak31, ak32, ak33, ak34, ak35, ak36, an20, an21, an22, an23, an24, an25, an26, an27, an28, an29, an30, an31, an32, an33, an34, an35, an36, an37, an38, ↓reduceIte, bk_int, bk_void, bk_long, bkN_int, bkN_void, bkN_long, Nat.reduceAdd, Nat.reduceMul, Nat.reduceSub, Nat.reduceLT, Nat.reduceLeDiff, if_true, if_false, not_true_eq_false, not_false_eq_true, Bool.true_eq_false, Bool.false_eq_true, b2_eq0, Nat.add_zero, Nat.zero_add, Nat.not_lt_zero, Nat.zero_le, ite_true, ite_false, decide_true, decide_false, lit_ii, of_ii, le_T, le_F, lt_T, lt_F, eq_T, eq_F, ii_add, ii_mul, ii_nat, ii_le, ii_lt, ii_eq, inR_ii, ii_add0]
  · rw [if_neg z]
    have im3 : im.1 ≤ 2 := by omega
    obtain ⟨σ1, e1, F1, u1, u2⟩ := r_keepsT (d := d + 67) (q := 1480 * im.1) (b := 4955) (n := 87) W0.1 rfl (by decide) (by decide) (by omega)
    obtain ⟨σ2, e2, F2, v1, v2⟩ := r_keepsT (d := d + 67) (q := 1480 * im.1 + 87) (b := 5088) (n := 1392) (W0.1.fs F1) rfl (by decide) (by decide) (by omega)
    have FF := F1.tr F2
    have a := W0.1.fs FF
    have j0 := W0.2.2.2.2.2.2.2.2.1
    have g33 : gI σ2 3980 33 = ii pw.1 := (FF.I (by omega)).trans j0.1
    have g50 : gI (wI σ2 5537 (1480 * im.1 + 1479) (ii pw.1)) 3980 50 = ii im.1 := (gI_ne (by omega)).trans ((FF.I (by omega)).trans p1)
    have F3 : Fm (fun a j => a = 5537 ∨ (a = 3980 ∧ (j = 0 ∨ j = 50))) σ (wI (wI σ2 5537 (1480 * im.1 + 1479) (ii pw.1)) 3980 50 (ii (im.1 + 1))) := ((((Fm.w Fm.rf (by omega) : Fm (fun a j => a = 5537 ∨ (a = 3980 ∧ (j = 0 ∨ j = 50))) σ (wI σ 3980 0 (ii 0))).tr (FF.fm (fun a j z => Or.inl z))).w (Or.inl rfl)).w (by omega))
    have W3 : ∀ x y, gI (wI (wI σ2 5537 (1480 * im.1 + 1479) (ii pw.1)) 3980 50 (ii (im.1 + 1))) 5537 x = gI (wI σ2 5537 (1480 * im.1 + 1479) (ii pw.1)) 5537 x ∧ y = y := fun x y => ⟨gI_ne (by omega), rfl⟩
    obtain ⟨a0, b, ca, e, ⟨f1, f2, f3, f4, f5, f6⟩, g, mc, i, j, l⟩ := A
    refine ⟨wI (wI σ2 5537 (1480 * im.1 + 1479) (ii pw.1)) 3980 50 (ii (im.1 + 1)), ?_, OKm.fs (F3.fs (S' := Mdl) (fun a j z => by unfold Mdl; omega)) (fun a z => z), ?_, a0.fm F3, b.fm F3 (fun j z => by omega) (fun j => by omega) (fun j => by omega), ca.fm F3 (by omega) (fun j => by omega) (fun j => by omega), e.fm F3 (fun j => by omega), ⟨f1, f2, f3, f4, f5, ?_⟩, g.fm F3 (by omega) (fun j => by omega), mc.fm F3 (by omega) (by omega) (fun j => by omega), i.fm F3 (by omega) (fun j => by omega), j.fm F3 (by omega) (fun j => by omega), ⟨gI_at, by show im.1 + 1 ≤ 3; omega, fun i hi => ?_⟩⟩
    · obtain ⟨z1, z9, z10, z11, z12, z13, z22, z23, z24, z25, z26, z29, z30, z31, z38, z39, z40, z41, z42, z44, z45, z46, z47, z49⟩ := id a
      have c1 : 1480 * im.1 + 87 + 1392 = 1480 * im.1 + 1479 := by omega
      rw [c1] at e2
      have k1 : ∀ d, callF (d + 2) m_Mo_keepsAll [.ref 3980, .int (ii im.1), .int (ii 1)] (wI σ 3980 0 (ii 0)) = callF (d + 2) m_Mo_keepsAll [.ref 3980, .int (ii im.1), .int (ii 1)] (wI σ 3980 0 (ii 0)) := fun d => rfl
      have y38 : gR (wI σ 3980 0 (ii 0)) 3980 38 = some 4955 := W0.1.2.2.2.2.2.2.2.2.2.2.2.2.2.2.1
      have y40 : gR σ1 3980 40 = some 5088 := (W0.1.fs F1).2.2.2.2.2.2.2.2.2.2.2.2.2.2.2.2.1
      have yy : gR σ 3980 38 = some 4955 := y38
      have ka : callF (d + 69) m_Mo_keepsAll [.ref 3980, .int (ii im.1), .int (ii 1)] (wI σ 3980 0 (ii 0)) = some (.inl none, wI σ2 5537 (1480 * im.1 + 1479) (ii pw.1)) := by
        simp (disch := first | omega | exact ak27 | exact ak29 | exact ak20 | exact ak21 | exact ak22 | exact ak23 | exact ak24 | exact ak25 | exact ak28 | exact ak30 | exact ak31 | exact ak32 | exact ak33 | exact b2_01 _ | exact ii0_01 | exact ii1_01 | (simp (disch := omega) only [z1, z9, z10, z11, z12, z13, z22, z23, z24, z25, z26, z29, z30, z31, z38, z39, z40, z41, z42, z44, z45, z46, z47, z49, g33, yy, y40, dr_some, Option.isSome_some, gR_wI, Nat.add_mul_mod_self_left, Nat.reduceMod, ak20, ak21, ak22, ak23, ak24, ak25, ak26, ak27, ak28, ak29, ak30, ak31, ak32, ak33, ak34, ak35, ak36, an20, an21, an22, an23, an24, an25, an26, an27, an28, an29, an30, an31, an32, an33, an34, an35, an36, an37, an38, ne_eq, inR_ii, decide_eq_true_eq, lit_ii, of_ii, ii_eq, ii_lt, ii_le, ii_add, ii_mul, ii_sub, ii_pred, ii_nat]; first | done | omega)) only [z1, z9, z10, z11, z12, z13, z22, z23, z24, z25, z26, z29, z30, z31, z38, z39, z40, z41, z42, z44, z45, z46, z47, z49, g33, yy, y40, e_Mo_keepsAll, b_Mo_keepsAll_0, b_Mo_keepsAll_16, b_Mo_keepsAll_30, b_Mo_keepsAll_35, b_Mo_keepsAll_48, b_Mo_keepsAll_58, e1, e2, Nat.succ_ne_zero, dr_some, Option.isSome_some, gR_wI, Nat.add_mul_mod_self_left, Nat.reduceMod, ak20, ak21, ak22, ak23, ak24, ak25, ak26, ak27, ak28, ak29, ak30, ak31, ak32, ak33, ak34, ak35, ak36, an20, an21, an22, an23, an24, an25, an26, an27, an28, an29, an30, an31, an32, an33, an34, an35, an36, an37, an38, ↓reduceIte, bk_int, bk_void, bk_long, bkN_int, bkN_void, bkN_long, Nat.reduceAdd, Nat.reduceMul, Nat.reduceSub, Nat.reduceLT, Nat.reduceLeDiff, if_true, if_false, not_true_eq_false, not_false_eq_true, Bool.true_eq_false, Bool.false_eq_true, b2_eq0, Nat.add_zero, Nat.zero_add, Nat.not_lt_zero, Nat.zero_le, ite_true, ite_false, decide_true, decide_false, lit_ii, of_ii, le_T, le_F, lt_T, lt_F, eq_T, eq_F, ii_add, ii_mul, ii_nat, ii_le, ii_lt, ii_eq, inR_ii, ii_add0]
      simp (disch := first | omega | exact b2_01 _ | exact ii0_01 | exact ii1_01 | (simp (disch := omega) only [p1, ka, g50, dr_some, Option.isSome_some, gR_wI, Nat.add_mul_mod_self_left, Nat.reduceMod, ak20, ak21, ak22, ak23, ak24, ak25, ak26, ak27, ak28, ak29, ak30, ak31, ak32, ak33, ak34, ak35, ak36, an20, an21, an22, an23, an24, an25, an26, an27, an28, an29, an30, an31, an32, an33, an34, an35, an36, an37, an38, ne_eq, inR_ii, decide_eq_true_eq, lit_ii, of_ii, ii_eq, ii_lt, ii_le]; first | done | omega)) only [p1, ka, g50, e_Mo_image, b_Mo_image_0, b_Mo_image_13, b_Mo_image_15, b_Mo_image_24, z, gI_at, dr_some, Option.isSome_some, gR_wI, Nat.add_mul_mod_self_left, Nat.reduceMod, ak20, ak21, ak22, ak23, ak24, ak25, ak26, ak27, ak28, ak29, ak30, ak31, ak32, ak33, ak34, ak35, ak36, an20, an21, an22, an23, an24, an25, an26, an27, an28, an29, an30, an31, an32, an33, an34, an35, an36, an37, an38, ↓reduceIte, bk_int, bk_void, bk_long, bkN_int, bkN_void, bkN_long, Nat.reduceAdd, Nat.reduceMul, Nat.reduceSub, Nat.reduceLT, Nat.reduceLeDiff, if_true, if_false, not_true_eq_false, not_false_eq_true, Bool.true_eq_false, Bool.false_eq_true, b2_eq0, Nat.add_zero, Nat.zero_add, Nat.not_lt_zero, Nat.zero_le, ite_true, ite_false, decide_true, decide_false, lit_ii, of_ii, le_T, le_F, lt_T, lt_F, eq_T, eq_F, ii_add, ii_mul, ii_nat, ii_le, ii_lt, ii_eq, inR_ii, ii_add0]
    · rw [gI_nj (by omega), gI_ne (by omega)]
      exact (FF.I (by omega)).trans h0
    · intro i hi
      have hi' : i < im.1 + 1 := hi
      show dOK H (if i = im.1 then (D, pw.1, pw.2) else im.2 i).1 ∧ (if i = im.1 then (D, pw.1, pw.2) else im.2 i).2.1 ≤ 16 ∧ ∀ j, j < (if i = im.1 then (D, pw.1, pw.2) else im.2 i).2.1 → dOK H ((if i = im.1 then (D, pw.1, pw.2) else im.2 i).2.2 j)
      by_cases y : i = im.1
      · rw [if_pos y]
        exact ⟨⟨f3, f4⟩, j.2.1, f5⟩
      · rw [if_neg y]
        exact f6 i (by omega)
    · have hi' : i < im.1 + 1 := hi
      show (∀ k, k < 87 → gI _ 5537 (1480 * i + k) = ii ((if i = im.1 then (D, pw.1, pw.2) else im.2 i).1 k)) ∧ gI _ 5537 (1480 * i + 1479) = ii (if i = im.1 then (D, pw.1, pw.2) else im.2 i).2.1 ∧ ∀ j, j < (if i = im.1 then (D, pw.1, pw.2) else im.2 i).2.1 → ∀ k, k < 87 → gI _ 5537 (1480 * i + 87 + (87 * j + k)) = ii ((if i = im.1 then (D, pw.1, pw.2) else im.2 i).2.2 j k)
      by_cases y : i = im.1
      · rw [if_pos y, y]
        refine ⟨fun k hk => ?_, ?_, fun j' hj k hk => ?_⟩
        · rw [gI_ne (by omega), gI_row, if_neg (by omega), v2 _ (by omega), u1 k hk]
          exact W0.2.2.2.1 k hk
        · rw [gI_ne (by omega), gI_row, if_pos rfl]
        · have hj2 : j' < pw.1 := hj
          have j16 := j.2.1
          rw [gI_ne (by omega), gI_row, if_neg (by omega), v1 (87 * j' + k) (by omega), F1.I (by omega)]
          exact j0.2.2 j' hj k hk
      · rw [if_neg y]
        obtain ⟨w1, w2, w3⟩ := p3 i (by omega)
        have hlt := f6 i (by omega)
        refine ⟨fun k hk => ?_, ?_, fun j' hj k hk => ?_⟩
        · rw [gI_ne (by omega), gI_row, if_neg (by omega), v2 _ (by omega), u2 _ (by omega)]
          exact w1 k hk
        · rw [gI_ne (by omega), gI_row, if_neg (by omega), v2 _ (by omega), u2 _ (by omega)]
          exact w2
        · rw [gI_ne (by omega), gI_row, if_neg (by omega), v2 _ (by omega), u2 _ (by omega)]
          exact w3 j' hj k hk
theorem q_restore {d : Nat} {σ : HP} {H : HH} {w : LW} {D : DN} {tp : TPE} {ct : CNT} {B : BK} {pw : PW} {im : IMS} (A : MW σ H w D tp ct B pw im) : if im.1 = 0 then MQi σ (callF (d + 70) m_Mo_restore [.ref 3980] σ) (-ii 1) 0 (fun τ => MW τ H w D tp ct B pw im) else MQi σ (callF (d + 70) m_Mo_restore [.ref 3980] σ) (ii (im.1 - 1)) 0 (fun τ => MW τ H w (im.2 (im.1 - 1)).1 tp (ct.1, 0, ct.2.2) B ((im.2 (im.1 - 1)).2.1, (im.2 (im.1 - 1)).2.2) (im.1 - 1, im.2)) := by
  have W0 := A.sc (t0_fm (v := ii 0)); have h0 := t0_at (σ := σ) (v := ii 0); have hh := A.2.2.2.2.1.1.1
  obtain ⟨p1, p2, p3⟩ := W0.2.2.2.2.2.2.2.2.2
  by_cases z : im.1 = 0
  · rw [if_pos z]
    refine A.rd t0_fm h0 ?_
    simp (disch := first | omega | exact b2_01 _ | exact ii0_01 | exact ii1_01 | (simp (disch := omega) only [p1, dr_some, Option.isSome_some, gR_wI, Nat.add_mul_mod_self_left, Nat.reduceMod, ak20, ak21, ak22, ak23, ak24, ak25, ak26, ak27, ak28, ak29, ak30, ak31, ak32, ak33, ak34, ak35, ak36, an20, an21, an22, an23, an24, an25, an26, an27, an28, an29, an30, an31, an32, an33, an34, an35, an36, an37, an38, ne_eq, inR_ii, decide_eq_true_eq, lit_ii, of_ii, ii_eq, ii_lt, ii_le]; first | done | omega)) only [p1, e_Mo_restore, b_Mo_restore_0, b_Mo_restore_12, b_Mo_restore_14, b_Mo_restore_33, z, dr_some, Option.isSome_some, gR_wI, Nat.add_mul_mod_self_left, Nat.reduceMod, ak20, ak21, ak22, ak23, ak24, ak25, ak26, ak27, ak28, ak29, ak30, ak31, ak32, ak33, ak34, ak35, ak36, an20, an21, an22, an23, an24, an25, an26, an27, an28, an29, an30, an31, an32, an33, an34, an35, an36, an37, an38, ↓reduceIte, bk_int, bk_void, bk_long, bkN_int, bkN_void, bkN_long, Nat.reduceAdd, Nat.reduceMul, Nat.reduceSub, Nat.reduceLT, Nat.reduceLeDiff, if_true, if_false, not_true_eq_false, not_false_eq_true, Bool.true_eq_false, Bool.false_eq_true, b2_eq0, Nat.add_zero, Nat.zero_add, Nat.not_lt_zero, Nat.zero_le, ite_true, ite_false, decide_true, decide_false, lit_ii, of_ii, le_T, le_F, lt_T, lt_F, eq_T, eq_F, ii_add, ii_mul, ii_nat, ii_le, ii_lt, ii_eq, inR_ii, ii_add0]
  · rw [if_neg z]
    have es : ii im.1 - ii 1 = ii (im.1 - 1) := ii_sub (by omega)
    have a0 : MRf (wI (wI σ 3980 0 (ii 0)) 3980 50 (ii (im.1 - 1))) := W0.1.of (fun j => rfl)
    obtain ⟨σ1, e1, F1, u1⟩ := r_keepsF (d := d + 67) (q := 1480 * (im.1 - 1)) (b := 4955) (n := 87) a0 rfl (by decide) (by decide) (by decide) (by omega)
    obtain ⟨σ2, e2, F2, v1⟩ := r_keepsF (d := d + 67) (q := 1480 * (im.1 - 1) + 87) (b := 5088) (n := 1392) (a0.fs F1) rfl (by decide) (by decide) (by decide) (by omega)
    obtain ⟨w1, w2, w3⟩ := p3 (im.1 - 1) (by omega)
    have a := (a0.fs F1).fs F2
    have c5 : ∀ x, gI σ2 5537 x = gI (wI σ 3980 0 (ii 0)) 5537 x := fun x => (F2.I (by omega)).trans ((F1.I (by omega)).trans (gI_ne (by omega)))
    have q5 : gI σ2 5537 (1480 * (im.1 - 1) + 1479) = ii (im.2 (im.1 - 1)).2.1 := (c5 _).trans w2
    have g50 : gI (wI (wI σ2 3980 33 (ii (im.2 (im.1 - 1)).2.1)) 3980 34 (ii 0)) 3980 50 = ii (im.1 - 1) := by
      rw [gI_nj (by omega), gI_nj (by omega), F2.I (by omega), F1.I (by omega)]
      exact gI_at
    have F3 : Fm (fun a j => a = 4955 ∨ a = 5088 ∨ (a = 3980 ∧ (j = 0 ∨ j = 33 ∨ j = 34 ∨ j = 50))) σ (wI (wI σ2 3980 33 (ii (im.2 (im.1 - 1)).2.1)) 3980 34 (ii 0)) := (((((Fm.w (Fm.w Fm.rf (by omega)) (by omega) : Fm (fun a j => a = 4955 ∨ a = 5088 ∨ (a = 3980 ∧ (j = 0 ∨ j = 33 ∨ j = 34 ∨ j = 50))) σ (wI (wI σ 3980 0 (ii 0)) 3980 50 (ii (im.1 - 1)))).tr (F1.fm (fun a j z => Or.inl z))).tr (F2.fm (fun a j z => Or.inr (Or.inl z)))).w (by omega)).w (by omega))
    obtain ⟨a9, b, ca, e, ⟨f1, f2, f3, f4, f5, f6⟩, g, mc, i, j, l⟩ := A
    have hlt := f6 (im.1 - 1) (by omega)
    refine ⟨wI (wI σ2 3980 33 (ii (im.2 (im.1 - 1)).2.1)) 3980 34 (ii 0), ?_, OKm.fs (F3.fs (S' := Mdl) (fun a j z => by unfold Mdl; omega)) (fun a z => z), ?_, a9.fm F3, b.fm F3 (fun j z => by omega) (fun j => by omega) (fun j => by omega), ca.fm F3 (by omega) (fun j => by omega) (fun j => by omega), fun k hk => ?_, ⟨f1, f2, hlt.1.1, hlt.1.2, hlt.2.2, fun i hi => f6 i (by have : i < im.1 - 1 := hi; omega)⟩, g.fm F3 (by omega) (fun j => by omega), ⟨(F3.I (by omega)).trans mc.1, gI_at, (F3.I (by omega)).trans mc.2.2.1, (F3.I (by omega)).trans mc.2.2.2⟩, i.fm F3 (by omega) (fun j => by omega), ⟨?_, hlt.2.1, fun j' hj k hk => ?_⟩, ⟨g50, by show im.1 - 1 ≤ 3; omega, fun i hi => ?_⟩⟩
    · obtain ⟨z1, z9, z10, z11, z12, z13, z22, z23, z24, z25, z26, z29, z30, z31, z38, z39, z40, z41, z42, z44, z45, z46, z47, z49⟩ := id a
      have c1 : 1480 * (im.1 - 1) + 87 + 1392 = 1480 * (im.1 - 1) + 1479 := by omega
      rw [c1] at e2
      have y38 : gR σ 3980 38 = some 4955 := a9.2.2.2.2.2.2.2.2.2.2.2.2.2.2.1
      have y40 : gR σ1 3980 40 = some 5088 := (a0.fs F1).2.2.2.2.2.2.2.2.2.2.2.2.2.2.2.2.1
      have ka : callF (d + 69) m_Mo_keepsAll [.ref 3980, .int (ii (im.1 - 1)), .int (ii 0)] (wI (wI σ 3980 0 (ii 0)) 3980 50 (ii (im.1 - 1))) = some (.inl none, wI σ2 3980 33 (ii (im.2 (im.1 - 1)).2.1)) := by
        simp (disch := first | omega | exact ak27 | exact ak29 | exact ak20 | exact ak21 | exact ak22 | exact ak23 | exact ak24 | exact ak25 | exact ak28 | exact ak30 | exact ak31 | exact ak32 | exact ak33 | exact b2_01 _ | exact ii0_01 | exact ii1_01 | (simp (disch := omega) only [z1, z9, z10, z11, z12, z13, z22, z23, z24, z25, z26, z29, z30, z31, z38, z39, z40, z41, z42, z44, z45, z46, z47, z49, q5, y38, y40, dr_some, Option.isSome_some, gR_wI, Nat.add_mul_mod_self_left, Nat.reduceMod, ak20, ak21, ak22, ak23, ak24, ak25, ak26, ak27, ak28, ak29, ak30, ak31, ak32, ak33, ak34, ak35, ak36, an20, an21, an22, an23, an24, an25, an26, an27, an28, an29, an30, an31, an32, an33, an34, an35, an36, an37, an38, ne_eq, inR_ii, decide_eq_true_eq, lit_ii, of_ii, ii_eq, ii_lt, ii_le, ii_add, ii_mul, ii_sub, ii_pred, ii_nat]; first | done | omega)) only [z1, z9, z10, z11, z12, z13, z22, z23, z24, z25, z26, z29, z30, z31, z38, z39, z40, z41, z42, z44, z45, z46, z47, z49, q5, y38, y40, e_Mo_keepsAll, b_Mo_keepsAll_0, b_Mo_keepsAll_16, b_Mo_keepsAll_30, b_Mo_keepsAll_35, b_Mo_keepsAll_48, b_Mo_keepsAll_58, e1, e2, dr_some, Option.isSome_some, gR_wI, Nat.add_mul_mod_self_left, Nat.reduceMod, ak20, ak21, ak22, ak23, ak24, ak25, ak26, ak27, ak28, ak29, ak30, ak31, ak32, ak33, ak34, ak35, ak36, an20, an21, an22, an23, an24, an25, an26, an27, an28, an29, an30, an31, an32, an33, an34, an35, an36, an37, an38, ↓reduceIte, bk_int, bk_void, bk_long, bkN_int, bkN_void, bkN_long, Nat.reduceAdd, Nat.reduceMul, Nat.reduceSub, Nat.reduceLT, Nat.reduceLeDiff, if_true, if_false, not_true_eq_false, not_false_eq_true, Bool.true_eq_false, Bool.false_eq_true, b2_eq0, Nat.add_zero, Nat.zero_add, Nat.not_lt_zero, Nat.zero_le, ite_true, ite_false, decide_true, decide_false, lit_ii, of_ii, le_T, le_F, lt_T, lt_F, eq_T, eq_F, ii_add, ii_mul, ii_nat, ii_le, ii_lt, ii_eq, inR_ii, ii_add0]
      simp (disch := first | omega | exact b2_01 _ | exact ii0_01 | exact ii1_01 | (simp (disch := omega) only [p1, ka, g50, dr_some, Option.isSome_some, gR_wI, Nat.add_mul_mod_self_left, Nat.reduceMod, ak20, ak21, ak22, ak23, ak24, ak25, ak26, ak27, ak28, ak29, ak30, ak31, ak32, ak33, ak34, ak35, ak36, an20, an21, an22, an23, an24, an25, an26, an27, an28, an29, an30, an31, an32, an33, an34, an35, an36, an37, an38, ne_eq, inR_ii, decide_eq_true_eq, lit_ii, of_ii, ii_eq, ii_lt, ii_le]; first | done | omega)) only [p1, ka, g50, e_Mo_restore, b_Mo_restore_0, b_Mo_restore_12, b_Mo_restore_14, b_Mo_restore_33, z, es, gI_at, dr_some, Option.isSome_some, gR_wI, Nat.add_mul_mod_self_left, Nat.reduceMod, ak20, ak21, ak22, ak23, ak24, ak25, ak26, ak27, ak28, ak29, ak30, ak31, ak32, ak33, ak34, ak35, ak36, an20, an21, an22, an23, an24, an25, an26, an27, an28, an29, an30, an31, an32, an33, an34, an35, an36, an37, an38, ↓reduceIte, bk_int, bk_void, bk_long, bkN_int, bkN_void, bkN_long, Nat.reduceAdd, Nat.reduceMul, Nat.reduceSub, Nat.reduceLT, Nat.reduceLeDiff, if_true, if_false, not_true_eq_false, not_false_eq_true, Bool.true_eq_false, Bool.false_eq_true, b2_eq0, Nat.add_zero, Nat.zero_add, Nat.not_lt_zero, Nat.zero_le, ite_true, ite_false, decide_true, decide_false, lit_ii, of_ii, le_T, le_F, lt_T, lt_F, eq_T, eq_F, ii_add, ii_mul, ii_nat, ii_le, ii_lt, ii_eq, inR_ii, ii_add0]
    · rw [gI_nj (by omega), gI_nj (by omega), F2.I (by omega), F1.I (by omega), gI_nj (by omega)]
      exact gI_at
    · rw [gI_ne (by omega), gI_ne (by omega), F2.I (by omega), u1 k hk, gI_ne (by omega)]
      exact w1 k hk
    · rw [gI_nj (by omega)]
      exact gI_at
    · have hj2 : j' < (im.2 (im.1 - 1)).2.1 := hj
      have h16 := hlt.2.1
      rw [gI_ne (by omega), gI_ne (by omega), v1 (87 * j' + k) (by omega), F1.I (by omega), gI_ne (by omega)]
      exact w3 j' hj k hk
    · have hi' : i < im.1 - 1 := hi
      obtain ⟨x1, x2, x3⟩ := p3 i (by omega)
      have c6 : ∀ x, gI (wI (wI σ2 3980 33 (ii (im.2 (im.1 - 1)).2.1)) 3980 34 (ii 0)) 5537 x = gI (wI σ 3980 0 (ii 0)) 5537 x := fun x => (gI_ne (by omega)).trans ((gI_ne (by omega)).trans (c5 x))
      exact ⟨fun k hk => (c6 _).trans (x1 k hk), (c6 _).trans x2, fun j' hj k hk => (c6 _).trans (x3 j' hj k hk)⟩
