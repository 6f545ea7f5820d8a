theorem p_2333 {d k : Nat} {v : Int32} {σ : HP} (hk : k < 150) : callF (d + 1) m_PL_put [.ref 2333, .int (ii k), .int v] σ = some (.inl none, wI σ 2333 k v) := s_put (by decide) hk
theorem p_2397 {d k : Nat} {v : Int32} {σ : HP} (hk : k < 150) : callF (d + 1) m_PL_put [.ref 2397, .int (ii k), .int v] σ = some (.inl none, wI σ 2397 k v) := s_put (by decide) hk
theorem p_2461 {d k : Nat} {v : Int32} {σ : HP} (hk : k < 150) : callF (d + 1) m_PL_put [.ref 2461, .int (ii k), .int v] σ = some (.inl none, wI σ 2461 k v) := s_put (by decide) hk
theorem t_2333 {d k : Nat} {σ : HP} (hk : k < 150) : callF (d + 1) m_PL_at [.ref 2333, .int (ii k)] σ = some (.inl (some (.int (gI σ 2333 k))), σ) := s_at (by decide) hk
theorem t_2397 {d k : Nat} {σ : HP} (hk : k < 150) : callF (d + 1) m_PL_at [.ref 2397, .int (ii k)] σ = some (.inl (some (.int (gI σ 2397 k))), σ) := s_at (by decide) hk
theorem t_2461 {d k : Nat} {σ : HP} (hk : k < 150) : callF (d + 1) m_PL_at [.ref 2461, .int (ii k)] σ = some (.inl (some (.int (gI σ 2461 k))), σ) := s_at (by decide) hk
/-! steps that stand already stay -/
def wpf (s : WkT) (r : PR WkT) : Prop := match r with
  | .inl s' => ∀ i, i < s.2.1 → s'.2.2 i = s.2.2 i
  | .inr _ => True
theorem upS_ne {ks : Nat → Nat × Nat × Nat} {k i : Nat} {v : Nat × Nat × Nat} (h : i ≠ k) : upS ks k v i = ks i := by unfold upS; rw [if_neg h]
theorem upS_at {ks : Nat → Nat × Nat × Nat} {k : Nat} {v : Nat × Nat × Nat} : upS ks k v k = v := by unfold upS; rw [if_pos rfl]
theorem wkL_pfx {T : Nat → Nat} {n : Nat} {St : WkT → PR WkT} {top : Bool} (hS : ∀ s : WkT, s.1 ≤ n → wfw n 1 s (St s)) (hP : ∀ s : WkT, s.1 ≤ n → wpf s (St s)) : ∀ f (s : WkT), s.1 ≤ n → wpf s (wkL T n St top f s) := by
  intro f
  induction f with
  | zero => intro s hs i hi; rfl
  | succ f ih =>
    intro s hs
    have h1 := sk_le (T := T) hs
    unfold wkL
    split
    · intro i hi; rfl
    · have h3 := hS (sk T n s.1, s.2.1, s.2.2) h1
      have h4 := hP (sk T n s.1, s.2.1, s.2.2) h1
      cases hu : St (sk T n s.1, s.2.1, s.2.2) with
      | inr F => trivial
      | inl s1 =>
        rw [hu] at h3 h4
        obtain ⟨a1, a2, a3, a4⟩ := h3
        simp only at a3 ⊢
        cases hv : sgnW T n 59 s1 with
        | inr F => trivial
        | inl s2 =>
          obtain ⟨b1, b2, b3⟩ := sgnW_fwd a2 hv
          have h5 := ih s2 b2
          simp only
          cases hr : wkL T n St top f s2 with
          | inr F => trivial
          | inl s3 =>
            rw [hr] at h5
            intro i hi
            have e1 := h5 i (by rw [congrArg Prod.fst b3]; omega)
            have e2 := h4 i hi
            rw [e1, congrArg Prod.snd b3, e2]
theorem wkSt_pfx {T : Nat → Nat} {n r : Nat} {H : HH} {L : WkT → PR WkT} (hF : r = 0 ∨ ∀ s : WkT, s.1 ≤ n → wfw n 0 s (L s)) (hL : r = 0 ∨ ∀ s : WkT, s.1 ≤ n → wpf s (L s)) (s : WkT) (hs : s.1 ≤ n) : wpf s (wkSt T n H L r s) := by
  unfold wkSt
  cases hw : wdX 3 T n s.1 with
  | none => trivial
  | some x =>
    have g2 := wdP_le (T := T) hs
    have k2 : ∀ x hi hj, wpf s (wk2 T n x hi hj (wdP T n s.1, s.2.1, s.2.2)) := by
      intro x hi hj
      unfold wk2
      simp only
      cases hv : numW T n 0 hi (wdP T n s.1) with
      | inr F => trivial
      | inl z =>
        obtain ⟨p, v⟩ := z
        simp only
        cases hv' : numW T n 0 hj p with
        | inr F => trivial
        | inl z' => exact fun i hi => upS_ne (by omega)
    simp only
    split
    · split
      · trivial
      · rename_i hr
        have hL' := hL.resolve_left hr
        have hF' := hF.resolve_left hr
        unfold wkA
        simp only
        cases hv : numW T n 0 31 (wdP T n s.1) with
        | inr F => trivial
        | inl z =>
          obtain ⟨p, v⟩ := z
          obtain ⟨a1, a2, a3, a4, -⟩ := numW_fwd g2.2 hv
          simp only
          cases hx : sgnW T n 91 (p, s.2.1 + 1, upS s.2.2 s.2.1 (7, v, 0)) with
          | inr F => trivial
          | inl s1 =>
            obtain ⟨b1, b2, b3⟩ := sgnW_fwd (s := (p, s.2.1 + 1, upS s.2.2 s.2.1 (7, v, 0))) a2 hx
            have h3 := hL' s1 b2
            have h4 := hF' s1 b2
            simp only [wkA2]
            cases hy : L s1 with
            | inr F => trivial
            | inl s2 =>
              rw [hy] at h3 h4
              obtain ⟨c1, c2, c3, c4⟩ := h4
              simp only [wkA3]
              cases hz : sgnW T n 93 s2 with
              | inr F => trivial
              | inl s3 =>
                obtain ⟨d1, d2, d3⟩ := sgnW_fwd c2 hz
                intro i hi
                have b4 : s1.2.1 = s.2.1 + 1 := congrArg Prod.fst b3
                have b5 : s1.2.2 = upS s.2.2 s.2.1 (7, v, 0) := congrArg Prod.snd b3
                have e1 := h3 i (by omega)
                show upS s3.2.2 s.2.1 (7, v, s3.2.1) i = s.2.2 i
                rw [upS_ne (by omega), congrArg Prod.snd d3, e1, b5, upS_ne (by omega)]
    · split
      · exact fun i hi => upS_ne (by omega)
      · split
        · exact k2 _ _ _
        · split
          · exact k2 _ _ _
          · unfold wk1
            simp only
            cases hv : numW T n 0 (hm H) (wdP T n s.1) with
            | inr F => trivial
            | inl z => exact fun i hi => upS_ne (by omega)
theorem wkSn_pfx {T : Nat → Nat} {n : Nat} {H : HH} : ∀ r (s : WkT), s.1 ≤ n → wpf s (wkSn T n H r s) := by
  intro r
  induction r with
  | zero => intro s hs; exact wkSt_pfx (Or.inl rfl) (Or.inl rfl) s hs
  | succ r ih => intro s hs; exact wkSt_pfx (Or.inr (wkL_fwd (wkSn_fwd r) (n + 1))) (Or.inr (wkL_pfx (wkSn_fwd r) ih (n + 1))) s hs
theorem pr_sub (a : Nat) : ii a - ii 1 = prI32 a := by
  unfold prI32
  split
  · rename_i h; rw [h]; decide
  · rw [ii_sub (by omega)]
def HI (σ : HP) (h : Nat) (H : HH) : Prop := gI σ (2 + 64 * h) 0 = ii (hf H) ∧ gI σ (2 + 64 * h) 1 = ii (hm H) ∧ gI σ (2 + 64 * h) 2 = ii (hc H) ∧ hf H ≤ 12 ∧ hm H ≤ 7 ∧ hc H ≤ 8
theorem HI.fs {S : Nat → Prop} {σ σ' : HP} {h : Nat} {H : HH} (A : HI σ h H) (F : Fs S σ σ') (q : ¬ S (2 + 64 * h)) : HI σ' h H := ⟨(F.I q).trans A.1, (F.I q).trans A.2.1, (F.I q).trans A.2.2.1, A.2.2.2⟩
theorem SK_h {h : Nat} : ¬ SK2 (2 + 64 * h) := by unfold SK2; omega
def SCn (T : Nat → Nat) (n h : Nat) (H : HH) (m : MM) (o e : Nat) (U : WkT → PR WkT) : Prop := ∀ (σ : HP) (s : WkT) (u : Nat), RS σ T n s.1 none u → WC σ s.2.1 s.2.2 → HI σ h H → 3 * s.2.1 ≤ s.1 → ∃ σ', callF e m [.ref 2250, .ref 71, .ref (2 + 64 * h), .int (ii o)] σ = some (.inl none, σ') ∧ WQ σ' T n (U s) ∧ Fk σ σ'
theorem WC.add {σ σ' : HP} {k : Nat} {ks : Nat → Nat × Nat × Nat} {e : Nat × Nat × Nat} (A : WC σ k ks) (hR : WKr σ') (h3 : gI σ' 2250 3 = ii (k + 1)) (h : ∀ i, i < k → gI σ' 2333 i = gI σ 2333 i ∧ gI σ' 2397 i = gI σ 2397 i ∧ gI σ' 2461 i = gI σ 2461 i) (he : wkR σ' k e) : WC σ' (k + 1) (upS ks k e) := by
  refine ⟨hR, h3, fun i hi => ?_⟩
  unfold upS
  by_cases q : i = k
  · rw [if_pos q, q]
    exact he
  · rw [if_neg q]
    obtain ⟨a, b, c⟩ := h i (by omega)
    obtain ⟨x, y, z⟩ := A.2.2 i (by omega)
    exact ⟨a.trans x, fun p q => b.trans (y p q), fun p => c.trans (z p)⟩
theorem s_sgnw {d c n u : Nat} {T : Nat → Nat} {s : WkT} {σ : HP} (R : RS σ T n s.1 none u) (C : WC σ s.2.1 s.2.2) (hc : c < 256) : ∃ σ', callF (d + 4) m_Reader_needSign [.ref 71, .int (ii c)] σ = some (.inl none, σ') ∧ WQ σ' T n (sgnW T n c s) ∧ Fs S1 σ σ' := by
  obtain ⟨σ', e1, R1, F1⟩ := s_needSign (d := d) R hc
  refine ⟨σ', e1, ?_, F1⟩
  have C1 := C.fs F1 (by unfold S1; omega) (by unfold S1; omega) (by unfold S1; omega) (by unfold S1; omega)
  unfold sgnW
  cases hb : sgB T n s.1 c with
  | true =>
    rw [if_pos rfl]
    have e2 : sgP T n s.1 c = sk T n s.1 + 1 := by unfold sgP; rw [hb]; rfl
    have e3 : blm none (sgF T n s.1 c) = none := by unfold sgF; rw [hb]; rfl
    rw [e2, e3] at R1
    exact ⟨⟨u, R1⟩, C1⟩
  | false =>
    rw [if_neg (by decide)]
    have e3 : blm none (sgF T n s.1 c) = some (1, sk T n s.1) := by unfold sgF; rw [hb]; rfl
    rw [e3] at R1
    exact ⟨_, _, R1⟩
/-- a failed reader: no step is read -/
theorem cl_stepsF {d n h o p u : Nat} {T : Nat → Nat} {F : Nat × Nat} {σ : HP} (R : RS σ T n p (some F) u) (ho : o ≤ 6) : callF (d + 3) m_Work_readSteps [.ref 2250, .ref 71, .ref (2 + 64 * h), .int (ii o)] σ = some (.inl none, σ) := by
  have g1 := fun d => s_failed (d := d) R
  by_cases q : o = 0
  · simp (disch := first | omega | exact b2_01 _ | exact ii0_01 | exact ii1_01 | (simp (disch := omega) only [lit_ii, dr_some, Option.isSome_some, gR_wI, Nat.add_mul_mod_self_left, Nat.reduceMod, ak20, ak21, ak22, ak23, ak24, ak25, ak26, ak27, ak28, ak29, ak30, ak31, ak32, ak33, ak34, ak35, ak36, an20, an21, an22, an23, an24, an25, an26, an27, an28, an29, an30, an31, an32, an33, an34, an35, an36, an37, an38, ne_eq, inR_ii, decide_eq_true_eq, lit_ii, of_ii, ii_eq, ii_lt, ii_le]; first | done | omega)) only [lit_ii, e_Work_readSteps, b_Work_readSteps_0, b_Work_readSteps_4, b_Work_readSteps_8, b_Work_readSteps_10, b_Work_readSteps_15, b_Work_readSteps_23, b_Work_readSteps_27, b_Work_readSteps_30, b_Work_readSteps_34, b_Work_readSteps_39, b_Work_readSteps_40, b_Work_readSteps_47, b_Work_readSteps_53, b_Work_readSteps_59, q, g1, Option.isSome_some, dr_some, Option.isSome_some, gR_wI, Nat.add_mul_mod_self_left, Nat.reduceMod, ak20, ak21, ak22, ak23, ak24, ak25, ak26, ak27, ak28, ak29, ak30, ak31, ak32, ak33, ak34, ak35, ak36, an20, an21, an22, an23, an24, an25, an26, an27, an28, an29, an30, an31, an32, an33, an34, an35, an36, an37, an38, ↓reduceIte, bk_int, bk_void, bk_long, bkN_int, bkN_void, bkN_long, Nat.reduceAdd, Nat.reduceMul, Nat.reduceSub, Nat.reduceLT, Nat.reduceLeDiff, if_true, if_false, not_true_eq_false, not_false_eq_true, Bool.true_eq_false, Bool.false_eq_true, b2_eq0, Nat.add_zero, Nat.zero_add, Nat.not_lt_zero, Nat.zero_le, ite_true, ite_false, decide_true, decide_false, lit_ii, of_ii, le_T, le_F, lt_T, lt_F, eq_T, eq_F, ii_add, ii_mul, ii_nat, ii_le, ii_lt, ii_eq, inR_ii, ii_add0]
  · simp (disch := first | omega | exact b2_01 _ | exact ii0_01 | exact ii1_01 | (simp (disch := omega) only [lit_ii, dr_some, Option.isSome_some, gR_wI, Nat.add_mul_mod_self_left, Nat.reduceMod, ak20, ak21, ak22, ak23, ak24, ak25, ak26, ak27, ak28, ak29, ak30, ak31, ak32, ak33, ak34, ak35, ak36, an20, an21, an22, an23, an24, an25, an26, an27, an28, an29, an30, an31, an32, an33, an34, an35, an36, an37, an38, ne_eq, inR_ii, decide_eq_true_eq, lit_ii, of_ii, ii_eq, ii_lt, ii_le]; first | done | omega)) only [lit_ii, e_Work_readSteps, b_Work_readSteps_0, b_Work_readSteps_4, b_Work_readSteps_8, b_Work_readSteps_10, b_Work_readSteps_15, b_Work_readSteps_23, b_Work_readSteps_27, b_Work_readSteps_30, b_Work_readSteps_34, b_Work_readSteps_39, b_Work_readSteps_40, b_Work_readSteps_47, b_Work_readSteps_53, b_Work_readSteps_59, q, g1, Option.isSome_some, dr_some, Option.isSome_some, gR_wI, Nat.add_mul_mod_self_left, Nat.reduceMod, ak20, ak21, ak22, ak23, ak24, ak25, ak26, ak27, ak28, ak29, ak30, ak31, ak32, ak33, ak34, ak35, ak36, an20, an21, an22, an23, an24, an25, an26, an27, an28, an29, an30, an31, an32, an33, an34, an35, an36, an37, an38, ↓reduceIte, bk_int, bk_void, bk_long, bkN_int, bkN_void, bkN_long, Nat.reduceAdd, Nat.reduceMul, Nat.reduceSub, Nat.reduceLT, Nat.reduceLeDiff, if_true, if_false, not_true_eq_false, not_false_eq_true, Bool.true_eq_false, Bool.false_eq_true, b2_eq0, Nat.add_zero, Nat.zero_add, Nat.not_lt_zero, Nat.zero_le, ite_true, ite_false, decide_true, decide_false, lit_ii, of_ii, le_T, le_F, lt_T, lt_F, eq_T, eq_F, ii_add, ii_mul, ii_nat, ii_le, ii_lt, ii_eq, inR_ii, ii_add0]
/-- an again: its kind is put already, at place k -/
theorem cl_again {T : Nat → Nat} {n h o k u p e : Nat} {ks : Nat → Nat × Nat × Nat} {H : HH} {L : WkT → PR WkT} {σ : HP} (hL : SCn T n h H m_Work_readSteps (o + 1) e L) (hF : ∀ s : WkT, s.1 ≤ n → wfw n 0 s (L s)) (hP : ∀ s : WkT, s.1 ≤ n → wpf s (L s)) (he : 20 ≤ e) (ho : o < 6) (hn : n ≤ 150) (R : RS σ T n p none u) (C : ∀ i, i < k → wkR σ i (ks i)) (hR : WKr σ) (h3 : gI σ 2250 3 = ii (k + 1)) (h7 : gI σ 2333 k = ii 7) (hI : HI σ h H) (hk : 3 * k + 2 ≤ p) : ∃ σ', callF (e + 1) m_Work_readAgain [.ref 2250, .ref 71, .ref (2 + 64 * h), .int (ii o), .int (ii k)] σ = some (.inl none, σ') ∧ WQ σ' T n (wkA T n L (p, k, ks)) ∧ Fk σ σ' := by
  obtain ⟨d, rfl⟩ : ∃ d, e = d + 20 := ⟨e - 20, by omega⟩
  have hp := R.2.2.2.2.2.2.1
  obtain ⟨σ1, e1, R1, F1⟩ := s_readNumber (d := d + 17) R (a := 0) (hi := 31) (by omega) (by omega)
  have pr : prI32 31 = ii 30 := rfl
  rw [pr] at e1
  have R2 := R1.w (a := 2397) (j := k) (v := ii (min 100000 (nmV T n p))) (by omega) (by omega)
  have F2 : Fk σ (wI σ1 2397 k (ii (min 100000 (nmV T n p)))) := (S1_SK F1).w (by unfold SK2; omega)
  obtain ⟨r0, r1, r2⟩ := hR
  have f1 := F1.R
  unfold wkA
  simp only
  cases hv : numW T n 0 31 p with
  | inr F =>
    obtain ⟨-, hf⟩ := numW_f hp hv
    rw [hf] at R2
    obtain ⟨σ3, e3, R3, F3⟩ := s_needSign (d := d + 16) R2 (c := 91) (by omega)
    have g3 := fun d => cl_stepsF (d := d) (h := h) (o := o + 1) R3 (by omega)
    obtain ⟨σ4, e4, R4, F4⟩ := s_needSign (d := d + 16) R3 (c := 93) (by omega)
    have f3 := F3.R
    have f4 := F4.R
    obtain ⟨σ5, e5, F5⟩ := s_putx (d := d + 19) (a := 2461) (x := ii k) (v := gI σ4 2250 3) (σ := σ4) (by decide)
    refine ⟨σ5, ?_, ⟨_, _, R4.fs F5 (by omega) (by omega)⟩, (F2.tr (S1_SK F3)).tr ((S1_SK F4).tr (Fk.of F5 (fun a z => by unfold SK2; omega) (by omega)))⟩
    simp (disch := first | omega | exact b2_01 _ | exact ii0_01 | exact ii1_01 | (simp (disch := omega) only [f1, f3, f4, r0, r1, r2, dr_some, Option.isSome_some, gR_wI, Nat.add_mul_mod_self_left, Nat.reduceMod, ak20, ak21, ak22, ak23, ak24, ak25, ak26, ak27, ak28, ak29, ak30, ak31, ak32, ak33, ak34, ak35, ak36, an20, an21, an22, an23, an24, an25, an26, an27, an28, an29, an30, an31, an32, an33, an34, an35, an36, an37, an38, ne_eq, inR_ii, decide_eq_true_eq, lit_ii, of_ii, ii_eq, ii_lt, ii_le]; first | done | omega)) only [f1, f3, f4, r0, r1, r2, e_Work_readAgain, b_Work_readAgain_0, b_Work_readAgain_6, b_Work_readAgain_15, b_Work_readAgain_16, b_Work_readAgain_29, b_Work_readAgain_32, b_Work_readAgain_38, b_Work_readAgain_47, b_Work_readAgain_53, b_Work_readAgain_66, e1, p_2397, p_2461, e3, g3, e4, e5, dr_some, Option.isSome_some, gR_wI, Nat.add_mul_mod_self_left, Nat.reduceMod, ak20, ak21, ak22, ak23, ak24, ak25, ak26, ak27, ak28, ak29, ak30, ak31, ak32, ak33, ak34, ak35, ak36, an20, an21, an22, an23, an24, an25, an26, an27, an28, an29, an30, an31, an32, an33, an34, an35, an36, an37, an38, ↓reduceIte, bk_int, bk_void, bk_long, bkN_int, bkN_void, bkN_long, Nat.reduceAdd, Nat.reduceMul, Nat.reduceSub, Nat.reduceLT, Nat.reduceLeDiff, if_true, if_false, not_true_eq_false, not_false_eq_true, Bool.true_eq_false, Bool.false_eq_true, b2_eq0, Nat.add_zero, Nat.zero_add, Nat.not_lt_zero, Nat.zero_le, ite_true, ite_false, decide_true, decide_false, lit_ii, of_ii, le_T, le_F, lt_T, lt_F, eq_T, eq_F, ii_add, ii_mul, ii_nat, ii_le, ii_lt, ii_eq, inR_ii, ii_add0]
  | inl z =>
    obtain ⟨p1, v⟩ := z
    obtain ⟨a1, a2, a3, a4, a5, a6, a7⟩ := numW_fwd hp hv
    rw [a7, ← a5] at R2
    have mn : min 100000 (nmV T n p) = v := by omega
    rw [mn] at e1 R2 F2
    have C2 : WC (wI σ1 2397 k (ii v)) (k + 1) (upS ks k (7, v, 0)) := by
      refine ⟨⟨(F1.R _ _).trans r0, (F1.R _ _).trans r1, (F1.R _ _).trans r2⟩, ?_, fun i hi => ?_⟩
      · rw [gI_ne (by omega), F1.I (by unfold S1; omega), h3]
      · unfold upS
        by_cases q : i = k
        · rw [if_pos q, q]
          refine ⟨?_, fun _ _ => gI_at, fun z => by rcases z with z | z | z <;> simp at z⟩
          rw [gI_ne (by omega), F1.I (by unfold S1; omega), h7]
        · rw [if_neg q]
          obtain ⟨x, y, z⟩ := C i (by omega)
          refine ⟨?_, fun b c => ?_, fun b => ?_⟩
          · rw [gI_ne (by omega), F1.I (by unfold S1; omega), x]
          · rw [gI_nj q, F1.I (by unfold S1; omega), y b c]
          · rw [gI_ne (by omega), F1.I (by unfold S1; omega), z b]
    obtain ⟨σ3, e3, Q3, F3⟩ := s_sgnw (d := d + 16) (c := 91) (s := (p1, k + 1, upS ks k (7, v, 0))) R2 C2 (by omega)
    have f3 := F3.R
    have F03 := F2.tr (S1_SK F3)
    simp only
    cases hx : sgnW T n 91 (p1, k + 1, upS ks k (7, v, 0)) with
    | inr F =>
      rw [hx] at Q3
      obtain ⟨p3, u3, R3⟩ := Q3
      have g3 := fun d => cl_stepsF (d := d) (h := h) (o := o + 1) R3 (by omega)
      obtain ⟨σ4, e4, R4, F4⟩ := s_needSign (d := d + 16) R3 (c := 93) (by omega)
      have f4 := F4.R
      obtain ⟨σ5, e5, F5⟩ := s_putx (d := d + 19) (a := 2461) (x := ii k) (v := gI σ4 2250 3) (σ := σ4) (by decide)
      refine ⟨σ5, ?_, ⟨_, _, R4.fs F5 (by omega) (by omega)⟩, F03.tr ((S1_SK F4).tr (Fk.of F5 (fun a z => by unfold SK2; omega) (by omega)))⟩
      simp (disch := first | omega | exact b2_01 _ | exact ii0_01 | exact ii1_01 | (simp (disch := omega) only [f1, f3, f4, r0, r1, r2, dr_some, Option.isSome_some, gR_wI, Nat.add_mul_mod_self_left, Nat.reduceMod, ak20, ak21, ak22, ak23, ak24, ak25, ak26, ak27, ak28, ak29, ak30, ak31, ak32, ak33, ak34, ak35, ak36, an20, an21, an22, an23, an24, an25, an26, an27, an28, an29, an30, an31, an32, an33, an34, an35, an36, an37, an38, ne_eq, inR_ii, decide_eq_true_eq, lit_ii, of_ii, ii_eq, ii_lt, ii_le]; first | done | omega)) only [f1, f3, f4, r0, r1, r2, e_Work_readAgain, b_Work_readAgain_0, b_Work_readAgain_6, b_Work_readAgain_15, b_Work_readAgain_16, b_Work_readAgain_29, b_Work_readAgain_32, b_Work_readAgain_38, b_Work_readAgain_47, b_Work_readAgain_53, b_Work_readAgain_66, e1, p_2397, p_2461, e3, g3, e4, e5, dr_some, Option.isSome_some, gR_wI, Nat.add_mul_mod_self_left, Nat.reduceMod, ak20, ak21, ak22, ak23, ak24, ak25, ak26, ak27, ak28, ak29, ak30, ak31, ak32, ak33, ak34, ak35, ak36, an20, an21, an22, an23, an24, an25, an26, an27, an28, an29, an30, an31, an32, an33, an34, an35, an36, an37, an38, ↓reduceIte, bk_int, bk_void, bk_long, bkN_int, bkN_void, bkN_long, Nat.reduceAdd, Nat.reduceMul, Nat.reduceSub, Nat.reduceLT, Nat.reduceLeDiff, if_true, if_false, not_true_eq_false, not_false_eq_true, Bool.true_eq_false, Bool.false_eq_true, b2_eq0, Nat.add_zero, Nat.zero_add, Nat.not_lt_zero, Nat.zero_le, ite_true, ite_false, decide_true, decide_false, lit_ii, of_ii, le_T, le_F, lt_T, lt_F, eq_T, eq_F, ii_add, ii_mul, ii_nat, ii_le, ii_lt, ii_eq, inR_ii, ii_add0]
    | inl s3 =>
      rw [hx] at Q3
      obtain ⟨⟨u3, R3⟩, C3⟩ := Q3
      obtain ⟨b1, b2, b3⟩ := sgnW_fwd (s := (p1, k + 1, upS ks k (7, v, 0))) a2 hx
      simp only at b1
      have b4 : s3.2.1 = k + 1 := congrArg Prod.fst b3
      obtain ⟨σ4, e4, Q4, F4⟩ := hL σ3 s3 u3 R3 C3 (hI.fs F03.1 SK_h) (by omega)
      have F04 := F03.tr F4
      have fw := hF s3 b2
      have f4 := F4.R
      simp only [wkA2]
      cases hy : L s3 with
      | inr F =>
        rw [hy] at Q4
        obtain ⟨p4, u4, R4⟩ := Q4
        obtain ⟨σ5, e5, R5, F5⟩ := s_needSign (d := d + 16) R4 (c := 93) (by omega)
        have f5 := F5.R
        obtain ⟨σ6, e6, F6⟩ := s_putx (d := d + 19) (a := 2461) (x := ii k) (v := gI σ5 2250 3) (σ := σ5) (by decide)
        refine ⟨σ6, ?_, ⟨_, _, R5.fs F6 (by omega) (by omega)⟩, F04.tr ((S1_SK F5).tr (Fk.of F6 (fun a z => by unfold SK2; omega) (by omega)))⟩
        simp (disch := first | omega | exact b2_01 _ | exact ii0_01 | exact ii1_01 | (simp (disch := omega) only [f1, f3, f4, f5, r0, r1, r2, dr_some, Option.isSome_some, gR_wI, Nat.add_mul_mod_self_left, Nat.reduceMod, ak20, ak21, ak22, ak23, ak24, ak25, ak26, ak27, ak28, ak29, ak30, ak31, ak32, ak33, ak34, ak35, ak36, an20, an21, an22, an23, an24, an25, an26, an27, an28, an29, an30, an31, an32, an33, an34, an35, an36, an37, an38, ne_eq, inR_ii, decide_eq_true_eq, lit_ii, of_ii, ii_eq, ii_lt, ii_le]; first | done | omega)) only [f1, f3, f4, f5, r0, r1, r2, e_Work_readAgain, b_Work_readAgain_0, b_Work_readAgain_6, b_Work_readAgain_15, b_Work_readAgain_16, b_Work_readAgain_29, b_Work_readAgain_32, b_Work_readAgain_38, b_Work_readAgain_47, b_Work_readAgain_53, b_Work_readAgain_66, e1, p_2397, p_2461, e3, e4, e5, e6, dr_some, Option.isSome_some, gR_wI, Nat.add_mul_mod_self_left, Nat.reduceMod, ak20, ak21, ak22, ak23, ak24, ak25, ak26, ak27, ak28, ak29, ak30, ak31, ak32, ak33, ak34, ak35, ak36, an20, an21, an22, an23, an24, an25, an26, an27, an28, an29, an30, an31, an32, an33, an34, an35, an36, an37, an38, ↓reduceIte, bk_int, bk_void, bk_long, bkN_int, bkN_void, bkN_long, Nat.reduceAdd, Nat.reduceMul, Nat.reduceSub, Nat.reduceLT, Nat.reduceLeDiff, if_true, if_false, not_true_eq_false, not_false_eq_true, Bool.true_eq_false, Bool.false_eq_true, b2_eq0, Nat.add_zero, Nat.zero_add, Nat.not_lt_zero, Nat.zero_le, ite_true, ite_false, decide_true, decide_false, lit_ii, of_ii, le_T, le_F, lt_T, lt_F, eq_T, eq_F, ii_add, ii_mul, ii_nat, ii_le, ii_lt, ii_eq, inR_ii, ii_add0]
      | inl s4 =>
        rw [hy] at Q4 fw
        obtain ⟨⟨u4, R4⟩, C4⟩ := Q4
        obtain ⟨c1, c2, c3, c4⟩ := fw
        obtain ⟨σ5, e5, Q5, F5⟩ := s_sgnw (d := d + 16) (c := 93) R4 C4 (by omega)
        have f5 := F5.R
        have F05 := F04.tr (S1_SK F5)
        simp only [wkA3]
        cases hz : sgnW T n 93 s4 with
        | inr F =>
          rw [hz] at Q5
          obtain ⟨p5, u5, R5⟩ := Q5
          obtain ⟨σ6, e6, F6⟩ := s_putx (d := d + 19) (a := 2461) (x := ii k) (v := gI σ5 2250 3) (σ := σ5) (by decide)
          refine ⟨σ6, ?_, ⟨_, _, R5.fs F6 (by omega) (by omega)⟩, F05.tr (Fk.of F6 (fun a z => by unfold SK2; omega) (by omega))⟩
          simp (disch := first | omega | exact b2_01 _ | exact ii0_01 | exact ii1_01 | (simp (disch := omega) only [f1, f3, f4, f5, r0, r1, r2, dr_some, Option.isSome_some, gR_wI, Nat.add_mul_mod_self_left, Nat.reduceMod, ak20, ak21, ak22, ak23, ak24, ak25, ak26, ak27, ak28, ak29, ak30, ak31, ak32, ak33, ak34, ak35, ak36, an20, an21, an22, an23, an24, an25, an26, an27, an28, an29, an30, an31, an32, an33, an34, an35, an36, an37, an38, ne_eq, inR_ii, decide_eq_true_eq, lit_ii, of_ii, ii_eq, ii_lt, ii_le]; first | done | omega)) only [f1, f3, f4, f5, r0, r1, r2, e_Work_readAgain, b_Work_readAgain_0, b_Work_readAgain_6, b_Work_readAgain_15, b_Work_readAgain_16, b_Work_readAgain_29, b_Work_readAgain_32, b_Work_readAgain_38, b_Work_readAgain_47, b_Work_readAgain_53, b_Work_readAgain_66, e1, p_2397, p_2461, e3, e4, e5, e6, dr_some, Option.isSome_some, gR_wI, Nat.add_mul_mod_self_left, Nat.reduceMod, ak20, ak21, ak22, ak23, ak24, ak25, ak26, ak27, ak28, ak29, ak30, ak31, ak32, ak33, ak34, ak35, ak36, an20, an21, an22, an23, an24, an25, an26, an27, an28, an29, an30, an31, an32, an33, an34, an35, an36, an37, an38, ↓reduceIte, bk_int, bk_void, bk_long, bkN_int, bkN_void, bkN_long, Nat.reduceAdd, Nat.reduceMul, Nat.reduceSub, Nat.reduceLT, Nat.reduceLeDiff, if_true, if_false, not_true_eq_false, not_false_eq_true, Bool.true_eq_false, Bool.false_eq_true, b2_eq0, Nat.add_zero, Nat.zero_add, Nat.not_lt_zero, Nat.zero_le, ite_true, ite_false, decide_true, decide_false, lit_ii, of_ii, le_T, le_F, lt_T, lt_F, eq_T, eq_F, ii_add, ii_mul, ii_nat, ii_le, ii_lt, ii_eq, inR_ii, ii_add0]
        | inl s5 =>
          rw [hz] at Q5
          obtain ⟨⟨u5, R5⟩, C5⟩ := Q5
          obtain ⟨d1, d2, d3⟩ := sgnW_fwd c2 hz
          have d4 : s5.2.1 = s4.2.1 := congrArg Prod.fst d3
          have R6 := R5.w (a := 2461) (j := k) (v := ii s5.2.1) (by omega) (by omega)
          obtain ⟨hr5, h35, hc5⟩ := C5
          refine ⟨wI σ5 2461 k (ii s5.2.1), ?_, ⟨⟨u5, R6⟩, hr5, ?_, fun i hi => ?_⟩, F05.w (by unfold SK2; omega)⟩
          · simp (disch := first | omega | exact b2_01 _ | exact ii0_01 | exact ii1_01 | (simp (disch := omega) only [f1, f3, f4, f5, r0, r1, r2, dr_some, Option.isSome_some, gR_wI, Nat.add_mul_mod_self_left, Nat.reduceMod, ak20, ak21, ak22, ak23, ak24, ak25, ak26, ak27, ak28, ak29, ak30, ak31, ak32, ak33, ak34, ak35, ak36, an20, an21, an22, an23, an24, an25, an26, an27, an28, an29, an30, an31, an32, an33, an34, an35, an36, an37, an38, ne_eq, inR_ii, decide_eq_true_eq, lit_ii, of_ii, ii_eq, ii_lt, ii_le]; first | done | omega)) only [f1, f3, f4, f5, r0, r1, r2, e_Work_readAgain, b_Work_readAgain_0, b_Work_readAgain_6, b_Work_readAgain_15, b_Work_readAgain_16, b_Work_readAgain_29, b_Work_readAgain_32, b_Work_readAgain_38, b_Work_readAgain_47, b_Work_readAgain_53, b_Work_readAgain_66, e1, p_2397, p_2461, e3, e4, e5, h35, dr_some, Option.isSome_some, gR_wI, Nat.add_mul_mod_self_left, Nat.reduceMod, ak20, ak21, ak22, ak23, ak24, ak25, ak26, ak27, ak28, ak29, ak30, ak31, ak32, ak33, ak34, ak35, ak36, an20, an21, an22, an23, an24, an25, an26, an27, an28, an29, an30, an31, an32, an33, an34, an35, an36, an37, an38, ↓reduceIte, bk_int, bk_void, bk_long, bkN_int, bkN_void, bkN_long, Nat.reduceAdd, Nat.reduceMul, Nat.reduceSub, Nat.reduceLT, Nat.reduceLeDiff, if_true, if_false, not_true_eq_false, not_false_eq_true, Bool.true_eq_false, Bool.false_eq_true, b2_eq0, Nat.add_zero, Nat.zero_add, Nat.not_lt_zero, Nat.zero_le, ite_true, ite_false, decide_true, decide_false, lit_ii, of_ii, le_T, le_F, lt_T, lt_F, eq_T, eq_F, ii_add, ii_mul, ii_nat, ii_le, ii_lt, ii_eq, inR_ii, ii_add0]
          · rw [gI_ne (by omega)]
            exact h35
          · have hi' : i < s5.2.1 := hi
            obtain ⟨x, y, z⟩ := hc5 i hi'
            show wkR (wI σ5 2461 k (ii s5.2.1)) i (upS s5.2.2 k (7, v, s5.2.1) i)
            by_cases q : i = k
            · subst q
              have pf := hP s3 b2
              rw [hy] at pf
              have e7 : s5.2.2 i = (7, v, 0) := by
                rw [congrArg Prod.snd d3, pf i (by omega), congrArg Prod.snd b3]
                exact upS_at
              rw [upS_at]
              rw [e7] at x y
              exact ⟨by rw [gI_ne (by omega)]; exact x, fun b c => by rw [gI_ne (by omega)]; exact y b c, fun _ => gI_at⟩
            · rw [upS_ne q]
              refine ⟨?_, fun b c => ?_, fun b => ?_⟩
              · rw [gI_ne (by omega), x]
              · rw [gI_ne (by omega), y b c]
              · rw [gI_nj q, z b]
