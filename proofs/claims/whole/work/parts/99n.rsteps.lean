/-! how deep a work's steps lie -/
def nst (ks : Nat → Nat × Nat × Nat) : Nat → Nat → Nat → Prop
  | 0, a, b => ∀ i, a ≤ i → i < b → (ks i).1 ≠ 7
  | r + 1, a, b => ∀ i, a ≤ i → i < b → (ks i).1 = 7 → (ks i).2.2 ≤ b ∧ nst ks r (i + 1) (ks i).2.2
theorem nst_cg {ks ks' : Nat → Nat × Nat × Nat} : ∀ r a b, (∀ i, a ≤ i → i < b → ks' i = ks i) → nst ks r a b → nst ks' r a b := by
  intro r
  induction r with
  | zero =>
    intro a b h q i h1 h2
    rw [h i h1 h2]
    exact q i h1 h2
  | succ r ih =>
    intro a b h q i h1 h2 h7
    rw [h i h1 h2] at h7 ⊢
    obtain ⟨y1, y2⟩ := q i h1 h2 h7
    exact ⟨y1, ih _ _ (fun j g1 g2 => h j (by omega) (by omega)) y2⟩
theorem nst_mo {ks : Nat → Nat × Nat × Nat} : ∀ r a b, nst ks r a b → nst ks (r + 1) a b := by
  intro r
  induction r with
  | zero => exact fun a b q i h1 h2 h7 => absurd h7 (q i h1 h2)
  | succ r ih => exact fun a b q i h1 h2 h7 => ⟨(q i h1 h2 h7).1, ih _ _ (q i h1 h2 h7).2⟩
theorem nst_ap {ks : Nat → Nat × Nat × Nat} {r a b c : Nat} (h1 : nst ks r a b) (h2 : nst ks r b c) (hb : b ≤ c) : nst ks r a c := by
  cases r with
  | zero =>
    intro i g1 g2
    by_cases z : i < b
    · exact h1 i g1 z
    · exact h2 i (by omega) g2
  | succ r =>
    intro i g1 g2 g7
    by_cases z : i < b
    · obtain ⟨y1, y2⟩ := h1 i g1 z g7
      exact ⟨by omega, y2⟩
    · exact h2 i (by omega) g2 g7
theorem nst_one {ks : Nat → Nat × Nat × Nat} {r k : Nat} (h : (ks k).1 ≠ 7) : nst ks r k (k + 1) := by
  cases r with
  | zero =>
    intro i g1 g2
    have : i = k := by omega
    rw [this]
    exact h
  | succ r =>
    intro i g1 g2 g7
    have : i = k := by omega
    rw [this] at g7
    exact absurd g7 h
theorem nst_nil {ks : Nat → Nat × Nat × Nat} {r k : Nat} : nst ks r k k := by
  cases r with
  | zero => exact fun i g1 g2 => by omega
  | succ r => exact fun i g1 g2 => by omega
def NU (n r : Nat) (U : WkT → PR WkT) : Prop := ∀ s s' : WkT, s.1 ≤ n → U s = .inl s' → nst s'.2.2 r s.2.1 s'.2.1
theorem nst_up {ks : Nat → Nat × Nat × Nat} {r k : Nat} {v : Nat × Nat × Nat} (h : v.1 ≠ 7) : nst (upS ks k v) r k (k + 1) := nst_one (by rw [upS_at]; exact h)
theorem wk1_n {T : Nat → Nat} {n x hi r : Nat} {s s' : WkT} (hx : x ≠ 7) (h : wk1 T n x hi s = .inl s') : nst s'.2.2 r s.2.1 s'.2.1 := by
  unfold wk1 at h
  cases hv : numW T n 0 hi s.1 with
  | inr F => rw [hv] at h; cases h
  | inl z =>
    obtain ⟨p, v⟩ := z
    rw [hv] at h
    cases h
    exact nst_up hx
theorem wk2_n {T : Nat → Nat} {n x hi hj r : Nat} {s s' : WkT} (hx : x ≠ 7) (h : wk2 T n x hi hj s = .inl s') : nst s'.2.2 r s.2.1 s'.2.1 := by
  unfold wk2 at h
  cases hv : numW T n 0 hi s.1 with
  | inr F => rw [hv] at h; cases h
  | inl z =>
    obtain ⟨p, v⟩ := z
    rw [hv] at h
    simp only at h
    cases hu : numW T n 0 hj p with
    | inr F => rw [hu] at h; cases h
    | inl z =>
      obtain ⟨p', v'⟩ := z
      rw [hu] at h
      cases h
      exact nst_up hx
theorem wkSt_n {T : Nat → Nat} {n r : Nat} {H : HH} {L : WkT → PR WkT} (hL : r = 0 ∨ (KU n H L ∧ NU n (r - 1) L)) : NU n r (wkSt T n H L r) := by
  intro s s' hs h
  unfold wkSt at h
  have g2 := wdP_le (T := T) hs
  cases hx : wdX 3 T n s.1 with
  | none => rw [hx] at h; cases h
  | some x =>
    rw [hx] at h
    simp only at h
    split at h
    · split at h
      · cases h
      · rename_i hr
        obtain ⟨hL', hN'⟩ := hL.resolve_left hr
        unfold wkA at h
        simp only at h
        cases hv : numW T n 0 31 (wdP T n s.1) with
        | inr F => rw [hv] at h; cases h
        | inl z =>
          obtain ⟨p, v⟩ := z
          rw [hv] at h
          obtain ⟨-, a2, -, a4, -⟩ := numW_fwd g2.2 hv
          simp only at h
          cases hx : sgnW T n 91 (p, s.2.1 + 1, upS s.2.2 s.2.1 (7, v, 0)) with
          | inr F => rw [hx] at h; cases h
          | inl s1 =>
            rw [hx] at h
            obtain ⟨-, b2, b3⟩ := sgnW_fwd (s := (p, s.2.1 + 1, upS s.2.2 s.2.1 (7, v, 0))) a2 hx
            simp only [wkA2] at h
            have e1 : s1.2.1 = s.2.1 + 1 := congrArg Prod.fst b3
            cases hy : L s1 with
            | inr F => rw [hy] at h; cases h
            | inl s2 =>
              rw [hy] at h
              obtain ⟨⟨c1, c2, c3⟩, c4⟩ := hL' s1 s2 b2 hy
              have nn := hN' s1 s2 b2 hy
              simp only [wkA3] at h
              cases hz : sgnW T n 93 s2 with
              | inr F => rw [hz] at h; cases h
              | inl s3 =>
                rw [hz] at h
                cases h
                obtain ⟨-, -, d3⟩ := sgnW_fwd c4 hz
                have f1 : s3.2.1 = s2.2.1 := congrArg Prod.fst d3
                have f2 : s3.2.2 = s2.2.2 := congrArg Prod.snd d3
                obtain ⟨r, rfl⟩ : ∃ r', r = r' + 1 := ⟨r - 1, by omega⟩
                show nst (upS s3.2.2 s.2.1 (7, v, s3.2.1)) (r + 1) s.2.1 s3.2.1
                rw [f1, f2]
                have nn' : nst (upS s2.2.2 s.2.1 (7, v, s2.2.1)) r (s.2.1 + 1) s2.2.1 := by
                  rw [← e1]
                  exact nst_cg (ks := s2.2.2) _ _ _ (fun i g1 g2 => upS_ne (by omega)) nn
                intro i g1 g2 g7
                by_cases z : i = s.2.1
                · subst z
                  rw [upS_at]
                  exact ⟨Nat.le_refl _, nn'⟩
                · have mo := nst_mo _ _ _ nn'
                  exact mo i (by omega) g2 g7
    · rename_i x7
      split at h
      · cases h
        exact nst_up x7
      · split at h
        · exact wk2_n (s := (wdP T n s.1, s.2.1, s.2.2)) (by decide) h
        · split at h
          · exact wk2_n (s := (wdP T n s.1, s.2.1, s.2.2)) (by decide) h
          · exact wk1_n (s := (wdP T n s.1, s.2.1, s.2.2)) x7 h
theorem wkL_n {T : Nat → Nat} {n r : Nat} {H : HH} {St : WkT → PR WkT} {top : Bool} (hK : KU n H St) (hS : NU n r St) : ∀ f, NU n r (wkL T n St top f) := by
  intro f
  induction f with
  | zero =>
    intro s s' hs h
    cases h
    exact nst_nil
  | succ f ih =>
    intro s s' hs h
    have h1 := sk_le (T := T) hs
    unfold wkL at h
    split at h
    · cases h
      exact nst_nil
    · cases hu : St (sk T n s.1, s.2.1, s.2.2) with
      | inr F => rw [hu] at h; cases h
      | inl s1 =>
        rw [hu] at h
        obtain ⟨a, a'⟩ := hK (sk T n s.1, s.2.1, s.2.2) s1 h1 hu
        have an := hS (sk T n s.1, s.2.1, s.2.2) s1 h1 hu
        simp only at h an
        cases hv : sgnW T n 59 s1 with
        | inr F => rw [hv] at h; cases h
        | inl s2 =>
          rw [hv] at h
          obtain ⟨-, b2, b3⟩ := sgnW_fwd a' hv
          have cn := ih s2 s' b2 h
          obtain ⟨⟨c1, c2, c3⟩, c'⟩ := wkL_ok hK f s2 s' b2 h
          have f1 : s2.2.1 = s1.2.1 := congrArg Prod.fst b3
          have f2 : s2.2.2 = s1.2.2 := congrArg Prod.snd b3
          rw [f1] at cn c1 c2
          rw [f2] at c2
          exact nst_ap (nst_cg (ks := s1.2.2) _ _ _ (fun i g1 g2 => c2 i g2) an) cn c1
theorem wkSn_n {T : Nat → Nat} {n : Nat} {H : HH} : ∀ r, NU n r (wkSn T n H r) := by
  intro r
  induction r with
  | zero => exact wkSt_n (Or.inl rfl)
  | succ r ih => exact wkSt_n (Or.inr ⟨wkL_ok (wkSn_ok r) _, wkL_n (wkSn_ok r) ih _⟩)
theorem wkAll_n {T : Nat → Nat} {n : Nat} {H : HH} : ∀ s, wkAll T n H = .inl s → nst s.2.2 6 0 s.2.1 ∧ 3 * s.2.1 ≤ n := by
  intro s h
  have a := wkL_fwd (T := T) (n := n) (St := wkSn T n H 6) (top := true) (wkSn_fwd 6) (n + 1) (0, 0, fun _ => (0, 0, 0)) (Nat.zero_le _)
  have b := wkL_n (T := T) (n := n) (H := H) (top := true) (wkSn_ok 6) (wkSn_n 6) (n + 1) (0, 0, fun _ => (0, 0, 0)) s (Nat.zero_le _) h
  have h' : wkL T n (wkSn T n H 6) true (n + 1) (0, 0, fun _ => (0, 0, 0)) = .inl s := h
  rw [h'] at a
  obtain ⟨a1, a2, a3, a4⟩ := a
  simp only at a4
  exact ⟨b, by omega⟩
/-! THE REFERENCE: steps done -/
def NT (σ : HP) (k : Nat) (ks : Nat → Nat × Nat × Nat) : Prop := ∀ i, i < k → gI σ 4893 (3 * i) = ii (ks i).1 ∧ gI σ 4893 (3 * i + 1) = ii (ks i).2.1 ∧ gI σ 4893 (3 * i + 2) = ii (if (ks i).1 = 7 then 3 * (ks i).2.2 else (ks i).2.2)
def MwX (σ : HP) (x : XT) : Prop := gI σ 3980 35 = ii x.2.1 ∧ gI σ 3980 36 = ii x.2.2.1 ∧ gI σ 3980 37 = ii x.2.2.2
def MgX (a j : Nat) : Prop := Mg a ∨ (a = 3980 ∧ (j = 35 ∨ j = 36 ∨ j = 37))
theorem NT.fm {σ σ' : HP} {k : Nat} {ks : Nat → Nat × Nat × Nat} (A : NT σ k ks) (F : Fm MgX σ σ') : NT σ' k ks := fun i hi =>
  ⟨(F.I (by unfold MgX Mg; omega)).trans (A i hi).1, (F.I (by unfold MgX Mg; omega)).trans (A i hi).2.1, (F.I (by unfold MgX Mg; omega)).trans (A i hi).2.2⟩
theorem MS.w3 {σ : HP} {H : HH} {w : LW} {D : DN} {j : Nat} {v : Int32} (A : MS σ H w D) (hj : j = 35 ∨ j = 36 ∨ j = 37) : MS (wI σ 3980 j v) H w D := by
  obtain ⟨a, b, c, d, e⟩ := A
  have F : Fm (fun a i => a = 3980 ∧ i = j) σ (wI σ 3980 j v) := Fm.w Fm.rf ⟨rfl, rfl⟩
  exact ⟨a.fm F, b.fm F (fun j z => by omega) (fun j => by omega) (fun j => by omega), c.fm F (by omega) (fun j => by omega) (fun j => by omega), d.fm F (fun j => by omega), e⟩
theorem Fm.x3 {σ σ' : HP} {j : Nat} {v : Int32} (F : Fm MgX σ σ') (hj : j = 35 ∨ j = 36 ∨ j = 37) : Fm MgX σ (wI σ' 3980 j v) := F.w (Or.inr ⟨rfl, hj⟩)
def EXm (H : HH) (w : LW) (k : Nat) (ks : Nat → Nat × Nat × Nat) (r e : Nat) : Prop := ∀ (σ : HP) (x : XT) (a b : Nat), MS σ H w x.1 → NT σ k ks → MwX σ x → day_ok x.1 → x.2.1 ≤ 200 → a ≤ k → b ≤ k → nst ks r a b → ∃ σ', callF e m_Mo_goesSteps [.ref 3980, .int (ii (3 * a)), .int (ii (3 * b))] σ = some (.inl none, σ') ∧ MS σ' H w (exuN H w ks r a b x).1 ∧ NT σ' k ks ∧ MwX σ' (exuN H w ks r a b x) ∧ day_ok (exuN H w ks r a b x).1 ∧ (exuN H w ks r a b x).2.1 ≤ 200 ∧ Fm MgX σ σ'
def AGm (H : HH) (w : LW) (k : Nat) (ks : Nat → Nat × Nat × Nat) (e : Nat) (Ag : Nat → XT → XT) (i : Nat) : Prop := ∀ (σ : HP) (x : XT) (l1 l2 : Option Value), MS σ H w x.1 → NT σ k ks → MwX σ x → day_ok x.1 → x.2.1 ≤ 200 → ∃ σ' l5, runF (callF e) e m_Mo_goesSteps (51, [some (.ref 3980), l1, l2, some (.int (ii (3 * i))), some (.int (ii (3 * (ks i).2.2))), some (.int (ii 0))], [], σ) = runF (callF e) e m_Mo_goesSteps (2, [some (.ref 3980), l1, l2, some (.int (ii (3 * (ks i).2.2))), some (.int (ii (3 * (ks i).2.2))), l5], [], σ') ∧ MS σ' H w (Ag i x).1 ∧ NT σ' k ks ∧ MwX σ' (Ag i x) ∧ day_ok (Ag i x).1 ∧ (Ag i x).2.1 ≤ 200 ∧ Fm MgX σ σ'
theorem gx_again {H : HH} {w : LW} {k i r e : Nat} {ks : Nat → Nat × Nat × Nat} (hX : EXm H w k ks r e) (hk : 3 * k ≤ 150) (hi : i < k) (hok : okS1 H k i (ks i)) (h7 : (ks i).1 = 7) (hn : nst ks r (i + 1) (ks i).2.2) : AGm H w k ks e (fun i x => rpt (exuN H w ks r (i + 1) (ks i).2.2) (ks i).2.1 x) i := by
  intro σ x l1 l2 S N W hd hb
  obtain ⟨-, hk2, -⟩ := hok
  have hk2 := hk2 h7
  suffices key : ∀ m j σ, j + m = (ks i).2.1 → MS σ H w (rpt (exuN H w ks r (i + 1) (ks i).2.2) j x).1 → NT σ k ks → MwX σ (rpt (exuN H w ks r (i + 1) (ks i).2.2) j x) → day_ok (rpt (exuN H w ks r (i + 1) (ks i).2.2) j x).1 → (rpt (exuN H w ks r (i + 1) (ks i).2.2) j x).2.1 ≤ 200 → ∃ σ' l5, runF (callF e) e m_Mo_goesSteps (51, [some (.ref 3980), l1, l2, some (.int (ii (3 * i))), some (.int (ii (3 * (ks i).2.2))), some (.int (ii j))], [], σ) = runF (callF e) e m_Mo_goesSteps (2, [some (.ref 3980), l1, l2, some (.int (ii (3 * (ks i).2.2))), some (.int (ii (3 * (ks i).2.2))), l5], [], σ') ∧ MS σ' H w (rpt (exuN H w ks r (i + 1) (ks i).2.2) (ks i).2.1 x).1 ∧ NT σ' k ks ∧ MwX σ' (rpt (exuN H w ks r (i + 1) (ks i).2.2) (ks i).2.1 x) ∧ day_ok (rpt (exuN H w ks r (i + 1) (ks i).2.2) (ks i).2.1 x).1 ∧ (rpt (exuN H w ks r (i + 1) (ks i).2.2) (ks i).2.1 x).2.1 ≤ 200 ∧ Fm MgX σ σ' from key (ks i).2.1 0 σ (by omega) S N W hd hb
  clear S N W hd hb σ
  intro m
  induction m with
  | zero =>
    intro j σ hj S N W hd hb
    have ej : j = (ks i).2.1 := by omega
    subst ej
    refine ⟨σ, some (.int (ii (ks i).2.1)), ?_, S, N, W, hd, hb, Fm.rf⟩
    obtain ⟨u, v, z⟩ := N i hi
    have a0 := S.1
    obtain ⟨z1, z9, z10, z11, z12, z13, z22, z23, z24, z25, z26, z29, z30, z31, z38, z39, z40, z41, z42, z44, z45, z46, z47, z49⟩ := id a0
    conv => lhs; simp (disch := first | omega | exact ak27 | exact ak29 | exact ak20 | exact ak21 | exact ak22 | exact ak23 | exact ak24 | exact ak25 | exact ak28 | exact ak30 | exact ak31 | exact ak32 | exact ak33 | exact b2_01 _ | exact ii0_01 | exact ii1_01 | (simp (disch := omega) only [z1, z9, z10, z11, z12, z13, z22, z23, z24, z25, z26, z29, z30, z31, z38, z39, z40, z41, z42, z44, z45, z46, z47, z49, v, dr_some, Option.isSome_some, gR_wI, Nat.add_mul_mod_self_left, Nat.reduceMod, ak20, ak21, ak22, ak23, ak24, ak25, ak26, ak27, ak28, ak29, ak30, ak31, ak32, ak33, ak34, ak35, ak36, an20, an21, an22, an23, an24, an25, an26, an27, an28, an29, an30, an31, an32, an33, an34, an35, an36, an37, an38, ne_eq, inR_ii, decide_eq_true_eq, lit_ii, of_ii, ii_eq, ii_lt, ii_le, ii_add, ii_mul, ii_sub, ii_pred, ii_nat]; first | done | omega)) only [z1, z9, z10, z11, z12, z13, z22, z23, z24, z25, z26, z29, z30, z31, z38, z39, z40, z41, z42, z44, z45, z46, z47, z49, v, b_Mo_goesSteps_51, b_Mo_goesSteps_89, dr_some, Option.isSome_some, gR_wI, Nat.add_mul_mod_self_left, Nat.reduceMod, ak20, ak21, ak22, ak23, ak24, ak25, ak26, ak27, ak28, ak29, ak30, ak31, ak32, ak33, ak34, ak35, ak36, an20, an21, an22, an23, an24, an25, an26, an27, an28, an29, an30, an31, an32, an33, an34, an35, an36, an37, an38, ↓reduceIte, bk_int, bk_void, bk_long, bkN_int, bkN_void, bkN_long, Nat.reduceAdd, Nat.reduceMul, Nat.reduceSub, Nat.reduceLT, Nat.reduceLeDiff, if_true, if_false, not_true_eq_false, not_false_eq_true, Bool.true_eq_false, Bool.false_eq_true, b2_eq0, Nat.add_zero, Nat.zero_add, Nat.not_lt_zero, Nat.zero_le, ite_true, ite_false, decide_true, decide_false, lit_ii, of_ii, le_T, le_F, lt_T, lt_F, eq_T, eq_F, ii_add, ii_mul, ii_nat, ii_le, ii_lt, ii_eq, inR_ii, ii_add0]
  | succ m ih =>
    intro j σ hj S N W hd hb
    obtain ⟨u, v, z⟩ := N i hi
    have a0 := S.1
    have w4 := W.1
    have nj : ¬ (ks i).2.1 ≤ j := by omega
    by_cases q2 : (rpt (exuN H w ks r (i + 1) (ks i).2.2) j x).2.1 < 200
    · obtain ⟨σ2, e2, S2, N2, W2, hd2, hb2, F2⟩ := hX σ _ (i + 1) (ks i).2.2 S N W hd hb (by omega) (by omega) hn
      have er : rpt (exuN H w ks r (i + 1) (ks i).2.2) (j + 1) x = exuN H w ks r (i + 1) (ks i).2.2 (rpt (exuN H w ks r (i + 1) (ks i).2.2) j x) := by rw [rpt, if_pos q2]
      rw [show 3 * (i + 1) = 3 * i + 3 by omega] at e2
      obtain ⟨σ9, l5, e9, S9, N9, W9, hd9, hb9, F9⟩ := ih (j + 1) σ2 (by omega) (by rw [er]; exact S2) N2 (by rw [er]; exact W2) (by rw [er]; exact hd2) (by rw [er]; exact hb2)
      refine ⟨σ9, l5, ?_, S9, N9, W9, hd9, hb9, F2.tr F9⟩
      rw [← e9]
      have nq : ¬ 200 ≤ (rpt (exuN H w ks r (i + 1) (ks i).2.2) j x).2.1 := by omega
      obtain ⟨z1, z9, z10, z11, z12, z13, z22, z23, z24, z25, z26, z29, z30, z31, z38, z39, z40, z41, z42, z44, z45, z46, z47, z49⟩ := id a0
      conv => lhs; simp (disch := first | omega | exact ak27 | exact ak29 | exact ak20 | exact ak21 | exact ak22 | exact ak23 | exact ak24 | exact ak25 | exact ak28 | exact ak30 | exact ak31 | exact ak32 | exact ak33 | exact b2_01 _ | exact ii0_01 | exact ii1_01 | (simp (disch := omega) only [z1, z9, z10, z11, z12, z13, z22, z23, z24, z25, z26, z29, z30, z31, z38, z39, z40, z41, z42, z44, z45, z46, z47, z49, v, dr_some, Option.isSome_some, gR_wI, Nat.add_mul_mod_self_left, Nat.reduceMod, ak20, ak21, ak22, ak23, ak24, ak25, ak26, ak27, ak28, ak29, ak30, ak31, ak32, ak33, ak34, ak35, ak36, an20, an21, an22, an23, an24, an25, an26, an27, an28, an29, an30, an31, an32, an33, an34, an35, an36, an37, an38, ne_eq, inR_ii, decide_eq_true_eq, lit_ii, of_ii, ii_eq, ii_lt, ii_le, ii_add, ii_mul, ii_sub, ii_pred, ii_nat]; first | done | omega)) only [z1, z9, z10, z11, z12, z13, z22, z23, z24, z25, z26, z29, z30, z31, z38, z39, z40, z41, z42, z44, z45, z46, z47, z49, v, b_Mo_goesSteps_51, nj, dr_some, Option.isSome_some, gR_wI, Nat.add_mul_mod_self_left, Nat.reduceMod, ak20, ak21, ak22, ak23, ak24, ak25, ak26, ak27, ak28, ak29, ak30, ak31, ak32, ak33, ak34, ak35, ak36, an20, an21, an22, an23, an24, an25, an26, an27, an28, an29, an30, an31, an32, an33, an34, an35, an36, an37, an38, ↓reduceIte, bk_int, bk_void, bk_long, bkN_int, bkN_void, bkN_long, Nat.reduceAdd, Nat.reduceMul, Nat.reduceSub, Nat.reduceLT, Nat.reduceLeDiff, if_true, if_false, not_true_eq_false, not_false_eq_true, Bool.true_eq_false, Bool.false_eq_true, b2_eq0, Nat.add_zero, Nat.zero_add, Nat.not_lt_zero, Nat.zero_le, ite_true, ite_false, decide_true, decide_false, lit_ii, of_ii, le_T, le_F, lt_T, lt_F, eq_T, eq_F, ii_add, ii_mul, ii_nat, ii_le, ii_lt, ii_eq, inR_ii, ii_add0]
      simp (disch := first | omega | exact ak27 | exact ak29 | exact ak20 | exact ak21 | exact ak22 | exact ak23 | exact ak24 | exact ak25 | exact ak28 | exact ak30 | exact ak31 | exact ak32 | exact ak33 | exact b2_01 _ | exact ii0_01 | exact ii1_01 | (simp (disch := omega) only [z1, z9, z10, z11, z12, z13, z22, z23, z24, z25, z26, z29, z30, z31, z38, z39, z40, z41, z42, z44, z45, z46, z47, z49, v, w4, e2, dr_some, Option.isSome_some, gR_wI, Nat.add_mul_mod_self_left, Nat.reduceMod, ak20, ak21, ak22, ak23, ak24, ak25, ak26, ak27, ak28, ak29, ak30, ak31, ak32, ak33, ak34, ak35, ak36, an20, an21, an22, an23, an24, an25, an26, an27, an28, an29, an30, an31, an32, an33, an34, an35, an36, an37, an38, ne_eq, inR_ii, decide_eq_true_eq, lit_ii, of_ii, ii_eq, ii_lt, ii_le, ii_add, ii_mul, ii_sub, ii_pred, ii_nat]; first | done | omega)) only [z1, z9, z10, z11, z12, z13, z22, z23, z24, z25, z26, z29, z30, z31, z38, z39, z40, z41, z42, z44, z45, z46, z47, z49, v, w4, e2, b_Mo_goesSteps_64, b_Mo_goesSteps_74, b_Mo_goesSteps_83, nq, dr_some, Option.isSome_some, gR_wI, Nat.add_mul_mod_self_left, Nat.reduceMod, ak20, ak21, ak22, ak23, ak24, ak25, ak26, ak27, ak28, ak29, ak30, ak31, ak32, ak33, ak34, ak35, ak36, an20, an21, an22, an23, an24, an25, an26, an27, an28, an29, an30, an31, an32, an33, an34, an35, an36, an37, an38, ↓reduceIte, bk_int, bk_void, bk_long, bkN_int, bkN_void, bkN_long, Nat.reduceAdd, Nat.reduceMul, Nat.reduceSub, Nat.reduceLT, Nat.reduceLeDiff, if_true, if_false, not_true_eq_false, not_false_eq_true, Bool.true_eq_false, Bool.false_eq_true, b2_eq0, Nat.add_zero, Nat.zero_add, Nat.not_lt_zero, Nat.zero_le, ite_true, ite_false, decide_true, decide_false, lit_ii, of_ii, le_T, le_F, lt_T, lt_F, eq_T, eq_F, ii_add, ii_mul, ii_nat, ii_le, ii_lt, ii_eq, inR_ii, ii_add0]
    · have er : rpt (exuN H w ks r (i + 1) (ks i).2.2) (ks i).2.1 x = rpt (exuN H w ks r (i + 1) (ks i).2.2) j x := by
        have := rpt_stop q2 ((ks i).2.1 - j)
        rw [show j + ((ks i).2.1 - j) = (ks i).2.1 by omega] at this
        exact this
      rw [er]
      refine ⟨σ, some (.int (ii j)), ?_, S, N, W, hd, hb, Fm.rf⟩
      have nq : 200 ≤ (rpt (exuN H w ks r (i + 1) (ks i).2.2) j x).2.1 := by omega
      obtain ⟨z1, z9, z10, z11, z12, z13, z22, z23, z24, z25, z26, z29, z30, z31, z38, z39, z40, z41, z42, z44, z45, z46, z47, z49⟩ := id a0
      conv => lhs; simp (disch := first | omega | exact ak27 | exact ak29 | exact ak20 | exact ak21 | exact ak22 | exact ak23 | exact ak24 | exact ak25 | exact ak28 | exact ak30 | exact ak31 | exact ak32 | exact ak33 | exact b2_01 _ | exact ii0_01 | exact ii1_01 | (simp (disch := omega) only [z1, z9, z10, z11, z12, z13, z22, z23, z24, z25, z26, z29, z30, z31, z38, z39, z40, z41, z42, z44, z45, z46, z47, z49, v, w4, dr_some, Option.isSome_some, gR_wI, Nat.add_mul_mod_self_left, Nat.reduceMod, ak20, ak21, ak22, ak23, ak24, ak25, ak26, ak27, ak28, ak29, ak30, ak31, ak32, ak33, ak34, ak35, ak36, an20, an21, an22, an23, an24, an25, an26, an27, an28, an29, an30, an31, an32, an33, an34, an35, an36, an37, an38, ne_eq, inR_ii, decide_eq_true_eq, lit_ii, of_ii, ii_eq, ii_lt, ii_le, ii_add, ii_mul, ii_sub, ii_pred, ii_nat]; first | done | omega)) only [z1, z9, z10, z11, z12, z13, z22, z23, z24, z25, z26, z29, z30, z31, z38, z39, z40, z41, z42, z44, z45, z46, z47, z49, v, w4, b_Mo_goesSteps_51, b_Mo_goesSteps_64, b_Mo_goesSteps_89, nj, nq, dr_some, Option.isSome_some, gR_wI, Nat.add_mul_mod_self_left, Nat.reduceMod, ak20, ak21, ak22, ak23, ak24, ak25, ak26, ak27, ak28, ak29, ak30, ak31, ak32, ak33, ak34, ak35, ak36, an20, an21, an22, an23, an24, an25, an26, an27, an28, an29, an30, an31, an32, an33, an34, an35, an36, an37, an38, ↓reduceIte, bk_int, bk_void, bk_long, bkN_int, bkN_void, bkN_long, Nat.reduceAdd, Nat.reduceMul, Nat.reduceSub, Nat.reduceLT, Nat.reduceLeDiff, if_true, if_false, not_true_eq_false, not_false_eq_true, Bool.true_eq_false, Bool.false_eq_true, b2_eq0, Nat.add_zero, Nat.zero_add, Nat.not_lt_zero, Nat.zero_le, ite_true, ite_false, decide_true, decide_false, lit_ii, of_ii, le_T, le_F, lt_T, lt_F, eq_T, eq_F, ii_add, ii_mul, ii_nat, ii_le, ii_lt, ii_eq, inR_ii, ii_add0]
theorem gx_one {H : HH} {w : LW} {k e a b : Nat} {ks : Nat → Nat × Nat × Nat} {Ag : Nat → XT → XT} {σ : HP} {x : XT} (he : 7 ≤ e) (hk : 3 * k ≤ 150) (hok : ∀ i, i < k → okS1 H k i (ks i)) (hA : ∀ i, a ≤ i → i < b → (ks i).1 = 7 → AGm H w k ks e Ag i) (S : MS σ H w x.1) (N : NT σ k ks) (W : MwX σ x) (hd : day_ok x.1) (hb : x.2.1 ≤ 200) (ha : a ≤ k) (hbk : b ≤ k) : ∃ σ', callF (e + 1) m_Mo_goesSteps [.ref 3980, .int (ii (3 * a)), .int (ii (3 * b))] σ = some (.inl none, σ') ∧ MS σ' H w (exL H w ks Ag b (b - a) a x).1 ∧ NT σ' k ks ∧ MwX σ' (exL H w ks Ag b (b - a) a x) ∧ day_ok (exL H w ks Ag b (b - a) a x).1 ∧ (exL H w ks Ag b (b - a) a x).2.1 ≤ 200 ∧ Fm MgX σ σ' := by
  obtain ⟨d, rfl⟩ : ∃ d, e = d + 7 := ⟨e - 7, by omega⟩
  suffices key : ∀ f i p (x : XT) σ (l4 l5 : Option Value), p = 3 * i → b - i ≤ f → a ≤ i → i ≤ k → MS σ H w x.1 → NT σ k ks → MwX σ x → day_ok x.1 → x.2.1 ≤ 200 → ∃ σ', runF (callF (d + 7)) (d + 7) m_Mo_goesSteps (2, [some (.ref 3980), some (.int (ii (3 * a))), some (.int (ii (3 * b))), some (.int (ii p)), l4, l5], [], σ) = some (.inl none, σ') ∧ MS σ' H w (exL H w ks Ag b f i x).1 ∧ NT σ' k ks ∧ MwX σ' (exL H w ks Ag b f i x) ∧ day_ok (exL H w ks Ag b f i x).1 ∧ (exL H w ks Ag b f i x).2.1 ≤ 200 ∧ Fm MgX σ σ' by
    obtain ⟨σ', e9, r9⟩ := key (b - a) a (3 * a) x σ none none rfl (Nat.le_refl _) (Nat.le_refl _) ha S N W hd hb
    refine ⟨σ', ?_, r9⟩
    rw [← e9, e_Mo_goesSteps, b_Mo_goesSteps_0]
  clear S N W hd hb σ x
  intro f
  induction f with
  | zero =>
    intro i p x σ l4 l5 hp hf hai hik S N W hd hb
    refine ⟨σ, ?_, S, N, W, hd, hb, Fm.rf⟩
    have q : 3 * b ≤ p := by omega
    simp (disch := first | omega | exact b2_01 _ | exact ii0_01 | exact ii1_01 | (simp (disch := omega) only [Nat.le_refl, dr_some, Option.isSome_some, gR_wI, Nat.add_mul_mod_self_left, Nat.reduceMod, ak20, ak21, ak22, ak23, ak24, ak25, ak26, ak27, ak28, ak29, ak30, ak31, ak32, ak33, ak34, ak35, ak36, an20, an21, an22, an23, an24, an25, an26, an27, an28, an29, an30, an31, an32, an33, an34, an35, an36, an37, an38, ne_eq, inR_ii, decide_eq_true_eq, lit_ii, of_ii, ii_eq, ii_lt, ii_le]; first | done | omega)) only [Nat.le_refl, b_Mo_goesSteps_2, b_Mo_goesSteps_153, q, dr_some, Option.isSome_some, gR_wI, Nat.add_mul_mod_self_left, Nat.reduceMod, ak20, ak21, ak22, ak23, ak24, ak25, ak26, ak27, ak28, ak29, ak30, ak31, ak32, ak33, ak34, ak35, ak36, an20, an21, an22, an23, an24, an25, an26, an27, an28, an29, an30, an31, an32, an33, an34, an35, an36, an37, an38, ↓reduceIte, bk_int, bk_void, bk_long, bkN_int, bkN_void, bkN_long, Nat.reduceAdd, Nat.reduceMul, Nat.reduceSub, Nat.reduceLT, Nat.reduceLeDiff, if_true, if_false, not_true_eq_false, not_false_eq_true, Bool.true_eq_false, Bool.false_eq_true, b2_eq0, Nat.add_zero, Nat.zero_add, Nat.not_lt_zero, Nat.zero_le, ite_true, ite_false, decide_true, decide_false, lit_ii, of_ii, le_T, le_F, lt_T, lt_F, eq_T, eq_F, ii_add, ii_mul, ii_nat, ii_le, ii_lt, ii_eq, inR_ii, ii_add0]
  | succ f ih =>
    intro i p x σ l4 l5 hp hf hai hik S N W hd hb
    have a0 := S.1
    have w4 := W.1
    by_cases q1 : i < b
    · have nq1 : ¬ 3 * b ≤ p := by omega
      by_cases q2 : x.2.1 < 200
      · have nq2 : ¬ 200 ≤ x.2.1 := by omega
        rw [exL, if_pos ⟨q1, q2⟩]
        have hi : i < k := by omega
        have hoki := hok i hi
        have le7 := hoki.1
        have S1 := S.w3 (j := 35) (v := ii (x.2.1 + 1)) (by omega)
        have F1 : Fm MgX σ (wI σ 3980 35 (ii (x.2.1 + 1))) := Fm.rf.x3 (by omega)
        have N1 := N.fm F1
        have W1 : MwX (wI σ 3980 35 (ii (x.2.1 + 1))) (beg x) := ⟨gI_at, (gI_nj (by omega)).trans W.2.1, (gI_nj (by omega)).trans W.2.2⟩
        obtain ⟨u, v, z⟩ := N1 i hi
        subst hp
        by_cases q7 : (ks i).1 = 7
        · rw [if_pos q7] at z ⊢
          have ho2 := hoki.2.1 q7
          obtain ⟨σ2, l5', e2, S2, N2, W2, hd2, hb2, F2⟩ := hA i hai q1 q7 _ (beg x) (some (.int (ii (3 * a)))) (some (.int (ii (3 * b)))) S1 N1 W1 hd (by show x.2.1 + 1 ≤ 200; omega)
          obtain ⟨σ9, e9, S9, N9, W9, hd9, hb9, F9⟩ := ih (ks i).2.2 (3 * (ks i).2.2) (Ag i (beg x)) σ2 (some (.int (ii (3 * (ks i).2.2)))) l5' rfl (by omega) (by omega) (by omega) S2 N2 W2 hd2 hb2
          refine ⟨σ9, ?_, S9, N9, W9, hd9, hb9, (F1.tr F2).tr F9⟩
          rw [← e9, ← e2]
          rw [q7] at u
          obtain ⟨z1, z9, z10, z11, z12, z13, z22, z23, z24, z25, z26, z29, z30, z31, z38, z39, z40, z41, z42, z44, z45, z46, z47, z49⟩ := id a0
          conv => lhs; simp (disch := first | omega | exact ak27 | exact ak29 | exact ak20 | exact ak21 | exact ak22 | exact ak23 | exact ak24 | exact ak25 | exact ak28 | exact ak30 | exact ak31 | exact ak32 | exact ak33 | exact b2_01 _ | exact ii0_01 | exact ii1_01 | (simp (disch := omega) only [z1, z9, z10, z11, z12, z13, z22, z23, z24, z25, z26, z29, z30, z31, z38, z39, z40, z41, z42, z44, z45, z46, z47, z49, w4, dr_some, Option.isSome_some, gR_wI, Nat.add_mul_mod_self_left, Nat.reduceMod, ak20, ak21, ak22, ak23, ak24, ak25, ak26, ak27, ak28, ak29, ak30, ak31, ak32, ak33, ak34, ak35, ak36, an20, an21, an22, an23, an24, an25, an26, an27, an28, an29, an30, an31, an32, an33, an34, an35, an36, an37, an38, ne_eq, inR_ii, decide_eq_true_eq, lit_ii, of_ii, ii_eq, ii_lt, ii_le, ii_add, ii_mul, ii_sub, ii_pred, ii_nat]; first | done | omega)) only [z1, z9, z10, z11, z12, z13, z22, z23, z24, z25, z26, z29, z30, z31, z38, z39, z40, z41, z42, z44, z45, z46, z47, z49, w4, b_Mo_goesSteps_2, nq1, dr_some, Option.isSome_some, gR_wI, Nat.add_mul_mod_self_left, Nat.reduceMod, ak20, ak21, ak22, ak23, ak24, ak25, ak26, ak27, ak28, ak29, ak30, ak31, ak32, ak33, ak34, ak35, ak36, an20, an21, an22, an23, an24, an25, an26, an27, an28, an29, an30, an31, an32, an33, an34, an35, an36, an37, an38, ↓reduceIte, bk_int, bk_void, bk_long, bkN_int, bkN_void, bkN_long, Nat.reduceAdd, Nat.reduceMul, Nat.reduceSub, Nat.reduceLT, Nat.reduceLeDiff, if_true, if_false, not_true_eq_false, not_false_eq_true, Bool.true_eq_false, Bool.false_eq_true, b2_eq0, Nat.add_zero, Nat.zero_add, Nat.not_lt_zero, Nat.zero_le, ite_true, ite_false, decide_true, decide_false, lit_ii, of_ii, le_T, le_F, lt_T, lt_F, eq_T, eq_F, ii_add, ii_mul, ii_nat, ii_le, ii_lt, ii_eq, inR_ii, ii_add0]
          simp (disch := first | omega | exact ak27 | exact ak29 | exact ak20 | exact ak21 | exact ak22 | exact ak23 | exact ak24 | exact ak25 | exact ak28 | exact ak30 | exact ak31 | exact ak32 | exact ak33 | exact b2_01 _ | exact ii0_01 | exact ii1_01 | (simp (disch := omega) only [z1, z9, z10, z11, z12, z13, z22, z23, z24, z25, z26, z29, z30, z31, z38, z39, z40, z41, z42, z44, z45, z46, z47, z49, w4, u, v, z, dr_some, Option.isSome_some, gR_wI, Nat.add_mul_mod_self_left, Nat.reduceMod, ak20, ak21, ak22, ak23, ak24, ak25, ak26, ak27, ak28, ak29, ak30, ak31, ak32, ak33, ak34, ak35, ak36, an20, an21, an22, an23, an24, an25, an26, an27, an28, an29, an30, an31, an32, an33, an34, an35, an36, an37, an38, ne_eq, inR_ii, decide_eq_true_eq, lit_ii, of_ii, ii_eq, ii_lt, ii_le, ii_add, ii_mul, ii_sub, ii_pred, ii_nat]; first | done | omega)) only [z1, z9, z10, z11, z12, z13, z22, z23, z24, z25, z26, z29, z30, z31, z38, z39, z40, z41, z42, z44, z45, z46, z47, z49, w4, u, v, z, b_Mo_goesSteps_7, b_Mo_goesSteps_17, b_Mo_goesSteps_38, nq2, dr_some, Option.isSome_some, gR_wI, Nat.add_mul_mod_self_left, Nat.reduceMod, ak20, ak21, ak22, ak23, ak24, ak25, ak26, ak27, ak28, ak29, ak30, ak31, ak32, ak33, ak34, ak35, ak36, an20, an21, an22, an23, an24, an25, an26, an27, an28, an29, an30, an31, an32, an33, an34, an35, an36, an37, an38, ↓reduceIte, bk_int, bk_void, bk_long, bkN_int, bkN_void, bkN_long, Nat.reduceAdd, Nat.reduceMul, Nat.reduceSub, Nat.reduceLT, Nat.reduceLeDiff, if_true, if_false, not_true_eq_false, not_false_eq_true, Bool.true_eq_false, Bool.false_eq_true, b2_eq0, Nat.add_zero, Nat.zero_add, Nat.not_lt_zero, Nat.zero_le, ite_true, ite_false, decide_true, decide_false, lit_ii, of_ii, le_T, le_F, lt_T, lt_F, eq_T, eq_F, ii_add, ii_mul, ii_nat, ii_le, ii_lt, ii_eq, inR_ii, ii_add0]
        · rw [if_neg q7] at z ⊢
          obtain ⟨σ2, e2, S2, F2⟩ := r_isDone (d := d) S1 (ks i) hoki q7 hd
          have F2' : Fm MgX (wI σ 3980 35 (ii (x.2.1 + 1))) σ2 := F2.fm (fun a j z => Or.inl z)
          have N2 := N1.fm F2'
          have m3 : ¬ Mg 3980 := by unfold Mg; omega
          have y5 : gI σ2 3980 35 = ii (x.2.1 + 1) := (F2.I m3).trans W1.1
          have y6 : gI σ2 3980 36 = ii x.2.2.1 := (F2.I m3).trans W1.2.1
          have y7 : gI σ2 3980 37 = ii x.2.2.2 := (F2.I m3).trans W1.2.2
          have hd2 := doD_86 (w := w) S.2.2.2.2.1 hoki q7 hd
          cases hbx : doB H w x.1 (ks i) with
          | true =>
            rw [hbx] at e2
            have eo : one1 H w (beg x) (ks i) = (doD H w x.1 (ks i), x.2.1 + 1, x.2.2.1 + 1, x.2.2.2) := by unfold one1 beg; simp only [hbx]; rfl
            have S3 := S2.w3 (j := 36) (v := ii (x.2.2.1 + 1)) (by omega)
            have F3 : Fm MgX σ2 (wI σ2 3980 36 (ii (x.2.2.1 + 1))) := Fm.rf.x3 (by omega)
            rw [eo]
            obtain ⟨σ9, e9, S9, N9, W9, hd9, hb9, F9⟩ := ih (i + 1) (3 * i + 3) (doD H w x.1 (ks i), x.2.1 + 1, x.2.2.1 + 1, x.2.2.2) (wI σ2 3980 36 (ii (x.2.2.1 + 1))) l4 l5 (by omega) (by omega) (by omega) (by omega) S3 (N2.fm F3) ⟨(gI_nj (by omega)).trans y5, gI_at, (gI_nj (by omega)).trans y7⟩ hd2 (by show x.2.1 + 1 ≤ 200; omega)
            refine ⟨σ9, ?_, S9, N9, W9, hd9, hb9, ((F1.tr F2').tr F3).tr F9⟩
            rw [← e9]
            obtain ⟨z1, z9, z10, z11, z12, z13, z22, z23, z24, z25, z26, z29, z30, z31, z38, z39, z40, z41, z42, z44, z45, z46, z47, z49⟩ := id a0
            conv => lhs; simp (disch := first | omega | exact ak27 | exact ak29 | exact ak20 | exact ak21 | exact ak22 | exact ak23 | exact ak24 | exact ak25 | exact ak28 | exact ak30 | exact ak31 | exact ak32 | exact ak33 | exact b2_01 _ | exact ii0_01 | exact ii1_01 | (simp (disch := omega) only [z1, z9, z10, z11, z12, z13, z22, z23, z24, z25, z26, z29, z30, z31, z38, z39, z40, z41, z42, z44, z45, z46, z47, z49, w4, dr_some, Option.isSome_some, gR_wI, Nat.add_mul_mod_self_left, Nat.reduceMod, ak20, ak21, ak22, ak23, ak24, ak25, ak26, ak27, ak28, ak29, ak30, ak31, ak32, ak33, ak34, ak35, ak36, an20, an21, an22, an23, an24, an25, an26, an27, an28, an29, an30, an31, an32, an33, an34, an35, an36, an37, an38, ne_eq, inR_ii, decide_eq_true_eq, lit_ii, of_ii, ii_eq, ii_lt, ii_le, ii_add, ii_mul, ii_sub, ii_pred, ii_nat]; first | done | omega)) only [z1, z9, z10, z11, z12, z13, z22, z23, z24, z25, z26, z29, z30, z31, z38, z39, z40, z41, z42, z44, z45, z46, z47, z49, w4, b_Mo_goesSteps_2, nq1, dr_some, Option.isSome_some, gR_wI, Nat.add_mul_mod_self_left, Nat.reduceMod, ak20, ak21, ak22, ak23, ak24, ak25, ak26, ak27, ak28, ak29, ak30, ak31, ak32, ak33, ak34, ak35, ak36, an20, an21, an22, an23, an24, an25, an26, an27, an28, an29, an30, an31, an32, an33, an34, an35, an36, an37, an38, ↓reduceIte, bk_int, bk_void, bk_long, bkN_int, bkN_void, bkN_long, Nat.reduceAdd, Nat.reduceMul, Nat.reduceSub, Nat.reduceLT, Nat.reduceLeDiff, if_true, if_false, not_true_eq_false, not_false_eq_true, Bool.true_eq_false, Bool.false_eq_true, b2_eq0, Nat.add_zero, Nat.zero_add, Nat.not_lt_zero, Nat.zero_le, ite_true, ite_false, decide_true, decide_false, lit_ii, of_ii, le_T, le_F, lt_T, lt_F, eq_T, eq_F, ii_add, ii_mul, ii_nat, ii_le, ii_lt, ii_eq, inR_ii, ii_add0]
            simp (disch := first | omega | exact ak27 | exact ak29 | exact ak20 | exact ak21 | exact ak22 | exact ak23 | exact ak24 | exact ak25 | exact ak28 | exact ak30 | exact ak31 | exact ak32 | exact ak33 | exact b2_01 _ | exact ii0_01 | exact ii1_01 | (simp (disch := omega) only [z1, z9, z10, z11, z12, z13, z22, z23, z24, z25, z26, z29, z30, z31, z38, z39, z40, z41, z42, z44, z45, z46, z47, z49, w4, u, v, z, e2, y6, dr_some, Option.isSome_some, gR_wI, Nat.add_mul_mod_self_left, Nat.reduceMod, ak20, ak21, ak22, ak23, ak24, ak25, ak26, ak27, ak28, ak29, ak30, ak31, ak32, ak33, ak34, ak35, ak36, an20, an21, an22, an23, an24, an25, an26, an27, an28, an29, an30, an31, an32, an33, an34, an35, an36, an37, an38, ne_eq, inR_ii, decide_eq_true_eq, lit_ii, of_ii, ii_eq, ii_lt, ii_le, ii_add, ii_mul, ii_sub, ii_pred, ii_nat]; first | done | omega)) only [z1, z9, z10, z11, z12, z13, z22, z23, z24, z25, z26, z29, z30, z31, z38, z39, z40, z41, z42, z44, z45, z46, z47, z49, w4, u, v, z, e2, y6, b_Mo_goesSteps_7, b_Mo_goesSteps_17, b_Mo_goesSteps_95, b_Mo_goesSteps_121, b_Mo_goesSteps_124, b_Mo_goesSteps_147, nq2, q7, b2_ii, Bool.toNat_true, Nat.succ_ne_zero, dr_some, Option.isSome_some, gR_wI, Nat.add_mul_mod_self_left, Nat.reduceMod, ak20, ak21, ak22, ak23, ak24, ak25, ak26, ak27, ak28, ak29, ak30, ak31, ak32, ak33, ak34, ak35, ak36, an20, an21, an22, an23, an24, an25, an26, an27, an28, an29, an30, an31, an32, an33, an34, an35, an36, an37, an38, ↓reduceIte, bk_int, bk_void, bk_long, bkN_int, bkN_void, bkN_long, Nat.reduceAdd, Nat.reduceMul, Nat.reduceSub, Nat.reduceLT, Nat.reduceLeDiff, if_true, if_false, not_true_eq_false, not_false_eq_true, Bool.true_eq_false, Bool.false_eq_true, b2_eq0, Nat.add_zero, Nat.zero_add, Nat.not_lt_zero, Nat.zero_le, ite_true, ite_false, decide_true, decide_false, lit_ii, of_ii, le_T, le_F, lt_T, lt_F, eq_T, eq_F, ii_add, ii_mul, ii_nat, ii_le, ii_lt, ii_eq, inR_ii, ii_add0]
          | false =>
            have eo : one1 H w (beg x) (ks i) = (doD H w x.1 (ks i), x.2.1 + 1, x.2.2.1, x.2.2.2 + 1) := by unfold one1 beg; simp only [hbx]; rfl
            have S3 := S2.w3 (j := 37) (v := ii (x.2.2.2 + 1)) (by omega)
            have F3 : Fm MgX σ2 (wI σ2 3980 37 (ii (x.2.2.2 + 1))) := Fm.rf.x3 (by omega)
            rw [eo]
            rw [hbx] at e2
            obtain ⟨σ9, e9, S9, N9, W9, hd9, hb9, F9⟩ := ih (i + 1) (3 * i + 3) (doD H w x.1 (ks i), x.2.1 + 1, x.2.2.1, x.2.2.2 + 1) (wI σ2 3980 37 (ii (x.2.2.2 + 1))) l4 l5 (by omega) (by omega) (by omega) (by omega) S3 (N2.fm F3) ⟨(gI_nj (by omega)).trans y5, (gI_nj (by omega)).trans y6, gI_at⟩ hd2 (by show x.2.1 + 1 ≤ 200; omega)
            refine ⟨σ9, ?_, S9, N9, W9, hd9, hb9, ((F1.tr F2').tr F3).tr F9⟩
            rw [← e9]
            obtain ⟨z1, z9, z10, z11, z12, z13, z22, z23, z24, z25, z26, z29, z30, z31, z38, z39, z40, z41, z42, z44, z45, z46, z47, z49⟩ := id a0
            conv => lhs; simp (disch := first | omega | exact ak27 | exact ak29 | exact ak20 | exact ak21 | exact ak22 | exact ak23 | exact ak24 | exact ak25 | exact ak28 | exact ak30 | exact ak31 | exact ak32 | exact ak33 | exact b2_01 _ | exact ii0_01 | exact ii1_01 | (simp (disch := omega) only [z1, z9, z10, z11, z12, z13, z22, z23, z24, z25, z26, z29, z30, z31, z38, z39, z40, z41, z42, z44, z45, z46, z47, z49, w4, dr_some, Option.isSome_some, gR_wI, Nat.add_mul_mod_self_left, Nat.reduceMod, ak20, ak21, ak22, ak23, ak24, ak25, ak26, ak27, ak28, ak29, ak30, ak31, ak32, ak33, ak34, ak35, ak36, an20, an21, an22, an23, an24, an25, an26, an27, an28, an29, an30, an31, an32, an33, an34, an35, an36, an37, an38, ne_eq, inR_ii, decide_eq_true_eq, lit_ii, of_ii, ii_eq, ii_lt, ii_le, ii_add, ii_mul, ii_sub, ii_pred, ii_nat]; first | done | omega)) only [z1, z9, z10, z11, z12, z13, z22, z23, z24, z25, z26, z29, z30, z31, z38, z39, z40, z41, z42, z44, z45, z46, z47, z49, w4, b_Mo_goesSteps_2, nq1, dr_some, Option.isSome_some, gR_wI, Nat.add_mul_mod_self_left, Nat.reduceMod, ak20, ak21, ak22, ak23, ak24, ak25, ak26, ak27, ak28, ak29, ak30, ak31, ak32, ak33, ak34, ak35, ak36, an20, an21, an22, an23, an24, an25, an26, an27, an28, an29, an30, an31, an32, an33, an34, an35, an36, an37, an38, ↓reduceIte, bk_int, bk_void, bk_long, bkN_int, bkN_void, bkN_long, Nat.reduceAdd, Nat.reduceMul, Nat.reduceSub, Nat.reduceLT, Nat.reduceLeDiff, if_true, if_false, not_true_eq_false, not_false_eq_true, Bool.true_eq_false, Bool.false_eq_true, b2_eq0, Nat.add_zero, Nat.zero_add, Nat.not_lt_zero, Nat.zero_le, ite_true, ite_false, decide_true, decide_false, lit_ii, of_ii, le_T, le_F, lt_T, lt_F, eq_T, eq_F, ii_add, ii_mul, ii_nat, ii_le, ii_lt, ii_eq, inR_ii, ii_add0]
            simp (disch := first | omega | exact ak27 | exact ak29 | exact ak20 | exact ak21 | exact ak22 | exact ak23 | exact ak24 | exact ak25 | exact ak28 | exact ak30 | exact ak31 | exact ak32 | exact ak33 | exact b2_01 _ | exact ii0_01 | exact ii1_01 | (simp (disch := omega) only [z1, z9, z10, z11, z12, z13, z22, z23, z24, z25, z26, z29, z30, z31, z38, z39, z40, z41, z42, z44, z45, z46, z47, z49, w4, u, v, z, e2, y7, dr_some, Option.isSome_some, gR_wI, Nat.add_mul_mod_self_left, Nat.reduceMod, ak20, ak21, ak22, ak23, ak24, ak25, ak26, ak27, ak28, ak29, ak30, ak31, ak32, ak33, ak34, ak35, ak36, an20, an21, an22, an23, an24, an25, an26, an27, an28, an29, an30, an31, an32, an33, an34, an35, an36, an37, an38, ne_eq, inR_ii, decide_eq_true_eq, lit_ii, of_ii, ii_eq, ii_lt, ii_le, ii_add, ii_mul, ii_sub, ii_pred, ii_nat]; first | done | omega)) only [z1, z9, z10, z11, z12, z13, z22, z23, z24, z25, z26, z29, z30, z31, z38, z39, z40, z41, z42, z44, z45, z46, z47, z49, w4, u, v, z, e2, y7, b_Mo_goesSteps_7, b_Mo_goesSteps_17, b_Mo_goesSteps_95, b_Mo_goesSteps_121, b_Mo_goesSteps_137, b_Mo_goesSteps_147, nq2, q7, b2_ii, Bool.toNat_false, Nat.succ_ne_zero, dr_some, Option.isSome_some, gR_wI, Nat.add_mul_mod_self_left, Nat.reduceMod, ak20, ak21, ak22, ak23, ak24, ak25, ak26, ak27, ak28, ak29, ak30, ak31, ak32, ak33, ak34, ak35, ak36, an20, an21, an22, an23, an24, an25, an26, an27, an28, an29, an30, an31, an32, an33, an34, an35, an36, an37, an38, ↓reduceIte, bk_int, bk_void, bk_long, bkN_int, bkN_void, bkN_long, Nat.reduceAdd, Nat.reduceMul, Nat.reduceSub, Nat.reduceLT, Nat.reduceLeDiff, if_true, if_false, not_true_eq_false, not_false_eq_true, Bool.true_eq_false, Bool.false_eq_true, b2_eq0, Nat.add_zero, Nat.zero_add, Nat.not_lt_zero, Nat.zero_le, ite_true, ite_false, decide_true, decide_false, lit_ii, of_ii, le_T, le_F, lt_T, lt_F, eq_T, eq_F, ii_add, ii_mul, ii_nat, ii_le, ii_lt, ii_eq, inR_ii, ii_add0]
      · have q2' : 200 ≤ x.2.1 := by omega
        rw [exL, if_neg (fun z => q2 z.2)]
        refine ⟨σ, ?_, S, N, W, hd, hb, Fm.rf⟩
        simp (disch := first | omega | exact b2_01 _ | exact ii0_01 | exact ii1_01 | (simp (disch := omega) only [w4, dr_some, Option.isSome_some, gR_wI, Nat.add_mul_mod_self_left, Nat.reduceMod, ak20, ak21, ak22, ak23, ak24, ak25, ak26, ak27, ak28, ak29, ak30, ak31, ak32, ak33, ak34, ak35, ak36, an20, an21, an22, an23, an24, an25, an26, an27, an28, an29, an30, an31, an32, an33, an34, an35, an36, an37, an38, ne_eq, inR_ii, decide_eq_true_eq, lit_ii, of_ii, ii_eq, ii_lt, ii_le]; first | done | omega)) only [w4, b_Mo_goesSteps_2, b_Mo_goesSteps_7, b_Mo_goesSteps_153, nq1, q2', dr_some, Option.isSome_some, gR_wI, Nat.add_mul_mod_self_left, Nat.reduceMod, ak20, ak21, ak22, ak23, ak24, ak25, ak26, ak27, ak28, ak29, ak30, ak31, ak32, ak33, ak34, ak35, ak36, an20, an21, an22, an23, an24, an25, an26, an27, an28, an29, an30, an31, an32, an33, an34, an35, an36, an37, an38, ↓reduceIte, bk_int, bk_void, bk_long, bkN_int, bkN_void, bkN_long, Nat.reduceAdd, Nat.reduceMul, Nat.reduceSub, Nat.reduceLT, Nat.reduceLeDiff, if_true, if_false, not_true_eq_false, not_false_eq_true, Bool.true_eq_false, Bool.false_eq_true, b2_eq0, Nat.add_zero, Nat.zero_add, Nat.not_lt_zero, Nat.zero_le, ite_true, ite_false, decide_true, decide_false, lit_ii, of_ii, le_T, le_F, lt_T, lt_F, eq_T, eq_F, ii_add, ii_mul, ii_nat, ii_le, ii_lt, ii_eq, inR_ii, ii_add0]
    · rw [exL, if_neg (fun z => q1 z.1)]
      refine ⟨σ, ?_, S, N, W, hd, hb, Fm.rf⟩
      have q : 3 * b ≤ p := by omega
      simp (disch := first | omega | exact b2_01 _ | exact ii0_01 | exact ii1_01 | (simp (disch := omega) only [Nat.le_refl, dr_some, Option.isSome_some, gR_wI, Nat.add_mul_mod_self_left, Nat.reduceMod, ak20, ak21, ak22, ak23, ak24, ak25, ak26, ak27, ak28, ak29, ak30, ak31, ak32, ak33, ak34, ak35, ak36, an20, an21, an22, an23, an24, an25, an26, an27, an28, an29, an30, an31, an32, an33, an34, an35, an36, an37, an38, ne_eq, inR_ii, decide_eq_true_eq, lit_ii, of_ii, ii_eq, ii_lt, ii_le]; first | done | omega)) only [Nat.le_refl, b_Mo_goesSteps_2, b_Mo_goesSteps_153, q, dr_some, Option.isSome_some, gR_wI, Nat.add_mul_mod_self_left, Nat.reduceMod, ak20, ak21, ak22, ak23, ak24, ak25, ak26, ak27, ak28, ak29, ak30, ak31, ak32, ak33, ak34, ak35, ak36, an20, an21, an22, an23, an24, an25, an26, an27, an28, an29, an30, an31, an32, an33, an34, an35, an36, an37, an38, ↓reduceIte, bk_int, bk_void, bk_long, bkN_int, bkN_void, bkN_long, Nat.reduceAdd, Nat.reduceMul, Nat.reduceSub, Nat.reduceLT, Nat.reduceLeDiff, if_true, if_false, not_true_eq_false, not_false_eq_true, Bool.true_eq_false, Bool.false_eq_true, b2_eq0, Nat.add_zero, Nat.zero_add, Nat.not_lt_zero, Nat.zero_le, ite_true, ite_false, decide_true, decide_false, lit_ii, of_ii, le_T, le_F, lt_T, lt_F, eq_T, eq_F, ii_add, ii_mul, ii_nat, ii_le, ii_lt, ii_eq, inR_ii, ii_add0]
theorem gx_all {H : HH} {w : LW} {k : Nat} {ks : Nat → Nat × Nat × Nat} (hk : 3 * k ≤ 150) (hok : ∀ i, i < k → okS1 H k i (ks i)) : ∀ r e, 8 + r ≤ e → EXm H w k ks r e := by
  intro r
  induction r with
  | zero =>
    intro e he σ x a b S N W hd hb ha hbk hn
    obtain ⟨e, rfl⟩ : ∃ e', e = e' + 1 := ⟨e - 1, by omega⟩
    exact gx_one (Ag := fun _ x => x) (by omega) hk hok (fun i g1 g2 g7 => absurd g7 (hn i g1 g2)) S N W hd hb ha hbk
  | succ r ih =>
    intro e he σ x a b S N W hd hb ha hbk hn
    obtain ⟨e, rfl⟩ : ∃ e', e = e' + 1 := ⟨e - 1, by omega⟩
    exact gx_one (Ag := fun k x => rpt (exuN H w ks r (k + 1) (ks k).2.2) (ks k).2.1 x) (by omega) hk hok (fun i g1 g2 g7 => gx_again (ih e (by omega)) hk (by omega) (hok i (by omega)) g7 (hn i g1 g2 g7).2) S N W hd hb ha hbk
