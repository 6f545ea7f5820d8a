/-! the most rides: every part of a set tried (the reference) is as good as parts with the first man (the class) -/
def fr (T hv : Nat → Nat) (pi S P : Nat) : Nat := if P &&& S = P ∧ P ≠ 0 ∧ popc P ≤ 4 ∧ pi < hv P then 1 + T (S ^^^ P) else 0
theorem sb_tr {P S S' : Nat} (h : P &&& S' = P) (h' : S' &&& S = S') : P &&& S = P := by
  rw [← h, Nat.and_assoc, h']
theorem sb_x {k S S' : Nat} (h : k &&& S' = k) (h' : S' &&& S = S') : (S' ^^^ k) &&& (S ^^^ k) = S' ^^^ k := by
  apply Nat.eq_of_testBit_eq
  intro i
  have a := congrArg (fun x => x.testBit i) h
  have b := congrArg (fun x => x.testBit i) h'
  simp only [Nat.testBit_and, Nat.testBit_xor] at a b ⊢
  revert a b
  cases k.testBit i <;> cases S'.testBit i <;> cases S.testBit i <;> decide
theorem sb_s {P S : Nat} (h : P &&& S = P) : (S ^^^ P) &&& S = S ^^^ P := by
  apply Nat.eq_of_testBit_eq
  intro i
  have a := congrArg (fun x => x.testBit i) h
  simp only [Nat.testBit_and, Nat.testBit_xor] at a ⊢
  revert a
  cases P.testBit i <;> cases S.testBit i <;> decide
theorem sb_d {P Q n : Nat} (h : P &&& n = P) (h' : Q &&& (n ^^^ P) = Q) : P &&& (n ^^^ Q) = P := by
  apply Nat.eq_of_testBit_eq
  intro i
  have a := congrArg (fun x => x.testBit i) h
  have b := congrArg (fun x => x.testBit i) h'
  simp only [Nat.testBit_and, Nat.testBit_xor] at a b ⊢
  revert a b
  cases P.testBit i <;> cases Q.testBit i <;> cases n.testBit i <;> decide
theorem xor_rc (a b c : Nat) : (a ^^^ b) ^^^ c = (a ^^^ c) ^^^ b := by
  rw [Nat.xor_assoc, Nat.xor_comm b c, ← Nat.xor_assoc]
theorem lw1a : ∀ S, S < 128 → ∀ P, P < 128 → P &&& S = P → P &&& lowb S = 0 → P &&& (S ^^^ lowb S) = P := by decide +kernel
theorem lw1b : ∀ S, S < 128 → ∀ P, P < 128 → P &&& S = P → P &&& lowb S = 0 → (S = 0 ∨ ¬ (S ^^^ P) &&& lowb S = 0) := by decide +kernel
theorem lw2 : ∀ S, S < 128 → ∀ X, X < 128 → X &&& S = X → ¬ X &&& lowb S = 0 → lowb X = lowb S := by decide +kernel
theorem lw3 : ∀ S, S < 128 → lowb S &&& S = lowb S := by decide +kernel
theorem fC_fr {T hv : Nat → Nat} {pi S P : Nat} : fC T hv pi S P ≤ fr T hv pi S P := by
  unfold fC fr
  split
  · rename_i h
    rw [if_pos ⟨h.1, fun z => h.2.1 (by rw [z, Nat.zero_and]), h.2.2⟩]
    exact Nat.le_refl _
  · exact Nat.zero_le _
theorem ride_eq {T hv : Nat → Nat} {pi : Nat} (h0 : T 0 = 0) : ∀ n, n < 128 → (∀ S, S < n → T S = cro T hv pi S) → mxo (fr T hv pi n) (n + 1) = cro T hv pi n := by
  intro n
  induction n using Nat.strongRecOn with
  | _ n ih =>
    intro hn hC
    have hrec : ∀ S, S < n → T S = mxo (fr T hv pi S) (S + 1) := fun S hS => by
      rw [hC S hS]
      exact (ih S hS (by omega) (fun X hX => hC X (by omega))).symm
    have mono : ∀ S, S < n → ∀ S', S' &&& S = S' → T S' ≤ T S := by
      intro S
      induction S using Nat.strongRecOn with
      | _ S ihS =>
        intro hS S' hs
        have hle := (xor_sub hs).2
        rw [hrec S' (by omega)]
        refine mxo_le (fun k hk => ?_)
        unfold fr
        split
        · rename_i h
          have hkS := sb_tr h.1 hs
          have hx := xor_sub hkS
          have h1 := ihS (S ^^^ k) (by omega) (by omega) (S' ^^^ k) (sb_x h.1 hs)
          have h2 : fr T hv pi S k = 1 + T (S ^^^ k) := by
            unfold fr
            rw [if_pos ⟨hkS, h.2⟩]
          have h3 := mxo_ge (f := fr T hv pi S) (n := S + 1) (k := k) (by omega)
          rw [← hrec S hS] at h3
          omega
        · exact Nat.zero_le _
    have frle : ∀ S k, S < n → k &&& S = k → k ≠ 0 → popc k ≤ 4 → pi < hv k → 1 + T (S ^^^ k) ≤ T S := by
      intro S k hS a b c e
      have hx := xor_sub a
      have h2 : fr T hv pi S k = 1 + T (S ^^^ k) := by
        unfold fr
        rw [if_pos ⟨a, b, c, e⟩]
      have h3 := mxo_ge (f := fr T hv pi S) (n := S + 1) (k := k) (by omega)
      rw [← hrec S hS] at h3
      omega
    have lt := low_tab n hn
    apply Nat.le_antisymm
    · refine mxo_le (fun k hk => ?_)
      unfold fr
      split
      · rename_i h
        obtain ⟨a, b, c, e⟩ := h
        have hx := xor_sub a
        by_cases z : k &&& lowb n = 0
        · have n0 : 0 < n := by omega
          have l1 := lw1a n hn k (by omega) a z
          have l2 := (lw1b n hn k (by omega) a z).resolve_left (by omega)
          have hX : n ^^^ k < n := by omega
          have el := lw2 n hn (n ^^^ k) (by omega) (sb_s a) l2
          have eT := hC (n ^^^ k) hX
          unfold cro at eT
          rw [el, xor_rc n k (lowb n)] at eT
          have c1 := frle (n ^^^ lowb n) k (lt.2.2.2 n0) l1 b c e
          have g1 : T (n ^^^ lowb n) ≤ cro T hv pi n := Nat.le_max_left _ _
          have g2 : mxo (fC T hv pi (n ^^^ k)) ((n ^^^ k) + 1) ≤ cro T hv pi n - 1 := by
            refine mxo_le (fun Q hQ => ?_)
            unfold fC
            split
            · rename_i h
              obtain ⟨qa, qb, qc, qe⟩ := h
              rw [el] at qb
              have qn := sb_tr qa (sb_s a)
              have hxq := xor_sub qn
              have q0 : Q ≠ 0 := fun z => qb (by rw [z, Nat.zero_and])
              have c2 := frle (n ^^^ Q) k (by omega) (sb_d a qa) b c e
              have c3 : fC T hv pi n Q = 1 + T (n ^^^ Q) := by
                unfold fC
                rw [if_pos ⟨qn, qb, qc, qe⟩]
              have c4 := mxo_ge (f := fC T hv pi n) (n := n + 1) (k := Q) (by omega)
              have c5 : mxo (fC T hv pi n) (n + 1) ≤ cro T hv pi n := Nat.le_max_right _ _
              rw [xor_rc n k Q]
              omega
            · exact Nat.zero_le _
          omega
        · have c3 : fC T hv pi n k = 1 + T (n ^^^ k) := by
            unfold fC
            rw [if_pos ⟨a, z, c, e⟩]
          have c4 := mxo_ge (f := fC T hv pi n) (n := n + 1) (k := k) (by omega)
          have c5 : mxo (fC T hv pi n) (n + 1) ≤ cro T hv pi n := Nat.le_max_right _ _
          omega
      · exact Nat.zero_le _
    · refine Nat.max_le.mpr ⟨?_, mxo_le (fun k hk => Nat.le_trans fC_fr (mxo_ge (f := fr T hv pi n) hk))⟩
      by_cases n0 : n = 0
      · subst n0
        show T (0 ^^^ (0 &&& (4294967296 - 0))) ≤ _
        rw [Nat.zero_and, Nat.xor_self, h0]
        exact Nat.zero_le _
      · have hZ := lt.2.2.2 (by omega)
        rw [hrec _ hZ]
        refine mxo_le (fun k hk => ?_)
        have hs : (n ^^^ lowb n) &&& n = n ^^^ lowb n := sb_s (lw3 n hn)
        have h3 := mxo_ge (f := fr T hv pi n) (n := n + 1) (k := k) (by omega)
        refine Nat.le_trans ?_ h3
        unfold fr
        split
        · rename_i h
          have hkn := sb_tr h.1 hs
          have hx := xor_sub hkn
          rw [if_pos ⟨hkn, h.2⟩]
          have := mono (n ^^^ k) (by omega) ((n ^^^ lowb n) ^^^ k) (sb_x h.1 hs)
          omega
        · exact Nat.zero_le _
theorem cT_st {hv : Nat → Nat} {pi : Nat} {S : Nat} : ∀ n, S ≤ n → ∀ P, P < S → cT hv pi n P = cT hv pi S P := by
  intro n
  induction n with
  | zero => intro h P hP; omega
  | succ n ih =>
    intro h P hP
    by_cases z : S = n + 1
    · rw [z]
    · show up1 (cT hv pi n) n _ P = _
      rw [up1_ne (by omega)]
      exact ih (by omega) P hP
theorem cro_cg {T T' hv : Nat → Nat} {pi S : Nat} (hS : S < 128) (h : ∀ P, P < S → T P = T' P) (h0 : T 0 = T' 0) : cro T hv pi S = cro T' hv pi S := by
  have lt := low_tab S hS
  unfold cro
  congr 1
  · by_cases z : S = 0
    · subst z
      exact h0
    · exact h _ (lt.2.2.2 (by omega))
  · have : ∀ n, mxo (fC T hv pi S) n = mxo (fC T' hv pi S) n := by
      intro n
      induction n with
      | zero => rfl
      | succ n ih =>
        rw [mxo, mxo, ih]
        congr 1
        unfold fC
        split
        · rename_i z
          have hx := xor_sub z.1
          have q0 : n ≠ 0 := fun y => z.2.1 (by rw [y, Nat.zero_and])
          rw [h _ (by omega)]
        · rfl
    exact this _
theorem cT_at {hv : Nat → Nat} {pi n S : Nat} (hS : S < n) (hn : n ≤ 128) : cT hv pi n S = cro (cT hv pi n) hv pi S := by
  rw [cT_st n (show S + 1 ≤ n by omega) S (by omega)]
  show up1 (cT hv pi S) S (cro (cT hv pi S) hv pi S) S = _
  rw [up1_at]
  exact cro_cg (by omega) (fun P hP => (cT_st n (by omega) P hP).symm) (by rw [cT_0, cT_0])
theorem ride_cT {hv : Nat → Nat} {pi n : Nat} (hn : n < 128) : mxo (fr (cT hv pi n) hv pi n) (n + 1) = cro (cT hv pi n) hv pi n :=
  ride_eq (cT_0 hv pi n) n hn (fun S hS => cT_at hS (by omega))
theorem and_not : ∀ S, S < 128 → ∀ k, k < 128 → k &&& S = k → ii S &&& (ii k ^^^ -ii 1) = ii (S ^^^ k) := by decide +kernel
theorem q_rides {d : Nat} {σ : HP} {H : HH} {w : LW} {D : DN} {tp : TPE} {ct : CNT} {B : BK} {pw : PW} {im : IMS} (A : MW σ H w D tp ct B pw im) : MQi σ (callF (d + 70) m_Mo_rides [.ref 3980] σ) (ii (cT (hvs H D) (hp H) (2 ^ hm H) (2 ^ hm H - 1))) 0 (fun τ => MW τ H w D tp ct B pw im) := by
  obtain ⟨σ1, e1, S1, W1, F1, h1⟩ := r_take0 (d := d + 67) A
  have hh := A.2.2.2.2.1.1.1
  have p7 := pow7 A.2.2.2.2.1.1
  have pp : 0 < 2 ^ hm H := Nat.two_pow_pos _
  have sh := shl1 (hm H) (by omega)
  have key : ∃ σ', callF (d + 70) m_Mo_rides [.ref 3980] σ = some (.inl (some (.int (ii (cT (hvs H D) (hp H) (2 ^ hm H) (2 ^ hm H - 1))))), σ') ∧ Fs (fun a => a = 5340) σ1 σ' := by
    have ea : callF (d + 70) m_Mo_rides [.ref 3980] σ = runF (callF (d + 69)) (d + 69) m_Mo_rides (11, [some (.ref 3980), some (.int (ii 0)), none, none, none], [], σ1) := by
      simp (disch := first | omega | exact b2_01 _ | exact ii0_01 | exact ii1_01 | (simp (disch := omega) only [e1, dr_some, Option.isSome_some, gR_wI, Nat.add_mul_mod_self_left, Nat.reduceMod, ak20, ak21, ak22, ak23, ak24, ak25, ak26, ak27, ak28, ak29, ak30, ak31, ak32, ak33, ak34, ak35, ak36, an20, an21, an22, an23, an24, an25, an26, an27, an28, an29, an30, an31, an32, an33, an34, an35, an36, an37, an38, ne_eq, inR_ii, decide_eq_true_eq, lit_ii, of_ii, ii_eq, ii_lt, ii_le]; first | done | omega)) only [e1, e_Mo_rides, b_Mo_rides_0, b_Mo_rides_9, dr_some, Option.isSome_some, gR_wI, Nat.add_mul_mod_self_left, Nat.reduceMod, ak20, ak21, ak22, ak23, ak24, ak25, ak26, ak27, ak28, ak29, ak30, ak31, ak32, ak33, ak34, ak35, ak36, an20, an21, an22, an23, an24, an25, an26, an27, an28, an29, an30, an31, an32, an33, an34, an35, an36, an37, an38, ↓reduceIte, bk_int, bk_void, bk_long, bkN_int, bkN_void, bkN_long, Nat.reduceAdd, Nat.reduceMul, Nat.reduceSub, Nat.reduceLT, Nat.reduceLeDiff, if_true, if_false, not_true_eq_false, not_false_eq_true, Bool.true_eq_false, Bool.false_eq_true, b2_eq0, Nat.add_zero, Nat.zero_add, Nat.not_lt_zero, Nat.zero_le, ite_true, ite_false, decide_true, decide_false, lit_ii, of_ii, le_T, le_F, lt_T, lt_F, eq_T, eq_F, ii_add, ii_mul, ii_nat, ii_le, ii_lt, ii_eq, inR_ii, ii_add0]
    rw [ea]
    refine loop_g (N := 2 ^ hm H) (Q := fun o => ∃ σ', o = some (.inl (some (.int (ii (cT (hvs H D) (hp H) (2 ^ hm H) (2 ^ hm H - 1))))), σ') ∧ Fs (fun a => a = 5340) σ1 σ') (fun k c => ∃ σ' l2 l3 l4, c = (11, [some (.ref 3980), some (.int (ii k)), l2, l3, l4], [], σ') ∧ Fs (fun a => a = 5340) σ1 σ' ∧ ∀ P, P < k → gI σ' 5340 P = ii (cT (hvs H D) (hp H) k P)) ?_ ?_ 0 _ (Nat.zero_le _) ⟨σ1, none, none, none, rfl, Fs.rf, fun P hP => by omega⟩
    · rintro S c hS ⟨σ', l2, l3, l4, rfl, F, hT⟩
      have S' := S1.fs F (fun a z => by omega)
      have a := S'.mr
      obtain ⟨z1, z9, z10, z11, z12, z13, z22, z23, z24, z25, z26, z29, z30, z31, z38, z39, z40, z41, z42, z44, z45, z46, z47, z49⟩ := id a
      have b1 := S'.mh.1
      have b4 := S'.mh.2.2.2.1
      have hS' : ¬ 2 ^ hm H ≤ S := by omega
      have hTb : ∀ P, cT (hvs H D) (hp H) S P ≤ 128 := fun P => Nat.le_trans (cT_le _ _ _ _) (by omega)
      have er := ride_cT (hv := hvs H D) (pi := hp H) (n := S) (by omega)
      have eT : cT (hvs H D) (hp H) (S + 1) = up1 (cT (hvs H D) (hp H) S) S (cro (cT (hvs H D) (hp H) S) (hvs H D) (hp H) S) := rfl
      rw [eT, ← er]
      generalize cT (hvs H D) (hp H) S = T at *
      have hfb : ∀ P, fr T (hvs H D) (hp H) S P ≤ 129 := fun P => by
        unfold fr
        have := hTb (S ^^^ P)
        split <;> omega
      have eb : runF (callF (d + 69)) (d + 69) m_Mo_rides (11, [some (.ref 3980), some (.int (ii S)), l2, l3, l4], [], σ') = runF (callF (d + 69)) (d + 69) m_Mo_rides (25, [some (.ref 3980), some (.int (ii S)), some (.int (ii 0)), some (.int (ii S)), l4], [], σ') := by
        conv => lhs; simp (disch := first | omega | exact ak27 | exact ak29 | exact ak20 | exact ak21 | exact ak22 | exact ak23 | exact ak24 | exact ak25 | exact ak28 | exact ak30 | exact ak31 | exact ak32 | exact ak33 | exact b2_01 _ | exact ii0_01 | exact ii1_01 | (simp (disch := omega) only [z1, z9, z10, z11, z12, z13, z22, z23, z24, z25, z26, z29, z30, z31, z38, z39, z40, z41, z42, z44, z45, z46, z47, z49, b1, dr_some, Option.isSome_some, gR_wI, Nat.add_mul_mod_self_left, Nat.reduceMod, ak20, ak21, ak22, ak23, ak24, ak25, ak26, ak27, ak28, ak29, ak30, ak31, ak32, ak33, ak34, ak35, ak36, an20, an21, an22, an23, an24, an25, an26, an27, an28, an29, an30, an31, an32, an33, an34, an35, an36, an37, an38, ne_eq, inR_ii, decide_eq_true_eq, lit_ii, of_ii, ii_eq, ii_lt, ii_le, ii_add, ii_mul, ii_sub, ii_pred, ii_nat]; first | done | omega)) only [z1, z9, z10, z11, z12, z13, z22, z23, z24, z25, z26, z29, z30, z31, z38, z39, z40, z41, z42, z44, z45, z46, z47, z49, b1, b_Mo_rides_11, b_Mo_rides_21, sh, hS', dr_some, Option.isSome_some, gR_wI, Nat.add_mul_mod_self_left, Nat.reduceMod, ak20, ak21, ak22, ak23, ak24, ak25, ak26, ak27, ak28, ak29, ak30, ak31, ak32, ak33, ak34, ak35, ak36, an20, an21, an22, an23, an24, an25, an26, an27, an28, an29, an30, an31, an32, an33, an34, an35, an36, an37, an38, ↓reduceIte, bk_int, bk_void, bk_long, bkN_int, bkN_void, bkN_long, Nat.reduceAdd, Nat.reduceMul, Nat.reduceSub, Nat.reduceLT, Nat.reduceLeDiff, if_true, if_false, not_true_eq_false, not_false_eq_true, Bool.true_eq_false, Bool.false_eq_true, b2_eq0, Nat.add_zero, Nat.zero_add, Nat.not_lt_zero, Nat.zero_le, ite_true, ite_false, decide_true, decide_false, lit_ii, of_ii, le_T, le_F, lt_T, lt_F, eq_T, eq_F, ii_add, ii_mul, ii_nat, ii_le, ii_lt, ii_eq, inR_ii, ii_add0]
      have ec : ∃ l3' l4', runF (callF (d + 69)) (d + 69) m_Mo_rides (25, [some (.ref 3980), some (.int (ii S)), some (.int (ii 0)), some (.int (ii S)), l4], [], σ') = runF (callF (d + 69)) (d + 69) m_Mo_rides (88, [some (.ref 3980), some (.int (ii S)), some (.int (ii (mxo (fr T (hvs H D) (hp H) S) (S + 1)))), l3', l4'], [], σ') := by
        refine loop_w (Q := fun o => ∃ l3' l4', o = runF (callF (d + 69)) (d + 69) m_Mo_rides (88, [some (.ref 3980), some (.int (ii S)), some (.int (ii (mxo (fr T (hvs H D) (hp H) S) (S + 1)))), l3', l4'], [], σ')) (fun k c => ∃ best l4, c = (25, [some (.ref 3980), some (.int (ii S)), some (.int (ii best)), some (.int (ii k)), l4], [], σ') ∧ k &&& S = k ∧ max best (mxo (fr T (hvs H D) (hp H) S) (k + 1)) = mxo (fr T (hvs H D) (hp H) S) (S + 1) ∧ best ≤ 129) ?_ S _ ⟨0, l4, rfl, Nat.and_self _, by omega, by omega⟩
        rintro k c ⟨best, l4, rfl, hk, hm', hb⟩
        by_cases q : k = 0
        · left
          subst q
          have f00 : fr T (hvs H D) (hp H) S 0 = 0 := by
            unfold fr
            rw [if_neg (fun z => z.2.1 rfl)]
          rw [mxo, f00, mxo, Nat.max_zero, Nat.max_zero] at hm'
          rw [← hm']
          refine ⟨some (.int (ii 0)), l4, ?_⟩
          conv => lhs; simp (disch := first | omega | exact b2_01 _ | exact ii0_01 | exact ii1_01 | (simp (disch := omega) only [Nat.le_refl, dr_some, Option.isSome_some, gR_wI, Nat.add_mul_mod_self_left, Nat.reduceMod, ak20, ak21, ak22, ak23, ak24, ak25, ak26, ak27, ak28, ak29, ak30, ak31, ak32, ak33, ak34, ak35, ak36, an20, an21, an22, an23, an24, an25, an26, an27, an28, an29, an30, an31, an32, an33, an34, an35, an36, an37, an38, ne_eq, inR_ii, decide_eq_true_eq, lit_ii, of_ii, ii_eq, ii_lt, ii_le]; first | done | omega)) only [Nat.le_refl, b_Mo_rides_25, dr_some, Option.isSome_some, gR_wI, Nat.add_mul_mod_self_left, Nat.reduceMod, ak20, ak21, ak22, ak23, ak24, ak25, ak26, ak27, ak28, ak29, ak30, ak31, ak32, ak33, ak34, ak35, ak36, an20, an21, an22, an23, an24, an25, an26, an27, an28, an29, an30, an31, an32, an33, an34, an35, an36, an37, an38, ↓reduceIte, bk_int, bk_void, bk_long, bkN_int, bkN_void, bkN_long, Nat.reduceAdd, Nat.reduceMul, Nat.reduceSub, Nat.reduceLT, Nat.reduceLeDiff, if_true, if_false, not_true_eq_false, not_false_eq_true, Bool.true_eq_false, Bool.false_eq_true, b2_eq0, Nat.add_zero, Nat.zero_add, Nat.not_lt_zero, Nat.zero_le, ite_true, ite_false, decide_true, decide_false, lit_ii, of_ii, le_T, le_F, lt_T, lt_F, eq_T, eq_F, ii_add, ii_mul, ii_nat, ii_le, ii_lt, ii_eq, inR_ii, ii_add0]
        · right
          have hks := xor_sub hk
          have hn : (k - 1) &&& S < k := Nat.lt_of_le_of_lt Nat.and_le_left (by omega)
          have hnx : ((k - 1) &&& S) &&& S = (k - 1) &&& S := by rw [Nat.and_assoc, Nat.and_self]
          have hsk : mxo (fr T (hvs H D) (hp H) S) k = mxo (fr T (hvs H D) (hp H) S) (((k - 1) &&& S) + 1) := mxo_skip (fun P x y => by
            unfold fr
            rw [if_neg]
            rintro ⟨z, -⟩
            have := sub_next k P S z hk y
            omega) (by omega)
          rw [mxo, hsk] at hm'
          have q' : ¬ k ≤ 0 := by omega
          have n1 := fun d => r_ones (d := d) (B := k) (σ := σ') (by omega)
          have n2 := fun d => r_heavyAll (d := d) S' (B := k) (by omega)
          have pk := popc_le k
          have hvl := hvs_le S'.wh S'.wd k
          have e2 := hT (S ^^^ k) (by omega)
          have e4 := hTb (S ^^^ k)
          have e5 := and_not S (by omega) k (by omega) hk
          have hx : S ^^^ k < 128 := by omega
          by_cases c2 : popc k ≤ 4
          · have c2' : ¬ 4 < popc k := by omega
            by_cases c3 : hp H < hvs H D k
            · have fk : fr T (hvs H D) (hp H) S k = 1 + T (S ^^^ k) := by unfold fr; rw [if_pos ⟨hk, q, c2, c3⟩]
              by_cases c4 : 1 + T (S ^^^ k) ≤ best
              · refine ⟨(k - 1) &&& S, _, hn, ?_, best, some (.int (ii (1 + T (S ^^^ k)))), rfl, hnx, by rw [← hm', fk]; omega, hb⟩
                conv => lhs; simp (disch := first | omega | exact ak27 | exact ak29 | exact ak20 | exact ak21 | exact ak22 | exact ak23 | exact ak24 | exact ak25 | exact ak28 | exact ak30 | exact ak31 | exact ak32 | exact ak33 | exact b2_01 _ | exact ii0_01 | exact ii1_01 | (simp (disch := omega) only [z1, z9, z10, z11, z12, z13, z22, z23, z24, z25, z26, z29, z30, z31, z38, z39, z40, z41, z42, z44, z45, z46, z47, z49, n1, dr_some, Option.isSome_some, gR_wI, Nat.add_mul_mod_self_left, Nat.reduceMod, ak20, ak21, ak22, ak23, ak24, ak25, ak26, ak27, ak28, ak29, ak30, ak31, ak32, ak33, ak34, ak35, ak36, an20, an21, an22, an23, an24, an25, an26, an27, an28, an29, an30, an31, an32, an33, an34, an35, an36, an37, an38, ne_eq, inR_ii, decide_eq_true_eq, lit_ii, of_ii, ii_eq, ii_lt, ii_le, ii_add, ii_mul, ii_sub, ii_pred, ii_nat]; first | done | omega)) only [z1, z9, z10, z11, z12, z13, z22, z23, z24, z25, z26, z29, z30, z31, z38, z39, z40, z41, z42, z44, z45, z46, z47, z49, n1, b_Mo_rides_25, q', dr_some, Option.isSome_some, gR_wI, Nat.add_mul_mod_self_left, Nat.reduceMod, ak20, ak21, ak22, ak23, ak24, ak25, ak26, ak27, ak28, ak29, ak30, ak31, ak32, ak33, ak34, ak35, ak36, an20, an21, an22, an23, an24, an25, an26, an27, an28, an29, an30, an31, an32, an33, an34, an35, an36, an37, an38, ↓reduceIte, bk_int, bk_void, bk_long, bkN_int, bkN_void, bkN_long, Nat.reduceAdd, Nat.reduceMul, Nat.reduceSub, Nat.reduceLT, Nat.reduceLeDiff, if_true, if_false, not_true_eq_false, not_false_eq_true, Bool.true_eq_false, Bool.false_eq_true, b2_eq0, Nat.add_zero, Nat.zero_add, Nat.not_lt_zero, Nat.zero_le, ite_true, ite_false, decide_true, decide_false, lit_ii, of_ii, le_T, le_F, lt_T, lt_F, eq_T, eq_F, ii_add, ii_mul, ii_nat, ii_le, ii_lt, ii_eq, inR_ii, ii_add0]
                simp (disch := first | omega | exact ak27 | exact ak29 | exact ak20 | exact ak21 | exact ak22 | exact ak23 | exact ak24 | exact ak25 | exact ak28 | exact ak30 | exact ak31 | exact ak32 | exact ak33 | exact b2_01 _ | exact ii0_01 | exact ii1_01 | (simp (disch := omega) only [z1, z9, z10, z11, z12, z13, z22, z23, z24, z25, z26, z29, z30, z31, z38, z39, z40, z41, z42, z44, z45, z46, z47, z49, n1, n2, e2, b4, e5, dr_some, Option.isSome_some, gR_wI, Nat.add_mul_mod_self_left, Nat.reduceMod, ak20, ak21, ak22, ak23, ak24, ak25, ak26, ak27, ak28, ak29, ak30, ak31, ak32, ak33, ak34, ak35, ak36, an20, an21, an22, an23, an24, an25, an26, an27, an28, an29, an30, an31, an32, an33, an34, an35, an36, an37, an38, ne_eq, inR_ii, decide_eq_true_eq, lit_ii, of_ii, ii_eq, ii_lt, ii_le, ii_add, ii_mul, ii_sub, ii_pred, ii_nat]; first | done | omega)) only [z1, z9, z10, z11, z12, z13, z22, z23, z24, z25, z26, z29, z30, z31, z38, z39, z40, z41, z42, z44, z45, z46, z47, z49, n1, n2, e2, b4, e5, e_Mo_rides, b_Mo_rides_0, b_Mo_rides_9, b_Mo_rides_11, b_Mo_rides_21, b_Mo_rides_29, b_Mo_rides_33, b_Mo_rides_37, b_Mo_rides_42, b_Mo_rides_49, b_Mo_rides_52, b_Mo_rides_72, b_Mo_rides_77, b_Mo_rides_78, b_Mo_rides_79, b_Mo_rides_88, b_Mo_rides_101, c2', c3, c4, ii_sub, ii_and, dr_some, Option.isSome_some, gR_wI, Nat.add_mul_mod_self_left, Nat.reduceMod, ak20, ak21, ak22, ak23, ak24, ak25, ak26, ak27, ak28, ak29, ak30, ak31, ak32, ak33, ak34, ak35, ak36, an20, an21, an22, an23, an24, an25, an26, an27, an28, an29, an30, an31, an32, an33, an34, an35, an36, an37, an38, ↓reduceIte, bk_int, bk_void, bk_long, bkN_int, bkN_void, bkN_long, Nat.reduceAdd, Nat.reduceMul, Nat.reduceSub, Nat.reduceLT, Nat.reduceLeDiff, if_true, if_false, not_true_eq_false, not_false_eq_true, Bool.true_eq_false, Bool.false_eq_true, b2_eq0, Nat.add_zero, Nat.zero_add, Nat.not_lt_zero, Nat.zero_le, ite_true, ite_false, decide_true, decide_false, lit_ii, of_ii, le_T, le_F, lt_T, lt_F, eq_T, eq_F, ii_add, ii_mul, ii_nat, ii_le, ii_lt, ii_eq, inR_ii, ii_add0]
              · refine ⟨(k - 1) &&& S, _, hn, ?_, 1 + T (S ^^^ k), some (.int (ii (1 + T (S ^^^ k)))), rfl, hnx, by rw [← hm', fk]; omega, by omega⟩
                conv => lhs; simp (disch := first | omega | exact ak27 | exact ak29 | exact ak20 | exact ak21 | exact ak22 | exact ak23 | exact ak24 | exact ak25 | exact ak28 | exact ak30 | exact ak31 | exact ak32 | exact ak33 | exact b2_01 _ | exact ii0_01 | exact ii1_01 | (simp (disch := omega) only [z1, z9, z10, z11, z12, z13, z22, z23, z24, z25, z26, z29, z30, z31, z38, z39, z40, z41, z42, z44, z45, z46, z47, z49, n1, dr_some, Option.isSome_some, gR_wI, Nat.add_mul_mod_self_left, Nat.reduceMod, ak20, ak21, ak22, ak23, ak24, ak25, ak26, ak27, ak28, ak29, ak30, ak31, ak32, ak33, ak34, ak35, ak36, an20, an21, an22, an23, an24, an25, an26, an27, an28, an29, an30, an31, an32, an33, an34, an35, an36, an37, an38, ne_eq, inR_ii, decide_eq_true_eq, lit_ii, of_ii, ii_eq, ii_lt, ii_le, ii_add, ii_mul, ii_sub, ii_pred, ii_nat]; first | done | omega)) only [z1, z9, z10, z11, z12, z13, z22, z23, z24, z25, z26, z29, z30, z31, z38, z39, z40, z41, z42, z44, z45, z46, z47, z49, n1, b_Mo_rides_25, q', dr_some, Option.isSome_some, gR_wI, Nat.add_mul_mod_self_left, Nat.reduceMod, ak20, ak21, ak22, ak23, ak24, ak25, ak26, ak27, ak28, ak29, ak30, ak31, ak32, ak33, ak34, ak35, ak36, an20, an21, an22, an23, an24, an25, an26, an27, an28, an29, an30, an31, an32, an33, an34, an35, an36, an37, an38, ↓reduceIte, bk_int, bk_void, bk_long, bkN_int, bkN_void, bkN_long, Nat.reduceAdd, Nat.reduceMul, Nat.reduceSub, Nat.reduceLT, Nat.reduceLeDiff, if_true, if_false, not_true_eq_false, not_false_eq_true, Bool.true_eq_false, Bool.false_eq_true, b2_eq0, Nat.add_zero, Nat.zero_add, Nat.not_lt_zero, Nat.zero_le, ite_true, ite_false, decide_true, decide_false, lit_ii, of_ii, le_T, le_F, lt_T, lt_F, eq_T, eq_F, ii_add, ii_mul, ii_nat, ii_le, ii_lt, ii_eq, inR_ii, ii_add0]
                simp (disch := first | omega | exact ak27 | exact ak29 | exact ak20 | exact ak21 | exact ak22 | exact ak23 | exact ak24 | exact ak25 | exact ak28 | exact ak30 | exact ak31 | exact ak32 | exact ak33 | exact b2_01 _ | exact ii0_01 | exact ii1_01 | (simp (disch := omega) only [z1, z9, z10, z11, z12, z13, z22, z23, z24, z25, z26, z29, z30, z31, z38, z39, z40, z41, z42, z44, z45, z46, z47, z49, n1, n2, e2, b4, e5, dr_some, Option.isSome_some, gR_wI, Nat.add_mul_mod_self_left, Nat.reduceMod, ak20, ak21, ak22, ak23, ak24, ak25, ak26, ak27, ak28, ak29, ak30, ak31, ak32, ak33, ak34, ak35, ak36, an20, an21, an22, an23, an24, an25, an26, an27, an28, an29, an30, an31, an32, an33, an34, an35, an36, an37, an38, ne_eq, inR_ii, decide_eq_true_eq, lit_ii, of_ii, ii_eq, ii_lt, ii_le, ii_add, ii_mul, ii_sub, ii_pred, ii_nat]; first | done | omega)) only [z1, z9, z10, z11, z12, z13, z22, z23, z24, z25, z26, z29, z30, z31, z38, z39, z40, z41, z42, z44, z45, z46, z47, z49, n1, n2, e2, b4, e5, e_Mo_rides, b_Mo_rides_0, b_Mo_rides_9, b_Mo_rides_11, b_Mo_rides_21, b_Mo_rides_29, b_Mo_rides_33, b_Mo_rides_37, b_Mo_rides_42, b_Mo_rides_49, b_Mo_rides_52, b_Mo_rides_72, b_Mo_rides_77, b_Mo_rides_78, b_Mo_rides_79, b_Mo_rides_88, b_Mo_rides_101, c2', c3, c4, ii_sub, ii_and, dr_some, Option.isSome_some, gR_wI, Nat.add_mul_mod_self_left, Nat.reduceMod, ak20, ak21, ak22, ak23, ak24, ak25, ak26, ak27, ak28, ak29, ak30, ak31, ak32, ak33, ak34, ak35, ak36, an20, an21, an22, an23, an24, an25, an26, an27, an28, an29, an30, an31, an32, an33, an34, an35, an36, an37, an38, ↓reduceIte, bk_int, bk_void, bk_long, bkN_int, bkN_void, bkN_long, Nat.reduceAdd, Nat.reduceMul, Nat.reduceSub, Nat.reduceLT, Nat.reduceLeDiff, if_true, if_false, not_true_eq_false, not_false_eq_true, Bool.true_eq_false, Bool.false_eq_true, b2_eq0, Nat.add_zero, Nat.zero_add, Nat.not_lt_zero, Nat.zero_le, ite_true, ite_false, decide_true, decide_false, lit_ii, of_ii, le_T, le_F, lt_T, lt_F, eq_T, eq_F, ii_add, ii_mul, ii_nat, ii_le, ii_lt, ii_eq, inR_ii, ii_add0]
            · refine ⟨(k - 1) &&& S, _, hn, ?_, best, l4, rfl, hnx, ?_, hb⟩
              · conv => lhs; simp (disch := first | omega | exact ak27 | exact ak29 | exact ak20 | exact ak21 | exact ak22 | exact ak23 | exact ak24 | exact ak25 | exact ak28 | exact ak30 | exact ak31 | exact ak32 | exact ak33 | exact b2_01 _ | exact ii0_01 | exact ii1_01 | (simp (disch := omega) only [z1, z9, z10, z11, z12, z13, z22, z23, z24, z25, z26, z29, z30, z31, z38, z39, z40, z41, z42, z44, z45, z46, z47, z49, n1, dr_some, Option.isSome_some, gR_wI, Nat.add_mul_mod_self_left, Nat.reduceMod, ak20, ak21, ak22, ak23, ak24, ak25, ak26, ak27, ak28, ak29, ak30, ak31, ak32, ak33, ak34, ak35, ak36, an20, an21, an22, an23, an24, an25, an26, an27, an28, an29, an30, an31, an32, an33, an34, an35, an36, an37, an38, ne_eq, inR_ii, decide_eq_true_eq, lit_ii, of_ii, ii_eq, ii_lt, ii_le, ii_add, ii_mul, ii_sub, ii_pred, ii_nat]; first | done | omega)) only [z1, z9, z10, z11, z12, z13, z22, z23, z24, z25, z26, z29, z30, z31, z38, z39, z40, z41, z42, z44, z45, z46, z47, z49, n1, b_Mo_rides_25, q', dr_some, Option.isSome_some, gR_wI, Nat.add_mul_mod_self_left, Nat.reduceMod, ak20, ak21, ak22, ak23, ak24, ak25, ak26, ak27, ak28, ak29, ak30, ak31, ak32, ak33, ak34, ak35, ak36, an20, an21, an22, an23, an24, an25, an26, an27, an28, an29, an30, an31, an32, an33, an34, an35, an36, an37, an38, ↓reduceIte, bk_int, bk_void, bk_long, bkN_int, bkN_void, bkN_long, Nat.reduceAdd, Nat.reduceMul, Nat.reduceSub, Nat.reduceLT, Nat.reduceLeDiff, if_true, if_false, not_true_eq_false, not_false_eq_true, Bool.true_eq_false, Bool.false_eq_true, b2_eq0, Nat.add_zero, Nat.zero_add, Nat.not_lt_zero, Nat.zero_le, ite_true, ite_false, decide_true, decide_false, lit_ii, of_ii, le_T, le_F, lt_T, lt_F, eq_T, eq_F, ii_add, ii_mul, ii_nat, ii_le, ii_lt, ii_eq, inR_ii, ii_add0]
                simp (disch := first | omega | exact ak27 | exact ak29 | exact ak20 | exact ak21 | exact ak22 | exact ak23 | exact ak24 | exact ak25 | exact ak28 | exact ak30 | exact ak31 | exact ak32 | exact ak33 | exact b2_01 _ | exact ii0_01 | exact ii1_01 | (simp (disch := omega) only [z1, z9, z10, z11, z12, z13, z22, z23, z24, z25, z26, z29, z30, z31, z38, z39, z40, z41, z42, z44, z45, z46, z47, z49, n1, n2, b4, dr_some, Option.isSome_some, gR_wI, Nat.add_mul_mod_self_left, Nat.reduceMod, ak20, ak21, ak22, ak23, ak24, ak25, ak26, ak27, ak28, ak29, ak30, ak31, ak32, ak33, ak34, ak35, ak36, an20, an21, an22, an23, an24, an25, an26, an27, an28, an29, an30, an31, an32, an33, an34, an35, an36, an37, an38, ne_eq, inR_ii, decide_eq_true_eq, lit_ii, of_ii, ii_eq, ii_lt, ii_le, ii_add, ii_mul, ii_sub, ii_pred, ii_nat]; first | done | omega)) only [z1, z9, z10, z11, z12, z13, z22, z23, z24, z25, z26, z29, z30, z31, z38, z39, z40, z41, z42, z44, z45, z46, z47, z49, n1, n2, b4, e_Mo_rides, b_Mo_rides_0, b_Mo_rides_9, b_Mo_rides_11, b_Mo_rides_21, b_Mo_rides_29, b_Mo_rides_33, b_Mo_rides_37, b_Mo_rides_42, b_Mo_rides_49, b_Mo_rides_52, b_Mo_rides_72, b_Mo_rides_77, b_Mo_rides_78, b_Mo_rides_79, b_Mo_rides_88, b_Mo_rides_101, c2', c3, ii_sub, ii_and, dr_some, Option.isSome_some, gR_wI, Nat.add_mul_mod_self_left, Nat.reduceMod, ak20, ak21, ak22, ak23, ak24, ak25, ak26, ak27, ak28, ak29, ak30, ak31, ak32, ak33, ak34, ak35, ak36, an20, an21, an22, an23, an24, an25, an26, an27, an28, an29, an30, an31, an32, an33, an34, an35, an36, an37, an38, ↓reduceIte, bk_int, bk_void, bk_long, bkN_int, bkN_void, bkN_long, Nat.reduceAdd, Nat.reduceMul, Nat.reduceSub, Nat.reduceLT, Nat.reduceLeDiff, if_true, if_false, not_true_eq_false, not_false_eq_true, Bool.true_eq_false, Bool.false_eq_true, b2_eq0, Nat.add_zero, Nat.zero_add, Nat.not_lt_zero, Nat.zero_le, ite_true, ite_false, decide_true, decide_false, lit_ii, of_ii, le_T, le_F, lt_T, lt_F, eq_T, eq_F, ii_add, ii_mul, ii_nat, ii_le, ii_lt, ii_eq, inR_ii, ii_add0]
              · rw [← hm', show fr T (hvs H D) (hp H) S k = 0 from by unfold fr; rw [if_neg (fun z => c3 z.2.2.2)], Nat.max_zero]
          · have c2' : 4 < popc k := by omega
            refine ⟨(k - 1) &&& S, _, hn, ?_, best, l4, rfl, hnx, ?_, hb⟩
            · conv => lhs; simp (disch := first | omega | exact ak27 | exact ak29 | exact ak20 | exact ak21 | exact ak22 | exact ak23 | exact ak24 | exact ak25 | exact ak28 | exact ak30 | exact ak31 | exact ak32 | exact ak33 | exact b2_01 _ | exact ii0_01 | exact ii1_01 | (simp (disch := omega) only [z1, z9, z10, z11, z12, z13, z22, z23, z24, z25, z26, z29, z30, z31, z38, z39, z40, z41, z42, z44, z45, z46, z47, z49, n1, dr_some, Option.isSome_some, gR_wI, Nat.add_mul_mod_self_left, Nat.reduceMod, ak20, ak21, ak22, ak23, ak24, ak25, ak26, ak27, ak28, ak29, ak30, ak31, ak32, ak33, ak34, ak35, ak36, an20, an21, an22, an23, an24, an25, an26, an27, an28, an29, an30, an31, an32, an33, an34, an35, an36, an37, an38, ne_eq, inR_ii, decide_eq_true_eq, lit_ii, of_ii, ii_eq, ii_lt, ii_le, ii_add, ii_mul, ii_sub, ii_pred, ii_nat]; first | done | omega)) only [z1, z9, z10, z11, z12, z13, z22, z23, z24, z25, z26, z29, z30, z31, z38, z39, z40, z41, z42, z44, z45, z46, z47, z49, n1, b_Mo_rides_25, q', dr_some, Option.isSome_some, gR_wI, Nat.add_mul_mod_self_left, Nat.reduceMod, ak20, ak21, ak22, ak23, ak24, ak25, ak26, ak27, ak28, ak29, ak30, ak31, ak32, ak33, ak34, ak35, ak36, an20, an21, an22, an23, an24, an25, an26, an27, an28, an29, an30, an31, an32, an33, an34, an35, an36, an37, an38, ↓reduceIte, bk_int, bk_void, bk_long, bkN_int, bkN_void, bkN_long, Nat.reduceAdd, Nat.reduceMul, Nat.reduceSub, Nat.reduceLT, Nat.reduceLeDiff, if_true, if_false, not_true_eq_false, not_false_eq_true, Bool.true_eq_false, Bool.false_eq_true, b2_eq0, Nat.add_zero, Nat.zero_add, Nat.not_lt_zero, Nat.zero_le, ite_true, ite_false, decide_true, decide_false, lit_ii, of_ii, le_T, le_F, lt_T, lt_F, eq_T, eq_F, ii_add, ii_mul, ii_nat, ii_le, ii_lt, ii_eq, inR_ii, ii_add0]
              simp (disch := first | omega | exact ak27 | exact ak29 | exact ak20 | exact ak21 | exact ak22 | exact ak23 | exact ak24 | exact ak25 | exact ak28 | exact ak30 | exact ak31 | exact ak32 | exact ak33 | exact b2_01 _ | exact ii0_01 | exact ii1_01 | (simp (disch := omega) only [z1, z9, z10, z11, z12, z13, z22, z23, z24, z25, z26, z29, z30, z31, z38, z39, z40, z41, z42, z44, z45, z46, z47, z49, n1, dr_some, Option.isSome_some, gR_wI, Nat.add_mul_mod_self_left, Nat.reduceMod, ak20, ak21, ak22, ak23, ak24, ak25, ak26, ak27, ak28, ak29, ak30, ak31, ak32, ak33, ak34, ak35, ak36, an20, an21, an22, an23, an24, an25, an26, an27, an28, an29, an30, an31, an32, an33, an34, an35, an36, an37, an38, ne_eq, inR_ii, decide_eq_true_eq, lit_ii, of_ii, ii_eq, ii_lt, ii_le, ii_add, ii_mul, ii_sub, ii_pred, ii_nat]; first | done | omega)) only [z1, z9, z10, z11, z12, z13, z22, z23, z24, z25, z26, z29, z30, z31, z38, z39, z40, z41, z42, z44, z45, z46, z47, z49, n1, e_Mo_rides, b_Mo_rides_0, b_Mo_rides_9, b_Mo_rides_11, b_Mo_rides_21, b_Mo_rides_29, b_Mo_rides_33, b_Mo_rides_37, b_Mo_rides_42, b_Mo_rides_49, b_Mo_rides_52, b_Mo_rides_72, b_Mo_rides_77, b_Mo_rides_78, b_Mo_rides_79, b_Mo_rides_88, b_Mo_rides_101, c2', ii_sub, ii_and, dr_some, Option.isSome_some, gR_wI, Nat.add_mul_mod_self_left, Nat.reduceMod, ak20, ak21, ak22, ak23, ak24, ak25, ak26, ak27, ak28, ak29, ak30, ak31, ak32, ak33, ak34, ak35, ak36, an20, an21, an22, an23, an24, an25, an26, an27, an28, an29, an30, an31, an32, an33, an34, an35, an36, an37, an38, ↓reduceIte, bk_int, bk_void, bk_long, bkN_int, bkN_void, bkN_long, Nat.reduceAdd, Nat.reduceMul, Nat.reduceSub, Nat.reduceLT, Nat.reduceLeDiff, if_true, if_false, not_true_eq_false, not_false_eq_true, Bool.true_eq_false, Bool.false_eq_true, b2_eq0, Nat.add_zero, Nat.zero_add, Nat.not_lt_zero, Nat.zero_le, ite_true, ite_false, decide_true, decide_false, lit_ii, of_ii, le_T, le_F, lt_T, lt_F, eq_T, eq_F, ii_add, ii_mul, ii_nat, ii_le, ii_lt, ii_eq, inR_ii, ii_add0]
            · rw [← hm', show fr T (hvs H D) (hp H) S k = 0 from by unfold fr; rw [if_neg (fun z => c2 z.2.2.1)], Nat.max_zero]
      obtain ⟨l3', l4', ec⟩ := ec
      refine ⟨_, ?_, wI σ' 5340 S (ii (mxo (fr T (hvs H D) (hp H) S) (S + 1))), some (.int (ii (mxo (fr T (hvs H D) (hp H) S) (S + 1)))), l3', l4', rfl, F.w rfl, fun P hP => ?_⟩
      · rw [eb, ec]
        conv => lhs; simp (disch := first | omega | exact ak27 | exact ak29 | exact ak20 | exact ak21 | exact ak22 | exact ak23 | exact ak24 | exact ak25 | exact ak28 | exact ak30 | exact ak31 | exact ak32 | exact ak33 | exact b2_01 _ | exact ii0_01 | exact ii1_01 | (simp (disch := omega) only [z1, z9, z10, z11, z12, z13, z22, z23, z24, z25, z26, z29, z30, z31, z38, z39, z40, z41, z42, z44, z45, z46, z47, z49, b1, dr_some, Option.isSome_some, gR_wI, Nat.add_mul_mod_self_left, Nat.reduceMod, ak20, ak21, ak22, ak23, ak24, ak25, ak26, ak27, ak28, ak29, ak30, ak31, ak32, ak33, ak34, ak35, ak36, an20, an21, an22, an23, an24, an25, an26, an27, an28, an29, an30, an31, an32, an33, an34, an35, an36, an37, an38, ne_eq, inR_ii, decide_eq_true_eq, lit_ii, of_ii, ii_eq, ii_lt, ii_le, ii_add, ii_mul, ii_sub, ii_pred, ii_nat]; first | done | omega)) only [z1, z9, z10, z11, z12, z13, z22, z23, z24, z25, z26, z29, z30, z31, z38, z39, z40, z41, z42, z44, z45, z46, z47, z49, b1, b_Mo_rides_88, dr_some, Option.isSome_some, gR_wI, Nat.add_mul_mod_self_left, Nat.reduceMod, ak20, ak21, ak22, ak23, ak24, ak25, ak26, ak27, ak28, ak29, ak30, ak31, ak32, ak33, ak34, ak35, ak36, an20, an21, an22, an23, an24, an25, an26, an27, an28, an29, an30, an31, an32, an33, an34, an35, an36, an37, an38, ↓reduceIte, bk_int, bk_void, bk_long, bkN_int, bkN_void, bkN_long, Nat.reduceAdd, Nat.reduceMul, Nat.reduceSub, Nat.reduceLT, Nat.reduceLeDiff, if_true, if_false, not_true_eq_false, not_false_eq_true, Bool.true_eq_false, Bool.false_eq_true, b2_eq0, Nat.add_zero, Nat.zero_add, Nat.not_lt_zero, Nat.zero_le, ite_true, ite_false, decide_true, decide_false, lit_ii, of_ii, le_T, le_F, lt_T, lt_F, eq_T, eq_F, ii_add, ii_mul, ii_nat, ii_le, ii_lt, ii_eq, inR_ii, ii_add0]
      · rw [gI_row]
        by_cases q : P = S
        · rw [if_pos q, q, up1_at]
        · rw [if_neg q, up1_ne q]
          exact hT P (by omega)
    · rintro c ⟨σ', l2, l3, l4, rfl, F, hT⟩
      have S' := S1.fs F (fun a z => by omega)
      have a := S'.mr
      obtain ⟨z1, z9, z10, z11, z12, z13, z22, z23, z24, z25, z26, z29, z30, z31, z38, z39, z40, z41, z42, z44, z45, z46, z47, z49⟩ := id a
      have b1 := S'.mh.1
      have e2 := hT (2 ^ hm H - 1) (by omega)
      have es : ii (2 ^ hm H) - ii 1 = ii (2 ^ hm H - 1) := ii_sub (by omega)
      refine ⟨σ', ?_, F⟩
      simp (disch := first | omega | exact ak27 | exact ak29 | exact ak20 | exact ak21 | exact ak22 | exact ak23 | exact ak24 | exact ak25 | exact ak28 | exact ak30 | exact ak31 | exact ak32 | exact ak33 | exact b2_01 _ | exact ii0_01 | exact ii1_01 | (simp (disch := omega) only [z1, z9, z10, z11, z12, z13, z22, z23, z24, z25, z26, z29, z30, z31, z38, z39, z40, z41, z42, z44, z45, z46, z47, z49, b1, sh, es, e2, dr_some, Option.isSome_some, gR_wI, Nat.add_mul_mod_self_left, Nat.reduceMod, ak20, ak21, ak22, ak23, ak24, ak25, ak26, ak27, ak28, ak29, ak30, ak31, ak32, ak33, ak34, ak35, ak36, an20, an21, an22, an23, an24, an25, an26, an27, an28, an29, an30, an31, an32, an33, an34, an35, an36, an37, an38, ne_eq, inR_ii, decide_eq_true_eq, lit_ii, of_ii, ii_eq, ii_lt, ii_le, ii_add, ii_mul, ii_sub, ii_pred, ii_nat]; first | done | omega)) only [z1, z9, z10, z11, z12, z13, z22, z23, z24, z25, z26, z29, z30, z31, z38, z39, z40, z41, z42, z44, z45, z46, z47, z49, b1, sh, es, e2, b_Mo_rides_11, b_Mo_rides_101, Nat.le_refl, dr_some, Option.isSome_some, gR_wI, Nat.add_mul_mod_self_left, Nat.reduceMod, ak20, ak21, ak22, ak23, ak24, ak25, ak26, ak27, ak28, ak29, ak30, ak31, ak32, ak33, ak34, ak35, ak36, an20, an21, an22, an23, an24, an25, an26, an27, an28, an29, an30, an31, an32, an33, an34, an35, an36, an37, an38, ↓reduceIte, bk_int, bk_void, bk_long, bkN_int, bkN_void, bkN_long, Nat.reduceAdd, Nat.reduceMul, Nat.reduceSub, Nat.reduceLT, Nat.reduceLeDiff, if_true, if_false, not_true_eq_false, not_false_eq_true, Bool.true_eq_false, Bool.false_eq_true, b2_eq0, Nat.add_zero, Nat.zero_add, Nat.not_lt_zero, Nat.zero_le, ite_true, ite_false, decide_true, decide_false, lit_ii, of_ii, le_T, le_F, lt_T, lt_F, eq_T, eq_F, ii_add, ii_mul, ii_nat, ii_le, ii_lt, ii_eq, inR_ii, ii_add0]
  obtain ⟨σ', e, F⟩ := key
  exact A.rd (F1.tr (F.fm (fun a j z => by unfold Msc; omega))) ((F.I (by omega)).trans h1) e
