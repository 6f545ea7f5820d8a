/-! runs of bytes -/
def rnF (P : Nat → Bool) (n : Nat) : Nat → Nat → Nat
  | 0, p => p
  | f + 1, p => if p < n ∧ P p = true then rnF P n f (p + 1) else p
def rn (P : Nat → Bool) (n p : Nat) : Nat := rnF P n (n - p) p
theorem rn_step {P : Nat → Bool} {n p : Nat} (h1 : p < n) (h2 : P p = true) : rn P n p = rn P n (p + 1) := by
  unfold rn
  rw [show n - p = (n - (p + 1)) + 1 by omega, rnF, if_pos ⟨h1, h2⟩]
theorem rn_stop {P : Nat → Bool} {n p : Nat} (h : ¬ (p < n ∧ P p = true)) : rn P n p = p := by
  unfold rn
  cases hf : n - p with
  | zero => rfl
  | succ k => rw [rnF, if_neg h]
theorem rnF_all {P : Nat → Bool} {n : Nat} : ∀ f p, p ≤ n → n - p ≤ f → p ≤ rnF P n f p ∧ rnF P n f p ≤ n ∧ (∀ i, p ≤ i → i < rnF P n f p → P i = true) ∧ ¬ (rnF P n f p < n ∧ P (rnF P n f p) = true) := by
  intro f
  induction f with
  | zero =>
    intro p h1 h2
    unfold rnF
    exact ⟨Nat.le_refl _, h1, fun i a b => by omega, fun z => by omega⟩
  | succ f ih =>
    intro p h1 h2
    unfold rnF
    by_cases q : p < n ∧ P p = true
    · rw [if_pos q]
      obtain ⟨a1, a2, a3, a4⟩ := ih (p + 1) (by omega) (by omega)
      refine ⟨by omega, a2, fun i x y => ?_, a4⟩
      by_cases z : i = p
      · rw [z]; exact q.2
      · exact a3 i (by omega) y
    · rw [if_neg q]
      exact ⟨Nat.le_refl _, h1, fun i a b => by omega, q⟩
theorem rn_ge {P : Nat → Bool} {n p : Nat} (h : p ≤ n) : p ≤ rn P n p := (rnF_all _ p h (Nat.le_refl _)).1
theorem rn_le {P : Nat → Bool} {n p : Nat} (h : p ≤ n) : rn P n p ≤ n := (rnF_all _ p h (Nat.le_refl _)).2.1
theorem rn_in {P : Nat → Bool} {n p i : Nat} (h : p ≤ n) (h1 : p ≤ i) (h2 : i < rn P n p) : P i = true := (rnF_all _ p h (Nat.le_refl _)).2.2.1 i h1 h2
theorem rn_end {P : Nat → Bool} {n p : Nat} (h : p ≤ n) : ¬ (rn P n p < n ∧ P (rn P n p) = true) := (rnF_all _ p h (Nat.le_refl _)).2.2.2
theorem rn_rn {P : Nat → Bool} {n p : Nat} (h : p ≤ n) : rn P n (rn P n p) = rn P n p := rn_stop (rn_end h)
def isB (T : Nat → Nat) (i : Nat) : Bool := decide (T i = 32)
def isD (T : Nat → Nat) (i : Nat) : Bool := decide (48 ≤ T i ∧ T i ≤ 57)
def isL (T : Nat → Nat) (i : Nat) : Bool := decide (97 ≤ T i ∧ T i ≤ 122)
/-- behind the blanks -/
def sk (T : Nat → Nat) (n p : Nat) : Nat := rn (isB T) n p
def dgE (T : Nat → Nat) (n p : Nat) : Nat := rn (isD T) n p
def ltE (T : Nat → Nat) (n p : Nat) : Nat := rn (isL T) n p
def dvF (T : Nat → Nat) (q : Nat) : Nat → Nat
  | 0 => 0
  | k + 1 => dvF T q k * 10 + (T (q + k) - 48)
def bt (T : Nat → Nat) (n i : Nat) : Int32 := if i < n then ii (T i) else -ii 1
/-! THE CLASS: its reader -/
abbrev FA : Type := Option (Nat × Nat)
def fk (f : FA) : Int32 := match f with
  | none => ii 0
  | some (k, _) => ii k
def fp (f : FA) : Int32 := match f with
  | none => -ii 1
  | some (_, q) => ii q
/-- the first fault stays -/
def blm (f g : FA) : FA := match f with
  | none => g
  | some x => some x
def okF (f : FA) : Prop := ∀ k q, f = some (k, q) → 1 ≤ k ∧ k ≤ 3 ∧ q ≤ 600
def TA (σ : HP) (T : Nat → Nat) : Prop := ∀ i, i < 600 → gI σ 164 i &&& ii 255 = ii (T i) ∧ T i < 256
def RS (σ : HP) (T : Nat → Nat) (n p : Nat) (f : FA) (u : Nat) : Prop := gR σ 71 0 = some 164 ∧ gI σ 71 1 = ii n ∧ gI σ 71 2 = ii p ∧ gI σ 71 3 = fk f ∧ gI σ 71 4 = fp f ∧ gI σ 71 5 = ii u ∧ p ≤ n ∧ n ≤ 600 ∧ u ≤ 600 ∧ TA σ T ∧ okF f
def S1 (a : Nat) : Prop := a = 71
theorem TA.fs {S : Nat → Prop} {σ σ' : HP} {T : Nat → Nat} (A : TA σ T) (F : Fs S σ σ') (h : ¬ S 164) : TA σ' T := fun i hi => by
  rw [F.I h]
  exact A i hi
theorem RS.fs {S : Nat → Prop} {σ σ' : HP} {T : Nat → Nat} {n p u : Nat} {f : FA} (A : RS σ T n p f u) (F : Fs S σ σ') (h : ¬ S 164) (h' : ¬ S 71) : RS σ' T n p f u := by
  obtain ⟨a0, a1, a2, a3, a4, a5, b1, b2, b3, b4, b5⟩ := A
  exact ⟨(F.R _ _).trans a0, (F.I h').trans a1, (F.I h').trans a2, (F.I h').trans a3, (F.I h').trans a4, (F.I h').trans a5, b1, b2, b3, b4.fs F h, b5⟩
theorem RS.pl {σ : HP} {T : Nat → Nat} {n p p' u : Nat} {f : FA} (A : RS σ T n p f u) (h : p' ≤ n) : RS (wI σ 71 2 (ii p')) T n p' f u := by
  obtain ⟨a0, a1, a2, a3, a4, a5, b1, b2, b3, b4, b5⟩ := A
  exact ⟨a0, (gI_nj (by decide)).trans a1, gI_at, (gI_nj (by decide)).trans a3, (gI_nj (by decide)).trans a4, (gI_nj (by decide)).trans a5, h, b2, b3, b4.fs (S := S1) (Fs.w Fs.rf rfl) (by unfold S1; omega), b5⟩
theorem RS.wf {σ : HP} {T : Nat → Nat} {n p u u' : Nat} {f : FA} (A : RS σ T n p f u) (h : u' ≤ 600) : RS (wI σ 71 5 (ii u')) T n p f u' := by
  obtain ⟨a0, a1, a2, a3, a4, a5, b1, b2, b3, b4, b5⟩ := A
  exact ⟨a0, (gI_nj (by decide)).trans a1, (gI_nj (by decide)).trans a2, (gI_nj (by decide)).trans a3, (gI_nj (by decide)).trans a4, gI_at, b1, b2, h, b4.fs (S := S1) (Fs.w Fs.rf rfl) (by unfold S1; omega), b5⟩
theorem s_byteAt {d i : Nat} {T : Nat → Nat} {n p u : Nat} {f : FA} {σ : HP} (A : RS σ T n p f u) (hi : i < 2147483648) : callF (d + 1) m_Reader_byteAt [.ref 71, .int (ii i)] σ = some (.inl (some (.int (if i < n then ii (T i) else -ii 1))), σ) := by
  obtain ⟨a0, a1, a2, a3, a4, a5, b1, b2, b3, b4, b5⟩ := A
  by_cases q : i < n
  · have e1 := (b4 i (by omega)).1
    simp (disch := first | omega | exact b2_01 _ | exact ii0_01 | exact ii1_01 | (simp (disch := omega) only [a0, a1, dr_some, Option.isSome_some, gR_wI, Nat.add_mul_mod_self_left, Nat.reduceMod, ak20, ak21, ak22, ak23, ak24, ak25, ak26, ak27, ak28, ak29, ak30, ak31, ak32, ak33, ak34, ak35, ak36, an20, an21, an22, an23, an24, an25, an26, an27, an28, an29, an30, an31, an32, an33, an34, an35, an36, an37, an38, ne_eq, inR_ii, decide_eq_true_eq, lit_ii, of_ii, ii_eq, ii_lt, ii_le]; first | done | omega)) only [a0, a1, e_Reader_byteAt, b_Reader_byteAt_0, b_Reader_byteAt_4, b_Reader_byteAt_12, b_Reader_byteAt_21, b_Reader_byteAt_34, b_Reader_byteAt_35, q, e1, dr_some, Option.isSome_some, gR_wI, Nat.add_mul_mod_self_left, Nat.reduceMod, ak20, ak21, ak22, ak23, ak24, ak25, ak26, ak27, ak28, ak29, ak30, ak31, ak32, ak33, ak34, ak35, ak36, an20, an21, an22, an23, an24, an25, an26, an27, an28, an29, an30, an31, an32, an33, an34, an35, an36, an37, an38, ↓reduceIte, bk_int, bk_void, bk_long, bkN_int, bkN_void, bkN_long, Nat.reduceAdd, Nat.reduceMul, Nat.reduceSub, Nat.reduceLT, Nat.reduceLeDiff, if_true, if_false, not_true_eq_false, not_false_eq_true, Bool.true_eq_false, Bool.false_eq_true, b2_eq0, Nat.add_zero, Nat.zero_add, Nat.not_lt_zero, Nat.zero_le, ite_true, ite_false, decide_true, decide_false, lit_ii, of_ii, le_T, le_F, lt_T, lt_F, eq_T, eq_F, ii_add, ii_mul, ii_nat, ii_le, ii_lt, ii_eq, inR_ii, ii_add0]
  · by_cases q2 : i < 2147483648
    · simp (disch := first | omega | exact b2_01 _ | exact ii0_01 | exact ii1_01 | (simp (disch := omega) only [a0, a1, dr_some, Option.isSome_some, gR_wI, Nat.add_mul_mod_self_left, Nat.reduceMod, ak20, ak21, ak22, ak23, ak24, ak25, ak26, ak27, ak28, ak29, ak30, ak31, ak32, ak33, ak34, ak35, ak36, an20, an21, an22, an23, an24, an25, an26, an27, an28, an29, an30, an31, an32, an33, an34, an35, an36, an37, an38, ne_eq, inR_ii, decide_eq_true_eq, lit_ii, of_ii, ii_eq, ii_lt, ii_le]; first | done | omega)) only [a0, a1, e_Reader_byteAt, b_Reader_byteAt_0, b_Reader_byteAt_4, b_Reader_byteAt_12, b_Reader_byteAt_21, b_Reader_byteAt_34, b_Reader_byteAt_35, q, dr_some, Option.isSome_some, gR_wI, Nat.add_mul_mod_self_left, Nat.reduceMod, ak20, ak21, ak22, ak23, ak24, ak25, ak26, ak27, ak28, ak29, ak30, ak31, ak32, ak33, ak34, ak35, ak36, an20, an21, an22, an23, an24, an25, an26, an27, an28, an29, an30, an31, an32, an33, an34, an35, an36, an37, an38, ↓reduceIte, bk_int, bk_void, bk_long, bkN_int, bkN_void, bkN_long, Nat.reduceAdd, Nat.reduceMul, Nat.reduceSub, Nat.reduceLT, Nat.reduceLeDiff, if_true, if_false, not_true_eq_false, not_false_eq_true, Bool.true_eq_false, Bool.false_eq_true, b2_eq0, Nat.add_zero, Nat.zero_add, Nat.not_lt_zero, Nat.zero_le, ite_true, ite_false, decide_true, decide_false, lit_ii, of_ii, le_T, le_F, lt_T, lt_F, eq_T, eq_F, ii_add, ii_mul, ii_nat, ii_le, ii_lt, ii_eq, inR_ii, ii_add0]
    · exact absurd hi (by omega)
theorem s_failed {d : Nat} {T : Nat → Nat} {n p u : Nat} {f : FA} {σ : HP} (A : RS σ T n p f u) : callF (d + 1) m_Reader_failed [.ref 71] σ = some (.inl (some (.int (b2 f.isSome))), σ) := by
  obtain ⟨a0, a1, a2, a3, a4, a5, b1, b2, b3, b4, b5⟩ := A
  cases f with
  | none =>
    simp (disch := first | omega | exact b2_01 _ | exact ii0_01 | exact ii1_01 | (simp (disch := omega) only [a3, dr_some, Option.isSome_some, gR_wI, Nat.add_mul_mod_self_left, Nat.reduceMod, ak20, ak21, ak22, ak23, ak24, ak25, ak26, ak27, ak28, ak29, ak30, ak31, ak32, ak33, ak34, ak35, ak36, an20, an21, an22, an23, an24, an25, an26, an27, an28, an29, an30, an31, an32, an33, an34, an35, an36, an37, an38, ne_eq, inR_ii, decide_eq_true_eq, lit_ii, of_ii, ii_eq, ii_lt, ii_le]; first | done | omega)) only [a3, e_Reader_failed, b_Reader_failed_0, b_Reader_failed_7, b_Reader_failed_11, b_Reader_failed_12, fk, Option.isSome_none, dr_some, Option.isSome_some, gR_wI, Nat.add_mul_mod_self_left, Nat.reduceMod, ak20, ak21, ak22, ak23, ak24, ak25, ak26, ak27, ak28, ak29, ak30, ak31, ak32, ak33, ak34, ak35, ak36, an20, an21, an22, an23, an24, an25, an26, an27, an28, an29, an30, an31, an32, an33, an34, an35, an36, an37, an38, ↓reduceIte, bk_int, bk_void, bk_long, bkN_int, bkN_void, bkN_long, Nat.reduceAdd, Nat.reduceMul, Nat.reduceSub, Nat.reduceLT, Nat.reduceLeDiff, if_true, if_false, not_true_eq_false, not_false_eq_true, Bool.true_eq_false, Bool.false_eq_true, b2_eq0, Nat.add_zero, Nat.zero_add, Nat.not_lt_zero, Nat.zero_le, ite_true, ite_false, decide_true, decide_false, lit_ii, of_ii, le_T, le_F, lt_T, lt_F, eq_T, eq_F, ii_add, ii_mul, ii_nat, ii_le, ii_lt, ii_eq, inR_ii, ii_add0]
    rfl
  | some z =>
    obtain ⟨k, q⟩ := z
    have := b5 k q rfl
    simp (disch := first | omega | exact b2_01 _ | exact ii0_01 | exact ii1_01 | (simp (disch := omega) only [a3, dr_some, Option.isSome_some, gR_wI, Nat.add_mul_mod_self_left, Nat.reduceMod, ak20, ak21, ak22, ak23, ak24, ak25, ak26, ak27, ak28, ak29, ak30, ak31, ak32, ak33, ak34, ak35, ak36, an20, an21, an22, an23, an24, an25, an26, an27, an28, an29, an30, an31, an32, an33, an34, an35, an36, an37, an38, ne_eq, inR_ii, decide_eq_true_eq, lit_ii, of_ii, ii_eq, ii_lt, ii_le]; first | done | omega)) only [a3, e_Reader_failed, b_Reader_failed_0, b_Reader_failed_7, b_Reader_failed_11, b_Reader_failed_12, fk, Option.isSome_some, dr_some, Option.isSome_some, gR_wI, Nat.add_mul_mod_self_left, Nat.reduceMod, ak20, ak21, ak22, ak23, ak24, ak25, ak26, ak27, ak28, ak29, ak30, ak31, ak32, ak33, ak34, ak35, ak36, an20, an21, an22, an23, an24, an25, an26, an27, an28, an29, an30, an31, an32, an33, an34, an35, an36, an37, an38, ↓reduceIte, bk_int, bk_void, bk_long, bkN_int, bkN_void, bkN_long, Nat.reduceAdd, Nat.reduceMul, Nat.reduceSub, Nat.reduceLT, Nat.reduceLeDiff, if_true, if_false, not_true_eq_false, not_false_eq_true, Bool.true_eq_false, Bool.false_eq_true, b2_eq0, Nat.add_zero, Nat.zero_add, Nat.not_lt_zero, Nat.zero_le, ite_true, ite_false, decide_true, decide_false, lit_ii, of_ii, le_T, le_F, lt_T, lt_F, eq_T, eq_F, ii_add, ii_mul, ii_nat, ii_le, ii_lt, ii_eq, inR_ii, ii_add0]
    rfl
theorem s_blame {d k q : Nat} {T : Nat → Nat} {n p u : Nat} {f : FA} {σ : HP} (A : RS σ T n p f u) (hk : 1 ≤ k ∧ k ≤ 3) (hq : q ≤ 600) : ∃ σ', callF (d + 1) m_Reader_blame [.ref 71, .int (ii k), .int (ii q)] σ = some (.inl none, σ') ∧ RS σ' T n p (blm f (some (k, q))) u ∧ Fs S1 σ σ' := by
  have A0 := A
  obtain ⟨a0, a1, a2, a3, a4, a5, b1, b2, b3, b4, b5⟩ := A
  cases f with
  | none =>
    refine ⟨wI (wI σ 71 3 (ii k)) 71 4 (ii q), ?_, ⟨a0, ?_, ?_, ?_, gI_at, ?_, b1, b2, b3, b4.fs (S := S1) (Fs.w (Fs.w Fs.rf rfl) rfl) (by unfold S1; omega), fun k' q' e => by cases e; omega⟩, Fs.w (Fs.w Fs.rf rfl) rfl⟩
    · simp (disch := first | omega | exact b2_01 _ | exact ii0_01 | exact ii1_01 | (simp (disch := omega) only [a3, dr_some, Option.isSome_some, gR_wI, Nat.add_mul_mod_self_left, Nat.reduceMod, ak20, ak21, ak22, ak23, ak24, ak25, ak26, ak27, ak28, ak29, ak30, ak31, ak32, ak33, ak34, ak35, ak36, an20, an21, an22, an23, an24, an25, an26, an27, an28, an29, an30, an31, an32, an33, an34, an35, an36, an37, an38, ne_eq, inR_ii, decide_eq_true_eq, lit_ii, of_ii, ii_eq, ii_lt, ii_le]; first | done | omega)) only [a3, e_Reader_blame, b_Reader_blame_0, b_Reader_blame_7, b_Reader_blame_17, fk, dr_some, Option.isSome_some, gR_wI, Nat.add_mul_mod_self_left, Nat.reduceMod, ak20, ak21, ak22, ak23, ak24, ak25, ak26, ak27, ak28, ak29, ak30, ak31, ak32, ak33, ak34, ak35, ak36, an20, an21, an22, an23, an24, an25, an26, an27, an28, an29, an30, an31, an32, an33, an34, an35, an36, an37, an38, ↓reduceIte, bk_int, bk_void, bk_long, bkN_int, bkN_void, bkN_long, Nat.reduceAdd, Nat.reduceMul, Nat.reduceSub, Nat.reduceLT, Nat.reduceLeDiff, if_true, if_false, not_true_eq_false, not_false_eq_true, Bool.true_eq_false, Bool.false_eq_true, b2_eq0, Nat.add_zero, Nat.zero_add, Nat.not_lt_zero, Nat.zero_le, ite_true, ite_false, decide_true, decide_false, lit_ii, of_ii, le_T, le_F, lt_T, lt_F, eq_T, eq_F, ii_add, ii_mul, ii_nat, ii_le, ii_lt, ii_eq, inR_ii, ii_add0]
    · rw [gI_nj (by decide), gI_nj (by decide), a1]
    · rw [gI_nj (by decide), gI_nj (by decide), a2]
    · rw [gI_nj (by decide), gI_at]; rfl
    · rw [gI_nj (by decide), gI_nj (by decide), a5]
  | some z =>
    obtain ⟨k', q'⟩ := z
    have := b5 k' q' rfl
    refine ⟨σ, ?_, A0, Fs.rf⟩
    simp (disch := first | omega | exact b2_01 _ | exact ii0_01 | exact ii1_01 | (simp (disch := omega) only [a3, dr_some, Option.isSome_some, gR_wI, Nat.add_mul_mod_self_left, Nat.reduceMod, ak20, ak21, ak22, ak23, ak24, ak25, ak26, ak27, ak28, ak29, ak30, ak31, ak32, ak33, ak34, ak35, ak36, an20, an21, an22, an23, an24, an25, an26, an27, an28, an29, an30, an31, an32, an33, an34, an35, an36, an37, an38, ne_eq, inR_ii, decide_eq_true_eq, lit_ii, of_ii, ii_eq, ii_lt, ii_le]; first | done | omega)) only [a3, e_Reader_blame, b_Reader_blame_0, b_Reader_blame_7, b_Reader_blame_17, fk, dr_some, Option.isSome_some, gR_wI, Nat.add_mul_mod_self_left, Nat.reduceMod, ak20, ak21, ak22, ak23, ak24, ak25, ak26, ak27, ak28, ak29, ak30, ak31, ak32, ak33, ak34, ak35, ak36, an20, an21, an22, an23, an24, an25, an26, an27, an28, an29, an30, an31, an32, an33, an34, an35, an36, an37, an38, ↓reduceIte, bk_int, bk_void, bk_long, bkN_int, bkN_void, bkN_long, Nat.reduceAdd, Nat.reduceMul, Nat.reduceSub, Nat.reduceLT, Nat.reduceLeDiff, if_true, if_false, not_true_eq_false, not_false_eq_true, Bool.true_eq_false, Bool.false_eq_true, b2_eq0, Nat.add_zero, Nat.zero_add, Nat.not_lt_zero, Nat.zero_le, ite_true, ite_false, decide_true, decide_false, lit_ii, of_ii, le_T, le_F, lt_T, lt_F, eq_T, eq_F, ii_add, ii_mul, ii_nat, ii_le, ii_lt, ii_eq, inR_ii, ii_add0]
theorem s_peek {d : Nat} {T : Nat → Nat} {n p u : Nat} {f : FA} {σ : HP} (A : RS σ T n p f u) : ∃ σ', callF (d + 2) m_Reader_peek [.ref 71] σ = some (.inl (some (.int (bt T n (sk T n p)))), σ') ∧ RS σ' T n (sk T n p) f u ∧ Fs S1 σ σ' := by
  rw [e_Reader_peek]
  refine loop_w (Q := fun o => ∃ σ', o = some (.inl (some (.int (bt T n (sk T n p)))), σ') ∧ RS σ' T n (sk T n p) f u ∧ Fs S1 σ σ') (fun r c => ∃ σ' p', c = (0, [some (.ref 71)], [], σ') ∧ RS σ' T n p' f u ∧ Fs S1 σ σ' ∧ r = n - p' ∧ sk T n p' = sk T n p) ?_ _ _ ⟨σ, p, rfl, A, Fs.rf, rfl, rfl⟩
  rintro r c ⟨σ', p', rfl, A', F', hr, hs⟩
  have h1 := fun d => s_byteAt (d := d) A' (i := p') (by have := A'.2.2.2.2.2.2.1; have := A'.2.2.2.2.2.2.2.1; omega)
  have A0 := A'
  obtain ⟨a0, a1, a2, a3, a4, a5, b1, b2, b3, b4, b5⟩ := A'
  by_cases q1 : p' < n
  · have ht := (b4 p' (by omega)).2
    by_cases q2 : T p' = 32
    · right
      refine ⟨n - (p' + 1), _, by omega, ?_, wI σ' 71 2 (ii (p' + 1)), p' + 1, rfl, A0.pl (by omega), F'.w rfl, rfl, ?_⟩
      · conv => lhs; simp (disch := first | omega | exact b2_01 _ | exact ii0_01 | exact ii1_01 | (simp (disch := omega) only [a0, a1, a2, dr_some, Option.isSome_some, gR_wI, Nat.add_mul_mod_self_left, Nat.reduceMod, ak20, ak21, ak22, ak23, ak24, ak25, ak26, ak27, ak28, ak29, ak30, ak31, ak32, ak33, ak34, ak35, ak36, an20, an21, an22, an23, an24, an25, an26, an27, an28, an29, an30, an31, an32, an33, an34, an35, an36, an37, an38, ne_eq, inR_ii, decide_eq_true_eq, lit_ii, of_ii, ii_eq, ii_lt, ii_le]; first | done | omega)) only [a0, a1, a2, b_Reader_peek_0, dr_some, Option.isSome_some, gR_wI, Nat.add_mul_mod_self_left, Nat.reduceMod, ak20, ak21, ak22, ak23, ak24, ak25, ak26, ak27, ak28, ak29, ak30, ak31, ak32, ak33, ak34, ak35, ak36, an20, an21, an22, an23, an24, an25, an26, an27, an28, an29, an30, an31, an32, an33, an34, an35, an36, an37, an38, ↓reduceIte, bk_int, bk_void, bk_long, bkN_int, bkN_void, bkN_long, Nat.reduceAdd, Nat.reduceMul, Nat.reduceSub, Nat.reduceLT, Nat.reduceLeDiff, if_true, if_false, not_true_eq_false, not_false_eq_true, Bool.true_eq_false, Bool.false_eq_true, b2_eq0, Nat.add_zero, Nat.zero_add, Nat.not_lt_zero, Nat.zero_le, ite_true, ite_false, decide_true, decide_false, lit_ii, of_ii, le_T, le_F, lt_T, lt_F, eq_T, eq_F, ii_add, ii_mul, ii_nat, ii_le, ii_lt, ii_eq, inR_ii, ii_add0]
        simp (disch := first | omega | exact b2_01 _ | exact ii0_01 | exact ii1_01 | (simp (disch := omega) only [a0, a1, a2, dr_some, Option.isSome_some, gR_wI, Nat.add_mul_mod_self_left, Nat.reduceMod, ak20, ak21, ak22, ak23, ak24, ak25, ak26, ak27, ak28, ak29, ak30, ak31, ak32, ak33, ak34, ak35, ak36, an20, an21, an22, an23, an24, an25, an26, an27, an28, an29, an30, an31, an32, an33, an34, an35, an36, an37, an38, ne_eq, inR_ii, decide_eq_true_eq, lit_ii, of_ii, ii_eq, ii_lt, ii_le]; first | done | omega)) only [a0, a1, a2, e_Reader_peek, b_Reader_peek_11, b_Reader_peek_19, b_Reader_peek_24, b_Reader_peek_37, b_Reader_peek_45, h1, q1, q2, dr_some, Option.isSome_some, gR_wI, Nat.add_mul_mod_self_left, Nat.reduceMod, ak20, ak21, ak22, ak23, ak24, ak25, ak26, ak27, ak28, ak29, ak30, ak31, ak32, ak33, ak34, ak35, ak36, an20, an21, an22, an23, an24, an25, an26, an27, an28, an29, an30, an31, an32, an33, an34, an35, an36, an37, an38, ↓reduceIte, bk_int, bk_void, bk_long, bkN_int, bkN_void, bkN_long, Nat.reduceAdd, Nat.reduceMul, Nat.reduceSub, Nat.reduceLT, Nat.reduceLeDiff, if_true, if_false, not_true_eq_false, not_false_eq_true, Bool.true_eq_false, Bool.false_eq_true, b2_eq0, Nat.add_zero, Nat.zero_add, Nat.not_lt_zero, Nat.zero_le, ite_true, ite_false, decide_true, decide_false, lit_ii, of_ii, le_T, le_F, lt_T, lt_F, eq_T, eq_F, ii_add, ii_mul, ii_nat, ii_le, ii_lt, ii_eq, inR_ii, ii_add0]
      · rw [← hs]
        exact (rn_step q1 (decide_eq_true q2)).symm
    · left
      have e : sk T n p' = p' := rn_stop (fun z => q2 (of_decide_eq_true z.2))
      rw [← hs, e]
      refine ⟨σ', ?_, A0, F'⟩
      unfold bt
      simp (disch := first | omega | exact b2_01 _ | exact ii0_01 | exact ii1_01 | (simp (disch := omega) only [a0, a1, a2, dr_some, Option.isSome_some, gR_wI, Nat.add_mul_mod_self_left, Nat.reduceMod, ak20, ak21, ak22, ak23, ak24, ak25, ak26, ak27, ak28, ak29, ak30, ak31, ak32, ak33, ak34, ak35, ak36, an20, an21, an22, an23, an24, an25, an26, an27, an28, an29, an30, an31, an32, an33, an34, an35, an36, an37, an38, ne_eq, inR_ii, decide_eq_true_eq, lit_ii, of_ii, ii_eq, ii_lt, ii_le]; first | done | omega)) only [a0, a1, a2, e_Reader_peek, b_Reader_peek_0, b_Reader_peek_11, b_Reader_peek_19, b_Reader_peek_24, b_Reader_peek_37, b_Reader_peek_45, h1, q1, q2, dr_some, Option.isSome_some, gR_wI, Nat.add_mul_mod_self_left, Nat.reduceMod, ak20, ak21, ak22, ak23, ak24, ak25, ak26, ak27, ak28, ak29, ak30, ak31, ak32, ak33, ak34, ak35, ak36, an20, an21, an22, an23, an24, an25, an26, an27, an28, an29, an30, an31, an32, an33, an34, an35, an36, an37, an38, ↓reduceIte, bk_int, bk_void, bk_long, bkN_int, bkN_void, bkN_long, Nat.reduceAdd, Nat.reduceMul, Nat.reduceSub, Nat.reduceLT, Nat.reduceLeDiff, if_true, if_false, not_true_eq_false, not_false_eq_true, Bool.true_eq_false, Bool.false_eq_true, b2_eq0, Nat.add_zero, Nat.zero_add, Nat.not_lt_zero, Nat.zero_le, ite_true, ite_false, decide_true, decide_false, lit_ii, of_ii, le_T, le_F, lt_T, lt_F, eq_T, eq_F, ii_add, ii_mul, ii_nat, ii_le, ii_lt, ii_eq, inR_ii, ii_add0]
  · left
    have e : sk T n p' = p' := rn_stop (fun z => q1 z.1)
    rw [← hs, e]
    refine ⟨σ', ?_, A0, F'⟩
    unfold bt
    simp (disch := first | omega | exact b2_01 _ | exact ii0_01 | exact ii1_01 | (simp (disch := omega) only [a0, a1, a2, dr_some, Option.isSome_some, gR_wI, Nat.add_mul_mod_self_left, Nat.reduceMod, ak20, ak21, ak22, ak23, ak24, ak25, ak26, ak27, ak28, ak29, ak30, ak31, ak32, ak33, ak34, ak35, ak36, an20, an21, an22, an23, an24, an25, an26, an27, an28, an29, an30, an31, an32, an33, an34, an35, an36, an37, an38, ne_eq, inR_ii, decide_eq_true_eq, lit_ii, of_ii, ii_eq, ii_lt, ii_le]; first | done | omega)) only [a0, a1, a2, e_Reader_peek, b_Reader_peek_0, b_Reader_peek_11, b_Reader_peek_19, b_Reader_peek_24, b_Reader_peek_37, b_Reader_peek_45, h1, q1, dr_some, Option.isSome_some, gR_wI, Nat.add_mul_mod_self_left, Nat.reduceMod, ak20, ak21, ak22, ak23, ak24, ak25, ak26, ak27, ak28, ak29, ak30, ak31, ak32, ak33, ak34, ak35, ak36, an20, an21, an22, an23, an24, an25, an26, an27, an28, an29, an30, an31, an32, an33, an34, an35, an36, an37, an38, ↓reduceIte, bk_int, bk_void, bk_long, bkN_int, bkN_void, bkN_long, Nat.reduceAdd, Nat.reduceMul, Nat.reduceSub, Nat.reduceLT, Nat.reduceLeDiff, if_true, if_false, not_true_eq_false, not_false_eq_true, Bool.true_eq_false, Bool.false_eq_true, b2_eq0, Nat.add_zero, Nat.zero_add, Nat.not_lt_zero, Nat.zero_le, ite_true, ite_false, decide_true, decide_false, lit_ii, of_ii, le_T, le_F, lt_T, lt_F, eq_T, eq_F, ii_add, ii_mul, ii_nat, ii_le, ii_lt, ii_eq, inR_ii, ii_add0]
theorem sk_le {T : Nat → Nat} {n p : Nat} (h : p ≤ n) : sk T n p ≤ n := rn_le h
theorem sk_ge {T : Nat → Nat} {n p : Nat} (h : p ≤ n) : p ≤ sk T n p := rn_ge h
theorem sk_sk {T : Nat → Nat} {n p : Nat} (h : p ≤ n) : sk T n (sk T n p) = sk T n p := rn_rn h
/-- a sign stands there -/
def sgB (T : Nat → Nat) (n p c : Nat) : Bool := decide (sk T n p < n ∧ T (sk T n p) = c)
def sgP (T : Nat → Nat) (n p c : Nat) : Nat := if sgB T n p c then sk T n p + 1 else sk T n p
theorem sgP_le {T : Nat → Nat} {n p c : Nat} (h : p ≤ n) : p ≤ sgP T n p c ∧ sgP T n p c ≤ n := by
  have h1 := sk_le (T := T) h
  have h2 := sk_ge (T := T) h
  unfold sgP sgB
  split
  · rename_i z
    have := of_decide_eq_true z
    omega
  · omega
def sgF (T : Nat → Nat) (n p c : Nat) : FA := if sgB T n p c then none else some (1, sk T n p)
theorem blm_none (f : FA) : blm f none = f := by cases f <;> rfl
theorem s_needSign3 {d c : Nat} {T : Nat → Nat} {n p u : Nat} {f : FA} {σ : HP} (A : RS σ T n p f u) (hc : c < 256) : ∃ σ', callF (d + 3) m_Reader_needSign [.ref 71, .int (ii c)] σ = some (.inl none, σ') ∧ RS σ' T n (sgP T n p c) (blm f (sgF T n p c)) u ∧ Fs S1 σ σ' := by
  obtain ⟨σ1, e1, A1, F1⟩ := s_peek (d := d) A
  unfold bt at e1
  have hp := A.2.2.2.2.2.2.1
  have h1 := sk_le (T := T) hp
  have hn := A.2.2.2.2.2.2.2.1
  unfold sgP sgF
  have A0 := A1
  obtain ⟨a0, a1, a2, a3, a4, a5, b1, b2, b3, b4, b5⟩ := A1
  by_cases q1 : sk T n p < n
  · have ht := (b4 (sk T n p) (by omega)).2
    rw [if_pos q1] at e1
    by_cases q2 : T (sk T n p) = c
    · rw [show sgB T n p c = true from decide_eq_true ⟨q1, q2⟩, if_pos rfl, if_pos rfl, blm_none]
      refine ⟨wI σ1 71 2 (ii (sk T n p + 1)), ?_, A0.pl (by omega), F1.w rfl⟩
      simp (disch := first | omega | exact b2_01 _ | exact ii0_01 | exact ii1_01 | (simp (disch := omega) only [a2, dr_some, Option.isSome_some, gR_wI, Nat.add_mul_mod_self_left, Nat.reduceMod, ak20, ak21, ak22, ak23, ak24, ak25, ak26, ak27, ak28, ak29, ak30, ak31, ak32, ak33, ak34, ak35, ak36, an20, an21, an22, an23, an24, an25, an26, an27, an28, an29, an30, an31, an32, an33, an34, an35, an36, an37, an38, ne_eq, inR_ii, decide_eq_true_eq, lit_ii, of_ii, ii_eq, ii_lt, ii_le]; first | done | omega)) only [a2, e_Reader_needSign, b_Reader_needSign_0, b_Reader_needSign_4, b_Reader_needSign_8, b_Reader_needSign_21, b_Reader_needSign_30, e1, q2, dr_some, Option.isSome_some, gR_wI, Nat.add_mul_mod_self_left, Nat.reduceMod, ak20, ak21, ak22, ak23, ak24, ak25, ak26, ak27, ak28, ak29, ak30, ak31, ak32, ak33, ak34, ak35, ak36, an20, an21, an22, an23, an24, an25, an26, an27, an28, an29, an30, an31, an32, an33, an34, an35, an36, an37, an38, ↓reduceIte, bk_int, bk_void, bk_long, bkN_int, bkN_void, bkN_long, Nat.reduceAdd, Nat.reduceMul, Nat.reduceSub, Nat.reduceLT, Nat.reduceLeDiff, if_true, if_false, not_true_eq_false, not_false_eq_true, Bool.true_eq_false, Bool.false_eq_true, b2_eq0, Nat.add_zero, Nat.zero_add, Nat.not_lt_zero, Nat.zero_le, ite_true, ite_false, decide_true, decide_false, lit_ii, of_ii, le_T, le_F, lt_T, lt_F, eq_T, eq_F, ii_add, ii_mul, ii_nat, ii_le, ii_lt, ii_eq, inR_ii, ii_add0]
    · rw [show sgB T n p c = false from decide_eq_false (fun z => q2 z.2), if_neg (by decide), if_neg (by decide)]
      obtain ⟨σ2, e3, A2, F2⟩ := s_blame (d := d + 1) A0 (k := 1) (q := sk T n p) (by omega) (by omega)
      refine ⟨σ2, ?_, A2, F1.tr F2⟩
      simp (disch := first | omega | exact b2_01 _ | exact ii0_01 | exact ii1_01 | (simp (disch := omega) only [a2, dr_some, Option.isSome_some, gR_wI, Nat.add_mul_mod_self_left, Nat.reduceMod, ak20, ak21, ak22, ak23, ak24, ak25, ak26, ak27, ak28, ak29, ak30, ak31, ak32, ak33, ak34, ak35, ak36, an20, an21, an22, an23, an24, an25, an26, an27, an28, an29, an30, an31, an32, an33, an34, an35, an36, an37, an38, ne_eq, inR_ii, decide_eq_true_eq, lit_ii, of_ii, ii_eq, ii_lt, ii_le]; first | done | omega)) only [a2, e_Reader_needSign, b_Reader_needSign_0, b_Reader_needSign_4, b_Reader_needSign_8, b_Reader_needSign_21, b_Reader_needSign_30, e1, q2, e3, dr_some, Option.isSome_some, gR_wI, Nat.add_mul_mod_self_left, Nat.reduceMod, ak20, ak21, ak22, ak23, ak24, ak25, ak26, ak27, ak28, ak29, ak30, ak31, ak32, ak33, ak34, ak35, ak36, an20, an21, an22, an23, an24, an25, an26, an27, an28, an29, an30, an31, an32, an33, an34, an35, an36, an37, an38, ↓reduceIte, bk_int, bk_void, bk_long, bkN_int, bkN_void, bkN_long, Nat.reduceAdd, Nat.reduceMul, Nat.reduceSub, Nat.reduceLT, Nat.reduceLeDiff, if_true, if_false, not_true_eq_false, not_false_eq_true, Bool.true_eq_false, Bool.false_eq_true, b2_eq0, Nat.add_zero, Nat.zero_add, Nat.not_lt_zero, Nat.zero_le, ite_true, ite_false, decide_true, decide_false, lit_ii, of_ii, le_T, le_F, lt_T, lt_F, eq_T, eq_F, ii_add, ii_mul, ii_nat, ii_le, ii_lt, ii_eq, inR_ii, ii_add0]
  · rw [if_neg q1] at e1
    rw [show sgB T n p c = false from decide_eq_false (fun z => q1 z.1), if_neg (by decide), if_neg (by decide)]
    obtain ⟨σ2, e3, A2, F2⟩ := s_blame (d := d + 1) A0 (k := 1) (q := sk T n p) (by omega) (by omega)
    refine ⟨σ2, ?_, A2, F1.tr F2⟩
    simp (disch := first | omega | exact b2_01 _ | exact ii0_01 | exact ii1_01 | (simp (disch := omega) only [a2, dr_some, Option.isSome_some, gR_wI, Nat.add_mul_mod_self_left, Nat.reduceMod, ak20, ak21, ak22, ak23, ak24, ak25, ak26, ak27, ak28, ak29, ak30, ak31, ak32, ak33, ak34, ak35, ak36, an20, an21, an22, an23, an24, an25, an26, an27, an28, an29, an30, an31, an32, an33, an34, an35, an36, an37, an38, ne_eq, inR_ii, decide_eq_true_eq, lit_ii, of_ii, ii_eq, ii_lt, ii_le]; first | done | omega)) only [a2, e_Reader_needSign, b_Reader_needSign_0, b_Reader_needSign_4, b_Reader_needSign_8, b_Reader_needSign_21, b_Reader_needSign_30, e1, ng_eq, e3, dr_some, Option.isSome_some, gR_wI, Nat.add_mul_mod_self_left, Nat.reduceMod, ak20, ak21, ak22, ak23, ak24, ak25, ak26, ak27, ak28, ak29, ak30, ak31, ak32, ak33, ak34, ak35, ak36, an20, an21, an22, an23, an24, an25, an26, an27, an28, an29, an30, an31, an32, an33, an34, an35, an36, an37, an38, ↓reduceIte, bk_int, bk_void, bk_long, bkN_int, bkN_void, bkN_long, Nat.reduceAdd, Nat.reduceMul, Nat.reduceSub, Nat.reduceLT, Nat.reduceLeDiff, if_true, if_false, not_true_eq_false, not_false_eq_true, Bool.true_eq_false, Bool.false_eq_true, b2_eq0, Nat.add_zero, Nat.zero_add, Nat.not_lt_zero, Nat.zero_le, ite_true, ite_false, decide_true, decide_false, lit_ii, of_ii, le_T, le_F, lt_T, lt_F, eq_T, eq_F, ii_add, ii_mul, ii_nat, ii_le, ii_lt, ii_eq, inR_ii, ii_add0]
theorem s_needSign {d c : Nat} {T : Nat → Nat} {n p u : Nat} {f : FA} {σ : HP} (A : RS σ T n p f u) (hc : c < 256) : ∃ σ', callF (d + 4) m_Reader_needSign [.ref 71, .int (ii c)] σ = some (.inl none, σ') ∧ RS σ' T n (sgP T n p c) (blm f (sgF T n p c)) u ∧ Fs S1 σ σ' := s_needSign3 (d := d + 1) A hc
/-- a sign that stands there is passed -/
theorem s_passSign {d c : Nat} {T : Nat → Nat} {n p u : Nat} {f : FA} {σ : HP} (A : RS σ T n p f u) (hc : c < 256) (hb : sgB T n p c = true) : ∃ σ', callF (d + 3) m_Reader_needSign [.ref 71, .int (ii c)] σ = some (.inl none, σ') ∧ RS σ' T n (sgP T n p c) f u ∧ Fs S1 σ σ' := by
  obtain ⟨σ', e, R, F⟩ := s_needSign3 (d := d) A hc
  rw [show sgF T n p c = none from by unfold sgF; rw [hb]; rfl, blm_none] at R
  exact ⟨σ', e, R, F⟩
/-- the text must end there -/
def enF (T : Nat → Nat) (n p : Nat) : FA := if sk T n p < n then some (1, sk T n p) else none
theorem s_needEnd {d : Nat} {T : Nat → Nat} {n p u : Nat} {f : FA} {σ : HP} (A : RS σ T n p f u) : ∃ σ', callF (d + 3) m_Reader_needEnd [.ref 71] σ = some (.inl none, σ') ∧ RS σ' T n (sk T n p) (blm f (enF T n p)) u ∧ Fs S1 σ σ' := by
  obtain ⟨σ1, e1, A1, F1⟩ := s_peek (d := d) A
  unfold bt at e1
  have hp := A.2.2.2.2.2.2.1
  have h1 := sk_le (T := T) hp
  have hn := A.2.2.2.2.2.2.2.1
  unfold enF
  have A0 := A1
  obtain ⟨a0, a1, a2, a3, a4, a5, b1, b2, b3, b4, b5⟩ := A1
  by_cases q1 : sk T n p < n
  · have ht := (b4 (sk T n p) (by omega)).2
    rw [if_pos q1] at e1 ⊢
    obtain ⟨σ2, e3, A2, F2⟩ := s_blame (d := d + 1) A0 (k := 1) (q := sk T n p) (by omega) (by omega)
    refine ⟨σ2, ?_, A2, F1.tr F2⟩
    simp (disch := first | omega | exact b2_01 _ | exact ii0_01 | exact ii1_01 | (simp (disch := omega) only [a2, dr_some, Option.isSome_some, gR_wI, Nat.add_mul_mod_self_left, Nat.reduceMod, ak20, ak21, ak22, ak23, ak24, ak25, ak26, ak27, ak28, ak29, ak30, ak31, ak32, ak33, ak34, ak35, ak36, an20, an21, an22, an23, an24, an25, an26, an27, an28, an29, an30, an31, an32, an33, an34, an35, an36, an37, an38, ne_eq, inR_ii, decide_eq_true_eq, lit_ii, of_ii, ii_eq, ii_lt, ii_le]; first | done | omega)) only [a2, e_Reader_needEnd, b_Reader_needEnd_0, b_Reader_needEnd_4, b_Reader_needEnd_8, b_Reader_needEnd_17, e1, eq_ng, e3, dr_some, Option.isSome_some, gR_wI, Nat.add_mul_mod_self_left, Nat.reduceMod, ak20, ak21, ak22, ak23, ak24, ak25, ak26, ak27, ak28, ak29, ak30, ak31, ak32, ak33, ak34, ak35, ak36, an20, an21, an22, an23, an24, an25, an26, an27, an28, an29, an30, an31, an32, an33, an34, an35, an36, an37, an38, ↓reduceIte, bk_int, bk_void, bk_long, bkN_int, bkN_void, bkN_long, Nat.reduceAdd, Nat.reduceMul, Nat.reduceSub, Nat.reduceLT, Nat.reduceLeDiff, if_true, if_false, not_true_eq_false, not_false_eq_true, Bool.true_eq_false, Bool.false_eq_true, b2_eq0, Nat.add_zero, Nat.zero_add, Nat.not_lt_zero, Nat.zero_le, ite_true, ite_false, decide_true, decide_false, lit_ii, of_ii, le_T, le_F, lt_T, lt_F, eq_T, eq_F, ii_add, ii_mul, ii_nat, ii_le, ii_lt, ii_eq, inR_ii, ii_add0]
  · rw [if_neg q1] at e1
    rw [if_neg q1, blm_none]
    refine ⟨σ1, ?_, A0, F1⟩
    simp (disch := first | omega | exact b2_01 _ | exact ii0_01 | exact ii1_01 | (simp (disch := omega) only [a2, dr_some, Option.isSome_some, gR_wI, Nat.add_mul_mod_self_left, Nat.reduceMod, ak20, ak21, ak22, ak23, ak24, ak25, ak26, ak27, ak28, ak29, ak30, ak31, ak32, ak33, ak34, ak35, ak36, an20, an21, an22, an23, an24, an25, an26, an27, an28, an29, an30, an31, an32, an33, an34, an35, an36, an37, an38, ne_eq, inR_ii, decide_eq_true_eq, lit_ii, of_ii, ii_eq, ii_lt, ii_le]; first | done | omega)) only [a2, e_Reader_needEnd, b_Reader_needEnd_0, b_Reader_needEnd_4, b_Reader_needEnd_8, b_Reader_needEnd_17, e1, ng_ng_eq, dr_some, Option.isSome_some, gR_wI, Nat.add_mul_mod_self_left, Nat.reduceMod, ak20, ak21, ak22, ak23, ak24, ak25, ak26, ak27, ak28, ak29, ak30, ak31, ak32, ak33, ak34, ak35, ak36, an20, an21, an22, an23, an24, an25, an26, an27, an28, an29, an30, an31, an32, an33, an34, an35, an36, an37, an38, ↓reduceIte, bk_int, bk_void, bk_long, bkN_int, bkN_void, bkN_long, Nat.reduceAdd, Nat.reduceMul, Nat.reduceSub, Nat.reduceLT, Nat.reduceLeDiff, if_true, if_false, not_true_eq_false, not_false_eq_true, Bool.true_eq_false, Bool.false_eq_true, b2_eq0, Nat.add_zero, Nat.zero_add, Nat.not_lt_zero, Nat.zero_le, ite_true, ite_false, decide_true, decide_false, lit_ii, of_ii, le_T, le_F, lt_T, lt_F, eq_T, eq_F, ii_add, ii_mul, ii_nat, ii_le, ii_lt, ii_eq, inR_ii, ii_add0]
theorem s_isDigit {d t : Nat} {σ : HP} (ht : t < 256) : callF (d + 1) m_Reader_isDigit [.int (ii t)] σ = some (.inl (some (.int (b2 (decide (48 ≤ t ∧ t ≤ 57))))), σ) := by
  by_cases q1 : t < 48
  · rw [decide_eq_false (by omega)]
    simp (disch := first | omega | exact b2_01 _ | exact ii0_01 | exact ii1_01 | (simp (disch := omega) only [lit_ii, dr_some, Option.isSome_some, gR_wI, Nat.add_mul_mod_self_left, Nat.reduceMod, ak20, ak21, ak22, ak23, ak24, ak25, ak26, ak27, ak28, ak29, ak30, ak31, ak32, ak33, ak34, ak35, ak36, an20, an21, an22, an23, an24, an25, an26, an27, an28, an29, an30, an31, an32, an33, an34, an35, an36, an37, an38, ne_eq, inR_ii, decide_eq_true_eq, lit_ii, of_ii, ii_eq, ii_lt, ii_le]; first | done | omega)) only [lit_ii, e_Reader_isDigit, b_Reader_isDigit_0, b_Reader_isDigit_6, b_Reader_isDigit_12, b_Reader_isDigit_16, b_Reader_isDigit_17, dr_some, Option.isSome_some, gR_wI, Nat.add_mul_mod_self_left, Nat.reduceMod, ak20, ak21, ak22, ak23, ak24, ak25, ak26, ak27, ak28, ak29, ak30, ak31, ak32, ak33, ak34, ak35, ak36, an20, an21, an22, an23, an24, an25, an26, an27, an28, an29, an30, an31, an32, an33, an34, an35, an36, an37, an38, ↓reduceIte, bk_int, bk_void, bk_long, bkN_int, bkN_void, bkN_long, Nat.reduceAdd, Nat.reduceMul, Nat.reduceSub, Nat.reduceLT, Nat.reduceLeDiff, if_true, if_false, not_true_eq_false, not_false_eq_true, Bool.true_eq_false, Bool.false_eq_true, b2_eq0, Nat.add_zero, Nat.zero_add, Nat.not_lt_zero, Nat.zero_le, ite_true, ite_false, decide_true, decide_false, lit_ii, of_ii, le_T, le_F, lt_T, lt_F, eq_T, eq_F, ii_add, ii_mul, ii_nat, ii_le, ii_lt, ii_eq, inR_ii, ii_add0]
    rfl
  · by_cases q2 : 57 < t
    · rw [decide_eq_false (by omega)]
      simp (disch := first | omega | exact b2_01 _ | exact ii0_01 | exact ii1_01 | (simp (disch := omega) only [lit_ii, dr_some, Option.isSome_some, gR_wI, Nat.add_mul_mod_self_left, Nat.reduceMod, ak20, ak21, ak22, ak23, ak24, ak25, ak26, ak27, ak28, ak29, ak30, ak31, ak32, ak33, ak34, ak35, ak36, an20, an21, an22, an23, an24, an25, an26, an27, an28, an29, an30, an31, an32, an33, an34, an35, an36, an37, an38, ne_eq, inR_ii, decide_eq_true_eq, lit_ii, of_ii, ii_eq, ii_lt, ii_le]; first | done | omega)) only [lit_ii, e_Reader_isDigit, b_Reader_isDigit_0, b_Reader_isDigit_6, b_Reader_isDigit_12, b_Reader_isDigit_16, b_Reader_isDigit_17, dr_some, Option.isSome_some, gR_wI, Nat.add_mul_mod_self_left, Nat.reduceMod, ak20, ak21, ak22, ak23, ak24, ak25, ak26, ak27, ak28, ak29, ak30, ak31, ak32, ak33, ak34, ak35, ak36, an20, an21, an22, an23, an24, an25, an26, an27, an28, an29, an30, an31, an32, an33, an34, an35, an36, an37, an38, ↓reduceIte, bk_int, bk_void, bk_long, bkN_int, bkN_void, bkN_long, Nat.reduceAdd, Nat.reduceMul, Nat.reduceSub, Nat.reduceLT, Nat.reduceLeDiff, if_true, if_false, not_true_eq_false, not_false_eq_true, Bool.true_eq_false, Bool.false_eq_true, b2_eq0, Nat.add_zero, Nat.zero_add, Nat.not_lt_zero, Nat.zero_le, ite_true, ite_false, decide_true, decide_false, lit_ii, of_ii, le_T, le_F, lt_T, lt_F, eq_T, eq_F, ii_add, ii_mul, ii_nat, ii_le, ii_lt, ii_eq, inR_ii, ii_add0]
      rfl
    · rw [decide_eq_true (by omega)]
      simp (disch := first | omega | exact b2_01 _ | exact ii0_01 | exact ii1_01 | (simp (disch := omega) only [lit_ii, dr_some, Option.isSome_some, gR_wI, Nat.add_mul_mod_self_left, Nat.reduceMod, ak20, ak21, ak22, ak23, ak24, ak25, ak26, ak27, ak28, ak29, ak30, ak31, ak32, ak33, ak34, ak35, ak36, an20, an21, an22, an23, an24, an25, an26, an27, an28, an29, an30, an31, an32, an33, an34, an35, an36, an37, an38, ne_eq, inR_ii, decide_eq_true_eq, lit_ii, of_ii, ii_eq, ii_lt, ii_le]; first | done | omega)) only [lit_ii, e_Reader_isDigit, b_Reader_isDigit_0, b_Reader_isDigit_6, b_Reader_isDigit_12, b_Reader_isDigit_16, b_Reader_isDigit_17, dr_some, Option.isSome_some, gR_wI, Nat.add_mul_mod_self_left, Nat.reduceMod, ak20, ak21, ak22, ak23, ak24, ak25, ak26, ak27, ak28, ak29, ak30, ak31, ak32, ak33, ak34, ak35, ak36, an20, an21, an22, an23, an24, an25, an26, an27, an28, an29, an30, an31, an32, an33, an34, an35, an36, an37, an38, ↓reduceIte, bk_int, bk_void, bk_long, bkN_int, bkN_void, bkN_long, Nat.reduceAdd, Nat.reduceMul, Nat.reduceSub, Nat.reduceLT, Nat.reduceLeDiff, if_true, if_false, not_true_eq_false, not_false_eq_true, Bool.true_eq_false, Bool.false_eq_true, b2_eq0, Nat.add_zero, Nat.zero_add, Nat.not_lt_zero, Nat.zero_le, ite_true, ite_false, decide_true, decide_false, lit_ii, of_ii, le_T, le_F, lt_T, lt_F, eq_T, eq_F, ii_add, ii_mul, ii_nat, ii_le, ii_lt, ii_eq, inR_ii, ii_add0]
      rfl
theorem s_isLetter {d t : Nat} {σ : HP} (ht : t < 256) : callF (d + 1) m_Reader_isLetter [.int (ii t)] σ = some (.inl (some (.int (b2 (decide (97 ≤ t ∧ t ≤ 122))))), σ) := by
  by_cases q1 : t < 97
  · rw [decide_eq_false (by omega)]
    simp (disch := first | omega | exact b2_01 _ | exact ii0_01 | exact ii1_01 | (simp (disch := omega) only [lit_ii, dr_some, Option.isSome_some, gR_wI, Nat.add_mul_mod_self_left, Nat.reduceMod, ak20, ak21, ak22, ak23, ak24, ak25, ak26, ak27, ak28, ak29, ak30, ak31, ak32, ak33, ak34, ak35, ak36, an20, an21, an22, an23, an24, an25, an26, an27, an28, an29, an30, an31, an32, an33, an34, an35, an36, an37, an38, ne_eq, inR_ii, decide_eq_true_eq, lit_ii, of_ii, ii_eq, ii_lt, ii_le]; first | done | omega)) only [lit_ii, e_Reader_isLetter, b_Reader_isLetter_0, b_Reader_isLetter_6, b_Reader_isLetter_12, b_Reader_isLetter_16, b_Reader_isLetter_17, dr_some, Option.isSome_some, gR_wI, Nat.add_mul_mod_self_left, Nat.reduceMod, ak20, ak21, ak22, ak23, ak24, ak25, ak26, ak27, ak28, ak29, ak30, ak31, ak32, ak33, ak34, ak35, ak36, an20, an21, an22, an23, an24, an25, an26, an27, an28, an29, an30, an31, an32, an33, an34, an35, an36, an37, an38, ↓reduceIte, bk_int, bk_void, bk_long, bkN_int, bkN_void, bkN_long, Nat.reduceAdd, Nat.reduceMul, Nat.reduceSub, Nat.reduceLT, Nat.reduceLeDiff, if_true, if_false, not_true_eq_false, not_false_eq_true, Bool.true_eq_false, Bool.false_eq_true, b2_eq0, Nat.add_zero, Nat.zero_add, Nat.not_lt_zero, Nat.zero_le, ite_true, ite_false, decide_true, decide_false, lit_ii, of_ii, le_T, le_F, lt_T, lt_F, eq_T, eq_F, ii_add, ii_mul, ii_nat, ii_le, ii_lt, ii_eq, inR_ii, ii_add0]
    rfl
  · by_cases q2 : 122 < t
    · rw [decide_eq_false (by omega)]
      simp (disch := first | omega | exact b2_01 _ | exact ii0_01 | exact ii1_01 | (simp (disch := omega) only [lit_ii, dr_some, Option.isSome_some, gR_wI, Nat.add_mul_mod_self_left, Nat.reduceMod, ak20, ak21, ak22, ak23, ak24, ak25, ak26, ak27, ak28, ak29, ak30, ak31, ak32, ak33, ak34, ak35, ak36, an20, an21, an22, an23, an24, an25, an26, an27, an28, an29, an30, an31, an32, an33, an34, an35, an36, an37, an38, ne_eq, inR_ii, decide_eq_true_eq, lit_ii, of_ii, ii_eq, ii_lt, ii_le]; first | done | omega)) only [lit_ii, e_Reader_isLetter, b_Reader_isLetter_0, b_Reader_isLetter_6, b_Reader_isLetter_12, b_Reader_isLetter_16, b_Reader_isLetter_17, dr_some, Option.isSome_some, gR_wI, Nat.add_mul_mod_self_left, Nat.reduceMod, ak20, ak21, ak22, ak23, ak24, ak25, ak26, ak27, ak28, ak29, ak30, ak31, ak32, ak33, ak34, ak35, ak36, an20, an21, an22, an23, an24, an25, an26, an27, an28, an29, an30, an31, an32, an33, an34, an35, an36, an37, an38, ↓reduceIte, bk_int, bk_void, bk_long, bkN_int, bkN_void, bkN_long, Nat.reduceAdd, Nat.reduceMul, Nat.reduceSub, Nat.reduceLT, Nat.reduceLeDiff, if_true, if_false, not_true_eq_false, not_false_eq_true, Bool.true_eq_false, Bool.false_eq_true, b2_eq0, Nat.add_zero, Nat.zero_add, Nat.not_lt_zero, Nat.zero_le, ite_true, ite_false, decide_true, decide_false, lit_ii, of_ii, le_T, le_F, lt_T, lt_F, eq_T, eq_F, ii_add, ii_mul, ii_nat, ii_le, ii_lt, ii_eq, inR_ii, ii_add0]
      rfl
    · rw [decide_eq_true (by omega)]
      simp (disch := first | omega | exact b2_01 _ | exact ii0_01 | exact ii1_01 | (simp (disch := omega) only [lit_ii, dr_some, Option.isSome_some, gR_wI, Nat.add_mul_mod_self_left, Nat.reduceMod, ak20, ak21, ak22, ak23, ak24, ak25, ak26, ak27, ak28, ak29, ak30, ak31, ak32, ak33, ak34, ak35, ak36, an20, an21, an22, an23, an24, an25, an26, an27, an28, an29, an30, an31, an32, an33, an34, an35, an36, an37, an38, ne_eq, inR_ii, decide_eq_true_eq, lit_ii, of_ii, ii_eq, ii_lt, ii_le]; first | done | omega)) only [lit_ii, e_Reader_isLetter, b_Reader_isLetter_0, b_Reader_isLetter_6, b_Reader_isLetter_12, b_Reader_isLetter_16, b_Reader_isLetter_17, dr_some, Option.isSome_some, gR_wI, Nat.add_mul_mod_self_left, Nat.reduceMod, ak20, ak21, ak22, ak23, ak24, ak25, ak26, ak27, ak28, ak29, ak30, ak31, ak32, ak33, ak34, ak35, ak36, an20, an21, an22, an23, an24, an25, an26, an27, an28, an29, an30, an31, an32, an33, an34, an35, an36, an37, an38, ↓reduceIte, bk_int, bk_void, bk_long, bkN_int, bkN_void, bkN_long, Nat.reduceAdd, Nat.reduceMul, Nat.reduceSub, Nat.reduceLT, Nat.reduceLeDiff, if_true, if_false, not_true_eq_false, not_false_eq_true, Bool.true_eq_false, Bool.false_eq_true, b2_eq0, Nat.add_zero, Nat.zero_add, Nat.not_lt_zero, Nat.zero_le, ite_true, ite_false, decide_true, decide_false, lit_ii, of_ii, le_T, le_F, lt_T, lt_F, eq_T, eq_F, ii_add, ii_mul, ii_nat, ii_le, ii_lt, ii_eq, inR_ii, ii_add0]
      rfl
