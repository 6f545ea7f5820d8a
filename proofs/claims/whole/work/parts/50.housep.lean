/-! what a HOUSE's text says -/
abbrev HsT : Type := Nat × HH
def sgnH (T : Nat → Nat) (n c : Nat) (s : HsT) : PR HsT := if sgB T n s.1 c then .inl (sk T n s.1 + 1, s.2) else .inr (1, sk T n s.1)
def addM (H : HH) (a b c : Nat) : HH := ((hm H + 1, hc H, hf H, hp H), up1 (up1 (up1 H.2.1 (3 * hm H) a) (3 * hm H + 1) b) (3 * hm H + 2) c, H.2.2)
def addC (H : HH) (a b : Nat) : HH := ((hm H, hc H + 1, hf H, hp H), H.2.1, up1 (up1 H.2.2 (2 * hc H) a) (2 * hc H + 1) b)
def setF (H : HH) (a : Nat) : HH := ((hm H, hc H, a, hp H), H.2.1, H.2.2)
def setP (H : HH) (a : Nat) : HH := ((hm H, hc H, hf H, a), H.2.1, H.2.2)
def hsF (T : Nat → Nat) (n q : Nat) (s : HsT) : PR HsT := if hm s.2 = 0 then (match numW T n 2 13 s.1 with
  | .inl (p, v) => .inl (p, setF s.2 v)
  | .inr F => .inr F) else .inr (3, q)
def hsM (T : Nat → Nat) (n q : Nat) (s : HsT) : PR HsT := if hm s.2 < 7 then (match numW T n 0 (hf s.2) s.1 with
  | .inl (p, a) => (match numW T n 1 61 p with
    | .inl (p', b) => (match numW T n 0 10 p' with
      | .inl (p2, c) => .inl (p2, addM s.2 a b c)
      | .inr F => .inr F)
    | .inr F => .inr F)
  | .inr F => .inr F) else .inr (3, q)
def hsK (T : Nat → Nat) (n q : Nat) (s : HsT) : PR HsT := if hc s.2 < 8 then (match numW T n 1 21 s.1 with
  | .inl (p, a) => (match numW T n 0 10 p with
    | .inl (p', b) => .inl (p', addC s.2 a b)
    | .inr F => .inr F)
  | .inr F => .inr F) else .inr (3, q)
def hsP (T : Nat → Nat) (n : Nat) (s : HsT) : PR HsT := match numW T n 0 301 s.1 with
  | .inl (p, v) => .inl (p, setP s.2 v)
  | .inr F => .inr F
def hsB (T : Nat → Nat) (n q x : Nat) (s : HsT) : PR HsT := if x = 0 then hsF T n q s else if x = 1 then hsM T n q s else if x = 2 then hsK T n q s else hsP T n s
def hsC (T : Nat → Nat) (n k : Nat) (s : HsT) : PR HsT := match wdX 1 T n s.1 with
  | none => .inr (1, sk T n s.1)
  | some x => if k = 60 then .inr (3, sk T n s.1) else (match hsB T n (sk T n s.1) x (wdP T n s.1, s.2) with
    | .inl s' => sgnH T n 59 s'
    | .inr F => .inr F)
def hsL (T : Nat → Nat) (n : Nat) : Nat → Nat → HsT → PR HsT
  | 0, _, s => .inl s
  | f + 1, k, s => if sk T n s.1 < n then (match hsC T n k (sk T n s.1, s.2) with
    | .inl s' => hsL T n f (k + 1) s'
    | .inr F => .inr F) else .inl (sk T n s.1, s.2)
def H0 : HH := ((0, 0, 6, 100), fun _ => 0, fun _ => 0)
def hsAll (T : Nat → Nat) (n : Nat) : PR HsT := hsL T n (n + 1) 0 (0, H0)
/-! THE CLASS: its house's reader -/
theorem blm_blm (f g : FA) (F : Nat × Nat) : blm (blm f (some F)) g = blm f (some F) := by cases f <;> rfl
def SHs (h a : Nat) : Prop := a = 71 ∨ (h ≤ a / 64 ∧ a / 64 ≤ h + 5)
theorem S1_SH {h : Nat} {σ σ' : HP} (F : Fs S1 σ σ') : Fs (SHs h) σ σ' := F.mono (fun a z => Or.inl z)
def HQ (σ : HP) (T : Nat → Nat) (n h : Nat) (f : FA) (u : Nat) (r : PR HsT) : Prop := match r with
  | .inl s => RS σ T n s.1 f u ∧ (f = none → HA σ h s.2)
  | .inr F => ∃ p, RS σ T n p (blm f (some F)) u
theorem HA.s1 {σ σ' : HP} {h : Nat} {H : HH} (A : HA σ h H) (F : Fs S1 σ σ') (hh : h ≠ 2) (hh2 : 2 < h) : HA σ' h H := A.fs F (fun a x y z => by unfold S1 at z; omega)
theorem numW_nm {T : Nat → Nat} {n a hi p : Nat} : numW T n a hi p = match nmF T n p a hi with
  | none => .inl (nmP T n p, nmV T n p)
  | some F => .inr F := rfl
theorem c_floors {d n h p u : Nat} {T : Nat → Nat} {f : FA} {H : HH} {σ : HP} (R : RS σ T n p f u) (A : HA σ h H) (hh : 2 < h) (hm7 : hm H ≤ 7) : ∃ σ', callF (d + 4) m_House_readFloors [.ref (2 + 64 * h), .ref 71] σ = some (.inl none, σ') ∧ HQ σ' T n h f u (hsF T n u (p, H)) ∧ Fs (SHs h) σ σ' := by
  have hp := R.2.2.2.2.2.2.1
  have u5 := R.2.2.2.2.2.1
  have u6 := R.2.2.2.2.2.2.2.2.1
  have v1 := A.2.1
  unfold hsF
  by_cases q : hm H = 0
  · rw [if_pos q]
    obtain ⟨σ1, e1, R1, F1⟩ := s_readNumber (d := d) R (a := 2) (hi := 13) (by omega) (by omega)
    have pr : prI32 13 = ii 12 := rfl
    rw [pr] at e1
    have R2 := R1.w (a := 2 + 64 * h) (j := 0) (v := ii (min 100000 (nmV T n p))) (by omega) (by omega)
    refine ⟨wI σ1 (2 + 64 * h) 0 (ii (min 100000 (nmV T n p))), ?_, ?_, (S1_SH F1).w (Or.inr (by omega))⟩
    · simp (disch := first | omega | exact b2_01 _ | exact ii0_01 | exact ii1_01 | (simp (disch := omega) only [lit_ii, dr_some, Option.isSome_some, gR_wI, Nat.add_mul_mod_self_left, Nat.reduceMod, ak20, ak21, ak22, ak23, ak24, ak25, ak26, ak27, ak28, ak29, ak30, ak31, ak32, ak33, ak34, ak35, ak36, an20, an21, an22, an23, an24, an25, an26, an27, an28, an29, an30, an31, an32, an33, an34, an35, an36, an37, an38, ne_eq, inR_ii, decide_eq_true_eq, lit_ii, of_ii, ii_eq, ii_lt, ii_le]; first | done | omega)) only [lit_ii, e_House_readFloors, b_House_readFloors_0, b_House_readFloors_7, b_House_readFloors_16, b_House_readFloors_24, v1, q, e1, dr_some, Option.isSome_some, gR_wI, Nat.add_mul_mod_self_left, Nat.reduceMod, ak20, ak21, ak22, ak23, ak24, ak25, ak26, ak27, ak28, ak29, ak30, ak31, ak32, ak33, ak34, ak35, ak36, an20, an21, an22, an23, an24, an25, an26, an27, an28, an29, an30, an31, an32, an33, an34, an35, an36, an37, an38, ↓reduceIte, bk_int, bk_void, bk_long, bkN_int, bkN_void, bkN_long, Nat.reduceAdd, Nat.reduceMul, Nat.reduceSub, Nat.reduceLT, Nat.reduceLeDiff, if_true, if_false, not_true_eq_false, not_false_eq_true, Bool.true_eq_false, Bool.false_eq_true, b2_eq0, Nat.add_zero, Nat.zero_add, Nat.not_lt_zero, Nat.zero_le, ite_true, ite_false, decide_true, decide_false, lit_ii, of_ii, le_T, le_F, lt_T, lt_F, eq_T, eq_F, ii_add, ii_mul, ii_nat, ii_le, ii_lt, ii_eq, inR_ii, ii_add0]
    · cases hv : numW T n 2 13 p with
      | inr F =>
        rw [(numW_f hp hv).2] at R2
        exact ⟨_, R2⟩
      | inl z =>
        obtain ⟨p1, v⟩ := z
        obtain ⟨a1, a2, a3, a4, a5, a6, a7⟩ := numW_fwd hp hv
        rw [a7, blm_none, ← a5] at R2
        have mn : min 100000 (nmV T n p) = v := by omega
        rw [mn] at R2 ⊢
        refine ⟨R2, fun _ => ?_⟩
        have A1 := A.fs F1 (fun a x y z => by unfold S1 at z; omega)
        obtain ⟨hF, hM, hC, hPi, hr4, hr5, hr6, hr7, hr8, hv4, hv5, hv6, hv7, hv8⟩ := A1
        refine ⟨gI_at, ?_, ?_, ?_, hr4, hr5, hr6, hr7, hr8, fun m k => ?_, fun m k => ?_, fun m k => ?_, fun m k => ?_, fun m k => ?_⟩
        · rw [gI_nj (by decide)]; exact hM
        · rw [gI_nj (by decide)]; exact hC
        · rw [gI_nj (by decide)]; exact hPi
        · rw [gI_ne (by omega)]; exact hv4 m k
        · rw [gI_ne (by omega)]; exact hv5 m k
        · rw [gI_ne (by omega)]; exact hv6 m k
        · rw [gI_ne (by omega)]; exact hv7 m k
        · rw [gI_ne (by omega)]; exact hv8 m k
  · rw [if_neg q]
    obtain ⟨σ0, e0, R0, F0⟩ := s_blame (d := d + 2) R (k := 3) (q := u) (by omega) u6
    obtain ⟨σ1, e1, R1, F1⟩ := s_readNumber (d := d) R0 (a := 2) (hi := 13) (by omega) (by omega)
    have pr : prI32 13 = ii 12 := rfl
    rw [pr] at e1
    have R2 := R1.w (a := 2 + 64 * h) (j := 0) (v := ii (min 100000 (nmV T n p))) (by omega) (by omega)
    rw [blm_blm] at R2
    refine ⟨_, ?_, ⟨_, R2⟩, ((S1_SH F0).tr (S1_SH F1)).w (Or.inr (by omega))⟩
    simp (disch := first | omega | exact b2_01 _ | exact ii0_01 | exact ii1_01 | (simp (disch := omega) only [lit_ii, dr_some, Option.isSome_some, gR_wI, Nat.add_mul_mod_self_left, Nat.reduceMod, ak20, ak21, ak22, ak23, ak24, ak25, ak26, ak27, ak28, ak29, ak30, ak31, ak32, ak33, ak34, ak35, ak36, an20, an21, an22, an23, an24, an25, an26, an27, an28, an29, an30, an31, an32, an33, an34, an35, an36, an37, an38, ne_eq, inR_ii, decide_eq_true_eq, lit_ii, of_ii, ii_eq, ii_lt, ii_le]; first | done | omega)) only [lit_ii, e_House_readFloors, b_House_readFloors_0, b_House_readFloors_7, b_House_readFloors_16, b_House_readFloors_24, v1, q, u5, e0, e1, dr_some, Option.isSome_some, gR_wI, Nat.add_mul_mod_self_left, Nat.reduceMod, ak20, ak21, ak22, ak23, ak24, ak25, ak26, ak27, ak28, ak29, ak30, ak31, ak32, ak33, ak34, ak35, ak36, an20, an21, an22, an23, an24, an25, an26, an27, an28, an29, an30, an31, an32, an33, an34, an35, an36, an37, an38, ↓reduceIte, bk_int, bk_void, bk_long, bkN_int, bkN_void, bkN_long, Nat.reduceAdd, Nat.reduceMul, Nat.reduceSub, Nat.reduceLT, Nat.reduceLeDiff, if_true, if_false, not_true_eq_false, not_false_eq_true, Bool.true_eq_false, Bool.false_eq_true, b2_eq0, Nat.add_zero, Nat.zero_add, Nat.not_lt_zero, Nat.zero_le, ite_true, ite_false, decide_true, decide_false, lit_ii, of_ii, le_T, le_F, lt_T, lt_F, eq_T, eq_F, ii_add, ii_mul, ii_nat, ii_le, ii_lt, ii_eq, inR_ii, ii_add0]
theorem c_piano {d n h p u : Nat} {T : Nat → Nat} {f : FA} {H : HH} {σ : HP} (R : RS σ T n p f u) (A : HA σ h H) (hh : 2 < h) : ∃ σ', callF (d + 4) m_House_readClause [.ref (2 + 64 * h), .ref 71, .int (ii 3)] σ = some (.inl none, σ') ∧ HQ σ' T n h f u (hsP T n (p, H)) ∧ Fs (SHs h) σ σ' := by
  have hp := R.2.2.2.2.2.2.1
  unfold hsP
  obtain ⟨σ1, e1, R1, F1⟩ := s_readNumber (d := d) R (a := 0) (hi := 301) (by omega) (by omega)
  have pr : prI32 301 = ii 300 := rfl
  rw [pr] at e1
  have R2 := R1.w (a := 2 + 64 * h) (j := 3) (v := ii (min 100000 (nmV T n p))) (by omega) (by omega)
  refine ⟨wI σ1 (2 + 64 * h) 3 (ii (min 100000 (nmV T n p))), ?_, ?_, (S1_SH F1).w (Or.inr (by omega))⟩
  · simp (disch := first | omega | exact b2_01 _ | exact ii0_01 | exact ii1_01 | (simp (disch := omega) only [lit_ii, dr_some, Option.isSome_some, gR_wI, Nat.add_mul_mod_self_left, Nat.reduceMod, ak20, ak21, ak22, ak23, ak24, ak25, ak26, ak27, ak28, ak29, ak30, ak31, ak32, ak33, ak34, ak35, ak36, an20, an21, an22, an23, an24, an25, an26, an27, an28, an29, an30, an31, an32, an33, an34, an35, an36, an37, an38, ne_eq, inR_ii, decide_eq_true_eq, lit_ii, of_ii, ii_eq, ii_lt, ii_le]; first | done | omega)) only [lit_ii, e_House_readClause, b_House_readClause_0, b_House_readClause_32, b_House_readClause_37, b_House_readClause_40, b_House_readClause_45, b_House_readClause_48, b_House_readClause_53, b_House_readClause_56, b_House_readClause_65, b_House_readClause_71, e1, dr_some, Option.isSome_some, gR_wI, Nat.add_mul_mod_self_left, Nat.reduceMod, ak20, ak21, ak22, ak23, ak24, ak25, ak26, ak27, ak28, ak29, ak30, ak31, ak32, ak33, ak34, ak35, ak36, an20, an21, an22, an23, an24, an25, an26, an27, an28, an29, an30, an31, an32, an33, an34, an35, an36, an37, an38, ↓reduceIte, bk_int, bk_void, bk_long, bkN_int, bkN_void, bkN_long, Nat.reduceAdd, Nat.reduceMul, Nat.reduceSub, Nat.reduceLT, Nat.reduceLeDiff, if_true, if_false, not_true_eq_false, not_false_eq_true, Bool.true_eq_false, Bool.false_eq_true, b2_eq0, Nat.add_zero, Nat.zero_add, Nat.not_lt_zero, Nat.zero_le, ite_true, ite_false, decide_true, decide_false, lit_ii, of_ii, le_T, le_F, lt_T, lt_F, eq_T, eq_F, ii_add, ii_mul, ii_nat, ii_le, ii_lt, ii_eq, inR_ii, ii_add0]
  · cases hv : numW T n 0 301 p with
    | inr F =>
      rw [(numW_f hp hv).2] at R2
      exact ⟨_, R2⟩
    | inl z =>
      obtain ⟨p1, v⟩ := z
      obtain ⟨a1, a2, a3, a4, a5, a6, a7⟩ := numW_fwd hp hv
      rw [a7, blm_none, ← a5] at R2
      have mn : min 100000 (nmV T n p) = v := by omega
      rw [mn] at R2 ⊢
      refine ⟨R2, fun _ => ?_⟩
      have A1 := A.fs F1 (fun a x y z => by unfold S1 at z; omega)
      obtain ⟨hF, hM, hC, hPi, hr4, hr5, hr6, hr7, hr8, hv4, hv5, hv6, hv7, hv8⟩ := A1
      refine ⟨?_, ?_, ?_, gI_at, hr4, hr5, hr6, hr7, hr8, fun m k => ?_, fun m k => ?_, fun m k => ?_, fun m k => ?_, fun m k => ?_⟩
      · rw [gI_nj (by decide)]; exact hF
      · rw [gI_nj (by decide)]; exact hM
      · rw [gI_nj (by decide)]; exact hC
      · rw [gI_ne (by omega)]; exact hv4 m k
      · rw [gI_ne (by omega)]; exact hv5 m k
      · rw [gI_ne (by omega)]; exact hv6 m k
      · rw [gI_ne (by omega)]; exact hv7 m k
      · rw [gI_ne (by omega)]; exact hv8 m k
theorem s_rdN {d a hi : Nat} {T : Nat → Nat} {n p u : Nat} {f : FA} {σ : HP} (A : RS σ T n p f u) (ha : a < 1000) (hh : hi ≤ 1000) : ∃ σ' v, callF (d + 3) m_Reader_readNumber [.ref 71, .int (ii a), .int (prI32 hi)] σ = some (.inl (some (.int (ii v))), σ') ∧ RS σ' T n (nmP T n p) (blm f (nmF T n p a hi)) u ∧ Fs S1 σ σ' ∧ (nmF T n p a hi = none → v = nmV T n p) := by
  obtain ⟨σ1, e1, R1, F1⟩ := s_readNumber (d := d) A ha hh
  refine ⟨σ1, _, e1, R1, F1, fun hf => ?_⟩
  have : nmV T n p < hi := by
    unfold nmF at hf
    split at hf
    · cases hf
    · split at hf
      · rename_i hv; exact hv.2
      · cases hf
  omega
theorem HA.card {σ σ1 σ3 : HP} {h v v' : Nat} {H : HH} (A : HA σ h H) (F1 : Fs S1 σ σ1) (F3 : Fs S1 (wI σ1 (22 + 64 * (h + 4)) (hc H) (ii v)) σ3) (hh : 2 < h) : HA (wI (wI σ3 (22 + 64 * (h + 5)) (hc H) (ii v')) (2 + 64 * h) 2 (ii (hc H + 1))) h (addC H v v') := by
  obtain ⟨hF, hM, hC, hPi, hr4, hr5, hr6, hr7, hr8, hv4, hv5, hv6, hv7, hv8⟩ := A
  have f1 := F1.R
  have f3 := F3.R
  have g3 : ∀ a j, a ≠ 71 → gI σ3 a j = gI (wI σ1 (22 + 64 * (h + 4)) (hc H) (ii v)) a j := fun a j z => F3.I z
  have g1 : ∀ a j, a ≠ 71 → gI σ1 a j = gI σ a j := fun a j z => F1.I z
  refine ⟨?_, ?_, gI_at, ?_, (f3 _ _).trans ((f1 _ _).trans hr4), (f3 _ _).trans ((f1 _ _).trans hr5), (f3 _ _).trans ((f1 _ _).trans hr6), (f3 _ _).trans ((f1 _ _).trans hr7), (f3 _ _).trans ((f1 _ _).trans hr8), fun m k => ?_, fun m k => ?_, fun m k => ?_, fun m k => ?_, fun m k => ?_⟩
  · rw [gI_nj (by decide), gI_ne (by omega), g3 _ _ (by omega), gI_ne (by omega), g1 _ _ (by omega)]; exact hF
  · rw [gI_nj (by decide), gI_ne (by omega), g3 _ _ (by omega), gI_ne (by omega), g1 _ _ (by omega)]; exact hM
  · rw [gI_nj (by decide), gI_ne (by omega), g3 _ _ (by omega), gI_ne (by omega), g1 _ _ (by omega)]; exact hPi
  · rw [gI_ne (by omega), gI_ne (by omega), g3 _ _ (by omega), gI_ne (by omega), g1 _ _ (by omega)]; exact hv4 m k
  · rw [gI_ne (by omega), gI_ne (by omega), g3 _ _ (by omega), gI_ne (by omega), g1 _ _ (by omega)]; exact hv5 m k
  · rw [gI_ne (by omega), gI_ne (by omega), g3 _ _ (by omega), gI_ne (by omega), g1 _ _ (by omega)]; exact hv6 m k
  · have k' : m < hc H + 1 := k
    rw [gI_ne (by omega), gI_ne (by omega), g3 _ _ (by omega)]
    show _ = ii (up1 (up1 H.2.2 (2 * hc H) v) (2 * hc H + 1) v' (2 * m))
    by_cases z : m = hc H
    · rw [z, gI_at, up1_ne (by omega), up1_at]
    · rw [gI_nj z, g1 _ _ (by omega), up1_ne (by omega), up1_ne (by omega)]
      exact hv7 m (by omega)
  · have k' : m < hc H + 1 := k
    rw [gI_ne (by omega)]
    show _ = ii (up1 (up1 H.2.2 (2 * hc H) v) (2 * hc H + 1) v' (2 * m + 1))
    by_cases z : m = hc H
    · rw [z, gI_at, up1_at]
    · rw [gI_nj z, g3 _ _ (by omega), gI_ne (by omega), g1 _ _ (by omega), up1_ne (by omega), up1_ne (by omega)]
      exact hv8 m (by omega)
theorem c_card {d n h p u : Nat} {T : Nat → Nat} {f : FA} {H : HH} {σ : HP} (R : RS σ T n p f u) (A : HA σ h H) (hh : 2 < h) (hc8 : hc H ≤ 8) : ∃ σ', callF (d + 4) m_House_readCard [.ref (2 + 64 * h), .ref 71] σ = some (.inl none, σ') ∧ HQ σ' T n h f u (hsK T n u (p, H)) ∧ Fs (SHs h) σ σ' := by
  have hp := R.2.2.2.2.2.2.1
  have u5 := R.2.2.2.2.2.1
  have u6 := R.2.2.2.2.2.2.2.2.1
  have hC := A.2.2.1
  unfold hsK
  by_cases q : hc H < 8
  · rw [if_pos q]
    obtain ⟨σ1, v, e1, R1, F1, V1⟩ := s_rdN (d := d) R (a := 1) (hi := 21) (by omega) (by omega)
    have pr : prI32 21 = ii 20 := rfl
    rw [pr] at e1
    have R2 := R1.w (a := 22 + 64 * (h + 4)) (j := hc H) (v := ii v) (by omega) (by omega)
    obtain ⟨σ3, v', e3, R3, F3, V3⟩ := s_rdN (d := d) R2 (a := 0) (hi := 10) (by omega) (by omega)
    have pr2 : prI32 10 = ii 9 := rfl
    rw [pr2] at e3
    have R4 := (R3.w (a := 22 + 64 * (h + 5)) (j := hc H) (v := ii v') (by omega) (by omega)).w (a := 2 + 64 * h) (j := 2) (v := ii (hc H + 1)) (by omega) (by omega)
    have A4 := A.card (v' := v') F1 F3 hh
    have f1 := F1.R
    have f3 := F3.R
    have w1 : gI σ1 (2 + 64 * h) 2 = ii (hc H) := (F1.I (by unfold S1; omega)).trans hC
    have w3 : gI σ3 (2 + 64 * h) 2 = ii (hc H) := by rw [F3.I (by unfold S1; omega), gI_ne (by omega), w1]
    have F04 : Fs (SHs h) σ (wI (wI σ3 (22 + 64 * (h + 5)) (hc H) (ii v')) (2 + 64 * h) 2 (ii (hc H + 1))) := Fs.w (Fs.w (Fs.tr (Fs.w (a := 22 + 64 * (h + 4)) (S1_SH F1) (Or.inr (by omega))) (S1_SH F3)) (Or.inr (by omega))) (Or.inr (by omega))
    have hr7 := A.2.2.2.2.2.2.2.1
    have hr8 := A.2.2.2.2.2.2.2.2.1
    refine ⟨wI (wI σ3 (22 + 64 * (h + 5)) (hc H) (ii v')) (2 + 64 * h) 2 (ii (hc H + 1)), ?_, ?_, F04⟩
    · simp (disch := first | omega | exact b2_01 _ | exact ii0_01 | exact ii1_01 | (simp (disch := omega) only [f1, f3, hr7, hr8, dr_some, Option.isSome_some, gR_wI, Nat.add_mul_mod_self_left, Nat.reduceMod, ak20, ak21, ak22, ak23, ak24, ak25, ak26, ak27, ak28, ak29, ak30, ak31, ak32, ak33, ak34, ak35, ak36, an20, an21, an22, an23, an24, an25, an26, an27, an28, an29, an30, an31, an32, an33, an34, an35, an36, an37, an38, ne_eq, inR_ii, decide_eq_true_eq, lit_ii, of_ii, ii_eq, ii_lt, ii_le]; first | done | omega)) only [f1, f3, hr7, hr8, e_House_readCard, b_House_readCard_0, b_House_readCard_9, b_House_readCard_18, b_House_readCard_19, b_House_readCard_34, b_House_readCard_37, b_House_readCard_52, b_House_readCard_55, hC, e1, s_put, w1, e3, w3, gI_ne, dr_some, Option.isSome_some, gR_wI, Nat.add_mul_mod_self_left, Nat.reduceMod, ak20, ak21, ak22, ak23, ak24, ak25, ak26, ak27, ak28, ak29, ak30, ak31, ak32, ak33, ak34, ak35, ak36, an20, an21, an22, an23, an24, an25, an26, an27, an28, an29, an30, an31, an32, an33, an34, an35, an36, an37, an38, ↓reduceIte, bk_int, bk_void, bk_long, bkN_int, bkN_void, bkN_long, Nat.reduceAdd, Nat.reduceMul, Nat.reduceSub, Nat.reduceLT, Nat.reduceLeDiff, if_true, if_false, not_true_eq_false, not_false_eq_true, Bool.true_eq_false, Bool.false_eq_true, b2_eq0, Nat.add_zero, Nat.zero_add, Nat.not_lt_zero, Nat.zero_le, ite_true, ite_false, decide_true, decide_false, lit_ii, of_ii, le_T, le_F, lt_T, lt_F, eq_T, eq_F, ii_add, ii_mul, ii_nat, ii_le, ii_lt, ii_eq, inR_ii, ii_add0]
    · cases hv : numW T n 1 21 p with
      | inr F =>
        rw [(numW_f hp hv).2, blm_blm] at R4
        exact ⟨_, R4⟩
      | inl z =>
        obtain ⟨p1, v1⟩ := z
        obtain ⟨a1, a2, a3, a4, a5, a6, a7⟩ := numW_fwd hp hv
        have V1' := V1 a7
        rw [a7, blm_none, ← a5] at R4
        rw [← a5] at V3
        simp only
        cases hv' : numW T n 0 10 p1 with
        | inr F =>
          rw [(numW_f a2 hv').2] at R4
          exact ⟨_, R4⟩
        | inl z' =>
          obtain ⟨p2, v2⟩ := z'
          obtain ⟨b1, b2, b3, b4, b5, b6, b7⟩ := numW_fwd a2 hv'
          rw [b7, blm_none, ← b5] at R4
          rw [← a6] at V1'
          have V3' := V3 b7
          rw [← b6] at V3'
          subst V1'
          subst V3'
          exact ⟨R4, fun _ => A4⟩
  · rw [if_neg q]
    obtain ⟨σ1, e1, R1, F1⟩ := s_blame (d := d + 2) R (k := 3) (q := u) (by omega) u6
    refine ⟨σ1, ?_, ⟨_, R1⟩, S1_SH F1⟩
    simp (disch := first | omega | exact b2_01 _ | exact ii0_01 | exact ii1_01 | (simp (disch := omega) only [lit_ii, dr_some, Option.isSome_some, gR_wI, Nat.add_mul_mod_self_left, Nat.reduceMod, ak20, ak21, ak22, ak23, ak24, ak25, ak26, ak27, ak28, ak29, ak30, ak31, ak32, ak33, ak34, ak35, ak36, an20, an21, an22, an23, an24, an25, an26, an27, an28, an29, an30, an31, an32, an33, an34, an35, an36, an37, an38, ne_eq, inR_ii, decide_eq_true_eq, lit_ii, of_ii, ii_eq, ii_lt, ii_le]; first | done | omega)) only [lit_ii, e_House_readCard, b_House_readCard_0, b_House_readCard_9, b_House_readCard_18, b_House_readCard_19, b_House_readCard_34, b_House_readCard_37, b_House_readCard_52, b_House_readCard_55, hC, q, u5, e1, dr_some, Option.isSome_some, gR_wI, Nat.add_mul_mod_self_left, Nat.reduceMod, ak20, ak21, ak22, ak23, ak24, ak25, ak26, ak27, ak28, ak29, ak30, ak31, ak32, ak33, ak34, ak35, ak36, an20, an21, an22, an23, an24, an25, an26, an27, an28, an29, an30, an31, an32, an33, an34, an35, an36, an37, an38, ↓reduceIte, bk_int, bk_void, bk_long, bkN_int, bkN_void, bkN_long, Nat.reduceAdd, Nat.reduceMul, Nat.reduceSub, Nat.reduceLT, Nat.reduceLeDiff, if_true, if_false, not_true_eq_false, not_false_eq_true, Bool.true_eq_false, Bool.false_eq_true, b2_eq0, Nat.add_zero, Nat.zero_add, Nat.not_lt_zero, Nat.zero_le, ite_true, ite_false, decide_true, decide_false, lit_ii, of_ii, le_T, le_F, lt_T, lt_F, eq_T, eq_F, ii_add, ii_mul, ii_nat, ii_le, ii_lt, ii_eq, inR_ii, ii_add0]
