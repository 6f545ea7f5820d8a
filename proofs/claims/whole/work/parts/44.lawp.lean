/-! what a LAW's text says: a place, how many codes, the codes; or a fault -/
abbrev LwT : Type := Nat × Nat × (Nat → Nat)
abbrev PR (α : Type) : Type := α ⊕ (Nat × Nat)
def emt (s : LwT) (v : Nat) : LwT := (s.1, s.2.1 + 1, up1 s.2.2 s.2.1 v)
def lwC (T : Nat → Nat) (n : Nat) (U : LwT → PR LwT) (sg : Nat → Bool) : Nat → LwT → PR LwT
  | 0, s => .inl s
  | f + 1, s => if sk T n s.1 < n ∧ sg (T (sk T n s.1)) = true then (match U (sk T n s.1 + 1, s.2.1, s.2.2) with
    | .inl s' => lwC T n U sg f (emt s' (2000 + T (sk T n s.1)))
    | .inr F => .inr F) else .inl (sk T n s.1, s.2.1, s.2.2)
def isM (c : Nat) : Bool := decide (c = 42 ∨ c = 47 ∨ c = 37)
def isP (c : Nat) : Bool := decide (c = 43 ∨ c = 45)
def lwPrd (T : Nat → Nat) (n : Nat) (U : LwT → PR LwT) (s : LwT) : PR LwT := match U s with
  | .inl s' => lwC T n U isM (n + 1) s'
  | .inr F => .inr F
def lwSum (T : Nat → Nat) (n : Nat) (U : LwT → PR LwT) (s : LwT) : PR LwT := match lwPrd T n U s with
  | .inl s' => lwC T n (lwPrd T n U) isP (n + 1) s'
  | .inr F => .inr F
/-- a sign that must stand there -/
def sgnR (T : Nat → Nat) (n c : Nat) (s : LwT) : PR LwT := if sgB T n s.1 c then .inl (sk T n s.1 + 1, s.2.1, s.2.2) else .inr (1, sk T n s.1)
def lwBr (T : Nat → Nat) (n : Nat) (S : LwT → PR LwT) (s : LwT) : PR LwT := match S s with
  | .inl s' => sgnR T n 41 s'
  | .inr F => .inr F
def lwTw2 (T : Nat → Nat) (n j : Nat) (S : LwT → PR LwT) (s : LwT) : PR LwT := match S s with
  | .inl s' => (match sgnR T n 93 s' with
    | .inl s2 => .inl (emt s2 j)
    | .inr F => .inr F)
  | .inr F => .inr F
def lwTw1 (T : Nat → Nat) (n j : Nat) (S : LwT → PR LwT) (s : LwT) : PR LwT := match S s with
  | .inl s' => (match sgnR T n 44 s' with
    | .inl s2 => lwTw2 T n j S s2
    | .inr F => .inr F)
  | .inr F => .inr F
def lwTw (T : Nat → Nat) (n j : Nat) (S : LwT → PR LwT) (s : LwT) : PR LwT := match sgnR T n 91 s with
  | .inl s2 => lwTw1 T n j S s2
  | .inr F => .inr F
def lwU (T : Nat → Nat) (n : Nat) (S : LwT → PR LwT) (r : Nat) (s : LwT) : PR LwT :=
  if sk T n s.1 < n ∧ T (sk T n s.1) = 40 then (if r = 0 then .inr (3, sk T n s.1) else lwBr T n S (sk T n s.1 + 1, s.2.1, s.2.2))
  else if sk T n s.1 < n ∧ isD T (sk T n s.1) = true then (match nmF T n s.1 0 1000 with
    | none => .inl (emt (nmP T n s.1, s.2.1, s.2.2) (nmV T n s.1))
    | some F => .inr F)
  else (match wdX 2 T n s.1 with
    | none => .inr (1, sk T n s.1)
    | some x => if x < 9 then .inl (emt (wdP T n s.1, s.2.1, s.2.2) (1000 + x)) else if r = 0 then .inr (3, sk T n s.1) else lwTw T n (if x = 9 then 2001 else 2002) S (wdP T n s.1, s.2.1, s.2.2))
def lwUn (T : Nat → Nat) (n : Nat) : Nat → LwT → PR LwT
  | 0 => lwU T n (fun _ => .inr (0, 0)) 0
  | r + 1 => lwU T n (lwSum T n (lwUn T n r)) (r + 1)
/-! how far it gets, how many codes -/
def fwd (n : Nat) (s : LwT) (r : PR LwT) : Prop := match r with
  | .inl s' => s.1 < s'.1 ∧ s'.1 ≤ n ∧ s'.2.1 + s.1 ≤ s.2.1 + s'.1
  | .inr F => 1 ≤ F.1 ∧ F.1 ≤ 3 ∧ F.2 ≤ n
def fwdL (n : Nat) (s : LwT) (r : PR LwT) : Prop := match r with
  | .inl s' => s.1 ≤ s'.1 ∧ s'.1 ≤ n ∧ s'.2.1 + s.1 ≤ s.2.1 + s'.1
  | .inr F => 1 ≤ F.1 ∧ F.1 ≤ 3 ∧ F.2 ≤ n
theorem lwC_fwd {T : Nat → Nat} {n : Nat} {U : LwT → PR LwT} {sg : Nat → Bool} (hU : ∀ s : LwT, s.1 ≤ n → fwd n s (U s)) : ∀ f (s : LwT), s.1 ≤ n → fwdL n s (lwC T n U sg f s) := by
  intro f
  induction f with
  | zero => intro s hs; exact ⟨Nat.le_refl _, hs, Nat.le_refl _⟩
  | succ f ih =>
    intro s hs
    have h1 := sk_le (T := T) hs
    have h2 := sk_ge (T := T) hs
    unfold lwC
    split
    · rename_i q
      have h3 := hU (sk T n s.1 + 1, s.2.1, s.2.2) (by show sk T n s.1 + 1 ≤ n; omega)
      cases hu : U (sk T n s.1 + 1, s.2.1, s.2.2) with
      | inl s' =>
        rw [hu] at h3
        obtain ⟨a1, a2, a3⟩ := h3
        have h4 := ih (emt s' (2000 + T (sk T n s.1))) a2
        simp only at a1 a3 ⊢
        cases hr : lwC T n U sg f (emt s' (2000 + T (sk T n s.1))) with
        | inl s2 =>
          rw [hr] at h4
          obtain ⟨b1, b2, b3⟩ := h4
          simp only [emt] at b1 b3
          exact ⟨by omega, b2, by omega⟩
        | inr F => rw [hr] at h4; exact h4
      | inr F => rw [hu] at h3; exact h3
    · refine ⟨h2, h1, ?_⟩
      simp only
      omega
theorem lwPrd_fwd {T : Nat → Nat} {n : Nat} {U : LwT → PR LwT} (hU : ∀ s : LwT, s.1 ≤ n → fwd n s (U s)) (s : LwT) (hs : s.1 ≤ n) : fwd n s (lwPrd T n U s) := by
  unfold lwPrd
  have h1 := hU s hs
  cases hu : U s with
  | inr F => rw [hu] at h1; exact h1
  | inl s' =>
    rw [hu] at h1
    obtain ⟨a1, a2, a3⟩ := h1
    have h2 := lwC_fwd (T := T) (sg := isM) hU (n + 1) s' a2
    simp only
    cases hr : lwC T n U isM (n + 1) s' with
    | inl s2 =>
      rw [hr] at h2
      obtain ⟨b1, b2, b3⟩ := h2
      exact ⟨by omega, b2, by omega⟩
    | inr F => rw [hr] at h2; exact h2
theorem lwSum_fwd {T : Nat → Nat} {n : Nat} {U : LwT → PR LwT} (hU : ∀ s : LwT, s.1 ≤ n → fwd n s (U s)) (s : LwT) (hs : s.1 ≤ n) : fwd n s (lwSum T n U s) := by
  unfold lwSum
  have h1 := lwPrd_fwd (T := T) hU s hs
  cases hu : lwPrd T n U s with
  | inr F => rw [hu] at h1; exact h1
  | inl s' =>
    rw [hu] at h1
    obtain ⟨a1, a2, a3⟩ := h1
    have h2 := lwC_fwd (T := T) (sg := isP) (lwPrd_fwd (T := T) hU) (n + 1) s' a2
    simp only
    cases hr : lwC T n (lwPrd T n U) isP (n + 1) s' with
    | inl s2 =>
      rw [hr] at h2
      obtain ⟨b1, b2, b3⟩ := h2
      exact ⟨by omega, b2, by omega⟩
    | inr F => rw [hr] at h2; exact h2
theorem sgnR_fwd {T : Nat → Nat} {n c : Nat} (s : LwT) (hs : s.1 ≤ n) : fwd n s (sgnR T n c s) := by
  have h1 := sk_le (T := T) hs
  have h2 := sk_ge (T := T) hs
  unfold sgnR
  split
  · rename_i q
    have := of_decide_eq_true q
    refine ⟨by show s.1 < sk T n s.1 + 1; omega, by show sk T n s.1 + 1 ≤ n; omega, ?_⟩
    simp only
    omega
  · exact ⟨Nat.le_refl _, by show 1 ≤ 3; omega, h1⟩
/-! the words that a list has -/
def fmt (M : Nat → Nat → Bool) : List (Nat × Nat) → Nat → Option Nat
  | [], _ => none
  | (a, b) :: r, ix => if M a b then some ix else fmt M r (ix + 1)
def sgs1 : List (Nat × Nat) := [(0, 6), (7, 10), (11, 15), (16, 21)]
def sgs2 : List (Nat × Nat) := [(0, 6), (7, 11), (12, 18), (19, 25), (26, 31), (32, 37), (38, 43), (44, 49), (50, 53), (54, 59), (60, 64)]
def sgs3 : List (Nat × Nat) := [(0, 5), (6, 11), (12, 15), (16, 22), (23, 25), (26, 30), (31, 36), (37, 42)]
theorem scn1 (M : Nat → Nat → Bool) : scn 1 M (slen 1 + 1) 0 0 0 = fmt M sgs1 0 := rfl
theorem scn2 (M : Nat → Nat → Bool) : scn 2 M (slen 2 + 1) 0 0 0 = fmt M sgs2 0 := rfl
theorem scn3 (M : Nat → Nat → Bool) : scn 3 M (slen 3 + 1) 0 0 0 = fmt M sgs3 0 := rfl
theorem fmt_some {M : Nat → Nat → Bool} : ∀ l ix x, fmt M l ix = some x → ∃ s, s ∈ l ∧ M s.1 s.2 = true ∧ x < ix + l.length := by
  intro l
  induction l with
  | nil => intro ix x h; cases h
  | cons s r ih =>
    intro ix x h
    obtain ⟨a, b⟩ := s
    unfold fmt at h
    split at h
    · rename_i hm
      cases h
      exact ⟨(a, b), List.mem_cons_self, hm, by simp only [List.length_cons]; omega⟩
    · obtain ⟨s', h1, h2, h3⟩ := ih _ _ h
      exact ⟨s', List.mem_cons_of_mem _ h1, h2, by simp only [List.length_cons]; omega⟩
theorem wl_len {i : Nat} {T : Nat → Nat} {q e a b : Nat} (h : wlB i T q e a b = true) : b - a = e - q := by
  unfold wlB at h
  rw [Bool.and_eq_true] at h
  exact of_decide_eq_true h.1
theorem wd1_fwd {T : Nat → Nat} {n p x : Nat} (h : wdX 1 T n p = some x) : x < 4 ∧ sk T n p < wdP T n p := by
  unfold wdX wIx at h
  rw [scn1] at h
  obtain ⟨s, h1, h2, h3⟩ := fmt_some _ _ _ h
  have h4 := wl_len h2
  have h5 : ∀ s ∈ sgs1, s.1 < s.2 := by decide
  have h6 := h5 s h1
  unfold wdP
  exact ⟨h3, by omega⟩
theorem wd2_fwd {T : Nat → Nat} {n p x : Nat} (h : wdX 2 T n p = some x) : x < 11 ∧ sk T n p < wdP T n p := by
  unfold wdX wIx at h
  rw [scn2] at h
  obtain ⟨s, h1, h2, h3⟩ := fmt_some _ _ _ h
  have h4 := wl_len h2
  have h5 : ∀ s ∈ sgs2, s.1 < s.2 := by decide
  have h6 := h5 s h1
  unfold wdP
  exact ⟨h3, by omega⟩
theorem wd3_fwd {T : Nat → Nat} {n p x : Nat} (h : wdX 3 T n p = some x) : x < 8 ∧ sk T n p + 2 ≤ wdP T n p := by
  unfold wdX wIx at h
  rw [scn3] at h
  obtain ⟨s, h1, h2, h3⟩ := fmt_some _ _ _ h
  have h4 := wl_len h2
  have h5 : ∀ s ∈ sgs3, s.1 + 2 ≤ s.2 := by decide
  have h6 := h5 s h1
  unfold wdP
  exact ⟨h3, by omega⟩
theorem sgnR_k {T : Nat → Nat} {n c : Nat} {s s' : LwT} (h : sgnR T n c s = .inl s') : s'.2 = s.2 ∧ s'.1 = sk T n s.1 + 1 ∧ sgB T n s.1 c = true := by
  unfold sgnR at h
  split at h
  · cases h
    exact ⟨rfl, rfl, by assumption⟩
  · cases h
theorem lwTw_fwd {T : Nat → Nat} {n j : Nat} {S : LwT → PR LwT} (hS : ∀ s : LwT, s.1 ≤ n → fwd n s (S s)) (s : LwT) (hs : s.1 ≤ n) : fwd n s (lwTw T n j S s) := by
  unfold lwTw
  have h1 := sgnR_fwd (T := T) (c := 91) s hs
  cases hu : sgnR T n 91 s with
  | inr F => rw [hu] at h1; exact h1
  | inl s1 =>
    rw [hu] at h1
    obtain ⟨a1, a2, a3⟩ := h1
    have h2 := hS s1 a2
    simp only [lwTw1]
    cases hv : S s1 with
    | inr F => rw [hv] at h2; exact h2
    | inl s2 =>
      rw [hv] at h2
      obtain ⟨b1, b2, b3⟩ := h2
      have h3 := sgnR_fwd (T := T) (c := 44) s2 b2
      simp only
      cases hw : sgnR T n 44 s2 with
      | inr F => rw [hw] at h3; exact h3
      | inl s3 =>
        rw [hw] at h3
        obtain ⟨c1, c2, c3⟩ := h3
        have h4 := hS s3 c2
        simp only [lwTw2]
        cases hx : S s3 with
        | inr F => rw [hx] at h4; exact h4
        | inl s4 =>
          rw [hx] at h4
          obtain ⟨d1, d2, d3⟩ := h4
          have h5 := sgnR_fwd (T := T) (c := 93) s4 d2
          simp only
          cases hy : sgnR T n 93 s4 with
          | inr F => rw [hy] at h5; exact h5
          | inl s5 =>
            rw [hy] at h5
            obtain ⟨e1, e2, e3⟩ := h5
            refine ⟨by show s.1 < s5.1; omega, e2, ?_⟩
            show s5.2.1 + 1 + s.1 ≤ s.2.1 + s5.1
            have k1 := congrArg Prod.fst (sgnR_k hu).1
            omega
theorem lwU_fwd {T : Nat → Nat} {n r : Nat} {S : LwT → PR LwT} (hS : r = 0 ∨ ∀ s : LwT, s.1 ≤ n → fwd n s (S s)) (s : LwT) (hs : s.1 ≤ n) : fwd n s (lwU T n S r s) := by
  have h1 := sk_le (T := T) hs
  have h2 := sk_ge (T := T) hs
  unfold lwU
  split
  · rename_i q
    split
    · exact ⟨by show 1 ≤ 3; omega, Nat.le_refl _, h1⟩
    · rename_i hr
      have hS' : ∀ s : LwT, s.1 ≤ n → fwd n s (S s) := hS.resolve_left hr
      have h3 := hS' (sk T n s.1 + 1, s.2.1, s.2.2) (by show sk T n s.1 + 1 ≤ n; omega)
      unfold lwBr
      cases hu : S (sk T n s.1 + 1, s.2.1, s.2.2) with
      | inr F => rw [hu] at h3; exact h3
      | inl s1 =>
        rw [hu] at h3
        obtain ⟨a1, a2, a3⟩ := h3
        have h4 := sgnR_fwd (T := T) (c := 41) s1 a2
        simp only at a1 a3 ⊢
        cases hv : sgnR T n 41 s1 with
        | inr F => rw [hv] at h4; exact h4
        | inl s2 =>
          rw [hv] at h4
          obtain ⟨b1, b2, b3⟩ := h4
          exact ⟨by omega, b2, by omega⟩
  · split
    · rename_i q
      have g1 := nmP_le (T := T) hs
      cases hf : nmF T n s.1 0 1000 with
      | none =>
        have hne : ¬ dgE T n (sk T n s.1) = sk T n s.1 := by
          intro e
          unfold nmF at hf
          rw [if_pos e] at hf
          cases hf
        have g2 := rn_ge (P := isD T) h1
        refine ⟨?_, g1.2, ?_⟩
        · show s.1 < nmP T n s.1
          unfold nmP
          have : dgE T n (sk T n s.1) = rn (isD T) n (sk T n s.1) := rfl
          omega
        · show s.2.1 + 1 + s.1 ≤ s.2.1 + nmP T n s.1
          unfold nmP
          have : dgE T n (sk T n s.1) = rn (isD T) n (sk T n s.1) := rfl
          omega
      | some F =>
        unfold nmF at hf
        split at hf
        · cases hf; exact ⟨Nat.le_refl _, by show 1 ≤ 3; omega, h1⟩
        · split at hf
          · cases hf
          · cases hf; exact ⟨by show 1 ≤ 2; omega, by show 2 ≤ 3; omega, h1⟩
    · cases hw : wdX 2 T n s.1 with
      | none => exact ⟨Nat.le_refl _, by show 1 ≤ 3; omega, h1⟩
      | some x =>
        have g1 := wd2_fwd hw
        have g2 := wdP_le (T := T) hs
        simp only
        split
        · refine ⟨?_, g2.2, ?_⟩
          · show s.1 < wdP T n s.1
            omega
          · show s.2.1 + 1 + s.1 ≤ s.2.1 + wdP T n s.1
            omega
        · split
          · exact ⟨by show 1 ≤ 3; omega, Nat.le_refl _, h1⟩
          · rename_i hr
            have hS' : ∀ s : LwT, s.1 ≤ n → fwd n s (S s) := hS.resolve_left hr
            have h3 := lwTw_fwd (T := T) (j := if x = 9 then 2001 else 2002) hS' (wdP T n s.1, s.2.1, s.2.2) g2.2
            cases hv : lwTw T n (if x = 9 then 2001 else 2002) S (wdP T n s.1, s.2.1, s.2.2) with
            | inr F => rw [hv] at h3; exact h3
            | inl s2 =>
              rw [hv] at h3
              obtain ⟨b1, b2, b3⟩ := h3
              simp only at b1 b3
              exact ⟨by omega, b2, by omega⟩
theorem lwUn_fwd {T : Nat → Nat} {n : Nat} : ∀ r (s : LwT), s.1 ≤ n → fwd n s (lwUn T n r s) := by
  intro r
  induction r with
  | zero => intro s hs; exact lwU_fwd (Or.inl rfl) s hs
  | succ r ih => intro s hs; exact lwU_fwd (Or.inr (lwSum_fwd ih)) s hs
/-! THE CLASS: its law's reader -/
def LC (σ : HP) (l k : Nat) (c : Nat → Nat) : Prop := gR σ (4 + 64 * l) 0 = some (29 + 64 * (l + 1)) ∧ gI σ (4 + 64 * l) 3 = ii k ∧ ∀ i, i < k → gI σ (29 + 64 * (l + 1)) i = ii (c i)
def SL (l a : Nat) : Prop := a = 71 ∨ a = 4 + 64 * l ∨ a = 29 + 64 * (l + 1)
theorem LC.fs {S : Nat → Prop} {σ σ' : HP} {l k : Nat} {c : Nat → Nat} (A : LC σ l k c) (F : Fs S σ σ') (h1 : ¬ S (4 + 64 * l)) (h2 : ¬ S (29 + 64 * (l + 1))) : LC σ' l k c :=
  ⟨(F.R _ _).trans A.1, (F.I h1).trans A.2.1, fun i hi => (F.I h2).trans (A.2.2 i hi)⟩
theorem S1_SL {l : Nat} {σ σ' : HP} (F : Fs S1 σ σ') : Fs (SL l) σ σ' := F.mono (fun a z => Or.inl z)
theorem s_putCode {d l k v : Nat} {c : Nat → Nat} {σ : HP} (A : LC σ l k c) (hk : k < 150) : ∃ σ', callF (d + 1) m_Law_putCode [.ref (4 + 64 * l), .int (ii v)] σ = some (.inl none, σ') ∧ LC σ' l (k + 1) (up1 c k v) ∧ Fs (fun a => a = 4 + 64 * l ∨ a = 29 + 64 * (l + 1)) σ σ' := by
  obtain ⟨r0, v3, vc⟩ := A
  refine ⟨wI (wI σ (29 + 64 * (l + 1)) k (ii v)) (4 + 64 * l) 3 (ii (k + 1)), ?_, ⟨r0, gI_at, fun i hi => ?_⟩, Fs.w (Fs.w Fs.rf (Or.inr rfl)) (Or.inl rfl)⟩
  · simp (disch := first | omega | exact b2_01 _ | exact ii0_01 | exact ii1_01 | (simp (disch := omega) only [r0, v3, dr_some, Option.isSome_some, gR_wI, Nat.add_mul_mod_self_left, Nat.reduceMod, ak20, ak21, ak22, ak23, ak24, ak25, ak26, ak27, ak28, ak29, ak30, ak31, ak32, ak33, ak34, ak35, ak36, an20, an21, an22, an23, an24, an25, an26, an27, an28, an29, an30, an31, an32, an33, an34, an35, an36, an37, an38, ne_eq, inR_ii, decide_eq_true_eq, lit_ii, of_ii, ii_eq, ii_lt, ii_le]; first | done | omega)) only [r0, v3, e_Law_putCode, b_Law_putCode_0, b_Law_putCode_7, b_Law_putCode_19, b_Law_putCode_39, gI_ne, dr_some, Option.isSome_some, gR_wI, Nat.add_mul_mod_self_left, Nat.reduceMod, ak20, ak21, ak22, ak23, ak24, ak25, ak26, ak27, ak28, ak29, ak30, ak31, ak32, ak33, ak34, ak35, ak36, an20, an21, an22, an23, an24, an25, an26, an27, an28, an29, an30, an31, an32, an33, an34, an35, an36, an37, an38, ↓reduceIte, bk_int, bk_void, bk_long, bkN_int, bkN_void, bkN_long, Nat.reduceAdd, Nat.reduceMul, Nat.reduceSub, Nat.reduceLT, Nat.reduceLeDiff, if_true, if_false, not_true_eq_false, not_false_eq_true, Bool.true_eq_false, Bool.false_eq_true, b2_eq0, Nat.add_zero, Nat.zero_add, Nat.not_lt_zero, Nat.zero_le, ite_true, ite_false, decide_true, decide_false, lit_ii, of_ii, le_T, le_F, lt_T, lt_F, eq_T, eq_F, ii_add, ii_mul, ii_nat, ii_le, ii_lt, ii_eq, inR_ii, ii_add0]
  · rw [gI_ne (by omega), gI_row]
    by_cases q : i = k
    · rw [if_pos q, q, up1_at]
    · rw [if_neg q, up1_ne q]
      exact vc i (by omega)
/-- whatever the law's size -/
theorem s_putCodex {d l : Nat} {x : Int32} {σ : HP} (r0 : gR σ (4 + 64 * l) 0 = some (29 + 64 * (l + 1))) : ∃ σ', callF (d + 1) m_Law_putCode [.ref (4 + 64 * l), .int x] σ = some (.inl none, σ') ∧ Fs (fun a => a = 4 + 64 * l ∨ a = 29 + 64 * (l + 1)) σ σ' := by
  rw [e_Law_putCode, b_Law_putCode_0 (by omega)]
  have e9 : (29 + 64 * (l + 1)) % 64 = 29 := by omega
  by_cases h0 : gI σ (4 + 64 * l) 3 < 0
  · rw [if_pos h0, b_Law_putCode_39]
    exact ⟨_, rfl, Fs.rf⟩
  · rw [if_neg h0, b_Law_putCode_7 (by omega) (by rw [r0]; rfl) (by rw [r0, dr_some, e9]; decide)]
    rw [r0, dr_some, e9]
    by_cases h1 : Int32.ofNat (alen 29) ≤ gI σ (4 + 64 * l) 3
    · rw [if_pos h1, b_Law_putCode_39]
      exact ⟨_, rfl, Fs.rf⟩
    · have hin : inR (gI σ (4 + 64 * l) 3) (alen ((dr (gR σ (4 + 64 * l) 0)) % 64)) = true := by
        rw [r0, dr_some, e9]
        unfold inR
        refine decide_eq_true ?_
        rintro (q | q)
        · exact h0 q
        · apply h1
          rw [Int32.le_iff_toInt_le]
          have e1 : (Int32.ofNat (alen 29)).toInt = 150 := rfl
          rw [e1]
          have e2 := Int32.cast_toNatClampNeg (gI σ (4 + 64 * l) 3) (Int32.not_lt.mp h0)
          have e3 : alen 29 = 150 := rfl
          omega
      rw [if_neg h1, b_Law_putCode_19 (by omega) (by rw [r0]; rfl) (by rw [r0, dr_some, e9]; rfl) hin, b_Law_putCode_39]
      refine ⟨_, rfl, Fs.w (Fs.w Fs.rf (Or.inr (by rw [r0]; rfl))) (Or.inl rfl)⟩
/-- what has become of a text: read so far, or a fault -/
def LQ (σ : HP) (T : Nat → Nat) (n l : Nat) (r : PR LwT) : Prop := match r with
  | .inl s => (∃ u, RS σ T n s.1 none u) ∧ LC σ l s.2.1 s.2.2
  | .inr F => ∃ p u, RS σ T n p (some F) u
def UC (T : Nat → Nat) (n l : Nat) (m : MM) (o e : Nat) (U : LwT → PR LwT) : Prop := ∀ (σ : HP) (s : LwT) (u : Nat), RS σ T n s.1 none u → LC σ l s.2.1 s.2.2 → s.2.1 ≤ s.1 → ∃ σ', callF e m [.ref (4 + 64 * l), .ref 71, .int (ii o)] σ = some (.inl none, σ') ∧ LQ σ' T n l (U s) ∧ Fs (SL l) σ σ'
