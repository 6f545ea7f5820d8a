/-! what the law's text gives is a law -/
def GW (s : LwT) : Prop := ∀ k, k < s.2.1 → okC (s.2.2 k) ∧ (2000 ≤ s.2.2 k → 2 ≤ hgt s.2.2 k)
theorem hgt_congr {c c' : Nat → Nat} : ∀ n, (∀ k, k < n → c k = c' k) → hgt c n = hgt c' n := by
  intro n
  induction n with
  | zero => intro _; rfl
  | succ n ih =>
    intro h
    unfold hgt
    rw [ih (fun k hk => h k (by omega)), h n (by omega)]
theorem hgt_emt {s : LwT} {v : Nat} : hgt (emt s v).2.2 (emt s v).2.1 = if v < 2000 then hgt s.2.2 s.2.1 + 1 else hgt s.2.2 s.2.1 - 1 := by
  show (if up1 s.2.2 s.2.1 v s.2.1 < 2000 then hgt (up1 s.2.2 s.2.1 v) s.2.1 + 1 else hgt (up1 s.2.2 s.2.1 v) s.2.1 - 1) = _
  rw [up1_at, hgt_congr (c' := s.2.2) s.2.1 (fun k hk => up1_ne (by omega))]
theorem GW.emt {s : LwT} {v : Nat} (h : GW s) (hv : okC v) (h2 : 2000 ≤ v → 2 ≤ hgt s.2.2 s.2.1) : GW (emt s v) := by
  intro k hk
  have hk' : k < s.2.1 + 1 := hk
  show okC (up1 s.2.2 s.2.1 v k) ∧ (2000 ≤ up1 s.2.2 s.2.1 v k → 2 ≤ hgt (up1 s.2.2 s.2.1 v) k)
  have e : hgt (up1 s.2.2 s.2.1 v) k = hgt s.2.2 k := hgt_congr k (fun i hi => up1_ne (by omega))
  rw [e]
  by_cases z : k = s.2.1
  · rw [z, up1_at]
    exact ⟨hv, h2⟩
  · rw [up1_ne z]
    exact h k (by omega)
/-- a piece of the law's text adds one to the height -/
def GU (U : LwT → PR LwT) : Prop := ∀ s s', GW s → U s = .inl s' → GW s' ∧ hgt s'.2.2 s'.2.1 = hgt s.2.2 s.2.1 + 1
theorem GU.chain {T : Nat → Nat} {n : Nat} {U : LwT → PR LwT} {sg : Nat → Bool} (hU : GU U) (hs : ∀ c, sg c = true → okC (2000 + c)) : ∀ f s s', GW s → 1 ≤ hgt s.2.2 s.2.1 → lwC T n U sg f s = .inl s' → GW s' ∧ hgt s'.2.2 s'.2.1 = hgt s.2.2 s.2.1 := by
  intro f
  induction f with
  | zero =>
    intro s s' h _ e
    cases e
    exact ⟨h, rfl⟩
  | succ f ih =>
    intro s s' h h1 e
    unfold lwC at e
    by_cases z : sk T n s.1 < n ∧ sg (T (sk T n s.1)) = true
    · rw [if_pos z] at e
      cases hu : U (sk T n s.1 + 1, s.2.1, s.2.2) with
      | inr F => rw [hu] at e; cases e
      | inl s1 =>
        rw [hu] at e
        obtain ⟨g1, g2⟩ := hU _ _ (show GW (sk T n s.1 + 1, s.2.1, s.2.2) from h) hu
        have g2' : hgt s1.2.2 s1.2.1 = hgt s.2.2 s.2.1 + 1 := g2
        have g3 := g1.emt (v := 2000 + T (sk T n s.1)) (hs _ z.2) (fun _ => by omega)
        have g4 := hgt_emt (s := s1) (v := 2000 + T (sk T n s.1))
        rw [if_neg (by omega)] at g4
        obtain ⟨k1, k2⟩ := ih _ _ g3 (by omega) e
        exact ⟨k1, by omega⟩
    · rw [if_neg z] at e
      cases e
      exact ⟨h, rfl⟩
theorem okM (c : Nat) (h : isM c = true) : okC (2000 + c) := by
  have := of_decide_eq_true h
  unfold okC
  omega
theorem okP (c : Nat) (h : isP c = true) : okC (2000 + c) := by
  have := of_decide_eq_true h
  unfold okC
  omega
theorem GU.prd {T : Nat → Nat} {n : Nat} {U : LwT → PR LwT} (hU : GU U) : GU (lwPrd T n U) := by
  intro s s' h e
  unfold lwPrd at e
  cases hu : U s with
  | inr F => rw [hu] at e; cases e
  | inl s1 =>
    rw [hu] at e
    obtain ⟨g1, g2⟩ := hU _ _ h hu
    obtain ⟨k1, k2⟩ := hU.chain okM _ _ _ g1 (by omega) e
    exact ⟨k1, by omega⟩
theorem GU.sum {T : Nat → Nat} {n : Nat} {U : LwT → PR LwT} (hU : GU U) : GU (lwSum T n U) := by
  intro s s' h e
  unfold lwSum at e
  cases hu : lwPrd T n U s with
  | inr F => rw [hu] at e; cases e
  | inl s1 =>
    rw [hu] at e
    obtain ⟨g1, g2⟩ := hU.prd _ _ h hu
    obtain ⟨k1, k2⟩ := (GU.prd (T := T) (n := n) hU).chain okP _ _ _ g1 (by omega) e
    exact ⟨k1, by omega⟩
