/-! what the law's text gives is a law -/
def GW (s : LwT) : Prop := ∀ k, k < s.2.1 → okC (s.2.2 k) ∧ (2000 ≤ s.2.2 k → 2 ≤ hgt s.2.2 k)
theorem hgt_congr {c c' : Nat → Nat} : ∀ n, (∀ k, k < n → c k = c' k) → hgt c n = hgt c' n := by
  intro n
  induction n with
  | zero => intro _; rfl
  | succ n ih =>
    intro h
    unfold hgt
    rw [ih (fun k hk => h k (by omega)), h n (by omega)]
theorem hgt_emt {s : LwT} {v : Nat} : hgt (emt s v).2.2 (emt s v).2.1 = if v < 2000 then hgt s.2.2 s.2.1 + 1 else hgt s.2.2 s.2.1 - 1 := by
  show (if up1 s.2.2 s.2.1 v s.2.1 < 2000 then hgt (up1 s.2.2 s.2.1 v) s.2.1 + 1 else hgt (up1 s.2.2 s.2.1 v) s.2.1 - 1) = _
  rw [up1_at, hgt_congr (c' := s.2.2) s.2.1 (fun k hk => up1_ne (by omega))]
theorem GW.emt {s : LwT} {v : Nat} (h : GW s) (hv : okC v) (h2 : 2000 ≤ v → 2 ≤ hgt s.2.2 s.2.1) : GW (emt s v) := by
  intro k hk
  have hk' : k < s.2.1 + 1 := hk
  show okC (up1 s.2.2 s.2.1 v k) ∧ (2000 ≤ up1 s.2.2 s.2.1 v k → 2 ≤ hgt (up1 s.2.2 s.2.1 v) k)
  have e : hgt (up1 s.2.2 s.2.1 v) k = hgt s.2.2 k := hgt_congr k (fun i hi => up1_ne (by omega))
  rw [e]
  by_cases z : k = s.2.1
  · rw [z, up1_at]
    exact ⟨hv, h2⟩
  · rw [up1_ne z]
    exact h k (by omega)
/-- a piece of the law's text adds one to the height -/
def GU (U : LwT → PR LwT) : Prop := ∀ s s', GW s → U s = .inl s' → GW s' ∧ hgt s'.2.2 s'.2.1 = hgt s.2.2 s.2.1 + 1
