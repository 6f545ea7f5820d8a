theorem nmV_1000 {T : Nat → Nat} {n p : Nat} (h : nmF T n p 0 1000 = none) : nmV T n p < 1009 := by
  unfold nmF at h
  unfold nmV
  split at h
  · cases h
  · split at h
    · rename_i z
      omega
    · cases h
theorem GU.un {T : Nat → Nat} {n : Nat} : ∀ r, GU (lwUn T n r) := by
  intro r
  induction r with
  | zero => exact GU.lu (Or.inl rfl) (fun p => nmV_1000)
  | succ r ih => exact GU.lu (Or.inr (GU.sum ih)) (fun p => nmV_1000)
theorem lwAll_w {T : Nat → Nat} {n : Nat} (hn : n ≤ 150) {s : LwT} (e : lwAll T n = .inl s) : wL s.2 := by
  unfold lwAll at e
  have hf := lwSum_fwd (T := T) (n := n) (fun s hs => lwUn_fwd (T := T) (n := n) 6 s hs) (0, 0, fun _ => 0) (Nat.zero_le _)
  cases h1 : lwSum T n (lwUn T n 6) (0, 0, fun _ => 0) with
  | inr F => rw [h1] at e; cases e
  | inl s1 =>
    rw [h1] at e hf
    obtain ⟨f1, f2, f3⟩ := hf
    replace e : (if sk T n s1.1 < n then (Sum.inr (1, sk T n s1.1) : PR LwT) else Sum.inl (sk T n s1.1, s1.2.1, s1.2.2)) = Sum.inl s := e
    by_cases z : sk T n s1.1 < n
    · rw [if_pos z] at e; cases e
    · rw [if_neg z] at e
      cases e
      obtain ⟨g1, g2⟩ := (GU.sum (T := T) (n := n) (GU.un 6)) (0, 0, fun _ => 0) s1 (fun k hk => absurd hk (Nat.not_lt_zero _)) h1
      have f3' : s1.2.1 + 0 ≤ 0 + s1.1 := f3
      exact ⟨by show s1.2.1 ≤ 150; omega, g2, g1⟩
