theorem sgnR_2 {T : Nat → Nat} {n c : Nat} {s s' : LwT} (e : sgnR T n c s = .inl s') : s'.2 = s.2 := by
  unfold sgnR at e
  by_cases z : sgB T n s.1 c = true
  · rw [if_pos z] at e
    cases e
    rfl
  · rw [if_neg z] at e
    cases e
theorem GW.of2 {s s' : LwT} (h : GW s) (e : s'.2 = s.2) : GW s' ∧ hgt s'.2.2 s'.2.1 = hgt s.2.2 s.2.1 := by
  refine ⟨?_, by rw [e]⟩
  intro k hk
  rw [e] at hk ⊢
  exact h k hk
theorem GU.br {T : Nat → Nat} {n : Nat} {S : LwT → PR LwT} (hS : GU S) : GU (lwBr T n S) := by
  intro s s' h e
  unfold lwBr at e
  cases hu : S s with
  | inr F => rw [hu] at e; cases e
  | inl s1 =>
    rw [hu] at e
    obtain ⟨g1, g2⟩ := hS _ _ h hu
    obtain ⟨k1, k2⟩ := g1.of2 (sgnR_2 e)
    exact ⟨k1, by omega⟩
theorem GU.tw {T : Nat → Nat} {n j : Nat} {S : LwT → PR LwT} (hS : GU S) (hj : okC j) (hj2 : 2000 ≤ j) : GU (lwTw T n j S) := by
  intro s s' h e
  unfold lwTw at e
  cases h1 : sgnR T n 91 s with
  | inr F => rw [h1] at e; cases e
  | inl s1 =>
    rw [h1] at e
    obtain ⟨a1, a2⟩ := h.of2 (sgnR_2 h1)
    replace e : lwTw1 T n j S s1 = .inl s' := e
    unfold lwTw1 at e
    cases h2 : S s1 with
    | inr F => rw [h2] at e; cases e
    | inl s2 =>
      rw [h2] at e
      obtain ⟨b1, b2⟩ := hS _ _ a1 h2
      replace e : (match sgnR T n 44 s2 with
        | .inl s2 => lwTw2 T n j S s2
        | .inr F => .inr F) = .inl s' := e
      cases h3 : sgnR T n 44 s2 with
      | inr F => rw [h3] at e; cases e
      | inl s3 =>
        rw [h3] at e
        obtain ⟨c1, c2⟩ := b1.of2 (sgnR_2 h3)
        replace e : lwTw2 T n j S s3 = .inl s' := e
        unfold lwTw2 at e
        cases h4 : S s3 with
        | inr F => rw [h4] at e; cases e
        | inl s4 =>
          rw [h4] at e
          obtain ⟨d1, d2⟩ := hS _ _ c1 h4
          replace e : (match sgnR T n 93 s4 with
            | .inl s2 => (Sum.inl (emt s2 j) : PR LwT)
            | .inr F => Sum.inr F) = Sum.inl s' := e
          cases h5 : sgnR T n 93 s4 with
          | inr F => rw [h5] at e; cases e
          | inl s5 =>
            rw [h5] at e
            cases e
            obtain ⟨f1, f2⟩ := d1.of2 (sgnR_2 h5)
            refine ⟨f1.emt hj (fun _ => by omega), ?_⟩
            rw [hgt_emt, if_neg (by omega)]
            omega
theorem GU.lu {T : Nat → Nat} {n r : Nat} {S : LwT → PR LwT} (hS : r = 0 ∨ GU S) (hv : ∀ p, nmF T n p 0 1000 = none → nmV T n p < 1009) : GU (lwU T n S r) := by
  intro s s' h e
  unfold lwU at e
  by_cases z1 : sk T n s.1 < n ∧ T (sk T n s.1) = 40
  · rw [if_pos z1] at e
    by_cases z2 : r = 0
    · rw [if_pos z2] at e; cases e
    · rw [if_neg z2] at e
      exact (GU.br (T := T) (n := n) (hS.resolve_left z2)) (sk T n s.1 + 1, s.2.1, s.2.2) _ h e
  · rw [if_neg z1] at e
    by_cases z3 : sk T n s.1 < n ∧ isD T (sk T n s.1) = true
    · rw [if_pos z3] at e
      cases h1 : nmF T n s.1 0 1000 with
      | some F => rw [h1] at e; cases e
      | none =>
        rw [h1] at e
        cases e
        have hb := hv s.1 h1
        refine ⟨GW.emt (s := (nmP T n s.1, s.2.1, s.2.2)) h (Or.inl hb) (fun q => by omega), ?_⟩
        rw [hgt_emt, if_pos (by omega)]
    · rw [if_neg z3] at e
      cases h1 : wdX 2 T n s.1 with
      | none => rw [h1] at e; cases e
      | some x =>
        rw [h1] at e
        replace e : (if x < 9 then (Sum.inl (emt (wdP T n s.1, s.2.1, s.2.2) (1000 + x)) : PR LwT) else if r = 0 then .inr (3, sk T n s.1) else lwTw T n (if x = 9 then 2001 else 2002) S (wdP T n s.1, s.2.1, s.2.2)) = .inl s' := e
        by_cases z4 : x < 9
        · rw [if_pos z4] at e
          cases e
          refine ⟨GW.emt (s := (wdP T n s.1, s.2.1, s.2.2)) h (Or.inl (by omega)) (fun q => by omega), ?_⟩
          rw [hgt_emt, if_pos (by omega)]
        · rw [if_neg z4] at e
          by_cases z2 : r = 0
          · rw [if_pos z2] at e; cases e
          · rw [if_neg z2] at e
            refine (GU.tw (T := T) (n := n) (j := if x = 9 then 2001 else 2002) (hS.resolve_left z2) ?_ ?_) (wdP T n s.1, s.2.1, s.2.2) _ h e
            · unfold okC; split <;> omega
            · split <;> omega
