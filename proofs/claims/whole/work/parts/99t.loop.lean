/-! the law's loop -/
def RL (N Z : Nat) (o : Option Res) : Prop := ∃ σ, o = some (.inl (some (.int 1)), σ) ∧ hN σ ≤ N ∧ hS σ ≤ Z
theorem RL.ite {N Z : Nat} {c : Prop} [Decidable c] {a b : Option Res} (h1 : c → RL N Z a) (h2 : ¬ c → RL N Z b) : RL N Z (if c then a else b) := by
  by_cases h : c
  · rw [if_pos h]; exact h1 h
  · rw [if_neg h]; exact h2 h
theorem lt10 {L p : Nat} (hL : L ≤ 640) (hp : p ≤ 10000) : Int32.ofNat L - 10 < ii p ↔ L < p + 10 := by
  show ii L - ii 10 < ii p ↔ _
  rw [Int32.lt_iff_toInt_lt, ii_dint (by omega) (by omega), ii_int (by omega)]
  omega
theorem lw_loop {e N Z L : Nat} (hL6 : L ≤ 640) : ∀ r k p σ (l5 l6 l7 : Option Value), p = 10 * k → k ≤ 100 → L < 10 * (k + r) → WJ σ → hL σ = L → hN σ + 12 * r ≤ N → hS σ + 400 * r ≤ Z → RL N Z (runF (callF (e + 71)) (e + 71) m_LL_lawz (23, [some (.ref 18), some (.ref 11), some (.ref 3980), some (.ref 5602), some (.int (ii p)), l5, l6, l7], [], σ)) := by
  intro r
  induction r with
  | zero =>
    intro k p σ l5 l6 l7 hp hk hr W eL h1 h2
    rw [b_LL_lawz_23, eL, if_pos ((lt10 hL6 (by omega)).mpr (by omega)), b_LL_lawz_2586]
    exact ⟨σ, rfl, by omega, by omega⟩
  | succ r ih =>
    intro k p σ l5 l6 l7 hp hk hr W eL h1 h2
    rw [b_LL_lawz_23]
    refine RL.ite (fun _ => ?_) (fun z => ?_)
    · rw [b_LL_lawz_2586]
      exact ⟨σ, rfl, by omega, by omega⟩
    · rw [eL, lt10 hL6 (by omega)] at z
      have hp' : p + 10 ≤ hL σ := by omega
      have h6 : hL σ ≤ 640 := by omega
      have k99 : k + 1 ≤ 100 := by omega
      have st0 : ∀ σ2 (m5 m6 m7 : Option Value), WJ σ2 → OKj σ σ2 → RL N Z (runF (callF (e + 71)) (e + 71) m_LL_lawz (2580, [some (.ref 18), some (.ref 11), some (.ref 3980), some (.ref 5602), some (.int (ii p)), m5, m6, m7], [], σ2)) := by
        intro σ2 m5 m6 m7 W2 O2
        rw [b_LL_lawz_2580, show ii p + 10 = ii (p + 10) from ii_add p 10]
        exact ih (k + 1) (p + 10) σ2 m5 m6 m7 (by omega) k99 (by omega) W2 (O2.1.1.trans eL) (by have := O2.2.1; omega) (by have := O2.2.2; omega)
      have stp : ∀ pc, LCz (e + 71) pc p σ → RL N Z (runF (callF (e + 71)) (e + 71) m_LL_lawz (pc, [some (.ref 18), some (.ref 11), some (.ref 3980), some (.ref 5602), some (.int (ii p)), l5, l6, l7], [], σ)) := by
        intro pc h
        obtain ⟨σ2, m5, m6, m7, e2, W2, O2⟩ := h l5 l6 l7
        rw [e2]
        exact st0 σ2 m5 m6 m7 W2 O2
      rw [b_LL_lawz_33 (by rw [inR_ii (by omega)]; exact decide_eq_true (by omega))]
      refine RL.ite (fun _ => stp _ (cz_feed W hp' h6)) (fun _ => ?_)
      refine RL.ite (fun _ => stp _ (cz_house W hp' h6)) (fun _ => ?_)
      refine RL.ite (fun _ => stp _ (cz_law W hp' h6)) (fun _ => ?_)
      refine RL.ite (fun _ => stp _ (cz_work W hp' h6)) (fun _ => ?_)
      refine RL.ite (fun _ => stp _ (cz_book W hp' h6)) (fun _ => ?_)
      refine RL.ite (fun _ => stp _ (cz_fault W hp' h6)) (fun _ => ?_)
      refine RL.ite (fun _ => stp _ (cz_undo W hp' h6)) (fun _ => ?_)
      refine RL.ite (fun _ => stp _ (cz_told W hp' h6)) (fun _ => ?_)
      refine RL.ite (fun _ => stp _ (cz_man W hp' h6)) (fun _ => ?_)
      refine RL.ite (fun _ => stp _ (cz_card W hp' h6)) (fun _ => ?_)
      refine RL.ite (fun _ => stp _ (cz_heard W hp' h6)) (fun _ => ?_)
      refine RL.ite (fun _ => stp _ (cz_swells W hp' h6)) (fun _ => ?_)
      refine RL.ite (fun _ => stp _ (cz_would W hp' h6)) (fun _ => ?_)
      refine RL.ite (fun _ => stp _ (cz_ahead W hp' h6)) (fun _ => ?_)
      refine RL.ite (fun _ => stp _ (cz_to W hp' h6)) (fun _ => ?_)
      refine RL.ite (fun _ => stp _ (cz_rides W hp' h6)) (fun _ => ?_)
      refine RL.ite (fun _ => stp _ (cz_couple W hp' h6)) (fun _ => ?_)
      refine RL.ite (fun _ => stp _ (cz_meet W hp' h6)) (fun _ => ?_)
      refine RL.ite (fun _ => stp _ (cz_cheapest W hp' h6)) (fun _ => ?_)
      refine RL.ite (fun _ => stp _ (cz_fits W hp' h6)) (fun _ => ?_)
      refine RL.ite (fun _ => stp _ (cz_look W hp' h6)) (fun _ => ?_)
      refine RL.ite (fun _ => stp _ (cz_streak W hp' h6)) (fun _ => ?_)
      refine RL.ite (fun _ => stp _ (cz_flatter W hp' h6)) (fun _ => ?_)
      refine RL.ite (fun _ => stp _ (cz_breath W hp' h6)) (fun _ => ?_)
      refine RL.ite (fun _ => stp _ (cz_heaviest W hp' h6)) (fun _ => ?_)
      refine RL.ite (fun _ => stp _ (cz_waiting W hp' h6)) (fun _ => ?_)
      refine RL.ite (fun _ => stp _ (cz_floor W hp' h6)) (fun _ => ?_)
      refine RL.ite (fun _ => stp _ (cz_sweetest W hp' h6)) (fun _ => ?_)
      refine RL.ite (fun _ => stp _ (cz_lacks W hp' h6)) (fun _ => ?_)
      refine RL.ite (fun _ => stp _ (cz_truest W hp' h6)) (fun _ => ?_)
      refine RL.ite (fun _ => stp _ (cz_proud W hp' h6)) (fun _ => ?_)
      refine RL.ite (fun _ => stp _ (cz_liked W hp' h6)) (fun _ => ?_)
      refine RL.ite (fun _ => stp _ (cz_above W hp' h6)) (fun _ => ?_)
      refine RL.ite (fun _ => stp _ (cz_ride W hp' h6)) (fun _ => ?_)
      refine RL.ite (fun _ => stp _ (cz_vacant W hp' h6)) (fun _ => ?_)
      refine RL.ite (fun _ => stp _ (cz_times W hp' h6)) (fun _ => ?_)
      refine RL.ite (fun _ => stp _ (cz_week W hp' h6)) (fun _ => ?_)
      refine RL.ite (fun _ => stp _ (cz_span W hp' h6)) (fun _ => ?_)
      refine RL.ite (fun _ => stp _ (cz_image W hp' h6)) (fun _ => ?_)
      refine RL.ite (fun _ => stp _ (cz_restore W hp' h6)) (fun _ => ?_)
      refine RL.ite (fun _ => stp _ (cz_status W hp' h6)) (fun _ => ?_)
      refine RL.ite (fun _ => stp _ (cz_count W hp' h6)) (fun _ => ?_)
      exact st0 σ l5 l6 l7 W ⟨⟨rfl, fun _ => rfl⟩, by omega, by omega⟩
