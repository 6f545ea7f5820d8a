/-! what a WORK's text gives are steps -/
def KG (H : HH) (s s' : WkT) : Prop := s.2.1 ≤ s'.2.1 ∧ (∀ i, i < s.2.1 → s'.2.2 i = s.2.2 i) ∧ ∀ i, s.2.1 ≤ i → i < s'.2.1 → okS1 H s'.2.1 i (s'.2.2 i)
theorem okS1.mo {H : HH} {k k' i : Nat} {e : Nat × Nat × Nat} (h : okS1 H k i e) (hk : k ≤ k') : okS1 H k' i e := by
  obtain ⟨a, b, c⟩ := h
  exact ⟨a, fun z => by have := b z; omega, c⟩
theorem KG.rf {H : HH} {s s' : WkT} (h : s'.2 = s.2) : KG H s s' := by
  unfold KG
  rw [h]
  exact ⟨Nat.le_refl _, fun i _ => rfl, fun i a b => by omega⟩
theorem KG.tr {H : HH} {s s1 s2 : WkT} (a : KG H s s1) (b : KG H s1 s2) : KG H s s2 := by
  obtain ⟨a1, a2, a3⟩ := a
  obtain ⟨b1, b2, b3⟩ := b
  refine ⟨Nat.le_trans a1 b1, fun i hi => (b2 i (by omega)).trans (a2 i hi), fun i h1 h2 => ?_⟩
  by_cases z : i < s1.2.1
  · rw [b2 i z]
    exact (a3 i h1 z).mo b1
  · exact b3 i (by omega) h2
theorem KG.one {H : HH} {s : WkT} {p : Nat} {v : Nat × Nat × Nat} (h : okS1 H (s.2.1 + 1) s.2.1 v) : KG H s (p, s.2.1 + 1, upS s.2.2 s.2.1 v) := by
  refine ⟨Nat.le_succ _, fun i hi => upS_ne (by omega), fun i h1 h2 => ?_⟩
  have h2' : i < s.2.1 + 1 := h2
  have e : i = s.2.1 := by omega
  subst e
  show okS1 H (s.2.1 + 1) s.2.1 (upS s.2.2 s.2.1 v s.2.1)
  rw [upS_at]
  exact h
theorem wk1_ok {T : Nat → Nat} {n x : Nat} {H : HH} {s s' : WkT} (hs : s.1 ≤ n) (hx : x = 0 ∨ x = 1 ∨ x = 3) (h : wk1 T n x (hm H) s = .inl s') : KG H s s' := by
  unfold wk1 at h
  cases hv : numW T n 0 (hm H) s.1 with
  | inr F => rw [hv] at h; cases h
  | inl z =>
    obtain ⟨p, v⟩ := z
    rw [hv] at h
    cases h
    obtain ⟨-, -, -, a4, -⟩ := numW_fwd hs hv
    exact KG.one ⟨by show x ≤ 7; omega, fun z => by have : x = 7 := z; omega, fun _ => a4, fun z => by have : x = 2 := z; omega, fun z => by have : x = 5 := z; omega⟩
theorem wk2_ok {T : Nat → Nat} {n x hj : Nat} {H : HH} {s s' : WkT} (hs : s.1 ≤ n) (hx : x = 2 ∧ hj = hc H ∨ x = 5 ∧ hj = hf H) (h : wk2 T n x (hm H) hj s = .inl s') : KG H s s' := by
  unfold wk2 at h
  cases hv : numW T n 0 (hm H) s.1 with
  | inr F => rw [hv] at h; cases h
  | inl z =>
    obtain ⟨p, v⟩ := z
    rw [hv] at h
    obtain ⟨-, a2, -, a4, -⟩ := numW_fwd hs hv
    simp only at h
    cases hu : numW T n 0 hj p with
    | inr F => rw [hu] at h; cases h
    | inl z =>
      obtain ⟨p', v'⟩ := z
      rw [hu] at h
      cases h
      obtain ⟨-, -, -, b4, -⟩ := numW_fwd a2 hu
      refine KG.one ⟨by show x ≤ 7; omega, fun z => by have : x = 7 := z; omega, fun _ => a4, fun z => ?_, fun z => ?_⟩
      · have : x = 2 := z
        show v' < hc H
        omega
      · have : x = 5 := z
        show v' < hf H
        omega
def KU (n : Nat) (H : HH) (U : WkT → PR WkT) : Prop := ∀ s s' : WkT, s.1 ≤ n → U s = .inl s' → KG H s s' ∧ s'.1 ≤ n
theorem wkSt_ok {T : Nat → Nat} {n r : Nat} {H : HH} {L : WkT → PR WkT} (hL : r = 0 ∨ KU n H L) (hw : ∀ s : WkT, s.1 ≤ n → wfw n 1 s (wkSt T n H L r s)) : KU n H (wkSt T n H L r) := by
  intro s s' hs h
  have hw' := hw s hs
  rw [h] at hw'
  refine ⟨?_, hw'.2.1⟩
  clear hw' hw
  unfold wkSt at h
  have g2 := wdP_le (T := T) hs
  cases hx : wdX 3 T n s.1 with
  | none => rw [hx] at h; cases h
  | some x =>
    rw [hx] at h
    have g1 := (wd3_fwd hx).1
    simp only at h
    split at h
    · split at h
      · cases h
      · rename_i hr
        have hL' := hL.resolve_left hr
        unfold wkA at h
        simp only at h
        cases hv : numW T n 0 31 (wdP T n s.1) with
        | inr F => rw [hv] at h; cases h
        | inl z =>
          obtain ⟨p, v⟩ := z
          rw [hv] at h
          obtain ⟨-, a2, -, a4, -⟩ := numW_fwd g2.2 hv
          simp only at h
          cases hx : sgnW T n 91 (p, s.2.1 + 1, upS s.2.2 s.2.1 (7, v, 0)) with
          | inr F => rw [hx] at h; cases h
          | inl s1 =>
            rw [hx] at h
            obtain ⟨-, b2, b3⟩ := sgnW_fwd (s := (p, s.2.1 + 1, upS s.2.2 s.2.1 (7, v, 0))) a2 hx
            simp only [wkA2] at h
            have e1 : s1.2.1 = s.2.1 + 1 := congrArg Prod.fst b3
            have e2 : s1.2.2 = upS s.2.2 s.2.1 (7, v, 0) := congrArg Prod.snd b3
            cases hy : L s1 with
            | inr F => rw [hy] at h; cases h
            | inl s2 =>
              rw [hy] at h
              obtain ⟨⟨c1, c2, c3⟩, c4⟩ := hL' s1 s2 b2 hy
              simp only [wkA3] at h
              cases hz : sgnW T n 93 s2 with
              | inr F => rw [hz] at h; cases h
              | inl s3 =>
                rw [hz] at h
                cases h
                obtain ⟨-, -, d3⟩ := sgnW_fwd c4 hz
                have f1 : s3.2.1 = s2.2.1 := congrArg Prod.fst d3
                have f2 : s3.2.2 = s2.2.2 := congrArg Prod.snd d3
                refine ⟨?_, fun i hi => ?_, fun i h1 h2 => ?_⟩
                · show s.2.1 ≤ s3.2.1
                  omega
                · show upS s3.2.2 s.2.1 (7, v, s3.2.1) i = _
                  rw [upS_ne (by omega), f2, c2 i (by omega), e2, upS_ne (by omega)]
                · have h2' : i < s3.2.1 := h2
                  show okS1 H s3.2.1 i (upS s3.2.2 s.2.1 (7, v, s3.2.1) i)
                  by_cases z : i = s.2.1
                  · rw [z, upS_at]
                    exact ⟨Nat.le_refl 7, fun _ => ⟨by show s.2.1 < s3.2.1; omega, Nat.le_refl _, by show v ≤ 30; omega⟩, fun z => by have : 7 = 0 ∨ 7 = 1 ∨ 7 = 2 ∨ 7 = 3 ∨ 7 = 5 := z; omega, fun z => by have : 7 = 2 := z; omega, fun z => by have : 7 = 5 := z; omega⟩
                  · rw [upS_ne z, f2, f1]
                    exact c3 i (by omega) (by omega)
    · split at h
      · cases h
        refine KG.one ⟨by show x ≤ 7; omega, fun z => by have : x = 7 := z; omega, fun z => by have : x = 0 ∨ x = 1 ∨ x = 2 ∨ x = 3 ∨ x = 5 := z; omega, fun z => by have : x = 2 := z; omega, fun z => by have : x = 5 := z; omega⟩
      · split at h
        · exact wk2_ok (s := (wdP T n s.1, s.2.1, s.2.2)) g2.2 (Or.inl ⟨rfl, rfl⟩) h
        · split at h
          · exact wk2_ok (s := (wdP T n s.1, s.2.1, s.2.2)) g2.2 (Or.inr ⟨rfl, rfl⟩) h
          · exact wk1_ok (s := (wdP T n s.1, s.2.1, s.2.2)) g2.2 (by omega) h
theorem wkL_ok {T : Nat → Nat} {n : Nat} {H : HH} {St : WkT → PR WkT} {top : Bool} (hS : KU n H St) : ∀ f, KU n H (wkL T n St top f) := by
  intro f
  induction f with
  | zero =>
    intro s s' hs h
    cases h
    exact ⟨KG.rf rfl, hs⟩
  | succ f ih =>
    intro s s' hs h
    have h1 := sk_le (T := T) hs
    unfold wkL at h
    split at h
    · cases h
      exact ⟨KG.rf rfl, h1⟩
    · cases hu : St (sk T n s.1, s.2.1, s.2.2) with
      | inr F => rw [hu] at h; cases h
      | inl s1 =>
        rw [hu] at h
        obtain ⟨a, a'⟩ := hS (sk T n s.1, s.2.1, s.2.2) s1 h1 hu
        simp only at h
        cases hv : sgnW T n 59 s1 with
        | inr F => rw [hv] at h; cases h
        | inl s2 =>
          rw [hv] at h
          obtain ⟨-, b2, b3⟩ := sgnW_fwd a' hv
          obtain ⟨c, c'⟩ := ih s2 s' b2 h
          have q : KG H s s1 := a
          exact ⟨(q.tr (KG.rf b3)).tr c, c'⟩
theorem wkSn_ok {T : Nat → Nat} {n : Nat} {H : HH} : ∀ r, KU n H (wkSn T n H r) := by
  intro r
  induction r with
  | zero => exact wkSt_ok (Or.inl rfl) (wkSn_fwd 0)
  | succ r ih => exact wkSt_ok (Or.inr (wkL_ok ih _)) (wkSn_fwd (r + 1))
theorem wkAll_w {T : Nat → Nat} {n : Nat} {H : HH} (hn : n ≤ 150) : ∀ s, wkAll T n H = .inl s → s.2.1 ≤ 150 ∧ ∀ i, i < s.2.1 → okS1 H s.2.1 i (s.2.2 i) := by
  intro s h
  have a := wkL_fwd (T := T) (n := n) (St := wkSn T n H 6) (top := true) (wkSn_fwd 6) (n + 1) (0, 0, fun _ => (0, 0, 0)) (Nat.zero_le _)
  have b := wkL_ok (T := T) (n := n) (H := H) (top := true) (wkSn_ok 6) (n + 1) (0, 0, fun _ => (0, 0, 0)) s (Nat.zero_le _) h
  have h' : wkL T n (wkSn T n H 6) true (n + 1) (0, 0, fun _ => (0, 0, 0)) = .inl s := h
  rw [h'] at a
  obtain ⟨a1, a2, a3, a4⟩ := a
  simp only at a4
  exact ⟨by omega, fun i hi => b.1.2.2 i (Nat.zero_le _) hi⟩
