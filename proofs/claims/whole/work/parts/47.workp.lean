/-! what a WORK's text says: a place, how many steps, the steps (what, first, second) -/
abbrev WkT : Type := Nat × Nat × (Nat → Nat × Nat × Nat)
def upS (ks : Nat → Nat × Nat × Nat) (k : Nat) (v : Nat × Nat × Nat) (i : Nat) : Nat × Nat × Nat := if i = k then v else ks i
def sgnW (T : Nat → Nat) (n c : Nat) (s : WkT) : PR WkT := if sgB T n s.1 c then .inl (sk T n s.1 + 1, s.2.1, s.2.2) else .inr (1, sk T n s.1)
def numW (T : Nat → Nat) (n a hi : Nat) (p : Nat) : PR (Nat × Nat) := match nmF T n p a hi with
  | none => .inl (nmP T n p, nmV T n p)
  | some F => .inr F
def wk1 (T : Nat → Nat) (n x hi : Nat) (s : WkT) : PR WkT := match numW T n 0 hi s.1 with
  | .inl (p, v) => .inl (p, s.2.1 + 1, upS s.2.2 s.2.1 (x, v, 0))
  | .inr F => .inr F
def wk2 (T : Nat → Nat) (n x hi hj : Nat) (s : WkT) : PR WkT := match numW T n 0 hi s.1 with
  | .inl (p, v) => (match numW T n 0 hj p with
    | .inl (p', v') => .inl (p', s.2.1 + 1, upS s.2.2 s.2.1 (x, v, v'))
    | .inr F => .inr F)
  | .inr F => .inr F
def wkA3 (T : Nat → Nat) (n k v : Nat) (s : WkT) : PR WkT := match sgnW T n 93 s with
  | .inl s' => .inl (s'.1, s'.2.1, upS s'.2.2 k (7, v, s'.2.1))
  | .inr F => .inr F
def wkA2 (T : Nat → Nat) (n k v : Nat) (L : WkT → PR WkT) (s : WkT) : PR WkT := match L s with
  | .inl s' => wkA3 T n k v s'
  | .inr F => .inr F
def wkA (T : Nat → Nat) (n : Nat) (L : WkT → PR WkT) (s : WkT) : PR WkT := match numW T n 0 31 s.1 with
  | .inl (p, v) => (match sgnW T n 91 (p, s.2.1 + 1, upS s.2.2 s.2.1 (7, v, 0)) with
    | .inl s' => wkA2 T n s.2.1 v L s'
    | .inr F => .inr F)
  | .inr F => .inr F
def wkSt (T : Nat → Nat) (n : Nat) (H : HH) (L : WkT → PR WkT) (r : Nat) (s : WkT) : PR WkT := match wdX 3 T n s.1 with
  | none => .inr (1, sk T n s.1)
  | some x => if x = 7 then (if r = 0 then .inr (3, sk T n s.1) else wkA T n L (wdP T n s.1, s.2.1, s.2.2))
    else if x = 4 ∨ x = 6 then .inl (wdP T n s.1, s.2.1 + 1, upS s.2.2 s.2.1 (x, 0, 0))
    else if x = 2 then wk2 T n 2 (hm H) (hc H) (wdP T n s.1, s.2.1, s.2.2)
    else if x = 5 then wk2 T n 5 (hm H) (hf H) (wdP T n s.1, s.2.1, s.2.2)
    else wk1 T n x (hm H) (wdP T n s.1, s.2.1, s.2.2)
/-- the end of a list of steps: of the text, or a bracket -/
def wkE (T : Nat → Nat) (n : Nat) (top : Bool) (q : Nat) : Bool := if top then decide (n ≤ q) else decide (q < n ∧ T q = 93)
def wkL (T : Nat → Nat) (n : Nat) (St : WkT → PR WkT) (top : Bool) : Nat → WkT → PR WkT
  | 0, s => .inl s
  | f + 1, s => if wkE T n top (sk T n s.1) then .inl (sk T n s.1, s.2.1, s.2.2) else (match St (sk T n s.1, s.2.1, s.2.2) with
    | .inl s' => (match sgnW T n 59 s' with
      | .inl s2 => wkL T n St top f s2
      | .inr F => .inr F)
    | .inr F => .inr F)
def wkSn (T : Nat → Nat) (n : Nat) (H : HH) : Nat → WkT → PR WkT
  | 0 => wkSt T n H (fun _ => .inr (0, 0)) 0
  | r + 1 => wkSt T n H (wkL T n (wkSn T n H r) false (n + 1)) (r + 1)
def wkAll (T : Nat → Nat) (n : Nat) (H : HH) : PR WkT := wkL T n (wkSn T n H 6) true (n + 1) (0, 0, fun _ => (0, 0, 0))
/-! how far it gets -/
def wfw (n b : Nat) (s : WkT) (r : PR WkT) : Prop := match r with
  | .inl s' => s.1 + 2 * b ≤ s'.1 ∧ s'.1 ≤ n ∧ s.2.1 + b ≤ s'.2.1 ∧ 3 * s'.2.1 + s.1 ≤ 3 * s.2.1 + s'.1 + b
  | .inr F => 1 ≤ F.1 ∧ F.1 ≤ 3 ∧ F.2 ≤ n
theorem sgnW_k {T : Nat → Nat} {n c : Nat} {s s' : WkT} (h : sgnW T n c s = .inl s') : s'.2 = s.2 ∧ s'.1 = sk T n s.1 + 1 ∧ sgB T n s.1 c = true := by
  unfold sgnW at h
  split at h
  · cases h
    exact ⟨rfl, rfl, by assumption⟩
  · cases h
theorem sgnW_f {T : Nat → Nat} {n c : Nat} {s : WkT} {F : Nat × Nat} (hs : s.1 ≤ n) (h : sgnW T n c s = .inr F) : F = (1, sk T n s.1) := by
  unfold sgnW at h
  split at h
  · cases h
  · cases h; rfl
theorem sgnW_fwd {T : Nat → Nat} {n c : Nat} {s s' : WkT} (hs : s.1 ≤ n) (h : sgnW T n c s = .inl s') : s.1 < s'.1 ∧ s'.1 ≤ n ∧ s'.2 = s.2 := by
  have h1 := sk_le (T := T) hs
  have h2 := sk_ge (T := T) hs
  obtain ⟨a, b, c⟩ := sgnW_k h
  have := of_decide_eq_true c
  exact ⟨by omega, by omega, a⟩
theorem numW_fwd {T : Nat → Nat} {n a hi p p' v : Nat} (hp : p ≤ n) (h : numW T n a hi p = .inl (p', v)) : p < p' ∧ p' ≤ n ∧ a ≤ v ∧ v < hi ∧ p' = nmP T n p ∧ v = nmV T n p ∧ nmF T n p a hi = none := by
  have h1 := sk_le (T := T) hp
  have h2 := sk_ge (T := T) hp
  have g1 := nmP_le (T := T) hp
  unfold numW at h
  cases hf : nmF T n p a hi with
  | some F => rw [hf] at h; cases h
  | none =>
    rw [hf] at h
    cases h
    have hf2 := hf
    unfold nmF at hf2
    split at hf2
    · cases hf2
    · rename_i hne
      split at hf2
      · rename_i hv
        have g2 := rn_ge (P := isD T) h1
        have e : dgE T n (sk T n p) = rn (isD T) n (sk T n p) := rfl
        refine ⟨?_, g1.2, hv.1, hv.2, rfl, rfl, rfl⟩
        unfold nmP
        omega
      · cases hf2
theorem numW_f {T : Nat → Nat} {n a hi p : Nat} {F : Nat × Nat} (hp : p ≤ n) (h : numW T n a hi p = .inr F) : (1 ≤ F.1 ∧ F.1 ≤ 3 ∧ F.2 ≤ n) ∧ nmF T n p a hi = some F := by
  have h1 := sk_le (T := T) hp
  unfold numW at h
  cases hf : nmF T n p a hi with
  | none => rw [hf] at h; cases h
  | some G =>
    rw [hf] at h
    cases h
    unfold nmF at hf
    split at hf
    · cases hf; exact ⟨⟨Nat.le_refl _, by show 1 ≤ 3; omega, h1⟩, rfl⟩
    · split at hf
      · cases hf
      · cases hf; exact ⟨⟨by show 1 ≤ 2; omega, by show 2 ≤ 3; omega, h1⟩, rfl⟩
theorem wkL_fwd {T : Nat → Nat} {n : Nat} {St : WkT → PR WkT} {top : Bool} (hS : ∀ s : WkT, s.1 ≤ n → wfw n 1 s (St s)) : ∀ f (s : WkT), s.1 ≤ n → wfw n 0 s (wkL T n St top f s) := by
  intro f
  induction f with
  | zero => intro s hs; exact ⟨Nat.le_refl _, hs, Nat.le_refl _, Nat.le_refl _⟩
  | succ f ih =>
    intro s hs
    have h1 := sk_le (T := T) hs
    have h2 := sk_ge (T := T) hs
    unfold wkL
    split
    · refine ⟨h2, h1, Nat.le_refl _, ?_⟩
      simp only
      omega
    · have h3 := hS (sk T n s.1, s.2.1, s.2.2) h1
      cases hu : St (sk T n s.1, s.2.1, s.2.2) with
      | inr F => rw [hu] at h3; exact h3
      | inl s1 =>
        rw [hu] at h3
        obtain ⟨a1, a2, a3, a4⟩ := h3
        simp only at a1 a3 a4 ⊢
        cases hv : sgnW T n 59 s1 with
        | inr F =>
          have := sgnW_f a2 hv
          subst this
          exact ⟨Nat.le_refl _, by show 1 ≤ 3; omega, sk_le a2⟩
        | inl s2 =>
          obtain ⟨b1, b2, b3⟩ := sgnW_fwd a2 hv
          have h4 := ih s2 b2
          have b4 := congrArg Prod.fst b3
          simp only
          cases hr : wkL T n St top f s2 with
          | inr F => rw [hr] at h4; exact h4
          | inl s3 =>
            rw [hr] at h4
            obtain ⟨c1, c2, c3, c4⟩ := h4
            exact ⟨by omega, c2, by omega, by omega⟩
theorem wkSt_fwd {T : Nat → Nat} {n r : Nat} {H : HH} {L : WkT → PR WkT} (hL : r = 0 ∨ ∀ s : WkT, s.1 ≤ n → wfw n 0 s (L s)) (s : WkT) (hs : s.1 ≤ n) : wfw n 1 s (wkSt T n H L r s) := by
  have h1 := sk_le (T := T) hs
  have h2 := sk_ge (T := T) hs
  unfold wkSt
  cases hw : wdX 3 T n s.1 with
  | none => exact ⟨Nat.le_refl _, by show 1 ≤ 3; omega, h1⟩
  | some x =>
    have g1 := wd3_fwd hw
    have g2 := wdP_le (T := T) hs
    simp only
    split
    · split
      · exact ⟨by show 1 ≤ 3; omega, Nat.le_refl _, h1⟩
      · rename_i hr
        have hL' := hL.resolve_left hr
        unfold wkA
        simp only
        cases hv : numW T n 0 31 (wdP T n s.1) with
        | inr F => exact (numW_f g2.2 hv).1
        | inl z =>
          obtain ⟨p, v⟩ := z
          obtain ⟨a1, a2, a3, a4, -⟩ := numW_fwd g2.2 hv
          simp only
          cases hx : sgnW T n 91 (p, s.2.1 + 1, upS s.2.2 s.2.1 (7, v, 0)) with
          | inr F =>
            have := sgnW_f (s := (p, s.2.1 + 1, upS s.2.2 s.2.1 (7, v, 0))) a2 hx
            subst this
            exact ⟨Nat.le_refl _, by show 1 ≤ 3; omega, sk_le a2⟩
          | inl s1 =>
            obtain ⟨b1, b2, b3⟩ := sgnW_fwd (s := (p, s.2.1 + 1, upS s.2.2 s.2.1 (7, v, 0))) a2 hx
            have b4 : s1.2.1 = s.2.1 + 1 := congrArg Prod.fst b3
            simp only at b1
            have h3 := hL' s1 b2
            simp only [wkA2]
            cases hy : L s1 with
            | inr F => rw [hy] at h3; exact h3
            | inl s2 =>
              rw [hy] at h3
              obtain ⟨c1, c2, c3, c4⟩ := h3
              simp only [wkA3]
              cases hz : sgnW T n 93 s2 with
              | inr F =>
                have := sgnW_f c2 hz
                subst this
                exact ⟨Nat.le_refl _, by show 1 ≤ 3; omega, sk_le c2⟩
              | inl s3 =>
                obtain ⟨d1, d2, d3⟩ := sgnW_fwd c2 hz
                have d4 := congrArg Prod.fst d3
                refine ⟨?_, d2, ?_, ?_⟩
                · show s.1 + 2 * 1 ≤ s3.1
                  omega
                · show s.2.1 + 1 ≤ s3.2.1
                  omega
                · show 3 * s3.2.1 + s.1 ≤ 3 * s.2.1 + s3.1 + 1
                  omega
    · split
      · refine ⟨?_, g2.2, Nat.le_refl _, ?_⟩
        · show s.1 + 2 * 1 ≤ wdP T n s.1
          omega
        · show 3 * (s.2.1 + 1) + s.1 ≤ 3 * s.2.1 + wdP T n s.1 + 1
          omega
      · have k2 : ∀ x hi hj, wfw n 1 s (wk2 T n x hi hj (wdP T n s.1, s.2.1, s.2.2)) := by
          intro x hi hj
          unfold wk2
          simp only
          cases hv : numW T n 0 hi (wdP T n s.1) with
          | inr F => exact (numW_f g2.2 hv).1
          | inl z =>
            obtain ⟨p, v⟩ := z
            obtain ⟨a1, a2, a3, a4, -⟩ := numW_fwd g2.2 hv
            simp only
            cases hv' : numW T n 0 hj p with
            | inr F => exact (numW_f a2 hv').1
            | inl z' =>
              obtain ⟨p', v'⟩ := z'
              obtain ⟨b1, b2, b3, b4, -⟩ := numW_fwd a2 hv'
              refine ⟨?_, b2, Nat.le_refl _, ?_⟩
              · show s.1 + 2 * 1 ≤ p'
                omega
              · show 3 * (s.2.1 + 1) + s.1 ≤ 3 * s.2.1 + p' + 1
                omega
        split
        · exact k2 _ _ _
        · split
          · exact k2 _ _ _
          · unfold wk1
            simp only
            cases hv : numW T n 0 (hm H) (wdP T n s.1) with
            | inr F => exact (numW_f g2.2 hv).1
            | inl z =>
              obtain ⟨p, v⟩ := z
              obtain ⟨a1, a2, a3, a4, -⟩ := numW_fwd g2.2 hv
              refine ⟨?_, a2, Nat.le_refl _, ?_⟩
              · show s.1 + 2 * 1 ≤ p
                omega
              · show 3 * (s.2.1 + 1) + s.1 ≤ 3 * s.2.1 + p + 1
                omega
theorem wkSn_fwd {T : Nat → Nat} {n : Nat} {H : HH} : ∀ r (s : WkT), s.1 ≤ n → wfw n 1 s (wkSn T n H r s) := by
  intro r
  induction r with
  | zero => intro s hs; exact wkSt_fwd (Or.inl rfl) s hs
  | succ r ih => intro s hs; exact wkSt_fwd (Or.inr (wkL_fwd ih (n + 1))) s hs
/-! THE CLASS: its work's reader -/
def wkR (σ : HP) (i : Nat) (e : Nat × Nat × Nat) : Prop := gI σ 2333 i = ii e.1 ∧ (e.1 ≠ 4 → e.1 ≠ 6 → gI σ 2397 i = ii e.2.1) ∧ (e.1 = 2 ∨ e.1 = 5 ∨ (e.1 = 7 ∧ e.2.2 ≠ 0) → gI σ 2461 i = ii e.2.2)
def WKr (σ : HP) : Prop := gR σ 2250 0 = some 2333 ∧ gR σ 2250 1 = some 2397 ∧ gR σ 2250 2 = some 2461
def WC (σ : HP) (k : Nat) (ks : Nat → Nat × Nat × Nat) : Prop := WKr σ ∧ gI σ 2250 3 = ii k ∧ ∀ i, i < k → wkR σ i (ks i)
def SK2 (a : Nat) : Prop := a = 71 ∨ a = 2250 ∨ a = 2333 ∨ a = 2397 ∨ a = 2461
def WQ (σ : HP) (T : Nat → Nat) (n : Nat) (r : PR WkT) : Prop := match r with
  | .inl s => (∃ u, RS σ T n s.1 none u) ∧ WC σ s.2.1 s.2.2
  | .inr F => ∃ p u, RS σ T n p (some F) u
/-- what reading a work changes; of the Work itself only how many steps there are -/
def Fk (σ σ' : HP) : Prop := Fs SK2 σ σ' ∧ ∀ j, j ≠ 3 → gI σ' 2250 j = gI σ 2250 j
theorem Fk.rf {σ : HP} : Fk σ σ := ⟨Fs.rf, fun _ _ => rfl⟩
theorem Fk.tr {σ σ' σ'' : HP} (h : Fk σ σ') (h' : Fk σ' σ'') : Fk σ σ'' := ⟨h.1.tr h'.1, fun j q => (h'.2 j q).trans (h.2 j q)⟩
theorem Fk.of {S : Nat → Prop} {σ σ' : HP} (F : Fs S σ σ') (h : ∀ a, S a → SK2 a) (h' : ¬ S 2250) : Fk σ σ' := ⟨F.mono h, fun _ _ => F.I h'⟩
theorem Fk.R {σ σ' : HP} (F : Fk σ σ') (a j : Nat) : gR σ' a j = gR σ a j := F.1.R a j
theorem Fk.I {σ σ' : HP} (F : Fk σ σ') {a j : Nat} (h : ¬ SK2 a) : gI σ' a j = gI σ a j := F.1.I h
theorem Fk.w {σ σ' : HP} {a j : Nat} {v : Int32} (F : Fk σ σ') (h : SK2 a) (hq : a ≠ 2250 ∨ j = 3 := by omega) : Fk σ (wI σ' a j v) := ⟨F.1.w h, fun i hi => by
  rw [gI_wI, if_neg (by omega)]
  exact F.2 i hi⟩
theorem S1_SK {σ σ' : HP} (F : Fs S1 σ σ') : Fk σ σ' := Fk.of F (fun a z => Or.inl z) (by unfold S1; omega)
theorem WC.fs {S : Nat → Prop} {σ σ' : HP} {k : Nat} {ks : Nat → Nat × Nat × Nat} (A : WC σ k ks) (F : Fs S σ σ') (h1 : ¬ S 2250) (h2 : ¬ S 2333) (h3 : ¬ S 2397) (h4 : ¬ S 2461) : WC σ' k ks := by
  obtain ⟨⟨a0, a1, a2⟩, b, c⟩ := A
  refine ⟨⟨(F.R _ _).trans a0, (F.R _ _).trans a1, (F.R _ _).trans a2⟩, (F.I h1).trans b, fun i hi => ?_⟩
  obtain ⟨x, y, z⟩ := c i hi
  exact ⟨(F.I h2).trans x, fun p q => (F.I h3).trans (y p q), fun p => (F.I h4).trans (z p)⟩
theorem RS.w {σ : HP} {T : Nat → Nat} {n p u a j : Nat} {v : Int32} {f : FA} (A : RS σ T n p f u) (h : a ≠ 164) (h' : a ≠ 71) : RS (wI σ a j v) T n p f u :=
  A.fs (S := fun b => b = a) (Fs.w Fs.rf rfl) (fun z => h z.symm) (fun z => h' z.symm)
