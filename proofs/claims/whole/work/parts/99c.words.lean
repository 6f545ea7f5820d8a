/-! words packed: five bits a letter -/
def pkN (f : Nat → Nat) : Nat → Nat
  | 0 => 0
  | m + 1 => pkN f m * 32 + (f m - 96)
def lc (c : Nat) : Prop := 97 ≤ c ∧ c ≤ 122
theorem pkN_inj {f g : Nat → Nat} : ∀ m L, (∀ j, j < m → lc (f j)) → (∀ j, j < L → lc (g j)) → pkN f m = pkN g L → m = L ∧ ∀ j, j < m → f j = g j := by
  intro m
  induction m with
  | zero =>
    intro L _ hg e
    cases L with
    | zero => exact ⟨rfl, fun j hj => by omega⟩
    | succ L =>
      have := hg L (by omega)
      unfold lc at this
      have e' : 0 = pkN g L * 32 + (g L - 96) := e
      omega
  | succ m ih =>
    intro L hf hg e
    have h1 := hf m (by omega)
    unfold lc at h1
    cases L with
    | zero =>
      have e' : pkN f m * 32 + (f m - 96) = 0 := e
      omega
    | succ L =>
      have h2 := hg L (by omega)
      unfold lc at h2
      have e' : pkN f m * 32 + (f m - 96) = pkN g L * 32 + (g L - 96) := e
      obtain ⟨a, b⟩ := ih L (fun j hj => hf j (by omega)) (fun j hj => hg j (by omega)) (by omega)
      subst a
      refine ⟨rfl, fun j hj => ?_⟩
      by_cases z : j = m
      · subst z
        omega
      · exact b j (by omega)
theorem pkN_cg {f g : Nat → Nat} : ∀ m, (∀ j, j < m → f j = g j) → pkN f m = pkN g m := by
  intro m
  induction m with
  | zero => intro _; rfl
  | succ m ih =>
    intro h
    show pkN f m * 32 + (f m - 96) = pkN g m * 32 + (g m - 96)
    rw [ih (fun j hj => h j (by omega)), h m (by omega)]
theorem pkN_lt {f : Nat → Nat} : ∀ m, (∀ j, j < m → lc (f j)) → pkN f m < 32 ^ m := by
  intro m
  induction m with
  | zero => intro _; exact Nat.one_pos
  | succ m ih =>
    intro h
    have h1 := ih (fun j hj => h j (by omega))
    have h2 := h m (by omega)
    unfold lc at h2
    show pkN f m * 32 + (f m - 96) < 32 ^ (m + 1)
    rw [Nat.pow_succ]
    omega
def sc (s j : Nat) : Nat := (sbyt s j).toNatClampNeg
def pkS (s : Nat) : Nat := pkN (sc s) (slen s)
theorem st_ok : ∀ s, s < 27 → 5 ≤ s → slen s ≤ 6 ∧ ∀ j, j < slen s → sbyt s j = ii (sc s j) ∧ 97 ≤ sc s j ∧ sc s j ≤ 122 := by decide +kernel
theorem pk_0 : ∀ s, s < 27 → 5 ≤ s → ¬ pkS s = 0 := by decide +kernel
theorem pk_lt30 : ∀ s, s < 27 → 5 ≤ s → pkS s < 1073741824 := by decide +kernel
theorem shl5 (x : Nat) : p_shl (ii x) (ii 5) = ii (x * 32) := by
  apply Int32.toBitVec_inj.mp
  apply BitVec.eq_of_toNat_eq
  have e1 : (p_shl (ii x) (ii 5)).toBitVec.toNat = (x % 2 ^ 32) <<< 5 % 2 ^ 32 := by
    simp [p_shl, ii]
  have e2 : (ii (x * 32)).toBitVec.toNat = x * 32 % 2 ^ 32 := by
    simp [ii]
  rw [e1, e2, Nat.shiftLeft_eq]
  omega
theorem pk_step {x t : Nat} (ht : lc t) : p_shl (ii x) (ii 5) ||| (ii t - ii 96) = ii (x * 32 + (t - 96)) := by
  unfold lc at ht
  rw [shl5, ii_sub (by omega), ii_or]
  congr 1
  have := Nat.two_pow_add_eq_or_of_lt (i := 5) (b := t - 96) (by omega) x
  rw [show x * 32 = 2 ^ 5 * x by omega]
  exact this.symm
theorem r_of {d s : Nat} {σ : HP} (hs : s < 27) (h5 : 5 ≤ s) : callF (d + 5) m_Mo_of [.ref (16 + 64 * s)] σ = some (.inl (some (.int (ii (pkS s)))), σ) := by
  obtain ⟨h6, hj⟩ := st_ok s hs h5
  have es : (16 + 64 * s) / 64 = s := by omega
  rw [e_Mo_of, b_Mo_of_0, lit_ii 0]
  unfold pkS
  refine loop_up (N := slen s) (fun k => (4, [some (.ref (16 + 64 * s)), some (.int (ii (pkN (sc s) k))), some (.int (ii k))], [], σ)) (fun k hk => ?_) ?_ 0 (Nat.zero_le _)
  · obtain ⟨a, b⟩ := hj k hk
    rw [b_Mo_of_4 (by omega) (by omega) (by omega), es, of_ii, if_neg (by rw [ii_le (by omega) (by omega)]; omega), b_Mo_of_12 (by omega) (by omega) (by omega) (by rw [es, inR_ii (by omega)]; exact decide_eq_true hk), es, ii_nat (by omega), a, lit_ii 5, lit_ii 96, lit_ii 1, pk_step b, ii_add]
    rfl
  · rw [b_Mo_of_4 (by omega) (by omega) (by omega), es, of_ii, if_pos (by rw [ii_le (by omega) (by omega)]; exact Nat.le_refl _), b_Mo_of_31]
/-- the word that stands at p, packed -/
def wdV (T : Nat → Nat) (n p : Nat) : Nat := if ltE T n (sk T n p) - sk T n p ≤ 6 then pkN (fun j => T (sk T n p + j)) (ltE T n (sk T n p) - sk T n p) else 0
theorem wl_pk {i s a b : Nat} {T : Nat → Nat} {n p : Nat} (hp : p ≤ n) (hT : ∀ k, k < n → T k < 256) (hs : s < 27) (h5 : 5 ≤ s) (hl : b - a = slen s) (hb : ∀ j, j < slen s → sbyt i (a + j) = sbyt s j) : wlB i T (sk T n p) (ltE T n (sk T n p)) a b = true ↔ wdV T n p = pkS s := by
  obtain ⟨h6, hj⟩ := st_ok s hs h5
  have hq := sk_le (T := T) hp
  have he := rn_ge (P := isL T) hq
  have he2 := rn_le (P := isL T) hq
  have e0 : ltE T n (sk T n p) = rn (isL T) n (sk T n p) := rfl
  have hlc : ∀ j, j < ltE T n (sk T n p) - sk T n p → lc (T (sk T n p + j)) := fun j hj' => by
    have := rn_in (P := isL T) hq (i := sk T n p + j) (by omega) (by omega)
    unfold lc
    exact of_decide_eq_true this
  unfold wlB wdV
  rw [Bool.and_eq_true, decide_eq_true_iff, alT_iff, hl]
  constructor
  · rintro ⟨h1, h2⟩
    rw [if_pos (by omega), ← h1]
    refine pkN_cg _ (fun j hj' => ?_)
    have h3 := of_decide_eq_true (h2 j hj')
    rw [hb j hj', (hj j hj').1] at h3
    have h4 := hT (sk T n p + j) (by omega)
    exact ((ii_eq (by have := (hj j hj').2; omega) (by omega)).mp h3).symm
  · intro h
    by_cases z : ltE T n (sk T n p) - sk T n p ≤ 6
    · rw [if_pos z] at h
      obtain ⟨h1, h2⟩ := pkN_inj _ _ hlc (fun j hj' => (hj j hj').2) h
      refine ⟨h1.symm, fun j hj' => decide_eq_true ?_⟩
      rw [hb j hj', (hj j hj').1, ← h2 j (by omega)]
    · rw [if_neg z] at h
      exact absurd h.symm (pk_0 s hs h5)
theorem fmt_spec {M : Nat → Nat → Bool} : ∀ l ix, (∀ x, fmt M l ix = some x → ∃ j, j < l.length ∧ x = ix + j ∧ M (l.getD j (0, 0)).1 (l.getD j (0, 0)).2 = true) ∧ (fmt M l ix = none → ∀ j, j < l.length → M (l.getD j (0, 0)).1 (l.getD j (0, 0)).2 = false) := by
  intro l
  induction l with
  | nil =>
    intro ix
    refine ⟨fun x h => ?_, fun _ j hj => ?_⟩
    · cases h
    · exact absurd hj (Nat.not_lt_zero _)
  | cons s r ih =>
    intro ix
    obtain ⟨a, b⟩ := s
    obtain ⟨i1, i2⟩ := ih (ix + 1)
    unfold fmt
    by_cases z : M a b = true
    · rw [if_pos z]
      refine ⟨fun x h => ?_, fun h => by cases h⟩
      cases h
      exact ⟨0, by simp, by omega, z⟩
    · rw [if_neg z]
      refine ⟨fun x h => ?_, fun h j hj => ?_⟩
      · obtain ⟨j, a1, a2, a3⟩ := i1 x h
        exact ⟨j + 1, by simp only [List.length_cons]; omega, by omega, by rw [List.getD_cons_succ]; exact a3⟩
      · cases j with
        | zero => exact Bool.eq_false_iff.mpr z
        | succ j =>
          rw [List.getD_cons_succ]
          exact i2 h j (by simp only [List.length_cons] at hj; omega)
def sx2 (x : Nat) : Nat := if x < 8 then 11 + x else if x = 8 then 6 else x
theorem tb1 : ∀ x, x < 4 → (sgs1.getD x (0, 0)).2 - (sgs1.getD x (0, 0)).1 = slen (5 + x) ∧ ∀ j, j < slen (5 + x) → sbyt 1 ((sgs1.getD x (0, 0)).1 + j) = sbyt (5 + x) j := by decide +kernel
theorem tb2 : ∀ x, x < 11 → (sgs2.getD x (0, 0)).2 - (sgs2.getD x (0, 0)).1 = slen (sx2 x) ∧ ∀ j, j < slen (sx2 x) → sbyt 2 ((sgs2.getD x (0, 0)).1 + j) = sbyt (sx2 x) j := by decide +kernel
theorem tb3 : ∀ x, x < 8 → (sgs3.getD x (0, 0)).2 - (sgs3.getD x (0, 0)).1 = slen (19 + x) ∧ ∀ j, j < slen (19 + x) → sbyt 3 ((sgs3.getD x (0, 0)).1 + j) = sbyt (19 + x) j := by decide +kernel
theorem wk1w {T : Nat → Nat} {n p : Nat} (hp : p ≤ n) (hT : ∀ k, k < n → T k < 256) : (∀ x, wdX 1 T n p = some x → x < 4 ∧ wdV T n p = pkS (5 + x)) ∧ (wdX 1 T n p = none → ∀ x, x < 4 → ¬ wdV T n p = pkS (5 + x)) := by
  have e : wdX 1 T n p = fmt (wlB 1 T (sk T n p) (ltE T n (sk T n p))) sgs1 0 := by
    unfold wdX wIx
    rw [scn1]
  rw [e]
  obtain ⟨a, b⟩ := fmt_spec (M := wlB 1 T (sk T n p) (ltE T n (sk T n p))) sgs1 0
  refine ⟨fun x h => ?_, fun h x hx z => ?_⟩
  · obtain ⟨j, h1, h2, h3⟩ := a x h
    have h1' : j < 4 := h1
    have : x = j := by omega
    subst this
    obtain ⟨t1, t2⟩ := tb1 x h1'
    exact ⟨h1', (wl_pk hp hT (by omega) (by omega) t1 t2).mp h3⟩
  · obtain ⟨t1, t2⟩ := tb1 x hx
    have := b h x hx
    rw [(wl_pk hp hT (by omega) (by omega) t1 t2).mpr z] at this
    cases this
theorem sx2_ok : ∀ x, x < 11 → sx2 x < 27 ∧ 5 ≤ sx2 x := by decide
theorem wk2w {T : Nat → Nat} {n p : Nat} (hp : p ≤ n) (hT : ∀ k, k < n → T k < 256) : (∀ x, wdX 2 T n p = some x → x < 11 ∧ wdV T n p = pkS (sx2 x)) ∧ (wdX 2 T n p = none → ∀ x, x < 11 → ¬ wdV T n p = pkS (sx2 x)) := by
  have e : wdX 2 T n p = fmt (wlB 2 T (sk T n p) (ltE T n (sk T n p))) sgs2 0 := by
    unfold wdX wIx
    rw [scn2]
  rw [e]
  obtain ⟨a, b⟩ := fmt_spec (M := wlB 2 T (sk T n p) (ltE T n (sk T n p))) sgs2 0
  refine ⟨fun x h => ?_, fun h x hx z => ?_⟩
  · obtain ⟨j, h1, h2, h3⟩ := a x h
    have h1' : j < 11 := h1
    have : x = j := by omega
    subst this
    obtain ⟨t1, t2⟩ := tb2 x h1'
    obtain ⟨o1, o2⟩ := sx2_ok x h1'
    exact ⟨h1', (wl_pk hp hT o1 o2 t1 t2).mp h3⟩
  · obtain ⟨t1, t2⟩ := tb2 x hx
    obtain ⟨o1, o2⟩ := sx2_ok x hx
    have := b h x hx
    rw [(wl_pk hp hT o1 o2 t1 t2).mpr z] at this
    cases this
theorem wk3w {T : Nat → Nat} {n p : Nat} (hp : p ≤ n) (hT : ∀ k, k < n → T k < 256) : (∀ x, wdX 3 T n p = some x → x < 8 ∧ wdV T n p = pkS (19 + x)) ∧ (wdX 3 T n p = none → ∀ x, x < 8 → ¬ wdV T n p = pkS (19 + x)) := by
  have e : wdX 3 T n p = fmt (wlB 3 T (sk T n p) (ltE T n (sk T n p))) sgs3 0 := by
    unfold wdX wIx
    rw [scn3]
  rw [e]
  obtain ⟨a, b⟩ := fmt_spec (M := wlB 3 T (sk T n p) (ltE T n (sk T n p))) sgs3 0
  refine ⟨fun x h => ?_, fun h x hx z => ?_⟩
  · obtain ⟨j, h1, h2, h3⟩ := a x h
    have h1' : j < 8 := h1
    have : x = j := by omega
    subst this
    obtain ⟨t1, t2⟩ := tb3 x h1'
    exact ⟨h1', (wl_pk hp hT (by omega) (by omega) t1 t2).mp h3⟩
  · obtain ⟨t1, t2⟩ := tb3 x hx
    have := b h x hx
    rw [(wl_pk hp hT (by omega) (by omega) t1 t2).mpr z] at this
    cases this
