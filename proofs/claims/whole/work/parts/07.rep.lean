/-! the small machine's things as cells of the real heap -/
/-- the classes' numbers and slots, the rows' classes, where the new cells begin, the old heap, where the String constants lie, where the script lies, what it holds, how long it is -/
abbrev EE : Type := va_G × (Nat → ClassId) × Nat × Heap × (Nat → Nat) × Nat × (Nat → Int32) × Nat
def eD (E : EE) : va_G := E.1
def eC (E : EE) : Nat → ClassId := E.2.1
def eB (E : EE) : Nat := E.2.2.1
def eH (E : EE) : Heap := E.2.2.2.1
def eA (E : EE) : Nat → Nat := E.2.2.2.2.1
def eS (E : EE) : Nat := E.2.2.2.2.2.1
def eX (E : EE) : Nat → Int32 := E.2.2.2.2.2.2.1
def eL (E : EE) : Nat := E.2.2.2.2.2.2.2
def adr (E : EE) (a : Nat) : Nat := if a % 64 = 16 then eA E (a / 64) else if a % 64 = 18 then eS E else eB E + a / 64
def cv (E : EE) (v : Value) : Value := match v with
  | .ref a => .ref (adr E a)
  | w => w
theorem cv_cat (E : EE) (v : Value) : (cv E v).category = v.category := by cases v <;> rfl
def clz : List vw_C := (List.range 13).map (fun ci => (zC ci, zT ci, zN ci))
theorem clz_at {ci : Nat} (h : ci < 13) : clz[ci]? = some (zC ci, zT ci, zN ci) := by
  unfold clz
  rw [List.getElem?_map, List.getElem?_range h]
  rfl
def tyE (e : Nat) : FieldType := match e with
  | 1 => .int
  | 2 => .long
  | 3 => .byte
  | 4 => .object "PraiseLift$Days"
  | _ => .object "PraiseLift$Image"
def tyz (E : EE) : List (ClassId × FieldType) := (List.range 5).map (fun i => (eC E (i + 1), tyE (i + 1)))
theorem tyz_at (E : EE) {e : Nat} (h1 : 1 ≤ e) (h2 : e ≤ 5) : (tyz E)[e - 1]? = some (eC E e, tyE e) := by
  unfold tyz
  rw [List.getElem?_map, List.getElem?_range (by omega)]
  show some (eC E (e - 1 + 1), tyE (e - 1 + 1)) = _
  rw [show e - 1 + 1 = e by omega]
def fv (E : EE) (σ : HP) (a k : Nat) : Value := if zft (a % 64) k = 0 then .int (gI σ a k) else cv E (rv (gR σ a k))
def av (E : EE) (σ : HP) (a j : Nat) : Value := if aty (a % 64) = 1 ∨ aty (a % 64) = 3 then .int (gI σ a j) else if aty (a % 64) = 2 then .long (gJ σ a j) else cv E (rv (gR σ a j))
def cOK (E : EE) (σ : HP) (a : Nat) (H : Heap) : Prop :=
  (a % 64 < 13 → t_OB (eB E + a / 64) ((eD E).1 (a % 64)) (zN (a % 64)) ((eD E).2 (a % 64)) H (fv E σ a)) ∧
  (aty (a % 64) ≠ 0 → H[eB E + a / 64]? = some (arrV (eC E (aty (a % 64))) (alen (a % 64)) (av E σ a)))
def Rep (E : EE) (σ : HP) (H : Heap) : Prop := H.size = eB E + hN σ ∧ (∀ q, q < eB E → H[q]? = (eH E)[q]?) ∧ (∀ a, vld σ a → cOK E σ a H) ∧ hL σ = eL E ∧ (∀ j, j < eL E → gI σ 18 j = eX E j)
theorem vld_inj {σ : HP} {a b : Nat} (ha : vld σ a) (hb : vld σ b) (h : a / 64 = b / 64) : a = b := by
  have h1 := ha.2
  have h2 := hb.2
  rw [h] at h1
  omega
/-- a thing that isn't old is where its serial says -/
theorem adr_new {E : EE} {a : Nat} (h1 : a % 64 ≠ 16) (h2 : a % 64 ≠ 18) : adr E a = eB E + a / 64 := by
  unfold adr
  rw [if_neg h1, if_neg h2]
theorem aty_arr {k : Nat} (h : aty k ≠ 0) : 20 ≤ k := by
  unfold aty at h
  split at h
  · assumption
  · exact absurd rfl h
theorem aty_le : ∀ k, k < 64 → aty k ≤ 5 := by decide +kernel
theorem okR_vld {σ : HP} {a : Nat} (h : okR σ a) (h1 : a % 64 ≠ 16) (h2 : a % 64 ≠ 18) : vld σ a := by
  rcases h with h | h | h
  · exact absurd h.1 h1
  · rw [h] at h2; exact absurd rfl h2
  · exact h.1
/-- one thing changed, its cell with it -/
theorem rep_upd {E : EE} {σ σ' : HP} {H H' : Heap} {a : Nat} (h : Rep E σ H) (ha : vld σ a) (ha2 : a ≠ 18) (e1 : σ'.1 = σ.1) (eI : ∀ b k, b ≠ a → gI σ' b k = gI σ b k) (eJ : ∀ b k, b ≠ a → gJ σ' b k = gJ σ b k) (eR : ∀ b k, b ≠ a → gR σ' b k = gR σ b k)
    (hz : H'.size = H.size) (ho : ∀ q, q ≠ eB E + a / 64 → H'[q]? = H[q]?) (hc : cOK E σ' a H') : Rep E σ' H' := by
  obtain ⟨h1, h2, h3, h4, h5⟩ := h
  have eN : hN σ' = hN σ := by unfold hN; rw [e1]
  have eV : ∀ b, vld σ' b → vld σ b := fun b hb => by
    unfold vld hN hK at hb ⊢
    rw [e1] at hb
    exact hb
  refine ⟨by rw [hz, eN]; exact h1, fun q hq => by rw [ho q (by omega)]; exact h2 q hq, fun b hb => ?_, ?_, fun j hj => ?_⟩
  · by_cases hab : b = a
    · rw [hab]; exact hc
    · have hv := eV b hb
      have hd : eB E + b / 64 ≠ eB E + a / 64 := fun q => hab (vld_inj hv ha (by omega))
      have ef : fv E σ' b = fv E σ b := by
        funext k
        unfold fv
        rw [eI b k hab, eR b k hab]
      have ea : av E σ' b = av E σ b := by
        funext k
        unfold av
        rw [eI b k hab, eR b k hab, eJ b k hab]
      unfold cOK
      rw [ef, ea]
      obtain ⟨c1, c2⟩ := h3 b hv
      exact ⟨fun q => (c1 q).kept (ho _ hd), fun q => by rw [ho _ hd]; exact c2 q⟩
  · unfold hL
    rw [e1]
    exact h4
  · rw [eI 18 j (fun q => ha2 q.symm)]
    exact h5 j hj
/-- a new thing at the heap's end -/
theorem rep_new {E : EE} {σ : HP} {H H' : Heap} {k n : Nat} (h : Rep E σ H) (hk : k < 64) (hk2 : k ≠ 18) (hz : H'.size = H.size + 1) (ho : ∀ q, q < H.size → H'[q]? = H[q]?) (hc : cOK E (hA σ k n) (k + 64 * hN σ) H') : Rep E (hA σ k n) H' := by
  obtain ⟨h1, h2, h3, h4, h5⟩ := h
  refine ⟨by rw [hz, h1]; rfl, fun q hq => by rw [ho q (by omega)]; exact h2 q hq, fun b hb => ?_, h4, fun j hj => ?_⟩
  · by_cases hbn : b / 64 = hN σ
    · have hb2 := hb.2
      rw [hbn] at hb2
      have e : hK (hA σ k n) (hN σ) = k := if_pos rfl
      rw [e] at hb2
      have : b = k + 64 * hN σ := by omega
      rw [this]; exact hc
    · have hlt : b / 64 < hN σ + 1 := hb.1
      have hv : vld σ b := ⟨by omega, by
        have := hb.2
        have e : hK (hA σ k n) (b / 64) = hK σ (b / 64) := if_neg hbn
        rw [e] at this
        exact this⟩
      have hne : b ≠ k + 64 * σ.1.1 := fun q => hbn (by
        show b / 64 = σ.1.1
        omega)
      have ef : fv E (hA σ k n) b = fv E σ b := by
        funext j
        unfold fv
        rw [show gI (hA σ k n) b j = gI σ b j from if_neg hne, show gR (hA σ k n) b j = gR σ b j from if_neg hne]
      have ea : av E (hA σ k n) b = av E σ b := by
        funext j
        unfold av
        rw [show gI (hA σ k n) b j = gI σ b j from if_neg hne, show gR (hA σ k n) b j = gR σ b j from if_neg hne, show gJ (hA σ k n) b j = gJ σ b j from if_neg hne]
      unfold cOK
      rw [ef, ea]
      obtain ⟨c1, c2⟩ := h3 b hv
      have hq : eB E + b / 64 < H.size := by rw [h1]; exact Nat.add_lt_add_left hv.1 _
      exact ⟨fun q => (c1 q).kept (ho _ hq), fun q => by rw [ho _ hq]; exact c2 q⟩
  · rw [show gI (hA σ k n) 18 j = gI σ 18 j from if_neg (by omega)]
    exact h5 j hj
theorem rep_old {E : EE} {σ : HP} {H : Heap} (h : Rep E σ H) : H.size = eB E + hN σ := h.1
/-- the cell of a row -/
theorem rep_row {E : EE} {σ : HP} {H : Heap} {a : Nat} (h : Rep E σ H) (hv : okV σ (.ref a)) (ht : aty (a % 64) ≠ 0) : vld σ a ∧ adr E a = eB E + a / 64 ∧ H[adr E a]? = some (arrV (eC E (aty (a % 64))) (alen (a % 64)) (av E σ a)) := by
  have h20 := aty_arr ht
  have hw := okR_vld (a := a) hv (by omega) (by omega)
  have e := adr_new (E := E) (a := a) (by omega) (by omega)
  exact ⟨hw, e, by rw [e]; exact (h.2.2.1 a hw).2 ht⟩
/-- the cell of an object -/
theorem rep_ob {E : EE} {σ : HP} {H : Heap} {a : Nat} (h : Rep E σ H) (hv : okV σ (.ref a)) (ht : a % 64 < 13) : vld σ a ∧ adr E a = eB E + a / 64 ∧ t_OB (adr E a) ((eD E).1 (a % 64)) (zN (a % 64)) ((eD E).2 (a % 64)) H (fv E σ a) := by
  have hw := okR_vld (a := a) hv (by omega) (by omega)
  have e := adr_new (E := E) (a := a) (by omega) (by omega)
  exact ⟨hw, e, by rw [e]; exact (h.2.2.1 a hw).1 ht⟩
