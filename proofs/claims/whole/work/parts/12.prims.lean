/-! members that the machine has of its own: Object's constructor, arraycopy, Math -/
section SndP
variable {p : Program} {l : Launch} {e : Env} {R : Room} {s : State} {m : MethodId} {args : Array Value} {below : List Frame} {meth : Method} {c : Code} {Q : State → Prop}
variable {E : EE} {K : State → Prop} {mm : MM} {d : Nat} {σ0 : HP}
theorem lh_size {ls : Array Slot} {L : LV} (h : LH E ls L) : ls.size = L.length := h.1
theorem cat8 {r : List Value} (h : cW r ≤ 8) : ((r.map (cv E)).map fun v => v.category).sum ≤ 8 := by
  have e9 : (r.map (cv E)).map (fun v => v.category) = r.map (fun v => v.category) := by
    rw [List.map_map]
    exact List.map_congr_left (fun v _ => cv_cat E v)
  rw [e9]
  exact h
theorem sn_obj (A : Act E K p R s m args meth c mm d) {idx pc a : Nat} {L : LV} {r : List Value} {σ : HP} (hd : decode (zb mm) pc = .ok (.invokespecial idx, 3)) (w : WF mm (pc, L, .ref a :: r, σ)) (hlk : Cond.methodLink (zC (zo mm)) idx objectInit ∈ gt) (h8 : cW r ≤ 8) (k : WK E p l e R s m args below meth c Q σ0 (pc + 3, L, r, σ)) : WK E p l e R s m args below meth c Q σ0 (pc, L, .ref a :: r, σ) := by
  intro ls H locs cells slots h1 h2 h3 h4 h5
  have hts := A.2.2.2.2.2.1
  have hf := A.2.2.2.2.2.2.2.2.2.2.1
  have hl := A.2.2.2.2.2.2.2.2.2.2.2
  have h9 := cat8 (E := E) h8
  refine W.objInit (a := adr E a) (rest := r.map (cv E)) A.1 A.2.1 A.2.2.2.2.1 (hts _ hlk) (hts _ oi_ok.1) (hts _ oi_ok.2) (g := F0 m pc ls ((Value.ref a :: r).map (cv E))) rfl ?_ rfl hd (by omega) ?_ (k ls H locs cells slots h1 h2 h3 h4 h5)
  · show ls.size = c.maxLocals
    rw [A.2.2.1, h1.1]
    exact w.2.2.2
  · show 2 * 0 + _ + 12 ≤ _
    omega
theorem sn_min (A : Act E K p R s m args meth c mm d) {idx pc : Nat} {x y : Int32} {L : LV} {r : List Value} {σ : HP} (hd : decode (zb mm) pc = .ok (.invokestatic idx, 3)) (w : WF mm (pc, L, .int y :: .int x :: r, σ)) (hlk : Cond.methodLink (zC (zo mm)) idx Lib.Math.min.name ∈ gt) (h8 : cW r ≤ 8) (hr : Rm R σ0 σ) (k : WK E p l e R s m args below meth c Q σ0 (pc + 3, L, .int (if y < x then y else x) :: r, σ)) : WK E p l e R s m args below meth c Q σ0 (pc, L, .int y :: .int x :: r, σ) := by
  intro ls H locs cells slots h1 h2 h3 h4 h5
  have hts := A.2.2.2.2.2.1
  have hf := A.2.2.2.2.2.2.2.2.2.2.1
  have hl := A.2.2.2.2.2.2.2.2.2.2.2
  have h9 := cat8 (E := E) h8
  have r1 := hr.1
  have r2 := hr.2
  have h4 : cells + hN σ0 = hN σ := h4
  have h5 : slots + hS σ0 = hS σ := h5
  exact va_mmin A.1 A.2.1 (by rw [A.2.2.1, h1.1]; exact w.2.2.2.symm) A.2.2.2.2.1 (hts _ hlk) (hts _ ma_min.1) (hts _ ma_init) (hts _ ma_min.2) (by omega) (by omega) (by omega) (by omega) hd (k ls H locs cells slots h1 h2 h3 h4 h5)
theorem sn_max (A : Act E K p R s m args meth c mm d) {idx pc : Nat} {x y : Int32} {L : LV} {r : List Value} {σ : HP} (hd : decode (zb mm) pc = .ok (.invokestatic idx, 3)) (w : WF mm (pc, L, .int y :: .int x :: r, σ)) (hlk : Cond.methodLink (zC (zo mm)) idx Lib.Math.max.name ∈ gt) (h8 : cW r ≤ 8) (hr : Rm R σ0 σ) (k : WK E p l e R s m args below meth c Q σ0 (pc + 3, L, .int (if x < y then y else x) :: r, σ)) : WK E p l e R s m args below meth c Q σ0 (pc, L, .int y :: .int x :: r, σ) := by
  intro ls H locs cells slots h1 h2 h3 h4 h5
  have hts := A.2.2.2.2.2.1
  have hf := A.2.2.2.2.2.2.2.2.2.2.1
  have hl := A.2.2.2.2.2.2.2.2.2.2.2
  have h9 := cat8 (E := E) h8
  have r1 := hr.1
  have r2 := hr.2
  have h4 : cells + hN σ0 = hN σ := h4
  have h5 : slots + hS σ0 = hS σ := h5
  exact va_mmax A.1 A.2.1 (by rw [A.2.2.1, h1.1]; exact w.2.2.2.symm) A.2.2.2.2.1 (hts _ hlk) (hts _ ma_max.1) (hts _ ma_init) (hts _ ma_max.2) (by omega) (by omega) (by omega) (by omega) hd (k ls H locs cells slots h1 h2 h3 h4 h5)
theorem sn_abs (A : Act E K p R s m args meth c mm d) {idx pc : Nat} {x : Int32} {L : LV} {r : List Value} {σ : HP} (hd : decode (zb mm) pc = .ok (.invokestatic idx, 3)) (w : WF mm (pc, L, .int x :: r, σ)) (hlk : Cond.methodLink (zC (zo mm)) idx Lib.Math.abs.name ∈ gt) (h8 : cW r ≤ 8) (hr : Rm R σ0 σ) (k : WK E p l e R s m args below meth c Q σ0 (pc + 3, L, .int (if 0 ≤ x then x else 0 - x) :: r, σ)) : WK E p l e R s m args below meth c Q σ0 (pc, L, .int x :: r, σ) := by
  intro ls H locs cells slots h1 h2 h3 h4 h5
  have hts := A.2.2.2.2.2.1
  have hf := A.2.2.2.2.2.2.2.2.2.2.1
  have hl := A.2.2.2.2.2.2.2.2.2.2.2
  have h9 := cat8 (E := E) h8
  have r1 := hr.1
  have r2 := hr.2
  have h4 : cells + hN σ0 = hN σ := h4
  have h5 : slots + hS σ0 = hS σ := h5
  exact va_mabs A.1 A.2.1 (by rw [A.2.2.1, h1.1]; exact w.2.2.2.symm) A.2.2.2.2.1 (hts _ hlk) (hts _ ma_abs.1) (hts _ ma_init) (hts _ ma_abs.2) (by omega) (by omega) (by omega) (by omega) hd (k ls H locs cells slots h1 h2 h3 h4 h5)
theorem sn_copy (A : Act E K p R s m args meth c mm d) {idx pc a b : Nat} {n q p9 : Int32} {L : LV} {r : List Value} {σ : HP} (hd : decode (zb mm) pc = .ok (.invokestatic idx, 3)) (w : WF mm (pc, L, .int n :: .int q :: .ref b :: .int p9 :: .ref a :: r, σ)) (hlk : Cond.methodLink (zC (zo mm)) idx arraycopyName ∈ gt)
    (hc : a ≠ b ∧ aty (a % 64) = 1 ∧ aty (b % 64) = 1 ∧ ¬ p9 < 0 ∧ ¬ q < 0 ∧ ¬ n < 0 ∧ p9.toNatClampNeg + n.toNatClampNeg ≤ alen (a % 64) ∧ q.toNatClampNeg + n.toNatClampNeg ≤ alen (b % 64) ∧ cW r ≤ 8)
    (k : WK E p l e R s m args below meth c Q σ0 (pc + 3, L, r, cI σ a p9.toNatClampNeg b q.toNatClampNeg n.toNatClampNeg)) : WK E p l e R s m args below meth c Q σ0 (pc, L, .int n :: .int q :: .ref b :: .int p9 :: .ref a :: r, σ) := by
  obtain ⟨hab, ta, tb, hp, hq, hn, la, lb, h8⟩ := hc
  have nn : ∀ z : Int32, ¬ z < 0 → z.toInt = (z.toNatClampNeg : Int) := by
    intro z hz
    have hz0 : (0 : Int) ≤ z.toInt := by
      have := Int32.not_lt.mp hz
      simpa using Int32.le_iff_toInt_le.mp this
    show z.toInt = ((z.toInt.toNat : Nat) : Int)
    omega
  intro ls H locs cells slots h1 h2 h3 h4 h5 T hT X
  have hts := A.2.2.2.2.2.1
  have hf := A.2.2.2.2.2.2.2.2.2.2.1
  have hl := A.2.2.2.2.2.2.2.2.2.2.2
  have h9 := cat8 (E := E) h8
  have hva : okV σ (.ref a) := w.1 _ (by simp)
  have hvb : okV σ (.ref b) := w.1 _ (by simp)
  have ta0 : aty (a % 64) ≠ 0 := by omega
  have tb0 : aty (b % 64) ≠ 0 := by omega
  obtain ⟨va9, had, hca⟩ := rep_row h2 hva ta0
  obtain ⟨vb9, hbd, hcb⟩ := rep_row h2 hvb tb0
  have hAr := (kn_arr A (t := 1) (by decide) (by decide)).1
  have ea : av E σ a = fun j => .int (gI σ a j) := by funext j; unfold av; rw [if_pos (Or.inl ta)]
  have eb : av E σ b = fun j => .int (gI σ b j) := by funext j; unfold av; rw [if_pos (Or.inl tb)]
  rw [ta, ea] at hca
  rw [tb, eb] at hcb
  obtain ⟨-, k0, hk0, cm0, hkk0⟩ := hAr (alen (a % 64)) (fun j => .int (gI σ a j))
  obtain ⟨-, k1, hk1, cm1, hkk1⟩ := hAr (alen (b % 64)) (fun j => .int (gI σ b j))
  obtain ⟨vm', X', step⟩ := X.arraycopy A.1 A.2.2.2.2.1 (hts _ hlk) (hts _ ac_ok.1) (hts _ ac_ok.2.1) (hts _ ac_ok.2.2) (src := adr E a) (dst := adr E b) (cs := vp_cell (eC E 1) (alen (a % 64), .inl (gI σ a))) (cd := vp_cell (eC E 1) (alen (b % 64), .inl (gI σ b))) (srcPos := p9) (destPos := q) (n := n) (by rw [hT]; exact hca) (by rw [hT]; exact hcb)
    (fun _ h => by cases h) (fun _ h => by cases h) (fun h => by cases h) (fun h => by cases h) hk0 hk1 hkk0 hkk1 (by decide) hp hq hn
    (by rw [nn p9 hp, nn n hn]; show ¬ _ > ((arrV (eC E 1) (alen (a % 64)) (fun j => .int (gI σ a j))).slots.size : Int); rw [arrV_size]; omega)
    (by rw [nn q hq, nn n hn]; show ¬ _ > ((arrV (eC E 1) (alen (b % 64)) (fun j => .int (gI σ b j))).slots.size : Int); rw [arrV_size]; omega)
    (fun vm₁ _ i hi => by
      have e : (vp_cell (eC E 1) (alen (a % 64), .inl (gI σ a))).slots.getD (p9.toNatClampNeg + i) .null = .int (gI σ a (p9.toNatClampNeg + i)) := by
        show (arrV (eC E 1) (alen (a % 64)) (fun j => .int (gI σ a j))).slots.getD _ _ = _
        rw [Array.getD_eq_getD_getElem?, arrV_read _ _ (by omega)]
        rfl
      refine ⟨?_, ?_⟩
      · rw [e]
        rfl
      · rw [e]
        exact trivial)
    (g := F0 m pc ls ((Value.int n :: .int q :: .ref b :: .int p9 :: .ref a :: r).map (cv E))) rfl (by show ls.size = _; rw [A.2.2.1, h1.1]; exact w.2.2.2) (rest := r.map (cv E)) rfl (by rw [A.2.1]; exact hd) (by omega) (by
      show 2 * 0 + _ + (7 + 11) ≤ _
      omega)
  have e1 : copied (vp_cell (eC E 1) (alen (a % 64), .inl (gI σ a))) (vp_cell (eC E 1) (alen (b % 64), .inl (gI σ b))) p9 q n = vp_cell (eC E 1) (alen (b % 64), .inl (va_cpy (gI σ a) (gI σ b) p9.toNatClampNeg q.toNatClampNeg n.toNatClampNeg)) := va_copied (fun z => .int z) _ _ (gI σ a) (gI σ b) la
  rw [e1] at X' step
  have hl2 : adr E b < H.size := (Array.getElem?_eq_some_iff.mp hcb).1
  have hheap : ((T.setVm vm').setCell (adr E b) (vp_cell (eC E 1) (alen (b % 64), .inl (va_cpy (gI σ a) (gI σ b) p9.toNatClampNeg q.toNatClampNeg n.toNatClampNeg)))).heap = H.setIfInBounds (adr E b) (vp_cell (eC E 1) (alen (b % 64), .inl (va_cpy (gI σ a) (gI σ b) p9.toNatClampNeg q.toNatClampNeg n.toNatClampNeg))) := by rw [← hT]; rfl
  have oq : ∀ z : Nat, z ≠ adr E b → (H.setIfInBounds (adr E b) (vp_cell (eC E 1) (alen (b % 64), .inl (va_cpy (gI σ a) (gI σ b) p9.toNatClampNeg q.toNatClampNeg n.toNatClampNeg))))[z]? = H[z]? := fun z hz => by simp [Array.getElem?_setIfInBounds, Ne.symm hz]
  have h20 := aty_arr tb0
  obtain ⟨t, a1, b1⟩ := k ls _ _ cells slots h1 (rep_upd (a := b) (H' := H.setIfInBounds (adr E b) (vp_cell (eC E 1) (alen (b % 64), .inl (va_cpy (gI σ a) (gI σ b) p9.toNatClampNeg q.toNatClampNeg n.toNatClampNeg)))) h2 vb9 (by omega) rfl (fun b' j hb => if_neg (fun z => hb z.1)) (fun _ _ _ => rfl) (fun _ _ _ => rfl) (by simp) (fun z hz => oq z (by rw [hbd]; exact hz)) ⟨fun z => by omega, fun _ => by
      rw [← hbd, Array.getElem?_setIfInBounds_self_of_lt hl2, tb]
      congr 1
      rw [vp_cell_i]
      congr 1
      funext j
      unfold av
      rw [if_pos (Or.inl tb)]
      refine congrArg Value.int ?_
      show va_cpy (gI σ a) (gI σ b) p9.toNatClampNeg q.toNatClampNeg n.toNatClampNeg j = (if b = b ∧ q.toNatClampNeg ≤ j ∧ j < q.toNatClampNeg + n.toNatClampNeg then gI σ a (p9.toNatClampNeg + (j - q.toNatClampNeg)) else gI σ b j)
      unfold va_cpy
      by_cases hj : q.toNatClampNeg ≤ j ∧ j < q.toNatClampNeg + n.toNatClampNeg
      · rw [if_pos hj, if_pos ⟨rfl, hj⟩]
      · rw [if_neg hj, if_neg (fun z => hj z.2)]⟩) (fun z hz => by
      rcases List.mem_append.mp hz with h | h
      · exact h3 z h
      · obtain ⟨y, -, hy⟩ := List.mem_map.mp h
        rw [← hy]
        show eB E ≤ adr E b
        rw [hbd]
        exact Nat.le_add_right _ _) h4 h5 _ hheap X'
  exact ⟨t, step t a1, b1⟩
end SndP
