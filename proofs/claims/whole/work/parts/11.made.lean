/-! steps that make things; constants; members that the machine has of its own -/
section SndM
variable {p : Program} {l : Launch} {e : Env} {R : Room} {s : State} {m : MethodId} {args : Array Value} {below : List Frame} {meth : Method} {c : Code} {Q : State → Prop}
variable {E : EE} {K : State → Prop} {mm : MM} {d : Nat} {σ0 : HP}
theorem adr_made {σ : HP} {H : Heap} {k : Nat} (h : Rep E σ H) (hk : k < 64) (h16 : k ≠ 16) (h18 : k ≠ 18) : adr E (k + 64 * hN σ) = H.size := by
  rw [adr_new (by omega) (by omega), h.1]
  omega
theorem fv_made {ci k j : Nat} {σ : HP} (hci : ci < 13) : fv E (hA σ ci k) (ci + 64 * hN σ) j = if zft ci j = 0 then .int 0 else .null := by
  unfold fv
  rw [show (ci + 64 * hN σ) % 64 = ci by omega, show gI (hA σ ci k) (ci + 64 * hN σ) j = 0 from if_pos rfl, show gR (hA σ ci k) (ci + 64 * hN σ) j = none from if_pos rfl]
  rfl
theorem sn_new (A : Act E K p R s m args meth c mm d) {idx pc ci : Nat} {L : LV} {st : List Value} {σ : HP} (hd : decode (zb mm) pc = .ok (.new idx, 3)) (w : WF mm (pc, L, st, σ)) (hk : kl (zo mm) idx = some ci) (hr : Rm R σ0 (hA σ ci (zN ci))) (k : WK E p l e R s m args below meth c Q σ0 (pc + 3, L, .ref (ci + 64 * hN σ) :: st, hA σ ci (zN ci))) : WK E p l e R s m args below meth c Q σ0 (pc, L, st, σ) := by
  have hci := kl_in hk
  have hlk : Cond.classLink (zC (zo mm)) idx (zC ci) ∈ gt := kl_ok hk
  have hts := A.2.2.2.2.2.1
  obtain ⟨hi1, hi2⟩ := u_ins hci
  intro ls H locs cells slots h1 h2 h3 h4 h5
  have hKn := A.2.2.2.2.2.2.2.2.2.1.1.1 ci _ (clz_at hci)
  have r1 : hN σ + 1 ≤ hN σ0 + R.cells := hr.1
  have r2 : hS σ + zN ci ≤ hS σ0 + R.slots := hr.2
  have h4 : cells + hN σ0 = hN σ := h4
  have h5 : slots + hS σ0 = hS σ := h5
  refine W.newcK (h := H.size) A.1 A.2.1 A.2.2.2.2.1 (hts _ hlk) (hts _ hi1) (hts _ hi2) rfl hd (by omega) (by omega) hKn.2.1 rfl fun H1 kC hkC e1 z1 o1 => ?_
  have hb := u_born (zty ci) hts (u_in hci) hKn hkC e1 (fun k hk => (u_ty hci k hk).1)
  have hadr := adr_made h2 (k := ci) (by omega) (by omega) (by omega)
  have kk := k ls H1 locs (cells + 1) (slots + zN ci) h1 ?_ h3 (by show cells + 1 + hN σ0 = hN σ + 1; omega) (by show slots + zN ci + hS σ0 = hS σ + zN ci; omega)
  · have e2 : (Value.ref (ci + 64 * hN σ) :: st).map (cv E) = .ref H.size :: st.map (cv E) := by
      show Value.ref (adr E (ci + 64 * hN σ)) :: _ = _
      rw [hadr]
    rw [e2] at kk
    exact kk
  · refine rep_new h2 (by omega) (by omega) z1 o1 ⟨fun _ => ?_, fun z => ?_⟩
    · rw [show (ci + 64 * hN σ) % 64 = ci by omega, show eB E + (ci + 64 * hN σ) / 64 = H.size by rw [h2.1]; omega]
      refine hb.to fun j hj => ?_
      rw [fv_made hci]
      rcases (u_ty hci j hj).2.1 with ⟨q1, q2⟩ | ⟨q1, q2⟩
      · rw [q2, if_pos q1]
        rfl
      · rw [if_neg q1]
        cases hz : zty ci j with
        | object _ => rfl
        | array _ => rfl
        | _ => rw [hz] at q2; cases q2
    · have := aty_arr z
      omega
theorem av_made {k n j : Nat} {σ : HP} (hk : k < 64) : av E (hA σ k n) (k + 64 * hN σ) j = if aty k = 1 ∨ aty k = 3 then .int 0 else if aty k = 2 then .long 0 else .null := by
  unfold av
  rw [show (k + 64 * hN σ) % 64 = k by omega, show gI (hA σ k n) (k + 64 * hN σ) j = 0 from if_pos rfl, show gR (hA σ k n) (k + 64 * hN σ) j = none from if_pos rfl, show gJ (hA σ k n) (k + 64 * hN σ) j = 0 from if_pos rfl]
  rfl
/-- behind the making of a row -/
theorem row_made {σ : HP} {H H1 : Heap} {t k pc' : Nat} {L : LV} {r : List Value} {ls : Array Slot} {locs : List Loc} {cells slots : Nat} (ht : 1 ≤ t) (hk : 20 ≤ k) (hk2 : k < 63) (hat : aty k = t) (h1 : LH E ls L) (h2 : Rep E σ H) (h3 : ∀ q ∈ locs, eB E ≤ q.base) (h4 : cells + hN σ0 = hN σ) (h5 : slots + hS σ0 = hS σ)
    (e1 : H1[H.size]? = some (arrV (eC E t) (alen k) (fun _ => if t = 1 ∨ t = 3 then .int 0 else if t = 2 then .long 0 else .null))) (z1 : H1.size = H.size + 1) (o1 : ∀ q, q < H.size → H1[q]? = H[q]?) (kk : WK E p l e R s m args below meth c Q σ0 (pc', L, .ref (k + 64 * hN σ) :: r, hA σ k (alen k))) :
    W p l e R s m args below meth c H1 locs (cells + 1) (slots + alen k) Q (F0 m pc' ls (.ref H.size :: r.map (cv E))) := by
  have hadr := adr_made h2 (k := k) (by omega) (by omega) (by omega)
  have kk := kk ls H1 locs (cells + 1) (slots + alen k) h1 ?_ h3 (by show cells + 1 + hN σ0 = hN σ + 1; omega) (by show slots + alen k + hS σ0 = hS σ + alen k; omega)
  · have e2 : (Value.ref (k + 64 * hN σ) :: r).map (cv E) = .ref H.size :: r.map (cv E) := by
      show Value.ref (adr E (k + 64 * hN σ)) :: _ = _
      rw [hadr]
    rw [e2] at kk
    exact kk
  · refine rep_new h2 (by omega) (by omega) z1 o1 ⟨fun z => by omega, fun _ => ?_⟩
    rw [show (k + 64 * hN σ) % 64 = k by omega, show eB E + (k + 64 * hN σ) / 64 = H.size by rw [h2.1]; omega, hat, e1]
    congr 2
    funext j
    rw [av_made (by omega), hat]
theorem alen_le : ∀ k, k < 64 → alen k ≤ 4440 := by decide +kernel
theorem sn_arrP (A : Act E K p R s m args meth c mm d) {pc t : Nat} {at9 : ArrayType} {L : LV} {st : List Value} {σ : HP} {x : Cfg} (hd : decode (zb mm) pc = .ok (.newarray at9, 2)) (hat : (at9 = .int ∧ t = 1) ∨ (at9 = .long ∧ t = 2) ∨ (at9 = .byte ∧ t = 3)) (w : WF mm (pc, L, st, σ)) (h : zArr t pc 2 L st σ = some (.inr x)) (hr : Rm R σ0 x.2.2.2) (k : WK E p l e R s m args below meth c Q σ0 x) : WK E p l e R s m args below meth c Q σ0 (pc, L, st, σ) := by
  unfold zArr at h
  split at h
  · next y r =>
    split at h
    · cases h
    · next hy =>
      split at h
      · next kk hk =>
        obtain ⟨k1, k2, k3, k4⟩ := arrK_in hk
        cases h
        intro ls H locs cells slots h1 h2 h3 h4 h5
        have r1 : hN σ + 1 ≤ hN σ0 + R.cells := hr.1
        have r2 : hS σ + alen kk ≤ hS σ0 + R.slots := hr.2
        have h4 : cells + hN σ0 = hN σ := h4
        have h5 : slots + hS σ0 = hS σ := h5
        have hle := alen_le kk (by omega)
        have fin : ∀ (ty : FieldType), newarray.typeOf at9 = ty → tyE t = ty → (∀ C, ty ≠ .object C) → Cond.arrayClass ty ∈ gt → componentBytes ty ≤ 8 → defaultValue ty = (if t = 1 ∨ t = 3 then .int 0 else if t = 2 then .long 0 else .null) → W p l e R s m args below meth c H locs cells slots Q (F0 m pc ls ((Value.int y :: r).map (cv E))) := by
          intro ty ety ety2 hno hac hcb hdv
          have ht1 : 1 ≤ t ∧ t ≤ 5 := by omega
          have hRA := (kn_arr A (t := t) ht1.1 ht1.2).2
          have hfc : s.vm.findClass ("[" ++ ty.toString) = some (eC E t) := by
            rw [ety2] at hRA
            cases ty with
            | object C => exact absurd rfl (hno C)
            | _ => exact hRA
          refine va_newaK (N := alen kk) A.1 A.2.1 (by rw [ety]; exact A.2.2.2.2.2.1 _ hac) rfl hd rfl hy k4.symm (by rw [ety]; exact Nat.le_trans (Nat.mul_le_mul hle hcb) (by decide)) (by omega) (by omega) rfl fun H1 cA e1 z1 o1 hAr hNm => ?_
          rw [ety] at hNm e1
          cases Option.some.inj (hfc.symm.trans hNm)
          rw [hdv] at e1
          exact row_made ht1.1 k1 k2 k3 h1 h2 h3 h4 h5 e1 z1 o1 k
        rcases hat with ⟨rfl, rfl⟩ | ⟨rfl, rfl⟩ | ⟨rfl, rfl⟩
        · exact fin .int rfl rfl (fun _ q => by cases q) ac_int (by decide) rfl
        · exact fin .long rfl rfl (fun _ q => by cases q) ac_long (by decide) rfl
        · exact fin .byte rfl rfl (fun _ q => by cases q) ac_byte (by decide) rfl
      · cases h
  · cases h
theorem sn_arrA (A : Act E K p R s m args meth c mm d) {pc idx t : Nat} {L : LV} {st : List Value} {σ : HP} {x : Cfg} (hd : decode (zb mm) pc = .ok (.anewarray idx, 3)) (hal : al (zo mm) idx = some t) (w : WF mm (pc, L, st, σ)) (h : zArr t pc 3 L st σ = some (.inr x)) (hr : Rm R σ0 x.2.2.2) (k : WK E p l e R s m args below meth c Q σ0 x) : WK E p l e R s m args below meth c Q σ0 (pc, L, st, σ) := by
  obtain ⟨hlk, ht45⟩ : Cond.classLink (zC (zo mm)) idx (aCn t) ∈ gt ∧ (t = 4 ∨ t = 5) := al_ok hal
  unfold zArr at h
  split at h
  · next y r =>
    split at h
    · cases h
    · next hy =>
      split at h
      · next kk hk =>
        obtain ⟨k1, k2, k3, k4⟩ := arrK_in hk
        cases h
        intro ls H locs cells slots h1 h2 h3 h4 h5
        have r1 : hN σ + 1 ≤ hN σ0 + R.cells := hr.1
        have r2 : hS σ + alen kk ≤ hS σ0 + R.slots := hr.2
        have h4 : cells + hN σ0 = hN σ := h4
        have h5 : slots + hS σ0 = hS σ := h5
        have hle := alen_le kk (by omega)
        have hRA := (kn_arr A (t := t) (by omega) (by omega)).2
        have hty : tyE t = .object (aCn t) := by rcases ht45 with rfl | rfl <;> rfl
        rw [hty] at hRA
        obtain ⟨kA, comp, q1, q2, q3, q4⟩ := hRA
        have hAO : va_AO (aCn t) s := by
          rcases ht45 with rfl | rfl
          · exact A.2.2.2.2.2.2.2.2.2.1.2.2.1
          · exact A.2.2.2.2.2.2.2.2.2.1.2.2.2.1
        refine W.anew A.1 A.2.1 A.2.2.2.2.1 (A.2.2.2.2.2.1 _ hlk) (va_AO.use hAO) rfl hd rfl hy (by rw [← k4]; exact Nat.le_trans (Nat.mul_le_mul hle (Nat.le_refl 4)) (by decide)) (by omega) (by rw [← k4]; omega) fun cA kA' comp' f1 f2 f3 f4 => ?_
        cases Option.some.inj (q4.symm.trans f1)
        generalize hH1 : H.push _ = H1
        have z1 : H1.size = H.size + 1 := by rw [← hH1, Array.size_push]
        have e1 : H1[H.size]? = some (arrV (eC E t) (alen kk) (fun _ => .null)) := by rw [← hH1, Array.getElem?_push_size, ← arrV_new, k4]
        have o1 : ∀ q : Nat, q < H.size → H1[q]? = H[q]? := fun q hq => by rw [← hH1, Array.getElem?_push, if_neg (Nat.ne_of_lt hq)]
        rw [← k4]
        refine row_made (t := t) (by omega) k1 k2 k3 h1 h2 h3 h4 h5 ?_ z1 o1 k
        rw [e1]
        rcases ht45 with rfl | rfl <;> rfl
      · cases h
  · cases h
theorem sn_ldcI (A : Act E K p R s m args meth c mm d) {pc idx : Nat} {v : Int32} {L : LV} {st : List Value} {σ : HP} (hd : decode (zb mm) pc = .ok (.ldc idx, 2)) (hi : il (zo mm) idx = some v) (k : WK E p l e R s m args below meth c Q σ0 (pc + 2, L, .int v :: st, σ)) : WK E p l e R s m args below meth c Q σ0 (pc, L, st, σ) := by
  intro ls H locs cells slots h1 h2 h3 h4 h5
  exact lv_ldc A.1 A.2.1 A.2.2.2.2.1 (A.2.2.2.2.2.1 _ (il_ok hi)) hd (k ls H locs cells slots h1 h2 h3 h4 h5)
theorem sn_ldcWI (A : Act E K p R s m args meth c mm d) {pc idx : Nat} {v : Int32} {L : LV} {st : List Value} {σ : HP} (hd : decode (zb mm) pc = .ok (.ldc_w idx, 3)) (hi : il (zo mm) idx = some v) (k : WK E p l e R s m args below meth c Q σ0 (pc + 3, L, .int v :: st, σ)) : WK E p l e R s m args below meth c Q σ0 (pc, L, st, σ) := by
  intro ls H locs cells slots h1 h2 h3 h4 h5 T hT X
  obtain ⟨t, a1, b1⟩ := k ls H locs cells slots h1 h2 h3 h4 h5 T hT X
  exact ⟨t, va_ldcwI X A.1 A.2.2.2.2.1 (A.2.2.2.2.2.1 _ (il_ok hi)) (g := F0 m pc ls (st.map (cv E))) rfl (by rw [A.2.1]; exact hd) t a1, b1⟩
theorem sn_ldc2 (A : Act E K p R s m args meth c mm d) {pc idx : Nat} {L : LV} {st : List Value} {σ : HP} {x : Cfg} (hd : decode (zb mm) pc = .ok (.ldc2_w idx, 3)) (w : WF mm (pc, L, st, σ)) (h : zLdc2 (zo mm) idx pc L st σ = some (.inr x)) (hr : Rm R σ0 x.2.2.2) (k : WK E p l e R s m args below meth c Q σ0 x) : WK E p l e R s m args below meth c Q σ0 (pc, L, st, σ) := by
  unfold zLdc2 at h
  split at h
  · next v hv =>
    cases h
    intro ls H locs cells slots h1 h2 h3 h4 h5
    exact lv_ldc2 A.1 A.2.1 A.2.2.2.2.1 (A.2.2.2.2.2.1 _ (ll_ok hv)) hd (k ls H locs cells slots h1 h2 h3 h4 h5)
  · cases h
theorem cat_sum (r : List Value) : ((r.map (cv E)).map fun v => v.category).sum ≤ 2 * r.length := by
  induction r with
  | nil => exact Nat.le_refl _
  | cons v r ih =>
    have := ih
    have hc : (cv E v).category ≤ 2 := by rw [cv_cat]; cases v <;> simp [Value.category]
    simp only [List.map_cons, List.sum_cons, List.length_cons]
    omega
end SndM
