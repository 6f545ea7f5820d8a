/-! every step; every run; every call -/
section SndZ
variable {p : Program} {l : Launch} {e : Env} {R : Room} {s : State} {m : MethodId} {args : Array Value} {below : List Frame} {meth : Method} {c : Code} {Q : State → Prop}
variable {E : EE} {K : State → Prop} {mm : MM} {d : Nat} {σ0 : HP}
/-- the texts: what is shown elsewhere -/
def SpS (E : EE) (K : State → Prop) (l : Launch) : Prop := ∀ (p : Program) (e : Env) (R : Room) (s : State) (m : MethodId) (args : Array Value) (below : List Frame) (meth : Method) (c : Code) (Q : State → Prop) (mm : MM) (d : Nat) (σ0 : HP), Act E K p R s m args meth c mm d →
  (∀ (idx pc n i : Nat) (L : LV) (st : List Value) (σ : HP), (decode (zb mm) pc = .ok (.ldc idx, 2) ∧ n = 2) ∨ (decode (zb mm) pc = .ok (.ldc_w idx, 3) ∧ n = 3) → sl (zo mm) idx = some i → WK E p l e R s m args below meth c Q σ0 (pc + n, L, .ref (16 + 64 * i) :: st, σ) → WK E p l e R s m args below meth c Q σ0 (pc, L, st, σ)) ∧
  (∀ (idx pc a : Nat) (L : LV) (r : List Value) (σ : HP), decode (zb mm) pc = .ok (.invokevirtual idx, 3) → Cond.methodLink (zC (zo mm)) idx ⟨"java/lang/String", "length", "()I"⟩ ∈ gt → WF mm (pc, L, .ref a :: r, σ) → Rm R σ0 σ → 4 ≤ d ∧ a % 64 = 16 ∧ a / 64 < 27 ∧ cW r ≤ 8 → WK E p l e R s m args below meth c Q σ0 (pc + 3, L, .int (Int32.ofNat (slen (a / 64))) :: r, σ) → WK E p l e R s m args below meth c Q σ0 (pc, L, .ref a :: r, σ)) ∧
  (∀ (idx pc a : Nat) (i : Int32) (L : LV) (r : List Value) (σ : HP), decode (zb mm) pc = .ok (.invokevirtual idx, 3) → Cond.methodLink (zC (zo mm)) idx ⟨"java/lang/String", "charAt", "(I)C"⟩ ∈ gt → WF mm (pc, L, .int i :: .ref a :: r, σ) → Rm R σ0 σ → 4 ≤ d ∧ a % 64 = 16 ∧ a / 64 < 27 ∧ cW r ≤ 8 ∧ inR i (slen (a / 64)) = true → WK E p l e R s m args below meth c Q σ0 (pc + 3, L, .int (sbyt (a / 64) i.toNatClampNeg) :: r, σ) → WK E p l e R s m args below meth c Q σ0 (pc, L, .int i :: .ref a :: r, σ))
/-- the frame g with q thrown over it comes to Q -/
def WT (p : Program) (l : Launch) (e : Env) (R : Room) (s : State) (m : MethodId) (args : Array Value) (below : List Frame) (meth : Method) (c : Code) (H : Heap) (locs : List Loc) (cells slots : Nat) (Q : State → Prop) (g : JFrame) (q : Addr) : Prop :=
  ∀ T : State, T.heap = H → Stand p l e R s m args below meth c T locs cells slots → ∃ t, Steps p.tables e below ((T.setTop g).pushFrame (.throwing q)) t ∧ Q t
/-- the end that r asks -/
def QZ (E : EE) (below : List Frame) (s : State) (R : Room) (r : Res) : State → Prop := fun t => ∃ o, t.status = .running ∧ Ended t below o ∧ zEnd E r R.cells R.slots s o t
/-- throwing and catching: what is shown elsewhere -/
def SpX (E : EE) (K : State → Prop) (l : Launch) : Prop := ∀ (p : Program) (e : Env) (R : Room) (s : State) (m : MethodId) (args : Array Value) (below : List Frame) (meth : Method) (c : Code) (Q : State → Prop) (mm : MM) (d : Nat) (σ0 : HP), Act E K p R s m args meth c mm d →
  (∀ (idx pc y is ic : Nat) (L : LV) (σ : HP), decode (zb mm) pc = .ok (.new idx, 3) → xl (zo mm) idx = some (y, is, ic) → 20 ≤ d ∧ zh mm = [] ∧ decode (zb mm) (pc + 3) = .ok (.dup, 1) ∧ decode (zb mm) (pc + 4) = .ok (.ldc_w is, 3) ∧ decode (zb mm) (pc + 7) = .ok (.invokespecial ic, 3) ∧ decode (zb mm) (pc + 10) = .ok (.athrow, 1) → WF mm (pc, L, [], σ) → hN σ + 1 = hN σ0 + R.cells → hS σ + 6 = hS σ0 + R.slots →
    WK E p l e R s m args below meth c (QZ E below s R (.inr y, hA σ 63 6)) σ0 (pc, L, [], σ)) ∧
  (∀ (pc x q kk : Nat) (L : LV) (σ : HP) (ls : Array Slot) (H : Heap) (locs : List Loc) (cells slots qa : Nat) (ce : Cell) (rest : List Value), hnd mm pc x = some (q, kk) → zo mm = 13 → kk < L.length → okS (zs mm) kk = true → wfL (zs mm) L σ → LH E ls L → H[qa]? = some ce → ce.vm = .none → s.vm.findClass (xNm x) = some ce.cls →
    (∀ ls' : Array Slot, LH E ls' (L.set kk none) → W p l e R s m args below meth c H locs cells slots Q (F0 m q ls' [])) → WT p l e R s m args below meth c H locs cells slots Q (F0 m pc ls rest) qa)
/-- the calls that may throw -/
theorem sn_callV {C : CF} (A : Act E K p R s m args meth c mm d) (hK : Kw K) (hSX : SpX E K l) (hz13 : zh mm ≠ [] → zo mm = 13) (hCS : CS E K l C d) (hCP : CP C) {m' : MM} {idx pc a : Nat} {as : List Value} {L : LV} {st : List Value} {σ : HP} {x : Cfg} (hd : decode (zb mm) pc = .ok (.invokevirtual idx, 3)) (hl : lOK (zo mm) idx 1 m') (ea : (st.take (zn m')).reverse = .ref a :: as) (ha : a % 64 = zo m') (w : WF mm (pc, L, st, σ)) (h : zCall C mm m' pc L st σ = some (.inr x)) (hr : Rm R σ0 x.2.2.2) (k : WK E p l e R s m args below meth c Q σ0 x) : WK E p l e R s m args below meth c Q σ0 (pc, L, st, σ) := by
  obtain ⟨z0, z1, hm, hlk, hin, hsel, hci⟩ := hl
  have hcls : (zy m').cls = zC (zo m') := hm.2.2.2.2.1
  unfold zCall at h
  split at h
  · next hn =>
    have hra : ∀ v ∈ (st.take (zn m')).reverse, okV σ v := fun v q => w.1 v (List.mem_of_mem_take (List.mem_reverse.mp q))
    have hts := A.2.2.2.2.2.1
    have hlen := call_len ea hn.1
    have hlen : as.length + 1 = zn m' := hlen
    have stk' : st.map (cv E) = (as.map (cv E)).reverse ++ .ref (adr E a) :: (st.drop (zn m')).map (cv E) := by
      rw [stk (E := E) ea, List.map_cons, List.reverse_cons, List.append_assoc]
      rfl
    cases hc : C m' (st.take (zn m')).reverse σ with
    | none => rw [hc] at h; cases h
    | some r =>
      rw [hc] at h
      obtain ⟨hx, hw, ho⟩ := hCP m' _ σ r hc hra w.2.2.1
      rw [ea] at hc hra
      have hva : okV σ (.ref a) := hra _ List.mem_cons_self
      have M := hCS m' _ _ σ r hc hm hra w.2.2.1
      obtain ⟨o, σ'⟩ := r
      have cb : CallW R s args (zC (zo mm)) (zC (zo m')) idx (zy m') (zb m') (zl m') (zr m') (cw m' :: gt) (rmz d (hN σ' - hN σ) (hS σ' - hS σ)) (hN σ' - hN σ) (hS σ' - hS σ) (zn m' - 1) := ⟨call_b A z0 hm hlk, hts _ hin, by rw [← hcls]; exact hts _ hsel⟩
      cases o with
      | inl v =>
        cases h
        intro ls H locs cells slots h1 h2 h3 h4 h5
        have hfit := rm_fits hr hx h4 h5
        have hsz : (F0 m pc ls (st.map (cv E))).locals.size = zl mm := by show ls.size = _; rw [h1.1]; exact w.2.2.2
        refine call_go (L := L) (a := ((st.take (zn m')).reverse.map (cv E)).toArray) ?_ hx h1 h3 h4 h5 k
        exact va_runV (call_fix A) (met_ret M) cb (pre_v A hK h2 hci ha hva) rfl (by rw [List.length_map]; omega) hsz stk' (room8 hn.2) hd hfit
      | inr y =>
        unfold zBack at h
        dsimp only at h
        split at h
        · cases h
        · next hzh =>
          split at h
          · next q kk hh =>
            split at h
            · next hkk =>
              cases h
              intro ls H locs cells slots h1 h2 h3 h4 h5
              have hfit := rm_fits hr hx h4 h5
              have hsz : (F0 m pc ls (st.map (cv E))).locals.size = zl mm := by show ls.size = _; rw [h1.1]; exact w.2.2.2
              have x1 : hN σ ≤ hN σ' := hx.1
              have x2 : hS σ ≤ hS σ' := hx.2.1
              have h4 : cells + hN σ0 = hN σ := h4
              have h5 : slots + hS σ0 = hS σ := h5
              intro T hT X
              obtain ⟨qa, ce, T', L9, X', g2, q3, g5, g6, g7, g8⟩ := call_thr A hm.2.1 M cb (pre_v A hK h2 hci ha hva) (g := F0 m pc ls (st.map (cv E))) rfl (by rw [List.length_map]; omega) hsz stk' (room8 hn.2) hd hfit hT X
              have key := (hSX p e R s m args below meth c Q mm d σ0 A).2 pc y q kk L σ ls T'.heap (locs ++ L9) (cells + (hN σ' - hN σ)) (slots + (hS σ' - hS σ)) qa ce ((st.drop (zn m')).map (cv E)) hh (hz13 hzh) hkk.1 hkk.2 w.2.1 h1 g5 g6 g7
                (fun ls' h1' => k ls' T'.heap (locs ++ L9) _ _ h1' q3 (fun z hz => (List.mem_append.mp hz).elim (h3 z) (g2 z)) (show cells + (hN σ' - hN σ) + hN σ0 = hN σ' by omega) (show slots + (hS σ' - hS σ) + hS σ0 = hS σ' by omega))
              obtain ⟨t2, a1, b1⟩ := key T' rfl X'
              exact ⟨t2, g8.trans a1, b1⟩
            · cases h
          · cases h
  · cases h

/-- a return, out of the kit's row -/
theorem q_ret {H : Heap} {locs : List Loc} {v : Option Value} {σ : HP} {g : JFrame} (k : W p l e R s m args below meth c H locs R.cells R.slots (MQ below (QcR E (.inl v, σ)) args s R.cells R.slots (frz E)) g) : W p l e R s m args below meth c H locs R.cells R.slots (QZ E below s R (.inl v, σ)) g := fun T hT X => by
  obtain ⟨t, h1, o, h2, h3, ⟨u, q1, q2, q3⟩, L, ⟨-, w1, w2⟩, hL⟩ := k T hT X
  cases q1
  exact ⟨t, h1, o, h2, h3, q2, q3, w1, L, w2, hL⟩
theorem en_iret (A : Act E K p R s m args meth c mm d) {pc : Nat} {L : LV} {st : List Value} {σ : HP} {r : Res} (hd : decode (zb mm) pc = .ok (.ireturn, 1)) (h : zIret mm st σ = some (.inl r)) (hN9 : hN r.2 = hN σ0 + R.cells) (hS9 : hS r.2 = hS σ0 + R.slots) : WK E p l e R s m args below meth c (QZ E below s R r) σ0 (pc, L, st, σ) := by
  unfold zIret at h
  split at h
  · next v =>
    split at h
    · next ty hty =>
      split at h
      · next hn =>
        cases h
        intro ls H locs cells slots h1 h2 h3 h4 h5
        have h4 : cells + hN σ0 = hN σ := h4
        have h5 : slots + hS σ0 = hS σ := h5
        have hN9 : hN σ = hN σ0 + R.cells := hN9
        have hS9 : hS σ = hS σ0 + R.slots := hS9
        have e1 : cells = R.cells := by omega
        have e2 : slots = R.slots := by omega
        rw [e1, e2]
        refine q_ret (W.zret A.1 A.2.1 (A.2.2.2.1.trans hty) hn (fun t ht _ => ⟨some (.int v), rfl, rfl, by rw [ht]; exact h2⟩) h3 hd (hlocks := A.2.2.2.2.2.2.1))
      · cases h
    · cases h
  · cases h
theorem en_lret (A : Act E K p R s m args meth c mm d) {pc : Nat} {L : LV} {st : List Value} {σ : HP} {r : Res} (hd : decode (zb mm) pc = .ok (.lreturn, 1)) (h : zLret mm st σ = some (.inl r)) (hN9 : hN r.2 = hN σ0 + R.cells) (hS9 : hS r.2 = hS σ0 + R.slots) : WK E p l e R s m args below meth c (QZ E below s R r) σ0 (pc, L, st, σ) := by
  unfold zLret at h
  split at h
  · next v =>
    split at h
    · next hty =>
      cases h
      intro ls H locs cells slots h1 h2 h3 h4 h5
      have h4 : cells + hN σ0 = hN σ := h4
      have h5 : slots + hS σ0 = hS σ := h5
      have hN9 : hN σ = hN σ0 + R.cells := hN9
      have hS9 : hS σ = hS σ0 + R.slots := hS9
      have e1 : cells = R.cells := by omega
      have e2 : slots = R.slots := by omega
      rw [e1, e2]
      refine q_ret (W.lret A.1 A.2.1 (A.2.2.2.1.trans hty) (fun t ht _ => ⟨some (.long v), rfl, rfl, by rw [ht]; exact h2⟩) h3 hd (hlocks := A.2.2.2.2.2.2.1))
    · cases h
  · cases h
theorem en_vret (A : Act E K p R s m args meth c mm d) {pc : Nat} {L : LV} {st : List Value} {σ : HP} {r : Res} (hd : decode (zb mm) pc = .ok (.return_, 1)) (h : zVret mm st σ = some (.inl r)) (hN9 : hN r.2 = hN σ0 + R.cells) (hS9 : hS r.2 = hS σ0 + R.slots) : WK E p l e R s m args below meth c (QZ E below s R r) σ0 (pc, L, st, σ) := by
  unfold zVret at h
  split at h
  · split at h
    · next hty =>
      cases h
      intro ls H locs cells slots h1 h2 h3 h4 h5
      have h4 : cells + hN σ0 = hN σ := h4
      have h5 : slots + hS σ0 = hS σ := h5
      have hN9 : hN σ = hN σ0 + R.cells := hN9
      have hS9 : hS σ = hS σ0 + R.slots := hS9
      have e1 : cells = R.cells := by omega
      have e2 : slots = R.slots := by omega
      rw [e1, e2]
      refine q_ret (W.vret A.1 A.2.1 (A.2.2.2.1.trans hty) (fun t ht _ => ⟨none, rfl, rfl, by rw [ht]; exact h2⟩) h3 hd (hlocks := A.2.2.2.2.2.2.1))
    · cases h
  · cases h
/-- a callee's throw that goes on -/
theorem en_callV {C : CF} (A : Act E K p R s m args meth c mm d) (hK : Kw K) (hCS : CS E K l C d) (hCP : CP C) {m' : MM} {idx pc a : Nat} {as : List Value} {L : LV} {st : List Value} {σ : HP} {r : Res} (hd : decode (zb mm) pc = .ok (.invokevirtual idx, 3)) (hl : lOK (zo mm) idx 1 m') (ea : (st.take (zn m')).reverse = .ref a :: as) (ha : a % 64 = zo m') (w : WF mm (pc, L, st, σ)) (h : zCall C mm m' pc L st σ = some (.inl r)) (hN9 : hN r.2 = hN σ0 + R.cells) (hS9 : hS r.2 = hS σ0 + R.slots) : WK E p l e R s m args below meth c (QZ E below s R r) σ0 (pc, L, st, σ) := by
  obtain ⟨z0, z1, hm, hlk, hin, hsel, hci⟩ := hl
  have hcls : (zy m').cls = zC (zo m') := hm.2.2.2.2.1
  unfold zCall at h
  split at h
  · next hn =>
    have hra : ∀ v ∈ (st.take (zn m')).reverse, okV σ v := fun v q => w.1 v (List.mem_of_mem_take (List.mem_reverse.mp q))
    have hts := A.2.2.2.2.2.1
    have hlen := call_len ea hn.1
    have hlen : as.length + 1 = zn m' := hlen
    have stk' : st.map (cv E) = (as.map (cv E)).reverse ++ .ref (adr E a) :: (st.drop (zn m')).map (cv E) := by
      rw [stk (E := E) ea, List.map_cons, List.reverse_cons, List.append_assoc]
      rfl
    cases hc : C m' (st.take (zn m')).reverse σ with
    | none => rw [hc] at h; cases h
    | some r9 =>
      rw [hc] at h
      obtain ⟨hx, hw, ho⟩ := hCP m' _ σ r9 hc hra w.2.2.1
      rw [ea] at hc hra
      have hva : okV σ (.ref a) := hra _ List.mem_cons_self
      have M := hCS m' _ _ σ r9 hc hm hra w.2.2.1
      obtain ⟨o, σ'⟩ := r9
      cases o with
      | inl v => cases h
      | inr y =>
        unfold zBack at h
        dsimp only at h
        split at h
        · next hzh =>
          cases h
          have cb : CallW R s args (zC (zo mm)) (zC (zo m')) idx (zy m') (zb m') (zl m') (zr m') (cw m' :: gt) (rmz d (hN σ' - hN σ) (hS σ' - hS σ)) (hN σ' - hN σ) (hS σ' - hS σ) (zn m' - 1) := ⟨call_b A z0 hm hlk, hts _ hin, by rw [← hcls]; exact hts _ hsel⟩
          intro ls H locs cells slots h1 h2 h3 h4 h5
          have h4 : cells + hN σ0 = hN σ := h4
          have h5 : slots + hS σ0 = hS σ := h5
          have hN9 : hN σ' = hN σ0 + R.cells := hN9
          have hS9 : hS σ' = hS σ0 + R.slots := hS9
          have hfit := rm_fits (R := R) (σ' := σ') ⟨Nat.le_of_eq hN9, Nat.le_of_eq hS9⟩ hx h4 h5
          have hsz : (F0 m pc ls (st.map (cv E))).locals.size = zl mm := by show ls.size = _; rw [h1.1]; exact w.2.2.2
          have x1 : hN σ ≤ hN σ' := hx.1
          have x2 : hS σ ≤ hS σ' := hx.2.1
          intro T hT X
          obtain ⟨qa, ce, T', L9, X', g2, q3, g5, g6, g7, g8⟩ := call_thr A hm.2.1 M cb (pre_v A hK h2 hci ha hva) (g := F0 m pc ls (st.map (cv E))) rfl (by rw [List.length_map]; omega) hsz stk' (room8 hn.2) hd hfit hT X
          have e1 : cells + (hN σ' - hN σ) = R.cells := by omega
          have e2 : slots + (hS σ' - hS σ) = R.slots := by omega
          rw [e1, e2] at X'
          obtain ⟨l1, l2, l3, l4, l5⟩ := X'.leaveThrown qa (g := F0 m pc ls ((st.drop (zn m')).map (cv E))) rfl rfl rfl (fun z hz => by rw [A.2.2.2.2.2.2.2.2.1, hzh] at hz; cases hz) A.2.2.2.2.2.2.1
          exact ⟨_, g8.trans l1, .threw qa, l2, l3, ⟨qa, ce, rfl, g5, g6, g7⟩, q3, l4, _, l5, fun z hz => (List.mem_append.mp hz).elim (h3 z) (g2 z)⟩
        · split at h
          · split at h
            · cases h
            · cases h
          · cases h
  · cases h
theorem gd_eq {n k : Nat} {x : SR} {r : Res ⊕ Cfg} (h : gd n k x = some r) : n = k ∧ x = some r := by
  unfold gd at h
  split at h
  · next e => exact ⟨e, h⟩
  · cases h
end SndZ
