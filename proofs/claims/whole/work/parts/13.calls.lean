/-! calls -/
def xNm (x : Nat) : String := if x = 0 then "java/util/NoSuchElementException" else "java/lang/IllegalArgumentException"
def PcA (E : EE) (K : State → Prop) (a : List Value) (σ : HP) : Array Value → State → Prop := fun v U => v = (a.map (cv E)).toArray ∧ Rep E σ U.heap ∧ Kn E K U
def QcR (E : EE) (r : Res) : Array Value → State → Outcome → State → Prop := fun _ _ o t => ∃ v, r.1 = .inl v ∧ o = .returned (v.map (cv E)) ∧ Rep E r.2 t.heap
def XcR (E : EE) (r : Res) : String → State → State → Prop := fun X _ t => ∃ x, r.1 = .inr x ∧ X = xNm x ∧ Rep E r.2 t.heap
def frz (E : EE) : Addr → Prop := fun q => eB E ≤ q
def rmz (d mc ms : Nat) : Room := { frames := d, cells := mc, slots := ms, locals := 40 * d }
/-- what the real machine does where C answers -/
def CS (E : EE) (K : State → Prop) (l : Launch) (C : CF) (d : Nat) : Prop := ∀ (m : MM) (np : Nat) (a : List Value) (σ : HP) (r : Res), C m a σ = some r → mOK m np → (∀ v ∈ a, okV σ v) → wfH σ →
  vx_Met l (zy m) (cw m :: gt) (rmz d (hN r.2 - hN σ) (hS r.2 - hS σ)) (PcA E K a σ) (QcR E r) (XcR E r) (hN r.2 - hN σ) (hS r.2 - hS σ) (frz E)
theorem met_of {l : Launch} {y : MethodName} {ws : List Cond} {rm : Room} {Pc : Array Value → State → Prop} {Qc : Array Value → State → Outcome → State → Prop} {XC : String → State → State → Prop} {mc ms : Nat} {free : Addr → Prop} (h : vx_Met l y ws rm Pc Qc XC mc ms free) (hx : ∀ X st t, ¬ XC X st t) : Met l y ws rm Pc Qc mc ms free := by
  intro p e h1 h2 h3 s m args below h4 h5 h6 h7
  obtain ⟨n, o, g1, g2, g3, g4⟩ := h p e h1 h2 h3 s m args below h4 h5 h6 h7
  refine ⟨n, o, g1, g2, g3, ?_⟩
  rcases g4 with g | ⟨q, -, X, ce, L, g, -⟩
  · exact g
  · exact absurd g (hx _ _ _)
theorem gt_good : ∀ w ∈ gt, (w.onTables && w.keeps) = true ∨ ∃ ty, w = .arrayClass ty := fun w h => good_of_word (List.mem_filter.mp h).2
theorem cw_in {m : MM} (h : cw m ∈ gt) : GoodIn gt (cw m :: gt) := fun w hw => by
  rcases List.mem_cons.mp hw with rfl | hw
  · exact ⟨h, gt_good _ h⟩
  · exact ⟨hw, gt_good w hw⟩
theorem pc_blind {E : EE} {K : State → Prop} (hK : Kw K) (a : List Value) (σ : HP) : FrameBlind (PcA E K a σ) := fun _ _ _ _ h => ⟨h.1, h.2.1, kn_calling hK h.2.2⟩
section SndC
variable {p : Program} {l : Launch} {e : Env} {R : Room} {s : State} {m : MethodId} {args : Array Value} {below : List Frame} {meth : Method} {c : Code} {Q : State → Prop}
variable {E : EE} {K : State → Prop} {mm : MM} {d : Nat} {σ0 : HP}
/-- behind a call that returned -/
theorem call_go {v : Option Value} {σ σ' : HP} {H : Heap} {ls : Array Slot} {L : LV} {locs : List Loc} {cells slots pc : Nat} {st0 : List Value} {rest : List Value} {a : Array Value} (hrun : va_Run p l e R s m args below meth c H locs cells slots (hN σ' - hN σ) (hS σ' - hS σ) (F0 m pc ls st0) (rest.map (cv E)) (QcR E (.inl v, σ') a) (frz E)) (hx : Ext σ σ') (h1 : LH E ls L) (h3 : ∀ q ∈ locs, eB E ≤ q.base) (h4 : cells + hN σ0 = hN σ) (h5 : slots + hS σ0 = hS σ) (k : WK E p l e R s m args below meth c Q σ0 (pc + 3, L, pv v rest, σ')) :
    W p l e R s m args below meth c H locs cells slots Q (F0 m pc ls st0) := by
  intro T hT X
  obtain ⟨v9, st₀, t, T', L9, g1, X', g2, g3, g4, ⟨u, q1, q2, q3⟩, g5⟩ := hrun T hT X
  cases q1
  cases q2
  have x1 := hx.1
  have x2 := hx.2.1
  obtain ⟨t2, a1, b1⟩ := k ls T'.heap (locs ++ L9) _ _ h1 (by rw [g3]; exact q3) (fun q hq => by
      rcases List.mem_append.mp hq with z | z
      · exact h3 q z
      · exact g2 q z) (show cells + (hN σ' - hN σ) + hN σ0 = hN σ' by omega) (show slots + (hS σ' - hS σ) + hS σ0 = hS σ' by omega) T' rfl X'
  refine ⟨t2, g5 t2 ?_, b1⟩
  cases v with
  | none => exact a1
  | some w => exact a1
theorem call_b (A : Act E K p R s m args meth c mm d) {m' : MM} {np idx mc ms : Nat} (h0 : zh m' = []) (hm : mOK m' np) (hlk : Cond.methodLink (zC (zo mm)) idx (zy m') ∈ gt) : CallB R s args (zC (zo mm)) idx (zy m') (zb m') (zl m') (zr m') (cw m' :: gt) (rmz d mc ms) mc ms np := by
  obtain ⟨k1, k2, k3, k4, k5, k6, k7, -⟩ := hm
  have hts := A.2.2.2.2.2.1
  have e1 : cw m' = Cond.code (zy m') (zb m') (zl m') (zr m') := if_pos h0
  have hf := A.2.2.2.2.2.2.2.2.2.2.1
  have hl := A.2.2.2.2.2.2.2.2.2.2.2
  exact callB_of np hts (cw_in k1) (by rw [e1]) rfl rfl (hts _ k2) (hts _ hlk) k4 ⟨by show d + 1 ≤ _; omega, by show 8 + (zl m' + 11) + 40 * d ≤ _; omega⟩
theorem call_n (A : Act E K p R s m args meth c mm d) {m' : MM} {np idx mc ms : Nat} (h0 : zh m' = []) (hm : mOK m' np) (hlk : Cond.methodLinkNest (zC (zo mm)) idx (zy m') "PraiseLift" ∈ nw) : va_CN R s args (zC (zo mm)) idx (zy m') "PraiseLift" (zb m') (zl m') (zr m') (cw m' :: gt) (rmz d mc ms) mc ms np := by
  obtain ⟨k1, k2, k3, k4, k5, k6, k7, -⟩ := hm
  have hts := A.2.2.2.2.2.1
  have e1 : cw m' = Cond.code (zy m') (zb m') (zl m') (zr m') := if_pos h0
  have hf := A.2.2.2.2.2.2.2.2.2.2.1
  have hl := A.2.2.2.2.2.2.2.2.2.2.2
  exact va_cnB np hts (cw_in k1) (by rw [e1]) rfl rfl (A.2.2.2.2.2.2.2.2.2.1.2.1 _ hlk) (hts _ k2) k4 ⟨by show d + 1 ≤ _; omega, by show 8 + (zl m' + 11) + 40 * d ≤ _; omega⟩
theorem call_w (A : Act E K p R s m args meth c mm d) {m' : MM} {np idx mc ms : Nat} (h0 : zh m' ≠ []) (hm : mOK m' np) (hlk : Cond.methodLink (zC (zo mm)) idx (zy m') ∈ gt) (hst : Cond.static (zy m') ∈ gt) : vx_CSW R s args (zC (zo mm)) idx (zy m') (zb m') (zl m') (zr m') (zh m') (cw m' :: gt) (rmz d mc ms) mc ms np := by
  obtain ⟨k1, k2, k3, k4, k5, k6, k7, -⟩ := hm
  have hts := A.2.2.2.2.2.1
  have e1 : cw m' = Cond.codeWith (zy m') (zb m') (zl m') (zr m') (zh m') := if_neg h0
  have hf := A.2.2.2.2.2.2.2.2.2.2.1
  have hl := A.2.2.2.2.2.2.2.2.2.2.2
  refine ⟨⟨rfl, rfl, by show d + 1 ≤ _; omega, by show 8 + (zl m' + 11) + 40 * d ≤ _; omega, pay_in hts (cw_in k1), by rw [e1]; exact List.mem_cons_self⟩, by rw [← e1]; exact hts _ k1, hts _ k2, ⟨k4.1, k4.2.1⟩, fun sig h => ?_, hts _ hlk, hts _ hst⟩
  have h2 := k4.2.2
  rw [h] at h2
  exact (Option.some.inj h2).symm
theorem call_fix (A : Act E K p R s m args meth c mm d) : CallFix p m c (zb mm) (zl mm) s args gt (zC (zo mm)) := ⟨A.1, A.2.1, A.2.2.1, A.2.2.2.2.1, A.2.2.2.2.2.1⟩
theorem pre_s (A : Act E K p R s m args meth c mm d) (hK : Kw K) {H : Heap} {a : List Value} {σ : HP} (h2 : Rep E σ H) : PreS s H (PcA E K a σ) (a.map (cv E)) := ⟨pc_blind hK a σ, fun U hU hW => ⟨rfl, by rw [hU]; exact h2, kn_moved hK hW A.2.2.2.2.2.2.2.2.2.1⟩⟩
theorem pre_v (A : Act E K p R s m args meth c mm d) (hK : Kw K) {H : Heap} {a : Nat} {as : List Value} {σ : HP} {ci : Nat} (h2 : Rep E σ H) (hci : ci < 13) (ha : a % 64 = ci) (hv : okV σ (.ref a)) : PreV s H (zC ci) (adr E a) (PcA E K (.ref a :: as) σ) (as.map (cv E)) := by
  subst ha
  refine ⟨pc_blind hK _ σ, ?_, fun U hU hW => ⟨rfl, by rw [hU]; exact h2, kn_moved hK hW A.2.2.2.2.2.2.2.2.2.1⟩⟩
  obtain ⟨-, -, cell, q1, q2, q3, -⟩ := rep_ob h2 hv hci
  refine ⟨cell, q1, by rw [q3]; rfl, ?_⟩
  rw [q2]
  exact (A.2.2.2.2.2.2.2.2.2.1.1.1 (a % 64) _ (clz_at hci)).2.1
theorem stk {st as : List Value} {n : Nat} (h : (st.take n).reverse = as) : st.map (cv E) = (as.map (cv E)).reverse ++ (st.drop n).map (cv E) := by
  rw [← h, ← List.map_reverse, List.reverse_reverse, ← List.map_append, List.take_append_drop]
theorem room8 {ls : Array Slot} {pc : Nat} {st : List Value} {rest : List Value} (h : cW rest ≤ 8) : 2 * (F0 m pc ls st).monitorRoom + ((rest.map (cv E)).map fun v => v.category).sum ≤ 8 := by
  have := cat8 (E := E) h
  show 2 * 0 + _ ≤ 8
  omega
theorem rm_fits {σ σ' : HP} {cells slots : Nat} (hr : Rm R σ0 σ') (hx : Ext σ σ') (h4 : cells + hN σ0 = hN σ) (h5 : slots + hS σ0 = hS σ) : cells + (hN σ' - hN σ) ≤ R.cells ∧ slots + (hS σ' - hS σ) ≤ R.slots := by
  have := hr.1
  have := hr.2
  have := hx.1
  have := hx.2.1
  omega
theorem no_x {v : Option Value} {σ' : HP} : ∀ X st t, ¬ XcR E (.inl v, σ') X st t := fun X st t h => by
  obtain ⟨x, h, -⟩ := h
  cases h
theorem call_len {st : List Value} {n : Nat} {as : List Value} (h : (st.take n).reverse = as) (hn : n ≤ st.length) : as.length = n := by
  rw [← h, List.length_reverse, List.length_take]
  omega
/-- the calls that don't throw: the four ways -/
theorem sn_callN {C : CF} (A : Act E K p R s m args meth c mm d) (hK : Kw K) (hCS : CS E K l C d) (hCP : CP C) {m' : MM} {idx pc how : Nat} {L : LV} {st : List Value} {σ : HP} {x : Cfg} (w : WF mm (pc, L, st, σ)) (h : zCallN C m' pc L st σ = some (.inr x)) (hr : Rm R σ0 x.2.2.2) (k : WK E p l e R s m args below meth c Q σ0 x)
    (hh : (decode (zb mm) pc = .ok (.invokestatic idx, 3) ∧ (lOK (zo mm) idx 0 m' ∨ lOK (zo mm) idx 4 m' ∨ lOK (zo mm) idx 6 m')) ∨ (decode (zb mm) pc = .ok (.invokespecial idx, 3) ∧ (lOK (zo mm) idx 2 m' ∨ lOK (zo mm) idx 3 m') ∧ ∃ a as, (st.take (zn m')).reverse = .ref a :: as)) : WK E p l e R s m args below meth c Q σ0 (pc, L, st, σ) := by
  unfold zCallN at h
  split at h
  · next hn =>
    split at h
    · next v σ' hc =>
      cases h
      have hra : ∀ v ∈ (st.take (zn m')).reverse, okV σ v := fun v q => w.1 v (List.mem_of_mem_take (List.mem_reverse.mp q))
      obtain ⟨hx, hw, ho⟩ := hCP m' _ σ _ hc hra w.2.2.1
      have hts := A.2.2.2.2.2.1
      intro ls H locs cells slots h1 h2 h3 h4 h5
      have hfit := rm_fits hr hx h4 h5
      have hsz : (F0 m pc ls (st.map (cv E))).locals.size = zl mm := by show ls.size = _; rw [h1.1]; exact w.2.2.2
      have hlen := call_len (as := (st.take (zn m')).reverse) rfl hn.1
      refine call_go (L := L) (a := ((st.take (zn m')).reverse.map (cv E)).toArray) ?_ hx h1 h3 h4 h5 k
      rcases hh with ⟨hd, q | q | q⟩ | ⟨hd, q, a, as, ea⟩
      · obtain ⟨z0, hm, hlk, hst⟩ := q
        have M := met_of (hCS m' _ _ σ _ hc hm hra w.2.2.1) no_x
        exact va_runS (call_fix A) M ⟨call_b A z0 hm hlk, hts _ hst⟩ (pre_s A hK h2) rfl (by rw [List.length_map]; exact hlen) hsz (stk rfl) (room8 hn.2) hd hfit
      · obtain ⟨z0, hm, hlk, hst⟩ := q
        have M := met_of (hCS m' _ _ σ _ hc hm hra w.2.2.1) no_x
        exact va_runSN (call_fix A) M ⟨call_n A z0 hm hlk, hts _ hst, trivial⟩ (pre_s A hK h2) rfl (by rw [List.length_map]; exact hlen) hsz (stk rfl) (room8 hn.2) hd hfit
      · obtain ⟨z0, hm, hlk, hst⟩ := q
        have M := met_of (hCS m' _ _ σ _ hc hm hra w.2.2.1) no_x
        exact vx_runSW (call_fix A) M (call_w A z0 hm hlk hst) (pre_s A hK h2) rfl (by rw [List.length_map]; exact hlen) hsz (stk rfl) (room8 hn.2) hd hfit
      · rw [ea] at hlen hc hra
        have hlen : as.length + 1 = zn m' := hlen
        have stk' : st.map (cv E) = (as.map (cv E)).reverse ++ .ref (adr E a) :: (st.drop (zn m')).map (cv E) := by
          rw [stk (E := E) ea, List.map_cons, List.reverse_cons, List.append_assoc]
          rfl
        rcases q with q | q
        · obtain ⟨z0, z1, hm, hlk, hin, hnm, hret, hci⟩ := q
          have M := met_of (hCS m' _ _ σ _ hc hm hra w.2.2.1) no_x
          have cb := call_b (mc := hN σ' - hN σ) (ms := hS σ' - hS σ) A z0 hm hlk
          rw [hret] at cb
          exact va_runI (call_fix A) M ⟨cb, hnm, hts _ hin⟩ (pre_s A hK h2) rfl (by rw [List.length_map]; omega) hsz stk' (room8 hn.2) hd hfit
        · obtain ⟨z0, z1, hm, hlk, hin, hnm, hret, hci⟩ := q
          have M := met_of (hCS m' _ _ σ _ hc hm hra w.2.2.1) no_x
          have cb := call_n (mc := hN σ' - hN σ) (ms := hS σ' - hS σ) A z0 hm hlk
          rw [hret] at cb
          exact va_runIN (call_fix A) M ⟨cb, hnm, hts _ hin⟩ (pre_s A hK h2) rfl (by rw [List.length_map]; omega) hsz stk' (room8 hn.2) hd hfit
    · cases h
  · cases h
end SndC
