/-! calls -/
def xNm (x : Nat) : String := if x = 0 then "java/util/NoSuchElementException" else "java/lang/IllegalArgumentException"
def PcA (E : EE) (K : State → Prop) (a : List Value) (σ : HP) : Array Value → State → Prop := fun v U => v = (a.map (cv E)).toArray ∧ Rep E σ U.heap ∧ Kn E K U
def QcR (E : EE) (r : Res) : Array Value → State → Outcome → State → Prop := fun _ _ o t => ∃ v, r.1 = .inl v ∧ o = .returned (v.map (cv E)) ∧ Rep E r.2 t.heap
def frz (E : EE) : Addr → Prop := fun q => eB E ≤ q
def rmz (d mc ms : Nat) : Room := { frames := d, cells := mc, slots := ms, locals := 40 * d }
/-- how a run ends: with a value, or with a thing thrown whose class x names -/
def oEnd (E : EE) : Out → State → Outcome → State → Prop
  | .inl v, _, o, _ => o = .returned (v.map (cv E))
  | .inr x, st, o, t => ∃ (q : Addr) (ce : Cell), o = .threw q ∧ t.heap[q]? = some ce ∧ ce.vm = .none ∧ st.vm.findClass (xNm x) = some ce.cls
/-- what a run that began at st leaves behind it where the small machine says r -/
def zEnd (E : EE) (r : Res) (mc ms : Nat) (st : State) (o : Outcome) (t : State) : Prop :=
  oEnd E r.1 st o t ∧ Rep E r.2 t.heap ∧ st.WarmedH t.vm ∧ ∃ L : List Loc, st.sameButNew ({ t with vm := st.vm } : State) L mc ms ∧ ∀ z ∈ L, frz E z.base
/-- a call of m with a, in the heap σ: it ends as r says -/
def zMet (E : EE) (K : State → Prop) (l : Launch) (m : MM) (d : Nat) (a : List Value) (σ : HP) (r : Res) (mc ms : Nat) : Prop :=
  MetFree l (zy m) (headSpec (cw m :: gt) (rmz d mc ms)) (PcA E K a σ) (fun _ _ _ _ _ => True) (fun _ st o t => zEnd E r mc ms st o t)
/-- what the real machine does where C answers -/
def CS (E : EE) (K : State → Prop) (l : Launch) (C : CF) (d : Nat) : Prop := ∀ (m : MM) (np : Nat) (a : List Value) (σ : HP) (r : Res), C m a σ = some r → mOK m np → (∀ v ∈ a, okV σ v) → wfH σ →
  zMet E K l m d a σ r (hN r.2 - hN σ) (hS r.2 - hS σ)
/-- one that returns, in the kit's words -/
theorem met_ret {E : EE} {K : State → Prop} {l : Launch} {m : MM} {d : Nat} {a : List Value} {σ σ' : HP} {v : Option Value} {mc ms : Nat} (h : zMet E K l m d a σ (.inl v, σ') mc ms) : Met l (zy m) (cw m :: gt) (rmz d mc ms) (PcA E K a σ) (QcR E (.inl v, σ')) mc ms (frz E) :=
  fun p e h1 h2 h3 s k args below h4 h5 h6 h7 => by
    obtain ⟨n, o, w, r, x, y, z, u, L, f, g⟩ := h p e h1 h2 h3 s k args below h4 h5 h6 h7
    exact ⟨n, o, w, r, x, ⟨v, rfl, y, z⟩, L, ⟨⟨_, y⟩, u, f⟩, g⟩
/-- what the word of m says of the method: its code, its table -/
theorem cw_code {m : MM} {a : Array Value} {U : State} {k : MethodId} (h : (cw m).before a U = true) (hn : U.methodNamed? (zy m) = some k) :
    ∃ (me : Method) (c : Code), U.vm.method? k = some me ∧ me.code = some c ∧ c.code = zb m ∧ c.maxLocals = zl m ∧ me.sig.returnType = zr m ∧ me.locks = false ∧ c.exceptionTable.toList = tableOf (zh m) ∧ parseMethodDescriptor (zy m).desc = some me.sig := by
  unfold cw at h
  split at h
  · next hz =>
    obtain ⟨me, c, q1, q2, q3, q4, q5, q6, q7, q8⟩ := Cond.code_spec hn h
    refine ⟨me, c, q1, q2, q3, q4, q5, q6, ?_, q8⟩
    rw [hz, Array.isEmpty_iff.mp q7]
    rfl
  · obtain ⟨k', me, c, q0, q1, q2, q3, q4, q5, q6, q7, q8⟩ := Cond.codeWith_spec h
    cases Option.some.inj (hn.symm.trans q0)
    exact ⟨me, c, q1, q2, q3, q4, q6, q7, by rw [← q5, table_eq], q8⟩
theorem gt_good : ∀ w ∈ gt, (w.onTables && w.keeps) = true ∨ ∃ ty, w = .arrayClass ty := fun w h => good_of_word (List.mem_filter.mp h).2
theorem cw_in {m : MM} (h : cw m ∈ gt) : GoodIn gt (cw m :: gt) := fun w hw => by
  rcases List.mem_cons.mp hw with rfl | hw
  · exact ⟨h, gt_good _ h⟩
  · exact ⟨hw, gt_good w hw⟩
theorem pc_blind {E : EE} {K : State → Prop} (hK : Kw K) (a : List Value) (σ : HP) : FrameBlind (PcA E K a σ) := fun _ _ _ _ h => ⟨h.1, h.2.1, kn_calling hK h.2.2⟩
section SndC
variable {p : Program} {l : Launch} {e : Env} {R : Room} {s : State} {m : MethodId} {args : Array Value} {below : List Frame} {meth : Method} {c : Code} {Q : State → Prop}
variable {E : EE} {K : State → Prop} {mm : MM} {d : Nat} {σ0 : HP}
/-- behind a call that returned -/
theorem call_go {v : Option Value} {σ σ' : HP} {H : Heap} {ls : Array Slot} {L : LV} {locs : List Loc} {cells slots pc : Nat} {st0 : List Value} {rest : List Value} {a : Array Value} (hrun : va_Run p l e R s m args below meth c H locs cells slots (hN σ' - hN σ) (hS σ' - hS σ) (F0 m pc ls st0) (rest.map (cv E)) (QcR E (.inl v, σ') a) (frz E)) (hx : Ext σ σ') (h1 : LH E ls L) (h3 : ∀ q ∈ locs, eB E ≤ q.base) (h4 : cells + hN σ0 = hN σ) (h5 : slots + hS σ0 = hS σ) (k : WK E p l e R s m args below meth c Q σ0 (pc + 3, L, pv v rest, σ')) :
    W p l e R s m args below meth c H locs cells slots Q (F0 m pc ls st0) := by
  intro T hT X
  obtain ⟨v9, st₀, t, T', L9, g1, X', g2, g3, g4, ⟨u, q1, q2, q3⟩, g5⟩ := hrun T hT X
  cases q1
  cases q2
  have x1 := hx.1
  have x2 := hx.2.1
  obtain ⟨t2, a1, b1⟩ := k ls T'.heap (locs ++ L9) _ _ h1 (by rw [g3]; exact q3) (fun q hq => by
      rcases List.mem_append.mp hq with z | z
      · exact h3 q z
      · exact g2 q z) (show cells + (hN σ' - hN σ) + hN σ0 = hN σ' by omega) (show slots + (hS σ' - hS σ) + hS σ0 = hS σ' by omega) T' rfl X'
  refine ⟨t2, g5 t2 ?_, b1⟩
  cases v with
  | none => exact a1
  | some w => exact a1
theorem call_b (A : Act E K p R s m args meth c mm d) {m' : MM} {np idx mc ms : Nat} (h0 : zh m' = []) (hm : mOK m' np) (hlk : Cond.methodLink (zC (zo mm)) idx (zy m') ∈ gt) : CallB R s args (zC (zo mm)) idx (zy m') (zb m') (zl m') (zr m') (cw m' :: gt) (rmz d mc ms) mc ms np := by
  obtain ⟨k1, k2, k3, k4, k5, k6, k7, -⟩ := hm
  have hts := A.2.2.2.2.2.1
  have e1 : cw m' = Cond.code (zy m') (zb m') (zl m') (zr m') := if_pos h0
  have hf := A.2.2.2.2.2.2.2.2.2.2.1
  have hl := A.2.2.2.2.2.2.2.2.2.2.2
  exact callB_of np hts (cw_in k1) (by rw [e1]) rfl rfl (hts _ k2) (hts _ hlk) k4 ⟨by show d + 1 ≤ _; omega, by show 8 + (zl m' + 11) + 40 * d ≤ _; omega⟩
theorem call_n (A : Act E K p R s m args meth c mm d) {m' : MM} {np idx mc ms : Nat} (h0 : zh m' = []) (hm : mOK m' np) (hlk : Cond.methodLinkNest (zC (zo mm)) idx (zy m') "PraiseLift" ∈ nw) : va_CN R s args (zC (zo mm)) idx (zy m') "PraiseLift" (zb m') (zl m') (zr m') (cw m' :: gt) (rmz d mc ms) mc ms np := by
  obtain ⟨k1, k2, k3, k4, k5, k6, k7, -⟩ := hm
  have hts := A.2.2.2.2.2.1
  have e1 : cw m' = Cond.code (zy m') (zb m') (zl m') (zr m') := if_pos h0
  have hf := A.2.2.2.2.2.2.2.2.2.2.1
  have hl := A.2.2.2.2.2.2.2.2.2.2.2
  exact va_cnB np hts (cw_in k1) (by rw [e1]) rfl rfl (A.2.2.2.2.2.2.2.2.2.1.2.1 _ hlk) (hts _ k2) k4 ⟨by show d + 1 ≤ _; omega, by show 8 + (zl m' + 11) + 40 * d ≤ _; omega⟩
theorem call_fix (A : Act E K p R s m args meth c mm d) : CallFix p m c (zb mm) (zl mm) s args gt (zC (zo mm)) := ⟨A.1, A.2.1, A.2.2.1, A.2.2.2.2.1, A.2.2.2.2.2.1⟩
theorem pre_s (A : Act E K p R s m args meth c mm d) (hK : Kw K) {H : Heap} {a : List Value} {σ : HP} (h2 : Rep E σ H) : PreS s H (PcA E K a σ) (a.map (cv E)) := ⟨pc_blind hK a σ, fun U hU hW => ⟨rfl, by rw [hU]; exact h2, kn_moved hK hW A.2.2.2.2.2.2.2.2.2.1⟩⟩
theorem pre_v (A : Act E K p R s m args meth c mm d) (hK : Kw K) {H : Heap} {a : Nat} {as : List Value} {σ : HP} {ci : Nat} (h2 : Rep E σ H) (hci : ci < 13) (ha : a % 64 = ci) (hv : okV σ (.ref a)) : PreV s H (zC ci) (adr E a) (PcA E K (.ref a :: as) σ) (as.map (cv E)) := by
  subst ha
  refine ⟨pc_blind hK _ σ, ?_, fun U hU hW => ⟨rfl, by rw [hU]; exact h2, kn_moved hK hW A.2.2.2.2.2.2.2.2.2.1⟩⟩
  obtain ⟨-, -, cell, q1, q2, q3, -⟩ := rep_ob h2 hv hci
  refine ⟨cell, q1, by rw [q3]; rfl, ?_⟩
  rw [q2]
  exact (A.2.2.2.2.2.2.2.2.2.1.1.1 (a % 64) _ (clz_at hci)).2.1
theorem stk {st as : List Value} {n : Nat} (h : (st.take n).reverse = as) : st.map (cv E) = (as.map (cv E)).reverse ++ (st.drop n).map (cv E) := by
  rw [← h, ← List.map_reverse, List.reverse_reverse, ← List.map_append, List.take_append_drop]
theorem room8 {ls : Array Slot} {pc : Nat} {st : List Value} {rest : List Value} (h : cW rest ≤ 8) : 2 * (F0 m pc ls st).monitorRoom + ((rest.map (cv E)).map fun v => v.category).sum ≤ 8 := by
  have := cat8 (E := E) h
  show 2 * 0 + _ ≤ 8
  omega
theorem rm_fits {σ σ' : HP} {cells slots : Nat} (hr : Rm R σ0 σ') (hx : Ext σ σ') (h4 : cells + hN σ0 = hN σ) (h5 : slots + hS σ0 = hS σ) : cells + (hN σ' - hN σ) ≤ R.cells ∧ slots + (hS σ' - hS σ) ≤ R.slots := by
  have := hr.1
  have := hr.2
  have := hx.1
  have := hx.2.1
  omega
theorem call_len {st : List Value} {n : Nat} {as : List Value} (h : (st.take n).reverse = as) (hn : n ≤ st.length) : as.length = n := by
  rw [← h, List.length_reverse, List.length_take]
  omega
/-- a static call of a method with a table of its own, which returns -/
theorem run_w (A : Act E K p R s m args meth c mm d) {m' : MM} {np idx mc ms : Nat} {Pc : Array Value → State → Prop} {Qc : Array Value → State → Outcome → State → Prop} {H : Heap} {locs : List Loc} {cells slots : Nat} {as rest : List Value} {g : JFrame} (h0 : zh m' ≠ []) (hm : mOK m' np) (hlk : Cond.methodLink (zC (zo mm)) idx (zy m') ∈ gt) (hst : Cond.static (zy m') ∈ gt)
    (M : Met l (zy m') (cw m' :: gt) (rmz d mc ms) Pc Qc mc ms (frz E)) (hp : PreS s H Pc as) (hg : g.method = m) (hn : as.length = np) (hz : g.locals.size = zl mm) (hs : g.stack = as.reverse ++ rest) (h8 : 2 * g.monitorRoom + (rest.map fun v => v.category).sum ≤ 8) (hd : decode (zb mm) g.pc = .ok (.invokestatic idx, 3)) (hf : cells + mc ≤ R.cells ∧ slots + ms ≤ R.slots) :
    va_Run p l e R s m args below meth c H locs cells slots mc ms g rest (Qc as.toArray) (frz E) := by
  obtain ⟨k1, k2, k3, k4, k5, k6, k7, -⟩ := hm
  have hts := A.2.2.2.2.2.1
  have hfr := A.2.2.2.2.2.2.2.2.2.2.1
  have hlo := A.2.2.2.2.2.2.2.2.2.2.2
  have e1 : cw m' = Cond.codeWith (zy m') (zb m') (zl m') (zr m') (zh m') := if_neg h0
  have kw := hts _ k1
  rw [e1] at kw
  obtain ⟨k, me, c9, q0, q1, -, -, -, -, -, -, q8⟩ := Cond.codeWith_spec kw
  have B : Back l R p e below s args (zy m') 3 8 (PreOf R mc ms Pc) (PostOf Qc mc ms (frz E)) :=
    va_backW (hh := zh m') (bytes := zb m') (maxL := zl m') (ret := zr m') M hp.1 rfl rfl (by show d + 1 ≤ _; omega) (by show 8 + (zl m' + 11) + 40 * d ≤ _; omega) (pay_in hts (cw_in k1)) (by rw [e1]; exact List.mem_cons_self) (pay_in hts (ws := gt) (fun w hw => ⟨hw, gt_good w hw⟩) _ k2)
  intro T hT X
  obtain ⟨v, vm, ⟨U, L9, c9, s9⟩, -, X', ⟨g', k', t, L, r1, r2, r3, r4, r5, r6, r7⟩, go⟩ := X.staticBack A.1 A.2.2.2.2.1 (hts _ hlk) (hts _ hst) (hts _ k2) q0 q1 q8 ⟨k4.1, k4.2.1⟩ B hg (hz.trans A.2.2.1.symm) (Steps.refl _) (argsL := as) (rest := rest)
    (fun sig h => by have z := k4.2.2; rw [h] at z; exact hn.trans (Option.some.inj z).symm) hs h8 (by rw [A.2.1]; exact hd) (fun w hW => ⟨hf.1, hf.2, hp.2 (T.setVm w) hT hW⟩)
  dsimp only [Pt.U, Pt.locs, Pt.cells, Pt.slots] at X' r1 r2 r4 r6 r7 go
  subst r4
  subst r6
  subst r7
  exact ⟨v, (T.setVm vm).calling g' k' as.toArray, t, U, L, hT, X', r5, r1, r2, r3, fun _ h => go.trans h⟩
/-- where a walk stands when its callee has left a heap, tables and used slots behind -/
theorem st_put {T : State} {locs : List Loc} {cells slots : Nat} (X : Stand p l e R s m args below meth c T locs cells slots) {h : Heap} {u : Nat} {v : Vm} {L : List Loc} {n k : Nat} (hs : T.sameButNew ({ T with heap := h, slotsUsed := u } : State) L n k) (hw : T.WarmedH v) :
    Stand p l e R s m args below meth c (({ T with heap := h, slotsUsed := u } : State).setVm v) (locs ++ L) (cells + n) (slots + k) where
  admits := X.admits
  cas := X.cas
  clock := X.clock
  frames := X.frames
  room := X.room
  hears := X.hears
  method := X.method
  code := X.code
  here := (X.here.setHeapUsed h u).setVm hw.alike
  tail := X.tail
  warmed := State.WarmedH.trans X.warmed hw
  limits := X.limits
  bytes := X.bytes
  same := X.same.trans (hs.setVm s.vm)
/-- a caller's state with a throw over its frame, written out from what the callee left as it was -/
theorem thr_state {U t : State} {g : JFrame} {k : MethodId} {a : Array Value} {q : Addr} {L : List Loc} {n j : Nat} (htop : U.topJava?.isSome) (hs : (U.calling g k a).sameButNew ({ t with vm := (U.calling g k a).vm } : State) L n j) (hf : t.frames = .throwing q :: .java g :: U.frames.tail) :
    U.sameButNew ({ U with heap := t.heap, slotsUsed := t.slotsUsed } : State) L n j ∧ ((({ U with heap := t.heap, slotsUsed := t.slotsUsed } : State).setVm t.vm).setTop g).pushFrame (.throwing q) = t := by
  obtain ⟨g0, hg0⟩ := Option.isSome_iff_exists.mp htop
  obtain ⟨fs, hfs⟩ := State.topJava?_eq_some.mp hg0
  obtain ⟨th, hth, -⟩ := State.frames_cons hfs
  obtain ⟨e1, e2⟩ := hs
  refine ⟨⟨?_, e2⟩, ?_⟩
  · show ({ U with heap := t.heap, slotsUsed := t.slotsUsed } : State) = { U.setFrames U.frames with heap := t.heap, slotsUsed := t.slotsUsed }
    rw [State.setFrames_self hth]
  · have e3 : t = ({ (U.setFrames (.invoking k a :: .java g :: U.frames.tail)).setFrames t.frames with heap := t.heap, slotsUsed := t.slotsUsed } : State).setVm t.vm := by
      rw [← State.calling_eq htop]
      have e4 := congrArg (fun z : State => z.setVm t.vm) e1
      exact e4
    have hV : (({ U with heap := t.heap, slotsUsed := t.slotsUsed } : State).setVm t.vm).frames = .java g0 :: fs := hfs
    rw [State.pushFrame, State.frames_setTop _ hV, State.setTop_of_frames _ hV, State.setFrames_setFrames]
    refine Eq.trans ?_ e3.symm
    rw [State.setFrames_setFrames, hf, hfs]
    rfl
/-- a call of an object's method that throws -/
theorem call_thr (A : Act E K p R s m args meth c mm d) {m' : MM} (hi : Cond.initialized (zy m').cls ∈ gt) {np idx mc ms y a : Nat} {as : List Value} {σ σ' : HP} {H : Heap} {locs : List Loc} {cells slots : Nat} {rest : List Value} {g : JFrame} {T : State} (M : zMet E K l m' d (.ref a :: as) σ (.inr y, σ') mc ms)
    (cb : CallW R s args (zC (zo mm)) (zC (zo m')) idx (zy m') (zb m') (zl m') (zr m') (cw m' :: gt) (rmz d mc ms) mc ms np) (hp : PreV s H (zC (zo m')) (adr E a) (PcA E K (.ref a :: as) σ) (as.map (cv E))) (hg : g.method = m) (hn : (as.map (cv E)).length = np) (hz : g.locals.size = zl mm)
    (hs : g.stack = (as.map (cv E)).reverse ++ .ref (adr E a) :: rest) (h8 : 2 * g.monitorRoom + (rest.map fun v => v.category).sum ≤ 8) (hd : decode (zb mm) g.pc = .ok (.invokevirtual idx, 3)) (hf : cells + mc ≤ R.cells ∧ slots + ms ≤ R.slots) (hT : T.heap = H) (X : Stand p l e R s m args below meth c T locs cells slots) :
    ∃ (q : Addr) (ce : Cell) (T' : State) (L : List Loc), Stand p l e R s m args below meth c T' (locs ++ L) (cells + mc) (slots + ms) ∧ (∀ z ∈ L, frz E z.base) ∧ Rep E σ' T'.heap ∧ T'.heap[q]? = some ce ∧ ce.vm = .none ∧ s.vm.findClass (xNm y) = some ce.cls ∧ Steps p.tables e below (T.setTop g) ((T'.setTop { g with stack := rest }).pushFrame (.throwing q)) := by
  obtain ⟨⟨-, -, b1, b2, bw, bc, bd, -, by9, bn, bl⟩, hin, hse⟩ := cb
  obtain ⟨hbl, ⟨cell, o1, o2, o3⟩, hPc⟩ := hp
  obtain ⟨k, me, n1, n2, n3, n4⟩ := Cond.instanceMethod_spec hin
  obtain ⟨me', -, j1, -, -, -, -, -, -, j2⟩ := Cond.code_spec n1 bd
  cases Option.some.inj (n2.symm.trans j1)
  obtain ⟨x1, x2, x3, i1, i2, i3, i4, kc, i5, i6⟩ := Cond.selects_spec hse
  cases Option.some.inj (o3.symm.trans i1)
  cases Option.some.inj ((State.methodFound?_of_named n1 by9).symm.trans i2)
  cases Option.some.inj (n1.symm.trans i3)
  have hd' : decode c.code g.pc = .ok (.invokevirtual idx, 3) := by rw [A.2.1]; exact hd
  obtain ⟨vm, X1, go⟩ := X.invokevirtual A.1 A.2.2.2.2.1 bl n1 n2 n3 i5 i6 by9 (a := adr E a) (cell := cell) (by rw [hT]; exact o1) (fun z h => by rw [h] at o2; cases o2) (by rw [Launch.admits_selectMethod X.admits]; exact i4) n2 n4 i5 i6 (g := g) hg (argsL := as.map (cv E)) (rest := rest) (hn.trans (bn _ j2)) hs hd'
  have w1 := X1.warmed
  have app := X1.appliesAt (S := headSpec (cw m' :: gt) (rmz d mc ms)) (y := zy m') (bytes := zb m') (maxL := zl m') (ret := zr m') (g := { g with stack := rest }) hg (hz.trans A.2.2.1.symm) hd' h8 (a := (Value.ref (adr E a) :: as.map (cv E)).toArray) (X1.named n1) (atoms_intro fun w hw => bw w hw _ _ w1) (bw _ bc _ _ w1)
    (pay_in A.2.2.2.2.2.1 (ws := gt) (fun w hw => ⟨hw, gt_good w hw⟩) _ hi _ _ w1) b1 b2 hf.1 hf.2
  have hfr : ((T.setVm vm).setTop { g with stack := rest }).frames = [.java { g with stack := rest }] ++ below := by rw [State.frames_setTop' _ X1.here.top, X1.tail]; rfl
  unfold zMet at M
  obtain ⟨o, t, run, -, fin, ⟨q, ce, ho, z1, z2, z3⟩, hrep, hw, L, hsm, hL⟩ := Steps.callFree M p X.admits X.cas X.clock (acts := []) hfr app (hbl _ _ _ _ (hPc (T.setVm vm) hT w1)) trivial
  subst ho
  rw [State.frames_setTop' _ X1.here.top] at fin
  obtain ⟨e1, e2⟩ := thr_state (U := T.setVm vm) X1.here.top hsm fin
  refine ⟨q, ce, ({ T.setVm vm with heap := t.heap, slotsUsed := t.slotsUsed } : State).setVm t.vm, L, st_put X1 e1 hw, hL, hrep, z1, z2, ?_, go _ fun acts => ?_⟩
  · rw [← w1.alike.findClass]
    exact z3
  · rw [doInvoke_state, e2]
    exact run
/-- the calls that don't throw: the four ways -/
theorem sn_callN {C : CF} (A : Act E K p R s m args meth c mm d) (hK : Kw K) (hCS : CS E K l C d) (hCP : CP C) {m' : MM} {idx pc how : Nat} {L : LV} {st : List Value} {σ : HP} {x : Cfg} (w : WF mm (pc, L, st, σ)) (h : zCallN C m' pc L st σ = some (.inr x)) (hr : Rm R σ0 x.2.2.2) (k : WK E p l e R s m args below meth c Q σ0 x)
    (hh : (decode (zb mm) pc = .ok (.invokestatic idx, 3) ∧ (lOK (zo mm) idx 0 m' ∨ lOK (zo mm) idx 4 m' ∨ lOK (zo mm) idx 6 m')) ∨ (decode (zb mm) pc = .ok (.invokespecial idx, 3) ∧ (lOK (zo mm) idx 2 m' ∨ lOK (zo mm) idx 3 m') ∧ ∃ a as, (st.take (zn m')).reverse = .ref a :: as)) : WK E p l e R s m args below meth c Q σ0 (pc, L, st, σ) := by
  unfold zCallN at h
  split at h
  · next hn =>
    split at h
    · next v σ' hc =>
      cases h
      have hra : ∀ v ∈ (st.take (zn m')).reverse, okV σ v := fun v q => w.1 v (List.mem_of_mem_take (List.mem_reverse.mp q))
      obtain ⟨hx, hw, ho⟩ := hCP m' _ σ _ hc hra w.2.2.1
      have hts := A.2.2.2.2.2.1
      intro ls H locs cells slots h1 h2 h3 h4 h5
      have hfit := rm_fits hr hx h4 h5
      have hsz : (F0 m pc ls (st.map (cv E))).locals.size = zl mm := by show ls.size = _; rw [h1.1]; exact w.2.2.2
      have hlen := call_len (as := (st.take (zn m')).reverse) rfl hn.1
      refine call_go (L := L) (a := ((st.take (zn m')).reverse.map (cv E)).toArray) ?_ hx h1 h3 h4 h5 k
      rcases hh with ⟨hd, q | q | q⟩ | ⟨hd, q, a, as, ea⟩
      · obtain ⟨z0, hm, hlk, hst⟩ := q
        have M := met_ret (hCS m' _ _ σ _ hc hm hra w.2.2.1)
        exact va_runS (call_fix A) M ⟨call_b A z0 hm hlk, hts _ hst⟩ (pre_s A hK h2) rfl (by rw [List.length_map]; exact hlen) hsz (stk rfl) (room8 hn.2) hd hfit
      · obtain ⟨z0, hm, hlk, hst⟩ := q
        have M := met_ret (hCS m' _ _ σ _ hc hm hra w.2.2.1)
        exact va_runSN (call_fix A) M ⟨call_n A z0 hm hlk, hts _ hst, trivial⟩ (pre_s A hK h2) rfl (by rw [List.length_map]; exact hlen) hsz (stk rfl) (room8 hn.2) hd hfit
      · obtain ⟨z0, hm, hlk, hst⟩ := q
        have M := met_ret (hCS m' _ _ σ _ hc hm hra w.2.2.1)
        exact run_w A z0 hm hlk hst M (pre_s A hK h2) rfl (by rw [List.length_map]; exact hlen) hsz (stk rfl) (room8 hn.2) hd hfit
      · rw [ea] at hlen hc hra
        have hlen : as.length + 1 = zn m' := hlen
        have stk' : st.map (cv E) = (as.map (cv E)).reverse ++ .ref (adr E a) :: (st.drop (zn m')).map (cv E) := by
          rw [stk (E := E) ea, List.map_cons, List.reverse_cons, List.append_assoc]
          rfl
        rcases q with q | q
        · obtain ⟨z0, z1, hm, hlk, hin, hnm, hret, hci⟩ := q
          have M := met_ret (hCS m' _ _ σ _ hc hm hra w.2.2.1)
          have cb := call_b (mc := hN σ' - hN σ) (ms := hS σ' - hS σ) A z0 hm hlk
          rw [hret] at cb
          exact va_runI (call_fix A) M ⟨cb, hnm, hts _ hin⟩ (pre_s A hK h2) rfl (by rw [List.length_map]; omega) hsz stk' (room8 hn.2) hd hfit
        · obtain ⟨z0, z1, hm, hlk, hin, hnm, hret, hci⟩ := q
          have M := met_ret (hCS m' _ _ σ _ hc hm hra w.2.2.1)
          have cb := call_n (mc := hN σ' - hN σ) (ms := hS σ' - hS σ) A z0 hm hlk
          rw [hret] at cb
          exact va_runIN (call_fix A) M ⟨cb, hnm, hts _ hin⟩ (pre_s A hK h2) rfl (by rw [List.length_map]; omega) hsz stk' (room8 hn.2) hd hfit
    · cases h
  · cases h
end SndC
