/-! throwing -/
abbrev rtN : String := "java/lang/RuntimeException"
abbrev exN : String := "java/lang/Exception"
/-- what a constructor E(String) of an exception asks of the tables, beside Throwable's own words -/
def xcO (cls : String) (ix : Nat) : List Cond := [.methodLink cls ix (Bundle.initS rtN), .instantiable cls 6, .selects cls Bundle.tFill0 Bundle.tFill0, .selects cls Bundle.tFill Bundle.tFill,
  .lays cls Bundle.tN "cause" "Ljava/lang/Throwable;", .lays cls Bundle.tN "stackTrace" Bundle.steD, .lays cls Bundle.tN "suppressedExceptions" Bundle.listD, .lays cls Bundle.tN "detailMessage" "Ljava/lang/String;", .lays cls Bundle.tN "backtrace" "Ljava/lang/Object;",
  .fieldLink Bundle.tN 198 Bundle.tN "backtrace" "Ljava/lang/Object;", .lays Bundle.tN Bundle.tN "backtrace" "Ljava/lang/Object;"]
def xcA (cls : String) (ix : Nat) : List Cond := (Bundle.throwableAtoms ++ Bundle.throwableSAtoms) ++ (Bundle.chainSAtoms rtN [exN] ++ xcO cls ix)
section XC
variable {p : Program} {l : Launch} {e : Env} {R : Room} {s : State} {m : MethodId} {args : Array Value} {below : List Frame} {meth : Method} {c : Code} {Q : State → Prop}
theorem sel_at {cls : String} {y : MethodName} {k : MethodId} {j : ClassId} (ha : l.admits e) (h : (Cond.selects cls y y).before args s = true) (hc : s.vm.findClass cls = some j) (hn : s.methodNamed? y = some k) (hy : y.cls ≠ "java/lang/invoke/MethodHandle" ∧ y.cls ≠ "java/lang/invoke/VarHandle") : selectMethod e.platform s.vm j k = .method k := by
  obtain ⟨x1, x2, x3, i1, i2, i3, i4, -⟩ := Cond.selects_spec h
  cases Option.some.inj (hc.symm.trans i1)
  cases Option.some.inj ((State.methodFound?_of_named hn hy).symm.trans i2)
  cases Option.some.inj (hn.symm.trans i3)
  rw [Launch.admits_selectMethod ha]
  exact i4
theorem apart_at {cls n d n' d' : String} {j : ClassId} {kj : Class} {c1 c2 i1 i2 : Nat} {k1 k2 : Class} {f f' : Field} (hc : s.vm.findClass cls = some j) (hk : s.vm.classes[j]? = some kj) (h1 : s.fieldFound? Bundle.tN n d = some (c1, k1, i1, f)) (w1 : (Cond.lays cls Bundle.tN n d).before args s = true)
    (h2 : s.fieldFound? Bundle.tN n' d' = some (c2, k2, i2, f')) (w2 : (Cond.lays cls Bundle.tN n' d').before args s = true) (hne : f.name ≠ f'.name) : f.slot ≠ f'.slot := by
  obtain ⟨-, d1, q1, q2⟩ := Cond.laysAt hc hk h1 w1
  obtain ⟨-, d2, q3, q4⟩ := Cond.laysAt hc hk h2 w2
  exact Cond.laysApart q1 q3 q2 q4 hne
set_option maxHeartbeats 1000000 in
/-- in the body of E(String), at its call of RuntimeException(String): all that lies above it runs, and the thing's own fields alone have changed -/
theorem xc_up {cls : String} {ix a sa : Nat} {rx : ByteArray} {cX : ClassId} {kX : Class} {ls : Array Slot} (hexec : p.tables.exec = Jvm.exec) (hb : c.code = rx) (hl : l.stackTraces = false) (hw : ∀ w ∈ xcA cls ix, w.before args s = true)
    (hU : (Cond.isRef (.static Bundle.tN "UNASSIGNED_STACK" Bundle.steD)).before args s = true) (hS : (Cond.isRef (.static Bundle.tN "SUPPRESSED_SENTINEL" Bundle.listD)).before args s = true)
    (hown : s.vm.findClass cls = some m.cls) (hfX : s.vm.findClass cls = some cX) (hkX : s.vm.classes[cX]? = some kX) (hc : s.heap[a]? = some (freshCell cX kX)) (d2 : decode rx 2 = .ok (.invokespecial ix, 3)) (hz : ls.size = c.maxLocals) (hR : 4 < R.frames) (hRl : 68 ≤ R.locals)
    (k : ∀ (H : Heap) (L : List Loc), H.size = s.heap.size → (∀ q, q ≠ a → H[q]? = s.heap[q]?) → (∃ ce : Cell, H[a]? = some ce ∧ ce.vm = .none ∧ ce.cls = cX) → (∀ z ∈ L, z.base = a) → W p l e R s m args below meth c H L 0 0 Q (F0 m 5 ls [])) :
    W p l e R s m args below meth c s.heap [] 0 0 Q (F0 m 2 ls [.ref sa, .ref a]) := by
  intro T hT X
  have hO : ∀ w ∈ xcO cls ix, w.before args s = true := fun w h => hw w (List.mem_append_right _ (List.mem_append_right _ h))
  have hC : ∀ w ∈ Bundle.chainSAtoms rtN [exN], w.before args s = true := fun w h => hw w (List.mem_append_right _ (List.mem_append_left _ h))
  have pf := X.admits.platform
  have hpl : e.platform.magicAccessors = ({} : Platform).magicAccessors := by rw [pf]
  have htr : e.platform.stackTraces = false := by rw [pf]; exact hl
  obtain ⟨N, Z0, LN, -, Y⟩ := ThrowableC.of_atoms (args := args) (s := s) (pl := e.platform) (by rw [pf]) (by rw [pf]) hpl (fun w h => hw w (List.mem_append_left _ (List.mem_append_left _ h)))
  obtain ⟨Z, M, LZ, LM, nZ⟩ := Init0T.ofS_atoms (args := args) hpl LN Y (fun w h => hw w (List.mem_append_left _ (List.mem_append_right _ h)))
  obtain ⟨P, Ps, hlen, LP, LPs, nP, hup, hups⟩ := Bundle.chainS (args := args) hpl nZ [exN] rtN (by decide +kernel) (by decide +kernel) hC
  obtain ⟨cX', kX', hc', hk', hord, -⟩ := Cond.instantiable_spec (hO (.instantiable cls 6) (by simp [xcO]))
  cases Option.some.inj (hc'.symm.trans hfX)
  cases Option.some.inj (hk'.symm.trans hkX)
  obtain ⟨cS, hcS, hst⟩ := Y.statics
  obtain ⟨u, hu⟩ := Cond.staticRefV Y.unassigned LN.unassignedStatic LN.statics hcS hst hU
  obtain ⟨n, hn⟩ := Cond.staticRefV Y.sentinel LN.sentinelStatic LN.statics hcS hst hS
  have ne : N.aS ≠ a := fun z => by
    rw [z, hc] at hcS
    cases hcS
    cases hst
  obtain ⟨iM, fM⟩ := Y.msg
  obtain ⟨b1, b2, fB, g1, g2, g3, g4, -, g5, g6, g7⟩ := Cond.ownField (t := .object "java/lang/Object") Y.found LN.cls (by decide +kernel) (hO (.fieldLink Bundle.tN 198 Bundle.tN "backtrace" "Ljava/lang/Object;") (by simp [xcO])) (hO (.lays Bundle.tN Bundle.tN "backtrace" "Ljava/lang/Object;") (by simp [xcO])) e.platform hpl
  have wC := hO (.lays cls Bundle.tN "cause" "Ljava/lang/Throwable;") (by simp [xcO])
  have wS := hO (.lays cls Bundle.tN "stackTrace" Bundle.steD) (by simp [xcO])
  have wP := hO (.lays cls Bundle.tN "suppressedExceptions" Bundle.listD) (by simp [xcO])
  have wM := hO (.lays cls Bundle.tN "detailMessage" "Ljava/lang/String;") (by simp [xcO])
  have wB := hO (.lays cls Bundle.tN "backtrace" "Ljava/lang/Object;") (by simp [xcO])
  have nC := apart_at hfX hkX Y.cause wC g7 wB (by rw [g5, Y.causeName]; decide)
  have nS := apart_at hfX hkX Y.stack wS g7 wB (by rw [g5, Y.stackName]; decide)
  have nP' := apart_at hfX hkX Y.supp wP g7 wB (by rw [g5, Y.suppName]; decide)
  have back : ((preparedCellV N.toThrowableT (freshCell cX kX) a u n).withEntry T.cur).slots[fB.slot]? = some .null := by
    have z := fresh_default (c := cX) (Cond.laysAt hfX hkX g7 wB).1
    rw [g6] at z
    simpa [preparedCellV, Cell.setSlot, Cell.withEntry, Array.getElem?_setIfInBounds, nC, nS, nP', defaultValue] using z
  have tk : ∀ {n' d' : String} {c1 i1 : Nat} {k1 : Class} {f : Field} {v : Value}, s.fieldFound? Bundle.tN n' d' = some (c1, k1, i1, f) → (Cond.lays cls Bundle.tN n' d').before args s = true → fits f.type v = true → Takes s (freshCell cX kX) f v := fun h1 h2 h3 => Takes.of_laid hkX hord (Cond.laysAt hfX hkX h1 h2).1 h3
  obtain ⟨tm, -, -, -, v1, n1, -, -, -, -, -, -, -, w1, go1⟩ := Steps.initColdS (tb := p.tables) (e := e) (below := below) (s := s) (U := T) X.here hexec X.warmed hpl hown (t := Bundle.initS rtN) rfl rfl (by decide +kernel) (hO (.methodLink cls ix (Bundle.initS rtN)) (by simp [xcO]))
    (hC (.instanceMethod (Bundle.initS rtN)) (by simp [Bundle.chainSAtoms, Bundle.passSAtoms])) (bytes := Bundle.six) (maxL := 2) (hC (.code (Bundle.initS rtN) Bundle.six 2 none) (by simp [Bundle.chainSAtoms, Bundle.passSAtoms])) (f := F0 m 2 ls [.ref sa, .ref a]) rfl (a := a) (msg := .ref sa) (rest := []) rfl (by rw [hb]; exact d2)
  cases Option.some.inj (n1.symm.trans nP)
  obtain ⟨v2, X2, go2⟩ := (X.noted w1).ctorMessageOffV hexec (g := F0 m 2 ls []) rfl hz N LN Z LZ M LM (P :: Ps) (fun q hq => (List.mem_cons.mp hq).elim (fun z => z ▸ LP) (LPs q)) ⟨hup, hups⟩ (u0 := u) (sen := n) (self := a) (msg := .ref sa) rfl (cell := freshCell cX kX) (cellS := cS)
    (by show T.heap[a]? = _; rw [hT]; exact hc) (fun _ => by simp) (by simp) rfl rfl (sel_at X.admits (hO _ (by simp [xcO])) hfX Y.fill0 (by decide +kernel)) (sel_at X.admits (hO _ (by simp [xcO])) hfX Y.fill (by decide +kernel))
    (by show T.heap[N.aS]? = _; rw [hT]; exact hcS) ne (fun z => by rw [z] at hst; cases hst) hu hn (tk Y.cause wC (by rw [Y.causeType]; rfl)) (tk Y.stack wS (by rw [Y.stackType]; exact fits_refV_array _ u)) (tk Y.supp wP (by rw [Y.suppType]; exact fits_refV_object _ n)) (tk fM wM (by rw [Y.msgType]; rfl)) Y.objLocals
    ⟨{ ci198 := b1, i198 := b2, fBack := fB }, ⟨g1, g2, g3, g4⟩, back, fun _ _ => rfl⟩ htr [] (by rw [hb]; exact d2) (by rw [List.length_cons, hlen]; exact hR) (by rw [List.length_cons, hlen]; exact hRl)
  have lt : a < ((T.setVm v1).setVm v2).heap.size := by show a < T.heap.size; rw [hT]; exact (Array.getElem?_eq_some_iff.mp hc).1
  obtain ⟨t, a1, a2⟩ := k _ _ (by show (((T.setVm v1).setVm v2).setCell a _).heap.size = _; rw [← hT]; simp [State.setCell]) (fun q hq => by rw [heapAt_setCell_ne _ (Ne.symm hq), ← hT]; rfl)
    ⟨_, heapAt_setCell_self (s := (T.setVm v1).setVm v2) (plainBareV N.toThrowableT (freshCell cX kX) a u n (.ref sa)) lt, rfl, rfl⟩ (fun z hz => by
      simp only [List.nil_append, List.mem_cons, List.not_mem_nil, or_false] at hz
      rcases hz with rfl | rfl | rfl | rfl | rfl <;> rfl) _ rfl X2
  exact ⟨t, go1 _ fun acts => by rw [doInvoke_state]; exact go2 _ a1, a2⟩
end XC
/-- the call of a constructor E(String): what is asked, what comes of it -/
def PcX (E : EE) (cls : String) (cX : ClassId) (a sa : Nat) : Array Value → State → Prop := fun v U => v = ([.ref a, .ref sa] : List Value).toArray ∧ U.vm.findClass cls = some cX ∧ (∃ kX : Class, U.vm.classes[cX]? = some kX ∧ U.heap[a]? = some (freshCell cX kX)) ∧ (∀ q : Nat, ¬ frz E q → U.heap[q]? = (eH E)[q]?) ∧ KX E U
def QcX (cX : ClassId) (a : Nat) : Array Value → State → Outcome → State → Prop := fun _ st o t => o = .returned none ∧ t.heap.size = st.heap.size ∧ (∀ q : Nat, q ≠ a → t.heap[q]? = st.heap[q]?) ∧ ∃ ce : Cell, t.heap[a]? = some ce ∧ ce.vm = .none ∧ ce.cls = cX
theorem px_blind (E : EE) (cls : String) (cX : ClassId) (a sa : Nat) : FrameBlind (PcX E cls cX a sa) := fun _ U _ _ h => ⟨h.1, h.2.1, h.2.2.1, h.2.2.2.1, kw_KX E U _ (State.WarmedH.refl U) h.2.2.2.2⟩
def rmX : Room := { frames := 5, cells := 0, slots := 0, locals := 70 }
/-- the words of E(String), out of the tables' and of what is known -/
def xWd (E : EE) (cls : String) (ix : Nat) : Prop := ∀ (args : Array Value) (U : State), (∀ w ∈ gt, w.before args U = true) → KX E U → ∀ w ∈ xcA cls ix, w = .laysStatic Bundle.tN "UNASSIGNED_STACK" Bundle.steD ∨ w = .laysStatic Bundle.tN "SUPPRESSED_SENTINEL" Bundle.listD ∨ w.before args U = true
theorem xc_met {E : EE} {l : Launch} (hl : l.stackTraces = false) {cls : String} {ix a sa : Nat} {rx : ByteArray} {cX : ClassId} (hp : plainName cls = true) (hx : decode rx 0 = .ok (.aload_n 0, 1) ∧ decode rx 1 = .ok (.aload_n 1, 1) ∧ decode rx 2 = .ok (.invokespecial ix, 3) ∧ decode rx 5 = .ok (.return_, 1)) (hW : xWd E cls ix) :
    Met l (Bundle.initS cls) (Cond.code (Bundle.initS cls) rx 2 none :: gt) rmX (PcX E cls cX a sa) (QcX cX a) 0 0 (fun q => q = a) := by
  obtain ⟨d0, d1, d2, d5⟩ := hx
  refine Met.ofW (cc := rx) (maxL := 2) (ret := none) hp rfl ?_
  intro p e s m args below meth c s₁ B hml hv
  obtain ⟨rfl, hf, ⟨kX, hk, hc⟩, hh, hK⟩ := hv
  have hts := atoms_spec (ws := Cond.code (Bundle.initS cls) rx 2 none :: gt) B.pre
  have hU := tS_words (args := ([.ref a, .ref sa] : List Value).toArray) hK.2.2.2.1.1 hh
  have hS := tS_words (args := ([.ref a, .ref sa] : List Value).toArray) hK.2.2.2.1.2 hh
  have hw : ∀ w ∈ xcA cls ix, w.before ([.ref a, .ref sa] : List Value).toArray s = true := fun w h => by
    rcases hW _ s (fun w h => hts w (List.mem_cons_of_mem _ h)) hK w h with z | z | z
    · rw [z]; exact hU.1
    · rw [z]; exact hS.1
    · exact z
  have hlv := lv_entry ([.ref a, .ref sa]) (n := 2) (Nat.le_of_ble_eq_true rfl)
  rw [lg_entry_eq]
  refine lv_aload_n B.exec B.bytes d0 rfl (lv_at hlv 0 rfl) ?_
  refine lv_aload_n B.exec B.bytes d1 rfl (lv_at hlv 1 rfl) ?_
  refine xc_up B.exec B.bytes hl hw hU.2 hS.2 (findClass_of_methodNamed B.named) hf hk hc d2 (by rw [hml]; exact hlv.1) (show 4 < 5 by decide) (show 68 ≤ 70 by decide) (fun H L z1 z2 z3 z4 => ?_)
  exact W.vret B.exec B.bytes B.returns (fun t ht _ => ⟨rfl, by rw [ht]; exact z1, fun q hq => by rw [ht]; exact z2 q hq, by rw [ht]; exact z3⟩) z4 d5 B.notSynchronized
section XT
variable {p : Program} {l : Launch} {e : Env} {R : Room} {s : State} {m : MethodId} {args : Array Value} {below : List Frame} {meth : Method} {c : Code}
variable {E : EE} {mm : MM} {d : Nat} {σ0 : HP}
/-- 'throw new E("text")' -/
theorem x_throw (A : Act E (KX E) p R s m args meth c mm d) (hl : l.stackTraces = false) {y ix ik is ic i pc : Nat} {rx : ByteArray} {L : LV} {σ : HP} (hp : plainName (xNm y) = true) (hx : decode rx 0 = .ok (.aload_n 0, 1) ∧ decode rx 1 = .ok (.aload_n 1, 1) ∧ decode rx 2 = .ok (.invokespecial ix, 3) ∧ decode rx 5 = .ok (.return_, 1)) (hW : xWd E (xNm y) ix)
    (w1 : (Cond.classLink (zC (zo mm)) ik (xNm y)).before args s = true) (w2 : Cond.initialized (xNm y) ∈ gt) (w3 : (Cond.instantiable (xNm y) 6).before args s = true) (w4 : (Cond.methodLink (zC (zo mm)) ic (Bundle.initS (xNm y))).before args s = true) (w5 : Cond.code (Bundle.initS (xNm y)) rx 2 none ∈ gt) (w6 : (Cond.instanceMethod (Bundle.initS (xNm y))).before args s = true) (w7 : sl (zo mm) is = some i)
    (w8 : (Bundle.initS (xNm y)).cls ≠ "java/lang/invoke/MethodHandle" ∧ (Bundle.initS (xNm y)).cls ≠ "java/lang/invoke/VarHandle" ∧ (parseMethodDescriptor (Bundle.initS (xNm y)).desc).map (fun d => d.parameters.length) = some 1)
    (hd : 20 ≤ d) (hz : zh mm = []) (d0 : decode (zb mm) pc = .ok (.new ik, 3)) (d3 : decode (zb mm) (pc + 3) = .ok (.dup, 1)) (d4 : decode (zb mm) (pc + 4) = .ok (.ldc_w is, 3)) (d7 : decode (zb mm) (pc + 7) = .ok (.invokespecial ic, 3)) (d10 : decode (zb mm) (pc + 10) = .ok (.athrow, 1))
    (w : WF mm (pc, L, [], σ)) (hN9 : hN σ + 1 = hN σ0 + R.cells) (hS9 : hS σ + 6 = hS σ0 + R.slots) : WK E p l e R s m args below meth c (QZ E below s R (.inr y, hA σ 63 6)) σ0 (pc, L, [], σ) := by
  intro ls H locs cells slots h1 h2 h3 h4 h5
  have h4 : cells + hN σ0 = hN σ := h4
  have h5 : slots + hS σ0 = hS σ := h5
  have hts := A.2.2.2.2.2.1
  have hown := A.2.2.2.2.1
  have hK : KX E s := A.2.2.2.2.2.2.2.2.2.1.2.2.2.2.2.2.2
  have hfr := A.2.2.2.2.2.2.2.2.2.2.1
  have hlo := A.2.2.2.2.2.2.2.2.2.2.2
  have hsz : ls.size = zl mm := by rw [h1.1]; exact w.2.2.2
  have txt := hK.1 (zo mm) is i w7
  have eC : cells + 1 = R.cells := by omega
  have eS : slots + 6 = R.slots := by omega
  intro T hT X
  obtain ⟨vm, cX, kX, fX, kk, -, -, X1, go⟩ := X.newCold A.1 hown w1 w3 (hts _ w2) (g := F0 m pc ls []) rfl (by rw [A.2.1]; exact d0) (by omega) (by omega)
  have at1 : ((T.setVm vm).pushCell { cls := cX, slots := kX.instanceTypes.map defaultValue, vm := .none }).heap = H.push (freshCell cX kX) := by rw [← hT]; rfl
  have zT : T.heap.size = H.size := by rw [hT]
  rw [zT] at go
  have k7 : W p l e R s m args below meth c (H.push (freshCell cX kX)) locs (cells + 1) (slots + 6) (QZ E below s R (.inr y, hA σ 63 6)) (F0 m (pc + 7) ls [.ref (eA E i), .ref H.size, .ref H.size]) := by
    have cb : CallB R s args (zC (zo mm)) ic (Bundle.initS (xNm y)) rx 2 none (Cond.code (Bundle.initS (xNm y)) rx 2 none :: gt) rmX 0 0 1 := callB_of 1 hts (fun v hv => (List.mem_cons.mp hv).elim (fun z => by rw [z]; exact ⟨w5, gt_good _ w5⟩) (fun z => ⟨z, gt_good v z⟩)) rfl rfl rfl (hts _ w2) w4 w8 ⟨by show 5 + 1 ≤ _; omega, by show 8 + (2 + 11) + 70 ≤ _; omega⟩
    have run := va_runI (p := p) (l := l) (e := e) (m := m) (below := below) (meth := meth) (c := c) (H := H.push (freshCell cX kX)) (locs := locs) (cells := cells + 1) (slots := slots + 6) (b := H.size) (As := [.ref (eA E i)]) (rest := [.ref H.size]) (g := F0 m (pc + 7) ls [.ref (eA E i), .ref H.size, .ref H.size])
      (call_fix A) (xc_met (E := E) (l := l) (a := H.size) (sa := eA E i) (cX := cX) hl hp hx hW) ⟨cb, rfl, w6⟩
      ⟨px_blind E (xNm y) cX H.size (eA E i), fun U hU hWU => ⟨rfl, by rw [hWU.alike.findClass]; exact fX, by
          obtain ⟨k', g1, g2⟩ := hWU.alike.2.2 _ _ kk
          exact ⟨k', g1, by rw [hU, g2]; simp⟩, fun q hq => by
          have lt : q < eB E := Nat.lt_of_not_le hq
          have lt2 : q < H.size := by have := h2.1; omega
          rw [hU, Array.getElem?_push_lt lt2, ← h2.2.1 q lt, Array.getElem?_eq_getElem lt2], kw_KX E s U hWU hK⟩⟩
      rfl rfl hsz rfl (by show 2 * 0 + 1 ≤ 8; omega) d7 ⟨by omega, by omega⟩
    intro T7 e7 X7
    obtain ⟨v, st, t, T8, L8, f1, X8, f2, f3, -, ⟨f5, f6, f7, ce, f8, f9, f10⟩, goes⟩ := run T7 e7 X7
    cases f5
    rw [eC, eS] at X8
    obtain ⟨l1, l2, l3, l4, l5⟩ := X8.athrowLeaves A.1 (g := F0 m (pc + 10) ls [.ref H.size]) rfl rfl rfl (fun z hz' => by rw [A.2.2.2.2.2.2.2.2.1, hz] at hz'; cases hz') (a := H.size) (rest := []) rfl (by rw [A.2.1]; exact d10) A.2.2.2.2.2.2.1
    have hr : Rep E (hA σ 63 6) T8.heap := rep_new h2 (by decide) (by decide) (by rw [f3, f6, f1, Array.size_push]) (fun q hq => by rw [f3, f7 q (Nat.ne_of_lt hq), f1, Array.getElem?_push_lt hq, Array.getElem?_eq_getElem hq]) ⟨fun z => by omega, fun z => by
      rw [show (63 + 64 * hN σ) % 64 = 63 by omega] at z
      exact absurd (by decide +kernel) z⟩
    have hge : frz E H.size := by show eB E ≤ H.size; rw [h2.1]; omega
    exact ⟨_, goes _ l1, .threw H.size, l2, l3, ⟨H.size, ce, rfl, by show T8.heap[H.size]? = _; rw [f3]; exact f8, f9, by rw [f10]; exact fX⟩, hr, l4, _, l5, fun z hz' => (List.mem_append.mp hz').elim (h3 z) (fun q => by rw [f2 z q]; exact hge)⟩
  have k4 : W p l e R s m args below meth c (H.push (freshCell cX kX)) locs (cells + 1) (slots + 6) (QZ E below s R (.inr y, hA σ 63 6)) (F0 m (pc + 3 + 1) ls [.ref H.size, .ref H.size]) := fun T4 e4 X4 => by
    obtain ⟨t, a1, b1⟩ := k7 T4 e4 X4
    exact ⟨t, X4.ldcStringW A.1 (own := zC (zo mm)) (text := ztx i) (index := is) (a := eA E i) hown txt.1 txt.2 (g := F0 m (pc + 4) ls [.ref H.size, .ref H.size]) rfl (by rw [A.2.1]; exact d4) _ a1, b1⟩
  obtain ⟨t, a1, b1⟩ := lv_dup A.1 A.2.1 d3 rfl k4 _ at1 X1
  exact ⟨t, go t a1, b1⟩
end XT
def wx_ia : List Cond := [Cond.initialized Bundle.tN,
  Cond.superclass Bundle.tN "java/lang/Object",
  Cond.instanceMethod Bundle.tFill,
  Cond.codeSync Bundle.tFill prog_27_method_18_code 1 (some (.object Bundle.tN)),
  Cond.instanceMethod Bundle.tFill0,
  Cond.native Bundle.tFill0,
  Cond.instanceMethod Bundle.tInit0,
  Cond.code Bundle.tInit0 prog_27_method_1_code 1 none,
  Cond.instanceMethod Bundle.oInit,
  Cond.code Bundle.oInit ⟨#[0xb1]⟩ 1 none,
  Cond.methodLink Bundle.tN 1 Bundle.oInit,
  Cond.methodLink Bundle.tN 27 Bundle.tFill,
  Cond.methodLink Bundle.tN 202 Bundle.tFill0,
  Cond.fieldLink Bundle.tN 7 Bundle.tN "cause" "Ljava/lang/Throwable;",
  Cond.lays Bundle.tN Bundle.tN "cause" "Ljava/lang/Throwable;",
  Cond.fieldLink Bundle.tN 17 Bundle.tN "stackTrace" Bundle.steD,
  Cond.lays Bundle.tN Bundle.tN "stackTrace" Bundle.steD,
  Cond.fieldLink Bundle.tN 24 Bundle.tN "suppressedExceptions" Bundle.listD,
  Cond.lays Bundle.tN Bundle.tN "suppressedExceptions" Bundle.listD,
  Cond.fieldLink Bundle.tN 13 Bundle.tN "UNASSIGNED_STACK" Bundle.steD,
  Cond.fieldLink Bundle.tN 20 Bundle.tN "SUPPRESSED_SENTINEL" Bundle.listD,
  Cond.lays Bundle.tN Bundle.tN "detailMessage" "Ljava/lang/String;",
  Cond.instanceMethod (Bundle.initS Bundle.tN),
  Cond.code (Bundle.initS Bundle.tN) prog_27_method_2_code 2 none,
  Cond.fieldLink Bundle.tN 31 Bundle.tN "detailMessage" "Ljava/lang/String;",
  Cond.lays Bundle.tN Bundle.tN "detailMessage" "Ljava/lang/String;",
  Cond.instanceMethod (Bundle.initS "java/lang/IllegalArgumentException"),
  Cond.code (Bundle.initS "java/lang/IllegalArgumentException") prog_19_method_2_code 2 none,
  Cond.methodLink "java/lang/IllegalArgumentException" 7 (Bundle.initS "java/lang/RuntimeException"),
  Cond.instanceMethod (Bundle.initS "java/lang/RuntimeException"),
  Cond.declares (Bundle.initS "java/lang/RuntimeException"),
  Cond.instanceMethod (Bundle.initS "java/lang/RuntimeException"),
  Cond.code (Bundle.initS "java/lang/RuntimeException") Bundle.six 2 none,
  Cond.methodLink "java/lang/RuntimeException" 7 (Bundle.initS "java/lang/Exception"),
  Cond.instanceMethod (Bundle.initS "java/lang/Exception"),
  Cond.declares (Bundle.initS "java/lang/Exception"),
  Cond.instanceMethod (Bundle.initS "java/lang/Exception"),
  Cond.code (Bundle.initS "java/lang/Exception") Bundle.six 2 none,
  Cond.methodLink "java/lang/Exception" 7 (Bundle.initS Bundle.tN),
  Cond.instanceMethod (Bundle.initS Bundle.tN),
  Cond.declares (Bundle.initS Bundle.tN),
  Cond.methodLink "PraiseLift" 414 (Bundle.initS "java/lang/IllegalArgumentException"),
  Cond.instantiable "java/lang/IllegalArgumentException" 6,
  Cond.castable "java/lang/IllegalArgumentException" "java/lang/IllegalArgumentException",
  Cond.selects "java/lang/IllegalArgumentException" Bundle.tFill0 Bundle.tFill0,
  Cond.selects "java/lang/IllegalArgumentException" Bundle.tFill Bundle.tFill,
  Cond.lays "java/lang/IllegalArgumentException" Bundle.tN "cause" "Ljava/lang/Throwable;",
  Cond.lays "java/lang/IllegalArgumentException" Bundle.tN "stackTrace" Bundle.steD,
  Cond.lays "java/lang/IllegalArgumentException" Bundle.tN "suppressedExceptions" Bundle.listD,
  Cond.lays "java/lang/IllegalArgumentException" Bundle.tN "detailMessage" "Ljava/lang/String;",
  Cond.fieldLink Bundle.tN 198 Bundle.tN "backtrace" "Ljava/lang/Object;",
  Cond.lays Bundle.tN Bundle.tN "backtrace" "Ljava/lang/Object;",
  Cond.lays "java/lang/IllegalArgumentException" Bundle.tN "backtrace" "Ljava/lang/Object;"]
theorem wx_ia_ok {E : EE} {s : State} {args : Array Value} (hts : ∀ w ∈ gt, w.before args s = true) (hK : KX E s) : ∀ w ∈ wx_ia, w.before args s = true := List.forall_mem_cons.mpr ⟨hts _ (mt1 14 rfl rfl), List.forall_mem_cons.mpr ⟨hts _ (mt3 105 rfl rfl), List.forall_mem_cons.mpr ⟨hts _ (mt3 114 rfl rfl), List.forall_mem_cons.mpr ⟨hts _ (mt3 117 rfl rfl), List.forall_mem_cons.mpr ⟨hts _ (mt3 120 rfl rfl), List.forall_mem_cons.mpr ⟨hts _ (mt3 122 rfl rfl), List.forall_mem_cons.mpr ⟨hts _ (mt3 106 rfl rfl), List.forall_mem_cons.mpr ⟨hts _ (mt3 107 rfl rfl), List.forall_mem_cons.mpr ⟨hts _ (mt1 33 rfl rfl), List.forall_mem_cons.mpr ⟨hts _ (mt1 34 rfl rfl), List.forall_mem_cons.mpr ⟨hts _ (mt3 108 rfl rfl), List.forall_mem_cons.mpr ⟨hts _ (mt3 113 rfl rfl), List.forall_mem_cons.mpr ⟨hts _ (mt3 118 rfl rfl), List.forall_mem_cons.mpr ⟨hts _ (mt3 138 rfl rfl), List.forall_mem_cons.mpr ⟨hts _ (mt3 95 rfl rfl), List.forall_mem_cons.mpr ⟨hts _ (mt3 139 rfl rfl), List.forall_mem_cons.mpr ⟨hts _ (mt3 97 rfl rfl), List.forall_mem_cons.mpr ⟨hts _ (mt3 140 rfl rfl), List.forall_mem_cons.mpr ⟨hts _ (mt3 99 rfl rfl), List.forall_mem_cons.mpr ⟨hts _ (mt3 109 rfl rfl), List.forall_mem_cons.mpr ⟨hts _ (mt3 111 rfl rfl), List.forall_mem_cons.mpr ⟨hts _ (mt3 101 rfl rfl), List.forall_mem_cons.mpr ⟨hts _ (mt3 134 rfl rfl), List.forall_mem_cons.mpr ⟨hts _ (mt3 135 rfl rfl), List.forall_mem_cons.mpr ⟨hts _ (mt3 137 rfl rfl), List.forall_mem_cons.mpr ⟨hts _ (mt3 101 rfl rfl), List.forall_mem_cons.mpr ⟨hts _ (mt3 125 rfl rfl), List.forall_mem_cons.mpr ⟨hts _ (mt3 126 rfl rfl), List.forall_mem_cons.mpr ⟨hts _ (mt3 127 rfl rfl), List.forall_mem_cons.mpr ⟨hts _ (mt3 128 rfl rfl), List.forall_mem_cons.mpr ⟨va_Nw.use rfl hK.2.2.1.1, List.forall_mem_cons.mpr ⟨hts _ (mt3 128 rfl rfl), List.forall_mem_cons.mpr ⟨hts _ (mt3 129 rfl rfl), List.forall_mem_cons.mpr ⟨hts _ (mt3 130 rfl rfl), List.forall_mem_cons.mpr ⟨hts _ (mt3 131 rfl rfl), List.forall_mem_cons.mpr ⟨va_Nw.use rfl hK.2.2.1.2.1, List.forall_mem_cons.mpr ⟨hts _ (mt3 131 rfl rfl), List.forall_mem_cons.mpr ⟨hts _ (mt3 132 rfl rfl), List.forall_mem_cons.mpr ⟨hts _ (mt3 133 rfl rfl), List.forall_mem_cons.mpr ⟨hts _ (mt3 134 rfl rfl), List.forall_mem_cons.mpr ⟨va_Nw.use rfl hK.2.2.1.2.2, List.forall_mem_cons.mpr ⟨hts _ (mt3 124 rfl rfl), List.forall_mem_cons.mpr ⟨hts _ (mt3 84 rfl rfl), List.forall_mem_cons.mpr ⟨va_Nw.use rfl hK.2.1.2.1, List.forall_mem_cons.mpr ⟨hts _ (mt3 92 rfl rfl), List.forall_mem_cons.mpr ⟨hts _ (mt3 93 rfl rfl), List.forall_mem_cons.mpr ⟨hts _ (mt3 94 rfl rfl), List.forall_mem_cons.mpr ⟨hts _ (mt3 96 rfl rfl), List.forall_mem_cons.mpr ⟨hts _ (mt3 98 rfl rfl), List.forall_mem_cons.mpr ⟨hts _ (mt3 100 rfl rfl), List.forall_mem_cons.mpr ⟨hts _ (mt3 104 rfl rfl), List.forall_mem_cons.mpr ⟨hts _ (mt3 103 rfl rfl), List.forall_mem_cons.mpr ⟨hts _ (mt3 102 rfl rfl), fun _ h => absurd h List.not_mem_nil⟩⟩⟩⟩⟩⟩⟩⟩⟩⟩⟩⟩⟩⟩⟩⟩⟩⟩⟩⟩⟩⟩⟩⟩⟩⟩⟩⟩⟩⟩⟩⟩⟩⟩⟩⟩⟩⟩⟩⟩⟩⟩⟩⟩⟩⟩⟩⟩⟩⟩⟩⟩⟩
theorem dx_ia : decode prog_19_method_2_code 0 = .ok (.aload_n 0, 1) ∧ decode prog_19_method_2_code 1 = .ok (.aload_n 1, 1) ∧ decode prog_19_method_2_code 2 = .ok (.invokespecial 7, 3) ∧ decode prog_19_method_2_code 5 = .ok (.return_, 1) := by decide +kernel
def wx_ns : List Cond := [Cond.initialized Bundle.tN,
  Cond.superclass Bundle.tN "java/lang/Object",
  Cond.instanceMethod Bundle.tFill,
  Cond.codeSync Bundle.tFill prog_27_method_18_code 1 (some (.object Bundle.tN)),
  Cond.instanceMethod Bundle.tFill0,
  Cond.native Bundle.tFill0,
  Cond.instanceMethod Bundle.tInit0,
  Cond.code Bundle.tInit0 prog_27_method_1_code 1 none,
  Cond.instanceMethod Bundle.oInit,
  Cond.code Bundle.oInit ⟨#[0xb1]⟩ 1 none,
  Cond.methodLink Bundle.tN 1 Bundle.oInit,
  Cond.methodLink Bundle.tN 27 Bundle.tFill,
  Cond.methodLink Bundle.tN 202 Bundle.tFill0,
  Cond.fieldLink Bundle.tN 7 Bundle.tN "cause" "Ljava/lang/Throwable;",
  Cond.lays Bundle.tN Bundle.tN "cause" "Ljava/lang/Throwable;",
  Cond.fieldLink Bundle.tN 17 Bundle.tN "stackTrace" Bundle.steD,
  Cond.lays Bundle.tN Bundle.tN "stackTrace" Bundle.steD,
  Cond.fieldLink Bundle.tN 24 Bundle.tN "suppressedExceptions" Bundle.listD,
  Cond.lays Bundle.tN Bundle.tN "suppressedExceptions" Bundle.listD,
  Cond.fieldLink Bundle.tN 13 Bundle.tN "UNASSIGNED_STACK" Bundle.steD,
  Cond.fieldLink Bundle.tN 20 Bundle.tN "SUPPRESSED_SENTINEL" Bundle.listD,
  Cond.lays Bundle.tN Bundle.tN "detailMessage" "Ljava/lang/String;",
  Cond.instanceMethod (Bundle.initS Bundle.tN),
  Cond.code (Bundle.initS Bundle.tN) prog_27_method_2_code 2 none,
  Cond.fieldLink Bundle.tN 31 Bundle.tN "detailMessage" "Ljava/lang/String;",
  Cond.lays Bundle.tN Bundle.tN "detailMessage" "Ljava/lang/String;",
  Cond.instanceMethod (Bundle.initS "java/util/NoSuchElementException"),
  Cond.code (Bundle.initS "java/util/NoSuchElementException") prog_31_method_4_code 2 none,
  Cond.methodLink "java/util/NoSuchElementException" 13 (Bundle.initS "java/lang/RuntimeException"),
  Cond.instanceMethod (Bundle.initS "java/lang/RuntimeException"),
  Cond.declares (Bundle.initS "java/lang/RuntimeException"),
  Cond.instanceMethod (Bundle.initS "java/lang/RuntimeException"),
  Cond.code (Bundle.initS "java/lang/RuntimeException") Bundle.six 2 none,
  Cond.methodLink "java/lang/RuntimeException" 7 (Bundle.initS "java/lang/Exception"),
  Cond.instanceMethod (Bundle.initS "java/lang/Exception"),
  Cond.declares (Bundle.initS "java/lang/Exception"),
  Cond.instanceMethod (Bundle.initS "java/lang/Exception"),
  Cond.code (Bundle.initS "java/lang/Exception") Bundle.six 2 none,
  Cond.methodLink "java/lang/Exception" 7 (Bundle.initS Bundle.tN),
  Cond.instanceMethod (Bundle.initS Bundle.tN),
  Cond.declares (Bundle.initS Bundle.tN),
  Cond.methodLink "PraiseLift" 407 (Bundle.initS "java/util/NoSuchElementException"),
  Cond.instantiable "java/util/NoSuchElementException" 6,
  Cond.castable "java/util/NoSuchElementException" "java/util/NoSuchElementException",
  Cond.selects "java/util/NoSuchElementException" Bundle.tFill0 Bundle.tFill0,
  Cond.selects "java/util/NoSuchElementException" Bundle.tFill Bundle.tFill,
  Cond.lays "java/util/NoSuchElementException" Bundle.tN "cause" "Ljava/lang/Throwable;",
  Cond.lays "java/util/NoSuchElementException" Bundle.tN "stackTrace" Bundle.steD,
  Cond.lays "java/util/NoSuchElementException" Bundle.tN "suppressedExceptions" Bundle.listD,
  Cond.lays "java/util/NoSuchElementException" Bundle.tN "detailMessage" "Ljava/lang/String;",
  Cond.fieldLink Bundle.tN 198 Bundle.tN "backtrace" "Ljava/lang/Object;",
  Cond.lays Bundle.tN Bundle.tN "backtrace" "Ljava/lang/Object;",
  Cond.lays "java/util/NoSuchElementException" Bundle.tN "backtrace" "Ljava/lang/Object;"]
theorem wx_ns_ok {E : EE} {s : State} {args : Array Value} (hts : ∀ w ∈ gt, w.before args s = true) (hK : KX E s) : ∀ w ∈ wx_ns, w.before args s = true := List.forall_mem_cons.mpr ⟨hts _ (mt1 14 rfl rfl), List.forall_mem_cons.mpr ⟨hts _ (mt3 105 rfl rfl), List.forall_mem_cons.mpr ⟨hts _ (mt3 114 rfl rfl), List.forall_mem_cons.mpr ⟨hts _ (mt3 117 rfl rfl), List.forall_mem_cons.mpr ⟨hts _ (mt3 120 rfl rfl), List.forall_mem_cons.mpr ⟨hts _ (mt3 122 rfl rfl), List.forall_mem_cons.mpr ⟨hts _ (mt3 106 rfl rfl), List.forall_mem_cons.mpr ⟨hts _ (mt3 107 rfl rfl), List.forall_mem_cons.mpr ⟨hts _ (mt1 33 rfl rfl), List.forall_mem_cons.mpr ⟨hts _ (mt1 34 rfl rfl), List.forall_mem_cons.mpr ⟨hts _ (mt3 108 rfl rfl), List.forall_mem_cons.mpr ⟨hts _ (mt3 113 rfl rfl), List.forall_mem_cons.mpr ⟨hts _ (mt3 118 rfl rfl), List.forall_mem_cons.mpr ⟨hts _ (mt3 138 rfl rfl), List.forall_mem_cons.mpr ⟨hts _ (mt3 95 rfl rfl), List.forall_mem_cons.mpr ⟨hts _ (mt3 139 rfl rfl), List.forall_mem_cons.mpr ⟨hts _ (mt3 97 rfl rfl), List.forall_mem_cons.mpr ⟨hts _ (mt3 140 rfl rfl), List.forall_mem_cons.mpr ⟨hts _ (mt3 99 rfl rfl), List.forall_mem_cons.mpr ⟨hts _ (mt3 109 rfl rfl), List.forall_mem_cons.mpr ⟨hts _ (mt3 111 rfl rfl), List.forall_mem_cons.mpr ⟨hts _ (mt3 101 rfl rfl), List.forall_mem_cons.mpr ⟨hts _ (mt3 134 rfl rfl), List.forall_mem_cons.mpr ⟨hts _ (mt3 135 rfl rfl), List.forall_mem_cons.mpr ⟨hts _ (mt3 137 rfl rfl), List.forall_mem_cons.mpr ⟨hts _ (mt3 101 rfl rfl), List.forall_mem_cons.mpr ⟨hts _ (mt5 66 rfl rfl), List.forall_mem_cons.mpr ⟨hts _ (mt5 67 rfl rfl), List.forall_mem_cons.mpr ⟨hts _ (mt5 68 rfl rfl), List.forall_mem_cons.mpr ⟨hts _ (mt3 128 rfl rfl), List.forall_mem_cons.mpr ⟨va_Nw.use rfl hK.2.2.1.1, List.forall_mem_cons.mpr ⟨hts _ (mt3 128 rfl rfl), List.forall_mem_cons.mpr ⟨hts _ (mt3 129 rfl rfl), List.forall_mem_cons.mpr ⟨hts _ (mt3 130 rfl rfl), List.forall_mem_cons.mpr ⟨hts _ (mt3 131 rfl rfl), List.forall_mem_cons.mpr ⟨va_Nw.use rfl hK.2.2.1.2.1, List.forall_mem_cons.mpr ⟨hts _ (mt3 131 rfl rfl), List.forall_mem_cons.mpr ⟨hts _ (mt3 132 rfl rfl), List.forall_mem_cons.mpr ⟨hts _ (mt3 133 rfl rfl), List.forall_mem_cons.mpr ⟨hts _ (mt3 134 rfl rfl), List.forall_mem_cons.mpr ⟨va_Nw.use rfl hK.2.2.1.2.2, List.forall_mem_cons.mpr ⟨hts _ (mt5 65 rfl rfl), List.forall_mem_cons.mpr ⟨hts _ (mt5 56 rfl rfl), List.forall_mem_cons.mpr ⟨va_Nw.use rfl hK.2.1.1, List.forall_mem_cons.mpr ⟨hts _ (mt5 58 rfl rfl), List.forall_mem_cons.mpr ⟨hts _ (mt3 116 rfl rfl), List.forall_mem_cons.mpr ⟨hts _ (mt5 59 rfl rfl), List.forall_mem_cons.mpr ⟨hts _ (mt5 60 rfl rfl), List.forall_mem_cons.mpr ⟨hts _ (mt5 61 rfl rfl), List.forall_mem_cons.mpr ⟨hts _ (mt5 62 rfl rfl), List.forall_mem_cons.mpr ⟨hts _ (mt3 104 rfl rfl), List.forall_mem_cons.mpr ⟨hts _ (mt3 103 rfl rfl), List.forall_mem_cons.mpr ⟨hts _ (mt5 63 rfl rfl), fun _ h => absurd h List.not_mem_nil⟩⟩⟩⟩⟩⟩⟩⟩⟩⟩⟩⟩⟩⟩⟩⟩⟩⟩⟩⟩⟩⟩⟩⟩⟩⟩⟩⟩⟩⟩⟩⟩⟩⟩⟩⟩⟩⟩⟩⟩⟩⟩⟩⟩⟩⟩⟩⟩⟩⟩⟩⟩⟩
theorem dx_ns : decode prog_31_method_4_code 0 = .ok (.aload_n 0, 1) ∧ decode prog_31_method_4_code 1 = .ok (.aload_n 1, 1) ∧ decode prog_31_method_4_code 2 = .ok (.invokespecial 13, 3) ∧ decode prog_31_method_4_code 5 = .ok (.return_, 1) := by decide +kernel
theorem xl_11 {o i y is ic : Nat} (h : xl o i = some (y, is, ic)) : o = 11 ∧ ((i = 410 ∧ y = 1 ∧ is = 412 ∧ ic = 414) ∨ (i = 403 ∧ y = 0 ∧ is = 405 ∧ ic = 407)) := by
  have hm := look_mem h
  unfold xlL at hm
  split at hm
  · refine ⟨rfl, ?_⟩
    simp only [List.mem_cons, Prod.mk.injEq, List.not_mem_nil, or_false] at hm
    omega
  · cases hm
set_option maxRecDepth 100000 in
theorem wx_ia_in : ∀ w ∈ xcA "java/lang/IllegalArgumentException" 7, w = .laysStatic Bundle.tN "UNASSIGNED_STACK" Bundle.steD ∨ w = .laysStatic Bundle.tN "SUPPRESSED_SENTINEL" Bundle.listD ∨ w ∈ wx_ia := by decide +kernel
set_option maxRecDepth 100000 in
theorem wx_ns_in : ∀ w ∈ xcA "java/util/NoSuchElementException" 13, w = .laysStatic Bundle.tN "UNASSIGNED_STACK" Bundle.steD ∨ w = .laysStatic Bundle.tN "SUPPRESSED_SENTINEL" Bundle.listD ∨ w ∈ wx_ns := by decide +kernel
set_option maxRecDepth 100000 in
theorem wx_ia_ow : Cond.instantiable "java/lang/IllegalArgumentException" 6 ∈ wx_ia ∧ Cond.methodLink "PraiseLift" 414 (Bundle.initS "java/lang/IllegalArgumentException") ∈ wx_ia ∧ Cond.instanceMethod (Bundle.initS "java/lang/IllegalArgumentException") ∈ wx_ia := by decide +kernel
set_option maxRecDepth 100000 in
theorem wx_ns_ow : Cond.instantiable "java/util/NoSuchElementException" 6 ∈ wx_ns ∧ Cond.methodLink "PraiseLift" 407 (Bundle.initS "java/util/NoSuchElementException") ∈ wx_ns ∧ Cond.instanceMethod (Bundle.initS "java/util/NoSuchElementException") ∈ wx_ns := by decide +kernel
theorem spx {E : EE} {l : Launch} (hl : l.stackTraces = false) : SpX E (KX E) l := by
  intro p e R s m args below meth c Q mm d σ0 A
  have hts := A.2.2.2.2.2.1
  have hKX : KX E s := A.2.2.2.2.2.2.2.2.2.1.2.2.2.2.2.2.2
  refine ⟨?_, fun pc x q kk L σ ls H locs cells slots qa ce rest hh h13 hkk hok hwf h1 hcell hvm hcl k => x_catch A hh h13 hkk hok hwf h1 hcell hvm hcl k⟩
  intro idx pc y is ic L σ hd hx hc w hN9 hS9
  obtain ⟨c1, c2, c3, c4, c5, c6⟩ := hc
  obtain ⟨h11, hcase⟩ := xl_11 hx
  rcases hcase with ⟨rfl, rfl, rfl, rfl⟩ | ⟨rfl, rfl, rfl, rfl⟩
  · have hok := wx_ia_ok hts hKX
    exact x_throw A hl (ix := 7) (rx := prog_19_method_2_code) (by decide +kernel) dx_ia (fun a U g k w' hw => (wx_ia_in w' hw).elim Or.inl fun z => Or.inr (z.elim Or.inl fun z => Or.inr (wx_ia_ok g k w' z))) (by rw [h11]; exact hts _ (mt3 83 rfl rfl)) (mt1 17 rfl rfl) (hok _ wx_ia_ow.1) (by rw [h11]; exact hok _ wx_ia_ow.2.1) (mt3 126 rfl rfl) (hok _ wx_ia_ow.2.2) (by rw [h11]; rfl) (by decide +kernel) c1 c2 hd c3 c4 c5 c6 w hN9 hS9
  · have hok := wx_ns_ok hts hKX
    exact x_throw A hl (ix := 13) (rx := prog_31_method_4_code) (by decide +kernel) dx_ns (fun a U g k w' hw => (wx_ns_in w' hw).elim Or.inl fun z => Or.inr (z.elim Or.inl fun z => Or.inr (wx_ns_ok g k w' z))) (by rw [h11]; exact hts _ (mt5 55 rfl rfl)) (mt1 25 rfl rfl) (hok _ wx_ns_ow.1) (by rw [h11]; exact hok _ wx_ns_ow.2.1) (mt5 67 rfl rfl) (hok _ wx_ns_ow.2.2) (by rw [h11]; rfl) (by decide +kernel) c1 c2 hd c3 c4 c5 c6 w hN9 hS9
