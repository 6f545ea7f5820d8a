/-! throwing -/
def wx_ia : List Cond := [Cond.initialized Bundle.tN,
  Cond.superclass Bundle.tN "java/lang/Object",
  Cond.instanceMethod Bundle.tFill,
  Cond.codeSync Bundle.tFill prog_27_method_18_code 1 (some (.object Bundle.tN)),
  Cond.instanceMethod Bundle.tFill0,
  Cond.native Bundle.tFill0,
  Cond.instanceMethod Bundle.tInit0,
  Cond.code Bundle.tInit0 prog_27_method_1_code 1 none,
  Cond.instanceMethod Bundle.oInit,
  Cond.code Bundle.oInit ⟨#[0xb1]⟩ 1 none,
  Cond.methodLink Bundle.tN 1 Bundle.oInit,
  Cond.methodLink Bundle.tN 27 Bundle.tFill,
  Cond.methodLink Bundle.tN 202 Bundle.tFill0,
  Cond.fieldLink Bundle.tN 7 Bundle.tN "cause" "Ljava/lang/Throwable;",
  Cond.lays Bundle.tN Bundle.tN "cause" "Ljava/lang/Throwable;",
  Cond.fieldLink Bundle.tN 17 Bundle.tN "stackTrace" Bundle.steD,
  Cond.lays Bundle.tN Bundle.tN "stackTrace" Bundle.steD,
  Cond.fieldLink Bundle.tN 24 Bundle.tN "suppressedExceptions" Bundle.listD,
  Cond.lays Bundle.tN Bundle.tN "suppressedExceptions" Bundle.listD,
  Cond.fieldLink Bundle.tN 13 Bundle.tN "UNASSIGNED_STACK" Bundle.steD,
  Cond.fieldLink Bundle.tN 20 Bundle.tN "SUPPRESSED_SENTINEL" Bundle.listD,
  Cond.lays Bundle.tN Bundle.tN "detailMessage" "Ljava/lang/String;",
  Cond.instanceMethod (Bundle.initS Bundle.tN),
  Cond.code (Bundle.initS Bundle.tN) prog_27_method_2_code 2 none,
  Cond.fieldLink Bundle.tN 31 Bundle.tN "detailMessage" "Ljava/lang/String;",
  Cond.lays Bundle.tN Bundle.tN "detailMessage" "Ljava/lang/String;",
  Cond.instanceMethod (Bundle.initS "java/lang/IllegalArgumentException"),
  Cond.code (Bundle.initS "java/lang/IllegalArgumentException") prog_19_method_2_code 2 none,
  Cond.methodLink "java/lang/IllegalArgumentException" 7 (Bundle.initS "java/lang/RuntimeException"),
  Cond.instanceMethod (Bundle.initS "java/lang/RuntimeException"),
  Cond.declares (Bundle.initS "java/lang/RuntimeException"),
  Cond.instanceMethod (Bundle.initS "java/lang/RuntimeException"),
  Cond.code (Bundle.initS "java/lang/RuntimeException") Bundle.six 2 none,
  Cond.methodLink "java/lang/RuntimeException" 7 (Bundle.initS "java/lang/Exception"),
  Cond.instanceMethod (Bundle.initS "java/lang/Exception"),
  Cond.declares (Bundle.initS "java/lang/Exception"),
  Cond.instanceMethod (Bundle.initS "java/lang/Exception"),
  Cond.code (Bundle.initS "java/lang/Exception") Bundle.six 2 none,
  Cond.methodLink "java/lang/Exception" 7 (Bundle.initS Bundle.tN),
  Cond.instanceMethod (Bundle.initS Bundle.tN),
  Cond.declares (Bundle.initS Bundle.tN),
  Cond.methodLink "PraiseLift" 414 (Bundle.initS "java/lang/IllegalArgumentException"),
  Cond.instantiable "java/lang/IllegalArgumentException" 6,
  Cond.castable "java/lang/IllegalArgumentException" "java/lang/IllegalArgumentException",
  Cond.selects "java/lang/IllegalArgumentException" Bundle.tFill0 Bundle.tFill0,
  Cond.selects "java/lang/IllegalArgumentException" Bundle.tFill Bundle.tFill,
  Cond.lays "java/lang/IllegalArgumentException" Bundle.tN "cause" "Ljava/lang/Throwable;",
  Cond.lays "java/lang/IllegalArgumentException" Bundle.tN "stackTrace" Bundle.steD,
  Cond.lays "java/lang/IllegalArgumentException" Bundle.tN "suppressedExceptions" Bundle.listD,
  Cond.lays "java/lang/IllegalArgumentException" Bundle.tN "detailMessage" "Ljava/lang/String;",
  Cond.fieldLink Bundle.tN 198 Bundle.tN "backtrace" "Ljava/lang/Object;",
  Cond.lays Bundle.tN Bundle.tN "backtrace" "Ljava/lang/Object;",
  Cond.lays "java/lang/IllegalArgumentException" Bundle.tN "backtrace" "Ljava/lang/Object;"]
set_option maxRecDepth 100000 in
theorem wx_ia_eq : (zx_own "PraiseLift" 414 "java/lang/IllegalArgumentException" 7 prog_19_method_2_code ["java/lang/RuntimeException", "java/lang/Exception"]).filter vx_no = wx_ia := by decide +kernel
set_option maxRecDepth 100000 in
theorem wx_ia_ot : ∀ w ∈ wx_ia, vx_ot w = true := by decide +kernel
theorem wx_ia_ok {E : EE} {s : State} {args : Array Value} (hts : ∀ w ∈ gt, w.before args s = true) (hK : KX E s) : ∀ w ∈ wx_ia, w.before args s = true := List.forall_mem_cons.mpr ⟨hts _ (mt1 14 rfl rfl), List.forall_mem_cons.mpr ⟨hts _ (mt3 105 rfl rfl), List.forall_mem_cons.mpr ⟨hts _ (mt3 114 rfl rfl), List.forall_mem_cons.mpr ⟨hts _ (mt3 117 rfl rfl), List.forall_mem_cons.mpr ⟨hts _ (mt3 120 rfl rfl), List.forall_mem_cons.mpr ⟨hts _ (mt3 122 rfl rfl), List.forall_mem_cons.mpr ⟨hts _ (mt3 106 rfl rfl), List.forall_mem_cons.mpr ⟨hts _ (mt3 107 rfl rfl), List.forall_mem_cons.mpr ⟨hts _ (mt1 33 rfl rfl), List.forall_mem_cons.mpr ⟨hts _ (mt1 34 rfl rfl), List.forall_mem_cons.mpr ⟨hts _ (mt3 108 rfl rfl), List.forall_mem_cons.mpr ⟨hts _ (mt3 113 rfl rfl), List.forall_mem_cons.mpr ⟨hts _ (mt3 118 rfl rfl), List.forall_mem_cons.mpr ⟨hts _ (mt3 138 rfl rfl), List.forall_mem_cons.mpr ⟨hts _ (mt3 95 rfl rfl), List.forall_mem_cons.mpr ⟨hts _ (mt3 139 rfl rfl), List.forall_mem_cons.mpr ⟨hts _ (mt3 97 rfl rfl), List.forall_mem_cons.mpr ⟨hts _ (mt3 140 rfl rfl), List.forall_mem_cons.mpr ⟨hts _ (mt3 99 rfl rfl), List.forall_mem_cons.mpr ⟨hts _ (mt3 109 rfl rfl), List.forall_mem_cons.mpr ⟨hts _ (mt3 111 rfl rfl), List.forall_mem_cons.mpr ⟨hts _ (mt3 101 rfl rfl), List.forall_mem_cons.mpr ⟨hts _ (mt3 134 rfl rfl), List.forall_mem_cons.mpr ⟨hts _ (mt3 135 rfl rfl), List.forall_mem_cons.mpr ⟨hts _ (mt3 137 rfl rfl), List.forall_mem_cons.mpr ⟨hts _ (mt3 101 rfl rfl), List.forall_mem_cons.mpr ⟨hts _ (mt3 125 rfl rfl), List.forall_mem_cons.mpr ⟨hts _ (mt3 126 rfl rfl), List.forall_mem_cons.mpr ⟨hts _ (mt3 127 rfl rfl), List.forall_mem_cons.mpr ⟨hts _ (mt3 128 rfl rfl), List.forall_mem_cons.mpr ⟨va_Nw.use rfl hK.2.2.1.1, List.forall_mem_cons.mpr ⟨hts _ (mt3 128 rfl rfl), List.forall_mem_cons.mpr ⟨hts _ (mt3 129 rfl rfl), List.forall_mem_cons.mpr ⟨hts _ (mt3 130 rfl rfl), List.forall_mem_cons.mpr ⟨hts _ (mt3 131 rfl rfl), List.forall_mem_cons.mpr ⟨va_Nw.use rfl hK.2.2.1.2.1, List.forall_mem_cons.mpr ⟨hts _ (mt3 131 rfl rfl), List.forall_mem_cons.mpr ⟨hts _ (mt3 132 rfl rfl), List.forall_mem_cons.mpr ⟨hts _ (mt3 133 rfl rfl), List.forall_mem_cons.mpr ⟨hts _ (mt3 134 rfl rfl), List.forall_mem_cons.mpr ⟨va_Nw.use rfl hK.2.2.1.2.2, List.forall_mem_cons.mpr ⟨hts _ (mt3 124 rfl rfl), List.forall_mem_cons.mpr ⟨hts _ (mt3 84 rfl rfl), List.forall_mem_cons.mpr ⟨va_Nw.use rfl hK.2.1.2.1, List.forall_mem_cons.mpr ⟨hts _ (mt3 92 rfl rfl), List.forall_mem_cons.mpr ⟨hts _ (mt3 93 rfl rfl), List.forall_mem_cons.mpr ⟨hts _ (mt3 94 rfl rfl), List.forall_mem_cons.mpr ⟨hts _ (mt3 96 rfl rfl), List.forall_mem_cons.mpr ⟨hts _ (mt3 98 rfl rfl), List.forall_mem_cons.mpr ⟨hts _ (mt3 100 rfl rfl), List.forall_mem_cons.mpr ⟨hts _ (mt3 104 rfl rfl), List.forall_mem_cons.mpr ⟨hts _ (mt3 103 rfl rfl), List.forall_mem_cons.mpr ⟨hts _ (mt3 102 rfl rfl), fun _ h => absurd h List.not_mem_nil⟩⟩⟩⟩⟩⟩⟩⟩⟩⟩⟩⟩⟩⟩⟩⟩⟩⟩⟩⟩⟩⟩⟩⟩⟩⟩⟩⟩⟩⟩⟩⟩⟩⟩⟩⟩⟩⟩⟩⟩⟩⟩⟩⟩⟩⟩⟩⟩⟩⟩⟩⟩⟩
theorem dx_ia : decode prog_19_method_2_code 0 = .ok (.aload_n 0, 1) ∧ decode prog_19_method_2_code 1 = .ok (.aload_n 1, 1) ∧ decode prog_19_method_2_code 2 = .ok (.invokespecial 7, 3) ∧ decode prog_19_method_2_code 5 = .ok (.return_, 1) := by decide +kernel
def wx_ns : List Cond := [Cond.initialized Bundle.tN,
  Cond.superclass Bundle.tN "java/lang/Object",
  Cond.instanceMethod Bundle.tFill,
  Cond.codeSync Bundle.tFill prog_27_method_18_code 1 (some (.object Bundle.tN)),
  Cond.instanceMethod Bundle.tFill0,
  Cond.native Bundle.tFill0,
  Cond.instanceMethod Bundle.tInit0,
  Cond.code Bundle.tInit0 prog_27_method_1_code 1 none,
  Cond.instanceMethod Bundle.oInit,
  Cond.code Bundle.oInit ⟨#[0xb1]⟩ 1 none,
  Cond.methodLink Bundle.tN 1 Bundle.oInit,
  Cond.methodLink Bundle.tN 27 Bundle.tFill,
  Cond.methodLink Bundle.tN 202 Bundle.tFill0,
  Cond.fieldLink Bundle.tN 7 Bundle.tN "cause" "Ljava/lang/Throwable;",
  Cond.lays Bundle.tN Bundle.tN "cause" "Ljava/lang/Throwable;",
  Cond.fieldLink Bundle.tN 17 Bundle.tN "stackTrace" Bundle.steD,
  Cond.lays Bundle.tN Bundle.tN "stackTrace" Bundle.steD,
  Cond.fieldLink Bundle.tN 24 Bundle.tN "suppressedExceptions" Bundle.listD,
  Cond.lays Bundle.tN Bundle.tN "suppressedExceptions" Bundle.listD,
  Cond.fieldLink Bundle.tN 13 Bundle.tN "UNASSIGNED_STACK" Bundle.steD,
  Cond.fieldLink Bundle.tN 20 Bundle.tN "SUPPRESSED_SENTINEL" Bundle.listD,
  Cond.lays Bundle.tN Bundle.tN "detailMessage" "Ljava/lang/String;",
  Cond.instanceMethod (Bundle.initS Bundle.tN),
  Cond.code (Bundle.initS Bundle.tN) prog_27_method_2_code 2 none,
  Cond.fieldLink Bundle.tN 31 Bundle.tN "detailMessage" "Ljava/lang/String;",
  Cond.lays Bundle.tN Bundle.tN "detailMessage" "Ljava/lang/String;",
  Cond.instanceMethod (Bundle.initS "java/util/NoSuchElementException"),
  Cond.code (Bundle.initS "java/util/NoSuchElementException") prog_31_method_4_code 2 none,
  Cond.methodLink "java/util/NoSuchElementException" 13 (Bundle.initS "java/lang/RuntimeException"),
  Cond.instanceMethod (Bundle.initS "java/lang/RuntimeException"),
  Cond.declares (Bundle.initS "java/lang/RuntimeException"),
  Cond.instanceMethod (Bundle.initS "java/lang/RuntimeException"),
  Cond.code (Bundle.initS "java/lang/RuntimeException") Bundle.six 2 none,
  Cond.methodLink "java/lang/RuntimeException" 7 (Bundle.initS "java/lang/Exception"),
  Cond.instanceMethod (Bundle.initS "java/lang/Exception"),
  Cond.declares (Bundle.initS "java/lang/Exception"),
  Cond.instanceMethod (Bundle.initS "java/lang/Exception"),
  Cond.code (Bundle.initS "java/lang/Exception") Bundle.six 2 none,
  Cond.methodLink "java/lang/Exception" 7 (Bundle.initS Bundle.tN),
  Cond.instanceMethod (Bundle.initS Bundle.tN),
  Cond.declares (Bundle.initS Bundle.tN),
  Cond.methodLink "PraiseLift" 407 (Bundle.initS "java/util/NoSuchElementException"),
  Cond.instantiable "java/util/NoSuchElementException" 6,
  Cond.castable "java/util/NoSuchElementException" "java/util/NoSuchElementException",
  Cond.selects "java/util/NoSuchElementException" Bundle.tFill0 Bundle.tFill0,
  Cond.selects "java/util/NoSuchElementException" Bundle.tFill Bundle.tFill,
  Cond.lays "java/util/NoSuchElementException" Bundle.tN "cause" "Ljava/lang/Throwable;",
  Cond.lays "java/util/NoSuchElementException" Bundle.tN "stackTrace" Bundle.steD,
  Cond.lays "java/util/NoSuchElementException" Bundle.tN "suppressedExceptions" Bundle.listD,
  Cond.lays "java/util/NoSuchElementException" Bundle.tN "detailMessage" "Ljava/lang/String;",
  Cond.fieldLink Bundle.tN 198 Bundle.tN "backtrace" "Ljava/lang/Object;",
  Cond.lays Bundle.tN Bundle.tN "backtrace" "Ljava/lang/Object;",
  Cond.lays "java/util/NoSuchElementException" Bundle.tN "backtrace" "Ljava/lang/Object;"]
set_option maxRecDepth 100000 in
theorem wx_ns_eq : (zx_own "PraiseLift" 407 "java/util/NoSuchElementException" 13 prog_31_method_4_code ["java/lang/RuntimeException", "java/lang/Exception"]).filter vx_no = wx_ns := by decide +kernel
set_option maxRecDepth 100000 in
theorem wx_ns_ot : ∀ w ∈ wx_ns, vx_ot w = true := by decide +kernel
theorem wx_ns_ok {E : EE} {s : State} {args : Array Value} (hts : ∀ w ∈ gt, w.before args s = true) (hK : KX E s) : ∀ w ∈ wx_ns, w.before args s = true := List.forall_mem_cons.mpr ⟨hts _ (mt1 14 rfl rfl), List.forall_mem_cons.mpr ⟨hts _ (mt3 105 rfl rfl), List.forall_mem_cons.mpr ⟨hts _ (mt3 114 rfl rfl), List.forall_mem_cons.mpr ⟨hts _ (mt3 117 rfl rfl), List.forall_mem_cons.mpr ⟨hts _ (mt3 120 rfl rfl), List.forall_mem_cons.mpr ⟨hts _ (mt3 122 rfl rfl), List.forall_mem_cons.mpr ⟨hts _ (mt3 106 rfl rfl), List.forall_mem_cons.mpr ⟨hts _ (mt3 107 rfl rfl), List.forall_mem_cons.mpr ⟨hts _ (mt1 33 rfl rfl), List.forall_mem_cons.mpr ⟨hts _ (mt1 34 rfl rfl), List.forall_mem_cons.mpr ⟨hts _ (mt3 108 rfl rfl), List.forall_mem_cons.mpr ⟨hts _ (mt3 113 rfl rfl), List.forall_mem_cons.mpr ⟨hts _ (mt3 118 rfl rfl), List.forall_mem_cons.mpr ⟨hts _ (mt3 138 rfl rfl), List.forall_mem_cons.mpr ⟨hts _ (mt3 95 rfl rfl), List.forall_mem_cons.mpr ⟨hts _ (mt3 139 rfl rfl), List.forall_mem_cons.mpr ⟨hts _ (mt3 97 rfl rfl), List.forall_mem_cons.mpr ⟨hts _ (mt3 140 rfl rfl), List.forall_mem_cons.mpr ⟨hts _ (mt3 99 rfl rfl), List.forall_mem_cons.mpr ⟨hts _ (mt3 109 rfl rfl), List.forall_mem_cons.mpr ⟨hts _ (mt3 111 rfl rfl), List.forall_mem_cons.mpr ⟨hts _ (mt3 101 rfl rfl), List.forall_mem_cons.mpr ⟨hts _ (mt3 134 rfl rfl), List.forall_mem_cons.mpr ⟨hts _ (mt3 135 rfl rfl), List.forall_mem_cons.mpr ⟨hts _ (mt3 137 rfl rfl), List.forall_mem_cons.mpr ⟨hts _ (mt3 101 rfl rfl), List.forall_mem_cons.mpr ⟨hts _ (mt5 66 rfl rfl), List.forall_mem_cons.mpr ⟨hts _ (mt5 67 rfl rfl), List.forall_mem_cons.mpr ⟨hts _ (mt5 68 rfl rfl), List.forall_mem_cons.mpr ⟨hts _ (mt3 128 rfl rfl), List.forall_mem_cons.mpr ⟨va_Nw.use rfl hK.2.2.1.1, List.forall_mem_cons.mpr ⟨hts _ (mt3 128 rfl rfl), List.forall_mem_cons.mpr ⟨hts _ (mt3 129 rfl rfl), List.forall_mem_cons.mpr ⟨hts _ (mt3 130 rfl rfl), List.forall_mem_cons.mpr ⟨hts _ (mt3 131 rfl rfl), List.forall_mem_cons.mpr ⟨va_Nw.use rfl hK.2.2.1.2.1, List.forall_mem_cons.mpr ⟨hts _ (mt3 131 rfl rfl), List.forall_mem_cons.mpr ⟨hts _ (mt3 132 rfl rfl), List.forall_mem_cons.mpr ⟨hts _ (mt3 133 rfl rfl), List.forall_mem_cons.mpr ⟨hts _ (mt3 134 rfl rfl), List.forall_mem_cons.mpr ⟨va_Nw.use rfl hK.2.2.1.2.2, List.forall_mem_cons.mpr ⟨hts _ (mt5 65 rfl rfl), List.forall_mem_cons.mpr ⟨hts _ (mt5 56 rfl rfl), List.forall_mem_cons.mpr ⟨va_Nw.use rfl hK.2.1.1, List.forall_mem_cons.mpr ⟨hts _ (mt5 58 rfl rfl), List.forall_mem_cons.mpr ⟨hts _ (mt3 116 rfl rfl), List.forall_mem_cons.mpr ⟨hts _ (mt5 59 rfl rfl), List.forall_mem_cons.mpr ⟨hts _ (mt5 60 rfl rfl), List.forall_mem_cons.mpr ⟨hts _ (mt5 61 rfl rfl), List.forall_mem_cons.mpr ⟨hts _ (mt5 62 rfl rfl), List.forall_mem_cons.mpr ⟨hts _ (mt3 104 rfl rfl), List.forall_mem_cons.mpr ⟨hts _ (mt3 103 rfl rfl), List.forall_mem_cons.mpr ⟨hts _ (mt5 63 rfl rfl), fun _ h => absurd h List.not_mem_nil⟩⟩⟩⟩⟩⟩⟩⟩⟩⟩⟩⟩⟩⟩⟩⟩⟩⟩⟩⟩⟩⟩⟩⟩⟩⟩⟩⟩⟩⟩⟩⟩⟩⟩⟩⟩⟩⟩⟩⟩⟩⟩⟩⟩⟩⟩⟩⟩⟩⟩⟩⟩⟩
theorem dx_ns : decode prog_31_method_4_code 0 = .ok (.aload_n 0, 1) ∧ decode prog_31_method_4_code 1 = .ok (.aload_n 1, 1) ∧ decode prog_31_method_4_code 2 = .ok (.invokespecial 13, 3) ∧ decode prog_31_method_4_code 5 = .ok (.return_, 1) := by decide +kernel
section SpXT
variable {p : Program} {l : Launch} {e : Env} {R : Room} {s : State} {m : MethodId} {args : Array Value} {below : List Frame} {meth : Method} {c : Code} {H : Heap} {locs : List Loc} {cells slots : Nat} {Qc : Array Value → State → Outcome → State → Prop} {XC : String → State → State → Prop} {free : Addr → Prop} {ls : Array Slot} {rest : List Value}
/-- 'throw new E("text")': the heap grows by one cell -/
theorem zx_throw {cc : ByteArray} {pc : Nat} (hexec : p.tables.exec = Jvm.exec) (hb : c.code = cc) (hl : l.stackTraces = false) {own cls text : String} {names : List String} {ik is ic ix mc ms sa : Nat} {rx : ByteArray} {A : Nat → Prop}
    (x0 : decode rx 0 = .ok (.aload_n 0, 1)) (x1 : decode rx 1 = .ok (.aload_n 1, 1)) (x2 : decode rx 2 = .ok (.invokespecial ix, 3)) (x5 : decode rx 5 = .ok (.return_, 1))
    (hown : s.vm.findClass own = some m.cls) (hcls : Bundle.fit cls = true) (hnames : ∀ n ∈ names, Bundle.fit n = true)
    (hk : (Cond.classLink own ik cls).before args s = true) (hini : (Cond.initialized cls).before args s = true) (hstr : vk_R own is text sa s) (hat : ∀ w ∈ (zx_own own ic cls ix rx names).filter vx_no, w.before args s = true)
    (hgood : ∀ w ∈ Cond.classLink own ik cls :: Cond.initialized cls :: (zx_own own ic cls ix rx names).filter vx_no, vx_ot w = true)
    (hU : vx_Zq Bundle.tN "UNASSIGNED_STACK" Bundle.steD A s H) (hN : vx_Zq Bundle.tN "SUPPRESSED_SENTINEL" Bundle.listD A s H) (hsize : ls.size = c.maxLocals)
    (d0 : decode cc pc = .ok (.new ik, 3)) (d3 : decode cc (pc + 3) = .ok (.dup, 1)) (d4 : decode cc (pc + 4) = .ok (.ldc_w is, 3)) (d7 : decode cc (pc + 7) = .ok (.invokespecial ic, 3)) (d10 : decode cc (pc + 10) = .ok (.athrow, 1))
    (hout : ∀ x ∈ c.exceptionTable.toList, covers x (pc + 10) = false)
    (hRframes : names.length + 3 < R.frames) (hRlocals : (rest.map fun v => v.category).sum + (13 * (names.length + 1) + 43) ≤ R.locals) (hRcells : cells + 1 ≤ R.cells) (hRslots : slots + 6 ≤ R.slots) (hlocks : meth.locks = false)
    (hx : ∀ t : State, s.vm.Alike t.vm → t.heap.size = H.size + 1 → (∀ q : Nat, q < H.size → t.heap[q]? = H[q]?) → XC cls s t)
    (hf : ∀ z ∈ locs, free z.base) (hc : cells + 1 ≤ mc) (hs : slots + 6 ≤ ms) :
    W p l e R s m args below meth c H locs cells slots (vx_MQ below Qc XC args s mc ms free) (F0 m pc ls rest) := by
  intro T hT X
  have htr : e.platform.stackTraces = false := (show e.platform.stackTraces = l.stackTraces by rw [X.admits.platform]).trans hl
  have Y := vx_rebase X (R' := { frames := R.frames, locals := R.locals, cells := 1, slots := 6 }) (Nat.le_refl _) (Nat.le_refl _) hRcells hRslots
  obtain ⟨s', hA⟩ : ∃ z, z = (T.setVm s.vm).setFrames (.invoking m args :: below) := ⟨_, rfl⟩
  rw [← hA] at Y
  have hvm : s'.vm = s.vm := by rw [hA]; rfl
  have hhp : s'.heap = H := by rw [hA]; exact hT
  have hW0 : s.WarmedH s'.vm := by rw [hvm]; exact State.WarmedH.refl s
  have hat' : ∀ w ∈ (zx_own own ic cls ix rx names).filter vx_no, w.before args s' = true := fun w hw => vx_ot_at hW0 hvm.symm (hgood w (List.mem_cons_of_mem _ (List.mem_cons_of_mem _ hw))) (hat w hw)
  have hk' : (Cond.classLink own ik cls).before args s' = true := vx_ot_at hW0 hvm.symm (hgood _ List.mem_cons_self) hk
  have hini' : (Cond.initialized cls).before args s' = true := vx_ot_at hW0 hvm.symm (hgood _ (List.mem_cons_of_mem _ List.mem_cons_self)) hini
  have hU' : vx_Zq Bundle.tN "UNASSIGNED_STACK" Bundle.steD A s' s'.heap := by rw [hhp]; exact vx_Zq.moved hW0.alike hU
  have hN' : vx_Zq Bundle.tN "SUPPRESSED_SENTINEL" Bundle.listD A s' s'.heap := by rw [hhp]; exact vx_Zq.moved hW0.alike hN
  have h : ∀ w ∈ zx_own own ic cls ix rx names, w.before args s' = true := vx_own hat' (vx_isRefq hU'.1) (vx_isRefq hN'.1) hU'.2.word hN'.2.word
  have hown' : s'.vm.findClass own = some m.cls := by rw [hvm]; exact hown
  have hins : (Cond.instantiable cls 6).before args s' = true := h _ (by simp [zx_own])
  obtain ⟨vm₁, cX, kX, hfX, hkX, -, -, X₁, st1⟩ := Y.newCold hexec (own := own) (C := cls) (index := ik) (n := 6) hown' hk' hins hini'
    (g := F0 m pc ls rest) rfl (by rw [hb]; exact d0) (Nat.le_refl _) (Nat.le_refl _)
  generalize hT1 : (T.setVm vm₁).pushCell { cls := cX, slots := kX.instanceTypes.map defaultValue, vm := .none } = T1 at X₁ st1
  have hcat : (Value.ref T.heap.size).category = 1 := rfl
  have hcellA : T1.heap[T.heap.size]? = some (freshCell cX kX) := by rw [← hT1]; exact State.heap_pushCell_size _ _
  have d3' : decode c.code (pc + 3) = .ok (.dup, 1) := by rw [hb]; exact d3
  have d4' : decode c.code (pc + 4) = .ok (.ldc_w is, 3) := by rw [hb]; exact d4
  have hstr' : vk_R own is text sa s' := vk_R.warm hW0 hstr
  obtain ⟨U, hsteps, hrun, hend, hW, hsame, ce, hce, hcec, hcev⟩ := zx_ctor X₁ hexec htr (own := own) (cls := cls) (names := names) (ic := ic) x0 x1 x2 x5 hown' hcls hnames h (fun x hx => nomatch hx) hfX hkX hcellA (by rw [hhp, hT]; exact Nat.le_refl _) (msg := .ref sa) rfl
    (g := { method := m, pc := pc + 7, locals := ls, stack := .ref sa :: .ref T.heap.size :: .ref T.heap.size :: rest, locked := none }) rfl hsize rfl rfl (rest := rest) rfl
    (by rw [hb]; exact d7) (by rw [hb]; exact d10) hout hRframes (by simp only [List.map_cons, List.sum_cons, hcat]; omega) hlocks
  obtain ⟨f1, f2⟩ := vx_frame hsame
  rw [hhp] at f1 f2
  have hWs : s.WarmedH U.vm := State.WarmedH.trans hW0 hW
  have hcl : s.vm.findClass cls = some ce.cls := by
    rw [hcec, ← hvm]
    exact hfX
  have hz1 : H.size < U.heap.size := by
    have := (Array.getElem?_eq_some_iff.mp hce).1
    rw [hT] at this
    exact this
  have hz2 : U.heap.size ≤ H.size + 1 := by
    obtain ⟨-, q2, q3, -⟩ := hsame
    rw [hhp] at q3
    exact q3
  have hall : s.sameButNew ({ U with vm := s.vm } : State) locs mc ms := by
    subst hA
    obtain ⟨e1, e2⟩ := hsame
    rw [State.setFrames_setFrames] at e1
    have h2 : (T.setVm s.vm).sameButNew ({ U with vm := s.vm } : State) [] (0 + 1) (0 + 6) := ⟨e1, e2⟩
    have h3 := X.same.trans h2
    rw [List.append_nil] at h3
    exact h3.mono hc hs
  refine ⟨U, ?_, .threw T.heap.size, hrun, hend, Or.inr ⟨T.heap.size, rfl, cls, ce, locs, hx U hWs.alike (by omega) (fun q hq => f2 q hq (fun z hz => nomatch hz)), hce, hcev, hcl, hWs, hall, hf⟩⟩
  refine st1 _ ?_
  show Steps p.tables e below (T1.setTop { method := m, pc := pc + 3, locals := ls, stack := .ref T.heap.size :: rest, locked := none }) _
  jvm_step X₁.here [X₁.here.top, hexec, d3', Value.category]
  exact X₁.ldcStringW hexec (own := own) (text := text) (index := is) (a := sa) hown' hstr'.1 hstr'.2
    (g := { method := m, pc := pc + 4, locals := ls, stack := .ref T.heap.size :: .ref T.heap.size :: rest, locked := none }) rfl d4' _ hsteps
end SpXT
theorem xl_11 {o i y is ic : Nat} (h : xl o i = some (y, is, ic)) : o = 11 ∧ ((i = 410 ∧ y = 1 ∧ is = 412 ∧ ic = 414) ∨ (i = 403 ∧ y = 0 ∧ is = 405 ∧ ic = 407)) := by
  have hm := look_mem h
  unfold xlL at hm
  split at hm
  · refine ⟨rfl, ?_⟩
    simp only [List.mem_cons, Prod.mk.injEq, List.not_mem_nil, or_false] at hm
    omega
  · cases hm
theorem spx {E : EE} {l : Launch} (hl : l.stackTraces = false) : SpX E (KX E) l := by
  intro p e R s m args below meth c Q mm d σ0 A
  have hts := A.2.2.2.2.2.1
  have hKX : KX E s := A.2.2.2.2.2.2.2.2.2.1.2.2.2.2.2.2.2
  have hsz : (eH E).size = eB E := A.2.2.2.2.2.2.2.2.2.1.2.2.2.2.2.2.1
  have hfr := A.2.2.2.2.2.2.2.2.2.2.1
  have hlo := A.2.2.2.2.2.2.2.2.2.2.2
  refine ⟨?_, fun pc x q kk L σ ls H locs cells slots qa ce rest hh h13 hkk hok hwf h1 hcell hvm hcl k => x_catch A hh h13 hkk hok hwf h1 hcell hvm hcl k⟩
  intro idx pc y is ic L σ hd hx hc w hN9 hS9 ls H locs cells slots h1 h2 h3 h4 h5
  obtain ⟨c1, c2, c3, c4, c5, c6⟩ := hc
  obtain ⟨h11, hcase⟩ := xl_11 hx
  have hown := A.2.2.2.2.1
  rw [h11] at hown hx
  have h4 : cells + hN σ0 = hN σ := h4
  have h5 : slots + hS σ0 = hS σ := h5
  have hkp : ∀ a : Nat, a < (eH E).size → ¬ frz E a → H[a]? = (eH E)[a]? := fun a ha _ => h2.2.1 a (by rw [← hsz]; exact ha)
  have hU := (hKX.2.2.2.1.1).kept hkp
  have hU5 := (hKX.2.2.2.1.2).kept hkp
  have hfin : ∀ t : State, s.vm.Alike t.vm → t.heap.size = H.size + 1 → (∀ q : Nat, q < H.size → t.heap[q]? = H[q]?) → XcR E (.inr y, hA σ 63 6) (xNm y) s t := fun t _ z1 z2 => ⟨y, rfl, rfl, rep_new h2 (by decide) (by decide) z1 z2 ⟨fun z => by omega, fun z => by
    rw [show (63 + 64 * hN σ) % 64 = 63 by omega] at z
    exact absurd (by decide +kernel) z⟩⟩
  have hlsz : ls.size = c.maxLocals := by rw [A.2.2.1, h1.1]; exact w.2.2.2
  have hno : ∀ x ∈ c.exceptionTable.toList, covers x (pc + 10) = false := fun z hz => by rw [A.2.2.2.2.2.2.2.2.1, c2] at hz; cases hz
  rcases hcase with ⟨rfl, rfl, rfl, rfl⟩ | ⟨rfl, rfl, rfl, rfl⟩
  · have hin : ∀ w ∈ (zx_own "PraiseLift" 414 "java/lang/IllegalArgumentException" 7 prog_19_method_2_code ["java/lang/RuntimeException", "java/lang/Exception"]).filter vx_no, w ∈ wx_ia := fun w hw => by rw [← wx_ia_eq]; exact hw
    exact zx_throw (own := "PraiseLift") (cls := "java/lang/IllegalArgumentException") (ik := 410) (is := 412) (ic := 414) (ix := 7) (rx := prog_19_method_2_code) (names := ["java/lang/RuntimeException", "java/lang/Exception"]) (rest := []) A.1 A.2.1 hl dx_ia.1 dx_ia.2.1 dx_ia.2.2.1 dx_ia.2.2.2 hown (by decide +kernel) (by decide +kernel) (hts _ (mt3 83 rfl rfl)) (hts _ (mt1 17 rfl rfl)) (hKX.1 11 412 _ rfl) (fun w hw => wx_ia_ok hts hKX w (hin w hw))
      (fun w hw => by
        rcases List.mem_cons.mp hw with rfl | hw
        · rfl
        · rcases List.mem_cons.mp hw with rfl | hw
          · rfl
          · exact wx_ia_ot w (hin w hw))
      hU hU5 hlsz hd c3 c4 c5 c6 hno (by show 2 + 3 < _; omega) (by show 0 + (13 * (2 + 1) + 43) ≤ _; omega) (by omega) (by omega) A.2.2.2.2.2.2.1 hfin h3 (by omega) (by omega)
  · have hin : ∀ w ∈ (zx_own "PraiseLift" 407 "java/util/NoSuchElementException" 13 prog_31_method_4_code ["java/lang/RuntimeException", "java/lang/Exception"]).filter vx_no, w ∈ wx_ns := fun w hw => by rw [← wx_ns_eq]; exact hw
    exact zx_throw (own := "PraiseLift") (cls := "java/util/NoSuchElementException") (ik := 403) (is := 405) (ic := 407) (ix := 13) (rx := prog_31_method_4_code) (names := ["java/lang/RuntimeException", "java/lang/Exception"]) (rest := []) A.1 A.2.1 hl dx_ns.1 dx_ns.2.1 dx_ns.2.2.1 dx_ns.2.2.2 hown (by decide +kernel) (by decide +kernel) (hts _ (mt5 55 rfl rfl)) (hts _ (mt1 25 rfl rfl)) (hKX.1 11 405 _ rfl) (fun w hw => wx_ns_ok hts hKX w (hin w hw))
      (fun w hw => by
        rcases List.mem_cons.mp hw with rfl | hw
        · rfl
        · rcases List.mem_cons.mp hw with rfl | hw
          · rfl
          · exact wx_ns_ot w (hin w hw))
      hU hU5 hlsz hd c3 c4 c5 c6 hno (by show 2 + 3 < _; omega) (by show 0 + (13 * (2 + 1) + 43) ≤ _; omega) (by omega) (by omega) A.2.2.2.2.2.2.1 hfin h3 (by omega) (by omega)

