/-! which row of a method's own table takes a thing that is thrown: the rows are asked one by one, and each that is asked links its class -/
/-- from every state with tables no colder than s₀'s: the search through the rows t ends at pc -/
def hunt (e : Env) (s₀ : State) (f : JFrame) (a : Addr) (cell : Cell) (pc : Nat) (t : List ExceptionTableEntry) : Prop :=
  ∀ S : State, s₀.WarmedH S.vm → S.heap[a]? = some cell → ∃ v : Vm, s₀.WarmedH v ∧ ∀ (Q : Handler → Pre) (F : CtlPost) (b : Bool) (as : List Action), wp (findHandler.go f a t) Q F e b as S ↔ Q (.found pc) b as (S.setVm v)
section Hunt
variable {e : Env} {s₀ : State} {f : JFrame} {a : Addr} {cell : Cell} {pc : Nat} {t : List ExceptionTableEntry} {x : ExceptionTableEntry}
/-- a row for other places -/
theorem hunt_skip (h : covers x f.pc = false) (k : hunt e s₀ f a cell pc t) : hunt e s₀ f a cell pc (x :: t) := fun S hW hc =>
  (k S hW hc).imp fun _ q => ⟨q.1, fun Q F b as => (W.findHandler_go_skip h).trans (q.2 Q F b as)⟩
/-- a row for this place that names a class: it takes the thing, or the search goes on behind it -/
theorem hunt_ask (h : covers x f.pc = true) (hn : x.catchType ≠ 0) {c : ClassId} (hl : s₀.vm.ClassLinks e.platform f.method.cls x.catchType c) (ho : ∀ j, cell.vm ≠ .statics j) {kc : Class} (hk : s₀.vm.classes[cell.cls]? = some kc)
    (k : (s₀.vm.assignable cell.cls c = true ∧ x.handlerPc = pc) ∨ (s₀.vm.assignable cell.cls c = false ∧ hunt e s₀ f a cell pc t)) : hunt e s₀ f a cell pc (x :: t) := by
  intro S hW hc
  have hlS := hW.classLinks hl
  obtain ⟨y1, y2⟩ := (resolveClass_links e.toSetting hlS).op (op := VmOp.resolveClass f.method.cls x.catchType) rfl
  obtain ⟨dk, _, _, kt, y3, _, _, _, _, y4, _, y5⟩ := hl.here
  have hW2 := hW.noted y3 y5 (State.rightAt_cls hl)
  obtain ⟨u1, u2, -⟩ := hW2.alike.2.2 _ _ hk
  obtain ⟨u3, u4, -⟩ := hW2.alike.2.2 _ _ y4
  have y6 : decide (x.startPc ≤ f.pc) = true ∧ decide (f.pc < x.endPc) = true := by simpa [covers] using h
  have y7 := hW2.alike.assignable cell.cls c
  rcases k with ⟨k1, rfl⟩ | ⟨k1, k2⟩
  · refine ⟨_, hW2, fun Q F b as => ?_⟩
    rw [k1] at y7
    simp [findHandler.go, y6.1, y6.2, hn, y1, y2, hc, ho, u2, u4, y7, VmOp.dirties, VmOp.acts]
  · obtain ⟨v, k3, k4⟩ := k2 (S.setVm (S.vm.noted f.method.cls x.catchType (.cls c))) hW2 hc
    refine ⟨v, k3, fun Q F b as => Iff.trans ?_ (k4 Q F b as)⟩
    rw [k1] at y7
    simp [findHandler.go, y6.1, y6.2, hn, y1, y2, hc, ho, u2, u4, y7, VmOp.dirties, VmOp.acts]
end Hunt
section Caught
variable {p : Program} {l : Launch} {e : Env} {R : Room} {s : State} {m : MethodId} {args : Array Value} {below : List Frame} {meth : Method} {c : Code} {T : State} {locs : List Loc} {cells slots : Nat}
/-- the walk goes on where the search has ended, with the thing alone on the stack -/
theorem caught (X : Stand p l e R s m args below meth c T locs cells slots) {g : JFrame} (hg : g.method = m) {a : Addr} {cell : Cell} (hc : T.heap[a]? = some cell) {pc : Nat} (h : hunt e s g a cell pc c.exceptionTable.toList) :
    ∃ v, Stand p l e R s m args below meth c (T.setVm v) locs cells slots ∧ ∀ z, Steps p.tables e below ((T.setVm v).setTop { g with pc := pc, stack := [.ref a] }) z → Steps p.tables e below ((T.setTop g).pushFrame (.throwing a)) z := by
  subst hg
  obtain ⟨v, h1, h2⟩ := h ((T.setTop g).pushFrame (.throwing a)) X.warmed hc
  refine ⟨v, X.noted h1, fun z hz => Steps.head (X.here.throwing a).1 (X.here.throwing a).2 ?_⟩
  obtain ⟨fs, hfs⟩ := X.frames_eq
  have top : ∀ (w : Vm) (g' : JFrame), (T.setVm w).setTop g' = (T.setVm w).setFrames (.java g' :: below) := fun w g' => State.setTop_of_frames _ (show (T.setVm w).frames = _ from hfs)
  have st : (stepThrowing e ((T.setTop g).pushFrame (.throwing a)) a (.java g :: below)).Is ((((T.setTop g).pushFrame (.throwing a)).setVm v).setFrames (.java { g with pc := pc, stack := [.ref a] } :: below)) [] := by
    unfold stepThrowing searchFrame
    simp only [vmDo]
    generalize hr : Sem.go _ e false [] _ = res
    obtain ⟨as, rfl, q⟩ := Sem.eq_ok_of hr (a := Handler.found pc) (s' := ((T.setTop g).pushFrame (.throwing a)).setVm v) (acts' := []) (by simp [W.findHandler_eq (s := (T.setTop g).pushFrame (.throwing a)) (meth := meth) (code := c) X.method' X.code, h2])
    exact ⟨rfl, q⟩
  have fr : ((T.setTop g).pushFrame (.throwing a)).frames = .throwing a :: .java g :: below := by rw [frames_entered X.here.top, X.tail]
  rw [stepThread_throwing fr, st.1]
  rw [top v] at hz
  have e1 : (((T.setTop g).pushFrame (.throwing a)).setVm v).setFrames (.java { g with pc := pc, stack := [.ref a] } :: below) = (T.setVm v).setFrames (.java { g with pc := pc, stack := [.ref a] } :: below) := by
    rw [State.setTop_of_frames _ hfs, State.pushFrame]
    show (((T.setVm v).setFrames _).setFrames _).setFrames _ = _
    rw [State.setFrames_setFrames, State.setFrames_setFrames]
  rw [e1]
  exact hz
end Caught
