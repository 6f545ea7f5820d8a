/-! a step of the small machine is a walk of the real one -/
def lvl (E : EE) (L : LV) : List (Nat × Value) := (List.range L.length).filterMap (fun i => match L[i]? with
  | some (some v) => some (i, cv E v)
  | _ => none)
theorem mem_lvl {E : EE} {L : LV} {q : Nat × Value} : q ∈ lvl E L ↔ ∃ v, L[q.1]? = some (some v) ∧ q.2 = cv E v := by
  unfold lvl
  rw [List.mem_filterMap]
  constructor
  · rintro ⟨i, -, hi⟩
    split at hi
    · next v hv => cases hi; exact ⟨v, hv, rfl⟩
    · cases hi
  · rintro ⟨v, h1, h2⟩
    refine ⟨q.1, ?_, ?_⟩
    · rw [List.mem_range]
      exact (List.getElem?_eq_some_iff.mp h1).1
    · rw [h1]
      show some (q.1, cv E v) = some q
      rw [← h2]
def LH (E : EE) (ls : Array Slot) (L : LV) : Prop := lv_has ls L.length (lvl E L)
theorem lh_ld {E : EE} {ls : Array Slot} {L : LV} {i : Nat} {v : Value} (h : LH E ls L) (e : ld L i = some v) : ls[i]? = some (.val (cv E v)) := by
  unfold ld at e
  split at e
  · next w hw => cases e; exact h.2.2 (i, cv E _) (mem_lvl.mpr ⟨_, hw, rfl⟩)
  · cases e
theorem lh_sub {ls : Array Slot} {n : Nat} {l l' : List (Nat × Value)} (h : lv_has ls n l) (k : ∀ q ∈ l', q ∈ l) : lv_has ls n l' := ⟨h.1, h.2.1, fun q hq => h.2.2 q (k q hq)⟩
theorem cat_ok {E : EE} {S : List Nat} {L : LV} {σ : HP} {i j : Nat} {v : Value} (h : wfL S L σ) (hi : okS S i = true) (hj : L[j]? = some (some v)) (e : j + 1 = i) : ¬ (cv E v).category = 2 := by
  intro hc
  rw [cv_cat] at hc
  obtain ⟨h1, h2⟩ := h j v hj
  cases v with
  | long x =>
    have := h2 x rfl
    subst e
    have hi : (!S.contains j) = true := hi
    rw [this] at hi
    cases hi
  | double _ => exact h1
  | _ => cases hc
theorem cat_okD {E : EE} {S : List Nat} {L : LV} {σ : HP} {i j : Nat} {v : Value} (h : wfL S L σ) (hi : okD S L i = true) (hj : L[j]? = some (some v)) (e : j + 1 = i) : ¬ (cv E v).category = 2 := by
  rcases Bool.or_eq_true_iff.mp hi with h1 | h1
  · exact cat_ok h h1 hj e
  · subst e
    intro hc
    rw [cv_cat] at hc
    simp only [hj] at h1
    cases v with
    | long x => cases h1
    | double _ => exact (h j _ hj).1
    | _ => cases hc
theorem st_sub1 {E : EE} {S : List Nat} {L : LV} {σ : HP} {i : Nat} {w : Value} (h : wfL S L σ) (hi : okD S L i = true) :
    ∀ q ∈ lvl E (L.set i (some w)), q ∈ (i, cv E w) :: (lvl E L).filter (fun q => !(q.1 == i) && !(q.1 + 1 == i && q.2.category == 2)) := by
  intro q hq
  obtain ⟨v, h1, h2⟩ := mem_lvl.mp hq
  by_cases e : q.1 = i
  · rw [e, List.getElem?_set] at h1
    simp only [if_true] at h1
    split at h1
    · cases h1
      refine List.mem_cons.mpr (Or.inl ?_)
      rw [← e, ← h2]
    · cases h1
  · rw [List.getElem?_set_ne (Ne.symm e)] at h1
    refine List.mem_cons_of_mem _ (List.mem_filter.mpr ⟨mem_lvl.mpr ⟨v, h1, h2⟩, ?_⟩)
    have e1 : (q.1 == i) = false := beq_eq_false_iff_ne.mpr e
    have e2 : (q.1 + 1 == i && q.2.category == 2) = false := by
      by_cases e3 : q.1 + 1 = i
      · have hc := cat_okD (E := E) h hi h1 e3
        rw [h2, beq_eq_false_iff_ne.mpr hc, Bool.and_false]
      · rw [beq_eq_false_iff_ne.mpr e3, Bool.false_and]
    rw [e1, e2]
    rfl
theorem st_sub0 {E : EE} {S : List Nat} {L : LV} {σ : HP} {i : Nat} {x : Nat × Value} (h : wfL S L σ) (hi : okS S i = true) :
    ∀ q ∈ lvl E (L.set i none), q ∈ x :: (lvl E L).filter (fun q => !(q.1 == i) && !(q.1 + 1 == i && q.2.category == 2)) := by
  intro q hq
  obtain ⟨v, h1, h2⟩ := mem_lvl.mp hq
  by_cases e : q.1 = i
  · rw [e, List.getElem?_set] at h1
    simp only [if_true] at h1
    split at h1
    · cases h1
    · cases h1
  · rw [List.getElem?_set_ne (Ne.symm e)] at h1
    refine List.mem_cons_of_mem _ (List.mem_filter.mpr ⟨mem_lvl.mpr ⟨v, h1, h2⟩, ?_⟩)
    have e1 : (q.1 == i) = false := beq_eq_false_iff_ne.mpr e
    have e2 : (q.1 + 1 == i && q.2.category == 2) = false := by
      by_cases e3 : q.1 + 1 = i
      · have hc := cat_ok (E := E) h hi h1 e3
        rw [h2, beq_eq_false_iff_ne.mpr hc, Bool.and_false]
      · rw [beq_eq_false_iff_ne.mpr e3, Bool.false_and]
    rw [e1, e2]
    rfl
theorem st_sub2 {E : EE} {S : List Nat} {L : LV} {σ : HP} {i : Nat} {x : Int64} (h : wfL S L σ) (hi : okD S L i = true) :
    ∀ q ∈ lvl E ((L.set i (some (.long x))).set (i + 1) none), q ∈ (i, .long x) :: (lvl E L).filter (fun q => !(q.1 == i) && (!(q.1 == i + 1) && !(q.1 + 1 == i && q.2.category == 2))) := by
  intro q hq
  obtain ⟨v, h1, h2⟩ := mem_lvl.mp hq
  by_cases e9 : q.1 = i + 1
  · rw [e9, List.getElem?_set] at h1
    simp only [if_true] at h1
    split at h1
    · cases h1
    · cases h1
  · rw [List.getElem?_set_ne (Ne.symm e9)] at h1
    by_cases e : q.1 = i
    · rw [e, List.getElem?_set] at h1
      simp only [if_true] at h1
      split at h1
      · cases h1
        refine List.mem_cons.mpr (Or.inl ?_)
        show q = (i, cv E (.long x))
        rw [← e, ← h2]
      · cases h1
    · rw [List.getElem?_set_ne (Ne.symm e)] at h1
      refine List.mem_cons_of_mem _ (List.mem_filter.mpr ⟨mem_lvl.mpr ⟨v, h1, h2⟩, ?_⟩)
      have e1 : (q.1 == i) = false := beq_eq_false_iff_ne.mpr e
      have e4 : (q.1 == i + 1) = false := beq_eq_false_iff_ne.mpr e9
      have e2 : (q.1 + 1 == i && q.2.category == 2) = false := by
        by_cases e3 : q.1 + 1 = i
        · have hc := cat_okD (E := E) h hi h1 e3
          rw [h2, beq_eq_false_iff_ne.mpr hc, Bool.and_false]
        · rw [beq_eq_false_iff_ne.mpr e3, Bool.false_and]
      rw [e1, e2, e4]
      rfl
/-- what the tables say at a state, beside their good words; K: of the texts and of throwing -/
def Kn (E : EE) (K : State → Prop) (U : State) : Prop := va_K (eD E) clz (tyz E) U ∧ (∀ w ∈ nw, va_Nw w U) ∧ va_AO "PraiseLift$Days" U ∧ va_AO "PraiseLift$Image" U ∧ va_X (eS E) (eL E) (eX E) U (eH E) ∧ eS E < eB E ∧ (eH E).size = eB E ∧ K U
def Kw (K : State → Prop) : Prop := ∀ s U : State, s.WarmedH U.vm → K s → K U
theorem kn_moved {E : EE} {K : State → Prop} (hK : Kw K) {s U : State} (hW : s.WarmedH U.vm) (h : Kn E K s) : Kn E K U := by
  obtain ⟨h1, h2, h3, h4, h5, h6, h7, h8⟩ := h
  refine ⟨va_K.moved hW.alike h1, fun w hw => ?_, va_AO.moved hW.alike h3, va_AO.moved hW.alike h4, va_X.moved hW.alike h5, h6, h7, hK s U hW h8⟩
  have hn := (List.mem_filter.mp hw).2
  have hz := h2 w hw
  cases w with
  | methodLinkNest a b c d => exact va_Nw.warmM hW hz
  | _ => cases hn
theorem kn_calling {E : EE} {K : State → Prop} (hK : Kw K) {U : State} {g : JFrame} {mk : MethodId} {a : Array Value} (h : Kn E K U) : Kn E K (U.calling g mk a) := kn_moved (s := U) hK (State.WarmedH.refl U) h
section Snd
variable {p : Program} {l : Launch} {e : Env} {R : Room} {s : State} {m : MethodId} {args : Array Value} {below : List Frame} {meth : Method} {c : Code} {Q : State → Prop}
variable {E : EE} {K : State → Prop} {mm : MM} {d : Nat} {σ0 : HP}
/-- an activation of the method mm -/
def Act (E : EE) (K : State → Prop) (p : Program) (R : Room) (s : State) (m : MethodId) (args : Array Value) (meth : Method) (c : Code) (mm : MM) (d : Nat) : Prop :=
  p.tables.exec = Jvm.exec ∧ c.code = zb mm ∧ c.maxLocals = zl mm ∧ meth.sig.returnType = zr mm ∧ s.vm.findClass (zC (zo mm)) = some m.cls ∧ (∀ w ∈ gt, w.before args s = true) ∧ meth.locks = false ∧
  (zi mm = true → meth.name = "<init>") ∧ c.exceptionTable.toList = tableOf (zh mm) ∧ Kn E K s ∧ R.frames = d + 1 ∧ 40 * (d + 1) ≤ R.locals
def WK (E : EE) (p : Program) (l : Launch) (e : Env) (R : Room) (s : State) (m : MethodId) (args : Array Value) (below : List Frame) (meth : Method) (c : Code) (Q : State → Prop) (σ0 : HP) (x : Cfg) : Prop :=
  ∀ (ls : Array Slot) (H : Heap) (locs : List Loc) (cells slots : Nat), LH E ls x.2.1 → Rep E x.2.2.2 H → (∀ q ∈ locs, eB E ≤ q.base) → cells + hN σ0 = hN x.2.2.2 → slots + hS σ0 = hS x.2.2.2 → W p l e R s m args below meth c H locs cells slots Q (F0 m x.1 ls (x.2.2.1.map (cv E)))
/-- the room that the end leaves -/
def Rm (R : Room) (σ0 σ : HP) : Prop := hN σ ≤ hN σ0 + R.cells ∧ hS σ ≤ hS σ0 + R.slots

theorem sn_iconst (A : Act E K p R s m args meth c mm d) {i : Int} {pc : Nat} {L : LV} {st : List Value} {σ : HP} {x : Cfg} (hd : decode (zb mm) pc = .ok (.iconst i, 1)) (w : WF mm (pc, L, st, σ)) (h : go (pc + 1) L (.int (Int32.ofInt i) :: st) σ = some (.inr x)) (hr : Rm R σ0 x.2.2.2) (k : WK E p l e R s m args below meth c Q σ0 x) : WK E p l e R s m args below meth c Q σ0 (pc, L, st, σ) := by
  cases h
  intro ls H locs cells slots h1 h2 h3 h4 h5
  exact lv_iconst A.1 A.2.1 hd rfl (k ls H locs cells slots h1 h2 h3 h4 h5)
theorem sn_bipush (A : Act E K p R s m args meth c mm d) {i : Int} {pc : Nat} {L : LV} {st : List Value} {σ : HP} {x : Cfg} (hd : decode (zb mm) pc = .ok (.bipush i, 2)) (w : WF mm (pc, L, st, σ)) (h : go (pc + 2) L (.int ((Int8.ofInt i).toInt32) :: st) σ = some (.inr x)) (hr : Rm R σ0 x.2.2.2) (k : WK E p l e R s m args below meth c Q σ0 x) : WK E p l e R s m args below meth c Q σ0 (pc, L, st, σ) := by
  cases h
  intro ls H locs cells slots h1 h2 h3 h4 h5
  exact lv_bipush A.1 A.2.1 hd rfl (k ls H locs cells slots h1 h2 h3 h4 h5)
theorem sn_sipush (A : Act E K p R s m args meth c mm d) {i : Int} {pc : Nat} {L : LV} {st : List Value} {σ : HP} {x : Cfg} (hd : decode (zb mm) pc = .ok (.sipush i, 3)) (w : WF mm (pc, L, st, σ)) (h : go (pc + 3) L (.int ((Int16.ofInt i).toInt32) :: st) σ = some (.inr x)) (hr : Rm R σ0 x.2.2.2) (k : WK E p l e R s m args below meth c Q σ0 x) : WK E p l e R s m args below meth c Q σ0 (pc, L, st, σ) := by
  cases h
  intro ls H locs cells slots h1 h2 h3 h4 h5
  exact lv_sipush A.1 A.2.1 hd rfl (k ls H locs cells slots h1 h2 h3 h4 h5)
theorem sn_lconst (A : Act E K p R s m args meth c mm d) {i : Fin 2} {pc : Nat} {L : LV} {st : List Value} {σ : HP} {x : Cfg} (hd : decode (zb mm) pc = .ok (.lconst i, 1)) (w : WF mm (pc, L, st, σ)) (h : go (pc + 1) L (.long (Int64.ofNat (i : Nat)) :: st) σ = some (.inr x)) (hr : Rm R σ0 x.2.2.2) (k : WK E p l e R s m args below meth c Q σ0 x) : WK E p l e R s m args below meth c Q σ0 (pc, L, st, σ) := by
  cases h
  intro ls H locs cells slots h1 h2 h3 h4 h5
  exact lv_lconst A.1 A.2.1 hd rfl (k ls H locs cells slots h1 h2 h3 h4 h5)
theorem sn_iload (A : Act E K p R s m args meth c mm d) {i : Nat} {pc : Nat} {L : LV} {st : List Value} {σ : HP} {x : Cfg} (hd : decode (zb mm) pc = .ok (.iload i, 2)) (w : WF mm (pc, L, st, σ)) (h : zLoadI i 2 pc L st σ = some (.inr x)) (hr : Rm R σ0 x.2.2.2) (k : WK E p l e R s m args below meth c Q σ0 x) : WK E p l e R s m args below meth c Q σ0 (pc, L, st, σ) := by
  unfold zLoadI at h
  split at h
  · next v he =>
    cases h
    intro ls H locs cells slots h1 h2 h3 h4 h5
    exact lv_iload A.1 A.2.1 hd (lh_ld h1 he) (k ls H locs cells slots h1 h2 h3 h4 h5)
  · cases h
theorem sn_iload_n (A : Act E K p R s m args meth c mm d) {i : Fin 4} {pc : Nat} {L : LV} {st : List Value} {σ : HP} {x : Cfg} (hd : decode (zb mm) pc = .ok (.iload_n i, 1)) (w : WF mm (pc, L, st, σ)) (h : zLoadI i 1 pc L st σ = some (.inr x)) (hr : Rm R σ0 x.2.2.2) (k : WK E p l e R s m args below meth c Q σ0 x) : WK E p l e R s m args below meth c Q σ0 (pc, L, st, σ) := by
  unfold zLoadI at h
  split at h
  · next v he =>
    cases h
    intro ls H locs cells slots h1 h2 h3 h4 h5
    exact lv_iload_n A.1 A.2.1 hd rfl (lh_ld h1 he) (k ls H locs cells slots h1 h2 h3 h4 h5)
  · cases h
theorem sn_lload (A : Act E K p R s m args meth c mm d) {i : Nat} {pc : Nat} {L : LV} {st : List Value} {σ : HP} {x : Cfg} (hd : decode (zb mm) pc = .ok (.lload i, 2)) (w : WF mm (pc, L, st, σ)) (h : zLoadL i 2 pc L st σ = some (.inr x)) (hr : Rm R σ0 x.2.2.2) (k : WK E p l e R s m args below meth c Q σ0 x) : WK E p l e R s m args below meth c Q σ0 (pc, L, st, σ) := by
  unfold zLoadL at h
  split at h
  · next v he =>
    cases h
    intro ls H locs cells slots h1 h2 h3 h4 h5
    exact lv_lload A.1 A.2.1 hd (lh_ld h1 he) (k ls H locs cells slots h1 h2 h3 h4 h5)
  · cases h
theorem sn_lload_n (A : Act E K p R s m args meth c mm d) {i : Fin 4} {pc : Nat} {L : LV} {st : List Value} {σ : HP} {x : Cfg} (hd : decode (zb mm) pc = .ok (.lload_n i, 1)) (w : WF mm (pc, L, st, σ)) (h : zLoadL i 1 pc L st σ = some (.inr x)) (hr : Rm R σ0 x.2.2.2) (k : WK E p l e R s m args below meth c Q σ0 x) : WK E p l e R s m args below meth c Q σ0 (pc, L, st, σ) := by
  unfold zLoadL at h
  split at h
  · next v he =>
    cases h
    intro ls H locs cells slots h1 h2 h3 h4 h5
    exact lv_lload_n A.1 A.2.1 hd rfl (lh_ld h1 he) (k ls H locs cells slots h1 h2 h3 h4 h5)
  · cases h
theorem sn_aload (A : Act E K p R s m args meth c mm d) {i : Nat} {pc : Nat} {L : LV} {st : List Value} {σ : HP} {x : Cfg} (hd : decode (zb mm) pc = .ok (.aload i, 2)) (w : WF mm (pc, L, st, σ)) (h : zLoadA i 2 pc L st σ = some (.inr x)) (hr : Rm R σ0 x.2.2.2) (k : WK E p l e R s m args below meth c Q σ0 x) : WK E p l e R s m args below meth c Q σ0 (pc, L, st, σ) := by
  unfold zLoadA at h
  split at h
  · next v he =>
    cases h
    intro ls H locs cells slots h1 h2 h3 h4 h5
    exact lv_aload A.1 A.2.1 hd (lh_ld h1 he) (k ls H locs cells slots h1 h2 h3 h4 h5)
  · next he =>
    cases h
    intro ls H locs cells slots h1 h2 h3 h4 h5
    exact lv_aloadN A.1 A.2.1 hd (lh_ld h1 he) (k ls H locs cells slots h1 h2 h3 h4 h5)
  · cases h
theorem sn_aload_n (A : Act E K p R s m args meth c mm d) {i : Fin 4} {pc : Nat} {L : LV} {st : List Value} {σ : HP} {x : Cfg} (hd : decode (zb mm) pc = .ok (.aload_n i, 1)) (w : WF mm (pc, L, st, σ)) (h : zLoadA i 1 pc L st σ = some (.inr x)) (hr : Rm R σ0 x.2.2.2) (k : WK E p l e R s m args below meth c Q σ0 x) : WK E p l e R s m args below meth c Q σ0 (pc, L, st, σ) := by
  unfold zLoadA at h
  split at h
  · next v he =>
    cases h
    intro ls H locs cells slots h1 h2 h3 h4 h5
    exact lv_aload_n A.1 A.2.1 hd rfl (lh_ld h1 he) (k ls H locs cells slots h1 h2 h3 h4 h5)
  · next he =>
    cases h
    intro ls H locs cells slots h1 h2 h3 h4 h5
    exact lv_aload_nN A.1 A.2.1 hd rfl (lh_ld h1 he) (k ls H locs cells slots h1 h2 h3 h4 h5)
  · cases h
theorem sn_istore (A : Act E K p R s m args meth c mm d) {i : Nat} {pc : Nat} {L : LV} {st : List Value} {σ : HP} {x : Cfg} (hd : decode (zb mm) pc = .ok (.istore i, 2)) (w : WF mm (pc, L, st, σ)) (h : zStoreI (zs mm) i 2 pc L st σ = some (.inr x)) (hr : Rm R σ0 x.2.2.2) (k : WK E p l e R s m args below meth c Q σ0 x) : WK E p l e R s m args below meth c Q σ0 (pc, L, st, σ) := by
  unfold zStoreI at h
  split at h
  · split at h
    · next hc =>
      cases h
      intro ls H locs cells slots h1 h2 h3 h4 h5
      exact lv_istore A.1 A.2.1 hd h1 hc.1 rfl (fun ls' hl => k ls' H locs cells slots (by unfold LH; simp only [List.length_set]; exact lh_sub hl (st_sub1 w.2.1 hc.2)) h2 h3 h4 h5)
    · cases h
  · cases h
theorem sn_astore (A : Act E K p R s m args meth c mm d) {i : Nat} {pc : Nat} {L : LV} {st : List Value} {σ : HP} {x : Cfg} (hd : decode (zb mm) pc = .ok (.astore i, 2)) (w : WF mm (pc, L, st, σ)) (h : zStoreA (zs mm) i 2 pc L st σ = some (.inr x)) (hr : Rm R σ0 x.2.2.2) (k : WK E p l e R s m args below meth c Q σ0 x) : WK E p l e R s m args below meth c Q σ0 (pc, L, st, σ) := by
  unfold zStoreA at h
  split at h
  · split at h
    · next hc =>
      cases h
      intro ls H locs cells slots h1 h2 h3 h4 h5
      exact lv_astore A.1 A.2.1 hd h1 hc.1 rfl (fun ls' hl => k ls' H locs cells slots (by unfold LH; simp only [List.length_set]; exact lh_sub hl (st_sub1 w.2.1 hc.2)) h2 h3 h4 h5)
    · cases h
  · split at h
    · next hc =>
      cases h
      intro ls H locs cells slots h1 h2 h3 h4 h5
      exact lv_astoreN A.1 A.2.1 hd h1 hc.1 rfl (fun ls' hl => k ls' H locs cells slots (by unfold LH; simp only [List.length_set]; exact lh_sub hl (st_sub1 (w := .null) w.2.1 hc.2)) h2 h3 h4 h5)
    · cases h
  · cases h
theorem sn_lstore (A : Act E K p R s m args meth c mm d) {i : Nat} {pc : Nat} {L : LV} {st : List Value} {σ : HP} {x : Cfg} (hd : decode (zb mm) pc = .ok (.lstore i, 2)) (w : WF mm (pc, L, st, σ)) (h : zStoreL (zs mm) i 2 pc L st σ = some (.inr x)) (hr : Rm R σ0 x.2.2.2) (k : WK E p l e R s m args below meth c Q σ0 x) : WK E p l e R s m args below meth c Q σ0 (pc, L, st, σ) := by
  unfold zStoreL at h
  split at h
  · split at h
    · next hc =>
      cases h
      intro ls H locs cells slots h1 h2 h3 h4 h5
      exact lv_lstore A.1 A.2.1 hd h1 hc.1 rfl (fun ls' hl => k ls' H locs cells slots (by unfold LH; simp only [List.length_set]; exact lh_sub hl (st_sub2 w.2.1 hc.2.1)) h2 h3 h4 h5)
    · cases h
  · cases h
theorem sn_istore_n (A : Act E K p R s m args meth c mm d) {i : Fin 4} {pc : Nat} {L : LV} {st : List Value} {σ : HP} {x : Cfg} (hd : decode (zb mm) pc = .ok (.istore_n i, 1)) (w : WF mm (pc, L, st, σ)) (h : zStoreI (zs mm) i 1 pc L st σ = some (.inr x)) (hr : Rm R σ0 x.2.2.2) (k : WK E p l e R s m args below meth c Q σ0 x) : WK E p l e R s m args below meth c Q σ0 (pc, L, st, σ) := by
  unfold zStoreI at h
  split at h
  · split at h
    · next hc =>
      cases h
      intro ls H locs cells slots h1 h2 h3 h4 h5
      exact lv_istore_n A.1 A.2.1 hd rfl h1 hc.1 rfl (fun ls' hl => k ls' H locs cells slots (by unfold LH; simp only [List.length_set]; exact lh_sub hl (st_sub1 w.2.1 hc.2)) h2 h3 h4 h5)
    · cases h
  · cases h
theorem sn_astore_n (A : Act E K p R s m args meth c mm d) {i : Fin 4} {pc : Nat} {L : LV} {st : List Value} {σ : HP} {x : Cfg} (hd : decode (zb mm) pc = .ok (.astore_n i, 1)) (w : WF mm (pc, L, st, σ)) (h : zStoreA (zs mm) i 1 pc L st σ = some (.inr x)) (hr : Rm R σ0 x.2.2.2) (k : WK E p l e R s m args below meth c Q σ0 x) : WK E p l e R s m args below meth c Q σ0 (pc, L, st, σ) := by
  unfold zStoreA at h
  split at h
  · split at h
    · next hc =>
      cases h
      intro ls H locs cells slots h1 h2 h3 h4 h5
      exact lv_astore_n A.1 A.2.1 hd rfl h1 hc.1 rfl (fun ls' hl => k ls' H locs cells slots (by unfold LH; simp only [List.length_set]; exact lh_sub hl (st_sub1 w.2.1 hc.2)) h2 h3 h4 h5)
    · cases h
  · split at h
    · next hc =>
      cases h
      intro ls H locs cells slots h1 h2 h3 h4 h5
      exact lv_astore_nN A.1 A.2.1 hd rfl h1 hc.1 rfl (fun ls' hl => k ls' H locs cells slots (by unfold LH; simp only [List.length_set]; exact lh_sub hl (st_sub1 (w := .null) w.2.1 hc.2)) h2 h3 h4 h5)
    · cases h
  · cases h
theorem sn_lstore_n (A : Act E K p R s m args meth c mm d) {i : Fin 4} {pc : Nat} {L : LV} {st : List Value} {σ : HP} {x : Cfg} (hd : decode (zb mm) pc = .ok (.lstore_n i, 1)) (w : WF mm (pc, L, st, σ)) (h : zStoreL (zs mm) i 1 pc L st σ = some (.inr x)) (hr : Rm R σ0 x.2.2.2) (k : WK E p l e R s m args below meth c Q σ0 x) : WK E p l e R s m args below meth c Q σ0 (pc, L, st, σ) := by
  unfold zStoreL at h
  split at h
  · split at h
    · next hc =>
      cases h
      intro ls H locs cells slots h1 h2 h3 h4 h5
      exact lv_lstore_n A.1 A.2.1 hd rfl h1 hc.1 rfl (fun ls' hl => k ls' H locs cells slots (by unfold LH; simp only [List.length_set]; exact lh_sub hl (st_sub2 w.2.1 hc.2.1)) h2 h3 h4 h5)
    · cases h
  · cases h
theorem sn_iinc (A : Act E K p R s m args meth c mm d) {i : Nat} {n : Int} {pc : Nat} {L : LV} {st : List Value} {σ : HP} {x : Cfg} (hd : decode (zb mm) pc = .ok (.iinc i n, 3)) (w : WF mm (pc, L, st, σ)) (h : zInc (zs mm) i n pc L st σ = some (.inr x)) (hr : Rm R σ0 x.2.2.2) (k : WK E p l e R s m args below meth c Q σ0 x) : WK E p l e R s m args below meth c Q σ0 (pc, L, st, σ) := by
  unfold zInc at h
  split at h
  · next v he =>
    split at h
    · next hc =>
      cases h
      intro ls H locs cells slots h1 h2 h3 h4 h5
      have hm : (i, Value.int v) ∈ lvl E L := by
        unfold ld at he
        split at he
        · next u hu => cases he; exact mem_lvl.mpr ⟨_, hu, rfl⟩
        · cases he
      obtain ⟨kk, hkk⟩ := List.getElem?_of_mem hm
      have hi : i < L.length := by
        obtain ⟨u, hu, -⟩ := mem_lvl.mp hm
        exact (List.getElem?_eq_some_iff.mp hu).1
      exact lv_iinc A.1 A.2.1 hd h1 hkk rfl hi rfl (fun ls' hl => k ls' H locs cells slots (by unfold LH; simp only [List.length_set]; exact lh_sub hl (st_sub1 w.2.1 hc)) h2 h3 h4 h5)
    · cases h
  · cases h
theorem sn_iadd (A : Act E K p R s m args meth c mm d) {pc : Nat} {L : LV} {st : List Value} {σ : HP} {x : Cfg} (hd : decode (zb mm) pc = .ok (.iadd, 1)) (w : WF mm (pc, L, st, σ)) (h : zBin (fun x y => x + y) pc L st σ = some (.inr x)) (hr : Rm R σ0 x.2.2.2) (k : WK E p l e R s m args below meth c Q σ0 x) : WK E p l e R s m args below meth c Q σ0 (pc, L, st, σ) := by
  unfold zBin at h
  split at h
  · cases h
    intro ls H locs cells slots h1 h2 h3 h4 h5
    exact lv_iadd A.1 A.2.1 hd (k ls H locs cells slots h1 h2 h3 h4 h5)
  · cases h
theorem sn_isub (A : Act E K p R s m args meth c mm d) {pc : Nat} {L : LV} {st : List Value} {σ : HP} {x : Cfg} (hd : decode (zb mm) pc = .ok (.isub, 1)) (w : WF mm (pc, L, st, σ)) (h : zBin (fun x y => x - y) pc L st σ = some (.inr x)) (hr : Rm R σ0 x.2.2.2) (k : WK E p l e R s m args below meth c Q σ0 x) : WK E p l e R s m args below meth c Q σ0 (pc, L, st, σ) := by
  unfold zBin at h
  split at h
  · cases h
    intro ls H locs cells slots h1 h2 h3 h4 h5
    exact lv_isub A.1 A.2.1 hd (k ls H locs cells slots h1 h2 h3 h4 h5)
  · cases h
theorem sn_imul (A : Act E K p R s m args meth c mm d) {pc : Nat} {L : LV} {st : List Value} {σ : HP} {x : Cfg} (hd : decode (zb mm) pc = .ok (.imul, 1)) (w : WF mm (pc, L, st, σ)) (h : zBin (fun x y => x * y) pc L st σ = some (.inr x)) (hr : Rm R σ0 x.2.2.2) (k : WK E p l e R s m args below meth c Q σ0 x) : WK E p l e R s m args below meth c Q σ0 (pc, L, st, σ) := by
  unfold zBin at h
  split at h
  · cases h
    intro ls H locs cells slots h1 h2 h3 h4 h5
    exact lv_imul A.1 A.2.1 hd (k ls H locs cells slots h1 h2 h3 h4 h5)
  · cases h
theorem sn_iand (A : Act E K p R s m args meth c mm d) {pc : Nat} {L : LV} {st : List Value} {σ : HP} {x : Cfg} (hd : decode (zb mm) pc = .ok (.iand, 1)) (w : WF mm (pc, L, st, σ)) (h : zBin (fun x y => x &&& y) pc L st σ = some (.inr x)) (hr : Rm R σ0 x.2.2.2) (k : WK E p l e R s m args below meth c Q σ0 x) : WK E p l e R s m args below meth c Q σ0 (pc, L, st, σ) := by
  unfold zBin at h
  split at h
  · cases h
    intro ls H locs cells slots h1 h2 h3 h4 h5
    exact lv_iand A.1 A.2.1 hd (k ls H locs cells slots h1 h2 h3 h4 h5)
  · cases h
theorem sn_ior (A : Act E K p R s m args meth c mm d) {pc : Nat} {L : LV} {st : List Value} {σ : HP} {x : Cfg} (hd : decode (zb mm) pc = .ok (.ior, 1)) (w : WF mm (pc, L, st, σ)) (h : zBin (fun x y => x ||| y) pc L st σ = some (.inr x)) (hr : Rm R σ0 x.2.2.2) (k : WK E p l e R s m args below meth c Q σ0 x) : WK E p l e R s m args below meth c Q σ0 (pc, L, st, σ) := by
  unfold zBin at h
  split at h
  · cases h
    intro ls H locs cells slots h1 h2 h3 h4 h5
    exact lv_ior A.1 A.2.1 hd (k ls H locs cells slots h1 h2 h3 h4 h5)
  · cases h
theorem sn_ixor (A : Act E K p R s m args meth c mm d) {pc : Nat} {L : LV} {st : List Value} {σ : HP} {x : Cfg} (hd : decode (zb mm) pc = .ok (.ixor, 1)) (w : WF mm (pc, L, st, σ)) (h : zBin (fun x y => x ^^^ y) pc L st σ = some (.inr x)) (hr : Rm R σ0 x.2.2.2) (k : WK E p l e R s m args below meth c Q σ0 x) : WK E p l e R s m args below meth c Q σ0 (pc, L, st, σ) := by
  unfold zBin at h
  split at h
  · cases h
    intro ls H locs cells slots h1 h2 h3 h4 h5
    exact lv_ixor A.1 A.2.1 hd (k ls H locs cells slots h1 h2 h3 h4 h5)
  · cases h
theorem sn_ishl (A : Act E K p R s m args meth c mm d) {pc : Nat} {L : LV} {st : List Value} {σ : HP} {x : Cfg} (hd : decode (zb mm) pc = .ok (.ishl, 1)) (w : WF mm (pc, L, st, σ)) (h : zBin (fun x y => x <<< (y &&& 31)) pc L st σ = some (.inr x)) (hr : Rm R σ0 x.2.2.2) (k : WK E p l e R s m args below meth c Q σ0 x) : WK E p l e R s m args below meth c Q σ0 (pc, L, st, σ) := by
  unfold zBin at h
  split at h
  · cases h
    intro ls H locs cells slots h1 h2 h3 h4 h5
    exact lv_ishl A.1 A.2.1 hd (k ls H locs cells slots h1 h2 h3 h4 h5)
  · cases h
theorem sn_ishr (A : Act E K p R s m args meth c mm d) {pc : Nat} {L : LV} {st : List Value} {σ : HP} {x : Cfg} (hd : decode (zb mm) pc = .ok (.ishr, 1)) (w : WF mm (pc, L, st, σ)) (h : zBin (fun x y => x >>> (y &&& 31)) pc L st σ = some (.inr x)) (hr : Rm R σ0 x.2.2.2) (k : WK E p l e R s m args below meth c Q σ0 x) : WK E p l e R s m args below meth c Q σ0 (pc, L, st, σ) := by
  unfold zBin at h
  split at h
  · cases h
    intro ls H locs cells slots h1 h2 h3 h4 h5
    exact lv_ishr A.1 A.2.1 hd (k ls H locs cells slots h1 h2 h3 h4 h5)
  · cases h
theorem sn_iushr (A : Act E K p R s m args meth c mm d) {pc : Nat} {L : LV} {st : List Value} {σ : HP} {x : Cfg} (hd : decode (zb mm) pc = .ok (.iushr, 1)) (w : WF mm (pc, L, st, σ)) (h : zBin (fun x y => (x.toUInt32 >>> (y.toUInt32 &&& Int32.toUInt32 31)).toInt32) pc L st σ = some (.inr x)) (hr : Rm R σ0 x.2.2.2) (k : WK E p l e R s m args below meth c Q σ0 x) : WK E p l e R s m args below meth c Q σ0 (pc, L, st, σ) := by
  unfold zBin at h
  split at h
  · cases h
    intro ls H locs cells slots h1 h2 h3 h4 h5
    exact lv_iushr A.1 A.2.1 hd rfl (k ls H locs cells slots h1 h2 h3 h4 h5)
  · cases h
theorem sn_idiv (A : Act E K p R s m args meth c mm d) {pc : Nat} {L : LV} {st : List Value} {σ : HP} {x : Cfg} (hd : decode (zb mm) pc = .ok (.idiv, 1)) (w : WF mm (pc, L, st, σ)) (h : zDiv (fun x y => x / y) pc L st σ = some (.inr x)) (hr : Rm R σ0 x.2.2.2) (k : WK E p l e R s m args below meth c Q σ0 x) : WK E p l e R s m args below meth c Q σ0 (pc, L, st, σ) := by
  unfold zDiv at h
  split at h
  · split at h
    · cases h
    · next hc =>
      cases h
      intro ls H locs cells slots h1 h2 h3 h4 h5
      exact lv_idiv A.1 A.2.1 hd hc (k ls H locs cells slots h1 h2 h3 h4 h5)
  · cases h
theorem sn_irem (A : Act E K p R s m args meth c mm d) {pc : Nat} {L : LV} {st : List Value} {σ : HP} {x : Cfg} (hd : decode (zb mm) pc = .ok (.irem, 1)) (w : WF mm (pc, L, st, σ)) (h : zDiv (fun x y => x - x / y * y) pc L st σ = some (.inr x)) (hr : Rm R σ0 x.2.2.2) (k : WK E p l e R s m args below meth c Q σ0 x) : WK E p l e R s m args below meth c Q σ0 (pc, L, st, σ) := by
  unfold zDiv at h
  split at h
  · split at h
    · cases h
    · next hc =>
      cases h
      intro ls H locs cells slots h1 h2 h3 h4 h5
      exact lv_irem A.1 A.2.1 hd hc (k ls H locs cells slots h1 h2 h3 h4 h5)
  · cases h
theorem sn_ineg (A : Act E K p R s m args meth c mm d) {pc : Nat} {L : LV} {st : List Value} {σ : HP} {x : Cfg} (hd : decode (zb mm) pc = .ok (.ineg, 1)) (w : WF mm (pc, L, st, σ)) (h : zUn (fun x => -x) pc L st σ = some (.inr x)) (hr : Rm R σ0 x.2.2.2) (k : WK E p l e R s m args below meth c Q σ0 x) : WK E p l e R s m args below meth c Q σ0 (pc, L, st, σ) := by
  unfold zUn at h
  split at h
  · cases h
    intro ls H locs cells slots h1 h2 h3 h4 h5
    exact lv_ineg A.1 A.2.1 hd (k ls H locs cells slots h1 h2 h3 h4 h5)
  · cases h
theorem sn_i2b (A : Act E K p R s m args meth c mm d) {pc : Nat} {L : LV} {st : List Value} {σ : HP} {x : Cfg} (hd : decode (zb mm) pc = .ok (.i2b, 1)) (w : WF mm (pc, L, st, σ)) (h : zUn (fun x => x.toInt8.toInt32) pc L st σ = some (.inr x)) (hr : Rm R σ0 x.2.2.2) (k : WK E p l e R s m args below meth c Q σ0 x) : WK E p l e R s m args below meth c Q σ0 (pc, L, st, σ) := by
  unfold zUn at h
  split at h
  · cases h
    intro ls H locs cells slots h1 h2 h3 h4 h5
    exact lv_i2b A.1 A.2.1 hd rfl (k ls H locs cells slots h1 h2 h3 h4 h5)
  · cases h
theorem sn_i2c (A : Act E K p R s m args meth c mm d) {pc : Nat} {L : LV} {st : List Value} {σ : HP} {x : Cfg} (hd : decode (zb mm) pc = .ok (.i2c, 1)) (w : WF mm (pc, L, st, σ)) (h : zUn (fun x => (x.toUInt32 % 65536).toInt32) pc L st σ = some (.inr x)) (hr : Rm R σ0 x.2.2.2) (k : WK E p l e R s m args below meth c Q σ0 x) : WK E p l e R s m args below meth c Q σ0 (pc, L, st, σ) := by
  unfold zUn at h
  split at h
  · cases h
    intro ls H locs cells slots h1 h2 h3 h4 h5
    exact lv_i2c A.1 A.2.1 hd rfl (k ls H locs cells slots h1 h2 h3 h4 h5)
  · cases h
theorem sn_ladd (A : Act E K p R s m args meth c mm d) {pc : Nat} {L : LV} {st : List Value} {σ : HP} {x : Cfg} (hd : decode (zb mm) pc = .ok (.ladd, 1)) (w : WF mm (pc, L, st, σ)) (h : zBinL (fun x y => x + y) pc L st σ = some (.inr x)) (hr : Rm R σ0 x.2.2.2) (k : WK E p l e R s m args below meth c Q σ0 x) : WK E p l e R s m args below meth c Q σ0 (pc, L, st, σ) := by
  unfold zBinL at h
  split at h
  · cases h
    intro ls H locs cells slots h1 h2 h3 h4 h5
    exact lv_ladd A.1 A.2.1 hd (k ls H locs cells slots h1 h2 h3 h4 h5)
  · cases h
theorem sn_lmul (A : Act E K p R s m args meth c mm d) {pc : Nat} {L : LV} {st : List Value} {σ : HP} {x : Cfg} (hd : decode (zb mm) pc = .ok (.lmul, 1)) (w : WF mm (pc, L, st, σ)) (h : zBinL (fun x y => x * y) pc L st σ = some (.inr x)) (hr : Rm R σ0 x.2.2.2) (k : WK E p l e R s m args below meth c Q σ0 x) : WK E p l e R s m args below meth c Q σ0 (pc, L, st, σ) := by
  unfold zBinL at h
  split at h
  · cases h
    intro ls H locs cells slots h1 h2 h3 h4 h5
    exact lv_lmul A.1 A.2.1 hd (k ls H locs cells slots h1 h2 h3 h4 h5)
  · cases h
theorem sn_ldiv (A : Act E K p R s m args meth c mm d) {pc : Nat} {L : LV} {st : List Value} {σ : HP} {x : Cfg} (hd : decode (zb mm) pc = .ok (.ldiv, 1)) (w : WF mm (pc, L, st, σ)) (h : zDivL (fun x y => x / y) pc L st σ = some (.inr x)) (hr : Rm R σ0 x.2.2.2) (k : WK E p l e R s m args below meth c Q σ0 x) : WK E p l e R s m args below meth c Q σ0 (pc, L, st, σ) := by
  unfold zDivL at h
  split at h
  · split at h
    · cases h
    · next hc =>
      cases h
      intro ls H locs cells slots h1 h2 h3 h4 h5
      exact lv_ldiv A.1 A.2.1 hd hc (k ls H locs cells slots h1 h2 h3 h4 h5)
  · cases h
theorem sn_lrem (A : Act E K p R s m args meth c mm d) {pc : Nat} {L : LV} {st : List Value} {σ : HP} {x : Cfg} (hd : decode (zb mm) pc = .ok (.lrem, 1)) (w : WF mm (pc, L, st, σ)) (h : zDivL (fun x y => x - x / y * y) pc L st σ = some (.inr x)) (hr : Rm R σ0 x.2.2.2) (k : WK E p l e R s m args below meth c Q σ0 x) : WK E p l e R s m args below meth c Q σ0 (pc, L, st, σ) := by
  unfold zDivL at h
  split at h
  · split at h
    · cases h
    · next hc =>
      cases h
      intro ls H locs cells slots h1 h2 h3 h4 h5
      exact lv_lrem A.1 A.2.1 hd hc (k ls H locs cells slots h1 h2 h3 h4 h5)
  · cases h
theorem sn_lshl (A : Act E K p R s m args meth c mm d) {pc : Nat} {L : LV} {st : List Value} {σ : HP} {x : Cfg} (hd : decode (zb mm) pc = .ok (.lshl, 1)) (w : WF mm (pc, L, st, σ)) (h : zShlL pc L st σ = some (.inr x)) (hr : Rm R σ0 x.2.2.2) (k : WK E p l e R s m args below meth c Q σ0 x) : WK E p l e R s m args below meth c Q σ0 (pc, L, st, σ) := by
  unfold zShlL at h
  split at h
  · cases h
    intro ls H locs cells slots h1 h2 h3 h4 h5
    exact lv_lshl A.1 A.2.1 hd rfl (k ls H locs cells slots h1 h2 h3 h4 h5)
  · cases h
theorem sn_i2l (A : Act E K p R s m args meth c mm d) {pc : Nat} {L : LV} {st : List Value} {σ : HP} {x : Cfg} (hd : decode (zb mm) pc = .ok (.i2l, 1)) (w : WF mm (pc, L, st, σ)) (h : zI2l pc L st σ = some (.inr x)) (hr : Rm R σ0 x.2.2.2) (k : WK E p l e R s m args below meth c Q σ0 x) : WK E p l e R s m args below meth c Q σ0 (pc, L, st, σ) := by
  unfold zI2l at h
  split at h
  · cases h
    intro ls H locs cells slots h1 h2 h3 h4 h5
    exact lv_i2l A.1 A.2.1 hd rfl (k ls H locs cells slots h1 h2 h3 h4 h5)
  · cases h
theorem sn_lcmp (A : Act E K p R s m args meth c mm d) {pc : Nat} {L : LV} {st : List Value} {σ : HP} {x : Cfg} (hd : decode (zb mm) pc = .ok (.lcmp, 1)) (w : WF mm (pc, L, st, σ)) (h : zLcmp pc L st σ = some (.inr x)) (hr : Rm R σ0 x.2.2.2) (k : WK E p l e R s m args below meth c Q σ0 x) : WK E p l e R s m args below meth c Q σ0 (pc, L, st, σ) := by
  unfold zLcmp at h
  split at h
  · cases h
    intro ls H locs cells slots h1 h2 h3 h4 h5
    exact W.lcmp A.1 A.2.1 hd (k ls H locs cells slots h1 h2 h3 h4 h5)
  · cases h
theorem sn_dup (A : Act E K p R s m args meth c mm d) {pc : Nat} {L : LV} {st : List Value} {σ : HP} {x : Cfg} (hd : decode (zb mm) pc = .ok (.dup, 1)) (w : WF mm (pc, L, st, σ)) (h : zDup pc L st σ = some (.inr x)) (hr : Rm R σ0 x.2.2.2) (k : WK E p l e R s m args below meth c Q σ0 x) : WK E p l e R s m args below meth c Q σ0 (pc, L, st, σ) := by
  unfold zDup at h
  split at h
  · cases h
    intro ls H locs cells slots h1 h2 h3 h4 h5
    exact lv_dup A.1 A.2.1 hd rfl (k ls H locs cells slots h1 h2 h3 h4 h5)
  · cases h
    intro ls H locs cells slots h1 h2 h3 h4 h5
    exact lv_dup A.1 A.2.1 hd rfl (k ls H locs cells slots h1 h2 h3 h4 h5)
  · cases h
theorem sn_dup2 (A : Act E K p R s m args meth c mm d) {pc : Nat} {L : LV} {st : List Value} {σ : HP} {x : Cfg} (hd : decode (zb mm) pc = .ok (.dup2, 1)) (w : WF mm (pc, L, st, σ)) (h : zDup2 pc L st σ = some (.inr x)) (hr : Rm R σ0 x.2.2.2) (k : WK E p l e R s m args below meth c Q σ0 x) : WK E p l e R s m args below meth c Q σ0 (pc, L, st, σ) := by
  unfold zDup2 at h
  split at h
  · cases h
    intro ls H locs cells slots h1 h2 h3 h4 h5
    exact lv_dup2_11 A.1 A.2.1 hd rfl rfl (k ls H locs cells slots h1 h2 h3 h4 h5)
  · cases h
theorem sn_pop (A : Act E K p R s m args meth c mm d) {pc : Nat} {L : LV} {st : List Value} {σ : HP} {x : Cfg} (hd : decode (zb mm) pc = .ok (.pop, 1)) (w : WF mm (pc, L, st, σ)) (h : zPop pc L st σ = some (.inr x)) (hr : Rm R σ0 x.2.2.2) (k : WK E p l e R s m args below meth c Q σ0 x) : WK E p l e R s m args below meth c Q σ0 (pc, L, st, σ) := by
  unfold zPop at h
  split at h
  · cases h
    intro ls H locs cells slots h1 h2 h3 h4 h5
    exact lv_pop A.1 A.2.1 hd rfl (k ls H locs cells slots h1 h2 h3 h4 h5)
  · cases h
    intro ls H locs cells slots h1 h2 h3 h4 h5
    exact lv_pop A.1 A.2.1 hd rfl (k ls H locs cells slots h1 h2 h3 h4 h5)
  · cases h
theorem jmp_eq {pc : Nat} {off : Int} {L : LV} {st : List Value} {σ : HP} {x : Cfg} (h : jmp pc off L st σ = some (.inr x)) : ∃ t : Nat, (pc : Int) + off = (t : Int) ∧ x = (t, L, st, σ) := by
  unfold jmp at h
  split at h
  · next hc => cases h; exact ⟨_, (Int.toNat_of_nonneg hc).symm, rfl⟩
  · cases h
theorem sn_goto (A : Act E K p R s m args meth c mm d) {off : Int} {pc : Nat} {L : LV} {st : List Value} {σ : HP} {x : Cfg} (hd : decode (zb mm) pc = .ok (.goto off, 3)) (w : WF mm (pc, L, st, σ)) (h : jmp pc off L st σ = some (.inr x)) (hr : Rm R σ0 x.2.2.2) (k : WK E p l e R s m args below meth c Q σ0 x) : WK E p l e R s m args below meth c Q σ0 (pc, L, st, σ) := by
  obtain ⟨t, ht, rfl⟩ := jmp_eq h
  intro ls H locs cells slots h1 h2 h3 h4 h5
  exact lv_goto A.1 A.2.1 hd ht (k ls H locs cells slots h1 h2 h3 h4 h5)
theorem sn_icmp_eq (A : Act E K p R s m args meth c mm d) {off : Int} {pc : Nat} {L : LV} {st : List Value} {σ : HP} {x : Cfg} (hd : decode (zb mm) pc = .ok (.if_icmp .eq off, 3)) (w : WF mm (pc, L, st, σ)) (h : zCmp (fun x y => decide (x = y)) off pc L st σ = some (.inr x)) (hr : Rm R σ0 x.2.2.2) (k : WK E p l e R s m args below meth c Q σ0 x) : WK E p l e R s m args below meth c Q σ0 (pc, L, st, σ) := by
  unfold zCmp at h
  split at h
  · unfold br at h
    split at h
    · next ht0 =>
      have ht : (pc : Int) + off = ((((pc : Int) + off).toNat : Nat) : Int) := (Int.toNat_of_nonneg ht0).symm
      split at h
      · next hc =>
        cases h
        intro ls H locs cells slots h1 h2 h3 h4 h5
        exact lv_icmp_eq A.1 A.2.1 hd ht (fun _ => (k ls H locs cells slots h1 h2 h3 h4 h5)) (fun z => absurd (of_decide_eq_true hc) z)
      · next hc =>
        cases h
        intro ls H locs cells slots h1 h2 h3 h4 h5
        have hc' := of_decide_eq_false hc
        exact lv_icmp_eq A.1 A.2.1 hd ht (fun z => absurd z hc') (fun _ => (k ls H locs cells slots h1 h2 h3 h4 h5))
    · cases h
  · cases h
theorem sn_if_eq (A : Act E K p R s m args meth c mm d) {off : Int} {pc : Nat} {L : LV} {st : List Value} {σ : HP} {x : Cfg} (hd : decode (zb mm) pc = .ok (.ifCond .eq off, 3)) (w : WF mm (pc, L, st, σ)) (h : zIf (fun x => decide (x = 0)) off pc L st σ = some (.inr x)) (hr : Rm R σ0 x.2.2.2) (k : WK E p l e R s m args below meth c Q σ0 x) : WK E p l e R s m args below meth c Q σ0 (pc, L, st, σ) := by
  unfold zIf at h
  split at h
  · unfold br at h
    split at h
    · next ht0 =>
      have ht : (pc : Int) + off = ((((pc : Int) + off).toNat : Nat) : Int) := (Int.toNat_of_nonneg ht0).symm
      split at h
      · next hc =>
        cases h
        intro ls H locs cells slots h1 h2 h3 h4 h5
        exact lv_if_eq A.1 A.2.1 hd ht (fun _ => (k ls H locs cells slots h1 h2 h3 h4 h5)) (fun z => absurd (of_decide_eq_true hc) z)
      · next hc =>
        cases h
        intro ls H locs cells slots h1 h2 h3 h4 h5
        have hc' := of_decide_eq_false hc
        exact lv_if_eq A.1 A.2.1 hd ht (fun z => absurd z hc') (fun _ => (k ls H locs cells slots h1 h2 h3 h4 h5))
    · cases h
  · cases h
theorem sn_icmp_ne (A : Act E K p R s m args meth c mm d) {off : Int} {pc : Nat} {L : LV} {st : List Value} {σ : HP} {x : Cfg} (hd : decode (zb mm) pc = .ok (.if_icmp .ne off, 3)) (w : WF mm (pc, L, st, σ)) (h : zCmp (fun x y => decide (¬ x = y)) off pc L st σ = some (.inr x)) (hr : Rm R σ0 x.2.2.2) (k : WK E p l e R s m args below meth c Q σ0 x) : WK E p l e R s m args below meth c Q σ0 (pc, L, st, σ) := by
  unfold zCmp at h
  split at h
  · unfold br at h
    split at h
    · next ht0 =>
      have ht : (pc : Int) + off = ((((pc : Int) + off).toNat : Nat) : Int) := (Int.toNat_of_nonneg ht0).symm
      split at h
      · next hc =>
        cases h
        intro ls H locs cells slots h1 h2 h3 h4 h5
        exact lv_icmp_ne A.1 A.2.1 hd ht (fun _ => (k ls H locs cells slots h1 h2 h3 h4 h5)) (fun z => absurd z (of_decide_eq_true hc))
      · next hc =>
        cases h
        intro ls H locs cells slots h1 h2 h3 h4 h5
        have hc' := of_decide_eq_false hc
        exact lv_icmp_ne A.1 A.2.1 hd ht (fun z => absurd z hc') (fun _ => (k ls H locs cells slots h1 h2 h3 h4 h5))
    · cases h
  · cases h
theorem sn_if_ne (A : Act E K p R s m args meth c mm d) {off : Int} {pc : Nat} {L : LV} {st : List Value} {σ : HP} {x : Cfg} (hd : decode (zb mm) pc = .ok (.ifCond .ne off, 3)) (w : WF mm (pc, L, st, σ)) (h : zIf (fun x => decide (¬ x = 0)) off pc L st σ = some (.inr x)) (hr : Rm R σ0 x.2.2.2) (k : WK E p l e R s m args below meth c Q σ0 x) : WK E p l e R s m args below meth c Q σ0 (pc, L, st, σ) := by
  unfold zIf at h
  split at h
  · unfold br at h
    split at h
    · next ht0 =>
      have ht : (pc : Int) + off = ((((pc : Int) + off).toNat : Nat) : Int) := (Int.toNat_of_nonneg ht0).symm
      split at h
      · next hc =>
        cases h
        intro ls H locs cells slots h1 h2 h3 h4 h5
        exact lv_if_ne A.1 A.2.1 hd ht (fun _ => (k ls H locs cells slots h1 h2 h3 h4 h5)) (fun z => absurd z (of_decide_eq_true hc))
      · next hc =>
        cases h
        intro ls H locs cells slots h1 h2 h3 h4 h5
        have hc' := of_decide_eq_false hc
        exact lv_if_ne A.1 A.2.1 hd ht (fun z => absurd z hc') (fun _ => (k ls H locs cells slots h1 h2 h3 h4 h5))
    · cases h
  · cases h
theorem sn_icmp_lt (A : Act E K p R s m args meth c mm d) {off : Int} {pc : Nat} {L : LV} {st : List Value} {σ : HP} {x : Cfg} (hd : decode (zb mm) pc = .ok (.if_icmp .lt off, 3)) (w : WF mm (pc, L, st, σ)) (h : zCmp (fun x y => decide (x < y)) off pc L st σ = some (.inr x)) (hr : Rm R σ0 x.2.2.2) (k : WK E p l e R s m args below meth c Q σ0 x) : WK E p l e R s m args below meth c Q σ0 (pc, L, st, σ) := by
  unfold zCmp at h
  split at h
  · unfold br at h
    split at h
    · next ht0 =>
      have ht : (pc : Int) + off = ((((pc : Int) + off).toNat : Nat) : Int) := (Int.toNat_of_nonneg ht0).symm
      split at h
      · next hc =>
        cases h
        intro ls H locs cells slots h1 h2 h3 h4 h5
        exact lv_icmp_lt A.1 A.2.1 hd ht (fun _ => (k ls H locs cells slots h1 h2 h3 h4 h5)) (fun z => absurd (of_decide_eq_true hc) z)
      · next hc =>
        cases h
        intro ls H locs cells slots h1 h2 h3 h4 h5
        have hc' := of_decide_eq_false hc
        exact lv_icmp_lt A.1 A.2.1 hd ht (fun z => absurd z hc') (fun _ => (k ls H locs cells slots h1 h2 h3 h4 h5))
    · cases h
  · cases h
theorem sn_if_lt (A : Act E K p R s m args meth c mm d) {off : Int} {pc : Nat} {L : LV} {st : List Value} {σ : HP} {x : Cfg} (hd : decode (zb mm) pc = .ok (.ifCond .lt off, 3)) (w : WF mm (pc, L, st, σ)) (h : zIf (fun x => decide (x < 0)) off pc L st σ = some (.inr x)) (hr : Rm R σ0 x.2.2.2) (k : WK E p l e R s m args below meth c Q σ0 x) : WK E p l e R s m args below meth c Q σ0 (pc, L, st, σ) := by
  unfold zIf at h
  split at h
  · unfold br at h
    split at h
    · next ht0 =>
      have ht : (pc : Int) + off = ((((pc : Int) + off).toNat : Nat) : Int) := (Int.toNat_of_nonneg ht0).symm
      split at h
      · next hc =>
        cases h
        intro ls H locs cells slots h1 h2 h3 h4 h5
        exact lv_if_lt A.1 A.2.1 hd ht (fun _ => (k ls H locs cells slots h1 h2 h3 h4 h5)) (fun z => absurd (of_decide_eq_true hc) z)
      · next hc =>
        cases h
        intro ls H locs cells slots h1 h2 h3 h4 h5
        have hc' := of_decide_eq_false hc
        exact lv_if_lt A.1 A.2.1 hd ht (fun z => absurd z hc') (fun _ => (k ls H locs cells slots h1 h2 h3 h4 h5))
    · cases h
  · cases h
theorem sn_icmp_ge (A : Act E K p R s m args meth c mm d) {off : Int} {pc : Nat} {L : LV} {st : List Value} {σ : HP} {x : Cfg} (hd : decode (zb mm) pc = .ok (.if_icmp .ge off, 3)) (w : WF mm (pc, L, st, σ)) (h : zCmp (fun x y => decide (y ≤ x)) off pc L st σ = some (.inr x)) (hr : Rm R σ0 x.2.2.2) (k : WK E p l e R s m args below meth c Q σ0 x) : WK E p l e R s m args below meth c Q σ0 (pc, L, st, σ) := by
  unfold zCmp at h
  split at h
  · unfold br at h
    split at h
    · next ht0 =>
      have ht : (pc : Int) + off = ((((pc : Int) + off).toNat : Nat) : Int) := (Int.toNat_of_nonneg ht0).symm
      split at h
      · next hc =>
        cases h
        intro ls H locs cells slots h1 h2 h3 h4 h5
        exact lv_icmp_ge A.1 A.2.1 hd ht (fun _ => (k ls H locs cells slots h1 h2 h3 h4 h5)) (fun z => absurd (of_decide_eq_true hc) z)
      · next hc =>
        cases h
        intro ls H locs cells slots h1 h2 h3 h4 h5
        have hc' := of_decide_eq_false hc
        exact lv_icmp_ge A.1 A.2.1 hd ht (fun z => absurd z hc') (fun _ => (k ls H locs cells slots h1 h2 h3 h4 h5))
    · cases h
  · cases h
theorem sn_if_ge (A : Act E K p R s m args meth c mm d) {off : Int} {pc : Nat} {L : LV} {st : List Value} {σ : HP} {x : Cfg} (hd : decode (zb mm) pc = .ok (.ifCond .ge off, 3)) (w : WF mm (pc, L, st, σ)) (h : zIf (fun x => decide (0 ≤ x)) off pc L st σ = some (.inr x)) (hr : Rm R σ0 x.2.2.2) (k : WK E p l e R s m args below meth c Q σ0 x) : WK E p l e R s m args below meth c Q σ0 (pc, L, st, σ) := by
  unfold zIf at h
  split at h
  · unfold br at h
    split at h
    · next ht0 =>
      have ht : (pc : Int) + off = ((((pc : Int) + off).toNat : Nat) : Int) := (Int.toNat_of_nonneg ht0).symm
      split at h
      · next hc =>
        cases h
        intro ls H locs cells slots h1 h2 h3 h4 h5
        exact lv_if_ge A.1 A.2.1 hd ht (fun _ => (k ls H locs cells slots h1 h2 h3 h4 h5)) (fun z => absurd (of_decide_eq_true hc) z)
      · next hc =>
        cases h
        intro ls H locs cells slots h1 h2 h3 h4 h5
        have hc' := of_decide_eq_false hc
        exact lv_if_ge A.1 A.2.1 hd ht (fun z => absurd z hc') (fun _ => (k ls H locs cells slots h1 h2 h3 h4 h5))
    · cases h
  · cases h
theorem sn_icmp_gt (A : Act E K p R s m args meth c mm d) {off : Int} {pc : Nat} {L : LV} {st : List Value} {σ : HP} {x : Cfg} (hd : decode (zb mm) pc = .ok (.if_icmp .gt off, 3)) (w : WF mm (pc, L, st, σ)) (h : zCmp (fun x y => decide (y < x)) off pc L st σ = some (.inr x)) (hr : Rm R σ0 x.2.2.2) (k : WK E p l e R s m args below meth c Q σ0 x) : WK E p l e R s m args below meth c Q σ0 (pc, L, st, σ) := by
  unfold zCmp at h
  split at h
  · unfold br at h
    split at h
    · next ht0 =>
      have ht : (pc : Int) + off = ((((pc : Int) + off).toNat : Nat) : Int) := (Int.toNat_of_nonneg ht0).symm
      split at h
      · next hc =>
        cases h
        intro ls H locs cells slots h1 h2 h3 h4 h5
        exact lv_icmp_gt A.1 A.2.1 hd ht (fun _ => (k ls H locs cells slots h1 h2 h3 h4 h5)) (fun z => absurd (of_decide_eq_true hc) z)
      · next hc =>
        cases h
        intro ls H locs cells slots h1 h2 h3 h4 h5
        have hc' := of_decide_eq_false hc
        exact lv_icmp_gt A.1 A.2.1 hd ht (fun z => absurd z hc') (fun _ => (k ls H locs cells slots h1 h2 h3 h4 h5))
    · cases h
  · cases h
theorem sn_if_gt (A : Act E K p R s m args meth c mm d) {off : Int} {pc : Nat} {L : LV} {st : List Value} {σ : HP} {x : Cfg} (hd : decode (zb mm) pc = .ok (.ifCond .gt off, 3)) (w : WF mm (pc, L, st, σ)) (h : zIf (fun x => decide (0 < x)) off pc L st σ = some (.inr x)) (hr : Rm R σ0 x.2.2.2) (k : WK E p l e R s m args below meth c Q σ0 x) : WK E p l e R s m args below meth c Q σ0 (pc, L, st, σ) := by
  unfold zIf at h
  split at h
  · unfold br at h
    split at h
    · next ht0 =>
      have ht : (pc : Int) + off = ((((pc : Int) + off).toNat : Nat) : Int) := (Int.toNat_of_nonneg ht0).symm
      split at h
      · next hc =>
        cases h
        intro ls H locs cells slots h1 h2 h3 h4 h5
        exact lv_if_gt A.1 A.2.1 hd ht (fun _ => (k ls H locs cells slots h1 h2 h3 h4 h5)) (fun z => absurd (of_decide_eq_true hc) z)
      · next hc =>
        cases h
        intro ls H locs cells slots h1 h2 h3 h4 h5
        have hc' := of_decide_eq_false hc
        exact lv_if_gt A.1 A.2.1 hd ht (fun z => absurd z hc') (fun _ => (k ls H locs cells slots h1 h2 h3 h4 h5))
    · cases h
  · cases h
theorem sn_icmp_le (A : Act E K p R s m args meth c mm d) {off : Int} {pc : Nat} {L : LV} {st : List Value} {σ : HP} {x : Cfg} (hd : decode (zb mm) pc = .ok (.if_icmp .le off, 3)) (w : WF mm (pc, L, st, σ)) (h : zCmp (fun x y => decide (x ≤ y)) off pc L st σ = some (.inr x)) (hr : Rm R σ0 x.2.2.2) (k : WK E p l e R s m args below meth c Q σ0 x) : WK E p l e R s m args below meth c Q σ0 (pc, L, st, σ) := by
  unfold zCmp at h
  split at h
  · unfold br at h
    split at h
    · next ht0 =>
      have ht : (pc : Int) + off = ((((pc : Int) + off).toNat : Nat) : Int) := (Int.toNat_of_nonneg ht0).symm
      split at h
      · next hc =>
        cases h
        intro ls H locs cells slots h1 h2 h3 h4 h5
        exact lv_icmp_le A.1 A.2.1 hd ht (fun _ => (k ls H locs cells slots h1 h2 h3 h4 h5)) (fun z => absurd (of_decide_eq_true hc) z)
      · next hc =>
        cases h
        intro ls H locs cells slots h1 h2 h3 h4 h5
        have hc' := of_decide_eq_false hc
        exact lv_icmp_le A.1 A.2.1 hd ht (fun z => absurd z hc') (fun _ => (k ls H locs cells slots h1 h2 h3 h4 h5))
    · cases h
  · cases h
theorem sn_if_le (A : Act E K p R s m args meth c mm d) {off : Int} {pc : Nat} {L : LV} {st : List Value} {σ : HP} {x : Cfg} (hd : decode (zb mm) pc = .ok (.ifCond .le off, 3)) (w : WF mm (pc, L, st, σ)) (h : zIf (fun x => decide (x ≤ 0)) off pc L st σ = some (.inr x)) (hr : Rm R σ0 x.2.2.2) (k : WK E p l e R s m args below meth c Q σ0 x) : WK E p l e R s m args below meth c Q σ0 (pc, L, st, σ) := by
  unfold zIf at h
  split at h
  · unfold br at h
    split at h
    · next ht0 =>
      have ht : (pc : Int) + off = ((((pc : Int) + off).toNat : Nat) : Int) := (Int.toNat_of_nonneg ht0).symm
      split at h
      · next hc =>
        cases h
        intro ls H locs cells slots h1 h2 h3 h4 h5
        exact lv_if_le A.1 A.2.1 hd ht (fun _ => (k ls H locs cells slots h1 h2 h3 h4 h5)) (fun z => absurd (of_decide_eq_true hc) z)
      · next hc =>
        cases h
        intro ls H locs cells slots h1 h2 h3 h4 h5
        have hc' := of_decide_eq_false hc
        exact lv_if_le A.1 A.2.1 hd ht (fun z => absurd z hc') (fun _ => (k ls H locs cells slots h1 h2 h3 h4 h5))
    · cases h
  · cases h
theorem sn_ifnull (A : Act E K p R s m args meth c mm d) {off : Int} {pc : Nat} {L : LV} {st : List Value} {σ : HP} {x : Cfg} (hd : decode (zb mm) pc = .ok (.ifnull off, 3)) (w : WF mm (pc, L, st, σ)) (h : zIfnull off pc L st σ = some (.inr x)) (hr : Rm R σ0 x.2.2.2) (k : WK E p l e R s m args below meth c Q σ0 x) : WK E p l e R s m args below meth c Q σ0 (pc, L, st, σ) := by
  unfold zIfnull at h
  split at h
  · cases h
    intro ls H locs cells slots h1 h2 h3 h4 h5
    exact lv_ifnull A.1 A.2.1 hd (k ls H locs cells slots h1 h2 h3 h4 h5)
  · obtain ⟨t, ht, rfl⟩ := jmp_eq h
    intro ls H locs cells slots h1 h2 h3 h4 h5
    exact lv_ifnullN A.1 A.2.1 hd ht (k ls H locs cells slots h1 h2 h3 h4 h5)
  · cases h
theorem sn_table (A : Act E K p R s m args meth c mm d) {d0 lo hi : Int} {offs : Array Int} {n pc : Nat} {L : LV} {st : List Value} {σ : HP} {x : Cfg} (hd : decode (zb mm) pc = .ok (.tableswitch d0 lo hi offs, n)) (w : WF mm (pc, L, st, σ)) (h : zTable d0 lo hi offs pc L st σ = some (.inr x)) (hr : Rm R σ0 x.2.2.2) (k : WK E p l e R s m args below meth c Q σ0 x) : WK E p l e R s m args below meth c Q σ0 (pc, L, st, σ) := by
  unfold zTable at h
  split at h
  · split at h
    · next hc =>
      obtain ⟨t, ht, rfl⟩ := jmp_eq h
      intro ls H locs cells slots h1 h2 h3 h4 h5
      exact lv_tableOut A.1 A.2.1 hd hc ht (k ls H locs cells slots h1 h2 h3 h4 h5)
    · next hc =>
      split at h
      · next off ho =>
        obtain ⟨t, ht, rfl⟩ := jmp_eq h
        intro ls H locs cells slots h1 h2 h3 h4 h5
        exact lv_tableIn A.1 A.2.1 hd (fun z => hc (Or.inl z)) (fun z => hc (Or.inr z)) ho ht (k ls H locs cells slots h1 h2 h3 h4 h5)
      · cases h
  · cases h
theorem sn_look (A : Act E K p R s m args meth c mm d) {d0 : Int} {ps : Array (Int × Int)} {n pc : Nat} {L : LV} {st : List Value} {σ : HP} {x : Cfg} (hd : decode (zb mm) pc = .ok (.lookupswitch d0 ps, n)) (w : WF mm (pc, L, st, σ)) (h : zLook d0 ps pc L st σ = some (.inr x)) (hr : Rm R σ0 x.2.2.2) (k : WK E p l e R s m args below meth c Q σ0 x) : WK E p l e R s m args below meth c Q σ0 (pc, L, st, σ) := by
  unfold zLook at h
  split at h
  · split at h
    · next hc =>
      obtain ⟨t, ht, rfl⟩ := jmp_eq h
      intro ls H locs cells slots h1 h2 h3 h4 h5
      exact lv_lookup A.1 A.2.1 hd hc rfl ht (k ls H locs cells slots h1 h2 h3 h4 h5)
    · cases h
  · cases h
end Snd
